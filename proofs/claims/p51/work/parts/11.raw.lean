/-! CONSTRUCTORS: the cells that one makes, from its own object's place on, as a list. -/
def RP (D : va_G) (B : Nat) (Y : List va_E) (H : Heap) : Prop := H.size = B + Y.length ∧ ∀ (j : Nat) (e : va_E), Y[j]? = some e → va_at D vwCl (B + j, e) H
def RPK (D : va_G) (ct : Nat → ClassId) (B : Nat) (Y : List va_E) (U : State) : Prop := RP D B Y U.heap ∧ va_K D vwCl (tY ct) U ∧ NWs U
theorem RP_up {D : va_G} {B : Nat} {Y : List va_E} {k : Nat} {e : va_E} {H H1 : Heap} (hP : RP D B Y H) (z : H1.size = H.size) (oq : ∀ q : Nat, q ≠ B + k → H1[q]? = H[q]?) (hk : va_at D vwCl (B + k, e) H1) : RP D B (Y.set k e) H1 := by
  refine ⟨by rw [z, List.length_set]; exact hP.1, fun j e' he => ?_⟩
  by_cases h : j = k
  · subst h
    have hl : j < Y.length := by
      rcases Nat.lt_or_ge j Y.length with q | q
      · exact q
      · rw [List.getElem?_eq_none (by rw [List.length_set]; exact q)] at he; cases he
    rw [List.getElem?_set_self hl] at he
    cases he
    exact hk
  · rw [List.getElem?_set_ne (Ne.symm h)] at he
    exact (hP.2 j e' he).kept (oq _ (fun q => h (Nat.add_left_cancel q)))
theorem RP_push {D : va_G} {B : Nat} {Y Z : List va_E} {H H1 : Heap} (hP : RP D B Y H) (z : H1.size = H.size + Z.length) (oq : ∀ q : Nat, q < H.size → H1[q]? = H[q]?) (hk : ∀ (j : Nat) (e : va_E), Z[j]? = some e → va_at D vwCl (B + (Y.length + j), e) H1) : RP D B (Y ++ Z) H1 := by
  refine ⟨by rw [z, List.length_append, hP.1]; omega, fun j e' he => ?_⟩
  by_cases h : j < Y.length
  · rw [List.getElem?_append_left h] at he
    exact (hP.2 j e' he).kept (oq _ (by rw [hP.1]; omega))
  · rw [List.getElem?_append_right (by omega)] at he
    have h2 := hk (j - Y.length) e' he
    rw [show Y.length + (j - Y.length) = j by omega] at h2
    exact h2
section XRAW
variable {p : Program} {l : Launch} {e : Env} {R : Room} {s : State} {m : MethodId} {args : Array Value} {below : List Frame} {meth : Method} {c : Code} {H : Heap} {locs : List Loc} {cells slots : Nat} {Q : State → Prop}
variable {cc : ByteArray} {pc nL : Nat} {ret : Option FieldType} {own : String} {ls : Array Slot} {rest : List Value} {D : va_G} {ct : Nat → ClassId} {B : Nat} {Y : List va_E} {H0 : Heap}
theorem AB_put {b k : Nat} {j : Nat} {H1 : Heap} (hS : va_S (AB b) H0 H locs) (z : H1.size = H.size) (oq : ∀ q : Nat, q ≠ b + k → H1[q]? = H[q]?) : va_S (AB b) H0 H1 (locs ++ [⟨b + k, j⟩]) := hS.put z oq (show b ≤ b + k from Nat.le_add_right _ _)
theorem AB_new {b : Nat} {H1 : Heap} (hS : va_S (AB b) H0 H locs) (z : H.size ≤ H1.size) (oq : ∀ q : Nat, q < H.size → H1[q]? = H[q]?) : va_S (AB b) H0 H1 locs := ⟨Nat.le_trans hS.1 z, fun x h1 h2 => (oq x (Nat.lt_of_lt_of_le h1 hS.1)).trans (hS.2.1 x h1 h2), hS.2.2⟩
theorem y_get (C0 : XC D ct p s m args meth c cc nL ret own) (hP : RP D B Y H) {k ci : Nat} {fs : List Value} (he : Y[k]? = some (.inr (ci, fs))) {C : String} {T : u_T} {N : Nat} (hc : vwCl[ci]? = some (C, T, N)) (hin : ∀ w ∈ u_ws C T N, w ∈ tG) (j : Nat) (hj : j < N) {index : Nat} (hlink : Cond.fieldLink own index (T j).1 (T j).2.1 (T j).2.2.1 ∈ tG) {v : Value} (hv : fs[j]? = some v) (hdg : decode cc pc = .ok (.getfield index, 3))
    (kk : W p l e R s m args below meth c H locs cells slots Q (F0 m (pc + 3) ls (v :: rest))) : W p l e R s m args below meth c H locs cells slots Q (F0 m pc ls (.ref (B + k) :: rest)) := by
  obtain ⟨hx, hb, hr, hml, hown, hts, hK, hlocks, hN⟩ := C0
  exact va_get (ws := [(B + k, .inr (ci, fs))]) hx hb hts hin hown hK (fun j q hq => by
    cases j with
    | zero => cases hq; exact hP.2 k _ he
    | succ j => cases hq) 0 rfl hc j hj (hts _ hlink) (fun _ h => h) hv hdg kk
theorem y_put (C0 : XC D ct p s m args meth c cc nL ret own) (hP : RP D B Y H) (hS0 : va_S (AB B) H0 H locs) {k ci : Nat} {fs : List Value} (he : Y[k]? = some (.inr (ci, fs))) {C : String} {T : u_T} {N : Nat} (hc : vwCl[ci]? = some (C, T, N)) (hin : ∀ w ∈ u_ws C T N, w ∈ tG) (ty0 : Nat → FieldType) (hty : ∀ k, k < N → parseFieldDescriptor (T k).2.2.1 = some (ty0 k)) (hnm : ∀ a, a < N → ∀ b, b < N → a ≠ b → (T a).2.1 ≠ (T b).2.1)
    (j : Nat) (hj : j < N) {index : Nat} (hlink : Cond.fieldLink own index (T j).1 (T j).2.1 (T j).2.2.1 ∈ tG) (hfin : (T j).2.2.2 = false ∨ (meth.name = "<init>" ∧ (T j).1 = own)) {v : Value} (hn : narrow (ty0 j) v = v) (hfit : fits (ty0 j) v = true) (hl : j < fs.length)
    (hdg : decode cc pc = .ok (.putfield index, 3)) (kk : ∀ (H1 : Heap) (locs1 : List Loc), RP D B (Y.set k (.inr (ci, fs.set j v))) H1 → va_S (AB B) H0 H1 locs1 → W p l e R s m args below meth c H1 locs1 cells slots Q (F0 m (pc + 3) ls rest)) : W p l e R s m args below meth c H locs cells slots Q (F0 m pc ls (v :: .ref (B + k) :: rest)) := by
  obtain ⟨hx, hb, hr, hml, hown, hts, hK, hlocks, hN⟩ := C0
  have hap := va_apart (own := own) hts hin ty0 hty hnm hK hc
  obtain ⟨r, h1, cell, q1, q2, q3, q4⟩ := hP.2 k _ he
  have hr : r = (C, T, N) := Option.some.inj (h1.symm.trans hc)
  subst hr
  obtain ⟨hS, hfc, kC, hkC, hkind⟩ := hK.1 ci _ hc
  obtain ⟨cf, kf, fi, f, hi, hsl⟩ := hS j hj
  have hlay := hts _ (hin _ (u_in_lay hj))
  unfold u_lay at hlay
  have hst := (u_facts hfc hkC (u_lays hts hin hj) hi).1
  have fin : ∀ (H' : Heap), H'[B + k]? = some (cell.setSlot f.slot v) → H'.size = H.size → (∀ q, q ≠ B + k → H'[q]? = H[q]?) → W p l e R s m args below meth c H' (locs ++ [⟨B + k, f.slot⟩]) cells slots Q (F0 m (pc + 3) ls rest) := by
    intro H' e1 e2 e3
    rw [hsl] at e1 ⊢
    exact kk H' _ (RP_up hP e2 e3 ⟨_, hc, t_OB.to (V := updV (vp_V fs) j v) ⟨_, e1, q2, q3, t_set q4 hap hj v⟩ (fun i _ => vp_updV_set hl v i)⟩) (AB_put hS0 e2 e3)
  by_cases hf : (T j).2.2.2 = true
  · rw [if_pos hf] at hlay
    have hfin2 : meth.name = "<init>" ∧ (T j).1 = own := hfin.elim (fun h => by rw [hf] at h; cases h) id
    have hcf : m.cls = cf := by
      obtain ⟨_, _, c', _, _, _, -, -, hf', -, -, -, hown2, -⟩ := Cond.laysFinal_spec hlay
      have e1 : c' = cf := by have := hi.symm.trans hf'; simp at this; exact this.1.symm
      rw [hfin2.2] at hown2
      rw [← e1]; exact Option.some.inj (hown.symm.trans hown2)
    have h6 := u_fits hfc hkC hkind (Or.inr hlay) hi (hty j hj) hn hfit
    exact W.putFinK hx hb hown (hts _ hlink) hi hst hcf hfin2.1 (by rw [q2]; exact h6) q1 q3 (by rw [hsl]; exact k2_hasslot (q4 j hj)) rfl rfl hdg fin
  · rw [if_neg hf] at hlay
    have h6 := u_store hfc hkC hkind hlay hi (hty j hj) hn hfit
    exact W.putK hx hb (f := f) ⟨hown, hts _ hlink, ⟨_, _, _, hi⟩, hst⟩ (by rw [q2]; exact h6) q1 q3 (by rw [hsl]; exact k2_hasslot (q4 j hj)) rfl rfl hdg fin
theorem y_new (C0 : XC D ct p s m args meth c cc nL ret own) (hP : RP D B Y H) (hS0 : va_S (AB B) H0 H locs) {ci N index : Nat} {C : String} {T : u_T} (hc : vwCl[ci]? = some (C, T, N)) (hin : ∀ w ∈ u_ws C T N, w ∈ tG) (ty : Nat → FieldType) (hty : ∀ k, k < N → parseFieldDescriptor (T k).2.2.1 = some (ty k)) (hw : Cond.classLink own index C ∈ tG ∧ Cond.instantiable C N ∈ tG ∧ Cond.initialized C ∈ tG)
    {fs : List Value} (hfs : ∀ j, j < N → defaultValue (ty j) = vp_V fs j) (hcells : cells + 1 ≤ R.cells) (hslots : slots + N ≤ R.slots) {n : Nat} (hn : Y.length = n) (hdg : decode cc pc = .ok (.new index, 3))
    (kk : ∀ (H1 : Heap), RP D B (Y ++ [.inr (ci, fs)]) H1 → va_S (AB B) H0 H1 locs → W p l e R s m args below meth c H1 locs (cells + 1) (slots + N) Q (F0 m (pc + 3) ls (.ref (B + n) :: rest))) : W p l e R s m args below meth c H locs cells slots Q (F0 m pc ls rest) := by
  obtain ⟨hx, hb, hr, hml, hown, hts, hK, hlocks, hN⟩ := C0
  have hKn := hK.1 ci _ hc
  refine W.newcK hx hb hown (hts _ hw.1) (hts _ hw.2.1) (hts _ hw.2.2) rfl hdg hcells hslots hKn.2.1 (hP.1.trans (by rw [hn])) fun H1 kC hkC e1 z1 o1 => ?_
  rw [← hn, ← hP.1] at e1 z1 o1
  refine kk H1 (RP_push hP z1 o1 (fun j e' he => ?_)) (AB_new hS0 (by omega) o1)
  have hz : j < 1 := (List.getElem?_eq_some_iff.mp he).1
  have hj0 : j = 0 := by omega
  subst hj0
  cases he
  refine ⟨_, hc, (u_born ty hts hin hKn hkC (show H1[B + (Y.length + 0)]? = _ from ?_) hty).to hfs⟩
  rw [show B + (Y.length + 0) = H.size from hP.1.symm]
  exact e1
theorem y_newa (C0 : XC D ct p s m args meth c cc nL ret own) (hP : RP D B Y H) (hS0 : va_S (AB B) H0 H locs) {atype : ArrayType} {ty : FieldType} (hty : newarray.typeOf atype = ty) (hw : Cond.arrayClass ty ∈ tG) {q : Nat} (hq : (tY ct)[q]? = some (ct q, ty)) (hprim : ty = .int ∨ ty = .long ∨ ty = .boolean) {v : Int32} {N : Nat} {a0 : vp_A} (ha : ∀ cA : ClassId, vp_cell cA a0 = arrV cA N (fun _ => defaultValue ty)) (hv : ¬ v < 0) (hN : v.toNatClampNeg = N) (hbytes : N * componentBytes ty ≤ 536870912)
    (hcells : cells + 1 ≤ R.cells) (hslots : slots + N ≤ R.slots) {n : Nat} (hn : Y.length = n) (hdg : decode cc pc = .ok (.newarray atype, 2))
    (kk : ∀ (H1 : Heap), RP D B (Y ++ [.inl (ct q, a0)]) H1 → va_S (AB B) H0 H1 locs → W p l e R s m args below meth c H1 locs (cells + 1) (slots + N) Q (F0 m (pc + 2) ls (.ref (B + n) :: rest))) : W p l e R s m args below meth c H locs cells slots Q (F0 m pc ls (.int v :: rest)) := by
  obtain ⟨hx, hb, hr, hml, hown, hts, hK, hlocks, hNs⟩ := C0
  subst hty
  refine va_newaK hx hb (hts _ hw) rfl hdg rfl hv hN hbytes hcells hslots (hP.1.trans (by rw [hn])) fun H1 cA e1 z1 o1 hAr hNm => ?_
  rw [← hn, ← hP.1] at e1 z1 o1
  have hcA : cA = ct q := by
    have h2 := (hK.2 q _ hq).2
    have h3 : s.vm.findClass ("[" ++ (newarray.typeOf atype).toString) = some (ct q) := by rcases hprim with h | h | h <;> rw [h] at h2 ⊢ <;> exact h2
    exact Option.some.inj (hNm.symm.trans h3)
  subst hcA
  refine kk H1 (RP_push hP z1 o1 (fun j e' he => ?_)) (AB_new hS0 (by omega) o1)
  have hz : j < 1 := (List.getElem?_eq_some_iff.mp he).1
  have hj0 : j = 0 := by omega
  subst hj0
  cases he
  show H1[B + (Y.length + 0)]? = some (vp_cell _ _)
  rw [show B + (Y.length + 0) = H.size from hP.1.symm, ha]
  exact e1
theorem y_newq (C0 : XC D ct p s m args meth c cc nL ret own) (hP : RP D B Y H) (hS0 : va_S (AB B) H0 H locs) {C : String} {index : Nat} (hw : Cond.classLink own index C ∈ tG) (hO : va_AO C s) {q : Nat} (hq : (tY ct)[q]? = some (ct q, .object C)) {v : Int32} {N : Nat} (hv : ¬ v < 0) (hN : v.toNatClampNeg = N) (hbytes : N * 4 ≤ 536870912)
    (hcells : cells + 1 ≤ R.cells) (hslots : slots + N ≤ R.slots) {n : Nat} (hn : Y.length = n) (hdg : decode cc pc = .ok (.anewarray index, 3))
    (kk : ∀ (H1 : Heap), RP D B (Y ++ [.inl (ct q, N, .inr (.inr (.inr (.inr (fun _ => none)))))]) H1 → va_S (AB B) H0 H1 locs → W p l e R s m args below meth c H1 locs (cells + 1) (slots + N) Q (F0 m (pc + 3) ls (.ref (B + n) :: rest))) : W p l e R s m args below meth c H locs cells slots Q (F0 m pc ls (.int v :: rest)) := by
  obtain ⟨hx, hb, hr, hml, hown, hts, hK, hlocks, hNs⟩ := C0
  subst hN
  refine W.anew hx hb hown (hts _ hw) (va_AO.use hO) rfl hdg rfl hv hbytes hcells hslots fun cA kA comp f1 f2 f3 f4 => ?_
  generalize hH1 : H.push ({ cls := cA, slots := Array.replicate v.toNatClampNeg .null, vm := .none } : Cell) = H1
  have z1 : H1.size = H.size + 1 := by rw [← hH1, Array.size_push]
  have e1 : H1[H.size]? = some (arrV cA v.toNatClampNeg (fun _ => .null)) := by rw [← hH1, Array.getElem?_push_size, ← arrV_new]
  have o1 : ∀ q : Nat, q < H.size → H1[q]? = H[q]? := fun q hq => by rw [← hH1, Array.getElem?_push, if_neg (Nat.ne_of_lt hq)]
  obtain ⟨kA2, comp2, g1, g2, g3, g4⟩ := (hK.2 q _ hq).2
  have hcA : cA = ct q := Option.some.inj (f1.symm.trans g4)
  subst hcA
  rw [show H.size = B + n from hP.1.trans (by rw [hn])]
  refine kk H1 (RP_push hP z1 o1 (fun j e' he => ?_)) (AB_new hS0 (by omega) o1)
  have hz : j < 1 := (List.getElem?_eq_some_iff.mp he).1
  have hj0 : j = 0 := by omega
  subst hj0
  cases he
  show H1[B + (Y.length + 0)]? = some (vp_cell _ _)
  rw [show B + (Y.length + 0) = H.size from hP.1.symm, vp_cell_q]
  exact e1
theorem y_iast (C0 : XC D ct p s m args meth c cc nL ret own) (hP : RP D B Y H) (hS : va_S (AB B) H0 H locs) {k n : Nat} {f : Nat → Int32} (he : Y[k]? = some (.inl (ct 0, n, .inl f))) {i x : Int32} (hin : inb i n = true) (hdg : decode cc pc = .ok (.iastore, 1))
    (kk : ∀ (H1 : Heap) (locs1 : List Loc), RP D B (Y.set k (.inl (ct 0, n, .inl (upd f i.toNatClampNeg x)))) H1 → va_S (AB B) H0 H1 locs1 → W p l e R s m args below meth c H1 locs1 cells slots Q (F0 m (pc + 1) ls rest)) : W p l e R s m args below meth c H locs cells slots Q (F0 m pc ls (.int x :: .int i :: .ref (B + k) :: rest)) := by
  obtain ⟨hx, hb, hr, hml, hown, hts, hK, hlocks, hN⟩ := C0
  refine W.iast hx hb (hP.2 k _ he) ((hK.2 0 _ rfl).1 n (fun j => .int (f j))) (fun q => by cases q) (by show ¬ (i < 0 ∨ (arrV _ _ _).slots.size ≤ _); rw [arrV_size]; exact inb_in hin) rfl rfl hdg fun H1 e z oq => ?_
  refine kk H1 _ (RP_up hP z oq ?_) (AB_put hS z oq)
  show H1[B + k]? = some (vp_cell _ _)
  rw [e, vp_cell_i, vp_cell_i, arrV_store]
  congr 2
  funext q
  by_cases hq : q = i.toNatClampNeg
  · subst hq
    simp [updV, upd]
  · simp [updV, upd, hq]
/-- a[i] = an object of the very class of the row -/
theorem y_aast (C0 : XC D ct p s m args meth c cc nL ret own) (hP : RP D B Y H) (hS : va_S (AB B) H0 H locs) {k n q t0 ci : Nat} {C : String} {T : u_T} {N : Nat} {f : Nat → Option Nat} {vs : List Value} (he : Y[k]? = some (.inl (ct t0, n, .inr (.inr (.inr (.inr f)))))) (hq : Y[q]? = some (.inr (ci, vs))) (hc : vwCl[ci]? = some (C, T, N)) (ht : (tY ct)[t0]? = some (ct t0, .object C)) {i : Int32} (hin : inb i n = true) (hdg : decode cc pc = .ok (.aastore, 1))
    (kk : ∀ (H1 : Heap) (locs1 : List Loc), RP D B (Y.set k (.inl (ct t0, n, .inr (.inr (.inr (.inr (va_up f i.toNatClampNeg (some (B + q))))))))) H1 → va_S (AB B) H0 H1 locs1 → W p l e R s m args below meth c H1 locs1 cells slots Q (F0 m (pc + 1) ls rest)) : W p l e R s m args below meth c H locs cells slots Q (F0 m pc ls (.ref (B + q) :: .int i :: .ref (B + k) :: rest)) := by
  obtain ⟨hx, hb, hr, hml, hown, hts, hK, hlocks, hN⟩ := C0
  have hlt := inb_lt hin
  have h0 : ¬ i < 0 := fun q => inb_in hin (Or.inl q)
  obtain ⟨r', hr', cellV, g1, g2, g3, -⟩ := hP.2 q _ hq
  have hcls := (hK.1 ci _ hc).2
  obtain ⟨kA, comp, k1, k2, k3, -⟩ := (hK.2 t0 _ ht).2
  have hcomp : comp = D.1 ci := Option.some.inj (k3.symm.trans hcls.1)
  subst hcomp
  obtain ⟨kC, hkC, -⟩ := hcls.2
  refine W.aast hx hb (hP.2 k _ he) (fun q h => by cases h) (fun h => by cases h) k1 k2 rfl hkC ⟨h0, by show _ < (arrV _ _ _).slots.size; rw [arrV_size]; exact hlt⟩ g1 (fun q h => by rw [g3] at h; cases h) (by rw [g2]; exact hkC) (by rw [g2]; exact va_assign hcls) rfl rfl hdg fun H1 e z oq => ?_
  refine kk H1 _ (RP_up hP z oq ?_) (AB_put hS z oq)
  show H1[B + k]? = some (vp_cell _ _)
  rw [e]
  rw [vp_cell_q, vp_cell_q, arrV_store]
  congr 2
  funext q
  by_cases hq : q = i.toNatClampNeg
  · subst hq
    simp [updV, va_up, va_rf]
  · simp [updV, va_up, hq]
theorem rpk_blind {av : List Value} : FrameBlind (va_Pc av (RPK D ct B Y)) := fun a U g mk q => ⟨q.1, q.2.1, va_K.moved (u := U) (U := U.calling g mk a) (Vm.Alike.refl U.vm) q.2.2.1, NWs.same (u := U) (U := U.calling g mk a) rfl q.2.2.2⟩
/-- a call of a constructor upon the newest cell: it makes cells behind it -/
theorem y_ctor (C0 : XC D ct p s m args meth c cc nL ret own) {y : MethodName} {bytes : ByteArray} {maxL fr lo n index mc ms k : Nat} {As st : List Value} {Y1 Y2 : List va_E} {b0 : va_E}
    (hM : Met l y (Cond.code y bytes maxL none :: tG) { frames := fr, cells := mc, slots := ms, locals := lo } (va_Pc (.ref (B + k) :: As) (RPK D ct (B + k) [b0])) (va_Qv (fun (_ : Unit) => True) (fun _ t => RPK D ct (B + k) Y2 t) (AB (B + k))) mc ms (AB (B + k)))
    (hw : Cond.code y bytes maxL none ∈ tG ∧ Cond.methodLink own index y ∈ tG ∧ Cond.instanceMethod y ∈ tG ∧ Cond.initialized y.cls ∈ tG)
    (hd : y.name = "<init>" ∧ y.cls ≠ "java/lang/invoke/MethodHandle" ∧ y.cls ≠ "java/lang/invoke/VarHandle" ∧ (parseMethodDescriptor y.desc).map (fun d => d.parameters.length) = some n) (hR : fr + 1 ≤ R.frames ∧ 8 + (maxL + 11) + lo ≤ R.locals)
    (hP : RP D B (Y1 ++ [b0]) H) (hk : Y1.length = k) (hn : As.length = n) (hsize : ls.size = nL) (hst : st = As.reverse ++ .ref (B + k) :: rest) (hcat : (rest.map fun v => v.category).sum ≤ 8) (hdg : decode cc pc = .ok (.invokespecial index, 3)) (hf : cells + mc ≤ R.cells ∧ slots + ms ≤ R.slots) (hS : va_S (AB B) H0 H locs)
    (kk : ∀ (H1 : Heap) (locs1 : List Loc), RP D B (Y1 ++ Y2) H1 → va_S (AB B) H0 H1 locs1 → W p l e R s m args below meth c H1 locs1 (cells + mc) (slots + ms) Q (F0 m (pc + 3) ls rest)) : W p l e R s m args below meth c H locs cells slots Q (F0 m pc ls st) := by
  obtain ⟨hx, hb, hr, hml, hown, hts, hK, hlocks, hN⟩ := id C0
  obtain ⟨w1, w2, w3, w4⟩ := hw
  subst hk
  have hPc : RP D (B + Y1.length) [b0] H := ⟨by rw [hP.1, List.length_append]; simp; omega, fun j e he => by
    have hz : j < 1 := (List.getElem?_eq_some_iff.mp he).1
    have hj0 : j = 0 := by omega
    subst hj0
    exact hP.2 Y1.length e (by rw [List.getElem?_append_right (Nat.le_refl _), Nat.sub_self]; exact he)⟩
  refine va_callv (va_runI (As := As) (rest := rest) (Ts := tG) (own := own) ⟨hx, hb, hml, hown, hts⟩ hM (cwI n hts (tG_co w1) rfl rfl rfl (hts _ w4) (hts _ w2) (hts _ w3) hd.1 hd.2 hR) ⟨rpk_blind, fun U hU hW => ⟨rfl, by rw [hU]; exact hPc, va_K.moved hW.alike hK, hN.warm hW⟩⟩ rfl hn hsize hst (lv_room hcat) hdg hf) hS (fun q _ h => Nat.le_trans (Nat.le_add_right _ _) h) (fun q h => Nat.le_trans (Nat.le_add_right _ _) h) (fun u t H1 locs1 ht hvm hp hB hz hk1 hS1 => kk H1 locs1 ?_ hS1)
  rw [RPK, ht] at hB
  refine ⟨by rw [hB.1.1, List.length_append]; omega, fun j e he => ?_⟩
  by_cases h : j < Y1.length
  · rw [List.getElem?_append_left h] at he
    have h1 := hP.2 j e (by rw [List.getElem?_append_left h]; exact he)
    exact h1.kept (hk1 _ h1.lt (fun q => by unfold AB at q; omega))
  · rw [List.getElem?_append_right (by omega)] at he
    have h1 := hB.1.2 (j - Y1.length) e he
    rw [show B + Y1.length + (j - Y1.length) = B + j by omega] at h1
    exact h1
theorem y_ret (C0 : XC D ct p s m args meth c cc nL none own) (hP : RP D B Y H) (hS : va_S (AB B) s.heap H locs) (hdg : decode cc pc = .ok (.return_, 1)) : W p l e R s m args below meth c H locs cells slots (MQ below (va_Qv (fun (_ : Unit) => True) (fun _ t => RPK D ct B Y t) (AB B)) args s cells slots (AB B)) (F0 m pc ls []) := by
  obtain ⟨hx, hb, hr, hml, hown, hts, hK, hlocks, hN⟩ := C0
  exact W.vret hx hb hr (fun t ht hW => ⟨⟨(), rfl, trivial, by rw [ht]; exact hP, va_K.moved hW.alike hK, hN.warm hW⟩, hS.F ht⟩) hS.2.2 hdg hlocks
end XRAW
theorem mk_metR {l : Launch} {D : va_G} {ct : Nat → ClassId} {B : Nat} {Y : List va_E} {y : MethodName} {cc : ByteArray} {nL : Nat} {ret : Option FieldType} {rm : Room} {av : List Value} {Qc : Array Value → State → Outcome → State → Prop} {mc ms : Nat} (hy : plainName y.cls = true) (hlen : (lg_sl av).length ≤ nL)
    (body : ∀ (p : Program) (e : Env) (s : State) (m : MethodId) (args : Array Value) (below : List Frame) (meth : Method) (c : Code) (ls : Array Slot), XC D ct p s m args meth c cc nL ret y.cls → RP D B Y s.heap → lv_has ls nL (lv_args 0 av) → meth.name = y.name →
      W p l e rm s m args below meth c s.heap [] 0 0 (MQ below Qc args s mc ms (AB B)) (F0 m 0 ls [])) : Met l y (Cond.code y cc nL ret :: tG) rm (va_Pc av (RPK D ct B Y)) Qc mc ms (AB B) := by
  refine Met.ofW (cc := cc) (maxL := nL) (ret := ret) hy rfl ?_
  intro p e s m args below meth c s₁ Bo hml hv
  obtain ⟨rfl, hP, hK, hN⟩ := hv
  have hts := atoms_spec (ws := Cond.code y cc nL ret :: tG) Bo.pre
  have hl := lv_entry av (n := nL) hlen
  rw [lg_entry_eq]
  exact body p e s m _ below meth c _ ⟨Bo.exec, Bo.bytes, Bo.returns, hml, findClass_of_methodNamed Bo.named, fun w hw => hts w (List.mem_cons_of_mem _ hw), hK, Bo.notSynchronized, hN⟩ hP hl (name_of_methodNamed Bo.named Bo.method).1
