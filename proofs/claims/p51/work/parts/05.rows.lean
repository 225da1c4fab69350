/-! ROWS over the layout: each instruction that reads or writes a cell. -/
def tY (ct : Nat → ClassId) : List (ClassId × FieldType) := [(ct 0, .int), (ct 1, .int), (ct 2, .boolean), (ct 3, .object "ThoughtBetterOf$Plain"), (ct 4, .object "ThoughtBetterOf$Row"), (ct 5, .array .int), (ct 6, .array .boolean)]
def MP (D : va_G) (ct : Nat → ClassId) (B : Nat) (Hb : Heap) (S : St) (H : Heap) : Prop := H.size = B + tp S ∧ (∀ q : Nat, q < B → H[q]? = Hb[q]?) ∧ ∀ (k : Nat) (e : va_E), lay B ct S k = some e → va_at D vwCl (B + k, e) H
/-- private statics of the outer class, called from inside -/
def NW : List Cond := [.methodLinkNest "ThoughtBetterOf$Town" 82 ⟨"ThoughtBetterOf", "isOut", "(III)Z"⟩ "ThoughtBetterOf", .methodLinkNest "ThoughtBetterOf$Town" 158 ⟨"ThoughtBetterOf", "oneOfKind", "(II)LThoughtBetterOf$Plain;"⟩ "ThoughtBetterOf", .methodLinkNest "ThoughtBetterOf$Day" 114 ⟨"ThoughtBetterOf", "sideOf", "(I)I"⟩ "ThoughtBetterOf", .castable "ThoughtBetterOf$Bride" "ThoughtBetterOf$Plain", .castable "ThoughtBetterOf$Firm" "ThoughtBetterOf$Plain", .castable "ThoughtBetterOf$Sworn" "ThoughtBetterOf$Plain", .castable "ThoughtBetterOf$General" "ThoughtBetterOf$Plain", .castable "ThoughtBetterOf$King" "ThoughtBetterOf$Plain", .castable "ThoughtBetterOf$Child" "ThoughtBetterOf$Plain", .castable "ThoughtBetterOf$Drunk" "ThoughtBetterOf$Plain"]
/-- rows of PLAIN ones, of rows, of int rows can be made -/
def AOs (U : State) : Prop := va_AO "ThoughtBetterOf$Plain" U ∧ va_AO "ThoughtBetterOf$Row" U ∧ (Cond.arrayOver (.array .int)).before #[] U = true
theorem AOs.moved {u U : State} (hvm : u.vm.Alike U.vm) (h : AOs u) : AOs U := by
  refine ⟨va_AO.moved hvm h.1, va_AO.moved hvm h.2.1, ?_⟩
  have h1 := Cond.arrayOver_setVmC (args := #[]) (s := u) hvm (.array .int)
  rw [h.2.2] at h1
  exact h1
def NWs (U : State) : Prop := (∀ w ∈ NW, va_Nw w U) ∧ AOs U
theorem NWs.warm {s U : State} (hW : s.WarmedH U.vm) (h : NWs s) : NWs U := by
  refine ⟨?_, h.2.moved hW.alike⟩
  intro w hw
  have h1 := h.1 w hw
  simp only [NW, List.mem_cons, List.not_mem_nil, or_false] at hw
  rcases hw with rfl | rfl | rfl | rfl | rfl | rfl | rfl | rfl | rfl | rfl
  · exact va_Nw.warmM hW h1
  · exact va_Nw.warmM hW h1
  · exact va_Nw.warmM hW h1
  · exact va_Nw.warmC hW h1
  · exact va_Nw.warmC hW h1
  · exact va_Nw.warmC hW h1
  · exact va_Nw.warmC hW h1
  · exact va_Nw.warmC hW h1
  · exact va_Nw.warmC hW h1
  · exact va_Nw.warmC hW h1
theorem NWs.same {u U : State} (e : u.vm = U.vm) (h : NWs u) : NWs U := by
  refine ⟨?_, h.2.moved (by rw [e]; exact Vm.Alike.refl U.vm)⟩
  intro w hw
  have h1 := h.1 w hw
  simp only [NW, List.mem_cons, List.not_mem_nil, or_false] at hw
  rcases hw with rfl | rfl | rfl | rfl | rfl | rfl | rfl | rfl | rfl | rfl <;> exact va_Nw.same rfl e h1
def MPK (D : va_G) (ct : Nat → ClassId) (B : Nat) (Hb : Heap) (S : St) (U : State) : Prop := MP D ct B Hb S U.heap ∧ va_K D vwCl (tY ct) U ∧ NWs U
def AB (B : Nat) : Nat → Prop := fun q => B ≤ q
def XC (D : va_G) (ct : Nat → ClassId) (p : Program) (s : State) (m : MethodId) (args : Array Value) (meth : Method) (c : Code) (cc : ByteArray) (nL : Nat) (ret : Option FieldType) (own : String) : Prop :=
  p.tables.exec = Jvm.exec ∧ c.code = cc ∧ meth.sig.returnType = ret ∧ c.maxLocals = nL ∧ s.vm.findClass own = some m.cls ∧ (∀ w ∈ tG, w.before args s = true) ∧ va_K D vwCl (tY ct) s ∧ meth.locks = false ∧ NWs s
theorem MP_up {D : va_G} {ct : Nat → ClassId} {B : Nat} {Hb : Heap} {S S' : St} {k : Nat} {H H1 : Heap} (hP : MP D ct B Hb S H) (z : H1.size = H.size) (ht : tp S' = tp S) (oq : ∀ q : Nat, q ≠ B + k → H1[q]? = H[q]?) (hl : ∀ a, a ≠ k → lay B ct S' a = lay B ct S a) (hk : ∀ e, lay B ct S' k = some e → va_at D vwCl (B + k, e) H1) : MP D ct B Hb S' H1 := by
  refine ⟨by rw [z, ht]; exact hP.1, fun q hq => by rw [oq q (by omega)]; exact hP.2.1 q hq, fun a e he => ?_⟩
  by_cases h : a = k
  · subst h; exact hk e he
  · rw [hl a h] at he
    exact (hP.2.2 a e he).kept (oq _ (fun q => h (Nat.add_left_cancel q)))
section XR
variable {p : Program} {l : Launch} {e : Env} {R : Room} {s : State} {m : MethodId} {args : Array Value} {below : List Frame} {meth : Method} {c : Code} {H : Heap} {locs : List Loc} {cells slots : Nat} {Q : State → Prop}
variable {cc : ByteArray} {pc nL : Nat} {ret : Option FieldType} {own : String} {ls : Array Slot} {rest : List Value} {D : va_G} {ct : Nat → ClassId} {B : Nat} {Hb : Heap} {S : St} {H0 : Heap}
theorem x_iald (C0 : XC D ct p s m args meth c cc nL ret own) (hP : MP D ct B Hb S H) {k n : Nat} {f : Nat → Int32} (he : lay B ct S k = some (.inl (ct 0, n, .inl f))) {i : Int32} (hin : inb i n = true) (hdg : decode cc pc = .ok (.iaload, 1))
    (kk : W p l e R s m args below meth c H locs cells slots Q (F0 m (pc + 1) ls (.int (f i.toNatClampNeg) :: rest))) : W p l e R s m args below meth c H locs cells slots Q (F0 m pc ls (.int i :: .ref (B + k) :: rest)) := by
  obtain ⟨hx, hb, hr, hml, hown, hts, hK, hlocks, hN⟩ := C0
  exact va_iald (ws := [(B + k, .inl (ct 0, n, .inl f))]) hx hb hK (fun j q hq => by
    cases j with
    | zero => cases hq; exact hP.2.2 k _ he
    | succ j => cases hq) 0 0 rfl rfl (inb_in hin) hdg kk
theorem x_zald (C0 : XC D ct p s m args meth c cc nL ret own) (hP : MP D ct B Hb S H) {k n : Nat} {f : Nat → Int32} (he : lay B ct S k = some (.inl (ct 2, n, .inl f))) {i : Int32} (hin : inb i n = true) (hdg : decode cc pc = .ok (.baload, 1))
    (kk : W p l e R s m args below meth c H locs cells slots Q (F0 m (pc + 1) ls (.int (f i.toNatClampNeg) :: rest))) : W p l e R s m args below meth c H locs cells slots Q (F0 m pc ls (.int i :: .ref (B + k) :: rest)) := by
  obtain ⟨hx, hb, hr, hml, hown, hts, hK, hlocks, hN⟩ := C0
  exact va_zald (ws := [(B + k, .inl (ct 2, n, .inl f))]) hx hb hK (fun j q hq => by
    cases j with
    | zero => cases hq; exact hP.2.2 k _ he
    | succ j => cases hq) 0 2 rfl rfl (inb_in hin) hdg kk
/-- a reference out of a row of references; t0: 3 PLAIN ones, 4 rows, 5 rows of ints -/
theorem x_aald (C0 : XC D ct p s m args meth c cc nL ret own) (hP : MP D ct B Hb S H) {k n t0 : Nat} {ty : FieldType} {f : Nat → Option Nat} (he : lay B ct S k = some (.inl (ct t0, n, .inr (.inr (.inr (.inr f)))))) (hty : (tY ct)[t0]? = some (ct t0, ty)) (hrt : ty.isReference = true) {i : Int32} (hin : inb i n = true) {v : Value} (hv : va_rf (f i.toNatClampNeg) = v) (hdg : decode cc pc = .ok (.aaload, 1))
    (kk : W p l e R s m args below meth c H locs cells slots Q (F0 m (pc + 1) ls (v :: rest))) : W p l e R s m args below meth c H locs cells slots Q (F0 m pc ls (.int i :: .ref (B + k) :: rest)) := by
  obtain ⟨hx, hb, hr, hml, hown, hts, hK, hlocks, hN⟩ := C0
  subst hv
  have hlt := inb_lt hin
  exact W.aald (v := va_rf (f i.toNatClampNeg)) (ty := ty) hx hb (hP.2.2 k _ he) ((hK.2 t0 _ hty).1 n (fun j => va_rf (f j))) hrt (fun q => by cases q) (by show ¬ (i < 0 ∨ (arrV _ _ _).slots.size ≤ _); rw [arrV_size]; exact inb_in hin) (by show (arrV _ _ _).slots[_]? = _; rw [arrV_read _ _ hlt]) rfl rfl hdg kk
theorem x_alen (C0 : XC D ct p s m args meth c cc nL ret own) (hP : MP D ct B Hb S H) {k t0 : Nat} {x : vp_A} {ty : FieldType} (he : lay B ct S k = some (.inl (ct t0, x))) (hty : (tY ct)[t0]? = some (ct t0, ty)) {v : Int32} (hv : Int32.ofNat x.1 = v) (hdg : decode cc pc = .ok (.arraylength, 1))
    (kk : W p l e R s m args below meth c H locs cells slots Q (F0 m (pc + 1) ls (.int v :: rest))) : W p l e R s m args below meth c H locs cells slots Q (F0 m pc ls (.ref (B + k) :: rest)) := by
  obtain ⟨hx, hb, hr, hml, hown, hts, hK, hlocks, hN⟩ := C0
  exact va_alen (ws := [(B + k, .inl (ct t0, x))]) hx hb hK (fun j q hq => by
    cases j with
    | zero => cases hq; exact hP.2.2 k _ he
    | succ j => cases hq) 0 t0 rfl hty hv hdg kk
theorem x_iast (C0 : XC D ct p s m args meth c cc nL ret own) (hP : MP D ct B Hb S H) (hS : va_S (AB B) H0 H locs) {k n : Nat} (he : ∀ S : St, lay B ct S k = some (.inl (ct 0, n, .inl (gi S k)))) {i x : Int32} (hin : inb i n = true) (hdg : decode cc pc = .ok (.iastore, 1))
    (kk : ∀ (H1 : Heap) (locs1 : List Loc), MP D ct B Hb (si S k i.toNatClampNeg x) H1 → va_S (AB B) H0 H1 locs1 → W p l e R s m args below meth c H1 locs1 cells slots Q (F0 m (pc + 1) ls rest)) : W p l e R s m args below meth c H locs cells slots Q (F0 m pc ls (.int x :: .int i :: .ref (B + k) :: rest)) := by
  obtain ⟨hx, hb, hr, hml, hown, hts, hK, hlocks, hN⟩ := C0
  refine W.iast hx hb (hP.2.2 k _ (he S)) ((hK.2 0 _ rfl).1 n (fun j => .int (gi S k j))) (fun q => by cases q) (by show ¬ (i < 0 ∨ (arrV _ _ _).slots.size ≤ _); rw [arrV_size]; exact inb_in hin) rfl rfl hdg fun H1 e z oq => ?_
  refine kk H1 _ (MP_up hP z rfl oq (fun a ha => lay_local (gi_si_n S _ x ha) rfl rfl rfl) (fun e' he' => ?_)) (hS.put z oq (show B ≤ B + k from Nat.le_add_right _ _))
  rw [he] at he'
  cases he'
  show H1[B + k]? = some (vp_cell _ _)
  rw [e, vp_cell_i, vp_cell_i, arrV_store, gi_si_s]
  congr 2
  funext q
  by_cases hq : q = i.toNatClampNeg
  · subst hq
    simp [updV, upd]
  · simp [updV, upd, hq]
theorem x_zast (C0 : XC D ct p s m args meth c cc nL ret own) (hP : MP D ct B Hb S H) (hS : va_S (AB B) H0 H locs) {k n : Nat} (he : ∀ S : St, lay B ct S k = some (.inl (ct 2, n, .inl (gi S k)))) {i x : Int32} (hn : narrow .boolean (.int x) = .int x) (hin : inb i n = true) (hdg : decode cc pc = .ok (.bastore, 1))
    (kk : ∀ (H1 : Heap) (locs1 : List Loc), MP D ct B Hb (si S k i.toNatClampNeg x) H1 → va_S (AB B) H0 H1 locs1 → W p l e R s m args below meth c H1 locs1 cells slots Q (F0 m (pc + 1) ls rest)) : W p l e R s m args below meth c H locs cells slots Q (F0 m pc ls (.int x :: .int i :: .ref (B + k) :: rest)) := by
  obtain ⟨hx, hb, hr, hml, hown, hts, hK, hlocks, hN⟩ := C0
  refine W.zast hx hb (hP.2.2 k _ (he S)) ((hK.2 2 _ rfl).1 n (fun j => .int (gi S k j))) (fun q => by cases q) (by show ¬ (i < 0 ∨ (arrV _ _ _).slots.size ≤ _); rw [arrV_size]; exact inb_in hin) rfl rfl hdg fun H1 e z oq => ?_
  refine kk H1 _ (MP_up hP z rfl oq (fun a ha => lay_local (gi_si_n S _ x ha) rfl rfl rfl) (fun e' he' => ?_)) (hS.put z oq (show B ≤ B + k from Nat.le_add_right _ _))
  rw [he] at he'
  cases he'
  show H1[B + k]? = some (vp_cell _ _)
  rw [e, hn, vp_cell_i, vp_cell_i, arrV_store, gi_si_s]
  congr 2
  funext q
  by_cases hq : q = i.toNatClampNeg
  · subst hq
    simp [updV, upd]
  · simp [updV, upd, hq]
/-- a field, of a class's own or from above ('ref': the class that the instruction names) -/
theorem x_get (C0 : XC D ct p s m args meth c cc nL ret own) (hP : MP D ct B Hb S H) {k ci : Nat} {fs : List Value} (he : lay B ct S k = some (.inr (ci, fs))) {C ref : String} {T : u_T} {N : Nat} (hc : vwCl[ci]? = some (C, T, N)) (hin : ∀ w ∈ u_ws C T N, w ∈ tG) (j : Nat) (hj : j < N) {index : Nat} (hlink : Cond.fieldLink own index ref (T j).2.1 (T j).2.2.1 ∈ tG)
    (hsame : ∀ x, s.fieldFound? (T j).1 (T j).2.1 (T j).2.2.1 = some x → s.fieldFound? ref (T j).2.1 (T j).2.2.1 = some x) {v : Value} (hv : fs[j]? = some v) (hdg : decode cc pc = .ok (.getfield index, 3))
    (kk : W p l e R s m args below meth c H locs cells slots Q (F0 m (pc + 3) ls (v :: rest))) : W p l e R s m args below meth c H locs cells slots Q (F0 m pc ls (.ref (B + k) :: rest)) := by
  obtain ⟨hx, hb, hr, hml, hown, hts, hK, hlocks, hN⟩ := C0
  exact va_get (ws := [(B + k, .inr (ci, fs))]) hx hb hts hin hown hK (fun j q hq => by
    cases j with
    | zero => cases hq; exact hP.2.2 k _ he
    | succ j => cases hq) 0 rfl hc j hj (hts _ hlink) hsame hv hdg kk
theorem x_put (C0 : XC D ct p s m args meth c cc nL ret own) (hP : MP D ct B Hb S H) (hS0 : va_S (AB B) H0 H locs) {k ci : Nat} {FS : St → List Value} (he : ∀ S : St, lay B ct S k = some (.inr (ci, FS S))) {C : String} {T : u_T} {N : Nat} (hc : vwCl[ci]? = some (C, T, N)) (hin : ∀ w ∈ u_ws C T N, w ∈ tG) (ty0 : Nat → FieldType) (hty : ∀ k, k < N → parseFieldDescriptor (T k).2.2.1 = some (ty0 k)) (hnm : ∀ a, a < N → ∀ b, b < N → a ≠ b → (T a).2.1 ≠ (T b).2.1)
    (j : Nat) (hj : j < N) {index : Nat} (hlink : Cond.fieldLink own index (T j).1 (T j).2.1 (T j).2.2.1 ∈ tG) (hfin : (T j).2.2.2 = false) {v : Value} {S' : St} (ht : tp S' = tp S) (hloc : ∀ a, a ≠ k → lay B ct S' a = lay B ct S a) (hset : FS S' = (FS S).set j v) (hn : narrow (ty0 j) v = v) (hfit : fits (ty0 j) v = true) (hl : j < (FS S).length)
    (hdg : decode cc pc = .ok (.putfield index, 3)) (kk : ∀ (H1 : Heap) (locs1 : List Loc), MP D ct B Hb S' H1 → va_S (AB B) H0 H1 locs1 → W p l e R s m args below meth c H1 locs1 cells slots Q (F0 m (pc + 3) ls rest)) : W p l e R s m args below meth c H locs cells slots Q (F0 m pc ls (v :: .ref (B + k) :: rest)) := by
  obtain ⟨hx, hb, hr, hml, hown, hts, hK, hlocks, hN⟩ := C0
  have hap := va_apart (own := own) hts hin ty0 hty hnm hK hc
  obtain ⟨r, h1, cell, q1, q2, q3, q4⟩ := hP.2.2 k _ (he S)
  have hr : r = (C, T, N) := Option.some.inj (h1.symm.trans hc)
  subst hr
  obtain ⟨hS, hfc, kC, hkC, hkind⟩ := hK.1 ci _ hc
  obtain ⟨cf, kf, fi, f, hi, hsl⟩ := hS j hj
  have hlay := hts _ (hin _ (u_in_lay hj))
  unfold u_lay at hlay
  rw [if_neg (by rw [hfin]; decide)] at hlay
  have hst := (u_facts hfc hkC (u_lays hts hin hj) hi).1
  have h6 := u_store hfc hkC hkind hlay hi (hty j hj) hn hfit
  refine W.putK hx hb (f := f) ⟨hown, hts _ hlink, ⟨_, _, _, hi⟩, hst⟩ (by rw [q2]; exact h6) q1 q3 (by rw [hsl]; exact k2_hasslot (q4 j hj)) rfl rfl hdg fun H' e1 e2 e3 => ?_
  rw [hsl] at e1 ⊢
  refine kk H' _ (MP_up hP e2 ht e3 hloc (fun e' he' => ?_)) (hS0.put e2 e3 (show B ≤ B + k from Nat.le_add_right _ _))
  rw [he, hset] at he'
  cases he'
  exact ⟨_, hc, t_OB.to (V := updV (vp_V (FS S)) j v) ⟨_, e1, q2, q3, t_set q4 hap hj v⟩ (fun i _ => vp_updV_set hl v i)⟩
end XR
