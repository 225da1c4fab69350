/-! THE LAW'S OWN CONSTRUCTOR: rows over the class's cells Y and what the law made behind them, Z. -/
/-- a row of rows of booleans can be made -/
def AZ (U : State) : Prop := (Cond.arrayOver (.array .boolean)).before #[] U = true
theorem AZ.moved {u U : State} (hvm : u.vm.Alike U.vm) (h : AZ u) : AZ U := by
  have h1 := Cond.arrayOver_setVmC (args := #[]) (s := u) hvm (.array .boolean)
  unfold AZ at h
  rw [h] at h1
  exact h1
section LCTOR
variable {p : Program} {l : Launch} {e : Env} {R : Room} {s : State} {m : MethodId} {args : Array Value} {below : List Frame} {meth : Method} {c : Code} {H : Heap} {locs : List Loc} {cells slots : Nat} {Q : State → Prop}
variable {cc : ByteArray} {pc nL : Nat} {ret : Option FieldType} {own : String} {ls : Array Slot} {rest : List Value} {D : va_G} {ct : Nat → ClassId} {B : Nat} {Y Z : List va_E} {o : va_E} {H0 : Heap}
theorem wY {N0 : Nat} (hY : Y.length + 1 = N0) (i : Nat) : (o :: (Y ++ Z))[N0 + i]? = Z[i]? := by
  subst hY
  rw [show Y.length + 1 + i = (Y.length + i) + 1 by omega, List.getElem?_cons_succ, List.getElem?_append_right (by omega), show Y.length + i - Y.length = i by omega]
theorem wS {N0 : Nat} (hY : Y.length + 1 = N0) (i : Nat) (x : va_E) : (o :: (Y ++ Z)).set (N0 + i) x = o :: (Y ++ Z.set i x) := by
  subst hY
  rw [show Y.length + 1 + i = (Y.length + i) + 1 by omega, List.set_cons_succ, List.set_append_right _ _ (by omega), show Y.length + i - Y.length = i by omega]
theorem w_mna (C0 : XC D ct p s m args meth c cc nL ret own) {N0 : Nat} (hY : Y.length + 1 = N0) (hP : RP D B (o :: (Y ++ Z)) H) (hS : va_S (AB B) H0 H locs) {index : Nat} (hw : Cond.classLink own index ("[" ++ (FieldType.array .int).toString) ∈ tG ∧ Cond.arrayClass .int ∈ tG) {v k : Int32} {N' K' : Nat} (hv : ¬ v < 0) (hk : ¬ k < 0) (hN' : v.toNatClampNeg = N') (hM' : k.toNatClampNeg = K')
    (hb1 : N' * 4 ≤ 536870912) (hb2 : K' * componentBytes .int ≤ 536870912) (hb3 : K' ≤ 536870912) (hcells : cells + (1 + N') ≤ R.cells) (hslots : slots + (N' + N' * K') ≤ R.slots) {n : Nat} (hn : N0 + Z.length = n) (hdg : decode cc pc = .ok (.multianewarray index 2, 4))
    (kk : ∀ (H1 : Heap), RP D B (o :: (Y ++ (Z ++ (.inl (ct 5, N', .inr (.inr (.inr (.inr (fun i => some (B + ((n + 1) + 1 * i))))))) :: List.replicate N' (.inl (ct 0, K', .inl (fun _ => 0))))))) H1 → va_S (AB B) H0 H1 locs → W p l e R s m args below meth c H1 locs (cells + 1 + N') (slots + N' + N' * K') Q (F0 m (pc + 4) ls (.ref (B + n) :: rest))) : W p l e R s m args below meth c H locs cells slots Q (F0 m pc ls (.int k :: .int v :: rest)) :=
  z_mna C0 hP hS hw hv hk hN' hM' hb1 hb2 hb3 hcells hslots (by rw [List.length_append]; omega) hdg (fun H1 h1 h2 => kk H1 (by rw [← List.append_assoc]; exact h1) h2)
theorem w_newa (C0 : XC D ct p s m args meth c cc nL ret own) {N0 : Nat} (hY : Y.length + 1 = N0) (hP : RP D B (o :: (Y ++ Z)) H) (hS0 : va_S (AB B) H0 H locs) {v : Int32} {N : Nat} (hw : Cond.arrayClass .boolean ∈ tG) (hv : ¬ v < 0) (hN : v.toNatClampNeg = N) (hbytes : N * componentBytes .boolean ≤ 536870912)
    (hcells : cells + 1 ≤ R.cells) (hslots : slots + N ≤ R.slots) {n : Nat} (hn : N0 + Z.length = n) (hdg : decode cc pc = .ok (.newarray .boolean, 2))
    (kk : ∀ (H1 : Heap), RP D B (o :: (Y ++ (Z ++ [.inl (ct 2, N, .inl (fun _ => 0))]))) H1 → va_S (AB B) H0 H1 locs → W p l e R s m args below meth c H1 locs (cells + 1) (slots + N) Q (F0 m (pc + 2) ls (.ref (B + n) :: rest))) : W p l e R s m args below meth c H locs cells slots Q (F0 m pc ls (.int v :: rest)) :=
  z_newa (atype := .boolean) (ty := .boolean) (q := 2) (a0 := (N, .inl (fun _ => 0))) C0 hP hS0 rfl hw rfl (by simp) (fun _ => rfl) hv hN hbytes hcells hslots (by rw [List.length_append]; omega) hdg (fun H1 h1 h2 => kk H1 (by rw [← List.append_assoc]; exact h1) h2)
theorem w_newA (C0 : XC D ct p s m args meth c cc nL ret own) (hZ : AZ s) {N0 : Nat} (hY : Y.length + 1 = N0) (hP : RP D B (o :: (Y ++ Z)) H) (hS0 : va_S (AB B) H0 H locs) {index : Nat} (hw : Cond.classLink own index (FieldType.array .boolean).toString ∈ tG) {v : Int32} {N : Nat} (hv : ¬ v < 0) (hN : v.toNatClampNeg = N) (hbytes : N * 4 ≤ 536870912)
    (hcells : cells + 1 ≤ R.cells) (hslots : slots + N ≤ R.slots) {n : Nat} (hn : N0 + Z.length = n) (hdg : decode cc pc = .ok (.anewarray index, 3))
    (kk : ∀ (H1 : Heap), RP D B (o :: (Y ++ (Z ++ [.inl (ct 6, N, .inr (.inr (.inr (.inr (fun _ => none)))))]))) H1 → va_S (AB B) H0 H1 locs → W p l e R s m args below meth c H1 locs (cells + 1) (slots + N) Q (F0 m (pc + 3) ls (.ref (B + n) :: rest))) : W p l e R s m args below meth c H locs cells slots Q (F0 m pc ls (.int v :: rest)) := by
  obtain ⟨hx, hb, hr, hml, hown, hts, hK, hlocks, hNs⟩ := C0
  subst hN
  have hZ : (Cond.arrayOver (.array .boolean)).before args s = true := hZ
  refine W.anewA hx hb hown (hts _ hw) hZ rfl hdg rfl hv hbytes hcells hslots fun cA kA comp f1 f2 f3 f4 => ?_
  generalize hH1 : H.push ({ cls := cA, slots := Array.replicate v.toNatClampNeg .null, vm := .none } : Cell) = H1
  have z1 : H1.size = H.size + 1 := by rw [← hH1, Array.size_push]
  have e1 : H1[H.size]? = some (arrV cA v.toNatClampNeg (fun _ => .null)) := by rw [← hH1, Array.getElem?_push_size, ← arrV_new]
  have o1 : ∀ q : Nat, q < H.size → H1[q]? = H[q]? := fun q hq => by rw [← hH1, Array.getElem?_push, if_neg (Nat.ne_of_lt hq)]
  have e6 : s.vm.findClass ("[" ++ (FieldType.array .boolean).toString) = some (ct 6) := (hK.2 6 _ rfl).2
  have hcA : cA = ct 6 := Option.some.inj (f1.symm.trans e6)
  subst hcA
  have hlen : (o :: (Y ++ Z)).length = n := by rw [List.length_cons, List.length_append]; omega
  rw [show H.size = B + n from hP.1.trans (by rw [hlen])]
  refine kk H1 ?_ (AB_new hS0 (by rw [z1]; exact Nat.le_succ _) o1)
  rw [← List.append_assoc, ← List.cons_append]
  refine RP_push hP z1 o1 (fun j e' he => ?_)
  have hz : j < 1 := (List.getElem?_eq_some_iff.mp he).1
  have hj0 : j = 0 := by omega
  subst hj0
  cases he
  show H1[B + ((o :: (Y ++ Z)).length + 0)]? = some (vp_cell _ _)
  rw [show B + ((o :: (Y ++ Z)).length + 0) = H.size from hP.1.symm, vp_cell_q]
  exact e1
theorem w_bast (C0 : XC D ct p s m args meth c cc nL ret own) {N0 : Nat} (hY : Y.length + 1 = N0) (hP : RP D B (o :: (Y ++ Z)) H) (hS : va_S (AB B) H0 H locs) {i0 n : Nat} {f : Nat → Int32} {k : Nat} (hk : N0 + i0 = k) (he : Z[i0]? = some (.inl (ct 2, n, .inl f))) {i x : Int32} (hn : narrow .boolean (.int x) = .int x) (hin : inb i n = true) (hdg : decode cc pc = .ok (.bastore, 1))
    (kk : ∀ (H1 : Heap) (locs1 : List Loc), RP D B (o :: (Y ++ Z.set i0 (.inl (ct 2, n, .inl (upd f i.toNatClampNeg x))))) H1 → va_S (AB B) H0 H1 locs1 → W p l e R s m args below meth c H1 locs1 cells slots Q (F0 m (pc + 1) ls rest)) : W p l e R s m args below meth c H locs cells slots Q (F0 m pc ls (.int x :: .int i :: .ref (B + k) :: rest)) := by
  obtain ⟨hx, hb, hr, hml, hown, hts, hK, hlocks, hN⟩ := C0
  subst hk
  have he' : (o :: (Y ++ Z))[N0 + i0]? = some (.inl (ct 2, n, .inl f)) := (wY hY i0).trans he
  refine W.zast hx hb (hP.2 (N0 + i0) _ he') ((hK.2 2 _ rfl).1 n (fun j => .int (f j))) (fun q => by cases q) (by show ¬ (i < 0 ∨ (arrV _ _ _).slots.size ≤ _); rw [arrV_size]; exact inb_in hin) rfl rfl hdg fun H1 e z oq => ?_
  refine kk H1 _ (by rw [← wS hY]; exact RP_up hP z oq (by
    show H1[B + (N0 + i0)]? = some (vp_cell _ _)
    rw [e, hn, vp_cell_i, vp_cell_i, arrV_store]
    congr 2
    funext q
    by_cases hq : q = i.toNatClampNeg
    · subst hq
      simp [updV, upd]
    · simp [updV, upd, hq])) (AB_put hS z oq)
theorem w_aastA (C0 : XC D ct p s m args meth c cc nL ret own) (hZ : AZ s) {N0 : Nat} (hY : Y.length + 1 = N0) (hP : RP D B (o :: (Y ++ Z)) H) (hS : va_S (AB B) H0 H locs) {i0 j0 n n2 k q : Nat} {f : Nat → Option Nat} {g : Nat → Int32} (hk : N0 + i0 = k) (hq : N0 + j0 = q) (he : Z[i0]? = some (.inl (ct 6, n, .inr (.inr (.inr (.inr f)))))) (hj : Z[j0]? = some (.inl (ct 2, n2, .inl g))) {i : Int32} (hin : inb i n = true) (hdg : decode cc pc = .ok (.aastore, 1))
    (kk : ∀ (H1 : Heap) (locs1 : List Loc), RP D B (o :: (Y ++ Z.set i0 (.inl (ct 6, n, .inr (.inr (.inr (.inr (va_up f i.toNatClampNeg (some (B + q)))))))))) H1 → va_S (AB B) H0 H1 locs1 → W p l e R s m args below meth c H1 locs1 cells slots Q (F0 m (pc + 1) ls rest)) : W p l e R s m args below meth c H locs cells slots Q (F0 m pc ls (.ref (B + q) :: .int i :: .ref (B + k) :: rest)) := by
  obtain ⟨hx, hb, hr, hml, hown, hts, hK, hlocks, hN⟩ := id C0
  subst hk
  subst hq
  obtain ⟨comp, c6, k6, f1, f2, f3, f4⟩ := ao_sp hZ
  have e6 : s.vm.findClass ("[" ++ (FieldType.array .boolean).toString) = some (ct 6) := (hK.2 6 _ rfl).2
  have e2 : s.vm.findClass ("[" ++ FieldType.boolean.toString) = some (ct 2) := (hK.2 2 _ rfl).2
  have q6 : c6 = ct 6 := Option.some.inj (f4.symm.trans e6)
  have q2 : comp = ct 2 := Option.some.inj (f1.symm.trans e2)
  subst q6
  subst q2
  obtain ⟨-, kI, hkI, -⟩ := (hK.2 2 _ rfl).1 n2 (fun j => .int (g j))
  have hkI : s.vm.classes[ct 2]? = some kI := hkI
  have hlt := inb_lt hin
  have h0 : ¬ i < 0 := fun q => inb_in hin (Or.inl q)
  have hcq : H[B + (N0 + j0)]? = some (vp_cell (ct 2) (n2, .inl g)) := hP.2 (N0 + j0) _ ((wY hY j0).trans hj)
  refine W.aast hx hb (hP.2 (N0 + i0) _ ((wY hY i0).trans he)) (fun q h => by cases h) (fun h => by cases h) f2 f3 rfl hkI ⟨h0, by show _ < (arrV _ _ _).slots.size; rw [arrV_size]; exact hlt⟩ hcq (fun q h => by cases h) hkI (va_asg _ _) rfl rfl hdg fun H1 e z oq => ?_
  refine kk H1 _ (by rw [← wS hY]; exact RP_up hP z oq (by
    show H1[B + (N0 + i0)]? = some (vp_cell _ _)
    rw [e, vp_cell_q, vp_cell_q, arrV_store]
    congr 2
    funext q
    by_cases hq : q = i.toNatClampNeg
    · subst hq
      simp [updV, va_up, va_rf]
    · simp [updV, va_up, hq])) (AB_put hS z oq)
theorem rpz_blind {av : List Value} {Y : List va_E} : FrameBlind (va_Pc av (fun U => RPK D ct B Y U ∧ AZ U)) := fun a U g mk q => ⟨q.1, (rpk_blind (av := av) a U g mk ⟨q.1, q.2.1⟩).2, AZ.moved (u := U) (U := U.calling g mk a) (Vm.Alike.refl U.vm) q.2.2⟩
/-- a call of the law's constructor upon the newest cell -/
theorem y_ctorZ (C0 : XC D ct p s m args meth c cc nL ret own) (hZ : AZ s) {y : MethodName} {bytes : ByteArray} {maxL fr lo index mc ms : Nat} {st : List Value} {Y2 : List va_E} {b0 : va_E}
    (hM : Met l y (Cond.code y bytes maxL none :: tG) { frames := fr, cells := mc, slots := ms, locals := lo } (va_Pc [.ref (B + 0)] (fun U => RPK D ct (B + 0) [b0] U ∧ AZ U)) (va_Qv (fun (_ : Unit) => True) (fun _ t => RPK D ct (B + 0) Y2 t) (AB (B + 0))) mc ms (AB (B + 0)))
    (hw : Cond.code y bytes maxL none ∈ tG ∧ Cond.methodLink own index y ∈ tG ∧ Cond.instanceMethod y ∈ tG ∧ Cond.initialized y.cls ∈ tG)
    (hd : y.name = "<init>" ∧ y.cls ≠ "java/lang/invoke/MethodHandle" ∧ y.cls ≠ "java/lang/invoke/VarHandle" ∧ (parseMethodDescriptor y.desc).map (fun d => d.parameters.length) = some 0) (hR : fr + 1 ≤ R.frames ∧ 8 + (maxL + 11) + lo ≤ R.locals)
    (hP : RP D B [b0] H) (hsize : ls.size = nL) (hst : st = .ref (B + 0) :: rest) (hcat : (rest.map fun v => v.category).sum ≤ 8) (hdg : decode cc pc = .ok (.invokespecial index, 3)) (hf : cells + mc ≤ R.cells ∧ slots + ms ≤ R.slots) (hS : va_S (AB B) H0 H locs)
    (kk : ∀ (H1 : Heap) (locs1 : List Loc), RP D B Y2 H1 → va_S (AB B) H0 H1 locs1 → W p l e R s m args below meth c H1 locs1 (cells + mc) (slots + ms) Q (F0 m (pc + 3) ls rest)) : W p l e R s m args below meth c H locs cells slots Q (F0 m pc ls st) := by
  obtain ⟨hx, hb, hr, hml, hown, hts, hK, hlocks, hN⟩ := id C0
  obtain ⟨w1, w2, w3, w4⟩ := hw
  refine va_callv (va_runI (As := []) (rest := rest) (Ts := tG) (own := own) ⟨hx, hb, hml, hown, hts⟩ hM (cwI 0 hts (tG_co w1) rfl rfl rfl (hts _ w4) (hts _ w2) (hts _ w3) hd.1 hd.2 hR) ⟨rpz_blind, fun U hU hW => ⟨rfl, ⟨by rw [hU]; exact hP, va_K.moved hW.alike hK, hN.warm hW⟩, hZ.moved hW.alike⟩⟩ rfl rfl hsize hst (lv_room hcat) hdg hf) hS (fun q _ h => h) (fun q h => h) (fun u t H1 locs1 ht hvm hp hB hz hk1 hS1 => kk H1 locs1 ?_ hS1)
  rw [RPK, ht] at hB
  exact hB.1
end LCTOR
theorem mk_metRZ {l : Launch} {D : va_G} {ct : Nat → ClassId} {B : Nat} {Y : List va_E} {y : MethodName} {cc : ByteArray} {nL : Nat} {ret : Option FieldType} {rm : Room} {av : List Value} {Qc : Array Value → State → Outcome → State → Prop} {mc ms : Nat} (hy : plainName y.cls = true) (hlen : (lg_sl av).length ≤ nL)
    (body : ∀ (p : Program) (e : Env) (s : State) (m : MethodId) (args : Array Value) (below : List Frame) (meth : Method) (c : Code) (ls : Array Slot), XC D ct p s m args meth c cc nL ret y.cls → RP D B Y s.heap → lv_has ls nL (lv_args 0 av) → meth.name = y.name → AZ s →
      W p l e rm s m args below meth c s.heap [] 0 0 (MQ below Qc args s mc ms (AB B)) (F0 m 0 ls [])) : Met l y (Cond.code y cc nL ret :: tG) rm (va_Pc av (fun U => RPK D ct B Y U ∧ AZ U)) Qc mc ms (AB B) := by
  refine Met.ofW (cc := cc) (maxL := nL) (ret := ret) hy rfl ?_
  intro p e s m args below meth c s₁ Bo hml hv
  obtain ⟨rfl, ⟨hP, hK, hN⟩, hZ⟩ := hv
  have hts := atoms_spec (ws := Cond.code y cc nL ret :: tG) Bo.pre
  have hl := lv_entry av (n := nL) hlen
  rw [lg_entry_eq]
  exact body p e s m _ below meth c _ ⟨Bo.exec, Bo.bytes, Bo.returns, hml, findClass_of_methodNamed Bo.named, fun w hw => hts w (List.mem_cons_of_mem _ hw), hK, Bo.notSynchronized, hN⟩ hP hl (name_of_methodNamed Bo.named Bo.method).1 hZ
