/-! System.arraycopy over rows of ints, Math.max, Math.min -/
def sc (S : St) (k0 sp k1 dp n : Nat) : St := (fun a => if a = k1 then va_cpy (S.1 k0) (S.1 k1) sp dp n else S.1 a, S.2)
theorem gi_sc_s (S : St) (k0 sp k1 dp n : Nat) : gi (sc S k0 sp k1 dp n) k1 = va_cpy (gi S k0) (gi S k1) sp dp n := if_pos rfl
theorem gi_sc_n (S : St) {a : Nat} (k0 sp : Nat) {k1 : Nat} (dp n : Nat) (h : a ≠ k1) : gi (sc S k0 sp k1 dp n) a = gi S a := if_neg h
def cpb (sp dp n : Int32) (n0 n1 : Nat) : Bool := !(decide (sp < 0)) && !(decide (dp < 0)) && !(decide (n < 0)) && decide (sp.toNatClampNeg + n.toNatClampNeg ≤ n0) && decide (dp.toNatClampNeg + n.toNatClampNeg ≤ n1)
theorem cpb_ok {sp dp n : Int32} {n0 n1 : Nat} (h : cpb sp dp n n0 n1 = true) : ¬ sp < 0 ∧ ¬ dp < 0 ∧ ¬ n < 0 ∧ sp.toNatClampNeg + n.toNatClampNeg ≤ n0 ∧ dp.toNatClampNeg + n.toNatClampNeg ≤ n1 := by
  simp only [cpb, Bool.and_eq_true, Bool.not_eq_true', decide_eq_false_iff_not, decide_eq_true_eq] at h
  obtain ⟨⟨⟨⟨h1, h2⟩, h3⟩, h4⟩, h5⟩ := h
  exact ⟨h1, h2, h3, h4, h5⟩
section XJDK
variable {p : Program} {l : Launch} {e : Env} {R : Room} {s : State} {m : MethodId} {args : Array Value} {below : List Frame} {meth : Method} {c : Code} {H : Heap} {locs : List Loc} {cells slots : Nat} {Q : State → Prop}
variable {cc : ByteArray} {pc nL : Nat} {ret : Option FieldType} {own : String} {ls : Array Slot} {rest : List Value} {D : va_G} {ct : Nat → ClassId} {B : Nat} {Hb : Heap} {S : St} {H0 : Heap}
theorem x_copyi (C0 : XC D ct p s m args meth c cc nL ret own) (hP : MP D ct B Hb S H) (hS : va_S (AB B) H0 H locs) (hsize : ls.size = nL) {index : Nat} (hw : Cond.methodLink own index arraycopyName ∈ tG ∧ Cond.native arraycopyName ∈ tG ∧ Cond.static arraycopyName ∈ tG ∧ Cond.initialized "java/lang/System" ∈ tG)
    {k0 k1 n0 n1 : Nat} (he0 : ∀ S : St, lay B ct S k0 = some (.inl (ct 0, n0, .inl (gi S k0)))) (he1 : ∀ S : St, lay B ct S k1 = some (.inl (ct 0, n1, .inl (gi S k1)))) {sp dp n : Int32} (hg : cpb sp dp n n0 n1 = true)
    (hframes : 1 ≤ R.frames) (hlocals : (rest.map fun v => v.category).sum + (nativeFrameWords "java/lang/System" "arraycopy" 5 + 11) ≤ R.locals) (hdg : decode cc pc = .ok (.invokestatic index, 3))
    (kk : ∀ (H1 : Heap) (locs1 : List Loc), MP D ct B Hb (sc S k0 sp.toNatClampNeg k1 dp.toNatClampNeg n.toNatClampNeg) H1 → va_S (AB B) H0 H1 locs1 → W p l e R s m args below meth c H1 locs1 cells slots Q (F0 m (pc + 3) ls rest)) : W p l e R s m args below meth c H locs cells slots Q (F0 m pc ls (.int n :: .int dp :: .ref (B + k1) :: .int sp :: .ref (B + k0) :: rest)) := by
  obtain ⟨hx, hb, hr, hml, hown, hts, hK, hlocks, hN⟩ := id C0
  obtain ⟨w1, w2, w3, w4⟩ := hw
  obtain ⟨h1, h2, h3, h4, h5⟩ := cpb_ok hg
  have nn : ∀ z : Int32, ¬ z < 0 → z.toInt = (z.toNatClampNeg : Int) := by
    intro z hz
    have hz0 : (0 : Int) ≤ z.toInt := by
      have := Int32.not_lt.mp hz
      simpa using Int32.le_iff_toInt_le.mp this
    show z.toInt = ((z.toInt.toNat : Nat) : Int)
    omega
  intro T hT X
  have hc0 : H[B + k0]? = some (vp_cell (ct 0) (n0, .inl (gi S k0))) := hP.2.2 k0 _ (he0 S)
  have hc1 : H[B + k1]? = some (vp_cell (ct 0) (n1, .inl (gi S k1))) := hP.2.2 k1 _ (he1 S)
  obtain ⟨-, j0, hk0, cm0, hkk0⟩ := (hK.2 0 _ rfl).1 n0 (fun j => .int (gi S k0 j))
  obtain ⟨-, j1, hk1, cm1, hkk1⟩ := (hK.2 0 _ rfl).1 n1 (fun j => .int (gi S k1 j))
  obtain ⟨vm', X', step⟩ := X.arraycopy hx hown (hts _ w1) (hts _ w2) (hts _ w3) (hts _ w4) (src := B + k0) (dst := B + k1) (cs := vp_cell (ct 0) (n0, .inl (gi S k0))) (cd := vp_cell (ct 0) (n1, .inl (gi S k1))) (srcPos := sp) (destPos := dp) (n := n) (by rw [hT]; exact hc0) (by rw [hT]; exact hc1)
    (fun _ h => by cases h) (fun _ h => by cases h) (fun h => by cases h) (fun h => by cases h) hk0 hk1 hkk0 hkk1 (by simp [refKind]) h1 h2 h3
    (by rw [nn sp h1, nn n h3]; show ¬ _ > ((arrV (ct 0) n0 (fun j => .int (gi S k0 j))).slots.size : Int); rw [arrV_size]; omega)
    (by rw [nn dp h2, nn n h3]; show ¬ _ > ((arrV (ct 0) n1 (fun j => .int (gi S k1 j))).slots.size : Int); rw [arrV_size]; omega)
    (fun vm₁ _ i hi => by
      have e : (vp_cell (ct 0) (n0, .inl (gi S k0))).slots.getD (sp.toNatClampNeg + i) .null = .int (gi S k0 (sp.toNatClampNeg + i)) := by
        show (arrV (ct 0) n0 (fun j => .int (gi S k0 j))).slots.getD _ _ = _
        rw [Array.getD_eq_getD_getElem?, arrV_read _ _ (by omega)]
        rfl
      refine ⟨?_, ?_⟩
      · rw [e]
        rfl
      · rw [e]
        exact trivial)
    (g := F0 m pc ls (.int n :: .int dp :: .ref (B + k1) :: .int sp :: .ref (B + k0) :: rest)) rfl (by rw [hml, hsize]) (rest := rest) rfl (by rw [hb]; exact hdg) hframes (by show 2 * 0 + _ + _ ≤ _; omega)
  have e1 : copied (vp_cell (ct 0) (n0, .inl (gi S k0))) (vp_cell (ct 0) (n1, .inl (gi S k1))) sp dp n = vp_cell (ct 0) (n1, .inl (va_cpy (gi S k0) (gi S k1) sp.toNatClampNeg dp.toNatClampNeg n.toNatClampNeg)) := va_copied (fun z => .int z) (ct 0) (ct 0) (gi S k0) (gi S k1) h4
  rw [e1] at X' step
  have hl : B + k1 < H.size := (Array.getElem?_eq_some_iff.mp hc1).1
  have hheap : ((T.setVm vm').setCell (B + k1) (vp_cell (ct 0) (n1, .inl (va_cpy (gi S k0) (gi S k1) sp.toNatClampNeg dp.toNatClampNeg n.toNatClampNeg)))).heap = H.setIfInBounds (B + k1) (vp_cell (ct 0) (n1, .inl (va_cpy (gi S k0) (gi S k1) sp.toNatClampNeg dp.toNatClampNeg n.toNatClampNeg))) := by rw [← hT]; rfl
  have oq : ∀ q : Nat, q ≠ B + k1 → (H.setIfInBounds (B + k1) (vp_cell (ct 0) (n1, .inl (va_cpy (gi S k0) (gi S k1) sp.toNatClampNeg dp.toNatClampNeg n.toNatClampNeg))))[q]? = H[q]? := fun q hq => by simp [Array.getElem?_setIfInBounds, Ne.symm hq]
  obtain ⟨t, a1, b1⟩ := kk _ _ (MP_up hP (by simp) rfl oq (fun a ha => lay_local (gi_sc_n S _ _ _ _ ha) rfl rfl rfl) (fun e' he' => by
      rw [he1, gi_sc_s] at he'
      cases he'
      show (H.setIfInBounds (B + k1) _)[B + k1]? = some _
      simp [Array.getElem?_setIfInBounds, hl])) ⟨by simp; exact hS.1, fun q g1 g2 => by
      rw [oq q (fun e => g2 (by rw [e]; exact Nat.le_add_right _ _))]
      exact hS.2.1 q g1 g2, fun q hq => by
      rcases List.mem_append.mp hq with h | h
      · exact hS.2.2 q h
      · obtain ⟨z, -, hz⟩ := List.mem_map.mp h
        rw [← hz]
        exact Nat.le_add_right _ _⟩ _ hheap X'
  exact ⟨t, step t a1, b1⟩
theorem x_max (C0 : XC D ct p s m args meth c cc nL ret own) (hsize : ls.size = nL) {index : Nat} (hw : Cond.methodLink own index Lib.Math.max.name ∈ tG ∧ Cond.static Lib.Math.max.name ∈ tG ∧ Cond.initialized "java/lang/Math" ∈ tG ∧ Cond.code Lib.Math.max.name Lib.Math.max.code 2 (some .int) ∈ tG)
    (hframes : 1 ≤ R.frames) (hlocals : (rest.map fun v => v.category).sum + 13 ≤ R.locals) (hc : cells ≤ R.cells ∧ slots ≤ R.slots) {x y : Int32} (hdg : decode cc pc = .ok (.invokestatic index, 3))
    (kk : W p l e R s m args below meth c H locs cells slots Q (F0 m (pc + 3) ls (.int (if x < y then y else x) :: rest))) : W p l e R s m args below meth c H locs cells slots Q (F0 m pc ls (.int y :: .int x :: rest)) := by
  obtain ⟨hx, hb, hr, hml, hown, hts, hK, hlocks, hN⟩ := C0
  obtain ⟨w1, w2, w3, w4⟩ := hw
  exact va_mmax hx hb (by rw [hml, hsize]) hown (hts _ w1) (hts _ w2) (hts _ w3) (hts _ w4) hframes hlocals hc.1 hc.2 hdg kk
theorem x_min (C0 : XC D ct p s m args meth c cc nL ret own) (hsize : ls.size = nL) {index : Nat} (hw : Cond.methodLink own index Lib.Math.min.name ∈ tG ∧ Cond.static Lib.Math.min.name ∈ tG ∧ Cond.initialized "java/lang/Math" ∈ tG ∧ Cond.code Lib.Math.min.name Lib.Math.min.code 2 (some .int) ∈ tG)
    (hframes : 1 ≤ R.frames) (hlocals : (rest.map fun v => v.category).sum + 13 ≤ R.locals) (hc : cells ≤ R.cells ∧ slots ≤ R.slots) {x y : Int32} (hdg : decode cc pc = .ok (.invokestatic index, 3))
    (kk : W p l e R s m args below meth c H locs cells slots Q (F0 m (pc + 3) ls (.int (if y < x then y else x) :: rest))) : W p l e R s m args below meth c H locs cells slots Q (F0 m pc ls (.int y :: .int x :: rest)) := by
  obtain ⟨hx, hb, hr, hml, hown, hts, hK, hlocks, hN⟩ := C0
  obtain ⟨w1, w2, w3, w4⟩ := hw
  exact va_mmin hx hb (by rw [hml, hsize]) hown (hts _ w1) (hts _ w2) (hts _ w3) (hts _ w4) hframes hlocals hc.1 hc.2 hdg kk
end XJDK
theorem cpy_room : nativeFrameWords "java/lang/System" "arraycopy" 5 + 11 ≤ 40 := by decide
theorem nw_isOut : Cond.methodLinkNest RX10 82 yX11_isOut "ThoughtBetterOf" ∈ NW := List.mem_of_getElem? (i := 0) rfl
theorem nw_oneOfKind : Cond.methodLinkNest RX10 158 yX11_oneOfKind "ThoughtBetterOf" ∈ NW := List.mem_of_getElem? (i := 1) rfl
theorem nw_sideOf : Cond.methodLinkNest RX2 114 yX11_sideOf "ThoughtBetterOf" ∈ NW := List.mem_of_getElem? (i := 2) rfl
theorem ciK_else {kd : Nat} (h0 : ¬ kd = 0) (h1 : ¬ kd = 1) (h2 : ¬ kd = 2) (h3 : ¬ kd = 3) (h4 : ¬ kd = 4) (h5 : ¬ kd = 5) (h6 : ¬ kd = 6) : ciK kd = 3 := by
  unfold ciK
  split <;> first | contradiction | rfl
theorem sw_k {x y : Int32} {k : Int} (h : ¬ x = y) (hk : y.toInt = k) : ¬ k = x.toInt := fun e => h (Int32.toInt_inj.mp (e.symm.trans hk.symm))
