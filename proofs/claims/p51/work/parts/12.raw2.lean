theorem vr_outer (c : ClassId) (N h0 : Nat) : ∀ i : Nat, Jvm.Free.Multi.outerC c N h0 i = arrV c N (fun j => va_rf (if j < i then some (h0 + 1 + j) else none))
  | 0 => by
    show ({ cls := c, slots := Array.replicate N .null, vm := .none } : Cell) = _
    rw [arrV_new]
    refine congrArg (arrV c N) (funext fun j => ?_)
    simp [va_rf]
  | i + 1 => by
    show (Jvm.Free.Multi.outerC c N h0 i).setSlot i (.ref (h0 + 1 + i)) = _
    rw [vr_outer c N h0 i, arrV_store]
    refine congrArg (arrV c N) (funext fun j => ?_)
    by_cases e : j = i
    · subst e
      simp [updV, va_rf]
    · by_cases h : j < i
      · simp [updV, e, h, Nat.lt_succ_of_lt h]
      · simp [updV, e, h, show ¬ j < i + 1 by omega]
theorem arrV_ext {cA : ClassId} {n : Nat} {f g : Nat → Value} (h : ∀ j, j < n → f j = g j) : arrV cA n f = arrV cA n g := by
  have e : (arrV cA n f).slots = (arrV cA n g).slots := by
    apply Array.ext_getElem?
    intro j
    by_cases hj : j < n
    · rw [arrV_read _ _ hj, arrV_read _ _ hj, h j hj]
    · rw [Array.getElem?_eq_none (by rw [arrV_size]; omega), Array.getElem?_eq_none (by rw [arrV_size]; omega)]
  unfold arrV at e ⊢
  simp only [Cell.mk.injEq, true_and, and_true] at e ⊢
  exact e
section XRAW2
variable {p : Program} {l : Launch} {e : Env} {R : Room} {s : State} {m : MethodId} {args : Array Value} {below : List Frame} {meth : Method} {c : Code} {H : Heap} {locs : List Loc} {cells slots : Nat} {Q : State → Prop}
variable {cc : ByteArray} {pc nL : Nat} {ret : Option FieldType} {own : String} {ls : Array Slot} {rest : List Value} {D : va_G} {ct : Nat → ClassId} {B : Nat} {Hb : Heap} {S : St} {Y : List va_E} {H0 : Heap}
/-- new int[N][K] -/
theorem y_mna (C0 : XC D ct p s m args meth c cc nL ret own) (hP : RP D B Y H) (hS : va_S (AB B) H0 H locs) {index : Nat} (hw : Cond.classLink own index ("[" ++ (FieldType.array .int).toString) ∈ tG ∧ Cond.arrayClass .int ∈ tG) {v k : Int32} {N' K' : Nat} (hv : ¬ v < 0) (hk : ¬ k < 0) (hN' : v.toNatClampNeg = N') (hM' : k.toNatClampNeg = K')
    (hb1 : N' * 4 ≤ 536870912) (hb2 : K' * componentBytes .int ≤ 536870912) (hb3 : K' ≤ 536870912) (hcells : cells + (1 + N') ≤ R.cells) (hslots : slots + (N' + N' * K') ≤ R.slots) {n : Nat} (hn : Y.length = n) (hdg : decode cc pc = .ok (.multianewarray index 2, 4))
    (kk : ∀ (H1 : Heap), RP D B (Y ++ (.inl (ct 5, N', .inr (.inr (.inr (.inr (fun i => some (B + ((n + 1) + 1 * i))))))) :: List.replicate N' (.inl (ct 0, K', .inl (fun _ => 0))))) H1 → va_S (AB B) H0 H1 locs → W p l e R s m args below meth c H1 locs (cells + 1 + N') (slots + N' + N' * K') Q (F0 m (pc + 4) ls (.ref (B + n) :: rest))) : W p l e R s m args below meth c H locs cells slots Q (F0 m pc ls (.int k :: .int v :: rest)) := by
  obtain ⟨hx, hb, hr, hml, hown, hts, hK, hlocks, hNs⟩ := C0
  subst hN'
  subst hM'
  intro T hT Xs
  obtain ⟨vm₁, cA, comp, -, fA, fC, hO, -, X', step⟩ := Jvm.Stand.multianewarray2F Xs hx hown (hts _ hw.1) hNs.2.2.2 (hts _ hw.2) (g := F0 m pc ls (.int k :: .int v :: rest)) rfl (by rw [hb]; exact hdg) rfl hv hk hb1 hb2 hb3 rfl rfl hcells hslots
  have e5 : s.vm.findClass ("[" ++ (FieldType.array .int).toString) = some (ct 5) := (hK.2 5 _ rfl).2
  have e0 : s.vm.findClass ("[" ++ FieldType.int.toString) = some (ct 0) := (hK.2 0 _ rfl).2
  have ecA : cA = ct 5 := Option.some.inj (fA.symm.trans e5)
  have eco : comp = ct 0 := Option.some.inj (fC.symm.trans e0)
  subst ecA
  subst eco
  generalize hF : Jvm.Free.Multi.fill (T.setVm vm₁) (ct 5) (ct 0) v.toNatClampNeg k.toNatClampNeg (defaultValue .int) v.toNatClampNeg = F at X' step
  have hTh : (T.setVm vm₁).heap = H := hT
  obtain ⟨f1, f2, -, -⟩ := Jvm.Free.Multi.fill_facts (T.setVm vm₁) (ct 5) (ct 0) v.toNatClampNeg k.toNatClampNeg (defaultValue .int) v.toNatClampNeg
  rw [hF, hTh] at f1 f2
  have hold : ∀ x : Nat, x < H.size → F.heap[x]? = H[x]? := fun x hx => by
    have := Jvm.Free.Multi.fill_old (T.setVm vm₁) (ct 5) (ct 0) v.toNatClampNeg k.toNatClampNeg (defaultValue .int) (a := x) (by rw [hTh]; exact hx) v.toNatClampNeg
    rw [hF, hTh] at this
    exact this
  have hrow : ∀ j : Nat, j < v.toNatClampNeg → F.heap[H.size + 1 + j]? = some (vp_cell (ct 0) (k.toNatClampNeg, .inl (fun _ => 0))) := fun j hj => by
    have := Jvm.Free.Multi.fill_inner (T.setVm vm₁) (ct 5) (ct 0) v.toNatClampNeg k.toNatClampNeg (defaultValue .int) v.toNatClampNeg j hj
    rw [hF, hTh] at this
    rw [this, vp_cell_i, ← arrV_new]
    rfl
  have hout : Jvm.Free.Multi.outerC (ct 5) v.toNatClampNeg H.size v.toNatClampNeg = vp_cell (ct 5) (v.toNatClampNeg, .inr (.inr (.inr (.inr (fun i => some (B + ((n + 1) + 1 * i))))))) := by
    rw [vp_cell_q, vr_outer (ct 5) v.toNatClampNeg H.size v.toNatClampNeg]
    refine arrV_ext (fun j hj => ?_)
    rw [if_pos hj]
    have h9 : H.size = B + n := hP.1.trans (by rw [hn])
    exact congrArg Value.ref (show H.size + 1 + j = B + ((n + 1) + 1 * j) by rw [h9]; omega)
  rw [hout] at f2
  have e : T.heap.size = H.size := by rw [hT]
  obtain ⟨t, a1, b1⟩ := kk F.heap (RP_push hP (by rw [f1]; simp; omega) hold (fun j e' he => by
    cases j with
    | zero =>
      cases he
      show F.heap[B + (Y.length + 0)]? = _
      rw [show B + (Y.length + 0) = H.size from hP.1.symm]
      exact f2
    | succ j =>
      have he2 : (List.replicate v.toNatClampNeg (Sum.inl (ct 0, k.toNatClampNeg, .inl (fun _ => 0)) : va_E))[j]? = some e' := he
      have hj : j < v.toNatClampNeg := by
        have := (List.getElem?_eq_some_iff.mp he2).1
        rwa [List.length_replicate] at this
      rw [List.getElem?_replicate, if_pos hj] at he2
      cases he2
      show F.heap[B + (Y.length + (j + 1))]? = _
      rw [show B + (Y.length + (j + 1)) = H.size + 1 + j by rw [hP.1]; omega]
      exact hrow j hj)) (AB_new hS (by rw [f1]; omega) hold) F rfl X'
  refine ⟨t, step t ?_, b1⟩
  rw [e, hP.1, hn]
  exact a1
/-- the picture, and new cells behind it -/
def MPR (D : va_G) (ct : Nat → ClassId) (B : Nat) (Hb : Heap) (S : St) (Y : List va_E) (H : Heap) : Prop := (∀ q : Nat, q < B → H[q]? = Hb[q]?) ∧ (∀ (k : Nat) (e : va_E), lay B ct S k = some e → k < tp S ∧ va_at D vwCl (B + k, e) H) ∧ RP D (B + tp S) Y H
theorem MP.lt {D : va_G} {ct : Nat → ClassId} {B : Nat} {Hb : Heap} {S : St} {H : Heap} (hP : MP D ct B Hb S H) {k : Nat} {e : va_E} (h : lay B ct S k = some e) : k < tp S := by
  have := (hP.2.2 k e h).lt
  have h2 := hP.1
  have h3 : B + k < H.size := this
  omega
theorem x_newR (C0 : XC D ct p s m args meth c cc nL ret own) (hP : MP D ct B Hb S H) (hS0 : va_S (AB B) H0 H locs) {ci N index : Nat} {C : String} {T : u_T} (hc : vwCl[ci]? = some (C, T, N)) (hin : ∀ w ∈ u_ws C T N, w ∈ tG) (ty : Nat → FieldType) (hty : ∀ k, k < N → parseFieldDescriptor (T k).2.2.1 = some (ty k)) (hw : Cond.classLink own index C ∈ tG ∧ Cond.instantiable C N ∈ tG ∧ Cond.initialized C ∈ tG)
    {fs : List Value} (hfs : ∀ j, j < N → defaultValue (ty j) = vp_V fs j) (hcells : cells + 1 ≤ R.cells) (hslots : slots + N ≤ R.slots) (hdg : decode cc pc = .ok (.new index, 3))
    (kk : ∀ (H1 : Heap), MPR D ct B Hb S [.inr (ci, fs)] H1 → va_S (AB B) H0 H1 locs → W p l e R s m args below meth c H1 locs (cells + 1) (slots + N) Q (F0 m (pc + 3) ls (.ref (B + tp S) :: rest))) : W p l e R s m args below meth c H locs cells slots Q (F0 m pc ls rest) := by
  obtain ⟨hx, hb, hr, hml, hown, hts, hK, hlocks, hN⟩ := C0
  have hKn := hK.1 ci _ hc
  refine W.newcK hx hb hown (hts _ hw.1) (hts _ hw.2.1) (hts _ hw.2.2) rfl hdg hcells hslots hKn.2.1 hP.1 fun H1 kC hkC e1 z1 o1 => ?_
  have h2 := hP.1
  refine kk H1 ⟨fun q hq => (o1 q (by omega)).trans (hP.2.1 q hq), fun k e he => ⟨hP.lt he, (hP.2.2 k e he).kept (o1 _ (by have := hP.lt he; show B + k < _; omega))⟩, by rw [z1]; rfl, fun j e' he => ?_⟩ (AB_new hS0 (by omega) (fun q hq => o1 q (by omega)))
  have hz : j < 1 := (List.getElem?_eq_some_iff.mp he).1
  have hj0 : j = 0 := by omega
  subst hj0
  cases he
  exact ⟨_, hc, (u_born ty hts hin hKn hkC (show H1[B + tp S + 0]? = _ from e1) hty).to hfs⟩
theorem x_ctorR (C0 : XC D ct p s m args meth c cc nL ret own) {y : MethodName} {bytes : ByteArray} {maxL fr lo n index mc ms : Nat} {As st : List Value} {Y2 : List va_E} {b0 : va_E}
    (hM : Met l y (Cond.code y bytes maxL none :: tG) { frames := fr, cells := mc, slots := ms, locals := lo } (va_Pc (.ref (B + tp S) :: As) (RPK D ct (B + tp S) [b0])) (va_Qv (fun (_ : Unit) => True) (fun _ t => RPK D ct (B + tp S) Y2 t) (AB (B + tp S))) mc ms (AB (B + tp S)))
    (hw : Cond.code y bytes maxL none ∈ tG ∧ Cond.methodLink own index y ∈ tG ∧ Cond.instanceMethod y ∈ tG ∧ Cond.initialized y.cls ∈ tG)
    (hd : y.name = "<init>" ∧ y.cls ≠ "java/lang/invoke/MethodHandle" ∧ y.cls ≠ "java/lang/invoke/VarHandle" ∧ (parseMethodDescriptor y.desc).map (fun d => d.parameters.length) = some n) (hR : fr + 1 ≤ R.frames ∧ 8 + (maxL + 11) + lo ≤ R.locals)
    (hP : MPR D ct B Hb S [b0] H) (hn : As.length = n) (hsize : ls.size = nL) (hst : st = As.reverse ++ .ref (B + tp S) :: rest) (hcat : (rest.map fun v => v.category).sum ≤ 8) (hdg : decode cc pc = .ok (.invokespecial index, 3)) (hf : cells + mc ≤ R.cells ∧ slots + ms ≤ R.slots) (hS : va_S (AB B) H0 H locs)
    (kk : ∀ (H1 : Heap) (locs1 : List Loc), MPR D ct B Hb S Y2 H1 → va_S (AB B) H0 H1 locs1 → W p l e R s m args below meth c H1 locs1 (cells + mc) (slots + ms) Q (F0 m (pc + 3) ls rest)) : W p l e R s m args below meth c H locs cells slots Q (F0 m pc ls st) := by
  obtain ⟨hx, hb, hr, hml, hown, hts, hK, hlocks, hN⟩ := id C0
  obtain ⟨w1, w2, w3, w4⟩ := hw
  obtain ⟨p1, p2, p3⟩ := hP
  have hz0 : H.size = B + tp S + 1 := p3.1
  refine va_callv (va_runI (As := As) (rest := rest) (Ts := tG) (own := own) ⟨hx, hb, hml, hown, hts⟩ hM (cwI n hts (tG_co w1) rfl rfl rfl (hts _ w4) (hts _ w2) (hts _ w3) hd.1 hd.2 hR) ⟨rpk_blind, fun U hU hW => ⟨rfl, by rw [hU]; exact p3, va_K.moved hW.alike hK, hN.warm hW⟩⟩ rfl hn hsize hst (lv_room hcat) hdg hf) hS (fun q _ h => Nat.le_trans (Nat.le_add_right _ _) h) (fun q h => Nat.le_trans (Nat.le_add_right _ _) h) (fun u t H1 locs1 ht hvm hp hB hz hk1 hS1 => kk H1 locs1 ?_ hS1)
  rw [RPK, ht] at hB
  refine ⟨fun q hq => (hk1 q (by omega) (fun z => by unfold AB at z; omega)).trans (p1 q hq), fun k e he => ⟨(p2 k e he).1, (p2 k e he).2.kept (hk1 _ (p2 k e he).2.lt (fun z => ?_))⟩, hB.1⟩
  have h3 := (p2 k e he).1
  unfold AB at z
  have z' : B + tp S ≤ B + k := z
  omega
/-- one of PEOPLE more, as a cell of the picture -/
theorem MPR_pl {H : Heap} {kd : Nat} {fg : Int32} (hP : MPR D ct B Hb S [.inr (ciK kd, [.int (nI kd), .int fg])] H) (hn : 183 ≤ tp S) : MP D ct B Hb (sp S kd fg) H := by
  obtain ⟨p1, p2, p3⟩ := hP
  refine ⟨by rw [p3.1]; show B + tp S + 1 = B + (tp S + 1); omega, p1, fun k e he => ?_⟩
  by_cases h : k = tp S
  · subst h
    have e1 : lay B ct (sp S kd fg) (tp S) = some (.inr (ciK kd, [.int (nI kd), .int fg])) := by
      unfold lay
      rw [List.getElem?_eq_none (show (layT B ct).length ≤ tp S from hn)]
      have : gp (sp S kd fg) (tp S) = some (kd, fg) := if_pos rfl
      show eDy ct _ _ _ (gp (sp S kd fg) (tp S)) = _
      rw [this]
      rfl
    rw [e1] at he
    cases he
    exact p3.2 0 _ rfl
  · have e1 : lay B ct (sp S kd fg) k = lay B ct S k := lay_local rfl rfl rfl (if_neg h)
    rw [e1] at he
    exact (p2 k e he).2
end XRAW2
