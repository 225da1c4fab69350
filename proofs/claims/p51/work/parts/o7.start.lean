/-! THE LAW, from its entry -/
theorem dL_law_0 : decode cL_law 0 = .ok (.new 11, 3) := by decide +kernel
theorem dL_law_3 : decode cL_law 3 = .ok (.dup, 1) := by decide +kernel
theorem dL_law_4 : decode cL_law 4 = .ok (.invokespecial 191, 3) := by decide +kernel
theorem dL_law_7 : decode cL_law 7 = .ok (.aload_n 0, 1) := by decide +kernel
theorem dL_law_8 : decode cL_law 8 = .ok (.invokevirtual 192, 3) := by decide +kernel
theorem dL_law_11 : decode cL_law 11 = .ok (.ireturn, 1) := by decide +kernel
theorem dfL : ∀ j, j < 24 → defaultValue (tyL j) = vp_V nfL j := (fs_1 rfl (fs_1 rfl (fs_1 rfl (fs_1 rfl (fs_1 rfl (fs_1 rfl (fs_1 rfl (fs_1 rfl (fs_1 rfl (fs_1 rfl (fs_1 rfl (fs_1 rfl (fs_1 rfl (fs_1 rfl (fs_1 rfl (fs_1 rfl (fs_1 rfl (fs_1 rfl (fs_1 rfl (fs_1 rfl (fs_1 rfl (fs_1 rfl (fs_1 rfl (fs_1 rfl (fun j h => absurd h (Nat.not_lt_zero j))))))))))))))))))))))))))
set_option maxHeartbeats 4000000 in
set_option maxRecDepth 100000 in
/-- from the entry, for every script, to the end with true -/
theorem whole_start {p : Program} {e : Env} {s : State} {m : MethodId} {below : List Frame} {meth : Method} {c : Code} (l : Launch) (hflags : l.flags = flags0) {b L : Nat} {xs : Nat → Int32} (hL : L ≤ 260) (C0 : lw_At p s m meth c b L xs) : W p l e room_1 s m #[Value.ref b] below meth c s.heap [] 0 0 (lw_Z below #[Value.ref b] s) (entryFrame m ([Value.ref b] : List Value).toArray 1) := by
  obtain ⟨hx, hb, hr, hml, hown, hts0, hX, hbl, hlocks, hgv⟩ := id C0
  have hg0 : ∀ w ∈ gS, w.before #[Value.ref b] s = true := flat_of_before _ hgv
  have hd0 := Drawn.sameBut.refl s.drawn lw_cs
  refine W.base ?_
  have hts := dr_words hts0 s.drawn
  have hg := dr_words hg0 s.drawn
  obtain ⟨D, ct, hK⟩ := beg_K hts
  obtain ⟨adK, adV, hSK0⟩ := beg_S hts hg
  have hZ : AZ (s.setDrawn s.drawn) := beg_Z hts
  have A0 : XC D ct p (s.setDrawn s.drawn) m #[Value.ref b] meth c cL_law 1 (some .boolean) RL := ⟨hx, hb, hr, hml, hown, fun w hw => hts w (tG_tbl hw), hK, hlocks, beg_N hts⟩
  have hS0 : va_S (AB s.heap.size) s.heap s.heap [] := va_S.rf
  have hP0 : RP D s.heap.size [] s.heap := ⟨rfl, fun j e h => (by simp at h)⟩
  have hSK1 : SK adK adV s.heap.size (s.setDrawn s.drawn) := hSK0
  obtain ⟨B, eB⟩ : ∃ B : Nat, B = s.heap.size := ⟨_, rfl⟩
  rw [← eB] at hS0 hP0 hSK1
  have hE : XS b L xs adK adV B (s.setDrawn s.drawn) := ⟨hX, by omega, hSK1⟩
  have hl := lv_entry ([.ref b]) (n := 1) (Nat.le_of_ble_eq_true rfl)
  rw [lg_entry_eq]
  generalize (lg_sl ([.ref b]) ++ List.replicate (1 - (lg_sl ([.ref b])).length) Slot.unset).toArray = ls at hl ⊢
  have hl : lv_has ls 1 [(0, .ref b)] := hl
  refine y_new (Y := []) (ci := 12) (fs := nfL) A0 hP0 hS0 rfl inGL tyL tyL_ok ⟨wd_21, wd_22, wd_0⟩ dfL (Nat.le_of_ble_eq_true rfl) (Nat.le_of_ble_eq_true rfl) (n := 0) rfl dL_law_0 (fun H hP hS => ?_)
  refine lv_dup hx hb dL_law_3 rfl ?_
  refine y_ctorZ A0 hZ (n_Linit l (B + 0)) ⟨wd_25, wd_23, wd_24, wd_0⟩ ⟨rfl, kd_L_init.2⟩ ⟨Nat.le_of_ble_eq_true rfl, Nat.le_of_ble_eq_true rfl⟩ hP hl.1 rfl (Nat.le_of_ble_eq_true rfl) dL_law_4 ⟨Nat.le_of_ble_eq_true rfl, Nat.le_of_ble_eq_true rfl⟩ hS (fun H locs hP hS => ?_)
  have hP : RP D B (oL B :: cells_L ct B) H := hP
  have hM : ML D ct B s.heap S0 H := ML_born hP (fun q hq => hS.2.1 q (by omega) (Nat.not_le.mpr hq))
  refine lv_aload_n hx hb dL_law_7 rfl (lv_at hl 0 rfl) ?_
  obtain ⟨Z, hZ1⟩ := HOLDS (xL := L) (xs := xs) hL IC0 LV0 ER0 rfl rfl rfl
  refine nL_Iw (kLV (As := [.ref b]) A0 hE hS (c_L_holds l L xs hZ1) ⟨wd_315, wd_312, wd_314, wp_0, wd_0⟩ kd_L_holds ⟨Nat.le_of_ble_eq_true rfl, Nat.le_of_ble_eq_true rfl⟩ hM rfl hl.1 rfl (Nat.le_of_ble_eq_true rfl) dL_law_8 ⟨Nat.le_of_ble_eq_true rfl, Nat.le_of_ble_eq_true rfl⟩) hS (fun H locs hP hS => ?_)
  refine va_forget (fun q hq => ?_) ?_
  · have h := hS.2.2 q hq
    show s.heap.size ≤ q.base
    rw [← eB]
    exact h
  · exact W.widen (k := 688032) (n := 7038153) (Nat.le_of_ble_eq_true rfl) (Nat.le_of_ble_eq_true rfl) (lw_ret hd0 hx hb hr hlocks dL_law_11)
