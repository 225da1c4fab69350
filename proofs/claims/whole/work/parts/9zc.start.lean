theorem dL_law_0 : decode cL_law 0 = .ok (.new 8, 3) := by decide +kernel
theorem dL_law_3 : decode cL_law 3 = .ok (.dup, 1) := by decide +kernel
theorem dL_law_4 : decode cL_law 4 = .ok (.invokespecial 17, 3) := by decide +kernel
theorem dL_law_7 : decode cL_law 7 = .ok (.astore_n 1, 1) := by decide +kernel
theorem dL_law_8 : decode cL_law 8 = .ok (.new 18, 3) := by decide +kernel
theorem dL_law_11 : decode cL_law 11 = .ok (.dup, 1) := by decide +kernel
theorem dL_law_12 : decode cL_law 12 = .ok (.invokespecial 20, 3) := by decide +kernel
theorem dL_law_15 : decode cL_law 15 = .ok (.astore_n 2, 1) := by decide +kernel
theorem dL_law_16 : decode cL_law 16 = .ok (.iconst 1, 1) := by decide +kernel
theorem dL_law_17 : decode cL_law 17 = .ok (.newarray .long, 2) := by decide +kernel
theorem dL_law_19 : decode cL_law 19 = .ok (.astore_n 3, 1) := by decide +kernel
theorem dL_law_20 : decode cL_law 20 = .ok (.iconst 0, 1) := by decide +kernel
theorem dL_law_21 : decode cL_law 21 = .ok (.istore 4, 2) := by decide +kernel
/-! THE LAW, from its entry -/
def nf11 : List Value := [.null, .null, .null, .int 0, .null, .null, .null, .null, .null, .null, .null]
def nf12 : List Value := [.null, .int 0, .null, .null, .null, .null, .int 0, .int 0, .int 0, .int 0, .null, .null, .null, .null, .null, .int 0, .null, .null, .null, .null, .null, .null, .null, .null, .null, .null, .null, .null, .int 0, .int 0, .int 0, .null, .null, .null, .null, .null, .null, .null, .null, .null, .null, .null, .null, .null, .null, .null, .int 0, .int 0, .int 0, .null, .int 0, .int 0, .int 0, .int 0, .null, .null, .null, .null, .null, .null, .null, .int 0, .int 0, .int 0, .null]
theorem df11 : ∀ j, j < 11 → defaultValue (tyX11 j) = vp_V nf11 j := (fs_1 rfl (fs_1 rfl (fs_1 rfl (fs_1 rfl (fs_1 rfl (fs_1 rfl (fs_1 rfl (fs_1 rfl (fs_1 rfl (fs_1 rfl (fs_1 rfl (fun j h => absurd h (Nat.not_lt_zero j)))))))))))))
theorem df12 : ∀ j, j < 65 → defaultValue (tyX12 j) = vp_V nf12 j := (fs_1 rfl (fs_1 rfl (fs_1 rfl (fs_1 rfl (fs_1 rfl (fs_1 rfl (fs_1 rfl (fs_1 rfl (fs_1 rfl (fs_1 rfl (fs_1 rfl (fs_1 rfl (fs_1 rfl (fs_1 rfl (fs_1 rfl (fs_1 rfl (fs_1 rfl (fs_1 rfl (fs_1 rfl (fs_1 rfl (fs_1 rfl (fs_1 rfl (fs_1 rfl (fs_1 rfl (fs_1 rfl (fs_1 rfl (fs_1 rfl (fs_1 rfl (fs_1 rfl (fs_1 rfl (fs_1 rfl (fs_1 rfl (fs_1 rfl (fs_1 rfl (fs_1 rfl (fs_1 rfl (fs_1 rfl (fs_1 rfl (fs_1 rfl (fs_1 rfl (fs_1 rfl (fs_1 rfl (fs_1 rfl (fs_1 rfl (fs_1 rfl (fs_1 rfl (fs_1 rfl (fs_1 rfl (fs_1 rfl (fs_1 rfl (fs_1 rfl (fs_1 rfl (fs_1 rfl (fs_1 rfl (fs_1 rfl (fs_1 rfl (fs_1 rfl (fs_1 rfl (fs_1 rfl (fs_1 rfl (fs_1 rfl (fs_1 rfl (fs_1 rfl (fs_1 rfl (fs_1 rfl (fun j h => absurd h (Nat.not_lt_zero j)))))))))))))))))))))))))))))))))))))))))))))))))))))))))))))))))))
set_option maxRecDepth 100000 in
theorem len_11 (ct : Nat → ClassId) (B : Nat) : (cells_X11 ct B).length = 136 := rfl
set_option maxRecDepth 100000 in
theorem len_12 (ct : Nat → ClassId) (B : Nat) : (cells_X12 ct B).length = 46 := rfl
set_option maxHeartbeats 4000000 in
set_option maxRecDepth 100000 in
/-- from the entry, for every script, to the end with true -/
theorem whole_start {p : Program} {e : Env} {s : State} {m : MethodId} {below : List Frame} {meth : Method} {c : Code} (l : Launch) (hflags : l.flags = flags0) {b L : Nat} {xs : Nat → Int32} (hL : L ≤ 3072) (C0 : lw_At p s m meth c b L xs) : W p l e room_1 s m #[Value.ref b] below meth c s.heap [] 0 0 (lw_Z below #[Value.ref b] s) (entryFrame m ([Value.ref b] : List Value).toArray 8) := by
  obtain ⟨hx, hb, hr, hml, hown, hts, hX, hbl, hlocks, hgv⟩ := id C0
  have hlt : l.stackTraces = false := by unfold Launch.stackTraces; rw [hflags]; decide +kernel
  have hg : ∀ w ∈ gS, w.before #[Value.ref b] s = true := flat_of_before _ hgv
  obtain ⟨D, ct, hK⟩ := beg_K hts
  obtain ⟨adK, adV, hSK⟩ := beg_S hts hg
  obtain ⟨sa, hEK⟩ := beg_E hts hg
  have A0 : XC D ct p s m #[Value.ref b] meth c cL_law 8 (some .boolean) RL := ⟨hx, hb, hr, hml, hown, fun w hw => hts w (tG_tbl hw), hK, hlocks, beg_N hts⟩
  have hS : va_S (AB s.heap.size) s.heap s.heap [] := va_S.rf
  have hP : RP D s.heap.size [] s.heap := ⟨rfl, fun j e h => (by simp at h)⟩
  obtain ⟨B, eB⟩ : ∃ B : Nat, B = s.heap.size := ⟨_, rfl⟩
  rw [← eB] at hS hP hSK hEK
  have hl := lv_entry ([.ref b]) (n := 8) (Nat.le_of_ble_eq_true rfl)
  rw [lg_entry_eq]
  generalize (lg_sl ([.ref b]) ++ List.replicate (8 - (lg_sl ([.ref b])).length) Slot.unset).toArray = ls at hl ⊢
  have hl : lv_has ls 8 [(0, .ref b)] := hl
  refine y_new (Y := []) (ci := 11) (fs := nf11) A0 hP hS rfl inG11 tyX11 tyX11_ok ⟨wd_27, wd_28, wd_1⟩ df11 (Nat.le_of_ble_eq_true rfl) (Nat.le_of_ble_eq_true rfl) (n := 0) rfl dL_law_0 (fun H hP hS => ?_)
  refine lv_dup hx hb dL_law_3 rfl ?_
  refine y_ctor (k := 0) (As := []) (Y1 := []) A0 (n_X11 l (B + 0)) ⟨wd_31, wd_29, wd_30, wd_1⟩ ⟨rfl, kd_X11_init.2⟩ ⟨Nat.le_of_ble_eq_true rfl, Nat.le_of_ble_eq_true rfl⟩ hP rfl rfl hl.1 rfl (Nat.le_of_ble_eq_true rfl) dL_law_4 ⟨Nat.le_of_ble_eq_true rfl, Nat.le_of_ble_eq_true rfl⟩ hS (fun H locs hP hS => ?_)
  have hP : RP D B (cells_X11 ct B) H := hP
  obtain ⟨Y, eY⟩ : ∃ Y, Y = cells_X11 ct B := ⟨_, rfl⟩
  have lY : Y.length = 136 := by rw [eY]; exact len_11 ct B
  rw [← eY] at hP
  refine lv_astore_n (lv' := [(1, .ref (B + 0)), (0, .ref b)]) hx hb dL_law_7 rfl hl (by decide) rfl (fun ls hl => ?_)
  refine y_new (Y := Y) (ci := 12) (fs := nf12) A0 hP hS rfl inG12 tyX12 tyX12_ok ⟨wd_1135, wd_1136, wd_6⟩ df12 (Nat.le_of_ble_eq_true rfl) (Nat.le_of_ble_eq_true rfl) (n := 136) lY dL_law_8 (fun H hP hS => ?_)
  refine lv_dup hx hb dL_law_11 rfl ?_
  refine y_ctor (k := 136) (As := []) (Y1 := Y) A0 (n_X12 l (B + 136)) ⟨wd_1139, wd_1137, wd_1138, wd_6⟩ ⟨rfl, kd_X12_init.2⟩ ⟨Nat.le_of_ble_eq_true rfl, Nat.le_of_ble_eq_true rfl⟩ hP lY rfl hl.1 rfl (Nat.le_of_ble_eq_true rfl) dL_law_12 ⟨Nat.le_of_ble_eq_true rfl, Nat.le_of_ble_eq_true rfl⟩ hS (fun H locs hP hS => ?_)
  obtain ⟨Z, eZ⟩ : ∃ Z, Z = cells_X12 ct (B + 136) := ⟨_, rfl⟩
  have lZ : Z.length = 46 := by rw [eZ]; exact len_12 ct (B + 136)
  rw [← eZ] at hP
  refine lv_astore_n (lv' := [(2, .ref (B + 136)), (1, .ref (B + 0)), (0, .ref b)]) hx hb dL_law_15 rfl hl (by decide) rfl (fun ls hl => ?_)
  refine lv_iconst (v := 1) hx hb dL_law_16 (by decide) ?_
  refine y_newa (atype := .long) (ty := .long) (q := 1) (N := 1) (a0 := (1, .inr (.inl (fun _ => 0)))) A0 hP hS rfl wd_1337 rfl (by simp) (fun _ => rfl) (by decide) (by decide) (Nat.le_of_ble_eq_true rfl) (Nat.le_of_ble_eq_true rfl) (Nat.le_of_ble_eq_true rfl) (n := 182) (by rw [List.length_append, lY, lZ]) dL_law_17 (fun H hP hS => ?_)
  refine lv_astore_n (lv' := [(3, .ref (B + 182)), (2, .ref (B + 136)), (1, .ref (B + 0)), (0, .ref b)]) hx hb dL_law_19 rfl hl (by decide) rfl (fun ls hl => ?_)
  refine lv_iconst (v := 0) hx hb dL_law_20 (by decide) ?_
  refine lv_istore (lv' := [(4, .int 0), (3, .ref (B + 182)), (2, .ref (B + 136)), (1, .ref (B + 0)), (0, .ref b)]) hx hb dL_law_21 hl (by decide) rfl (fun ls hl => ?_)
  have hl : lv_has ls 8 (LV b B (nI 0)) := lv_sub hl [4, 3, 2, 1, 0] rfl
  have hM : MP D ct B s.heap S0 H := by
    refine MP_born (ct := ct) ?_ (fun q hq => hS.2.1 q (by omega) (Nat.not_le.mpr hq))
    unfold Y0
    rw [← eY, ← eZ, ← List.append_assoc]
    exact hP
  exact L_loop hlt ⟨A0, hSK, hEK, hX, hbl, by omega⟩ hL (by omega) 513 0 (Nat.zero_le L) (by omega) (by decide) (by decide) IC0 IR0 hM hS hl
