theorem dX7_init_0 : decode cX7_init 0 = .ok (.aload_n 0, 1) := by decide +kernel
theorem dX7_init_1 : decode cX7_init 1 = .ok (.invokespecial 1, 3) := by decide +kernel
theorem dX7_init_4 : decode cX7_init 4 = .ok (.aload_n 0, 1) := by decide +kernel
theorem dX7_init_5 : decode cX7_init 5 = .ok (.iload_n 1, 1) := by decide +kernel
theorem dX7_init_6 : decode cX7_init 6 = .ok (.putfield 7, 3) := by decide +kernel
theorem dX7_init_9 : decode cX7_init 9 = .ok (.aload_n 0, 1) := by decide +kernel
theorem dX7_init_10 : decode cX7_init 10 = .ok (.iload_n 2, 1) := by decide +kernel
theorem dX7_init_11 : decode cX7_init 11 = .ok (.putfield 13, 3) := by decide +kernel
theorem dX7_init_14 : decode cX7_init 14 = .ok (.return_, 1) := by decide +kernel
theorem dX0_init_0 : decode cX0_init 0 = .ok (.aload_n 0, 1) := by decide +kernel
theorem dX0_init_1 : decode cX0_init 1 = .ok (.iload_n 1, 1) := by decide +kernel
theorem dX0_init_2 : decode cX0_init 2 = .ok (.iload_n 2, 1) := by decide +kernel
theorem dX0_init_3 : decode cX0_init 3 = .ok (.invokespecial 1, 3) := by decide +kernel
theorem dX0_init_6 : decode cX0_init 6 = .ok (.return_, 1) := by decide +kernel
theorem dX4_init_0 : decode cX4_init 0 = .ok (.aload_n 0, 1) := by decide +kernel
theorem dX4_init_1 : decode cX4_init 1 = .ok (.iload_n 1, 1) := by decide +kernel
theorem dX4_init_2 : decode cX4_init 2 = .ok (.iload_n 2, 1) := by decide +kernel
theorem dX4_init_3 : decode cX4_init 3 = .ok (.invokespecial 1, 3) := by decide +kernel
theorem dX4_init_6 : decode cX4_init 6 = .ok (.return_, 1) := by decide +kernel
theorem dX9_init_0 : decode cX9_init 0 = .ok (.aload_n 0, 1) := by decide +kernel
theorem dX9_init_1 : decode cX9_init 1 = .ok (.iload_n 1, 1) := by decide +kernel
theorem dX9_init_2 : decode cX9_init 2 = .ok (.iload_n 2, 1) := by decide +kernel
theorem dX9_init_3 : decode cX9_init 3 = .ok (.invokespecial 1, 3) := by decide +kernel
theorem dX9_init_6 : decode cX9_init 6 = .ok (.return_, 1) := by decide +kernel
theorem dX5_init_0 : decode cX5_init 0 = .ok (.aload_n 0, 1) := by decide +kernel
theorem dX5_init_1 : decode cX5_init 1 = .ok (.iload_n 1, 1) := by decide +kernel
theorem dX5_init_2 : decode cX5_init 2 = .ok (.iload_n 2, 1) := by decide +kernel
theorem dX5_init_3 : decode cX5_init 3 = .ok (.invokespecial 1, 3) := by decide +kernel
theorem dX5_init_6 : decode cX5_init 6 = .ok (.return_, 1) := by decide +kernel
theorem dX6_init_0 : decode cX6_init 0 = .ok (.aload_n 0, 1) := by decide +kernel
theorem dX6_init_1 : decode cX6_init 1 = .ok (.iload_n 1, 1) := by decide +kernel
theorem dX6_init_2 : decode cX6_init 2 = .ok (.iload_n 2, 1) := by decide +kernel
theorem dX6_init_3 : decode cX6_init 3 = .ok (.invokespecial 1, 3) := by decide +kernel
theorem dX6_init_6 : decode cX6_init 6 = .ok (.return_, 1) := by decide +kernel
theorem dX1_init_0 : decode cX1_init 0 = .ok (.aload_n 0, 1) := by decide +kernel
theorem dX1_init_1 : decode cX1_init 1 = .ok (.iload_n 1, 1) := by decide +kernel
theorem dX1_init_2 : decode cX1_init 2 = .ok (.iload_n 2, 1) := by decide +kernel
theorem dX1_init_3 : decode cX1_init 3 = .ok (.invokespecial 1, 3) := by decide +kernel
theorem dX1_init_6 : decode cX1_init 6 = .ok (.return_, 1) := by decide +kernel
theorem dX3_init_0 : decode cX3_init 0 = .ok (.aload_n 0, 1) := by decide +kernel
theorem dX3_init_1 : decode cX3_init 1 = .ok (.iload_n 1, 1) := by decide +kernel
theorem dX3_init_2 : decode cX3_init 2 = .ok (.iload_n 2, 1) := by decide +kernel
theorem dX3_init_3 : decode cX3_init 3 = .ok (.invokespecial 1, 3) := by decide +kernel
theorem dX3_init_6 : decode cX3_init 6 = .ok (.return_, 1) := by decide +kernel
section CTORS
variable {D : va_G} {ct : Nat → ClassId}
set_option maxRecDepth 100000 in
set_option maxHeartbeats 4000000 in
theorem n_X7_on_7 (l : Launch) (b : Nat) (kd fg : Int32) : Met l yX7_init (Cond.code yX7_init cX7_init 3 none :: tG) { frames := 1, cells := 0, slots := 0, locals := 20 } (va_Pc [.ref b, .int kd, .int fg] (RPK D ct b [.inr (7, [.int 0, .int 0])])) (va_Qv (fun (_ : Unit) => True) (fun _ t => RPK D ct b [.inr (7, [.int kd, .int fg])] t) (AB b)) 0 0 (AB b) := by
  refine mk_metR (by decide +kernel) (Nat.le_of_ble_eq_true rfl) (fun p e s m args below meth c ls C0 hP hl hin => ?_)
  have hS : va_S (AB b) s.heap s.heap [] := va_S.rf
  have hl : lv_has ls 3 [(0, .ref (b + 0)), (1, .int kd), (2, .int fg)] := hl
  have hin : meth.name = "<init>" := hin
  obtain ⟨hx, hb, hr, hml, hown, hts, hK, hlocks, hNs⟩ := id C0
  refine lv_aload_n hx hb dX7_init_0 rfl (lv_at hl 0 rfl) ?_
  refine W.objInit hx hb hown (hts _ wd_47) (hts _ wd_27) (hts _ wd_28) rfl (by rw [hml]; exact hl.1) rfl dX7_init_1 (Nat.le_of_ble_eq_true rfl) (Nat.le_of_ble_eq_true rfl) ?_
  refine W.eq (g2 := F0 m 4 ls []) rfl ?_
  refine lv_aload_n hx hb dX7_init_4 rfl (lv_at hl 0 rfl) ?_
  refine lv_iload_n hx hb dX7_init_5 rfl (lv_at hl 1 rfl) ?_
  refine y_put (k := 0) C0 hP hS rfl rfl inG7 tyX7 tyX7_ok nmX7 0 (by decide) wd_48 (Or.inr ⟨hin, rfl⟩) rfl rfl (Nat.le_of_ble_eq_true rfl) dX7_init_6 (fun H locs hP hS => ?_)
  have hP : RP D b [.inr (7, [.int kd, .int 0])] _ := hP
  refine lv_aload_n hx hb dX7_init_9 rfl (lv_at hl 0 rfl) ?_
  refine lv_iload_n hx hb dX7_init_10 rfl (lv_at hl 2 rfl) ?_
  refine y_put (k := 0) C0 hP hS rfl rfl inG7 tyX7 tyX7_ok nmX7 1 (by decide) wd_50 (Or.inr ⟨hin, rfl⟩) rfl rfl (Nat.le_of_ble_eq_true rfl) dX7_init_11 (fun H locs hP hS => ?_)
  have hP : RP D b [.inr (7, [.int kd, .int fg])] _ := hP
  exact y_ret C0 hP hS dX7_init_14
set_option maxRecDepth 100000 in
set_option maxHeartbeats 4000000 in
theorem n_X7_on_0 (l : Launch) (b : Nat) (kd fg : Int32) : Met l yX7_init (Cond.code yX7_init cX7_init 3 none :: tG) { frames := 1, cells := 0, slots := 0, locals := 20 } (va_Pc [.ref b, .int kd, .int fg] (RPK D ct b [.inr (0, [.int 0, .int 0])])) (va_Qv (fun (_ : Unit) => True) (fun _ t => RPK D ct b [.inr (0, [.int kd, .int fg])] t) (AB b)) 0 0 (AB b) := by
  refine mk_metR (by decide +kernel) (Nat.le_of_ble_eq_true rfl) (fun p e s m args below meth c ls C0 hP hl hin => ?_)
  have hS : va_S (AB b) s.heap s.heap [] := va_S.rf
  have hl : lv_has ls 3 [(0, .ref (b + 0)), (1, .int kd), (2, .int fg)] := hl
  have hin : meth.name = "<init>" := hin
  obtain ⟨hx, hb, hr, hml, hown, hts, hK, hlocks, hNs⟩ := id C0
  refine lv_aload_n hx hb dX7_init_0 rfl (lv_at hl 0 rfl) ?_
  refine W.objInit hx hb hown (hts _ wd_47) (hts _ wd_27) (hts _ wd_28) rfl (by rw [hml]; exact hl.1) rfl dX7_init_1 (Nat.le_of_ble_eq_true rfl) (Nat.le_of_ble_eq_true rfl) ?_
  refine W.eq (g2 := F0 m 4 ls []) rfl ?_
  refine lv_aload_n hx hb dX7_init_4 rfl (lv_at hl 0 rfl) ?_
  refine lv_iload_n hx hb dX7_init_5 rfl (lv_at hl 1 rfl) ?_
  refine y_put (k := 0) C0 hP hS rfl rfl inG0 tyX0 tyX0_ok nmX0 0 (by decide) wd_48 (Or.inr ⟨hin, rfl⟩) rfl rfl (Nat.le_of_ble_eq_true rfl) dX7_init_6 (fun H locs hP hS => ?_)
  have hP : RP D b [.inr (0, [.int kd, .int 0])] _ := hP
  refine lv_aload_n hx hb dX7_init_9 rfl (lv_at hl 0 rfl) ?_
  refine lv_iload_n hx hb dX7_init_10 rfl (lv_at hl 2 rfl) ?_
  refine y_put (k := 0) C0 hP hS rfl rfl inG0 tyX0 tyX0_ok nmX0 1 (by decide) wd_50 (Or.inr ⟨hin, rfl⟩) rfl rfl (Nat.le_of_ble_eq_true rfl) dX7_init_11 (fun H locs hP hS => ?_)
  have hP : RP D b [.inr (0, [.int kd, .int fg])] _ := hP
  exact y_ret C0 hP hS dX7_init_14
set_option maxRecDepth 100000 in
set_option maxHeartbeats 4000000 in
theorem n_X7_on_4 (l : Launch) (b : Nat) (kd fg : Int32) : Met l yX7_init (Cond.code yX7_init cX7_init 3 none :: tG) { frames := 1, cells := 0, slots := 0, locals := 20 } (va_Pc [.ref b, .int kd, .int fg] (RPK D ct b [.inr (4, [.int 0, .int 0])])) (va_Qv (fun (_ : Unit) => True) (fun _ t => RPK D ct b [.inr (4, [.int kd, .int fg])] t) (AB b)) 0 0 (AB b) := by
  refine mk_metR (by decide +kernel) (Nat.le_of_ble_eq_true rfl) (fun p e s m args below meth c ls C0 hP hl hin => ?_)
  have hS : va_S (AB b) s.heap s.heap [] := va_S.rf
  have hl : lv_has ls 3 [(0, .ref (b + 0)), (1, .int kd), (2, .int fg)] := hl
  have hin : meth.name = "<init>" := hin
  obtain ⟨hx, hb, hr, hml, hown, hts, hK, hlocks, hNs⟩ := id C0
  refine lv_aload_n hx hb dX7_init_0 rfl (lv_at hl 0 rfl) ?_
  refine W.objInit hx hb hown (hts _ wd_47) (hts _ wd_27) (hts _ wd_28) rfl (by rw [hml]; exact hl.1) rfl dX7_init_1 (Nat.le_of_ble_eq_true rfl) (Nat.le_of_ble_eq_true rfl) ?_
  refine W.eq (g2 := F0 m 4 ls []) rfl ?_
  refine lv_aload_n hx hb dX7_init_4 rfl (lv_at hl 0 rfl) ?_
  refine lv_iload_n hx hb dX7_init_5 rfl (lv_at hl 1 rfl) ?_
  refine y_put (k := 0) C0 hP hS rfl rfl inG4 tyX4 tyX4_ok nmX4 0 (by decide) wd_48 (Or.inr ⟨hin, rfl⟩) rfl rfl (Nat.le_of_ble_eq_true rfl) dX7_init_6 (fun H locs hP hS => ?_)
  have hP : RP D b [.inr (4, [.int kd, .int 0])] _ := hP
  refine lv_aload_n hx hb dX7_init_9 rfl (lv_at hl 0 rfl) ?_
  refine lv_iload_n hx hb dX7_init_10 rfl (lv_at hl 2 rfl) ?_
  refine y_put (k := 0) C0 hP hS rfl rfl inG4 tyX4 tyX4_ok nmX4 1 (by decide) wd_50 (Or.inr ⟨hin, rfl⟩) rfl rfl (Nat.le_of_ble_eq_true rfl) dX7_init_11 (fun H locs hP hS => ?_)
  have hP : RP D b [.inr (4, [.int kd, .int fg])] _ := hP
  exact y_ret C0 hP hS dX7_init_14
set_option maxRecDepth 100000 in
set_option maxHeartbeats 4000000 in
theorem n_X7_on_9 (l : Launch) (b : Nat) (kd fg : Int32) : Met l yX7_init (Cond.code yX7_init cX7_init 3 none :: tG) { frames := 1, cells := 0, slots := 0, locals := 20 } (va_Pc [.ref b, .int kd, .int fg] (RPK D ct b [.inr (9, [.int 0, .int 0])])) (va_Qv (fun (_ : Unit) => True) (fun _ t => RPK D ct b [.inr (9, [.int kd, .int fg])] t) (AB b)) 0 0 (AB b) := by
  refine mk_metR (by decide +kernel) (Nat.le_of_ble_eq_true rfl) (fun p e s m args below meth c ls C0 hP hl hin => ?_)
  have hS : va_S (AB b) s.heap s.heap [] := va_S.rf
  have hl : lv_has ls 3 [(0, .ref (b + 0)), (1, .int kd), (2, .int fg)] := hl
  have hin : meth.name = "<init>" := hin
  obtain ⟨hx, hb, hr, hml, hown, hts, hK, hlocks, hNs⟩ := id C0
  refine lv_aload_n hx hb dX7_init_0 rfl (lv_at hl 0 rfl) ?_
  refine W.objInit hx hb hown (hts _ wd_47) (hts _ wd_27) (hts _ wd_28) rfl (by rw [hml]; exact hl.1) rfl dX7_init_1 (Nat.le_of_ble_eq_true rfl) (Nat.le_of_ble_eq_true rfl) ?_
  refine W.eq (g2 := F0 m 4 ls []) rfl ?_
  refine lv_aload_n hx hb dX7_init_4 rfl (lv_at hl 0 rfl) ?_
  refine lv_iload_n hx hb dX7_init_5 rfl (lv_at hl 1 rfl) ?_
  refine y_put (k := 0) C0 hP hS rfl rfl inG9 tyX9 tyX9_ok nmX9 0 (by decide) wd_48 (Or.inr ⟨hin, rfl⟩) rfl rfl (Nat.le_of_ble_eq_true rfl) dX7_init_6 (fun H locs hP hS => ?_)
  have hP : RP D b [.inr (9, [.int kd, .int 0])] _ := hP
  refine lv_aload_n hx hb dX7_init_9 rfl (lv_at hl 0 rfl) ?_
  refine lv_iload_n hx hb dX7_init_10 rfl (lv_at hl 2 rfl) ?_
  refine y_put (k := 0) C0 hP hS rfl rfl inG9 tyX9 tyX9_ok nmX9 1 (by decide) wd_50 (Or.inr ⟨hin, rfl⟩) rfl rfl (Nat.le_of_ble_eq_true rfl) dX7_init_11 (fun H locs hP hS => ?_)
  have hP : RP D b [.inr (9, [.int kd, .int fg])] _ := hP
  exact y_ret C0 hP hS dX7_init_14
set_option maxRecDepth 100000 in
set_option maxHeartbeats 4000000 in
theorem n_X7_on_5 (l : Launch) (b : Nat) (kd fg : Int32) : Met l yX7_init (Cond.code yX7_init cX7_init 3 none :: tG) { frames := 1, cells := 0, slots := 0, locals := 20 } (va_Pc [.ref b, .int kd, .int fg] (RPK D ct b [.inr (5, [.int 0, .int 0])])) (va_Qv (fun (_ : Unit) => True) (fun _ t => RPK D ct b [.inr (5, [.int kd, .int fg])] t) (AB b)) 0 0 (AB b) := by
  refine mk_metR (by decide +kernel) (Nat.le_of_ble_eq_true rfl) (fun p e s m args below meth c ls C0 hP hl hin => ?_)
  have hS : va_S (AB b) s.heap s.heap [] := va_S.rf
  have hl : lv_has ls 3 [(0, .ref (b + 0)), (1, .int kd), (2, .int fg)] := hl
  have hin : meth.name = "<init>" := hin
  obtain ⟨hx, hb, hr, hml, hown, hts, hK, hlocks, hNs⟩ := id C0
  refine lv_aload_n hx hb dX7_init_0 rfl (lv_at hl 0 rfl) ?_
  refine W.objInit hx hb hown (hts _ wd_47) (hts _ wd_27) (hts _ wd_28) rfl (by rw [hml]; exact hl.1) rfl dX7_init_1 (Nat.le_of_ble_eq_true rfl) (Nat.le_of_ble_eq_true rfl) ?_
  refine W.eq (g2 := F0 m 4 ls []) rfl ?_
  refine lv_aload_n hx hb dX7_init_4 rfl (lv_at hl 0 rfl) ?_
  refine lv_iload_n hx hb dX7_init_5 rfl (lv_at hl 1 rfl) ?_
  refine y_put (k := 0) C0 hP hS rfl rfl inG5 tyX5 tyX5_ok nmX5 0 (by decide) wd_48 (Or.inr ⟨hin, rfl⟩) rfl rfl (Nat.le_of_ble_eq_true rfl) dX7_init_6 (fun H locs hP hS => ?_)
  have hP : RP D b [.inr (5, [.int kd, .int 0])] _ := hP
  refine lv_aload_n hx hb dX7_init_9 rfl (lv_at hl 0 rfl) ?_
  refine lv_iload_n hx hb dX7_init_10 rfl (lv_at hl 2 rfl) ?_
  refine y_put (k := 0) C0 hP hS rfl rfl inG5 tyX5 tyX5_ok nmX5 1 (by decide) wd_50 (Or.inr ⟨hin, rfl⟩) rfl rfl (Nat.le_of_ble_eq_true rfl) dX7_init_11 (fun H locs hP hS => ?_)
  have hP : RP D b [.inr (5, [.int kd, .int fg])] _ := hP
  exact y_ret C0 hP hS dX7_init_14
set_option maxRecDepth 100000 in
set_option maxHeartbeats 4000000 in
theorem n_X7_on_6 (l : Launch) (b : Nat) (kd fg : Int32) : Met l yX7_init (Cond.code yX7_init cX7_init 3 none :: tG) { frames := 1, cells := 0, slots := 0, locals := 20 } (va_Pc [.ref b, .int kd, .int fg] (RPK D ct b [.inr (6, [.int 0, .int 0])])) (va_Qv (fun (_ : Unit) => True) (fun _ t => RPK D ct b [.inr (6, [.int kd, .int fg])] t) (AB b)) 0 0 (AB b) := by
  refine mk_metR (by decide +kernel) (Nat.le_of_ble_eq_true rfl) (fun p e s m args below meth c ls C0 hP hl hin => ?_)
  have hS : va_S (AB b) s.heap s.heap [] := va_S.rf
  have hl : lv_has ls 3 [(0, .ref (b + 0)), (1, .int kd), (2, .int fg)] := hl
  have hin : meth.name = "<init>" := hin
  obtain ⟨hx, hb, hr, hml, hown, hts, hK, hlocks, hNs⟩ := id C0
  refine lv_aload_n hx hb dX7_init_0 rfl (lv_at hl 0 rfl) ?_
  refine W.objInit hx hb hown (hts _ wd_47) (hts _ wd_27) (hts _ wd_28) rfl (by rw [hml]; exact hl.1) rfl dX7_init_1 (Nat.le_of_ble_eq_true rfl) (Nat.le_of_ble_eq_true rfl) ?_
  refine W.eq (g2 := F0 m 4 ls []) rfl ?_
  refine lv_aload_n hx hb dX7_init_4 rfl (lv_at hl 0 rfl) ?_
  refine lv_iload_n hx hb dX7_init_5 rfl (lv_at hl 1 rfl) ?_
  refine y_put (k := 0) C0 hP hS rfl rfl inG6 tyX6 tyX6_ok nmX6 0 (by decide) wd_48 (Or.inr ⟨hin, rfl⟩) rfl rfl (Nat.le_of_ble_eq_true rfl) dX7_init_6 (fun H locs hP hS => ?_)
  have hP : RP D b [.inr (6, [.int kd, .int 0])] _ := hP
  refine lv_aload_n hx hb dX7_init_9 rfl (lv_at hl 0 rfl) ?_
  refine lv_iload_n hx hb dX7_init_10 rfl (lv_at hl 2 rfl) ?_
  refine y_put (k := 0) C0 hP hS rfl rfl inG6 tyX6 tyX6_ok nmX6 1 (by decide) wd_50 (Or.inr ⟨hin, rfl⟩) rfl rfl (Nat.le_of_ble_eq_true rfl) dX7_init_11 (fun H locs hP hS => ?_)
  have hP : RP D b [.inr (6, [.int kd, .int fg])] _ := hP
  exact y_ret C0 hP hS dX7_init_14
set_option maxRecDepth 100000 in
set_option maxHeartbeats 4000000 in
theorem n_X7_on_1 (l : Launch) (b : Nat) (kd fg : Int32) : Met l yX7_init (Cond.code yX7_init cX7_init 3 none :: tG) { frames := 1, cells := 0, slots := 0, locals := 20 } (va_Pc [.ref b, .int kd, .int fg] (RPK D ct b [.inr (1, [.int 0, .int 0])])) (va_Qv (fun (_ : Unit) => True) (fun _ t => RPK D ct b [.inr (1, [.int kd, .int fg])] t) (AB b)) 0 0 (AB b) := by
  refine mk_metR (by decide +kernel) (Nat.le_of_ble_eq_true rfl) (fun p e s m args below meth c ls C0 hP hl hin => ?_)
  have hS : va_S (AB b) s.heap s.heap [] := va_S.rf
  have hl : lv_has ls 3 [(0, .ref (b + 0)), (1, .int kd), (2, .int fg)] := hl
  have hin : meth.name = "<init>" := hin
  obtain ⟨hx, hb, hr, hml, hown, hts, hK, hlocks, hNs⟩ := id C0
  refine lv_aload_n hx hb dX7_init_0 rfl (lv_at hl 0 rfl) ?_
  refine W.objInit hx hb hown (hts _ wd_47) (hts _ wd_27) (hts _ wd_28) rfl (by rw [hml]; exact hl.1) rfl dX7_init_1 (Nat.le_of_ble_eq_true rfl) (Nat.le_of_ble_eq_true rfl) ?_
  refine W.eq (g2 := F0 m 4 ls []) rfl ?_
  refine lv_aload_n hx hb dX7_init_4 rfl (lv_at hl 0 rfl) ?_
  refine lv_iload_n hx hb dX7_init_5 rfl (lv_at hl 1 rfl) ?_
  refine y_put (k := 0) C0 hP hS rfl rfl inG1 tyX1 tyX1_ok nmX1 0 (by decide) wd_48 (Or.inr ⟨hin, rfl⟩) rfl rfl (Nat.le_of_ble_eq_true rfl) dX7_init_6 (fun H locs hP hS => ?_)
  have hP : RP D b [.inr (1, [.int kd, .int 0])] _ := hP
  refine lv_aload_n hx hb dX7_init_9 rfl (lv_at hl 0 rfl) ?_
  refine lv_iload_n hx hb dX7_init_10 rfl (lv_at hl 2 rfl) ?_
  refine y_put (k := 0) C0 hP hS rfl rfl inG1 tyX1 tyX1_ok nmX1 1 (by decide) wd_50 (Or.inr ⟨hin, rfl⟩) rfl rfl (Nat.le_of_ble_eq_true rfl) dX7_init_11 (fun H locs hP hS => ?_)
  have hP : RP D b [.inr (1, [.int kd, .int fg])] _ := hP
  exact y_ret C0 hP hS dX7_init_14
set_option maxRecDepth 100000 in
set_option maxHeartbeats 4000000 in
theorem n_X7_on_3 (l : Launch) (b : Nat) (kd fg : Int32) : Met l yX7_init (Cond.code yX7_init cX7_init 3 none :: tG) { frames := 1, cells := 0, slots := 0, locals := 20 } (va_Pc [.ref b, .int kd, .int fg] (RPK D ct b [.inr (3, [.int 0, .int 0])])) (va_Qv (fun (_ : Unit) => True) (fun _ t => RPK D ct b [.inr (3, [.int kd, .int fg])] t) (AB b)) 0 0 (AB b) := by
  refine mk_metR (by decide +kernel) (Nat.le_of_ble_eq_true rfl) (fun p e s m args below meth c ls C0 hP hl hin => ?_)
  have hS : va_S (AB b) s.heap s.heap [] := va_S.rf
  have hl : lv_has ls 3 [(0, .ref (b + 0)), (1, .int kd), (2, .int fg)] := hl
  have hin : meth.name = "<init>" := hin
  obtain ⟨hx, hb, hr, hml, hown, hts, hK, hlocks, hNs⟩ := id C0
  refine lv_aload_n hx hb dX7_init_0 rfl (lv_at hl 0 rfl) ?_
  refine W.objInit hx hb hown (hts _ wd_47) (hts _ wd_27) (hts _ wd_28) rfl (by rw [hml]; exact hl.1) rfl dX7_init_1 (Nat.le_of_ble_eq_true rfl) (Nat.le_of_ble_eq_true rfl) ?_
  refine W.eq (g2 := F0 m 4 ls []) rfl ?_
  refine lv_aload_n hx hb dX7_init_4 rfl (lv_at hl 0 rfl) ?_
  refine lv_iload_n hx hb dX7_init_5 rfl (lv_at hl 1 rfl) ?_
  refine y_put (k := 0) C0 hP hS rfl rfl inG3 tyX3 tyX3_ok nmX3 0 (by decide) wd_48 (Or.inr ⟨hin, rfl⟩) rfl rfl (Nat.le_of_ble_eq_true rfl) dX7_init_6 (fun H locs hP hS => ?_)
  have hP : RP D b [.inr (3, [.int kd, .int 0])] _ := hP
  refine lv_aload_n hx hb dX7_init_9 rfl (lv_at hl 0 rfl) ?_
  refine lv_iload_n hx hb dX7_init_10 rfl (lv_at hl 2 rfl) ?_
  refine y_put (k := 0) C0 hP hS rfl rfl inG3 tyX3 tyX3_ok nmX3 1 (by decide) wd_50 (Or.inr ⟨hin, rfl⟩) rfl rfl (Nat.le_of_ble_eq_true rfl) dX7_init_11 (fun H locs hP hS => ?_)
  have hP : RP D b [.inr (3, [.int kd, .int fg])] _ := hP
  exact y_ret C0 hP hS dX7_init_14
set_option maxRecDepth 100000 in
set_option maxHeartbeats 4000000 in
theorem n_X0_on_0 (l : Launch) (b : Nat) (kd fg : Int32) : Met l yX0_init (Cond.code yX0_init cX0_init 3 none :: tG) { frames := 2, cells := 0, slots := 0, locals := 42 } (va_Pc [.ref b, .int kd, .int fg] (RPK D ct b [.inr (0, [.int 0, .int 0])])) (va_Qv (fun (_ : Unit) => True) (fun _ t => RPK D ct b [.inr (0, [.int kd, .int fg])] t) (AB b)) 0 0 (AB b) := by
  refine mk_metR (by decide +kernel) (Nat.le_of_ble_eq_true rfl) (fun p e s m args below meth c ls C0 hP hl hin => ?_)
  have hS : va_S (AB b) s.heap s.heap [] := va_S.rf
  have hl : lv_has ls 3 [(0, .ref (b + 0)), (1, .int kd), (2, .int fg)] := hl
  have hin : meth.name = "<init>" := hin
  obtain ⟨hx, hb, hr, hml, hown, hts, hK, hlocks, hNs⟩ := id C0
  refine lv_aload_n hx hb dX0_init_0 rfl (lv_at hl 0 rfl) ?_
  refine lv_iload_n hx hb dX0_init_1 rfl (lv_at hl 1 rfl) ?_
  refine lv_iload_n hx hb dX0_init_2 rfl (lv_at hl 2 rfl) ?_
  have hP : RP D b (([] : List va_E) ++ [.inr (0, [.int 0, .int 0])]) _ := hP
  refine y_ctor (k := 0) (Y1 := ([] : List va_E)) (As := [.int kd, .int fg]) C0 (n_X7_on_0 l (b + 0) kd fg) ⟨wd_46, wd_363, wd_45, wd_3⟩ ⟨rfl, kd_X7_init.2⟩ ⟨Nat.le_of_ble_eq_true rfl, Nat.le_of_ble_eq_true rfl⟩ hP rfl rfl hl.1 rfl (Nat.le_of_ble_eq_true rfl) dX0_init_3 ⟨Nat.le_of_ble_eq_true rfl, Nat.le_of_ble_eq_true rfl⟩ hS (fun H locs hP hS => ?_)
  have hP : RP D b [.inr (0, [.int kd, .int fg])] _ := hP
  exact y_ret C0 hP hS dX0_init_6
set_option maxRecDepth 100000 in
set_option maxHeartbeats 4000000 in
theorem n_X4_on_4 (l : Launch) (b : Nat) (kd fg : Int32) : Met l yX4_init (Cond.code yX4_init cX4_init 3 none :: tG) { frames := 2, cells := 0, slots := 0, locals := 42 } (va_Pc [.ref b, .int kd, .int fg] (RPK D ct b [.inr (4, [.int 0, .int 0])])) (va_Qv (fun (_ : Unit) => True) (fun _ t => RPK D ct b [.inr (4, [.int kd, .int fg])] t) (AB b)) 0 0 (AB b) := by
  refine mk_metR (by decide +kernel) (Nat.le_of_ble_eq_true rfl) (fun p e s m args below meth c ls C0 hP hl hin => ?_)
  have hS : va_S (AB b) s.heap s.heap [] := va_S.rf
  have hl : lv_has ls 3 [(0, .ref (b + 0)), (1, .int kd), (2, .int fg)] := hl
  have hin : meth.name = "<init>" := hin
  obtain ⟨hx, hb, hr, hml, hown, hts, hK, hlocks, hNs⟩ := id C0
  refine lv_aload_n hx hb dX4_init_0 rfl (lv_at hl 0 rfl) ?_
  refine lv_iload_n hx hb dX4_init_1 rfl (lv_at hl 1 rfl) ?_
  refine lv_iload_n hx hb dX4_init_2 rfl (lv_at hl 2 rfl) ?_
  have hP : RP D b (([] : List va_E) ++ [.inr (4, [.int 0, .int 0])]) _ := hP
  refine y_ctor (k := 0) (Y1 := ([] : List va_E)) (As := [.int kd, .int fg]) C0 (n_X7_on_4 l (b + 0) kd fg) ⟨wd_46, wd_372, wd_45, wd_3⟩ ⟨rfl, kd_X7_init.2⟩ ⟨Nat.le_of_ble_eq_true rfl, Nat.le_of_ble_eq_true rfl⟩ hP rfl rfl hl.1 rfl (Nat.le_of_ble_eq_true rfl) dX4_init_3 ⟨Nat.le_of_ble_eq_true rfl, Nat.le_of_ble_eq_true rfl⟩ hS (fun H locs hP hS => ?_)
  have hP : RP D b [.inr (4, [.int kd, .int fg])] _ := hP
  exact y_ret C0 hP hS dX4_init_6
set_option maxRecDepth 100000 in
set_option maxHeartbeats 4000000 in
theorem n_X5_on_5 (l : Launch) (b : Nat) (kd fg : Int32) : Met l yX5_init (Cond.code yX5_init cX5_init 3 none :: tG) { frames := 2, cells := 0, slots := 0, locals := 42 } (va_Pc [.ref b, .int kd, .int fg] (RPK D ct b [.inr (5, [.int 0, .int 0])])) (va_Qv (fun (_ : Unit) => True) (fun _ t => RPK D ct b [.inr (5, [.int kd, .int fg])] t) (AB b)) 0 0 (AB b) := by
  refine mk_metR (by decide +kernel) (Nat.le_of_ble_eq_true rfl) (fun p e s m args below meth c ls C0 hP hl hin => ?_)
  have hS : va_S (AB b) s.heap s.heap [] := va_S.rf
  have hl : lv_has ls 3 [(0, .ref (b + 0)), (1, .int kd), (2, .int fg)] := hl
  have hin : meth.name = "<init>" := hin
  obtain ⟨hx, hb, hr, hml, hown, hts, hK, hlocks, hNs⟩ := id C0
  refine lv_aload_n hx hb dX5_init_0 rfl (lv_at hl 0 rfl) ?_
  refine lv_iload_n hx hb dX5_init_1 rfl (lv_at hl 1 rfl) ?_
  refine lv_iload_n hx hb dX5_init_2 rfl (lv_at hl 2 rfl) ?_
  have hP : RP D b (([] : List va_E) ++ [.inr (5, [.int 0, .int 0])]) _ := hP
  refine y_ctor (k := 0) (Y1 := ([] : List va_E)) (As := [.int kd, .int fg]) C0 (n_X7_on_5 l (b + 0) kd fg) ⟨wd_46, wd_390, wd_45, wd_3⟩ ⟨rfl, kd_X7_init.2⟩ ⟨Nat.le_of_ble_eq_true rfl, Nat.le_of_ble_eq_true rfl⟩ hP rfl rfl hl.1 rfl (Nat.le_of_ble_eq_true rfl) dX5_init_3 ⟨Nat.le_of_ble_eq_true rfl, Nat.le_of_ble_eq_true rfl⟩ hS (fun H locs hP hS => ?_)
  have hP : RP D b [.inr (5, [.int kd, .int fg])] _ := hP
  exact y_ret C0 hP hS dX5_init_6
set_option maxRecDepth 100000 in
set_option maxHeartbeats 4000000 in
theorem n_X1_on_1 (l : Launch) (b : Nat) (kd fg : Int32) : Met l yX1_init (Cond.code yX1_init cX1_init 3 none :: tG) { frames := 2, cells := 0, slots := 0, locals := 42 } (va_Pc [.ref b, .int kd, .int fg] (RPK D ct b [.inr (1, [.int 0, .int 0])])) (va_Qv (fun (_ : Unit) => True) (fun _ t => RPK D ct b [.inr (1, [.int kd, .int fg])] t) (AB b)) 0 0 (AB b) := by
  refine mk_metR (by decide +kernel) (Nat.le_of_ble_eq_true rfl) (fun p e s m args below meth c ls C0 hP hl hin => ?_)
  have hS : va_S (AB b) s.heap s.heap [] := va_S.rf
  have hl : lv_has ls 3 [(0, .ref (b + 0)), (1, .int kd), (2, .int fg)] := hl
  have hin : meth.name = "<init>" := hin
  obtain ⟨hx, hb, hr, hml, hown, hts, hK, hlocks, hNs⟩ := id C0
  refine lv_aload_n hx hb dX1_init_0 rfl (lv_at hl 0 rfl) ?_
  refine lv_iload_n hx hb dX1_init_1 rfl (lv_at hl 1 rfl) ?_
  refine lv_iload_n hx hb dX1_init_2 rfl (lv_at hl 2 rfl) ?_
  have hP : RP D b (([] : List va_E) ++ [.inr (1, [.int 0, .int 0])]) _ := hP
  refine y_ctor (k := 0) (Y1 := ([] : List va_E)) (As := [.int kd, .int fg]) C0 (n_X7_on_1 l (b + 0) kd fg) ⟨wd_46, wd_408, wd_45, wd_3⟩ ⟨rfl, kd_X7_init.2⟩ ⟨Nat.le_of_ble_eq_true rfl, Nat.le_of_ble_eq_true rfl⟩ hP rfl rfl hl.1 rfl (Nat.le_of_ble_eq_true rfl) dX1_init_3 ⟨Nat.le_of_ble_eq_true rfl, Nat.le_of_ble_eq_true rfl⟩ hS (fun H locs hP hS => ?_)
  have hP : RP D b [.inr (1, [.int kd, .int fg])] _ := hP
  exact y_ret C0 hP hS dX1_init_6
set_option maxRecDepth 100000 in
set_option maxHeartbeats 4000000 in
theorem n_X4_on_9 (l : Launch) (b : Nat) (kd fg : Int32) : Met l yX4_init (Cond.code yX4_init cX4_init 3 none :: tG) { frames := 2, cells := 0, slots := 0, locals := 42 } (va_Pc [.ref b, .int kd, .int fg] (RPK D ct b [.inr (9, [.int 0, .int 0])])) (va_Qv (fun (_ : Unit) => True) (fun _ t => RPK D ct b [.inr (9, [.int kd, .int fg])] t) (AB b)) 0 0 (AB b) := by
  refine mk_metR (by decide +kernel) (Nat.le_of_ble_eq_true rfl) (fun p e s m args below meth c ls C0 hP hl hin => ?_)
  have hS : va_S (AB b) s.heap s.heap [] := va_S.rf
  have hl : lv_has ls 3 [(0, .ref (b + 0)), (1, .int kd), (2, .int fg)] := hl
  have hin : meth.name = "<init>" := hin
  obtain ⟨hx, hb, hr, hml, hown, hts, hK, hlocks, hNs⟩ := id C0
  refine lv_aload_n hx hb dX4_init_0 rfl (lv_at hl 0 rfl) ?_
  refine lv_iload_n hx hb dX4_init_1 rfl (lv_at hl 1 rfl) ?_
  refine lv_iload_n hx hb dX4_init_2 rfl (lv_at hl 2 rfl) ?_
  have hP : RP D b (([] : List va_E) ++ [.inr (9, [.int 0, .int 0])]) _ := hP
  refine y_ctor (k := 0) (Y1 := ([] : List va_E)) (As := [.int kd, .int fg]) C0 (n_X7_on_9 l (b + 0) kd fg) ⟨wd_46, wd_372, wd_45, wd_3⟩ ⟨rfl, kd_X7_init.2⟩ ⟨Nat.le_of_ble_eq_true rfl, Nat.le_of_ble_eq_true rfl⟩ hP rfl rfl hl.1 rfl (Nat.le_of_ble_eq_true rfl) dX4_init_3 ⟨Nat.le_of_ble_eq_true rfl, Nat.le_of_ble_eq_true rfl⟩ hS (fun H locs hP hS => ?_)
  have hP : RP D b [.inr (9, [.int kd, .int fg])] _ := hP
  exact y_ret C0 hP hS dX4_init_6
set_option maxRecDepth 100000 in
set_option maxHeartbeats 4000000 in
theorem n_X5_on_6 (l : Launch) (b : Nat) (kd fg : Int32) : Met l yX5_init (Cond.code yX5_init cX5_init 3 none :: tG) { frames := 2, cells := 0, slots := 0, locals := 42 } (va_Pc [.ref b, .int kd, .int fg] (RPK D ct b [.inr (6, [.int 0, .int 0])])) (va_Qv (fun (_ : Unit) => True) (fun _ t => RPK D ct b [.inr (6, [.int kd, .int fg])] t) (AB b)) 0 0 (AB b) := by
  refine mk_metR (by decide +kernel) (Nat.le_of_ble_eq_true rfl) (fun p e s m args below meth c ls C0 hP hl hin => ?_)
  have hS : va_S (AB b) s.heap s.heap [] := va_S.rf
  have hl : lv_has ls 3 [(0, .ref (b + 0)), (1, .int kd), (2, .int fg)] := hl
  have hin : meth.name = "<init>" := hin
  obtain ⟨hx, hb, hr, hml, hown, hts, hK, hlocks, hNs⟩ := id C0
  refine lv_aload_n hx hb dX5_init_0 rfl (lv_at hl 0 rfl) ?_
  refine lv_iload_n hx hb dX5_init_1 rfl (lv_at hl 1 rfl) ?_
  refine lv_iload_n hx hb dX5_init_2 rfl (lv_at hl 2 rfl) ?_
  have hP : RP D b (([] : List va_E) ++ [.inr (6, [.int 0, .int 0])]) _ := hP
  refine y_ctor (k := 0) (Y1 := ([] : List va_E)) (As := [.int kd, .int fg]) C0 (n_X7_on_6 l (b + 0) kd fg) ⟨wd_46, wd_390, wd_45, wd_3⟩ ⟨rfl, kd_X7_init.2⟩ ⟨Nat.le_of_ble_eq_true rfl, Nat.le_of_ble_eq_true rfl⟩ hP rfl rfl hl.1 rfl (Nat.le_of_ble_eq_true rfl) dX5_init_3 ⟨Nat.le_of_ble_eq_true rfl, Nat.le_of_ble_eq_true rfl⟩ hS (fun H locs hP hS => ?_)
  have hP : RP D b [.inr (6, [.int kd, .int fg])] _ := hP
  exact y_ret C0 hP hS dX5_init_6
set_option maxRecDepth 100000 in
set_option maxHeartbeats 4000000 in
theorem n_X1_on_3 (l : Launch) (b : Nat) (kd fg : Int32) : Met l yX1_init (Cond.code yX1_init cX1_init 3 none :: tG) { frames := 2, cells := 0, slots := 0, locals := 42 } (va_Pc [.ref b, .int kd, .int fg] (RPK D ct b [.inr (3, [.int 0, .int 0])])) (va_Qv (fun (_ : Unit) => True) (fun _ t => RPK D ct b [.inr (3, [.int kd, .int fg])] t) (AB b)) 0 0 (AB b) := by
  refine mk_metR (by decide +kernel) (Nat.le_of_ble_eq_true rfl) (fun p e s m args below meth c ls C0 hP hl hin => ?_)
  have hS : va_S (AB b) s.heap s.heap [] := va_S.rf
  have hl : lv_has ls 3 [(0, .ref (b + 0)), (1, .int kd), (2, .int fg)] := hl
  have hin : meth.name = "<init>" := hin
  obtain ⟨hx, hb, hr, hml, hown, hts, hK, hlocks, hNs⟩ := id C0
  refine lv_aload_n hx hb dX1_init_0 rfl (lv_at hl 0 rfl) ?_
  refine lv_iload_n hx hb dX1_init_1 rfl (lv_at hl 1 rfl) ?_
  refine lv_iload_n hx hb dX1_init_2 rfl (lv_at hl 2 rfl) ?_
  have hP : RP D b (([] : List va_E) ++ [.inr (3, [.int 0, .int 0])]) _ := hP
  refine y_ctor (k := 0) (Y1 := ([] : List va_E)) (As := [.int kd, .int fg]) C0 (n_X7_on_3 l (b + 0) kd fg) ⟨wd_46, wd_408, wd_45, wd_3⟩ ⟨rfl, kd_X7_init.2⟩ ⟨Nat.le_of_ble_eq_true rfl, Nat.le_of_ble_eq_true rfl⟩ hP rfl rfl hl.1 rfl (Nat.le_of_ble_eq_true rfl) dX1_init_3 ⟨Nat.le_of_ble_eq_true rfl, Nat.le_of_ble_eq_true rfl⟩ hS (fun H locs hP hS => ?_)
  have hP : RP D b [.inr (3, [.int kd, .int fg])] _ := hP
  exact y_ret C0 hP hS dX1_init_6
set_option maxRecDepth 100000 in
set_option maxHeartbeats 4000000 in
theorem n_X9_on_9 (l : Launch) (b : Nat) (kd fg : Int32) : Met l yX9_init (Cond.code yX9_init cX9_init 3 none :: tG) { frames := 3, cells := 0, slots := 0, locals := 64 } (va_Pc [.ref b, .int kd, .int fg] (RPK D ct b [.inr (9, [.int 0, .int 0])])) (va_Qv (fun (_ : Unit) => True) (fun _ t => RPK D ct b [.inr (9, [.int kd, .int fg])] t) (AB b)) 0 0 (AB b) := by
  refine mk_metR (by decide +kernel) (Nat.le_of_ble_eq_true rfl) (fun p e s m args below meth c ls C0 hP hl hin => ?_)
  have hS : va_S (AB b) s.heap s.heap [] := va_S.rf
  have hl : lv_has ls 3 [(0, .ref (b + 0)), (1, .int kd), (2, .int fg)] := hl
  have hin : meth.name = "<init>" := hin
  obtain ⟨hx, hb, hr, hml, hown, hts, hK, hlocks, hNs⟩ := id C0
  refine lv_aload_n hx hb dX9_init_0 rfl (lv_at hl 0 rfl) ?_
  refine lv_iload_n hx hb dX9_init_1 rfl (lv_at hl 1 rfl) ?_
  refine lv_iload_n hx hb dX9_init_2 rfl (lv_at hl 2 rfl) ?_
  have hP : RP D b (([] : List va_E) ++ [.inr (9, [.int 0, .int 0])]) _ := hP
  refine y_ctor (k := 0) (Y1 := ([] : List va_E)) (As := [.int kd, .int fg]) C0 (n_X4_on_9 l (b + 0) kd fg) ⟨wd_371, wd_381, wd_370, wd_7⟩ ⟨rfl, kd_X4_init.2⟩ ⟨Nat.le_of_ble_eq_true rfl, Nat.le_of_ble_eq_true rfl⟩ hP rfl rfl hl.1 rfl (Nat.le_of_ble_eq_true rfl) dX9_init_3 ⟨Nat.le_of_ble_eq_true rfl, Nat.le_of_ble_eq_true rfl⟩ hS (fun H locs hP hS => ?_)
  have hP : RP D b [.inr (9, [.int kd, .int fg])] _ := hP
  exact y_ret C0 hP hS dX9_init_6
set_option maxRecDepth 100000 in
set_option maxHeartbeats 4000000 in
theorem n_X6_on_6 (l : Launch) (b : Nat) (kd fg : Int32) : Met l yX6_init (Cond.code yX6_init cX6_init 3 none :: tG) { frames := 3, cells := 0, slots := 0, locals := 64 } (va_Pc [.ref b, .int kd, .int fg] (RPK D ct b [.inr (6, [.int 0, .int 0])])) (va_Qv (fun (_ : Unit) => True) (fun _ t => RPK D ct b [.inr (6, [.int kd, .int fg])] t) (AB b)) 0 0 (AB b) := by
  refine mk_metR (by decide +kernel) (Nat.le_of_ble_eq_true rfl) (fun p e s m args below meth c ls C0 hP hl hin => ?_)
  have hS : va_S (AB b) s.heap s.heap [] := va_S.rf
  have hl : lv_has ls 3 [(0, .ref (b + 0)), (1, .int kd), (2, .int fg)] := hl
  have hin : meth.name = "<init>" := hin
  obtain ⟨hx, hb, hr, hml, hown, hts, hK, hlocks, hNs⟩ := id C0
  refine lv_aload_n hx hb dX6_init_0 rfl (lv_at hl 0 rfl) ?_
  refine lv_iload_n hx hb dX6_init_1 rfl (lv_at hl 1 rfl) ?_
  refine lv_iload_n hx hb dX6_init_2 rfl (lv_at hl 2 rfl) ?_
  have hP : RP D b (([] : List va_E) ++ [.inr (6, [.int 0, .int 0])]) _ := hP
  refine y_ctor (k := 0) (Y1 := ([] : List va_E)) (As := [.int kd, .int fg]) C0 (n_X5_on_6 l (b + 0) kd fg) ⟨wd_389, wd_399, wd_388, wd_9⟩ ⟨rfl, kd_X5_init.2⟩ ⟨Nat.le_of_ble_eq_true rfl, Nat.le_of_ble_eq_true rfl⟩ hP rfl rfl hl.1 rfl (Nat.le_of_ble_eq_true rfl) dX6_init_3 ⟨Nat.le_of_ble_eq_true rfl, Nat.le_of_ble_eq_true rfl⟩ hS (fun H locs hP hS => ?_)
  have hP : RP D b [.inr (6, [.int kd, .int fg])] _ := hP
  exact y_ret C0 hP hS dX6_init_6
set_option maxRecDepth 100000 in
set_option maxHeartbeats 4000000 in
theorem n_X3_on_3 (l : Launch) (b : Nat) (kd fg : Int32) : Met l yX3_init (Cond.code yX3_init cX3_init 3 none :: tG) { frames := 3, cells := 0, slots := 0, locals := 64 } (va_Pc [.ref b, .int kd, .int fg] (RPK D ct b [.inr (3, [.int 0, .int 0])])) (va_Qv (fun (_ : Unit) => True) (fun _ t => RPK D ct b [.inr (3, [.int kd, .int fg])] t) (AB b)) 0 0 (AB b) := by
  refine mk_metR (by decide +kernel) (Nat.le_of_ble_eq_true rfl) (fun p e s m args below meth c ls C0 hP hl hin => ?_)
  have hS : va_S (AB b) s.heap s.heap [] := va_S.rf
  have hl : lv_has ls 3 [(0, .ref (b + 0)), (1, .int kd), (2, .int fg)] := hl
  have hin : meth.name = "<init>" := hin
  obtain ⟨hx, hb, hr, hml, hown, hts, hK, hlocks, hNs⟩ := id C0
  refine lv_aload_n hx hb dX3_init_0 rfl (lv_at hl 0 rfl) ?_
  refine lv_iload_n hx hb dX3_init_1 rfl (lv_at hl 1 rfl) ?_
  refine lv_iload_n hx hb dX3_init_2 rfl (lv_at hl 2 rfl) ?_
  have hP : RP D b (([] : List va_E) ++ [.inr (3, [.int 0, .int 0])]) _ := hP
  refine y_ctor (k := 0) (Y1 := ([] : List va_E)) (As := [.int kd, .int fg]) C0 (n_X1_on_3 l (b + 0) kd fg) ⟨wd_407, wd_417, wd_406, wd_11⟩ ⟨rfl, kd_X1_init.2⟩ ⟨Nat.le_of_ble_eq_true rfl, Nat.le_of_ble_eq_true rfl⟩ hP rfl rfl hl.1 rfl (Nat.le_of_ble_eq_true rfl) dX3_init_3 ⟨Nat.le_of_ble_eq_true rfl, Nat.le_of_ble_eq_true rfl⟩ hS (fun H locs hP hS => ?_)
  have hP : RP D b [.inr (3, [.int kd, .int fg])] _ := hP
  exact y_ret C0 hP hS dX3_init_6
end CTORS
