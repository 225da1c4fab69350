theorem dX11_keep_0 : decode cX11_keep 0 = .ok (.iload_n 1, 1) := by decide +kernel
theorem dX11_keep_1 : decode cX11_keep 1 = .ok (.invokestatic 127, 3) := by decide +kernel
theorem dX11_keep_4 : decode cX11_keep 4 = .ok (.ifCond .ne 12, 3) := by decide +kernel
theorem dX11_keep_7 : decode cX11_keep 7 = .ok (.iload_n 2, 1) := by decide +kernel
theorem dX11_keep_8 : decode cX11_keep 8 = .ok (.iconst 0, 1) := by decide +kernel
theorem dX11_keep_9 : decode cX11_keep 9 = .ok (.iconst 1, 1) := by decide +kernel
theorem dX11_keep_10 : decode cX11_keep 10 = .ok (.invokestatic 110, 3) := by decide +kernel
theorem dX11_keep_13 : decode cX11_keep 13 = .ok (.ifCond .eq 5, 3) := by decide +kernel
theorem dX11_keep_16 : decode cX11_keep 16 = .ok (.iconst (-1), 1) := by decide +kernel
theorem dX11_keep_17 : decode cX11_keep 17 = .ok (.ireturn, 1) := by decide +kernel
theorem dX11_keep_18 : decode cX11_keep 18 = .ok (.iload_n 2, 1) := by decide +kernel
theorem dX11_keep_19 : decode cX11_keep 19 = .ok (.ifCond .ne 12, 3) := by decide +kernel
theorem dX11_keep_22 : decode cX11_keep 22 = .ok (.aload_n 0, 1) := by decide +kernel
theorem dX11_keep_23 : decode cX11_keep 23 = .ok (.getfield 35, 3) := by decide +kernel
theorem dX11_keep_26 : decode cX11_keep 26 = .ok (.iload_n 1, 1) := by decide +kernel
theorem dX11_keep_27 : decode cX11_keep 27 = .ok (.iconst 0, 1) := by decide +kernel
theorem dX11_keep_28 : decode cX11_keep 28 = .ok (.iastore, 1) := by decide +kernel
theorem dX11_keep_29 : decode cX11_keep 29 = .ok (.iconst 0, 1) := by decide +kernel
theorem dX11_keep_30 : decode cX11_keep 30 = .ok (.ireturn, 1) := by decide +kernel
theorem dX11_keep_31 : decode cX11_keep 31 = .ok (.iload_n 3, 1) := by decide +kernel
theorem dX11_keep_32 : decode cX11_keep 32 = .ok (.iconst 0, 1) := by decide +kernel
theorem dX11_keep_33 : decode cX11_keep 33 = .ok (.bipush 7, 2) := by decide +kernel
theorem dX11_keep_35 : decode cX11_keep 35 = .ok (.invokestatic 110, 3) := by decide +kernel
theorem dX11_keep_38 : decode cX11_keep 38 = .ok (.ifCond .ne 14, 3) := by decide +kernel
theorem dX11_keep_41 : decode cX11_keep 41 = .ok (.iload 4, 2) := by decide +kernel
theorem dX11_keep_43 : decode cX11_keep 43 = .ok (.iconst 0, 1) := by decide +kernel
theorem dX11_keep_44 : decode cX11_keep 44 = .ok (.bipush 9, 2) := by decide +kernel
theorem dX11_keep_46 : decode cX11_keep 46 = .ok (.invokestatic 110, 3) := by decide +kernel
theorem dX11_keep_49 : decode cX11_keep 49 = .ok (.ifCond .eq 5, 3) := by decide +kernel
theorem dX11_keep_52 : decode cX11_keep 52 = .ok (.iconst (-1), 1) := by decide +kernel
theorem dX11_keep_53 : decode cX11_keep 53 = .ok (.ireturn, 1) := by decide +kernel
theorem dX11_keep_54 : decode cX11_keep 54 = .ok (.aload_n 0, 1) := by decide +kernel
theorem dX11_keep_55 : decode cX11_keep 55 = .ok (.getfield 41, 3) := by decide +kernel
theorem dX11_keep_58 : decode cX11_keep 58 = .ok (.iload_n 1, 1) := by decide +kernel
theorem dX11_keep_59 : decode cX11_keep 59 = .ok (.iload_n 3, 1) := by decide +kernel
theorem dX11_keep_60 : decode cX11_keep 60 = .ok (.iload 4, 2) := by decide +kernel
theorem dX11_keep_62 : decode cX11_keep 62 = .ok (.invokestatic 295, 3) := by decide +kernel
theorem dX11_keep_65 : decode cX11_keep 65 = .ok (.aastore, 1) := by decide +kernel
theorem dX11_keep_66 : decode cX11_keep 66 = .ok (.aload_n 0, 1) := by decide +kernel
theorem dX11_keep_67 : decode cX11_keep 67 = .ok (.getfield 35, 3) := by decide +kernel
theorem dX11_keep_70 : decode cX11_keep 70 = .ok (.iload_n 1, 1) := by decide +kernel
theorem dX11_keep_71 : decode cX11_keep 71 = .ok (.iconst 1, 1) := by decide +kernel
theorem dX11_keep_72 : decode cX11_keep 72 = .ok (.iastore, 1) := by decide +kernel
theorem dX11_keep_73 : decode cX11_keep 73 = .ok (.iconst 0, 1) := by decide +kernel
theorem dX11_keep_74 : decode cX11_keep 74 = .ok (.ireturn, 1) := by decide +kernel
def b_X11_keep_0 (v1 : Int32) (v2 : Int32) (v3 : Int32) (v4 : Int32) (S : St) : Option (Int32 × St) := (L_X11_isNoShelf v1 S).bind fun r1 => (if (r1 : Int32) = 0 then (L_X11_isOut v2 0 1 S).bind fun r3 => (if (r3 : Int32) = 0 then (if (v2 : Int32) = 0 then gd (inb v1 8) (nm (si S 66 v1.toNatClampNeg 0) fun S17 => some (0, S17)) else (L_X11_isOut v3 0 7 S).bind fun r6 => (if (r6 : Int32) = 0 then (L_X11_isOut v4 0 9 S).bind fun r8 => (if (r8 : Int32) = 0 then (L_X11_oneOfKind v3 v4 S).bind fun r10 => gd (inb v1 8) ((gq r10.2 r10.1).bind fun k13 => nm (sr r10.2 67 v1.toNatClampNeg (some r10.1)) fun S12 => gd (inb v1 8) (nm (si S12 66 v1.toNatClampNeg 1) fun S15 => some (0, S15))) else some ((-1), S)) else some ((-1), S))) else some ((-1), S)) else some ((-1), S))
def L_X11_keep (a1 : Int32) (a2 : Int32) (a3 : Int32) (a4 : Int32) (S : St) : Option (Int32 × St) := b_X11_keep_0 a1 a2 a3 a4 S
section WALKS
variable {p : Program} {e : Env} {s : State} {m : MethodId} {args : Array Value} {below : List Frame} {meth : Method} {c : Code} {D : va_G} {ct : Nat → ClassId} {B : Nat} {Hb : Heap}
set_option maxRecDepth 100000 in
set_option maxHeartbeats 4000000 in
theorem w_X11_keep_0 (l : Launch) {V : Int32 × St} (C0 : XC D ct p s m args meth c cX11_keep 5 (some .int) RX11) (v1 : Int32) (v2 : Int32) (v3 : Int32) (v4 : Int32) (S : St) {H : Heap} {locs : List Loc} {ls : Array Slot} {cells slots : Nat} (h : (b_X11_keep_0 v1 v2 v3 v4 S).bind some = some V) (hP : MP D ct B Hb S H) (hS : va_S (AB B) s.heap H locs) (hl : lv_has ls 5 [(0, .ref (B + 0)), (1, .int v1), (2, .int v2), (3, .int v3), (4, .int v4)]) (hc : cells + 1 ≤ 1 ∧ slots + 2 * 1 ≤ 2) : W p l e { frames := 5, cells := 1, slots := 2, locals := 107 } s m args below meth c H locs cells slots (MQ below (qIw D ct B Hb V) args s 1 2 (AB B)) (F0 m 0 ls []) := by
  obtain ⟨hx, hb, hr, hml, hown, hts, hK, hlocks, hN⟩ := id C0
  unfold b_X11_keep_0 at h
  refine lv_iload_n hx hb dX11_keep_0 rfl (lv_at hl 1 rfl) ?_
  obtain ⟨r1, hr1, h⟩ := ob_bd h
  refine n_I (kS (As := [.int v1]) C0 (c_X11_isNoShelf l v1 hr1) ⟨wd_354, wd_352, wd_353, wd_1⟩ kd_X11_isNoShelf ⟨Nat.le_of_ble_eq_true rfl, Nat.le_of_ble_eq_true rfl⟩ hP rfl hl.1 rfl (Nat.le_of_ble_eq_true rfl) dX11_keep_1 ⟨by show _ + _ ≤ 1; omega, by show _ + _ ≤ 2; omega⟩) hS (fun H locs hP hS => ?_)
  refine lv_if_ne (tgt := 16) hx hb dX11_keep_4 (by decide) (fun z2 => ?_) (fun z2 => ?_)
  · have h := ob_f h z2
    refine lv_iconst (v := (-1)) hx hb dX11_keep_16 (by decide) ?_
    refine W.widen (k := 1) (n := 2) (by omega) (by omega) ?_
    exact r_Iw C0 hP hS h dX11_keep_17
  · have h := ob_t h z2
    refine lv_iload_n hx hb dX11_keep_7 rfl (lv_at hl 2 rfl) ?_
    refine lv_iconst (v := 0) hx hb dX11_keep_8 (by decide) ?_
    refine lv_iconst (v := 1) hx hb dX11_keep_9 (by decide) ?_
    obtain ⟨r3, hr3, h⟩ := ob_bd h
    refine n_I (kS (As := [.int v2, .int 0, .int 1]) C0 (c_X11_isOut l v2 0 1 hr3) ⟨wd_338, wd_347, wd_337, wd_1⟩ kd_X11_isOut ⟨Nat.le_of_ble_eq_true rfl, Nat.le_of_ble_eq_true rfl⟩ hP rfl hl.1 rfl (Nat.le_of_ble_eq_true rfl) dX11_keep_10 ⟨by show _ + _ ≤ 1; omega, by show _ + _ ≤ 2; omega⟩) hS (fun H locs hP hS => ?_)
    refine lv_if_eq (tgt := 18) hx hb dX11_keep_13 (by decide) (fun z4 => ?_) (fun z4 => ?_)
    · have h := ob_t h z4
      refine lv_iload_n hx hb dX11_keep_18 rfl (lv_at hl 2 rfl) ?_
      refine lv_if_ne (tgt := 31) hx hb dX11_keep_19 (by decide) (fun z5 => ?_) (fun z5 => ?_)
      · have h := ob_f h z5
        refine lv_iload_n hx hb dX11_keep_31 rfl (lv_at hl 3 rfl) ?_
        refine lv_iconst (v := 0) hx hb dX11_keep_32 (by decide) ?_
        refine lv_bipush (v := 7) hx hb dX11_keep_33 (by decide) ?_
        obtain ⟨r6, hr6, h⟩ := ob_bd h
        refine n_I (kS (As := [.int v3, .int 0, .int 7]) C0 (c_X11_isOut l v3 0 7 hr6) ⟨wd_338, wd_347, wd_337, wd_1⟩ kd_X11_isOut ⟨Nat.le_of_ble_eq_true rfl, Nat.le_of_ble_eq_true rfl⟩ hP rfl hl.1 rfl (Nat.le_of_ble_eq_true rfl) dX11_keep_35 ⟨by show _ + _ ≤ 1; omega, by show _ + _ ≤ 2; omega⟩) hS (fun H locs hP hS => ?_)
        refine lv_if_ne (tgt := 52) hx hb dX11_keep_38 (by decide) (fun z7 => ?_) (fun z7 => ?_)
        · have h := ob_f h z7
          refine lv_iconst (v := (-1)) hx hb dX11_keep_52 (by decide) ?_
          refine W.widen (k := 1) (n := 2) (by omega) (by omega) ?_
          exact r_Iw C0 hP hS h dX11_keep_53
        · have h := ob_t h z7
          refine lv_iload hx hb dX11_keep_41 (lv_at hl 4 rfl) ?_
          refine lv_iconst (v := 0) hx hb dX11_keep_43 (by decide) ?_
          refine lv_bipush (v := 9) hx hb dX11_keep_44 (by decide) ?_
          obtain ⟨r8, hr8, h⟩ := ob_bd h
          refine n_I (kS (As := [.int v4, .int 0, .int 9]) C0 (c_X11_isOut l v4 0 9 hr8) ⟨wd_338, wd_347, wd_337, wd_1⟩ kd_X11_isOut ⟨Nat.le_of_ble_eq_true rfl, Nat.le_of_ble_eq_true rfl⟩ hP rfl hl.1 rfl (Nat.le_of_ble_eq_true rfl) dX11_keep_46 ⟨by show _ + _ ≤ 1; omega, by show _ + _ ≤ 2; omega⟩) hS (fun H locs hP hS => ?_)
          refine lv_if_eq (tgt := 54) hx hb dX11_keep_49 (by decide) (fun z9 => ?_) (fun z9 => ?_)
          · have h := ob_t h z9
            refine lv_aload_n hx hb dX11_keep_54 rfl (lv_at hl 0 rfl) ?_
            refine x_get C0 hP (lay_X11 B ct S) rfl inG11 6 (by decide) wd_218 (fun _ h => h) rfl dX11_keep_55 ?_
            refine lv_iload_n hx hb dX11_keep_58 rfl (lv_at hl 1 rfl) ?_
            refine lv_iload_n hx hb dX11_keep_59 rfl (lv_at hl 3 rfl) ?_
            refine lv_iload hx hb dX11_keep_60 (lv_at hl 4 rfl) ?_
            obtain ⟨r10, hr10, h⟩ := ob_bd h
            refine n_R (kS (As := [.int v3, .int v4]) C0 (c_X11_oneOfKind l v3 v4 hr10) ⟨wd_357, wd_355, wd_356, wd_1⟩ kd_X11_oneOfKind ⟨Nat.le_of_ble_eq_true rfl, Nat.le_of_ble_eq_true rfl⟩ hP rfl hl.1 rfl (Nat.le_of_ble_eq_true rfl) dX11_keep_62 ⟨by show _ + _ ≤ 1; omega, by show _ + _ ≤ 2; omega⟩) hS (fun H locs hP hS => ?_)
            obtain ⟨g11, h⟩ := ob_gd h
            obtain ⟨k13, ek13, h⟩ := ob_bd h
            obtain ⟨S12, eS12, h⟩ := ob_nm h
            refine x_astP C0 hP hS (fun S => lay_67 B ct S) ek13 g11 dX11_keep_65 (fun H locs hP hS => ?_)
            rw [← eS12] at hP
            refine lv_aload_n hx hb dX11_keep_66 rfl (lv_at hl 0 rfl) ?_
            refine x_get C0 hP (lay_X11 B ct S12) rfl inG11 5 (by decide) wd_217 (fun _ h => h) rfl dX11_keep_67 ?_
            refine lv_iload_n hx hb dX11_keep_70 rfl (lv_at hl 1 rfl) ?_
            refine lv_iconst (v := 1) hx hb dX11_keep_71 (by decide) ?_
            obtain ⟨g14, h⟩ := ob_gd h
            obtain ⟨S15, eS15, h⟩ := ob_nm h
            refine x_iast C0 hP hS (fun S => lay_66 B ct S) g14 dX11_keep_72 (fun H locs hP hS => ?_)
            rw [← eS15] at hP
            refine lv_iconst (v := 0) hx hb dX11_keep_73 (by decide) ?_
            refine W.widen (k := 1) (n := 2) (by omega) (by omega) ?_
            exact r_Iw C0 hP hS h dX11_keep_74
          · have h := ob_f h z9
            refine lv_iconst (v := (-1)) hx hb dX11_keep_52 (by decide) ?_
            refine W.widen (k := 1) (n := 2) (by omega) (by omega) ?_
            exact r_Iw C0 hP hS h dX11_keep_53
      · have h := ob_t h z5
        refine lv_aload_n hx hb dX11_keep_22 rfl (lv_at hl 0 rfl) ?_
        refine x_get C0 hP (lay_X11 B ct S) rfl inG11 5 (by decide) wd_217 (fun _ h => h) rfl dX11_keep_23 ?_
        refine lv_iload_n hx hb dX11_keep_26 rfl (lv_at hl 1 rfl) ?_
        refine lv_iconst (v := 0) hx hb dX11_keep_27 (by decide) ?_
        obtain ⟨g16, h⟩ := ob_gd h
        obtain ⟨S17, eS17, h⟩ := ob_nm h
        refine x_iast C0 hP hS (fun S => lay_66 B ct S) g16 dX11_keep_28 (fun H locs hP hS => ?_)
        rw [← eS17] at hP
        refine lv_iconst (v := 0) hx hb dX11_keep_29 (by decide) ?_
        refine W.widen (k := 1) (n := 2) (by omega) (by omega) ?_
        exact r_Iw C0 hP hS h dX11_keep_30
    · have h := ob_f h z4
      refine lv_iconst (v := (-1)) hx hb dX11_keep_16 (by decide) ?_
      refine W.widen (k := 1) (n := 2) (by omega) (by omega) ?_
      exact r_Iw C0 hP hS h dX11_keep_17
set_option maxRecDepth 100000 in
set_option maxHeartbeats 4000000 in
theorem c_X11_keep (l : Launch) (a1 : Int32) (a2 : Int32) (a3 : Int32) (a4 : Int32) {D : va_G} {ct : Nat → ClassId} {B : Nat} {Hb : Heap} {S : St} {V : Int32 × St} (h : L_X11_keep a1 a2 a3 a4 S = some V) : Met l yX11_keep (Cond.code yX11_keep cX11_keep 5 (some .int) :: tG) { frames := 5, cells := 1, slots := 2, locals := 107 } (va_Pc [.ref (B + 0), .int a1, .int a2, .int a3, .int a4] (MPK D ct B Hb S)) (qIw D ct B Hb V) 1 2 (AB B) := by
  refine mk_met (by decide +kernel) (Nat.le_of_ble_eq_true rfl) (fun p e s m args below meth c ls C0 hP hl _ => ?_)
  have h := ob_of h
  exact w_X11_keep_0 l C0 a1 a2 a3 a4 S h hP va_S.rf (lv_sub hl [0, 1, 2, 3, 4] rfl) ⟨by omega, by omega⟩
end WALKS
