/-! The law: its small methods. -/
theorem fsL_1 (P0 : Nat) (S : St) (x : Int32) : fsL P0 (si S 136 1 x) = (fsL P0 S).set 1 (.int x) := by
  unfold fsL
  rw [gi_si_s]
  rfl
theorem fsL_3 (P0 : Nat) (S : St) (x : Int32) : fsL P0 (si S 136 3 x) = (fsL P0 S).set 3 (.int x) := by
  unfold fsL
  rw [gi_si_s]
  rfl
theorem fsL_5 (P0 : Nat) (S : St) (x : Int32) : fsL P0 (si S 136 5 x) = (fsL P0 S).set 5 (.int x) := by
  unfold fsL
  rw [gi_si_s]
  rfl
theorem fsL_8 (P0 : Nat) (S : St) (x : Int32) : fsL P0 (si S 136 8 x) = (fsL P0 S).set 8 (.int x) := by
  unfold fsL
  rw [gi_si_s]
  rfl
theorem fsL_9 (P0 : Nat) (S : St) (x : Int32) : fsL P0 (si S 136 9 x) = (fsL P0 S).set 9 (.int x) := by
  unfold fsL
  rw [gi_si_s]
  rfl
theorem fsL_10 (P0 : Nat) (S : St) (x : Int32) : fsL P0 (si S 136 10 x) = (fsL P0 S).set 10 (.int x) := by
  unfold fsL
  rw [gi_si_s]
  rfl
/-- no NaN -/
def nn64 (r : UInt64) : Bool := decide (r &&& 0x7fffffffffffffff ≤ 0x7ff0000000000000)
theorem nn64_ok {r : UInt64} (h : nn64 r = true) : vf_n64 r := by
  unfold vf_n64
  exact of_decide_eq_true h
def dabs (r : UInt64) : UInt64 := r &&& 0x7fffffffffffffff

theorem dL_cell_0 : decode cL_cell 0 = .ok (.iload_n 1, 1) := by decide +kernel
theorem dL_cell_1 : decode cL_cell 1 = .ok (.aload_n 0, 1) := by decide +kernel
theorem dL_cell_2 : decode cL_cell 2 = .ok (.arraylength, 1) := by decide +kernel
theorem dL_cell_3 : decode cL_cell 3 = .ok (.if_icmp .ge 9, 3) := by decide +kernel
theorem dL_cell_6 : decode cL_cell 6 = .ok (.aload_n 0, 1) := by decide +kernel
theorem dL_cell_7 : decode cL_cell 7 = .ok (.iload_n 1, 1) := by decide +kernel
theorem dL_cell_8 : decode cL_cell 8 = .ok (.iaload, 1) := by decide +kernel
theorem dL_cell_9 : decode cL_cell 9 = .ok (.goto 9, 3) := by decide +kernel
theorem dL_cell_12 : decode cL_cell 12 = .ok (.ldc 49, 2) := by decide +kernel
theorem dL_cell_14 : decode cL_cell 14 = .ok (.iload_n 1, 1) := by decide +kernel
theorem dL_cell_15 : decode cL_cell 15 = .ok (.iconst 1, 1) := by decide +kernel
theorem dL_cell_16 : decode cL_cell 16 = .ok (.iadd, 1) := by decide +kernel
theorem dL_cell_17 : decode cL_cell 17 = .ok (.imul, 1) := by decide +kernel
theorem dL_cell_18 : decode cL_cell 18 = .ok (.ireturn, 1) := by decide +kernel
theorem dL_some_0 : decode cL_some 0 = .ok (.aload_n 0, 1) := by decide +kernel
theorem dL_some_1 : decode cL_some 1 = .ok (.iload_n 1, 1) := by decide +kernel
theorem dL_some_2 : decode cL_some 2 = .ok (.invokestatic 50, 3) := by decide +kernel
theorem dL_some_5 : decode cL_some 5 = .ok (.ldc 54, 2) := by decide +kernel
theorem dL_some_7 : decode cL_some 7 = .ok (.iand, 1) := by decide +kernel
theorem dL_some_8 : decode cL_some 8 = .ok (.iload_n 2, 1) := by decide +kernel
theorem dL_some_9 : decode cL_some 9 = .ok (.irem, 1) := by decide +kernel
theorem dL_some_10 : decode cL_some 10 = .ok (.ireturn, 1) := by decide +kernel
theorem dL_told_0 : decode cL_told 0 = .ok (.iload_n 0, 1) := by decide +kernel
theorem dL_told_1 : decode cL_told 1 = .ok (.iconst (-1), 1) := by decide +kernel
theorem dL_told_2 : decode cL_told 2 = .ok (.if_icmp .ne 7, 3) := by decide +kernel
theorem dL_told_5 : decode cL_told 5 = .ok (.iconst 2, 1) := by decide +kernel
theorem dL_told_6 : decode cL_told 6 = .ok (.goto 4, 3) := by decide +kernel
theorem dL_told_9 : decode cL_told 9 = .ok (.iload_n 0, 1) := by decide +kernel
theorem dL_told_10 : decode cL_told 10 = .ok (.ireturn, 1) := by decide +kernel
theorem dL_tell_0 : decode cL_tell 0 = .ok (.aload_n 0, 1) := by decide +kernel
theorem dL_tell_1 : decode cL_tell 1 = .ok (.getfield 10, 3) := by decide +kernel
theorem dL_tell_4 : decode cL_tell 4 = .ok (.bipush 7, 2) := by decide +kernel
theorem dL_tell_6 : decode cL_tell 6 = .ok (.iconst 0, 1) := by decide +kernel
theorem dL_tell_7 : decode cL_tell 7 = .ok (.iload_n 2, 1) := by decide +kernel
theorem dL_tell_8 : decode cL_tell 8 = .ok (.invokevirtual 55, 3) := by decide +kernel
theorem dL_tell_11 : decode cL_tell 11 = .ok (.ifCond .eq 7, 3) := by decide +kernel
theorem dL_tell_14 : decode cL_tell 14 = .ok (.sipush (-7777), 3) := by decide +kernel
theorem dL_tell_17 : decode cL_tell 17 = .ok (.ireturn, 1) := by decide +kernel
theorem dL_tell_18 : decode cL_tell 18 = .ok (.iconst 0, 1) := by decide +kernel
theorem dL_tell_19 : decode cL_tell 19 = .ok (.istore_n 3, 1) := by decide +kernel
theorem dL_tell_20 : decode cL_tell 20 = .ok (.iload_n 3, 1) := by decide +kernel
theorem dL_tell_21 : decode cL_tell 21 = .ok (.iload_n 2, 1) := by decide +kernel
theorem dL_tell_22 : decode cL_tell 22 = .ok (.if_icmp .ge 29, 3) := by decide +kernel
theorem dL_tell_25 : decode cL_tell 25 = .ok (.aload_n 0, 1) := by decide +kernel
theorem dL_tell_26 : decode cL_tell 26 = .ok (.getfield 10, 3) := by decide +kernel
theorem dL_tell_29 : decode cL_tell 29 = .ok (.bipush 7, 2) := by decide +kernel
theorem dL_tell_31 : decode cL_tell 31 = .ok (.iload_n 3, 1) := by decide +kernel
theorem dL_tell_32 : decode cL_tell 32 = .ok (.aload_n 1, 1) := by decide +kernel
theorem dL_tell_33 : decode cL_tell 33 = .ok (.iload_n 3, 1) := by decide +kernel
theorem dL_tell_34 : decode cL_tell 34 = .ok (.iaload, 1) := by decide +kernel
theorem dL_tell_35 : decode cL_tell 35 = .ok (.invokevirtual 59, 3) := by decide +kernel
theorem dL_tell_38 : decode cL_tell 38 = .ok (.ifCond .eq 7, 3) := by decide +kernel
theorem dL_tell_41 : decode cL_tell 41 = .ok (.sipush (-7777), 3) := by decide +kernel
theorem dL_tell_44 : decode cL_tell 44 = .ok (.ireturn, 1) := by decide +kernel
theorem dL_tell_45 : decode cL_tell 45 = .ok (.iinc 3 1, 3) := by decide +kernel
theorem dL_tell_48 : decode cL_tell 48 = .ok (.goto (-28), 3) := by decide +kernel
theorem dL_tell_51 : decode cL_tell 51 = .ok (.aload_n 0, 1) := by decide +kernel
theorem dL_tell_52 : decode cL_tell 52 = .ok (.getfield 10, 3) := by decide +kernel
theorem dL_tell_55 : decode cL_tell 55 = .ok (.bipush 7, 2) := by decide +kernel
theorem dL_tell_57 : decode cL_tell 57 = .ok (.invokevirtual 62, 3) := by decide +kernel
theorem dL_tell_60 : decode cL_tell 60 = .ok (.ireturn, 1) := by decide +kernel
def b_L_cell_0 (xL : Nat) (xs : Nat → Int32) (v1 : Int32) (S : St) : Option Int32 := (if (Int32.ofNat xL : Int32) ≤ v1 then some (790386105 * (v1 + 1)) else gd (inb v1 xL) (some (xs v1.toNatClampNeg)))
def L_L_cell (xL : Nat) (xs : Nat → Int32) (a1 : Int32) (S : St) : Option Int32 := b_L_cell_0 xL xs a1 S
def b_L_some_0 (xL : Nat) (xs : Nat → Int32) (v1 : Int32) (v2 : Int32) (S : St) : Option Int32 := (L_L_cell xL xs v1 S).bind fun r1 => gd (!((v2 : Int32) == 0)) (some ((r1 &&& 2147483647) - (r1 &&& 2147483647) / v2 * v2))
def L_L_some (xL : Nat) (xs : Nat → Int32) (a1 : Int32) (a2 : Int32) (S : St) : Option Int32 := b_L_some_0 xL xs a1 a2 S
def b_L_told_0 (xL : Nat) (xs : Nat → Int32) (v0 : Int32) (S : St) : Option Int32 := (if (v0 : Int32) = ((-1)) then some 2 else some v0)
def L_L_told (xL : Nat) (xs : Nat → Int32) (a0 : Int32) (S : St) : Option Int32 := b_L_told_0 xL xs a0 S
def b_L_tell_20 (xL : Nat) (xs : Nat → Int32) (u1 : Nat) (v2 : Int32) (v3 : Int32) (S : St) : Option ((Int32 × Int32 × St) ⊕ (Int32 × St)) := (if (v2 : Int32) ≤ v3 then (L_X11_town 7 S).bind fun r2 => gd (lq S r2.2) (some (.inr (r2.1, r2.2))) else (dyl S u1).bind fun n5 => gd (inb v3 n5) ((L_X11_put 7 v3 (gi S u1 v3.toNatClampNeg) S).bind fun r6 => gd (lq S r6.2) ((if (r6.1 : Int32) = 0 then some (.inl (v2, (v3 + 1), r6.2)) else some (.inr ((-7777), r6.2))))))
def l_L_tell_20 (xL : Nat) (xs : Nat → Int32) (u1 : Nat) (x : (Int32 × Int32 × St)) : Option ((Int32 × Int32 × St) ⊕ (Int32 × St)) := b_L_tell_20 xL xs u1 x.1 x.2.1 x.2.2
def b_L_tell_0 (xL : Nat) (xs : Nat → Int32) (u1 : Nat) (v2 : Int32) (S : St) : Option (Int32 × St) := (L_X11_row 7 0 v2 S).bind fun r1 => gd (lq S r1.2) ((if (r1.1 : Int32) = 0 then (lp 1000 (l_L_tell_20 xL xs u1) (v2, 0, r1.2)) else some ((-7777), r1.2)))
def L_L_tell (xL : Nat) (xs : Nat → Int32) (u1 : Nat) (a2 : Int32) (S : St) : Option (Int32 × St) := b_L_tell_0 xL xs u1 a2 S
section WALKS
variable {p : Program} {e : Env} {s : State} {m : MethodId} {args : Array Value} {below : List Frame} {meth : Method} {c : Code} {D : va_G} {ct : Nat → ClassId} {P0 : Nat} {Hb : Heap} {xb : Nat} {adK adV : Nat → Nat}
set_option maxRecDepth 100000 in
set_option maxHeartbeats 4000000 in
theorem w_L_cell_0 (l : Launch) {V : Int32} (C0 : XC D ct p s m args meth c cL_cell 2 (some .int) RL) (xL : Nat) (xs : Nat → Int32) (hE : XS xb xL xs adK adV P0 s) (v1 : Int32) (S : St) {H : Heap} {locs : List Loc} {ls : Array Slot} (h : (b_L_cell_0 xL xs v1 S).bind some = some V) (hP : ML D ct P0 Hb S H) (hS : va_S (AB P0) s.heap H locs) (hl : lv_has ls 2 [(0, .ref xb), (1, .int v1)]) : W p l e { frames := 0, cells := 0, slots := 0, locals := 0 } s m args below meth c H locs 0 0 (MQ below (qLI D ct P0 Hb S V) args s 0 0 (AB P0)) (F0 m 0 ls []) := by
  obtain ⟨hx, hb, hr, hml, hown, hts, hK, hlocks, hN⟩ := id C0
  unfold b_L_cell_0 at h
  refine lv_iload_n hx hb dL_cell_0 rfl (lv_at hl 1 rfl) ?_
  refine lv_aload_n hx hb dL_cell_1 rfl (lv_at hl 0 rfl) ?_
  refine xl_slen C0 hE hS dL_cell_2 ?_
  refine lv_icmp_ge (tgt := 12) hx hb dL_cell_3 (by decide) (fun z1 => ?_) (fun z1 => ?_)
  · have h := ob_t h z1
    refine lv_ldc (v := 790386105) hx hb hown (hts _ wd_326) dL_cell_12 ?_
    refine lv_iload_n hx hb dL_cell_14 rfl (lv_at hl 1 rfl) ?_
    refine lv_iconst (v := 1) hx hb dL_cell_15 (by decide) ?_
    refine lv_iadd hx hb dL_cell_16 ?_
    refine lv_imul hx hb dL_cell_17 ?_
    exact rl_I C0 hP hS h dL_cell_18
  · have h := ob_f h z1
    refine lv_aload_n hx hb dL_cell_6 rfl (lv_at hl 0 rfl) ?_
    refine lv_iload_n hx hb dL_cell_7 rfl (lv_at hl 1 rfl) ?_
    obtain ⟨g2, h⟩ := ob_gd h
    refine xl_sld C0 hE hS g2 dL_cell_8 ?_
    refine lv_goto (tgt := 18) hx hb dL_cell_9 (by decide) ?_
    exact rl_I C0 hP hS h dL_cell_18
set_option maxRecDepth 100000 in
set_option maxHeartbeats 4000000 in
theorem c_L_cell (l : Launch) (xL : Nat) (xs : Nat → Int32) (a1 : Int32) {D : va_G} {ct : Nat → ClassId} {P0 : Nat} {Hb : Heap} {xb : Nat} {adK adV : Nat → Nat} {S : St} {V : Int32} (h : L_L_cell xL xs a1 S = some V) : Met l yL_cell (Cond.code yL_cell cL_cell 2 (some .int) :: tG) { frames := 0, cells := 0, slots := 0, locals := 0 } (va_Pc [.ref xb, .int a1] (MLK D ct P0 Hb xb xL xs adK adV S)) (qLI D ct P0 Hb S V) 0 0 (AB P0) := by
  refine mk_metL (by decide +kernel) (Nat.le_of_ble_eq_true rfl) (fun p e s m args below meth c ls C0 hE hP hl _ => ?_)
  have h := ob_of h
  exact w_L_cell_0 l C0 xL xs hE a1 S h hP va_S.rf (lv_sub hl [0, 1] rfl)
set_option maxRecDepth 100000 in
set_option maxHeartbeats 4000000 in
theorem w_L_some_0 (l : Launch) {V : Int32} (C0 : XC D ct p s m args meth c cL_some 3 (some .int) RL) (xL : Nat) (xs : Nat → Int32) (hE : XS xb xL xs adK adV P0 s) (v1 : Int32) (v2 : Int32) (S : St) {H : Heap} {locs : List Loc} {ls : Array Slot} (h : (b_L_some_0 xL xs v1 v2 S).bind some = some V) (hP : ML D ct P0 Hb S H) (hS : va_S (AB P0) s.heap H locs) (hl : lv_has ls 3 [(0, .ref xb), (1, .int v1), (2, .int v2)]) : W p l e { frames := 1, cells := 0, slots := 0, locals := 21 } s m args below meth c H locs 0 0 (MQ below (qLI D ct P0 Hb S V) args s 0 0 (AB P0)) (F0 m 0 ls []) := by
  obtain ⟨hx, hb, hr, hml, hown, hts, hK, hlocks, hN⟩ := id C0
  unfold b_L_some_0 at h
  refine lv_aload_n hx hb dL_some_0 rfl (lv_at hl 0 rfl) ?_
  refine lv_iload_n hx hb dL_some_1 rfl (lv_at hl 1 rfl) ?_
  obtain ⟨r1, hr1, h⟩ := ob_bd h
  refine nL_I (kLS (As := [.ref xb, .int v1]) C0 hE hS (c_L_cell l xL xs v1 hr1) ⟨wd_325, wd_323, wd_324, wd_0⟩ kd_L_cell ⟨Nat.le_of_ble_eq_true rfl, Nat.le_of_ble_eq_true rfl⟩ hP rfl hl.1 rfl (Nat.le_of_ble_eq_true rfl) dL_some_2 ⟨Nat.le_of_ble_eq_true rfl, Nat.le_of_ble_eq_true rfl⟩) hS (fun H locs hP hS => ?_)
  refine lv_ldc (v := 2147483647) hx hb hown (hts _ wd_327) dL_some_5 ?_
  refine lv_iand hx hb dL_some_7 ?_
  refine lv_iload_n hx hb dL_some_8 rfl (lv_at hl 2 rfl) ?_
  obtain ⟨g2, h⟩ := ob_gd h
  refine lv_irem hx hb dL_some_9 (by simpa using g2) ?_
  exact rl_I C0 hP hS h dL_some_10
set_option maxRecDepth 100000 in
set_option maxHeartbeats 4000000 in
theorem c_L_some (l : Launch) (xL : Nat) (xs : Nat → Int32) (a1 : Int32) (a2 : Int32) {D : va_G} {ct : Nat → ClassId} {P0 : Nat} {Hb : Heap} {xb : Nat} {adK adV : Nat → Nat} {S : St} {V : Int32} (h : L_L_some xL xs a1 a2 S = some V) : Met l yL_some (Cond.code yL_some cL_some 3 (some .int) :: tG) { frames := 1, cells := 0, slots := 0, locals := 21 } (va_Pc [.ref xb, .int a1, .int a2] (MLK D ct P0 Hb xb xL xs adK adV S)) (qLI D ct P0 Hb S V) 0 0 (AB P0) := by
  refine mk_metL (by decide +kernel) (Nat.le_of_ble_eq_true rfl) (fun p e s m args below meth c ls C0 hE hP hl _ => ?_)
  have h := ob_of h
  exact w_L_some_0 l C0 xL xs hE a1 a2 S h hP va_S.rf (lv_sub hl [0, 1, 2] rfl)
set_option maxRecDepth 100000 in
set_option maxHeartbeats 4000000 in
theorem w_L_told_0 (l : Launch) {V : Int32} (C0 : XC D ct p s m args meth c cL_told 1 (some .int) RL) (xL : Nat) (xs : Nat → Int32) (hE : XS xb xL xs adK adV P0 s) (v0 : Int32) (S : St) {H : Heap} {locs : List Loc} {ls : Array Slot} (h : (b_L_told_0 xL xs v0 S).bind some = some V) (hP : ML D ct P0 Hb S H) (hS : va_S (AB P0) s.heap H locs) (hl : lv_has ls 1 [(0, .int v0)]) : W p l e { frames := 0, cells := 0, slots := 0, locals := 0 } s m args below meth c H locs 0 0 (MQ below (qLI D ct P0 Hb S V) args s 0 0 (AB P0)) (F0 m 0 ls []) := by
  obtain ⟨hx, hb, hr, hml, hown, hts, hK, hlocks, hN⟩ := id C0
  unfold b_L_told_0 at h
  refine lv_iload_n hx hb dL_told_0 rfl (lv_at hl 0 rfl) ?_
  refine lv_iconst (v := (-1)) hx hb dL_told_1 (by decide) ?_
  refine lv_icmp_ne (tgt := 9) hx hb dL_told_2 (by decide) (fun z1 => ?_) (fun z1 => ?_)
  · have h := ob_f h z1
    refine lv_iload_n hx hb dL_told_9 rfl (lv_at hl 0 rfl) ?_
    exact rl_I C0 hP hS h dL_told_10
  · have h := ob_t h z1
    refine lv_iconst (v := 2) hx hb dL_told_5 (by decide) ?_
    refine lv_goto (tgt := 10) hx hb dL_told_6 (by decide) ?_
    exact rl_I C0 hP hS h dL_told_10
set_option maxRecDepth 100000 in
set_option maxHeartbeats 4000000 in
theorem c_L_told (l : Launch) (xL : Nat) (xs : Nat → Int32) (a0 : Int32) {D : va_G} {ct : Nat → ClassId} {P0 : Nat} {Hb : Heap} {xb : Nat} {adK adV : Nat → Nat} {S : St} {V : Int32} (h : L_L_told xL xs a0 S = some V) : Met l yL_told (Cond.code yL_told cL_told 1 (some .int) :: tG) { frames := 0, cells := 0, slots := 0, locals := 0 } (va_Pc [.int a0] (MLK D ct P0 Hb xb xL xs adK adV S)) (qLI D ct P0 Hb S V) 0 0 (AB P0) := by
  refine mk_metL (by decide +kernel) (Nat.le_of_ble_eq_true rfl) (fun p e s m args below meth c ls C0 hE hP hl _ => ?_)
  have h := ob_of h
  exact w_L_told_0 l C0 xL xs hE a0 S h hP va_S.rf (lv_sub hl [0] rfl)
set_option maxRecDepth 100000 in
set_option maxHeartbeats 4000000 in
theorem w_L_tell_20 (l : Launch) {V : Int32 × St} (C0 : XC D ct p s m args meth c cL_tell 4 (some .int) RL) (xL : Nat) (xs : Nat → Int32) (hE : XS xb xL xs adK adV P0 s) (u1 : Nat) (n0 : Nat) (ih0 : ∀ (v2 : Int32) (v3 : Int32) (S : St) (H : Heap) (locs : List Loc) (ls : Array Slot) (cells slots : Nat), (lp n0 (l_L_tell_20 xL xs u1) (v2, v3, S)).bind some = some V → ML D ct P0 Hb S H → va_S (AB P0) s.heap H locs → lv_has ls 4 [(0, .ref P0), (1, .ref (P0 + 1 + u1)), (2, .int v2), (3, .int v3)] → (cells + (n0 * 0 + 40) ≤ 40 ∧ slots + 10 * (n0 * 0 + 40) ≤ 400) → W p l e { frames := 9, cells := 40, slots := 400, locals := 199 } s m args below meth c H locs cells slots (MQ below (qLIw D ct P0 Hb V) args s 40 400 (AB P0)) (F0 m 20 ls [])) (v2 : Int32) (v3 : Int32) (S : St) {H : Heap} {locs : List Loc} {ls : Array Slot} {cells slots : Nat} (h : (b_L_tell_20 xL xs u1 v2 v3 S).bind (lpF n0 (l_L_tell_20 xL xs u1) some) = some V) (hP : ML D ct P0 Hb S H) (hS : va_S (AB P0) s.heap H locs) (hl : lv_has ls 4 [(0, .ref P0), (1, .ref (P0 + 1 + u1)), (2, .int v2), (3, .int v3)]) (hc : cells + ((n0 + 1) * 0 + 40) ≤ 40 ∧ slots + 10 * ((n0 + 1) * 0 + 40) ≤ 400) : W p l e { frames := 9, cells := 40, slots := 400, locals := 199 } s m args below meth c H locs cells slots (MQ below (qLIw D ct P0 Hb V) args s 40 400 (AB P0)) (F0 m 20 ls []) := by
  obtain ⟨hx, hb, hr, hml, hown, hts, hK, hlocks, hN⟩ := id C0
  unfold b_L_tell_20 at h
  refine lv_iload_n hx hb dL_tell_20 rfl (lv_at hl 3 rfl) ?_
  refine lv_iload_n hx hb dL_tell_21 rfl (lv_at hl 2 rfl) ?_
  refine lv_icmp_ge (tgt := 51) hx hb dL_tell_22 (by decide) (fun z1 => ?_) (fun z1 => ?_)
  · have h := ob_t h z1
    refine lv_aload_n hx hb dL_tell_51 rfl (lv_at hl 0 rfl) ?_
    refine xl_get (v := .ref (P0 + 1 + 0)) C0 hP 0 (by decide) wd_249 rfl rfl dL_tell_52 ?_
    refine lv_bipush (v := 7) hx hb dL_tell_55 (by decide) ?_
    obtain ⟨r2, hr2, h⟩ := ob_bd h
    obtain ⟨g3, h⟩ := ob_gd h
    refine nl_Iw (kVT (As := [.int 7]) C0 hE hS (c_X11_town l 7 hr2) ⟨wd_486, wd_483, wd_484, wd_485, wd_1⟩ kd_X11_town ⟨Nat.le_of_ble_eq_true rfl, Nat.le_of_ble_eq_true rfl⟩ hP.1 (lay_X11 (P0 + 1) ct S) rfl rfl hl.1 rfl (Nat.le_of_ble_eq_true rfl) dL_tell_57 ⟨by show _ + _ ≤ 40; omega, by show _ + _ ≤ 400; omega⟩) hP g3 hS (fun H locs hP hS => ?_)
    refine W.widen (k := 40) (n := 400) (by omega) (by omega) ?_
    exact rl_Iw C0 hP hS h dL_tell_60
  · have h := ob_f h z1
    refine lv_aload_n hx hb dL_tell_25 rfl (lv_at hl 0 rfl) ?_
    refine xl_get (v := .ref (P0 + 1 + 0)) C0 hP 0 (by decide) wd_249 rfl rfl dL_tell_26 ?_
    refine lv_bipush (v := 7) hx hb dL_tell_29 (by decide) ?_
    refine lv_iload_n hx hb dL_tell_31 rfl (lv_at hl 3 rfl) ?_
    refine lv_aload_n hx hb dL_tell_32 rfl (lv_at hl 1 rfl) ?_
    refine lv_iload_n hx hb dL_tell_33 rfl (lv_at hl 3 rfl) ?_
    obtain ⟨n5, en5, h⟩ := ob_bd h
    obtain ⟨g4, h⟩ := ob_gd h
    refine x_iald C0 hP.1 (lay_dy (P0 + 1) ct en5) g4 dL_tell_34 ?_
    obtain ⟨r6, hr6, h⟩ := ob_bd h
    obtain ⟨g7, h⟩ := ob_gd h
    refine nl_Iw (kV (As := [.int 7, .int v3, .int (gi S u1 v3.toNatClampNeg)]) C0 (c_X11_put l 7 v3 (gi S u1 v3.toNatClampNeg) hr6) ⟨wd_473, wd_470, wd_471, wd_472, wd_1⟩ kd_X11_put ⟨Nat.le_of_ble_eq_true rfl, Nat.le_of_ble_eq_true rfl⟩ hP.1 (lay_X11 (P0 + 1) ct S) rfl rfl hl.1 rfl (Nat.le_of_ble_eq_true rfl) dL_tell_35 ⟨by show _ + _ ≤ 40; omega, by show _ + _ ≤ 400; omega⟩) hP g7 hS (fun H locs hP hS => ?_)
    refine lv_if_eq (tgt := 45) hx hb dL_tell_38 (by decide) (fun z8 => ?_) (fun z8 => ?_)
    · have h := ob_t h z8
      refine lv_iinc (v := v3 + 1) (lv' := [(3, .int (v3 + 1)), (0, .ref P0), (1, .ref (P0 + 1 + u1)), (2, .int v2)]) hx hb dL_tell_45 hl (k := 3) rfl rfl (by decide) rfl (fun ls hl => ?_)
      refine lv_goto (tgt := 20) hx hb dL_tell_48 (by decide) ?_
      exact ih0 v2 (v3 + 1) r6.2 _ _ _ _ _ h hP hS (lv_sub hl [1, 2, 3, 0] rfl) ⟨by omega, by omega⟩
    · have h := ob_f h z8
      refine lv_sipush (v := (-7777)) hx hb dL_tell_41 (by decide) ?_
      refine W.widen (k := 40) (n := 400) (by omega) (by omega) ?_
      exact rl_Iw C0 hP hS h dL_tell_44
set_option maxRecDepth 100000 in
set_option maxHeartbeats 4000000 in
theorem wl_L_tell_20 (l : Launch) {V : Int32 × St} (C0 : XC D ct p s m args meth c cL_tell 4 (some .int) RL) (xL : Nat) (xs : Nat → Int32) (hE : XS xb xL xs adK adV P0 s) (u1 : Nat)  : ∀ (n0 : Nat) (v2 : Int32) (v3 : Int32) (S : St) {H : Heap} {locs : List Loc} {ls : Array Slot} {cells slots : Nat}, (lp n0 (l_L_tell_20 xL xs u1) (v2, v3, S)).bind some = some V → ML D ct P0 Hb S H → va_S (AB P0) s.heap H locs → lv_has ls 4 [(0, .ref P0), (1, .ref (P0 + 1 + u1)), (2, .int v2), (3, .int v3)] → (cells + (n0 * 0 + 40) ≤ 40 ∧ slots + 10 * (n0 * 0 + 40) ≤ 400) → W p l e { frames := 9, cells := 40, slots := 400, locals := 199 } s m args below meth c H locs cells slots (MQ below (qLIw D ct P0 Hb V) args s 40 400 (AB P0)) (F0 m 20 ls []) := by
  intro n0
  induction n0 with
  | zero =>
    intro v2 v3 S H locs ls cells slots h hP hS hl hc
    exact (lp_0 h).elim
  | succ n0 ih0 =>
    intro v2 v3 S H locs ls cells slots h hP hS hl hc
    have h := lp_s h
    exact w_L_tell_20 l C0 xL xs hE u1 n0 (fun v2 v3 S H locs ls cells slots h hP hS hl hc => ih0 v2 v3 S h hP hS hl hc) v2 v3 S h hP hS hl ⟨by omega, by omega⟩
set_option maxRecDepth 100000 in
set_option maxHeartbeats 4000000 in
theorem w_L_tell_0 (l : Launch) {V : Int32 × St} (C0 : XC D ct p s m args meth c cL_tell 4 (some .int) RL) (xL : Nat) (xs : Nat → Int32) (hE : XS xb xL xs adK adV P0 s) (u1 : Nat) (v2 : Int32) (S : St) {H : Heap} {locs : List Loc} {ls : Array Slot} {cells slots : Nat} (h : (b_L_tell_0 xL xs u1 v2 S).bind some = some V) (hP : ML D ct P0 Hb S H) (hS : va_S (AB P0) s.heap H locs) (hl : lv_has ls 4 [(0, .ref P0), (1, .ref (P0 + 1 + u1)), (2, .int v2)]) (hc : cells + 40 ≤ 40 ∧ slots + 10 * 40 ≤ 400) : W p l e { frames := 9, cells := 40, slots := 400, locals := 199 } s m args below meth c H locs cells slots (MQ below (qLIw D ct P0 Hb V) args s 40 400 (AB P0)) (F0 m 0 ls []) := by
  obtain ⟨hx, hb, hr, hml, hown, hts, hK, hlocks, hN⟩ := id C0
  unfold b_L_tell_0 at h
  refine lv_aload_n hx hb dL_tell_0 rfl (lv_at hl 0 rfl) ?_
  refine xl_get (v := .ref (P0 + 1 + 0)) C0 hP 0 (by decide) wd_249 rfl rfl dL_tell_1 ?_
  refine lv_bipush (v := 7) hx hb dL_tell_4 (by decide) ?_
  refine lv_iconst (v := 0) hx hb dL_tell_6 (by decide) ?_
  refine lv_iload_n hx hb dL_tell_7 rfl (lv_at hl 2 rfl) ?_
  obtain ⟨r1, hr1, h⟩ := ob_bd h
  obtain ⟨g2, h⟩ := ob_gd h
  refine nl_Iw (kV (As := [.int 7, .int 0, .int v2]) C0 (c_X11_row l 7 0 v2 hr1) ⟨wd_465, wd_462, wd_463, wd_464, wd_1⟩ kd_X11_row ⟨Nat.le_of_ble_eq_true rfl, Nat.le_of_ble_eq_true rfl⟩ hP.1 (lay_X11 (P0 + 1) ct S) rfl rfl hl.1 rfl (Nat.le_of_ble_eq_true rfl) dL_tell_8 ⟨by show _ + _ ≤ 40; omega, by show _ + _ ≤ 400; omega⟩) hP g2 hS (fun H locs hP hS => ?_)
  refine lv_if_eq (tgt := 18) hx hb dL_tell_11 (by decide) (fun z3 => ?_) (fun z3 => ?_)
  · have h := ob_t h z3
    refine lv_iconst (v := 0) hx hb dL_tell_18 (by decide) ?_
    refine lv_istore_n (lv' := [(3, .int 0), (0, .ref P0), (1, .ref (P0 + 1 + u1)), (2, .int v2)]) hx hb dL_tell_19 rfl hl (by decide) rfl (fun ls hl => ?_)
    exact wl_L_tell_20 l C0 xL xs hE u1 1000 v2 0 r1.2 h hP hS (lv_sub hl [1, 2, 3, 0] rfl) ⟨by omega, by omega⟩
  · have h := ob_f h z3
    refine lv_sipush (v := (-7777)) hx hb dL_tell_14 (by decide) ?_
    refine W.widen (k := 40) (n := 400) (by omega) (by omega) ?_
    exact rl_Iw C0 hP hS h dL_tell_17
set_option maxRecDepth 100000 in
set_option maxHeartbeats 4000000 in
theorem c_L_tell (l : Launch) (xL : Nat) (xs : Nat → Int32) (u1 : Nat) (a2 : Int32) {D : va_G} {ct : Nat → ClassId} {P0 : Nat} {Hb : Heap} {xb : Nat} {adK adV : Nat → Nat} {S : St} {V : Int32 × St} (h : L_L_tell xL xs u1 a2 S = some V) : Met l yL_tell (Cond.code yL_tell cL_tell 4 (some .int) :: tG) { frames := 9, cells := 40, slots := 400, locals := 199 } (va_Pc [.ref P0, .ref (P0 + 1 + u1), .int a2] (MLK D ct P0 Hb xb xL xs adK adV S)) (qLIw D ct P0 Hb V) 40 400 (AB P0) := by
  refine mk_metL (by decide +kernel) (Nat.le_of_ble_eq_true rfl) (fun p e s m args below meth c ls C0 hE hP hl _ => ?_)
  have h := ob_of h
  exact w_L_tell_0 l C0 xL xs hE u1 a2 S h hP va_S.rf (lv_sub hl [0, 1, 2] rfl) ⟨by omega, by omega⟩
end WALKS
