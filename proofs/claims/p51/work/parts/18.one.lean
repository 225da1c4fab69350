theorem dX11_oneOfKind_0 : decode cX11_oneOfKind 0 = .ok (.iload_n 0, 1) := by decide +kernel
theorem dX11_oneOfKind_1 : decode cX11_oneOfKind 1 = .ok (.tableswitch 113 1 7 #[43, 53, 63, 73, 83, 93, 103], 43) := by decide +kernel
theorem dX11_oneOfKind_44 : decode cX11_oneOfKind 44 = .ok (.new 350, 3) := by decide +kernel
theorem dX11_oneOfKind_47 : decode cX11_oneOfKind 47 = .ok (.dup, 1) := by decide +kernel
theorem dX11_oneOfKind_48 : decode cX11_oneOfKind 48 = .ok (.iload_n 0, 1) := by decide +kernel
theorem dX11_oneOfKind_49 : decode cX11_oneOfKind 49 = .ok (.iload_n 1, 1) := by decide +kernel
theorem dX11_oneOfKind_50 : decode cX11_oneOfKind 50 = .ok (.invokespecial 352, 3) := by decide +kernel
theorem dX11_oneOfKind_53 : decode cX11_oneOfKind 53 = .ok (.areturn, 1) := by decide +kernel
theorem dX11_oneOfKind_54 : decode cX11_oneOfKind 54 = .ok (.new 353, 3) := by decide +kernel
theorem dX11_oneOfKind_57 : decode cX11_oneOfKind 57 = .ok (.dup, 1) := by decide +kernel
theorem dX11_oneOfKind_58 : decode cX11_oneOfKind 58 = .ok (.iload_n 0, 1) := by decide +kernel
theorem dX11_oneOfKind_59 : decode cX11_oneOfKind 59 = .ok (.iload_n 1, 1) := by decide +kernel
theorem dX11_oneOfKind_60 : decode cX11_oneOfKind 60 = .ok (.invokespecial 355, 3) := by decide +kernel
theorem dX11_oneOfKind_63 : decode cX11_oneOfKind 63 = .ok (.areturn, 1) := by decide +kernel
theorem dX11_oneOfKind_64 : decode cX11_oneOfKind 64 = .ok (.new 356, 3) := by decide +kernel
theorem dX11_oneOfKind_67 : decode cX11_oneOfKind 67 = .ok (.dup, 1) := by decide +kernel
theorem dX11_oneOfKind_68 : decode cX11_oneOfKind 68 = .ok (.iload_n 0, 1) := by decide +kernel
theorem dX11_oneOfKind_69 : decode cX11_oneOfKind 69 = .ok (.iload_n 1, 1) := by decide +kernel
theorem dX11_oneOfKind_70 : decode cX11_oneOfKind 70 = .ok (.invokespecial 358, 3) := by decide +kernel
theorem dX11_oneOfKind_73 : decode cX11_oneOfKind 73 = .ok (.areturn, 1) := by decide +kernel
theorem dX11_oneOfKind_74 : decode cX11_oneOfKind 74 = .ok (.new 359, 3) := by decide +kernel
theorem dX11_oneOfKind_77 : decode cX11_oneOfKind 77 = .ok (.dup, 1) := by decide +kernel
theorem dX11_oneOfKind_78 : decode cX11_oneOfKind 78 = .ok (.iload_n 0, 1) := by decide +kernel
theorem dX11_oneOfKind_79 : decode cX11_oneOfKind 79 = .ok (.iload_n 1, 1) := by decide +kernel
theorem dX11_oneOfKind_80 : decode cX11_oneOfKind 80 = .ok (.invokespecial 361, 3) := by decide +kernel
theorem dX11_oneOfKind_83 : decode cX11_oneOfKind 83 = .ok (.areturn, 1) := by decide +kernel
theorem dX11_oneOfKind_84 : decode cX11_oneOfKind 84 = .ok (.new 362, 3) := by decide +kernel
theorem dX11_oneOfKind_87 : decode cX11_oneOfKind 87 = .ok (.dup, 1) := by decide +kernel
theorem dX11_oneOfKind_88 : decode cX11_oneOfKind 88 = .ok (.iload_n 0, 1) := by decide +kernel
theorem dX11_oneOfKind_89 : decode cX11_oneOfKind 89 = .ok (.iload_n 1, 1) := by decide +kernel
theorem dX11_oneOfKind_90 : decode cX11_oneOfKind 90 = .ok (.invokespecial 364, 3) := by decide +kernel
theorem dX11_oneOfKind_93 : decode cX11_oneOfKind 93 = .ok (.areturn, 1) := by decide +kernel
theorem dX11_oneOfKind_94 : decode cX11_oneOfKind 94 = .ok (.new 365, 3) := by decide +kernel
theorem dX11_oneOfKind_97 : decode cX11_oneOfKind 97 = .ok (.dup, 1) := by decide +kernel
theorem dX11_oneOfKind_98 : decode cX11_oneOfKind 98 = .ok (.iload_n 0, 1) := by decide +kernel
theorem dX11_oneOfKind_99 : decode cX11_oneOfKind 99 = .ok (.iload_n 1, 1) := by decide +kernel
theorem dX11_oneOfKind_100 : decode cX11_oneOfKind 100 = .ok (.invokespecial 367, 3) := by decide +kernel
theorem dX11_oneOfKind_103 : decode cX11_oneOfKind 103 = .ok (.areturn, 1) := by decide +kernel
theorem dX11_oneOfKind_104 : decode cX11_oneOfKind 104 = .ok (.new 368, 3) := by decide +kernel
theorem dX11_oneOfKind_107 : decode cX11_oneOfKind 107 = .ok (.dup, 1) := by decide +kernel
theorem dX11_oneOfKind_108 : decode cX11_oneOfKind 108 = .ok (.iload_n 0, 1) := by decide +kernel
theorem dX11_oneOfKind_109 : decode cX11_oneOfKind 109 = .ok (.iload_n 1, 1) := by decide +kernel
theorem dX11_oneOfKind_110 : decode cX11_oneOfKind 110 = .ok (.invokespecial 370, 3) := by decide +kernel
theorem dX11_oneOfKind_113 : decode cX11_oneOfKind 113 = .ok (.areturn, 1) := by decide +kernel
theorem dX11_oneOfKind_114 : decode cX11_oneOfKind 114 = .ok (.new 39, 3) := by decide +kernel
theorem dX11_oneOfKind_117 : decode cX11_oneOfKind 117 = .ok (.dup, 1) := by decide +kernel
theorem dX11_oneOfKind_118 : decode cX11_oneOfKind 118 = .ok (.iload_n 0, 1) := by decide +kernel
theorem dX11_oneOfKind_119 : decode cX11_oneOfKind 119 = .ok (.iload_n 1, 1) := by decide +kernel
theorem dX11_oneOfKind_120 : decode cX11_oneOfKind 120 = .ok (.invokespecial 51, 3) := by decide +kernel
theorem dX11_oneOfKind_123 : decode cX11_oneOfKind 123 = .ok (.areturn, 1) := by decide +kernel
/-- one of PEOPLE is made: its place is the next one -/
def L_X11_oneOfKind (a0 a1 : Int32) (S : St) : Option (Nat × St) := gd (decide (183 ≤ tp S)) (if a0 = 1 then some (tp S, sp S 1 a1) else if a0 = 2 then some (tp S, sp S 2 a1) else if a0 = 3 then some (tp S, sp S 3 a1) else if a0 = 4 then some (tp S, sp S 4 a1) else if a0 = 5 then some (tp S, sp S 5 a1) else if a0 = 6 then some (tp S, sp S 6 a1) else if a0 = 7 then some (tp S, sp S 7 a1) else gd (a0 == 0) (some (tp S, sp S 0 a1)))
abbrev qR (D : va_G) (ct : Nat → ClassId) (B : Nat) (Hb : Heap) (V : Nat × St) : Array Value → State → Outcome → State → Prop := va_Qr (fun (u : Nat × St) => u = V) (fun u a t => a = B + u.1 ∧ MPK D ct B Hb u.2 t) (AB B)
section XONE
variable {p : Program} {l : Launch} {e : Env} {R : Room} {s : State} {m : MethodId} {args : Array Value} {below : List Frame} {meth : Method} {c : Code} {H : Heap} {locs : List Loc} {cells slots : Nat} {Q : State → Prop}
variable {cc : ByteArray} {pc nL : Nat} {ret : Option FieldType} {own : String} {ls : Array Slot} {rest st0 : List Value} {D : va_G} {ct : Nat → ClassId} {B : Nat} {Hb : Heap} {S : St} {H0 : Heap} {a : Array Value} {mc ms : Nat}
theorem n_R {V : Nat × St} (hr : va_Run p l e R s m args below meth c H locs cells slots mc ms (F0 m pc ls st0) rest (qR D ct B Hb V a) (AB B)) (hS : va_S (AB B) H0 H locs) (kk : ∀ (H1 : Heap) (locs1 : List Loc), MP D ct B Hb V.2 H1 → va_S (AB B) H0 H1 locs1 → W p l e R s m args below meth c H1 locs1 (cells + mc) (slots + ms) Q (F0 m (pc + 3) ls (.ref (B + V.1) :: rest))) : W p l e R s m args below meth c H locs cells slots Q (F0 m pc ls st0) :=
  va_callr hr hS (fun _ _ h => h) (fun _ h => h) (fun u a t H1 locs1 ht hvm hp hB hz hk hS1 => by
    subst hp
    obtain ⟨rfl, hB⟩ := hB
    exact kk H1 locs1 (ht ▸ hB.1) hS1)
theorem r_R (C0 : XC D ct p s m args meth c cc nL (some (.object "ThoughtBetterOf$Plain")) own) (hP : MP D ct B Hb S H) (hS : va_S (AB B) s.heap H locs) {q : Nat} {V : Nat × St} (h : some (q, S) = some V) (hdg : decode cc pc = .ok (.areturn, 1)) : W p l e R s m args below meth c H locs cells slots (MQ below (qR D ct B Hb V) args s cells slots (AB B)) (F0 m pc ls [.ref (B + q)]) := by
  obtain ⟨hx, hb, hr, hml, hown, hts, hK, hlocks, hN⟩ := C0
  exact W.aret hx hb hr (Or.inl ⟨_, rfl⟩) (Or.inr ⟨_, rfl⟩) (fun t ht hW => ⟨⟨(q, S), B + q, rfl, Option.some.inj h, rfl, by rw [ht]; exact hP, va_K.moved hW.alike hK, hN.warm hW⟩, hS.F ht⟩) hS.2.2 hdg hlocks
theorem o_gd {α : Type} {b : Bool} {x : Option α} {R : α} (h : gd b x = some R) : b = true ∧ x = some R := by
  cases b
  · cases h
  · exact ⟨rfl, h⟩
end XONE
set_option maxRecDepth 100000 in
set_option maxHeartbeats 4000000 in
theorem c_X11_oneOfKind (l : Launch) (a0 a1 : Int32) {D : va_G} {ct : Nat → ClassId} {B : Nat} {Hb : Heap} {S : St} {V : Nat × St} (h : L_X11_oneOfKind a0 a1 S = some V) : Met l yX11_oneOfKind (Cond.code yX11_oneOfKind cX11_oneOfKind 2 (some (.object "ThoughtBetterOf$Plain")) :: tG) { frames := 4, cells := 1, slots := 2, locals := 86 } (va_Pc [.int a0, .int a1] (MPK D ct B Hb S)) (qR D ct B Hb V) 1 2 (AB B) := by
  refine mk_met (by decide +kernel) (Nat.le_of_ble_eq_true rfl) (fun p e s m args below meth c ls C0 hP hl _ => ?_)
  obtain ⟨hx, hb, hr, hml, hown, hts, hK, hlocks, hN⟩ := id C0
  have hS : va_S (AB B) s.heap s.heap [] := va_S.rf
  have hl : lv_has ls 2 [(0, .int a0), (1, .int a1)] := hl
  unfold L_X11_oneOfKind at h
  obtain ⟨g0, h⟩ := o_gd h
  have g0 : 183 ≤ tp S := by simpa using g0
  refine lv_iload_n hx hb dX11_oneOfKind_0 rfl (lv_at hl 0 rfl) ?_
  rcases Decidable.em (a0 = 1) with z1 | z1
  · rw [if_pos z1] at h
    have zz : a0 = nI 1 := z1
    refine lv_tableIn (x := a0) (off := 43) (tgt := 44) hx hb dX11_oneOfKind_1 (by rw [z1]; decide) (by rw [z1]; decide) (by rw [z1]; decide) (by decide) ?_
    refine x_newR (ci := 0) (fs := [.int 0, .int 0]) C0 hP hS rfl inG0 tyX0 tyX0_ok ⟨wd_358, wd_359, wd_6⟩ (fun j hj => by rcases (show j = 0 ∨ j = 1 by omega) with rfl | rfl <;> rfl) (Nat.le_of_ble_eq_true rfl) (Nat.le_of_ble_eq_true rfl) dX11_oneOfKind_44 (fun H hP hS => ?_)
    refine lv_dup hx hb dX11_oneOfKind_47 rfl ?_
    refine lv_iload_n hx hb dX11_oneOfKind_48 rfl (lv_at hl 0 rfl) ?_
    refine lv_iload_n hx hb dX11_oneOfKind_49 rfl (lv_at hl 1 rfl) ?_
    refine x_ctorR (As := [.int a0, .int a1]) C0 (n_X0_on_0 l (B + tp S) a0 a1) ⟨wd_362, wd_360, wd_361, wd_6⟩ ⟨rfl, kd_X0_init.2⟩ ⟨Nat.le_of_ble_eq_true rfl, Nat.le_of_ble_eq_true rfl⟩ hP rfl hl.1 rfl (Nat.le_of_ble_eq_true rfl) dX11_oneOfKind_50 ⟨Nat.le_of_ble_eq_true rfl, Nat.le_of_ble_eq_true rfl⟩ hS (fun H locs hP hS => ?_)
    rw [show a0 = nI 1 from zz] at hP
    exact r_R (q := tp S) C0 (MPR_pl (kd := 1) hP g0) hS h dX11_oneOfKind_53
  · rw [if_neg z1] at h
    rcases Decidable.em (a0 = 2) with z2 | z2
    · rw [if_pos z2] at h
      have zz : a0 = nI 2 := z2
      refine lv_tableIn (x := a0) (off := 53) (tgt := 54) hx hb dX11_oneOfKind_1 (by rw [z2]; decide) (by rw [z2]; decide) (by rw [z2]; decide) (by decide) ?_
      refine x_newR (ci := 4) (fs := [.int 0, .int 0]) C0 hP hS rfl inG4 tyX4 tyX4_ok ⟨wd_367, wd_368, wd_7⟩ (fun j hj => by rcases (show j = 0 ∨ j = 1 by omega) with rfl | rfl <;> rfl) (Nat.le_of_ble_eq_true rfl) (Nat.le_of_ble_eq_true rfl) dX11_oneOfKind_54 (fun H hP hS => ?_)
      refine lv_dup hx hb dX11_oneOfKind_57 rfl ?_
      refine lv_iload_n hx hb dX11_oneOfKind_58 rfl (lv_at hl 0 rfl) ?_
      refine lv_iload_n hx hb dX11_oneOfKind_59 rfl (lv_at hl 1 rfl) ?_
      refine x_ctorR (As := [.int a0, .int a1]) C0 (n_X4_on_4 l (B + tp S) a0 a1) ⟨wd_371, wd_369, wd_370, wd_7⟩ ⟨rfl, kd_X4_init.2⟩ ⟨Nat.le_of_ble_eq_true rfl, Nat.le_of_ble_eq_true rfl⟩ hP rfl hl.1 rfl (Nat.le_of_ble_eq_true rfl) dX11_oneOfKind_60 ⟨Nat.le_of_ble_eq_true rfl, Nat.le_of_ble_eq_true rfl⟩ hS (fun H locs hP hS => ?_)
      rw [show a0 = nI 2 from zz] at hP
      exact r_R (q := tp S) C0 (MPR_pl (kd := 2) hP g0) hS h dX11_oneOfKind_63
    · rw [if_neg z2] at h
      rcases Decidable.em (a0 = 3) with z3 | z3
      · rw [if_pos z3] at h
        have zz : a0 = nI 3 := z3
        refine lv_tableIn (x := a0) (off := 63) (tgt := 64) hx hb dX11_oneOfKind_1 (by rw [z3]; decide) (by rw [z3]; decide) (by rw [z3]; decide) (by decide) ?_
        refine x_newR (ci := 9) (fs := [.int 0, .int 0]) C0 hP hS rfl inG9 tyX9 tyX9_ok ⟨wd_376, wd_377, wd_8⟩ (fun j hj => by rcases (show j = 0 ∨ j = 1 by omega) with rfl | rfl <;> rfl) (Nat.le_of_ble_eq_true rfl) (Nat.le_of_ble_eq_true rfl) dX11_oneOfKind_64 (fun H hP hS => ?_)
        refine lv_dup hx hb dX11_oneOfKind_67 rfl ?_
        refine lv_iload_n hx hb dX11_oneOfKind_68 rfl (lv_at hl 0 rfl) ?_
        refine lv_iload_n hx hb dX11_oneOfKind_69 rfl (lv_at hl 1 rfl) ?_
        refine x_ctorR (As := [.int a0, .int a1]) C0 (n_X9_on_9 l (B + tp S) a0 a1) ⟨wd_380, wd_378, wd_379, wd_8⟩ ⟨rfl, kd_X9_init.2⟩ ⟨Nat.le_of_ble_eq_true rfl, Nat.le_of_ble_eq_true rfl⟩ hP rfl hl.1 rfl (Nat.le_of_ble_eq_true rfl) dX11_oneOfKind_70 ⟨Nat.le_of_ble_eq_true rfl, Nat.le_of_ble_eq_true rfl⟩ hS (fun H locs hP hS => ?_)
        rw [show a0 = nI 3 from zz] at hP
        exact r_R (q := tp S) C0 (MPR_pl (kd := 3) hP g0) hS h dX11_oneOfKind_73
      · rw [if_neg z3] at h
        rcases Decidable.em (a0 = 4) with z4 | z4
        · rw [if_pos z4] at h
          have zz : a0 = nI 4 := z4
          refine lv_tableIn (x := a0) (off := 73) (tgt := 74) hx hb dX11_oneOfKind_1 (by rw [z4]; decide) (by rw [z4]; decide) (by rw [z4]; decide) (by decide) ?_
          refine x_newR (ci := 5) (fs := [.int 0, .int 0]) C0 hP hS rfl inG5 tyX5 tyX5_ok ⟨wd_385, wd_386, wd_9⟩ (fun j hj => by rcases (show j = 0 ∨ j = 1 by omega) with rfl | rfl <;> rfl) (Nat.le_of_ble_eq_true rfl) (Nat.le_of_ble_eq_true rfl) dX11_oneOfKind_74 (fun H hP hS => ?_)
          refine lv_dup hx hb dX11_oneOfKind_77 rfl ?_
          refine lv_iload_n hx hb dX11_oneOfKind_78 rfl (lv_at hl 0 rfl) ?_
          refine lv_iload_n hx hb dX11_oneOfKind_79 rfl (lv_at hl 1 rfl) ?_
          refine x_ctorR (As := [.int a0, .int a1]) C0 (n_X5_on_5 l (B + tp S) a0 a1) ⟨wd_389, wd_387, wd_388, wd_9⟩ ⟨rfl, kd_X5_init.2⟩ ⟨Nat.le_of_ble_eq_true rfl, Nat.le_of_ble_eq_true rfl⟩ hP rfl hl.1 rfl (Nat.le_of_ble_eq_true rfl) dX11_oneOfKind_80 ⟨Nat.le_of_ble_eq_true rfl, Nat.le_of_ble_eq_true rfl⟩ hS (fun H locs hP hS => ?_)
          rw [show a0 = nI 4 from zz] at hP
          exact r_R (q := tp S) C0 (MPR_pl (kd := 4) hP g0) hS h dX11_oneOfKind_83
        · rw [if_neg z4] at h
          rcases Decidable.em (a0 = 5) with z5 | z5
          · rw [if_pos z5] at h
            have zz : a0 = nI 5 := z5
            refine lv_tableIn (x := a0) (off := 83) (tgt := 84) hx hb dX11_oneOfKind_1 (by rw [z5]; decide) (by rw [z5]; decide) (by rw [z5]; decide) (by decide) ?_
            refine x_newR (ci := 6) (fs := [.int 0, .int 0]) C0 hP hS rfl inG6 tyX6 tyX6_ok ⟨wd_394, wd_395, wd_10⟩ (fun j hj => by rcases (show j = 0 ∨ j = 1 by omega) with rfl | rfl <;> rfl) (Nat.le_of_ble_eq_true rfl) (Nat.le_of_ble_eq_true rfl) dX11_oneOfKind_84 (fun H hP hS => ?_)
            refine lv_dup hx hb dX11_oneOfKind_87 rfl ?_
            refine lv_iload_n hx hb dX11_oneOfKind_88 rfl (lv_at hl 0 rfl) ?_
            refine lv_iload_n hx hb dX11_oneOfKind_89 rfl (lv_at hl 1 rfl) ?_
            refine x_ctorR (As := [.int a0, .int a1]) C0 (n_X6_on_6 l (B + tp S) a0 a1) ⟨wd_398, wd_396, wd_397, wd_10⟩ ⟨rfl, kd_X6_init.2⟩ ⟨Nat.le_of_ble_eq_true rfl, Nat.le_of_ble_eq_true rfl⟩ hP rfl hl.1 rfl (Nat.le_of_ble_eq_true rfl) dX11_oneOfKind_90 ⟨Nat.le_of_ble_eq_true rfl, Nat.le_of_ble_eq_true rfl⟩ hS (fun H locs hP hS => ?_)
            rw [show a0 = nI 5 from zz] at hP
            exact r_R (q := tp S) C0 (MPR_pl (kd := 5) hP g0) hS h dX11_oneOfKind_93
          · rw [if_neg z5] at h
            rcases Decidable.em (a0 = 6) with z6 | z6
            · rw [if_pos z6] at h
              have zz : a0 = nI 6 := z6
              refine lv_tableIn (x := a0) (off := 93) (tgt := 94) hx hb dX11_oneOfKind_1 (by rw [z6]; decide) (by rw [z6]; decide) (by rw [z6]; decide) (by decide) ?_
              refine x_newR (ci := 1) (fs := [.int 0, .int 0]) C0 hP hS rfl inG1 tyX1 tyX1_ok ⟨wd_403, wd_404, wd_11⟩ (fun j hj => by rcases (show j = 0 ∨ j = 1 by omega) with rfl | rfl <;> rfl) (Nat.le_of_ble_eq_true rfl) (Nat.le_of_ble_eq_true rfl) dX11_oneOfKind_94 (fun H hP hS => ?_)
              refine lv_dup hx hb dX11_oneOfKind_97 rfl ?_
              refine lv_iload_n hx hb dX11_oneOfKind_98 rfl (lv_at hl 0 rfl) ?_
              refine lv_iload_n hx hb dX11_oneOfKind_99 rfl (lv_at hl 1 rfl) ?_
              refine x_ctorR (As := [.int a0, .int a1]) C0 (n_X1_on_1 l (B + tp S) a0 a1) ⟨wd_407, wd_405, wd_406, wd_11⟩ ⟨rfl, kd_X1_init.2⟩ ⟨Nat.le_of_ble_eq_true rfl, Nat.le_of_ble_eq_true rfl⟩ hP rfl hl.1 rfl (Nat.le_of_ble_eq_true rfl) dX11_oneOfKind_100 ⟨Nat.le_of_ble_eq_true rfl, Nat.le_of_ble_eq_true rfl⟩ hS (fun H locs hP hS => ?_)
              rw [show a0 = nI 6 from zz] at hP
              exact r_R (q := tp S) C0 (MPR_pl (kd := 6) hP g0) hS h dX11_oneOfKind_103
            · rw [if_neg z6] at h
              rcases Decidable.em (a0 = 7) with z7 | z7
              · rw [if_pos z7] at h
                have zz : a0 = nI 7 := z7
                refine lv_tableIn (x := a0) (off := 103) (tgt := 104) hx hb dX11_oneOfKind_1 (by rw [z7]; decide) (by rw [z7]; decide) (by rw [z7]; decide) (by decide) ?_
                refine x_newR (ci := 3) (fs := [.int 0, .int 0]) C0 hP hS rfl inG3 tyX3 tyX3_ok ⟨wd_412, wd_413, wd_12⟩ (fun j hj => by rcases (show j = 0 ∨ j = 1 by omega) with rfl | rfl <;> rfl) (Nat.le_of_ble_eq_true rfl) (Nat.le_of_ble_eq_true rfl) dX11_oneOfKind_104 (fun H hP hS => ?_)
                refine lv_dup hx hb dX11_oneOfKind_107 rfl ?_
                refine lv_iload_n hx hb dX11_oneOfKind_108 rfl (lv_at hl 0 rfl) ?_
                refine lv_iload_n hx hb dX11_oneOfKind_109 rfl (lv_at hl 1 rfl) ?_
                refine x_ctorR (As := [.int a0, .int a1]) C0 (n_X3_on_3 l (B + tp S) a0 a1) ⟨wd_416, wd_414, wd_415, wd_12⟩ ⟨rfl, kd_X3_init.2⟩ ⟨Nat.le_of_ble_eq_true rfl, Nat.le_of_ble_eq_true rfl⟩ hP rfl hl.1 rfl (Nat.le_of_ble_eq_true rfl) dX11_oneOfKind_110 ⟨Nat.le_of_ble_eq_true rfl, Nat.le_of_ble_eq_true rfl⟩ hS (fun H locs hP hS => ?_)
                rw [show a0 = nI 7 from zz] at hP
                exact r_R (q := tp S) C0 (MPR_pl (kd := 7) hP g0) hS h dX11_oneOfKind_113
              · rw [if_neg z7] at h
                obtain ⟨gk, h⟩ := o_gd h
                have zz : a0 = nI 0 := (show a0 = 0 by simpa using gk)
                refine lv_tableOut (x := a0) (tgt := 114) hx hb dX11_oneOfKind_1 (sw_1_7 z1 z2 z3 z4 z5 z6 z7) (by decide) ?_
                refine x_newR (ci := 7) (fs := [.int 0, .int 0]) C0 hP hS rfl inG7 tyX7 tyX7_ok ⟨wd_189, wd_43, wd_3⟩ (fun j hj => by rcases (show j = 0 ∨ j = 1 by omega) with rfl | rfl <;> rfl) (Nat.le_of_ble_eq_true rfl) (Nat.le_of_ble_eq_true rfl) dX11_oneOfKind_114 (fun H hP hS => ?_)
                refine lv_dup hx hb dX11_oneOfKind_117 rfl ?_
                refine lv_iload_n hx hb dX11_oneOfKind_118 rfl (lv_at hl 0 rfl) ?_
                refine lv_iload_n hx hb dX11_oneOfKind_119 rfl (lv_at hl 1 rfl) ?_
                refine x_ctorR (As := [.int a0, .int a1]) C0 (n_X7_on_7 l (B + tp S) a0 a1) ⟨wd_46, wd_192, wd_45, wd_3⟩ ⟨rfl, kd_X7_init.2⟩ ⟨Nat.le_of_ble_eq_true rfl, Nat.le_of_ble_eq_true rfl⟩ hP rfl hl.1 rfl (Nat.le_of_ble_eq_true rfl) dX11_oneOfKind_120 ⟨Nat.le_of_ble_eq_true rfl, Nat.le_of_ble_eq_true rfl⟩ hS (fun H locs hP hS => ?_)
                rw [show a0 = nI 0 from zz] at hP
                exact r_R (q := tp S) C0 (MPR_pl (kd := 0) hP g0) hS h dX11_oneOfKind_123
