/-! THE FIRST STATE: ThoughtBetterOf and the law as they are made. -/
def K40 : Nat → Int32 := upd (upd (upd (upd (fun _ => 0) 0 1) 1 2) 2 4) 3 8
def O30 : Nat → Int32 := upd (upd (upd (fun _ => 0) 0 15) 1 1) 2 4
def PR0 (q : Nat) : Nat → Option Nat := va_up (va_up (va_up (va_up (va_up (va_up (va_up (va_up (fun _ => none) 0 (some q)) 1 (some q)) 2 (some q)) 3 (some q)) 4 (some q)) 5 (some q)) 6 (some q)) 7 (some q)
def fk0 (q : Nat) : Nat → (Nat → Option Nat)
  | 0 => fun _ => none
  | d + 1 => va_up (fk0 q d) (nI d).toNatClampNeg (some q)
def S0 : St := (fun k => if k = 17 then K40 else if k = 35 then K40 else if k = 53 then K40 else if k = 18 then O30 else if k = 36 then O30 else if k = 54 then O30 else if k = 55 then (fun i => if i = 1 then -1 else 0) else if k = 136 then (fun i => if i = 8 then 15 else if i = 9 then 1 else if i = 10 then 4 else if i = 11 then 63 else 0) else if k = 158 then (upd (upd (upd (upd (fun _ => 0) ((0 : Int32).toNatClampNeg) 1) ((1 : Int32).toNatClampNeg) 0) ((2 : Int32).toNatClampNeg) 0) ((3 : Int32).toNatClampNeg) 0) else if k = 159 then (upd (upd (upd (upd (fun _ => 0) ((0 : Int32).toNatClampNeg) 0) ((1 : Int32).toNatClampNeg) 1) ((2 : Int32).toNatClampNeg) 0) ((3 : Int32).toNatClampNeg) 0) else if k = 160 then (upd (upd (upd (upd (fun _ => 0) ((0 : Int32).toNatClampNeg) 0) ((1 : Int32).toNatClampNeg) 0) ((2 : Int32).toNatClampNeg) 1) ((3 : Int32).toNatClampNeg) 0) else if k = 161 then (upd (upd (upd (upd (fun _ => 0) ((0 : Int32).toNatClampNeg) 0) ((1 : Int32).toNatClampNeg) 0) ((2 : Int32).toNatClampNeg) 0) ((3 : Int32).toNatClampNeg) 1) else fun _ => 0,
  fun _ _ => 0,
  fun k => if k = 2 then PR0 3 else if k = 20 then PR0 21 else if k = 38 then PR0 39 else if k = 55 then (fun i => if i = 0 then some 1 else none) else if k = 67 then fk0 69 8 else if k = 136 then (fun j => some (137 + j)) else if k = 145 then (fun j => some (146 + j)) else if k = 152 then (fun j => some (153 + j)) else fun _ => none,
  fun k => if k = 3 then some (0, 0) else if k = 21 then some (0, 0) else if k = 39 then some (0, 0) else if k = 69 then some (0, 0) else none,
  187)
theorem mp_up (B : Nat) (g : Nat → Option Nat) (i q : Nat) : (fun j => (va_up g i (some q) j).map (B + ·)) = va_up (fun j => (g j).map (B + ·)) i (some (B + q)) := by
  funext j
  unfold va_up
  split <;> rfl
theorem mp_PR (B q : Nat) : (fun j => (PR0 q j).map (B + ·)) = PR0 (B + q) := by
  unfold PR0
  simp only [mp_up]
  rfl
theorem mp_fk (B q : Nat) : ∀ d, (fun j => (fk0 q d j).map (B + ·)) = fk0 (B + q) d
  | 0 => rfl
  | d + 1 => by
    have ih := mp_fk B q d
    unfold fk0
    rw [mp_up, ih]
theorem fk_11 (B : Nat) : ∀ d, fk11 B d = fk0 (B + 69) d
  | 0 => rfl
  | d + 1 => by
    unfold fk11 fk0
    rw [fk_11 B d]
theorem fs_1 {Pr : Nat → Prop} {n : Nat} (h : Pr n) (f : ∀ k, k < n → Pr k) : ∀ k, k < n + 1 → Pr k := fun k hk => by
  by_cases e : k = n
  · rw [e]; exact h
  · exact f k (by omega)
def bOK (B : Nat) (ct : Nat → ClassId) (k : Nat) : Prop := lay B ct S0 k = (cells_X11 ct B)[k]?
section BORN
variable {B : Nat} {ct : Nat → ClassId}
theorem bo_0 : bOK B ct 0 := rfl
theorem bo_1 : bOK B ct 1 := rfl
theorem bo_2 : bOK B ct 2 := by
  show some (Sum.inl (ct 3, 8, .inr (.inr (.inr (.inr (fun j => (PR0 3 j).map (B + ·))))))) = (cells_X11 ct B)[2]?
  rw [mp_PR]
  rfl
theorem bo_3 : bOK B ct 3 := rfl
theorem bo_4 : bOK B ct 4 := rfl
theorem bo_5 : bOK B ct 5 := rfl
theorem bo_6 : bOK B ct 6 := rfl
theorem bo_7 : bOK B ct 7 := rfl
theorem bo_8 : bOK B ct 8 := rfl
theorem bo_9 : bOK B ct 9 := rfl
theorem bo_10 : bOK B ct 10 := rfl
theorem bo_11 : bOK B ct 11 := rfl
theorem bo_12 : bOK B ct 12 := rfl
theorem bo_13 : bOK B ct 13 := rfl
theorem bo_14 : bOK B ct 14 := rfl
theorem bo_15 : bOK B ct 15 := rfl
theorem bo_16 : bOK B ct 16 := rfl
theorem bo_17 : bOK B ct 17 := rfl
theorem bo_18 : bOK B ct 18 := rfl
theorem bo_19 : bOK B ct 19 := rfl
theorem bo_20 : bOK B ct 20 := by
  show some (Sum.inl (ct 3, 8, .inr (.inr (.inr (.inr (fun j => (PR0 21 j).map (B + ·))))))) = (cells_X11 ct B)[20]?
  rw [mp_PR]
  rfl
theorem bo_21 : bOK B ct 21 := rfl
theorem bo_22 : bOK B ct 22 := rfl
theorem bo_23 : bOK B ct 23 := rfl
theorem bo_24 : bOK B ct 24 := rfl
theorem bo_25 : bOK B ct 25 := rfl
theorem bo_26 : bOK B ct 26 := rfl
theorem bo_27 : bOK B ct 27 := rfl
theorem bo_28 : bOK B ct 28 := rfl
theorem bo_29 : bOK B ct 29 := rfl
theorem bo_30 : bOK B ct 30 := rfl
theorem bo_31 : bOK B ct 31 := rfl
theorem bo_32 : bOK B ct 32 := rfl
theorem bo_33 : bOK B ct 33 := rfl
theorem bo_34 : bOK B ct 34 := rfl
theorem bo_35 : bOK B ct 35 := rfl
theorem bo_36 : bOK B ct 36 := rfl
theorem bo_37 : bOK B ct 37 := rfl
theorem bo_38 : bOK B ct 38 := by
  show some (Sum.inl (ct 3, 8, .inr (.inr (.inr (.inr (fun j => (PR0 39 j).map (B + ·))))))) = (cells_X11 ct B)[38]?
  rw [mp_PR]
  rfl
theorem bo_39 : bOK B ct 39 := rfl
theorem bo_40 : bOK B ct 40 := rfl
theorem bo_41 : bOK B ct 41 := rfl
theorem bo_42 : bOK B ct 42 := rfl
theorem bo_43 : bOK B ct 43 := rfl
theorem bo_44 : bOK B ct 44 := rfl
theorem bo_45 : bOK B ct 45 := rfl
theorem bo_46 : bOK B ct 46 := rfl
theorem bo_47 : bOK B ct 47 := rfl
theorem bo_48 : bOK B ct 48 := rfl
theorem bo_49 : bOK B ct 49 := rfl
theorem bo_50 : bOK B ct 50 := rfl
theorem bo_51 : bOK B ct 51 := rfl
theorem bo_52 : bOK B ct 52 := rfl
theorem bo_53 : bOK B ct 53 := rfl
theorem bo_54 : bOK B ct 54 := rfl
theorem bo_55 : bOK B ct 55 := rfl
theorem bo_56 : bOK B ct 56 := rfl
theorem bo_57 : bOK B ct 57 := rfl
theorem bo_58 : bOK B ct 58 := rfl
theorem bo_59 : bOK B ct 59 := rfl
theorem bo_60 : bOK B ct 60 := rfl
theorem bo_61 : bOK B ct 61 := rfl
theorem bo_62 : bOK B ct 62 := rfl
theorem bo_63 : bOK B ct 63 := rfl
theorem bo_64 : bOK B ct 64 := rfl
theorem bo_65 : bOK B ct 65 := rfl
theorem bo_66 : bOK B ct 66 := rfl
theorem bo_67 : bOK B ct 67 := by
  show (some (Sum.inl (ct 3, 8, .inr (.inr (.inr (.inr (fun j => (fk0 69 8 j).map (B + ·))))))) : Option va_E) = some (Sum.inl (ct 3, 8, .inr (.inr (.inr (.inr (fk11 B 8))))))
  rw [mp_fk, fk_11]
theorem bo_69 : bOK B ct 69 := rfl
theorem bo_70 : bOK B ct 70 := rfl
theorem bo_71 : bOK B ct 71 := rfl
theorem bo_72 : bOK B ct 72 := rfl
theorem bo_73 : bOK B ct 73 := rfl
theorem bo_74 : bOK B ct 74 := rfl
theorem bo_75 : bOK B ct 75 := rfl
theorem bo_76 : bOK B ct 76 := rfl
theorem bo_77 : bOK B ct 77 := rfl
theorem bo_78 : bOK B ct 78 := rfl
theorem bo_79 : bOK B ct 79 := rfl
theorem bo_80 : bOK B ct 80 := rfl
theorem bo_81 : bOK B ct 81 := rfl
theorem bo_82 : bOK B ct 82 := rfl
theorem bo_83 : bOK B ct 83 := rfl
theorem bo_84 : bOK B ct 84 := rfl
theorem bo_85 : bOK B ct 85 := rfl
theorem bo_86 : bOK B ct 86 := rfl
theorem bo_87 : bOK B ct 87 := rfl
theorem bo_88 : bOK B ct 88 := rfl
theorem bo_89 : bOK B ct 89 := rfl
theorem bo_90 : bOK B ct 90 := rfl
theorem bo_91 : bOK B ct 91 := rfl
theorem bo_92 : bOK B ct 92 := rfl
theorem bo_93 : bOK B ct 93 := rfl
theorem bo_94 : bOK B ct 94 := rfl
theorem bo_95 : bOK B ct 95 := rfl
theorem bo_96 : bOK B ct 96 := rfl
theorem bo_97 : bOK B ct 97 := rfl
theorem bo_98 : bOK B ct 98 := rfl
theorem bo_99 : bOK B ct 99 := rfl
theorem bo_100 : bOK B ct 100 := rfl
theorem bo_101 : bOK B ct 101 := rfl
theorem bo_102 : bOK B ct 102 := rfl
theorem bo_103 : bOK B ct 103 := rfl
theorem bo_104 : bOK B ct 104 := rfl
theorem bo_105 : bOK B ct 105 := rfl
theorem bo_106 : bOK B ct 106 := rfl
theorem bo_107 : bOK B ct 107 := rfl
theorem bo_108 : bOK B ct 108 := rfl
theorem bo_109 : bOK B ct 109 := rfl
theorem bo_110 : bOK B ct 110 := rfl
theorem bo_111 : bOK B ct 111 := rfl
theorem bo_112 : bOK B ct 112 := rfl
theorem bo_113 : bOK B ct 113 := rfl
theorem bo_114 : bOK B ct 114 := rfl
theorem bo_115 : bOK B ct 115 := rfl
theorem bo_116 : bOK B ct 116 := rfl
theorem bo_117 : bOK B ct 117 := rfl
theorem bo_118 : bOK B ct 118 := rfl
theorem bo_119 : bOK B ct 119 := rfl
theorem bo_120 : bOK B ct 120 := rfl
theorem bo_121 : bOK B ct 121 := rfl
theorem bo_122 : bOK B ct 122 := rfl
theorem bo_123 : bOK B ct 123 := rfl
theorem bo_124 : bOK B ct 124 := rfl
theorem bo_125 : bOK B ct 125 := rfl
theorem bo_126 : bOK B ct 126 := rfl
theorem bo_127 : bOK B ct 127 := rfl
theorem bo_128 : bOK B ct 128 := rfl
theorem bo_129 : bOK B ct 129 := rfl
theorem bo_130 : bOK B ct 130 := rfl
theorem bo_131 : bOK B ct 131 := rfl
theorem bo_132 : bOK B ct 132 := rfl
theorem bo_133 : bOK B ct 133 := rfl
theorem bo_134 : bOK B ct 134 := rfl
theorem bo_135 : bOK B ct 135 := rfl
theorem bo_all : ∀ k, k < 136 → (k ≠ 68 → bOK B ct k) := (fs_1 (fun h => bo_135) (fs_1 (fun h => bo_134) (fs_1 (fun h => bo_133) (fs_1 (fun h => bo_132) (fs_1 (fun h => bo_131) (fs_1 (fun h => bo_130) (fs_1 (fun h => bo_129) (fs_1 (fun h => bo_128) (fs_1 (fun h => bo_127) (fs_1 (fun h => bo_126) (fs_1 (fun h => bo_125) (fs_1 (fun h => bo_124) (fs_1 (fun h => bo_123) (fs_1 (fun h => bo_122) (fs_1 (fun h => bo_121) (fs_1 (fun h => bo_120) (fs_1 (fun h => bo_119) (fs_1 (fun h => bo_118) (fs_1 (fun h => bo_117) (fs_1 (fun h => bo_116) (fs_1 (fun h => bo_115) (fs_1 (fun h => bo_114) (fs_1 (fun h => bo_113) (fs_1 (fun h => bo_112) (fs_1 (fun h => bo_111) (fs_1 (fun h => bo_110) (fs_1 (fun h => bo_109) (fs_1 (fun h => bo_108) (fs_1 (fun h => bo_107) (fs_1 (fun h => bo_106) (fs_1 (fun h => bo_105) (fs_1 (fun h => bo_104) (fs_1 (fun h => bo_103) (fs_1 (fun h => bo_102) (fs_1 (fun h => bo_101) (fs_1 (fun h => bo_100) (fs_1 (fun h => bo_99) (fs_1 (fun h => bo_98) (fs_1 (fun h => bo_97) (fs_1 (fun h => bo_96) (fs_1 (fun h => bo_95) (fs_1 (fun h => bo_94) (fs_1 (fun h => bo_93) (fs_1 (fun h => bo_92) (fs_1 (fun h => bo_91) (fs_1 (fun h => bo_90) (fs_1 (fun h => bo_89) (fs_1 (fun h => bo_88) (fs_1 (fun h => bo_87) (fs_1 (fun h => bo_86) (fs_1 (fun h => bo_85) (fs_1 (fun h => bo_84) (fs_1 (fun h => bo_83) (fs_1 (fun h => bo_82) (fs_1 (fun h => bo_81) (fs_1 (fun h => bo_80) (fs_1 (fun h => bo_79) (fs_1 (fun h => bo_78) (fs_1 (fun h => bo_77) (fs_1 (fun h => bo_76) (fs_1 (fun h => bo_75) (fs_1 (fun h => bo_74) (fs_1 (fun h => bo_73) (fs_1 (fun h => bo_72) (fs_1 (fun h => bo_71) (fs_1 (fun h => bo_70) (fs_1 (fun h => bo_69) (fs_1 (fun h => absurd rfl h) (fs_1 (fun h => bo_67) (fs_1 (fun h => bo_66) (fs_1 (fun h => bo_65) (fs_1 (fun h => bo_64) (fs_1 (fun h => bo_63) (fs_1 (fun h => bo_62) (fs_1 (fun h => bo_61) (fs_1 (fun h => bo_60) (fs_1 (fun h => bo_59) (fs_1 (fun h => bo_58) (fs_1 (fun h => bo_57) (fs_1 (fun h => bo_56) (fs_1 (fun h => bo_55) (fs_1 (fun h => bo_54) (fs_1 (fun h => bo_53) (fs_1 (fun h => bo_52) (fs_1 (fun h => bo_51) (fs_1 (fun h => bo_50) (fs_1 (fun h => bo_49) (fs_1 (fun h => bo_48) (fs_1 (fun h => bo_47) (fs_1 (fun h => bo_46) (fs_1 (fun h => bo_45) (fs_1 (fun h => bo_44) (fs_1 (fun h => bo_43) (fs_1 (fun h => bo_42) (fs_1 (fun h => bo_41) (fs_1 (fun h => bo_40) (fs_1 (fun h => bo_39) (fs_1 (fun h => bo_38) (fs_1 (fun h => bo_37) (fs_1 (fun h => bo_36) (fs_1 (fun h => bo_35) (fs_1 (fun h => bo_34) (fs_1 (fun h => bo_33) (fs_1 (fun h => bo_32) (fs_1 (fun h => bo_31) (fs_1 (fun h => bo_30) (fs_1 (fun h => bo_29) (fs_1 (fun h => bo_28) (fs_1 (fun h => bo_27) (fs_1 (fun h => bo_26) (fs_1 (fun h => bo_25) (fs_1 (fun h => bo_24) (fs_1 (fun h => bo_23) (fs_1 (fun h => bo_22) (fs_1 (fun h => bo_21) (fs_1 (fun h => bo_20) (fs_1 (fun h => bo_19) (fs_1 (fun h => bo_18) (fs_1 (fun h => bo_17) (fs_1 (fun h => bo_16) (fs_1 (fun h => bo_15) (fs_1 (fun h => bo_14) (fs_1 (fun h => bo_13) (fs_1 (fun h => bo_12) (fs_1 (fun h => bo_11) (fs_1 (fun h => bo_10) (fs_1 (fun h => bo_9) (fs_1 (fun h => bo_8) (fs_1 (fun h => bo_7) (fs_1 (fun h => bo_6) (fs_1 (fun h => bo_5) (fs_1 (fun h => bo_4) (fs_1 (fun h => bo_3) (fs_1 (fun h => bo_2) (fs_1 (fun h => bo_1) (fs_1 (fun h => bo_0) (fun j hj => absurd hj (Nat.not_lt_zero j))))))))))))))))))))))))))))))))))))))))))))))))))))))))))))))))))))))))))))))))))))))))))))))))))))))))))))))))))))))))))))))))))))))))))
theorem bo_fr : ∀ j, j < 8 → va_rf (fr11 B 8 j) = va_rf (some (B + (70 + 2 * j))) := fun j hj => by
  rcases (show j = 0 ∨ j = 1 ∨ j = 2 ∨ j = 3 ∨ j = 4 ∨ j = 5 ∨ j = 6 ∨ j = 7 by omega) with rfl | rfl | rfl | rfl | rfl | rfl | rfl | rfl <;> rfl
end BORN
