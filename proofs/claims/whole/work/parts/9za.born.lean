/-! THE FIRST STATE: ThoughtBetterOf, ThoughtBetterOfModel, the law's out as they are made. -/
def K40 : Nat → Int32 := upd (upd (upd (upd (fun _ => 0) 0 1) 1 2) 2 4) 3 8
def O30 : Nat → Int32 := upd (upd (upd (fun _ => 0) 0 15) 1 1) 2 4
def N16 : Nat → Int32 := upd (upd (upd (upd (fun _ => 0) ((5 * 0 : Int32).toNatClampNeg) 1) ((5 * 1 : Int32).toNatClampNeg) 1) ((5 * 2 : Int32).toNatClampNeg) 1) ((5 * 3 : Int32).toNatClampNeg) 1
def PR0 (q : Nat) : Nat → Option Nat := va_up (va_up (va_up (va_up (va_up (va_up (va_up (va_up (fun _ => none) 0 (some q)) 1 (some q)) 2 (some q)) 3 (some q)) 4 (some q)) 5 (some q)) 6 (some q)) 7 (some q)
def fk0 (q : Nat) : Nat → (Nat → Option Nat)
  | 0 => fun _ => none
  | d + 1 => va_up (fk0 q d) (nI d).toNatClampNeg (some q)
def S0 : St := (fun k => if k = 17 then K40 else if k = 35 then K40 else if k = 53 then K40 else if k = 18 then O30 else if k = 36 then O30 else if k = 54 then O30 else if k = 55 then (fun i => if i = 1 then -1 else 0) else if k = 136 then (fun i => if i = 6 then 15 else if i = 7 then 1 else if i = 8 then 4 else if i = 29 then 63 else 0) else if k = 137 then N16 else fun _ => 0,
  fun _ _ => 0,
  fun k => if k = 2 then PR0 3 else if k = 20 then PR0 21 else if k = 38 then PR0 39 else if k = 55 then (fun i => if i = 0 then some 1 else none) else if k = 67 then fk0 69 8 else fun _ => none,
  fun k => if k = 3 then some (0, 0) else if k = 21 then some (0, 0) else if k = 39 then some (0, 0) else if k = 69 then some (0, 0) else none,
  183)
def Y0 (ct : Nat → ClassId) (B : Nat) : List va_E := cells_X11 ct B ++ (cells_X12 ct (B + 136) ++ [.inl (ct 1, 1, .inr (.inl (fun _ => 0)))])
theorem mp_up (B : Nat) (g : Nat → Option Nat) (i q : Nat) : (fun j => (va_up g i (some q) j).map (B + ·)) = va_up (fun j => (g j).map (B + ·)) i (some (B + q)) := by
  funext j
  unfold va_up
  split <;> rfl
theorem mp_PR (B q : Nat) : (fun j => (PR0 q j).map (B + ·)) = PR0 (B + q) := by
  unfold PR0
  simp only [mp_up]
  rfl
theorem mp_fk (B q : Nat) : ∀ d, (fun j => (fk0 q d j).map (B + ·)) = fk0 (B + q) d
  | 0 => rfl
  | d + 1 => by
    have ih := mp_fk B q d
    unfold fk0
    rw [mp_up, ih]
theorem fk_11 (B : Nat) : ∀ d, fk11 B d = fk0 (B + 69) d
  | 0 => rfl
  | d + 1 => by
    unfold fk11 fk0
    rw [fk_11 B d]
theorem fs_1 {Pr : Nat → Prop} {n : Nat} (h : Pr n) (f : ∀ k, k < n → Pr k) : ∀ k, k < n + 1 → Pr k := fun k hk => by
  by_cases e : k = n
  · rw [e]; exact h
  · exact f k (by omega)
def bOK (B : Nat) (ct : Nat → ClassId) (k : Nat) : Prop := lay B ct S0 k = (Y0 ct B)[k]?
section BORN
variable {B : Nat} {ct : Nat → ClassId}
theorem bo_0 : bOK B ct 0 := rfl
theorem bo_1 : bOK B ct 1 := rfl
theorem bo_2 : bOK B ct 2 := by
  show some (Sum.inl (ct 3, 8, .inr (.inr (.inr (.inr (fun j => (PR0 3 j).map (B + ·))))))) = (Y0 ct B)[2]?
  rw [mp_PR]
  rfl
theorem bo_3 : bOK B ct 3 := rfl
theorem bo_4 : bOK B ct 4 := rfl
theorem bo_5 : bOK B ct 5 := rfl
theorem bo_6 : bOK B ct 6 := rfl
theorem bo_7 : bOK B ct 7 := rfl
theorem bo_8 : bOK B ct 8 := rfl
theorem bo_9 : bOK B ct 9 := rfl
theorem bo_10 : bOK B ct 10 := rfl
theorem bo_11 : bOK B ct 11 := rfl
theorem bo_12 : bOK B ct 12 := rfl
theorem bo_13 : bOK B ct 13 := rfl
theorem bo_14 : bOK B ct 14 := rfl
theorem bo_15 : bOK B ct 15 := rfl
theorem bo_16 : bOK B ct 16 := rfl
theorem bo_17 : bOK B ct 17 := rfl
theorem bo_18 : bOK B ct 18 := rfl
theorem bo_19 : bOK B ct 19 := rfl
theorem bo_20 : bOK B ct 20 := by
  show some (Sum.inl (ct 3, 8, .inr (.inr (.inr (.inr (fun j => (PR0 21 j).map (B + ·))))))) = (Y0 ct B)[20]?
  rw [mp_PR]
  rfl
theorem bo_21 : bOK B ct 21 := rfl
theorem bo_22 : bOK B ct 22 := rfl
theorem bo_23 : bOK B ct 23 := rfl
theorem bo_24 : bOK B ct 24 := rfl
theorem bo_25 : bOK B ct 25 := rfl
theorem bo_26 : bOK B ct 26 := rfl
theorem bo_27 : bOK B ct 27 := rfl
theorem bo_28 : bOK B ct 28 := rfl
theorem bo_29 : bOK B ct 29 := rfl
theorem bo_30 : bOK B ct 30 := rfl
theorem bo_31 : bOK B ct 31 := rfl
theorem bo_32 : bOK B ct 32 := rfl
theorem bo_33 : bOK B ct 33 := rfl
theorem bo_34 : bOK B ct 34 := rfl
theorem bo_35 : bOK B ct 35 := rfl
theorem bo_36 : bOK B ct 36 := rfl
theorem bo_37 : bOK B ct 37 := rfl
theorem bo_38 : bOK B ct 38 := by
  show some (Sum.inl (ct 3, 8, .inr (.inr (.inr (.inr (fun j => (PR0 39 j).map (B + ·))))))) = (Y0 ct B)[38]?
  rw [mp_PR]
  rfl
theorem bo_39 : bOK B ct 39 := rfl
theorem bo_40 : bOK B ct 40 := rfl
theorem bo_41 : bOK B ct 41 := rfl
theorem bo_42 : bOK B ct 42 := rfl
theorem bo_43 : bOK B ct 43 := rfl
theorem bo_44 : bOK B ct 44 := rfl
theorem bo_45 : bOK B ct 45 := rfl
theorem bo_46 : bOK B ct 46 := rfl
theorem bo_47 : bOK B ct 47 := rfl
theorem bo_48 : bOK B ct 48 := rfl
theorem bo_49 : bOK B ct 49 := rfl
theorem bo_50 : bOK B ct 50 := rfl
theorem bo_51 : bOK B ct 51 := rfl
theorem bo_52 : bOK B ct 52 := rfl
theorem bo_53 : bOK B ct 53 := rfl
theorem bo_54 : bOK B ct 54 := rfl
theorem bo_55 : bOK B ct 55 := rfl
theorem bo_56 : bOK B ct 56 := rfl
theorem bo_57 : bOK B ct 57 := rfl
theorem bo_58 : bOK B ct 58 := rfl
theorem bo_59 : bOK B ct 59 := rfl
theorem bo_60 : bOK B ct 60 := rfl
theorem bo_61 : bOK B ct 61 := rfl
theorem bo_62 : bOK B ct 62 := rfl
theorem bo_63 : bOK B ct 63 := rfl
theorem bo_64 : bOK B ct 64 := rfl
theorem bo_65 : bOK B ct 65 := rfl
theorem bo_66 : bOK B ct 66 := rfl
theorem bo_67 : bOK B ct 67 := by
  show (some (Sum.inl (ct 3, 8, .inr (.inr (.inr (.inr (fun j => (fk0 69 8 j).map (B + ·))))))) : Option va_E) = some (Sum.inl (ct 3, 8, .inr (.inr (.inr (.inr (fk11 B 8))))))
  rw [mp_fk, fk_11]
theorem bo_69 : bOK B ct 69 := rfl
theorem bo_70 : bOK B ct 70 := rfl
theorem bo_71 : bOK B ct 71 := rfl
theorem bo_72 : bOK B ct 72 := rfl
theorem bo_73 : bOK B ct 73 := rfl
theorem bo_74 : bOK B ct 74 := rfl
theorem bo_75 : bOK B ct 75 := rfl
theorem bo_76 : bOK B ct 76 := rfl
theorem bo_77 : bOK B ct 77 := rfl
theorem bo_78 : bOK B ct 78 := rfl
theorem bo_79 : bOK B ct 79 := rfl
theorem bo_80 : bOK B ct 80 := rfl
theorem bo_81 : bOK B ct 81 := rfl
theorem bo_82 : bOK B ct 82 := rfl
theorem bo_83 : bOK B ct 83 := rfl
theorem bo_84 : bOK B ct 84 := rfl
theorem bo_85 : bOK B ct 85 := rfl
theorem bo_86 : bOK B ct 86 := rfl
theorem bo_87 : bOK B ct 87 := rfl
theorem bo_88 : bOK B ct 88 := rfl
theorem bo_89 : bOK B ct 89 := rfl
theorem bo_90 : bOK B ct 90 := rfl
theorem bo_91 : bOK B ct 91 := rfl
theorem bo_92 : bOK B ct 92 := rfl
theorem bo_93 : bOK B ct 93 := rfl
theorem bo_94 : bOK B ct 94 := rfl
theorem bo_95 : bOK B ct 95 := rfl
theorem bo_96 : bOK B ct 96 := rfl
theorem bo_97 : bOK B ct 97 := rfl
theorem bo_98 : bOK B ct 98 := rfl
theorem bo_99 : bOK B ct 99 := rfl
theorem bo_100 : bOK B ct 100 := rfl
theorem bo_101 : bOK B ct 101 := rfl
theorem bo_102 : bOK B ct 102 := rfl
theorem bo_103 : bOK B ct 103 := rfl
theorem bo_104 : bOK B ct 104 := rfl
theorem bo_105 : bOK B ct 105 := rfl
theorem bo_106 : bOK B ct 106 := rfl
theorem bo_107 : bOK B ct 107 := rfl
theorem bo_108 : bOK B ct 108 := rfl
theorem bo_109 : bOK B ct 109 := rfl
theorem bo_110 : bOK B ct 110 := rfl
theorem bo_111 : bOK B ct 111 := rfl
theorem bo_112 : bOK B ct 112 := rfl
theorem bo_113 : bOK B ct 113 := rfl
theorem bo_114 : bOK B ct 114 := rfl
theorem bo_115 : bOK B ct 115 := rfl
theorem bo_116 : bOK B ct 116 := rfl
theorem bo_117 : bOK B ct 117 := rfl
theorem bo_118 : bOK B ct 118 := rfl
theorem bo_119 : bOK B ct 119 := rfl
theorem bo_120 : bOK B ct 120 := rfl
theorem bo_121 : bOK B ct 121 := rfl
theorem bo_122 : bOK B ct 122 := rfl
theorem bo_123 : bOK B ct 123 := rfl
theorem bo_124 : bOK B ct 124 := rfl
theorem bo_125 : bOK B ct 125 := rfl
theorem bo_126 : bOK B ct 126 := rfl
theorem bo_127 : bOK B ct 127 := rfl
theorem bo_128 : bOK B ct 128 := rfl
theorem bo_129 : bOK B ct 129 := rfl
theorem bo_130 : bOK B ct 130 := rfl
theorem bo_131 : bOK B ct 131 := rfl
theorem bo_132 : bOK B ct 132 := rfl
theorem bo_133 : bOK B ct 133 := rfl
theorem bo_134 : bOK B ct 134 := rfl
theorem bo_135 : bOK B ct 135 := rfl
theorem bo_136 : bOK B ct 136 := rfl
theorem bo_137 : bOK B ct 137 := rfl
theorem bo_138 : bOK B ct 138 := rfl
theorem bo_139 : bOK B ct 139 := rfl
theorem bo_140 : bOK B ct 140 := rfl
theorem bo_141 : bOK B ct 141 := rfl
theorem bo_142 : bOK B ct 142 := rfl
theorem bo_143 : bOK B ct 143 := rfl
theorem bo_144 : bOK B ct 144 := rfl
theorem bo_145 : bOK B ct 145 := rfl
theorem bo_146 : bOK B ct 146 := rfl
theorem bo_147 : bOK B ct 147 := rfl
theorem bo_148 : bOK B ct 148 := rfl
theorem bo_149 : bOK B ct 149 := rfl
theorem bo_150 : bOK B ct 150 := rfl
theorem bo_151 : bOK B ct 151 := rfl
theorem bo_152 : bOK B ct 152 := rfl
theorem bo_153 : bOK B ct 153 := rfl
theorem bo_154 : bOK B ct 154 := rfl
theorem bo_155 : bOK B ct 155 := rfl
theorem bo_156 : bOK B ct 156 := rfl
theorem bo_157 : bOK B ct 157 := rfl
theorem bo_158 : bOK B ct 158 := rfl
theorem bo_159 : bOK B ct 159 := rfl
theorem bo_160 : bOK B ct 160 := rfl
theorem bo_161 : bOK B ct 161 := rfl
theorem bo_162 : bOK B ct 162 := rfl
theorem bo_163 : bOK B ct 163 := rfl
theorem bo_164 : bOK B ct 164 := rfl
theorem bo_165 : bOK B ct 165 := rfl
theorem bo_166 : bOK B ct 166 := rfl
theorem bo_167 : bOK B ct 167 := rfl
theorem bo_168 : bOK B ct 168 := rfl
theorem bo_169 : bOK B ct 169 := rfl
theorem bo_170 : bOK B ct 170 := rfl
theorem bo_171 : bOK B ct 171 := rfl
theorem bo_172 : bOK B ct 172 := rfl
theorem bo_173 : bOK B ct 173 := rfl
theorem bo_174 : bOK B ct 174 := rfl
theorem bo_175 : bOK B ct 175 := rfl
theorem bo_176 : bOK B ct 176 := rfl
theorem bo_177 : bOK B ct 177 := rfl
theorem bo_178 : bOK B ct 178 := rfl
theorem bo_179 : bOK B ct 179 := rfl
theorem bo_180 : bOK B ct 180 := rfl
theorem bo_181 : bOK B ct 181 := rfl
theorem bo_182 : bOK B ct 182 := rfl
end BORN
