/-! the first state holds what the constructors left -/
section BORN
variable {b : Nat} {ct : Nat → ClassId} {D : va_G} {H Hb : Heap}
def ZA (ct : Nat → ClassId) (b : Nat) : List va_E := Z0 ct b ++ (Z1 ct b ++ (Z2 ct b ++ (ZK ct b ++ Z4 ct b)))
theorem cl_ZA : cells_L ct b = cells_X11 ct (b + 1) ++ ZA ct b := by
  unfold cells_L ZA
  rw [List.append_assoc, List.append_assoc, List.append_assoc, List.append_assoc]
theorem rp_lo (hP : RP D b (oL b :: cells_L ct b) H) {k : Nat} (hk : k < 136) {e : va_E} (he : (cells_X11 ct (b + 1))[k]? = some e) : va_at D vwCl (b + 1 + k, e) H := by
  have h := hP.2 (k + 1) e (by rw [List.getElem?_cons_succ, cl_ZA, List.getElem?_append_left (by rw [len_11]; exact hk)]; exact he)
  rw [show b + (k + 1) = b + 1 + k by omega] at h
  exact h
theorem rp_hi (hP : RP D b (oL b :: cells_L ct b) H) {k i : Nat} (hk : 136 + i = k) {e : va_E} (he : (ZA ct b)[i]? = some e) : va_at D vwCl (b + 1 + k, e) H := by
  subst hk
  have h := hP.2 (136 + i + 1) e (by rw [List.getElem?_cons_succ, cl_ZA, List.getElem?_append_right (by rw [len_11]; omega), len_11, show 136 + i - 136 = i by omega]; exact he)
  rw [show b + (136 + i + 1) = b + 1 + (136 + i) by omega] at h
  exact h
theorem qf_e (s : Nat) : (fun j : Nat => (some (s + j)).map ((b + 1) + ·)) = (fun i : Nat => (some (b + ((s + 1) + 1 * i)) : Option Nat)) := by
  funext j
  show some (b + 1 + (s + j)) = _
  congr 1
  omega
theorem bo_kz : ∀ j, j < 4 → va_rf ((va_up (va_up (va_up (va_up (fun _ => none) ((0 : Int32).toNatClampNeg) (some (b + 159))) ((1 : Int32).toNatClampNeg) (some (b + 160))) ((2 : Int32).toNatClampNeg) (some (b + 161))) ((3 : Int32).toNatClampNeg) (some (b + 162)) : Nat → Option Nat) j) = va_rf (some (b + 1 + (158 + 1 * j))) := fun j hj => by
  rcases (show j = 0 ∨ j = 1 ∨ j = 2 ∨ j = 3 by omega) with rfl | rfl | rfl | rfl <;> rfl
set_option maxRecDepth 10000 in
theorem bh_136 (hP : RP D b (oL b :: cells_L ct b) H) : ∀ e, lay (b + 1) ct S0 136 = some e → va_at D vwCl (b + 1 + 136, e) H := fun e he => by
  cases he
  exact by
    have h := rp_hi hP (i := 0) (k := 136) rfl (e := .inl (ct 5, 8, .inr (.inr (.inr (.inr (fun i => some (b + ((137 + 1) + 1 * i)))))))) rfl
    rw [← qf_e 137] at h
    exact h
set_option maxRecDepth 10000 in
theorem bh_137 (hP : RP D b (oL b :: cells_L ct b) H) : ∀ e, lay (b + 1) ct S0 137 = some e → va_at D vwCl (b + 1 + 137, e) H := fun e he => by
  cases he
  exact rp_hi hP (i := 1) (k := 137) rfl rfl
set_option maxRecDepth 10000 in
theorem bh_138 (hP : RP D b (oL b :: cells_L ct b) H) : ∀ e, lay (b + 1) ct S0 138 = some e → va_at D vwCl (b + 1 + 138, e) H := fun e he => by
  cases he
  exact rp_hi hP (i := 2) (k := 138) rfl rfl
set_option maxRecDepth 10000 in
theorem bh_139 (hP : RP D b (oL b :: cells_L ct b) H) : ∀ e, lay (b + 1) ct S0 139 = some e → va_at D vwCl (b + 1 + 139, e) H := fun e he => by
  cases he
  exact rp_hi hP (i := 3) (k := 139) rfl rfl
set_option maxRecDepth 10000 in
theorem bh_140 (hP : RP D b (oL b :: cells_L ct b) H) : ∀ e, lay (b + 1) ct S0 140 = some e → va_at D vwCl (b + 1 + 140, e) H := fun e he => by
  cases he
  exact rp_hi hP (i := 4) (k := 140) rfl rfl
set_option maxRecDepth 10000 in
theorem bh_141 (hP : RP D b (oL b :: cells_L ct b) H) : ∀ e, lay (b + 1) ct S0 141 = some e → va_at D vwCl (b + 1 + 141, e) H := fun e he => by
  cases he
  exact rp_hi hP (i := 5) (k := 141) rfl rfl
set_option maxRecDepth 10000 in
theorem bh_142 (hP : RP D b (oL b :: cells_L ct b) H) : ∀ e, lay (b + 1) ct S0 142 = some e → va_at D vwCl (b + 1 + 142, e) H := fun e he => by
  cases he
  exact rp_hi hP (i := 6) (k := 142) rfl rfl
set_option maxRecDepth 10000 in
theorem bh_143 (hP : RP D b (oL b :: cells_L ct b) H) : ∀ e, lay (b + 1) ct S0 143 = some e → va_at D vwCl (b + 1 + 143, e) H := fun e he => by
  cases he
  exact rp_hi hP (i := 7) (k := 143) rfl rfl
set_option maxRecDepth 10000 in
theorem bh_144 (hP : RP D b (oL b :: cells_L ct b) H) : ∀ e, lay (b + 1) ct S0 144 = some e → va_at D vwCl (b + 1 + 144, e) H := fun e he => by
  cases he
  exact rp_hi hP (i := 8) (k := 144) rfl rfl
set_option maxRecDepth 10000 in
theorem bh_145 (hP : RP D b (oL b :: cells_L ct b) H) : ∀ e, lay (b + 1) ct S0 145 = some e → va_at D vwCl (b + 1 + 145, e) H := fun e he => by
  cases he
  exact by
    have h := rp_hi hP (i := 9) (k := 145) rfl (e := .inl (ct 5, 6, .inr (.inr (.inr (.inr (fun i => some (b + ((146 + 1) + 1 * i)))))))) rfl
    rw [← qf_e 146] at h
    exact h
set_option maxRecDepth 10000 in
theorem bh_146 (hP : RP D b (oL b :: cells_L ct b) H) : ∀ e, lay (b + 1) ct S0 146 = some e → va_at D vwCl (b + 1 + 146, e) H := fun e he => by
  cases he
  exact rp_hi hP (i := 10) (k := 146) rfl rfl
set_option maxRecDepth 10000 in
theorem bh_147 (hP : RP D b (oL b :: cells_L ct b) H) : ∀ e, lay (b + 1) ct S0 147 = some e → va_at D vwCl (b + 1 + 147, e) H := fun e he => by
  cases he
  exact rp_hi hP (i := 11) (k := 147) rfl rfl
set_option maxRecDepth 10000 in
theorem bh_148 (hP : RP D b (oL b :: cells_L ct b) H) : ∀ e, lay (b + 1) ct S0 148 = some e → va_at D vwCl (b + 1 + 148, e) H := fun e he => by
  cases he
  exact rp_hi hP (i := 12) (k := 148) rfl rfl
set_option maxRecDepth 10000 in
theorem bh_149 (hP : RP D b (oL b :: cells_L ct b) H) : ∀ e, lay (b + 1) ct S0 149 = some e → va_at D vwCl (b + 1 + 149, e) H := fun e he => by
  cases he
  exact rp_hi hP (i := 13) (k := 149) rfl rfl
set_option maxRecDepth 10000 in
theorem bh_150 (hP : RP D b (oL b :: cells_L ct b) H) : ∀ e, lay (b + 1) ct S0 150 = some e → va_at D vwCl (b + 1 + 150, e) H := fun e he => by
  cases he
  exact rp_hi hP (i := 14) (k := 150) rfl rfl
set_option maxRecDepth 10000 in
theorem bh_151 (hP : RP D b (oL b :: cells_L ct b) H) : ∀ e, lay (b + 1) ct S0 151 = some e → va_at D vwCl (b + 1 + 151, e) H := fun e he => by
  cases he
  exact rp_hi hP (i := 15) (k := 151) rfl rfl
set_option maxRecDepth 10000 in
theorem bh_152 (hP : RP D b (oL b :: cells_L ct b) H) : ∀ e, lay (b + 1) ct S0 152 = some e → va_at D vwCl (b + 1 + 152, e) H := fun e he => by
  cases he
  exact by
    have h := rp_hi hP (i := 16) (k := 152) rfl (e := .inl (ct 5, 4, .inr (.inr (.inr (.inr (fun i => some (b + ((153 + 1) + 1 * i)))))))) rfl
    rw [← qf_e 153] at h
    exact h
set_option maxRecDepth 10000 in
theorem bh_153 (hP : RP D b (oL b :: cells_L ct b) H) : ∀ e, lay (b + 1) ct S0 153 = some e → va_at D vwCl (b + 1 + 153, e) H := fun e he => by
  cases he
  exact rp_hi hP (i := 17) (k := 153) rfl rfl
set_option maxRecDepth 10000 in
theorem bh_154 (hP : RP D b (oL b :: cells_L ct b) H) : ∀ e, lay (b + 1) ct S0 154 = some e → va_at D vwCl (b + 1 + 154, e) H := fun e he => by
  cases he
  exact rp_hi hP (i := 18) (k := 154) rfl rfl
set_option maxRecDepth 10000 in
theorem bh_155 (hP : RP D b (oL b :: cells_L ct b) H) : ∀ e, lay (b + 1) ct S0 155 = some e → va_at D vwCl (b + 1 + 155, e) H := fun e he => by
  cases he
  exact rp_hi hP (i := 19) (k := 155) rfl rfl
set_option maxRecDepth 10000 in
theorem bh_156 (hP : RP D b (oL b :: cells_L ct b) H) : ∀ e, lay (b + 1) ct S0 156 = some e → va_at D vwCl (b + 1 + 156, e) H := fun e he => by
  cases he
  exact rp_hi hP (i := 20) (k := 156) rfl rfl
set_option maxRecDepth 10000 in
theorem bh_157 (hP : RP D b (oL b :: cells_L ct b) H) : ∀ e, lay (b + 1) ct S0 157 = some e → va_at D vwCl (b + 1 + 157, e) H := fun e he => by
  cases he
  exact by
    have h1 := rp_hi hP (i := 21) (k := 157) rfl (e := .inl (ct 6, 4, .inr (.inr (.inr (.inr (va_up (va_up (va_up (va_up (fun _ => none) ((0 : Int32).toNatClampNeg) (some (b + 159))) ((1 : Int32).toNatClampNeg) (some (b + 160))) ((2 : Int32).toNatClampNeg) (some (b + 161))) ((3 : Int32).toNatClampNeg) (some (b + 162)))))))) rfl
    have h2 : H[b + 1 + 157]? = some (vp_cell (ct 6) (4, .inr (.inr (.inr (.inr (va_up (va_up (va_up (va_up (fun _ => none) ((0 : Int32).toNatClampNeg) (some (b + 159))) ((1 : Int32).toNatClampNeg) (some (b + 160))) ((2 : Int32).toNatClampNeg) (some (b + 161))) ((3 : Int32).toNatClampNeg) (some (b + 162)))))))) := h1
    show H[b + 1 + 157]? = some (vp_cell (ct 6) (4, .inr (.inr (.inr (.inr (fun j => some (b + 1 + (158 + 1 * j))))))))
    rw [h2, vp_cell_q, vp_cell_q, arrV_ext (bo_kz (b := b))]
set_option maxRecDepth 10000 in
theorem bh_158 (hP : RP D b (oL b :: cells_L ct b) H) : ∀ e, lay (b + 1) ct S0 158 = some e → va_at D vwCl (b + 1 + 158, e) H := fun e he => by
  cases he
  exact rp_hi hP (i := 22) (k := 158) rfl rfl
set_option maxRecDepth 10000 in
theorem bh_159 (hP : RP D b (oL b :: cells_L ct b) H) : ∀ e, lay (b + 1) ct S0 159 = some e → va_at D vwCl (b + 1 + 159, e) H := fun e he => by
  cases he
  exact rp_hi hP (i := 23) (k := 159) rfl rfl
set_option maxRecDepth 10000 in
theorem bh_160 (hP : RP D b (oL b :: cells_L ct b) H) : ∀ e, lay (b + 1) ct S0 160 = some e → va_at D vwCl (b + 1 + 160, e) H := fun e he => by
  cases he
  exact rp_hi hP (i := 24) (k := 160) rfl rfl
set_option maxRecDepth 10000 in
theorem bh_161 (hP : RP D b (oL b :: cells_L ct b) H) : ∀ e, lay (b + 1) ct S0 161 = some e → va_at D vwCl (b + 1 + 161, e) H := fun e he => by
  cases he
  exact rp_hi hP (i := 25) (k := 161) rfl rfl
theorem bh_162 (hP : RP D b (oL b :: cells_L ct b) H) : ∀ e, lay (b + 1) ct S0 162 = some e → va_at D vwCl (b + 1 + 162, e) H := fun e he => by
  cases he
theorem bh_163 (hP : RP D b (oL b :: cells_L ct b) H) : ∀ e, lay (b + 1) ct S0 163 = some e → va_at D vwCl (b + 1 + 163, e) H := fun e he => by
  cases he
theorem bh_164 (hP : RP D b (oL b :: cells_L ct b) H) : ∀ e, lay (b + 1) ct S0 164 = some e → va_at D vwCl (b + 1 + 164, e) H := fun e he => by
  cases he
theorem bh_165 (hP : RP D b (oL b :: cells_L ct b) H) : ∀ e, lay (b + 1) ct S0 165 = some e → va_at D vwCl (b + 1 + 165, e) H := fun e he => by
  cases he
theorem bh_166 (hP : RP D b (oL b :: cells_L ct b) H) : ∀ e, lay (b + 1) ct S0 166 = some e → va_at D vwCl (b + 1 + 166, e) H := fun e he => by
  cases he
theorem bh_167 (hP : RP D b (oL b :: cells_L ct b) H) : ∀ e, lay (b + 1) ct S0 167 = some e → va_at D vwCl (b + 1 + 167, e) H := fun e he => by
  cases he
theorem bh_168 (hP : RP D b (oL b :: cells_L ct b) H) : ∀ e, lay (b + 1) ct S0 168 = some e → va_at D vwCl (b + 1 + 168, e) H := fun e he => by
  cases he
theorem bh_169 (hP : RP D b (oL b :: cells_L ct b) H) : ∀ e, lay (b + 1) ct S0 169 = some e → va_at D vwCl (b + 1 + 169, e) H := fun e he => by
  cases he
theorem bh_170 (hP : RP D b (oL b :: cells_L ct b) H) : ∀ e, lay (b + 1) ct S0 170 = some e → va_at D vwCl (b + 1 + 170, e) H := fun e he => by
  cases he
theorem bh_171 (hP : RP D b (oL b :: cells_L ct b) H) : ∀ e, lay (b + 1) ct S0 171 = some e → va_at D vwCl (b + 1 + 171, e) H := fun e he => by
  cases he
theorem bh_172 (hP : RP D b (oL b :: cells_L ct b) H) : ∀ e, lay (b + 1) ct S0 172 = some e → va_at D vwCl (b + 1 + 172, e) H := fun e he => by
  cases he
theorem bh_173 (hP : RP D b (oL b :: cells_L ct b) H) : ∀ e, lay (b + 1) ct S0 173 = some e → va_at D vwCl (b + 1 + 173, e) H := fun e he => by
  cases he
theorem bh_174 (hP : RP D b (oL b :: cells_L ct b) H) : ∀ e, lay (b + 1) ct S0 174 = some e → va_at D vwCl (b + 1 + 174, e) H := fun e he => by
  cases he
theorem bh_175 (hP : RP D b (oL b :: cells_L ct b) H) : ∀ e, lay (b + 1) ct S0 175 = some e → va_at D vwCl (b + 1 + 175, e) H := fun e he => by
  cases he
theorem bh_176 (hP : RP D b (oL b :: cells_L ct b) H) : ∀ e, lay (b + 1) ct S0 176 = some e → va_at D vwCl (b + 1 + 176, e) H := fun e he => by
  cases he
theorem bh_177 (hP : RP D b (oL b :: cells_L ct b) H) : ∀ e, lay (b + 1) ct S0 177 = some e → va_at D vwCl (b + 1 + 177, e) H := fun e he => by
  cases he
theorem bh_178 (hP : RP D b (oL b :: cells_L ct b) H) : ∀ e, lay (b + 1) ct S0 178 = some e → va_at D vwCl (b + 1 + 178, e) H := fun e he => by
  cases he
theorem bh_179 (hP : RP D b (oL b :: cells_L ct b) H) : ∀ e, lay (b + 1) ct S0 179 = some e → va_at D vwCl (b + 1 + 179, e) H := fun e he => by
  cases he
theorem bh_180 (hP : RP D b (oL b :: cells_L ct b) H) : ∀ e, lay (b + 1) ct S0 180 = some e → va_at D vwCl (b + 1 + 180, e) H := fun e he => by
  cases he
theorem bh_181 (hP : RP D b (oL b :: cells_L ct b) H) : ∀ e, lay (b + 1) ct S0 181 = some e → va_at D vwCl (b + 1 + 181, e) H := fun e he => by
  cases he
theorem bh_182 (hP : RP D b (oL b :: cells_L ct b) H) : ∀ e, lay (b + 1) ct S0 182 = some e → va_at D vwCl (b + 1 + 182, e) H := fun e he => by
  cases he
theorem bh_all (hP : RP D b (oL b :: cells_L ct b) H) : ∀ i, i < 47 → ∀ e, lay (b + 1) ct S0 (136 + i) = some e → va_at D vwCl (b + 1 + (136 + i), e) H := (fs_1 (Pr := fun i => ∀ e, lay (b + 1) ct S0 (136 + i) = some e → va_at D vwCl (b + 1 + (136 + i), e) H) (bh_182 hP) (fs_1 (Pr := fun i => ∀ e, lay (b + 1) ct S0 (136 + i) = some e → va_at D vwCl (b + 1 + (136 + i), e) H) (bh_181 hP) (fs_1 (Pr := fun i => ∀ e, lay (b + 1) ct S0 (136 + i) = some e → va_at D vwCl (b + 1 + (136 + i), e) H) (bh_180 hP) (fs_1 (Pr := fun i => ∀ e, lay (b + 1) ct S0 (136 + i) = some e → va_at D vwCl (b + 1 + (136 + i), e) H) (bh_179 hP) (fs_1 (Pr := fun i => ∀ e, lay (b + 1) ct S0 (136 + i) = some e → va_at D vwCl (b + 1 + (136 + i), e) H) (bh_178 hP) (fs_1 (Pr := fun i => ∀ e, lay (b + 1) ct S0 (136 + i) = some e → va_at D vwCl (b + 1 + (136 + i), e) H) (bh_177 hP) (fs_1 (Pr := fun i => ∀ e, lay (b + 1) ct S0 (136 + i) = some e → va_at D vwCl (b + 1 + (136 + i), e) H) (bh_176 hP) (fs_1 (Pr := fun i => ∀ e, lay (b + 1) ct S0 (136 + i) = some e → va_at D vwCl (b + 1 + (136 + i), e) H) (bh_175 hP) (fs_1 (Pr := fun i => ∀ e, lay (b + 1) ct S0 (136 + i) = some e → va_at D vwCl (b + 1 + (136 + i), e) H) (bh_174 hP) (fs_1 (Pr := fun i => ∀ e, lay (b + 1) ct S0 (136 + i) = some e → va_at D vwCl (b + 1 + (136 + i), e) H) (bh_173 hP) (fs_1 (Pr := fun i => ∀ e, lay (b + 1) ct S0 (136 + i) = some e → va_at D vwCl (b + 1 + (136 + i), e) H) (bh_172 hP) (fs_1 (Pr := fun i => ∀ e, lay (b + 1) ct S0 (136 + i) = some e → va_at D vwCl (b + 1 + (136 + i), e) H) (bh_171 hP) (fs_1 (Pr := fun i => ∀ e, lay (b + 1) ct S0 (136 + i) = some e → va_at D vwCl (b + 1 + (136 + i), e) H) (bh_170 hP) (fs_1 (Pr := fun i => ∀ e, lay (b + 1) ct S0 (136 + i) = some e → va_at D vwCl (b + 1 + (136 + i), e) H) (bh_169 hP) (fs_1 (Pr := fun i => ∀ e, lay (b + 1) ct S0 (136 + i) = some e → va_at D vwCl (b + 1 + (136 + i), e) H) (bh_168 hP) (fs_1 (Pr := fun i => ∀ e, lay (b + 1) ct S0 (136 + i) = some e → va_at D vwCl (b + 1 + (136 + i), e) H) (bh_167 hP) (fs_1 (Pr := fun i => ∀ e, lay (b + 1) ct S0 (136 + i) = some e → va_at D vwCl (b + 1 + (136 + i), e) H) (bh_166 hP) (fs_1 (Pr := fun i => ∀ e, lay (b + 1) ct S0 (136 + i) = some e → va_at D vwCl (b + 1 + (136 + i), e) H) (bh_165 hP) (fs_1 (Pr := fun i => ∀ e, lay (b + 1) ct S0 (136 + i) = some e → va_at D vwCl (b + 1 + (136 + i), e) H) (bh_164 hP) (fs_1 (Pr := fun i => ∀ e, lay (b + 1) ct S0 (136 + i) = some e → va_at D vwCl (b + 1 + (136 + i), e) H) (bh_163 hP) (fs_1 (Pr := fun i => ∀ e, lay (b + 1) ct S0 (136 + i) = some e → va_at D vwCl (b + 1 + (136 + i), e) H) (bh_162 hP) (fs_1 (Pr := fun i => ∀ e, lay (b + 1) ct S0 (136 + i) = some e → va_at D vwCl (b + 1 + (136 + i), e) H) (bh_161 hP) (fs_1 (Pr := fun i => ∀ e, lay (b + 1) ct S0 (136 + i) = some e → va_at D vwCl (b + 1 + (136 + i), e) H) (bh_160 hP) (fs_1 (Pr := fun i => ∀ e, lay (b + 1) ct S0 (136 + i) = some e → va_at D vwCl (b + 1 + (136 + i), e) H) (bh_159 hP) (fs_1 (Pr := fun i => ∀ e, lay (b + 1) ct S0 (136 + i) = some e → va_at D vwCl (b + 1 + (136 + i), e) H) (bh_158 hP) (fs_1 (Pr := fun i => ∀ e, lay (b + 1) ct S0 (136 + i) = some e → va_at D vwCl (b + 1 + (136 + i), e) H) (bh_157 hP) (fs_1 (Pr := fun i => ∀ e, lay (b + 1) ct S0 (136 + i) = some e → va_at D vwCl (b + 1 + (136 + i), e) H) (bh_156 hP) (fs_1 (Pr := fun i => ∀ e, lay (b + 1) ct S0 (136 + i) = some e → va_at D vwCl (b + 1 + (136 + i), e) H) (bh_155 hP) (fs_1 (Pr := fun i => ∀ e, lay (b + 1) ct S0 (136 + i) = some e → va_at D vwCl (b + 1 + (136 + i), e) H) (bh_154 hP) (fs_1 (Pr := fun i => ∀ e, lay (b + 1) ct S0 (136 + i) = some e → va_at D vwCl (b + 1 + (136 + i), e) H) (bh_153 hP) (fs_1 (Pr := fun i => ∀ e, lay (b + 1) ct S0 (136 + i) = some e → va_at D vwCl (b + 1 + (136 + i), e) H) (bh_152 hP) (fs_1 (Pr := fun i => ∀ e, lay (b + 1) ct S0 (136 + i) = some e → va_at D vwCl (b + 1 + (136 + i), e) H) (bh_151 hP) (fs_1 (Pr := fun i => ∀ e, lay (b + 1) ct S0 (136 + i) = some e → va_at D vwCl (b + 1 + (136 + i), e) H) (bh_150 hP) (fs_1 (Pr := fun i => ∀ e, lay (b + 1) ct S0 (136 + i) = some e → va_at D vwCl (b + 1 + (136 + i), e) H) (bh_149 hP) (fs_1 (Pr := fun i => ∀ e, lay (b + 1) ct S0 (136 + i) = some e → va_at D vwCl (b + 1 + (136 + i), e) H) (bh_148 hP) (fs_1 (Pr := fun i => ∀ e, lay (b + 1) ct S0 (136 + i) = some e → va_at D vwCl (b + 1 + (136 + i), e) H) (bh_147 hP) (fs_1 (Pr := fun i => ∀ e, lay (b + 1) ct S0 (136 + i) = some e → va_at D vwCl (b + 1 + (136 + i), e) H) (bh_146 hP) (fs_1 (Pr := fun i => ∀ e, lay (b + 1) ct S0 (136 + i) = some e → va_at D vwCl (b + 1 + (136 + i), e) H) (bh_145 hP) (fs_1 (Pr := fun i => ∀ e, lay (b + 1) ct S0 (136 + i) = some e → va_at D vwCl (b + 1 + (136 + i), e) H) (bh_144 hP) (fs_1 (Pr := fun i => ∀ e, lay (b + 1) ct S0 (136 + i) = some e → va_at D vwCl (b + 1 + (136 + i), e) H) (bh_143 hP) (fs_1 (Pr := fun i => ∀ e, lay (b + 1) ct S0 (136 + i) = some e → va_at D vwCl (b + 1 + (136 + i), e) H) (bh_142 hP) (fs_1 (Pr := fun i => ∀ e, lay (b + 1) ct S0 (136 + i) = some e → va_at D vwCl (b + 1 + (136 + i), e) H) (bh_141 hP) (fs_1 (Pr := fun i => ∀ e, lay (b + 1) ct S0 (136 + i) = some e → va_at D vwCl (b + 1 + (136 + i), e) H) (bh_140 hP) (fs_1 (Pr := fun i => ∀ e, lay (b + 1) ct S0 (136 + i) = some e → va_at D vwCl (b + 1 + (136 + i), e) H) (bh_139 hP) (fs_1 (Pr := fun i => ∀ e, lay (b + 1) ct S0 (136 + i) = some e → va_at D vwCl (b + 1 + (136 + i), e) H) (bh_138 hP) (fs_1 (Pr := fun i => ∀ e, lay (b + 1) ct S0 (136 + i) = some e → va_at D vwCl (b + 1 + (136 + i), e) H) (bh_137 hP) (fs_1 (Pr := fun i => ∀ e, lay (b + 1) ct S0 (136 + i) = some e → va_at D vwCl (b + 1 + (136 + i), e) H) (bh_136 hP) (fun j hj => absurd hj (Nat.not_lt_zero j)))))))))))))))))))))))))))))))))))))))))))))))))
theorem ML_born (hP : RP D b (oL b :: cells_L ct b) H) (hb : ∀ q : Nat, q < b → H[q]? = Hb[q]?) : ML D ct b Hb S0 H := by
  have hlen : (oL b :: cells_L ct b).length = 188 := by rw [List.length_cons, cl_ZA, List.length_append, len_11]; rfl
  refine ⟨⟨by rw [hP.1, hlen]; show b + 188 = b + 1 + 187; omega, fun _ _ => rfl, fun k e he => ?_⟩, hb, hP.2 0 (oL b) rfl⟩
  rcases Nat.lt_or_ge k 136 with h | h
  · by_cases h8 : k = 68
    · subst h8
      cases he
      have h1 := rp_lo hP (k := 68) (by decide) (e := .inl (ct 4, 8, .inr (.inr (.inr (.inr (fr11 (b + 1) 8)))))) rfl
      have h2 : H[b + 1 + 68]? = some (vp_cell (ct 4) (8, .inr (.inr (.inr (.inr (fr11 (b + 1) 8)))))) := h1
      show H[b + 1 + 68]? = some (vp_cell (ct 4) (8, .inr (.inr (.inr (.inr (fun j => some (b + 1 + (70 + 2 * j))))))))
      rw [h2, vp_cell_q, vp_cell_q, arrV_ext (bo_fr (B := b + 1))]
    · exact rp_lo hP h ((bo_all k h h8).symm.trans he)
  · rcases Nat.lt_or_ge k 183 with h3 | h3
    · obtain ⟨i, rfl⟩ : ∃ i, k = 136 + i := ⟨k - 136, by omega⟩
      exact bh_all hP i (by omega) e he
    · exfalso
      unfold lay at he
      rw [List.getElem?_eq_none (show (layT (b + 1) ct).length ≤ k from (show (layT (b + 1) ct).length = 183 from rfl) ▸ h3)] at he
      have hg : gp S0 k = none := by
        show (if k = 3 then some ((0 : Nat), (0 : Int32)) else if k = 21 then some (0, 0) else if k = 39 then some (0, 0) else if k = 69 then some (0, 0) else none) = none
        rw [if_neg (by omega), if_neg (by omega), if_neg (by omega), if_neg (by omega)]
      have hr : gr S0 k 0 = none := by
        show (if k = 2 then PR0 3 else if k = 20 then PR0 21 else if k = 38 then PR0 39 else if k = 55 then (fun i => if i = 0 then some 1 else none) else if k = 67 then fk0 69 8 else if k = 136 then (fun j => some (137 + j)) else if k = 145 then (fun j => some (146 + j)) else if k = 152 then (fun j => some (153 + j)) else fun _ => none) 0 = none
        rw [if_neg (by omega), if_neg (by omega), if_neg (by omega), if_neg (by omega), if_neg (by omega), if_neg (by omega), if_neg (by omega), if_neg (by omega)]
      simp only [eDy, hg, hr] at he
      cases he
end BORN
def F0' : Nat → Nat → Int32 := fun r i => if r = 14 then (if i % 5 = 0 then 1 else 0) else if r = 15 then (if i = 0 then 15 else if i = 1 then 1 else 4) else 0
def T0 : TT := ((0, 0, 0), fun _ => 0, F0')
def M0 : MM := (T0, none, fun _ => (0, (0, 0), (0, 0), fun _ => 0))
theorem lt4 {a : Nat} (h : a < 4) : a = 0 ∨ a = 1 ∨ a = 2 ∨ a = 3 := by omega
theorem WT0 : WT T0 := by
  refine ⟨Nat.zero_le _, Nat.zero_le _, Nat.zero_le _, fun p hp => absurd hp (Nat.not_lt_zero p), fun p hp => absurd hp (Nat.not_lt_zero p), fun p hp => absurd hp (Nat.not_lt_zero p), fun a b ha hb => ?_, fun a ha => ?_, ⟨15, by decide, rfl⟩, ⟨1, by decide, rfl⟩, ⟨4, by decide, by decide, rfl⟩⟩
  · rcases lt4 ha with rfl | rfl | rfl | rfl <;> rcases lt4 hb with rfl | rfl | rfl | rfl <;> decide +kernel
  · rcases lt4 ha with rfl | rfl | rfl | rfl <;> decide +kernel
theorem IC0 : IC S0 M0 := by
  refine ⟨by decide, WT0, ⟨rfl, rfl, rfl, fun p hp => absurd hp (Nat.not_lt_zero p), fun p hp => absurd hp (Nat.not_lt_zero p), fun p hp => absurd hp (Nat.not_lt_zero p), fun a b ha hb => ?_, fun i hi => ?_⟩, fun p hp => ⟨3, (0, 0), ?_, rfl, by decide⟩, rfl, fun T h => (by cases h), fun d hd => ⟨rfl, Nat.zero_le _, ⟨69, (0, 0), ?_, rfl, by decide, fun q => absurd (show (0 : Nat) = 1 from q) (by decide)⟩, fun q => absurd (show (0 : Nat) = 2 from q) (by decide)⟩⟩
  · rcases lt4 ha with rfl | rfl | rfl | rfl <;> rcases lt4 hb with rfl | rfl | rfl | rfl <;> decide +kernel
  · rcases (show i = 0 ∨ i = 1 ∨ i = 2 by omega) with rfl | rfl | rfl <;> rfl
  · rcases (show p = 0 ∨ p = 1 ∨ p = 2 ∨ p = 3 ∨ p = 4 ∨ p = 5 ∨ p = 6 ∨ p = 7 by omega) with rfl | rfl | rfl | rfl | rfl | rfl | rfl | rfl <;> rfl
  · rcases (show d = 0 ∨ d = 1 ∨ d = 2 ∨ d = 3 ∨ d = 4 ∨ d = 5 ∨ d = 6 ∨ d = 7 by omega) with rfl | rfl | rfl | rfl | rfl | rfl | rfl | rfl <;> rfl
theorem LV0 : LV S0 T0 := by
  refine ⟨rfl, rfl, rfl, fun a b ha hb => ?_, fun p hp => absurd hp (Nat.not_lt_zero p), fun p hp => absurd hp (Nat.not_lt_zero p)⟩
  rcases lt4 ha with rfl | rfl | rfl | rfl <;> rcases lt4 hb with rfl | rfl | rfl | rfl <;> decide +kernel
theorem ER0 : ER T0 := ⟨rfl, rfl, rfl⟩
