/-! turn: a PLANT tried. -/
theorem uD_comm (D : Nat → Nat → Int32) {r r' : Nat} (i j : Nat) (v w : Int32) (h : r ≠ r') : uD (uD D r i v) r' j w = uD (uD D r' j w) r i v := by
  funext a
  by_cases e : a = r
  · subst e
    rw [uD_n _ _ _ h, uD_s, uD_s, uD_n _ _ _ h]
  · by_cases e2 : a = r'
    · subst e2
      rw [uD_s, uD_n _ _ _ e, uD_n _ _ _ e, uD_s]
    · rw [uD_n _ _ _ e2, uD_n _ _ _ e, uD_n _ _ _ e, uD_n _ _ _ e2]
theorem wF_comm (T : TT) {r r' : Nat} (i j : Nat) (v w : Int32) (h : r ≠ r') : wF (wF T r i v) r' j w = wF (wF T r' j w) r i v := by
  unfold wF
  rw [show (T.fst, T.2.fst, uD T.2.2 r i v).2.2 = uD T.2.2 r i v from rfl]
  rw [show (T.fst, T.2.fst, uD T.2.2 r' j w).2.2 = uD T.2.2 r' j w from rfl, uD_comm _ i j v w h]
/-- all of some -/
def al (f : Nat → Bool) : Nat → Bool
  | 0 => true
  | k + 1 => al f k && f k
theorem al_iff (f : Nat → Bool) : ∀ n, al f n = true ↔ ∀ p, p < n → f p = true := by
  intro n
  induction n with
  | zero => exact ⟨fun _ p h => absurd h (Nat.not_lt_zero p), fun _ => rfl⟩
  | succ n ih =>
    show (al f n && f n) = true ↔ _
    rw [Bool.and_eq_true, ih]
    constructor
    · intro h p hp
      rcases Nat.eq_or_lt_of_le (Nat.le_of_lt_succ hp) with z | z
      · rw [z]; exact h.2
      · exact h.1 p z
    · exact fun h => ⟨fun p hp => h p (by omega), h n (by omega)⟩
def allY (T : TT) (s : Int32) : Bool := al (fun p => !(bt s p) || decide (sDay T tt false 1 p = 1)) (tn T)
section TURN
variable {S S0 X : St} {T : TT} {m : Option TT × (Nat → Sh)}
theorem C_all (h : DC X 19 T tt ∨ DC X 1 T tt) {s : Int32} (hs : 0 ≤ s ∧ s ≤ ((1 : Int32) <<< (nI (tn T) &&& 31)) - 1) : ∃ y, L_X2_sayYes X = some y ∧ (y &&& s = s ↔ allY T s = true) := by
  have n8 : tn T ≤ 8 := by rcases h with h | h <;> exact (C_W h).2.1
  refine ⟨_, by rcases h with h | h <;> exact C_yes h, ?_⟩
  rw [set_sub n8 hs]
  unfold allY
  rw [al_iff]
  constructor
  · intro z p hp
    cases hb : bt s p with
    | true => simpa using z p hp hb
    | false => rfl
  · intro z p hp hb
    have := z p hp
    rw [hb] at this
    simpa using this
def tP (T : TT) (v c : Nat) : TT := wF (wF (addP T 0 1 1 0 0) 11 (tk T) (nI v)) 9 (tk T) (nI c)
theorem tP_11 (T : TT) (v c w : Nat) : wF (tP T v c) 11 (tk T) (nI w) = tP T w c := by
  unfold tP
  rw [wF_comm _ _ _ _ _ (by decide), wF_u]
theorem tP_9 (T : TT) (v c w : Nat) : wF (tP T v c) 9 (tk T) (nI w) = tP T v w := by
  unfold tP
  rw [wF_u]
theorem tP_0 (T : TT) : tP T 1 0 = addP T 0 1 1 0 0 := by
  have e1 : tF (addP T 0 1 1 0 0) 11 (tk T) = nI 1 := by
    show upd (tF T 11) (tk T) 1 (tk T) = 1
    rw [upd_s]
  have e2 : tF (addP T 0 1 1 0 0) 9 (tk T) = nI 0 := by
    show upd (tF T 9) (tk T) 0 (tk T) = 0
    rw [upd_s]
  unfold tP
  rw [← e1, wF_id, ← e2, wF_id]
/-- the least plant that turns all of a set -/
def isT (g : Nat → Nat → Bool) (w r : Int32) : Prop := (∃ v c, 1 ≤ v ∧ v ≤ 60 ∧ c < 4 ∧ g v c = true ∧ (∀ v' c', 1 ≤ v' → v' < v → c' < 4 → g v' c' = false) ∧ (∀ c', c' < c → g v c' = false) ∧ r = if w = 0 then nI v else nI c) ∨ ((∀ v c, 1 ≤ v → v ≤ 60 → c < 4 → g v c = false) ∧ r = -4)
theorem isT_u {g : Nat → Nat → Bool} {w r r' : Int32} (h : isT g w r) (h' : isT g w r') : r = r' := by
  rcases h with ⟨v, c, a1, a2, a3, a4, a5, a6, rfl⟩ | ⟨a1, rfl⟩ <;> rcases h' with ⟨v', c', b1, b2, b3, b4, b5, b6, rfl⟩ | ⟨b1, rfl⟩
  · rcases Nat.lt_trichotomy v v' with z | z | z
    · rw [b5 v c a1 z a3] at a4; cases a4
    · subst z
      rcases Nat.lt_trichotomy c c' with y | y | y
      · rw [b6 c y] at a4; cases a4
      · rw [y]
      · rw [a6 c' y] at b4; cases b4
    · rw [a5 v' c' b1 z b3] at b4; cases b4
  · rw [b1 v c a1 a2 a3] at a4; cases a4
  · rw [a1 v' c' b1 b2 b3] at b4; cases b4
  · rfl
theorem C_turn1 {s w : Int32} {v : Nat} (hv : 1 ≤ v ∧ v ≤ 60) (k3 : tk T < 3) (hs : 0 ≤ s ∧ s ≤ ((1 : Int32) <<< (nI (tn T) &&& 31)) - 1) (h : ∃ c, CE S X (tP T v c)) :
    ∃ r, lp 1000 l_X11_turn_114 (s, w, nI (tk T), nI v, 0, X) = some r ∧ ((∃ c Y, c < 4 ∧ allY (tP T v c) s = true ∧ (∀ c', c' < c → allY (tP T v c') s = false) ∧ UpD S Y ∧ r = .inr (if w = 0 then nI v else nI c, Y)) ∨ ((∀ c, c < 4 → allY (tP T v c) s = false) ∧ ∃ Y, r = .inl (s, w, nI (tk T), nI (v + 1), Y) ∧ ∃ c, CE S Y (tP T v c))) := by
  refine lp_inv (m := 4) (I := fun k x => x.1 = s ∧ x.2.1 = w ∧ x.2.2.1 = nI (tk T) ∧ x.2.2.2.1 = nI v ∧ x.2.2.2.2.1 = nI k ∧ (∀ c, c < k → allY (tP T v c) s = false) ∧ ∃ c, CE S x.2.2.2.2.2 (tP T v c)) (fun k x hk hI => ?_) 1000 0 _ (Nat.zero_le _) (by omega) ⟨rfl, rfl, rfl, rfl, rfl, fun c hc => absurd hc (Nat.not_lt_zero c), h⟩
  obtain ⟨a1, a2, a3, a4, a5, Z⟩ := x
  obtain ⟨e1, e2, e3, e4, e5, e6, c, e7⟩ := hI
  simp only at e1 e2 e3 e4 e5 e6 e7
  subst e1 e2 e3 e4 e5
  unfold l_X11_turn_114 b_X11_turn_114 b_X11_turn_174 b_X11_turn_156
  dsimp only
  rcases Nat.lt_or_ge k 4 with hl | hl
  · have e4 : ¬ (4 : Int32) ≤ nI k := nI_ge (b := 4) hl (by decide)
    have p := CE_put e7 (r := 9) (i := tk T) (v := nI k) (by decide) (okV_9 hl)
    rw [tP_9] at p
    obtain ⟨Y, y1, y2, y3, -⟩ := CE_go p
    obtain ⟨y, z1, z2⟩ := C_all (s := a1) (Or.inl y3) hs
    rw [if_neg e4, gd_t (inb_n k3), nm_eq, tn_n (show tk T < 2 ^ 31 by omega)]
    rw [show (19 + 11 : Nat) = 19 + 2 + 9 from rfl, y1, Option.bind_some, z1, Option.bind_some]
    by_cases z : allY (tP T v k) a1 = true
    · rw [if_pos (z2.mpr z)]
      refine Or.inl ⟨_, ?_, Or.inl ⟨k, Y, hl, z, e6, y2.1, rfl⟩⟩
      by_cases w0 : a2 = 0
      · rw [if_pos w0, if_pos w0]; rfl
      · rw [if_neg w0, if_neg w0]; rfl
    · rw [if_neg (fun q => z (z2.mp q))]
      refine Or.inr ⟨hl, _, rfl, rfl, rfl, rfl, rfl, nI_1 k, fun c hc => ?_, k, y2⟩
      rcases Nat.eq_or_lt_of_le (Nat.le_of_lt_succ hc) with q | q
      · rw [q]; simpa using z
      · exact e6 c q
  · have : k = 4 := by omega
    subst this
    rw [if_pos (by decide)]
    exact Or.inl ⟨_, rfl, Or.inr ⟨e6, Z, by rw [← nI_1], c, e7⟩⟩
theorem C_turn2 {s w : Int32} (k3 : tk T < 3) (hs : 0 ≤ s ∧ s ≤ ((1 : Int32) <<< (nI (tn T) &&& 31)) - 1) (h : CE S X (tP T 1 0)) : ∃ r, lp 1000 l_X11_turn_93 (s, w, nI (tk T), 1, X) = some r ∧ UpD S r.2 ∧ isT (fun v c => allY (tP T v c) s) w r.1 := by
  refine lp_inv (m := 60) (I := fun k x => x.1 = s ∧ x.2.1 = w ∧ x.2.2.1 = nI (tk T) ∧ x.2.2.2.1 = nI (k + 1) ∧ (∀ v c, 1 ≤ v → v < k + 1 → c < 4 → allY (tP T v c) s = false) ∧ ∃ a c, CE S x.2.2.2.2 (tP T a c)) (fun k x hk hI => ?_) 1000 0 _ (Nat.zero_le _) (by omega) ⟨rfl, rfl, rfl, rfl, fun v c h1 h2 => by omega, 1, 0, h⟩
  obtain ⟨a1, a2, a3, a4, Z⟩ := x
  obtain ⟨e1, e2, e3, e4, e5, a, c, e6⟩ := hI
  simp only at e1 e2 e3 e4 e5 e6
  subst e1 e2 e3 e4
  unfold l_X11_turn_93 b_X11_turn_93
  dsimp only
  rcases Nat.lt_or_ge k 60 with hl | hl
  · have e9 : ¬ (60 : Int32) < nI (k + 1) := nI_nlt (a := 60) (by omega) (by decide)
    have p := CE_put e6 (r := 11) (i := tk T) (v := nI (k + 1)) (by decide) (okV_11 ⟨by omega, by omega⟩)
    rw [tP_11] at p
    rw [if_neg e9, gd_t (inb_n k3), nm_eq, tn_n (show tk T < 2 ^ 31 by omega)]
    rw [show (19 + 13 : Nat) = 19 + 2 + 11 from rfl]
    obtain ⟨r, r1, r2⟩ := C_turn1 (s := a1) (w := a2) (v := k + 1) (X := si Z (19 + 2 + 11) (tk T) (nI (k + 1))) ⟨by omega, by omega⟩ k3 hs ⟨c, p⟩
    rw [r1]
    rcases r2 with ⟨c', Y, q1, q2, q3, q4, rfl⟩ | ⟨q1, Y, rfl, q2⟩
    · exact Or.inl ⟨_, rfl, q4, Or.inl ⟨k + 1, c', by omega, by omega, q1, q2, fun v c h1 h2 h3 => e5 v c h1 h2 h3, q3, rfl⟩⟩
    · refine Or.inr ⟨hl, _, rfl, rfl, rfl, rfl, rfl, fun v c h1 h2 h3 => ?_, k + 1, q2⟩
      rcases Nat.lt_or_ge v (k + 1) with y | y
      · exact e5 v c h1 y h3
      · rw [show v = k + 1 by omega]; exact q1 c h3
  · have : k = 60 := by omega
    subst this
    rw [if_pos (by decide)]
    exact Or.inl ⟨_, rfl, e6.1, Or.inr ⟨fun v c h1 h2 h3 => e5 v c h1 (by omega) h3, rfl⟩⟩
end TURN
