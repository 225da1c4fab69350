/-! turn: a PLANT tried. -/
theorem uD_comm (D : Nat → Nat → Int32) {r r' : Nat} (i j : Nat) (v w : Int32) (h : r ≠ r') : uD (uD D r i v) r' j w = uD (uD D r' j w) r i v := by
  funext a
  by_cases e : a = r
  · subst e
    rw [uD_n _ _ _ h, uD_s, uD_s, uD_n _ _ _ h]
  · by_cases e2 : a = r'
    · subst e2
      rw [uD_s, uD_n _ _ _ e, uD_n _ _ _ e, uD_s]
    · rw [uD_n _ _ _ e2, uD_n _ _ _ e, uD_n _ _ _ e, uD_n _ _ _ e2]
theorem wF_comm (T : TT) {r r' : Nat} (i j : Nat) (v w : Int32) (h : r ≠ r') : wF (wF T r i v) r' j w = wF (wF T r' j w) r i v := by
  unfold wF
  rw [show (T.fst, T.2.fst, uD T.2.2 r i v).2.2 = uD T.2.2 r i v from rfl]
  rw [show (T.fst, T.2.fst, uD T.2.2 r' j w).2.2 = uD T.2.2 r' j w from rfl, uD_comm _ i j v w h]
/-- all of some -/
def al (f : Nat → Bool) : Nat → Bool
  | 0 => true
  | k + 1 => al f k && f k
theorem al_iff (f : Nat → Bool) : ∀ n, al f n = true ↔ ∀ p, p < n → f p = true := by
  intro n
  induction n with
  | zero => exact ⟨fun _ p h => absurd h (Nat.not_lt_zero p), fun _ => rfl⟩
  | succ n ih =>
    show (al f n && f n) = true ↔ _
    rw [Bool.and_eq_true, ih]
    constructor
    · intro h p hp
      rcases Nat.eq_or_lt_of_le (Nat.le_of_lt_succ hp) with z | z
      · rw [z]; exact h.2
      · exact h.1 p z
    · exact fun h => ⟨fun p hp => h p (by omega), h n (by omega)⟩
def allY (T : TT) (s : Int32) : Bool := al (fun p => !(bt s p) || decide (sDay T tt false 1 p = 1)) (tn T)
/-- towns alike where it counts -/
theorem repR_same {S : St} {T T' : TT} (h : repR S T) (e1 : tn T' = tn T) (e2 : tm T' = tm T) (e3 : tk T' = tk T) (p1 : ∀ p, p < tn T → tK T' p = tK T p ∧ ∀ r, r ≤ 4 → tF T' r p = tF T r p) (p2 : ∀ f, f < tm T → ∀ r, 5 ≤ r → r ≤ 8 → tF T' r f = tF T r f) (p3 : ∀ i, i < tk T → ∀ r, 9 ≤ r → r ≤ 13 → tF T' r i = tF T r i) (p4 : ∀ i, i < 16 → tF T' 14 i = tF T 14 i) (p5 : ∀ i, i < 3 → tF T' 15 i = tF T 15 i) : repR S T' := by
  obtain ⟨a1, a2, a3, a4, a5, a6, a7, a8, a9, a10⟩ := h
  refine ⟨by rw [e1]; exact a1, by rw [e2]; exact a2, by rw [e3]; exact a3, fun p hp => ?_, fun f hf => ?_, fun i hi => ?_, fun i hi => by rw [p4 i hi]; exact a7 i hi, by rw [p5 0 (by decide)]; exact a8, by rw [p5 1 (by decide)]; exact a9, by rw [p5 2 (by decide)]; exact a10⟩
  · rw [e1] at hp
    obtain ⟨q1, q2⟩ := p1 p hp
    rw [q1, q2 0 (by decide), q2 1 (by decide), q2 2 (by decide), q2 3 (by decide), q2 4 (by decide)]
    exact a4 p hp
  · rw [e2] at hf
    rw [p2 f hf 5 (by decide) (by decide), p2 f hf 6 (by decide) (by decide), p2 f hf 7 (by decide) (by decide), p2 f hf 8 (by decide) (by decide)]
    exact a5 f hf
  · rw [e3] at hi
    rw [p3 i hi 9 (by decide) (by decide), p3 i hi 10 (by decide) (by decide), p3 i hi 11 (by decide) (by decide), p3 i hi 12 (by decide) (by decide), p3 i hi 13 (by decide) (by decide)]
    exact a6 i hi
section TURN
variable {S S0 X : St} {T : TT} {m : Option TT × (Nat → Sh)}
theorem R_all (h : RE S0 X T) (s : Int32) : ∃ Y, L_X12_allYes s X = some (if allY T s then 1 else 0, Y) ∧ RE S0 Y T := by
  obtain ⟨Y, y1, -, y2, y3⟩ := RE_go h
  refine ⟨Y, ?_, y2⟩
  have n8 := h.2.1.1
  have c3 := (R_W y3).2.2
  unfold L_X12_allYes b_X12_allYes_0
  rw [y1, Option.bind_some]
  refine lp_br _ (fun k => (s, (if al (fun p => !(bt s p) || decide (sDay T tt false 1 p = 1)) k then 1 else 0), nI k, Y)) (tn T) _ (fun k hk => ?_) ?_ 1000 (by omega)
  · have e1 : ¬ nI (tn T) ≤ nI k := nI_ge hk (by omega)
    simp only [l_X12_allYes_8, b_X12_allYes_8, b_X12_allYes_42, b_X12_allYes_38, b_X12_allYes_43, c3, if_neg e1, gd_t (inb_n (show k < 8 by omega)), tn_n (show k < 2 ^ 31 by omega), (R_pick y3 hk).1, nI_1, al, bit_of s (show k < 32 by omega)]
    by_cases e0 : al (fun p => !(bt s p) || decide (sDay T tt false 1 p = 1)) k = true
    · by_cases e : bt s k = true
      · by_cases e2 : sDay T tt false 1 k = 1 <;> simp [e0, e, e2]
      · simp [e0, e]
    · simp [e0]
  · simp only [l_X12_allYes_8, b_X12_allYes_8, c3, if_pos (Int32.le_refl _), g01]
    rfl
theorem C_all (h : DC X 19 T tt ∨ DC X 1 T tt) {s : Int32} (hs : 0 ≤ s ∧ s ≤ ((1 : Int32) <<< (nI (tn T) &&& 31)) - 1) : ∃ y, L_X2_sayYes X = some y ∧ (y &&& s = s ↔ allY T s = true) := by
  have n8 : tn T ≤ 8 := by rcases h with h | h <;> exact (C_W h).2.1
  refine ⟨_, by rcases h with h | h <;> exact C_yes h, ?_⟩
  rw [set_sub n8 hs]
  unfold allY
  rw [al_iff]
  constructor
  · intro z p hp
    cases hb : bt s p with
    | true => simpa using z p hp hb
    | false => rfl
  · intro z p hp hb
    have := z p hp
    rw [hb] at this
    simpa using this
def tP (T : TT) (v c : Nat) : TT := wF (wF (addP T 0 1 1 0 0) 11 (tk T) (nI v)) 9 (tk T) (nI c)
theorem tP_11 (T : TT) (v c w : Nat) : wF (tP T v c) 11 (tk T) (nI w) = tP T w c := by
  unfold tP
  rw [wF_comm _ _ _ _ _ (by decide), wF_u]
theorem tP_9 (T : TT) (v c w : Nat) : wF (tP T v c) 9 (tk T) (nI w) = tP T v w := by
  unfold tP
  rw [wF_u]
theorem tP_0 (T : TT) : tP T 1 0 = addP T 0 1 1 0 0 := by
  have e1 : tF (addP T 0 1 1 0 0) 11 (tk T) = nI 1 := by
    show upd (tF T 11) (tk T) 1 (tk T) = 1
    rw [upd_s]
  have e2 : tF (addP T 0 1 1 0 0) 9 (tk T) = nI 0 := by
    show upd (tF T 9) (tk T) 0 (tk T) = 0
    rw [upd_s]
  unfold tP
  rw [← e1, wF_id, ← e2, wF_id]
theorem repR_back {X : St} {v c : Nat} (h : repR X (tP T v c)) : repR (si X 136 9 (nI (tk T))) T := by
  have F : tF (wN (tP T v c) (tn (tP T v c)) (tm (tP T v c)) (tk T)) = uD (uD (uD (uD (uD (uD (uD (tF T) 9 (tk T) 0) 10 (tk T) 1) 11 (tk T) 1) 12 (tk T) 0) 13 (tk T) 0) 11 (tk T) (nI v)) 9 (tk T) (nI c) := rfl
  refine repR_same (repR_tk h (tk T) (fun i h1 h2 => absurd (show tk T + 1 ≤ i from h1) (by omega))) rfl rfl rfl (fun p hp => ⟨rfl, fun r hr => ?_⟩) (fun f hf r h1 h2 => ?_) (fun i hi r h1 h2 => ?_) (fun i hi => ?_) (fun i hi => ?_)
  all_goals rw [F]
  · simp (disch := omega) only [uD_n]
  · simp (disch := omega) only [uD_n]
  · have hi2 : i < tk T := hi
    have hne : i ≠ tk T := by omega
    rw [uD_at _ (Or.inr hne), uD_at _ (Or.inr hne), uD_at _ (Or.inr hne), uD_at _ (Or.inr hne), uD_at _ (Or.inr hne), uD_at _ (Or.inr hne), uD_at _ (Or.inr hne)]
  · simp (disch := omega) only [uD_n]
  · simp (disch := omega) only [uD_n]
/-- the least plant that turns all of a set -/
def isT (g : Nat → Nat → Bool) (w r : Int32) : Prop := (∃ v c, 1 ≤ v ∧ v ≤ 60 ∧ c < 4 ∧ g v c = true ∧ (∀ v' c', 1 ≤ v' → v' < v → c' < 4 → g v' c' = false) ∧ (∀ c', c' < c → g v c' = false) ∧ r = if w = 0 then nI v else nI c) ∨ ((∀ v c, 1 ≤ v → v ≤ 60 → c < 4 → g v c = false) ∧ r = -4)
theorem isT_u {g : Nat → Nat → Bool} {w r r' : Int32} (h : isT g w r) (h' : isT g w r') : r = r' := by
  rcases h with ⟨v, c, a1, a2, a3, a4, a5, a6, rfl⟩ | ⟨a1, rfl⟩ <;> rcases h' with ⟨v', c', b1, b2, b3, b4, b5, b6, rfl⟩ | ⟨b1, rfl⟩
  · rcases Nat.lt_trichotomy v v' with z | z | z
    · rw [b5 v c a1 z a3] at a4; cases a4
    · subst z
      rcases Nat.lt_trichotomy c c' with y | y | y
      · rw [b6 c y] at a4; cases a4
      · rw [y]
      · rw [a6 c' y] at b4; cases b4
    · rw [a5 v' c' b1 z b3] at b4; cases b4
  · rw [b1 v c a1 a2 a3] at a4; cases a4
  · rw [a1 v' c' b1 b2 b3] at b4; cases b4
  · rfl
theorem C_turn1 {s w : Int32} {v : Nat} (hv : 1 ≤ v ∧ v ≤ 60) (k3 : tk T < 3) (hs : 0 ≤ s ∧ s ≤ ((1 : Int32) <<< (nI (tn T) &&& 31)) - 1) (h : ∃ c, CE S X (tP T v c)) :
    ∃ r, lp 1000 l_X11_turn_114 (s, w, nI (tk T), nI v, 0, X) = some r ∧ ((∃ c Y, c < 4 ∧ allY (tP T v c) s = true ∧ (∀ c', c' < c → allY (tP T v c') s = false) ∧ UpD S Y ∧ r = .inr (if w = 0 then nI v else nI c, Y)) ∨ ((∀ c, c < 4 → allY (tP T v c) s = false) ∧ ∃ Y, r = .inl (s, w, nI (tk T), nI (v + 1), Y) ∧ ∃ c, CE S Y (tP T v c))) := by
  refine lp_inv (m := 4) (I := fun k x => x.1 = s ∧ x.2.1 = w ∧ x.2.2.1 = nI (tk T) ∧ x.2.2.2.1 = nI v ∧ x.2.2.2.2.1 = nI k ∧ (∀ c, c < k → allY (tP T v c) s = false) ∧ ∃ c, CE S x.2.2.2.2.2 (tP T v c)) (fun k x hk hI => ?_) 1000 0 _ (Nat.zero_le _) (by omega) ⟨rfl, rfl, rfl, rfl, rfl, fun c hc => absurd hc (Nat.not_lt_zero c), h⟩
  obtain ⟨a1, a2, a3, a4, a5, Z⟩ := x
  obtain ⟨e1, e2, e3, e4, e5, e6, c, e7⟩ := hI
  simp only at e1 e2 e3 e4 e5 e6 e7
  subst e1 e2 e3 e4 e5
  unfold l_X11_turn_114 b_X11_turn_114 b_X11_turn_174 b_X11_turn_156
  dsimp only
  rcases Nat.lt_or_ge k 4 with hl | hl
  · have e4 : ¬ (4 : Int32) ≤ nI k := nI_ge (b := 4) hl (by decide)
    have p := CE_put e7 (r := 9) (i := tk T) (v := nI k) (by decide) (okV_9 hl)
    rw [tP_9] at p
    obtain ⟨Y, y1, y2, y3, -⟩ := CE_go p
    obtain ⟨y, z1, z2⟩ := C_all (s := a1) (Or.inl y3) hs
    rw [if_neg e4, gd_t (inb_n k3), nm_eq, tn_n (show tk T < 2 ^ 31 by omega)]
    rw [show (19 + 11 : Nat) = 19 + 2 + 9 from rfl, y1, Option.bind_some, z1, Option.bind_some]
    by_cases z : allY (tP T v k) a1 = true
    · rw [if_pos (z2.mpr z)]
      refine Or.inl ⟨_, ?_, Or.inl ⟨k, Y, hl, z, e6, y2.1, rfl⟩⟩
      by_cases w0 : a2 = 0
      · rw [if_pos w0, if_pos w0]; rfl
      · rw [if_neg w0, if_neg w0]; rfl
    · rw [if_neg (fun q => z (z2.mp q))]
      refine Or.inr ⟨hl, _, rfl, rfl, rfl, rfl, rfl, nI_1 k, fun c hc => ?_, k, y2⟩
      rcases Nat.eq_or_lt_of_le (Nat.le_of_lt_succ hc) with q | q
      · rw [q]; simpa using z
      · exact e6 c q
  · have : k = 4 := by omega
    subst this
    rw [if_pos (by decide)]
    exact Or.inl ⟨_, rfl, Or.inr ⟨e6, Z, by rw [← nI_1], c, e7⟩⟩
theorem R_turn1 {s w : Int32} {v : Nat} (hv : 1 ≤ v ∧ v ≤ 60) (k3 : tk T < 3) (h : ∃ a c, RE S X (tP T a c)) :
    ∃ r, lp 1000 l_X12_turn_95 (s, w, 0, -4, nI v, 3, X) = some r ∧ ((∃ c Y, c < 4 ∧ allY (tP T v c) s = true ∧ (∀ c', c' < c → allY (tP T v c') s = false) ∧ (∃ a c, RE S Y (tP T a c)) ∧ r = .inl (s, w, nI v, nI c, nI (v + 1), Y)) ∨ ((∀ c, c < 4 → allY (tP T v c) s = false) ∧ ∃ Y, r = .inl (s, w, 0, -4, nI (v + 1), Y) ∧ ∃ a c, RE S Y (tP T a c))) := by
  have d3 : ∀ k : Fin 4, (3 : Int32) - nI k.val = nI (3 - k.val) ∧ ¬ nI (3 - k.val) < 0 ∧ nI (3 - k.val) + (-1) = 3 - nI (k.val + 1) := by decide
  refine lp_inv (m := 4) (I := fun k x => x.1 = s ∧ x.2.1 = w ∧ x.2.2.2.2.1 = nI v ∧ x.2.2.2.2.2.1 = 3 - nI k ∧ ((∃ c, 4 - k ≤ c ∧ c < 4 ∧ allY (tP T v c) s = true ∧ (∀ c', 4 - k ≤ c' → c' < c → allY (tP T v c') s = false) ∧ x.2.2.1 = nI v ∧ x.2.2.2.1 = nI c) ∨ ((∀ c, 4 - k ≤ c → c < 4 → allY (tP T v c) s = false) ∧ x.2.2.1 = 0 ∧ x.2.2.2.1 = -4)) ∧ ∃ a c, RE S x.2.2.2.2.2.2 (tP T a c)) (fun k x hk hI => ?_) 1000 0 _ (Nat.zero_le _) (by omega) ⟨rfl, rfl, rfl, (show (3 : Int32) = 3 - nI 0 by decide), Or.inr ⟨fun c h1 h2 => by omega, rfl, rfl⟩, h⟩
  obtain ⟨a1, a2, a3, a4, a5, a6, Z⟩ := x
  obtain ⟨e1, e2, e3, e4, e5, a, c, e7⟩ := hI
  simp only at e1 e2 e3 e4 e5 e7
  subst e1 e2 e3 e4
  unfold l_X12_turn_95 b_X12_turn_95 b_X12_turn_141 b_X12_turn_147
  dsimp only
  rcases Nat.lt_or_ge k 4 with hl | hl
  · obtain ⟨m1, m2, m3⟩ := d3 ⟨k, hl⟩
    simp only at m1 m2 m3
    have e9 : gi Z 136 9 - 1 = nI (tk T) := by
      rw [e7.2.2.1.2.2.1]
      exact pk_sub (a := tk T + 1) (b := 1) (by omega)
    have p := RE_put5 e7 (r := 11) (i := tk T) (v := nI v) (by decide) (okV_11 hv)
    rw [tP_11] at p
    have e9' : gi (si Z 144 (tk T) (nI v)) 136 9 - 1 = nI (tk T) := by rw [gi_si_n _ _ _ (by decide)]; exact e9
    have p2 := RE_put5 p (r := 9) (i := tk T) (v := nI (3 - k)) (by decide) (okV_9 (by omega))
    rw [tP_9] at p2
    obtain ⟨Y, y1, y2⟩ := R_all p2 a1
    rw [m1, if_neg m2, e9, gd_t (inb_n (show tk T < 4 by omega)), nm_eq, tn_n (show tk T < 2 ^ 31 by omega), e9', gd_t (inb_n (show tk T < 4 by omega)), nm_eq, tn_n (show tk T < 2 ^ 31 by omega), m3]
    rw [show (144 : Nat) = 133 + 11 from rfl, show (142 : Nat) = 133 + 9 from rfl, y1, Option.bind_some]
    dsimp only
    by_cases z : allY (tP T v (3 - k)) a1 = true
    · rw [if_pos z, if_neg (by decide)]
      exact Or.inr ⟨hl, _, rfl, rfl, rfl, rfl, rfl, Or.inl ⟨3 - k, by omega, by omega, z, fun c' h1 h2 => by omega, rfl, rfl⟩, _, _, y2⟩
    · rw [if_neg z, if_pos rfl]
      refine Or.inr ⟨hl, _, rfl, rfl, rfl, rfl, rfl, ?_, _, _, y2⟩
      have z' : allY (tP T v (3 - k)) a1 = false := by simpa using z
      rcases e5 with ⟨c, c1, c2, c3, c4, c5, c6⟩ | ⟨c1, c2, c3⟩
      · refine Or.inl ⟨c, by omega, c2, c3, fun c' h1 h2 => ?_, c5, c6⟩
        rcases Nat.lt_or_ge c' (4 - k) with q | q
        · rw [show c' = 3 - k by omega]; exact z'
        · exact c4 c' q h2
      · refine Or.inr ⟨fun c' h1 h2 => ?_, c2, c3⟩
        rcases Nat.lt_or_ge c' (4 - k) with q | q
        · rw [show c' = 3 - k by omega]; exact z'
        · exact c1 c' q h2
  · have : k = 4 := by omega
    subst this
    rw [if_pos (by decide)]
    refine Or.inl ⟨_, rfl, ?_⟩
    rcases e5 with ⟨c', c1, c2, c3, c4, c5, c6⟩ | ⟨c1, c2, c3⟩
    · exact Or.inl ⟨c', Z, c2, c3, fun c'' h => c4 c'' (by omega) h, ⟨a, c, e7⟩, by rw [c5, c6, ← nI_1]⟩
    · exact Or.inr ⟨fun c'' h => c1 c'' (by omega) h, Z, by rw [c2, c3, ← nI_1], a, c, e7⟩
theorem C_turn2 {s w : Int32} (k3 : tk T < 3) (hs : 0 ≤ s ∧ s ≤ ((1 : Int32) <<< (nI (tn T) &&& 31)) - 1) (h : CE S X (tP T 1 0)) : ∃ r, lp 1000 l_X11_turn_93 (s, w, nI (tk T), 1, X) = some r ∧ UpD S r.2 ∧ isT (fun v c => allY (tP T v c) s) w r.1 := by
  refine lp_inv (m := 60) (I := fun k x => x.1 = s ∧ x.2.1 = w ∧ x.2.2.1 = nI (tk T) ∧ x.2.2.2.1 = nI (k + 1) ∧ (∀ v c, 1 ≤ v → v < k + 1 → c < 4 → allY (tP T v c) s = false) ∧ ∃ a c, CE S x.2.2.2.2 (tP T a c)) (fun k x hk hI => ?_) 1000 0 _ (Nat.zero_le _) (by omega) ⟨rfl, rfl, rfl, rfl, fun v c h1 h2 => by omega, 1, 0, h⟩
  obtain ⟨a1, a2, a3, a4, Z⟩ := x
  obtain ⟨e1, e2, e3, e4, e5, a, c, e6⟩ := hI
  simp only at e1 e2 e3 e4 e5 e6
  subst e1 e2 e3 e4
  unfold l_X11_turn_93 b_X11_turn_93
  dsimp only
  rcases Nat.lt_or_ge k 60 with hl | hl
  · have e9 : ¬ (60 : Int32) < nI (k + 1) := nI_nlt (a := 60) (by omega) (by decide)
    have p := CE_put e6 (r := 11) (i := tk T) (v := nI (k + 1)) (by decide) (okV_11 ⟨by omega, by omega⟩)
    rw [tP_11] at p
    rw [if_neg e9, gd_t (inb_n k3), nm_eq, tn_n (show tk T < 2 ^ 31 by omega)]
    rw [show (19 + 13 : Nat) = 19 + 2 + 11 from rfl]
    obtain ⟨r, r1, r2⟩ := C_turn1 (s := a1) (w := a2) (v := k + 1) (X := si Z (19 + 2 + 11) (tk T) (nI (k + 1))) ⟨by omega, by omega⟩ k3 hs ⟨c, p⟩
    rw [r1]
    rcases r2 with ⟨c', Y, q1, q2, q3, q4, rfl⟩ | ⟨q1, Y, rfl, q2⟩
    · exact Or.inl ⟨_, rfl, q4, Or.inl ⟨k + 1, c', by omega, by omega, q1, q2, fun v c h1 h2 h3 => e5 v c h1 h2 h3, q3, rfl⟩⟩
    · refine Or.inr ⟨hl, _, rfl, rfl, rfl, rfl, rfl, fun v c h1 h2 h3 => ?_, k + 1, q2⟩
      rcases Nat.lt_or_ge v (k + 1) with y | y
      · exact e5 v c h1 y h3
      · rw [show v = k + 1 by omega]; exact q1 c h3
  · have : k = 60 := by omega
    subst this
    rw [if_pos (by decide)]
    exact Or.inl ⟨_, rfl, e6.1, Or.inr ⟨fun v c h1 h2 h3 => e5 v c h1 (by omega) h3, rfl⟩⟩
theorem R_turn2 {s w : Int32} (hW : WT T) (k3 : tk T < 3) (hw : w = 0 ∨ w = 1) (h : RE S X (tP T 1 0)) : ∃ r, lp 1000 l_X12_turn_80 (s, w, 0, -4, 1, X) = some r ∧ RE S r.2 T ∧ isT (fun v c => allY (tP T v c) s) w r.1 := by
  refine lp_inv (m := 60) (I := fun k x => x.1 = s ∧ x.2.1 = w ∧ x.2.2.2.2.1 = nI (k + 1) ∧ ((x.2.2.1 = 0 ∧ x.2.2.2.1 = -4 ∧ ∀ v c, 1 ≤ v → v < k + 1 → c < 4 → allY (tP T v c) s = false) ∨ (∃ v c, x.2.2.1 = nI v ∧ x.2.2.2.1 = nI c ∧ 1 ≤ v ∧ v ≤ 60 ∧ c < 4 ∧ allY (tP T v c) s = true ∧ (∀ v' c', 1 ≤ v' → v' < v → c' < 4 → allY (tP T v' c') s = false) ∧ ∀ c', c' < c → allY (tP T v c') s = false)) ∧ ∃ a c, RE S x.2.2.2.2.2 (tP T a c)) (fun k x hk hI => ?_) 1000 0 _ (Nat.zero_le _) (by omega) ⟨rfl, rfl, rfl, Or.inl ⟨rfl, rfl, fun v c h1 h2 => by omega⟩, 1, 0, h⟩
  obtain ⟨a1, a2, a3, a4, a5, Z⟩ := x
  obtain ⟨e1, e2, e3, e4, a, c, e6⟩ := hI
  simp only at e1 e2 e3 e4 e6
  subst e1 e2 e3
  have e9 : gi Z 136 9 - 1 = nI (tk T) := by
    rw [e6.2.2.1.2.2.1]
    exact pk_sub (a := tk T + 1) (b := 1) (by omega)
  have bk : RE S (si Z 136 9 (nI (tk T))) T := ⟨UpE_slot (by decide) e6.1 _, hW, repR_back e6.2.2.1, by rw [gi_si_s, upd_n _ _ (by decide)]; exact e6.2.2.2.1, by rw [gi_si_s, upd_n _ _ (by decide)]; exact e6.2.2.2.2⟩
  unfold l_X12_turn_80 b_X12_turn_80 b_X12_turn_153 b_X12_turn_163 b_X12_turn_173
  dsimp only
  rw [nm_eq, e9]
  rcases e4 with ⟨e4, e5, e7⟩ | ⟨v, c', e4, e5, v1, v2, v3, v4, v5, v6⟩
  · subst e4 e5
    rcases Nat.lt_or_ge k 60 with hl | hl
    · have e60 : ¬ (60 : Int32) < nI (k + 1) := nI_nlt (a := 60) (by omega) (by decide)
      obtain ⟨r, r1, r2⟩ := R_turn1 (s := a1) (w := a2) (v := k + 1) ⟨by omega, by omega⟩ k3 ⟨a, c, e6⟩
      rw [if_neg e60, if_neg (by decide), r1]
      rcases r2 with ⟨c', Y, q1, q2, q3, q4, rfl⟩ | ⟨q1, Y, rfl, q2⟩
      · exact Or.inr ⟨hl, _, rfl, rfl, rfl, rfl, Or.inr ⟨k + 1, c', rfl, rfl, by omega, by omega, q1, q2, e7, q3⟩, q4⟩
      · refine Or.inr ⟨hl, _, rfl, rfl, rfl, rfl, Or.inl ⟨rfl, rfl, fun v c h1 h2 h3 => ?_⟩, q2⟩
        rcases Nat.lt_or_ge v (k + 1) with y | y
        · exact e7 v c h1 y h3
        · rw [show v = k + 1 by omega]; exact q1 c h3
    · have : k = 60 := by omega
      subst this
      rw [if_pos (by decide)]
      refine Or.inl ⟨(-4, si Z 136 9 (nI (tk T))), ?_, bk, Or.inr ⟨fun v c h1 h2 h3 => e7 v c h1 (by omega) h3, rfl⟩⟩
      by_cases z : a2 = 1
      · rw [if_pos z]; rfl
      · rw [if_neg z, if_neg (by decide)]; rfl
  · subst e4 e5
    have c0 : (0 : Int32) ≤ nI c' := nI_pos' (by omega)
    have fin : ∃ r, ((if a2 = 1 then some (nI c', si Z 136 9 (nI (tk T))) else if 0 ≤ nI c' then some (nI v, si Z 136 9 (nI (tk T))) else some (nI c', si Z 136 9 (nI (tk T)))).map Sum.inr : Option ((Int32 × Int32 × Int32 × Int32 × Int32 × St) ⊕ (Int32 × St))) = some (.inr r) ∧ RE S r.2 T ∧ isT (fun v c => allY (tP T v c) a1) a2 r.1 := by
      rcases hw with rfl | rfl
      · rw [if_neg (by decide), if_pos c0]
        exact ⟨_, rfl, bk, Or.inl ⟨v, c', v1, v2, v3, v4, v5, v6, rfl⟩⟩
      · rw [if_pos rfl]
        exact ⟨_, rfl, bk, Or.inl ⟨v, c', v1, v2, v3, v4, v5, v6, rfl⟩⟩
    by_cases z : (60 : Int32) < nI (k + 1)
    · rw [if_pos z]
      exact Or.inl fin
    · rw [if_neg z, if_pos c0]
      exact Or.inl fin
theorem J_turn (c : IC S (T, m)) (g : IR S (T, m)) (s w : Int32) : JJ S (L_X11_turn s w) (L_X12_turn s w) := by
  obtain ⟨hW, cR⟩ := IC_1 c
  have n8 := hW.1
  by_cases hs : 0 ≤ s ∧ s ≤ ((1 : Int32) <<< (nI (tn T) &&& 31)) - 1
  · by_cases hw : 0 ≤ w ∧ w ≤ 1
    · have hw2 : w = 0 ∨ w = 1 := by
        obtain ⟨k, hk, rfl⟩ := in_of (n := 1) rfl (by decide) hw
        rcases (show k = 0 ∨ k = 1 by omega) with rfl | rfl
        · exact Or.inl rfl
        · exact Or.inr rfl
      obtain ⟨X, x1, x2, x3, -⟩ := C_go (Or.inl rfl) hW cR bits_m1
      obtain ⟨y, z1, z2⟩ := C_all (s := s) (Or.inr x3) hs
      by_cases z : allY T s = true
      · refine JJ_D c g (if w = 0 then 0 else -4) ⟨X, ?_, x2⟩ (fun S1 g1 => ?_)
        · unfold L_X11_turn b_X11_turn_0
          rw [A_every cR.1, Option.bind_some, A_isOut, if_pos hs, Option.bind_some, if_pos rfl, A_isOut, if_pos hw, Option.bind_some, if_pos rfl, x1, Option.bind_some, z1, Option.bind_some, if_pos (z2.mpr z)]
          split <;> rfl
        · have e := RE_0 g1
          obtain ⟨Y, y1, y2⟩ := R_all e s
          refine ⟨Y, ?_, y2⟩
          unfold L_X12_turn b_X12_turn_0
          rw [nm_eq, e.2.2.1.1, R_inX, if_pos hs, Option.bind_some, if_neg (by decide), R_in 0 1, if_pos hw, Option.bind_some, if_neg (by decide), y1, Option.bind_some]
          dsimp only
          rw [if_pos z, if_neg (by decide)]
          split <;> rfl
      · have nz : ¬ (y &&& s = s) := fun q => z (z2.mp q)
        obtain ⟨Y, y1, y2⟩ := CE_0 (S := X) (T := T) (m := m) (IC_D x2 c)
        obtain ⟨-, p2, p3⟩ := C_addPlant (Or.inr (Or.inl rfl)) hW y2.2.2 0 1 1 0 0
        have ok : okP 0 1 0 0 := by unfold okP; decide
        by_cases k3 : tk T < 3
        · obtain ⟨W, w1, w2, w3⟩ := p3 ok k3
          have hWp : WT (tP T 1 0) := by rw [tP_0]; exact WT_addP hW ok (Or.inl rfl) k3
          refine JJ_P c g (isT (fun v c => allY (tP T v c) s) w) (fun r r' h h' => isT_u h h') ?_ (fun S1 g1 => ?_)
          · have ce : CE X W (tP T 1 0) := ⟨UpD_tr y2.1 (UpD_FT (FT_FR w3)), hWp, by rw [tP_0]; exact w2⟩
            obtain ⟨r, r1, r2, r3⟩ := C_turn2 (s := s) (w := w) k3 hs ce
            refine ⟨r.1, r.2, ?_, UpD_tr x2 r2, r3⟩
            unfold L_X11_turn b_X11_turn_0
            rw [A_every cR.1, Option.bind_some, A_isOut, if_pos hs, Option.bind_some, if_pos rfl, A_isOut, if_pos hw, Option.bind_some, if_pos rfl, x1, Option.bind_some, z1, Option.bind_some, if_neg nz, y1, Option.bind_some, w1, Option.bind_some]
            dsimp only
            rw [if_pos (nI_pos' (by omega)), r1]
          · have e := RE_0 g1
            obtain ⟨Y, y1, y2⟩ := R_all e s
            obtain ⟨W, w1, w2, w3, w4⟩ := R_plantComes y2.2.2.1 k3 0 1 1 0 0
            have u := y2.1
            have re : RE S1 W (tP T 1 0) := by
              refine ⟨UpE_tr u ⟨UpR_FR (fun a z => z.1) w3, fun a ha => w3.1 a (fun z => by have := z.1; have := z.2; omega), FR_gl w3 158, w4 46 (by decide)⟩, hWp, by rw [tP_0]; exact w2, by rw [w4 29 (by decide)]; exact y2.2.2.2.1, by rw [w4 30 (by decide)]; exact y2.2.2.2.2⟩
            obtain ⟨r, r1, r2, r3⟩ := R_turn2 (s := s) (w := w) hW k3 hw2 re
            refine ⟨r.1, r.2, ?_, r2, r3⟩
            have e3 : ¬ (3 : Int32) ≤ nI (tk T) := nI_ge (b := 3) k3 (by decide)
            unfold L_X12_turn b_X12_turn_0
            rw [nm_eq, e.2.2.1.1, R_inX, if_pos hs, Option.bind_some, if_neg (by decide), R_in 0 1, if_pos hw, Option.bind_some, if_neg (by decide), y1, Option.bind_some]
            dsimp only
            rw [if_neg z, if_pos rfl, y2.2.2.1.2.2.1, if_neg e3, w1, Option.bind_some, r1]
        · refine JJ_D c g (-4) ⟨Y, ?_, UpD_tr x2 y2.1⟩ (fun S1 g1 => ?_)
          · unfold L_X11_turn b_X11_turn_0
            rw [A_every cR.1, Option.bind_some, A_isOut, if_pos hs, Option.bind_some, if_pos rfl, A_isOut, if_pos hw, Option.bind_some, if_pos rfl, x1, Option.bind_some, z1, Option.bind_some, if_neg nz, y1, Option.bind_some, p2 ok k3, Option.bind_some]
            rfl
          · have e := RE_0 g1
            obtain ⟨Y, y1, y2⟩ := R_all e s
            refine ⟨Y, ?_, y2⟩
            have e3 : (3 : Int32) ≤ nI (tk T) := nI_le (a := 3) (by omega) (by have := hW.2.2.1; omega)
            unfold L_X12_turn b_X12_turn_0
            rw [nm_eq, e.2.2.1.1, R_inX, if_pos hs, Option.bind_some, if_neg (by decide), R_in 0 1, if_pos hw, Option.bind_some, if_neg (by decide), y1, Option.bind_some]
            dsimp only
            rw [if_neg z, if_pos rfl, y2.2.2.1.2.2.1, if_pos e3]
            unfold b_X12_turn_163 b_X12_turn_173
            split
            · rfl
            · rw [if_neg (by decide)]
    · refine JJ_D c g (-1) ⟨S, ?_, UpD_refl S⟩ (fun S1 g1 => ⟨_, ?_, RE_0 g1⟩)
      · unfold L_X11_turn b_X11_turn_0
        rw [A_every cR.1, Option.bind_some, A_isOut, if_pos hs, Option.bind_some, if_pos rfl, A_isOut, if_neg hw]
        rfl
      · unfold L_X12_turn b_X12_turn_0
        rw [nm_eq, (RE_0 g1).2.2.1.1, R_inX, if_pos hs, Option.bind_some, if_neg (by decide), R_in 0 1, if_neg hw]
        rfl
  · refine JJ_D c g (-1) ⟨S, ?_, UpD_refl S⟩ (fun S1 g1 => ⟨_, ?_, RE_0 g1⟩)
    · unfold L_X11_turn b_X11_turn_0
      rw [A_every cR.1, Option.bind_some, A_isOut, if_neg hs]
      rfl
    · unfold L_X12_turn b_X12_turn_0
      rw [nm_eq, (RE_0 g1).2.2.1.1, R_inX, if_neg hs]
      rfl
end TURN
