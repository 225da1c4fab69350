/-! two who wait. -/
theorem uD_com2 (D : Nat → Nat → Int32) (r : Nat) {i j : Nat} (v w : Int32) (h : i ≠ j) : uD (uD D r i v) r j w = uD (uD D r j w) r i v := by
  funext a
  by_cases e : a = r
  · subst e
    rw [uD_s, uD_s, uD_s, uD_s]
    funext q
    by_cases e1 : q = i
    · subst e1
      rw [upd_n _ _ h, upd_s, upd_s]
    · by_cases e2 : q = j
      · subst e2
        rw [upd_s, upd_n _ _ e1, upd_s]
      · rw [upd_n _ _ e2, upd_n _ _ e1, upd_n _ _ e1, upd_n _ _ e2]
  · rw [uD_n _ _ _ e, uD_n _ _ _ e, uD_n _ _ _ e, uD_n _ _ _ e]
def t2 (T : TT) (a b : Nat) (x y : Int32) : TT := wF (wF T 2 a x) 2 b y
theorem t2_b (T : TT) (a b : Nat) (x y v : Int32) : wF (t2 T a b x y) 2 b v = t2 T a b x v := wF_u _ _ _ _ _
theorem t2_a (T : TT) {a b : Nat} (h : a ≠ b) (x y v : Int32) : wF (t2 T a b x y) 2 a v = t2 T a b v y := by
  unfold t2
  have e : wF (wF (wF T 2 a x) 2 b y) 2 a v = wF (wF (wF T 2 a x) 2 a v) 2 b y := by
    show (T.1, T.2.1, uD (uD (uD T.2.2 2 a x) 2 b y) 2 a v) = (T.1, T.2.1, uD (uD (uD T.2.2 2 a x) 2 a v) 2 b y)
    rw [uD_com2 _ _ _ _ (Ne.symm h)]
  rw [e, wF_u]
theorem t2_id (T : TT) (a b : Nat) : t2 T a b (tF T 2 a) (tF T 2 b) = T := by
  unfold t2
  rw [wF_id, wF_id]
def lat (h w : Int32) : Int32 := if h + w < 23 then h + w else 23
theorem lat_n {x k : Nat} (hx : x < 24) (hk : k < 3) : ∃ c, c < 24 ∧ lat (nI x) (nI k) = nI c := by
  unfold lat
  rw [nI_add]
  by_cases z : x + k < 23
  · exact ⟨x + k, by omega, if_pos (nI_lt (b := 23) z (by decide))⟩
  · exact ⟨23, by decide, if_neg (nI_nlt (b := 23) (by omega) (by omega))⟩
def isLh (f : Nat → Bool) (h : Nat → Int32) (n : Nat) (r : Int32) : Prop := (∃ q, q < n ∧ f q = true ∧ (∀ i, i < q → f i = false) ∧ r = h q) ∨ ((∀ q, q < n → f q = false) ∧ r = -4)
theorem isLh_u {f : Nat → Bool} {h : Nat → Int32} {n : Nat} {r r' : Int32} (a : isLh f h n r) (a' : isLh f h n r') : r = r' := by
  rcases a with ⟨q, h2, h3, h4, rfl⟩ | ⟨h1, rfl⟩ <;> rcases a' with ⟨q', h2', h3', h4', rfl⟩ | ⟨h1', rfl⟩
  · rcases Nat.lt_trichotomy q q' with z | z | z
    · rw [h4' q z] at h3; cases h3
    · rw [z]
    · rw [h4 q' z] at h3'; cases h3'
  · rw [h1' q h2] at h3; cases h3
  · rw [h1 q' h2'] at h3'; cases h3'
  · rfl
theorem DC_congr {S S' : St} {t : Nat} {T : TT} {b : Nat → Bool} (h1 : ∀ a, a < 66 → gi S' a = gi S a) (h2 : ∀ a, gr S' a = gr S a) (h3 : ∀ a, gp S' a = gp S a) (h : DC S t T b) : DC S' t T b := by
  obtain ⟨⟨a1, a2, a3, a4, a5, a6, a7, a8⟩, hd⟩ := h
  refine ⟨⟨by rw [h2]; exact a1, a2, a3, repC_congr a2 (fun a ha => h1 a (by omega)) (fun a _ => h2 a) h3 a4, ?_, ?_, ?_, a8⟩, ?_⟩
  · rw [h1 55 (by omega)]; exact a5
  · rw [h1 56 (by omega)]; exact a6
  · rw [h1 61 (by omega), h1 65 (by omega), h1 62 (by omega), h1 63 (by omega), h1 64 (by omega)]; exact a7
  · unfold CD at hd ⊢
    rw [h1 57 (by omega), h1 58 (by omega), h1 59 (by omega), h1 60 (by omega)]; exact hd
section TWO
variable {S S0 X : St} {T : TT} {m : Option TT × (Nat → Sh)} {a b : Nat}
def tW (T : TT) (a b f o : Nat) : TT := t2 T a b (lat (tF T 2 a) (nI f)) (lat (tF T 2 b) (nI o))
def eW (T : TT) (a b : Nat) (w f o : Nat) : Int32 := sCoins (tW T a b f o) (sDay (tW T a b f o) tt false) w 23
def gW (T : TT) (a b k : Nat) : Bool := al (fun i => decide (eW T a b a i (k % 3) ≤ eW T a b a (k / 3) (k % 3))) 3 && al (fun i => decide (eW T a b b (k / 3) i ≤ eW T a b b (k / 3) (k % 3))) 3
def hW' (k : Nat) : Int32 := nI (10 * (k / 3) + k % 3)
theorem CE_hour {x y : Int32} (h : CE S X (t2 T a b x y)) (hab : a ≠ b) {v w : Int32} (ov : okV 2 a v) (ow : okV 2 b w) : CE S (si (si X (19 + 4) a v) (19 + 4) b w) (t2 T a b v w) := by
  have h1 := CE_put h (r := 2) (i := a) (v := v) (by decide) ov
  rw [t2_a _ hab] at h1
  have h2 := CE_put h1 (r := 2) (i := b) (v := w) (by decide) ow
  rw [t2_b] at h2
  exact h2
theorem RE_hour {x y : Int32} (h : RE S X (t2 T a b x y)) (hab : a ≠ b) {v w : Int32} (ov : okV 2 a v) (ow : okV 2 b w) : RE S (si (si X 150 a v) 150 b w) (t2 T a b v w) := by
  have h1 := RE_put1 h (r := 2) (i := a) (v := v) (by decide) ov
  rw [t2_a _ hab] at h1
  have h2 := RE_put1 h1 (r := 2) (i := b) (v := w) (by decide) ow
  rw [t2_b] at h2
  exact h2
theorem ok_lat (hW : WT T) {p k : Nat} (hp : p < tn T) (hk : k < 3) (i : Nat) : okV 2 i (lat (tF T 2 p) (nI k)) := by
  obtain ⟨-, -, -, ⟨h, h1, h2⟩, -⟩ := hW.2.2.2.1 p hp
  obtain ⟨c, c1, c2⟩ := lat_n h1 hk
  rw [h2, c2]
  exact okV_2 c1
/-- what has been written of the pairs ahead of (f, o) -/
def mC (X : St) (T : TT) (a b f o : Nat) : Prop := ∀ i j, i < 3 → j < 3 → (i < f ∨ i = f ∧ j < o) → gi X (129 + i) j = eW T a b a i j ∧ gi X (133 + j) i = eW T a b b i j
theorem C_two1 (hW : WT T) (cR : repC S 1 T) (ha : a < tn T) (hb : b < tn T) (hab : a ≠ b) {f : Nat} (hf : f < 3) (h : ∃ x y, CE S X (t2 T a b x y)) (hm : mC X T a b f 0) : ∃ r, lp 1000 l_X11_two_44 (nI a, nI b, nI f, 0, X) = some r ∧ ∃ Y, r = .inl (nI a, nI b, nI (f + 1), Y) ∧ (∃ x y, CE S Y (t2 T a b x y)) ∧ mC Y T a b (f + 1) 0 := by
  have n8 := hW.1
  refine lp_inv (m := 3) (I := fun k x => x.1 = nI a ∧ x.2.1 = nI b ∧ x.2.2.1 = nI f ∧ x.2.2.2.1 = nI k ∧ (∃ v w, CE S x.2.2.2.2 (t2 T a b v w)) ∧ mC x.2.2.2.2 T a b f k) (fun k x hk hI => ?_) 1000 0 _ (Nat.zero_le _) (by omega) ⟨rfl, rfl, rfl, rfl, h, hm⟩
  obtain ⟨a1, a2, a3, a4, Z⟩ := x
  obtain ⟨e1, e2, e3, e4, ⟨v, w, e5⟩, e6⟩ := hI
  simp only at e1 e2 e3 e4 e5 e6
  subst e1 e2 e3 e4
  unfold l_X11_two_44 b_X11_two_44 b_X11_two_157
  dsimp only
  rcases Nat.lt_or_ge k 3 with hl | hl
  · refine Or.inr ⟨hl, ?_⟩
    have e3 : ¬ (3 : Int32) ≤ nI k := nI_ge (b := 3) hl (by decide)
    have zR := repC_D (Or.inl rfl) e5.1 cR
    have za : gi Z (1 + 4) a = tF T 2 a := (zR.2.2.2.1 a ha).2.2.1
    have zb : ∀ v, gi (si Z (19 + 4) a v) (1 + 4) b = tF T 2 b := fun v => by rw [gi_si_n _ _ _ (by decide)]; exact (zR.2.2.2.1 b hb).2.2.1
    have ce := CE_hour e5 hab (ok_lat hW ha hf a) (ok_lat hW hb hl b)
    obtain ⟨Y, y1, y2, y3, y4⟩ := CE_go ce
    have y1' : L_X2_run 19 (-1) (si (si Z (19 + 4) a (if tF T 2 a + nI f < 23 then tF T 2 a + nI f else 23)) (19 + 4) b (if tF T 2 b + nI k < 23 then tF T 2 b + nI k else 23)) = some Y := y1
    have ca := C_coinsAt (p := a) y3 ha 23
    have y3' : DC (si Y (129 + f) k (eW T a b a f k)) 19 (tW T a b f k) tt := DC_congr (fun c hc => gi_si_n _ _ _ (by omega)) (fun _ => rfl) (fun _ => rfl) y3
    have cb := C_coinsAt (p := b) y3' hb 23
    rw [if_neg e3, gd_t (inb_n (show a < 8 by omega)), tn_n (show a < 2 ^ 31 by omega), tn_n (show b < 2 ^ 31 by omega), za, nm_eq, gd_t (inb_n (show a < 8 by omega)), nm_eq, gd_t (inb_n (show b < 8 by omega)), zb, nm_eq, gd_t (inb_n (show b < 8 by omega)), nm_eq, y1', Option.bind_some, gd_t (inb_n hf), ca, Option.bind_some, gd_t (inb_n hl), nm_eq, gd_t (inb_n hl), tn_n (show f < 2 ^ 31 by omega), tn_n (show k < 2 ^ 31 by omega)]
    rw [show (128 + 1 + 1 * f) = 129 + f by omega, show (132 + 1 + 1 * k) = 133 + k by omega]
    rw [show sCoins (t2 T a b (lat (tF T 2 a) (nI f)) (lat (tF T 2 b) (nI k))) (sDay (t2 T a b (lat (tF T 2 a) (nI f)) (lat (tF T 2 b) (nI k))) tt false) a 23 = eW T a b a f k from rfl, cb, Option.bind_some, gd_t (inb_n hf), nm_eq, nI_1]
    rw [show sCoins (tW T a b f k) (sDay (tW T a b f k) tt false) b 23 = eW T a b b f k from rfl]
    have ce2 : CE S (si (si Y (129 + f) k (eW T a b a f k)) (133 + k) f (eW T a b b f k)) (t2 T a b (lat (tF T 2 a) (nI f)) (lat (tF T 2 b) (nI k))) := ⟨UpD_si (by omega) (UpD_si (by omega) y2.1 _ _) _ _, y2.2.1, repC_congr (S := Y) (Or.inr (Or.inl rfl)) (fun c hc => by rw [gi_si_n _ _ _ (by omega), gi_si_n _ _ _ (by omega)]) (fun _ _ => rfl) (fun _ => rfl) y2.2.2⟩
    refine ⟨_, rfl, rfl, rfl, rfl, rfl, ⟨_, _, ce2⟩, fun i j hi hj hij => ?_⟩
    show gi (si (si Y (129 + f) k (eW T a b a f k)) (133 + k) f (eW T a b b f k)) (129 + i) j = _ ∧ gi (si (si Y (129 + f) k (eW T a b a f k)) (133 + k) f (eW T a b b f k)) (133 + j) i = _
    have oY : ∀ c, 66 ≤ c → gi Y c = gi Z c := fun c hc => by rw [y4 c (fun z => by have := z.2; omega), gi_si_n _ _ _ (by omega), gi_si_n _ _ _ (by omega)]
    by_cases zz : i = f ∧ j = k
    · obtain ⟨rfl, rfl⟩ := zz
      rw [gi_si_n _ _ _ (by omega), gi_si_s, upd_s, gi_si_s, upd_s]
      exact ⟨rfl, rfl⟩
    · have hij2 : i < f ∨ i = f ∧ j < k := by omega
      obtain ⟨q1, q2⟩ := e6 i j hi hj hij2
      constructor
      · rw [gi_si_n _ _ _ (by omega)]
        by_cases y : i = f
        · subst y
          rw [gi_si_s, upd_n _ _ (by omega), oY _ (by omega)]; exact q1
        · rw [gi_si_n _ _ _ (by omega), oY _ (by omega)]; exact q1
      · by_cases y : j = k
        · subst y
          rw [gi_si_s, upd_n _ _ (by omega), gi_si_n _ _ _ (by omega), oY _ (by omega)]; exact q2
        · rw [gi_si_n _ _ _ (by omega), gi_si_n _ _ _ (by omega), oY _ (by omega)]; exact q2
  · have : k = 3 := by omega
    subst this
    rw [if_pos (by decide)]
    exact Or.inl ⟨_, rfl, Z, by rw [← nI_1], ⟨v, w, e5⟩, fun i j hi hj hij => e6 i j hi hj (by omega)⟩
theorem C_best {u v1 v2 : Nat} (h1 : v1 < 3) (h2 : v2 < 3) : L_X11_isBestWait u (nI v1) (nI v2) X = some (if al (fun i => decide (gi X (u + 1 + i) v2 ≤ gi X (u + 1 + v1) v2)) 3 then 1 else 0) := by
  unfold L_X11_isBestWait b_X11_isBestWait_0
  have key := lp_inv (body := l_X11_isBestWait_2 u X) (m := 3) (I := fun k x => x.1 = nI v1 ∧ x.2.1 = nI v2 ∧ x.2.2 = nI k ∧ al (fun i => decide (gi X (u + 1 + i) v2 ≤ gi X (u + 1 + v1) v2)) k = true) (Q := fun y => y = if al (fun i => decide (gi X (u + 1 + i) v2 ≤ gi X (u + 1 + v1) v2)) 3 then 1 else 0) (fun k x hk hI => ?_) 1000 0 (nI v1, nI v2, 0) (Nat.zero_le _) (by omega) ⟨rfl, rfl, rfl, rfl⟩
  · obtain ⟨y, e, e1⟩ := key
    rw [e, e1]
  · obtain ⟨a1, a2, a3⟩ := x
    obtain ⟨e1, e2, e3, e4⟩ := hI
    simp only at e1 e2 e3
    subst e1 e2 e3
    unfold l_X11_isBestWait_2 b_X11_isBestWait_2
    dsimp only
    rcases Nat.lt_or_ge k 3 with hl | hl
    · have e3 : ¬ (3 : Int32) ≤ nI k := nI_ge (b := 3) hl (by decide)
      rw [if_neg e3, gd_t (inb_n hl), gd_t (inb_n h2), gd_t (inb_n h1), gd_t (inb_n h2), tn_n (show k < 2 ^ 31 by omega), tn_n (show v1 < 2 ^ 31 by omega), tn_n (show v2 < 2 ^ 31 by omega), Nat.one_mul, Nat.one_mul]
      by_cases z : gi X (u + 1 + k) v2 ≤ gi X (u + 1 + v1) v2
      · rw [if_pos z, nI_1]
        refine Or.inr ⟨hl, _, rfl, rfl, rfl, rfl, ?_⟩
        show (al _ k && decide (gi X (u + 1 + k) v2 ≤ gi X (u + 1 + v1) v2)) = true
        rw [e4, decide_eq_true z]
        rfl
      · rw [if_neg z]
        refine Or.inl ⟨_, rfl, ?_⟩
        have : ¬ al (fun i => decide (gi X (u + 1 + i) v2 ≤ gi X (u + 1 + v1) v2)) 3 = true := fun q => z (of_decide_eq_true ((al_iff _ 3).mp q k hl))
        rw [if_neg this]
    · have : k = 3 := by omega
      subst this
      rw [if_pos (by decide)]
      exact Or.inl ⟨_, rfl, by rw [e4, if_pos rfl]⟩
theorem al_congr {f g : Nat → Bool} {n : Nat} (h : ∀ k, k < n → f k = g k) : al f n = al g n := by
  rw [Bool.eq_iff_iff, al_iff, al_iff]
  exact ⟨fun z p hp => by rw [← h p hp]; exact z p hp, fun z p hp => by rw [h p hp]; exact z p hp⟩
theorem C_two2 (hm : mC X T a b 3 0) {f : Nat} (hf : f < 3) (hn : ∀ i, i < 3 * f → gW T a b i = false) : ∃ r, lp 1000 l_X11_two_173 (nI f, 0, X) = some r ∧ ((r = .inl (nI (f + 1), X) ∧ ∀ i, i < 3 * (f + 1) → gW T a b i = false) ∨ ∃ y, r = .inr (y, X) ∧ isLh (gW T a b) hW' 9 y) := by
  refine lp_inv (m := 3) (I := fun k x => x.1 = nI f ∧ x.2.1 = nI k ∧ x.2.2 = X ∧ ∀ i, i < 3 * f + k → gW T a b i = false) (fun k x hk hI => ?_) 1000 0 _ (Nat.zero_le _) (by omega) ⟨rfl, rfl, rfl, hn⟩
  obtain ⟨a1, a2, Z⟩ := x
  obtain ⟨e1, e2, e3, e4⟩ := hI
  simp only at e1 e2 e3
  subst e1 e2 e3
  unfold l_X11_two_173 b_X11_two_173 b_X11_two_213 b_X11_two_219
  dsimp only
  rcases Nat.lt_or_ge k 3 with hl | hl
  · have e3 : ¬ (3 : Int32) ≤ nI k := nI_ge (b := 3) hl (by decide)
    have q1 : 3 * f + k < 9 := by omega
    have d1 : (3 * f + k) / 3 = f := by omega
    have d2 : (3 * f + k) % 3 = k := by omega
    have g1 : al (fun i => decide (gi Z (128 + 1 + i) k ≤ gi Z (128 + 1 + f) k)) 3 = al (fun i => decide (eW T a b a i k ≤ eW T a b a f k)) 3 := al_congr (fun i hi => by
      rw [(hm i k hi hl (Or.inl hi)).1, (hm f k hf hl (Or.inl hf)).1])
    have g2 : al (fun i => decide (gi Z (132 + 1 + i) f ≤ gi Z (132 + 1 + k) f)) 3 = al (fun i => decide (eW T a b b f i ≤ eW T a b b f k)) 3 := al_congr (fun i hi => by
      rw [(hm f i hf hi (Or.inl hf)).2, (hm f k hf hl (Or.inl hf)).2])
    have gw : gW T a b (3 * f + k) = (al (fun i => decide (eW T a b a i k ≤ eW T a b a f k)) 3 && al (fun i => decide (eW T a b b f i ≤ eW T a b b f k)) 3) := by
      unfold gW
      rw [d1, d2]
    rw [if_neg e3, C_best hf hl, Option.bind_some, g1]
    have step : gW T a b (3 * f + k) = false → ∃ y, (some (.inl (nI f, nI k + 1, Z)) : Option ((Int32 × Int32 × St) ⊕ ((Int32 × St) ⊕ (Int32 × St)))) = some (.inl y) ∧ y.1 = nI f ∧ y.2.1 = nI (k + 1) ∧ y.2.2 = Z ∧ ∀ i, i < 3 * f + (k + 1) → gW T a b i = false := by
      intro z
      refine ⟨_, rfl, rfl, nI_1 k, rfl, fun i hi => ?_⟩
      rcases Nat.lt_or_ge i (3 * f + k) with y | y
      · exact e4 i y
      · rw [show i = 3 * f + k by omega]; exact z
    by_cases z1 : al (fun i => decide (eW T a b a i k ≤ eW T a b a f k)) 3 = true
    · rw [if_pos z1, if_neg (by decide), C_best hl hf, Option.bind_some, g2]
      by_cases z2 : al (fun i => decide (eW T a b b f i ≤ eW T a b b f k)) 3 = true
      · rw [if_pos z2, if_neg (by decide)]
        refine Or.inl ⟨_, rfl, Or.inr ⟨_, rfl, Or.inl ⟨3 * f + k, q1, by rw [gw, z1, z2]; rfl, e4, ?_⟩⟩⟩
        unfold hW'
        rw [d1, d2]
        have q : ∀ f k : Fin 3, (10 : Int32) * nI f.val + nI k.val = nI (10 * f.val + k.val) := by decide
        exact q ⟨f, hf⟩ ⟨k, hl⟩
      · rw [if_neg z2, if_pos rfl]
        exact Or.inr ⟨hl, step (by rw [gw, z1]; simpa using z2)⟩
    · rw [if_neg z1, if_pos rfl]
      refine Or.inr ⟨hl, step ?_⟩
      rw [gw]
      cases y : al (fun i => decide (eW T a b a i k ≤ eW T a b a f k)) 3 with
      | true => exact absurd y z1
      | false => rfl
  · have : k = 3 := by omega
    subst this
    rw [if_pos (by decide)]
    exact Or.inl ⟨_, rfl, Or.inl ⟨by rw [← nI_1], fun i hi => e4 i (by omega)⟩⟩
theorem C_two (hW : WT T) (cR : repC S 1 T) (ha : a < tn T) (hb : b < tn T) (hab : a ≠ b) (h : CE S X T) : ∃ r, lp 1000 l_X11_two_36 (nI a, nI b, 0, X) = some r ∧ UpD S r.2 ∧ isLh (gW T a b) hW' 9 r.1 := by
  refine lp_inv (m := 3) (I := fun k x => x.1 = nI a ∧ x.2.1 = nI b ∧ x.2.2.1 = nI k ∧ (∃ v w, CE S x.2.2.2 (t2 T a b v w)) ∧ mC x.2.2.2 T a b k 0) (fun k x hk hI => ?_) 1000 0 _ (Nat.zero_le _) (by omega) ⟨rfl, rfl, rfl, ⟨_, _, by rw [t2_id]; exact h⟩, fun i j hi hj hij => by omega⟩
  obtain ⟨a1, a2, a3, Z⟩ := x
  obtain ⟨e1, e2, e3, e4, e5⟩ := hI
  simp only at e1 e2 e3 e4 e5
  subst e1 e2 e3
  unfold l_X11_two_36 b_X11_two_36 b_X11_two_163
  dsimp only
  rcases Nat.lt_or_ge k 3 with hl | hl
  · have e3 : ¬ (3 : Int32) ≤ nI k := nI_ge (b := 3) hl (by decide)
    obtain ⟨r, r1, Y, rfl, r2, r3⟩ := C_two1 hW cR ha hb hab hl e4 e5
    rw [if_neg e3, r1]
    exact Or.inr ⟨hl, _, rfl, rfl, rfl, rfl, r2, r3⟩
  · have : k = 3 := by omega
    subst this
    rw [if_pos (by decide)]
    obtain ⟨v, w, e4⟩ := e4
    have key := lp_inv (body := l_X11_two_165) (m := 3) (I := fun k x => x.1 = nI k ∧ x.2 = Z ∧ ∀ i, i < 3 * k → gW T a b i = false) (Q := fun y => UpD S y.2 ∧ isLh (gW T a b) hW' 9 y.1) (fun k x hk hI => ?_) 1000 0 (0, Z) (Nat.zero_le _) (by omega) ⟨rfl, rfl, fun i hi => by omega⟩
    · obtain ⟨r, r1, r2⟩ := key
      rw [r1]
      exact Or.inl ⟨r, rfl, r2⟩
    · obtain ⟨b1, W⟩ := x
      obtain ⟨f1, f2, f3⟩ := hI
      simp only at f1 f2
      subst f1 f2
      unfold l_X11_two_165 b_X11_two_165
      dsimp only
      rcases Nat.lt_or_ge k 3 with hl | hl
      · have e3 : ¬ (3 : Int32) ≤ nI k := nI_ge (b := 3) hl (by decide)
        obtain ⟨r, r1, r2⟩ := C_two2 (X := W) e5 hl f3
        rw [if_neg e3, r1]
        rcases r2 with ⟨rfl, r2⟩ | ⟨y, rfl, r2⟩
        · exact Or.inr ⟨hl, _, rfl, rfl, rfl, r2⟩
        · exact Or.inl ⟨_, rfl, e4.1, r2⟩
      · have : k = 3 := by omega
        subst this
        rw [if_pos (by decide)]
        exact Or.inl ⟨_, rfl, e4.1, Or.inr ⟨fun q hq => f3 q (by omega), rfl⟩⟩
theorem R_two2 (h1 : ∀ k, k < 9 → gi X 178 k = eW T a b a (k / 3) (k % 3)) (h2 : ∀ k, k < 9 → gi X 179 k = eW T a b b (k / 3) (k % 3)) : ∃ r, lp 1000 l_X12_two_136 (0, X) = some r ∧ r.2 = X ∧ isLh (gW T a b) hW' 9 r.1 := by
  have dv : ∀ k : Fin 9, nI k.val / 3 = nI (k.val / 3) ∧ nI k.val - nI k.val / 3 * 3 = nI (k.val % 3) ∧ ∀ o : Fin 3, (3 : Int32) * nI o.val + nI (k.val % 3) = nI (3 * o.val + k.val % 3) ∧ nI (k.val / 3) * 3 + nI o.val = nI (k.val / 3 * 3 + o.val) := by decide +kernel
  refine lp_inv (m := 9) (I := fun k x => x.1 = nI k ∧ x.2 = X ∧ ∀ i, i < k → gW T a b i = false) (fun k x hk hI => ?_) 1000 0 _ (Nat.zero_le _) (by omega) ⟨rfl, rfl, fun i hi => absurd hi (Nat.not_lt_zero i)⟩
  obtain ⟨a1, Z⟩ := x
  obtain ⟨e1, e2, e3⟩ := hI
  simp only at e1 e2
  subst e1 e2
  unfold l_X12_two_136 b_X12_two_136
  dsimp only
  rcases Nat.lt_or_ge k 9 with hl | hl
  · have e9 : ¬ (9 : Int32) ≤ nI k := nI_ge (b := 9) hl (by decide)
    rw [if_neg e9]
    obtain ⟨m1, m2, m3⟩ := dv ⟨k, hl⟩
    simp only at m1 m2 m3
    have inner : lp 1000 l_X12_two_149 (nI k, 1, 0, Z) = (b_X12_two_221 (nI k) (if al (fun o => decide (eW T a b a o (k % 3) ≤ eW T a b a (k / 3) (k % 3)) && decide (eW T a b b (k / 3) o ≤ eW T a b b (k / 3) (k % 3))) 3 then 1 else 0) Z) := by
      have hx : ∃ r, b_X12_two_221 (nI k) (if al (fun o => decide (eW T a b a o (k % 3) ≤ eW T a b a (k / 3) (k % 3)) && decide (eW T a b b (k / 3) o ≤ eW T a b b (k / 3) (k % 3))) 3 then 1 else 0) Z = some r := by
        unfold b_X12_two_221
        split <;> exact ⟨_, rfl⟩
      obtain ⟨r, hr⟩ := hx
      rw [hr]
      refine lp_br _ (fun o => (nI k, (if al (fun o => decide (eW T a b a o (k % 3) ≤ eW T a b a (k / 3) (k % 3)) && decide (eW T a b b (k / 3) o ≤ eW T a b b (k / 3) (k % 3))) o then 1 else 0), nI o, Z)) 3 _ (fun o ho => ?_) ?_ 1000 (by omega)
      · have e3 : ¬ (3 : Int32) ≤ nI o := nI_ge (b := 3) ho (by decide)
        obtain ⟨n1, n2⟩ := m3 ⟨o, ho⟩
        simp only at n1 n2
        have i1 : 3 * o + k % 3 < 9 := by omega
        have i2 : k / 3 * 3 + o < 9 := by omega
        have v1 := h1 (3 * o + k % 3) i1
        rw [show (3 * o + k % 3) / 3 = o by omega, show (3 * o + k % 3) % 3 = k % 3 by omega] at v1
        have v2 := h2 (k / 3 * 3 + o) i2
        rw [show (k / 3 * 3 + o) / 3 = k / 3 by omega, show (k / 3 * 3 + o) % 3 = o by omega] at v2
        have m2' : nI k - nI (k / 3) * 3 = nI (k % 3) := by rw [← m1]; exact m2
        simp only [l_X12_two_149, b_X12_two_149, b_X12_two_212, b_X12_two_213, if_neg e3, m1, m2', n1, n2, gd_t (inb_n hl), gd_t (inb_n i1), gd_t (inb_n i2), tn_n (show k < 2 ^ 31 by omega), tn_n (show 3 * o + k % 3 < 2 ^ 31 by omega), tn_n (show k / 3 * 3 + o < 2 ^ 31 by omega), h1 k hl, h2 k hl, v1, v2, nI_1, al]
        by_cases w : al (fun o => decide (eW T a b a o (k % 3) ≤ eW T a b a (k / 3) (k % 3)) && decide (eW T a b b (k / 3) o ≤ eW T a b b (k / 3) (k % 3))) o = true
        · by_cases z1 : eW T a b a o (k % 3) ≤ eW T a b a (k / 3) (k % 3)
          · by_cases z2 : eW T a b b (k / 3) o ≤ eW T a b b (k / 3) (k % 3)
            · simp [w, z1, z2, Int32.not_lt.mpr z1, Int32.not_lt.mpr z2]
            · simp [w, z1, z2, Int32.not_lt.mpr z1, Int32.not_le.mp z2]
          · simp [w, z1, Int32.not_le.mp z1]
        · simp [w]
      · simp only [l_X12_two_149, b_X12_two_149, if_pos (show (3 : Int32) ≤ nI 3 by decide), hr]
        rfl
    rw [inner]
    have ga : al (fun o => decide (eW T a b a o (k % 3) ≤ eW T a b a (k / 3) (k % 3)) && decide (eW T a b b (k / 3) o ≤ eW T a b b (k / 3) (k % 3))) 3 = gW T a b k := by
      unfold gW
      rw [Bool.eq_iff_iff, Bool.and_eq_true, al_iff, al_iff, al_iff]
      simp only [Bool.and_eq_true]
      exact ⟨fun z => ⟨fun p hp => (z p hp).1, fun p hp => (z p hp).2⟩, fun z p hp => ⟨z.1 p hp, z.2 p hp⟩⟩
    rw [ga]
    unfold b_X12_two_221
    by_cases z : gW T a b k = true
    · rw [if_pos z, if_neg (by decide), m2, m1]
      refine Or.inl ⟨_, rfl, rfl, Or.inl ⟨k, hl, z, e3, ?_⟩⟩
      unfold hW'
      have q : ∀ f k : Fin 3, (10 : Int32) * nI f.val + nI k.val = nI (10 * f.val + k.val) := by decide
      exact q ⟨k / 3, by omega⟩ ⟨k % 3, by omega⟩
    · rw [if_neg z, if_pos rfl, nI_1]
      refine Or.inr ⟨hl, _, rfl, rfl, rfl, fun i hi => ?_⟩
      rcases Nat.eq_or_lt_of_le (Nat.le_of_lt_succ hi) with y | y
      · rw [y]; simpa using z
      · exact e3 i y
  · have : k = 9 := by omega
    subst this
    rw [if_pos (by decide)]
    exact Or.inl ⟨_, rfl, rfl, Or.inr ⟨e3, rfl⟩⟩
theorem R_two (ha : a < tn T) (hb : b < tn T) (hab : a ≠ b) (h : RE S X T) : ∃ r, lp 1000 l_X12_two_46 (nI a, nI b, tF T 2 a, tF T 2 b, 0, X) = some r ∧ RE S r.2 T ∧ isLh (gW T a b) hW' 9 r.1 := by
  have hW := h.2.1
  have n8 := hW.1
  have dv : ∀ k : Fin 9, nI k.val / 3 = nI (k.val / 3) ∧ nI k.val - nI k.val / 3 * 3 = nI (k.val % 3) := by decide +kernel
  refine lp_inv (m := 9) (I := fun k x => x.1 = nI a ∧ x.2.1 = nI b ∧ x.2.2.1 = tF T 2 a ∧ x.2.2.2.1 = tF T 2 b ∧ x.2.2.2.2.1 = nI k ∧ (∃ v w, RE S x.2.2.2.2.2 (t2 T a b v w)) ∧ ∀ i, i < k → gi x.2.2.2.2.2 178 i = eW T a b a (i / 3) (i % 3) ∧ gi x.2.2.2.2.2 179 i = eW T a b b (i / 3) (i % 3)) (fun k x hk hI => ?_) 1000 0 _ (Nat.zero_le _) (by omega) ⟨rfl, rfl, rfl, rfl, rfl, ⟨_, _, by rw [t2_id]; exact h⟩, fun i hi => absurd hi (Nat.not_lt_zero i)⟩
  obtain ⟨a1, a2, a3, a4, a5, Z⟩ := x
  obtain ⟨e1, e2, e3, e4, e5, ⟨v, w, e6⟩, e7⟩ := hI
  simp only at e1 e2 e3 e4 e5 e6 e7
  subst e1 e2 e3 e4 e5
  unfold l_X12_two_46 b_X12_two_46
  dsimp only
  rcases Nat.lt_or_ge k 9 with hl | hl
  · have e9 : ¬ (9 : Int32) ≤ nI k := nI_ge (b := 9) hl (by decide)
    obtain ⟨m1, m2⟩ := dv ⟨k, hl⟩
    simp only at m1 m2
    have la : ∀ (x y : Int32) (S : St), L_X12_later x y S = some (lat x y) := by
      intro x y S
      unfold L_X12_later b_X12_later_0 lat
      by_cases q : x + y < 23
      · rw [if_pos q, if_pos (Int32.le_of_lt q)]
      · rw [if_neg q]
        by_cases q2 : x + y ≤ 23
        · rw [if_pos q2, Int32.le_antisymm q2 (Int32.not_lt.mp q)]
        · rw [if_neg q2]
    have re := RE_hour e6 hab (ok_lat hW ha (show k / 3 < 3 by omega) a) (ok_lat hW hb (show k % 3 < 3 by omega) b)
    obtain ⟨Y, y1, y0, y2, y3⟩ := RE_go re
    have pa := R_purse (p := a) y3 ha
    have pb := R_purse (p := b) y3 hb
    have pb' : ∀ v, gi (si Y 178 k v) 164 b = eW T a b b (k / 3) (k % 3) := fun v => by rw [gi_si_n _ _ _ (by decide)]; exact pb
    rw [if_neg e9, m2, m1, la, Option.bind_some, gd_t (inb_n (show a < 8 by omega)), nm_eq, la, Option.bind_some, gd_t (inb_n (show b < 8 by omega)), nm_eq, tn_n (show a < 2 ^ 31 by omega), tn_n (show b < 2 ^ 31 by omega), y1, Option.bind_some, gd_t (inb_n (show a < 8 by omega)), gd_t (inb_n hl), nm_eq, gd_t (inb_n (show b < 8 by omega)), gd_t (inb_n hl), nm_eq, tn_n (show k < 2 ^ 31 by omega), pb', pa, nI_1]
    refine Or.inr ⟨hl, _, rfl, rfl, rfl, rfl, rfl, rfl, ⟨_, _, RE_FR (P := fun c => c = 178 ∨ c = 179) (fun c z => by omega) y2 (FR_si (Or.inr rfl) (FR_si (Or.inl rfl) (FR_refl Y) _ _) _ _)⟩, fun i hi => ?_⟩
    show gi (si (si Y 178 k (eW T a b a (k / 3) (k % 3))) 179 k (eW T a b b (k / 3) (k % 3))) 178 i = _ ∧ gi (si (si Y 178 k (eW T a b a (k / 3) (k % 3))) 179 k (eW T a b b (k / 3) (k % 3))) 179 i = _
    have o8 : gi Y 178 = gi Z 178 := by rw [y0.1 178 (fun z => absurd z.2 (by decide)), gi_si_n _ _ _ (by decide), gi_si_n _ _ _ (by decide)]
    have o9 : gi Y 179 = gi Z 179 := by rw [y0.1 179 (fun z => absurd z.2 (by decide)), gi_si_n _ _ _ (by decide), gi_si_n _ _ _ (by decide)]
    rw [gi_si_n _ _ _ (by decide), gi_si_s, gi_si_s, gi_si_n _ _ _ (by decide), o8, o9]
    by_cases z : i = k
    · subst z
      rw [upd_s, upd_s]
      exact ⟨rfl, rfl⟩
    · rw [upd_n _ _ z, upd_n _ _ z]
      exact e7 i (by omega)
  · have : k = 9 := by omega
    subst this
    rw [if_pos (by decide)]
    unfold b_X12_two_118
    rw [gd_t (inb_n (show a < 8 by omega)), nm_eq, gd_t (inb_n (show b < 8 by omega)), nm_eq, tn_n (show a < 2 ^ 31 by omega), tn_n (show b < 2 ^ 31 by omega)]
    have re := RE_hour e6 hab (v := tF T 2 a) (w := tF T 2 b) (ok_of hW ha).1 (ok_of hW hb).1
    rw [t2_id] at re
    obtain ⟨r, r1, r2, r3⟩ := R_two2 (T := T) (a := a) (b := b) (X := si (si Z 150 a (tF T 2 a)) 150 b (tF T 2 b)) (fun k hk => by rw [gi_si_n _ _ _ (by decide), gi_si_n _ _ _ (by decide)]; exact (e7 k hk).1) (fun k hk => by rw [gi_si_n _ _ _ (by decide), gi_si_n _ _ _ (by decide)]; exact (e7 k hk).2)
    rw [r1]
    exact Or.inl ⟨r, rfl, by rw [r2]; exact re, r3⟩
theorem J_two (c : IC S (T, m)) (g : IR S (T, m)) (p q : Int32) : JJ S (L_X11_two p q) (L_X12_two p q) := by
  have n8 : tn T ≤ 8 := c.2.1.1
  obtain ⟨hW, cR⟩ := IC_1 c
  have refuse : (L_X11_two p q S = some (-1, S)) → (∀ S1, IR S1 (T, m) → L_X12_two p q S1 = some (-1, si S1 136 28 0)) → JJ S (L_X11_two p q) (L_X12_two p q) := fun h1 h2 => JJ_D c g (-1) ⟨S, h1, UpD_refl S⟩ (fun S1 g1 => ⟨_, h2 S1 g1, RE_0 g1⟩)
  rcases ix_split p (tn T) (by omega) with ⟨a, ha, rfl⟩ | bad
  · rcases ix_split q (tn T) (by omega) with ⟨b, hb, rfl⟩ | bad2
    · by_cases hab : a = b
      · subst hab
        refine refuse ?_ (fun S1 g1 => ?_)
        · unfold L_X11_two b_X11_two_0
          rw [C_nb0 cR.1 n8 ha, Option.bind_some, if_pos rfl, Option.bind_some, if_pos rfl, if_pos rfl]
        · unfold L_X12_two b_X12_two_0
          rw [nm_eq, R_one1 (RE_0 g1).2.2.1.1 n8 ha, Option.bind_some, if_neg (by decide), Option.bind_some, if_neg (by decide), if_pos rfl]
      · have nab : ¬ nI a = nI b := fun z => hab ((nI_eq (by omega) (by omega)).mp z)
        obtain ⟨X, x1, x2⟩ := CE_0 c
        refine JJ_P c g (isLh (gW T a b) hW' 9) (fun r r' h h' => isLh_u h h') ?_ (fun S1 g1 => ?_)
        · obtain ⟨r, r1, r2, r3⟩ := C_two hW cR ha hb hab x2
          refine ⟨r.1, r.2, ?_, r2, r3⟩
          unfold L_X11_two b_X11_two_0
          rw [C_nb0 cR.1 n8 ha, Option.bind_some, if_pos rfl, C_nb0 cR.1 n8 hb, Option.bind_some, if_pos rfl, if_neg nab, x1, Option.bind_some, r1]
        · have e := RE_0 g1
          obtain ⟨r, r1, r2, r3⟩ := R_two ha hb hab e
          refine ⟨r.1, r.2, ?_, r2, r3⟩
          unfold L_X12_two b_X12_two_0
          rw [nm_eq, R_one1 e.2.2.1.1 n8 ha, Option.bind_some, if_neg (by decide), R_one1 e.2.2.1.1 n8 hb, Option.bind_some, if_neg (by decide), if_neg nab, gd_t (inb_n (show a < 8 by omega)), gd_t (inb_n (show b < 8 by omega)), tn_n (show a < 2 ^ 31 by omega), tn_n (show b < 2 ^ 31 by omega), (e.2.2.1.2.2.2.1 a ha).2.2.2.1, (e.2.2.1.2.2.2.1 b hb).2.2.2.1, r1]
    · refine refuse ?_ (fun S1 g1 => ?_)
      · unfold L_X11_two b_X11_two_0
        rw [C_nb0 cR.1 n8 ha, Option.bind_some, if_pos rfl, C_nb1 cR.1 bad2]
        rfl
      · unfold L_X12_two b_X12_two_0
        rw [nm_eq, R_one1 (RE_0 g1).2.2.1.1 n8 ha, Option.bind_some, if_neg (by decide), R_one0 (RE_0 g1).2.2.1.1 n8 bad2]
        rfl
  · refine refuse ?_ (fun S1 g1 => ?_)
    · unfold L_X11_two b_X11_two_0
      rw [C_nb1 cR.1 bad]
      rfl
    · unfold L_X12_two b_X12_two_0
      rw [nm_eq, R_one0 (RE_0 g1).2.2.1.1 n8 bad]
      rfl
end TWO
