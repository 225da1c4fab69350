/-! image, restore. -/
theorem CA_out {take : Bool} {u : Nat} {S Y : St} (h : CA take u S 114 Y) {a x : Nat} (ha : a ≠ u) (hx : a < 136 ∨ 153 ≤ a ∨ (a = 136 ∧ 16 ≤ x ∧ x ≠ 47 ∧ x ≠ 48)) : gi Y a x = gi S a x :=
  h.2.2.2.1 a x ha (by omega) (Or.inr (fun i hi e => by
    obtain ⟨q1, q2, q3⟩ := pP_r i hi
    rw [e] at q1 q2 q3
    simp only at q1 q2 q3
    omega))
theorem CA_outF {take : Bool} {u : Nat} {S Y : St} (h : CA take u S 114 Y) {a : Nat} (ha : a ≠ u) (hx : a < 136 ∨ 153 ≤ a) : gi Y a = gi S a := funext fun x => CA_out h ha (by omega)
theorem CA_UpR {take : Bool} {u : Nat} {S Y : St} (hu : u = 172 ∨ u = 173) (h : CA take u S 114 Y) : UpR S Y :=
  ⟨fun a ha => ⟨CA_outF h (by omega) (Or.inl ha), h.2.2.2.2.2.2.2.1 a, h.2.2.2.2.2.2.2.2.1 a (by omega)⟩, h.2.2.2.2.2.2.2.2.2.1, h.2.2.2.2.2.2.2.2.2.2⟩
theorem repR_pt {S S' : St} {T : TT} (hW : WT T) (o : ∀ a x, 136 ≤ a → a < 153 → x < 16 → gi S' a x = gi S a x) (h : repR S T) : repR S' T := by
  obtain ⟨a1, a2, a3, a4, a5, a6, a7, a8, a9, a10⟩ := h
  obtain ⟨w1, w2, w3, -⟩ := hW
  refine ⟨by rw [o 136 15 (by decide) (by decide) (by decide)]; exact a1, by rw [o 136 1 (by decide) (by decide) (by decide)]; exact a2, by rw [o 136 9 (by decide) (by decide) (by decide)]; exact a3, fun p hp => ?_, fun f hf => ?_, fun k hk => ?_, fun k hk => by rw [o 137 k (by decide) (by decide) hk]; exact a7 k hk, by rw [o 136 6 (by decide) (by decide) (by decide)]; exact a8, by rw [o 136 7 (by decide) (by decide) (by decide)]; exact a9, by rw [o 136 8 (by decide) (by decide) (by decide)]; exact a10⟩
  · have : p < 16 := by omega
    rw [o 147 p (by decide) (by decide) this, o 148 p (by decide) (by decide) this, o 149 p (by decide) (by decide) this, o 150 p (by decide) (by decide) this, o 151 p (by decide) (by decide) this, o 152 p (by decide) (by decide) this]
    exact a4 p hp
  · have : f < 16 := by omega
    rw [o 138 f (by decide) (by decide) this, o 139 f (by decide) (by decide) this, o 140 f (by decide) (by decide) this, o 141 f (by decide) (by decide) this]
    exact a5 f hf
  · have : k < 16 := by omega
    rw [o 142 k (by decide) (by decide) this, o 143 k (by decide) (by decide) this, o 144 k (by decide) (by decide) this, o 145 k (by decide) (by decide) this, o 146 k (by decide) (by decide) this]
    exact a6 k hk
/-- taking: the row tells the town, the town is as it was -/
theorem CA_repR {u : Nat} {S Y : St} {T : TT} (hu : u = 172 ∨ u = 173) (hW : WT T) (h : CA true u S 114 Y) (hR : repR S T) : repR Y T :=
  repR_pt hW (fun a x h1 h2 h3 => h.2.2.2.1 a x (by omega) (by omega) (Or.inl rfl)) hR
theorem pP_k (i : Nat) (h : i < 16) : pP (6 + i) = (137, i) := by
  unfold pP
  rw [if_neg (by omega), if_pos (by omega), show 6 + i - 6 = i by omega]
theorem pP_f (f c : Nat) (hf : f < 6) (hc : c < 4) : pP (22 + c + 4 * f) = (138 + c, f) := by
  unfold pP
  rw [if_neg (by omega), if_neg (by omega), if_pos (by omega), show (22 + c + 4 * f - 22) % 4 = c by omega, show (22 + c + 4 * f - 22) / 4 = f by omega]
theorem pP_t (k c : Nat) (hk : k < 4) (hc : c < 5) : pP (46 + c + 5 * k) = (142 + c, k) := by
  unfold pP
  rw [if_neg (by omega), if_neg (by omega), if_neg (by omega), if_pos (by omega), show (46 + c + 5 * k - 46) % 5 = c by omega, show (46 + c + 5 * k - 46) / 5 = k by omega]
theorem pP_p (p c : Nat) (hc : c < 6) : pP (66 + c + 6 * p) = (147 + c, p) := by
  unfold pP
  rw [if_neg (by omega), if_neg (by omega), if_neg (by omega), if_neg (by omega), show (66 + c + 6 * p - 66) % 6 = c by omega, show (66 + c + 6 * p - 66) / 6 = p by omega]
theorem img_of {Z : Nat → Int32} {S : St} {T : TT} (hW : WT T) (e : ∀ i, i < 114 → Z i = gi S (pP i).1 (pP i).2) : imgR Z T ↔ repR S T := by
  obtain ⟨w1, w2, w3, -⟩ := hW
  have e0 : Z 0 = gi S 136 1 := e 0 (by decide)
  have e1 : Z 1 = gi S 136 6 := e 1 (by decide)
  have e2 : Z 2 = gi S 136 7 := e 2 (by decide)
  have e3 : Z 3 = gi S 136 8 := e 3 (by decide)
  have e4 : Z 4 = gi S 136 9 := e 4 (by decide)
  have e5 : Z 5 = gi S 136 15 := e 5 (by decide)
  have ek : ∀ i, i < 16 → Z (6 + i) = gi S 137 i := fun i hi => by rw [e (6 + i) (by omega), pP_k i hi]
  have ef : ∀ c, c < 4 → ∀ f, f < 6 → Z (22 + c + 4 * f) = gi S (138 + c) f := fun c hc f hf => by rw [e _ (by omega), pP_f f c hf hc]
  have et : ∀ c, c < 5 → ∀ k, k < 3 → Z (46 + c + 5 * k) = gi S (142 + c) k := fun c hc k hk => by rw [e _ (by omega), pP_t k c (by omega) hc]
  have ep : ∀ c, c < 6 → ∀ p, p < 8 → Z (66 + c + 6 * p) = gi S (147 + c) p := fun c hc p hp => by rw [e _ (by omega), pP_p p c hc]
  unfold imgR repR
  rw [e0, e1, e2, e3, e4, e5]
  constructor
  · rintro ⟨a1, a2, a3, a4, a5, a6, a7, a8, a9, a10⟩
    refine ⟨a6, a1, a5, fun p hp => ?_, fun f hf => ?_, fun k hk => ?_, fun i hi => ?_, a2, a3, a4⟩
    · have q := a10 p hp
      have p8 : p < 8 := by omega
      rw [show Z (66 + 6 * p) = gi S 147 p from ep 0 (by decide) p p8, show Z (67 + 6 * p) = gi S 148 p from ep 1 (by decide) p p8, show Z (68 + 6 * p) = gi S 149 p from ep 2 (by decide) p p8, show Z (69 + 6 * p) = gi S 150 p from ep 3 (by decide) p p8, show Z (70 + 6 * p) = gi S 151 p from ep 4 (by decide) p p8, show Z (71 + 6 * p) = gi S 152 p from ep 5 (by decide) p p8] at q
      exact q
    · have q := a8 f hf
      have f6 : f < 6 := by omega
      rw [show Z (22 + 4 * f) = gi S 138 f from ef 0 (by decide) f f6, show Z (23 + 4 * f) = gi S 139 f from ef 1 (by decide) f f6, show Z (24 + 4 * f) = gi S 140 f from ef 2 (by decide) f f6, show Z (25 + 4 * f) = gi S 141 f from ef 3 (by decide) f f6] at q
      exact q
    · have q := a9 k hk
      have k3 : k < 3 := by omega
      rw [show Z (46 + 5 * k) = gi S 142 k from et 0 (by decide) k k3, show Z (47 + 5 * k) = gi S 143 k from et 1 (by decide) k k3, show Z (48 + 5 * k) = gi S 144 k from et 2 (by decide) k k3, show Z (49 + 5 * k) = gi S 145 k from et 3 (by decide) k k3, show Z (50 + 5 * k) = gi S 146 k from et 4 (by decide) k k3] at q
      exact q
    · rw [← ek i hi]; exact a7 i hi
  · rintro ⟨a6, a1, a5, a10, a8, a9, a7, a2, a3, a4⟩
    refine ⟨a1, a2, a3, a4, a5, a6, fun i hi => ?_, fun f hf => ?_, fun k hk => ?_, fun p hp => ?_⟩
    · rw [ek i hi]; exact a7 i hi
    · have f6 : f < 6 := by omega
      rw [show Z (22 + 4 * f) = gi S 138 f from ef 0 (by decide) f f6, show Z (23 + 4 * f) = gi S 139 f from ef 1 (by decide) f f6, show Z (24 + 4 * f) = gi S 140 f from ef 2 (by decide) f f6, show Z (25 + 4 * f) = gi S 141 f from ef 3 (by decide) f f6]
      exact a8 f hf
    · have k3 : k < 3 := by omega
      rw [show Z (46 + 5 * k) = gi S 142 k from et 0 (by decide) k k3, show Z (47 + 5 * k) = gi S 143 k from et 1 (by decide) k k3, show Z (48 + 5 * k) = gi S 144 k from et 2 (by decide) k k3, show Z (49 + 5 * k) = gi S 145 k from et 3 (by decide) k k3, show Z (50 + 5 * k) = gi S 146 k from et 4 (by decide) k k3]
      exact a9 k hk
    · have p8 : p < 8 := by omega
      rw [show Z (66 + 6 * p) = gi S 147 p from ep 0 (by decide) p p8, show Z (67 + 6 * p) = gi S 148 p from ep 1 (by decide) p p8, show Z (68 + 6 * p) = gi S 149 p from ep 2 (by decide) p p8, show Z (69 + 6 * p) = gi S 150 p from ep 3 (by decide) p p8, show Z (70 + 6 * p) = gi S 151 p from ep 4 (by decide) p p8, show Z (71 + 6 * p) = gi S 152 p from ep 5 (by decide) p p8]
      exact a10 p hp
theorem repC_loc {S S' : St} {t : Nat} {T : TT} (o : ∀ a, t ≤ a → a < t + 18 → gi S' a = gi S a ∧ gr S' a = gr S a) (h2 : ∀ q, gp S' q = gp S q) (r : repC S t T) : repC S' t T := by
  have hq : ∀ q, gq S' q = gq S q := fun q => gq_local (h2 q)
  unfold repC at r ⊢
  rw [(o t (by omega) (by omega)).1, (o (t + 1) (by omega) (by omega)).2, (o (t + 3) (by omega) (by omega)).1, (o (t + 4) (by omega) (by omega)).1, (o (t + 5) (by omega) (by omega)).1, (o (t + 6) (by omega) (by omega)).1, (o (t + 7) (by omega) (by omega)).1, (o (t + 8) (by omega) (by omega)).1, (o (t + 9) (by omega) (by omega)).1, (o (t + 10) (by omega) (by omega)).1, (o (t + 11) (by omega) (by omega)).1, (o (t + 12) (by omega) (by omega)).1, (o (t + 13) (by omega) (by omega)).1, (o (t + 14) (by omega) (by omega)).1, (o (t + 15) (by omega) (by omega)).1, (o (t + 16) (by omega) (by omega)).1, (o (t + 17) (by omega) (by omega)).1]
  simp only [hq]
  exact r
theorem shC_loc {S S' : St} {d : Nat} {w : Sh} (hd : d < 8) (o : ∀ a, 66 ≤ a → a < 86 → gi S' a = gi S a ∧ gr S' a = gr S a) (h2 : ∀ q, gp S' q = gp S q) (h3 : tp S' = tp S) (r : shC S d w) : shC S' d w := by
  have hq : ∀ q, gq S' q = gq S q := fun q => gq_local (h2 q)
  unfold shC
  rw [(o 66 (by omega) (by omega)).1, (o 67 (by omega) (by omega)).2, (o (70 + 2 * d) (by omega) (by omega)).1, (o (71 + 2 * d) (by omega) (by omega)).1, h3]
  simp only [hq]
  exact r
section IMAGE
variable {S : St} {T : TT} {im : Option TT} {sh : Nat → Sh}
theorem FT_UpC {t : Nat} {X Y : St} (ht : t ≤ 37) (h : FT t X Y) : UpC X Y := fun a ha => ⟨(h.1 a (fun z => by have := z.2; omega)).1, h.2.1 a, (h.1 a (fun z => by have := z.2; omega)).2⟩
theorem J_image (c : IC S (T, im, sh)) (g : IR S (T, im, sh)) : JJ S L_X11_image L_X12_image := by
  obtain ⟨c0, c1, c2, c3, c4, c5, c6⟩ := c
  refine JJ_of (nI (tn T)) (T, some T, sh) g ?_ (fun S1 g1 => ?_)
  · obtain ⟨Y, y1, y2, y3, y4⟩ := C_become (t := 37) (u := 1) (Or.inl (by decide)) c3 c1 c2
    have o : ∀ a, a < 37 ∨ 55 ≤ a → gi Y a = gi S a ∧ gr Y a = gr S a := fun a ha => y2.1 a (fun z => by have := z.1; have := z.2; omega)
    have k : ∀ a, a ≠ 0 → gi (si Y 0 3 1) a = gi Y a := fun a ha => gi_si_n _ _ _ ha
    refine ⟨si Y 0 3 1, ?_, ⟨?_, c1, ?_, ?_, ?_, fun T1 hT => ?_, fun d hd => ?_⟩, UpC_si (by decide) (FT_UpC (by decide) y2) 3 1⟩
    · unfold L_X11_image b_X11_image_0
      rw [y1, Option.bind_some, nm_eq, k 1 (by decide), (o 1 (by decide)).1, c2.1]
    · show 183 ≤ tp Y
      rw [y2.2.2.2]; exact c0
    · refine repC_loc (S := S) (fun a h1 h2 => ⟨by rw [k a (by omega)]; exact (o a (by omega)).1, (o a (by omega)).2⟩) y2.2.2.1 c2
    · exact full_congr (o 2 (by decide)).2 (fun q _ => y2.2.2.1 q) (Nat.le_of_eq y2.2.2.2.symm) c3
    · rw [gi_at, if_pos ⟨rfl, rfl⟩]; rfl
    · have : T = T1 := Option.some.inj hT
      subst this
      refine ⟨c1, repC_loc (S := Y) (fun a h1 h2 => ⟨k a (by omega), rfl⟩) (fun _ => rfl) y3, y4⟩
    · exact shC_loc (S := S) hd (fun a h1 h2 => ⟨by rw [k a (by omega)]; exact (o a (by omega)).1, (o a (by omega)).2⟩) y2.2.2.1 y2.2.2.2 (c6 d hd)
  · have g2 := IR_thr g1 0
    obtain ⟨Y, y1, y2⟩ := carry_all (take := true) (u := 173) (Or.inr rfl) (si (si S1 136 28 0) 136 46 1)
    obtain ⟨r1, r2, r3, r4, r5, r6, r7⟩ := g2
    have r2' : repR (si (si S1 136 28 0) 136 46 1) T := repR_slot r2 (by decide) 1
    have r2'' := CA_repR (Or.inr rfl) r1 y2 r2'
    have k : ∀ a x, ¬ (a = 136 ∧ x = 46) → gi (si (si S1 136 28 0) 136 46 1) a x = gi (si S1 136 28 0) a x := fun a x ha => by rw [gi_at, if_neg ha]
    refine ⟨Y, ?_, ⟨r1, r2'', ?_, ?_, ?_, fun T1 hT => ?_, fun d hd => ?_⟩, UpR_tr (UpR_si (by decide) (UpR_si (by decide) (UpR_refl S1) 28 0) 46 1) (CA_UpR (Or.inr rfl) y2)⟩
    · unfold L_X12_image b_X12_image_0
      rw [nm_eq, nm_eq, show L_X12_carryAll 173 1 (si (si S1 136 28 0) 136 46 1) = some Y from y1, Option.bind_some, r2''.1]
    · rw [CA_out y2 (by decide) (Or.inr (Or.inr (by decide))), k _ _ (by decide)]; exact r3
    · rw [CA_out y2 (by decide) (Or.inr (Or.inr (by decide))), k _ _ (by decide)]; exact r4
    · rw [CA_out y2 (by decide) (Or.inr (Or.inr (by decide))), gi_at, if_pos ⟨rfl, rfl⟩]; rfl
    · have : T = T1 := Option.some.inj hT
      subst this
      exact (img_of r1 (fun i hi => y2.2.2.2.2.1 rfl i hi)).mpr r2'
    · have w : ∀ a, 153 ≤ a → a < 173 → gi Y a = gi (si S1 136 28 0) a := fun a h1 h2 => by rw [CA_outF y2 (by omega) (Or.inr h1), gi_si_n _ _ _ (by omega)]
      unfold shR
      rw [w 153 (by decide) (by decide), w 154 (by decide) (by decide), w 155 (by decide) (by decide), w 156 (by decide) (by decide), w 157 (by decide) (by decide), y2.2.2.2.2.2.2.2.1 158]
      exact r7 d hd
theorem J_restore (c : IC S (T, im, sh)) (g : IR S (T, im, sh)) : JJ S L_X11_restore L_X12_restore := by
  obtain ⟨c0, c1, c2, c3, c4, c5, c6⟩ := id c
  cases im with
  | none =>
    refine JJ_of (-3) (T, none, sh) g ⟨S, ?_, c, UpC_refl S⟩ (fun S1 g1 => ⟨si S1 136 28 0, ?_, IR_thr g1 0, Up_thr S1 0⟩)
    · unfold L_X11_restore b_X11_restore_0
      rw [show gi S 0 3 = 0 from c4, if_pos rfl]
    · have e : gi (si S1 136 28 0) 136 46 = 0 := (IR_thr g1 0).2.2.2.2.1
      unfold L_X12_restore b_X12_restore_0
      rw [nm_eq, e, if_pos rfl]
  | some T2 =>
    obtain ⟨i1, i2, i3⟩ := c5 T2 rfl
    have z10 : ¬ (1 : Int32) = 0 := by decide
    refine JJ_of (nI (tn T2)) (T2, some T2, sh) g ?_ (fun S1 g1 => ?_)
    · obtain ⟨Y, y1, y2, y3, y4⟩ := C_become (t := 1) (u := 37) (Or.inr (by decide)) i3 i1 i2
      have o : ∀ a, a = 0 ∨ 19 ≤ a → gi Y a = gi S a ∧ gr Y a = gr S a := fun a ha => y2.1 a (fun z => by have := z.1; have := z.2; omega)
      refine ⟨Y, ?_, ⟨?_, i1, y3, y4, ?_, fun T1 hT => ?_, fun d hd => ?_⟩, FT_UpC (by decide) y2⟩
      · unfold L_X11_restore b_X11_restore_0
        rw [show gi S 0 3 = 1 from c4, if_neg z10, y1, Option.bind_some, y3.1]
      · rw [y2.2.2.2]; exact c0
      · rw [(o 0 (Or.inl rfl)).1]; exact c4
      · have : T2 = T1 := Option.some.inj hT
        subst this
        exact ⟨i1, repC_loc (S := S) (fun a h1 h2 => o a (by omega)) y2.2.2.1 i2, full_congr (o 38 (by decide)).2 (fun q _ => y2.2.2.1 q) (Nat.le_of_eq y2.2.2.2.symm) i3⟩
      · exact shC_loc (S := S) hd (fun a h1 h2 => o a (by omega)) y2.2.2.1 y2.2.2.2 (c6 d hd)
    · obtain ⟨r1, r2, r3, r4, r5, r6, r7⟩ := IR_thr g1 0
      obtain ⟨Y, y1, y2⟩ := carry_all (take := false) (u := 173) (Or.inr rfl) (si S1 136 28 0)
      have r2'' : repR Y T2 := (img_of i1 (fun i hi => (y2.2.2.2.2.2.1 rfl i hi).symm)).mp (r6 T2 rfl)
      have k173 : gi Y 173 = gi (si S1 136 28 0) 173 := funext (y2.2.2.2.2.2.2.1 rfl)
      refine ⟨Y, ?_, ⟨i1, r2'', ?_, ?_, ?_, fun T1 hT => ?_, fun d hd => ?_⟩, UpR_tr (UpR_si (by decide) (UpR_refl S1) 28 0) (CA_UpR (Or.inr rfl) y2)⟩
      · unfold L_X12_restore b_X12_restore_0
        rw [nm_eq, show gi (si S1 136 28 0) 136 46 = 1 from r5, if_neg z10, show L_X12_carryAll 173 0 (si S1 136 28 0) = some Y from y1, Option.bind_some, r2''.1]
      · rw [CA_out y2 (by decide) (Or.inr (Or.inr (by decide)))]; exact r3
      · rw [CA_out y2 (by decide) (Or.inr (Or.inr (by decide)))]; exact r4
      · rw [CA_out y2 (by decide) (Or.inr (Or.inr (by decide)))]; exact r5
      · have : T2 = T1 := Option.some.inj hT
        subst this
        rw [k173]; exact r6 T2 rfl
      · have w : ∀ a, 153 ≤ a → a < 173 → gi Y a = gi (si S1 136 28 0) a := fun a h1 h2 => CA_outF y2 (by omega) (Or.inr h1)
        unfold shR
        rw [w 153 (by decide) (by decide), w 154 (by decide) (by decide), w 155 (by decide) (by decide), w 156 (by decide) (by decide), w 157 (by decide) (by decide), y2.2.2.2.2.2.2.2.1 158]
        exact r7 d hd
end IMAGE
