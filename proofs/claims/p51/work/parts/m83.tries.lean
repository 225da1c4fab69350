/-! Days tried with one number changed: turners, yes, moods, purse, bestRate, bestOpen. -/
section TRY
variable {S S0 X : St} {T : TT} {m : Option TT × (Nat → Sh)} {r i : Nat} {w v : Int32}
theorem C_try (h : CE S X (wF T r i w)) (hr : 1 ≤ r ∧ r ≤ 13 ∨ r = 15) (ok : okV r i v) : ∃ Y, L_X2_run 19 (-1) (si X (19 + 2 + r) i v) = some Y ∧ CE S Y (wF T r i v) ∧ DC Y 19 (wF T r i v) tt := by
  have h2 := CE_put h hr ok
  rw [wF_u] at h2
  obtain ⟨Y, y1, y2, y3, -⟩ := CE_go h2
  exact ⟨Y, y1, y2, y3⟩
theorem ok_of (hW : WT T) {p : Nat} (hp : p < tn T) : okV 2 p (tF T 2 p) ∧ okV 3 p (tF T 3 p) ∧ okV 4 p (tF T 4 p) := by
  obtain ⟨-, -, -, ⟨h, h1, h2⟩, h3, ⟨c, c1, c2⟩⟩ := hW.2.2.2.1 p hp
  exact ⟨by rw [h2]; exact okV_2 h1, okV_3 h3, by rw [c2]; exact okV_4 c1⟩
end TRY
theorem cnt_n (f : Nat → Bool) : ∀ n, cnt f n = nI (ncn f n) := by
  intro n
  induction n with
  | zero => rfl
  | succ n ih =>
    show (if f n then cnt f n + 1 else cnt f n) = nI (ncn f n + (if f n then 1 else 0))
    rw [ih]
    cases f n with
    | true => exact nI_1 _
    | false => rfl
theorem ncn_shift (f : Nat → Bool) : ∀ n, ncn f (n + 1) = (if f 0 then 1 else 0) + ncn (fun k => f (k + 1)) n := by
  intro n
  induction n with
  | zero =>
    show 0 + (if f 0 then 1 else 0) = (if f 0 then 1 else 0) + 0
    omega
  | succ n ih =>
    show ncn f (n + 1) + (if f (n + 1) then 1 else 0) = (if f 0 then 1 else 0) + (ncn (fun k => f (k + 1)) n + (if f (n + 1) then 1 else 0))
    rw [ih]
    omega
theorem ncn_rev : ∀ (n : Nat) (f : Nat → Bool), ncn (fun i => f (n - 1 - i)) n = ncn f n := by
  intro n
  induction n with
  | zero => intro f; rfl
  | succ n ih =>
    intro f
    rw [ncn_shift]
    show (if f (n + 1 - 1 - 0) then 1 else 0) + ncn (fun k => f (n + 1 - 1 - (k + 1))) n = ncn f n + (if f n then 1 else 0)
    have e : (fun k => f (n + 1 - 1 - (k + 1))) = (fun k => f (n - 1 - k)) := by
      funext k
      congr 1
      omega
    rw [e, ih f]
    have e2 : n + 1 - 1 - 0 = n := by omega
    rw [e2]
    omega
theorem cnt_rev (f : Nat → Bool) (n : Nat) : cnt (fun i => f (n - 1 - i)) n = cnt f n := by rw [cnt_n, cnt_n, ncn_rev]
/-- the least of some, told as a number; -4 -/
def isL (f : Nat → Bool) (a n : Nat) (r : Int32) : Prop := (∃ q, a ≤ q ∧ q < n ∧ f q = true ∧ (∀ i, a ≤ i → i < q → f i = false) ∧ r = nI q) ∨ ((∀ q, a ≤ q → q < n → f q = false) ∧ r = -4)
theorem isL_u {f : Nat → Bool} {a n : Nat} {r r' : Int32} (h : isL f a n r) (h' : isL f a n r') : r = r' := by
  rcases h with ⟨q, h1, h2, h3, h4, rfl⟩ | ⟨h1, rfl⟩ <;> rcases h' with ⟨q', h1', h2', h3', h4', rfl⟩ | ⟨h1', rfl⟩
  · rcases Nat.lt_trichotomy q q' with z | z | z
    · rw [h4' q h1 z] at h3; cases h3
    · rw [z]
    · rw [h4 q' h1' z] at h3'; cases h3'
  · rw [h1' q h1 h2] at h3; cases h3
  · rw [h1 q' h1' h2'] at h3'; cases h3'
  · rfl
theorem isL_dn {f : Nat → Bool} {a n : Nat} {r : Int32} (ha : a < n) (h : isL f (a + 1) n r) : isL f a n (if f a then nI a else r) := by
  cases e : f a with
  | true => exact Or.inl ⟨a, Nat.le_refl _, ha, e, fun i h1 h2 => by omega, rfl⟩
  | false =>
    rcases h with ⟨q, h1, h2, h3, h4, rfl⟩ | ⟨h1, rfl⟩
    · refine Or.inl ⟨q, by omega, h2, h3, fun i i1 i2 => ?_, rfl⟩
      rcases Nat.eq_or_lt_of_le i1 with z | z
      · rw [← z]; exact e
      · exact h4 i z i2
    · refine Or.inr ⟨fun q i1 i2 => ?_, rfl⟩
      rcases Nat.eq_or_lt_of_le i1 with z | z
      · rw [← z]; exact e
      · exact h1 q z i2
theorem isL_up {f : Nat → Bool} {k : Nat} {r : Int32} (hk : k < 2 ^ 31) (h : isL f 0 k r) : isL f 0 (k + 1) (if f k = true ∧ r < 0 then nI k else r) := by
  rcases h with ⟨q, h1, h2, h3, h4, rfl⟩ | ⟨h1, rfl⟩
  · rw [if_neg (fun z => absurd z.2 (nI_pos (by omega)))]
    exact Or.inl ⟨q, h1, by omega, h3, h4, rfl⟩
  · cases e : f k with
    | true =>
      rw [if_pos ⟨rfl, by decide⟩]
      exact Or.inl ⟨k, Nat.zero_le _, Nat.lt_succ_self _, e, fun i i1 i2 => h1 i i1 i2, rfl⟩
    | false =>
      rw [if_neg (fun z => absurd z.1 (by decide))]
      refine Or.inr ⟨fun q i1 i2 => ?_, rfl⟩
      rcases Nat.eq_or_lt_of_le (Nat.le_of_lt_succ i2) with z | z
      · rw [z]; exact e
      · exact h1 q i1 z
theorem isL_0 (f : Nat → Bool) : isL f 0 0 (-4) := Or.inr ⟨fun q _ h => absurd h (Nat.not_lt_zero q), rfl⟩
theorem isL_n (f : Nat → Bool) (n : Nat) : isL f n n (-4) := Or.inr ⟨fun q h1 h => by omega, rfl⟩
def ne6 (k : Nat) : Nat → Bool := fun j => !(j == k)
theorem bits_x (k : Nat) (hk : k < 6) : ∀ j, j < 6 → (((-1 : Int32) ^^^ ((1 : Int32) <<< (nI k &&& 31))) >>> (nI j &&& 31)) &&& 1 = if ne6 k j then 1 else 0 := by
  have a : ∀ k j : Fin 6, (((-1 : Int32) ^^^ ((1 : Int32) <<< (nI k.val &&& 31))) >>> (nI j.val &&& 31)) &&& 1 = if ne6 k.val j.val then 1 else 0 := by decide +kernel
  exact fun j hj => a ⟨k, hk⟩ ⟨j, hj⟩
theorem bits_y (k : Nat) (hk : k < 6) : ∀ j, j < 6 → (((63 : Int32) &&& (((1 : Int32) <<< (nI k &&& 31)) ^^^ (-1))) >>> (nI j &&& 31)) &&& 1 = if ne6 k j then 1 else 0 := by
  have a : ∀ k j : Fin 6, (((63 : Int32) &&& (((1 : Int32) <<< (nI k.val &&& 31)) ^^^ (-1))) >>> (nI j.val &&& 31)) &&& 1 = if ne6 k.val j.val then 1 else 0 := by decide +kernel
  exact fun j hj => a ⟨k, hk⟩ ⟨j, hj⟩
section CALLS4
variable {S S0 X : St} {T : TT} {m : Option TT × (Nat → Sh)}
end CALLS4
