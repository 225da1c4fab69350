/-! THE LAYOUT: which cell lies at which place behind the base B, out of the state. -/
abbrev LE : Type := (Nat → Int32) → (Nat → Int64) → (Nat → Option Nat) → Option (Nat × Int32) → Option va_E
def eI (ct : Nat → ClassId) (n : Nat) : LE := fun f _ _ _ => some (.inl (ct 0, n, .inl f))
def eJ (ct : Nat → ClassId) (n : Nat) : LE := fun _ g _ _ => some (.inl (ct 1, n, .inr (.inl g)))
def eZ (ct : Nat → ClassId) (n : Nat) : LE := fun f _ _ _ => some (.inl (ct 2, n, .inl f))
def eP (B : Nat) (ct : Nat → ClassId) (n : Nat) : LE := fun _ _ h _ => some (.inl (ct 3, n, .inr (.inr (.inr (.inr (fun j => (h j).map (B + ·)))))))
def eA (B : Nat) (ct : Nat → ClassId) (q n b st : Nat) : LE := fun _ _ _ _ => some (.inl (ct q, n, .inr (.inr (.inr (.inr (fun j => some (B + (b + st * j))))))))
/-- the class of a KIND -/
def ciK (kd : Nat) : Nat := match kd with
  | 0 => 7
  | 1 => 0
  | 2 => 4
  | 3 => 9
  | 4 => 5
  | 5 => 6
  | 6 => 1
  | _ => 3
def ePl : LE := fun _ _ _ q => q.map (fun z => .inr (ciK z.1, [.int (nI z.1), .int z.2]))
def eT (B t : Nat) : LE := fun f _ _ _ => some (.inr (10, [.int (f 0), .ref (B + (t + 1)), .ref (B + (t + 3)), .ref (B + (t + 4)), .ref (B + (t + 5)), .ref (B + (t + 6)), .int (f 6), .ref (B + (t + 7)), .ref (B + (t + 8)), .ref (B + (t + 9)), .ref (B + (t + 10)), .int (f 11), .ref (B + (t + 11)), .ref (B + (t + 12)), .ref (B + (t + 13)), .ref (B + (t + 14)), .ref (B + (t + 15)), .ref (B + (t + 16)), .ref (B + (t + 17))]))
def eRow (B w : Nat) : LE := fun f _ _ _ => some (.inr (8, [.int (f 0), .int (f 1), .ref (B + (w + 1))]))
def eX (B : Nat) : LE := fun f _ _ _ => some (.inr (11, [.ref (B + 1), .ref (B + 19), .ref (B + 37), .int (f 3), .ref (B + 55), .ref (B + 66), .ref (B + 67), .ref (B + 68), .ref (B + 86), .ref (B + 128), .ref (B + 132)]))
def eD (B : Nat) : LE := fun f _ h _ => some (.inr (2, [va_rf ((h 0).map (B + ·)), .int (f 1), .ref (B + 56), .ref (B + 57), .ref (B + 58), .ref (B + 59), .ref (B + 60), .ref (B + 61), .ref (B + 62), .ref (B + 63), .ref (B + 64), .ref (B + 65)]))
def eN : LE := fun _ _ _ _ => none
def eQ (B : Nat) (ct : Nat → ClassId) (n : Nat) : LE := fun _ _ h _ => some (.inl (ct 5, n, .inr (.inr (.inr (.inr (fun j => (h j).map (B + ·)))))))
/-- a later cell: a PLAIN one, or a row of ints (its length: reference 0) -/
def eDy (ct : Nat → ClassId) : LE := fun f _ h q => match q with
  | some z => some (.inr (ciK z.1, [.int (nI z.1), .int z.2]))
  | none => (h 0).map (fun n => .inl (ct 0, n, .inl f))
def layT (B : Nat) (ct : Nat → ClassId) : List LE := [eX B, eT B 1, eP B ct 8, ePl, eI ct 8, eI ct 8, eI ct 8, eI ct 8, eI ct 6, eI ct 6, eI ct 6, eI ct 6, eI ct 3, eI ct 3, eI ct 3, eI ct 3, eI ct 3, eI ct 4, eI ct 3, eT B 19, eP B ct 8, ePl, eI ct 8, eI ct 8, eI ct 8, eI ct 8, eI ct 6, eI ct 6, eI ct 6, eI ct 6, eI ct 3, eI ct 3, eI ct 3, eI ct 3, eI ct 3, eI ct 4, eI ct 3, eT B 37, eP B ct 8, ePl, eI ct 8, eI ct 8, eI ct 8, eI ct 8, eI ct 6, eI ct 6, eI ct 6, eI ct 6, eI ct 3, eI ct 3, eI ct 3, eI ct 3, eI ct 3, eI ct 4, eI ct 3, eD B, eI ct 8, eI ct 8, eI ct 8, eI ct 8, eI ct 8, eI ct 11, eI ct 11, eI ct 11, eI ct 11, eI ct 11, eI ct 8, eP B ct 8, eA B ct 4 8 70 2, ePl, eRow B 70, eI ct 100, eRow B 72, eI ct 100, eRow B 74, eI ct 100, eRow B 76, eI ct 100, eRow B 78, eI ct 100, eRow B 80, eI ct 100, eRow B 82, eI ct 100, eRow B 84, eI ct 100, eA B ct 5 41 87 1, eI ct 8, eI ct 8, eI ct 8, eI ct 8, eI ct 8, eI ct 8, eI ct 8, eI ct 8, eI ct 8, eI ct 8, eI ct 8, eI ct 8, eI ct 8, eI ct 8, eI ct 8, eI ct 8, eI ct 8, eI ct 8, eI ct 8, eI ct 8, eI ct 8, eI ct 8, eI ct 8, eI ct 8, eI ct 8, eI ct 8, eI ct 8, eI ct 8, eI ct 8, eI ct 8, eI ct 8, eI ct 8, eI ct 8, eI ct 8, eI ct 8, eI ct 8, eI ct 8, eI ct 8, eI ct 8, eI ct 8, eI ct 8, eA B ct 5 3 129 1, eI ct 3, eI ct 3, eI ct 3, eA B ct 5 3 133 1, eI ct 3, eI ct 3, eI ct 3, eQ B ct 8, eI ct 6, eI ct 6, eI ct 6, eI ct 6, eI ct 6, eI ct 6, eI ct 6, eI ct 6, eQ B ct 6, eI ct 4, eI ct 4, eI ct 4, eI ct 4, eI ct 4, eI ct 4, eQ B ct 4, eI ct 5, eI ct 5, eI ct 5, eI ct 5, eA B ct 6 4 158 1, eZ ct 4, eZ ct 4, eZ ct 4, eZ ct 4, eN, eN, eN, eN, eN, eN, eN, eN, eN, eN, eN, eN, eN, eN, eN, eN, eN, eN, eN, eN, eN]
def lay (B : Nat) (ct : Nat → ClassId) (S : St) (k : Nat) : Option va_E := match (layT B ct)[k]? with
  | some F => F (gi S k) (gl S k) (gr S k) (gp S k)
  | none => eDy ct (gi S k) (gl S k) (gr S k) (gp S k)
theorem lay_local {B : Nat} {ct : Nat → ClassId} {S S' : St} {k : Nat} (h1 : gi S' k = gi S k) (h2 : gl S' k = gl S k) (h3 : gr S' k = gr S k) (h4 : gp S' k = gp S k) : lay B ct S' k = lay B ct S k := by
  unfold lay
  rw [h1, h2, h3, h4]
def isTown (t : Nat) : Prop := t = 1 ∨ t = 19 ∨ t = 37
def isTownB (t : Nat) : Bool := t == 1 || t == 19 || t == 37
theorem isTownB_ok {t : Nat} (h : isTownB t = true) : isTown t := by
  simp only [isTownB, Bool.or_eq_true, beq_iff_eq] at h
  rcases h with (h | h) | h
  · exact Or.inl h
  · exact Or.inr (Or.inl h)
  · exact Or.inr (Or.inr h)
def isRow (w : Nat) : Prop := ∃ j, j < 8 ∧ w = 70 + 2 * j
theorem isRow_of {i : Int32} (h : inb i 8 = true) : isRow (70 + 2 * i.toNatClampNeg) := ⟨_, inb_lt h, rfl⟩
/-- an inner row of the 3 times 3 tables: coinsOfFirst (128), coinsOfOther (132) -/
def isC3 (c : Nat) : Prop := c = 128 ∨ c = 132
section LAY
variable (B : Nat) (ct : Nat → ClassId) (S : St)
theorem lay_X11 : lay B ct S 0 = some (.inr (11, [.ref (B + 1), .ref (B + 19), .ref (B + 37), .int (gi S 0 3), .ref (B + 55), .ref (B + 66), .ref (B + 67), .ref (B + 68), .ref (B + 86), .ref (B + 128), .ref (B + 132)])) := rfl
theorem lay_X2 : lay B ct S 55 = some (.inr (2, [va_rf ((gr S 55 0).map (B + ·)), .int (gi S 55 1), .ref (B + 56), .ref (B + 57), .ref (B + 58), .ref (B + 59), .ref (B + 60), .ref (B + 61), .ref (B + 62), .ref (B + 63), .ref (B + 64), .ref (B + 65)])) := rfl
theorem lay_X10 {t : Nat} (h : isTown t) : lay B ct S t = some (.inr (10, [.int (gi S t 0), .ref (B + (t + 1)), .ref (B + (t + 3)), .ref (B + (t + 4)), .ref (B + (t + 5)), .ref (B + (t + 6)), .int (gi S t 6), .ref (B + (t + 7)), .ref (B + (t + 8)), .ref (B + (t + 9)), .ref (B + (t + 10)), .int (gi S t 11), .ref (B + (t + 11)), .ref (B + (t + 12)), .ref (B + (t + 13)), .ref (B + (t + 14)), .ref (B + (t + 15)), .ref (B + (t + 16)), .ref (B + (t + 17))])) := by rcases h with rfl | rfl | rfl <;> rfl
theorem lay_X8 {w : Nat} (h : isRow w) : lay B ct S w = some (.inr (8, [.int (gi S w 0), .int (gi S w 1), .ref (B + (w + 1))])) := by
  obtain ⟨j, hj, rfl⟩ := h
  rcases (show j = 0 ∨ j = 1 ∨ j = 2 ∨ j = 3 ∨ j = 4 ∨ j = 5 ∨ j = 6 ∨ j = 7 by omega) with rfl | rfl | rfl | rfl | rfl | rfl | rfl | rfl <;> rfl
theorem lay_w1 {w : Nat} (h : isRow w) : lay B ct S (w + 1) = some (.inl (ct 0, 100, .inl (gi S (w + 1)))) := by
  obtain ⟨j, hj, rfl⟩ := h
  rcases (show j = 0 ∨ j = 1 ∨ j = 2 ∨ j = 3 ∨ j = 4 ∨ j = 5 ∨ j = 6 ∨ j = 7 by omega) with rfl | rfl | rfl | rfl | rfl | rfl | rfl | rfl <;> rfl
theorem lay_t1 {t : Nat} (h : isTown t) : lay B ct S (t + 1) = some (.inl (ct 3, 8, .inr (.inr (.inr (.inr (fun j => (gr S (t + 1) j).map (B + ·))))))) := by rcases h with rfl | rfl | rfl <;> rfl
theorem lay_t3 {t : Nat} (h : isTown t) : lay B ct S (t + 3) = some (.inl (ct 0, 8, .inl (gi S (t + 3)))) := by rcases h with rfl | rfl | rfl <;> rfl
theorem lay_t4 {t : Nat} (h : isTown t) : lay B ct S (t + 4) = some (.inl (ct 0, 8, .inl (gi S (t + 4)))) := by rcases h with rfl | rfl | rfl <;> rfl
theorem lay_t5 {t : Nat} (h : isTown t) : lay B ct S (t + 5) = some (.inl (ct 0, 8, .inl (gi S (t + 5)))) := by rcases h with rfl | rfl | rfl <;> rfl
theorem lay_t6 {t : Nat} (h : isTown t) : lay B ct S (t + 6) = some (.inl (ct 0, 8, .inl (gi S (t + 6)))) := by rcases h with rfl | rfl | rfl <;> rfl
theorem lay_t7 {t : Nat} (h : isTown t) : lay B ct S (t + 7) = some (.inl (ct 0, 6, .inl (gi S (t + 7)))) := by rcases h with rfl | rfl | rfl <;> rfl
theorem lay_t8 {t : Nat} (h : isTown t) : lay B ct S (t + 8) = some (.inl (ct 0, 6, .inl (gi S (t + 8)))) := by rcases h with rfl | rfl | rfl <;> rfl
theorem lay_t9 {t : Nat} (h : isTown t) : lay B ct S (t + 9) = some (.inl (ct 0, 6, .inl (gi S (t + 9)))) := by rcases h with rfl | rfl | rfl <;> rfl
theorem lay_t10 {t : Nat} (h : isTown t) : lay B ct S (t + 10) = some (.inl (ct 0, 6, .inl (gi S (t + 10)))) := by rcases h with rfl | rfl | rfl <;> rfl
theorem lay_t11 {t : Nat} (h : isTown t) : lay B ct S (t + 11) = some (.inl (ct 0, 3, .inl (gi S (t + 11)))) := by rcases h with rfl | rfl | rfl <;> rfl
theorem lay_t12 {t : Nat} (h : isTown t) : lay B ct S (t + 12) = some (.inl (ct 0, 3, .inl (gi S (t + 12)))) := by rcases h with rfl | rfl | rfl <;> rfl
theorem lay_t13 {t : Nat} (h : isTown t) : lay B ct S (t + 13) = some (.inl (ct 0, 3, .inl (gi S (t + 13)))) := by rcases h with rfl | rfl | rfl <;> rfl
theorem lay_t14 {t : Nat} (h : isTown t) : lay B ct S (t + 14) = some (.inl (ct 0, 3, .inl (gi S (t + 14)))) := by rcases h with rfl | rfl | rfl <;> rfl
theorem lay_t15 {t : Nat} (h : isTown t) : lay B ct S (t + 15) = some (.inl (ct 0, 3, .inl (gi S (t + 15)))) := by rcases h with rfl | rfl | rfl <;> rfl
theorem lay_t16 {t : Nat} (h : isTown t) : lay B ct S (t + 16) = some (.inl (ct 0, 4, .inl (gi S (t + 16)))) := by rcases h with rfl | rfl | rfl <;> rfl
theorem lay_t17 {t : Nat} (h : isTown t) : lay B ct S (t + 17) = some (.inl (ct 0, 3, .inl (gi S (t + 17)))) := by rcases h with rfl | rfl | rfl <;> rfl
theorem lay_2 : lay B ct S 2 = some (.inl (ct 3, 8, .inr (.inr (.inr (.inr (fun j => (gr S 2 j).map (B + ·))))))) := rfl
theorem lay_4 : lay B ct S 4 = some (.inl (ct 0, 8, .inl (gi S 4))) := rfl
theorem lay_5 : lay B ct S 5 = some (.inl (ct 0, 8, .inl (gi S 5))) := rfl
theorem lay_6 : lay B ct S 6 = some (.inl (ct 0, 8, .inl (gi S 6))) := rfl
theorem lay_7 : lay B ct S 7 = some (.inl (ct 0, 8, .inl (gi S 7))) := rfl
theorem lay_8 : lay B ct S 8 = some (.inl (ct 0, 6, .inl (gi S 8))) := rfl
theorem lay_9 : lay B ct S 9 = some (.inl (ct 0, 6, .inl (gi S 9))) := rfl
theorem lay_10 : lay B ct S 10 = some (.inl (ct 0, 6, .inl (gi S 10))) := rfl
theorem lay_11 : lay B ct S 11 = some (.inl (ct 0, 6, .inl (gi S 11))) := rfl
theorem lay_12 : lay B ct S 12 = some (.inl (ct 0, 3, .inl (gi S 12))) := rfl
theorem lay_13 : lay B ct S 13 = some (.inl (ct 0, 3, .inl (gi S 13))) := rfl
theorem lay_14 : lay B ct S 14 = some (.inl (ct 0, 3, .inl (gi S 14))) := rfl
theorem lay_15 : lay B ct S 15 = some (.inl (ct 0, 3, .inl (gi S 15))) := rfl
theorem lay_16 : lay B ct S 16 = some (.inl (ct 0, 3, .inl (gi S 16))) := rfl
theorem lay_17 : lay B ct S 17 = some (.inl (ct 0, 4, .inl (gi S 17))) := rfl
theorem lay_18 : lay B ct S 18 = some (.inl (ct 0, 3, .inl (gi S 18))) := rfl
theorem lay_20 : lay B ct S 20 = some (.inl (ct 3, 8, .inr (.inr (.inr (.inr (fun j => (gr S 20 j).map (B + ·))))))) := rfl
theorem lay_22 : lay B ct S 22 = some (.inl (ct 0, 8, .inl (gi S 22))) := rfl
theorem lay_23 : lay B ct S 23 = some (.inl (ct 0, 8, .inl (gi S 23))) := rfl
theorem lay_24 : lay B ct S 24 = some (.inl (ct 0, 8, .inl (gi S 24))) := rfl
theorem lay_25 : lay B ct S 25 = some (.inl (ct 0, 8, .inl (gi S 25))) := rfl
theorem lay_26 : lay B ct S 26 = some (.inl (ct 0, 6, .inl (gi S 26))) := rfl
theorem lay_27 : lay B ct S 27 = some (.inl (ct 0, 6, .inl (gi S 27))) := rfl
theorem lay_28 : lay B ct S 28 = some (.inl (ct 0, 6, .inl (gi S 28))) := rfl
theorem lay_29 : lay B ct S 29 = some (.inl (ct 0, 6, .inl (gi S 29))) := rfl
theorem lay_30 : lay B ct S 30 = some (.inl (ct 0, 3, .inl (gi S 30))) := rfl
theorem lay_31 : lay B ct S 31 = some (.inl (ct 0, 3, .inl (gi S 31))) := rfl
theorem lay_32 : lay B ct S 32 = some (.inl (ct 0, 3, .inl (gi S 32))) := rfl
theorem lay_33 : lay B ct S 33 = some (.inl (ct 0, 3, .inl (gi S 33))) := rfl
theorem lay_34 : lay B ct S 34 = some (.inl (ct 0, 3, .inl (gi S 34))) := rfl
theorem lay_35 : lay B ct S 35 = some (.inl (ct 0, 4, .inl (gi S 35))) := rfl
theorem lay_36 : lay B ct S 36 = some (.inl (ct 0, 3, .inl (gi S 36))) := rfl
theorem lay_38 : lay B ct S 38 = some (.inl (ct 3, 8, .inr (.inr (.inr (.inr (fun j => (gr S 38 j).map (B + ·))))))) := rfl
theorem lay_40 : lay B ct S 40 = some (.inl (ct 0, 8, .inl (gi S 40))) := rfl
theorem lay_41 : lay B ct S 41 = some (.inl (ct 0, 8, .inl (gi S 41))) := rfl
theorem lay_42 : lay B ct S 42 = some (.inl (ct 0, 8, .inl (gi S 42))) := rfl
theorem lay_43 : lay B ct S 43 = some (.inl (ct 0, 8, .inl (gi S 43))) := rfl
theorem lay_44 : lay B ct S 44 = some (.inl (ct 0, 6, .inl (gi S 44))) := rfl
theorem lay_45 : lay B ct S 45 = some (.inl (ct 0, 6, .inl (gi S 45))) := rfl
theorem lay_46 : lay B ct S 46 = some (.inl (ct 0, 6, .inl (gi S 46))) := rfl
theorem lay_47 : lay B ct S 47 = some (.inl (ct 0, 6, .inl (gi S 47))) := rfl
theorem lay_48 : lay B ct S 48 = some (.inl (ct 0, 3, .inl (gi S 48))) := rfl
theorem lay_49 : lay B ct S 49 = some (.inl (ct 0, 3, .inl (gi S 49))) := rfl
theorem lay_50 : lay B ct S 50 = some (.inl (ct 0, 3, .inl (gi S 50))) := rfl
theorem lay_51 : lay B ct S 51 = some (.inl (ct 0, 3, .inl (gi S 51))) := rfl
theorem lay_52 : lay B ct S 52 = some (.inl (ct 0, 3, .inl (gi S 52))) := rfl
theorem lay_53 : lay B ct S 53 = some (.inl (ct 0, 4, .inl (gi S 53))) := rfl
theorem lay_54 : lay B ct S 54 = some (.inl (ct 0, 3, .inl (gi S 54))) := rfl
theorem lay_56 : lay B ct S 56 = some (.inl (ct 0, 8, .inl (gi S 56))) := rfl
theorem lay_57 : lay B ct S 57 = some (.inl (ct 0, 8, .inl (gi S 57))) := rfl
theorem lay_58 : lay B ct S 58 = some (.inl (ct 0, 8, .inl (gi S 58))) := rfl
theorem lay_59 : lay B ct S 59 = some (.inl (ct 0, 8, .inl (gi S 59))) := rfl
theorem lay_60 : lay B ct S 60 = some (.inl (ct 0, 8, .inl (gi S 60))) := rfl
theorem lay_61 : lay B ct S 61 = some (.inl (ct 0, 11, .inl (gi S 61))) := rfl
theorem lay_62 : lay B ct S 62 = some (.inl (ct 0, 11, .inl (gi S 62))) := rfl
theorem lay_63 : lay B ct S 63 = some (.inl (ct 0, 11, .inl (gi S 63))) := rfl
theorem lay_64 : lay B ct S 64 = some (.inl (ct 0, 11, .inl (gi S 64))) := rfl
theorem lay_65 : lay B ct S 65 = some (.inl (ct 0, 11, .inl (gi S 65))) := rfl
theorem lay_66 : lay B ct S 66 = some (.inl (ct 0, 8, .inl (gi S 66))) := rfl
theorem lay_67 : lay B ct S 67 = some (.inl (ct 3, 8, .inr (.inr (.inr (.inr (fun j => (gr S 67 j).map (B + ·))))))) := rfl
theorem lay_129 : lay B ct S 129 = some (.inl (ct 0, 3, .inl (gi S 129))) := rfl
theorem lay_130 : lay B ct S 130 = some (.inl (ct 0, 3, .inl (gi S 130))) := rfl
theorem lay_131 : lay B ct S 131 = some (.inl (ct 0, 3, .inl (gi S 131))) := rfl
theorem lay_133 : lay B ct S 133 = some (.inl (ct 0, 3, .inl (gi S 133))) := rfl
theorem lay_134 : lay B ct S 134 = some (.inl (ct 0, 3, .inl (gi S 134))) := rfl
theorem lay_135 : lay B ct S 135 = some (.inl (ct 0, 3, .inl (gi S 135))) := rfl
theorem lay_137 : lay B ct S 137 = some (.inl (ct 0, 6, .inl (gi S 137))) := rfl
theorem lay_138 : lay B ct S 138 = some (.inl (ct 0, 6, .inl (gi S 138))) := rfl
theorem lay_139 : lay B ct S 139 = some (.inl (ct 0, 6, .inl (gi S 139))) := rfl
theorem lay_140 : lay B ct S 140 = some (.inl (ct 0, 6, .inl (gi S 140))) := rfl
theorem lay_141 : lay B ct S 141 = some (.inl (ct 0, 6, .inl (gi S 141))) := rfl
theorem lay_142 : lay B ct S 142 = some (.inl (ct 0, 6, .inl (gi S 142))) := rfl
theorem lay_143 : lay B ct S 143 = some (.inl (ct 0, 6, .inl (gi S 143))) := rfl
theorem lay_144 : lay B ct S 144 = some (.inl (ct 0, 6, .inl (gi S 144))) := rfl
theorem lay_146 : lay B ct S 146 = some (.inl (ct 0, 4, .inl (gi S 146))) := rfl
theorem lay_147 : lay B ct S 147 = some (.inl (ct 0, 4, .inl (gi S 147))) := rfl
theorem lay_148 : lay B ct S 148 = some (.inl (ct 0, 4, .inl (gi S 148))) := rfl
theorem lay_149 : lay B ct S 149 = some (.inl (ct 0, 4, .inl (gi S 149))) := rfl
theorem lay_150 : lay B ct S 150 = some (.inl (ct 0, 4, .inl (gi S 150))) := rfl
theorem lay_151 : lay B ct S 151 = some (.inl (ct 0, 4, .inl (gi S 151))) := rfl
theorem lay_153 : lay B ct S 153 = some (.inl (ct 0, 5, .inl (gi S 153))) := rfl
theorem lay_154 : lay B ct S 154 = some (.inl (ct 0, 5, .inl (gi S 154))) := rfl
theorem lay_155 : lay B ct S 155 = some (.inl (ct 0, 5, .inl (gi S 155))) := rfl
theorem lay_156 : lay B ct S 156 = some (.inl (ct 0, 5, .inl (gi S 156))) := rfl
theorem lay_158 : lay B ct S 158 = some (.inl (ct 2, 4, .inl (gi S 158))) := rfl
theorem lay_159 : lay B ct S 159 = some (.inl (ct 2, 4, .inl (gi S 159))) := rfl
theorem lay_160 : lay B ct S 160 = some (.inl (ct 2, 4, .inl (gi S 160))) := rfl
theorem lay_161 : lay B ct S 161 = some (.inl (ct 2, 4, .inl (gi S 161))) := rfl
theorem lay_68 : lay B ct S 68 = some (.inl (ct 4, 8, .inr (.inr (.inr (.inr (fun j => some (B + (70 + 2 * j)))))))) := rfl
theorem lay_86 : lay B ct S 86 = some (.inl (ct 5, 41, .inr (.inr (.inr (.inr (fun j => some (B + (87 + 1 * j)))))))) := rfl
theorem lay_128 : lay B ct S 128 = some (.inl (ct 5, 3, .inr (.inr (.inr (.inr (fun j => some (B + (129 + 1 * j)))))))) := rfl
theorem lay_132 : lay B ct S 132 = some (.inl (ct 5, 3, .inr (.inr (.inr (.inr (fun j => some (B + (133 + 1 * j)))))))) := rfl
theorem lay_beg {j : Nat} (hj : j < 41) : lay B ct S (87 + 1 * j) = some (.inl (ct 0, 8, .inl (gi S (87 + 1 * j)))) := by
  rcases (show j = 0 ∨ j = 1 ∨ j = 2 ∨ j = 3 ∨ j = 4 ∨ j = 5 ∨ j = 6 ∨ j = 7 ∨ j = 8 ∨ j = 9 ∨ j = 10 ∨ j = 11 ∨ j = 12 ∨ j = 13 ∨ j = 14 ∨ j = 15 ∨ j = 16 ∨ j = 17 ∨ j = 18 ∨ j = 19 ∨ j = 20 ∨ j = 21 ∨ j = 22 ∨ j = 23 ∨ j = 24 ∨ j = 25 ∨ j = 26 ∨ j = 27 ∨ j = 28 ∨ j = 29 ∨ j = 30 ∨ j = 31 ∨ j = 32 ∨ j = 33 ∨ j = 34 ∨ j = 35 ∨ j = 36 ∨ j = 37 ∨ j = 38 ∨ j = 39 ∨ j = 40 by omega) with rfl | rfl | rfl | rfl | rfl | rfl | rfl | rfl | rfl | rfl | rfl | rfl | rfl | rfl | rfl | rfl | rfl | rfl | rfl | rfl | rfl | rfl | rfl | rfl | rfl | rfl | rfl | rfl | rfl | rfl | rfl | rfl | rfl | rfl | rfl | rfl | rfl | rfl | rfl | rfl | rfl <;> rfl
theorem lay_c3 {c : Nat} (h : isC3 c) : lay B ct S c = some (.inl (ct 5, 3, .inr (.inr (.inr (.inr (fun j => some (B + ((c + 1) + 1 * j)))))))) := by rcases h with rfl | rfl <;> rfl
theorem lay_c3i {c j : Nat} (h : isC3 c) (hj : j < 3) : lay B ct S ((c + 1) + 1 * j) = some (.inl (ct 0, 3, .inl (gi S ((c + 1) + 1 * j)))) := by
  rcases h with rfl | rfl <;> rcases (show j = 0 ∨ j = 1 ∨ j = 2 by omega) with rfl | rfl | rfl <;> rfl
theorem lay_136 : lay B ct S 136 = some (.inl (ct 5, 8, .inr (.inr (.inr (.inr (fun j => (gr S 136 j).map (B + ·))))))) := rfl
theorem lay_145 : lay B ct S 145 = some (.inl (ct 5, 6, .inr (.inr (.inr (.inr (fun j => (gr S 145 j).map (B + ·))))))) := rfl
theorem lay_152 : lay B ct S 152 = some (.inl (ct 5, 4, .inr (.inr (.inr (.inr (fun j => (gr S 152 j).map (B + ·))))))) := rfl
theorem lay_157 : lay B ct S 157 = some (.inl (ct 6, 4, .inr (.inr (.inr (.inr (fun j => some (B + (158 + 1 * j)))))))) := rfl
theorem lay_kin {j : Nat} (hj : j < 4) : lay B ct S (158 + 1 * j) = some (.inl (ct 2, 4, .inl (gi S (158 + 1 * j)))) := by
  rcases (show j = 0 ∨ j = 1 ∨ j = 2 ∨ j = 3 by omega) with rfl | rfl | rfl | rfl <;> rfl
end LAY
