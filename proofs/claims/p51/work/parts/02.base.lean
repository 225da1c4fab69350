/-! My own state of the two systems: a flat picture of all cells that live through the law, by their places behind a base B. -/
def tG : List Cond := lw_tbl.filter goodWord
theorem tG_in {w : Cond} (h : w ∈ lw_tbl) (g : goodWord w = true) : w ∈ tG := List.mem_filter.mpr ⟨h, g⟩
theorem tG_good {w : Cond} (h : w ∈ tG) : goodWord w = true := (List.mem_filter.mp h).2
theorem tG_tbl {w : Cond} (h : w ∈ tG) : w ∈ lw_tbl := (List.mem_filter.mp h).1
theorem tG_at {w : Cond} (i : Nat) (h : tables_1[i]? = some w) (g : goodWord w = true) : w ∈ tG := tG_in (List.mem_append_right _ (List.mem_of_getElem? h)) g
theorem tG_gi {ws : List Cond} (h : ∀ w ∈ ws, w ∈ tG) : GoodIn tG ws := fun w hw => ⟨h w hw, good_of_word (tG_good (h w hw))⟩
theorem tG_co {w : Cond} (h : w ∈ tG) : GoodIn tG (w :: tG) := tG_gi (fun v hv => (List.mem_cons.mp hv).elim (fun q => q ▸ h) (fun q => q))
/-- the state: ints by place and slot, longs, references (by places), PLAIN ones (kind, figure), the place of the next cell -/
abbrev St : Type := (Nat → Nat → Int32) × (Nat → Nat → Int64) × (Nat → Nat → Option Nat) × (Nat → Option (Nat × Int32)) × Nat
def gi (S : St) (k : Nat) : Nat → Int32 := S.1 k
def gl (S : St) (k : Nat) : Nat → Int64 := S.2.1 k
def gr (S : St) (k : Nat) : Nat → Option Nat := S.2.2.1 k
def gp (S : St) (k : Nat) : Option (Nat × Int32) := S.2.2.2.1 k
def tp (S : St) : Nat := S.2.2.2.2
def si (S : St) (k i : Nat) (v : Int32) : St := (fun a => if a = k then upd (S.1 k) i v else S.1 a, S.2)
def sl (S : St) (k i : Nat) (v : Int64) : St := (S.1, fun a => if a = k then vp_updL (S.2.1 k) i v else S.2.1 a, S.2.2)
def sr (S : St) (k i : Nat) (v : Option Nat) : St := (S.1, S.2.1, fun a => if a = k then va_up (S.2.2.1 k) i v else S.2.2.1 a, S.2.2.2)
def sp (S : St) (kd : Nat) (fg : Int32) : St := (S.1, S.2.1, S.2.2.1, fun a => if a = S.2.2.2.2 then some (kd, fg) else S.2.2.2.1 a, S.2.2.2.2 + 1)
theorem gi_si_s (S : St) (k i : Nat) (v : Int32) : gi (si S k i v) k = upd (gi S k) i v := if_pos rfl
theorem gi_si_n (S : St) {a k : Nat} (i : Nat) (v : Int32) (h : a ≠ k) : gi (si S k i v) a = gi S a := if_neg h
theorem gl_sl_s (S : St) (k i : Nat) (v : Int64) : gl (sl S k i v) k = vp_updL (gl S k) i v := if_pos rfl
theorem gl_sl_n (S : St) {a k : Nat} (i : Nat) (v : Int64) (h : a ≠ k) : gl (sl S k i v) a = gl S a := if_neg h
theorem gr_sr_s (S : St) (k i : Nat) (v : Option Nat) : gr (sr S k i v) k = va_up (gr S k) i v := if_pos rfl
theorem gr_sr_n (S : St) {a k : Nat} (i : Nat) (v : Option Nat) (h : a ≠ k) : gr (sr S k i v) a = gr S a := if_neg h
/-- an index within, a guard, a loop -/
def inb (i : Int32) (n : Nat) : Bool := !(decide (i < 0)) && decide (i.toNatClampNeg < n)
theorem inb_in {i : Int32} {n : Nat} (h : inb i n = true) : vp_in i n := by
  simp only [inb, Bool.and_eq_true, Bool.not_eq_true', decide_eq_false_iff_not, decide_eq_true_eq] at h
  rintro (q | q)
  · exact h.1 q
  · exact absurd h.2 (Nat.not_lt.mpr q)
theorem inb_lt {i : Int32} {n : Nat} (h : inb i n = true) : i.toNatClampNeg < n := by
  simp only [inb, Bool.and_eq_true, decide_eq_true_eq] at h
  exact h.2
def gd {α : Type} (b : Bool) (x : Option α) : Option α := match b with
  | true => x
  | false => none
theorem ob_gd {α β : Type} {b : Bool} {x : Option α} {F : α → Option β} {R : β} (h : (gd b x).bind F = some R) : b = true ∧ x.bind F = some R := by
  cases b
  · cases h
  · exact ⟨rfl, h⟩
theorem ob_bd {α β γ : Type} {x : Option α} {g : α → Option β} {F : β → Option γ} {R : γ} (h : (x.bind g).bind F = some R) : ∃ a, x = some a ∧ (g a).bind F = some R := by
  cases x with
  | none => cases h
  | some a => exact ⟨a, rfl, h⟩
theorem ob_t {α β : Type} {c : Prop} [Decidable c] {x y : Option α} {F : α → Option β} {R : β} (h : (if c then x else y).bind F = some R) (q : c) : x.bind F = some R := by rw [if_pos q] at h; exact h
theorem ob_f {α β : Type} {c : Prop} [Decidable c] {x y : Option α} {F : α → Option β} {R : β} (h : (if c then x else y).bind F = some R) (q : ¬ c) : y.bind F = some R := by rw [if_neg q] at h; exact h
/-- a loop of at most n rounds: each goes on (inl) or ends (inr) -/
def lp {α β : Type} : Nat → (α → Option (α ⊕ β)) → α → Option β
  | 0, _, _ => none
  | n + 1, body, x => (body x).bind fun o => match o with
    | .inl y => lp n body y
    | .inr b => some b
/-- what follows a round -/
def lpF {α β γ : Type} (n : Nat) (body : α → Option (α ⊕ β)) (F : β → Option γ) (o : α ⊕ β) : Option γ := match o with
  | .inl y => (lp n body y).bind F
  | .inr b => F b
theorem lp_s {α β γ : Type} {n : Nat} {body : α → Option (α ⊕ β)} {x : α} {F : β → Option γ} {R : γ} (h : (lp (n + 1) body x).bind F = some R) : (body x).bind (lpF n body F) = some R := by
  simp only [lp] at h
  cases hb : body x with
  | none => rw [hb] at h; cases h
  | some o =>
    rw [hb] at h
    cases o with
    | inl y => exact h
    | inr b => exact h
theorem lp_0 {α β γ : Type} {body : α → Option (α ⊕ β)} {x : α} {F : β → Option γ} {R : γ} (h : (lp 0 body x).bind F = some R) : False := by cases h
