/-! THE LAW'S ROWS: its own object lies just below the class's cells, at P0; its ints are the picture's row 136; its rows of ints are later cells. -/
def dyl (S : St) (k : Nat) : Option Nat := if 183 ≤ k then (match gp S k with
  | some _ => none
  | none => gr S k 0) else none
theorem dyl_183 {S : St} {k n : Nat} (h : dyl S k = some n) : 183 ≤ k := by
  unfold dyl at h
  split at h
  · assumption
  · cases h
theorem lay_dy (B : Nat) (ct : Nat → ClassId) {S : St} {k n : Nat} (h : dyl S k = some n) : lay B ct S k = some (.inl (ct 0, n, .inl (gi S k))) := by
  have h0 := dyl_183 h
  unfold dyl at h
  rw [if_pos h0] at h
  unfold lay
  rw [List.getElem?_eq_none (show (layT B ct).length ≤ k from h0)]
  cases hp : gp S k with
  | some z => rw [hp] at h; cases h
  | none =>
    rw [hp] at h
    have h : gr S k 0 = some n := h
    show (gr S k 0).map _ = _
    rw [h]
    rfl
/-- a new row of n ints -/
def san (S : St) (n : Nat) : St := (fun a => if a = S.2.2.2.2 then (fun _ => 0) else S.1 a, S.2.1, fun a => if a = S.2.2.2.2 then (fun j => if j = 0 then some n else none) else S.2.2.1 a, fun a => if a = S.2.2.2.2 then none else S.2.2.2.1 a, S.2.2.2.2 + 1)
theorem dyl_san (S : St) (n : Nat) (h : 183 ≤ tp S) : dyl (san S n) (tp S) = some n := by
  unfold dyl
  rw [if_pos h]
  have e1 : gp (san S n) (tp S) = none := if_pos rfl
  have e2 : gr (san S n) (tp S) = (fun j => if j = 0 then some n else none) := if_pos rfl
  rw [e1, e2]
  rfl
def fsL (P0 : Nat) (S : St) : List Value := [.ref (P0 + 1), .int (gi S 136 1), .ref (P0 + 1 + 136), .int (gi S 136 3), .ref (P0 + 1 + 145), .int (gi S 136 5), .ref (P0 + 1 + 152), .ref (P0 + 1 + 157), .int (gi S 136 8), .int (gi S 136 9), .int (gi S 136 10), .int (gi S 136 11), .int (gi S 136 12), .null, .null, .null, .null, .null, .null, .null, .null, .null, .null, .ref (P0 + 1 + 162)]
theorem fsL_of {P0 : Nat} {S S' : St} (h : gi S' 136 = gi S 136) : fsL P0 S' = fsL P0 S := by unfold fsL; rw [h]
/-- the law's own numbers are as they were -/
def lq (S S' : St) : Bool := gi S' 136 1 == gi S 136 1 && gi S' 136 3 == gi S 136 3 && gi S' 136 5 == gi S 136 5 && gi S' 136 8 == gi S 136 8 && gi S' 136 9 == gi S 136 9 && gi S' 136 10 == gi S 136 10 && gi S' 136 11 == gi S 136 11 && gi S' 136 12 == gi S 136 12
theorem fsL_lq {P0 : Nat} {S S' : St} (h : lq S S' = true) : fsL P0 S' = fsL P0 S := by
  simp only [lq, Bool.and_eq_true, beq_iff_eq] at h
  obtain ⟨⟨⟨⟨⟨⟨⟨h1, h2⟩, h3⟩, h4⟩, h5⟩, h6⟩, h7⟩, h8⟩ := h
  unfold fsL
  rw [h1, h2, h3, h4, h5, h6, h7, h8]
theorem lq_of {S S' : St} (h : gi S' 136 = gi S 136) : lq S S' = true := by
  unfold lq
  rw [h]
  simp
def ML (D : va_G) (ct : Nat → ClassId) (P0 : Nat) (Hb : Heap) (S : St) (H : Heap) : Prop := MP D ct (P0 + 1) H S H ∧ (∀ q : Nat, q < P0 → H[q]? = Hb[q]?) ∧ va_at D vwCl (P0, .inr (12, fsL P0 S)) H
def MLP (D : va_G) (ct : Nat → ClassId) (P0 : Nat) (Hb : Heap) (S : St) (U : State) : Prop := ML D ct P0 Hb S U.heap ∧ va_K D vwCl (tY ct) U ∧ NWs U
/-- the script, and the texts -/
def XS (xb xL : Nat) (xs : Nat → Int32) (adK adV : Nat → Nat) (P0 : Nat) (U : State) : Prop := va_X xb xL xs U U.heap ∧ xb < P0 ∧ SK adK adV P0 U
abbrev MLK (D : va_G) (ct : Nat → ClassId) (P0 : Nat) (Hb : Heap) (xb xL : Nat) (xs : Nat → Int32) (adK adV : Nat → Nat) (S : St) (U : State) : Prop := MLP D ct P0 Hb S U ∧ XS xb xL xs adK adV P0 U
theorem MP_self {D : va_G} {ct : Nat → ClassId} {B : Nat} {Hb : Heap} {S : St} {H : Heap} (h : MP D ct B Hb S H) : MP D ct B H S H := ⟨h.1, fun _ _ => rfl, h.2.2⟩
theorem ML_up {D : va_G} {ct : Nat → ClassId} {P0 : Nat} {Hb : Heap} {S S' : St} {H H1 : Heap} (hP : ML D ct P0 Hb S H) (h1 : MP D ct (P0 + 1) H S' H1) (hf : fsL P0 S' = fsL P0 S) : ML D ct P0 Hb S' H1 :=
  ⟨MP_self h1, fun q hq => (h1.2.1 q (Nat.lt_succ_of_lt hq)).trans (hP.2.1 q hq), by rw [hf]; exact hP.2.2.kept (h1.2.1 P0 (Nat.lt_succ_self P0))⟩
theorem AB_up {P0 : Nat} : ∀ q, AB (P0 + 1) q → AB P0 q := fun q h => Nat.le_of_succ_le (show P0 + 1 ≤ q from h)
theorem XS.at {xb xL : Nat} {xs : Nat → Int32} {adK adV : Nat → Nat} {P0 : Nat} {s U : State} {H : Heap} {locs : List Loc} (h : XS xb xL xs adK adV P0 s) (hS : va_S (AB P0) s.heap H locs) (hU : U.heap = H) (hW : s.WarmedH U.vm) : XS xb xL xs adK adV P0 U := by
  refine ⟨?_, h.2.1, h.2.2.at hS hU hW⟩
  subst hU
  have hlt : xb < s.heap.size := by
    obtain ⟨scr, h1, -⟩ := h.1
    exact (Array.getElem?_eq_some_iff.mp h1).1
  exact (va_X.moved hW.alike h.1).kept (hS.2.1 xb hlt (Nat.not_le.mpr h.2.1))
theorem XS.lt {xb xL : Nat} {xs : Nat → Int32} {adK adV : Nat → Nat} {P0 : Nat} {s : State} (h : XS xb xL xs adK adV P0 s) : xb < s.heap.size := by
  obtain ⟨scr, h1, -⟩ := h.1
  exact (Array.getElem?_eq_some_iff.mp h1).1
theorem XS.call {xb xL : Nat} {xs : Nat → Int32} {adK adV : Nat → Nat} {P0 : Nat} {U : State} (g : JFrame) (mk : MethodId) (a : Array Value) (h : XS xb xL xs adK adV P0 U) : XS xb xL xs adK adV P0 (U.calling g mk a) :=
  ⟨va_X.moved (u := U) (U := U.calling g mk a) (Vm.Alike.refl U.vm) h.1, h.2.1, h.2.2.call g mk a⟩
/-- what the class's own calls want of the texts -/
theorem SK_up {adK adV : Nat → Nat} {P0 : Nat} {U : State} (h : SK adK adV P0 U) : SK adK adV (P0 + 1) U := ⟨vk_S.narrow h.1 AB_up, va_Z.narrow h.2.1 AB_up, va_Zq.narrow h.2.2.1 AB_up, h.2.2.2⟩
section XL
variable {p : Program} {l : Launch} {e : Env} {R : Room} {s : State} {m : MethodId} {args : Array Value} {below : List Frame} {meth : Method} {c : Code} {H : Heap} {locs : List Loc} {cells slots : Nat} {Q : State → Prop}
variable {cc : ByteArray} {pc nL : Nat} {ret : Option FieldType} {own : String} {ls : Array Slot} {rest : List Value} {D : va_G} {ct : Nat → ClassId} {P0 : Nat} {Hb : Heap} {S : St} {H0 : Heap} {xb xL : Nat} {xs : Nat → Int32} {adK adV : Nat → Nat}
theorem xl_slen (C0 : XC D ct p s m args meth c cc nL ret own) (hE : XS xb xL xs adK adV P0 s) (hS : va_S (AB P0) s.heap H locs) (hdg : decode cc pc = .ok (.arraylength, 1))
    (kk : W p l e R s m args below meth c H locs cells slots Q (F0 m (pc + 1) ls (.int (Int32.ofNat xL) :: rest))) : W p l e R s m args below meth c H locs cells slots Q (F0 m pc ls (.ref xb :: rest)) := by
  obtain ⟨hx, hb, hr, hml, hown, hts, hK, hlocks, hN⟩ := C0
  exact va_slen hx hb hE.1 hE.lt (Nat.not_le.mpr hE.2.1) hS hdg kk
theorem xl_sld (C0 : XC D ct p s m args meth c cc nL ret own) (hE : XS xb xL xs adK adV P0 s) (hS : va_S (AB P0) s.heap H locs) {i : Int32} (hin : inb i xL = true) (hdg : decode cc pc = .ok (.iaload, 1))
    (kk : W p l e R s m args below meth c H locs cells slots Q (F0 m (pc + 1) ls (.int (xs i.toNatClampNeg) :: rest))) : W p l e R s m args below meth c H locs cells slots Q (F0 m pc ls (.int i :: .ref xb :: rest)) := by
  obtain ⟨hx, hb, hr, hml, hown, hts, hK, hlocks, hN⟩ := C0
  exact va_sld hx hb hE.1 hE.lt (Nat.not_le.mpr hE.2.1) hS (inb_in hin) hdg kk
theorem xl_get (C0 : XC D ct p s m args meth c cc nL ret own) (hP : ML D ct P0 Hb S H) (j : Nat) (hj : j < 24) {index : Nat} (hlink : Cond.fieldLink own index "ThoughtBetterOfLaw" (TL j).2.1 (TL j).2.2.1 ∈ tG) (hT : (TL j).1 = "ThoughtBetterOfLaw") {v : Value} (hv : (fsL P0 S)[j]? = some v) (hdg : decode cc pc = .ok (.getfield index, 3))
    (kk : W p l e R s m args below meth c H locs cells slots Q (F0 m (pc + 3) ls (v :: rest))) : W p l e R s m args below meth c H locs cells slots Q (F0 m pc ls (.ref P0 :: rest)) := by
  obtain ⟨hx, hb, hr, hml, hown, hts, hK, hlocks, hN⟩ := C0
  exact va_get (ws := [(P0, .inr (12, fsL P0 S))]) (T := TL) (C := RL) (ref := "ThoughtBetterOfLaw") hx hb hts inGL hown hK (fun j q hq => by
    cases j with
    | zero => cases hq; exact hP.2.2
    | succ j => cases hq) 0 rfl rfl j hj (hts _ hlink) (fun x h => by rw [hT] at h; exact h) hv hdg kk
theorem xl_put (C0 : XC D ct p s m args meth c cc nL ret own) (hP : ML D ct P0 Hb S H) (hS0 : va_S (AB P0) H0 H locs) (j : Nat) (hj : j < 24) {index : Nat} (hlink : Cond.fieldLink own index (TL j).1 (TL j).2.1 (TL j).2.2.1 ∈ tG) (hfin : (TL j).2.2.2 = false) {x : Int32} (hset : fsL P0 (si S 136 j x) = (fsL P0 S).set j (.int x)) (hty : tyL j = .int)
    (hdg : decode cc pc = .ok (.putfield index, 3)) (kk : ∀ (H1 : Heap) (locs1 : List Loc), ML D ct P0 Hb (si S 136 j x) H1 → va_S (AB P0) H0 H1 locs1 → W p l e R s m args below meth c H1 locs1 cells slots Q (F0 m (pc + 3) ls rest)) : W p l e R s m args below meth c H locs cells slots Q (F0 m pc ls (.int x :: .ref P0 :: rest)) := by
  obtain ⟨hx, hb, hr, hml, hown, hts, hK, hlocks, hN⟩ := C0
  have hc : vwCl[12]? = some (RL, TL, 24) := rfl
  have hap := va_apart (own := own) hts inGL tyL tyL_ok nmL hK hc
  obtain ⟨r, h1, cell, q1, q2, q3, q4⟩ := hP.2.2
  have hr : r = (RL, TL, 24) := Option.some.inj (h1.symm.trans hc)
  subst hr
  obtain ⟨hS, hfc, kC, hkC, hkind⟩ := hK.1 12 _ hc
  obtain ⟨cf, kf, fi, f, hi, hsl⟩ := hS j hj
  have hlay := hts _ (inGL _ (u_in_lay hj))
  unfold u_lay at hlay
  rw [if_neg (by rw [hfin]; decide)] at hlay
  have hst := (u_facts hfc hkC (u_lays hts inGL hj) hi).1
  have h6 := u_store (v := .int x) hfc hkC hkind hlay hi (tyL_ok j hj) (by rw [hty]; rfl) (by rw [hty]; rfl)
  have hlen : j < (fsL P0 S).length := hj
  refine W.putK hx hb (f := f) ⟨hown, hts _ hlink, ⟨_, _, _, hi⟩, hst⟩ (by rw [q2]; exact h6) q1 q3 (by rw [hsl]; exact k2_hasslot (q4 j hj)) rfl rfl hdg fun H' e1 e2 e3 => ?_
  rw [hsl] at e1 ⊢
  refine kk H' _ ⟨⟨e2.trans hP.1.1, fun _ _ => rfl, fun k e' he' => ?_⟩, fun q hq => (e3 q (Nat.ne_of_lt hq)).trans (hP.2.1 q hq), ?_⟩ (hS0.put e2 e3 (Nat.le_refl P0))
  · have hl : lay (P0 + 1) ct (si S 136 j x) k = lay (P0 + 1) ct S k := by
      by_cases h : k = 136
      · subst h; rfl
      · exact lay_local (gi_si_n S _ x h) rfl rfl rfl
    rw [hl] at he'
    exact (hP.1.2.2 k e' he').kept (e3 _ (by show ¬ P0 + 1 + k = P0; omega))
  · rw [hset]
    exact ⟨_, hc, t_OB.to (V := updV (vp_V (fsL P0 S)) j (.int x)) ⟨_, e1, q2, q3, t_set q4 hap hj (.int x)⟩ (fun i _ => vp_updV_set hlen (.int x) i)⟩
/-- a row of ints among the later cells: an element -/
theorem xl_iast (C0 : XC D ct p s m args meth c cc nL ret own) (hP : ML D ct P0 Hb S H) (hS : va_S (AB P0) H0 H locs) {k n : Nat} (hd : dyl S k = some n) {i x : Int32} (hin : inb i n = true) (hdg : decode cc pc = .ok (.iastore, 1))
    (kk : ∀ (H1 : Heap) (locs1 : List Loc), ML D ct P0 Hb (si S k i.toNatClampNeg x) H1 → va_S (AB P0) H0 H1 locs1 → W p l e R s m args below meth c H1 locs1 cells slots Q (F0 m (pc + 1) ls rest)) : W p l e R s m args below meth c H locs cells slots Q (F0 m pc ls (.int x :: .int i :: .ref (P0 + 1 + k) :: rest)) := by
  obtain ⟨hx, hb, hr, hml, hown, hts, hK, hlocks, hN⟩ := C0
  have h183 := dyl_183 hd
  refine W.iast hx hb (hP.1.2.2 k _ (lay_dy (P0 + 1) ct hd)) ((hK.2 0 _ rfl).1 n (fun j => .int (gi S k j))) (fun q => by cases q) (by show ¬ (i < 0 ∨ (arrV _ _ _).slots.size ≤ _); rw [arrV_size]; exact inb_in hin) rfl rfl hdg fun H1 e z oq => ?_
  refine kk H1 _ (ML_up hP (MP_up hP.1 z rfl oq (fun a ha => lay_local (gi_si_n S _ x ha) rfl rfl rfl) (fun e' he' => ?_)) (fsL_of (gi_si_n S _ x (by omega)))) (hS.put z oq (show P0 ≤ P0 + 1 + k by omega))
  have hd' : dyl (si S k i.toNatClampNeg x) k = some n := hd
  rw [lay_dy (P0 + 1) ct hd'] at he'
  cases he'
  show H1[P0 + 1 + k]? = some (vp_cell _ _)
  rw [e, vp_cell_i, vp_cell_i, arrV_store, gi_si_s]
  congr 2
  funext q
  by_cases hq : q = i.toNatClampNeg
  · subst hq
    simp [updV, upd]
  · simp [updV, upd, hq]
/-- an element of a row of kin -/
theorem xl_zast (C0 : XC D ct p s m args meth c cc nL ret own) (hP : ML D ct P0 Hb S H) (hS : va_S (AB P0) H0 H locs) {a : Nat} (ha : a < 4) {i x : Int32} (hn : narrow .boolean (.int x) = .int x) (hin : inb i 4 = true) (hdg : decode cc pc = .ok (.bastore, 1))
    (kk : ∀ (H1 : Heap) (locs1 : List Loc), ML D ct P0 Hb (si S (158 + 1 * a) i.toNatClampNeg x) H1 → va_S (AB P0) H0 H1 locs1 → W p l e R s m args below meth c H1 locs1 cells slots Q (F0 m (pc + 1) ls rest)) : W p l e R s m args below meth c H locs cells slots Q (F0 m pc ls (.int x :: .int i :: .ref (P0 + 1 + (158 + 1 * a)) :: rest)) := by
  obtain ⟨hx, hb, hr, hml, hown, hts, hK, hlocks, hN⟩ := C0
  have he : ∀ S : St, lay (P0 + 1) ct S (158 + 1 * a) = some (.inl (ct 2, 4, .inl (gi S (158 + 1 * a)))) := fun S => lay_kin (P0 + 1) ct S ha
  generalize hk : 158 + 1 * a = k at *
  refine W.zast hx hb (hP.1.2.2 k _ (he S)) ((hK.2 2 _ rfl).1 4 (fun j => .int (gi S k j))) (fun q => by cases q) (by show ¬ (i < 0 ∨ (arrV _ _ _).slots.size ≤ _); rw [arrV_size]; exact inb_in hin) rfl rfl hdg fun H1 e z oq => ?_
  refine kk H1 _ (ML_up hP (MP_up hP.1 z rfl oq (fun a ha => lay_local (gi_si_n S _ x ha) rfl rfl rfl) (fun e' he' => ?_)) (fsL_of (gi_si_n S _ x (by omega)))) (hS.put z oq (show P0 ≤ P0 + 1 + k by omega))
  rw [he] at he'
  cases he'
  show H1[P0 + 1 + k]? = some (vp_cell _ _)
  rw [e, hn, vp_cell_i, vp_cell_i, arrV_store, gi_si_s]
  congr 2
  funext q
  by_cases hq : q = i.toNatClampNeg
  · subst hq
    simp [updV, upd]
  · simp [updV, upd, hq]
theorem ao_sp {args : Array Value} {s : State} {t : FieldType} (h : (Cond.arrayOver (.array t)).before args s = true) : ∃ comp c k, s.vm.findClass (FieldType.array t).toString = some comp ∧ s.vm.classes[c]? = some k ∧ k.kind = .array comp (.array t) ∧ s.vm.findClass ("[" ++ (FieldType.array t).toString) = some c := by
  simp only [Cond.before, Cond.holds, Cond.value, beq_iff_eq] at h
  cases hc : s.vm.findClass (FieldType.array t).toString with
  | none => simp [hc] at h
  | some comp =>
    simp only [hc, Option.bind_some, Option.bind_eq_some_iff, Option.map_eq_some_iff] at h
    obtain ⟨c, hi, k, hk, hb⟩ := h
    obtain ⟨hlt, hp, -⟩ := Array.findIdx?_eq_some_iff_getElem.mp hi
    have hkk : s.vm.classes[c] = k := (Array.getElem?_eq_some_iff.mp hk).2
    rw [hkk] at hp
    cases hkind : k.kind with
    | array component ty =>
      rw [hkind] at hb hp
      simp at hb hp
      exact ⟨comp, c, k, rfl, hk, by rw [hkind, hp, hb.1], hb.2⟩
    | _ => rw [hkind] at hb; simp at hb
/-- a row of ints into a row of such -/
theorem xl_astQ (C0 : XC D ct p s m args meth c cc nL ret own) (hP : ML D ct P0 Hb S H) (hS : va_S (AB P0) H0 H locs) {k n q n2 : Nat} (hk : k < 183) (he : ∀ S : St, lay (P0 + 1) ct S k = some (.inl (ct 5, n, .inr (.inr (.inr (.inr (fun j => (gr S k j).map ((P0 + 1) + ·)))))))) (hd : dyl S q = some n2) {i : Int32} (hin : inb i n = true) (hdg : decode cc pc = .ok (.aastore, 1))
    (kk : ∀ (H1 : Heap) (locs1 : List Loc), ML D ct P0 Hb (sr S k i.toNatClampNeg (some q)) H1 → va_S (AB P0) H0 H1 locs1 → W p l e R s m args below meth c H1 locs1 cells slots Q (F0 m (pc + 1) ls rest)) : W p l e R s m args below meth c H locs cells slots Q (F0 m pc ls (.ref (P0 + 1 + q) :: .int i :: .ref (P0 + 1 + k) :: rest)) := by
  obtain ⟨hx, hb, hr, hml, hown, hts, hK, hlocks, hN⟩ := id C0
  obtain ⟨comp, c5, k5, f1, f2, f3, f4⟩ := ao_sp hN.2.2.2
  have e5 : s.vm.findClass ("[" ++ (FieldType.array .int).toString) = some (ct 5) := (hK.2 5 _ rfl).2
  have e0 : s.vm.findClass ("[" ++ FieldType.int.toString) = some (ct 0) := (hK.2 0 _ rfl).2
  have q5 : c5 = ct 5 := Option.some.inj (f4.symm.trans e5)
  have q0 : comp = ct 0 := Option.some.inj (f1.symm.trans e0)
  subst q5
  subst q0
  obtain ⟨-, kI, hkI, -⟩ := (hK.2 0 _ rfl).1 n2 (fun j => .int (gi S q j))
  have hkI : s.vm.classes[ct 0]? = some kI := hkI
  have hlt := inb_lt hin
  have h0 : ¬ i < 0 := fun q => inb_in hin (Or.inl q)
  have hcq := hP.1.2.2 q _ (lay_dy (P0 + 1) ct hd)
  have hcq : H[P0 + 1 + q]? = some (vp_cell (ct 0) (n2, .inl (gi S q))) := hcq
  refine W.aast hx hb (hP.1.2.2 k _ (he S)) (fun q h => by cases h) (fun h => by cases h) f2 f3 rfl hkI ⟨h0, by show _ < (arrV _ _ _).slots.size; rw [arrV_size]; exact hlt⟩ hcq (fun q h => by cases h) hkI (va_asg _ _) rfl rfl hdg fun H1 e z oq => ?_
  refine kk H1 _ (ML_up hP (MP_up hP.1 z rfl oq (fun a ha => lay_local rfl rfl (gr_sr_n S _ _ ha) rfl) (fun e' he' => ?_)) (fsL_of rfl)) (hS.put z oq (show P0 ≤ P0 + 1 + k by omega))
  rw [he] at he'
  cases he'
  show H1[P0 + 1 + k]? = some (vp_cell _ _)
  rw [e, vp_cell_q, vp_cell_q, arrV_store, gr_sr_s]
  congr 2
  funext q
  by_cases hq : q = i.toNatClampNeg
  · subst hq
    simp [updV, va_up, va_rf]
  · simp [updV, va_up, hq]
/-- a new row of N ints -/
theorem xl_newI (C0 : XC D ct p s m args meth c cc nL ret own) (hP : ML D ct P0 Hb S H) (hS : va_S (AB P0) H0 H locs) (hw : Cond.arrayClass .int ∈ tG) (h183 : 183 ≤ tp S) {v : Int32} {N : Nat} (hv : ¬ v < 0) (hN : v.toNatClampNeg = N) (hbytes : N * componentBytes .int ≤ 536870912) (hcells : cells + 1 ≤ R.cells) (hslots : slots + N ≤ R.slots) (hdg : decode cc pc = .ok (.newarray .int, 2))
    (kk : ∀ (H1 : Heap), ML D ct P0 Hb (san S N) H1 → va_S (AB P0) H0 H1 locs → W p l e R s m args below meth c H1 locs (cells + 1) (slots + N) Q (F0 m (pc + 2) ls (.ref (P0 + 1 + tp S) :: rest))) : W p l e R s m args below meth c H locs cells slots Q (F0 m pc ls (.int v :: rest)) := by
  obtain ⟨hx, hb, hr, hml, hown, hts, hK, hlocks, hNs⟩ := C0
  refine va_newaK (atype := .int) hx hb (hts _ hw) rfl hdg rfl hv hN hbytes hcells hslots hP.1.1 fun H1 cA e1 z1 o1 hAr hNm => ?_
  have hcA : cA = ct 0 := Option.some.inj (hNm.symm.trans (hK.2 0 _ rfl).2)
  subst hcA
  have hz : H.size = P0 + 1 + tp S := hP.1.1
  rw [← hz] at z1 o1
  refine kk H1 ⟨⟨by rw [z1, hz]; show P0 + 1 + tp S + 1 = P0 + 1 + (tp S + 1); omega, fun _ _ => rfl, fun k e' he' => ?_⟩, fun q hq => (o1 q (by omega)).trans (hP.2.1 q hq), ?_⟩ ⟨Nat.le_trans hS.1 (by omega), fun x h1 h2 => (o1 x (Nat.lt_of_lt_of_le h1 hS.1)).trans (hS.2.1 x h1 h2), hS.2.2⟩
  · by_cases h : k = tp S
    · subst h
      rw [lay_dy (P0 + 1) ct (dyl_san S N h183)] at he'
      cases he'
      show H1[P0 + 1 + tp S]? = some (vp_cell _ _)
      rw [e1]
      have : gi (san S N) (tp S) = fun _ => 0 := if_pos rfl
      rw [this]
      rfl
    · have e1 : lay (P0 + 1) ct (san S N) k = lay (P0 + 1) ct S k := lay_local (if_neg h) rfl (if_neg h) (if_neg h)
      rw [e1] at he'
      have h5 := hP.1.2.2 k e' he'
      exact h5.kept (o1 _ h5.lt)
  · have e2 : fsL P0 (san S N) = fsL P0 S := fsL_of (if_neg (show ¬ 136 = tp S by omega))
    rw [e2]
    exact hP.2.2.kept (o1 P0 (by omega))
end XL
