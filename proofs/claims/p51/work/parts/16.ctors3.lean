theorem dX2_init_0 : decode cX2_init 0 = .ok (.aload_n 0, 1) := by decide +kernel
theorem dX2_init_1 : decode cX2_init 1 = .ok (.invokespecial 3, 3) := by decide +kernel
theorem dX2_init_4 : decode cX2_init 4 = .ok (.aload_n 0, 1) := by decide +kernel
theorem dX2_init_5 : decode cX2_init 5 = .ok (.aload_n 1, 1) := by decide +kernel
theorem dX2_init_6 : decode cX2_init 6 = .ok (.putfield 9, 3) := by decide +kernel
theorem dX2_init_9 : decode cX2_init 9 = .ok (.aload_n 0, 1) := by decide +kernel
theorem dX2_init_10 : decode cX2_init 10 = .ok (.iconst (-1), 1) := by decide +kernel
theorem dX2_init_11 : decode cX2_init 11 = .ok (.putfield 15, 3) := by decide +kernel
theorem dX2_init_14 : decode cX2_init 14 = .ok (.aload_n 0, 1) := by decide +kernel
theorem dX2_init_15 : decode cX2_init 15 = .ok (.bipush 8, 2) := by decide +kernel
theorem dX2_init_17 : decode cX2_init 17 = .ok (.newarray .int, 2) := by decide +kernel
theorem dX2_init_19 : decode cX2_init 19 = .ok (.putfield 19, 3) := by decide +kernel
theorem dX2_init_22 : decode cX2_init 22 = .ok (.aload_n 0, 1) := by decide +kernel
theorem dX2_init_23 : decode cX2_init 23 = .ok (.bipush 8, 2) := by decide +kernel
theorem dX2_init_25 : decode cX2_init 25 = .ok (.newarray .int, 2) := by decide +kernel
theorem dX2_init_27 : decode cX2_init 27 = .ok (.putfield 23, 3) := by decide +kernel
theorem dX2_init_30 : decode cX2_init 30 = .ok (.aload_n 0, 1) := by decide +kernel
theorem dX2_init_31 : decode cX2_init 31 = .ok (.bipush 8, 2) := by decide +kernel
theorem dX2_init_33 : decode cX2_init 33 = .ok (.newarray .int, 2) := by decide +kernel
theorem dX2_init_35 : decode cX2_init 35 = .ok (.putfield 26, 3) := by decide +kernel
theorem dX2_init_38 : decode cX2_init 38 = .ok (.aload_n 0, 1) := by decide +kernel
theorem dX2_init_39 : decode cX2_init 39 = .ok (.bipush 8, 2) := by decide +kernel
theorem dX2_init_41 : decode cX2_init 41 = .ok (.newarray .int, 2) := by decide +kernel
theorem dX2_init_43 : decode cX2_init 43 = .ok (.putfield 29, 3) := by decide +kernel
theorem dX2_init_46 : decode cX2_init 46 = .ok (.aload_n 0, 1) := by decide +kernel
theorem dX2_init_47 : decode cX2_init 47 = .ok (.bipush 8, 2) := by decide +kernel
theorem dX2_init_49 : decode cX2_init 49 = .ok (.newarray .int, 2) := by decide +kernel
theorem dX2_init_51 : decode cX2_init 51 = .ok (.putfield 32, 3) := by decide +kernel
theorem dX2_init_54 : decode cX2_init 54 = .ok (.aload_n 0, 1) := by decide +kernel
theorem dX2_init_55 : decode cX2_init 55 = .ok (.bipush 11, 2) := by decide +kernel
theorem dX2_init_57 : decode cX2_init 57 = .ok (.newarray .int, 2) := by decide +kernel
theorem dX2_init_59 : decode cX2_init 59 = .ok (.putfield 35, 3) := by decide +kernel
theorem dX2_init_62 : decode cX2_init 62 = .ok (.aload_n 0, 1) := by decide +kernel
theorem dX2_init_63 : decode cX2_init 63 = .ok (.bipush 11, 2) := by decide +kernel
theorem dX2_init_65 : decode cX2_init 65 = .ok (.newarray .int, 2) := by decide +kernel
theorem dX2_init_67 : decode cX2_init 67 = .ok (.putfield 38, 3) := by decide +kernel
theorem dX2_init_70 : decode cX2_init 70 = .ok (.aload_n 0, 1) := by decide +kernel
theorem dX2_init_71 : decode cX2_init 71 = .ok (.bipush 11, 2) := by decide +kernel
theorem dX2_init_73 : decode cX2_init 73 = .ok (.newarray .int, 2) := by decide +kernel
theorem dX2_init_75 : decode cX2_init 75 = .ok (.putfield 41, 3) := by decide +kernel
theorem dX2_init_78 : decode cX2_init 78 = .ok (.aload_n 0, 1) := by decide +kernel
theorem dX2_init_79 : decode cX2_init 79 = .ok (.bipush 11, 2) := by decide +kernel
theorem dX2_init_81 : decode cX2_init 81 = .ok (.newarray .int, 2) := by decide +kernel
theorem dX2_init_83 : decode cX2_init 83 = .ok (.putfield 44, 3) := by decide +kernel
theorem dX2_init_86 : decode cX2_init 86 = .ok (.aload_n 0, 1) := by decide +kernel
theorem dX2_init_87 : decode cX2_init 87 = .ok (.bipush 11, 2) := by decide +kernel
theorem dX2_init_89 : decode cX2_init 89 = .ok (.newarray .int, 2) := by decide +kernel
theorem dX2_init_91 : decode cX2_init 91 = .ok (.putfield 47, 3) := by decide +kernel
theorem dX2_init_94 : decode cX2_init 94 = .ok (.return_, 1) := by decide +kernel
theorem dX11_init_0 : decode cX11_init 0 = .ok (.aload_n 0, 1) := by decide +kernel
theorem dX11_init_1 : decode cX11_init 1 = .ok (.invokespecial 3, 3) := by decide +kernel
theorem dX11_init_4 : decode cX11_init 4 = .ok (.aload_n 0, 1) := by decide +kernel
theorem dX11_init_5 : decode cX11_init 5 = .ok (.new 9, 3) := by decide +kernel
theorem dX11_init_8 : decode cX11_init 8 = .ok (.dup, 1) := by decide +kernel
theorem dX11_init_9 : decode cX11_init 9 = .ok (.invokespecial 11, 3) := by decide +kernel
theorem dX11_init_12 : decode cX11_init 12 = .ok (.putfield 12, 3) := by decide +kernel
theorem dX11_init_15 : decode cX11_init 15 = .ok (.aload_n 0, 1) := by decide +kernel
theorem dX11_init_16 : decode cX11_init 16 = .ok (.new 9, 3) := by decide +kernel
theorem dX11_init_19 : decode cX11_init 19 = .ok (.dup, 1) := by decide +kernel
theorem dX11_init_20 : decode cX11_init 20 = .ok (.invokespecial 11, 3) := by decide +kernel
theorem dX11_init_23 : decode cX11_init 23 = .ok (.putfield 16, 3) := by decide +kernel
theorem dX11_init_26 : decode cX11_init 26 = .ok (.aload_n 0, 1) := by decide +kernel
theorem dX11_init_27 : decode cX11_init 27 = .ok (.new 9, 3) := by decide +kernel
theorem dX11_init_30 : decode cX11_init 30 = .ok (.dup, 1) := by decide +kernel
theorem dX11_init_31 : decode cX11_init 31 = .ok (.invokespecial 11, 3) := by decide +kernel
theorem dX11_init_34 : decode cX11_init 34 = .ok (.putfield 19, 3) := by decide +kernel
theorem dX11_init_37 : decode cX11_init 37 = .ok (.aload_n 0, 1) := by decide +kernel
theorem dX11_init_38 : decode cX11_init 38 = .ok (.iconst 0, 1) := by decide +kernel
theorem dX11_init_39 : decode cX11_init 39 = .ok (.putfield 22, 3) := by decide +kernel
theorem dX11_init_42 : decode cX11_init 42 = .ok (.aload_n 0, 1) := by decide +kernel
theorem dX11_init_43 : decode cX11_init 43 = .ok (.new 26, 3) := by decide +kernel
theorem dX11_init_46 : decode cX11_init 46 = .ok (.dup, 1) := by decide +kernel
theorem dX11_init_47 : decode cX11_init 47 = .ok (.aload_n 0, 1) := by decide +kernel
theorem dX11_init_48 : decode cX11_init 48 = .ok (.getfield 12, 3) := by decide +kernel
theorem dX11_init_51 : decode cX11_init 51 = .ok (.invokespecial 28, 3) := by decide +kernel
theorem dX11_init_54 : decode cX11_init 54 = .ok (.putfield 31, 3) := by decide +kernel
theorem dX11_init_57 : decode cX11_init 57 = .ok (.aload_n 0, 1) := by decide +kernel
theorem dX11_init_58 : decode cX11_init 58 = .ok (.bipush 8, 2) := by decide +kernel
theorem dX11_init_60 : decode cX11_init 60 = .ok (.newarray .int, 2) := by decide +kernel
theorem dX11_init_62 : decode cX11_init 62 = .ok (.putfield 35, 3) := by decide +kernel
theorem dX11_init_65 : decode cX11_init 65 = .ok (.aload_n 0, 1) := by decide +kernel
theorem dX11_init_66 : decode cX11_init 66 = .ok (.bipush 8, 2) := by decide +kernel
theorem dX11_init_68 : decode cX11_init 68 = .ok (.anewarray 39, 3) := by decide +kernel
theorem dX11_init_71 : decode cX11_init 71 = .ok (.putfield 41, 3) := by decide +kernel
theorem dX11_init_74 : decode cX11_init 74 = .ok (.aload_n 0, 1) := by decide +kernel
theorem dX11_init_75 : decode cX11_init 75 = .ok (.bipush 8, 2) := by decide +kernel
theorem dX11_init_77 : decode cX11_init 77 = .ok (.anewarray 45, 3) := by decide +kernel
theorem dX11_init_80 : decode cX11_init 80 = .ok (.putfield 47, 3) := by decide +kernel
theorem dX11_init_83 : decode cX11_init 83 = .ok (.new 39, 3) := by decide +kernel
theorem dX11_init_86 : decode cX11_init 86 = .ok (.dup, 1) := by decide +kernel
theorem dX11_init_87 : decode cX11_init 87 = .ok (.iconst 0, 1) := by decide +kernel
theorem dX11_init_88 : decode cX11_init 88 = .ok (.iconst 0, 1) := by decide +kernel
theorem dX11_init_89 : decode cX11_init 89 = .ok (.invokespecial 51, 3) := by decide +kernel
theorem dX11_init_92 : decode cX11_init 92 = .ok (.astore_n 1, 1) := by decide +kernel
theorem dX11_init_93 : decode cX11_init 93 = .ok (.iconst 0, 1) := by decide +kernel
theorem dX11_init_94 : decode cX11_init 94 = .ok (.istore_n 2, 1) := by decide +kernel
theorem dX11_init_95 : decode cX11_init 95 = .ok (.iload_n 2, 1) := by decide +kernel
theorem dX11_init_96 : decode cX11_init 96 = .ok (.bipush 8, 2) := by decide +kernel
theorem dX11_init_98 : decode cX11_init 98 = .ok (.if_icmp .ge 29, 3) := by decide +kernel
theorem dX11_init_101 : decode cX11_init 101 = .ok (.aload_n 0, 1) := by decide +kernel
theorem dX11_init_102 : decode cX11_init 102 = .ok (.getfield 41, 3) := by decide +kernel
theorem dX11_init_105 : decode cX11_init 105 = .ok (.iload_n 2, 1) := by decide +kernel
theorem dX11_init_106 : decode cX11_init 106 = .ok (.aload_n 1, 1) := by decide +kernel
theorem dX11_init_107 : decode cX11_init 107 = .ok (.aastore, 1) := by decide +kernel
theorem dX11_init_108 : decode cX11_init 108 = .ok (.aload_n 0, 1) := by decide +kernel
theorem dX11_init_109 : decode cX11_init 109 = .ok (.getfield 47, 3) := by decide +kernel
theorem dX11_init_112 : decode cX11_init 112 = .ok (.iload_n 2, 1) := by decide +kernel
theorem dX11_init_113 : decode cX11_init 113 = .ok (.new 45, 3) := by decide +kernel
theorem dX11_init_116 : decode cX11_init 116 = .ok (.dup, 1) := by decide +kernel
theorem dX11_init_117 : decode cX11_init 117 = .ok (.invokespecial 54, 3) := by decide +kernel
theorem dX11_init_120 : decode cX11_init 120 = .ok (.aastore, 1) := by decide +kernel
theorem dX11_init_121 : decode cX11_init 121 = .ok (.iinc 2 1, 3) := by decide +kernel
theorem dX11_init_124 : decode cX11_init 124 = .ok (.goto (-29), 3) := by decide +kernel
theorem dX11_init_127 : decode cX11_init 127 = .ok (.aload_n 0, 1) := by decide +kernel
theorem dX11_init_128 : decode cX11_init 128 = .ok (.bipush 41, 2) := by decide +kernel
theorem dX11_init_130 : decode cX11_init 130 = .ok (.bipush 8, 2) := by decide +kernel
theorem dX11_init_132 : decode cX11_init 132 = .ok (.multianewarray 55 2, 4) := by decide +kernel
theorem dX11_init_136 : decode cX11_init 136 = .ok (.putfield 57, 3) := by decide +kernel
theorem dX11_init_139 : decode cX11_init 139 = .ok (.aload_n 0, 1) := by decide +kernel
theorem dX11_init_140 : decode cX11_init 140 = .ok (.iconst 3, 1) := by decide +kernel
theorem dX11_init_141 : decode cX11_init 141 = .ok (.iconst 3, 1) := by decide +kernel
theorem dX11_init_142 : decode cX11_init 142 = .ok (.multianewarray 55 2, 4) := by decide +kernel
theorem dX11_init_146 : decode cX11_init 146 = .ok (.putfield 60, 3) := by decide +kernel
theorem dX11_init_149 : decode cX11_init 149 = .ok (.aload_n 0, 1) := by decide +kernel
theorem dX11_init_150 : decode cX11_init 150 = .ok (.iconst 3, 1) := by decide +kernel
theorem dX11_init_151 : decode cX11_init 151 = .ok (.iconst 3, 1) := by decide +kernel
theorem dX11_init_152 : decode cX11_init 152 = .ok (.multianewarray 55 2, 4) := by decide +kernel
theorem dX11_init_156 : decode cX11_init 156 = .ok (.putfield 63, 3) := by decide +kernel
theorem dX11_init_159 : decode cX11_init 159 = .ok (.return_, 1) := by decide +kernel
abbrev cells_X2 (ct : Nat → ClassId) (b : Nat) (tw : Nat) : List va_E := [.inr (2, [.ref tw, .int ((-1)), .ref (b + 1), .ref (b + 2), .ref (b + 3), .ref (b + 4), .ref (b + 5), .ref (b + 6), .ref (b + 7), .ref (b + 8), .ref (b + 9), .ref (b + 10)]), .inl (ct 0, 8, .inl (fun _ => 0)), .inl (ct 0, 8, .inl (fun _ => 0)), .inl (ct 0, 8, .inl (fun _ => 0)), .inl (ct 0, 8, .inl (fun _ => 0)), .inl (ct 0, 8, .inl (fun _ => 0)), .inl (ct 0, 11, .inl (fun _ => 0)), .inl (ct 0, 11, .inl (fun _ => 0)), .inl (ct 0, 11, .inl (fun _ => 0)), .inl (ct 0, 11, .inl (fun _ => 0)), .inl (ct 0, 11, .inl (fun _ => 0))]
def P11 (ct : Nat → ClassId) (b : Nat) : List va_E := (((((([] : List va_E) ++ (cells_X10 ct (b + 1))) ++ (cells_X10 ct (b + 19))) ++ (cells_X10 ct (b + 37))) ++ (cells_X2 ct (b + 55) (b + 1))) ++ ([.inl (ct 0, 8, .inl (fun _ => 0))] : List va_E))
theorem P11_len (ct : Nat → ClassId) (b : Nat) : (P11 ct b).length = 66 := rfl
def fk11 (b : Nat) : Nat → (Nat → Option Nat)
  | 0 => fun _ => none
  | d + 1 => va_up (fk11 b d) (nI d).toNatClampNeg (some (b + (68 + 1)))
def fr11 (b : Nat) : Nat → (Nat → Option Nat)
  | 0 => fun _ => none
  | d + 1 => va_up (fr11 b d) (nI d).toNatClampNeg (some (b + ((2 * d + 69) + 1)))
def rq11 (ct : Nat → ClassId) (b : Nat) : Nat → List va_E
  | 0 => []
  | d + 1 => rq11 ct b d ++ cells_X8 ct (b + (2 * d + 70))
theorem rq11_len (ct : Nat → ClassId) (b : Nat) : ∀ d, (rq11 ct b d).length = 2 * d
  | 0 => rfl
  | d + 1 => by
    show (rq11 ct b d ++ cells_X8 ct (b + (2 * d + 70))).length = _
    rw [List.length_append, rq11_len ct b d]
    show 2 * d + 2 = _
    omega
def st11 (ct : Nat → ClassId) (b d : Nat) : List va_E := P11 ct b ++ (.inl (ct 3, 8, .inr (.inr (.inr (.inr (fk11 b d))))) :: .inl (ct 4, 8, .inr (.inr (.inr (.inr (fr11 b d))))) :: .inr (7, [.int 0, .int 0]) :: rq11 ct b d)
theorem at_0 {P Z : List va_E} {a : va_E} {n : Nat} (h : P.length = n) : (P ++ (a :: Z))[n]? = some a := by
  subst h
  rw [List.getElem?_append_right (Nat.le_refl _), Nat.sub_self]
  rfl
theorem at_1 {P Z : List va_E} {a b : va_E} {n : Nat} (h : P.length = n) : (P ++ (a :: b :: Z))[n + 1]? = some b := by
  subst h
  rw [List.getElem?_append_right (Nat.le_succ _), show P.length + 1 - P.length = 1 by omega]
  rfl
theorem at_2 {P Z : List va_E} {a b c : va_E} {n : Nat} (h : P.length = n) : (P ++ (a :: b :: c :: Z))[n + 2]? = some c := by
  subst h
  rw [List.getElem?_append_right (by omega), show P.length + 2 - P.length = 2 by omega]
  rfl
theorem set_0 {P Z : List va_E} {a x : va_E} {n : Nat} (h : P.length = n) : (P ++ (a :: Z)).set n x = P ++ (x :: Z) := by
  subst h
  rw [List.set_append_right _ _ (Nat.le_refl _), Nat.sub_self]
  rfl
theorem set_1 {P Z : List va_E} {a b x : va_E} {n : Nat} (h : P.length = n) : (P ++ (a :: b :: Z)).set (n + 1) x = P ++ (a :: x :: Z) := by
  subst h
  rw [List.set_append_right _ _ (Nat.le_succ _), show P.length + 1 - P.length = 1 by omega]
  rfl
theorem inb_nI {d n : Nat} (h : d < n) (hn : n < 2 ^ 31) : inb (nI d) n = true := by
  simp only [inb, Bool.and_eq_true, Bool.not_eq_true', decide_eq_false_iff_not, decide_eq_true_eq]
  exact ⟨nI_pos (by omega), by rw [nI_clamp (by omega)]; exact h⟩
abbrev O11 (b : Nat) : va_E := (.inr (11, [.ref (b + 1), .ref (b + 19), .ref (b + 37), .int 0, .ref (b + 55), .ref (b + 66), .ref (b + 67), .ref (b + 68), .null, .null, .null]) : va_E)
def cells_X11 (ct : Nat → ClassId) (b : Nat) : List va_E := ((.inr (11, [.ref (b + 1), .ref (b + 19), .ref (b + 37), .int 0, .ref (b + 55), .ref (b + 66), .ref (b + 67), .ref (b + 68), .ref (b + 86), .ref (b + 128), .ref (b + 132)]) : va_E) :: ((((st11 ct b 8) ++ (Sum.inl (ct 5, 41, .inr (.inr (.inr (.inr (fun i => some (b + ((86 + 1) + 1 * i))))))) :: List.replicate 41 (Sum.inl (ct 0, 8, .inl (fun _ => 0))))) ++ (Sum.inl (ct 5, 3, .inr (.inr (.inr (.inr (fun i => some (b + ((128 + 1) + 1 * i))))))) :: List.replicate 3 (Sum.inl (ct 0, 3, .inl (fun _ => 0))))) ++ (Sum.inl (ct 5, 3, .inr (.inr (.inr (.inr (fun i => some (b + ((132 + 1) + 1 * i))))))) :: List.replicate 3 (Sum.inl (ct 0, 3, .inl (fun _ => 0))))))
section CTORS
variable {D : va_G} {ct : Nat → ClassId}
set_option maxRecDepth 100000 in
set_option maxHeartbeats 4000000 in
theorem n_X2 (l : Launch) (b : Nat) (tw : Nat) : Met l yX2_init (Cond.code yX2_init cX2_init 2 none :: tG) { frames := 1, cells := 10, slots := 95, locals := 20 } (va_Pc [.ref b, .ref tw] (RPK D ct b [.inr (2, [.null, .int 0, .null, .null, .null, .null, .null, .null, .null, .null, .null, .null])])) (va_Qv (fun (_ : Unit) => True) (fun _ t => RPK D ct b [.inr (2, [.ref tw, .int ((-1)), .ref (b + 1), .ref (b + 2), .ref (b + 3), .ref (b + 4), .ref (b + 5), .ref (b + 6), .ref (b + 7), .ref (b + 8), .ref (b + 9), .ref (b + 10)]), .inl (ct 0, 8, .inl (fun _ => 0)), .inl (ct 0, 8, .inl (fun _ => 0)), .inl (ct 0, 8, .inl (fun _ => 0)), .inl (ct 0, 8, .inl (fun _ => 0)), .inl (ct 0, 8, .inl (fun _ => 0)), .inl (ct 0, 11, .inl (fun _ => 0)), .inl (ct 0, 11, .inl (fun _ => 0)), .inl (ct 0, 11, .inl (fun _ => 0)), .inl (ct 0, 11, .inl (fun _ => 0)), .inl (ct 0, 11, .inl (fun _ => 0))] t) (AB b)) 10 95 (AB b) := by
  refine mk_metR (by decide +kernel) (Nat.le_of_ble_eq_true rfl) (fun p e s m args below meth c ls C0 hP hl hin => ?_)
  have hS : va_S (AB b) s.heap s.heap [] := va_S.rf
  have hl : lv_has ls 2 [(0, .ref (b + 0)), (1, .ref tw)] := hl
  have hin : meth.name = "<init>" := hin
  obtain ⟨hx, hb, hr, hml, hown, hts, hK, hlocks, hNs⟩ := id C0
  refine lv_aload_n hx hb dX2_init_0 rfl (lv_at hl 0 rfl) ?_
  refine W.objInit hx hb hown (hts _ wd_148) (hts _ wd_27) (hts _ wd_28) rfl (by rw [hml]; exact hl.1) rfl dX2_init_1 (Nat.le_of_ble_eq_true rfl) (Nat.le_of_ble_eq_true rfl) ?_
  refine W.eq (g2 := F0 m 4 ls []) rfl ?_
  refine lv_aload_n hx hb dX2_init_4 rfl (lv_at hl 0 rfl) ?_
  refine lv_aload_n hx hb dX2_init_5 rfl (lv_at hl 1 rfl) ?_
  refine y_put (k := 0) C0 hP hS rfl rfl inG2 tyX2 tyX2_ok nmX2 0 (by decide) wd_149 (Or.inl rfl) rfl rfl (Nat.le_of_ble_eq_true rfl) dX2_init_6 (fun H locs hP hS => ?_)
  have hP : RP D b [.inr (2, [.ref tw, .int 0, .null, .null, .null, .null, .null, .null, .null, .null, .null, .null])] _ := hP
  refine lv_aload_n hx hb dX2_init_9 rfl (lv_at hl 0 rfl) ?_
  refine lv_iconst (v := (-1)) hx hb dX2_init_10 (by decide) ?_
  refine y_put (k := 0) C0 hP hS rfl rfl inG2 tyX2 tyX2_ok nmX2 1 (by decide) wd_150 (Or.inl rfl) rfl rfl (Nat.le_of_ble_eq_true rfl) dX2_init_11 (fun H locs hP hS => ?_)
  have hP : RP D b [.inr (2, [.ref tw, .int ((-1)), .null, .null, .null, .null, .null, .null, .null, .null, .null, .null])] _ := hP
  refine lv_aload_n hx hb dX2_init_14 rfl (lv_at hl 0 rfl) ?_
  refine lv_bipush (v := 8) hx hb dX2_init_15 (by decide) ?_
  refine y_newa (atype := .int) (ty := .int) (q := 0) (N := 8) (a0 := (8, .inl (fun _ => 0))) C0 hP hS rfl wd_142 rfl (by simp) (fun _ => rfl) (by decide) (by decide) (Nat.le_of_ble_eq_true rfl) (Nat.le_of_ble_eq_true rfl) (Nat.le_of_ble_eq_true rfl) (n := 1) rfl dX2_init_17 (fun H hP hS => ?_)
  refine y_put (k := 0) C0 hP hS rfl rfl inG2 tyX2 tyX2_ok nmX2 2 (by decide) wd_151 (Or.inr ⟨hin, rfl⟩) rfl rfl (Nat.le_of_ble_eq_true rfl) dX2_init_19 (fun H locs hP hS => ?_)
  have hP : RP D b [.inr (2, [.ref tw, .int ((-1)), .ref (b + 1), .null, .null, .null, .null, .null, .null, .null, .null, .null]), .inl (ct 0, 8, .inl (fun _ => 0))] _ := hP
  refine lv_aload_n hx hb dX2_init_22 rfl (lv_at hl 0 rfl) ?_
  refine lv_bipush (v := 8) hx hb dX2_init_23 (by decide) ?_
  refine y_newa (atype := .int) (ty := .int) (q := 0) (N := 8) (a0 := (8, .inl (fun _ => 0))) C0 hP hS rfl wd_142 rfl (by simp) (fun _ => rfl) (by decide) (by decide) (Nat.le_of_ble_eq_true rfl) (Nat.le_of_ble_eq_true rfl) (Nat.le_of_ble_eq_true rfl) (n := 2) rfl dX2_init_25 (fun H hP hS => ?_)
  refine y_put (k := 0) C0 hP hS rfl rfl inG2 tyX2 tyX2_ok nmX2 3 (by decide) wd_152 (Or.inr ⟨hin, rfl⟩) rfl rfl (Nat.le_of_ble_eq_true rfl) dX2_init_27 (fun H locs hP hS => ?_)
  have hP : RP D b [.inr (2, [.ref tw, .int ((-1)), .ref (b + 1), .ref (b + 2), .null, .null, .null, .null, .null, .null, .null, .null]), .inl (ct 0, 8, .inl (fun _ => 0)), .inl (ct 0, 8, .inl (fun _ => 0))] _ := hP
  refine lv_aload_n hx hb dX2_init_30 rfl (lv_at hl 0 rfl) ?_
  refine lv_bipush (v := 8) hx hb dX2_init_31 (by decide) ?_
  refine y_newa (atype := .int) (ty := .int) (q := 0) (N := 8) (a0 := (8, .inl (fun _ => 0))) C0 hP hS rfl wd_142 rfl (by simp) (fun _ => rfl) (by decide) (by decide) (Nat.le_of_ble_eq_true rfl) (Nat.le_of_ble_eq_true rfl) (Nat.le_of_ble_eq_true rfl) (n := 3) rfl dX2_init_33 (fun H hP hS => ?_)
  refine y_put (k := 0) C0 hP hS rfl rfl inG2 tyX2 tyX2_ok nmX2 4 (by decide) wd_154 (Or.inr ⟨hin, rfl⟩) rfl rfl (Nat.le_of_ble_eq_true rfl) dX2_init_35 (fun H locs hP hS => ?_)
  have hP : RP D b [.inr (2, [.ref tw, .int ((-1)), .ref (b + 1), .ref (b + 2), .ref (b + 3), .null, .null, .null, .null, .null, .null, .null]), .inl (ct 0, 8, .inl (fun _ => 0)), .inl (ct 0, 8, .inl (fun _ => 0)), .inl (ct 0, 8, .inl (fun _ => 0))] _ := hP
  refine lv_aload_n hx hb dX2_init_38 rfl (lv_at hl 0 rfl) ?_
  refine lv_bipush (v := 8) hx hb dX2_init_39 (by decide) ?_
  refine y_newa (atype := .int) (ty := .int) (q := 0) (N := 8) (a0 := (8, .inl (fun _ => 0))) C0 hP hS rfl wd_142 rfl (by simp) (fun _ => rfl) (by decide) (by decide) (Nat.le_of_ble_eq_true rfl) (Nat.le_of_ble_eq_true rfl) (Nat.le_of_ble_eq_true rfl) (n := 4) rfl dX2_init_41 (fun H hP hS => ?_)
  refine y_put (k := 0) C0 hP hS rfl rfl inG2 tyX2 tyX2_ok nmX2 5 (by decide) wd_156 (Or.inr ⟨hin, rfl⟩) rfl rfl (Nat.le_of_ble_eq_true rfl) dX2_init_43 (fun H locs hP hS => ?_)
  have hP : RP D b [.inr (2, [.ref tw, .int ((-1)), .ref (b + 1), .ref (b + 2), .ref (b + 3), .ref (b + 4), .null, .null, .null, .null, .null, .null]), .inl (ct 0, 8, .inl (fun _ => 0)), .inl (ct 0, 8, .inl (fun _ => 0)), .inl (ct 0, 8, .inl (fun _ => 0)), .inl (ct 0, 8, .inl (fun _ => 0))] _ := hP
  refine lv_aload_n hx hb dX2_init_46 rfl (lv_at hl 0 rfl) ?_
  refine lv_bipush (v := 8) hx hb dX2_init_47 (by decide) ?_
  refine y_newa (atype := .int) (ty := .int) (q := 0) (N := 8) (a0 := (8, .inl (fun _ => 0))) C0 hP hS rfl wd_142 rfl (by simp) (fun _ => rfl) (by decide) (by decide) (Nat.le_of_ble_eq_true rfl) (Nat.le_of_ble_eq_true rfl) (Nat.le_of_ble_eq_true rfl) (n := 5) rfl dX2_init_49 (fun H hP hS => ?_)
  refine y_put (k := 0) C0 hP hS rfl rfl inG2 tyX2 tyX2_ok nmX2 6 (by decide) wd_157 (Or.inr ⟨hin, rfl⟩) rfl rfl (Nat.le_of_ble_eq_true rfl) dX2_init_51 (fun H locs hP hS => ?_)
  have hP : RP D b [.inr (2, [.ref tw, .int ((-1)), .ref (b + 1), .ref (b + 2), .ref (b + 3), .ref (b + 4), .ref (b + 5), .null, .null, .null, .null, .null]), .inl (ct 0, 8, .inl (fun _ => 0)), .inl (ct 0, 8, .inl (fun _ => 0)), .inl (ct 0, 8, .inl (fun _ => 0)), .inl (ct 0, 8, .inl (fun _ => 0)), .inl (ct 0, 8, .inl (fun _ => 0))] _ := hP
  refine lv_aload_n hx hb dX2_init_54 rfl (lv_at hl 0 rfl) ?_
  refine lv_bipush (v := 11) hx hb dX2_init_55 (by decide) ?_
  refine y_newa (atype := .int) (ty := .int) (q := 0) (N := 11) (a0 := (11, .inl (fun _ => 0))) C0 hP hS rfl wd_142 rfl (by simp) (fun _ => rfl) (by decide) (by decide) (Nat.le_of_ble_eq_true rfl) (Nat.le_of_ble_eq_true rfl) (Nat.le_of_ble_eq_true rfl) (n := 6) rfl dX2_init_57 (fun H hP hS => ?_)
  refine y_put (k := 0) C0 hP hS rfl rfl inG2 tyX2 tyX2_ok nmX2 7 (by decide) wd_158 (Or.inr ⟨hin, rfl⟩) rfl rfl (Nat.le_of_ble_eq_true rfl) dX2_init_59 (fun H locs hP hS => ?_)
  have hP : RP D b [.inr (2, [.ref tw, .int ((-1)), .ref (b + 1), .ref (b + 2), .ref (b + 3), .ref (b + 4), .ref (b + 5), .ref (b + 6), .null, .null, .null, .null]), .inl (ct 0, 8, .inl (fun _ => 0)), .inl (ct 0, 8, .inl (fun _ => 0)), .inl (ct 0, 8, .inl (fun _ => 0)), .inl (ct 0, 8, .inl (fun _ => 0)), .inl (ct 0, 8, .inl (fun _ => 0)), .inl (ct 0, 11, .inl (fun _ => 0))] _ := hP
  refine lv_aload_n hx hb dX2_init_62 rfl (lv_at hl 0 rfl) ?_
  refine lv_bipush (v := 11) hx hb dX2_init_63 (by decide) ?_
  refine y_newa (atype := .int) (ty := .int) (q := 0) (N := 11) (a0 := (11, .inl (fun _ => 0))) C0 hP hS rfl wd_142 rfl (by simp) (fun _ => rfl) (by decide) (by decide) (Nat.le_of_ble_eq_true rfl) (Nat.le_of_ble_eq_true rfl) (Nat.le_of_ble_eq_true rfl) (n := 7) rfl dX2_init_65 (fun H hP hS => ?_)
  refine y_put (k := 0) C0 hP hS rfl rfl inG2 tyX2 tyX2_ok nmX2 8 (by decide) wd_160 (Or.inr ⟨hin, rfl⟩) rfl rfl (Nat.le_of_ble_eq_true rfl) dX2_init_67 (fun H locs hP hS => ?_)
  have hP : RP D b [.inr (2, [.ref tw, .int ((-1)), .ref (b + 1), .ref (b + 2), .ref (b + 3), .ref (b + 4), .ref (b + 5), .ref (b + 6), .ref (b + 7), .null, .null, .null]), .inl (ct 0, 8, .inl (fun _ => 0)), .inl (ct 0, 8, .inl (fun _ => 0)), .inl (ct 0, 8, .inl (fun _ => 0)), .inl (ct 0, 8, .inl (fun _ => 0)), .inl (ct 0, 8, .inl (fun _ => 0)), .inl (ct 0, 11, .inl (fun _ => 0)), .inl (ct 0, 11, .inl (fun _ => 0))] _ := hP
  refine lv_aload_n hx hb dX2_init_70 rfl (lv_at hl 0 rfl) ?_
  refine lv_bipush (v := 11) hx hb dX2_init_71 (by decide) ?_
  refine y_newa (atype := .int) (ty := .int) (q := 0) (N := 11) (a0 := (11, .inl (fun _ => 0))) C0 hP hS rfl wd_142 rfl (by simp) (fun _ => rfl) (by decide) (by decide) (Nat.le_of_ble_eq_true rfl) (Nat.le_of_ble_eq_true rfl) (Nat.le_of_ble_eq_true rfl) (n := 8) rfl dX2_init_73 (fun H hP hS => ?_)
  refine y_put (k := 0) C0 hP hS rfl rfl inG2 tyX2 tyX2_ok nmX2 9 (by decide) wd_161 (Or.inr ⟨hin, rfl⟩) rfl rfl (Nat.le_of_ble_eq_true rfl) dX2_init_75 (fun H locs hP hS => ?_)
  have hP : RP D b [.inr (2, [.ref tw, .int ((-1)), .ref (b + 1), .ref (b + 2), .ref (b + 3), .ref (b + 4), .ref (b + 5), .ref (b + 6), .ref (b + 7), .ref (b + 8), .null, .null]), .inl (ct 0, 8, .inl (fun _ => 0)), .inl (ct 0, 8, .inl (fun _ => 0)), .inl (ct 0, 8, .inl (fun _ => 0)), .inl (ct 0, 8, .inl (fun _ => 0)), .inl (ct 0, 8, .inl (fun _ => 0)), .inl (ct 0, 11, .inl (fun _ => 0)), .inl (ct 0, 11, .inl (fun _ => 0)), .inl (ct 0, 11, .inl (fun _ => 0))] _ := hP
  refine lv_aload_n hx hb dX2_init_78 rfl (lv_at hl 0 rfl) ?_
  refine lv_bipush (v := 11) hx hb dX2_init_79 (by decide) ?_
  refine y_newa (atype := .int) (ty := .int) (q := 0) (N := 11) (a0 := (11, .inl (fun _ => 0))) C0 hP hS rfl wd_142 rfl (by simp) (fun _ => rfl) (by decide) (by decide) (Nat.le_of_ble_eq_true rfl) (Nat.le_of_ble_eq_true rfl) (Nat.le_of_ble_eq_true rfl) (n := 9) rfl dX2_init_81 (fun H hP hS => ?_)
  refine y_put (k := 0) C0 hP hS rfl rfl inG2 tyX2 tyX2_ok nmX2 10 (by decide) wd_162 (Or.inr ⟨hin, rfl⟩) rfl rfl (Nat.le_of_ble_eq_true rfl) dX2_init_83 (fun H locs hP hS => ?_)
  have hP : RP D b [.inr (2, [.ref tw, .int ((-1)), .ref (b + 1), .ref (b + 2), .ref (b + 3), .ref (b + 4), .ref (b + 5), .ref (b + 6), .ref (b + 7), .ref (b + 8), .ref (b + 9), .null]), .inl (ct 0, 8, .inl (fun _ => 0)), .inl (ct 0, 8, .inl (fun _ => 0)), .inl (ct 0, 8, .inl (fun _ => 0)), .inl (ct 0, 8, .inl (fun _ => 0)), .inl (ct 0, 8, .inl (fun _ => 0)), .inl (ct 0, 11, .inl (fun _ => 0)), .inl (ct 0, 11, .inl (fun _ => 0)), .inl (ct 0, 11, .inl (fun _ => 0)), .inl (ct 0, 11, .inl (fun _ => 0))] _ := hP
  refine lv_aload_n hx hb dX2_init_86 rfl (lv_at hl 0 rfl) ?_
  refine lv_bipush (v := 11) hx hb dX2_init_87 (by decide) ?_
  refine y_newa (atype := .int) (ty := .int) (q := 0) (N := 11) (a0 := (11, .inl (fun _ => 0))) C0 hP hS rfl wd_142 rfl (by simp) (fun _ => rfl) (by decide) (by decide) (Nat.le_of_ble_eq_true rfl) (Nat.le_of_ble_eq_true rfl) (Nat.le_of_ble_eq_true rfl) (n := 10) rfl dX2_init_89 (fun H hP hS => ?_)
  refine y_put (k := 0) C0 hP hS rfl rfl inG2 tyX2 tyX2_ok nmX2 11 (by decide) wd_163 (Or.inr ⟨hin, rfl⟩) rfl rfl (Nat.le_of_ble_eq_true rfl) dX2_init_91 (fun H locs hP hS => ?_)
  have hP : RP D b [.inr (2, [.ref tw, .int ((-1)), .ref (b + 1), .ref (b + 2), .ref (b + 3), .ref (b + 4), .ref (b + 5), .ref (b + 6), .ref (b + 7), .ref (b + 8), .ref (b + 9), .ref (b + 10)]), .inl (ct 0, 8, .inl (fun _ => 0)), .inl (ct 0, 8, .inl (fun _ => 0)), .inl (ct 0, 8, .inl (fun _ => 0)), .inl (ct 0, 8, .inl (fun _ => 0)), .inl (ct 0, 8, .inl (fun _ => 0)), .inl (ct 0, 11, .inl (fun _ => 0)), .inl (ct 0, 11, .inl (fun _ => 0)), .inl (ct 0, 11, .inl (fun _ => 0)), .inl (ct 0, 11, .inl (fun _ => 0)), .inl (ct 0, 11, .inl (fun _ => 0))] _ := hP
  exact y_ret C0 hP hS dX2_init_94
set_option maxRecDepth 100000 in
set_option maxHeartbeats 4000000 in
theorem n_X11_tail {p : Program} {e : Env} {s : State} {m : MethodId} {args : Array Value} {below : List Frame} {meth : Method} {c : Code} (l : Launch) (b : Nat) (C0 : XC D ct p s m args meth c cX11_init 3 none RX11) (hin : meth.name = "<init>") {H : Heap} {locs : List Loc} {ls : Array Slot} (hP : RP D b (O11 b :: st11 ct b 8) H) (hS : va_S (AB b) s.heap H locs) (hl : lv_has ls 3 [(2, .int (nI 8)), (1, .ref (b + 69)), (0, .ref (b + 0))]) : W p l e { frames := 3, cells := 135, slots := 1671, locals := 64 } s m args below meth c H locs 85 1278 (MQ below (va_Qv (fun (_ : Unit) => True) (fun _ t => RPK D ct b (cells_X11 ct b) t) (AB b)) args s 135 1671 (AB b)) (F0 m 127 ls []) := by
  have hZ : (st11 ct b 8).length + 1 = 86 := by
    unfold st11
    rw [List.length_append, P11_len]
    simp only [List.length_cons, rq11_len]
  obtain ⟨hx, hb, hr, hml, hown, hts, hK, hlocks, hNs⟩ := id C0
  unfold cells_X11
  generalize st11 ct b 8 = Z at hP hZ ⊢
  refine lv_aload_n hx hb dX11_init_127 rfl (lv_at hl 2 rfl) ?_
  refine lv_bipush (v := 41) hx hb dX11_init_128 (by decide) ?_
  refine lv_bipush (v := 8) hx hb dX11_init_130 (by decide) ?_
  refine z_mna (N' := 41) (K' := 8) C0 hP hS ⟨wd_210, wd_142⟩ (by decide) (by decide) (by decide) (by decide) (Nat.le_of_ble_eq_true rfl) (Nat.le_of_ble_eq_true rfl) (Nat.le_of_ble_eq_true rfl) (Nat.le_of_ble_eq_true rfl) (Nat.le_of_ble_eq_true rfl) (n := 86) (by first | exact hZ | (simp only [List.length_append, List.length_cons, List.length_replicate]; omega)) dX11_init_132 (fun H hP hS => ?_)
  refine z_put (fs1 := [.ref (b + 1), .ref (b + 19), .ref (b + 37), .int 0, .ref (b + 55), .ref (b + 66), .ref (b + 67), .ref (b + 68), .ref (b + 86), .null, .null]) C0 hP hS rfl inG11 tyX11 tyX11_ok nmX11 8 (by decide) wd_220 (Or.inr ⟨hin, rfl⟩) rfl rfl (Nat.le_of_ble_eq_true rfl) rfl dX11_init_136 (fun H locs hP hS => ?_)
  refine lv_aload_n hx hb dX11_init_139 rfl (lv_at hl 2 rfl) ?_
  refine lv_iconst (v := 3) hx hb dX11_init_140 (by decide) ?_
  refine lv_iconst (v := 3) hx hb dX11_init_141 (by decide) ?_
  refine z_mna (N' := 3) (K' := 3) C0 hP hS ⟨wd_210, wd_142⟩ (by decide) (by decide) (by decide) (by decide) (Nat.le_of_ble_eq_true rfl) (Nat.le_of_ble_eq_true rfl) (Nat.le_of_ble_eq_true rfl) (Nat.le_of_ble_eq_true rfl) (Nat.le_of_ble_eq_true rfl) (n := 128) (by first | exact hZ | (simp only [List.length_append, List.length_cons, List.length_replicate]; omega)) dX11_init_142 (fun H hP hS => ?_)
  refine z_put (fs1 := [.ref (b + 1), .ref (b + 19), .ref (b + 37), .int 0, .ref (b + 55), .ref (b + 66), .ref (b + 67), .ref (b + 68), .ref (b + 86), .ref (b + 128), .null]) C0 hP hS rfl inG11 tyX11 tyX11_ok nmX11 9 (by decide) wd_221 (Or.inr ⟨hin, rfl⟩) rfl rfl (Nat.le_of_ble_eq_true rfl) rfl dX11_init_146 (fun H locs hP hS => ?_)
  refine lv_aload_n hx hb dX11_init_149 rfl (lv_at hl 2 rfl) ?_
  refine lv_iconst (v := 3) hx hb dX11_init_150 (by decide) ?_
  refine lv_iconst (v := 3) hx hb dX11_init_151 (by decide) ?_
  refine z_mna (N' := 3) (K' := 3) C0 hP hS ⟨wd_210, wd_142⟩ (by decide) (by decide) (by decide) (by decide) (Nat.le_of_ble_eq_true rfl) (Nat.le_of_ble_eq_true rfl) (Nat.le_of_ble_eq_true rfl) (Nat.le_of_ble_eq_true rfl) (Nat.le_of_ble_eq_true rfl) (n := 132) (by first | exact hZ | (simp only [List.length_append, List.length_cons, List.length_replicate]; omega)) dX11_init_152 (fun H hP hS => ?_)
  refine z_put (fs1 := [.ref (b + 1), .ref (b + 19), .ref (b + 37), .int 0, .ref (b + 55), .ref (b + 66), .ref (b + 67), .ref (b + 68), .ref (b + 86), .ref (b + 128), .ref (b + 132)]) C0 hP hS rfl inG11 tyX11 tyX11_ok nmX11 10 (by decide) wd_222 (Or.inr ⟨hin, rfl⟩) rfl rfl (Nat.le_of_ble_eq_true rfl) rfl dX11_init_156 (fun H locs hP hS => ?_)
  exact y_ret C0 hP hS dX11_init_159

set_option maxRecDepth 100000 in
set_option maxHeartbeats 4000000 in
theorem n_X11_loop {p : Program} {e : Env} {s : State} {m : MethodId} {args : Array Value} {below : List Frame} {meth : Method} {c : Code} (l : Launch) (b : Nat) (C0 : XC D ct p s m args meth c cX11_init 3 none RX11) (hin : meth.name = "<init>") : ∀ (k d : Nat), d + k = 8 → ∀ {H : Heap} {locs : List Loc} {ls : Array Slot}, RP D b (O11 b :: st11 ct b d) H → va_S (AB b) s.heap H locs → lv_has ls 3 [(2, .int (nI d)), (1, .ref (b + 69)), (0, .ref (b + 0))] → W p l e { frames := 3, cells := 135, slots := 1671, locals := 64 } s m args below meth c H locs (69 + 2 * d) (454 + 103 * d) (MQ below (va_Qv (fun (_ : Unit) => True) (fun _ t => RPK D ct b (cells_X11 ct b) t) (AB b)) args s 135 1671 (AB b)) (F0 m 95 ls []) := by
  intro k
  induction k with
  | zero =>
    intro d hd H locs ls hP hS hl
    obtain ⟨hx, hb, hr, hml, hown, hts, hK, hlocks, hNs⟩ := id C0
    have h8 : d = 8 := by omega
    subst h8
    refine lv_iload_n hx hb dX11_init_95 rfl (lv_at hl 0 rfl) ?_
    refine lv_bipush (v := 8) hx hb dX11_init_96 (by decide) ?_
    refine lv_icmp_ge (tgt := 127) hx hb dX11_init_98 (by decide) (fun _ => ?_) (fun z => absurd (by decide) z)
    exact n_X11_tail l b C0 hin hP hS hl
  | succ k ih =>
    intro d hd H locs ls hP hS hl
    obtain ⟨hx, hb, hr, hml, hown, hts, hK, hlocks, hNs⟩ := id C0
    have hd8 : d < 8 := by omega
    refine lv_iload_n hx hb dX11_init_95 rfl (lv_at hl 0 rfl) ?_
    refine lv_bipush (v := 8) hx hb dX11_init_96 (by decide) ?_
    refine lv_icmp_ge (tgt := 127) hx hb dX11_init_98 (by decide) (fun z => absurd z (nI_ge (b := 8) hd8 (by decide))) (fun _ => ?_)
    refine lv_aload_n hx hb dX11_init_101 rfl (lv_at hl 2 rfl) ?_
    refine z_get C0 hP rfl inG11 6 (by decide) wd_218 rfl dX11_init_102 ?_
    refine lv_iload_n hx hb dX11_init_105 rfl (lv_at hl 0 rfl) ?_
    refine lv_aload_n hx hb dX11_init_106 rfl (lv_at hl 1 rfl) ?_
    refine z_aast (k := 66) (q := 68) (t0 := 3) (ci := 7) C0 hP hS (at_0 (P11_len ct b)) (at_2 (P11_len ct b)) rfl rfl (inb_nI hd8 (by decide)) dX11_init_107 (fun H locs hP hS => ?_)
    unfold st11 at hP
    rw [set_0 (P11_len ct b)] at hP
    refine lv_aload_n hx hb dX11_init_108 rfl (lv_at hl 2 rfl) ?_
    refine z_get C0 hP rfl inG11 7 (by decide) wd_219 rfl dX11_init_109 ?_
    refine lv_iload_n hx hb dX11_init_112 rfl (lv_at hl 0 rfl) ?_
    refine z_new (ci := 8) (fs := [.int 0, .int 0, .null]) C0 hP hS rfl inG8 tyX8 tyX8_ok ⟨wd_190, wd_193, wd_5⟩ (fun j hj => by rcases (show j = 0 ∨ j = 1 ∨ j = 2 by omega) with rfl | rfl | rfl <;> rfl) (show 69 + 2 * d + 1 ≤ 135 by omega) (show 454 + 103 * d + 3 ≤ 1671 by omega) (n := 2 * d + 70) (by rw [List.length_append, P11_len]; simp only [List.length_cons, rq11_len]; omega) dX11_init_113 (fun H hP hS => ?_)
    refine lv_dup hx hb dX11_init_116 rfl ?_
    refine z_ctor (k := 2 * d + 70) (As := []) C0 (n_X8 l (b + (2 * d + 70))) ⟨wd_196, wd_194, wd_195, wd_5⟩ ⟨rfl, kd_X8_init.2⟩ ⟨Nat.le_of_ble_eq_true rfl, Nat.le_of_ble_eq_true rfl⟩ hP (by rw [List.length_append, P11_len]; simp only [List.length_cons, rq11_len]; omega) rfl hl.1 rfl (Nat.le_of_ble_eq_true rfl) dX11_init_117 ⟨show 69 + 2 * d + 1 + 1 ≤ 135 by omega, show 454 + 103 * d + 3 + 100 ≤ 1671 by omega⟩ hS (fun H locs hP hS => ?_)
    rw [List.append_assoc] at hP
    refine z_aast (k := 67) (q := 2 * d + 69) (t0 := 4) (ci := 8) C0 hP hS (at_1 (P11_len ct b)) (by rw [← List.append_assoc]; exact at_0 (by rw [List.length_append, P11_len]; simp only [List.length_cons, rq11_len]; omega)) rfl rfl (inb_nI hd8 (by decide)) dX11_init_120 (fun H locs hP hS => ?_)
    rw [List.cons_append, List.cons_append, List.cons_append, set_1 (P11_len ct b)] at hP
    refine lv_iinc (v := nI (d + 1)) (lv' := [(2, .int (nI (d + 1))), (1, .ref (b + 69)), (0, .ref (b + 0))]) hx hb dX11_init_121 hl (k := 0) rfl (nI_1 d) (by decide) rfl (fun ls hl => ?_)
    refine lv_goto (tgt := 95) hx hb dX11_init_124 (by decide) ?_
    refine W.cs (cells' := 69 + 2 * (d + 1)) (slots' := 454 + 103 * (d + 1)) (by omega) (by omega) ?_
    exact ih (d + 1) (by omega) hP hS hl
set_option maxRecDepth 100000 in
set_option maxHeartbeats 4000000 in
theorem n_X11 (l : Launch) (b : Nat) : Met l yX11_init (Cond.code yX11_init cX11_init 3 none :: tG) { frames := 3, cells := 135, slots := 1671, locals := 64 } (va_Pc [.ref b] (RPK D ct b [.inr (11, [.null, .null, .null, .int 0, .null, .null, .null, .null, .null, .null, .null])])) (va_Qv (fun (_ : Unit) => True) (fun _ t => RPK D ct b (cells_X11 ct b) t) (AB b)) 135 1671 (AB b) := by
  refine mk_metR (by decide +kernel) (Nat.le_of_ble_eq_true rfl) (fun p e s m args below meth c ls C0 hP hl hin => ?_)
  have hS : va_S (AB b) s.heap s.heap [] := va_S.rf
  have hl : lv_has ls 3 [(0, .ref (b + 0))] := hl
  have hin : meth.name = "<init>" := hin
  obtain ⟨hx, hb, hr, hml, hown, hts, hK, hlocks, hNs⟩ := id C0
  refine lv_aload_n hx hb dX11_init_0 rfl (lv_at hl 0 rfl) ?_
  refine W.objInit hx hb hown (hts _ wd_34) (hts _ wd_27) (hts _ wd_28) rfl (by rw [hml]; exact hl.1) rfl dX11_init_1 (Nat.le_of_ble_eq_true rfl) (Nat.le_of_ble_eq_true rfl) ?_
  refine W.eq (g2 := F0 m 4 ls []) rfl ?_
  refine lv_aload_n hx hb dX11_init_4 rfl (lv_at hl 0 rfl) ?_
  refine z_new (ci := 10) (fs := [.int 0, .null, .null, .null, .null, .null, .int 0, .null, .null, .null, .null, .int 0, .null, .null, .null, .null, .null, .null, .null]) C0 hP hS rfl inG10 tyX10 tyX10_ok ⟨wd_35, wd_36, wd_2⟩ (fun j hj => by rcases (show j = 0 ∨ j = 1 ∨ j = 2 ∨ j = 3 ∨ j = 4 ∨ j = 5 ∨ j = 6 ∨ j = 7 ∨ j = 8 ∨ j = 9 ∨ j = 10 ∨ j = 11 ∨ j = 12 ∨ j = 13 ∨ j = 14 ∨ j = 15 ∨ j = 16 ∨ j = 17 ∨ j = 18 by omega) with rfl | rfl | rfl | rfl | rfl | rfl | rfl | rfl | rfl | rfl | rfl | rfl | rfl | rfl | rfl | rfl | rfl | rfl | rfl <;> rfl) (Nat.le_of_ble_eq_true rfl) (Nat.le_of_ble_eq_true rfl) (n := 1) rfl dX11_init_5 (fun H hP hS => ?_)
  refine lv_dup hx hb dX11_init_8 rfl ?_
  refine z_ctor (k := 1) (As := []) C0 (n_X10 l (b + 1)) ⟨wd_39, wd_37, wd_38, wd_2⟩ ⟨rfl, kd_X10_init.2⟩ ⟨Nat.le_of_ble_eq_true rfl, Nat.le_of_ble_eq_true rfl⟩ hP rfl rfl hl.1 rfl (Nat.le_of_ble_eq_true rfl) dX11_init_9 ⟨Nat.le_of_ble_eq_true rfl, Nat.le_of_ble_eq_true rfl⟩ hS (fun H locs hP hS => ?_)
  refine z_put (fs1 := [.ref (b + 1), .null, .null, .int 0, .null, .null, .null, .null, .null, .null, .null]) C0 hP hS rfl inG11 tyX11 tyX11_ok nmX11 0 (by decide) wd_212 (Or.inr ⟨hin, rfl⟩) rfl rfl (Nat.le_of_ble_eq_true rfl) rfl dX11_init_12 (fun H locs hP hS => ?_)
  refine lv_aload_n hx hb dX11_init_15 rfl (lv_at hl 0 rfl) ?_
  refine z_new (ci := 10) (fs := [.int 0, .null, .null, .null, .null, .null, .int 0, .null, .null, .null, .null, .int 0, .null, .null, .null, .null, .null, .null, .null]) C0 hP hS rfl inG10 tyX10 tyX10_ok ⟨wd_35, wd_36, wd_2⟩ (fun j hj => by rcases (show j = 0 ∨ j = 1 ∨ j = 2 ∨ j = 3 ∨ j = 4 ∨ j = 5 ∨ j = 6 ∨ j = 7 ∨ j = 8 ∨ j = 9 ∨ j = 10 ∨ j = 11 ∨ j = 12 ∨ j = 13 ∨ j = 14 ∨ j = 15 ∨ j = 16 ∨ j = 17 ∨ j = 18 by omega) with rfl | rfl | rfl | rfl | rfl | rfl | rfl | rfl | rfl | rfl | rfl | rfl | rfl | rfl | rfl | rfl | rfl | rfl | rfl <;> rfl) (Nat.le_of_ble_eq_true rfl) (Nat.le_of_ble_eq_true rfl) (n := 19) rfl dX11_init_16 (fun H hP hS => ?_)
  refine lv_dup hx hb dX11_init_19 rfl ?_
  refine z_ctor (k := 19) (As := []) C0 (n_X10 l (b + 19)) ⟨wd_39, wd_37, wd_38, wd_2⟩ ⟨rfl, kd_X10_init.2⟩ ⟨Nat.le_of_ble_eq_true rfl, Nat.le_of_ble_eq_true rfl⟩ hP rfl rfl hl.1 rfl (Nat.le_of_ble_eq_true rfl) dX11_init_20 ⟨Nat.le_of_ble_eq_true rfl, Nat.le_of_ble_eq_true rfl⟩ hS (fun H locs hP hS => ?_)
  refine z_put (fs1 := [.ref (b + 1), .ref (b + 19), .null, .int 0, .null, .null, .null, .null, .null, .null, .null]) C0 hP hS rfl inG11 tyX11 tyX11_ok nmX11 1 (by decide) wd_213 (Or.inr ⟨hin, rfl⟩) rfl rfl (Nat.le_of_ble_eq_true rfl) rfl dX11_init_23 (fun H locs hP hS => ?_)
  refine lv_aload_n hx hb dX11_init_26 rfl (lv_at hl 0 rfl) ?_
  refine z_new (ci := 10) (fs := [.int 0, .null, .null, .null, .null, .null, .int 0, .null, .null, .null, .null, .int 0, .null, .null, .null, .null, .null, .null, .null]) C0 hP hS rfl inG10 tyX10 tyX10_ok ⟨wd_35, wd_36, wd_2⟩ (fun j hj => by rcases (show j = 0 ∨ j = 1 ∨ j = 2 ∨ j = 3 ∨ j = 4 ∨ j = 5 ∨ j = 6 ∨ j = 7 ∨ j = 8 ∨ j = 9 ∨ j = 10 ∨ j = 11 ∨ j = 12 ∨ j = 13 ∨ j = 14 ∨ j = 15 ∨ j = 16 ∨ j = 17 ∨ j = 18 by omega) with rfl | rfl | rfl | rfl | rfl | rfl | rfl | rfl | rfl | rfl | rfl | rfl | rfl | rfl | rfl | rfl | rfl | rfl | rfl <;> rfl) (Nat.le_of_ble_eq_true rfl) (Nat.le_of_ble_eq_true rfl) (n := 37) rfl dX11_init_27 (fun H hP hS => ?_)
  refine lv_dup hx hb dX11_init_30 rfl ?_
  refine z_ctor (k := 37) (As := []) C0 (n_X10 l (b + 37)) ⟨wd_39, wd_37, wd_38, wd_2⟩ ⟨rfl, kd_X10_init.2⟩ ⟨Nat.le_of_ble_eq_true rfl, Nat.le_of_ble_eq_true rfl⟩ hP rfl rfl hl.1 rfl (Nat.le_of_ble_eq_true rfl) dX11_init_31 ⟨Nat.le_of_ble_eq_true rfl, Nat.le_of_ble_eq_true rfl⟩ hS (fun H locs hP hS => ?_)
  refine z_put (fs1 := [.ref (b + 1), .ref (b + 19), .ref (b + 37), .int 0, .null, .null, .null, .null, .null, .null, .null]) C0 hP hS rfl inG11 tyX11 tyX11_ok nmX11 2 (by decide) wd_214 (Or.inr ⟨hin, rfl⟩) rfl rfl (Nat.le_of_ble_eq_true rfl) rfl dX11_init_34 (fun H locs hP hS => ?_)
  refine lv_aload_n hx hb dX11_init_37 rfl (lv_at hl 0 rfl) ?_
  refine lv_iconst (v := 0) hx hb dX11_init_38 (by decide) ?_
  refine z_put (fs1 := [.ref (b + 1), .ref (b + 19), .ref (b + 37), .int 0, .null, .null, .null, .null, .null, .null, .null]) C0 hP hS rfl inG11 tyX11 tyX11_ok nmX11 3 (by decide) wd_215 (Or.inl rfl) rfl rfl (Nat.le_of_ble_eq_true rfl) rfl dX11_init_39 (fun H locs hP hS => ?_)
  refine lv_aload_n hx hb dX11_init_42 rfl (lv_at hl 0 rfl) ?_
  refine z_new (ci := 2) (fs := [.null, .int 0, .null, .null, .null, .null, .null, .null, .null, .null, .null, .null]) C0 hP hS rfl inG2 tyX2 tyX2_ok ⟨wd_143, wd_144, wd_4⟩ (fun j hj => by rcases (show j = 0 ∨ j = 1 ∨ j = 2 ∨ j = 3 ∨ j = 4 ∨ j = 5 ∨ j = 6 ∨ j = 7 ∨ j = 8 ∨ j = 9 ∨ j = 10 ∨ j = 11 by omega) with rfl | rfl | rfl | rfl | rfl | rfl | rfl | rfl | rfl | rfl | rfl | rfl <;> rfl) (Nat.le_of_ble_eq_true rfl) (Nat.le_of_ble_eq_true rfl) (n := 55) rfl dX11_init_43 (fun H hP hS => ?_)
  refine lv_dup hx hb dX11_init_46 rfl ?_
  refine lv_aload_n hx hb dX11_init_47 rfl (lv_at hl 0 rfl) ?_
  refine z_get C0 hP rfl inG11 0 (by decide) wd_212 rfl dX11_init_48 ?_
  refine z_ctor (k := 55) (As := [.ref (b + 1)]) C0 (n_X2 l (b + 55) (b + 1)) ⟨wd_147, wd_145, wd_146, wd_4⟩ ⟨rfl, kd_X2_init.2⟩ ⟨Nat.le_of_ble_eq_true rfl, Nat.le_of_ble_eq_true rfl⟩ hP rfl rfl hl.1 rfl (Nat.le_of_ble_eq_true rfl) dX11_init_51 ⟨Nat.le_of_ble_eq_true rfl, Nat.le_of_ble_eq_true rfl⟩ hS (fun H locs hP hS => ?_)
  refine z_put (fs1 := [.ref (b + 1), .ref (b + 19), .ref (b + 37), .int 0, .ref (b + 55), .null, .null, .null, .null, .null, .null]) C0 hP hS rfl inG11 tyX11 tyX11_ok nmX11 4 (by decide) wd_216 (Or.inr ⟨hin, rfl⟩) rfl rfl (Nat.le_of_ble_eq_true rfl) rfl dX11_init_54 (fun H locs hP hS => ?_)
  refine lv_aload_n hx hb dX11_init_57 rfl (lv_at hl 0 rfl) ?_
  refine lv_bipush (v := 8) hx hb dX11_init_58 (by decide) ?_
  refine z_newa (atype := .int) (ty := .int) (q := 0) (N := 8) (a0 := (8, .inl (fun _ => 0))) C0 hP hS rfl wd_142 rfl (by simp) (fun _ => rfl) (by decide) (by decide) (Nat.le_of_ble_eq_true rfl) (Nat.le_of_ble_eq_true rfl) (Nat.le_of_ble_eq_true rfl) (n := 66) rfl dX11_init_60 (fun H hP hS => ?_)
  refine z_put (fs1 := [.ref (b + 1), .ref (b + 19), .ref (b + 37), .int 0, .ref (b + 55), .ref (b + 66), .null, .null, .null, .null, .null]) C0 hP hS rfl inG11 tyX11 tyX11_ok nmX11 5 (by decide) wd_217 (Or.inr ⟨hin, rfl⟩) rfl rfl (Nat.le_of_ble_eq_true rfl) rfl dX11_init_62 (fun H locs hP hS => ?_)
  refine lv_aload_n hx hb dX11_init_65 rfl (lv_at hl 0 rfl) ?_
  refine lv_bipush (v := 8) hx hb dX11_init_66 (by decide) ?_
  refine z_newq (q := 3) (N := 8) (C := RX7) C0 hP hS wd_189 hNs.2.1 rfl (by decide) (by decide) (Nat.le_of_ble_eq_true rfl) (Nat.le_of_ble_eq_true rfl) (Nat.le_of_ble_eq_true rfl) (n := 67) rfl dX11_init_68 (fun H hP hS => ?_)
  refine z_put (fs1 := [.ref (b + 1), .ref (b + 19), .ref (b + 37), .int 0, .ref (b + 55), .ref (b + 66), .ref (b + 67), .null, .null, .null, .null]) C0 hP hS rfl inG11 tyX11 tyX11_ok nmX11 6 (by decide) wd_218 (Or.inr ⟨hin, rfl⟩) rfl rfl (Nat.le_of_ble_eq_true rfl) rfl dX11_init_71 (fun H locs hP hS => ?_)
  refine lv_aload_n hx hb dX11_init_74 rfl (lv_at hl 0 rfl) ?_
  refine lv_bipush (v := 8) hx hb dX11_init_75 (by decide) ?_
  refine z_newq (q := 4) (N := 8) (C := RX8) C0 hP hS wd_190 hNs.2.2.1 rfl (by decide) (by decide) (Nat.le_of_ble_eq_true rfl) (Nat.le_of_ble_eq_true rfl) (Nat.le_of_ble_eq_true rfl) (n := 68) rfl dX11_init_77 (fun H hP hS => ?_)
  refine z_put (fs1 := [.ref (b + 1), .ref (b + 19), .ref (b + 37), .int 0, .ref (b + 55), .ref (b + 66), .ref (b + 67), .ref (b + 68), .null, .null, .null]) C0 hP hS rfl inG11 tyX11 tyX11_ok nmX11 7 (by decide) wd_219 (Or.inr ⟨hin, rfl⟩) rfl rfl (Nat.le_of_ble_eq_true rfl) rfl dX11_init_80 (fun H locs hP hS => ?_)
  refine z_new (ci := 7) (fs := [.int 0, .int 0]) C0 hP hS rfl inG7 tyX7 tyX7_ok ⟨wd_189, wd_43, wd_3⟩ (fun j hj => by rcases (show j = 0 ∨ j = 1 by omega) with rfl | rfl <;> rfl) (Nat.le_of_ble_eq_true rfl) (Nat.le_of_ble_eq_true rfl) (n := 69) rfl dX11_init_83 (fun H hP hS => ?_)
  refine lv_dup hx hb dX11_init_86 rfl ?_
  refine lv_iconst (v := 0) hx hb dX11_init_87 (by decide) ?_
  refine lv_iconst (v := 0) hx hb dX11_init_88 (by decide) ?_
  refine z_ctor (k := 69) (As := [.int 0, .int 0]) C0 (n_X7_on_7 l (b + 69) 0 0) ⟨wd_46, wd_192, wd_45, wd_3⟩ ⟨rfl, kd_X7_init.2⟩ ⟨Nat.le_of_ble_eq_true rfl, Nat.le_of_ble_eq_true rfl⟩ hP rfl rfl hl.1 rfl (Nat.le_of_ble_eq_true rfl) dX11_init_89 ⟨Nat.le_of_ble_eq_true rfl, Nat.le_of_ble_eq_true rfl⟩ hS (fun H locs hP hS => ?_)
  refine lv_astore_n (lv' := [(1, .ref (b + 69)), (0, .ref (b + 0))]) hx hb dX11_init_92 rfl hl (by decide) rfl (fun ls hl => ?_)
  refine lv_iconst (v := 0) hx hb dX11_init_93 (by decide) ?_
  refine lv_istore_n (lv' := [(2, .int 0), (1, .ref (b + 69)), (0, .ref (b + 0))]) hx hb dX11_init_94 rfl hl (by decide) rfl (fun ls hl => ?_)
  rw [List.append_assoc, List.append_assoc] at hP
  exact n_X11_loop l b C0 hin 8 0 rfl hP hS hl
end CTORS
