theorem wd_521 : Cond.code yJ0_length_8abf5 cJ0_length_8abf5 1 (some .int) ∈ tG := tG_s3 41 rfl rfl
theorem wd_518 : Cond.methodLink RX10 115 yJ0_length_8abf5 ∈ tG := tG_s3 38 rfl rfl
theorem wd_519 : Cond.instanceMethod yJ0_length_8abf5 ∈ tG := tG_s3 39 rfl rfl
theorem wd_520 : Cond.selects RJ0 yJ0_length_8abf5 yJ0_length_8abf5 ∈ tG := tG_s3 40 rfl rfl
theorem wd_531 : Cond.code yJ0_charAt_5068e cJ0_charAt_5068e 2 (some .char) ∈ tG := tG_s3 51 rfl rfl
theorem wd_528 : Cond.methodLink RX10 137 yJ0_charAt_5068e ∈ tG := tG_s3 48 rfl rfl
theorem wd_529 : Cond.instanceMethod yJ0_charAt_5068e ∈ tG := tG_s3 49 rfl rfl
theorem wd_530 : Cond.selects RJ0 yJ0_charAt_5068e yJ0_charAt_5068e ∈ tG := tG_s3 50 rfl rfl
theorem wd_517 : Cond.code yJ0_isEmpty_aae02 cJ0_isEmpty_aae02 1 (some .boolean) ∈ tG := tG_s3 37 rfl rfl
theorem wd_514 : Cond.methodLink RX10 133 yJ0_isEmpty_aae02 ∈ tG := tG_s3 34 rfl rfl
theorem wd_515 : Cond.instanceMethod yJ0_isEmpty_aae02 ∈ tG := tG_s3 35 rfl rfl
theorem wd_516 : Cond.selects RJ0 yJ0_isEmpty_aae02 yJ0_isEmpty_aae02 ∈ tG := tG_s3 36 rfl rfl
theorem kd_J0_length_8abf5 : yJ0_length_8abf5.cls = RJ0 ∧ yJ0_length_8abf5.cls ≠ "java/lang/invoke/MethodHandle" ∧ yJ0_length_8abf5.cls ≠ "java/lang/invoke/VarHandle" ∧ (parseMethodDescriptor yJ0_length_8abf5.desc).map (fun d => d.parameters.length) = some 0 := by decide +kernel
theorem kd_J0_charAt_5068e : yJ0_charAt_5068e.cls = RJ0 ∧ yJ0_charAt_5068e.cls ≠ "java/lang/invoke/MethodHandle" ∧ yJ0_charAt_5068e.cls ≠ "java/lang/invoke/VarHandle" ∧ (parseMethodDescriptor yJ0_charAt_5068e.desc).map (fun d => d.parameters.length) = some 1 := by decide +kernel
theorem kd_J0_isEmpty_aae02 : yJ0_isEmpty_aae02.cls = RJ0 ∧ yJ0_isEmpty_aae02.cls ≠ "java/lang/invoke/MethodHandle" ∧ yJ0_isEmpty_aae02.cls ≠ "java/lang/invoke/VarHandle" ∧ (parseMethodDescriptor yJ0_isEmpty_aae02.desc).map (fun d => d.parameters.length) = some 0 := by decide +kernel
theorem dX10_shapeBehind_0 : decode cX10_shapeBehind 0 = .ok (.iload_n 0, 1) := by decide +kernel
theorem dX10_shapeBehind_1 : decode cX10_shapeBehind 1 = .ok (.tableswitch 98 100 116 #[95, 98, 83, 98, 98, 98, 98, 92, 98, 98, 98, 92, 86, 98, 95, 98, 89], 83) := by decide +kernel
theorem dX10_shapeBehind_84 : decode cX10_shapeBehind 84 = .ok (.ldc 121, 2) := by decide +kernel
theorem dX10_shapeBehind_86 : decode cX10_shapeBehind 86 = .ok (.areturn, 1) := by decide +kernel
theorem dX10_shapeBehind_87 : decode cX10_shapeBehind 87 = .ok (.ldc 123, 2) := by decide +kernel
theorem dX10_shapeBehind_89 : decode cX10_shapeBehind 89 = .ok (.areturn, 1) := by decide +kernel
theorem dX10_shapeBehind_90 : decode cX10_shapeBehind 90 = .ok (.ldc 125, 2) := by decide +kernel
theorem dX10_shapeBehind_92 : decode cX10_shapeBehind 92 = .ok (.areturn, 1) := by decide +kernel
theorem dX10_shapeBehind_93 : decode cX10_shapeBehind 93 = .ok (.ldc 127, 2) := by decide +kernel
theorem dX10_shapeBehind_95 : decode cX10_shapeBehind 95 = .ok (.areturn, 1) := by decide +kernel
theorem dX10_shapeBehind_96 : decode cX10_shapeBehind 96 = .ok (.ldc 129, 2) := by decide +kernel
theorem dX10_shapeBehind_98 : decode cX10_shapeBehind 98 = .ok (.areturn, 1) := by decide +kernel
theorem dX10_shapeBehind_99 : decode cX10_shapeBehind 99 = .ok (.ldc 131, 2) := by decide +kernel
theorem dX10_shapeBehind_101 : decode cX10_shapeBehind 101 = .ok (.areturn, 1) := by decide +kernel
theorem dX10_firstWrong_0 : decode cX10_firstWrong 0 = .ok (.iconst 0, 1) := by decide +kernel
theorem dX10_firstWrong_1 : decode cX10_firstWrong 1 = .ok (.istore_n 1, 1) := by decide +kernel
theorem dX10_firstWrong_2 : decode cX10_firstWrong 2 = .ok (.aload_n 0, 1) := by decide +kernel
theorem dX10_firstWrong_3 : decode cX10_firstWrong 3 = .ok (.iload_n 1, 1) := by decide +kernel
theorem dX10_firstWrong_4 : decode cX10_firstWrong 4 = .ok (.invokevirtual 107, 3) := by decide +kernel
theorem dX10_firstWrong_7 : decode cX10_firstWrong 7 = .ok (.invokestatic 111, 3) := by decide +kernel
theorem dX10_firstWrong_10 : decode cX10_firstWrong 10 = .ok (.astore_n 2, 1) := by decide +kernel
theorem dX10_firstWrong_11 : decode cX10_firstWrong 11 = .ok (.aload_n 2, 1) := by decide +kernel
theorem dX10_firstWrong_12 : decode cX10_firstWrong 12 = .ok (.invokevirtual 133, 3) := by decide +kernel
theorem dX10_firstWrong_15 : decode cX10_firstWrong 15 = .ok (.ifCond .eq 5, 3) := by decide +kernel
theorem dX10_firstWrong_18 : decode cX10_firstWrong 18 = .ok (.iload_n 1, 1) := by decide +kernel
theorem dX10_firstWrong_19 : decode cX10_firstWrong 19 = .ok (.ireturn, 1) := by decide +kernel
theorem dX10_firstWrong_20 : decode cX10_firstWrong 20 = .ok (.iconst 0, 1) := by decide +kernel
theorem dX10_firstWrong_21 : decode cX10_firstWrong 21 = .ok (.istore_n 3, 1) := by decide +kernel
theorem dX10_firstWrong_22 : decode cX10_firstWrong 22 = .ok (.iload_n 3, 1) := by decide +kernel
theorem dX10_firstWrong_23 : decode cX10_firstWrong 23 = .ok (.aload_n 2, 1) := by decide +kernel
theorem dX10_firstWrong_24 : decode cX10_firstWrong 24 = .ok (.invokevirtual 115, 3) := by decide +kernel
theorem dX10_firstWrong_27 : decode cX10_firstWrong 27 = .ok (.if_icmp .ge 30, 3) := by decide +kernel
theorem dX10_firstWrong_30 : decode cX10_firstWrong 30 = .ok (.iinc 1 1, 3) := by decide +kernel
theorem dX10_firstWrong_33 : decode cX10_firstWrong 33 = .ok (.aload_n 2, 1) := by decide +kernel
theorem dX10_firstWrong_34 : decode cX10_firstWrong 34 = .ok (.iload_n 3, 1) := by decide +kernel
theorem dX10_firstWrong_35 : decode cX10_firstWrong 35 = .ok (.invokevirtual 137, 3) := by decide +kernel
theorem dX10_firstWrong_38 : decode cX10_firstWrong 38 = .ok (.aload_n 0, 1) := by decide +kernel
theorem dX10_firstWrong_39 : decode cX10_firstWrong 39 = .ok (.iload_n 1, 1) := by decide +kernel
theorem dX10_firstWrong_40 : decode cX10_firstWrong 40 = .ok (.invokevirtual 107, 3) := by decide +kernel
theorem dX10_firstWrong_43 : decode cX10_firstWrong 43 = .ok (.invokestatic 141, 3) := by decide +kernel
theorem dX10_firstWrong_46 : decode cX10_firstWrong 46 = .ok (.ifCond .ne 5, 3) := by decide +kernel
theorem dX10_firstWrong_49 : decode cX10_firstWrong 49 = .ok (.iload_n 1, 1) := by decide +kernel
theorem dX10_firstWrong_50 : decode cX10_firstWrong 50 = .ok (.ireturn, 1) := by decide +kernel
theorem dX10_firstWrong_51 : decode cX10_firstWrong 51 = .ok (.iinc 3 1, 3) := by decide +kernel
theorem dX10_firstWrong_54 : decode cX10_firstWrong 54 = .ok (.goto (-32), 3) := by decide +kernel
theorem dX10_firstWrong_57 : decode cX10_firstWrong 57 = .ok (.iinc 1 1, 3) := by decide +kernel
theorem dX10_firstWrong_60 : decode cX10_firstWrong 60 = .ok (.iload_n 1, 1) := by decide +kernel
theorem dX10_firstWrong_61 : decode cX10_firstWrong 61 = .ok (.aload_n 0, 1) := by decide +kernel
theorem dX10_firstWrong_62 : decode cX10_firstWrong 62 = .ok (.getfield 98, 3) := by decide +kernel
theorem dX10_firstWrong_65 : decode cX10_firstWrong 65 = .ok (.if_icmp .lt (-63), 3) := by decide +kernel
theorem dX10_firstWrong_68 : decode cX10_firstWrong 68 = .ok (.bipush (-4), 2) := by decide +kernel
theorem dX10_firstWrong_70 : decode cX10_firstWrong 70 = .ok (.ireturn, 1) := by decide +kernel
theorem dX10_hear_0 : decode cX10_hear 0 = .ok (.aload_n 1, 1) := by decide +kernel
theorem dX10_hear_1 : decode cX10_hear 1 = .ok (.invokestatic 94, 3) := by decide +kernel
theorem dX10_hear_4 : decode cX10_hear 4 = .ok (.istore_n 2, 1) := by decide +kernel
theorem dX10_hear_5 : decode cX10_hear 5 = .ok (.iload_n 2, 1) := by decide +kernel
theorem dX10_hear_6 : decode cX10_hear 6 = .ok (.ifCond .lt 9, 3) := by decide +kernel
theorem dX10_hear_9 : decode cX10_hear 9 = .ok (.sipush (-1000), 3) := by decide +kernel
theorem dX10_hear_12 : decode cX10_hear 12 = .ok (.iload_n 2, 1) := by decide +kernel
theorem dX10_hear_13 : decode cX10_hear 13 = .ok (.isub, 1) := by decide +kernel
theorem dX10_hear_14 : decode cX10_hear 14 = .ok (.ireturn, 1) := by decide +kernel
theorem dX10_hear_15 : decode cX10_hear 15 = .ok (.iconst 0, 1) := by decide +kernel
theorem dX10_hear_16 : decode cX10_hear 16 = .ok (.istore_n 3, 1) := by decide +kernel
theorem dX10_hear_17 : decode cX10_hear 17 = .ok (.iconst 0, 1) := by decide +kernel
theorem dX10_hear_18 : decode cX10_hear 18 = .ok (.istore 4, 2) := by decide +kernel
theorem dX10_hear_20 : decode cX10_hear 20 = .ok (.iload 4, 2) := by decide +kernel
theorem dX10_hear_22 : decode cX10_hear 22 = .ok (.aload_n 1, 1) := by decide +kernel
theorem dX10_hear_23 : decode cX10_hear 23 = .ok (.getfield 98, 3) := by decide +kernel
theorem dX10_hear_26 : decode cX10_hear 26 = .ok (.if_icmp .ge 45, 3) := by decide +kernel
theorem dX10_hear_29 : decode cX10_hear 29 = .ok (.aload_n 0, 1) := by decide +kernel
theorem dX10_hear_30 : decode cX10_hear 30 = .ok (.aload_n 1, 1) := by decide +kernel
theorem dX10_hear_31 : decode cX10_hear 31 = .ok (.iload 4, 2) := by decide +kernel
theorem dX10_hear_33 : decode cX10_hear 33 = .ok (.invokevirtual 103, 3) := by decide +kernel
theorem dX10_hear_36 : decode cX10_hear 36 = .ok (.ifCond .ge 10, 3) := by decide +kernel
theorem dX10_hear_39 : decode cX10_hear 39 = .ok (.sipush (-2000), 3) := by decide +kernel
theorem dX10_hear_42 : decode cX10_hear 42 = .ok (.iload 4, 2) := by decide +kernel
theorem dX10_hear_44 : decode cX10_hear 44 = .ok (.isub, 1) := by decide +kernel
theorem dX10_hear_45 : decode cX10_hear 45 = .ok (.ireturn, 1) := by decide +kernel
theorem dX10_hear_46 : decode cX10_hear 46 = .ok (.iinc 3 1, 3) := by decide +kernel
theorem dX10_hear_49 : decode cX10_hear 49 = .ok (.iload 4, 2) := by decide +kernel
theorem dX10_hear_51 : decode cX10_hear 51 = .ok (.iconst 1, 1) := by decide +kernel
theorem dX10_hear_52 : decode cX10_hear 52 = .ok (.aload_n 1, 1) := by decide +kernel
theorem dX10_hear_53 : decode cX10_hear 53 = .ok (.iload 4, 2) := by decide +kernel
theorem dX10_hear_55 : decode cX10_hear 55 = .ok (.invokevirtual 107, 3) := by decide +kernel
theorem dX10_hear_58 : decode cX10_hear 58 = .ok (.invokestatic 111, 3) := by decide +kernel
theorem dX10_hear_61 : decode cX10_hear 61 = .ok (.invokevirtual 115, 3) := by decide +kernel
theorem dX10_hear_64 : decode cX10_hear 64 = .ok (.iadd, 1) := by decide +kernel
theorem dX10_hear_65 : decode cX10_hear 65 = .ok (.iadd, 1) := by decide +kernel
theorem dX10_hear_66 : decode cX10_hear 66 = .ok (.istore 4, 2) := by decide +kernel
theorem dX10_hear_68 : decode cX10_hear 68 = .ok (.goto (-48), 3) := by decide +kernel
theorem dX10_hear_71 : decode cX10_hear 71 = .ok (.iload_n 3, 1) := by decide +kernel
theorem dX10_hear_72 : decode cX10_hear 72 = .ok (.ireturn, 1) := by decide +kernel
theorem dX11_town_0 : decode cX11_town 0 = .ok (.aload_n 0, 1) := by decide +kernel
theorem dX11_town_1 : decode cX11_town 1 = .ok (.iload_n 1, 1) := by decide +kernel
theorem dX11_town_2 : decode cX11_town 2 = .ok (.iconst 2, 1) := by decide +kernel
theorem dX11_town_3 : decode cX11_town 3 = .ok (.invokevirtual 66, 3) := by decide +kernel
theorem dX11_town_6 : decode cX11_town 6 = .ok (.istore_n 2, 1) := by decide +kernel
theorem dX11_town_7 : decode cX11_town 7 = .ok (.iload_n 2, 1) := by decide +kernel
theorem dX11_town_8 : decode cX11_town 8 = .ok (.ifCond .eq 5, 3) := by decide +kernel
theorem dX11_town_11 : decode cX11_town 11 = .ok (.iload_n 2, 1) := by decide +kernel
theorem dX11_town_12 : decode cX11_town 12 = .ok (.ireturn, 1) := by decide +kernel
theorem dX11_town_13 : decode cX11_town 13 = .ok (.aload_n 0, 1) := by decide +kernel
theorem dX11_town_14 : decode cX11_town 14 = .ok (.getfield 47, 3) := by decide +kernel
theorem dX11_town_17 : decode cX11_town 17 = .ok (.iload_n 1, 1) := by decide +kernel
theorem dX11_town_18 : decode cX11_town 18 = .ok (.aaload, 1) := by decide +kernel
theorem dX11_town_19 : decode cX11_town 19 = .ok (.getfield 70, 3) := by decide +kernel
theorem dX11_town_22 : decode cX11_town 22 = .ok (.ifCond .eq 6, 3) := by decide +kernel
theorem dX11_town_25 : decode cX11_town 25 = .ok (.bipush (-12), 2) := by decide +kernel
theorem dX11_town_27 : decode cX11_town 27 = .ok (.ireturn, 1) := by decide +kernel
theorem dX11_town_28 : decode cX11_town 28 = .ok (.aload_n 0, 1) := by decide +kernel
theorem dX11_town_29 : decode cX11_town 29 = .ok (.getfield 16, 3) := by decide +kernel
theorem dX11_town_32 : decode cX11_town 32 = .ok (.aload_n 0, 1) := by decide +kernel
theorem dX11_town_33 : decode cX11_town 33 = .ok (.getfield 12, 3) := by decide +kernel
theorem dX11_town_36 : decode cX11_town 36 = .ok (.invokevirtual 74, 3) := by decide +kernel
theorem dX11_town_39 : decode cX11_town 39 = .ok (.aload_n 0, 1) := by decide +kernel
theorem dX11_town_40 : decode cX11_town 40 = .ok (.getfield 16, 3) := by decide +kernel
theorem dX11_town_43 : decode cX11_town 43 = .ok (.aload_n 0, 1) := by decide +kernel
theorem dX11_town_44 : decode cX11_town 44 = .ok (.getfield 47, 3) := by decide +kernel
theorem dX11_town_47 : decode cX11_town 47 = .ok (.iload_n 1, 1) := by decide +kernel
theorem dX11_town_48 : decode cX11_town 48 = .ok (.aaload, 1) := by decide +kernel
theorem dX11_town_49 : decode cX11_town 49 = .ok (.invokevirtual 77, 3) := by decide +kernel
theorem dX11_town_52 : decode cX11_town 52 = .ok (.istore_n 3, 1) := by decide +kernel
theorem dX11_town_53 : decode cX11_town 53 = .ok (.iload_n 3, 1) := by decide +kernel
theorem dX11_town_54 : decode cX11_town 54 = .ok (.ifCond .lt 14, 3) := by decide +kernel
theorem dX11_town_57 : decode cX11_town 57 = .ok (.aload_n 0, 1) := by decide +kernel
theorem dX11_town_58 : decode cX11_town 58 = .ok (.getfield 12, 3) := by decide +kernel
theorem dX11_town_61 : decode cX11_town 61 = .ok (.aload_n 0, 1) := by decide +kernel
theorem dX11_town_62 : decode cX11_town 62 = .ok (.getfield 16, 3) := by decide +kernel
theorem dX11_town_65 : decode cX11_town 65 = .ok (.invokevirtual 74, 3) := by decide +kernel
theorem dX11_town_68 : decode cX11_town 68 = .ok (.iload_n 3, 1) := by decide +kernel
theorem dX11_town_69 : decode cX11_town 69 = .ok (.ireturn, 1) := by decide +kernel
/-! SHAPES, the first wrong byte, a text heard, town. -/
def shp (v : Int32) : Nat := if v = 102 then 0 else if v = 112 then 1 else if v = 116 then 2 else if v = 107 then 3 else if v = 111 then 3 else if v = 100 then 4 else if v = 114 then 4 else 5
theorem shp_lt (v : Int32) : shp v < 6 := by
  unfold shp
  repeat' split
  all_goals decide
theorem shp_else {v : Int32} (h1 : ¬ v = 102) (h2 : ¬ v = 112) (h3 : ¬ v = 116) (h4 : ¬ v = 107) (h5 : ¬ v = 111) (h6 : ¬ v = 100) (h7 : ¬ v = 114) : shp v = 5 := by
  unfold shp
  rw [if_neg h1, if_neg h2, if_neg h3, if_neg h4, if_neg h5, if_neg h6, if_neg h7]
def shN (z : Nat) : Int32 := Int32.ofNat (sLen.getD z 0)
def shC' (z : Nat) (k : Nat) : Int32 := (sByt.getD z []).getD k 0
/-- firstWrong: the bytes of one STATEMENT (inl: the wrong place; inr: the next STATEMENT's) -/
def l_fw_22 (u z : Nat) (S : St) (x : Int32 × Int32) : Option ((Int32 × Int32) ⊕ (Int32 ⊕ Int32)) := if shN z ≤ x.2 then some (.inr (.inr (x.1 + 1))) else gd (inb x.2 (sLen.getD z 0)) ((L_X8_at u (x.1 + 1) S).bind fun r => (L_X10_fitsShape (shC' z x.2.toNatClampNeg) r S).bind fun f => if f = 0 then some (.inr (.inl (x.1 + 1))) else some (.inl (x.1 + 1, x.2 + 1)))
def l_fw_2 (u : Nat) (S : St) (x : Int32) : Option (Int32 ⊕ Int32) := (L_X8_at u x S).bind fun r => if shp r = 5 then some (.inr x) else (lp 12 (l_fw_22 u (shp r) S) (x, 0)).bind fun o => match o with
  | .inl v => some (.inr v)
  | .inr v => if v < gi S u 1 then some (.inl v) else some (.inr (-4))
def L_X10_firstWrong (u : Nat) (S : St) : Option Int32 := lp 1000 (l_fw_2 u S) 0
/-- hear: STATEMENT by STATEMENT -/
def l_hr_20 (t u : Nat) (x : Int32 × Int32 × St) : Option ((Int32 × Int32 × St) ⊕ (Int32 × St)) := if gi x.2.2 u 1 ≤ x.2.1 then some (.inr (x.1, x.2.2)) else (L_X10_hearStatement t u x.2.1 x.2.2).bind fun r => if 0 ≤ r.1 then (L_X8_at u x.2.1 r.2).bind fun v => some (.inl (x.1 + 1, x.2.1 + (1 + shN (shp v)), r.2)) else some (.inr (-2000 - x.2.1, r.2))
def L_X10_hear (t u : Nat) (S : St) : Option (Int32 × St) := (L_X10_firstWrong u S).bind fun w => if w < 0 then lp 40 (l_hr_20 t u) (0, 0, S) else some (-1000 - w, S)
def L_X11_town (a1 : Int32) (S : St) : Option (Int32 × St) := (L_X11_shelfRefusal a1 2 S).bind fun r => if r = 0 then gd (inb a1 8) (if gi S (70 + 2 * a1.toNatClampNeg) 0 = 0 then (L_X10_become 19 1 S).bind fun S1 => (L_X10_hear 19 (70 + 2 * a1.toNatClampNeg) S1).bind fun w => if w.1 < 0 then some (w.1, w.2) else (L_X10_become 1 19 w.2).bind fun S2 => some (w.1, S2) else some (-12, S)) else some (r, S)
theorem lp_s1 {α β : Type} {n : Nat} {body : α → Option (α ⊕ β)} {x : α} {o : β} (h : lp (n + 1) body x = some o) : (∃ y, body x = some (.inl y) ∧ lp n body y = some o) ∨ body x = some (.inr o) := by
  simp only [lp] at h
  cases hb : body x with
  | none => rw [hb] at h; cases h
  | some z =>
    rw [hb] at h
    cases z with
    | inl y => exact Or.inl ⟨y, rfl, h⟩
    | inr b =>
      have e : b = o := Option.some.inj h
      rw [e]
      exact Or.inr rfl
theorem ob_e {α β : Type} {x : Option α} {g : α → Option β} {R : β} (h : x.bind g = some R) : ∃ a, x = some a ∧ g a = some R := by
  cases x with
  | none => cases h
  | some a => exact ⟨a, rfl, h⟩
theorem fz : ∀ i, i < 6 → ∀ j, j < sLen.getD i 0 → True := fun _ _ _ _ => trivial
section XHEAR
variable {p : Program} {e : Env} {s : State} {m : MethodId} {args : Array Value} {below : List Frame} {meth : Method} {c : Code} {D : va_G} {ct : Nat → ClassId} {B : Nat} {Hb : Heap} {adK adV : Nat → Nat}
abbrev qS (D : va_G) (ct : Nat → ClassId) (B : Nat) (Hb : Heap) (S : St) (q : Nat) : Array Value → State → Outcome → State → Prop := va_Qr (fun (_ : Unit) => True) (fun _ a t => a = q ∧ MPK D ct B Hb S t) (AB B)
theorem n_S {l : Launch} {R : Room} {H : Heap} {locs : List Loc} {cells slots mc ms pc : Nat} {Q : State → Prop} {ls : Array Slot} {rest st0 : List Value} {a : Array Value} {H0 : Heap} {S : St} {q : Nat} (hr : va_Run p l e R s m args below meth c H locs cells slots mc ms (F0 m pc ls st0) rest (qS D ct B Hb S q a) (AB B)) (hS : va_S (AB B) H0 H locs) (kk : ∀ (H1 : Heap) (locs1 : List Loc), MP D ct B Hb S H1 → va_S (AB B) H0 H1 locs1 → W p l e R s m args below meth c H1 locs1 (cells + mc) (slots + ms) Q (F0 m (pc + 3) ls (.ref q :: rest))) : W p l e R s m args below meth c H locs cells slots Q (F0 m pc ls st0) :=
  va_callr hr hS (fun _ _ h => h) (fun _ h => h) (fun u a t H1 locs1 ht hvm hp hB hz hk hS1 => by
    obtain ⟨rfl, hB⟩ := hB
    exact kk H1 locs1 (ht ▸ hB.1) hS1)
/-- a call of a method of the receiver's own class, over texts -/
theorem kVE {l : Launch} {R : Room} {H : Heap} {locs : List Loc} {cells slots : Nat} {cc : ByteArray} {pc nL : Nat} {ret : Option FieldType} {own : String} {ls : Array Slot} {rest : List Value} {S : St} (C0 : XC D ct p s m args meth c cc nL ret own) (hE : SK adK adV B s) (hS : va_S (AB B) s.heap H locs) {y : MethodName} {bytes : ByteArray} {maxL fr lo n index mc ms k ci : Nat} {rt : Option FieldType} {C : String} {As st : List Value} {Qc : Array Value → State → Outcome → State → Prop}
    (hM : Met l y (Cond.code y bytes maxL rt :: tG) { frames := fr, cells := mc, slots := ms, locals := lo } (va_Pc (.ref (B + k) :: As) (fun U => MPK D ct B Hb S U ∧ SK adK adV B U)) Qc mc ms (AB B))
    (hw : Cond.code y bytes maxL rt ∈ tG ∧ Cond.methodLink own index y ∈ tG ∧ Cond.instanceMethod y ∈ tG ∧ Cond.selects C y y ∈ tG ∧ Cond.initialized C ∈ tG)
    (hd : y.cls = C ∧ y.cls ≠ "java/lang/invoke/MethodHandle" ∧ y.cls ≠ "java/lang/invoke/VarHandle" ∧ (parseMethodDescriptor y.desc).map (fun d => d.parameters.length) = some n) (hR : fr + 1 ≤ R.frames ∧ 8 + (maxL + 11) + lo ≤ R.locals)
    (hP : MP D ct B Hb S H) {fs : List Value} (he : lay B ct S k = some (.inr (ci, fs))) {T : u_T} {N : Nat} (hc : vwCl[ci]? = some (C, T, N)) (hn : As.length = n) (hsize : ls.size = nL) (hst : st = As.reverse ++ .ref (B + k) :: rest) (hcat : (rest.map fun v => v.category).sum ≤ 8) (hdg : decode cc pc = .ok (.invokevirtual index, 3)) (hf : cells + mc ≤ R.cells ∧ slots + ms ≤ R.slots) :
    va_Run p l e R s m args below meth c H locs cells slots mc ms (F0 m pc ls st) rest (Qc (.ref (B + k) :: As).toArray) (AB B) := by
  obtain ⟨hx, hb, hr, hml, hown, hts, hK, hlocks, hN⟩ := id C0
  obtain ⟨w1, w2, w3, w4, w5⟩ := hw
  refine va_runV (As := As) (rest := rest) (Ts := tG) (own := own) ⟨hx, hb, hml, hown, hts⟩ hM (cwV n hts (tG_gi (fun w hw => ?_)) rfl rfl rfl hd hR) ⟨sk_blind, mpk_recv C0 hP he hc, sk_pre C0 hE hS hP⟩ rfl hn hsize hst (lv_room hcat) hdg hf
  rcases List.mem_append.mp hw with h | h
  · simp only [List.mem_cons, List.not_mem_nil, or_false] at h
    rcases h with rfl | rfl | rfl | rfl
    · exact w2
    · exact w3
    · exact w4
    · exact w5
  · rcases List.mem_cons.mp h with rfl | h
    · exact w1
    · exact h
set_option maxRecDepth 100000 in
set_option maxHeartbeats 4000000 in
theorem c_X10_shapeBehind (l : Launch) (v : Int32) {S : St} : Met l yX10_shapeBehind (Cond.code yX10_shapeBehind cX10_shapeBehind 1 (some (.object "java/lang/String")) :: tG) { frames := 0, cells := 0, slots := 0, locals := 0 } (va_Pc [.int v] (fun U => MPK D ct B Hb S U ∧ SK adK adV B U)) (qS D ct B Hb S (adK (shp v))) 0 0 (AB B) := by
  refine mk_metE (by decide +kernel) (Nat.le_of_ble_eq_true rfl) (fun p e s m args below meth c ls C0 hE hP hl _ => ?_)
  have hS : va_S (AB B) s.heap s.heap [] := va_S.rf
  obtain ⟨hx, hb, hr, hml, hown, hts, hK, hlocks, hN⟩ := id C0
  refine lv_iload_n hx hb dX10_shapeBehind_0 rfl (lv_at hl 0 rfl) ?_
  rcases Decidable.em (v = 100) with z100 | z100
  · refine lv_tableIn (x := v) (off := 95) (tgt := 96) hx hb dX10_shapeBehind_1 (by rw [z100]; decide) (by rw [z100]; decide) (by rw [z100]; decide) (by decide) ?_
    refine va_ldcS hx hb hown (hE.2.2.2 4 (by decide)) dX10_shapeBehind_96 ?_
    exact W.aret hx hb hr (Or.inl ⟨_, rfl⟩) (Or.inr ⟨_, rfl⟩) (fun t ht hW => ⟨⟨(), _, rfl, trivial, by rw [show shp v = 4 by rw [z100]; decide], by rw [ht]; exact hP, va_K.moved hW.alike hK, hN.warm hW⟩, hS.F ht⟩) hS.2.2 dX10_shapeBehind_98 hlocks
  · skip
    rcases Decidable.em (v = 101) with z101 | z101
    · refine lv_tableIn (x := v) (off := 98) (tgt := 99) hx hb dX10_shapeBehind_1 (by rw [z101]; decide) (by rw [z101]; decide) (by rw [z101]; decide) (by decide) ?_
      refine va_ldcS hx hb hown (hE.2.2.2 5 (by decide)) dX10_shapeBehind_99 ?_
      exact W.aret hx hb hr (Or.inl ⟨_, rfl⟩) (Or.inr ⟨_, rfl⟩) (fun t ht hW => ⟨⟨(), _, rfl, trivial, by rw [show shp v = 5 by rw [z101]; decide], by rw [ht]; exact hP, va_K.moved hW.alike hK, hN.warm hW⟩, hS.F ht⟩) hS.2.2 dX10_shapeBehind_101 hlocks
    · skip
      rcases Decidable.em (v = 102) with z102 | z102
      · refine lv_tableIn (x := v) (off := 83) (tgt := 84) hx hb dX10_shapeBehind_1 (by rw [z102]; decide) (by rw [z102]; decide) (by rw [z102]; decide) (by decide) ?_
        refine va_ldcS hx hb hown (hE.2.2.2 0 (by decide)) dX10_shapeBehind_84 ?_
        exact W.aret hx hb hr (Or.inl ⟨_, rfl⟩) (Or.inr ⟨_, rfl⟩) (fun t ht hW => ⟨⟨(), _, rfl, trivial, by rw [show shp v = 0 by rw [z102]; decide], by rw [ht]; exact hP, va_K.moved hW.alike hK, hN.warm hW⟩, hS.F ht⟩) hS.2.2 dX10_shapeBehind_86 hlocks
      · skip
        rcases Decidable.em (v = 103) with z103 | z103
        · refine lv_tableIn (x := v) (off := 98) (tgt := 99) hx hb dX10_shapeBehind_1 (by rw [z103]; decide) (by rw [z103]; decide) (by rw [z103]; decide) (by decide) ?_
          refine va_ldcS hx hb hown (hE.2.2.2 5 (by decide)) dX10_shapeBehind_99 ?_
          exact W.aret hx hb hr (Or.inl ⟨_, rfl⟩) (Or.inr ⟨_, rfl⟩) (fun t ht hW => ⟨⟨(), _, rfl, trivial, by rw [show shp v = 5 by rw [z103]; decide], by rw [ht]; exact hP, va_K.moved hW.alike hK, hN.warm hW⟩, hS.F ht⟩) hS.2.2 dX10_shapeBehind_101 hlocks
        · skip
          rcases Decidable.em (v = 104) with z104 | z104
          · refine lv_tableIn (x := v) (off := 98) (tgt := 99) hx hb dX10_shapeBehind_1 (by rw [z104]; decide) (by rw [z104]; decide) (by rw [z104]; decide) (by decide) ?_
            refine va_ldcS hx hb hown (hE.2.2.2 5 (by decide)) dX10_shapeBehind_99 ?_
            exact W.aret hx hb hr (Or.inl ⟨_, rfl⟩) (Or.inr ⟨_, rfl⟩) (fun t ht hW => ⟨⟨(), _, rfl, trivial, by rw [show shp v = 5 by rw [z104]; decide], by rw [ht]; exact hP, va_K.moved hW.alike hK, hN.warm hW⟩, hS.F ht⟩) hS.2.2 dX10_shapeBehind_101 hlocks
          · skip
            rcases Decidable.em (v = 105) with z105 | z105
            · refine lv_tableIn (x := v) (off := 98) (tgt := 99) hx hb dX10_shapeBehind_1 (by rw [z105]; decide) (by rw [z105]; decide) (by rw [z105]; decide) (by decide) ?_
              refine va_ldcS hx hb hown (hE.2.2.2 5 (by decide)) dX10_shapeBehind_99 ?_
              exact W.aret hx hb hr (Or.inl ⟨_, rfl⟩) (Or.inr ⟨_, rfl⟩) (fun t ht hW => ⟨⟨(), _, rfl, trivial, by rw [show shp v = 5 by rw [z105]; decide], by rw [ht]; exact hP, va_K.moved hW.alike hK, hN.warm hW⟩, hS.F ht⟩) hS.2.2 dX10_shapeBehind_101 hlocks
            · skip
              rcases Decidable.em (v = 106) with z106 | z106
              · refine lv_tableIn (x := v) (off := 98) (tgt := 99) hx hb dX10_shapeBehind_1 (by rw [z106]; decide) (by rw [z106]; decide) (by rw [z106]; decide) (by decide) ?_
                refine va_ldcS hx hb hown (hE.2.2.2 5 (by decide)) dX10_shapeBehind_99 ?_
                exact W.aret hx hb hr (Or.inl ⟨_, rfl⟩) (Or.inr ⟨_, rfl⟩) (fun t ht hW => ⟨⟨(), _, rfl, trivial, by rw [show shp v = 5 by rw [z106]; decide], by rw [ht]; exact hP, va_K.moved hW.alike hK, hN.warm hW⟩, hS.F ht⟩) hS.2.2 dX10_shapeBehind_101 hlocks
              · skip
                rcases Decidable.em (v = 107) with z107 | z107
                · refine lv_tableIn (x := v) (off := 92) (tgt := 93) hx hb dX10_shapeBehind_1 (by rw [z107]; decide) (by rw [z107]; decide) (by rw [z107]; decide) (by decide) ?_
                  refine va_ldcS hx hb hown (hE.2.2.2 3 (by decide)) dX10_shapeBehind_93 ?_
                  exact W.aret hx hb hr (Or.inl ⟨_, rfl⟩) (Or.inr ⟨_, rfl⟩) (fun t ht hW => ⟨⟨(), _, rfl, trivial, by rw [show shp v = 3 by rw [z107]; decide], by rw [ht]; exact hP, va_K.moved hW.alike hK, hN.warm hW⟩, hS.F ht⟩) hS.2.2 dX10_shapeBehind_95 hlocks
                · skip
                  rcases Decidable.em (v = 108) with z108 | z108
                  · refine lv_tableIn (x := v) (off := 98) (tgt := 99) hx hb dX10_shapeBehind_1 (by rw [z108]; decide) (by rw [z108]; decide) (by rw [z108]; decide) (by decide) ?_
                    refine va_ldcS hx hb hown (hE.2.2.2 5 (by decide)) dX10_shapeBehind_99 ?_
                    exact W.aret hx hb hr (Or.inl ⟨_, rfl⟩) (Or.inr ⟨_, rfl⟩) (fun t ht hW => ⟨⟨(), _, rfl, trivial, by rw [show shp v = 5 by rw [z108]; decide], by rw [ht]; exact hP, va_K.moved hW.alike hK, hN.warm hW⟩, hS.F ht⟩) hS.2.2 dX10_shapeBehind_101 hlocks
                  · skip
                    rcases Decidable.em (v = 109) with z109 | z109
                    · refine lv_tableIn (x := v) (off := 98) (tgt := 99) hx hb dX10_shapeBehind_1 (by rw [z109]; decide) (by rw [z109]; decide) (by rw [z109]; decide) (by decide) ?_
                      refine va_ldcS hx hb hown (hE.2.2.2 5 (by decide)) dX10_shapeBehind_99 ?_
                      exact W.aret hx hb hr (Or.inl ⟨_, rfl⟩) (Or.inr ⟨_, rfl⟩) (fun t ht hW => ⟨⟨(), _, rfl, trivial, by rw [show shp v = 5 by rw [z109]; decide], by rw [ht]; exact hP, va_K.moved hW.alike hK, hN.warm hW⟩, hS.F ht⟩) hS.2.2 dX10_shapeBehind_101 hlocks
                    · skip
                      rcases Decidable.em (v = 110) with z110 | z110
                      · refine lv_tableIn (x := v) (off := 98) (tgt := 99) hx hb dX10_shapeBehind_1 (by rw [z110]; decide) (by rw [z110]; decide) (by rw [z110]; decide) (by decide) ?_
                        refine va_ldcS hx hb hown (hE.2.2.2 5 (by decide)) dX10_shapeBehind_99 ?_
                        exact W.aret hx hb hr (Or.inl ⟨_, rfl⟩) (Or.inr ⟨_, rfl⟩) (fun t ht hW => ⟨⟨(), _, rfl, trivial, by rw [show shp v = 5 by rw [z110]; decide], by rw [ht]; exact hP, va_K.moved hW.alike hK, hN.warm hW⟩, hS.F ht⟩) hS.2.2 dX10_shapeBehind_101 hlocks
                      · skip
                        rcases Decidable.em (v = 111) with z111 | z111
                        · refine lv_tableIn (x := v) (off := 92) (tgt := 93) hx hb dX10_shapeBehind_1 (by rw [z111]; decide) (by rw [z111]; decide) (by rw [z111]; decide) (by decide) ?_
                          refine va_ldcS hx hb hown (hE.2.2.2 3 (by decide)) dX10_shapeBehind_93 ?_
                          exact W.aret hx hb hr (Or.inl ⟨_, rfl⟩) (Or.inr ⟨_, rfl⟩) (fun t ht hW => ⟨⟨(), _, rfl, trivial, by rw [show shp v = 3 by rw [z111]; decide], by rw [ht]; exact hP, va_K.moved hW.alike hK, hN.warm hW⟩, hS.F ht⟩) hS.2.2 dX10_shapeBehind_95 hlocks
                        · skip
                          rcases Decidable.em (v = 112) with z112 | z112
                          · refine lv_tableIn (x := v) (off := 86) (tgt := 87) hx hb dX10_shapeBehind_1 (by rw [z112]; decide) (by rw [z112]; decide) (by rw [z112]; decide) (by decide) ?_
                            refine va_ldcS hx hb hown (hE.2.2.2 1 (by decide)) dX10_shapeBehind_87 ?_
                            exact W.aret hx hb hr (Or.inl ⟨_, rfl⟩) (Or.inr ⟨_, rfl⟩) (fun t ht hW => ⟨⟨(), _, rfl, trivial, by rw [show shp v = 1 by rw [z112]; decide], by rw [ht]; exact hP, va_K.moved hW.alike hK, hN.warm hW⟩, hS.F ht⟩) hS.2.2 dX10_shapeBehind_89 hlocks
                          · skip
                            rcases Decidable.em (v = 113) with z113 | z113
                            · refine lv_tableIn (x := v) (off := 98) (tgt := 99) hx hb dX10_shapeBehind_1 (by rw [z113]; decide) (by rw [z113]; decide) (by rw [z113]; decide) (by decide) ?_
                              refine va_ldcS hx hb hown (hE.2.2.2 5 (by decide)) dX10_shapeBehind_99 ?_
                              exact W.aret hx hb hr (Or.inl ⟨_, rfl⟩) (Or.inr ⟨_, rfl⟩) (fun t ht hW => ⟨⟨(), _, rfl, trivial, by rw [show shp v = 5 by rw [z113]; decide], by rw [ht]; exact hP, va_K.moved hW.alike hK, hN.warm hW⟩, hS.F ht⟩) hS.2.2 dX10_shapeBehind_101 hlocks
                            · skip
                              rcases Decidable.em (v = 114) with z114 | z114
                              · refine lv_tableIn (x := v) (off := 95) (tgt := 96) hx hb dX10_shapeBehind_1 (by rw [z114]; decide) (by rw [z114]; decide) (by rw [z114]; decide) (by decide) ?_
                                refine va_ldcS hx hb hown (hE.2.2.2 4 (by decide)) dX10_shapeBehind_96 ?_
                                exact W.aret hx hb hr (Or.inl ⟨_, rfl⟩) (Or.inr ⟨_, rfl⟩) (fun t ht hW => ⟨⟨(), _, rfl, trivial, by rw [show shp v = 4 by rw [z114]; decide], by rw [ht]; exact hP, va_K.moved hW.alike hK, hN.warm hW⟩, hS.F ht⟩) hS.2.2 dX10_shapeBehind_98 hlocks
                              · skip
                                rcases Decidable.em (v = 115) with z115 | z115
                                · refine lv_tableIn (x := v) (off := 98) (tgt := 99) hx hb dX10_shapeBehind_1 (by rw [z115]; decide) (by rw [z115]; decide) (by rw [z115]; decide) (by decide) ?_
                                  refine va_ldcS hx hb hown (hE.2.2.2 5 (by decide)) dX10_shapeBehind_99 ?_
                                  exact W.aret hx hb hr (Or.inl ⟨_, rfl⟩) (Or.inr ⟨_, rfl⟩) (fun t ht hW => ⟨⟨(), _, rfl, trivial, by rw [show shp v = 5 by rw [z115]; decide], by rw [ht]; exact hP, va_K.moved hW.alike hK, hN.warm hW⟩, hS.F ht⟩) hS.2.2 dX10_shapeBehind_101 hlocks
                                · skip
                                  rcases Decidable.em (v = 116) with z116 | z116
                                  · refine lv_tableIn (x := v) (off := 89) (tgt := 90) hx hb dX10_shapeBehind_1 (by rw [z116]; decide) (by rw [z116]; decide) (by rw [z116]; decide) (by decide) ?_
                                    refine va_ldcS hx hb hown (hE.2.2.2 2 (by decide)) dX10_shapeBehind_90 ?_
                                    exact W.aret hx hb hr (Or.inl ⟨_, rfl⟩) (Or.inr ⟨_, rfl⟩) (fun t ht hW => ⟨⟨(), _, rfl, trivial, by rw [show shp v = 2 by rw [z116]; decide], by rw [ht]; exact hP, va_K.moved hW.alike hK, hN.warm hW⟩, hS.F ht⟩) hS.2.2 dX10_shapeBehind_92 hlocks
                                  · skip
                                    refine lv_tableOut (x := v) (tgt := 99) hx hb dX10_shapeBehind_1 (sw_100_17 z100 z101 z102 z103 z104 z105 z106 z107 z108 z109 z110 z111 z112 z113 z114 z115 z116) (by decide) ?_
                                    refine va_ldcS hx hb hown (hE.2.2.2 5 (by decide)) dX10_shapeBehind_99 ?_
                                    exact W.aret hx hb hr (Or.inl ⟨_, rfl⟩) (Or.inr ⟨_, rfl⟩) (fun t ht hW => ⟨⟨(), _, rfl, trivial, by rw [shp_else z102 z112 z116 z107 z111 z100 z114], by rw [ht]; exact hP, va_K.moved hW.alike hK, hN.warm hW⟩, hS.F ht⟩) hS.2.2 dX10_shapeBehind_101 hlocks
set_option maxRecDepth 100000 in
set_option maxHeartbeats 4000000 in
theorem w_fw_22 {l : Launch} {S : St} {u z : Nat} (hu : isRow u) (hz : z < 6) {V : Int32} (C0 : XC D ct p s m args meth c cX10_firstWrong 4 (some .int) RX10) (hE : SK adK adV B s) {o : Int32 ⊕ Int32} (hv : ∀ v, o = .inl v → some v = some V)
    (kk : ∀ (H : Heap) (locs : List Loc) (ls : Array Slot) (v : Int32), o = .inr v → MP D ct B Hb S H → va_S (AB B) s.heap H locs → lv_has ls 4 [(0, .ref (B + u)), (1, .int v)] → W p l e { frames := 5, cells := 0, slots := 0, locals := 85 } s m args below meth c H locs 0 0 (MQ below (qI D ct B Hb S V) args s 0 0 (AB B)) (F0 m 60 ls [])) :
    ∀ (n : Nat) (x i : Int32) (H : Heap) (locs : List Loc) (ls : Array Slot), lp n (l_fw_22 u z S) (x, i) = some o → MP D ct B Hb S H → va_S (AB B) s.heap H locs → lv_has ls 4 [(0, .ref (B + u)), (1, .int x), (2, .ref (adK z)), (3, .int i)] → W p l e { frames := 5, cells := 0, slots := 0, locals := 85 } s m args below meth c H locs 0 0 (MQ below (qI D ct B Hb S V) args s 0 0 (AB B)) (F0 m 22 ls []) := by
  obtain ⟨hx, hb, hr, hml, hown, hts, hK, hlocks, hN⟩ := id C0
  intro n
  induction n with
  | zero => intro x i H locs ls h; cases h
  | succ n ih =>
    intro x i H locs ls h hP hS hl
    refine lv_iload_n hx hb dX10_firstWrong_22 rfl (lv_at hl 3 rfl) ?_
    refine lv_aload_n hx hb dX10_firstWrong_23 rfl (lv_at hl 2 rfl) ?_
    refine n_I (kVs C0 hE hS hz (As := []) (c_length l hz) ⟨wd_521, wd_518, wd_519, wd_520, wd_14⟩ kd_J0_length_8abf5 ⟨Nat.le_of_ble_eq_true rfl, Nat.le_of_ble_eq_true rfl⟩ hP rfl hl.1 rfl (Nat.le_of_ble_eq_true rfl) dX10_firstWrong_24 ⟨Nat.le_of_ble_eq_true rfl, Nat.le_of_ble_eq_true rfl⟩) hS (fun H locs hP hS => ?_)
    refine lv_icmp_ge (tgt := 57) hx hb dX10_firstWrong_27 (by decide) (fun q => ?_) (fun q => ?_)
    · have e : o = .inr (x + 1) := by
        have q : shN z ≤ i := q
        rcases lp_s1 h with ⟨y, y1, -⟩ | y1
        · unfold l_fw_22 at y1; rw [if_pos q] at y1; cases y1
        · unfold l_fw_22 at y1; rw [if_pos q] at y1; exact (Sum.inr.inj (Option.some.inj y1)).symm
      refine lv_iinc (v := x + 1) (lv' := [(1, .int (x + 1)), (0, .ref (B + u)), (2, .ref (adK z)), (3, .int i)]) hx hb dX10_firstWrong_57 hl (k := 1) rfl rfl (by decide) rfl (fun ls hl => ?_)
      exact kk H locs ls _ e hP hS (lv_sub hl [1, 0] rfl)
    · have q : ¬ shN z ≤ i := q
      refine lv_iinc (v := x + 1) (lv' := [(1, .int (x + 1)), (0, .ref (B + u)), (2, .ref (adK z)), (3, .int i)]) hx hb dX10_firstWrong_30 hl (k := 1) rfl rfl (by decide) rfl (fun ls hl => ?_)
      refine lv_aload_n hx hb dX10_firstWrong_33 rfl (lv_at hl 2 rfl) ?_
      refine lv_iload_n hx hb dX10_firstWrong_34 rfl (lv_at hl 3 rfl) ?_
      have body : ∀ w, l_fw_22 u z S (x, i) = some w → ∃ j r f, j < sLen.getD z 0 ∧ i = nI j ∧ L_X8_at u (x + 1) S = some r ∧ L_X10_fitsShape (shC' z j) r S = some f ∧ (if f = 0 then some (.inr (.inl (x + 1))) else some (.inl (x + 1, i + 1))) = some w := by
        intro w hw
        unfold l_fw_22 at hw
        rw [if_neg q] at hw
        obtain ⟨g, hw⟩ := o_gd hw
        obtain ⟨r, r1, hw⟩ := ob_e hw
        obtain ⟨f, f1, hw⟩ := ob_e hw
        have g0 : ¬ i < 0 := fun z0 => inb_in g (Or.inl z0)
        obtain ⟨j, hj, rfl⟩ := nI_of g0
        have gl := inb_lt g
        rw [nI_clamp hj] at gl f1
        exact ⟨j, r, f, gl, rfl, r1, f1, hw⟩
      obtain ⟨w, hw⟩ : ∃ w, l_fw_22 u z S (x, i) = some w := by
        rcases lp_s1 h with ⟨y, y1, -⟩ | y1
        · exact ⟨_, y1⟩
        · exact ⟨_, y1⟩
      obtain ⟨j, r, f, hj, rfl, r1, f1, hf⟩ := body w hw
      refine n_I (kVs C0 hE hS hz (As := [.int (nI j)]) (c_charAt l hz hj) ⟨wd_531, wd_528, wd_529, wd_530, wd_14⟩ kd_J0_charAt_5068e ⟨Nat.le_of_ble_eq_true rfl, Nat.le_of_ble_eq_true rfl⟩ hP rfl hl.1 rfl (Nat.le_of_ble_eq_true rfl) dX10_firstWrong_35 ⟨Nat.le_of_ble_eq_true rfl, Nat.le_of_ble_eq_true rfl⟩) hS (fun H locs hP hS => ?_)
      refine lv_aload_n hx hb dX10_firstWrong_38 rfl (lv_at hl 1 rfl) ?_
      refine lv_iload_n hx hb dX10_firstWrong_39 rfl (lv_at hl 0 rfl) ?_
      refine n_I (kV (As := [.int (x + 1)]) C0 (c_X8_at l u hu (x + 1) r1) ⟨wd_504, wd_501, wd_502, wd_503, wd_5⟩ kd_X8_at ⟨Nat.le_of_ble_eq_true rfl, Nat.le_of_ble_eq_true rfl⟩ hP (lay_X8 B ct S hu) rfl rfl hl.1 rfl (Nat.le_of_ble_eq_true rfl) dX10_firstWrong_40 ⟨Nat.le_of_ble_eq_true rfl, Nat.le_of_ble_eq_true rfl⟩) hS (fun H locs hP hS => ?_)
      refine n_I (kS (As := [.int (shC' z j), .int r]) C0 (c_X10_fitsShape l (shC' z j) r f1) ⟨wd_568, wd_566, wd_567, wd_2⟩ kd_X10_fitsShape ⟨Nat.le_of_ble_eq_true rfl, Nat.le_of_ble_eq_true rfl⟩ hP rfl hl.1 rfl (Nat.le_of_ble_eq_true rfl) dX10_firstWrong_43 ⟨Nat.le_of_ble_eq_true rfl, Nat.le_of_ble_eq_true rfl⟩) hS (fun H locs hP hS => ?_)
      refine lv_if_ne (tgt := 51) hx hb dX10_firstWrong_46 (by decide) (fun z3 => ?_) (fun z3 => ?_)
      · rw [if_neg z3] at hf
        have e := Option.some.inj hf
        refine lv_iinc (v := nI j + 1) (lv' := [(3, .int (nI j + 1)), (1, .int (x + 1)), (0, .ref (B + u)), (2, .ref (adK z))]) hx hb dX10_firstWrong_51 hl (k := 3) rfl rfl (by decide) rfl (fun ls hl => ?_)
        refine lv_goto (tgt := 22) hx hb dX10_firstWrong_54 (by decide) ?_
        refine ih (x + 1) (nI j + 1) H locs ls ?_ hP hS (lv_sub hl [2, 1, 3, 0] rfl)
        rcases lp_s1 h with ⟨y, y1, y2⟩ | y1
        · rw [hw, ← e] at y1
          cases y1
          exact y2
        · rw [hw, ← e] at y1
          cases y1
      · have z3 : f = 0 := z3
        rw [if_pos z3] at hf
        have e := Option.some.inj hf
        refine lv_iload_n hx hb dX10_firstWrong_49 rfl (lv_at hl 0 rfl) ?_
        have eo : o = .inl (x + 1) := by
          rcases lp_s1 h with ⟨y, y1, y2⟩ | y1
          · rw [hw, ← e] at y1; cases y1
          · rw [hw, ← e] at y1
            exact (Sum.inr.inj (Option.some.inj y1)).symm
        exact r_I C0 hP hS (hv _ eo) dX10_firstWrong_50
set_option maxRecDepth 100000 in
set_option maxHeartbeats 4000000 in
theorem w_fw_2 {l : Launch} {S : St} {u : Nat} (hu : isRow u) {V : Int32} (C0 : XC D ct p s m args meth c cX10_firstWrong 4 (some .int) RX10) (hE : SK adK adV B s) :
    ∀ (n : Nat) (x : Int32) (H : Heap) (locs : List Loc) (ls : Array Slot), lp n (l_fw_2 u S) x = some V → MP D ct B Hb S H → va_S (AB B) s.heap H locs → lv_has ls 4 [(0, .ref (B + u)), (1, .int x)] → W p l e { frames := 5, cells := 0, slots := 0, locals := 85 } s m args below meth c H locs 0 0 (MQ below (qI D ct B Hb S V) args s 0 0 (AB B)) (F0 m 2 ls []) := by
  obtain ⟨hx, hb, hr, hml, hown, hts, hK, hlocks, hN⟩ := id C0
  intro n
  induction n with
  | zero => intro x H locs ls h; cases h
  | succ n ih =>
    intro x H locs ls h hP hS hl
    obtain ⟨w, hw⟩ : ∃ w, l_fw_2 u S x = some w := by
      rcases lp_s1 h with ⟨y, y1, -⟩ | y1
      · exact ⟨_, y1⟩
      · exact ⟨_, y1⟩
    obtain ⟨r, r1, hw2⟩ := ob_e (show (L_X8_at u x S).bind _ = some w from hw)
    refine lv_aload_n hx hb dX10_firstWrong_2 rfl (lv_at hl 0 rfl) ?_
    refine lv_iload_n hx hb dX10_firstWrong_3 rfl (lv_at hl 1 rfl) ?_
    refine n_I (kV (As := [.int x]) C0 (c_X8_at l u hu x r1) ⟨wd_504, wd_501, wd_502, wd_503, wd_5⟩ kd_X8_at ⟨Nat.le_of_ble_eq_true rfl, Nat.le_of_ble_eq_true rfl⟩ hP (lay_X8 B ct S hu) rfl rfl hl.1 rfl (Nat.le_of_ble_eq_true rfl) dX10_firstWrong_4 ⟨Nat.le_of_ble_eq_true rfl, Nat.le_of_ble_eq_true rfl⟩) hS (fun H locs hP hS => ?_)
    refine n_S (kSs C0 hE hS (As := [.int r]) (c_X10_shapeBehind l r) ⟨wd_507, wd_505, wd_506, wd_2⟩ kd_X10_shapeBehind ⟨Nat.le_of_ble_eq_true rfl, Nat.le_of_ble_eq_true rfl⟩ hP rfl hl.1 rfl (Nat.le_of_ble_eq_true rfl) dX10_firstWrong_7 ⟨Nat.le_of_ble_eq_true rfl, Nat.le_of_ble_eq_true rfl⟩) hS (fun H locs hP hS => ?_)
    refine lv_astore_n (lv' := [(2, .ref (adK (shp r))), (0, .ref (B + u)), (1, .int x)]) hx hb dX10_firstWrong_10 rfl hl (by decide) rfl (fun ls hl => ?_)
    refine lv_aload_n hx hb dX10_firstWrong_11 rfl (lv_at hl 0 rfl) ?_
    refine n_I (kVs C0 hE hS (shp_lt r) (As := []) (c_isEmpty l (shp_lt r)) ⟨wd_517, wd_514, wd_515, wd_516, wd_14⟩ kd_J0_isEmpty_aae02 ⟨Nat.le_of_ble_eq_true rfl, Nat.le_of_ble_eq_true rfl⟩ hP rfl hl.1 rfl (Nat.le_of_ble_eq_true rfl) dX10_firstWrong_12 ⟨Nat.le_of_ble_eq_true rfl, Nat.le_of_ble_eq_true rfl⟩) hS (fun H locs hP hS => ?_)
    by_cases z : shp r = 5
    · rw [if_pos z]
      rw [if_pos z] at hw2
      refine lv_if_eq (tgt := 20) hx hb dX10_firstWrong_15 (by decide) (fun q => absurd q (by decide)) (fun _ => ?_)
      refine lv_iload_n hx hb dX10_firstWrong_18 rfl (lv_at hl 2 rfl) ?_
      have e : some x = some V := by
        have e1 := Option.some.inj hw2
        rcases lp_s1 h with ⟨y, y1, -⟩ | y1
        · rw [hw, ← e1] at y1; cases y1
        · rw [hw, ← e1] at y1
          exact congrArg some (Sum.inr.inj (Option.some.inj y1))
      exact r_I C0 hP hS e dX10_firstWrong_19
    · rw [if_neg z]
      rw [if_neg z] at hw2
      obtain ⟨o, o1, hw3⟩ := ob_e hw2
      refine lv_if_eq (tgt := 20) hx hb dX10_firstWrong_15 (by decide) (fun _ => ?_) (fun q => absurd rfl q)
      refine lv_iconst (v := 0) hx hb dX10_firstWrong_20 (by decide) ?_
      refine lv_istore_n (lv' := [(3, .int 0), (2, .ref (adK (shp r))), (0, .ref (B + u)), (1, .int x)]) hx hb dX10_firstWrong_21 rfl hl (by decide) rfl (fun ls hl => ?_)
      refine w_fw_22 (l := l) (V := V) hu (shp_lt r) C0 hE (o := o) (fun v ev => ?_) (fun H locs ls v ev hP hS hl => ?_) 12 x 0 H locs ls o1 hP hS (lv_sub hl [2, 3, 1, 0] rfl)
      · rw [ev] at hw3
        have e1 := Option.some.inj hw3
        rcases lp_s1 h with ⟨y, y1, -⟩ | y1
        · rw [hw, ← e1] at y1; cases y1
        · rw [hw, ← e1] at y1
          exact congrArg some (Sum.inr.inj (Option.some.inj y1))
      · rw [ev] at hw3
        have hw3 : (if v < gi S u 1 then some (Sum.inl v) else some (Sum.inr (-4))) = some w := hw3
        refine lv_iload_n hx hb dX10_firstWrong_60 rfl (lv_at hl 1 rfl) ?_
        refine lv_aload_n hx hb dX10_firstWrong_61 rfl (lv_at hl 0 rfl) ?_
        refine x_get C0 hP (lay_X8 B ct S hu) rfl inG8 1 (by decide) wd_201 (fun _ h => h) rfl dX10_firstWrong_62 ?_
        refine lv_icmp_lt (tgt := 2) hx hb dX10_firstWrong_65 (by decide) (fun q => ?_) (fun q => ?_)
        · rw [if_pos q] at hw3
          have e1 := Option.some.inj hw3
          refine ih v H locs ls ?_ hP hS hl
          rcases lp_s1 h with ⟨y, y1, y2⟩ | y1
          · rw [hw, ← e1] at y1
            cases y1
            exact y2
          · rw [hw, ← e1] at y1; cases y1
        · rw [if_neg q] at hw3
          have e1 := Option.some.inj hw3
          refine lv_bipush (v := (-4)) hx hb dX10_firstWrong_68 (by decide) ?_
          have e : some (-4 : Int32) = some V := by
            rcases lp_s1 h with ⟨y, y1, -⟩ | y1
            · rw [hw, ← e1] at y1; cases y1
            · rw [hw, ← e1] at y1
              exact congrArg some (Sum.inr.inj (Option.some.inj y1))
          exact r_I C0 hP hS e dX10_firstWrong_70
set_option maxRecDepth 100000 in
set_option maxHeartbeats 4000000 in
theorem c_X10_firstWrong (l : Launch) {u : Nat} (hu : isRow u) {S : St} {V : Int32} (h : L_X10_firstWrong u S = some V) : Met l yX10_firstWrong (Cond.code yX10_firstWrong cX10_firstWrong 4 (some .int) :: tG) { frames := 5, cells := 0, slots := 0, locals := 85 } (va_Pc [.ref (B + u)] (fun U => MPK D ct B Hb S U ∧ SK adK adV B U)) (qI D ct B Hb S V) 0 0 (AB B) := by
  refine mk_metE (by decide +kernel) (Nat.le_of_ble_eq_true rfl) (fun p e s m args below meth c ls C0 hE hP hl _ => ?_)
  have hS : va_S (AB B) s.heap s.heap [] := va_S.rf
  obtain ⟨hx, hb, hr, hml, hown, hts, hK, hlocks, hN⟩ := id C0
  refine lv_iconst (v := 0) hx hb dX10_firstWrong_0 (by decide) ?_
  refine lv_istore_n (lv' := [(1, .int 0), (0, .ref (B + u))]) hx hb dX10_firstWrong_1 rfl hl (by decide) rfl (fun ls hl => ?_)
  exact w_fw_2 hu C0 hE 1000 0 _ _ ls h hP hS (lv_sub hl [1, 0] rfl)
set_option maxRecDepth 100000 in
set_option maxHeartbeats 4000000 in
theorem w_hr_20 {l : Launch} {t u : Nat} (ht : isTown t) (hu : isRow u) {V : Int32 × St} (C0 : XC D ct p s m args meth c cX10_hear 5 (some .int) RX10) (hE : SK adK adV B s) :
    ∀ (n : Nat) (y x : Int32) (S : St) (H : Heap) (locs : List Loc) (ls : Array Slot) (cells slots : Nat), lp n (l_hr_20 t u) (y, x, S) = some V → cells + n ≤ 40 ∧ slots + 2 * n ≤ 80 → MP D ct B Hb S H → va_S (AB B) s.heap H locs → lv_has ls 5 [(0, .ref (B + t)), (1, .ref (B + u)), (3, .int y), (4, .int x)] → W p l e { frames := 7, cells := 40, slots := 80, locals := 152 } s m args below meth c H locs cells slots (MQ below (qIw D ct B Hb V) args s 40 80 (AB B)) (F0 m 20 ls []) := by
  obtain ⟨hx, hb, hr, hml, hown, hts, hK, hlocks, hN⟩ := id C0
  intro n
  induction n with
  | zero => intro y x S H locs ls cells slots h; cases h
  | succ n ih =>
    intro y x S H locs ls cells slots h hc hP hS hl
    obtain ⟨w, hw⟩ : ∃ w, l_hr_20 t u (y, x, S) = some w := by
      rcases lp_s1 h with ⟨y, y1, -⟩ | y1
      · exact ⟨_, y1⟩
      · exact ⟨_, y1⟩
    refine lv_iload hx hb dX10_hear_20 (lv_at hl 3 rfl) ?_
    refine lv_aload_n hx hb dX10_hear_22 rfl (lv_at hl 1 rfl) ?_
    refine x_get C0 hP (lay_X8 B ct S hu) rfl inG8 1 (by decide) wd_201 (fun _ h => h) rfl dX10_hear_23 ?_
    refine lv_icmp_ge (tgt := 71) hx hb dX10_hear_26 (by decide) (fun q => ?_) (fun q => ?_)
    · have q : gi S u 1 ≤ x := q
      have e : some (y, S) = some V := by
        rcases lp_s1 h with ⟨y2, y1, -⟩ | y1
        · unfold l_hr_20 at y1; rw [if_pos q] at y1; cases y1
        · unfold l_hr_20 at y1; rw [if_pos q] at y1; exact congrArg some (Sum.inr.inj (Option.some.inj y1))
      refine lv_iload_n hx hb dX10_hear_71 rfl (lv_at hl 2 rfl) ?_
      refine W.widen (k := 40) (n := 80) (by omega) (by omega) ?_
      exact r_Iw C0 hP hS e dX10_hear_72
    · have q : ¬ gi S u 1 ≤ x := q
      unfold l_hr_20 at hw
      rw [if_neg q] at hw
      obtain ⟨r, r1, hw2⟩ := ob_e hw
      have hw : l_hr_20 t u (y, x, S) = some w := by unfold l_hr_20; rw [if_neg q]; exact hw
      refine lv_aload_n hx hb dX10_hear_29 rfl (lv_at hl 0 rfl) ?_
      refine lv_aload_n hx hb dX10_hear_30 rfl (lv_at hl 1 rfl) ?_
      refine lv_iload hx hb dX10_hear_31 (lv_at hl 3 rfl) ?_
      refine n_Iw (kV (As := [.ref (B + u), .int x]) C0 (c_X10_hearStatement l t u ht hu x r1) ⟨wd_572, wd_569, wd_571, wp_5, wd_2⟩ kd_X10_hearStatement ⟨Nat.le_of_ble_eq_true rfl, Nat.le_of_ble_eq_true rfl⟩ hP (lay_X10 B ct S ht) rfl rfl hl.1 rfl (Nat.le_of_ble_eq_true rfl) dX10_hear_33 ⟨by show _ + _ ≤ 40; omega, by show _ + _ ≤ 80; omega⟩) hS (fun H locs hP hS => ?_)
      refine lv_if_ge (tgt := 46) hx hb dX10_hear_36 (by decide) (fun q2 => ?_) (fun q2 => ?_)
      · have q2 : (0 : Int32) ≤ r.1 := q2
        rw [if_pos q2] at hw2
        obtain ⟨v, v1, hw3⟩ := ob_e hw2
        have e1 := Option.some.inj hw3
        refine lv_iinc (v := y + 1) (lv' := [(3, .int (y + 1)), (0, .ref (B + t)), (1, .ref (B + u)), (4, .int x)]) hx hb dX10_hear_46 hl (k := 2) rfl rfl (by decide) rfl (fun ls hl => ?_)
        refine lv_iload hx hb dX10_hear_49 (lv_at hl 3 rfl) ?_
        refine lv_iconst (v := 1) hx hb dX10_hear_51 (by decide) ?_
        refine lv_aload_n hx hb dX10_hear_52 rfl (lv_at hl 2 rfl) ?_
        refine lv_iload hx hb dX10_hear_53 (lv_at hl 3 rfl) ?_
        refine n_I (kV (As := [.int x]) C0 (c_X8_at l u hu x v1) ⟨wd_504, wd_501, wd_502, wd_503, wd_5⟩ kd_X8_at ⟨Nat.le_of_ble_eq_true rfl, Nat.le_of_ble_eq_true rfl⟩ hP (lay_X8 B ct r.2 hu) rfl rfl hl.1 rfl (Nat.le_of_ble_eq_true rfl) dX10_hear_55 ⟨by show _ + _ ≤ 40; omega, by show _ + _ ≤ 80; omega⟩) hS (fun H locs hP hS => ?_)
        refine n_S (kSs C0 hE hS (As := [.int v]) (c_X10_shapeBehind l v) ⟨wd_507, wd_505, wd_506, wd_2⟩ kd_X10_shapeBehind ⟨Nat.le_of_ble_eq_true rfl, Nat.le_of_ble_eq_true rfl⟩ hP rfl hl.1 rfl (Nat.le_of_ble_eq_true rfl) dX10_hear_58 ⟨by show _ + _ ≤ 40; omega, by show _ + _ ≤ 80; omega⟩) hS (fun H locs hP hS => ?_)
        refine n_I (kVs C0 hE hS (shp_lt v) (As := []) (c_length l (shp_lt v)) ⟨wd_521, wd_518, wd_519, wd_520, wd_14⟩ kd_J0_length_8abf5 ⟨Nat.le_of_ble_eq_true rfl, Nat.le_of_ble_eq_true rfl⟩ hP rfl hl.1 rfl (Nat.le_of_ble_eq_true rfl) dX10_hear_61 ⟨by show _ + _ ≤ 40; omega, by show _ + _ ≤ 80; omega⟩) hS (fun H locs hP hS => ?_)
        refine lv_iadd hx hb dX10_hear_64 ?_
        refine lv_iadd hx hb dX10_hear_65 ?_
        refine lv_istore (lv' := [(4, .int (x + (1 + shN (shp v)))), (3, .int (y + 1)), (0, .ref (B + t)), (1, .ref (B + u))]) hx hb dX10_hear_66 hl (by decide) rfl (fun ls hl => ?_)
        refine lv_goto (tgt := 20) hx hb dX10_hear_68 (by decide) ?_
        refine ih (y + 1) (x + (1 + shN (shp v))) r.2 H locs ls _ _ ?_ ⟨by omega, by omega⟩ hP hS (lv_sub hl [2, 3, 1, 0] rfl)
        rcases lp_s1 h with ⟨y2, y1, y3⟩ | y1
        · rw [hw, ← e1] at y1
          cases y1
          exact y3
        · rw [hw, ← e1] at y1; cases y1
      · have q2 : ¬ (0 : Int32) ≤ r.1 := q2
        rw [if_neg q2] at hw2
        have e1 := Option.some.inj hw2
        have e : some (-2000 - x, r.2) = some V := by
          rcases lp_s1 h with ⟨y2, y1, -⟩ | y1
          · rw [hw, ← e1] at y1; cases y1
          · rw [hw, ← e1] at y1
            exact congrArg some (Sum.inr.inj (Option.some.inj y1))
        refine lv_sipush (v := (-2000)) hx hb dX10_hear_39 (by decide) ?_
        refine lv_iload hx hb dX10_hear_42 (lv_at hl 3 rfl) ?_
        refine lv_isub hx hb dX10_hear_44 ?_
        refine W.widen (k := 40) (n := 80) (by omega) (by omega) ?_
        exact r_Iw C0 hP hS e dX10_hear_45
set_option maxRecDepth 100000 in
set_option maxHeartbeats 4000000 in
theorem c_X10_hear (l : Launch) {t u : Nat} (ht : isTown t) (hu : isRow u) {S : St} {V : Int32 × St} (h : L_X10_hear t u S = some V) : Met l yX10_hear (Cond.code yX10_hear cX10_hear 5 (some .int) :: tG) { frames := 7, cells := 40, slots := 80, locals := 152 } (va_Pc [.ref (B + t), .ref (B + u)] (fun U => MPK D ct B Hb S U ∧ SK adK adV B U)) (qIw D ct B Hb V) 40 80 (AB B) := by
  refine mk_metE (by decide +kernel) (Nat.le_of_ble_eq_true rfl) (fun p e s m args below meth c ls C0 hE hP hl _ => ?_)
  have hS : va_S (AB B) s.heap s.heap [] := va_S.rf
  obtain ⟨hx, hb, hr, hml, hown, hts, hK, hlocks, hN⟩ := id C0
  obtain ⟨w, w1, h⟩ := ob_e h
  refine lv_aload_n hx hb dX10_hear_0 rfl (lv_at hl 1 rfl) ?_
  refine n_I (kSs C0 hE hS (As := [.ref (B + u)]) (c_X10_firstWrong l hu w1) ⟨wd_500, wd_498, wd_499, wd_2⟩ kd_X10_firstWrong ⟨Nat.le_of_ble_eq_true rfl, Nat.le_of_ble_eq_true rfl⟩ hP rfl hl.1 rfl (Nat.le_of_ble_eq_true rfl) dX10_hear_1 ⟨Nat.le_of_ble_eq_true rfl, Nat.le_of_ble_eq_true rfl⟩) hS (fun H locs hP hS => ?_)
  refine lv_istore_n (lv' := [(2, .int w), (0, .ref (B + t)), (1, .ref (B + u))]) hx hb dX10_hear_4 rfl hl (by decide) rfl (fun ls hl => ?_)
  refine lv_iload_n hx hb dX10_hear_5 rfl (lv_at hl 0 rfl) ?_
  refine lv_if_lt (tgt := 15) hx hb dX10_hear_6 (by decide) (fun q => ?_) (fun q => ?_)
  · have q : w < 0 := q
    rw [if_pos q] at h
    refine lv_iconst (v := 0) hx hb dX10_hear_15 (by decide) ?_
    refine lv_istore_n (lv' := [(3, .int 0), (2, .int w), (0, .ref (B + t)), (1, .ref (B + u))]) hx hb dX10_hear_16 rfl hl (by decide) rfl (fun ls hl => ?_)
    refine lv_iconst (v := 0) hx hb dX10_hear_17 (by decide) ?_
    refine lv_istore (lv' := [(4, .int 0), (3, .int 0), (2, .int w), (0, .ref (B + t)), (1, .ref (B + u))]) hx hb dX10_hear_18 hl (by decide) rfl (fun ls hl => ?_)
    exact w_hr_20 ht hu C0 hE 40 0 0 S _ _ ls 0 0 h ⟨by omega, by omega⟩ hP hS (lv_sub hl [3, 4, 1, 0] rfl)
  · have q : ¬ w < 0 := q
    rw [if_neg q] at h
    refine lv_sipush (v := (-1000)) hx hb dX10_hear_9 (by decide) ?_
    refine lv_iload_n hx hb dX10_hear_12 rfl (lv_at hl 0 rfl) ?_
    refine lv_isub hx hb dX10_hear_13 ?_
    refine W.widen (k := 40) (n := 80) (by omega) (by omega) ?_
    exact r_Iw C0 hP hS h dX10_hear_14
set_option maxRecDepth 100000 in
set_option maxHeartbeats 4000000 in
theorem c_X11_town (l : Launch) (a1 : Int32) {S : St} {V : Int32 × St} (h : L_X11_town a1 S = some V) : Met l yX11_town (Cond.code yX11_town cX11_town 4 (some .int) :: tG) { frames := 8, cells := 40, slots := 80, locals := 176 } (va_Pc [.ref (B + 0), .int a1] (fun U => MPK D ct B Hb S U ∧ SK adK adV B U)) (qIw D ct B Hb V) 40 80 (AB B) := by
  refine mk_metE (by decide +kernel) (Nat.le_of_ble_eq_true rfl) (fun p e s m args below meth c ls C0 hE hP hl _ => ?_)
  have hS : va_S (AB B) s.heap s.heap [] := va_S.rf
  obtain ⟨hx, hb, hr, hml, hown, hts, hK, hlocks, hN⟩ := id C0
  have hl : lv_has ls 4 [(0, .ref (B + 0)), (1, .int a1)] := hl
  obtain ⟨r, r1, h⟩ := ob_e h
  refine lv_aload_n hx hb dX11_town_0 rfl (lv_at hl 0 rfl) ?_
  refine lv_iload_n hx hb dX11_town_1 rfl (lv_at hl 1 rfl) ?_
  refine lv_iconst (v := 2) hx hb dX11_town_2 (by decide) ?_
  refine n_I (kV (As := [.int a1, .int 2]) C0 (c_X11_shelfRefusal l a1 2 r1) ⟨wd_431, wd_428, wd_430, wp_3, wd_1⟩ kd_X11_shelfRefusal ⟨Nat.le_of_ble_eq_true rfl, Nat.le_of_ble_eq_true rfl⟩ hP (lay_X11 B ct S) rfl rfl hl.1 rfl (Nat.le_of_ble_eq_true rfl) dX11_town_3 ⟨Nat.le_of_ble_eq_true rfl, Nat.le_of_ble_eq_true rfl⟩) hS (fun H locs hP hS => ?_)
  refine lv_istore_n (lv' := [(2, .int r), (0, .ref (B + 0)), (1, .int a1)]) hx hb dX11_town_6 rfl hl (by decide) rfl (fun ls hl => ?_)
  refine lv_iload_n hx hb dX11_town_7 rfl (lv_at hl 0 rfl) ?_
  refine lv_if_eq (tgt := 13) hx hb dX11_town_8 (by decide) (fun q => ?_) (fun q => ?_)
  · rw [if_pos q] at h
    obtain ⟨g, h⟩ := o_gd h
    refine lv_aload_n hx hb dX11_town_13 rfl (lv_at hl 1 rfl) ?_
    refine x_get C0 hP (lay_X11 B ct S) rfl inG11 7 (by decide) wd_219 (fun _ h => h) rfl dX11_town_14 ?_
    refine lv_iload_n hx hb dX11_town_17 rfl (lv_at hl 2 rfl) ?_
    refine x_aald (v := .ref (B + (70 + 2 * a1.toNatClampNeg))) C0 hP (lay_68 B ct S) rfl rfl g rfl dX11_town_18 ?_
    have hu : isRow (70 + 2 * a1.toNatClampNeg) := ⟨_, inb_lt g, rfl⟩
    refine x_get C0 hP (lay_X8 B ct S hu) rfl inG8 0 (by decide) wd_199 (fun _ h => h) rfl dX11_town_19 ?_
    refine lv_if_eq (tgt := 28) hx hb dX11_town_22 (by decide) (fun q2 => ?_) (fun q2 => ?_)
    · have q2 : gi S (70 + 2 * a1.toNatClampNeg) 0 = 0 := q2
      rw [if_pos q2] at h
      obtain ⟨S1, s1, h⟩ := ob_e h
      obtain ⟨w, w1, h⟩ := ob_e h
      refine lv_aload_n hx hb dX11_town_28 rfl (lv_at hl 1 rfl) ?_
      refine x_get C0 hP (lay_X11 B ct S) rfl inG11 1 (by decide) wd_213 (fun _ h => h) rfl dX11_town_29 ?_
      refine lv_aload_n hx hb dX11_town_32 rfl (lv_at hl 1 rfl) ?_
      refine x_get C0 hP (lay_X11 B ct S) rfl inG11 0 (by decide) wd_212 (fun _ h => h) rfl dX11_town_33 ?_
      refine n_Vw (kV (As := [.ref (B + 1)]) C0 (c_X10_become l 19 1 (Or.inr (Or.inl rfl)) (Or.inl rfl) s1) ⟨wd_490, wd_487, wd_488, wd_489, wd_2⟩ kd_X10_become ⟨Nat.le_of_ble_eq_true rfl, Nat.le_of_ble_eq_true rfl⟩ hP (lay_X10 B ct S (Or.inr (Or.inl rfl))) rfl rfl hl.1 rfl (Nat.le_of_ble_eq_true rfl) dX11_town_36 ⟨Nat.le_of_ble_eq_true rfl, Nat.le_of_ble_eq_true rfl⟩) hS (fun H locs hP hS => ?_)
      refine lv_aload_n hx hb dX11_town_39 rfl (lv_at hl 1 rfl) ?_
      refine x_get C0 hP (lay_X11 B ct S1) rfl inG11 1 (by decide) wd_213 (fun _ h => h) rfl dX11_town_40 ?_
      refine lv_aload_n hx hb dX11_town_43 rfl (lv_at hl 1 rfl) ?_
      refine x_get C0 hP (lay_X11 B ct S1) rfl inG11 7 (by decide) wd_219 (fun _ h => h) rfl dX11_town_44 ?_
      refine lv_iload_n hx hb dX11_town_47 rfl (lv_at hl 2 rfl) ?_
      refine x_aald (v := .ref (B + (70 + 2 * a1.toNatClampNeg))) C0 hP (lay_68 B ct S1) rfl rfl g rfl dX11_town_48 ?_
      refine n_Iw (kVE C0 hE hS (As := [.ref (B + (70 + 2 * a1.toNatClampNeg))]) (c_X10_hear l (Or.inr (Or.inl rfl)) hu w1) ⟨wd_497, wd_494, wd_495, wd_496, wd_2⟩ kd_X10_hear ⟨Nat.le_of_ble_eq_true rfl, Nat.le_of_ble_eq_true rfl⟩ hP (lay_X10 B ct S1 (Or.inr (Or.inl rfl))) rfl rfl hl.1 rfl (Nat.le_of_ble_eq_true rfl) dX11_town_49 ⟨Nat.le_of_ble_eq_true rfl, Nat.le_of_ble_eq_true rfl⟩) hS (fun H locs hP hS => ?_)
      refine lv_istore_n (lv' := [(3, .int w.1), (2, .int r), (0, .ref (B + 0)), (1, .int a1)]) hx hb dX11_town_52 rfl hl (by decide) rfl (fun ls hl => ?_)
      refine lv_iload_n hx hb dX11_town_53 rfl (lv_at hl 0 rfl) ?_
      refine lv_if_lt (tgt := 68) hx hb dX11_town_54 (by decide) (fun q3 => ?_) (fun q3 => ?_)
      · have q3 : w.1 < 0 := q3
        rw [if_pos q3] at h
        refine lv_iload_n hx hb dX11_town_68 rfl (lv_at hl 0 rfl) ?_
        exact r_Iw C0 hP hS h dX11_town_69
      · have q3 : ¬ w.1 < 0 := q3
        rw [if_neg q3] at h
        obtain ⟨S2, s2, h⟩ := ob_e h
        refine lv_aload_n hx hb dX11_town_57 rfl (lv_at hl 2 rfl) ?_
        refine x_get C0 hP (lay_X11 B ct w.2) rfl inG11 0 (by decide) wd_212 (fun _ h => h) rfl dX11_town_58 ?_
        refine lv_aload_n hx hb dX11_town_61 rfl (lv_at hl 2 rfl) ?_
        refine x_get C0 hP (lay_X11 B ct w.2) rfl inG11 1 (by decide) wd_213 (fun _ h => h) rfl dX11_town_62 ?_
        refine n_Vw (kV (As := [.ref (B + 19)]) C0 (c_X10_become l 1 19 (Or.inl rfl) (Or.inr (Or.inl rfl)) s2) ⟨wd_490, wd_487, wd_488, wd_489, wd_2⟩ kd_X10_become ⟨Nat.le_of_ble_eq_true rfl, Nat.le_of_ble_eq_true rfl⟩ hP (lay_X10 B ct w.2 (Or.inl rfl)) rfl rfl hl.1 rfl (Nat.le_of_ble_eq_true rfl) dX11_town_65 ⟨Nat.le_of_ble_eq_true rfl, Nat.le_of_ble_eq_true rfl⟩) hS (fun H locs hP hS => ?_)
        refine lv_iload_n hx hb dX11_town_68 rfl (lv_at hl 0 rfl) ?_
        exact r_Iw C0 hP hS h dX11_town_69
    · have q2 : ¬ gi S (70 + 2 * a1.toNatClampNeg) 0 = 0 := q2
      rw [if_neg q2] at h
      refine lv_bipush (v := (-12)) hx hb dX11_town_25 (by decide) ?_
      refine W.widen (k := 40) (n := 80) (by omega) (by omega) ?_
      exact r_Iw C0 hP hS h dX11_town_27
  · rw [if_neg q] at h
    refine lv_iload_n hx hb dX11_town_11 rfl (lv_at hl 0 rfl) ?_
    refine W.widen (k := 40) (n := 80) (by omega) (by omega) ?_
    exact r_Iw C0 hP hS h dX11_town_12
end XHEAR
