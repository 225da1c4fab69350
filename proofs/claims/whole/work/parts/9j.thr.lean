theorem dX7_fail_0 : decode cX7_fail 0 = .ok (.aload_n 0, 1) := by decide +kernel
theorem dX7_fail_1 : decode cX7_fail 1 = .ok (.getfield 13, 3) := by decide +kernel
theorem dX7_fail_4 : decode cX7_fail 4 = .ok (.ifCond .eq 13, 3) := by decide +kernel
theorem dX7_fail_7 : decode cX7_fail 7 = .ok (.new 16, 3) := by decide +kernel
theorem dX7_fail_10 : decode cX7_fail 10 = .ok (.dup, 1) := by decide +kernel
theorem dX7_fail_11 : decode cX7_fail 11 = .ok (.ldc 18, 2) := by decide +kernel
theorem dX7_fail_13 : decode cX7_fail 13 = .ok (.invokespecial 20, 3) := by decide +kernel
theorem dX7_fail_16 : decode cX7_fail 16 = .ok (.athrow, 1) := by decide +kernel
theorem dX7_fail_17 : decode cX7_fail 17 = .ok (.return_, 1) := by decide +kernel
theorem dX4_fail_0 : decode cX4_fail 0 = .ok (.aload_n 0, 1) := by decide +kernel
theorem dX4_fail_1 : decode cX4_fail 1 = .ok (.getfield 11, 3) := by decide +kernel
theorem dX4_fail_4 : decode cX4_fail 4 = .ok (.ifCond .eq 13, 3) := by decide +kernel
theorem dX4_fail_7 : decode cX4_fail 7 = .ok (.new 30, 3) := by decide +kernel
theorem dX4_fail_10 : decode cX4_fail 10 = .ok (.dup, 1) := by decide +kernel
theorem dX4_fail_11 : decode cX4_fail 11 = .ok (.ldc 32, 2) := by decide +kernel
theorem dX4_fail_13 : decode cX4_fail 13 = .ok (.invokespecial 34, 3) := by decide +kernel
theorem dX4_fail_16 : decode cX4_fail 16 = .ok (.athrow, 1) := by decide +kernel
theorem dX4_fail_17 : decode cX4_fail 17 = .ok (.return_, 1) := by decide +kernel
theorem dX6_fail_0 : decode cX6_fail 0 = .ok (.aload_n 0, 1) := by decide +kernel
theorem dX6_fail_1 : decode cX6_fail 1 = .ok (.getfield 15, 3) := by decide +kernel
theorem dX6_fail_4 : decode cX6_fail 4 = .ok (.ifCond .eq 13, 3) := by decide +kernel
theorem dX6_fail_7 : decode cX6_fail 7 = .ok (.new 21, 3) := by decide +kernel
theorem dX6_fail_10 : decode cX6_fail 10 = .ok (.dup, 1) := by decide +kernel
theorem dX6_fail_11 : decode cX6_fail 11 = .ok (.ldc 23, 2) := by decide +kernel
theorem dX6_fail_13 : decode cX6_fail 13 = .ok (.invokespecial 25, 3) := by decide +kernel
theorem dX6_fail_16 : decode cX6_fail 16 = .ok (.athrow, 1) := by decide +kernel
theorem dX6_fail_17 : decode cX6_fail 17 = .ok (.return_, 1) := by decide +kernel
theorem dX1_fail_0 : decode cX1_fail 0 = .ok (.return_, 1) := by decide +kernel
/-! Throws: their words; fail() of each class; the call of it by KIND. -/
def nRE : List String := ["java/lang/RuntimeException", "java/lang/Exception"]
def XW : List Cond := [.declares (Bundle.initS "java/lang/RuntimeException"), .declares (Bundle.initS "java/lang/Exception"), .declares (Bundle.initS "java/lang/Throwable"), .castable "java/lang/IllegalStateException" "java/lang/IllegalStateException", .castable "java/lang/IllegalArgumentException" "java/lang/IllegalArgumentException", .castable "java/lang/UnsupportedOperationException" "java/lang/UnsupportedOperationException"]
def Pg (w : Cond) : Prop := (goodWord w = true → w ∈ tG) ∧ (goodWord w = false → vx_no w = true → w ∈ XW)
theorem pgood {w : Cond} (h : w ∈ tG) : Pg w := ⟨fun _ => h, fun g => by rw [tG_good h] at g; cases g⟩
theorem pbad {w : Cond} (g : goodWord w = false) (h : w ∈ XW) : Pg w := ⟨fun q => (by rw [g] at q; cases q), fun _ _ => h⟩
theorem pno {w : Cond} (g : vx_no w = false) (g2 : goodWord w = false) : Pg w := ⟨fun q => (by rw [g2] at q; cases q), fun _ q => (by rw [g] at q; cases q)⟩
theorem fa_c {P : Cond → Prop} {w : Cond} {L : List Cond} (h : P w) (t : ∀ v ∈ L, P v) : ∀ v ∈ w :: L, P v := fun v hv => (List.mem_cons.mp hv).elim (fun e => e ▸ h) (t v)
theorem fa_n {P : Cond → Prop} : ∀ v ∈ ([] : List Cond), P v := fun _ h => nomatch h
set_option maxRecDepth 100000 in
theorem pg_X7_20 : ∀ w ∈ Bundle.ownAtoms RX7 20 "java/lang/IllegalStateException" nRE, Pg w := fa_c (pgood (tG_s1 21 rfl rfl)) (fa_c (pgood (tG_s5 78 rfl rfl)) (fa_c (pgood (tG_s5 87 rfl rfl)) (fa_c (pgood (tG_s5 91 rfl rfl)) (fa_c (pgood (tG_s5 94 rfl rfl)) (fa_c (pgood (tG_s5 96 rfl rfl)) (fa_c (pgood (tG_s5 79 rfl rfl)) (fa_c (pgood (tG_s5 80 rfl rfl)) (fa_c (pgood (tG_s1 33 rfl rfl)) (fa_c (pgood (tG_s1 34 rfl rfl)) (fa_c (pgood (tG_s5 81 rfl rfl)) (fa_c (pgood (tG_s5 86 rfl rfl)) (fa_c (pgood (tG_s5 92 rfl rfl)) (fa_c (pgood (tG_s5 112 rfl rfl)) (fa_c (pgood (tG_s5 68 rfl rfl)) (fa_c (pgood (tG_s5 113 rfl rfl)) (fa_c (pgood (tG_s5 70 rfl rfl)) (fa_c (pgood (tG_s5 114 rfl rfl)) (fa_c (pgood (tG_s5 72 rfl rfl)) (fa_c (pgood (tG_s5 82 rfl rfl)) (fa_c (pno (by decide +kernel) (by decide +kernel)) (fa_c (pgood (tG_s5 84 rfl rfl)) (fa_c (pno (by decide +kernel) (by decide +kernel)) (fa_c (pgood (tG_s5 74 rfl rfl)) (fa_c (pgood (tG_s5 108 rfl rfl)) (fa_c (pgood (tG_s5 109 rfl rfl)) (fa_c (pgood (tG_s5 111 rfl rfl)) (fa_c (pgood (tG_s5 74 rfl rfl)) (fa_c (pgood (tG_s5 156 rfl rfl)) (fa_c (pgood (tG_s5 157 rfl rfl)) (fa_c (pgood (tG_s5 158 rfl rfl)) (fa_c (pgood (tG_s5 102 rfl rfl)) (fa_c (pbad (by decide +kernel) (List.mem_of_getElem? (i := 0) rfl)) (fa_c (pgood (tG_s5 102 rfl rfl)) (fa_c (pgood (tG_s5 103 rfl rfl)) (fa_c (pgood (tG_s5 104 rfl rfl)) (fa_c (pgood (tG_s5 105 rfl rfl)) (fa_c (pbad (by decide +kernel) (List.mem_of_getElem? (i := 1) rfl)) (fa_c (pgood (tG_s5 105 rfl rfl)) (fa_c (pgood (tG_s5 106 rfl rfl)) (fa_c (pgood (tG_s5 107 rfl rfl)) (fa_c (pgood (tG_s5 108 rfl rfl)) (fa_c (pbad (by decide +kernel) (List.mem_of_getElem? (i := 2) rfl)) (fa_c (pgood (tG_s5 155 rfl rfl)) (fa_c (pgood (tG_s5 146 rfl rfl)) (fa_c (pbad (by decide +kernel) (List.mem_of_getElem? (i := 3) rfl)) (fa_c (pgood (tG_s5 148 rfl rfl)) (fa_c (pgood (tG_s5 89 rfl rfl)) (fa_c (pgood (tG_s5 149 rfl rfl)) (fa_c (pgood (tG_s5 150 rfl rfl)) (fa_c (pgood (tG_s5 151 rfl rfl)) (fa_c (pgood (tG_s5 152 rfl rfl)) (fa_c (pno (by decide +kernel) (by decide +kernel)) (fa_c (pno (by decide +kernel) (by decide +kernel)) (fa_c (pgood (tG_s5 77 rfl rfl)) (fa_c (pgood (tG_s5 76 rfl rfl)) (fa_c (pgood (tG_s5 153 rfl rfl)) (fa_n)))))))))))))))))))))))))))))))))))))))))))))))))))))))))
set_option maxRecDepth 100000 in
theorem pg_X4_34 : ∀ w ∈ Bundle.ownAtoms RX4 34 "java/lang/IllegalArgumentException" nRE, Pg w := fa_c (pgood (tG_s1 21 rfl rfl)) (fa_c (pgood (tG_s5 78 rfl rfl)) (fa_c (pgood (tG_s5 87 rfl rfl)) (fa_c (pgood (tG_s5 91 rfl rfl)) (fa_c (pgood (tG_s5 94 rfl rfl)) (fa_c (pgood (tG_s5 96 rfl rfl)) (fa_c (pgood (tG_s5 79 rfl rfl)) (fa_c (pgood (tG_s5 80 rfl rfl)) (fa_c (pgood (tG_s1 33 rfl rfl)) (fa_c (pgood (tG_s1 34 rfl rfl)) (fa_c (pgood (tG_s5 81 rfl rfl)) (fa_c (pgood (tG_s5 86 rfl rfl)) (fa_c (pgood (tG_s5 92 rfl rfl)) (fa_c (pgood (tG_s5 112 rfl rfl)) (fa_c (pgood (tG_s5 68 rfl rfl)) (fa_c (pgood (tG_s5 113 rfl rfl)) (fa_c (pgood (tG_s5 70 rfl rfl)) (fa_c (pgood (tG_s5 114 rfl rfl)) (fa_c (pgood (tG_s5 72 rfl rfl)) (fa_c (pgood (tG_s5 82 rfl rfl)) (fa_c (pno (by decide +kernel) (by decide +kernel)) (fa_c (pgood (tG_s5 84 rfl rfl)) (fa_c (pno (by decide +kernel) (by decide +kernel)) (fa_c (pgood (tG_s5 74 rfl rfl)) (fa_c (pgood (tG_s5 108 rfl rfl)) (fa_c (pgood (tG_s5 109 rfl rfl)) (fa_c (pgood (tG_s5 111 rfl rfl)) (fa_c (pgood (tG_s5 74 rfl rfl)) (fa_c (pgood (tG_s5 99 rfl rfl)) (fa_c (pgood (tG_s5 100 rfl rfl)) (fa_c (pgood (tG_s5 101 rfl rfl)) (fa_c (pgood (tG_s5 102 rfl rfl)) (fa_c (pbad (by decide +kernel) (List.mem_of_getElem? (i := 0) rfl)) (fa_c (pgood (tG_s5 102 rfl rfl)) (fa_c (pgood (tG_s5 103 rfl rfl)) (fa_c (pgood (tG_s5 104 rfl rfl)) (fa_c (pgood (tG_s5 105 rfl rfl)) (fa_c (pbad (by decide +kernel) (List.mem_of_getElem? (i := 1) rfl)) (fa_c (pgood (tG_s5 105 rfl rfl)) (fa_c (pgood (tG_s5 106 rfl rfl)) (fa_c (pgood (tG_s5 107 rfl rfl)) (fa_c (pgood (tG_s5 108 rfl rfl)) (fa_c (pbad (by decide +kernel) (List.mem_of_getElem? (i := 2) rfl)) (fa_c (pgood (tG_s5 98 rfl rfl)) (fa_c (pgood (tG_s5 57 rfl rfl)) (fa_c (pbad (by decide +kernel) (List.mem_of_getElem? (i := 4) rfl)) (fa_c (pgood (tG_s5 65 rfl rfl)) (fa_c (pgood (tG_s5 66 rfl rfl)) (fa_c (pgood (tG_s5 67 rfl rfl)) (fa_c (pgood (tG_s5 69 rfl rfl)) (fa_c (pgood (tG_s5 71 rfl rfl)) (fa_c (pgood (tG_s5 73 rfl rfl)) (fa_c (pno (by decide +kernel) (by decide +kernel)) (fa_c (pno (by decide +kernel) (by decide +kernel)) (fa_c (pgood (tG_s5 77 rfl rfl)) (fa_c (pgood (tG_s5 76 rfl rfl)) (fa_c (pgood (tG_s5 75 rfl rfl)) (fa_n)))))))))))))))))))))))))))))))))))))))))))))))))))))))))
set_option maxRecDepth 100000 in
theorem pg_X6_25 : ∀ w ∈ Bundle.ownAtoms RX6 25 "java/lang/UnsupportedOperationException" nRE, Pg w := fa_c (pgood (tG_s1 21 rfl rfl)) (fa_c (pgood (tG_s5 78 rfl rfl)) (fa_c (pgood (tG_s5 87 rfl rfl)) (fa_c (pgood (tG_s5 91 rfl rfl)) (fa_c (pgood (tG_s5 94 rfl rfl)) (fa_c (pgood (tG_s5 96 rfl rfl)) (fa_c (pgood (tG_s5 79 rfl rfl)) (fa_c (pgood (tG_s5 80 rfl rfl)) (fa_c (pgood (tG_s1 33 rfl rfl)) (fa_c (pgood (tG_s1 34 rfl rfl)) (fa_c (pgood (tG_s5 81 rfl rfl)) (fa_c (pgood (tG_s5 86 rfl rfl)) (fa_c (pgood (tG_s5 92 rfl rfl)) (fa_c (pgood (tG_s5 112 rfl rfl)) (fa_c (pgood (tG_s5 68 rfl rfl)) (fa_c (pgood (tG_s5 113 rfl rfl)) (fa_c (pgood (tG_s5 70 rfl rfl)) (fa_c (pgood (tG_s5 114 rfl rfl)) (fa_c (pgood (tG_s5 72 rfl rfl)) (fa_c (pgood (tG_s5 82 rfl rfl)) (fa_c (pno (by decide +kernel) (by decide +kernel)) (fa_c (pgood (tG_s5 84 rfl rfl)) (fa_c (pno (by decide +kernel) (by decide +kernel)) (fa_c (pgood (tG_s5 74 rfl rfl)) (fa_c (pgood (tG_s5 108 rfl rfl)) (fa_c (pgood (tG_s5 109 rfl rfl)) (fa_c (pgood (tG_s5 111 rfl rfl)) (fa_c (pgood (tG_s5 74 rfl rfl)) (fa_c (pgood (tG_s5 138 rfl rfl)) (fa_c (pgood (tG_s5 139 rfl rfl)) (fa_c (pgood (tG_s5 140 rfl rfl)) (fa_c (pgood (tG_s5 102 rfl rfl)) (fa_c (pbad (by decide +kernel) (List.mem_of_getElem? (i := 0) rfl)) (fa_c (pgood (tG_s5 102 rfl rfl)) (fa_c (pgood (tG_s5 103 rfl rfl)) (fa_c (pgood (tG_s5 104 rfl rfl)) (fa_c (pgood (tG_s5 105 rfl rfl)) (fa_c (pbad (by decide +kernel) (List.mem_of_getElem? (i := 1) rfl)) (fa_c (pgood (tG_s5 105 rfl rfl)) (fa_c (pgood (tG_s5 106 rfl rfl)) (fa_c (pgood (tG_s5 107 rfl rfl)) (fa_c (pgood (tG_s5 108 rfl rfl)) (fa_c (pbad (by decide +kernel) (List.mem_of_getElem? (i := 2) rfl)) (fa_c (pgood (tG_s5 137 rfl rfl)) (fa_c (pgood (tG_s5 128 rfl rfl)) (fa_c (pbad (by decide +kernel) (List.mem_of_getElem? (i := 5) rfl)) (fa_c (pgood (tG_s5 130 rfl rfl)) (fa_c (pgood (tG_s5 90 rfl rfl)) (fa_c (pgood (tG_s5 131 rfl rfl)) (fa_c (pgood (tG_s5 132 rfl rfl)) (fa_c (pgood (tG_s5 133 rfl rfl)) (fa_c (pgood (tG_s5 134 rfl rfl)) (fa_c (pno (by decide +kernel) (by decide +kernel)) (fa_c (pno (by decide +kernel) (by decide +kernel)) (fa_c (pgood (tG_s5 77 rfl rfl)) (fa_c (pgood (tG_s5 76 rfl rfl)) (fa_c (pgood (tG_s5 135 rfl rfl)) (fa_n)))))))))))))))))))))))))))))))))))))))))))))))))))))))))
set_option maxRecDepth 100000 in
theorem pg_X11_313 : ∀ w ∈ Bundle.ownAtoms RX11 313 "java/lang/IllegalArgumentException" nRE, Pg w := fa_c (pgood (tG_s1 21 rfl rfl)) (fa_c (pgood (tG_s5 78 rfl rfl)) (fa_c (pgood (tG_s5 87 rfl rfl)) (fa_c (pgood (tG_s5 91 rfl rfl)) (fa_c (pgood (tG_s5 94 rfl rfl)) (fa_c (pgood (tG_s5 96 rfl rfl)) (fa_c (pgood (tG_s5 79 rfl rfl)) (fa_c (pgood (tG_s5 80 rfl rfl)) (fa_c (pgood (tG_s1 33 rfl rfl)) (fa_c (pgood (tG_s1 34 rfl rfl)) (fa_c (pgood (tG_s5 81 rfl rfl)) (fa_c (pgood (tG_s5 86 rfl rfl)) (fa_c (pgood (tG_s5 92 rfl rfl)) (fa_c (pgood (tG_s5 112 rfl rfl)) (fa_c (pgood (tG_s5 68 rfl rfl)) (fa_c (pgood (tG_s5 113 rfl rfl)) (fa_c (pgood (tG_s5 70 rfl rfl)) (fa_c (pgood (tG_s5 114 rfl rfl)) (fa_c (pgood (tG_s5 72 rfl rfl)) (fa_c (pgood (tG_s5 82 rfl rfl)) (fa_c (pno (by decide +kernel) (by decide +kernel)) (fa_c (pgood (tG_s5 84 rfl rfl)) (fa_c (pno (by decide +kernel) (by decide +kernel)) (fa_c (pgood (tG_s5 74 rfl rfl)) (fa_c (pgood (tG_s5 108 rfl rfl)) (fa_c (pgood (tG_s5 109 rfl rfl)) (fa_c (pgood (tG_s5 111 rfl rfl)) (fa_c (pgood (tG_s5 74 rfl rfl)) (fa_c (pgood (tG_s5 99 rfl rfl)) (fa_c (pgood (tG_s5 100 rfl rfl)) (fa_c (pgood (tG_s5 101 rfl rfl)) (fa_c (pgood (tG_s5 102 rfl rfl)) (fa_c (pbad (by decide +kernel) (List.mem_of_getElem? (i := 0) rfl)) (fa_c (pgood (tG_s5 102 rfl rfl)) (fa_c (pgood (tG_s5 103 rfl rfl)) (fa_c (pgood (tG_s5 104 rfl rfl)) (fa_c (pgood (tG_s5 105 rfl rfl)) (fa_c (pbad (by decide +kernel) (List.mem_of_getElem? (i := 1) rfl)) (fa_c (pgood (tG_s5 105 rfl rfl)) (fa_c (pgood (tG_s5 106 rfl rfl)) (fa_c (pgood (tG_s5 107 rfl rfl)) (fa_c (pgood (tG_s5 108 rfl rfl)) (fa_c (pbad (by decide +kernel) (List.mem_of_getElem? (i := 2) rfl)) (fa_c (pgood (tG_s5 171 rfl rfl)) (fa_c (pgood (tG_s5 57 rfl rfl)) (fa_c (pbad (by decide +kernel) (List.mem_of_getElem? (i := 4) rfl)) (fa_c (pgood (tG_s5 65 rfl rfl)) (fa_c (pgood (tG_s5 66 rfl rfl)) (fa_c (pgood (tG_s5 67 rfl rfl)) (fa_c (pgood (tG_s5 69 rfl rfl)) (fa_c (pgood (tG_s5 71 rfl rfl)) (fa_c (pgood (tG_s5 73 rfl rfl)) (fa_c (pno (by decide +kernel) (by decide +kernel)) (fa_c (pno (by decide +kernel) (by decide +kernel)) (fa_c (pgood (tG_s5 77 rfl rfl)) (fa_c (pgood (tG_s5 76 rfl rfl)) (fa_c (pgood (tG_s5 75 rfl rfl)) (fa_n)))))))))))))))))))))))))))))))))))))))))))))))))))))))))
set_option maxRecDepth 100000 in
theorem pg_X11_320 : ∀ w ∈ Bundle.ownAtoms RX11 320 "java/lang/IllegalStateException" nRE, Pg w := fa_c (pgood (tG_s1 21 rfl rfl)) (fa_c (pgood (tG_s5 78 rfl rfl)) (fa_c (pgood (tG_s5 87 rfl rfl)) (fa_c (pgood (tG_s5 91 rfl rfl)) (fa_c (pgood (tG_s5 94 rfl rfl)) (fa_c (pgood (tG_s5 96 rfl rfl)) (fa_c (pgood (tG_s5 79 rfl rfl)) (fa_c (pgood (tG_s5 80 rfl rfl)) (fa_c (pgood (tG_s1 33 rfl rfl)) (fa_c (pgood (tG_s1 34 rfl rfl)) (fa_c (pgood (tG_s5 81 rfl rfl)) (fa_c (pgood (tG_s5 86 rfl rfl)) (fa_c (pgood (tG_s5 92 rfl rfl)) (fa_c (pgood (tG_s5 112 rfl rfl)) (fa_c (pgood (tG_s5 68 rfl rfl)) (fa_c (pgood (tG_s5 113 rfl rfl)) (fa_c (pgood (tG_s5 70 rfl rfl)) (fa_c (pgood (tG_s5 114 rfl rfl)) (fa_c (pgood (tG_s5 72 rfl rfl)) (fa_c (pgood (tG_s5 82 rfl rfl)) (fa_c (pno (by decide +kernel) (by decide +kernel)) (fa_c (pgood (tG_s5 84 rfl rfl)) (fa_c (pno (by decide +kernel) (by decide +kernel)) (fa_c (pgood (tG_s5 74 rfl rfl)) (fa_c (pgood (tG_s5 108 rfl rfl)) (fa_c (pgood (tG_s5 109 rfl rfl)) (fa_c (pgood (tG_s5 111 rfl rfl)) (fa_c (pgood (tG_s5 74 rfl rfl)) (fa_c (pgood (tG_s5 156 rfl rfl)) (fa_c (pgood (tG_s5 157 rfl rfl)) (fa_c (pgood (tG_s5 158 rfl rfl)) (fa_c (pgood (tG_s5 102 rfl rfl)) (fa_c (pbad (by decide +kernel) (List.mem_of_getElem? (i := 0) rfl)) (fa_c (pgood (tG_s5 102 rfl rfl)) (fa_c (pgood (tG_s5 103 rfl rfl)) (fa_c (pgood (tG_s5 104 rfl rfl)) (fa_c (pgood (tG_s5 105 rfl rfl)) (fa_c (pbad (by decide +kernel) (List.mem_of_getElem? (i := 1) rfl)) (fa_c (pgood (tG_s5 105 rfl rfl)) (fa_c (pgood (tG_s5 106 rfl rfl)) (fa_c (pgood (tG_s5 107 rfl rfl)) (fa_c (pgood (tG_s5 108 rfl rfl)) (fa_c (pbad (by decide +kernel) (List.mem_of_getElem? (i := 2) rfl)) (fa_c (pgood (tG_s5 173 rfl rfl)) (fa_c (pgood (tG_s5 146 rfl rfl)) (fa_c (pbad (by decide +kernel) (List.mem_of_getElem? (i := 3) rfl)) (fa_c (pgood (tG_s5 148 rfl rfl)) (fa_c (pgood (tG_s5 89 rfl rfl)) (fa_c (pgood (tG_s5 149 rfl rfl)) (fa_c (pgood (tG_s5 150 rfl rfl)) (fa_c (pgood (tG_s5 151 rfl rfl)) (fa_c (pgood (tG_s5 152 rfl rfl)) (fa_c (pno (by decide +kernel) (by decide +kernel)) (fa_c (pno (by decide +kernel) (by decide +kernel)) (fa_c (pgood (tG_s5 77 rfl rfl)) (fa_c (pgood (tG_s5 76 rfl rfl)) (fa_c (pgood (tG_s5 153 rfl rfl)) (fa_n)))))))))))))))))))))))))))))))))))))))))))))))))))))))))
def eOw (i : Nat) : String := [RX7, RX4, RX6, RX11, RX11, RX11].getD i ""
def eIx (i : Nat) : Nat := [18, 32, 23, 311, 318, 321].getD i 0
def eTx (i : Nat) : String := ["a plain failure", "a firm one's failure", "a king's failure", "no such shelf", "no row on the shelf", "no such place in the row"].getD i ""
def NCs : List (String × String) := [("java/lang/IllegalArgumentException", "java/lang/IllegalStateException"), ("java/lang/UnsupportedOperationException", "java/lang/IllegalStateException"), ("java/lang/UnsupportedOperationException", "java/lang/IllegalArgumentException"), ("java/lang/IllegalStateException", "java/lang/IllegalArgumentException")]
/-- what throws stand on -/
def EK (sa : Nat → Nat) (B : Nat) (U : State) : Prop := (∀ w ∈ XW, va_Nw w U) ∧ (∀ i, i < 6 → vk_R (eOw i) (eIx i) (eTx i) (sa i) U) ∧ vx_Zq Bundle.tN "UNASSIGNED_STACK" Bundle.steD (AB B) U U.heap ∧ vx_Zq Bundle.tN "SUPPRESSED_SENTINEL" Bundle.listD (AB B) U U.heap ∧ ∀ q ∈ NCs, va_Nc q.1 q.2 U
theorem XW_ot : ∀ w ∈ XW, w.onTables = true := by decide +kernel
theorem EK.at {sa : Nat → Nat} {B : Nat} {s U : State} {H : Heap} {locs : List Loc} (h : EK sa B s) (hS : va_S (AB B) s.heap H locs) (hU : U.heap = H) (hW : s.WarmedH U.vm) : EK sa B U := by
  subst hU
  refine ⟨?_, fun i hi => vk_R.warm hW (h.2.1 i hi), (vx_Zq.moved hW.alike h.2.2.1).kept hS.2.1, (vx_Zq.moved hW.alike h.2.2.2.1).kept hS.2.1, fun q hq => va_Nc.moved hW.alike (h.2.2.2.2 q hq)⟩
  intro w hw
  have h1 := h.1 w hw
  simp only [XW, List.mem_cons, List.not_mem_nil, or_false] at hw
  rcases hw with rfl | rfl | rfl | rfl | rfl | rfl
  · exact va_Nw.warmD hW h1
  · exact va_Nw.warmD hW h1
  · exact va_Nw.warmD hW h1
  · exact va_Nw.warmC hW h1
  · exact va_Nw.warmC hW h1
  · exact va_Nw.warmC hW h1
theorem EK.call {sa : Nat → Nat} {B : Nat} {U : State} (g : JFrame) (mk : MethodId) (a : Array Value) (h : EK sa B U) : EK sa B (U.calling g mk a) :=
  ⟨fun w hw => va_Nw.same (XW_ot w hw) (u := U) (U := U.calling g mk a) rfl (h.1 w hw), fun i hi => vk_R.same (u := U) (U := U.calling g mk a) rfl (h.2.1 i hi), vx_Zq.moved (u := U) (U := U.calling g mk a) (Vm.Alike.refl U.vm) h.2.2.1, vx_Zq.moved (u := U) (U := U.calling g mk a) (Vm.Alike.refl U.vm) h.2.2.2.1, fun q hq => va_Nc.moved (u := U) (U := U.calling g mk a) (Vm.Alike.refl U.vm) (h.2.2.2.2 q hq)⟩
def stp (S : St) (u : Nat) : St := (S.1, S.2.1, S.2.2.1, S.2.2.2.1, u)
section XTHR
variable {p : Program} {l : Launch} {e : Env} {R : Room} {s : State} {m : MethodId} {args : Array Value} {below : List Frame} {meth : Method} {c : Code} {H : Heap} {locs : List Loc} {cells slots : Nat} {Q : State → Prop}
variable {cc : ByteArray} {pc nL : Nat} {ret : Option FieldType} {own : String} {ls : Array Slot} {rest : List Value} {D : va_G} {ct : Nat → ClassId} {B : Nat} {Hb : Heap} {S : St} {H0 : Heap} {sa : Nat → Nat}
theorem ek_blind {av : List Value} : FrameBlind (va_Pc av (fun U => MPK D ct B Hb S U ∧ EK sa B U)) := fun a U g mk q => ⟨q.1, (mpk_blind a U g mk ⟨q.1, q.2.1⟩).2, q.2.2.call g mk a⟩
theorem ek_pre (C0 : XC D ct p s m args meth c cc nL ret own) (hE : EK sa B s) (hS : va_S (AB B) s.heap H locs) (hP : MP D ct B Hb S H) {av : List Value} (U : State) (hU : U.heap = H) (hW : s.WarmedH U.vm) : va_Pc av (fun U => MPK D ct B Hb S U ∧ EK sa B U) av.toArray U := ⟨rfl, (mpk_pre C0 hP (av := av) U hU hW).2, hE.at hS hU hW⟩
theorem MP_grow {H1 : Heap} (hP : MP D ct B Hb S H) (h1 : H.size ≤ H1.size) (h2 : ∀ q : Nat, q < H.size → H1[q]? = H[q]?) : ∃ u, tp S ≤ u ∧ MP D ct B Hb (stp S u) H1 := by
  refine ⟨H1.size - B, by have := hP.1; omega, ?_, fun q hq => by rw [h2 q (by have := hP.1; omega)]; exact hP.2.1 q hq, fun k e' he => ?_⟩
  · show H1.size = B + (H1.size - B)
    have := hP.1
    omega
  · have he' : lay B ct S k = some e' := he
    exact (hP.2.2 k e' he').kept (h2 _ (by have := MP.lt hP he'; have := hP.1; omega))
/-- what a thrower leaves: the class, the world with some cells more -/
abbrev XF (D : va_G) (ct : Nat → ClassId) (B : Nat) (Hb : Heap) (S : St) (P : String → Prop) : String → State → State → Prop := vx_X (fun u : Nat => tp S ≤ u) (fun E u t => P E ∧ MP D ct B Hb (stp S u) t.heap) (AB B)
theorem x_throw (C0 : XC D ct p s m args meth c cc nL ret own) (hl : l.stackTraces = false) (hE : EK sa B s) (hP : MP D ct B Hb S H) (hS : va_S (AB B) s.heap H locs) {P : String → Prop} {Qc : Array Value → State → Outcome → State → Prop} {mc ms : Nat} {cls : String} (hPc : P cls) (hcls : Bundle.fit cls = true) {ik is ic i : Nat} (hpg : ∀ w ∈ Bundle.ownAtoms own ic cls nRE, Pg w)
    (hk : Cond.classLink own ik cls ∈ tG) (hini : Cond.initialized cls ∈ tG) (hi : i < 6) (ho : eOw i = own) (hx : eIx i = is) (hsize : ls.size = c.maxLocals)
    (d0 : decode cc pc = .ok (.new ik, 3)) (d3 : decode cc (pc + 3) = .ok (.dup, 1)) (d4 : (decode cc (pc + 4) = .ok (.ldc is, 2) ∧ decode cc (pc + 6) = .ok (.invokespecial ic, 3) ∧ decode cc (pc + 9) = .ok (.athrow, 1)) ∨ (decode cc (pc + 4) = .ok (.ldc_w is, 3) ∧ decode cc (pc + 7) = .ok (.invokespecial ic, 3) ∧ decode cc (pc + 10) = .ok (.athrow, 1)))
    (hout : ∀ x ∈ c.exceptionTable.toList, False) (hRf : 6 ≤ R.frames) (hRl : (rest.map fun v => v.category).sum + 82 ≤ R.locals) (hRc : cells + 1 ≤ R.cells) (hRs : slots + 6 ≤ R.slots) (hc : cells + 1 ≤ mc) (hs : slots + 6 ≤ ms) :
    W p l e R s m args below meth c H locs cells slots (vx_MQ below Qc (XF D ct B Hb S P) args s mc ms (AB B)) (F0 m pc ls rest) := by
  obtain ⟨hxx, hb, hr, hml, hown, hts, hK, hlocks, hN⟩ := id C0
  have hat : ∀ w ∈ vx_atS own ic cls nRE, w.before args s = true := by
    intro w hw
    obtain ⟨h1, h2⟩ := List.mem_filter.mp hw
    obtain ⟨g1, g2⟩ := hpg w h1
    cases g : goodWord w with
    | true => exact hts _ (g1 g)
    | false => exact va_Nw.use (XW_ot w (g2 g h2)) (hE.1 w (g2 g h2))
  have hgood : ∀ w ∈ Cond.classLink own ik cls :: Cond.initialized cls :: vx_atS own ic cls nRE, vx_ot w = true := by
    intro w hw
    unfold vx_ot
    rcases List.mem_cons.mp hw with rfl | hw
    · rw [tG_good hk, Bool.or_true]
    · rcases List.mem_cons.mp hw with rfl | hw
      · rw [tG_good hini, Bool.or_true]
      · obtain ⟨h1, h2⟩ := List.mem_filter.mp hw
        obtain ⟨g1, g2⟩ := hpg w h1
        cases g : goodWord w with
        | true => rw [Bool.or_true]
        | false => rw [XW_ot w (g2 g h2), Bool.true_or]
  have hz := hE.2.1 i hi
  rw [ho, hx] at hz
  have hnames : ∀ n ∈ nRE, Bundle.fit n = true := by decide +kernel
  have hXC : ∀ t : State, s.vm.Alike t.vm → H.size ≤ t.heap.size → (∀ q : Nat, q < H.size → t.heap[q]? = H[q]?) → XF D ct B Hb S P cls s t := fun t _ h1 h2 => by
    obtain ⟨u, hu, hM⟩ := MP_grow hP h1 h2
    refine ⟨u, hu, ⟨hPc, hM⟩, Nat.le_trans hS.1 h1, fun q g1 g2 => ?_⟩
    rw [h2 q (Nat.lt_of_lt_of_le g1 hS.1)]
    exact hS.2.1 q g1 g2
  rcases d4 with ⟨e4, e6, e9⟩ | ⟨e4, e6, e9⟩
  · exact vx_throwS hxx hb hl hown hcls hnames (hts _ hk) (hts _ hini) hz hat hgood hE.2.2.1 hE.2.2.2.1 hS hsize d0 d3 e4 e6 e9 (fun x hx => (hout x hx).elim) (by show 2 + 3 < _; omega) (by show _ + (13 * 3 + 43) ≤ _; omega) hRc hRs hlocks hXC hS.2.2 hc hs
  · exact vx_throwSW hxx hb hl hown hcls hnames (hts _ hk) (hts _ hini) hz hat hgood hE.2.2.1 hE.2.2.2.1 hS hsize d0 d3 e4 e6 e9 (fun x hx => (hout x hx).elim) (by show 2 + 3 < _; omega) (by show _ + (13 * 3 + 43) ≤ _; omega) hRc hRs hlocks hXC hS.2.2 hc hs
/-- a contract of a thrower out of a walk -/
theorem mk_metX {E : State → Prop} {y : MethodName} {rm : Room} {av : List Value} {Qc : Array Value → State → Outcome → State → Prop} {XCq : String → State → State → Prop} {mc ms : Nat} (hy : plainName y.cls = true) (hlen : (lg_sl av).length ≤ nL)
    (body : ∀ (p : Program) (e : Env) (s : State) (m : MethodId) (args : Array Value) (below : List Frame) (meth : Method) (c : Code) (ls : Array Slot), XC D ct p s m args meth c cc nL ret y.cls → (∀ x ∈ c.exceptionTable.toList, False) → E s → MP D ct B Hb S s.heap → lv_has ls nL (lv_args 0 av) →
      W p l e rm s m args below meth c s.heap [] 0 0 (vx_MQ below Qc XCq args s mc ms (AB B)) (F0 m 0 ls [])) : vx_Met l y (Cond.code y cc nL ret :: tG) rm (va_Pc av (fun U => MPK D ct B Hb S U ∧ E U)) Qc XCq mc ms (AB B) := by
  refine vx_ofW (cc := cc) (maxL := nL) (ret := ret) hy rfl ?_
  intro p e s m args below meth c s₁ Bo hml htab hv
  obtain ⟨rfl, ⟨hP, hK, hN⟩, hE⟩ := hv
  have hts := atoms_spec (ws := Cond.code y cc nL ret :: tG) Bo.pre
  have hl := lv_entry av (n := nL) hlen
  rw [lg_entry_eq]
  exact body p e s m _ below meth c _ ⟨Bo.exec, Bo.bytes, Bo.returns, hml, findClass_of_methodNamed Bo.named, fun w hw => hts w (List.mem_cons_of_mem _ hw), hK, Bo.notSynchronized, hN⟩ htab hE hP hl
/-- an overridden method that may throw -/
theorem vx_runU {x y : MethodName} {bytes cc : ByteArray} {maxL nL mc ms n index : Nat} {ret : Option FieldType} {ws : List Cond} {rm : Room} {Pc : Array Value → State → Prop} {Qc : Array Value → State → Outcome → State → Prop} {XCq : String → State → State → Prop} {free : Addr → Prop} {Ts : List Cond} {own C owner : String} {b : Addr} {As rest : List Value} {g : JFrame}
    (S : CallFix p m c cc nL s args Ts own) (hM : vx_Met l y ws rm Pc Qc XCq mc ms free) (cw : va_CU R s args own C owner index x y bytes maxL ret ws rm mc ms n) (hp : PreV s H C b Pc As)
    (hg : g.method = m) (hn : As.length = n) (hsize : g.locals.size = nL) (hstack : g.stack = As.reverse ++ .ref b :: rest) (hW : 2 * g.monitorRoom + (rest.map fun v => v.category).sum ≤ 8) (hdg : decode cc g.pc = .ok (.invokevirtual index, 3)) (hf : cells + mc ≤ R.cells ∧ slots + ms ≤ R.slots) :
    vx_Run p l e R s m args below meth c H locs cells slots mc ms g rest (Qc (Value.ref b :: As).toArray) XCq free := by
  obtain ⟨hrc, hrs, hfr, hlo, hws, hcw⟩ := cw.back
  have hini := cw.init
  have hK : vx_Back l R p e below s args y 3 8 (PreOf R mc ms Pc) (PostOf Qc mc ms free) (vx_Post XCq mc ms free) := vx_back (bytes := bytes) (maxL := maxL) (ret := ret) hM hp.1 hrc hrs hfr hlo hws hcw (fun a' U hW => word_at hW (Or.inl (by first | rfl | simp [Cond.onTables, Cond.keeps, Cond.steady])) hini)
  obtain ⟨hx, hb, hml, ho, -⟩ := S
  obtain ⟨-, ⟨cellB, hcB, hoB, hclB⟩, hPc⟩ := hp
  intro T hT X
  have hcell : T.heap[b]? = some cellB := by rw [hT]; exact hcB
  obtain ⟨r0, r, hn0, hrm, hstR, hsigR⟩ := cw.decl
  obtain ⟨cn, ck, r1, hcn, hck, hni, hf0, hn1⟩ := Cond.sameMethod_found cw.same
  cases hn0.symm.trans hn1
  obtain ⟨mk, methM, hnamed, hmethM, -, habM⟩ := Cond.instanceMethod_spec cw.inst
  obtain ⟨c2, r2, m2, q1, q2, q3, q4, kP, hkP, hkPi⟩ := Cond.selects_spec cw.sel
  cases hclB.symm.trans q1
  cases hf0.symm.trans q2
  cases hnamed.symm.trans q3
  have hselP : selectMethod e.platform s.vm cellB.cls r0 = .method mk := by rw [Launch.admits_selectMethod X.admits]; exact q4
  obtain ⟨vm₁, X₁, hstep₁⟩ := X.invokevirtualUp hx ho cw.link cw.same cw.notMH hn0 hrm hstR (a := b) (cell := cellB) hcell
    (fun z h => by rw [h] at hoB; cases hoB) hselP hmethM habM hkP hkPi (g := g) hg (argsL := As) (rest := rest) (by have := cw.len _ hsigR; exact hn.trans this) hstack (by rw [hb]; exact hdg)
  rcases hK m meth c ⟨T.setVm vm₁, locs, cells, slots⟩ { g with stack := rest } (.invokevirtual index) mk (Value.ref b :: As).toArray X₁ hg (hsize.trans hml.symm) (by rw [hb]; exact hdg) hW (X₁.named hnamed) ⟨hf.1, hf.2, hPc (T.setVm vm₁) hT X₁.warmed⟩ with ⟨v, ⟨U', l2, c2, s2⟩, X', ⟨g', mk, t, L, e1, e2, hq, h1, hL, h2, h3⟩, hsteps⟩ | ⟨q, ⟨U', l2, c2, s2⟩, X', ⟨g', mk, t, L, E, ce, e1, e2, hq, hce, hcv, hcl, h1, hL, h2, h3⟩, hsteps⟩
  · dsimp only [Pt.U, Pt.locs, Pt.cells, Pt.slots] at X' e1 e2 h1 h2 h3 hsteps
    subst h1; subst h2; subst h3
    exact Or.inl ⟨v, (T.setVm vm₁).calling g' mk (Value.ref b :: As).toArray, t, U', L, hT, X', hL, e1, e2, hq, fun target h => hstep₁ _ fun acts => by rw [doInvoke_state]; exact hsteps.trans h⟩
  · dsimp only [Pt.U, Pt.locs, Pt.cells, Pt.slots] at X' e1 e2 h1 h2 h3 hsteps hcl
    subst h1; subst h2; subst h3
    exact Or.inr ⟨q, (T.setVm vm₁).calling g' mk (Value.ref b :: As).toArray, t, U', L, E, ce, hT, X', hL, e1, e2, hq, hce, hcv, vx_cls X₁.warmed hcl, hstep₁ _ fun acts => by rw [doInvoke_state]; exact hsteps⟩
/-- which FAILURE one has -/
def fkE (k : Nat) : String := if k = 2 ∨ k = 3 then "java/lang/IllegalArgumentException" else if k = 5 then "java/lang/UnsupportedOperationException" else "java/lang/IllegalStateException"
def fk (z : Nat × Int32) : Option String := if z.2 = 0 then none else if z.1 ≤ 5 then some (fkE z.1) else none
abbrev qF (D : va_G) (ct : Nat → ClassId) (B : Nat) (Hb : Heap) (S : St) (z : Nat × Int32) : Array Value → State → Outcome → State → Prop := va_Qv (fun (_ : Unit) => fk z = none) (fun _ t => MPK D ct B Hb S t) (AB B)

set_option maxRecDepth 100000 in
theorem c_X7_fail (hl : l.stackTraces = false) {q : Nat} {z : Nat × Int32} (hz : gq S q = some z) (hf : fk z = if z.2 = 0 then none else some "java/lang/IllegalStateException") : vx_Met l yX7_fail (Cond.code yX7_fail cX7_fail 1 none :: tG) { frames := 6, cells := 1, slots := 6, locals := 90 } (va_Pc [.ref (B + q)] (fun U => MPK D ct B Hb S U ∧ EK sa B U)) (qF D ct B Hb S z) (XF D ct B Hb S (fun E => fk z = some E)) 1 6 (AB B) := by
  refine mk_metX (by decide +kernel) (Nat.le_of_ble_eq_true rfl) (fun p e s m args below meth c ls C0 htab hE hP hlv => ?_)
  have hS : va_S (AB B) s.heap s.heap [] := va_S.rf
  obtain ⟨hx, hb, hr, hml, hown, hts, hK, hlocks, hN⟩ := id C0
  refine lv_aload_n hx hb dX7_fail_0 rfl (lv_at hlv 0 rfl) ?_
  refine x_pl C0 hP hz 1 (by decide) (Or.inr ⟨rfl, rfl⟩) wd_50 (fun _ h => h) rfl dX7_fail_1 ?_
  refine lv_if_eq (tgt := 17) hx hb dX7_fail_4 (by decide) (fun w => ?_) (fun w => ?_)
  · refine vx_ret ?_
    refine W.widen (k := 1) (n := 6) (by omega) (by omega) ?_
    exact W.vret hx hb hr (fun t ht hW => ⟨⟨(), rfl, by rw [hf, if_pos w], by rw [ht]; exact hP, va_K.moved hW.alike hK, hN.warm hW⟩, hS.F ht⟩) hS.2.2 dX7_fail_17 hlocks
  · exact x_throw (i := 0) C0 hl hE hP hS (cls := "java/lang/IllegalStateException") (by rw [hf, if_neg w]) (by decide +kernel) pg_X7_20 wd_1105 wd_25 (by decide) rfl rfl (by rw [hml]; exact hlv.1) dX7_fail_7 dX7_fail_10 (Or.inl ⟨dX7_fail_11, dX7_fail_13, dX7_fail_16⟩) htab (Nat.le_of_ble_eq_true rfl) (Nat.le_of_ble_eq_true rfl) (Nat.le_of_ble_eq_true rfl) (Nat.le_of_ble_eq_true rfl) (Nat.le_of_ble_eq_true rfl) (Nat.le_of_ble_eq_true rfl)
set_option maxRecDepth 100000 in
theorem c_X4_fail (hl : l.stackTraces = false) {q : Nat} {z : Nat × Int32} (hz : gq S q = some z) (hf : fk z = if z.2 = 0 then none else some "java/lang/IllegalArgumentException") : vx_Met l yX4_fail (Cond.code yX4_fail cX4_fail 1 none :: tG) { frames := 6, cells := 1, slots := 6, locals := 90 } (va_Pc [.ref (B + q)] (fun U => MPK D ct B Hb S U ∧ EK sa B U)) (qF D ct B Hb S z) (XF D ct B Hb S (fun E => fk z = some E)) 1 6 (AB B) := by
  refine mk_metX (by decide +kernel) (Nat.le_of_ble_eq_true rfl) (fun p e s m args below meth c ls C0 htab hE hP hlv => ?_)
  have hS : va_S (AB B) s.heap s.heap [] := va_S.rf
  obtain ⟨hx, hb, hr, hml, hown, hts, hK, hlocks, hN⟩ := id C0
  refine lv_aload_n hx hb dX4_fail_0 rfl (lv_at hlv 0 rfl) ?_
  refine x_pl C0 hP hz 1 (by decide) (Or.inr ⟨rfl, rfl⟩) wd_51 (fun y hy => (u_same (hts _ wd_52) y hy)) rfl dX4_fail_1 ?_
  refine lv_if_eq (tgt := 17) hx hb dX4_fail_4 (by decide) (fun w => ?_) (fun w => ?_)
  · refine vx_ret ?_
    refine W.widen (k := 1) (n := 6) (by omega) (by omega) ?_
    exact W.vret hx hb hr (fun t ht hW => ⟨⟨(), rfl, by rw [hf, if_pos w], by rw [ht]; exact hP, va_K.moved hW.alike hK, hN.warm hW⟩, hS.F ht⟩) hS.2.2 dX4_fail_17 hlocks
  · exact x_throw (i := 1) C0 hl hE hP hS (cls := "java/lang/IllegalArgumentException") (by rw [hf, if_neg w]) (by decide +kernel) pg_X4_34 wd_1016 wd_24 (by decide) rfl rfl (by rw [hml]; exact hlv.1) dX4_fail_7 dX4_fail_10 (Or.inl ⟨dX4_fail_11, dX4_fail_13, dX4_fail_16⟩) htab (Nat.le_of_ble_eq_true rfl) (Nat.le_of_ble_eq_true rfl) (Nat.le_of_ble_eq_true rfl) (Nat.le_of_ble_eq_true rfl) (Nat.le_of_ble_eq_true rfl) (Nat.le_of_ble_eq_true rfl)
set_option maxRecDepth 100000 in
theorem c_X6_fail (hl : l.stackTraces = false) {q : Nat} {z : Nat × Int32} (hz : gq S q = some z) (hf : fk z = if z.2 = 0 then none else some "java/lang/UnsupportedOperationException") : vx_Met l yX6_fail (Cond.code yX6_fail cX6_fail 1 none :: tG) { frames := 6, cells := 1, slots := 6, locals := 90 } (va_Pc [.ref (B + q)] (fun U => MPK D ct B Hb S U ∧ EK sa B U)) (qF D ct B Hb S z) (XF D ct B Hb S (fun E => fk z = some E)) 1 6 (AB B) := by
  refine mk_metX (by decide +kernel) (Nat.le_of_ble_eq_true rfl) (fun p e s m args below meth c ls C0 htab hE hP hlv => ?_)
  have hS : va_S (AB B) s.heap s.heap [] := va_S.rf
  obtain ⟨hx, hb, hr, hml, hown, hts, hK, hlocks, hN⟩ := id C0
  refine lv_aload_n hx hb dX6_fail_0 rfl (lv_at hlv 0 rfl) ?_
  refine x_pl C0 hP hz 1 (by decide) (Or.inr ⟨rfl, rfl⟩) wd_53 (fun y hy => (u_same (hts _ wd_54) y hy)) rfl dX6_fail_1 ?_
  refine lv_if_eq (tgt := 17) hx hb dX6_fail_4 (by decide) (fun w => ?_) (fun w => ?_)
  · refine vx_ret ?_
    refine W.widen (k := 1) (n := 6) (by omega) (by omega) ?_
    exact W.vret hx hb hr (fun t ht hW => ⟨⟨(), rfl, by rw [hf, if_pos w], by rw [ht]; exact hP, va_K.moved hW.alike hK, hN.warm hW⟩, hS.F ht⟩) hS.2.2 dX6_fail_17 hlocks
  · exact x_throw (i := 2) C0 hl hE hP hS (cls := "java/lang/UnsupportedOperationException") (by rw [hf, if_neg w]) (by decide +kernel) pg_X6_25 wd_1087 wd_26 (by decide) rfl rfl (by rw [hml]; exact hlv.1) dX6_fail_7 dX6_fail_10 (Or.inl ⟨dX6_fail_11, dX6_fail_13, dX6_fail_16⟩) htab (Nat.le_of_ble_eq_true rfl) (Nat.le_of_ble_eq_true rfl) (Nat.le_of_ble_eq_true rfl) (Nat.le_of_ble_eq_true rfl) (Nat.le_of_ble_eq_true rfl) (Nat.le_of_ble_eq_true rfl)
set_option maxRecDepth 100000 in
theorem c_X1_fail {q : Nat} {z : Nat × Int32} (hf : fk z = none) : vx_Met l yX1_fail (Cond.code yX1_fail cX1_fail 1 none :: tG) { frames := 6, cells := 1, slots := 6, locals := 90 } (va_Pc [.ref (B + q)] (fun U => MPK D ct B Hb S U ∧ EK sa B U)) (qF D ct B Hb S z) (XF D ct B Hb S (fun E => fk z = some E)) 1 6 (AB B) := by
  refine mk_metX (by decide +kernel) (Nat.le_of_ble_eq_true rfl) (fun p e s m args below meth c ls C0 htab hE hP hlv => ?_)
  have hS : va_S (AB B) s.heap s.heap [] := va_S.rf
  obtain ⟨hx, hb, hr, hml, hown, hts, hK, hlocks, hN⟩ := id C0
  refine vx_ret ?_
  refine W.widen (k := 1) (n := 6) (by omega) (by omega) ?_
  exact W.vret hx hb hr (fun t ht hW => ⟨⟨(), rfl, hf, by rw [ht]; exact hP, va_K.moved hW.alike hK, hN.warm hW⟩, hS.F ht⟩) hS.2.2 dX1_fail_0 hlocks
theorem kXU (C0 : XC D ct p s m args meth c cc nL ret own) (hE : EK sa B s) (hS : va_S (AB B) s.heap H locs) {x y : MethodName} {bytes : ByteArray} {maxL fr lo n index mc ms k : Nat} {rt : Option FieldType} {As st : List Value} {Qc : Array Value → State → Outcome → State → Prop} {XCq : String → State → State → Prop} {C : String}
    (hM : vx_Met l y (Cond.code y bytes maxL rt :: tG) { frames := fr, cells := mc, slots := ms, locals := lo } (va_Pc (.ref (B + k) :: As) (fun U => MPK D ct B Hb S U ∧ EK sa B U)) Qc XCq mc ms (AB B))
    {b0 : ByteArray} {m0 : Nat} {r0 : Option FieldType}
    (hw : Cond.code y bytes maxL rt ∈ tG ∧ Cond.methodLink own index x ∈ tG ∧ Cond.sameMethod x.cls x.cls x.name x.desc ∈ tG ∧ Cond.instanceMethod x ∈ tG ∧ Cond.selects C x y ∈ tG ∧ Cond.instanceMethod y ∈ tG ∧ Cond.initialized y.cls ∈ tG ∧ Cond.code x b0 m0 r0 ∈ tG)
    (hd : x.cls ≠ "java/lang/invoke/MethodHandle" ∧ x.cls ≠ "java/lang/invoke/VarHandle" ∧ (parseMethodDescriptor x.desc).map (fun d => d.parameters.length) = some n) (hR : fr + 1 ≤ R.frames ∧ 8 + (maxL + 11) + lo ≤ R.locals)
    (hP : MP D ct B Hb S H) {z : Nat × Int32} (hz : gq S k = some z) (hC : clK (ciK z.1) = C) (hn : As.length = n) (hsize : ls.size = nL) (hst : st = As.reverse ++ .ref (B + k) :: rest) (hcat : (rest.map fun v => v.category).sum ≤ 8) (hdg : decode cc pc = .ok (.invokevirtual index, 3)) (hf : cells + mc ≤ R.cells ∧ slots + ms ≤ R.slots) :
    vx_Run p l e R s m args below meth c H locs cells slots mc ms (F0 m pc ls st) rest (Qc (.ref (B + k) :: As).toArray) XCq (AB B) := by
  obtain ⟨hx, hb, hr, hml, hown, hts, hK, hlocks, hN⟩ := id C0
  obtain ⟨w1, w2, w3, w4, w5, w6, w7, w8⟩ := hw
  subst hC
  refine vx_runU (As := As) (rest := rest) (Ts := tG) (own := own) (C := clK (ciK z.1)) ⟨hx, hb, hml, hown, hts⟩ hM (va_cwO (owner := x.cls) (x := x) (b0 := b0) (m0 := m0) (r0 := r0) n hts (tG_gi (fun w hw => ?_)) rfl rfl rfl w8 hd hR) ⟨ek_blind, pl_recv C0 hP hz, ek_pre C0 hE hS hP⟩ rfl hn hsize hst (lv_room hcat) hdg hf
  rcases List.mem_append.mp hw with h | h
  · simp only [List.mem_cons, List.not_mem_nil, or_false] at h
    rcases h with rfl | rfl | rfl | rfl | rfl | rfl
    · exact w2
    · exact w3
    · exact w4
    · exact w5
    · exact w6
    · exact w7
  · rcases List.mem_cons.mp h with rfl | h
    · exact w1
    · exact h
set_option maxRecDepth 100000 in
theorem kv_fail (hlt : l.stackTraces = false) (C0 : XC D ct p s m args meth c cc nL ret own) (hE : EK sa B s) (hS : va_S (AB B) s.heap H locs) {index : Nat} {st : List Value} (hl : Cond.methodLink own index yX7_fail ∈ tG) {q : Nat} {z : Nat × Int32} (hz : gq S q = some z) (hk8 : z.1 < 8) (hR : 7 ≤ R.frames ∧ 8 + (1 + 11) + 90 ≤ R.locals) (hP : MP D ct B Hb S H) (hsize : ls.size = nL) (hst : st = .ref (B + q) :: rest) (hcat : (rest.map fun v => v.category).sum ≤ 8) (hdg : decode cc pc = .ok (.invokevirtual index, 3)) (hf : cells + 1 ≤ R.cells ∧ slots + 6 ≤ R.slots) : vx_Run p l e R s m args below meth c H locs cells slots 1 6 (F0 m pc ls st) rest (qF D ct B Hb S z [.ref (B + q)].toArray) (XF D ct B Hb S (fun E => fk z = some E)) (AB B) := by
  rcases Decidable.em (z.1 = 0) with k0 | k0
  · exact kXU (x := yX7_fail) (C := RX7) (As := []) C0 hE hS (c_X7_fail hlt hz (by unfold fk; rw [k0]; rfl)) ⟨wd_1104, hl, wd_1007, wd_1005, wd_1006, wd_1005, wd_3, wd_1104⟩ kd_X7_fail.2 hR hP hz (by rw [k0]; rfl) rfl hsize hst hcat hdg hf
  · skip
    rcases Decidable.em (z.1 = 1) with k1 | k1
    · exact kXU (x := yX7_fail) (C := RX0) (As := []) C0 hE hS (c_X7_fail hlt hz (by unfold fk; rw [k1]; rfl)) ⟨wd_1104, hl, wd_1007, wd_1005, wd_1008, wd_1005, wd_3, wd_1104⟩ kd_X7_fail.2 hR hP hz (by rw [k1]; rfl) rfl hsize hst hcat hdg hf
    · skip
      rcases Decidable.em (z.1 = 2) with k2 | k2
      · exact kXU (x := yX7_fail) (C := RX4) (As := []) C0 hE hS (c_X4_fail hlt hz (by unfold fk; rw [k2]; rfl)) ⟨wd_1015, hl, wd_1007, wd_1005, wd_1013, wd_1014, wd_13, wd_1104⟩ kd_X7_fail.2 hR hP hz (by rw [k2]; rfl) rfl hsize hst hcat hdg hf
      · skip
        rcases Decidable.em (z.1 = 3) with k3 | k3
        · exact kXU (x := yX7_fail) (C := RX9) (As := []) C0 hE hS (c_X4_fail hlt hz (by unfold fk; rw [k3]; rfl)) ⟨wd_1015, hl, wd_1007, wd_1005, wd_1103, wd_1014, wd_13, wd_1104⟩ kd_X7_fail.2 hR hP hz (by rw [k3]; rfl) rfl hsize hst hcat hdg hf
        · skip
          rcases Decidable.em (z.1 = 4) with k4 | k4
          · exact kXU (x := yX7_fail) (C := RX5) (As := []) C0 hE hS (c_X7_fail hlt hz (by unfold fk; rw [k4]; rfl)) ⟨wd_1104, hl, wd_1007, wd_1005, wd_1083, wd_1005, wd_3, wd_1104⟩ kd_X7_fail.2 hR hP hz (by rw [k4]; rfl) rfl hsize hst hcat hdg hf
          · skip
            rcases Decidable.em (z.1 = 5) with k5 | k5
            · exact kXU (x := yX7_fail) (C := RX6) (As := []) C0 hE hS (c_X6_fail hlt hz (by unfold fk; rw [k5]; rfl)) ⟨wd_1086, hl, wd_1007, wd_1005, wd_1084, wd_1085, wd_16, wd_1104⟩ kd_X7_fail.2 hR hP hz (by rw [k5]; rfl) rfl hsize hst hcat hdg hf
            · skip
              rcases Decidable.em (z.1 = 6) with k6 | k6
              · exact kXU (x := yX7_fail) (C := RX1) (As := []) C0 hE hS (c_X1_fail (by unfold fk; rw [k6]; exact ite_self _)) ⟨wd_1011, hl, wd_1007, wd_1005, wd_1009, wd_1010, wd_17, wd_1104⟩ kd_X7_fail.2 hR hP hz (by rw [k6]; rfl) rfl hsize hst hcat hdg hf
              · skip
                have k7 : z.1 = 7 := by omega
                exact kXU (x := yX7_fail) (C := RX3) (As := []) C0 hE hS (c_X1_fail (by unfold fk; rw [k7]; exact ite_self _)) ⟨wd_1011, hl, wd_1007, wd_1005, wd_1012, wd_1010, wd_17, wd_1104⟩ kd_X7_fail.2 hR hP hz (by rw [k7]; rfl) rfl hsize hst hcat hdg hf
end XTHR
