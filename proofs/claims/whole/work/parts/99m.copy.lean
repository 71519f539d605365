/-! ===== image: a house copied ===== -/
def cd_o (d0 d1 : Nat) (M : nM) (x : Nat × Nat × Nat) : nM := match x with
  | (0, a, n) => n_cpy M (a + d1) (a + d0) 0 0 n
  | (_, a, i) => n_up M (a + d0) i (M (a + d1) i)
def cd (d0 d1 : Nat) (l : List (Nat × Nat × Nat)) (M : nM) : nM := l.foldl (cd_o d0 d1) M
/-- the layout of a house, d behind the first -/
def HB (G : nG) (d : Nat) : Prop := ∀ a, 2 ≤ a → a < 45 → n_kd G (a + d) = n_nN n_kdL a 99 ∧ n_len G (a + d) = n_nN n_lenL a 0 ∧ ∀ k, n_mr G (a + d) k = (if n_nN (n_nL n_mrL a) k 0 = 0 then 0 else n_nN (n_nL n_mrL a) k 0 + d)
theorem nbeq {a b : Nat} (h : a = b) : Nat.beq a b = true := by rw [h]; exact Nat.beq_refl b
theorem cd_app {d0 d1 : Nat} {l m : List (Nat × Nat × Nat)} {M : nM} : cd d0 d1 m (cd d0 d1 l M) = cd d0 d1 (l ++ m) M := by
  unfold cd
  rw [List.foldl_append]
theorem cd_cp {G : nG} {a b L : Nat} {n : Int32} (h1 : n_kd G a = 14) (h2 : n_kd G b = 14) (h3 : n_len G a = L) (h4 : n_len G b = L) (hL : L < 2 ^ 31) (hn : n = nI L) : n_cpok G a b (0 : Int32) (0 : Int32) n = true := by
  subst hn
  unfold n_cpok
  rw [h1, h2, h3, h4, nI_clamp hL]
  have e0 : (0 : Int32).toNatClampNeg = 0 := by decide
  have e1 : ¬ nI L < (0 : Int32) := nI_pos hL
  have e2 : ¬ (0 : Int32) < 0 := by decide
  rw [e0, decide_eq_false e1, decide_eq_false e2, Nat.zero_add, Nat.ble_eq_true_of_le (Nat.le_refl L)]
  rfl
theorem cd_min {x : Int32} : (if x < x then x else x) = x := ite_self x
theorem cp_8 {G : nG} {d0 d1 : Nat} {M : nM} (h0 : HB G d0) (h1 : HB G d1) : fX8_copyFrom G (3 + d0) (3 + d1) M = some ((), cd d0 d1 [(0, 4, 12), (0, 5, 16), (0, 6, 16), (0, 7, 12), (0, 8, 12), (1, 3, 5), (1, 3, 6)] M) := by
  have b3_0 : Nat.beq (n_kd G (3 + d0)) 8 = true := nbeq (h0 3 (by decide) (by decide)).1
  have b3_1 : Nat.beq (n_kd G (3 + d1)) 8 = true := nbeq (h1 3 (by decide) (by decide)).1
  have m3_0_0 : n_mr G (3 + d0) 0 = 4 + d0 := (h0 3 (by decide) (by decide)).2.2 0
  have m3_0_1 : n_mr G (3 + d1) 0 = 4 + d1 := (h1 3 (by decide) (by decide)).2.2 0
  have m3_1_0 : n_mr G (3 + d0) 1 = 5 + d0 := (h0 3 (by decide) (by decide)).2.2 1
  have m3_1_1 : n_mr G (3 + d1) 1 = 5 + d1 := (h1 3 (by decide) (by decide)).2.2 1
  have m3_2_0 : n_mr G (3 + d0) 2 = 6 + d0 := (h0 3 (by decide) (by decide)).2.2 2
  have m3_2_1 : n_mr G (3 + d1) 2 = 6 + d1 := (h1 3 (by decide) (by decide)).2.2 2
  have m3_3_0 : n_mr G (3 + d0) 3 = 7 + d0 := (h0 3 (by decide) (by decide)).2.2 3
  have m3_3_1 : n_mr G (3 + d1) 3 = 7 + d1 := (h1 3 (by decide) (by decide)).2.2 3
  have m3_4_0 : n_mr G (3 + d0) 4 = 8 + d0 := (h0 3 (by decide) (by decide)).2.2 4
  have m3_4_1 : n_mr G (3 + d1) 4 = 8 + d1 := (h1 3 (by decide) (by decide)).2.2 4
  have c4 : n_cpok G (4 + d1) (4 + d0) (0 : Int32) (0 : Int32) (12 : Int32) = true := cd_cp (L := 12) (h1 4 (by decide) (by decide)).1 (h0 4 (by decide) (by decide)).1 (h1 4 (by decide) (by decide)).2.1 (h0 4 (by decide) (by decide)).2.1 (by decide) rfl
  have c5 : n_cpok G (5 + d1) (5 + d0) (0 : Int32) (0 : Int32) (16 : Int32) = true := cd_cp (L := 16) (h1 5 (by decide) (by decide)).1 (h0 5 (by decide) (by decide)).1 (h1 5 (by decide) (by decide)).2.1 (h0 5 (by decide) (by decide)).2.1 (by decide) rfl
  have c6 : n_cpok G (6 + d1) (6 + d0) (0 : Int32) (0 : Int32) (16 : Int32) = true := cd_cp (L := 16) (h1 6 (by decide) (by decide)).1 (h0 6 (by decide) (by decide)).1 (h1 6 (by decide) (by decide)).2.1 (h0 6 (by decide) (by decide)).2.1 (by decide) rfl
  have c7 : n_cpok G (7 + d1) (7 + d0) (0 : Int32) (0 : Int32) (12 : Int32) = true := cd_cp (L := 12) (h1 7 (by decide) (by decide)).1 (h0 7 (by decide) (by decide)).1 (h1 7 (by decide) (by decide)).2.1 (h0 7 (by decide) (by decide)).2.1 (by decide) rfl
  have c8 : n_cpok G (8 + d1) (8 + d0) (0 : Int32) (0 : Int32) (12 : Int32) = true := cd_cp (L := 12) (h1 8 (by decide) (by decide)).1 (h0 8 (by decide) (by decide)).1 (h1 8 (by decide) (by decide)).2.1 (h0 8 (by decide) (by decide)).2.1 (by decide) rfl
  have t0 : (0 : Int32).toNatClampNeg = 0 := by decide
  have t12 : (12 : Int32).toNatClampNeg = 12 := by decide
  have t16 : (16 : Int32).toNatClampNeg = 16 := by decide
  unfold fX8_copyFrom
  simp only [b3_0, b3_1, m3_0_0, m3_0_1, m3_1_0, m3_1_1, m3_2_0, m3_2_1, m3_3_0, m3_3_1, m3_4_0, m3_4_1, c4, c5, c6, c7, c8, t0, t12, t16, Bool.and_true, n_chk_t]
  rfl
theorem cp_4 {G : nG} {d0 d1 : Nat} {M : nM} (h0 : HB G d0) (h1 : HB G d1) : fX4_copyFrom G (9 + d0) (9 + d1) M = some ((), cd d0 d1 [(0, 10, 16), (0, 11, 16), (0, 12, 12), (0, 13, 12), (1, 9, 5), (1, 9, 6), (1, 9, 7), (1, 9, 8), (1, 9, 9), (1, 9, 10), (1, 9, 11)] M) := by
  have b9_0 : Nat.beq (n_kd G (9 + d0)) 4 = true := nbeq (h0 9 (by decide) (by decide)).1
  have b9_1 : Nat.beq (n_kd G (9 + d1)) 4 = true := nbeq (h1 9 (by decide) (by decide)).1
  have m9_1_0 : n_mr G (9 + d0) 1 = 10 + d0 := (h0 9 (by decide) (by decide)).2.2 1
  have m9_1_1 : n_mr G (9 + d1) 1 = 10 + d1 := (h1 9 (by decide) (by decide)).2.2 1
  have m9_2_0 : n_mr G (9 + d0) 2 = 11 + d0 := (h0 9 (by decide) (by decide)).2.2 2
  have m9_2_1 : n_mr G (9 + d1) 2 = 11 + d1 := (h1 9 (by decide) (by decide)).2.2 2
  have m9_3_0 : n_mr G (9 + d0) 3 = 12 + d0 := (h0 9 (by decide) (by decide)).2.2 3
  have m9_3_1 : n_mr G (9 + d1) 3 = 12 + d1 := (h1 9 (by decide) (by decide)).2.2 3
  have m9_4_0 : n_mr G (9 + d0) 4 = 13 + d0 := (h0 9 (by decide) (by decide)).2.2 4
  have m9_4_1 : n_mr G (9 + d1) 4 = 13 + d1 := (h1 9 (by decide) (by decide)).2.2 4
  have c10 : n_cpok G (10 + d1) (10 + d0) (0 : Int32) (0 : Int32) (16 : Int32) = true := cd_cp (L := 16) (h1 10 (by decide) (by decide)).1 (h0 10 (by decide) (by decide)).1 (h1 10 (by decide) (by decide)).2.1 (h0 10 (by decide) (by decide)).2.1 (by decide) rfl
  have c11 : n_cpok G (11 + d1) (11 + d0) (0 : Int32) (0 : Int32) (16 : Int32) = true := cd_cp (L := 16) (h1 11 (by decide) (by decide)).1 (h0 11 (by decide) (by decide)).1 (h1 11 (by decide) (by decide)).2.1 (h0 11 (by decide) (by decide)).2.1 (by decide) rfl
  have c12 : n_cpok G (12 + d1) (12 + d0) (0 : Int32) (0 : Int32) (12 : Int32) = true := cd_cp (L := 12) (h1 12 (by decide) (by decide)).1 (h0 12 (by decide) (by decide)).1 (h1 12 (by decide) (by decide)).2.1 (h0 12 (by decide) (by decide)).2.1 (by decide) rfl
  have c13 : n_cpok G (13 + d1) (13 + d0) (0 : Int32) (0 : Int32) (12 : Int32) = true := cd_cp (L := 12) (h1 13 (by decide) (by decide)).1 (h0 13 (by decide) (by decide)).1 (h1 13 (by decide) (by decide)).2.1 (h0 13 (by decide) (by decide)).2.1 (by decide) rfl
  have t0 : (0 : Int32).toNatClampNeg = 0 := by decide
  have t12 : (12 : Int32).toNatClampNeg = 12 := by decide
  have t16 : (16 : Int32).toNatClampNeg = 16 := by decide
  unfold fX4_copyFrom
  simp only [b9_0, b9_1, m9_1_0, m9_1_1, m9_2_0, m9_2_1, m9_3_0, m9_3_1, m9_4_0, m9_4_1, c10, c11, c12, c13, t0, t12, t16, Bool.and_true, n_chk_t]
  rfl
theorem cp_3 {G : nG} {d0 d1 : Nat} {M : nM} (h0 : HB G d0) (h1 : HB G d1) : fX3_copyFrom G (16 + d0) (16 + d1) M = some ((), cd d0 d1 [(0, 17, 400), (0, 18, 16), (0, 19, 16), (0, 20, 16), (0, 21, 16), (1, 16, 5), (1, 16, 6)] M) := by
  have b16_0 : Nat.beq (n_kd G (16 + d0)) 3 = true := nbeq (h0 16 (by decide) (by decide)).1
  have b16_1 : Nat.beq (n_kd G (16 + d1)) 3 = true := nbeq (h1 16 (by decide) (by decide)).1
  have m16_0_0 : n_mr G (16 + d0) 0 = 17 + d0 := (h0 16 (by decide) (by decide)).2.2 0
  have m16_0_1 : n_mr G (16 + d1) 0 = 17 + d1 := (h1 16 (by decide) (by decide)).2.2 0
  have m16_1_0 : n_mr G (16 + d0) 1 = 18 + d0 := (h0 16 (by decide) (by decide)).2.2 1
  have m16_1_1 : n_mr G (16 + d1) 1 = 18 + d1 := (h1 16 (by decide) (by decide)).2.2 1
  have m16_2_0 : n_mr G (16 + d0) 2 = 19 + d0 := (h0 16 (by decide) (by decide)).2.2 2
  have m16_2_1 : n_mr G (16 + d1) 2 = 19 + d1 := (h1 16 (by decide) (by decide)).2.2 2
  have m16_3_0 : n_mr G (16 + d0) 3 = 20 + d0 := (h0 16 (by decide) (by decide)).2.2 3
  have m16_3_1 : n_mr G (16 + d1) 3 = 20 + d1 := (h1 16 (by decide) (by decide)).2.2 3
  have m16_4_0 : n_mr G (16 + d0) 4 = 21 + d0 := (h0 16 (by decide) (by decide)).2.2 4
  have m16_4_1 : n_mr G (16 + d1) 4 = 21 + d1 := (h1 16 (by decide) (by decide)).2.2 4
  have c17 : n_cpok G (17 + d1) (17 + d0) (0 : Int32) (0 : Int32) (400 : Int32) = true := cd_cp (L := 400) (h1 17 (by decide) (by decide)).1 (h0 17 (by decide) (by decide)).1 (h1 17 (by decide) (by decide)).2.1 (h0 17 (by decide) (by decide)).2.1 (by decide) rfl
  have c18 : n_cpok G (18 + d1) (18 + d0) (0 : Int32) (0 : Int32) (16 : Int32) = true := cd_cp (L := 16) (h1 18 (by decide) (by decide)).1 (h0 18 (by decide) (by decide)).1 (h1 18 (by decide) (by decide)).2.1 (h0 18 (by decide) (by decide)).2.1 (by decide) rfl
  have c19 : n_cpok G (19 + d1) (19 + d0) (0 : Int32) (0 : Int32) (16 : Int32) = true := cd_cp (L := 16) (h1 19 (by decide) (by decide)).1 (h0 19 (by decide) (by decide)).1 (h1 19 (by decide) (by decide)).2.1 (h0 19 (by decide) (by decide)).2.1 (by decide) rfl
  have c20 : n_cpok G (20 + d1) (20 + d0) (0 : Int32) (0 : Int32) (16 : Int32) = true := cd_cp (L := 16) (h1 20 (by decide) (by decide)).1 (h0 20 (by decide) (by decide)).1 (h1 20 (by decide) (by decide)).2.1 (h0 20 (by decide) (by decide)).2.1 (by decide) rfl
  have c21 : n_cpok G (21 + d1) (21 + d0) (0 : Int32) (0 : Int32) (16 : Int32) = true := cd_cp (L := 16) (h1 21 (by decide) (by decide)).1 (h0 21 (by decide) (by decide)).1 (h1 21 (by decide) (by decide)).2.1 (h0 21 (by decide) (by decide)).2.1 (by decide) rfl
  have t0 : (0 : Int32).toNatClampNeg = 0 := by decide
  have t16 : (16 : Int32).toNatClampNeg = 16 := by decide
  have t400 : (400 : Int32).toNatClampNeg = 400 := by decide
  unfold fX3_copyFrom
  simp only [b16_0, b16_1, m16_0_0, m16_0_1, m16_1_0, m16_1_1, m16_2_0, m16_2_1, m16_3_0, m16_3_1, m16_4_0, m16_4_1, c17, c18, c19, c20, c21, t0, t16, t400, Bool.and_true, n_chk_t]
  rfl
theorem cp_r14 {G : nG} {d0 d1 : Nat} {M : nM} (h0 : HB G d0) (h1 : HB G d1) : fX7_copyFrom G (14 + d0) (14 + d1) M = some ((), cd d0 d1 [(0, 15, 600), (1, 14, 3)] M) := by
  have b14_0 : Nat.beq (n_kd G (14 + d0)) 7 = true := nbeq (h0 14 (by decide) (by decide)).1
  have b14_1 : Nat.beq (n_kd G (14 + d1)) 7 = true := nbeq (h1 14 (by decide) (by decide)).1
  have m14_0_0 : n_mr G (14 + d0) 0 = 15 + d0 := (h0 14 (by decide) (by decide)).2.2 0
  have m14_0_1 : n_mr G (14 + d1) 0 = 15 + d1 := (h1 14 (by decide) (by decide)).2.2 0
  have c15 : n_cpok G (15 + d1) (15 + d0) (0 : Int32) (0 : Int32) (600 : Int32) = true := cd_cp (L := 600) (h1 15 (by decide) (by decide)).1 (h0 15 (by decide) (by decide)).1 (h1 15 (by decide) (by decide)).2.1 (h0 15 (by decide) (by decide)).2.1 (by decide) rfl
  have t0 : (0 : Int32).toNatClampNeg = 0 := by decide
  have t600 : (600 : Int32).toNatClampNeg = 600 := by decide
  have e0 : Nat.beq (n_kd G (15 + d0)) 14 = true := nbeq (h0 15 (by decide) (by decide)).1
  have l0 : Int32.ofNat (n_len G (15 + d0)) = (600 : Int32) := congrArg Int32.ofNat (h0 15 (by decide) (by decide)).2.1
  have e1 : Nat.beq (n_kd G (15 + d1)) 14 = true := nbeq (h1 15 (by decide) (by decide)).1
  have l1 : Int32.ofNat (n_len G (15 + d1)) = (600 : Int32) := congrArg Int32.ofNat (h1 15 (by decide) (by decide)).2.1
  unfold fX7_copyFrom
  simp only [b14_0, b14_1, m14_0_0, m14_0_1, e0, e1, l0, l1, cd_min, c15, t0, t600, Bool.and_true, n_chk_t]
  rfl
theorem cp_r22 {G : nG} {d0 d1 : Nat} {M : nM} (h0 : HB G d0) (h1 : HB G d1) : fX7_copyFrom G (22 + d0) (22 + d1) M = some ((), cd d0 d1 [(0, 23, 64), (1, 22, 3)] M) := by
  have b22_0 : Nat.beq (n_kd G (22 + d0)) 7 = true := nbeq (h0 22 (by decide) (by decide)).1
  have b22_1 : Nat.beq (n_kd G (22 + d1)) 7 = true := nbeq (h1 22 (by decide) (by decide)).1
  have m22_0_0 : n_mr G (22 + d0) 0 = 23 + d0 := (h0 22 (by decide) (by decide)).2.2 0
  have m22_0_1 : n_mr G (22 + d1) 0 = 23 + d1 := (h1 22 (by decide) (by decide)).2.2 0
  have c23 : n_cpok G (23 + d1) (23 + d0) (0 : Int32) (0 : Int32) (64 : Int32) = true := cd_cp (L := 64) (h1 23 (by decide) (by decide)).1 (h0 23 (by decide) (by decide)).1 (h1 23 (by decide) (by decide)).2.1 (h0 23 (by decide) (by decide)).2.1 (by decide) rfl
  have t0 : (0 : Int32).toNatClampNeg = 0 := by decide
  have t64 : (64 : Int32).toNatClampNeg = 64 := by decide
  have e0 : Nat.beq (n_kd G (23 + d0)) 14 = true := nbeq (h0 23 (by decide) (by decide)).1
  have l0 : Int32.ofNat (n_len G (23 + d0)) = (64 : Int32) := congrArg Int32.ofNat (h0 23 (by decide) (by decide)).2.1
  have e1 : Nat.beq (n_kd G (23 + d1)) 14 = true := nbeq (h1 23 (by decide) (by decide)).1
  have l1 : Int32.ofNat (n_len G (23 + d1)) = (64 : Int32) := congrArg Int32.ofNat (h1 23 (by decide) (by decide)).2.1
  unfold fX7_copyFrom
  simp only [b22_0, b22_1, m22_0_0, m22_0_1, e0, e1, l0, l1, cd_min, c23, t0, t64, Bool.and_true, n_chk_t]
  rfl
theorem cp_r24 {G : nG} {d0 d1 : Nat} {M : nM} (h0 : HB G d0) (h1 : HB G d1) : fX7_copyFrom G (24 + d0) (24 + d1) M = some ((), cd d0 d1 [(0, 25, 64), (1, 24, 3)] M) := by
  have b24_0 : Nat.beq (n_kd G (24 + d0)) 7 = true := nbeq (h0 24 (by decide) (by decide)).1
  have b24_1 : Nat.beq (n_kd G (24 + d1)) 7 = true := nbeq (h1 24 (by decide) (by decide)).1
  have m24_0_0 : n_mr G (24 + d0) 0 = 25 + d0 := (h0 24 (by decide) (by decide)).2.2 0
  have m24_0_1 : n_mr G (24 + d1) 0 = 25 + d1 := (h1 24 (by decide) (by decide)).2.2 0
  have c25 : n_cpok G (25 + d1) (25 + d0) (0 : Int32) (0 : Int32) (64 : Int32) = true := cd_cp (L := 64) (h1 25 (by decide) (by decide)).1 (h0 25 (by decide) (by decide)).1 (h1 25 (by decide) (by decide)).2.1 (h0 25 (by decide) (by decide)).2.1 (by decide) rfl
  have t0 : (0 : Int32).toNatClampNeg = 0 := by decide
  have t64 : (64 : Int32).toNatClampNeg = 64 := by decide
  have e0 : Nat.beq (n_kd G (25 + d0)) 14 = true := nbeq (h0 25 (by decide) (by decide)).1
  have l0 : Int32.ofNat (n_len G (25 + d0)) = (64 : Int32) := congrArg Int32.ofNat (h0 25 (by decide) (by decide)).2.1
  have e1 : Nat.beq (n_kd G (25 + d1)) 14 = true := nbeq (h1 25 (by decide) (by decide)).1
  have l1 : Int32.ofNat (n_len G (25 + d1)) = (64 : Int32) := congrArg Int32.ofNat (h1 25 (by decide) (by decide)).2.1
  unfold fX7_copyFrom
  simp only [b24_0, b24_1, m24_0_0, m24_0_1, e0, e1, l0, l1, cd_min, c25, t0, t64, Bool.and_true, n_chk_t]
  rfl
theorem cp_r26 {G : nG} {d0 d1 : Nat} {M : nM} (h0 : HB G d0) (h1 : HB G d1) : fX7_copyFrom G (26 + d0) (26 + d1) M = some ((), cd d0 d1 [(0, 27, 64), (1, 26, 3)] M) := by
  have b26_0 : Nat.beq (n_kd G (26 + d0)) 7 = true := nbeq (h0 26 (by decide) (by decide)).1
  have b26_1 : Nat.beq (n_kd G (26 + d1)) 7 = true := nbeq (h1 26 (by decide) (by decide)).1
  have m26_0_0 : n_mr G (26 + d0) 0 = 27 + d0 := (h0 26 (by decide) (by decide)).2.2 0
  have m26_0_1 : n_mr G (26 + d1) 0 = 27 + d1 := (h1 26 (by decide) (by decide)).2.2 0
  have c27 : n_cpok G (27 + d1) (27 + d0) (0 : Int32) (0 : Int32) (64 : Int32) = true := cd_cp (L := 64) (h1 27 (by decide) (by decide)).1 (h0 27 (by decide) (by decide)).1 (h1 27 (by decide) (by decide)).2.1 (h0 27 (by decide) (by decide)).2.1 (by decide) rfl
  have t0 : (0 : Int32).toNatClampNeg = 0 := by decide
  have t64 : (64 : Int32).toNatClampNeg = 64 := by decide
  have e0 : Nat.beq (n_kd G (27 + d0)) 14 = true := nbeq (h0 27 (by decide) (by decide)).1
  have l0 : Int32.ofNat (n_len G (27 + d0)) = (64 : Int32) := congrArg Int32.ofNat (h0 27 (by decide) (by decide)).2.1
  have e1 : Nat.beq (n_kd G (27 + d1)) 14 = true := nbeq (h1 27 (by decide) (by decide)).1
  have l1 : Int32.ofNat (n_len G (27 + d1)) = (64 : Int32) := congrArg Int32.ofNat (h1 27 (by decide) (by decide)).2.1
  unfold fX7_copyFrom
  simp only [b26_0, b26_1, m26_0_0, m26_0_1, e0, e1, l0, l1, cd_min, c27, t0, t64, Bool.and_true, n_chk_t]
  rfl
theorem cp_r29 {G : nG} {d0 d1 : Nat} {M : nM} (h0 : HB G d0) (h1 : HB G d1) : fX7_copyFrom G (29 + d0) (29 + d1) M = some ((), cd d0 d1 [(0, 30, 32), (1, 29, 3)] M) := by
  have b29_0 : Nat.beq (n_kd G (29 + d0)) 7 = true := nbeq (h0 29 (by decide) (by decide)).1
  have b29_1 : Nat.beq (n_kd G (29 + d1)) 7 = true := nbeq (h1 29 (by decide) (by decide)).1
  have m29_0_0 : n_mr G (29 + d0) 0 = 30 + d0 := (h0 29 (by decide) (by decide)).2.2 0
  have m29_0_1 : n_mr G (29 + d1) 0 = 30 + d1 := (h1 29 (by decide) (by decide)).2.2 0
  have c30 : n_cpok G (30 + d1) (30 + d0) (0 : Int32) (0 : Int32) (32 : Int32) = true := cd_cp (L := 32) (h1 30 (by decide) (by decide)).1 (h0 30 (by decide) (by decide)).1 (h1 30 (by decide) (by decide)).2.1 (h0 30 (by decide) (by decide)).2.1 (by decide) rfl
  have t0 : (0 : Int32).toNatClampNeg = 0 := by decide
  have t32 : (32 : Int32).toNatClampNeg = 32 := by decide
  have e0 : Nat.beq (n_kd G (30 + d0)) 14 = true := nbeq (h0 30 (by decide) (by decide)).1
  have l0 : Int32.ofNat (n_len G (30 + d0)) = (32 : Int32) := congrArg Int32.ofNat (h0 30 (by decide) (by decide)).2.1
  have e1 : Nat.beq (n_kd G (30 + d1)) 14 = true := nbeq (h1 30 (by decide) (by decide)).1
  have l1 : Int32.ofNat (n_len G (30 + d1)) = (32 : Int32) := congrArg Int32.ofNat (h1 30 (by decide) (by decide)).2.1
  unfold fX7_copyFrom
  simp only [b29_0, b29_1, m29_0_0, m29_0_1, e0, e1, l0, l1, cd_min, c30, t0, t32, Bool.and_true, n_chk_t]
  rfl
theorem cp_r31 {G : nG} {d0 d1 : Nat} {M : nM} (h0 : HB G d0) (h1 : HB G d1) : fX7_copyFrom G (31 + d0) (31 + d1) M = some ((), cd d0 d1 [(0, 32, 4), (1, 31, 3)] M) := by
  have b31_0 : Nat.beq (n_kd G (31 + d0)) 7 = true := nbeq (h0 31 (by decide) (by decide)).1
  have b31_1 : Nat.beq (n_kd G (31 + d1)) 7 = true := nbeq (h1 31 (by decide) (by decide)).1
  have m31_0_0 : n_mr G (31 + d0) 0 = 32 + d0 := (h0 31 (by decide) (by decide)).2.2 0
  have m31_0_1 : n_mr G (31 + d1) 0 = 32 + d1 := (h1 31 (by decide) (by decide)).2.2 0
  have c32 : n_cpok G (32 + d1) (32 + d0) (0 : Int32) (0 : Int32) (4 : Int32) = true := cd_cp (L := 4) (h1 32 (by decide) (by decide)).1 (h0 32 (by decide) (by decide)).1 (h1 32 (by decide) (by decide)).2.1 (h0 32 (by decide) (by decide)).2.1 (by decide) rfl
  have t0 : (0 : Int32).toNatClampNeg = 0 := by decide
  have t4 : (4 : Int32).toNatClampNeg = 4 := by decide
  have e0 : Nat.beq (n_kd G (32 + d0)) 14 = true := nbeq (h0 32 (by decide) (by decide)).1
  have l0 : Int32.ofNat (n_len G (32 + d0)) = (4 : Int32) := congrArg Int32.ofNat (h0 32 (by decide) (by decide)).2.1
  have e1 : Nat.beq (n_kd G (32 + d1)) 14 = true := nbeq (h1 32 (by decide) (by decide)).1
  have l1 : Int32.ofNat (n_len G (32 + d1)) = (4 : Int32) := congrArg Int32.ofNat (h1 32 (by decide) (by decide)).2.1
  unfold fX7_copyFrom
  simp only [b31_0, b31_1, m31_0_0, m31_0_1, e0, e1, l0, l1, cd_min, c32, t0, t4, Bool.and_true, n_chk_t]
  rfl
theorem cp_r33 {G : nG} {d0 d1 : Nat} {M : nM} (h0 : HB G d0) (h1 : HB G d1) : fX7_copyFrom G (33 + d0) (33 + d1) M = some ((), cd d0 d1 [(0, 34, 16), (1, 33, 3)] M) := by
  have b33_0 : Nat.beq (n_kd G (33 + d0)) 7 = true := nbeq (h0 33 (by decide) (by decide)).1
  have b33_1 : Nat.beq (n_kd G (33 + d1)) 7 = true := nbeq (h1 33 (by decide) (by decide)).1
  have m33_0_0 : n_mr G (33 + d0) 0 = 34 + d0 := (h0 33 (by decide) (by decide)).2.2 0
  have m33_0_1 : n_mr G (33 + d1) 0 = 34 + d1 := (h1 33 (by decide) (by decide)).2.2 0
  have c34 : n_cpok G (34 + d1) (34 + d0) (0 : Int32) (0 : Int32) (16 : Int32) = true := cd_cp (L := 16) (h1 34 (by decide) (by decide)).1 (h0 34 (by decide) (by decide)).1 (h1 34 (by decide) (by decide)).2.1 (h0 34 (by decide) (by decide)).2.1 (by decide) rfl
  have t0 : (0 : Int32).toNatClampNeg = 0 := by decide
  have t16 : (16 : Int32).toNatClampNeg = 16 := by decide
  have e0 : Nat.beq (n_kd G (34 + d0)) 14 = true := nbeq (h0 34 (by decide) (by decide)).1
  have l0 : Int32.ofNat (n_len G (34 + d0)) = (16 : Int32) := congrArg Int32.ofNat (h0 34 (by decide) (by decide)).2.1
  have e1 : Nat.beq (n_kd G (34 + d1)) 14 = true := nbeq (h1 34 (by decide) (by decide)).1
  have l1 : Int32.ofNat (n_len G (34 + d1)) = (16 : Int32) := congrArg Int32.ofNat (h1 34 (by decide) (by decide)).2.1
  unfold fX7_copyFrom
  simp only [b33_0, b33_1, m33_0_0, m33_0_1, e0, e1, l0, l1, cd_min, c34, t0, t16, Bool.and_true, n_chk_t]
  rfl
theorem cp_r35 {G : nG} {d0 d1 : Nat} {M : nM} (h0 : HB G d0) (h1 : HB G d1) : fX7_copyFrom G (35 + d0) (35 + d1) M = some ((), cd d0 d1 [(0, 36, 24), (1, 35, 3)] M) := by
  have b35_0 : Nat.beq (n_kd G (35 + d0)) 7 = true := nbeq (h0 35 (by decide) (by decide)).1
  have b35_1 : Nat.beq (n_kd G (35 + d1)) 7 = true := nbeq (h1 35 (by decide) (by decide)).1
  have m35_0_0 : n_mr G (35 + d0) 0 = 36 + d0 := (h0 35 (by decide) (by decide)).2.2 0
  have m35_0_1 : n_mr G (35 + d1) 0 = 36 + d1 := (h1 35 (by decide) (by decide)).2.2 0
  have c36 : n_cpok G (36 + d1) (36 + d0) (0 : Int32) (0 : Int32) (24 : Int32) = true := cd_cp (L := 24) (h1 36 (by decide) (by decide)).1 (h0 36 (by decide) (by decide)).1 (h1 36 (by decide) (by decide)).2.1 (h0 36 (by decide) (by decide)).2.1 (by decide) rfl
  have t0 : (0 : Int32).toNatClampNeg = 0 := by decide
  have t24 : (24 : Int32).toNatClampNeg = 24 := by decide
  have e0 : Nat.beq (n_kd G (36 + d0)) 14 = true := nbeq (h0 36 (by decide) (by decide)).1
  have l0 : Int32.ofNat (n_len G (36 + d0)) = (24 : Int32) := congrArg Int32.ofNat (h0 36 (by decide) (by decide)).2.1
  have e1 : Nat.beq (n_kd G (36 + d1)) 14 = true := nbeq (h1 36 (by decide) (by decide)).1
  have l1 : Int32.ofNat (n_len G (36 + d1)) = (24 : Int32) := congrArg Int32.ofNat (h1 36 (by decide) (by decide)).2.1
  unfold fX7_copyFrom
  simp only [b35_0, b35_1, m35_0_0, m35_0_1, e0, e1, l0, l1, cd_min, c36, t0, t24, Bool.and_true, n_chk_t]
  rfl
theorem cp_r37 {G : nG} {d0 d1 : Nat} {M : nM} (h0 : HB G d0) (h1 : HB G d1) : fX7_copyFrom G (37 + d0) (37 + d1) M = some ((), cd d0 d1 [(0, 38, 30), (1, 37, 3)] M) := by
  have b37_0 : Nat.beq (n_kd G (37 + d0)) 7 = true := nbeq (h0 37 (by decide) (by decide)).1
  have b37_1 : Nat.beq (n_kd G (37 + d1)) 7 = true := nbeq (h1 37 (by decide) (by decide)).1
  have m37_0_0 : n_mr G (37 + d0) 0 = 38 + d0 := (h0 37 (by decide) (by decide)).2.2 0
  have m37_0_1 : n_mr G (37 + d1) 0 = 38 + d1 := (h1 37 (by decide) (by decide)).2.2 0
  have c38 : n_cpok G (38 + d1) (38 + d0) (0 : Int32) (0 : Int32) (30 : Int32) = true := cd_cp (L := 30) (h1 38 (by decide) (by decide)).1 (h0 38 (by decide) (by decide)).1 (h1 38 (by decide) (by decide)).2.1 (h0 38 (by decide) (by decide)).2.1 (by decide) rfl
  have t0 : (0 : Int32).toNatClampNeg = 0 := by decide
  have t30 : (30 : Int32).toNatClampNeg = 30 := by decide
  have e0 : Nat.beq (n_kd G (38 + d0)) 14 = true := nbeq (h0 38 (by decide) (by decide)).1
  have l0 : Int32.ofNat (n_len G (38 + d0)) = (30 : Int32) := congrArg Int32.ofNat (h0 38 (by decide) (by decide)).2.1
  have e1 : Nat.beq (n_kd G (38 + d1)) 14 = true := nbeq (h1 38 (by decide) (by decide)).1
  have l1 : Int32.ofNat (n_len G (38 + d1)) = (30 : Int32) := congrArg Int32.ofNat (h1 38 (by decide) (by decide)).2.1
  unfold fX7_copyFrom
  simp only [b37_0, b37_1, m37_0_0, m37_0_1, e0, e1, l0, l1, cd_min, c38, t0, t30, Bool.and_true, n_chk_t]
  rfl
theorem cp_r39 {G : nG} {d0 d1 : Nat} {M : nM} (h0 : HB G d0) (h1 : HB G d1) : fX7_copyFrom G (39 + d0) (39 + d1) M = some ((), cd d0 d1 [(0, 40, 6), (1, 39, 3)] M) := by
  have b39_0 : Nat.beq (n_kd G (39 + d0)) 7 = true := nbeq (h0 39 (by decide) (by decide)).1
  have b39_1 : Nat.beq (n_kd G (39 + d1)) 7 = true := nbeq (h1 39 (by decide) (by decide)).1
  have m39_0_0 : n_mr G (39 + d0) 0 = 40 + d0 := (h0 39 (by decide) (by decide)).2.2 0
  have m39_0_1 : n_mr G (39 + d1) 0 = 40 + d1 := (h1 39 (by decide) (by decide)).2.2 0
  have c40 : n_cpok G (40 + d1) (40 + d0) (0 : Int32) (0 : Int32) (6 : Int32) = true := cd_cp (L := 6) (h1 40 (by decide) (by decide)).1 (h0 40 (by decide) (by decide)).1 (h1 40 (by decide) (by decide)).2.1 (h0 40 (by decide) (by decide)).2.1 (by decide) rfl
  have t0 : (0 : Int32).toNatClampNeg = 0 := by decide
  have t6 : (6 : Int32).toNatClampNeg = 6 := by decide
  have e0 : Nat.beq (n_kd G (40 + d0)) 14 = true := nbeq (h0 40 (by decide) (by decide)).1
  have l0 : Int32.ofNat (n_len G (40 + d0)) = (6 : Int32) := congrArg Int32.ofNat (h0 40 (by decide) (by decide)).2.1
  have e1 : Nat.beq (n_kd G (40 + d1)) 14 = true := nbeq (h1 40 (by decide) (by decide)).1
  have l1 : Int32.ofNat (n_len G (40 + d1)) = (6 : Int32) := congrArg Int32.ofNat (h1 40 (by decide) (by decide)).2.1
  unfold fX7_copyFrom
  simp only [b39_0, b39_1, m39_0_0, m39_0_1, e0, e1, l0, l1, cd_min, c40, t0, t6, Bool.and_true, n_chk_t]
  rfl
theorem cp_r41 {G : nG} {d0 d1 : Nat} {M : nM} (h0 : HB G d0) (h1 : HB G d1) : fX7_copyFrom G (41 + d0) (41 + d1) M = some ((), cd d0 d1 [(0, 42, 5), (1, 41, 3)] M) := by
  have b41_0 : Nat.beq (n_kd G (41 + d0)) 7 = true := nbeq (h0 41 (by decide) (by decide)).1
  have b41_1 : Nat.beq (n_kd G (41 + d1)) 7 = true := nbeq (h1 41 (by decide) (by decide)).1
  have m41_0_0 : n_mr G (41 + d0) 0 = 42 + d0 := (h0 41 (by decide) (by decide)).2.2 0
  have m41_0_1 : n_mr G (41 + d1) 0 = 42 + d1 := (h1 41 (by decide) (by decide)).2.2 0
  have c42 : n_cpok G (42 + d1) (42 + d0) (0 : Int32) (0 : Int32) (5 : Int32) = true := cd_cp (L := 5) (h1 42 (by decide) (by decide)).1 (h0 42 (by decide) (by decide)).1 (h1 42 (by decide) (by decide)).2.1 (h0 42 (by decide) (by decide)).2.1 (by decide) rfl
  have t0 : (0 : Int32).toNatClampNeg = 0 := by decide
  have t5 : (5 : Int32).toNatClampNeg = 5 := by decide
  have e0 : Nat.beq (n_kd G (42 + d0)) 14 = true := nbeq (h0 42 (by decide) (by decide)).1
  have l0 : Int32.ofNat (n_len G (42 + d0)) = (5 : Int32) := congrArg Int32.ofNat (h0 42 (by decide) (by decide)).2.1
  have e1 : Nat.beq (n_kd G (42 + d1)) 14 = true := nbeq (h1 42 (by decide) (by decide)).1
  have l1 : Int32.ofNat (n_len G (42 + d1)) = (5 : Int32) := congrArg Int32.ofNat (h1 42 (by decide) (by decide)).2.1
  unfold fX7_copyFrom
  simp only [b41_0, b41_1, m41_0_0, m41_0_1, e0, e1, l0, l1, cd_min, c42, t0, t5, Bool.and_true, n_chk_t]
  rfl
theorem cp_10 {G : nG} {d0 d1 : Nat} {M : nM} (h0 : HB G d0) (h1 : HB G d1) : fX10_copyFrom G (28 + d0) (28 + d1) M = some ((), cd d0 d1 [(0, 30, 32), (1, 29, 3), (0, 32, 4), (1, 31, 3), (0, 34, 16), (1, 33, 3), (0, 36, 24), (1, 35, 3), (0, 38, 30), (1, 37, 3), (0, 40, 6), (1, 39, 3), (0, 42, 5), (1, 41, 3), (0, 43, 12), (0, 44, 36)] M) := by
  have b28_0 : Nat.beq (n_kd G (28 + d0)) 10 = true := nbeq (h0 28 (by decide) (by decide)).1
  have b28_1 : Nat.beq (n_kd G (28 + d1)) 10 = true := nbeq (h1 28 (by decide) (by decide)).1
  have b29_0 : Nat.beq (n_kd G (29 + d0)) 7 = true := nbeq (h0 29 (by decide) (by decide)).1
  have b29_1 : Nat.beq (n_kd G (29 + d1)) 7 = true := nbeq (h1 29 (by decide) (by decide)).1
  have b31_0 : Nat.beq (n_kd G (31 + d0)) 7 = true := nbeq (h0 31 (by decide) (by decide)).1
  have b31_1 : Nat.beq (n_kd G (31 + d1)) 7 = true := nbeq (h1 31 (by decide) (by decide)).1
  have b33_0 : Nat.beq (n_kd G (33 + d0)) 7 = true := nbeq (h0 33 (by decide) (by decide)).1
  have b33_1 : Nat.beq (n_kd G (33 + d1)) 7 = true := nbeq (h1 33 (by decide) (by decide)).1
  have b35_0 : Nat.beq (n_kd G (35 + d0)) 7 = true := nbeq (h0 35 (by decide) (by decide)).1
  have b35_1 : Nat.beq (n_kd G (35 + d1)) 7 = true := nbeq (h1 35 (by decide) (by decide)).1
  have b37_0 : Nat.beq (n_kd G (37 + d0)) 7 = true := nbeq (h0 37 (by decide) (by decide)).1
  have b37_1 : Nat.beq (n_kd G (37 + d1)) 7 = true := nbeq (h1 37 (by decide) (by decide)).1
  have b39_0 : Nat.beq (n_kd G (39 + d0)) 7 = true := nbeq (h0 39 (by decide) (by decide)).1
  have b39_1 : Nat.beq (n_kd G (39 + d1)) 7 = true := nbeq (h1 39 (by decide) (by decide)).1
  have b41_0 : Nat.beq (n_kd G (41 + d0)) 7 = true := nbeq (h0 41 (by decide) (by decide)).1
  have b41_1 : Nat.beq (n_kd G (41 + d1)) 7 = true := nbeq (h1 41 (by decide) (by decide)).1
  have m28_0_0 : n_mr G (28 + d0) 0 = 29 + d0 := (h0 28 (by decide) (by decide)).2.2 0
  have m28_0_1 : n_mr G (28 + d1) 0 = 29 + d1 := (h1 28 (by decide) (by decide)).2.2 0
  have m28_1_0 : n_mr G (28 + d0) 1 = 31 + d0 := (h0 28 (by decide) (by decide)).2.2 1
  have m28_1_1 : n_mr G (28 + d1) 1 = 31 + d1 := (h1 28 (by decide) (by decide)).2.2 1
  have m28_2_0 : n_mr G (28 + d0) 2 = 33 + d0 := (h0 28 (by decide) (by decide)).2.2 2
  have m28_2_1 : n_mr G (28 + d1) 2 = 33 + d1 := (h1 28 (by decide) (by decide)).2.2 2
  have m28_3_0 : n_mr G (28 + d0) 3 = 35 + d0 := (h0 28 (by decide) (by decide)).2.2 3
  have m28_3_1 : n_mr G (28 + d1) 3 = 35 + d1 := (h1 28 (by decide) (by decide)).2.2 3
  have m28_4_0 : n_mr G (28 + d0) 4 = 37 + d0 := (h0 28 (by decide) (by decide)).2.2 4
  have m28_4_1 : n_mr G (28 + d1) 4 = 37 + d1 := (h1 28 (by decide) (by decide)).2.2 4
  have m28_5_0 : n_mr G (28 + d0) 5 = 39 + d0 := (h0 28 (by decide) (by decide)).2.2 5
  have m28_5_1 : n_mr G (28 + d1) 5 = 39 + d1 := (h1 28 (by decide) (by decide)).2.2 5
  have m28_6_0 : n_mr G (28 + d0) 6 = 41 + d0 := (h0 28 (by decide) (by decide)).2.2 6
  have m28_6_1 : n_mr G (28 + d1) 6 = 41 + d1 := (h1 28 (by decide) (by decide)).2.2 6
  have m28_7_0 : n_mr G (28 + d0) 7 = 43 + d0 := (h0 28 (by decide) (by decide)).2.2 7
  have m28_7_1 : n_mr G (28 + d1) 7 = 43 + d1 := (h1 28 (by decide) (by decide)).2.2 7
  have m28_8_0 : n_mr G (28 + d0) 8 = 44 + d0 := (h0 28 (by decide) (by decide)).2.2 8
  have m28_8_1 : n_mr G (28 + d1) 8 = 44 + d1 := (h1 28 (by decide) (by decide)).2.2 8
  have c43 : n_cpok G (43 + d1) (43 + d0) (0 : Int32) (0 : Int32) (12 : Int32) = true := cd_cp (L := 12) (h1 43 (by decide) (by decide)).1 (h0 43 (by decide) (by decide)).1 (h1 43 (by decide) (by decide)).2.1 (h0 43 (by decide) (by decide)).2.1 (by decide) rfl
  have c44 : n_cpok G (44 + d1) (44 + d0) (0 : Int32) (0 : Int32) (36 : Int32) = true := cd_cp (L := 36) (h1 44 (by decide) (by decide)).1 (h0 44 (by decide) (by decide)).1 (h1 44 (by decide) (by decide)).2.1 (h0 44 (by decide) (by decide)).2.1 (by decide) rfl
  have t0 : (0 : Int32).toNatClampNeg = 0 := by decide
  have t12 : (12 : Int32).toNatClampNeg = 12 := by decide
  have t36 : (36 : Int32).toNatClampNeg = 36 := by decide
  unfold fX10_copyFrom
  simp only [b28_0, b28_1, b29_0, b29_1, b31_0, b31_1, b33_0, b33_1, b35_0, b35_1, b37_0, b37_1, b39_0, b39_1, b41_0, b41_1, m28_0_0, m28_0_1, m28_1_0, m28_1_1, m28_2_0, m28_2_1, m28_3_0, m28_3_1, m28_4_0, m28_4_1, m28_5_0, m28_5_1, m28_6_0, m28_6_1, m28_7_0, m28_7_1, m28_8_0, m28_8_1, c43, c44, t0, t12, t36, cp_r29 h0 h1, cp_r31 h0 h1, cp_r33 h0 h1, cp_r35 h0 h1, cp_r37 h0 h1, cp_r39 h0 h1, cp_r41 h0 h1, Option.bind_some, Bool.and_true, n_chk_t]
  rfl
def cd_L : List (Nat × Nat × Nat) := [(0, 4, 12), (0, 5, 16), (0, 6, 16), (0, 7, 12), (0, 8, 12), (1, 3, 5), (1, 3, 6), (0, 10, 16), (0, 11, 16), (0, 12, 12), (0, 13, 12), (1, 9, 5), (1, 9, 6), (1, 9, 7), (1, 9, 8), (1, 9, 9), (1, 9, 10), (1, 9, 11), (0, 15, 600), (1, 14, 3), (0, 17, 400), (0, 18, 16), (0, 19, 16), (0, 20, 16), (0, 21, 16), (1, 16, 5), (1, 16, 6), (0, 23, 64), (1, 22, 3), (0, 25, 64), (1, 24, 3), (0, 27, 64), (1, 26, 3), (0, 30, 32), (1, 29, 3), (0, 32, 4), (1, 31, 3), (0, 34, 16), (1, 33, 3), (0, 36, 24), (1, 35, 3), (0, 38, 30), (1, 37, 3), (0, 40, 6), (1, 39, 3), (0, 42, 5), (1, 41, 3), (0, 43, 12), (0, 44, 36)]
theorem cp_1 {G : nG} {d0 d1 : Nat} {M : nM} (h0 : HB G d0) (h1 : HB G d1) : fX1_copyFrom G (2 + d0) (2 + d1) M = some ((), cd d0 d1 cd_L M) := by
  have b2_0 : Nat.beq (n_kd G (2 + d0)) 1 = true := nbeq (h0 2 (by decide) (by decide)).1
  have b2_1 : Nat.beq (n_kd G (2 + d1)) 1 = true := nbeq (h1 2 (by decide) (by decide)).1
  have b3_0 : Nat.beq (n_kd G (3 + d0)) 8 = true := nbeq (h0 3 (by decide) (by decide)).1
  have b3_1 : Nat.beq (n_kd G (3 + d1)) 8 = true := nbeq (h1 3 (by decide) (by decide)).1
  have b9_0 : Nat.beq (n_kd G (9 + d0)) 4 = true := nbeq (h0 9 (by decide) (by decide)).1
  have b9_1 : Nat.beq (n_kd G (9 + d1)) 4 = true := nbeq (h1 9 (by decide) (by decide)).1
  have b14_0 : Nat.beq (n_kd G (14 + d0)) 7 = true := nbeq (h0 14 (by decide) (by decide)).1
  have b14_1 : Nat.beq (n_kd G (14 + d1)) 7 = true := nbeq (h1 14 (by decide) (by decide)).1
  have b16_0 : Nat.beq (n_kd G (16 + d0)) 3 = true := nbeq (h0 16 (by decide) (by decide)).1
  have b16_1 : Nat.beq (n_kd G (16 + d1)) 3 = true := nbeq (h1 16 (by decide) (by decide)).1
  have b22_0 : Nat.beq (n_kd G (22 + d0)) 7 = true := nbeq (h0 22 (by decide) (by decide)).1
  have b22_1 : Nat.beq (n_kd G (22 + d1)) 7 = true := nbeq (h1 22 (by decide) (by decide)).1
  have b24_0 : Nat.beq (n_kd G (24 + d0)) 7 = true := nbeq (h0 24 (by decide) (by decide)).1
  have b24_1 : Nat.beq (n_kd G (24 + d1)) 7 = true := nbeq (h1 24 (by decide) (by decide)).1
  have b26_0 : Nat.beq (n_kd G (26 + d0)) 7 = true := nbeq (h0 26 (by decide) (by decide)).1
  have b26_1 : Nat.beq (n_kd G (26 + d1)) 7 = true := nbeq (h1 26 (by decide) (by decide)).1
  have b28_0 : Nat.beq (n_kd G (28 + d0)) 10 = true := nbeq (h0 28 (by decide) (by decide)).1
  have b28_1 : Nat.beq (n_kd G (28 + d1)) 10 = true := nbeq (h1 28 (by decide) (by decide)).1
  have m2_0_0 : n_mr G (2 + d0) 0 = 3 + d0 := (h0 2 (by decide) (by decide)).2.2 0
  have m2_0_1 : n_mr G (2 + d1) 0 = 3 + d1 := (h1 2 (by decide) (by decide)).2.2 0
  have m2_1_0 : n_mr G (2 + d0) 1 = 9 + d0 := (h0 2 (by decide) (by decide)).2.2 1
  have m2_1_1 : n_mr G (2 + d1) 1 = 9 + d1 := (h1 2 (by decide) (by decide)).2.2 1
  have m2_2_0 : n_mr G (2 + d0) 2 = 14 + d0 := (h0 2 (by decide) (by decide)).2.2 2
  have m2_2_1 : n_mr G (2 + d1) 2 = 14 + d1 := (h1 2 (by decide) (by decide)).2.2 2
  have m2_3_0 : n_mr G (2 + d0) 3 = 16 + d0 := (h0 2 (by decide) (by decide)).2.2 3
  have m2_3_1 : n_mr G (2 + d1) 3 = 16 + d1 := (h1 2 (by decide) (by decide)).2.2 3
  have m2_4_0 : n_mr G (2 + d0) 4 = 22 + d0 := (h0 2 (by decide) (by decide)).2.2 4
  have m2_4_1 : n_mr G (2 + d1) 4 = 22 + d1 := (h1 2 (by decide) (by decide)).2.2 4
  have m2_5_0 : n_mr G (2 + d0) 5 = 24 + d0 := (h0 2 (by decide) (by decide)).2.2 5
  have m2_5_1 : n_mr G (2 + d1) 5 = 24 + d1 := (h1 2 (by decide) (by decide)).2.2 5
  have m2_6_0 : n_mr G (2 + d0) 6 = 26 + d0 := (h0 2 (by decide) (by decide)).2.2 6
  have m2_6_1 : n_mr G (2 + d1) 6 = 26 + d1 := (h1 2 (by decide) (by decide)).2.2 6
  have m2_7_0 : n_mr G (2 + d0) 7 = 28 + d0 := (h0 2 (by decide) (by decide)).2.2 7
  have m2_7_1 : n_mr G (2 + d1) 7 = 28 + d1 := (h1 2 (by decide) (by decide)).2.2 7
  unfold fX1_copyFrom
  simp only [b2_0, b2_1, b3_0, b3_1, b9_0, b9_1, b14_0, b14_1, b16_0, b16_1, b22_0, b22_1, b24_0, b24_1, b26_0, b26_1, b28_0, b28_1, m2_0_0, m2_0_1, m2_1_0, m2_1_1, m2_2_0, m2_2_1, m2_3_0, m2_3_1, m2_4_0, m2_4_1, m2_5_0, m2_5_1, m2_6_0, m2_6_1, m2_7_0, m2_7_1, cp_8 h0 h1, cp_4 h0 h1, cp_r14 h0 h1, cp_3 h0 h1, cp_r22 h0 h1, cp_r24 h0 h1, cp_r26 h0 h1, cp_10 h0 h1, Option.bind_some, Bool.and_true, n_chk_t]
  rfl
/-- what is copied -/
def cd_c (l : List (Nat × Nat × Nat)) (a i : Nat) : Bool := l.any (fun x => Nat.beq x.2.1 a && (bif Nat.beq x.1 0 then Nat.blt i x.2.2 else Nat.beq x.2.2 i))
theorem cd_e {d0 d1 : Nat} (hd : (d0 = 150 ∧ d1 = 0) ∨ (d0 = 0 ∧ d1 = 150)) : ∀ (l : List (Nat × Nat × Nat)) (M : nM), (∀ x, x ∈ l → x.2.1 < 45 ∧ x.1 < 2) → (∀ a i, a < 45 → cd d0 d1 l M (a + d0) i = bif cd_c l a i then M (a + d1) i else M (a + d0) i) ∧ (∀ c, (∀ x, x ∈ l → c ≠ x.2.1 + d0) → cd d0 d1 l M c = M c)
  | [], M, _ => ⟨fun _ _ _ => rfl, fun _ _ => rfl⟩
  | (o, b, j) :: l, M, hl => by
    obtain ⟨hb, ho⟩ := hl (o, b, j) List.mem_cons_self
    have hb' : b < 45 := hb
    have ho' : o < 2 := ho
    obtain ⟨ih1, ih2⟩ := cd_e hd l (cd_o d0 d1 M (o, b, j)) (fun x hx => hl x (List.mem_cons_of_mem _ hx))
    have oth : ∀ c, c ≠ b + d0 → cd_o d0 d1 M (o, b, j) c = M c := fun c hc => by
      rcases (show o = 0 ∨ o = 1 by omega) with e | e
      · subst e; exact if_neg hc
      · subst e; exact n_up_ne hc
    have src : ∀ a, a < 45 → cd_o d0 d1 M (o, b, j) (a + d1) = M (a + d1) := fun a ha => oth _ (by omega)
    refine ⟨fun a i ha => ?_, fun c hc => ?_⟩
    · show cd d0 d1 l (cd_o d0 d1 M (o, b, j)) (a + d0) i = bif ((Nat.beq b a && (bif Nat.beq o 0 then Nat.blt i j else Nat.beq j i)) || cd_c l a i) then M (a + d1) i else M (a + d0) i
      rw [ih1 a i ha, src a ha]
      cases e0 : cd_c l a i with
      | true => rw [Bool.or_true]; rfl
      | false =>
        rw [Bool.or_false]
        show cd_o d0 d1 M (o, b, j) (a + d0) i = _
        rw [y_beq b a]
        by_cases e : b = a
        · subst e
          rw [decide_eq_true rfl, Bool.true_and]
          rcases (show o = 0 ∨ o = 1 by omega) with e | e
          · subst e
            show n_cpy M (b + d1) (b + d0) 0 0 j (b + d0) i = bif Nat.blt i j then M (b + d1) i else M (b + d0) i
            rw [n_cpy_eq]
            unfold va_cpy
            cases e2 : Nat.blt i j with
            | true =>
              have : i < j := Nat.le_of_ble_eq_true e2
              rw [if_pos ⟨Nat.zero_le _, by omega⟩, Nat.zero_add, Nat.sub_zero]
              rfl
            | false =>
              have : ¬ i < j := fun z => by
                have e3 : Nat.blt i j = Nat.ble (i + 1) j := rfl
                rw [e3, Nat.ble_eq_true_of_le (show i + 1 ≤ j from z)] at e2
                exact absurd e2 (by decide)
              rw [if_neg (by omega)]
              rfl
          · subst e
            show n_up M (b + d0) j (M (b + d1) j) (b + d0) i = bif Nat.beq j i then M (b + d1) i else M (b + d0) i
            rw [n_up_eq, y_beq]
            by_cases e : i = j
            · subst e; rw [upd_eq, decide_eq_true rfl]; rfl
            · rw [upd_ne e, decide_eq_false (fun z => e z.symm)]; rfl
        · rw [decide_eq_false e, Bool.false_and, oth (a + d0) (by omega)]
          rfl
    · show cd d0 d1 l (cd_o d0 d1 M (o, b, j)) c = M c
      rw [ih2 c (fun x hx => hc x (List.mem_cons_of_mem _ hx)), oth c (hc (o, b, j) List.mem_cons_self)]
theorem cd_Lb : ∀ x, x ∈ cd_L → 2 < x.2.1 ∧ x.2.1 < 45 ∧ x.1 < 2 := by decide +kernel
