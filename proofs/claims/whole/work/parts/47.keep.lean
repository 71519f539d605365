/-! ===== copies of a Moving; what can be undone: act, undo ===== -/
/-- a is a Moving with its rows behind it -/
def n_Mv (G : nG) (a : Nat) : Prop := n_kd G a = 4 ∧ (n_mr G a 1 = a + 1 ∧ n_mr G a 2 = a + 2 ∧ n_mr G a 3 = a + 3 ∧ n_mr G a 4 = a + 4) ∧ (n_kd G (a + 1) = 14 ∧ n_kd G (a + 2) = 14 ∧ n_kd G (a + 3) = 14 ∧ n_kd G (a + 4) = 14) ∧ (n_len G (a + 1) = 16 ∧ n_len G (a + 2) = 16 ∧ n_len G (a + 3) = 12 ∧ n_len G (a + 4) = 12)
theorem n_Mv9 {G : nG} (h : n_GOK G) : n_Mv G 9 := ⟨h.1 9 (by decide), ⟨h.2.2 9 1 (by decide) (by decide), h.2.2 9 2 (by decide) (by decide), h.2.2 9 3 (by decide) (by decide), h.2.2 9 4 (by decide) (by decide)⟩, ⟨h.1 10 (by decide), h.1 11 (by decide), h.1 12 (by decide), h.1 13 (by decide)⟩, ⟨h.2.1 10 (by decide), h.2.1 11 (by decide), h.2.1 12 (by decide), h.2.1 13 (by decide)⟩⟩
theorem n_Mv93 {G : nG} (h : n_GOK G) : n_Mv G 93 := ⟨h.1 93 (by decide), ⟨h.2.2 93 1 (by decide) (by decide), h.2.2 93 2 (by decide) (by decide), h.2.2 93 3 (by decide) (by decide), h.2.2 93 4 (by decide) (by decide)⟩, ⟨h.1 94 (by decide), h.1 95 (by decide), h.1 96 (by decide), h.1 97 (by decide)⟩, ⟨h.2.1 94 (by decide), h.2.1 95 (by decide), h.2.1 96 (by decide), h.2.1 97 (by decide)⟩⟩
theorem n_Mv5 {G : nG} (h : n_GOK G) {x : Nat} (hx : x < 6) : n_Mv G (50 + 5 * x) ∧ n_mr G 49 x = 50 + 5 * x := by
  rcases (show x = 0 ∨ x = 1 ∨ x = 2 ∨ x = 3 ∨ x = 4 ∨ x = 5 by omega) with rfl | rfl | rfl | rfl | rfl | rfl
  · exact ⟨⟨h.1 50 (by decide), ⟨h.2.2 50 1 (by decide) (by decide), h.2.2 50 2 (by decide) (by decide), h.2.2 50 3 (by decide) (by decide), h.2.2 50 4 (by decide) (by decide)⟩, ⟨h.1 51 (by decide), h.1 52 (by decide), h.1 53 (by decide), h.1 54 (by decide)⟩, ⟨h.2.1 51 (by decide), h.2.1 52 (by decide), h.2.1 53 (by decide), h.2.1 54 (by decide)⟩⟩, h.2.2 49 0 (by decide) (by decide)⟩
  · exact ⟨⟨h.1 55 (by decide), ⟨h.2.2 55 1 (by decide) (by decide), h.2.2 55 2 (by decide) (by decide), h.2.2 55 3 (by decide) (by decide), h.2.2 55 4 (by decide) (by decide)⟩, ⟨h.1 56 (by decide), h.1 57 (by decide), h.1 58 (by decide), h.1 59 (by decide)⟩, ⟨h.2.1 56 (by decide), h.2.1 57 (by decide), h.2.1 58 (by decide), h.2.1 59 (by decide)⟩⟩, h.2.2 49 1 (by decide) (by decide)⟩
  · exact ⟨⟨h.1 60 (by decide), ⟨h.2.2 60 1 (by decide) (by decide), h.2.2 60 2 (by decide) (by decide), h.2.2 60 3 (by decide) (by decide), h.2.2 60 4 (by decide) (by decide)⟩, ⟨h.1 61 (by decide), h.1 62 (by decide), h.1 63 (by decide), h.1 64 (by decide)⟩, ⟨h.2.1 61 (by decide), h.2.1 62 (by decide), h.2.1 63 (by decide), h.2.1 64 (by decide)⟩⟩, h.2.2 49 2 (by decide) (by decide)⟩
  · exact ⟨⟨h.1 65 (by decide), ⟨h.2.2 65 1 (by decide) (by decide), h.2.2 65 2 (by decide) (by decide), h.2.2 65 3 (by decide) (by decide), h.2.2 65 4 (by decide) (by decide)⟩, ⟨h.1 66 (by decide), h.1 67 (by decide), h.1 68 (by decide), h.1 69 (by decide)⟩, ⟨h.2.1 66 (by decide), h.2.1 67 (by decide), h.2.1 68 (by decide), h.2.1 69 (by decide)⟩⟩, h.2.2 49 3 (by decide) (by decide)⟩
  · exact ⟨⟨h.1 70 (by decide), ⟨h.2.2 70 1 (by decide) (by decide), h.2.2 70 2 (by decide) (by decide), h.2.2 70 3 (by decide) (by decide), h.2.2 70 4 (by decide) (by decide)⟩, ⟨h.1 71 (by decide), h.1 72 (by decide), h.1 73 (by decide), h.1 74 (by decide)⟩, ⟨h.2.1 71 (by decide), h.2.1 72 (by decide), h.2.1 73 (by decide), h.2.1 74 (by decide)⟩⟩, h.2.2 49 4 (by decide) (by decide)⟩
  · exact ⟨⟨h.1 75 (by decide), ⟨h.2.2 75 1 (by decide) (by decide), h.2.2 75 2 (by decide) (by decide), h.2.2 75 3 (by decide) (by decide), h.2.2 75 4 (by decide) (by decide)⟩, ⟨h.1 76 (by decide), h.1 77 (by decide), h.1 78 (by decide), h.1 79 (by decide)⟩, ⟨h.2.1 76 (by decide), h.2.1 77 (by decide), h.2.1 78 (by decide), h.2.1 79 (by decide)⟩⟩, h.2.2 49 5 (by decide) (by decide)⟩
theorem n_cpy_eq {M : nM} {a b s d n : Nat} : n_cpy M b a s d n a = va_cpy (M b) (M a) s d n := if_pos rfl
theorem n_cpy_ne {M : nM} {a b s d n c : Nat} (h : c ≠ a) : n_cpy M b a s d n c = M c := if_neg h
theorem n_cpok_nI {G : nG} {a b L0 L1 k : Nat} (h1 : n_kd G a = 14) (h2 : n_kd G b = 14) (h3 : n_len G a = L0) (h4 : n_len G b = L1) (h5 : k ≤ L0) (h6 : k ≤ L1) (hk : k < 2 ^ 31) : (n_cpok G a b 0 0 (nI k) && true) = true := by
  unfold n_cpok
  rw [h1, h2, h3, h4]
  have e0 : (0 : Int32).toNatClampNeg = 0 := by decide
  have e1 : ¬ nI k < 0 := nI_pos hk
  have e2 : Nat.ble (0 + k) L0 = true := Nat.ble_eq_true_of_le (by omega)
  have e3 : Nat.ble (0 + k) L1 = true := Nat.ble_eq_true_of_le (by omega)
  rw [nI_clamp hk, e0, e2, e3]
  simp [e1]
theorem up7 {M : nM} {a b : Nat} (hab : b ≠ a) : n_up (n_up (n_up (n_up (n_up (n_up (n_up M a 5 (M b 5)) a 6 (M b 6)) a 7 (M b 7)) a 8 (M b 8)) a 9 (M b 9)) a 10 (M b 10)) a 11 (M b 11) = n_set M a (fun k => if 5 ≤ k ∧ k ≤ 11 then M b k else M a k) := by
  funext c
  by_cases hc : c = a
  · subst hc
    rw [n_set_eq]
    simp only [n_up_eq]
    funext k
    by_cases h : k = 11
    · subst h; rw [upd_eq]; rfl
    rw [upd_ne h]
    by_cases h : k = 10
    · subst h; rw [upd_eq]; rfl
    rw [upd_ne h]
    by_cases h : k = 9
    · subst h; rw [upd_eq]; rfl
    rw [upd_ne h]
    by_cases h : k = 8
    · subst h; rw [upd_eq]; rfl
    rw [upd_ne h]
    by_cases h : k = 7
    · subst h; rw [upd_eq]; rfl
    rw [upd_ne h]
    by_cases h : k = 6
    · subst h; rw [upd_eq]; rfl
    rw [upd_ne h]
    by_cases h : k = 5
    · subst h; rw [upd_eq]; rfl
    rw [upd_ne h, if_neg (by omega)]
  · rw [n_set_ne hc, n_up_ne hc, n_up_ne hc, n_up_ne hc, n_up_ne hc, n_up_ne hc, n_up_ne hc, n_up_ne hc]
/-- the Moving a as a copy of b -/
def cpM (M : nM) (a b : Nat) : nM := n_set (n_cpy (n_cpy (n_cpy (n_cpy M (b + 1) (a + 1) 0 0 16) (b + 2) (a + 2) 0 0 16) (b + 3) (a + 3) 0 0 12) (b + 4) (a + 4) 0 0 12) a (fun k => if 5 ≤ k ∧ k ≤ 11 then M b k else M a k)
theorem cpM_ne {M : nM} {a b c : Nat} (h : c < a ∨ a + 4 < c) : cpM M a b c = M c := by
  unfold cpM
  rw [n_set_ne (by omega), n_cpy_ne (by omega), n_cpy_ne (by omega), n_cpy_ne (by omega), n_cpy_ne (by omega)]
theorem cpM_o {M : nM} {a b : Nat} : cpM M a b a = fun k => if 5 ≤ k ∧ k ≤ 11 then M b k else M a k := n_set_eq
theorem va_cpy0 {f g : Nat → Int32} {n k : Nat} (h : k < n) : va_cpy f g 0 0 n k = f k := by
  unfold va_cpy
  rw [if_pos (by omega)]
  congr 1
  omega
theorem cpM_1 {M : nM} {a b k : Nat} (hk : k < 16) : cpM M a b (a + 1) k = M (b + 1) k := by
  unfold cpM
  rw [n_set_ne (by omega), n_cpy_ne (by omega), n_cpy_ne (by omega), n_cpy_ne (by omega), n_cpy_eq, va_cpy0 hk]
theorem cpM_2 {M : nM} {a b k : Nat} (hd : a + 4 < b ∨ b + 4 < a) (hk : k < 16) : cpM M a b (a + 2) k = M (b + 2) k := by
  unfold cpM
  rw [n_set_ne (by omega), n_cpy_ne (by omega), n_cpy_ne (by omega), n_cpy_eq, va_cpy0 hk, n_cpy_ne (by omega)]
theorem cpM_3 {M : nM} {a b k : Nat} (hd : a + 4 < b ∨ b + 4 < a) (hk : k < 12) : cpM M a b (a + 3) k = M (b + 3) k := by
  unfold cpM
  rw [n_set_ne (by omega), n_cpy_ne (by omega), n_cpy_eq, va_cpy0 hk, n_cpy_ne (by omega), n_cpy_ne (by omega)]
theorem cpM_4 {M : nM} {a b k : Nat} (hd : a + 4 < b ∨ b + 4 < a) (hk : k < 12) : cpM M a b (a + 4) k = M (b + 4) k := by
  unfold cpM
  rw [n_set_ne (by omega), n_cpy_eq, va_cpy0 hk, n_cpy_ne (by omega), n_cpy_ne (by omega), n_cpy_ne (by omega)]
theorem e_copyM {G : nG} {a b : Nat} (ha : n_Mv G a) (hb : n_Mv G b) (hd : a + 4 < b ∨ b + 4 < a) (M : nM) : fX4_copyFrom G a b M = some ((), cpM M a b) := by
  obtain ⟨a0, ⟨a1, a2, a3, a4⟩, ⟨a5, a6, a7, a8⟩, ⟨a9, a10, a11, a12⟩⟩ := ha
  obtain ⟨b0, ⟨b1, b2, b3, b4⟩, ⟨b5, b6, b7, b8⟩, ⟨b9, b10, b11, b12⟩⟩ := hb
  have k1 : Nat.beq (n_kd G a) 4 = true := by rw [a0]; rfl
  have k2 : Nat.beq (n_kd G b) 4 = true := by rw [b0]; rfl
  have o1 : (n_cpok G (b + 1) (a + 1) 0 0 (16 : Int32) && true) = true := n_cpok_nI (k := 16) b5 a5 b9 a9 (by decide) (by decide) (by decide)
  have o2 : (n_cpok G (b + 2) (a + 2) 0 0 (16 : Int32) && true) = true := n_cpok_nI (k := 16) b6 a6 b10 a10 (by decide) (by decide) (by decide)
  have o3 : (n_cpok G (b + 3) (a + 3) 0 0 (12 : Int32) && true) = true := n_cpok_nI (k := 12) b7 a7 b11 a11 (by decide) (by decide) (by decide)
  have o4 : (n_cpok G (b + 4) (a + 4) 0 0 (12 : Int32) && true) = true := n_cpok_nI (k := 12) b8 a8 b12 a12 (by decide) (by decide) (by decide)
  have c0 : (0 : Int32).toNatClampNeg = 0 := by decide
  have c1 : (16 : Int32).toNatClampNeg = 16 := by decide
  have c2 : (12 : Int32).toNatClampNeg = 12 := by decide
  have hab : b ≠ a := by omega
  unfold fX4_copyFrom
  simp only [k1, k2, a1, a2, a3, a4, b1, b2, b3, b4, o1, o2, o3, o4, c0, c1, c2, n_chk]
  unfold cpM
  generalize hM4 : n_cpy (n_cpy (n_cpy (n_cpy M (b + 1) (a + 1) 0 0 16) (b + 2) (a + 2) 0 0 16) (b + 3) (a + 3) 0 0 12) (b + 4) (a + 4) 0 0 12 = M4
  have hb4 : M4 b = M b := by rw [← hM4, n_cpy_ne (by omega), n_cpy_ne (by omega), n_cpy_ne (by omega), n_cpy_ne (by omega)]
  have ha4 : M4 a = M a := by rw [← hM4, n_cpy_ne (by omega), n_cpy_ne (by omega), n_cpy_ne (by omega), n_cpy_ne (by omega)]
  simp only [n_up_ne hab]
  rw [up7 hab, hb4, ha4]
/-- what a Moving stands for stands its copy for -/
theorem r_mov_cpM {M : nM} {a b n q : Nat} {row : Nat → Int32} (hd : a + 4 < b ∨ b + 4 < a) (h : r_mov (M b 5) (M b 6) (M b 7) (M b 8) (M b 9) (M b 10) (M b 11) (M (b + 1)) (M (b + 2)) (M (b + 3)) (M (b + 4)) row n q) : r_mov (cpM M a b a 5) (cpM M a b a 6) (cpM M a b a 7) (cpM M a b a 8) (cpM M a b a 9) (cpM M a b a 10) (cpM M a b a 11) (cpM M a b (a + 1)) (cpM M a b (a + 2)) (cpM M a b (a + 3)) (cpM M a b (a + 4)) row n q := by
  rw [cpM_o]
  exact r_mov_cells h (fun t ht => cpM_1 ht) (fun t ht => cpM_2 hd ht) (fun t ht => cpM_3 hd ht) (fun t ht => cpM_4 hd ht)
/-- the class keeps a copy -/
def kpC (M : nM) (k x : Nat) : nM := n_up (n_up (cpM M (50 + 5 * x) 9) 48 1 (nI ((x + 1) % 6))) 48 2 (nI (if k < 6 then k + 1 else 6))
theorem e_keepC {G : nG} {M : nM} {k x : Nat} (hG : n_GOK G) (hk : k ≤ 6) (hx : x < 6) (h2 : M 48 2 = nI k) (h1 : M 48 1 = nI x) : fX5_keep G M = some ((), kpC M k x) := by
  obtain ⟨g1, g2⟩ := n_Mv5 hG hx
  have i1 : n_in G 15 49 (nI x) = true := by
    unfold n_in
    rw [gk49 hG, gl49 hG, nI_clamp (by omega)]
    have : ¬ nI x < 0 := nI_pos (by omega)
    have : Nat.blt x 6 = true := Nat.ble_eq_true_of_le hx
    simp [*]
  have i2 : (Nat.beq (n_kd G (50 + 5 * x)) 4 && true) = true := by rw [g1.1]; rfl
  have e1 : cpM M (50 + 5 * x) 9 48 = M 48 := cpM_ne (by omega)
  have e2 : nI x + 1 - (nI x + 1) / (6 : Int32) * (6 : Int32) = nI ((x + 1) % 6) := by
    rw [nI_1]
    exact pk_rem (d := 6) (by omega) (by decide) (by decide)
  have e3 : (if (6 : Int32) < nI k + 1 then (6 : Int32) else nI k + 1) = nI (if k < 6 then k + 1 else 6) := by
    rw [nI_1]
    by_cases h : k < 6
    · rw [if_pos h, if_neg (show ¬ (6 : Int32) < nI (k + 1) from nI_nlt (a := 6) (b := k + 1) (by omega) (by decide))]
    · rw [if_neg h, if_pos (show (6 : Int32) < nI (k + 1) from nI_lt (a := 6) (b := k + 1) (by omega) (by omega))]
      rfl
  unfold fX5_keep
  rw [h1, i1, nI_clamp (show x < 2 ^ 31 by omega), g2, i2, e_copyM g1 (n_Mv9 hG) (by omega)]
  simp only [n_chk, Option.bind_some, e1, h1, n_up_eq, upd_ne (show (2 : Nat) ≠ 1 by decide), h2, e2, e3]
  rfl
/-- the model's rows with the row in front of them -/
def kpR (k : Nat) (rows now : Nat → Int32) : Nat → Int32 := fun z => if k < 6 then (if 100 * k ≤ z ∧ z < 100 * k + 100 then now (z - 100 * k) else rows z) else (if z < 500 then rows (z + 100) else if z < 600 then now (z - 500) else rows z)
theorem e_kp55 {N k : Nat} (hk : k < 6) : ∀ (d j f : Nat) (M : nM), j + d = 100 → d < f → M 107 3 = nI k → fX12_keepsAhead_55 N f (nI j) M = some ((), n_up (n_set M 109 (fun z => if 100 * k + j ≤ z ∧ z < 100 * k + 100 then M 108 (z - 100 * k) else M 109 z)) 107 3 (nI (k + 1))) := by
  intro d
  induction d with
  | zero =>
    intro j f M hj hf hM
    obtain ⟨f, rfl⟩ : ∃ g, f = g + 1 := ⟨f - 1, by omega⟩
    unfold fX12_keepsAhead_55
    rw [if_pos (show (100 : Int32) ≤ nI j from nI_le (a := 100) (by omega) (by omega)), hM, nI_1]
    rw [n_set_self]
    funext z
    rw [if_neg (by omega)]
  | succ d ih =>
    intro j f M hj hf hM
    obtain ⟨f, rfl⟩ : ∃ g, f = g + 1 := ⟨f - 1, by omega⟩
    have e1 : (100 : Int32) * nI k + nI j = nI (100 * k + j) := by rw [show (100 : Int32) = nI 100 from rfl, pk_mul, nI_add]
    unfold fX12_keepsAhead_55
    rw [if_neg (show ¬ (100 : Int32) ≤ nI j from nI_ge (b := 100) (by omega) (by omega)), hM, e1]
    simp only [n_ib_nI (show j < 100 by omega) (show 100 < 2 ^ 31 by decide), n_ib_nI (show 100 * k + j < 600 by omega) (show 600 < 2 ^ 31 by decide), n_chk, nI_clamp (show j < 2 ^ 31 by omega), nI_clamp (show 100 * k + j < 2 ^ 31 by omega), nI_1]
    rw [ih (j + 1) f _ (by omega) (by omega) (by rw [n_up_ne (by decide)]; exact hM), n_set_up]
    congr 4
    funext z
    rw [n_up_eq, n_up_ne (show (108 : Nat) ≠ 109 by decide)]
    by_cases h : z = 100 * k + j
    · subst h
      rw [upd_eq, if_neg (by omega), if_pos (by omega)]
      congr 1
      omega
    · rw [upd_ne h]
      by_cases h2 : 100 * k + (j + 1) ≤ z ∧ z < 100 * k + 100
      · rw [if_pos h2, if_pos (by omega)]
      · rw [if_neg h2, if_neg (by omega)]
theorem e_kp21 {N : Nat} (hN : 1000 ≤ N) : ∀ (d j f : Nat) (M : nM), j + d = 500 → d < f → M 107 3 = nI 5 → fX12_keepsAhead_21 N f (nI j) M = fX12_keepsAhead_55 N N 0 (n_set M 109 (fun z => if j ≤ z ∧ z < 500 then M 109 (z + 100) else M 109 z)) := by
  intro d
  induction d with
  | zero =>
    intro j f M hj hf hM
    obtain ⟨f, rfl⟩ : ∃ g, f = g + 1 := ⟨f - 1, by omega⟩
    unfold fX12_keepsAhead_21
    rw [hM, if_pos (show (100 : Int32) * nI 5 ≤ nI j from nI_le (a := 500) (by omega) (by omega))]
    rw [n_set_self]
    funext z
    rw [if_neg (by omega)]
  | succ d ih =>
    intro j f M hj hf hM
    obtain ⟨f, rfl⟩ : ∃ g, f = g + 1 := ⟨f - 1, by omega⟩
    have e1 : nI j + (100 : Int32) = nI (j + 100) := nI_add j 100
    unfold fX12_keepsAhead_21
    rw [hM, if_neg (show ¬ (100 : Int32) * nI 5 ≤ nI j from nI_ge (b := 500) (by omega) (by omega)), e1]
    simp only [n_ib_nI (show j < 600 by omega) (show 600 < 2 ^ 31 by decide), n_ib_nI (show j + 100 < 600 by omega) (show 600 < 2 ^ 31 by decide), n_chk, nI_clamp (show j < 2 ^ 31 by omega), nI_clamp (show j + 100 < 2 ^ 31 by omega), nI_1]
    rw [ih (j + 1) f _ (by omega) (by omega) (by rw [n_up_ne (by decide)]; exact hM), n_set_up]
    congr 2
    funext z
    rw [n_up_eq]
    by_cases h : z = j
    · subst h
      rw [if_neg (by omega), if_pos (by omega), upd_eq]
    · rw [upd_ne h]
      by_cases h2 : j + 1 ≤ z ∧ z < 500
      · rw [if_pos h2, if_pos (by omega), upd_ne (by omega)]
      · rw [if_neg h2, if_neg (by omega)]
theorem e_keepM {N k : Nat} {M : nM} (hN : 1000 ≤ N) (hk : k ≤ 6) (hM : M 107 3 = nI k) : fX12_keepsAhead N M = some ((), n_up (n_set M 109 (kpR k (M 109) (M 108))) 107 3 (nI (if k < 6 then k + 1 else 6))) := by
  unfold fX12_keepsAhead
  by_cases h : k < 6
  · rw [hM, if_pos (fun e => by have := (nI_eq (b := 6) (by omega) (by decide)).mp e; omega), if_pos h, show (0 : Int32) = nI 0 from rfl, e_kp55 h 100 0 N M (by omega) (by omega) hM]
    congr 4
    funext z
    unfold kpR
    rw [if_pos h]
    rfl
  · obtain rfl : k = 6 := by omega
    rw [hM, if_neg (show ¬ ¬ nI 6 = (6 : Int32) from not_not_intro rfl)]
    simp only [show (nI 6 - 1 : Int32) = nI 5 from rfl, show (0 : Int32) = nI 0 from rfl]
    rw [e_kp21 hN 500 0 N _ (by omega) (by omega) (by rw [n_up_eq, upd_eq]), show (0 : Int32) = nI 0 from rfl, e_kp55 (k := 5) (by decide) 100 0 N _ (by omega) (by omega) (by rw [n_set_ne (by decide), n_up_eq, upd_eq])]
    congr 2
    funext z
    by_cases h1 : z = 107
    · subst h1
      rw [n_up_eq, n_up_eq, n_set_ne (by decide), n_set_ne (by decide), n_set_ne (by decide), n_up_eq]
      funext t
      by_cases e : t = 3
      · rw [e, upd_eq, upd_eq]; rfl
      · rw [upd_ne e, upd_ne e, upd_ne e]
    · rw [n_up_ne h1, n_up_ne h1]
      by_cases h2 : z = 109
      · subst h2
        simp only [n_set_eq, n_set_ne (show (108 : Nat) ≠ 109 by decide), n_up_ne (show (108 : Nat) ≠ 107 by decide), n_up_ne (show (109 : Nat) ≠ 107 by decide)]
        funext t
        unfold kpR
        rw [if_neg (show ¬ (6 : Nat) < 6 by decide)]
        by_cases e1 : t < 500
        · rw [if_pos e1, if_neg (by omega), if_pos (by omega)]
        · by_cases e2 : t < 600
          · rw [if_neg e1, if_pos e2, if_pos (by omega)]
          · rw [if_neg e1, if_neg e2, if_neg (by omega), if_neg (by omega)]
      · rw [n_set_ne h2, n_set_ne h2, n_set_ne h2, n_up_ne h1]
/-- cells that doings change -/
def mvc (c : Nat) : Bool := (Nat.ble 9 c && Nat.ble c 13) || (Nat.beq c 15 || ((Nat.ble 46 c && Nat.ble c 79) || ((Nat.ble 93 c && Nat.ble c 97) || ((Nat.ble 107 c && Nat.ble c 110) || (Nat.beq c 116 || (Nat.beq c 131 || Nat.beq c 132))))))
def m7c (k : Nat) : Bool := Nat.beq k 0 || (Nat.beq k 3 || Nat.beq k 5)
theorem mvc_150 (a : Nat) : mvc (a + 150) = false := by
  unfold mvc
  have h1 : Nat.ble (a + 150) 13 = false := by rw [Bool.eq_false_iff]; intro h; have := Nat.le_of_ble_eq_true h; omega
  have h2 : Nat.beq (a + 150) 15 = false := by rw [Bool.eq_false_iff]; intro h; have := Nat.eq_of_beq_eq_true h; omega
  have h3 : Nat.ble (a + 150) 79 = false := by rw [Bool.eq_false_iff]; intro h; have := Nat.le_of_ble_eq_true h; omega
  have h4 : Nat.ble (a + 150) 97 = false := by rw [Bool.eq_false_iff]; intro h; have := Nat.le_of_ble_eq_true h; omega
  have h5 : Nat.ble (a + 150) 110 = false := by rw [Bool.eq_false_iff]; intro h; have := Nat.le_of_ble_eq_true h; omega
  have h6 : Nat.beq (a + 150) 116 = false := by rw [Bool.eq_false_iff]; intro h; have := Nat.eq_of_beq_eq_true h; omega
  have h7 : Nat.beq (a + 150) 131 = false := by rw [Bool.eq_false_iff]; intro h; have := Nat.eq_of_beq_eq_true h; omega
  have h8 : Nat.beq (a + 150) 132 = false := by rw [Bool.eq_false_iff]; intro h; have := Nat.eq_of_beq_eq_true h; omega
  rw [h1, h2, h3, h4, h5, h6, h7, h8]
  simp
theorem Rel_mov {G : nG} {M M' : nM} {n q : Nat} (h : Rel G M n q) (hc : ∀ c, mvc c = false → M' c = M c) (h7 : ∀ k, m7c k = false → M' 107 k = M 107 k)
    (hm : r_mov (M' 9 5) (M' 9 6) (M' 9 7) (M' 9 8) (M' 9 9) (M' 9 10) (M' 9 11) (M' 10) (M' 11) (M' 12) (M' 13) (M' 108) n q) (hb : r_eq 600 (M' 15) (M' 116)) (hp : PR M' n q) (h90 : M' 9 0 = 0) (h930 : M' 93 0 = 1) (h5 : M' 107 5 = 0) : Rel G M' n q := by
  obtain ⟨⟨hst, hmv, hbk, hlw, hsp, hcu, hli, hsw, hpk, hbx, hky, hcl, hsh, hrw, hgf, hmi⟩, hpr, hrd, hck, hwd, him⟩ := id h
  have e3 := hc 3 rfl
  have e14 := hc 14 rfl
  refine ⟨⟨?_, hm, hb, ?_, ?_, ?_, ?_, ?_, ?_, ?_, ?_, ?_, ?_, ?_, ?_, ?_⟩, hp, ?_, ?_, ?_, ?_⟩
  · rw [hc 3 rfl, hc 4 rfl, hc 5 rfl, hc 6 rfl, hc 7 rfl, hc 8 rfl, h7 6 rfl, h7 7 rfl, hc 111 rfl, hc 112 rfl, hc 113 rfl, hc 114 rfl, hc 115 rfl]; exact hst
  · rw [hc 16 rfl, hc 17 rfl, hc 18 rfl, hc 19 rfl, hc 20 rfl, hc 21 rfl, hc 119 rfl, hc 120 rfl, hc 121 rfl, hc 122 rfl, hc 123 rfl, hc 124 rfl, hc 125 rfl]; exact hlw
  · rw [hc 22 rfl, hc 23 rfl, h7 37 rfl, hc 127 rfl]; exact hsp
  · rw [hc 24 rfl, hc 25 rfl, h7 39 rfl, hc 128 rfl]; exact hcu
  · rw [hc 26 rfl, hc 27 rfl, h7 41 rfl, hc 129 rfl]; exact hli
  · rw [hc 29 rfl, hc 30 rfl, h7 46 rfl, hc 133 rfl, hc 134 rfl]; exact hsw
  · rw [hc 31 rfl, hc 32 rfl, h7 49 rfl, hc 135 rfl]; exact hpk
  · rw [hc 33 rfl, hc 34 rfl, h7 51 rfl, hc 136 rfl, hc 137 rfl]; exact hbx
  · rw [hc 35 rfl, hc 36 rfl, h7 55 rfl, hc 139 rfl]; exact hky
  · rw [hc 37 rfl, hc 38 rfl, h7 65 rfl, hc 144 rfl, hc 145 rfl, hc 146 rfl]; exact hcl
  · rw [hc 39 rfl, hc 40 rfl, h7 70 rfl, hc 148 rfl]; exact hsh
  · rw [hc 41 rfl, hc 42 rfl, h7 72 rfl, hc 149 rfl]; exact hrw
  · rw [hc 43 rfl, hc 141 rfl]; exact hgf
  · rw [hc 44 rfl, hc 143 rfl]; exact hmi
  · unfold RD
    rw [hc 80 rfl, hc 81 rfl, h7 15 rfl, hc 117 rfl, h7 35 rfl, h7 36 rfl]; exact hrd
  · obtain ⟨k1, k2, k3⟩ := hck
    unfold CK
    rw [hc 14 rfl, hc 22 rfl, hc 24 rfl, hc 26 rfl, hc 29 rfl, hc 31 rfl, hc 33 rfl, hc 35 rfl, hc 37 rfl, hc 39 rfl, hc 41 rfl, hc 91 rfl]
    obtain ⟨q1, q2, q3, q4, q5, q6, q7, q8, q9, q10, q11, q12, q13⟩ := k3
    exact ⟨h90, h930, q1, q2, q3, q4, q5, q6, q7, q8, q9, q10, q11, q12, h5⟩
  · rw [hc 118 rfl]; exact hwd
  · unfold IM
    have e : (fun a => M' (a + 150)) = (fun a => M (a + 150)) := funext fun a => hc _ (mvc_150 a)
    rw [h7 76 rfl, e, hc 151 rfl]
    exact him
theorem p_mov_i {M : nM} {x n q : Nat} {row : Nat → Int32} (hx : x < 6) : p_mov M x row n q = r_mov (M (50 + 5 * x) 5) (M (50 + 5 * x) 6) (M (50 + 5 * x) 7) (M (50 + 5 * x) 8) (M (50 + 5 * x) 9) (M (50 + 5 * x) 10) (M (50 + 5 * x) 11) (M (50 + 5 * x + 1)) (M (50 + 5 * x + 2)) (M (50 + 5 * x + 3)) (M (50 + 5 * x + 4)) row n q := by
  rcases (show x = 0 ∨ x = 1 ∨ x = 2 ∨ x = 3 ∨ x = 4 ∨ x = 5 by omega) with rfl | rfl | rfl | rfl | rfl | rfl <;> rfl
theorem p_mov_c {M M' : nM} {x n q : Nat} {row row' : Nat → Int32} (hx : x < 6) (he : ∀ c, 50 + 5 * x ≤ c → c ≤ 50 + 5 * x + 4 → M' c = M c) (hr : ∀ t, t < 100 → row' t = row t) (h : p_mov M x row n q) : p_mov M' x row' n q := by
  rw [p_mov_i hx] at h ⊢
  rw [he _ (by omega) (by omega), he (50 + 5 * x + 1) (by omega) (by omega), he (50 + 5 * x + 2) (by omega) (by omega), he (50 + 5 * x + 3) (by omega) (by omega), he (50 + 5 * x + 4) (by omega) (by omega)]
  exact r_mov_row h hr
/-- class and model keep what is now -/
theorem PR_keep {M M' : nM} {n q k x : Nat} (hk : k ≤ 6) (hx : x < 6) (hp : ∀ j, j < k → p_mov M ((x + 6 - k + j) % 6) (fun z => M 109 (100 * j + z)) n q) (hm : r_mov (M 9 5) (M 9 6) (M 9 7) (M 9 8) (M 9 9) (M 9 10) (M 9 11) (M 10) (M 11) (M 12) (M 13) (M 108) n q)
    (h1 : ∀ c, 48 ≤ c → c ≤ 79 → M' c = kpC M k x c) (h3 : M' 107 3 = nI (if k < 6 then k + 1 else 6)) (h4 : M' 109 = kpR k (M 109) (M 108)) : PR M' n q := by
  have f0 : ∀ c, 50 ≤ c → c ≤ 79 → M' c = cpM M (50 + 5 * x) 9 c := fun c g1 g2 => by
    rw [h1 c (by omega) g2]
    unfold kpC
    rw [n_up_ne (by omega), n_up_ne (by omega)]
  have f48 : M' 48 1 = nI ((x + 1) % 6) ∧ M' 48 2 = nI (if k < 6 then k + 1 else 6) := by
    rw [h1 48 (by omega) (by omega)]
    exact ⟨rfl, rfl⟩
  have fx : ∀ (row : Nat → Int32), (∀ t, t < 100 → row t = M 108 t) → p_mov M' x row n q := fun row hrow => by
    rw [p_mov_i hx]
    rw [f0 _ (by omega) (by omega), f0 (50 + 5 * x + 1) (by omega) (by omega), f0 (50 + 5 * x + 2) (by omega) (by omega), f0 (50 + 5 * x + 3) (by omega) (by omega), f0 (50 + 5 * x + 4) (by omega) (by omega)]
    exact r_mov_cpM (b := 9) (by omega) (r_mov_row hm hrow)
  have fy : ∀ y, y < 6 → y ≠ x → ∀ (row row' : Nat → Int32), (∀ t, t < 100 → row' t = row t) → p_mov M y row n q → p_mov M' y row' n q := fun y hy hyx row row' hr hq => p_mov_c hy (fun c g1 g2 => by rw [f0 c (by omega) (by omega), cpM_ne (by omega)]) hr hq
  by_cases h6 : k < 6
  · rw [if_pos h6] at h3 f48
    refine ⟨k + 1, (x + 1) % 6, by omega, by omega, f48.2, f48.1, h3, fun j hj => ?_⟩
    have es : ((x + 1) % 6 + 6 - (k + 1) + j) % 6 = (x + 6 - k + j) % 6 := by omega
    rw [es]
    by_cases hjk : j < k
    · refine fy _ (by omega) (by omega) _ _ (fun t ht => ?_) (hp j hjk)
      rw [h4]
      unfold kpR
      rw [if_pos h6, if_neg (by omega)]
    · rw [show (x + 6 - k + j) % 6 = x by omega]
      refine fx _ (fun t ht => ?_)
      rw [h4]
      unfold kpR
      rw [if_pos h6, if_pos (by omega)]
      congr 1
      omega
  · obtain rfl : k = 6 := by omega
    rw [if_neg h6] at h3 f48
    refine ⟨6, (x + 1) % 6, by omega, by omega, f48.2, f48.1, h3, fun j hj => ?_⟩
    by_cases hj5 : j < 5
    · have es : ((x + 1) % 6 + 6 - 6 + j) % 6 = (x + 6 - 6 + (j + 1)) % 6 := by omega
      rw [es]
      refine fy _ (by omega) (by omega) _ _ (fun t ht => ?_) (hp (j + 1) (by omega))
      rw [h4]
      unfold kpR
      rw [if_neg h6, if_pos (by omega)]
      congr 1
      omega
    · rw [show ((x + 1) % 6 + 6 - 6 + j) % 6 = x by omega]
      refine fx _ (fun t ht => ?_)
      rw [h4]
      unfold kpR
      rw [if_neg h6, if_neg (by omega), if_pos (by omega), show 100 * j + t - 500 = t by omega]
