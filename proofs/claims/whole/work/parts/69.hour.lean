/-! ===== an hour ===== -/
def d_cuL (m : nM) (ls : List lLn) (n : Nat) (th : Bool) : Nat → Nat → (Nat → Int32) → (Nat → Int32) → (Nat → Int32) × (Nat → Int32)
  | 0, _, row, bk => (row, bk)
  | d + 1, i, row, bk => if m 128 (4 * i) = row 0 then d_cuL m ls n th d (i + 1) (d_cust m ls n th (m 128 (4 * i + 1)).toNatClampNeg (m 128 (4 * i + 2)).toNatClampNeg (m 128 (4 * i + 3)).toNatClampNeg row bk).1 (d_cust m ls n th (m 128 (4 * i + 1)).toNatClampNeg (m 128 (4 * i + 2)).toNatClampNeg (m 128 (4 * i + 3)).toNatClampNeg row bk).2 else d_cuL m ls n th d (i + 1) row bk
def d_suL (m : nM) (ls : List lLn) (n q : Nat) (th : Bool) : Nat → Nat → Int32 → (Nat → Int32) → (Nat → Int32) → Int32 × (Nat → Int32) × (Nat → Int32)
  | 0, _, c, row, bk => (c, row, bk)
  | d + 1, i, c, row, bk => if m 127 (4 * i) = row 0 then (if d_cp m n q row (m 127 (4 * i + 1)) (m 127 (4 * i + 2)) (m 127 (4 * i + 3)) = true then d_suL m ls n q th d (i + 1) (if (d_put m ls n th (m 127 (4 * i + 1)).toNatClampNeg (m 127 (4 * i + 2)).toNatClampNeg (m 127 (4 * i + 3)).toNatClampNeg row bk).1 = true then c + 1 else c) (d_put m ls n th (m 127 (4 * i + 1)).toNatClampNeg (m 127 (4 * i + 2)).toNatClampNeg (m 127 (4 * i + 3)).toNatClampNeg row bk).2.1 (d_put m ls n th (m 127 (4 * i + 1)).toNatClampNeg (m 127 (4 * i + 2)).toNatClampNeg (m 127 (4 * i + 3)).toNatClampNeg row bk).2.2 else d_suL m ls n q th d (i + 1) c row bk) else d_suL m ls n q th d (i + 1) c row bk
def d_spL (m : nM) (n : Nat) (th : Bool) : Nat → Nat → (Nat → Int32) → (Nat → Int32) → (Nat → Int32) × (Nat → Int32)
  | 0, _, row, bk => (row, bk)
  | d + 1, pl, row, bk => d_spL m n th d (pl + 1) (d_sp m n th pl n row bk).1 (d_sp m n th pl n row bk).2
def ph2 (N f : Nat) (G : nG) (a : Nat) (x2 : Int32) (p1 : Int32 × nM) : Option (Int32 × nM) := n_chk (Nat.beq (n_kd G a) 4) (if ¬ p1.1 = (p1.2 a 9) then fX0_passHour_2 N G f a (x2 + (1 : Int32)) p1.2 else (fX7_cell G 24 x2 (1 : Int32) p1.2).bind fun p3 => (fX7_cell G 24 x2 (2 : Int32) p3.2).bind fun p4 => (fX7_cell G 24 x2 (3 : Int32) p4.2).bind fun p5 => (fX0_keepCustom N G a p3.1 p4.1 p5.1 p5.2).bind fun p6 => fX0_passHour_2 N G f a (x2 + (1 : Int32)) p6.2)
theorem ph2_eq (N f : Nat) (G : nG) (a : Nat) (x2 : Int32) (M : nM) : fX0_passHour_2 N G (f + 1) a x2 M = if (M 24 3) ≤ x2 then fX0_passHour_86 N G N a (0 : Int32) (0 : Int32) M else (fX7_cell G 24 x2 (0 : Int32) M).bind (ph2 N f G a x2) := rfl
theorem gb2_eq (N g : Nat) (x1 : Int32) (M : nM) : fX12_goesBy_2 N (g + 1) x1 M = if ((4 : Int32) * (M 107 39)) ≤ x1 then fX12_goesBy_43 N N (0 : Int32) (0 : Int32) M else n_chk (n_ib 128 x1) (n_chk (n_ib 100 (0 : Int32)) (if ¬ (M 128 x1.toNatClampNeg) = (M 108 (0 : Int32).toNatClampNeg) then fX12_goesBy_2 N g (x1 + (4 : Int32)) M else (fX12_does N x1 M).bind fun p2 => fX12_goesBy_2 N g (x1 + (4 : Int32)) p2.2)) := rfl
theorem CD_h {M0 M : nM} {a n q : Nat} {th : Bool} {row bk : Nat → Int32} (h : CD M0 M a th row bk n q) : M a 9 = row 0 := (r_mov_ln h.2.2.1).1
theorem c_c24 {G : nG} {M0 m M : nM} {a n q i j : Nat} {ls : List lLn} {th : Bool} {row bk : Nat → Int32} (hW : EW G M0 m ls n q) (ha : a = 9 ∨ a = 93) (h : CD M0 M a th row bk n q) (hi : i < 16) (hj : j < 4) : fX7_cell G 24 (nI i) (nI j) M = some (M0 25 (4 * i + j), M) := by
  have hG := hW.1.1
  have e24 : M 24 = M0 24 := h.1 24 (by omega) (by decide) (by decide) (by decide)
  have e25 : M 25 = M0 25 := h.1 25 (by omega) (by decide) (by decide) (by decide)
  rw [e_cell (G := G) (M := M) (x0 := 24) (c := 25) (W := 4) (H := 16) (gk24 hG) (gm24_0 hG) (gk25 hG) (gl25 hG) (by rw [e24]; exact hW.2.2.2.2) (by decide) (by decide) (by decide) hi hj, e25, Nat.mul_comm i 4]
theorem c_c22 {G : nG} {M0 m M : nM} {a n q i j : Nat} {ls : List lLn} {th : Bool} {row bk : Nat → Int32} (hW : EW G M0 m ls n q) (ha : a = 9 ∨ a = 93) (h : CD M0 M a th row bk n q) (hi : i < 16) (hj : j < 4) : fX7_cell G 22 (nI i) (nI j) M = some (M0 23 (4 * i + j), M) := by
  have hG := hW.1.1
  have e24 : M 22 = M0 22 := h.1 22 (by omega) (by decide) (by decide) (by decide)
  have e25 : M 23 = M0 23 := h.1 23 (by omega) (by decide) (by decide) (by decide)
  rw [e_cell (G := G) (M := M) (x0 := 22) (c := 23) (W := 4) (H := 16) (gk22 hG) (gm22_0 hG) (gk23 hG) (gl23 hG) (by rw [e24]; exact hW.2.2.2.1) (by decide) (by decide) (by decide) hi hj, e25, Nat.mul_comm i 4]
theorem c_cl {G : nG} {M0 m : nM} {N a n q k : Nat} {ls : List lLn} {th : Bool} (hN : 1000 ≤ N) (hW : EW G M0 m ls n q) (ha : a = 9 ∨ a = 93) (hk16 : k ≤ 16) (c1 : M0 24 3 = nI k) (c2 : m 107 39 = nI k) (c3 : ∀ i, i < 4 * k → M0 25 i = m 128 i) (c4 : ∀ i, i < k → ∃ a b c : Nat, a < 5 ∧ c < 12 ∧ (a = 2 ∨ a = 3 → b < 12) ∧ (¬ (a = 2 ∨ a = 3) → b < q) ∧ M0 25 (4 * i + 1) = nI a ∧ M0 25 (4 * i + 2) = nI b ∧ M0 25 (4 * i + 3) = nI c) :
    ∀ (d i : Nat) (row bk : Nat → Int32) (M : nM), CD M0 M a th row bk n q → i + d = k → ∃ M' : nM, CD M0 M' a th (d_cuL m ls n th d i row bk).1 (d_cuL m ls n th d i row bk).2 n q ∧ (∀ f, d < f → fX0_passHour_2 N G f a (nI i) M = fX0_passHour_86 N G N a 0 0 M') ∧ (∀ (g : Nat) (f S : Nat → Int32), m 107 5 = cb th → d < g → ∃ f2 S2 : Nat → Int32, fX12_goesBy_2 N g (nI (4 * i)) (dM m row bk f S) = fX12_goesBy_43 N N 0 0 (dM m (d_cuL m ls n th d i row bk).1 (d_cuL m ls n th d i row bk).2 f2 S2)) := by
  intro d
  have hn : n ≤ 16 ∧ q ≤ 12 := hW.1.2.1.1
  have hMv : n_Mv G a := by rcases ha with rfl | rfl; exact n_Mv9 hW.1.1; exact n_Mv93 hW.1.1
  have hk : Nat.beq (n_kd G a) 4 = true := by rw [hMv.1]; rfl
  have e4k : (4 : Int32) * nI k = nI (4 * k) := pk_mul 4 k
  induction d with
  | zero =>
    intro i row bk M h hi
    refine ⟨M, h, fun f hf => ?_, fun g f S hth hg => ⟨f, S, ?_⟩⟩
    · obtain ⟨f, rfl⟩ : ∃ g, f = g + 1 := ⟨f - 1, by omega⟩
      rw [ph2_eq, h.1 24 (by omega) (by decide) (by decide) (by decide), c1, if_pos (nI_le (by omega) (by omega))]
    · obtain ⟨g, rfl⟩ : ∃ g', g = g' + 1 := ⟨g - 1, by omega⟩
      rw [gb2_eq, dM_107, c2, e4k, if_pos (nI_le (by omega) (by omega))]
      rfl
  | succ d ih =>
    intro i row bk M h hi
    have hik : i < k := by omega
    have w0 : M0 25 (4 * i) = m 128 (4 * i) := c3 (4 * i) (by omega)
    have w1 := c3 (4 * i + 1) (by omega)
    have w2 := c3 (4 * i + 2) (by omega)
    have w3 := c3 (4 * i + 3) (by omega)
    obtain ⟨va, vb, vc, h1, h2, h3, h4, h5, h6, h7⟩ := c4 i hik
    have y0 : fX7_cell G 24 (nI i) (0 : Int32) M = some (M0 25 (4 * i), M) := c_c24 (j := 0) hW ha h (by omega) (by decide)
    have y1 : fX7_cell G 24 (nI i) (1 : Int32) M = some (M0 25 (4 * i + 1), M) := c_c24 (j := 1) hW ha h (by omega) (by decide)
    have y2 : fX7_cell G 24 (nI i) (2 : Int32) M = some (M0 25 (4 * i + 2), M) := c_c24 (j := 2) hW ha h (by omega) (by decide)
    have y3 : fX7_cell G 24 (nI i) (3 : Int32) M = some (M0 25 (4 * i + 3), M) := c_c24 (j := 3) hW ha h (by omega) (by decide)
    have z1 : m 128 (4 * i + 1) = nI va := w1.symm.trans h5
    have z2 : m 128 (4 * i + 2) = nI vb := w2.symm.trans h6
    have z3 : m 128 (4 * i + 3) = nI vc := w3.symm.trans h7
    have vbb : vb < 12 := by
      by_cases z : va = 2 ∨ va = 3
      · exact h3 z
      · have := h4 z; omega
    have d128 : ∀ (r b f S : Nat → Int32), dM m r b f S 128 = m 128 := fun r b f S => dM_ne (by decide) (by decide) (by decide) (by decide)
    have e44 : nI (4 * i) + (4 : Int32) = nI (4 * (i + 1)) := nI_add (4 * i) 4
    unfold d_cuL
    rw [z1, z2, z3, nI_clamp (show va < 2 ^ 31 by omega), nI_clamp (show vb < 2 ^ 31 by omega), nI_clamp (show vc < 2 ^ 31 by omega)]
    by_cases hh : m 128 (4 * i) = row 0
    · rw [if_pos hh]
      obtain ⟨M1, e1, g1⟩ := c_cuC (k := va) (b := vb) (c := vc) hN hW.1 ha h h1 h2 h3 h4
      obtain ⟨M', g2, g3, g4⟩ := ih (i + 1) _ _ M1 g1 (by omega)
      refine ⟨M', g2, fun f hf => ?_, fun g f S hth hg => ?_⟩
      · obtain ⟨f, rfl⟩ : ∃ g, f = g + 1 := ⟨f - 1, by omega⟩
        rw [ph2_eq, h.1 24 (by omega) (by decide) (by decide) (by decide), c1, if_neg (nI_ge (by omega) (by omega)), y0, Option.bind_some, ph2, hk, n_chk_t]
        show (if ¬ M0 25 (4 * i) = M a 9 then _ else (fX7_cell G 24 (nI i) (1 : Int32) M).bind _) = _
        rw [if_neg (not_not_intro (by rw [w0, CD_h h]; exact hh)), y1, Option.bind_some]
        show (fX7_cell G 24 (nI i) (2 : Int32) M).bind _ = _
        rw [y2, Option.bind_some]
        show (fX7_cell G 24 (nI i) (3 : Int32) M).bind _ = _
        rw [y3, Option.bind_some]
        show (fX0_keepCustom N G a (M0 25 (4 * i + 1)) (M0 25 (4 * i + 2)) (M0 25 (4 * i + 3)) M).bind _ = _
        rw [h5, h6, h7, e1, Option.bind_some, nI_1]
        exact g3 f (by omega)
      · obtain ⟨g, rfl⟩ : ∃ g', g = g' + 1 := ⟨g - 1, by omega⟩
        obtain ⟨f1, S1, em⟩ := c_cuM (k := va) (b := vb) (c := vc) (i := i) (bk := bk) (f := f) (S := S) hN hW.1 hth (CD_RK h).1 (by omega) h1 h2 h3 h4 z1 z2 z3
        rw [gb2_eq, dM_107, c2, e4k, if_neg (nI_ge (by omega) (by omega)), n_ib_nI (show 4 * i < 128 by omega) (by decide), n_chk_t, show n_ib 100 (0 : Int32) = true from rfl, n_chk_t, nI_clamp (show 4 * i < 2 ^ 31 by omega), d128, k0, dM_108, if_neg (not_not_intro hh), em, Option.bind_some, e44]
        exact g4 g f1 S1 hth (by omega)
    · rw [if_neg hh]
      obtain ⟨M', g2, g3, g4⟩ := ih (i + 1) _ _ M h (by omega)
      refine ⟨M', g2, fun f hf => ?_, fun g f S hth hg => ?_⟩
      · obtain ⟨f, rfl⟩ : ∃ g, f = g + 1 := ⟨f - 1, by omega⟩
        rw [ph2_eq, h.1 24 (by omega) (by decide) (by decide) (by decide), c1, if_neg (nI_ge (by omega) (by omega)), y0, Option.bind_some, ph2, hk, n_chk_t]
        show (if ¬ M0 25 (4 * i) = M a 9 then fX0_passHour_2 N G f a (nI i + (1 : Int32)) M else _) = _
        rw [if_pos (by rw [w0, CD_h h]; exact hh), nI_1]
        exact g3 f (by omega)
      · obtain ⟨g, rfl⟩ : ∃ g', g = g' + 1 := ⟨g - 1, by omega⟩
        rw [gb2_eq, dM_107, c2, e4k, if_neg (nI_ge (by omega) (by omega)), n_ib_nI (show 4 * i < 128 by omega) (by decide), n_chk_t, show n_ib 100 (0 : Int32) = true from rfl, n_chk_t, nI_clamp (show 4 * i < 2 ^ 31 by omega), d128, k0, dM_108, if_pos hh, e44]
        exact g4 g f S hth (by omega)
