/-! ===== supper, and the whole hour ===== -/
def ph86b (N f : Nat) (G : nG) (a : Nat) (x2 x3 : Int32) (p6 : Int32 × nM) : Option (Int32 × nM) := if p6.1 = 0 then fX0_passHour_86 N G f a x2 (x3 + (1 : Int32)) p6.2 else fX0_passHour_86 N G f a (x2 + (1 : Int32)) (x3 + (1 : Int32)) p6.2
def ph86 (N f : Nat) (G : nG) (a : Nat) (x2 x3 : Int32) (p1 : Int32 × nM) : Option (Int32 × nM) := n_chk (Nat.beq (n_kd G a) 4) (if ¬ p1.1 = (p1.2 a 9) then fX0_passHour_86 N G f a x2 (x3 + (1 : Int32)) p1.2 else (fX7_cell G 22 x3 (1 : Int32) p1.2).bind fun p3 => (fX7_cell G 22 x3 (2 : Int32) p3.2).bind fun p4 => (fX7_cell G 22 x3 (3 : Int32) p4.2).bind fun p5 => (fX0_serve N G a p3.1 p4.1 p5.1 p5.2).bind (ph86b N f G a x2 x3))
theorem ph86_eq (N f : Nat) (G : nG) (a : Nat) (x2 x3 : Int32) (M : nM) : fX0_passHour_86 N G (f + 1) a x2 x3 M = if (M 22 3) ≤ x3 then fX0_passHour_174 N G N a x2 (0 : Int32) M else (fX7_cell G 22 x3 (0 : Int32) M).bind (ph86 N f G a x2 x3) := rfl
def gb43b (N g : Nat) (x1 x2 : Int32) (p4 : Int32 × nM) : Option (Int32 × nM) := if p4.1 = 0 then fX12_goesBy_43 N g x1 (x2 + (4 : Int32)) p4.2 else fX12_goesBy_43 N g (x1 + (1 : Int32)) (x2 + (4 : Int32)) p4.2
def gb43 (N g : Nat) (x1 x2 : Int32) (p2 : Int32 × nM) : Option (Int32 × nM) := if p2.1 = 0 then fX12_goesBy_43 N g x1 (x2 + (4 : Int32)) p2.2 else n_chk (n_ib 128 (x2 + (1 : Int32))) (n_chk (n_ib 128 (x2 + (2 : Int32))) (n_chk (n_ib 128 (x2 + (3 : Int32))) ((fX12_isPut N (p2.2 127 (x2 + (1 : Int32)).toNatClampNeg) (p2.2 127 (x2 + (2 : Int32)).toNatClampNeg) (p2.2 127 (x2 + (3 : Int32)).toNatClampNeg) p2.2).bind (gb43b N g x1 x2))))
theorem gb43_eq (N g : Nat) (x1 x2 : Int32) (M : nM) : fX12_goesBy_43 N (g + 1) x1 x2 M = if ((4 : Int32) * (M 107 37)) ≤ x2 then fX12_goesBy_143 N N x1 (0 : Int32) M else n_chk (n_ib 128 x2) (n_chk (n_ib 100 (0 : Int32)) (if ¬ (M 127 x2.toNatClampNeg) = (M 108 (0 : Int32).toNatClampNeg) then fX12_goesBy_43 N g x1 (x2 + (4 : Int32)) M else n_chk (n_ib 128 (x2 + (1 : Int32))) (n_chk (n_ib 128 (x2 + (2 : Int32))) (n_chk (n_ib 128 (x2 + (3 : Int32))) ((fX12_canPut N (M 127 (x2 + (1 : Int32)).toNatClampNeg) (M 127 (x2 + (2 : Int32)).toNatClampNeg) (M 127 (x2 + (3 : Int32)).toNatClampNeg) M).bind (gb43 N g x1 x2)))))) := rfl
theorem c_sv {G : nG} {M0 m M : nM} {N a n q p t pl : Nat} {ls : List lLn} {th : Bool} {row bk : Nat → Int32} (hN : 1000 ≤ N) (he : EV G M0 m ls n q) (ha : a = 9 ∨ a = 93) (h : CD M0 M a th row bk n q) (hp : p < q) (ht : t < n) (hpl : pl < 12) : if d_cp m n q row (nI p) (nI t) (nI pl) = true then ∃ M' : nM, fX0_serve N G a (nI p) (nI t) (nI pl) M = some (cb (d_put m ls n th p t pl row bk).1, M') ∧ CD M0 M' a th (d_put m ls n th p t pl row bk).2.1 (d_put m ls n th p t pl row bk).2.2 n q else fX0_serve N G a (nI p) (nI t) (nI pl) M = some (0, M) := by
  have e1 := c_cpC hN he ha h (nI p) (nI t) (nI pl)
  unfold fX0_serve
  rw [e1, Option.bind_some]
  cases hd : d_cp m n q row (nI p) (nI t) (nI pl) with
  | false =>
    rw [if_neg (show ¬ false = true by decide)]
    rfl
  | true =>
    rw [if_pos rfl, if_neg (show ¬ (cb true, M).1 = 0 from (by decide : ¬ cb true = (0 : Int32)))]
    obtain ⟨M', e2, h2⟩ := c_putC hN he ha h hp ht hpl
    refine ⟨M', ?_, h2⟩
    rw [e2, Option.bind_some]
    cases (d_put m ls n th p t pl row bk).1 <;> rfl
theorem c_sl {G : nG} {M0 m : nM} {N a n q k : Nat} {ls : List lLn} {th : Bool} (hN : 1000 ≤ N) (hW : EW G M0 m ls n q) (ha : a = 9 ∨ a = 93) (hk16 : k ≤ 16) (c1 : M0 22 3 = nI k) (c2 : m 107 37 = nI k) (c3 : ∀ i, i < 4 * k → M0 23 i = m 127 i) (c4 : ∀ i, i < k → ∃ a b c : Nat, a < q ∧ b < n ∧ c < 12 ∧ M0 23 (4 * i + 1) = nI a ∧ M0 23 (4 * i + 2) = nI b ∧ M0 23 (4 * i + 3) = nI c) :
    ∀ (d i : Nat) (c : Int32) (row bk : Nat → Int32) (M : nM), CD M0 M a th row bk n q → i + d = k → ∃ M' : nM, CD M0 M' a th (d_suL m ls n q th d i c row bk).2.1 (d_suL m ls n q th d i c row bk).2.2 n q ∧ (∀ f, d < f → fX0_passHour_86 N G f a c (nI i) M = fX0_passHour_174 N G N a (d_suL m ls n q th d i c row bk).1 0 M') ∧ (∀ (g : Nat) (f S : Nat → Int32), m 107 5 = cb th → d < g → ∃ f2 S2 : Nat → Int32, fX12_goesBy_43 N g c (nI (4 * i)) (dM m row bk f S) = fX12_goesBy_143 N N (d_suL m ls n q th d i c row bk).1 0 (dM m (d_suL m ls n q th d i c row bk).2.1 (d_suL m ls n q th d i c row bk).2.2 f2 S2)) := by
  intro d
  have hn : n ≤ 16 ∧ q ≤ 12 := hW.1.2.1.1
  have hMv : n_Mv G a := by rcases ha with rfl | rfl; exact n_Mv9 hW.1.1; exact n_Mv93 hW.1.1
  have hk : Nat.beq (n_kd G a) 4 = true := by rw [hMv.1]; rfl
  have e4k : (4 : Int32) * nI k = nI (4 * k) := pk_mul 4 k
  induction d with
  | zero =>
    intro i c row bk M h hi
    refine ⟨M, h, fun f hf => ?_, fun g f S hth hg => ⟨f, S, ?_⟩⟩
    · obtain ⟨f, rfl⟩ : ∃ g, f = g + 1 := ⟨f - 1, by omega⟩
      rw [ph86_eq, h.1 22 (by omega) (by decide) (by decide) (by decide), c1, if_pos (nI_le (by omega) (by omega))]
      rfl
    · obtain ⟨g, rfl⟩ : ∃ g', g = g' + 1 := ⟨g - 1, by omega⟩
      rw [gb43_eq, dM_107, c2, e4k, if_pos (nI_le (by omega) (by omega))]
      rfl
  | succ d ih =>
    intro i c row bk M h hi
    have hik : i < k := by omega
    have w0 : M0 23 (4 * i) = m 127 (4 * i) := c3 (4 * i) (by omega)
    have w1 := c3 (4 * i + 1) (by omega)
    have w2 := c3 (4 * i + 2) (by omega)
    have w3 := c3 (4 * i + 3) (by omega)
    obtain ⟨p, t, pl, h1, h2, h3, h5, h6, h7⟩ := c4 i hik
    have y0 : fX7_cell G 22 (nI i) (0 : Int32) M = some (M0 23 (4 * i), M) := c_c22 (j := 0) hW ha h (by omega) (by decide)
    have y1 : fX7_cell G 22 (nI i) (1 : Int32) M = some (M0 23 (4 * i + 1), M) := c_c22 (j := 1) hW ha h (by omega) (by decide)
    have y2 : fX7_cell G 22 (nI i) (2 : Int32) M = some (M0 23 (4 * i + 2), M) := c_c22 (j := 2) hW ha h (by omega) (by decide)
    have y3 : fX7_cell G 22 (nI i) (3 : Int32) M = some (M0 23 (4 * i + 3), M) := c_c22 (j := 3) hW ha h (by omega) (by decide)
    have z1 : m 127 (4 * i + 1) = nI p := w1.symm.trans h5
    have z2 : m 127 (4 * i + 2) = nI t := w2.symm.trans h6
    have z3 : m 127 (4 * i + 3) = nI pl := w3.symm.trans h7
    have d127 : ∀ (r b f S : Nat → Int32), dM m r b f S 127 = m 127 := fun r b f S => dM_ne (by decide) (by decide) (by decide) (by decide)
    have e44 : nI (4 * i) + (4 : Int32) = nI (4 * (i + 1)) := nI_add (4 * i) 4
    have a1 : nI (4 * i) + (1 : Int32) = nI (4 * i + 1) := nI_1 _
    have a2 : nI (4 * i) + (2 : Int32) = nI (4 * i + 2) := nI_add _ 2
    have a3 : nI (4 * i) + (3 : Int32) = nI (4 * i + 3) := nI_add _ 3
    have i1 := n_ib_nI (show 4 * i + 1 < 128 by omega) (show 128 < 2 ^ 31 by decide)
    have i2 := n_ib_nI (show 4 * i + 2 < 128 by omega) (show 128 < 2 ^ 31 by decide)
    have i3 := n_ib_nI (show 4 * i + 3 < 128 by omega) (show 128 < 2 ^ 31 by decide)
    unfold d_suL
    rw [z1, z2, z3, nI_clamp (show p < 2 ^ 31 by omega), nI_clamp (show t < 2 ^ 31 by omega), nI_clamp (show pl < 2 ^ 31 by omega)]
    by_cases hh : m 127 (4 * i) = row 0
    · rw [if_pos hh]
      have hs := c_sv (p := p) (t := t) (pl := pl) hN hW.1 ha h h1 h2 h3
      have startC : ∀ f, fX0_passHour_86 N G (f + 1) a c (nI i) M = (fX0_serve N G a (nI p) (nI t) (nI pl) M).bind (ph86b N f G a c (nI i)) := fun f => by
        rw [ph86_eq, h.1 22 (by omega) (by decide) (by decide) (by decide), c1, if_neg (nI_ge (by omega) (by omega)), y0, Option.bind_some, ph86, hk, n_chk_t]
        show (if ¬ M0 23 (4 * i) = M a 9 then _ else (fX7_cell G 22 (nI i) (1 : Int32) M).bind _) = _
        rw [if_neg (not_not_intro (by rw [w0, CD_h h]; exact hh)), y1, Option.bind_some]
        show (fX7_cell G 22 (nI i) (2 : Int32) M).bind _ = _
        rw [y2, Option.bind_some]
        show (fX7_cell G 22 (nI i) (3 : Int32) M).bind _ = _
        rw [y3, Option.bind_some]
        show (fX0_serve N G a (M0 23 (4 * i + 1)) (M0 23 (4 * i + 2)) (M0 23 (4 * i + 3)) M).bind _ = _
        rw [h5, h6, h7]
      have startM : ∀ (g : Nat) (f S : Nat → Int32), fX12_goesBy_43 N (g + 1) c (nI (4 * i)) (dM m row bk f S) = gb43 N g c (nI (4 * i)) (cb (d_cp m n q row (nI p) (nI t) (nI pl)), dM m row bk f S) := fun g f S => by
        rw [gb43_eq, dM_107, c2, e4k, if_neg (nI_ge (by omega) (by omega)), n_ib_nI (show 4 * i < 128 by omega) (by decide), n_chk_t, show n_ib 100 (0 : Int32) = true from rfl, n_chk_t, nI_clamp (show 4 * i < 2 ^ 31 by omega), d127, k0, dM_108, if_neg (not_not_intro hh), a1, a2, a3, i1, i2, i3, n_chk_t, n_chk_t, n_chk_t, nI_clamp (show 4 * i + 1 < 2 ^ 31 by omega), nI_clamp (show 4 * i + 2 < 2 ^ 31 by omega), nI_clamp (show 4 * i + 3 < 2 ^ 31 by omega), z1, z2, z3, c_cpM hN hW.1 (CD_RK h), Option.bind_some]
      cases hd : d_cp m n q row (nI p) (nI t) (nI pl) with
      | false =>
        rw [hd, if_neg (show ¬ false = true by decide)] at hs
        rw [if_neg (show ¬ false = true by decide)]
        obtain ⟨M', g2, g3, g4⟩ := ih (i + 1) c row bk M h (by omega)
        refine ⟨M', g2, fun f hf => ?_, fun g f S hth hg => ?_⟩
        · obtain ⟨f, rfl⟩ : ∃ g, f = g + 1 := ⟨f - 1, by omega⟩
          rw [startC, hs, Option.bind_some, ph86b, if_pos (show ((0 : Int32), M).1 = 0 from rfl), nI_1]
          exact g3 f (by omega)
        · obtain ⟨g, rfl⟩ : ∃ g', g = g' + 1 := ⟨g - 1, by omega⟩
          rw [startM, hd, gb43, if_pos (show (cb false, dM m row bk f S).1 = 0 from rfl), e44]
          exact g4 g f S hth (by omega)
      | true =>
        rw [hd, if_pos rfl] at hs
        rw [if_pos rfl]
        obtain ⟨M1, e1, g1⟩ := hs
        obtain ⟨M', g2, g3, g4⟩ := ih (i + 1) (if (d_put m ls n th p t pl row bk).1 = true then c + 1 else c) _ _ M1 g1 (by omega)
        refine ⟨M', g2, fun f hf => ?_, fun g f S hth hg => ?_⟩
        · obtain ⟨f, rfl⟩ : ∃ g, f = g + 1 := ⟨f - 1, by omega⟩
          have g5 := g3 f (by omega)
          rw [startC, e1, Option.bind_some, ph86b, nI_1]
          cases hb : (d_put m ls n th p t pl row bk).1 with
          | false =>
            rw [hb, if_neg (show ¬ false = true by decide)] at g5
            rw [if_pos (show (cb false, M1).1 = 0 from rfl), if_neg (show ¬ false = true by decide)]
            exact g5
          | true =>
            rw [hb, if_pos rfl] at g5
            rw [if_neg (show ¬ (cb true, M1).1 = 0 from (by decide : ¬ cb true = (0 : Int32))), if_pos rfl]
            exact g5
        · obtain ⟨g, rfl⟩ : ∃ g', g = g' + 1 := ⟨g - 1, by omega⟩
          obtain ⟨f1, S1, em⟩ := c_putM (bk := bk) (f := f) (S := S) hN hW.1 hth (CD_RK h).1 h1 h2 h3
          obtain ⟨f2, S2, g5⟩ := g4 g f1 S1 hth (by omega)
          refine ⟨f2, S2, ?_⟩
          rw [startM, hd, gb43, if_neg (show ¬ (cb true, dM m row bk f S).1 = 0 from (by decide : ¬ cb true = (0 : Int32))), a1, a2, a3, i1, i2, i3, n_chk_t, n_chk_t, n_chk_t, nI_clamp (show 4 * i + 1 < 2 ^ 31 by omega), nI_clamp (show 4 * i + 2 < 2 ^ 31 by omega), nI_clamp (show 4 * i + 3 < 2 ^ 31 by omega)]
          show (fX12_isPut N (dM m row bk f S 127 (4 * i + 1)) (dM m row bk f S 127 (4 * i + 2)) (dM m row bk f S 127 (4 * i + 3)) (dM m row bk f S)).bind _ = _
          rw [d127, z1, z2, z3, em, Option.bind_some, gb43b, e44]
          cases hb : (d_put m ls n th p t pl row bk).1 with
          | false =>
            rw [hb, if_neg (show ¬ false = true by decide)] at g5
            rw [if_pos (show (cb false, dM m (d_put m ls n th p t pl row bk).2.1 (d_put m ls n th p t pl row bk).2.2 f1 S1).1 = 0 from rfl), if_neg (show ¬ false = true by decide)]
            exact g5
          | true =>
            rw [hb, if_pos rfl] at g5
            rw [if_neg (show ¬ (cb true, dM m (d_put m ls n th p t pl row bk).2.1 (d_put m ls n th p t pl row bk).2.2 f1 S1).1 = 0 from (by decide : ¬ cb true = (0 : Int32))), if_pos rfl]
            exact g5
    · rw [if_neg hh]
      obtain ⟨M', g2, g3, g4⟩ := ih (i + 1) c _ _ M h (by omega)
      refine ⟨M', g2, fun f hf => ?_, fun g f S hth hg => ?_⟩
      · obtain ⟨f, rfl⟩ : ∃ g, f = g + 1 := ⟨f - 1, by omega⟩
        rw [ph86_eq, h.1 22 (by omega) (by decide) (by decide) (by decide), c1, if_neg (nI_ge (by omega) (by omega)), y0, Option.bind_some, ph86, hk, n_chk_t]
        show (if ¬ M0 23 (4 * i) = M a 9 then fX0_passHour_86 N G f a c (nI i + (1 : Int32)) M else _) = _
        rw [if_pos (by rw [w0, CD_h h]; exact hh), nI_1]
        exact g3 f (by omega)
      · obtain ⟨g, rfl⟩ : ∃ g', g = g' + 1 := ⟨g - 1, by omega⟩
        rw [gb43_eq, dM_107, c2, e4k, if_neg (nI_ge (by omega) (by omega)), n_ib_nI (show 4 * i < 128 by omega) (by decide), n_chk_t, show n_ib 100 (0 : Int32) = true from rfl, n_chk_t, nI_clamp (show 4 * i < 2 ^ 31 by omega), d127, k0, dM_108, if_pos hh, e44]
        exact g4 g f S hth (by omega)
theorem ph174_eq (N f : Nat) (G : nG) (a : Nat) (x2 x3 : Int32) (M : nM) : fX0_passHour_174 N G (f + 1) a x2 x3 M = if (12 : Int32) ≤ x3 then n_chk (Nat.beq (n_kd G a) 4) (n_chk (Nat.beq (n_kd G a) 4) (some (x2, n_up M a 9 ((M a 9) + (1 : Int32))))) else (fX0_spill N G a x3 M).bind fun p2 => fX0_passHour_174 N G f a x2 (x3 + (1 : Int32)) p2.2 := rfl
theorem gb143_eq (N g : Nat) (x1 x2 : Int32) (M : nM) : fX12_goesBy_143 N (g + 1) x1 x2 M = if (12 : Int32) ≤ x2 then n_chk (n_ib 100 (0 : Int32)) (n_chk (n_ib 100 (0 : Int32)) (some (x1, n_up M 108 (0 : Int32).toNatClampNeg ((M 108 (0 : Int32).toNatClampNeg) + (1 : Int32))))) else (fX12_fallsOut N x2 M).bind fun p2 => fX12_goesBy_143 N g x1 (x2 + (1 : Int32)) p2.2 := rfl
def d_h0 (row : Nat → Int32) : Nat → Int32 := upd row 0 (row 0 + 1)
theorem CD_h0 {M0 M : nM} {a n q : Nat} {th : Bool} {row bk : Nat → Int32} (ha : a = 9 ∨ a = 93) (h : CD M0 M a th row bk n q) : CD M0 (n_up M a 9 (M a 9 + 1)) a th (d_h0 row) bk n q := by
  have e9 := CD_h h
  obtain ⟨hf, h0, hm, hb2⟩ := h
  refine ⟨fun c g1 g2 g3 g4 => ?_, ?_, ?_, ?_⟩
  · rw [n_up_ne (by omega)]; exact hf c g1 g2 g3 g4
  · rw [n_up_eq, upd_ne (by decide)]; exact h0
  · rw [n_up_eq, upd_ne (show (5 : Nat) ≠ 9 by decide), upd_ne (show (6 : Nat) ≠ 9 by decide), upd_ne (show (7 : Nat) ≠ 9 by decide), upd_ne (show (8 : Nat) ≠ 9 by decide), upd_eq, upd_ne (show (10 : Nat) ≠ 9 by decide), upd_ne (show (11 : Nat) ≠ 9 by decide), n_up_ne (show a + 1 ≠ a by omega), n_up_ne (show a + 2 ≠ a by omega), n_up_ne (show a + 3 ≠ a by omega), n_up_ne (show a + 4 ≠ a by omega), e9]
    exact r_mov_hour (v := row 0 + 1) hm
  · rw [n_up_ne (by omega)]; exact hb2
theorem c_pl {G : nG} {M0 m : nM} {N a n q : Nat} {ls : List lLn} {th : Bool} (hN : 1000 ≤ N) (he : EV G M0 m ls n q) (ha : a = 9 ∨ a = 93) :
    ∀ (d i : Nat) (c : Int32) (row bk : Nat → Int32) (M : nM), CD M0 M a th row bk n q → i + d = 12 → ∃ M' : nM, CD M0 M' a th (d_h0 (d_spL m n th d i row bk).1) (d_spL m n th d i row bk).2 n q ∧ (∀ f, d < f → fX0_passHour_174 N G f a c (nI i) M = some (c, M')) ∧ (∀ (g : Nat) (f S : Nat → Int32), m 107 5 = cb th → d < g → fX12_goesBy_143 N g c (nI i) (dM m row bk f S) = some (c, dM m (d_h0 (d_spL m n th d i row bk).1) (d_spL m n th d i row bk).2 f S)) := by
  intro d
  have hMv : n_Mv G a := by rcases ha with rfl | rfl; exact n_Mv9 he.1; exact n_Mv93 he.1
  have hk : Nat.beq (n_kd G a) 4 = true := by rw [hMv.1]; rfl
  induction d with
  | zero =>
    intro i c row bk M h hi
    refine ⟨_, CD_h0 ha h, fun f hf => ?_, fun g f S hth hg => ?_⟩
    · obtain ⟨f, rfl⟩ : ∃ g, f = g + 1 := ⟨f - 1, by omega⟩
      rw [ph174_eq, if_pos (show (12 : Int32) ≤ nI i from nI_le (a := 12) (by omega) (by omega)), hk, n_chk_t, n_chk_t]
    · obtain ⟨g, rfl⟩ : ∃ g', g = g' + 1 := ⟨g - 1, by omega⟩
      rw [gb143_eq, if_pos (show (12 : Int32) ≤ nI i from nI_le (a := 12) (by omega) (by omega)), show n_ib 100 (0 : Int32) = true from rfl, n_chk_t, n_chk_t, k0, dM_108, dM_u108]
      rfl
  | succ d ih =>
    intro i c row bk M h hi
    obtain ⟨M1, e1, g1⟩ := c_spC (pl := i) hN he ha h (by omega)
    obtain ⟨M', g2, g3, g4⟩ := ih (i + 1) c _ _ M1 g1 (by omega)
    refine ⟨M', g2, fun f hf => ?_, fun g f S hth hg => ?_⟩
    · obtain ⟨f, rfl⟩ : ∃ g, f = g + 1 := ⟨f - 1, by omega⟩
      rw [ph174_eq, if_neg (show ¬ (12 : Int32) ≤ nI i from nI_ge (b := 12) (by omega) (by decide)), e1, Option.bind_some, nI_1]
      exact g3 f (by omega)
    · obtain ⟨g, rfl⟩ : ∃ g', g = g' + 1 := ⟨g - 1, by omega⟩
      rw [gb143_eq, if_neg (show ¬ (12 : Int32) ≤ nI i from nI_ge (b := 12) (by omega) (by decide)), c_spM hN he hth (CD_RK h).1 (by omega), Option.bind_some, nI_1]
      exact g4 g f S hth (by omega)
def d_h3 (m : nM) (n : Nat) (th : Bool) (x : Int32 × (Nat → Int32) × (Nat → Int32)) : Int32 × (Nat → Int32) × (Nat → Int32) := (x.1, d_h0 (d_spL m n th 12 0 x.2.1 x.2.2).1, (d_spL m n th 12 0 x.2.1 x.2.2).2)
def d_h2 (m : nM) (ls : List lLn) (n q : Nat) (th : Bool) (x : (Nat → Int32) × (Nat → Int32)) : Int32 × (Nat → Int32) × (Nat → Int32) := d_h3 m n th (d_suL m ls n q th (m 107 37).toNatClampNeg 0 0 x.1 x.2)
def d_hrD (n q : Nat) : dD := fun m ls th row bk => d_h2 m ls n q th (d_cuL m ls n th (m 107 39).toNatClampNeg 0 row bk)
theorem c_hr {G : nG} {M0 m M : nM} {N a n q : Nat} {ls : List lLn} {th : Bool} {row bk : Nat → Int32} (hN : 1000 ≤ N) (hW : EW G M0 m ls n q) (ha : a = 9 ∨ a = 93) (h : CD M0 M a th row bk n q) : ∃ M' : nM, fX0_passHour N G a M = some ((d_hrD n q m ls th row bk).1, M') ∧ CD M0 M' a th (d_hrD n q m ls th row bk).2.1 (d_hrD n q m ls th row bk).2.2 n q ∧ ∀ f S : Nat → Int32, m 107 5 = cb th → ∃ f2 S2 : Nat → Int32, fX12_goesBy N (dM m row bk f S) = some ((d_hrD n q m ls th row bk).1, dM m (d_hrD n q m ls th row bk).2.1 (d_hrD n q m ls th row bk).2.2 f2 S2) := by
  obtain ⟨kc, c0, c1, c2, c3, c4⟩ := hW.2.2.1
  obtain ⟨ks, s0, s1, s2, s3, s4⟩ := hW.2.1
  unfold d_hrD d_h2 d_h3
  rw [c2, s2, nI_clamp (show kc < 2 ^ 31 by omega), nI_clamp (show ks < 2 ^ 31 by omega)]
  obtain ⟨M1, a1, a2, a3⟩ := c_cl (N := N) hN hW ha c0 c1 c2 c3 c4 kc 0 row bk M h (by omega)
  obtain ⟨M2, b1, b2, b3⟩ := c_sl (N := N) hN hW ha s0 s1 s2 s3 s4 ks 0 0 _ _ M1 a1 (by omega)
  obtain ⟨M3, d1, d2, d3⟩ := c_pl (N := N) hN hW.1 ha 12 0 (d_suL m ls n q th ks 0 0 (d_cuL m ls n th kc 0 row bk).1 (d_cuL m ls n th kc 0 row bk).2).1 _ _ M2 b1 (by omega)
  refine ⟨M3, ?_, d1, fun f S hth => ?_⟩
  · unfold fX0_passHour
    exact (a2 N (by omega)).trans ((b2 N (by omega)).trans (d2 N (by omega)))
  · obtain ⟨f1, S1, m1⟩ := a3 N f S hth (by omega)
    obtain ⟨f2, S2, m2⟩ := b3 N f1 S1 hth (by omega)
    have m3 := d3 N f2 S2 hth (by omega)
    refine ⟨f2, S2, ?_⟩
    unfold fX12_goesBy
    exact m1.trans (m2.trans m3)
theorem hr_DoC {G : nG} {N n q : Nat} (hN : 1000 ≤ N) : DoC G n q (fun a M => fX0_passHour N G a M) (d_hrD n q) := fun _ _ _ _ _ _ _ _ hW ha hCD => by
  obtain ⟨M', e, h, -⟩ := c_hr hN hW ha hCD
  exact ⟨M', e, h⟩
theorem hr_DoM {G : nG} {N n q : Nat} (hN : 1000 ≤ N) : DoM G n q (fun M => fX12_goesBy N M) (d_hrD n q) := fun _ _ _ _ _ _ _ _ hW h5 ⟨_, _, ha, hCD⟩ => by
  obtain ⟨-, -, -, h⟩ := c_hr hN hW ha hCD
  exact h _ _ h5
