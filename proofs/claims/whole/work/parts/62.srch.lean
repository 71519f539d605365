/-! ===== to search ===== -/
def d_s1 (row : Nat → Int32) (pl : Nat) : Nat → Int32 := upd row (16 + pl) (row (16 + pl) + 1)
def d_f1 (row : Nat → Int32) (t : Nat) : Nat → Int32 := upd (upd row (60 + t) (cb false)) 3 (row 3 + 1)
def d_se (m : nM) (ls : List lLn) (n : Nat) (th : Bool) (p pl : Nat) : Nat → Nat → Int32 → (Nat → Int32) → (Nat → Int32) → Int32 × (Nat → Int32) × (Nat → Int32)
  | 0, _, c, row, bk => (c, row, bk)
  | d + 1, i, c, row, bk =>
    if row (28 + i) = nI pl ∧ row (60 + i) ≠ 0 then
      (if d_cb th (d_ask m ls n row 2 p i pl).toNatClampNeg row = true then
        d_se m ls n th p pl d (i + 1) (c + 1) (d_nr th (d_f1 (d_cr th row) i)) (d_nb th 3 (nI i) (nI p) (d_f1 (d_cr th row) i) bk)
      else d_se m ls n th p pl d (i + 1) c (d_cr th row) bk)
    else d_se m ls n th p pl d (i + 1) c row bk
def d_srch (m : nM) (ls : List lLn) (n : Nat) (th : Bool) (p pl : Nat) (row bk : Nat → Int32) : Int32 × (Nat → Int32) × (Nat → Int32) :=
  if row (4 + pl) = 0 then d_se m ls n th p pl n 0 0 (d_nr th (d_s1 row pl)) (d_nb th 2 (nI pl) (nI p) (d_s1 row pl) bk)
  else (0, d_nr th (d_s1 row pl), d_nb th 2 (nI pl) (nI p) (d_s1 row pl) bk)
def se4 (N f : Nat) (G : nG) (a : Nat) (x2 x3 x4 x5 : Int32) (p11 : Unit × nM) : Option (Int32 × nM) := fX0_searchPlace_37 N G f a x2 x3 (x4 + 1) (x5 + 1) p11.2
def se3 (N f : Nat) (G : nG) (a : Nat) (x2 x3 x4 x5 : Int32) (M8 : nM) : Option (Int32 × nM) := n_chk (Nat.beq (n_kd G a) 4) (n_chk (Nat.beq (n_kd G a) 4) ((fX0_note G a (3 : Int32) x5 x2 (n_up M8 a 8 ((M8 a 8) + (1 : Int32)))).bind (se4 N f G a x2 x3 x4 x5)))
def se2 (N f : Nat) (G : nG) (a : Nat) (x2 x3 x4 x5 : Int32) (p7 : Int32 × nM) : Option (Int32 × nM) := n_chk (Nat.beq (n_kd G a) 4) (se3 N f G a x2 x3 x4 x5 (n_up p7.2 a 5 p7.1))
def se1 (N f : Nat) (G : nG) (a : Nat) (x2 x3 x4 x5 : Int32) (p5 : Int32 × nM) : Option (Int32 × nM) := if p5.1 = 0 then fX0_searchPlace_37 N G f a x2 x3 x4 (x5 + 1) p5.2 else n_chk (Nat.beq (n_kd G a) 4) ((fX4_withBit (p5.2 a 5) x5 (0 : Int32) p5.2).bind (se2 N f G a x2 x3 x4 x5))
def se0 (N f : Nat) (G : nG) (a : Nat) (x2 x3 x4 x5 : Int32) (p2 : Int32 × nM) : Option (Int32 × nM) := if p2.1 = 0 then fX0_searchPlace_37 N G f a x2 x3 x4 (x5 + 1) p2.2 else (fX0_asked N G a (2 : Int32) x2 x5 x3 p2.2).bind fun p4 => (fX0_comesToPass G a p4.1 p4.2).bind (se1 N f G a x2 x3 x4 x5)
theorem se_eq (N f : Nat) (G : nG) (a : Nat) (x2 x3 x4 x5 : Int32) (M : nM) : fX0_searchPlace_37 N G (f + 1) a x2 x3 x4 x5 M = if (M 3 5) ≤ x5 then some (x4, M) else n_chk (Nat.beq (n_kd G a) 4) (n_chk (n_in G 14 (n_mr G a 1) x5) (if ¬ (M (n_mr G a 1) x5.toNatClampNeg) = x3 then fX0_searchPlace_37 N G f a x2 x3 x4 (x5 + 1) M else n_chk (Nat.beq (n_kd G a) 4) ((fX4_hasBit (M a 5) x5 M).bind (se0 N f G a x2 x3 x4 x5)))) := rfl
theorem CD_f1 {M0 M : nM} {a n q t : Nat} {th : Bool} {row bk : Nat → Int32} (ha : a = 9 ∨ a = 93) (h : CD M0 M a th row bk n q) (ht : t < n) (hn : n ≤ 16) : CD M0 (n_up (n_up M a 5 (sb (M a 5) t false)) a 8 (M a 8 + 1)) a th (d_f1 row t) bk n q := by
  obtain ⟨hf, h0, hm, hb⟩ := h
  have e8 : M a 8 = row 3 := hm.2.2.2.2.2.2.2.1
  refine ⟨fun c g1 g2 g3 g4 => ?_, ?_, ?_, ?_⟩
  · rw [n_up_ne (by omega), n_up_ne (by omega)]; exact hf c g1 g2 g3 g4
  · rw [n_up_eq, upd_ne (by decide), n_up_eq, upd_ne (by decide)]; exact h0
  · rw [n_up_eq, n_up_eq, upd_ne (show (5 : Nat) ≠ 8 by decide), upd_eq, upd_ne (show (6 : Nat) ≠ 8 by decide), upd_ne (show (6 : Nat) ≠ 5 by decide), upd_ne (show (7 : Nat) ≠ 8 by decide), upd_ne (show (7 : Nat) ≠ 5 by decide), upd_eq, upd_ne (show (9 : Nat) ≠ 8 by decide), upd_ne (show (9 : Nat) ≠ 5 by decide), upd_ne (show (10 : Nat) ≠ 8 by decide), upd_ne (show (10 : Nat) ≠ 5 by decide), upd_ne (show (11 : Nat) ≠ 8 by decide), upd_ne (show (11 : Nat) ≠ 5 by decide), n_up_ne (show a + 1 ≠ a by omega), n_up_ne (show a + 1 ≠ a by omega), n_up_ne (show a + 2 ≠ a by omega), n_up_ne (show a + 2 ≠ a by omega), n_up_ne (show a + 3 ≠ a by omega), n_up_ne (show a + 3 ≠ a by omega), n_up_ne (show a + 4 ≠ a by omega), n_up_ne (show a + 4 ≠ a by omega), e8]
    exact r_mov_found (v := row 3 + 1) (r_mov_lost (on := false) (by omega) ht hm)
  · rw [n_up_ne (by omega), n_up_ne (by omega)]; exact hb
theorem CD_s1 {M0 M : nM} {a n q pl : Nat} {th : Bool} {row bk : Nat → Int32} (ha : a = 9 ∨ a = 93) (h : CD M0 M a th row bk n q) (hpl : pl < 12) : CD M0 (n_up M (a + 4) pl (M (a + 4) pl + 1)) a th (d_s1 row pl) bk n q := by
  obtain ⟨hf, h0, hm, hb⟩ := h
  have e4 : M (a + 4) pl = row (16 + pl) := hm.2.2.2.1 pl hpl
  refine ⟨fun c g1 g2 g3 g4 => ?_, ?_, ?_, ?_⟩
  · rw [n_up_ne (by omega)]; exact hf c g1 g2 g3 g4
  · rw [n_up_ne (by omega)]; exact h0
  · rw [n_up_ne (show a ≠ a + 4 by omega), n_up_ne (show a + 1 ≠ a + 4 by omega), n_up_ne (show a + 2 ≠ a + 4 by omega), n_up_ne (show a + 3 ≠ a + 4 by omega), n_up_eq, e4]
    exact r_mov_se (v := row (16 + pl) + 1) hpl hm
  · rw [n_up_ne (by omega)]; exact hb
theorem CD_n {G : nG} {M0 m M : nM} {a n q : Nat} {ls : List lLn} {th : Bool} {row bk : Nat → Int32} (he : EV G M0 m ls n q) (ha : a = 9 ∨ a = 93) (h : CD M0 M a th row bk n q) : M 3 5 = nI n ∧ M 3 6 = nI q := by
  obtain ⟨hG, ⟨-, ⟨s3, s4⟩, -⟩, -⟩ := he
  rw [h.1 3 (by omega) (by decide) (by decide) (by decide)]
  exact ⟨s3, s4⟩
theorem c_seC {G : nG} {M0 m : nM} {N a n q p pl : Nat} {ls : List lLn} {th : Bool} (hN : 1000 ≤ N) (he : EV G M0 m ls n q) (ha : a = 9 ∨ a = 93) (hp : p < q) (hpl : pl < 12) : ∀ (d i f : Nat) (c : Int32) (row bk : Nat → Int32) (M : nM), CD M0 M a th row bk n q → i + d = n → d < f → ∃ M' : nM, fX0_searchPlace_37 N G f a (nI p) (nI pl) c (nI i) M = some ((d_se m ls n th p pl d i c row bk).1, M') ∧ CD M0 M' a th (d_se m ls n th p pl d i c row bk).2.1 (d_se m ls n th p pl d i c row bk).2.2 n q := by
  intro d
  have hn : n ≤ 16 ∧ q ≤ 12 := he.2.1.1
  have hMv : n_Mv G a := by rcases ha with rfl | rfl; exact n_Mv9 he.1; exact n_Mv93 he.1
  have hk : Nat.beq (n_kd G a) 4 = true := by rw [hMv.1]; rfl
  induction d with
  | zero =>
    intro i f c row bk M h hi hf
    obtain ⟨f, rfl⟩ : ∃ g, f = g + 1 := ⟨f - 1, by omega⟩
    refine ⟨M, ?_, h⟩
    rw [se_eq, (CD_n he ha h).1, if_pos (nI_le (by omega) (by omega))]
    rfl
  | succ d ih =>
    intro i f c row bk M h hi hf
    obtain ⟨f, rfl⟩ : ∃ g, f = g + 1 := ⟨f - 1, by omega⟩
    have hi16 : i < 16 := by omega
    have i1 := n_in_nI hMv.2.2.1.1 hMv.2.2.2.1 hi16 (by decide)
    obtain ⟨hf2, h0, hm, hb⟩ := id h
    have ei : M (a + 1) i = row (28 + i) := hm.1.1 i hi16
    have el : cb (bt (M a 5) i) = row (60 + i) := r_bits_g hm.2.2.2.2.1 hi16
    rw [se_eq, (CD_n he ha h).1, if_neg (nI_ge (by omega) (by omega)), hk, n_chk_t, hMv.2.1.1, i1, n_chk_t, nI_clamp (show i < 2 ^ 31 by omega), ei, n_chk_t, nI_1, e_hasBit (show i < 32 by omega), Option.bind_some, el]
    unfold d_se
    by_cases hc1 : row (28 + i) = nI pl
    · rw [if_neg (not_not_intro hc1)]
      unfold se0
      by_cases hc2 : row (60 + i) = 0
      · rw [if_neg (show ¬ (row (28 + i) = nI pl ∧ row (60 + i) ≠ 0) from fun z => z.2 hc2), if_pos (show (row (60 + i), M).1 = 0 from hc2), nI_1]
        exact ih (i + 1) f c row bk M h (by omega) (by omega)
      · rw [if_pos (show row (28 + i) = nI pl ∧ row (60 + i) ≠ 0 from ⟨hc1, hc2⟩), if_neg (show ¬ (row (60 + i), M).1 = 0 from hc2)]
        obtain ⟨M3, e3, h3⟩ := c_askC (N := N) (w := 2) hN he ha h (by decide) (show p < 12 by omega) hi16 hpl
        obtain ⟨j, hj, ej⟩ := p_ask_b ls (p_F (m 114) (m 115) (m 112) (m 113) row n p i pl) 2
        have ej' : d_ask m ls n row 2 p i pl = nI j := ej
        have e3' : fX0_asked N G a (2 : Int32) (nI p) (nI i) (nI pl) M = _ := e3
        obtain ⟨M4, e4, h4⟩ := c_cmC he ha h3 hj
        rw [e3', ej', Option.bind_some, nI_clamp (by omega), e4, Option.bind_some]
        unfold se1
        cases hd : d_cb th j row with
        | false =>
          rw [if_pos (show (cb false, M4).1 = 0 from rfl), if_neg (show ¬ false = true by decide), nI_1]
          exact ih (i + 1) f c _ bk M4 h4 (by omega) (by omega)
        | true =>
          have h5 := CD_f1 (t := i) ha h4 (by omega) hn.1
          obtain ⟨M6, e6, h6⟩ := c_ntC (x := 3) (y := nI i) (z := nI p) he ha h5
          have e8 : n_up M4 a 5 (sb (M4 a 5) i false) a 8 = M4 a 8 := by rw [n_up_eq, upd_ne (by decide)]
          rw [if_neg (show ¬ (cb true, M4).1 = 0 from (by decide : ¬ cb true = (0 : Int32))), if_pos rfl, hk, n_chk_t, e_withBit0, Option.bind_some, se2, hk, n_chk_t, se3, hk, n_chk_t, n_chk_t, e8, e6, Option.bind_some, se4, nI_1]
          exact ih (i + 1) f (c + 1) _ _ M6 h6 (by omega) (by omega)
    · rw [if_pos hc1, if_neg (show ¬ (row (28 + i) = nI pl ∧ row (60 + i) ≠ 0) from fun z => hc1 z.1)]
      exact ih (i + 1) f c row bk M h (by omega) (by omega)
def sp1 (N : Nat) (G : nG) (a : Nat) (x2 x3 : Int32) (p3 : Int32 × nM) : Option (Int32 × nM) := if p3.1 = 0 then fX0_searchPlace_37 N G N a x2 x3 (0 : Int32) (0 : Int32) p3.2 else some ((0 : Int32), p3.2)
def sp0 (N : Nat) (G : nG) (a : Nat) (x2 x3 : Int32) (p2 : Unit × nM) : Option (Int32 × nM) := n_chk (Nat.beq (n_kd G a) 4) ((fX4_hasBit (p2.2 a 7) x3 p2.2).bind (sp1 N G a x2 x3))
theorem sp_eq (N : Nat) (G : nG) (a : Nat) (x2 x3 : Int32) (M : nM) : fX0_searchPlace N G a x2 x3 M = n_chk (Nat.beq (n_kd G a) 4) (n_chk (n_in G 14 (n_mr G a 4) x3) (n_chk (n_in G 14 (n_mr G a 4) x3) ((fX0_note G a (2 : Int32) x3 x2 (n_up M (n_mr G a 4) x3.toNatClampNeg ((M (n_mr G a 4) x3.toNatClampNeg) + (1 : Int32)))).bind (sp0 N G a x2 x3)))) := rfl
theorem d_nr_ne {th : Bool} {row : Nat → Int32} {k : Nat} (h : k ≠ 2) : d_nr th row k = row k := by
  unfold d_nr
  split
  · rfl
  · exact upd_ne h
theorem d_cr_ne {th : Bool} {row : Nat → Int32} {k : Nat} (h : k ≠ 1) : d_cr th row k = row k := by
  unfold d_cr
  split
  · rfl
  · exact upd_ne h
theorem c_srC {G : nG} {M0 m M : nM} {N a n q p pl : Nat} {ls : List lLn} {th : Bool} {row bk : Nat → Int32} (hN : 1000 ≤ N) (he : EV G M0 m ls n q) (ha : a = 9 ∨ a = 93) (h : CD M0 M a th row bk n q) (hp : p < q) (hpl : pl < 12) : ∃ M' : nM, fX0_searchPlace N G a (nI p) (nI pl) M = some ((d_srch m ls n th p pl row bk).1, M') ∧ CD M0 M' a th (d_srch m ls n th p pl row bk).2.1 (d_srch m ls n th p pl row bk).2.2 n q := by
  have hn : n ≤ 16 ∧ q ≤ 12 := he.2.1.1
  have hMv : n_Mv G a := by rcases ha with rfl | rfl; exact n_Mv9 he.1; exact n_Mv93 he.1
  have hk : Nat.beq (n_kd G a) 4 = true := by rw [hMv.1]; rfl
  have i4 := n_in_nI hMv.2.2.1.2.2.2 hMv.2.2.2.2.2.2 hpl (by decide)
  have h1 := CD_s1 (pl := pl) ha h hpl
  obtain ⟨M2, e2, h2⟩ := c_ntC (x := 2) (y := nI pl) (z := nI p) he ha h1
  have hlk : cb (bt (M2 a 7) pl) = row (4 + pl) := by
    rw [r_bits_g h2.2.2.1.2.2.2.2.2.2.1 hpl, d_nr_ne (by omega)]
    exact upd_ne (by omega)
  rw [sp_eq, hk, n_chk_t, hMv.2.1.2.2.2, i4, n_chk_t, n_chk_t, nI_clamp (show pl < 2 ^ 31 by omega), e2, Option.bind_some, sp0, hk, n_chk_t, e_hasBit (show pl < 32 by omega), Option.bind_some, hlk]
  unfold sp1 d_srch
  by_cases hc : row (4 + pl) = 0
  · rw [if_pos hc, if_pos (show (row (4 + pl), M2).1 = 0 from hc)]
    exact c_seC hN he ha hp hpl n 0 N 0 _ _ M2 h2 (by omega) (by omega)
  · rw [if_neg hc, if_neg (show ¬ (row (4 + pl), M2).1 = 0 from hc)]
    exact ⟨M2, rfl, h2⟩
