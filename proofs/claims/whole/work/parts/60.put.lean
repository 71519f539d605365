/-! ===== to put ===== -/
def pd3 (N : Nat) (G : nG) (a : Nat) (x2 x3 : Int32) (p15 : Unit × nM) : Option (Int32 × nM) := some ((1 : Int32), p15.2)
def pd4 (N : Nat) (G : nG) (a : Nat) (x2 x3 : Int32) (p13 : Int32 × nM) : Option (Int32 × nM) := n_chk (Nat.beq (n_kd G a) 4) ((fX0_note G a (1 : Int32) x3 x2 (n_up p13.2 a 5 p13.1)).bind (pd3 N G a x2 x3))
def pd5 (N : Nat) (G : nG) (a : Nat) (x2 x3 : Int32) (M12 : nM) : Option (Int32 × nM) := n_chk (Nat.beq (n_kd G a) 4) ((fX4_withBit (M12 a 5) x3 (1 : Int32) M12).bind (pd4 N G a x2 x3))
def pd6 (N : Nat) (G : nG) (a : Nat) (x2 x3 : Int32) (M11 : nM) : Option (Int32 × nM) := n_chk (Nat.beq (n_kd G a) 4) (n_chk (n_in G 14 (n_mr G a 3) x2) (n_chk (n_in G 14 (n_mr G a 3) x2) (pd5 N G a x2 x3 (n_up M11 (n_mr G a 3) x2.toNatClampNeg ((M11 (n_mr G a 3) x2.toNatClampNeg) + (1 : Int32))))))
def pd7 (N : Nat) (G : nG) (a : Nat) (x2 x3 : Int32) (M10 : nM) : Option (Int32 × nM) := n_chk (Nat.beq (n_kd G a) 4) (n_chk (n_in G 14 (n_mr G a 2) x3) (n_chk (n_in G 14 (n_mr G a 2) x3) (pd6 N G a x2 x3 (n_up M10 (n_mr G a 2) x3.toNatClampNeg ((M10 (n_mr G a 2) x3.toNatClampNeg) + (1 : Int32))))))
def pd8 (N : Nat) (G : nG) (a : Nat) (x2 x3 : Int32) (p9 : Int32 × nM) : Option (Int32 × nM) := n_chk (n_in G 14 (n_mr G a 1) x3) (pd7 N G a x2 x3 (n_up p9.2 (n_mr G a 1) x3.toNatClampNeg p9.1))
def pd9 (N : Nat) (G : nG) (a : Nat) (x2 x3 x4 : Int32) (p7 : Int32 × nM) : Option (Int32 × nM) := if ¬ p7.1 = 0 then n_chk (Nat.beq (n_kd G a) 4) ((fX0_asked N G a (1 : Int32) x2 x3 x4 p7.2).bind fun p8 => (fX0_sleeve N G a x3 x4 p8.1 p8.2).bind (pd8 N G a x2 x3)) else some ((0 : Int32), p7.2)
def pd10 (N : Nat) (G : nG) (a : Nat) (x2 x3 x4 : Int32) (p6 : Int32 × nM) : Option (Int32 × nM) := if p6.1 ≤ 0 then some ((0 : Int32), p6.2) else (fX0_comesToPass G a p6.1 p6.2).bind (pd9 N G a x2 x3 x4)
def pd11 (N : Nat) (G : nG) (a : Nat) (x2 x3 x4 : Int32) (p3 : Int32 × nM) : Option (Int32 × nM) := n_chk (Nat.beq (n_kd G a) 4) ((fX0_note G a (0 : Int32) x3 x4 (n_up p3.2 a 5 p3.1)).bind fun p5 => (fX0_asked N G a (0 : Int32) x2 x3 x4 p5.2).bind (pd10 N G a x2 x3 x4))
def pd12 (N : Nat) (G : nG) (a : Nat) (x2 x3 x4 : Int32) (M2 : nM) : Option (Int32 × nM) := n_chk (Nat.beq (n_kd G a) 4) ((fX4_withBit (M2 a 5) x3 (0 : Int32) M2).bind (pd11 N G a x2 x3 x4))
def pd13 (N : Nat) (G : nG) (a : Nat) (x2 x3 x4 : Int32) (M1 : nM) : Option (Int32 × nM) := n_chk (Nat.beq (n_kd G a) 4) (n_chk (n_in G 14 (n_mr G a 2) x3) (n_chk (n_in G 14 (n_mr G a 2) x3) (pd12 N G a x2 x3 x4 (n_up M1 (n_mr G a 2) x3.toNatClampNeg ((M1 (n_mr G a 2) x3.toNatClampNeg) + (1 : Int32))))))
theorem pd_eq (N : Nat) (G : nG) (a : Nat) (x2 x3 x4 : Int32) (M : nM) : fX0_putDown N G a x2 x3 x4 M = n_chk (Nat.beq (n_kd G a) 4) (n_chk (n_in G 14 (n_mr G a 1) x3) (pd13 N G a x2 x3 x4 (n_up M (n_mr G a 1) x3.toNatClampNeg x4))) := rfl
def d_p1 (row : Nat → Int32) (t pl : Nat) : Nat → Int32 := upd (upd (upd row (28 + t) (nI pl)) (44 + t) (row (44 + t) + 1)) (60 + t) (cb false)
def d_p4 (row : Nat → Int32) (p t to : Nat) : Nat → Int32 := upd (upd (upd (upd row (28 + t) (nI to)) (44 + t) (row (44 + t) + 1)) (88 + p) (row (88 + p) + 1)) (60 + t) (cb true)
theorem CD_p1 {M0 M : nM} {a n q t pl : Nat} {th : Bool} {row bk : Nat → Int32} (ha : a = 9 ∨ a = 93) (h : CD M0 M a th row bk n q) (ht : t < n) (hn : n ≤ 16) (hpl : pl < 12) : CD M0 (n_up (n_up (n_up M (a + 1) t (nI pl)) (a + 2) t (M (a + 2) t + 1)) a 5 (sb (M a 5) t false)) a th (d_p1 row t pl) bk n q := by
  obtain ⟨hf, h0, hm, hb⟩ := h
  have e2 : M (a + 2) t = row (44 + t) := hm.2.1 t (by omega)
  refine ⟨fun c g1 g2 g3 g4 => ?_, ?_, ?_, ?_⟩
  · rw [n_up_ne (by omega), n_up_ne (by omega), n_up_ne (by omega)]; exact hf c g1 g2 g3 g4
  · rw [n_up_eq, upd_ne (by decide), n_up_ne (by omega), n_up_ne (by omega)]; exact h0
  · rw [n_up_eq, n_up_ne (show a ≠ a + 2 by omega), n_up_ne (show a ≠ a + 1 by omega), upd_eq, upd_ne (show (6 : Nat) ≠ 5 by decide), upd_ne (show (7 : Nat) ≠ 5 by decide), upd_ne (show (8 : Nat) ≠ 5 by decide), upd_ne (show (9 : Nat) ≠ 5 by decide), upd_ne (show (10 : Nat) ≠ 5 by decide), upd_ne (show (11 : Nat) ≠ 5 by decide), n_up_ne (show a + 1 ≠ a by omega), n_up_ne (show a + 1 ≠ a + 2 by omega), n_up_eq, n_up_ne (show a + 2 ≠ a by omega), n_up_eq, n_up_ne (show a + 2 ≠ a + 1 by omega), n_up_ne (show a + 3 ≠ a by omega), n_up_ne (show a + 3 ≠ a + 2 by omega), n_up_ne (show a + 3 ≠ a + 1 by omega), n_up_ne (show a + 4 ≠ a by omega), n_up_ne (show a + 4 ≠ a + 2 by omega), n_up_ne (show a + 4 ≠ a + 1 by omega), e2]
    exact r_mov_lost (on := false) (by omega) ht (r_mov_mv (v := row (44 + t) + 1) (by omega) (r_mov_i (by omega) hpl hm))
  · rw [n_up_ne (by omega), n_up_ne (by omega), n_up_ne (by omega)]; exact hb
theorem CD_p4 {M0 M : nM} {a n q p t to : Nat} {th : Bool} {row bk : Nat → Int32} (ha : a = 9 ∨ a = 93) (h : CD M0 M a th row bk n q) (ht : t < n) (hn : n ≤ 16) (hp : p < q) (hq : q ≤ 12) (hto : to < 12) : CD M0 (n_up (n_up (n_up (n_up M (a + 1) t (nI to)) (a + 2) t (M (a + 2) t + 1)) (a + 3) p (M (a + 3) p + 1)) a 5 (sb (M a 5) t true)) a th (d_p4 row p t to) bk n q := by
  obtain ⟨hf, h0, hm, hb⟩ := h
  have e2 : M (a + 2) t = row (44 + t) := hm.2.1 t (by omega)
  have e3 : M (a + 3) p = row (88 + p) := hm.2.2.1.1 p (by omega)
  refine ⟨fun c g1 g2 g3 g4 => ?_, ?_, ?_, ?_⟩
  · rw [n_up_ne (by omega), n_up_ne (by omega), n_up_ne (by omega), n_up_ne (by omega)]; exact hf c g1 g2 g3 g4
  · rw [n_up_eq, upd_ne (by decide), n_up_ne (by omega), n_up_ne (by omega), n_up_ne (by omega)]; exact h0
  · rw [n_up_eq, n_up_ne (show a ≠ a + 3 by omega), n_up_ne (show a ≠ a + 2 by omega), n_up_ne (show a ≠ a + 1 by omega), upd_eq, upd_ne (show (6 : Nat) ≠ 5 by decide), upd_ne (show (7 : Nat) ≠ 5 by decide), upd_ne (show (8 : Nat) ≠ 5 by decide), upd_ne (show (9 : Nat) ≠ 5 by decide), upd_ne (show (10 : Nat) ≠ 5 by decide), upd_ne (show (11 : Nat) ≠ 5 by decide), n_up_ne (show a + 1 ≠ a by omega), n_up_ne (show a + 1 ≠ a + 3 by omega), n_up_ne (show a + 1 ≠ a + 2 by omega), n_up_eq, n_up_ne (show a + 2 ≠ a by omega), n_up_ne (show a + 2 ≠ a + 3 by omega), n_up_eq, n_up_ne (show a + 2 ≠ a + 1 by omega), n_up_ne (show a + 3 ≠ a by omega), n_up_eq, n_up_ne (show a + 3 ≠ a + 2 by omega), n_up_ne (show a + 3 ≠ a + 1 by omega), n_up_ne (show a + 4 ≠ a by omega), n_up_ne (show a + 4 ≠ a + 3 by omega), n_up_ne (show a + 4 ≠ a + 2 by omega), n_up_ne (show a + 4 ≠ a + 1 by omega), e2, e3]
    exact r_mov_lost (on := true) (by omega) ht (r_mov_pa (v := row (88 + p) + 1) (by omega) hp (r_mov_mv (v := row (44 + t) + 1) (by omega) (r_mov_i (by omega) hto hm)))
  · rw [n_up_ne (by omega), n_up_ne (by omega), n_up_ne (by omega), n_up_ne (by omega)]; exact hb
def d_put (m : nM) (ls : List lLn) (n : Nat) (th : Bool) (p t pl : Nat) (row bk : Nat → Int32) : Bool × (Nat → Int32) × (Nat → Int32) :=
  if (d_ask m ls n (d_nr th (d_p1 row t pl)) 0 p t pl).toNatClampNeg = 0 then (false, d_nr th (d_p1 row t pl), d_nb th 0 (nI t) (nI pl) (d_p1 row t pl) bk)
  else if d_cb th (d_ask m ls n (d_nr th (d_p1 row t pl)) 0 p t pl).toNatClampNeg (d_nr th (d_p1 row t pl)) = true then
    (true, d_nr th (d_p4 (d_cr th (d_nr th (d_p1 row t pl))) p t (d_sl m n (d_cr th (d_nr th (d_p1 row t pl))) t pl (d_ask m ls n (d_cr th (d_nr th (d_p1 row t pl))) 1 p t pl).toNatClampNeg 12 0)),
      d_nb th 1 (nI t) (nI p) (d_p4 (d_cr th (d_nr th (d_p1 row t pl))) p t (d_sl m n (d_cr th (d_nr th (d_p1 row t pl))) t pl (d_ask m ls n (d_cr th (d_nr th (d_p1 row t pl))) 1 p t pl).toNatClampNeg 12 0)) (d_nb th 0 (nI t) (nI pl) (d_p1 row t pl) bk))
  else (false, d_cr th (d_nr th (d_p1 row t pl)), d_nb th 0 (nI t) (nI pl) (d_p1 row t pl) bk)
theorem c_putC {G : nG} {M0 m M : nM} {N a n q p t pl : Nat} {ls : List lLn} {th : Bool} {row bk : Nat → Int32} (hN : 1000 ≤ N) (he : EV G M0 m ls n q) (ha : a = 9 ∨ a = 93) (h : CD M0 M a th row bk n q) (hp : p < q) (ht : t < n) (hpl : pl < 12) : ∃ M' : nM, fX0_putDown N G a (nI p) (nI t) (nI pl) M = some (cb (d_put m ls n th p t pl row bk).1, M') ∧ CD M0 M' a th (d_put m ls n th p t pl row bk).2.1 (d_put m ls n th p t pl row bk).2.2 n q := by
  obtain ⟨hG, ⟨⟨s1, s2⟩, -⟩, -⟩ := id he
  have hMv : n_Mv G a := by rcases ha with rfl | rfl; exact n_Mv9 hG; exact n_Mv93 hG
  have hk : Nat.beq (n_kd G a) 4 = true := by rw [hMv.1]; rfl
  have i1 := n_in_nI hMv.2.2.1.1 hMv.2.2.2.1 (show t < 16 by omega) (by decide)
  have i2 := n_in_nI hMv.2.2.1.2.1 hMv.2.2.2.2.1 (show t < 16 by omega) (by decide)
  have i3 := n_in_nI hMv.2.2.1.2.2.1 hMv.2.2.2.2.2.1 (show p < 12 by omega) (by decide)
  have h1 := CD_p1 (t := t) (pl := pl) ha h ht s1 hpl
  obtain ⟨M2, e2, h2⟩ := c_ntC (x := 0) (y := nI t) (z := nI pl) he ha h1
  obtain ⟨M3, e3, h3⟩ := c_askC (N := N) (w := 0) hN he ha h2 (by decide) (show p < 12 by omega) (show t < 16 by omega) hpl
  obtain ⟨j, hj, ej⟩ := p_ask_b ls (p_F (m 114) (m 115) (m 112) (m 113) (d_nr th (d_p1 row t pl)) n p t pl) 0
  have ej' : d_ask m ls n (d_nr th (d_p1 row t pl)) 0 p t pl = nI j := ej
  rw [ej'] at e3
  have start : fX0_putDown N G a (nI p) (nI t) (nI pl) M = pd10 N G a (nI p) (nI t) (nI pl) (nI j, M3) := by
    rw [pd_eq, hk, n_chk_t, hMv.2.1.1, i1, n_chk_t, pd13, hk, n_chk_t, hMv.2.1.2.1, i2, n_chk_t, n_chk_t, pd12, hk, n_chk_t, nI_clamp (show t < 2 ^ 31 by omega), n_up_ne (show a + 2 ≠ a + 1 by omega), n_up_ne (show a ≠ a + 2 by omega), n_up_ne (show a ≠ a + 1 by omega), e_withBit0, Option.bind_some, pd11, hk, n_chk_t, e2, Option.bind_some, show (0 : Int32) = nI 0 from rfl, e3, Option.bind_some]
  rw [start]
  unfold pd10 d_put
  rw [ej', nI_clamp (by omega)]
  by_cases j0 : j = 0
  · subst j0
    refine ⟨M3, ?_, ?_⟩
    · rw [if_pos (show (nI 0, M3).1 ≤ (0 : Int32) from (by decide : nI 0 ≤ (0 : Int32)))]
      rfl
    · exact h3
  · rw [if_neg (show ¬ (nI j, M3).1 ≤ (0 : Int32) from nI_nle (by omega) (by omega)), if_neg j0]
    obtain ⟨M4, e4, h4⟩ := c_cmC (j := j) he ha h3 hj
    rw [e4, Option.bind_some]
    unfold pd9
    cases hd : d_cb th j (d_nr th (d_p1 row t pl)) with
    | false =>
      refine ⟨M4, ?_, ?_⟩
      · rw [if_neg (show ¬ ¬ (cb false, M4).1 = (0 : Int32) from not_not_intro rfl)]
        rfl
      · exact h4
    | true =>
      rw [if_pos (show ¬ (cb true, M4).1 = (0 : Int32) from (by decide : ¬ cb true = (0 : Int32))), hk, n_chk_t]
      obtain ⟨M5, e5, h5⟩ := c_askC (N := N) (w := 1) hN he ha h4 (by decide) (show p < 12 by omega) (show t < 16 by omega) hpl
      obtain ⟨fj, hfj, efj⟩ := p_ask_b ls (p_F (m 114) (m 115) (m 112) (m 113) (d_cr th (d_nr th (d_p1 row t pl))) n p t pl) 1
      have efj' : d_ask m ls n (d_cr th (d_nr th (d_p1 row t pl))) 1 p t pl = nI fj := efj
      rw [efj'] at e5
      rw [efj', nI_clamp (by omega)]
      have e6 : fX0_sleeve N G a (nI t) (nI pl) (nI fj) M5 = some (nI (d_sl m n (d_cr th (d_nr th (d_p1 row t pl))) t pl fj 12 0), M5) := c_slC hN he ha h5 (by omega) hpl hfj 12 0 N (by omega) (by omega)
      have hto := d_sl_b (m := m) (n := n) (row := d_cr th (d_nr th (d_p1 row t pl))) (t := t) (far := fj) hpl 12 0
      generalize d_sl m n (d_cr th (d_nr th (d_p1 row t pl))) t pl fj 12 0 = to at e6 hto ⊢
      have h6 := CD_p4 (p := p) (t := t) (to := to) ha h5 ht s1 hp s2 hto
      obtain ⟨M7, e7, h7⟩ := c_ntC (x := 1) (y := nI t) (z := nI p) he ha h6
      refine ⟨M7, ?_, ?_⟩
      · rw [show (1 : Int32) = nI 1 from rfl, e5, Option.bind_some, e6, Option.bind_some, pd8, hMv.2.1.1, i1, n_chk_t, pd7, hk, n_chk_t, hMv.2.1.2.1, i2, n_chk_t, n_chk_t, pd6, hk, n_chk_t, hMv.2.1.2.2.1, i3, n_chk_t, n_chk_t, pd5, hk, n_chk_t, nI_clamp (show t < 2 ^ 31 by omega), nI_clamp (show p < 2 ^ 31 by omega), n_up_ne (show a + 2 ≠ a + 1 by omega), n_up_ne (show a + 3 ≠ a + 2 by omega), n_up_ne (show a + 3 ≠ a + 1 by omega), n_up_ne (show a ≠ a + 3 by omega), n_up_ne (show a ≠ a + 2 by omega), n_up_ne (show a ≠ a + 1 by omega), e_withBit1, Option.bind_some, pd4, hk, n_chk_t, e7, Option.bind_some, pd3]
        rfl
      · exact h7
