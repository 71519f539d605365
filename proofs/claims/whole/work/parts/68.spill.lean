/-! ===== what falls out, in class and model ===== -/
def sl4 (N f : Nat) (G : nG) (a : Nat) (x2 v2 x4 : Int32) (p6 : Unit × nM) : Option (Unit × nM) := fX0_spill_21 N G f a x2 v2 (x4 + (-1 : Int32)) p6.2
def sl3 (N f : Nat) (G : nG) (a : Nat) (x2 v2 x4 : Int32) (M5 : nM) : Option (Unit × nM) := n_chk (Nat.beq (n_kd G a) 4) (n_chk (n_in G 14 (n_mr G a 1) x4) ((fX0_note G a (4 : Int32) x4 (M5 (n_mr G a 1) x4.toNatClampNeg) M5).bind (sl4 N f G a x2 v2 x4)))
def slP (N f : Nat) (G : nG) (a : Nat) (x2 v2 x4 : Int32) (p4 : Int32 × nM) : Option (Unit × nM) := n_chk (Nat.beq (n_kd G a) 4) (sl3 N f G a x2 v2 x4 (n_up p4.2 a 5 p4.1))
def slQ (N f : Nat) (G : nG) (a : Nat) (x2 v2 x4 : Int32) (M3 : nM) : Option (Unit × nM) := n_chk (Nat.beq (n_kd G a) 4) ((fX4_withBit (M3 a 5) x4 (1 : Int32) M3).bind (slP N f G a x2 v2 x4))
def slR (N f : Nat) (G : nG) (a : Nat) (x2 v2 x4 : Int32) (M : nM) : Option (Unit × nM) := n_chk (Nat.beq (n_kd G a) 4) (if (12 : Int32) = 0 then none else n_chk (n_in G 14 (n_mr G a 1) x4) (slQ N f G a x2 v2 x4 (n_up M (n_mr G a 1) x4.toNatClampNeg ((x2 + (1 : Int32)) - (x2 + (1 : Int32)) / (12 : Int32) * (12 : Int32)))))
theorem sp21_eq (N f : Nat) (G : nG) (a : Nat) (x2 x3 x4 : Int32) (M : nM) : fX0_spill_21 N G (f + 1) a x2 x3 x4 M = if x4 < 0 then some ((), M) else n_chk (n_ib 12 x2) (if x3 ≤ (M 4 x2.toNatClampNeg) then some ((), M) else n_chk (Nat.beq (n_kd G a) 4) (n_chk (n_in G 14 (n_mr G a 1) x4) (if ¬ (M (n_mr G a 1) x4.toNatClampNeg) = x2 then fX0_spill_21 N G f a x2 x3 (x4 + (-1 : Int32)) M else n_chk (n_ib 16 x4) (slR N f G a x2 (x3 - (M 5 x4.toNatClampNeg)) x4 M)))) := rfl
theorem CD_o1 {M0 M : nM} {a n q t pl : Nat} {th : Bool} {row bk : Nat → Int32} (ha : a = 9 ∨ a = 93) (h : CD M0 M a th row bk n q) (ht : t < n) (hn : n ≤ 16) : CD M0 (n_up (n_up M (a + 1) t (nI ((pl + 1) % 12))) a 5 (sb (M a 5) t true)) a th (d_o1 row t pl) bk n q := by
  obtain ⟨hf, h0, hm, hb⟩ := h
  refine ⟨fun c g1 g2 g3 g4 => ?_, ?_, ?_, ?_⟩
  · rw [n_up_ne (by omega), n_up_ne (by omega)]; exact hf c g1 g2 g3 g4
  · rw [n_up_eq, upd_ne (by decide), n_up_ne (by omega)]; exact h0
  · rw [n_up_eq, n_up_ne (show a ≠ a + 1 by omega), upd_eq, upd_ne (show (6 : Nat) ≠ 5 by decide), upd_ne (show (7 : Nat) ≠ 5 by decide), upd_ne (show (8 : Nat) ≠ 5 by decide), upd_ne (show (9 : Nat) ≠ 5 by decide), upd_ne (show (10 : Nat) ≠ 5 by decide), upd_ne (show (11 : Nat) ≠ 5 by decide), n_up_ne (show a + 1 ≠ a by omega), n_up_eq, n_up_ne (show a + 2 ≠ a by omega), n_up_ne (show a + 2 ≠ a + 1 by omega), n_up_ne (show a + 3 ≠ a by omega), n_up_ne (show a + 3 ≠ a + 1 by omega), n_up_ne (show a + 4 ≠ a by omega), n_up_ne (show a + 4 ≠ a + 1 by omega)]
    exact r_mov_lost (on := true) (by omega) ht (r_mov_i (by omega) (by omega) hm)
  · rw [n_up_ne (by omega), n_up_ne (by omega)]; exact hb
theorem c_s21C {G : nG} {M0 m : nM} {N a n q pl : Nat} {ls : List lLn} {th : Bool} (he : EV G M0 m ls n q) (ha : a = 9 ∨ a = 93) (hpl : pl < 12) : ∀ (i f : Nat) (row bk : Nat → Int32) (M : nM), CD M0 M a th row bk n q → i ≤ n → i < f → ∃ M' : nM, fX0_spill_21 N G f a (nI pl) (d_fu m n row pl) (nI i - 1) M = some ((), M') ∧ CD M0 M' a th (d_sp m n th pl i row bk).1 (d_sp m n th pl i row bk).2 n q := by
  intro i
  have hn : n ≤ 16 ∧ q ≤ 12 := he.2.1.1
  have hMv : n_Mv G a := by rcases ha with rfl | rfl; exact n_Mv9 he.1; exact n_Mv93 he.1
  have hk : Nat.beq (n_kd G a) 4 = true := by rw [hMv.1]; rfl
  induction i with
  | zero =>
    intro f row bk M h hi hf
    obtain ⟨f, rfl⟩ : ∃ g, f = g + 1 := ⟨f - 1, by omega⟩
    refine ⟨M, ?_, h⟩
    rw [sp21_eq, if_pos (show nI 0 - 1 < (0 : Int32) by decide)]
  | succ i ih =>
    intro f row bk M h hi hf
    obtain ⟨f, rfl⟩ : ∃ g, f = g + 1 := ⟨f - 1, by omega⟩
    have hi16 : i < 16 := by omega
    have e1 : nI (i + 1) - 1 = nI i := nI_pred i
    have e2 : nI i + (-1 : Int32) = nI i - 1 := (Int32.sub_eq_add_neg _ _).symm
    have i1 := n_in_nI hMv.2.2.1.1 hMv.2.2.2.1 hi16 (by decide)
    obtain ⟨hf2, h0, hm, hb⟩ := id h
    have s7 := he.2.1.2.2.2.1
    have s8 := he.2.1.2.2.2.2.1
    have e4 : M 4 pl = m 111 pl + 9 := by rw [hf2 4 (by omega) (by decide) (by decide) (by decide)]; exact s7 pl hpl
    have e5 : M 5 i = m 112 i := by rw [hf2 5 (by omega) (by decide) (by decide) (by decide)]; exact s8 i hi16
    have ei : M (a + 1) i = row (28 + i) := hm.1.1 i hi16
    rw [e1, sp21_eq, if_neg (nI_pos (by omega)), n_ib_nI hpl (by decide), n_chk_t, nI_clamp (show pl < 2 ^ 31 by omega), e4, hk, n_chk_t, hMv.2.1.1, i1, n_chk_t, nI_clamp (show i < 2 ^ 31 by omega), ei, n_ib_nI hi16 (by decide), n_chk_t, e2, e5]
    unfold d_sp
    by_cases hc : d_fu m n row pl ≤ m 111 pl + 9
    · rw [if_pos hc, if_pos hc]
      exact ⟨M, rfl, h⟩
    · rw [if_neg hc, if_neg hc]
      by_cases hr : row (28 + i) = nI pl
      · rw [if_neg (not_not_intro hr), if_pos hr]
        have h5 := CD_o1 (t := i) (pl := pl) ha h (by omega) hn.1
        obtain ⟨M6, e6, h6⟩ := c_ntC (x := 4) (y := nI i) (z := nI ((pl + 1) % 12)) he ha h5
        have em : (nI pl + (1 : Int32)) - (nI pl + (1 : Int32)) / (12 : Int32) * (12 : Int32) = nI ((pl + 1) % 12) := by rw [nI_1]; exact r_mod12 (by omega)
        have e7 : n_up (n_up M (a + 1) i (nI ((pl + 1) % 12))) a 5 (sb (M a 5) i true) (a + 1) i = nI ((pl + 1) % 12) := by rw [n_up_ne (by omega), n_up_eq, upd_eq]
        rw [slR, hk, n_chk_t, if_neg (show ¬ (12 : Int32) = 0 by decide), hMv.2.1.1, i1, n_chk_t, em, nI_clamp (show i < 2 ^ 31 by omega), slQ, hk, n_chk_t, n_up_ne (show a ≠ a + 1 by omega), e_withBit1, Option.bind_some, slP, hk, n_chk_t, sl3, hk, n_chk_t, hMv.2.1.1, i1, n_chk_t, nI_clamp (show i < 2 ^ 31 by omega), e7, e6, Option.bind_some, sl4, e2, ← d_fu1 (th := th) (show i < n by omega) hn.1 hpl hr]
        exact ih f _ _ M6 h6 (by omega) (by omega)
      · rw [if_pos hr, if_neg hr]
        exact ih f row bk M h (by omega) (by omega)
theorem spl_eq (N : Nat) (G : nG) (a : Nat) (x2 : Int32) (M : nM) : fX0_spill N G a x2 M = (fX0_fullOf N G a x2 M).bind fun p1 => fX0_spill_21 N G N a x2 p1.1 ((p1.2 3 5) - (1 : Int32)) p1.2 := rfl
theorem c_spC {G : nG} {M0 m M : nM} {N a n q pl : Nat} {ls : List lLn} {th : Bool} {row bk : Nat → Int32} (hN : 1000 ≤ N) (he : EV G M0 m ls n q) (ha : a = 9 ∨ a = 93) (h : CD M0 M a th row bk n q) (hpl : pl < 12) : ∃ M' : nM, fX0_spill N G a (nI pl) M = some ((), M') ∧ CD M0 M' a th (d_sp m n th pl n row bk).1 (d_sp m n th pl n row bk).2 n q := by
  have hn : n ≤ 16 ∧ q ≤ 12 := he.2.1.1
  rw [spl_eq, c_full hN he ha h, Option.bind_some]
  show ∃ M' : nM, fX0_spill_21 N G N a (nI pl) (d_fu m n row pl) (M 3 5 - 1) M = some ((), M') ∧ _
  rw [(CD_n he ha h).1]
  exact c_s21C he ha hpl n N row bk M h (by omega) (by omega)
def fo3 (N f : Nat) (x1 x2 x3 : Int32) (p5 : Unit × nM) : Option (Unit × nM) := fX12_fallsOut_14 N f x1 x2 (x3 + (-1 : Int32)) p5.2
def fo2 (N f : Nat) (x1 x2 x3 : Int32) (M3 : nM) : Option (Unit × nM) := n_chk (n_ib 100 ((60 : Int32) + x3)) ((fX12_notes (4 : Int32) x3 x2 (n_up M3 108 ((60 : Int32) + x3).toNatClampNeg (1 : Int32))).bind (fo3 N f x1 x2 x3))
def fo1 (N f : Nat) (x1 x2 x3 : Int32) (v : Int32) (p2 : Int32 × nM) : Option (Unit × nM) := if v ≤ p2.1 then some ((), p2.2) else n_chk (n_ib 100 ((28 : Int32) + x3)) (if (p2.2 108 ((28 : Int32) + x3).toNatClampNeg) = x1 then n_chk (n_ib 100 ((28 : Int32) + x3)) (fo2 N f x1 x2 x3 (n_up p2.2 108 ((28 : Int32) + x3).toNatClampNeg x2)) else fX12_fallsOut_14 N f x1 x2 (x3 + (-1 : Int32)) p2.2)
theorem fo_eq (N f : Nat) (x1 x2 x3 : Int32) (M : nM) : fX12_fallsOut_14 N (f + 1) x1 x2 x3 M = if x3 < 0 then some ((), M) else (fX12_fullOf N x1 M).bind fun p1 => (fX12_roomOf x1 p1.2).bind (fo1 N f x1 x2 x3 p1.1) := rfl
theorem d_ko {row : Nat → Int32} {t pl : Nat} (h : ∃ k : Nat, k ≤ 150 ∧ row 2 = nI k) : ∃ k : Nat, k ≤ 150 ∧ d_o1 row t pl 2 = nI k := by
  unfold d_o1
  rw [upd_ne (by omega), upd_ne (by omega)]
  exact h
theorem c_f14M {G : nG} {M0 m : nM} {N n q pl : Nat} {ls : List lLn} {th : Bool} {f S : Nat → Int32} (hN : 1000 ≤ N) (he : EV G M0 m ls n q) (hth : m 107 5 = cb th) (hpl : pl < 12) : ∀ (i g : Nat) (row bk : Nat → Int32), (∃ k : Nat, k ≤ 150 ∧ row 2 = nI k) → i ≤ n → i < g → fX12_fallsOut_14 N g (nI pl) (nI ((pl + 1) % 12)) (nI i - 1) (dM m row bk f S) = some ((), dM m (d_sp m n th pl i row bk).1 (d_sp m n th pl i row bk).2 f S) := by
  intro i
  have hn : n ≤ 16 ∧ q ≤ 12 := he.2.1.1
  have s5 : m 107 6 = nI n := he.2.1.2.2.1.1
  induction i with
  | zero =>
    intro g row bk hk hi hg
    obtain ⟨g, rfl⟩ : ∃ g', g = g' + 1 := ⟨g - 1, by omega⟩
    rw [fo_eq, if_pos (show nI 0 - 1 < (0 : Int32) by decide)]
    rfl
  | succ i ih =>
    intro g row bk hk hi hg
    obtain ⟨g, rfl⟩ : ∃ g', g = g' + 1 := ⟨g - 1, by omega⟩
    have e1 : nI (i + 1) - 1 = nI i := nI_pred i
    have e2 : nI i + (-1 : Int32) = nI i - 1 := (Int32.sub_eq_add_neg _ _).symm
    have a1 : (28 : Int32) + nI i = nI (28 + i) := nI_add 28 i
    have a2 : (60 : Int32) + nI i = nI (60 + i) := nI_add 60 i
    have i1 := n_ib_nI (show 28 + i < 100 by omega) (show 100 < 2 ^ 31 by decide)
    have i2 := n_ib_nI (show 60 + i < 100 by omega) (show 100 < 2 ^ 31 by decide)
    have hfull := e_fullOf_m (M := dM m row bk f S) (N := N) hN s5 hn.1 (nI pl)
    have hfull2 : fX12_fullOf N (nI pl) (dM m row bk f S) = some (d_fu m n row pl, dM m row bk f S) := hfull
    have hroom : fX12_roomOf (nI pl) (dM m row bk f S) = some (m 111 pl + 9, dM m row bk f S) := by
      unfold fX12_roomOf
      rw [n_ib_nI hpl (by decide), n_chk_t, nI_clamp (by omega), dM_ne (c := 111) (by decide) (by decide) (by decide) (by decide)]
    rw [e1, fo_eq, if_neg (nI_pos (by omega)), hfull2, Option.bind_some]
    show (fX12_roomOf (nI pl) (dM m row bk f S)).bind (fo1 N g (nI pl) (nI ((pl + 1) % 12)) (nI i) (d_fu m n row pl)) = _
    rw [hroom, Option.bind_some, fo1, a1, i1, n_chk_t, n_chk_t, nI_clamp (show 28 + i < 2 ^ 31 by omega), e2]
    unfold d_sp
    by_cases hc : d_fu m n row pl ≤ m 111 pl + 9
    · rw [if_pos hc, if_pos (show d_fu m n row pl ≤ (m 111 pl + 9, dM m row bk f S).1 from hc)]
    · rw [if_neg hc, if_neg (show ¬ d_fu m n row pl ≤ (m 111 pl + 9, dM m row bk f S).1 from hc)]
      show (if row (28 + i) = nI pl then fo2 N g (nI pl) (nI ((pl + 1) % 12)) (nI i) (n_up (dM m row bk f S) 108 (28 + i) (nI ((pl + 1) % 12))) else fX12_fallsOut_14 N g (nI pl) (nI ((pl + 1) % 12)) (nI i - 1) (dM m row bk f S)) = _
      by_cases hr : row (28 + i) = nI pl
      · rw [if_pos hr, if_pos hr, dM_u108, fo2, a2, i2, n_chk_t, nI_clamp (show 60 + i < 2 ^ 31 by omega), dM_u108]
        have hk1 := d_ko (t := i) (pl := pl) hk
        obtain ⟨k4, hk4a, hk4b⟩ := id hk1
        have e7 := c_ntM (m := m) (bk := bk) (f := f) (S := S) (x := 4) (y := nI i) (z := nI ((pl + 1) % 12)) hth hk4a hk4b
        have eo : upd (upd row (28 + i) (nI ((pl + 1) % 12))) (60 + i) 1 = d_o1 row i pl := rfl
        rw [eo, e7, Option.bind_some, fo3, e2]
        exact ih g _ _ (d_kn hk1) (by omega) (by omega)
      · rw [if_neg hr, if_neg hr]
        exact ih g row bk hk (by omega) (by omega)
theorem flo_eq (N : Nat) (x1 : Int32) (M : nM) : fX12_fallsOut N x1 M = if (12 : Int32) = 0 then none else fX12_fallsOut_14 N N x1 ((x1 + (1 : Int32)) - (x1 + (1 : Int32)) / (12 : Int32) * (12 : Int32)) ((M 107 6) - (1 : Int32)) M := rfl
theorem c_spM {G : nG} {M0 m : nM} {N n q pl : Nat} {ls : List lLn} {th : Bool} {row bk f S : Nat → Int32} (hN : 1000 ≤ N) (he : EV G M0 m ls n q) (hth : m 107 5 = cb th) (hk : ∃ k : Nat, k ≤ 150 ∧ row 2 = nI k) (hpl : pl < 12) : fX12_fallsOut N (nI pl) (dM m row bk f S) = some ((), dM m (d_sp m n th pl n row bk).1 (d_sp m n th pl n row bk).2 f S) := by
  have hn : n ≤ 16 ∧ q ≤ 12 := he.2.1.1
  have s5 : m 107 6 = nI n := he.2.1.2.2.1.1
  rw [flo_eq, if_neg (show ¬ (12 : Int32) = 0 by decide), nI_1, r_mod12 (by omega), dM_107, s5]
  exact c_f14M hN he hth hpl n N row bk hk (by omega) (by omega)
