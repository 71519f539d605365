/-! ===== doings, as pure steps on a row and the book ===== -/
/-- what doings don't change: the class's cells M0, the model's m -/
def EV (G : nG) (M0 m : nM) (ls : List lLn) (n q : Nat) : Prop := n_GOK G ∧ r_stock (M0 3 5) (M0 3 6) (M0 4) (M0 5) (M0 6) (M0 7) (M0 8) (m 107 6) (m 107 7) (m 111) (m 112) (m 113) (m 114) (m 115) n q ∧ l_inC (M0 16 6) (M0 17) (M0 18) (M0 19) (M0 20) (M0 21) ls ∧ l_inM (m 119 0) (m 120) (m 121) (m 122) (m 123) (m 124) (m 125) ls ∧ r_wm (M0 14 1) (M0 14 2) 4 150
/-- the class's cells in the course of doings on the Moving a: it stands for row, the book for bk -/
def CD (M0 M : nM) (a : Nat) (th : Bool) (row bk : Nat → Int32) (n q : Nat) : Prop := (∀ c, (c < a ∨ a + 4 < c) → c ≠ 15 → c ≠ 46 → c ≠ 47 → M c = M0 c) ∧ M a 0 = cb th ∧ r_mov (M a 5) (M a 6) (M a 7) (M a 8) (M a 9) (M a 10) (M a 11) (M (a + 1)) (M (a + 2)) (M (a + 3)) (M (a + 4)) row n q ∧ r_eq 600 (M 15) bk
/-- the model's cells in the course of doings -/
def dM (m : nM) (row bk f S : Nat → Int32) : nM := n_set (n_set (n_set (n_set m 108 row) 116 bk) 131 f) 132 S
theorem dM_ne {m : nM} {row bk f S : Nat → Int32} {c : Nat} (h1 : c ≠ 108) (h2 : c ≠ 116) (h3 : c ≠ 131) (h4 : c ≠ 132) : dM m row bk f S c = m c := by
  unfold dM
  rw [n_set_ne h4, n_set_ne h3, n_set_ne h2, n_set_ne h1]
theorem dM_108 {m : nM} {row bk f S : Nat → Int32} : dM m row bk f S 108 = row := rfl
theorem dM_116 {m : nM} {row bk f S : Nat → Int32} : dM m row bk f S 116 = bk := rfl
theorem dM_u108 {m : nM} {row bk f S : Nat → Int32} {k : Nat} {v : Int32} : n_up (dM m row bk f S) 108 k v = dM m (upd row k v) bk f S := by
  funext c
  by_cases h1 : c = 108
  · subst h1; rw [n_up_eq]; rfl
  · rw [n_up_ne h1]
    unfold dM
    by_cases h4 : c = 132
    · rw [h4, n_set_eq, n_set_eq]
    · rw [n_set_ne h4, n_set_ne h4]
      by_cases h3 : c = 131
      · rw [h3, n_set_eq, n_set_eq]
      · rw [n_set_ne h3, n_set_ne h3]
        by_cases h2 : c = 116
        · rw [h2, n_set_eq, n_set_eq]
        · rw [n_set_ne h2, n_set_ne h2, n_set_ne h1, n_set_ne h1]
theorem dM_u116 {m : nM} {row bk f S : Nat → Int32} {k : Nat} {v : Int32} : n_up (dM m row bk f S) 116 k v = dM m row (upd bk k v) f S := by
  funext c
  by_cases h1 : c = 116
  · subst h1; rw [n_up_eq]; rfl
  · rw [n_up_ne h1]
    unfold dM
    by_cases h4 : c = 132
    · rw [h4, n_set_eq, n_set_eq]
    · rw [n_set_ne h4, n_set_ne h4]
      by_cases h3 : c = 131
      · rw [h3, n_set_eq, n_set_eq]
      · rw [n_set_ne h3, n_set_ne h3, n_set_ne h1, n_set_ne h1]
theorem dM_set {m : nM} {row bk f S f2 S2 : Nat → Int32} : n_set (n_set (dM m row bk f S) 131 f2) 132 S2 = dM m row bk f2 S2 := by
  funext c
  unfold dM
  by_cases h4 : c = 132
  · rw [h4, n_set_eq, n_set_eq]
  · rw [n_set_ne h4, n_set_ne h4]
    by_cases h3 : c = 131
    · rw [h3, n_set_eq, n_set_eq]
    · rw [n_set_ne h3, n_set_ne h3, n_set_ne h4, n_set_ne h3]
theorem dM_self (M : nM) : M = dM M (M 108) (M 116) (M 131) (M 132) := by
  unfold dM
  rw [n_set_self (M := M) (a := 108) rfl, n_set_self (M := M) (a := 116) rfl, n_set_self (M := M) (a := 131) rfl, n_set_self (M := M) (a := 132) rfl]
/-! asking -/
def d_ask (m : nM) (ls : List lLn) (n : Nat) (row : Nat → Int32) (w p t pl : Nat) : Int32 := p_ask ls (p_F (m 114) (m 115) (m 112) (m 113) row n p t pl) w
theorem p_ask_b (ls : List lLn) (F : Nat → Int32) (w : Nat) : ∃ j : Nat, j ≤ 1000 ∧ p_ask ls F w = nI j := by
  unfold p_ask p_clamp
  by_cases h1 : (0 : Int32) ≤ p_tell ls F w
  · rw [if_pos h1]
    by_cases h2 : p_tell ls F w ≤ (if w = 1 then 99 else 1000)
    · rw [if_pos h2]
      refine nI_of2 (M := 1000) (by decide) (Int32.not_lt.mpr h1) (Int32.le_trans h2 ?_)
      split <;> decide
    · rw [if_neg h2]
      by_cases hw : w = 1
      · rw [if_pos hw]; exact ⟨99, by decide, rfl⟩
      · rw [if_neg hw]; exact ⟨1000, by decide, rfl⟩
  · rw [if_neg h1]; exact ⟨0, by decide, rfl⟩
theorem c_askC {G : nG} {M0 m M : nM} {N a n q w p t pl : Nat} {ls : List lLn} {th : Bool} {row bk : Nat → Int32} (hN : 1000 ≤ N) (he : EV G M0 m ls n q) (ha : a = 9 ∨ a = 93) (h : CD M0 M a th row bk n q) (hw : w < 3) (hp : p < 12) (ht : t < 16) (hpl : pl < 12) : ∃ M' : nM, fX0_asked N G a (nI w) (nI p) (nI t) (nI pl) M = some (d_ask m ls n row w p t pl, M') ∧ CD M0 M' a th row bk n q := by
  obtain ⟨hG, hs, hl, -, -⟩ := he
  obtain ⟨hf, h0, hm, hb⟩ := h
  have hMv : n_Mv G a := by rcases ha with rfl | rfl; exact n_Mv9 hG; exact n_Mv93 hG
  have e : ∀ c, c < 9 ∨ (16 ≤ c ∧ c ≤ 21) → M c = M0 c := fun c hc => hf c (by omega) (by omega) (by omega) (by omega)
  have hs2 : r_stock (M 3 5) (M 3 6) (M 4) (M 5) (M 6) (M 7) (M 8) (m 107 6) (m 107 7) (m 111) (m 112) (m 113) (m 114) (m 115) n q := by
    rw [e 3 (by decide), e 4 (by decide), e 5 (by decide), e 6 (by decide), e 7 (by decide), e 8 (by decide)]; exact hs
  have hl2 : l_inC (M 16 6) (M 17) (M 18) (M 19) (M 20) (M 21) ls := by
    rw [e 16 (by decide), e 17 (by decide), e 18 (by decide), e 19 (by decide), e 20 (by decide), e 21 (by decide)]; exact hl
  obtain ⟨f', S', ec⟩ := e_askC (N := N) hN hMv (by omega) hs2 hm hl2 hw hp ht hpl
  refine ⟨_, ec, fun c g1 g2 g3 g4 => ?_, ?_, ?_, ?_⟩
  · rw [n_set_ne g4, n_set_ne g3]; exact hf c g1 g2 g3 g4
  · rw [n_set_ne (by omega), n_set_ne (by omega)]; exact h0
  · rw [n_set_ne (by omega), n_set_ne (by omega), n_set_ne (show a + 1 ≠ 47 by omega), n_set_ne (show a + 1 ≠ 46 by omega), n_set_ne (show a + 2 ≠ 47 by omega), n_set_ne (show a + 2 ≠ 46 by omega), n_set_ne (show a + 3 ≠ 47 by omega), n_set_ne (show a + 3 ≠ 46 by omega), n_set_ne (show a + 4 ≠ 47 by omega), n_set_ne (show a + 4 ≠ 46 by omega)]; exact hm
  · rw [n_set_ne (by decide), n_set_ne (by decide)]; exact hb
theorem c_askM {G : nG} {M0 m : nM} {N n q w p t pl : Nat} {ls : List lLn} {row bk f S : Nat → Int32} (hN : 1000 ≤ N) (he : EV G M0 m ls n q) (hw : w < 3) (hp : p < 12) (ht : t < 16) (hpl : pl < 12) : ∃ f2 S2 : Nat → Int32, fX12_lawTells N (nI p) (nI t) (nI pl) (nI w) (if w = 1 then 99 else 1000) (dM m row bk f S) = some (d_ask m ls n row w p t pl, dM m row bk f2 S2) := by
  obtain ⟨hG, hs, -, hl, -⟩ := he
  obtain ⟨f2, S2, em⟩ := e_askM (N := N) (M := dM m row bk f S) (n := n) (w := w) hN hs.2.2.1.1 hs.1.1 hl hw hp ht hpl
  rw [dM_set] at em
  exact ⟨f2, S2, em⟩
/-! draws -/
def d_dr (s : Int32) : Int32 := (s.toUInt32 >>> ((8 : Int32).toUInt32 &&& Int32.toUInt32 31)).toInt32 - (s.toUInt32 >>> ((8 : Int32).toUInt32 &&& Int32.toUInt32 31)).toInt32 / (1000 : Int32) * (1000 : Int32)
def d_cb (th : Bool) (j : Nat) (row : Nat → Int32) : Bool := if th = true then decide (500 ≤ j) else !decide (nI j ≤ d_dr (row 1 * (1664525 : Int32) + (1013904223 : Int32)))
def d_cr (th : Bool) (row : Nat → Int32) : Nat → Int32 := if th = true then row else upd row 1 (row 1 * (1664525 : Int32) + (1013904223 : Int32))
theorem c_cmC {G : nG} {M0 m M : nM} {a n q j : Nat} {ls : List lLn} {th : Bool} {row bk : Nat → Int32} (he : EV G M0 m ls n q) (ha : a = 9 ∨ a = 93) (h : CD M0 M a th row bk n q) (hj : j ≤ 1000) : ∃ M' : nM, fX0_comesToPass G a (nI j) M = some (cb (d_cb th j row), M') ∧ CD M0 M' a th (d_cr th row) bk n q := by
  obtain ⟨hG, -⟩ := he
  obtain ⟨hf, h0, hm, hb⟩ := id h
  have hMv : n_Mv G a := by rcases ha with rfl | rfl; exact n_Mv9 hG; exact n_Mv93 hG
  have hk : Nat.beq (n_kd G a) 4 = true := by rw [hMv.1]; rfl
  have hd := hm.2.2.2.2.2.2.2.2.2.1
  unfold fX0_comesToPass d_cb d_cr
  rw [hk, n_chk_t, h0]
  cases th with
  | true =>
    refine ⟨M, ?_, h⟩
    rw [if_neg (show ¬ cb true = (0 : Int32) by decide), if_pos rfl]
    by_cases h5 : 500 ≤ j
    · rw [if_neg (show ¬ nI j < (500 : Int32) from nI_nlt (b := 500) h5 (by omega)), decide_eq_true h5]
      rfl
    · rw [if_pos (show nI j < (500 : Int32) from nI_lt (b := 500) (by omega) (by decide)), decide_eq_false h5]
      rfl
  | false =>
    rw [if_pos (show cb false = (0 : Int32) from rfl), n_chk_t, n_chk_t, if_neg (show ¬ false = true by decide), if_neg (show ¬ false = true by decide)]
    refine ⟨n_up M a 10 (row 1 * (1664525 : Int32) + (1013904223 : Int32)), ?_, ?_⟩
    · show n_chk true (if (1000 : Int32) = 0 then none else if nI j ≤ d_dr (n_up M a 10 ((M a 10) * (1664525 : Int32) + (1013904223 : Int32)) a 10) then some ((0 : Int32), n_up M a 10 ((M a 10) * (1664525 : Int32) + (1013904223 : Int32))) else some (1, n_up M a 10 ((M a 10) * (1664525 : Int32) + (1013904223 : Int32)))) = _
      rw [n_chk_t, if_neg (show ¬ (1000 : Int32) = 0 by decide), n_up_eq, upd_eq, hd]
      by_cases hc : nI j ≤ d_dr (row 1 * (1664525 : Int32) + (1013904223 : Int32))
      · rw [if_pos hc, decide_eq_true hc]; rfl
      · rw [if_neg hc, decide_eq_false hc]; rfl
    · refine ⟨fun c g1 g2 g3 g4 => ?_, ?_, ?_, ?_⟩
      · rw [n_up_ne (by omega)]; exact hf c g1 g2 g3 g4
      · rw [n_up_eq, upd_ne (by decide)]; exact h0
      · rw [n_up_eq, upd_ne (show (5 : Nat) ≠ 10 by decide), upd_ne (show (6 : Nat) ≠ 10 by decide), upd_ne (show (7 : Nat) ≠ 10 by decide), upd_ne (show (8 : Nat) ≠ 10 by decide), upd_ne (show (9 : Nat) ≠ 10 by decide), upd_eq, upd_ne (show (11 : Nat) ≠ 10 by decide), n_up_ne (show a + 1 ≠ a by omega), n_up_ne (show a + 2 ≠ a by omega), n_up_ne (show a + 3 ≠ a by omega), n_up_ne (show a + 4 ≠ a by omega)]
        exact r_mov_draws hm
      · rw [n_up_ne (by omega)]; exact hb
theorem c_cmM {m : nM} {j : Nat} {th : Bool} {row bk f S : Nat → Int32} (hth : m 107 5 = cb th) (hj : j ≤ 1000) : fX12_comes (nI j) (dM m row bk f S) = some (cb (d_cb th j row), dM m (d_cr th row) bk f S) := by
  unfold fX12_comes fX12_draw d_cb d_cr
  rw [dM_ne (c := 107) (by decide) (by decide) (by decide) (by decide), hth]
  cases th with
  | true =>
    rw [if_neg (show ¬ cb true = (0 : Int32) by decide), if_pos rfl, if_pos rfl]
    have e2 : (2 : Int32) * nI j = nI (2 * j) := pk_mul 2 j
    rw [e2]
    by_cases h5 : 500 ≤ j
    · rw [if_neg (show ¬ nI (2 * j) < (1000 : Int32) from nI_nlt (b := 1000) (by omega) (by omega)), decide_eq_true h5]
      rfl
    · rw [if_pos (show nI (2 * j) < (1000 : Int32) from nI_lt (b := 1000) (by omega) (by decide)), decide_eq_false h5]
      rfl
  | false =>
    rw [if_pos (show cb false = (0 : Int32) from rfl), show n_ib 100 (1 : Int32) = true from rfl, n_chk_t, n_chk_t, k1, if_neg (show ¬ false = true by decide), if_neg (show ¬ false = true by decide), dM_108, dM_u108, Int32.mul_comm (1664525 : Int32) (row 1)]
    show (n_chk true (if (1000 : Int32) = 0 then none else some (d_dr (dM m (upd row 1 (row 1 * (1664525 : Int32) + (1013904223 : Int32))) bk f S 108 1), dM m (upd row 1 (row 1 * (1664525 : Int32) + (1013904223 : Int32))) bk f S))).bind _ = _
    rw [n_chk_t, if_neg (show ¬ (1000 : Int32) = 0 by decide), Option.bind_some, dM_108, upd_eq]
    show (if nI j ≤ d_dr (row 1 * (1664525 : Int32) + (1013904223 : Int32)) then some ((0 : Int32), dM m (upd row 1 (row 1 * (1664525 : Int32) + (1013904223 : Int32))) bk f S) else some (1, dM m (upd row 1 (row 1 * (1664525 : Int32) + (1013904223 : Int32))) bk f S)) = _
    by_cases hc : nI j ≤ d_dr (row 1 * (1664525 : Int32) + (1013904223 : Int32))
    · rw [if_pos hc, decide_eq_true hc]; rfl
    · rw [if_neg hc, decide_eq_false hc]; rfl
