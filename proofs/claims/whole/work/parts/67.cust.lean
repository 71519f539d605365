/-! ===== customs ===== -/
def d_cust (m : nM) (ls : List lLn) (n : Nat) (th : Bool) (k b c : Nat) (row bk : Nat → Int32) : (Nat → Int32) × (Nat → Int32) := match k with
  | 0 => (upd row (76 + b) (cb true), bk)
  | 1 => (upd row (76 + b) (cb false), bk)
  | 2 => (upd row (4 + b) (cb true), bk)
  | 3 => (upd row (4 + b) (cb false), bk)
  | _ => if row (76 + b) = 0 then (d_srch m ls n th b c row bk).2 else (row, bk)
theorem CD_tie {M0 M : nM} {a n q b : Nat} {th on : Bool} {row bk : Nat → Int32} (ha : a = 9 ∨ a = 93) (h : CD M0 M a th row bk n q) (hb : b < q) (hq : q ≤ 12) : CD M0 (n_up M a 6 (sb (M a 6) b on)) a th (upd row (76 + b) (cb on)) bk n q := by
  obtain ⟨hf, h0, hm, hb2⟩ := h
  refine ⟨fun c g1 g2 g3 g4 => ?_, ?_, ?_, ?_⟩
  · rw [n_up_ne (by omega)]; exact hf c g1 g2 g3 g4
  · rw [n_up_eq, upd_ne (by decide)]; exact h0
  · rw [n_up_eq, upd_ne (show (5 : Nat) ≠ 6 by decide), upd_eq, upd_ne (show (7 : Nat) ≠ 6 by decide), upd_ne (show (8 : Nat) ≠ 6 by decide), upd_ne (show (9 : Nat) ≠ 6 by decide), upd_ne (show (10 : Nat) ≠ 6 by decide), upd_ne (show (11 : Nat) ≠ 6 by decide), n_up_ne (show a + 1 ≠ a by omega), n_up_ne (show a + 2 ≠ a by omega), n_up_ne (show a + 3 ≠ a by omega), n_up_ne (show a + 4 ≠ a by omega)]
    exact r_mov_tied (on := on) (by omega) hb hm
  · rw [n_up_ne (by omega)]; exact hb2
theorem CD_lock {M0 M : nM} {a n q b : Nat} {th on : Bool} {row bk : Nat → Int32} (ha : a = 9 ∨ a = 93) (h : CD M0 M a th row bk n q) (hb : b < 12) : CD M0 (n_up M a 7 (sb (M a 7) b on)) a th (upd row (4 + b) (cb on)) bk n q := by
  obtain ⟨hf, h0, hm, hb2⟩ := h
  refine ⟨fun c g1 g2 g3 g4 => ?_, ?_, ?_, ?_⟩
  · rw [n_up_ne (by omega)]; exact hf c g1 g2 g3 g4
  · rw [n_up_eq, upd_ne (by decide)]; exact h0
  · rw [n_up_eq, upd_ne (show (5 : Nat) ≠ 7 by decide), upd_ne (show (6 : Nat) ≠ 7 by decide), upd_eq, upd_ne (show (8 : Nat) ≠ 7 by decide), upd_ne (show (9 : Nat) ≠ 7 by decide), upd_ne (show (10 : Nat) ≠ 7 by decide), upd_ne (show (11 : Nat) ≠ 7 by decide), n_up_ne (show a + 1 ≠ a by omega), n_up_ne (show a + 2 ≠ a by omega), n_up_ne (show a + 3 ≠ a by omega), n_up_ne (show a + 4 ≠ a by omega)]
    exact r_mov_locked (on := on) hb hm
  · rw [n_up_ne (by omega)]; exact hb2
theorem d_cs_n {q b c : Nat} {row : Nat → Int32} (hb : b < q) (hq : q ≤ 12) (hc : c < 12) : d_cs q row (nI b) (nI c) = (if row (76 + b) = 0 then true else false) := by
  unfold d_cs
  rw [if_pos (wn_nI hb (by omega)), if_pos (wn_nI hc (by omega)), nI_clamp (by omega)]
theorem c_cuC {G : nG} {M0 m M : nM} {N a n q k b c : Nat} {ls : List lLn} {th : Bool} {row bk : Nat → Int32} (hN : 1000 ≤ N) (he : EV G M0 m ls n q) (ha : a = 9 ∨ a = 93) (h : CD M0 M a th row bk n q) (hk5 : k < 5) (hc : c < 12) (hb1 : k = 2 ∨ k = 3 → b < 12) (hb2 : ¬ (k = 2 ∨ k = 3) → b < q) : ∃ M' : nM, fX0_keepCustom N G a (nI k) (nI b) (nI c) M = some ((), M') ∧ CD M0 M' a th (d_cust m ls n th k b c row bk).1 (d_cust m ls n th k b c row bk).2 n q := by
  have hn : n ≤ 16 ∧ q ≤ 12 := he.2.1.1
  have hMv : n_Mv G a := by rcases ha with rfl | rfl; exact n_Mv9 he.1; exact n_Mv93 he.1
  have hk : Nat.beq (n_kd G a) 4 = true := by rw [hMv.1]; rfl
  have h47 : ∀ on : Bool, fX0_keepCustom_47 N G (cb on) (nI b) (M a 6) a M = some ((), n_up M a 6 (sb (M a 6) b on)) := fun on => by
    unfold fX0_keepCustom_47
    rw [e_withBit, Option.bind_some, hk, n_chk_t]
  have h72 : ∀ on : Bool, fX0_keepCustom_72 N G (cb on) (nI b) (M a 7) a M = some ((), n_up M a 7 (sb (M a 7) b on)) := fun on => by
    unfold fX0_keepCustom_72
    rw [e_withBit, Option.bind_some, hk, n_chk_t]
  have t1 := h47 true
  have t0 := h47 false
  have u1 := h72 true
  have u0 := h72 false
  unfold fX0_keepCustom
  rcases (show k = 0 ∨ k = 1 ∨ k = 2 ∨ k = 3 ∨ k = 4 by omega) with rfl | rfl | rfl | rfl | rfl
  · refine ⟨_, ?_, CD_tie (on := true) ha h (hb2 (by decide)) hn.2⟩
    rw [if_pos (show nI 0 = (0 : Int32) from rfl), hk, n_chk_t, if_neg (show ¬ ¬ nI 0 = (0 : Int32) from not_not_intro rfl)]
    exact t1
  · refine ⟨_, ?_, CD_tie (on := false) ha h (hb2 (by decide)) hn.2⟩
    rw [if_neg (show ¬ nI 1 = (0 : Int32) by decide), if_pos (show nI 1 = (1 : Int32) from rfl), hk, n_chk_t, if_pos (show ¬ nI 1 = (0 : Int32) by decide)]
    exact t0
  · refine ⟨_, ?_, CD_lock (on := true) ha h (hb1 (by decide))⟩
    rw [if_neg (show ¬ nI 2 = (0 : Int32) by decide), if_neg (show ¬ nI 2 = (1 : Int32) by decide), if_pos (show nI 2 = (2 : Int32) from rfl), hk, n_chk_t, if_neg (show ¬ ¬ nI 2 = (2 : Int32) from not_not_intro rfl)]
    exact u1
  · refine ⟨_, ?_, CD_lock (on := false) ha h (hb1 (by decide))⟩
    rw [if_neg (show ¬ nI 3 = (0 : Int32) by decide), if_neg (show ¬ nI 3 = (1 : Int32) by decide), if_neg (show ¬ nI 3 = (2 : Int32) by decide), if_pos (show nI 3 = (3 : Int32) from rfl), hk, n_chk_t, if_pos (show ¬ nI 3 = (2 : Int32) by decide)]
    exact u0
  · have hbq := hb2 (by decide)
    rw [if_neg (show ¬ nI 4 = (0 : Int32) by decide), if_neg (show ¬ nI 4 = (1 : Int32) by decide), if_neg (show ¬ nI 4 = (2 : Int32) by decide), if_neg (show ¬ nI 4 = (3 : Int32) by decide), c_csC he ha h, Option.bind_some, d_cs_n hbq hn.2 hc]
    unfold d_cust
    by_cases h0 : row (76 + b) = 0
    · obtain ⟨M', e1, h1⟩ := c_srC (pl := c) hN he ha h hbq hc
      refine ⟨M', ?_, ?_⟩
      · rw [if_pos h0, if_neg (show ¬ (cb true, M).1 = 0 from (by decide : ¬ cb true = (0 : Int32))), e1, Option.bind_some]
      · show CD M0 M' a th (if row (76 + b) = 0 then (d_srch m ls n th b c row bk).2 else (row, bk)).1 (if row (76 + b) = 0 then (d_srch m ls n th b c row bk).2 else (row, bk)).2 n q
        rw [if_pos h0]
        exact h1
    · refine ⟨M, ?_, ?_⟩
      · rw [if_neg h0, if_pos (show (cb false, M).1 = 0 from rfl)]
      · show CD M0 M a th (if row (76 + b) = 0 then (d_srch m ls n th b c row bk).2 else (row, bk)).1 (if row (76 + b) = 0 then (d_srch m ls n th b c row bk).2 else (row, bk)).2 n q
        rw [if_neg h0]
        exact h
theorem ds_eq (N : Nat) (x1 v1 v2 : Int32) (M : nM) (h1 : n_ib 128 (x1 + 1) = true) (h2 : n_ib 128 (x1 + 2) = true) (e1 : M 128 (x1 + 1).toNatClampNeg = v1) (e2 : M 128 (x1 + 2).toNatClampNeg = v2) : fX12_does N x1 M = if v1 = 0 then fX12_does_27 N x1 v1 v2 M else if ¬ v1 = (1 : Int32) then fX12_does_45 N x1 v1 v2 M else fX12_does_27 N x1 v1 v2 M := by
  subst e1
  subst e2
  unfold fX12_does
  rw [h1, h2, n_chk_t, n_chk_t]
theorem c_cuM {G : nG} {M0 m : nM} {N n q k b c i : Nat} {ls : List lLn} {th : Bool} {row bk f S : Nat → Int32} (hN : 1000 ≤ N) (he : EV G M0 m ls n q) (hth : m 107 5 = cb th) (hk : ∃ k : Nat, k ≤ 150 ∧ row 2 = nI k) (hi : i < 16) (hk5 : k < 5) (hc : c < 12) (hb1 : k = 2 ∨ k = 3 → b < 12) (hb2 : ¬ (k = 2 ∨ k = 3) → b < q) (v1 : m 128 (4 * i + 1) = nI k) (v2 : m 128 (4 * i + 2) = nI b) (v3 : m 128 (4 * i + 3) = nI c) : ∃ f2 S2 : Nat → Int32, fX12_does N (nI (4 * i)) (dM m row bk f S) = some ((), dM m (d_cust m ls n th k b c row bk).1 (d_cust m ls n th k b c row bk).2 f2 S2) := by
  have hn : n ≤ 16 ∧ q ≤ 12 := he.2.1.1
  have hbb : b < 12 := by
    by_cases z : k = 2 ∨ k = 3
    · exact hb1 z
    · have := hb2 z; omega
  have a1 : nI (4 * i) + (1 : Int32) = nI (4 * i + 1) := nI_1 _
  have a2 : nI (4 * i) + (2 : Int32) = nI (4 * i + 2) := nI_add _ 2
  have a3 : nI (4 * i) + (3 : Int32) = nI (4 * i + 3) := nI_add _ 3
  have i1 := n_ib_nI (show 4 * i + 1 < 128 by omega) (show 128 < 2 ^ 31 by decide)
  have i2 := n_ib_nI (show 4 * i + 2 < 128 by omega) (show 128 < 2 ^ 31 by decide)
  have i3 := n_ib_nI (show 4 * i + 3 < 128 by omega) (show 128 < 2 ^ 31 by decide)
  have d128 : dM m row bk f S 128 = m 128 := dM_ne (by decide) (by decide) (by decide) (by decide)
  have b1 : (76 : Int32) + nI b = nI (76 + b) := nI_add 76 b
  have b2 : (4 : Int32) + nI b = nI (4 + b) := nI_add 4 b
  have j1 := n_ib_nI (show 76 + b < 100 by omega) (show 100 < 2 ^ 31 by decide)
  have j2 := n_ib_nI (show 4 + b < 100 by omega) (show 100 < 2 ^ 31 by decide)
  rw [ds_eq N (nI (4 * i)) (nI k) (nI b) _ (by rw [a1]; exact i1) (by rw [a2]; exact i2) (by rw [a1, nI_clamp (by omega), d128]; exact v1) (by rw [a2, nI_clamp (by omega), d128]; exact v2)]
  unfold fX12_does_27 fX12_does_44 fX12_does_45 fX12_does_55 fX12_does_72 fX12_does_73
  rw [b1, b2, j1, j2]
  rcases (show k = 0 ∨ k = 1 ∨ k = 2 ∨ k = 3 ∨ k = 4 by omega) with rfl | rfl | rfl | rfl | rfl
  · refine ⟨f, S, ?_⟩
    simp only [show (nI 0 = (0 : Int32)) = True from eq_true rfl, show (nI 0 = (2 : Int32)) = False from eq_false (by decide), show (nI 0 = (3 : Int32)) = False from eq_false (by decide), show (nI 0 = (4 : Int32)) = False from eq_false (by decide), n_chk_t, nI_clamp (show 76 + b < 2 ^ 31 by omega), dM_u108, if_true, if_false, not_true_eq_false, not_false_eq_true]
    rfl
  · refine ⟨f, S, ?_⟩
    simp only [show (nI 1 = (0 : Int32)) = False from eq_false (by decide), show (nI 1 = (1 : Int32)) = True from eq_true rfl, show (nI 1 = (2 : Int32)) = False from eq_false (by decide), show (nI 1 = (3 : Int32)) = False from eq_false (by decide), show (nI 1 = (4 : Int32)) = False from eq_false (by decide), n_chk_t, nI_clamp (show 76 + b < 2 ^ 31 by omega), dM_u108, if_true, if_false, not_true_eq_false, not_false_eq_true]
    rfl
  · refine ⟨f, S, ?_⟩
    simp only [show (nI 2 = (0 : Int32)) = False from eq_false (by decide), show (nI 2 = (1 : Int32)) = False from eq_false (by decide), show (nI 2 = (2 : Int32)) = True from eq_true rfl, show (nI 2 = (4 : Int32)) = False from eq_false (by decide), n_chk_t, nI_clamp (show 4 + b < 2 ^ 31 by omega), dM_u108, if_true, if_false, not_true_eq_false, not_false_eq_true]
    rfl
  · refine ⟨f, S, ?_⟩
    simp only [show (nI 3 = (0 : Int32)) = False from eq_false (by decide), show (nI 3 = (1 : Int32)) = False from eq_false (by decide), show (nI 3 = (2 : Int32)) = False from eq_false (by decide), show (nI 3 = (3 : Int32)) = True from eq_true rfl, show (nI 3 = (4 : Int32)) = False from eq_false (by decide), n_chk_t, nI_clamp (show 4 + b < 2 ^ 31 by omega), dM_u108, if_true, if_false, not_true_eq_false, not_false_eq_true]
    rfl
  · simp only [show (nI 4 = (0 : Int32)) = False from eq_false (by decide), show (nI 4 = (1 : Int32)) = False from eq_false (by decide), show (nI 4 = (2 : Int32)) = False from eq_false (by decide), show (nI 4 = (3 : Int32)) = False from eq_false (by decide), show (nI 4 = (4 : Int32)) = True from eq_true rfl, n_chk_t, nI_clamp (show 76 + b < 2 ^ 31 by omega), if_true, if_false, not_true_eq_false, not_false_eq_true, dM_108, a3, i3, nI_clamp (show 4 * i + 3 < 2 ^ 31 by omega), d128, v3]
    unfold d_cust
    by_cases h0 : row (76 + b) = 0
    · obtain ⟨f2, S2, e1⟩ := c_srM (bk := bk) (f := f) (S := S) (pl := c) hN he hth hk (hb2 (by decide)) hc
      refine ⟨f2, S2, ?_⟩
      rw [if_neg (not_not_intro h0), e1, Option.bind_some]
      show _ = some ((), dM m (if row (76 + b) = 0 then (d_srch m ls n th b c row bk).2 else (row, bk)).1 (if row (76 + b) = 0 then (d_srch m ls n th b c row bk).2 else (row, bk)).2 f2 S2)
      rw [if_pos h0]
    · refine ⟨f, S, ?_⟩
      rw [if_pos h0]
      show _ = some ((), dM m (if row (76 + b) = 0 then (d_srch m ls n th b c row bk).2 else (row, bk)).1 (if row (76 + b) = 0 then (d_srch m ls n th b c row bk).2 else (row, bk)).2 f S)
      rw [if_neg h0]
/-! what falls out -/
def d_o1 (row : Nat → Int32) (t pl : Nat) : Nat → Int32 := upd (upd row (28 + t) (nI ((pl + 1) % 12))) (60 + t) (cb true)
def d_fu (m : nM) (n : Nat) (row : Nat → Int32) (pl : Nat) : Int32 := p_full n (fun k => row (28 + k)) (m 112) (nI pl)
def d_sp (m : nM) (n : Nat) (th : Bool) (pl : Nat) : Nat → (Nat → Int32) → (Nat → Int32) → (Nat → Int32) × (Nat → Int32)
  | 0, row, bk => (row, bk)
  | i + 1, row, bk => if d_fu m n row pl ≤ m 111 pl + 9 then (row, bk) else if row (28 + i) = nI pl then d_sp m n th pl i (d_nr th (d_o1 row i pl)) (d_nb th 4 (nI i) (nI ((pl + 1) % 12)) (d_o1 row i pl) bk) else d_sp m n th pl i row bk
theorem p_full_u {f g s : Nat → Int32} {p : Int32} {i : Nat} (hf : f i = p) (hg : g i ≠ p) (he : ∀ j, j ≠ i → g j = f j) : ∀ k, p_full k g s p = if i < k then p_full k f s p - s i else p_full k f s p
  | 0 => rfl
  | k + 1 => by
    rw [p_full_s, p_full_s, p_full_u hf hg he k]
    rcases Nat.lt_trichotomy i k with h | h | h
    · rw [if_pos h, if_pos (show i < k + 1 by omega), he k (by omega)]
      by_cases hk : f k = p
      · rw [if_pos hk, if_pos hk, Int32.sub_eq_add_neg, Int32.sub_eq_add_neg, Int32.add_assoc, Int32.add_assoc, Int32.add_comm (-s i)]
      · rw [if_neg hk, if_neg hk]
    · subst h
      rw [if_neg (show ¬ i < i by omega), if_pos (show i < i + 1 by omega), if_neg hg, if_pos hf, Int32.add_sub_cancel]
    · rw [if_neg (show ¬ i < k by omega), if_neg (show ¬ i < k + 1 by omega), he k (by omega)]
theorem d_fu1 {m : nM} {n t pl : Nat} {th : Bool} {row : Nat → Int32} (ht : t < n) (hn : n ≤ 16) (hpl : pl < 12) (hr : row (28 + t) = nI pl) : d_fu m n (d_nr th (d_o1 row t pl)) pl = d_fu m n row pl - m 112 t := by
  unfold d_fu
  have hne : nI ((pl + 1) % 12) ≠ nI pl := fun z => by
    have := (nI_eq (by omega) (by omega)).mp z
    omega
  have hv : ∀ k, (fun k => d_nr th (d_o1 row t pl) (28 + k)) k = if k = t then nI ((pl + 1) % 12) else if 28 + k = 60 + t then cb true else row (28 + k) := fun k => by
    show d_nr th (d_o1 row t pl) (28 + k) = _
    rw [d_nr_ne (by omega)]
    unfold d_o1 upd
    by_cases h1 : k = t
    · subst h1
      rw [if_neg (by omega), if_pos rfl, if_pos rfl]
    · rw [if_neg (show ¬ 28 + k = 28 + t by omega), if_neg h1]
  have hc := p_full_c (k := n) (f := fun k => d_nr th (d_o1 row t pl) (28 + k)) (g := fun k => if k = t then nI ((pl + 1) % 12) else row (28 + k)) (s := m 112) (t := m 112) (p := nI pl) (fun i hi => by
    refine (hv i).trans ?_
    by_cases h1 : i = t
    · rw [if_pos h1, if_pos h1]
    · rw [if_neg h1, if_neg h1, if_neg (by omega)]) (fun _ _ => rfl)
  rw [hc, p_full_u (f := fun k => row (28 + k)) (i := t) hr (by
    show (if t = t then nI ((pl + 1) % 12) else row (28 + t)) ≠ nI pl
    rw [if_pos rfl]; exact hne) (fun j hj => if_neg hj) n, if_pos ht]
