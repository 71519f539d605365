/-! ===== act and undo whole ===== -/
theorem st_act {G : nG} {M : nM} {n q N : Nat} (hN : 1000 ≤ N) (hG : n_GOK G) (h : Rel G M n q) (x y : Int32) : Stq G (fX11_act G x y) (fX12_act N x y) M := by
  obtain ⟨⟨hst, hmv, hbk, hlw, hsp, hcu, hli, hsw, hpk, hbx, hky, hcl, hsh, hrw, hgf, hmi⟩, hpr, hrd, hck, hwd, him⟩ := id h
  obtain ⟨⟨s1, s2⟩, ⟨s3, s4⟩, ⟨s5, s6⟩, s7, s8, s9, s10, s11⟩ := id hst
  have s6' : n_up M 107 0 0 107 7 = nI q := s6
  have d20 : ((2 : Int32) = 0) = False := eq_false (by decide)
  have d21 : ((2 : Int32) = 1) = False := eq_false (by decide)
  have d02 : ((0 : Int32) = 2) = False := eq_false (by decide)
  have d03 : ((0 : Int32) = 3) = False := eq_false (by decide)
  have d12 : ((1 : Int32) = 2) = False := eq_false (by decide)
  have d13 : ((1 : Int32) = 3) = False := eq_false (by decide)
  have d30 : ((3 : Int32) = 0) = False := eq_false (by decide)
  have d31 : ((3 : Int32) = 1) = False := eq_false (by decide)
  have d32 : ((3 : Int32) = 2) = False := eq_false (by decide)
  have l0 : ¬ (2 : Int32) ≤ 0 := by decide
  have l1 : ¬ (2 : Int32) ≤ 1 := by decide
  have l2 : (2 : Int32) ≤ 2 := by decide
  have l3 : (2 : Int32) ≤ 3 := by decide
  have r0 : ((0 : Int32) - 0 / 2 * 2 = 0) = True := eq_true (by decide)
  have r1 : ((1 : Int32) - 1 / 2 * 2 = 0) = False := eq_false (by decide)
  have r2 : ((2 : Int32) - 2 / 2 * 2 = 0) = True := eq_true (by decide)
  have r3 : ((3 : Int32) - 3 / 2 * 2 = 0) = False := eq_false (by decide)
  unfold Stq fX11_act fX11_act_17 fX11_act_22 fX11_act_34 fX11_act_39 fX11_act_57 fX11_act_75 fX11_act_84 fX11_act_89 fX12_act fX12_act_41 fX12_act_52
  by_cases h0 : x = 0
  · subst h0
    have w0 : wi (0 : Int32) 0 3 = true := by decide
    cases hw : wn y q with
    | false =>
      simp only [e_hasPerson s4, e_isIn, w0, e_isPerson s6', hw, l0, d20, d21, d02, d03, d12, d13, d30, d31, d32, Bool.not_true, Bool.not_false, wp_bind, wp_some, wp_chk, ↓reduceIte, not_true_eq_false, not_false_eq_true, z10, z01, zm0, z0m, zm1, z1m, true_and, and_true, cb_t, cb_f, cb0, cb1, eq_self, Bool.false_eq_true, Bool.true_eq_false, reduceCtorEq]
      exact ⟨n, q, h⟩
    | true =>
      obtain ⟨v, hv, rfl⟩ := wn_t (by omega) hw
      have t := act_tail hN hG h false true hv
      have a4 : (76 : Int32) + nI v = nI (76 + v) := nI_add 76 v
      simp only [e_hasPerson s4, e_isIn, w0, hw, l0, r0, a4, d20, d21, d02, d03, d12, d13, d30, d31, d32, Bool.not_true, Bool.not_false, wp_bind, wp_some, wp_chk, ↓reduceIte, not_true_eq_false, not_false_eq_true, z10, z01, zm0, z0m, zm1, z1m, true_and, and_true, cb_t, cb_f, cb0, cb1, eq_self, Bool.false_eq_true, Bool.true_eq_false, reduceCtorEq] at t ⊢
      refine wp_mono t (fun a M1 t2 => ?_)
      have s6'' : n_up M1 107 0 0 107 7 = nI q := by rw [n_up_eq, upd_ne (by decide), t2.1]; exact s6
      simp only [e_isPerson s6'', hw, wp_bind, wp_some, wp_chk, ↓reduceIte, not_true_eq_false, not_false_eq_true, z10, z01, zm0, z0m, zm1, z1m, true_and, and_true, cb_t, cb_f, cb0, cb1, eq_self, Bool.false_eq_true, Bool.true_eq_false, reduceCtorEq]
      exact t2.2
  by_cases h1 : x = 1
  · subst h1
    have w0 : wi (1 : Int32) 0 3 = true := by decide
    cases hw : wn y q with
    | false =>
      simp only [e_hasPerson s4, e_isIn, w0, e_isPerson s6', hw, l1, d20, d21, d02, d03, d12, d13, d30, d31, d32, Bool.not_true, Bool.not_false, wp_bind, wp_some, wp_chk, ↓reduceIte, not_true_eq_false, not_false_eq_true, z10, z01, zm0, z0m, zm1, z1m, true_and, and_true, cb_t, cb_f, cb0, cb1, eq_self, Bool.false_eq_true, Bool.true_eq_false, reduceCtorEq]
      exact ⟨n, q, h⟩
    | true =>
      obtain ⟨v, hv, rfl⟩ := wn_t (by omega) hw
      have t := act_tail hN hG h false false hv
      have a4 : (76 : Int32) + nI v = nI (76 + v) := nI_add 76 v
      simp only [e_hasPerson s4, e_isIn, w0, hw, l1, r1, a4, d20, d21, d02, d03, d12, d13, d30, d31, d32, Bool.not_true, Bool.not_false, wp_bind, wp_some, wp_chk, ↓reduceIte, not_true_eq_false, not_false_eq_true, z10, z01, zm0, z0m, zm1, z1m, true_and, and_true, cb_t, cb_f, cb0, cb1, eq_self, Bool.false_eq_true, Bool.true_eq_false, reduceCtorEq] at t ⊢
      refine wp_mono t (fun a M1 t2 => ?_)
      have s6'' : n_up M1 107 0 0 107 7 = nI q := by rw [n_up_eq, upd_ne (by decide), t2.1]; exact s6
      simp only [e_isPerson s6'', hw, wp_bind, wp_some, wp_chk, ↓reduceIte, not_true_eq_false, not_false_eq_true, z10, z01, zm0, z0m, zm1, z1m, true_and, and_true, cb_t, cb_f, cb0, cb1, eq_self, Bool.false_eq_true, Bool.true_eq_false, reduceCtorEq]
      exact t2.2
  by_cases h2 : x = 2
  · subst h2
    have w0 : wi (2 : Int32) 0 3 = true := by decide
    cases hw : wn y 12 with
    | false =>
      simp only [e_hasPlace, e_isIn, w0, e_isPlace, hw, l2, d20, d21, d02, d03, d12, d13, d30, d31, d32, Bool.not_true, Bool.not_false, wp_bind, wp_some, wp_chk, ↓reduceIte, not_true_eq_false, not_false_eq_true, z10, z01, zm0, z0m, zm1, z1m, true_and, and_true, cb_t, cb_f, cb0, cb1, eq_self, Bool.false_eq_true, Bool.true_eq_false, reduceCtorEq]
      exact ⟨n, q, h⟩
    | true =>
      obtain ⟨v, hv, rfl⟩ := wn_t (by omega) hw
      have t := act_tail hN hG h true true hv
      have a4 : (4 : Int32) + nI v = nI (4 + v) := nI_add 4 v
      simp only [e_hasPlace, e_isIn, w0, hw, l2, r2, a4, d20, d21, d02, d03, d12, d13, d30, d31, d32, Bool.not_true, Bool.not_false, wp_bind, wp_some, wp_chk, ↓reduceIte, not_true_eq_false, not_false_eq_true, z10, z01, zm0, z0m, zm1, z1m, true_and, and_true, cb_t, cb_f, cb0, cb1, eq_self, Bool.false_eq_true, Bool.true_eq_false, reduceCtorEq] at t ⊢
      refine wp_mono t (fun a M1 t2 => ?_)
      have s6'' : n_up M1 107 0 0 107 7 = nI q := by rw [n_up_eq, upd_ne (by decide), t2.1]; exact s6
      simp only [e_isPlace, hw, wp_bind, wp_some, wp_chk, ↓reduceIte, not_true_eq_false, not_false_eq_true, z10, z01, zm0, z0m, zm1, z1m, true_and, and_true, cb_t, cb_f, cb0, cb1, eq_self, Bool.false_eq_true, Bool.true_eq_false, reduceCtorEq]
      exact t2.2
  by_cases h3 : x = 3
  · subst h3
    have w0 : wi (3 : Int32) 0 3 = true := by decide
    cases hw : wn y 12 with
    | false =>
      simp only [e_hasPlace, e_isIn, w0, e_isPlace, hw, l3, d20, d21, d02, d03, d12, d13, d30, d31, d32, Bool.not_true, Bool.not_false, wp_bind, wp_some, wp_chk, ↓reduceIte, not_true_eq_false, not_false_eq_true, z10, z01, zm0, z0m, zm1, z1m, true_and, and_true, cb_t, cb_f, cb0, cb1, eq_self, Bool.false_eq_true, Bool.true_eq_false, reduceCtorEq]
      exact ⟨n, q, h⟩
    | true =>
      obtain ⟨v, hv, rfl⟩ := wn_t (by omega) hw
      have t := act_tail hN hG h true false hv
      have a4 : (4 : Int32) + nI v = nI (4 + v) := nI_add 4 v
      simp only [e_hasPlace, e_isIn, w0, hw, l3, r3, a4, d20, d21, d02, d03, d12, d13, d30, d31, d32, Bool.not_true, Bool.not_false, wp_bind, wp_some, wp_chk, ↓reduceIte, not_true_eq_false, not_false_eq_true, z10, z01, zm0, z0m, zm1, z1m, true_and, and_true, cb_t, cb_f, cb0, cb1, eq_self, Bool.false_eq_true, Bool.true_eq_false, reduceCtorEq] at t ⊢
      refine wp_mono t (fun a M1 t2 => ?_)
      have s6'' : n_up M1 107 0 0 107 7 = nI q := by rw [n_up_eq, upd_ne (by decide), t2.1]; exact s6
      simp only [e_isPlace, hw, wp_bind, wp_some, wp_chk, ↓reduceIte, not_true_eq_false, not_false_eq_true, z10, z01, zm0, z0m, zm1, z1m, true_and, and_true, cb_t, cb_f, cb0, cb1, eq_self, Bool.false_eq_true, Bool.true_eq_false, reduceCtorEq]
      exact t2.2
  · have w0 : wi x 0 3 = false := by
      cases hc : wi x 0 3 with
      | false => rfl
      | true =>
        exfalso
        obtain ⟨j, hj, rfl⟩ := wi_nI (n := 3) (by decide) hc
        rcases (show j = 0 ∨ j = 1 ∨ j = 2 ∨ j = 3 by omega) with rfl | rfl | rfl | rfl
        · exact h0 rfl
        · exact h1 rfl
        · exact h2 rfl
        · exact h3 rfl
    simp only [h0, h1, h2, h3, e_isIn, w0, wp_bind, wp_some, wp_chk, ↓reduceIte, not_true_eq_false, not_false_eq_true, z10, z01, zm0, z0m, zm1, z1m, true_and, and_true, cb_t, cb_f, cb0, cb1, eq_self, Bool.false_eq_true, Bool.true_eq_false, reduceCtorEq]
    exact ⟨n, q, h⟩
theorem e_undo26 {N k : Nat} (hk : k < 6) : ∀ (d j f : Nat) (M : nM), j + d = 100 → d < f → M 107 3 = nI k → fX12_undo_26 N f (nI j) M = some (1, n_set M 108 (fun z => if j ≤ z ∧ z < 100 then M 109 (100 * k + z) else M 108 z)) := by
  intro d
  induction d with
  | zero =>
    intro j f M hj hf hM
    obtain ⟨f, rfl⟩ : ∃ g, f = g + 1 := ⟨f - 1, by omega⟩
    unfold fX12_undo_26
    rw [if_pos (show (100 : Int32) ≤ nI j from nI_le (a := 100) (by omega) (by omega))]
    rw [n_set_self]
    funext z
    rw [if_neg (by omega)]
  | succ d ih =>
    intro j f M hj hf hM
    obtain ⟨f, rfl⟩ : ∃ g, f = g + 1 := ⟨f - 1, by omega⟩
    have e1 : (100 : Int32) * nI k + nI j = nI (100 * k + j) := by rw [show (100 : Int32) = nI 100 from rfl, pk_mul, nI_add]
    unfold fX12_undo_26
    rw [if_neg (show ¬ (100 : Int32) ≤ nI j from nI_ge (b := 100) (by omega) (by omega)), hM, e1]
    simp only [n_ib_nI (show j < 100 by omega) (show 100 < 2 ^ 31 by decide), n_ib_nI (show 100 * k + j < 600 by omega) (show 600 < 2 ^ 31 by decide), n_chk, nI_clamp (show j < 2 ^ 31 by omega), nI_clamp (show 100 * k + j < 2 ^ 31 by omega), nI_1]
    rw [ih (j + 1) f _ (by omega) (by omega) (by rw [n_up_ne (by decide)]; exact hM), n_set_up]
    congr 3
    funext z
    rw [n_up_eq, n_up_ne (show (109 : Nat) ≠ 108 by decide)]
    by_cases h : z = j
    · subst h
      rw [upd_eq, if_neg (by omega), if_pos (by omega)]
    · rw [upd_ne h]
      by_cases h2 : j + 1 ≤ z ∧ z < 100
      · rw [if_pos h2, if_pos (by omega)]
      · rw [if_neg h2, if_neg (by omega)]
theorem n_in49 {G : nG} {x : Nat} (hG : n_GOK G) (hx : x < 6) : n_in G 15 49 (nI x) = true := by
  unfold n_in
  rw [gk49 hG, gl49 hG, nI_clamp (by omega)]
  have h1 : ¬ nI x < 0 := nI_pos (by omega)
  have h2 : Nat.blt x 6 = true := Nat.ble_eq_true_of_le hx
  rw [h2]
  simp [h1]
theorem st_undo {G : nG} {M : nM} {n q N : Nat} (hN : 1000 ≤ N) (hG : n_GOK G) (h : Rel G M n q) : Stq G (fX11_undo G) (fX12_undo N) M := by
  obtain ⟨⟨hst, hmv, hbk, hlw, hsp, hcu, hli, hsw, hpk, hbx, hky, hcl, hsh, hrw, hgf, hmi⟩, hpr, hrd, hck, hwd, him⟩ := id h
  obtain ⟨k, x, p1, p2, p3, p4, p5, p6⟩ := id hpr
  have b1 : ((1 : Int32) == 0 || (1 : Int32) == 1) = true := by decide
  have b0 : ((0 : Int32) == 0 || (0 : Int32) == 1) = true := by decide
  unfold Stq fX11_undo fX5_goBack fX12_undo
  by_cases hk : k = 0
  · subst hk
    have e5 : n_up M 107 0 0 107 3 = nI 0 := p5
    have z0 : (nI 0 = (0 : Int32)) = True := eq_true rfl
    simp only [p3, e5, z0, b0, wp_bind, wp_some, wp_chk, ↓reduceIte, not_true_eq_false, not_false_eq_true, z10, z01, zm0, z0m, zm1, z1m, true_and, and_true, cb_t, cb_f, cb0, cb1, eq_self, Bool.false_eq_true, Bool.true_eq_false, reduceCtorEq]
    exact ⟨n, q, h⟩
  · have z0 : ¬ nI k = (0 : Int32) := nI_ne0 (by omega) (by omega)
    have z6 : ¬ (6 : Int32) = 0 := by decide
    have a1 : nI x + (6 : Int32) - 1 = nI (x + 5) := by
      rw [show nI x + (6 : Int32) = nI (x + 5 + 1) from nI_add x 6, nI_pred]
    have a2 : nI (x + 5) - nI (x + 5) / (6 : Int32) * (6 : Int32) = nI ((x + 5) % 6) := pk_rem (d := 6) (by omega) (by decide) (by decide)
    have a3 : nI k - 1 = nI (k - 1) := by
      obtain ⟨k', rfl⟩ : ∃ k', k = k' + 1 := ⟨k - 1, by omega⟩
      rw [nI_pred]
      rfl
    obtain ⟨y, hy⟩ : ∃ y, y = (x + 5) % 6 := ⟨_, rfl⟩
    have hy6 : y < 6 := by omega
    obtain ⟨g1, g2⟩ := n_Mv5 hG hy6
    have i1 := n_in49 hG hy6
    have e48 : n_up M 48 1 (nI y) 48 2 = nI k := p3
    have e481 : n_up (n_up M 48 1 (nI y)) 48 2 (nI (k - 1)) 48 1 = nI y := rfl
    have hrow := p6 (k - 1) (by omega)
    rw [show (x + 6 - k + (k - 1)) % 6 = y by omega, p_mov_i hy6] at hrow
    simp only [p3, p4, z0, z6, a1, a2, ← hy, e48, a3, e481, i1, nI_clamp (show y < 2 ^ 31 by omega), g2, e_copyM (n_Mv9 hG) g1 (show 9 + 4 < 50 + 5 * y ∨ 50 + 5 * y + 4 < 9 by omega), b1, wp_bind, wp_some, wp_chk, ↓reduceIte, not_true_eq_false, not_false_eq_true, z10, z01, zm0, z0m, zm1, z1m, true_and, and_true, cb_t, cb_f, cb0, cb1, eq_self, Bool.false_eq_true, Bool.true_eq_false, reduceCtorEq]
    obtain ⟨M1, hM1⟩ : ∃ M1, M1 = n_up (n_up M 48 1 (nI y)) 48 2 (nI (k - 1)) := ⟨_, rfl⟩
    rw [← hM1]
    have f1 : ∀ c, c ≠ 48 → M1 c = M c := fun c hc => by rw [hM1, n_up_ne hc, n_up_ne hc]
    have f48 : M1 48 1 = nI y ∧ M1 48 2 = nI (k - 1) := by rw [hM1]; exact ⟨rfl, rfl⟩
    have c1 : ∀ c, c < 9 ∨ 13 < c → c ≠ 48 → cpM M1 9 (50 + 5 * y) c = M c := fun c g g' => by rw [cpM_ne (by omega), f1 c g']
    have e3 : n_up (cpM M1 9 (50 + 5 * y)) 107 0 0 107 3 = nI k := by
      rw [n_up_eq, upd_ne (by decide), c1 107 (by decide) (by decide)]
      exact p5
    rw [e3, if_pos z0]
    simp only [a3]
    rw [show (0 : Int32) = nI 0 from rfl, e_undo26 (k := k - 1) (by omega) 100 0 N _ (by omega) (by omega) (by rw [n_up_eq, upd_eq])]
    simp only [wp_some]
    refine ⟨by first | trivial | rfl, n, q, ?_⟩
    have hmov : r_mov (M1 (50 + 5 * y) 5) (M1 (50 + 5 * y) 6) (M1 (50 + 5 * y) 7) (M1 (50 + 5 * y) 8) (M1 (50 + 5 * y) 9) (M1 (50 + 5 * y) 10) (M1 (50 + 5 * y) 11) (M1 (50 + 5 * y + 1)) (M1 (50 + 5 * y + 2)) (M1 (50 + 5 * y + 3)) (M1 (50 + 5 * y + 4)) (fun z => if 0 ≤ z ∧ z < 100 then M 109 (100 * (k - 1) + z) else M 108 z) n q := by
      rw [f1 _ (by omega), f1 (50 + 5 * y + 1) (by omega), f1 (50 + 5 * y + 2) (by omega), f1 (50 + 5 * y + 3) (by omega), f1 (50 + 5 * y + 4) (by omega)]
      exact r_mov_row hrow (fun t ht => by rw [if_pos (by omega)])
    have hcp := r_mov_cpM (a := 9) (b := 50 + 5 * y) (by omega) hmov
    obtain ⟨M2, hM2⟩ : ∃ M2, M2 = n_up (n_up (cpM M1 9 (50 + 5 * y)) 107 0 (nI 0)) 107 3 (nI (k - 1)) := ⟨_, rfl⟩
    have g0 : M2 108 = M 108 ∧ M2 109 = M 109 := by
      rw [hM2, n_up_ne (by decide), n_up_ne (by decide), n_up_ne (by decide), n_up_ne (by decide)]
      exact ⟨c1 108 (by decide) (by decide), c1 109 (by decide) (by decide)⟩
    have g3 : M2 107 3 = nI (k - 1) := by rw [hM2, n_up_eq, upd_eq]
    have g4 : ∀ t, t ≠ 0 → t ≠ 3 → M2 107 t = M 107 t := fun t h1 h2 => by rw [hM2, n_up_eq, upd_ne h2, n_up_eq, upd_ne h1, c1 107 (by decide) (by decide)]
    have g5 : ∀ c, c ≠ 107 → M2 c = cpM M1 9 (50 + 5 * y) c := fun c hc => by rw [hM2, n_up_ne hc, n_up_ne hc]
    rw [← hM2]
    rw [g0.1, g0.2]
    obtain ⟨M3, hM3⟩ : ∃ M3, M3 = n_set M2 108 (fun z => if 0 ≤ z ∧ z < 100 then M 109 (100 * (k - 1) + z) else M 108 z) := ⟨_, rfl⟩
    rw [← hM3]
    have k0 : ∀ c, c ≠ 107 → c ≠ 108 → M3 c = cpM M1 9 (50 + 5 * y) c := fun c h1 h2 => by rw [hM3, n_set_ne h2, g5 c h1]
    have k7 : M3 107 = M2 107 := by rw [hM3, n_set_ne (by decide)]
    have k8 : M3 108 = (fun z => if 0 ≤ z ∧ z < 100 then M 109 (100 * (k - 1) + z) else M 108 z) := by rw [hM3, n_set_eq]
    have k1 : ∀ c, c < 9 ∨ 13 < c → c ≠ 48 → c ≠ 107 → c ≠ 108 → M3 c = M c := fun c h1 h2 h3 h4 => by rw [k0 c h3 h4, c1 c h1 h2]
    refine Rel_mov h (fun c hc => ?_) (fun t ht => ?_) ?_ ?_ ?_ ?_ ?_ ?_
    · obtain ⟨q1, q2, q3, q4, q5, q6, q7, q8, q9, q10, q11, -⟩ := mvc_out hc
      exact k1 c (by omega) (by omega) q9 q10
    · rw [k7]
      refine g4 t (fun e => ?_) (fun e => ?_)
      · subst e; exact absurd ht (by decide)
      · subst e; exact absurd ht (by decide)
    · rw [k0 9 (by decide) (by decide), k0 10 (by decide) (by decide), k0 11 (by decide) (by decide), k0 12 (by decide) (by decide), k0 13 (by decide) (by decide), k8]
      exact hcp
    · rw [k1 15 (by decide) (by decide) (by decide) (by decide), k1 116 (by decide) (by decide) (by decide) (by decide)]
      exact hbk
    · refine ⟨k - 1, y, by omega, hy6, ?_, ?_, by rw [k7]; exact g3, fun j hj => ?_⟩
      · rw [k0 48 (by decide) (by decide), cpM_ne (by decide)]
        exact f48.2
      · rw [k0 48 (by decide) (by decide), cpM_ne (by decide)]
        exact f48.1
      · rw [show (y + 6 - (k - 1) + j) % 6 = (x + 6 - k + j) % 6 by omega]
        exact p_mov_c (by omega) (fun c q1 q2 => k1 c (by omega) (by omega) (by omega) (by omega)) (fun t ht => by rw [k1 109 (by decide) (by decide) (by decide) (by decide)]) (p6 j (by omega))
    · rw [k0 9 (by decide) (by decide), cpM_o]
      show (if 5 ≤ 0 ∧ 0 ≤ 11 then _ else M1 9 0) = 0
      rw [if_neg (by omega), f1 9 (by decide)]
      exact hck.1
    · rw [k1 93 (by decide) (by decide) (by decide) (by decide)]
      exact hck.2.1
    · rw [k7, g4 5 (by decide) (by decide)]
      exact hck.2.2.2.2.2.2.2.2.2.2.2.2.2.2
