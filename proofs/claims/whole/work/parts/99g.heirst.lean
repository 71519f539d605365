/-! ===== heir, the step ===== -/
theorem st_heir {G : nG} {M : nM} {n q N : Nat} (hN : 20000000 ≤ N) (hG : n_GOK G) (h : Rel G M n q) (x : Int32) : Stq G (fX11_heir N G x) (fX12_heir N x) M := by
  refine Stq_mix fun D1 hD1 => ?_
  have hR := Rel_m0 h hD1
  obtain ⟨D0, hD0⟩ : ∃ D0, D0 = n_up D1 107 0 0 := ⟨_, rfl⟩
  rw [← hD0] at hR
  have hfr : ∀ c, c < 107 ∨ 151 < c → D0 c = D1 c := fun c hc => by rw [hD0]; exact n0_ne c hc
  have hN1 : 1000 ≤ N := by omega
  obtain ⟨⟨hst, hmv, hbk, hlw, hsp, hcu, hli, hsw, hpk, hbx, hky, hcl, hsh, hrw, hgf, hmi⟩, hpr, hrd, hck, hwd, him⟩ := id hR
  obtain ⟨⟨-, hq⟩, ⟨-, hp6⟩, ⟨-, hp7⟩, -⟩ := hst
  have hp6' : M 3 6 = nI q := hp6
  have h7 : D0 107 7 = nI q := hp7
  obtain ⟨ps, i1, i2, -, i4, i5, i6⟩ := hli
  have i2' : M 26 3 = nI ps.length := i2
  have i5' : ∀ c, c < 12 → ∀ t, bt (D0 129 c) t = true ↔ (c, t) ∈ ps := i5
  have hwm : r_wm (M 26 1) (M 26 2) 4 16 := hck.2.2.2.2.2.1
  have hps : ∀ i, i < ps.length → (ps.getD i (0, 0)).1 < q ∧ (ps.getD i (0, 0)).2 < q ∧ (ps.getD i (0, 0)).1 ≠ (ps.getD i (0, 0)).2 := fun i hi => by
    obtain ⟨-, -, g3, g4, g5⟩ := i4 i _ (ps_get2 hi)
    exact ⟨g3, g4, g5⟩
  have hmem : ∀ p : Nat × Nat, p ∈ ps → p.1 < q ∧ p.2 < q := fun p hp => by
    obtain ⟨i, hi⟩ := List.mem_iff_getElem?.mp hp
    obtain ⟨-, -, g3, g4, -⟩ := i4 i p hi
    exact ⟨g3, g4⟩
  have hcC : ∀ (M' : nM), M' 26 = M 26 → M' 27 = M 27 → ∀ i, i < ps.length → fX7_cell G 26 (nI i) (0 : Int32) M' = some (nI (ps.getD i (0, 0)).1, M') ∧ fX7_cell G 26 (nI i) (1 : Int32) M' = some (nI (ps.getD i (0, 0)).2, M') := fun M' e26 e27 i hi => by
    obtain ⟨g1, g2, -⟩ := i4 i _ (ps_get2 hi)
    have g1' : M 27 (4 * i) = nI (ps.getD i (0, 0)).1 := g1
    have g2' : M 27 (4 * i + 1) = nI (ps.getD i (0, 0)).2 := g2
    have a0 := e_cell (G := G) (M := M') (x0 := 26) (c := 27) (W := 4) (H := 16) (i := i) (j := 0) (gk26 hG) (gm26_0 hG) (gk27 hG) (gl27 hG) (by rw [e26]; exact hwm) (by decide) (by decide) (by decide) (by omega) (by decide)
    have a1 := e_cell (G := G) (M := M') (x0 := 26) (c := 27) (W := 4) (H := 16) (i := i) (j := 1) (gk26 hG) (gm26_0 hG) (gk27 hG) (gl27 hG) (by rw [e26]; exact hwm) (by decide) (by decide) (by decide) (by omega) (by decide)
    rw [e27, show i * 4 + 0 = 4 * i by omega, g1'] at a0
    rw [e27, show i * 4 + 1 = 4 * i + 1 by omega, g2'] at a1
    exact ⟨a0, a1⟩
  obtain ⟨jg, hjg⟩ : ∃ jg : Nat → Nat, ∀ k, k < 12 → jg k < 3 ∧ M 43 k = nI (jg k) ∧ D0 141 k = nI (jg k) - 2 := ⟨fun k => (M 43 k).toNatClampNeg, fun k hk => by
    obtain ⟨j, j1, j2, j3⟩ := hgf k hk
    have j2' : M 43 k = nI j := j2
    have j3' : D0 141 k = nI j - 2 := j3
    show (M 43 k).toNatClampNeg < 3 ∧ M 43 k = nI (M 43 k).toNatClampNeg ∧ D0 141 k = nI (M 43 k).toNatClampNeg - 2
    rw [j2', nI_clamp (by omega)]
    exact ⟨by omega, rfl, j3'⟩⟩
  obtain ⟨F, S, M1, ga1, ga2, ga3, ga4, ga5, ga6⟩ := c_ga (N := N) (q := q) (G := G) (M := M) (ps := ps) (jg := jg) hN1 hG hq i1 i2' hps hcC i6 (fun k hk => ⟨(hjg k hk).1, (hjg k hk).2.1⟩)
  obtain ⟨-, -, g3, g4, -, -⟩ := ga6
  have hPa : h_pa q F S D0 := by
    refine ⟨fun c hc t => ?_, fun c e => ?_⟩
    · rw [i5' c hc t]
      constructor
      · intro z
        have ht := (hmem _ z).2
        rcases (g4 c t ht).mp z with y | y
        · exact ⟨Or.inl y.symm, ht⟩
        · exact ⟨Or.inr y.symm, ht⟩
      · rintro ⟨y | y, ht⟩
        · exact (g4 c t ht).mpr (Or.inl y.symm)
        · exact (g4 c t ht).mpr (Or.inr y.symm)
    · have := (g3 c).2.2.2 e
      omega
  have hjM : ∀ k, k < 12 → jg k < 3 ∧ D0 141 k = nI (jg k) - 2 := fun k hk => ⟨(hjg k hk).1, (hjg k hk).2.2⟩
  have fin : ∀ (w : Int32) (C' D' : nM), (∀ c, c < 101 ∨ 106 < c → C' c = M c) → (∀ e, e ≠ 107 → e ≠ 142 → D' e = D0 e) → (∀ i, i ≠ 60 → i ≠ 61 → i ≠ 62 → D' 107 i = D0 107 i) → ∃ (v : Int32) (C'' D'' : nM), some (w, C') = some (v, C'') ∧ (∀ c, 107 ≤ c → c ≤ 151 → C'' c = M c) ∧ some (w, D') = some (v, D'') ∧ (∀ c, c < 107 ∨ 151 < c → D'' c = D1 c) ∧ ∃ n q : Nat, Rel G (Mix C'' D'') n q := fun w C' D' hC hD hD7 => by
    refine ⟨w, C', D', rfl, fun c g1 g2 => hC c (by omega), rfl, fun c hc => by rw [hD c (by omega) (by omega)]; exact hfr c hc, n, q, ?_⟩
    refine Rel_scr hR (fun c g1 g2 => ?_) (fun k hk => ?_)
    · by_cases hc : c < 107 ∨ 151 < c
      · rw [Mix_c hc, Mix_c hc]
        by_cases z : c < 101 ∨ 106 < c
        · exact hC c z
        · exfalso
          rcases (show c = 101 ∨ c = 102 ∨ c = 103 ∨ c = 104 ∨ c = 105 ∨ c = 106 by omega) with e | e | e | e | e | e <;> subst e <;> exact absurd g1 (by decide)
      · rw [Mix_d (by omega) (by omega), Mix_d (by omega) (by omega)]
        exact hD c g2 (fun e => by subst e; exact absurd g1 (by decide))
    · rw [Mix_d (by decide) (by decide), Mix_d (by decide) (by decide)]
      exact hD7 k (fun e => by subst e; exact absurd hk (by decide)) (fun e => by subst e; exact absurd hk (by decide)) (fun e => by subst e; exact absurd hk (by decide))
  have t1 : ∀ K : nM, ¬ (cb true, K).1 = 0 := fun _ => (by decide : ¬ cb true = (0 : Int32))
  have t0 : ∀ K : nM, (cb false, K).1 = 0 := fun _ => rfl
  have eM : fX12_heir N x D1 = if x = (-1 : Int32) then fX12_heir_20 N x D0 else (fX12_isPerson x D0).bind fun p2 => if ¬ p2.1 = 0 then fX12_heir_20 N x p2.2 else some ((-1 : Int32), p2.2) := by rw [hD0]; rfl
  have eC : fX11_heir N G x M = if x = (-1 : Int32) then fX11_heir_18 N G x M else (fX1_hasPerson x M).bind fun p1 => if ¬ p1.1 = 0 then fX11_heir_18 N G x p1.2 else some ((-1 : Int32), p1.2) := rfl
  -- the model looks
  have marks : ∀ xi : Nat, (x = -1 ∧ xi = 12) ∨ (xi < q ∧ x = nI xi) → 0 < q → ∃ D' : nM, fX12_findsMarks N x D0 = some ((), D') ∧ h_R D0 D' 0 h_g0 (h_tf (h_st xi) (fun k a => h_H q F S (h_al jg) k a) q 0 h_g0 (0, false, false, false)) := fun xi hx hq0 => by
    obtain ⟨D4, hD4⟩ : ∃ D4, D4 = n_up (n_up (n_up (n_up D0 107 60 (0 : Int32)) 107 61 (100000000 : Int32)) 107 62 (-1 : Int32)) 142 0 (-1 : Int32) := ⟨_, rfl⟩
    have hpow : 3 ^ q ≤ 3 ^ 12 := Nat.pow_le_pow_right (by decide) hq
    have h312 : 3 ^ 12 = 531441 := by decide
    obtain ⟨f', D', m1, m2, m3⟩ := c_m48 (N := N) (q := q) (x := xi) (F := F) (S := S) (jg := jg) (D := D0) (x1 := x) hN1 hq h7 hPa hjM hx q 0 (by omega) hq0 N h_g0 (0, false, false, false) D4 ⟨fun e e1 e2 => by rw [hD4, n_up_ne e2, n_up_ne e1, n_up_ne e1, n_up_ne e1], fun i j1 j2 j3 => by rw [hD4, n_up_ne (by decide), n_up_eq, upd_ne j3, n_up_eq, upd_ne j2, n_up_eq, upd_ne j1], fun j hj => absurd hj (by omega), by rw [hD4, n_up_ne (by decide), n_up_eq, upd_ne (by decide), n_up_eq, upd_ne (by decide), n_up_eq, upd_eq]; rfl, by rw [hD4, n_up_ne (by decide), n_up_eq, upd_ne (by decide), n_up_eq, upd_eq]; rfl, by rw [hD4, n_up_ne (by decide), n_up_eq, upd_eq]; rfl⟩ (by rw [hD4, n_up_eq, upd_eq]) (by omega)
    obtain ⟨f', rfl⟩ : ∃ g, f' = g + 1 := ⟨f' - 1, by omega⟩
    refine ⟨D', ?_, m1⟩
    have e1 : fX12_findsMarks N x D0 = fX12_findsMarks_48 N N x (nI 0) D4 := by
      unfold fX12_findsMarks
      rw [h7, if_pos (nI_ne0 hq0 (by omega))]
      unfold fX12_findsMarks_13
      have h7' : (n_up (n_up (n_up D0 107 60 (0 : Int32)) 107 61 (100000000 : Int32)) 107 62 (-1 : Int32)) 107 7 = nI q := by
        rw [n_up_eq, upd_ne (by decide), n_up_eq, upd_ne (by decide), n_up_eq, upd_ne (by decide)]
        exact h7
      show (if ¬ ((n_up (n_up (n_up D0 107 60 (0 : Int32)) 107 61 (100000000 : Int32)) 107 62 (-1 : Int32)) 107 7) = 0 then n_chk (n_ib 12 (0 : Int32)) (fX12_findsMarks_48 N N x (0 : Int32) (n_up (n_up (n_up (n_up D0 107 60 (0 : Int32)) 107 61 (100000000 : Int32)) 107 62 (-1 : Int32)) 142 (0 : Int32).toNatClampNeg (-1 : Int32))) else _) = _
      rw [h7', if_pos (nI_ne0 hq0 (by omega)), show n_ib 12 (0 : Int32) = true by decide, n_chk_t, show (0 : Int32).toNatClampNeg = 0 by decide, ← hD4]
      rfl
    rw [e1, m3, m48_eq, if_pos (show nI 0 - (1 : Int32) < 0 by decide)]
  have tn : ∀ xi, h_N (fun b => h_pp (fun k a => h_H q F S (h_al jg) k a) q 0 b && true) (h_rg q 0) h_g0 = h_T q F S (h_al jg) → (h_tf (h_st xi) (fun k a => h_H q F S (h_al jg) k a) q 0 h_g0 (0, false, false, false)).1 = h_T q F S (h_al jg) := fun xi e => by
    have := h_tf_n (st := h_st xi) (H := fun k a => h_H q F S (h_al jg) k a) (R := fun _ => true) h_H_i (fun s : hA => s.1) (fun s a => by
      unfold h_st
      split <;> rfl) q 0 h_g0 (0, false, false, false)
    rw [Nat.zero_add] at this
    exact this.trans e
  have hTT : h_N (fun b => h_pp (fun k a => h_H q F S (h_al jg) k a) q 0 b && true) (h_rg q 0) h_g0 = h_T q F S (h_al jg) := h_T_N (R := fun _ => true) (fun b => ⟨fun z => ⟨z, rfl⟩, fun z => z.1⟩)
  rw [eC, eM]
  by_cases h1 : x = -1
  · rw [if_pos h1, if_pos h1]
    obtain ⟨U, u1, u2⟩ := c_ways (N := N) (q := q) (F := F) (S := S) (al := h_al jg) (M := M1) hN1 hq ga3 ga5
    have cc : fX11_heir_18 N G x M = some (nI (h_T q F S (h_al jg)), n_set M1 106 U) := by
      unfold fX11_heir_18
      rw [hp6', ga1, Option.bind_some, if_neg (not_not_intro h1)]
      show ((fX2_ways N M1).bind _) = _
      rw [u2]
      rfl
    rw [cc]
    have hC : ∀ c, c < 101 ∨ 106 < c → n_set M1 106 U c = M c := fun c hc => by rw [n_set_ne (by omega)]; exact ga2 c hc
    by_cases hq0 : 0 < q
    · obtain ⟨D', d1, d2⟩ := marks 12 (Or.inl ⟨h1, rfl⟩) hq0
      have mm : fX12_heir_20 N x D0 = some (nI (h_T q F S (h_al jg)), D') := by
        unfold fX12_heir_20
        rw [d1, Option.bind_some, if_neg (not_not_intro h1)]
        show some (D' 107 60, D') = _
        rw [d2.2.2.2.1, tn 12 hTT]
      rw [mm]
      exact fin _ _ _ hC d2.1 d2.2.1
    · obtain rfl : q = 0 := by omega
      have hT0 : h_T 0 F S (h_al jg) = 1 := rfl
      have mm : fX12_heir_20 N x D0 = some (nI 1, n_up (n_up (n_up (n_up D0 107 60 (1 : Int32)) 107 61 (100000000 : Int32)) 107 62 (-1 : Int32)) 142 0 (-1 : Int32)) := by
        unfold fX12_heir_20
        have : fX12_findsMarks N x D0 = some ((), n_up (n_up (n_up (n_up D0 107 60 (1 : Int32)) 107 61 (100000000 : Int32)) 107 62 (-1 : Int32)) 142 0 (-1 : Int32)) := by
          unfold fX12_findsMarks
          rw [h7, if_neg (show ¬ ¬ nI 0 = (0 : Int32) by decide)]
          unfold fX12_findsMarks_13
          have h7' : (n_up (n_up (n_up D0 107 60 (1 : Int32)) 107 61 (100000000 : Int32)) 107 62 (-1 : Int32)) 107 7 = nI 0 := by
            rw [n_up_eq, upd_ne (by decide), n_up_eq, upd_ne (by decide), n_up_eq, upd_ne (by decide)]
            exact h7
          show (if ¬ ((n_up (n_up (n_up D0 107 60 (1 : Int32)) 107 61 (100000000 : Int32)) 107 62 (-1 : Int32)) 107 7) = 0 then _ else n_chk (n_ib 12 (0 : Int32)) (fX12_findsMarks_48 N N x (-1 : Int32) (n_up (n_up (n_up (n_up D0 107 60 (1 : Int32)) 107 61 (100000000 : Int32)) 107 62 (-1 : Int32)) 142 (0 : Int32).toNatClampNeg (-1 : Int32)))) = _
          rw [h7', if_neg (show ¬ ¬ nI 0 = (0 : Int32) by decide), show n_ib 12 (0 : Int32) = true by decide, n_chk_t, show (0 : Int32).toNatClampNeg = 0 by decide]
          obtain ⟨K, hK⟩ : ∃ K, N = K + 1 := ⟨N - 1, by omega⟩
          rw [show fX12_findsMarks_48 N N = fX12_findsMarks_48 N (K + 1) by rw [← hK], m48_eq, if_pos (by decide)]
        rw [this, Option.bind_some, if_neg (not_not_intro h1)]
        show some ((n_up (n_up (n_up (n_up D0 107 60 (1 : Int32)) 107 61 (100000000 : Int32)) 107 62 (-1 : Int32)) 142 0 (-1 : Int32)) 107 60, _) = _
        rw [n_up_ne (by decide), n_up_eq, upd_ne (by decide), n_up_eq, upd_ne (by decide), n_up_eq, upd_eq]
        rfl
      rw [mm, hT0]
      refine fin _ _ _ hC (fun e e1 e2 => by rw [n_up_ne e2, n_up_ne e1, n_up_ne e1, n_up_ne e1]) (fun i j1 j2 j3 => by rw [n_up_ne (by decide), n_up_eq, upd_ne j3, n_up_eq, upd_ne j2, n_up_eq, upd_ne j1])
  · rw [if_neg h1, if_neg h1, e_hasPerson hp6', e_isPerson h7, Option.bind_some, Option.bind_some]
    cases hw : wn x q with
    | false =>
      rw [if_neg (not_not_intro (t0 _)), if_neg (not_not_intro (t0 _))]
      exact ⟨-1, M, D0, rfl, fun _ _ _ => rfl, rfl, hfr, n, q, hR⟩
    | true =>
      obtain ⟨k, hk, rfl⟩ := wn_t (show q < 2 ^ 31 by omega) hw
      rw [if_pos (t1 _), if_pos (t1 _)]
      obtain ⟨M', f1, f2⟩ := c_fm (N := N) (q := q) (x := k) (F := F) (S := S) (al := h_al jg) (M0 := M1) (A := h_am (jg k)) hN1 hq hk ga3 (fun u hu => by
        rw [h_am_t (jg k) (hjg k (by omega)).1 u hu]
        rfl) 3 0 N (-1) (-1) M1 (by omega) (by omega) (fun _ _ _ => rfl) (fun _ _ => rfl) ga5
      have cc : fX11_heir_18 N G (nI k) M = some (h_fm (fun v => decide (0 < h_T q F S (h_ax (h_al jg) k v))) 3 0 (-1) (-1), M') := by
        unfold fX11_heir_18
        rw [hp6', ga1, Option.bind_some, if_pos h1]
        show ((fX2_fewAndMany N (nI k) M1).bind _) = _
        have : fX2_fewAndMany N (nI k) M1 = fX2_fewAndMany_29 N N (nI k) (-1 : Int32) (-1 : Int32) (h_am (jg k)) (nI 0) M1 := by
          unfold fX2_fewAndMany
          rw [if_neg (nI_pos (by omega)), ga3.1, if_pos (nI_lt hk (by omega)), n_ib_nI (show k < 12 by omega) (by decide), n_chk_t, nI_clamp (show k < 2 ^ 31 by omega), ga4 k (by omega)]
          rfl
        rw [this, f2]
        rfl
      obtain ⟨D', d1, d2⟩ := marks k (Or.inr ⟨hk, rfl⟩) (by omega)
      obtain ⟨T, hT⟩ : ∃ T, T = h_tf (h_st k) (fun k a => h_H q F S (h_al jg) k a) q 0 h_g0 (0, false, false, false) := ⟨_, rfl⟩
      have hflag : ∀ (v : Nat) (qq : hA → Bool), (∀ s a, qq (h_st k s a) = (qq s || decide (a k = v))) → qq (0, false, false, false) = false → qq T = decide (0 < h_T q F S (h_ax (h_al jg) k v)) := fun v qq hqq h0 => by
        have e1 := h_tf_b (st := h_st k) (H := fun k a => h_H q F S (h_al jg) k a) (R := fun a => decide (a k = v)) h_H_i qq hqq q 0 h_g0 (0, false, false, false)
        rw [h0, Bool.false_or, ← hT] at e1
        rw [e1]
        exact decide_eq_decide.mpr (by
          rw [h_T_N (R := fun a => decide (a k = v)) (al' := h_ax (h_al jg) k v) (fun b => ?_)]
          constructor
          · intro z
            refine ⟨fun j hj => ?_, ?_⟩
            · have := z j hj
              unfold h_ax at this
              rw [Bool.and_eq_true] at this
              exact this.1
            · have := z k hk
              unfold h_ax at this
              rw [Bool.and_eq_true, show decide (k ≠ k) = false by simp, Bool.false_or] at this
              exact this.2
          · rintro ⟨z1, z2⟩ j hj
            unfold h_ax
            rw [z1 j hj, Bool.true_and]
            by_cases e : j = k
            · subst e; rw [z2, Bool.or_true]
            · rw [show decide (j ≠ k) = true from decide_eq_true e, Bool.true_or])
      have hk12 : k < 12 := by omega
      have b0 := hflag 0 (fun s => s.2.1) (fun s a => by unfold h_st; rw [if_pos hk12]) rfl
      have b1 := hflag 1 (fun s => s.2.2.1) (fun s a => by unfold h_st; rw [if_pos hk12]) rfl
      have b2 := hflag 2 (fun s => s.2.2.2) (fun s a => by unfold h_st; rw [if_pos hk12]) rfl
      have hcnt : decide (0 < T.1) = (T.2.1 || (T.2.2.1 || T.2.2.2)) := by
        rw [hT]
        refine h_tf_P (st := h_st k) (fun s => decide (0 < s.1) = (s.2.1 || (s.2.2.1 || s.2.2.2))) k (fun s a ha _ => ?_) q 0 h_g0 (0, false, false, false) (fun z => absurd z (by omega)) (by omega) rfl
        unfold h_st
        rw [if_pos hk12]
        show decide (0 < s.1 + 1) = ((s.2.1 || decide (a k = 0)) || ((s.2.2.1 || decide (a k = 1)) || (s.2.2.2 || decide (a k = 2))))
        rw [decide_eq_true (show 0 < s.1 + 1 by omega)]
        rcases (show a k = 0 ∨ a k = 1 ∨ a k = 2 by omega) with z | z | z <;> rw [z] <;> simp
      have hle : T.1 < 2 ^ 31 := by
        rw [hT, tn k hTT]
        have : h_T q F S (h_al jg) ≤ 531441 := h_W_le hq
        omega
      rw [← hT] at d2
      have hlo : ∀ c, h_lo (c, T.2) = h_lo T := fun c => rfl
      have hfm : h_fm (fun v => decide (0 < h_T q F S (h_ax (h_al jg) k v))) 3 0 (-1) (-1) = if (T.2.1 || (T.2.2.1 || T.2.2.2)) = true then (10 : Int32) * h_lo T + h_hi T else -1 := by
        rw [h_fm_c (r := fun v => if v = 0 then T.2.1 else if v = 1 then T.2.2.1 else T.2.2.2) 3 0 (-1) (-1) (fun i hi => by
          rcases (show i = 0 ∨ i = 1 ∨ i = 2 by omega) with z | z | z <;> subst z
          · exact b0.symm
          · exact b1.symm
          · exact b2.symm)]
        exact h_fin T.2.1 T.2.2.1 T.2.2.2
      have mm : fX12_heir_20 N (nI k) D0 = some (h_fm (fun v => decide (0 < h_T q F S (h_ax (h_al jg) k v))) 3 0 (-1) (-1), D') := by
        unfold fX12_heir_20
        rw [d1, Option.bind_some, if_pos h1, hfm]
        show (if ¬ (D' 107 60) = 0 then some ((((10 : Int32) * (D' 107 61)) + (D' 107 62)), D') else some ((-1 : Int32), D')) = _
        rw [d2.2.2.2.1, d2.2.2.2.2.1, d2.2.2.2.2.2, ← hcnt]
        by_cases z : 0 < T.1
        · rw [if_pos (nI_ne0 z hle), if_pos (decide_eq_true z)]
        · rw [show T.1 = 0 by omega, if_neg (show ¬ ¬ nI 0 = (0 : Int32) by decide), if_neg (show ¬ decide (0 < 0) = true by decide)]
      show ∃ (v : Int32) (C' D'' : nM), fX11_heir_18 N G (nI k) M = _ ∧ _ ∧ fX12_heir_20 N (nI k) D0 = _ ∧ _
      rw [cc, mm]
      exact fin _ _ _ (fun c hc => by rw [f1 c (by omega) (by omega)]; exact ga2 c hc) d2.1 d2.2.1
