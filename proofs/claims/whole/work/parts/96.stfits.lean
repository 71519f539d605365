/-! ===== fits, the step ===== -/
theorem st_fits {G : nG} {M : nM} {n q N : Nat} (hN : 20000000 ≤ N) (hG : n_GOK G) (h : Rel G M n q) (x : Int32) : Stq G (fX11_fits N G x) (fX12_fits N x) M := by
  refine Stq_mix fun D1 hD1 => ?_
  have hR := Rel_m0 h hD1
  obtain ⟨D0, hD0⟩ : ∃ D0, D0 = n_up D1 107 0 0 := ⟨_, rfl⟩
  rw [← hD0] at hR
  have hfr : ∀ c, c < 107 ∨ 151 < c → D0 c = D1 c := fun c hc => by rw [hD0]; exact n0_ne c hc
  have hN1 : 1000 ≤ N := by omega
  obtain ⟨⟨hst, hmv, hbk, hlw, hsp, hcu, hli, hsw, hpk, hbx, hky, hcl, hsh, hrw, hgf, hmi⟩, hpr, hrd, hck, hwd, him⟩ := id hR
  obtain ⟨ps, i1, i2, i3, i4⟩ := hcl
  have i2' : M 37 3 = nI ps.length := i2
  have i3' : D0 107 65 = nI ps.length := i3
  have hwm : r_wm (M 37 1) (M 37 2) 3 10 := hck.2.2.2.2.2.2.2.2.2.2.1
  have hps : ∀ p, p ∈ ps → p.1 < 8 := fun p hp => by
    obtain ⟨i, hi⟩ := List.mem_iff_getElem?.mp hp
    exact (i4 i p hi).1
  have hH : ∀ M' : nM, (∀ c, c ≠ 99 → c ≠ 100 → M' c = M c) → f_H G ps M' := fun M' hM' => by
    have e37 : M' 37 = M 37 := hM' 37 (by decide) (by decide)
    have e38 : M' 38 = M 38 := hM' 38 (by decide) (by decide)
    refine ⟨by rw [e37]; exact i2', fun i hi => ?_⟩
    obtain ⟨g1, g2, g3, g4, g5, -⟩ := i4 i _ (f_get hi)
    have g3' : M 38 (3 * i) = nI (ps.getD i (0, 0, false)).1 := g3
    have g4' : M 38 (3 * i + 1) = nI (ps.getD i (0, 0, false)).2.1 := g4
    have g5' : M 38 (3 * i + 2) = (if (ps.getD i (0, 0, false)).2.2 = true then 1 else 0) := g5
    have a0 := e_cell (G := G) (M := M') (x0 := 37) (c := 38) (W := 3) (H := 10) (i := i) (j := 0) (gk37 hG) (gm37_0 hG) (gk38 hG) (gl38 hG) (by rw [e37]; exact hwm) (by decide) (by decide) (by decide) (by omega) (by decide)
    have a1 := e_cell (G := G) (M := M') (x0 := 37) (c := 38) (W := 3) (H := 10) (i := i) (j := 1) (gk37 hG) (gm37_0 hG) (gk38 hG) (gl38 hG) (by rw [e37]; exact hwm) (by decide) (by decide) (by decide) (by omega) (by decide)
    have a2 := e_cell (G := G) (M := M') (x0 := 37) (c := 38) (W := 3) (H := 10) (i := i) (j := 2) (gk37 hG) (gm37_0 hG) (gk38 hG) (gl38 hG) (by rw [e37]; exact hwm) (by decide) (by decide) (by decide) (by omega) (by decide)
    rw [e38, show i * 3 + 0 = 3 * i by omega, g3'] at a0
    rw [e38, show i * 3 + 1 = 3 * i + 1 by omega, g4'] at a1
    rw [e38, show i * 3 + 2 = 3 * i + 2 by omega, g5'] at a2
    exact ⟨g1, g2, a0, a1, a2⟩
  have hcM : ∀ i, i < ps.length → (ps.getD i (0, 0, false)).1 < 8 ∧ (ps.getD i (0, 0, false)).2.1 < 8 ∧ D0 144 i = nI (ps.getD i (0, 0, false)).1 ∧ D0 145 i = nI (ps.getD i (0, 0, false)).2.1 ∧ D0 146 i = (if (ps.getD i (0, 0, false)).2.2 = true then 1 else 0) := fun i hi => by
    obtain ⟨g1, g2, g3, g4, g5, g6, g7, g8⟩ := i4 i _ (f_get hi)
    exact ⟨g1, g2, g6, g7, g8⟩
  have t1 : ∀ K : nM, ¬ (cb true, K).1 = 0 := fun _ => (by decide : ¬ cb true = (0 : Int32))
  have t0 : ∀ K : nM, (cb false, K).1 = 0 := fun _ => rfl
  have eM : fX12_fits N x D1 = (fX12_isIn x (-1 : Int32) (7 : Int32) D0).bind fun p2 => if ¬ p2.1 = 0 then fX12_fits_20 N N x (0 : Int32) p2.2 else some ((-1 : Int32), p2.2) := by rw [hD0]; rfl
  have eC : fX11_fits N G x M = if ¬ x = (-1 : Int32) then (fX11_within x (0 : Int32) (7 : Int32) M).bind fun p1 => if p1.1 = 0 then some ((-1 : Int32), p1.2) else (fX9_surePlace N G x p1.2).bind fun p2 => some (p2.1, p2.2) else (fX9_waysToFit N G (-1 : Int32) (0 : Int32) M).bind fun p3 => some (p3.1, p3.2) := rfl
  have fin : ∀ (w : Int32) (C' : nM) (W : Nat → Int32), (∀ c, c ≠ 99 → c ≠ 100 → C' c = M c) → ∃ (v : Int32) (C'' D' : nM), some (w, C') = some (v, C'') ∧ (∀ c, 107 ≤ c → c ≤ 151 → C'' c = M c) ∧ some (w, n_set D0 147 W) = some (v, D') ∧ (∀ c, c < 107 ∨ 151 < c → D' c = D1 c) ∧ ∃ n q : Nat, Rel G (Mix C'' D') n q := fun w C' W hC => by
    refine ⟨w, C', n_set D0 147 W, rfl, fun c g1 g2 => hC c (by omega) (by omega), rfl, fun c hc => by rw [n_set_ne (by omega)]; exact hfr c hc, n, q, ?_⟩
    refine Rel_scr hR (fun c g1 g2 => ?_) (fun k hk => rfl)
    have e99 : c ≠ 99 := fun e => by subst e; exact absurd g1 (by decide)
    have e100 : c ≠ 100 := fun e => by subst e; exact absurd g1 (by decide)
    have e147 : c ≠ 147 := fun e => by subst e; exact absurd g1 (by decide)
    by_cases hc : c < 107 ∨ 151 < c
    · rw [Mix_c hc, Mix_c hc, hC c e99 e100]
    · rw [Mix_d (by omega) (by omega), Mix_d (by omega) (by omega), n_set_ne e147]
  obtain ⟨W', w1, w2⟩ := c_f20 (N := N) (x1 := x) (D := D0) 8 0 N (D0 147) (by omega) (by omega) (fun a ha => absurd ha (by omega))
  rw [n_set_self rfl] at w2
  rw [eC, eM, e_isIn, Option.bind_some]
  by_cases h1 : x = -1
  · subst h1
    have g1 : wi (-1 : Int32) (-1) 7 = true := by decide
    rw [if_neg (not_not_intro rfl), g1, if_pos (t1 _)]
    obtain ⟨M', m1, m2⟩ := c_wf (N := N) (G := G) (x1 := (-1 : Int32)) (p := 0) (M := M) (ps := ps) hN1 hG i1 (fun A => hH _ (fun c _ c2 => n_set_ne c2)) (by decide) (f_k ps) (Or.inl ⟨rfl, fun _ _ _ _ => rfl⟩)
    obtain ⟨W2, f', r⟩ := c_f46 (N := N) (x1 := (-1 : Int32)) (D := D0) (ps := ps) (o := fun _ μ => μ) hN i1 i3' hps hcM (fun _ _ _ _ => rfl) (Or.inl ⟨rfl, fun _ _ => rfl⟩) W' w1
    have hn := f_tf_n (st := f_st ps (fun _ μ => μ)) (fit := fun w => ps.all (f_q w)) (fun a : Nat × Int32 => a.1) (fun a w => by
      unfold f_st
      by_cases hc : ps.all (f_q w) = true
      · rw [if_pos hc, if_pos hc]
      · rw [if_neg hc, if_neg hc]; rfl) 8 (fun t => t) (0, 0)
    rw [f_cC0 (ok := f_k ps) (fun w => f_fit hps w) (fun t => t)] at hn
    rw [Nat.zero_add] at hn
    have mm : fX12_fits_20 N N (-1 : Int32) (0 : Int32) D0 = some (nI (f_C (f_k ps) 8 0), n_set D0 147 W2) := by
      refine (show fX12_fits_20 N N (-1 : Int32) (nI 0) D0 = _ from w2).trans (r.trans ?_)
      rw [f46_eq, if_pos rfl, if_neg (not_not_intro rfl), hn]
    have cc : fX9_waysToFit N G (-1 : Int32) (0 : Int32) M = some (nI (f_C (f_k ps) 8 0), M') := m2
    rw [cc]
    show ∃ (v : Int32) (C' D' : nM), _ ∧ _ ∧ fX12_fits_20 N N (-1 : Int32) (0 : Int32) D0 = _ ∧ _
    rw [mm]
    exact fin _ _ _ m1
  · have hww : wi x (-1) 7 = wi x 0 7 := by
      unfold wi
      have : decide (x < -1) = decide (x < 0) := decide_eq_decide.mpr ⟨fun g => Int32.lt_trans g (by decide), fun g => by
        rw [Int32.lt_iff_toInt_lt] at g ⊢
        have e1' : (-1 : Int32).toInt = -1 := by decide
        have e2 : (0 : Int32).toInt = 0 := by decide
        have e4 : x.toInt ≠ -1 := fun e => h1 (Int32.toInt_inj.mp (by rw [e, e1']))
        omega⟩
      rw [this]
    rw [if_pos h1, e_within, Option.bind_some, hww]
    cases hx : wi x 0 7 with
    | false =>
      rw [if_pos (t0 _), if_neg (not_not_intro (t0 _))]
      exact ⟨-1, M, D0, rfl, fun _ _ _ => rfl, rfl, hfr, n, q, hR⟩
    | true =>
      obtain ⟨k, hk, rfl⟩ := wi_nI (n := 7) (by decide) hx
      have hk8 : k < 8 := by omega
      rw [if_neg (t1 _), if_pos (t1 _)]
      obtain ⟨M', m1, m2⟩ := c_sp4 (N := N) (x := k) (G := G) (M0 := M) (ps := ps) hN1 hG i1 hk8 hH 8 0 N (-1) M (by omega) (by omega) (fun _ _ _ => rfl)
      obtain ⟨W2, f', r⟩ := c_f46 (N := N) (x1 := nI k) (D := D0) (ps := ps) (o := fun w μ => if w k < 8 then μ ||| ((1 : Int32) <<< (nI (w k) &&& 31)) else μ) hN i1 i3' hps hcM (fun w w' μ hw => by
        show (if w k < 8 then _ else _) = if w' k < 8 then _ else _
        rw [hw k hk8]) (Or.inr ⟨k, hk8, rfl, fun w μ hw => if_pos hw⟩) W' w1
      obtain ⟨st, hst'⟩ : ∃ st, st = f_st ps (fun w μ => if w k < 8 then μ ||| ((1 : Int32) <<< (nI (w k) &&& 31)) else μ) := ⟨_, rfl⟩
      rw [← hst'] at r
      have hbit : ∀ (a : Nat × Int32) (w : Nat → Nat) (u : Nat), bt (st a w).2 u = (bt a.2 u || (ps.all (f_q w) && decide (w k = u ∧ u < 8))) := fun a w u => by
        rw [hst']
        unfold f_st
        cases ps.all (f_q w) with
        | false =>
          rw [if_neg (by decide), Bool.false_and, Bool.or_false]
        | true =>
          rw [if_pos rfl, Bool.true_and]
          show bt (if w k < 8 then a.2 ||| ((1 : Int32) <<< (nI (w k) &&& 31)) else a.2) u = _
          by_cases hw : w k < 8
          · rw [if_pos hw, b_or, b_sh (by omega)]
            congr 1
            exact decide_eq_decide.mpr (by omega)
          · rw [if_neg hw, show decide (w k = u ∧ u < 8) = false from decide_eq_false (by omega), Bool.or_false]
      have hb8 : ∀ u, bt (f_tf st 8 (fun t => t) (0, 0)).2 u = true → u < 8 := f_tf_P (st := st) (fun a : Nat × Int32 => ∀ u, bt a.2 u = true → u < 8) (fun a w ha u hu => by
        rw [hbit, Bool.or_eq_true, Bool.and_eq_true] at hu
        rcases hu with z | z
        · exact ha u z
        · exact (of_decide_eq_true z.2).2) 8 (fun t => t) (0, 0) (fun u hu => by
        have hu' : bt (0 : Int32) u = true := hu
        rw [b_0] at hu'
        exact absurd hu' (by decide))
      have hbq : ∀ p, p < 8 → bt (f_tf st 8 (fun t => t) (0, 0)).2 p = decide (0 < f_C (f_o2 ps k p) 8 0) := fun p hp => by
        have := f_tf_b (st := st) (fit := fun w => ps.all (f_q w) && decide (w k = p)) (fun a : Nat × Int32 => bt a.2 p) (fun a w => by
          show bt (st a w).2 p = _
          rw [hbit]
          congr 2
          exact decide_eq_decide.mpr (by omega)) 8 (fun t => t) (0, 0)
        have t2 : bt (f_tf st 8 (fun t => t) (0, 0)).2 p = (bt (0 : Int32) p || decide (0 < f_cT (fun w => ps.all (f_q w) && decide (w k = p)) 8 (fun t => t))) := this
        rw [t2, b_0, Bool.false_or]
        exact decide_eq_decide.mpr (by rw [f_cC0 (ok := f_o2 ps k p) (fun w => f_fit2 hps hk8 w) (fun t => t)])
      generalize hμ : (f_tf st 8 (fun t => t) (0, 0)).2 = μ at r hb8 hbq
      obtain ⟨y, y1, y2, y3⟩ := f_num hb8
      have mm : fX12_fits_20 N N (nI k) (0 : Int32) D0 = some (f_su (fun p => decide (0 < f_C (f_o2 ps k p) 8 0)) 8 0 (-1), n_set D0 147 W2) := by
        refine (show fX12_fits_20 N N (nI k) (nI 0) D0 = _ from w2).trans (r.trans ?_)
        rw [f46_eq, if_pos rfl, if_pos (nI_nm1 (by omega)), ← y2]
        refine (show fX12_fits_97 N N (nI y) (nI 0) (n_set D0 147 W2) = _ from c_f97 y1 8 0 N (by omega) (by omega)).trans ?_
        rw [f_97_su y y1, f_su_c (r := fun p => decide (0 < f_C (f_o2 ps k p) 8 0)) 8 0 (-1) (fun i hi => by
          show y.testBit i = decide (0 < f_C (f_o2 ps k i) 8 0)
          rw [y3 i (by omega)]
          exact hbq i (by omega))]
      have cc : fX9_surePlace N G (nI k) M = some (f_su (fun p => decide (0 < f_C (f_o2 ps k p) 8 0)) 8 0 (-1), M') := m2
      show ∃ (v : Int32) (C' D' : nM), ((fX9_surePlace N G (nI k) M).bind _) = _ ∧ _ ∧ fX12_fits_20 N N (nI k) (0 : Int32) D0 = _ ∧ _
      rw [cc, mm]
      exact fin _ _ _ m1
