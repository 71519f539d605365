/-! ===== boxes, the step ===== -/
theorem st_boxes {G : nG} {M : nM} {n q N : Nat} (hN : 1000 ≤ N) (hG : n_GOK G) (h : Rel G M n q) (x : Int32) : Stq G (fX11_boxes N G x) (fX12_boxes N x) M := by
  refine Stq_mix fun D1 hD1 => ?_
  have hR := Rel_m0 h hD1
  obtain ⟨D0, hD0⟩ : ∃ D0, D0 = n_up D1 107 0 0 := ⟨_, rfl⟩
  rw [← hD0] at hR
  have hfr : ∀ c, c < 107 ∨ 151 < c → D0 c = D1 c := fun c hc => by rw [hD0]; exact n0_ne c hc
  have eM : fX12_boxes N x D1 = (fX12_isIn x (0 : Int32) (1 : Int32) D0).bind fun p2 => if ¬ p2.1 = 0 then (fX12_findsNested N p2.2).bind fun p3 => fX12_boxes_25 N N x (-1 : Int32) (0 : Int32) p3.2 else some ((-1 : Int32), p2.2) := by rw [hD0]; rfl
  have eC : fX11_boxes N G x M = (fX11_within x (0 : Int32) (1 : Int32) M).bind fun p1 => if p1.1 = 0 then some ((-1 : Int32), p1.2) else if ¬ x = (1 : Int32) then fX11_boxes_23 N G (0 : Int32) p1.2 else fX11_boxes_23 N G (1 : Int32) p1.2 := rfl
  rw [eC, eM, e_within, e_isIn, Option.bind_some, Option.bind_some]
  cases hx : wi x 0 1 with
  | false => exact ⟨-1, M, D0, rfl, fun _ _ _ => rfl, rfl, hfr, n, q, hR⟩
  | true =>
    obtain ⟨k, hk, rfl⟩ := wi_nI (n := 1) (by decide) hx
    obtain ⟨b, hb⟩ : ∃ b : Bool, nI k = cb b := by
      rcases (show k = 0 ∨ k = 1 by omega) with rfl | rfl
      · exact ⟨false, rfl⟩
      · exact ⟨true, rfl⟩
    rw [hb, if_neg (show ¬ (cb true, M).1 = 0 from (by decide : ¬ cb true = (0 : Int32))), if_pos (show ¬ (cb true, D0).1 = 0 from (by decide : ¬ cb true = (0 : Int32)))]
    obtain ⟨⟨hst, hmv, hbk, hlw, hsp, hcu, hli, hsw, hpk, hbx, hky, hcl, hsh, hrw, hgf, hmi⟩, hpr, hrd, hck, hwd, him⟩ := id hR
    obtain ⟨ps, i1, i2, i3, i4⟩ := hbx
    have i2' : M 33 3 = nI ps.length := i2
    have i3' : D0 107 51 = nI ps.length := i3
    have hwm : r_wm (M 33 1) (M 33 2) 2 8 := hck.2.2.2.2.2.2.2.2.1
    have hbnd : ∀ i, i < ps.length → (ps.getD i (0, 0)).1 ≤ 30 ∧ (ps.getD i (0, 0)).2 ≤ 30 := fun i hi => by
      obtain ⟨g1, g2, g3, g4, -⟩ := i4 i _ (ps_get2 hi)
      exact ⟨g2, g4⟩
    have hcC : ∀ (W : Nat → Int32) (i : Nat), i < ps.length → fX7_cell G 33 (nI i) (0 : Int32) (n_set M 99 W) = some (nI (ps.getD i (0, 0)).1, n_set M 99 W) ∧ fX7_cell G 33 (nI i) (1 : Int32) (n_set M 99 W) = some (nI (ps.getD i (0, 0)).2, n_set M 99 W) := fun W i hi => by
      obtain ⟨g1, g2, g3, g4, g5, g6, g7, g8⟩ := i4 i _ (ps_get2 hi)
      have g5' : M 34 (2 * i) = nI (ps.getD i (0, 0)).1 := g5
      have g6' : M 34 (2 * i + 1) = nI (ps.getD i (0, 0)).2 := g6
      have a0 := e_cell (G := G) (M := n_set M 99 W) (x0 := 33) (c := 34) (W := 2) (H := 8) (i := i) (j := 0) (gk33 hG) (gm33_0 hG) (gk34 hG) (gl34 hG) hwm (by decide) (by decide) (by decide) (by omega) (by decide)
      have a1 := e_cell (G := G) (M := n_set M 99 W) (x0 := 33) (c := 34) (W := 2) (H := 8) (i := i) (j := 1) (gk33 hG) (gm33_0 hG) (gk34 hG) (gl34 hG) hwm (by decide) (by decide) (by decide) (by omega) (by decide)
      rw [n_set_ne (show (34 : Nat) ≠ 99 by decide), show i * 2 + 0 = 2 * i by omega, g5'] at a0
      rw [n_set_ne (show (34 : Nat) ≠ 99 by decide), show i * 2 + 1 = 2 * i + 1 by omega, g6'] at a1
      exact ⟨a0, a1⟩
    have hcM : ∀ i, i < ps.length → D0 136 i = nI (ps.getD i (0, 0)).2 ∧ D0 137 i = nI (ps.getD i (0, 0)).1 := fun i hi => by
      obtain ⟨g1, g2, g3, g4, g5, g6, g7, g8⟩ := i4 i _ (ps_get2 hi)
      exact ⟨g7, g8⟩
    have hD : ∀ v, v < ps.length → x_D ps.length (x_E ps) 30 v = x_mx (fun u => x_E ps u v) (x_D ps.length (x_E ps) 30) ps.length := fun v hv => (x_D_s (a := fun i => (ps.getD i (0, 0)).1) x_E_a 30 v (hbnd v hv).1).symm
    generalize x_D ps.length (x_E ps) 30 = D at hD
    have hDm : ∀ v, v < ps.length → D v ≤ ps.length := fun v hv => x_D_m (a := fun i => (ps.getD i (0, 0)).1) x_E_a hD hv
    have hD8 : ∀ v, v < ps.length → D v ≤ 8 := fun v hv => Nat.le_trans (hDm v hv) i1
    have hD1' : ∀ t, t < ps.length → (fun _ => 1 : Nat → Nat) t ≤ D t := fun t ht => by rw [hD t ht]; exact x_mx_1 _
    have fillE := e_fill (N := N) (c := 99) (L := 256) (x := (1 : Int32)) (gk99 hG) (gl99 hG) (by decide) hN M
    obtain ⟨Wf, hWf⟩ : ∃ Wf : Nat → Int32, Wf = fun t => if 0 ≤ t ∧ t < 256 then (1 : Int32) else M 99 t := ⟨_, rfl⟩
    rw [← hWf] at fillE
    have hWf1 : ∀ t, t < ps.length → Wf t = nI ((fun _ => 1 : Nat → Nat) t) := fun t ht => by
      rw [hWf]
      exact if_pos ⟨Nat.zero_le t, by omega⟩
    obtain ⟨V1, v1, v2⟩ := c_f2 (N := N) (M := D0) i1 i3' ps.length 0 N (D0 138) (by omega) (by omega) (fun t ht => absurd ht (by omega))
    obtain ⟨V2, v3, v4⟩ := c_f25 (N := N) (M := D0) hN i1 i3' hbnd hcM hD hD8 ps.length 0 N (fun _ => 1) V1 (by omega) (by omega) v1 hD1'
    rw [n_set_self rfl] at v2
    have m1 : fX12_findsNested N D0 = some ((), n_set D0 138 V2) := v2.trans v4
    have fin : ∀ (w : Int32) (W : Nat → Int32), fX9_nested N G (cb b) M = some (w, n_set M 99 W) → fX12_boxes_25 N N (cb b) (-1) 0 (n_set D0 138 V2) = some (w, n_set D0 138 V2) → ∃ (v : Int32) (C' D' : nM), (if ¬ cb b = (1 : Int32) then fX11_boxes_23 N G (0 : Int32) (cb true, M).2 else fX11_boxes_23 N G (1 : Int32) (cb true, M).2) = some (v, C') ∧ (∀ c, 107 ≤ c → c ≤ 151 → C' c = M c) ∧ ((fX12_findsNested N (cb true, D0).2).bind fun p3 => fX12_boxes_25 N N (cb b) (-1 : Int32) (0 : Int32) p3.2) = some (v, D') ∧ (∀ c, c < 107 ∨ 151 < c → D' c = D1 c) ∧ ∃ n q : Nat, Rel G (Mix C' D') n q := fun w W r1 r2 => by
      refine ⟨w, n_set M 99 W, n_set D0 138 V2, ?_, fun c g1 g2 => n_set_ne (by omega), ?_, fun c hc => by rw [n_set_ne (by omega)]; exact hfr c hc, n, q, ?_⟩
      · cases b with
        | false =>
          rw [if_pos (show ¬ cb false = (1 : Int32) by decide)]
          unfold fX11_boxes_23
          have r1' : fX9_nested N G 0 M = _ := r1
          show (fX9_nested N G 0 M).bind _ = _
          rw [r1', Option.bind_some]
        | true =>
          rw [if_neg (show ¬ ¬ cb true = (1 : Int32) from not_not_intro rfl)]
          unfold fX11_boxes_23
          have r1' : fX9_nested N G 1 M = _ := r1
          show (fX9_nested N G 1 M).bind _ = _
          rw [r1', Option.bind_some]
      · show (fX12_findsNested N D0).bind _ = _
        rw [m1, Option.bind_some]
        exact r2
      · refine Rel_scr hR (fun c g1 g2 => ?_) (fun k hk => rfl)
        have e99 : c ≠ 99 := fun e => by subst e; exact absurd g1 (by decide)
        have e138 : c ≠ 138 := fun e => by subst e; exact absurd g1 (by decide)
        by_cases hc : c < 107 ∨ 151 < c
        · rw [Mix_c hc, Mix_c hc, n_set_ne e99]
        · rw [Mix_d (by omega) (by omega), Mix_d (by omega) (by omega), n_set_ne e138]
    have nst : ∀ y : Int32, fX9_nested N G (cb b) M = fX9_nested_21 N G N (cb b) (nI ps.length) 0 (n_set M 99 Wf) := fun _ => by
      show (fJ7_fill_53178 N G 99 (1 : Int32) M).bind (fun p2 => fX9_nested_21 N G N (cb b) (M 33 3) (0 : Int32) p2.2) = _
      rw [fillE, Option.bind_some, i2']
    obtain ⟨g, hg⟩ : ∃ g, N = g + 1 := ⟨N - 1, by omega⟩
    by_cases hm0 : 0 < ps.length
    · obtain ⟨W2, w1, w2⟩ := c_n21 (N := N) (x1 := cb b) (M := M) hN hm0 i1 hbnd hcC hD hD8 ps.length 0 N (fun _ => 1) Wf (by omega) (by omega) hWf1 hD1'
      have wD : ∀ t, t < ps.length → W2 t = nI (D t) := fun t ht => by
        rw [w1 t ht, x_it_D (a := fun i => (ps.getD i (0, 0)).1) x_E_a hD (x_pC_b hm0 _ 0 (by omega)) (fun u v hu hv => x_pC_all hu hv) ps.length 0 (fun _ => 1) (by omega) hD1' (fun v hv hd => hd) t ht]
      have vD : ∀ t, t < ps.length → V2 t = nI (D t) := fun t ht => by
        rw [v3 t ht, x_it_D (a := fun i => (ps.getD i (0, 0)).1) x_E_a hD (x_pM_b _ 0 (by omega)) (fun u v hu hv => x_pM_in hv _ 0 u (by omega) (by omega)) ps.length 0 (fun _ => 1) (by omega) hD1' (fun v hv hd => hd) t ht]
      refine fin (if b = true then nI (x_b D (ps.length - 1) 1 0) else nI (D (x_b D (ps.length - 1) 1 0))) W2 ((nst 0).trans (w2.trans ?_)) ?_
      · have t1 := c_n103 (N := N) (G := G) (M := n_set M 99 W2) (L := D) (fl := b) i1 (fun t ht => by rw [n_set_eq]; exact wD t ht) hD8 (ps.length - 1) 1 g 0 (by omega) (by omega) hm0
        rw [hg, n103_eq, if_neg (show ¬ nI ps.length ≤ (0 : Int32) from nI_ge (a := 0) hm0 (by omega)), if_pos rfl]
        rw [hg] at t1
        exact t1
      · have t2 := c_b25 (N := N) (M := n_set D0 138 V2) (L := D) (fl := b) i1 (by rw [n_set_ne (by decide)]; exact i3') (fun t ht => by rw [n_set_eq]; exact vD t ht) hD8 (ps.length - 1) 1 g 0 (by omega) (by omega) hm0
        rw [hg, b25_eq, n_set_ne (show (107 : Nat) ≠ 138 by decide), i3', if_neg (show ¬ nI ps.length ≤ (0 : Int32) from nI_ge (a := 0) hm0 (by omega)), if_pos rfl]
        rw [hg] at t2
        exact t2
    · have hz : ps.length = 0 := by omega
      refine fin (if b = true then -1 else 0) Wf ((nst 0).trans ?_) ?_
      · rw [hz, hg, n21_eq, if_pos (show nI 0 ≤ (0 : Int32) by decide), n103_eq, if_pos (show nI 0 ≤ (0 : Int32) by decide)]
        cases b <;> rfl
      · rw [hg, b25_eq, n_set_ne (show (107 : Nat) ≠ 138 by decide), i3', hz, if_pos (show nI 0 ≤ (0 : Int32) by decide)]
        cases b <;> rfl
