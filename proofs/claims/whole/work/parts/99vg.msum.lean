/-! ===== text: the model reads a sum ===== -/
def mR (b : Nat → Nat) (k : Nat) (v : Int32) (M0 : nM) (r : tR) : Option (Int32 × nM) := match r with
  | .inl e => some (-1, me b k v M0 e.1 e.2.1 (l_mods e.2.2))
  | .inr x => some (0, ms b k v M0 x.1 (l_mods x.2))
theorem mR_l {b : Nat → Nat} {k : Nat} {v : Int32} {M0 : nM} {e : Nat × Nat × List lOp} : mR b k v M0 (.inl e) = some (-1, me b k v M0 e.1 e.2.1 (l_mods e.2.2)) := rfl
theorem mR_r {b : Nat → Nat} {k : Nat} {v : Int32} {M0 : nM} {j : Nat} {c : List lOp} : mR b k v M0 (.inr (j, c)) = some (0, ms b k v M0 j (l_mods c)) := rfl
theorem lmo {c : List lOp} {o x : Nat} (h : o ≠ 2) : l_mods (c ++ [(o, x)]) = l_mods c ++ [(l_mo o, x)] := by
  rw [l_mods_a, l_mods_c, l_mod_o h]
  rfl
theorem lmo2 {c : List lOp} {x : Nat} : l_mods (c ++ [(0, x)]) ++ [(5, 0)] = l_mods (c ++ [(2, x)]) := by
  rw [l_mods_a, l_mods_a, List.append_assoc]
  rfl
/-- what the model knows of its text -/
def MT (b : Nat → Nat) (k n : Nat) : Prop := TK (tkT b k) n ∧ tkp b k n = k
theorem u24_1 (N : Nat) (M : nM) : fX12_readUnit_24 N (1 : Int32) M = (fX12_emits (1 : Int32) ((M 107 19) - (7 : Int32)) M).bind fun p1 => (fX12_reads_all N p1.2).bind fun p2 => some ((0 : Int32), p2.2) := by
  unfold fX12_readUnit_24
  rw [if_pos (show ¬ (1 : Int32) = 0 by decide)]
  unfold fX12_readUnit_43
  rw [if_neg (show ¬ (1 : Int32) = 0 by decide)]
  unfold fX12_readUnit_53
  rw [if_neg (show ¬ (1 : Int32) = 0 by decide)]
  rfl
theorem u24_0 (N : Nat) (M : nM) : fX12_readUnit_24 N (0 : Int32) M = if (M 107 18) = (3 : Int32) then (fX12_emits (0 : Int32) (M 107 19) M).bind fun p1 => (fX12_reads_all N p1.2).bind fun p2 => some ((0 : Int32), p2.2) else (fX12_errs (1 : Int32) M).bind fun p => some (p.1, p.2) := by
  unfold fX12_readUnit_24
  rw [if_neg (show ¬ ¬ (0 : Int32) = 0 by decide)]
  unfold fX12_readUnit_43
  rw [if_pos (show (0 : Int32) = 0 from rfl)]
  unfold fX12_readUnit_53
  rw [if_pos (show (0 : Int32) = 0 from rfl)]
  rfl
theorem e_unM {b : Nat → Nat} {k n N j : Nat} {v : Int32} {M0 : nM} {c : List lOp} (hN : 1000 ≤ N) (hT : MT b k n) (hM : MB b k M0) (hj : j ≤ n) (hc : lm c ≤ j) : fX12_readUnit N (ms b k v M0 j (l_mods c)) = mR b k v M0 (sp_un (tkT b k) j c) := by
  obtain ⟨h, h1⟩ := hT
  have hn := h.1
  obtain ⟨k1, k2, k3, k4, k5⟩ := h.2 j hj
  have hc' : (l_mods c).length ≤ j := hc
  -- what is no fact
  have e0 : ¬ ((tkT b k j).1 = 2 ∧ 7 ≤ (tkT b k j).2.1 ∧ (tkT b k j).2.1 ≤ 17) → fX12_readUnit_24 N (0 : Int32) (ms b k v M0 j (l_mods c)) = mR b k v M0 (sp_un (tkT b k) j c) := fun y => by
    unfold sp_un
    rw [u24_0]
    by_cases z : isN (tkT b k) j
    · have hl := tk_N h hj z
      have z' : (tkT b k j).1 = 3 := z
      rw [if_pos ((e_mN h hj).mpr z), if_pos z, ms_19, tkw_v (by omega), show (0 : Int32) = nI 0 from rfl, e_emM (by omega), Option.bind_some]
      show ((fX12_reads_all N (ms b k v M0 j (l_mods c ++ [(0, (tkT b k j).2.1)]))).bind _) = _
      rw [e_rds hN h1 hM hj, nx_l hl, Option.bind_some, mR_r, lmo (by decide)]
      rfl
    · rw [if_neg (fun q => z ((e_mN h hj).mp q)), if_neg z, if_neg y, show (1 : Int32) = nI 1 from rfl, e_ers2]
      rfl
  unfold fX12_readUnit
  by_cases t2 : (tkT b k j).1 = 2
  · rw [if_neg (not_not_intro (show ms b k v M0 j (l_mods c) 107 18 = (2 : Int32) by rw [ms_18, t2]; rfl))]
    have hv := k3 t2
    have ea : fX12_canAsk (ms b k v M0 j (l_mods c) 107 19) (ms b k v M0 j (l_mods c)) = some (cb (decide (7 ≤ (tkT b k j).2.1 ∧ (tkT b k j).2.1 ≤ 17)), ms b k v M0 j (l_mods c)) := by
      unfold fX12_canAsk
      rw [ms_19, tkw_v (by omega), e_isIn, Option.bind_some, show (7 : Int32) = nI 7 from rfl, show (17 : Int32) = nI 17 from rfl, tx_w 7 17 (by decide) _ (by omega) (by decide)]
      cases decide (7 ≤ (tkT b k j).2.1 ∧ (tkT b k j).2.1 ≤ 17) <;> rfl
    rw [ea, Option.bind_some]
    by_cases y : 7 ≤ (tkT b k j).2.1 ∧ (tkT b k j).2.1 ≤ 17
    · have hl := tk_lt h hj (by rw [t2]; decide)
      rw [decide_eq_true y, if_neg (show ¬ (cb true : Int32) = 0 by decide)]
      show fX12_readUnit_24 N (1 : Int32) (ms b k v M0 j (l_mods c)) = _
      rw [u24_1]
      unfold sp_un
      rw [if_neg (show ¬ isN (tkT b k) j from fun q => by have q' : (tkT b k j).1 = 3 := q; omega), if_pos ⟨t2, y⟩, ms_19, tkw_v (by omega), show nI (tkT b k j).2.1 - (7 : Int32) = nI ((tkT b k j).2.1 - 7) from pk_sub (b := 7) y.1, show (1 : Int32) = nI 1 from rfl, e_emM (by omega), Option.bind_some]
      show ((fX12_reads_all N (ms b k v M0 j (l_mods c ++ [(1, (tkT b k j).2.1 - 7)]))).bind _) = _
      rw [e_rds hN h1 hM hj, nx_l hl, Option.bind_some, mR_r, lmo (by decide)]
      rfl
    · rw [decide_eq_false y, if_pos (show (cb false : Int32) = 0 from rfl)]
      exact e0 (fun q => y q.2)
  · rw [if_pos (show ¬ ms b k v M0 j (l_mods c) 107 18 = (2 : Int32) from fun q => t2 ((nI_eq (b := 2) (by omega) (by decide)).mp q))]
    exact e0 (fun q => t2 q.1)
theorem p10_eq (N f : Nat) (M : nM) : fX12_readProduct_10 N (f + 1) M = (fX12_isSign (42 : Int32) M).bind fun p1 => if ¬ p1.1 = 0 then fX12_readProduct_28 N (fun M => fX12_readProduct_10 N f M) p1.2 else (fX12_isSign (47 : Int32) p1.2).bind fun p2 => if p2.1 = 0 then some ((0 : Int32), p2.2) else fX12_readProduct_28 N (fun M => fX12_readProduct_10 N f M) p2.2 := rfl
theorem p28_1 {N : Nat} {k10 : nM → Option (Int32 × nM)} {M : nM} (h : fX12_isSign (42 : Int32) M = some (cb true, M)) : fX12_readProduct_28 N k10 M = (fX12_reads_all N M).bind fun p2 => (fX12_readUnit N p2.2).bind fun p1 => if ¬ p1.1 = (-1 : Int32) then (fX12_emits (4 : Int32) (0 : Int32) p1.2).bind fun p => k10 p.2 else some ((-1 : Int32), p1.2) := by
  unfold fX12_readProduct_28
  rw [h, Option.bind_some]
  congr 1
theorem p28_0 {N : Nat} {k10 : nM → Option (Int32 × nM)} {M : nM} (h : fX12_isSign (42 : Int32) M = some (cb false, M)) : fX12_readProduct_28 N k10 M = (fX12_reads_all N M).bind fun p2 => if (p2.2 107 18) = (3 : Int32) then (if ¬ (p2.2 107 19) = 0 then ((fX12_readUnit N p2.2).bind fun p1 => if ¬ p1.1 = (-1 : Int32) then (fX12_emits (5 : Int32) (0 : Int32) p1.2).bind fun p => k10 p.2 else some ((-1 : Int32), p1.2)) else ((fX12_errs (2 : Int32) p2.2).bind fun p => some (p.1, p.2))) else ((fX12_errs (1 : Int32) p2.2).bind fun p => some (p.1, p.2)) := by
  unfold fX12_readProduct_28
  rw [h, Option.bind_some]
  congr 1
theorem c_pdM {b : Nat → Nat} {k n N : Nat} {v : Int32} {M0 : nM} (hN : 1000 ≤ N) (hT : MT b k n) (hM : MB b k M0) : ∀ (d j f : Nat) (c : List lOp), j ≤ n → n < j + d → n < j + f → lm c ≤ j → fX12_readProduct_10 N f (ms b k v M0 j (l_mods c)) = mR b k v M0 (sp_pl (tkT b k) d j c) := by
  obtain ⟨h, h1⟩ := id hT
  have hn := h.1
  intro d
  induction d with
  | zero => exact fun j f c hj hd => absurd hd (by omega)
  | succ d ih =>
    intro j f c hj hd hf hc
    obtain ⟨f, rfl⟩ : ∃ g, f = g + 1 := ⟨f - 1, by omega⟩
    have es : sp_pl (tkT b k) (d + 1) j c = if isS (tkT b k) j 42 then rb (sp_un (tkT b k) (j + 1) c) (fun j c => sp_pl (tkT b k) d j (c ++ [(6, 0)])) else if isS (tkT b k) j 47 then (if isN (tkT b k) (j + 1) then (if (tkT b k (j + 1)).2.1 = 0 then .inl (2, j + 1, c) else sp_pl (tkT b k) d (j + 2) (c ++ [(2, (tkT b k (j + 1)).2.1)])) else .inl (1, j + 1, c)) else .inr (j, c) := rfl
    have s42 := e_mS (v := v) (M0 := M0) (c := l_mods c) (s := 42) h hj (by decide)
    have s47 := e_mS (v := v) (M0 := M0) (c := l_mods c) (s := 47) h hj (by decide)
    rw [es, p10_eq, show (42 : Int32) = nI 42 from rfl, s42, Option.bind_some]
    by_cases z : isS (tkT b k) j 42
    · have hl := tk_S h hj z
      rw [decide_eq_true z] at s42
      rw [decide_eq_true z, if_pos (show ¬ (cb true : Int32) = 0 by decide), if_pos z, p28_1 (show fX12_isSign (42 : Int32) (ms b k v M0 j (l_mods c)) = some (cb true, _) from s42), e_rds hN h1 hM hj, nx_l hl, Option.bind_some]
      show ((fX12_readUnit N (ms b k v M0 (j + 1) (l_mods c))).bind _) = _
      rw [e_unM hN hT hM hl (by omega)]
      have g := sp_un_g (c := c) h (show j + 1 ≤ n by omega)
      cases hr : sp_un (tkT b k) (j + 1) c with
      | inl x =>
        rw [rb_l, mR_l, Option.bind_some, if_neg (show ¬ ¬ (-1 : Int32) = -1 by decide)]
      | inr x =>
        obtain ⟨j1, c1⟩ := x
        obtain ⟨g1, g2, D1, g3, g4, g5⟩ := g j1 c1 hr
        have hc1 : lm c1 + 1 ≤ j1 := by rw [g3, lm_a]; omega
        have hc2 : (l_mods c1).length + 1 ≤ j1 := hc1
        rw [rb_r, mR_r, Option.bind_some, if_pos (show ¬ (0 : Int32) = -1 by decide)]
        show ((fX12_emits (4 : Int32) (0 : Int32) (ms b k v M0 j1 (l_mods c1))).bind _) = _
        rw [show (4 : Int32) = nI 4 from rfl, show (0 : Int32) = nI 0 from rfl, e_emM (by omega), Option.bind_some]
        show fX12_readProduct_10 N f (ms b k v M0 j1 (l_mods c1 ++ [(4, 0)])) = _
        have := ih j1 f (c1 ++ [(6, 0)]) g2 (by omega) (by omega) (by rw [lm_a, lm_1 (by decide)]; omega)
        rw [lmo (by decide)] at this
        exact this
    · rw [decide_eq_false z] at s42
      rw [decide_eq_false z, if_neg (show ¬ ¬ (cb false : Int32) = 0 by decide), if_neg z]
      show ((fX12_isSign (47 : Int32) (ms b k v M0 j (l_mods c))).bind _) = _
      rw [show (47 : Int32) = nI 47 from rfl, s47, Option.bind_some]
      by_cases y : isS (tkT b k) j 47
      · have hl := tk_S h hj y
        have hj1 : j + 1 ≤ n := hl
        rw [decide_eq_true y, if_neg (show ¬ (cb true : Int32) = 0 by decide), if_pos y, p28_0 (show fX12_isSign (42 : Int32) (ms b k v M0 j (l_mods c)) = some (cb false, _) from s42), e_rds hN h1 hM hj, nx_l hl, Option.bind_some]
        show (if (ms b k v M0 (j + 1) (l_mods c) 107 18) = (3 : Int32) then (if ¬ (ms b k v M0 (j + 1) (l_mods c) 107 19) = 0 then ((fX12_readUnit N (ms b k v M0 (j + 1) (l_mods c))).bind fun p1 => if ¬ p1.1 = (-1 : Int32) then (fX12_emits (5 : Int32) (0 : Int32) p1.2).bind fun p => fX12_readProduct_10 N f p.2 else some ((-1 : Int32), p1.2)) else ((fX12_errs (2 : Int32) (ms b k v M0 (j + 1) (l_mods c))).bind fun p => some (p.1, p.2))) else ((fX12_errs (1 : Int32) (ms b k v M0 (j + 1) (l_mods c))).bind fun p => some (p.1, p.2))) = _
        by_cases x : isN (tkT b k) (j + 1)
        · have x' : (tkT b k (j + 1)).1 = 3 := x
          have hl2 := tk_N h hj1 x
          have hv := (h.2 (j + 1) hj1).2.2.2.1 x
          rw [if_pos ((e_mN h hj1).mpr x), if_pos x, ms_19, tkw_v (by omega)]
          by_cases w : (tkT b k (j + 1)).2.1 = 0
          · rw [if_neg (not_not_intro (show nI (tkT b k (j + 1)).2.1 = 0 by rw [w]; rfl)), if_pos w, show (2 : Int32) = nI 2 from rfl, e_ers2]
            rfl
          · have eu : sp_un (tkT b k) (j + 1) c = .inr (j + 1 + 1, c ++ [(0, (tkT b k (j + 1)).2.1)]) := if_pos x
            have hc2 : (l_mods (c ++ [(0, (tkT b k (j + 1)).2.1)])).length = lm c + 1 := by
              show lm _ = _
              rw [lm_a, lm_1 (by decide)]
            rw [if_pos (nI_ne0 (by omega) (by omega)), if_neg w, e_unM hN hT hM hj1 (by omega), eu, mR_r, Option.bind_some, if_pos (show ¬ (0 : Int32) = -1 by decide)]
            show ((fX12_emits (5 : Int32) (0 : Int32) (ms b k v M0 (j + 1 + 1) (l_mods (c ++ [(0, (tkT b k (j + 1)).2.1)])))).bind _) = _
            rw [show (5 : Int32) = nI 5 from rfl, show (0 : Int32) = nI 0 from rfl, e_emM (by omega), Option.bind_some, lmo2]
            exact ih (j + 2) f (c ++ [(2, (tkT b k (j + 1)).2.1)]) (by omega) (by omega) (by omega) (by rw [lm_a, lm_2]; omega)
        · rw [if_neg (fun q => x ((e_mN h hj1).mp q)), if_neg x, show (1 : Int32) = nI 1 from rfl, e_ers2]
          rfl
      · rw [decide_eq_false y, if_pos (show (cb false : Int32) = 0 from rfl), if_neg y]
        rfl
theorem e_prM {b : Nat → Nat} {k n N j : Nat} {v : Int32} {M0 : nM} {c : List lOp} (hN : 1000 ≤ N) (hT : MT b k n) (hM : MB b k M0) (hj : j ≤ n) (hc : lm c ≤ j) : fX12_readProduct N (ms b k v M0 j (l_mods c)) = mR b k v M0 (sp_pr (tkT b k) j c) := by
  have h := hT.1
  have hn := h.1
  unfold fX12_readProduct sp_pr
  rw [e_unM hN hT hM hj hc]
  have g := sp_un_g (c := c) h hj
  cases hr : sp_un (tkT b k) j c with
  | inl x => rw [rb_l, mR_l, Option.bind_some, if_neg (show ¬ ¬ (-1 : Int32) = -1 by decide)]
  | inr x =>
    obtain ⟨j1, c1⟩ := x
    obtain ⟨g1, g2, D1, g3, g4, g5⟩ := g j1 c1 hr
    rw [rb_r, mR_r, Option.bind_some, if_pos (show ¬ (0 : Int32) = -1 by decide)]
    exact c_pdM hN hT hM 402 j1 N c1 g2 (by omega) (by omega) (by rw [g3, lm_a]; omega)
theorem q10_eq (N f : Nat) (M : nM) : fX12_readSum_10 N (f + 1) M = (fX12_isSign (43 : Int32) M).bind fun p1 => if ¬ p1.1 = 0 then fX12_readSum_28 N (fun M => fX12_readSum_10 N f M) p1.2 else (fX12_isSign (45 : Int32) p1.2).bind fun p2 => if p2.1 = 0 then some ((0 : Int32), p2.2) else fX12_readSum_28 N (fun M => fX12_readSum_10 N f M) p2.2 := rfl
theorem c_smM {b : Nat → Nat} {k n N : Nat} {v : Int32} {M0 : nM} (hN : 1000 ≤ N) (hT : MT b k n) (hM : MB b k M0) : ∀ (d j f : Nat) (c : List lOp), j ≤ n → n < j + d → n < j + f → lm c ≤ j → fX12_readSum_10 N f (ms b k v M0 j (l_mods c)) = mR b k v M0 (sp_sl (tkT b k) d j c) := by
  obtain ⟨h, h1⟩ := id hT
  have hn := h.1
  intro d
  induction d with
  | zero => exact fun j f c hj hd => absurd hd (by omega)
  | succ d ih =>
    intro j f c hj hd hf hc
    obtain ⟨f, rfl⟩ : ∃ g, f = g + 1 := ⟨f - 1, by omega⟩
    have es : sp_sl (tkT b k) (d + 1) j c = if isS (tkT b k) j 43 then rb (sp_pr (tkT b k) (j + 1) c) (fun j c => sp_sl (tkT b k) d j (c ++ [(4, 0)])) else if isS (tkT b k) j 45 then rb (sp_pr (tkT b k) (j + 1) c) (fun j c => sp_sl (tkT b k) d j (c ++ [(5, 0)])) else .inr (j, c) := rfl
    have s43 := e_mS (v := v) (M0 := M0) (c := l_mods c) (s := 43) h hj (by decide)
    have s45 := e_mS (v := v) (M0 := M0) (c := l_mods c) (s := 45) h hj (by decide)
    have key : ∀ o : Nat, (o = 4 ∨ o = 5) → j < n → fX12_readSum_42 N (fun M => fX12_readSum_10 N f M) (nI (l_mo o)) (ms b k v M0 j (l_mods c)) = mR b k v M0 (rb (sp_pr (tkT b k) (j + 1) c) (fun j c => sp_sl (tkT b k) d j (c ++ [(o, 0)]))) := fun o ho hl => by
      unfold fX12_readSum_42
      rw [e_rds hN h1 hM hj, nx_l hl, Option.bind_some]
      show ((fX12_readProduct N (ms b k v M0 (j + 1) (l_mods c))).bind _) = _
      rw [e_prM hN hT hM hl (by omega)]
      have g := sp_pr_g (c := c) h (show j + 1 ≤ n by omega)
      cases hr : sp_pr (tkT b k) (j + 1) c with
      | inl x => rw [rb_l, mR_l, Option.bind_some, if_neg (show ¬ ¬ (-1 : Int32) = -1 by decide)]
      | inr x =>
        obtain ⟨j1, c1⟩ := x
        obtain ⟨g1, g2, D1, g3, g4, g5⟩ := g j1 c1 hr
        have hc1 : lm c1 + 1 ≤ j1 := by rw [g3, lm_a]; omega
        have hc2 : (l_mods c1).length + 1 ≤ j1 := hc1
        rw [rb_r, mR_r, Option.bind_some, if_pos (show ¬ (0 : Int32) = -1 by decide)]
        show ((fX12_emits (nI (l_mo o)) (0 : Int32) (ms b k v M0 j1 (l_mods c1))).bind _) = _
        rw [show (0 : Int32) = nI 0 from rfl, e_emM (by omega), Option.bind_some]
        show fX12_readSum_10 N f (ms b k v M0 j1 (l_mods c1 ++ [(l_mo o, 0)])) = _
        have := ih j1 f (c1 ++ [(o, 0)]) g2 (by omega) (by omega) (by rw [lm_a, lm_1 (by omega)]; omega)
        rw [lmo (by omega)] at this
        exact this
    rw [es, q10_eq, show (43 : Int32) = nI 43 from rfl, s43, Option.bind_some]
    by_cases z : isS (tkT b k) j 43
    · have hl := tk_S h hj z
      rw [decide_eq_true z, if_pos (show ¬ (cb true : Int32) = 0 by decide), if_pos z]
      show fX12_readSum_28 N (fun M => fX12_readSum_10 N f M) (ms b k v M0 j (l_mods c)) = _
      unfold fX12_readSum_28
      rw [ms_19, tkw_v (by have := z.1; omega), z.2, if_neg (show ¬ ¬ nI 43 = (43 : Int32) from not_not_intro rfl)]
      exact key 4 (Or.inl rfl) hl
    · rw [decide_eq_false z, if_neg (show ¬ ¬ (cb false : Int32) = 0 by decide), if_neg z]
      show ((fX12_isSign (45 : Int32) (ms b k v M0 j (l_mods c))).bind _) = _
      rw [show (45 : Int32) = nI 45 from rfl, s45, Option.bind_some]
      by_cases y : isS (tkT b k) j 45
      · have hl := tk_S h hj y
        rw [decide_eq_true y, if_neg (show ¬ (cb true : Int32) = 0 by decide), if_pos y]
        show fX12_readSum_28 N (fun M => fX12_readSum_10 N f M) (ms b k v M0 j (l_mods c)) = _
        unfold fX12_readSum_28
        rw [ms_19, tkw_v (by have := y.1; omega), y.2, if_pos (show ¬ nI 45 = (43 : Int32) by decide)]
        exact key 5 (Or.inr rfl) hl
      · rw [decide_eq_false y, if_pos (show (cb false : Int32) = 0 from rfl), if_neg y]
        rfl
theorem e_suM {b : Nat → Nat} {k n N j : Nat} {v : Int32} {M0 : nM} {c : List lOp} (hN : 1000 ≤ N) (hT : MT b k n) (hM : MB b k M0) (hj : j ≤ n) (hc : lm c ≤ j) : fX12_readSum N (ms b k v M0 j (l_mods c)) = mR b k v M0 (sp_su (tkT b k) j c) := by
  have h := hT.1
  have hn := h.1
  unfold fX12_readSum sp_su
  rw [e_prM hN hT hM hj hc]
  have g := sp_pr_g (c := c) h hj
  cases hr : sp_pr (tkT b k) j c with
  | inl x => rw [rb_l, mR_l, Option.bind_some, if_neg (show ¬ ¬ (-1 : Int32) = -1 by decide)]
  | inr x =>
    obtain ⟨j1, c1⟩ := x
    obtain ⟨g1, g2, D1, g3, g4, g5⟩ := g j1 c1 hr
    rw [rb_r, mR_r, Option.bind_some, if_pos (show ¬ (0 : Int32) = -1 by decide)]
    exact c_smM hN hT hM 402 j1 N c1 g2 (by omega) (by omega) (by rw [g3, lm_a]; omega)
