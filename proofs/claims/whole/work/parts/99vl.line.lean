/-! ===== text: a line of the law ===== -/
abbrev tL : Type := (Nat × Nat × List lOp) ⊕ (Nat × List lOp × List lOp)
def sp_wh (τ : tK) (j : Nat) (c : List lOp) : tR := if isW τ j 3 then sp_B τ 802 1 false false 0 (j + 1) c else .inr (j, c)
def sp_ln (τ : tK) (j : Nat) (c : List lOp) : tL := match sp_su τ (j + 1) c with
  | .inl e => .inl e
  | .inr x => match sp_wh τ x.1 x.2 with
    | .inl e => .inl e
    | .inr y => if isS τ y.1 59 then .inr (y.1 + 1, x.2, y.2) else .inl (1, y.1, y.2)
theorem sp_wh_g {τ : tK} {n j : Nat} {c : List lOp} (h : TK τ n) (hj : j ≤ n) : ∀ j' c', sp_wh τ j c = .inr (j', c') → j ≤ j' ∧ j' ≤ n ∧ ∃ B, c' = c ++ B ∧ lm B + j ≤ j' ∧ l_okB B := by
  intro j' c' e
  unfold sp_wh at e
  by_cases z : isW τ j 3
  · rw [if_pos z] at e
    have hl := tk_W h hj z
    obtain ⟨g1, g2, D, g3, g4, g5⟩ := sp_cd_g (d := 802) (o := 0) (c := c) h (by decide) (show j + 1 ≤ n from hl) j' c' e
    refine ⟨by omega, g2, D, g3, by omega, Or.inr ⟨?_, ?_⟩⟩
    · have := g5.1 [] []
      rw [List.append_nil] at this
      exact this
    · have := g5.2 0 [] (by decide) trivial
      rw [List.append_nil] at this
      exact this
  · rw [if_neg z] at e
    have e2 := inr_inj e
    have e3 : j = j' := congrArg Prod.fst e2
    have e4 : c = c' := congrArg Prod.snd e2
    exact ⟨by omega, by omega, [], by rw [List.append_nil, e4], by rw [lm_0]; omega, Or.inl rfl⟩
theorem tL_inj {a y : Nat × List lOp × List lOp} (h : (Sum.inr a : tL) = .inr y) : a = y := by
  cases h
  rfl
theorem tL_inl {a x : Nat × Nat × List lOp} (h : (Sum.inl a : tL) = .inl x) : a = x := by
  cases h
  rfl
theorem tL_no {a : Nat × Nat × List lOp} {x : Nat × List lOp × List lOp} (h : (Sum.inl a : tL) = .inr x) : False := by
  cases h
theorem tL_on {a : Nat × Nat × List lOp} {x : Nat × List lOp × List lOp} (h : (Sum.inr x : tL) = .inl a) : False := by
  cases h
/-- how a line goes, step by step -/
theorem sp_ln_x {τ : tK} {n j : Nat} {c : List lOp} (h : TK τ n) (hj : j < n) : (∃ x, sp_su τ (j + 1) c = .inl x ∧ sp_ln τ j c = .inl x) ∨ (∃ (j1 : Nat) (c1 E : List lOp), sp_su τ (j + 1) c = .inr (j1, c1) ∧ j + 1 < j1 ∧ j1 ≤ n ∧ c1 = c ++ E ∧ lm E + (j + 1) ≤ j1 ∧ l_okE E ∧ ((∃ x, sp_wh τ j1 c1 = .inl x ∧ sp_ln τ j c = .inl x) ∨ (∃ (j2 : Nat) (c2 B : List lOp), sp_wh τ j1 c1 = .inr (j2, c2) ∧ j1 ≤ j2 ∧ j2 ≤ n ∧ c2 = c1 ++ B ∧ lm B + j1 ≤ j2 ∧ l_okB B ∧ sp_ln τ j c = if isS τ j2 59 then .inr (j2 + 1, c1, c2) else .inl (1, j2, c2)))) := by
  unfold sp_ln
  cases hr : sp_su τ (j + 1) c with
  | inl x => exact Or.inl ⟨x, rfl, rfl⟩
  | inr x =>
    obtain ⟨j1, c1⟩ := x
    obtain ⟨g1, g2, E, g3, g4, g5⟩ := sp_su_g (c := c) h (show j + 1 ≤ n from hj) j1 c1 hr
    have okE : l_okE E := by
      refine ⟨?_, ?_⟩
      · have := g5.1 [] []
        rw [List.append_nil] at this
        exact this
      · have := g5.2 0 [] (by decide) trivial
        rw [List.append_nil] at this
        exact this
    refine Or.inr ⟨j1, c1, E, rfl, g1, g2, g3, g4, okE, ?_⟩
    show (∃ x, sp_wh τ j1 c1 = .inl x ∧ (match sp_wh τ j1 c1 with
      | .inl e => .inl e
      | .inr y => if isS τ y.1 59 then .inr (y.1 + 1, c1, y.2) else .inl (1, y.1, y.2)) = (.inl x : tL)) ∨ (∃ (j2 : Nat) (c2 B : List lOp), sp_wh τ j1 c1 = .inr (j2, c2) ∧ j1 ≤ j2 ∧ j2 ≤ n ∧ c2 = c1 ++ B ∧ lm B + j1 ≤ j2 ∧ l_okB B ∧ (match sp_wh τ j1 c1 with
      | .inl e => .inl e
      | .inr y => if isS τ y.1 59 then .inr (y.1 + 1, c1, y.2) else .inl (1, y.1, y.2)) = (if isS τ j2 59 then .inr (j2 + 1, c1, c2) else .inl (1, j2, c2) : tL))
    cases hw : sp_wh τ j1 c1 with
    | inl x => exact Or.inl ⟨x, rfl, rfl⟩
    | inr y =>
      obtain ⟨j2, c2⟩ := y
      obtain ⟨k1, k2, B, k3, k4, k5⟩ := sp_wh_g (c := c1) h g2 j2 c2 hw
      exact Or.inr ⟨j2, c2, B, rfl, k1, k2, k3, k4, k5, rfl⟩
/-! the class -/
def FC (C C' : nM) : Prop := (∀ a, a ≠ 85 → ¬ (87 ≤ a ∧ a ≤ 92) → C' a = C a) ∧ (∀ i, i ≠ 6 → C' 85 i = C 85 i) ∧ ∀ i, i ≠ 3 → C' 91 i = C 91 i
theorem FC_r (C : nM) : FC C C := ⟨fun _ _ _ => rfl, fun _ _ => rfl, fun _ _ => rfl⟩
theorem FC_t {C C' C'' : nM} (h1 : FC C C') (h2 : FC C' C'') : FC C C'' := ⟨fun a a1 a2 => (h2.1 a a1 a2).trans (h1.1 a a1 a2), fun i hi => (h2.2.1 i hi).trans (h1.2.1 i hi), fun i hi => (h2.2.2 i hi).trans (h1.2.2 i hi)⟩
theorem FC_u {C : nM} {a i : Nat} {x : Int32} (h : (87 ≤ a ∧ a ≤ 90) ∨ a = 92) : FC C (n_up C a i x) := ⟨fun z _ z2 => n_up_ne (fun e => z2 (by rw [e]; omega)), fun i _ => by rw [n_up_ne (by omega)], fun i _ => by rw [n_up_ne (by omega)]⟩
theorem FC_9 {C : nM} {x : Int32} : FC C (n_up C 91 3 x) := ⟨fun z _ z2 => n_up_ne (fun e => z2 (by rw [e]; omega)), fun i _ => by rw [n_up_ne (by decide)], fun i hi => by rw [n_up_eq, upd_ne hi]⟩
theorem FC_6 {C : nM} {x : Int32} : FC C (n_up C 85 6 x) := ⟨fun z z1 _ => n_up_ne z1, fun i hi => by rw [n_up_eq, upd_ne hi], fun i _ => by rw [n_up_ne (by decide)]⟩
theorem FC_B {τ : tK} {n : Nat} {C C' : nM} (h : FC C C') (hB : CB τ n C) : CB τ n C' := ⟨by rw [h.1 80 (by decide) (by omega)]; exact hB.1, fun i hi => by
  rw [h.1 82 (by decide) (by omega), h.1 83 (by decide) (by omega), h.1 84 (by decide) (by omega)]
  exact hB.2 i hi⟩
def lnC (C : nM) (L w : Nat) (c c1 c2 : List lOp) : nM := n_up (n_up (n_up (n_up (n_up C 87 L (nI w)) 88 L (nI c.length)) 89 L (nI c1.length)) 90 L (nI c2.length)) 85 6 (nI (L + 1))
theorem e_beg {C : nM} {j L w : Nat} {c : List lOp} (hL : C 85 6 = nI L) (h : L < 16) : fX3_begin (nI w) (cs C j c) = some ((), cs (n_up (n_up C 87 L (nI w)) 88 L (nI c.length)) j c) := by
  have e6 : cs C j c 85 6 = nI L := by rw [cs_85, upd_ne (by decide)]; exact hL
  have e5 : cs C j c 85 5 = nI c.length := by rw [cs_85, upd_eq]
  unfold fX3_begin
  show (if (16 : Int32) ≤ cs C j c 85 6 then _ else n_chk (n_ib 16 (cs C j c 85 6)) (n_chk (n_ib 16 (n_up (cs C j c) 87 (cs C j c 85 6).toNatClampNeg (nI w) 85 6)) (some ((), n_up (n_up (cs C j c) 87 (cs C j c 85 6).toNatClampNeg (nI w)) 88 (n_up (cs C j c) 87 (cs C j c 85 6).toNatClampNeg (nI w) 85 6).toNatClampNeg (n_up (cs C j c) 87 (cs C j c 85 6).toNatClampNeg (nI w) 85 5))))) = _
  rw [n_up_ne (show 85 ≠ 87 by decide), e6, e5, if_neg (show ¬ (16 : Int32) ≤ nI L from nI_ge (b := 16) h (by decide)), n_ib_nI h (by decide), n_chk_t, n_chk_t, nI_clamp (show L < 2 ^ 31 by omega), cs_up (by decide) (by decide) (fun z => absurd z (by decide)), cs_up (by decide) (by decide) (fun z => absurd z (by decide))]
theorem e_bwh {C : nM} {j L : Nat} {c : List lOp} (hL : C 85 6 = nI L) (h : L < 16) : fX3_beginWhen (cs C j c) = some ((), cs (n_up C 89 L (nI c.length)) j c) := by
  have e6 : cs C j c 85 6 = nI L := by rw [cs_85, upd_ne (by decide)]; exact hL
  have e5 : cs C j c 85 5 = nI c.length := by rw [cs_85, upd_eq]
  unfold fX3_beginWhen
  rw [e6, e5, if_neg (show ¬ (16 : Int32) ≤ nI L from nI_ge (b := 16) h (by decide)), n_ib_nI h (by decide), n_chk_t, nI_clamp (show L < 2 ^ 31 by omega), cs_up (by decide) (by decide) (fun z => absurd z (by decide))]
theorem e_fin {C : nM} {j L : Nat} {c : List lOp} (hL : C 85 6 = nI L) (h : L < 16) : fX3_finish (cs C j c) = some ((), cs (n_up (n_up C 90 L (nI c.length)) 85 6 (nI (L + 1))) j c) := by
  have e6 : cs C j c 85 6 = nI L := by rw [cs_85, upd_ne (by decide)]; exact hL
  have e5 : cs C j c 85 5 = nI c.length := by rw [cs_85, upd_eq]
  unfold fX3_finish
  show (if (16 : Int32) ≤ cs C j c 85 6 then _ else n_chk (n_ib 16 (cs C j c 85 6)) (some ((), n_up (n_up (cs C j c) 90 (cs C j c 85 6).toNatClampNeg (cs C j c 85 5)) 85 6 ((n_up (cs C j c) 90 (cs C j c 85 6).toNatClampNeg (cs C j c 85 5) 85 6) + (1 : Int32))))) = _
  rw [n_up_ne (show 85 ≠ 90 by decide), e6, e5, if_neg (show ¬ (16 : Int32) ≤ nI L from nI_ge (b := 16) h (by decide)), n_ib_nI h (by decide), n_chk_t, nI_clamp (show L < 2 ^ 31 by omega), nI_1, cs_up (by decide) (by decide) (fun z => absurd z (by decide)), cs_up (by decide) (by decide) (fun _ => by decide)]
theorem ll_eq (N : Nat) (M : nM) : fX6_lawLine N M = n_chk (n_ib 401 (M 80 6)) ((fX3_begin ((M 82 (M 80 6).toNatClampNeg) - (128 : Int32)) M).bind fun p1 => (fX6_step p1.2).bind fun p2 => (fX6_sum N p2.2).bind fun p3 => if ¬ p3.1 = 0 then (fX3_beginWhen p3.2).bind fun p4 => n_chk (n_ib 401 (p4.2 80 6)) (if ¬ (p4.2 82 (p4.2 80 6).toNatClampNeg) = (142 : Int32) then fX6_lawLine_69 N p4.2 else (fX6_step p4.2).bind fun p5 => (fX6_condition_f N (0 : Int32) p5.2).bind fun p6 => if ¬ p6.1 = 0 then fX6_lawLine_69 N p6.2 else some ((0 : Int32), p6.2)) else some ((0 : Int32), p3.2)) := rfl
theorem c_whC {τ : tK} {C : nM} {n N j : Nat} {c : List lOp} (hN : 1000 ≤ N) (h : TK τ n) (hB : CB τ n C) (hj : j ≤ n) (hc : c.length ≤ j) : n_chk (n_ib 401 (cs C j c 80 6)) (if ¬ (cs C j c 82 (cs C j c 80 6).toNatClampNeg) = (142 : Int32) then fX6_lawLine_69 N (cs C j c) else (fX6_step (cs C j c)).bind fun p5 => (fX6_condition_f N (0 : Int32) p5.2).bind fun p6 => if ¬ p6.1 = 0 then fX6_lawLine_69 N p6.2 else some ((0 : Int32), p6.2)) = match sp_wh τ j c with
    | .inl e => some (0, ce τ C e.1 e.2.1 e.2.2)
    | .inr y => fX6_lawLine_69 N (cs C y.1 y.2) := by
  rw [e_chk h hj, e_82 h hB hj]
  unfold sp_wh
  by_cases z : isW τ j 3
  · have hl := tk_W h hj z
    rw [if_neg (not_not_intro (show nI (tx_kd (τ j).1 (τ j).2.1) = (142 : Int32) by rw [kw_i.2.2.2]; exact (kd_W h hj (by decide)).mpr z)), if_pos z, e_stp h hB hj, nx_l hl, Option.bind_some]
    show ((fX6_condition_f N (0 : Int32) (cs C (j + 1) c)).bind _) = _
    rw [e_cdC hN h hB hl (by omega) (by omega)]
    cases sp_B τ 802 1 false false 0 (j + 1) c with
    | inl x => rw [cR_l, Option.bind_some, if_neg (show ¬ ¬ (0 : Int32) = 0 by decide)]
    | inr x =>
      obtain ⟨j1, c1⟩ := x
      rw [cR_r, Option.bind_some, if_pos (show ¬ (1 : Int32) = 0 by decide)]
  · rw [if_pos (show ¬ nI (tx_kd (τ j).1 (τ j).2.1) = (142 : Int32) by rw [kw_i.2.2.2]; exact fun y => z ((kd_W h hj (by decide)).mp y)), if_neg z]
theorem e_lnC {τ : tK} {C : nM} {n N j L : Nat} {c : List lOp} (hN : 1000 ≤ N) (h : TK τ n) (hB : CB τ n C) (hj : j < n) (hc : lm c ≤ j) (hL : C 85 6 = nI L) (hL16 : L < 16) (hw : (τ j).1 = 2 ∧ (τ j).2.1 < 3) : (∀ x, sp_ln τ j c = .inl x → ∃ C' : nM, fX6_lawLine N (cs C j c) = some (0, ce τ C' x.1 x.2.1 x.2.2) ∧ FC C C') ∧ (∀ y, sp_ln τ j c = .inr y → fX6_lawLine N (cs C j c) = some (1, cs (lnC C L (τ j).2.1 c y.2.1 y.2.2) y.1 y.2.2)) := by
  have hn := h.1
  have hcl := lm_le c
  have hkd : tx_kd (τ j).1 (τ j).2.1 = 128 + (τ j).2.1 := by
    unfold tx_kd
    rw [if_pos hw.1]
    have : ∀ w, w < 3 → tx_q w = w := by decide
    rw [this _ hw.2]
  obtain ⟨C1, hC1⟩ : ∃ C1, C1 = n_up (n_up C 87 L (nI (τ j).2.1)) 88 L (nI c.length) := ⟨_, rfl⟩
  have F1 : FC C C1 := by rw [hC1]; exact FC_t (FC_u (by decide)) (FC_u (by decide))
  have hB1 := FC_B F1 hB
  have hL1 : C1 85 6 = nI L := by rw [hC1, n_up_ne (by decide), n_up_ne (by decide)]; exact hL
  have e0 : fX6_lawLine N (cs C j c) = ((fX6_sum N (cs C1 (j + 1) c)).bind fun p3 => if ¬ p3.1 = 0 then (fX3_beginWhen p3.2).bind fun p4 => n_chk (n_ib 401 (p4.2 80 6)) (if ¬ (p4.2 82 (p4.2 80 6).toNatClampNeg) = (142 : Int32) then fX6_lawLine_69 N p4.2 else (fX6_step p4.2).bind fun p5 => (fX6_condition_f N (0 : Int32) p5.2).bind fun p6 => if ¬ p6.1 = 0 then fX6_lawLine_69 N p6.2 else some ((0 : Int32), p6.2)) else some ((0 : Int32), p3.2)) := by
    rw [ll_eq, e_chk h (by omega), e_82 h hB (by omega), hkd, show nI (128 + (τ j).2.1) - (128 : Int32) = nI (128 + (τ j).2.1 - 128) from pk_sub (b := 128) (by omega), show 128 + (τ j).2.1 - 128 = (τ j).2.1 by omega, e_beg hL hL16, Option.bind_some, ← hC1]
    show ((fX6_step (cs C1 j c)).bind _) = _
    rw [e_stp h hB1 (by omega), nx_l hj, Option.bind_some]
  rw [e0, e_suC hN h hB1 hj (by omega) (by omega)]
  rcases sp_ln_x (c := c) h hj with ⟨x, x1, x2⟩ | ⟨j1, c1, E, a1, a2, a3, a4, a5, a6, a7⟩
  · rw [x1, x2, cR_l, Option.bind_some, if_neg (show ¬ ¬ (0 : Int32) = 0 by decide)]
    exact ⟨fun y hy => ⟨C1, by rw [← tL_inl hy], F1⟩, fun y hy => (tL_no hy).elim⟩
  · have hc1 : lm c1 ≤ j1 := by rw [a4, lm_a]; omega
    have hcl1 := lm_le c1
    obtain ⟨C2, hC2⟩ : ∃ C2, C2 = n_up C1 89 L (nI c1.length) := ⟨_, rfl⟩
    have F2 : FC C C2 := by rw [hC2]; exact FC_t F1 (FC_u (by decide))
    have hB2 := FC_B F2 hB
    have hL2 : C2 85 6 = nI L := by rw [hC2, n_up_ne (by decide)]; exact hL1
    rw [a1, cR_r, Option.bind_some, if_pos (show ¬ (1 : Int32) = 0 by decide)]
    show (∀ x, sp_ln τ j c = .inl x → ∃ C' : nM, ((fX3_beginWhen (cs C1 j1 c1)).bind _) = _ ∧ FC C C') ∧ (∀ y, sp_ln τ j c = .inr y → ((fX3_beginWhen (cs C1 j1 c1)).bind _) = _)
    rw [e_bwh hL1 hL16, Option.bind_some, ← hC2]
    have ew := c_whC (N := N) (c := c1) hN h hB2 a3 (by omega)
    rcases a7 with ⟨x, x1, x2⟩ | ⟨j2, c2, B, b1, b2, b3, b4, b5, b6, b7⟩
    · rw [x1] at ew
      rw [x2]
      refine ⟨fun y hy => ⟨C2, ?_, F2⟩, fun y hy => (tL_no hy).elim⟩
      rw [← tL_inl hy]
      exact ew
    · rw [b1] at ew
      have hc2 : lm c2 ≤ j2 := by rw [b4, lm_a]; omega
      obtain ⟨C3, hC3⟩ : ∃ C3, C3 = n_up (n_up C2 90 L (nI c2.length)) 85 6 (nI (L + 1)) := ⟨_, rfl⟩
      have F3 : FC C C3 := by rw [hC3]; exact FC_t F2 (FC_t (FC_u (by decide)) FC_6)
      have hB3 := FC_B F3 hB
      have el : fX6_lawLine_69 N (cs C2 j2 c2) = if isS τ j2 59 then some (1, cs C3 (j2 + 1) c2) else some (0, ce τ C3 1 j2 c2) := by
        unfold fX6_lawLine_69
        rw [e_fin hL2 hL16, Option.bind_some, ← hC3]
        show ((fX6_expect (59 : Int32) (cs C3 j2 c2)).bind _) = _
        rw [show (59 : Int32) = nI 59 from rfl, e_exS h hB3 b3 (by decide) (by decide)]
        by_cases z : isS τ j2 59
        · rw [if_pos z]; rfl
        · rw [if_neg z]; rfl
      have ew' := ew.trans el
      rw [b7]
      by_cases z : isS τ j2 59
      · rw [if_pos z] at ew' ⊢
        refine ⟨fun y hy => (tL_on hy).elim, fun y hy => ?_⟩
        rw [← tL_inj hy]
        have eC : C3 = lnC C L (τ j).2.1 c c1 c2 := by rw [hC3, hC2, hC1]; rfl
        rw [eC] at ew'
        exact ew'
      · rw [if_neg z] at ew' ⊢
        refine ⟨fun y hy => ⟨C3, ?_, F3⟩, fun y hy => (tL_no hy).elim⟩
        rw [← tL_inl hy]
        exact ew'
/-! the class, line by line -/
def bgn (τ : tK) (t j : Nat) : Prop := if t = 0 then (τ j).1 = 2 ∧ (τ j).2.1 < 3 else if t = 3 then isW τ j 19 else isW τ j 18
theorem kd_b0 {τ : tK} {n j : Nat} (h : TK τ n) (hj : j ≤ n) : (128 ≤ tx_kd (τ j).1 (τ j).2.1 ∧ tx_kd (τ j).1 (τ j).2.1 ≤ 130) ↔ ((τ j).1 = 2 ∧ (τ j).2.1 < 3) := by
  obtain ⟨k1, k2, k3, k4, k5⟩ := h.2 j hj
  unfold tx_kd
  by_cases e2 : (τ j).1 = 2
  · rw [if_pos e2]
    have : ∀ w, w < 28 → (tx_q w ≤ 2 ↔ w < 3) := by decide +kernel
    have := this _ (k3 e2)
    constructor
    · intro z; exact ⟨e2, this.mp (by omega)⟩
    · intro z; have := this.mpr z.2; omega
  · rw [if_neg e2]
    by_cases e3 : (τ j).1 = 3
    · rw [if_pos e3]; omega
    · rw [if_neg e3]
      by_cases e4 : (τ j).1 = 4
      · rw [if_pos e4]
        have := tx_mkb _ (k5 e4)
        omega
      · rw [if_neg e4]; omega
theorem kw_j : (146 : Int32) = nI (128 + tx_q 18) ∧ (147 : Int32) = nI (128 + tx_q 19) ∧ (148 : Int32) = nI (128 + tx_q 20) ∧ (149 : Int32) = nI (128 + tx_q 21) ∧ (150 : Int32) = nI (128 + tx_q 22) ∧ (151 : Int32) = nI (128 + tx_q 23) ∧ (137 : Int32) = nI (128 + tx_q 13) ∧ (152 : Int32) = nI (128 + tx_q 24) ∧ (153 : Int32) = nI (128 + tx_q 25) ∧ (154 : Int32) = nI (128 + tx_q 26) ∧ (155 : Int32) = nI (128 + tx_q 27) := by decide
theorem e_cbg {τ : tK} {C : nM} {n j t : Nat} {c : List lOp} (h : TK τ n) (hB : CB τ n C) (hj : j ≤ n) (ht : t ≤ 3) : (bgn τ t j → fX6_canBegin (nI t) (cs C j c) = some (1, cs C j c)) ∧ (¬ bgn τ t j → fX6_canBegin (nI t) (cs C j c) = some (0, cs C j c)) := by
  have hK := kd_b h hj
  have e0 : fX6_canBegin (nI t) (cs C j c) = n_chk (n_ib 401 (cs C j c 80 6)) (if ¬ nI t = 0 then (if ¬ nI t = (3 : Int32) then fX6_canBegin_49 (146 : Int32) (cs C j c 82 (cs C j c 80 6).toNatClampNeg) (cs C j c) else fX6_canBegin_49 (147 : Int32) (cs C j c 82 (cs C j c 80 6).toNatClampNeg) (cs C j c)) else if (cs C j c 82 (cs C j c 80 6).toNatClampNeg) < (128 : Int32) then some ((0 : Int32), cs C j c) else if (130 : Int32) < (cs C j c 82 (cs C j c 80 6).toNatClampNeg) then some ((0 : Int32), cs C j c) else some ((1 : Int32), cs C j c)) := rfl
  rw [e0, e_chk h hj, e_82 h hB hj]
  have k49 : ∀ w, w < 28 → (isW τ j w → fX6_canBegin_49 (nI (128 + tx_q w)) (nI (tx_kd (τ j).1 (τ j).2.1)) (cs C j c) = some (1, cs C j c)) ∧ (¬ isW τ j w → fX6_canBegin_49 (nI (128 + tx_q w)) (nI (tx_kd (τ j).1 (τ j).2.1)) (cs C j c) = some (0, cs C j c)) := fun w hw => by
    unfold fX6_canBegin_49
    exact ⟨fun z => by rw [if_neg (not_not_intro ((kd_W h hj hw).mpr z))], fun z => by rw [if_pos (fun y => z ((kd_W h hj hw).mp y))]⟩
  unfold bgn
  by_cases t0 : t = 0
  · subst t0
    rw [if_neg (show ¬ ¬ nI 0 = 0 by decide), if_pos rfl]
    have hb := kd_b0 h hj
    refine ⟨fun z => ?_, fun z => ?_⟩
    · have := hb.mpr z
      rw [if_neg (show ¬ nI (tx_kd (τ j).1 (τ j).2.1) < (128 : Int32) from nI_nlt (b := 128) this.1 (by omega)), if_neg (show ¬ (130 : Int32) < nI (tx_kd (τ j).1 (τ j).2.1) from nI_nlt (a := 130) this.2 (by decide))]
    · by_cases a1 : tx_kd (τ j).1 (τ j).2.1 < 128
      · rw [if_pos (show nI (tx_kd (τ j).1 (τ j).2.1) < (128 : Int32) from nI_lt (b := 128) a1 (by decide))]
      · rw [if_neg (show ¬ nI (tx_kd (τ j).1 (τ j).2.1) < (128 : Int32) from nI_nlt (b := 128) (by omega) (by omega)), if_pos (show (130 : Int32) < nI (tx_kd (τ j).1 (τ j).2.1) from nI_lt (a := 130) (by
          by_cases q : tx_kd (τ j).1 (τ j).2.1 ≤ 130
          · exact absurd (hb.mp ⟨by omega, q⟩) z
          · omega) (by omega))]
  · rw [if_pos (nI_ne0 (by omega) (by omega)), if_neg t0]
    by_cases t3 : t = 3
    · subst t3
      rw [if_neg (show ¬ ¬ nI 3 = (3 : Int32) by decide), if_pos rfl, kw_j.2.1]
      exact k49 19 (by decide)
    · rw [if_pos (show ¬ nI t = (3 : Int32) from fun y => t3 ((nI_eq (b := 3) (by omega) (by decide)).mp y)), if_neg t3, kw_j.1]
      exact k49 18 (by decide)
/-- the class's lines of text t -/
def lnT (N : Nat) (G : nG) (t : Nat) (M : nM) : Option (Int32 × nM) := if t = 0 then fX6_lawLine N M else if t = 1 then fX6_supperLine G M else if t = 2 then fX6_customLine G M else fX6_childLine N G M
theorem rd_eq (N f : Nat) (G : nG) (x1 x3 : Int32) (M : nM) : fX6_read_53 N G (f + 1) x1 x3 M = if (16 : Int32) < x3 then some ((1 : Int32), M) else n_chk (n_ib 401 (M 80 6)) (if (M 82 (M 80 6).toNatClampNeg) = 0 then some ((1 : Int32), M) else (fX6_canBegin x1 M).bind fun p1 => if ¬ p1.1 = 0 then (if ¬ x3 = (16 : Int32) then (if x1 = (0 : Int32) then (fX6_lawLine N p1.2).bind fun p2 => fX6_read_157 N G (fun x1 x3 M => fX6_read_53 N G f x1 x3 M) x1 x3 p2.1 p2.2 else if x1 = (1 : Int32) then (fX6_supperLine G p1.2).bind fun p3 => fX6_read_157 N G (fun x1 x3 M => fX6_read_53 N G f x1 x3 M) x1 x3 p3.1 p3.2 else if x1 = (2 : Int32) then (fX6_customLine G p1.2).bind fun p4 => fX6_read_157 N G (fun x1 x3 M => fX6_read_53 N G f x1 x3 M) x1 x3 p4.1 p4.2 else (fX6_childLine N G p1.2).bind fun p5 => fX6_read_157 N G (fun x1 x3 M => fX6_read_53 N G f x1 x3 M) x1 x3 p5.1 p5.2) else ((fX6_blame (3 : Int32) p1.2).bind fun p => n_chk (p.1 == 0 || p.1 == 1) (some (p.1, p.2)))) else ((fX6_blame (1 : Int32) p1.2).bind fun p => n_chk (p.1 == 0 || p.1 == 1) (some (p.1, p.2)))) := rfl
theorem e_53 {τ : tK} {C : nM} {n N j t i f : Nat} {G : nG} {c : List lOp} (h : TK τ n) (hB : CB τ n C) (hj : j ≤ n) (ht : t ≤ 3) (hi : i ≤ 16) : ((τ j).1 = 0 → fX6_read_53 N G (f + 1) (nI t) (nI i) (cs C j c) = some (1, cs C j c)) ∧ ((τ j).1 ≠ 0 → ¬ bgn τ t j → fX6_read_53 N G (f + 1) (nI t) (nI i) (cs C j c) = some (0, ce τ C 1 j c)) ∧ ((τ j).1 ≠ 0 → bgn τ t j → i = 16 → fX6_read_53 N G (f + 1) (nI t) (nI i) (cs C j c) = some (0, ce τ C 3 j c)) ∧ ((τ j).1 ≠ 0 → bgn τ t j → i < 16 → fX6_read_53 N G (f + 1) (nI t) (nI i) (cs C j c) = (lnT N G t (cs C j c)).bind fun p => if ¬ p.1 = 0 then fX6_read_53 N G f (nI t) (nI (i + 1)) p.2 else some ((0 : Int32), p.2)) := by
  obtain ⟨b1, b2⟩ := e_cbg (c := c) h hB hj ht
  rw [rd_eq, if_neg (show ¬ (16 : Int32) < nI i from nI_nlt (a := 16) hi (by decide)), e_chk h hj, e_82 h hB hj]
  refine ⟨fun z => by rw [if_pos ((kd_0 h hj).mpr z)], fun z y => ?_, fun z y w => ?_, fun z y w => ?_⟩
  · rw [if_neg (fun q => z ((kd_0 h hj).mp q)), b2 y, Option.bind_some, if_neg (show ¬ ¬ (0 : Int32) = 0 by decide)]
    exact e_blm21 h hB hj
  · rw [if_neg (fun q => z ((kd_0 h hj).mp q)), b1 y, Option.bind_some, if_pos (show ¬ (1 : Int32) = 0 by decide), if_neg (not_not_intro (show nI i = (16 : Int32) by rw [w]; rfl))]
    exact e_blm23 h hB hj
  · rw [if_neg (fun q => z ((kd_0 h hj).mp q)), b1 y, Option.bind_some, if_pos (show ¬ (1 : Int32) = 0 by decide), if_pos (show ¬ nI i = (16 : Int32) from fun q => by have := (nI_eq (b := 16) (by omega) (by decide)).mp q; omega)]
    have e157 : ∀ p : Int32 × nM, fX6_read_157 N G (fun x1 x3 M => fX6_read_53 N G f x1 x3 M) (nI t) (nI i) p.1 p.2 = if ¬ p.1 = 0 then fX6_read_53 N G f (nI t) (nI (i + 1)) p.2 else some ((0 : Int32), p.2) := fun p => by
      rw [← nI_1]
      rfl
    unfold lnT
    simp only [e157]
    by_cases t0 : t = 0
    · subst t0
      rw [if_pos (show nI 0 = (0 : Int32) from rfl), if_pos rfl]
    · rw [if_neg (show ¬ nI t = (0 : Int32) from nI_ne0 (by omega) (by omega)), if_neg t0]
      by_cases t1 : t = 1
      · subst t1
        rw [if_pos (show nI 1 = (1 : Int32) from rfl), if_pos rfl]
      · rw [if_neg (show ¬ nI t = (1 : Int32) from fun q => t1 ((nI_eq (b := 1) (by omega) (by decide)).mp q)), if_neg t1]
        by_cases t2 : t = 2
        · subst t2
          rw [if_pos (show nI 2 = (2 : Int32) from rfl), if_pos rfl]
        · rw [if_neg (show ¬ nI t = (2 : Int32) from fun q => t2 ((nI_eq (b := 2) (by omega) (by decide)).mp q)), if_neg t2]
