/-! ===== text: the class reads a condition ===== -/
theorem kw_i : (145 : Int32) = nI (128 + tx_q 6) ∧ (144 : Int32) = nI (128 + tx_q 5) ∧ (143 : Int32) = nI (128 + tx_q 4) ∧ (142 : Int32) = nI (128 + tx_q 3) := by decide
theorem c_136 {τ : tK} {M0 : nM} {n N j s : Nat} {c : List lOp} {r0 r1 : Int32 → nM → Option (Int32 × nM)} (hN : 1000 ≤ N) (h : TK τ n) (hB : CB τ n M0) (hj : j ≤ n) (hs : isS τ j s) (hs3 : s = 60 ∨ s = 61 ∨ s = 62) (hc : c.length ≤ j) : fX6_claim_136 N r0 r1 (nI s) (cs M0 j c) = cR τ M0 (rb (sp_su τ (j + 1) c) (fun j2 c2 => .inr (j2, c2 ++ [(if s = 60 then 7 else if s = 61 then 8 else 9, 0)]))) := by
  have hn := h.1
  have hl := tk_S h hj hs
  have hj1 : j + 1 ≤ n := hl
  unfold fX6_claim_136
  rw [e_stp h hB hj, nx_l hl, Option.bind_some]
  show ((fX6_sum N (cs M0 (j + 1) c)).bind _) = _
  rw [e_suC hN h hB hj1 (by omega) (by omega)]
  have g := sp_su_g (c := c) h hj1
  cases hr : sp_su τ (j + 1) c with
  | inl x => rw [rb_l, cR_l, Option.bind_some, if_neg (show ¬ ¬ (0 : Int32) = 0 by decide)]
  | inr x =>
    obtain ⟨j1, c1⟩ := x
    obtain ⟨g1, g2, D1, g3, g4, g5⟩ := g j1 c1 hr
    have gl := lm_le D1
    have hc1 : c1.length + (j + 1) ≤ c.length + j1 := by rw [g3, List.length_append]; omega
    rw [rb_r, cR_r, Option.bind_some, if_pos (show ¬ (1 : Int32) = 0 by decide)]
    have k177 : ∀ O : Nat, O < 16 → fX6_claim_177 N r0 r1 (nI O) (cs M0 j1 c1) = some (1, cs M0 j1 (c1 ++ [(O, 0)])) := fun O hO => by
      unfold fX6_claim_177
      rw [show (0 : Int32) = nI 0 from rfl, e_emt hO (by decide) (by omega)]
      rfl
    show (if ¬ nI s = (60 : Int32) then (if ¬ nI s = (61 : Int32) then fX6_claim_177 N r0 r1 (9 : Int32) (cs M0 j1 c1) else fX6_claim_177 N r0 r1 (8 : Int32) (cs M0 j1 c1)) else fX6_claim_177 N r0 r1 (7 : Int32) (cs M0 j1 c1)) = _
    rcases hs3 with q | q | q
    · subst q
      rw [if_neg (show ¬ ¬ nI 60 = (60 : Int32) by decide), if_pos rfl]
      exact k177 7 (by decide)
    · subst q
      rw [if_pos (show ¬ nI 61 = (60 : Int32) by decide), if_neg (show ¬ ¬ nI 61 = (61 : Int32) by decide), if_neg (by decide), if_pos rfl]
      exact k177 8 (by decide)
    · subst q
      rw [if_pos (show ¬ nI 62 = (60 : Int32) by decide), if_pos (show ¬ nI 62 = (61 : Int32) by decide), if_neg (by decide), if_neg (by decide)]
      exact k177 9 (by decide)
theorem cl_eq (N : Nat) (r0 r1 : Int32 → nM → Option (Int32 × nM)) (x1 : Int32) (M : nM) : fX6_claim N r0 r1 x1 M = n_chk (n_ib 401 (M 80 6)) (if (M 82 (M 80 6).toNatClampNeg) = (145 : Int32) then fX6_claim_23 N r0 r1 x1 (M 82 (M 80 6).toNatClampNeg) M else if ¬ (M 82 (M 80 6).toNatClampNeg) = (40 : Int32) then (fX6_sum N M).bind fun p2 => if ¬ p2.1 = 0 then n_chk (n_ib 401 (p2.2 80 6)) (if (p2.2 82 (p2.2 80 6).toNatClampNeg) = (60 : Int32) then fX6_claim_136 N r0 r1 (p2.2 82 (p2.2 80 6).toNatClampNeg) p2.2 else if (p2.2 82 (p2.2 80 6).toNatClampNeg) = (61 : Int32) then fX6_claim_136 N r0 r1 (p2.2 82 (p2.2 80 6).toNatClampNeg) p2.2 else if (p2.2 82 (p2.2 80 6).toNatClampNeg) = (62 : Int32) then fX6_claim_136 N r0 r1 (p2.2 82 (p2.2 80 6).toNatClampNeg) p2.2 else ((fX6_blame (1 : Int32) p2.2).bind fun p => n_chk (p.1 == 0 || p.1 == 1) (some (p.1, p.2)))) else some ((0 : Int32), p2.2) else fX6_claim_23 N r0 r1 x1 (M 82 (M 80 6).toNatClampNeg) M) := rfl
theorem c_cm {τ : tK} {M0 : nM} {n N j : Nat} {c : List lOp} {r0 r1 : Int32 → nM → Option (Int32 × nM)} (hN : 1000 ≤ N) (h : TK τ n) (hB : CB τ n M0) (hj : j ≤ n) (h0 : 0 < j) (hc : c.length ≤ j) : ((fX6_sum N (cs M0 j c)).bind fun p2 => if ¬ p2.1 = 0 then n_chk (n_ib 401 (p2.2 80 6)) (if (p2.2 82 (p2.2 80 6).toNatClampNeg) = (60 : Int32) then fX6_claim_136 N r0 r1 (p2.2 82 (p2.2 80 6).toNatClampNeg) p2.2 else if (p2.2 82 (p2.2 80 6).toNatClampNeg) = (61 : Int32) then fX6_claim_136 N r0 r1 (p2.2 82 (p2.2 80 6).toNatClampNeg) p2.2 else if (p2.2 82 (p2.2 80 6).toNatClampNeg) = (62 : Int32) then fX6_claim_136 N r0 r1 (p2.2 82 (p2.2 80 6).toNatClampNeg) p2.2 else ((fX6_blame (1 : Int32) p2.2).bind fun p => n_chk (p.1 == 0 || p.1 == 1) (some (p.1, p.2)))) else some ((0 : Int32), p2.2)) = cR τ M0 (sp_cm τ j c) := by
  rw [e_suC hN h hB hj h0 hc]
  unfold sp_cm
  have g := sp_su_g (c := c) h hj
  cases hr : sp_su τ j c with
  | inl x => rw [rb_l, cR_l, Option.bind_some, if_neg (show ¬ ¬ (0 : Int32) = 0 by decide)]
  | inr x =>
    obtain ⟨j1, c1⟩ := x
    obtain ⟨g1, g2, D1, g3, g4, g5⟩ := g j1 c1 hr
    have gl := lm_le D1
    have hc1 : c1.length + j ≤ c.length + j1 := by rw [g3, List.length_append]; omega
    rw [rb_r, cR_r, Option.bind_some, if_pos (show ¬ (1 : Int32) = 0 by decide)]
    show n_chk (n_ib 401 (cs M0 j1 c1 80 6)) (if (cs M0 j1 c1 82 (cs M0 j1 c1 80 6).toNatClampNeg) = (60 : Int32) then fX6_claim_136 N r0 r1 (cs M0 j1 c1 82 (cs M0 j1 c1 80 6).toNatClampNeg) (cs M0 j1 c1) else if (cs M0 j1 c1 82 (cs M0 j1 c1 80 6).toNatClampNeg) = (61 : Int32) then fX6_claim_136 N r0 r1 (cs M0 j1 c1 82 (cs M0 j1 c1 80 6).toNatClampNeg) (cs M0 j1 c1) else if (cs M0 j1 c1 82 (cs M0 j1 c1 80 6).toNatClampNeg) = (62 : Int32) then fX6_claim_136 N r0 r1 (cs M0 j1 c1 82 (cs M0 j1 c1 80 6).toNatClampNeg) (cs M0 j1 c1) else ((fX6_blame (1 : Int32) (cs M0 j1 c1)).bind fun p => n_chk (p.1 == 0 || p.1 == 1) (some (p.1, p.2)))) = _
    rw [e_chk h g2, e_82 h hB g2]
    have kS : ∀ s, 5 ≤ s → s < 128 → (nI (tx_kd (τ j1).1 (τ j1).2.1) = nI s ↔ isS τ j1 s) := fun s a b => kd_S h g2 a b
    have go : ∀ s, (s = 60 ∨ s = 61 ∨ s = 62) → isS τ j1 s → fX6_claim_136 N r0 r1 (nI (tx_kd (τ j1).1 (τ j1).2.1)) (cs M0 j1 c1) = cR τ M0 (if isS τ j1 60 ∨ isS τ j1 61 ∨ isS τ j1 62 then rb (sp_su τ (j1 + 1) c1) (fun j2 c2 => .inr (j2, c2 ++ [(if (τ j1).2.1 = 60 then 7 else if (τ j1).2.1 = 61 then 8 else 9, 0)])) else .inl (1, j1, c1)) := fun s hs3 hs => by
      rw [(kS s (by omega) (by omega)).mpr hs, if_pos (show isS τ j1 60 ∨ isS τ j1 61 ∨ isS τ j1 62 by
        rcases hs3 with q | q | q
        · exact Or.inl (by rw [← q]; exact hs)
        · exact Or.inr (Or.inl (by rw [← q]; exact hs))
        · exact Or.inr (Or.inr (by rw [← q]; exact hs))), hs.2]
      exact c_136 hN h hB g2 hs hs3 (by omega)
    by_cases z1 : isS τ j1 60
    · rw [if_pos (show nI (tx_kd (τ j1).1 (τ j1).2.1) = (60 : Int32) from (kS 60 (by decide) (by decide)).mpr z1)]
      exact go 60 (by decide) z1
    · rw [if_neg (show ¬ nI (tx_kd (τ j1).1 (τ j1).2.1) = (60 : Int32) from fun y => z1 ((kS 60 (by decide) (by decide)).mp y))]
      by_cases z2 : isS τ j1 61
      · rw [if_pos (show nI (tx_kd (τ j1).1 (τ j1).2.1) = (61 : Int32) from (kS 61 (by decide) (by decide)).mpr z2)]
        exact go 61 (by decide) z2
      · rw [if_neg (show ¬ nI (tx_kd (τ j1).1 (τ j1).2.1) = (61 : Int32) from fun y => z2 ((kS 61 (by decide) (by decide)).mp y))]
        by_cases z3 : isS τ j1 62
        · rw [if_pos (show nI (tx_kd (τ j1).1 (τ j1).2.1) = (62 : Int32) from (kS 62 (by decide) (by decide)).mpr z3)]
          exact go 62 (by decide) z3
        · rw [if_neg (show ¬ nI (tx_kd (τ j1).1 (τ j1).2.1) = (62 : Int32) from fun y => z3 ((kS 62 (by decide) (by decide)).mp y)), if_neg (show ¬ (isS τ j1 60 ∨ isS τ j1 61 ∨ isS τ j1 62) from fun q => q.elim z1 (fun q => q.elim z2 z3)), e_blm21 h hB g2]
          rfl
theorem k7_eq (N f : Nat) (r0 r1 : Int32 → nM → Option (Int32 × nM)) (x1 x2 x3 x4 : Int32) (M : nM) : fX6_condition_7 N r0 r1 (f + 1) x1 x2 x3 x4 M = if (400 : Int32) ≤ x4 then ((fX6_blame (1 : Int32) M).bind fun p => n_chk (p.1 == 0 || p.1 == 1) (some (p.1, p.2))) else (r0 x1 M).bind fun p2 => if ¬ p2.1 = 0 then (if x3 = 0 then fX6_condition_39 N r0 r1 (fun x1 x2 x3 x4 M => fX6_condition_7 N r0 r1 f x1 x2 x3 x4 M) x1 x2 x4 p2.2 else (fX3_emit (10 : Int32) (0 : Int32) p2.2).bind fun p3 => fX6_condition_39 N r0 r1 (fun x1 x2 x3 x4 M => fX6_condition_7 N r0 r1 f x1 x2 x3 x4 M) x1 x2 x4 p3.2) else some ((0 : Int32), p2.2) := rfl
theorem k39_eq (N : Nat) (r0 r1 : Int32 → nM → Option (Int32 × nM)) (k7 : Int32 → Int32 → Int32 → Int32 → nM → Option (Int32 × nM)) (x1 x2 x4 : Int32) (M : nM) : fX6_condition_39 N r0 r1 k7 x1 x2 x4 M = n_chk (n_ib 401 (M 80 6)) (if ¬ (M 82 (M 80 6).toNatClampNeg) = (144 : Int32) then (if x2 = 0 then fX6_condition_78 N r0 r1 k7 x1 (0 : Int32) x4 M else (fX3_emit (11 : Int32) (0 : Int32) M).bind fun p1 => fX6_condition_78 N r0 r1 k7 x1 (0 : Int32) x4 p1.2) else (fX6_step M).bind fun p => k7 x1 x2 (1 : Int32) (x4 + (1 : Int32)) p.2) := rfl
theorem k78_eq (N : Nat) (r0 r1 : Int32 → nM → Option (Int32 × nM)) (k7 : Int32 → Int32 → Int32 → Int32 → nM → Option (Int32 × nM)) (x1 x3 x4 : Int32) (M : nM) : fX6_condition_78 N r0 r1 k7 x1 x3 x4 M = n_chk (n_ib 401 (M 80 6)) (if (M 82 (M 80 6).toNatClampNeg) = (143 : Int32) then (fX6_step M).bind fun p => k7 x1 (1 : Int32) x3 (x4 + (1 : Int32)) p.2 else some ((1 : Int32), M)) := rfl
theorem c_39 {τ : tK} {M0 : nM} {n N j i : Nat} {c : List lOp} {e : Bool} {x1 : Int32} {r0 r1 : Int32 → nM → Option (Int32 × nM)} {k7 : Int32 → Int32 → Int32 → Int32 → nM → Option (Int32 × nM)} (h : TK τ n) (hB : CB τ n M0) (hj : j ≤ n) (hc : c.length + (if e = true then 1 else 0) ≤ j) : fX6_condition_39 N r0 r1 k7 x1 (cb e) (nI i) (cs M0 j c) = if isW τ j 5 then k7 x1 (cb e) (cb true) (nI (i + 1)) (cs M0 (j + 1) c) else if isW τ j 4 then k7 x1 (cb true) (cb false) (nI (i + 1)) (cs M0 (j + 1) (if e = true then c ++ [(11, 0)] else c)) else some (1, cs M0 j (if e = true then c ++ [(11, 0)] else c)) := by
  have hn := h.1
  rw [k39_eq, e_chk h hj, e_82 h hB hj]
  by_cases z : isW τ j 5
  · rw [if_neg (not_not_intro (show nI (tx_kd (τ j).1 (τ j).2.1) = (144 : Int32) by rw [kw_i.2.1]; exact (kd_W h hj (by decide)).mpr z)), if_pos z, e_stp h hB hj, nx_l (tk_W h hj z), Option.bind_some, nI_1]
    rfl
  · rw [if_pos (show ¬ nI (tx_kd (τ j).1 (τ j).2.1) = (144 : Int32) by rw [kw_i.2.1]; exact fun y => z ((kd_W h hj (by decide)).mp y)), if_neg z]
    have em : (if cb e = 0 then fX6_condition_78 N r0 r1 k7 x1 (0 : Int32) (nI i) (cs M0 j c) else (fX3_emit (11 : Int32) (0 : Int32) (cs M0 j c)).bind fun p1 => fX6_condition_78 N r0 r1 k7 x1 (0 : Int32) (nI i) p1.2) = fX6_condition_78 N r0 r1 k7 x1 (0 : Int32) (nI i) (cs M0 j (if e = true then c ++ [(11, 0)] else c)) := by
      cases e with
      | true =>
        rw [if_pos rfl] at hc
        rw [if_neg (show ¬ (cb true : Int32) = 0 by decide), if_pos rfl, show (11 : Int32) = nI 11 from rfl, show (0 : Int32) = nI 0 from rfl, e_emt (by decide) (by decide) (by omega), Option.bind_some]
      | false => rw [if_pos (show (cb false : Int32) = 0 from rfl), if_neg (by decide)]
    rw [em, k78_eq, e_chk h hj, e_82 h hB hj]
    by_cases y : isW τ j 4
    · rw [if_pos (show nI (tx_kd (τ j).1 (τ j).2.1) = (143 : Int32) by rw [kw_i.2.2.1]; exact (kd_W h hj (by decide)).mpr y), if_pos y, e_stp h hB hj, nx_l (tk_W h hj y), Option.bind_some, nI_1]
      rfl
    · rw [if_neg (show ¬ nI (tx_kd (τ j).1 (τ j).2.1) = (143 : Int32) by rw [kw_i.2.2.1]; exact fun q => y ((kd_W h hj (by decide)).mp q)), if_neg y]
theorem c_B {τ : tK} {M0 : nM} {n N : Nat} (hN : 1000 ≤ N) (h : TK τ n) (hB : CB τ n M0) : ∀ d : Nat, (∀ (f o j : Nat) (e b : Bool) (c : List lOp), o ≤ 8 → j ≤ n → 0 < j → 2 * n + 1 ≤ 2 * j + d → 16 < 2 * o + f → c.length ≤ j → fX6_claim_g N f 0 (nI o) (cs M0 j c) = cR τ M0 (sp_B τ d 0 e b o j c)) ∧ (∀ (f g o j i : Nat) (e b : Bool) (c : List lOp), o ≤ 8 → j ≤ n → 2 * n + 2 ≤ 2 * j + d → 16 < 2 * o + f → n < j + g → i < j → c.length + (if e = true then 1 else 0) + (if b = true then 1 else 0) ≤ j → fX6_condition_7 N (fun z1 M => fX6_claim_g N f 0 z1 M) (fun z1 M => fX6_claim_g N f 1 z1 M) g (nI o) (cb e) (cb b) (nI i) (cs M0 j c) = cR τ M0 (sp_B τ d 1 e b o j c)) := by
  have hn := h.1
  intro d
  induction d with
  | zero => exact ⟨fun f o j e b c _ hj _ hd => absurd hd (by omega), fun f g o j i e b c _ hj hd => absurd hd (by omega)⟩
  | succ d ih =>
    obtain ⟨ih0, ih1⟩ := ih
    refine ⟨fun f o j e b c ho hj h0 hd hf hc => ?_, fun f g o j i e b c ho hj hd hf hg hi hc => ?_⟩
    · obtain ⟨f, rfl⟩ : ∃ g, f = g + 1 := ⟨f - 1, by omega⟩
      have e1 : fX6_claim_g N (f + 1) 0 (nI o) (cs M0 j c) = fX6_claim N (fun z1 M => fX6_claim_g N f 0 z1 M) (fun z1 M => fX6_claim_g N f 1 z1 M) (nI o) (cs M0 j c) := rfl
      rw [e1, cl_eq, e_chk h hj, e_82 h hB hj, sp_B0]
      by_cases z : isW τ j 6
      · have hl := tk_W h hj z
        have ez : nI (tx_kd (τ j).1 (τ j).2.1) = (145 : Int32) := by rw [kw_i.1]; exact (kd_W h hj (by decide)).mpr z
        rw [if_pos ez, if_pos z, ez]
        unfold fX6_claim_23
        by_cases z8 : 8 ≤ o
        · rw [if_pos z8, if_neg (show ¬ nI o < (8 : Int32) from nI_nlt (b := 8) z8 (by omega)), e_blm23 h hB hj]
          rfl
        · rw [if_neg z8, if_pos (show nI o < (8 : Int32) from nI_lt (b := 8) (by omega) (by decide)), e_stp h hB hj, nx_l hl, Option.bind_some, if_pos (show ¬ (145 : Int32) = 40 by decide), nI_1]
          show ((fX6_claim_g N f 0 (nI (o + 1)) (cs M0 (j + 1) c)).bind _) = _
          rw [ih0 f (o + 1) (j + 1) false false c (by omega) hl (by omega) (by omega) (by omega) (by omega)]
          have g := (sp_B_g h d).1 false false (o + 1) (j + 1) c (by omega) hl
          cases hr : sp_B τ d 0 false false (o + 1) (j + 1) c with
          | inl x => rw [rb_l, cR_l, Option.bind_some, if_neg (show ¬ ¬ (0 : Int32) = 0 by decide)]
          | inr x =>
            obtain ⟨j1, c1⟩ := x
            obtain ⟨g1, g2, D1, g3, g4, g5⟩ := g j1 c1 hr
            have gl := lm_le D1
            have hc1 : c1.length + (j + 1) ≤ c.length + j1 := by rw [g3, List.length_append]; omega
            rw [rb_r, cR_r, Option.bind_some, if_pos (show ¬ (1 : Int32) = 0 by decide)]
            show ((fX3_emit (3 : Int32) (0 : Int32) (cs M0 j1 c1)).bind _) = _
            rw [show (3 : Int32) = nI 3 from rfl, show (0 : Int32) = nI 0 from rfl, e_emt (by decide) (by decide) (by omega)]
            rfl
      · rw [if_neg (show ¬ nI (tx_kd (τ j).1 (τ j).2.1) = (145 : Int32) by rw [kw_i.1]; exact fun y => z ((kd_W h hj (by decide)).mp y)), if_neg z]
        by_cases y : isS τ j 40
        · have hl := tk_S h hj y
          have ey : nI (tx_kd (τ j).1 (τ j).2.1) = (40 : Int32) := (kd_S (s := 40) h hj (by decide) (by decide)).mpr y
          rw [if_neg (not_not_intro ey), if_pos y, ey]
          unfold fX6_claim_23
          by_cases z8 : 8 ≤ o
          · rw [if_pos z8, if_neg (show ¬ nI o < (8 : Int32) from nI_nlt (b := 8) z8 (by omega)), e_blm23 h hB hj]
            rfl
          · rw [if_neg z8, if_pos (show nI o < (8 : Int32) from nI_lt (b := 8) (by omega) (by decide)), e_stp h hB hj, nx_l hl, Option.bind_some, if_neg (show ¬ ¬ (40 : Int32) = 40 by decide), nI_1]
            show ((fX6_claim_g N f 1 (nI (o + 1)) (cs M0 (j + 1) c)).bind _) = _
            obtain ⟨f, rfl⟩ : ∃ g, f = g + 1 := ⟨f - 1, by omega⟩
            have e2 : fX6_claim_g N (f + 1) 1 (nI (o + 1)) (cs M0 (j + 1) c) = fX6_condition_7 N (fun z1 M => fX6_claim_g N f 0 z1 M) (fun z1 M => fX6_claim_g N f 1 z1 M) N (nI (o + 1)) (cb false) (cb false) (nI 0) (cs M0 (j + 1) c) := rfl
            rw [e2, ih1 f N (o + 1) (j + 1) 0 false false c (by omega) hl (by omega) (by omega) (by omega) (by omega) (by rw [if_neg (by decide)]; omega)]
            have g := sp_cd_g (d := d) (o := o + 1) (j := j + 1) (c := c) h (by omega) hl
            cases hr : sp_B τ d 1 false false (o + 1) (j + 1) c with
            | inl x => rw [rb_l, cR_l, Option.bind_some, if_pos rfl]
            | inr x =>
              obtain ⟨j1, c1⟩ := x
              obtain ⟨g1, g2, D1, g3, g4, g5⟩ := g j1 c1 hr
              rw [rb_r, cR_r, Option.bind_some, if_neg (show ¬ (1 : Int32) = 0 by decide)]
              show ((fX6_expect (41 : Int32) (cs M0 j1 c1)).bind _) = _
              rw [show (41 : Int32) = nI 41 from rfl, e_exS h hB g2 (by decide) (by decide)]
              by_cases w : isS τ j1 41
              · rw [if_pos w, if_pos w, Option.bind_some, if_neg (show ¬ (1 : Int32) = 0 by decide)]
                rfl
              · rw [if_neg w, if_neg w, Option.bind_some, if_pos rfl]
                rfl
        · rw [if_pos (show ¬ nI (tx_kd (τ j).1 (τ j).2.1) = (40 : Int32) from fun q => y ((kd_S h hj (by decide) (by decide)).mp q)), if_neg y]
          exact c_cm hN h hB hj h0 hc
    · obtain ⟨g, rfl⟩ : ∃ g', g = g' + 1 := ⟨g - 1, by omega⟩
      rw [k7_eq, if_neg (show ¬ (400 : Int32) ≤ nI i from nI_ge (b := 400) (by omega) (by decide)), sp_B1]
      show ((fX6_claim_g N f 0 (nI o) (cs M0 j c)).bind _) = _
      rw [ih0 f o j false false c ho hj (by omega) (by omega) (by omega) (by omega)]
      have gg := (sp_B_g h d).1 false false o j c ho hj
      cases hr : sp_B τ d 0 false false o j c with
      | inl x => rw [rb_l, cR_l, Option.bind_some, if_neg (show ¬ ¬ (0 : Int32) = 0 by decide)]
      | inr x =>
        obtain ⟨j1, c1⟩ := x
        obtain ⟨g1, g2, D1, g3, g4, g5⟩ := gg j1 c1 hr
        have gl := lm_le D1
        have hc1 : c1.length + j ≤ c.length + j1 := by rw [g3, List.length_append]; omega
        rw [rb_r, cR_r, Option.bind_some, if_pos (show ¬ (1 : Int32) = 0 by decide)]
        show (if cb b = 0 then fX6_condition_39 N (fun z1 M => fX6_claim_g N f 0 z1 M) (fun z1 M => fX6_claim_g N f 1 z1 M) (fun x1 x2 x3 x4 M => fX6_condition_7 N (fun z1 M => fX6_claim_g N f 0 z1 M) (fun z1 M => fX6_claim_g N f 1 z1 M) g x1 x2 x3 x4 M) (nI o) (cb e) (nI i) (cs M0 j1 c1) else (fX3_emit (10 : Int32) (0 : Int32) (cs M0 j1 c1)).bind fun p3 => fX6_condition_39 N (fun z1 M => fX6_claim_g N f 0 z1 M) (fun z1 M => fX6_claim_g N f 1 z1 M) (fun x1 x2 x3 x4 M => fX6_condition_7 N (fun z1 M => fX6_claim_g N f 0 z1 M) (fun z1 M => fX6_claim_g N f 1 z1 M) g x1 x2 x3 x4 M) (nI o) (cb e) (nI i) p3.2) = _
        obtain ⟨c2, hc2⟩ : ∃ c2, c2 = if b = true then c1 ++ [(10, 0)] else c1 := ⟨_, rfl⟩
        have hl2 : c2.length + (if e = true then 1 else 0) ≤ j1 := by
          rw [hc2]
          cases b with
          | true =>
            rw [if_pos rfl] at hc
            rw [if_pos rfl, List.length_append]
            show c1.length + 1 + _ ≤ j1
            omega
          | false =>
            rw [if_neg (show ¬ false = true by decide)] at hc
            rw [if_neg (show ¬ false = true by decide)]
            omega
        have em : (if cb b = 0 then fX6_condition_39 N (fun z1 M => fX6_claim_g N f 0 z1 M) (fun z1 M => fX6_claim_g N f 1 z1 M) (fun x1 x2 x3 x4 M => fX6_condition_7 N (fun z1 M => fX6_claim_g N f 0 z1 M) (fun z1 M => fX6_claim_g N f 1 z1 M) g x1 x2 x3 x4 M) (nI o) (cb e) (nI i) (cs M0 j1 c1) else (fX3_emit (10 : Int32) (0 : Int32) (cs M0 j1 c1)).bind fun p3 => fX6_condition_39 N (fun z1 M => fX6_claim_g N f 0 z1 M) (fun z1 M => fX6_claim_g N f 1 z1 M) (fun x1 x2 x3 x4 M => fX6_condition_7 N (fun z1 M => fX6_claim_g N f 0 z1 M) (fun z1 M => fX6_claim_g N f 1 z1 M) g x1 x2 x3 x4 M) (nI o) (cb e) (nI i) p3.2) = fX6_condition_39 N (fun z1 M => fX6_claim_g N f 0 z1 M) (fun z1 M => fX6_claim_g N f 1 z1 M) (fun x1 x2 x3 x4 M => fX6_condition_7 N (fun z1 M => fX6_claim_g N f 0 z1 M) (fun z1 M => fX6_claim_g N f 1 z1 M) g x1 x2 x3 x4 M) (nI o) (cb e) (nI i) (cs M0 j1 c2) := by
          rw [hc2]
          cases b with
          | true =>
            rw [if_pos rfl] at hc
            rw [if_neg (show ¬ (cb true : Int32) = 0 by decide), if_pos rfl, show (10 : Int32) = nI 10 from rfl, show (0 : Int32) = nI 0 from rfl, e_emt (by decide) (by decide) (by omega), Option.bind_some]
          | false => rw [if_pos (show (cb false : Int32) = 0 from rfl), if_neg (show ¬ false = true by decide)]
        rw [em, ← hc2, c_39 h hB g2 hl2]
        by_cases w1 : isW τ j1 5
        · have hl := tk_W h g2 w1
          rw [if_pos w1, if_pos w1]
          exact ih1 f g o (j1 + 1) (i + 1) e true c2 ho hl (by omega) hf (by omega) (by omega) (by rw [if_pos rfl]; omega)
        · rw [if_neg w1, if_neg w1]
          by_cases w2 : isW τ j1 4
          · have hl := tk_W h g2 w2
            rw [if_pos w2, if_pos w2]
            refine ih1 f g o (j1 + 1) (i + 1) true false (if e = true then c2 ++ [(11, 0)] else c2) ho hl (by omega) hf (by omega) (by omega) ?_
            rw [if_pos (show true = true from rfl), if_neg (show ¬ false = true by decide)]
            cases e with
            | true =>
              rw [if_pos rfl] at hl2
              rw [if_pos rfl, List.length_append]
              show c2.length + 1 + 1 + 0 ≤ j1 + 1
              omega
            | false =>
              rw [if_neg (show ¬ false = true by decide)] at hl2
              rw [if_neg (show ¬ false = true by decide)]
              omega
          · rw [if_neg w2, if_neg w2]
            rfl
theorem e_cdC {τ : tK} {M0 : nM} {n N j : Nat} {c : List lOp} (hN : 1000 ≤ N) (h : TK τ n) (hB : CB τ n M0) (hj : j ≤ n) (h0 : 0 < j) (hc : c.length ≤ j) : fX6_condition_f N (0 : Int32) (cs M0 j c) = cR τ M0 (sp_B τ 802 1 false false 0 j c) := by
  have hn := h.1
  exact (c_B (N := N) hN h hB 802).2 419 N 0 j 0 false false c (by decide) hj (by omega) (by decide) (by omega) h0 (by rw [if_neg (by decide)]; omega)
