/-! ===== text: the class reads a sum ===== -/
def cR (τ : tK) (M0 : nM) (r : tR) : Option (Int32 × nM) := match r with
  | .inl e => some (0, ce τ M0 e.1 e.2.1 e.2.2)
  | .inr x => some (1, cs M0 x.1 x.2)
theorem cR_l {τ : tK} {M0 : nM} {e : Nat × Nat × List lOp} : cR τ M0 (.inl e) = some (0, ce τ M0 e.1 e.2.1 e.2.2) := rfl
theorem cR_r {τ : tK} {M0 : nM} {j : Nat} {c : List lOp} : cR τ M0 (.inr (j, c)) = some (1, cs M0 j c) := rfl
theorem tx_qf : ∀ v, v < 28 → ((3 ≤ tx_q v ∧ tx_q v ≤ 13) ↔ (7 ≤ v ∧ v ≤ 17)) ∧ (7 ≤ v → v ≤ 17 → tx_q v + 4 = v) := by decide +kernel
theorem kd_F {τ : tK} {n j : Nat} (h : TK τ n) (hj : j ≤ n) : (131 ≤ tx_kd (τ j).1 (τ j).2.1 ∧ tx_kd (τ j).1 (τ j).2.1 ≤ 141) ↔ ((τ j).1 = 2 ∧ 7 ≤ (τ j).2.1 ∧ (τ j).2.1 ≤ 17) := by
  obtain ⟨k1, k2, k3, k4, k5⟩ := h.2 j hj
  unfold tx_kd
  by_cases e2 : (τ j).1 = 2
  · rw [if_pos e2]
    have := (tx_qf _ (k3 e2)).1
    constructor
    · intro z
      exact ⟨e2, this.mp (by omega)⟩
    · intro z
      have := this.mpr z.2
      omega
  · rw [if_neg e2]
    by_cases e3 : (τ j).1 = 3
    · rw [if_pos e3]; omega
    · rw [if_neg e3]
      by_cases e4 : (τ j).1 = 4
      · rw [if_pos e4]
        have := tx_mkb _ (k5 e4)
        omega
      · rw [if_neg e4]; omega
theorem unt_eq (M : nM) : fX6_unit M = n_chk (n_ib 401 (M 80 6)) (if ¬ (M 82 (M 80 6).toNatClampNeg) = (2 : Int32) then (if (M 82 (M 80 6).toNatClampNeg) < (131 : Int32) then ((fX6_blame (1 : Int32) M).bind fun p => n_chk (p.1 == 0 || p.1 == 1) (some (p.1, p.2))) else if (141 : Int32) < (M 82 (M 80 6).toNatClampNeg) then ((fX6_blame (1 : Int32) M).bind fun p => n_chk (p.1 == 0 || p.1 == 1) (some (p.1, p.2))) else (fX3_emit (1 : Int32) ((M 82 (M 80 6).toNatClampNeg) - (131 : Int32)) M).bind fun p2 => (fX6_step p2.2).bind fun p1 => some ((1 : Int32), p1.2)) else n_chk (n_ib 401 (M 80 6)) ((fX3_emit (0 : Int32) (M 83 (M 80 6).toNatClampNeg) M).bind fun p3 => (fX6_step p3.2).bind fun p1 => some ((1 : Int32), p1.2))) := rfl
theorem e_unC {τ : tK} {M0 : nM} {n j : Nat} {c : List lOp} (h : TK τ n) (hB : CB τ n M0) (hj : j ≤ n) (hc : c.length ≤ j) : fX6_unit (cs M0 j c) = cR τ M0 (sp_un τ j c) := by
  have hn := h.1
  have hK := kd_b h hj
  rw [unt_eq, e_chk h hj, e_82 h hB hj]
  unfold sp_un
  by_cases z : isN τ j
  · have hl := tk_N h hj z
    have hv := (h.2 j hj).2.2.2.1 z
    rw [if_neg (not_not_intro ((kd_N h hj).mpr z)), if_pos z, e_chk h hj, e_83 h hB hj z, show (0 : Int32) = nI 0 from rfl, e_emt (by decide) hv (by omega), Option.bind_some]
    show ((fX6_step (cs M0 j (c ++ [(0, (τ j).2.1)]))).bind _) = _
    rw [e_stp h hB hj, nx_l hl]
    rfl
  · rw [if_pos (fun y => z ((kd_N h hj).mp y)), if_neg z]
    have hF := kd_F h hj
    by_cases y : (τ j).1 = 2 ∧ 7 ≤ (τ j).2.1 ∧ (τ j).2.1 ≤ 17
    · have hl := tk_lt h hj (by rw [y.1]; decide)
      have hr := hF.mpr y
      have ekd : tx_kd (τ j).1 (τ j).2.1 = 128 + tx_q (τ j).2.1 := by
        unfold tx_kd
        rw [if_pos y.1]
      have hq := (tx_qf _ ((h.2 j hj).2.2.1 y.1)).2 y.2.1 y.2.2
      rw [if_neg (show ¬ nI (tx_kd (τ j).1 (τ j).2.1) < (131 : Int32) from nI_nlt (b := 131) hr.1 (by omega)), if_neg (show ¬ (141 : Int32) < nI (tx_kd (τ j).1 (τ j).2.1) from nI_nlt (a := 141) hr.2 (by decide)), if_pos y, show nI (tx_kd (τ j).1 (τ j).2.1) - (131 : Int32) = nI (tx_kd (τ j).1 (τ j).2.1 - 131) from pk_sub (b := 131) hr.1, show tx_kd (τ j).1 (τ j).2.1 - 131 = (τ j).2.1 - 7 by omega, show (1 : Int32) = nI 1 from rfl, e_emt (by decide) (by omega) (by omega), Option.bind_some]
      show ((fX6_step (cs M0 j (c ++ [(1, (τ j).2.1 - 7)]))).bind _) = _
      rw [e_stp h hB hj, nx_l hl]
      rfl
    · rw [if_neg y, e_blm21 h hB hj]
      by_cases a1 : tx_kd (τ j).1 (τ j).2.1 < 131
      · rw [if_pos (show nI (tx_kd (τ j).1 (τ j).2.1) < (131 : Int32) from nI_lt (b := 131) a1 (by decide))]
        rfl
      · rw [if_neg (show ¬ nI (tx_kd (τ j).1 (τ j).2.1) < (131 : Int32) from nI_nlt (b := 131) (by omega) (by omega)), if_pos (show (141 : Int32) < nI (tx_kd (τ j).1 (τ j).2.1) from nI_lt (a := 141) (by
          by_cases q : tx_kd (τ j).1 (τ j).2.1 ≤ 141
          · exact absurd (hF.mp ⟨by omega, q⟩) y
          · omega) (by omega))]
        rfl
theorem pt_eq (N f : Nat) (x1 : Int32) (M : nM) : fX6_parts_2 N (f + 1) x1 M = if (400 : Int32) ≤ x1 then some ((1 : Int32), M) else n_chk (n_ib 401 (M 80 6)) (if ¬ (M 82 (M 80 6).toNatClampNeg) = (47 : Int32) then some ((1 : Int32), M) else (fX6_step M).bind fun p1 => n_chk (n_ib 401 (p1.2 80 6)) (if (p1.2 82 (p1.2 80 6).toNatClampNeg) = (2 : Int32) then n_chk (n_ib 401 (p1.2 80 6)) (if ¬ (p1.2 83 (p1.2 80 6).toNatClampNeg) = 0 then n_chk (n_ib 401 (p1.2 80 6)) ((fX3_emit (2 : Int32) (p1.2 83 (p1.2 80 6).toNatClampNeg) p1.2).bind fun p2 => (fX6_step p2.2).bind fun p3 => fX6_parts_2 N f (x1 + (1 : Int32)) p3.2) else ((fX6_blame (2 : Int32) p1.2).bind fun p => n_chk (p.1 == 0 || p.1 == 1) (some (p.1, p.2)))) else ((fX6_blame (1 : Int32) p1.2).bind fun p => n_chk (p.1 == 0 || p.1 == 1) (some (p.1, p.2))))) := rfl
theorem c_pt {τ : tK} {M0 : nM} {n N : Nat} (h : TK τ n) (hB : CB τ n M0) : ∀ (d j i f : Nat) (c : List lOp), j ≤ n → n < j + d → n < j + f → i < j → c.length ≤ j → (∃ e, sp_pl τ d j c = .inl e ∧ fX6_parts_2 N f (nI i) (cs M0 j c) = cR τ M0 (.inl e)) ∨ (∃ (j2 : Nat) (c2 : List lOp) (d2 : Nat), j ≤ j2 ∧ j2 ≤ n ∧ n < j2 + d2 ∧ c2.length + j ≤ c.length + j2 ∧ ¬ isS τ j2 47 ∧ sp_pl τ d j c = sp_pl τ d2 j2 c2 ∧ fX6_parts_2 N f (nI i) (cs M0 j c) = some (1, cs M0 j2 c2)) := by
  have hn := h.1
  intro d
  induction d with
  | zero => exact fun j i f c hj hd => absurd hd (by omega)
  | succ d ih =>
    intro j i f c hj hd hf hi hc
    obtain ⟨f, rfl⟩ : ∃ g, f = g + 1 := ⟨f - 1, by omega⟩
    rw [pt_eq, if_neg (show ¬ (400 : Int32) ≤ nI i from nI_ge (b := 400) (by omega) (by decide)), e_chk h hj, e_82 h hB hj]
    by_cases z : isS τ j 47
    · have hl := tk_S h hj z
      have hj1 : j + 1 ≤ n := hl
      rw [if_neg (not_not_intro (show nI (tx_kd (τ j).1 (τ j).2.1) = (47 : Int32) from (kd_S h hj (by decide) (by decide)).mpr z)), e_stp h hB hj, nx_l hl, Option.bind_some]
      show (∃ e, sp_pl τ (d + 1) j c = .inl e ∧ n_chk (n_ib 401 (cs M0 (j + 1) c 80 6)) (if (cs M0 (j + 1) c 82 (cs M0 (j + 1) c 80 6).toNatClampNeg) = (2 : Int32) then n_chk (n_ib 401 (cs M0 (j + 1) c 80 6)) (if ¬ (cs M0 (j + 1) c 83 (cs M0 (j + 1) c 80 6).toNatClampNeg) = 0 then n_chk (n_ib 401 (cs M0 (j + 1) c 80 6)) ((fX3_emit (2 : Int32) (cs M0 (j + 1) c 83 (cs M0 (j + 1) c 80 6).toNatClampNeg) (cs M0 (j + 1) c)).bind fun p2 => (fX6_step p2.2).bind fun p3 => fX6_parts_2 N f (nI i + (1 : Int32)) p3.2) else ((fX6_blame (2 : Int32) (cs M0 (j + 1) c)).bind fun p => n_chk (p.1 == 0 || p.1 == 1) (some (p.1, p.2)))) else ((fX6_blame (1 : Int32) (cs M0 (j + 1) c)).bind fun p => n_chk (p.1 == 0 || p.1 == 1) (some (p.1, p.2)))) = _) ∨ (∃ (j2 : Nat) (c2 : List lOp) (d2 : Nat), j ≤ j2 ∧ j2 ≤ n ∧ n < j2 + d2 ∧ c2.length + j ≤ c.length + j2 ∧ ¬ isS τ j2 47 ∧ sp_pl τ (d + 1) j c = sp_pl τ d2 j2 c2 ∧ n_chk (n_ib 401 (cs M0 (j + 1) c 80 6)) (if (cs M0 (j + 1) c 82 (cs M0 (j + 1) c 80 6).toNatClampNeg) = (2 : Int32) then n_chk (n_ib 401 (cs M0 (j + 1) c 80 6)) (if ¬ (cs M0 (j + 1) c 83 (cs M0 (j + 1) c 80 6).toNatClampNeg) = 0 then n_chk (n_ib 401 (cs M0 (j + 1) c 80 6)) ((fX3_emit (2 : Int32) (cs M0 (j + 1) c 83 (cs M0 (j + 1) c 80 6).toNatClampNeg) (cs M0 (j + 1) c)).bind fun p2 => (fX6_step p2.2).bind fun p3 => fX6_parts_2 N f (nI i + (1 : Int32)) p3.2) else ((fX6_blame (2 : Int32) (cs M0 (j + 1) c)).bind fun p => n_chk (p.1 == 0 || p.1 == 1) (some (p.1, p.2)))) else ((fX6_blame (1 : Int32) (cs M0 (j + 1) c)).bind fun p => n_chk (p.1 == 0 || p.1 == 1) (some (p.1, p.2)))) = _)
      have esp : sp_pl τ (d + 1) j c = (if isN τ (j + 1) then (if (τ (j + 1)).2.1 = 0 then .inl (2, j + 1, c) else sp_pl τ d (j + 2) (c ++ [(2, (τ (j + 1)).2.1)])) else .inl (1, j + 1, c)) := by
        show (if isS τ j 42 then _ else if isS τ j 47 then _ else _) = _
        rw [if_neg (show ¬ isS τ j 42 from fun y => absurd (y.2.symm.trans z.2) (by decide)), if_pos z]
      rw [e_chk h hj1, e_82 h hB hj1, esp]
      by_cases y : isN τ (j + 1)
      · have hl2 := tk_N h hj1 y
        have hv := (h.2 (j + 1) hj1).2.2.2.1 y
        rw [if_pos ((kd_N h hj1).mpr y), if_pos y, e_chk h hj1, e_83 h hB hj1 y]
        by_cases x : (τ (j + 1)).2.1 = 0
        · rw [if_neg (not_not_intro (show nI (τ (j + 1)).2.1 = 0 by rw [x]; rfl)), if_pos x, e_blm22 h hB hj1]
          exact Or.inl ⟨_, rfl, rfl⟩
        · rw [if_pos (nI_ne0 (by omega) (by omega)), if_neg x, e_chk h hj1, show (2 : Int32) = nI 2 from rfl, e_emt (by decide) hv (by omega), Option.bind_some]
          show (∃ e, _ ∧ ((fX6_step (cs M0 (j + 1) (c ++ [(2, (τ (j + 1)).2.1)]))).bind _) = _) ∨ (∃ (j2 : Nat) (c2 : List lOp) (d2 : Nat), _ ∧ _ ∧ _ ∧ _ ∧ _ ∧ _ ∧ ((fX6_step (cs M0 (j + 1) (c ++ [(2, (τ (j + 1)).2.1)]))).bind _) = _)
          rw [e_stp h hB hj1, nx_l hl2, Option.bind_some, nI_1]
          rcases ih (j + 1 + 1) (i + 1) f (c ++ [(2, (τ (j + 1)).2.1)]) (by omega) (by omega) (by omega) (by omega) (by rw [List.length_append]; show c.length + 1 ≤ _; omega) with ⟨e, e1, e2⟩ | ⟨j2, c2, d2, a1, a2, a3, a4, a5, a6, a7⟩
          · exact Or.inl ⟨e, e1, e2⟩
          · refine Or.inr ⟨j2, c2, d2, by omega, a2, a3, ?_, a5, a6, a7⟩
            rw [List.length_append] at a4
            have a4' : c2.length + (j + 1 + 1) ≤ c.length + 1 + j2 := a4
            omega
      · rw [if_neg (fun q => y ((kd_N h hj1).mp q)), if_neg y, e_blm21 h hB hj1]
        exact Or.inl ⟨_, rfl, rfl⟩
    · rw [if_pos (show ¬ nI (tx_kd (τ j).1 (τ j).2.1) = (47 : Int32) from fun y => z ((kd_S h hj (by decide) (by decide)).mp y))]
      exact Or.inr ⟨j, c, d + 1, Nat.le_refl _, hj, hd, Nat.le_refl _, z, rfl, rfl⟩
theorem s6_eq (N f : Nat) (x1 x2 x3 : Int32) (M : nM) : fX6_sum_6 N (f + 1) x1 x2 x3 M = if (400 : Int32) ≤ x3 then ((fX6_blame (1 : Int32) M).bind fun p => n_chk (p.1 == 0 || p.1 == 1) (some (p.1, p.2))) else (fX6_unit M).bind fun p2 => if ¬ p2.1 = 0 then (if x2 = 0 then fX6_sum_36 N (fun x1 x2 x3 M => fX6_sum_6 N f x1 x2 x3 M) x1 x3 p2.2 else (fX3_emit (6 : Int32) (0 : Int32) p2.2).bind fun p3 => fX6_sum_36 N (fun x1 x2 x3 M => fX6_sum_6 N f x1 x2 x3 M) x1 x3 p3.2) else some ((0 : Int32), p2.2) := rfl
theorem s36_eq (N : Nat) (k6 : Int32 → Int32 → Int32 → nM → Option (Int32 × nM)) (x1 x3 : Int32) (M : nM) : fX6_sum_36 N k6 x1 x3 M = (fX6_parts N M).bind fun p1 => if ¬ p1.1 = 0 then n_chk (n_ib 401 (p1.2 80 6)) (if ¬ (p1.2 82 (p1.2 80 6).toNatClampNeg) = (42 : Int32) then (if x1 = (-1 : Int32) then fX6_sum_83 N k6 (0 : Int32) x3 p1.2 else (fX3_emit x1 (0 : Int32) p1.2).bind fun p => fX6_sum_83 N k6 (0 : Int32) x3 p.2) else (fX6_step p1.2).bind fun p => k6 x1 (1 : Int32) (x3 + (1 : Int32)) p.2) else some ((0 : Int32), p1.2) := rfl
theorem s83_eq (N : Nat) (k6 : Int32 → Int32 → Int32 → nM → Option (Int32 × nM)) (x2 x3 : Int32) (M : nM) : fX6_sum_83 N k6 x2 x3 M = n_chk (n_ib 401 (M 80 6)) (if (M 82 (M 80 6).toNatClampNeg) = (43 : Int32) then fX6_sum_113 N k6 x2 x3 M else n_chk (n_ib 401 (M 80 6)) (if (M 82 (M 80 6).toNatClampNeg) = (45 : Int32) then fX6_sum_113 N k6 x2 x3 M else some ((1 : Int32), M))) := rfl
theorem s113_eq (N : Nat) (k6 : Int32 → Int32 → Int32 → nM → Option (Int32 × nM)) (x2 x3 : Int32) (M : nM) : fX6_sum_113 N k6 x2 x3 M = n_chk (n_ib 401 (M 80 6)) (if ¬ (M 82 (M 80 6).toNatClampNeg) = (43 : Int32) then ((fX6_step M).bind fun p => k6 (5 : Int32) x2 (x3 + (1 : Int32)) p.2) else ((fX6_step M).bind fun p => k6 (4 : Int32) x2 (x3 + (1 : Int32)) p.2)) := rfl
/-- what waits to be added -/
def aOK (a : List lOp) (A : Int32) : Prop := (a = [] ∧ A = -1) ∨ ∃ o : Nat, (o = 4 ∨ o = 5) ∧ a = [(o, 0)] ∧ A = nI o
theorem c_s83 {τ : tK} {M0 : nM} {n N j i : Nat} {k6 : Int32 → Int32 → Int32 → nM → Option (Int32 × nM)} {c : List lOp} (h : TK τ n) (hB : CB τ n M0) (hj : j ≤ n) : fX6_sum_83 N k6 (0 : Int32) (nI i) (cs M0 j c) = if isS τ j 43 then k6 (nI 4) (cb false) (nI (i + 1)) (cs M0 (j + 1) c) else if isS τ j 45 then k6 (nI 5) (cb false) (nI (i + 1)) (cs M0 (j + 1) c) else some (1, cs M0 j c) := by
  rw [s83_eq, e_chk h hj, e_chk h hj, s113_eq, e_chk h hj, e_82 h hB hj]
  by_cases z : isS τ j 43
  · have e := (kd_S (s := 43) h hj (by decide) (by decide)).mpr z
    rw [if_pos (show nI (tx_kd (τ j).1 (τ j).2.1) = (43 : Int32) from e), if_neg (not_not_intro (show nI (tx_kd (τ j).1 (τ j).2.1) = (43 : Int32) from e)), if_pos z, e_stp h hB hj, nx_l (tk_S h hj z), Option.bind_some, nI_1]
    rfl
  · have e : ¬ nI (tx_kd (τ j).1 (τ j).2.1) = (43 : Int32) := fun y => z ((kd_S h hj (by decide) (by decide)).mp y)
    rw [if_neg e, if_pos e, if_neg z]
    by_cases y : isS τ j 45
    · rw [if_pos (show nI (tx_kd (τ j).1 (τ j).2.1) = (45 : Int32) from (kd_S h hj (by decide) (by decide)).mpr y), if_pos y, e_stp h hB hj, nx_l (tk_S h hj y), Option.bind_some, nI_1]
      rfl
    · rw [if_neg (show ¬ nI (tx_kd (τ j).1 (τ j).2.1) = (45 : Int32) from fun q => y ((kd_S h hj (by decide) (by decide)).mp q)), if_neg y]
theorem c_su {τ : tK} {M0 : nM} {n N : Nat} (hN : 1000 ≤ N) (h : TK τ n) (hB : CB τ n M0) : ∀ (D j : Nat), j ≤ n → n < j + D → ∀ (i f d1 d2 : Nat) (a : List lOp) (A : Int32) (tm : Bool) (c : List lOp), aOK a A → n < j + d1 → n < j + d2 → n < j + f → i < j → c.length + a.length + (if tm = true then 1 else 0) ≤ j → fX6_sum_6 N f A (cb tm) (nI i) (cs M0 j c) = cR τ M0 (rb (sp_un τ j c) (fun j c => rb (sp_pl τ d1 j (if tm = true then c ++ [(6, 0)] else c)) (fun j c => sp_sl τ d2 j (c ++ a)))) := by
  have hn := h.1
  intro D
  induction D with
  | zero => exact fun j hj hd => absurd hd (by omega)
  | succ D ih =>
    intro j hj hD i f d1 d2 a A tm c hA h1 h2 hf hi hc
    obtain ⟨f, rfl⟩ : ∃ g, f = g + 1 := ⟨f - 1, by omega⟩
    rw [s6_eq, if_neg (show ¬ (400 : Int32) ≤ nI i from nI_ge (b := 400) (by omega) (by decide)), e_unC h hB hj (by omega)]
    have g := sp_un_g (c := c) h hj
    cases hr : sp_un τ j c with
    | inl x =>
      rw [rb_l, cR_l, Option.bind_some, if_neg (show ¬ ¬ (0 : Int32) = 0 by decide)]
    | inr x =>
      obtain ⟨j1, c1⟩ := x
      obtain ⟨g1, g2, D1, g3, g4, g5⟩ := g j1 c1 hr
      have gl := lm_le D1
      have hc1 : c1.length + j ≤ c.length + j1 := by rw [g3, List.length_append]; omega
      rw [rb_r, cR_r, Option.bind_some, if_pos (show ¬ (1 : Int32) = 0 by decide)]
      show (if cb tm = 0 then fX6_sum_36 N (fun x1 x2 x3 M => fX6_sum_6 N f x1 x2 x3 M) A (nI i) (cs M0 j1 c1) else (fX3_emit (6 : Int32) (0 : Int32) (cs M0 j1 c1)).bind fun p3 => fX6_sum_36 N (fun x1 x2 x3 M => fX6_sum_6 N f x1 x2 x3 M) A (nI i) p3.2) = _
      -- behind the unit, and the times that waited
      have key : ∀ c2 : List lOp, c2.length + a.length ≤ j1 → fX6_sum_36 N (fun x1 x2 x3 M => fX6_sum_6 N f x1 x2 x3 M) A (nI i) (cs M0 j1 c2) = cR τ M0 (rb (sp_pl τ d1 j1 c2) (fun j c => sp_sl τ d2 j (c ++ a))) := fun c2 hc2 => by
        rw [s36_eq]
        rcases c_pt (N := N) h hB d1 j1 0 N c2 g2 (by omega) (by omega) (by omega) (by omega) with ⟨e, e1, e2⟩ | ⟨j2, c3, d3, a1, a2, a3, a4, a5, a6, a7⟩
        · have e2' : fX6_parts N (cs M0 j1 c2) = cR τ M0 (.inl e) := e2
          rw [e2', e1, rb_l, cR_l, Option.bind_some, if_neg (show ¬ ¬ (0 : Int32) = 0 by decide)]
        · have a7' : fX6_parts N (cs M0 j1 c2) = some (1, cs M0 j2 c3) := a7
          obtain ⟨d3, rfl⟩ : ∃ g, d3 = g + 1 := ⟨d3 - 1, by omega⟩
          rw [a7', a6, Option.bind_some, if_pos (show ¬ (1 : Int32) = 0 by decide)]
          show n_chk (n_ib 401 (cs M0 j2 c3 80 6)) (if ¬ (cs M0 j2 c3 82 (cs M0 j2 c3 80 6).toNatClampNeg) = (42 : Int32) then (if A = (-1 : Int32) then fX6_sum_83 N (fun x1 x2 x3 M => fX6_sum_6 N f x1 x2 x3 M) (0 : Int32) (nI i) (cs M0 j2 c3) else (fX3_emit A (0 : Int32) (cs M0 j2 c3)).bind fun p => fX6_sum_83 N (fun x1 x2 x3 M => fX6_sum_6 N f x1 x2 x3 M) (0 : Int32) (nI i) p.2) else (fX6_step (cs M0 j2 c3)).bind fun p => fX6_sum_6 N f A (1 : Int32) (nI i + (1 : Int32)) p.2) = _
          rw [e_chk h a2, e_82 h hB a2]
          by_cases z : isS τ j2 42
          · have hl := tk_S h a2 z
            have esp : sp_pl τ (d3 + 1) j2 c3 = rb (sp_un τ (j2 + 1) c3) (fun j c => sp_pl τ d3 j (c ++ [(6, 0)])) := if_pos z
            rw [if_neg (not_not_intro (show nI (tx_kd (τ j2).1 (τ j2).2.1) = (42 : Int32) from (kd_S h a2 (by decide) (by decide)).mpr z)), e_stp h hB a2, nx_l hl, Option.bind_some, nI_1, esp, rb_rb]
            exact ih (j2 + 1) hl (by omega) (i + 1) f d3 d2 a A true c3 hA (by omega) (by omega) (by omega) (by omega) (by rw [if_pos rfl]; omega)
          · have esp : sp_pl τ (d3 + 1) j2 c3 = .inr (j2, c3) := by
              show (if isS τ j2 42 then _ else if isS τ j2 47 then _ else _) = _
              rw [if_neg z, if_neg a5]
            obtain ⟨d2, rfl⟩ : ∃ g, d2 = g + 1 := ⟨d2 - 1, by omega⟩
            rw [if_pos (show ¬ nI (tx_kd (τ j2).1 (τ j2).2.1) = (42 : Int32) from fun y => z ((kd_S h a2 (by decide) (by decide)).mp y)), esp, rb_r]
            have em : (if A = (-1 : Int32) then fX6_sum_83 N (fun x1 x2 x3 M => fX6_sum_6 N f x1 x2 x3 M) (0 : Int32) (nI i) (cs M0 j2 c3) else (fX3_emit A (0 : Int32) (cs M0 j2 c3)).bind fun p => fX6_sum_83 N (fun x1 x2 x3 M => fX6_sum_6 N f x1 x2 x3 M) (0 : Int32) (nI i) p.2) = fX6_sum_83 N (fun x1 x2 x3 M => fX6_sum_6 N f x1 x2 x3 M) (0 : Int32) (nI i) (cs M0 j2 (c3 ++ a)) := by
              rcases hA with ⟨b1, b2⟩ | ⟨o, b0, b1, b2⟩
              · rw [if_pos b2, b1, List.append_nil]
              · have hal : a.length = 1 := by rw [b1]; rfl
                rw [if_neg (show ¬ A = (-1 : Int32) by rw [b2]; exact nI_nm1 (by omega)), b2, show (0 : Int32) = nI 0 from rfl, e_emt (by omega) (by decide) (by omega), b1, Option.bind_some]
            have hl3 : (c3 ++ a).length ≤ j2 := by rw [List.length_append]; omega
            rw [em, c_s83 h hB a2]
            have nxt : ∀ o : Nat, (o = 4 ∨ o = 5) → j2 < n → fX6_sum_6 N f (nI o) (cb false) (nI (i + 1)) (cs M0 (j2 + 1) (c3 ++ a)) = cR τ M0 (rb (sp_pr τ (j2 + 1) (c3 ++ a)) (fun j c => sp_sl τ d2 j (c ++ [(o, 0)]))) := fun o ho hl => by
              have t := ih (j2 + 1) hl (by omega) (i + 1) f 402 d2 [(o, 0)] (nI o) false (c3 ++ a) (Or.inr ⟨o, ho, rfl, rfl⟩) (by omega) (by omega) (by omega) (by omega) (by rw [if_neg (by decide)]; show (c3 ++ a).length + 1 + 0 ≤ _; omega)
              rw [t]
              unfold sp_pr
              rw [rb_rb]
              rfl
            show _ = cR τ M0 (if isS τ j2 43 then rb (sp_pr τ (j2 + 1) (c3 ++ a)) (fun j c => sp_sl τ d2 j (c ++ [(4, 0)])) else if isS τ j2 45 then rb (sp_pr τ (j2 + 1) (c3 ++ a)) (fun j c => sp_sl τ d2 j (c ++ [(5, 0)])) else .inr (j2, c3 ++ a))
            by_cases y1 : isS τ j2 43
            · rw [if_pos y1, if_pos y1]
              exact nxt 4 (Or.inl rfl) (tk_S h a2 y1)
            · rw [if_neg y1, if_neg y1]
              by_cases y2 : isS τ j2 45
              · rw [if_pos y2, if_pos y2]
                exact nxt 5 (Or.inr rfl) (tk_S h a2 y2)
              · rw [if_neg y2, if_neg y2]
                rfl
      cases tm with
      | true =>
        rw [if_pos rfl] at hc
        rw [if_neg (show ¬ (cb true : Int32) = 0 by decide), if_pos rfl, show (6 : Int32) = nI 6 from rfl, show (0 : Int32) = nI 0 from rfl, e_emt (by decide) (by decide) (by omega), Option.bind_some]
        exact key (c1 ++ [(6, 0)]) (by rw [List.length_append]; show c1.length + 1 + a.length ≤ j1; omega)
      | false =>
        rw [if_neg (by decide)] at hc
        rw [if_pos (show (cb false : Int32) = 0 from rfl), if_neg (show ¬ false = true by decide)]
        exact key c1 (by omega)
theorem e_suC {τ : tK} {M0 : nM} {n N j : Nat} {c : List lOp} (hN : 1000 ≤ N) (h : TK τ n) (hB : CB τ n M0) (hj : j ≤ n) (h0 : 0 < j) (hc : c.length ≤ j) : fX6_sum N (cs M0 j c) = cR τ M0 (sp_su τ j c) := by
  have hn := h.1
  have t := c_su (N := N) hN h hB 402 j hj (by omega) 0 N 402 402 [] (-1) false c (Or.inl ⟨rfl, rfl⟩) (by omega) (by omega) (by omega) h0 (by rw [if_neg (by decide)]; show c.length + 0 + 0 ≤ j; omega)
  have e : fX6_sum N (cs M0 j c) = fX6_sum_6 N N (-1) (cb false) (nI 0) (cs M0 j c) := rfl
  rw [e, t]
  unfold sp_su sp_pr
  rw [rb_rb]
  have e2 : ∀ (j : Nat) (c : List lOp), rb (sp_pl τ 402 j (if false = true then c ++ [(6, 0)] else c)) (fun j c => sp_sl τ 402 j (c ++ [])) = rb (sp_pl τ 402 j c) (fun j c => sp_sl τ 402 j c) := fun j c => by
    rw [if_neg (by decide)]
    congr 1
    funext j c
    rw [List.append_nil]
  simp only [e2]
