/-! ===== text: what a law's text tells: sums ===== -/
/-- a fault (which, at which token, the code so far), or where it goes on, with the code -/
abbrev tR : Type := (Nat × Nat × List lOp) ⊕ (Nat × List lOp)
def rb (r : tR) (f : Nat → List lOp → tR) : tR := match r with
  | .inl e => .inl e
  | .inr x => f x.1 x.2
theorem rb_l {e : Nat × Nat × List lOp} {f : Nat → List lOp → tR} : rb (.inl e) f = .inl e := rfl
theorem rb_r {j : Nat} {c : List lOp} {f : Nat → List lOp → tR} : rb (.inr (j, c)) f = f j c := rfl
theorem rb_rb {r : tR} {f g : Nat → List lOp → tR} : rb (rb r f) g = rb r (fun j c => rb (f j c) g) := by
  cases r with
  | inl e => rfl
  | inr x => rfl
def sp_un (τ : tK) (j : Nat) (c : List lOp) : tR := if isN τ j then .inr (j + 1, c ++ [(0, (τ j).2.1)]) else if (τ j).1 = 2 ∧ 7 ≤ (τ j).2.1 ∧ (τ j).2.1 ≤ 17 then .inr (j + 1, c ++ [(1, (τ j).2.1 - 7)]) else .inl (1, j, c)
def sp_pl (τ : tK) : Nat → Nat → List lOp → tR
  | 0, j, c => .inl (0, j, c)
  | d + 1, j, c => if isS τ j 42 then rb (sp_un τ (j + 1) c) (fun j c => sp_pl τ d j (c ++ [(6, 0)])) else if isS τ j 47 then (if isN τ (j + 1) then (if (τ (j + 1)).2.1 = 0 then .inl (2, j + 1, c) else sp_pl τ d (j + 2) (c ++ [(2, (τ (j + 1)).2.1)])) else .inl (1, j + 1, c)) else .inr (j, c)
def sp_pr (τ : tK) (j : Nat) (c : List lOp) : tR := rb (sp_un τ j c) (fun j c => sp_pl τ 402 j c)
def sp_sl (τ : tK) : Nat → Nat → List lOp → tR
  | 0, j, c => .inl (0, j, c)
  | d + 1, j, c => if isS τ j 43 then rb (sp_pr τ (j + 1) c) (fun j c => sp_sl τ d j (c ++ [(4, 0)])) else if isS τ j 45 then rb (sp_pr τ (j + 1) c) (fun j c => sp_sl τ d j (c ++ [(5, 0)])) else .inr (j, c)
def sp_su (τ : tK) (j : Nat) (c : List lOp) : tR := rb (sp_pr τ j c) (fun j c => sp_sl τ 402 j c)
/-- how long the model's code is -/
def lm (c : List lOp) : Nat := (l_mods c).length
theorem l_mods_a (c d : List lOp) : l_mods (c ++ d) = l_mods c ++ l_mods d := List.flatMap_append
theorem lm_a (c d : List lOp) : lm (c ++ d) = lm c + lm d := by
  unfold lm
  rw [l_mods_a, List.length_append]
theorem lm_1 {o v : Nat} (h : o ≠ 2) : lm [(o, v)] = 1 := by
  unfold lm
  rw [l_mods_c, l_mod_o h]
  rfl
theorem lm_2 {v : Nat} : lm [(2, v)] = 2 := rfl
theorem lm_0 : lm [] = 0 := rfl
theorem lm_le : ∀ c : List lOp, c.length ≤ lm c
  | [] => Nat.le_refl _
  | x :: t => by
    have h := lm_le t
    have : lm (x :: t) = lm [x] + lm t := lm_a [x] t
    have h1 : 1 ≤ lm [x] := by
      obtain ⟨o, v⟩ := x
      by_cases e : o = 2
      · subst e
        rw [lm_2]; decide
      · rw [lm_1 e]; decide
    rw [this, List.length_cons]
    omega
/-- code that leaves one thing more behind, of that kind, and goes no deeper than K -/
def lE (K : Nat) (D : List lOp) (t : Bool) : Prop := (∀ st r, l_ty (D ++ r) st = l_ty r (t :: st)) ∧ ∀ h r, h + K ≤ 48 → l_dp r (h + 1) 48 → l_dp (D ++ r) h 48
theorem lE_k {K K' : Nat} {D : List lOp} {t : Bool} (h : lE K D t) (hk : K ≤ K') : lE K' D t := ⟨h.1, fun a r h1 h2 => h.2 a r (by omega) h2⟩
theorem lE_2 {K K' o : Nat} {D1 D2 : List lOp} {b1 b2 t : Bool} (h1 : lE K D1 b1) (h2 : lE K' D2 b2) (hk : K' + 1 ≤ K) (ho : ∀ st r, l_ty ((o, 0) :: r) (b2 :: b1 :: st) = l_ty r (t :: st)) (h4 : 4 ≤ o) : lE K (D1 ++ D2 ++ [(o, 0)]) t := by
  refine ⟨fun st r => ?_, fun h r a1 a2 => ?_⟩
  · rw [List.append_assoc, List.append_assoc, h1.1, h2.1]
    exact ho st r
  · rw [List.append_assoc, List.append_assoc]
    refine h1.2 h _ a1 (h2.2 (h + 1) _ (by omega) ?_)
    show (if o ≤ 1 then h + 1 + 1 + 1 ≤ 48 ∧ l_dp r (h + 1 + 1 + 1) 48 else if o ≤ 3 then l_dp r (h + 1 + 1) 48 else l_dp r (h + 1 + 1 - 1) 48)
    rw [if_neg (by omega), if_neg (by omega)]
    exact a2
theorem lE_n {v : Nat} (hv : v < 10000) : lE 1 [(0, v)] false := by
  refine ⟨fun st r => ?_, fun h r a1 a2 => ?_⟩
  · show (if v < 10000 then l_ty r (false :: st) else none) = _
    rw [if_pos hv]
  · exact ⟨by omega, a2⟩
theorem lE_f {v : Nat} (hv : v < 11) : lE 1 [(1, v)] false := by
  refine ⟨fun st r => ?_, fun h r a1 a2 => ?_⟩
  · show (if v < 11 then l_ty r (false :: st) else none) = _
    rw [if_pos hv]
  · exact ⟨by omega, a2⟩
theorem lE_p {K v : Nat} {D : List lOp} (h : lE K D false) (h0 : 0 < v) (hv : v < 10000) : lE K (D ++ [(2, v)]) false := by
  refine ⟨fun st r => ?_, fun a r a1 a2 => ?_⟩
  · rw [List.append_assoc, h.1]
    show (if 0 < v ∧ v < 10000 then l_ty r (false :: st) else none) = _
    rw [if_pos ⟨h0, hv⟩]
  · rw [List.append_assoc]
    exact h.2 a _ a1 a2
theorem lE_nt {K : Nat} {D : List lOp} (h : lE K D true) : lE K (D ++ [(3, 0)]) true := by
  refine ⟨fun st r => ?_, fun a r a1 a2 => ?_⟩
  · rw [List.append_assoc, h.1]
    rfl
  · rw [List.append_assoc]
    exact h.2 a _ a1 a2
/-- what comes out well is code behind c that fits -/
def gd (n K : Nat) (t : Bool) (j : Nat) (c : List lOp) (r : tR) : Prop := ∀ j' c', r = .inr (j', c') → j < j' ∧ j' ≤ n ∧ ∃ D, c' = c ++ D ∧ lm D + j ≤ j' ∧ lE K D t
theorem inr_inj {a : Nat × List lOp} {j : Nat} {c : List lOp} (h : (Sum.inr a : tR) = .inr (j, c)) : a = (j, c) := by
  cases h
  rfl
theorem inl_inr {a : Nat × Nat × List lOp} {x : Nat × List lOp} (h : (Sum.inl a : tR) = .inr x) : False := by
  cases h
theorem sp_un_g {τ : tK} {n j : Nat} {c : List lOp} (h : TK τ n) (hj : j ≤ n) : gd n 1 false j c (sp_un τ j c) := by
  intro j' c' e
  unfold sp_un at e
  by_cases z : isN τ j
  · rw [if_pos z] at e
    have e2 := inr_inj e
    have hl := tk_N h hj z
    have e3 : j + 1 = j' := congrArg Prod.fst e2
    have e4 : c ++ [(0, (τ j).2.1)] = c' := congrArg Prod.snd e2
    refine ⟨by omega, by omega, _, e4.symm, ?_, lE_n ((h.2 j hj).2.2.2.1 z)⟩
    rw [lm_1 (by decide)]; omega
  · rw [if_neg z] at e
    by_cases y : (τ j).1 = 2 ∧ 7 ≤ (τ j).2.1 ∧ (τ j).2.1 ≤ 17
    · rw [if_pos y] at e
      have e2 := inr_inj e
      have hl := tk_lt h hj (by rw [y.1]; decide)
      have e3 : j + 1 = j' := congrArg Prod.fst e2
      have e4 : c ++ [(1, (τ j).2.1 - 7)] = c' := congrArg Prod.snd e2
      refine ⟨by omega, by omega, _, e4.symm, ?_, lE_f (by omega)⟩
      rw [lm_1 (by decide)]; omega
    · rw [if_neg y] at e
      exact (inl_inr e).elim
theorem sp_pl_g {τ : tK} {n : Nat} {c : List lOp} (h : TK τ n) : ∀ (d j j0 : Nat) (D0 : List lOp), j ≤ n → j0 ≤ j → lm D0 + j0 ≤ j → lE 2 D0 false → ∀ j' c', sp_pl τ d j (c ++ D0) = .inr (j', c') → j ≤ j' ∧ j' ≤ n ∧ ∃ D, c' = c ++ D ∧ lm D + j0 ≤ j' ∧ lE 2 D false := by
  intro d
  induction d with
  | zero => exact fun j j0 D0 _ _ _ _ j' c' e => (inl_inr e).elim
  | succ d ih =>
    intro j j0 D0 hj hj0 hm hE j' c' e
    have e : (if isS τ j 42 then rb (sp_un τ (j + 1) (c ++ D0)) (fun j c => sp_pl τ d j (c ++ [(6, 0)])) else if isS τ j 47 then (if isN τ (j + 1) then (if (τ (j + 1)).2.1 = 0 then .inl (2, j + 1, c ++ D0) else sp_pl τ d (j + 2) (c ++ D0 ++ [(2, (τ (j + 1)).2.1)])) else .inl (1, j + 1, c ++ D0)) else .inr (j, c ++ D0)) = (.inr (j', c') : tR) := e
    by_cases z1 : isS τ j 42
    · have hl := tk_S h hj z1
      rw [if_pos z1] at e
      have g := sp_un_g (c := c ++ D0) h (show j + 1 ≤ n by omega)
      cases hr : sp_un τ (j + 1) (c ++ D0) with
      | inl x => rw [hr] at e; exact (inl_inr e).elim
      | inr x =>
        obtain ⟨j1, c1⟩ := x
        rw [hr, rb_r] at e
        obtain ⟨g1, g2, D, g3, g4, g5⟩ := g j1 c1 hr
        rw [g3, List.append_assoc, List.append_assoc] at e
        have r := ih j1 j0 (D0 ++ (D ++ [(6, 0)])) g2 (by omega) (by rw [lm_a, lm_a, lm_1 (by decide)]; omega) (by rw [← List.append_assoc]; exact lE_2 hE g5 (by decide) (fun _ _ => rfl) (by decide)) j' c' e
        exact ⟨by omega, r.2⟩
    · rw [if_neg z1] at e
      by_cases z2 : isS τ j 47
      · have hl := tk_S h hj z2
        rw [if_pos z2] at e
        by_cases z3 : isN τ (j + 1)
        · have hl2 := tk_N h (show j + 1 ≤ n by omega) z3
          rw [if_pos z3] at e
          by_cases z4 : (τ (j + 1)).2.1 = 0
          · rw [if_pos z4] at e
            exact (inl_inr e).elim
          · rw [if_neg z4, List.append_assoc] at e
            have r := ih (j + 2) j0 (D0 ++ [(2, (τ (j + 1)).2.1)]) (by omega) (by omega) (by rw [lm_a, lm_2]; omega) (lE_p hE (by omega) ((h.2 (j + 1) (by omega)).2.2.2.1 z3)) j' c' e
            exact ⟨by omega, r.2⟩
        · rw [if_neg z3] at e
          exact (inl_inr e).elim
      · rw [if_neg z2] at e
        have e2 := inr_inj e
        have e3 : j = j' := congrArg Prod.fst e2
        have e4 : c ++ D0 = c' := congrArg Prod.snd e2
        exact ⟨by omega, by omega, D0, e4.symm, by omega, hE⟩
theorem sp_pr_g {τ : tK} {n j : Nat} {c : List lOp} (h : TK τ n) (hj : j ≤ n) : gd n 2 false j c (sp_pr τ j c) := by
  intro j' c' e
  unfold sp_pr at e
  have g := sp_un_g (c := c) h hj
  cases hr : sp_un τ j c with
  | inl x => rw [hr] at e; exact (inl_inr e).elim
  | inr x =>
    obtain ⟨j1, c1⟩ := x
    rw [hr, rb_r] at e
    obtain ⟨g1, g2, D, g3, g4, g5⟩ := g j1 c1 hr
    rw [g3] at e
    have r := sp_pl_g (c := c) h 402 j1 j D g2 (by omega) g4 (lE_k g5 (by decide)) j' c' e
    exact ⟨by omega, r.2⟩
theorem sp_sl_g {τ : tK} {n : Nat} {c : List lOp} (h : TK τ n) : ∀ (d j j0 : Nat) (D0 : List lOp), j ≤ n → j0 ≤ j → lm D0 + j0 ≤ j → lE 3 D0 false → ∀ j' c', sp_sl τ d j (c ++ D0) = .inr (j', c') → j ≤ j' ∧ j' ≤ n ∧ ∃ D, c' = c ++ D ∧ lm D + j0 ≤ j' ∧ lE 3 D false := by
  intro d
  induction d with
  | zero => exact fun j j0 D0 _ _ _ _ j' c' e => (inl_inr e).elim
  | succ d ih =>
    intro j j0 D0 hj hj0 hm hE j' c' e
    have e : (if isS τ j 43 then rb (sp_pr τ (j + 1) (c ++ D0)) (fun j c => sp_sl τ d j (c ++ [(4, 0)])) else if isS τ j 45 then rb (sp_pr τ (j + 1) (c ++ D0)) (fun j c => sp_sl τ d j (c ++ [(5, 0)])) else .inr (j, c ++ D0)) = (.inr (j', c') : tR) := e
    have key : ∀ o, 4 ≤ o → (∀ st r, l_ty ((o, 0) :: r) (false :: false :: st) = l_ty r (false :: st)) → j < n → rb (sp_pr τ (j + 1) (c ++ D0)) (fun j c => sp_sl τ d j (c ++ [(o, 0)])) = .inr (j', c') → j ≤ j' ∧ j' ≤ n ∧ ∃ D, c' = c ++ D ∧ lm D + j0 ≤ j' ∧ lE 3 D false := fun o ho hty hl e => by
      have g := sp_pr_g (c := c ++ D0) h (show j + 1 ≤ n by omega)
      cases hr : sp_pr τ (j + 1) (c ++ D0) with
      | inl x => rw [hr] at e; exact (inl_inr e).elim
      | inr x =>
        obtain ⟨j1, c1⟩ := x
        rw [hr, rb_r] at e
        obtain ⟨g1, g2, D, g3, g4, g5⟩ := g j1 c1 hr
        rw [g3, List.append_assoc, List.append_assoc] at e
        have r := ih j1 j0 (D0 ++ (D ++ [(o, 0)])) g2 (by omega) (by rw [lm_a, lm_a, lm_1 (by omega)]; omega) (by rw [← List.append_assoc]; exact lE_2 hE g5 (by decide) hty ho) j' c' e
        exact ⟨by omega, r.2⟩
    by_cases z1 : isS τ j 43
    · rw [if_pos z1] at e
      exact key 4 (by decide) (fun _ _ => rfl) (tk_S h hj z1) e
    · rw [if_neg z1] at e
      by_cases z2 : isS τ j 45
      · rw [if_pos z2] at e
        exact key 5 (by decide) (fun _ _ => rfl) (tk_S h hj z2) e
      · rw [if_neg z2] at e
        have e2 := inr_inj e
        have e3 : j = j' := congrArg Prod.fst e2
        have e4 : c ++ D0 = c' := congrArg Prod.snd e2
        exact ⟨by omega, by omega, D0, e4.symm, by omega, hE⟩
theorem sp_su_g {τ : tK} {n j : Nat} {c : List lOp} (h : TK τ n) (hj : j ≤ n) : gd n 3 false j c (sp_su τ j c) := by
  intro j' c' e
  unfold sp_su at e
  have g := sp_pr_g (c := c) h hj
  cases hr : sp_pr τ j c with
  | inl x => rw [hr] at e; exact (inl_inr e).elim
  | inr x =>
    obtain ⟨j1, c1⟩ := x
    rw [hr, rb_r] at e
    obtain ⟨g1, g2, D, g3, g4, g5⟩ := g j1 c1 hr
    rw [g3] at e
    have r := sp_sl_g (c := c) h 402 j1 j D g2 (by omega) g4 (lE_k g5 (by decide)) j' c' e
    exact ⟨by omega, r.2⟩
