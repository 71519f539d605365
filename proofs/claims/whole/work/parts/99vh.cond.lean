/-! ===== text: what a law's text tells: conditions ===== -/
def sp_cm (τ : tK) (j : Nat) (c : List lOp) : tR := rb (sp_su τ j c) (fun j1 c1 => if isS τ j1 60 ∨ isS τ j1 61 ∨ isS τ j1 62 then rb (sp_su τ (j1 + 1) c1) (fun j2 c2 => .inr (j2, c2 ++ [(if (τ j1).2.1 = 60 then 7 else if (τ j1).2.1 = 61 then 8 else 9, 0)])) else .inl (1, j1, c1))
/-- a claim (m 0) or a condition (with what waits: e an or, b an and), o being open -/
def sp_B (τ : tK) : Nat → Nat → Bool → Bool → Nat → Nat → List lOp → tR
  | 0, _, _, _, _, j, c => .inl (0, j, c)
  | d + 1, m, e, b, o, j, c =>
    if m = 0 then (
      if isW τ j 6 then (if 8 ≤ o then .inl (3, j, c) else rb (sp_B τ d 0 false false (o + 1) (j + 1) c) (fun j c => .inr (j, c ++ [(3, 0)])))
      else if isS τ j 40 then (if 8 ≤ o then .inl (3, j, c) else rb (sp_B τ d 1 false false (o + 1) (j + 1) c) (fun j c => if isS τ j 41 then .inr (j + 1, c) else .inl (1, j, c)))
      else sp_cm τ j c)
    else rb (sp_B τ d 0 false false o j c) (fun j c =>
      if isW τ j 5 then sp_B τ d 1 e true o (j + 1) (if b = true then c ++ [(10, 0)] else c)
      else if isW τ j 4 then sp_B τ d 1 true false o (j + 1) (if e = true then (if b = true then c ++ [(10, 0)] else c) ++ [(11, 0)] else (if b = true then c ++ [(10, 0)] else c))
      else .inr (j, if e = true then (if b = true then c ++ [(10, 0)] else c) ++ [(11, 0)] else (if b = true then c ++ [(10, 0)] else c)))
theorem sp_B0 {τ : tK} {d o j : Nat} {e b : Bool} {c : List lOp} : sp_B τ (d + 1) 0 e b o j c = if isW τ j 6 then (if 8 ≤ o then .inl (3, j, c) else rb (sp_B τ d 0 false false (o + 1) (j + 1) c) (fun j c => .inr (j, c ++ [(3, 0)]))) else if isS τ j 40 then (if 8 ≤ o then .inl (3, j, c) else rb (sp_B τ d 1 false false (o + 1) (j + 1) c) (fun j c => if isS τ j 41 then .inr (j + 1, c) else .inl (1, j, c))) else sp_cm τ j c := rfl
theorem sp_B1 {τ : tK} {d o j : Nat} {e b : Bool} {c : List lOp} : sp_B τ (d + 1) 1 e b o j c = rb (sp_B τ d 0 false false o j c) (fun j c => if isW τ j 5 then sp_B τ d 1 e true o (j + 1) (if b = true then c ++ [(10, 0)] else c) else if isW τ j 4 then sp_B τ d 1 true false o (j + 1) (if e = true then (if b = true then c ++ [(10, 0)] else c) ++ [(11, 0)] else (if b = true then c ++ [(10, 0)] else c)) else .inr (j, if e = true then (if b = true then c ++ [(10, 0)] else c) ++ [(11, 0)] else (if b = true then c ++ [(10, 0)] else c))) := rfl
theorem sp_cm_g {τ : tK} {n j : Nat} {c : List lOp} (h : TK τ n) (hj : j ≤ n) : gd n 4 true j c (sp_cm τ j c) := by
  intro j' c' e
  unfold sp_cm at e
  have g := sp_su_g (c := c) h hj
  cases hr : sp_su τ j c with
  | inl x => rw [hr] at e; exact (inl_inr e).elim
  | inr x =>
    obtain ⟨j1, c1⟩ := x
    obtain ⟨g1, g2, D1, g3, g4, g5⟩ := g j1 c1 hr
    rw [hr, rb_r] at e
    by_cases z : isS τ j1 60 ∨ isS τ j1 61 ∨ isS τ j1 62
    · rw [if_pos z] at e
      have hl : j1 < n := by
        rcases z with z | z | z
        · exact tk_S h g2 z
        · exact tk_S h g2 z
        · exact tk_S h g2 z
      have gg := sp_su_g (c := c1) h (show j1 + 1 ≤ n by omega)
      cases hr2 : sp_su τ (j1 + 1) c1 with
      | inl x => rw [hr2] at e; exact (inl_inr e).elim
      | inr x =>
        obtain ⟨j2, c2⟩ := x
        obtain ⟨k1, k2, D2, k3, k4, k5⟩ := gg j2 c2 hr2
        rw [hr2, rb_r] at e
        have e2 := inr_inj e
        have e3 : j2 = j' := congrArg Prod.fst e2
        obtain ⟨O, hO⟩ : ∃ O, O = if (τ j1).2.1 = 60 then 7 else if (τ j1).2.1 = 61 then 8 else 9 := ⟨_, rfl⟩
        rw [← hO] at e2
        have hO3 : O = 7 ∨ O = 8 ∨ O = 9 := by
          rw [hO]
          split
          · exact Or.inl rfl
          · split
            · exact Or.inr (Or.inl rfl)
            · exact Or.inr (Or.inr rfl)
        have e4 : c2 ++ [(O, 0)] = c' := congrArg Prod.snd e2
        refine ⟨by omega, by omega, D1 ++ D2 ++ [(O, 0)], ?_, ?_, lE_2 (lE_k g5 (by decide)) k5 (by decide) ?_ (by omega)⟩
        · rw [← e4, k3, g3, List.append_assoc, List.append_assoc, List.append_assoc]
        · rw [lm_a, lm_a, lm_1 (by omega)]; omega
        · intro st r
          rcases hO3 with q | q | q <;> (rw [q]; rfl)
    · rw [if_neg z] at e
      exact (inl_inr e).elim
/-- what waits in front of code -/
def wt (K : Nat) (e : Bool) (D : List lOp) : Prop := (e = true → lE K D true) ∧ (e = false → D = [])
theorem wt_2 {K K' o : Nat} {e : Bool} {D C : List lOp} (h : wt K e D) (hC : lE K' C true) (hk : K' + 1 ≤ K) (ho : o = 10 ∨ o = 11) : lE K (D ++ (if e = true then C ++ [(o, 0)] else C)) true := by
  cases e with
  | true =>
    rw [if_pos rfl, ← List.append_assoc]
    exact lE_2 (h.1 rfl) hC hk (fun st r => by rcases ho with q | q <;> (rw [q]; rfl)) (by omega)
  | false =>
    rw [if_neg (by decide), h.2 rfl]
    exact lE_k hC (by omega)
theorem lm_if {e : Bool} {C : List lOp} {o : Nat} (ho : o ≠ 2) : lm (if e = true then C ++ [(o, 0)] else C) = lm C + (if e = true then 1 else 0) := by
  cases e with
  | true => rw [if_pos rfl, if_pos rfl, lm_a, lm_1 ho]
  | false => rw [if_neg (by decide), if_neg (by decide)]; rfl
theorem app_if {e : Bool} {A B : List lOp} {x : lOp} : (if e = true then A ++ B ++ [x] else A ++ B) = A ++ (if e = true then B ++ [x] else B) := by
  cases e with
  | true => rw [if_pos rfl, if_pos rfl, List.append_assoc]
  | false => rw [if_neg (by decide), if_neg (by decide)]
theorem sp_B_g {τ : tK} {n : Nat} (h : TK τ n) : ∀ d : Nat, (∀ (e b : Bool) (o j : Nat) (c : List lOp), o ≤ 8 → j ≤ n → gd n (4 + 2 * (8 - o)) true j c (sp_B τ d 0 e b o j c)) ∧ (∀ (e b : Bool) (o j j0 : Nat) (c DE DB : List lOp), o ≤ 8 → j ≤ n → j0 ≤ j → lm DE + lm DB + (if e = true then 1 else 0) + (if b = true then 1 else 0) + j0 ≤ j → wt (6 + 2 * (8 - o)) e DE → wt (5 + 2 * (8 - o)) b DB → ∀ j' c', sp_B τ d 1 e b o j (c ++ DE ++ DB) = .inr (j', c') → j < j' ∧ j' ≤ n ∧ ∃ D, c' = c ++ D ∧ lm D + j0 ≤ j' ∧ lE (6 + 2 * (8 - o)) D true) := by
  intro d
  induction d with
  | zero => exact ⟨fun e b o j c _ _ j' c' q => (inl_inr q).elim, fun e b o j j0 c DE DB _ _ _ _ _ _ j' c' q => (inl_inr q).elim⟩
  | succ d ih =>
    obtain ⟨ih0, ih1⟩ := ih
    refine ⟨fun e b o j c ho hj j' c' q => ?_, fun e b o j j0 c DE DB ho hj hj0 hm hE hB j' c' q => ?_⟩
    · rw [sp_B0] at q
      by_cases z : isW τ j 6
      · have hl := tk_W h hj z
        rw [if_pos z] at q
        by_cases z8 : 8 ≤ o
        · rw [if_pos z8] at q; exact (inl_inr q).elim
        · rw [if_neg z8] at q
          have g := ih0 false false (o + 1) (j + 1) c (by omega) (by omega)
          cases hr : sp_B τ d 0 false false (o + 1) (j + 1) c with
          | inl x => rw [hr] at q; exact (inl_inr q).elim
          | inr x =>
            obtain ⟨j1, c1⟩ := x
            obtain ⟨g1, g2, D1, g3, g4, g5⟩ := g j1 c1 hr
            rw [hr, rb_r] at q
            have e2 := inr_inj q
            have e3 : j1 = j' := congrArg Prod.fst e2
            have e4 : c1 ++ [(3, 0)] = c' := congrArg Prod.snd e2
            refine ⟨by omega, by omega, D1 ++ [(3, 0)], by rw [← e4, g3, List.append_assoc], by rw [lm_a, lm_1 (by decide)]; omega, lE_k (lE_nt g5) (by omega)⟩
      · rw [if_neg z] at q
        by_cases y : isS τ j 40
        · have hl := tk_S h hj y
          rw [if_pos y] at q
          by_cases z8 : 8 ≤ o
          · rw [if_pos z8] at q; exact (inl_inr q).elim
          · rw [if_neg z8] at q
            cases hr : sp_B τ d 1 false false (o + 1) (j + 1) c with
            | inl x => rw [hr] at q; exact (inl_inr q).elim
            | inr x =>
              obtain ⟨j1, c1⟩ := x
              obtain ⟨g1, g2, D1, g3, g4, g5⟩ := ih1 false false (o + 1) (j + 1) (j + 1) c [] [] (by omega) (by omega) (Nat.le_refl _) (by rw [lm_0, if_neg (by decide)]; omega) ⟨fun q => absurd q (by decide), fun _ => rfl⟩ ⟨fun q => absurd q (by decide), fun _ => rfl⟩ j1 c1 (by rw [List.append_nil, List.append_nil]; exact hr)
              rw [hr, rb_r] at q
              by_cases w : isS τ j1 41
              · have hl1 := tk_S h g2 w
                rw [if_pos w] at q
                have e2 := inr_inj q
                have e3 : j1 + 1 = j' := congrArg Prod.fst e2
                have e4 : c1 = c' := congrArg Prod.snd e2
                exact ⟨by omega, by omega, D1, by rw [← e4, g3], by omega, lE_k g5 (by omega)⟩
              · rw [if_neg w] at q; exact (inl_inr q).elim
        · rw [if_neg y] at q
          obtain ⟨g1, g2, D1, g3, g4, g5⟩ := sp_cm_g (c := c) h hj j' c' q
          exact ⟨g1, g2, D1, g3, g4, lE_k g5 (by omega)⟩
    · rw [sp_B1] at q
      have g := ih0 false false o j (c ++ DE ++ DB) ho hj
      cases hr : sp_B τ d 0 false false o j (c ++ DE ++ DB) with
      | inl x => rw [hr] at q; exact (inl_inr q).elim
      | inr x =>
        obtain ⟨j1, c1⟩ := x
        obtain ⟨g1, g2, C, g3, g4, g5⟩ := g j1 c1 hr
        rw [hr, rb_r, g3] at q
        -- behind the and that waited
        obtain ⟨X, hX⟩ : ∃ X, X = DB ++ (if b = true then C ++ [(10, 0)] else C) := ⟨_, rfl⟩
        have eX : (if b = true then c ++ DE ++ DB ++ C ++ [(10, 0)] else c ++ DE ++ DB ++ C) = c ++ DE ++ X := by
          rw [app_if, hX, List.append_assoc (c ++ DE)]
        have lX : lE (5 + 2 * (8 - o)) X true := by
          rw [hX]
          exact wt_2 hB g5 (by omega) (Or.inl rfl)
        have mX : lm X = lm DB + lm C + (if b = true then 1 else 0) := by
          rw [hX, lm_a, lm_if (by decide)]; omega
        rw [eX] at q
        obtain ⟨Y, hY⟩ : ∃ Y, Y = DE ++ (if e = true then X ++ [(11, 0)] else X) := ⟨_, rfl⟩
        have eY : (if e = true then c ++ DE ++ X ++ [(11, 0)] else c ++ DE ++ X) = c ++ Y := by
          rw [app_if, hY, List.append_assoc]
        have lY : lE (6 + 2 * (8 - o)) Y true := by
          rw [hY]
          exact wt_2 hE lX (by omega) (Or.inr rfl)
        have mY : lm Y = lm DE + lm X + (if e = true then 1 else 0) := by
          rw [hY, lm_a, lm_if (by decide)]; omega
        rw [eY] at q
        by_cases z : isW τ j1 5
        · have hl := tk_W h g2 z
          rw [if_pos z] at q
          have r := ih1 e true o (j1 + 1) j0 c DE X ho (by omega) (by omega) (by rw [if_pos rfl]; omega) hE ⟨fun _ => lX, fun q => absurd q (by decide)⟩ j' c' q
          exact ⟨by omega, r.2⟩
        · rw [if_neg z] at q
          by_cases y : isW τ j1 4
          · have hl := tk_W h g2 y
            rw [if_pos y] at q
            have r := ih1 true false o (j1 + 1) j0 c Y [] ho (by omega) (by omega) (by rw [if_pos rfl, if_neg (by decide), lm_0]; omega) ⟨fun _ => lY, fun q => absurd q (by decide)⟩ ⟨fun q => absurd q (by decide), fun _ => rfl⟩ j' c' (by rw [List.append_nil]; exact q)
            exact ⟨by omega, r.2⟩
          · rw [if_neg y] at q
            have e2 := inr_inj q
            have e3 : j1 = j' := congrArg Prod.fst e2
            have e4 : c ++ Y = c' := congrArg Prod.snd e2
            exact ⟨by omega, by omega, Y, e4.symm, by omega, lY⟩
theorem sp_cd_g {τ : tK} {n d o j : Nat} {c : List lOp} (h : TK τ n) (ho : o ≤ 8) (hj : j ≤ n) : gd n (6 + 2 * (8 - o)) true j c (sp_B τ d 1 false false o j c) := fun j' c' q => (sp_B_g h d).2 false false o j j c [] [] ho hj (Nat.le_refl _) (by rw [lm_0, if_neg (by decide)]; omega) ⟨fun q => absurd q (by decide), fun _ => rfl⟩ ⟨fun q => absurd q (by decide), fun _ => rfl⟩ j' c' (by rw [List.append_nil, List.append_nil]; exact q)
