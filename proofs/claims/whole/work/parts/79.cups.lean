/-! ===== under: where a cup comes ===== -/
def u_sw (a b u : Nat) : Nat := if u = a then b else if u = b then a else u
def u_f (ps : List (Nat × Nat)) : Nat → Nat → Nat → Nat
  | 0, _, u => u
  | d + 1, i, u => u_f ps d (i + 1) (u_sw (ps.getD i (0, 0)).1 (ps.getD i (0, 0)).2 u)
theorem u_sw_b {a b u : Nat} (h1 : a < 10) (h2 : b < 10) (h : u < 10) : u_sw a b u < 10 := by
  unfold u_sw
  split
  · exact h2
  · split
    · exact h1
    · exact h
theorem ps_get2 {ps : List (Nat × Nat)} {i : Nat} (h : i < ps.length) : ps[i]? = some (ps.getD i (0, 0)) := by
  rw [List.getD_eq_getElem?_getD, List.getElem?_eq_getElem h]
  rfl
theorem u_f_b {ps : List (Nat × Nat)} (hps : ∀ i, i < ps.length → (ps.getD i (0, 0)).1 < 10 ∧ (ps.getD i (0, 0)).2 < 10) : ∀ (d i u : Nat), i + d = ps.length → u < 10 → u_f ps d i u < 10
  | 0, _, _, _, h => h
  | d + 1, i, u, hi, h => by
    unfold u_f
    have := hps i (by omega)
    exact u_f_b hps d (i + 1) _ (by omega) (u_sw_b this.1 this.2 h)
theorem cu_eq (N f : Nat) (G : nG) (x2 x3 : Int32) (M : nM) : fX9_cupBehind_4 N G (f + 1) x2 x3 M = if (M 29 3) ≤ x3 then some (x2, M) else (fX7_cell G 29 x3 (0 : Int32) M).bind fun p1 => (fX7_cell G 29 x3 (1 : Int32) p1.2).bind fun p2 => if ¬ x2 = p1.1 then (if ¬ x2 = p2.1 then fX9_cupBehind_4 N G f x2 (x3 + (1 : Int32)) p2.2 else fX9_cupBehind_4 N G f p1.1 (x3 + (1 : Int32)) p2.2) else fX9_cupBehind_4 N G f p2.1 (x3 + (1 : Int32)) p2.2 := rfl
theorem e_cup {N : Nat} {G : nG} {M : nM} {ps : List (Nat × Nat)} (hL : ps.length ≤ 16) (h3 : M 29 3 = nI ps.length) (hps : ∀ i, i < ps.length → (ps.getD i (0, 0)).1 < 10 ∧ (ps.getD i (0, 0)).2 < 10) (hc : ∀ i, i < ps.length → fX7_cell G 29 (nI i) (0 : Int32) M = some (nI (ps.getD i (0, 0)).1, M) ∧ fX7_cell G 29 (nI i) (1 : Int32) M = some (nI (ps.getD i (0, 0)).2, M)) : ∀ (d i f u : Nat), i + d = ps.length → d < f → u < 10 → fX9_cupBehind_4 N G f (nI u) (nI i) M = some (nI (u_f ps d i u), M) := by
  intro d
  induction d with
  | zero =>
    intro i f u hi hf hu
    obtain ⟨f, rfl⟩ : ∃ g, f = g + 1 := ⟨f - 1, by omega⟩
    rw [cu_eq, h3, if_pos (nI_le (by omega) (by omega))]
    rfl
  | succ d ih =>
    intro i f u hi hf hu
    obtain ⟨f, rfl⟩ : ∃ g, f = g + 1 := ⟨f - 1, by omega⟩
    obtain ⟨c1, c2⟩ := hc i (by omega)
    obtain ⟨b1, b2⟩ := hps i (by omega)
    rw [cu_eq, h3, if_neg (nI_ge (by omega) (by omega)), c1, Option.bind_some]
    show (fX7_cell G 29 (nI i) (1 : Int32) M).bind _ = _
    rw [c2, Option.bind_some, nI_1]
    show (if ¬ nI u = nI (ps.getD i (0, 0)).1 then (if ¬ nI u = nI (ps.getD i (0, 0)).2 then fX9_cupBehind_4 N G f (nI u) (nI (i + 1)) M else fX9_cupBehind_4 N G f (nI (ps.getD i (0, 0)).1) (nI (i + 1)) M) else fX9_cupBehind_4 N G f (nI (ps.getD i (0, 0)).2) (nI (i + 1)) M) = _
    unfold u_f u_sw
    by_cases e1 : u = (ps.getD i (0, 0)).1
    · rw [if_neg (not_not_intro (congrArg nI e1)), if_pos e1]
      exact ih (i + 1) f _ (by omega) (by omega) b2
    · rw [if_pos (fun z => e1 ((nI_eq (by omega) (by omega)).mp z)), if_neg e1]
      by_cases e2 : u = (ps.getD i (0, 0)).2
      · rw [if_neg (not_not_intro (congrArg nI e2)), if_pos e2]
        exact ih (i + 1) f _ (by omega) (by omega) b1
      · rw [if_pos (fun z => e2 ((nI_eq (by omega) (by omega)).mp z)), if_neg e2]
        exact ih (i + 1) f _ (by omega) (by omega) hu
theorem un_eq (N f : Nat) (x2 x3 : Int32) (M : nM) : fX12_comesUnder_4 N (f + 1) x2 x3 M = if (M 107 46) ≤ x3 then some (x2, M) else n_chk (n_ib 16 x3) (if ¬ x2 = (M 133 x3.toNatClampNeg) then n_chk (n_ib 16 x3) (if ¬ x2 = (M 134 x3.toNatClampNeg) then fX12_comesUnder_4 N f x2 (x3 + (1 : Int32)) M else n_chk (n_ib 16 x3) (fX12_comesUnder_4 N f (M 133 x3.toNatClampNeg) (x3 + (1 : Int32)) M)) else n_chk (n_ib 16 x3) (fX12_comesUnder_4 N f (M 134 x3.toNatClampNeg) (x3 + (1 : Int32)) M)) := rfl
theorem e_und {N : Nat} {M : nM} {ps : List (Nat × Nat)} (hL : ps.length ≤ 16) (h3 : M 107 46 = nI ps.length) (hps : ∀ i, i < ps.length → (ps.getD i (0, 0)).1 < 10 ∧ (ps.getD i (0, 0)).2 < 10) (hc : ∀ i, i < ps.length → M 133 i = nI (ps.getD i (0, 0)).1 ∧ M 134 i = nI (ps.getD i (0, 0)).2) : ∀ (d i f u : Nat), i + d = ps.length → d < f → u < 10 → fX12_comesUnder_4 N f (nI u) (nI i) M = some (nI (u_f ps d i u), M) := by
  intro d
  induction d with
  | zero =>
    intro i f u hi hf hu
    obtain ⟨f, rfl⟩ : ∃ g, f = g + 1 := ⟨f - 1, by omega⟩
    rw [un_eq, h3, if_pos (nI_le (by omega) (by omega))]
    rfl
  | succ d ih =>
    intro i f u hi hf hu
    obtain ⟨f, rfl⟩ : ∃ g, f = g + 1 := ⟨f - 1, by omega⟩
    obtain ⟨c1, c2⟩ := hc i (by omega)
    obtain ⟨b1, b2⟩ := hps i (by omega)
    rw [un_eq, h3, if_neg (nI_ge (by omega) (by omega)), n_ib_nI (show i < 16 by omega) (by decide), n_chk_t, n_chk_t, n_chk_t, n_chk_t, nI_clamp (show i < 2 ^ 31 by omega), c1, c2, nI_1]
    unfold u_f u_sw
    by_cases e1 : u = (ps.getD i (0, 0)).1
    · rw [if_neg (not_not_intro (congrArg nI e1)), if_pos e1]
      exact ih (i + 1) f _ (by omega) (by omega) b2
    · rw [if_pos (fun z => e1 ((nI_eq (by omega) (by omega)).mp z)), if_neg e1]
      by_cases e2 : u = (ps.getD i (0, 0)).2
      · rw [if_neg (not_not_intro (congrArg nI e2)), if_pos e2]
        exact ih (i + 1) f _ (by omega) (by omega) b1
      · rw [if_pos (fun z => e2 ((nI_eq (by omega) (by omega)).mp z)), if_neg e2]
        exact ih (i + 1) f _ (by omega) (by omega) hu
