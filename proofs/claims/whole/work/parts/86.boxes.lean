/-! ===== boxes ===== -/
theorem f35_eq (N f : Nat) (k25 : Int32 → nM → Option (Unit × nM)) (x1 x2 : Int32) (M : nM) : fX12_findsNested_35 N k25 (f + 1) x1 x2 M = if (M 107 51) ≤ x2 then k25 (x1 + (1 : Int32)) M else fX12_findsNested_45 N k25 (fun x1 x2 M => fX12_findsNested_35 N k25 f x1 x2 M) N x1 x2 (0 : Int32) M := rfl
theorem c_f35 {N : Nat} {k25 : Int32 → nM → Option (Unit × nM)} {x1 : Int32} {M : nM} {ps : List (Nat × Nat)} {D : Nat → Nat} (hN : 1000 ≤ N) (hL8 : ps.length ≤ 8) (h51 : M 107 51 = nI ps.length) (hb : ∀ i, i < ps.length → (ps.getD i (0, 0)).1 ≤ 30 ∧ (ps.getD i (0, 0)).2 ≤ 30) (hc : ∀ i, i < ps.length → M 136 i = nI (ps.getD i (0, 0)).2 ∧ M 137 i = nI (ps.getD i (0, 0)).1) (hD : ∀ v, v < ps.length → D v = x_mx (fun u => x_E ps u v) D ps.length) (hD8 : ∀ v, v < ps.length → D v ≤ 8) :
    ∀ (d i f : Nat) (L : Nat → Nat) (W : Nat → Int32), i + d = ps.length → d < f → (∀ t, t < ps.length → W t = nI (L t)) → (∀ t, t < ps.length → L t ≤ D t) → ∃ W' : Nat → Int32, (∀ t, t < ps.length → W' t = nI (x_ps (x_E ps) (x_pM ps.length d i) L t)) ∧ fX12_findsNested_35 N k25 f x1 (nI i) (n_set M 138 W) = k25 (x1 + 1) (n_set M 138 W') := by
  intro d
  induction d with
  | zero =>
    intro i f L W hi hf hW hLD
    obtain ⟨f, rfl⟩ : ∃ g, f = g + 1 := ⟨f - 1, by omega⟩
    refine ⟨W, hW, ?_⟩
    rw [f35_eq, n_set_ne (show (107 : Nat) ≠ 138 by decide), h51, if_pos (nI_le (by omega) (by omega))]
  | succ d ih =>
    intro i f L W hi hf hW hLD
    obtain ⟨f, rfl⟩ : ∃ g, f = g + 1 := ⟨f - 1, by omega⟩
    obtain ⟨W1, w1, w2⟩ := c_f45 (N := N) (k25 := k25) (k35 := fun x1 x2 M => fX12_findsNested_35 N k25 f x1 x2 M) (x1 := x1) (M := M) hL8 h51 hb hc hD hD8 (show i < ps.length by omega) ps.length 0 N L W (by omega) (by omega) hW hLD
    obtain ⟨W2, w3, w4⟩ := ih (i + 1) f (x_ps (x_E ps) (x_qM i ps.length 0) L) W1 (by omega) (by omega) w1 (x_ps_le hD _ L (x_qM_b (by omega) _ 0 (by omega)) hLD)
    refine ⟨W2, fun t ht => ?_, ?_⟩
    · unfold x_pM
      rw [x_ps_app]
      exact w3 t ht
    · rw [f35_eq, n_set_ne (show (107 : Nat) ≠ 138 by decide), h51, if_neg (nI_ge (by omega) (by omega))]
      exact w2.trans w4
theorem f25_eq (N f : Nat) (x1 : Int32) (M : nM) : fX12_findsNested_25 N (f + 1) x1 M = if (M 107 51) ≤ x1 then some ((), M) else fX12_findsNested_35 N (fun x1 M => fX12_findsNested_25 N f x1 M) N x1 (0 : Int32) M := rfl
theorem c_f25 {N : Nat} {M : nM} {ps : List (Nat × Nat)} {D : Nat → Nat} (hN : 1000 ≤ N) (hL8 : ps.length ≤ 8) (h51 : M 107 51 = nI ps.length) (hb : ∀ i, i < ps.length → (ps.getD i (0, 0)).1 ≤ 30 ∧ (ps.getD i (0, 0)).2 ≤ 30) (hc : ∀ i, i < ps.length → M 136 i = nI (ps.getD i (0, 0)).2 ∧ M 137 i = nI (ps.getD i (0, 0)).1) (hD : ∀ v, v < ps.length → D v = x_mx (fun u => x_E ps u v) D ps.length) (hD8 : ∀ v, v < ps.length → D v ≤ 8) :
    ∀ (k j f : Nat) (L : Nat → Nat) (W : Nat → Int32), j + k = ps.length → k < f → (∀ t, t < ps.length → W t = nI (L t)) → (∀ t, t < ps.length → L t ≤ D t) → ∃ W' : Nat → Int32, (∀ t, t < ps.length → W' t = nI (x_it (x_E ps) (x_pM ps.length ps.length 0) k L t)) ∧ fX12_findsNested_25 N f (nI j) (n_set M 138 W) = some ((), n_set M 138 W') := by
  intro k
  induction k with
  | zero =>
    intro j f L W hj hf hW hLD
    obtain ⟨f, rfl⟩ : ∃ g, f = g + 1 := ⟨f - 1, by omega⟩
    refine ⟨W, hW, ?_⟩
    rw [f25_eq, n_set_ne (show (107 : Nat) ≠ 138 by decide), h51, if_pos (nI_le (by omega) (by omega))]
  | succ k ih =>
    intro j f L W hj hf hW hLD
    obtain ⟨f, rfl⟩ : ∃ g, f = g + 1 := ⟨f - 1, by omega⟩
    obtain ⟨W1, w1, w2⟩ := c_f35 (N := N) (k25 := fun x1 M => fX12_findsNested_25 N f x1 M) (x1 := nI j) (M := M) hN hL8 h51 hb hc hD hD8 ps.length 0 N L W (by omega) (by omega) hW hLD
    obtain ⟨W2, w3, w4⟩ := ih (j + 1) f (x_ps (x_E ps) (x_pM ps.length ps.length 0) L) W1 (by omega) (by omega) w1 (x_ps_le hD _ L (x_pM_b _ 0 (by omega)) hLD)
    refine ⟨W2, w3, ?_⟩
    rw [f25_eq, n_set_ne (show (107 : Nat) ≠ 138 by decide), h51, if_neg (nI_ge (by omega) (by omega))]
    refine w2.trans ?_
    show fX12_findsNested_25 N f (nI j + 1) (n_set M 138 W1) = _
    rw [nI_1]
    exact w4
theorem f2_eq (N f : Nat) (x1 : Int32) (M : nM) : fX12_findsNested_2 N (f + 1) x1 M = if (M 107 51) ≤ x1 then fX12_findsNested_25 N N (0 : Int32) M else n_chk (n_ib 8 x1) (fX12_findsNested_2 N f (x1 + (1 : Int32)) (n_up M 138 x1.toNatClampNeg (1 : Int32))) := rfl
theorem c_f2 {N m : Nat} {M : nM} (hm : m ≤ 8) (h51 : M 107 51 = nI m) : ∀ (d i f : Nat) (W : Nat → Int32), i + d = m → d < f → (∀ t, t < i → W t = 1) → ∃ W' : Nat → Int32, (∀ t, t < m → W' t = 1) ∧ fX12_findsNested_2 N f (nI i) (n_set M 138 W) = fX12_findsNested_25 N N (0 : Int32) (n_set M 138 W') := by
  intro d
  induction d with
  | zero =>
    intro i f W hi hf hW
    obtain ⟨f, rfl⟩ : ∃ g, f = g + 1 := ⟨f - 1, by omega⟩
    refine ⟨W, fun t ht => hW t (by omega), ?_⟩
    rw [f2_eq, n_set_ne (show (107 : Nat) ≠ 138 by decide), h51, if_pos (nI_le (by omega) (by omega))]
  | succ d ih =>
    intro i f W hi hf hW
    obtain ⟨f, rfl⟩ : ∃ g, f = g + 1 := ⟨f - 1, by omega⟩
    rw [f2_eq, n_set_ne (show (107 : Nat) ≠ 138 by decide), h51, if_neg (nI_ge (by omega) (by omega)), n_ib_nI (show i < 8 by omega) (by decide), n_chk_t, nI_clamp (by omega), nI_1, n_up_set]
    refine ih (i + 1) f _ (by omega) (by omega) (fun t ht => ?_)
    by_cases e : t = i
    · subst e; exact upd_eq
    · rw [upd_ne e]; exact hW t (by omega)
