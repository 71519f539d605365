/-! ===== boxes: the class's passes ===== -/
def x_E (ps : List (Nat × Nat)) (u v : Nat) : Bool := decide ((ps.getD u (0, 0)).1 < (ps.getD v (0, 0)).1) && decide ((ps.getD u (0, 0)).2 < (ps.getD v (0, 0)).2)
theorem x_E_a {ps : List (Nat × Nat)} : ∀ u v, x_E ps u v = true → (ps.getD u (0, 0)).1 < (ps.getD v (0, 0)).1 := fun u v h => by
  unfold x_E at h
  rw [Bool.and_eq_true, decide_eq_true_eq] at h
  exact h.1
theorem e_into {G : nG} {M : nM} {ps : List (Nat × Nat)} {u v : Nat} (hb : ∀ i, i < ps.length → (ps.getD i (0, 0)).1 ≤ 30 ∧ (ps.getD i (0, 0)).2 ≤ 30) (hc : ∀ i, i < ps.length → fX7_cell G 33 (nI i) (0 : Int32) M = some (nI (ps.getD i (0, 0)).1, M) ∧ fX7_cell G 33 (nI i) (1 : Int32) M = some (nI (ps.getD i (0, 0)).2, M)) (hu : u < ps.length) (hv : v < ps.length) : fX9_goesInto G (nI u) (nI v) M = some (cb (x_E ps u v), M) := by
  obtain ⟨c1, c2⟩ := hc u hu
  obtain ⟨c3, c4⟩ := hc v hv
  obtain ⟨b1, b2⟩ := hb u hu
  obtain ⟨b3, b4⟩ := hb v hv
  unfold fX9_goesInto x_E
  rw [c1, Option.bind_some]
  show (fX7_cell G 33 (nI v) (0 : Int32) M).bind _ = _
  rw [c3, Option.bind_some]
  show (if nI (ps.getD v (0, 0)).1 ≤ nI (ps.getD u (0, 0)).1 then some ((0 : Int32), M) else (fX7_cell G 33 (nI u) (1 : Int32) M).bind _) = _
  by_cases h1 : (ps.getD u (0, 0)).1 < (ps.getD v (0, 0)).1
  · rw [if_neg (nI_ge h1 (by omega)), decide_eq_true h1, c2, Option.bind_some]
    show (fX7_cell G 33 (nI v) (1 : Int32) M).bind _ = _
    rw [c4, Option.bind_some]
    show (if nI (ps.getD v (0, 0)).2 ≤ nI (ps.getD u (0, 0)).2 then some ((0 : Int32), M) else some ((1 : Int32), M)) = _
    by_cases h2 : (ps.getD u (0, 0)).2 < (ps.getD v (0, 0)).2
    · rw [if_neg (nI_ge h2 (by omega)), decide_eq_true h2]; rfl
    · rw [if_pos (nI_le (by omega) (by omega)), decide_eq_false h2]; rfl
  · rw [if_pos (nI_le (by omega) (by omega)), decide_eq_false h1]; rfl
def x_pC (m : Nat) : Nat → Nat → List (Nat × Nat)
  | 0, _ => []
  | d + 1, i => (i % m, i / m) :: x_pC m d (i + 1)
theorem x_pC_in {m : Nat} : ∀ (d i j : Nat), i ≤ j → j < i + d → (j % m, j / m) ∈ x_pC m d i
  | 0, i, j, h1, h2 => absurd h2 (by omega)
  | d + 1, i, j, h1, h2 => by
    unfold x_pC
    by_cases e : j = i
    · subst e; exact List.mem_cons_self ..
    · exact List.mem_cons_of_mem _ (x_pC_in d (i + 1) j (by omega) (by omega))
theorem x_pC_all {m u v : Nat} (hu : u < m) (hv : v < m) : (u, v) ∈ x_pC m (m * m) 0 := by
  have h1 : m * v + u < m * m := by
    have : m * (v + 1) ≤ m * m := Nat.mul_le_mul_left m hv
    rw [Nat.mul_add, Nat.mul_one] at this
    omega
  have h := x_pC_in (m := m) (m * m) 0 (m * v + u) (by omega) (by omega)
  rw [Nat.mul_add_mod, Nat.mod_eq_of_lt hu, Nat.mul_add_div (by omega), Nat.div_eq_of_lt hu, Nat.add_zero] at h
  exact h
theorem x_pC_b {m : Nat} (hm : 0 < m) : ∀ (d i : Nat), i + d ≤ m * m → ∀ x, x ∈ x_pC m d i → x.1 < m ∧ x.2 < m
  | 0, i, h, x, hx => by cases hx
  | d + 1, i, h, x, hx => by
    unfold x_pC at hx
    rcases List.mem_cons.mp hx with e | e
    · subst e
      exact ⟨Nat.mod_lt _ hm, Nat.div_lt_of_lt_mul (by omega)⟩
    · exact x_pC_b hm d (i + 1) (by omega) x e
