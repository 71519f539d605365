/-! ===== boxes: the model's passes ===== -/
def x_qM (u : Nat) : Nat → Nat → List (Nat × Nat)
  | 0, _ => []
  | d + 1, i => (u, i) :: x_qM u d (i + 1)
def x_pM (m : Nat) : Nat → Nat → List (Nat × Nat)
  | 0, _ => []
  | d + 1, u => x_qM u m 0 ++ x_pM m d (u + 1)
theorem x_ps_app {E : Nat → Nat → Bool} : ∀ (r s : List (Nat × Nat)) (L : Nat → Nat), x_ps E (r ++ s) L = x_ps E s (x_ps E r L)
  | [], _, _ => rfl
  | (u, v) :: r, s, L => x_ps_app r s (x_rx E L u v)
theorem x_qM_in {u : Nat} : ∀ (d i j : Nat), i ≤ j → j < i + d → (u, j) ∈ x_qM u d i
  | 0, i, j, h1, h2 => absurd h2 (by omega)
  | d + 1, i, j, h1, h2 => by
    unfold x_qM
    by_cases e : j = i
    · subst e; exact List.mem_cons_self ..
    · exact List.mem_cons_of_mem _ (x_qM_in d (i + 1) j (by omega) (by omega))
theorem x_qM_b {u m : Nat} (hu : u < m) : ∀ (d i : Nat), i + d ≤ m → ∀ x, x ∈ x_qM u d i → x.1 < m ∧ x.2 < m
  | 0, i, h, x, hx => by cases hx
  | d + 1, i, h, x, hx => by
    unfold x_qM at hx
    rcases List.mem_cons.mp hx with e | e
    · subst e; exact ⟨hu, by show i < m; omega⟩
    · exact x_qM_b hu d (i + 1) (by omega) x e
theorem x_pM_in {m v : Nat} (hv : v < m) : ∀ (d i u : Nat), i ≤ u → u < i + d → (u, v) ∈ x_pM m d i
  | 0, i, u, h1, h2 => absurd h2 (by omega)
  | d + 1, i, u, h1, h2 => by
    unfold x_pM
    by_cases e : u = i
    · subst e; exact List.mem_append.mpr (Or.inl (x_qM_in m 0 v (by omega) (by omega)))
    · exact List.mem_append.mpr (Or.inr (x_pM_in hv d (i + 1) u (by omega) (by omega)))
theorem x_pM_b {m : Nat} : ∀ (d i : Nat), i + d ≤ m → ∀ x, x ∈ x_pM m d i → x.1 < m ∧ x.2 < m
  | 0, i, h, x, hx => by cases hx
  | d + 1, i, h, x, hx => by
    unfold x_pM at hx
    rcases List.mem_append.mp hx with e | e
    · exact x_qM_b (by omega) m 0 (by omega) x e
    · exact x_pM_b d (i + 1) (by omega) x e
