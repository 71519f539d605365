/-! ===== boxes in boxes: however one relaxes, the depth comes out ===== -/
def x_mx (p : Nat → Bool) (g : Nat → Nat) : Nat → Nat
  | 0 => 1
  | k + 1 => if p k = true then max (x_mx p g k) (g k + 1) else x_mx p g k
theorem x_mx_1 {p : Nat → Bool} {g : Nat → Nat} : ∀ k : Nat, 1 ≤ x_mx p g k
  | 0 => Nat.le_refl 1
  | k + 1 => by
    have := x_mx_1 (p := p) (g := g) k
    unfold x_mx
    split <;> omega
theorem x_mx_ge {p : Nat → Bool} {g : Nat → Nat} {u : Nat} (hu : p u = true) : ∀ k : Nat, u < k → g u + 1 ≤ x_mx p g k
  | 0, h => absurd h (by omega)
  | k + 1, h => by
    unfold x_mx
    by_cases e : u = k
    · subst e
      rw [if_pos hu]
      omega
    · have := x_mx_ge (g := g) hu k (by omega)
      split <;> omega
theorem x_mx_at {p : Nat → Bool} {g : Nat → Nat} : ∀ k : Nat, x_mx p g k = 1 ∨ ∃ u, u < k ∧ p u = true ∧ x_mx p g k = g u + 1
  | 0 => Or.inl rfl
  | k + 1 => by
    unfold x_mx
    by_cases hp : p k = true
    · rw [if_pos hp]
      rcases Nat.le_total (x_mx p g k) (g k + 1) with h | h
      · exact Or.inr ⟨k, by omega, hp, by omega⟩
      · rcases x_mx_at (p := p) (g := g) k with e | ⟨u, h1, h2, h3⟩
        · exact Or.inl (by omega)
        · exact Or.inr ⟨u, by omega, h2, by omega⟩
    · rw [if_neg hp]
      rcases x_mx_at (p := p) (g := g) k with e | ⟨u, h1, h2, h3⟩
      · exact Or.inl e
      · exact Or.inr ⟨u, by omega, h2, h3⟩
theorem x_mx_c {p : Nat → Bool} {g g' : Nat → Nat} : ∀ k : Nat, (∀ u, u < k → p u = true → g u = g' u) → x_mx p g k = x_mx p g' k
  | 0, _ => rfl
  | k + 1, h => by
    unfold x_mx
    rw [x_mx_c k (fun u hu hp => h u (by omega) hp)]
    by_cases hp : p k = true
    · rw [if_pos hp, if_pos hp, h k (by omega) hp]
    · rw [if_neg hp, if_neg hp]
def x_D (m : Nat) (E : Nat → Nat → Bool) : Nat → Nat → Nat
  | 0, _ => 1
  | f + 1, v => x_mx (fun u => E u v) (x_D m E f) m
theorem x_D_s {m : Nat} {E : Nat → Nat → Bool} {a : Nat → Nat} (hE : ∀ u v, E u v = true → a u < a v) : ∀ (f v : Nat), a v ≤ f → x_D m E (f + 1) v = x_D m E f v
  | 0, v, h => by
    show x_mx (fun u => E u v) (x_D m E 0) m = 1
    rcases x_mx_at (p := fun u => E u v) (g := x_D m E 0) m with e | ⟨u, h1, h2, h3⟩
    · exact e
    · have := hE u v h2
      omega
  | f + 1, v, h => x_mx_c m (fun u hu hp => x_D_s hE f u (by have := hE u v hp; omega))
theorem x_chain {m : Nat} {E : Nat → Nat → Bool} {a D : Nat → Nat} (hE : ∀ u v, E u v = true → a u < a v) (hD : ∀ v, v < m → D v = x_mx (fun u => E u v) D m) : ∀ (j v : Nat), v < m → j + 1 ≤ D v → ∃ c : Nat → Nat, c j = v ∧ (∀ i, i ≤ j → c i < m) ∧ ∀ i, i < j → a (c i) < a (c (i + 1))
  | 0, v, hv, _ => ⟨fun _ => v, rfl, fun _ _ => hv, fun i hi => absurd hi (by omega)⟩
  | j + 1, v, hv, h => by
    have e := hD v hv
    rcases x_mx_at (p := fun u => E u v) (g := D) m with e1 | ⟨u, h1, h2, h3⟩
    · omega
    · obtain ⟨c, g1, g2, g3⟩ := x_chain hE hD j u h1 (by omega)
      refine ⟨fun i => if i ≤ j then c i else v, if_neg (by omega), fun i hi => ?_, fun i hi => ?_⟩
      · show (if i ≤ j then c i else v) < m
        by_cases hc : i ≤ j
        · rw [if_pos hc]; exact g2 i hc
        · rw [if_neg hc]; exact hv
      · show a (if i ≤ j then c i else v) < a (if i + 1 ≤ j then c (i + 1) else v)
        by_cases hc : i + 1 ≤ j
        · rw [if_pos (show i ≤ j by omega), if_pos hc]; exact g3 i (by omega)
        · have : i = j := by omega
          subst this
          rw [if_pos (Nat.le_refl i), if_neg hc, g1]
          exact hE u v h2
theorem x_up {a c : Nat → Nat} {j : Nat} (h : ∀ i, i < j → a (c i) < a (c (i + 1))) : ∀ (d i : Nat), i + (d + 1) ≤ j → a (c i) < a (c (i + (d + 1)))
  | 0, i, hi => h i (by omega)
  | d + 1, i, hi => by
    have h1 := x_up h d i (by omega)
    have h2 := h (i + (d + 1)) (by omega)
    rw [show i + (d + 1 + 1) = i + (d + 1) + 1 by omega]
    omega
theorem x_D_m {m : Nat} {E : Nat → Nat → Bool} {a D : Nat → Nat} (hE : ∀ u v, E u v = true → a u < a v) (hD : ∀ v, v < m → D v = x_mx (fun u => E u v) D m) {v : Nat} (hv : v < m) : D v ≤ m := by
  have h1 : 1 ≤ D v := by rw [hD v hv]; exact x_mx_1 m
  obtain ⟨c, g1, g2, g3⟩ := x_chain hE hD (D v - 1) v hv (by omega)
  have := h_les m (D v) c (fun i hi => g2 i (by omega)) (fun i j hij hj e => by
    have := x_up g3 (j - i - 1) i (by omega)
    rw [show i + (j - i - 1 + 1) = j by omega, e] at this
    omega)
  exact this
def x_rx (E : Nat → Nat → Bool) (L : Nat → Nat) (u v : Nat) : Nat → Nat := fun t => if t = v then (if E u v = true then max (L v) (L u + 1) else L v) else L t
def x_ps (E : Nat → Nat → Bool) : List (Nat × Nat) → (Nat → Nat) → Nat → Nat
  | [], L => L
  | (u, v) :: r, L => x_ps E r (x_rx E L u v)
theorem x_rx_ge {E : Nat → Nat → Bool} {L : Nat → Nat} {u v : Nat} (t : Nat) : L t ≤ x_rx E L u v t := by
  unfold x_rx
  by_cases h : t = v
  · rw [if_pos h, h]
    split <;> omega
  · rw [if_neg h]
    exact Nat.le_refl _
theorem x_ps_ge {E : Nat → Nat → Bool} : ∀ (r : List (Nat × Nat)) (L : Nat → Nat) (t : Nat), L t ≤ x_ps E r L t
  | [], _, _ => Nat.le_refl _
  | (u, v) :: r, L, t => Nat.le_trans (x_rx_ge t) (x_ps_ge r (x_rx E L u v) t)
theorem x_ps_le {m : Nat} {E : Nat → Nat → Bool} {D : Nat → Nat} (hD : ∀ v, v < m → D v = x_mx (fun u => E u v) D m) : ∀ (r : List (Nat × Nat)) (L : Nat → Nat), (∀ x, x ∈ r → x.1 < m ∧ x.2 < m) → (∀ t, t < m → L t ≤ D t) → ∀ t, t < m → x_ps E r L t ≤ D t
  | [], _, _, h, t, ht => h t ht
  | (u, v) :: r, L, hr, h, t, ht => by
    have huv := hr (u, v) (List.mem_cons_self ..)
    refine x_ps_le hD r (x_rx E L u v) (fun x hx => hr x (List.mem_cons_of_mem _ hx)) (fun s hs => ?_) t ht
    unfold x_rx
    by_cases e : s = v
    · rw [if_pos e]
      have h1 := h v huv.2
      have h2 := h u huv.1
      subst e
      by_cases hE : E u s = true
      · rw [if_pos hE]
        have h3 : D u + 1 ≤ D s := by rw [hD s hs]; exact x_mx_ge (p := fun u => E u s) hE m huv.1
        omega
      · rw [if_neg hE]; exact h1
    · rw [if_neg e]; exact h s hs
theorem x_ps_in {E : Nat → Nat → Bool} {u v : Nat} (hE : E u v = true) : ∀ (r : List (Nat × Nat)) (L : Nat → Nat), (u, v) ∈ r → L u + 1 ≤ x_ps E r L v
  | [], _, h => by cases h
  | (a, b) :: r, L, h => by
    rcases List.mem_cons.mp h with e | e
    · cases e
      refine Nat.le_trans ?_ (x_ps_ge r (x_rx E L u v) v)
      unfold x_rx
      rw [if_pos rfl, if_pos hE]
      omega
    · have h1 := x_ps_in hE r (x_rx E L a b) e
      have h2 : L u ≤ x_rx E L a b u := x_rx_ge u
      exact Nat.le_trans (by omega) h1
def x_it (E : Nat → Nat → Bool) (r : List (Nat × Nat)) : Nat → (Nat → Nat) → Nat → Nat
  | 0, L => L
  | k + 1, L => x_it E r k (x_ps E r L)
theorem x_it_D {m : Nat} {E : Nat → Nat → Bool} {a D : Nat → Nat} {r : List (Nat × Nat)} (hE : ∀ u v, E u v = true → a u < a v) (hD : ∀ v, v < m → D v = x_mx (fun u => E u v) D m) (hr : ∀ x, x ∈ r → x.1 < m ∧ x.2 < m) (hall : ∀ u v, u < m → v < m → (u, v) ∈ r) : ∀ (k t : Nat) (L : Nat → Nat), k + t = m → (∀ v, v < m → L v ≤ D v) → (∀ v, v < m → D v ≤ t + 1 → D v ≤ L v) → ∀ v, v < m → x_it E r k L v = D v
  | 0, t, L, hk, h1, h2, v, hv => by
    have h3 := x_D_m hE hD hv
    have h4 := h1 v hv
    have h5 := h2 v hv (by omega)
    show L v = D v
    omega
  | k + 1, t, L, hk, h1, h2, v, hv => by
    refine x_it_D hE hD hr hall k (t + 1) (x_ps E r L) (by omega) (x_ps_le hD r L hr h1) (fun w hw hd => ?_) v hv
    by_cases hd2 : D w ≤ t + 1
    · exact Nat.le_trans (h2 w hw hd2) (x_ps_ge r L w)
    · have e := hD w hw
      rcases x_mx_at (p := fun u => E u w) (g := D) m with e1 | ⟨u, g1, g2, g3⟩
      · omega
      · have g4 := h2 u g1 (by omega)
        have g5 := x_ps_in g2 r L (hall u w g1 hw)
        omega
