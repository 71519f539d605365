/-! ===== boxes: the class's loops ===== -/
def n29b (N f : Nat) (G : nG) (k21 : Int32 → Int32 → Int32 → nM → Option (Int32 × nM)) (x1 x2 x3 x4 v2 v3 : Int32) (p4 : Int32 × nM) : Option (Int32 × nM) := if p4.1 = 0 then fX9_nested_29 N G k21 f x1 x2 x3 (x4 + (1 : Int32)) p4.2 else n_chk (n_ib 256 v2) (n_chk (n_ib 256 v3) (n_chk (n_ib 256 v2) (fX9_nested_29 N G k21 f x1 x2 x3 (x4 + (1 : Int32)) (n_up p4.2 99 v2.toNatClampNeg (if (p4.2 99 v2.toNatClampNeg) < ((p4.2 99 v3.toNatClampNeg) + (1 : Int32)) then ((p4.2 99 v3.toNatClampNeg) + (1 : Int32)) else (p4.2 99 v2.toNatClampNeg))))))
theorem n29_eq (N f : Nat) (G : nG) (k21 : Int32 → Int32 → Int32 → nM → Option (Int32 × nM)) (x1 x2 x3 x4 : Int32) (M : nM) : fX9_nested_29 N G k21 (f + 1) x1 x2 x3 x4 M = if (x2 * x2) ≤ x4 then k21 x1 x2 (x3 + (1 : Int32)) M else if x2 = 0 then none else if x2 = 0 then none else (fX9_goesInto G (x4 - x4 / x2 * x2) (x4 / x2) M).bind (n29b N f G k21 x1 x2 x3 x4 (x4 / x2) (x4 - x4 / x2 * x2)) := rfl
theorem c_n29 {N : Nat} {G : nG} {k21 : Int32 → Int32 → Int32 → nM → Option (Int32 × nM)} {x1 x3 : Int32} {M : nM} {ps : List (Nat × Nat)} {D : Nat → Nat} (hm0 : 0 < ps.length) (hL8 : ps.length ≤ 8) (hb : ∀ i, i < ps.length → (ps.getD i (0, 0)).1 ≤ 30 ∧ (ps.getD i (0, 0)).2 ≤ 30) (hc : ∀ (W : Nat → Int32) (i : Nat), i < ps.length → fX7_cell G 33 (nI i) (0 : Int32) (n_set M 99 W) = some (nI (ps.getD i (0, 0)).1, n_set M 99 W) ∧ fX7_cell G 33 (nI i) (1 : Int32) (n_set M 99 W) = some (nI (ps.getD i (0, 0)).2, n_set M 99 W)) (hD : ∀ v, v < ps.length → D v = x_mx (fun u => x_E ps u v) D ps.length) (hD8 : ∀ v, v < ps.length → D v ≤ 8) :
    ∀ (d i f : Nat) (L : Nat → Nat) (W : Nat → Int32), i + d = ps.length * ps.length → d < f → (∀ t, t < ps.length → W t = nI (L t)) → (∀ t, t < ps.length → L t ≤ D t) → ∃ W' : Nat → Int32, (∀ t, t < ps.length → W' t = nI (x_ps (x_E ps) (x_pC ps.length d i) L t)) ∧ fX9_nested_29 N G k21 f x1 (nI ps.length) x3 (nI i) (n_set M 99 W) = k21 x1 (nI ps.length) (x3 + 1) (n_set M 99 W') := by
  intro d
  have hmm : ps.length * ps.length ≤ 64 := Nat.mul_le_mul hL8 hL8
  have em : nI ps.length * nI ps.length = nI (ps.length * ps.length) := pk_mul _ _
  induction d with
  | zero =>
    intro i f L W hi hf hW hLD
    obtain ⟨f, rfl⟩ : ∃ g, f = g + 1 := ⟨f - 1, by omega⟩
    refine ⟨W, hW, ?_⟩
    rw [n29_eq, em, if_pos (nI_le (by omega) (by omega))]
  | succ d ih =>
    intro i f L W hi hf hW hLD
    obtain ⟨f, rfl⟩ : ∃ g, f = g + 1 := ⟨f - 1, by omega⟩
    have hu : i % ps.length < ps.length := Nat.mod_lt _ hm0
    have hv : i / ps.length < ps.length := Nat.div_lt_of_lt_mul (by omega)
    have e1 : nI i / nI ps.length = nI (i / ps.length) := pk_div (by omega) hm0 (by omega)
    have e2 : nI i - nI i / nI ps.length * nI ps.length = nI (i % ps.length) := pk_rem (by omega) hm0 (by omega)
    have hne : ¬ nI ps.length = (0 : Int32) := nI_ne0 hm0 (by omega)
    have hst := x_ps_le hD [(i % ps.length, i / ps.length)] L (fun x hx => by
      rcases List.mem_cons.mp hx with e | e
      · subst e; exact ⟨hu, hv⟩
      · cases e) hLD
    rw [n29_eq, em, if_neg (nI_ge (by omega) (by omega)), if_neg hne, if_neg hne, e2, e1, e_into hb (hc W) hu hv, Option.bind_some]
    unfold n29b x_pC
    have lu := hD8 _ hu
    have lv := hD8 _ hv
    have lu2 := hLD _ hu
    have lv2 := hLD _ hv
    cases hE : x_E ps (i % ps.length) (i / ps.length) with
    | false =>
      rw [if_pos (show (cb false, n_set M 99 W).1 = 0 from rfl), nI_1]
      refine ih (i + 1) f (x_rx (x_E ps) L (i % ps.length) (i / ps.length)) W (by omega) (by omega) (fun t ht => ?_) hst
      rw [hW t ht]
      unfold x_rx
      rw [hE]
      by_cases e : t = i / ps.length
      · rw [if_pos e, if_neg (by decide), e]
      · rw [if_neg e]
    | true =>
      rw [if_neg (show ¬ (cb true, n_set M 99 W).1 = 0 from (by decide : ¬ cb true = (0 : Int32))), n_ib_nI (show i / ps.length < 256 by omega) (by decide), n_chk_t, n_ib_nI (show i % ps.length < 256 by omega) (by decide), n_chk_t, n_chk_t, nI_clamp (show i / ps.length < 2 ^ 31 by omega), nI_clamp (show i % ps.length < 2 ^ 31 by omega), nI_1]
      show ∃ W' : Nat → Int32, _ ∧ fX9_nested_29 N G k21 f x1 (nI ps.length) x3 (nI (i + 1)) (n_up (n_set M 99 W) 99 (i / ps.length) (if n_set M 99 W 99 (i / ps.length) < n_set M 99 W 99 (i % ps.length) + (1 : Int32) then n_set M 99 W 99 (i % ps.length) + (1 : Int32) else n_set M 99 W 99 (i / ps.length))) = _
      rw [n_set_eq, n_up_set, hW _ hu, hW _ hv, nI_1]
      refine ih (i + 1) f (x_rx (x_E ps) L (i % ps.length) (i / ps.length)) _ (by omega) (by omega) (fun t ht => ?_) hst
      unfold x_rx
      rw [hE]
      by_cases e : t = i / ps.length
      · rw [if_pos e, if_pos rfl, e, upd_eq]
        by_cases hlt : L (i / ps.length) < L (i % ps.length) + 1
        · rw [if_pos (nI_lt hlt (by omega)), Nat.max_eq_right (by omega)]
        · rw [if_neg (nI_nlt (by omega) (by omega)), Nat.max_eq_left (by omega)]
      · rw [if_neg e, upd_ne e]
        exact hW t ht
theorem n21_eq (N f : Nat) (G : nG) (x1 x2 x3 : Int32) (M : nM) : fX9_nested_21 N G (f + 1) x1 x2 x3 M = if x2 ≤ x3 then fX9_nested_103 N G N x1 x2 (-1 : Int32) (0 : Int32) M else fX9_nested_29 N G (fun x1 x2 x3 M => fX9_nested_21 N G f x1 x2 x3 M) N x1 x2 x3 (0 : Int32) M := rfl
theorem c_n21 {N : Nat} {G : nG} {x1 : Int32} {M : nM} {ps : List (Nat × Nat)} {D : Nat → Nat} (hN : 1000 ≤ N) (hm0 : 0 < ps.length) (hL8 : ps.length ≤ 8) (hb : ∀ i, i < ps.length → (ps.getD i (0, 0)).1 ≤ 30 ∧ (ps.getD i (0, 0)).2 ≤ 30) (hc : ∀ (W : Nat → Int32) (i : Nat), i < ps.length → fX7_cell G 33 (nI i) (0 : Int32) (n_set M 99 W) = some (nI (ps.getD i (0, 0)).1, n_set M 99 W) ∧ fX7_cell G 33 (nI i) (1 : Int32) (n_set M 99 W) = some (nI (ps.getD i (0, 0)).2, n_set M 99 W)) (hD : ∀ v, v < ps.length → D v = x_mx (fun u => x_E ps u v) D ps.length) (hD8 : ∀ v, v < ps.length → D v ≤ 8) :
    ∀ (k j f : Nat) (L : Nat → Nat) (W : Nat → Int32), j + k = ps.length → k < f → (∀ t, t < ps.length → W t = nI (L t)) → (∀ t, t < ps.length → L t ≤ D t) → ∃ W' : Nat → Int32, (∀ t, t < ps.length → W' t = nI (x_it (x_E ps) (x_pC ps.length (ps.length * ps.length) 0) k L t)) ∧ fX9_nested_21 N G f x1 (nI ps.length) (nI j) (n_set M 99 W) = fX9_nested_103 N G N x1 (nI ps.length) (-1 : Int32) (0 : Int32) (n_set M 99 W') := by
  intro k
  have hmm : ps.length * ps.length ≤ 64 := Nat.mul_le_mul hL8 hL8
  induction k with
  | zero =>
    intro j f L W hj hf hW hLD
    obtain ⟨f, rfl⟩ : ∃ g, f = g + 1 := ⟨f - 1, by omega⟩
    refine ⟨W, hW, ?_⟩
    rw [n21_eq, if_pos (nI_le (by omega) (by omega))]
  | succ k ih =>
    intro j f L W hj hf hW hLD
    obtain ⟨f, rfl⟩ : ∃ g, f = g + 1 := ⟨f - 1, by omega⟩
    obtain ⟨W1, w1, w2⟩ := c_n29 (N := N) (k21 := fun x1 x2 x3 M => fX9_nested_21 N G f x1 x2 x3 M) (x1 := x1) (x3 := nI j) (M := M) hm0 hL8 hb hc hD hD8 (ps.length * ps.length) 0 N L W (by omega) (by omega) hW hLD
    obtain ⟨W2, w3, w4⟩ := ih (j + 1) f (x_ps (x_E ps) (x_pC ps.length (ps.length * ps.length) 0) L) W1 (by omega) (by omega) w1 (x_ps_le hD _ L (x_pC_b hm0 _ 0 (by omega)) hLD)
    refine ⟨W2, w3, ?_⟩
    rw [n21_eq, if_neg (nI_ge (by omega) (by omega))]
    refine w2.trans ?_
    show fX9_nested_21 N G f x1 (nI ps.length) (nI j + 1) (n_set M 99 W1) = _
    rw [nI_1]
    exact w4
