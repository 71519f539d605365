/-! ===== more things than places ===== -/
theorem h_les : ∀ (m n : Nat) (f : Nat → Nat), (∀ i, i < n → f i < m) → (∀ i j, i < j → j < n → f i ≠ f j) → n ≤ m
  | 0, n, f, h, _ => by
    rcases Nat.eq_zero_or_pos n with e | e
    · omega
    · exact absurd (h 0 e) (by omega)
  | m + 1, n, f, h, h2 => by
    by_cases hx : ∃ i, i < n ∧ f i = m
    · obtain ⟨k, hk, ek⟩ := hx
      have := h_les m (n - 1) (fun i => if i < k then f i else f (i + 1)) (fun i hi => by
        show (if i < k then f i else f (i + 1)) < m
        by_cases hc : i < k
        · rw [if_pos hc]
          have a1 := h i (by omega)
          have a2 := h2 i k hc hk
          omega
        · rw [if_neg hc]
          have a1 := h (i + 1) (by omega)
          have a2 := h2 k (i + 1) (by omega) (by omega)
          omega) (fun i j hij hj => by
        show (if i < k then f i else f (i + 1)) ≠ (if j < k then f j else f (j + 1))
        by_cases hc : i < k
        · by_cases hd : j < k
          · rw [if_pos hc, if_pos hd]; exact h2 i j hij (by omega)
          · rw [if_pos hc, if_neg hd]; exact h2 i (j + 1) (by omega) (by omega)
        · rw [if_neg hc, if_neg (by omega)]; exact h2 (i + 1) (j + 1) (by omega) (by omega))
      omega
    · have := h_les m n f (fun i hi => by
        have a1 := h i hi
        have a2 : f i ≠ m := fun e => hx ⟨i, hi, e⟩
        omega) h2
      omega
/-! ===== paths that don't come back ===== -/
def it_p (f : Nat → Option Nat) : Nat → Nat → Option Nat
  | 0, s => some s
  | k + 1, s => (it_p f k s).bind f
theorem it_in {f : Nat → Option Nat} {K s0 : Nat} (hb : ∀ s t, s < K → f s = some t → t < K) (h0 : s0 < K) : ∀ (k t : Nat), it_p f k s0 = some t → t < K
  | 0, t, h => by
    have : s0 = t := Option.some.inj h
    omega
  | k + 1, t, h => by
    have h' : (it_p f k s0).bind f = some t := h
    obtain ⟨u, e1, e2⟩ := Option.bind_eq_some_iff.mp h'
    exact hb u t (it_in hb h0 k u e1) e2
theorem it_ne {f : Nat → Option Nat} {K s0 : Nat} (hb : ∀ s t, s < K → f s = some t → t < K) (inj : ∀ s u t, s < K → u < K → f s = some t → f u = some t → s = u) (h0 : s0 < K) (hs : ∀ s, s < K → f s ≠ some s0) : ∀ (i d t : Nat), it_p f i s0 = some t → it_p f (i + (d + 1)) s0 = some t → False
  | 0, d, t, h1, h2 => by
    have e : s0 = t := Option.some.inj h1
    subst e
    rw [Nat.zero_add] at h2
    have h' : (it_p f d s0).bind f = some s0 := h2
    obtain ⟨u, e1, e2⟩ := Option.bind_eq_some_iff.mp h'
    exact hs u (it_in hb h0 d u e1) e2
  | i + 1, d, t, h1, h2 => by
    have h1' : (it_p f i s0).bind f = some t := h1
    have h2' : (it_p f (i + (d + 1)) s0).bind f = some t := by
      have e : i + 1 + (d + 1) = (i + (d + 1)) + 1 := by omega
      rw [e] at h2
      exact h2
    obtain ⟨u, e1, e2⟩ := Option.bind_eq_some_iff.mp h1'
    obtain ⟨v, e3, e4⟩ := Option.bind_eq_some_iff.mp h2'
    have e5 := inj u v t (it_in hb h0 _ u e1) (it_in hb h0 _ v e3) e2 e4
    subst e5
    exact it_ne hb inj h0 hs i d u e1 e3
/-- a path that can be gone back, from where nothing comes, ends within K steps -/
theorem it_end {f : Nat → Option Nat} {K s0 : Nat} (hb : ∀ s t, s < K → f s = some t → t < K) (inj : ∀ s u t, s < K → u < K → f s = some t → f u = some t → s = u) (h0 : s0 < K) (hs : ∀ s, s < K → f s ≠ some s0) : it_p f K s0 = none := by
  cases hK : it_p f K s0 with
  | none => rfl
  | some z =>
    exfalso
    have all : ∀ d i, i + d = K → ∃ t, it_p f i s0 = some t := by
      intro d
      induction d with
      | zero => intro i hi; have : i = K := by omega
                subst this; exact ⟨z, hK⟩
      | succ d ih =>
        intro i hi
        obtain ⟨t, ht⟩ := ih (i + 1) (by omega)
        have ht' : (it_p f i s0).bind f = some t := ht
        obtain ⟨u, e1, -⟩ := Option.bind_eq_some_iff.mp ht'
        exact ⟨u, e1⟩
    have hg : ∀ i, i < K + 1 → it_p f i s0 = some ((it_p f i s0).getD 0) := fun i hi => by
      obtain ⟨t, ht⟩ := all (K - i) i (by omega)
      rw [ht]
      rfl
    have := h_les K (K + 1) (fun i => (it_p f i s0).getD 0) (fun i hi => it_in hb h0 i _ (hg i hi)) (fun i j hij hj e => by
      have e1 := hg i (by omega)
      have e2 := hg j hj
      have e' : (it_p f i s0).getD 0 = (it_p f j s0).getD 0 := e
      rw [← e'] at e2
      refine it_ne hb inj h0 hs i (j - i - 1) _ e1 ?_
      rw [show i + (j - i - 1 + 1) = j by omega]
      exact e2)
    omega
