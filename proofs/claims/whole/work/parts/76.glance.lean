/-! ===== glance: the way among the mirrors ===== -/
def g_d (d v : Nat) : Nat := if v = 0 then d else if v = 1 then (if d % 2 = 0 then d + 1 else d - 1) else 3 - d
def g_R (d R : Nat) : Nat := if d = 0 then R + 1 else if d = 2 then R - 1 else R
def g_C (d C : Nat) : Nat := if d = 1 then C - 1 else if d = 3 then C + 1 else C
def g_in (R C : Nat) : Bool := Nat.ble 1 R && (Nat.ble R 6 && (Nat.ble 1 C && Nat.ble C 6))
theorem g_in_t {R C : Nat} : g_in R C = true ↔ (1 ≤ R ∧ R ≤ 6 ∧ 1 ≤ C ∧ C ≤ 6) := by
  unfold g_in
  rw [Bool.and_eq_true, Bool.and_eq_true, Bool.and_eq_true, Nat.ble_eq, Nat.ble_eq, Nat.ble_eq, Nat.ble_eq]
def g_cd (d R C : Nat) : Nat := 36 * d + (6 * (R - 1) + (C - 1))
def g_run (mi : Nat → Nat) : Nat → Nat → Nat → Nat → Nat → Nat × Nat × Nat × Nat
  | 0, d, R, C, k => (d, R, C, k)
  | F + 1, d, R, C, k => if g_in R C = true then g_run mi F (g_d d (mi (6 * (R - 1) + (C - 1)))) (g_R (g_d d (mi (6 * (R - 1) + (C - 1)))) R) (g_C (g_d d (mi (6 * (R - 1) + (C - 1)))) C) (if mi (6 * (R - 1) + (C - 1)) = 0 then k else k + 1) else (d, R, C, k)
def g_f (mi : Nat → Nat) (s : Nat) : Option Nat := if g_in (g_R (g_d (s / 36) (mi (s % 36))) (s % 36 / 6 + 1)) (g_C (g_d (s / 36) (mi (s % 36))) (s % 36 % 6 + 1)) = true then some (g_cd (g_d (s / 36) (mi (s % 36))) (g_R (g_d (s / 36) (mi (s % 36))) (s % 36 / 6 + 1)) (g_C (g_d (s / 36) (mi (s % 36))) (s % 36 % 6 + 1))) else none
theorem g_d4 {d v : Nat} (h : d < 4) : g_d d v < 4 := by
  unfold g_d
  split
  · exact h
  · split
    · split <;> omega
    · omega
theorem g_di {d u v : Nat} (h1 : d < 4) (h2 : u < 4) (h : g_d d v = g_d u v) : d = u := by
  unfold g_d at h
  by_cases h0 : v = 0
  · rw [if_pos h0, if_pos h0] at h; exact h
  · rw [if_neg h0, if_neg h0] at h
    by_cases h3 : v = 1
    · rw [if_pos h3, if_pos h3] at h
      by_cases a : d % 2 = 0
      · rw [if_pos a] at h
        by_cases b : u % 2 = 0
        · rw [if_pos b] at h; omega
        · rw [if_neg b] at h; omega
      · rw [if_neg a] at h
        by_cases b : u % 2 = 0
        · rw [if_pos b] at h; omega
        · rw [if_neg b] at h; omega
    · rw [if_neg h3, if_neg h3] at h
      omega
theorem g_f_x {mi : Nat → Nat} {s t : Nat} (hs : s < 144) (h : g_f mi s = some t) : ∃ e R C : Nat, e = g_d (s / 36) (mi (s % 36)) ∧ e < 4 ∧ R = g_R e (s % 36 / 6 + 1) ∧ C = g_C e (s % 36 % 6 + 1) ∧ 1 ≤ R ∧ R ≤ 6 ∧ 1 ≤ C ∧ C ≤ 6 ∧ t = 36 * e + (6 * (R - 1) + (C - 1)) := by
  unfold g_f at h
  by_cases hg : g_in (g_R (g_d (s / 36) (mi (s % 36))) (s % 36 / 6 + 1)) (g_C (g_d (s / 36) (mi (s % 36))) (s % 36 % 6 + 1)) = true
  · rw [if_pos hg] at h
    obtain ⟨a, b, c, d⟩ := g_in_t.mp hg
    exact ⟨_, _, _, rfl, g_d4 (by omega), rfl, rfl, a, b, c, d, (Option.some.inj h).symm⟩
  · rw [if_neg hg] at h
    cases h
theorem g_f_b {mi : Nat → Nat} : ∀ s t, s < 144 → g_f mi s = some t → t < 144 := fun s t hs h => by
  obtain ⟨e, R, C, -, h4, -, -, a, b, c, d, rfl⟩ := g_f_x hs h
  omega
theorem g_f_i {mi : Nat → Nat} : ∀ s u t, s < 144 → u < 144 → g_f mi s = some t → g_f mi u = some t → s = u := fun s u t hs hu h1 h2 => by
  obtain ⟨e, R, C, e1, h4, e2, e3, a, b, c, d, e4⟩ := g_f_x hs h1
  obtain ⟨e', R', C', e1', h4', e2', e3', a', b', c', d', e4'⟩ := g_f_x hu h2
  have ee : e = e' := by omega
  subst ee
  have eR : R = R' := by omega
  have eC : C = C' := by omega
  subst eR
  subst eC
  have hp : s % 36 = u % 36 := by
    unfold g_R at e2 e2'
    unfold g_C at e3 e3'
    rcases (show e = 0 ∨ e = 1 ∨ e = 2 ∨ e = 3 by omega) with rfl | rfl | rfl | rfl
    · simp only [if_true, show ((0 : Nat) = 1) = False from by simp, show ((0 : Nat) = 3) = False from by simp, if_false] at e2 e2' e3 e3'
      omega
    · simp only [if_true, show ((1 : Nat) = 0) = False from by simp, show ((1 : Nat) = 2) = False from by simp, if_false] at e2 e2' e3 e3'
      omega
    · simp only [if_true, show ((2 : Nat) = 0) = False from by simp, show ((2 : Nat) = 1) = False from by simp, show ((2 : Nat) = 3) = False from by simp, if_false] at e2 e2' e3 e3'
      omega
    · simp only [if_true, show ((3 : Nat) = 0) = False from by simp, show ((3 : Nat) = 1) = False from by simp, show ((3 : Nat) = 2) = False from by simp, if_false] at e2 e2' e3 e3'
      omega
  rw [← hp] at e1'
  have := g_di (d := s / 36) (u := u / 36) (v := mi (s % 36)) (by omega) (by omega) (by rw [← e1, ← e1'])
  omega
/-- where a glance can come in -/
def g_st (d R C : Nat) : Prop := d < 4 ∧ 1 ≤ R ∧ R ≤ 6 ∧ 1 ≤ C ∧ C ≤ 6 ∧ (d = 0 → R = 1) ∧ (d = 1 → C = 6) ∧ (d = 2 → R = 6) ∧ (d = 3 → C = 1)
theorem g_f_0 {mi : Nat → Nat} {d R C : Nat} (h : g_st d R C) : ∀ s, s < 144 → g_f mi s ≠ some (g_cd d R C) := fun s hs z => by
  obtain ⟨e, R', C', e1, h4, e2, e3, a', b', c', d', e4⟩ := g_f_x hs z
  obtain ⟨h0, a, b, c, d2, s0, s1, s2, s3⟩ := h
  unfold g_cd at e4
  have ee : e = d := by omega
  subst ee
  have eR : R = R' := by omega
  have eC : C = C' := by omega
  subst eR
  subst eC
  unfold g_R at e2
  unfold g_C at e3
  rcases (show e = 0 ∨ e = 1 ∨ e = 2 ∨ e = 3 by omega) with rfl | rfl | rfl | rfl
  · have := s0 rfl
    simp only [if_true] at e2
    omega
  · have := s1 rfl
    simp only [if_true] at e3
    omega
  · have := s2 rfl
    simp only [if_true, show ((2 : Nat) = 0) = False from by simp, if_false] at e2
    omega
  · have := s3 rfl
    simp only [if_true, show ((3 : Nat) = 1) = False from by simp, if_false] at e3
    omega
theorem it_h {f : Nat → Option Nat} : ∀ (k s : Nat), it_p f (k + 1) s = (f s).bind (it_p f k)
  | 0, s => by
    show (some s).bind f = (f s).bind (it_p f 0)
    rw [Option.bind_some]
    cases f s <;> rfl
  | k + 1, s => by
    show (it_p f (k + 1) s).bind f = (f s).bind (it_p f (k + 1))
    rw [it_h k s]
    cases f s <;> rfl
theorem g_run_in {mi : Nat → Nat} : ∀ (F d R C k : Nat), d < 4 → g_in R C = true → g_in (g_run mi F d R C k).2.1 (g_run mi F d R C k).2.2.1 = true → it_p (g_f mi) F (g_cd d R C) ≠ none
  | 0, d, R, C, k, _, _, _ => by
    intro z
    cases z
  | F + 1, d, R, C, k, hd, h1, h2 => by
    unfold g_run at h2
    rw [if_pos h1] at h2
    obtain ⟨a, b, c, d2⟩ := g_in_t.mp h1
    have q1 : g_cd d R C / 36 = d := by unfold g_cd; omega
    have q2 : g_cd d R C % 36 = 6 * (R - 1) + (C - 1) := by unfold g_cd; omega
    have q3 : (6 * (R - 1) + (C - 1)) / 6 + 1 = R := by omega
    have q4 : (6 * (R - 1) + (C - 1)) % 6 + 1 = C := by omega
    rw [it_h]
    have hf : g_f mi (g_cd d R C) = if g_in (g_R (g_d d (mi (6 * (R - 1) + (C - 1)))) R) (g_C (g_d d (mi (6 * (R - 1) + (C - 1)))) C) = true then some (g_cd (g_d d (mi (6 * (R - 1) + (C - 1)))) (g_R (g_d d (mi (6 * (R - 1) + (C - 1)))) R) (g_C (g_d d (mi (6 * (R - 1) + (C - 1)))) C)) else none := by
      unfold g_f
      rw [q1, q2, q3, q4]
    by_cases hg : g_in (g_R (g_d d (mi (6 * (R - 1) + (C - 1)))) R) (g_C (g_d d (mi (6 * (R - 1) + (C - 1)))) C) = true
    · rw [hf, if_pos hg, Option.bind_some]
      exact g_run_in F _ _ _ _ (g_d4 hd) hg h2
    · exfalso
      apply hg
      cases F with
      | zero => exact h2
      | succ F =>
        unfold g_run at h2
        rw [if_neg hg] at h2
        exact h2
theorem g_run_out {mi : Nat → Nat} {d R C : Nat} (k : Nat) (h : g_st d R C) : g_in (g_run mi 144 d R C k).2.1 (g_run mi 144 d R C k).2.2.1 = false := by
  have h1 : g_in R C = true := g_in_t.mpr ⟨h.2.1, h.2.2.1, h.2.2.2.1, h.2.2.2.2.1⟩
  have h0 : g_cd d R C < 144 := by
    obtain ⟨a, b, c, d1, e, -⟩ := h
    unfold g_cd
    omega
  have he := it_end (f := g_f mi) (K := 144) g_f_b g_f_i h0 (g_f_0 h)
  cases hg : g_in (g_run mi 144 d R C k).2.1 (g_run mi 144 d R C k).2.2.1 with
  | false => rfl
  | true => exact absurd he (g_run_in 144 d R C k h.1 h1 hg)
