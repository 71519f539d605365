/-! ===== rings, hats, weighings ===== -/
def q_mv : Nat → Nat
  | 0 => 0
  | i + 1 => 2 * q_mv i + (1 - i % 2)
theorem q_mv_b : ∀ n, n < 21 → q_mv n < 1048576 := by decide +kernel
theorem r_mod2 {i : Nat} (hi : i < 2 ^ 31) : nI i - nI i / (2 : Int32) * (2 : Int32) = nI (i % 2) := pk_rem (d := 2) hi (by decide) (by decide)
theorem e_moff {M : nM} {N n : Nat} (hn : n ≤ 20) : ∀ (d j f : Nat), j + d = n → d < f → fX9_movesOff_4 N f (nI n) (nI (q_mv j)) (nI j) M = some (nI (q_mv n), M) := by
  intro d
  induction d with
  | zero =>
    intro j f hj hf
    obtain ⟨f, rfl⟩ : ∃ g, f = g + 1 := ⟨f - 1, by omega⟩
    unfold fX9_movesOff_4
    rw [if_pos (nI_le (by omega) (by omega)), show j = n by omega]
  | succ d ih =>
    intro j f hj hf
    obtain ⟨f, rfl⟩ : ∃ g, f = g + 1 := ⟨f - 1, by omega⟩
    have ih2 := ih (j + 1) f (by omega) (by omega)
    unfold fX9_movesOff_4
    rw [if_neg (nI_ge (by omega) (by omega)), if_neg (by decide), r_mod2 (by omega)]
    simp only [nI_1, show (2 : Int32) * nI (q_mv j) = nI (2 * q_mv j) from pk_mul 2 (q_mv j), show nI (2 * q_mv j) + (0 : Int32) = nI (2 * q_mv j) from nI_add (2 * q_mv j) 0]
    have e : q_mv (j + 1) = 2 * q_mv j + (1 - j % 2) := rfl
    rw [e] at ih2
    rcases (show j % 2 = 0 ∨ j % 2 = 1 by omega) with h | h
    · rw [h] at ih2 ⊢
      rw [if_neg (show ¬ ¬ nI 0 = (0 : Int32) from not_not_intro rfl)]
      exact ih2
    · rw [h] at ih2 ⊢
      rw [if_pos (show ¬ nI 1 = (0 : Int32) by decide)]
      exact ih2
theorem e_mfrom {M : nM} {N n : Nat} (hn : n ≤ 20) : ∀ (d j f : Nat), j + d = n → d < f → fX12_movesFrom_9 N f (nI (q_mv j)) (nI (j % 2)) (nI n - 1 - nI j) M = some (nI (q_mv n), M) := by
  intro d
  induction d with
  | zero =>
    intro j f hj hf
    obtain ⟨f, rfl⟩ : ∃ g, f = g + 1 := ⟨f - 1, by omega⟩
    unfold fX12_movesFrom_9
    obtain rfl : j = n := by omega
    have e : nI j - 1 - nI j < (0 : Int32) := by
      have e2 : nI j - 1 - nI j = -1 := by
        rw [Int32.sub_sub, Int32.add_comm 1 (nI j), ← Int32.sub_sub, Int32.sub_self]
        rfl
      rw [e2]
      decide
    rw [if_pos e]
  | succ d ih =>
    intro j f hj hf
    obtain ⟨f, rfl⟩ : ∃ g, f = g + 1 := ⟨f - 1, by omega⟩
    have ih2 := ih (j + 1) f (by omega) (by omega)
    have e1 : nI n - 1 - nI j = nI (n - 1 - j) := by
      rw [show (1 : Int32) = nI 1 from rfl, pk_sub (by omega), pk_sub (by omega)]
    have e2 : nI n - 1 - nI (j + 1) = nI n - 1 - nI j + (-1) := by
      rw [← nI_1 j, ← Int32.sub_sub]
      exact Int32.sub_eq_add_neg _ _
    unfold fX12_movesFrom_9
    rw [e1, if_neg (nI_pos (by omega)), ← e1, ← e2]
    have e : q_mv (j + 1) = 2 * q_mv j + (1 - j % 2) := rfl
    have e3 : (1 : Int32) - nI (j % 2) = nI (1 - j % 2) := pk_sub (a := 1) (by omega)
    have e4 : 1 - j % 2 = (j + 1) % 2 := by omega
    simp only [e3, show (2 : Int32) * nI (q_mv j) = nI (2 * q_mv j) from pk_mul 2 (q_mv j), nI_add]
    rw [← e, e4]
    exact ih2
theorem wi_m {x hi : Int32} {n : Nat} (hn : hi.toInt = n) (h : wi x (-1) hi = true) : x = -1 ∨ ∃ j : Nat, j ≤ n ∧ x = nI j := by
  by_cases h0 : x < 0
  · left
    have h1 := (wi_t h).1
    rw [Int32.lt_iff_toInt_lt] at h0 h1
    apply Int32.toInt_inj.mp
    have e1 : (-1 : Int32).toInt = -1 := by decide
    have e2 : (0 : Int32).toInt = 0 := by decide
    omega
  · right
    exact nI_of2 hn h0 (Int32.not_lt.mp (wi_t h).2)
theorem nI_nm1 {j : Nat} (hj : j < 2 ^ 31) : ¬ nI j = (-1 : Int32) := fun e => by
  have h1 : ¬ nI j < 0 := nI_pos hj
  rw [e] at h1
  exact h1 (by decide)
theorem st_rings {G : nG} {M : nM} {n q N : Nat} (hN : 1000 ≤ N) (h : Rel G M n q) (x y : Int32) : Stq G (fX11_rings N x y) (fX12_rings N x y) M := by
  unfold Stq fX11_rings fX12_rings fX9_movesOff fX12_movesFrom
  cases hw : wi x 1 20 with
  | false =>
    simp only [e_within, e_isIn, hw, wp_bind, wp_some, wp_chk, ↓reduceIte, not_true_eq_false, not_false_eq_true, z10, z01, zm0, z0m, zm1, z1m, true_and, and_true, cb_t, cb_f, cb0, cb1, eq_self, Bool.false_eq_true, Bool.true_eq_false, reduceCtorEq]
    exact ⟨n, q, h⟩
  | true =>
  cases hw2 : wi y (-1) 1000000 with
  | false =>
    simp only [e_within, e_isIn, hw, hw2, wp_bind, wp_some, wp_chk, ↓reduceIte, not_true_eq_false, not_false_eq_true, z10, z01, zm0, z0m, zm1, z1m, true_and, and_true, cb_t, cb_f, cb0, cb1, eq_self, Bool.false_eq_true, Bool.true_eq_false, reduceCtorEq]
    exact ⟨n, q, h⟩
  | true =>
  obtain ⟨u, u1, u2, rfl⟩ := wi_nI1 (n := 20) (by decide) hw
  have f1 : ∀ M, fX9_movesOff_4 N N (nI u) 0 0 M = some (nI (q_mv u), M) := fun M => e_moff u2 u 0 N (by omega) (by omega)
  have f2 : ∀ M, fX12_movesFrom_9 N N 0 0 (nI u - 1) M = some (nI (q_mv u), M) := fun M => by
    have := e_mfrom (M := M) (N := N) u2 u 0 N (by omega) (by omega)
    rw [show nI u - 1 - nI 0 = nI u - 1 from Int32.sub_zero _] at this
    exact this
  have hb := q_mv_b u (by omega)
  rcases wi_m (n := 1000000) (by decide) hw2 with rfl | ⟨j, hj, rfl⟩
  · simp only [e_within, e_isIn, hw, hw2, f1, f2, wp_bind, wp_some, wp_chk, ↓reduceIte, not_true_eq_false, not_false_eq_true, z10, z01, zm0, z0m, zm1, z1m, true_and, and_true, cb_t, cb_f, cb0, cb1, eq_self, Bool.false_eq_true, Bool.true_eq_false, reduceCtorEq]
    exact ⟨n, q, h⟩
  · have c0 : ¬ nI j = (-1 : Int32) := nI_nm1 (by omega)
    by_cases hc : j ≤ q_mv u
    · have c1 : (0 : Int32) ≤ nI (q_mv u) - nI j := by
        rw [pk_sub hc]
        exact nI_pos' (by omega)
      have c2 : nI j ≤ nI (q_mv u) := nI_le hc (by omega)
      simp only [e_within, e_isIn, hw, hw2, f1, f2, c0, c1, c2, wp_bind, wp_some, wp_chk, ↓reduceIte, not_true_eq_false, not_false_eq_true, z10, z01, zm0, z0m, zm1, z1m, true_and, and_true, cb_t, cb_f, cb0, cb1, eq_self, Bool.false_eq_true, Bool.true_eq_false, reduceCtorEq]
      exact ⟨n, q, h⟩
    · have c1 : ¬ (0 : Int32) ≤ nI (q_mv u) - nI j := Int32.not_le.mpr (pk_sneg (by omega) (by omega))
      have c2 : ¬ nI j ≤ nI (q_mv u) := nI_ge (by omega) (by omega)
      simp only [e_within, e_isIn, hw, hw2, f1, f2, c0, c1, c2, wp_bind, wp_some, wp_chk, ↓reduceIte, not_true_eq_false, not_false_eq_true, z10, z01, zm0, z0m, zm1, z1m, true_and, and_true, cb_t, cb_f, cb0, cb1, eq_self, Bool.false_eq_true, Bool.true_eq_false, reduceCtorEq]
      exact ⟨n, q, h⟩
/-- how many weighings, from k on -/
def q_w : Nat → Nat → Nat → Nat
  | 0, k, _ => k
  | d + 1, k, e => if e ≤ 3 ^ k then k else q_w d (k + 1) e
theorem q_p3 : ∀ k, k ≤ 7 → 3 ^ k < 3000 := by decide +kernel
theorem e_wC {M : nM} {N e : Nat} (he : e ≤ 2001) : ∀ (d k f : Nat), k + d = 7 → d < f → fX9_weighed_19 N f (nI e) (nI k) (nI (3 ^ k)) M = some (nI (q_w d k e), M) := by
  intro d
  induction d with
  | zero =>
    intro k f hk hf
    obtain ⟨f, rfl⟩ : ∃ g, f = g + 1 := ⟨f - 1, by omega⟩
    obtain rfl : k = 7 := by omega
    unfold fX9_weighed_19
    rw [if_pos (nI_le (by omega) (by decide))]
    rfl
  | succ d ih =>
    intro k f hk hf
    obtain ⟨f, rfl⟩ : ∃ g, f = g + 1 := ⟨f - 1, by omega⟩
    have hb := q_p3 k (by omega)
    have e3 : nI (3 ^ k) * (3 : Int32) = nI (3 ^ (k + 1)) := by rw [show (3 : Int32) = nI 3 from rfl, pk_mul, Nat.pow_succ]
    unfold fX9_weighed_19 q_w
    by_cases hc : e ≤ 3 ^ k
    · rw [if_pos (nI_le hc (by omega)), if_pos hc]
    · rw [if_neg (nI_ge (by omega) (by omega)), if_neg hc]
      simp only [nI_1, e3]
      exact ih (k + 1) f (by omega) (by omega)
theorem q_odd : ∀ k, k ≤ 7 → (3 ^ k) % 2 = 1 := by decide +kernel
theorem e_wM {M : nM} {N n : Nat} {b : Bool} (hn : n ≤ 1000) : ∀ (d k f : Nat), k + d = 7 → d < f → fX12_weighings_43 N f (nI n) (cb b) (nI k) (nI (3 ^ k)) M = some (nI (q_w d k (if b = true then 2 * n + 1 else n)), M) := by
  intro d
  induction d with
  | zero =>
    intro k f hk hf
    obtain ⟨f, rfl⟩ : ∃ g, f = g + 1 := ⟨f - 1, by omega⟩
    obtain rfl : k = 7 := by omega
    unfold fX12_weighings_43 fX12_weighings_58
    cases b with
    | false =>
      simp only [wp_bind, wp_some, wp_chk, ↓reduceIte, not_true_eq_false, not_false_eq_true, z10, z01, zm0, z0m, zm1, z1m, true_and, and_true, cb_t, cb_f, cb0, cb1, eq_self, Bool.false_eq_true, Bool.true_eq_false, reduceCtorEq]
      rw [if_pos (nI_le (by omega) (by decide))]
      rfl
    | true =>
      simp only [show ((2 : Int32) = 0) = False from eq_false (by decide), wp_bind, wp_some, wp_chk, ↓reduceIte, not_true_eq_false, not_false_eq_true, z10, z01, zm0, z0m, zm1, z1m, true_and, and_true, cb_t, cb_f, cb0, cb1, eq_self, Bool.false_eq_true, Bool.true_eq_false, reduceCtorEq]
      rw [if_pos (show nI n ≤ (nI (3 ^ 7) - 1) / 2 from nI_le (b := 1093) (by omega) (by decide))]
      rfl
  | succ d ih =>
    intro k f hk hf
    obtain ⟨f, rfl⟩ : ∃ g, f = g + 1 := ⟨f - 1, by omega⟩
    have hb := q_p3 k (by omega)
    have ho := q_odd k (by omega)
    have e3 : nI (3 ^ k) * (3 : Int32) = nI (3 ^ (k + 1)) := by rw [show (3 : Int32) = nI 3 from rfl, pk_mul, Nat.pow_succ]
    have ed : ∀ p : Nat, p < 3000 → p % 2 = 1 → (nI p - 1) / (2 : Int32) = nI ((p - 1) / 2) := fun p g1 g2 => by
      rw [show (1 : Int32) = nI 1 from rfl, pk_sub (by omega)]
      exact pk_div (d := 2) (by omega) (by decide) (by decide)
    have ih2 := ih (k + 1) f (by omega) (by omega)
    unfold fX12_weighings_43 fX12_weighings_58 q_w
    generalize 3 ^ k = p at *
    cases b with
    | false =>
      simp only [wp_bind, wp_some, wp_chk, ↓reduceIte, not_true_eq_false, not_false_eq_true, z10, z01, zm0, z0m, zm1, z1m, true_and, and_true, cb_t, cb_f, cb0, cb1, eq_self, Bool.false_eq_true, Bool.true_eq_false, reduceCtorEq] at ih2 ⊢
      by_cases hc : n ≤ p
      · rw [if_pos (nI_le hc (by omega)), if_pos hc]
      · rw [if_neg (nI_ge (by omega) (by omega)), if_neg hc, nI_1, e3]
        exact ih2
    | true =>
      simp only [show ((2 : Int32) = 0) = False from eq_false (by decide), ed p hb ho, wp_bind, wp_some, wp_chk, ↓reduceIte, not_true_eq_false, not_false_eq_true, z10, z01, zm0, z0m, zm1, z1m, true_and, and_true, cb_t, cb_f, cb0, cb1, eq_self, Bool.false_eq_true, Bool.true_eq_false, reduceCtorEq] at ih2 ⊢
      by_cases hc : 2 * n + 1 ≤ p
      · rw [if_pos (nI_le (by omega) (by omega)), if_pos hc]
      · rw [if_neg (nI_ge (by omega) (by omega)), if_neg hc, nI_1, e3]
        exact ih2
theorem wi_nIl {x hi : Int32} {l n : Nat} (hl : l < 2 ^ 31) (hn : hi.toInt = n) (h : wi x (nI l) hi = true) : ∃ j : Nat, l ≤ j ∧ j ≤ n ∧ x = nI j := by
  have h0 : ¬ x < 0 := fun g => (wi_t h).1 (Int32.lt_of_lt_of_le g (nI_pos' hl))
  obtain ⟨j, hj, e⟩ := nI_of2 hn h0 (Int32.not_lt.mp (wi_t h).2)
  refine ⟨j, ?_, hj, e⟩
  rcases Nat.lt_or_ge j l with h1 | h1
  · exfalso
    rw [e] at h
    exact (wi_t h).1 (nI_lt h1 hl)
  · exact h1
theorem st_weighings {G : nG} {M : nM} {n q N : Nat} (hN : 1000 ≤ N) (h : Rel G M n q) (x y : Int32) : Stq G (fX11_weighings N x y) (fX12_weighings N x y) M := by
  unfold Stq fX11_weighings fX12_weighings fX11_weighings_35 fX12_weighings_17 fX9_weighed
  cases hw : wi y 0 1 with
  | false =>
    have hy1 : ¬ y = 1 := fun e => by subst e; exact absurd hw (by decide)
    cases hw2 : wi x 2 1000 with
    | false =>
      simp only [e_within, e_isIn, hw, hw2, hy1, wp_bind, wp_some, wp_chk, ↓reduceIte, not_true_eq_false, not_false_eq_true, z10, z01, zm0, z0m, zm1, z1m, true_and, and_true, cb_t, cb_f, cb0, cb1, eq_self, Bool.false_eq_true, Bool.true_eq_false, reduceCtorEq]
      exact ⟨n, q, h⟩
    | true =>
      simp only [e_within, e_isIn, hw, hw2, hy1, wp_bind, wp_some, wp_chk, ↓reduceIte, not_true_eq_false, not_false_eq_true, z10, z01, zm0, z0m, zm1, z1m, true_and, and_true, cb_t, cb_f, cb0, cb1, eq_self, Bool.false_eq_true, Bool.true_eq_false, reduceCtorEq]
      exact ⟨n, q, h⟩
  | true =>
  obtain ⟨v, v1, rfl⟩ := wi_nI (n := 1) (by decide) hw
  rcases (show v = 0 ∨ v = 1 by omega) with rfl | rfl
  · have e2 : (2 : Int32) + nI 0 = nI 2 := rfl
    have z1 : (nI 0 = (1 : Int32)) = False := eq_false (by decide)
    cases hw2 : wi x (nI 2) 1000 with
    | false =>
      simp only [e_within, e_isIn, hw, nI_add, Nat.reduceAdd, hw2, z1, show (2 : Int32) = nI 2 from rfl, wp_bind, wp_some, wp_chk, ↓reduceIte, not_true_eq_false, not_false_eq_true, z10, z01, zm0, z0m, zm1, z1m, true_and, and_true, cb_t, cb_f, cb0, cb1, eq_self, Bool.false_eq_true, Bool.true_eq_false, reduceCtorEq]
      exact ⟨n, q, h⟩
    | true =>
      obtain ⟨u, u1, u2, rfl⟩ := wi_nIl (by decide) (n := 1000) (by decide) hw2
      have f1 : ∀ M, fX9_weighed_19 N N (nI u) 0 1 M = some (nI (q_w 7 0 u), M) := fun M => e_wC (by omega) 7 0 N (by omega) (by omega)
      have f2 : ∀ M, fX12_weighings_43 N N (nI u) (nI 0) 0 1 M = some (nI (q_w 7 0 u), M) := fun M => e_wM (b := false) u2 7 0 N (by omega) (by omega)
      simp only [e_within, e_isIn, hw, nI_add, Nat.reduceAdd, hw2, z1, show (2 : Int32) = nI 2 from rfl, f1, f2, wp_bind, wp_some, wp_chk, ↓reduceIte, not_true_eq_false, not_false_eq_true, z10, z01, zm0, z0m, zm1, z1m, true_and, and_true, cb_t, cb_f, cb0, cb1, eq_self, Bool.false_eq_true, Bool.true_eq_false, reduceCtorEq]
      exact ⟨n, q, h⟩
  · have e2 : (2 : Int32) + nI 1 = nI 3 := rfl
    have z1 : (nI 1 = (1 : Int32)) = True := eq_true rfl
    cases hw2 : wi x (nI 3) 1000 with
    | false =>
      simp only [e_within, e_isIn, hw, e2, hw2, z1, show (3 : Int32) = nI 3 from rfl, wp_bind, wp_some, wp_chk, ↓reduceIte, not_true_eq_false, not_false_eq_true, z10, z01, zm0, z0m, zm1, z1m, true_and, and_true, cb_t, cb_f, cb0, cb1, eq_self, Bool.false_eq_true, Bool.true_eq_false, reduceCtorEq]
      exact ⟨n, q, h⟩
    | true =>
      obtain ⟨u, u1, u2, rfl⟩ := wi_nIl (by decide) (n := 1000) (by decide) hw2
      have e4 : (2 : Int32) * nI u + 1 = nI (2 * u + 1) := by rw [show (2 : Int32) = nI 2 from rfl, pk_mul, nI_1]
      have f1 : ∀ M, fX9_weighed_19 N N ((2 : Int32) * nI u + 1) 0 1 M = some (nI (q_w 7 0 (2 * u + 1)), M) := fun M => by rw [e4]; exact e_wC (by omega) 7 0 N (by omega) (by omega)
      have f2 : ∀ M, fX12_weighings_43 N N (nI u) (nI 1) 0 1 M = some (nI (q_w 7 0 (2 * u + 1)), M) := fun M => e_wM (b := true) u2 7 0 N (by omega) (by omega)
      simp only [e_within, e_isIn, hw, e2, hw2, z1, show (3 : Int32) = nI 3 from rfl, f1, f2, wp_bind, wp_some, wp_chk, ↓reduceIte, not_true_eq_false, not_false_eq_true, z10, z01, zm0, z0m, zm1, z1m, true_and, and_true, cb_t, cb_f, cb0, cb1, eq_self, Bool.false_eq_true, Bool.true_eq_false, reduceCtorEq]
      exact ⟨n, q, h⟩
/-- choices by the class, by the model; all wrong -/
def q_cC : Nat → Nat → Nat → Int32
  | _, _, 0 => 1
  | n, k, i + 1 => (q_cC n k i * ((nI n - nI k) + nI (i + 1))) / nI (i + 1)
def q_cM : Nat → Nat → Int32
  | _, 0 => 1
  | n, i + 1 => (q_cM n i * (nI n - nI i)) / (nI i + 1)
def q_aw : Nat → Int32
  | 0 => 1
  | i + 1 => q_aw i * nI (i + 1) + (if (i + 1) % 2 = 0 then 1 else -1)
theorem q_c_eq : ∀ n, n < 13 → ∀ k, k < n + 1 → q_cC n k k = q_cM n k := by decide +kernel
theorem e_cC {M : nM} {N n k : Nat} (hn : n ≤ 12) (hk : k ≤ n) : ∀ (d i f : Nat), i + d = k → d < f → fX9_choices_4 N f (nI n) (nI k) (q_cC n k i) (nI (i + 1)) M = some (q_cC n k k, M) := by
  intro d
  induction d with
  | zero =>
    intro i f hi hf
    obtain ⟨f, rfl⟩ : ∃ g, f = g + 1 := ⟨f - 1, by omega⟩
    obtain rfl : i = k := by omega
    unfold fX9_choices_4
    rw [if_pos (nI_lt (by omega) (by omega))]
  | succ d ih =>
    intro i f hi hf
    obtain ⟨f, rfl⟩ : ∃ g, f = g + 1 := ⟨f - 1, by omega⟩
    have ih2 := ih (i + 1) f (by omega) (by omega)
    unfold fX9_choices_4
    rw [if_neg (nI_nlt (by omega) (by omega)), if_neg (nI_ne0 (by omega) (by omega))]
    simp only [nI_1]
    exact ih2
theorem e_awC {M : nM} {N m : Nat} (hm : m ≤ 12) : ∀ (d i f : Nat), i + d = m → d < f → fX9_allWrong_4 N f (nI m) (q_aw i) (nI (i + 1)) M = some (q_aw m, M) := by
  intro d
  induction d with
  | zero =>
    intro i f hi hf
    obtain ⟨f, rfl⟩ : ∃ g, f = g + 1 := ⟨f - 1, by omega⟩
    obtain rfl : i = m := by omega
    unfold fX9_allWrong_4
    rw [if_pos (nI_lt (by omega) (by omega))]
  | succ d ih =>
    intro i f hi hf
    obtain ⟨f, rfl⟩ : ∃ g, f = g + 1 := ⟨f - 1, by omega⟩
    have ih2 := ih (i + 1) f (by omega) (by omega)
    have e : q_aw (i + 1) = q_aw i * nI (i + 1) + (if (i + 1) % 2 = 0 then 1 else -1) := rfl
    rw [e] at ih2
    unfold fX9_allWrong_4
    rw [if_neg (nI_nlt (by omega) (by omega)), if_neg (by decide), r_mod2 (by omega)]
    simp only [nI_1]
    rcases (show (i + 1) % 2 = 0 ∨ (i + 1) % 2 = 1 by omega) with h | h
    · rw [h] at ih2 ⊢
      rw [if_neg (show ¬ ¬ nI 0 = (0 : Int32) from not_not_intro rfl)]
      exact ih2
    · rw [h] at ih2 ⊢
      rw [if_pos (show ¬ nI 1 = (0 : Int32) by decide)]
      exact ih2
theorem e_awM {M : nM} {N n k : Nat} {c : Int32} (hn : n ≤ 12) (hk : k ≤ n) : ∀ (d i f : Nat), i + d = n - k → d < f → fX12_hats_63 N f (nI n) (nI k) c (q_aw i) (nI (i + 1)) M = some (c * q_aw (n - k), M) := by
  intro d
  induction d with
  | zero =>
    intro i f hi hf
    obtain ⟨f, rfl⟩ : ∃ g, f = g + 1 := ⟨f - 1, by omega⟩
    obtain rfl : i = n - k := by omega
    unfold fX12_hats_63
    rw [pk_sub hk, if_pos (nI_lt (by omega) (by omega))]
  | succ d ih =>
    intro i f hi hf
    obtain ⟨f, rfl⟩ : ∃ g, f = g + 1 := ⟨f - 1, by omega⟩
    have ih2 := ih (i + 1) f (by omega) (by omega)
    have e : q_aw (i + 1) = q_aw i * nI (i + 1) + (if (i + 1) % 2 = 0 then 1 else -1) := rfl
    rw [e] at ih2
    unfold fX12_hats_63
    rw [pk_sub hk, if_neg (nI_nlt (by omega) (by omega)), if_neg (by decide), r_mod2 (by omega)]
    simp only [nI_1]
    rcases (show (i + 1) % 2 = 0 ∨ (i + 1) % 2 = 1 by omega) with h | h
    · rw [h] at ih2 ⊢
      rw [if_neg (show ¬ ¬ nI 0 = (0 : Int32) from not_not_intro rfl)]
      exact ih2
    · rw [h] at ih2 ⊢
      rw [if_pos (show ¬ nI 1 = (0 : Int32) by decide)]
      exact ih2
theorem e_cM {M : nM} {N n k : Nat} (hN : 1000 ≤ N) (hn : n ≤ 12) (hk : k ≤ n) : ∀ (d i f : Nat), i + d = k → d < f → fX12_hats_33 N f (nI n) (nI k) (q_cM n i) (nI i) M = some (q_cM n k * q_aw (n - k), M) := by
  intro d
  induction d with
  | zero =>
    intro i f hi hf
    obtain ⟨f, rfl⟩ : ∃ g, f = g + 1 := ⟨f - 1, by omega⟩
    obtain rfl : i = k := by omega
    unfold fX12_hats_33
    rw [if_pos (nI_le (by omega) (by omega))]
    exact e_awM hn hk (n - i) 0 N (by omega) (by omega)
  | succ d ih =>
    intro i f hi hf
    obtain ⟨f, rfl⟩ : ∃ g, f = g + 1 := ⟨f - 1, by omega⟩
    have ih2 := ih (i + 1) f (by omega) (by omega)
    unfold fX12_hats_33
    rw [if_neg (nI_ge (by omega) (by omega)), if_neg (by rw [nI_1]; exact nI_ne0 (by omega) (by omega))]
    have e : q_cM n (i + 1) = (q_cM n i * (nI n - nI i)) / (nI i + 1) := rfl
    rw [e] at ih2
    simp only [← nI_1] at ih2
    exact ih2
theorem st_hats {G : nG} {M : nM} {n q N : Nat} (hN : 1000 ≤ N) (h : Rel G M n q) (x y : Int32) : Stq G (fX11_hats N x y) (fX12_hats N x y) M := by
  unfold Stq fX11_hats fX12_hats fX9_choices fX9_allWrong
  cases hw : wi x 1 12 with
  | false =>
    simp only [e_within, e_isIn, hw, wp_bind, wp_some, wp_chk, ↓reduceIte, not_true_eq_false, not_false_eq_true, z10, z01, zm0, z0m, zm1, z1m, true_and, and_true, cb_t, cb_f, cb0, cb1, eq_self, Bool.false_eq_true, Bool.true_eq_false, reduceCtorEq]
    exact ⟨n, q, h⟩
  | true =>
  obtain ⟨u, u1, u2, rfl⟩ := wi_nI1 (n := 12) (by decide) hw
  cases hw2 : wi y 0 (nI u) with
  | false =>
    simp only [e_within, e_isIn, hw, hw2, wp_bind, wp_some, wp_chk, ↓reduceIte, not_true_eq_false, not_false_eq_true, z10, z01, zm0, z0m, zm1, z1m, true_and, and_true, cb_t, cb_f, cb0, cb1, eq_self, Bool.false_eq_true, Bool.true_eq_false, reduceCtorEq]
    exact ⟨n, q, h⟩
  | true =>
    obtain ⟨v, hv, rfl⟩ := wi_nI (n := u) (nI_toInt (by omega)) hw2
    have f1 : ∀ M, fX9_choices_4 N N (nI u) (nI v) 1 1 M = some (q_cC u v v, M) := fun M => e_cC u2 hv v 0 N (by omega) (by omega)
    have f2 : ∀ M, fX9_allWrong_4 N N (nI u - nI v) 1 1 M = some (q_aw (u - v), M) := fun M => by rw [pk_sub hv]; exact e_awC (by omega) (u - v) 0 N (by omega) (by omega)
    have f3 : ∀ M, fX12_hats_33 N N (nI u) (nI v) 1 0 M = some (q_cM u v * q_aw (u - v), M) := fun M => e_cM hN u2 hv v 0 N (by omega) (by omega)
    simp only [e_within, e_isIn, hw, hw2, f1, f2, f3, q_c_eq u (by omega) v (by omega), wp_bind, wp_some, wp_chk, ↓reduceIte, not_true_eq_false, not_false_eq_true, z10, z01, zm0, z0m, zm1, z1m, true_and, and_true, cb_t, cb_f, cb0, cb1, eq_self, Bool.false_eq_true, Bool.true_eq_false, reduceCtorEq]
    exact ⟨n, q, h⟩
