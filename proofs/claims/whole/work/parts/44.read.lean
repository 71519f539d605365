/-! ===== what is only read: of, who, place, look, book ===== -/
/-- the sizes together of those of the first k that lie at p -/
def p_full : Nat → (Nat → Int32) → (Nat → Int32) → Int32 → Int32
  | 0, _, _, _ => 0
  | k + 1, f, sz, p => if f k = p then p_full k f sz p + sz k else p_full k f sz p
/-- those of the first k with f k = p, as a set -/
def p_in : Nat → (Nat → Int32) → Int32 → Int32
  | 0, _, _ => 0
  | k + 1, f, p => if f k = p then p_in k f p ||| ((1 : Int32) <<< (nI k &&& 31)) else p_in k f p
theorem p_full_s (k : Nat) (f sz : Nat → Int32) (p : Int32) : p_full (k + 1) f sz p = if f k = p then p_full k f sz p + sz k else p_full k f sz p := rfl
theorem p_in_s (k : Nat) (f : Nat → Int32) (p : Int32) : p_in (k + 1) f p = if f k = p then p_in k f p ||| ((1 : Int32) <<< (nI k &&& 31)) else p_in k f p := rfl
theorem p_full_c {f g s t : Nat → Int32} {p : Int32} : ∀ {k : Nat}, (∀ i, i < k → f i = g i) → (∀ i, i < k → s i = t i) → p_full k f s p = p_full k g t p
  | 0, _, _ => rfl
  | k + 1, h1, h2 => by
    unfold p_full
    rw [h1 k (by omega), h2 k (by omega), p_full_c (k := k) (fun i hi => h1 i (by omega)) (fun i hi => h2 i (by omega))]
theorem p_in_c {f g : Nat → Int32} {p : Int32} : ∀ {k : Nat}, (∀ i, i < k → f i = g i) → p_in k f p = p_in k g p
  | 0, _ => rfl
  | k + 1, h1 => by
    unfold p_in
    rw [h1 k (by omega), p_in_c (k := k) (fun i hi => h1 i (by omega))]
theorem b_p_in {f : Nat → Int32} {p : Int32} (t : Nat) : ∀ {k : Nat}, k ≤ 32 → bt (p_in k f p) t = (decide (t < k) && decide (f t = p))
  | 0, _ => by
    show bt 0 t = _
    rw [b_0]
    simp
  | k + 1, hk => by
    unfold p_in
    have ih := b_p_in (f := f) (p := p) t (k := k) (by omega)
    by_cases h : f k = p
    · rw [if_pos h, b_set (by omega), ih]
      by_cases ht : t = k
      · subst ht
        simp [h]
      · have e1 : decide (t < k + 1) = decide (t < k) := decide_eq_decide.mpr (by omega)
        simp [ht, e1]
    · rw [if_neg h, ih]
      by_cases ht : t = k
      · subst ht
        simp [h]
      · have e1 : decide (t < k + 1) = decide (t < k) := decide_eq_decide.mpr (by omega)
        rw [e1]
theorem e_full_m {M : nM} {n N : Nat} (hn : M 107 6 = nI n) (hn2 : n ≤ 16) (p : Int32) : ∀ (d j f : Nat), j + d = n → d < f → fX12_fullOf_4 N f p (p_full j (fun t => M 108 (28 + t)) (M 112) p) (nI j) M = some (p_full n (fun t => M 108 (28 + t)) (M 112) p, M) := by
  intro d
  induction d with
  | zero =>
    intro j f hj hf
    obtain ⟨f, rfl⟩ : ∃ g, f = g + 1 := ⟨f - 1, by omega⟩
    unfold fX12_fullOf_4
    rw [hn, if_pos (nI_le (by omega) (by omega)), show j = n by omega]
  | succ d ih =>
    intro j f hj hf
    obtain ⟨f, rfl⟩ : ∃ g, f = g + 1 := ⟨f - 1, by omega⟩
    have e1 : (28 : Int32) + nI j = nI (28 + j) := nI_add 28 j
    have ih2 := ih (j + 1) f (by omega) (by omega)
    unfold fX12_fullOf_4
    rw [hn, if_neg (nI_ge (by omega) (by omega))]
    simp only [e1, n_ib_nI (show 28 + j < 100 by omega) (show 100 < 2 ^ 31 by decide), n_ib_nI (show j < 16 by omega) (show 16 < 2 ^ 31 by decide), n_chk, nI_clamp (show 28 + j < 2 ^ 31 by omega), nI_clamp (show j < 2 ^ 31 by omega), nI_1]
    rw [p_full_s] at ih2
    by_cases h : M 108 (28 + j) = p
    · rw [if_neg (by rw [h]; exact not_not_intro rfl)]
      rw [if_pos h] at ih2
      exact ih2
    · rw [if_pos h]
      rw [if_neg h] at ih2
      exact ih2
theorem e_fullOf_m {M : nM} {n N : Nat} (hN : 1000 ≤ N) (hn : M 107 6 = nI n) (hn2 : n ≤ 16) (p : Int32) : fX12_fullOf N p M = some (p_full n (fun t => M 108 (28 + t)) (M 112) p, M) := e_full_m hn hn2 p n 0 N (by omega) (by omega)
theorem e_full_c {G : nG} {M : nM} {n N a c : Nat} (hk : n_kd G a = 4) (hm : n_mr G a 1 = c) (hkc : n_kd G c = 14) (hlc : n_len G c = 16) (hn : M 3 5 = nI n) (hn2 : n ≤ 16) (p : Int32) : ∀ (d j f : Nat), j + d = n → d < f → fX0_fullOf_5 N G f a p (p_full j (M c) (M 5) p) (nI j) M = some (p_full n (M c) (M 5) p, M) := by
  have hb : Nat.beq (n_kd G a) 4 = true := by rw [hk]; rfl
  intro d
  induction d with
  | zero =>
    intro j f hj hf
    obtain ⟨f, rfl⟩ : ∃ g, f = g + 1 := ⟨f - 1, by omega⟩
    unfold fX0_fullOf_5
    rw [hn, if_pos (nI_le (by omega) (by omega)), show j = n by omega]
  | succ d ih =>
    intro j f hj hf
    obtain ⟨f, rfl⟩ : ∃ g, f = g + 1 := ⟨f - 1, by omega⟩
    have ih2 := ih (j + 1) f (by omega) (by omega)
    unfold fX0_fullOf_5
    rw [hn, if_neg (nI_ge (by omega) (by omega))]
    simp only [hb, hm, n_in_nI hkc hlc (show j < 16 by omega) (by decide), n_ib_nI (show j < 16 by omega) (show 16 < 2 ^ 31 by decide), n_chk, nI_clamp (show j < 2 ^ 31 by omega), nI_1]
    rw [p_full_s] at ih2
    by_cases h : M c j = p
    · rw [if_neg (by rw [h]; exact not_not_intro rfl)]
      rw [if_pos h] at ih2
      exact ih2
    · rw [if_pos h]
      rw [if_neg h] at ih2
      exact ih2
theorem e_fullOf_c {G : nG} {M : nM} {n N a c : Nat} (hN : 1000 ≤ N) (hk : n_kd G a = 4) (hm : n_mr G a 1 = c) (hkc : n_kd G c = 14) (hlc : n_len G c = 16) (hn : M 3 5 = nI n) (hn2 : n ≤ 16) (p : Int32) : fX0_fullOf N G a p M = some (p_full n (M c) (M 5) p, M) := e_full_c hk hm hkc hlc hn hn2 p n 0 N (by omega) (by omega)
theorem e_in_m {M : nM} {n N : Nat} (hn : M 107 6 = nI n) (hn2 : n ≤ 16) (p : Int32) : ∀ (d j f : Nat), j + d = n → d < f → fX12_thingsIn_4 N f p (p_in j (fun t => M 108 (28 + t)) p) (nI j) M = some (p_in n (fun t => M 108 (28 + t)) p, M) := by
  intro d
  induction d with
  | zero =>
    intro j f hj hf
    obtain ⟨f, rfl⟩ : ∃ g, f = g + 1 := ⟨f - 1, by omega⟩
    unfold fX12_thingsIn_4
    rw [hn, if_pos (nI_le (by omega) (by omega)), show j = n by omega]
  | succ d ih =>
    intro j f hj hf
    obtain ⟨f, rfl⟩ : ∃ g, f = g + 1 := ⟨f - 1, by omega⟩
    have e1 : (28 : Int32) + nI j = nI (28 + j) := nI_add 28 j
    have ih2 := ih (j + 1) f (by omega) (by omega)
    unfold fX12_thingsIn_4
    rw [hn, if_neg (nI_ge (by omega) (by omega))]
    simp only [e1, n_ib_nI (show 28 + j < 100 by omega) (show 100 < 2 ^ 31 by decide), n_chk, nI_clamp (show 28 + j < 2 ^ 31 by omega), nI_1]
    rw [p_in_s] at ih2
    by_cases h : M 108 (28 + j) = p
    · rw [if_neg (by rw [h]; exact not_not_intro rfl)]
      rw [if_pos h] at ih2
      exact ih2
    · rw [if_pos h]
      rw [if_neg h] at ih2
      exact ih2
theorem e_in_c {M : nM} {n N : Nat} (hn : M 3 5 = nI n) (hn2 : n ≤ 16) (p : Int32) : ∀ (d j f : Nat), j + d = n → d < f → fX0_thingsIn_5 N f p (p_in j (M 10) p) (nI j) M = some (p_in n (M 10) p, M) := by
  intro d
  induction d with
  | zero =>
    intro j f hj hf
    obtain ⟨f, rfl⟩ : ∃ g, f = g + 1 := ⟨f - 1, by omega⟩
    unfold fX0_thingsIn_5
    rw [hn, if_pos (nI_le (by omega) (by omega)), show j = n by omega]
  | succ d ih =>
    intro j f hj hf
    obtain ⟨f, rfl⟩ : ∃ g, f = g + 1 := ⟨f - 1, by omega⟩
    have ih2 := ih (j + 1) f (by omega) (by omega)
    unfold fX0_thingsIn_5
    rw [hn, if_neg (nI_ge (by omega) (by omega))]
    simp only [n_ib_nI (show j < 16 by omega) (show 16 < 2 ^ 31 by decide), n_chk, nI_clamp (show j < 2 ^ 31 by omega), nI_1]
    rw [p_in_s] at ih2
    by_cases h : M 10 j = p
    · rw [if_neg (by rw [h]; exact not_not_intro rfl)]
      rw [if_pos h] at ih2
      rw [show (1 : Int32) = cb true from rfl, e_withBit]
      exact ih2
    · rw [if_pos h]
      rw [if_neg h] at ih2
      exact ih2
theorem e_setOf {M : nM} {k n N : Nat} (hkn : k + n ≤ 100) (hn2 : n ≤ 32) : ∀ (d j f : Nat), j + d = n → d < f → fX12_setOf_5 N f (nI k) (nI n) (p_in j (fun t => M 108 (k + t)) 1) (nI j) M = some (p_in n (fun t => M 108 (k + t)) 1, M) := by
  intro d
  induction d with
  | zero =>
    intro j f hj hf
    obtain ⟨f, rfl⟩ : ∃ g, f = g + 1 := ⟨f - 1, by omega⟩
    unfold fX12_setOf_5
    rw [if_pos (nI_le (by omega) (by omega)), show j = n by omega]
  | succ d ih =>
    intro j f hj hf
    obtain ⟨f, rfl⟩ : ∃ g, f = g + 1 := ⟨f - 1, by omega⟩
    have e1 : nI k + nI j = nI (k + j) := nI_add k j
    have ih2 := ih (j + 1) f (by omega) (by omega)
    unfold fX12_setOf_5
    rw [if_neg (nI_ge (by omega) (by omega))]
    simp only [e1, n_ib_nI (show k + j < 100 by omega) (show 100 < 2 ^ 31 by decide), n_chk, nI_clamp (show k + j < 2 ^ 31 by omega), nI_1]
    rw [p_in_s] at ih2
    by_cases h : M 108 (k + j) = 1
    · rw [if_neg (by rw [h]; exact not_not_intro rfl)]
      rw [if_pos h] at ih2
      exact ih2
    · rw [if_pos h]
      rw [if_neg h] at ih2
      exact ih2
/-- a set of bits and the row of 0 and 1 are the same set -/
theorem r_bits_in {s : Int32} {row : Nat → Int32} {k m n p : Nat} (h : r_bits s row k m p) (hm : m ≤ 32) (hn : p ≤ n) (hnm : n ≤ m) : s = p_in n (fun t => row (k + t)) 1 := by
  apply b_ext
  intro t ht
  rw [b_p_in t (by omega)]
  by_cases h1 : t < n
  · rcases h.1 t (by omega) with ⟨a, b⟩ | ⟨a, b⟩
    · simp [h1, a, b]
    · simp [h1, a, b]
  · rw [h.2 t (by omega)]
    simp [h1]
theorem r_bits_g {s : Int32} {row : Nat → Int32} {k m p t : Nat} (h : r_bits s row k m p) (ht : t < m) : cb (bt s t) = row (k + t) := by
  rcases h.1 t ht with ⟨a, b⟩ | ⟨a, b⟩ <;> rw [a, b] <;> rfl
theorem st_of {G : nG} {M : nM} {n q : Nat} (h : Rel G M n q) (x y : Int32) : Stq G (fX11_of x y) (fX12_of x y) M := by
  obtain ⟨⟨hst, hmv, hbk, hlw, hsp, hcu, hli, hsw, hpk, hbx, hky, hcl, hsh, hrw, hgf, hmi⟩, hpr, hrd, hck, hwd, him⟩ := id h
  obtain ⟨⟨s1, s2⟩, ⟨s3, s4⟩, ⟨s5, s6⟩, s7, s8, s9, s10, s11⟩ := hst
  obtain ⟨m1, m2, m3, m4, m5, m6, m7, m8, m9, m10, m11⟩ := hmv
  unfold Stq fX11_of fX12_of
  have s5' : n_up M 107 0 0 107 6 = nI n := s5
  cases hw : wn x n with
  | false =>
    simp only [e_hasThing s3, e_isThing s5', hw, wp_bind, wp_some, wp_chk, ↓reduceIte, not_true_eq_false, not_false_eq_true, z10, z01, zm0, z0m, zm1, z1m, true_and, and_true, cb_t, cb_f, cb0, cb1, eq_self, Bool.false_eq_true, Bool.true_eq_false, reduceCtorEq]
    exact ⟨n, q, h⟩
  | true =>
    obtain ⟨j, hj, rfl⟩ := wn_t (by omega) hw
    have a1 : (28 : Int32) + nI j = nI (28 + j) := nI_add 28 j
    have a2 : (44 : Int32) + nI j = nI (44 + j) := nI_add 44 j
    have a3 : (60 : Int32) + nI j = nI (60 + j) := nI_add 60 j
    by_cases h0 : y = 0
    · simp only [h0, e_hasThing s3, e_isThing s5', hw, a1, a2, a3, e_bit (show j < 32 by omega), n_ib_nI (show j < 16 by omega) (show 16 < 2 ^ 31 by decide), n_ib_nI (show 28 + j < 100 by omega) (show 100 < 2 ^ 31 by decide), n_ib_nI (show 44 + j < 100 by omega) (show 100 < 2 ^ 31 by decide), n_ib_nI (show 60 + j < 100 by omega) (show 100 < 2 ^ 31 by decide), nI_clamp (show j < 2 ^ 31 by omega), nI_clamp (show 28 + j < 2 ^ 31 by omega), nI_clamp (show 44 + j < 2 ^ 31 by omega), nI_clamp (show 60 + j < 2 ^ 31 by omega), wp_bind, wp_some, wp_chk, ↓reduceIte, not_true_eq_false, not_false_eq_true, z10, z01, zm0, z0m, zm1, z1m, true_and, and_true, cb_t, cb_f, cb0, cb1, eq_self, Bool.false_eq_true, Bool.true_eq_false, reduceCtorEq]
      exact ⟨s8 j (by omega), n, q, h⟩
    by_cases h1 : y = 1
    · simp only [h1, e_hasThing s3, e_isThing s5', hw, a1, a2, a3, e_bit (show j < 32 by omega), n_ib_nI (show j < 16 by omega) (show 16 < 2 ^ 31 by decide), n_ib_nI (show 28 + j < 100 by omega) (show 100 < 2 ^ 31 by decide), n_ib_nI (show 44 + j < 100 by omega) (show 100 < 2 ^ 31 by decide), n_ib_nI (show 60 + j < 100 by omega) (show 100 < 2 ^ 31 by decide), nI_clamp (show j < 2 ^ 31 by omega), nI_clamp (show 28 + j < 2 ^ 31 by omega), nI_clamp (show 44 + j < 2 ^ 31 by omega), nI_clamp (show 60 + j < 2 ^ 31 by omega), wp_bind, wp_some, wp_chk, ↓reduceIte, not_true_eq_false, not_false_eq_true, z10, z01, zm0, z0m, zm1, z1m, true_and, and_true, cb_t, cb_f, cb0, cb1, eq_self, Bool.false_eq_true, Bool.true_eq_false, reduceCtorEq]
      exact ⟨s9 j (by omega), n, q, h⟩
    by_cases h2 : y = 2
    · subst h2
      simp only [h0, h1, e_hasThing s3, e_isThing s5', hw, a1, a2, a3, e_bit (show j < 32 by omega), n_ib_nI (show j < 16 by omega) (show 16 < 2 ^ 31 by decide), n_ib_nI (show 28 + j < 100 by omega) (show 100 < 2 ^ 31 by decide), n_ib_nI (show 44 + j < 100 by omega) (show 100 < 2 ^ 31 by decide), n_ib_nI (show 60 + j < 100 by omega) (show 100 < 2 ^ 31 by decide), nI_clamp (show j < 2 ^ 31 by omega), nI_clamp (show 28 + j < 2 ^ 31 by omega), nI_clamp (show 44 + j < 2 ^ 31 by omega), nI_clamp (show 60 + j < 2 ^ 31 by omega), wp_bind, wp_some, wp_chk, ↓reduceIte, not_true_eq_false, not_false_eq_true, z10, z01, zm0, z0m, zm1, z1m, true_and, and_true, cb_t, cb_f, cb0, cb1, eq_self, Bool.false_eq_true, Bool.true_eq_false, reduceCtorEq]
      exact ⟨m1.1 j (by omega), n, q, h⟩
    by_cases h3 : y = 3
    · subst h3
      simp only [h0, h1, h2, e_hasThing s3, e_isThing s5', hw, a1, a2, a3, e_bit (show j < 32 by omega), n_ib_nI (show j < 16 by omega) (show 16 < 2 ^ 31 by decide), n_ib_nI (show 28 + j < 100 by omega) (show 100 < 2 ^ 31 by decide), n_ib_nI (show 44 + j < 100 by omega) (show 100 < 2 ^ 31 by decide), n_ib_nI (show 60 + j < 100 by omega) (show 100 < 2 ^ 31 by decide), nI_clamp (show j < 2 ^ 31 by omega), nI_clamp (show 28 + j < 2 ^ 31 by omega), nI_clamp (show 44 + j < 2 ^ 31 by omega), nI_clamp (show 60 + j < 2 ^ 31 by omega), wp_bind, wp_some, wp_chk, ↓reduceIte, not_true_eq_false, not_false_eq_true, z10, z01, zm0, z0m, zm1, z1m, true_and, and_true, cb_t, cb_f, cb0, cb1, eq_self, Bool.false_eq_true, Bool.true_eq_false, reduceCtorEq]
      exact ⟨m2 j (by omega), n, q, h⟩
    by_cases h4 : y = 4
    · subst h4
      simp only [h0, h1, h2, h3, e_hasThing s3, e_isThing s5', hw, a1, a2, a3, e_bit (show j < 32 by omega), n_ib_nI (show j < 16 by omega) (show 16 < 2 ^ 31 by decide), n_ib_nI (show 28 + j < 100 by omega) (show 100 < 2 ^ 31 by decide), n_ib_nI (show 44 + j < 100 by omega) (show 100 < 2 ^ 31 by decide), n_ib_nI (show 60 + j < 100 by omega) (show 100 < 2 ^ 31 by decide), nI_clamp (show j < 2 ^ 31 by omega), nI_clamp (show 28 + j < 2 ^ 31 by omega), nI_clamp (show 44 + j < 2 ^ 31 by omega), nI_clamp (show 60 + j < 2 ^ 31 by omega), wp_bind, wp_some, wp_chk, ↓reduceIte, not_true_eq_false, not_false_eq_true, z10, z01, zm0, z0m, zm1, z1m, true_and, and_true, cb_t, cb_f, cb0, cb1, eq_self, Bool.false_eq_true, Bool.true_eq_false, reduceCtorEq]
      exact ⟨r_bits_g (t := j) m5 (by omega), n, q, h⟩
    · simp only [h0, h1, h2, h3, h4, e_hasThing s3, e_isThing s5', hw, a1, a2, a3, e_bit (show j < 32 by omega), n_ib_nI (show j < 16 by omega) (show 16 < 2 ^ 31 by decide), n_ib_nI (show 28 + j < 100 by omega) (show 100 < 2 ^ 31 by decide), n_ib_nI (show 44 + j < 100 by omega) (show 100 < 2 ^ 31 by decide), n_ib_nI (show 60 + j < 100 by omega) (show 100 < 2 ^ 31 by decide), nI_clamp (show j < 2 ^ 31 by omega), nI_clamp (show 28 + j < 2 ^ 31 by omega), nI_clamp (show 44 + j < 2 ^ 31 by omega), nI_clamp (show 60 + j < 2 ^ 31 by omega), wp_bind, wp_some, wp_chk, ↓reduceIte, not_true_eq_false, not_false_eq_true, z10, z01, zm0, z0m, zm1, z1m, true_and, and_true, cb_t, cb_f, cb0, cb1, eq_self, Bool.false_eq_true, Bool.true_eq_false, reduceCtorEq]
      exact ⟨n, q, h⟩
theorem st_place {G : nG} {M : nM} {n q N : Nat} (hN : 1000 ≤ N) (hG : n_GOK G) (h : Rel G M n q) (x y : Int32) : Stq G (fX11_place N G x y) (fX12_place N x y) M := by
  obtain ⟨⟨hst, hmv, hbk, hlw, hsp, hcu, hli, hsw, hpk, hbx, hky, hcl, hsh, hrw, hgf, hmi⟩, hpr, hrd, hck, hwd, him⟩ := id h
  obtain ⟨⟨s1, s2⟩, ⟨s3, s4⟩, ⟨s5, s6⟩, s7, s8, s9, s10, s11⟩ := hst
  obtain ⟨m1, m2, m3, m4, m5, m6, m7, m8, m9, m10, m11⟩ := hmv
  unfold Stq fX11_place fX12_place
  have s5' : n_up M 107 0 0 107 6 = nI n := s5
  cases hw : wn x 12 with
  | false =>
    simp only [e_hasPlace, e_isPlace, hw, wp_bind, wp_some, wp_chk, ↓reduceIte, not_true_eq_false, not_false_eq_true, z10, z01, zm0, z0m, zm1, z1m, true_and, and_true, cb_t, cb_f, cb0, cb1, eq_self, Bool.false_eq_true, Bool.true_eq_false, reduceCtorEq]
    exact ⟨n, q, h⟩
  | true =>
    obtain ⟨j, hj, rfl⟩ := wn_t (by omega) hw
    have a1 : (4 : Int32) + nI j = nI (4 + j) := nI_add 4 j
    have a2 : (16 : Int32) + nI j = nI (16 + j) := nI_add 16 j
    by_cases h0 : y = 0
    · simp only [h0, e_hasPlace, e_isPlace, hw, a1, a2, e_bit (show j < 32 by omega), n_ib_nI (show j < 12 by omega) (show 12 < 2 ^ 31 by decide), n_ib_nI (show 4 + j < 100 by omega) (show 100 < 2 ^ 31 by decide), n_ib_nI (show 16 + j < 100 by omega) (show 100 < 2 ^ 31 by decide), nI_clamp (show j < 2 ^ 31 by omega), nI_clamp (show 4 + j < 2 ^ 31 by omega), nI_clamp (show 16 + j < 2 ^ 31 by omega), fX12_roomOf, wp_bind, wp_some, wp_chk, ↓reduceIte, not_true_eq_false, not_false_eq_true, z10, z01, zm0, z0m, zm1, z1m, true_and, and_true, cb_t, cb_f, cb0, cb1, eq_self, Bool.false_eq_true, Bool.true_eq_false, reduceCtorEq]
      exact ⟨s7 j (by omega), n, q, h⟩
    by_cases h1 : y = 1
    · simp only [h1, e_hasPlace, e_isPlace, hw, a1, a2, e_bit (show j < 32 by omega), n_ib_nI (show j < 12 by omega) (show 12 < 2 ^ 31 by decide), n_ib_nI (show 4 + j < 100 by omega) (show 100 < 2 ^ 31 by decide), n_ib_nI (show 16 + j < 100 by omega) (show 100 < 2 ^ 31 by decide), nI_clamp (show j < 2 ^ 31 by omega), nI_clamp (show 4 + j < 2 ^ 31 by omega), nI_clamp (show 16 + j < 2 ^ 31 by omega), fX12_roomOf, wp_bind, wp_some, wp_chk, ↓reduceIte, not_true_eq_false, not_false_eq_true, z10, z01, zm0, z0m, zm1, z1m, true_and, and_true, cb_t, cb_f, cb0, cb1, eq_self, Bool.false_eq_true, Bool.true_eq_false, reduceCtorEq]
      exact ⟨r_bits_g (t := j) m7 (by omega), n, q, h⟩
    by_cases h2 : y = 2
    · subst h2
      simp only [h0, h1, e_hasPlace, e_isPlace, hw, a1, a2, e_bit (show j < 32 by omega), n_ib_nI (show j < 12 by omega) (show 12 < 2 ^ 31 by decide), n_ib_nI (show 4 + j < 100 by omega) (show 100 < 2 ^ 31 by decide), n_ib_nI (show 16 + j < 100 by omega) (show 100 < 2 ^ 31 by decide), nI_clamp (show j < 2 ^ 31 by omega), nI_clamp (show 4 + j < 2 ^ 31 by omega), nI_clamp (show 16 + j < 2 ^ 31 by omega), fX12_roomOf, wp_bind, wp_some, wp_chk, ↓reduceIte, not_true_eq_false, not_false_eq_true, z10, z01, zm0, z0m, zm1, z1m, true_and, and_true, cb_t, cb_f, cb0, cb1, eq_self, Bool.false_eq_true, Bool.true_eq_false, reduceCtorEq]
      exact ⟨m4 j (by omega), n, q, h⟩
    by_cases h3 : y = 3
    · subst h3
      simp only [h0, h1, h2, e_hasPlace, e_isPlace, hw, a1, a2, e_bit (show j < 32 by omega), n_ib_nI (show j < 12 by omega) (show 12 < 2 ^ 31 by decide), n_ib_nI (show 4 + j < 100 by omega) (show 100 < 2 ^ 31 by decide), n_ib_nI (show 16 + j < 100 by omega) (show 100 < 2 ^ 31 by decide), nI_clamp (show j < 2 ^ 31 by omega), nI_clamp (show 4 + j < 2 ^ 31 by omega), nI_clamp (show 16 + j < 2 ^ 31 by omega), fX12_roomOf, e_fullOf_c hN (gk9 hG) (gm9_1 hG) (gk10 hG) (gl10 hG) s3 s1, e_fullOf_m hN s5' s1, wp_bind, wp_some, wp_chk, ↓reduceIte, not_true_eq_false, not_false_eq_true, z10, z01, zm0, z0m, zm1, z1m, true_and, and_true, cb_t, cb_f, cb0, cb1, eq_self, Bool.false_eq_true, Bool.true_eq_false, reduceCtorEq]
      exact ⟨p_full_c (fun i hi => m1.1 i (by omega)) (fun i hi => s8 i (by omega)), n, q, h⟩
    by_cases h4 : y = 4
    · subst h4
      have f1 : fX0_thingsIn N (nI j) M = some (p_in n (M 10) (nI j), M) := e_in_c s3 s1 (nI j) n 0 N (by omega) (by omega)
      have f2 : fX12_thingsIn N (nI j) (n_up M 107 0 0) = some (p_in n (fun t => M 108 (28 + t)) (nI j), n_up M 107 0 0) := e_in_m s5' s1 (nI j) n 0 N (by omega) (by omega)
      simp only [h0, h1, h2, h3, e_hasPlace, e_isPlace, hw, a1, a2, e_bit (show j < 32 by omega), n_ib_nI (show j < 12 by omega) (show 12 < 2 ^ 31 by decide), n_ib_nI (show 4 + j < 100 by omega) (show 100 < 2 ^ 31 by decide), n_ib_nI (show 16 + j < 100 by omega) (show 100 < 2 ^ 31 by decide), nI_clamp (show j < 2 ^ 31 by omega), nI_clamp (show 4 + j < 2 ^ 31 by omega), nI_clamp (show 16 + j < 2 ^ 31 by omega), fX12_roomOf, f1, f2, wp_bind, wp_some, wp_chk, ↓reduceIte, not_true_eq_false, not_false_eq_true, z10, z01, zm0, z0m, zm1, z1m, true_and, and_true, cb_t, cb_f, cb0, cb1, eq_self, Bool.false_eq_true, Bool.true_eq_false, reduceCtorEq]
      exact ⟨p_in_c (fun i hi => m1.1 i (by omega)), n, q, h⟩
    · simp only [h0, h1, h2, h3, h4, e_hasPlace, e_isPlace, hw, a1, a2, e_bit (show j < 32 by omega), n_ib_nI (show j < 12 by omega) (show 12 < 2 ^ 31 by decide), n_ib_nI (show 4 + j < 100 by omega) (show 100 < 2 ^ 31 by decide), n_ib_nI (show 16 + j < 100 by omega) (show 100 < 2 ^ 31 by decide), nI_clamp (show j < 2 ^ 31 by omega), nI_clamp (show 4 + j < 2 ^ 31 by omega), nI_clamp (show 16 + j < 2 ^ 31 by omega), fX12_roomOf, wp_bind, wp_some, wp_chk, ↓reduceIte, not_true_eq_false, not_false_eq_true, z10, z01, zm0, z0m, zm1, z1m, true_and, and_true, cb_t, cb_f, cb0, cb1, eq_self, Bool.false_eq_true, Bool.true_eq_false, reduceCtorEq]
      exact ⟨n, q, h⟩
theorem st_look {G : nG} {M : nM} {n q N : Nat} (hN : 1000 ≤ N) (h : Rel G M n q) (y : Int32) : Stq G (fX11_look y) (fX12_look N y) M := by
  obtain ⟨⟨hst, hmv, hbk, hlw, hsp, hcu, hli, hsw, hpk, hbx, hky, hcl, hsh, hrw, hgf, hmi⟩, hpr, hrd, hck, hwd, him⟩ := id h
  obtain ⟨⟨s1, s2⟩, ⟨s3, s4⟩, ⟨s5, s6⟩, s7, s8, s9, s10, s11⟩ := hst
  obtain ⟨m1, m2, m3, m4, m5, m6, m7, m8, m9, m10, m11⟩ := hmv
  obtain ⟨ls, l1, l2, l3, l4⟩ := hlw
  obtain ⟨k1, q1, q2, q3, q4⟩ := hsp
  obtain ⟨k2, c1, c2, c3, c4⟩ := hcu
  obtain ⟨ps, i1, i2, i3, i4⟩ := hli
  obtain ⟨k, z, p1, p2, p3, p4, p5, p6⟩ := hpr
  have f1 : fX12_setOf N (4 : Int32) (12 : Int32) (n_up M 107 0 0) = some (p_in 12 (fun t => M 108 (4 + t)) 1, n_up M 107 0 0) := e_setOf (M := n_up M 107 0 0) (k := 4) (n := 12) (by decide) (by decide) 12 0 N (by omega) (by omega)
  have f2 : fX12_setOf N (60 : Int32) (nI n) (n_up M 107 0 0) = some (p_in n (fun t => M 108 (60 + t)) 1, n_up M 107 0 0) := e_setOf (M := n_up M 107 0 0) (k := 60) (n := n) (by omega) (by omega) n 0 N (by omega) (by omega)
  have s5' : n_up M 107 0 0 107 6 = nI n := s5
  unfold Stq fX11_look fX12_look
  by_cases h0 : y = 0
  · simp only [h0, wp_bind, wp_some, wp_chk, ↓reduceIte, not_true_eq_false, not_false_eq_true, z10, z01, zm0, z0m, zm1, z1m, true_and, and_true, cb_t, cb_f, cb0, cb1, eq_self, Bool.false_eq_true, Bool.true_eq_false, reduceCtorEq]
    exact ⟨s3.trans s5.symm, n, q, h⟩
  by_cases h1 : y = 1
  · simp only [h1, wp_bind, wp_some, wp_chk, ↓reduceIte, not_true_eq_false, not_false_eq_true, z10, z01, zm0, z0m, zm1, z1m, true_and, and_true, cb_t, cb_f, cb0, cb1, eq_self, Bool.false_eq_true, Bool.true_eq_false, reduceCtorEq]
    exact ⟨s4.trans s6.symm, n, q, h⟩
  by_cases h2 : y = 2
  · subst h2
    simp only [h0, h1, wp_bind, wp_some, wp_chk, ↓reduceIte, not_true_eq_false, not_false_eq_true, z10, z01, zm0, z0m, zm1, z1m, true_and, and_true, cb_t, cb_f, cb0, cb1, eq_self, Bool.false_eq_true, Bool.true_eq_false, reduceCtorEq]
    exact ⟨by decide, m8, n, q, h⟩
  by_cases h3 : y = 3
  · subst h3
    simp only [h0, h1, h2, s5', f2, wp_bind, wp_some, wp_chk, ↓reduceIte, not_true_eq_false, not_false_eq_true, z10, z01, zm0, z0m, zm1, z1m, true_and, and_true, cb_t, cb_f, cb0, cb1, eq_self, Bool.false_eq_true, Bool.true_eq_false, reduceCtorEq]
    exact ⟨r_bits_in m5 (by decide) (Nat.le_refl _) s1, n, q, h⟩
  by_cases h4 : y = 4
  · subst h4
    simp only [h0, h1, h2, h3, f1, wp_bind, wp_some, wp_chk, ↓reduceIte, not_true_eq_false, not_false_eq_true, z10, z01, zm0, z0m, zm1, z1m, true_and, and_true, cb_t, cb_f, cb0, cb1, eq_self, Bool.false_eq_true, Bool.true_eq_false, reduceCtorEq]
    exact ⟨r_bits_in m7 (by decide) (Nat.le_refl _) (Nat.le_refl _), n, q, h⟩
  by_cases h5 : y = 5
  · subst h5
    simp only [h0, h1, h2, h3, h4, wp_bind, wp_some, wp_chk, ↓reduceIte, not_true_eq_false, not_false_eq_true, z10, z01, zm0, z0m, zm1, z1m, true_and, and_true, cb_t, cb_f, cb0, cb1, eq_self, Bool.false_eq_true, Bool.true_eq_false, reduceCtorEq]
    exact ⟨by decide, m9, n, q, h⟩
  by_cases h6 : y = 6
  · subst h6
    simp only [h0, h1, h2, h3, h4, h5, wp_bind, wp_some, wp_chk, ↓reduceIte, not_true_eq_false, not_false_eq_true, z10, z01, zm0, z0m, zm1, z1m, true_and, and_true, cb_t, cb_f, cb0, cb1, eq_self, Bool.false_eq_true, Bool.true_eq_false, reduceCtorEq]
    exact ⟨by decide, m11.1, n, q, h⟩
  by_cases h7 : y = 7
  · subst h7
    simp only [h0, h1, h2, h3, h4, h5, h6, wp_bind, wp_some, wp_chk, ↓reduceIte, not_true_eq_false, not_false_eq_true, z10, z01, zm0, z0m, zm1, z1m, true_and, and_true, cb_t, cb_f, cb0, cb1, eq_self, Bool.false_eq_true, Bool.true_eq_false, reduceCtorEq]
    exact ⟨by decide, m10, n, q, h⟩
  by_cases h8 : y = 8
  · subst h8
    simp only [h0, h1, h2, h3, h4, h5, h6, h7, wp_bind, wp_some, wp_chk, ↓reduceIte, not_true_eq_false, not_false_eq_true, z10, z01, zm0, z0m, zm1, z1m, true_and, and_true, cb_t, cb_f, cb0, cb1, eq_self, Bool.false_eq_true, Bool.true_eq_false, reduceCtorEq]
    exact ⟨by decide, l2.trans l3.symm, n, q, h⟩
  by_cases h9 : y = 9
  · subst h9
    simp only [h0, h1, h2, h3, h4, h5, h6, h7, h8, wp_bind, wp_some, wp_chk, ↓reduceIte, not_true_eq_false, not_false_eq_true, z10, z01, zm0, z0m, zm1, z1m, true_and, and_true, cb_t, cb_f, cb0, cb1, eq_self, Bool.false_eq_true, Bool.true_eq_false, reduceCtorEq]
    exact ⟨q2.trans q3.symm, n, q, h⟩
  by_cases h10 : y = 10
  · subst h10
    simp only [h0, h1, h2, h3, h4, h5, h6, h7, h8, h9, wp_bind, wp_some, wp_chk, ↓reduceIte, not_true_eq_false, not_false_eq_true, z10, z01, zm0, z0m, zm1, z1m, true_and, and_true, cb_t, cb_f, cb0, cb1, eq_self, Bool.false_eq_true, Bool.true_eq_false, reduceCtorEq]
    exact ⟨c2.trans c3.symm, n, q, h⟩
  by_cases h11 : y = 11
  · subst h11
    simp only [h0, h1, h2, h3, h4, h5, h6, h7, h8, h9, h10, wp_bind, wp_some, wp_chk, ↓reduceIte, not_true_eq_false, not_false_eq_true, z10, z01, zm0, z0m, zm1, z1m, true_and, and_true, cb_t, cb_f, cb0, cb1, eq_self, Bool.false_eq_true, Bool.true_eq_false, reduceCtorEq]
    exact ⟨i2.trans i3.symm, n, q, h⟩
  by_cases h12 : y = 12
  · subst h12
    simp only [h0, h1, h2, h3, h4, h5, h6, h7, h8, h9, h10, h11, wp_bind, wp_some, wp_chk, ↓reduceIte, not_true_eq_false, not_false_eq_true, z10, z01, zm0, z0m, zm1, z1m, true_and, and_true, cb_t, cb_f, cb0, cb1, eq_self, Bool.false_eq_true, Bool.true_eq_false, reduceCtorEq]
    exact ⟨p3.trans p5.symm, n, q, h⟩
  · simp only [h0, h1, h2, h3, h4, h5, h6, h7, h8, h9, h10, h11, h12, wp_bind, wp_some, wp_chk, ↓reduceIte, not_true_eq_false, not_false_eq_true, z10, z01, zm0, z0m, zm1, z1m, true_and, and_true, cb_t, cb_f, cb0, cb1, eq_self, Bool.false_eq_true, Bool.true_eq_false, reduceCtorEq]
    exact ⟨n, q, h⟩
/-- a cell of a table -/
theorem e_cell {G : nG} {M : nM} {x0 c W H i j : Nat} (hk : n_kd G x0 = 7) (hm : n_mr G x0 0 = c) (hkc : n_kd G c = 14) (hl : n_len G c = H * W) (hw : r_wm (M x0 1) (M x0 2) W H) (hH : H * W < 1000) (hH2 : H < 1000) (hW2 : W < 1000) (hi : i < H) (hj : j < W) : fX7_cell G x0 (nI i) (nI j) M = some (M c (i * W + j), M) := by
  have hb : Nat.beq (n_kd G x0) 7 = true := by rw [hk]; rfl
  obtain ⟨h1, h2⟩ := hw
  have c0 : i * W + j < H * W := by
    have : (i + 1) * W ≤ H * W := Nat.mul_le_mul_right W hi
    rw [Nat.add_mul] at this
    omega
  have c1 : nI i * nI W + nI j = nI (i * W + j) := by rw [pk_mul, nI_add]
  have c4 : n_in G 14 c (nI (i * W + j)) = true := n_in_nI hkc hl c0 (by omega)
  unfold fX7_cell
  simp only [hb, h1, h2, hm, c1, c4, nI_pos (show i < 2 ^ 31 by omega), nI_pos (show j < 2 ^ 31 by omega), nI_ge hi (show H < 2 ^ 31 by omega), nI_lt hj (show W < 2 ^ 31 by omega), n_chk, nI_clamp (show i * W + j < 2 ^ 31 by omega), wp_bind, wp_some, wp_chk, ↓reduceIte, not_true_eq_false, not_false_eq_true, z10, z01, zm0, z0m, zm1, z1m, true_and, and_true, cb_t, cb_f, cb0, cb1, eq_self, Bool.false_eq_true, Bool.true_eq_false, reduceCtorEq]
theorem e_cellN {G : nG} {M : nM} {x0 W H : Nat} (hk : n_kd G x0 = 7) (hw : r_wm (M x0 1) (M x0 2) W H) (x y : Int32) (h : wn x H = false ∨ wn y W = false) : fX7_cell G x0 x y M = some (-1, M) := by
  have hb : Nat.beq (n_kd G x0) 7 = true := by rw [hk]; rfl
  obtain ⟨h1, h2⟩ := hw
  unfold wn at h
  unfold fX7_cell
  by_cases c1 : x < 0
  · simp only [c1, wp_bind, wp_some, wp_chk, ↓reduceIte, not_true_eq_false, not_false_eq_true, z10, z01, zm0, z0m, zm1, z1m, true_and, and_true, cb_t, cb_f, cb0, cb1, eq_self, Bool.false_eq_true, Bool.true_eq_false, reduceCtorEq]
  by_cases c2 : nI H ≤ x
  · simp only [c1, hb, h2, c2, n_chk, wp_bind, wp_some, wp_chk, ↓reduceIte, not_true_eq_false, not_false_eq_true, z10, z01, zm0, z0m, zm1, z1m, true_and, and_true, cb_t, cb_f, cb0, cb1, eq_self, Bool.false_eq_true, Bool.true_eq_false, reduceCtorEq]
  by_cases c3 : y < 0
  · simp only [c1, hb, h2, c2, c3, n_chk, wp_bind, wp_some, wp_chk, ↓reduceIte, not_true_eq_false, not_false_eq_true, z10, z01, zm0, z0m, zm1, z1m, true_and, and_true, cb_t, cb_f, cb0, cb1, eq_self, Bool.false_eq_true, Bool.true_eq_false, reduceCtorEq]
  by_cases c4 : nI W ≤ y
  · have c5 : ¬ y < nI W := Int32.not_lt.mpr c4
    simp only [c1, hb, h1, h2, c2, c3, c5, n_chk, wp_bind, wp_some, wp_chk, ↓reduceIte, not_true_eq_false, not_false_eq_true, z10, z01, zm0, z0m, zm1, z1m, true_and, and_true, cb_t, cb_f, cb0, cb1, eq_self, Bool.false_eq_true, Bool.true_eq_false, reduceCtorEq]
  · exfalso
    simp [c1, c2, c3, c4] at h
theorem st_book {G : nG} {M : nM} {n q : Nat} (hG : n_GOK G) (h : Rel G M n q) (x y : Int32) : Stq G (fX11_book G x y) (fX12_book x y) M := by
  obtain ⟨⟨hst, hmv, hbk, hlw, hsp, hcu, hli, hsw, hpk, hbx, hky, hcl, hsh, hrw, hgf, hmi⟩, hpr, hrd, hck, hwd, him⟩ := id h
  obtain ⟨m1, m2, m3, m4, m5, m6, m7, m8, m9, m10, m11, k, m12, m13⟩ := hmv
  have hwm : r_wm (M 14 1) (M 14 2) 4 150 := hck.2.2.1
  have e0 : n_up M 107 0 0 108 2 = nI k := m11.symm.trans m13
  have e1 : (2 : Int32).toNatClampNeg = 2 := by decide
  have e2 : n_ib 100 (2 : Int32) = true := by decide
  unfold Stq fX11_book fX12_book
  by_cases c0 : x < 0
  · have w1 : ∀ z, wi x 0 z = false := fun z => by unfold wi; simp [c0]
    have w2 : wn x 150 = false := by unfold wn; simp [c0]
    have c2 : ¬ nI k ≤ x := fun g => absurd (Int32.lt_of_le_of_lt g c0) (nI_pos (by omega))
    simp only [m13, e0, e1, e2, e_isIn, w1, c2, e_cellN (gk14 hG) hwm x y (Or.inl w2), wp_bind, wp_some, wp_chk, ↓reduceIte, not_true_eq_false, not_false_eq_true, z10, z01, zm0, z0m, zm1, z1m, true_and, and_true, cb_t, cb_f, cb0, cb1, eq_self, Bool.false_eq_true, Bool.true_eq_false, reduceCtorEq]
    exact ⟨n, q, h⟩
  · obtain ⟨j, hj, rfl⟩ := nI_of c0
    by_cases c1 : k ≤ j
    · have w1 : wi (nI j) 0 (nI k - 1) = false := by
        have : nI k - 1 < nI j := by
          rw [Int32.lt_iff_toInt_lt, nI_toInt hj, show (1 : Int32) = nI 1 from rfl, pk_sub_toInt (by omega) (by omega)]
          omega
        unfold wi
        simp [this]
      simp only [m13, e0, e1, e2, e_isIn, w1, nI_le c1 hj, wp_bind, wp_some, wp_chk, ↓reduceIte, not_true_eq_false, not_false_eq_true, z10, z01, zm0, z0m, zm1, z1m, true_and, and_true, cb_t, cb_f, cb0, cb1, eq_self, Bool.false_eq_true, Bool.true_eq_false, reduceCtorEq]
      exact ⟨n, q, h⟩
    · have w1 : wi (nI j) 0 (nI k - 1) = true := by
        have : ¬ nI k - 1 < nI j := by
          rw [Int32.lt_iff_toInt_lt, nI_toInt hj, show (1 : Int32) = nI 1 from rfl, pk_sub_toInt (by omega) (by omega)]
          omega
        unfold wi
        simp [this, c0]
      cases hw : wn y 4 with
      | false =>
        simp only [m13, e0, e1, e2, e_isIn, w1, nI_ge (show j < k by omega) (show k < 2 ^ 31 by omega), e_cellN (gk14 hG) hwm (nI j) y (Or.inr hw), wi_wn y 4 3 (by decide) (by decide), hw, wp_bind, wp_some, wp_chk, ↓reduceIte, not_true_eq_false, not_false_eq_true, z10, z01, zm0, z0m, zm1, z1m, true_and, and_true, cb_t, cb_f, cb0, cb1, eq_self, Bool.false_eq_true, Bool.true_eq_false, reduceCtorEq]
        exact ⟨n, q, h⟩
      | true =>
        obtain ⟨v, hv, rfl⟩ := wn_t (by decide) hw
        have a1 : (4 : Int32) * nI j + nI v = nI (j * 4 + v) := by rw [show (4 : Int32) = nI 4 from rfl, pk_mul, nI_add, Nat.mul_comm]
        simp only [m13, e0, e1, e2, e_isIn, w1, nI_ge (show j < k by omega) (show k < 2 ^ 31 by omega), e_cell (W := 4) (H := 150) (gk14 hG) (gm14_0 hG) (gk15 hG) (gl15 hG) hwm (by decide) (by decide) (by decide) (show j < 150 by omega) hv, wi_wn (nI v) 4 3 (by decide) (by decide), hw, a1, n_ib_nI (show j * 4 + v < 600 by omega) (show 600 < 2 ^ 31 by decide), nI_clamp (show j * 4 + v < 2 ^ 31 by omega), wp_bind, wp_some, wp_chk, ↓reduceIte, not_true_eq_false, not_false_eq_true, z10, z01, zm0, z0m, zm1, z1m, true_and, and_true, cb_t, cb_f, cb0, cb1, eq_self, Bool.false_eq_true, Bool.true_eq_false, reduceCtorEq]
        exact ⟨hbk (j * 4 + v) (by omega), n, q, h⟩
