/-! ===== the plain methods, class and model side by side ===== -/
theorem c_lit (k : Nat) : (OfNat.ofNat k : Int32) = nI k := rfl
theorem z10 : ((1 : Int32) = 0) = False := eq_false (by decide)
theorem z01 : ((0 : Int32) = 1) = False := eq_false (by decide)
theorem zm0 : ((-1 : Int32) = 0) = False := eq_false (by decide)
theorem z0m : ((0 : Int32) = -1) = False := eq_false (by decide)
theorem zm1 : ((-1 : Int32) = 1) = False := eq_false (by decide)
theorem z1m : ((1 : Int32) = -1) = False := eq_false (by decide)
/-- a boolean as an int -/
def cb (b : Bool) : Int32 := match b with
  | true => 1
  | false => 0
theorem cb_t : cb true = 1 := rfl
theorem cb_f : cb false = 0 := rfl
theorem cb0 (b : Bool) : (cb b = 0) = (b = false) := by cases b <;> decide
theorem cb1 (b : Bool) : (cb b = 1) = (b = true) := by cases b <;> decide
def wi (x lo hi : Int32) : Bool := !decide (x < lo) && !decide (hi < x)
theorem wi_t {x lo hi : Int32} (h : wi x lo hi = true) : ¬ x < lo ∧ ¬ hi < x := by
  unfold wi at h
  simpa using h
theorem wi_nI {x hi : Int32} {n : Nat} (hn : hi.toInt = n) (h : wi x 0 hi = true) : ∃ j : Nat, j ≤ n ∧ x = nI j := nI_of2 hn (wi_t h).1 (Int32.not_lt.mp (wi_t h).2)
theorem wi_nI1 {x hi : Int32} {n : Nat} (hn : hi.toInt = n) (h : wi x 1 hi = true) : ∃ j : Nat, 1 ≤ j ∧ j ≤ n ∧ x = nI j := by
  have h0 : ¬ x < 0 := fun g => (wi_t h).1 (Int32.lt_trans g (by decide))
  obtain ⟨j, hj, e⟩ := nI_of2 hn h0 (Int32.not_lt.mp (wi_t h).2)
  refine ⟨j, ?_, hj, e⟩
  rcases Nat.eq_zero_or_pos j with h1 | h1
  · exfalso
    subst h1
    rw [e] at h
    exact (wi_t h).1 (by decide)
  · exact h1
/-- below n, and not below 0 -/
def wn (x : Int32) (n : Nat) : Bool := !decide (x < 0) && !decide (nI n ≤ x)
theorem wn_t {x : Int32} {n : Nat} (hn : n < 2 ^ 31) (h : wn x n = true) : ∃ j : Nat, j < n ∧ x = nI j := by
  unfold wn at h
  simp only [Bool.and_eq_true, Bool.not_eq_true', decide_eq_false_iff_not] at h
  rcases pk_ix x hn with hx | hx | hx
  · exact absurd hx h.1
  · exact absurd hx h.2
  · exact hx
theorem wn_nI {j n : Nat} (hj : j < n) (hn : n < 2 ^ 31) : wn (nI j) n = true := by
  unfold wn
  have h1 : ¬ nI j < 0 := nI_pos (by omega)
  have h2 : ¬ nI n ≤ nI j := nI_ge hj hn
  simp only [h1, h2, decide_false, Bool.not_false, Bool.and_self]
theorem e_within (x lo hi : Int32) (M : nM) : fX11_within x lo hi M = some (cb (wi x lo hi), M) := by
  unfold fX11_within wi
  by_cases h1 : x < lo
  · simp only [h1, ↓reduceIte, decide_true, Bool.not_true, Bool.false_and, cb_f]
  · by_cases h2 : hi < x
    · simp only [h1, h2, ↓reduceIte, decide_true, decide_false, Bool.not_true, Bool.not_false, Bool.and_false, cb_f]
    · simp only [h1, h2, ↓reduceIte, decide_false, Bool.not_false, Bool.and_self, cb_t]
theorem e_isIn (x lo hi : Int32) (M : nM) : fX12_isIn x lo hi M = some (cb (wi x lo hi), M) := e_within x lo hi M
theorem e_lt (x : Int32) (a b : Int32) (h : a.toInt + 1 = b.toInt) : (b ≤ x) ↔ a < x := by
  rw [Int32.le_iff_toInt_le, Int32.lt_iff_toInt_lt]
  omega
theorem e_wn (x : Int32) (n : Nat) (M : nM) : (if x < 0 then some ((0 : Int32), M) else if nI n ≤ x then some ((0 : Int32), M) else some ((1 : Int32), M)) = some (cb (wn x n), M) := by
  unfold wn
  by_cases h1 : x < 0
  · simp only [h1, ↓reduceIte, decide_true, Bool.not_true, Bool.false_and, cb_f]
  · by_cases h2 : nI n ≤ x
    · simp only [h1, h2, ↓reduceIte, decide_true, decide_false, Bool.not_true, Bool.not_false, Bool.and_false, cb_f]
    · simp only [h1, h2, ↓reduceIte, decide_false, Bool.not_false, Bool.and_self, cb_t]
theorem e_hasPlace (x : Int32) (M : nM) : fX1_hasPlace x M = some (cb (wn x 12), M) := e_wn x 12 M
theorem e_isPlace (x : Int32) (M : nM) : fX12_isPlace x M = some (cb (wn x 12), M) := e_wn x 12 M
theorem e_hasThing {M : nM} {n : Nat} (h : M 3 5 = nI n) (x : Int32) : fX1_hasThing x M = some (cb (wn x n), M) := by
  unfold fX1_hasThing
  rw [h]
  exact e_wn x n M
theorem e_hasPerson {M : nM} {n : Nat} (h : M 3 6 = nI n) (x : Int32) : fX1_hasPerson x M = some (cb (wn x n), M) := by
  unfold fX1_hasPerson
  rw [h]
  exact e_wn x n M
theorem e_isThing {M : nM} {n : Nat} (h : M 107 6 = nI n) (x : Int32) : fX12_isThing x M = some (cb (wn x n), M) := by
  unfold fX12_isThing
  rw [h]
  exact e_wn x n M
theorem e_isPerson {M : nM} {n : Nat} (h : M 107 7 = nI n) (x : Int32) : fX12_isPerson x M = some (cb (wn x n), M) := by
  unfold fX12_isPerson
  rw [h]
  exact e_wn x n M
theorem n_in_nI {G : nG} {a j L : Nat} (hk : n_kd G a = 14) (hl : n_len G a = L) (h : j < L) (hL : L < 2 ^ 31) : n_in G 14 a (nI j) = true := by
  have := n_ib_nI h hL
  unfold n_ib at this
  unfold n_in
  rw [hk, hl, this]
  rfl
theorem st_state {G : nG} {M : nM} {n q : Nat} (h : Rel G M n q) (x : Int32) : Stq G (fX11_state x) (fX12_state x) M := by
  obtain ⟨⟨hst, hmv, hbk, hlw, hsp, hcu, hli, hsw, hpk, hbx, hky, hcl, hsh, hrw, hgf, hmi⟩, hpr, hrd, hck, hwd, him⟩ := h
  obtain ⟨m1, m2, m3, m4, m5, m6, m7, m8, m9, m10, m11⟩ := hmv
  obtain ⟨k, y, p1, p2, p3, p4, p5, p6⟩ := hpr
  unfold Stq fX11_state fX12_state fX5_forget
  simp only [wp_bind, wp_some, wp_chk]
  refine ⟨rfl, rfl, m10, n, q, ⟨hst, ?_, hbk, hlw, hsp, hcu, hli, hsw, hpk, hbx, hky, hcl, hsh, hrw, hgf, hmi⟩, ⟨0, y, by omega, p2, rfl, p4, rfl, fun j hj => absurd hj (by omega)⟩, hrd, hck, hwd, him⟩
  refine ⟨⟨fun t ht => ?_, m1.2⟩, fun t ht => ?_, ⟨fun t ht => ?_, m3.2⟩, fun t ht => ?_, ⟨fun t ht => ?_, m5.2⟩, ⟨fun t ht => ?_, m6.2⟩, ⟨fun t ht => ?_, m7.2⟩, m8, m9, rfl, m11⟩
  · show M 10 t = upd (M 108) 1 x (28 + t)
    rw [upd_ne (by omega)]
    exact m1.1 t ht
  · show M 11 t = upd (M 108) 1 x (44 + t)
    rw [upd_ne (by omega)]
    exact m2 t ht
  · show M 12 t = upd (M 108) 1 x (88 + t)
    rw [upd_ne (by omega)]
    exact m3.1 t ht
  · show M 13 t = upd (M 108) 1 x (16 + t)
    rw [upd_ne (by omega)]
    exact m4 t ht
  · show (_ ∧ upd (M 108) 1 x (60 + t) = 1) ∨ (_ ∧ upd (M 108) 1 x (60 + t) = 0)
    rw [upd_ne (by omega)]
    exact m5.1 t ht
  · show (_ ∧ upd (M 108) 1 x (76 + t) = 1) ∨ (_ ∧ upd (M 108) 1 x (76 + t) = 0)
    rw [upd_ne (by omega)]
    exact m6.1 t ht
  · show (_ ∧ upd (M 108) 1 x (4 + t) = 1) ∨ (_ ∧ upd (M 108) 1 x (4 + t) = 0)
    rw [upd_ne (by omega)]
    exact m7.1 t ht
theorem st_fault {G : nG} {M : nM} {n q : Nat} (h : Rel G M n q) (x : Int32) : Stq G (fX11_fault x) (fX12_fault x) M := by
  have hrd := h.2.2.1
  unfold Stq fX11_fault fX12_fault
  by_cases h0 : x = 0
  · simp only [h0, not_true_eq_false, ↓reduceIte, wp_some]
    exact ⟨hrd.2.1, n, q, h⟩
  · by_cases h1 : x = 1
    · simp only [z10, h1, not_true_eq_false, not_false_eq_true, ↓reduceIte, wp_some]
      exact ⟨hrd.2.2, n, q, h⟩
    · simp only [h0, h1, not_true_eq_false, not_false_eq_true, ↓reduceIte, wp_some]
      exact ⟨by first | trivial | rfl, n, q, h⟩
theorem st_end {G : nG} {M : nM} {n q : Nat} (h : Rel G M n q) (x : Int32) : Stq G (fX11_end x) (fX12_end x) M := by
  obtain ⟨hhr, hpr, ⟨⟨k, r1, r2, r3, r4⟩, hf1, hf2⟩, hck, hwd, him⟩ := id h
  unfold Stq fX11_end fX12_end fX12_isIn
  have e15 : n_up M 107 0 0 107 15 = nI k := r3
  by_cases h0 : x < 0
  · simp only [h0, ↓reduceIte, wp_some, Option.bind_some, not_true_eq_false]
    exact ⟨by first | trivial | rfl, n, q, h⟩
  · obtain ⟨j, hj, rfl⟩ := nI_of h0
    by_cases h1 : j ≤ k
    · have h2 : nI j ≤ nI k := nI_le h1 (by omega)
      have h3 : ¬ nI k < nI j := nI_nlt h1 (by omega)
      have e16 : n_up (n_up M 80 9 (nI j)) 107 0 0 107 15 = nI k := r3
      simp only [h0, r2, h2, h3, e16, ↓reduceIte, wp_some, Option.bind_some, not_true_eq_false, z10, not_false_eq_true]
      exact ⟨by first | trivial | rfl, n, q, hhr, hpr, ⟨⟨j, by omega, rfl, rfl, fun i hi => r4 i (by omega)⟩, hf1, hf2⟩, hck, hwd, him⟩
    · have h2 : ¬ nI j ≤ nI k := nI_ge (by omega) hj
      have h3 : nI k < nI j := nI_lt (by omega) hj
      simp only [h0, r2, h2, h3, e15, ↓reduceIte, wp_some, Option.bind_some, not_true_eq_false]
      exact ⟨by first | trivial | rfl, n, q, h⟩
theorem wi_wn (x : Int32) (n : Nat) (hi : Int32) (hn : n < 2 ^ 31) (h : hi.toInt + 1 = n) : wi x 0 hi = wn x n := by
  unfold wi wn
  have e : (nI n ≤ x) ↔ hi < x := e_lt x hi (nI n) (by rw [nI_toInt hn]; exact h)
  congr 2
  exact decide_eq_decide.mpr e.symm
/-- a cell changed, if it is there and the value may stand there -/
theorem e_cc {G : nG} {a L : Nat} (hk : n_kd G a = 14) (hl : n_len G a = L) (hL : L < 2 ^ 31) (x y lo hi : Int32) (M : nM) : fX11_changeCell G a x y lo hi M = if (wn x L && wi y lo hi) = true then some (1, n_up M a x.toNatClampNeg y) else some (0, M) := by
  have hb : Nat.beq (n_kd G a) 14 = true := by rw [hk]; rfl
  have e0 : Int32.ofNat (n_len G a) = nI L := by rw [hl]; rfl
  unfold fX11_changeCell
  cases hw : wn x L with
  | true =>
    obtain ⟨j, hj, rfl⟩ := wn_t hL hw
    have h0 : ¬ nI j < 0 := nI_pos (by omega)
    have h1 : ¬ nI L ≤ nI j := nI_ge hj hL
    have h4 := n_in_nI hk hl hj hL
    cases hv : wi y lo hi with
    | true => simp only [h0, hb, e0, h1, h4, hv, e_within, n_chk, Option.bind_some, Bool.and_self, wp_bind, wp_some, wp_chk, ↓reduceIte, not_true_eq_false, not_false_eq_true, z10, z01, zm0, z0m, zm1, z1m, true_and, and_true, cb_t, cb_f, cb0, cb1, eq_self, Bool.false_eq_true, Bool.true_eq_false, reduceCtorEq]
    | false => simp only [h0, hb, e0, h1, h4, hv, e_within, n_chk, Option.bind_some, Bool.and_false, wp_bind, wp_some, wp_chk, ↓reduceIte, not_true_eq_false, not_false_eq_true, z10, z01, zm0, z0m, zm1, z1m, true_and, and_true, cb_t, cb_f, cb0, cb1, eq_self, Bool.false_eq_true, Bool.true_eq_false, reduceCtorEq]
  | false =>
    unfold wn at hw
    by_cases h0 : x < 0
    · simp only [h0, Bool.false_and, wp_bind, wp_some, wp_chk, ↓reduceIte, not_true_eq_false, not_false_eq_true, z10, z01, zm0, z0m, zm1, z1m, true_and, and_true, cb_t, cb_f, cb0, cb1, eq_self, Bool.false_eq_true, Bool.true_eq_false, reduceCtorEq]
    · have h1 : nI L ≤ x := by
        by_cases h1 : nI L ≤ x
        · exact h1
        · simp only [h0, h1, decide_false, Bool.not_false, Bool.and_self, Bool.true_eq_false] at hw
      simp only [h0, hb, e0, h1, n_chk, Bool.false_and, wp_bind, wp_some, wp_chk, ↓reduceIte, not_true_eq_false, not_false_eq_true, z10, z01, zm0, z0m, zm1, z1m, true_and, and_true, cb_t, cb_f, cb0, cb1, eq_self, Bool.false_eq_true, Bool.true_eq_false, reduceCtorEq]
theorem st_gift {G : nG} {M : nM} {n q : Nat} (hG : n_GOK G) (h : Rel G M n q) (x y : Int32) : Stq G (fX11_gift G x y) (fX12_gift x y) M := by
  unfold Stq fX11_gift fX12_gift
  cases hw : wn x 12 with
  | true =>
    obtain ⟨j, hj, rfl⟩ := wn_t (by decide) hw
    have hb := n_ib_nI hj (by decide)
    cases hv : wi y 0 2 with
    | true =>
      obtain ⟨v, hv2, rfl⟩ := wi_nI (n := 2) (by decide) hv
      simp only [e_cc (gk43 hG) (gl43 hG) (show 12 < 2 ^ 31 by decide), e_isIn, wi_wn _ 12 11 (by decide) (by decide), hw, hv, hb, Bool.and_self, nI_clamp (show j < 2 ^ 31 by omega), wp_bind, wp_some, wp_chk, ↓reduceIte, not_true_eq_false, not_false_eq_true, z10, z01, zm0, z0m, zm1, z1m, true_and, and_true, cb_t, cb_f, cb0, cb1, eq_self, Bool.false_eq_true, Bool.true_eq_false, reduceCtorEq]
      refine ⟨by decide, n, q, ?_⟩
      obtain ⟨⟨hst, hmv, hbk, hlw, hsp, hcu, hli, hsw, hpk, hbx, hky, hcl, hsh, hrw, hgf, hmi⟩, hpr, hrd, hck, hwd, him⟩ := id h
      refine ⟨⟨hst, hmv, hbk, hlw, hsp, hcu, hli, hsw, hpk, hbx, hky, hcl, hsh, hrw, ?_, hmi⟩, hpr, hrd, hck, hwd, him⟩
      intro k hk
      show ∃ j' : Nat, j' ≤ 2 ∧ upd (M 43) j (nI v) k = nI j' ∧ upd (M 141) j (nI v - 2) k = nI j' - 2
      by_cases hjk : k = j
      · subst hjk
        exact ⟨v, hv2, upd_eq, upd_eq⟩
      · rw [upd_ne hjk, upd_ne hjk]
        exact hgf k hk
    | false =>
      simp only [e_cc (gk43 hG) (gl43 hG) (show 12 < 2 ^ 31 by decide), e_isIn, wi_wn _ 12 11 (by decide) (by decide), hw, hv, Bool.and_false, wp_bind, wp_some, wp_chk, ↓reduceIte, not_true_eq_false, not_false_eq_true, z10, z01, zm0, z0m, zm1, z1m, true_and, and_true, cb_t, cb_f, cb0, cb1, eq_self, Bool.false_eq_true, Bool.true_eq_false, reduceCtorEq]
      exact ⟨by decide, n, q, h⟩
  | false =>
    simp only [e_cc (gk43 hG) (gl43 hG) (show 12 < 2 ^ 31 by decide), e_isIn, wi_wn _ 12 11 (by decide) (by decide), hw, Bool.false_and, wp_bind, wp_some, wp_chk, ↓reduceIte, not_true_eq_false, not_false_eq_true, z10, z01, zm0, z0m, zm1, z1m, true_and, and_true, cb_t, cb_f, cb0, cb1, eq_self, Bool.false_eq_true, Bool.true_eq_false, reduceCtorEq]
    exact ⟨by decide, n, q, h⟩
theorem st_mirror {G : nG} {M : nM} {n q : Nat} (hG : n_GOK G) (h : Rel G M n q) (x y : Int32) : Stq G (fX11_mirror G x y) (fX12_mirror x y) M := by
  unfold Stq fX11_mirror fX12_mirror
  cases hw : wn x 36 with
  | true =>
    obtain ⟨j, hj, rfl⟩ := wn_t (by decide) hw
    have hb := n_ib_nI hj (by decide)
    cases hv : wi y 0 2 with
    | true =>
      obtain ⟨v, hv2, rfl⟩ := wi_nI (n := 2) (by decide) hv
      simp only [e_cc (gk44 hG) (gl44 hG) (show 36 < 2 ^ 31 by decide), e_isIn, wi_wn _ 36 35 (by decide) (by decide), hw, hv, hb, Bool.and_self, nI_clamp (show j < 2 ^ 31 by omega), wp_bind, wp_some, wp_chk, ↓reduceIte, not_true_eq_false, not_false_eq_true, z10, z01, zm0, z0m, zm1, z1m, true_and, and_true, cb_t, cb_f, cb0, cb1, eq_self, Bool.false_eq_true, Bool.true_eq_false, reduceCtorEq]
      refine ⟨by decide, n, q, ?_⟩
      obtain ⟨⟨hst, hmv, hbk, hlw, hsp, hcu, hli, hsw, hpk, hbx, hky, hcl, hsh, hrw, hgf, hmi⟩, hpr, hrd, hck, hwd, him⟩ := id h
      refine ⟨⟨hst, hmv, hbk, hlw, hsp, hcu, hli, hsw, hpk, hbx, hky, hcl, hsh, hrw, hgf, ?_⟩, hpr, hrd, hck, hwd, him⟩
      intro k hk
      show ∃ j' : Nat, j' ≤ 2 ∧ upd (M 44) j (nI v) k = nI j' ∧ upd (M 143) j (nI v) k = nI j'
      by_cases hjk : k = j
      · subst hjk
        exact ⟨v, hv2, upd_eq, upd_eq⟩
      · rw [upd_ne hjk, upd_ne hjk]
        exact hmi k hk
    | false =>
      simp only [e_cc (gk44 hG) (gl44 hG) (show 36 < 2 ^ 31 by decide), e_isIn, wi_wn _ 36 35 (by decide) (by decide), hw, hv, Bool.and_false, wp_bind, wp_some, wp_chk, ↓reduceIte, not_true_eq_false, not_false_eq_true, z10, z01, zm0, z0m, zm1, z1m, true_and, and_true, cb_t, cb_f, cb0, cb1, eq_self, Bool.false_eq_true, Bool.true_eq_false, reduceCtorEq]
      exact ⟨by decide, n, q, h⟩
  | false =>
    simp only [e_cc (gk44 hG) (gl44 hG) (show 36 < 2 ^ 31 by decide), e_isIn, wi_wn _ 36 35 (by decide) (by decide), hw, Bool.false_and, wp_bind, wp_some, wp_chk, ↓reduceIte, not_true_eq_false, not_false_eq_true, z10, z01, zm0, z0m, zm1, z1m, true_and, and_true, cb_t, cb_f, cb0, cb1, eq_self, Bool.false_eq_true, Bool.true_eq_false, reduceCtorEq]
    exact ⟨by decide, n, q, h⟩
