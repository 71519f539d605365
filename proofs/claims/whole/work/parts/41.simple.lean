/-! ===== the plain methods, class and model side by side ===== -/
theorem c_lit (k : Nat) : (OfNat.ofNat k : Int32) = nI k := rfl
theorem st_state {G : nG} {M : nM} {n q : Nat} (h : Rel G M n q) (x : Int32) : Stq G (fX11_state x) (fX12_state x) M := by
  obtain ⟨⟨hst, hmv, hbk, hlw, hsp, hcu, hli, hsw, hpk, hbx, hky, hcl, hsh, hrw, hgf, hmi⟩, hpr, hrd, hck, hwd, him⟩ := h
  obtain ⟨m1, m2, m3, m4, m5, m6, m7, m8, m9, m10, m11⟩ := hmv
  obtain ⟨k, y, p1, p2, p3, p4, p5, p6⟩ := hpr
  unfold Stq fX11_state fX12_state fX5_forget
  simp only [wp_bind, wp_some, wp_chk]
  refine ⟨rfl, rfl, m10, n, q, ⟨hst, ?_, hbk, hlw, hsp, hcu, hli, hsw, hpk, hbx, hky, hcl, hsh, hrw, hgf, hmi⟩, ⟨0, y, by omega, p2, rfl, p4, rfl, fun j hj => absurd hj (by omega)⟩, hrd, hck, hwd, him⟩
  refine ⟨⟨fun t ht => ?_, m1.2⟩, fun t ht => ?_, ⟨fun t ht => ?_, m3.2⟩, fun t ht => ?_, ⟨fun t ht => ?_, m5.2⟩, ⟨fun t ht => ?_, m6.2⟩, ⟨fun t ht => ?_, m7.2⟩, m8, m9, rfl, m11⟩
  · show M 10 t = upd (M 108) 1 x (28 + t)
    rw [upd_ne (by omega)]
    exact m1.1 t ht
  · show M 11 t = upd (M 108) 1 x (44 + t)
    rw [upd_ne (by omega)]
    exact m2 t ht
  · show M 12 t = upd (M 108) 1 x (88 + t)
    rw [upd_ne (by omega)]
    exact m3.1 t ht
  · show M 13 t = upd (M 108) 1 x (16 + t)
    rw [upd_ne (by omega)]
    exact m4 t ht
  · show (_ ∧ upd (M 108) 1 x (60 + t) = 1) ∨ (_ ∧ upd (M 108) 1 x (60 + t) = 0)
    rw [upd_ne (by omega)]
    exact m5.1 t ht
  · show (_ ∧ upd (M 108) 1 x (76 + t) = 1) ∨ (_ ∧ upd (M 108) 1 x (76 + t) = 0)
    rw [upd_ne (by omega)]
    exact m6.1 t ht
  · show (_ ∧ upd (M 108) 1 x (4 + t) = 1) ∨ (_ ∧ upd (M 108) 1 x (4 + t) = 0)
    rw [upd_ne (by omega)]
    exact m7.1 t ht
theorem st_fault {G : nG} {M : nM} {n q : Nat} (h : Rel G M n q) (x : Int32) : Stq G (fX11_fault x) (fX12_fault x) M := by
  have hrd := h.2.2.1
  unfold Stq fX11_fault fX12_fault
  by_cases h0 : x = 0
  · simp only [h0, not_true_eq_false, ↓reduceIte, wp_some]
    exact ⟨hrd.2.1, n, q, h⟩
  · by_cases h1 : x = 1
    · simp only [h0, h1, not_true_eq_false, not_false_eq_true, ↓reduceIte, wp_some]
      exact ⟨hrd.2.2, n, q, h⟩
    · simp only [h0, h1, not_true_eq_false, not_false_eq_true, ↓reduceIte, wp_some]
      exact ⟨rfl, n, q, h⟩
theorem st_end {G : nG} {M : nM} {n q : Nat} (h : Rel G M n q) (x : Int32) : Stq G (fX11_end x) (fX12_end x) M := by
  obtain ⟨hhr, hpr, ⟨⟨k, r1, r2, r3, r4⟩, hf1, hf2⟩, hck, hwd, him⟩ := id h
  unfold Stq fX11_end fX12_end fX12_isIn
  have e15 : n_up M 107 0 0 107 15 = nI k := r3
  by_cases h0 : x < 0
  · simp only [h0, ↓reduceIte, wp_some, Option.bind_some, not_true_eq_false]
    exact ⟨rfl, n, q, h⟩
  · obtain ⟨j, hj, rfl⟩ := nI_of h0
    by_cases h1 : j ≤ k
    · have h2 : nI j ≤ nI k := nI_le h1 (by omega)
      have h3 : ¬ nI k < nI j := nI_nlt h1 (by omega)
      have e16 : n_up (n_up M 80 9 (nI j)) 107 0 0 107 15 = nI k := r3
      simp only [h0, r2, h2, h3, e16, ↓reduceIte, wp_some, Option.bind_some, not_true_eq_false, Int32.reduceEq, not_false_eq_true]
      exact ⟨rfl, n, q, hhr, hpr, ⟨⟨j, by omega, rfl, rfl, fun i hi => r4 i (by omega)⟩, hf1, hf2⟩, hck, hwd, him⟩
    · have h2 : ¬ nI j ≤ nI k := nI_ge (by omega) hj
      have h3 : nI k < nI j := nI_lt (by omega) hj
      simp only [h0, r2, h2, h3, e15, ↓reduceIte, wp_some, Option.bind_some, not_true_eq_false]
      exact ⟨rfl, n, q, h⟩
theorem c_cc {G : nG} {M : nM} {a L : Nat} {lo hi y : Int32} (hk : n_kd G a = 14) (hl : n_len G a = L) (hL : L < 2 ^ 31) (x : Int32) : (∃ j, j < L ∧ x = nI j ∧ ¬ y < lo ∧ ¬ hi < y ∧ fX11_changeCell G a x y lo hi M = some (1, n_up M a j y)) ∨ ((x < 0 ∨ nI L ≤ x ∨ y < lo ∨ hi < y) ∧ fX11_changeCell G a x y lo hi M = some (0, M)) := by
  unfold fX11_changeCell fX11_within
  have hb : Nat.beq (n_kd G a) 14 = true := by rw [hk]; rfl
  rcases pk_ix x hL with hx | hx | ⟨j, hj, rfl⟩
  · refine Or.inr ⟨Or.inl hx, ?_⟩
    simp only [hx, ↓reduceIte]
  · by_cases h0 : x < 0
    · refine Or.inr ⟨Or.inl h0, ?_⟩
      simp only [h0, ↓reduceIte]
    · refine Or.inr ⟨Or.inr (Or.inl hx), ?_⟩
      have hx2 : Int32.ofNat (n_len G a) ≤ x := by rw [hl]; exact hx
      simp only [h0, hb, hx2, n_chk, ↓reduceIte]
  · have h0 : ¬ nI j < 0 := nI_pos (by omega)
    have h1 : ¬ Int32.ofNat (n_len G a) ≤ nI j := by rw [hl]; exact nI_ge hj hL
    by_cases h2 : y < lo
    · refine Or.inr ⟨Or.inr (Or.inr (Or.inl h2)), ?_⟩
      simp only [h0, hb, h1, h2, n_chk, ↓reduceIte, Option.bind_some, not_true_eq_false]
    · by_cases h3 : hi < y
      · refine Or.inr ⟨Or.inr (Or.inr (Or.inr h3)), ?_⟩
        simp only [h0, hb, h1, h2, h3, n_chk, ↓reduceIte, Option.bind_some, not_true_eq_false]
      · refine Or.inl ⟨j, hj, rfl, h2, h3, ?_⟩
        have h4 : n_in G 14 a (nI j) = true := by
          have := n_ib_nI hj hL
          unfold n_ib at this
          unfold n_in
          rw [hk, hl, this]
          rfl
        simp only [h0, hb, h1, h2, h3, h4, n_chk, ↓reduceIte, Option.bind_some, Int32.reduceEq, not_false_eq_true, nI_clamp (show j < 2 ^ 31 by omega)]
theorem st_gift {G : nG} {M : nM} {n q : Nat} (hG : n_GOK G) (h : Rel G M n q) (x y : Int32) : Stq G (fX11_gift G x y) (fX12_gift x y) M := by
  unfold Stq fX11_gift fX12_gift fX12_isIn
  rcases c_cc (M := M) (lo := 0) (hi := 2) (y := y) (gk43 hG) (gl43 hG) (by decide) x with ⟨j, hj, rfl, h2, h3, e⟩ | ⟨hc, e⟩
  · have h0 : ¬ nI j < 0 := nI_pos (by omega)
    have h1 : ¬ (11 : Int32) < nI j := nI_nlt (a := 11) (by omega) (by decide)
    have hb := n_ib_nI hj (by decide)
    obtain ⟨v, hv, rfl⟩ := nI_of2 (M := 2) (n := 2) (by decide) h2 (Int32.not_lt.mp h3)
    simp only [e, h0, h1, h2, h3, hb, wp_bind, wp_some, wp_chk, ↓reduceIte, Int32.reduceEq, not_false_eq_true, nI_clamp (show j < 2 ^ 31 by omega)]
    obtain ⟨⟨hst, hmv, hbk, hlw, hsp, hcu, hli, hsw, hpk, hbx, hky, hcl, hsh, hrw, hgf, hmi⟩, hpr, hrd, hck, hwd, him⟩ := h
    refine ⟨by decide, rfl, rfl, n, q, ⟨hst, hmv, hbk, hlw, hsp, hcu, hli, hsw, hpk, hbx, hky, hcl, hsh, hrw, ?_, hmi⟩, hpr, hrd, hck, hwd, him⟩
    intro k hk
    show ∃ j' : Nat, j' ≤ 2 ∧ upd (M 43) j (nI v) k = nI j' ∧ upd (M 141) j (nI v - 2) k = nI j' - 2
    by_cases hjk : k = j
    · subst hjk
      exact ⟨v, hv, upd_eq, upd_eq⟩
    · rw [upd_ne hjk, upd_ne hjk]
      exact hgf k hk
  · simp only [e, wp_bind, wp_some, wp_chk, ↓reduceIte, Int32.reduceEq]
    refine ⟨by decide, ?_⟩
    by_cases h0 : x < 0
    · simp only [h0, ↓reduceIte, wp_some, not_true_eq_false]
      exact ⟨rfl, n, q, h⟩
    · by_cases h1 : (11 : Int32) < x
      · simp only [h0, h1, ↓reduceIte, wp_some, not_true_eq_false]
        exact ⟨rfl, n, q, h⟩
      · by_cases h2 : y < 0
        · simp only [h0, h1, h2, ↓reduceIte, wp_some, wp_bind, Int32.reduceEq, not_true_eq_false]
          exact ⟨rfl, n, q, h⟩
        · by_cases h3 : (2 : Int32) < y
          · simp only [h0, h1, h2, h3, ↓reduceIte, wp_some, wp_bind, Int32.reduceEq, not_true_eq_false]
            exact ⟨rfl, n, q, h⟩
          · exfalso
            rcases hc with hc | hc | hc | hc
            · exact h0 hc
            · exact h1 (Int32.lt_of_lt_of_le (by decide) hc)
            · exact h2 hc
            · exact h3 hc
