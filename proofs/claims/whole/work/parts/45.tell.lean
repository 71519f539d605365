/-! ===== who, thing, person, set ===== -/
theorem e_par {G : nG} {M : nM} {N c : Nat} {ps : List (Nat × Nat)} (hG : n_GOK G) (hwm : r_wm (M 26 1) (M 26 2) 4 16) (hlen : ps.length ≤ 16) (hcnt : M 26 3 = nI ps.length) (hc : c < 12) (hp : ∀ (i : Nat) (x : Nat × Nat), ps[i]? = some x → M 27 (4 * i) = nI x.1 ∧ M 27 (4 * i + 1) = nI x.2 ∧ x.1 < 12 ∧ x.2 < 12) :
    ∀ (d j f : Nat) (acc : Int32), j + d = ps.length → d < f → (∀ t, bt acc t = true ↔ (c, t) ∈ ps.take j) → ∃ r : Int32, fX1_parentsOf_4 N G f (nI c) acc (nI j) M = some (r, M) ∧ ∀ t, bt r t = true ↔ (c, t) ∈ ps := by
  intro d
  induction d with
  | zero =>
    intro j f acc hj hf ha
    obtain ⟨f, rfl⟩ : ∃ g, f = g + 1 := ⟨f - 1, by omega⟩
    unfold fX1_parentsOf_4
    rw [hcnt, if_pos (nI_le (by omega) (by omega))]
    refine ⟨acc, rfl, fun t => ?_⟩
    rw [ha t, List.take_of_length_le (by omega)]
  | succ d ih =>
    intro j f acc hj hf ha
    obtain ⟨f, rfl⟩ : ∃ g, f = g + 1 := ⟨f - 1, by omega⟩
    obtain ⟨x, hx⟩ : ∃ x, ps[j]? = some x := ⟨ps[j]'(by omega), List.getElem?_eq_getElem (by omega)⟩
    obtain ⟨h1, h2, h3, h4⟩ := hp j x hx
    have g0 : fX7_cell G 26 (nI j) (0 : Int32) M = some (nI x.1, M) := by
      have := e_cell (W := 4) (H := 16) (i := j) (j := 0) (gk26 hG) (gm26_0 hG) (gk27 hG) (gl27 hG) hwm (by decide) (by decide) (by decide) (by omega) (by decide)
      rw [show j * 4 + 0 = 4 * j by omega, h1] at this
      exact this
    have g1 : fX7_cell G 26 (nI j) (1 : Int32) M = some (nI x.2, M) := by
      have := e_cell (W := 4) (H := 16) (i := j) (j := 1) (gk26 hG) (gm26_0 hG) (gk27 hG) (gl27 hG) hwm (by decide) (by decide) (by decide) (by omega) (by decide)
      rw [show j * 4 + 1 = 4 * j + 1 by omega, h2] at this
      exact this
    have ht : ps.take (j + 1) = ps.take j ++ [x] := by rw [List.take_add_one, hx]; rfl
    unfold fX1_parentsOf_4
    rw [hcnt, if_neg (nI_ge (by omega) (by omega))]
    simp only [g0, Option.bind_some, nI_1]
    by_cases hxc : x.1 = c
    · rw [if_neg (by rw [hxc]; exact not_not_intro rfl)]
      simp only [g1, Option.bind_some, e_withBit1]
      refine ih (j + 1) f _ (by omega) (by omega) (fun t => ?_)
      rw [b_sb (by omega), ht]
      by_cases h5 : t = x.2
      · subst h5
        simp [← hxc]
      · rw [if_neg h5, ha t]
        simp only [List.mem_append, List.mem_singleton]
        constructor
        · exact Or.inl
        · rintro (h6 | h6)
          · exact h6
          · exact absurd (congrArg Prod.snd h6) h5
    · rw [if_pos (fun e => hxc ((nI_eq (by omega) (by omega)).mp e))]
      refine ih (j + 1) f _ (by omega) (by omega) (fun t => ?_)
      rw [ha t, ht]
      simp only [List.mem_append, List.mem_singleton]
      constructor
      · exact Or.inl
      · rintro (h6 | h6)
        · exact h6
        · exact absurd (congrArg Prod.fst h6).symm hxc
theorem r_lin_par {G : nG} {M : nM} {N c q : Nat} (hN : 1000 ≤ N) (hG : n_GOK G) (hq : q ≤ 12) (hwm : r_wm (M 26 1) (M 26 2) 4 16) (h : r_lin (M 26 3) (M 27) (M 107 41) (M 129) q) (hc : c < 12) : fX1_parentsOf N G (nI c) M = some (M 129 c, M) := by
  obtain ⟨ps, i1, i2, i3, i4, i5, i6⟩ := h
  obtain ⟨r, e, hr⟩ := e_par (N := N) hG hwm i1 i2 hc (fun i x hx => by obtain ⟨a, b, c, d, e⟩ := i4 i x hx; exact ⟨a, b, by omega, by omega⟩) ps.length 0 N 0 (by omega) (by omega) (fun t => by rw [b_0]; simp)
  have : r = M 129 c := by
    apply b_ext
    intro t ht
    have h1 := hr t
    have h2 := i5 c hc t
    rw [Bool.eq_iff_iff, h1, h2]
  rw [← this]
  exact e
theorem st_who {G : nG} {M : nM} {n q N : Nat} (hN : 1000 ≤ N) (hG : n_GOK G) (h : Rel G M n q) (x y : Int32) : Stq G (fX11_who N G x y) (fX12_who x y) M := by
  obtain ⟨⟨hst, hmv, hbk, hlw, hsp, hcu, hli, hsw, hpk, hbx, hky, hcl, hsh, hrw, hgf, hmi⟩, hpr, hrd, hck, hwd, him⟩ := id h
  have hst0 := hst
  obtain ⟨⟨s1, s2⟩, ⟨s3, s4⟩, ⟨s5, s6⟩, s7, s8, s9, s10, s11⟩ := hst
  obtain ⟨m1, m2, m3, m4, m5, m6, m7, m8, m9, m10, m11⟩ := hmv
  have hwm : r_wm (M 26 1) (M 26 2) 4 16 := hck.2.2.2.2.2.1
  unfold Stq fX11_who fX12_who
  have s6' : n_up M 107 0 0 107 7 = nI q := s6
  cases hw : wn x q with
  | false =>
    simp only [e_hasPerson s4, e_isPerson s6', hw, wp_bind, wp_some, wp_chk, ↓reduceIte, not_true_eq_false, not_false_eq_true, z10, z01, zm0, z0m, zm1, z1m, true_and, and_true, cb_t, cb_f, cb0, cb1, eq_self, Bool.false_eq_true, Bool.true_eq_false, reduceCtorEq]
    exact ⟨n, q, h⟩
  | true =>
    obtain ⟨j, hj, rfl⟩ := wn_t (by omega) hw
    have a1 : (76 : Int32) + nI j = nI (76 + j) := nI_add 76 j
    have a2 : (88 : Int32) + nI j = nI (88 + j) := nI_add 88 j
    by_cases h0 : y = 0
    · simp only [h0, e_hasPerson s4, e_isPerson s6', hw, a1, a2, e_bit (show j < 32 by omega), n_ib_nI (show j < 12 by omega) (show 12 < 2 ^ 31 by decide), n_ib_nI (show j < 24 by omega) (show 24 < 2 ^ 31 by decide), n_ib_nI (show 76 + j < 100 by omega) (show 100 < 2 ^ 31 by decide), n_ib_nI (show 88 + j < 100 by omega) (show 100 < 2 ^ 31 by decide), nI_clamp (show j < 2 ^ 31 by omega), nI_clamp (show 76 + j < 2 ^ 31 by omega), nI_clamp (show 88 + j < 2 ^ 31 by omega), wp_bind, wp_some, wp_chk, ↓reduceIte, not_true_eq_false, not_false_eq_true, z10, z01, zm0, z0m, zm1, z1m, true_and, and_true, cb_t, cb_f, cb0, cb1, eq_self, Bool.false_eq_true, Bool.true_eq_false, reduceCtorEq]
      exact ⟨s10 j (by omega), n, q, h⟩
    by_cases h1 : y = 1
    · simp only [h1, e_hasPerson s4, e_isPerson s6', hw, a1, a2, e_bit (show j < 32 by omega), n_ib_nI (show j < 12 by omega) (show 12 < 2 ^ 31 by decide), n_ib_nI (show j < 24 by omega) (show 24 < 2 ^ 31 by decide), n_ib_nI (show 76 + j < 100 by omega) (show 100 < 2 ^ 31 by decide), n_ib_nI (show 88 + j < 100 by omega) (show 100 < 2 ^ 31 by decide), nI_clamp (show j < 2 ^ 31 by omega), nI_clamp (show 76 + j < 2 ^ 31 by omega), nI_clamp (show 88 + j < 2 ^ 31 by omega), wp_bind, wp_some, wp_chk, ↓reduceIte, not_true_eq_false, not_false_eq_true, z10, z01, zm0, z0m, zm1, z1m, true_and, and_true, cb_t, cb_f, cb0, cb1, eq_self, Bool.false_eq_true, Bool.true_eq_false, reduceCtorEq]
      exact ⟨s11 j (by omega), n, q, h⟩
    by_cases h2 : y = 2
    · subst h2
      simp only [h0, h1, e_hasPerson s4, e_isPerson s6', hw, a1, a2, e_bit (show j < 32 by omega), n_ib_nI (show j < 12 by omega) (show 12 < 2 ^ 31 by decide), n_ib_nI (show j < 24 by omega) (show 24 < 2 ^ 31 by decide), n_ib_nI (show 76 + j < 100 by omega) (show 100 < 2 ^ 31 by decide), n_ib_nI (show 88 + j < 100 by omega) (show 100 < 2 ^ 31 by decide), nI_clamp (show j < 2 ^ 31 by omega), nI_clamp (show 76 + j < 2 ^ 31 by omega), nI_clamp (show 88 + j < 2 ^ 31 by omega), wp_bind, wp_some, wp_chk, ↓reduceIte, not_true_eq_false, not_false_eq_true, z10, z01, zm0, z0m, zm1, z1m, true_and, and_true, cb_t, cb_f, cb0, cb1, eq_self, Bool.false_eq_true, Bool.true_eq_false, reduceCtorEq]
      exact ⟨r_bits_g (t := j) m6 (by omega), n, q, h⟩
    by_cases h3 : y = 3
    · subst h3
      simp only [h0, h1, h2, e_hasPerson s4, e_isPerson s6', hw, a1, a2, e_bit (show j < 32 by omega), n_ib_nI (show j < 12 by omega) (show 12 < 2 ^ 31 by decide), n_ib_nI (show j < 24 by omega) (show 24 < 2 ^ 31 by decide), n_ib_nI (show 76 + j < 100 by omega) (show 100 < 2 ^ 31 by decide), n_ib_nI (show 88 + j < 100 by omega) (show 100 < 2 ^ 31 by decide), nI_clamp (show j < 2 ^ 31 by omega), nI_clamp (show 76 + j < 2 ^ 31 by omega), nI_clamp (show 88 + j < 2 ^ 31 by omega), wp_bind, wp_some, wp_chk, ↓reduceIte, not_true_eq_false, not_false_eq_true, z10, z01, zm0, z0m, zm1, z1m, true_and, and_true, cb_t, cb_f, cb0, cb1, eq_self, Bool.false_eq_true, Bool.true_eq_false, reduceCtorEq]
      exact ⟨m3.1 j (by omega), n, q, h⟩
    by_cases h4 : y = 4
    · subst h4
      simp only [h0, h1, h2, h3, e_hasPerson s4, e_isPerson s6', hw, a1, a2, e_bit (show j < 32 by omega), n_ib_nI (show j < 12 by omega) (show 12 < 2 ^ 31 by decide), n_ib_nI (show j < 24 by omega) (show 24 < 2 ^ 31 by decide), n_ib_nI (show 76 + j < 100 by omega) (show 100 < 2 ^ 31 by decide), n_ib_nI (show 88 + j < 100 by omega) (show 100 < 2 ^ 31 by decide), nI_clamp (show j < 2 ^ 31 by omega), nI_clamp (show 76 + j < 2 ^ 31 by omega), nI_clamp (show 88 + j < 2 ^ 31 by omega), r_lin_par hN hG s2 hwm hli (show j < 12 by omega), wp_bind, wp_some, wp_chk, ↓reduceIte, not_true_eq_false, not_false_eq_true, z10, z01, zm0, z0m, zm1, z1m, true_and, and_true, cb_t, cb_f, cb0, cb1, eq_self, Bool.false_eq_true, Bool.true_eq_false, reduceCtorEq]
      exact ⟨by first | trivial | rfl, n, q, h⟩
    · simp only [h0, h1, h2, h3, h4, e_hasPerson s4, e_isPerson s6', hw, a1, a2, e_bit (show j < 32 by omega), n_ib_nI (show j < 12 by omega) (show 12 < 2 ^ 31 by decide), n_ib_nI (show j < 24 by omega) (show 24 < 2 ^ 31 by decide), n_ib_nI (show 76 + j < 100 by omega) (show 100 < 2 ^ 31 by decide), n_ib_nI (show 88 + j < 100 by omega) (show 100 < 2 ^ 31 by decide), nI_clamp (show j < 2 ^ 31 by omega), nI_clamp (show 76 + j < 2 ^ 31 by omega), nI_clamp (show 88 + j < 2 ^ 31 by omega), wp_bind, wp_some, wp_chk, ↓reduceIte, not_true_eq_false, not_false_eq_true, z10, z01, zm0, z0m, zm1, z1m, true_and, and_true, cb_t, cb_f, cb0, cb1, eq_self, Bool.false_eq_true, Bool.true_eq_false, reduceCtorEq]
      exact ⟨n, q, h⟩
/-- nothing can be undone -/
theorem PR_0 {M : nM} {n q n' q' : Nat} {M' : nM} (h : PR M n q) (h1 : M' 48 2 = 0) (h2 : M' 48 1 = M 48 1) (h3 : M' 107 3 = 0) : PR M' n' q' := by
  obtain ⟨k, x, p1, p2, p3, p4, p5, p6⟩ := h
  exact ⟨0, x, by omega, p2, h1, h2.trans p4, h3, fun j hj => absurd hj (by omega)⟩
theorem r_sup_n {cnt mc : Int32} {cells rows : Nat → Int32} {n q n' q' : Nat} (h : r_sup cnt cells mc rows n q) (hn : n ≤ n') (hq : q ≤ q') : r_sup cnt cells mc rows n' q' := by
  obtain ⟨k, h1, h2, h3, h4, h5⟩ := h
  refine ⟨k, h1, h2, h3, h4, fun i hi => ?_⟩
  obtain ⟨a, b, c, g1, g2, g3, g4⟩ := h5 i hi
  exact ⟨a, b, c, by omega, by omega, g3, g4⟩
theorem r_cus_q {cnt mc : Int32} {cells rows : Nat → Int32} {q q' : Nat} (h : r_cus cnt cells mc rows q) (hq : q ≤ q') : r_cus cnt cells mc rows q' := by
  obtain ⟨k, h1, h2, h3, h4, h5⟩ := h
  refine ⟨k, h1, h2, h3, h4, fun i hi => ?_⟩
  obtain ⟨a, b, c, g1, g2, g3, g4, g5⟩ := h5 i hi
  exact ⟨a, b, c, g1, g2, g3, fun z => Nat.lt_of_lt_of_le (g4 z) hq, g5⟩
theorem r_lin_q {cnt mc : Int32} {cells par : Nat → Int32} {q q' : Nat} (h : r_lin cnt cells mc par q) (hq : q ≤ q') : r_lin cnt cells mc par q' := by
  obtain ⟨ps, h1, h2, h3, h4, h5⟩ := h
  refine ⟨ps, h1, h2, h3, fun i x hx => ?_, h5⟩
  obtain ⟨g1, g2, g3, g4, g5⟩ := h4 i x hx
  exact ⟨g1, g2, by omega, by omega, g5⟩
theorem st_thing {G : nG} {M : nM} {n q : Nat} (h : Rel G M n q) (x y z : Int32) : Stq G (fX11_thing x y z) (fX12_thing x y z) M := by
  obtain ⟨⟨hst, hmv, hbk, hlw, hsp, hcu, hli, hsw, hpk, hbx, hky, hcl, hsh, hrw, hgf, hmi⟩, hpr, hrd, hck, hwd, him⟩ := id h
  obtain ⟨⟨s1, s2⟩, ⟨s3, s4⟩, ⟨s5, s6⟩, s7, s8, s9, s10, s11⟩ := hst
  have s5' : n_up M 107 0 0 107 6 = nI n := s5
  unfold Stq fX11_thing fX12_thing fX8_addThing fX5_forget fX4_startThing
  cases hw : wi x 1 9 with
  | false =>
    simp only [e_within, e_isIn, hw, wp_bind, wp_some, wp_chk, ↓reduceIte, not_true_eq_false, not_false_eq_true, z10, z01, zm0, z0m, zm1, z1m, true_and, and_true, cb_t, cb_f, cb0, cb1, eq_self, Bool.false_eq_true, Bool.true_eq_false, reduceCtorEq]
    exact ⟨n, q, h⟩
  | true =>
  cases hw2 : wi y 0 999 with
  | false =>
    simp only [e_within, e_isIn, hw, hw2, wp_bind, wp_some, wp_chk, ↓reduceIte, not_true_eq_false, not_false_eq_true, z10, z01, zm0, z0m, zm1, z1m, true_and, and_true, cb_t, cb_f, cb0, cb1, eq_self, Bool.false_eq_true, Bool.true_eq_false, reduceCtorEq]
    exact ⟨n, q, h⟩
  | true =>
  cases hw3 : wn z 12 with
  | false =>
    simp only [e_within, e_isIn, e_hasPlace, e_isPlace, hw, hw2, hw3, wp_bind, wp_some, wp_chk, ↓reduceIte, not_true_eq_false, not_false_eq_true, z10, z01, zm0, z0m, zm1, z1m, true_and, and_true, cb_t, cb_f, cb0, cb1, eq_self, Bool.false_eq_true, Bool.true_eq_false, reduceCtorEq]
    exact ⟨n, q, h⟩
  | true =>
  obtain ⟨j, hj, rfl⟩ := wn_t (by decide) hw3
  by_cases hn : n < 16
  · have c1 : nI n < (16 : Int32) := nI_lt (b := 16) hn (by decide)
    have c2 : ¬ nI n = (16 : Int32) := fun e => by have := (nI_eq (b := 16) (by omega) (by decide)).mp e; omega
    have c3 : ¬ nI n = (-1 : Int32) := fun e => by
      have h1 : ¬ nI n < 0 := nI_pos (by omega)
      rw [e] at h1
      exact h1 (by decide)
    have c4 : ¬ nI n < 0 := nI_pos (by omega)
    have c5 : ¬ (16 : Int32) ≤ nI n := nI_ge (b := 16) hn (by decide)
    have a1 : (28 : Int32) + nI n = nI (28 + n) := nI_add 28 n
    have a2 : (44 : Int32) + nI n = nI (44 + n) := nI_add 44 n
    have a3 : (60 : Int32) + nI n = nI (60 + n) := nI_add 60 n
    simp only [e_within, e_isIn, e_hasPlace, e_isPlace, hw, hw2, hw3, s3, s5, c1, c2, c3, c4, c5, a1, a2, a3, n_up_ne, n_up_eq, upd_eq, upd_ne, ne_eq, Nat.reduceEqDiff, n_ib_nI hn (show 16 < 2 ^ 31 by decide), n_ib_nI (show 28 + n < 100 by omega) (show 100 < 2 ^ 31 by decide), n_ib_nI (show 44 + n < 100 by omega) (show 100 < 2 ^ 31 by decide), n_ib_nI (show 60 + n < 100 by omega) (show 100 < 2 ^ 31 by decide), nI_1, nI_pred, nI_clamp (show n < 2 ^ 31 by omega), nI_clamp (show 28 + n < 2 ^ 31 by omega), nI_clamp (show 44 + n < 2 ^ 31 by omega), nI_clamp (show 60 + n < 2 ^ 31 by omega), e_withBit0, wp_bind, wp_some, wp_chk, ↓reduceIte, not_true_eq_false, not_false_eq_true, z10, z01, zm0, z0m, zm1, z1m, true_and, and_true, cb_t, cb_f, cb0, cb1, eq_self, Bool.false_eq_true, Bool.true_eq_false, reduceCtorEq]
    refine ⟨n + 1, q, ⟨⟨⟨⟨by omega, s2⟩, ⟨rfl, s4⟩, ⟨rfl, s6⟩, s7, ?_, ?_, s10, s11⟩, ?_, hbk, hlw, r_sup_n hsp (by omega) (Nat.le_refl _), hcu, hli, hsw, hpk, hbx, hky, hcl, hsh, hrw, hgf, hmi⟩, PR_0 hpr rfl rfl rfl, hrd, hck, hwd, him⟩⟩
    · intro t ht
      show upd (M 5) n x t = upd (M 112) n x t
      by_cases e : t = n
      · rw [e, upd_eq, upd_eq]
      · rw [upd_ne e, upd_ne e]
        exact s8 t ht
    · intro t ht
      show upd (M 6) n y t = upd (M 113) n y t
      by_cases e : t = n
      · rw [e, upd_eq, upd_eq]
      · rw [upd_ne e, upd_ne e]
        exact s9 t ht
    · exact r_mov_lost (on := false) hn (by omega) (r_mov_mv hn (r_mov_i hn hj (r_mov_n hmv (Nat.le_succ n) (Nat.le_refl q))))
  · obtain rfl : n = 16 := by omega
    have c1 : ¬ nI 16 < (16 : Int32) := by decide
    have c2 : (nI 16 = (16 : Int32)) = True := eq_true rfl
    simp only [e_within, e_isIn, e_hasPlace, e_isPlace, hw, hw2, hw3, s3, s5', c1, c2, wp_bind, wp_some, wp_chk, ↓reduceIte, not_true_eq_false, not_false_eq_true, z10, z01, zm0, z0m, zm1, z1m, true_and, and_true, cb_t, cb_f, cb0, cb1, eq_self, Bool.false_eq_true, Bool.true_eq_false, reduceCtorEq]
    exact ⟨16, q, h⟩
theorem st_person {G : nG} {M : nM} {n q : Nat} (h : Rel G M n q) (x y : Int32) : Stq G (fX11_person x y) (fX12_person x y) M := by
  obtain ⟨⟨hst, hmv, hbk, hlw, hsp, hcu, hli, hsw, hpk, hbx, hky, hcl, hsh, hrw, hgf, hmi⟩, hpr, hrd, hck, hwd, him⟩ := id h
  obtain ⟨⟨s1, s2⟩, ⟨s3, s4⟩, ⟨s5, s6⟩, s7, s8, s9, s10, s11⟩ := hst
  have s6' : n_up M 107 0 0 107 7 = nI q := s6
  unfold Stq fX11_person fX12_person fX8_addPerson fX5_forget fX4_startPerson
  cases hw : wi x 0 9 with
  | false =>
    simp only [e_within, e_isIn, hw, wp_bind, wp_some, wp_chk, ↓reduceIte, not_true_eq_false, not_false_eq_true, z10, z01, zm0, z0m, zm1, z1m, true_and, and_true, cb_t, cb_f, cb0, cb1, eq_self, Bool.false_eq_true, Bool.true_eq_false, reduceCtorEq]
    exact ⟨n, q, h⟩
  | true =>
  cases hw2 : wi y 0 9 with
  | false =>
    simp only [e_within, e_isIn, hw, hw2, wp_bind, wp_some, wp_chk, ↓reduceIte, not_true_eq_false, not_false_eq_true, z10, z01, zm0, z0m, zm1, z1m, true_and, and_true, cb_t, cb_f, cb0, cb1, eq_self, Bool.false_eq_true, Bool.true_eq_false, reduceCtorEq]
    exact ⟨n, q, h⟩
  | true =>
  by_cases hn : q < 12
  · have c1 : nI q < (12 : Int32) := nI_lt (b := 12) hn (by decide)
    have c2 : ¬ nI q = (12 : Int32) := fun e => by have := (nI_eq (b := 12) (by omega) (by decide)).mp e; omega
    have c3 : ¬ nI q = (-1 : Int32) := fun e => by
      have h1 : ¬ nI q < 0 := nI_pos (by omega)
      rw [e] at h1
      exact h1 (by decide)
    have c4 : ¬ nI q < 0 := nI_pos (by omega)
    have c5 : ¬ (12 : Int32) ≤ nI q := nI_ge (b := 12) hn (by decide)
    have a1 : (76 : Int32) + nI q = nI (76 + q) := nI_add 76 q
    have a2 : (88 : Int32) + nI q = nI (88 + q) := nI_add 88 q
    simp only [e_within, e_isIn, hw, hw2, s4, s6, c1, c2, c3, c4, c5, a1, a2, n_up_ne, n_up_eq, upd_eq, upd_ne, ne_eq, Nat.reduceEqDiff, n_ib_nI hn (show 12 < 2 ^ 31 by decide), n_ib_nI (show 76 + q < 100 by omega) (show 100 < 2 ^ 31 by decide), n_ib_nI (show 88 + q < 100 by omega) (show 100 < 2 ^ 31 by decide), nI_1, nI_pred, nI_clamp (show q < 2 ^ 31 by omega), nI_clamp (show 76 + q < 2 ^ 31 by omega), nI_clamp (show 88 + q < 2 ^ 31 by omega), e_withBit0, wp_bind, wp_some, wp_chk, ↓reduceIte, not_true_eq_false, not_false_eq_true, z10, z01, zm0, z0m, zm1, z1m, true_and, and_true, cb_t, cb_f, cb0, cb1, eq_self, Bool.false_eq_true, Bool.true_eq_false, reduceCtorEq]
    refine ⟨n, q + 1, ⟨⟨⟨⟨s1, by omega⟩, ⟨s3, rfl⟩, ⟨s5, rfl⟩, s7, s8, s9, ?_, ?_⟩, ?_, hbk, hlw, r_sup_n hsp (Nat.le_refl _) (by omega), r_cus_q hcu (by omega), r_lin_q hli (by omega), hsw, hpk, hbx, hky, hcl, hsh, hrw, hgf, hmi⟩, PR_0 hpr rfl rfl rfl, hrd, hck, hwd, him⟩⟩
    · intro t ht
      show upd (M 7) q x t = upd (M 114) q x t
      by_cases e : t = q
      · rw [e, upd_eq, upd_eq]
      · rw [upd_ne e, upd_ne e]
        exact s10 t ht
    · intro t ht
      show upd (M 8) q y t = upd (M 115) q y t
      by_cases e : t = q
      · rw [e, upd_eq, upd_eq]
      · rw [upd_ne e, upd_ne e]
        exact s11 t ht
    · exact r_mov_pa (v := 0) hn (Nat.lt_succ_self q) (r_mov_tied (on := false) hn (Nat.lt_succ_self q) (r_mov_n hmv (Nat.le_refl n) (Nat.le_succ q)))
  · obtain rfl : q = 12 := by omega
    have c1 : ¬ nI 12 < (12 : Int32) := by decide
    have c2 : (nI 12 = (12 : Int32)) = True := eq_true rfl
    simp only [e_within, e_isIn, hw, hw2, s4, s6', c1, c2, wp_bind, wp_some, wp_chk, ↓reduceIte, not_true_eq_false, not_false_eq_true, z10, z01, zm0, z0m, zm1, z1m, true_and, and_true, cb_t, cb_f, cb0, cb1, eq_self, Bool.false_eq_true, Bool.true_eq_false, reduceCtorEq]
    exact ⟨n, 12, h⟩
theorem wp_if_t {α : Type} {c : Prop} [Decidable c] {x y : Option (α × nM)} {Q : α → nM → Prop} (h : c) : wp (if c then x else y) Q = wp x Q := by rw [if_pos h]
theorem r_eq_upd {N k : Nat} {a b : Nat → Int32} {v : Int32} (h : r_eq N a b) : r_eq N (upd a k v) (upd b k v) := by
  intro t ht
  by_cases e : t = k
  · rw [e, upd_eq, upd_eq]
  · rw [upd_ne e, upd_ne e]
    exact h t ht
theorem st_set {G : nG} {M : nM} {n q : Nat} (hG : n_GOK G) (h : Rel G M n q) (w x y : Int32) : Stq G (fX11_set G w x y) (fX12_set w x y) M := by
  obtain ⟨⟨hst, hmv, hbk, hlw, hsp, hcu, hli, hsw, hpk, hbx, hky, hcl, hsh, hrw, hgf, hmi⟩, hpr, hrd, hck, hwd, him⟩ := id h
  obtain ⟨⟨s1, s2⟩, ⟨s3, s4⟩, ⟨s5, s6⟩, s7, s8, s9, s10, s11⟩ := id hst
  have s5' : n_up M 107 0 0 107 6 = nI n := s5
  have s6' : n_up M 107 0 0 107 7 = nI q := s6
  have b1 : ((1 : Int32) == 0 || (1 : Int32) == 1) = true := by decide
  have b0 : ((0 : Int32) == 0 || (0 : Int32) == 1) = true := by decide
  unfold Stq fX11_set fX11_change fX12_set fX12_canSet fX5_forget
  by_cases h0 : w = 0
  · subst h0
    cases hw : wn x 12 with
    | false =>
      simp only [e_hasPlace, e_isPlace, hw, b0, wp_bind, wp_some, wp_chk, ↓reduceIte, not_true_eq_false, not_false_eq_true, z10, z01, zm0, z0m, zm1, z1m, true_and, and_true, cb_t, cb_f, cb0, cb1, eq_self, Bool.false_eq_true, Bool.true_eq_false, reduceCtorEq]
      exact ⟨n, q, h⟩
    | true =>
    cases hv : wi y 0 99 with
    | false =>
      simp only [e_hasPlace, e_isPlace, e_isIn, e_cc (gk4 hG) (gl4 hG) (show 12 < 2 ^ 31 by decide), hw, hv, Bool.and_false, b0, wp_bind, wp_some, wp_chk, ↓reduceIte, not_true_eq_false, not_false_eq_true, z10, z01, zm0, z0m, zm1, z1m, true_and, and_true, cb_t, cb_f, cb0, cb1, eq_self, Bool.false_eq_true, Bool.true_eq_false, reduceCtorEq]
      exact ⟨n, q, h⟩
    | true =>
    obtain ⟨j, hj, rfl⟩ := wn_t (by decide) hw
    simp only [e_hasPlace, e_isPlace, e_isIn, e_cc (gk4 hG) (gl4 hG) (show 12 < 2 ^ 31 by decide), hw, hv, Bool.and_self, b1, fX12_set_31, fX12_set_43, fX12_set_55, fX12_set_70, fX12_set_82, n_ib_nI hj (show 12 < 2 ^ 31 by decide), nI_clamp (show j < 2 ^ 31 by omega), show ((0 : Int32) = 2) = False from eq_false (by decide), show ((0 : Int32) = 3) = False from eq_false (by decide), show ((0 : Int32) = 4) = False from eq_false (by decide), show ((0 : Int32) = 5) = False from eq_false (by decide), wp_bind, wp_some, wp_chk, ↓reduceIte, not_true_eq_false, not_false_eq_true, z10, z01, zm0, z0m, zm1, z1m, true_and, and_true, cb_t, cb_f, cb0, cb1, eq_self, Bool.false_eq_true, Bool.true_eq_false, reduceCtorEq]
    refine ⟨n, q, ⟨⟨⟨⟨s1, s2⟩, ⟨s3, s4⟩, ⟨s5, s6⟩, ?_, s8, s9, s10, s11⟩, hmv, hbk, hlw, hsp, hcu, hli, hsw, hpk, hbx, hky, hcl, hsh, hrw, hgf, hmi⟩, PR_0 hpr rfl rfl rfl, hrd, hck, hwd, him⟩⟩
    intro t ht
    show upd (M 4) j y t = upd (M 111) j (y - 9) t + 9
    by_cases e : t = j
    · rw [e, upd_eq, upd_eq, Int32.sub_add_cancel]
    · rw [upd_ne e, upd_ne e]
      exact s7 t ht
  by_cases h1 : w = 1
  · subst h1
    have w1 : wi (1 : Int32) 1 3 = true := by decide
    cases hw : wn x n with
    | false =>
      simp only [e_hasThing s3, e_isIn, w1, e_isThing (n := n), n_up_ne, n_up_eq, upd_ne, ne_eq, Nat.reduceEqDiff, s5, hw, b0, h0, wp_bind, wp_some, wp_chk, ↓reduceIte, not_true_eq_false, not_false_eq_true, z10, z01, zm0, z0m, zm1, z1m, true_and, and_true, cb_t, cb_f, cb0, cb1, eq_self, Bool.false_eq_true, Bool.true_eq_false, reduceCtorEq]
      exact ⟨n, q, h⟩
    | true =>
    obtain ⟨j, hj, rfl⟩ := wn_t (by omega) hw
    have hw16 : wn (nI j) 16 = true := wn_nI (by omega) (by decide)
    cases hv : wi y 1 9 with
    | false =>
      simp only [e_hasThing s3, e_isIn, w1, e_isThing (n := n), n_up_ne, n_up_eq, upd_ne, ne_eq, Nat.reduceEqDiff, s5, e_cc (gk5 hG) (gl5 hG) (show 16 < 2 ^ 31 by decide), hw, hw16, hv, Bool.and_false, b0, h0, fX12_canSet_59, fX12_canSet_81, wp_bind, wp_some, wp_chk, ↓reduceIte, not_true_eq_false, not_false_eq_true, z10, z01, zm0, z0m, zm1, z1m, true_and, and_true, cb_t, cb_f, cb0, cb1, eq_self, Bool.false_eq_true, Bool.true_eq_false, reduceCtorEq]
      exact ⟨n, q, h⟩
    | true =>
    simp only [e_hasThing s3, e_isIn, w1, e_isThing (n := n), n_up_ne, n_up_eq, upd_ne, ne_eq, Nat.reduceEqDiff, s5, e_cc (gk5 hG) (gl5 hG) (show 16 < 2 ^ 31 by decide), hw, hw16, hv, Bool.and_self, b1, h0, fX12_canSet_59, fX12_canSet_81, fX12_set_31, fX12_set_43, fX12_set_55, fX12_set_70, fX12_set_82, n_ib_nI (show j < 16 by omega) (show 16 < 2 ^ 31 by decide), nI_clamp (show j < 2 ^ 31 by omega), show ((1 : Int32) = 2) = False from eq_false (by decide), show ((1 : Int32) = 3) = False from eq_false (by decide), show ((1 : Int32) = 4) = False from eq_false (by decide), show ((1 : Int32) = 5) = False from eq_false (by decide), wp_bind, wp_some, wp_chk, ↓reduceIte, not_true_eq_false, not_false_eq_true, z10, z01, zm0, z0m, zm1, z1m, true_and, and_true, cb_t, cb_f, cb0, cb1, eq_self, Bool.false_eq_true, Bool.true_eq_false, reduceCtorEq]
    exact ⟨n, q, ⟨⟨⟨⟨s1, s2⟩, ⟨s3, s4⟩, ⟨s5, s6⟩, s7, r_eq_upd s8, s9, s10, s11⟩, hmv, hbk, hlw, hsp, hcu, hli, hsw, hpk, hbx, hky, hcl, hsh, hrw, hgf, hmi⟩, PR_0 hpr rfl rfl rfl, hrd, hck, hwd, him⟩⟩
  by_cases h2 : w = 2
  · subst h2
    have w1 : wi (2 : Int32) 1 3 = true := by decide
    cases hw : wn x n with
    | false =>
      simp only [e_hasThing s3, e_isIn, w1, e_isThing (n := n), n_up_ne, n_up_eq, upd_ne, ne_eq, Nat.reduceEqDiff, s5, hw, b0, h0, h1, wp_bind, wp_some, wp_chk, ↓reduceIte, not_true_eq_false, not_false_eq_true, z10, z01, zm0, z0m, zm1, z1m, true_and, and_true, cb_t, cb_f, cb0, cb1, eq_self, Bool.false_eq_true, Bool.true_eq_false, reduceCtorEq]
      exact ⟨n, q, h⟩
    | true =>
    obtain ⟨j, hj, rfl⟩ := wn_t (by omega) hw
    have hw16 : wn (nI j) 16 = true := wn_nI (by omega) (by decide)
    cases hv : wi y 0 999 with
    | false =>
      simp only [e_hasThing s3, e_isIn, w1, e_isThing (n := n), n_up_ne, n_up_eq, upd_ne, ne_eq, Nat.reduceEqDiff, s5, e_cc (gk6 hG) (gl6 hG) (show 16 < 2 ^ 31 by decide), hw, hw16, hv, Bool.and_false, b0, h0, h1, fX12_canSet_59, fX12_canSet_81, wp_bind, wp_some, wp_chk, ↓reduceIte, not_true_eq_false, not_false_eq_true, z10, z01, zm0, z0m, zm1, z1m, true_and, and_true, cb_t, cb_f, cb0, cb1, eq_self, Bool.false_eq_true, Bool.true_eq_false, reduceCtorEq]
      exact ⟨n, q, h⟩
    | true =>
    simp only [e_hasThing s3, e_isIn, w1, e_isThing (n := n), n_up_ne, n_up_eq, upd_ne, ne_eq, Nat.reduceEqDiff, s5, e_cc (gk6 hG) (gl6 hG) (show 16 < 2 ^ 31 by decide), hw, hw16, hv, Bool.and_self, b1, h0, h1, fX12_canSet_59, fX12_canSet_81, fX12_set_31, fX12_set_43, fX12_set_55, fX12_set_70, fX12_set_82, n_ib_nI (show j < 16 by omega) (show 16 < 2 ^ 31 by decide), nI_clamp (show j < 2 ^ 31 by omega), show ((2 : Int32) = 3) = False from eq_false (by decide), show ((2 : Int32) = 4) = False from eq_false (by decide), show ((2 : Int32) = 5) = False from eq_false (by decide), wp_bind, wp_some, wp_chk, ↓reduceIte, not_true_eq_false, not_false_eq_true, z10, z01, zm0, z0m, zm1, z1m, true_and, and_true, cb_t, cb_f, cb0, cb1, eq_self, Bool.false_eq_true, Bool.true_eq_false, reduceCtorEq]
    exact ⟨n, q, ⟨⟨⟨⟨s1, s2⟩, ⟨s3, s4⟩, ⟨s5, s6⟩, s7, s8, r_eq_upd s9, s10, s11⟩, hmv, hbk, hlw, hsp, hcu, hli, hsw, hpk, hbx, hky, hcl, hsh, hrw, hgf, hmi⟩, PR_0 hpr rfl rfl rfl, hrd, hck, hwd, him⟩⟩
  by_cases h3 : w = 3
  · subst h3
    have w1 : wi (3 : Int32) 1 3 = true := by decide
    cases hw : wn x n with
    | false =>
      simp only [e_hasThing s3, e_isIn, w1, e_isThing (n := n), n_up_ne, n_up_eq, upd_ne, ne_eq, Nat.reduceEqDiff, s5, hw, b0, h0, h1, h2, wp_bind, wp_some, wp_chk, ↓reduceIte, not_true_eq_false, not_false_eq_true, z10, z01, zm0, z0m, zm1, z1m, true_and, and_true, cb_t, cb_f, cb0, cb1, eq_self, Bool.false_eq_true, Bool.true_eq_false, reduceCtorEq]
      exact ⟨n, q, h⟩
    | true =>
    obtain ⟨j, hj, rfl⟩ := wn_t (by omega) hw
    cases hv : wi y 0 1 with
    | false =>
      simp only [e_hasThing s3, e_isIn, w1, e_isThing (n := n), n_up_ne, n_up_eq, upd_ne, ne_eq, Nat.reduceEqDiff, s5, fX11_changeLost, e_within, hw, hv, b0, h0, h1, h2, fX12_canSet_59, fX12_canSet_81, wp_bind, wp_some, wp_chk, ↓reduceIte, not_true_eq_false, not_false_eq_true, z10, z01, zm0, z0m, zm1, z1m, true_and, and_true, cb_t, cb_f, cb0, cb1, eq_self, Bool.false_eq_true, Bool.true_eq_false, reduceCtorEq]
      exact ⟨n, q, h⟩
    | true =>
    have a3 : (60 : Int32) + nI j = nI (60 + j) := nI_add 60 j
    obtain ⟨v, hv1, rfl⟩ := wi_nI (n := 1) (by decide) hv
    obtain ⟨on, hon, g⟩ : ∃ on : Bool, cb on = nI v ∧ ∀ M, (if ¬ nI v = (1 : Int32) then fX11_changeLost_39 (0 : Int32) (nI j) (M 9 5) M else fX11_changeLost_39 (1 : Int32) (nI j) (M 9 5) M) = some (1, n_up M 9 5 (sb (M 9 5) j on)) := by
      unfold fX11_changeLost_39
      rcases Nat.lt_or_ge v 1 with h5 | h5
      · obtain rfl : v = 0 := by omega
        exact ⟨false, rfl, fun M => by rw [if_pos (by decide), e_withBit0]; rfl⟩
      · obtain rfl : v = 1 := by omega
        exact ⟨true, rfl, fun M => by rw [if_neg (by decide), e_withBit1]; rfl⟩
    simp only [e_hasThing s3, e_isIn, w1, e_isThing (n := n), n_up_ne, n_up_eq, upd_ne, ne_eq, Nat.reduceEqDiff, s5, fX11_changeLost, e_within, hw, hv, g, a3, Bool.and_self, b1, h0, h1, h2, fX12_canSet_59, fX12_canSet_81, fX12_set_31, fX12_set_43, fX12_set_55, fX12_set_70, fX12_set_82, n_ib_nI (show 60 + j < 100 by omega) (show 100 < 2 ^ 31 by decide), nI_clamp (show 60 + j < 2 ^ 31 by omega), show ((3 : Int32) = 4) = False from eq_false (by decide), show ((3 : Int32) = 5) = False from eq_false (by decide), wp_bind, wp_some, wp_chk, ↓reduceIte, not_true_eq_false, not_false_eq_true, z10, z01, zm0, z0m, zm1, z1m, true_and, and_true, cb_t, cb_f, cb0, cb1, eq_self, Bool.false_eq_true, Bool.true_eq_false, reduceCtorEq]
    have hmv2 := r_mov_lost (on := on) (show j < 16 by omega) hj hmv
    rw [hon] at hmv2
    exact ⟨n, q, ⟨⟨hst, hmv2, hbk, hlw, hsp, hcu, hli, hsw, hpk, hbx, hky, hcl, hsh, hrw, hgf, hmi⟩, PR_0 hpr rfl rfl rfl, hrd, hck, hwd, him⟩⟩
  by_cases h4 : w = 4
  · subst h4
    have w1 : wi (4 : Int32) 1 3 = false := by decide
    have w2 : wi (4 : Int32) 4 5 = true := by decide
    cases hw : wn x q with
    | false =>
      simp only [e_hasPerson s4, e_isIn, w1, w2, e_isPerson (n := q), n_up_ne, n_up_eq, upd_ne, ne_eq, Nat.reduceEqDiff, s6, hw, b0, h0, h1, h2, h3, wp_bind, wp_some, wp_chk, ↓reduceIte, not_true_eq_false, not_false_eq_true, z10, z01, zm0, z0m, zm1, z1m, true_and, and_true, cb_t, cb_f, cb0, cb1, eq_self, Bool.false_eq_true, Bool.true_eq_false, reduceCtorEq]
      exact ⟨n, q, h⟩
    | true =>
    obtain ⟨j, hj, rfl⟩ := wn_t (by omega) hw
    have hw16 : wn (nI j) 12 = true := wn_nI (by omega) (by decide)
    cases hv : wi y 0 9 with
    | false =>
      simp only [e_hasPerson s4, e_isIn, w1, w2, e_isPerson (n := q), n_up_ne, n_up_eq, upd_ne, ne_eq, Nat.reduceEqDiff, s6, e_cc (gk7 hG) (gl7 hG) (show 12 < 2 ^ 31 by decide), hw, hw16, hv, Bool.and_false, b0, h0, h1, h2, h3, wp_bind, wp_some, wp_chk, ↓reduceIte, not_true_eq_false, not_false_eq_true, z10, z01, zm0, z0m, zm1, z1m, true_and, and_true, cb_t, cb_f, cb0, cb1, eq_self, Bool.false_eq_true, Bool.true_eq_false, reduceCtorEq]
      exact ⟨n, q, h⟩
    | true =>
    simp only [e_hasPerson s4, e_isIn, w1, w2, e_isPerson (n := q), n_up_ne, n_up_eq, upd_ne, ne_eq, Nat.reduceEqDiff, s6, e_cc (gk7 hG) (gl7 hG) (show 12 < 2 ^ 31 by decide), hw, hw16, hv, Bool.and_self, b1, h0, h1, h2, h3, fX12_set_31, fX12_set_43, fX12_set_55, fX12_set_70, fX12_set_82, n_ib_nI (show j < 12 by omega) (show 12 < 2 ^ 31 by decide), nI_clamp (show j < 2 ^ 31 by omega), show ((4 : Int32) = 5) = False from eq_false (by decide), wp_bind, wp_some, wp_chk, ↓reduceIte, not_true_eq_false, not_false_eq_true, z10, z01, zm0, z0m, zm1, z1m, true_and, and_true, cb_t, cb_f, cb0, cb1, eq_self, Bool.false_eq_true, Bool.true_eq_false, reduceCtorEq]
    exact ⟨n, q, ⟨⟨⟨⟨s1, s2⟩, ⟨s3, s4⟩, ⟨s5, s6⟩, s7, s8, s9, r_eq_upd s10, s11⟩, hmv, hbk, hlw, hsp, hcu, hli, hsw, hpk, hbx, hky, hcl, hsh, hrw, hgf, hmi⟩, PR_0 hpr rfl rfl rfl, hrd, hck, hwd, him⟩⟩
  by_cases h5 : w = 5
  · subst h5
    have w1 : wi (5 : Int32) 1 3 = false := by decide
    have w2 : wi (5 : Int32) 4 5 = true := by decide
    cases hw : wn x q with
    | false =>
      simp only [e_hasPerson s4, e_isIn, w1, w2, e_isPerson (n := q), n_up_ne, n_up_eq, upd_ne, ne_eq, Nat.reduceEqDiff, s6, hw, b0, h0, h1, h2, h3, h4, wp_bind, wp_some, wp_chk, ↓reduceIte, not_true_eq_false, not_false_eq_true, z10, z01, zm0, z0m, zm1, z1m, true_and, and_true, cb_t, cb_f, cb0, cb1, eq_self, Bool.false_eq_true, Bool.true_eq_false, reduceCtorEq]
      exact ⟨n, q, h⟩
    | true =>
    obtain ⟨j, hj, rfl⟩ := wn_t (by omega) hw
    have hw16 : wn (nI j) 12 = true := wn_nI (by omega) (by decide)
    cases hv : wi y 0 9 with
    | false =>
      simp only [e_hasPerson s4, e_isIn, w1, w2, e_isPerson (n := q), n_up_ne, n_up_eq, upd_ne, ne_eq, Nat.reduceEqDiff, s6, e_cc (gk8 hG) (gl8 hG) (show 12 < 2 ^ 31 by decide), hw, hw16, hv, Bool.and_false, b0, h0, h1, h2, h3, h4, wp_bind, wp_some, wp_chk, ↓reduceIte, not_true_eq_false, not_false_eq_true, z10, z01, zm0, z0m, zm1, z1m, true_and, and_true, cb_t, cb_f, cb0, cb1, eq_self, Bool.false_eq_true, Bool.true_eq_false, reduceCtorEq]
      exact ⟨n, q, h⟩
    | true =>
    simp only [e_hasPerson s4, e_isIn, w1, w2, e_isPerson (n := q), n_up_ne, n_up_eq, upd_ne, ne_eq, Nat.reduceEqDiff, s6, e_cc (gk8 hG) (gl8 hG) (show 12 < 2 ^ 31 by decide), hw, hw16, hv, Bool.and_self, b1, h0, h1, h2, h3, h4, fX12_set_31, fX12_set_43, fX12_set_55, fX12_set_70, fX12_set_82, n_ib_nI (show j < 12 by omega) (show 12 < 2 ^ 31 by decide), nI_clamp (show j < 2 ^ 31 by omega), wp_bind, wp_some, wp_chk, ↓reduceIte, not_true_eq_false, not_false_eq_true, z10, z01, zm0, z0m, zm1, z1m, true_and, and_true, cb_t, cb_f, cb0, cb1, eq_self, Bool.false_eq_true, Bool.true_eq_false, reduceCtorEq]
    exact ⟨n, q, ⟨⟨⟨⟨s1, s2⟩, ⟨s3, s4⟩, ⟨s5, s6⟩, s7, s8, s9, s10, r_eq_upd s11⟩, hmv, hbk, hlw, hsp, hcu, hli, hsw, hpk, hbx, hky, hcl, hsh, hrw, hgf, hmi⟩, PR_0 hpr rfl rfl rfl, hrd, hck, hwd, him⟩⟩
  · have e13 : wi w 1 3 = false := by
      cases hc : wi w 1 3 with
      | false => rfl
      | true =>
        exfalso
        obtain ⟨j, j1, j2, rfl⟩ := wi_nI1 (n := 3) (by decide) hc
        rcases (show j = 1 ∨ j = 2 ∨ j = 3 by omega) with rfl | rfl | rfl
        · exact h1 rfl
        · exact h2 rfl
        · exact h3 rfl
    have e45 : wi w 4 5 = false := by
      cases hc : wi w 4 5 with
      | false => rfl
      | true =>
        exfalso
        have hc0 : wi w 1 5 = true := by
          have g := wi_t hc
          have g2 : ¬ w < 1 := fun z => g.1 (Int32.lt_trans z (by decide))
          unfold wi
          simp [g2, g.2]
        obtain ⟨j, j1, j2, rfl⟩ := wi_nI1 (n := 5) (by decide) hc0
        rcases (show j = 1 ∨ j = 2 ∨ j = 3 ∨ j = 4 ∨ j = 5 by omega) with rfl | rfl | rfl | rfl | rfl
        · exact h1 rfl
        · exact h2 rfl
        · exact h3 rfl
        · exact h4 rfl
        · exact h5 rfl
    simp only [h0, h1, h2, h3, h4, h5, e_isIn, e13, e45, b0, wp_bind, wp_some, wp_chk, ↓reduceIte, not_true_eq_false, not_false_eq_true, z10, z01, zm0, z0m, zm1, z1m, true_and, and_true, cb_t, cb_f, cb0, cb1, eq_self, Bool.false_eq_true, Bool.true_eq_false, reduceCtorEq]
    exact ⟨n, q, h⟩
