/-! ===== tells; draws, notes, room ===== -/
theorem mvc_no {c : Nat} (h : mvc c = false) : c ≠ 46 ∧ c ≠ 47 ∧ c ≠ 107 ∧ c ≠ 108 ∧ c ≠ 116 ∧ c ≠ 131 ∧ c ≠ 132 := by
  obtain ⟨g1, g2, g3, g4, g5, g6, g7, g8, g9, g10, g11, g12, g13, g14, g15⟩ := mvc_out h
  exact ⟨by omega, by omega, g9, g10, g13, g14, g15⟩
/-- what was only asked leaves all as it was -/
theorem Rel_ask {G : nG} {M : nM} {n q : Nat} {f' S' f2 S2 : Nat → Int32} (h : Rel G M n q) : Rel G (n_set (n_set (n_up (n_set (n_set M 46 f') 47 S') 107 0 0) 131 f2) 132 S2) n q := by
  obtain ⟨⟨hst, hmv, hbk, hlw, hsp, hcu, hli, hsw, hpk, hbx, hky, hcl, hsh, hrw, hgf, hmi⟩, hpr, hrd, hck, hwd, him⟩ := id h
  obtain ⟨M1, hM1⟩ : ∃ M1, M1 = n_set (n_set (n_up (n_set (n_set M 46 f') 47 S') 107 0 0) 131 f2) 132 S2 := ⟨_, rfl⟩
  rw [← hM1]
  have e : ∀ c, c ≠ 46 → c ≠ 47 → c ≠ 107 → c ≠ 131 → c ≠ 132 → M1 c = M c := fun c g1 g2 g3 g4 g5 => by rw [hM1, n_set_ne g5, n_set_ne g4, n_up_ne g3, n_set_ne g2, n_set_ne g1]
  have e7 : ∀ k, k ≠ 0 → M1 107 k = M 107 k := fun k hk => by rw [hM1, n_set_ne (by decide), n_set_ne (by decide), n_up_eq, upd_ne hk, n_set_ne (by decide), n_set_ne (by decide)]
  refine Rel_mov h (fun c hc => ?_) (fun k hk => e7 k (fun z => by subst z; exact absurd hk (by decide))) ?_ ?_ ?_ ?_ ?_ ?_
  · obtain ⟨g1, g2, g3, g4, g5, g6, g7⟩ := mvc_no hc
    exact e c g1 g2 g3 g6 g7
  · rw [e 9 (by decide) (by decide) (by decide) (by decide) (by decide), e 10 (by decide) (by decide) (by decide) (by decide) (by decide), e 11 (by decide) (by decide) (by decide) (by decide) (by decide), e 12 (by decide) (by decide) (by decide) (by decide) (by decide), e 13 (by decide) (by decide) (by decide) (by decide) (by decide), e 108 (by decide) (by decide) (by decide) (by decide) (by decide)]
    exact hmv
  · rw [e 15 (by decide) (by decide) (by decide) (by decide) (by decide), e 116 (by decide) (by decide) (by decide) (by decide) (by decide)]
    exact hbk
  · obtain ⟨k, x, p1, p2, p3, p4, p5, p6⟩ := hpr
    refine ⟨k, x, p1, p2, by rw [e 48 (by decide) (by decide) (by decide) (by decide) (by decide)]; exact p3, by rw [e 48 (by decide) (by decide) (by decide) (by decide) (by decide)]; exact p4, by rw [e7 3 (by decide)]; exact p5, fun j hj => ?_⟩
    exact p_mov_c (by omega) (fun c g1 g2 => e c (by omega) (by omega) (by omega) (by omega) (by omega)) (fun t ht => by rw [e 109 (by decide) (by decide) (by decide) (by decide) (by decide)]) (p6 j hj)
  · rw [e 9 (by decide) (by decide) (by decide) (by decide) (by decide)]
    exact hck.1
  · rw [e 93 (by decide) (by decide) (by decide) (by decide) (by decide)]
    exact hck.2.1
  · rw [e7 5 (by decide)]
    exact hck.2.2.2.2.2.2.2.2.2.2.2.2.2.2
theorem st_tells {G : nG} {M : nM} {n q N : Nat} (hN : 1000 ≤ N) (hG : n_GOK G) (h : Rel G M n q) (x y z w : Int32) : Stq G (fX11_tells N G x y z w) (fX12_tells N x y z w) M := by
  obtain ⟨⟨hst, hmv, hbk, hlw, hsp, hcu, hli, hsw, hpk, hbx, hky, hcl, hsh, hrw, hgf, hmi⟩, hpr, hrd, hck, hwd, him⟩ := id h
  obtain ⟨⟨s1, s2⟩, ⟨s3, s4⟩, ⟨s5, s6⟩, s7, s8, s9, s10, s11⟩ := id hst
  obtain ⟨ls, l1, l2⟩ := r_law_x hlw
  have s5' : n_up M 107 0 0 107 6 = nI n := s5
  have s6' : n_up M 107 0 0 107 7 = nI q := s6
  unfold Stq fX11_tells fX12_tells fX12_palmsOf fX12_farOf fX12_findsOf
  cases hx : wn x q with
  | false =>
    simp only [e_hasPerson s4, e_isPerson s6', hx, wp_bind, wp_some, wp_chk, ↓reduceIte, not_true_eq_false, not_false_eq_true, z10, z01, zm0, z0m, zm1, z1m, true_and, and_true, cb_t, cb_f, cb0, cb1, eq_self, Bool.false_eq_true, Bool.true_eq_false, reduceCtorEq]
    exact ⟨n, q, h⟩
  | true =>
  cases hy : wn y n with
  | false =>
    simp only [e_hasPerson s4, e_isPerson s6', e_hasThing s3, e_isThing s5', hx, hy, wp_bind, wp_some, wp_chk, ↓reduceIte, not_true_eq_false, not_false_eq_true, z10, z01, zm0, z0m, zm1, z1m, true_and, and_true, cb_t, cb_f, cb0, cb1, eq_self, Bool.false_eq_true, Bool.true_eq_false, reduceCtorEq]
    exact ⟨n, q, h⟩
  | true =>
  cases hz : wn z 12 with
  | false =>
    simp only [e_hasPerson s4, e_isPerson s6', e_hasThing s3, e_isThing s5', e_hasPlace, e_isPlace, hx, hy, hz, wp_bind, wp_some, wp_chk, ↓reduceIte, not_true_eq_false, not_false_eq_true, z10, z01, zm0, z0m, zm1, z1m, true_and, and_true, cb_t, cb_f, cb0, cb1, eq_self, Bool.false_eq_true, Bool.true_eq_false, reduceCtorEq]
    exact ⟨n, q, h⟩
  | true =>
  cases hw : wi w 0 2 with
  | false =>
    have w0 : ¬ w = 0 := fun e => by subst e; exact absurd hw (by decide)
    have w1 : ¬ w = 1 := fun e => by subst e; exact absurd hw (by decide)
    have w2 : ¬ w = 2 := fun e => by subst e; exact absurd hw (by decide)
    simp only [e_hasPerson s4, e_isPerson s6', e_hasThing s3, e_isThing s5', e_hasPlace, e_isPlace, e_within, hx, hy, hz, hw, w0, w1, w2, wp_bind, wp_some, wp_chk, ↓reduceIte, not_true_eq_false, not_false_eq_true, z10, z01, zm0, z0m, zm1, z1m, true_and, and_true, cb_t, cb_f, cb0, cb1, eq_self, Bool.false_eq_true, Bool.true_eq_false, reduceCtorEq]
    exact ⟨n, q, h⟩
  | true =>
  obtain ⟨p, hp, rfl⟩ := wn_t (by omega) hx
  obtain ⟨t, ht, rfl⟩ := wn_t (by omega) hy
  obtain ⟨pl, hpl, rfl⟩ := wn_t (by omega) hz
  obtain ⟨v, hv, rfl⟩ := wi_nI (n := 2) (by decide) hw
  obtain ⟨f', S', ec⟩ := e_askC (N := N) (w := v) hN (n_Mv9 hG) (by decide) hst hmv l1 (by omega) (show p < 12 by omega) (show t < 16 by omega) hpl
  obtain ⟨f2, S2, em⟩ := e_askM (N := N) (M := n_up (n_set (n_set M 46 f') 47 S') 107 0 0) (n := n) (w := v) hN s5 s1 l2 (by omega) (show p < 12 by omega) (show t < 16 by omega) hpl
  have s5'' : n_up (n_set (n_set M 46 f') 47 S') 107 0 0 107 6 = nI n := s5
  have s6'' : n_up (n_set (n_set M 46 f') 47 S') 107 0 0 107 7 = nI q := s6
  have hR := Rel_ask (f' := f') (S' := S') (f2 := f2) (S2 := S2) h
  have hans : p_ask ls (p_F (M 114) (M 115) (M 112) (M 113) (M 108) n p t pl) v = p_ask ls (p_F (n_up (n_set (n_set M 46 f') 47 S') 107 0 0 114) (n_up (n_set (n_set M 46 f') 47 S') 107 0 0 115) (n_up (n_set (n_set M 46 f') 47 S') 107 0 0 112) (n_up (n_set (n_set M 46 f') 47 S') 107 0 0 113) (n_up (n_set (n_set M 46 f') 47 S') 107 0 0 108) n p t pl) v := rfl
  rcases (show v = 0 ∨ v = 1 ∨ v = 2 by omega) with rfl | rfl | rfl
  · have em' : fX12_lawTells N (nI p) (nI t) (nI pl) 0 1000 (n_up (n_set (n_set M 46 f') 47 S') 107 0 0) = _ := em
    simp only [e_hasPerson s4, e_isPerson s6'', e_hasThing s3, e_isThing s5'', e_hasPlace, e_isPlace, e_within, hx, hy, hz, hw, ec, em', show (nI 0 = (0 : Int32)) = True from eq_true rfl, wp_bind, wp_some, wp_chk, ↓reduceIte, not_true_eq_false, not_false_eq_true, z10, z01, zm0, z0m, zm1, z1m, true_and, and_true, cb_t, cb_f, cb0, cb1, eq_self, Bool.false_eq_true, Bool.true_eq_false, reduceCtorEq]
    exact ⟨hans, n, q, hR⟩
  · have em' : fX12_lawTells N (nI p) (nI t) (nI pl) 1 99 (n_up (n_set (n_set M 46 f') 47 S') 107 0 0) = _ := em
    simp only [e_hasPerson s4, e_isPerson s6'', e_hasThing s3, e_isThing s5'', e_hasPlace, e_isPlace, e_within, hx, hy, hz, hw, ec, em', show (nI 1 = (0 : Int32)) = False from eq_false (by decide), show (nI 1 = (1 : Int32)) = True from eq_true rfl, wp_bind, wp_some, wp_chk, ↓reduceIte, not_true_eq_false, not_false_eq_true, z10, z01, zm0, z0m, zm1, z1m, true_and, and_true, cb_t, cb_f, cb0, cb1, eq_self, Bool.false_eq_true, Bool.true_eq_false, reduceCtorEq]
    exact ⟨hans, n, q, hR⟩
  · have em' : fX12_lawTells N (nI p) (nI t) (nI pl) 2 1000 (n_up (n_set (n_set M 46 f') 47 S') 107 0 0) = _ := em
    simp only [e_hasPerson s4, e_isPerson s6'', e_hasThing s3, e_isThing s5'', e_hasPlace, e_isPlace, e_within, hx, hy, hz, hw, ec, em', show (nI 2 = (0 : Int32)) = False from eq_false (by decide), show (nI 2 = (1 : Int32)) = False from eq_false (by decide), show (nI 2 = (2 : Int32)) = True from eq_true rfl, wp_bind, wp_some, wp_chk, ↓reduceIte, not_true_eq_false, not_false_eq_true, z10, z01, zm0, z0m, zm1, z1m, true_and, and_true, cb_t, cb_f, cb0, cb1, eq_self, Bool.false_eq_true, Bool.true_eq_false, reduceCtorEq]
    exact ⟨hans, n, q, hR⟩
