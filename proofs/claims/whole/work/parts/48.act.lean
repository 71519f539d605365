/-! ===== act, undo ===== -/
theorem m7_0 {M : nM} {v : Int32} : ∀ k, m7c k = false → n_up M 107 0 v 107 k = M 107 k := fun k hk => by
  rw [n_up_eq, upd_ne]
  intro e
  subst e
  exact absurd hk (by decide)
theorem kpC_ne {M : nM} {k x c : Nat} (hx : x < 6) (h : c < 48 ∨ 79 < c) : kpC M k x c = M c := by
  unfold kpC
  rw [n_up_ne (by omega), n_up_ne (by omega), cpM_ne (by omega)]
theorem mvc_out {c : Nat} (h : mvc c = false) : (c < 46 ∨ 79 < c) ∧ c ≠ 9 ∧ c ≠ 10 ∧ c ≠ 11 ∧ c ≠ 12 ∧ c ≠ 13 ∧ c ≠ 15 ∧ (c < 93 ∨ 97 < c) ∧ c ≠ 107 ∧ c ≠ 108 ∧ c ≠ 109 ∧ c ≠ 110 ∧ c ≠ 116 ∧ c ≠ 131 ∧ c ≠ 132 := by
  unfold mvc at h
  simp only [Bool.or_eq_false_iff, Bool.and_eq_false_iff] at h
  obtain ⟨h1, h2, h3, h4, h5, h6, h7, h8⟩ := h
  have nb : ∀ a b : Nat, Nat.ble a b = false → b < a := fun a b g => by
    rcases Nat.lt_or_ge b a with z | z
    · exact z
    · rw [Nat.ble_eq_true_of_le z] at g; cases g
  have ne : ∀ a b : Nat, Nat.beq a b = false → a ≠ b := fun a b g e => by subst e; rw [Nat.beq_refl] at g; cases g
  have g1 : c < 9 ∨ 13 < c := by rcases h1 with z | z; exact Or.inl (nb _ _ z); exact Or.inr (nb _ _ z)
  have g3 : c < 46 ∨ 79 < c := by rcases h3 with z | z; exact Or.inl (nb _ _ z); exact Or.inr (nb _ _ z)
  have g4 : c < 93 ∨ 97 < c := by rcases h4 with z | z; exact Or.inl (nb _ _ z); exact Or.inr (nb _ _ z)
  have g5 : c < 107 ∨ 110 < c := by rcases h5 with z | z; exact Or.inl (nb _ _ z); exact Or.inr (nb _ _ z)
  have g2 := ne _ _ h2
  have g6 := ne _ _ h6
  have g7 := ne _ _ h7
  have g8 := ne _ _ h8
  omega
theorem act_end {G : nG} {M : nM} {n q k x : Nat} (h : Rel G M n q) (hk : k ≤ 6) (hx : x < 6) (hp : ∀ j, j < k → p_mov M ((x + 6 - k + j) % 6) (fun z => M 109 (100 * j + z)) n q) {f z : Nat} {v w : Int32} (hf : f = 6 ∨ f = 7)
    (hm : r_mov (M 9 5) (upd (M 9) f v 6) (upd (M 9) f v 7) (M 9 8) (M 9 9) (M 9 10) (M 9 11) (M 10) (M 11) (M 12) (M 13) (upd (M 108) z w) n q) :
    Rel G (n_up (n_up (n_set (n_up (n_up (kpC M k x) 9 f v) 107 0 0) 109 (kpR k (M 109) (M 108))) 107 3 (nI (if k < 6 then k + 1 else 6))) 108 z w) n q := by
  obtain ⟨⟨hst, hmv, hbk, hlw, hsp, hcu, hli, hsw, hpk, hbx, hky, hcl, hsh, hrw, hgf, hmi⟩, hpr, hrd, hck, hwd, him⟩ := id h
  have e9 : ∀ c, c < 48 ∨ 79 < c → c ≠ 9 → c ≠ 107 → c ≠ 108 → c ≠ 109 → n_up (n_up (n_set (n_up (n_up (kpC M k x) 9 f v) 107 0 0) 109 (kpR k (M 109) (M 108))) 107 3 (nI (if k < 6 then k + 1 else 6))) 108 z w c = M c := fun c g1 g2 g3 g4 g5 => by
    rw [n_up_ne g4, n_up_ne g3, n_set_ne g5, n_up_ne g3, n_up_ne g2, kpC_ne hx g1]
  have e99 : n_up (n_up (n_set (n_up (n_up (kpC M k x) 9 f v) 107 0 0) 109 (kpR k (M 109) (M 108))) 107 3 (nI (if k < 6 then k + 1 else 6))) 108 z w 9 = upd (M 9) f v := by
    rw [n_up_ne (by decide), n_up_ne (by decide), n_set_ne (by decide), n_up_ne (by decide), n_up_eq, kpC_ne hx (by decide)]
  have e108 : n_up (n_up (n_set (n_up (n_up (kpC M k x) 9 f v) 107 0 0) 109 (kpR k (M 109) (M 108))) 107 3 (nI (if k < 6 then k + 1 else 6))) 108 z w 108 = upd (M 108) z w := by
    rw [n_up_eq, n_up_ne (by decide), n_set_ne (by decide), n_up_ne (by decide), n_up_ne (by decide), kpC_ne hx (by decide)]
  have e107 : ∀ t, t ≠ 0 → t ≠ 3 → n_up (n_up (n_set (n_up (n_up (kpC M k x) 9 f v) 107 0 0) 109 (kpR k (M 109) (M 108))) 107 3 (nI (if k < 6 then k + 1 else 6))) 108 z w 107 t = M 107 t := fun t g1 g2 => by
    rw [n_up_ne (by decide), n_up_eq, upd_ne g2, n_set_ne (by decide), n_up_eq, upd_ne g1, n_up_ne (by decide), kpC_ne hx (by decide)]
  refine Rel_mov h (fun c hc => ?_) (fun t ht => ?_) ?_ ?_ ?_ ?_ ?_ ?_
  · obtain ⟨g1, g2, g3, g4, g5, g6, g7, g8, g9, g10, g11, -⟩ := mvc_out hc
    exact e9 c (by omega) g2 g9 g10 g11
  · refine e107 t (fun e => ?_) (fun e => ?_)
    · subst e; exact absurd ht (by decide)
    · subst e; exact absurd ht (by decide)
  · rw [e99, e108, e9 10 (by decide) (by decide) (by decide) (by decide) (by decide), e9 11 (by decide) (by decide) (by decide) (by decide) (by decide), e9 12 (by decide) (by decide) (by decide) (by decide) (by decide), e9 13 (by decide) (by decide) (by decide) (by decide) (by decide)]
    rw [upd_ne (show 5 ≠ f by omega), upd_ne (show 8 ≠ f by omega), upd_ne (show 9 ≠ f by omega), upd_ne (show 10 ≠ f by omega), upd_ne (show 11 ≠ f by omega)]
    exact hm
  · rw [e9 15 (by decide) (by decide) (by decide) (by decide) (by decide), e9 116 (by decide) (by decide) (by decide) (by decide) (by decide)]
    exact hbk
  · refine PR_keep hk hx hp hmv (fun c g1 g2 => ?_) ?_ ?_
    · rw [n_up_ne (by omega), n_up_ne (by omega), n_set_ne (by omega), n_up_ne (by omega), n_up_ne (by omega)]
    · rw [n_up_ne (by decide), n_up_eq, upd_eq]
    · rw [n_up_ne (by decide), n_up_ne (by decide), n_set_eq]
  · rw [e99, upd_ne (by omega)]
    exact hck.1
  · rw [e9 93 (by decide) (by decide) (by decide) (by decide) (by decide)]
    exact hck.2.1
  · rw [e107 5 (by decide) (by decide)]
    exact hck.2.2.2.2.2.2.2.2.2.2.2.2.2.2
theorem r_bits_b {s : Int32} {row : Nat → Int32} {k m p t : Nat} (h : r_bits s row k m p) (ht : t < m) (on : Bool) : (row (k + t) = cb on) ↔ (cb (bt s t) = cb on) := by rw [r_bits_g h ht]
/-- tie, loose, lock, open: the part behind the checks -/
theorem act_tail {G : nG} {M : nM} {n q N : Nat} (hN : 1000 ≤ N) (hG : n_GOK G) (h : Rel G M n q) {v : Nat} (pl on : Bool) (hv : v < if pl = true then 12 else q) :
    wp (fX11_act_107 G (nI v) (cb !pl) (cb on) (if pl = true then M 9 7 else M 9 6) M) (fun a M1 => M1 107 = M 107 ∧ wp (fX12_act_66 N (nI ((if pl = true then 4 else 76) + v)) (cb on) (n_up M1 107 0 0)) (fun u M2 => a = u ∧ ∃ n q : Nat, Rel G M2 n q)) := by
  obtain ⟨⟨hst, hmv, hbk, hlw, hsp, hcu, hli, hsw, hpk, hbx, hky, hcl, hsh, hrw, hgf, hmi⟩, hpr, hrd, hck, hwd, him⟩ := id h
  obtain ⟨⟨s1, s2⟩, -⟩ := id hst
  obtain ⟨m1, m2, m3, m4, m5, m6, m7, m8, m9, m10, m11⟩ := id hmv
  obtain ⟨k, x, p1, p2, p3, p4, p5, p6⟩ := id hpr
  have hv12 : v < 12 := by
    cases pl
    · exact Nat.lt_of_lt_of_le hv s2
    · exact hv
  unfold fX11_act_107 fX12_act_66
  have key : cb (bt (if pl = true then M 9 7 else M 9 6) v) = M 108 ((if pl = true then 4 else 76) + v) := by
    cases pl
    · exact r_bits_g m6 hv12
    · exact r_bits_g m7 hv12
  have hix : (if pl = true then 4 else 76) + v < 100 := by cases pl <;> simp <;> omega
  simp only [e_hasBit (show v < 32 by omega), key, n_ib_nI hix (show 100 < 2 ^ 31 by decide), nI_clamp (show (if pl = true then 4 else 76) + v < 2 ^ 31 by omega), wp_bind, wp_some, wp_chk]
  by_cases hon : M 108 ((if pl = true then 4 else 76) + v) = cb on
  · have hon2 : n_up M 107 0 0 108 ((if pl = true then 4 else 76) + v) = cb on := hon
    simp only [hon, hon2, wp_bind, wp_some, wp_chk, ↓reduceIte, not_true_eq_false, not_false_eq_true, z10, z01, zm0, z0m, zm1, z1m, true_and, and_true, cb_t, cb_f, cb0, cb1, eq_self, Bool.false_eq_true, Bool.true_eq_false, reduceCtorEq]
    exact ⟨n, q, h⟩
  · have e9 : kpC M k x 9 = M 9 := kpC_ne p2 (by decide)
    simp only [hon, e_keepC hG p1 p2 p3 p4, e9, e_withBit, wp_bind, wp_some, wp_chk, ↓reduceIte, not_true_eq_false, not_false_eq_true, z10, z01, zm0, z0m, zm1, z1m, true_and, and_true, cb_t, cb_f, cb0, cb1, eq_self, Bool.false_eq_true, Bool.true_eq_false, reduceCtorEq]
    have fin : ∀ (f : Nat) (w : Int32), f = 6 ∨ f = 7 → r_mov (M 9 5) (upd (M 9) f w 6) (upd (M 9) f w 7) (M 9 8) (M 9 9) (M 9 10) (M 9 11) (M 10) (M 11) (M 12) (M 13) (upd (M 108) ((if pl = true then 4 else 76) + v) (cb on)) n q → wp (if ¬ n_up (n_up (kpC M k x) 9 f w) 107 0 0 108 ((if pl = true then 4 else 76) + v) = cb on then (fX12_keepsAhead N (n_up (n_up (kpC M k x) 9 f w) 107 0 0)).bind fun p1 => n_chk true (some ((1 : Int32), n_up p1.2 108 ((if pl = true then 4 else 76) + v) (cb on))) else some ((0 : Int32), n_up (n_up (kpC M k x) 9 f w) 107 0 0)) (fun u M2 => (1 : Int32) = u ∧ ∃ n q : Nat, Rel G M2 n q) := by
      intro f w hf hm
      have g108 : n_up (n_up (kpC M k x) 9 f w) 107 0 0 108 = M 108 := by rw [n_up_ne (by decide), n_up_ne (by decide), kpC_ne p2 (by decide)]
      have g109 : n_up (n_up (kpC M k x) 9 f w) 107 0 0 109 = M 109 := by rw [n_up_ne (by decide), n_up_ne (by decide), kpC_ne p2 (by decide)]
      have g107 : n_up (n_up (kpC M k x) 9 f w) 107 0 0 107 3 = nI k := by
        rw [n_up_eq, upd_ne (by decide), n_up_ne (by decide), kpC_ne p2 (by decide)]
        exact p5
      rw [g108, if_pos hon, e_keepM hN p1 g107, g108, g109]
      simp only [wp_bind, wp_some, wp_chk, ↓reduceIte, not_true_eq_false, not_false_eq_true, z10, z01, zm0, z0m, zm1, z1m, true_and, and_true, cb_t, cb_f, cb0, cb1, eq_self, Bool.false_eq_true, Bool.true_eq_false, reduceCtorEq]
      exact ⟨n, q, act_end h p1 p2 p6 hf hm⟩
    cases pl with
    | false =>
      simp only [Bool.not_false, wp_bind, wp_some, wp_chk, ↓reduceIte, not_true_eq_false, not_false_eq_true, z10, z01, zm0, z0m, zm1, z1m, true_and, and_true, cb_t, cb_f, cb0, cb1, eq_self, Bool.false_eq_true, Bool.true_eq_false, reduceCtorEq]
      refine ⟨by rw [n_up_ne (by decide), kpC_ne p2 (by decide)], ?_⟩
      exact fin 6 _ (Or.inl rfl) (r_mov_tied (on := on) hv12 hv hmv)
    | true =>
      simp only [Bool.not_true, wp_bind, wp_some, wp_chk, ↓reduceIte, not_true_eq_false, not_false_eq_true, z10, z01, zm0, z0m, zm1, z1m, true_and, and_true, cb_t, cb_f, cb0, cb1, eq_self, Bool.false_eq_true, Bool.true_eq_false, reduceCtorEq]
      refine ⟨by rw [n_up_ne (by decide), kpC_ne p2 (by decide)], ?_⟩
      exact fin 7 _ (Or.inr rfl) (r_mov_locked (on := on) hv12 hmv)
