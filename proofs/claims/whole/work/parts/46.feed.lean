/-! ===== feed ===== -/
theorem bp_b (x : Int32) : x.toInt8.toInt32 &&& 255 = x &&& 255 := by
  apply Int32.toBitVec_inj.mp
  rw [Int32.toBitVec_and, Int32.toBitVec_and, Int8.toBitVec_toInt32, Int32.toBitVec_toInt8]
  apply BitVec.eq_of_getLsbD_eq
  intro i hi
  rw [BitVec.getLsbD_and, BitVec.getLsbD_and]
  have hm : ∀ i < 32, 8 ≤ i → (255 : Int32).toBitVec.getLsbD i = false := by decide
  rcases Nat.lt_or_ge i 8 with z | z
  · rw [BitVec.getLsbD_signExtend, BitVec.getLsbD_signExtend, if_pos z, if_pos hi]
    simp only [z, hi, decide_true, Bool.true_and]
  · rw [hm i hi z]; simp
/-- the byte of x that lies s bits up -/
def by8 (x : Int32) (s : Nat) : Nat := ((x >>> (nI s &&& 31)) &&& 255).toBitVec.toNat
theorem by8_eq (x : Int32) (s : Nat) : by8 x s < 256 ∧ (x >>> (nI s &&& 31)) &&& 255 = nI (by8 x s) := by
  obtain ⟨j, hj, e⟩ := pk_andE (x >>> (nI s &&& 31)) (m := 255) 8 (by decide)
  unfold by8
  rw [e, pk_tn (by omega)]
  exact ⟨hj, rfl⟩
theorem by8_c (x : Int32) {s : Nat} (hs : s ≤ 24) : vp_nar .byte (x.toUInt32 >>> ((nI s).toUInt32 &&& Int32.toUInt32 31)).toInt32.toInt8.toInt32 = (nI (by8 x s)).toInt8.toInt32 := by
  obtain ⟨h1, h2⟩ := by8_eq x s
  generalize hy : (x.toUInt32 >>> ((nI s).toUInt32 &&& Int32.toUInt32 31)).toInt32 = y
  have hi8 : y.toInt8.toInt32.toInt8.toInt32 = y.toInt8.toInt32 := by rw [Int8.toInt8_toInt32]
  have e0 : vp_nar .byte y.toInt8.toInt32 = y.toInt8.toInt32 := hi8
  rw [e0]
  apply (sc_eq hi8 h1).mpr
  rw [bp_b, ← h2, ← hy]
  apply b_ext
  intro i hi
  rw [b_and, b_and, b_255]
  by_cases h8 : i < 8
  · rw [b_ushr s (by omega), b_sshr s (by omega) x hi, if_pos (by omega)]
  · simp [h8]
theorem app_step {M : nM} {N f k s : Nat} (x : Int32) (hk : M 80 9 = nI k) (hk4 : k < 400) (hs : s ≤ 24) : fX6_append_3 N (f + 1) x (nI s) M = fX6_append_3 N f x (nI s + (-8)) (n_up (n_up M 81 k ((nI (by8 x s)).toInt8.toInt32)) 80 9 (nI (k + 1))) := by
  have e : fX6_append_3 N (f + 1) x (nI s) M = if nI s < 0 then some ((), M) else if (400 : Int32) ≤ M 80 9 then some ((), M) else n_chk (n_ib 400 (M 80 9)) (fX6_append_3 N f x (nI s + (-8)) (n_up (n_up M 81 (M 80 9).toNatClampNeg (vp_nar .byte (x.toUInt32 >>> ((nI s).toUInt32 &&& Int32.toUInt32 31)).toInt32.toInt8.toInt32)) 80 9 (n_up M 81 (M 80 9).toNatClampNeg (vp_nar .byte (x.toUInt32 >>> ((nI s).toUInt32 &&& Int32.toUInt32 31)).toInt32.toInt8.toInt32) 80 9 + 1))) := rfl
  have h0 : ¬ nI s < 0 := nI_pos (by omega)
  have h1 : ¬ (400 : Int32) ≤ nI k := nI_ge (b := 400) hk4 (by decide)
  rw [e, if_neg h0, by8_c x hs, n_up_ne (by decide), hk, if_neg h1, n_ib_nI hk4 (by decide), nI_clamp (by omega), nI_1]
  rfl
theorem typ_step {M : nM} {N f k s : Nat} (x : Int32) (hk : M 107 15 = nI k) (hk4 : k < 400) (hs : s ≤ 24) : fX12_types_3 N (f + 1) x (nI s) M = fX12_types_3 N f x (nI s + (-8)) (n_up (n_up M 117 k (nI (by8 x s))) 107 15 (nI (k + 1))) := by
  have e : fX12_types_3 N (f + 1) x (nI s) M = if nI s < 0 then some ((), M) else n_chk (n_ib 400 (M 107 15)) (fX12_types_3 N f x (nI s + (-8)) (n_up (n_up M 117 (M 107 15).toNatClampNeg ((x >>> (nI s &&& 31)) &&& 255)) 107 15 (n_up M 117 (M 107 15).toNatClampNeg ((x >>> (nI s &&& 31)) &&& 255) 107 15 + 1))) := rfl
  have h0 : ¬ nI s < 0 := nI_pos (by omega)
  rw [e, if_neg h0, (by8_eq x s).2, n_up_ne (by decide), hk, n_ib_nI hk4 (by decide), nI_clamp (by omega), nI_1]
  rfl
/-- four bytes of x from k on -/
def w4 (t : Nat → Int32) (k : Nat) (a b c d : Int32) : Nat → Int32 := upd (upd (upd (upd t k a) (k + 1) b) (k + 2) c) (k + 3) d
theorem two_cells {M : nM} {a b k j : Nat} {v w : Int32} {f : Nat → Int32} (hab : a ≠ b) : n_up (n_up (n_set (n_up M b k w) a f) a j v) b k w = n_set (n_up M b k w) a (upd f j v) := by
  funext z
  by_cases h1 : z = b
  · subst h1
    rw [n_up_eq, n_up_ne (Ne.symm hab), n_set_ne (Ne.symm hab), n_set_ne (Ne.symm hab), n_up_eq]
    funext t
    by_cases e : t = k
    · rw [e, upd_eq, upd_eq]
    · rw [upd_ne e]
  · rw [n_up_ne h1]
    by_cases h2 : z = a
    · subst h2
      rw [n_up_eq, n_set_eq, n_set_eq]
    · rw [n_up_ne h2, n_set_ne h2, n_set_ne h2]
theorem n_up_up {M : nM} {a k : Nat} {v w : Int32} : n_up (n_up M a k v) a k w = n_up M a k w := by
  funext z
  by_cases h : z = a
  · subst h
    rw [n_up_eq, n_up_eq, n_up_eq]
    funext t
    by_cases e : t = k
    · rw [e, upd_eq, upd_eq]
    · rw [upd_ne e, upd_ne e, upd_ne e]
  · rw [n_up_ne h, n_up_ne h, n_up_ne h]
theorem two_up {M : nM} {a b k j : Nat} {v w : Int32} (hab : a ≠ b) : n_up (n_up M a j v) b k w = n_set (n_up M b k w) a (upd (M a) j v) := by
  funext z
  by_cases h1 : z = b
  · subst h1
    rw [n_up_eq, n_up_ne (Ne.symm hab), n_set_ne (Ne.symm hab), n_up_eq]
  · rw [n_up_ne h1]
    by_cases h2 : z = a
    · subst h2
      rw [n_up_eq, n_set_eq]
    · rw [n_up_ne h2, n_set_ne h2, n_up_ne h1]
theorem two_setb {M : nM} {a b k : Nat} {u w : Int32} {f : Nat → Int32} (hab : a ≠ b) : n_up (n_set (n_up M b k u) a f) b k w = n_set (n_up M b k w) a f := by
  funext z
  by_cases h1 : z = b
  · subst h1
    rw [n_up_eq, n_set_ne (Ne.symm hab), n_set_ne (Ne.symm hab), n_up_eq, n_up_eq]
    funext t
    by_cases e : t = k
    · rw [e, upd_eq, upd_eq]
    · rw [upd_ne e, upd_ne e, upd_ne e]
  · rw [n_up_ne h1]
    by_cases h2 : z = a
    · subst h2
      rw [n_set_eq, n_set_eq]
    · rw [n_set_ne h2, n_set_ne h2, n_up_ne h1, n_up_ne h1]
theorem two_set {M : nM} {a b k j : Nat} {u v w : Int32} {f : Nat → Int32} (hab : a ≠ b) : n_up (n_up (n_set (n_up M b k u) a f) a j v) b k w = n_set (n_up M b k w) a (upd f j v) := by
  rw [n_up_set, two_setb hab]
theorem e_app {M : nM} {N k : Nat} (hN : 1000 ≤ N) (x : Int32) (hk : M 80 9 = nI k) (hk4 : k + 4 ≤ 400) : fX6_append N x M = some ((), n_set (n_up M 80 9 (nI (k + 4))) 81 (w4 (M 81) k ((nI (by8 x 24)).toInt8.toInt32) ((nI (by8 x 16)).toInt8.toInt32) ((nI (by8 x 8)).toInt8.toInt32) ((nI (by8 x 0)).toInt8.toInt32))) := by
  obtain ⟨f, hf⟩ : ∃ f, N = f + 5 := ⟨N - 5, by omega⟩
  unfold fX6_append
  have g : ∀ N', fX6_append_3 N' (f + 5) x (24 : Int32) M = some ((), n_set (n_up M 80 9 (nI (k + 4))) 81 (w4 (M 81) k ((nI (by8 x 24)).toInt8.toInt32) ((nI (by8 x 16)).toInt8.toInt32) ((nI (by8 x 8)).toInt8.toInt32) ((nI (by8 x 0)).toInt8.toInt32))) := by
    intro N'
    rw [show (24 : Int32) = nI 24 from rfl, app_step x hk (by omega) (by decide), two_up (by decide), show nI 24 + (-8) = nI 16 from rfl]
    rw [app_step (k := k + 1) x (by rw [n_set_ne (by decide), n_up_eq, upd_eq]) (by omega) (by decide), two_set (by decide), show nI 16 + (-8) = nI 8 from rfl]
    rw [app_step (k := k + 2) x (by rw [n_set_ne (by decide), n_up_eq, upd_eq]) (by omega) (by decide), two_set (by decide), show nI 8 + (-8) = nI 0 from rfl]
    rw [app_step (k := k + 3) x (by rw [n_set_ne (by decide), n_up_eq, upd_eq]) (by omega) (by decide), two_set (by decide)]
    have e : ∀ M', fX6_append_3 N' (f + 1) x (nI 0 + (-8)) M' = some ((), M') := fun M' => rfl
    rw [e]
    rfl
  have := g N
  rw [← hf] at this
  exact this
theorem e_typ {M : nM} {N k : Nat} (hN : 1000 ≤ N) (x : Int32) (hk : M 107 15 = nI k) (hk4 : k + 4 ≤ 400) : fX12_types N x M = some ((), n_set (n_up M 107 15 (nI (k + 4))) 117 (w4 (M 117) k (nI (by8 x 24)) (nI (by8 x 16)) (nI (by8 x 8)) (nI (by8 x 0)))) := by
  obtain ⟨f, hf⟩ : ∃ f, N = f + 5 := ⟨N - 5, by omega⟩
  unfold fX12_types
  have g : ∀ N', fX12_types_3 N' (f + 5) x (24 : Int32) M = some ((), n_set (n_up M 107 15 (nI (k + 4))) 117 (w4 (M 117) k (nI (by8 x 24)) (nI (by8 x 16)) (nI (by8 x 8)) (nI (by8 x 0)))) := by
    intro N'
    rw [show (24 : Int32) = nI 24 from rfl, typ_step x hk (by omega) (by decide), two_up (by decide), show nI 24 + (-8) = nI 16 from rfl]
    rw [typ_step (k := k + 1) x (by rw [n_set_ne (by decide), n_up_eq, upd_eq]) (by omega) (by decide), two_set (by decide), show nI 16 + (-8) = nI 8 from rfl]
    rw [typ_step (k := k + 2) x (by rw [n_set_ne (by decide), n_up_eq, upd_eq]) (by omega) (by decide), two_set (by decide), show nI 8 + (-8) = nI 0 from rfl]
    rw [typ_step (k := k + 3) x (by rw [n_set_ne (by decide), n_up_eq, upd_eq]) (by omega) (by decide), two_set (by decide)]
    have e : ∀ M', fX12_types_3 N' (f + 1) x (nI 0 + (-8)) M' = some ((), M') := fun M' => rfl
    rw [e]
    rfl
  have := g N
  rw [← hf] at this
  exact this
theorem set_app {M : nM} {a b k : Nat} {u w : Int32} {f g : Nat → Int32} (hab : a ≠ b) : n_set (n_up (n_set (n_up M b k u) a f) b k w) a g = n_set (n_up M b k w) a g := by
  funext z
  by_cases h2 : z = a
  · rw [h2, n_set_eq, n_set_eq]
  · rw [n_set_ne h2, n_set_ne h2]
    by_cases h1 : z = b
    · subst h1
      rw [n_up_eq, n_set_ne h2, n_up_eq, n_up_eq]
      funext t
      by_cases e : t = k
      · rw [e, upd_eq, upd_eq]
      · rw [upd_ne e, upd_ne e, upd_ne e]
    · rw [n_up_ne h1, n_set_ne h2, n_up_ne h1, n_up_ne h1]
theorem e_app2 {M : nM} {N k : Nat} {t : Nat → Int32} (hN : 1000 ≤ N) (x : Int32) (hk4 : k + 4 ≤ 400) : fX6_append N x (n_set (n_up M 80 9 (nI k)) 81 t) = some ((), n_set (n_up M 80 9 (nI (k + 4))) 81 (w4 t k ((nI (by8 x 24)).toInt8.toInt32) ((nI (by8 x 16)).toInt8.toInt32) ((nI (by8 x 8)).toInt8.toInt32) ((nI (by8 x 0)).toInt8.toInt32))) := by
  rw [e_app (k := k) hN x (by rw [n_set_ne (by decide), n_up_eq, upd_eq]) hk4, set_app (by decide), n_set_eq]
theorem e_typ2 {M : nM} {N k : Nat} {t : Nat → Int32} (hN : 1000 ≤ N) (x : Int32) (hk4 : k + 4 ≤ 400) : fX12_types N x (n_set (n_up M 107 15 (nI k)) 117 t) = some ((), n_set (n_up M 107 15 (nI (k + 4))) 117 (w4 t k (nI (by8 x 24)) (nI (by8 x 16)) (nI (by8 x 8)) (nI (by8 x 0)))) := by
  rw [e_typ (k := k) hN x (by rw [n_set_ne (by decide), n_up_eq, upd_eq]) hk4, set_app (by decide), n_set_eq]
/-- the tapes, as far as they are filled -/
def r_tp (t mt : Nat → Int32) (k : Nat) : Prop := ∀ i, i < k → ∃ b : Nat, b < 256 ∧ t i = (nI b).toInt8.toInt32 ∧ mt i = nI b
theorem r_tp4 {t mt : Nat → Int32} {k : Nat} (h : r_tp t mt k) (x : Int32) : r_tp (w4 t k ((nI (by8 x 24)).toInt8.toInt32) ((nI (by8 x 16)).toInt8.toInt32) ((nI (by8 x 8)).toInt8.toInt32) ((nI (by8 x 0)).toInt8.toInt32)) (w4 mt k (nI (by8 x 24)) (nI (by8 x 16)) (nI (by8 x 8)) (nI (by8 x 0))) (k + 4) := by
  intro i hi
  unfold w4
  by_cases e3 : i = k + 3
  · rw [e3, upd_eq, upd_eq]
    exact ⟨_, (by8_eq x 0).1, rfl, rfl⟩
  rw [upd_ne e3, upd_ne e3]
  by_cases e2 : i = k + 2
  · rw [e2, upd_eq, upd_eq]
    exact ⟨_, (by8_eq x 8).1, rfl, rfl⟩
  rw [upd_ne e2, upd_ne e2]
  by_cases e1 : i = k + 1
  · rw [e1, upd_eq, upd_eq]
    exact ⟨_, (by8_eq x 16).1, rfl, rfl⟩
  rw [upd_ne e1, upd_ne e1]
  by_cases e0 : i = k
  · rw [e0, upd_eq, upd_eq]
    exact ⟨_, (by8_eq x 24).1, rfl, rfl⟩
  rw [upd_ne e0, upd_ne e0]
  exact h i (by omega)
theorem st_feed {G : nG} {M : nM} {n q N : Nat} (hN : 1000 ≤ N) (h : Rel G M n q) (a b c d e : Int32) : Stq G (fX11_feed N a b c d e) (fX12_feed N a b c d e) M := by
  obtain ⟨hhr, hpr, ⟨⟨k, r1, r2, r3, r4⟩, hf1, hf2⟩, hck, hwd, him⟩ := id h
  unfold Stq fX11_feed fX12_feed
  have a1 : nI k + (20 : Int32) = nI (k + 20) := nI_add k 20
  by_cases hk : k ≤ 380
  · have c1 : nI (k + 20) ≤ (400 : Int32) := nI_le (b := 400) (by omega) (by decide)
    have c2 : nI k ≤ (380 : Int32) := nI_le (b := 380) hk (by decide)
    have q0 : r_tp (M 81) (M 117) k := r4
    have q1 := r_tp4 q0 a
    have q2 := r_tp4 q1 b
    have q3 := r_tp4 q2 c
    have q4 := r_tp4 q3 d
    have q5 := r_tp4 q4 e
    rw [r2, a1, if_pos c1]
    simp only [e_app hN a r2 (show k + 4 ≤ 400 by omega), Option.bind_some]
    simp only [e_app2 hN b (show k + 4 + 4 ≤ 400 by omega), Option.bind_some]
    simp only [e_app2 hN c (show k + 4 + 4 + 4 ≤ 400 by omega), Option.bind_some]
    simp only [e_app2 hN d (show k + 4 + 4 + 4 + 4 ≤ 400 by omega), Option.bind_some]
    simp only [e_app2 hN e (show k + 4 + 4 + 4 + 4 + 4 ≤ 400 by omega), Option.bind_some, wp_some]
    generalize w4 (w4 (w4 (w4 (w4 (M 81) _ _ _ _ _) _ _ _ _ _) _ _ _ _ _) _ _ _ _ _) _ _ _ _ _ = T at q5 ⊢
    obtain ⟨M0, hM0⟩ : ∃ M0, M0 = n_up (n_set (n_up M 80 9 (nI (k + 4 + 4 + 4 + 4 + 4))) 81 T) 107 0 0 := ⟨_, rfl⟩
    have g15 : M0 107 15 = nI k := by rw [hM0]; exact r3
    have g117 : M0 117 = M 117 := by rw [hM0]; rfl
    rw [← hM0, g15, if_pos c2]
    simp only [e_typ hN a g15 (show k + 4 ≤ 400 by omega), Option.bind_some]
    simp only [e_typ2 hN b (show k + 4 + 4 ≤ 400 by omega), Option.bind_some]
    simp only [e_typ2 hN c (show k + 4 + 4 + 4 ≤ 400 by omega), Option.bind_some]
    simp only [e_typ2 hN d (show k + 4 + 4 + 4 + 4 ≤ 400 by omega), Option.bind_some]
    simp only [e_typ2 hN e (show k + 4 + 4 + 4 + 4 + 4 ≤ 400 by omega), Option.bind_some, wp_some, g117]
    generalize w4 (w4 (w4 (w4 (w4 (M 117) _ _ _ _ _) _ _ _ _ _) _ _ _ _ _) _ _ _ _ _) _ _ _ _ _ = T2 at q5 ⊢
    subst hM0
    exact ⟨rfl, n, q, hhr, hpr, ⟨⟨k + 4 + 4 + 4 + 4 + 4, by omega, rfl, rfl, q5⟩, hf1, hf2⟩, hck, hwd, him⟩
  · have c1 : ¬ nI (k + 20) ≤ (400 : Int32) := nI_ge (a := 400) (by omega) (by omega)
    have c2 : ¬ nI k ≤ (380 : Int32) := nI_ge (a := 380) (by omega) (by omega)
    have e15 : n_up M 107 0 0 107 15 = nI k := r3
    simp only [r2, a1, c1, e15, c2, wp_bind, wp_some, wp_chk, ↓reduceIte, not_true_eq_false, not_false_eq_true, z10, z01, zm0, z0m, zm1, z1m, true_and, and_true, cb_t, cb_f, cb0, cb1, eq_self, Bool.false_eq_true, Bool.true_eq_false, reduceCtorEq]
    exact ⟨n, q, h⟩
