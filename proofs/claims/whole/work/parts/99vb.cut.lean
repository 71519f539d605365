/-! ===== text: the class cuts it into tokens ===== -/
def tkq (b : Nat → Nat) (k : Nat) : Nat → Nat
  | 0 => 0
  | j + 1 => tx_nx b k (tkq b k j)
def tkp (b : Nat → Nat) (k j : Nat) : Nat := tx_at b k (tkq b k j)
def tx_kd (t v : Nat) : Nat := if t = 2 then 128 + tx_q v else if t = 3 then 2 else if t = 4 then v else t
def TS (b : Nat → Nat) (k m : Nat) (M0 M : nM) : Prop := M 80 5 = nI m ∧ (∀ i, i < m → M 82 i = nI (tx_kd (tx_tg b k (tkp b k i)) (tx_vl b k (tkp b k i))) ∧ (tx_tg b k (tkp b k i) = 3 → M 83 i = nI (tx_vl b k (tkp b k i))) ∧ M 84 i = nI (tkp b k i)) ∧ (∀ a, a ≠ 80 → a ≠ 82 → a ≠ 83 → a ≠ 84 → M a = M0 a) ∧ ∀ i, i ≠ 5 → M 80 i = M0 80 i
theorem tkp_s {b : Nat → Nat} {k m p : Nat} (h : tkp b k m = p) (hp : p < k) : tkp b k (m + 1) = tx_at b k (tx_en b k p) := by
  show tx_at b k (tx_nx b k (tkq b k m)) = _
  have : tx_nx b k (tkq b k m) = tx_en b k p := by
    unfold tx_nx
    rw [show tx_at b k (tkq b k m) = p from h, if_pos hp]
  rw [this]
theorem tx_at_n {b : Nat → Nat} {k p : Nat} (hp : p < k) (h : tx_g (b p) ≠ 0) : tx_at b k p = p := by
  unfold tx_at
  rw [show k - p = (k - (p + 1)) + 1 by omega]
  show (if tx_g (b p) = 0 then tx_nb b (k - (p + 1)) (p + 1) else p) = _
  rw [if_neg h]
theorem tx_at_0 {b : Nat → Nat} {k p : Nat} (hp : p < k) (h : tx_g (b p) = 0) : tx_at b k p = tx_at b k (p + 1) := by
  unfold tx_at
  rw [show k - p = (k - (p + 1)) + 1 by omega]
  show (if tx_g (b p) = 0 then tx_nb b (k - (p + 1)) (p + 1) else p) = _
  rw [if_pos h]
theorem tx_at_k {b : Nat → Nat} {k : Nat} : tx_at b k k = k := by
  unfold tx_at
  rw [Nat.sub_self]
  rfl
theorem c_addT {b : Nat → Nat} {k m : Nat} {M0 M : nM} {x1 x2 x3 : Int32} (h : TS b k m M0 M) (hm : m ≤ 400) (h1 : x1 = nI (tx_kd (tx_tg b k (tkp b k m)) (tx_vl b k (tkp b k m)))) (h2 : tx_tg b k (tkp b k m) = 3 → x2 = nI (tx_vl b k (tkp b k m))) (h3 : x3 = nI (tkp b k m)) : ∃ M' : nM, fX6_addToken x1 x2 x3 M = some ((), M') ∧ TS b k (m + 1) M0 M' := by
  obtain ⟨t1, t2, t3, t4⟩ := h
  refine ⟨n_up (n_up (n_up (n_up M 82 m x1) 83 m x2) 84 m x3) 80 5 (nI (m + 1)), ?_, ?_, ?_, ?_, ?_⟩
  · unfold fX6_addToken
    show (if (400 : Int32) < M 80 5 then _ else _) = _
    have c1 : ∀ v : Int32, n_up M 82 m v 80 5 = nI m := fun v => by rw [n_up_ne (by decide)]; exact t1
    have c2 : ∀ v w : Int32, n_up (n_up M 82 m v) 83 m w 80 5 = nI m := fun v w => by rw [n_up_ne (by decide)]; exact c1 v
    have c3 : ∀ u v w : Int32, n_up (n_up (n_up M 82 m u) 83 m v) 84 m w 80 5 = nI m := fun u v w => by rw [n_up_ne (by decide)]; exact c2 u v
    rw [t1, if_neg (show ¬ (400 : Int32) < nI m from nI_nlt (a := 400) hm (by decide)), n_ib_nI (show m < 401 by omega) (by decide), n_chk_t, nI_clamp (show m < 2 ^ 31 by omega)]
    show n_chk (n_ib 401 (n_up M 82 m x1 80 5)) (n_chk (n_ib 401 (n_up (n_up M 82 m x1) 83 (n_up M 82 m x1 80 5).toNatClampNeg x2 80 5)) (some ((), n_up (n_up (n_up (n_up M 82 m x1) 83 (n_up M 82 m x1 80 5).toNatClampNeg x2) 84 (n_up (n_up M 82 m x1) 83 (n_up M 82 m x1 80 5).toNatClampNeg x2 80 5).toNatClampNeg x3) 80 5 ((n_up (n_up (n_up M 82 m x1) 83 (n_up M 82 m x1 80 5).toNatClampNeg x2) 84 (n_up (n_up M 82 m x1) 83 (n_up M 82 m x1 80 5).toNatClampNeg x2 80 5).toNatClampNeg x3 80 5) + (1 : Int32))))) = _
    rw [c1, n_ib_nI (show m < 401 by omega) (by decide), n_chk_t, nI_clamp (show m < 2 ^ 31 by omega), c2, n_ib_nI (show m < 401 by omega) (by decide), n_chk_t, nI_clamp (show m < 2 ^ 31 by omega), c3, nI_1]
  · rw [n_up_eq, upd_eq]
  · intro i hi
    rw [n_up_ne (show 82 ≠ 80 by decide), n_up_ne (show 82 ≠ 84 by decide), n_up_ne (show 82 ≠ 83 by decide), n_up_eq, n_up_ne (show 83 ≠ 80 by decide), n_up_ne (show 83 ≠ 84 by decide), n_up_eq, n_up_ne (show 83 ≠ 82 by decide), n_up_ne (show 84 ≠ 80 by decide), n_up_eq, n_up_ne (show 84 ≠ 83 by decide), n_up_ne (show 84 ≠ 82 by decide)]
    by_cases e : i = m
    · subst e
      rw [upd_eq, upd_eq, upd_eq]
      exact ⟨h1, h2, h3⟩
    · rw [upd_ne e, upd_ne e, upd_ne e]
      exact t2 i (by omega)
  · intro a a1 a2 a3 a4
    rw [n_up_ne a1, n_up_ne a4, n_up_ne a3, n_up_ne a2]
    exact t3 a a1 a2 a3 a4
  · intro i hi
    rw [n_up_eq, upd_ne hi, n_up_ne (by decide), n_up_ne (by decide), n_up_ne (by decide)]
    exact t4 i hi
theorem ct_eq (N f : Nat) (x1 x2 x3 : Int32) (M : nM) : fX6_cut_14 N (f + 1) x1 x2 x3 M = if x1 ≤ x3 then fX6_cut_169 N x1 M else if (400 : Int32) ≤ x3 then fX6_cut_169 N x1 M else n_chk (n_ib 400 x3) ((fX6_groupOf ((M 81 x3.toNatClampNeg) &&& (255 : Int32)) M).bind fun p1 => if ¬ p1.1 = (3 : Int32) then (if ¬ p1.1 = (1 : Int32) then fX6_cut_116 N (fun x1 x2 x3 M => fX6_cut_14 N f x1 x2 x3 M) x1 x2 x3 p1.1 p1.2 else if x2 = (1 : Int32) then fX6_cut_116 N (fun x1 x2 x3 M => fX6_cut_14 N f x1 x2 x3 M) x1 x2 x3 p1.1 p1.2 else (fX6_groupEnd N x3 x1 p1.2).bind fun p2 => (fX6_wordKind N x3 p2.1 p2.2).bind fun p3 => (fX6_addToken p3.1 (0 : Int32) x3 p3.2).bind fun p4 => fX6_cut_14 N f x1 p1.1 (x3 + (1 : Int32)) p4.2) else n_chk (n_ib 400 x3) ((fJ0_indexOf_0f7a4_t1 N (((p1.2 81 x3.toNatClampNeg) &&& (255 : Int32)).toUInt32 % 65536).toInt32 p1.2).bind fun p7 => if p7.1 < 0 then fX6_cut_77 N (fun x1 x2 x3 M => fX6_cut_14 N f x1 x2 x3 M) x1 x3 p1.1 (1 : Int32) p7.2 else fX6_cut_77 N (fun x1 x2 x3 M => fX6_cut_14 N f x1 x2 x3 M) x1 x3 p1.1 ((p1.2 81 x3.toNatClampNeg) &&& (255 : Int32)) p7.2)) := rfl
theorem ct_g {N f k p : Nat} {b : Nat → Nat} {M : nM} {x2 : Int32} (hC : tx_C b k M) (hp : p < k) : fX6_cut_14 N (f + 1) (nI k) x2 (nI p) M = if ¬ nI (tx_g (b p)) = (3 : Int32) then (if ¬ nI (tx_g (b p)) = (1 : Int32) then fX6_cut_116 N (fun x1 x2 x3 M => fX6_cut_14 N f x1 x2 x3 M) (nI k) x2 (nI p) (nI (tx_g (b p))) M else if x2 = (1 : Int32) then fX6_cut_116 N (fun x1 x2 x3 M => fX6_cut_14 N f x1 x2 x3 M) (nI k) x2 (nI p) (nI (tx_g (b p))) M else (fX6_groupEnd N (nI p) (nI k) M).bind fun p2 => (fX6_wordKind N (nI p) p2.1 p2.2).bind fun p3 => (fX6_addToken p3.1 (0 : Int32) (nI p) p3.2).bind fun p4 => fX6_cut_14 N f (nI k) (nI (tx_g (b p))) (nI (p + 1)) p4.2) else (fJ0_indexOf_0f7a4_t1 N ((nI (b p)).toUInt32 % 65536).toInt32 M).bind fun p7 => if p7.1 < 0 then fX6_cut_77 N (fun x1 x2 x3 M => fX6_cut_14 N f x1 x2 x3 M) (nI k) (nI p) (nI (tx_g (b p))) (1 : Int32) p7.2 else fX6_cut_77 N (fun x1 x2 x3 M => fX6_cut_14 N f x1 x2 x3 M) (nI k) (nI p) (nI (tx_g (b p))) (nI (b p)) p7.2 := by
  have hk := hC.1
  have hb := hC.2 p hp
  rw [ct_eq, if_neg (nI_ge hp (by omega)), if_neg (show ¬ (400 : Int32) ≤ nI p from nI_ge (b := 400) (by omega) (by decide)), n_ib_nI (show p < 400 by omega) (by decide), n_chk_t, nI_clamp (show p < 2 ^ 31 by omega), hb.1, tx_255 _ hb.2, e_gr hb.2, Option.bind_some, nI_1]
  show (if ¬ nI (tx_g (b p)) = (3 : Int32) then _ else n_chk true ((fJ0_indexOf_0f7a4_t1 N (((M 81 p) &&& (255 : Int32)).toUInt32 % 65536).toInt32 M).bind fun p7 => if p7.1 < 0 then fX6_cut_77 N (fun x1 x2 x3 M => fX6_cut_14 N f x1 x2 x3 M) (nI k) (nI p) (nI (tx_g (b p))) (1 : Int32) p7.2 else fX6_cut_77 N (fun x1 x2 x3 M => fX6_cut_14 N f x1 x2 x3 M) (nI k) (nI p) (nI (tx_g (b p))) ((M 81 p) &&& (255 : Int32)) p7.2)) = _
  rw [n_chk_t, hb.1, tx_255 _ hb.2]
theorem tx_gI {x y : Nat} (hy : y < 4) : nI (tx_g x) = nI y ↔ tx_g x = y := nI_eq (by have := tx_g4 x; omega) (by omega)
/-- inside a group, and over blanks -/
theorem ct_skip {N f k p g : Nat} {b : Nat → Nat} {M : nM} (hC : tx_C b k M) (hp : p < k) (hg : tx_g (b p) = 0 ∨ (tx_g (b p) = g ∧ (g = 1 ∨ g = 2))) : fX6_cut_14 N (f + 1) (nI k) (nI g) (nI p) M = fX6_cut_14 N f (nI k) (nI (tx_g (b p))) (nI (p + 1)) M := by
  have k116 : ∀ y : Int32, y = nI (tx_g (b p)) → (¬ y = (2 : Int32) ∨ nI g = (2 : Int32)) → fX6_cut_116 N (fun x1 x2 x3 M => fX6_cut_14 N f x1 x2 x3 M) (nI k) (nI g) (nI p) y M = fX6_cut_14 N f (nI k) y (nI (p + 1)) M := fun y hy h => by
    show (if ¬ y = (2 : Int32) then fX6_cut_14 N f (nI k) y (nI p + (1 : Int32)) M else if nI g = (2 : Int32) then fX6_cut_14 N f (nI k) y (nI p + (1 : Int32)) M else _) = _
    rw [nI_1]
    by_cases z : y = (2 : Int32)
    · rw [if_neg (not_not_intro z), if_pos (h.resolve_left (not_not_intro z))]
    · rw [if_pos z]
  rw [ct_g hC hp]
  rcases hg with h | ⟨h, h1 | h2⟩
  · rw [if_pos (show ¬ nI (tx_g (b p)) = (3 : Int32) by rw [h]; decide), if_pos (show ¬ nI (tx_g (b p)) = (1 : Int32) by rw [h]; decide)]
    exact k116 _ rfl (Or.inl (by rw [h]; decide))
  · subst h1
    rw [if_pos (show ¬ nI (tx_g (b p)) = (3 : Int32) by rw [h]; decide), if_neg (show ¬ ¬ nI (tx_g (b p)) = (1 : Int32) by rw [h]; decide), if_pos (show nI 1 = (1 : Int32) from rfl)]
    exact k116 _ rfl (Or.inl (by rw [h]; decide))
  · subst h2
    rw [if_pos (show ¬ nI (tx_g (b p)) = (3 : Int32) by rw [h]; decide), if_pos (show ¬ nI (tx_g (b p)) = (1 : Int32) by rw [h]; decide)]
    exact k116 _ rfl (Or.inr rfl)
theorem ct_skips {N k e g : Nat} {b : Nat → Nat} {M : nM} (hC : tx_C b k M) (hg : g = 1 ∨ g = 2) (he : e ≤ k) : ∀ (d p f : Nat), p + d = e → (∀ i, p ≤ i → i < e → tx_g (b i) = g) → fX6_cut_14 N (f + d) (nI k) (nI g) (nI p) M = fX6_cut_14 N f (nI k) (nI g) (nI e) M := by
  intro d
  induction d with
  | zero =>
    intro p f hp _
    rw [show p = e by omega]
    rfl
  | succ d ih =>
    intro p f hp hi
    have h := hi p (Nat.le_refl _) (by omega)
    have := ct_skip (N := N) (f := f + d) (g := g) hC (show p < k by omega) (Or.inr ⟨h, hg⟩)
    rw [h] at this
    exact this.trans (ih (p + 1) f (by omega) (fun i i1 i2 => hi i (by omega) i2))
theorem TS_C {b : Nat → Nat} {k m : Nat} {M0 M : nM} (h : TS b k m M0 M) (h0 : tx_C b k M0) : tx_C b k M := ⟨h0.1, fun i hi => by rw [h.2.2.1 81 (by decide) (by decide) (by decide) (by decide)]; exact h0.2 i hi⟩
theorem c_cut {N k : Nat} {b : Nat → Nat} {M0 : nM} (hN : 1000 ≤ N) (h0 : tx_C b k M0) : ∀ (D d : Nat), d ≤ D → ∀ (p m g f : Nat) (M : nM), p + d = k → d < f → TS b k m M0 M → m ≤ p → tkp b k m = tx_at b k p → g < 4 → (p < k → tx_g (b p) = g → g = 0 ∨ g = 3) → (∀ i, i < m → tkp b k i < k) → ∃ (n : Nat) (M' : nM), fX6_cut_14 N f (nI k) (nI g) (nI p) M = some ((), M') ∧ TS b k (n + 1) M0 M' ∧ tkp b k n = k ∧ (∀ i, i < n → tkp b k i < k) ∧ n ≤ k := by
  have hk := h0.1
  intro D
  induction D with
  | zero =>
    intro d hd p m g f M hp hf hT hm ht hg hgg hlt
    obtain ⟨f, rfl⟩ : ∃ g, f = g + 1 := ⟨f - 1, by omega⟩
    have epk : p = k := by omega
    subst epk
    rw [tx_at_k] at ht
    have etg : tx_tg b p p = 0 := by
      unfold tx_tg
      rw [if_neg (by omega)]
    obtain ⟨M', m1, m2⟩ := c_addT (x1 := 0) (x2 := 0) (x3 := nI p) hT (by omega) (by rw [ht, etg]; rfl) (fun z => by rw [ht, etg] at z; exact absurd z (by decide)) (by rw [ht])
    refine ⟨m, M', ?_, m2, ht, hlt, hm⟩
    rw [ct_eq, if_pos (nI_le (Nat.le_refl _) (by omega))]
    unfold fX6_cut_169
    rw [m1]
    rfl
  | succ D ih =>
    intro d hd p m g f M hp hf hT hm ht hg hgg hlt
    by_cases hd0 : d = 0
    · exact ih d (by omega) p m g f M hp hf hT hm ht hg hgg hlt
    obtain ⟨f, rfl⟩ : ∃ g, f = g + 1 := ⟨f - 1, by omega⟩
    have hpk : p < k := by omega
    have hC := TS_C hT h0
    have hb := hC.2 p hpk
    by_cases z0 : tx_g (b p) = 0
    · rw [ct_skip (N := N) (f := f) (g := g) hC hpk (Or.inl z0)]
      exact ih (d - 1) (by omega) (p + 1) m (tx_g (b p)) f M (by omega) (by omega) hT (by omega) (by rw [ht]; exact tx_at_0 hpk z0) (tx_g4 _) (fun _ _ => Or.inl z0) hlt
    · have hat := tx_at_n hpk z0
      rw [hat] at ht
      have hnx := tkp_s ht hpk
      have hlt' : ∀ i, i < m + 1 → tkp b k i < k := fun i hi => by
        by_cases e : i = m
        · rw [e, ht]; exact hpk
        · exact hlt i (by omega)
      obtain ⟨en1, en2, en3, en4⟩ := tx_en_b (b := b) hpk
      have g4 := tx_g4 (b p)
      by_cases z3 : tx_g (b p) = 3
      · have een : tx_en b k p = p + 1 := by
          unfold tx_en
          rw [if_pos z3]
        have etg : tx_tg b k p = if tx_mk (b p) = true then 4 else 1 := by
          unfold tx_tg
          rw [if_pos hpk, if_neg (by omega), if_neg (by omega)]
        have evl : tx_vl b k p = b p := by
          unfold tx_vl
          rw [if_neg (by omega), if_neg (by omega)]
        obtain ⟨r, r1, r2⟩ := e_ix (N := N) (M := M) hN hb.2
        rw [ct_g hC hpk, if_neg (show ¬ ¬ nI (tx_g (b p)) = (3 : Int32) by rw [z3]; decide), r1, Option.bind_some]
        have key : ∀ y : Int32, y = nI (tx_kd (tx_tg b k p) (tx_vl b k p)) → ∃ (n : Nat) (M' : nM), fX6_cut_77 N (fun x1 x2 x3 M => fX6_cut_14 N f x1 x2 x3 M) (nI k) (nI p) (nI (tx_g (b p))) y M = some ((), M') ∧ TS b k (n + 1) M0 M' ∧ tkp b k n = k ∧ (∀ i, i < n → tkp b k i < k) ∧ n ≤ k := fun y hy => by
          obtain ⟨M1, m1, m2⟩ := c_addT (x1 := y) (x2 := 0) (x3 := nI p) hT (by omega) (by rw [ht]; exact hy) (fun z => by
            rw [ht, etg] at z
            split at z <;> exact absurd z (by decide)) (by rw [ht])
          obtain ⟨n, M', q1, q2⟩ := ih (d - 1) (by omega) (p + 1) (m + 1) (tx_g (b p)) f M1 (by omega) (by omega) m2 (by omega) (by rw [hnx, een]) g4 (fun _ _ => Or.inr z3) hlt'
          refine ⟨n, M', ?_, q2⟩
          show ((fX6_addToken y (0 : Int32) (nI p) M).bind fun p1 => fX6_cut_14 N f (nI k) (nI (tx_g (b p))) (nI p + (1 : Int32)) p1.2) = _
          rw [m1, Option.bind_some, nI_1]
          exact q1
        by_cases zm : tx_mk (b p) = true
        · rw [if_neg (show ¬ r < 0 from fun y => (r2.mp y) zm)]
          exact key _ (by rw [etg, if_pos zm, evl]; rfl)
        · rw [if_pos (r2.mpr zm)]
          exact key _ (by rw [etg, if_neg zm]; rfl)
      · by_cases z1 : tx_g (b p) = 1
        · have hne : ¬ nI g = (1 : Int32) := fun y => by
            have e1 : g = 1 := (nI_eq (b := 1) (by omega) (by decide)).mp y
            have := hgg hpk (by rw [z1, e1])
            omega
          have etg : tx_tg b k p = if tx_wn b p (tx_en b k p) 28 0 < 28 then 2 else 1 := by
            unfold tx_tg
            rw [if_pos hpk, if_pos z1]
          have evl : tx_vl b k p = tx_wn b p (tx_en b k p) 28 0 := by
            unfold tx_vl
            rw [if_pos z1]
          obtain ⟨M1, m1, m2⟩ := c_addT (x1 := nI (if tx_wn b p (tx_en b k p) 28 0 < 28 then 128 + tx_q (tx_wn b p (tx_en b k p) 28 0) else 1)) (x2 := 0) (x3 := nI p) hT (by omega) (by
            rw [ht, etg, evl]
            split <;> rfl) (fun z => by
            rw [ht, etg] at z
            split at z <;> exact absurd z (by decide)) (by rw [ht])
          rw [ct_g hC hpk, if_pos (show ¬ nI (tx_g (b p)) = (3 : Int32) by rw [z1]; decide), if_neg (show ¬ ¬ nI (tx_g (b p)) = (1 : Int32) by rw [z1]; decide), if_neg hne, e_gend hN hC hpk z3, Option.bind_some]
          show ∃ (n : Nat) (M' : nM), ((fX6_wordKind N (nI p) (nI (tx_en b k p)) M).bind _) = _ ∧ _
          rw [e_wk hN hC en1 en2, Option.bind_some]
          show ∃ (n : Nat) (M' : nM), ((fX6_addToken (nI (if tx_wn b p (tx_en b k p) 28 0 < 28 then 128 + tx_q (tx_wn b p (tx_en b k p) 28 0) else 1)) (0 : Int32) (nI p) M).bind _) = _ ∧ _
          rw [m1, Option.bind_some, z1]
          obtain ⟨f2, rfl⟩ : ∃ f2, f = f2 + (tx_en b k p - (p + 1)) := ⟨f - (tx_en b k p - (p + 1)), by omega⟩
          show ∃ (n : Nat) (M' : nM), fX6_cut_14 N (f2 + (tx_en b k p - (p + 1))) (nI k) (nI 1) (nI (p + 1)) M1 = _ ∧ _
          rw [ct_skips (N := N) (TS_C m2 h0) (Or.inl rfl) en2 (tx_en b k p - (p + 1)) (p + 1) f2 (by omega) (fun i i1 i2 => by rw [en3 z3 i (by omega) i2]; exact z1)]
          exact ih (k - tx_en b k p) (by omega) (tx_en b k p) (m + 1) 1 f2 M1 (by omega) (by omega) m2 (by omega) hnx (by decide) (fun h y => absurd (y.trans z1.symm) (en4 z3 h)) hlt'
        · have z2 : tx_g (b p) = 2 := by omega
          have hne : ¬ nI g = (2 : Int32) := fun y => by
            have e1 : g = 2 := (nI_eq (b := 2) (by omega) (by decide)).mp y
            have := hgg hpk (by rw [z2, e1])
            omega
          have hdg : ∀ i, p ≤ i → i < tx_en b k p → tx_g (b i) = 2 := fun i i1 i2 => by rw [en3 z3 i i1 i2]; exact z2
          have hdp := tx_dig z2
          have etg : tx_tg b k p = if tx_en b k p - p < 5 then 3 else 1 := by
            unfold tx_tg
            rw [if_pos hpk, if_neg z1, if_pos z2]
          have evl : tx_vl b k p = tx_nu b (tx_en b k p - (p + 1)) (p + 1) (b p - 48) := by
            unfold tx_vl
            rw [if_neg z1, if_pos z2]
          obtain ⟨V, hV, hV3⟩ : ∃ V : Nat, fX6_numberOf N (nI p) (nI (tx_en b k p)) M = some (nI V, M) ∧ (tx_en b k p - p < 5 → V = tx_vl b k p) := by
            refine ⟨tx_n4 b (if tx_en b k p - p < 4 then tx_en b k p - p else 4) p 0, ?_, fun h5 => ?_⟩
            · exact c_no5 (N := N) (p := p) (e := tx_en b k p) hC en2 hdg (if tx_en b k p - p < 4 then tx_en b k p - p else 4) p N 0 (by split <;> omega) (Nat.le_refl _) (by split <;> omega)
            · rw [show (if tx_en b k p - p < 4 then tx_en b k p - p else 4) = (tx_en b k p - (p + 1)) + 1 by split <;> omega, evl]
              show tx_n4 b (tx_en b k p - (p + 1)) (p + 1) (10 * 0 + (b p - 48)) = _
              rw [show 10 * 0 + (b p - 48) = b p - 48 by omega]
              exact (tx_n4_u (b := b) (tx_en b k p - (p + 1)) (p + 1) (b p - 48) 1 (fun i i1 i2 => (tx_dig (hdg i (by omega) (by omega))).2) (by omega) (by omega)).1
          have key : ∀ y : Nat, y = tx_kd (tx_tg b k p) (tx_vl b k p) → ∃ (n : Nat) (M' : nM), fX6_cut_149 N (fun x1 x2 x3 M => fX6_cut_14 N f x1 x2 x3 M) (nI k) (nI p) (nI (tx_g (b p))) (nI (tx_en b k p)) (nI y) M = some ((), M') ∧ TS b k (n + 1) M0 M' ∧ tkp b k n = k ∧ (∀ i, i < n → tkp b k i < k) ∧ n ≤ k := fun y hy => by
            obtain ⟨M1, m1, m2⟩ := c_addT (x1 := nI y) (x2 := nI V) (x3 := nI p) hT (by omega) (by rw [ht, hy]) (fun z => by
              rw [ht] at z ⊢
              rw [etg] at z
              by_cases h5 : tx_en b k p - p < 5
              · rw [hV3 h5]
              · rw [if_neg h5] at z
                exact absurd z (by decide)) (by rw [ht])
            show ∃ (n : Nat) (M' : nM), ((fX6_numberOf N (nI p) (nI (tx_en b k p)) M).bind fun p1 => (fX6_addToken (nI y) p1.1 (nI p) p1.2).bind fun p2 => fX6_cut_14 N f (nI k) (nI (tx_g (b p))) (nI p + (1 : Int32)) p2.2) = _ ∧ _
            rw [hV, Option.bind_some]
            show ∃ (n : Nat) (M' : nM), ((fX6_addToken (nI y) (nI V) (nI p) M).bind fun p2 => fX6_cut_14 N f (nI k) (nI (tx_g (b p))) (nI p + (1 : Int32)) p2.2) = _ ∧ _
            rw [m1, Option.bind_some, z2, nI_1]
            obtain ⟨f2, rfl⟩ : ∃ f2, f = f2 + (tx_en b k p - (p + 1)) := ⟨f - (tx_en b k p - (p + 1)), by omega⟩
            show ∃ (n : Nat) (M' : nM), fX6_cut_14 N (f2 + (tx_en b k p - (p + 1))) (nI k) (nI 2) (nI (p + 1)) M1 = _ ∧ _
            rw [ct_skips (N := N) (TS_C m2 h0) (Or.inr rfl) en2 (tx_en b k p - (p + 1)) (p + 1) f2 (by omega) (fun i i1 i2 => hdg i (by omega) i2)]
            exact ih (k - tx_en b k p) (by omega) (tx_en b k p) (m + 1) 2 f2 M1 (by omega) (by omega) m2 (by omega) hnx (by decide) (fun h y => absurd (y.trans z2.symm) (en4 z3 h)) hlt'
          rw [ct_g hC hpk, if_pos (show ¬ nI (tx_g (b p)) = (3 : Int32) by rw [z2]; decide), if_pos (show ¬ nI (tx_g (b p)) = (1 : Int32) by rw [z2]; decide)]
          show ∃ (n : Nat) (M' : nM), (if ¬ nI (tx_g (b p)) = (2 : Int32) then fX6_cut_14 N f (nI k) (nI (tx_g (b p))) (nI p + (1 : Int32)) M else if nI g = (2 : Int32) then fX6_cut_14 N f (nI k) (nI (tx_g (b p))) (nI p + (1 : Int32)) M else (fX6_groupEnd N (nI p) (nI k) M).bind fun p3 => if (p3.1 - nI p) ≤ (4 : Int32) then fX6_cut_149 N (fun x1 x2 x3 M => fX6_cut_14 N f x1 x2 x3 M) (nI k) (nI p) (nI (tx_g (b p))) p3.1 (2 : Int32) p3.2 else fX6_cut_149 N (fun x1 x2 x3 M => fX6_cut_14 N f x1 x2 x3 M) (nI k) (nI p) (nI (tx_g (b p))) p3.1 (1 : Int32) p3.2) = _ ∧ _
          rw [if_neg (show ¬ ¬ nI (tx_g (b p)) = (2 : Int32) by rw [z2]; decide), if_neg hne, e_gend hN hC hpk z3, Option.bind_some, pk_sub (show p ≤ tx_en b k p by omega)]
          by_cases h5 : tx_en b k p - p < 5
          · rw [if_pos (show nI (tx_en b k p - p) ≤ (4 : Int32) from nI_le (b := 4) (by omega) (by decide))]
            exact key 2 (by rw [etg, if_pos h5]; rfl)
          · rw [if_neg (show ¬ nI (tx_en b k p - p) ≤ (4 : Int32) from nI_ge (a := 4) (by omega) (by omega))]
            exact key 1 (by rw [etg, if_neg h5]; rfl)
theorem e_cut {N k : Nat} {b : Nat → Nat} {M : nM} (hN : 1000 ≤ N) (h0 : tx_C b k M) : ∃ (n : Nat) (M' : nM), fX6_cut N (nI k) M = some ((), M') ∧ TS b k (n + 1) (n_up M 80 6 0) M' ∧ tkp b k n = k ∧ (∀ i, i < n → tkp b k i < k) ∧ n ≤ k := by
  have hk := h0.1
  have h1 : tx_C b k (n_up M 80 6 0) := ⟨hk, fun i hi => by rw [n_up_ne (by decide)]; exact h0.2 i hi⟩
  have hT : TS b k 0 (n_up M 80 6 0) (n_up (n_up M 80 5 0) 80 6 0) := by
    refine ⟨by rw [n_up_eq, upd_ne (by decide), n_up_eq, upd_eq]; rfl, fun i hi => absurd hi (by omega), fun a a1 a2 a3 a4 => by rw [n_up_ne a1, n_up_ne a1, n_up_ne a1], fun i hi => ?_⟩
    rw [n_up_eq, n_up_eq, n_up_eq]
    by_cases e : i = 6
    · rw [e, upd_eq, upd_eq]
    · rw [upd_ne e, upd_ne hi, upd_ne e]
  exact c_cut (N := N) hN h1 k k (Nat.le_refl _) 0 0 0 N (n_up (n_up M 80 5 0) 80 6 0) (by omega) (by omega) hT (Nat.le_refl _) rfl (by decide) (fun _ _ => Or.inl rfl) (fun i hi => absurd hi (by omega))
