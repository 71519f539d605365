/-! ===== fits: all orders as a tree ===== -/
def f_us (w : Nat → Nat) (p : Nat) : Nat → Bool
  | 0 => false
  | k + 1 => f_us w p k || decide (w k = p)
theorem f_us_t {w : Nat → Nat} {p : Nat} : ∀ k : Nat, f_us w p k = true ↔ ∃ i, i < k ∧ w i = p
  | 0 => ⟨fun h => absurd (show false = true from h) (by decide), fun ⟨i, h, _⟩ => absurd h (by omega)⟩
  | k + 1 => by
    unfold f_us
    rw [Bool.or_eq_true, f_us_t k]
    constructor
    · rintro (⟨i, h1, h2⟩ | h)
      · exact ⟨i, by omega, h2⟩
      · exact ⟨k, by omega, of_decide_eq_true h⟩
    · rintro ⟨i, h1, h2⟩
      by_cases e : i = k
      · subst e; exact Or.inr (decide_eq_true h2)
      · exact Or.inl ⟨i, by omega, h2⟩
theorem f_us_c {w w' : Nat → Nat} {p : Nat} : ∀ k : Nat, (∀ i, i < k → w i = w' i) → f_us w p k = f_us w' p k
  | 0, _ => rfl
  | k + 1, h => by
    unfold f_us
    rw [f_us_c k (fun i hi => h i (by omega)), h k (by omega)]
def f_up (w : Nat → Nat) (k p j : Nat) : Nat := if j = k then p else w j
theorem f_up_e {w : Nat → Nat} {k p : Nat} : f_up w k p k = p := if_pos rfl
theorem f_up_n {w : Nat → Nat} {k p j : Nat} (h : j ≠ k) : f_up w k p j = w j := if_neg h
def f_fo {α : Type} (g : Nat → α → α) : Nat → α → α
  | 0, a => a
  | r + 1, a => f_fo g r (g (7 - r) a)
theorem f_fo_c {α : Type} {g h : Nat → α → α} : ∀ (r : Nat) (a : α), r ≤ 8 → (∀ p b, p < 8 → g p b = h p b) → f_fo g r a = f_fo h r a
  | 0, _, _, _ => rfl
  | r + 1, a, hr, e => by
    show f_fo g r (g (7 - r) a) = f_fo h r (h (7 - r) a)
    rw [e (7 - r) a (by omega), f_fo_c r _ (by omega) e]
theorem f_fo_s {α : Type} {g : Nat → α → α} {a : α} : ∀ r : Nat, r ≤ 8 → (∀ p, 8 - r ≤ p → p < 8 → g p a = a) → f_fo g r a = a
  | 0, _, _ => rfl
  | r + 1, hr, e => by
    show f_fo g r (g (7 - r) a) = a
    rw [e (7 - r) (by omega) (by omega)]
    exact f_fo_s r (by omega) (fun p h1 h2 => e p (by omega) h2)
def f_tf {α : Type} (st : α → (Nat → Nat) → α) : Nat → (Nat → Nat) → α → α
  | 0, w, a => st a w
  | m + 1, w, a => f_fo (fun p b => if f_us w p (7 - m) = true then b else f_tf st m (f_up w (7 - m) p) b) 8 a
theorem f_tf_c {α : Type} {st : α → (Nat → Nat) → α} (hs : ∀ a w w', (∀ i, i < 8 → w i = w' i) → st a w = st a w') : ∀ (m : Nat) (w w' : Nat → Nat) (a : α), m ≤ 8 → (∀ i, i < 8 - m → w i = w' i) → f_tf st m w a = f_tf st m w' a
  | 0, w, w', a, _, h => hs a w w' h
  | m + 1, w, w', a, hm, h => by
    show f_fo _ 8 a = f_fo _ 8 a
    refine f_fo_c 8 a (Nat.le_refl _) fun p b hp => ?_
    rw [f_us_c (7 - m) (fun i hi => h i (by omega))]
    split
    · rfl
    · refine f_tf_c hs m _ _ b (by omega) fun i hi => ?_
      unfold f_up
      by_cases e : i = 7 - m
      · rw [if_pos e, if_pos e]
      · rw [if_neg e, if_neg e]; exact h i (by omega)
/-- how many of the tree's leaves -/
def f_cT (fit : (Nat → Nat) → Bool) : Nat → (Nat → Nat) → Nat
  | 0, w => if fit w = true then 1 else 0
  | m + 1, w => f_T (fun p => !f_us w p (7 - m)) (fun p => f_cT fit m (f_up w (7 - m) p)) 8
theorem f_fo_n {α : Type} {g : Nat → α → α} {b : Nat → Bool} {V : Nat → Nat} (q : α → Nat) (hg : ∀ p a, p < 8 → q (g p a) = q a + if b p = true then V p else 0) : ∀ (r : Nat) (a : α), r ≤ 8 → q (f_fo g r a) = q a + f_T b V r
  | 0, a, _ => rfl
  | r + 1, a, hr => by
    show q (f_fo g r (g (7 - r) a)) = q a + ((if b (7 - r) = true then V (7 - r) else 0) + f_T b V r)
    rw [f_fo_n q hg r _ (by omega), hg (7 - r) a (by omega)]
    omega
theorem f_tf_n {α : Type} {st : α → (Nat → Nat) → α} {fit : (Nat → Nat) → Bool} (q : α → Nat) (hq : ∀ a w, q (st a w) = q a + if fit w = true then 1 else 0) : ∀ (m : Nat) (w : Nat → Nat) (a : α), q (f_tf st m w a) = q a + f_cT fit m w
  | 0, w, a => hq a w
  | m + 1, w, a => by
    refine f_fo_n (b := fun p => !f_us w p (7 - m)) (V := fun p => f_cT fit m (f_up w (7 - m) p)) q (fun p b _ => ?_) 8 a (Nat.le_refl _)
    cases f_us w p (7 - m) with
    | true => rfl
    | false => exact f_tf_n q hq m _ b
theorem f_fo_b {α : Type} {g : Nat → α → α} {b : Nat → Bool} {V : Nat → Nat} (q : α → Bool) (hg : ∀ p a, p < 8 → q (g p a) = (q a || (b p && decide (0 < V p)))) : ∀ (r : Nat) (a : α), r ≤ 8 → q (f_fo g r a) = (q a || decide (0 < f_T b V r))
  | 0, a, _ => by
    show q a = (q a || decide (0 < 0))
    simp
  | r + 1, a, hr => by
    show q (f_fo g r (g (7 - r) a)) = (q a || decide (0 < (if b (7 - r) = true then V (7 - r) else 0) + f_T b V r))
    rw [f_fo_b q hg r _ (by omega), hg (7 - r) a (by omega)]
    cases b (7 - r) with
    | false => simp
    | true =>
      rw [if_pos rfl, Bool.or_assoc]
      congr 1
      rw [Bool.true_and, ← Bool.decide_or]
      exact decide_eq_decide.mpr (by omega)
theorem f_tf_b {α : Type} {st : α → (Nat → Nat) → α} {fit : (Nat → Nat) → Bool} (q : α → Bool) (hq : ∀ a w, q (st a w) = (q a || fit w)) : ∀ (m : Nat) (w : Nat → Nat) (a : α), q (f_tf st m w a) = (q a || decide (0 < f_cT fit m w))
  | 0, w, a => by
    show q (st a w) = _
    rw [hq]
    by_cases h : fit w = true
    · have e : f_cT fit 0 w = 1 := if_pos h
      simp [e, h]
    · have e : f_cT fit 0 w = 0 := if_neg h
      simp [e, h]
  | m + 1, w, a => by
    refine f_fo_b (b := fun p => !f_us w p (7 - m)) (V := fun p => f_cT fit m (f_up w (7 - m) p)) q (fun p b _ => ?_) 8 a (Nat.le_refl _)
    cases f_us w p (7 - m) with
    | true =>
      show q b = (q b || (false && _))
      rw [Bool.false_and, Bool.or_false]
    | false => exact f_tf_b q hq m _ b
def f_pr (ok : Nat → Nat → Bool) (w : Nat → Nat) : Nat → Bool
  | 0 => true
  | k + 1 => f_pr ok w k && ok k (w k)
theorem f_pr_c {ok : Nat → Nat → Bool} {w w' : Nat → Nat} : ∀ k : Nat, (∀ i, i < k → w i = w' i) → f_pr ok w k = f_pr ok w' k
  | 0, _ => rfl
  | k + 1, h => by
    unfold f_pr
    rw [f_pr_c k (fun i hi => h i (by omega)), h k (by omega)]
theorem f_T_z {b : Nat → Bool} {V : Nat → Nat} (h : ∀ p, p < 8 → b p = true → V p = 0) : ∀ d : Nat, d ≤ 8 → f_T b V d = 0
  | 0, _ => rfl
  | d + 1, hd => by
    show (if b (7 - d) = true then V (7 - d) else 0) + f_T b V d = 0
    rw [f_T_z h d (by omega)]
    by_cases hb : b (7 - d) = true
    · rw [if_pos hb, h _ (by omega) hb]
    · rw [if_neg hb]
theorem f_T_g {b c : Nat → Bool} {V U : Nat → Nat} (h : ∀ p, p < 8 → (if b p = true then V p else 0) = if c p = true then U p else 0) : ∀ d : Nat, d ≤ 8 → f_T b V d = f_T c U d
  | 0, _ => rfl
  | d + 1, hd => by
    show (if b (7 - d) = true then V (7 - d) else 0) + f_T b V d = (if c (7 - d) = true then U (7 - d) else 0) + f_T c U d
    rw [f_T_g h d (by omega), h (7 - d) (by omega)]
theorem f_cC {ok : Nat → Nat → Bool} {fit : (Nat → Nat) → Bool} (hf : ∀ w, fit w = f_pr ok w 8) : ∀ (m s : Nat) (w : Nat → Nat), m ≤ 8 → (∀ p, p < 8 → s.testBit p = f_us w p (8 - m)) → f_cT fit m w = if f_pr ok w (8 - m) = true then f_C ok m s else 0
  | 0, s, w, _, _ => by
    show (if fit w = true then 1 else 0) = if f_pr ok w 8 = true then 1 else 0
    rw [hf]
  | m + 1, s, w, hm, hs => by
    have hk : 8 - (m + 1) = 7 - m := by omega
    rw [hk] at hs ⊢
    show f_T (fun p => !f_us w p (7 - m)) (fun p => f_cT fit m (f_up w (7 - m) p)) 8 = if f_pr ok w (7 - m) = true then f_T (fun p => !s.testBit p && ok (7 - m) p) (fun p => f_C ok m (s ||| 2 ^ p)) 8 else 0
    have hV : ∀ p, p < 8 → f_cT fit m (f_up w (7 - m) p) = if (f_pr ok w (7 - m) && ok (7 - m) p) = true then f_C ok m (s ||| 2 ^ p) else 0 := fun p hp => by
      rw [f_cC hf m (s ||| 2 ^ p) (f_up w (7 - m) p) (by omega) (fun q hq => by
        rw [show 8 - m = (7 - m) + 1 by omega, Nat.testBit_or, hs q hq, Nat.testBit_two_pow]
        show _ = (f_us (f_up w (7 - m) p) q (7 - m) || decide (f_up w (7 - m) p (7 - m) = q))
        rw [f_up_e, f_us_c (w := f_up w (7 - m) p) (w' := w) (7 - m) (fun i hi => f_up_n (by omega))])]
      rw [show 8 - m = (7 - m) + 1 by omega]
      show (if (f_pr ok (f_up w (7 - m) p) (7 - m) && ok (7 - m) (f_up w (7 - m) p (7 - m))) = true then _ else 0) = _
      rw [f_up_e, f_pr_c (w := f_up w (7 - m) p) (w' := w) (7 - m) (fun i hi => f_up_n (by omega))]
    cases hpr : f_pr ok w (7 - m) with
    | false =>
      rw [if_neg (by decide)]
      refine f_T_z (fun p hp _ => ?_) 8 (Nat.le_refl _)
      rw [hV p hp, hpr]
      rfl
    | true =>
      rw [if_pos rfl]
      refine f_T_g (fun p hp => ?_) 8 (Nat.le_refl _)
      rw [hV p hp, hpr, hs p hp, Bool.true_and]
      cases f_us w p (7 - m) <;> cases ok (7 - m) p <;> rfl
/-! ===== fits: the next order ===== -/
def f_As (k : Nat) (w : Nat → Nat) : Prop := ∀ i j, k ≤ i → i < j → j < 8 → w i < w j
def f_De (k : Nat) (w : Nat → Nat) : Prop := ∀ i j, k ≤ i → i < j → j < 8 → w j < w i
def f_Pm (w : Nat → Nat) : Prop := (∀ j, j < 8 → w j < 8) ∧ (∀ i j, i < 8 → j < 8 → w i = w j → i = j) ∧ ∀ v, v < 8 → ∃ j, j < 8 ∧ w j = v
theorem f_Pm_c {w w' σ : Nat → Nat} (h : f_Pm w) (h1 : ∀ j, j < 8 → w' j = w (σ j)) (h2 : ∀ j, j < 8 → σ j < 8) (h3 : ∀ j, j < 8 → σ (σ j) = j) : f_Pm w' := by
  obtain ⟨a1, a2, a3⟩ := h
  refine ⟨fun j hj => by rw [h1 j hj]; exact a1 _ (h2 j hj), fun i j hi hj e => ?_, fun v hv => ?_⟩
  · rw [h1 i hi, h1 j hj] at e
    have := a2 _ _ (h2 i hi) (h2 j hj) e
    rw [← h3 i hi, this, h3 j hj]
  · obtain ⟨j, hj, e⟩ := a3 v hv
    refine ⟨σ j, h2 j hj, ?_⟩
    rw [h1 _ (h2 j hj), h3 j hj]
    exact e
def f_R (W : Nat → Int32) (w : Nat → Nat) : Prop := ∀ j, j < 8 → W j = nI (w j)
theorem no97_eq (N f : Nat) (x4 x5 : Int32) (M : nM) : fX12_goesToNextOrder_97 N (f + 1) x4 x5 M = if x4 ≤ x5 then some ((1 : Int32), M) else n_chk (n_ib 8 x5) (n_chk (n_ib 8 x4) (n_chk (n_ib 8 x5) (n_chk (n_ib 8 x4) (fX12_goesToNextOrder_97 N f (x4 - (1 : Int32)) (x5 + (1 : Int32)) (n_up (n_up M 147 x5.toNatClampNeg (M 147 x4.toNatClampNeg)) 147 x4.toNatClampNeg (M 147 x5.toNatClampNeg)))))) := rfl
theorem no40_eq (N f : Nat) (x1 x2 : Int32) (M : nM) : fX12_goesToNextOrder_40 N (f + 1) x1 x2 M = n_chk (n_ib 8 x2) (n_chk (n_ib 8 x1) (if (M 147 x1.toNatClampNeg) ≤ (M 147 x2.toNatClampNeg) then n_chk (n_ib 8 x1) (n_chk (n_ib 8 x2) (n_chk (n_ib 8 x1) (n_chk (n_ib 8 x2) (fX12_goesToNextOrder_97 N N (7 : Int32) (x1 + (1 : Int32)) (n_up (n_up M 147 x1.toNatClampNeg (M 147 x2.toNatClampNeg)) 147 x2.toNatClampNeg (M 147 x1.toNatClampNeg)))))) else fX12_goesToNextOrder_40 N f x1 (x2 - (1 : Int32)) M)) := rfl
theorem no3_eq (N f : Nat) (x1 : Int32) (M : nM) : fX12_goesToNextOrder_3 N (f + 1) x1 M = if x1 < 0 then fX12_goesToNextOrder_31 N x1 M else n_chk (n_ib 8 x1) (n_chk (n_ib 8 (x1 + (1 : Int32))) (if (M 147 x1.toNatClampNeg) ≤ (M 147 (x1 + (1 : Int32)).toNatClampNeg) then fX12_goesToNextOrder_31 N x1 M else fX12_goesToNextOrder_3 N f (x1 - (1 : Int32)) M)) := rfl
theorem f_swR {W : Nat → Int32} {w : Nat → Nat} {i j : Nat} (h : f_R W w) (hi : i < 8) (hj : j < 8) : f_R (upd (upd W i (W j)) j (W i)) (fun t => w (u_sw i j t)) := fun t ht => by
  show upd (upd W i (W j)) j (W i) t = nI (w (u_sw i j t))
  by_cases e : t = j
  · subst e
    rw [upd_eq, u_sw_2]
    exact h i hi
  · rw [upd_ne e]
    by_cases e2 : t = i
    · subst e2
      rw [upd_eq, u_sw_a]
      exact h j hj
    · rw [upd_ne e2, u_sw_n e2 e]
      exact h t ht
theorem f_upup {D : nM} {W : Nat → Int32} {i j : Nat} : n_up (n_up (n_set D 147 W) 147 i (n_set D 147 W 147 j)) 147 j (n_set D 147 W 147 i) = n_set D 147 (upd (upd W i (W j)) j (W i)) := by
  rw [n_set_eq, n_up_set, n_up_set]
def f_rv (lo hi t : Nat) : Nat := if lo ≤ t ∧ t ≤ hi then lo + hi - t else t
theorem c_no97 {N : Nat} {D : nM} : ∀ (d lo hi f : Nat) (w : Nat → Nat) (W : Nat → Int32), hi < 8 → lo ≤ 8 → hi ≤ lo + d → d < f → f_R W w → ∃ W' : Nat → Int32, f_R W' (fun t => w (f_rv lo hi t)) ∧ fX12_goesToNextOrder_97 N f (nI hi) (nI lo) (n_set D 147 W) = some (1, n_set D 147 W') := by
  intro d
  induction d with
  | zero =>
    intro lo hi f w W h1 h1' h2 hf hR
    obtain ⟨f, rfl⟩ : ∃ g, f = g + 1 := ⟨f - 1, by omega⟩
    refine ⟨W, fun t ht => ?_, ?_⟩
    · show W t = nI (w (f_rv lo hi t))
      rw [hR t ht, show f_rv lo hi t = t by
        unfold f_rv
        split
        · omega
        · rfl]
    · rw [no97_eq, if_pos (nI_le (by omega) (by omega))]
  | succ d ih =>
    intro lo hi f w W h1 h1' h2 hf hR
    obtain ⟨f, rfl⟩ : ∃ g, f = g + 1 := ⟨f - 1, by omega⟩
    by_cases hlt : hi ≤ lo
    · refine ⟨W, fun t ht => ?_, ?_⟩
      · show W t = nI (w (f_rv lo hi t))
        rw [hR t ht, show f_rv lo hi t = t by
          unfold f_rv
          split
          · omega
          · rfl]
      · rw [no97_eq, if_pos (nI_le (by omega) (by omega))]
    · have hlo : lo < 8 := by omega
      obtain ⟨W', r1, r2⟩ := ih (lo + 1) (hi - 1) f (fun t => w (u_sw lo hi t)) (upd (upd W lo (W hi)) hi (W lo)) (by omega) (by omega) (by omega) (by omega) (f_swR hR hlo h1)
      refine ⟨W', fun t ht => ?_, ?_⟩
      · rw [r1 t ht]
        show nI (w (u_sw lo hi (f_rv (lo + 1) (hi - 1) t))) = nI (w (f_rv lo hi t))
        congr 2
        unfold f_rv
        by_cases c1 : lo + 1 ≤ t ∧ t ≤ hi - 1
        · rw [if_pos c1, if_pos (by omega), u_sw_n (by omega) (by omega)]
          omega
        · rw [if_neg c1]
          by_cases c2 : t = lo
          · subst c2
            rw [u_sw_a, if_pos (by omega)]
            omega
          · by_cases c3 : t = hi
            · subst c3
              rw [u_sw_2, if_pos (by omega)]
              omega
            · rw [u_sw_n c2 c3, if_neg (by omega)]
      · have e1 : nI hi - (1 : Int32) = nI (hi - 1) := pk_sub (b := 1) (by omega)
        rw [no97_eq, if_neg (nI_ge (by omega) (by omega)), n_ib_nI hlo (by decide), n_ib_nI h1 (by decide), n_chk_t, n_chk_t, n_chk_t, n_chk_t, nI_clamp (show lo < 2 ^ 31 by omega), nI_clamp (show hi < 2 ^ 31 by omega), e1, nI_1, f_upup]
        exact r2
theorem c_no40 {N k j : Nat} {D : nM} {w : Nat → Nat} {W : Nat → Int32} (hw : ∀ t, t < 8 → w t < 8) (hR : f_R W w) (hk : k < 8) (hj : j < 8) (h1 : w k ≤ w j) : ∀ (d x f : Nat), x = j + d → x < 8 → d < f → (∀ t, j < t → t ≤ x → w t < w k) → fX12_goesToNextOrder_40 N f (nI k) (nI x) (n_set D 147 W) = fX12_goesToNextOrder_97 N N (7 : Int32) (nI (k + 1)) (n_set D 147 (upd (upd W k (W j)) j (W k))) := by
  intro d
  have b1 := hw k hk
  have b2 := hw j hj
  induction d with
  | zero =>
    intro x f hx h8 hf ht
    obtain ⟨f, rfl⟩ : ∃ g, f = g + 1 := ⟨f - 1, by omega⟩
    obtain rfl : x = j := by omega
    rw [no40_eq, n_ib_nI h8 (by decide), n_ib_nI hk (by decide), n_chk_t, n_chk_t, n_chk_t, n_chk_t, n_chk_t, n_chk_t, nI_clamp (show k < 2 ^ 31 by omega), nI_clamp (show x < 2 ^ 31 by omega), f_upup, n_set_eq, nI_1, if_pos (show W k ≤ W x by rw [hR k hk, hR x h8]; exact nI_le h1 (by omega))]
  | succ d ih =>
    intro x f hx h8 hf ht
    obtain ⟨f, rfl⟩ : ∃ g, f = g + 1 := ⟨f - 1, by omega⟩
    have e1 : nI x - (1 : Int32) = nI (x - 1) := pk_sub (b := 1) (by omega)
    have hlt := ht x (by omega) (Nat.le_refl _)
    rw [no40_eq, n_ib_nI h8 (by decide), n_ib_nI hk (by decide), n_chk_t, n_chk_t, nI_clamp (show k < 2 ^ 31 by omega), nI_clamp (show x < 2 ^ 31 by omega), n_set_eq, if_neg (show ¬ W k ≤ W x by rw [hR k hk, hR x h8]; exact nI_ge hlt (by omega)), e1]
    exact ih (x - 1) f (by omega) (by omega) (by omega) (fun t h2 h3 => ht t h2 (by omega))
theorem c_no3 {N k : Nat} {D : nM} {w : Nat → Nat} {W : Nat → Int32} (hw : ∀ t, t < 8 → w t < 8) (hR : f_R W w) (hk : k < 7) (h1 : w k ≤ w (k + 1)) : ∀ (d x f : Nat), x = k + d → x < 7 → d < f → (∀ t, k < t → t ≤ x → w (t + 1) < w t) → fX12_goesToNextOrder_3 N f (nI x) (n_set D 147 W) = fX12_goesToNextOrder_31 N (nI k) (n_set D 147 W) := by
  intro d
  induction d with
  | zero =>
    intro x f hx h8 hf ht
    obtain ⟨f, rfl⟩ : ∃ g, f = g + 1 := ⟨f - 1, by omega⟩
    obtain rfl : x = k := by omega
    have b1 := hw (x + 1) (by omega)
    rw [no3_eq, if_neg (nI_pos (by omega)), nI_1, n_ib_nI (show x < 8 by omega) (by decide), n_ib_nI (show x + 1 < 8 by omega) (by decide), n_chk_t, n_chk_t, nI_clamp (show x < 2 ^ 31 by omega), nI_clamp (show x + 1 < 2 ^ 31 by omega), n_set_eq, if_pos (show W x ≤ W (x + 1) by rw [hR x (by omega), hR (x + 1) (by omega)]; exact nI_le h1 (by omega))]
  | succ d ih =>
    intro x f hx h8 hf ht
    obtain ⟨f, rfl⟩ : ∃ g, f = g + 1 := ⟨f - 1, by omega⟩
    have e1 : nI x - (1 : Int32) = nI (x - 1) := pk_sub (b := 1) (by omega)
    have hlt := ht x (by omega) (Nat.le_refl _)
    have b1 := hw x (by omega)
    rw [no3_eq, if_neg (nI_pos (by omega)), nI_1, n_ib_nI (show x < 8 by omega) (by decide), n_ib_nI (show x + 1 < 8 by omega) (by decide), n_chk_t, n_chk_t, nI_clamp (show x < 2 ^ 31 by omega), nI_clamp (show x + 1 < 2 ^ 31 by omega), n_set_eq, if_neg (show ¬ W x ≤ W (x + 1) by rw [hR x (by omega), hR (x + 1) (by omega)]; exact nI_ge hlt (by omega)), e1]
    exact ih (x - 1) f (by omega) (by omega) (by omega) (fun t h2 h3 => ht t h2 (by omega))
theorem c_noE {N : Nat} {D : nM} {w : Nat → Nat} {W : Nat → Int32} (hN : 1000 ≤ N) (hw : ∀ t, t < 8 → w t < 8) (hR : f_R W w) (hd : f_De 0 w) : fX12_goesToNextOrder N (n_set D 147 W) = some (0, n_set D 147 W) := by
  have go : ∀ (x f : Nat), x < 7 → x < f → fX12_goesToNextOrder_3 N (f + 1) (nI x) (n_set D 147 W) = some (0, n_set D 147 W) := by
    intro x
    induction x with
    | zero =>
      intro f h7 hf
      obtain ⟨f, rfl⟩ : ∃ g, f = g + 1 := ⟨f - 1, by omega⟩
      have hlt := hd 0 1 (Nat.le_refl _) (by omega) (by omega)
      have b1 := hw 0 (by omega)
      rw [no3_eq, if_neg (nI_pos (by omega)), nI_1, n_ib_nI (show 0 < 8 by omega) (by decide), n_ib_nI (show 0 + 1 < 8 by omega) (by decide), n_chk_t, n_chk_t, nI_clamp (show 0 < 2 ^ 31 by omega), nI_clamp (show 0 + 1 < 2 ^ 31 by omega), n_set_eq, if_neg (show ¬ W 0 ≤ W (0 + 1) by rw [hR 0 (by omega), hR (0 + 1) (by omega)]; exact nI_ge hlt (by omega)), show nI 0 - (1 : Int32) = (-1 : Int32) by decide, no3_eq, if_pos (show (-1 : Int32) < 0 by decide)]
      rfl
    | succ x ih =>
      intro f h7 hf
      obtain ⟨f, rfl⟩ : ∃ g, f = g + 1 := ⟨f - 1, by omega⟩
      have hlt := hd (x + 1) (x + 1 + 1) (Nat.zero_le _) (by omega) (by omega)
      have b1 := hw (x + 1) (by omega)
      rw [no3_eq, if_neg (nI_pos (by omega)), nI_1, n_ib_nI (show x + 1 < 8 by omega) (by decide), n_ib_nI (show x + 1 + 1 < 8 by omega) (by decide), n_chk_t, n_chk_t, nI_clamp (show x + 1 < 2 ^ 31 by omega), nI_clamp (show x + 1 + 1 < 2 ^ 31 by omega), n_set_eq, if_neg (show ¬ W (x + 1) ≤ W (x + 1 + 1) by rw [hR (x + 1) (by omega), hR (x + 1 + 1) (by omega)]; exact nI_ge hlt (by omega)), nI_pred]
      exact ih f (by omega) (by omega)
  obtain ⟨g, hg⟩ : ∃ g, N = g + 1 := ⟨N - 1, by omega⟩
  have := go 6 g (by omega) (by omega)
  rw [← hg] at this
  exact this
theorem f_rv_i {lo hi t : Nat} : f_rv lo hi (f_rv lo hi t) = t := by
  unfold f_rv
  by_cases h : lo ≤ t ∧ t ≤ hi
  · rw [if_pos h, if_pos (by omega)]
    omega
  · rw [if_neg h, if_neg h]
theorem f_rv_b {lo t : Nat} (h : t < 8) : f_rv lo 7 t < 8 := by
  unfold f_rv
  split
  · omega
  · exact h
theorem u_sw_8 {a b u : Nat} (h1 : a < 8) (h2 : b < 8) (h : u < 8) : u_sw a b u < 8 := by
  unfold u_sw
  split
  · exact h2
  · split
    · exact h1
    · exact h
/-- the last place behind k whose value is above that at k -/
theorem f_lst {w : Nat → Nat} {k : Nat} : ∀ d x : Nat, x = k + 1 + d → w k < w (k + 1) → ∃ j, k < j ∧ j ≤ x ∧ w k < w j ∧ ∀ t, j < t → t ≤ x → ¬ w k < w t
  | 0, x, hx, h => ⟨k + 1, by omega, by omega, h, fun t h1 h2 => absurd h1 (by omega)⟩
  | d + 1, x, hx, h => by
    by_cases e : w k < w x
    · exact ⟨x, by omega, Nat.le_refl _, e, fun t h1 h2 => absurd h1 (by omega)⟩
    · obtain ⟨j, j1, j2, j3, j4⟩ := f_lst d (x - 1) (by omega) h
      refine ⟨j, j1, by omega, j3, fun t h1 h2 => ?_⟩
      by_cases z : t = x
      · rw [z]; exact e
      · exact j4 t h1 (by omega)
theorem c_noN {N k : Nat} {D : nM} {w : Nat → Nat} {W : Nat → Int32} (hN : 1000 ≤ N) (hP : f_Pm w) (hR : f_R W w) (hk : k < 7) (hd : f_De (k + 1) w) (h1 : w k < w (k + 1)) : ∃ (w' : Nat → Nat) (W' : Nat → Int32), f_R W' w' ∧ f_Pm w' ∧ (∀ i, i < k → w' i = w i) ∧ f_As (k + 1) w' ∧ w k < w' k ∧ (∀ v, w k < v → v < w' k → ∀ t, k ≤ t → t < 8 → w t ≠ v) ∧ fX12_goesToNextOrder N (n_set D 147 W) = some (1, n_set D 147 W') := by
  have hw := hP.1
  obtain ⟨j, j1, j2, j3, j4⟩ := f_lst (w := w) (k := k) (6 - k) 7 (by omega) h1
  have hj8 : j < 8 := by omega
  have hlow : ∀ t, j < t → t ≤ 7 → w t < w k := fun t h2 h3 => by
    have n1 := j4 t h2 h3
    have n2 : w t ≠ w k := fun e => by
      have := hP.2.1 t k (by omega) (by omega) e
      omega
    omega
  obtain ⟨W', r1, r2⟩ := c_no97 (N := N) (D := D) 7 (k + 1) 7 N (fun t => w (u_sw k j t)) (upd (upd W k (W j)) j (W k)) (by omega) (by omega) (by omega) (by omega) (f_swR hR (by omega) hj8)
  refine ⟨fun t => w (u_sw k j (f_rv (k + 1) 7 t)), W', r1, ?_, fun i hi => ?_, ?_, ?_, ?_, ?_⟩
  · refine f_Pm_c (σ := f_rv (k + 1) 7) (w := fun t => w (u_sw k j t)) ?_ (fun t _ => rfl) (fun t ht => f_rv_b ht) (fun t _ => f_rv_i)
    exact f_Pm_c (σ := u_sw k j) hP (fun t _ => rfl) (fun t ht => u_sw_8 (by omega) hj8 ht) (fun t _ => u_sw_s)
  · show w (u_sw k j (f_rv (k + 1) 7 i)) = w i
    rw [show f_rv (k + 1) 7 i = i from if_neg (by omega), u_sw_n (by omega) (by omega)]
  · intro a b ha hab hb
    show w (u_sw k j (f_rv (k + 1) 7 a)) < w (u_sw k j (f_rv (k + 1) 7 b))
    rw [show f_rv (k + 1) 7 a = k + 1 + 7 - a from if_pos (by omega), show f_rv (k + 1) 7 b = k + 1 + 7 - b from if_pos (by omega)]
    have hda : k + 1 ≤ k + 1 + 7 - a := by omega
    generalize ea : k + 1 + 7 - a = x
    generalize eb : k + 1 + 7 - b = y
    have hyx : y < x := by omega
    have hx8 : x < 8 := by omega
    by_cases c1 : x = j
    · rw [c1, u_sw_2, u_sw_n (by omega) (by omega)]
      have := hd y j (by omega) (by omega) hj8
      omega
    · by_cases c2 : y = j
      · rw [c2, u_sw_2, u_sw_n (by omega) c1]
        exact hlow x (by omega) (by omega)
      · rw [u_sw_n (by omega) c1, u_sw_n (by omega) c2]
        exact hd y x (by omega) hyx hx8
  · show w k < w (u_sw k j (f_rv (k + 1) 7 k))
    rw [show f_rv (k + 1) 7 k = k from if_neg (by omega), u_sw_a]
    exact j3
  · intro v v1 v2 t t1 t2 e
    have v2' : v < w (u_sw k j (f_rv (k + 1) 7 k)) := v2
    rw [show f_rv (k + 1) 7 k = k from if_neg (by omega), u_sw_a] at v2'
    have c0 : t ≠ k := fun z => by rw [z] at e; omega
    have c1 : t ≠ j := fun z => by rw [z] at e; omega
    by_cases c2 : j < t
    · have := hlow t c2 (by omega)
      omega
    · have := hd t j (by omega) (by omega) hj8
      omega
  · have s1 := c_no3 (N := N) (D := D) (w := w) (W := W) (k := k) hw hR hk (by omega) (6 - k) 6 N (by omega) (by omega) (by omega) (fun t h2 h3 => hd t (t + 1) (by omega) (by omega) (by omega))
    have s2 := c_no40 (N := N) (D := D) (w := w) (W := W) (k := k) (j := j) hw hR (by omega) hj8 (by omega) (7 - j) 7 N (by omega) (by omega) (by omega) hlow
    have s3 : fX12_goesToNextOrder_31 N (nI k) (n_set D 147 W) = fX12_goesToNextOrder_40 N N (nI k) (7 : Int32) (n_set D 147 W) := if_pos (show (0 : Int32) ≤ nI k from nI_pos' (by omega))
    exact s1.trans (s3.trans (s2.trans r2))
