/-! ===== heir: the tree counted ===== -/
def h_pp (H : Nat → (Nat → Nat) → Bool) : Nat → Nat → (Nat → Nat) → Bool
  | 0, _, _ => true
  | d + 1, k, b => H k b && h_pp H d (k + 1) b
def h_rg : Nat → Nat → List Nat
  | 0, _ => []
  | d + 1, k => k :: h_rg d (k + 1)
theorem h_rg_ge : ∀ (d k j : Nat), j ∈ h_rg d k → k ≤ j ∧ j < k + d
  | 0, k, j, h => absurd h (by show ¬ j ∈ []; simp)
  | d + 1, k, j, h => by
    rcases List.mem_cons.mp h with e | e
    · omega
    · have := h_rg_ge d (k + 1) j e
      omega
theorem h_rg_r : ∀ (d k : Nat), h_rg d k = List.range' k d
  | 0, _ => rfl
  | d + 1, k => by
    rw [List.range'_succ, ← h_rg_r d (k + 1)]
    rfl
/-- H k looks at no place behind k -/
def h_Hi (H : Nat → (Nat → Nat) → Bool) : Prop := ∀ k a b, (∀ j, j ≤ k → a j = b j) → H k a = H k b
theorem h_N_step {H : Nat → (Nat → Nat) → Bool} {R : (Nat → Nat) → Bool} (hH : h_Hi H) (d k : Nat) (a : Nat → Nat) : h_N (fun b => h_pp H (d + 1) k b && R b) (h_rg (d + 1) k) a = (if H k (f_up a k 0) = true then 1 else 0) * h_N (fun b => h_pp H d (k + 1) b && R b) (h_rg d (k + 1)) (f_up a k 0) + (if H k (f_up a k 1) = true then 1 else 0) * h_N (fun b => h_pp H d (k + 1) b && R b) (h_rg d (k + 1)) (f_up a k 1) + (if H k (f_up a k 2) = true then 1 else 0) * h_N (fun b => h_pp H d (k + 1) b && R b) (h_rg d (k + 1)) (f_up a k 2) := by
  have hI : h_I (H k) (h_rg d (k + 1)) := fun x y e => hH k x y (fun j hj => e j (fun z => by have := (h_rg_ge d (k + 1) j z).1; omega))
  have e1 : (fun b => h_pp H (d + 1) k b && R b) = fun b => H k b && (h_pp H d (k + 1) b && R b) := funext fun b => Bool.and_assoc _ _ _
  rw [e1]
  show h_N _ (h_rg d (k + 1)) (f_up a k 0) + h_N _ (h_rg d (k + 1)) (f_up a k 1) + h_N _ (h_rg d (k + 1)) (f_up a k 2) = _
  rw [h_N_and _ _ hI, h_N_and _ _ hI, h_N_and _ _ hI]
theorem h_tf_n {st : hA → (Nat → Nat) → hA} {H : Nat → (Nat → Nat) → Bool} {R : (Nat → Nat) → Bool} (hH : h_Hi H) (q : hA → Nat) (hq : ∀ s a, q (st s a) = q s + if R a = true then 1 else 0) : ∀ (d k : Nat) (a : Nat → Nat) (s : hA), q (h_tf st H d k a s) = q s + h_N (fun b => h_pp H d k b && R b) (h_rg d k) a
  | 0, k, a, s => hq s a
  | d + 1, k, a, s => by
    have go : ∀ v s, q (h_go st H d k a v s) = q s + (if H k (f_up a k v) = true then 1 else 0) * h_N (fun b => h_pp H d (k + 1) b && R b) (h_rg d (k + 1)) (f_up a k v) := fun v s => by
      unfold h_go
      by_cases e : H k (f_up a k v) = true
      · rw [if_pos e, if_pos e, Nat.one_mul, h_tf_n hH q hq d (k + 1) (f_up a k v) s]
      · rw [if_neg e, if_neg e, Nat.zero_mul]; rfl
    rw [h_tf_s, go, go, go, h_N_step hH]
    omega
theorem h_tf_b {st : hA → (Nat → Nat) → hA} {H : Nat → (Nat → Nat) → Bool} {R : (Nat → Nat) → Bool} (hH : h_Hi H) (q : hA → Bool) (hq : ∀ s a, q (st s a) = (q s || R a)) : ∀ (d k : Nat) (a : Nat → Nat) (s : hA), q (h_tf st H d k a s) = (q s || decide (0 < h_N (fun b => h_pp H d k b && R b) (h_rg d k) a))
  | 0, k, a, s => by
    show q (st s a) = _
    rw [hq]
    have e : h_N (fun b => h_pp H 0 k b && R b) (h_rg 0 k) a = if R a = true then 1 else 0 := rfl
    by_cases h : R a = true
    · simp [e, h]
    · simp [e, h]
  | d + 1, k, a, s => by
    have go : ∀ v s, q (h_go st H d k a v s) = (q s || decide (0 < (if H k (f_up a k v) = true then 1 else 0) * h_N (fun b => h_pp H d (k + 1) b && R b) (h_rg d (k + 1)) (f_up a k v))) := fun v s => by
      unfold h_go
      by_cases e : H k (f_up a k v) = true
      · have ih := h_tf_b hH q hq d (k + 1) (f_up a k v) s
        simp only [e, ↓reduceIte, Nat.one_mul]
        exact ih
      · simp [e]
    have hs := h_N_step (H := H) (R := R) hH d k a
    rw [h_tf_s, go, go, go, Bool.or_assoc, Bool.or_assoc, ← Bool.decide_or, ← Bool.decide_or]
    congr 1
    exact decide_eq_decide.mpr (by rw [hs]; omega)
theorem h_tf_P {st : hA → (Nat → Nat) → hA} {H : Nat → (Nat → Nat) → Bool} (P : hA → Prop) (x : Nat) (hs : ∀ s a, a x ≤ 2 → P s → P (st s a)) : ∀ (d k : Nat) (a : Nat → Nat) (s : hA), (x < k → a x ≤ 2) → x < k + d → P s → P (h_tf st H d k a s)
  | 0, k, a, s, h1, h2, h3 => hs s a (h1 (by omega)) h3
  | d + 1, k, a, s, h1, h2, h3 => by
    have go : ∀ v s, v ≤ 2 → P s → P (h_go st H d k a v s) := fun v s hv h => by
      unfold h_go
      split
      · refine h_tf_P P x hs d (k + 1) (f_up a k v) s (fun hl => ?_) (by omega) h
        by_cases e : x = k
        · rw [e, f_up_e]; exact hv
        · rw [f_up_n e]; exact h1 (by omega)
      · exact h
    rw [h_tf_s]
    exact go 2 _ (by decide) (go 1 _ (by decide) (go 0 _ (by decide) h3))
theorem h_pp_t {H : Nat → (Nat → Nat) → Bool} {b : Nat → Nat} : ∀ (d k : Nat), h_pp H d k b = true ↔ ∀ j, k ≤ j → j < k + d → H j b = true
  | 0, k => ⟨fun _ j h1 h2 => absurd h2 (by omega), fun _ => rfl⟩
  | d + 1, k => by
    unfold h_pp
    rw [Bool.and_eq_true, h_pp_t d (k + 1)]
    constructor
    · rintro ⟨h1, h2⟩ j j1 j2
      by_cases e : j = k
      · rw [e]; exact h1
      · exact h2 j (by omega) (by omega)
    · intro h
      exact ⟨h k (Nat.le_refl _) (by omega), fun j j1 j2 => h j (by omega) (by omega)⟩
theorem h_H_i {q : Nat} {F S : Nat → Nat} {al : Nat → Nat → Bool} : h_Hi (fun k a => h_H q F S al k a) := fun k a b e => by
  have hh : ∀ c, c ≤ k → h_cd q F S k c = true → h_h q F S a c = h_h q F S b c := fun c hc hcd => by
    unfold h_cd at hcd
    rw [Bool.and_eq_true, decide_eq_true_eq] at hcd
    exact h_h_c (e c hc) (fun hl => e _ (hcd.1.1 hl)) (fun hl => e _ (hcd.1.2 hl))
  show h_H q F S al k a = h_H q F S al k b
  rw [Bool.eq_iff_iff, h_H_t, h_H_t, e k (Nat.le_refl _)]
  constructor
  · rintro ⟨h1, h2⟩
    exact ⟨h1, fun c hc hcd => by rw [← hh c hc hcd]; exact h2 c hc hcd⟩
  · rintro ⟨h1, h2⟩
    exact ⟨h1, fun c hc hcd => by rw [hh c hc hcd]; exact h2 c hc hcd⟩
/-- all at once, or one by one -/
theorem h_all_P {q : Nat} {F S b : Nat → Nat} {al al' : Nat → Nat → Bool} {R : Bool} (hR : (∀ j, j < q → al' j (b j) = true) ↔ (∀ j, j < q → al j (b j) = true) ∧ R = true) : (h_pp (fun k a => h_H q F S al k a) q 0 b && R) = h_P q F S al' (fun j => decide (j < q)) b := by
  rw [Bool.eq_iff_iff, Bool.and_eq_true, h_pp_t, h_P_t]
  constructor
  · rintro ⟨h1, h2⟩
    refine ⟨fun c hc _ => ?_, fun j hj _ => (hR.mpr ⟨fun j hj => (h_H_t.mp (h1 j (Nat.zero_le _) (by omega))).1, h2⟩) j hj⟩
    have key : ∀ k, k < q → c ≤ k → (F c < q → F c ≤ k) → (S c < q → S c ≤ k) → (c = k ∨ F c = k ∨ S c = k) → h_h q F S b c = true := fun k hk k1 k2 k3 k4 => (h_H_t.mp (h1 k (Nat.zero_le _) (by omega))).2 c k1 (by unfold h_cd; rw [decide_eq_true (And.intro k2 k3), decide_eq_true k4]; rfl)
    by_cases f1 : F c < q ∧ c ≤ F c ∧ (S c < q → S c ≤ F c)
    · exact key (F c) f1.1 f1.2.1 (fun _ => Nat.le_refl _) f1.2.2 (Or.inr (Or.inl rfl))
    · by_cases f2 : S c < q ∧ c ≤ S c ∧ (F c < q → F c ≤ S c)
      · exact key (S c) f2.1 f2.2.1 f2.2.2 (fun _ => Nat.le_refl _) (Or.inr (Or.inr rfl))
      · refine key c hc (Nat.le_refl _) (fun hl => ?_) (fun hl => ?_) (Or.inl rfl)
        · by_cases z : F c ≤ c
          · exact z
          · exfalso
            by_cases y : S c < q
            · by_cases w : S c ≤ F c
              · exact f1 ⟨hl, by omega, fun _ => w⟩
              · exact f2 ⟨y, by omega, fun _ => by omega⟩
            · exact f1 ⟨hl, by omega, fun z => absurd z y⟩
        · by_cases z : S c ≤ c
          · exact z
          · exfalso
            by_cases y : F c < q
            · by_cases w : F c ≤ S c
              · exact f2 ⟨hl, by omega, fun _ => w⟩
              · exact f1 ⟨y, by omega, fun _ => by omega⟩
            · exact f2 ⟨hl, by omega, fun z => absurd z y⟩
  · rintro ⟨h1, h2⟩
    have h3 := hR.mp (fun j hj => h2 j hj (decide_eq_true hj))
    refine ⟨fun k _ hk => h_H_t.mpr ⟨h3.1 k (by omega), fun c hc _ => h1 c (by omega) (h_t_t.mpr (Or.inl (decide_eq_true (by omega))))⟩, h3.2⟩
theorem h_T_N {q : Nat} {F S : Nat → Nat} {al al' : Nat → Nat → Bool} {R : (Nat → Nat) → Bool} (hR : ∀ b, (∀ j, j < q → al' j (b j) = true) ↔ (∀ j, j < q → al j (b j) = true) ∧ R b = true) : h_N (fun b => h_pp (fun k a => h_H q F S al k a) q 0 b && R b) (h_rg q 0) h_g0 = h_T q F S al' := by
  have e1 : (fun b => h_pp (fun k a => h_H q F S al k a) q 0 b && R b) = h_P q F S al' (fun j => decide (j < q)) := funext fun b => h_all_P (hR b)
  have e2 : h_m q (fun j => decide (j < q)) = h_rg q 0 := by
    rw [h_rg_r, ← List.range_eq_range']
    exact List.filter_eq_self.mpr (fun j hj => decide_eq_true (List.mem_range.mp hj))
  unfold h_T h_W
  rw [e1, e2]
theorem h_fin : ∀ b0 b1 b2 : Bool, h_fm (fun v => if v = 0 then b0 else if v = 1 then b1 else b2) 3 0 (-1) (-1) = if (b0 || (b1 || b2)) = true then (10 : Int32) * h_lo (0, b0, b1, b2) + h_hi (0, b0, b1, b2) else -1 := by decide +kernel
theorem h_fm_c {q r : Nat → Bool} : ∀ (d v : Nat) (a b : Int32), (∀ i, i < v + d → q i = r i) → h_fm q d v a b = h_fm r d v a b
  | 0, _, _, _, _ => rfl
  | d + 1, v, a, b, h => by
    unfold h_fm
    rw [h v (by omega), h_fm_c d (v + 1) a (nI v) (fun i hi => h i (by omega)), h_fm_c d (v + 1) (nI v) (nI v) (fun i hi => h i (by omega)), h_fm_c d (v + 1) a b (fun i hi => h i (by omega))]
