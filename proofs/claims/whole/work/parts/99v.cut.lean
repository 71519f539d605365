/-! ===== text: the class's signs ===== -/
/-- the text as it lies with the class -/
def tx_C (b : Nat → Nat) (k : Nat) (M : nM) : Prop := k ≤ 400 ∧ ∀ i, i < k → M 81 i = (nI (b i)).toInt8.toInt32 ∧ b i < 256
set_option maxRecDepth 100000 in
theorem tx_255 : ∀ x, x < 256 → (nI x).toInt8.toInt32 &&& (255 : Int32) = nI x := by decide +kernel
theorem tx_127 : ∀ x, x < 128 → (nI x).toInt8.toInt32 = nI x := by decide +kernel
theorem e_gr {x : Nat} (hx : x < 256) (M : nM) : fX6_groupOf (nI x) M = some (nI (tx_g x), M) := by
  have lt : ∀ y, y < 256 → (nI x < nI y ↔ x < y) := fun y hy => nI_ltI (by omega) (by omega)
  have le : ∀ y, y < 256 → (nI x ≤ nI y ↔ x ≤ y) := fun y hy => nI_leI (by omega) (by omega)
  have gt : ∀ y, y < 256 → (nI y < nI x ↔ y < x) := fun y hy => nI_ltI (by omega) (by omega)
  have eq : ∀ y, y < 256 → (nI x = nI y ↔ x = y) := fun y hy => nI_eq (by omega) (by omega)
  have h40 : fX6_groupOf_40 (nI x) M = some (if x = 32 ∨ x = 10 then 0 else 3, M) := by
    show (if nI x = nI 32 then some ((0 : Int32), M) else if ¬ nI x = nI 10 then some ((3 : Int32), M) else some ((0 : Int32), M)) = _
    by_cases e1 : x = 32
    · rw [if_pos ((eq 32 (by decide)).mpr e1), if_pos (Or.inl e1)]
    · rw [if_neg (fun z => e1 ((eq 32 (by decide)).mp z))]
      by_cases e2 : x = 10
      · rw [if_neg (not_not_intro ((eq 10 (by decide)).mpr e2)), if_pos (Or.inr e2)]
      · rw [if_pos (fun z => e2 ((eq 10 (by decide)).mp z)), if_neg (by omega)]
  have h26 : fX6_groupOf_26 (nI x) M = some (if 48 ≤ x ∧ x ≤ 57 then 2 else if x = 32 ∨ x = 10 then 0 else 3, M) := by
    show (if nI x < nI 48 then fX6_groupOf_40 (nI x) M else if nI 57 < nI x then fX6_groupOf_40 (nI x) M else some ((2 : Int32), M)) = _
    rw [h40]
    by_cases e1 : x < 48
    · rw [if_pos ((lt 48 (by decide)).mpr e1), if_neg (show ¬ (48 ≤ x ∧ x ≤ 57) by omega)]
    · rw [if_neg (fun z => e1 ((lt 48 (by decide)).mp z))]
      by_cases e2 : 57 < x
      · rw [if_pos ((gt 57 (by decide)).mpr e2), if_neg (show ¬ (48 ≤ x ∧ x ≤ 57) by omega)]
      · rw [if_neg (fun z => e2 ((gt 57 (by decide)).mp z)), if_pos (show 48 ≤ x ∧ x ≤ 57 by omega)]
  have h12 : fX6_groupOf_12 (nI x) M = some (if 65 ≤ x ∧ x ≤ 90 then 1 else if 48 ≤ x ∧ x ≤ 57 then 2 else if x = 32 ∨ x = 10 then 0 else 3, M) := by
    show (if nI x < nI 65 then fX6_groupOf_26 (nI x) M else if nI 90 < nI x then fX6_groupOf_26 (nI x) M else some ((1 : Int32), M)) = _
    rw [h26]
    by_cases e1 : x < 65
    · rw [if_pos ((lt 65 (by decide)).mpr e1), if_neg (show ¬ (65 ≤ x ∧ x ≤ 90) by omega)]
    · rw [if_neg (fun z => e1 ((lt 65 (by decide)).mp z))]
      by_cases e2 : 90 < x
      · rw [if_pos ((gt 90 (by decide)).mpr e2), if_neg (show ¬ (65 ≤ x ∧ x ≤ 90) by omega)]
      · rw [if_neg (fun z => e2 ((gt 90 (by decide)).mp z)), if_pos (show 65 ≤ x ∧ x ≤ 90 by omega)]
  have h0 : fX6_groupOf (nI x) M = some (if 97 ≤ x ∧ x ≤ 122 then 1 else if 65 ≤ x ∧ x ≤ 90 then 1 else if 48 ≤ x ∧ x ≤ 57 then 2 else if x = 32 ∨ x = 10 then 0 else 3, M) := by
    show (if nI x < nI 97 then fX6_groupOf_12 (nI x) M else if nI x ≤ nI 122 then some ((1 : Int32), M) else fX6_groupOf_12 (nI x) M) = _
    rw [h12]
    by_cases e1 : x < 97
    · rw [if_pos ((lt 97 (by decide)).mpr e1), if_neg (show ¬ (97 ≤ x ∧ x ≤ 122) by omega)]
    · rw [if_neg (fun z => e1 ((lt 97 (by decide)).mp z))]
      by_cases e2 : x ≤ 122
      · rw [if_pos ((le 122 (by decide)).mpr e2), if_pos (show 97 ≤ x ∧ x ≤ 122 by omega)]
      · rw [if_neg (fun z => e2 ((le 122 (by decide)).mp z)), if_neg (show ¬ (97 ≤ x ∧ x ≤ 122) by omega)]
  rw [h0]
  unfold tx_g
  by_cases a1 : 97 ≤ x ∧ x ≤ 122
  · rw [if_pos a1, if_pos (Or.inl a1)]; rfl
  · rw [if_neg a1]
    by_cases a2 : 65 ≤ x ∧ x ≤ 90
    · rw [if_pos a2, if_pos (Or.inr a2)]; rfl
    · rw [if_neg a2, if_neg (show ¬ ((97 ≤ x ∧ x ≤ 122) ∨ (65 ≤ x ∧ x ≤ 90)) by omega)]
      by_cases a3 : 48 ≤ x ∧ x ≤ 57
      · rw [if_pos a3, if_pos a3]; rfl
      · rw [if_neg a3, if_neg a3]
        by_cases a4 : x = 32 ∨ x = 10
        · rw [if_pos a4, if_pos a4]; rfl
        · rw [if_neg a4, if_neg a4]; rfl
theorem ge19_eq (N f : Nat) (x2 x3 x4 : Int32) (M : nM) : fX6_groupEnd_19 N (f + 1) x2 x3 x4 M = if x2 ≤ x4 then some (x4, M) else if (400 : Int32) ≤ x4 then some (x4, M) else n_chk (n_ib 400 x4) ((fX6_groupOf ((M 81 x4.toNatClampNeg) &&& (255 : Int32)) M).bind fun p1 => if ¬ p1.1 = x3 then some (x4, p1.2) else fX6_groupEnd_19 N f x2 x3 (x4 + (1 : Int32)) p1.2) := rfl
theorem c_ge19 {N k g : Nat} {b : Nat → Nat} {M : nM} (hg4 : g < 4) (hC : tx_C b k M) : ∀ (d e f : Nat), e + d = k → d < f → fX6_groupEnd_19 N f (nI k) (nI g) (nI e) M = some (nI (tx_ge b g d e), M) := by
  intro d
  have hk := hC.1
  induction d with
  | zero =>
    intro e f he hf
    obtain ⟨f, rfl⟩ : ∃ g, f = g + 1 := ⟨f - 1, by omega⟩
    rw [ge19_eq, if_pos (nI_le (by omega) (by omega))]
    rfl
  | succ d ih =>
    intro e f he hf
    obtain ⟨f, rfl⟩ : ∃ g, f = g + 1 := ⟨f - 1, by omega⟩
    have hb := hC.2 e (by omega)
    have hg := tx_g4 (b e)
    rw [ge19_eq, if_neg (nI_ge (by omega) (by omega)), if_neg (show ¬ (400 : Int32) ≤ nI e from nI_ge (b := 400) (by omega) (by decide)), n_ib_nI (show e < 400 by omega) (by decide), n_chk_t, nI_clamp (show e < 2 ^ 31 by omega), hb.1, tx_255 _ hb.2, e_gr hb.2, Option.bind_some, nI_1]
    unfold tx_ge
    by_cases z : tx_g (b e) = g
    · rw [if_pos z, if_neg (not_not_intro (congrArg nI z))]
      exact ih (e + 1) f (by omega) (by omega)
    · rw [if_neg z, if_pos (fun y => z ((nI_eq (by omega) (by omega)).mp y))]
theorem e_gend {N k p : Nat} {b : Nat → Nat} {M : nM} (hN : 1000 ≤ N) (hC : tx_C b k M) (hp : p < k) (hg : tx_g (b p) ≠ 3) : fX6_groupEnd N (nI p) (nI k) M = some (nI (tx_en b k p), M) := by
  have hk := hC.1
  have hb := hC.2 p hp
  unfold fX6_groupEnd
  rw [n_ib_nI (show p < 400 by omega) (by decide), n_chk_t, nI_clamp (show p < 2 ^ 31 by omega), hb.1, tx_255 _ hb.2, e_gr hb.2, Option.bind_some]
  show fX6_groupEnd_19 N N (nI k) (nI (tx_g (b p))) (nI p + (1 : Int32)) M = _
  rw [nI_1, c_ge19 (tx_g4 _) hC (k - (p + 1)) (p + 1) N (by omega) (by omega)]
  unfold tx_en
  rw [if_neg hg]
/-- the number of the first four digits -/
def tx_n4 (b : Nat → Nat) : Nat → Nat → Nat → Nat
  | 0, _, v => v
  | d + 1, e, v => tx_n4 b d (e + 1) (10 * v + (b e - 48))
theorem no5_eq (N f : Nat) (x1 x2 x3 x4 : Int32) (M : nM) : fX6_numberOf_5 N (f + 1) x1 x2 x3 x4 M = if x2 ≤ x4 then some (x3, M) else if (x1 + (4 : Int32)) ≤ x4 then some (x3, M) else n_chk (n_ib 400 x4) (fX6_numberOf_5 N f x1 x2 (((x3 * (10 : Int32)) + (M 81 x4.toNatClampNeg)) - (48 : Int32)) (x4 + (1 : Int32)) M) := rfl
theorem c_no5 {N k p e : Nat} {b : Nat → Nat} {M : nM} (hC : tx_C b k M) (he : e ≤ k) (hg : ∀ i, p ≤ i → i < e → tx_g (b i) = 2) : ∀ (d i f v : Nat), i + d = (if e - p < 4 then e else p + 4) → p ≤ i → d < f → fX6_numberOf_5 N f (nI p) (nI e) (nI v) (nI i) M = some (nI (tx_n4 b d i v), M) := by
  intro d
  have hk := hC.1
  induction d with
  | zero =>
    intro i f v hi hp hf
    obtain ⟨f, rfl⟩ : ∃ g, f = g + 1 := ⟨f - 1, by omega⟩
    rw [no5_eq]
    by_cases z : e ≤ i
    · rw [if_pos (nI_le (by omega) (by split at hi <;> omega))]
      rfl
    · rw [if_neg (nI_ge (by omega) (by omega)), show nI p + (4 : Int32) = nI (p + 4) from nI_add p 4, if_pos (nI_le (by split at hi <;> omega) (by split at hi <;> omega))]
      rfl
  | succ d ih =>
    intro i f v hi hp hf
    obtain ⟨f, rfl⟩ : ∃ g, f = g + 1 := ⟨f - 1, by omega⟩
    have hie : i < e := by split at hi <;> omega
    have hi4 : i < p + 4 := by split at hi <;> omega
    have hb := hC.2 i (by omega)
    have hd := tx_dig (hg i hp hie)
    rw [no5_eq, if_neg (nI_ge hie (by omega)), show nI p + (4 : Int32) = nI (p + 4) from nI_add p 4, if_neg (nI_ge hi4 (by omega)), n_ib_nI (show i < 400 by omega) (by decide), n_chk_t, nI_clamp (show i < 2 ^ 31 by omega), hb.1, tx_127 _ (by omega), nI_1, show (10 : Int32) = nI 10 from rfl, pk_mul, nI_add, show nI (v * 10 + b i) - (48 : Int32) = nI (v * 10 + b i - 48) from pk_sub (b := 48) (by omega), show v * 10 + b i - 48 = 10 * v + (b i - 48) by omega]
    exact ih (i + 1) f _ (by omega) (by omega) (by omega)
/-- where both read it as a number, it is the same -/
theorem tx_n4_u {b : Nat → Nat} : ∀ (d e v m : Nat), (∀ i, e ≤ i → i < e + d → b i ≤ 57) → v < 10 ^ m → m + d ≤ 4 → tx_n4 b d e v = tx_nu b d e v ∧ tx_n4 b d e v < 10000
  | 0, e, v, m, _, hv, hm => ⟨rfl, by
    have : 10 ^ m ≤ 10 ^ 4 := Nat.pow_le_pow_right (by decide) (by omega)
    show v < 10000
    omega⟩
  | d + 1, e, v, m, hb, hv, hm => by
    have h1 : 10 ^ m ≤ 10 ^ 3 := Nat.pow_le_pow_right (by decide) (by omega)
    have h2 := hb e (Nat.le_refl _) (by omega)
    have hp : 10 ^ (m + 1) = 10 * 10 ^ m := by rw [Nat.pow_succ, Nat.mul_comm]
    have := tx_n4_u (b := b) d (e + 1) (10 * v + (b e - 48)) (m + 1) (fun i i1 i2 => hb i (by omega) (by omega)) (by omega) (by omega)
    unfold tx_n4 tx_nu
    rw [if_neg (show ¬ 10000 ≤ v by omega)]
    exact this
