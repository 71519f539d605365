/-! ===== text: the signs of a text and its tokens ===== -/
/-- the group of a sign: 0 blank, 1 letter, 2 digit, 3 another -/
def tx_g (x : Nat) : Nat := if (97 ≤ x ∧ x ≤ 122) ∨ (65 ≤ x ∧ x ≤ 90) then 1 else if 48 ≤ x ∧ x ≤ 57 then 2 else if x = 32 ∨ x = 10 then 0 else 3
def tx_nb (b : Nat → Nat) : Nat → Nat → Nat
  | 0, p => p
  | d + 1, p => if tx_g (b p) = 0 then tx_nb b d (p + 1) else p
def tx_ge (b : Nat → Nat) (g : Nat) : Nat → Nat → Nat
  | 0, e => e
  | d + 1, e => if tx_g (b e) = g then tx_ge b g d (e + 1) else e
/-- the number behind v, d digits more from e on -/
def tx_nu (b : Nat → Nat) : Nat → Nat → Nat → Nat
  | 0, _, v => v
  | d + 1, e, v => tx_nu b d (e + 1) (if 10000 ≤ v then v else 10 * v + (b e - 48))
def tx_mk (x : Nat) : Bool := [59, 43, 45, 42, 47, 40, 41, 60, 61, 62].contains x
theorem tx_nb_b {b : Nat → Nat} {k : Nat} : ∀ (d p : Nat), p + d = k → p ≤ tx_nb b d p ∧ tx_nb b d p ≤ k ∧ (tx_nb b d p < k → tx_g (b (tx_nb b d p)) ≠ 0) ∧ ∀ i, p ≤ i → i < tx_nb b d p → tx_g (b i) = 0
  | 0, p, h => ⟨Nat.le_refl _, by show p ≤ k; omega, fun z => absurd z (by show ¬ p < k; omega), fun i h1 h2 => absurd h2 (by show ¬ i < p; omega)⟩
  | d + 1, p, h => by
    unfold tx_nb
    by_cases e : tx_g (b p) = 0
    · rw [if_pos e]
      obtain ⟨a1, a2, a3, a4⟩ := tx_nb_b (b := b) (k := k) d (p + 1) (by omega)
      refine ⟨by omega, a2, a3, fun i h1 h2 => ?_⟩
      by_cases z : i = p
      · rw [z]; exact e
      · exact a4 i (by omega) h2
    · rw [if_neg e]
      exact ⟨Nat.le_refl _, by omega, fun _ => e, fun i h1 h2 => absurd h2 (by omega)⟩
theorem tx_ge_b {b : Nat → Nat} {g k : Nat} : ∀ (d e : Nat), e + d = k → e ≤ tx_ge b g d e ∧ tx_ge b g d e ≤ k ∧ (tx_ge b g d e < k → tx_g (b (tx_ge b g d e)) ≠ g) ∧ ∀ i, e ≤ i → i < tx_ge b g d e → tx_g (b i) = g
  | 0, p, h => ⟨Nat.le_refl _, by show p ≤ k; omega, fun z => absurd z (by show ¬ p < k; omega), fun i h1 h2 => absurd h2 (by show ¬ i < p; omega)⟩
  | d + 1, p, h => by
    unfold tx_ge
    by_cases e : tx_g (b p) = g
    · rw [if_pos e]
      obtain ⟨a1, a2, a3, a4⟩ := tx_ge_b (b := b) (g := g) (k := k) d (p + 1) (by omega)
      refine ⟨by omega, a2, a3, fun i h1 h2 => ?_⟩
      by_cases z : i = p
      · rw [z]; exact e
      · exact a4 i (by omega) h2
    · rw [if_neg e]
      exact ⟨Nat.le_refl _, by omega, fun _ => e, fun i h1 h2 => absurd h2 (by omega)⟩
/-- the text as it lies with the model -/
def tx_M (b : Nat → Nat) (k : Nat) (M : nM) : Prop := k ≤ 400 ∧ M 107 15 = nI k ∧ (∀ i, i < k → M 117 i = nI (b i) ∧ b i < 256) ∧ ∀ i, i < 145 → M 118 i = nI (n_mw.getD i 0)
theorem e_raw {b : Nat → Nat} {k p : Nat} {M : nM} (h : tx_M b k M) (hp : p ≤ k) : fX12_raw (nI p) M = some (if p < k then nI (b p) else -1, M) := by
  obtain ⟨h1, h2, h3, -⟩ := h
  unfold fX12_raw
  rw [h2]
  by_cases z : p < k
  · rw [if_neg (nI_ge z (by omega)), n_ib_nI (show p < 400 by omega) (by decide), n_chk_t, nI_clamp (show p < 2 ^ 31 by omega), (h3 p z).1, if_pos z]
  · rw [if_pos (nI_le (by omega) (by omega)), if_neg z]
theorem tx_w (lo hi : Nat) (hh : hi < 1000) (x : Nat) (hx : x < 256) (hl : lo < 1000) : wi (nI x) (nI lo) (nI hi) = decide (lo ≤ x ∧ x ≤ hi) := by
  unfold wi
  by_cases h1 : lo ≤ x
  · by_cases h2 : x ≤ hi
    · rw [decide_eq_false (nI_nlt h1 (by omega)), decide_eq_false (nI_nlt h2 (by omega)), decide_eq_true (And.intro h1 h2)]; rfl
    · rw [decide_eq_false (nI_nlt h1 (by omega)), decide_eq_true (nI_lt (show hi < x by omega) (by omega)), decide_eq_false (show ¬ (lo ≤ x ∧ x ≤ hi) from fun z => h2 z.2)]; rfl
  · rw [decide_eq_true (nI_lt (show x < lo by omega) (by omega)), decide_eq_false (show ¬ (lo ≤ x ∧ x ≤ hi) from fun z => h1 z.1)]; rfl
theorem tx_w1 (lo hi : Int32) (h1 : (-1 : Int32) < lo) : wi (-1 : Int32) lo hi = false := by
  unfold wi
  rw [decide_eq_true h1]
  rfl
theorem e_let {x : Nat} (hx : x < 256) (M : nM) : fX12_isLetter (nI x) M = some (cb (decide (tx_g x = 1)), M) := by
  have a1 : fX12_isIn (nI x) (97 : Int32) (122 : Int32) M = some (cb (decide (97 ≤ x ∧ x ≤ 122)), M) := by
    rw [e_isIn, show (97 : Int32) = nI 97 from rfl, show (122 : Int32) = nI 122 from rfl, tx_w 97 122 (by decide) x hx (by decide)]
  have a2 : fX12_isIn (nI x) (65 : Int32) (90 : Int32) M = some (cb (decide (65 ≤ x ∧ x ≤ 90)), M) := by
    rw [e_isIn, show (65 : Int32) = nI 65 from rfl, show (90 : Int32) = nI 90 from rfl, tx_w 65 90 (by decide) x hx (by decide)]
  unfold fX12_isLetter
  rw [a1, Option.bind_some]
  by_cases h1 : 97 ≤ x ∧ x ≤ 122
  · rw [decide_eq_true h1, if_pos (show ¬ (cb true : Int32) = 0 by decide), decide_eq_true (show tx_g x = 1 from if_pos (Or.inl h1))]
    rfl
  · rw [decide_eq_false h1, if_neg (show ¬ ¬ (cb false : Int32) = 0 by decide)]
    show ((fX12_isIn (nI x) (65 : Int32) (90 : Int32) M).bind _) = _
    rw [a2, Option.bind_some]
    by_cases h2 : 65 ≤ x ∧ x ≤ 90
    · rw [decide_eq_true h2, if_neg (show ¬ (cb true : Int32) = 0 by decide), decide_eq_true (show tx_g x = 1 from if_pos (Or.inr h2))]
      rfl
    · rw [decide_eq_false h2, if_pos (show (cb false : Int32) = 0 from rfl), decide_eq_false (show ¬ tx_g x = 1 by
        unfold tx_g
        rw [if_neg (by omega)]
        split
        · decide
        · split <;> decide)]
      rfl
theorem e_let1 (M : nM) : fX12_isLetter (-1 : Int32) M = some (0, M) := rfl
theorem e_dig1 (M : nM) : fX12_isDigit (-1 : Int32) M = some (0, M) := rfl
theorem e_dig {x : Nat} (hx : x < 256) (M : nM) : fX12_isDigit (nI x) M = some (cb (decide (tx_g x = 2)), M) := by
  unfold fX12_isDigit
  rw [e_isIn, Option.bind_some, show (48 : Int32) = nI 48 from rfl, show (57 : Int32) = nI 57 from rfl, tx_w 48 57 (by decide) x hx (by decide)]
  have : decide (48 ≤ x ∧ x ≤ 57) = decide (tx_g x = 2) := by
    refine decide_eq_decide.mpr ⟨fun h => ?_, fun h => ?_⟩
    · unfold tx_g
      rw [if_neg (by omega), if_pos h]
    · unfold tx_g at h
      split at h
      · exact absurd h (by decide)
      · split at h
        · assumption
        · split at h <;> exact absurd h (by decide)
  rw [this]
  cases decide (tx_g x = 2) <;> rfl
theorem e_mks : ∀ x, x < 256 → ∀ M : nM, fX12_isMarkSign (nI x) M = some (cb (tx_mk x), M) := fun x hx M => by
  have k : ∀ x, x < 256 → ∀ y, (y = 59 ∨ y = 43 ∨ y = 45 ∨ y = 42 ∨ y = 47 ∨ y = 40 ∨ y = 41 ∨ y = 60 ∨ y = 61 ∨ y = 62) → (nI x = nI y ↔ x = y) := fun x hx y hy => nI_eq (by omega) (by omega)
  unfold fX12_isMarkSign tx_mk
  have s : ∀ (y : Nat) (A B : Option (Int32 × nM)), (y = 59 ∨ y = 43 ∨ y = 45 ∨ y = 42 ∨ y = 47 ∨ y = 40 ∨ y = 41 ∨ y = 60 ∨ y = 61 ∨ y = 62) → (if nI x = nI y then A else B) = if x = y then A else B := fun y A B hy => by
    by_cases e : x = y
    · rw [if_pos ((k x hx y hy).mpr e), if_pos e]
    · rw [if_neg (fun z => e ((k x hx y hy).mp z)), if_neg e]
  show (if nI x = nI 59 then _ else if nI x = nI 43 then _ else if nI x = nI 45 then _ else if nI x = nI 42 then _ else if nI x = nI 47 then _ else if nI x = nI 40 then _ else if nI x = nI 41 then _ else if nI x = nI 60 then _ else if nI x = nI 61 then _ else if ¬ nI x = nI 62 then _ else _) = _
  rw [s 59 _ _ (by decide), s 43 _ _ (by decide), s 45 _ _ (by decide), s 42 _ _ (by decide), s 47 _ _ (by decide), s 40 _ _ (by decide), s 41 _ _ (by decide), s 60 _ _ (by decide), s 61 _ _ (by decide)]
  by_cases e1 : x = 59
  · subst e1; rfl
  by_cases e2 : x = 43
  · subst e2; rfl
  by_cases e3 : x = 45
  · subst e3; rfl
  by_cases e4 : x = 42
  · subst e4; rfl
  by_cases e5 : x = 47
  · subst e5; rfl
  by_cases e6 : x = 40
  · subst e6; rfl
  by_cases e7 : x = 41
  · subst e7; rfl
  by_cases e8 : x = 60
  · subst e8; rfl
  by_cases e9 : x = 61
  · subst e9; rfl
  by_cases e10 : x = 62
  · subst e10; rfl
  rw [if_neg e1, if_neg e2, if_neg e3, if_neg e4, if_neg e5, if_neg e6, if_neg e7, if_neg e8, if_neg e9, if_pos (fun z => e10 ((k x hx 62 (by decide)).mp z))]
  have : [59, 43, 45, 42, 47, 40, 41, 60, 61, 62].contains x = false := by
    simp [e1, e2, e3, e4, e5, e6, e7, e8, e9, e10]
  rw [this]
  rfl
