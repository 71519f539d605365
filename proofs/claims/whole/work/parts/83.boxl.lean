/-! ===== boxes: the first of the deepest; to fill ===== -/
theorem e_fill5 {N c L : Nat} {G : nG} {x : Int32} (hk : n_kd G c = 14) (hl : n_len G c = L) (hL : L < 1000) {M : nM} : ∀ (d i f : Nat) (W : Nat → Int32), i + d = L → d < f → fJ7_fill_53178_5 N G f c x (nI i) (nI L) (n_set M c W) = some ((), n_set M c (fun t => if i ≤ t ∧ t < L then x else W t)) := by
  intro d
  induction d with
  | zero =>
    intro i f W hi hf
    obtain ⟨f, rfl⟩ : ∃ g, f = g + 1 := ⟨f - 1, by omega⟩
    unfold fJ7_fill_53178_5
    rw [if_pos (nI_le (by omega) (by omega))]
    have : (fun t => if i ≤ t ∧ t < L then x else W t) = W := by
      funext t
      rw [if_neg (by omega)]
    rw [this]
  | succ d ih =>
    intro i f W hi hf
    obtain ⟨f, rfl⟩ : ∃ g, f = g + 1 := ⟨f - 1, by omega⟩
    unfold fJ7_fill_53178_5
    rw [if_neg (nI_ge (by omega) (by omega)), n_in_nI hk hl (show i < L by omega) (by omega), n_chk_t, nI_clamp (show i < 2 ^ 31 by omega), nI_1]
    show fJ7_fill_53178_5 N G f c x (nI (i + 1)) (nI L) (n_up (n_set M c W) c i x) = _
    rw [n_up_set, ih (i + 1) f _ (by omega) (by omega)]
    have : (fun t => if i + 1 ≤ t ∧ t < L then x else upd W i x t) = (fun t => if i ≤ t ∧ t < L then x else W t) := by
      funext t
      by_cases e : t = i
      · subst e
        rw [upd_eq, if_neg (by omega), if_pos (by omega)]
      · rw [upd_ne e]
        by_cases h : i + 1 ≤ t ∧ t < L
        · rw [if_pos h, if_pos (by omega)]
        · rw [if_neg h, if_neg (by omega)]
    rw [this]
theorem e_fill {N c L : Nat} {G : nG} {x : Int32} (hk : n_kd G c = 14) (hl : n_len G c = L) (hL : L < 1000) (hN : 1000 ≤ N) (M : nM) : fJ7_fill_53178 N G c x M = some ((), n_set M c (fun t => if 0 ≤ t ∧ t < L then x else M c t)) := by
  have hb : Nat.beq (n_kd G c) 14 = true := by rw [hk]; rfl
  have e := e_fill5 (N := N) (x := x) (M := M) hk hl hL L 0 N (M c) (by omega) (by omega)
  rw [n_set_self rfl] at e
  unfold fJ7_fill_53178
  rw [hb, n_chk_t, hl]
  exact e
def x_b (L : Nat → Nat) : Nat → Nat → Nat → Nat
  | 0, _, b => b
  | d + 1, i, b => if L i ≤ L b then x_b L d (i + 1) b else x_b L d (i + 1) i
theorem n103_eq (N f : Nat) (G : nG) (x1 x2 x3 x4 : Int32) (M : nM) : fX9_nested_103 N G (f + 1) x1 x2 x3 x4 M = if x2 ≤ x4 then (if x1 = 0 then (if ¬ x3 = (-1 : Int32) then n_chk (n_ib 256 x3) (some ((M 99 x3.toNatClampNeg), M)) else some ((0 : Int32), M)) else some (x3, M)) else if x3 = (-1 : Int32) then fX9_nested_103 N G f x1 x2 x4 (x4 + (1 : Int32)) M else n_chk (n_ib 256 x4) (n_chk (n_ib 256 x3) (if (M 99 x4.toNatClampNeg) ≤ (M 99 x3.toNatClampNeg) then fX9_nested_103 N G f x1 x2 x3 (x4 + (1 : Int32)) M else fX9_nested_103 N G f x1 x2 x4 (x4 + (1 : Int32)) M)) := rfl
theorem c_n103 {N m : Nat} {G : nG} {M : nM} {L : Nat → Nat} {fl : Bool} (hm : m ≤ 8) (hW : ∀ t, t < m → M 99 t = nI (L t)) (hL : ∀ t, t < m → L t ≤ 8) : ∀ (d i f b : Nat), i + d = m → d < f → b < m → fX9_nested_103 N G f (cb fl) (nI m) (nI b) (nI i) M = some ((if fl = true then nI (x_b L d i b) else nI (L (x_b L d i b))), M) := by
  intro d
  induction d with
  | zero =>
    intro i f b hi hf hb
    obtain ⟨f, rfl⟩ : ∃ g, f = g + 1 := ⟨f - 1, by omega⟩
    rw [n103_eq, if_pos (nI_le (by omega) (by omega)), if_pos (nI_nm1 (by omega)), n_ib_nI (show b < 256 by omega) (by decide), n_chk_t, nI_clamp (show b < 2 ^ 31 by omega), hW b hb]
    cases fl <;> rfl
  | succ d ih =>
    intro i f b hi hf hb
    obtain ⟨f, rfl⟩ : ∃ g, f = g + 1 := ⟨f - 1, by omega⟩
    have l1 := hL i (by omega)
    have l2 := hL b hb
    rw [n103_eq, if_neg (nI_ge (by omega) (by omega)), if_neg (nI_nm1 (by omega)), n_ib_nI (show i < 256 by omega) (by decide), n_chk_t, n_ib_nI (show b < 256 by omega) (by decide), n_chk_t, nI_clamp (show i < 2 ^ 31 by omega), nI_clamp (show b < 2 ^ 31 by omega), hW i (by omega), hW b hb, nI_1]
    unfold x_b
    by_cases h : L i ≤ L b
    · rw [if_pos (nI_le h (by omega)), if_pos h]
      exact ih (i + 1) f b (by omega) (by omega) hb
    · rw [if_neg (nI_ge (by omega) (by omega)), if_neg h]
      exact ih (i + 1) f i (by omega) (by omega) (by omega)
theorem b25_eq (N f : Nat) (x1 x2 x3 : Int32) (M : nM) : fX12_boxes_25 N (f + 1) x1 x2 x3 M = if (M 107 51) ≤ x3 then (if ¬ x1 = (1 : Int32) then (if ¬ x2 = (-1 : Int32) then n_chk (n_ib 8 x2) (some ((M 138 x2.toNatClampNeg), M)) else some ((0 : Int32), M)) else some (x2, M)) else if x2 = (-1 : Int32) then fX12_boxes_25 N f x1 x3 (x3 + (1 : Int32)) M else n_chk (n_ib 8 x3) (n_chk (n_ib 8 x2) (if (M 138 x3.toNatClampNeg) ≤ (M 138 x2.toNatClampNeg) then fX12_boxes_25 N f x1 x2 (x3 + (1 : Int32)) M else fX12_boxes_25 N f x1 x3 (x3 + (1 : Int32)) M)) := rfl
theorem c_b25 {N m : Nat} {M : nM} {L : Nat → Nat} {fl : Bool} (hm : m ≤ 8) (h51 : M 107 51 = nI m) (hW : ∀ t, t < m → M 138 t = nI (L t)) (hL : ∀ t, t < m → L t ≤ 8) : ∀ (d i f b : Nat), i + d = m → d < f → b < m → fX12_boxes_25 N f (cb fl) (nI b) (nI i) M = some ((if fl = true then nI (x_b L d i b) else nI (L (x_b L d i b))), M) := by
  intro d
  induction d with
  | zero =>
    intro i f b hi hf hb
    obtain ⟨f, rfl⟩ : ∃ g, f = g + 1 := ⟨f - 1, by omega⟩
    rw [b25_eq, h51, if_pos (nI_le (by omega) (by omega)), if_pos (nI_nm1 (by omega)), n_ib_nI (show b < 8 by omega) (by decide), n_chk_t, nI_clamp (show b < 2 ^ 31 by omega), hW b hb]
    cases fl <;> rfl
  | succ d ih =>
    intro i f b hi hf hb
    obtain ⟨f, rfl⟩ : ∃ g, f = g + 1 := ⟨f - 1, by omega⟩
    have l1 := hL i (by omega)
    have l2 := hL b hb
    rw [b25_eq, h51, if_neg (nI_ge (by omega) (by omega)), if_neg (nI_nm1 (by omega)), n_ib_nI (show i < 8 by omega) (by decide), n_chk_t, n_ib_nI (show b < 8 by omega) (by decide), n_chk_t, nI_clamp (show i < 2 ^ 31 by omega), nI_clamp (show b < 2 ^ 31 by omega), hW i (by omega), hW b hb, nI_1]
    unfold x_b
    by_cases h : L i ≤ L b
    · rw [if_pos (nI_le h (by omega)), if_pos h]
      exact ih (i + 1) f b (by omega) (by omega) hb
    · rw [if_neg (nI_ge (by omega) (by omega)), if_neg h]
      exact ih (i + 1) f i (by omega) (by omega) (by omega)
