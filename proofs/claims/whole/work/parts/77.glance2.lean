/-! ===== glance ===== -/
def g_ok (d R C : Nat) : Prop := d < 4 ∧ ((1 ≤ R ∧ R ≤ 6 ∧ 1 ≤ C ∧ C ≤ 6) ∨ (d = 0 ∧ R = 7 ∧ 1 ≤ C ∧ C ≤ 6) ∨ (d = 1 ∧ C = 0 ∧ 1 ≤ R ∧ R ≤ 6) ∨ (d = 2 ∧ R = 0 ∧ 1 ≤ C ∧ C ≤ 6) ∨ (d = 3 ∧ C = 7 ∧ 1 ≤ R ∧ R ≤ 6))
theorem g_ok_s {d R C : Nat} (hd : d < 4) (h : 1 ≤ R ∧ R ≤ 6 ∧ 1 ≤ C ∧ C ≤ 6) : g_ok d (g_R d R) (g_C d C) := by
  refine ⟨hd, ?_⟩
  unfold g_R g_C
  rcases (show d = 0 ∨ d = 1 ∨ d = 2 ∨ d = 3 by omega) with rfl | rfl | rfl | rfl
  · show (1 ≤ R + 1 ∧ R + 1 ≤ 6 ∧ 1 ≤ C ∧ C ≤ 6) ∨ (0 = 0 ∧ R + 1 = 7 ∧ 1 ≤ C ∧ C ≤ 6) ∨ _
    omega
  · show (1 ≤ R ∧ R ≤ 6 ∧ 1 ≤ C - 1 ∧ C - 1 ≤ 6) ∨ (1 = 0 ∧ R = 7 ∧ 1 ≤ C - 1 ∧ C - 1 ≤ 6) ∨ (1 = 1 ∧ C - 1 = 0 ∧ 1 ≤ R ∧ R ≤ 6) ∨ _
    omega
  · show (1 ≤ R - 1 ∧ R - 1 ≤ 6 ∧ 1 ≤ C ∧ C ≤ 6) ∨ (2 = 0 ∧ R - 1 = 7 ∧ 1 ≤ C ∧ C ≤ 6) ∨ (2 = 1 ∧ C = 0 ∧ 1 ≤ R - 1 ∧ R - 1 ≤ 6) ∨ (2 = 2 ∧ R - 1 = 0 ∧ 1 ≤ C ∧ C ≤ 6) ∨ _
    omega
  · show (1 ≤ R ∧ R ≤ 6 ∧ 1 ≤ C + 1 ∧ C + 1 ≤ 6) ∨ (3 = 0 ∧ R = 7 ∧ 1 ≤ C + 1 ∧ C + 1 ≤ 6) ∨ (3 = 1 ∧ C + 1 = 0 ∧ 1 ≤ R ∧ R ≤ 6) ∨ (3 = 2 ∧ R = 0 ∧ 1 ≤ C + 1 ∧ C + 1 ≤ 6) ∨ (3 = 3 ∧ C + 1 = 7 ∧ 1 ≤ R ∧ R ≤ 6)
    omega
theorem g_run_ok {mi : Nat → Nat} : ∀ (F d R C k : Nat), g_ok d R C → g_ok (g_run mi F d R C k).1 (g_run mi F d R C k).2.1 (g_run mi F d R C k).2.2.1
  | 0, _, _, _, _, h => h
  | F + 1, d, R, C, k, h => by
    unfold g_run
    by_cases hg : g_in R C = true
    · rw [if_pos hg]
      exact g_run_ok F _ _ _ _ (g_ok_s (g_d4 h.1) (g_in_t.mp hg))
    · rw [if_neg hg]
      exact h
theorem g_7 {d R C : Nat} (h : g_ok d R C) : R ≤ 7 ∧ C ≤ 7 := by
  obtain ⟨h0, h⟩ := h
  omega
theorem g_ing : ∀ R : Nat, R < 8 → ∀ M : nM, fX9_inGrid (nI R - 1) M = some (cb (Nat.ble 1 R && Nat.ble R 6), M) := by
  intro R hR M
  rcases (show R = 0 ∨ R = 1 ∨ R = 2 ∨ R = 3 ∨ R = 4 ∨ R = 5 ∨ R = 6 ∨ R = 7 by omega) with rfl | rfl | rfl | rfl | rfl | rfl | rfl | rfl <;> rfl
theorem g_wi : ∀ R : Nat, R < 8 → wi (nI R - 1) 0 5 = (Nat.ble 1 R && Nat.ble R 6) := by decide +kernel
theorem g_in2 (R C : Nat) : g_in R C = ((Nat.ble 1 R && Nat.ble R 6) && (Nat.ble 1 C && Nat.ble C 6)) := by
  unfold g_in
  cases Nat.ble 1 R <;> cases Nat.ble R 6 <;> rfl
theorem g_up (R : Nat) : nI R - 1 + 1 = nI (R + 1) - 1 := by rw [nI_pred, Int32.sub_add_cancel]
theorem g_dn {R : Nat} (h : 1 ≤ R) : nI R - 1 - 1 = nI (R - 1) - 1 := by
  have : nI R - 1 = nI (R - 1) := pk_sub (b := 1) h
  rw [this]
theorem g_ix {R C : Nat} (h1 : 1 ≤ R) (h2 : 1 ≤ C) : (nI R - 1) * (6 : Int32) + (nI C - 1) = nI (6 * (R - 1) + (C - 1)) := by
  have a : nI R - 1 = nI (R - 1) := pk_sub (b := 1) h1
  have b : nI C - 1 = nI (C - 1) := pk_sub (b := 1) h2
  rw [a, b, show (6 : Int32) = nI 6 from rfl, pk_mul, nI_add, Nat.mul_comm]
theorem g_136 {N d R C k i : Nat} {k67 : Int32 → Int32 → Int32 → Int32 → Int32 → Int32 → nM → Option (Int32 × nM)} {x2 : Int32} {M : nM} (hd : d < 4) (h1 : 1 ≤ R) (h2 : 1 ≤ C) : fX9_glanced_136 N k67 x2 (nI ((d + 2) % 4)) (nI R - 1) (nI C - 1) (nI k) (nI i) M = k67 x2 (nI ((d + 2) % 4)) (nI (g_R d R) - 1) (nI (g_C d C) - 1) (nI k) (nI (i + 1)) M := by
  unfold fX9_glanced_136 fX9_glanced_158 g_R g_C
  rcases (show d = 0 ∨ d = 1 ∨ d = 2 ∨ d = 3 by omega) with rfl | rfl | rfl | rfl
  · show k67 x2 (nI 2) (nI R - 1 + 1) (nI C - 1 + 0) (nI k) (nI i + 1) M = k67 x2 (nI 2) (nI (R + 1) - 1) (nI C - 1) (nI k) (nI (i + 1)) M
    rw [g_up, Int32.add_zero, nI_1]
  · show k67 x2 (nI 3) (nI R - 1 + 0) (nI C - 1 + (-1)) (nI k) (nI i + 1) M = k67 x2 (nI 3) (nI R - 1) (nI (C - 1) - 1) (nI k) (nI (i + 1)) M
    rw [← Int32.sub_eq_add_neg, g_dn h2, Int32.add_zero, nI_1]
  · show k67 x2 (nI 0) (nI R - 1 + (-1)) (nI C - 1 + 0) (nI k) (nI i + 1) M = k67 x2 (nI 0) (nI (R - 1) - 1) (nI C - 1) (nI k) (nI (i + 1)) M
    rw [← Int32.sub_eq_add_neg, g_dn h1, Int32.add_zero, nI_1]
  · show k67 x2 (nI 1) (nI R - 1 + 0) (nI C - 1 + 1) (nI k) (nI i + 1) M = k67 x2 (nI 1) (nI R - 1) (nI (C + 1) - 1) (nI k) (nI (i + 1)) M
    rw [g_up, Int32.add_zero, nI_1]
theorem g_134 {N d R C : Nat} {k56 : Int32 → Int32 → Int32 → nM → Option (Int32 × nM)} {M : nM} (hd : d < 4) (h1 : 1 ≤ R) (h2 : 1 ≤ C) : fX12_goesFrom_134 N k56 (nI d) (nI R - 1) (nI C - 1) M = k56 (nI d) (nI (g_R d R) - 1) (nI (g_C d C) - 1) M := by
  unfold fX12_goesFrom_134 fX12_goesFrom_142 fX12_goesFrom_153 fX12_goesFrom_162 g_R g_C
  rcases (show d = 0 ∨ d = 1 ∨ d = 2 ∨ d = 3 by omega) with rfl | rfl | rfl | rfl
  · show k56 (nI 0) (nI R - 1 + 1) (nI C - 1) M = k56 (nI 0) (nI (R + 1) - 1) (nI C - 1) M
    rw [g_up]
  · show k56 (nI 1) (nI R - 1) (nI C - 1 - 1) M = k56 (nI 1) (nI R - 1) (nI (C - 1) - 1) M
    rw [g_dn h2]
  · show k56 (nI 2) (nI R - 1 - 1) (nI C - 1) M = k56 (nI 2) (nI (R - 1) - 1) (nI C - 1) M
    rw [g_dn h1]
  · show k56 (nI 3) (nI R - 1) (nI C - 1 + 1) M = k56 (nI 3) (nI R - 1) (nI (C + 1) - 1) M
    rw [g_up]
theorem g_x1 : ∀ d, d < 4 → nI ((d + 2) % 4) ^^^ (1 : Int32) = nI ((g_d d 1 + 2) % 4) := by decide +kernel
theorem g_x2 : ∀ d, d < 4 → (3 : Int32) - nI ((d + 2) % 4) = nI ((g_d d 2 + 2) % 4) := by decide +kernel
theorem g_y2 : ∀ d, d < 4 → (3 : Int32) - nI d = nI (g_d d 2) := by decide +kernel
theorem g_y1 : ∀ d, d < 4 → (if ¬ (nI d - nI d / (2 : Int32) * (2 : Int32)) = 0 then nI d - 1 else nI d + 1) = nI (g_d d 1) := by decide +kernel
theorem gl67_eq (N f : Nat) (x2 x5 x6 x7 x8 x9 : Int32) (M : nM) : fX9_glanced_67 N (f + 1) x2 x5 x6 x7 x8 x9 M = if (144 : Int32) ≤ x9 then fX9_glanced_193 N x2 x5 x6 x7 x8 M else (fX9_inGrid x6 M).bind fun p1 => if p1.1 = 0 then fX9_glanced_193 N x2 x5 x6 x7 x8 p1.2 else (fX9_inGrid x7 p1.2).bind fun p2 => if p2.1 = 0 then fX9_glanced_193 N x2 x5 x6 x7 x8 p2.2 else n_chk (n_ib 36 ((x6 * (6 : Int32)) + x7)) (if (p2.2 44 ((x6 * (6 : Int32)) + x7).toNatClampNeg) = 0 then fX9_glanced_136 N (fun x2 x5 x6 x7 x8 x9 M => fX9_glanced_67 N f x2 x5 x6 x7 x8 x9 M) x2 x5 x6 x7 x8 x9 p2.2 else if ¬ (p2.2 44 ((x6 * (6 : Int32)) + x7).toNatClampNeg) = (1 : Int32) then fX9_glanced_134 N (fun x2 x5 x6 x7 x8 x9 M => fX9_glanced_67 N f x2 x5 x6 x7 x8 x9 M) x2 x6 x7 (x8 + (1 : Int32)) x9 ((3 : Int32) - x5) p2.2 else fX9_glanced_134 N (fun x2 x5 x6 x7 x8 x9 M => fX9_glanced_67 N f x2 x5 x6 x7 x8 x9 M) x2 x6 x7 (x8 + (1 : Int32)) x9 (x5 ^^^ (1 : Int32)) p2.2) := rfl
theorem c_gl67 {N : Nat} {x2 : Int32} {M : nM} {mi : Nat → Nat} (hM : ∀ k, k < 36 → mi k ≤ 2 ∧ M 44 k = nI (mi k)) : ∀ (F i f d R C k : Nat), g_ok d R C → i + F = 144 → F < f → fX9_glanced_67 N f x2 (nI ((d + 2) % 4)) (nI R - 1) (nI C - 1) (nI k) (nI i) M = fX9_glanced_193 N x2 (nI (((g_run mi F d R C k).1 + 2) % 4)) (nI (g_run mi F d R C k).2.1 - 1) (nI (g_run mi F d R C k).2.2.1 - 1) (nI (g_run mi F d R C k).2.2.2) M := by
  intro F
  induction F with
  | zero =>
    intro i f d R C k h hi hf
    obtain ⟨f, rfl⟩ : ∃ g, f = g + 1 := ⟨f - 1, by omega⟩
    rw [gl67_eq, if_pos (show (144 : Int32) ≤ nI i from nI_le (a := 144) (by omega) (by omega))]
    rfl
  | succ F ih =>
    intro i f d R C k h hi hf
    obtain ⟨f, rfl⟩ : ∃ g, f = g + 1 := ⟨f - 1, by omega⟩
    obtain ⟨r7, c7⟩ := g_7 h
    rw [gl67_eq, if_neg (show ¬ (144 : Int32) ≤ nI i from nI_ge (b := 144) (by omega) (by decide)), g_ing R (by omega), Option.bind_some]
    unfold g_run
    by_cases hg : g_in R C = true
    · obtain ⟨a, b, c, e⟩ := g_in_t.mp hg
      have hr : (Nat.ble 1 R && Nat.ble R 6) = true := by rw [Nat.ble_eq_true_of_le a, Nat.ble_eq_true_of_le b]; rfl
      have hc : (Nat.ble 1 C && Nat.ble C 6) = true := by rw [Nat.ble_eq_true_of_le c, Nat.ble_eq_true_of_le e]; rfl
      obtain ⟨hv, hm⟩ := hM (6 * (R - 1) + (C - 1)) (by omega)
      rw [if_pos hg, hr, if_neg (show ¬ (cb true, M).1 = 0 from (by decide : ¬ cb true = (0 : Int32))), g_ing C (by omega), Option.bind_some, hc, if_neg (show ¬ (cb true, M).1 = 0 from (by decide : ¬ cb true = (0 : Int32))), g_ix a c, n_ib_nI (show 6 * (R - 1) + (C - 1) < 36 by omega) (by decide), n_chk_t, nI_clamp (by omega)]
      simp only [hm]
      generalize mi (6 * (R - 1) + (C - 1)) = v at hv ⊢
      rcases (show v = 0 ∨ v = 1 ∨ v = 2 by omega) with rfl | rfl | rfl
      · rw [if_pos (show nI 0 = (0 : Int32) from rfl), if_pos rfl]
        refine (g_136 h.1 a c).trans ?_
        exact ih (i + 1) f d _ _ k (g_ok_s h.1 ⟨a, b, c, e⟩) (by omega) (by omega)
      · rw [if_neg (show ¬ nI 1 = (0 : Int32) by decide), if_neg (show ¬ ¬ nI 1 = (1 : Int32) from not_not_intro rfl), if_neg (show ¬ (1 : Nat) = 0 by decide), g_x1 d h.1, nI_1]
        have hd := g_d4 (v := 1) h.1
        refine (g_136 hd a c).trans ?_
        exact ih (i + 1) f _ _ _ (k + 1) (g_ok_s hd ⟨a, b, c, e⟩) (by omega) (by omega)
      · rw [if_neg (show ¬ nI 2 = (0 : Int32) by decide), if_pos (show ¬ nI 2 = (1 : Int32) by decide), if_neg (show ¬ (2 : Nat) = 0 by decide), g_x2 d h.1, nI_1]
        have hd := g_d4 (v := 2) h.1
        refine (g_136 hd a c).trans ?_
        exact ih (i + 1) f _ _ _ (k + 1) (g_ok_s hd ⟨a, b, c, e⟩) (by omega) (by omega)
    · rw [if_neg hg]
      rw [g_in2] at hg
      cases hr : (Nat.ble 1 R && Nat.ble R 6) with
      | false => rfl
      | true =>
        cases hc : (Nat.ble 1 C && Nat.ble C 6) with
        | false =>
          rw [if_neg (show ¬ (cb true, M).1 = 0 from (by decide : ¬ cb true = (0 : Int32))), g_ing C (by omega), Option.bind_some, hc]
          rfl
        | true =>
          rw [hr, hc] at hg
          exact absurd rfl hg
theorem n_up2 {M : nM} {a k : Nat} {u v : Int32} : n_up (n_up M a k u) a k v = n_up M a k v := by
  funext c
  by_cases e : c = a
  · subst e
    rw [n_up_eq, n_up_eq, n_up_eq]
    funext j
    by_cases e2 : j = k
    · subst e2; rw [upd_eq, upd_eq]
    · rw [upd_ne e2, upd_ne e2, upd_ne e2]
  · rw [n_up_ne e, n_up_ne e, n_up_ne e]
theorem gf56_eq (N f : Nat) (x2 x3 x4 : Int32) (M : nM) : fX12_goesFrom_56 N (f + 1) x2 x3 x4 M = (fX12_isIn x3 (0 : Int32) (5 : Int32) M).bind fun p1 => if p1.1 = 0 then fX12_goesFrom_176 N x3 x4 p1.2 else (fX12_isIn x4 (0 : Int32) (5 : Int32) p1.2).bind fun p2 => if p2.1 = 0 then fX12_goesFrom_176 N x3 x4 p2.2 else n_chk (n_ib 36 (((6 : Int32) * x3) + x4)) (if (p2.2 143 (((6 : Int32) * x3) + x4).toNatClampNeg) = 0 then fX12_goesFrom_134 N (fun x2 x3 x4 M => fX12_goesFrom_56 N f x2 x3 x4 M) x2 x3 x4 p2.2 else if ¬ (p2.2 143 (((6 : Int32) * x3) + x4).toNatClampNeg) = (2 : Int32) then (if (2 : Int32) = 0 then none else if ¬ (x2 - x2 / (2 : Int32) * (2 : Int32)) = 0 then fX12_goesFrom_133 N (fun x2 x3 x4 M => fX12_goesFrom_56 N f x2 x3 x4 M) x3 x4 (x2 - (1 : Int32)) (n_up p2.2 107 64 ((p2.2 107 64) + (1 : Int32))) else fX12_goesFrom_133 N (fun x2 x3 x4 M => fX12_goesFrom_56 N f x2 x3 x4 M) x3 x4 (x2 + (1 : Int32)) (n_up p2.2 107 64 ((p2.2 107 64) + (1 : Int32)))) else fX12_goesFrom_133 N (fun x2 x3 x4 M => fX12_goesFrom_56 N f x2 x3 x4 M) x3 x4 ((3 : Int32) - x2) (n_up p2.2 107 64 ((p2.2 107 64) + (1 : Int32)))) := rfl
theorem c_gf56 {N : Nat} {D : nM} {mi : Nat → Nat} (hM : ∀ k, k < 36 → mi k ≤ 2 ∧ D 143 k = nI (mi k)) : ∀ (F f d R C k : Nat), g_ok d R C → F < f → g_in (g_run mi F d R C k).2.1 (g_run mi F d R C k).2.2.1 = false → fX12_goesFrom_56 N f (nI d) (nI R - 1) (nI C - 1) (n_up D 107 64 (nI k)) = fX12_goesFrom_176 N (nI (g_run mi F d R C k).2.1 - 1) (nI (g_run mi F d R C k).2.2.1 - 1) (n_up D 107 64 (nI (g_run mi F d R C k).2.2.2)) := by
  intro F
  have outc : ∀ (f d R C k : Nat), g_ok d R C → g_in R C = false → fX12_goesFrom_56 N (f + 1) (nI d) (nI R - 1) (nI C - 1) (n_up D 107 64 (nI k)) = fX12_goesFrom_176 N (nI R - 1) (nI C - 1) (n_up D 107 64 (nI k)) := fun f d R C k h hg => by
    obtain ⟨r7, c7⟩ := g_7 h
    rw [gf56_eq, e_isIn, g_wi R (by omega), Option.bind_some]
    rw [g_in2] at hg
    cases hr : (Nat.ble 1 R && Nat.ble R 6) with
    | false => rfl
    | true =>
      cases hc : (Nat.ble 1 C && Nat.ble C 6) with
      | false =>
        rw [if_neg (show ¬ (cb true, n_up D 107 64 (nI k)).1 = 0 from (by decide : ¬ cb true = (0 : Int32))), e_isIn, g_wi C (by omega), Option.bind_some, hc]
        rfl
      | true =>
        rw [hr, hc] at hg
        cases hg
  induction F with
  | zero =>
    intro f d R C k h hf hg
    obtain ⟨f, rfl⟩ : ∃ g, f = g + 1 := ⟨f - 1, by omega⟩
    exact outc f d R C k h hg
  | succ F ih =>
    intro f d R C k h hf
    obtain ⟨f, rfl⟩ : ∃ g, f = g + 1 := ⟨f - 1, by omega⟩
    obtain ⟨r7, c7⟩ := g_7 h
    unfold g_run
    by_cases hg : g_in R C = true
    · obtain ⟨a, b, c, e⟩ := g_in_t.mp hg
      have hr : (Nat.ble 1 R && Nat.ble R 6) = true := by rw [Nat.ble_eq_true_of_le a, Nat.ble_eq_true_of_le b]; rfl
      have hc : (Nat.ble 1 C && Nat.ble C 6) = true := by rw [Nat.ble_eq_true_of_le c, Nat.ble_eq_true_of_le e]; rfl
      obtain ⟨hv, hm⟩ := hM (6 * (R - 1) + (C - 1)) (by omega)
      have h64 : n_up D 107 64 (nI k) 107 64 = nI k := by rw [n_up_eq, upd_eq]
      have hm2 : n_up D 107 64 (nI k) 143 (6 * (R - 1) + (C - 1)) = nI (mi (6 * (R - 1) + (C - 1))) := by rw [n_up_ne (by decide)]; exact hm
      rw [if_pos hg, gf56_eq, e_isIn, g_wi R (by omega), Option.bind_some, hr, if_neg (show ¬ (cb true, n_up D 107 64 (nI k)).1 = 0 from (by decide : ¬ cb true = (0 : Int32))), e_isIn, g_wi C (by omega), Option.bind_some, hc, if_neg (show ¬ (cb true, n_up D 107 64 (nI k)).1 = 0 from (by decide : ¬ cb true = (0 : Int32))), Int32.mul_comm (6 : Int32), g_ix a c, n_ib_nI (show 6 * (R - 1) + (C - 1) < 36 by omega) (by decide), n_chk_t, nI_clamp (by omega)]
      simp only [hm2, h64, n_up2, nI_1]
      generalize mi (6 * (R - 1) + (C - 1)) = v at hv ⊢
      rcases (show v = 0 ∨ v = 1 ∨ v = 2 by omega) with rfl | rfl | rfl
      · rw [if_pos (show nI 0 = (0 : Int32) from rfl), if_pos rfl]
        intro ho
        refine (g_134 h.1 a c).trans ?_
        exact ih f d _ _ k (g_ok_s h.1 ⟨a, b, c, e⟩) (by omega) ho
      · rw [if_neg (show ¬ nI 1 = (0 : Int32) by decide), if_pos (show ¬ nI 1 = (2 : Int32) by decide), if_neg (show ¬ (1 : Nat) = 0 by decide), if_neg (show ¬ (2 : Int32) = 0 by decide)]
        intro ho
        have hd := g_d4 (v := 1) h.1
        have y1 := g_y1 d h.1
        have st : fX12_goesFrom_134 N (fun x2 x3 x4 M => fX12_goesFrom_56 N f x2 x3 x4 M) (nI (g_d d 1)) (nI R - 1) (nI C - 1) (n_up D 107 64 (nI (k + 1))) = _ := (g_134 hd a c).trans (ih f _ _ _ (k + 1) (g_ok_s hd ⟨a, b, c, e⟩) (by omega) ho)
        by_cases hz : ¬ (nI d - nI d / (2 : Int32) * (2 : Int32)) = 0
        · rw [if_pos hz] at y1
          rw [if_pos hz, y1]
          exact st
        · rw [if_neg hz, nI_1] at y1
          rw [if_neg hz, y1]
          exact st
      · rw [if_neg (show ¬ nI 2 = (0 : Int32) by decide), if_neg (show ¬ ¬ nI 2 = (2 : Int32) from not_not_intro rfl), if_neg (show ¬ (2 : Nat) = 0 by decide), g_y2 d h.1]
        intro ho
        have hd := g_d4 (v := 2) h.1
        exact (g_134 hd a c).trans (ih f _ _ _ (k + 1) (g_ok_s hd ⟨a, b, c, e⟩) (by omega) ho)
    · rw [if_neg hg]
      intro ho
      exact outc f d R C k h ho
