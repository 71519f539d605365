/-! ===== gets ===== -/
def q_ga (w S i xi : Nat) : List Nat → Nat → Int32 → Int32 → Int32 × Int32
  | [], _, R, A => (R, A)
  | x :: t, j, R, A => q_ga w S i xi t (j + 1) (R - nI (w * x / S)) (if w * xi % S < w * x % S ∨ (w * x % S = w * xi % S ∧ j < i) then A + 1 else A)
def q_gf (w S xi : Nat) (r : Int32 × Int32) : Int32 := nI (w * xi / S) + (if r.1 ≤ r.2 then 0 else 1)
theorem q_sum_le : ∀ (ps : List Nat), (∀ (i x : Nat), ps[i]? = some x → 1 ≤ x ∧ x ≤ 30) → ps.sum ≤ 30 * ps.length ∧ ps.length ≤ ps.sum
  | [], _ => by simp
  | x :: t, h => by
    obtain ⟨h1, h2⟩ := q_sum_le t (fun i y hy => h (i + 1) y hy)
    obtain ⟨h3, h4⟩ := h 0 x rfl
    rw [List.sum_cons, List.length_cons]
    omega
theorem l_take_sum {ps : List Nat} {j x : Nat} (h : ps[j]? = some x) : (ps.take (j + 1)).sum = (ps.take j).sum + x := by
  rw [List.take_add_one, h]
  show (ps.take j ++ [x]).sum = _
  rw [List.sum_append]
  simp
theorem e_in73 {G : nG} {M : nM} {N w i xi : Nat} {ps : List Nat} (hG : n_GOK G) (hwm : r_wm (M 39 1) (M 39 2) 1 6) (hl : ps.length ≤ 6) (hc : M 39 3 = nI ps.length) (hp : ∀ (i : Nat) (x : Nat), ps[i]? = some x → 1 ≤ x ∧ x ≤ 30 ∧ M 40 i = nI x ∧ M 148 i = nI x) (hw : w ≤ 9999) (hi : i < ps.length) (hxi : xi ≤ 30) (hS0 : 0 < ps.sum) (hS : ps.sum ≤ 180) : ∀ (d j f : Nat) (R A : Int32), j + d = ps.length → d < f → fX9_inherited_73 N G f (nI w) (nI i) (nI ps.sum) (nI (w * xi)) R A (nI j) M = some (q_gf w ps.sum xi (q_ga w ps.sum i xi (ps.drop j) j R A), M) := by
  have hwx : ∀ x : Nat, x ≤ 30 → w * x ≤ 299970 := fun x hx => Nat.le_trans (Nat.mul_le_mul hw hx) (by decide)
  intro d
  induction d with
  | zero =>
    intro j f R A hj hf
    obtain ⟨f, rfl⟩ : ∃ g, f = g + 1 := ⟨f - 1, by omega⟩
    have h1 := hwx xi hxi
    unfold fX9_inherited_73
    rw [hc, if_pos (nI_le (by omega) (by omega)), if_neg (nI_ne0 hS0 (by omega)), pk_div (by omega) hS0 (by omega), List.drop_of_length_le (by omega)]
    show (if R ≤ A then some (nI (w * xi / ps.sum) + 0, M) else some (nI (w * xi / ps.sum) + 1, M)) = some (nI (w * xi / ps.sum) + (if R ≤ A then 0 else 1), M)
    by_cases hRA : R ≤ A
    · rw [if_pos hRA, if_pos hRA]
    · rw [if_neg hRA, if_neg hRA]
  | succ d ih =>
    intro j f R A hj hf
    obtain ⟨f, rfl⟩ : ∃ g, f = g + 1 := ⟨f - 1, by omega⟩
    have hx : ps[j]? = some (ps[j]'(by omega)) := List.getElem?_eq_getElem (by omega)
    obtain ⟨h1, h2, h3, -⟩ := hp j _ hx
    have hd : ps.drop j = ps[j]'(by omega) :: ps.drop (j + 1) := List.drop_eq_getElem_cons (by omega)
    have g0 := e_cell (W := 1) (H := 6) (i := j) (j := 0) (gk39 hG) (gm39_0 hG) (gk40 hG) (gl40 hG) hwm (by decide) (by decide) (by decide) (by omega) (by decide)
    rw [show j * 1 + 0 = j by omega, h3] at g0
    have k1 := hwx _ h2
    have k2 := hwx xi hxi
    have m1 : w * ps[j] % ps.sum < ps.sum := Nat.mod_lt _ hS0
    have m2 : w * xi % ps.sum < ps.sum := Nat.mod_lt _ hS0
    have zS : ¬ nI ps.sum = 0 := nI_ne0 hS0 (by omega)
    unfold fX9_inherited_73
    rw [hc, if_neg (nI_ge (by omega) (by omega)), show (0 : Int32) = nI 0 from rfl, g0]
    simp only [Option.bind_some, pk_mul, show nI 0 = (0 : Int32) from rfl, if_neg zS, pk_div (show w * ps[j] < 2 ^ 31 by omega) hS0 (show ps.sum < 2 ^ 31 by omega), nI_1]
    rw [hd]
    show _ = some (q_gf w ps.sum xi (q_ga w ps.sum i xi (ps.drop (j + 1)) (j + 1) (R - nI (w * ps[j] / ps.sum)) (if w * xi % ps.sum < w * ps[j] % ps.sum ∨ (w * ps[j] % ps.sum = w * xi % ps.sum ∧ j < i) then A + 1 else A)), M)
    have r1 : nI (w * ps[j]) - nI (w * ps[j] / ps.sum) * nI ps.sum = nI (w * ps[j] % ps.sum) := by
      rw [← pk_div (by omega) hS0 (by omega)]
      exact pk_rem (by omega) hS0 (by omega)
    have r2 : nI (w * xi) - nI (w * xi) / nI ps.sum * nI ps.sum = nI (w * xi % ps.sum) := pk_rem (by omega) hS0 (by omega)
    rw [pk_mul] at r1
    rw [r1, r2]
    by_cases c1 : w * xi % ps.sum < w * ps[j] % ps.sum
    · rw [if_pos (nI_lt c1 (by omega)), if_pos (Or.inl c1)]
      exact ih (j + 1) f _ _ (by omega) (by omega)
    · rw [if_neg (nI_nlt (by omega) (by omega))]
      by_cases c2 : w * ps[j] % ps.sum = w * xi % ps.sum
      · rw [if_neg (by rw [c2]; exact not_not_intro rfl)]
        by_cases c3 : j < i
        · rw [if_neg (nI_ge c3 (by omega)), if_pos (Or.inr ⟨c2, c3⟩)]
          exact ih (j + 1) f _ _ (by omega) (by omega)
        · rw [if_pos (nI_le (by omega) (by omega)), if_neg (fun z => by rcases z with z | z; exact c1 z; exact c3 z.2)]
          exact ih (j + 1) f _ _ (by omega) (by omega)
      · rw [if_pos (fun z => c2 ((nI_eq (by omega) (by omega)).mp z)), if_neg (fun z => by rcases z with z | z; exact c1 z; exact c2 z.1)]
        exact ih (j + 1) f _ _ (by omega) (by omega)
theorem e_ge73 {M : nM} {N w i xi : Nat} {ps : List Nat} (hl : ps.length ≤ 6) (hc : M 107 70 = nI ps.length) (hp : ∀ (i : Nat) (x : Nat), ps[i]? = some x → 1 ≤ x ∧ x ≤ 30 ∧ M 148 i = nI x) (hw : w ≤ 9999) (hi : i < ps.length) (hxi2 : M 148 i = nI xi) (hxi : xi ≤ 30) (hS0 : 0 < ps.sum) (hS : ps.sum ≤ 180) : ∀ (d j f : Nat) (R A : Int32), j + d = ps.length → d < f → fX12_gets_73 N f (nI w) (nI i) (nI ps.sum) R A (nI j) M = some (q_gf w ps.sum xi (q_ga w ps.sum i xi (ps.drop j) j R A), M) := by
  have hwx : ∀ x : Nat, x ≤ 30 → w * x ≤ 299970 := fun x hx => Nat.le_trans (Nat.mul_le_mul hw hx) (by decide)
  have zS : ¬ nI ps.sum = 0 := nI_ne0 hS0 (by omega)
  have k2 := hwx xi hxi
  intro d
  induction d with
  | zero =>
    intro j f R A hj hf
    obtain ⟨f, rfl⟩ : ∃ g, f = g + 1 := ⟨f - 1, by omega⟩
    unfold fX12_gets_73
    rw [hc, if_pos (nI_le (by omega) (by omega)), n_ib_nI (show i < 6 by omega) (by decide), if_neg zS, nI_clamp (by omega), hxi2, pk_mul, pk_div (by omega) hS0 (by omega), List.drop_of_length_le (by omega)]
    show (if R ≤ A then some (nI (w * xi / ps.sum) + 0, M) else some (nI (w * xi / ps.sum) + 1, M)) = some (nI (w * xi / ps.sum) + (if R ≤ A then 0 else 1), M)
    by_cases hRA : R ≤ A
    · rw [if_pos hRA, if_pos hRA]
    · rw [if_neg hRA, if_neg hRA]
  | succ d ih =>
    intro j f R A hj hf
    obtain ⟨f, rfl⟩ : ∃ g, f = g + 1 := ⟨f - 1, by omega⟩
    have hx : ps[j]? = some (ps[j]'(by omega)) := List.getElem?_eq_getElem (by omega)
    obtain ⟨h1, h2, h3⟩ := hp j _ hx
    have hd : ps.drop j = ps[j]'(by omega) :: ps.drop (j + 1) := List.drop_eq_getElem_cons (by omega)
    have k1 := hwx _ h2
    have m1 : w * ps[j] % ps.sum < ps.sum := Nat.mod_lt _ hS0
    have m2 : w * xi % ps.sum < ps.sum := Nat.mod_lt _ hS0
    have r1 : nI (w * ps[j]) - nI (w * ps[j]) / nI ps.sum * nI ps.sum = nI (w * ps[j] % ps.sum) := pk_rem (by omega) hS0 (by omega)
    have r2 : nI (w * xi) - nI (w * xi) / nI ps.sum * nI ps.sum = nI (w * xi % ps.sum) := pk_rem (by omega) hS0 (by omega)
    unfold fX12_gets_73
    rw [hc, if_neg (nI_ge (by omega) (by omega))]
    simp only [n_ib_nI (show i < 6 by omega) (show 6 < 2 ^ 31 by decide), n_ib_nI (show j < 6 by omega) (show 6 < 2 ^ 31 by decide), n_chk, nI_clamp (show i < 2 ^ 31 by omega), nI_clamp (show j < 2 ^ 31 by omega), h3, hxi2, pk_mul (w), if_neg zS, r1, r2, nI_1]
    rw [pk_div (show w * ps[j] < 2 ^ 31 by omega) hS0 (by omega), hd]
    show _ = some (q_gf w ps.sum xi (q_ga w ps.sum i xi (ps.drop (j + 1)) (j + 1) (R - nI (w * ps[j] / ps.sum)) (if w * xi % ps.sum < w * ps[j] % ps.sum ∨ (w * ps[j] % ps.sum = w * xi % ps.sum ∧ j < i) then A + 1 else A)), M)
    by_cases c1 : w * xi % ps.sum < w * ps[j] % ps.sum
    · have e1 : (0 : Int32) < nI (w * ps[j] % ps.sum) - nI (w * xi % ps.sum) := by
        rw [pk_sub (by omega)]
        exact nI_lt (a := 0) (by omega) (by omega)
      rw [if_pos e1, if_pos (Or.inl c1)]
      exact ih (j + 1) f _ _ (by omega) (by omega)
    · by_cases c2 : w * ps[j] % ps.sum = w * xi % ps.sum
      · rw [c2, Int32.sub_self, if_neg (by decide), if_neg (not_not_intro rfl)]
        by_cases c3 : j < i
        · rw [if_neg (nI_ge c3 (by omega)), if_pos (Or.inr ⟨rfl, c3⟩)]
          exact ih (j + 1) f _ _ (by omega) (by omega)
        · rw [if_pos (nI_le (by omega) (by omega)), if_neg (fun z => by rcases z with z | z; exact Nat.lt_irrefl _ z; exact c3 z.2)]
          exact ih (j + 1) f _ _ (by omega) (by omega)
      · have e1 : nI (w * ps[j] % ps.sum) - nI (w * xi % ps.sum) < 0 := pk_sneg (by omega) (by omega)
        have e2 : ¬ (0 : Int32) < nI (w * ps[j] % ps.sum) - nI (w * xi % ps.sum) := fun z => absurd (Int32.lt_trans z e1) (by decide)
        have e3 : ¬ nI (w * ps[j] % ps.sum) - nI (w * xi % ps.sum) = 0 := fun z => by rw [z] at e1; exact absurd e1 (by decide)
        rw [if_neg e2, if_pos e3, if_neg (fun z => by rcases z with z | z; exact c1 z; exact c2 z.1)]
        exact ih (j + 1) f _ _ (by omega) (by omega)
theorem st_gets {G : nG} {M : nM} {n q N : Nat} (hN : 1000 ≤ N) (hG : n_GOK G) (h : Rel G M n q) (x y : Int32) : Stq G (fX11_gets N G x y) (fX12_gets N x y) M := by
  obtain ⟨⟨hst, hmv, hbk, hlw, hsp, hcu, hli, hsw, hpk, hbx, hky, hcl, hsh, hrw, hgf, hmi⟩, hpr, hrd, hck, hwd, him⟩ := id h
  obtain ⟨ps, i1, i2, i3, i4⟩ := hsh
  have hwm : r_wm (M 39 1) (M 39 2) 1 6 := hck.2.2.2.2.2.2.2.2.2.2.2.1
  have e70 : n_up M 107 0 0 107 70 = nI ps.length := i3
  unfold Stq fX11_gets fX12_gets
  cases hw : wi x 0 9999 with
  | false =>
    simp only [e_within, e_isIn, hw, wp_bind, wp_some, wp_chk, ↓reduceIte, not_true_eq_false, not_false_eq_true, z10, z01, zm0, z0m, zm1, z1m, true_and, and_true, cb_t, cb_f, cb0, cb1, eq_self, Bool.false_eq_true, Bool.true_eq_false, reduceCtorEq]
    exact ⟨n, q, h⟩
  | true =>
  obtain ⟨w, hw1, rfl⟩ := wi_nI (n := 9999) (by decide) hw
  cases hv : wi y 0 (nI ps.length - 1) with
  | false =>
    simp only [e_within, e_isIn, hw, i2, e70, hv, wp_bind, wp_some, wp_chk, ↓reduceIte, not_true_eq_false, not_false_eq_true, z10, z01, zm0, z0m, zm1, z1m, true_and, and_true, cb_t, cb_f, cb0, cb1, eq_self, Bool.false_eq_true, Bool.true_eq_false, reduceCtorEq]
    exact ⟨n, q, h⟩
  | true =>
  obtain ⟨i, hi, rfl⟩ : ∃ i, i < ps.length ∧ y = nI i := by
    have g := wi_t hv
    obtain ⟨i, hi, rfl⟩ := nI_of g.1
    refine ⟨i, ?_, rfl⟩
    have g2 := g.2
    rw [Int32.lt_iff_toInt_lt, nI_toInt hi, show (1 : Int32) = nI 1 from rfl, pk_sub_toInt (by omega) (by omega)] at g2
    omega
  obtain ⟨hS1, hS2⟩ := q_sum_le ps (fun i x hx => ⟨(i4 i x hx).1, (i4 i x hx).2.1⟩)
  have hxi : ps[i]? = some (ps[i]'hi) := List.getElem?_eq_getElem hi
  obtain ⟨x1, x2, x3, x4⟩ := i4 i _ hxi
  have cellI := e_cell (W := 1) (H := 6) (i := i) (j := 0) (gk39 hG) (gm39_0 hG) (gk40 hG) (gl40 hG) hwm (by decide) (by decide) (by decide) (by omega) (by decide)
  rw [show i * 1 + 0 = i by omega, x3] at cellI
  have fin : fX9_inherited_73 N G N (nI w) (nI i) (nI ps.sum) (nI (w * ps[i])) (nI w) 0 0 M = some (q_gf w ps.sum ps[i] (q_ga w ps.sum i ps[i] ps 0 (nI w) 0), M) := e_in73 hG hwm i1 i2 i4 hw1 hi x2 (by omega) (by omega) ps.length 0 N _ _ (by omega) (by omega)
  have fC : ∀ (d j f : Nat), j + d = ps.length → d < f → fX9_inherited_5 N G f (nI w) (nI i) (nI (ps.take j).sum) (nI j) M = some (q_gf w ps.sum ps[i] (q_ga w ps.sum i ps[i] ps 0 (nI w) 0), M) := by
    intro d
    induction d with
    | zero =>
      intro j f hj hf
      obtain ⟨f, rfl⟩ : ∃ g, f = g + 1 := ⟨f - 1, by omega⟩
      unfold fX9_inherited_5
      rw [i2, if_pos (nI_le (by omega) (by omega)), List.take_of_length_le (by omega), if_pos (show (0 : Int32) < nI ps.sum from nI_lt (a := 0) (by omega) (by omega)), show (0 : Int32) = nI 0 from rfl, cellI]
      simp only [Option.bind_some, pk_mul]
      exact fin
    | succ d ih =>
      intro j f hj hf
      obtain ⟨f, rfl⟩ : ∃ g, f = g + 1 := ⟨f - 1, by omega⟩
      have hx : ps[j]? = some (ps[j]'(by omega)) := List.getElem?_eq_getElem (by omega)
      have h3 := (i4 j _ hx).2.2.1
      have g0 := e_cell (W := 1) (H := 6) (i := j) (j := 0) (gk39 hG) (gm39_0 hG) (gk40 hG) (gl40 hG) hwm (by decide) (by decide) (by decide) (by omega) (by decide)
      rw [show j * 1 + 0 = j by omega, h3] at g0
      have ht : (ps.take (j + 1)).sum = (ps.take j).sum + ps[j] := l_take_sum hx
      have ih2 := ih (j + 1) f (by omega) (by omega)
      rw [ht] at ih2
      unfold fX9_inherited_5
      rw [i2, if_neg (nI_ge (by omega) (by omega)), show (0 : Int32) = nI 0 from rfl, g0]
      simp only [Option.bind_some, nI_add, nI_1]
      exact ih2
  have fM : ∀ (d j f : Nat), j + d = ps.length → d < f → fX12_gets_39 N f (nI w) (nI i) (nI (ps.take j).sum) (nI j) (n_up M 107 0 0) = some (q_gf w ps.sum ps[i] (q_ga w ps.sum i ps[i] ps 0 (nI w) 0), n_up M 107 0 0) := by
    intro d
    induction d with
    | zero =>
      intro j f hj hf
      obtain ⟨f, rfl⟩ : ∃ g, f = g + 1 := ⟨f - 1, by omega⟩
      unfold fX12_gets_39
      rw [e70, if_pos (nI_le (by omega) (by omega)), List.take_of_length_le (by omega)]
      exact e_ge73 i1 e70 (fun i x hx => ⟨(i4 i x hx).1, (i4 i x hx).2.1, (i4 i x hx).2.2.2⟩) hw1 hi x4 x2 (by omega) (by omega) ps.length 0 N _ _ (by omega) (by omega)
    | succ d ih =>
      intro j f hj hf
      obtain ⟨f, rfl⟩ : ∃ g, f = g + 1 := ⟨f - 1, by omega⟩
      have hx : ps[j]? = some (ps[j]'(by omega)) := List.getElem?_eq_getElem (by omega)
      have h3 : n_up M 107 0 0 148 j = nI ps[j] := (i4 j _ hx).2.2.2
      have ht : (ps.take (j + 1)).sum = (ps.take j).sum + ps[j] := l_take_sum hx
      have ih2 := ih (j + 1) f (by omega) (by omega)
      rw [ht] at ih2
      unfold fX12_gets_39
      rw [e70, if_neg (nI_ge (by omega) (by omega))]
      simp only [n_ib_nI (show j < 6 by omega) (show 6 < 2 ^ 31 by decide), n_chk, nI_clamp (show j < 2 ^ 31 by omega), h3, nI_add, nI_1]
      exact ih2
  have f1 : fX9_inherited N G (nI w) (nI i) M = some (q_gf w ps.sum ps[i] (q_ga w ps.sum i ps[i] ps 0 (nI w) 0), M) := fC ps.length 0 N (by omega) (by omega)
  have f2 : fX12_gets_39 N N (nI w) (nI i) 0 0 (n_up M 107 0 0) = some (q_gf w ps.sum ps[i] (q_ga w ps.sum i ps[i] ps 0 (nI w) 0), n_up M 107 0 0) := fM ps.length 0 N (by omega) (by omega)
  simp only [e_within, e_isIn, hw, i2, e70, hv, f1, f2, wp_bind, wp_some, wp_chk, ↓reduceIte, not_true_eq_false, not_false_eq_true, z10, z01, zm0, z0m, zm1, z1m, true_and, and_true, cb_t, cb_f, cb0, cb1, eq_self, Bool.false_eq_true, Bool.true_eq_false, reduceCtorEq]
  exact ⟨n, q, h⟩
