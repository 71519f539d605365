/-! ===== heir: the class's bonds ===== -/
def h_cell (q p : Nat) : Int32 := if p < q then nI p else -1
def h_mk (v : Nat) : Int32 := if v = 3 then -1 else nI v
/-- the class's kin: how many, parents, marks -/
def h_K (q : Nat) (F S g : Nat → Nat) (M : nM) : Prop := M 101 5 = nI q ∧ (∀ c, c < 12 → M 102 c = h_cell q (F c)) ∧ (∀ c, c < 12 → M 103 c = h_cell q (S c)) ∧ (∀ j, j < 12 → M 106 j = h_mk (g j)) ∧ ∀ j, g j ≤ 3
theorem e_mo {q p : Nat} {F S g : Nat → Nat} {M : nM} (hq : q ≤ 12) (h : h_K q F S g M) : fX2_marksOf (h_cell q p) M = some (nI (h_v q g p), M) := by
  obtain ⟨h1, -, -, h4, h5⟩ := h
  unfold fX2_marksOf h_cell h_v
  by_cases z : p < q
  · rw [if_pos z, if_pos z, if_neg (nI_pos (by omega)), h1, if_neg (nI_ge z (by omega)), n_ib_nI (show p < 12 by omega) (by decide), n_chk_t, n_chk_t, nI_clamp (show p < 2 ^ 31 by omega), h4 p (by omega)]
    unfold h_mk
    by_cases e : g p = 3
    · rw [if_pos e, if_pos e, if_neg (not_not_intro rfl)]
      rfl
    · have := h5 p
      rw [if_neg e, if_neg e, if_pos (nI_nm1 (by omega))]
  · rw [if_neg z, if_neg z, if_pos (by decide)]
    rfl
theorem e_b47 (M : nM) : ∀ m x y : Nat, m ≤ 2 → x ≤ 2 → y ≤ 2 → (if ¬ nI x = (2 : Int32) then fX2_bondHolds_47 (nI m) (nI x) (nI y) (0 : Int32) M else fX2_bondHolds_47 (nI m) (nI x) (nI y) (1 : Int32) M) = some (cb (h_hh m x y), M) := fun m x y h1 h2 h3 => by
  rcases (show m = 0 ∨ m = 1 ∨ m = 2 by omega) with rfl | rfl | rfl <;> rcases (show x = 0 ∨ x = 1 ∨ x = 2 by omega) with rfl | rfl | rfl <;> rcases (show y = 0 ∨ y = 1 ∨ y = 2 by omega) with rfl | rfl | rfl <;> rfl
theorem h_v_le {q p : Nat} {g : Nat → Nat} (h : ∀ j, g j ≤ 3) : h_v q g p ≤ 2 := by
  unfold h_v
  have := h p
  split
  · split <;> omega
  · omega
theorem bd_eq (x1 : Int32) (M : nM) : fX2_bondHolds x1 M = n_chk (n_ib 12 x1) (if ¬ (M 106 x1.toNatClampNeg) = (-1 : Int32) then n_chk (n_ib 12 x1) ((fX2_marksOf (M 102 x1.toNatClampNeg) M).bind fun p2 => n_chk (n_ib 12 x1) ((fX2_marksOf (p2.2 103 x1.toNatClampNeg) p2.2).bind fun p3 => if ¬ p2.1 = (2 : Int32) then fX2_bondHolds_47 (M 106 x1.toNatClampNeg) p2.1 p3.1 (0 : Int32) p3.2 else fX2_bondHolds_47 (M 106 x1.toNatClampNeg) p2.1 p3.1 (1 : Int32) p3.2)) else some ((1 : Int32), M)) := rfl
theorem e_bd {q c : Nat} {F S g : Nat → Nat} {M : nM} (hq : q ≤ 12) (h : h_K q F S g M) (hc : c < 12) : fX2_bondHolds (nI c) M = some (cb (h_h q F S g c), M) := by
  have h' := h
  obtain ⟨h1, h2, h3, h4, h5⟩ := h'
  have h5c := h5 c
  rw [bd_eq, n_ib_nI hc (by decide), n_chk_t, n_chk_t, nI_clamp (show c < 2 ^ 31 by omega), h4 c hc, h2 c hc]
  unfold h_h h_mk
  by_cases e : g c = 3
  · rw [if_pos e, if_pos e, if_neg (not_not_intro rfl)]
    rfl
  · rw [if_neg e, if_neg e, if_pos (nI_nm1 (by omega)), e_mo hq h, Option.bind_some]
    show n_chk true ((fX2_marksOf (M 103 c) M).bind _) = _
    rw [n_chk_t, h3 c hc, e_mo hq h, Option.bind_some]
    exact e_b47 M (g c) (h_v q g (F c)) (h_v q g (S c)) (by omega) (h_v_le h5) (h_v_le h5)
theorem bs_eq (N f : Nat) (x1 x2 : Int32) (M : nM) : fX2_bondsHold_2 N (f + 1) x1 x2 M = if (M 101 5) ≤ x2 then some ((1 : Int32), M) else if x2 = x1 then fX2_bondsHold_35 N (fun x1 x2 M => fX2_bondsHold_2 N f x1 x2 M) x1 x2 M else n_chk (n_ib 12 x2) (if (M 102 x2.toNatClampNeg) = x1 then fX2_bondsHold_35 N (fun x1 x2 M => fX2_bondsHold_2 N f x1 x2 M) x1 x2 M else n_chk (n_ib 12 x2) (if ¬ (M 103 x2.toNatClampNeg) = x1 then fX2_bondsHold_2 N f x1 (x2 + (1 : Int32)) M else fX2_bondsHold_35 N (fun x1 x2 M => fX2_bondsHold_2 N f x1 x2 M) x1 x2 M)) := rfl
theorem h_cell_eq {q p r : Nat} (hq : q ≤ 12) (hp : p < q) : h_cell q r = nI p ↔ r = p := by
  unfold h_cell
  by_cases z : r < q
  · rw [if_pos z]
    exact nI_eq (by omega) (by omega)
  · rw [if_neg z]
    constructor
    · intro e; exact absurd e.symm (nI_nm1 (by omega))
    · intro e; omega
theorem c_bs {N q p : Nat} {F S g : Nat → Nat} {M : nM} (hq : q ≤ 12) (hp : p < q) (h : h_K q F S g M) : ∀ (d i f : Nat), i + d = q → d < f → (∀ c, c < i → (c = p ∨ F c = p ∨ S c = p) → h_h q F S g c = true) → fX2_bondsHold_2 N f (nI p) (nI i) M = some (cb (h_b q F S p g), M) := by
  intro d
  induction d with
  | zero =>
    intro i f hi hf hb
    obtain ⟨f, rfl⟩ : ∃ g, f = g + 1 := ⟨f - 1, by omega⟩
    rw [bs_eq, h.1, if_pos (nI_le (by omega) (by omega)), h_b_t.mpr (fun c hc => hb c (by omega))]
    rfl
  | succ d ih =>
    intro i f hi hf hb
    obtain ⟨f, rfl⟩ : ∃ g, f = g + 1 := ⟨f - 1, by omega⟩
    have h35 : (i = p ∨ F i = p ∨ S i = p) → fX2_bondsHold_35 N (fun x1 x2 M => fX2_bondsHold_2 N f x1 x2 M) (nI p) (nI i) M = some (cb (h_b q F S p g), M) := fun hr => by
      show ((fX2_bondHolds (nI i) M).bind fun p1 => if ¬ p1.1 = 0 then fX2_bondsHold_2 N f (nI p) (nI i + (1 : Int32)) p1.2 else some ((0 : Int32), p1.2)) = _
      rw [e_bd hq h (by omega), Option.bind_some, nI_1]
      cases hh : h_h q F S g i with
      | true =>
        rw [if_pos (show ¬ (cb true : Int32) = 0 by decide)]
        refine ih (i + 1) f (by omega) (by omega) (fun c hc hr' => ?_)
        by_cases e : c = i
        · rw [e]; exact hh
        · exact hb c (by omega) hr'
      | false =>
        rw [if_neg (show ¬ ¬ (cb false : Int32) = 0 by decide)]
        have : h_b q F S p g = false := by
          cases hz : h_b q F S p g with
          | false => rfl
          | true => rw [h_b_t.mp hz i (by omega) hr] at hh; exact absurd hh (by decide)
        rw [this]
        rfl
    rw [bs_eq, h.1, if_neg (nI_ge (by omega) (by omega)), n_ib_nI (show i < 12 by omega) (by decide), n_chk_t, n_chk_t, nI_clamp (show i < 2 ^ 31 by omega), h.2.1 i (by omega), h.2.2.1 i (by omega), nI_1]
    by_cases e1 : i = p
    · rw [if_pos (congrArg nI e1)]
      exact h35 (Or.inl e1)
    · rw [if_neg (fun z => e1 ((nI_eq (by omega) (by omega)).mp z))]
      by_cases e2 : F i = p
      · rw [if_pos ((h_cell_eq hq hp).mpr e2)]
        exact h35 (Or.inr (Or.inl e2))
      · rw [if_neg (fun z => e2 ((h_cell_eq hq hp).mp z))]
        by_cases e3 : S i = p
        · rw [if_neg (not_not_intro ((h_cell_eq hq hp).mpr e3))]
          exact h35 (Or.inr (Or.inr e3))
        · rw [if_pos (fun z => e3 ((h_cell_eq hq hp).mp z))]
          refine ih (i + 1) f (by omega) (by omega) (fun c hc hr' => ?_)
          by_cases e : c = i
          · rw [e] at hr'
            rcases hr' with z | z | z
            · exact absurd z e1
            · exact absurd z e2
            · exact absurd z e3
          · exact hb c (by omega) hr'
/-! ===== heir: a knot ===== -/
def h_b12 (q : Nat) (s : Int32) : Prop := ∀ u, bt s u = true → u < q
def h_cn (s : Int32) : Nat := sN (fun u => if bt s u = true then 1 else 0) 12
theorem h_cn_12 (s : Int32) : h_cn s ≤ 12 := by
  have : ∀ n : Nat, sN (fun u => if bt s u = true then 1 else 0) n ≤ n := by
    intro n
    induction n with
    | zero => exact Nat.le_refl 0
    | succ n ih =>
      show sN (fun u => if bt s u = true then 1 else 0) n + (if bt s n = true then 1 else 0) ≤ n + 1
      cases bt s n
      · show _ + 0 ≤ _; omega
      · show _ + 1 ≤ _; omega
  exact this 12
theorem h_cn_lt {q : Nat} (hq : q ≤ 12) {s t : Int32} (h : o_le s t) (hb : h_b12 q t) (hn : ¬ o_le t s) : h_cn s < h_cn t := by
  obtain ⟨u, hu⟩ := Classical.not_forall.mp hn
  obtain ⟨h1, h2⟩ := Classical.not_imp.mp hu
  have := hb u h1
  refine sN_lt (a := u) 12 (by omega) (fun i _ => ?_) ?_
  · cases e : bt s i with
    | false => exact Nat.zero_le _
    | true => rw [h i e]; exact Nat.le_refl _
  · rw [if_neg h2, if_pos h1]; exact Nat.zero_lt_one
theorem h_cn_le {s t : Int32} (h : o_le s t) : h_cn s ≤ h_cn t := sN_le 12 fun i _ => by
  cases e : bt s i with
  | false => exact Nat.zero_le _
  | true => rw [h i e]; exact Nat.le_refl _
def h_L (q : Nat) (ne : Nat → Int32) (set : Int32) : List (Nat × Int32) := (List.range q).map (fun c => (c, ne c &&& set))
theorem h_L_d {q : Nat} {ne : Nat → Int32} {set : Int32} {i : Nat} (hi : i < q) : (h_L q ne set).drop i = (i, ne i &&& set) :: (h_L q ne set).drop (i + 1) := by
  have hl : i < (h_L q ne set).length := by unfold h_L; rw [List.length_map, List.length_range]; exact hi
  have e : (h_L q ne set)[i]'hl = (fun c : Nat => (c, ne c &&& set)) ((List.range q)[i]'(by rw [List.length_range]; exact hi)) := List.getElem_map ..
  rw [List.drop_eq_getElem_cons hl, e, List.getElem_range]
theorem kn20_eq (N f : Nat) (k7 : Int32 → Int32 → Int32 → nM → Option (Int32 × nM)) (x2 x3 x4 x5 x6 : Int32) (M : nM) : fX2_knotOf_20 N k7 (f + 1) x2 x3 x4 x5 x6 M = if (M 101 5) ≤ x6 then (if ¬ x3 = x5 then k7 x2 x3 (x4 + (1 : Int32)) M else some (x3, M)) else (fX4_hasBit x3 x6 M).bind fun p2 => if p2.1 = 0 then fX2_knotOf_20 N k7 f x2 x3 x4 x5 (x6 + (1 : Int32)) p2.2 else n_chk (n_ib 12 x6) (fX2_knotOf_20 N k7 f x2 (x3 ||| ((p2.2 104 x6.toNatClampNeg) &&& x2)) x4 x5 (x6 + (1 : Int32)) p2.2) := rfl
theorem kn7_eq (N f : Nat) (x2 x3 x4 : Int32) (M : nM) : fX2_knotOf_7 N (f + 1) x2 x3 x4 M = if (12 : Int32) ≤ x4 then some (x3, M) else fX2_knotOf_20 N (fun x2 x3 x4 M => fX2_knotOf_7 N f x2 x3 x4 M) N x2 x3 x4 x3 (0 : Int32) M := rfl
theorem c_kn20 {N q : Nat} {k7 : Int32 → Int32 → Int32 → nM → Option (Int32 × nM)} {x2 x4 x5 : Int32} {M : nM} (hq : q ≤ 12) (h1 : M 101 5 = nI q) : ∀ (d i f : Nat) (s : Int32), i + d = q → d < f → fX2_knotOf_20 N k7 f x2 s x4 x5 (nI i) M = (if ¬ o_p ((h_L q (M 104) x2).drop i) s = x5 then k7 x2 (o_p ((h_L q (M 104) x2).drop i) s) (x4 + 1) M else some (o_p ((h_L q (M 104) x2).drop i) s, M)) := by
  intro d
  induction d with
  | zero =>
    intro i f s hi hf
    obtain ⟨f, rfl⟩ : ∃ g, f = g + 1 := ⟨f - 1, by omega⟩
    rw [kn20_eq, h1, if_pos (nI_le (by omega) (by omega)), List.drop_eq_nil_of_le (by unfold h_L; rw [List.length_map, List.length_range]; omega)]
    rfl
  | succ d ih =>
    intro i f s hi hf
    obtain ⟨f, rfl⟩ : ∃ g, f = g + 1 := ⟨f - 1, by omega⟩
    have hop : o_p ((h_L q (M 104) x2).drop i) s = o_p ((h_L q (M 104) x2).drop (i + 1)) (if bt s i = true then s ||| (M 104 i &&& x2) else s) := by
      rw [h_L_d (show i < q by omega)]
      rfl
    rw [kn20_eq, h1, if_neg (nI_ge (by omega) (by omega)), e_hasBit (by omega), Option.bind_some, nI_1, hop]
    cases bt s i with
    | false =>
      rw [if_pos (show (cb false : Int32) = 0 from rfl), if_neg (show ¬ false = true by decide)]
      exact ih (i + 1) f s (by omega) (by omega)
    | true =>
      rw [if_neg (show ¬ (cb true : Int32) = 0 by decide), if_pos (show true = true from rfl), n_ib_nI (by omega) (by decide), n_chk_t, nI_clamp (by omega)]
      exact ih (i + 1) f _ (by omega) (by omega)
theorem c_kn7 {N q : Nat} {set : Int32} {M : nM} (hN : 1000 ≤ N) (hq : q ≤ 12) (h1 : M 101 5 = nI q) (hset : h_b12 q set) : ∀ (d p f : Nat) (k : Int32), p + d = 12 → d < f → o_le k set → 13 ≤ h_cn k + d → ∃ k' : Int32, o_le k k' ∧ o_le k' set ∧ (∀ i j, bt k' i = true → bt (M 104 i) j = true → bt set j = true → bt k' j = true) ∧ fX2_knotOf_7 N f set k (nI p) M = some (k', M) := by
  intro d
  have hcl : o_cl (h_L q (M 104) set) set := fun e he _ u hu => by
    obtain ⟨c, -, rfl⟩ := List.mem_map.mp he
    have hu' : bt (M 104 c &&& set) u = true := hu
    rw [b_and, Bool.and_eq_true] at hu'
    exact hu'.2
  induction d with
  | zero =>
    intro p f k _ _ _ hc
    have := h_cn_12 k
    omega
  | succ d ih =>
    intro p f k hp hf hk hc
    obtain ⟨f, rfl⟩ : ∃ g, f = g + 1 := ⟨f - 1, by omega⟩
    have t := c_kn20 (N := N) (q := q) (k7 := fun x2 x3 x4 M => fX2_knotOf_7 N f x2 x3 x4 M) (x2 := set) (x4 := nI p) (x5 := k) (M := M) hq h1 q 0 N k (by omega) (by omega)
    rw [List.drop_zero] at t
    have t0 : fX2_knotOf_7 N (f + 1) set k (nI p) M = fX2_knotOf_20 N (fun x2 x3 x4 M => fX2_knotOf_7 N f x2 x3 x4 M) N set k (nI p) k (nI 0) M := by
      rw [kn7_eq, if_neg (show ¬ (12 : Int32) ≤ nI p from nI_ge (b := 12) (by omega) (by decide))]
      rfl
    have t' := t0.trans t
    have hup := o_p_up (h_L q (M 104) set) k
    have hin := o_p_le (h_L q (M 104) set) k hcl hk
    rw [t']
    by_cases e : o_p (h_L q (M 104) set) k = k
    · rw [if_neg (not_not_intro e)]
      have hfix := o_p_fix (h_L q (M 104) set) k (by rw [e]; exact fun u hu => hu)
      refine ⟨_, by rw [e]; exact fun u hu => hu, hin, fun i j h2 h3 h4 => ?_, rfl⟩
      rw [e] at h2 ⊢
      have hiq := hset i (hk i h2)
      exact hfix (i, M 104 i &&& set) (List.mem_map.mpr ⟨i, List.mem_range.mpr hiq, rfl⟩) h2 j (by
        show bt (M 104 i &&& set) j = true
        rw [b_and, h3, h4]
        rfl)
    · rw [if_pos e]
      have hlt := h_cn_lt hq hup (fun u hu => hset u (hin u hu)) (fun z => e (o_eq z hup))
      obtain ⟨k', r1, r2, r3, r4⟩ := ih (p + 1) f (o_p (h_L q (M 104) set) k) (by omega) (by omega) hin (by omega)
      refine ⟨k', fun u hu => r1 u (hup u hu), r2, r3, ?_⟩
      show fX2_knotOf_7 N f set (o_p (h_L q (M 104) set) k) (nI p + 1) M = _
      rw [nI_1]
      exact r4
theorem c_kn {N q i : Nat} {set : Int32} {M : nM} (hN : 1000 ≤ N) (hq : q ≤ 12) (h1 : M 101 5 = nI q) (hset : h_b12 q set) (hi : bt set i = true) : ∃ k' : Int32, bt k' i = true ∧ o_le k' set ∧ (∀ i j, bt k' i = true → bt (M 104 i) j = true → bt set j = true → bt k' j = true) ∧ fX2_knotOf N (nI i) set M = some (k', M) := by
  have hiq := hset i hi
  have hb : ∀ t, bt ((1 : Int32) <<< (nI i &&& 31)) t = decide (t = i) := fun t => b_sh (by omega) t
  obtain ⟨k', r1, r2, r3, r4⟩ := c_kn7 (N := N) (q := q) (set := set) (M := M) hN hq h1 hset 12 0 N ((1 : Int32) <<< (nI i &&& 31)) (by omega) (by omega) (fun u hu => by
    rw [hb] at hu
    rw [of_decide_eq_true hu]
    exact hi) (by
    have h2 : h_cn 0 < h_cn ((1 : Int32) <<< (nI i &&& 31)) := h_cn_lt hq (fun u hu => by rw [b_0] at hu; exact absurd hu (by decide)) (fun u hu => by
      rw [hb] at hu
      rw [of_decide_eq_true hu]
      exact hiq) (fun z => by
      have := z i (by rw [hb]; simp)
      rw [b_0] at this
      exact absurd this (by decide))
    omega)
  exact ⟨k', r1 i (by rw [hb]; simp), r2, r3, r4⟩
/-! ===== heir: the most bound of a knot ===== -/
theorem mb_eq (N f : Nat) (x1 x2 x3 x4 : Int32) (M : nM) : fX2_mostBound_7 N (f + 1) x1 x2 x3 x4 M = if (M 101 5) ≤ x4 then some (x2, M) else n_chk (n_ib 12 x4) ((fJ6_bitCount_0f7a4 ((M 104 x4.toNatClampNeg) &&& x1) M).bind fun p1 => (fX4_hasBit x1 x4 p1.2).bind fun p2 => if p2.1 = 0 then fX2_mostBound_7 N f x1 x2 x3 (x4 + (1 : Int32)) p2.2 else if p1.1 ≤ x3 then fX2_mostBound_7 N f x1 x2 x3 (x4 + (1 : Int32)) p2.2 else fX2_mostBound_7 N f x1 x4 p1.1 (x4 + (1 : Int32)) p2.2) := rfl
theorem h_num {q : Nat} (hq : q ≤ 12) {s : Int32} (h : h_b12 q s) : ∃ y, y < 65536 ∧ nI y = s := by
  have hlt : s.toBitVec.toNat < 65536 := by
    refine Nat.lt_pow_two_of_testBit (n := 16) _ fun i hi => ?_
    cases e : s.toBitVec.toNat.testBit i with
    | false => rfl
    | true =>
      have : bt s i = true := by
        show s.toBitVec.getLsbD i = true
        rw [BitVec.getLsbD]
        exact e
      have := h i this
      omega
  refine ⟨_, hlt, b_ext fun i hi => ?_⟩
  rw [b_nat hi]
  rfl
theorem c_mb {N q : Nat} {K : Int32} {M : nM} (hq : q ≤ 12) (h1 : M 101 5 = nI q) (hK : h_b12 q K) : ∀ (d i f b : Nat) (m : Int32), i + d = q → d < f → ((m = -1 ∧ ∃ j, i ≤ j ∧ j < q ∧ bt K j = true) ∨ (b < q ∧ bt K b = true ∧ ∃ c : Nat, c < 100 ∧ m = nI c)) → ∃ p, p < q ∧ bt K p = true ∧ fX2_mostBound_7 N f K (nI b) m (nI i) M = some (nI p, M) := by
  intro d
  induction d with
  | zero =>
    intro i f b m hi hf hm
    obtain ⟨f, rfl⟩ : ∃ g, f = g + 1 := ⟨f - 1, by omega⟩
    rcases hm with ⟨-, j, j1, j2, -⟩ | ⟨b1, b2, -⟩
    · omega
    · refine ⟨b, b1, b2, ?_⟩
      rw [mb_eq, h1, if_pos (nI_le (by omega) (by omega))]
  | succ d ih =>
    intro i f b m hi hf hm
    obtain ⟨f, rfl⟩ : ∃ g, f = g + 1 := ⟨f - 1, by omega⟩
    obtain ⟨y, y1, y2⟩ := h_num hq (s := M 104 i &&& K) (fun u hu => by
      rw [b_and, Bool.and_eq_true] at hu
      exact hK u hu.2)
    have hpc : pcN y ≤ 63 := Nat.and_le_right
    rw [mb_eq, h1, if_neg (nI_ge (by omega) (by omega)), n_ib_nI (show i < 12 by omega) (by decide), n_chk_t, nI_clamp (show i < 2 ^ 31 by omega), ← y2, e_bc y1, Option.bind_some]
    show ∃ p, p < q ∧ bt K p = true ∧ ((fX4_hasBit K (nI i) M).bind _) = _
    rw [e_hasBit (by omega), Option.bind_some, nI_1]
    cases hb : bt K i with
    | false =>
      rw [if_pos (show (cb false : Int32) = 0 from rfl)]
      refine ih (i + 1) f b m (by omega) (by omega) ?_
      rcases hm with ⟨e, j, j1, j2, j3⟩ | z
      · refine Or.inl ⟨e, j, ?_, j2, j3⟩
        by_cases ej : j = i
        · rw [ej, hb] at j3; exact absurd j3 (by decide)
        · omega
      · exact Or.inr z
    | true =>
      rw [if_neg (show ¬ (cb true : Int32) = 0 by decide)]
      by_cases hle : nI (pcN y) ≤ m
      · rw [if_pos hle]
        refine ih (i + 1) f b m (by omega) (by omega) ?_
        rcases hm with ⟨e, -⟩ | z
        · exfalso
          rw [e] at hle
          have h0 := nI_pos' (n := pcN y) (by omega)
          exact absurd (Int32.le_trans h0 hle) (by decide)
        · exact Or.inr z
      · rw [if_neg hle]
        exact ih (i + 1) f i (nI (pcN y)) (by omega) (by omega) (Or.inr ⟨by omega, hb, pcN y, by omega, rfl⟩)
