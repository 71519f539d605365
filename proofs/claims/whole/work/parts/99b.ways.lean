/-! ===== heir: the class's answers ===== -/
theorem h_min {q : Nat} (hq : q ≤ 12) : (if (0 : Int32) < (if (12 : Int32) < nI q then (12 : Int32) else nI q) then (if (12 : Int32) < nI q then (12 : Int32) else nI q) else (0 : Int32)) = nI q := by
  rw [if_neg (show ¬ (12 : Int32) < nI q from nI_nlt (a := 12) (by omega) (by decide))]
  by_cases z : 0 < q
  · rw [if_pos (show (0 : Int32) < nI q from nI_lt (a := 0) z (by omega))]
  · rw [show q = 0 by omega, if_neg (by decide)]
    rfl
theorem c_ga {N q : Nat} {G : nG} {M : nM} {ps : List (Nat × Nat)} {jg : Nat → Nat} (hN : 1000 ≤ N) (hG : n_GOK G) (hq : q ≤ 12) (hL : ps.length ≤ 16) (h3 : M 26 3 = nI ps.length) (hps : ∀ i, i < ps.length → (ps.getD i (0, 0)).1 < q ∧ (ps.getD i (0, 0)).2 < q ∧ (ps.getD i (0, 0)).1 ≠ (ps.getD i (0, 0)).2) (hc : ∀ (M' : nM), M' 26 = M 26 → M' 27 = M 27 → ∀ i, i < ps.length → fX7_cell G 26 (nI i) (0 : Int32) M' = some (nI (ps.getD i (0, 0)).1, M') ∧ fX7_cell G 26 (nI i) (1 : Int32) M' = some (nI (ps.getD i (0, 0)).2, M')) (hf2 : ∀ c, (ps.filter (fun x => x.1 == c)).length ≤ 2) (hj : ∀ k, k < 12 → jg k < 3 ∧ M 43 k = nI (jg k)) : ∃ (F S : Nat → Nat) (M' : nM), fX2_gather N G (nI q) M = some ((), M') ∧ (∀ k, k < 101 ∨ 106 < k → M' k = M k) ∧ h_Z q F S (h_al jg) M' ∧ (∀ k, k < 12 → M' 105 k = h_am (jg k)) ∧ (∀ j, j < 12 → M' 106 j = -1) ∧ h_G q ps F S M' := by
  obtain ⟨M1, hM1⟩ : ∃ M1, M1 = n_up M 101 5 (nI q) := ⟨_, rfl⟩
  have f2 := e_fill (N := N) (c := 102) (L := 12) (x := (-1 : Int32)) (gk102 hG) (gl102 hG) (by decide) hN M1
  obtain ⟨M2, hM2⟩ : ∃ M2, M2 = n_set M1 102 (fun t => if 0 ≤ t ∧ t < 12 then (-1 : Int32) else M1 102 t) := ⟨_, rfl⟩
  have f3 := e_fill (N := N) (c := 103) (L := 12) (x := (-1 : Int32)) (gk103 hG) (gl103 hG) (by decide) hN M2
  obtain ⟨M3, hM3⟩ : ∃ M3, M3 = n_set M2 103 (fun t => if 0 ≤ t ∧ t < 12 then (-1 : Int32) else M2 103 t) := ⟨_, rfl⟩
  have f4 := e_fill (N := N) (c := 104) (L := 12) (x := (0 : Int32)) (gk104 hG) (gl104 hG) (by decide) hN M3
  obtain ⟨M4, hM4⟩ : ∃ M4, M4 = n_set M3 104 (fun t => if 0 ≤ t ∧ t < 12 then (0 : Int32) else M3 104 t) := ⟨_, rfl⟩
  have f5 := e_fill (N := N) (c := 106) (L := 12) (x := (-1 : Int32)) (gk106 hG) (gl106 hG) (by decide) hN M4
  obtain ⟨M5, hM5⟩ : ∃ M5, M5 = n_set M4 106 (fun t => if 0 ≤ t ∧ t < 12 then (-1 : Int32) else M4 106 t) := ⟨_, rfl⟩
  rw [← hM2] at f2
  rw [← hM3] at f3
  rw [← hM4] at f4
  rw [← hM5] at f5
  have fr : ∀ k, k < 101 ∨ 106 < k → M5 k = M k := fun k hk => by
    rw [hM5, n_set_ne (by omega), hM4, n_set_ne (by omega), hM3, n_set_ne (by omega), hM2, n_set_ne (by omega), hM1, n_up_ne (by omega)]
  have e102 : ∀ t, t < 12 → M5 102 t = -1 := fun t ht => by
    rw [hM5, n_set_ne (by decide), hM4, n_set_ne (by decide), hM3, n_set_ne (by decide), hM2, n_set_eq]
    exact if_pos ⟨Nat.zero_le _, ht⟩
  have e103 : ∀ t, t < 12 → M5 103 t = -1 := fun t ht => by
    rw [hM5, n_set_ne (by decide), hM4, n_set_ne (by decide), hM3, n_set_eq]
    exact if_pos ⟨Nat.zero_le _, ht⟩
  have e106 : ∀ t, t < 12 → M5 106 t = -1 := fun t ht => by
    rw [hM5, n_set_eq]
    exact if_pos ⟨Nat.zero_le _, ht⟩
  have e101 : M5 101 5 = nI q := by
    rw [hM5, n_set_ne (by decide), hM4, n_set_ne (by decide), hM3, n_set_ne (by decide), hM2, n_set_ne (by decide), hM1, n_up_eq, upd_eq]
  obtain ⟨W', w1, w2⟩ := c_ga49 (N := N) (G := G) (M := M5) (jg := jg) (fun k hk => by rw [fr 43 (by omega)]; exact hj k hk) 12 0 N (M5 105) (by omega) (by omega) (fun k hk => absurd hk (by omega))
  rw [n_set_self rfl] at w2
  obtain ⟨M6, hM6⟩ : ∃ M6, M6 = n_set M5 105 W' := ⟨_, rfl⟩
  rw [← hM6] at w2
  have o6 : ∀ k, k ≠ 105 → M6 k = M5 k := fun k hk => by rw [hM6, n_set_ne hk]
  obtain ⟨F, S, M', r1, r2, r3⟩ := c_ga105 (N := N) (q := q) (G := G) (M0 := M6) (ps := ps) hq hL (by rw [o6 101 (by decide)]; exact e101) (by rw [o6 26 (by decide), fr 26 (by omega)]; exact h3) hps (fun K hK => hc K (by rw [hK 26 (by decide) (by decide) (by decide), o6 26 (by decide), fr 26 (by omega)]) (by rw [hK 27 (by decide) (by decide) (by decide), o6 27 (by decide), fr 27 (by omega)])) hf2 ps.length 0 N M6 (fun _ => 99) (fun _ => 99) (by omega) (by omega) (fun _ _ _ _ => rfl) (by
    rw [List.take_zero]
    refine ⟨fun c hc => ?_, fun c hc => ?_, fun c => ⟨Or.inr rfl, Or.inr rfl, fun _ => rfl, fun _ => rfl⟩, fun c p hp => ⟨fun z => absurd z (by simp), fun z => ?_⟩, fun c => Nat.zero_le _, fun c i j hc hi hj hij hx hy => ?_⟩
    · rw [o6 102 (by decide), e102 c hc]
      exact (if_neg (show ¬ 99 < q by omega)).symm
    · rw [o6 103 (by decide), e103 c hc]
      exact (if_neg (show ¬ 99 < q by omega)).symm
    · rcases z with z | z
      · have z' : 99 = p := z
        omega
      · have z' : 99 = p := z
        omega
    · exfalso
      rcases hx with x | x | x <;> rcases hy with y | y | y
      · omega
      · have y' : j = 99 := y
        omega
      · have y' : j = 99 := y
        omega
      · have x' : i = 99 := x
        omega
      · have x' : i = 99 := x
        omega
      · have x' : i = 99 := x
        omega
      · have x' : i = 99 := x
        omega
      · have x' : i = 99 := x
        omega
      · have x' : i = 99 := x
        omega)
  have h105 : ∀ k, k < 12 → M' 105 k = h_am (jg k) := fun k hk => by
    rw [r2 105 (by decide) (by decide) (by decide), hM6, n_set_eq]
    exact w1 k hk
  refine ⟨F, S, M', ?_, fun k hk => by rw [r2 k (by omega) (by omega) (by omega), o6 k (by omega)]; exact fr k hk, ?_, h105, fun j hj' => by rw [r2 106 (by decide) (by decide) (by decide), o6 106 (by decide)]; exact e106 j hj', r3⟩
  · unfold fX2_gather
    rw [h_min hq, ← hM1]
    show ((fJ7_fill_53178 N G 102 (-1 : Int32) M1).bind _) = _
    rw [f2, Option.bind_some]
    show ((fJ7_fill_53178 N G 103 (-1 : Int32) M2).bind _) = _
    rw [f3, Option.bind_some]
    show ((fJ7_fill_53178 N G 104 (0 : Int32) M3).bind _) = _
    rw [f4, Option.bind_some]
    show ((fJ7_fill_53178 N G 106 (-1 : Int32) M4).bind _) = _
    rw [f5, Option.bind_some]
    exact (show fX2_gather_49 N G N (nI 0) M5 = _ from w2).trans r1
  · refine ⟨by rw [r2 101 (by decide) (by decide) (by decide), o6 101 (by decide)]; exact e101, r3.1, r3.2.1, r3.2.2.2.2.2, fun p v hp hv => ?_⟩
    obtain ⟨j1, -⟩ := hj p (by omega)
    rw [h105 p (by omega), h_am_t (jg p) j1 v hv]
    rfl
/-- no mark is given -/
def h_g0 (_ : Nat) : Nat := 3
theorem h_all {q : Nat} (hq : q ≤ 12) (j : Nat) : bt (((1 : Int32) <<< (nI q &&& 31)) - (1 : Int32)) j = decide (j < q) := by
  have h1 : ∀ q, q < 13 → ∀ j, j < 32 → bt (((1 : Int32) <<< (nI q &&& 31)) - (1 : Int32)) j = decide (j < q) := by decide +kernel
  by_cases z : j < 32
  · exact h1 q (by omega) j z
  · rw [b_big (by omega)]
    simp only [Bool.false_eq, decide_eq_false_iff_not]
    omega
/-- all ways of all persons -/
def h_T (q : Nat) (F S : Nat → Nat) (al : Nat → Nat → Bool) : Nat := h_W q F S al (fun j => decide (j < q)) h_g0
theorem c_ways {N q : Nat} {F S : Nat → Nat} {al : Nat → Nat → Bool} {M : nM} (hN : 1000 ≤ N) (hq : q ≤ 12) (hZ : h_Z q F S al M) (h106 : ∀ j, j < 12 → M 106 j = -1) : ∃ U : Nat → Int32, (∀ j, j < 12 → U j = -1) ∧ fX2_ways N M = some (nI (h_T q F S al), n_set M 106 U) := by
  have hb := h_all hq
  have hf : (fun j => bt (((1 : Int32) <<< (nI q &&& 31)) - (1 : Int32)) j) = fun j => decide (j < q) := funext hb
  have h12 := h_cn_12 (((1 : Int32) <<< (nI q &&& 31)) - (1 : Int32))
  obtain ⟨U, u1, u2⟩ := (c_wg (N := N) (q := q) (F := F) (S := S) (al := al) (M := M) hN hq hZ 60).1 (((1 : Int32) <<< (nI q &&& 31)) - (1 : Int32)) 0 h_g0 (M 106) (by
    rw [hf]
    refine ⟨fun j hj => ⟨of_decide_eq_true hj, rfl⟩, fun c hc _ => ⟨Or.inl (decide_eq_true hc), fun hl => Or.inl (decide_eq_true hl), fun hl => Or.inl (decide_eq_true hl)⟩⟩) (by omega) (by omega) ⟨fun j hj => by rw [h106 j hj]; rfl, fun j => Nat.le_refl _⟩
  rw [n_set_self rfl, hf] at u2
  refine ⟨U, fun j hj => by rw [u1.1 j hj]; rfl, ?_⟩
  unfold fX2_ways
  rw [hZ.1]
  show ((fX2_waysOf_g N 60 0 (((1 : Int32) <<< (nI q &&& 31)) - (1 : Int32)) (nI 0) M).bind _) = _
  rw [u2, Option.bind_some]
  show some ((lN _).toInt32, _) = _
  rw [lN_i]
  rfl
theorem fm_eq (N f : Nat) (x1 x2 x3 x4 x5 : Int32) (M : nM) : fX2_fewAndMany_29 N (f + 1) x1 x2 x3 x4 x5 M = if (3 : Int32) ≤ x5 then n_chk (n_ib 12 x1) (if ¬ x2 = (-1 : Int32) then some ((((10 : Int32) * x2) + x3), n_up M 105 x1.toNatClampNeg x4) else some ((-1 : Int32), n_up M 105 x1.toNatClampNeg x4)) else n_chk (n_ib 12 x1) ((fX2_ways N (n_up M 105 x1.toNatClampNeg (x4 &&& ((1 : Int32) <<< (x5 &&& 31))))).bind fun p3 => if p3.1 = 0 then fX2_fewAndMany_29 N f x1 x2 x3 x4 (x5 + (1 : Int32)) p3.2 else if ¬ x2 = (-1 : Int32) then fX2_fewAndMany_29 N f x1 x2 x5 x4 (x5 + (1 : Int32)) p3.2 else fX2_fewAndMany_29 N f x1 x5 x5 x4 (x5 + (1 : Int32)) p3.2) := rfl
/-- the same, where x has the mark v -/
def h_ax (al : Nat → Nat → Bool) (x v p u : Nat) : Bool := al p u && (decide (p ≠ x) || decide (u = v))
/-- the fewest and the most marks out of what can be -/
def h_fm (q : Nat → Bool) : Nat → Nat → Int32 → Int32 → Int32
  | 0, _, a, b => if ¬ a = (-1 : Int32) then 10 * a + b else -1
  | d + 1, v, a, b => if q v = true then (if ¬ a = (-1 : Int32) then h_fm q d (v + 1) a (nI v) else h_fm q d (v + 1) (nI v) (nI v)) else h_fm q d (v + 1) a b
theorem c_fm {N q x : Nat} {F S : Nat → Nat} {al : Nat → Nat → Bool} {M0 : nM} {A : Int32} (hN : 1000 ≤ N) (hq : q ≤ 12) (hx : x < q) (hZ : h_Z q F S al M0) (hA : ∀ u, u < 3 → bt A u = al x u) : ∀ (d v f : Nat) (a b : Int32) (M : nM), v + d = 3 → d < f → (∀ k, k ≠ 105 → k ≠ 106 → M k = M0 k) → (∀ p, p ≠ x → M 105 p = M0 105 p) → (∀ j, j < 12 → M 106 j = -1) → ∃ M' : nM, (∀ k, k ≠ 105 → k ≠ 106 → M' k = M0 k) ∧ fX2_fewAndMany_29 N f (nI x) a b A (nI v) M = some (h_fm (fun v => decide (0 < h_T q F S (h_ax al x v))) d v a b, M') := by
  intro d
  induction d with
  | zero =>
    intro v f a b M hv hf h1 h2 h3
    obtain ⟨f, rfl⟩ : ∃ g, f = g + 1 := ⟨f - 1, by omega⟩
    refine ⟨n_up M 105 x A, fun k k1 k2 => by rw [n_up_ne k1]; exact h1 k k1 k2, ?_⟩
    rw [fm_eq, if_pos (show (3 : Int32) ≤ nI v from nI_le (a := 3) (by omega) (by omega)), n_ib_nI (show x < 12 by omega) (by decide), n_chk_t, nI_clamp (show x < 2 ^ 31 by omega)]
    unfold h_fm
    split <;> rfl
  | succ d ih =>
    intro v f a b M hv hf h1 h2 h3
    obtain ⟨f, rfl⟩ : ∃ g, f = g + 1 := ⟨f - 1, by omega⟩
    obtain ⟨z1, z2, z3, z4, z5⟩ := hZ
    obtain ⟨M1, hM1⟩ : ∃ M1, M1 = n_up M 105 x (A &&& ((1 : Int32) <<< (nI v &&& 31))) := ⟨_, rfl⟩
    have o1 : ∀ k, k ≠ 105 → M1 k = M k := fun k hk => by rw [hM1, n_up_ne hk]
    have hZ1 : h_Z q F S (h_ax al x v) M1 := by
      refine ⟨?_, ?_, ?_, ?_, fun p u hp hu => ?_⟩
      · rw [o1 101 (by decide), h1 101 (by decide) (by decide)]; exact z1
      · rw [o1 102 (by decide), h1 102 (by decide) (by decide)]; exact z2
      · rw [o1 103 (by decide), h1 103 (by decide) (by decide)]; exact z3
      · rw [o1 104 (by decide), h1 104 (by decide) (by decide)]; exact z4
      · unfold h_ax
        rw [hM1, n_up_eq]
        by_cases e : p = x
        · subst e
          rw [upd_eq, b_and, b_sh (by omega), hA u hu]
          simp
        · rw [upd_ne e, h2 p e, z5 p u hp hu]
          simp [e]
    obtain ⟨U, u1, u2⟩ := c_ways (N := N) (q := q) (F := F) (S := S) (al := h_ax al x v) (M := M1) hN hq hZ1 (fun j hj => by rw [o1 106 (by decide)]; exact h3 j hj)
    have hT : h_T q F S (h_ax al x v) ≤ 531441 := h_W_le hq
    have next : ∀ a b : Int32, ∃ M' : nM, (∀ k, k ≠ 105 → k ≠ 106 → M' k = M0 k) ∧ fX2_fewAndMany_29 N f (nI x) a b A (nI (v + 1)) (n_set M1 106 U) = some (h_fm (fun v => decide (0 < h_T q F S (h_ax al x v))) d (v + 1) a b, M') := fun a b => ih (v + 1) f a b (n_set M1 106 U) (by omega) (by omega) (fun k k1 k2 => by rw [n_set_ne k2, o1 k k1]; exact h1 k k1 k2) (fun p hp => by
      rw [n_set_ne (show (105 : Nat) ≠ 106 by decide), hM1, n_up_eq, upd_ne hp]
      exact h2 p hp) (fun j hj => by rw [n_set_eq]; exact u1 j hj)
    rw [fm_eq, if_neg (show ¬ (3 : Int32) ≤ nI v from nI_ge (b := 3) (by omega) (by decide)), n_ib_nI (show x < 12 by omega) (by decide), n_chk_t, nI_clamp (show x < 2 ^ 31 by omega), ← hM1, u2, Option.bind_some, nI_1]
    unfold h_fm
    generalize h_T q F S (h_ax al x v) = K at hT
    by_cases hK : 0 < K
    · rw [if_neg (show ¬ nI K = 0 from nI_ne0 hK (by omega)), if_pos (show decide (0 < K) = true from decide_eq_true hK)]
      by_cases ha : a = (-1 : Int32)
      · rw [if_neg (not_not_intro ha), if_neg (not_not_intro ha)]
        exact next _ _
      · rw [if_pos ha, if_pos ha]
        exact next _ _
    · rw [show K = 0 by omega, if_pos (show nI 0 = (0 : Int32) from rfl), if_neg (show ¬ decide (0 < 0) = true by decide)]
      exact next _ _
