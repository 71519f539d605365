/-! ===== heir: the class's ways ===== -/
def h_iv (F S : Nat → Nat) (c j : Nat) : Prop := j = c ∨ j = F c ∨ j = S c
def h_Z (q : Nat) (F S : Nat → Nat) (al : Nat → Nat → Bool) (M : nM) : Prop := M 101 5 = nI q ∧ (∀ c, c < 12 → M 102 c = h_cell q (F c)) ∧ (∀ c, c < 12 → M 103 c = h_cell q (S c)) ∧ (∀ c i j, c < q → i < q → j < q → i ≠ j → h_iv F S c i → h_iv F S c j → bt (M 104 i) j = true) ∧ ∀ p v, p < q → v < 3 → bt (M 105 p) v = al p v
def h_M (U : Nat → Int32) (g : Nat → Nat) : Prop := (∀ j, j < 12 → U j = h_mk (g j)) ∧ ∀ j, g j ≤ 3
def h_J (q : Nat) (F S g : Nat → Nat) (K : Nat → Bool) : Prop := (∀ j, K j = true → j < q ∧ g j = 3) ∧ ∀ c, c < q → h_t q F S K c = true → (K c = true ∨ g c ≠ 3) ∧ (F c < q → K (F c) = true ∨ g (F c) ≠ 3) ∧ (S c < q → K (S c) = true ∨ g (S c) ≠ 3)
theorem h_Z_K {q : Nat} {F S g : Nat → Nat} {al : Nat → Nat → Bool} {M : nM} {U : Nat → Int32} (hZ : h_Z q F S al M) (hU : h_M U g) : h_K q F S g (n_set M 106 U) := by
  obtain ⟨z1, z2, z3, -, -⟩ := hZ
  refine ⟨?_, ?_, ?_, ?_, hU.2⟩
  · rw [n_set_ne (show (101 : Nat) ≠ 106 by decide)]; exact z1
  · rw [n_set_ne (show (102 : Nat) ≠ 106 by decide)]; exact z2
  · rw [n_set_ne (show (103 : Nat) ≠ 106 by decide)]; exact z3
  · rw [n_set_eq]; exact hU.1
theorem wk20_eq (N f : Nat) (r0 r1 : Int32 → Int32 → nM → Option (Int64 × nM)) (x1 x2 x3 : Int32) (x4 : Int64) (x6 : Int32) (M : nM) : fX2_waysOfKnot_20 N r0 r1 (f + 1) x1 x2 x3 x4 x6 M = if (3 : Int32) ≤ x6 then n_chk (n_ib 12 x3) (if (1000000007 : Int64) = 0 then none else some ((x4 - x4 / (1000000007 : Int64) * (1000000007 : Int64)), n_up M 106 x3.toNatClampNeg (-1 : Int32))) else n_chk (n_ib 12 x3) ((fX4_hasBit (M 105 x3.toNatClampNeg) x6 M).bind fun p2 => if p2.1 = 0 then fX2_waysOfKnot_20 N r0 r1 f x1 x2 x3 x4 (x6 + (1 : Int32)) p2.2 else n_chk (n_ib 12 x3) ((fX2_bondsHold N x3 (n_up p2.2 106 x3.toNatClampNeg x6)).bind fun p5 => if p5.1 = 0 then fX2_waysOfKnot_20 N r0 r1 f x1 x2 x3 x4 (x6 + (1 : Int32)) p5.2 else (r0 (x1 &&& (((1 : Int32) <<< (x3 &&& 31)) ^^^ (-1 : Int32))) (x2 + (1 : Int32)) p5.2).bind fun p7 => fX2_waysOfKnot_20 N r0 r1 f x1 x2 x3 (x4 + p7.1) (x6 + (1 : Int32)) p7.2)) := rfl
theorem wo8_eq (N f : Nat) (r0 r1 : Int32 → Int32 → nM → Option (Int64 × nM)) (x2 : Int32) (x3 : Int64) (x5 x6 : Int32) (M : nM) : fX2_waysOf_8 N r0 r1 (f + 1) x2 x3 x5 x6 M = if (M 101 5) ≤ x6 then some (x3, M) else if (lg_cmp x3 (0 : Int64)) = 0 then some (x3, M) else (fX4_hasBit x5 x6 M).bind fun p1 => if p1.1 = 0 then fX2_waysOf_8 N r0 r1 f x2 x3 x5 (x6 + (1 : Int32)) p1.2 else (fX2_knotOf N x6 x5 p1.2).bind fun p3 => (r1 p3.1 x2 p3.2).bind fun p5 => if (1000000007 : Int64) = 0 then none else fX2_waysOf_8 N r0 r1 f x2 ((x3 * p5.1) - (x3 * p5.1) / (1000000007 : Int64) * (1000000007 : Int64)) (x5 &&& (p3.1 ^^^ (-1 : Int32))) (x6 + (1 : Int32)) p5.2 := rfl
theorem h_mod {a : Nat} (h : a ≤ 531441 * 3) : lN a - lN a / (1000000007 : Int64) * (1000000007 : Int64) = lN a := by
  have := pk_lRem (a := a) (b := 1000000007) (by omega) (by decide) (by decide)
  rw [Nat.mod_eq_of_lt (by omega)] at this
  exact this
theorem h_mod0 : ¬ (1000000007 : Int64) = 0 := by decide
/-- one mark -/
theorem c_wk1 {N q p v D f a : Nat} {F S g : Nat → Nat} {al : Nat → Nat → Bool} {M : nM} {K : Int32} {r0 r1 : Int32 → Int32 → nM → Option (Int64 × nM)} {w : Nat} (hN : 1000 ≤ N) (hq : q ≤ 12) (hZ : h_Z q F S al M) (hp : p < q) (hv : v < 3) (hg : ∀ j, g j ≤ 3) (hr : ∀ U, h_M U (f_up g p v) → ∃ U', h_M U' (f_up g p v) ∧ r0 (K &&& (((1 : Int32) <<< (nI p &&& 31)) ^^^ (-1 : Int32))) (nI (D + 1)) (n_set M 106 U) = some (lN w, n_set M 106 U')) (U : Nat → Int32) (hU : ∀ j, j < 12 → j ≠ p → U j = h_mk (g j)) : ∃ U', (∀ j, j < 12 → j ≠ p → U' j = h_mk (g j)) ∧ fX2_waysOfKnot_20 N r0 r1 (f + 1) K (nI D) (nI p) (lN a) (nI v) (n_set M 106 U) = fX2_waysOfKnot_20 N r0 r1 f K (nI D) (nI p) (lN (a + if (al p v && h_b q F S p (f_up g p v)) = true then w else 0)) (nI (v + 1)) (n_set M 106 U') := by
  have hal := hZ.2.2.2.2 p v hp hv
  rw [wk20_eq, if_neg (show ¬ (3 : Int32) ≤ nI v from nI_ge (b := 3) hv (by decide)), n_ib_nI (show p < 12 by omega) (by decide), n_chk_t, nI_clamp (show p < 2 ^ 31 by omega), n_set_ne (show (105 : Nat) ≠ 106 by decide), e_hasBit (by omega), Option.bind_some, hal, nI_1, nI_1]
  cases al p v with
  | false =>
    rw [if_pos (show (cb false : Int32) = 0 from rfl), Bool.false_and]
    exact ⟨U, hU, rfl⟩
  | true =>
    rw [if_neg (show ¬ (cb true : Int32) = 0 by decide), Bool.true_and]
    have hU1 : h_M (upd U p (nI v)) (f_up g p v) := by
      refine ⟨fun j hj => ?_, fun j => ?_⟩
      · by_cases e : j = p
        · subst e
          rw [upd_eq, f_up_e]
          unfold h_mk
          rw [if_neg (by omega)]
        · rw [upd_ne e, f_up_n e]
          exact hU j hj e
      · unfold f_up
        have := hg j
        split <;> omega
    have hb := c_bs (N := N) hq hp (h_Z_K hZ hU1) q 0 N (by omega) (by omega) (fun c hc => absurd hc (by omega))
    have hb' : fX2_bondsHold N (nI p) (n_set M 106 (upd U p (nI v))) = some (cb (h_b q F S p (f_up g p v)), n_set M 106 (upd U p (nI v))) := hb
    have back : ∀ U2, h_M U2 (f_up g p v) → ∀ j, j < 12 → j ≠ p → U2 j = h_mk (g j) := fun U2 h2 j hj e => by
      rw [h2.1 j hj, f_up_n e]
    show ∃ U', _ ∧ ((fX2_bondsHold N (nI p) (n_up (n_set M 106 U) 106 p (nI v))).bind _) = _
    rw [n_up_set, hb', Option.bind_some]
    cases h_b q F S p (f_up g p v) with
    | false =>
      rw [if_pos (show (cb false : Int32) = 0 from rfl)]
      exact ⟨_, back _ hU1, rfl⟩
    | true =>
      rw [if_neg (show ¬ (cb true : Int32) = 0 by decide)]
      obtain ⟨U', u1, u2⟩ := hr _ hU1
      refine ⟨U', back _ u1, ?_⟩
      show ((r0 (K &&& (((1 : Int32) <<< (nI p &&& 31)) ^^^ (-1 : Int32))) (nI (D + 1)) (n_set M 106 (upd U p (nI v)))).bind _) = _
      rw [u2, Option.bind_some]
      show fX2_waysOfKnot_20 N r0 r1 f K (nI D) (nI p) (lN a + lN w) (nI (v + 1)) (n_set M 106 U') = _
      rw [lN_add]
      rfl
theorem h_clr {K : Int32} {p : Nat} (hp : p < 12) : (fun j => bt (K &&& (((1 : Int32) <<< (nI p &&& 31)) ^^^ (-1 : Int32))) j) = fun j => bt K j && decide (j ≠ p) := funext fun j => by
  rw [b_clr (by omega)]
  by_cases e : j = p
  · simp [e]
  · simp [e]
theorem h_minus (K L : Int32) (j : Nat) : bt (L &&& (K ^^^ (-1 : Int32))) j = (bt L j && !bt K j) := by
  by_cases h : j < 32
  · rw [b_and, b_xor, b_m1 j h]
    cases bt K j <;> rfl
  · rw [b_big (by omega), b_big (by omega)]
    rfl
theorem c_wk {N q D : Nat} {F S g : Nat → Nat} {al : Nat → Nat → Bool} {M : nM} {K : Int32} {r0 r1 : Int32 → Int32 → nM → Option (Int64 × nM)} (hN : 1000 ≤ N) (hq : q ≤ 12) (hZ : h_Z q F S al M) (hD : D < 12) (hJ : h_J q F S g (fun j => bt K j)) (hne : ∃ j, bt K j = true) (hr : ∀ (p v : Nat) (U : Nat → Int32), bt K p = true → v < 3 → h_M U (f_up g p v) → ∃ U', h_M U' (f_up g p v) ∧ r0 (K &&& (((1 : Int32) <<< (nI p &&& 31)) ^^^ (-1 : Int32))) (nI (D + 1)) (n_set M 106 U) = some (lN (h_W q F S al (fun j => bt K j && decide (j ≠ p)) (f_up g p v)), n_set M 106 U')) (U : Nat → Int32) (hU : h_M U g) : ∃ U', h_M U' g ∧ fX2_waysOfKnot N r0 r1 K (nI D) (n_set M 106 U) = some (lN (h_W q F S al (fun j => bt K j) g), n_set M 106 U') := by
  obtain ⟨j0, hj0⟩ := hne
  have hK : h_b12 q K := fun u hu => (hJ.1 u hu).1
  obtain ⟨p, p1, p2, p3⟩ := c_mb (N := N) (q := q) (K := K) (M := n_set M 106 U) hq (by rw [n_set_ne (show (101 : Nat) ≠ 106 by decide)]; exact hZ.1) hK q 0 N 0 (-1) (by omega) (by omega) (Or.inl ⟨rfl, j0, Nat.zero_le _, hK j0 hj0, hj0⟩)
  have p3' : fX2_mostBound N K (n_set M 106 U) = some (nI p, n_set M 106 U) := p3
  have hgp : g p = 3 := (hJ.1 p p2).2
  have hsum := h_W_s (q := q) (p := p) (F := F) (S := S) (g := g) (al := al) (K := fun j => bt K j) p1 p2 (fun j _ z => (hJ.1 j z).2) hJ.2
  obtain ⟨f, hf⟩ : ∃ f, N = f + 4 := ⟨N - 4, by omega⟩
  obtain ⟨U1, a1, a2⟩ := c_wk1 (N := N) (q := q) (p := p) (v := 0) (D := D) (f := f + 3) (a := 0) (F := F) (S := S) (g := g) (al := al) (M := M) (K := K) (r0 := r0) (r1 := r1) hN hq hZ p1 (by decide) hU.2 (fun U h => hr p 0 U p2 (by decide) h) U (fun j hj _ => hU.1 j hj)
  obtain ⟨U2, b1, b2⟩ := c_wk1 (N := N) (q := q) (p := p) (v := 1) (D := D) (f := f + 2) (a := 0 + if (al p 0 && h_b q F S p (f_up g p 0)) = true then h_W q F S al (fun j => bt K j && decide (j ≠ p)) (f_up g p 0) else 0) (F := F) (S := S) (g := g) (al := al) (M := M) (K := K) (r0 := r0) (r1 := r1) hN hq hZ p1 (by decide) hU.2 (fun U h => hr p 1 U p2 (by decide) h) U1 a1
  obtain ⟨U3, c1, c2⟩ := c_wk1 (N := N) (q := q) (p := p) (v := 2) (D := D) (f := f + 1) (a := 0 + (if (al p 0 && h_b q F S p (f_up g p 0)) = true then h_W q F S al (fun j => bt K j && decide (j ≠ p)) (f_up g p 0) else 0) + if (al p 1 && h_b q F S p (f_up g p 1)) = true then h_W q F S al (fun j => bt K j && decide (j ≠ p)) (f_up g p 1) else 0) (F := F) (S := S) (g := g) (al := al) (M := M) (K := K) (r0 := r0) (r1 := r1) hN hq hZ p1 (by decide) hU.2 (fun U h => hr p 2 U p2 (by decide) h) U2 b1
  rw [Nat.zero_add] at a2 b2 c2
  have hW := h_W_le (q := q) (F := F) (S := S) (g := g) (al := al) (K := fun j => bt K j) hq
  refine ⟨upd U3 p (-1), ⟨fun j hj => ?_, hU.2⟩, ?_⟩
  · by_cases e : j = p
    · subst e
      rw [upd_eq, hgp]
      rfl
    · rw [upd_ne e]
      exact c1 j hj e
  · have e0 : fX2_waysOfKnot N r0 r1 K (nI D) (n_set M 106 U) = fX2_waysOfKnot_20 N r0 r1 (f + 3 + 1) K (nI D) (nI p) (lN 0) (nI 0) (n_set M 106 U) := by
      unfold fX2_waysOfKnot
      rw [if_pos (show nI D < (12 : Int32) from nI_lt (b := 12) hD (by decide)), p3', Option.bind_some]
      show fX2_waysOfKnot_20 N r0 r1 N K (nI D) (nI p) (lN 0) (nI 0) (n_set M 106 U) = _
      rw [show fX2_waysOfKnot_20 N r0 r1 N = fX2_waysOfKnot_20 N r0 r1 (f + 3 + 1) by rw [show f + 3 + 1 = N by omega]]
    refine e0.trans (a2.trans (b2.trans (c2.trans ?_)))
    rw [← hsum, wk20_eq, if_pos (show (3 : Int32) ≤ nI (2 + 1) by decide), n_ib_nI (show p < 12 by omega) (by decide), n_chk_t, if_neg h_mod0, h_mod (by omega), nI_clamp (show p < 2 ^ 31 by omega), n_up_set]
theorem c_wo {N q D : Nat} {F S g : Nat → Nat} {al : Nat → Nat → Bool} {M : nM} {T : Int32} {r0 r1 : Int32 → Int32 → nM → Option (Int64 × nM)} (hN : 1000 ≤ N) (hq : q ≤ 12) (hZ : h_Z q F S al M) (hJ : h_J q F S g (fun j => bt T j)) (hr : ∀ (K : Int32) (U : Nat → Int32), o_le K T → (∃ j, bt K j = true) → h_J q F S g (fun j => bt K j) → h_M U g → ∃ U', h_M U' g ∧ r1 K (nI D) (n_set M 106 U) = some (lN (h_W q F S al (fun j => bt K j) g), n_set M 106 U')) : ∀ (d i f : Nat) (L : Int32) (U : Nat → Int32), i + d = q → d < f → o_le L T → (∀ j, j < i → bt L j = false) → (∀ c, c < q → ¬ (h_t q F S (fun j => bt T j && !bt L j) c = true ∧ h_t q F S (fun j => bt L j) c = true)) → h_M U g → ∃ U', h_M U' g ∧ fX2_waysOf_8 N r0 r1 f (nI D) (lN (h_W q F S al (fun j => bt T j && !bt L j) g)) L (nI i) (n_set M 106 U) = some (lN (h_W q F S al (fun j => bt T j) g), n_set M 106 U') := by
  intro d
  have hT : h_b12 q T := fun u hu => (hJ.1 u hu).1
  have h101 : ∀ U, (n_set M 106 U) 101 5 = nI q := fun U => by rw [n_set_ne (show (101 : Nat) ≠ 106 by decide)]; exact hZ.1
  have tmono : ∀ (A B : Nat → Bool) (c : Nat), (∀ j, A j = true → B j = true) → h_t q F S A c = true → h_t q F S B c = true := fun A B c hAB h => by
    rw [h_t_t] at h ⊢
    rcases h with z | ⟨z1, z⟩ | ⟨z1, z⟩
    · exact Or.inl (hAB _ z)
    · exact Or.inr (Or.inl ⟨z1, hAB _ z⟩)
    · exact Or.inr (Or.inr ⟨z1, hAB _ z⟩)
  induction d with
  | zero =>
    intro i f L U hi hf hL h0 hs hU
    obtain ⟨f, rfl⟩ : ∃ g, f = g + 1 := ⟨f - 1, by omega⟩
    refine ⟨U, hU, ?_⟩
    rw [wo8_eq, h101, if_pos (nI_le (by omega) (by omega))]
    have : (fun j => bt T j && !bt L j) = fun j => bt T j := funext fun j => by
      cases e : bt L j with
      | false => simp
      | true =>
        have := hT j (hL j e)
        rw [h0 j (by omega)] at e
        exact absurd e (by decide)
    rw [this]
  | succ d ih =>
    intro i f L U hi hf hL h0 hs hU
    obtain ⟨f, rfl⟩ : ∃ g, f = g + 1 := ⟨f - 1, by omega⟩
    have hWle := fun A => h_W_le (q := q) (F := F) (S := S) (g := g) (al := al) (K := A) hq
    rw [wo8_eq, h101, if_neg (nI_ge (by omega) (by omega))]
    by_cases hz : h_W q F S al (fun j => bt T j && !bt L j) g = 0
    · refine ⟨U, hU, ?_⟩
      rw [hz, if_pos ((lg_cmp_eq _ _).mpr (show lN 0 = (0 : Int64) from rfl))]
      have := h_W_m (q := q) (F := F) (S := S) (g := g) (al := al) (A := fun j => bt T j && !bt L j) (B := fun j => bt L j) (C := fun j => bt T j) (fun j => by
        cases e : bt L j with
        | false => simp
        | true => simp [hL j e]) (fun j _ z => by
        have := z.1
        rw [z.2] at this
        simp at this) hs
      rw [this, hz, Nat.zero_mul]
    · have hw1 := hWle (fun j => bt T j && !bt L j)
      rw [if_neg (show ¬ lg_cmp (lN (h_W q F S al (fun j => bt T j && !bt L j) g)) (0 : Int64) = 0 from fun z => by
        have e : lN (h_W q F S al (fun j => bt T j && !bt L j) g) = lN 0 := (lg_cmp_eq _ _).mp z
        exact hz ((lN_eq (by omega) (by decide)).mp e)), e_hasBit (by omega), Option.bind_some, nI_1]
      cases hb : bt L i with
      | false =>
        rw [if_pos (show (cb false : Int32) = 0 from rfl)]
        refine ih (i + 1) f L U (by omega) (by omega) hL (fun j hj => ?_) hs hU
        by_cases e : j = i
        · rw [e]; exact hb
        · exact h0 j (by omega)
      | true =>
        rw [if_neg (show ¬ (cb true : Int32) = 0 by decide)]
        obtain ⟨K, k1, k2, k3, k4⟩ := c_kn (N := N) (q := q) (i := i) (set := L) (M := n_set M 106 U) hN hq (h101 U) (fun u hu => hT u (hL u hu)) hb
        rw [n_set_ne (show (104 : Nat) ≠ 106 by decide)] at k3
        have hLq : ∀ j, bt L j = true → j < q := fun j hj => hT j (hL j hj)
        have sepK : ∀ c, c < q → ¬ (h_t q F S (fun j => bt K j) c = true ∧ h_t q F S (fun j => bt L j && !bt K j) c = true) := fun c hc z => by
          have mem : ∀ A : Nat → Bool, (∀ j, A j = true → j < q) → h_t q F S A c = true → ∃ j, A j = true ∧ h_iv F S c j := fun A hA h => by
            rcases h_t_t.mp h with y | ⟨y1, y⟩ | ⟨y1, y⟩
            · exact ⟨c, y, Or.inl rfl⟩
            · exact ⟨F c, y, Or.inr (Or.inl rfl)⟩
            · exact ⟨S c, y, Or.inr (Or.inr rfl)⟩
          obtain ⟨a, a1, a2⟩ := mem _ (fun j hj => hLq j (k2 j hj)) z.1
          obtain ⟨b, b1, b2⟩ := mem _ (fun j hj => hLq j (by rw [Bool.and_eq_true] at hj; exact hj.1)) z.2
          rw [Bool.and_eq_true, Bool.not_eq_true'] at b1
          have hab : a ≠ b := fun e => by rw [e, b1.2] at a1; exact absurd a1 (by decide)
          have hn := hZ.2.2.2.1 c a b hc (hLq a (k2 a a1)) (hLq b b1.1) hab a2 b2
          have := k3 a b a1 hn b1.1
          rw [b1.2] at this
          exact absurd this (by decide)
        have hJK : h_J q F S g (fun j => bt K j) := by
          refine ⟨fun j hj => hJ.1 j (hL j (k2 j hj)), fun c hc ht => ?_⟩
          have htL : h_t q F S (fun j => bt L j) c = true := tmono _ _ c (fun j hj => k2 j hj) ht
          have htT : h_t q F S (fun j => bt T j) c = true := tmono _ _ c (fun j hj => hL j hj) htL
          obtain ⟨i1, i2, i3⟩ := hJ.2 c hc htT
          have key : ∀ j, j < q → h_iv F S c j → (bt T j = true ∨ g j ≠ 3) → (bt K j = true ∨ g j ≠ 3) := fun j hj hiv z => by
            rcases z with z | z
            · left
              cases eK : bt K j with
              | true => rfl
              | false =>
                exfalso
                have tj : ∀ A : Nat → Bool, A j = true → h_t q F S A c = true := fun A hA => by
                  rw [h_t_t]
                  rcases hiv with y | y | y
                  · exact Or.inl (by rw [← y]; exact hA)
                  · exact Or.inr (Or.inl ⟨by rw [← y]; exact hj, by rw [← y]; exact hA⟩)
                  · exact Or.inr (Or.inr ⟨by rw [← y]; exact hj, by rw [← y]; exact hA⟩)
                cases eL : bt L j with
                | true => exact sepK c hc ⟨ht, tj _ (by show (bt L j && !bt K j) = true; rw [eL, eK]; rfl)⟩
                | false => exact hs c hc ⟨tj _ (by show (bt T j && !bt L j) = true; rw [z, eL]; rfl), htL⟩
            · exact Or.inr z
          exact ⟨key c hc (Or.inl rfl) i1, fun hl => key _ hl (Or.inr (Or.inl rfl)) (i2 hl), fun hl => key _ hl (Or.inr (Or.inr rfl)) (i3 hl)⟩
        obtain ⟨U1, u1, u2⟩ := hr K U (fun j hj => hL j (k2 j hj)) ⟨i, k1⟩ hJK hU
        have hbm : ∀ j, bt (L &&& (K ^^^ (-1 : Int32))) j = (bt L j && !bt K j) := h_minus K L
        have hDn : (fun j => bt T j && !bt (L &&& (K ^^^ (-1 : Int32))) j) = fun j => (bt T j && !bt L j) || bt K j := funext fun j => by
          rw [hbm]
          cases eK : bt K j with
          | true => rw [k2 j eK, hL j (k2 j eK)]; rfl
          | false => simp
        have hprod := h_W_m (q := q) (F := F) (S := S) (g := g) (al := al) (A := fun j => bt T j && !bt L j) (B := fun j => bt K j) (C := fun j => bt T j && !bt (L &&& (K ^^^ (-1 : Int32))) j) (fun j => congrFun hDn j) (fun j _ z => by
          have h1 := z.1
          rw [k2 j z.2] at h1
          simp at h1) (fun c hc z => hs c hc ⟨z.1, tmono _ _ c (fun j hj => k2 j hj) z.2⟩)
        have hw2 := hWle (fun j => bt T j && !bt (L &&& (K ^^^ (-1 : Int32))) j)
        obtain ⟨U', v1, v2⟩ := ih (i + 1) f (L &&& (K ^^^ (-1 : Int32))) U1 (by omega) (by omega) (fun j hj => by
          rw [hbm, Bool.and_eq_true] at hj
          exact hL j hj.1) (fun j hj => by
          rw [hbm]
          by_cases e : j = i
          · rw [e, k1]; simp
          · rw [h0 j (by omega)]; rfl) (fun c hc z => by
          have z1 := z.1
          rw [hDn] at z1
          have z2 : h_t q F S (fun j => bt L j && !bt K j) c = true := tmono _ _ c (fun j hj => by rw [← hbm]; exact hj) z.2
          rcases h_t_t.mp z1 with y | ⟨y0, y⟩ | ⟨y0, y⟩ <;> rw [Bool.or_eq_true] at y <;> rcases y with y | y
          · exact hs c hc ⟨h_t_t.mpr (Or.inl y), tmono _ _ c (fun j hj => by rw [Bool.and_eq_true] at hj; exact hj.1) z2⟩
          · exact sepK c hc ⟨h_t_t.mpr (Or.inl y), z2⟩
          · exact hs c hc ⟨h_t_t.mpr (Or.inr (Or.inl ⟨y0, y⟩)), tmono _ _ c (fun j hj => by rw [Bool.and_eq_true] at hj; exact hj.1) z2⟩
          · exact sepK c hc ⟨h_t_t.mpr (Or.inr (Or.inl ⟨y0, y⟩)), z2⟩
          · exact hs c hc ⟨h_t_t.mpr (Or.inr (Or.inr ⟨y0, y⟩)), tmono _ _ c (fun j hj => by rw [Bool.and_eq_true] at hj; exact hj.1) z2⟩
          · exact sepK c hc ⟨h_t_t.mpr (Or.inr (Or.inr ⟨y0, y⟩)), z2⟩) u1
        refine ⟨U', v1, ?_⟩
        show ((fX2_knotOf N (nI i) L (n_set M 106 U)).bind _) = _
        rw [k4, Option.bind_some]
        show ((r1 K (nI D) (n_set M 106 U)).bind _) = _
        rw [u2, Option.bind_some, if_neg h_mod0]
        show fX2_waysOf_8 N r0 r1 f (nI D) (lN (h_W q F S al (fun j => bt T j && !bt L j) g) * lN (h_W q F S al (fun j => bt K j) g) - lN (h_W q F S al (fun j => bt T j && !bt L j) g) * lN (h_W q F S al (fun j => bt K j) g) / (1000000007 : Int64) * (1000000007 : Int64)) (L &&& (K ^^^ (-1 : Int32))) (nI (i + 1)) (n_set M 106 U1) = _
        rw [lN_mul, ← hprod, h_mod (by omega)]
        exact v2
theorem h_cn_clr {K : Int32} {p : Nat} (hp : p < 12) (hb : bt K p = true) : h_cn (K &&& (((1 : Int32) <<< (nI p &&& 31)) ^^^ (-1 : Int32))) < h_cn K := by
  have hc := h_clr (K := K) hp
  refine sN_lt (a := p) 12 hp (fun i _ => ?_) ?_
  · rw [show bt (K &&& (((1 : Int32) <<< (nI p &&& 31)) ^^^ (-1 : Int32))) i = (bt K i && decide (i ≠ p)) from congrFun hc i]
    cases bt K i with
    | false => exact Nat.zero_le _
    | true =>
      rw [if_pos (show true = true from rfl)]
      split <;> omega
  · rw [show bt (K &&& (((1 : Int32) <<< (nI p &&& 31)) ^^^ (-1 : Int32))) p = (bt K p && decide (p ≠ p)) from congrFun hc p, hb]
    simp
/-- both, by the depth -/
theorem c_wg {N q : Nat} {F S : Nat → Nat} {al : Nat → Nat → Bool} {M : nM} (hN : 1000 ≤ N) (hq : q ≤ 12) (hZ : h_Z q F S al M) : ∀ n : Nat, (∀ (T : Int32) (D : Nat) (g : Nat → Nat) (U : Nat → Int32), h_J q F S g (fun j => bt T j) → 2 * h_cn T + 1 ≤ n → D + h_cn T ≤ 12 → h_M U g → ∃ U', h_M U' g ∧ fX2_waysOf_g N n 0 T (nI D) (n_set M 106 U) = some (lN (h_W q F S al (fun j => bt T j) g), n_set M 106 U')) ∧ (∀ (K : Int32) (D : Nat) (g : Nat → Nat) (U : Nat → Int32), (∃ j, bt K j = true) → h_J q F S g (fun j => bt K j) → 2 * h_cn K ≤ n → D + h_cn K ≤ 12 → h_M U g → ∃ U', h_M U' g ∧ fX2_waysOf_g N n 1 K (nI D) (n_set M 106 U) = some (lN (h_W q F S al (fun j => bt K j) g), n_set M 106 U')) := by
  have pos : ∀ K : Int32, h_b12 q K → (∃ j, bt K j = true) → 0 < h_cn K := fun K hK ⟨j, hj⟩ => by
    have : h_cn 0 < h_cn K := h_cn_lt hq (fun u hu => by rw [b_0] at hu; exact absurd hu (by decide)) hK (fun z => by
      have := z j hj
      rw [b_0] at this
      exact absurd this (by decide))
    omega
  intro n
  induction n with
  | zero =>
    refine ⟨fun T D g U _ h => absurd h (by omega), fun K D g U hne hJ h => ?_⟩
    have := pos K (fun u hu => (hJ.1 u hu).1) hne
    omega
  | succ n ih =>
    obtain ⟨ihA, ihB⟩ := ih
    refine ⟨fun T D g U hJ hn hD hU => ?_, fun K D g U hne hJ hn hD hU => ?_⟩
    · have t := c_wo (N := N) (q := q) (D := D) (F := F) (S := S) (g := g) (al := al) (M := M) (T := T) (r0 := fun z1 z2 M => fX2_waysOf_g N n 0 z1 z2 M) (r1 := fun z1 z2 M => fX2_waysOf_g N n 1 z1 z2 M) hN hq hZ hJ (fun K U hK hne hJK hU => by
        have := h_cn_le hK
        exact ihB K D g U hne hJK (by omega) (by omega) hU) q 0 N T U (by omega) (by omega) (fun u hu => hu) (fun j hj => absurd hj (by omega)) (fun c _ z => by
        have e : (fun j => bt T j && !bt T j) = fun _ => false := funext fun j => by cases bt T j <;> rfl
        have z1 := z.1
        rw [e] at z1
        rcases h_t_t.mp z1 with y | y | y
        · exact absurd y (by decide)
        · exact absurd y.2 (by decide)
        · exact absurd y.2 (by decide)) hU
      have e0 : h_W q F S al (fun j => bt T j && !bt T j) g = 1 := h_W_0 (fun j => by cases bt T j <;> rfl)
      rw [e0] at t
      exact t
    · have hKb : h_b12 q K := fun u hu => (hJ.1 u hu).1
      have hpos := pos K hKb hne
      exact c_wk (N := N) (q := q) (D := D) (F := F) (S := S) (g := g) (al := al) (M := M) (K := K) (r0 := fun z1 z2 M => fX2_waysOf_g N n 0 z1 z2 M) (r1 := fun z1 z2 M => fX2_waysOf_g N n 1 z1 z2 M) hN hq hZ (by omega) hJ hne (fun p v U hp hv hU => by
        have hpq := hKb p hp
        have hcl := h_clr (K := K) (p := p) (by omega)
        have hlt := h_cn_clr (K := K) (p := p) (by omega) hp
        have := ihA (K &&& (((1 : Int32) <<< (nI p &&& 31)) ^^^ (-1 : Int32))) (D + 1) (f_up g p v) U (by
          rw [hcl]
          refine ⟨fun j hj => ?_, fun c hc ht => ?_⟩
          · rw [Bool.and_eq_true, decide_eq_true_eq] at hj
            rw [f_up_n hj.2]
            exact hJ.1 j hj.1
          · have htK : h_t q F S (fun j => bt K j) c = true := by
              rw [h_t_t] at ht ⊢
              rcases ht with y | ⟨y0, y⟩ | ⟨y0, y⟩ <;> rw [Bool.and_eq_true] at y
              · exact Or.inl y.1
              · exact Or.inr (Or.inl ⟨y0, y.1⟩)
              · exact Or.inr (Or.inr ⟨y0, y.1⟩)
            obtain ⟨i1, i2, i3⟩ := hJ.2 c hc htK
            have key : ∀ j, (bt K j = true ∨ g j ≠ 3) → ((bt K j && decide (j ≠ p)) = true ∨ f_up g p v j ≠ 3) := fun j z => by
              by_cases e : j = p
              · subst e
                right
                rw [f_up_e]
                omega
              · rw [f_up_n e]
                rcases z with z | z
                · left; rw [z]; simp [e]
                · exact Or.inr z
            exact ⟨key c i1, fun hl => key _ (i2 hl), fun hl => key _ (i3 hl)⟩) (by omega) (by omega) hU
        rw [hcl] at this
        exact this) U hU
