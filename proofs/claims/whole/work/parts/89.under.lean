/-! ===== under ===== -/
/-! ===== sums, and the sign of a way to stand ===== -/
def sN (h : Nat → Nat) : Nat → Nat
  | 0 => 0
  | n + 1 => sN h n + h n
theorem sN_c {g h : Nat → Nat} : ∀ n : Nat, (∀ i, i < n → g i = h i) → sN g n = sN h n
  | 0, _ => rfl
  | n + 1, e => by
    show sN g n + g n = sN h n + h n
    rw [sN_c n (fun i hi => e i (by omega)), e n (by omega)]
theorem sN_u {g h : Nat → Nat} {a : Nat} : ∀ n : Nat, a < n → (∀ i, i < n → i ≠ a → g i = h i) → sN g n + h a = sN h n + g a
  | 0, ha, _ => absurd ha (by omega)
  | n + 1, ha, e => by
    show sN g n + g n + h a = sN h n + h n + g a
    by_cases z : a = n
    · subst z
      rw [sN_c a (fun i hi => e i (by omega) (by omega))]
      omega
    · have := sN_u (g := g) (h := h) n (by omega) (fun i hi => e i (by omega))
      have := e n (by omega) (fun x => z x.symm)
      omega
theorem sN_add {g h : Nat → Nat} : ∀ n : Nat, sN (fun i => g i + h i) n = sN g n + sN h n
  | 0 => rfl
  | n + 1 => by
    show sN (fun i => g i + h i) n + (g n + h n) = sN g n + g n + (sN h n + h n)
    rw [sN_add n]
    omega
theorem sN_sym {h : Nat → Nat → Nat} : ∀ n : Nat, (∀ i j, i < n → j < n → h i j = h j i) → (∀ i, i < n → h i i = 0) → ∃ k, sN (fun i => sN (h i) n) n = 2 * k
  | 0, _, _ => ⟨0, rfl⟩
  | n + 1, e, z => by
    obtain ⟨k, hk⟩ := sN_sym (h := h) n (fun i j hi hj => e i j (by omega) (by omega)) (fun i hi => z i (by omega))
    refine ⟨k + sN (h n) n, ?_⟩
    show sN (fun i => sN (h i) n + h i n) n + (sN (h n) n + h n n) = _
    rw [sN_add, hk, sN_c (g := fun i => h i n) (h := h n) n (fun i hi => e i n (by omega) (by omega)), z n (by omega)]
    omega
theorem u_sw_a {a b : Nat} : u_sw a b a = b := if_pos rfl
theorem u_sw_2 {a b : Nat} : u_sw a b b = a := by
  unfold u_sw
  by_cases h : b = a
  · rw [if_pos h]; exact h
  · rw [if_neg h, if_pos rfl]
theorem u_sw_n {a b u : Nat} (h1 : u ≠ a) (h2 : u ≠ b) : u_sw a b u = u := by
  unfold u_sw
  rw [if_neg h1, if_neg h2]
theorem u_sw_s {a b u : Nat} : u_sw a b (u_sw a b u) = u := by
  by_cases h : u = a
  · subst h; rw [u_sw_a, u_sw_2]
  · by_cases h2 : u = b
    · subst h2; rw [u_sw_2, u_sw_a]
    · rw [u_sw_n h h2, u_sw_n h h2]
theorem u_sw_i {a b u v : Nat} (h : u_sw a b u = u_sw a b v) : u = v := by
  rw [← u_sw_s (a := a) (b := b) (u := u), h, u_sw_s]
theorem sN_sw {h : Nat → Nat} {a b n : Nat} (ha : a < n) (hb : b < n) : sN (fun i => h (u_sw a b i)) n = sN h n := by
  by_cases e : a = b
  · subst e
    refine sN_c n fun i _ => ?_
    show h (u_sw a a i) = h i
    by_cases z : i = a
    · subst z; rw [u_sw_a]
    · rw [u_sw_n z z]
  · have h1 := sN_u (g := fun i => h (u_sw a b i)) (h := fun i => if i = b then h a else h i) (a := a) n ha (fun i _ hi => by
      show h (u_sw a b i) = if i = b then h a else h i
      by_cases z : i = b
      · subst z; rw [u_sw_2, if_pos rfl]
      · rw [u_sw_n hi z, if_neg z])
    have h2 := sN_u (g := fun i => if i = b then h a else h i) (h := h) (a := b) n hb (fun i _ hi => by
      show (if i = b then h a else h i) = h i
      rw [if_neg hi])
    rw [if_neg e, u_sw_a] at h1
    rw [if_pos rfl] at h2
    omega
def u_iv (f : Nat → Nat) (i j : Nat) : Nat := if i = j then 0 else if decide (i < j) = decide (f i < f j) then 0 else 1
def u_C (f : Nat → Nat) : Nat := sN (fun i => sN (u_iv f i) 10) 10
def u_inj (f : Nat → Nat) : Prop := ∀ i j, i < 10 → j < 10 → f i = f j → i = j
theorem u_iv_0 (f : Nat → Nat) (i : Nat) : u_iv f i i = 0 := if_pos rfl
theorem u_iv_s {f : Nat → Nat} (hf : u_inj f) {i j : Nat} (hi : i < 10) (hj : j < 10) : u_iv f i j = u_iv f j i := by
  unfold u_iv
  by_cases e : i = j
  · rw [if_pos e, if_pos e.symm]
  · rw [if_neg e, if_neg (show ¬ j = i from fun z => e z.symm)]
    have hne : f i ≠ f j := fun z => e (hf i j hi hj z)
    have a1 : decide (j < i) = !decide (i < j) := by
      by_cases h : i < j
      · simp [h]; omega
      · simp [h]; omega
    have a2 : decide (f j < f i) = !decide (f i < f j) := by
      by_cases h : f i < f j
      · simp [h]; omega
      · simp [h]; omega
    rw [a1, a2]
    cases decide (i < j) <;> cases decide (f i < f j) <;> rfl
theorem u_iv_c {f : Nat → Nat} {a b : Nat} (hf : u_inj f) (ha : a < 10) (hb : b < 10) {i j : Nat} (hi : i < 10) (hj : j < 10) : u_iv (fun u => f (u_sw a b u)) i j + 2 * (u_iv (u_sw a b) i j * u_iv f (u_sw a b i) (u_sw a b j)) = u_iv (u_sw a b) i j + u_iv f (u_sw a b i) (u_sw a b j) := by
  by_cases e : i = j
  · subst e; rw [u_iv_0, u_iv_0, u_iv_0]
  · have e2 : u_sw a b i ≠ u_sw a b j := fun z => e (u_sw_i z)
    have e3 : f (u_sw a b i) ≠ f (u_sw a b j) := fun z => e2 (hf _ _ (u_sw_b ha hb hi) (u_sw_b ha hb hj) z)
    unfold u_iv
    rw [if_neg e, if_neg e, if_neg e2]
    cases decide (i < j) <;> cases decide (u_sw a b i < u_sw a b j) <;> cases decide (f (u_sw a b i) < f (u_sw a b j)) <;> rfl
theorem u_C_t : ∀ a, a < 10 → ∀ b, b < 10 → a ≠ b → u_C (u_sw a b) % 4 = 2 := by decide +kernel
theorem u_C_c {f g : Nat → Nat} (h : ∀ i, i < 10 → f i = g i) : u_C f = u_C g := by
  refine sN_c 10 fun i hi => sN_c 10 fun j hj => ?_
  unfold u_iv
  rw [h i hi, h j hj]
theorem u_C_s {f : Nat → Nat} {a b : Nat} (hf : u_inj f) (ha : a < 10) (hb : b < 10) (hab : a ≠ b) : u_C (fun u => f (u_sw a b u)) % 4 = (u_C f + 2) % 4 := by
  have hs : u_inj (u_sw a b) := fun i j _ _ e => u_sw_i e
  obtain ⟨k, hk⟩ := sN_sym (h := fun i j => u_iv (u_sw a b) i j * u_iv f (u_sw a b i) (u_sw a b j)) 10 (fun i j hi hj => by
    show u_iv (u_sw a b) i j * u_iv f (u_sw a b i) (u_sw a b j) = u_iv (u_sw a b) j i * u_iv f (u_sw a b j) (u_sw a b i)
    rw [u_iv_s hs hi hj, u_iv_s hf (u_sw_b ha hb hi) (u_sw_b ha hb hj)]) (fun i _ => by
    show u_iv (u_sw a b) i i * u_iv f (u_sw a b i) (u_sw a b i) = 0
    rw [u_iv_0, Nat.zero_mul])
  have h1 : u_C (fun u => f (u_sw a b u)) + 2 * (2 * k) = u_C (u_sw a b) + u_C f := by
    have c1 : u_C f = sN (fun i => sN (fun j => u_iv f (u_sw a b i) (u_sw a b j)) 10) 10 := by
      unfold u_C
      rw [← sN_sw (h := fun i => sN (u_iv f i) 10) ha hb]
      refine sN_c 10 fun i _ => ?_
      exact (sN_sw (h := u_iv f (u_sw a b i)) ha hb).symm
    have c2 : ∀ (n m : Nat) (g h : Nat → Nat → Nat), sN (fun i => sN (fun j => g i j + h i j) m) n = sN (fun i => sN (g i) m) n + sN (fun i => sN (h i) m) n := fun n m g h => by
      rw [← sN_add]
      exact sN_c n fun i _ => sN_add m
    have hk2 : sN (fun i => sN (fun j => u_iv (u_sw a b) i j * u_iv f (u_sw a b i) (u_sw a b j)) 10) 10 = 2 * k := hk
    have c3 : u_C (u_sw a b) + u_C f = sN (fun i => sN (fun j => u_iv (fun u => f (u_sw a b u)) i j + (u_iv (u_sw a b) i j * u_iv f (u_sw a b i) (u_sw a b j) + u_iv (u_sw a b) i j * u_iv f (u_sw a b i) (u_sw a b j))) 10) 10 := by
      rw [c1]
      unfold u_C
      rw [← c2]
      refine sN_c 10 fun i hi => sN_c 10 fun j hj => ?_
      have := u_iv_c hf ha hb hi hj
      show u_iv (u_sw a b) i j + u_iv f (u_sw a b i) (u_sw a b j) = _
      rw [← this]
      omega
    rw [c3, c2, c2, hk2]
    show u_C (fun u => f (u_sw a b u)) + _ = u_C (fun u => f (u_sw a b u)) + _
    omega
  have h2 := u_C_t a ha b hb hab
  omega
/-! ===== under: the least swaps ===== -/
theorem ls29_eq (N f : Nat) (G : nG) (k6 : Int32 → Int32 → Int32 → nM → Option (Int32 × nM)) (x1 x2 x3 x4 x5 : Int32) (M : nM) : fX9_leastSwaps_29 N G k6 (f + 1) x1 x2 x3 x4 x5 M = if (10 : Int32) ≤ x5 then k6 x1 x2 (x3 + (1 : Int32)) M else (fX4_hasBit x1 x4 M).bind fun p2 => if ¬ p2.1 = 0 then k6 x1 x2 (x3 + (1 : Int32)) p2.2 else (fX4_withBit x1 x4 (1 : Int32) p2.2).bind fun p4 => (fX9_cupBehind N G x4 p4.2).bind fun p5 => fX9_leastSwaps_29 N G k6 f p4.1 x2 x3 p5.1 (x5 + (1 : Int32)) p5.2 := rfl
theorem ls6_eq (N f : Nat) (G : nG) (x1 x2 x3 : Int32) (M : nM) : fX9_leastSwaps_6 N G (f + 1) x1 x2 x3 M = if (10 : Int32) ≤ x3 then some (((10 : Int32) - x2), M) else (fX4_hasBit x1 x3 M).bind fun p1 => if ¬ p1.1 = 0 then fX9_leastSwaps_29 N G (fun x1 x2 x3 M => fX9_leastSwaps_6 N G f x1 x2 x3 M) N x1 x2 x3 x3 (0 : Int32) p1.2 else fX9_leastSwaps_29 N G (fun x1 x2 x3 M => fX9_leastSwaps_6 N G f x1 x2 x3 M) N x1 (x2 + (1 : Int32)) x3 x3 (0 : Int32) p1.2 := rfl
theorem lm15_eq (N f : Nat) (k6 : Int32 → Int32 → Int32 → nM → Option (Int32 × nM)) (x1 x2 x3 x4 : Int32) (M : nM) : fX12_leastSwaps_15 N k6 (f + 1) x1 x2 x3 x4 M = (fX12_has x1 x4 M).bind fun p1 => if ¬ p1.1 = 0 then k6 x1 x2 (x3 + (1 : Int32)) p1.2 else (fX12_comesUnder N x4 p1.2).bind fun p4 => if p4.1 = x3 then (fX12_comesUnder N x4 p4.2).bind fun p1 => fX12_leastSwaps_15 N k6 f (x1 ||| ((1 : Int32) <<< (x4 &&& 31))) x2 x3 p1.1 p1.2 else (fX12_comesUnder N x4 p4.2).bind fun p1 => fX12_leastSwaps_15 N k6 f (x1 ||| ((1 : Int32) <<< (x4 &&& 31))) (x2 + (1 : Int32)) x3 p1.1 p1.2 := rfl
theorem lm6_eq (N f : Nat) (x1 x2 x3 : Int32) (M : nM) : fX12_leastSwaps_6 N (f + 1) x1 x2 x3 M = if (10 : Int32) ≤ x3 then some (x2, M) else fX12_leastSwaps_15 N (fun x1 x2 x3 M => fX12_leastSwaps_6 N f x1 x2 x3 M) N x1 x2 x3 x3 M := rfl
def u_cn (s : Int32) : Nat := sN (fun u => if bt s u = true then 1 else 0) 10
def u_ro (P : Nat → Nat) (s : Int32) (i x u : Nat) : Nat := if bt s u = true then P u else if u = x then i else u
def u_ou (P : Nat → Nat) (s : Int32) (u : Nat) : Nat := if bt s u = true then P u else u
theorem u_cn_s {s : Int32} {x : Nat} (hx : x < 10) (h : bt s x = false) : u_cn (sb s x true) = u_cn s + 1 := by
  have := sN_u (g := fun u => if bt (sb s x true) u = true then 1 else 0) (h := fun u => if bt s u = true then 1 else 0) (a := x) 10 hx (fun i _ hi => by
    show (if bt (sb s x true) i = true then 1 else 0) = if bt s i = true then 1 else 0
    rw [b_sb (by omega), if_neg hi])
  rw [b_sb (by omega), if_pos rfl, h] at this
  exact this
theorem u_cn_10 (s : Int32) : u_cn s ≤ 10 := by
  have : ∀ n : Nat, sN (fun u => if bt s u = true then 1 else 0) n ≤ n := by
    intro n
    induction n with
    | zero => exact Nat.le_refl 0
    | succ n ih =>
      show sN (fun u => if bt s u = true then 1 else 0) n + (if bt s n = true then 1 else 0) ≤ n + 1
      cases bt s n
      · show _ + 0 ≤ _; omega
      · show _ + 1 ≤ _; omega
  exact this 10
theorem u_sb (s : Int32) (x : Nat) : s ||| ((1 : Int32) <<< (nI x &&& 31)) = sb s x true := by
  unfold sb
  rw [if_pos rfl]
theorem ca_29t {N f : Nat} {G : nG} {k6 : Int32 → Int32 → Int32 → nM → Option (Int32 × nM)} {s x2 x5 : Int32} {i x : Nat} {M : nM} (hx : x < 10) (h : bt s x = true) : fX9_leastSwaps_29 N G k6 (f + 1) s x2 (nI i) (nI x) x5 M = k6 s x2 (nI (i + 1)) M := by
  rw [ls29_eq, nI_1]
  by_cases h5 : (10 : Int32) ≤ x5
  · rw [if_pos h5]
  · rw [if_neg h5, e_hasBit (by omega), Option.bind_some, h]
    exact if_pos (show ¬ (cb true : Int32) = 0 by decide)
theorem ca_29f {N f j : Nat} {G : nG} {k6 : Int32 → Int32 → Int32 → nM → Option (Int32 × nM)} {s x2 : Int32} {i x y : Nat} {M : nM} (hx : x < 10) (h : bt s x = false) (hj : j < 10) (hP : fX9_cupBehind N G (nI x) M = some (nI y, M)) : fX9_leastSwaps_29 N G k6 (f + 1) s x2 (nI i) (nI x) (nI j) M = fX9_leastSwaps_29 N G k6 f (sb s x true) x2 (nI i) (nI y) (nI (j + 1)) M := by
  rw [ls29_eq, if_neg (show ¬ (10 : Int32) ≤ nI j from nI_ge (b := 10) hj (by decide)), e_hasBit (by omega), Option.bind_some, h, if_neg (show ¬ ¬ (cb false : Int32) = 0 by decide)]
  show ((fX4_withBit s (nI x) (1 : Int32) M).bind _) = _
  rw [e_withBit1, Option.bind_some]
  show ((fX9_cupBehind N G (nI x) M).bind _) = _
  rw [hP, Option.bind_some, nI_1]
theorem ca_15t {N f : Nat} {k6 : Int32 → Int32 → Int32 → nM → Option (Int32 × nM)} {s x2 : Int32} {i x : Nat} {M : nM} (hx : x < 10) (h : bt s x = true) : fX12_leastSwaps_15 N k6 (f + 1) s x2 (nI i) (nI x) M = k6 s x2 (nI (i + 1)) M := by
  rw [lm15_eq, nI_1, e_has (by omega), Option.bind_some, h]
  exact if_pos (show ¬ (cb true : Int32) = 0 by decide)
theorem ca_15f {N f w : Nat} {k6 : Int32 → Int32 → Int32 → nM → Option (Int32 × nM)} {s : Int32} {i x y : Nat} {M : nM} (hx : x < 10) (hy : y < 10) (hi : i < 10) (h : bt s x = false) (hP : fX12_comesUnder N (nI x) M = some (nI y, M)) : fX12_leastSwaps_15 N k6 (f + 1) s (nI w) (nI i) (nI x) M = fX12_leastSwaps_15 N k6 f (sb s x true) (nI (if y = i then w else w + 1)) (nI i) (nI y) M := by
  rw [lm15_eq, nI_1, e_has (by omega), Option.bind_some, h, if_neg (show ¬ ¬ (cb false : Int32) = 0 by decide)]
  show ((fX12_comesUnder N (nI x) M).bind _) = _
  rw [hP, Option.bind_some]
  show (if nI y = nI i then (fX12_comesUnder N (nI x) M).bind _ else (fX12_comesUnder N (nI x) M).bind _) = _
  rw [hP, Option.bind_some, Option.bind_some, u_sb, nI_1]
  by_cases e : y = i
  · rw [if_pos (congrArg nI e), if_pos e]
  · rw [if_neg (fun z => e ((nI_eq (by omega) (by omega)).mp z)), if_neg e]
theorem u_walk {N i : Nat} {G : nG} {C D : nM} {P : Nat → Nat} {k6 k7 : Int32 → Int32 → Int32 → nM → Option (Int32 × nM)} {x2 : Int32} (hb : ∀ u, u < 10 → P u < 10) (hP : u_inj P) (hC : ∀ u, u < 10 → fX9_cupBehind N G (nI u) C = some (nI (P u), C)) (hD : ∀ u, u < 10 → fX12_comesUnder N (nI u) D = some (nI (P u), D)) (hi : i < 10) : ∀ (d : Nat) (s : Int32) (x w j f g : Nat), u_cn s + d = 10 → x < 10 → bt s x = false → (∀ u, u < 10 → bt s u = true → bt s (P u) = true ∨ P u = x) → (∀ u, u < 10 → bt s (P u) = true → bt s u = true ∨ P u = i) → (x = i ∨ (bt s i = true ∧ ∃ v, v < 10 ∧ bt s v = true ∧ P v = x)) → u_inj (u_ro P s i x) → u_C (u_ro P s i x) % 4 = 2 * w % 4 → j ≤ u_cn s → d < f → d < g → ∃ (s' : Int32) (w' : Nat), (∀ u, u < 10 → (bt s' u = true ↔ bt s' (P u) = true)) ∧ u_inj (u_ou P s') ∧ u_C (u_ou P s') % 4 = 2 * w' % 4 ∧ u_cn s' + w = u_cn s + w' + 1 ∧ bt s' i = true ∧ (∀ u, u < 10 → bt s u = true → bt s' u = true) ∧ fX9_leastSwaps_29 N G k6 f s x2 (nI i) (nI x) (nI j) C = k6 s' x2 (nI (i + 1)) C ∧ fX12_leastSwaps_15 N k7 g s (nI w) (nI i) (nI x) D = k7 s' (nI w') (nI (i + 1)) D := by
  intro d
  induction d with
  | zero =>
    intro s x w j f g hd hx hs
    have := u_cn_s hx hs
    have := u_cn_10 (sb s x true)
    omega
  | succ d ih =>
    intro s x w j f g hd hx hs hA hB hQ hJ hS hj hf hg
    obtain ⟨f, rfl⟩ : ∃ z, f = z + 1 := ⟨f - 1, by omega⟩
    obtain ⟨g, rfl⟩ : ∃ z, g = z + 1 := ⟨g - 1, by omega⟩
    have hy := hb x hx
    have hcn := u_cn_s hx hs
    have h10 := u_cn_10 (sb s x true)
    have e1 := ca_29f (N := N) (f := f) (k6 := k6) (x2 := x2) (i := i) (j := j) hx hs (by omega) (hC x hx)
    have e2 := ca_15f (N := N) (f := g) (w := w) (k6 := k7) (i := i) hx hy hi hs (hD x hx)
    have hbt : ∀ u, bt (sb s x true) u = if u = x then true else bt s u := fun u => b_sb (by omega) s true u
    have hbx : bt (sb s x true) x = true := by rw [hbt, if_pos rfl]
    have hbo : ∀ u, bt s u = true → bt (sb s x true) u = true := fun u hu => by
      rw [hbt]
      split
      · rfl
      · exact hu
    have hbc : ∀ u, bt (sb s x true) u = true → u = x ∨ bt s u = true := fun u hu => by
      rw [hbt] at hu
      by_cases e : u = x
      · exact Or.inl e
      · rw [if_neg e] at hu; exact Or.inr hu
    have hsi : bt (sb s x true) i = true := by
      rcases hQ with e | e
      · rw [← e]; exact hbx
      · exact hbo i e.1
    rw [e1, e2]
    generalize hs1 : sb s x true = s1 at hcn h10 hbt hbx hbo hbc hsi
    cases hc : bt s1 (P x) with
    | true =>
      obtain ⟨f, rfl⟩ : ∃ z, f = z + 1 := ⟨f - 1, by omega⟩
      obtain ⟨g, rfl⟩ : ∃ z, g = z + 1 := ⟨g - 1, by omega⟩
      have hyi : P x = i := by
        rcases hbc (P x) hc with e | e
        · rcases hQ with z | ⟨-, v, v1, v2, v3⟩
          · rw [e, z]
          · have : v = x := hP v x v1 hx (by rw [v3, e])
            rw [this, hs] at v2
            exact absurd v2 (by decide)
        · rcases hB x hx e with z | z
          · rw [hs] at z; exact absurd z (by decide)
          · exact z
      have hro : ∀ u, u < 10 → u_ro P s i x u = u_ou P s1 u := fun u _ => by
        unfold u_ro u_ou
        rw [hbt u]
        by_cases e : u = x
        · subst e
          rw [hs, if_neg (by decide), if_pos rfl, if_pos rfl, if_pos rfl]
          exact hyi.symm
        · rw [if_neg e, if_neg e]
      refine ⟨s1, w, fun u hu => ⟨fun h => ?_, fun h => ?_⟩, fun a b ha hb' e => hJ a b ha hb' (by rw [hro a ha, hro b hb', e]), ?_, by omega, hsi, fun u _ => hbo u, ca_29t hy hc, ?_⟩
      · rcases hbc u h with e | e
        · rw [e]; exact hc
        · rcases hA u hu e with z | z
          · exact hbo _ z
          · rw [z]; exact hbx
      · rcases hbc _ h with e | e
        · rcases hQ with z | ⟨-, v, v1, v2, v3⟩
          · have : u = x := hP u x hu hx (by rw [e, hyi, z])
            rw [this]; exact hbx
          · have : u = v := hP u v hu v1 (by rw [e, v3])
            rw [this]; exact hbo v v2
        · rcases hB u hu e with z | z
          · exact hbo u z
          · have : u = x := hP u x hu hx (by rw [z, hyi])
            rw [this]; exact hbx
      · rw [← u_C_c hro]; exact hS
      · rw [if_pos hyi]
        exact ca_15t hy hc
    | false =>
      have hyi : ¬ P x = i := fun e => by rw [e, hsi] at hc; exact absurd hc (by decide)
      have hyx : x ≠ P x := fun e => by rw [← e, hbx] at hc; exact absurd hc (by decide)
      have hsy : bt s (P x) = false := by
        cases z : bt s (P x) with
        | false => rfl
        | true => rw [hbo _ z] at hc; exact absurd hc (by decide)
      have hro : ∀ u, u < 10 → u_ro P s1 i (P x) u = (fun u => u_ro P s i x (u_sw x (P x) u)) u := fun u _ => by
        show u_ro P s1 i (P x) u = u_ro P s i x (u_sw x (P x) u)
        by_cases e : u = x
        · subst e
          rw [u_sw_a]
          unfold u_ro
          rw [hbx, if_pos rfl, hsy, if_neg (by decide), if_neg (fun z => hyx z.symm)]
        · by_cases e2 : u = P x
          · subst e2
            rw [u_sw_2]
            unfold u_ro
            rw [hc, hs, if_neg (by decide), if_pos rfl, if_neg (by decide), if_pos rfl]
          · rw [u_sw_n e e2]
            unfold u_ro
            rw [hbt u, if_neg e, if_neg e2, if_neg e]
      have hj2 : u_inj (fun u => u_ro P s i x (u_sw x (P x) u)) := fun a b ha hb' e => u_sw_i (hJ _ _ (u_sw_b hx hy ha) (u_sw_b hx hy hb') e)
      rw [if_neg hyi]
      obtain ⟨s', w', g1, g2, g3, g4, g5, g6, g7, g8⟩ := ih s1 (P x) (w + 1) (j + 1) f g (by omega) hy hc (fun u hu h => by
          rcases hbc u h with e | e
          · exact Or.inr (by rw [e])
          · rcases hA u hu e with z | z
            · exact Or.inl (hbo _ z)
            · exact Or.inl (by rw [z]; exact hbx)) (fun u hu h => by
          rcases hbc _ h with e | e
          · rcases hQ with z | ⟨-, v, v1, v2, v3⟩
            · exact Or.inr (by rw [e, z])
            · have : u = v := hP u v hu v1 (by rw [e, v3])
              exact Or.inl (by rw [this]; exact hbo v v2)
          · rcases hB u hu e with z | z
            · exact Or.inl (hbo u z)
            · exact Or.inr z) (Or.inr ⟨hsi, x, hx, hbx, rfl⟩) (fun a b ha hb' e => hj2 a b ha hb' (by rw [hro a ha, hro b hb'] at e; exact e)) (by
          rw [u_C_c hro, u_C_s hJ hx hy hyx]
          omega) (by omega) (by omega) (by omega)
      exact ⟨s', w', g1, g2, g3, by omega, g5, fun u hu h => g6 u hu (hbo u h), g7, g8⟩
theorem u_cn_all {s : Int32} (h : ∀ u, u < 10 → bt s u = true) : u_cn s = 10 := by
  unfold u_cn
  rw [sN_c (h := fun _ => 1) 10 (fun i hi => by rw [h i hi]; rfl)]
  rfl
theorem u_least {N : Nat} {G : nG} {C D : nM} {P : Nat → Nat} (hN : 1000 ≤ N) (hb : ∀ u, u < 10 → P u < 10) (hP : u_inj P) (hC : ∀ u, u < 10 → fX9_cupBehind N G (nI u) C = some (nI (P u), C)) (hD : ∀ u, u < 10 → fX12_comesUnder N (nI u) D = some (nI (P u), D)) : ∀ (d i : Nat) (s : Int32) (c w f g : Nat), i + d = 10 → (∀ u, u < 10 → (bt s u = true ↔ bt s (P u) = true)) → u_inj (u_ou P s) → u_C (u_ou P s) % 4 = 2 * w % 4 → (∀ u, u < i → bt s u = true) → u_cn s = c + w → d < f → d < g → ∃ w' : Nat, w' ≤ 10 ∧ u_C P % 4 = 2 * w' % 4 ∧ fX9_leastSwaps_6 N G f s (nI c) (nI i) C = some (nI w', C) ∧ fX12_leastSwaps_6 N g s (nI w) (nI i) D = some (nI w', D) := by
  intro d
  induction d with
  | zero =>
    intro i s c w f g hi hO hJ hS hA hc hf hg
    obtain ⟨f, rfl⟩ : ∃ z, f = z + 1 := ⟨f - 1, by omega⟩
    obtain ⟨g, rfl⟩ : ∃ z, g = z + 1 := ⟨g - 1, by omega⟩
    have h10 := u_cn_all (s := s) (fun u hu => hA u (by omega))
    refine ⟨w, by omega, ?_, ?_, ?_⟩
    · rw [u_C_c (g := u_ou P s) (fun u hu => by unfold u_ou; rw [hA u (by omega)]; rfl)]
      exact hS
    · rw [ls6_eq, if_pos (show (10 : Int32) ≤ nI i from nI_le (a := 10) (by omega) (by omega)), show (10 : Int32) - nI c = nI (10 - c) from pk_sub (a := 10) (by omega), show 10 - c = w by omega]
    · rw [lm6_eq, if_pos (show (10 : Int32) ≤ nI i from nI_le (a := 10) (by omega) (by omega))]
  | succ d ih =>
    intro i s c w f g hi hO hJ hS hA hc hf hg
    obtain ⟨f, rfl⟩ : ∃ z, f = z + 1 := ⟨f - 1, by omega⟩
    obtain ⟨g, rfl⟩ : ∃ z, g = z + 1 := ⟨g - 1, by omega⟩
    have hi10 : i < 10 := by omega
    have hno : ¬ (10 : Int32) ≤ nI i := nI_ge (b := 10) hi10 (by decide)
    have h10 := u_cn_10 s
    obtain ⟨K, hK⟩ : ∃ K, N = K + 1 := ⟨N - 1, by omega⟩
    rw [ls6_eq, if_neg hno, lm6_eq, if_neg hno, e_hasBit (by omega), Option.bind_some]
    cases hs : bt s i with
    | true =>
      obtain ⟨w', r1, r2, r3, r4⟩ := ih (i + 1) s c w f g (by omega) hO hJ hS (fun u hu => by
        by_cases e : u = i
        · rw [e]; exact hs
        · exact hA u (by omega)) hc (by omega) (by omega)
      refine ⟨w', r1, r2, ?_, ?_⟩
      · rw [if_pos (show ¬ (cb true : Int32) = 0 by decide)]
        have := ca_29t (N := N) (f := K) (G := G) (k6 := fun x1 x2 x3 M => fX9_leastSwaps_6 N G f x1 x2 x3 M) (x2 := nI c) (x5 := 0) (i := i) (M := C) hi10 hs
        rw [← hK] at this
        exact this.trans r3
      · have := ca_15t (N := N) (f := K) (k6 := fun x1 x2 x3 M => fX12_leastSwaps_6 N g x1 x2 x3 M) (x2 := nI w) (i := i) (M := D) hi10 hs
        rw [← hK] at this
        exact this.trans r4
    | false =>
      have hro : ∀ u, u < 10 → u_ro P s i i u = u_ou P s u := fun u _ => by
        unfold u_ro u_ou
        by_cases e : u = i
        · rw [if_pos e, e]
        · rw [if_neg e]
      obtain ⟨s', w2, g1, g2, g3, g4, g5, g6, g7, g8⟩ := u_walk (N := N) (i := i) (G := G) (C := C) (D := D) (k6 := fun x1 x2 x3 M => fX9_leastSwaps_6 N G f x1 x2 x3 M) (k7 := fun x1 x2 x3 M => fX12_leastSwaps_6 N g x1 x2 x3 M) (x2 := nI (c + 1)) hb hP hC hD hi10 (10 - u_cn s) s i w 0 N N (by omega) hi10 hs (fun u hu h => Or.inl ((hO u hu).mp h)) (fun u hu h => Or.inl ((hO u hu).mpr h)) (Or.inl rfl) (fun a b ha hb' e => hJ a b ha hb' (by rw [hro a ha, hro b hb'] at e; exact e)) (by rw [u_C_c hro]; exact hS) (by omega) (by omega) (by omega)
      obtain ⟨w', r1, r2, r3, r4⟩ := ih (i + 1) s' (c + 1) w2 f g (by omega) g1 g2 g3 (fun u hu => by
        by_cases e : u = i
        · rw [e]; exact g5
        · exact g6 u (by omega) (hA u (by omega))) (by omega) (by omega) (by omega)
      refine ⟨w', r1, r2, ?_, ?_⟩
      · rw [if_neg (show ¬ ¬ (cb false : Int32) = 0 by decide), nI_1]
        exact g7.trans r3
      · exact g8.trans r4
theorem u_f_C {ps : List (Nat × Nat)} (hps : ∀ i, i < ps.length → (ps.getD i (0, 0)).1 < 10 ∧ (ps.getD i (0, 0)).2 < 10 ∧ (ps.getD i (0, 0)).1 ≠ (ps.getD i (0, 0)).2) : ∀ d i : Nat, i + d = ps.length → u_inj (u_f ps d i) ∧ u_C (u_f ps d i) % 4 = 2 * d % 4
  | 0, i, _ => ⟨fun _ _ _ _ e => e, by
    show u_C (fun u => u) % 4 = 0
    decide +kernel⟩
  | d + 1, i, hi => by
    obtain ⟨j1, j2⟩ := u_f_C hps d (i + 1) (by omega)
    obtain ⟨b1, b2, b3⟩ := hps i (by omega)
    have e : u_f ps (d + 1) i = fun u => u_f ps d (i + 1) (u_sw (ps.getD i (0, 0)).1 (ps.getD i (0, 0)).2 u) := rfl
    rw [e]
    refine ⟨fun a b ha hb z => u_sw_i (j1 _ _ (u_sw_b b1 b2 ha) (u_sw_b b1 b2 hb) z), ?_⟩
    rw [u_C_s j1 b1 b2 b3]
    omega
theorem st_under {G : nG} {M : nM} {n q N : Nat} (hN : 1000 ≤ N) (hG : n_GOK G) (h : Rel G M n q) (x : Int32) : Stq G (fX11_under N G x) (fX12_under N x) M := by
  refine Stq_mix fun D1 hD1 => ?_
  have hR := Rel_m0 h hD1
  obtain ⟨D0, hD0⟩ : ∃ D0, D0 = n_up D1 107 0 0 := ⟨_, rfl⟩
  rw [← hD0] at hR
  have hfr : ∀ c, c < 107 ∨ 151 < c → D0 c = D1 c := fun c hc => by rw [hD0]; exact n0_ne c hc
  have fin : ∀ w : Int32, ∃ (v : Int32) (C' D' : nM), some (w, M) = some (v, C') ∧ (∀ c, 107 ≤ c → c ≤ 151 → C' c = M c) ∧ some (w, D0) = some (v, D') ∧ (∀ c, c < 107 ∨ 151 < c → D' c = D1 c) ∧ ∃ n q : Nat, Rel G (Mix C' D') n q := fun w => ⟨w, M, D0, rfl, fun _ _ _ => rfl, rfl, hfr, n, q, hR⟩
  obtain ⟨⟨hst, hmv, hbk, hlw, hsp, hcu, hli, hsw, hpk, hbx, hky, hcl, hsh, hrw, hgf, hmi⟩, hpr, hrd, hck, hwd, him⟩ := id hR
  obtain ⟨ps, i1, i2, i3, i4⟩ := hsw
  have i2' : M 29 3 = nI ps.length := i2
  have i3' : D0 107 46 = nI ps.length := i3
  have hwm : r_wm (M 29 1) (M 29 2) 2 16 := hck.2.2.2.2.2.2.1
  have hps : ∀ i, i < ps.length → (ps.getD i (0, 0)).1 < 10 ∧ (ps.getD i (0, 0)).2 < 10 ∧ (ps.getD i (0, 0)).1 ≠ (ps.getD i (0, 0)).2 := fun i hi => by
    obtain ⟨g1, g2, g3, -⟩ := i4 i _ (ps_get2 hi)
    exact ⟨g1, g2, g3⟩
  have hps2 : ∀ i, i < ps.length → (ps.getD i (0, 0)).1 < 10 ∧ (ps.getD i (0, 0)).2 < 10 := fun i hi => ⟨(hps i hi).1, (hps i hi).2.1⟩
  have hcC : ∀ i, i < ps.length → fX7_cell G 29 (nI i) (0 : Int32) M = some (nI (ps.getD i (0, 0)).1, M) ∧ fX7_cell G 29 (nI i) (1 : Int32) M = some (nI (ps.getD i (0, 0)).2, M) := fun i hi => by
    obtain ⟨g1, g2, g3, g4, g5, g6, g7⟩ := i4 i _ (ps_get2 hi)
    have g5' : M 30 (2 * i) = nI (ps.getD i (0, 0)).1 := g4
    have g6' : M 30 (2 * i + 1) = nI (ps.getD i (0, 0)).2 := g5
    have a0 := e_cell (G := G) (M := M) (x0 := 29) (c := 30) (W := 2) (H := 16) (i := i) (j := 0) (gk29 hG) (gm29_0 hG) (gk30 hG) (gl30 hG) hwm (by decide) (by decide) (by decide) (by omega) (by decide)
    have a1 := e_cell (G := G) (M := M) (x0 := 29) (c := 30) (W := 2) (H := 16) (i := i) (j := 1) (gk29 hG) (gm29_0 hG) (gk30 hG) (gl30 hG) hwm (by decide) (by decide) (by decide) (by omega) (by decide)
    rw [show i * 2 + 0 = 2 * i by omega, g5'] at a0
    rw [show i * 2 + 1 = 2 * i + 1 by omega, g6'] at a1
    exact ⟨a0, a1⟩
  have hcM : ∀ i, i < ps.length → D0 133 i = nI (ps.getD i (0, 0)).1 ∧ D0 134 i = nI (ps.getD i (0, 0)).2 := fun i hi => by
    obtain ⟨g1, g2, g3, g4, g5, g6, g7⟩ := i4 i _ (ps_get2 hi)
    exact ⟨g6, g7⟩
  have hC : ∀ u, u < 10 → fX9_cupBehind N G (nI u) M = some (nI (u_f ps ps.length 0 u), M) := fun u hu => e_cup (N := N) (G := G) i1 i2' hps2 hcC ps.length 0 N u (by omega) (by omega) hu
  have hD : ∀ u, u < 10 → fX12_comesUnder N (nI u) D0 = some (nI (u_f ps ps.length 0 u), D0) := fun u hu => e_und (N := N) i1 i3' hps2 hcM ps.length 0 N u (by omega) (by omega) hu
  have hb : ∀ u, u < 10 → u_f ps ps.length 0 u < 10 := fun u hu => u_f_b hps2 ps.length 0 u (by omega) hu
  obtain ⟨hP, hS⟩ := u_f_C hps ps.length 0 (by omega)
  have b0 : ∀ u : Nat, bt (0 : Int32) u = false := fun u => b_0 u
  obtain ⟨w, w1, w2, w3, w4⟩ := u_least (N := N) (G := G) (C := M) (D := D0) hN hb hP hC hD 10 0 0 0 0 N N (by omega) (fun u _ => by rw [b0, b0]) (fun a b _ _ e => by
    unfold u_ou at e
    rw [b0, b0] at e
    exact e) (by
    rw [u_C_c (g := fun u => u) (fun u _ => by unfold u_ou; rw [b0]; rfl)]
    decide +kernel) (fun u hu => absurd hu (by omega)) (by
    unfold u_cn
    rw [sN_c (h := fun _ => 0) 10 (fun i _ => by rw [b0]; rfl)]
    rfl) (by omega) (by omega)
  have w3' : fX9_leastSwaps N G M = some (nI w, M) := w3
  have w4' : fX12_leastSwaps N D0 = some (nI w, D0) := w4
  have t1 : ∀ K : nM, ¬ (cb true, K).1 = 0 := fun _ => (by decide : ¬ cb true = (0 : Int32))
  have t0 : ∀ K : nM, (cb false, K).1 = 0 := fun _ => rfl
  have eM : fX12_under N x D1 = (fX12_isIn x (-2 : Int32) (9 : Int32) D0).bind fun p2 => if ¬ p2.1 = 0 then (if x < 0 then (if ¬ x = (-1 : Int32) then (fX12_leastSwaps N p2.2).bind fun p3 => if (2 : Int32) = 0 then none else some (((1 : Int32) - (p3.1 - p3.1 / (2 : Int32) * (2 : Int32))), p3.2) else (fX12_leastSwaps N p2.2).bind fun p4 => some (p4.1, p4.2)) else (fX12_comesUnder N x p2.2).bind fun p5 => some (p5.1, p5.2)) else some ((-1 : Int32), p2.2) := by rw [hD0]; rfl
  have eC : fX11_under N G x M = if ¬ x = (-1 : Int32) then (if ¬ x = (-2 : Int32) then (fX11_within x (0 : Int32) (9 : Int32) M).bind fun p1 => if p1.1 = 0 then some ((-1 : Int32), p1.2) else (fX9_cupBehind N G x p1.2).bind fun p2 => some (p2.1, p2.2) else if (2 : Int32) = 0 then none else if ¬ ((M 29 3) - (M 29 3) / (2 : Int32) * (2 : Int32)) = 0 then some ((0 : Int32), M) else some ((1 : Int32), M)) else (fX9_leastSwaps N G M).bind fun p3 => some (p3.1, p3.2) := rfl
  rw [eC, eM, e_isIn, Option.bind_some]
  by_cases h1 : x = -1
  · subst h1
    have g1 : wi (-1 : Int32) (-2) 9 = true := by decide
    rw [if_neg (not_not_intro rfl), g1, if_pos (t1 _), if_pos (show (-1 : Int32) < 0 by decide), if_neg (not_not_intro rfl), w3']
    show ∃ (v : Int32) (C' D' : nM), _ ∧ _ ∧ ((fX12_leastSwaps N D0).bind _) = _ ∧ _
    rw [w4']
    exact fin (nI w)
  · rw [if_pos h1]
    by_cases h2 : x = -2
    · subst h2
      have g1 : wi (-2 : Int32) (-2) 9 = true := by decide
      rw [if_neg (not_not_intro rfl), if_neg (show ¬ (2 : Int32) = 0 by decide), g1, if_pos (t1 _), if_pos (show (-2 : Int32) < 0 by decide), if_pos h1]
      show ∃ (v : Int32) (C' D' : nM), _ ∧ _ ∧ ((fX12_leastSwaps N D0).bind _) = _ ∧ _
      rw [w4', Option.bind_some, if_neg (show ¬ (2 : Int32) = 0 by decide), i2', r_mod2 (by omega)]
      show ∃ (v : Int32) (C' D' : nM), _ ∧ _ ∧ some ((1 : Int32) - (nI w - nI w / (2 : Int32) * (2 : Int32)), D0) = _ ∧ _
      rw [r_mod2 (by omega)]
      have hpar : ps.length % 2 = w % 2 := by omega
      rw [hpar]
      rcases (show w % 2 = 0 ∨ w % 2 = 1 by omega) with z | z
      · rw [z, if_neg (show ¬ ¬ nI 0 = (0 : Int32) by decide)]
        exact fin 1
      · rw [z, if_pos (show ¬ nI 1 = (0 : Int32) by decide)]
        exact fin 0
    · have hww : wi x (-2) 9 = wi x 0 9 := by
        unfold wi
        have : decide (x < -2) = decide (x < 0) := decide_eq_decide.mpr ⟨fun g => Int32.lt_trans g (by decide), fun g => by
          rw [Int32.lt_iff_toInt_lt] at g ⊢
          have e1 : (-2 : Int32).toInt = -2 := by decide
          have e1' : (-1 : Int32).toInt = -1 := by decide
          have e2 : (0 : Int32).toInt = 0 := by decide
          have e3 : x.toInt ≠ -2 := fun e => h2 (Int32.toInt_inj.mp (by rw [e, e1]))
          have e4 : x.toInt ≠ -1 := fun e => h1 (Int32.toInt_inj.mp (by rw [e, e1']))
          omega⟩
        rw [this]
      rw [if_pos h2, e_within, Option.bind_some, hww]
      cases hx : wi x 0 9 with
      | false => rw [if_pos (t0 _), if_neg (not_not_intro (t0 _))]; exact fin (-1)
      | true =>
        obtain ⟨k, hk, rfl⟩ := wi_nI (n := 9) (by decide) hx
        rw [if_neg (t1 _), if_pos (t1 _), if_neg (nI_pos (by omega))]
        show ∃ (v : Int32) (C' D' : nM), ((fX9_cupBehind N G (nI k) M).bind _) = _ ∧ _ ∧ ((fX12_comesUnder N (nI k) D0).bind _) = _ ∧ _
        rw [hC k (by omega), hD k (by omega)]
        exact fin _
