/-! ===== opened: the fewest that must be forced, the class ===== -/
theorem ff74_eq (N : Nat) (G : nG) (k31 : Int32 → Int32 → nM → Option (Int32 × nM)) (k42 : Int32 → Int32 → Int32 → Int32 → nM → Option (Int32 × nM)) (x1 x2 x3 x4 s0 : Int32) (M : nM) : fX9_fewestForced_74 N G k31 k42 x1 x2 x3 x4 s0 M = if s0 = 0 then k42 x1 x2 x3 (x4 + (1 : Int32)) M else if x4 < x2 then k42 x1 x2 (0 : Int32) (x4 + (1 : Int32)) M else n_chk (n_ib 256 x2) ((fX4_hasBit (M 99 x2.toNatClampNeg) x4 M).bind fun p3 => if ¬ p3.1 = 0 then k42 x1 x2 x3 (x4 + (1 : Int32)) p3.2 else k42 x1 x2 (0 : Int32) (x4 + (1 : Int32)) p3.2) := rfl
theorem ff42_eq (N f : Nat) (G : nG) (k31 : Int32 → Int32 → nM → Option (Int32 × nM)) (x1 x2 x3 x4 : Int32) (M : nM) : fX9_fewestForced_42 N G k31 (f + 1) x1 x2 x3 x4 M = if (10 : Int32) ≤ x4 then (if x3 = 0 then k31 x1 (x2 + (1 : Int32)) M else k31 (x1 + (1 : Int32)) (x2 + (1 : Int32)) M) else if x4 = x2 then fX9_fewestForced_74 N G k31 (fun x1 x2 x3 x4 M => fX9_fewestForced_42 N G k31 f x1 x2 x3 x4 M) x1 x2 x3 x4 0 M else n_chk (n_ib 256 x4) ((fX4_hasBit (M 99 x4.toNatClampNeg) x2 M).bind fun p4 => if p4.1 = 0 then fX9_fewestForced_74 N G k31 (fun x1 x2 x3 x4 M => fX9_fewestForced_42 N G k31 f x1 x2 x3 x4 M) x1 x2 x3 x4 0 p4.2 else fX9_fewestForced_74 N G k31 (fun x1 x2 x3 x4 M => fX9_fewestForced_42 N G k31 f x1 x2 x3 x4 M) x1 x2 x3 x4 (1 : Int32) p4.2) := rfl
theorem ff31_eq (N f : Nat) (G : nG) (x1 x2 : Int32) (M : nM) : fX9_fewestForced_31 N G (f + 1) x1 x2 M = if (10 : Int32) ≤ x2 then some (x1, M) else fX9_fewestForced_42 N G (fun x1 x2 M => fX9_fewestForced_31 N G f x1 x2 M) N x1 x2 (1 : Int32) (0 : Int32) M := rfl
theorem ff2_eq (N f : Nat) (G : nG) (x1 : Int32) (M : nM) : fX9_fewestForced_2 N G (f + 1) x1 M = if (10 : Int32) ≤ x1 then fX9_fewestForced_31 N G N (0 : Int32) (0 : Int32) M else (fX9_openedFrom N G ((1 : Int32) <<< (x1 &&& 31)) M).bind fun p1 => n_chk (n_ib 256 x1) (fX9_fewestForced_2 N G f (x1 + (1 : Int32)) (n_up p1.2 99 x1.toNatClampNeg p1.1)) := rfl
theorem c_ff42 {N i : Nat} {G : nG} {k31 : Int32 → Int32 → nM → Option (Int32 × nM)} {x1 : Int32} {M : nM} (hi : i < 10) : ∀ (d j f : Nat), j + d = 10 → d < f → fX9_fewestForced_42 N G k31 f x1 (nI i) (cb (o_mb (fun a b => bt (M 99 a) b) i j)) (nI j) M = if o_mb (fun a b => bt (M 99 a) b) i 10 = true then k31 (x1 + 1) (nI (i + 1)) M else k31 x1 (nI (i + 1)) M := by
  intro d
  induction d with
  | zero =>
    intro j f hj hf
    obtain ⟨f, rfl⟩ : ∃ g, f = g + 1 := ⟨f - 1, by omega⟩
    rw [ff42_eq, if_pos (show (10 : Int32) ≤ nI j from nI_le (a := 10) (by omega) (by omega)), nI_1, show j = 10 by omega]
    cases o_mb (fun a b => bt (M 99 a) b) i 10 with
    | false => rw [if_pos (show (cb false : Int32) = 0 from rfl), if_neg (by decide)]
    | true => rw [if_neg (show ¬ (cb true : Int32) = 0 by decide), if_pos rfl]
  | succ d ih =>
    intro j f hj hf
    obtain ⟨f, rfl⟩ : ∃ g, f = g + 1 := ⟨f - 1, by omega⟩
    have ih' := ih (j + 1) f (by omega) (by omega)
    rw [ff42_eq, if_neg (show ¬ (10 : Int32) ≤ nI j from nI_ge (b := 10) (by omega) (by decide)), ← ih']
    have hs : o_mb (fun a b => bt (M 99 a) b) i (j + 1) = (o_mb (fun a b => bt (M 99 a) b) i j && !(decide (j ≠ i) && bt (M 99 j) i && (decide (j < i) || !bt (M 99 i) j))) := rfl
    rw [hs]
    generalize o_mb (fun a b => bt (M 99 a) b) i j = fl
    by_cases e : j = i
    · subst e
      rw [if_pos rfl, ff74_eq, if_pos rfl, nI_1]
      show _ = fX9_fewestForced_42 N G k31 f x1 (nI j) (cb (fl && !(decide (j ≠ j) && bt (M 99 j) j && (decide (j < j) || !bt (M 99 j) j)))) (nI (j + 1)) M
      rw [show decide (j ≠ j) = false by simp, Bool.false_and, Bool.false_and, Bool.not_false, Bool.and_true]
    · rw [if_neg (fun z => e ((nI_eq (by omega) (by omega)).mp z)), n_ib_nI (by omega) (by decide), n_chk_t, nI_clamp (by omega), e_hasBit (by omega), Option.bind_some, show decide (j ≠ i) = true by simp [e], Bool.true_and]
      cases h1 : bt (M 99 j) i with
      | false =>
        rw [if_pos (show (cb false : Int32) = 0 from rfl), ff74_eq, if_pos rfl, Bool.false_and, Bool.not_false, Bool.and_true, nI_1]
      | true =>
        rw [if_neg (show ¬ (cb true : Int32) = 0 by decide), ff74_eq, if_neg (by decide), Bool.true_and, nI_1]
        by_cases h2 : j < i
        · rw [if_pos (nI_lt h2 (by omega)), show decide (j < i) = true by simp [h2], Bool.true_or, Bool.not_true, Bool.and_false]
          rfl
        · rw [if_neg (nI_nlt (by omega) (by omega)), show decide (j < i) = false by simp [h2], Bool.false_or, Bool.not_not, n_ib_nI (by omega) (by decide), n_chk_t, nI_clamp (by omega)]
          show ((fX4_hasBit (M 99 i) (nI j) M).bind _) = _
          rw [e_hasBit (by omega), Option.bind_some]
          cases h3 : bt (M 99 i) j with
          | true => rw [if_pos (show ¬ (cb true : Int32) = 0 by decide), Bool.and_true]
          | false =>
            rw [if_neg (show ¬ ¬ (cb false : Int32) = 0 by decide), Bool.and_false]
            rfl
theorem c_ff31 {N : Nat} {G : nG} {M : nM} (hN : 1000 ≤ N) : ∀ (d i f : Nat), i + d = 10 → d < f → fX9_fewestForced_31 N G f (nI (o_ct (fun i => o_mb (fun a b => bt (M 99 a) b) i 10) i)) (nI i) M = some (nI (o_ct (fun i => o_mb (fun a b => bt (M 99 a) b) i 10) 10), M) := by
  intro d
  induction d with
  | zero =>
    intro i f hi hf
    obtain ⟨f, rfl⟩ : ∃ g, f = g + 1 := ⟨f - 1, by omega⟩
    rw [ff31_eq, if_pos (show (10 : Int32) ≤ nI i from nI_le (a := 10) (by omega) (by omega)), show i = 10 by omega]
  | succ d ih =>
    intro i f hi hf
    obtain ⟨f, rfl⟩ : ∃ g, f = g + 1 := ⟨f - 1, by omega⟩
    rw [ff31_eq, if_neg (show ¬ (10 : Int32) ≤ nI i from nI_ge (b := 10) (by omega) (by decide))]
    have t := c_ff42 (N := N) (i := i) (G := G) (k31 := fun x1 x2 M => fX9_fewestForced_31 N G f x1 x2 M) (x1 := nI (o_ct (fun i => o_mb (fun a b => bt (M 99 a) b) i 10) i)) (M := M) (by omega) 10 0 N (by omega) (by omega)
    refine (show fX9_fewestForced_42 N G (fun x1 x2 M => fX9_fewestForced_31 N G f x1 x2 M) N (nI (o_ct (fun i => o_mb (fun a b => bt (M 99 a) b) i 10) i)) (nI i) (1 : Int32) (0 : Int32) M = _ from t).trans ?_
    rw [← ih (i + 1) f (by omega) (by omega)]
    have hs : o_ct (fun i => o_mb (fun a b => bt (M 99 a) b) i 10) (i + 1) = o_ct (fun i => o_mb (fun a b => bt (M 99 a) b) i 10) i + (if o_mb (fun a b => bt (M 99 a) b) i 10 = true then 1 else 0) := rfl
    rw [hs]
    by_cases hb : o_mb (fun a b => bt (M 99 a) b) i 10 = true
    · rw [if_pos hb, if_pos hb, nI_1]
    · rw [if_neg hb, if_neg hb]
      rfl
theorem c_ff2 {N : Nat} {G : nG} {M : nM} {L : List (Nat × Int32)} (hN : 1000 ≤ N) (ho : ∀ (W : Nat → Int32) (s : Int32), fX9_openedFrom N G s (n_set M 99 W) = some (o_C L s, n_set M 99 W)) : ∀ (d i f : Nat) (W : Nat → Int32), i + d = 10 → d < f → (∀ a, a < i → W a = o_C L (o_bi a)) → ∃ W' : Nat → Int32, (∀ a, a < 10 → W' a = o_C L (o_bi a)) ∧ fX9_fewestForced_2 N G f (nI i) (n_set M 99 W) = fX9_fewestForced_31 N G N 0 0 (n_set M 99 W') := by
  intro d
  induction d with
  | zero =>
    intro i f W hi hf hW
    obtain ⟨f, rfl⟩ : ∃ g, f = g + 1 := ⟨f - 1, by omega⟩
    refine ⟨W, fun a ha => hW a (by omega), ?_⟩
    rw [ff2_eq, if_pos (show (10 : Int32) ≤ nI i from nI_le (a := 10) (by omega) (by omega))]
  | succ d ih =>
    intro i f W hi hf hW
    obtain ⟨f, rfl⟩ : ∃ g, f = g + 1 := ⟨f - 1, by omega⟩
    obtain ⟨W', h1, h2⟩ := ih (i + 1) f (upd W i (o_C L (o_bi i))) (by omega) (by omega) (fun a ha => by
      by_cases e : a = i
      · subst e; exact upd_eq
      · rw [upd_ne e]; exact hW a (by omega))
    refine ⟨W', h1, ?_⟩
    rw [ff2_eq, if_neg (show ¬ (10 : Int32) ≤ nI i from nI_ge (b := 10) (by omega) (by decide)), ho, Option.bind_some, n_ib_nI (by omega) (by decide), n_chk_t, nI_clamp (by omega), nI_1]
    show fX9_fewestForced_2 N G f (nI (i + 1)) (n_up (n_set M 99 W) 99 i (o_C L (o_bi i))) = _
    rw [n_up_set]
    exact h2
theorem o_mb_c {r s : Nat → Nat → Bool} (h : ∀ a b, a < 10 → b < 10 → r a b = s a b) {i : Nat} (hi : i < 10) : ∀ n : Nat, n ≤ 10 → o_mb r i n = o_mb s i n
  | 0, _ => rfl
  | n + 1, hn => by
    unfold o_mb
    rw [o_mb_c h hi n (by omega), h n i (by omega) hi, h i n hi (by omega)]
theorem c_ff {N : Nat} {G : nG} {M : nM} {L : List (Nat × Int32)} (hN : 1000 ≤ N) (ho : ∀ (W : Nat → Int32) (s : Int32), fX9_openedFrom N G s (n_set M 99 W) = some (o_C L s, n_set M 99 W)) : ∃ W : Nat → Int32, fX9_fewestForced N G M = some (nI (o_ct (fun i => o_mb (fun a b => bt (o_C L (o_bi a)) b) i 10) 10), n_set M 99 W) := by
  obtain ⟨W', h1, h2⟩ := c_ff2 hN ho 10 0 N (M 99) (by omega) (by omega) (fun a ha => absurd ha (by omega))
  rw [n_set_self rfl] at h2
  refine ⟨W', ?_⟩
  have t := c_ff31 (N := N) (G := G) (M := n_set M 99 W') hN 10 0 N (by omega) (by omega)
  have e : o_ct (fun i => o_mb (fun a b => bt (n_set M 99 W' 99 a) b) i 10) 10 = o_ct (fun i => o_mb (fun a b => bt (o_C L (o_bi a)) b) i 10) 10 := by
    refine sN_c 10 fun i hi => ?_
    have e2 := o_mb_c (r := fun a b => bt (n_set M 99 W' 99 a) b) (s := fun a b => bt (o_C L (o_bi a)) b) (fun a b ha _ => by
      show bt (n_set M 99 W' 99 a) b = bt (o_C L (o_bi a)) b
      rw [n_set_eq, h1 a ha]) hi 10 (Nat.le_refl _)
    show (if o_mb (fun a b => bt (n_set M 99 W' 99 a) b) i 10 = true then 1 else 0) = if o_mb (fun a b => bt (o_C L (o_bi a)) b) i 10 = true then 1 else 0
    rw [e2]
  rw [e] at t
  exact h2.trans t
/-! ===== opened: the fewest that must be forced, the model ===== -/
theorem b_nat {w i : Nat} (hi : i < 32) : bt (nI w) i = w.testBit i := by
  show (BitVec.ofNat 32 w).getLsbD i = w.testBit i
  rw [BitVec.getLsbD_ofNat]
  simp [hi]
theorem o_b_n {w : Nat} (h : w < 1024) : o_b (nI w) := fun u hu => by
  by_cases h3 : u < 32
  · rw [b_nat h3] at hu
    by_cases z : u < 10
    · exact z
    · have : w < 2 ^ u := Nat.lt_of_lt_of_le (show w < 2 ^ 10 from h) (Nat.pow_le_pow_right (by decide) (by omega))
      rw [Nat.testBit_lt_two_pow this] at hu
      exact absurd hu (by decide)
  · rw [b_big (by omega)] at hu
    exact absurd hu (by decide)
def o_on : Nat → Nat → Nat → Nat
  | 0, c, _ => c
  | d + 1, c, w => if w = 0 then c else o_on d (c + 1) (Nat.land w (w - 1))
def o_cb (w : Nat) : Nat := sN (fun u => if w.testBit u = true then 1 else 0) 10
theorem o_on_t : ∀ w, w < 1024 → o_on 11 0 w = o_cb w ∧ o_on 10 0 w = o_cb w := by decide +kernel
theorem o_cb_u (w : Nat) : o_cb w = u_cn (nI w) := sN_c 10 fun u hu => by rw [b_nat (by omega)]
theorem on4_eq (N f : Nat) (x2 x3 : Int32) (M : nM) : fX12_onesOf_4 N (f + 1) x2 x3 M = if x3 = 0 then some (x2, M) else fX12_onesOf_4 N f (x2 + (1 : Int32)) (x3 &&& (x3 - (1 : Int32))) M := rfl
def o_oz : Nat → Nat → Nat
  | 0, w => w
  | d + 1, w => if w = 0 then 0 else o_oz d (Nat.land w (w - 1))
theorem o_oz_t : ∀ w, w < 1024 → o_oz 10 w = 0 := by decide +kernel
theorem c_on4 {N : Nat} {M : nM} : ∀ (d c w f : Nat), w < 1024 → o_oz d w = 0 → d < f → fX12_onesOf_4 N f (nI c) (nI w) M = some (nI (o_on d c w), M) := by
  intro d
  induction d with
  | zero =>
    intro c w f hw hz hf
    obtain ⟨f, rfl⟩ : ∃ g, f = g + 1 := ⟨f - 1, by omega⟩
    have hz' : w = 0 := hz
    subst hz'
    rw [on4_eq, if_pos (show nI 0 = (0 : Int32) from rfl)]
    rfl
  | succ d ih =>
    intro c w f hw hz hf
    obtain ⟨f, rfl⟩ : ∃ g, f = g + 1 := ⟨f - 1, by omega⟩
    unfold o_on
    unfold o_oz at hz
    by_cases e : w = 0
    · subst e
      rw [on4_eq, if_pos (show nI 0 = (0 : Int32) from rfl), if_pos rfl]
    · rw [if_neg e] at hz
      rw [on4_eq, if_neg (nI_ne0 (by omega) (by omega)), if_neg e, nI_1, show nI w - (1 : Int32) = nI (w - 1) from pk_sub (b := 1) (by omega), nI_and]
      have hl : Nat.land w (w - 1) ≤ w := Nat.and_le_left
      exact ih (c + 1) (Nat.land w (w - 1)) f (by omega) hz (by omega)
theorem c_ones {N w : Nat} {M : nM} (hN : 1000 ≤ N) (hw : w < 1024) : fX12_onesOf N (nI w) M = some (nI (u_cn (nI w)), M) := by
  have := c_on4 (N := N) (M := M) 10 0 w N hw (o_oz_t w hw) (by omega)
  rw [(o_on_t w hw).2, o_cb_u] at this
  exact this
theorem om35_eq (N f : Nat) (x2 x3 : Int32) (M : nM) : fX12_opened_35 N (f + 1) x2 x3 M = if (1024 : Int32) ≤ x3 then some (x2, M) else (fX12_onesOf N x3 M).bind fun p1 => if x2 ≤ p1.1 then fX12_opened_35 N f x2 (x3 + (1 : Int32)) p1.2 else (fX12_openedFrom N x3 p1.2).bind fun p3 => if ¬ p3.1 = (1023 : Int32) then fX12_opened_35 N f x2 (x3 + (1 : Int32)) p3.2 else (fX12_onesOf N x3 p3.2).bind fun p5 => fX12_opened_35 N f p5.1 (x3 + (1 : Int32)) p5.2 := rfl
theorem c_om35 {N K : Nat} {M : nM} (hN : 1000 ≤ N) (hK : ∀ w, w < 1024 → o_C (o_L2 (M 139)) (nI w) = (1023 : Int32) → K ≤ u_cn (nI w)) {y : Nat} (hy : y < 1024) (hy1 : o_C (o_L2 (M 139)) (nI y) = (1023 : Int32)) (hy2 : u_cn (nI y) = K) : ∀ (d w f b : Nat), w + d = 1024 → d < f → K ≤ b → b ≤ 10 → (w ≤ y ∨ b = K) → fX12_opened_35 N f (nI b) (nI w) M = some (nI K, M) := by
  intro d
  induction d with
  | zero =>
    intro w f b hw hf h1 h2 h3
    obtain ⟨f, rfl⟩ : ∃ g, f = g + 1 := ⟨f - 1, by omega⟩
    rw [om35_eq, if_pos (show (1024 : Int32) ≤ nI w from nI_le (a := 1024) (by omega) (by omega))]
    rw [show b = K by omega]
  | succ d ih =>
    intro w f b hw hf h1 h2 h3
    obtain ⟨f, rfl⟩ : ∃ g, f = g + 1 := ⟨f - 1, by omega⟩
    have hw1 : w < 1024 := by omega
    have hc10 := u_cn_10 (nI w)
    have hKw := hK w hw1
    rw [om35_eq, if_neg (show ¬ (1024 : Int32) ≤ nI w from nI_ge (b := 1024) hw1 (by decide)), c_ones hN hw1, Option.bind_some, nI_1]
    have hyw : y = w → u_cn (nI w) = K := fun e => by rw [← e]; exact hy2
    have hyw2 : y = w → o_C (o_L2 (M 139)) (nI w) = (1023 : Int32) := fun e => by rw [← e]; exact hy1
    generalize hcc : u_cn (nI w) = c at hc10 hKw hyw
    by_cases g : b ≤ c
    · rw [if_pos (show nI b ≤ nI c from nI_le g (by omega))]
      refine ih (w + 1) f b (by omega) (by omega) h1 h2 ?_
      by_cases e : y = w
      · have := hyw e
        exact Or.inr (by omega)
      · omega
    · rw [if_neg (show ¬ nI b ≤ nI c from nI_ge (by omega) (by omega))]
      show ((fX12_openedFrom N (nI w) M).bind _) = _
      rw [c_om hN, Option.bind_some]
      by_cases e : o_C (o_L2 (M 139)) (nI w) = (1023 : Int32)
      · rw [if_neg (not_not_intro e)]
        show ((fX12_onesOf N (nI w) M).bind _) = _
        rw [c_ones hN hw1, Option.bind_some, hcc]
        have := hKw e
        refine ih (w + 1) f c (by omega) (by omega) this (by omega) ?_
        by_cases e2 : y = w
        · exact Or.inr (hyw e2)
        · omega
      · rw [if_pos e]
        refine ih (w + 1) f b (by omega) (by omega) h1 h2 ?_
        have : y ≠ w := fun z => e (hyw2 z)
        omega
/-- a set as a number -/
def o_ms (F : Nat → Bool) : Nat → Int32
  | 0 => 0
  | k + 1 => if F k = true then o_ms F k ||| o_bi k else o_ms F k
theorem o_ms_t {F : Nat → Bool} {u : Nat} : ∀ n : Nat, n ≤ 10 → bt (o_ms F n) u = (decide (u < n) && F u)
  | 0, _ => by
    show bt (0 : Int32) u = _
    rw [b_0]
    simp
  | n + 1, hn => by
    unfold o_ms
    have ih := o_ms_t (F := F) (u := u) n (by omega)
    by_cases e : u = n
    · subst e
      cases hF : F u with
      | true => rw [if_pos rfl, b_or, o_bi_t (by omega)]; simp
      | false => rw [if_neg (by decide), ih, hF]; simp
    · have hd : decide (u < n + 1) = decide (u < n) := decide_eq_decide.mpr (by omega)
      cases hF : F n with
      | true => rw [if_pos rfl, b_or, o_bi_t (by omega), ih, hd]; simp [e]
      | false => rw [if_neg (by decide), ih, hd]
theorem o_num {s : Int32} (h : o_b s) : ∃ y, y < 1024 ∧ nI y = s := by
  have hlt : s.toBitVec.toNat < 1024 := by
    refine Nat.lt_pow_two_of_testBit (n := 10) _ fun i hi => ?_
    cases e : s.toBitVec.toNat.testBit i with
    | false => rfl
    | true =>
      have : bt s i = true := by
        show s.toBitVec.getLsbD i = true
        rw [BitVec.getLsbD]
        exact e
      have := h i this
      omega
  refine ⟨_, hlt, b_ext fun i hi => ?_⟩
  rw [b_nat hi]
  rfl
theorem st_opened {G : nG} {M : nM} {n q N : Nat} (hN : 2000 ≤ N) (hG : n_GOK G) (h : Rel G M n q) (x : Int32) : Stq G (fX11_opened N G x) (fX12_opened N x) M := by
  refine Stq_mix fun D1 hD1 => ?_
  have hR := Rel_m0 h hD1
  obtain ⟨D0, hD0⟩ : ∃ D0, D0 = n_up D1 107 0 0 := ⟨_, rfl⟩
  rw [← hD0] at hR
  have hfr : ∀ c, c < 107 ∨ 151 < c → D0 c = D1 c := fun c hc => by rw [hD0]; exact n0_ne c hc
  have hN1 : 1000 ≤ N := by omega
  obtain ⟨⟨hst, hmv, hbk, hlw, hsp, hcu, hli, hsw, hpk, hbx, hky, hcl, hsh, hrw, hgf, hmi⟩, hpr, hrd, hck, hwd, him⟩ := id hR
  obtain ⟨ps, i1, i2, i3, i4, i5⟩ := hky
  have i2' : M 35 3 = nI ps.length := i2
  have i5' : ∀ c, c < 10 → ∀ t, bt (D0 139 c) t = true ↔ (c, t) ∈ ps := i5
  have hwm : r_wm (M 35 1) (M 35 2) 2 12 := hck.2.2.2.2.2.2.2.2.2.1
  have hps2 : ∀ i, i < ps.length → (ps.getD i (0, 0)).1 < 10 ∧ (ps.getD i (0, 0)).2 < 10 := fun i hi => by
    obtain ⟨g1, g2, -⟩ := i4 i _ (ps_get2 hi)
    exact ⟨g1, g2⟩
  have hmem : ∀ p : Nat × Nat, p ∈ ps → p.1 < 10 ∧ p.2 < 10 := fun p hp => by
    obtain ⟨i, hi⟩ := List.mem_iff_getElem?.mp hp
    obtain ⟨g1, g2, -⟩ := i4 i p hi
    exact ⟨g1, g2⟩
  have hcC : ∀ (W : Nat → Int32) (i : Nat), i < ps.length → fX7_cell G 35 (nI i) (0 : Int32) (n_set M 99 W) = some (nI (ps.getD i (0, 0)).1, n_set M 99 W) ∧ fX7_cell G 35 (nI i) (1 : Int32) (n_set M 99 W) = some (nI (ps.getD i (0, 0)).2, n_set M 99 W) := fun W i hi => by
    obtain ⟨g1, g2, g3, g4⟩ := i4 i _ (ps_get2 hi)
    have g3' : M 36 (2 * i) = nI (ps.getD i (0, 0)).1 := g3
    have g4' : M 36 (2 * i + 1) = nI (ps.getD i (0, 0)).2 := g4
    have a0 := e_cell (G := G) (M := n_set M 99 W) (x0 := 35) (c := 36) (W := 2) (H := 12) (i := i) (j := 0) (gk35 hG) (gm35_0 hG) (gk36 hG) (gl36 hG) hwm (by decide) (by decide) (by decide) (by omega) (by decide)
    have a1 := e_cell (G := G) (M := n_set M 99 W) (x0 := 35) (c := 36) (W := 2) (H := 12) (i := i) (j := 1) (gk35 hG) (gm35_0 hG) (gk36 hG) (gl36 hG) hwm (by decide) (by decide) (by decide) (by omega) (by decide)
    rw [n_set_ne (show (36 : Nat) ≠ 99 by decide), show i * 2 + 0 = 2 * i by omega, g3'] at a0
    rw [n_set_ne (show (36 : Nat) ≠ 99 by decide), show i * 2 + 1 = 2 * i + 1 by omega, g4'] at a1
    exact ⟨a0, a1⟩
  have hoC : ∀ (W : Nat → Int32) (s : Int32), fX9_openedFrom N G s (n_set M 99 W) = some (o_C (o_L1 ps) s, n_set M 99 W) := fun W s => c_of (M := n_set M 99 W) hN1 i1 (by rw [n_set_ne (by decide)]; exact i2') hps2 (hcC W) s
  have hoC0 : ∀ s : Int32, fX9_openedFrom N G s M = some (o_C (o_L1 ps) s, M) := fun s => by
    have := hoC (M 99) s
    rw [n_set_self rfl] at this
    exact this
  have hoM : ∀ s : Int32, fX12_openedFrom N s D0 = some (o_C (o_L2 (D0 139)) s, D0) := fun s => c_om hN1 s
  have hL1 : ∀ e, e ∈ o_L1 ps → o_b e.2 := fun e he => by
    obtain ⟨p, hp, rfl⟩ := List.mem_map.mp he
    exact o_bi_b (hmem p hp).2
  have hL2 : ∀ e, e ∈ o_L2 (D0 139) → o_b e.2 := fun e he => by
    obtain ⟨c, hc, rfl⟩ := List.mem_map.mp he
    intro u hu
    exact (hmem _ ((i5' c (List.mem_range.mp hc) u).mp hu)).2
  have hcl2 : ∀ T, o_cl (o_L1 ps) T ↔ o_cl (o_L2 (D0 139)) T := fun T => by
    constructor
    · intro hT e he hb u hu
      obtain ⟨c, hc, rfl⟩ := List.mem_map.mp he
      have hm := (i5' c (List.mem_range.mp hc) u).mp hu
      exact hT (c, o_bi u) (List.mem_map.mpr ⟨(c, u), hm, rfl⟩) hb u (by
        show bt (o_bi u) u = true
        rw [o_bi_t (hmem _ hm).2]
        simp)
    · intro hT e he hb u hu
      obtain ⟨p, hp, rfl⟩ := List.mem_map.mp he
      have hu' : bt (o_bi p.2) u = true := hu
      rw [o_bi_t (hmem p hp).2] at hu'
      have hup : u = p.2 := of_decide_eq_true hu'
      refine hT (p.1, D0 139 p.1) (List.mem_map.mpr ⟨p.1, List.mem_range.mpr (hmem p hp).1, rfl⟩) hb u ?_
      show bt (D0 139 p.1) u = true
      rw [i5' p.1 (hmem p hp).1, hup]
      exact hp
  have hCC : ∀ {s : Int32}, o_b s → o_C (o_L1 ps) s = o_C (o_L2 (D0 139)) s := fun hs => o_C_eq hL1 hL2 hcl2 hs
  have t1 : ∀ K : nM, ¬ (cb true, K).1 = 0 := fun _ => (by decide : ¬ cb true = (0 : Int32))
  have t0 : ∀ K : nM, (cb false, K).1 = 0 := fun _ => rfl
  have eM : fX12_opened N x D1 = (fX12_isIn x (-1 : Int32) (1023 : Int32) D0).bind fun p2 => if ¬ p2.1 = 0 then (if x = (-1 : Int32) then fX12_opened_35 N N (10 : Int32) (0 : Int32) p2.2 else (fX12_openedFrom N x p2.2).bind fun p3 => some (p3.1, p3.2)) else some ((-1 : Int32), p2.2) := by rw [hD0]; rfl
  have eC : fX11_opened N G x M = if ¬ x = (-1 : Int32) then (fX11_within x (0 : Int32) (1023 : Int32) M).bind fun p1 => if p1.1 = 0 then some ((-1 : Int32), p1.2) else (fX9_openedFrom N G x p1.2).bind fun p2 => some (p2.1, p2.2) else (fX9_fewestForced N G M).bind fun p3 => some (p3.1, p3.2) := rfl
  have fin : ∀ w : Int32, ∃ (v : Int32) (C' D' : nM), some (w, M) = some (v, C') ∧ (∀ c, 107 ≤ c → c ≤ 151 → C' c = M c) ∧ some (w, D0) = some (v, D') ∧ (∀ c, c < 107 ∨ 151 < c → D' c = D1 c) ∧ ∃ n q : Nat, Rel G (Mix C' D') n q := fun w => ⟨w, M, D0, rfl, fun _ _ _ => rfl, rfl, hfr, n, q, hR⟩
  rw [eC, eM, e_isIn, Option.bind_some]
  by_cases h1 : x = -1
  · subst h1
    have g1 : wi (-1 : Int32) (-1) 1023 = true := by decide
    rw [if_neg (not_not_intro rfl), g1, if_pos (t1 _), if_pos rfl]
    obtain ⟨W, hW⟩ := c_ff (L := o_L1 ps) hN1 hoC
    rw [hW, Option.bind_some]
    have hrr : ∀ i, i < 10 → (fun a b => bt (o_C (o_L1 ps) (o_bi a)) b) i i = true := fun i hi => o_r1 hi
    have hrt : ∀ i j k, i < 10 → j < 10 → k < 10 → (fun a b => bt (o_C (o_L1 ps) (o_bi a)) b) i j = true → (fun a b => bt (o_C (o_L1 ps) (o_bi a)) b) j k = true → (fun a b => bt (o_C (o_L1 ps) (o_bi a)) b) i k = true := fun i j k hi hj _ a b => o_r3 hL1 hi hj a b
    have hfr2 : ∀ v, v < 10 → ∃ w, w < 10 ∧ o_mb (fun a b => bt (o_C (o_L1 ps) (o_bi a)) b) w 10 = true ∧ bt (o_C (o_L1 ps) (o_bi w)) v = true := fun v hv => o_from hrr hrt hv _ v hv (Nat.lt_succ_self _) (hrr v hv)
    have hle : ∀ w, w < 1024 → o_C (o_L2 (D0 139)) (nI w) = (1023 : Int32) → o_ct (fun i => o_mb (fun a b => bt (o_C (o_L1 ps) (o_bi a)) b) i 10) 10 ≤ u_cn (nI w) := fun w hw e => by
      rw [← hCC (o_b_n hw)] at e
      exact o_least (X := fun u => bt (nI w) u) hrt (fun v hv => o_r4 hL1 (o_b_n hw) (by rw [e, o_1023 v (by omega)]; simp [hv]))
    obtain ⟨F, hF⟩ : ∃ F : Nat → Bool, F = fun i => o_mb (fun a b => bt (o_C (o_L1 ps) (o_bi a)) b) i 10 := ⟨_, rfl⟩
    have hbF : ∀ u, bt (o_ms F 10) u = (decide (u < 10) && F u) := fun u => o_ms_t 10 (Nat.le_refl _)
    have hob : o_b (o_ms F 10) := fun u hu => by
      rw [hbF, Bool.and_eq_true] at hu
      exact of_decide_eq_true hu.1
    obtain ⟨y, hy, ey⟩ := o_num hob
    have hy1 : o_C (o_L2 (D0 139)) (nI y) = (1023 : Int32) := by
      rw [ey, ← hCC hob]
      refine (o_full (o_it_b hL1 10 _ hob)).mpr fun v hv => ?_
      obtain ⟨w, w1, w2, w3⟩ := hfr2 v hv
      refine o_r5 hL1 hob (x := w) ?_ w3
      rw [hbF, hF]
      simp [w1, w2]
    have hy2 : u_cn (nI y) = o_ct F 10 := by
      rw [ey]
      refine sN_c 10 fun u hu => ?_
      rw [hbF]
      simp [hu]
    rw [← hF] at hle ⊢
    have hK10 : o_ct F 10 ≤ 10 := by rw [← hy2]; exact u_cn_10 _
    have m1 : fX12_opened_35 N N (10 : Int32) (0 : Int32) D0 = some (nI (o_ct F 10), D0) := c_om35 (N := N) (M := D0) hN1 hle hy hy1 hy2 1024 0 N 10 (by omega) (by omega) hK10 (Nat.le_refl _) (Or.inl (Nat.zero_le _))
    show ∃ (v : Int32) (C' D' : nM), some (nI (o_ct F 10), n_set M 99 W) = _ ∧ _ ∧ fX12_opened_35 N N (10 : Int32) (0 : Int32) D0 = _ ∧ _
    rw [m1]
    refine ⟨_, n_set M 99 W, D0, rfl, fun c g1 g2 => n_set_ne (by omega), rfl, hfr, n, q, ?_⟩
    refine Rel_scr hR (fun c g1 g2 => ?_) (fun k hk => rfl)
    have e99 : c ≠ 99 := fun e => by subst e; exact absurd g1 (by decide)
    by_cases hc : c < 107 ∨ 151 < c
    · rw [Mix_c hc, Mix_c hc, n_set_ne e99]
    · rw [Mix_d (by omega) (by omega), Mix_d (by omega) (by omega)]
  · have hww : wi x (-1) 1023 = wi x 0 1023 := by
      unfold wi
      have : decide (x < -1) = decide (x < 0) := decide_eq_decide.mpr ⟨fun g => Int32.lt_trans g (by decide), fun g => by
        rw [Int32.lt_iff_toInt_lt] at g ⊢
        have e1' : (-1 : Int32).toInt = -1 := by decide
        have e2 : (0 : Int32).toInt = 0 := by decide
        have e4 : x.toInt ≠ -1 := fun e => h1 (Int32.toInt_inj.mp (by rw [e, e1']))
        omega⟩
      rw [this]
    rw [if_pos h1, e_within, Option.bind_some, hww]
    cases hx : wi x 0 1023 with
    | false => rw [if_pos (t0 _), if_neg (not_not_intro (t0 _))]; exact fin (-1)
    | true =>
      obtain ⟨k, hk, rfl⟩ := wi_nI (n := 1023) (by decide) hx
      rw [if_neg (t1 _), if_pos (t1 _), if_neg h1]
      show ∃ (v : Int32) (C' D' : nM), ((fX9_openedFrom N G (nI k) M).bind _) = _ ∧ _ ∧ ((fX12_openedFrom N (nI k) D0).bind _) = _ ∧ _
      rw [hoC0, hoM, hCC (o_b_n (by omega))]
      exact fin _
