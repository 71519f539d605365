/-! ===== heir: the model looks at one ===== -/
set_option maxRecDepth 100000 in
theorem h_oz_t : ∀ w, w < 4096 → o_oz 12 w = 0 := by decide +kernel
def h_cb (w : Nat) : Nat := sN (fun u => if w.testBit u = true then 1 else 0) 12
set_option maxRecDepth 100000 in
theorem h_on_t : ∀ w, w < 4096 → o_on 12 0 w = h_cb w := by decide +kernel
theorem c_on12 {N : Nat} {M : nM} : ∀ (d c w f : Nat), w < 4096 → o_oz d w = 0 → d < f → fX12_onesOf_4 N f (nI c) (nI w) M = some (nI (o_on d c w), M) := by
  intro d
  induction d with
  | zero =>
    intro c w f hw hz hf
    obtain ⟨f, rfl⟩ : ∃ g, f = g + 1 := ⟨f - 1, by omega⟩
    have hz' : w = 0 := hz
    subst hz'
    rw [on4_eq, if_pos (show nI 0 = (0 : Int32) from rfl)]
    rfl
  | succ d ih =>
    intro c w f hw hz hf
    obtain ⟨f, rfl⟩ : ∃ g, f = g + 1 := ⟨f - 1, by omega⟩
    unfold o_on
    unfold o_oz at hz
    by_cases e : w = 0
    · subst e
      rw [on4_eq, if_pos (show nI 0 = (0 : Int32) from rfl), if_pos rfl]
    · rw [if_neg e] at hz
      rw [on4_eq, if_neg (nI_ne0 (by omega) (by omega)), if_neg e, nI_1, show nI w - (1 : Int32) = nI (w - 1) from pk_sub (b := 1) (by omega), nI_and]
      have hl : Nat.land w (w - 1) ≤ w := Nat.and_le_left
      exact ih (c + 1) (Nat.land w (w - 1)) f (by omega) hz (by omega)
theorem sN_two {q x y : Nat} {h : Nat → Nat} (hxy : x = y → q ≤ x) : sN (fun i => if i = x ∨ i = y then h i else 0) q = (if x < q then h x else 0) + (if y < q then h y else 0) := by
  induction q with
  | zero => rfl
  | succ q ih =>
    show sN (fun i => if i = x ∨ i = y then h i else 0) q + (if q = x ∨ q = y then h q else 0) = _
    rw [ih (fun e => by have := hxy e; omega)]
    by_cases e1 : q = x
    · subst e1
      have hne : q ≠ y := fun e => by have := hxy e; omega
      rw [if_pos (Or.inl rfl), if_neg (by omega), if_pos (show q < q + 1 by omega)]
      by_cases z : y < q
      · rw [if_pos z, if_pos (by omega)]; try omega
      · rw [if_neg z, if_neg (by omega)]; try omega
    · by_cases e2 : q = y
      · subst e2
        rw [if_pos (Or.inr rfl), if_neg (show ¬ q < q by omega), if_pos (show q < q + 1 by omega)]
        by_cases z : x < q
        · rw [if_pos z, if_pos (by omega)]; try omega
        · rw [if_neg z, if_neg (by omega)]; try omega
      · rw [if_neg (show ¬ (q = x ∨ q = y) from fun z => z.elim e1 e2)]
        have a1 : (if x < q + 1 then h x else 0) = if x < q then h x else 0 := by
          by_cases z : x < q
          · rw [if_pos z, if_pos (by omega)]
          · rw [if_neg z, if_neg (by omega)]
        have a2 : (if y < q + 1 then h y else 0) = if y < q then h y else 0 := by
          by_cases z : y < q
          · rw [if_pos z, if_pos (by omega)]
          · rw [if_neg z, if_neg (by omega)]
        rw [a1, a2]
        omega
theorem cc29_eq (N f : Nat) (x1 x2 x3 x4 : Int32) (M : nM) : fX12_canBeChild_29 N (f + 1) x1 x2 x3 x4 M = if (M 107 7) ≤ x4 then n_chk (n_ib 12 x1) ((fX12_isIn (M 142 x1.toNatClampNeg) x2 x3 M).bind fun p1 => n_chk (p1.1 == 0 || p1.1 == 1) (some (p1.1, p1.2))) else n_chk (n_ib 24 x1) ((fX12_has (M 129 x1.toNatClampNeg) x4 M).bind fun p2 => if ¬ p2.1 = 0 then n_chk (n_ib 12 x4) (if ¬ (p2.2 142 x4.toNatClampNeg) = (2 : Int32) then fX12_canBeChild_71 N (fun x1 x2 x3 x4 M => fX12_canBeChild_29 N f x1 x2 x3 x4 M) x1 x2 x3 x4 p2.2 else fX12_canBeChild_71 N (fun x1 x2 x3 x4 M => fX12_canBeChild_29 N f x1 x2 x3 x4 M) x1 (x2 + (1 : Int32)) x3 x4 p2.2) else fX12_canBeChild_29 N f x1 x2 x3 (x4 + (1 : Int32)) p2.2) := rfl
theorem cc71_eq (N : Nat) (k29 : Int32 → Int32 → Int32 → Int32 → nM → Option (Int32 × nM)) (x1 x2 x3 x4 : Int32) (M : nM) : fX12_canBeChild_71 N k29 x1 x2 x3 x4 M = n_chk (n_ib 12 x4) (if (M 142 x4.toNatClampNeg) ≤ 0 then k29 x1 x2 x3 (x4 + (1 : Int32)) M else k29 x1 x2 (x3 + (1 : Int32)) (x4 + (1 : Int32)) M) := rfl
/-- the sums over the parents below i -/
def h_s2 (P : Nat → Bool) (a : Nat → Nat) (i : Nat) : Nat := sN (fun j => if P j = true then (if a j = 2 then 1 else 0) else 0) i
def h_s0 (P : Nat → Bool) (a : Nat → Nat) (i : Nat) : Nat := sN (fun j => if P j = true then (if a j = 0 then 0 else 1) else 0) i
theorem c_cc29 {N q c e : Nat} {a : Nat → Nat} {M : nM} (hq : q ≤ 12) (h7 : M 107 7 = nI q) (hc : c < 12) (hpa : ∀ j, j < q → bt (M 129 c) j = true → M 142 j = nI (a j) ∧ a j ≤ 2) : ∀ (d i f : Nat), i + d = q → d < f → fX12_canBeChild_29 N f (nI c) (nI (h_s2 (fun j => bt (M 129 c) j) a i)) (nI (e + h_s0 (fun j => bt (M 129 c) j) a i)) (nI i) M = (fX12_isIn (M 142 c) (nI (h_s2 (fun j => bt (M 129 c) j) a q)) (nI (e + h_s0 (fun j => bt (M 129 c) j) a q)) M).bind fun p1 => n_chk (p1.1 == 0 || p1.1 == 1) (some (p1.1, p1.2)) := by
  intro d
  induction d with
  | zero =>
    intro i f hi hf
    obtain ⟨f, rfl⟩ : ∃ g, f = g + 1 := ⟨f - 1, by omega⟩
    rw [cc29_eq, h7, if_pos (nI_le (by omega) (by omega)), n_ib_nI hc (by decide), n_chk_t, nI_clamp (show c < 2 ^ 31 by omega), show i = q by omega]
  | succ d ih =>
    intro i f hi hf
    obtain ⟨f, rfl⟩ : ∃ g, f = g + 1 := ⟨f - 1, by omega⟩
    rw [← ih (i + 1) f (by omega) (by omega), cc29_eq, h7, if_neg (nI_ge (by omega) (by omega)), n_ib_nI (show c < 24 by omega) (by decide), n_chk_t, nI_clamp (show c < 2 ^ 31 by omega), e_has (by omega), Option.bind_some]
    have s2 : h_s2 (fun j => bt (M 129 c) j) a (i + 1) = h_s2 (fun j => bt (M 129 c) j) a i + (if bt (M 129 c) i = true then (if a i = 2 then 1 else 0) else 0) := rfl
    have s0 : h_s0 (fun j => bt (M 129 c) j) a (i + 1) = h_s0 (fun j => bt (M 129 c) j) a i + (if bt (M 129 c) i = true then (if a i = 0 then 0 else 1) else 0) := rfl
    rw [s2, s0]
    cases hb : bt (M 129 c) i with
    | false =>
      rw [if_neg (show ¬ ¬ (cb false : Int32) = 0 by decide), if_neg (show ¬ false = true by decide), if_neg (show ¬ false = true by decide), nI_1]
      rfl
    | true =>
      obtain ⟨p1, p2⟩ := hpa i (by omega) hb
      rw [if_pos (show ¬ (cb true : Int32) = 0 by decide), if_pos (show true = true from rfl), if_pos (show true = true from rfl), n_ib_nI (show i < 12 by omega) (by decide), n_chk_t, nI_clamp (show i < 2 ^ 31 by omega), cc71_eq, cc71_eq, n_ib_nI (show i < 12 by omega) (by decide), n_chk_t, n_chk_t, nI_clamp (show i < 2 ^ 31 by omega), nI_1, nI_1, nI_1]
      show (if ¬ (M 142 i) = (2 : Int32) then (if (M 142 i) ≤ 0 then _ else _) else (if (M 142 i) ≤ 0 then _ else _)) = _
      rw [p1]
      rcases (show a i = 0 ∨ a i = 1 ∨ a i = 2 by omega) with z | z | z
      · rw [z, if_pos (show ¬ nI 0 = (2 : Int32) by decide), if_pos (show nI 0 ≤ (0 : Int32) by decide)]
        rfl
      · rw [z, if_pos (show ¬ nI 1 = (2 : Int32) by decide), if_neg (show ¬ nI 1 ≤ (0 : Int32) by decide)]
        rfl
      · rw [z, if_neg (show ¬ ¬ nI 2 = (2 : Int32) by decide), if_neg (show ¬ nI 2 ≤ (0 : Int32) by decide)]
        rfl
/-- the parents, as both know them -/
def h_pa (q : Nat) (F S : Nat → Nat) (M : nM) : Prop := (∀ c, c < 12 → ∀ t, bt (M 129 c) t = true ↔ (t = F c ∨ t = S c) ∧ t < q) ∧ ∀ c, F c = S c → q ≤ F c
theorem c_cbc {N q c : Nat} {F S a : Nat → Nat} {M : nM} (hN : 1000 ≤ N) (hq : q ≤ 12) (h7 : M 107 7 = nI q) (hP : h_pa q F S M) (hc : c < q) (hpa : ∀ j, j < q → bt (M 129 c) j = true → M 142 j = nI (a j) ∧ a j ≤ 2) (hca : M 142 c = nI (a c) ∧ a c ≤ 2) : fX12_canBeChild N (nI c) M = some (cb (h_h q F S a c), M) := by
  obtain ⟨hP1, hP2⟩ := hP
  have hb := hP1 c (by omega)
  have hFS := hP2 c
  obtain ⟨w, w1, w2, w3⟩ : ∃ w, w < 4096 ∧ nI w = M 129 c ∧ ∀ u, u < 12 → w.testBit u = bt (M 129 c) u := by
    have hlt : (M 129 c).toBitVec.toNat < 4096 := by
      refine Nat.lt_pow_two_of_testBit (n := 12) _ fun i hi => ?_
      cases e : (M 129 c).toBitVec.toNat.testBit i with
      | false => rfl
      | true =>
        have : bt (M 129 c) i = true := by
          show (M 129 c).toBitVec.getLsbD i = true
          rw [BitVec.getLsbD]
          exact e
        have := ((hb i).mp this).2
        omega
    refine ⟨_, hlt, b_ext fun i hi => ?_, fun u _ => rfl⟩
    rw [b_nat hi]
    rfl
  have hz : ∀ f : Nat → Nat, sN (fun j => if bt (M 129 c) j = true then f j else 0) q = (if F c < q then f (F c) else 0) + (if S c < q then f (S c) else 0) := fun f => by
    rw [← sN_two (q := q) (x := F c) (y := S c) (h := f) hFS]
    refine sN_c q fun j hj => ?_
    by_cases e : bt (M 129 c) j = true
    · rw [if_pos e, if_pos ((hb j).mp e).1]
    · rw [if_neg e, if_neg (fun z => e ((hb j).mpr ⟨z, hj⟩))]
  have hv3 : ∀ p, p < q → bt (M 129 c) p = true → h_v q a p = a p := fun p hp hbp => by
    have := (hpa p hp hbp).2
    unfold h_v
    rw [if_pos hp, if_neg (by omega)]
  have hvF : F c < q → h_v q a (F c) = a (F c) := fun hl => hv3 _ hl ((hb _).mpr ⟨Or.inl rfl, hl⟩)
  have hvS : S c < q → h_v q a (S c) = a (S c) := fun hl => hv3 _ hl ((hb _).mpr ⟨Or.inr rfl, hl⟩)
  have hvn : ∀ p, ¬ p < q → h_v q a p = 1 := fun p hp => if_neg hp
  have hhe : h_h q F S a c = h_hh (a c) (h_v q a (F c)) (h_v q a (S c)) := if_neg (by omega)
  unfold fX12_canBeChild
  rw [n_ib_nI (show c < 24 by omega) (by decide), n_chk_t, n_chk_t, nI_clamp (show c < 2 ^ 31 by omega), ← w2, hhe]
  by_cases hw0 : w = 0
  · subst hw0
    have nob : ∀ u, u < 12 → bt (M 129 c) u = false := fun u hu => by rw [← w3 u hu, Nat.zero_testBit]
    have hF : ¬ F c < q := fun hl => by
      have := (hb (F c)).mpr ⟨Or.inl rfl, hl⟩
      rw [nob _ (by omega)] at this
      exact absurd this (by decide)
    have hS : ¬ S c < q := fun hl => by
      have := (hb (S c)).mpr ⟨Or.inr rfl, hl⟩
      rw [nob _ (by omega)] at this
      exact absurd this (by decide)
    rw [if_neg (show ¬ ¬ nI 0 = (0 : Int32) by decide), hvn _ hF, hvn _ hS]
    have := hca.2
    rcases (show a c = 0 ∨ a c = 1 ∨ a c = 2 by omega) with z | z | z <;> rw [z] <;> rfl
  · rw [if_pos (nI_ne0 (by omega) (by omega))]
    have hon : fX12_onesOf N (nI w) M = some (nI (h_cb w), M) := by
      have := c_on12 (N := N) (M := M) 12 0 w N w1 (h_oz_t w w1) (by omega)
      rw [h_on_t w w1] at this
      exact this
    have hcn : h_cb w = (if F c < q then 1 else 0) + (if S c < q then 1 else 0) := by
      rw [← hz (fun _ => 1)]
      have e1 : h_cb w = sN (fun j => if bt (M 129 c) j = true then 1 else 0) 12 := sN_c 12 fun u hu => by rw [w3 u hu]
      rw [e1]
      have ext : ∀ d, sN (fun j => if bt (M 129 c) j = true then 1 else 0) (q + d) = sN (fun j => if bt (M 129 c) j = true then 1 else 0) q := by
        intro d
        induction d with
        | zero => rfl
        | succ d ih =>
          show sN (fun j => if bt (M 129 c) j = true then 1 else 0) (q + d) + (if bt (M 129 c) (q + d) = true then 1 else 0) = _
          rw [ih, if_neg (fun z => by have := ((hb _).mp z).2; omega)]
          rfl
      have := ext (12 - q)
      rw [show q + (12 - q) = 12 by omega] at this
      exact this
    have hle2 : h_cb w ≤ 2 := by
      rw [hcn]
      split <;> split <;> omega
    rw [hon, Option.bind_some]
    show fX12_canBeChild_29 N N (nI c) (0 : Int32) ((2 : Int32) - nI (h_cb w)) (0 : Int32) M = _
    rw [show (2 : Int32) - nI (h_cb w) = nI (2 - h_cb w) from pk_sub (a := 2) hle2]
    refine (show fX12_canBeChild_29 N N (nI c) (nI (h_s2 (fun j => bt (M 129 c) j) a 0)) (nI ((2 - h_cb w) + h_s0 (fun j => bt (M 129 c) j) a 0)) (nI 0) M = _ from c_cc29 (e := 2 - h_cb w) hq h7 (by omega) hpa q 0 N (by omega) (by omega)).trans ?_
    have hs2 : h_s2 (fun j => bt (M 129 c) j) a q = (if h_v q a (F c) = 2 then 1 else 0) + (if h_v q a (S c) = 2 then 1 else 0) := by
      unfold h_s2
      rw [hz (fun j => if a j = 2 then 1 else 0)]
      have one : ∀ p, (p < q → h_v q a p = a p) → (if p < q then (if a p = 2 then 1 else 0) else 0) = if h_v q a p = 2 then 1 else 0 := fun p hp => by
        by_cases z : p < q
        · rw [if_pos z, hp z]
        · rw [if_neg z, hvn p z]; rfl
      rw [one _ hvF, one _ hvS]
    have hs0 : (2 - h_cb w) + h_s0 (fun j => bt (M 129 c) j) a q = (if h_v q a (F c) = 0 then 0 else 1) + (if h_v q a (S c) = 0 then 0 else 1) := by
      unfold h_s0
      rw [hz (fun j => if a j = 0 then 0 else 1), hcn]
      by_cases z1 : F c < q
      · by_cases z2 : S c < q
        · rw [if_pos z1, if_pos z2, if_pos z1, if_pos z2, hvF z1, hvS z2]
          omega
        · rw [if_pos z1, if_neg z2, if_pos z1, if_neg z2, hvF z1, hvn _ z2, if_neg (show ¬ 1 = 0 by decide)]
          omega
      · by_cases z2 : S c < q
        · rw [if_neg z1, if_pos z2, if_neg z1, if_pos z2, hvS z2, hvn _ z1, if_neg (show ¬ 1 = 0 by decide)]
          omega
        · rw [if_neg z1, if_neg z2, if_neg z1, if_neg z2, hvn _ z1, hvn _ z2, if_neg (show ¬ 1 = 0 by decide)]
    rw [hs2, hs0, hca.1, e_isIn, Option.bind_some]
    have l2 : (if h_v q a (F c) = 2 then 1 else 0) + (if h_v q a (S c) = 2 then 1 else 0) ≤ 2 := by split <;> split <;> omega
    have l0 : (if h_v q a (F c) = 0 then 0 else 1) + (if h_v q a (S c) = 0 then 0 else 1) ≤ 2 := by split <;> split <;> omega
    have hw : wi (nI (a c)) (nI ((if h_v q a (F c) = 2 then 1 else 0) + (if h_v q a (S c) = 2 then 1 else 0))) (nI ((if h_v q a (F c) = 0 then 0 else 1) + (if h_v q a (S c) = 0 then 0 else 1))) = h_hh (a c) (h_v q a (F c)) (h_v q a (S c)) := by
      unfold h_hh
      have := hca.2
      have k : ∀ lo, lo < 3 → ∀ hi, hi < 3 → ∀ m, m < 3 → wi (nI m) (nI lo) (nI hi) = (decide (lo ≤ m) && decide (m ≤ hi)) := by decide +kernel
      exact k _ (by omega) _ (by omega) _ (by omega)
    rw [hw]
    cases h_hh (a c) (h_v q a (F c)) (h_v q a (S c)) <;> rfl
