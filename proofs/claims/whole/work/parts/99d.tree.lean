/-! ===== heir: what the model lets one have ===== -/
def h_cd (q : Nat) (F S : Nat → Nat) (k c : Nat) : Bool := decide ((F c < q → F c ≤ k) ∧ (S c < q → S c ≤ k)) && decide (c = k ∨ F c = k ∨ S c = k)
def h_H (q : Nat) (F S : Nat → Nat) (al : Nat → Nat → Bool) (k : Nat) (a : Nat → Nat) : Bool := al k (a k) && (List.range (k + 1)).all (fun c => !h_cd q F S k c || h_h q F S a c)
theorem h_H_t {q k : Nat} {F S a : Nat → Nat} {al : Nat → Nat → Bool} : h_H q F S al k a = true ↔ al k (a k) = true ∧ ∀ c, c ≤ k → h_cd q F S k c = true → h_h q F S a c = true := by
  unfold h_H
  rw [Bool.and_eq_true, List.all_eq_true]
  constructor
  · rintro ⟨h1, h2⟩
    refine ⟨h1, fun c hc hd => ?_⟩
    have := h2 c (List.mem_range.mpr (by omega))
    rw [hd] at this
    exact this
  · rintro ⟨h1, h2⟩
    refine ⟨h1, fun c hc => ?_⟩
    have hc := List.mem_range.mp hc
    cases e : h_cd q F S k c with
    | false => rfl
    | true => exact h2 c (by omega) e
theorem ch43_eq (N f : Nat) (x1 x2 : Int32) (M : nM) : fX12_canHave_43 N (f + 1) x1 x2 M = if x1 < x2 then some ((1 : Int32), M) else n_chk (n_ib 24 x2) (if ((2 : Int32) <<< (x1 &&& 31)) ≤ (M 129 x2.toNatClampNeg) then fX12_canHave_43 N f x1 (x2 + (1 : Int32)) M else if x2 = x1 then fX12_canHave_79 N (fun x1 x2 M => fX12_canHave_43 N f x1 x2 M) x1 x2 M else n_chk (n_ib 24 x2) ((fX12_has (M 129 x2.toNatClampNeg) x1 M).bind fun p2 => if p2.1 = 0 then fX12_canHave_43 N f x1 (x2 + (1 : Int32)) p2.2 else fX12_canHave_79 N (fun x1 x2 M => fX12_canHave_43 N f x1 x2 M) x1 x2 p2.2)) := rfl
theorem h_sh2 : ∀ k, k < 12 → (2 : Int32) <<< (nI k &&& 31) = nI (2 ^ (k + 1)) := by decide +kernel
theorem h_msk {q k : Nat} {x y : Nat} {s : Int32} (hq : q ≤ 12) (hk : k < 12) (hb : ∀ t, bt s t = true ↔ (t = x ∨ t = y) ∧ t < q) : ((2 : Int32) <<< (nI k &&& 31)) ≤ s ↔ ¬ ((x < q → x ≤ k) ∧ (y < q → y ≤ k)) := by
  have hlt : s.toBitVec.toNat < 4096 := by
    refine Nat.lt_pow_two_of_testBit (n := 12) _ fun i hi => ?_
    cases e : s.toBitVec.toNat.testBit i with
    | false => rfl
    | true =>
      have : bt s i = true := by
        show s.toBitVec.getLsbD i = true
        rw [BitVec.getLsbD]
        exact e
      have := ((hb i).mp this).2
      omega
  have hbt : ∀ u, s.toBitVec.toNat.testBit u = bt s u := fun u => rfl
  have hs : nI s.toBitVec.toNat = s := b_ext fun i hi => by
    rw [b_nat hi]
    rfl
  generalize s.toBitVec.toNat = w at hlt hbt hs
  have hp : 2 ^ (k + 1) ≤ 2 ^ 12 := Nat.pow_le_pow_right (by decide) (by omega)
  rw [h_sh2 k hk, ← hs, nI_leI (by omega) (by omega)]
  constructor
  · intro h z
    have : w < 2 ^ (k + 1) := Nat.lt_pow_two_of_testBit w fun i hi => by
      cases e : w.testBit i with
      | false => rfl
      | true =>
        rw [hbt] at e
        obtain ⟨e1, e2⟩ := (hb i).mp e
        rcases e1 with e1 | e1
        · have := z.1 (by rw [← e1]; exact e2)
          omega
        · have := z.2 (by rw [← e1]; exact e2)
          omega
    omega
  · intro h
    by_cases g : 2 ^ (k + 1) ≤ w
    · exact g
    · exfalso
      refine h ⟨fun hx => ?_, fun hy => ?_⟩
      · by_cases z : x ≤ k
        · exact z
        · have hl : w < 2 ^ x := Nat.lt_of_lt_of_le (by omega) (Nat.pow_le_pow_right (n := 2) (by decide) (show k + 1 ≤ x by omega))
          have := (hb x).mpr ⟨Or.inl rfl, hx⟩
          rw [← hbt, Nat.testBit_lt_two_pow hl] at this
          exact absurd this (by decide)
      · by_cases z : y ≤ k
        · exact z
        · have hl : w < 2 ^ y := Nat.lt_of_lt_of_le (by omega) (Nat.pow_le_pow_right (n := 2) (by decide) (show k + 1 ≤ y by omega))
          have := (hb y).mpr ⟨Or.inr rfl, hy⟩
          rw [← hbt, Nat.testBit_lt_two_pow hl] at this
          exact absurd this (by decide)
theorem c_ch43 {N q k : Nat} {F S a : Nat → Nat} {M : nM} (hN : 1000 ≤ N) (hq : q ≤ 12) (h7 : M 107 7 = nI q) (hP : h_pa q F S M) (hk : k < q) (ha : ∀ j, j ≤ k → M 142 j = nI (a j) ∧ a j ≤ 2) : ∀ (d i f : Nat), i + d = k + 1 → d < f → (∀ c, c < i → h_cd q F S k c = true → h_h q F S a c = true) → fX12_canHave_43 N f (nI k) (nI i) M = some (cb ((List.range (k + 1)).all (fun c => !h_cd q F S k c || h_h q F S a c)), M) := by
  intro d
  induction d with
  | zero =>
    intro i f hi hf hb
    obtain ⟨f, rfl⟩ : ∃ g, f = g + 1 := ⟨f - 1, by omega⟩
    have : (List.range (k + 1)).all (fun c => !h_cd q F S k c || h_h q F S a c) = true := by
      rw [List.all_eq_true]
      intro c hc
      have hc := List.mem_range.mp hc
      cases e : h_cd q F S k c with
      | false => rfl
      | true => exact hb c (by omega) e
    rw [ch43_eq, if_pos (nI_lt (by omega) (by omega)), this]
    rfl
  | succ d ih =>
    intro i f hi hf hb
    obtain ⟨f, rfl⟩ : ∃ g, f = g + 1 := ⟨f - 1, by omega⟩
    have hbm := hP.1 i (by omega)
    have hm := h_msk (k := k) hq (by omega) hbm
    have skip : h_cd q F S k i = false → fX12_canHave_43 N f (nI k) (nI (i + 1)) M = some (cb ((List.range (k + 1)).all (fun c => !h_cd q F S k c || h_h q F S a c)), M) := fun e => ih (i + 1) f (by omega) (by omega) (fun c hc hcd => by
      by_cases z : c = i
      · rw [z, e] at hcd; exact absurd hcd (by decide)
      · exact hb c (by omega) hcd)
    rw [ch43_eq, if_neg (nI_nlt (by omega) (by omega)), n_ib_nI (show i < 24 by omega) (by decide), n_chk_t, n_chk_t, nI_clamp (show i < 2 ^ 31 by omega), nI_1]
    by_cases c0 : (F i < q → F i ≤ k) ∧ (S i < q → S i ≤ k)
    · rw [if_neg (fun z => (hm.mp z) c0)]
      have hbi : ∀ j, bt (M 129 i) j = true → j ≤ k := fun j hj => by
        obtain ⟨e1, e2⟩ := (hbm j).mp hj
        rcases e1 with e1 | e1
        · rw [e1]; exact c0.1 (by rw [← e1]; exact e2)
        · rw [e1]; exact c0.2 (by rw [← e1]; exact e2)
      have h79 : h_cd q F S k i = true → fX12_canHave_79 N (fun x1 x2 M => fX12_canHave_43 N f x1 x2 M) (nI k) (nI i) M = some (cb ((List.range (k + 1)).all (fun c => !h_cd q F S k c || h_h q F S a c)), M) := fun hcd => by
        have hcb := c_cbc (N := N) (q := q) (c := i) (F := F) (S := S) (a := a) (M := M) hN hq h7 hP (by omega) (fun j _ hj => ha j (hbi j hj)) (ha i (by omega))
        show ((fX12_canBeChild N (nI i) M).bind fun p1 => if ¬ p1.1 = 0 then fX12_canHave_43 N f (nI k) (nI i + (1 : Int32)) p1.2 else some ((0 : Int32), p1.2)) = _
        rw [hcb, Option.bind_some, nI_1]
        cases hh : h_h q F S a i with
        | true =>
          rw [if_pos (show ¬ (cb true : Int32) = 0 by decide)]
          refine ih (i + 1) f (by omega) (by omega) (fun c hc hcd' => ?_)
          by_cases z : c = i
          · rw [z]; exact hh
          · exact hb c (by omega) hcd'
        | false =>
          rw [if_neg (show ¬ ¬ (cb false : Int32) = 0 by decide)]
          have : (List.range (k + 1)).all (fun c => !h_cd q F S k c || h_h q F S a c) = false := by
            rw [Bool.eq_false_iff]
            intro z
            rw [List.all_eq_true] at z
            have := z i (List.mem_range.mpr (by omega))
            rw [hcd, hh] at this
            exact absurd this (by decide)
          rw [this]
          rfl
      by_cases c1 : i = k
      · rw [if_pos (congrArg nI c1)]
        exact h79 (by unfold h_cd; rw [decide_eq_true (show i = k ∨ F i = k ∨ S i = k from Or.inl c1), decide_eq_true c0]; rfl)
      · rw [if_neg (fun z => c1 ((nI_eq (by omega) (by omega)).mp z)), e_has (by omega), Option.bind_some]
        cases hbk : bt (M 129 i) k with
        | false =>
          rw [if_pos (show (cb false : Int32) = 0 from rfl)]
          refine skip ?_
          unfold h_cd
          have : ¬ (i = k ∨ F i = k ∨ S i = k) := fun z => by
            have hz : k = F i ∨ k = S i := by
              rcases z with z | z | z
              · exact absurd z c1
              · exact Or.inl z.symm
              · exact Or.inr z.symm
            have hk2 : bt (M 129 i) k = true := (hbm k).mpr ⟨hz, hk⟩
            rw [hbk] at hk2
            exact absurd hk2 (by decide)
          rw [decide_eq_false this, Bool.and_false]
        | true =>
          rw [if_neg (show ¬ (cb true : Int32) = 0 by decide)]
          refine h79 ?_
          unfold h_cd
          have : i = k ∨ F i = k ∨ S i = k := by
            rcases ((hbm k).mp hbk).1 with z | z
            · exact Or.inr (Or.inl z.symm)
            · exact Or.inr (Or.inr z.symm)
          rw [decide_eq_true this, decide_eq_true c0]
          rfl
    · rw [if_pos (hm.mpr c0)]
      refine skip ?_
      unfold h_cd
      rw [decide_eq_false c0, Bool.false_and]
theorem c_ch {N q k : Nat} {F S a jg : Nat → Nat} {M : nM} (hN : 1000 ≤ N) (hq : q ≤ 12) (h7 : M 107 7 = nI q) (hP : h_pa q F S M) (hj : ∀ k, k < 12 → jg k < 3 ∧ M 141 k = nI (jg k) - 2) (hk : k < q) (ha : ∀ j, j ≤ k → M 142 j = nI (a j) ∧ a j ≤ 2) : fX12_canHave N (nI k) M = some (cb (h_H q F S (h_al jg) k a), M) := by
  have h43 := c_ch43 (N := N) hN hq h7 hP hk ha (k + 1) 0 N (by omega) (by omega) (fun c hc => absurd hc (by omega))
  obtain ⟨j1, j2⟩ := hj k (by omega)
  obtain ⟨a1, a2⟩ := ha k (Nat.le_refl _)
  have h43' : fX12_canHave_43 N N (nI k) (0 : Int32) M = _ := h43
  unfold fX12_canHave fX12_canHave_20 h_H h_al
  rw [n_ib_nI (show k < 12 by omega) (by decide), n_chk_t, n_chk_t, n_chk_t, n_chk_t, nI_clamp (show k < 2 ^ 31 by omega), j2, a1, h43']
  generalize (List.range (k + 1)).all (fun c => !h_cd q F S k c || h_h q F S a c) = B
  rcases (show jg k = 0 ∨ jg k = 1 ∨ jg k = 2 by omega) with z | z | z <;> rcases (show a k = 0 ∨ a k = 1 ∨ a k = 2 by omega) with y | y | y <;> rw [z, y] <;> cases B <;> rfl
