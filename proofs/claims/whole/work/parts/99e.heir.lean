/-! ===== heir: the model goes through the tree ===== -/
abbrev hA : Type := Nat × Bool × Bool × Bool
def h_lo (s : hA) : Int32 := if s.2.1 = true then 0 else if s.2.2.1 = true then 1 else if s.2.2.2 = true then 2 else 100000000
def h_hi (s : hA) : Int32 := if s.2.2.2 = true then 2 else if s.2.2.1 = true then 1 else if s.2.1 = true then 0 else -1
def h_st (x : Nat) (s : hA) (a : Nat → Nat) : hA := if x < 12 then (s.1 + 1, s.2.1 || decide (a x = 0), s.2.2.1 || decide (a x = 1), s.2.2.2 || decide (a x = 2)) else (s.1 + 1, s.2)
theorem h_lg (M : nM) : ∀ (s : hA) (v : Nat), v ≤ 2 → fX12_lesser (h_lo s) (nI v) M = some (h_lo (s.1 + 1, s.2.1 || decide (v = 0), s.2.2.1 || decide (v = 1), s.2.2.2 || decide (v = 2)), M) ∧ fX12_greater (h_hi s) (nI v) M = some (h_hi (s.1 + 1, s.2.1 || decide (v = 0), s.2.2.1 || decide (v = 1), s.2.2.2 || decide (v = 2)), M) := by
  rintro ⟨c, b0, b1, b2⟩ v hv
  rcases (show v = 0 ∨ v = 1 ∨ v = 2 by omega) with rfl | rfl | rfl <;> cases b0 <;> cases b1 <;> cases b2 <;> exact ⟨rfl, rfl⟩
def h_tf (st : hA → (Nat → Nat) → hA) (H : Nat → (Nat → Nat) → Bool) : Nat → Nat → (Nat → Nat) → hA → hA
  | 0, _, a, s => st s a
  | d + 1, k, a, s =>
    let go := fun (v : Nat) (s : hA) => if H k (f_up a k v) = true then h_tf st H d (k + 1) (f_up a k v) s else s
    go 2 (go 1 (go 0 s))
def h_go (st : hA → (Nat → Nat) → hA) (H : Nat → (Nat → Nat) → Bool) (d k : Nat) (a : Nat → Nat) (v : Nat) (s : hA) : hA := if H k (f_up a k v) = true then h_tf st H d (k + 1) (f_up a k v) s else s
theorem h_tf_s {st : hA → (Nat → Nat) → hA} {H : Nat → (Nat → Nat) → Bool} {d k : Nat} {a : Nat → Nat} {s : hA} : h_tf st H (d + 1) k a s = h_go st H d k a 2 (h_go st H d k a 1 (h_go st H d k a 0 s)) := rfl
/-- the model's memory while it looks -/
def h_R (D M : nM) (k : Nat) (a : Nat → Nat) (s : hA) : Prop := (∀ e, e ≠ 107 → e ≠ 142 → M e = D e) ∧ (∀ i, i ≠ 60 → i ≠ 61 → i ≠ 62 → M 107 i = D 107 i) ∧ (∀ j, j < k → M 142 j = nI (a j) ∧ a j ≤ 2) ∧ M 107 60 = nI s.1 ∧ M 107 61 = h_lo s ∧ M 107 62 = h_hi s
theorem m48_eq (N f : Nat) (x1 x2 : Int32) (M : nM) : fX12_findsMarks_48 N (f + 1) x1 x2 M = if x2 < 0 then some ((), M) else n_chk (n_ib 12 x2) (n_chk (n_ib 12 x2) (n_chk (n_ib 12 x2) (if (n_up M 142 x2.toNatClampNeg ((M 142 x2.toNatClampNeg) + (1 : Int32)) 142 x2.toNatClampNeg) ≤ (2 : Int32) then (fX12_canHave N x2 (n_up M 142 x2.toNatClampNeg ((M 142 x2.toNatClampNeg) + (1 : Int32)))).bind fun p2 => if p2.1 = 0 then fX12_findsMarks_115 N (fun x1 x2 M => fX12_findsMarks_48 N f x1 x2 M) x1 x2 p2.2 else if ((p2.2 107 7) - (1 : Int32)) ≤ x2 then fX12_findsMarks_115 N (fun x1 x2 M => fX12_findsMarks_48 N f x1 x2 M) x1 x2 p2.2 else n_chk (n_ib 12 (x2 + (1 : Int32))) (fX12_findsMarks_48 N f x1 (x2 + (1 : Int32)) (n_up p2.2 142 (x2 + (1 : Int32)).toNatClampNeg (-1 : Int32))) else fX12_findsMarks_48 N f x1 (x2 - (1 : Int32)) (n_up M 142 x2.toNatClampNeg ((M 142 x2.toNatClampNeg) + (1 : Int32)))))) := rfl
theorem m115_eq (N : Nat) (k48 : Int32 → Int32 → nM → Option (Unit × nM)) (x1 x2 : Int32) (M : nM) : fX12_findsMarks_115 N k48 x1 x2 M = if ¬ x2 = ((M 107 7) - (1 : Int32)) then k48 x1 x2 M else (fX12_canHave N x2 M).bind fun p1 => if p1.1 = 0 then k48 x1 x2 p1.2 else if ¬ x1 = (-1 : Int32) then n_chk (n_ib 12 x1) ((fX12_lesser (n_up p1.2 107 60 ((p1.2 107 60) + (1 : Int32)) 107 61) (n_up p1.2 107 60 ((p1.2 107 60) + (1 : Int32)) 142 x1.toNatClampNeg) (n_up p1.2 107 60 ((p1.2 107 60) + (1 : Int32)))).bind fun p3 => n_chk (n_ib 12 x1) ((fX12_greater (n_up p3.2 107 61 p3.1 107 62) (n_up p3.2 107 61 p3.1 142 x1.toNatClampNeg) (n_up p3.2 107 61 p3.1)).bind fun p5 => k48 x1 x2 (n_up p5.2 107 62 p5.1))) else k48 x1 x2 (n_up p1.2 107 60 ((p1.2 107 60) + (1 : Int32))) := rfl
/-- one mark of one person -/
theorem c_m1 {N q k d x v f : Nat} {F S a jg : Nat → Nat} {D M : nM} {x1 : Int32} {s : hA} (hN : 1000 ≤ N) (hq : q ≤ 12) (h7 : D 107 7 = nI q) (hP : h_pa q F S D) (hj : ∀ k, k < 12 → jg k < 3 ∧ D 141 k = nI (jg k) - 2) (hkd : k + (d + 1) = q) (hx : (x1 = -1 ∧ x = 12) ∨ (x < q ∧ x1 = nI x)) (hv : v ≤ 2) (hR : h_R D M k a s) (hM : M 142 k = nI v - 1) (hB : 0 < d → ∀ (f : Nat) (a : Nat → Nat) (s : hA) (M : nM), h_R D M (k + 1) a s → M 142 (k + 1) = -1 → 2 * 3 ^ d - 2 ≤ f → ∃ (f' : Nat) (M' : nM), h_R D M' (k + 1) a (h_tf (h_st x) (h_H q F S (h_al jg)) d (k + 1) a s) ∧ f ≤ f' + (2 * 3 ^ d - 2) ∧ fX12_findsMarks_48 N f x1 (nI (k + 1)) M = fX12_findsMarks_48 N f' x1 (nI (k + 1) - 1) M') (hf : 1 + (2 * 3 ^ d - 2) ≤ f) : ∃ (f' : Nat) (M' : nM), h_R D M' k a (h_go (h_st x) (h_H q F S (h_al jg)) d k a v s) ∧ M' 142 k = nI v ∧ f ≤ f' + 1 + (2 * 3 ^ d - 2) ∧ fX12_findsMarks_48 N f x1 (nI k) M = fX12_findsMarks_48 N f' x1 (nI k) M' := by
  obtain ⟨f, rfl⟩ : ∃ g, f = g + 1 := ⟨f - 1, by omega⟩
  obtain ⟨r1, r2, r3, r4, r5, r6⟩ := hR
  have hk : k < q := by omega
  have hv1 : M 142 k + (1 : Int32) = nI v := by rw [hM]; exact Int32.sub_add_cancel _ _
  obtain ⟨M1, hM1⟩ : ∃ M1, M1 = n_up M 142 k (M 142 k + (1 : Int32)) := ⟨_, rfl⟩
  have o1 : ∀ e, e ≠ 142 → M1 e = M e := fun e he => by rw [hM1, n_up_ne he]
  have m1k : M1 142 k = nI v := by rw [hM1, n_up_eq, upd_eq, hv1]
  have m1j : ∀ j, j < k → M1 142 j = nI (a j) ∧ a j ≤ 2 := fun j hj' => by
    rw [hM1, n_up_eq, upd_ne (by omega)]
    exact r3 j hj'
  have ha1 : ∀ j, j ≤ k → M1 142 j = nI (f_up a k v j) ∧ f_up a k v j ≤ 2 := fun j hj' => by
    by_cases e : j = k
    · subst e; rw [f_up_e]; exact ⟨m1k, hv⟩
    · rw [f_up_n e]; exact m1j j (by omega)
  have h7M : M 107 7 = nI q := by rw [r2 7 (by decide) (by decide) (by decide)]; exact h7
  have hch : fX12_canHave N (nI k) M1 = some (cb (h_H q F S (h_al jg) k (f_up a k v)), M1) := c_ch (N := N) (jg := jg) hN hq (by rw [o1 107 (by decide)]; exact h7M) (by
    unfold h_pa
    rw [o1 129 (by decide), r1 129 (by decide) (by decide)]
    exact hP) (by rw [o1 141 (by decide), r1 141 (by decide) (by decide)]; exact hj) hk ha1
  have hR1 : h_R D M1 k a s := ⟨fun e e1 e2 => by rw [o1 e e2]; exact r1 e e1 e2, fun i i1 i2 i3 => by rw [o1 107 (by decide)]; exact r2 i i1 i2 i3, m1j, by rw [o1 107 (by decide)]; exact r4, by rw [o1 107 (by decide)]; exact r5, by rw [o1 107 (by decide)]; exact r6⟩
  have h7M1 : M1 107 7 = nI q := by rw [o1 107 (by decide)]; exact h7M
  have hq1 : nI q - (1 : Int32) = nI (q - 1) := pk_sub (b := 1) (by omega)
  have e0 : fX12_findsMarks_48 N (f + 1) x1 (nI k) M = (fX12_canHave N (nI k) M1).bind fun p2 => if p2.1 = 0 then fX12_findsMarks_115 N (fun x1 x2 M => fX12_findsMarks_48 N f x1 x2 M) x1 (nI k) p2.2 else if ((p2.2 107 7) - (1 : Int32)) ≤ nI k then fX12_findsMarks_115 N (fun x1 x2 M => fX12_findsMarks_48 N f x1 x2 M) x1 (nI k) p2.2 else n_chk (n_ib 12 (nI k + (1 : Int32))) (fX12_findsMarks_48 N f x1 (nI k + (1 : Int32)) (n_up p2.2 142 (nI k + (1 : Int32)).toNatClampNeg (-1 : Int32))) := by
    rw [m48_eq, if_neg (nI_pos (by omega)), n_ib_nI (show k < 12 by omega) (by decide), n_chk_t, n_chk_t, n_chk_t, nI_clamp (show k < 2 ^ 31 by omega), ← hM1, m1k, if_pos (show nI v ≤ (2 : Int32) from nI_le (b := 2) hv (by decide))]
  rw [e0, hch, Option.bind_some]
  unfold h_go
  cases hH : h_H q F S (h_al jg) k (f_up a k v) with
  | false =>
    rw [if_pos (show (cb false : Int32) = 0 from rfl), if_neg (show ¬ false = true by decide)]
    refine ⟨f, M1, hR1, m1k, by omega, ?_⟩
    show fX12_findsMarks_115 N (fun x1 x2 M => fX12_findsMarks_48 N f x1 x2 M) x1 (nI k) M1 = _
    rw [m115_eq, h7M1]
    by_cases z : ¬ nI k = nI q - (1 : Int32)
    · rw [if_pos z]
    · rw [if_neg z, hch, Option.bind_some, hH]
      exact if_pos rfl
  | true =>
    rw [if_neg (show ¬ (cb true : Int32) = 0 by decide), if_pos (show true = true from rfl)]
    show ∃ (f' : Nat) (M' : nM), _ ∧ _ ∧ _ ∧ (if ((M1 107 7) - (1 : Int32)) ≤ nI k then _ else _) = _
    rw [h7M1, hq1]
    by_cases hd : d = 0
    · subst hd
      rw [if_pos (nI_le (by omega) (by omega))]
      show ∃ (f' : Nat) (M' : nM), _ ∧ _ ∧ _ ∧ fX12_findsMarks_115 N (fun x1 x2 M => fX12_findsMarks_48 N f x1 x2 M) x1 (nI k) M1 = _
      rw [m115_eq, h7M1, hq1, if_neg (not_not_intro (show nI k = nI (q - 1) by rw [show k = q - 1 by omega])), hch, Option.bind_some, hH, if_neg (show ¬ (cb true : Int32) = 0 by decide)]
      obtain ⟨M2, hM2⟩ : ∃ M2, M2 = n_up M1 107 60 ((M1 107 60) + (1 : Int32)) := ⟨_, rfl⟩
      have o2 : ∀ e, e ≠ 107 → M2 e = M1 e := fun e he => by rw [hM2, n_up_ne he]
      have p2 : ∀ i, i ≠ 60 → M2 107 i = M1 107 i := fun i hi => by rw [hM2, n_up_eq, upd_ne hi]
      have c2 : M2 107 60 = nI (s.1 + 1) := by rw [hM2, n_up_eq, upd_eq, hR1.2.2.2.1, nI_1]
      show ∃ (f' : Nat) (M' : nM), h_R D M' k a (h_st x s (f_up a k v)) ∧ _ ∧ _ ∧ (if ¬ x1 = (-1 : Int32) then n_chk (n_ib 12 x1) ((fX12_lesser (n_up M1 107 60 ((M1 107 60) + (1 : Int32)) 107 61) (n_up M1 107 60 ((M1 107 60) + (1 : Int32)) 142 x1.toNatClampNeg) (n_up M1 107 60 ((M1 107 60) + (1 : Int32)))).bind fun p3 => n_chk (n_ib 12 x1) ((fX12_greater (n_up p3.2 107 61 p3.1 107 62) (n_up p3.2 107 61 p3.1 142 x1.toNatClampNeg) (n_up p3.2 107 61 p3.1)).bind fun p5 => fX12_findsMarks_48 N f x1 (nI k) (n_up p5.2 107 62 p5.1))) else fX12_findsMarks_48 N f x1 (nI k) (n_up M1 107 60 ((M1 107 60) + (1 : Int32)))) = _
      rw [← hM2]
      rcases hx with ⟨e1, e2⟩ | ⟨x2, e2⟩
      · rw [if_neg (not_not_intro e1)]
        have hst : h_st x s (f_up a k v) = (s.1 + 1, s.2) := if_neg (by omega)
        rw [hst]
        refine ⟨f, M2, ⟨fun e i1 i2 => by rw [o2 e i1]; exact hR1.1 e i1 i2, fun i i1 i2 i3 => by rw [p2 i i1]; exact hR1.2.1 i i1 i2 i3, fun j hj' => by rw [o2 142 (by decide)]; exact m1j j hj', c2, by rw [p2 61 (by decide)]; exact hR1.2.2.2.2.1, by rw [p2 62 (by decide)]; exact hR1.2.2.2.2.2⟩, by rw [o2 142 (by decide)]; exact m1k, by omega, rfl⟩
      · have hxk := ha1 x (by omega)
        obtain ⟨g1, g2⟩ := h_lg M2 s (f_up a k v x) hxk.2
        have hst : h_st x s (f_up a k v) = (s.1 + 1, s.2.1 || decide (f_up a k v x = 0), s.2.2.1 || decide (f_up a k v x = 1), s.2.2.2 || decide (f_up a k v x = 2)) := if_pos (by omega)
        rw [e2, if_pos (nI_nm1 (by omega)), n_ib_nI (show x < 12 by omega) (by decide), n_chk_t, nI_clamp (show x < 2 ^ 31 by omega), p2 61 (by decide), hR1.2.2.2.2.1, o2 142 (by decide), hxk.1, g1, Option.bind_some]
        obtain ⟨s', hs'⟩ : ∃ s' : hA, s' = (s.1 + 1, s.2.1 || decide (f_up a k v x = 0), s.2.2.1 || decide (f_up a k v x = 1), s.2.2.2 || decide (f_up a k v x = 2)) := ⟨_, rfl⟩
        have hc' : s'.1 = s.1 + 1 := by rw [hs']
        rw [← hs'] at hst ⊢
        obtain ⟨M4, hM4⟩ : ∃ M4, M4 = n_up M2 107 61 (h_lo s') := ⟨_, rfl⟩
        obtain ⟨-, g4⟩ := h_lg M4 s (f_up a k v x) hxk.2
        rw [← hs'] at g4
        have o4 : ∀ e, e ≠ 107 → M4 e = M2 e := fun e he => by rw [hM4, n_up_ne he]
        have p4 : ∀ i, i ≠ 61 → M4 107 i = M2 107 i := fun i hi => by rw [hM4, n_up_eq, upd_ne hi]
        show ∃ (f' : Nat) (M' : nM), _ ∧ _ ∧ _ ∧ n_chk true ((fX12_greater (n_up M2 107 61 (h_lo s') 107 62) (n_up M2 107 61 (h_lo s') 142 x) (n_up M2 107 61 (h_lo s'))).bind _) = _
        rw [← hM4, n_chk_t, p4 62 (by decide), p2 62 (by decide), hR1.2.2.2.2.2, o4 142 (by decide), o2 142 (by decide), hxk.1, g4, Option.bind_some, hst]
        refine ⟨f, n_up M4 107 62 (h_hi s'), ⟨fun e i1 i2 => by rw [n_up_ne i1, o4 e i1, o2 e i1]; exact hR1.1 e i1 i2, fun i i1 i2 i3 => by rw [n_up_eq, upd_ne i3, p4 i i2, p2 i i1]; exact hR1.2.1 i i1 i2 i3, fun j hj' => by rw [n_up_ne (by decide), o4 142 (by decide), o2 142 (by decide)]; exact m1j j hj', by rw [n_up_eq, upd_ne (by decide), p4 60 (by decide), hc']; exact c2, by rw [n_up_eq, upd_ne (by decide), hM4, n_up_eq, upd_eq], by rw [n_up_eq, upd_eq]⟩, by rw [n_up_ne (by decide), o4 142 (by decide), o2 142 (by decide)]; exact m1k, by omega, rfl⟩
    · rw [if_neg (nI_ge (by omega) (by omega)), nI_1, n_ib_nI (show k + 1 < 12 by omega) (by decide), n_chk_t, nI_clamp (show k + 1 < 2 ^ 31 by omega)]
      show ∃ (f' : Nat) (M' : nM), _ ∧ _ ∧ _ ∧ fX12_findsMarks_48 N f x1 (nI (k + 1)) (n_up M1 142 (k + 1) (-1 : Int32)) = _
      obtain ⟨f', M', b1, b2, b3⟩ := hB (by omega) f (f_up a k v) s (n_up M1 142 (k + 1) (-1 : Int32)) ⟨fun e i1 i2 => by rw [n_up_ne i2]; exact hR1.1 e i1 i2, fun i i1 i2 i3 => by rw [n_up_ne (by decide)]; exact hR1.2.1 i i1 i2 i3, fun j hj' => by rw [n_up_eq, upd_ne (by omega)]; exact ha1 j (by omega), by rw [n_up_ne (by decide)]; exact hR1.2.2.2.1, by rw [n_up_ne (by decide)]; exact hR1.2.2.2.2.1, by rw [n_up_ne (by decide)]; exact hR1.2.2.2.2.2⟩ (by rw [n_up_eq, upd_eq]) (by omega)
      rw [nI_pred] at b3
      refine ⟨f', M', ⟨b1.1, b1.2.1, fun j hj' => ?_, b1.2.2.2⟩, ?_, by omega, b3⟩
      · have := b1.2.2.1 j (by omega)
        rw [f_up_n (by omega)] at this
        exact this
      · have := (b1.2.2.1 k (by omega)).1
        rw [f_up_e] at this
        exact this
theorem c_m48 {N q x : Nat} {F S jg : Nat → Nat} {D : nM} {x1 : Int32} (hN : 1000 ≤ N) (hq : q ≤ 12) (h7 : D 107 7 = nI q) (hP : h_pa q F S D) (hj : ∀ k, k < 12 → jg k < 3 ∧ D 141 k = nI (jg k) - 2) (hx : (x1 = -1 ∧ x = 12) ∨ (x < q ∧ x1 = nI x)) : ∀ (d k : Nat), k + d = q → 0 < d → ∀ (f : Nat) (a : Nat → Nat) (s : hA) (M : nM), h_R D M k a s → M 142 k = -1 → 2 * 3 ^ d - 2 ≤ f → ∃ (f' : Nat) (M' : nM), h_R D M' k a (h_tf (h_st x) (h_H q F S (h_al jg)) d k a s) ∧ f ≤ f' + (2 * 3 ^ d - 2) ∧ fX12_findsMarks_48 N f x1 (nI k) M = fX12_findsMarks_48 N f' x1 (nI k - 1) M' := by
  intro d
  induction d with
  | zero => intro k _ h0; exact absurd h0 (by decide)
  | succ d ih =>
    intro k hkd _ f a s M hR hM hf
    have hpow : 3 ^ (d + 1) = 3 * 3 ^ d := by rw [Nat.pow_succ, Nat.mul_comm]
    have hpos : 0 < 3 ^ d := Nat.pow_pos (by decide)
    rw [hpow] at hf ⊢
    have hB : 0 < d → ∀ (f : Nat) (a : Nat → Nat) (s : hA) (M : nM), h_R D M (k + 1) a s → M 142 (k + 1) = -1 → 2 * 3 ^ d - 2 ≤ f → ∃ (f' : Nat) (M' : nM), h_R D M' (k + 1) a (h_tf (h_st x) (h_H q F S (h_al jg)) d (k + 1) a s) ∧ f ≤ f' + (2 * 3 ^ d - 2) ∧ fX12_findsMarks_48 N f x1 (nI (k + 1)) M = fX12_findsMarks_48 N f' x1 (nI (k + 1) - 1) M' := fun h0 => ih (k + 1) (by omega) h0
    obtain ⟨f1, M1, a1, a2, a3, a4⟩ := c_m1 (v := 0) (f := f) hN hq h7 hP hj hkd hx (by decide) hR (by rw [hM]; decide) hB (by omega)
    obtain ⟨f2, M2, b1, b2, b3, b4⟩ := c_m1 (v := 1) (f := f1) hN hq h7 hP hj hkd hx (by decide) a1 (by rw [a2]; decide) hB (by omega)
    obtain ⟨f3, M3, c1, c2, c3, c4⟩ := c_m1 (v := 2) (f := f2) hN hq h7 hP hj hkd hx (by decide) b1 (by rw [b2]; decide) hB (by omega)
    obtain ⟨f3, rfl⟩ : ∃ g, f3 = g + 1 := ⟨f3 - 1, by omega⟩
    refine ⟨f3, n_up M3 142 k (M3 142 k + (1 : Int32)), ?_, by omega, ?_⟩
    · rw [h_tf_s]
      exact ⟨fun e i1 i2 => by rw [n_up_ne i2]; exact c1.1 e i1 i2, fun i i1 i2 i3 => by rw [n_up_ne (by decide)]; exact c1.2.1 i i1 i2 i3, fun j hj' => by rw [n_up_eq, upd_ne (by omega)]; exact c1.2.2.1 j hj', by rw [n_up_ne (by decide)]; exact c1.2.2.2.1, by rw [n_up_ne (by decide)]; exact c1.2.2.2.2.1, by rw [n_up_ne (by decide)]; exact c1.2.2.2.2.2⟩
    · rw [a4, b4, c4, m48_eq, if_neg (nI_pos (by omega)), n_ib_nI (show k < 12 by omega) (by decide), n_chk_t, n_chk_t, n_chk_t, nI_clamp (show k < 2 ^ 31 by omega), if_neg (show ¬ (n_up M3 142 k (M3 142 k + (1 : Int32)) 142 k) ≤ (2 : Int32) by rw [n_up_eq, upd_eq, c2]; decide)]
