/-! ===== image: the model's row as a whole ===== -/
def k_ix (c k : Nat) : Nat := match c with
  | 108 => k
  | 107 => (match k with
    | 6 => 100
    | 7 => 101
    | 37 => 102
    | 39 => 103
    | 41 => 104
    | 46 => 105
    | 49 => 106
    | 51 => 107
    | 55 => 108
    | 65 => 109
    | 70 => 110
    | _ => 111)
  | 112 => 112 + 4 * k
  | 113 => 113 + 4 * k
  | 133 => 114 + 4 * k
  | 134 => 115 + 4 * k
  | 111 => 176 + 5 * k
  | 114 => 177 + 5 * k
  | 115 => 178 + 5 * k
  | 129 => 179 + 5 * k
  | 141 => 180 + 5 * k
  | 135 => 236 + k
  | 136 => 240 + 2 * k
  | 137 => 241 + 2 * k
  | 139 => 256 + 4 * k
  | 144 => 257 + 4 * k
  | 145 => 258 + 4 * k
  | 146 => 259 + 4 * k
  | 143 => 296 + k
  | 148 => 332 + k
  | 149 => 338 + k
  | 127 => 343 + k
  | 128 => 407 + k
  | 116 => 471 + k
  | 119 => 1071
  | 120 => 1072 + 4 * k
  | 121 => 1073 + 4 * k
  | 122 => 1074 + 4 * k
  | 123 => 1075 + 4 * k
  | 124 => 1136 + 2 * k
  | _ => 1137 + 2 * k
theorem k_iv (I : Nat → Int32) (c k : Nat) : iv I c k = I (k_ix c k) := by
  by_cases h7 : c = 107
  · subst h7
    show (match k with
      | 6 => I 100
      | 7 => I 101
      | 37 => I 102
      | 39 => I 103
      | 41 => I 104
      | 46 => I 105
      | 49 => I 106
      | 51 => I 107
      | 55 => I 108
      | 65 => I 109
      | 70 => I 110
      | _ => I 111) = I (match k with
      | 6 => 100
      | 7 => 101
      | 37 => 102
      | 39 => 103
      | 41 => 104
      | 46 => 105
      | 49 => 106
      | 51 => 107
      | 55 => 108
      | 65 => 109
      | 70 => 110
      | _ => 111)
    split <;> first | rfl | (split <;> first | rfl | simp_all)
  · unfold iv k_ix
    split <;> first | rfl | (exact absurd rfl h7) | (split <;> first | rfl | simp_all)
set_option maxRecDepth 100000 in
theorem k_pl_ok : ∀ p, p < 1936 → Nat.beq (k_ix (k_pl p).1 (k_pl p).2) p && (Nat.blt 106 (k_pl p).1 && (Nat.blt (k_pl p).1 150 && (!Nat.beq (k_pl p).1 107 || !(Nat.beq (k_pl p).2 75 || (Nat.beq (k_pl p).2 77 || (Nat.beq (k_pl p).2 76 || (Nat.beq (k_pl p).2 0 || Nat.beq (k_pl p).2 3))))))) = true := by decide +kernel
theorem k_pl_a {p : Nat} (h : p < 1936) : k_ix (k_pl p).1 (k_pl p).2 = p ∧ 106 < (k_pl p).1 ∧ (k_pl p).1 < 150 ∧ ((k_pl p).1 = 107 → (k_pl p).2 ≠ 75 ∧ (k_pl p).2 ≠ 77 ∧ (k_pl p).2 ≠ 76 ∧ (k_pl p).2 ≠ 0 ∧ (k_pl p).2 ≠ 3) := by
  have := k_pl_ok p h
  simp only [Bool.and_eq_true, Bool.or_eq_true, Bool.not_eq_true', y_beq, decide_eq_true_eq, decide_eq_false_iff_not, Bool.or_eq_false_iff] at this
  obtain ⟨h1, h2, h3, h4⟩ := this
  refine ⟨h1, Nat.le_of_ble_eq_true h2, Nat.le_of_ble_eq_true h3, fun e => ?_⟩
  rcases h4 with z | z
  · exact absurd e z
  · exact z
theorem k_st_o {b : Bool} {p c k : Nat} {M : nM} {a i : Nat} (h1 : a ≠ 151) (h2 : ¬ (a = 107 ∧ i = 77)) (h3 : ¬ (a = c ∧ i = k)) : k_st b p c k M a i = M a i := by
  have up : ∀ (K : nM) (x j : Nat) (v : Int32), ¬ (a = x ∧ i = j) → n_up K x j v a i = K a i := fun K x j v h => by
    by_cases e : a = x
    · subst e
      rw [n_up_eq, upd_ne (fun z => h ⟨rfl, z⟩)]
    · rw [n_up_ne e]
  cases b with
  | true =>
    show n_up (n_up (n_up M 107 77 (nI (p + 1))) 151 p (M c k)) c k (M c k) a i = _
    rw [up _ _ _ _ h3, up _ _ _ _ (fun z => h1 z.1), up _ _ _ _ h2]
  | false =>
    show n_up (n_up M 107 77 (nI (p + 1))) c k (M 151 p) a i = _
    rw [up _ _ _ _ h3, up _ _ _ _ h2]
theorem k_st_t {p c k : Nat} {M : nM} (hc : c ≠ 151) : k_st true p c k M c k = M c k := by
  show n_up (n_up (n_up M 107 77 (nI (p + 1))) 151 p (M c k)) c k (M c k) c k = _
  rw [n_up_eq, upd_eq]
theorem k_st_f {p c k : Nat} {M : nM} : k_st false p c k M c k = M 151 p := by
  show n_up (n_up M 107 77 (nI (p + 1))) c k (M 151 p) c k = _
  rw [n_up_eq, upd_eq]
theorem k_st_1 {b : Bool} {p c k : Nat} {M : nM} (hc : c ≠ 151) : k_st b p c k M 151 = if b = true then upd (M 151) p (M c k) else M 151 := by
  cases b with
  | true =>
    show n_up (n_up (n_up M 107 77 (nI (p + 1))) 151 p (M c k)) c k (M c k) 151 = _
    rw [n_up_ne (fun e => hc e.symm), n_up_eq, n_up_ne (by decide)]
    rfl
  | false =>
    show n_up (n_up M 107 77 (nI (p + 1))) c k (M 151 p) 151 = _
    rw [n_up_ne (fun e => hc e.symm), n_up_ne (by decide)]
    rfl
theorem k_rn_I {b : Bool} : ∀ (n p : Nat) (M : nM), p + n ≤ 1936 → k_I b p M → k_I b (p + n) (k_rn b n p M)
  | 0, p, M, _, h => h
  | n + 1, p, M, hp, h => by
    have a := k_pl_a (p := p) (by omega)
    have := k_rn_I n (p + 1) (k_st b p (k_pl p).1 (k_pl p).2 M) (by omega) (k_I_s h (by
      by_cases e : (k_pl p).1 = 107
      · exact Or.inr ⟨(a.2.2.2 e).1, (a.2.2.2 e).2.1⟩
      · exact Or.inl e))
    rw [show p + (n + 1) = p + 1 + n by omega]
    exact this
/-- kept: nothing but the row and its end changes -/
theorem k_rn_t : ∀ (n p : Nat) (M : nM), p + n ≤ 1936 → (∀ a i, a ≠ 151 → ¬ (a = 107 ∧ i = 77) → k_rn true n p M a i = M a i) ∧ (∀ j, k_rn true n p M 151 j = if p ≤ j ∧ j < p + n then M (k_pl j).1 (k_pl j).2 else M 151 j)
  | 0, p, M, _ => ⟨fun _ _ _ _ => rfl, fun j => by rw [if_neg (by omega)]; rfl⟩
  | n + 1, p, M, hp => by
    have a := k_pl_a (p := p) (by omega)
    obtain ⟨h1, h2⟩ := k_rn_t n (p + 1) (k_st true p (k_pl p).1 (k_pl p).2 M) (by omega)
    have same : ∀ a i, a ≠ 151 → ¬ (a = 107 ∧ i = 77) → k_st true p (k_pl p).1 (k_pl p).2 M a i = M a i := fun x i g1 g2 => by
      by_cases e : x = (k_pl p).1 ∧ i = (k_pl p).2
      · rw [e.1, e.2]; exact k_st_t (by omega)
      · exact k_st_o g1 g2 e
    refine ⟨fun x i g1 g2 => by rw [k_rn_s, h1 x i g1 g2]; exact same x i g1 g2, fun j => ?_⟩
    rw [k_rn_s, h2 j, k_st_1 (by omega), if_pos rfl]
    by_cases z : p + 1 ≤ j ∧ j < p + 1 + n
    · rw [if_pos z, if_pos (by omega)]
      have aj := k_pl_a (p := j) (by omega)
      exact same _ _ (by omega) (fun e => (aj.2.2.2 e.1).2.1 e.2)
    · rw [if_neg z]
      by_cases e : j = p
      · subst e; rw [upd_eq, if_pos (by omega)]
      · rw [upd_ne e, if_neg (by omega)]
/-- taken back -/
theorem k_rn_f : ∀ (n p : Nat) (M : nM), p + n ≤ 1936 → k_rn false n p M 151 = M 151 ∧ (∀ a i, a ≠ 151 → ¬ (a = 107 ∧ i = 77) → (∀ j, p ≤ j → j < p + n → ¬ (a = (k_pl j).1 ∧ i = (k_pl j).2)) → k_rn false n p M a i = M a i) ∧ (∀ j, p ≤ j → j < p + n → k_rn false n p M (k_pl j).1 (k_pl j).2 = M 151 j)
  | 0, p, M, _ => ⟨rfl, fun _ _ _ _ _ => rfl, fun j h1 h2 => absurd h1 (by omega)⟩
  | n + 1, p, M, hp => by
    have a := k_pl_a (p := p) (by omega)
    obtain ⟨h1, h2, h3⟩ := k_rn_f n (p + 1) (k_st false p (k_pl p).1 (k_pl p).2 M) (by omega)
    have e151 : k_st false p (k_pl p).1 (k_pl p).2 M 151 = M 151 := by rw [k_st_1 (by omega), if_neg (by decide)]
    refine ⟨by rw [k_rn_s, h1, e151], fun x i g1 g2 g3 => ?_, fun j j1 j2 => ?_⟩
    · rw [k_rn_s, h2 x i g1 g2 (fun j j1 j2 => g3 j (by omega) (by omega))]
      exact k_st_o g1 g2 (g3 p (Nat.le_refl _) (by omega))
    · rw [k_rn_s]
      by_cases e : j = p
      · subst e
        rw [h2 _ _ (by omega) (fun e => (a.2.2.2 e.1).2.1 e.2) (fun i i1 i2 z => by
          have b := k_pl_a (p := i) (by omega)
          have : k_ix (k_pl j).1 (k_pl j).2 = k_ix (k_pl i).1 (k_pl i).2 := by rw [z.1, z.2]
          omega), k_st_f]
      · rw [h3 j (by omega) (by omega), e151]
def k_opn {α : Type} (c k : Nat) (M : nM) (K : nM → Option α) : Option α := (fX12_keeps (M c k) M).bind fun q => K (n_up q.2 c k q.1)
theorem k_many {b : Bool} {M : nM} (h : k_I b 100 M) : fX12_keepsMany M = some ((), k_rn b 12 100 M) := by
  have e : fX12_keepsMany M = k_opn 107 6 M (fun M => k_opn 107 7 M (fun M => k_opn 107 37 M (fun M => k_opn 107 39 M (fun M => k_opn 107 41 M (fun M => k_opn 107 46 M (fun M => k_opn 107 49 M (fun M => k_opn 107 51 M (fun M => k_opn 107 55 M (fun M => k_opn 107 65 M (fun M => k_opn 107 70 M (fun M => k_opn 107 72 M (fun M => some ((), M))))))))))))) := rfl
  have st : ∀ {α : Type} (p c k : Nat) (M : nM) (K : nM → Option α), k_I b p M → p < 2400 → k_opn c k M K = K (k_st b p c k M) := fun p c k M K h1 h2 => k_step h1 h2
  have hI : ∀ (p k : Nat) (M : nM), k_I b p M → k ≠ 75 ∧ k ≠ 77 → k_I b (p + 1) (k_st b p 107 k M) := fun p k M h1 h2 => k_I_s h1 (Or.inr h2)
  rw [e]
  have i1 := hI 100 6 M h (by decide)
  have i2 := hI 101 7 _ i1 (by decide)
  have i3 := hI 102 37 _ i2 (by decide)
  have i4 := hI 103 39 _ i3 (by decide)
  have i5 := hI 104 41 _ i4 (by decide)
  have i6 := hI 105 46 _ i5 (by decide)
  have i7 := hI 106 49 _ i6 (by decide)
  have i8 := hI 107 51 _ i7 (by decide)
  have i9 := hI 108 55 _ i8 (by decide)
  have i10 := hI 109 65 _ i9 (by decide)
  have i11 := hI 110 70 _ i10 (by decide)
  rw [st 100 107 6 M _ h (by decide), st 101 107 7 _ _ i1 (by decide), st 102 107 37 _ _ i2 (by decide), st 103 107 39 _ _ i3 (by decide), st 104 107 41 _ _ i4 (by decide), st 105 107 46 _ _ i5 (by decide), st 106 107 49 _ _ i6 (by decide), st 107 107 51 _ _ i7 (by decide), st 108 107 55 _ _ i8 (by decide), st 109 107 65 _ _ i9 (by decide), st 110 107 70 _ _ i10 (by decide), st 111 107 72 _ _ i11 (by decide)]
  rfl
theorem k_law {N : Nat} {b : Bool} {M : nM} (hN : 1000 ≤ N) (h : k_I b 1071 M) : fX12_keepsLaw N M = some ((), k_rn b 865 1071 M) := by
  have e : fX12_keepsLaw N M = n_chk (n_ib 2 (0 : Int32)) (k_op 119 (0 : Int32) M (fun M => n_chk (n_ib 2 (0 : Int32)) (fX12_keepsLaw_18 N N (0 : Int32) M))) := rfl
  have hI1 : k_I b 1072 (k_st b 1071 119 0 M) := k_I_s h (Or.inl (by decide))
  have l1 := kl_keepsLaw_18 (N := N) (b := b) 16 0 N (k_st b 1071 119 0 M) (by omega) (by omega) hI1
  have hI2 := k_rn_I (b := b) 64 1072 (k_st b 1071 119 0 M) (by decide) hI1
  have l2 := kl_keepsLaw_96 (N := N) (b := b) 400 0 N (k_rn b 64 1072 (k_st b 1071 119 0 M)) (by omega) (by omega) hI2
  rw [e, show n_ib 2 (0 : Int32) = true by decide, n_chk_t]
  refine (k_op_e (c := 119) (k := 0) (M := M) h (by decide) (by decide)).trans ?_
  rw [n_chk_t]
  refine (show fX12_keepsLaw_18 N N (nI 0) (k_st b 1071 119 0 M) = _ from l1).trans ?_
  refine (show fX12_keepsLaw_96 N N (nI 0) (k_rn b 64 1072 (k_st b 1071 119 0 M)) = _ from l2).trans ?_
  rw [show (865 : Nat) = 1 + (64 + 800) from rfl, k_rn_a 1 (64 + 800) 1071, k_rn_a 64 800]
  rfl
theorem k_told {N : Nat} {b : Bool} {M : nM} (hN : 1000 ≤ N) (h : k_I b 236 M) : fX12_keepsTold N M = some ((), k_rn b 235 236 M) := by
  have go : ∀ (n p : Nat) (M : nM), p + n ≤ 1936 → k_I b p M → k_I b (p + n) (k_rn b n p M) := fun n p M => k_rn_I n p M
  have i1 := go 4 236 M (by decide) h
  have i2 := go 16 240 _ (by decide) i1
  have i3 := go 40 256 _ (by decide) i2
  have i4 := go 36 296 _ (by decide) i3
  have i5 := go 6 332 _ (by decide) i4
  have i6 := go 5 338 _ (by decide) i5
  have i7 := go 64 343 _ (by decide) i6
  have l1 := kl_keepsTold_2 (N := N) (b := b) 4 0 N M (by omega) (by omega) h
  have l2 := kl_keepsTold_31 (N := N) (b := b) 8 0 N _ (by omega) (by omega) i1
  have l3 := kl_keepsTold_77 (N := N) (b := b) 10 0 N _ (by omega) (by omega) i2
  have l4 := kl_keepsTold_155 (N := N) (b := b) 36 0 N _ (by omega) (by omega) i3
  have l5 := kl_keepsTold_185 (N := N) (b := b) 6 0 N _ (by omega) (by omega) i4
  have l6 := kl_keepsTold_215 (N := N) (b := b) 5 0 N _ (by omega) (by omega) i5
  have l7 := kl_keepsTold_244 (N := N) (b := b) 64 0 N _ (by omega) (by omega) i6
  have l8 := kl_keepsTold_274 (N := N) (b := b) 64 0 N _ (by omega) (by omega) i7
  rw [show (235 : Nat) = 4 + (16 + (40 + (36 + (6 + (5 + (64 + 64)))))) from rfl, k_rn_a 4, k_rn_a 16, k_rn_a 40, k_rn_a 36, k_rn_a 6, k_rn_a 5, k_rn_a 64]
  exact l1.trans (l2.trans (l3.trans (l4.trans (l5.trans (l6.trans (l7.trans l8))))))
theorem k_things {N : Nat} {b : Bool} {M : nM} (hN : 1000 ≤ N) (h : k_I b 112 M) : fX12_keepsThings N M = some ((), k_rn b 124 112 M) := by
  have i1 := k_rn_I (b := b) 64 112 M (by decide) h
  have l1 := kl_keepsThings_2 (N := N) (b := b) 16 0 N M (by omega) (by omega) h
  have l2 := kl_keepsThings_80 (N := N) (b := b) 12 0 N _ (by omega) (by omega) i1
  rw [show (124 : Nat) = 64 + 60 from rfl, k_rn_a 64]
  exact l1.trans l2
theorem k_img {N : Nat} {b : Bool} {M : nM} (hN : 1000 ≤ N) (h : k_I b 0 M) : fX12_image_35 N N (cb b) (0 : Int32) M = some (1, bif b then k_rn b 1936 0 M else n_up (k_rn b 1936 0 M) 107 3 0) := by
  have i1 := k_rn_I (b := b) 100 0 M (by decide) h
  have i2 := k_rn_I (b := b) 12 100 _ (by decide) i1
  have i3 := k_rn_I (b := b) 124 112 _ (by decide) i2
  have i4 := k_rn_I (b := b) 235 236 _ (by decide) i3
  have i5 := k_rn_I (b := b) 600 471 _ (by decide) i4
  have l1 := kl_image_35 (N := N) (b := b) (x1 := cb b) 100 0 N M (by omega) (by omega) h
  have l2 := k_many (b := b) (M := k_rn b 100 0 M) i1
  have l3 := k_things (N := N) (b := b) hN i2
  have l4 := k_told (N := N) (b := b) hN i3
  have l5 := kl_image_77 (N := N) (b := b) (x1 := cb b) 600 0 N _ (by omega) (by omega) i4
  have l6 := k_law (N := N) (b := b) hN i5
  have tot : k_rn b 865 1071 (k_rn b 600 471 (k_rn b 235 236 (k_rn b 124 112 (k_rn b 12 100 (k_rn b 100 0 M))))) = k_rn b 1936 0 M := by
    rw [show (1936 : Nat) = 100 + (12 + (124 + (235 + (600 + 865)))) from rfl, k_rn_a 100, k_rn_a 12, k_rn_a 124, k_rn_a 235, k_rn_a 600]
  refine (show fX12_image_35 N N (cb b) (nI 0) M = _ from l1).trans ?_
  show ((fX12_keepsMany (k_rn b 100 0 M)).bind _) = _
  rw [l2, Option.bind_some]
  show ((fX12_keepsThings N (k_rn b 12 100 (k_rn b 100 0 M))).bind _) = _
  rw [l3, Option.bind_some]
  show ((fX12_keepsTold N (k_rn b 124 112 (k_rn b 12 100 (k_rn b 100 0 M)))).bind _) = _
  rw [l4, Option.bind_some]
  refine (show fX12_image_77 N N (cb b) (nI 0) (k_rn b 235 236 (k_rn b 124 112 (k_rn b 12 100 (k_rn b 100 0 M)))) = _ from l5).trans ?_
  show ((fX12_keepsLaw N (k_rn b 600 471 (k_rn b 235 236 (k_rn b 124 112 (k_rn b 12 100 (k_rn b 100 0 M)))))).bind _) = _
  rw [l6, Option.bind_some, tot]
  generalize k_rn b 1936 0 M = R
  cases b <;> rfl
