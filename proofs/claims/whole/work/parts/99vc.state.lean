/-! ===== text: tokens; where class and model stand in them ===== -/
/-- a token: 0 the end, 1 none, 2 a word, 3 a number, 4 a sign; its value; its place -/
abbrev tK : Type := Nat → Nat × Nat × Nat
def TK (τ : tK) (n : Nat) : Prop := n ≤ 400 ∧ ∀ j, j ≤ n → ((τ j).1 = 0 ↔ j = n) ∧ (τ j).1 ≤ 4 ∧ ((τ j).1 = 2 → (τ j).2.1 < 28) ∧ ((τ j).1 = 3 → (τ j).2.1 < 10000) ∧ ((τ j).1 = 4 → tx_mk (τ j).2.1 = true)
abbrev isS (τ : tK) (j s : Nat) : Prop := (τ j).1 = 4 ∧ (τ j).2.1 = s
abbrev isW (τ : tK) (j w : Nat) : Prop := (τ j).1 = 2 ∧ (τ j).2.1 = w
abbrev isN (τ : tK) (j : Nat) : Prop := (τ j).1 = 3
def nx (n j : Nat) : Nat := if j < n then j + 1 else j
theorem nx_l {n j : Nat} (h : j < n) : nx n j = j + 1 := if_pos h
theorem tk_lt {τ : tK} {n j : Nat} (h : TK τ n) (hj : j ≤ n) (ht : (τ j).1 ≠ 0) : j < n := by
  have := (h.2 j hj).1
  by_cases e : j = n
  · exact absurd (this.mpr e) ht
  · omega
theorem tk_S {τ : tK} {n j s : Nat} (h : TK τ n) (hj : j ≤ n) (ht : isS τ j s) : j < n := tk_lt h hj (by rw [ht.1]; decide)
theorem tk_W {τ : tK} {n j s : Nat} (h : TK τ n) (hj : j ≤ n) (ht : isW τ j s) : j < n := tk_lt h hj (by rw [ht.1]; decide)
theorem tk_N {τ : tK} {n j : Nat} (h : TK τ n) (hj : j ≤ n) (ht : isN τ j) : j < n := tk_lt h hj (by rw [ht]; decide)
theorem tx_mkb : ∀ x, tx_mk x = true → 40 ≤ x ∧ x ≤ 62 := fun x h => by
  unfold tx_mk at h
  have := List.contains_iff_mem.mp h
  simp only [List.mem_cons, List.not_mem_nil, or_false] at this
  omega
theorem tx_q28 : ∀ v, v < 28 → tx_q v < 28 := fun v h => (tx_pq v h).1
theorem tx_q_inj {v w : Nat} (hv : v < 28) (hw : w < 28) (h : tx_q v = tx_q w) : v = w := by
  rw [← (tx_pq v hv).2, ← (tx_pq w hw).2, h]
theorem kd_b {τ : tK} {n j : Nat} (h : TK τ n) (hj : j ≤ n) : tx_kd (τ j).1 (τ j).2.1 < 200 := by
  obtain ⟨h1, h2, h3, h4, h5⟩ := h.2 j hj
  unfold tx_kd
  by_cases e2 : (τ j).1 = 2
  · rw [if_pos e2]
    have := tx_q28 _ (h3 e2)
    omega
  · rw [if_neg e2]
    by_cases e3 : (τ j).1 = 3
    · rw [if_pos e3]; decide
    · rw [if_neg e3]
      by_cases e4 : (τ j).1 = 4
      · rw [if_pos e4]
        have := tx_mkb _ (h5 e4)
        omega
      · rw [if_neg e4]; omega
theorem kd_S {τ : tK} {n j s : Nat} (h : TK τ n) (hj : j ≤ n) (h1 : 5 ≤ s) (h2 : s < 128) : nI (tx_kd (τ j).1 (τ j).2.1) = nI s ↔ isS τ j s := by
  rw [nI_eq (by have := kd_b h hj; omega) (by omega)]
  obtain ⟨k1, k2, k3, k4, k5⟩ := h.2 j hj
  unfold tx_kd isS
  by_cases e2 : (τ j).1 = 2
  · rw [if_pos e2]; omega
  · rw [if_neg e2]
    by_cases e3 : (τ j).1 = 3
    · rw [if_pos e3]; omega
    · rw [if_neg e3]
      by_cases e4 : (τ j).1 = 4
      · rw [if_pos e4]; omega
      · rw [if_neg e4]; omega
theorem kd_W {τ : tK} {n j w : Nat} (h : TK τ n) (hj : j ≤ n) (hw : w < 28) : nI (tx_kd (τ j).1 (τ j).2.1) = nI (128 + tx_q w) ↔ isW τ j w := by
  rw [nI_eq (by have := kd_b h hj; omega) (by have := tx_q28 w hw; omega)]
  obtain ⟨k1, k2, k3, k4, k5⟩ := h.2 j hj
  unfold tx_kd isW
  by_cases e2 : (τ j).1 = 2
  · rw [if_pos e2]
    exact ⟨fun z => ⟨e2, tx_q_inj (k3 e2) hw (by omega)⟩, fun z => by rw [z.2]⟩
  · rw [if_neg e2]
    by_cases e3 : (τ j).1 = 3
    · rw [if_pos e3]; omega
    · rw [if_neg e3]
      by_cases e4 : (τ j).1 = 4
      · rw [if_pos e4]
        have := tx_mkb _ (k5 e4)
        omega
      · rw [if_neg e4]; omega
theorem kd_N {τ : tK} {n j : Nat} (h : TK τ n) (hj : j ≤ n) : nI (tx_kd (τ j).1 (τ j).2.1) = (2 : Int32) ↔ isN τ j := by
  refine (nI_eq (b := 2) (by have := kd_b h hj; omega) (by decide)).trans ?_
  obtain ⟨k1, k2, k3, k4, k5⟩ := h.2 j hj
  unfold tx_kd isN
  by_cases e2 : (τ j).1 = 2
  · rw [if_pos e2]; omega
  · rw [if_neg e2]
    by_cases e3 : (τ j).1 = 3
    · rw [if_pos e3]; omega
    · rw [if_neg e3]
      by_cases e4 : (τ j).1 = 4
      · rw [if_pos e4]
        have := tx_mkb _ (k5 e4)
        omega
      · rw [if_neg e4]; omega
theorem kd_0 {τ : tK} {n j : Nat} (h : TK τ n) (hj : j ≤ n) : nI (tx_kd (τ j).1 (τ j).2.1) = (0 : Int32) ↔ (τ j).1 = 0 := by
  refine (nI_eq (b := 0) (by have := kd_b h hj; omega) (by decide)).trans ?_
  obtain ⟨k1, k2, k3, k4, k5⟩ := h.2 j hj
  unfold tx_kd
  by_cases e2 : (τ j).1 = 2
  · rw [if_pos e2]; omega
  · rw [if_neg e2]
    by_cases e3 : (τ j).1 = 3
    · rw [if_pos e3]; omega
    · rw [if_neg e3]
      by_cases e4 : (τ j).1 = 4
      · rw [if_pos e4]
        have := tx_mkb _ (k5 e4)
        omega
      · rw [if_neg e4]
/-! the class -/
def CB (τ : tK) (n : Nat) (M : nM) : Prop := M 80 5 = nI (n + 1) ∧ ∀ i, i ≤ n → M 82 i = nI (tx_kd (τ i).1 (τ i).2.1) ∧ ((τ i).1 = 3 → M 83 i = nI (τ i).2.1) ∧ M 84 i = nI (τ i).2.2
/-- the class at token j, with code c -/
def cs (M0 : nM) (j : Nat) (c : List lOp) : nM := fun a => if a = 80 then upd (M0 80) 6 (nI j) else if a = 85 then upd (M0 85) 5 (nI c.length) else if a = 86 then (fun i => if i < c.length then l_enc (c.getD i (0, 0)) else M0 86 i) else M0 a
theorem cs_80 {M0 : nM} {j : Nat} {c : List lOp} : cs M0 j c 80 = upd (M0 80) 6 (nI j) := rfl
theorem cs_85 {M0 : nM} {j : Nat} {c : List lOp} : cs M0 j c 85 = upd (M0 85) 5 (nI c.length) := rfl
theorem cs_86 {M0 : nM} {j : Nat} {c : List lOp} : cs M0 j c 86 = fun i => if i < c.length then l_enc (c.getD i (0, 0)) else M0 86 i := rfl
theorem cs_o {M0 : nM} {j a : Nat} {c : List lOp} (h1 : a ≠ 80) (h2 : a ≠ 85) (h3 : a ≠ 86) : cs M0 j c a = M0 a := by
  unfold cs
  rw [if_neg h1, if_neg h2, if_neg h3]
theorem cs_6 {M0 : nM} {j : Nat} {c : List lOp} : cs M0 j c 80 6 = nI j := by rw [cs_80, upd_eq]
theorem cs_5 {M0 : nM} {j : Nat} {c : List lOp} : cs M0 j c 80 5 = M0 80 5 := by rw [cs_80, upd_ne (by decide)]
theorem cs_j {M0 : nM} {j j' : Nat} {c : List lOp} : n_up (cs M0 j c) 80 6 (nI j') = cs M0 j' c := by
  funext a
  by_cases h : a = 80
  · subst h
    rw [n_up_eq, cs_80, cs_80]
    funext i
    by_cases e : i = 6
    · rw [e, upd_eq, upd_eq]
    · rw [upd_ne e, upd_ne e, upd_ne e]
  · rw [n_up_ne h]
    unfold cs
    rw [if_neg h, if_neg h]
theorem cs_e {M0 : nM} {j : Nat} {c : List lOp} {x : lOp} : n_up (n_up (cs M0 j c) 86 c.length (l_enc x)) 85 5 (nI (c.length + 1)) = cs M0 j (c ++ [x]) := by
  funext a
  by_cases h : a = 85
  · subst h
    rw [n_up_eq, n_up_ne (by decide), cs_85, cs_85]
    funext i
    by_cases e : i = 5
    · rw [e, upd_eq, upd_eq, List.length_append]; rfl
    · rw [upd_ne e, upd_ne e, upd_ne e]
  · rw [n_up_ne h]
    by_cases h2 : a = 86
    · subst h2
      rw [n_up_eq, cs_86, cs_86]
      funext i
      by_cases e : i = c.length
      · subst e
        rw [upd_eq, if_pos (by rw [List.length_append]; simp), List.getD_eq_getElem?_getD, List.getElem?_append_right (Nat.le_refl _), Nat.sub_self]
        rfl
      · rw [upd_ne e]
        by_cases e2 : i < c.length
        · rw [if_pos e2, if_pos (by rw [List.length_append]; simp; omega), List.getD_eq_getElem?_getD, List.getD_eq_getElem?_getD, List.getElem?_append_left e2]
        · rw [if_neg e2, if_neg (by rw [List.length_append]; simp; omega)]
    · rw [n_up_ne h2]
      unfold cs
      rw [if_neg h, if_neg h2, if_neg h, if_neg h2]
theorem cs_up {M0 : nM} {j a i : Nat} {c : List lOp} {v : Int32} (h1 : a ≠ 80) (h2 : a ≠ 86) (h3 : a = 85 → i ≠ 5) : n_up (cs M0 j c) a i v = cs (n_up M0 a i v) j c := by
  funext z
  by_cases h : z = a
  · subst h
    rw [n_up_eq]
    by_cases e : z = 85
    · subst e
      rw [cs_85, cs_85, n_up_eq]
      funext t
      by_cases e1 : t = i
      · subst e1
        rw [upd_eq, upd_ne (h3 rfl), upd_eq]
      · rw [upd_ne e1]
        by_cases e2 : t = 5
        · rw [e2, upd_eq, upd_eq]
        · rw [upd_ne e2, upd_ne e2, upd_ne e1]
    · rw [cs_o h1 e h2, cs_o h1 e h2, n_up_eq]
  · rw [n_up_ne h]
    unfold cs
    by_cases e0 : z = 80
    · rw [if_pos e0, if_pos e0, n_up_ne (by rw [← e0]; exact h)]
    · rw [if_neg e0, if_neg e0]
      by_cases e1 : z = 85
      · rw [if_pos e1, if_pos e1, n_up_ne (by rw [← e1]; exact h)]
      · rw [if_neg e1, if_neg e1]
        by_cases e2 : z = 86
        · rw [if_pos e2, if_pos e2, n_up_ne (by rw [← e2]; exact h)]
        · rw [if_neg e2, if_neg e2, n_up_ne h]
/-- the class with a fault -/
def ce (τ : tK) (M0 : nM) (e j : Nat) (c : List lOp) : nM := n_up (n_up (cs M0 j c) 80 10 (nI e)) 80 11 (nI (τ j).2.2)
theorem e_stp {τ : tK} {M0 : nM} {n j : Nat} {c : List lOp} (h : TK τ n) (hB : CB τ n M0) (hj : j ≤ n) : fX6_step (cs M0 j c) = some ((), cs M0 (nx n j) c) := by
  have hn := h.1
  unfold fX6_step
  rw [cs_5, cs_6, hB.1, nI_pred]
  unfold nx
  by_cases z : j < n
  · rw [if_neg (nI_ge z (by omega)), if_pos z, nI_1]
    show some ((), n_up (cs M0 j c) 80 6 (nI (j + 1))) = _
    rw [cs_j]
  · rw [if_pos (nI_le (by omega) (by omega)), if_neg z]
theorem e_cur {τ : tK} {M0 : nM} {n j : Nat} {c : List lOp} {α : Type} (h : TK τ n) (hB : CB τ n M0) (hj : j ≤ n) (F : Int32 → Option α) : n_chk (n_ib 401 (cs M0 j c 80 6)) (F (cs M0 j c 82 (cs M0 j c 80 6).toNatClampNeg)) = F (nI (tx_kd (τ j).1 (τ j).2.1)) := by
  have hn := h.1
  rw [cs_6, n_ib_nI (show j < 401 by omega) (by decide), n_chk_t, nI_clamp (show j < 2 ^ 31 by omega), cs_o (by decide) (by decide) (by decide), (hB.2 j hj).1]
theorem e_chk {τ : tK} {M0 : nM} {n j : Nat} {c : List lOp} {α : Type} (h : TK τ n) (hj : j ≤ n) (F : Option α) : n_chk (n_ib 401 (cs M0 j c 80 6)) F = F := by
  have hn := h.1
  rw [cs_6, n_ib_nI (show j < 401 by omega) (by decide), n_chk_t]
theorem e_82 {τ : tK} {M0 : nM} {n j : Nat} {c : List lOp} (h : TK τ n) (hB : CB τ n M0) (hj : j ≤ n) : cs M0 j c 82 (cs M0 j c 80 6).toNatClampNeg = nI (tx_kd (τ j).1 (τ j).2.1) := by
  have hn := h.1
  rw [cs_6, nI_clamp (show j < 2 ^ 31 by omega), cs_o (by decide) (by decide) (by decide), (hB.2 j hj).1]
theorem e_83 {τ : tK} {M0 : nM} {n j : Nat} {c : List lOp} (h : TK τ n) (hB : CB τ n M0) (hj : j ≤ n) (hN : isN τ j) : cs M0 j c 83 (cs M0 j c 80 6).toNatClampNeg = nI (τ j).2.1 := by
  have hn := h.1
  rw [cs_6, nI_clamp (show j < 2 ^ 31 by omega), cs_o (by decide) (by decide) (by decide), (hB.2 j hj).2.1 hN]
theorem e_blm {τ : tK} {M0 : nM} {n j : Nat} {c : List lOp} (e : Nat) (h : TK τ n) (hB : CB τ n M0) (hj : j ≤ n) : fX6_blame (nI e) (cs M0 j c) = some (0, ce τ M0 e j c) := by
  have hn := h.1
  have c6 : n_up (cs M0 j c) 80 10 (nI e) 80 6 = nI j := by rw [n_up_eq, upd_ne (by decide)]; exact cs_6
  unfold fX6_blame
  show n_chk (n_ib 401 (n_up (cs M0 j c) 80 10 (nI e) 80 6)) (some ((0 : Int32), n_up (n_up (cs M0 j c) 80 10 (nI e)) 80 11 (n_up (cs M0 j c) 80 10 (nI e) 84 (n_up (cs M0 j c) 80 10 (nI e) 80 6).toNatClampNeg))) = _
  rw [c6, n_ib_nI (show j < 401 by omega) (by decide), n_chk_t, nI_clamp (show j < 2 ^ 31 by omega), n_up_ne (show 84 ≠ 80 by decide), cs_o (by decide) (by decide) (by decide), (hB.2 j hj).2.2]
  rfl
/-- and as most write it -/
theorem e_blm2 {τ : tK} {M0 : nM} {n j : Nat} {c : List lOp} (e : Nat) (h : TK τ n) (hB : CB τ n M0) (hj : j ≤ n) : ((fX6_blame (nI e) (cs M0 j c)).bind fun p => n_chk (p.1 == 0 || p.1 == 1) (some (p.1, p.2))) = some (0, ce τ M0 e j c) := by
  rw [e_blm e h hB hj]
  rfl
theorem l_enc_i {o v : Nat} (ho : o < 16) (hv : v < 10000) : ((nI v <<< ((4 : Int32) &&& 31)) ||| nI o) = l_enc (o, v) := by
  rw [pk_shlN ((4 : Int32) &&& 31) 4 (by decide) (by omega), nI_or]
  show _ = nI (16 * v + o)
  have e1 : v * 2 ^ 4 ||| o = v * 2 ^ 4 + o := by
    have := Nat.shiftLeft_add_eq_or_of_lt (show o < 2 ^ 4 by omega) v
    rw [Nat.shiftLeft_eq] at this
    exact this.symm
  rw [e1]
  exact congrArg nI (by omega)
theorem e_emt {M0 : nM} {j : Nat} {c : List lOp} {o v : Nat} (ho : o < 16) (hv : v < 10000) (hc : c.length < 400) : fX3_emit (nI o) (nI v) (cs M0 j c) = some ((), cs M0 j (c ++ [(o, v)])) := by
  have c5 : cs M0 j c 85 5 = nI c.length := by rw [cs_85, upd_eq]
  unfold fX3_emit
  show (if (400 : Int32) ≤ cs M0 j c 85 5 then _ else n_chk (n_ib 400 (cs M0 j c 85 5)) (some ((), n_up (n_up (cs M0 j c) 86 (cs M0 j c 85 5).toNatClampNeg ((nI v <<< ((4 : Int32) &&& 31)) ||| nI o)) 85 5 ((n_up (cs M0 j c) 86 (cs M0 j c 85 5).toNatClampNeg ((nI v <<< ((4 : Int32) &&& 31)) ||| nI o) 85 5) + (1 : Int32))))) = _
  rw [n_up_ne (show 85 ≠ 86 by decide), c5, if_neg (show ¬ (400 : Int32) ≤ nI c.length from nI_ge (b := 400) hc (by decide)), n_ib_nI hc (by decide), n_chk_t, nI_clamp (show c.length < 2 ^ 31 by omega), l_enc_i ho hv, nI_1, cs_e]
theorem CB_up {τ : tK} {n a i : Nat} {M0 : nM} {v : Int32} (hB : CB τ n M0) (h : a ≠ 80 ∧ a ≠ 82 ∧ a ≠ 83 ∧ a ≠ 84) : CB τ n (n_up M0 a i v) := by
  refine ⟨by rw [n_up_ne (Ne.symm h.1)]; exact hB.1, fun t ht => ?_⟩
  rw [n_up_ne (Ne.symm h.2.1), n_up_ne (Ne.symm h.2.2.1), n_up_ne (Ne.symm h.2.2.2)]
  exact hB.2 t ht
theorem e_exS {τ : tK} {M0 : nM} {n j s : Nat} {c : List lOp} (h : TK τ n) (hB : CB τ n M0) (hj : j ≤ n) (h1 : 5 ≤ s) (h2 : s < 128) : fX6_expect (nI s) (cs M0 j c) = if isS τ j s then some (1, cs M0 (j + 1) c) else some (0, ce τ M0 1 j c) := by
  unfold fX6_expect
  rw [e_chk h hj, e_82 h hB hj]
  by_cases z : isS τ j s
  · rw [if_pos ((kd_S h hj h1 h2).mpr z), if_pos z, e_stp h hB hj, nx_l (tk_S h hj z)]
    rfl
  · rw [if_neg (fun y => z ((kd_S h hj h1 h2).mp y)), if_neg z]
    exact e_blm2 1 h hB hj
theorem e_exW {τ : tK} {M0 : nM} {n j w : Nat} {c : List lOp} (h : TK τ n) (hB : CB τ n M0) (hj : j ≤ n) (hw : w < 28) : fX6_expect (nI (128 + tx_q w)) (cs M0 j c) = if isW τ j w then some (1, cs M0 (j + 1) c) else some (0, ce τ M0 1 j c) := by
  unfold fX6_expect
  rw [e_chk h hj, e_82 h hB hj]
  by_cases z : isW τ j w
  · rw [if_pos ((kd_W h hj hw).mpr z), if_pos z, e_stp h hB hj, nx_l (tk_W h hj z)]
    rfl
  · rw [if_neg (fun y => z ((kd_W h hj hw).mp y)), if_neg z]
    exact e_blm2 1 h hB hj
theorem e_nb {τ : tK} {M0 : nM} {n j L : Nat} {c : List lOp} (h : TK τ n) (hB : CB τ n M0) (hj : j ≤ n) (hL : L < 100000) : fX6_numberBelow (nI L) (cs M0 j c) = if isN τ j then (if (τ j).2.1 < L then some (nI (τ j).2.1, cs M0 (j + 1) c) else some (-1, ce τ M0 2 j c)) else some (-1, ce τ M0 1 j c) := by
  unfold fX6_numberBelow
  rw [e_chk h hj, e_82 h hB hj]
  by_cases z : isN τ j
  · rw [if_pos ((kd_N h hj).mpr z), if_pos z, e_chk h hj]
    show (if cs M0 j c 83 (cs M0 j c 80 6).toNatClampNeg < nI L then ((fX6_step (cs M0 j c)).bind fun p2 => some (cs M0 j c 83 (cs M0 j c 80 6).toNatClampNeg, p2.2)) else ((fX6_blame (2 : Int32) (cs M0 j c)).bind fun p3 => some ((-1 : Int32), p3.2))) = _
    have hv := (h.2 j hj).2.2.2.1 z
    rw [e_83 h hB hj z]
    by_cases y : (τ j).2.1 < L
    · rw [if_pos (nI_lt y (by omega)), if_pos y, e_stp h hB hj, nx_l (tk_N h hj z)]
      rfl
    · rw [if_neg (nI_nlt (by omega) (by omega)), if_neg y, show (2 : Int32) = nI 2 from rfl, e_blm 2 h hB hj]
      rfl
  · rw [if_neg (fun y => z ((kd_N h hj).mp y)), if_neg z, show (1 : Int32) = nI 1 from rfl, e_blm 1 h hB hj]
    rfl
theorem e_blm21 {τ : tK} {M0 : nM} {n j : Nat} {c : List lOp} (h : TK τ n) (hB : CB τ n M0) (hj : j ≤ n) : ((fX6_blame (1 : Int32) (cs M0 j c)).bind fun p => n_chk (p.1 == 0 || p.1 == 1) (some (p.1, p.2))) = some (0, ce τ M0 1 j c) := e_blm2 1 h hB hj
theorem e_blm22 {τ : tK} {M0 : nM} {n j : Nat} {c : List lOp} (h : TK τ n) (hB : CB τ n M0) (hj : j ≤ n) : ((fX6_blame (2 : Int32) (cs M0 j c)).bind fun p => n_chk (p.1 == 0 || p.1 == 1) (some (p.1, p.2))) = some (0, ce τ M0 2 j c) := e_blm2 2 h hB hj
theorem e_blm23 {τ : tK} {M0 : nM} {n j : Nat} {c : List lOp} (h : TK τ n) (hB : CB τ n M0) (hj : j ≤ n) : ((fX6_blame (3 : Int32) (cs M0 j c)).bind fun p => n_chk (p.1 == 0 || p.1 == 1) (some (p.1, p.2))) = some (0, ce τ M0 3 j c) := e_blm2 3 h hB hj
