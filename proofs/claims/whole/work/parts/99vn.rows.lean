/-! ===== text: lines that are rows ===== -/
theorem e_add4 {G : nG} {M : nM} {x0 c H k : Nat} (hk : n_kd G x0 = 7) (hm : n_mr G x0 0 = c) (hkc : n_kd G c = 14) (hl : n_len G c = 4 * H) (hw : r_wm (M x0 1) (M x0 2) 4 H) (h3 : M x0 3 = nI k) (hne : x0 ≠ c) (hH : H < 1000) (hkH : k ≤ H) (a b d e : Int32) :
    fX7_add G x0 a b d e M = if k < H then some (nI (k + 1), n_up (n_up (n_up (n_up (n_up M c (4 * k) a) c (4 * k + 1) b) c (4 * k + 2) d) c (4 * k + 3) e) x0 3 (nI (k + 1))) else some (-1, M) := by
  have hb : Nat.beq (n_kd G x0) 7 = true := by rw [hk]; rfl
  obtain ⟨h1, h2⟩ := hw
  unfold fX7_add fX7_write
  by_cases hlt : k < H
  · have c1 : nI k < nI H := nI_lt hlt (by omega)
    have c2 : ¬ nI k < 0 := nI_pos (by omega)
    have c3 : nI k * nI 4 = nI (4 * k) := by rw [pk_mul, Nat.mul_comm]
    have c3' : nI (4 * k) + 2 = nI (4 * k + 2) := nI_add (4 * k) 2
    have c3'' : nI (4 * k) + 3 = nI (4 * k + 3) := nI_add (4 * k) 3
    have c4 : n_in G 14 c (nI (4 * k)) = true := n_in_nI hkc hl (by omega) (by omega)
    have c4' : n_in G 14 c (nI (4 * k + 1)) = true := n_in_nI hkc hl (by omega) (by omega)
    have c4'' : n_in G 14 c (nI (4 * k + 2)) = true := n_in_nI hkc hl (by omega) (by omega)
    have c4''' : n_in G 14 c (nI (4 * k + 3)) = true := n_in_nI hkc hl (by omega) (by omega)
    have c5 : n_up M c (4 * k) a x0 1 = nI 4 := by rw [n_up_ne hne]; exact h1
    have c5' : n_up (n_up M c (4 * k) a) c (4 * k + 1) b x0 1 = nI 4 := by rw [n_up_ne hne]; exact c5
    have c5'' : n_up (n_up (n_up M c (4 * k) a) c (4 * k + 1) b) c (4 * k + 2) d x0 1 = nI 4 := by rw [n_up_ne hne]; exact c5'
    have c6 : n_up (n_up (n_up (n_up M c (4 * k) a) c (4 * k + 1) b) c (4 * k + 2) d) c (4 * k + 3) e x0 3 = nI k := by rw [n_up_ne hne, n_up_ne hne, n_up_ne hne, n_up_ne hne]; exact h3
    have c7 : ¬ (nI 4 ≤ (1 : Int32)) := by decide
    have c8 : ¬ (nI 4 ≤ (2 : Int32)) := by decide
    have c9 : ¬ (nI 4 ≤ (3 : Int32)) := by decide
    simp only [hb, h1, h2, h3, hm, c1, c2, c3, c3', c3'', c4, c4', c4'', c4''', c5, c5', c5'', c6, c7, c8, c9, hlt, n_chk, Bool.and_self, Option.bind_some, nI_clamp (show 4 * k < 2 ^ 31 by omega), nI_clamp (show 4 * k + 1 < 2 ^ 31 by omega), nI_clamp (show 4 * k + 2 < 2 ^ 31 by omega), nI_clamp (show 4 * k + 3 < 2 ^ 31 by omega), fX7_write_47, fX7_write_66, n_up_eq, upd_eq, nI_1, wp_bind, wp_some, wp_chk, ↓reduceIte, not_true_eq_false, not_false_eq_true, z10, z01, zm0, z0m, zm1, z1m, true_and, and_true, cb_t, cb_f, cb0, cb1, eq_self, Bool.false_eq_true, Bool.true_eq_false, reduceCtorEq]
  · have c1 : ¬ nI k < nI H := nI_nlt (by omega) (by omega)
    simp only [hb, h2, h3, c1, hlt, n_chk, wp_bind, wp_some, wp_chk, ↓reduceIte, not_true_eq_false, not_false_eq_true, z10, z01, zm0, z0m, zm1, z1m, true_and, and_true, cb_t, cb_f, cb0, cb1, eq_self, Bool.false_eq_true, Bool.true_eq_false, reduceCtorEq]
def add4 (C : nM) (m : Nat) (a b d e : Int32) : nM := n_up (n_up (n_up (n_up (n_up C 92 (4 * m) a) 92 (4 * m + 1) b) 92 (4 * m + 2) d) 92 (4 * m + 3) e) 91 3 (nI (m + 1))
theorem e_addR {G : nG} {C : nM} {j m : Nat} {c : List lOp} (hG : n_GOK G) (hw : r_wm (C 91 1) (C 91 2) 4 16) (h3 : C 91 3 = nI m) (hm : m < 16) (a b d e : Int32) : fX7_add G 91 a b d e (cs C j c) = some (nI (m + 1), cs (add4 C m a b d e) j c) := by
  have t := e_add4 (G := G) (M := cs C j c) (x0 := 91) (c := 92) (H := 16) (k := m) (gk91 hG) (gm91_0 hG) (gk92 hG) (gl92 hG) (by rw [cs_o (by decide) (by decide) (by decide)]; exact hw) (by rw [cs_o (by decide) (by decide) (by decide)]; exact h3) (by decide) (by decide) (by omega) a b d e
  rw [t, if_pos hm, cs_up (by decide) (by decide) (fun z => absurd z (by decide)), cs_up (by decide) (by decide) (fun z => absurd z (by decide)), cs_up (by decide) (by decide) (fun z => absurd z (by decide)), cs_up (by decide) (by decide) (fun z => absurd z (by decide)), cs_up (by decide) (by decide) (fun z => absurd z (by decide))]
  rfl
theorem FC_add {C : nM} {m : Nat} {a b d e : Int32} : FC C (add4 C m a b d e) := by
  unfold add4
  exact FC_t (FC_u (by decide)) (FC_t (FC_u (by decide)) (FC_t (FC_u (by decide)) (FC_t (FC_u (by decide)) FC_9)))
theorem add4_92 {C : nM} {m : Nat} {a b d e : Int32} : add4 C m a b d e 92 = upd (upd (upd (upd (C 92) (4 * m) a) (4 * m + 1) b) (4 * m + 2) d) (4 * m + 3) e := by
  unfold add4
  rw [n_up_ne (by decide), n_up_eq, n_up_eq, n_up_eq, n_up_eq]
theorem add4_lt {C : nM} {m i : Nat} {a b d e : Int32} (h : i < 4 * m) : add4 C m a b d e 92 i = C 92 i := by
  rw [add4_92, upd_ne (by omega), upd_ne (by omega), upd_ne (by omega), upd_ne (by omega)]
theorem add4_0 {C : nM} {m : Nat} {a b d e : Int32} : add4 C m a b d e 92 (4 * m) = a := by rw [add4_92, upd_ne (by omega), upd_ne (by omega), upd_ne (by omega), upd_eq]
theorem add4_1 {C : nM} {m : Nat} {a b d e : Int32} : add4 C m a b d e 92 (4 * m + 1) = b := by rw [add4_92, upd_ne (by omega), upd_ne (by omega), upd_eq]
theorem add4_2 {C : nM} {m : Nat} {a b d e : Int32} : add4 C m a b d e 92 (4 * m + 2) = d := by rw [add4_92, upd_ne (by omega), upd_eq]
theorem add4_3 {C : nM} {m : Nat} {a b d e : Int32} : add4 C m a b d e 92 (4 * m + 3) = e := by rw [add4_92, upd_eq]
theorem add4_c {C : nM} {m : Nat} {a b d e : Int32} : add4 C m a b d e 91 3 = nI (m + 1) := by
  unfold add4
  rw [n_up_eq, upd_eq]
theorem add4_w {C : nM} {m i : Nat} {a b d e : Int32} (h : i ≠ 3) : add4 C m a b d e 91 i = C 91 i := by
  unfold add4
  rw [n_up_eq, upd_ne h, n_up_ne (by decide), n_up_ne (by decide), n_up_ne (by decide), n_up_ne (by decide)]
/-! what is wrong at a token: a number with P, a word, a sign -/
def eN (τ : tK) (P : Nat → Bool) (j : Nat) : Nat := if isN τ j then (if P (τ j).2.1 = true then 0 else 2) else 1
def eW (τ : tK) (w j : Nat) : Nat := if isW τ j w then 0 else 1
def eS (τ : tK) (s j : Nat) : Nat := if isS τ j s then 0 else 1
def bel (L : Nat) : Nat → Bool := fun x => decide (x < L)
theorem eN_x {τ : tK} {P : Nat → Bool} {j : Nat} (h : eN τ P j = 0) : isN τ j ∧ P (τ j).2.1 = true := by
  unfold eN at h
  split at h
  · rename_i z
    split at h
    · rename_i y
      exact ⟨z, y⟩
    · exact absurd h (by decide)
  · exact absurd h (by decide)
theorem eW_x {τ : tK} {w j : Nat} (h : eW τ w j = 0) : isW τ j w := by
  unfold eW at h
  split at h
  · assumption
  · exact absurd h (by decide)
theorem eS_x {τ : tK} {s j : Nat} (h : eS τ s j = 0) : isS τ j s := by
  unfold eS at h
  split at h
  · assumption
  · exact absurd h (by decide)
theorem eW_n {τ : tK} {w j : Nat} (h : ¬ eW τ w j = 0) : ¬ isW τ j w ∧ eW τ w j = 1 := by
  unfold eW at h ⊢
  split at h
  · exact absurd rfl h
  · rename_i z
    rw [if_neg z]
    exact ⟨z, rfl⟩
theorem eS_n {τ : tK} {s j : Nat} (h : ¬ eS τ s j = 0) : ¬ isS τ j s ∧ eS τ s j = 1 := by
  unfold eS at h ⊢
  split at h
  · exact absurd rfl h
  · rename_i z
    rw [if_neg z]
    exact ⟨z, rfl⟩
/-! the class -/
theorem cN0 {τ : tK} {C : nM} {n j L : Nat} {c : List lOp} (h : TK τ n) (hB : CB τ n C) (hj : j ≤ n) (hL : L < 100000) (e : eN τ (bel L) j = 0) : fX6_numberBelow (nI L) (cs C j c) = some (nI (τ j).2.1, cs C (j + 1) c) ∧ j < n ∧ (τ j).2.1 < L ∧ ¬ nI (τ j).2.1 = (-1 : Int32) := by
  obtain ⟨z, y⟩ := eN_x e
  have y' : (τ j).2.1 < L := of_decide_eq_true y
  exact ⟨by rw [e_nb h hB hj hL, if_pos z, if_pos y'], tk_N h hj z, y', nI_nm1 (by omega)⟩
theorem cN1 {τ : tK} {C : nM} {n j L : Nat} {c : List lOp} (h : TK τ n) (hB : CB τ n C) (hj : j ≤ n) (hL : L < 100000) (e : ¬ eN τ (bel L) j = 0) : fX6_numberBelow (nI L) (cs C j c) = some (-1, ce τ C (eN τ (bel L) j) j c) := by
  rw [e_nb h hB hj hL]
  unfold eN at e ⊢
  by_cases z : isN τ j
  · rw [if_pos z] at e ⊢
    rw [if_pos z]
    by_cases y : (τ j).2.1 < L
    · exact absurd (if_pos (decide_eq_true y)) e
    · rw [if_neg y, if_neg (show ¬ bel L (τ j).2.1 = true from fun q => y (of_decide_eq_true q))]
  · rw [if_neg z, if_neg z]
theorem cW0 {τ : tK} {C : nM} {n j w : Nat} {c : List lOp} (h : TK τ n) (hB : CB τ n C) (hj : j ≤ n) (hw : w < 28) (e : eW τ w j = 0) : fX6_expect (nI (128 + tx_q w)) (cs C j c) = some (1, cs C (j + 1) c) ∧ j < n := by
  have z := eW_x e
  exact ⟨by rw [e_exW h hB hj hw, if_pos z], tk_W h hj z⟩
theorem cW1 {τ : tK} {C : nM} {n j w : Nat} {c : List lOp} (h : TK τ n) (hB : CB τ n C) (hj : j ≤ n) (hw : w < 28) (e : ¬ eW τ w j = 0) : fX6_expect (nI (128 + tx_q w)) (cs C j c) = some (0, ce τ C (eW τ w j) j c) := by
  obtain ⟨z, y⟩ := eW_n e
  rw [e_exW h hB hj hw, if_neg z, y]
theorem cS0 {τ : tK} {C : nM} {n j s : Nat} {c : List lOp} (h : TK τ n) (hB : CB τ n C) (hj : j ≤ n) (h5 : 5 ≤ s) (hs : s < 128) (e : eS τ s j = 0) : fX6_expect (nI s) (cs C j c) = some (1, cs C (j + 1) c) ∧ j < n := by
  have z := eS_x e
  exact ⟨by rw [e_exS h hB hj h5 hs, if_pos z], tk_S h hj z⟩
theorem cS1 {τ : tK} {C : nM} {n j s : Nat} {c : List lOp} (h : TK τ n) (hB : CB τ n C) (hj : j ≤ n) (h5 : 5 ≤ s) (hs : s < 128) (e : ¬ eS τ s j = 0) : fX6_expect (nI s) (cs C j c) = some (0, ce τ C (eS τ s j) j c) := by
  obtain ⟨z, y⟩ := eS_n e
  rw [e_exS h hB hj h5 hs, if_neg z, y]
/-! the model -/
theorem wi_b {x L : Nat} (hx : x < 100000) (hL : L < 100000) : wi (nI x) 0 (nI L - 1) = decide (x < L) := by
  unfold wi
  by_cases h0 : L = 0
  · subst h0
    rw [show nI 0 - 1 = (-1 : Int32) by decide, decide_eq_true (show (-1 : Int32) < nI x from by
      rw [Int32.lt_iff_toInt_lt, nI_toInt (by omega)]
      show (-1 : Int) < _
      omega), decide_eq_false (show ¬ x < 0 by omega)]
    cases decide (nI x < 0) <;> rfl
  · rw [show nI L - 1 = nI (L - 1) from pk_sub (b := 1) (by omega), decide_eq_false (nI_pos (by omega))]
    by_cases z : x < L
    · rw [decide_eq_false (nI_nlt (show x ≤ L - 1 by omega) (by omega)), decide_eq_true z]; rfl
    · rw [decide_eq_true (nI_lt (show L - 1 < x by omega) (by omega)), decide_eq_false z]; rfl
theorem mN0 {b : Nat → Nat} {k n j L N : Nat} {v : Int32} {D : nM} {c : List (Nat × Nat)} (hN : 1000 ≤ N) (hT : MT b k n) (hM : MB b k D) (hj : j ≤ n) (hL : L < 100000) (e : eN (tkT b k) (bel L) j = 0) : fX12_readNumber N (0 : Int32) (nI L - 1) (ms b k v D j c) = some (nI (tkT b k j).2.1, ms b k v D (j + 1) c) := by
  obtain ⟨h, h1⟩ := hT
  obtain ⟨z, y⟩ := eN_x e
  have z' : (tkT b k j).1 = 3 := z
  have y' : (tkT b k j).2.1 < L := of_decide_eq_true y
  have hv := (h.2 j hj).2.2.2.1 z
  unfold fX12_readNumber
  rw [if_pos ((e_mN h hj).mpr z), ms_19, tkw_v (by omega), e_isIn, Option.bind_some, wi_b (by omega) hL, decide_eq_true y', if_pos (show ¬ (cb true : Int32) = 0 by decide)]
  show ((fX12_reads_all N (ms b k v D j c)).bind fun p3 => some (ms b k v D j c 107 19, p3.2)) = _
  rw [ms_19, tkw_v (by omega), e_rds hN h1 hM hj, nx_l (tk_N h hj z)]
  rfl
theorem mN1 {b : Nat → Nat} {k n j L N : Nat} {v : Int32} {D : nM} {c : List (Nat × Nat)} (hT : MT b k n) (hj : j ≤ n) (hL : L < 100000) (e : ¬ eN (tkT b k) (bel L) j = 0) : fX12_readNumber N (0 : Int32) (nI L - 1) (ms b k v D j c) = some (-1, me b k v D (eN (tkT b k) (bel L) j) j c) := by
  obtain ⟨h, h1⟩ := hT
  unfold fX12_readNumber eN
  unfold eN at e
  by_cases z : isN (tkT b k) j
  · have z' : (tkT b k j).1 = 3 := z
    have hv := (h.2 j hj).2.2.2.1 z
    rw [if_pos z] at e
    have y : ¬ (tkT b k j).2.1 < L := fun y => e (if_pos (decide_eq_true y))
    rw [if_pos ((e_mN h hj).mpr z), ms_19, tkw_v (by omega), e_isIn, Option.bind_some, wi_b (by omega) hL, decide_eq_false y, if_neg (show ¬ ¬ (cb false : Int32) = 0 by decide), if_pos z, if_neg (show ¬ bel L (tkT b k j).2.1 = true from fun q => y (of_decide_eq_true q))]
    exact e_ers2 2
  · rw [if_neg (fun q => z ((e_mN h hj).mp q)), if_neg z]
    exact e_ers2 1
theorem mS0 {b : Nat → Nat} {k n j s N : Nat} {v : Int32} {D : nM} {c : List (Nat × Nat)} (hN : 1000 ≤ N) (hT : MT b k n) (hM : MB b k D) (hj : j ≤ n) (hs : s < 256) (e : eS (tkT b k) s j = 0) : fX12_readMark N (nI s) (ms b k v D j c) = some (0, ms b k v D (j + 1) c) := by
  obtain ⟨h, h1⟩ := hT
  have z := eS_x e
  unfold fX12_readMark
  rw [e_mS h hj hs, decide_eq_true z, Option.bind_some, if_pos (show ¬ (cb true : Int32) = 0 by decide)]
  show ((fX12_reads_all N (ms b k v D j c)).bind _) = _
  rw [e_rds hN h1 hM hj, nx_l (tk_S h hj z)]
  rfl
theorem mS1 {b : Nat → Nat} {k n j s N : Nat} {v : Int32} {D : nM} {c : List (Nat × Nat)} (hT : MT b k n) (hj : j ≤ n) (hs : s < 256) (e : ¬ eS (tkT b k) s j = 0) : fX12_readMark N (nI s) (ms b k v D j c) = some (-1, me b k v D (eS (tkT b k) s j) j c) := by
  obtain ⟨h, h1⟩ := hT
  obtain ⟨z, y⟩ := eS_n e
  unfold fX12_readMark
  rw [e_mS h hj hs, decide_eq_false z, Option.bind_some, if_neg (show ¬ ¬ (cb false : Int32) = 0 by decide), y]
  exact e_ers2 1
theorem mW0 {b : Nat → Nat} {k n j w L N : Nat} {v : Int32} {D : nM} {c : List (Nat × Nat)} (hN : 1000 ≤ N) (hT : MT b k n) (hM : MB b k D) (hj : j ≤ n) (hw : w < 256) (e : eW (tkT b k) w j = 0) : fX12_readTold N (nI w) (0 : Int32) (nI L - 1) (ms b k v D j c) = fX12_readNumber N (0 : Int32) (nI L - 1) (ms b k v D (j + 1) c) := by
  obtain ⟨h, h1⟩ := hT
  have z := eW_x e
  unfold fX12_readTold
  rw [e_mW h hj hw, decide_eq_true z, Option.bind_some, if_pos (show ¬ (cb true : Int32) = 0 by decide)]
  show ((fX12_reads_all N (ms b k v D j c)).bind _) = _
  rw [e_rds hN h1 hM hj, nx_l (tk_W h hj z), Option.bind_some]
  show ((fX12_readNumber N (0 : Int32) (nI L - 1) (ms b k v D (j + 1) c)).bind fun p3 => some (p3.1, p3.2)) = _
  cases fX12_readNumber N (0 : Int32) (nI L - 1) (ms b k v D (j + 1) c) with
  | none => rfl
  | some p => rfl
theorem mW1 {b : Nat → Nat} {k n j w L N : Nat} {v : Int32} {D : nM} {c : List (Nat × Nat)} (hT : MT b k n) (hj : j ≤ n) (hw : w < 256) (e : ¬ eW (tkT b k) w j = 0) : fX12_readTold N (nI w) (0 : Int32) (nI L - 1) (ms b k v D j c) = some (-1, me b k v D (eW (tkT b k) w j) j c) := by
  obtain ⟨h, h1⟩ := hT
  obtain ⟨z, y⟩ := eW_n e
  unfold fX12_readTold
  rw [e_mW h hj hw, decide_eq_false z, Option.bind_some, if_neg (show ¬ ¬ (cb false : Int32) = 0 by decide), y]
  exact e_ers2 1
/-! line by line, both -/
def FM (D D' : nM) : Prop := ∀ a i, (a = 127 ∨ a = 128 → i < 64) → (a = 129 → i < 12) → a ≠ 130 → D' a i = D a i
theorem FM_r (D : nM) : FM D D := fun _ _ _ _ _ => rfl
theorem FM_t {M M' M'' : nM} (h1 : FM M M') (h2 : FM M' M'') : FM M M'' := fun a i a1 a2 a3 => (h2 a i a1 a2 a3).trans (h1 a i a1 a2 a3)
theorem FM_M {b : Nat → Nat} {k : Nat} {M M' : nM} (h : FM M M') (hM : MB b k M) : MB b k M' := by
  obtain ⟨m1, m2, m3, m4⟩ := hM
  exact ⟨m1, by rw [h 107 15 (by omega) (by omega) (by decide)]; exact m2, fun i hi => by rw [h 117 i (by omega) (by omega) (by decide)]; exact m3 i hi, fun i hi => by rw [h 118 i (by omega) (by omega) (by decide)]; exact m4 i hi⟩
theorem FM_u {D : nM} {a i : Nat} {x : Int32} (h : ((a = 127 ∨ a = 128) ∧ 64 ≤ i) ∨ (a = 129 ∧ 12 ≤ i) ∨ a = 130) : FM D (n_up D a i x) := fun z t z1 z2 z3 => by
  by_cases e : z = a
  · subst e
    rw [n_up_eq, upd_ne (by omega)]
  · rw [n_up_ne e]
/-- how a line goes in both -/
def lnB (b : Nat → Nat) (k n : Nat) (v : Int32) (fC fM : nM → Option (Int32 × nM)) (j : Nat) (C D : nM) (I : nM → nM → Prop) : Prop := (∃ (e j' : Nat) (C' D' : nM), fC (cs C j []) = some (0, ce (tkT b k) C' e j' []) ∧ fM (ms b k v D j []) = some (-1, me b k v D' e j' []) ∧ FC C C' ∧ FM D D') ∨ (∃ (j' : Nat) (C' D' : nM), j < j' ∧ j' ≤ n ∧ fC (cs C j []) = some (1, cs C' j' []) ∧ fM (ms b k v D j []) = some (0, ms b k v D' j' []) ∧ FC C C' ∧ FM D D' ∧ I C' D')
theorem c_rows {b : Nat → Nat} {k n N t w : Nat} {v : Int32} {G : nG} {loop : Nat → Int32 → nM → Option (Int32 × nM)} {ln : Nat → nM → Option (Int32 × nM)} {I : Nat → nM → nM → Prop} (hT : MT b k n) (ht : (t = 1 ∧ w = 18) ∨ (t = 2 ∧ w = 18) ∨ (t = 3 ∧ w = 19)) (hl : ∀ (f i : Nat) (M : nM), i ≤ 16 → loop (f + 1) (nI i) M = (fX12_isWord (nI w) M).bind fun p1 => if p1.1 = 0 then (if ¬ (p1.2 107 18) = 0 then ((fX12_errs (1 : Int32) p1.2).bind fun p => some (p.1, p.2)) else some (nI i, p1.2)) else if ¬ nI i = (16 : Int32) then (ln i p1.2).bind fun p3 => if ¬ p3.1 = (-1 : Int32) then loop f (nI (i + 1)) p3.2 else some ((-1 : Int32), p3.2) else ((fX12_errs (3 : Int32) p1.2).bind fun p => some (p.1, p.2))) (hs : ∀ (m j : Nat) (C D : nM), m < 16 → j < n → isW (tkT b k) j w → CB (tkT b k) n C → MB b k D → I m C D → lnB b k n v (lnT N G t) (ln m) j C D (I (m + 1))) : ∀ (d j f g m : Nat) (C D : nM), j ≤ n → n < j + d → n < j + f → n < j + g → m ≤ 16 → CB (tkT b k) n C → MB b k D → I m C D → (∃ (e j' : Nat) (C' D' : nM), fX6_read_53 N G f (nI t) (nI m) (cs C j []) = some (0, ce (tkT b k) C' e j' []) ∧ loop g (nI m) (ms b k v D j []) = some (-1, me b k v D' e j' []) ∧ FC C C' ∧ FM D D') ∨ (∃ (j' m' : Nat) (C' D' : nM), fX6_read_53 N G f (nI t) (nI m) (cs C j []) = some (1, cs C' j' []) ∧ loop g (nI m) (ms b k v D j []) = some (nI m', ms b k v D' j' []) ∧ FC C C' ∧ FM D D' ∧ m' ≤ 16 ∧ I m' C' D') := by
  obtain ⟨h, h1⟩ := id hT
  have hn := h.1
  have eb : ∀ j, bgn (tkT b k) t j ↔ isW (tkT b k) j w := fun j => by
    unfold bgn
    rcases ht with ⟨q1, q2⟩ | ⟨q1, q2⟩ | ⟨q1, q2⟩
    · rw [if_neg (by omega), if_neg (by omega), q2]
    · rw [if_neg (by omega), if_neg (by omega), q2]
    · rw [if_neg (by omega), if_pos (by omega), q2]
  have hw : w < 256 := by omega
  intro d
  induction d with
  | zero => exact fun j f g m C D hj hd => absurd hd (by omega)
  | succ d ih =>
    intro j f g m C D hj hd hf hg hm hB hM hI
    obtain ⟨f, rfl⟩ : ∃ f', f = f' + 1 := ⟨f - 1, by omega⟩
    obtain ⟨g, rfl⟩ : ∃ g', g = g' + 1 := ⟨g - 1, by omega⟩
    obtain ⟨r1, r2, r3, r4⟩ := e_53 (N := N) (G := G) (f := f) (t := t) (i := m) (c := []) h hB hj (by omega) hm
    rw [hl g m _ hm, e_mW h hj hw, Option.bind_some]
    by_cases z : isW (tkT b k) j w
    · have hne : (tkT b k j).1 ≠ 0 := by rw [z.1]; decide
      have hjn := tk_W h hj z
      rw [decide_eq_true z, if_neg (show ¬ (cb true : Int32) = 0 by decide)]
      by_cases h16 : m = 16
      · rw [if_neg (not_not_intro (show nI m = (16 : Int32) by rw [h16]; rfl))]
        exact Or.inl ⟨3, j, C, D, r3 hne ((eb j).mpr z) h16, e_ers2 3, FC_r _, FM_r _⟩
      · rw [if_pos (show ¬ nI m = (16 : Int32) from fun q => h16 ((nI_eq (b := 16) (by omega) (by decide)).mp q)), r4 hne ((eb j).mpr z) (by omega)]
        show (∃ (e j' : Nat) (C' D' : nM), _ ∧ ((ln m (ms b k v D j [])).bind fun p3 => if ¬ p3.1 = (-1 : Int32) then loop g (nI (m + 1)) p3.2 else some ((-1 : Int32), p3.2)) = _ ∧ _) ∨ (∃ (j' m' : Nat) (C' D' : nM), _ ∧ ((ln m (ms b k v D j [])).bind fun p3 => if ¬ p3.1 = (-1 : Int32) then loop g (nI (m + 1)) p3.2 else some ((-1 : Int32), p3.2)) = _ ∧ _)
        rcases hs m j C D (by omega) hjn z hB hM hI with ⟨e, j', C', D', q1, q2, q3, q4⟩ | ⟨j', C', D', q0, q0', q1, q2, q3, q4, q5⟩
        · rw [q1, q2, Option.bind_some, Option.bind_some, if_neg (show ¬ ¬ (0 : Int32) = 0 by decide), if_neg (show ¬ ¬ (-1 : Int32) = -1 by decide)]
          exact Or.inl ⟨e, j', C', D', rfl, rfl, q3, q4⟩
        · rw [q1, q2, Option.bind_some, Option.bind_some, if_pos (show ¬ (1 : Int32) = 0 by decide), if_pos (show ¬ (0 : Int32) = -1 by decide)]
          rcases ih j' f g (m + 1) C' D' q0' (by omega) (by omega) (by omega) (by omega) (FC_B q3 hB) (FM_M q4 hM) q5 with ⟨e, j2, C2, D2, u1, u2, u3, u4⟩ | ⟨j2, m2, C2, D2, u1, u2, u3, u4, u5⟩
          · exact Or.inl ⟨e, j2, C2, D2, u1, u2, FC_t q3 u3, FM_t q4 u4⟩
          · exact Or.inr ⟨j2, m2, C2, D2, u1, u2, FC_t q3 u3, FM_t q4 u4, u5⟩
    · rw [decide_eq_false z, if_pos (show (cb false : Int32) = 0 from rfl)]
      show (∃ (e j' : Nat) (C' D' : nM), _ ∧ (if ¬ (ms b k v D j [] 107 18) = 0 then ((fX12_errs (1 : Int32) (ms b k v D j [])).bind fun p => some (p.1, p.2)) else some (nI m, ms b k v D j [])) = _ ∧ _) ∨ (∃ (j' m' : Nat) (C' D' : nM), _ ∧ (if ¬ (ms b k v D j [] 107 18) = 0 then ((fX12_errs (1 : Int32) (ms b k v D j [])).bind fun p => some (p.1, p.2)) else some (nI m, ms b k v D j [])) = _ ∧ _)
      rw [ms_18]
      by_cases h0 : (tkT b k j).1 = 0
      · rw [if_neg (not_not_intro (show nI (tkT b k j).1 = 0 by rw [h0]; rfl))]
        exact Or.inr ⟨j, m, C, D, r1 h0, rfl, FC_r _, FM_r _, hm, hI⟩
      · rw [if_pos (show ¬ nI (tkT b k j).1 = 0 from nI_ne0 (by omega) (by have := (h.2 j hj).2.1; omega))]
        exact Or.inl ⟨1, j, C, D, r2 h0 (fun q => z ((eb j).mp q)), e_ers2 1, FC_r _, FM_r _⟩
