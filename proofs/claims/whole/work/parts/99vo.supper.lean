/-! ===== text: supper ===== -/
def nbS (L : Int32) (X : Int32 → nM → Option (Int32 × nM)) (M : nM) : Option (Int32 × nM) := (fX6_numberBelow L M).bind fun p => if p.1 = (-1 : Int32) then some ((0 : Int32), p.2) else X p.1 p.2
def exX (s : Int32) (X : nM → Option (Int32 × nM)) (M : nM) : Option (Int32 × nM) := (fX6_expect s M).bind fun p => if ¬ p.1 = 0 then X p.2 else some ((0 : Int32), p.2)
theorem nbS_0 {τ : tK} {C : nM} {n j L : Nat} {c : List lOp} {X : Int32 → nM → Option (Int32 × nM)} (h : TK τ n) (hB : CB τ n C) (hj : j ≤ n) (hL : L < 100000) (e : eN τ (bel L) j = 0) : nbS (nI L) X (cs C j c) = X (nI (τ j).2.1) (cs C (j + 1) c) := by
  obtain ⟨q1, q2, q3, q4⟩ := cN0 (c := c) h hB hj hL e
  unfold nbS
  rw [q1, Option.bind_some, if_neg q4]
theorem nbS_1 {τ : tK} {C : nM} {n j L : Nat} {c : List lOp} {X : Int32 → nM → Option (Int32 × nM)} (h : TK τ n) (hB : CB τ n C) (hj : j ≤ n) (hL : L < 100000) (e : ¬ eN τ (bel L) j = 0) : nbS (nI L) X (cs C j c) = some (0, ce τ C (eN τ (bel L) j) j c) := by
  unfold nbS
  rw [cN1 h hB hj hL e, Option.bind_some, if_pos rfl]
theorem exW_0 {τ : tK} {C : nM} {n j w : Nat} {c : List lOp} {X : nM → Option (Int32 × nM)} (h : TK τ n) (hB : CB τ n C) (hj : j ≤ n) (hw : w < 28) (e : eW τ w j = 0) : exX (nI (128 + tx_q w)) X (cs C j c) = X (cs C (j + 1) c) := by
  unfold exX
  rw [(cW0 h hB hj hw e).1, Option.bind_some, if_pos (show ¬ (1 : Int32) = 0 by decide)]
theorem exW_1 {τ : tK} {C : nM} {n j w : Nat} {c : List lOp} {X : nM → Option (Int32 × nM)} (h : TK τ n) (hB : CB τ n C) (hj : j ≤ n) (hw : w < 28) (e : ¬ eW τ w j = 0) : exX (nI (128 + tx_q w)) X (cs C j c) = some (0, ce τ C (eW τ w j) j c) := by
  unfold exX
  rw [cW1 h hB hj hw e, Option.bind_some, if_neg (show ¬ ¬ (0 : Int32) = 0 by decide)]
theorem exS_0 {τ : tK} {C : nM} {n j s : Nat} {c : List lOp} {X : nM → Option (Int32 × nM)} (h : TK τ n) (hB : CB τ n C) (hj : j ≤ n) (h5 : 5 ≤ s) (hs : s < 128) (e : eS τ s j = 0) : exX (nI s) X (cs C j c) = X (cs C (j + 1) c) := by
  unfold exX
  rw [(cS0 h hB hj h5 hs e).1, Option.bind_some, if_pos (show ¬ (1 : Int32) = 0 by decide)]
theorem exS_1 {τ : tK} {C : nM} {n j s : Nat} {c : List lOp} {X : nM → Option (Int32 × nM)} (h : TK τ n) (hB : CB τ n C) (hj : j ≤ n) (h5 : 5 ≤ s) (hs : s < 128) (e : ¬ eS τ s j = 0) : exX (nI s) X (cs C j c) = some (0, ce τ C (eS τ s j) j c) := by
  unfold exX
  rw [cS1 h hB hj h5 hs e, Option.bind_some, if_neg (show ¬ ¬ (0 : Int32) = 0 by decide)]
theorem su_eq (G : nG) (M : nM) : fX6_supperLine G M = (fX6_step M).bind fun p1 => nbS (1000 : Int32) (fun a M => exX (147 : Int32) (fun M => nbS (M 3 6) (fun b M => exX (148 : Int32) (fun M => nbS (M 3 5) (fun c M => exX (149 : Int32) (fun M => nbS (12 : Int32) (fun d M => exX (59 : Int32) (fun M => (fX7_add G 91 a b c d M).bind fun p => some ((1 : Int32), p.2)) M) M) M) M) M) M) M) p1.2 := rfl
/-! the model -/
theorem me_up {b : Nat → Nat} {k j e a i : Nat} {v x : Int32} {M0 : nM} {c : List (Nat × Nat)} (h1 : a ≠ 124) (h2 : a ≠ 125) (h3 : a ≠ 107) : n_up (me b k v M0 e j c) a i x = me b k v (n_up M0 a i x) e j c := by
  unfold me
  rw [← ms_up h1 h2 (fun q => absurd q h3)]
  generalize ms b k v M0 j c = M
  funext z
  by_cases e1 : z = a
  · subst e1
    rw [n_up_eq, n_up_ne h3, n_up_ne h3, n_up_ne h3, n_up_ne h3, n_up_eq]
  · rw [n_up_ne e1]
    by_cases e2 : z = 107
    · subst e2
      rw [n_up_eq, n_up_eq, n_up_eq, n_up_eq, n_up_ne e1]
    · rw [n_up_ne e2, n_up_ne e2, n_up_ne e2, n_up_ne e2, n_up_ne e1]
/-- a number is put down in row z, if it is one -/
def stS (z : Nat) (a : Int32) (X : nM → Option (Int32 × nM)) (p : Int32 × nM) : Option (Int32 × nM) := n_chk (n_ib 128 a) (n_chk (n_ib 128 a) (if ¬ (n_up p.2 z a.toNatClampNeg p.1 z a.toNatClampNeg) = (-1 : Int32) then X (n_up p.2 z a.toNatClampNeg p.1) else some ((-1 : Int32), n_up p.2 z a.toNatClampNeg p.1)))
theorem stS_0 {b : Nat → Nat} {k j z A x : Nat} {v : Int32} {D : nM} {c : List (Nat × Nat)} {X : nM → Option (Int32 × nM)} (hz : z = 127 ∨ z = 128) (hA : A < 128) (hx : x < 100000) : stS z (nI A) X (nI x, ms b k v D j c) = X (ms b k v (n_up D z A (nI x)) j c) := by
  unfold stS
  rw [n_ib_nI hA (by decide), n_chk_t, n_chk_t, nI_clamp (show A < 2 ^ 31 by omega)]
  show (if ¬ n_up (ms b k v D j c) z A (nI x) z A = (-1 : Int32) then X (n_up (ms b k v D j c) z A (nI x)) else some ((-1 : Int32), n_up (ms b k v D j c) z A (nI x))) = _
  rw [n_up_eq, upd_eq, if_pos (nI_nm1 (by omega)), ms_up (by omega) (by omega) (fun q => by omega)]
theorem stS_1 {b : Nat → Nat} {k j z A e : Nat} {v : Int32} {D : nM} {c : List (Nat × Nat)} {X : nM → Option (Int32 × nM)} (hz : z = 127 ∨ z = 128) (hA : A < 128) : stS z (nI A) X (-1, me b k v D e j c) = some (-1, me b k v (n_up D z A (-1)) e j c) := by
  unfold stS
  rw [n_ib_nI hA (by decide), n_chk_t, n_chk_t, nI_clamp (show A < 2 ^ 31 by omega)]
  show (if ¬ n_up (me b k v D e j c) z A (-1) z A = (-1 : Int32) then X (n_up (me b k v D e j c) z A (-1)) else some ((-1 : Int32), n_up (me b k v D e j c) z A (-1))) = _
  rw [n_up_eq, upd_eq, if_neg (show ¬ ¬ (-1 : Int32) = -1 by decide), me_up (by omega) (by omega) (by omega)]
def tdS (N z : Nat) (w hi a : Int32) (X : nM → Option (Int32 × nM)) (M : nM) : Option (Int32 × nM) := (fX12_readTold N w (0 : Int32) hi M).bind fun p => stS z a X p
theorem tdS_0 {b : Nat → Nat} {k n j z A w L N : Nat} {v : Int32} {D : nM} {c : List (Nat × Nat)} {X : nM → Option (Int32 × nM)} (hN : 1000 ≤ N) (hT : MT b k n) (hM : MB b k D) (hj : j + 1 ≤ n) (hw : w < 256) (hL : L < 100000) (hz : z = 127 ∨ z = 128) (hA : A < 128) (e1 : eW (tkT b k) w j = 0) (e2 : eN (tkT b k) (bel L) (j + 1) = 0) : tdS N z (nI w) (nI L - 1) (nI A) X (ms b k v D j c) = X (ms b k v (n_up D z A (nI (tkT b k (j + 1)).2.1)) (j + 1 + 1) c) := by
  unfold tdS
  rw [mW0 hN hT hM (by omega) hw e1, mN0 hN hT hM hj hL e2, Option.bind_some]
  exact stS_0 hz hA (by have := (hT.1.2 (j + 1) hj).2.2.2.1 (eN_x e2).1; omega)
theorem tdS_1 {b : Nat → Nat} {k n j z A w L N : Nat} {v : Int32} {D : nM} {c : List (Nat × Nat)} {X : nM → Option (Int32 × nM)} (hT : MT b k n) (hj : j ≤ n) (hw : w < 256) (hz : z = 127 ∨ z = 128) (hA : A < 128) (e1 : ¬ eW (tkT b k) w j = 0) : tdS N z (nI w) (nI L - 1) (nI A) X (ms b k v D j c) = some (-1, me b k v (n_up D z A (-1)) (eW (tkT b k) w j) j c) := by
  unfold tdS
  rw [mW1 hT hj hw e1, Option.bind_some]
  exact stS_1 hz hA
theorem tdS_2 {b : Nat → Nat} {k n j z A w L N : Nat} {v : Int32} {D : nM} {c : List (Nat × Nat)} {X : nM → Option (Int32 × nM)} (hN : 1000 ≤ N) (hT : MT b k n) (hM : MB b k D) (hj : j + 1 ≤ n) (hw : w < 256) (hL : L < 100000) (hz : z = 127 ∨ z = 128) (hA : A < 128) (e1 : eW (tkT b k) w j = 0) (e2 : ¬ eN (tkT b k) (bel L) (j + 1) = 0) : tdS N z (nI w) (nI L - 1) (nI A) X (ms b k v D j c) = some (-1, me b k v (n_up D z A (-1)) (eN (tkT b k) (bel L) (j + 1)) (j + 1) c) := by
  unfold tdS
  rw [mW0 hN hT hM (by omega) hw e1, mN1 hT hj hL e2, Option.bind_some]
  exact stS_1 hz hA
theorem pu_eq (N : Nat) (x1 : Int32) (M : nM) : fX12_readPut N x1 M = tdS N 127 (18 : Int32) (999 : Int32) x1 (fun M => tdS N 127 (19 : Int32) ((M 107 7) - (1 : Int32)) (x1 + (1 : Int32)) (fun M => tdS N 127 (20 : Int32) ((M 107 6) - (1 : Int32)) (x1 + (2 : Int32)) (fun M => tdS N 127 (21 : Int32) (11 : Int32) (x1 + (3 : Int32)) (fun M => (fX12_readMark N (59 : Int32) M).bind fun p => some (p.1, p.2)) M) M) M) M := rfl
/-- both have the same rows of supper so far -/
def IS (T P : Nat) (m : Nat) (C D : nM) : Prop := C 91 3 = nI m ∧ r_wm (C 91 1) (C 91 2) 4 16 ∧ (C 3 5 = nI T ∧ C 3 6 = nI P ∧ D 107 6 = nI T ∧ D 107 7 = nI P) ∧ (∀ i, i < 4 * m → C 92 i = D 127 (64 + i)) ∧ ∀ i, i < m → ∃ a b c : Nat, a < P ∧ b < T ∧ c < 12 ∧ C 92 (4 * i + 1) = nI a ∧ C 92 (4 * i + 2) = nI b ∧ C 92 (4 * i + 3) = nI c
theorem c_sup {b : Nat → Nat} {k n N T P m j : Nat} {v : Int32} {G : nG} {C D : nM} (hN : 1000 ≤ N) (hG : n_GOK G) (hT : MT b k n) (hT16 : T ≤ 16) (hP : P ≤ 12) (hm : m < 16) (hj : j < n) (hw : isW (tkT b k) j 18) (hB : CB (tkT b k) n C) (hM : MB b k D) (hI : IS T P m C D) : lnB b k n v (lnT N G 1) (fun M => fX12_readPut N (nI (64 + 4 * m)) M) j C D (IS T P (m + 1)) := by
  obtain ⟨h, h1⟩ := id hT
  have hn := h.1
  obtain ⟨i1, i2, ⟨i3, i4, i5, i6⟩, i7, i8⟩ := id hI
  have e0 : eW (tkT b k) 18 j = 0 := if_pos hw
  have c36 : ∀ t, cs C t [] 3 6 = nI P := fun t => by rw [cs_o (by decide) (by decide) (by decide)]; exact i4
  have c35 : ∀ t, cs C t [] 3 5 = nI T := fun t => by rw [cs_o (by decide) (by decide) (by decide)]; exact i3
  have eC : lnT N G 1 (cs C j []) = nbS (nI 1000) (fun a M => exX (nI (128 + tx_q 19)) (fun M => nbS (M 3 6) (fun b M => exX (nI (128 + tx_q 20)) (fun M => nbS (M 3 5) (fun c M => exX (nI (128 + tx_q 21)) (fun M => nbS (nI 12) (fun d M => exX (nI 59) (fun M => (fX7_add G 91 a b c d M).bind fun p => some ((1 : Int32), p.2)) M) M) M) M) M) M) M) (cs C (j + 1) []) := by
    show fX6_supperLine G (cs C j []) = _
    rw [su_eq, e_stp h hB (by omega), nx_l hj, Option.bind_some, kw_j.2.1, kw_j.2.2.1, kw_j.2.2.2.1]
    rfl
  have eD : fX12_readPut N (nI (64 + 4 * m)) (ms b k v D j []) = tdS N 127 (nI 18) (nI 1000 - 1) (nI (64 + 4 * m)) (fun M => tdS N 127 (nI 19) ((M 107 7) - (1 : Int32)) (nI (64 + 4 * m + 1)) (fun M => tdS N 127 (nI 20) ((M 107 6) - (1 : Int32)) (nI (64 + 4 * m + 2)) (fun M => tdS N 127 (nI 21) (nI 12 - 1) (nI (64 + 4 * m + 3)) (fun M => (fX12_readMark N (nI 59) M).bind fun p => some (p.1, p.2)) M) M) M) (ms b k v D j []) := by
    rw [pu_eq, nI_1, show nI (64 + 4 * m) + (2 : Int32) = nI (64 + 4 * m + 2) from nI_add _ 2, show nI (64 + 4 * m) + (3 : Int32) = nI (64 + 4 * m + 3) from nI_add _ 3, show (999 : Int32) = nI 1000 - 1 by decide, show (11 : Int32) = nI 12 - 1 by decide]
    rfl
  have M7 : ∀ (D' : nM) t, D' 107 = D 107 → ms b k v D' t [] 107 7 = nI P := fun D' t q => by rw [ms_7o (by omega) (by decide), q]; exact i6
  have M6 : ∀ (D' : nM) t, D' 107 = D 107 → ms b k v D' t [] 107 6 = nI T := fun D' t q => by rw [ms_7o (by omega) (by decide), q]; exact i5
  unfold lnB
  rw [eC]
  show (∃ (e j' : Nat) (C' D' : nM), _ ∧ fX12_readPut N (nI (64 + 4 * m)) (ms b k v D j []) = _ ∧ _) ∨ (∃ (j' : Nat) (C' D' : nM), _ ∧ _ ∧ _ ∧ fX12_readPut N (nI (64 + 4 * m)) (ms b k v D j []) = _ ∧ _)
  rw [eD]
  -- the hour
  by_cases s1 : eN (tkT b k) (bel 1000) (j + 1) = 0
  case neg =>
    rw [nbS_1 h hB hj (by decide) s1, tdS_2 hN hT hM hj (by decide) (by decide) (Or.inl rfl) (by omega) e0 s1]
    exact Or.inl ⟨_, _, C, _, rfl, rfl, FC_r _, FM_u (Or.inl ⟨Or.inl rfl, by omega⟩)⟩
  have l1 := tk_N h (show j + 1 ≤ n from hj) (eN_x s1).1
  rw [nbS_0 h hB hj (by decide) s1, tdS_0 hN hT hM hj (by decide) (by decide) (Or.inl rfl) (by omega) e0 s1]
  obtain ⟨D1, hD1⟩ : ∃ D1, D1 = n_up D 127 (64 + 4 * m) (nI (tkT b k (j + 1)).2.1) := ⟨_, rfl⟩
  have F1 : FM D D1 := by rw [hD1]; exact FM_u (Or.inl ⟨Or.inl rfl, by omega⟩)
  have hM1 := FM_M F1 hM
  have e71 : D1 107 = D 107 := by rw [hD1, n_up_ne (by decide)]
  rw [← hD1, M7 D1 _ e71]
  -- the person
  by_cases s2 : eW (tkT b k) 19 (j + 1 + 1) = 0
  case neg =>
    rw [exW_1 h hB l1 (by decide) s2, tdS_1 hT l1 (by decide) (Or.inl rfl) (by omega) s2]
    exact Or.inl ⟨_, _, C, _, rfl, rfl, FC_r _, FM_t F1 (FM_u (Or.inl ⟨Or.inl rfl, by omega⟩))⟩
  have l2 := tk_W h l1 (eW_x s2)
  rw [exW_0 h hB l1 (by decide) s2, c36]
  by_cases s3 : eN (tkT b k) (bel P) (j + 1 + 1 + 1) = 0
  case neg =>
    rw [nbS_1 h hB l2 (by omega) s3, tdS_2 hN hT hM1 l2 (by decide) (by omega) (Or.inl rfl) (by omega) s2 s3]
    exact Or.inl ⟨_, _, C, _, rfl, rfl, FC_r _, FM_t F1 (FM_u (Or.inl ⟨Or.inl rfl, by omega⟩))⟩
  have l3 := tk_N h l2 (eN_x s3).1
  rw [nbS_0 h hB l2 (by omega) s3, tdS_0 hN hT hM1 l2 (by decide) (by omega) (Or.inl rfl) (by omega) s2 s3]
  obtain ⟨D2, hD2⟩ : ∃ D2, D2 = n_up D1 127 (64 + 4 * m + 1) (nI (tkT b k (j + 1 + 1 + 1)).2.1) := ⟨_, rfl⟩
  have F2 : FM D D2 := by rw [hD2]; exact FM_t F1 (FM_u (Or.inl ⟨Or.inl rfl, by omega⟩))
  have hM2 := FM_M F2 hM
  have e72 : D2 107 = D 107 := by rw [hD2, n_up_ne (by decide)]; exact e71
  rw [← hD2, M6 D2 _ e72]
  -- the thing
  by_cases s4 : eW (tkT b k) 20 (j + 1 + 1 + 1 + 1) = 0
  case neg =>
    rw [exW_1 h hB l3 (by decide) s4, tdS_1 hT l3 (by decide) (Or.inl rfl) (by omega) s4]
    exact Or.inl ⟨_, _, C, _, rfl, rfl, FC_r _, FM_t F2 (FM_u (Or.inl ⟨Or.inl rfl, by omega⟩))⟩
  have l4 := tk_W h l3 (eW_x s4)
  rw [exW_0 h hB l3 (by decide) s4, c35]
  by_cases s5 : eN (tkT b k) (bel T) (j + 1 + 1 + 1 + 1 + 1) = 0
  case neg =>
    rw [nbS_1 h hB l4 (by omega) s5, tdS_2 hN hT hM2 l4 (by decide) (by omega) (Or.inl rfl) (by omega) s4 s5]
    exact Or.inl ⟨_, _, C, _, rfl, rfl, FC_r _, FM_t F2 (FM_u (Or.inl ⟨Or.inl rfl, by omega⟩))⟩
  have l5 := tk_N h l4 (eN_x s5).1
  rw [nbS_0 h hB l4 (by omega) s5, tdS_0 hN hT hM2 l4 (by decide) (by omega) (Or.inl rfl) (by omega) s4 s5]
  obtain ⟨D3, hD3⟩ : ∃ D3, D3 = n_up D2 127 (64 + 4 * m + 2) (nI (tkT b k (j + 1 + 1 + 1 + 1 + 1)).2.1) := ⟨_, rfl⟩
  have F3 : FM D D3 := by rw [hD3]; exact FM_t F2 (FM_u (Or.inl ⟨Or.inl rfl, by omega⟩))
  have hM3 := FM_M F3 hM
  rw [← hD3]
  -- the place
  by_cases s6 : eW (tkT b k) 21 (j + 1 + 1 + 1 + 1 + 1 + 1) = 0
  case neg =>
    rw [exW_1 h hB l5 (by decide) s6, tdS_1 hT l5 (by decide) (Or.inl rfl) (by omega) s6]
    exact Or.inl ⟨_, _, C, _, rfl, rfl, FC_r _, FM_t F3 (FM_u (Or.inl ⟨Or.inl rfl, by omega⟩))⟩
  have l6 := tk_W h l5 (eW_x s6)
  rw [exW_0 h hB l5 (by decide) s6]
  by_cases s7 : eN (tkT b k) (bel 12) (j + 1 + 1 + 1 + 1 + 1 + 1 + 1) = 0
  case neg =>
    rw [nbS_1 h hB l6 (by decide) s7, tdS_2 hN hT hM3 l6 (by decide) (by decide) (Or.inl rfl) (by omega) s6 s7]
    exact Or.inl ⟨_, _, C, _, rfl, rfl, FC_r _, FM_t F3 (FM_u (Or.inl ⟨Or.inl rfl, by omega⟩))⟩
  have l7 := tk_N h l6 (eN_x s7).1
  rw [nbS_0 h hB l6 (by decide) s7, tdS_0 hN hT hM3 l6 (by decide) (by decide) (Or.inl rfl) (by omega) s6 s7]
  obtain ⟨D4, hD4⟩ : ∃ D4, D4 = n_up D3 127 (64 + 4 * m + 3) (nI (tkT b k (j + 1 + 1 + 1 + 1 + 1 + 1 + 1)).2.1) := ⟨_, rfl⟩
  have F4 : FM D D4 := by rw [hD4]; exact FM_t F3 (FM_u (Or.inl ⟨Or.inl rfl, by omega⟩))
  have hM4 := FM_M F4 hM
  have e74 : D4 107 = D 107 := by rw [hD4, n_up_ne (by decide), hD3, n_up_ne (by decide)]; exact e72
  rw [← hD4]
  -- its end
  by_cases s8 : eS (tkT b k) 59 (j + 1 + 1 + 1 + 1 + 1 + 1 + 1 + 1) = 0
  case neg =>
    rw [exS_1 h hB l7 (by decide) (by decide) s8, mS1 hT l7 (by decide) s8]
    exact Or.inl ⟨_, _, C, _, rfl, rfl, FC_r _, F4⟩
  have l8 := tk_S h l7 (eS_x s8)
  rw [exS_0 h hB l7 (by decide) (by decide) s8, mS0 hN hT hM4 l7 (by decide) s8, e_addR hG i2 i1 hm]
  have v3 : (tkT b k (j + 1 + 1 + 1)).2.1 < P := of_decide_eq_true (eN_x s3).2
  have v5 : (tkT b k (j + 1 + 1 + 1 + 1 + 1)).2.1 < T := of_decide_eq_true (eN_x s5).2
  have v7 : (tkT b k (j + 1 + 1 + 1 + 1 + 1 + 1 + 1)).2.1 < 12 := of_decide_eq_true (eN_x s7).2
  have e27 : D4 127 = upd (upd (upd (upd (D 127) (64 + 4 * m) (nI (tkT b k (j + 1)).2.1)) (64 + 4 * m + 1) (nI (tkT b k (j + 1 + 1 + 1)).2.1)) (64 + 4 * m + 2) (nI (tkT b k (j + 1 + 1 + 1 + 1 + 1)).2.1)) (64 + 4 * m + 3) (nI (tkT b k (j + 1 + 1 + 1 + 1 + 1 + 1 + 1)).2.1) := by
    rw [hD4, n_up_eq, hD3, n_up_eq, hD2, n_up_eq, hD1, n_up_eq]
  refine Or.inr ⟨_, _, D4, by omega, l8, rfl, rfl, FC_add, F4, add4_c, ?_, ⟨?_, ?_, ?_, ?_⟩, fun i hi => ?_, fun i hi => ?_⟩
  · rw [add4_w (by decide), add4_w (by decide)]; exact i2
  · rw [FC_add.1 3 (by decide) (by omega)]; exact i3
  · rw [FC_add.1 3 (by decide) (by omega)]; exact i4
  · rw [e74]; exact i5
  · rw [e74]; exact i6
  · rw [e27]
    by_cases q : i < 4 * m
    · rw [add4_lt q, upd_ne (by omega), upd_ne (by omega), upd_ne (by omega), upd_ne (by omega)]
      exact i7 i q
    · have : i = 4 * m ∨ i = 4 * m + 1 ∨ i = 4 * m + 2 ∨ i = 4 * m + 3 := by omega
      rcases this with q | q | q | q
      · subst q
        rw [add4_0, upd_ne (by omega), upd_ne (by omega), upd_ne (by omega), upd_eq]
      · subst q
        rw [add4_1, show 64 + (4 * m + 1) = 64 + 4 * m + 1 by omega, upd_ne (by omega), upd_ne (by omega), upd_eq]
      · subst q
        rw [add4_2, show 64 + (4 * m + 2) = 64 + 4 * m + 2 by omega, upd_ne (by omega), upd_eq]
      · subst q
        rw [add4_3, show 64 + (4 * m + 3) = 64 + 4 * m + 3 by omega, upd_eq]
  · by_cases q : i < m
    · obtain ⟨a, b', c, q1, q2, q3, q4, q5, q6⟩ := i8 i q
      exact ⟨a, b', c, q1, q2, q3, by rw [add4_lt (by omega)]; exact q4, by rw [add4_lt (by omega)]; exact q5, by rw [add4_lt (by omega)]; exact q6⟩
    · rw [show i = m by omega]
      exact ⟨_, _, _, v3, v5, v7, add4_1, add4_2, add4_3⟩
