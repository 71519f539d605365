/-! ===== text: customs ===== -/
def lnE (b : Nat → Nat) (k n : Nat) (v : Int32) (rC rM : Option (Int32 × nM)) (j : Nat) (C D : nM) (I : nM → nM → Prop) : Prop := (∃ (e j' : Nat) (C' D' : nM), rC = some (0, ce (tkT b k) C' e j' []) ∧ rM = some (-1, me b k v D' e j' []) ∧ FC C C' ∧ FM D D') ∨ (∃ (j' : Nat) (C' D' : nM), j < j' ∧ j' ≤ n ∧ rC = some (1, cs C' j' []) ∧ rM = some (0, ms b k v D' j' []) ∧ FC C C' ∧ FM D D' ∧ I C' D')
/-- which custom -/
def cK (τ : tK) (j : Nat) : Nat := if isW τ j 22 then 0 else if isW τ j 23 then 1 else if isW τ j 13 then 2 else if isW τ j 24 then 3 else if isW τ j 25 then 4 else 5
theorem e_ckC {τ : tK} {C : nM} {n j : Nat} {c : List lOp} (h : TK τ n) (hB : CB τ n C) (hj : j ≤ n) : fX6_customKind (cs C j c) = some (if cK τ j < 5 then nI (cK τ j) else -1, cs C j c) := by
  unfold fX6_customKind
  rw [e_chk h hj, e_82 h hB hj, kw_j.2.2.2.2.1, kw_j.2.2.2.2.2.1, kw_j.2.2.2.2.2.2.1, kw_j.2.2.2.2.2.2.2.1, kw_j.2.2.2.2.2.2.2.2.1]
  have kW : ∀ w, w < 28 → (nI (tx_kd (τ j).1 (τ j).2.1) = nI (128 + tx_q w) ↔ isW τ j w) := fun w hw => kd_W h hj hw
  have no : ∀ {w w' : Nat}, isW τ j w → w ≠ w' → ¬ isW τ j w' := fun z q y => q (z.2.symm.trans y.2)
  unfold cK
  by_cases a2 : isW τ j 13
  · rw [if_pos ((kW 13 (by decide)).mpr a2), if_neg (no a2 (by decide)), if_neg (no a2 (by decide)), if_pos a2]; rfl
  rw [if_neg (fun q => a2 ((kW 13 (by decide)).mp q))]
  by_cases a0 : isW τ j 22
  · rw [if_pos ((kW 22 (by decide)).mpr a0), if_pos a0]; rfl
  rw [if_neg (fun q => a0 ((kW 22 (by decide)).mp q)), if_neg a0]
  by_cases a1 : isW τ j 23
  · rw [if_pos ((kW 23 (by decide)).mpr a1), if_pos a1]; rfl
  rw [if_neg (fun q => a1 ((kW 23 (by decide)).mp q)), if_neg a1, if_neg a2]
  by_cases a3 : isW τ j 24
  · rw [if_pos ((kW 24 (by decide)).mpr a3), if_pos a3]; rfl
  rw [if_neg (fun q => a3 ((kW 24 (by decide)).mp q)), if_neg a3]
  by_cases a4 : isW τ j 25
  · rw [if_pos ((kW 25 (by decide)).mpr a4), if_pos a4]; rfl
  rw [if_neg (fun q => a4 ((kW 25 (by decide)).mp q)), if_neg a4]
  rfl
theorem e_ckM {b : Nat → Nat} {k n j : Nat} {v : Int32} {D : nM} {c : List (Nat × Nat)} (h : TK (tkT b k) n) (hj : j ≤ n) : fX12_kindOfDeed (ms b k v D j c) = some (if cK (tkT b k) j < 5 then nI (cK (tkT b k) j) else -1, ms b k v D j c) := by
  have w22 := e_mW (v := v) (M0 := D) (c := c) (s := 22) h hj (by decide)
  have w23 := e_mW (v := v) (M0 := D) (c := c) (s := 23) h hj (by decide)
  have w13 := e_mW (v := v) (M0 := D) (c := c) (s := 13) h hj (by decide)
  have w24 := e_mW (v := v) (M0 := D) (c := c) (s := 24) h hj (by decide)
  have w25 := e_mW (v := v) (M0 := D) (c := c) (s := 25) h hj (by decide)
  unfold fX12_kindOfDeed cK
  rw [show (22 : Int32) = nI 22 from rfl, w22, Option.bind_some]
  by_cases a0 : isW (tkT b k) j 22
  · rw [decide_eq_true a0, if_neg (show ¬ (cb true : Int32) = 0 by decide), if_pos a0]; rfl
  rw [decide_eq_false a0, if_pos (show (cb false : Int32) = 0 from rfl), if_neg a0]
  show ((fX12_isWord (nI 23) (ms b k v D j c)).bind _) = _
  rw [w23, Option.bind_some]
  by_cases a1 : isW (tkT b k) j 23
  · rw [decide_eq_true a1, if_neg (show ¬ (cb true : Int32) = 0 by decide), if_pos a1]; rfl
  rw [decide_eq_false a1, if_pos (show (cb false : Int32) = 0 from rfl), if_neg a1]
  show ((fX12_isWord (nI 13) (ms b k v D j c)).bind _) = _
  rw [w13, Option.bind_some]
  by_cases a2 : isW (tkT b k) j 13
  · rw [decide_eq_true a2, if_neg (show ¬ (cb true : Int32) = 0 by decide), if_pos a2]; rfl
  rw [decide_eq_false a2, if_pos (show (cb false : Int32) = 0 from rfl), if_neg a2]
  show ((fX12_isWord (nI 24) (ms b k v D j c)).bind _) = _
  rw [w24, Option.bind_some]
  by_cases a3 : isW (tkT b k) j 24
  · rw [decide_eq_true a3, if_neg (show ¬ (cb true : Int32) = 0 by decide), if_pos a3]; rfl
  rw [decide_eq_false a3, if_pos (show (cb false : Int32) = 0 from rfl), if_neg a3]
  show ((fX12_isWord (nI 25) (ms b k v D j c)).bind _) = _
  rw [w25, Option.bind_some]
  by_cases a4 : isW (tkT b k) j 25
  · rw [decide_eq_true a4, if_neg (show ¬ (cb true : Int32) = 0 by decide), if_pos a4]; rfl
  rw [decide_eq_false a4, if_pos (show (cb false : Int32) = 0 from rfl), if_neg a4]
  rfl
theorem cK_n {τ : tK} {n j : Nat} (h : TK τ n) (hj : j ≤ n) (hk : cK τ j < 5) : j < n := by
  refine tk_lt h hj (fun z => ?_)
  have no : ∀ w, ¬ isW τ j w := fun w y => absurd (y.1.symm.trans z) (by decide)
  unfold cK at hk
  rw [if_neg (no 22), if_neg (no 23), if_neg (no 13), if_neg (no 24), if_neg (no 25)] at hk
  exact absurd hk (by decide)
/-- both have the same rows of customs so far -/
def IK (P : Nat) (m : Nat) (C D : nM) : Prop := C 91 3 = nI m ∧ r_wm (C 91 1) (C 91 2) 4 16 ∧ (C 3 6 = nI P ∧ D 107 7 = nI P) ∧ (∀ i, i < 4 * m → C 92 i = D 128 (64 + i)) ∧ ∀ i, i < m → ∃ a b c : Nat, a < 5 ∧ c < 12 ∧ (a = 2 ∨ a = 3 → b < 12) ∧ (¬ (a = 2 ∨ a = 3) → b < P) ∧ C 92 (4 * i + 1) = nI a ∧ C 92 (4 * i + 2) = nI b ∧ C 92 (4 * i + 3) = nI c
theorem u100_eq (G : nG) (x1 x2 x4 s0 : Int32) (M : nM) : fX6_customLine_100 G x1 x2 x4 s0 M = if s0 = (-1 : Int32) then some ((0 : Int32), M) else exX (59 : Int32) (fun M => (fX7_add G 91 x1 x2 x4 s0 M).bind fun p => some ((1 : Int32), p.2)) M := rfl
theorem c_cuE {b : Nat → Nat} {k n N P m j j' a K w y : Nat} {v : Int32} {G : nG} {C D D3 : nM} (hN : 1000 ≤ N) (hG : n_GOK G) (hT : MT b k n) (hm : m < 16) (hj : j < j') (hj' : j' ≤ n) (hB : CB (tkT b k) n C) (hM : MB b k D) (hI : IK P m C D) (hK : K < 5) (hy : y < 12) (hw1 : K = 2 ∨ K = 3 → w < 12) (hw2 : ¬ (K = 2 ∨ K = 3) → w < P) (hD3 : D3 = n_up (n_up (n_up D 128 (64 + 4 * m) (nI a)) 128 (64 + 4 * m + 1) (nI K)) 128 (64 + 4 * m + 2) (nI w)) : lnE b k n v (fX6_customLine_100 G (nI a) (nI K) (nI w) (nI y) (cs C j' [])) (stS 128 (nI (64 + 4 * m + 3)) (fun M => (fX12_readMark N (nI 59) M).bind fun p => some (p.1, p.2)) (nI y, ms b k v D3 j' [])) j C D (IK P (m + 1)) := by
  obtain ⟨h, h1⟩ := id hT
  have hn := h.1
  obtain ⟨i1, i2, ⟨i4, i6⟩, i7, i8⟩ := id hI
  have F3 : FM D D3 := by rw [hD3]; exact FM_t (FM_t (FM_u (Or.inl ⟨Or.inr rfl, by omega⟩)) (FM_u (Or.inl ⟨Or.inr rfl, by omega⟩))) (FM_u (Or.inl ⟨Or.inr rfl, by omega⟩))
  obtain ⟨D4, hD4⟩ : ∃ D4, D4 = n_up D3 128 (64 + 4 * m + 3) (nI y) := ⟨_, rfl⟩
  have F4 : FM D D4 := by rw [hD4]; exact FM_t F3 (FM_u (Or.inl ⟨Or.inr rfl, by omega⟩))
  have hM4 := FM_M F4 hM
  have e74 : D4 107 = D 107 := by rw [hD4, n_up_ne (by decide), hD3, n_up_ne (by decide), n_up_ne (by decide), n_up_ne (by decide)]
  rw [u100_eq, if_neg (nI_nm1 (by omega)), stS_0 (Or.inr rfl) (by omega) (by omega), ← hD4, show (59 : Int32) = nI 59 from rfl]
  unfold lnE
  by_cases s8 : eS (tkT b k) 59 j' = 0
  case neg =>
    rw [exS_1 h hB hj' (by decide) (by decide) s8, mS1 hT hj' (by decide) s8]
    exact Or.inl ⟨_, _, C, _, rfl, rfl, FC_r _, F4⟩
  have l8 := tk_S h hj' (eS_x s8)
  rw [exS_0 h hB hj' (by decide) (by decide) s8, mS0 hN hT hM4 hj' (by decide) s8, e_addR hG i2 i1 hm]
  have e27 : D4 128 = upd (upd (upd (upd (D 128) (64 + 4 * m) (nI a)) (64 + 4 * m + 1) (nI K)) (64 + 4 * m + 2) (nI w)) (64 + 4 * m + 3) (nI y) := by
    rw [hD4, n_up_eq, hD3, n_up_eq, n_up_eq, n_up_eq]
  refine Or.inr ⟨_, _, D4, by omega, l8, rfl, rfl, FC_add, F4, add4_c, ?_, ⟨?_, ?_⟩, fun i hi => ?_, fun i hi => ?_⟩
  · rw [add4_w (by decide), add4_w (by decide)]; exact i2
  · rw [FC_add.1 3 (by decide) (by omega)]; exact i4
  · rw [e74]; exact i6
  · rw [e27]
    by_cases q : i < 4 * m
    · rw [add4_lt q, upd_ne (by omega), upd_ne (by omega), upd_ne (by omega), upd_ne (by omega)]
      exact i7 i q
    · have : i = 4 * m ∨ i = 4 * m + 1 ∨ i = 4 * m + 2 ∨ i = 4 * m + 3 := by omega
      rcases this with q | q | q | q
      · subst q
        rw [add4_0, upd_ne (by omega), upd_ne (by omega), upd_ne (by omega), upd_eq]
      · subst q
        rw [add4_1, show 64 + (4 * m + 1) = 64 + 4 * m + 1 by omega, upd_ne (by omega), upd_ne (by omega), upd_eq]
      · subst q
        rw [add4_2, show 64 + (4 * m + 2) = 64 + 4 * m + 2 by omega, upd_ne (by omega), upd_eq]
      · subst q
        rw [add4_3, show 64 + (4 * m + 3) = 64 + 4 * m + 3 by omega, upd_eq]
  · by_cases q : i < m
    · obtain ⟨a', b', c', q1, q2, q3, q4, q5, q6, q7⟩ := i8 i q
      exact ⟨a', b', c', q1, q2, q3, q4, by rw [add4_lt (by omega)]; exact q5, by rw [add4_lt (by omega)]; exact q6, by rw [add4_lt (by omega)]; exact q7⟩
    · rw [show i = m by omega]
      exact ⟨_, _, _, hK, hy, hw1, hw2, add4_1, add4_2, add4_3⟩
theorem u72_eq (G : nG) (x1 x2 s0 : Int32) (M : nM) : fX6_customLine_72 G x1 x2 s0 M = (fX6_numberBelow s0 M).bind fun p1 => if ¬ p1.1 = (-1 : Int32) then (if ¬ x2 = (4 : Int32) then fX6_customLine_100 G x1 x2 p1.1 (0 : Int32) p1.2 else (fX6_numberBelow (12 : Int32) p1.2).bind fun p2 => fX6_customLine_100 G x1 x2 p1.1 p2.1 p2.2) else some ((0 : Int32), p1.2) := rfl
/-- the model's rest of a custom's line -/
def cuM (N : Nat) (x1 x2 hi : Int32) (M : nM) : Option (Int32 × nM) := (fX12_readNumber N (0 : Int32) hi M).bind fun p => stS 128 (x1 + (2 : Int32)) (fun M => if ¬ x2 = (4 : Int32) then stS 128 (x1 + (3 : Int32)) (fun M => (fX12_readMark N (59 : Int32) M).bind fun p => some (p.1, p.2)) ((0 : Int32), M) else (fX12_readNumber N (0 : Int32) (11 : Int32) M).bind fun p3 => stS 128 (x1 + (3 : Int32)) (fun M => (fX12_readMark N (59 : Int32) M).bind fun p => some (p.1, p.2)) p3) p
theorem de_eq (N : Nat) (x1 : Int32) (M : nM) : fX12_readDeed N x1 M = tdS N 128 (18 : Int32) (999 : Int32) x1 (fun M2 => (fX12_kindOfDeed M2).bind fun p3 => if ¬ p3.1 = (-1 : Int32) then (fX12_reads_all N p3.2).bind fun p4 => n_chk (n_ib 128 (x1 + (1 : Int32))) (if p3.1 = (2 : Int32) then cuM N x1 p3.1 (11 : Int32) (n_up p4.2 128 (x1 + (1 : Int32)).toNatClampNeg p3.1) else if ¬ p3.1 = (3 : Int32) then cuM N x1 p3.1 ((n_up p4.2 128 (x1 + (1 : Int32)).toNatClampNeg p3.1 107 7) - (1 : Int32)) (n_up p4.2 128 (x1 + (1 : Int32)).toNatClampNeg p3.1) else cuM N x1 p3.1 (11 : Int32) (n_up p4.2 128 (x1 + (1 : Int32)).toNatClampNeg p3.1)) else (fX12_errs (1 : Int32) p3.2).bind fun p => some (p.1, p.2)) M := rfl
theorem cul_eq (G : nG) (M : nM) : fX6_customLine G M = (fX6_step M).bind fun p1 => nbS (1000 : Int32) (fun a M => (fX6_customKind M).bind fun p3 => if ¬ p3.1 = (-1 : Int32) then (fX6_step p3.2).bind fun p4 => (if p3.1 = (2 : Int32) then fX6_customLine_72 G a p3.1 (12 : Int32) p4.2 else if ¬ p3.1 = (3 : Int32) then fX6_customLine_72 G a p3.1 (p4.2 3 6) p4.2 else fX6_customLine_72 G a p3.1 (12 : Int32) p4.2) else ((fX6_blame (1 : Int32) p3.2).bind fun p => n_chk (p.1 == 0 || p.1 == 1) (some (p.1, p.2)))) p1.2 := by
  unfold fX6_customLine nbS
  congr 1
  funext p1
  congr 1
  funext p
  by_cases z : p.1 = (-1 : Int32)
  · rw [if_neg (not_not_intro z), if_pos z]
  · rw [if_pos z, if_neg z]
    rfl
theorem c_cus {b : Nat → Nat} {k n N P m j : Nat} {v : Int32} {G : nG} {C D : nM} (hN : 1000 ≤ N) (hG : n_GOK G) (hT : MT b k n) (hP : P ≤ 12) (hm : m < 16) (hj : j < n) (hw : isW (tkT b k) j 18) (hB : CB (tkT b k) n C) (hM : MB b k D) (hI : IK P m C D) : lnB b k n v (lnT N G 2) (fun M => fX12_readDeed N (nI (64 + 4 * m)) M) j C D (IK P (m + 1)) := by
  obtain ⟨h, h1⟩ := id hT
  have hn := h.1
  obtain ⟨i1, i2, ⟨i4, i6⟩, i7, i8⟩ := id hI
  have e0 : eW (tkT b k) 18 j = 0 := if_pos hw
  have a1 : nI (64 + 4 * m) + (1 : Int32) = nI (64 + 4 * m + 1) := nI_1 _
  have a2 : nI (64 + 4 * m) + (2 : Int32) = nI (64 + 4 * m + 2) := nI_add _ 2
  have a3 : nI (64 + 4 * m) + (3 : Int32) = nI (64 + 4 * m + 3) := nI_add _ 3
  show lnE b k n v (fX6_customLine G (cs C j [])) (fX12_readDeed N (nI (64 + 4 * m)) (ms b k v D j [])) j C D (IK P (m + 1))
  rw [cul_eq, de_eq, e_stp h hB (by omega), nx_l hj, Option.bind_some, show (1000 : Int32) = nI 1000 from rfl, show (999 : Int32) = nI 1000 - 1 by decide, show (18 : Int32) = nI 18 from rfl]
  -- the hour
  by_cases s1 : eN (tkT b k) (bel 1000) (j + 1) = 0
  case neg =>
    rw [nbS_1 h hB hj (by decide) s1, tdS_2 hN hT hM hj (by decide) (by decide) (Or.inr rfl) (by omega) e0 s1]
    exact Or.inl ⟨_, _, C, _, rfl, rfl, FC_r _, FM_u (Or.inl ⟨Or.inr rfl, by omega⟩)⟩
  have l1 := tk_N h (show j + 1 ≤ n from hj) (eN_x s1).1
  rw [nbS_0 h hB hj (by decide) s1, tdS_0 hN hT hM hj (by decide) (by decide) (Or.inr rfl) (by omega) e0 s1]
  obtain ⟨D1, hD1⟩ : ∃ D1, D1 = n_up D 128 (64 + 4 * m) (nI (tkT b k (j + 1)).2.1) := ⟨_, rfl⟩
  have F1 : FM D D1 := by rw [hD1]; exact FM_u (Or.inl ⟨Or.inr rfl, by omega⟩)
  have hM1 := FM_M F1 hM
  rw [← hD1, e_ckC h hB l1, e_ckM h l1, Option.bind_some, Option.bind_some]
  -- which custom
  by_cases s2 : cK (tkT b k) (j + 1 + 1) < 5
  case neg =>
    rw [if_neg s2, if_neg (show ¬ ¬ (-1 : Int32) = -1 by decide), if_neg (show ¬ ¬ (-1 : Int32) = -1 by decide), e_blm21 h hB l1]
    exact Or.inl ⟨1, _, C, D1, rfl, e_ers2 1, FC_r _, F1⟩
  have l2 := cK_n h l1 s2
  obtain ⟨K, hK⟩ : ∃ K, K = cK (tkT b k) (j + 1 + 1) := ⟨_, rfl⟩
  rw [← hK] at s2 ⊢
  obtain ⟨D2, hD2⟩ : ∃ D2, D2 = n_up D1 128 (64 + 4 * m + 1) (nI K) := ⟨_, rfl⟩
  have F2 : FM D D2 := by rw [hD2]; exact FM_t F1 (FM_u (Or.inl ⟨Or.inr rfl, by omega⟩))
  have hM2 := FM_M F2 hM
  have e72 : D2 107 = D 107 := by rw [hD2, n_up_ne (by decide), hD1, n_up_ne (by decide)]
  rw [if_pos s2, if_pos (nI_nm1 (by omega)), if_pos (nI_nm1 (by omega))]
  show lnE b k n v ((fX6_step (cs C (j + 1 + 1) [])).bind fun p4 => (if nI K = (2 : Int32) then fX6_customLine_72 G (nI (tkT b k (j + 1)).2.1) (nI K) (12 : Int32) p4.2 else if ¬ nI K = (3 : Int32) then fX6_customLine_72 G (nI (tkT b k (j + 1)).2.1) (nI K) (p4.2 3 6) p4.2 else fX6_customLine_72 G (nI (tkT b k (j + 1)).2.1) (nI K) (12 : Int32) p4.2)) ((fX12_reads_all N (ms b k v D1 (j + 1 + 1) [])).bind fun p4 => n_chk (n_ib 128 (nI (64 + 4 * m) + (1 : Int32))) (if nI K = (2 : Int32) then cuM N (nI (64 + 4 * m)) (nI K) (11 : Int32) (n_up p4.2 128 (nI (64 + 4 * m) + (1 : Int32)).toNatClampNeg (nI K)) else if ¬ nI K = (3 : Int32) then cuM N (nI (64 + 4 * m)) (nI K) ((n_up p4.2 128 (nI (64 + 4 * m) + (1 : Int32)).toNatClampNeg (nI K) 107 7) - (1 : Int32)) (n_up p4.2 128 (nI (64 + 4 * m) + (1 : Int32)).toNatClampNeg (nI K)) else cuM N (nI (64 + 4 * m)) (nI K) (11 : Int32) (n_up p4.2 128 (nI (64 + 4 * m) + (1 : Int32)).toNatClampNeg (nI K)))) j C D (IK P (m + 1))
  rw [e_stp h hB l1, nx_l l2, Option.bind_some, e_rds hN h1 hM1 l1, nx_l l2, Option.bind_some, a1, n_ib_nI (show 64 + 4 * m + 1 < 128 by omega) (by decide), n_chk_t, nI_clamp (show 64 + 4 * m + 1 < 2 ^ 31 by omega)]
  -- who
  obtain ⟨L, hL⟩ : ∃ L, L = if K = 2 ∨ K = 3 then 12 else P := ⟨_, rfl⟩
  have hL12 : L < 100000 := by rw [hL]; split <;> omega
  have eCL : (if nI K = (2 : Int32) then fX6_customLine_72 G (nI (tkT b k (j + 1)).2.1) (nI K) (12 : Int32) (cs C (j + 1 + 1 + 1) []) else if ¬ nI K = (3 : Int32) then fX6_customLine_72 G (nI (tkT b k (j + 1)).2.1) (nI K) (cs C (j + 1 + 1 + 1) [] 3 6) (cs C (j + 1 + 1 + 1) []) else fX6_customLine_72 G (nI (tkT b k (j + 1)).2.1) (nI K) (12 : Int32) (cs C (j + 1 + 1 + 1) [])) = fX6_customLine_72 G (nI (tkT b k (j + 1)).2.1) (nI K) (nI L) (cs C (j + 1 + 1 + 1) []) := by
    by_cases k2 : K = 2
    · rw [if_pos (show nI K = (2 : Int32) by rw [k2]; rfl), hL, if_pos (Or.inl k2)]; rfl
    · rw [if_neg (show ¬ nI K = (2 : Int32) from fun q => k2 ((nI_eq (b := 2) (by omega) (by decide)).mp q))]
      by_cases k3 : K = 3
      · rw [if_neg (not_not_intro (show nI K = (3 : Int32) by rw [k3]; rfl)), hL, if_pos (Or.inr k3)]; rfl
      · rw [if_pos (show ¬ nI K = (3 : Int32) from fun q => k3 ((nI_eq (b := 3) (by omega) (by decide)).mp q)), hL, if_neg (fun q => q.elim k2 k3), cs_o (by decide) (by decide) (by decide), i4]
  have eML : (if nI K = (2 : Int32) then cuM N (nI (64 + 4 * m)) (nI K) (11 : Int32) (n_up (ms b k v D1 (j + 1 + 1 + 1) []) 128 (64 + 4 * m + 1) (nI K)) else if ¬ nI K = (3 : Int32) then cuM N (nI (64 + 4 * m)) (nI K) ((n_up (ms b k v D1 (j + 1 + 1 + 1) []) 128 (64 + 4 * m + 1) (nI K) 107 7) - (1 : Int32)) (n_up (ms b k v D1 (j + 1 + 1 + 1) []) 128 (64 + 4 * m + 1) (nI K)) else cuM N (nI (64 + 4 * m)) (nI K) (11 : Int32) (n_up (ms b k v D1 (j + 1 + 1 + 1) []) 128 (64 + 4 * m + 1) (nI K))) = cuM N (nI (64 + 4 * m)) (nI K) (nI L - 1) (ms b k v D2 (j + 1 + 1 + 1) []) := by
    rw [ms_up (by decide) (by decide) (fun q => absurd q (by decide)), ← hD2]
    by_cases k2 : K = 2
    · rw [if_pos (show nI K = (2 : Int32) by rw [k2]; rfl), hL, if_pos (Or.inl k2), show (11 : Int32) = nI 12 - 1 by decide]
    · rw [if_neg (show ¬ nI K = (2 : Int32) from fun q => k2 ((nI_eq (b := 2) (by omega) (by decide)).mp q))]
      by_cases k3 : K = 3
      · rw [if_neg (not_not_intro (show nI K = (3 : Int32) by rw [k3]; rfl)), hL, if_pos (Or.inr k3), show (11 : Int32) = nI 12 - 1 by decide]
      · rw [if_pos (show ¬ nI K = (3 : Int32) from fun q => k3 ((nI_eq (b := 3) (by omega) (by decide)).mp q)), hL, if_neg (fun q => q.elim k2 k3), ms_7o (by omega) (by decide), e72, i6]
  show lnE b k n v (if nI K = (2 : Int32) then fX6_customLine_72 G (nI (tkT b k (j + 1)).2.1) (nI K) (12 : Int32) (cs C (j + 1 + 1 + 1) []) else if ¬ nI K = (3 : Int32) then fX6_customLine_72 G (nI (tkT b k (j + 1)).2.1) (nI K) (cs C (j + 1 + 1 + 1) [] 3 6) (cs C (j + 1 + 1 + 1) []) else fX6_customLine_72 G (nI (tkT b k (j + 1)).2.1) (nI K) (12 : Int32) (cs C (j + 1 + 1 + 1) [])) (if nI K = (2 : Int32) then cuM N (nI (64 + 4 * m)) (nI K) (11 : Int32) (n_up (ms b k v D1 (j + 1 + 1 + 1) []) 128 (64 + 4 * m + 1) (nI K)) else if ¬ nI K = (3 : Int32) then cuM N (nI (64 + 4 * m)) (nI K) ((n_up (ms b k v D1 (j + 1 + 1 + 1) []) 128 (64 + 4 * m + 1) (nI K) 107 7) - (1 : Int32)) (n_up (ms b k v D1 (j + 1 + 1 + 1) []) 128 (64 + 4 * m + 1) (nI K)) else cuM N (nI (64 + 4 * m)) (nI K) (11 : Int32) (n_up (ms b k v D1 (j + 1 + 1 + 1) []) 128 (64 + 4 * m + 1) (nI K))) j C D (IK P (m + 1))
  rw [eCL, eML, u72_eq]
  unfold cuM
  rw [a2, a3]
  by_cases s3 : eN (tkT b k) (bel L) (j + 1 + 1 + 1) = 0
  case neg =>
    rw [cN1 h hB l2 hL12 s3, mN1 hT l2 hL12 s3, Option.bind_some, Option.bind_some, if_neg (show ¬ ¬ (-1 : Int32) = -1 by decide), stS_1 (Or.inr rfl) (by omega)]
    exact Or.inl ⟨_, _, C, _, rfl, rfl, FC_r _, FM_t F2 (FM_u (Or.inl ⟨Or.inr rfl, by omega⟩))⟩
  obtain ⟨q1, l3, q3, q4⟩ := cN0 (c := []) h hB l2 hL12 s3
  rw [q1, mN0 hN hT hM2 l2 hL12 s3, Option.bind_some, Option.bind_some, if_pos q4, stS_0 (Or.inr rfl) (by omega) (by omega)]
  obtain ⟨D3, hD3⟩ : ∃ D3, D3 = n_up D2 128 (64 + 4 * m + 2) (nI (tkT b k (j + 1 + 1 + 1)).2.1) := ⟨_, rfl⟩
  have F3 : FM D D3 := by rw [hD3]; exact FM_t F2 (FM_u (Or.inl ⟨Or.inr rfl, by omega⟩))
  have hM3 := FM_M F3 hM
  have hD3' : D3 = n_up (n_up (n_up D 128 (64 + 4 * m) (nI (tkT b k (j + 1)).2.1)) 128 (64 + 4 * m + 1) (nI K)) 128 (64 + 4 * m + 2) (nI (tkT b k (j + 1 + 1 + 1)).2.1) := by rw [hD3, hD2, hD1]
  have hw1 : K = 2 ∨ K = 3 → (tkT b k (j + 1 + 1 + 1)).2.1 < 12 := fun q => by rw [hL, if_pos q] at q3; exact q3
  have hw2 : ¬ (K = 2 ∨ K = 3) → (tkT b k (j + 1 + 1 + 1)).2.1 < P := fun q => by rw [hL, if_neg q] at q3; exact q3
  rw [← hD3]
  by_cases k4 : K = 4
  · rw [if_neg (not_not_intro (show nI K = (4 : Int32) by rw [k4]; rfl)), if_neg (not_not_intro (show nI K = (4 : Int32) by rw [k4]; rfl)), show (11 : Int32) = nI 12 - 1 by decide, show (12 : Int32) = nI 12 from rfl]
    by_cases s4 : eN (tkT b k) (bel 12) (j + 1 + 1 + 1 + 1) = 0
    case neg =>
      rw [cN1 h hB l3 (by decide) s4, mN1 hT l3 (by decide) s4, Option.bind_some, Option.bind_some, u100_eq, if_pos rfl, stS_1 (Or.inr rfl) (by omega)]
      exact Or.inl ⟨_, _, C, _, rfl, rfl, FC_r _, FM_t F3 (FM_u (Or.inl ⟨Or.inr rfl, by omega⟩))⟩
    obtain ⟨p1, l4, p3, p4⟩ := cN0 (c := []) h hB l3 (by decide) s4
    rw [p1, mN0 hN hT hM3 l3 (by decide) s4, Option.bind_some, Option.bind_some]
    exact c_cuE hN hG hT hm (by omega) l4 hB hM hI s2 p3 hw1 hw2 hD3'
  · rw [if_pos (show ¬ nI K = (4 : Int32) from fun q => k4 ((nI_eq (b := 4) (by omega) (by decide)).mp q)), if_pos (show ¬ nI K = (4 : Int32) from fun q => k4 ((nI_eq (b := 4) (by omega) (by decide)).mp q))]
    exact c_cuE (y := 0) hN hG hT hm (by omega) l3 hB hM hI s2 (by decide) hw1 hw2 hD3'
