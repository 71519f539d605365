/-! ===== text: supper, customs, line; the step ===== -/
/-- a text of rows, read and taken -/
theorem tx_row {N k n q t z : Nat} {b : Nat → Nat} {G : nG} {M D : nM} {loop : Nat → Int32 → nM → Option (Int32 × nM)} {ln : Nat → nM → Option (Int32 × nM)} {I : Nat → nM → nM → Prop} {T : Nat → nM → nM} {w7 : Nat} (hN : 1000 ≤ N) (hG : n_GOK G) (h : Rel G M n q) (hDM : ∀ a, 107 ≤ a → a ≤ 151 → D a = M a) (hk : M 80 9 = nI k) (h0 : tx_C b k M) (hM : tx_M b k D) (htz : (t = 1 ∧ z = 22) ∨ (t = 2 ∧ z = 24) ∨ (t = 3 ∧ z = 26)) (hw7 : (t = 3 ∧ w7 = 19) ∨ (t ≠ 3 ∧ w7 = 18))
    (hl : ∀ (f i : Nat) (M : nM), i ≤ 16 → loop (f + 1) (nI i) M = (fX12_isWord (nI w7) M).bind fun p1 => if p1.1 = 0 then (if ¬ (p1.2 107 18) = 0 then ((fX12_errs (1 : Int32) p1.2).bind fun p => some (p.1, p.2)) else some (nI i, p1.2)) else if ¬ nI i = (16 : Int32) then (ln i p1.2).bind fun p3 => if ¬ p3.1 = (-1 : Int32) then loop f (nI (i + 1)) p3.2 else some ((-1 : Int32), p3.2) else ((fX12_errs (3 : Int32) p1.2).bind fun p => some (p.1, p.2)))
    (hs : ∀ (nn : Nat) (v : Int32) (m j : Nat) (C D : nM), MT b k nn → m < 16 → j < nn → isW (tkT b k) j w7 → CB (tkT b k) nn C → MB b k D → I m C D → lnB b k nn v (lnT N G t) (ln m) j C D (I (m + 1)))
    (hr : ∀ (v : Int32) (D6 : nM), ∃ D7 : nM, ((if ¬ nI t = (1 : Int32) then (if ¬ nI t = (2 : Int32) then (if ¬ nI t = (3 : Int32) then ((fX12_readLaw N (ms b k v D6 0 [])).bind fun p => some (p.1, p.2)) else ((fX12_readLine N (ms b k v D6 0 [])).bind fun p => some (p.1, p.2))) else ((fX12_readCustoms N (ms b k v D6 0 [])).bind fun p => some (p.1, p.2))) else ((fX12_readSupper N (ms b k v D6 0 [])).bind fun p => some (p.1, p.2))) = loop N (nI 0) (ms b k v D7 0 [])) ∧ FM D6 D7 ∧ ∀ C0 : nM, C0 91 3 = nI 0 → r_wm (C0 91 1) (C0 91 2) 4 16 → C0 3 5 = nI n → C0 3 6 = nI q → D6 107 6 = nI n → D6 107 7 = nI q → I 0 C0 D7)
    (hI3 : ∀ m C D, I m C D → C 91 3 = nI m) (hT : ∀ (m : Nat) (X : nM), m ≤ 16 → fX12_takesOther N (nI t) (nI m) X = some ((), T m X)) (hTo : ∀ (m : Nat) (X : nM) (a i : Nat), a ≠ z / 2 + 116 → ¬ (a = 107 ∧ (i = 3 ∨ i = 37 ∨ i = 39 ∨ i = 41)) → T m X a i = X a i) (hT7 : ∀ (m : Nat) (X : nM) (i : Nat), (i = 37 ∨ i = 39 ∨ i = 41) → i ≠ z + 15 → T m X 107 i = X 107 i) (hT3 : ∀ (m : Nat) (X : nM), if t = 3 then T m X 107 3 = X 107 3 else T m X 107 3 = 0)
    (hIc : ∀ m C D j v, I m C D → I m (cs C j []) (n_up (ms b k v D j []) 107 15 0))
    (hfin : ∀ (m : Nat) (C X : nM), m ≤ 16 → I m C X → (z = 22 → r_sup (c7 z C 22 3) (c7 z C 23) (T m X 107 37) (T m X 127) n q) ∧ (z = 24 → r_cus (c7 z C 24 3) (c7 z C 25) (T m X 107 39) (T m X 128) q) ∧ (z = 26 → r_lin (c7 z C 26 3) (c7 z C 27) (T m X 107 41) (T m X 129) q)) : ∃ (w : Int32) (C' D' : nM), fX11_text N G (nI t) M = some (w, C') ∧ (∀ a, 107 ≤ a → a ≤ 151 → C' a = M a) ∧ fX12_text N (nI t) D = some (w, D') ∧ (∀ a, a < 107 ∨ 151 < a → D' a = D a) ∧ ∃ n q : Nat, Rel G (Mix C' D') n q := by
  have hz : z = 22 ∨ z = 24 ∨ z = 26 := by omega
  obtain ⟨m0, C0, r1, hTt, hB, sC, c9, c10, c11, c6, c3'⟩ := e_rdC (N := N) (t := t) hN hG hk h0 (by omega)
  obtain ⟨v, D6, d1, hM6, sD, d35, d36, d30, d28, d6, d7⟩ := e_rdM (N := N) hN hM
  have hn := hTt.1.1
  obtain ⟨D7, q1, q2, q3⟩ := hr v D6
  have e1 : fX12_readsText N (nI t) (tD0 D) = loop N (nI 0) (ms b k v D7 0 []) := by
    rw [rt_eq, d1, Option.bind_some]
    exact q1
  have hst : r_stock (M 3 5) (M 3 6) (M 4) (M 5) (M 6) (M 7) (M 8) (M 107 6) (M 107 7) (M 111) (M 112) (M 113) (M 114) (M 115) n q := h.1.1
  have hck : CK M := h.2.2.2.1
  have hI0 : I 0 C0 D7 := q3 C0 c3' (by rw [sC.2.1, sC.2.2]; exact hck.2.2.2.2.2.2.2.2.2.2.2.2.2.1) (by rw [sC.1 3 (by omega)]; exact hst.2.1.1) (by rw [sC.1 3 (by omega)]; exact hst.2.1.2) (by rw [d6, hDM 107 (by decide) (by decide)]; exact hst.2.2.1.1) (by rw [d7, hDM 107 (by decide) (by decide)]; exact hst.2.2.1.2)
  have sD7 : SM D D7 := SM_t sD (SM_FM q2)
  rcases c_rows (v := v) (G := G) (N := N) (t := t) (w := w7) (loop := loop) (ln := ln) (I := I) hTt (by omega) hl (fun m j C D hm hj hw hB hM hI => hs m0 v m j C D hTt hm hj hw hB hM hI) 402 0 N N 0 C0 D7 (Nat.zero_le _) (by omega) (by omega) (by omega) (by decide) hB (FM_M q2 hM6) hI0 with ⟨e, j', C', D', u1, u2, u3, u4⟩ | ⟨j', m', C', D', u1, u2, u3, u4, u5, u6⟩
  · exact tx_no h hDM (by omega) (r1.trans u1) (e1.trans u2) (SC_FC sC u3) (SM_t sD7 (SM_FM u4)) (by rw [FC_80 u3]; exact c9)
  · have g80 := FC_80 u3
    have o7 : ∀ i, D' 107 i = D6 107 i := fun i => by rw [u4 107 i (by omega) (by omega) (by decide), q2 107 i (by omega) (by omega) (by decide)]
    have hR := tx_mid (b := b) (k := k) (v := v) (j := j') (c := []) (μ := []) h hDM (SC_FC sC u3) (SM_t sD7 (SM_FM u4)) (by rw [g80]; exact c9) (by rw [g80]; exact c10) (by rw [g80]; exact c11) (by rw [o7]; exact d35) (by rw [o7]; exact d36)
    have hI1 := hIc m' C' D' j' v u6
    obtain ⟨DM, hDM'⟩ : ∃ DM, DM = n_up (ms b k v D' j' []) 107 15 0 := ⟨_, rfl⟩
    rw [← hDM'] at hR hI1
    have sDM : SM D DM := by rw [hDM']; exact SM_t (SM_ms (SM_t sD7 (SM_FM u4))) (SM_7 (by decide))
    have o3 : cs C' j' [] 91 3 = nI m' := hI3 m' _ _ hI1
    have hx0 : ¬ nI t = 0 := nI_ne0 (by omega) (by omega)
    have eM : fX12_text N (nI t) D = some (nI m', T m' DM) := by
      rw [tM_i (by omega), e1.trans u2, Option.bind_some, if_pos (nI_nm1 (by omega))]
      show (if ¬ nI m' = (-1 : Int32) then (if ¬ nI t = 0 then ((fX12_takesOther N (nI t) (nI m') (n_up (ms b k v D' j' []) 107 15 0)).bind fun p2 => some (nI m', p2.2)) else ((fX12_takesLaw N (nI m') (n_up (ms b k v D' j' []) 107 15 0)).bind fun p3 => some (nI m', p3.2))) else some ((-1 : Int32), n_up (ms b k v D' j' []) 107 15 0)) = _
      rw [if_pos (nI_nm1 (by omega)), if_pos hx0, ← hDM', hT m' DM u5]
      rfl
    have hlo : fX1_linesOf (nI t) (cs C' j' []) = some (z, cs C' j' []) := by
      rcases htz with ⟨a1, a2⟩ | ⟨a1, a2⟩ | ⟨a1, a2⟩ <;> subst a1 <;> subst a2 <;> rfl
    have eC := tC_r hG hz hx0 hlo (r1.trans u1)
    have sCs : SC M (cs C' j' []) := SC_cs (SC_FC sC u3)
    have hTD : ∀ a, a < 107 ∨ 151 < a → T m' DM a = D a := fun a ha => by
      funext i
      rw [hTo m' DM a i (by omega) (by omega)]
      exact sDM a i (by unfold sx; omega)
    obtain ⟨f1, f2, f3⟩ := hfin m' (cs C' j' []) DM u5 hI1
    have h3 := hT3 m' DM
    by_cases t3 : t = 3
    · rw [if_pos t3] at h3
      rw [if_pos (show nI t = (3 : Int32) by rw [t3]; rfl), o3] at eC
      refine ⟨nI m', c7 z (cs C' j' []), T m' DM, eC, fun a h1 h2 => ?_, eM, hTD, n, q, ?_⟩
      · rw [c7_o (by omega) (by omega)]
        exact sCs.1 a (by omega)
      · exact Rel_row hR hz (fun a a1 a2 _ => c7_o a1 a2) (fun i hi => c7_i hi) (by rw [c7_o (by omega) (by omega)]) (fun a i => hTo m' DM a i) (fun i => hT7 m' DM i) (Or.inl ⟨by rw [c7_o (by omega) (by omega)], h3⟩) f1 f2 f3
    · rw [if_neg t3] at h3
      rw [if_neg (show ¬ nI t = (3 : Int32) from fun y => t3 ((nI_eq (b := 3) (by omega) (by decide)).mp y)), o3] at eC
      refine ⟨nI m', n_up (c7 z (cs C' j' [])) 48 2 0, T m' DM, eC, fun a h1 h2 => ?_, eM, hTD, n, q, ?_⟩
      · rw [n_up_ne (by omega), c7_o (by omega) (by omega)]
        exact sCs.1 a (by omega)
      · refine Rel_row hR hz (fun a a1 a2 a3 => by rw [n_up_ne a3, c7_o a1 a2]) (fun i hi => by rw [n_up_ne (by omega), c7_i hi]) (by rw [n_up_eq, upd_ne (by decide), c7_o (by omega) (by omega)]) (fun a i => hTo m' DM a i) (fun i => hT7 m' DM i) (Or.inr ⟨by rw [n_up_eq, upd_eq], h3⟩) (fun y => ?_) (fun y => ?_) (fun y => ?_)
        · rw [n_up_ne (by decide), n_up_ne (by decide)]; exact f1 y
        · rw [n_up_ne (by decide), n_up_ne (by decide)]; exact f2 y
        · rw [n_up_ne (by decide), n_up_ne (by decide)]; exact f3 y
theorem ad_i (i : Nat) : (64 : Int32) + (4 : Int32) * nI i = nI (64 + 4 * i) := by
  rw [show (4 : Int32) = nI 4 from rfl, pk_mul]
  exact nI_add 64 (4 * i)
theorem tx_sup {N k n q : Nat} {b : Nat → Nat} {G : nG} {M D : nM} (hN : 1000 ≤ N) (hG : n_GOK G) (h : Rel G M n q) (hDM : ∀ a, 107 ≤ a → a ≤ 151 → D a = M a) (hk : M 80 9 = nI k) (h0 : tx_C b k M) (hM : tx_M b k D) : ∃ (w : Int32) (C' D' : nM), fX11_text N G (nI 1) M = some (w, C') ∧ (∀ a, 107 ≤ a → a ≤ 151 → C' a = M a) ∧ fX12_text N (nI 1) D = some (w, D') ∧ (∀ a, a < 107 ∨ 151 < a → D' a = D a) ∧ ∃ n q : Nat, Rel G (Mix C' D') n q := by
  have hnq : n ≤ 16 ∧ q ≤ 12 := h.1.1.1
  refine tx_row (z := 22) (w7 := 18) (loop := fun f x M => fX12_readSupper_2 N f x M) (ln := fun m M => fX12_readPut N (nI (64 + 4 * m)) M) (I := IS n q) (T := fun m X => n_up (n_up (cpS 127 127 64 X (4 * m)) 107 37 (nI m)) 107 3 0) hN hG h hDM hk h0 hM (Or.inl ⟨rfl, rfl⟩) (Or.inr ⟨by decide, rfl⟩) (fun f i M hi => ?_) (fun nn v m j C D hT hm hj hw hB hM hI => c_sup hN hG hT hnq.1 hnq.2 hm hj hw hB hM hI) (fun v D6 => ⟨D6, ?_, FM_r _, fun C0 a1 a2 a3 a4 a5 a6 => ⟨a1, a2, ⟨a3, a4, a5, a6⟩, fun i hi => absurd hi (by omega), fun i hi => absurd hi (by omega)⟩⟩) (fun m C D hI => hI.1) (fun m X hm => ?_) (fun m X a i h1 h2 => ?_) (fun m X i h1 h2 => ?_) (fun m X => ?_) (fun m C D j v hI => ?_) (fun m C X hm hI => ⟨fun _ => ?_, fun y => absurd y (by decide), fun y => absurd y (by decide)⟩)
  · show fX12_readSupper_2 N (f + 1) (nI i) M = _
    rw [← ad_i, ← nI_1 i]
    rfl
  · rw [if_neg (show ¬ ¬ nI 1 = (1 : Int32) by decide), bind_id]
    rfl
  · unfold fX12_takesOther
    rw [if_pos (show ¬ nI 1 = (3 : Int32) by decide), if_neg (show ¬ ¬ nI 1 = (1 : Int32) by decide)]
    exact e_to47 hN hm
  · show n_up (n_up (cpS 127 127 64 X (4 * m)) 107 37 (nI m)) 107 3 0 a i = X a i
    by_cases e : a = 107
    · subst e
      rw [n_up_eq, upd_ne (by omega), n_up_eq, upd_ne (by omega), cpS_o (by omega)]
    · rw [n_up_ne e, n_up_ne e, cpS_o (by omega)]
  · show n_up (n_up (cpS 127 127 64 X (4 * m)) 107 37 (nI m)) 107 3 0 107 i = X 107 i
    rw [n_up_eq, upd_ne (by omega), n_up_eq, upd_ne (by omega), cpS_o (by omega)]
  · rw [if_neg (by decide)]
    show n_up (n_up (cpS 127 127 64 X (4 * m)) 107 37 (nI m)) 107 3 0 107 3 = 0
    rw [n_up_eq, upd_eq]
  · obtain ⟨i1, i2, ⟨i3, i4, i5, i6⟩, i7, i8⟩ := hI
    have o : ∀ a, a ≠ 80 → a ≠ 85 → a ≠ 86 → cs C j [] a = C a := fun a p1 p2 p3 => cs_o p1 p2 p3
    have o7 : n_up (ms b k v D j []) 107 15 0 127 = D 127 := by rw [n_up_ne (by decide), ms_o (by decide) (by decide) (by decide)]
    refine ⟨by rw [o 91 (by decide) (by decide) (by decide)]; exact i1, by rw [o 91 (by decide) (by decide) (by decide)]; exact i2, ⟨by rw [o 3 (by decide) (by decide) (by decide)]; exact i3, by rw [o 3 (by decide) (by decide) (by decide)]; exact i4, ?_, ?_⟩, by rw [o 92 (by decide) (by decide) (by decide), o7]; exact i7, by rw [o 92 (by decide) (by decide) (by decide)]; exact i8⟩
    · rw [n_up_eq, upd_ne (by decide), ms_7o (by omega) (by decide)]; exact i5
    · rw [n_up_eq, upd_ne (by decide), ms_7o (by omega) (by decide)]; exact i6
  · obtain ⟨i1, i2, -, i7, i8⟩ := hI
    show r_sup (c7 22 C 22 3) (c7 22 C 23) (n_up (n_up (cpS 127 127 64 X (4 * m)) 107 37 (nI m)) 107 3 0 107 37) (n_up (n_up (cpS 127 127 64 X (4 * m)) 107 37 (nI m)) 107 3 0 127) n q
    have cc : ∀ i, i < 64 → c7 22 C 23 i = C 92 i := fun i hi => c7_c hi
    refine ⟨m, hm, by rw [c7_3]; exact i1, by rw [n_up_eq, upd_ne (by decide), n_up_eq, upd_eq], fun i hi => ?_, fun i hi => ?_⟩
    · rw [n_up_ne (by decide), n_up_ne (by decide), cpS_in (by decide), cf_l hi, cc i (by omega)]
      exact i7 i hi
    · obtain ⟨a, b', c, q1, q2, q3, q4, q5, q6⟩ := i8 i hi
      exact ⟨a, b', c, q1, q2, q3, by rw [cc _ (by omega)]; exact q4, by rw [cc _ (by omega)]; exact q5, by rw [cc _ (by omega)]; exact q6⟩
theorem tx_cus {N k n q : Nat} {b : Nat → Nat} {G : nG} {M D : nM} (hN : 1000 ≤ N) (hG : n_GOK G) (h : Rel G M n q) (hDM : ∀ a, 107 ≤ a → a ≤ 151 → D a = M a) (hk : M 80 9 = nI k) (h0 : tx_C b k M) (hM : tx_M b k D) : ∃ (w : Int32) (C' D' : nM), fX11_text N G (nI 2) M = some (w, C') ∧ (∀ a, 107 ≤ a → a ≤ 151 → C' a = M a) ∧ fX12_text N (nI 2) D = some (w, D') ∧ (∀ a, a < 107 ∨ 151 < a → D' a = D a) ∧ ∃ n q : Nat, Rel G (Mix C' D') n q := by
  have hnq : n ≤ 16 ∧ q ≤ 12 := h.1.1.1
  refine tx_row (z := 24) (w7 := 18) (loop := fun f x M => fX12_readCustoms_2 N f x M) (ln := fun m M => fX12_readDeed N (nI (64 + 4 * m)) M) (I := IK q) (T := fun m X => n_up (n_up (cpS 128 128 64 X (4 * m)) 107 39 (nI m)) 107 3 0) hN hG h hDM hk h0 hM (Or.inr (Or.inl ⟨rfl, rfl⟩)) (Or.inr ⟨by decide, rfl⟩) (fun f i M hi => ?_) (fun nn v m j C D hT hm hj hw hB hM hI => c_cus hN hG hT hnq.2 hm hj hw hB hM hI) (fun v D6 => ⟨D6, ?_, FM_r _, fun C0 a1 a2 a3 a4 a5 a6 => ⟨a1, a2, ⟨a4, a6⟩, fun i hi => absurd hi (by omega), fun i hi => absurd hi (by omega)⟩⟩) (fun m C D hI => hI.1) (fun m X hm => ?_) (fun m X a i h1 h2 => ?_) (fun m X i h1 h2 => ?_) (fun m X => ?_) (fun m C D j v hI => ?_) (fun m C X hm hI => ⟨fun y => absurd y (by decide), fun _ => ?_, fun y => absurd y (by decide)⟩)
  · show fX12_readCustoms_2 N (f + 1) (nI i) M = _
    rw [← ad_i, ← nI_1 i]
    rfl
  · rw [if_pos (show ¬ nI 2 = (1 : Int32) by decide), if_neg (show ¬ ¬ nI 2 = (2 : Int32) by decide), bind_id]
    rfl
  · unfold fX12_takesOther
    rw [if_pos (show ¬ nI 2 = (3 : Int32) by decide), if_pos (show ¬ nI 2 = (1 : Int32) by decide)]
    exact e_to85 hN hm
  · show n_up (n_up (cpS 128 128 64 X (4 * m)) 107 39 (nI m)) 107 3 0 a i = X a i
    by_cases e : a = 107
    · subst e
      rw [n_up_eq, upd_ne (by omega), n_up_eq, upd_ne (by omega), cpS_o (by omega)]
    · rw [n_up_ne e, n_up_ne e, cpS_o (by omega)]
  · show n_up (n_up (cpS 128 128 64 X (4 * m)) 107 39 (nI m)) 107 3 0 107 i = X 107 i
    rw [n_up_eq, upd_ne (by omega), n_up_eq, upd_ne (by omega), cpS_o (by omega)]
  · rw [if_neg (by decide)]
    show n_up (n_up (cpS 128 128 64 X (4 * m)) 107 39 (nI m)) 107 3 0 107 3 = 0
    rw [n_up_eq, upd_eq]
  · obtain ⟨i1, i2, ⟨i4, i6⟩, i7, i8⟩ := hI
    have o : ∀ a, a ≠ 80 → a ≠ 85 → a ≠ 86 → cs C j [] a = C a := fun a p1 p2 p3 => cs_o p1 p2 p3
    have o7 : n_up (ms b k v D j []) 107 15 0 128 = D 128 := by rw [n_up_ne (by decide), ms_o (by decide) (by decide) (by decide)]
    refine ⟨by rw [o 91 (by decide) (by decide) (by decide)]; exact i1, by rw [o 91 (by decide) (by decide) (by decide)]; exact i2, ⟨by rw [o 3 (by decide) (by decide) (by decide)]; exact i4, ?_⟩, by rw [o 92 (by decide) (by decide) (by decide), o7]; exact i7, by rw [o 92 (by decide) (by decide) (by decide)]; exact i8⟩
    rw [n_up_eq, upd_ne (by decide), ms_7o (by omega) (by decide)]; exact i6
  · obtain ⟨i1, i2, -, i7, i8⟩ := hI
    show r_cus (c7 24 C 24 3) (c7 24 C 25) (n_up (n_up (cpS 128 128 64 X (4 * m)) 107 39 (nI m)) 107 3 0 107 39) (n_up (n_up (cpS 128 128 64 X (4 * m)) 107 39 (nI m)) 107 3 0 128) q
    have cc : ∀ i, i < 64 → c7 24 C 25 i = C 92 i := fun i hi => c7_c hi
    refine ⟨m, hm, by rw [c7_3]; exact i1, by rw [n_up_eq, upd_ne (by decide), n_up_eq, upd_eq], fun i hi => ?_, fun i hi => ?_⟩
    · rw [n_up_ne (by decide), n_up_ne (by decide), cpS_in (by decide), cf_l hi, cc i (by omega)]
      exact i7 i hi
    · obtain ⟨a, b', c, q1, q2, q3, q4, q5, q6, q7⟩ := i8 i hi
      exact ⟨a, b', c, q1, q2, q3, q4, by rw [cc _ (by omega)]; exact q5, by rw [cc _ (by omega)]; exact q6, by rw [cc _ (by omega)]; exact q7⟩
/-! the model's beginning of a line's text -/
def liD (D : nM) (i : Nat) : nM := fun a => if a = 129 then (fun t => if 12 ≤ t ∧ t < 12 + i then 0 else D 129 t) else if a = 130 then (fun t => if t < i then 0 else D 130 t) else D a
theorem liD_0 {D : nM} : liD D 0 = D := by
  funext a
  unfold liD
  by_cases e : a = 129
  · subst e
    rw [if_pos rfl]
    funext t
    rw [if_neg (by omega)]
  · rw [if_neg e]
    by_cases e2 : a = 130
    · subst e2
      rw [if_pos rfl]
      funext t
      rw [if_neg (by omega)]
    · rw [if_neg e2]
theorem liD_s {D : nM} {i : Nat} : n_up (n_up (liD D i) 129 (12 + i) 0) 130 i 0 = liD D (i + 1) := by
  funext a
  by_cases e2 : a = 130
  · subst e2
    rw [n_up_eq, n_up_ne (by decide)]
    funext t
    show upd (fun t => if t < i then 0 else D 130 t) i 0 t = if t < i + 1 then 0 else D 130 t
    by_cases z : t = i
    · rw [z, upd_eq, if_pos (by omega)]
    · rw [upd_ne z]
      by_cases y : t < i
      · rw [if_pos y, if_pos (by omega)]
      · rw [if_neg y, if_neg (by omega)]
  · rw [n_up_ne e2]
    by_cases e : a = 129
    · subst e
      rw [n_up_eq]
      funext t
      show upd (fun t => if 12 ≤ t ∧ t < 12 + i then 0 else D 129 t) (12 + i) 0 t = if 12 ≤ t ∧ t < 12 + (i + 1) then 0 else D 129 t
      by_cases z : t = 12 + i
      · rw [z, upd_eq, if_pos (by omega)]
      · rw [upd_ne z]
        by_cases y : 12 ≤ t ∧ t < 12 + i
        · rw [if_pos y, if_pos (by omega)]
        · rw [if_neg y, if_neg (by omega)]
    · rw [n_up_ne e]
      unfold liD
      rw [if_neg e, if_neg e2, if_neg e, if_neg e2]
theorem li_eq (N f : Nat) (x1 : Int32) (M : nM) : fX12_readLine_2 N (f + 1) x1 M = if (12 : Int32) ≤ x1 then fX12_readLine_33 N N (0 : Int32) M else n_chk (n_ib 24 ((12 : Int32) + x1)) (n_chk (n_ib 12 x1) (fX12_readLine_2 N f (x1 + (1 : Int32)) (n_up (n_up M 129 ((12 : Int32) + x1).toNatClampNeg (0 : Int32)) 130 x1.toNatClampNeg (0 : Int32)))) := rfl
theorem e_li {N k : Nat} {b : Nat → Nat} {v : Int32} {D : nM} (hN : 1000 ≤ N) : fX12_readLine N (ms b k v D 0 []) = fX12_readLine_33 N N (nI 0) (ms b k v (liD D 12) 0 []) := by
  have go : ∀ (d i f : Nat), i + d = 12 → d < f → fX12_readLine_2 N f (nI i) (ms b k v (liD D i) 0 []) = fX12_readLine_33 N N (nI 0) (ms b k v (liD D 12) 0 []) := by
    intro d
    induction d with
    | zero =>
      intro i f hi hf
      obtain ⟨f, rfl⟩ : ∃ g, f = g + 1 := ⟨f - 1, by omega⟩
      rw [li_eq, if_pos (show (12 : Int32) ≤ nI i from nI_le (a := 12) (by omega) (by omega)), show i = 12 by omega]
      rfl
    | succ d ih =>
      intro i f hi hf
      obtain ⟨f, rfl⟩ : ∃ g, f = g + 1 := ⟨f - 1, by omega⟩
      rw [li_eq, if_neg (show ¬ (12 : Int32) ≤ nI i from nI_ge (b := 12) (by omega) (by decide)), show (12 : Int32) + nI i = nI (12 + i) from nI_add 12 i, n_ib_nI (show 12 + i < 24 by omega) (by decide), n_ib_nI (show i < 12 by omega) (by decide), n_chk_t, n_chk_t, nI_clamp (show 12 + i < 2 ^ 31 by omega), nI_clamp (show i < 2 ^ 31 by omega), nI_1, ms_up (by decide) (by decide) (fun z => absurd z (by decide)), ms_up (by decide) (by decide) (fun z => absurd z (by decide)), liD_s]
      exact ih (i + 1) f (by omega) (by omega)
  have := go 12 0 N (by omega) (by omega)
  rw [liD_0] at this
  exact this
theorem tx_lin {N k n q : Nat} {b : Nat → Nat} {G : nG} {M D : nM} (hN : 1000 ≤ N) (hG : n_GOK G) (h : Rel G M n q) (hDM : ∀ a, 107 ≤ a → a ≤ 151 → D a = M a) (hk : M 80 9 = nI k) (h0 : tx_C b k M) (hM : tx_M b k D) : ∃ (w : Int32) (C' D' : nM), fX11_text N G (nI 3) M = some (w, C') ∧ (∀ a, 107 ≤ a → a ≤ 151 → C' a = M a) ∧ fX12_text N (nI 3) D = some (w, D') ∧ (∀ a, a < 107 ∨ 151 < a → D' a = D a) ∧ ∃ n q : Nat, Rel G (Mix C' D') n q := by
  have hnq : n ≤ 16 ∧ q ≤ 12 := h.1.1.1
  refine tx_row (z := 26) (w7 := 19) (loop := fun f x M => fX12_readLine_33 N f x M) (ln := fun m M => fX12_readChild N M) (I := IL q) (T := fun m X => n_up (cpS 129 129 12 X 12) 107 41 (nI m)) hN hG h hDM hk h0 hM (Or.inr (Or.inr ⟨rfl, rfl⟩)) (Or.inl ⟨rfl, rfl⟩) (fun f i M hi => ?_) (fun nn v m j C D hT hm hj hw hB hM hI => c_chi hN hG hT hnq.2 hm hj hw hB hM hI) (fun v D6 => ⟨liD D6 12, ?_, ?_, fun C0 a1 a2 a3 a4 a5 a6 => ⟨a1, a2, ⟨a4, a6⟩, [], rfl, fun i x hx => absurd hx (by simp), fun c hc t => ?_, fun c hc => ?_, fun c => ?_⟩⟩) (fun m C D hI => hI.1) (fun m X hm => ?_) (fun m X a i h1 h2 => ?_) (fun m X i h1 h2 => ?_) (fun m X => ?_) (fun m C D j v hI => ?_) (fun m C X hm hI => ⟨fun y => absurd y (by decide), fun y => absurd y (by decide), fun _ => ?_⟩)
  · show fX12_readLine_33 N (f + 1) (nI i) M = _
    rw [← nI_1 i]
    rfl
  · rw [if_pos (show ¬ nI 3 = (1 : Int32) by decide), if_pos (show ¬ nI 3 = (2 : Int32) by decide), if_neg (show ¬ ¬ nI 3 = (3 : Int32) by decide), bind_id]
    exact e_li hN
  · intro a i h1 h2 h3
    unfold liD
    by_cases e : a = 129
    · rw [if_pos e, if_neg (by have := h2 e; omega), e]
    · rw [if_neg e, if_neg h3]
  · show bt (if 12 ≤ 12 + c ∧ 12 + c < 12 + 12 then 0 else D6 129 (12 + c)) t = true ↔ (c, t) ∈ []
    rw [if_pos (by omega), b_0]
    simp
  · show (if c < 12 then (0 : Int32) else D6 130 c) = _
    rw [if_pos hc]
    rfl
  · show 0 ≤ 2
    decide
  · unfold fX12_takesOther
    rw [if_neg (show ¬ ¬ nI 3 = (3 : Int32) by decide)]
    exact e_to7 hN
  · show n_up (cpS 129 129 12 X 12) 107 41 (nI m) a i = X a i
    by_cases e : a = 107
    · subst e
      rw [n_up_eq, upd_ne (by omega), cpS_o (by omega)]
    · rw [n_up_ne e, cpS_o (by omega)]
  · show n_up (cpS 129 129 12 X 12) 107 41 (nI m) 107 i = X 107 i
    rw [n_up_eq, upd_ne (by omega), cpS_o (by omega)]
  · rw [if_pos rfl]
    show n_up (cpS 129 129 12 X 12) 107 41 (nI m) 107 3 = X 107 3
    rw [n_up_eq, upd_ne (by decide), cpS_o (by omega)]
  · obtain ⟨i1, i2, ⟨i4, i6⟩, ps, p1, p2, p3, p4, p5⟩ := hI
    have o : ∀ a, a ≠ 80 → a ≠ 85 → a ≠ 86 → cs C j [] a = C a := fun a p1 p2 p3 => cs_o p1 p2 p3
    have o9 : n_up (ms b k v D j []) 107 15 0 129 = D 129 := by rw [n_up_ne (by decide), ms_o (by decide) (by decide) (by decide)]
    have o10 : n_up (ms b k v D j []) 107 15 0 130 = D 130 := by rw [n_up_ne (by decide), ms_o (by decide) (by decide) (by decide)]
    refine ⟨by rw [o 91 (by decide) (by decide) (by decide)]; exact i1, by rw [o 91 (by decide) (by decide) (by decide)]; exact i2, ⟨by rw [o 3 (by decide) (by decide) (by decide)]; exact i4, ?_⟩, ps, p1, by rw [o 92 (by decide) (by decide) (by decide)]; exact p2, by rw [o9]; exact p3, by rw [o10]; exact p4, p5⟩
    rw [n_up_eq, upd_ne (by decide), ms_7o (by omega) (by decide)]; exact i6
  · obtain ⟨i1, i2, -, ps, p1, p2, p3, p4, p5⟩ := hI
    show r_lin (c7 26 C 26 3) (c7 26 C 27) (n_up (cpS 129 129 12 X 12) 107 41 (nI m) 107 41) (n_up (cpS 129 129 12 X 12) 107 41 (nI m) 129) q
    have cc : ∀ i, i < 64 → c7 26 C 27 i = C 92 i := fun i hi => c7_c hi
    refine ⟨ps, by omega, by rw [c7_3, p1]; exact i1, by rw [n_up_eq, upd_eq, p1], fun i x hx => ?_, fun c hc t => ?_, p5⟩
    · have hi := l_lt hx
      rw [cc _ (by omega), cc _ (by omega)]
      exact p2 i x hx
    · rw [n_up_ne (by decide), cpS_in (by decide), cf_l hc]
      exact p3 c hc t
theorem st_text {G : nG} {M : nM} {n q N : Nat} (hN : 1000 ≤ N) (hG : n_GOK G) (h : Rel G M n q) (x : Int32) : Stq G (fX11_text N G x) (fX12_text N x) M := by
  refine Stq_mix (fun D hD => ?_)
  have hrd : RD M := h.2.2.1
  have hwd := h.2.2.2.2.1
  obtain ⟨⟨k, k1, k2, k3, k4⟩, -, -⟩ := hrd
  obtain ⟨b, hb⟩ : ∃ b : Nat → Nat, ∀ i, i < k → b i < 256 ∧ M 81 i = (nI (b i)).toInt8.toInt32 ∧ M 117 i = nI (b i) := by
    refine ⟨fun i => if hi : i < k then (k4 i hi).choose else 0, fun i hi => ?_⟩
    show (if hi : i < k then (k4 i hi).choose else 0) < 256 ∧ M 81 i = (nI (if hi : i < k then (k4 i hi).choose else 0)).toInt8.toInt32 ∧ M 117 i = nI (if hi : i < k then (k4 i hi).choose else 0)
    rw [dif_pos hi]
    exact (k4 i hi).choose_spec
  have hC : tx_C b k M := ⟨k1, fun i hi => ⟨(hb i hi).2.1, (hb i hi).1⟩⟩
  have hM : tx_M b k D := ⟨k1, by rw [hD 107 (by decide) (by decide)]; exact k3, fun i hi => by rw [hD 117 (by decide) (by decide)]; exact ⟨(hb i hi).2.2, (hb i hi).1⟩, fun i hi => by rw [hD 118 (by decide) (by decide)]; exact hwd i hi⟩
  -- what is no text
  have no : fX6_read N G x M = some (0, rM M) → wi x 0 3 = false → ∃ (w : Int32) (C' D' : nM), fX11_text N G x M = some (w, C') ∧ (∀ a, 107 ≤ a → a ≤ 151 → C' a = M a) ∧ fX12_text N x D = some (w, D') ∧ (∀ a, a < 107 ∨ 151 < a → D' a = D a) ∧ ∃ n q : Nat, Rel G (Mix C' D') n q := fun h1 h2 => by
    have sF : SM D (n_up (tD0 D) 107 15 0) := SM_t SM_D0 (SM_7 (by decide))
    refine ⟨-1, rM M, n_up (tD0 D) 107 15 0, tC_f h1, fun a a1 a2 => SC_rM.1 a (by omega), tM_o h2, fun a ha => ?_, n, q, ?_⟩
    · funext i
      exact sF a i (by unfold sx; omega)
    · refine Rel_scr2 h SC_rM (fun a i a1 a2 a3 => by rw [sF a i a3, hD a a1 a2]) ?_ ?_ ?_ ?_
      · unfold rM; rw [n_up_eq, upd_eq]
      · rw [n_up_eq, upd_eq]
      · unfold rM tD0
        rw [n_up_eq, upd_ne (by decide), n_up_eq, upd_ne (by decide), n_up_eq, upd_eq, n_up_eq, upd_ne (by decide), n_up_eq, upd_ne (by decide), n_up_eq, upd_ne (by decide), n_up_eq, upd_ne (by decide), n_up_eq, upd_ne (by decide), n_up_eq, upd_eq]
      · unfold rM tD0
        rw [n_up_eq, upd_ne (by decide), n_up_eq, upd_eq, n_up_eq, upd_ne (by decide), n_up_eq, upd_ne (by decide), n_up_eq, upd_ne (by decide), n_up_eq, upd_ne (by decide), n_up_eq, upd_eq]
  by_cases x0 : x < 0
  · refine no (by rw [read_eq, if_pos x0]) ?_
    unfold wi
    rw [decide_eq_true x0]
    rfl
  · by_cases x3 : x ≤ (3 : Int32)
    · obtain ⟨t, t1, t2⟩ := nI_of2 (M := 3) (n := 3) (by decide) x0 x3
      subst t2
      have : t = 0 ∨ t = 1 ∨ t = 2 ∨ t = 3 := by omega
      rcases this with e | e | e | e
      · subst e; exact tx_law hN hG h hD k2 hC hM
      · subst e; exact tx_sup hN hG h hD k2 hC hM
      · subst e; exact tx_cus hN hG h hD k2 hC hM
      · subst e; exact tx_lin hN hG h hD k2 hC hM
    · refine no (by rw [read_eq, if_neg x0, if_neg x3]) ?_
      unfold wi
      rw [decide_eq_true (Int32.not_le.mp x3)]
      cases decide (x < 0) <;> rfl
