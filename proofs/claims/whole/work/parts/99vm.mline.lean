/-! ===== text: a line of the law, the model ===== -/
/-- only line L of the draft changes, and what waits -/
def FL2 (L : Nat) (D D' : nM) : Prop := (∀ a i, a ≠ 107 → a ≠ 126 → (120 ≤ a → a ≤ 123 → i ≠ 32 + L) → D' a i = D a i) ∧ ∀ i, i ≠ 30 → i ≠ 32 → D' 107 i = D 107 i
theorem FL2_t {L : Nat} {M M' M'' : nM} (h1 : FL2 L M M') (h2 : FL2 L M' M'') : FL2 L M M'' := ⟨fun a i a1 a2 a3 => (h2.1 a i a1 a2 a3).trans (h1.1 a i a1 a2 a3), fun i i1 i2 => (h2.2 i i1 i2).trans (h1.2 i i1 i2)⟩
theorem FL2_R {L : Nat} {M M' : nM} (h : FR M M') : FL2 L M M' := ⟨fun a i a1 a2 _ => by rw [h.1 a a1 a2], h.2⟩
theorem FL2_u {L a : Nat} {M : nM} {x : Int32} (h : 120 ≤ a ∧ a ≤ 123) : FL2 L M (n_up M a (32 + L) x) := ⟨fun z i z1 z2 z3 => by
  by_cases e : z = a
  · subst e
    rw [n_up_eq, upd_ne (z3 h.1 h.2)]
  · rw [n_up_ne e], fun i _ _ => by rw [n_up_ne (by omega)]⟩
theorem FL2_M {b : Nat → Nat} {k L : Nat} {M M' : nM} (h : FL2 L M M') (hM : MB b k M) : MB b k M' := by
  obtain ⟨m1, m2, m3, m4⟩ := hM
  exact ⟨m1, by rw [h.2 15 (by decide) (by decide)]; exact m2, fun i hi => by rw [h.1 117 i (by decide) (by decide) (by omega)]; exact m3 i hi, fun i hi => by rw [h.1 118 i (by decide) (by decide) (by omega)]; exact m4 i hi⟩
theorem e_ilw {b : Nat → Nat} {k n j : Nat} {v : Int32} {M0 : nM} {c : List (Nat × Nat)} (h : TK (tkT b k) n) (hj : j ≤ n) : fX12_isLineWord (ms b k v M0 j c) = some (cb (decide ((tkT b k j).1 = 2 ∧ (tkT b k j).2.1 < 3)), ms b k v M0 j c) := by
  obtain ⟨k1, k2, k3, k4, k5⟩ := h.2 j hj
  unfold fX12_isLineWord
  rw [ms_18]
  by_cases e : (tkT b k j).1 = 2
  · have hv := k3 e
    rw [if_neg (not_not_intro (show nI (tkT b k j).1 = (2 : Int32) by rw [e]; rfl)), ms_19, tkw_v (by omega), e_isIn, Option.bind_some, show (0 : Int32) = nI 0 from rfl, show (2 : Int32) = nI 2 from rfl, tx_w 0 2 (by decide) _ (by omega) (by decide)]
    have : decide (0 ≤ (tkT b k j).2.1 ∧ (tkT b k j).2.1 ≤ 2) = decide ((tkT b k j).1 = 2 ∧ (tkT b k j).2.1 < 3) := decide_eq_decide.mpr ⟨fun z => ⟨e, by omega⟩, fun z => by omega⟩
    rw [this]
    cases decide ((tkT b k j).1 = 2 ∧ (tkT b k j).2.1 < 3) <;> rfl
  · rw [if_pos (show ¬ nI (tkT b k j).1 = (2 : Int32) from fun y => e ((nI_eq (b := 2) (by omega) (by decide)).mp y)), decide_eq_false (fun y => e y.1)]
    rfl
theorem c_whM {b : Nat → Nat} {k n N j : Nat} {v : Int32} {D : nM} {c : List lOp} {F : nM → Option (Int32 × nM)} (hN : 1000 ≤ N) (hT : MT b k n) (hM : MB b k D) (hj : j ≤ n) (hc : lm c ≤ j) (h30 : D 107 30 = 0) : (∀ x, sp_wh (tkT b k) j c = .inl x → ∃ D' : nM, ((fX12_isWord (3 : Int32) (ms b k v D j (l_mods c))).bind fun p9 => if p9.1 = 0 then F p9.2 else (fX12_reads_all N p9.2).bind fun p10 => (fX12_readAny N p10.2).bind fun p11 => if ¬ p11.1 = (-1 : Int32) then F p11.2 else some ((-1 : Int32), p11.2)) = some (-1, me b k v D' x.1 x.2.1 (l_mods x.2.2)) ∧ FR D D') ∧ (∀ j' c', sp_wh (tkT b k) j c = .inr (j', c') → ∃ D' : nM, ((fX12_isWord (3 : Int32) (ms b k v D j (l_mods c))).bind fun p9 => if p9.1 = 0 then F p9.2 else (fX12_reads_all N p9.2).bind fun p10 => (fX12_readAny N p10.2).bind fun p11 => if ¬ p11.1 = (-1 : Int32) then F p11.2 else some ((-1 : Int32), p11.2)) = F (ms b k v D' j' (l_mods c')) ∧ FR D D' ∧ D' 107 30 = 0) := by
  obtain ⟨h, h1⟩ := id hT
  rw [show (3 : Int32) = nI 3 from rfl, e_mW h hj (by decide), Option.bind_some]
  unfold sp_wh
  by_cases z : isW (tkT b k) j 3
  · have hl := tk_W h hj z
    obtain ⟨q1, q2⟩ := e_cdM (v := v) (c := c) hN hT hM (show j + 1 ≤ n from hl) (by omega) h30
    rw [decide_eq_true z, if_neg (show ¬ (cb true : Int32) = 0 by decide), if_pos z]
    show (∀ x, _ → ∃ D' : nM, ((fX12_reads_all N (ms b k v D j (l_mods c))).bind fun p10 => (fX12_readAny N p10.2).bind fun p11 => if ¬ p11.1 = (-1 : Int32) then F p11.2 else some ((-1 : Int32), p11.2)) = _ ∧ _) ∧ (∀ j' c', _ → ∃ D' : nM, ((fX12_reads_all N (ms b k v D j (l_mods c))).bind fun p10 => (fX12_readAny N p10.2).bind fun p11 => if ¬ p11.1 = (-1 : Int32) then F p11.2 else some ((-1 : Int32), p11.2)) = _ ∧ _)
    rw [e_rds hN h1 hM hj, nx_l hl, Option.bind_some]
    show (∀ x, _ → ∃ D' : nM, ((fX12_readAny N (ms b k v D (j + 1) (l_mods c))).bind fun p11 => if ¬ p11.1 = (-1 : Int32) then F p11.2 else some ((-1 : Int32), p11.2)) = _ ∧ _) ∧ (∀ j' c', _ → ∃ D' : nM, ((fX12_readAny N (ms b k v D (j + 1) (l_mods c))).bind fun p11 => if ¬ p11.1 = (-1 : Int32) then F p11.2 else some ((-1 : Int32), p11.2)) = _ ∧ _)
    refine ⟨fun x hx => ?_, fun j' c' hx => ?_⟩
    · obtain ⟨D', r1, r2⟩ := q1 x hx
      refine ⟨D', ?_, r2⟩
      rw [r1, Option.bind_some, if_neg (show ¬ ¬ (-1 : Int32) = -1 by decide)]
    · obtain ⟨D', r1, r2, r3⟩ := q2 j' c' hx
      refine ⟨D', ?_, r2, r3⟩
      rw [r1, Option.bind_some, if_pos (show ¬ (0 : Int32) = -1 by decide)]
  · rw [decide_eq_false z, if_pos (show (cb false : Int32) = 0 from rfl), if_neg z]
    refine ⟨fun x hx => (inr_inl hx).elim, fun j' c' hx => ?_⟩
    have e2 := inr_inj hx
    have e3 : j = j' := congrArg Prod.fst e2
    have e4 : c = c' := congrArg Prod.snd e2
    subst e3
    subst e4
    exact ⟨D, rfl, FR_r _, h30⟩
theorem lw_eq (N f : Nat) (x1 : Int32) (M : nM) : fX12_readLaw_2 N (f + 1) x1 M = (fX12_isLineWord M).bind fun p1 => if p1.1 = 0 then (if ¬ (p1.2 107 18) = 0 then ((fX12_errs (1 : Int32) p1.2).bind fun p => some (p.1, p.2)) else some (x1, p1.2)) else if ¬ x1 = (16 : Int32) then n_chk (n_ib 48 ((32 : Int32) + x1)) ((fX12_reads_all N (n_up p1.2 120 ((32 : Int32) + x1).toNatClampNeg (p1.2 107 19))).bind fun p5 => n_chk (n_ib 48 ((32 : Int32) + x1)) ((fX12_readSum N (n_up p5.2 121 ((32 : Int32) + x1).toNatClampNeg (p5.2 107 29))).bind fun p7 => if ¬ p7.1 = (-1 : Int32) then n_chk (n_ib 48 ((32 : Int32) + x1)) ((fX12_isWord (3 : Int32) (n_up p7.2 122 ((32 : Int32) + x1).toNatClampNeg (p7.2 107 29))).bind fun p9 => if p9.1 = 0 then fX12_readLaw_92 N (fun x1 M => fX12_readLaw_2 N f x1 M) x1 ((32 : Int32) + x1) p9.2 else (fX12_reads_all N p9.2).bind fun p10 => (fX12_readAny N p10.2).bind fun p11 => if ¬ p11.1 = (-1 : Int32) then fX12_readLaw_92 N (fun x1 M => fX12_readLaw_2 N f x1 M) x1 ((32 : Int32) + x1) p11.2 else some ((-1 : Int32), p11.2)) else some ((-1 : Int32), p7.2))) else ((fX12_errs (3 : Int32) p1.2).bind fun p => some (p.1, p.2)) := rfl
theorem l92_eq (N : Nat) (k2 : Int32 → nM → Option (Int32 × nM)) (x1 x2 : Int32) (M : nM) : fX12_readLaw_92 N k2 x1 x2 M = n_chk (n_ib 48 x2) ((fX12_isSign (59 : Int32) (n_up M 123 x2.toNatClampNeg (M 107 29))).bind fun p2 => if ¬ p2.1 = 0 then (fX12_reads_all N p2.2).bind fun p3 => k2 (x1 + (1 : Int32)) p3.2 else (fX12_errs (1 : Int32) p2.2).bind fun p => some (p.1, p.2)) := rfl
theorem e_lnM {b : Nat → Nat} {k n N j L f : Nat} {v : Int32} {D : nM} {c : List lOp} (hN : 1000 ≤ N) (hT : MT b k n) (hM : MB b k D) (hj : j < n) (hc : lm c ≤ j) (h30 : D 107 30 = 0) (hL : L < 16) (hw : (tkT b k j).1 = 2 ∧ (tkT b k j).2.1 < 3) : (∀ x, sp_ln (tkT b k) j c = .inl x → ∃ D' : nM, fX12_readLaw_2 N (f + 1) (nI L) (ms b k v D j (l_mods c)) = some (-1, me b k v D' x.1 x.2.1 (l_mods x.2.2)) ∧ FL2 L D D') ∧ (∀ y, sp_ln (tkT b k) j c = .inr y → ∃ D' : nM, fX12_readLaw_2 N (f + 1) (nI L) (ms b k v D j (l_mods c)) = fX12_readLaw_2 N f (nI (L + 1)) (ms b k v D' y.1 (l_mods y.2.2)) ∧ FL2 L D D' ∧ D' 107 30 = 0 ∧ D' 120 (32 + L) = nI (tkT b k j).2.1 ∧ D' 121 (32 + L) = nI (lm c) ∧ D' 122 (32 + L) = nI (lm y.2.1) ∧ D' 123 (32 + L) = nI (lm y.2.2)) := by
  obtain ⟨h, h1⟩ := id hT
  have hn := h.1
  have e32 : (32 : Int32) + nI L = nI (32 + L) := nI_add 32 L
  have ib : n_ib 48 (nI (32 + L)) = true := n_ib_nI (by omega) (by decide)
  have cl : (nI (32 + L)).toNatClampNeg = 32 + L := nI_clamp (by omega)
  obtain ⟨D2, hD2⟩ : ∃ D2, D2 = n_up (n_up D 120 (32 + L) (nI (tkT b k j).2.1)) 121 (32 + L) (nI (lm c)) := ⟨_, rfl⟩
  have F1 : FL2 L D (n_up D 120 (32 + L) (nI (tkT b k j).2.1)) := FL2_u (by decide)
  have F2 : FL2 L D D2 := by rw [hD2]; exact FL2_t F1 (FL2_u (by decide))
  have hM2 := FL2_M F2 hM
  have e0 : fX12_readLaw_2 N (f + 1) (nI L) (ms b k v D j (l_mods c)) = ((fX12_readSum N (ms b k v D2 (j + 1) (l_mods c))).bind fun p7 => if ¬ p7.1 = (-1 : Int32) then n_chk (n_ib 48 (nI (32 + L))) ((fX12_isWord (3 : Int32) (n_up p7.2 122 (nI (32 + L)).toNatClampNeg (p7.2 107 29))).bind fun p9 => if p9.1 = 0 then fX12_readLaw_92 N (fun x1 M => fX12_readLaw_2 N f x1 M) (nI L) (nI (32 + L)) p9.2 else (fX12_reads_all N p9.2).bind fun p10 => (fX12_readAny N p10.2).bind fun p11 => if ¬ p11.1 = (-1 : Int32) then fX12_readLaw_92 N (fun x1 M => fX12_readLaw_2 N f x1 M) (nI L) (nI (32 + L)) p11.2 else some ((-1 : Int32), p11.2)) else some ((-1 : Int32), p7.2)) := by
    rw [lw_eq, e_ilw h (by omega), decide_eq_true hw, Option.bind_some, if_neg (show ¬ (cb true : Int32) = 0 by decide), if_pos (show ¬ nI L = (16 : Int32) from fun q => by have := (nI_eq (b := 16) (by omega) (by decide)).mp q; omega), e32, ib, n_chk_t, cl]
    show ((fX12_reads_all N (n_up (ms b k v D j (l_mods c)) 120 (32 + L) (ms b k v D j (l_mods c) 107 19))).bind _) = _
    rw [ms_19, tkw_v (by omega), ms_up (by decide) (by decide) (fun z => absurd z (by decide)), e_rds hN h1 (FL2_M F1 hM) (by omega), nx_l hj, Option.bind_some, n_chk_t]
    show ((fX12_readSum N (n_up (ms b k v (n_up D 120 (32 + L) (nI (tkT b k j).2.1)) (j + 1) (l_mods c)) 121 (32 + L) (ms b k v (n_up D 120 (32 + L) (nI (tkT b k j).2.1)) (j + 1) (l_mods c) 107 29))).bind _) = _
    rw [ms_29, ms_up (by decide) (by decide) (fun z => absurd z (by decide)), show nI (l_mods c).length = nI (lm c) from rfl, ← hD2]
  rw [e0, e_suM hN hT hM2 hj (by omega)]
  rcases sp_ln_x (c := c) h hj with ⟨x, x1, x2⟩ | ⟨j1, c1, E, a1, a2, a3, a4, a5, a6, a7⟩
  · rw [x1, x2, mR_l, Option.bind_some, if_neg (show ¬ ¬ (-1 : Int32) = -1 by decide)]
    exact ⟨fun y hy => ⟨D2, by rw [← tL_inl hy], F2⟩, fun y hy => (tL_no hy).elim⟩
  · have hc1 : lm c1 ≤ j1 := by rw [a4, lm_a]; omega
    obtain ⟨D3, hD3⟩ : ∃ D3, D3 = n_up D2 122 (32 + L) (nI (lm c1)) := ⟨_, rfl⟩
    have F3 : FL2 L D D3 := by rw [hD3]; exact FL2_t F2 (FL2_u (by decide))
    have hM3 := FL2_M F3 hM
    have h303 : D3 107 30 = 0 := by rw [hD3, hD2, n_up_ne (by decide), n_up_ne (by decide), n_up_ne (by decide)]; exact h30
    rw [a1, mR_r, Option.bind_some, if_pos (show ¬ (0 : Int32) = -1 by decide), ib, cl, n_chk_t]
    show (∀ x, _ → ∃ D' : nM, ((fX12_isWord (3 : Int32) (n_up (ms b k v D2 j1 (l_mods c1)) 122 (32 + L) (ms b k v D2 j1 (l_mods c1) 107 29))).bind _) = _ ∧ _) ∧ (∀ y, _ → ∃ D' : nM, ((fX12_isWord (3 : Int32) (n_up (ms b k v D2 j1 (l_mods c1)) 122 (32 + L) (ms b k v D2 j1 (l_mods c1) 107 29))).bind _) = _ ∧ _)
    rw [ms_29, ms_up (by decide) (by decide) (fun z => absurd z (by decide)), show nI (l_mods c1).length = nI (lm c1) from rfl, ← hD3]
    obtain ⟨w1, w2⟩ := c_whM (v := v) (N := N) (c := c1) (F := fun M => fX12_readLaw_92 N (fun x1 M => fX12_readLaw_2 N f x1 M) (nI L) (nI (32 + L)) M) hN hT hM3 a3 hc1 h303
    rcases a7 with ⟨x, x1, x2⟩ | ⟨j2, c2, B, b1, b2, b3, b4, b5, b6, b7⟩
    · obtain ⟨D4, q1, q2⟩ := w1 x x1
      rw [x2]
      refine ⟨fun y hy => ⟨D4, ?_, FL2_t F3 (FL2_R q2)⟩, fun y hy => (tL_no hy).elim⟩
      rw [← tL_inl hy]
      exact q1
    · obtain ⟨D4, q1, q2, q3⟩ := w2 j2 c2 b1
      have F4 := FL2_t F3 (FL2_R (L := L) q2)
      obtain ⟨D5, hD5⟩ : ∃ D5, D5 = n_up D4 123 (32 + L) (nI (lm c2)) := ⟨_, rfl⟩
      have F5 : FL2 L D D5 := by rw [hD5]; exact FL2_t F4 (FL2_u (by decide))
      have hM5 := FL2_M F5 hM
      have el : fX12_readLaw_92 N (fun x1 M => fX12_readLaw_2 N f x1 M) (nI L) (nI (32 + L)) (ms b k v D4 j2 (l_mods c2)) = if isS (tkT b k) j2 59 then fX12_readLaw_2 N f (nI (L + 1)) (ms b k v D5 (j2 + 1) (l_mods c2)) else some (-1, me b k v D5 1 j2 (l_mods c2)) := by
        rw [l92_eq, ib, cl, n_chk_t, ms_29, ms_up (by decide) (by decide) (fun z => absurd z (by decide)), show nI (l_mods c2).length = nI (lm c2) from rfl, ← hD5, show (59 : Int32) = nI 59 from rfl, e_mS h b3 (by decide), Option.bind_some]
        by_cases z : isS (tkT b k) j2 59
        · rw [decide_eq_true z, if_pos (show ¬ (cb true : Int32) = 0 by decide), if_pos z]
          show ((fX12_reads_all N (ms b k v D5 j2 (l_mods c2))).bind _) = _
          rw [e_rds hN h1 hM5 b3, nx_l (tk_S h b3 z), Option.bind_some, nI_1]
        · rw [decide_eq_false z, if_neg (show ¬ ¬ (cb false : Int32) = 0 by decide), if_neg z]
          exact e_ers2 1
      have q1' := q1.trans el
      rw [b7]
      by_cases z : isS (tkT b k) j2 59
      · rw [if_pos z] at q1' ⊢
        refine ⟨fun y hy => (tL_on hy).elim, fun y hy => ?_⟩
        rw [← tL_inj hy]
        refine ⟨D5, q1', F5, ?_, ?_, ?_, ?_, ?_⟩
        · rw [hD5, n_up_ne (by decide)]; exact q3
        · rw [hD5, n_up_ne (by decide), q2.1 120 (by decide) (by decide), hD3, n_up_ne (by decide), hD2, n_up_ne (by decide), n_up_eq, upd_eq]
        · rw [hD5, n_up_ne (by decide), q2.1 121 (by decide) (by decide), hD3, n_up_ne (by decide), hD2, n_up_eq, upd_eq]
        · rw [hD5, n_up_ne (by decide), q2.1 122 (by decide) (by decide), hD3, n_up_eq, upd_eq]
        · rw [hD5, n_up_eq, upd_eq]
      · rw [if_neg z] at q1' ⊢
        refine ⟨fun y hy => ⟨D5, ?_, F5⟩, fun y hy => (tL_no hy).elim⟩
        rw [← tL_inl hy]
        exact q1'
/-! ===== text: the lines of the law, both ===== -/
def sub1 {α : Type} (f : Nat) (s c : List α) : Prop := f + s.length ≤ c.length ∧ ∀ (i : Nat) (y : α), s[i]? = some y → c[f + i]? = some y
theorem sub1_a {α : Type} {f : Nat} {s c d : List α} (h : sub1 f s c) : sub1 f s (c ++ d) := ⟨by rw [List.length_append]; have := h.1; omega, fun i y hy => by
  have := h.2 i y hy
  rw [List.getElem?_append_left (l_lt this)]
  exact this⟩
theorem sub1_n {α : Type} {s c : List α} : sub1 c.length s (c ++ s) := ⟨by rw [List.length_append]; omega, fun i y hy => by
  rw [List.getElem?_append_right (by omega), Nat.add_sub_cancel_left]
  exact hy⟩
def LWc (C : nM) (ls : List lLn) (c : List lOp) : Prop := C 85 6 = nI ls.length ∧ ∀ (i : Nat) (x : lLn), ls[i]? = some x → ∃ f : Nat, C 87 i = nI x.1 ∧ C 88 i = nI f ∧ C 89 i = nI (f + x.2.1.length) ∧ C 90 i = nI (f + x.2.1.length + x.2.2.length) ∧ sub1 f (x.2.1 ++ x.2.2) c
def LWm (D : nM) (ls : List lLn) (c : List lOp) : Prop := ∀ (i : Nat) (x : lLn), ls[i]? = some x → x.1 < 3 ∧ l_okE x.2.1 ∧ l_okB x.2.2 ∧ ∃ f : Nat, D 120 (32 + i) = nI x.1 ∧ D 121 (32 + i) = nI f ∧ D 122 (32 + i) = nI (f + lm x.2.1) ∧ D 123 (32 + i) = nI (f + lm x.2.1 + lm x.2.2) ∧ sub1 f (l_mods x.2.1 ++ l_mods x.2.2) (l_mods c)
def FL (D D' : nM) : Prop := (∀ a i, a ≠ 107 → a ≠ 126 → (120 ≤ a → a ≤ 123 → i < 32) → D' a i = D a i) ∧ ∀ i, i ≠ 30 → i ≠ 32 → D' 107 i = D 107 i
theorem FL_r (D : nM) : FL D D := ⟨fun _ _ _ _ _ => rfl, fun _ _ _ => rfl⟩
theorem FL_t {M M' M'' : nM} (h1 : FL M M') (h2 : FL M' M'') : FL M M'' := ⟨fun a i a1 a2 a3 => (h2.1 a i a1 a2 a3).trans (h1.1 a i a1 a2 a3), fun i i1 i2 => (h2.2 i i1 i2).trans (h1.2 i i1 i2)⟩
theorem FL_2 {L : Nat} {M M' : nM} (h : FL2 L M M') : FL M M' := ⟨fun a i a1 a2 a3 => h.1 a i a1 a2 (fun p q => by have := a3 p q; omega), h.2⟩
theorem c_law {b : Nat → Nat} {k n N : Nat} {v : Int32} {G : nG} (hN : 1000 ≤ N) (hT : MT b k n) : ∀ (d j f g : Nat) (ls : List lLn) (c : List lOp) (C D : nM), j ≤ n → n < j + d → n < j + f → n < j + g → ls.length ≤ 16 → lm c ≤ j → CB (tkT b k) n C → MB b k D → D 107 30 = 0 → LWc C ls c → LWm D ls c → (∃ (e j' : Nat) (c' : List lOp) (C' D' : nM) (μ : List (Nat × Nat)), fX6_read_53 N G f (nI 0) (nI ls.length) (cs C j c) = some (0, ce (tkT b k) C' e j' c') ∧ fX12_readLaw_2 N g (nI ls.length) (ms b k v D j (l_mods c)) = some (-1, me b k v D' e j' μ) ∧ FC C C' ∧ FL D D') ∨ (∃ (j' : Nat) (ls' : List lLn) (c' : List lOp) (C' D' : nM), fX6_read_53 N G f (nI 0) (nI ls.length) (cs C j c) = some (1, cs C' j' c') ∧ fX12_readLaw_2 N g (nI ls.length) (ms b k v D j (l_mods c)) = some (nI ls'.length, ms b k v D' j' (l_mods c')) ∧ FC C C' ∧ FL D D' ∧ ls'.length ≤ 16 ∧ lm c' ≤ 400 ∧ LWc C' ls' c' ∧ LWm D' ls' c') := by
  obtain ⟨h, h1⟩ := id hT
  have hn := h.1
  intro d
  induction d with
  | zero => exact fun j f g ls c C D hj hd => absurd hd (by omega)
  | succ d ih =>
    intro j f g ls c C D hj hd hf hg hls hc hB hM h30 hLc hLm
    obtain ⟨f, rfl⟩ : ∃ f', f = f' + 1 := ⟨f - 1, by omega⟩
    obtain ⟨g, rfl⟩ : ∃ g', g = g' + 1 := ⟨g - 1, by omega⟩
    obtain ⟨r1, r2, r3, r4⟩ := e_53 (N := N) (G := G) (f := f) (t := 0) (i := ls.length) (c := c) h hB hj (by decide) hls
    have eb : bgn (tkT b k) 0 j = ((tkT b k j).1 = 2 ∧ (tkT b k j).2.1 < 3) := if_pos rfl
    by_cases hw : (tkT b k j).1 = 2 ∧ (tkT b k j).2.1 < 3
    · have hne : (tkT b k j).1 ≠ 0 := by rw [hw.1]; decide
      have hjn := tk_lt h hj hne
      by_cases h16 : ls.length = 16
      · refine Or.inl ⟨3, j, c, C, D, l_mods c, r3 hne (by rw [eb]; exact hw) h16, ?_, FC_r _, FL_r _⟩
        rw [lw_eq, e_ilw h hj, decide_eq_true hw, Option.bind_some, if_neg (show ¬ (cb true : Int32) = 0 by decide), if_neg (not_not_intro (show nI ls.length = (16 : Int32) by rw [h16]; rfl))]
        exact e_ers2 3
      · have hL : ls.length < 16 := by omega
        rw [r4 hne (by rw [eb]; exact hw) hL]
        obtain ⟨p1, p2⟩ := e_lnC (N := N) hN h hB hjn hc hLc.1 hL hw
        obtain ⟨q1, q2⟩ := e_lnM (v := v) (N := N) (f := g) hN hT hM hjn hc h30 hL hw
        have elT : lnT N G 0 (cs C j c) = fX6_lawLine N (cs C j c) := if_pos rfl
        rw [elT]
        rcases sp_ln_x (c := c) h hjn with ⟨x, x1, x2⟩ | ⟨j1, c1, E, a1, a2, a3, a4, a5, a6, a7⟩
        · obtain ⟨C', s1, s2⟩ := p1 x x2
          obtain ⟨D', t1, t2⟩ := q1 x x2
          rw [s1, Option.bind_some, if_neg (show ¬ ¬ (0 : Int32) = 0 by decide)]
          exact Or.inl ⟨x.1, x.2.1, x.2.2, C', D', _, rfl, t1, s2, FL_2 t2⟩
        · rcases a7 with ⟨x, x1, x2⟩ | ⟨j2, c2, B, b1, b2, b3, b4, b5, b6, b7⟩
          · obtain ⟨C', s1, s2⟩ := p1 x x2
            obtain ⟨D', t1, t2⟩ := q1 x x2
            rw [s1, Option.bind_some, if_neg (show ¬ ¬ (0 : Int32) = 0 by decide)]
            exact Or.inl ⟨x.1, x.2.1, x.2.2, C', D', _, rfl, t1, s2, FL_2 t2⟩
          · by_cases z : isS (tkT b k) j2 59
            · rw [if_pos z] at b7
              have hl2 := tk_S h b3 z
              have s1 := p2 _ b7
              obtain ⟨D', t1, t2, t3, t4, t5, t6, t7⟩ := q2 _ b7
              have s1' : fX6_lawLine N (cs C j c) = some (1, cs (lnC C ls.length (tkT b k j).2.1 c c1 c2) (j2 + 1) c2) := s1
              have t1' : fX12_readLaw_2 N (g + 1) (nI ls.length) (ms b k v D j (l_mods c)) = fX12_readLaw_2 N g (nI (ls.length + 1)) (ms b k v D' (j2 + 1) (l_mods c2)) := t1
              have t6' : D' 122 (32 + ls.length) = nI (lm c1) := t6
              have t7' : D' 123 (32 + ls.length) = nI (lm c2) := t7
              have FCl : FC C (lnC C ls.length (tkT b k j).2.1 c c1 c2) := by
                unfold lnC
                exact FC_t (FC_u (by decide)) (FC_t (FC_u (by decide)) (FC_t (FC_u (by decide)) (FC_t (FC_u (by decide)) FC_6)))
              rw [s1', Option.bind_some, if_pos (show ¬ (1 : Int32) = 0 by decide), t1']
              have ec2 : c2 = c ++ (E ++ B) := by rw [b4, a4, List.append_assoc]
              have hLc' : LWc (lnC C ls.length (tkT b k j).2.1 c c1 c2) (ls ++ [((tkT b k j).2.1, E, B)]) c2 := by
                refine ⟨?_, l_snoc (fun i x hx => ?_) ?_⟩
                · unfold lnC
                  rw [n_up_eq, upd_eq, List.length_append]; rfl
                · have hi := l_lt hx
                  obtain ⟨f0, y1, y2, y3, y4, y5⟩ := hLc.2 i x hx
                  have ne : i ≠ ls.length := by omega
                  refine ⟨f0, ?_, ?_, ?_, ?_, by rw [ec2]; exact sub1_a y5⟩
                  · unfold lnC
                    rw [n_up_ne (by decide), n_up_ne (by decide), n_up_ne (by decide), n_up_ne (by decide), n_up_eq, upd_ne ne]; exact y1
                  · unfold lnC
                    rw [n_up_ne (by decide), n_up_ne (by decide), n_up_ne (by decide), n_up_eq, upd_ne ne, n_up_ne (by decide)]; exact y2
                  · unfold lnC
                    rw [n_up_ne (by decide), n_up_ne (by decide), n_up_eq, upd_ne ne, n_up_ne (by decide), n_up_ne (by decide)]; exact y3
                  · unfold lnC
                    rw [n_up_ne (by decide), n_up_eq, upd_ne ne, n_up_ne (by decide), n_up_ne (by decide), n_up_ne (by decide)]; exact y4
                · refine ⟨c.length, ?_, ?_, ?_, ?_, by rw [ec2]; exact sub1_n⟩
                  · unfold lnC
                    rw [n_up_ne (by decide), n_up_ne (by decide), n_up_ne (by decide), n_up_ne (by decide), n_up_eq, upd_eq]
                  · unfold lnC
                    rw [n_up_ne (by decide), n_up_ne (by decide), n_up_ne (by decide), n_up_eq, upd_eq]
                  · unfold lnC
                    rw [n_up_ne (by decide), n_up_ne (by decide), n_up_eq, upd_eq, a4, List.length_append]
                  · unfold lnC
                    rw [n_up_ne (by decide), n_up_eq, upd_eq, ec2, List.length_append, List.length_append, Nat.add_assoc]
              have em2 : l_mods c2 = l_mods c ++ (l_mods E ++ l_mods B) := by rw [ec2, l_mods_a, l_mods_a]
              have hLm' : LWm D' (ls ++ [((tkT b k j).2.1, E, B)]) c2 := by
                refine l_snoc (fun i x hx => ?_) ?_
                · have hi := l_lt hx
                  obtain ⟨y1, y2, y3, f0, y4, y5, y6, y7, y8⟩ := hLm i x hx
                  have fr : ∀ a, 120 ≤ a → a ≤ 123 → D' a (32 + i) = D a (32 + i) := fun a p q => t2.1 a _ (by omega) (by omega) (fun _ _ => by omega)
                  refine ⟨y1, y2, y3, f0, ?_, ?_, ?_, ?_, by rw [em2]; exact sub1_a y8⟩
                  · rw [fr 120 (by decide) (by decide)]; exact y4
                  · rw [fr 121 (by decide) (by decide)]; exact y5
                  · rw [fr 122 (by decide) (by decide)]; exact y6
                  · rw [fr 123 (by decide) (by decide)]; exact y7
                · refine ⟨hw.2, a6, b6, lm c, t4, t5, ?_, ?_, by rw [em2]; exact sub1_n⟩
                  · rw [t6', a4, lm_a]
                  · rw [t7', ec2, lm_a, lm_a, Nat.add_assoc]
              have hlen : (ls ++ [((tkT b k j).2.1, E, B)]).length = ls.length + 1 := by rw [List.length_append]; rfl
              have hc2 : lm c2 ≤ j2 := by rw [ec2, lm_a, lm_a]; omega
              have r := ih (j2 + 1) f g (ls ++ [((tkT b k j).2.1, E, B)]) c2 (lnC C ls.length (tkT b k j).2.1 c c1 c2) D' hl2 (by omega) (by omega) (by omega) (by rw [hlen]; omega) (by omega) (FC_B FCl hB) (FL2_M t2 hM) t3 hLc' hLm'
              rw [hlen] at r
              rcases r with ⟨e, j', c', C', D'', μ, u1, u2, u3, u4⟩ | ⟨j', ls', c', C', D'', u1, u2, u3, u4, u5⟩
              · exact Or.inl ⟨e, j', c', C', D'', μ, u1, u2, FC_t FCl u3, FL_t (FL_2 t2) u4⟩
              · exact Or.inr ⟨j', ls', c', C', D'', u1, u2, FC_t FCl u3, FL_t (FL_2 t2) u4, u5⟩
            · rw [if_neg z] at b7
              obtain ⟨C', s1, s2⟩ := p1 _ b7
              obtain ⟨D', t1, t2⟩ := q1 _ b7
              rw [s1, Option.bind_some, if_neg (show ¬ ¬ (0 : Int32) = 0 by decide)]
              exact Or.inl ⟨1, j2, c2, C', D', _, rfl, t1, s2, FL_2 t2⟩
    · have em : fX12_readLaw_2 N (g + 1) (nI ls.length) (ms b k v D j (l_mods c)) = if ¬ ms b k v D j (l_mods c) 107 18 = 0 then ((fX12_errs (1 : Int32) (ms b k v D j (l_mods c))).bind fun p => some (p.1, p.2)) else some (nI ls.length, ms b k v D j (l_mods c)) := by
        rw [lw_eq, e_ilw h hj, decide_eq_false hw, Option.bind_some, if_pos (show (cb false : Int32) = 0 from rfl)]
      rw [em, ms_18]
      by_cases h0 : (tkT b k j).1 = 0
      · rw [if_neg (not_not_intro (show nI (tkT b k j).1 = 0 by rw [h0]; rfl))]
        exact Or.inr ⟨j, ls, c, C, D, r1 h0, rfl, FC_r _, FL_r _, hls, by omega, hLc, hLm⟩
      · rw [if_pos (show ¬ nI (tkT b k j).1 = 0 from nI_ne0 (by omega) (by have := (h.2 j hj).2.1; omega))]
        exact Or.inl ⟨1, j, c, C, D, l_mods c, r2 h0 (by rw [eb]; exact hw), e_ers2 1, FC_r _, FL_r _⟩
