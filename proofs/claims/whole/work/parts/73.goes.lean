/-! ===== goes ===== -/
def hrC (N : Nat) (G : nG) : Nat → Nat → nM → Option (Int32 × nM)
  | 0, _, M => some (0, M)
  | k + 1, a, M => (fX0_passHour N G a M).bind fun p => hrC N G k a p.2
def hrM (N : Nat) : Nat → nM → Option (Int32 × nM)
  | 0, M => some (0, M)
  | k + 1, M => (fX12_goesBy N M).bind fun p => hrM N k p.2
def d_it (n q : Nat) : Nat → dD
  | 0 => fun _ _ _ row bk => (0, row, bk)
  | k + 1 => fun m ls th row bk => d_it n q k m ls th (d_hrD n q m ls th row bk).2.1 (d_hrD n q m ls th row bk).2.2
theorem it_DoC {G : nG} {N n q : Nat} (hN : 1000 ≤ N) : ∀ k : Nat, DoC G n q (hrC N G k) (d_it n q k)
  | 0 => fun _ _ M _ _ _ _ _ _ _ h => ⟨M, rfl, h⟩
  | k + 1 => fun M0 m M ls a th row bk hW ha h => by
    obtain ⟨M1, e1, h1⟩ := hr_DoC (N := N) hN M0 m M ls a th row bk hW ha h
    obtain ⟨M2, e2, h2⟩ := it_DoC hN k M0 m M1 ls a th _ _ hW ha h1
    refine ⟨M2, ?_, h2⟩
    show (fX0_passHour N G a M).bind (fun p => hrC N G k a p.2) = _
    have e1' : fX0_passHour N G a M = _ := e1
    rw [e1', Option.bind_some]
    exact e2
theorem it_DoM {G : nG} {N n q : Nat} (hN : 1000 ≤ N) : ∀ k : Nat, DoM G n q (hrM N k) (d_it n q k)
  | 0 => fun _ _ _ _ _ _ f S _ _ _ => ⟨f, S, rfl⟩
  | k + 1 => fun M0 m ls th row bk f S hW h5 ⟨M, a, ha, h⟩ => by
    obtain ⟨M1, e1, h1⟩ := hr_DoC (N := N) hN M0 m M ls a th row bk hW ha h
    obtain ⟨f1, S1, e2⟩ := hr_DoM (N := N) hN M0 m ls th row bk f S hW h5 ⟨M, a, ha, h⟩
    obtain ⟨f2, S2, e3⟩ := it_DoM hN k M0 m ls th _ _ f1 S1 hW h5 ⟨M1, a, ha, h1⟩
    refine ⟨f2, S2, ?_⟩
    show (fX12_goesBy N (dM m row bk f S)).bind (fun p => hrM N k p.2) = _
    have e2' : fX12_goesBy N (dM m row bk f S) = _ := e2
    rw [e2', Option.bind_some]
    exact e3
theorem cust_b {m : nM} {ls : List lLn} {n k b c : Nat} {row bk : Nat → Int32} : (d_cust m ls n true k b c row bk).2 = bk := by
  unfold d_cust
  split
  · rfl
  · rfl
  · rfl
  · rfl
  · split
    · exact sr_DoB m ls row bk
    · rfl
theorem cuL_b {m : nM} {ls : List lLn} {n : Nat} : ∀ (d i : Nat) (row bk : Nat → Int32), (d_cuL m ls n true d i row bk).2 = bk
  | 0, _, _, _ => rfl
  | d + 1, i, row, bk => by
    unfold d_cuL
    split
    · rw [cuL_b d, cust_b]
    · exact cuL_b d _ _ _
theorem suL_b {m : nM} {ls : List lLn} {n q : Nat} : ∀ (d i : Nat) (c : Int32) (row bk : Nat → Int32), (d_suL m ls n q true d i c row bk).2.2 = bk
  | 0, _, _, _, _ => rfl
  | d + 1, i, c, row, bk => by
    unfold d_suL
    split
    · split
      · rw [suL_b d]
        exact put_DoB m ls row bk
      · exact suL_b d _ _ _ _
    · exact suL_b d _ _ _ _
theorem sp_b {m : nM} {n pl : Nat} : ∀ (i : Nat) (row bk : Nat → Int32), (d_sp m n true pl i row bk).2 = bk
  | 0, _, _ => rfl
  | i + 1, row, bk => by
    unfold d_sp
    split
    · rfl
    · split
      · rw [sp_b i, d_nb_t]
      · exact sp_b i _ _
theorem spL_b {m : nM} {n : Nat} : ∀ (d pl : Nat) (row bk : Nat → Int32), (d_spL m n true d pl row bk).2 = bk
  | 0, _, _, _ => rfl
  | d + 1, pl, row, bk => by
    unfold d_spL
    rw [spL_b d, sp_b]
theorem hr_DoB {n q : Nat} : DoB (d_hrD n q) := fun m ls row bk => by
  unfold d_hrD d_h2 d_h3
  show (d_spL m n true 12 0 _ _).2 = bk
  rw [spL_b, suL_b, cuL_b]
theorem it_DoB {n q : Nat} : ∀ k : Nat, DoB (d_it n q k)
  | 0 => fun _ _ _ _ => rfl
  | k + 1 => fun m ls row bk => by
    show (d_it n q k m ls true (d_hrD n q m ls true row bk).2.1 (d_hrD n q m ls true row bk).2.2).2.2 = bk
    rw [it_DoB k, hr_DoB]
def geC (N : Nat) (G : nG) (x2 : Int32) (M : nM) : Option (Int32 × nM) := if x2 = (0 : Int32) then some ((M 93 8), M) else if x2 = (1 : Int32) then (fJ6_bitCount_0f7a4 (M 93 5) M).bind fun p1 => some (p1.1, p1.2) else if x2 = (2 : Int32) then (fX4_sum N G 96 M).bind fun p2 => some (p2.1, p2.2) else (fX4_sum N G 97 M).bind fun p3 => some (p3.1, p3.2)
theorem goC_eq (N f : Nat) (G : nG) (x1 x2 x3 : Int32) (M : nM) : fX11_goes_37 N G (f + 1) x1 x2 x3 M = if x1 ≤ x3 then geC N G x2 M else (fX0_passHour N G 93 M).bind fun p4 => fX11_goes_37 N G f x1 x2 (x3 + (1 : Int32)) p4.2 := rfl
def geM (N : Nat) (x2 : Int32) (M : nM) : Option (Int32 × nM) := if ¬ x2 = 0 then (if ¬ x2 = (1 : Int32) then (if ¬ x2 = (2 : Int32) then (fX12_sumOf N (16 : Int32) (12 : Int32) M).bind fun p1 => fX12_goes_107 N p1.1 p1.2 else (fX12_sumOf N (88 : Int32) (M 107 7) M).bind fun p2 => fX12_goes_107 N p2.1 p2.2) else (fX12_sumOf N (60 : Int32) (M 107 6) M).bind fun p3 => fX12_goes_107 N p3.1 p3.2) else n_chk (n_ib 100 (3 : Int32)) (fX12_goes_107 N (M 108 (3 : Int32).toNatClampNeg) M)
theorem goM_eq (N f : Nat) (x1 x2 x3 : Int32) (M : nM) : fX12_goes_34 N (f + 1) x1 x2 x3 M = if x1 ≤ x3 then geM N x2 M else (fX12_goesBy N M).bind fun p4 => fX12_goes_34 N f x1 x2 (x3 + (1 : Int32)) p4.2 := rfl
theorem goC_l {N : Nat} {G : nG} {j : Nat} {y v : Int32} {M' : nM} (hj : j ≤ 60) : ∀ (d i f : Nat) (M : nM), i + d = j → d < f → hrC N G d 93 M = some (v, M') → fX11_goes_37 N G f (nI j) y (nI i) M = geC N G y M' := by
  intro d
  induction d with
  | zero =>
    intro i f M hi hf h
    obtain ⟨f, rfl⟩ : ∃ g, f = g + 1 := ⟨f - 1, by omega⟩
    have e : M = M' := congrArg Prod.snd (Option.some.inj h)
    rw [goC_eq, if_pos (nI_le (by omega) (by omega)), e]
  | succ d ih =>
    intro i f M hi hf h
    obtain ⟨f, rfl⟩ : ∃ g, f = g + 1 := ⟨f - 1, by omega⟩
    rw [goC_eq, if_neg (nI_ge (by omega) (by omega)), nI_1]
    have h' : (fX0_passHour N G 93 M).bind (fun p => hrC N G d 93 p.2) = some (v, M') := h
    obtain ⟨p, e1, e2⟩ := Option.bind_eq_some_iff.mp h'
    rw [e1, Option.bind_some]
    exact ih (i + 1) f p.2 (by omega) (by omega) e2
theorem goM_l {N : Nat} {j : Nat} {y v : Int32} {M' : nM} (hj : j ≤ 60) : ∀ (d i f : Nat) (M : nM), i + d = j → d < f → hrM N d M = some (v, M') → fX12_goes_34 N f (nI j) y (nI i) M = geM N y M' := by
  intro d
  induction d with
  | zero =>
    intro i f M hi hf h
    obtain ⟨f, rfl⟩ : ∃ g, f = g + 1 := ⟨f - 1, by omega⟩
    have e : M = M' := congrArg Prod.snd (Option.some.inj h)
    rw [goM_eq, if_pos (nI_le (by omega) (by omega)), e]
  | succ d ih =>
    intro i f M hi hf h
    obtain ⟨f, rfl⟩ : ∃ g, f = g + 1 := ⟨f - 1, by omega⟩
    rw [goM_eq, if_neg (nI_ge (by omega) (by omega)), nI_1]
    have h' : (fX12_goesBy N M).bind (fun p => hrM N d p.2) = some (v, M') := h
    obtain ⟨p, e1, e2⟩ := Option.bind_eq_some_iff.mp h'
    rw [e1, Option.bind_some]
    exact ih (i + 1) f p.2 (by omega) (by omega) e2
theorem ge_both {G : nG} {N n q k : Nat} {C D D' : nM} (hN : 1000 ≤ N) (hG : n_GOK G) (hn : n ≤ 16) (hq : q ≤ 12) (hm : r_mov (C 93 5) (C 93 6) (C 93 7) (C 93 8) (C 93 9) (C 93 10) (C 93 11) (C 94) (C 95) (C 96) (C 97) (D 108) n q) (h6 : D 107 6 = nI n) (h7 : D 107 7 = nI q) (hk : k ≤ 3) (he : fX12_endsThought N D = some ((), D')) : ∃ v : Int32, geC N G (nI k) C = some (v, C) ∧ geM N (nI k) D = some (v, D') := by
  have hMv := n_Mv93 hG
  have h107 : ∀ v : Int32, fX12_goes_107 N v D = some (v, D') := fun v => by
    unfold fX12_goes_107
    rw [he, Option.bind_some]
  unfold geC geM
  rcases (show k = 0 ∨ k = 1 ∨ k = 2 ∨ k = 3 by omega) with rfl | rfl | rfl | rfl
  · refine ⟨C 93 8, ?_, ?_⟩
    · rw [if_pos (show nI 0 = (0 : Int32) from rfl)]
    · rw [if_neg (show ¬ ¬ nI 0 = (0 : Int32) from not_not_intro rfl), show n_ib 100 (3 : Int32) = true from rfl, n_chk_t, h107, k3, hm.2.2.2.2.2.2.2.1]
  · refine ⟨p_sum n (fun t => D 108 (60 + t)), ?_, ?_⟩
    · rw [if_neg (show ¬ nI 1 = (0 : Int32) by decide), if_pos (show nI 1 = (1 : Int32) from rfl), r_bits_bc hm.2.2.2.2.1 rfl (Nat.le_refl n) hn, Option.bind_some]
    · rw [if_pos (show ¬ nI 1 = (0 : Int32) by decide), if_neg (show ¬ ¬ nI 1 = (1 : Int32) from not_not_intro rfl), h6, show (60 : Int32) = nI 60 from rfl, e_sumM hN (by omega), Option.bind_some]
      exact h107 _
  · refine ⟨p_sum q (fun t => D 108 (88 + t)), ?_, ?_⟩
    · rw [if_neg (show ¬ nI 2 = (0 : Int32) by decide), if_neg (show ¬ nI 2 = (1 : Int32) by decide), if_pos (show nI 2 = (2 : Int32) from rfl), e_sumC hN hMv.2.2.1.2.2.1 hMv.2.2.2.2.2.1 (by decide), Option.bind_some]
      show some (p_sum 12 (C 96), C) = _
      have e1 : p_sum 12 (C 96) = p_sum q (C 96) := by
        have := p_sum_0 (f := C 96) (q := q) (12 - q) (fun i g1 g2 => hm.2.2.1.2 i g1 (by omega))
        rw [show q + (12 - q) = 12 by omega] at this
        exact this
      rw [e1, p_sum_c (f := C 96) (g := fun t => D 108 (88 + t)) (fun i hi => hm.2.2.1.1 i (by omega))]
    · rw [if_pos (show ¬ nI 2 = (0 : Int32) by decide), if_pos (show ¬ nI 2 = (1 : Int32) by decide), if_neg (show ¬ ¬ nI 2 = (2 : Int32) from not_not_intro rfl), h7, show (88 : Int32) = nI 88 from rfl, e_sumM hN (by omega), Option.bind_some]
      exact h107 _
  · refine ⟨p_sum 12 (fun t => D 108 (16 + t)), ?_, ?_⟩
    · rw [if_neg (show ¬ nI 3 = (0 : Int32) by decide), if_neg (show ¬ nI 3 = (1 : Int32) by decide), if_neg (show ¬ nI 3 = (2 : Int32) by decide), e_sumC hN hMv.2.2.1.2.2.2 hMv.2.2.2.2.2.2 (by decide), Option.bind_some]
      show some (p_sum 12 (C 97), C) = _
      rw [p_sum_c (f := C 97) (g := fun t => D 108 (16 + t)) (fun i hi => hm.2.2.2.1 i (by omega))]
    · rw [if_pos (show ¬ nI 3 = (0 : Int32) by decide), if_pos (show ¬ nI 3 = (1 : Int32) by decide), if_pos (show ¬ nI 3 = (2 : Int32) by decide), show (16 : Int32) = nI 16 from rfl, show (12 : Int32) = nI 12 from rfl, e_sumM hN (by omega), Option.bind_some]
      exact h107 _
theorem gsC_eq (N : Nat) (G : nG) (x y : Int32) (M : nM) : fX11_goes N G x y M = (fX11_within x (1 : Int32) (60 : Int32) M).bind fun p1 => if p1.1 = 0 then some ((-1 : Int32), p1.2) else (fX11_within y (0 : Int32) (3 : Int32) p1.2).bind fun p2 => if ¬ p2.1 = 0 then (fX4_copyFrom G 93 9 p2.2).bind fun p3 => fX11_goes_37 N G N x y (0 : Int32) p3.2 else some ((-1 : Int32), p2.2) := rfl
theorem gsM_eq (N : Nat) (x y : Int32) (M : nM) : fX12_goes N x y M = (fX12_isIn x (1 : Int32) (60 : Int32) (n_up M 107 0 0)).bind fun p2 => if p2.1 = 0 then some ((-1 : Int32), p2.2) else (fX12_isIn y (0 : Int32) (3 : Int32) p2.2).bind fun p3 => if ¬ p3.1 = 0 then (fX12_thinks N p3.2).bind fun p4 => fX12_goes_34 N N x y (0 : Int32) p4.2 else some ((-1 : Int32), p3.2) := rfl
theorem st_goes {G : nG} {M : nM} {n q N : Nat} (hN : 1000 ≤ N) (hG : n_GOK G) (h : Rel G M n q) (x y : Int32) : Stq G (fX11_goes N G x y) (fX12_goes N x y) M := by
  refine Stq_mix fun D hD => ?_
  have hR := Rel_m0 h hD
  obtain ⟨D0, hD0⟩ : ∃ D0, D0 = n_up D 107 0 0 := ⟨_, rfl⟩
  rw [← hD0] at hR
  have hn := h.1.1.1
  have hfr : ∀ c, c < 107 ∨ 151 < c → D0 c = D c := fun c hc => by rw [hD0]; exact n0_ne c hc
  rw [gsC_eq, gsM_eq, ← hD0, e_within, e_isIn, Option.bind_some, Option.bind_some]
  cases hx : wi x 1 60 with
  | false => exact ⟨-1, M, D0, rfl, fun _ _ _ => rfl, rfl, hfr, n, q, hR⟩
  | true =>
    rw [if_neg (show ¬ (cb true, M).1 = 0 from (by decide : ¬ cb true = (0 : Int32))), if_neg (show ¬ (cb true, D0).1 = 0 from (by decide : ¬ cb true = (0 : Int32))), e_within, e_isIn, Option.bind_some, Option.bind_some]
    cases hy : wi y 0 3 with
    | false => exact ⟨-1, M, D0, rfl, fun _ _ _ => rfl, rfl, hfr, n, q, hR⟩
    | true =>
      rw [if_pos (show ¬ (cb true, M).1 = 0 from (by decide : ¬ cb true = (0 : Int32))), if_pos (show ¬ (cb true, D0).1 = 0 from (by decide : ¬ cb true = (0 : Int32)))]
      obtain ⟨j, hj1, hj, rfl⟩ := wi_nI1 (n := 60) (by decide) hx
      obtain ⟨k, hk, rfl⟩ := wi_nI (n := 3) (by decide) hy
      obtain ⟨v, C', D1, D', k1, k2, k3, ⟨k6, k8, k9⟩, k7, k4, k5⟩ := fin_dream hN hG (it_DoC (N := N) hN j) (it_DoM (N := N) hN j) (it_DoB j) hR
      obtain ⟨u, g1, g2⟩ := ge_both (k := k) hN hG hn.1 hn.2 k6 k8 k9 hk k7
      refine ⟨u, C', D', ?_, k2, ?_, fun c hc => by rw [k4 c hc]; exact hfr c hc, n, q, k5⟩
      · obtain ⟨p, e1, e2⟩ := Option.bind_eq_some_iff.mp k1
        rw [e1, Option.bind_some]
        exact (goC_l hj j 0 N p.2 (by omega) (by omega) e2).trans g1
      · obtain ⟨p, e1, e2⟩ := Option.bind_eq_some_iff.mp k3
        rw [e1, Option.bind_some]
        exact (goM_l hj j 0 N p.2 (by omega) (by omega) e2).trans g2
