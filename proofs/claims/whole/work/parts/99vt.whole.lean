/-! ===== text: the whole call ===== -/
def rM (M : nM) : nM := n_up (n_up (n_up M 80 10 0) 80 11 (-1)) 80 9 0
theorem read_eq (N : Nat) (G : nG) (x1 : Int32) (M : nM) : fX6_read N G x1 M = if x1 < 0 then some ((0 : Int32), rM M) else if x1 ≤ (3 : Int32) then (fX6_cut N (n_up (n_up M 80 10 0) 80 11 (-1) 80 9) (rM M)).bind fun p5 => (fX3_clear p5.2).bind fun p6 => (fX7_clear G 91 p6.2).bind fun p7 => fX6_read_53 N G N x1 (0 : Int32) p7.2 else some ((0 : Int32), rM M) := rfl
theorem SC_rM {M : nM} : SC M (rM M) := SC_80 (SC_80 (SC_80 ⟨fun _ _ => rfl, rfl, rfl⟩))
theorem cs_self {C : nM} (h6 : C 80 6 = nI 0) (h5 : C 85 5 = nI 0) : cs C 0 [] = C := by
  funext a
  unfold cs
  by_cases e0 : a = 80
  · subst e0
    rw [if_pos rfl]
    funext i
    by_cases e : i = 6
    · rw [e, upd_eq, h6]
    · rw [upd_ne e]
  · rw [if_neg e0]
    by_cases e1 : a = 85
    · subst e1
      rw [if_pos rfl]
      funext i
      by_cases e : i = 5
      · rw [e, upd_eq, h5]; rfl
      · rw [upd_ne e]
    · rw [if_neg e1]
      by_cases e2 : a = 86
      · subst e2
        rw [if_pos rfl]
        funext i
        rw [if_neg (by show ¬ i < 0; omega)]
      · rw [if_neg e2]
theorem e_rdC {N k t : Nat} {b : Nat → Nat} {G : nG} {M : nM} (hN : 1000 ≤ N) (hG : n_GOK G) (hk : M 80 9 = nI k) (h0 : tx_C b k M) (ht : t ≤ 3) : ∃ (n : Nat) (C0 : nM), fX6_read N G (nI t) M = fX6_read_53 N G N (nI t) (nI 0) (cs C0 0 []) ∧ MT b k n ∧ CB (tkT b k) n C0 ∧ SC M C0 ∧ C0 80 9 = 0 ∧ C0 80 10 = 0 ∧ C0 80 11 = -1 ∧ C0 85 6 = nI 0 ∧ C0 91 3 = nI 0 := by
  have h1 : tx_C b k (rM M) := ⟨h0.1, fun i hi => by
    unfold rM
    rw [n_up_ne (by decide), n_up_ne (by decide), n_up_ne (by decide)]
    exact h0.2 i hi⟩
  obtain ⟨n, M', c1, c2, c3', c4, c5⟩ := e_cut (N := N) hN h1
  obtain ⟨t1, t2, t3, t4⟩ := c2
  obtain ⟨C0, hC0⟩ : ∃ C0, C0 = n_up (n_up (n_up M' 85 5 0) 85 6 0) 91 3 0 := ⟨_, rfl⟩
  have e80 : C0 80 = M' 80 := by rw [hC0, n_up_ne (by decide), n_up_ne (by decide), n_up_ne (by decide)]
  have r80 : ∀ i, i ≠ 5 → i ≠ 6 → C0 80 i = rM M 80 i := fun i i5 i6 => by rw [e80, t4 i i5, n_up_eq, upd_ne i6]
  have hT : MT b k n := ⟨tk_T h0.1 c3' c4 c5 (fun i hi => (h0.2 i hi).2), c3'⟩
  refine ⟨n, C0, ?_, hT, ⟨by rw [e80]; exact t1, fun i hi => ?_⟩, ⟨fun a ha => ?_, ?_, ?_⟩, ?_, ?_, ?_, ?_, ?_⟩
  · have e9 : n_up (n_up M 80 10 0) 80 11 (-1) 80 9 = nI k := by rw [n_up_eq, upd_ne (by decide), n_up_eq, upd_ne (by decide)]; exact hk
    have hb : Nat.beq (n_kd G 91) 7 = true := by rw [gk91 hG]; rfl
    have e7 : fX7_clear G 91 (n_up (n_up M' 85 5 0) 85 6 0) = some (0, C0) := by
      unfold fX7_clear
      rw [hb, n_chk_t, hC0]
    have e3 : fX3_clear M' = some ((), n_up (n_up M' 85 5 0) 85 6 0) := rfl
    rw [cs_self (by rw [e80, t4 6 (by decide), n_up_eq, upd_eq]; rfl) (by rw [hC0, n_up_ne (by decide), n_up_eq, upd_ne (by decide), n_up_eq, upd_eq]; rfl), read_eq, if_neg (nI_pos (by omega)), if_pos (show nI t ≤ (3 : Int32) from nI_le (b := 3) ht (by decide)), e9, c1, Option.bind_some]
    show ((fX3_clear M').bind _) = _
    rw [e3, Option.bind_some]
    show ((fX7_clear G 91 (n_up (n_up M' 85 5 0) 85 6 0)).bind _) = _
    rw [e7, Option.bind_some]
    rfl
  · have q := t2 i (by omega)
    rw [hC0, n_up_ne (show 82 ≠ 91 by decide), n_up_ne (show 82 ≠ 85 by decide), n_up_ne (show 82 ≠ 85 by decide), n_up_ne (show 83 ≠ 91 by decide), n_up_ne (show 83 ≠ 85 by decide), n_up_ne (show 83 ≠ 85 by decide), n_up_ne (show 84 ≠ 91 by decide), n_up_ne (show 84 ≠ 85 by decide), n_up_ne (show 84 ≠ 85 by decide)]
    exact q
  · rw [hC0, n_up_ne (by omega), n_up_ne (by omega), n_up_ne (by omega), t3 a (by omega) (by omega) (by omega) (by omega), n_up_ne (by omega)]
    exact SC_rM.1 a ha
  · rw [hC0, n_up_eq, upd_ne (by decide), n_up_ne (by decide), n_up_ne (by decide), t3 91 (by decide) (by decide) (by decide) (by decide), n_up_ne (by decide)]
    exact SC_rM.2.1
  · rw [hC0, n_up_eq, upd_ne (by decide), n_up_ne (by decide), n_up_ne (by decide), t3 91 (by decide) (by decide) (by decide) (by decide), n_up_ne (by decide)]
    exact SC_rM.2.2
  · rw [r80 9 (by decide) (by decide)]; unfold rM; rw [n_up_eq, upd_eq]
  · rw [r80 10 (by decide) (by decide)]; unfold rM; rw [n_up_eq, upd_ne (by decide), n_up_eq, upd_ne (by decide), n_up_eq, upd_eq]
  · rw [r80 11 (by decide) (by decide)]; unfold rM; rw [n_up_eq, upd_ne (by decide), n_up_eq, upd_eq]
  · rw [hC0, n_up_ne (by decide), n_up_eq, upd_eq]; rfl
  · rw [hC0, n_up_eq, upd_eq]; rfl
theorem xt_eq (N : Nat) (G : nG) (x1 : Int32) (M : nM) : fX11_text N G x1 M = (fX6_read N G x1 M).bind fun p1 => if ¬ p1.1 = 0 then (if ¬ x1 = 0 then (fX1_linesOf x1 p1.2).bind fun p2 => n_chk (Nat.beq (n_kd G p2.1) 7 && true) ((fX7_copyFrom G p2.1 91 p2.2).bind fun p3 => if x1 = (3 : Int32) then n_chk (Nat.beq (n_kd G p2.1) 7) (some ((p3.2 p2.1 3), p3.2)) else (fX5_forget p3.2).bind fun p4 => n_chk (Nat.beq (n_kd G p2.1) 7) (some ((p4.2 p2.1 3), p4.2))) else (fX3_copyFrom G 16 85 p1.2).bind fun p5 => some ((p5.2 16 6), p5.2)) else some ((-1 : Int32), p1.2) := rfl
theorem tC_f {N : Nat} {G : nG} {x : Int32} {M C1 : nM} (h : fX6_read N G x M = some (0, C1)) : fX11_text N G x M = some (-1, C1) := by
  rw [xt_eq, h, Option.bind_some, if_neg (show ¬ ¬ (0 : Int32) = 0 by decide)]
theorem tC_0 {N : Nat} {G : nG} {M C1 : nM} (hG : n_GOK G) (h : fX6_read N G (nI 0) M = some (1, C1)) : fX11_text N G (nI 0) M = some (C1 85 6, c3 C1) := by
  rw [xt_eq, h, Option.bind_some, if_pos (show ¬ (1 : Int32) = 0 by decide), if_neg (show ¬ ¬ nI 0 = 0 by decide)]
  show ((fX3_copyFrom G 16 85 C1).bind _) = _
  rw [e_cp3 hG, Option.bind_some]
  show some (c3 C1 16 6, c3 C1) = _
  rw [c3_6]
theorem tC_r {N z : Nat} {G : nG} {x : Int32} {M C1 : nM} (hG : n_GOK G) (hz : z = 22 ∨ z = 24 ∨ z = 26) (hx0 : ¬ x = 0) (hl : fX1_linesOf x C1 = some (z, C1)) (h : fX6_read N G x M = some (1, C1)) : fX11_text N G x M = if x = (3 : Int32) then some (C1 91 3, c7 z C1) else some (C1 91 3, n_up (c7 z C1) 48 2 0) := by
  have hb : Nat.beq (n_kd G z) 7 = true := by
    have : n_kd G z = 7 := by
      rcases hz with q | q | q <;> subst q
      · exact hG.1 22 (by decide)
      · exact hG.1 24 (by decide)
      · exact hG.1 26 (by decide)
    rw [this]; rfl
  rw [xt_eq, h, Option.bind_some, if_pos (show ¬ (1 : Int32) = 0 by decide), if_pos hx0]
  show ((fX1_linesOf x C1).bind _) = _
  rw [hl, Option.bind_some]
  show n_chk (Nat.beq (n_kd G z) 7 && true) ((fX7_copyFrom G z 91 C1).bind fun p3 => if x = (3 : Int32) then n_chk (Nat.beq (n_kd G z) 7) (some ((p3.2 z 3), p3.2)) else (fX5_forget p3.2).bind fun p4 => n_chk (Nat.beq (n_kd G z) 7) (some ((p4.2 z 3), p4.2))) = _
  rw [hb, e_cp7 hG hz, Option.bind_some]
  show (if x = (3 : Int32) then some (c7 z C1 z 3, c7 z C1) else some (n_up (c7 z C1) 48 2 0 z 3, n_up (c7 z C1) 48 2 0)) = _
  rw [n_up_ne (by omega), c7_3]
/-! the model -/
def tD0 (D : nM) : nM := n_up (n_up (n_up (n_up (n_up (n_up D 107 0 0) 107 35 0) 107 36 (-1)) 107 16 0) 107 29 0) 107 30 0
theorem mt_eq (N : Nat) (x1 : Int32) (D : nM) : fX12_text N x1 D = (fX12_isIn x1 (0 : Int32) (3 : Int32) (tD0 D)).bind fun p7 => if p7.1 = 0 then fX12_text_69 N x1 (-1 : Int32) p7.2 else (fX12_readsText N x1 p7.2).bind fun p8 => if ¬ p8.1 = (-1 : Int32) then fX12_text_69 N x1 p8.1 p8.2 else fX12_text_69 N x1 p8.1 (n_up (n_up p8.2 107 35 (p8.2 107 33)) 107 36 (n_up p8.2 107 35 (p8.2 107 33) 107 34)) := rfl
theorem m69_f (N : Nat) (x1 : Int32) (M : nM) : fX12_text_69 N x1 (-1 : Int32) M = some (-1, n_up M 107 15 0) := rfl
theorem SM_D0 {D : nM} : SM D (tD0 D) := SM_t (SM_t (SM_t (SM_t (SM_t (SM_7 (by decide)) (SM_7 (by decide))) (SM_7 (by decide))) (SM_7 (by decide))) (SM_7 (by decide))) (SM_7 (by decide))
theorem tM_i {N t : Nat} {D : nM} (ht : t ≤ 3) : fX12_text N (nI t) D = (fX12_readsText N (nI t) (tD0 D)).bind fun p8 => if ¬ p8.1 = (-1 : Int32) then fX12_text_69 N (nI t) p8.1 p8.2 else fX12_text_69 N (nI t) p8.1 (n_up (n_up p8.2 107 35 (p8.2 107 33)) 107 36 (n_up p8.2 107 35 (p8.2 107 33) 107 34)) := by
  rw [mt_eq, e_isIn, Option.bind_some, show (3 : Int32) = nI 4 - 1 by decide, wi_b (by omega) (by decide), decide_eq_true (by omega), if_neg (show ¬ (cb true : Int32) = 0 by decide)]
theorem tM_o {N : Nat} {x : Int32} {D : nM} (h : wi x 0 3 = false) : fX12_text N x D = some (-1, n_up (tD0 D) 107 15 0) := by
  rw [mt_eq, e_isIn, Option.bind_some, h, if_pos (show (cb false : Int32) = 0 from rfl), m69_f]
/-- both fail alike -/
theorem tx_no {N t e j : Nat} {b : Nat → Nat} {k : Nat} {v : Int32} {G : nG} {M D C1 D1 : nM} {n q : Nat} {c : List lOp} {μ : List (Nat × Nat)} (h : Rel G M n q) (hDM : ∀ a, 107 ≤ a → a ≤ 151 → D a = M a) (ht : t ≤ 3) (hC : fX6_read N G (nI t) M = some (0, ce (tkT b k) C1 e j c)) (hM : fX12_readsText N (nI t) (tD0 D) = some (-1, me b k v D1 e j μ)) (sC : SC M C1) (sD : SM D D1) (h9 : C1 80 9 = 0) : ∃ (w : Int32) (C' D' : nM), fX11_text N G (nI t) M = some (w, C') ∧ (∀ a, 107 ≤ a → a ≤ 151 → C' a = M a) ∧ fX12_text N (nI t) D = some (w, D') ∧ (∀ a, a < 107 ∨ 151 < a → D' a = D a) ∧ ∃ n q : Nat, Rel G (Mix C' D') n q := by
  obtain ⟨E, hE⟩ : ∃ E, E = me b k v D1 e j μ := ⟨_, rfl⟩
  have e33 : E 107 33 = nI e := by
    rw [hE]
    unfold me
    rw [n_up_eq, upd_ne (by decide), n_up_eq, upd_eq]
  have e34 : E 107 34 = nI (tkT b k j).2.2 := by
    rw [hE]
    unfold me
    rw [n_up_eq, upd_eq]
  have sE : SM D E := by rw [hE]; exact SM_me sD
  have sF : SM D (n_up (n_up (n_up E 107 35 (E 107 33)) 107 36 (n_up E 107 35 (E 107 33) 107 34)) 107 15 0) := SM_t sE (SM_t (SM_t (SM_7 (by decide)) (SM_7 (by decide))) (SM_7 (by decide)))
  have sCe : SC M (ce (tkT b k) C1 e j c) := SC_ce sC
  refine ⟨-1, ce (tkT b k) C1 e j c, n_up (n_up (n_up E 107 35 (E 107 33)) 107 36 (n_up E 107 35 (E 107 33) 107 34)) 107 15 0, tC_f hC, fun a h1 h2 => sCe.1 a (by omega), ?_, fun a ha => ?_, n, q, ?_⟩
  · rw [tM_i ht, hM, Option.bind_some, if_neg (show ¬ ¬ (-1 : Int32) = -1 by decide), m69_f, hE]
  · funext i
    exact sF a i (by unfold sx; omega)
  · refine Rel_scr2 h sCe (fun a i h1 h2 h3 => by rw [sF a i h3, hDM a h1 h2]) ?_ ?_ ?_ ?_
    · unfold ce
      rw [n_up_eq, upd_ne (by decide), n_up_eq, upd_ne (by decide), cs_80, upd_ne (by decide)]; exact h9
    · rw [n_up_eq, upd_eq]
    · unfold ce
      rw [n_up_eq, upd_ne (by decide), n_up_eq, upd_eq, n_up_eq, upd_ne (by decide), n_up_eq, upd_ne (by decide), n_up_eq, upd_eq, e33]
    · unfold ce
      rw [n_up_eq, upd_eq, n_up_eq, upd_ne (by decide), n_up_eq, upd_eq, n_up_eq, upd_ne (by decide), e34]
/-- both have read: the same house, before it is taken -/
theorem tx_mid {j : Nat} {b : Nat → Nat} {k : Nat} {v : Int32} {G : nG} {M D C1 D1 : nM} {n q : Nat} {c : List lOp} {μ : List (Nat × Nat)} (h : Rel G M n q) (hDM : ∀ a, 107 ≤ a → a ≤ 151 → D a = M a) (sC : SC M C1) (sD : SM D D1) (h9 : C1 80 9 = 0) (h10 : C1 80 10 = 0) (h11 : C1 80 11 = -1) (h35 : D1 107 35 = 0) (h36 : D1 107 36 = -1) : Rel G (Mix (cs C1 j c) (n_up (ms b k v D1 j μ) 107 15 0)) n q := by
  have sE : SM D (n_up (ms b k v D1 j μ) 107 15 0) := SM_t (SM_ms sD) (SM_7 (by decide))
  refine Rel_scr2 h (SC_cs sC) (fun a i h1 h2 h3 => by rw [sE a i h3, hDM a h1 h2]) ?_ ?_ ?_ ?_
  · rw [cs_80, upd_ne (by decide)]; exact h9
  · rw [n_up_eq, upd_eq]
  · rw [cs_80, upd_ne (by decide), n_up_eq, upd_ne (by decide), ms_7o (by omega) (by decide), h10, h35]
  · rw [cs_80, upd_ne (by decide), n_up_eq, upd_ne (by decide), ms_7o (by omega) (by decide), h11, h36]
/-- what the model reads with -/
theorem e_rdM {N k : Nat} {b : Nat → Nat} {D : nM} (hN : 1000 ≤ N) (hM : tx_M b k D) : ∃ (v : Int32) (D6 : nM), fX12_reads_all N (n_up (tD0 D) 107 28 0) = some ((), ms b k v D6 0 []) ∧ MB b k D6 ∧ SM D D6 ∧ D6 107 35 = 0 ∧ D6 107 36 = -1 ∧ D6 107 30 = 0 ∧ D6 107 28 = 0 ∧ D6 107 6 = D 107 6 ∧ D6 107 7 = D 107 7 := by
  obtain ⟨D6, h6⟩ : ∃ D6, D6 = n_up (tD0 D) 107 28 0 := ⟨_, rfl⟩
  have s6 : SM D D6 := by rw [h6]; exact SM_t SM_D0 (SM_7 (by decide))
  have e15 : D6 107 15 = D 107 15 := by
    rw [h6]
    unfold tD0
    rw [n_up_eq, upd_ne (by decide), n_up_eq, upd_ne (by decide), n_up_eq, upd_ne (by decide), n_up_eq, upd_ne (by decide), n_up_eq, upd_ne (by decide), n_up_eq, upd_ne (by decide), n_up_eq, upd_ne (by decide)]
  have e17 : D6 117 = D 117 := by
    funext i
    exact s6 117 i (by unfold sx; omega)
  have e18 : D6 118 = D 118 := by
    funext i
    exact s6 118 i (by unfold sx; omega)
  have hM6 : MB b k D6 := ⟨hM.1, by rw [e15]; exact hM.2.1, by rw [e17]; exact hM.2.2.1, by rw [e18]; exact hM.2.2.2⟩
  have e30 : D6 107 30 = 0 := by
    rw [h6]; unfold tD0
    rw [n_up_eq, upd_ne (by decide), n_up_eq, upd_eq]
  have e29 : D6 107 29 = 0 := by
    rw [h6]; unfold tD0
    rw [n_up_eq, upd_ne (by decide), n_up_eq, upd_ne (by decide), n_up_eq, upd_eq]
  have e16 : D6 107 16 = 0 := by
    rw [h6]; unfold tD0
    rw [n_up_eq, upd_ne (by decide), n_up_eq, upd_ne (by decide), n_up_eq, upd_ne (by decide), n_up_eq, upd_eq]
  have e36 : D6 107 36 = -1 := by
    rw [h6]; unfold tD0
    rw [n_up_eq, upd_ne (by decide), n_up_eq, upd_ne (by decide), n_up_eq, upd_ne (by decide), n_up_eq, upd_ne (by decide), n_up_eq, upd_eq]
  have e35 : D6 107 35 = 0 := by
    rw [h6]; unfold tD0
    rw [n_up_eq, upd_ne (by decide), n_up_eq, upd_ne (by decide), n_up_eq, upd_ne (by decide), n_up_eq, upd_ne (by decide), n_up_eq, upd_ne (by decide), n_up_eq, upd_eq]
  refine ⟨D6 107 19, D6, ?_, hM6, s6, e35, e36, e30, by rw [h6, n_up_eq, upd_eq], s6 107 6 (by unfold sx; omega), s6 107 7 (by unfold sx; omega)⟩
  rw [← h6]
  exact e_rd0 hN hM6 e16 e29
theorem rt_eq (N : Nat) (x1 : Int32) (M : nM) : fX12_readsText N x1 M = (fX12_reads_all N (n_up M 107 28 0)).bind fun p2 => if ¬ x1 = (1 : Int32) then (if ¬ x1 = (2 : Int32) then (if ¬ x1 = (3 : Int32) then ((fX12_readLaw N p2.2).bind fun p => some (p.1, p.2)) else ((fX12_readLine N p2.2).bind fun p => some (p.1, p.2))) else ((fX12_readCustoms N p2.2).bind fun p => some (p.1, p.2))) else ((fX12_readSupper N p2.2).bind fun p => some (p.1, p.2)) := rfl
theorem bind_id (x : Option (Int32 × nM)) : (x.bind fun p => some (p.1, p.2)) = x := by
  cases x with
  | none => rfl
  | some p => rfl
theorem FC_80 {C C' : nM} (h : FC C C') : C' 80 = C 80 := h.1 80 (by decide) (by omega)
theorem tx_law {N k n q : Nat} {b : Nat → Nat} {G : nG} {M D : nM} (hN : 1000 ≤ N) (hG : n_GOK G) (h : Rel G M n q) (hDM : ∀ a, 107 ≤ a → a ≤ 151 → D a = M a) (hk : M 80 9 = nI k) (h0 : tx_C b k M) (hM : tx_M b k D) : ∃ (w : Int32) (C' D' : nM), fX11_text N G (nI 0) M = some (w, C') ∧ (∀ a, 107 ≤ a → a ≤ 151 → C' a = M a) ∧ fX12_text N (nI 0) D = some (w, D') ∧ (∀ a, a < 107 ∨ 151 < a → D' a = D a) ∧ ∃ n q : Nat, Rel G (Mix C' D') n q := by
  obtain ⟨m, C0, r1, hT, hB, sC, c9, c10, c11, c6, c3'⟩ := e_rdC (N := N) (t := 0) hN hG hk h0 (by decide)
  obtain ⟨v, D6, d1, hM6, sD, d35, d36, d30, d28, d6, d7⟩ := e_rdM (N := N) hN hM
  have hn := hT.1.1
  have e1 : fX12_readsText N (nI 0) (tD0 D) = fX12_readLaw_2 N N (nI 0) (ms b k v D6 0 (l_mods [])) := by
    rw [rt_eq, d1, Option.bind_some, if_pos (show ¬ nI 0 = (1 : Int32) by decide), if_pos (show ¬ nI 0 = (2 : Int32) by decide), if_pos (show ¬ nI 0 = (3 : Int32) by decide), bind_id]
    rfl
  have hLm0 : LWm D6 [] [] := fun i x hx => absurd hx (by simp)
  rcases c_law (v := v) (G := G) hN hT 402 0 N N [] [] C0 D6 (Nat.zero_le _) (by omega) (by omega) (by omega) (by decide) (by decide) hB hM6 d30 ⟨c6, fun i x hx => absurd hx (by simp)⟩ hLm0 with ⟨e, j', c', C', D', μ, u1, u2, u3, u4⟩ | ⟨j', ls', c', C', D', u1, u2, u3, u4, u5, u6, u7, u8⟩
  · exact tx_no h hDM (by decide) (r1.trans u1) (e1.trans u2) (SC_FC sC u3) (SM_t sD (SM_FL u4)) (by rw [FC_80 u3]; exact c9)
  · have g80 := FC_80 u3
    have f35 : D' 107 35 = 0 := by rw [u4.2 35 (by decide) (by decide)]; exact d35
    have f36 : D' 107 36 = -1 := by rw [u4.2 36 (by decide) (by decide)]; exact d36
    have hR := tx_mid (b := b) (k := k) (v := v) (j := j') (c := c') (μ := l_mods c') h hDM (SC_FC sC u3) (SM_t sD (SM_FL u4)) (by rw [g80]; exact c9) (by rw [g80]; exact c10) (by rw [g80]; exact c11) f35 f36
    obtain ⟨DM, hDM'⟩ : ∃ DM, DM = n_up (ms b k v D' j' (l_mods c')) 107 15 0 := ⟨_, rfl⟩
    rw [← hDM'] at hR
    have o85 : cs C' j' c' 85 6 = nI ls'.length := by rw [cs_85, upd_ne (by decide)]; exact u7.1
    have m28 : DM 107 28 = 0 := by rw [hDM', n_up_eq, upd_ne (by decide), ms_7o (by omega) (by decide), u4.2 28 (by decide) (by decide)]; exact d28
    have m29 : DM 107 29 = nI (lm c') := by rw [hDM', n_up_eq, upd_ne (by decide), ms_29]; rfl
    have eC := tC_0 hG (r1.trans u1)
    have eM : fX12_text N (nI 0) D = some (nI ls'.length, tkD DM ls'.length (lm c')) := by
      rw [tM_i (by decide), e1.trans u2, Option.bind_some, if_pos (nI_nm1 (by omega))]
      show (if ¬ nI ls'.length = (-1 : Int32) then (if ¬ nI 0 = 0 then ((fX12_takesOther N (nI 0) (nI ls'.length) (n_up (ms b k v D' j' (l_mods c')) 107 15 0)).bind fun p2 => some (nI ls'.length, p2.2)) else ((fX12_takesLaw N (nI ls'.length) (n_up (ms b k v D' j' (l_mods c')) 107 15 0)).bind fun p3 => some (nI ls'.length, p3.2))) else some ((-1 : Int32), n_up (ms b k v D' j' (l_mods c')) 107 15 0)) = _
      rw [if_pos (nI_nm1 (by omega)), if_neg (show ¬ ¬ nI 0 = 0 by decide), ← hDM', e_tkL hN m28 m29 u5 u6]
      rfl
    have sDM : SM D DM := by rw [hDM']; exact SM_t (SM_ms (SM_t sD (SM_FL u4))) (SM_7 (by decide))
    refine ⟨nI ls'.length, c3 (cs C' j' c'), tkD DM ls'.length (lm c'), by rw [eC, o85], fun a h1 h2 => ?_, eM, fun a ha => ?_, n, q, ?_⟩
    · rw [c3_o (by omega)]
      exact (SC_cs (SC_FC sC u3)).1 a (by omega)
    · unfold tkD
      rw [n_up_ne (by omega), cpS_o (by omega), cpS_o (by omega)]
      funext i
      exact sDM a i (by unfold sx; omega)
    · refine Rel_law hR u5 u6 ⟨o85, fun i x hx => ?_⟩ (fun i x hx => ?_) (fun i hi => ?_) (fun i hi => ?_)
      · rw [cs_o (show 87 ≠ 80 by decide) (by decide) (by decide), cs_o (show 88 ≠ 80 by decide) (by decide) (by decide), cs_o (show 89 ≠ 80 by decide) (by decide) (by decide), cs_o (show 90 ≠ 80 by decide) (by decide) (by decide)]
        exact u7.2 i x hx
      · have o : ∀ a, 120 ≤ a → a ≤ 123 → DM a = D' a := fun a h1 h2 => by rw [hDM', n_up_ne (by omega), ms_o (by omega) (by omega) (by omega)]
        rw [o 120 (by decide) (by decide), o 121 (by decide) (by decide), o 122 (by decide) (by decide), o 123 (by decide) (by decide)]
        exact u8 i x hx
      · rw [cs_86]
        exact if_pos hi
      · have hl : i < (l_mods c').length := hi
        rw [hDM', n_up_ne (by decide), n_up_ne (by decide), ms_24, ms_25]
        unfold mdr
        rw [if_pos (by rw [List.length_map]; omega), if_pos (by rw [List.length_map]; omega), Nat.add_sub_cancel_left, List.getD_eq_getElem?_getD, List.getD_eq_getElem?_getD, List.getD_eq_getElem?_getD, List.getElem?_map, List.getElem?_map, List.getElem?_eq_getElem hl]
        exact ⟨rfl, rfl⟩
