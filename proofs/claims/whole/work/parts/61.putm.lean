/-! ===== the model puts; who can ===== -/
def pmF (p5 : Unit × nM) : Option (Unit × nM) := some ((), p5.2)
def pmE3 (x1 x2 : Int32) (M3 : nM) : Option (Unit × nM) := n_chk (n_ib 100 ((60 : Int32) + x2)) ((fX12_notes (1 : Int32) x2 x1 (n_up M3 108 ((60 : Int32) + x2).toNatClampNeg (1 : Int32))).bind pmF)
def pmE2 (x1 x2 : Int32) (M2 : nM) : Option (Unit × nM) := n_chk (n_ib 100 ((88 : Int32) + x1)) (n_chk (n_ib 100 ((88 : Int32) + x1)) (pmE3 x1 x2 (n_up M2 108 ((88 : Int32) + x1).toNatClampNeg ((M2 108 ((88 : Int32) + x1).toNatClampNeg) + (1 : Int32)))))
def pmE1 (x1 x2 : Int32) (M1 : nM) : Option (Unit × nM) := n_chk (n_ib 100 ((44 : Int32) + x2)) (n_chk (n_ib 100 ((44 : Int32) + x2)) (pmE2 x1 x2 (n_up M1 108 ((44 : Int32) + x2).toNatClampNeg ((M1 108 ((44 : Int32) + x2).toNatClampNeg) + (1 : Int32)))))
def pmE (x1 x2 x5 : Int32) (M : nM) : Option (Unit × nM) := n_chk (n_ib 100 ((28 : Int32) + x2)) (pmE1 x1 x2 (n_up M 108 ((28 : Int32) + x2).toNatClampNeg x5))
def pmS (N f : Nat) (x1 x2 x3 x4 x5 x6 v6 : Int32) (M : nM) : Option (Unit × nM) := if v6 = x3 then fX12_isPalmed_19 N f x1 x2 x3 x4 x5 (x6 + (-1 : Int32)) M else (fX12_hasRoom N v6 x2 M).bind fun p8 => if p8.1 = 0 then fX12_isPalmed_19 N f x1 x2 x3 x4 x5 (x6 + (-1 : Int32)) p8.2 else fX12_isPalmed_19 N f x1 x2 x3 x4 v6 (x6 + (-1 : Int32)) p8.2
theorem pm_eq (N f : Nat) (x1 x2 x3 x4 x5 x6 : Int32) (M : nM) : fX12_isPalmed_19 N (f + 1) x1 x2 x3 x4 x5 x6 M = if x6 < 0 then pmE x1 x2 x5 M else if (12 : Int32) = 0 then none else pmS N f x1 x2 x3 x4 x5 x6 (((x3 + x4) + x6) - ((x3 + x4) + x6) / (12 : Int32) * (12 : Int32)) M := rfl
def ip2 (N : Nat) (x1 x2 x3 : Int32) (p6 : Int32 × nM) : Option (Int32 × nM) := if ¬ p6.1 = 0 then (fX12_isPalmed N x1 x2 x3 p6.2).bind fun p7 => some ((1 : Int32), p7.2) else some ((0 : Int32), p6.2)
def ip1 (N : Nat) (x1 x2 x3 : Int32) (p5 : Int32 × nM) : Option (Int32 × nM) := if p5.1 = 0 then some ((0 : Int32), p5.2) else (fX12_comes p5.1 p5.2).bind (ip2 N x1 x2 x3)
def ip0 (N : Nat) (x1 x2 x3 : Int32) (M3 : nM) : Option (Int32 × nM) := (fX12_notes (0 : Int32) x2 x3 M3).bind fun p4 => (fX12_palmsOf N x1 x2 x3 p4.2).bind (ip1 N x1 x2 x3)
def ipb (N : Nat) (x1 x2 x3 : Int32) (M2 : nM) : Option (Int32 × nM) := n_chk (n_ib 100 ((60 : Int32) + x2)) (ip0 N x1 x2 x3 (n_up M2 108 ((60 : Int32) + x2).toNatClampNeg (0 : Int32)))
def ipa (N : Nat) (x1 x2 x3 : Int32) (M1 : nM) : Option (Int32 × nM) := n_chk (n_ib 100 ((44 : Int32) + x2)) (n_chk (n_ib 100 ((44 : Int32) + x2)) (ipb N x1 x2 x3 (n_up M1 108 ((44 : Int32) + x2).toNatClampNeg ((M1 108 ((44 : Int32) + x2).toNatClampNeg) + (1 : Int32)))))
theorem ip_eq (N : Nat) (x1 x2 x3 : Int32) (M : nM) : fX12_isPut N x1 x2 x3 M = n_chk (n_ib 100 ((28 : Int32) + x2)) (ipa N x1 x2 x3 (n_up M 108 ((28 : Int32) + x2).toNatClampNeg x3)) := rfl
theorem ipl_eq (N : Nat) (x1 x2 x3 : Int32) (M : nM) : fX12_isPalmed N x1 x2 x3 M = (fX12_farOf N x1 x2 x3 M).bind fun p1 => if (12 : Int32) = 0 then none else fX12_isPalmed_19 N N x1 x2 x3 (p1.1 - p1.1 / (12 : Int32) * (12 : Int32)) x3 (11 : Int32) p1.2 := rfl
theorem c_slM {G : nG} {M0 m : nM} {N n q p t pl far : Nat} {ls : List lLn} {row bk f S : Nat → Int32} (hN : 1000 ≤ N) (he : EV G M0 m ls n q) (ht : t < 16) (hpl : pl < 12) : ∀ (i g : Nat), i ≤ 12 → i < g → fX12_isPalmed_19 N g (nI p) (nI t) (nI pl) (nI (far % 12)) (nI (d_sl m n row t pl far (12 - i) i)) (nI i - 1) (dM m row bk f S) = pmE (nI p) (nI t) (nI (d_sl m n row t pl far 12 0)) (dM m row bk f S) := by
  intro i
  induction i with
  | zero =>
    intro g hi hg
    obtain ⟨g, rfl⟩ : ∃ g', g = g' + 1 := ⟨g - 1, by omega⟩
    rw [pm_eq, if_pos (show nI 0 - 1 < (0 : Int32) by decide)]
  | succ i ih =>
    intro g hi hg
    obtain ⟨g, rfl⟩ : ∃ g', g = g' + 1 := ⟨g - 1, by omega⟩
    have ih2 := ih g (by omega) (by omega)
    have e1 : nI (i + 1) - 1 = nI i := nI_pred i
    have e2 : nI i + (-1 : Int32) = nI i - 1 := (Int32.sub_eq_add_neg _ _).symm
    have em : (pl + far % 12 + i) % 12 = (pl + far + i) % 12 := by omega
    have hr := c_roomM (row := row) (bk := bk) (f := f) (S := S) (t := t) (pl := (pl + far + i) % 12) hN he ht (by omega)
    rw [e1, pm_eq, if_neg (nI_pos (by omega)), if_neg (show ¬ (12 : Int32) = 0 by decide), nI_add, nI_add, r_mod12 (by omega), em, pmS, e2]
    rw [show 12 - i = (12 - (i + 1)) + 1 by omega] at ih2
    unfold d_sl at ih2
    by_cases hc : (pl + far + i) % 12 = pl
    · rw [if_neg (show ¬ ((pl + far + i) % 12 ≠ pl ∧ d_room m n row ((pl + far + i) % 12) t = true) from fun z => z.1 hc)] at ih2
      rw [if_pos (by rw [hc])]
      exact ih2
    · rw [if_neg (fun z => hc ((nI_eq (by omega) (by omega)).mp z)), hr, Option.bind_some]
      cases hd : d_room m n row ((pl + far + i) % 12) t with
      | false =>
        rw [hd, if_neg (show ¬ ((pl + far + i) % 12 ≠ pl ∧ false = true) from fun z => absurd z.2 (by decide))] at ih2
        rw [if_pos (show (cb false, dM m row bk f S).1 = (0 : Int32) from rfl)]
        exact ih2
      | true =>
        rw [hd, if_pos (show (pl + far + i) % 12 ≠ pl ∧ true = true from ⟨hc, rfl⟩)] at ih2
        rw [if_neg (show ¬ (cb true, dM m row bk f S).1 = (0 : Int32) from (by decide : ¬ cb true = (0 : Int32)))]
        exact ih2
theorem r_mov_k {lost tied locked found hour draws lines : Int32} {i mv pa se row : Nat → Int32} {n q : Nat} (h : r_mov lost tied locked found hour draws lines i mv pa se row n q) : ∃ k : Nat, k ≤ 150 ∧ row 2 = nI k := by
  obtain ⟨-, e, k, hk, e2⟩ := r_mov_ln h
  exact ⟨k, hk, e.symm.trans e2⟩
theorem d_k1 {row : Nat → Int32} {t pl : Nat} : d_p1 row t pl 2 = row 2 := by
  unfold d_p1
  rw [upd_ne (by omega), upd_ne (by omega), upd_ne (by omega)]
theorem d_k4 {row : Nat → Int32} {p t to : Nat} : d_p4 row p t to 2 = row 2 := by
  unfold d_p4
  rw [upd_ne (by omega), upd_ne (by omega), upd_ne (by omega), upd_ne (by omega)]
theorem d_kn {th : Bool} {row : Nat → Int32} (h : ∃ k : Nat, k ≤ 150 ∧ row 2 = nI k) : ∃ k : Nat, k ≤ 150 ∧ d_nr th row 2 = nI k := by
  obtain ⟨k, hk, e⟩ := h
  unfold d_nr
  by_cases hc : th = true ∨ row 2 = 150
  · rw [if_pos hc]; exact ⟨k, hk, e⟩
  · rw [if_neg hc, upd_eq, e, nI_1]
    refine ⟨k + 1, ?_, rfl⟩
    have : k ≠ 150 := fun z => hc (Or.inr (by rw [e, z]; rfl))
    omega
theorem d_kc {th : Bool} {row : Nat → Int32} (h : ∃ k : Nat, k ≤ 150 ∧ row 2 = nI k) : ∃ k : Nat, k ≤ 150 ∧ d_cr th row 2 = nI k := by
  unfold d_cr
  by_cases hc : th = true
  · rw [if_pos hc]; exact h
  · rw [if_neg hc, upd_ne (by decide)]; exact h
theorem c_putM {G : nG} {M0 m : nM} {N n q p t pl : Nat} {ls : List lLn} {th : Bool} {row bk f S : Nat → Int32} (hN : 1000 ≤ N) (he : EV G M0 m ls n q) (hth : m 107 5 = cb th) (hk : ∃ k : Nat, k ≤ 150 ∧ row 2 = nI k) (hp : p < q) (ht : t < n) (hpl : pl < 12) : ∃ f2 S2 : Nat → Int32, fX12_isPut N (nI p) (nI t) (nI pl) (dM m row bk f S) = some (cb (d_put m ls n th p t pl row bk).1, dM m (d_put m ls n th p t pl row bk).2.1 (d_put m ls n th p t pl row bk).2.2 f2 S2) := by
  obtain ⟨hG, ⟨⟨s1, s2⟩, -⟩, -⟩ := id he
  have a1 : (28 : Int32) + nI t = nI (28 + t) := nI_add 28 t
  have a2 : (44 : Int32) + nI t = nI (44 + t) := nI_add 44 t
  have a3 : (60 : Int32) + nI t = nI (60 + t) := nI_add 60 t
  have a4 : (88 : Int32) + nI p = nI (88 + p) := nI_add 88 p
  have i1 := n_ib_nI (show 28 + t < 100 by omega) (show 100 < 2 ^ 31 by decide)
  have i2 := n_ib_nI (show 44 + t < 100 by omega) (show 100 < 2 ^ 31 by decide)
  have i3 := n_ib_nI (show 60 + t < 100 by omega) (show 100 < 2 ^ 31 by decide)
  have i4 := n_ib_nI (show 88 + p < 100 by omega) (show 100 < 2 ^ 31 by decide)
  have hk1 : ∃ k : Nat, k ≤ 150 ∧ d_p1 row t pl 2 = nI k := by rw [d_k1]; exact hk
  obtain ⟨k1, hk1a, hk1b⟩ := hk1
  have e2 := c_ntM (m := m) (bk := bk) (f := f) (S := S) (x := 0) (y := nI t) (z := nI pl) hth hk1a hk1b
  have hk2 := d_kn (th := th) ⟨k1, hk1a, hk1b⟩
  obtain ⟨f3, S3, e3⟩ := c_askM (row := d_nr th (d_p1 row t pl)) (bk := d_nb th 0 (nI t) (nI pl) (d_p1 row t pl) bk) (f := f) (S := S) (w := 0) hN he (by decide) (show p < 12 by omega) (show t < 16 by omega) hpl
  obtain ⟨j, hj, ej⟩ := p_ask_b ls (p_F (m 114) (m 115) (m 112) (m 113) (d_nr th (d_p1 row t pl)) n p t pl) 0
  have ej' : d_ask m ls n (d_nr th (d_p1 row t pl)) 0 p t pl = nI j := ej
  rw [ej'] at e3
  have e3' : fX12_palmsOf N (nI p) (nI t) (nI pl) (dM m (d_nr th (d_p1 row t pl)) (d_nb th 0 (nI t) (nI pl) (d_p1 row t pl) bk) f S) = some (nI j, dM m (d_nr th (d_p1 row t pl)) (d_nb th 0 (nI t) (nI pl) (d_p1 row t pl) bk) f3 S3) := by
    unfold fX12_palmsOf
    have e3b : fX12_lawTells N (nI p) (nI t) (nI pl) 0 1000 (dM m (d_nr th (d_p1 row t pl)) (d_nb th 0 (nI t) (nI pl) (d_p1 row t pl) bk) f S) = _ := e3
    rw [e3b, Option.bind_some]
  have ed1 : upd (upd (upd row (28 + t) (nI pl)) (44 + t) (upd row (28 + t) (nI pl) (44 + t) + 1)) (60 + t) 0 = d_p1 row t pl := by
    rw [upd_ne (show 44 + t ≠ 28 + t by omega)]
    rfl
  have start : fX12_isPut N (nI p) (nI t) (nI pl) (dM m row bk f S) = ip1 N (nI p) (nI t) (nI pl) (nI j, dM m (d_nr th (d_p1 row t pl)) (d_nb th 0 (nI t) (nI pl) (d_p1 row t pl) bk) f3 S3) := by
    rw [ip_eq, a1, i1, n_chk_t, ipa, a2, i2, n_chk_t, n_chk_t, ipb, a3, i3, n_chk_t, nI_clamp (show 28 + t < 2 ^ 31 by omega), nI_clamp (show 44 + t < 2 ^ 31 by omega), nI_clamp (show 60 + t < 2 ^ 31 by omega), dM_u108, dM_108, dM_u108, dM_u108, ed1, ip0, e2, Option.bind_some, e3', Option.bind_some]
  rw [start]
  unfold ip1 d_put
  rw [ej', nI_clamp (by omega)]
  by_cases j0 : j = 0
  · subst j0
    exact ⟨f3, S3, by rw [if_pos (show (nI 0, dM m (d_nr th (d_p1 row t pl)) (d_nb th 0 (nI t) (nI pl) (d_p1 row t pl) bk) f3 S3).1 = (0 : Int32) from rfl)]; rfl⟩
  · rw [if_neg (show ¬ (nI j, dM m (d_nr th (d_p1 row t pl)) (d_nb th 0 (nI t) (nI pl) (d_p1 row t pl) bk) f3 S3).1 = (0 : Int32) from nI_ne0 (by omega) (by omega)), if_neg j0, c_cmM hth hj, Option.bind_some]
    unfold ip2
    cases hd : d_cb th j (d_nr th (d_p1 row t pl)) with
    | false =>
      exact ⟨f3, S3, by rw [if_neg (show ¬ ¬ (cb false, dM m (d_cr th (d_nr th (d_p1 row t pl))) (d_nb th 0 (nI t) (nI pl) (d_p1 row t pl) bk) f3 S3).1 = (0 : Int32) from not_not_intro rfl)]; rfl⟩
    | true =>
      rw [if_pos (show ¬ (cb true, dM m (d_cr th (d_nr th (d_p1 row t pl))) (d_nb th 0 (nI t) (nI pl) (d_p1 row t pl) bk) f3 S3).1 = (0 : Int32) from (by decide : ¬ cb true = (0 : Int32)))]
      obtain ⟨f5, S5, e5⟩ := c_askM (row := d_cr th (d_nr th (d_p1 row t pl))) (bk := d_nb th 0 (nI t) (nI pl) (d_p1 row t pl) bk) (f := f3) (S := S3) (w := 1) hN he (by decide) (show p < 12 by omega) (show t < 16 by omega) hpl
      obtain ⟨fj, hfj, efj⟩ := p_ask_b ls (p_F (m 114) (m 115) (m 112) (m 113) (d_cr th (d_nr th (d_p1 row t pl))) n p t pl) 1
      have efj' : d_ask m ls n (d_cr th (d_nr th (d_p1 row t pl))) 1 p t pl = nI fj := efj
      rw [efj'] at e5
      rw [efj', nI_clamp (by omega)]
      have e5' : fX12_farOf N (nI p) (nI t) (nI pl) (dM m (d_cr th (d_nr th (d_p1 row t pl))) (d_nb th 0 (nI t) (nI pl) (d_p1 row t pl) bk) f3 S3) = some (nI fj, dM m (d_cr th (d_nr th (d_p1 row t pl))) (d_nb th 0 (nI t) (nI pl) (d_p1 row t pl) bk) f5 S5) := by
        unfold fX12_farOf
        have e5b : fX12_lawTells N (nI p) (nI t) (nI pl) 1 99 (dM m (d_cr th (d_nr th (d_p1 row t pl))) (d_nb th 0 (nI t) (nI pl) (d_p1 row t pl) bk) f3 S3) = _ := e5
        rw [e5b, Option.bind_some]
      have e6 := c_slM (M0 := M0) (p := p) (far := fj) (row := d_cr th (d_nr th (d_p1 row t pl))) (bk := d_nb th 0 (nI t) (nI pl) (d_p1 row t pl) bk) (f := f5) (S := S5) hN he (show t < 16 by omega) hpl 12 N (by decide) (by omega)
      have hk3 := d_kc (th := th) hk2
      generalize d_sl m n (d_cr th (d_nr th (d_p1 row t pl))) t pl fj 12 0 = to at e6 ⊢
      obtain ⟨k4, hk4a, hk4b⟩ : ∃ k : Nat, k ≤ 150 ∧ d_p4 (d_cr th (d_nr th (d_p1 row t pl))) p t to 2 = nI k := by rw [d_k4]; exact hk3
      have e7 := c_ntM (m := m) (bk := d_nb th 0 (nI t) (nI pl) (d_p1 row t pl) bk) (f := f5) (S := S5) (x := 1) (y := nI t) (z := nI p) hth hk4a hk4b
      refine ⟨f5, S5, ?_⟩
      have e6' : fX12_isPalmed_19 N N (nI p) (nI t) (nI pl) (nI (fj % 12)) (nI pl) (11 : Int32) (dM m (d_cr th (d_nr th (d_p1 row t pl))) (d_nb th 0 (nI t) (nI pl) (d_p1 row t pl) bk) f5 S5) = pmE (nI p) (nI t) (nI to) (dM m (d_cr th (d_nr th (d_p1 row t pl))) (d_nb th 0 (nI t) (nI pl) (d_p1 row t pl) bk) f5 S5) := e6
      generalize d_cr th (d_nr th (d_p1 row t pl)) = r3 at e5' e6' e7 ⊢
      generalize d_nb th 0 (nI t) (nI pl) (d_p1 row t pl) bk = b2 at e5' e6' e7 ⊢
      have ed4 : upd (upd (upd (upd r3 (28 + t) (nI to)) (44 + t) (upd r3 (28 + t) (nI to) (44 + t) + 1)) (88 + p) (upd (upd r3 (28 + t) (nI to)) (44 + t) (upd r3 (28 + t) (nI to) (44 + t) + 1) (88 + p) + 1)) (60 + t) 1 = d_p4 r3 p t to := by
        rw [upd_ne (show 44 + t ≠ 28 + t by omega), upd_ne (show 88 + p ≠ 44 + t by omega), upd_ne (show 88 + p ≠ 28 + t by omega)]
        rfl
      rw [ipl_eq, e5', Option.bind_some, if_neg (show ¬ (12 : Int32) = 0 by decide)]
      show (fX12_isPalmed_19 N N (nI p) (nI t) (nI pl) (nI fj - nI fj / (12 : Int32) * (12 : Int32)) (nI pl) (11 : Int32) (dM m r3 b2 f5 S5)).bind _ = _
      rw [r_mod12 (by omega), e6', pmE, a1, i1, n_chk_t, pmE1, a2, i2, n_chk_t, n_chk_t, pmE2, a4, i4, n_chk_t, n_chk_t, pmE3, a3, i3, n_chk_t, nI_clamp (show 28 + t < 2 ^ 31 by omega), nI_clamp (show 44 + t < 2 ^ 31 by omega), nI_clamp (show 60 + t < 2 ^ 31 by omega), nI_clamp (show 88 + p < 2 ^ 31 by omega), dM_u108, dM_108, dM_u108, dM_108, dM_u108, dM_u108, ed4, e7, Option.bind_some, pmF]
      rfl
