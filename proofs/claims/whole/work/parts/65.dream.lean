/-! ===== in thought ===== -/
theorem e_th2 {N : Nat} : ∀ (d j f : Nat) (M : nM), j + d = 100 → d < f → fX12_thinks_2 N f (nI j) M = some ((), n_up (n_set M 110 (fun z => if j ≤ z ∧ z < 100 then M 108 z else M 110 z)) 107 5 1) := by
  intro d
  induction d with
  | zero =>
    intro j f M hj hf
    obtain ⟨f, rfl⟩ : ∃ g, f = g + 1 := ⟨f - 1, by omega⟩
    unfold fX12_thinks_2
    rw [if_pos (show (100 : Int32) ≤ nI j from nI_le (a := 100) (by omega) (by omega)), n_set_self]
    · rfl
    · funext z
      rw [if_neg (by omega)]
  | succ d ih =>
    intro j f M hj hf
    obtain ⟨f, rfl⟩ : ∃ g, f = g + 1 := ⟨f - 1, by omega⟩
    unfold fX12_thinks_2
    rw [if_neg (show ¬ (100 : Int32) ≤ nI j from nI_ge (b := 100) (by omega) (by omega))]
    simp only [n_ib_nI (show j < 100 by omega) (show 100 < 2 ^ 31 by decide), n_chk_t, nI_clamp (show j < 2 ^ 31 by omega), nI_1]
    rw [ih (j + 1) f _ (by omega) (by omega), n_set_up]
    have ef : (fun z => if j + 1 ≤ z ∧ z < 100 then n_up M 110 j (M 108 j) 108 z else n_up M 110 j (M 108 j) 110 z) = (fun z => if j ≤ z ∧ z < 100 then M 108 z else M 110 z) := by
      funext z
      rw [n_up_eq, n_up_ne (show (108 : Nat) ≠ 110 by decide)]
      by_cases h : z = j
      · subst h
        rw [upd_eq, if_neg (by omega), if_pos (by omega)]
      · rw [upd_ne h]
        by_cases h2 : j + 1 ≤ z ∧ z < 100
        · rw [if_pos h2, if_pos (by omega)]
        · rw [if_neg h2, if_neg (by omega)]
    rw [ef]
theorem e_think {N : Nat} (hN : 1000 ≤ N) (M : nM) : fX12_thinks N M = some ((), n_up (n_set M 110 (fun z => if 0 ≤ z ∧ z < 100 then M 108 z else M 110 z)) 107 5 1) := e_th2 100 0 N M (by decide) (by omega)
theorem e_et2 {N : Nat} : ∀ (d j f : Nat) (M : nM), j + d = 100 → d < f → fX12_endsThought_2 N f (nI j) M = some ((), n_up (n_set M 108 (fun z => if j ≤ z ∧ z < 100 then M 110 z else M 108 z)) 107 5 0) := by
  intro d
  induction d with
  | zero =>
    intro j f M hj hf
    obtain ⟨f, rfl⟩ : ∃ g, f = g + 1 := ⟨f - 1, by omega⟩
    unfold fX12_endsThought_2
    rw [if_pos (show (100 : Int32) ≤ nI j from nI_le (a := 100) (by omega) (by omega)), n_set_self]
    · rfl
    · funext z
      rw [if_neg (by omega)]
  | succ d ih =>
    intro j f M hj hf
    obtain ⟨f, rfl⟩ : ∃ g, f = g + 1 := ⟨f - 1, by omega⟩
    unfold fX12_endsThought_2
    rw [if_neg (show ¬ (100 : Int32) ≤ nI j from nI_ge (b := 100) (by omega) (by omega))]
    simp only [n_ib_nI (show j < 100 by omega) (show 100 < 2 ^ 31 by decide), n_chk_t, nI_clamp (show j < 2 ^ 31 by omega), nI_1]
    rw [ih (j + 1) f _ (by omega) (by omega), n_set_up]
    have ef : (fun z => if j + 1 ≤ z ∧ z < 100 then n_up M 108 j (M 110 j) 110 z else n_up M 108 j (M 110 j) 108 z) = (fun z => if j ≤ z ∧ z < 100 then M 110 z else M 108 z) := by
      funext z
      rw [n_up_eq, n_up_ne (show (110 : Nat) ≠ 108 by decide)]
      by_cases h : z = j
      · subst h
        rw [upd_eq, if_neg (by omega), if_pos (by omega)]
      · rw [upd_ne h]
        by_cases h2 : j + 1 ≤ z ∧ z < 100
        · rw [if_pos h2, if_pos (by omega)]
        · rw [if_neg h2, if_neg (by omega)]
    rw [ef]
theorem e_endth {N : Nat} (hN : 1000 ≤ N) (M : nM) : fX12_endsThought N M = some ((), n_up (n_set M 108 (fun z => if 0 ≤ z ∧ z < 100 then M 110 z else M 108 z)) 107 5 0) := e_et2 100 0 N M (by decide) (by omega)
theorem fin_dream {G : nG} {C D : nM} {n q N : Nat} {fC : Nat → nM → Option (Int32 × nM)} {gM : nM → Option (Int32 × nM)} {d : dD} (hN : 1000 ≤ N) (hG : n_GOK G) (hC : DoC G n q fC d) (hM : DoM G n q gM d) (hB : DoB d) (h : Rel G (Mix C D) n q) : ∃ (v : Int32) (C' D1 D' : nM), (fX4_copyFrom G 93 9 C).bind (fun p => fC 93 p.2) = some (v, C') ∧ (∀ c, 107 ≤ c → c ≤ 151 → C' c = C c) ∧ (fX12_thinks N D).bind (fun p => gM p.2) = some (v, D1) ∧ (r_mov (C' 93 5) (C' 93 6) (C' 93 7) (C' 93 8) (C' 93 9) (C' 93 10) (C' 93 11) (C' 94) (C' 95) (C' 96) (C' 97) (D1 108) n q ∧ D1 107 6 = nI n ∧ D1 107 7 = nI q) ∧ fX12_endsThought N D1 = some ((), D') ∧ (∀ c, c < 107 ∨ 151 < c → D' c = D c) ∧ Rel G (Mix C' D') n q := by
  obtain ⟨⟨hst, hmv, hbk, hlw, hsp, hcu, hli, hsw, hpk, hbx, hky, hcl, hsh, hrw, hgf, hmi⟩, hpr, hrd, hck, hwd, him⟩ := id h
  obtain ⟨k, x, p1, p2, p3, p4, p5, p6⟩ := id hpr
  obtain ⟨r10, hr10⟩ : ∃ r : Nat → Int32, r = (fun z => if 0 ≤ z ∧ z < 100 then D 108 z else D 110 z) := ⟨_, rfl⟩
  obtain ⟨D2, hD2⟩ : ∃ D2, D2 = n_up (n_set D 110 r10) 107 5 1 := ⟨_, rfl⟩
  have eD : ∀ c, c ≠ 107 → c ≠ 110 → D2 c = D c := fun c g1 g2 => by rw [hD2, n_up_ne g1, n_set_ne g2]
  have eD7 : ∀ t, t ≠ 5 → D2 107 t = D 107 t := fun t g => by rw [hD2, n_up_eq, upd_ne g, n_set_ne (by decide)]
  have e10 : D2 110 = r10 := by rw [hD2, n_up_ne (by decide), n_set_eq]
  have eC : ∀ c, c < 93 ∨ 97 < c → cpM C 93 9 c = C c := fun c g => cpM_ne (by omega)
  obtain ⟨ls, hW⟩ := Mix_EW (M0 := cpM C 93 9) (m := D2) hG h (fun c g => eC c (by omega)) (fun c g1 g2 => eD c (by omega) (by omega)) (fun t ht => eD7 t (fun z => by subst z; exact absurd ht (by decide)))
  have hCD : CD (cpM C 93 9) (cpM C 93 9) 93 true (D 108) (D 116) n q := by
    refine ⟨fun _ _ _ _ _ => rfl, ?_, ?_, ?_⟩
    · rw [cpM_o]
      show (if 5 ≤ 0 ∧ 0 ≤ 11 then C 9 0 else C 93 0) = 1
      rw [if_neg (by decide)]
      exact hck.2.1
    · exact r_mov_cpM (a := 93) (b := 9) (by decide) hmv
    · rw [eC 15 (by decide)]; exact hbk
  obtain ⟨C', c1, c2⟩ := hC _ _ _ ls 93 true _ _ hW (Or.inr rfl) hCD
  have h5 : D2 107 5 = cb true := by rw [hD2, n_up_eq, upd_eq]; rfl
  obtain ⟨f2, S2, m1⟩ := hM _ _ ls true (D 108) (D 116) (D2 131) (D2 132) hW h5 ⟨_, 93, Or.inr rfl, hCD⟩
  have eself : D2 = dM D2 (D 108) (D 116) (D2 131) (D2 132) := by
    have := dM_self D2
    rw [eD 108 (by decide) (by decide), eD 116 (by decide) (by decide)] at this
    exact this
  rw [← eself] at m1
  rw [hB] at c2 m1
  obtain ⟨f1, f2', f3, f4⟩ := c2
  generalize (d D2 ls true (D 108) (D 116)).2.1 = row' at f3 m1
  have hC' : ∀ c, c < 93 ∨ 97 < c → c ≠ 15 → c ≠ 46 → c ≠ 47 → C' c = C c := fun c g1 g2 g3 g4 => by rw [f1 c g1 g2 g3 g4, eC c g1]
  obtain ⟨r8, hr8⟩ : ∃ r : Nat → Int32, r = (fun z => if 0 ≤ z ∧ z < 100 then dM D2 row' (D 116) f2 S2 110 z else dM D2 row' (D 116) f2 S2 108 z) := ⟨_, rfl⟩
  have er8 : ∀ z, z < 100 → r8 z = D 108 z := fun z hz => by
    rw [hr8]
    show (if 0 ≤ z ∧ z < 100 then dM D2 row' (D 116) f2 S2 110 z else dM D2 row' (D 116) f2 S2 108 z) = D 108 z
    rw [if_pos ⟨Nat.zero_le z, hz⟩, dM_ne (by decide) (by decide) (by decide) (by decide), e10, hr10]
    exact if_pos ⟨Nat.zero_le z, hz⟩
  have e3 := e_endth hN (dM D2 row' (D 116) f2 S2)
  rw [← hr8] at e3
  obtain ⟨D', hD'⟩ : ∃ D', D' = n_up (n_set (dM D2 row' (D 116) f2 S2) 108 r8) 107 5 0 := ⟨_, rfl⟩
  rw [← hD'] at e3
  have gD : ∀ c, c ≠ 107 → c ≠ 110 → c ≠ 108 → c ≠ 116 → c ≠ 131 → c ≠ 132 → D' c = D c := fun c g1 g2 g3 g4 g5 g6 => by rw [hD', n_up_ne g1, n_set_ne g3, dM_ne g3 g4 g5 g6, eD c g1 g2]
  have gD7 : ∀ t, t ≠ 5 → D' 107 t = D 107 t := fun t g => by rw [hD', n_up_eq, upd_ne g, n_set_ne (by decide), dM_107, eD7 t g]
  have gD8 : D' 108 = r8 := by rw [hD', n_up_ne (by decide), n_set_eq]
  have gD6 : D' 116 = D 116 := by rw [hD', n_up_ne (by decide), n_set_ne (by decide)]; rfl
  have gD5 : D' 107 5 = 0 := by rw [hD', n_up_eq, upd_eq]
  refine ⟨(d D2 ls true (D 108) (D 116)).1, C', dM D2 row' (D 116) f2 S2, D', ?_, fun c g1 g2 => ?_, ?_, ⟨f3, ?_, ?_⟩, e3, fun c hc => ?_, ?_⟩
  · rw [e_copyM (n_Mv93 hG) (n_Mv9 hG) (by decide), Option.bind_some]
    exact c1
  · exact hC' c (by omega) (by omega) (by omega) (by omega)
  · rw [e_think hN, Option.bind_some, ← hr10, ← hD2]
    exact m1
  · rw [dM_107, eD7 6 (by decide)]
    exact hst.2.2.1.1
  · rw [dM_107, eD7 7 (by decide)]
    exact hst.2.2.1.2
  · exact gD c (by omega) (by omega) (by omega) (by omega) (by omega) (by omega)
  · refine Rel_mov h (fun c hc => ?_) (fun t ht => ?_) ?_ ?_ ?_ ?_ ?_ ?_
    · obtain ⟨g1, g2, g3, g4, g5, g6, g7, g8, g9, g10, g11, g12, g13, g14, g15⟩ := mvc_out hc
      by_cases hcl : c < 107 ∨ 151 < c
      · rw [Mix_c hcl, Mix_c hcl, hC' c (by omega) g7 (by omega) (by omega)]
      · rw [Mix_d (by omega) (by omega), Mix_d (by omega) (by omega)]
        exact gD c g9 g12 g10 g13 g14 g15
    · exact gD7 t (fun z => by subst z; exact absurd ht (by decide))
    · show r_mov (C' 9 5) (C' 9 6) (C' 9 7) (C' 9 8) (C' 9 9) (C' 9 10) (C' 9 11) (C' 10) (C' 11) (C' 12) (C' 13) (D' 108) n q
      rw [hC' 9 (by decide) (by decide) (by decide) (by decide), hC' 10 (by decide) (by decide) (by decide) (by decide), hC' 11 (by decide) (by decide) (by decide) (by decide), hC' 12 (by decide) (by decide) (by decide) (by decide), hC' 13 (by decide) (by decide) (by decide) (by decide), gD8]
      exact r_mov_row hmv er8
    · show r_eq 600 (C' 15) (D' 116)
      rw [gD6]
      exact f4
    · refine ⟨k, x, p1, p2, ?_, ?_, ?_, fun j hj => ?_⟩
      · show C' 48 2 = nI k
        rw [hC' 48 (by decide) (by decide) (by decide) (by decide)]; exact p3
      · show C' 48 1 = nI x
        rw [hC' 48 (by decide) (by decide) (by decide) (by decide)]; exact p4
      · show D' 107 3 = nI k
        rw [gD7 3 (by decide)]; exact p5
      · refine p_mov_c (by omega) (fun c g1 g2 => ?_) (fun t ht => ?_) (p6 j hj)
        · rw [Mix_c (by omega), Mix_c (by omega), hC' c (by omega) (by omega) (by omega) (by omega)]
        · show D' 109 _ = D 109 _
          rw [gD 109 (by decide) (by decide) (by decide) (by decide) (by decide) (by decide)]
    · show C' 9 0 = 0
      rw [hC' 9 (by decide) (by decide) (by decide) (by decide)]
      exact hck.1
    · exact f2'
    · exact gD5
