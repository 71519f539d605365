/-! ===== text: what holds behind it ===== -/
theorem r_law_c {lns lm : Int32} {code words from_ when_ till : Nat → Int32} {lw lf lh lt op arg lw' lf' lh' lt' op' arg' : Nat → Int32} (h : r_law lns code words from_ when_ till lm lw lf lh lt op arg) (h1 : ∀ i, i < 32 → lw' i = lw i) (h2 : ∀ i, i < 32 → lf' i = lf i) (h3 : ∀ i, i < 32 → lh' i = lh i) (h4 : ∀ i, i < 32 → lt' i = lt i) (h5 : ∀ i, i < 800 → op' i = op i) (h6 : ∀ i, i < 800 → arg' i = arg i) : r_law lns code words from_ when_ till lm lw' lf' lh' lt' op' arg' := by
  obtain ⟨ls, l1, l2, l3, l4⟩ := h
  refine ⟨ls, l1, l2, l3, fun i x hx => ?_⟩
  have hi := l_lt hx
  obtain ⟨x1, x2, x3, x4, f, y1, y2, y3, y4, y5, y6⟩ := l4 i x hx
  refine ⟨x1, x2, x3, x4, f, by rw [h1 i (by omega)]; exact y1, by rw [h2 i (by omega)]; exact y2, by rw [h3 i (by omega)]; exact y3, by rw [h4 i (by omega)]; exact y4, y5, fun t z hz => ?_⟩
  have ht := l_lt hz
  rw [h5 (f + t) (by omega), h6 (f + t) (by omega)]
  exact y6 t z hz
theorem r_sup_c {cnt mc : Int32} {cells rows rows' : Nat → Int32} {n q : Nat} (h : r_sup cnt cells mc rows n q) (h1 : ∀ i, i < 64 → rows' i = rows i) : r_sup cnt cells mc rows' n q := by
  obtain ⟨k, k1, k2, k3, k4, k5⟩ := h
  exact ⟨k, k1, k2, k3, fun i hi => by rw [h1 i (by omega)]; exact k4 i hi, k5⟩
theorem r_cus_c {cnt mc : Int32} {cells rows rows' : Nat → Int32} {q : Nat} (h : r_cus cnt cells mc rows q) (h1 : ∀ i, i < 64 → rows' i = rows i) : r_cus cnt cells mc rows' q := by
  obtain ⟨k, k1, k2, k3, k4, k5⟩ := h
  exact ⟨k, k1, k2, k3, fun i hi => by rw [h1 i (by omega)]; exact k4 i hi, k5⟩
theorem r_lin_c {cnt mc : Int32} {cells par par' : Nat → Int32} {q : Nat} (h : r_lin cnt cells mc par q) (h1 : ∀ i, i < 12 → par' i = par i) : r_lin cnt cells mc par' q := by
  obtain ⟨ps, k1, k2, k3, k4, k5, k6⟩ := h
  exact ⟨ps, k1, k2, k3, k4, fun c hc t => by rw [h1 c hc]; exact k5 c hc t, k6⟩
/-- cells that a text may change -/
def txc (a : Nat) : Prop := (16 ≤ a ∧ a ≤ 27) ∨ a = 48 ∨ (80 ≤ a ∧ a ≤ 92) ∨ a = 107 ∨ (119 ≤ a ∧ a ≤ 130)
def t7c (i : Nat) : Prop := i = 0 ∨ i = 3 ∨ (15 ≤ i ∧ i ≤ 19) ∨ (28 ≤ i ∧ i ≤ 41)
theorem Rel_tx {G : nG} {M M' : nM} {n q : Nat} (h : Rel G M n q) (hc : ∀ c, ¬ txc c → M' c = M c) (h7 : ∀ i, ¬ t7c i → M' 107 i = M 107 i)
    (glw : r_law (M' 16 6) (M' 17) (M' 18) (M' 19) (M' 20) (M' 21) (M' 119 0) (M' 120) (M' 121) (M' 122) (M' 123) (M' 124) (M' 125))
    (gsp : r_sup (M' 22 3) (M' 23) (M' 107 37) (M' 127) n q) (gcu : r_cus (M' 24 3) (M' 25) (M' 107 39) (M' 128) q) (gli : r_lin (M' 26 3) (M' 27) (M' 107 41) (M' 129) q)
    (gpr : PR M' n q) (grd : RD M') (gck : CK M') : Rel G M' n q := by
  have e : ∀ c, ¬ txc c → M' c = M c := hc
  obtain ⟨⟨hst, hmv, hbk, hlw, hsp, hcu, hli, hsw, hpk, hbx, hky, hcl, hsh, hrw, hgf, hmi⟩, hpr, hrd, hck, hwd, him⟩ := id h
  refine ⟨⟨?_, ?_, ?_, glw, gsp, gcu, gli, ?_, ?_, ?_, ?_, ?_, ?_, ?_, ?_, ?_⟩, gpr, grd, gck, ?_, ?_⟩
  · rw [e 3 (by unfold txc; omega), e 4 (by unfold txc; omega), e 5 (by unfold txc; omega), e 6 (by unfold txc; omega), e 7 (by unfold txc; omega), e 8 (by unfold txc; omega), h7 6 (by unfold t7c; omega), h7 7 (by unfold t7c; omega), e 111 (by unfold txc; omega), e 112 (by unfold txc; omega), e 113 (by unfold txc; omega), e 114 (by unfold txc; omega), e 115 (by unfold txc; omega)]; exact hst
  · rw [e 9 (by unfold txc; omega), e 10 (by unfold txc; omega), e 11 (by unfold txc; omega), e 12 (by unfold txc; omega), e 13 (by unfold txc; omega), e 108 (by unfold txc; omega)]; exact hmv
  · rw [e 15 (by unfold txc; omega), e 116 (by unfold txc; omega)]; exact hbk
  · rw [e 29 (by unfold txc; omega), e 30 (by unfold txc; omega), h7 46 (by unfold t7c; omega), e 133 (by unfold txc; omega), e 134 (by unfold txc; omega)]; exact hsw
  · rw [e 31 (by unfold txc; omega), e 32 (by unfold txc; omega), h7 49 (by unfold t7c; omega), e 135 (by unfold txc; omega)]; exact hpk
  · rw [e 33 (by unfold txc; omega), e 34 (by unfold txc; omega), h7 51 (by unfold t7c; omega), e 136 (by unfold txc; omega), e 137 (by unfold txc; omega)]; exact hbx
  · rw [e 35 (by unfold txc; omega), e 36 (by unfold txc; omega), h7 55 (by unfold t7c; omega), e 139 (by unfold txc; omega)]; exact hky
  · rw [e 37 (by unfold txc; omega), e 38 (by unfold txc; omega), h7 65 (by unfold t7c; omega), e 144 (by unfold txc; omega), e 145 (by unfold txc; omega), e 146 (by unfold txc; omega)]; exact hcl
  · rw [e 39 (by unfold txc; omega), e 40 (by unfold txc; omega), h7 70 (by unfold t7c; omega), e 148 (by unfold txc; omega)]; exact hsh
  · rw [e 41 (by unfold txc; omega), e 42 (by unfold txc; omega), h7 72 (by unfold t7c; omega), e 149 (by unfold txc; omega)]; exact hrw
  · rw [e 43 (by unfold txc; omega), e 141 (by unfold txc; omega)]; exact hgf
  · rw [e 44 (by unfold txc; omega), e 143 (by unfold txc; omega)]; exact hmi
  · rw [e 118 (by unfold txc; omega)]; exact hwd
  · unfold IM
    rw [h7 76 (by unfold t7c; omega), e 151 (by unfold txc; omega)]
    rcases him with z | ⟨z1, z2, z3, z4, z5, n', q', z6⟩
    · exact Or.inl z
    · refine Or.inr ⟨z1, z2, z3, z4, z5, n', q', ?_⟩
      have e : ∀ a, 2 ≤ a → M' (a + 150) = M (a + 150) := fun a ha => hc _ (by unfold txc; omega)
      obtain ⟨k1, k2, k3, k4, k5, k6, k7, k8, k9, k10, k11, k12, k13, k14, k15, k16⟩ := z6
      refine ⟨?_, ?_, ?_, ?_, ?_, ?_, ?_, ?_, ?_, ?_, ?_, ?_, ?_, ?_, ?_, ?_⟩
      · simp only [e 3 (by decide), e 4 (by decide), e 5 (by decide), e 6 (by decide), e 7 (by decide), e 8 (by decide)]; exact k1
      · simp only [e 9 (by decide), e 10 (by decide), e 11 (by decide), e 12 (by decide), e 13 (by decide)]; exact k2
      · simp only [e 15 (by decide)]; exact k3
      · simp only [e 16 (by decide), e 17 (by decide), e 18 (by decide), e 19 (by decide), e 20 (by decide), e 21 (by decide)]; exact k4
      · simp only [e 22 (by decide), e 23 (by decide)]; exact k5
      · simp only [e 24 (by decide), e 25 (by decide)]; exact k6
      · simp only [e 26 (by decide), e 27 (by decide)]; exact k7
      · simp only [e 29 (by decide), e 30 (by decide)]; exact k8
      · simp only [e 31 (by decide), e 32 (by decide)]; exact k9
      · simp only [e 33 (by decide), e 34 (by decide)]; exact k10
      · simp only [e 35 (by decide), e 36 (by decide)]; exact k11
      · simp only [e 37 (by decide), e 38 (by decide)]; exact k12
      · simp only [e 39 (by decide), e 40 (by decide)]; exact k13
      · simp only [e 41 (by decide), e 42 (by decide)]; exact k14
      · simp only [e 43 (by decide)]; exact k15
      · simp only [e 44 (by decide)]; exact k16
/-! what changes on the way -/
def sx (a i : Nat) : Prop := a = 126 ∨ a = 130 ∨ (120 ≤ a ∧ a ≤ 123 ∧ 32 ≤ i) ∨ ((a = 124 ∨ a = 125) ∧ 800 ≤ i) ∨ ((a = 127 ∨ a = 128) ∧ 64 ≤ i) ∨ (a = 129 ∧ 12 ≤ i) ∨ (a = 107 ∧ (i = 0 ∨ (15 ≤ i ∧ i ≤ 19) ∨ (28 ≤ i ∧ i ≤ 36)))
def SM (D D' : nM) : Prop := ∀ a i, ¬ sx a i → D' a i = D a i
def SC (C C' : nM) : Prop := (∀ a, ¬ (80 ≤ a ∧ a ≤ 92) → C' a = C a) ∧ C' 91 1 = C 91 1 ∧ C' 91 2 = C 91 2
theorem SM_t {D D' D'' : nM} (h1 : SM D D') (h2 : SM D' D'') : SM D D'' := fun a i h => (h2 a i h).trans (h1 a i h)
theorem SM_7 {D : nM} {i : Nat} {x : Int32} (h : i = 0 ∨ (15 ≤ i ∧ i ≤ 19) ∨ (28 ≤ i ∧ i ≤ 36)) : SM D (n_up D 107 i x) := fun a t ht => by
  by_cases e : a = 107
  · subst e
    rw [n_up_eq, upd_ne (fun q => ht (by unfold sx; omega))]
  · rw [n_up_ne e]
theorem SM_ms {b : Nat → Nat} {k j : Nat} {v : Int32} {D D' : nM} {c : List (Nat × Nat)} (h : SM D D') : SM D (ms b k v D' j c) := fun a i hi => by
  rw [← h a i hi]
  by_cases e : a = 107
  · subst e
    rw [ms_7o (fun q => hi (by unfold sx; omega)) (fun q => hi (by unfold sx; omega))]
  · unfold ms
    rw [if_neg e]
    by_cases e1 : a = 124
    · rw [if_pos e1, e1]
      unfold mdr
      rw [if_neg (fun q => hi (by unfold sx; omega))]
    · rw [if_neg e1]
      by_cases e2 : a = 125
      · rw [if_pos e2, e2]
        unfold mdr
        rw [if_neg (fun q => hi (by unfold sx; omega))]
      · rw [if_neg e2]
theorem SM_me {b : Nat → Nat} {k j e : Nat} {v : Int32} {D D' : nM} {c : List (Nat × Nat)} (h : SM D D') : SM D (me b k v D' e j c) := SM_t (SM_ms h) (SM_t (SM_7 (by decide)) (SM_7 (by decide)))
theorem SM_FL {D D' : nM} (h : FL D D') : SM D D' := fun a i hi => by
  by_cases e : a = 107
  · subst e
    exact h.2 i (fun q => hi (by unfold sx; omega)) (fun q => hi (by unfold sx; omega))
  · exact h.1 a i e (fun q => hi (by unfold sx; omega)) (fun p1 p2 => by
      by_cases q : i < 32
      · exact q
      · exact absurd (by unfold sx; omega) hi)
theorem SM_FM {D D' : nM} (h : FM D D') : SM D D' := fun a i hi => h a i (fun p => by
    by_cases q : i < 64
    · exact q
    · exact absurd (by unfold sx; omega) hi) (fun p => by
    by_cases q : i < 12
    · exact q
    · exact absurd (by unfold sx; omega) hi) (fun q => hi (by unfold sx; omega))
theorem SC_cs {C C' : nM} {j : Nat} {c : List lOp} (h : SC C C') : SC C (cs C' j c) := ⟨fun a ha => by rw [cs_o (by omega) (by omega) (by omega)]; exact h.1 a ha, by rw [cs_o (by decide) (by decide) (by decide)]; exact h.2.1, by rw [cs_o (by decide) (by decide) (by decide)]; exact h.2.2⟩
theorem SC_80 {C C' : nM} {i : Nat} {x : Int32} (h : SC C C') : SC C (n_up C' 80 i x) := ⟨fun a ha => by rw [n_up_ne (by omega)]; exact h.1 a ha, by rw [n_up_ne (by decide)]; exact h.2.1, by rw [n_up_ne (by decide)]; exact h.2.2⟩
theorem SC_ce {τ : tK} {C C' : nM} {j e : Nat} {c : List lOp} (h : SC C C') : SC C (ce τ C' e j c) := SC_80 (SC_80 (SC_cs h))
theorem SC_FC {C C1 C' : nM} (h1 : SC C C1) (h : FC C1 C') : SC C C' := ⟨fun a ha => by rw [h.1 a (by omega) (by omega)]; exact h1.1 a ha, by rw [h.2.2 1 (by decide)]; exact h1.2.1, by rw [h.2.2 2 (by decide)]; exact h1.2.2⟩
/-- nothing taken: the same house -/
theorem Rel_scr2 {G : nG} {M C' D' : nM} {n q : Nat} (h : Rel G M n q) (hC : SC M C') (hD : ∀ a i, 107 ≤ a → a ≤ 151 → ¬ sx a i → D' a i = M a i) (h9 : C' 80 9 = 0) (h15 : D' 107 15 = 0) (h10 : C' 80 10 = D' 107 35) (h11 : C' 80 11 = D' 107 36) : Rel G (Mix C' D') n q := by
  have mc : ∀ c, c < 107 ∨ 151 < c → Mix C' D' c = C' c := fun c hc => Mix_c hc
  have md : ∀ c, 107 ≤ c → c ≤ 151 → Mix C' D' c = D' c := fun c h1 h2 => Mix_d h1 h2
  have cc : ∀ c, (c < 107 ∨ 151 < c) → ¬ (80 ≤ c ∧ c ≤ 92) → Mix C' D' c = M c := fun c h1 h2 => by rw [mc c h1]; exact hC.1 c h2
  have dd : ∀ c, 107 ≤ c → c ≤ 151 → (∀ i, ¬ sx c i) → Mix C' D' c = M c := fun c h1 h2 h3 => by
    rw [md c h1 h2]
    funext i
    exact hD c i h1 h2 (h3 i)
  have d7 : ∀ i, ¬ sx 107 i → Mix C' D' 107 i = M 107 i := fun i hi => by rw [md 107 (by decide) (by decide)]; exact hD 107 i (by decide) (by decide) hi
  have di : ∀ c i, 107 ≤ c → c ≤ 151 → ¬ sx c i → Mix C' D' c i = M c i := fun c i h1 h2 h3 => by rw [md c h1 h2]; exact hD c i h1 h2 h3
  obtain ⟨⟨hst, hmv, hbk, hlw, hsp, hcu, hli, hsw, hpk, hbx, hky, hcl, hsh, hrw, hgf, hmi⟩, hpr, hrd, hck, hwd, him⟩ := id h
  refine Rel_tx h (fun c hc => ?_) (fun i hi => d7 i (by unfold sx; unfold t7c at hi; omega)) ?_ ?_ ?_ ?_ ?_ ?_ ?_
  · by_cases z : c < 107 ∨ 151 < c
    · exact cc c z (by unfold txc at hc; omega)
    · exact dd c (by omega) (by omega) (fun i => by unfold sx; unfold txc at hc; omega)
  · rw [cc 16 (by decide) (by decide), cc 17 (by decide) (by decide), cc 18 (by decide) (by decide), cc 19 (by decide) (by decide), cc 20 (by decide) (by decide), cc 21 (by decide) (by decide), dd 119 (by decide) (by decide) (fun i => by unfold sx; omega)]
    exact r_law_c hlw (fun i hi => di 120 i (by decide) (by decide) (by unfold sx; omega)) (fun i hi => di 121 i (by decide) (by decide) (by unfold sx; omega)) (fun i hi => di 122 i (by decide) (by decide) (by unfold sx; omega)) (fun i hi => di 123 i (by decide) (by decide) (by unfold sx; omega)) (fun i hi => di 124 i (by decide) (by decide) (by unfold sx; omega)) (fun i hi => di 125 i (by decide) (by decide) (by unfold sx; omega))
  · rw [cc 22 (by decide) (by decide), cc 23 (by decide) (by decide), d7 37 (by unfold sx; omega)]
    exact r_sup_c hsp (fun i hi => di 127 i (by decide) (by decide) (by unfold sx; omega))
  · rw [cc 24 (by decide) (by decide), cc 25 (by decide) (by decide), d7 39 (by unfold sx; omega)]
    exact r_cus_c hcu (fun i hi => di 128 i (by decide) (by decide) (by unfold sx; omega))
  · rw [cc 26 (by decide) (by decide), cc 27 (by decide) (by decide), d7 41 (by unfold sx; omega)]
    exact r_lin_c hli (fun i hi => di 129 i (by decide) (by decide) (by unfold sx; omega))
  · obtain ⟨k, x, p1, p2, p3, p4, p5, p6⟩ := hpr
    refine ⟨k, x, p1, p2, by rw [cc 48 (by decide) (by decide)]; exact p3, by rw [cc 48 (by decide) (by decide)]; exact p4, by rw [d7 3 (by unfold sx; omega)]; exact p5, fun j hj => ?_⟩
    exact p_mov_c (by omega) (fun c g1 g2 => cc c (by omega) (by omega)) (fun t ht => by rw [dd 109 (by decide) (by decide) (fun i => by unfold sx; omega)]) (p6 j hj)
  · unfold RD
    rw [mc 80 (by decide), mc 81 (by decide), md 107 (by decide) (by decide), md 117 (by decide) (by decide)]
    exact ⟨⟨0, by decide, h9, h15, fun i hi => absurd hi (by omega)⟩, h10, h11⟩
  · unfold CK
    rw [cc 9 (by decide) (by decide), cc 93 (by decide) (by decide), cc 14 (by decide) (by decide), cc 22 (by decide) (by decide), cc 24 (by decide) (by decide), cc 26 (by decide) (by decide), cc 29 (by decide) (by decide), cc 31 (by decide) (by decide), cc 33 (by decide) (by decide), cc 35 (by decide) (by decide), cc 37 (by decide) (by decide), cc 39 (by decide) (by decide), cc 41 (by decide) (by decide), mc 91 (by decide), hC.2.1, hC.2.2, d7 5 (by unfold sx; omega)]
    exact hck
