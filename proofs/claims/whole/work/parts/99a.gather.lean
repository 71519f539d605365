/-! ===== heir: the class gathers who is whose child ===== -/
theorem e_bind {a b : Nat} {M : nM} (ha : a < 12) (hb : b < 12) (hab : a ≠ b) : ∃ M' : nM, fX2_bind (nI a) (nI b) M = some ((), M') ∧ (∀ k, k ≠ 104 → M' k = M k) ∧ (∀ i j, bt (M 104 i) j = true → bt (M' 104 i) j = true) ∧ bt (M' 104 a) b = true ∧ bt (M' 104 b) a = true := by
  refine ⟨n_up (n_up M 104 a (M 104 a ||| ((1 : Int32) <<< (nI b &&& 31)))) 104 b ((n_up M 104 a (M 104 a ||| ((1 : Int32) <<< (nI b &&& 31)))) 104 b ||| ((1 : Int32) <<< (nI a &&& 31))), ?_, ?_, ?_, ?_, ?_⟩
  · unfold fX2_bind
    rw [if_neg (fun z => hab ((nI_eq (by omega) (by omega)).mp z)), n_ib_nI ha (by decide), n_ib_nI hb (by decide), n_chk_t, n_chk_t, n_chk_t, n_chk_t, nI_clamp (show a < 2 ^ 31 by omega), nI_clamp (show b < 2 ^ 31 by omega)]
  · intro k hk
    rw [n_up_ne hk, n_up_ne hk]
  · intro i j h
    rw [n_up_eq]
    by_cases e : i = b
    · subst e
      rw [upd_eq, b_or, n_up_eq, upd_ne (fun z => hab z.symm), h]
      rfl
    · rw [upd_ne e, n_up_eq]
      by_cases e2 : i = a
      · subst e2
        rw [upd_eq, b_or, h]
        rfl
      · rw [upd_ne e2]; exact h
  · rw [n_up_eq, upd_ne hab, n_up_eq, upd_eq, b_set (by omega)]
    simp
  · rw [n_up_eq, upd_eq, b_set (by omega)]
    simp
/-- what is gathered of the first lines -/
def h_G (q : Nat) (ps : List (Nat × Nat)) (F S : Nat → Nat) (M : nM) : Prop := (∀ c, c < 12 → M 102 c = h_cell q (F c)) ∧ (∀ c, c < 12 → M 103 c = h_cell q (S c)) ∧ (∀ c, (F c < q ∨ F c = 99) ∧ (S c < q ∨ S c = 99) ∧ (F c = 99 → S c = 99) ∧ (F c = S c → S c = 99)) ∧ (∀ c p, p < q → ((c, p) ∈ ps ↔ F c = p ∨ S c = p)) ∧ (∀ c, (if F c = 99 then 0 else 1) + (if S c = 99 then 0 else 1) ≤ (ps.filter (fun x => x.1 == c)).length) ∧ ∀ c i j, c < q → i < q → j < q → i ≠ j → h_iv F S c i → h_iv F S c j → bt (M 104 i) j = true
theorem ap_eq (x1 x2 : Int32) (M : nM) : fX2_addParent x1 x2 M = if x1 < 0 then some ((), M) else if (M 101 5) ≤ x1 then some ((), M) else if x2 < 0 then some ((), M) else if x2 < (M 101 5) then (fX2_bind x1 x2 M).bind fun p1 => n_chk (n_ib 12 x1) (if ¬ (p1.2 102 x1.toNatClampNeg) = (-1 : Int32) then n_chk (n_ib 12 x1) (if (p1.2 102 x1.toNatClampNeg) = x2 then some ((), p1.2) else n_chk (n_ib 12 x1) (n_chk (n_ib 12 x1) ((fX2_bind (n_up p1.2 103 x1.toNatClampNeg x2 102 x1.toNatClampNeg) x2 (n_up p1.2 103 x1.toNatClampNeg x2)).bind fun p3 => some ((), p3.2)))) else n_chk (n_ib 12 x1) (some ((), n_up p1.2 102 x1.toNatClampNeg x2))) else some ((), M) := rfl
theorem e_apar {q c p : Nat} {ps : List (Nat × Nat)} {F S : Nat → Nat} {M : nM} (hq : q ≤ 12) (h1 : M 101 5 = nI q) (hc : c < q) (hp : p < q) (hcp : c ≠ p) (h : h_G q ps F S M) (h2 : (ps.filter (fun x => x.1 == c)).length + 1 ≤ 2) : ∃ (F' S' : Nat → Nat) (M' : nM), fX2_addParent (nI c) (nI p) M = some ((), M') ∧ (∀ k, k ≠ 102 → k ≠ 103 → k ≠ 104 → M' k = M k) ∧ h_G q (ps ++ [(c, p)]) F' S' M' := by
  obtain ⟨g1, g2, g3, g4, g5, g6⟩ := h
  obtain ⟨M1, b1, b2, b3, b4, b5⟩ := e_bind (M := M) (show c < 12 by omega) (show p < 12 by omega) hcp
  obtain ⟨f1, f2, f3, f4⟩ := g3 c
  have fil : ∀ d, ((ps ++ [(c, p)]).filter (fun x => x.1 == d)).length = (ps.filter (fun x => x.1 == d)).length + (if c = d then 1 else 0) := fun d => by
    rw [List.filter_append, List.length_append]
    congr 1
    by_cases e : c = d
    · rw [List.filter_cons_of_pos (by simp [e]), if_pos e]
      rfl
    · rw [List.filter_cons_of_neg (by simp [e]), if_neg e]
      rfl
  have mem : ∀ d r, (d, r) ∈ ps ++ [(c, p)] ↔ (d, r) ∈ ps ∨ (d = c ∧ r = p) := fun d r => by
    rw [List.mem_append, List.mem_singleton, Prod.mk.injEq]
  have hF1 : M1 102 c = h_cell q (F c) := by rw [b2 102 (by decide)]; exact g1 c (by omega)
  rw [ap_eq, if_neg (nI_pos (by omega)), h1, if_neg (nI_ge hc (by omega)), if_neg (nI_pos (by omega)), if_pos (nI_lt hp (by omega)), b1, Option.bind_some, n_ib_nI (show c < 12 by omega) (by decide), n_chk_t, n_chk_t, n_chk_t, n_chk_t, n_chk_t, nI_clamp (show c < 2 ^ 31 by omega)]
  show ∃ (F' S' : Nat → Nat) (M' : nM), (if ¬ (M1 102 c) = (-1 : Int32) then (if (M1 102 c) = nI p then some ((), M1) else ((fX2_bind (n_up M1 103 c (nI p) 102 c) (nI p) (n_up M1 103 c (nI p))).bind fun p3 => some ((), p3.2))) else (some ((), n_up M1 102 c (nI p)))) = some ((), M') ∧ _
  rw [hF1]
  by_cases e99 : F c = 99
  · -- the first parent
    have hS99 := f3 e99
    rw [e99, show h_cell q 99 = -1 from if_neg (by omega), if_neg (not_not_intro rfl)]
    refine ⟨f_up F c p, S, n_up M1 102 c (nI p), rfl, fun k k1 k2 k3 => by rw [n_up_ne k1]; exact b2 k k3, fun d hd => ?_, fun d hd => ?_, fun d => ?_, fun d r hr => ?_, fun d => ?_, fun d i j hd hi hj hij hx hy => ?_⟩
    · rw [n_up_eq]
      by_cases e : d = c
      · subst e
        rw [upd_eq, f_up_e, show h_cell q p = nI p from if_pos hp]
      · rw [upd_ne e, f_up_n e, b2 102 (by decide)]
        exact g1 d hd
    · rw [n_up_ne (by decide), b2 103 (by decide)]
      exact g2 d hd
    · by_cases e : d = c
      · subst e
        rw [f_up_e, hS99]
        exact ⟨Or.inl hp, Or.inr rfl, fun z => rfl, fun z => rfl⟩
      · rw [f_up_n e]; exact g3 d
    · rw [mem]
      by_cases e : d = c
      · subst e
        rw [f_up_e, g4 d r hr, e99, hS99]
        constructor
        · rintro ((z | z) | z)
          · omega
          · omega
          · exact Or.inl z.2.symm
        · rintro (z | z)
          · exact Or.inr ⟨rfl, z.symm⟩
          · omega
      · rw [f_up_n e, g4 d r hr]
        constructor
        · rintro (z | z)
          · exact z
          · exact absurd z.1 e
        · exact Or.inl
    · rw [fil]
      have := g5 d
      by_cases e : d = c
      · subst e
        rw [f_up_e, if_neg (show ¬ p = 99 by omega), hS99, if_pos rfl, if_pos rfl]
        omega
      · rw [f_up_n e, if_neg (show ¬ c = d from fun z => e z.symm)]
        omega
    · rw [n_up_ne (by decide)]
      by_cases e : d = c
      · subst e
        unfold h_iv at hx hy
        rw [f_up_e, hS99] at hx hy
        rcases hx with x | x | x <;> rcases hy with y | y | y <;> first | omega | skip
        · rw [x, y]; exact b4
        · rw [x, y]; exact b5
      · unfold h_iv at hx hy
        rw [f_up_n e] at hx hy
        exact b3 i j (g6 d i j hd hi hj hij hx hy)
  · have hFq : F c < q := by omega
    rw [show h_cell q (F c) = nI (F c) from if_pos hFq, if_pos (nI_nm1 (by omega))]
    have g5c := g5 c
    rw [if_neg e99] at g5c
    by_cases eFp : F c = p
    · -- told before
      rw [if_pos (congrArg nI eFp)]
      refine ⟨F, S, M1, rfl, fun k k1 k2 k3 => b2 k k3, fun d hd => by rw [b2 102 (by decide)]; exact g1 d hd, fun d hd => by rw [b2 103 (by decide)]; exact g2 d hd, g3, fun d r hr => ?_, fun d => ?_, fun d i j hd hi hj hij hx hy => b3 i j (g6 d i j hd hi hj hij hx hy)⟩
      · rw [mem, g4 d r hr]
        constructor
        · rintro (z | z)
          · exact z
          · rw [z.1, z.2]; exact Or.inl eFp
        · exact Or.inl
      · rw [fil]
        have := g5 d
        omega
    · -- the second parent
      have hS99 : S c = 99 := by
        by_cases z : S c = 99
        · exact z
        · rw [if_neg z] at g5c
          omega
      rw [if_neg (fun z => eFp ((nI_eq (by omega) (by omega)).mp z))]
      obtain ⟨M3, d1, d2, d3, d4, d5⟩ := e_bind (M := n_up M1 103 c (nI p)) (show F c < 12 by omega) (show p < 12 by omega) eFp
      rw [n_up_ne (show (102 : Nat) ≠ 103 by decide), hF1, show h_cell q (F c) = nI (F c) from if_pos hFq, d1, Option.bind_some]
      rw [n_up_ne (show (104 : Nat) ≠ 103 by decide)] at d3
      refine ⟨F, f_up S c p, M3, rfl, fun k k1 k2 k3 => by rw [d2 k k3, n_up_ne k2]; exact b2 k k3, fun d hd => ?_, fun d hd => ?_, fun d => ?_, fun d r hr => ?_, fun d => ?_, fun d i j hd hi hj hij hx hy => ?_⟩
      · rw [d2 102 (by decide), n_up_ne (by decide), b2 102 (by decide)]
        exact g1 d hd
      · rw [d2 103 (by decide), n_up_eq]
        by_cases e : d = c
        · subst e
          rw [upd_eq, f_up_e, show h_cell q p = nI p from if_pos hp]
        · rw [upd_ne e, f_up_n e, b2 103 (by decide)]
          exact g2 d hd
      · by_cases e : d = c
        · subst e
          rw [f_up_e]
          exact ⟨f1, Or.inl hp, fun z => absurd z e99, fun z => absurd z eFp⟩
        · rw [f_up_n e]; exact g3 d
      · rw [mem]
        by_cases e : d = c
        · subst e
          rw [f_up_e, g4 d r hr, hS99]
          constructor
          · rintro ((z | z) | z)
            · exact Or.inl z
            · omega
            · exact Or.inr z.2.symm
          · rintro (z | z)
            · exact Or.inl (Or.inl z)
            · exact Or.inr ⟨rfl, z.symm⟩
        · rw [f_up_n e, g4 d r hr]
          constructor
          · rintro (z | z)
            · exact z
            · exact absurd z.1 e
          · exact Or.inl
      · rw [fil]
        have := g5 d
        by_cases e : d = c
        · subst e
          rw [f_up_e, if_neg e99, if_neg (show ¬ p = 99 by omega), if_pos rfl]
          rw [if_neg e99] at this
          omega
        · rw [f_up_n e, if_neg (show ¬ c = d from fun z => e z.symm)]
          omega
      · by_cases e : d = c
        · subst e
          unfold h_iv at hx hy
          rw [f_up_e] at hx hy
          have old : bt (M 104 i) j = true → bt (M3 104 i) j = true := fun z => d3 i j (b3 i j z)
          rcases hx with x | x | x <;> rcases hy with y | y | y <;> first | omega | skip
          · exact old (g6 d i j hd hi hj hij (Or.inl x) (Or.inr (Or.inl y)))
          · rw [x, y]; exact d3 _ _ b4
          · exact old (g6 d i j hd hi hj hij (Or.inr (Or.inl x)) (Or.inl y))
          · rw [x, y]; exact d4
          · rw [x, y]; exact d3 _ _ b5
          · rw [x, y]; exact d5
        · unfold h_iv at hx hy
          rw [f_up_n e] at hx hy
          exact d3 i j (b3 i j (g6 d i j hd hi hj hij hx hy))
theorem ga105_eq (N f : Nat) (G : nG) (x4 : Int32) (M : nM) : fX2_gather_105 N G (f + 1) x4 M = if (M 26 3) ≤ x4 then some ((), M) else (fX7_cell G 26 x4 (0 : Int32) M).bind fun p1 => (fX7_cell G 26 x4 (1 : Int32) p1.2).bind fun p2 => (fX2_addParent p1.1 p2.1 p2.2).bind fun p3 => fX2_gather_105 N G f (x4 + (1 : Int32)) p3.2 := rfl
theorem c_ga105 {N q : Nat} {G : nG} {M0 : nM} {ps : List (Nat × Nat)} (hq : q ≤ 12) (hL : ps.length ≤ 16) (h101 : M0 101 5 = nI q) (h3 : M0 26 3 = nI ps.length) (hps : ∀ i, i < ps.length → (ps.getD i (0, 0)).1 < q ∧ (ps.getD i (0, 0)).2 < q ∧ (ps.getD i (0, 0)).1 ≠ (ps.getD i (0, 0)).2) (hc : ∀ (M : nM), (∀ k, k ≠ 102 → k ≠ 103 → k ≠ 104 → M k = M0 k) → ∀ i, i < ps.length → fX7_cell G 26 (nI i) (0 : Int32) M = some (nI (ps.getD i (0, 0)).1, M) ∧ fX7_cell G 26 (nI i) (1 : Int32) M = some (nI (ps.getD i (0, 0)).2, M)) (hf2 : ∀ c, (ps.filter (fun x => x.1 == c)).length ≤ 2) : ∀ (d i f : Nat) (M : nM) (F S : Nat → Nat), i + d = ps.length → d < f → (∀ k, k ≠ 102 → k ≠ 103 → k ≠ 104 → M k = M0 k) → h_G q (ps.take i) F S M → ∃ (F' S' : Nat → Nat) (M' : nM), fX2_gather_105 N G f (nI i) M = some ((), M') ∧ (∀ k, k ≠ 102 → k ≠ 103 → k ≠ 104 → M' k = M0 k) ∧ h_G q ps F' S' M' := by
  intro d
  induction d with
  | zero =>
    intro i f M F S hi hf hM h
    obtain ⟨f, rfl⟩ : ∃ g, f = g + 1 := ⟨f - 1, by omega⟩
    refine ⟨F, S, M, ?_, hM, ?_⟩
    · rw [ga105_eq, hM 26 (by decide) (by decide) (by decide), h3, if_pos (nI_le (by omega) (by omega))]
    · rw [List.take_of_length_le (by omega)] at h
      exact h
  | succ d ih =>
    intro i f M F S hi hf hM h
    obtain ⟨f, rfl⟩ : ∃ g, f = g + 1 := ⟨f - 1, by omega⟩
    have hil : i < ps.length := by omega
    obtain ⟨c1, c2⟩ := hc M hM i hil
    obtain ⟨p1, p2, p3⟩ := hps i hil
    have htk : ps.take (i + 1) = ps.take i ++ [((ps.getD i (0, 0)).1, (ps.getD i (0, 0)).2)] := by
      rw [List.take_succ_eq_append_getElem hil]
      congr 2
      rw [List.getD_eq_getElem?_getD, List.getElem?_eq_getElem hil]
      rfl
    have hlen : ((ps.take i).filter (fun x => x.1 == (ps.getD i (0, 0)).1)).length + 1 ≤ 2 := by
      have h1 : ((ps.take (i + 1)).filter (fun x => x.1 == (ps.getD i (0, 0)).1)).length ≤ (ps.filter (fun x => x.1 == (ps.getD i (0, 0)).1)).length := ((List.take_sublist (i + 1) ps).filter _).length_le
      rw [htk, List.filter_append, List.length_append, List.filter_cons_of_pos (by simp)] at h1
      have h2 := hf2 (ps.getD i (0, 0)).1
      have h3 : ∀ l : List (Nat × Nat), (((ps.getD i (0, 0)).1, (ps.getD i (0, 0)).2) :: l).length = l.length + 1 := fun l => rfl
      rw [h3] at h1
      omega
    obtain ⟨F', S', M', e1, e2, e3⟩ := e_apar (M := M) hq (by rw [hM 101 (by decide) (by decide) (by decide)]; exact h101) p1 p2 p3 h hlen
    rw [← htk] at e3
    have hM' : ∀ k, k ≠ 102 → k ≠ 103 → k ≠ 104 → M' k = M0 k := fun k k1 k2 k3 => by rw [e2 k k1 k2 k3]; exact hM k k1 k2 k3
    obtain ⟨F2, S2, M2, r1, r2, r3⟩ := ih (i + 1) f M' F' S' (by omega) (by omega) hM' e3
    refine ⟨F2, S2, M2, ?_, r2, r3⟩
    rw [ga105_eq, hM 26 (by decide) (by decide) (by decide), h3, if_neg (nI_ge (by omega) (by omega)), c1, Option.bind_some]
    show ((fX7_cell G 26 (nI i) (1 : Int32) M).bind _) = _
    rw [c2, Option.bind_some]
    show ((fX2_addParent (nI (ps.getD i (0, 0)).1) (nI (ps.getD i (0, 0)).2) M).bind _) = _
    rw [e1, Option.bind_some, nI_1]
    exact r1
/-- what a gift allows -/
def h_al (jg : Nat → Nat) (p v : Nat) : Bool := if jg p = 0 then decide (v = 0) else if jg p = 1 then decide (v ≠ 0) else true
def h_am (j : Nat) : Int32 := if j = 0 then 1 else if j = 1 then 6 else 7
theorem h_am_t : ∀ j, j < 3 → ∀ v, v < 3 → bt (h_am j) v = if j = 0 then decide (v = 0) else if j = 1 then decide (v ≠ 0) else true := by decide +kernel
theorem ga49_eq (N f : Nat) (G : nG) (x4 : Int32) (M : nM) : fX2_gather_49 N G (f + 1) x4 M = if (12 : Int32) ≤ x4 then fX2_gather_105 N G N (0 : Int32) M else if (Int32.ofNat 12) ≤ x4 then fX2_gather_105 N G N (0 : Int32) M else n_chk (n_ib 12 x4) (if ¬ (M 43 x4.toNatClampNeg) = 0 then n_chk (n_ib 12 x4) (if ¬ (M 43 x4.toNatClampNeg) = (1 : Int32) then n_chk (n_ib 12 x4) (fX2_gather_49 N G f (x4 + (1 : Int32)) (n_up M 105 x4.toNatClampNeg (7 : Int32))) else n_chk (n_ib 12 x4) (fX2_gather_49 N G f (x4 + (1 : Int32)) (n_up M 105 x4.toNatClampNeg (6 : Int32)))) else n_chk (n_ib 12 x4) (fX2_gather_49 N G f (x4 + (1 : Int32)) (n_up M 105 x4.toNatClampNeg (1 : Int32)))) := rfl
theorem c_ga49 {N : Nat} {G : nG} {M : nM} {jg : Nat → Nat} (hj : ∀ k, k < 12 → jg k < 3 ∧ M 43 k = nI (jg k)) : ∀ (d i f : Nat) (W : Nat → Int32), i + d = 12 → d < f → (∀ k, k < i → W k = h_am (jg k)) → ∃ W' : Nat → Int32, (∀ k, k < 12 → W' k = h_am (jg k)) ∧ fX2_gather_49 N G f (nI i) (n_set M 105 W) = fX2_gather_105 N G N 0 (n_set M 105 W') := by
  intro d
  induction d with
  | zero =>
    intro i f W hi hf hW
    obtain ⟨f, rfl⟩ : ∃ g, f = g + 1 := ⟨f - 1, by omega⟩
    refine ⟨W, fun k hk => hW k (by omega), ?_⟩
    rw [ga49_eq, if_pos (show (12 : Int32) ≤ nI i from nI_le (a := 12) (by omega) (by omega))]
  | succ d ih =>
    intro i f W hi hf hW
    obtain ⟨f, rfl⟩ : ∃ g, f = g + 1 := ⟨f - 1, by omega⟩
    obtain ⟨j1, j2⟩ := hj i (by omega)
    obtain ⟨W', r1, r2⟩ := ih (i + 1) f (upd W i (h_am (jg i))) (by omega) (by omega) (fun k hk => by
      by_cases e : k = i
      · subst e; exact upd_eq
      · rw [upd_ne e]; exact hW k (by omega))
    refine ⟨W', r1, ?_⟩
    have hno : ¬ (12 : Int32) ≤ nI i := nI_ge (b := 12) (by omega) (by decide)
    rw [ga49_eq, if_neg hno, if_neg (show ¬ (Int32.ofNat 12) ≤ nI i from hno), n_ib_nI (show i < 12 by omega) (by decide), n_chk_t, n_chk_t, n_chk_t, n_chk_t, n_chk_t, nI_clamp (show i < 2 ^ 31 by omega), n_set_ne (show (43 : Nat) ≠ 105 by decide), j2, nI_1, n_up_set, n_up_set, n_up_set, ← r2]
    rcases (show jg i = 0 ∨ jg i = 1 ∨ jg i = 2 by omega) with e | e | e
    · rw [e, if_neg (show ¬ ¬ nI 0 = (0 : Int32) by decide)]
      rfl
    · rw [e, if_pos (show ¬ nI 1 = (0 : Int32) by decide), if_neg (show ¬ ¬ nI 1 = (1 : Int32) by decide)]
      rfl
    · rw [e, if_pos (show ¬ nI 2 = (0 : Int32) by decide), if_pos (show ¬ nI 2 = (1 : Int32) by decide)]
      rfl
