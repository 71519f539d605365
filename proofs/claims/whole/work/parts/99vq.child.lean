/-! ===== text: who is whose child ===== -/
def cntP (ps : List (Nat × Nat)) (c : Nat) : Nat := (ps.filter (fun x => x.1 == c)).length
/-- both have the same lines so far -/
def IL (P : Nat) (m : Nat) (C D : nM) : Prop := C 91 3 = nI m ∧ r_wm (C 91 1) (C 91 2) 4 16 ∧ (C 3 6 = nI P ∧ D 107 7 = nI P) ∧ ∃ ps : List (Nat × Nat), ps.length = m ∧ (∀ (i : Nat) (x : Nat × Nat), ps[i]? = some x → C 92 (4 * i) = nI x.1 ∧ C 92 (4 * i + 1) = nI x.2 ∧ x.1 < P ∧ x.2 < P ∧ x.1 ≠ x.2) ∧ (∀ c, c < 12 → ∀ t, bt (D 129 (12 + c)) t = true ↔ (c, t) ∈ ps) ∧ (∀ c, c < 12 → D 130 c = nI (cntP ps c)) ∧ ∀ c, cntP ps c ≤ 2
theorem lc_eq (N f : Nat) (G : nG) (x1 x2 x3 : Int32) (M : nM) : fX6_linesOfChild_4 N G (f + 1) x1 x2 x3 M = if (M 91 3) ≤ x3 then some (x2, M) else (fX7_cell G 91 x3 (0 : Int32) M).bind fun p1 => if ¬ p1.1 = x1 then fX6_linesOfChild_4 N G f x1 x2 (x3 + (1 : Int32)) p1.2 else fX6_linesOfChild_4 N G f x1 (x2 + (1 : Int32)) (x3 + (1 : Int32)) p1.2 := rfl
theorem c_loc {N P c : Nat} {G : nG} {M : nM} {ps : List (Nat × Nat)} (hG : n_GOK G) (h3 : M 91 3 = nI ps.length) (hl : ps.length ≤ 16) (hw : r_wm (M 91 1) (M 91 2) 4 16) (hP : P ≤ 12) (hc : c < 100000) (hp : ∀ (i : Nat) (x : Nat × Nat), ps[i]? = some x → M 92 (4 * i) = nI x.1 ∧ x.1 < P) : ∀ (d i f a : Nat), i + d = ps.length → d < f → fX6_linesOfChild_4 N G f (nI c) (nI a) (nI i) M = some (nI (a + cntP (ps.drop i) c), M) := by
  intro d
  induction d with
  | zero =>
    intro i f a hi hf
    obtain ⟨f, rfl⟩ : ∃ g, f = g + 1 := ⟨f - 1, by omega⟩
    rw [lc_eq, h3, if_pos (nI_le (by omega) (by omega)), List.drop_of_length_le (by omega)]
    rfl
  | succ d ih =>
    intro i f a hi hf
    obtain ⟨f, rfl⟩ : ∃ g, f = g + 1 := ⟨f - 1, by omega⟩
    obtain ⟨x, hx⟩ : ∃ x, ps[i]? = some x := ⟨ps[i]'(by omega), List.getElem?_eq_getElem (by omega)⟩
    obtain ⟨x1, x2⟩ := hp i x hx
    have hd : ps.drop i = x :: ps.drop (i + 1) := by
      rw [List.drop_eq_getElem_cons (by omega)]
      congr 1
      exact Option.some.inj ((List.getElem?_eq_getElem (by omega)).symm.trans hx)
    have g0 : fX7_cell G 91 (nI i) (0 : Int32) M = some (nI x.1, M) := by
      have := e_cell (W := 4) (H := 16) (i := i) (j := 0) (gk91 hG) (gm91_0 hG) (gk92 hG) (gl92 hG) hw (by decide) (by decide) (by decide) (by omega) (by decide)
      rw [show i * 4 + 0 = 4 * i by omega, x1] at this
      exact this
    rw [lc_eq, h3, if_neg (nI_ge (by omega) (by omega)), g0, Option.bind_some, nI_1, nI_1, hd]
    unfold cntP
    by_cases z : x.1 = c
    · rw [if_neg (not_not_intro (congrArg nI z)), List.filter_cons_of_pos (by rw [beq_iff_eq]; exact z), List.length_cons]
      have := ih (i + 1) f (a + 1) (by omega) (by omega)
      unfold cntP at this
      rw [show a + ((ps.drop (i + 1)).filter (fun x => x.1 == c)).length.succ = a + 1 + ((ps.drop (i + 1)).filter (fun x => x.1 == c)).length by omega]
      exact this
    · rw [if_pos (fun q => z ((nI_eq (by omega) (by omega)).mp q)), List.filter_cons_of_neg (by rw [beq_iff_eq]; exact z)]
      exact ih (i + 1) f a (by omega) (by omega)
theorem cnt_in {ps : List (Nat × Nat)} {c : Nat} (h : 1 ≤ cntP ps c) : ∃ (i : Nat) (x : Nat × Nat), ps[i]? = some x ∧ x.1 = c := by
  unfold cntP at h
  cases hl : ps.filter (fun x => x.1 == c) with
  | nil =>
    rw [hl] at h
    exact absurd h (by decide)
  | cons x t =>
    have hm : x ∈ ps.filter (fun x => x.1 == c) := by rw [hl]; exact List.mem_cons_self
    obtain ⟨m1, m2⟩ := List.mem_filter.mp hm
    obtain ⟨i, hi⟩ := List.mem_iff_getElem?.mp m1
    exact ⟨i, x, hi, by rw [beq_iff_eq] at m2; exact m2⟩
theorem cnt_s {ps : List (Nat × Nat)} {a b c : Nat} : cntP (ps ++ [(a, b)]) c = cntP ps c + (if a = c then 1 else 0) := by
  unfold cntP
  rw [List.filter_append, List.length_append]
  congr 1
  by_cases z : a = c
  · rw [if_pos z, List.filter_cons_of_pos (by rw [beq_iff_eq]; exact z)]; rfl
  · rw [if_neg z, List.filter_cons_of_neg (by rw [beq_iff_eq]; exact z)]; rfl
theorem ch_eq (N : Nat) (G : nG) (M : nM) : fX6_childLine N G M = (fX6_step M).bind fun p1 => n_chk (n_ib 401 (p1.2 80 6)) (if ¬ (p1.2 82 (p1.2 80 6).toNatClampNeg) = (2 : Int32) then fX6_childLine_40 N G p1.2 else n_chk (n_ib 401 (p1.2 80 6)) ((fX6_linesOfChild N G (p1.2 83 (p1.2 80 6).toNatClampNeg) p1.2).bind fun p2 => if p2.1 < (2 : Int32) then fX6_childLine_40 N G p2.2 else ((fX6_blame (2 : Int32) p2.2).bind fun p => n_chk (p.1 == 0 || p.1 == 1) (some (p.1, p.2))))) := rfl
theorem ch40_eq (N : Nat) (G : nG) (M : nM) : fX6_childLine_40 N G M = nbS (M 3 6) (fun a M => (fX6_expect (154 : Int32) M).bind fun p2 => if p2.1 = 0 then some ((0 : Int32), p2.2) else exX (155 : Int32) (fun M => n_chk (n_ib 401 (M 80 6)) (if ¬ (M 82 (M 80 6).toNatClampNeg) = (2 : Int32) then fX6_childLine_111 N G a M else n_chk (n_ib 401 (M 80 6)) (if ¬ (M 83 (M 80 6).toNatClampNeg) = a then fX6_childLine_111 N G a M else ((fX6_blame (2 : Int32) M).bind fun p => n_chk (p.1 == 0 || p.1 == 1) (some (p.1, p.2)))))) p2.2) M := rfl
theorem ch111_eq (N : Nat) (G : nG) (x1 : Int32) (M : nM) : fX6_childLine_111 N G x1 M = nbS (M 3 6) (fun y M => exX (59 : Int32) (fun M => (fX7_add G 91 x1 y (0 : Int32) (0 : Int32) M).bind fun p => some ((1 : Int32), p.2)) M) M := rfl
/-! the model -/
theorem chm_eq (N : Nat) (M : nM) : fX12_readChild N M = (fX12_isWord (19 : Int32) M).bind fun p1 => if ¬ p1.1 = 0 then (fX12_reads_all N p1.2).bind fun p2 => if ¬ (p2.2 107 18) = (3 : Int32) then fX12_readChild_57 N p2.2 else if (p2.2 107 7) ≤ (p2.2 107 19) then fX12_readChild_57 N p2.2 else n_chk (n_ib 12 (p2.2 107 19)) (if ¬ (p2.2 130 (p2.2 107 19).toNatClampNeg) = (2 : Int32) then fX12_readChild_57 N p2.2 else ((fX12_errs (2 : Int32) p2.2).bind fun p => some (p.1, p.2))) else ((fX12_errs (1 : Int32) p1.2).bind fun p => some (p.1, p.2)) := rfl
theorem cm57_eq (N : Nat) (M : nM) : fX12_readChild_57 N M = (fX12_readNumber N (0 : Int32) ((M 107 7) - (1 : Int32)) M).bind fun p1 => if ¬ p1.1 = (-1 : Int32) then n_chk (n_ib 12 p1.1) (n_chk (n_ib 12 p1.1) ((fX12_isWord (26 : Int32) (n_up p1.2 130 p1.1.toNatClampNeg ((p1.2 130 p1.1.toNatClampNeg) + (1 : Int32)))).bind fun p3 => if ¬ p3.1 = 0 then (fX12_reads_all N p3.2).bind fun p4 => (fX12_isWord (27 : Int32) p4.2).bind fun p5 => if ¬ p5.1 = 0 then (fX12_reads_all N p5.2).bind fun p6 => if ¬ (p6.2 107 18) = (3 : Int32) then fX12_readChild_150 N p1.1 p6.2 else if ¬ (p6.2 107 19) = p1.1 then fX12_readChild_150 N p1.1 p6.2 else ((fX12_errs (2 : Int32) p6.2).bind fun p => some (p.1, p.2)) else ((fX12_errs (1 : Int32) p5.2).bind fun p => some (p.1, p.2)) else ((fX12_errs (1 : Int32) p3.2).bind fun p => some (p.1, p.2)))) else some ((-1 : Int32), p1.2) := rfl
theorem cm150_eq (N : Nat) (x1 : Int32) (M : nM) : fX12_readChild_150 N x1 M = (fX12_readNumber N (0 : Int32) ((M 107 7) - (1 : Int32)) M).bind fun p1 => if ¬ p1.1 = (-1 : Int32) then n_chk (n_ib 24 ((12 : Int32) + x1)) (n_chk (n_ib 24 ((12 : Int32) + x1)) ((fX12_readMark N (59 : Int32) (n_up p1.2 129 ((12 : Int32) + x1).toNatClampNeg ((p1.2 129 ((12 : Int32) + x1).toNatClampNeg) ||| ((1 : Int32) <<< (p1.1 &&& 31))))).bind fun p3 => some (p3.1, p3.2))) else some ((-1 : Int32), p1.2) := rfl
/-- the parent, and the line's end -/
theorem c_chE {b : Nat → Nat} {k n N P m j j' a : Nat} {v : Int32} {G : nG} {C D D1 : nM} (hN : 1000 ≤ N) (hG : n_GOK G) (hT : MT b k n) (hP : P ≤ 12) (hm : m < 16) (hj : j < j') (hj' : j' ≤ n) (hB : CB (tkT b k) n C) (hM : MB b k D) (hI : IL P m C D) (ha : a < P) (hne : isN (tkT b k) j' → (tkT b k j').2.1 ≠ a) (hcn : ∀ ps : List (Nat × Nat), ps.length = m → (∀ (i : Nat) (x : Nat × Nat), ps[i]? = some x → C 92 (4 * i) = nI x.1 ∧ C 92 (4 * i + 1) = nI x.2 ∧ x.1 < P ∧ x.2 < P ∧ x.1 ≠ x.2) → (∀ c, c < 12 → D 130 c = nI (cntP ps c)) → cntP ps a < 2) (hD1 : D1 = n_up D 130 a (D 130 a + 1)) : lnE b k n v (fX6_childLine_111 N G (nI a) (cs C j' [])) (fX12_readChild_150 N (nI a) (ms b k v D1 j' [])) j C D (IL P (m + 1)) := by
  obtain ⟨h, h1⟩ := id hT
  have hn := h.1
  obtain ⟨i1, i2, ⟨i4, i6⟩, ps, p1, p2, p3, p4, p5⟩ := id hI
  have F1 : FM D D1 := by rw [hD1]; exact FM_u (Or.inr (Or.inr rfl))
  have hM1 := FM_M F1 hM
  have e71 : D1 107 = D 107 := by rw [hD1, n_up_ne (by decide)]
  have c36 : cs C j' [] 3 6 = nI P := by rw [cs_o (by decide) (by decide) (by decide)]; exact i4
  rw [ch111_eq, cm150_eq, c36, ms_7o (by omega) (by decide), e71, i6]
  by_cases s5 : eN (tkT b k) (bel P) j' = 0
  case neg =>
    rw [nbS_1 h hB hj' (by omega) s5, mN1 hT hj' (by omega) s5, Option.bind_some, if_neg (show ¬ ¬ (-1 : Int32) = -1 by decide)]
    exact Or.inl ⟨_, _, C, _, rfl, rfl, FC_r _, F1⟩
  have l5 := tk_N h hj' (eN_x s5).1
  have v5 : (tkT b k j').2.1 < P := of_decide_eq_true (eN_x s5).2
  have hne' := hne (eN_x s5).1
  have a12 : (12 : Int32) + nI a = nI (12 + a) := nI_add 12 a
  rw [nbS_0 h hB hj' (by omega) s5, mN0 hN hT hM1 hj' (by omega) s5, Option.bind_some, if_pos (nI_nm1 (by omega)), a12, n_ib_nI (show 12 + a < 24 by omega) (by decide), n_chk_t, n_chk_t, nI_clamp (show 12 + a < 2 ^ 31 by omega)]
  show lnE b k n v _ ((fX12_readMark N (59 : Int32) (n_up (ms b k v D1 (j' + 1) []) 129 (12 + a) ((ms b k v D1 (j' + 1) [] 129 (12 + a)) ||| ((1 : Int32) <<< (nI (tkT b k j').2.1 &&& 31))))).bind fun p3 => some (p3.1, p3.2)) j C D (IL P (m + 1))
  rw [ms_o (show 129 ≠ 107 by decide) (by decide) (by decide), ms_up (by decide) (by decide) (fun q => absurd q (by decide)), show (59 : Int32) = nI 59 from rfl]
  obtain ⟨D2, hD2⟩ : ∃ D2, D2 = n_up D1 129 (12 + a) (D1 129 (12 + a) ||| ((1 : Int32) <<< (nI (tkT b k j').2.1 &&& 31))) := ⟨_, rfl⟩
  have F2 : FM D D2 := by rw [hD2]; exact FM_t F1 (FM_u (Or.inr (Or.inl ⟨rfl, by omega⟩)))
  have hM2 := FM_M F2 hM
  rw [← hD2]
  by_cases s8 : eS (tkT b k) 59 (j' + 1) = 0
  case neg =>
    rw [exS_1 h hB l5 (by decide) (by decide) s8, mS1 hT l5 (by decide) s8]
    exact Or.inl ⟨_, _, C, _, rfl, rfl, FC_r _, F2⟩
  have l8 := tk_S h l5 (eS_x s8)
  rw [exS_0 h hB l5 (by decide) (by decide) s8, mS0 hN hT hM2 l5 (by decide) s8, e_addR hG i2 i1 hm]
  have e74 : D2 107 = D 107 := by rw [hD2, n_up_ne (by decide)]; exact e71
  refine Or.inr ⟨_, _, D2, by omega, l8, rfl, rfl, FC_add, F2, add4_c, ?_, ⟨?_, ?_⟩, ps ++ [(a, (tkT b k j').2.1)], ?_, ?_, fun c hc t => ?_, fun c hc => ?_, fun c => ?_⟩
  · rw [add4_w (by decide), add4_w (by decide)]; exact i2
  · rw [FC_add.1 3 (by decide) (by omega)]; exact i4
  · rw [e74]; exact i6
  · rw [List.length_append, p1]; rfl
  · refine l_snoc (fun i x hx => ?_) ?_
    · have hi := l_lt hx
      rw [add4_lt (by omega), add4_lt (by omega)]
      exact p2 i x hx
    · rw [p1]
      exact ⟨add4_0, add4_1, ha, v5, fun q => hne' q.symm⟩
  · rw [hD2, n_up_eq]
    have e29 : D1 129 = D 129 := by rw [hD1, n_up_ne (by decide)]
    rw [e29, List.mem_append, List.mem_singleton]
    by_cases z : c = a
    · subst z
      rw [upd_eq, b_set (by omega), Bool.or_eq_true, p3 c hc t, decide_eq_true_eq]
      exact ⟨fun q => q.elim Or.inl (fun q => Or.inr (by rw [q])), fun q => q.elim Or.inl (fun q => Or.inr (congrArg Prod.snd q))⟩
    · rw [upd_ne (by omega), p3 c hc t]
      exact ⟨Or.inl, fun q => q.elim id (fun q => absurd (congrArg Prod.fst q) z)⟩
  · rw [hD2, n_up_ne (by decide), hD1, n_up_eq, cnt_s]
    by_cases z : a = c
    · subst z
      rw [upd_eq, p4 a hc, nI_1, if_pos rfl]
    · rw [upd_ne (fun q => z q.symm), if_neg z]
      exact p4 c hc
  · rw [cnt_s]
    by_cases z : a = c
    · subst z
      have := hcn ps p1 p2 p4
      rw [if_pos rfl]; omega
    · rw [if_neg z]
      exact p5 c
theorem c_chi {b : Nat → Nat} {k n N P m j : Nat} {v : Int32} {G : nG} {C D : nM} (hN : 1000 ≤ N) (hG : n_GOK G) (hT : MT b k n) (hP : P ≤ 12) (hm : m < 16) (hj : j < n) (hw : isW (tkT b k) j 19) (hB : CB (tkT b k) n C) (hM : MB b k D) (hI : IL P m C D) : lnB b k n v (lnT N G 3) (fun M => fX12_readChild N M) j C D (IL P (m + 1)) := by
  obtain ⟨h, h1⟩ := id hT
  have hn := h.1
  obtain ⟨i1, i2, ⟨i4, i6⟩, ps, p1, p2, p3, p4, p5⟩ := id hI
  show lnE b k n v (fX6_childLine N G (cs C j [])) (fX12_readChild N (ms b k v D j [])) j C D (IL P (m + 1))
  have c36 : ∀ t, cs C t [] 3 6 = nI P := fun t => by rw [cs_o (by decide) (by decide) (by decide)]; exact i4
  have M7 : ∀ t, ms b k v D t [] 107 7 = nI P := fun t => by rw [ms_7o (by omega) (by decide)]; exact i6
  -- behind the two first tests
  have key : (isN (tkT b k) (j + 1) → cntP ps (tkT b k (j + 1)).2.1 < 2) → lnE b k n v (fX6_childLine_40 N G (cs C (j + 1) [])) (fX12_readChild_57 N (ms b k v D (j + 1) [])) j C D (IL P (m + 1)) := fun hcn => by
    rw [ch40_eq, cm57_eq, c36, M7]
    by_cases s1 : eN (tkT b k) (bel P) (j + 1) = 0
    case neg =>
      rw [nbS_1 h hB hj (by omega) s1, mN1 hT hj (by omega) s1, Option.bind_some, if_neg (show ¬ ¬ (-1 : Int32) = -1 by decide)]
      exact Or.inl ⟨_, _, C, _, rfl, rfl, FC_r _, FM_r _⟩
    have l1 := tk_N h (show j + 1 ≤ n from hj) (eN_x s1).1
    have v1 : (tkT b k (j + 1)).2.1 < P := of_decide_eq_true (eN_x s1).2
    have hc1 := hcn (eN_x s1).1
    obtain ⟨a, ha⟩ : ∃ a, a = (tkT b k (j + 1)).2.1 := ⟨_, rfl⟩
    rw [nbS_0 h hB (show j + 1 ≤ n from hj) (by omega) s1, mN0 hN hT hM (show j + 1 ≤ n from hj) (by omega) s1, Option.bind_some, if_pos (nI_nm1 (by omega))]
    rw [← ha] at v1 hc1 ⊢
    obtain ⟨D1, hD1⟩ : ∃ D1, D1 = n_up D 130 a (D 130 a + 1) := ⟨_, rfl⟩
    have F1 : FM D D1 := by rw [hD1]; exact FM_u (Or.inr (Or.inr rfl))
    have hM1 := FM_M F1 hM
    rw [n_ib_nI (show a < 12 by omega) (by decide), n_chk_t, n_chk_t, nI_clamp (show a < 2 ^ 31 by omega)]
    show lnE b k n v _ ((fX12_isWord (26 : Int32) (n_up (ms b k v D (j + 1 + 1) []) 130 a ((ms b k v D (j + 1 + 1) [] 130 a) + (1 : Int32)))).bind fun p3 => if ¬ p3.1 = 0 then (fX12_reads_all N p3.2).bind fun p4 => (fX12_isWord (27 : Int32) p4.2).bind fun p5 => if ¬ p5.1 = 0 then (fX12_reads_all N p5.2).bind fun p6 => if ¬ (p6.2 107 18) = (3 : Int32) then fX12_readChild_150 N (nI a) p6.2 else if ¬ (p6.2 107 19) = nI a then fX12_readChild_150 N (nI a) p6.2 else ((fX12_errs (2 : Int32) p6.2).bind fun p => some (p.1, p.2)) else ((fX12_errs (1 : Int32) p5.2).bind fun p => some (p.1, p.2)) else ((fX12_errs (1 : Int32) p3.2).bind fun p => some (p.1, p.2))) j C D (IL P (m + 1))
    rw [ms_o (show 130 ≠ 107 by decide) (by decide) (by decide), ms_up (by decide) (by decide) (fun q => absurd q (by decide)), ← hD1, show (26 : Int32) = nI 26 from rfl, e_mW h l1 (by decide), Option.bind_some, kw_j.2.2.2.2.2.2.2.2.2.1, kw_j.2.2.2.2.2.2.2.2.2.2]
    -- child
    by_cases s2 : eW (tkT b k) 26 (j + 1 + 1) = 0
    case neg =>
      obtain ⟨z, y⟩ := eW_n s2
      rw [cW1 h hB l1 (by decide) s2, Option.bind_some, if_pos rfl, decide_eq_false z, if_neg (show ¬ ¬ (cb false : Int32) = 0 by decide), y]
      exact Or.inl ⟨1, _, C, _, rfl, e_ers2 1, FC_r _, F1⟩
    obtain ⟨w2, l2⟩ := cW0 (c := []) h hB l1 (by decide) s2
    rw [w2, Option.bind_some, if_neg (show ¬ (1 : Int32) = 0 by decide), decide_eq_true (eW_x s2), if_pos (show ¬ (cb true : Int32) = 0 by decide)]
    show lnE b k n v _ ((fX12_reads_all N (ms b k v D1 (j + 1 + 1) [])).bind _) j C D (IL P (m + 1))
    rw [e_rds hN h1 hM1 l1, nx_l l2, Option.bind_some]
    show lnE b k n v _ ((fX12_isWord (27 : Int32) (ms b k v D1 (j + 1 + 1 + 1) [])).bind _) j C D (IL P (m + 1))
    rw [show (27 : Int32) = nI 27 from rfl, e_mW h l2 (by decide), Option.bind_some]
    -- of
    by_cases s3 : eW (tkT b k) 27 (j + 1 + 1 + 1) = 0
    case neg =>
      obtain ⟨z, y⟩ := eW_n s3
      rw [exW_1 h hB l2 (by decide) s3, decide_eq_false z, if_neg (show ¬ ¬ (cb false : Int32) = 0 by decide), y]
      exact Or.inl ⟨1, _, C, _, rfl, e_ers2 1, FC_r _, F1⟩
    have l3 := tk_W h l2 (eW_x s3)
    rw [exW_0 h hB l2 (by decide) s3, decide_eq_true (eW_x s3), if_pos (show ¬ (cb true : Int32) = 0 by decide)]
    show lnE b k n v _ ((fX12_reads_all N (ms b k v D1 (j + 1 + 1 + 1) [])).bind _) j C D (IL P (m + 1))
    rw [e_rds hN h1 hM1 l2, nx_l l3, Option.bind_some]
    show lnE b k n v _ (if ¬ (ms b k v D1 (j + 1 + 1 + 1 + 1) [] 107 18) = (3 : Int32) then fX12_readChild_150 N (nI a) (ms b k v D1 (j + 1 + 1 + 1 + 1) []) else if ¬ (ms b k v D1 (j + 1 + 1 + 1 + 1) [] 107 19) = nI a then fX12_readChild_150 N (nI a) (ms b k v D1 (j + 1 + 1 + 1 + 1) []) else ((fX12_errs (2 : Int32) (ms b k v D1 (j + 1 + 1 + 1 + 1) [])).bind fun p => some (p.1, p.2))) j C D (IL P (m + 1))
    rw [e_chk h l3, e_82 h hB l3]
    have hfin : (isN (tkT b k) (j + 1 + 1 + 1 + 1) → (tkT b k (j + 1 + 1 + 1 + 1)).2.1 ≠ a) → lnE b k n v (fX6_childLine_111 N G (nI a) (cs C (j + 1 + 1 + 1 + 1) [])) (fX12_readChild_150 N (nI a) (ms b k v D1 (j + 1 + 1 + 1 + 1) [])) j C D (IL P (m + 1)) := fun hne => by
      refine c_chE hN hG hT hP hm (by omega) l3 hB hM hI v1 hne (fun ps' q1 q2 q3 => ?_) hD1
      have e1 : nI (cntP ps' a) = nI (cntP ps a) := (q3 a (by omega)).symm.trans (p4 a (by omega))
      have b1 : cntP ps' a ≤ 16 := by
        have : cntP ps' a ≤ ps'.length := List.length_filter_le _ _
        omega
      have := (nI_eq (by omega) (by have := p5 a; omega)).mp e1
      omega
    by_cases z : isN (tkT b k) (j + 1 + 1 + 1 + 1)
    · have z' : (tkT b k (j + 1 + 1 + 1 + 1)).1 = 3 := z
      have hv4 := (h.2 (j + 1 + 1 + 1 + 1) l3).2.2.2.1 z
      rw [if_neg (not_not_intro ((kd_N h l3).mpr z)), if_neg (not_not_intro ((e_mN h l3).mpr z)), e_chk h l3, e_83 h hB l3 z, ms_19, tkw_v (by omega)]
      by_cases y : (tkT b k (j + 1 + 1 + 1 + 1)).2.1 = a
      · rw [if_neg (not_not_intro (congrArg nI y)), if_neg (not_not_intro (congrArg nI y)), e_blm22 h hB l3]
        exact Or.inl ⟨2, _, C, _, rfl, e_ers2 2, FC_r _, F1⟩
      · rw [if_pos (fun q => y ((nI_eq (by omega) (by omega)).mp q)), if_pos (fun q => y ((nI_eq (by omega) (by omega)).mp q))]
        exact hfin (fun _ => y)
    · rw [if_pos (fun q => z ((kd_N h l3).mp q)), if_pos (fun q => z ((e_mN h l3).mp q))]
      exact hfin (fun q => absurd q z)
  rw [ch_eq, chm_eq, e_stp h hB (by omega), nx_l hj, Option.bind_some, show (19 : Int32) = nI 19 from rfl, e_mW h (by omega) (by decide), decide_eq_true hw, Option.bind_some, if_pos (show ¬ (cb true : Int32) = 0 by decide)]
  show lnE b k n v _ ((fX12_reads_all N (ms b k v D j [])).bind _) j C D (IL P (m + 1))
  rw [e_rds hN h1 hM (by omega), nx_l hj, Option.bind_some]
  show lnE b k n v (n_chk (n_ib 401 (cs C (j + 1) [] 80 6)) (if ¬ (cs C (j + 1) [] 82 (cs C (j + 1) [] 80 6).toNatClampNeg) = (2 : Int32) then fX6_childLine_40 N G (cs C (j + 1) []) else n_chk (n_ib 401 (cs C (j + 1) [] 80 6)) ((fX6_linesOfChild N G (cs C (j + 1) [] 83 (cs C (j + 1) [] 80 6).toNatClampNeg) (cs C (j + 1) [])).bind fun p2 => if p2.1 < (2 : Int32) then fX6_childLine_40 N G p2.2 else ((fX6_blame (2 : Int32) p2.2).bind fun p => n_chk (p.1 == 0 || p.1 == 1) (some (p.1, p.2)))))) (if ¬ (ms b k v D (j + 1) [] 107 18) = (3 : Int32) then fX12_readChild_57 N (ms b k v D (j + 1) []) else if (ms b k v D (j + 1) [] 107 7) ≤ (ms b k v D (j + 1) [] 107 19) then fX12_readChild_57 N (ms b k v D (j + 1) []) else n_chk (n_ib 12 (ms b k v D (j + 1) [] 107 19)) (if ¬ (ms b k v D (j + 1) [] 130 (ms b k v D (j + 1) [] 107 19).toNatClampNeg) = (2 : Int32) then fX12_readChild_57 N (ms b k v D (j + 1) []) else ((fX12_errs (2 : Int32) (ms b k v D (j + 1) [])).bind fun p => some (p.1, p.2)))) j C D (IL P (m + 1))
  rw [e_chk h hj, e_82 h hB hj]
  by_cases z : isN (tkT b k) (j + 1)
  · have z' : (tkT b k (j + 1)).1 = 3 := z
    have hv1 := (h.2 (j + 1) hj).2.2.2.1 z
    have hlo : fX6_linesOfChild N G (nI (tkT b k (j + 1)).2.1) (cs C (j + 1) []) = some (nI (cntP ps (tkT b k (j + 1)).2.1), cs C (j + 1) []) := by
      have t := c_loc (N := N) (P := P) (c := (tkT b k (j + 1)).2.1) (G := G) (M := cs C (j + 1) []) (ps := ps) hG (by rw [cs_o (by decide) (by decide) (by decide), i1, p1]) (by omega) (by rw [cs_o (by decide) (by decide) (by decide)]; exact i2) hP (by omega) (fun i x hx => by rw [cs_o (by decide) (by decide) (by decide)]; exact ⟨(p2 i x hx).1, (p2 i x hx).2.2.1⟩) m 0 N 0 (by omega) (by omega)
      rw [Nat.zero_add, List.drop_zero] at t
      exact t
    rw [if_neg (not_not_intro ((kd_N h hj).mpr z)), if_neg (not_not_intro ((e_mN h hj).mpr z)), e_chk h hj, e_83 h hB hj z, hlo, Option.bind_some, M7, ms_19, tkw_v (by omega)]
    have h2 := p5 (tkT b k (j + 1)).2.1
    by_cases y : cntP ps (tkT b k (j + 1)).2.1 < 2
    · rw [if_pos (show nI (cntP ps (tkT b k (j + 1)).2.1) < (2 : Int32) from nI_lt (b := 2) y (by decide))]
      by_cases x : P ≤ (tkT b k (j + 1)).2.1
      · rw [if_pos (nI_le x (by omega))]
        exact key (fun _ => y)
      · rw [if_neg (nI_ge (by omega) (by omega)), n_ib_nI (show (tkT b k (j + 1)).2.1 < 12 by omega) (by decide), n_chk_t, nI_clamp (show (tkT b k (j + 1)).2.1 < 2 ^ 31 by omega), ms_o (by decide) (by decide) (by decide), p4 _ (by omega), if_pos (show ¬ nI (cntP ps (tkT b k (j + 1)).2.1) = (2 : Int32) from fun q => by have := (nI_eq (b := 2) (by omega) (by decide)).mp q; omega)]
        exact key (fun _ => y)
    · obtain ⟨i, x, x1, x2⟩ := cnt_in (ps := ps) (c := (tkT b k (j + 1)).2.1) (by omega)
      have hlt : (tkT b k (j + 1)).2.1 < P := by rw [← x2]; exact (p2 i x x1).2.2.1
      rw [if_neg (show ¬ nI (cntP ps (tkT b k (j + 1)).2.1) < (2 : Int32) from nI_nlt (b := 2) (by omega) (by omega)), if_neg (nI_ge hlt (by omega)), n_ib_nI (show (tkT b k (j + 1)).2.1 < 12 by omega) (by decide), n_chk_t, nI_clamp (show (tkT b k (j + 1)).2.1 < 2 ^ 31 by omega), ms_o (by decide) (by decide) (by decide), p4 _ (by omega), if_neg (not_not_intro (show nI (cntP ps (tkT b k (j + 1)).2.1) = (2 : Int32) by rw [show cntP ps (tkT b k (j + 1)).2.1 = 2 by omega]; rfl)), e_blm22 h hB hj]
      exact Or.inl ⟨2, _, C, D, rfl, e_ers2 2, FC_r _, FM_r _⟩
  · rw [if_pos (fun q => z ((kd_N h hj).mp q)), if_pos (fun q => z ((e_mN h hj).mp q))]
    exact key (fun q => absurd q z)
