/-! ===== text: the model reads a condition ===== -/
theorem c_136M {b : Nat → Nat} {k n N j s : Nat} {v : Int32} {M0 : nM} {c : List lOp} (hN : 1000 ≤ N) (hT : MT b k n) (hM : MB b k M0) (hj : j ≤ n) (hs : isS (tkT b k) j s) (hs3 : s = 60 ∨ s = 61 ∨ s = 62) (hc : lm c ≤ j) : fX12_readCompared_43 N (ms b k v M0 j (l_mods c)) = mR b k v M0 (rb (sp_su (tkT b k) (j + 1) c) (fun j2 c2 => .inr (j2, c2 ++ [(if s = 60 then 7 else if s = 61 then 8 else 9, 0)]))) := by
  obtain ⟨h, h1⟩ := id hT
  have hn := h.1
  have hl := tk_S h hj hs
  have key : ∀ O : Nat, (O = 7 ∨ O = 8 ∨ O = 9) → fX12_readCompared_73 N (nI (l_mo O)) (ms b k v M0 j (l_mods c)) = mR b k v M0 (rb (sp_su (tkT b k) (j + 1) c) (fun j2 c2 => .inr (j2, c2 ++ [(O, 0)]))) := fun O hO => by
    unfold fX12_readCompared_73
    rw [e_rds hN h1 hM hj, nx_l hl, Option.bind_some]
    show ((fX12_readSum N (ms b k v M0 (j + 1) (l_mods c))).bind _) = _
    rw [e_suM hN hT hM hl (by omega)]
    have g := sp_su_g (c := c) h (show j + 1 ≤ n by omega)
    cases hr : sp_su (tkT b k) (j + 1) c with
    | inl x => rw [rb_l, mR_l, Option.bind_some, if_neg (show ¬ ¬ (-1 : Int32) = -1 by decide)]
    | inr x =>
      obtain ⟨j1, c1⟩ := x
      obtain ⟨g1, g2, D1, g3, g4, g5⟩ := g j1 c1 hr
      have hc1 : lm c1 + 1 ≤ j1 := by rw [g3, lm_a]; omega
      have hc2 : (l_mods c1).length + 1 ≤ j1 := hc1
      rw [rb_r, mR_r, Option.bind_some, if_pos (show ¬ (0 : Int32) = -1 by decide)]
      show ((fX12_emits (nI (l_mo O)) (0 : Int32) (ms b k v M0 j1 (l_mods c1))).bind _) = _
      rw [show (0 : Int32) = nI 0 from rfl, e_emM (by omega), Option.bind_some, mR_r, lmo (by omega)]
      rfl
  unfold fX12_readCompared_43
  rw [ms_19, tkw_v (by have := hs.1; omega), hs.2]
  rcases hs3 with q | q | q
  · subst q
    rw [if_neg (show ¬ ¬ nI 60 = (60 : Int32) by decide), if_pos rfl]
    exact key 7 (Or.inl rfl)
  · subst q
    rw [if_pos (show ¬ nI 61 = (60 : Int32) by decide), if_neg (show ¬ ¬ nI 61 = (61 : Int32) by decide), if_neg (by decide), if_pos rfl]
    exact key 8 (Or.inr (Or.inl rfl))
  · subst q
    rw [if_pos (show ¬ nI 62 = (60 : Int32) by decide), if_pos (show ¬ nI 62 = (61 : Int32) by decide), if_neg (by decide), if_neg (by decide)]
    exact key 9 (Or.inr (Or.inr rfl))
theorem e_cmM {b : Nat → Nat} {k n N j : Nat} {v : Int32} {M0 : nM} {c : List lOp} (hN : 1000 ≤ N) (hT : MT b k n) (hM : MB b k M0) (hj : j ≤ n) (hc : lm c ≤ j) : fX12_readCompared N (ms b k v M0 j (l_mods c)) = mR b k v M0 (sp_cm (tkT b k) j c) := by
  obtain ⟨h, h1⟩ := id hT
  have hn := h.1
  unfold fX12_readCompared sp_cm
  rw [e_suM hN hT hM hj hc]
  have g := sp_su_g (c := c) h hj
  cases hr : sp_su (tkT b k) j c with
  | inl x => rw [rb_l, mR_l, Option.bind_some, if_neg (show ¬ ¬ (-1 : Int32) = -1 by decide)]
  | inr x =>
    obtain ⟨j1, c1⟩ := x
    obtain ⟨g1, g2, D1, g3, g4, g5⟩ := g j1 c1 hr
    have hc1 : lm c1 ≤ j1 := by rw [g3, lm_a]; omega
    rw [rb_r, mR_r, Option.bind_some, if_pos (show ¬ (0 : Int32) = -1 by decide)]
    have go : ∀ s, (s = 60 ∨ s = 61 ∨ s = 62) → isS (tkT b k) j1 s → fX12_readCompared_43 N (ms b k v M0 j1 (l_mods c1)) = mR b k v M0 (if isS (tkT b k) j1 60 ∨ isS (tkT b k) j1 61 ∨ isS (tkT b k) j1 62 then rb (sp_su (tkT b k) (j1 + 1) c1) (fun j2 c2 => .inr (j2, c2 ++ [(if (tkT b k j1).2.1 = 60 then 7 else if (tkT b k j1).2.1 = 61 then 8 else 9, 0)])) else .inl (1, j1, c1)) := fun s hs3 hs => by
      rw [if_pos (show isS (tkT b k) j1 60 ∨ isS (tkT b k) j1 61 ∨ isS (tkT b k) j1 62 by
        rcases hs3 with q | q | q
        · exact Or.inl (by rw [← q]; exact hs)
        · exact Or.inr (Or.inl (by rw [← q]; exact hs))
        · exact Or.inr (Or.inr (by rw [← q]; exact hs))), hs.2]
      exact c_136M hN hT hM g2 hs hs3 hc1
    show ((fX12_isSign (60 : Int32) (ms b k v M0 j1 (l_mods c1))).bind _) = _
    rw [show (60 : Int32) = nI 60 from rfl, e_mS h g2 (by decide), Option.bind_some]
    by_cases z1 : isS (tkT b k) j1 60
    · rw [decide_eq_true z1, if_pos (show ¬ (cb true : Int32) = 0 by decide)]
      exact go 60 (by decide) z1
    · rw [decide_eq_false z1, if_neg (show ¬ ¬ (cb false : Int32) = 0 by decide)]
      show ((fX12_isSign (61 : Int32) (ms b k v M0 j1 (l_mods c1))).bind _) = _
      rw [show (61 : Int32) = nI 61 from rfl, e_mS h g2 (by decide), Option.bind_some]
      by_cases z2 : isS (tkT b k) j1 61
      · rw [decide_eq_true z2, if_pos (show ¬ (cb true : Int32) = 0 by decide)]
        exact go 61 (by decide) z2
      · rw [decide_eq_false z2, if_neg (show ¬ ¬ (cb false : Int32) = 0 by decide)]
        show ((fX12_isSign (62 : Int32) (ms b k v M0 j1 (l_mods c1))).bind _) = _
        rw [show (62 : Int32) = nI 62 from rfl, e_mS h g2 (by decide), Option.bind_some]
        by_cases z3 : isS (tkT b k) j1 62
        · rw [decide_eq_true z3, if_pos (show ¬ (cb true : Int32) = 0 by decide)]
          exact go 62 (by decide) z3
        · rw [decide_eq_false z3, if_neg (show ¬ ¬ (cb false : Int32) = 0 by decide), if_neg (show ¬ (isS (tkT b k) j1 60 ∨ isS (tkT b k) j1 61 ∨ isS (tkT b k) j1 62) from fun q => q.elim z1 (fun q => q.elim z2 z3))]
          exact e_ers2 1
/-! what waits -/
def PSt (M0 : nM) (S : List Nat) (o : Nat) : Prop := M0 107 32 = nI S.length ∧ M0 107 30 = nI o ∧ ∀ (i x : Nat), S[i]? = some x → M0 126 i = nI x
def FR (M M' : nM) : Prop := (∀ a, a ≠ 107 → a ≠ 126 → M' a = M a) ∧ ∀ i, i ≠ 30 → i ≠ 32 → M' 107 i = M 107 i
theorem FR_r (M : nM) : FR M M := ⟨fun _ _ _ => rfl, fun _ _ _ => rfl⟩
theorem FR_t {M M' M'' : nM} (h1 : FR M M') (h2 : FR M' M'') : FR M M'' := ⟨fun a a1 a2 => (h2.1 a a1 a2).trans (h1.1 a a1 a2), fun i i1 i2 => (h2.2 i i1 i2).trans (h1.2 i i1 i2)⟩
theorem FR_M {b : Nat → Nat} {k : Nat} {M M' : nM} (h : FR M M') (hM : MB b k M) : MB b k M' := by
  obtain ⟨m1, m2, m3, m4⟩ := hM
  exact ⟨m1, by rw [h.2 15 (by decide) (by decide)]; exact m2, fun i hi => by rw [h.1 117 (by decide) (by decide)]; exact m3 i hi, fun i hi => by rw [h.1 118 (by decide) (by decide)]; exact m4 i hi⟩
theorem FR_30 {M : nM} {x : Int32} : FR M (n_up M 107 30 x) := ⟨fun a a1 _ => n_up_ne a1, fun i i1 _ => by rw [n_up_eq, upd_ne i1]⟩
theorem FR_32 {M : nM} {x : Int32} : FR M (n_up M 107 32 x) := ⟨fun a a1 _ => n_up_ne a1, fun i _ i2 => by rw [n_up_eq, upd_ne i2]⟩
theorem FR_26 {M : nM} {i : Nat} {x : Int32} : FR M (n_up M 126 i x) := ⟨fun a _ a2 => n_up_ne a2, fun i _ _ => by rw [n_up_ne (by decide)]⟩
theorem e_wai {b : Nat → Nat} {k j o x : Nat} {v : Int32} {M0 : nM} {S : List Nat} {c : List (Nat × Nat)} (hP : PSt M0 S o) (hS : S.length < 40) : ∃ M1 : nM, fX12_waits (nI x) (ms b k v M0 j c) = some ((), ms b k v M1 j c) ∧ PSt M1 (S ++ [x]) o ∧ FR M0 M1 := by
  obtain ⟨p1, p2, p3⟩ := hP
  have e32 : ms b k v M0 j c 107 32 = nI S.length := by rw [ms_7o (by omega) (by decide)]; exact p1
  refine ⟨n_up (n_up M0 126 S.length (nI x)) 107 32 (nI (S.length + 1)), ?_, ⟨?_, ?_, ?_⟩, FR_t FR_26 FR_32⟩
  · unfold fX12_waits
    show n_chk (n_ib 40 (ms b k v M0 j c 107 32)) (some ((), n_up (n_up (ms b k v M0 j c) 126 (ms b k v M0 j c 107 32).toNatClampNeg (nI x)) 107 32 ((n_up (ms b k v M0 j c) 126 (ms b k v M0 j c 107 32).toNatClampNeg (nI x) 107 32) + (1 : Int32)))) = _
    rw [n_up_ne (show 107 ≠ 126 by decide), e32, n_ib_nI hS (by decide), n_chk_t, nI_clamp (show S.length < 2 ^ 31 by omega), nI_1, ms_up (by decide) (by decide) (fun z => absurd z (by decide)), ms_up (by decide) (by decide) (fun _ => ⟨by omega, by decide⟩)]
  · rw [n_up_eq, upd_eq, List.length_append]; rfl
  · rw [n_up_eq, upd_ne (by decide), n_up_ne (by decide)]; exact p2
  · intro i y hy
    rw [n_up_ne (show 126 ≠ 107 by decide), n_up_eq]
    by_cases e : i = S.length
    · subst e
      rw [List.getElem?_append_right (Nat.le_refl _), Nat.sub_self] at hy
      have : x = y := Option.some.inj hy
      rw [upd_eq, this]
    · have hlt : i < S.length := by
        have := l_lt hy
        rw [List.length_append] at this
        have t2 : i < S.length + 1 := this
        omega
      rw [upd_ne e]
      rw [List.getElem?_append_left hlt] at hy
      exact p3 i y hy
def tpn (x : Nat) (S : List Nat) : Prop := ∀ y, S[S.length - 1]? = some y → y ≠ x ∧ y < 100
theorem tpn_s {x y : Nat} {S : List Nat} (h : y ≠ x) (h2 : y < 100) : tpn x (S ++ [y]) := fun z hz => by
  rw [List.length_append, show S.length + [y].length - 1 = S.length from rfl, List.getElem?_append_right (Nat.le_refl _), Nat.sub_self] at hz
  have : y = z := Option.some.inj hz
  rw [← this]
  exact ⟨h, h2⟩
theorem st_eq (N f : Nat) (x1 : Int32) (M : nM) : fX12_settles_0 N (f + 1) x1 M = if (M 107 32) ≤ 0 then some ((), M) else n_chk (n_ib 40 ((M 107 32) - (1 : Int32))) (if ¬ (M 126 ((M 107 32) - (1 : Int32)).toNatClampNeg) = x1 then some ((), M) else (fX12_emits x1 (0 : Int32) (n_up M 107 32 ((M 107 32) - (1 : Int32)))).bind fun p2 => if ¬ x1 = (9 : Int32) then fX12_settles_0 N f x1 p2.2 else fX12_settles_0 N f x1 (n_up p2.2 107 30 ((p2.2 107 30) - (1 : Int32)))) := rfl
theorem c_set {b : Nat → Nat} {k N j x : Nat} {v : Int32} (hx : x = 9 ∨ x = 10 ∨ x = 11) : ∀ (m f o : Nat) (M0 : nM) (S : List Nat) (c : List (Nat × Nat)), m < f → PSt M0 (S ++ List.replicate m x) o → tpn x S → c.length + m ≤ 400 → S.length + m ≤ 40 → (x = 9 → m ≤ o) → ∃ M1 : nM, fX12_settles_0 N f (nI x) (ms b k v M0 j c) = some ((), ms b k v M1 j (c ++ List.replicate m (x, 0))) ∧ PSt M1 S (if x = 9 then o - m else o) ∧ FR M0 M1 := by
  intro m
  induction m with
  | zero =>
    intro f o M0 S c hf hP ht hc hS ho
    obtain ⟨f, rfl⟩ : ∃ g, f = g + 1 := ⟨f - 1, by omega⟩
    rw [show List.replicate 0 x = [] from rfl, List.append_nil] at hP
    refine ⟨M0, ?_, ?_, FR_r _⟩
    · rw [show List.replicate 0 (x, 0) = [] from rfl, List.append_nil, st_eq, ms_7o (by omega) (by decide), hP.1]
      by_cases z : S.length = 0
      · rw [z, if_pos (show nI 0 ≤ 0 by decide)]
      · have e1 : nI S.length - (1 : Int32) = nI (S.length - 1) := pk_sub (b := 1) (by omega)
        obtain ⟨y, hy⟩ : ∃ y, S[S.length - 1]? = some y := ⟨S[S.length - 1]'(by omega), List.getElem?_eq_getElem (by omega)⟩
        obtain ⟨y1, y2⟩ := ht y hy
        rw [if_neg (nI_nle (by omega) (by omega)), e1, n_ib_nI (show S.length - 1 < 40 by omega) (by decide), n_chk_t, nI_clamp (show S.length - 1 < 2 ^ 31 by omega), ms_o (by decide) (by decide) (by decide), hP.2.2 _ y hy, if_pos (fun q => y1 ((nI_eq (by omega) (by omega)).mp q))]
    · have : (if x = 9 then o - 0 else o) = o := by split <;> rfl
      rw [this]
      exact hP
  | succ m ih =>
    intro f o M0 S c hf hP ht hc hS ho
    obtain ⟨f, rfl⟩ : ∃ g, f = g + 1 := ⟨f - 1, by omega⟩
    obtain ⟨p1, p2, p3⟩ := hP
    have hlen : (S ++ List.replicate (m + 1) x).length = S.length + m + 1 := by rw [List.length_append, List.length_replicate]; omega
    rw [hlen] at p1
    have e1 : nI (S.length + m + 1) - (1 : Int32) = nI (S.length + m) := nI_pred _
    have hy : (S ++ List.replicate (m + 1) x)[S.length + m]? = some x := by
      rw [List.getElem?_append_right (by omega), Nat.add_sub_cancel_left, List.getElem?_replicate, if_pos (by omega)]
    have hrep : List.replicate (m + 1) (x, 0) = (x, 0) :: List.replicate m (x, 0) := rfl
    -- the base behind one
    obtain ⟨M2, hM2⟩ : ∃ M2, M2 = if x = 9 then n_up (n_up M0 107 32 (nI (S.length + m))) 107 30 (nI (o - 1)) else n_up M0 107 32 (nI (S.length + m)) := ⟨_, rfl⟩
    have hF2 : FR M0 M2 := by
      rw [hM2]
      split
      · exact FR_t FR_32 FR_30
      · exact FR_32
    have hP2 : PSt M2 (S ++ List.replicate m x) (if x = 9 then o - 1 else o) := by
      refine ⟨?_, ?_, fun i y h => ?_⟩
      · rw [List.length_append, List.length_replicate, hM2]
        split
        · rw [n_up_eq, upd_ne (by decide), n_up_eq, upd_eq]
        · rw [n_up_eq, upd_eq]
      · rw [hM2]
        split
        · rw [n_up_eq, upd_eq]
        · rw [n_up_eq, upd_ne (by decide)]; exact p2
      · have h26 : M2 126 = M0 126 := by
          rw [hM2]
          split
          · rw [n_up_ne (by decide), n_up_ne (by decide)]
          · rw [n_up_ne (by decide)]
        rw [h26]
        refine p3 i y ?_
        have hlt := l_lt h
        rw [List.length_append, List.length_replicate] at hlt
        by_cases e : i < S.length
        · rw [List.getElem?_append_left e] at h ⊢
          exact h
        · rw [List.getElem?_append_right (by omega), List.getElem?_replicate, if_pos (by omega)] at h ⊢
          exact h
    have step : fX12_settles_0 N (f + 1) (nI x) (ms b k v M0 j c) = fX12_settles_0 N f (nI x) (ms b k v M2 j (c ++ [(x, 0)])) := by
      rw [st_eq, ms_7o (by omega) (by decide), p1, if_neg (nI_nle (by omega) (by omega)), e1, n_ib_nI (show S.length + m < 40 by omega) (by decide), n_chk_t, nI_clamp (show S.length + m < 2 ^ 31 by omega), ms_o (by decide) (by decide) (by decide), p3 _ x hy, if_neg (not_not_intro rfl), ms_up (by decide) (by decide) (fun _ => ⟨by omega, by decide⟩), show (0 : Int32) = nI 0 from rfl, e_emM (by omega), Option.bind_some]
      by_cases z : x = 9
      · rw [if_neg (show ¬ ¬ nI x = (9 : Int32) by rw [z]; decide)]
        show fX12_settles_0 N f (nI x) (n_up (ms b k v (n_up M0 107 32 (nI (S.length + m))) j (c ++ [(x, 0)])) 107 30 ((ms b k v (n_up M0 107 32 (nI (S.length + m))) j (c ++ [(x, 0)]) 107 30) - (1 : Int32))) = _
        rw [ms_7o (by omega) (by decide), n_up_eq, upd_ne (by decide), p2, show nI o - (1 : Int32) = nI (o - 1) from pk_sub (b := 1) (by have := ho z; omega), ms_up (by decide) (by decide) (fun _ => ⟨by omega, by decide⟩), hM2, if_pos z]
      · rw [if_pos (show ¬ nI x = (9 : Int32) from fun q => z ((nI_eq (b := 9) (by omega) (by decide)).mp q)), hM2, if_neg z]
    obtain ⟨M1, m1, m2, m3⟩ := ih f (if x = 9 then o - 1 else o) M2 S (c ++ [(x, 0)]) (by omega) hP2 ht (by rw [List.length_append]; show c.length + 1 + m ≤ 400; omega) (by omega) (fun z => by rw [if_pos z]; have := ho z; omega)
    refine ⟨M1, ?_, ?_, FR_t hF2 m3⟩
    · rw [step, m1, hrep, List.append_assoc]
      rfl
    · have : (if x = 9 then (if x = 9 then o - 1 else o) - m else (if x = 9 then o - 1 else o)) = (if x = 9 then o - (m + 1) else o) := by
        by_cases z : x = 9
        · rw [if_pos z, if_pos z, if_pos z]; omega
        · rw [if_neg z, if_neg z, if_neg z]
      rw [this] at m2
      exact m2
theorem l_mods_rep {m : Nat} {c : List lOp} : l_mods (c ++ List.replicate m (3, 0)) = l_mods c ++ List.replicate m (9, 0) := by
  rw [l_mods_a]
  congr 1
  induction m with
  | zero => rfl
  | succ m ih =>
    rw [List.replicate_succ, l_mods_c, ih]
    rfl
