/-! ===== the model runs a law's code ===== -/
def mP (N f : Nat) (x1 x3 x4 x5 : Int32) (M : nM) : Option (Int32 × nM) :=
  n_chk (n_ib 1200 x5) (if ¬ (M 124 x5.toNatClampNeg) = 0 then n_chk (n_ib 1200 x5) (n_chk (n_ib 11 (M 125 x5.toNatClampNeg)) (n_chk (n_ib 420 x4) (fX12_runs_12 N f x1 x3 (x4 + (1 : Int32)) (x5 + (1 : Int32)) (n_up M 132 x4.toNatClampNeg (M 131 (M 125 x5.toNatClampNeg).toNatClampNeg)))))
    else n_chk (n_ib 1200 x5) (n_chk (n_ib 420 x4) (fX12_runs_12 N f x1 x3 (x4 + (1 : Int32)) (x5 + (1 : Int32)) (n_up M 132 x4.toNatClampNeg (M 125 x5.toNatClampNeg)))))
def mT2 (N f : Nat) (x1 x3 v1 x5 : Int32) (p2 : Int32 × nM) : Option (Int32 × nM) := n_chk (n_ib 420 (v1 - (1 : Int32))) (fX12_runs_12 N f x1 x3 v1 (x5 + (1 : Int32)) (n_up p2.2 132 (v1 - (1 : Int32)).toNatClampNeg p2.1))
def mT (N f : Nat) (x1 x3 v1 x5 : Int32) (M : nM) : Option (Int32 × nM) := n_chk (n_ib 1200 x5) (n_chk (n_ib 420 (v1 - (1 : Int32))) (n_chk (n_ib 420 v1) ((fX12_twoOf (M 124 x5.toNatClampNeg) (M 132 (v1 - (1 : Int32)).toNatClampNeg) (M 132 v1.toNatClampNeg) M).bind (mT2 N f x1 x3 v1 x5))))
theorem mB_eq (N f : Nat) (x1 x3 x4 x5 : Int32) (M : nM) : fX12_runs_12 N (f + 1) x1 x3 x4 x5 M = if (((400 : Int32) * x1) + x3) ≤ x5 then n_chk (n_ib 420 (0 : Int32)) (some ((M 132 (0 : Int32).toNatClampNeg), M))
    else n_chk (n_ib 1200 x5) (if (M 124 x5.toNatClampNeg) = 0 then mP N f x1 x3 x4 x5 M else n_chk (n_ib 1200 x5) (if ¬ (M 124 x5.toNatClampNeg) = (1 : Int32) then n_chk (n_ib 1200 x5) (if ¬ (M 124 x5.toNatClampNeg) = (9 : Int32) then mT N f x1 x3 (x4 - (1 : Int32)) x5 M
      else n_chk (n_ib 420 (x4 - (1 : Int32))) (n_chk (n_ib 420 (x4 - (1 : Int32))) (fX12_runs_12 N f x1 x3 x4 (x5 + (1 : Int32)) (n_up M 132 (x4 - (1 : Int32)).toNatClampNeg ((1 : Int32) - (M 132 (x4 - (1 : Int32)).toNatClampNeg)))))) else mP N f x1 x3 x4 x5 M)) := rfl
theorem m_e0 (x : Int32) : (400 : Int32) * 0 + x = x := by rw [show (400 : Int32) * 0 = 0 from rfl, Int32.zero_add]
theorem m_push {N f E d pos v : Nat} {M : nM} {S : Nat → Int32} (hE : pos < E) (hE2 : E ≤ 400) (hx : M 124 pos = nI 0) (hy : M 125 pos = nI v) (hd : d < 400) : fX12_runs_12 N (f + 1) 0 (nI E) (nI d) (nI pos) (n_set M 132 S) = fX12_runs_12 N f 0 (nI E) (nI (d + 1)) (nI (pos + 1)) (n_set M 132 (upd S d (nI v))) := by
  have h1 : n_set M 132 S 124 pos = nI 0 := by rw [n_set_ne (by decide)]; exact hx
  have h2 : n_set M 132 S 125 pos = nI v := by rw [n_set_ne (by decide)]; exact hy
  have hi := n_ib_nI (show pos < 1200 by omega) (show 1200 < 2 ^ 31 by decide)
  rw [mB_eq, m_e0, if_neg (nI_ge hE (by omega)), hi, n_chk_t, nI_clamp (show pos < 2 ^ 31 by omega), h1, if_pos (show nI 0 = (0 : Int32) from rfl), mP, hi, n_chk_t, nI_clamp (show pos < 2 ^ 31 by omega), h1, if_neg (show ¬ ¬ nI 0 = (0 : Int32) from not_not_intro rfl), n_chk_t, n_ib_nI (show d < 420 by omega) (by decide), n_chk_t, h2, nI_clamp (show d < 2 ^ 31 by omega), n_up_set, nI_1, nI_1]
theorem m_fact {N f E d pos v : Nat} {M : nM} {S : Nat → Int32} (hE : pos < E) (hE2 : E ≤ 400) (hx : M 124 pos = nI 1) (hv : v < 11) (hy : M 125 pos = nI v) (hd : d < 400) : fX12_runs_12 N (f + 1) 0 (nI E) (nI d) (nI pos) (n_set M 132 S) = fX12_runs_12 N f 0 (nI E) (nI (d + 1)) (nI (pos + 1)) (n_set M 132 (upd S d (M 131 v))) := by
  have h1 : n_set M 132 S 124 pos = nI 1 := by rw [n_set_ne (by decide)]; exact hx
  have h2 : n_set M 132 S 125 pos = nI v := by rw [n_set_ne (by decide)]; exact hy
  have hi := n_ib_nI (show pos < 1200 by omega) (show 1200 < 2 ^ 31 by decide)
  rw [mB_eq, m_e0, if_neg (nI_ge hE (by omega)), hi, n_chk_t, nI_clamp (show pos < 2 ^ 31 by omega), h1, if_neg (show ¬ nI 1 = (0 : Int32) by decide), n_chk_t, if_neg (show ¬ ¬ nI 1 = (1 : Int32) from not_not_intro rfl), mP, hi, n_chk_t, nI_clamp (show pos < 2 ^ 31 by omega), h1, if_pos (show ¬ nI 1 = (0 : Int32) by decide), n_chk_t, h2, n_ib_nI hv (by decide), n_chk_t, n_ib_nI (show d < 420 by omega) (by decide), n_chk_t, nI_clamp (show v < 2 ^ 31 by omega), n_set_ne (show (131 : Nat) ≠ 132 by decide), nI_clamp (show d < 2 ^ 31 by omega), n_up_set, nI_1, nI_1]
theorem m_not {N f E d pos : Nat} {M : nM} {S : Nat → Int32} (hE : pos < E) (hE2 : E ≤ 400) (hx : M 124 pos = nI 9) (hd : d < 400) : fX12_runs_12 N (f + 1) 0 (nI E) (nI (d + 1)) (nI pos) (n_set M 132 S) = fX12_runs_12 N f 0 (nI E) (nI (d + 1)) (nI (pos + 1)) (n_set M 132 (upd S d (1 - S d))) := by
  have h1 : n_set M 132 S 124 pos = nI 9 := by rw [n_set_ne (by decide)]; exact hx
  have hi := n_ib_nI (show pos < 1200 by omega) (show 1200 < 2 ^ 31 by decide)
  have e1 : nI (d + 1) - 1 = nI d := nI_pred _
  rw [mB_eq, m_e0, if_neg (nI_ge hE (by omega)), hi, n_chk_t, nI_clamp (show pos < 2 ^ 31 by omega), h1, if_neg (show ¬ nI 9 = (0 : Int32) by decide), n_chk_t, if_pos (show ¬ nI 9 = (1 : Int32) by decide), n_chk_t, if_neg (show ¬ ¬ nI 9 = (9 : Int32) from not_not_intro rfl), e1, n_ib_nI (show d < 420 by omega) (by decide), n_chk_t, n_chk_t, nI_clamp (show d < 2 ^ 31 by omega), n_set_eq, n_up_set, nI_1]
theorem m_two {N f E d pos o : Nat} {M : nM} {S : Nat → Int32} {z : Int32} (hE : pos < E) (hE2 : E ≤ 400) (ho0 : o ≠ 0) (ho1 : o ≠ 1) (ho9 : o ≠ 9) (ho : o < 100) (hx : M 124 pos = nI o) (hd : d + 1 < 400) (hz : ∀ M, fX12_twoOf (nI o) (S d) (S (d + 1)) M = some (z, M)) : fX12_runs_12 N (f + 1) 0 (nI E) (nI (d + 2)) (nI pos) (n_set M 132 S) = fX12_runs_12 N f 0 (nI E) (nI (d + 1)) (nI (pos + 1)) (n_set M 132 (upd S d z)) := by
  have h1 : n_set M 132 S 124 pos = nI o := by rw [n_set_ne (by decide)]; exact hx
  have hi := n_ib_nI (show pos < 1200 by omega) (show 1200 < 2 ^ 31 by decide)
  have e0 : nI (d + 2) - 1 = nI (d + 1) := nI_pred (d + 1)
  have e1 : nI (d + 1) - 1 = nI d := nI_pred _
  rw [mB_eq, m_e0, if_neg (nI_ge hE (by omega)), hi, n_chk_t, nI_clamp (show pos < 2 ^ 31 by omega), h1, if_neg (show ¬ nI o = (0 : Int32) from nI_ne0 (by omega) (by omega)), n_chk_t, if_pos (show ¬ nI o = (1 : Int32) from fun e => ho1 ((nI_eq (b := 1) (by omega) (by decide)).mp e)), n_chk_t, if_pos (show ¬ nI o = (9 : Int32) from fun e => ho9 ((nI_eq (b := 9) (by omega) (by decide)).mp e)), e0, mT, hi, n_chk_t, e1, n_ib_nI (show d < 420 by omega) (by decide), n_chk_t, n_ib_nI (show d + 1 < 420 by omega) (by decide), n_chk_t, nI_clamp (show pos < 2 ^ 31 by omega), h1, nI_clamp (show d < 2 ^ 31 by omega), nI_clamp (show d + 1 < 2 ^ 31 by omega), n_set_eq, hz, Option.bind_some, mT2, e1, n_ib_nI (show d < 420 by omega) (by decide), n_chk_t, nI_clamp (show d < 2 ^ 31 by omega), n_up_set, nI_1]
theorem e_tdiv {v : Nat} (hv0 : 0 < v) (hv : v < 10000) (a : Int32) (M : nM) : fX12_twoOf (nI 5) a (nI v) M = some (a / nI v, M) := by
  unfold fX12_twoOf
  rw [if_pos (show ¬ nI 5 = (2 : Int32) by decide), if_pos (show ¬ nI 5 = (3 : Int32) by decide), if_pos (show ¬ nI 5 = (4 : Int32) by decide), if_neg (show ¬ ¬ nI 5 = (5 : Int32) from not_not_intro rfl), if_neg (nI_ne0 hv0 (by omega))]
theorem l_mod_o {o v : Nat} (h : o ≠ 2) : l_mod (o, v) = [(l_mo o, v)] := by
  unfold l_mod
  rw [if_neg h]
  rfl
theorem l_mo_b {o : Nat} (h4 : 4 ≤ o) (h11 : o ≤ 11) : l_mo o ≠ 0 ∧ l_mo o ≠ 1 ∧ l_mo o ≠ 9 ∧ l_mo o < 100 := by
  rcases (show o = 4 ∨ o = 5 ∨ o = 6 ∨ o = 7 ∨ o = 8 ∨ o = 9 ∨ o = 10 ∨ o = 11 by omega) with rfl | rfl | rfl | rfl | rfl | rfl | rfl | rfl <;> decide
theorem l_mods_c (x : lOp) (t : List lOp) : l_mods (x :: t) = l_mod x ++ l_mods t := by
  unfold l_mods
  rw [List.flatMap_cons]
theorem e_runM {N : Nat} {F : Nat → Int32} : ∀ (c : List lOp) (st : List Int32) (ts tf : List Bool) (pos f : Nat) (M : nM) (S : Nat → Int32), l_ty c ts = some tf → l_tk ts st → l_dp c st.length 48 → (∀ (k : Nat) (x : Nat × Nat), (l_mods c)[k]? = some x → M 124 (pos + k) = nI x.1 ∧ M 125 (pos + k) = nI x.2) → pos + (l_mods c).length ≤ 400 → l_st S st → (l_mods c).length < f → (∀ v, v < 11 → M 131 v = F v) → st.length ≤ 48 →
    ∃ S' : Nat → Int32, l_st S' (l_ev F c st) ∧ fX12_runs_12 N f 0 (nI (pos + (l_mods c).length)) (nI st.length) (nI pos) (n_set M 132 S) = some (S' 0, n_set M 132 S') := by
  intro c
  induction c with
  | nil =>
    intro st ts tf pos f M S hty htk hdp hat hle hst hf hF h48
    obtain ⟨f, rfl⟩ : ∃ g, f = g + 1 := ⟨f - 1, by omega⟩
    refine ⟨S, hst, ?_⟩
    have hle2 : pos ≤ 400 := hle
    rw [mB_eq, m_e0]
    exact if_pos (nI_le (Nat.le_refl pos) (by omega))
  | cons x t ih =>
    intro st ts tf pos f M S hty htk hdp hat hle hst hf hF h48
    obtain ⟨f, rfl⟩ : ∃ g, f = g + 1 := ⟨f - 1, by omega⟩
    obtain ⟨o, v⟩ := x
    unfold l_dp at hdp
    by_cases h2 : o = 2
    · subst h2
      have em : l_mods ((2, v) :: t) = (0, v) :: (5, 0) :: l_mods t := by rw [l_mods_c]; rfl
      rw [em] at hat hle hf ⊢
      rw [List.length_cons, List.length_cons] at hle hf
      rcases l_ty_x hty with ⟨h, -⟩ | ⟨h, -⟩ | ⟨-, hv0, hv, r, rfl, hty2⟩ | ⟨h, -⟩ | ⟨h, -⟩
      · omega
      · omega
      · rw [if_neg (by decide), if_pos (by decide)] at hdp
        obtain ⟨a, s, rfl, h1, h2'⟩ := l_tk1 htk
        rw [List.length_cons] at hdp h48
        obtain ⟨x1, y1⟩ := hat 0 (0, v) rfl
        obtain ⟨x2, y2⟩ := hat 1 (5, 0) rfl
        obtain ⟨f, rfl⟩ : ∃ g, f = g + 1 := ⟨f - 1, by omega⟩
        obtain ⟨S', s1, s3⟩ := ih (a / nI v :: s) (false :: r) tf (pos + 2) f M (upd (upd S (s.length + 1) (nI v)) s.length (a / nI v)) hty2 ⟨fun z => (by cases z), h2'⟩ hdp (fun k x hk => by rw [show pos + 2 + k = pos + (k + 2) by omega]; exact hat (k + 2) x hk) (by omega) ⟨upd_eq, l_st_upd (Nat.le_refl _) (l_st_upd (by omega) hst.2)⟩ (by omega) hF h48
        refine ⟨S', s1, ?_⟩
        rw [show pos + ((0, v) :: (5, 0) :: l_mods t).length = pos + 2 + (l_mods t).length by rw [List.length_cons, List.length_cons]; omega, List.length_cons]
        refine (m_push (by omega) (by omega) x1 y1 (by omega)).trans ?_
        have q1 : upd S (s.length + 1) (nI v) s.length = a := by rw [upd_ne (by omega)]; exact hst.1
        refine (m_two (o := 5) (z := a / nI v) (by omega) (by omega) (by decide) (by decide) (by decide) (by decide) x2 (by omega) (fun M => by rw [q1, upd_eq]; exact e_tdiv hv0 hv a M)).trans ?_
        exact s3
      · omega
      · omega
    · have em : l_mods ((o, v) :: t) = (l_mo o, v) :: l_mods t := by rw [l_mods_c, l_mod_o h2]; rfl
      rw [em] at hat hle hf ⊢
      rw [List.length_cons] at hle hf
      obtain ⟨hx, hy⟩ := hat 0 (l_mo o, v) rfl
      have hat' : ∀ (k : Nat) (x : Nat × Nat), (l_mods t)[k]? = some x → M 124 (pos + 1 + k) = nI x.1 ∧ M 125 (pos + 1 + k) = nI x.2 := fun k x hk => by
        rw [show pos + 1 + k = pos + (k + 1) by omega]
        exact hat (k + 1) x hk
      rw [show pos + ((l_mo o, v) :: l_mods t).length = pos + 1 + (l_mods t).length by rw [List.length_cons]; omega]
      rcases l_ty_x hty with ⟨rfl, hv, hty2⟩ | ⟨rfl, hv, hty2⟩ | ⟨h, -⟩ | ⟨rfl, rfl, r, rfl, hty2⟩ | ⟨h4, h11, rfl, b1, b2, b3, r, rfl, hty2, hb7, hb10⟩
      · rw [if_pos (by decide)] at hdp
        obtain ⟨S', s1, s3⟩ := ih (nI v :: st) (false :: ts) tf (pos + 1) f M (upd S st.length (nI v)) hty2 ⟨fun z => (by cases z), htk⟩ hdp.2 hat' (by omega) ⟨upd_eq, l_st_upd (Nat.le_refl _) hst⟩ (by omega) hF hdp.1
        exact ⟨S', s1, (m_push (by omega) (by omega) hx hy (by omega)).trans s3⟩
      · rw [if_pos (by decide)] at hdp
        obtain ⟨S', s1, s3⟩ := ih (F v :: st) (false :: ts) tf (pos + 1) f M (upd S st.length (F v)) hty2 ⟨fun z => (by cases z), htk⟩ hdp.2 hat' (by omega) ⟨upd_eq, l_st_upd (Nat.le_refl _) hst⟩ (by omega) hF hdp.1
        refine ⟨S', s1, (m_fact (by omega) (by omega) hx hv hy (by omega)).trans ?_⟩
        rw [hF v hv]
        exact s3
      · exact absurd h h2
      · rw [if_neg (by decide), if_pos (by decide)] at hdp
        obtain ⟨a, s, rfl, h1, h2'⟩ := l_tk1 htk
        rw [List.length_cons] at hdp h48
        obtain ⟨S', s1, s3⟩ := ih ((1 - a) :: s) (true :: r) tf (pos + 1) f M (upd S s.length (1 - a)) hty2 ⟨fun z => (by rcases h1 z with rfl | rfl <;> decide), h2'⟩ hdp hat' (by omega) ⟨upd_eq, l_st_upd (Nat.le_refl _) hst.2⟩ (by omega) hF h48
        refine ⟨S', s1, (m_not (by omega) (by omega) hx (by omega)).trans ?_⟩
        have q1 : S s.length = a := hst.1
        rw [q1]
        exact s3
      · rw [if_neg (by omega), if_neg (by omega)] at hdp
        obtain ⟨b, a, s, rfl, h1, h2', h3⟩ := l_tk2 htk
        rw [List.length_cons, List.length_cons] at hdp h48
        rw [l_ev_two h4]
        obtain ⟨S', s1, s3⟩ := ih (l_two o a b :: s) (b3 :: r) tf (pos + 1) f M (upd S s.length (l_two o a b)) hty2 ⟨fun z => l_two_b (hb7 z) (fun g => ⟨h2' (hb10 g).2, h1 (hb10 g).1⟩), h3⟩ hdp hat' (by omega) ⟨upd_eq, l_st_upd (Nat.le_refl _) hst.2.2⟩ (by omega) hF (by rw [List.length_cons]; omega)
        obtain ⟨g1, g2, g3, g4⟩ := l_mo_b h4 h11
        have q1 : S (s.length + 1) = b := hst.1
        have q2 : S s.length = a := hst.2.1
        refine ⟨S', s1, (m_two (by omega) (by omega) g1 g2 g3 g4 hx (by omega) (fun M => by rw [q1, q2]; exact e_twoOf h4 h11 a b (fun g => ⟨h2' (hb10 g).2, h1 (hb10 g).1⟩) M)).trans ?_⟩
        exact s3
theorem e_runs {N f : Nat} {F : Nat → Int32} {M : nM} {c : List lOp} {b : Bool} (hN : 1000 ≤ N) (hty : l_ty c [] = some [b]) (hdp : l_dp c 0 48) (hev : ∃ y, l_ev F c [] = [y]) (hat : ∀ (k : Nat) (x : Nat × Nat), (l_mods c)[k]? = some x → M 124 (f + k) = nI x.1 ∧ M 125 (f + k) = nI x.2) (hle : f + (l_mods c).length ≤ 400) (hF : ∀ v, v < 11 → M 131 v = F v) :
    ∃ S' : Nat → Int32, fX12_runs N 0 (nI f) (nI (f + (l_mods c).length)) M = some ((l_ev F c []).headD 0, n_set M 132 S') := by
  obtain ⟨S', s1, s3⟩ := e_runM (N := N) (F := F) c [] [] [b] f N M (M 132) hty trivial hdp hat hle trivial (by omega) hF (by decide)
  obtain ⟨y, e1⟩ := hev
  rw [e1] at s1
  have q : S' 0 = y := s1.1
  rw [n_set_self rfl] at s3
  refine ⟨S', ?_⟩
  unfold fX12_runs
  rw [m_e0, e1]
  refine s3.trans ?_
  rw [q]
  rfl
