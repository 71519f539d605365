/-! ===== what the law tells ===== -/
theorem l_ev_tk {F : Nat → Int32} : ∀ (c : List lOp) (st : List Int32) (ts tf : List Bool), l_ty c ts = some tf → l_tk ts st → l_tk tf (l_ev F c st) := by
  intro c
  induction c with
  | nil =>
    intro st ts tf hty htk
    cases hty
    exact htk
  | cons x t ih =>
    intro st ts tf hty htk
    obtain ⟨o, v⟩ := x
    rcases l_ty_x hty with ⟨rfl, hv, hty2⟩ | ⟨rfl, hv, hty2⟩ | ⟨rfl, hv0, hv, r, rfl, hty2⟩ | ⟨rfl, rfl, r, rfl, hty2⟩ | ⟨h4, h11, rfl, b1, b2, b3, r, rfl, hty2, hb7, hb10⟩
    · exact ih (nI v :: st) (false :: ts) tf hty2 ⟨fun z => (by cases z), htk⟩
    · exact ih (F v :: st) (false :: ts) tf hty2 ⟨fun z => (by cases z), htk⟩
    · obtain ⟨a, s, rfl, h1, h2⟩ := l_tk1 htk
      exact ih (a / nI v :: s) (false :: r) tf hty2 ⟨fun z => (by cases z), h2⟩
    · obtain ⟨a, s, rfl, h1, h2⟩ := l_tk1 htk
      exact ih ((1 - a) :: s) (true :: r) tf hty2 ⟨fun z => (by rcases h1 z with rfl | rfl <;> decide), h2⟩
    · obtain ⟨b, a, s, rfl, h1, h2, h3⟩ := l_tk2 htk
      rw [l_ev_two h4]
      exact ih (l_two o a b :: s) (b3 :: r) tf hty2 ⟨fun z => l_two_b (hb7 z) (fun g => ⟨h2 (hb10 g).2, h1 (hb10 g).1⟩), h3⟩
theorem l_ev_one {F : Nat → Int32} {c : List lOp} {b : Bool} (hty : l_ty c [] = some [b]) : ∃ y, l_ev F c [] = [y] := by
  obtain ⟨y, s, e1, -, e3⟩ := l_tk1 (l_ev_tk (F := F) c [] [] [b] hty trivial)
  cases s with
  | nil => exact ⟨y, e1⟩
  | cons _ _ => exact absurd e3 (fun z => z)
/-- what a code comes to -/
def l_val (F : Nat → Int32) (c : List lOp) : Int32 := (l_ev F c []).headD 0
/-- the first line with the word that holds -/
def l_fd (F : Nat → Int32) (w : Nat) : List lLn → Nat → Option Nat
  | [], _ => none
  | x :: t, i => if x.1 = w ∧ (x.2.2 = [] ∨ ¬ l_val F x.2.2 = 0) then some i else l_fd F w t (i + 1)
def l_ix (r : Option Nat) : Int32 := match r with
  | some i => nI i
  | none => -1
/-- the class's law in its cells -/
def l_inC (lns : Int32) (code words from_ when_ till : Nat → Int32) (ls : List lLn) : Prop := ls.length ≤ 16 ∧ lns = nI ls.length ∧ ∀ (i : Nat) (x : lLn), ls[i]? = some x → x.1 < 3 ∧ l_okE x.2.1 ∧ l_okB x.2.2 ∧ ∃ f : Nat, words i = nI x.1 ∧ from_ i = nI f ∧ when_ i = nI (f + x.2.1.length) ∧ till i = nI (f + x.2.1.length + x.2.2.length) ∧ l_atC code f (x.2.1 ++ x.2.2)
def l_inM (lm : Int32) (lw lf lh lt op arg : Nat → Int32) (ls : List lLn) : Prop := ls.length ≤ 16 ∧ lm = nI ls.length ∧ ∀ (i : Nat) (x : lLn), ls[i]? = some x → x.1 < 3 ∧ l_okE x.2.1 ∧ l_okB x.2.2 ∧ ∃ f : Nat, lw i = nI x.1 ∧ lf i = nI f ∧ lh i = nI (f + (l_mods x.2.1).length) ∧ lt i = nI (f + (l_mods x.2.1).length + (l_mods x.2.2).length) ∧ l_atM op arg f (l_mods x.2.1 ++ l_mods x.2.2)
theorem r_law_x {lns : Int32} {code words from_ when_ till : Nat → Int32} {lm : Int32} {lw lf lh lt op arg : Nat → Int32} (h : r_law lns code words from_ when_ till lm lw lf lh lt op arg) : ∃ ls, l_inC lns code words from_ when_ till ls ∧ l_inM lm lw lf lh lt op arg ls := by
  obtain ⟨ls, h1, h2, h3, h4⟩ := h
  exact ⟨ls, ⟨h1, h2, fun i x hx => by obtain ⟨a, b, c, d, e⟩ := h4 i x hx; exact ⟨a, b, c, d⟩⟩, ⟨h1, h3, fun i x hx => by obtain ⟨a, b, c, d, e⟩ := h4 i x hx; exact ⟨a, b, c, e⟩⟩⟩
theorem l_atC_l {code : Nat → Int32} {f : Nat} {a b : List lOp} (h : l_atC code f (a ++ b)) : l_atC code f a ∧ l_atC code (f + a.length) b := by
  obtain ⟨h1, h2⟩ := h
  rw [List.length_append] at h1
  refine ⟨⟨by omega, fun k x hk => h2 k x (by rw [List.getElem?_append_left (l_lt hk)]; exact hk)⟩, ⟨by omega, fun k x hk => ?_⟩⟩
  have := h2 (a.length + k) x (by rw [List.getElem?_append_right (by omega), Nat.add_sub_cancel_left]; exact hk)
  rw [show f + a.length + k = f + (a.length + k) by omega]
  exact this
theorem l_atM_l {op arg : Nat → Int32} {f : Nat} {a b : List (Nat × Nat)} (h : l_atM op arg f (a ++ b)) : l_atM op arg f a ∧ l_atM op arg (f + a.length) b := by
  obtain ⟨h1, h2⟩ := h
  rw [List.length_append] at h1
  refine ⟨⟨by omega, fun k x hk => h2 k x (by rw [List.getElem?_append_left (l_lt hk)]; exact hk)⟩, ⟨by omega, fun k x hk => ?_⟩⟩
  have := h2 (a.length + k) x (by rw [List.getElem?_append_right (by omega), Nat.add_sub_cancel_left]; exact hk)
  rw [show f + a.length + k = f + (a.length + k) by omega]
  exact this
theorem l_mods_nil {c : List lOp} (h : (l_mods c).length = 0) : c = [] := by
  cases c with
  | nil => rfl
  | cons x t =>
    exfalso
    rw [l_mods_c, List.length_append] at h
    have : 0 < (l_mod x).length := by
      unfold l_mod
      split <;> simp
    omega
def lF2 (N f : Nat) (w j : Int32) (p2 : Int32 × nM) : Option (Int32 × nM) := if p2.1 = 0 then fX3_lineFor_3 N f w (j + (1 : Int32)) p2.2 else some (j, p2.2)
theorem lF_eq (N f : Nat) (w j : Int32) (M : nM) : fX3_lineFor_3 N (f + 1) w j M = if (M 16 6) ≤ j then some ((-1 : Int32), M) else n_chk (n_ib 16 j) (if ¬ (M 18 j.toNatClampNeg) = w then fX3_lineFor_3 N f w (j + (1 : Int32)) M else n_chk (n_ib 16 j) (n_chk (n_ib 16 j) (if (M 20 j.toNatClampNeg) = (M 21 j.toNatClampNeg) then some (j, M) else n_chk (n_ib 16 j) (n_chk (n_ib 16 j) ((fX3_run N (M 20 j.toNatClampNeg) (M 21 j.toNatClampNeg) M).bind (lF2 N f w j)))))) := rfl
theorem e_lineC {N w : Nat} {F : Nat → Int32} {M : nM} {ls : List lLn} (hN : 1000 ≤ N) (hw : w < 3) (hl : l_inC (M 16 6) (M 17) (M 18) (M 19) (M 20) (M 21) ls) (hF : ∀ v, v < 11 → M 46 v = F v) : ∀ (d j f : Nat) (S : Nat → Int32), j + d = ls.length → d < f → ∃ S' : Nat → Int32, fX3_lineFor_3 N f (nI w) (nI j) (n_set M 47 S) = some (l_ix (l_fd F w (ls.drop j) j), n_set M 47 S') := by
  obtain ⟨l1, l2, l3⟩ := hl
  intro d
  induction d with
  | zero =>
    intro j f S hj hf
    obtain ⟨f, rfl⟩ : ∃ g, f = g + 1 := ⟨f - 1, by omega⟩
    refine ⟨S, ?_⟩
    rw [lF_eq, n_set_ne (show (16 : Nat) ≠ 47 by decide), l2, if_pos (nI_le (by omega) (by omega)), List.drop_of_length_le (by omega)]
    rfl
  | succ d ih =>
    intro j f S hj hf
    obtain ⟨f, rfl⟩ : ∃ g, f = g + 1 := ⟨f - 1, by omega⟩
    have hx : ls[j]? = some (ls[j]'(by omega)) := List.getElem?_eq_getElem (by omega)
    obtain ⟨x1, x2, x3, fr, x4, x5, x6, x7, x8⟩ := l3 j _ hx
    have hd : ls.drop j = ls[j]'(by omega) :: ls.drop (j + 1) := List.drop_eq_getElem_cons (by omega)
    have hi := n_ib_nI (show j < 16 by omega) (show 16 < 2 ^ 31 by decide)
    obtain ⟨a1, a2⟩ := l_atC_l x8
    have hb := a2.1
    rw [lF_eq, n_set_ne (show (16 : Nat) ≠ 47 by decide), n_set_ne (show (18 : Nat) ≠ 47 by decide), n_set_ne (show (20 : Nat) ≠ 47 by decide), n_set_ne (show (21 : Nat) ≠ 47 by decide), l2, if_neg (nI_ge (by omega) (by omega)), hi, n_chk_t, nI_clamp (show j < 2 ^ 31 by omega), x4, hd]
    unfold l_fd
    by_cases c1 : ls[j].1 = w
    · rw [if_neg (by rw [c1]; exact not_not_intro rfl), n_chk_t, n_chk_t, x6, x7]
      rcases x3 with x3 | ⟨x3, x3'⟩
      · rw [x3, if_pos (by rw [List.length_nil, Nat.add_zero]), if_pos ⟨c1, Or.inl rfl⟩]
        exact ⟨S, rfl⟩
      · have hne : ls[j].2.2 ≠ [] := fun e => by
          rw [e] at x3
          cases x3
        have hlen : 0 < ls[j].2.2.length := List.length_pos_iff.mpr hne
        rw [if_neg (fun e => by have := (nI_eq (by omega) (by omega)).mp e; omega), n_chk_t, n_chk_t]
        obtain ⟨S2, -, e2⟩ := e_run (N := N) (f := fr + ls[j].2.1.length) (F := F) (M := n_set M 47 S) (c := ls[j].2.2) (b := true) hN x3 x3' (fun k x hk => by rw [n_set_ne (by decide)]; exact a2.2 k x hk) hb (fun v hv => by rw [n_set_ne (by decide)]; exact hF v hv)
        rw [e2, Option.bind_some, lF2, n_set_set]
        show ∃ S', (if l_val F ls[j].2.2 = 0 then _ else _) = _
        by_cases c2 : l_val F ls[j].2.2 = 0
        · rw [if_pos c2, if_neg (fun z => by rcases z.2 with z | z; exact hne z; exact z c2), nI_1]
          exact ih (j + 1) f S2 (by omega) (by omega)
        · rw [if_neg c2, if_pos ⟨c1, Or.inr c2⟩]
          exact ⟨S2, rfl⟩
    · rw [if_pos (fun e => c1 ((nI_eq (by omega) (by omega)).mp e)), if_neg (fun z => c1 z.1), nI_1]
      exact ih (j + 1) f S (by omega) (by omega)
def lM2 (N f : Nat) (w j : Int32) (p2 : Int32 × nM) : Option (Int32 × nM) := if p2.1 = 0 then fX12_lineOf_2 N f w (j + (1 : Int32)) p2.2 else some (j, p2.2)
theorem lM_eq (N f : Nat) (w j : Int32) (M : nM) : fX12_lineOf_2 N (f + 1) w j M = n_chk (n_ib 2 (0 : Int32)) (if (M 119 (0 : Int32).toNatClampNeg) ≤ j then some ((-1 : Int32), M) else n_chk (n_ib 48 j) (if ¬ (M 120 j.toNatClampNeg) = w then fX12_lineOf_2 N f w (j + (1 : Int32)) M else n_chk (n_ib 48 j) (n_chk (n_ib 48 j) (if (M 122 j.toNatClampNeg) = (M 123 j.toNatClampNeg) then some (j, M) else n_chk (n_ib 48 j) (n_chk (n_ib 48 j) ((fX12_runs N (0 : Int32) (M 122 j.toNatClampNeg) (M 123 j.toNatClampNeg) M).bind (lM2 N f w j))))))) := rfl
theorem e_lineM {N w : Nat} {F : Nat → Int32} {M : nM} {ls : List lLn} (hN : 1000 ≤ N) (hw : w < 3) (hl : l_inM (M 119 0) (M 120) (M 121) (M 122) (M 123) (M 124) (M 125) ls) (hF : ∀ v, v < 11 → M 131 v = F v) : ∀ (d j f : Nat) (S : Nat → Int32), j + d = ls.length → d < f → ∃ S' : Nat → Int32, fX12_lineOf_2 N f (nI w) (nI j) (n_set M 132 S) = some (l_ix (l_fd F w (ls.drop j) j), n_set M 132 S') := by
  obtain ⟨l1, l2, l3⟩ := hl
  have z0 : n_ib 2 (0 : Int32) = true := rfl
  have z1 : (0 : Int32).toNatClampNeg = 0 := rfl
  intro d
  induction d with
  | zero =>
    intro j f S hj hf
    obtain ⟨f, rfl⟩ : ∃ g, f = g + 1 := ⟨f - 1, by omega⟩
    refine ⟨S, ?_⟩
    rw [lM_eq, z0, n_chk_t, z1, n_set_ne (show (119 : Nat) ≠ 132 by decide), l2, if_pos (nI_le (by omega) (by omega)), List.drop_of_length_le (by omega)]
    rfl
  | succ d ih =>
    intro j f S hj hf
    obtain ⟨f, rfl⟩ : ∃ g, f = g + 1 := ⟨f - 1, by omega⟩
    have hx : ls[j]? = some (ls[j]'(by omega)) := List.getElem?_eq_getElem (by omega)
    obtain ⟨x1, x2, x3, fr, x4, x5, x6, x7, x8⟩ := l3 j _ hx
    have hd : ls.drop j = ls[j]'(by omega) :: ls.drop (j + 1) := List.drop_eq_getElem_cons (by omega)
    have hi := n_ib_nI (show j < 48 by omega) (show 48 < 2 ^ 31 by decide)
    obtain ⟨a1, a2⟩ := l_atM_l x8
    have hb := a2.1
    rw [lM_eq, z0, n_chk_t, z1, n_set_ne (show (119 : Nat) ≠ 132 by decide), n_set_ne (show (120 : Nat) ≠ 132 by decide), n_set_ne (show (122 : Nat) ≠ 132 by decide), n_set_ne (show (123 : Nat) ≠ 132 by decide), l2, if_neg (nI_ge (by omega) (by omega)), hi, n_chk_t, nI_clamp (show j < 2 ^ 31 by omega), x4, hd]
    unfold l_fd
    by_cases c1 : ls[j].1 = w
    · rw [if_neg (by rw [c1]; exact not_not_intro rfl), n_chk_t, n_chk_t, x6, x7]
      rcases x3 with x3 | ⟨x3, x3'⟩
      · rw [x3, if_pos (by rfl), if_pos ⟨c1, Or.inl rfl⟩]
        exact ⟨S, rfl⟩
      · have hne : ls[j].2.2 ≠ [] := fun e => by
          rw [e] at x3
          cases x3
        have hlen : 0 < (l_mods ls[j].2.2).length := by
          rcases Nat.eq_zero_or_pos (l_mods ls[j].2.2).length with z | z
          · exact absurd (l_mods_nil z) hne
          · exact z
        rw [if_neg (fun e => by have := (nI_eq (by omega) (by omega)).mp e; omega), n_chk_t, n_chk_t]
        obtain ⟨S2, e2⟩ := e_runs (N := N) (f := fr + (l_mods ls[j].2.1).length) (F := F) (M := n_set M 132 S) (c := ls[j].2.2) (b := true) hN x3 x3' (l_ev_one x3) (fun k x hk => by rw [n_set_ne (by decide), n_set_ne (by decide)]; exact a2.2 k x hk) hb (fun v hv => by rw [n_set_ne (by decide)]; exact hF v hv)
        rw [e2, Option.bind_some, lM2, n_set_set]
        show ∃ S', (if l_val F ls[j].2.2 = 0 then _ else _) = _
        by_cases c2 : l_val F ls[j].2.2 = 0
        · rw [if_pos c2, if_neg (fun z => by rcases z.2 with z | z; exact hne z; exact z c2), nI_1]
          exact ih (j + 1) f S2 (by omega) (by omega)
        · rw [if_neg c2, if_pos ⟨c1, Or.inr c2⟩]
          exact ⟨S2, rfl⟩
    · rw [if_pos (fun e => c1 ((nI_eq (by omega) (by omega)).mp e)), if_neg (fun z => c1 z.1), nI_1]
      exact ih (j + 1) f S (by omega) (by omega)
theorem l_fd_b {F : Nat → Int32} {w : Nat} : ∀ {ls : List lLn} {j i : Nat}, l_fd F w ls j = some i → j ≤ i ∧ i < j + ls.length
  | [], j, i, h => by cases h
  | x :: t, j, i, h => by
    unfold l_fd at h
    rw [List.length_cons]
    split at h
    · cases h; omega
    · have := l_fd_b h
      omega
