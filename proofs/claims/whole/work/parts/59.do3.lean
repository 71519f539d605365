/-! ===== notes, room, sleeve ===== -/
def d_nr (th : Bool) (row : Nat → Int32) : Nat → Int32 := if th = true ∨ row 2 = 150 then row else upd row 2 (row 2 + 1)
def d_nb (th : Bool) (a b c : Int32) (row bk : Nat → Int32) : Nat → Int32 := if th = true ∨ row 2 = 150 then bk else w4 bk (4 * (row 2).toNatClampNeg) (row 0) a b c
theorem e_write4 {G : nG} {M : nM} {k : Nat} (hG : n_GOK G) (hw : r_wm (M 14 1) (M 14 2) 4 150) (hk : k < 150) (x a b c : Int32) : fX7_write G 14 (nI k) x a b c M = some ((), n_set M 15 (w4 (M 15) (4 * k) x a b c)) := by
  obtain ⟨h1, h2⟩ := hw
  have hb : Nat.beq (n_kd G 14) 7 = true := by rw [gk14 hG]; rfl
  have hm := gm14_0 hG
  have c3 : nI k * nI 4 = nI (4 * k) := by rw [pk_mul, Nat.mul_comm]
  have e1 : nI (4 * k) + (1 : Int32) = nI (4 * k + 1) := nI_1 _
  have e2 : nI (4 * k) + (2 : Int32) = nI (4 * k + 2) := nI_add _ 2
  have e3 : nI (4 * k) + (3 : Int32) = nI (4 * k + 3) := nI_add _ 3
  have i0 := n_in_nI (gk15 hG) (gl15 hG) (show 4 * k < 600 by omega) (by decide)
  have i1 := n_in_nI (gk15 hG) (gl15 hG) (show 4 * k + 1 < 600 by omega) (by decide)
  have i2 := n_in_nI (gk15 hG) (gl15 hG) (show 4 * k + 2 < 600 by omega) (by decide)
  have i3 := n_in_nI (gk15 hG) (gl15 hG) (show 4 * k + 3 < 600 by omega) (by decide)
  unfold fX7_write fX7_write_47 fX7_write_66 w4
  simp only [hb, hm, h1, h2, c3, e1, e2, e3, i0, i1, i2, i3, n_chk_t, nI_pos (show k < 2 ^ 31 by omega), nI_lt hk (show 150 < 2 ^ 31 by decide), n_up_n, n_set_set, n_set_eq, n_set_ne (show (14 : Nat) ≠ 15 by decide), nI_clamp (show 4 * k < 2 ^ 31 by omega), nI_clamp (show 4 * k + 1 < 2 ^ 31 by omega), nI_clamp (show 4 * k + 2 < 2 ^ 31 by omega), nI_clamp (show 4 * k + 3 < 2 ^ 31 by omega), show ¬ nI 4 ≤ (1 : Int32) by decide, show ¬ nI 4 ≤ (2 : Int32) by decide, show ¬ nI 4 ≤ (3 : Int32) by decide, ↓reduceIte]
theorem r_eq_w4 {N k : Nat} {s t : Nat → Int32} {a b c d : Int32} (h : r_eq N s t) : r_eq N (w4 s k a b c d) (w4 t k a b c d) := by
  unfold w4
  exact r_eq_upd (r_eq_upd (r_eq_upd (r_eq_upd h)))
theorem r_mov_ln {lost tied locked found hour draws lines : Int32} {i mv pa se row : Nat → Int32} {n q : Nat} (h : r_mov lost tied locked found hour draws lines i mv pa se row n q) : hour = row 0 ∧ lines = row 2 ∧ ∃ k : Nat, k ≤ 150 ∧ lines = nI k := ⟨h.2.2.2.2.2.2.2.2.1, h.2.2.2.2.2.2.2.2.2.2.1, h.2.2.2.2.2.2.2.2.2.2.2⟩
theorem c_ntC {G : nG} {M0 m M : nM} {a n q : Nat} {ls : List lLn} {th : Bool} {row bk : Nat → Int32} {x y z : Int32} (he : EV G M0 m ls n q) (ha : a = 9 ∨ a = 93) (h : CD M0 M a th row bk n q) : ∃ M' : nM, fX0_note G a x y z M = some ((), M') ∧ CD M0 M' a th (d_nr th row) (d_nb th x y z row bk) n q := by
  obtain ⟨hG, -, -, -, hwm⟩ := he
  obtain ⟨hf, h0, hm, hb⟩ := id h
  have hMv : n_Mv G a := by rcases ha with rfl | rfl; exact n_Mv9 hG; exact n_Mv93 hG
  have hk : Nat.beq (n_kd G a) 4 = true := by rw [hMv.1]; rfl
  obtain ⟨eh, el, k, hk150, ek⟩ := r_mov_ln hm
  have er : row 2 = nI k := el.symm.trans ek
  unfold fX0_note d_nr d_nb
  rw [hk, n_chk_t, h0]
  cases th with
  | true =>
    refine ⟨M, ?_, ?_⟩
    · rw [if_pos (show ¬ cb true = (0 : Int32) by decide)]
    · rw [if_pos (Or.inl rfl), if_pos (Or.inl rfl)]; exact h
  | false =>
    rw [if_neg (show ¬ ¬ cb false = (0 : Int32) from not_not_intro rfl), n_chk_t, ek]
    by_cases hk2 : k = 150
    · subst hk2
      refine ⟨M, ?_, ?_⟩
      · rw [if_pos (show (150 : Int32) ≤ nI 150 by decide)]
      · rw [if_pos (show false = true ∨ row 2 = 150 from Or.inr er), if_pos (show false = true ∨ row 2 = 150 from Or.inr er)]; exact h
    · have hk3 : k < 150 := by omega
      have hne : ¬ (false = true ∨ row 2 = 150) := fun z => by
        rcases z with z | z
        · cases z
        · rw [er] at z
          have := (nI_eq (b := 150) (by omega) (by decide)).mp z
          omega
      rw [if_neg (show ¬ (150 : Int32) ≤ nI k from nI_ge (b := 150) hk3 (by decide)), n_chk_t, n_chk_t, if_neg hne, if_neg hne, er, nI_clamp (by omega), eh]
      have hw2 : r_wm (M 14 1) (M 14 2) 4 150 := by rw [hf 14 (by omega) (by decide) (by decide) (by decide)]; exact hwm
      rw [e_write4 hG hw2 hk3, Option.bind_some]
      refine ⟨n_up (n_set M 15 (w4 (M 15) (4 * k) (row 0) x y z)) a 11 (nI (k + 1)), ?_, ?_⟩
      · show n_chk true (n_chk true (some ((), n_up (n_set M 15 (w4 (M 15) (4 * k) (row 0) x y z)) a 11 (n_set M 15 (w4 (M 15) (4 * k) (row 0) x y z) a 11 + 1)))) = _
        rw [n_chk_t, n_chk_t, n_set_ne (show a ≠ 15 by omega), ek, nI_1]
      · refine ⟨fun c g1 g2 g3 g4 => ?_, ?_, ?_, ?_⟩
        · rw [n_up_ne (by omega), n_set_ne g2]; exact hf c g1 g2 g3 g4
        · rw [n_up_eq, upd_ne (by decide), n_set_ne (show a ≠ 15 by omega)]; exact h0
        · rw [n_up_eq, n_set_ne (show a ≠ 15 by omega), upd_ne (show (5 : Nat) ≠ 11 by decide), upd_ne (show (6 : Nat) ≠ 11 by decide), upd_ne (show (7 : Nat) ≠ 11 by decide), upd_ne (show (8 : Nat) ≠ 11 by decide), upd_ne (show (9 : Nat) ≠ 11 by decide), upd_ne (show (10 : Nat) ≠ 11 by decide), upd_eq, n_up_ne (show a + 1 ≠ a by omega), n_up_ne (show a + 2 ≠ a by omega), n_up_ne (show a + 3 ≠ a by omega), n_up_ne (show a + 4 ≠ a by omega), n_set_ne (show a + 1 ≠ 15 by omega), n_set_ne (show a + 2 ≠ 15 by omega), n_set_ne (show a + 3 ≠ 15 by omega), n_set_ne (show a + 4 ≠ 15 by omega), nI_1]
          exact r_mov_lines (by omega) hm
        · rw [n_up_ne (by omega), n_set_eq]
          exact r_eq_w4 hb
theorem c_ntM {m : nM} {k : Nat} {th : Bool} {row bk f S : Nat → Int32} {x y z : Int32} (hth : m 107 5 = cb th) (hk : k ≤ 150) (er : row 2 = nI k) : fX12_notes x y z (dM m row bk f S) = some ((), dM m (d_nr th row) (d_nb th x y z row bk) f S) := by
  unfold fX12_notes d_nr d_nb
  rw [dM_ne (c := 107) (by decide) (by decide) (by decide) (by decide), hth]
  cases th with
  | true => rw [if_pos (show ¬ cb true = (0 : Int32) by decide), if_pos (Or.inl rfl), if_pos (Or.inl rfl)]
  | false =>
    rw [if_neg (show ¬ ¬ cb false = (0 : Int32) from not_not_intro rfl), show n_ib 100 (2 : Int32) = true from rfl, n_chk_t, k2, dM_108, er]
    by_cases hk2 : k = 150
    · subst hk2
      rw [if_neg (show ¬ ¬ nI 150 = (150 : Int32) from not_not_intro rfl), if_pos (show false = true ∨ nI 150 = (150 : Int32) from Or.inr rfl), if_pos (show false = true ∨ nI 150 = (150 : Int32) from Or.inr rfl)]
    · have hk3 : k < 150 := by omega
      have hne : ¬ nI k = (150 : Int32) := fun z => by have := (nI_eq (b := 150) (by omega) (by decide)).mp z; omega
      have hne2 : ¬ (false = true ∨ nI k = 150) := fun z => by rcases z with z | z; cases z; exact hne z
      have e4 : (4 : Int32) * nI k = nI (4 * k) := pk_mul 4 k
      have e1 : nI (4 * k) + (1 : Int32) = nI (4 * k + 1) := nI_1 _
      have e2 : nI (4 * k) + (2 : Int32) = nI (4 * k + 2) := nI_add _ 2
      have e3 : nI (4 * k) + (3 : Int32) = nI (4 * k + 3) := nI_add _ 3
      have i0 := n_ib_nI (show 4 * k < 600 by omega) (show 600 < 2 ^ 31 by decide)
      have i1 := n_ib_nI (show 4 * k + 1 < 600 by omega) (show 600 < 2 ^ 31 by decide)
      have i2 := n_ib_nI (show 4 * k + 2 < 600 by omega) (show 600 < 2 ^ 31 by decide)
      have i3 := n_ib_nI (show 4 * k + 3 < 600 by omega) (show 600 < 2 ^ 31 by decide)
      rw [if_pos hne, if_neg hne2, if_neg hne2]
      unfold w4
      simp only [e4, e1, e2, e3, i0, i1, i2, i3, n_chk_t, show n_ib 100 (2 : Int32) = true from rfl, show n_ib 100 (0 : Int32) = true from rfl, k0, k2, dM_108, dM_u116, dM_u108, er, nI_1, nI_clamp (show k < 2 ^ 31 by omega), nI_clamp (show 4 * k < 2 ^ 31 by omega), nI_clamp (show 4 * k + 1 < 2 ^ 31 by omega), nI_clamp (show 4 * k + 2 < 2 ^ 31 by omega), nI_clamp (show 4 * k + 3 < 2 ^ 31 by omega)]
/-! room -/
def d_room (m : nM) (n : Nat) (row : Nat → Int32) (pl t : Nat) : Bool := !decide (m 111 pl + 9 < p_full n (fun k => row (28 + k)) (m 112) (nI pl) + (if row (28 + t) = nI pl then 0 else m 112 t))
theorem c_full {G : nG} {M0 m M : nM} {N a n q : Nat} {ls : List lLn} {th : Bool} {row bk : Nat → Int32} (hN : 1000 ≤ N) (he : EV G M0 m ls n q) (ha : a = 9 ∨ a = 93) (h : CD M0 M a th row bk n q) (x : Int32) : fX0_fullOf N G a x M = some (p_full n (fun k => row (28 + k)) (m 112) x, M) := by
  obtain ⟨hG, ⟨⟨s1, s2⟩, ⟨s3, s4⟩, -, s7, s8, -⟩, -, -, -⟩ := he
  obtain ⟨hf, h0, hm, hb⟩ := id h
  have hMv : n_Mv G a := by rcases ha with rfl | rfl; exact n_Mv9 hG; exact n_Mv93 hG
  have e3 : M 3 = M0 3 := hf 3 (by omega) (by decide) (by decide) (by decide)
  have e5 : M 5 = M0 5 := hf 5 (by omega) (by decide) (by decide) (by decide)
  rw [e_fullOf_c (G := G) (M := M) (N := N) (a := a) (c := a + 1) hN hMv.1 hMv.2.1.1 hMv.2.2.1.1 hMv.2.2.2.1 (by rw [e3]; exact s3) s1 x, e5]
  exact congrArg (fun z => some (z, M)) (p_full_c (fun i hi => hm.1.1 i (by omega)) (fun i hi => s8 i (by omega)))
theorem c_roomC {G : nG} {M0 m M : nM} {N a n q t pl : Nat} {ls : List lLn} {th : Bool} {row bk : Nat → Int32} (hN : 1000 ≤ N) (he : EV G M0 m ls n q) (ha : a = 9 ∨ a = 93) (h : CD M0 M a th row bk n q) (ht : t < 16) (hpl : pl < 12) : fX0_hasRoom N G a (nI t) (nI pl) M = some (cb (d_room m n row pl t), M) := by
  have hfull := c_full hN he ha h (nI pl)
  obtain ⟨hG, ⟨⟨s1, s2⟩, ⟨s3, s4⟩, -, s7, s8, -⟩, -, -, -⟩ := he
  obtain ⟨hf, h0, hm, hb⟩ := id h
  have hMv : n_Mv G a := by rcases ha with rfl | rfl; exact n_Mv9 hG; exact n_Mv93 hG
  have hk : Nat.beq (n_kd G a) 4 = true := by rw [hMv.1]; rfl
  have e4 : M 4 pl = m 111 pl + 9 := by rw [hf 4 (by omega) (by decide) (by decide) (by decide)]; exact s7 pl hpl
  have e5 : M 5 t = m 112 t := by rw [hf 5 (by omega) (by decide) (by decide) (by decide)]; exact s8 t ht
  have i1 := n_in_nI hMv.2.2.1.1 hMv.2.2.2.1 ht (by decide)
  have ei := hm.1.1 t ht
  have f35 : ∀ v : Int32, fX0_hasRoom_35 N G (nI pl) v M = some (cb (!decide (m 111 pl + 9 < v)), M) := fun v => by
    unfold fX0_hasRoom_35
    rw [n_ib_nI hpl (by decide), n_chk_t, nI_clamp (by omega), e4]
    by_cases hc : m 111 pl + 9 < v
    · rw [if_pos hc, decide_eq_true hc]; rfl
    · rw [if_neg hc, decide_eq_false hc]; rfl
  unfold fX0_hasRoom d_room
  rw [hfull, Option.bind_some]
  show n_chk (Nat.beq (n_kd G a) 4) (n_chk (n_in G 14 (n_mr G a 1) (nI t)) (if (M (n_mr G a 1) (nI t).toNatClampNeg) = nI pl then fX0_hasRoom_35 N G (nI pl) (p_full n (fun k => row (28 + k)) (m 112) (nI pl)) M else n_chk (n_ib 16 (nI t)) (fX0_hasRoom_35 N G (nI pl) (p_full n (fun k => row (28 + k)) (m 112) (nI pl) + M 5 (nI t).toNatClampNeg) M))) = _
  rw [hk, n_chk_t, hMv.2.1.1, i1, n_chk_t, nI_clamp (by omega), ei, f35, n_ib_nI ht (by decide), n_chk_t, f35, e5]
  by_cases hc : row (28 + t) = nI pl
  · rw [if_pos hc, if_pos hc, Int32.add_zero]
  · rw [if_neg hc, if_neg hc]
theorem c_roomM {G : nG} {M0 m : nM} {N n q t pl : Nat} {ls : List lLn} {row bk f S : Nat → Int32} (hN : 1000 ≤ N) (he : EV G M0 m ls n q) (ht : t < 16) (hpl : pl < 12) : fX12_hasRoom N (nI pl) (nI t) (dM m row bk f S) = some (cb (d_room m n row pl t), dM m row bk f S) := by
  obtain ⟨hG, ⟨⟨s1, s2⟩, -, ⟨s5, s6⟩, -⟩, -⟩ := he
  have e28 : (28 : Int32) + nI t = nI (28 + t) := nI_add 28 t
  have i28 := n_ib_nI (show 28 + t < 100 by omega) (show 100 < 2 ^ 31 by decide)
  have hfull := e_fullOf_m (M := dM m row bk f S) (N := N) hN s5 s1 (nI pl)
  have f28 : ∀ u v : Int32, fX12_hasRoom_28 N (nI pl) u v (dM m row bk f S) = some (cb (!decide (m 111 pl + 9 < v + u)), dM m row bk f S) := fun u v => by
    unfold fX12_hasRoom_28 fX12_roomOf
    rw [n_ib_nI hpl (by decide), n_chk_t, Option.bind_some, nI_clamp (by omega), dM_ne (c := 111) (by decide) (by decide) (by decide) (by decide)]
    show (if m 111 pl + 9 < v + u then some ((0 : Int32), dM m row bk f S) else some (1, dM m row bk f S)) = _
    by_cases hc : m 111 pl + 9 < v + u
    · rw [if_pos hc, decide_eq_true hc]; rfl
    · rw [if_neg hc, decide_eq_false hc]; rfl
  unfold fX12_hasRoom d_room
  rw [hfull, Option.bind_some, e28, i28, n_chk_t, nI_clamp (by omega)]
  show (if ¬ row (28 + t) = nI pl then n_chk (n_ib 16 (nI t)) (fX12_hasRoom_28 N (nI pl) (m 112 (nI t).toNatClampNeg) (p_full n (fun k => row (28 + k)) (m 112) (nI pl)) (dM m row bk f S)) else fX12_hasRoom_28 N (nI pl) 0 (p_full n (fun k => row (28 + k)) (m 112) (nI pl)) (dM m row bk f S)) = _
  rw [n_ib_nI ht (by decide), n_chk_t, nI_clamp (by omega), f28, f28]
  by_cases hc : row (28 + t) = nI pl
  · rw [if_neg (not_not_intro hc), if_pos hc]
  · rw [if_pos hc, if_neg hc]
/-! the sleeve -/
def d_sl (m : nM) (n : Nat) (row : Nat → Int32) (t pl far : Nat) : Nat → Nat → Nat
  | 0, _ => pl
  | d + 1, i => if (pl + far + i) % 12 ≠ pl ∧ d_room m n row ((pl + far + i) % 12) t = true then (pl + far + i) % 12 else d_sl m n row t pl far d (i + 1)
theorem d_sl_b {m : nM} {n : Nat} {row : Nat → Int32} {t pl far : Nat} (hpl : pl < 12) : ∀ d i, d_sl m n row t pl far d i < 12
  | 0, _ => hpl
  | d + 1, i => by
    unfold d_sl
    split
    · omega
    · exact d_sl_b hpl d (i + 1)
theorem r_mod12 {i : Nat} (hi : i < 2 ^ 31) : nI i - nI i / (12 : Int32) * (12 : Int32) = nI (i % 12) := pk_rem (d := 12) hi (by decide) (by decide)
def sl2 (N f : Nat) (G : nG) (a : Nat) (x2 x3 x4 x5 v1 : Int32) (M : nM) : Option (Int32 × nM) := if v1 = x3 then fX0_sleeve_3 N G f a x2 x3 x4 (x5 + (1 : Int32)) M else (fX0_hasRoom N G a x2 v1 M).bind fun p3 => if p3.1 = 0 then fX0_sleeve_3 N G f a x2 x3 x4 (x5 + (1 : Int32)) p3.2 else some (v1, p3.2)
theorem sl_eq (N f : Nat) (G : nG) (a : Nat) (x2 x3 x4 x5 : Int32) (M : nM) : fX0_sleeve_3 N G (f + 1) a x2 x3 x4 x5 M = if (12 : Int32) ≤ x5 then some (x3, M) else if (12 : Int32) = 0 then none else sl2 N f G a x2 x3 x4 x5 (((x3 + x4) + x5) - ((x3 + x4) + x5) / (12 : Int32) * (12 : Int32)) M := rfl
theorem c_slC {G : nG} {M0 m M : nM} {N a n q t pl far : Nat} {ls : List lLn} {th : Bool} {row bk : Nat → Int32} (hN : 1000 ≤ N) (he : EV G M0 m ls n q) (ha : a = 9 ∨ a = 93) (h : CD M0 M a th row bk n q) (ht : t < 16) (hpl : pl < 12) (hfar : far ≤ 1000) : ∀ (d i f : Nat), i + d = 12 → d < f → fX0_sleeve_3 N G f a (nI t) (nI pl) (nI far) (nI i) M = some (nI (d_sl m n row t pl far d i), M) := by
  intro d
  induction d with
  | zero =>
    intro i f hi hf
    obtain ⟨f, rfl⟩ : ∃ g, f = g + 1 := ⟨f - 1, by omega⟩
    rw [sl_eq, if_pos (show (12 : Int32) ≤ nI i from nI_le (a := 12) (by omega) (by omega))]
    rfl
  | succ d ih =>
    intro i f hi hf
    obtain ⟨f, rfl⟩ : ∃ g, f = g + 1 := ⟨f - 1, by omega⟩
    have hr := c_roomC (t := t) (pl := (pl + far + i) % 12) hN he ha h ht (by omega)
    rw [sl_eq, if_neg (show ¬ (12 : Int32) ≤ nI i from nI_ge (b := 12) (by omega) (by decide)), if_neg (show ¬ (12 : Int32) = 0 by decide), nI_add, nI_add, r_mod12 (by omega), sl2, nI_1]
    unfold d_sl
    by_cases hc : (pl + far + i) % 12 = pl
    · rw [if_pos (by rw [hc]), if_neg (fun z => z.1 hc)]
      exact ih (i + 1) f (by omega) (by omega)
    · rw [if_neg (fun z => hc ((nI_eq (by omega) (by omega)).mp z)), hr, Option.bind_some]
      cases hd : d_room m n row ((pl + far + i) % 12) t with
      | false =>
        rw [if_neg (show ¬ ((pl + far + i) % 12 ≠ pl ∧ false = true) from fun z => absurd z.2 (by decide)), if_pos (show (cb false, M).1 = (0 : Int32) from rfl)]
        exact ih (i + 1) f (by omega) (by omega)
      | true =>
        rw [if_pos (show (pl + far + i) % 12 ≠ pl ∧ true = true from ⟨hc, rfl⟩), if_neg (show ¬ (cb true, M).1 = (0 : Int32) from (by decide : ¬ cb true = (0 : Int32)))]
