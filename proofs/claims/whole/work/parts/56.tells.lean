/-! ===== palms, far, finds ===== -/
theorem n_up_n {M : nM} {a k : Nat} {v : Int32} : n_up M a k v = n_set M a (upd (M a) k v) := by
  funext b
  by_cases h : b = a
  · rw [h, n_up_eq, n_set_eq]
  · rw [n_up_ne h, n_set_ne h]
def p_F (sl wi si wo row : Nat → Int32) (n p t pl : Nat) : Nat → Int32 := fun v => match v with
  | 0 => sl p
  | 1 => wi p
  | 2 => si t
  | 3 => wo t
  | 4 => nI pl
  | 5 => p_full n (fun k => row (28 + k)) si (nI pl)
  | 6 => row (4 + pl)
  | 7 => row (44 + t)
  | 8 => row (60 + t)
  | 9 => row (88 + p)
  | _ => row 0
def l_or (F : Nat → Int32) (ls : List lLn) (r : Option Nat) (v : Int32) : Int32 := match r with
  | some i => l_val F (ls.getD i (0, [], [])).2.1
  | none => v
def p_tell (ls : List lLn) (F : Nat → Int32) (w : Nat) : Int32 := l_or F ls (l_fd F w ls 0) (if w = 0 then (80 : Int32) * F 0 - (20 : Int32) * F 2 else if w = 1 then (1 : Int32) + F 0 else (500 : Int32) + (50 : Int32) * F 1)
def p_clamp (v most : Int32) : Int32 := if (0 : Int32) ≤ v then (if v ≤ most then v else most) else 0
def p_ask (ls : List lLn) (F : Nat → Int32) (w : Nat) : Int32 := p_clamp (p_tell ls F w) (if w = 1 then 99 else 1000)
theorem e_clampC {v most : Int32} (hm : (0 : Int32) ≤ most) : (if (0 : Int32) < (if most < v then most else v) then (if most < v then most else v) else (0 : Int32)) = p_clamp v most := by
  unfold p_clamp
  by_cases h1 : most < v
  · rw [if_pos h1, if_pos (Int32.le_trans hm (Int32.le_of_lt h1)), if_neg (Int32.not_le.mpr h1)]
    by_cases h2 : (0 : Int32) < most
    · rw [if_pos h2]
    · rw [if_neg h2]
      exact Int32.le_antisymm hm (Int32.not_lt.mp h2)
  · rw [if_neg h1]
    have h1' : v ≤ most := Int32.not_lt.mp h1
    by_cases h2 : (0 : Int32) < v
    · rw [if_pos h2, if_pos (Int32.le_of_lt h2), if_pos h1']
    · rw [if_neg h2]
      by_cases h3 : (0 : Int32) ≤ v
      · rw [if_pos h3, if_pos h1']
        exact Int32.le_antisymm h3 (Int32.not_lt.mp h2)
      · rw [if_neg h3]
theorem e_held {v most : Int32} (M : nM) : fX12_held v 0 most M = some (p_clamp v most, M) := by
  unfold fX12_held p_clamp
  by_cases h1 : (0 : Int32) ≤ v
  · rw [if_pos h1, if_pos h1]
    by_cases h2 : v ≤ most
    · rw [if_pos h2, if_pos h2]
    · rw [if_neg h2, if_neg h2]
  · rw [if_neg h1, if_neg h1]
theorem k0 : (0 : Int32).toNatClampNeg = 0 := rfl
theorem k1 : (1 : Int32).toNatClampNeg = 1 := rfl
theorem k2 : (2 : Int32).toNatClampNeg = 2 := rfl
theorem k3 : (3 : Int32).toNatClampNeg = 3 := rfl
theorem k4 : (4 : Int32).toNatClampNeg = 4 := rfl
theorem k5 : (5 : Int32).toNatClampNeg = 5 := rfl
theorem k6 : (6 : Int32).toNatClampNeg = 6 := rfl
theorem k7 : (7 : Int32).toNatClampNeg = 7 := rfl
theorem k8 : (8 : Int32).toNatClampNeg = 8 := rfl
theorem k9 : (9 : Int32).toNatClampNeg = 9 := rfl
theorem k10 : (10 : Int32).toNatClampNeg = 10 := rfl
theorem ib0 : n_ib 11 (0 : Int32) = true := rfl
theorem ib1 : n_ib 11 (1 : Int32) = true := rfl
theorem ib2 : n_ib 11 (2 : Int32) = true := rfl
theorem ib3 : n_ib 11 (3 : Int32) = true := rfl
theorem ib4 : n_ib 11 (4 : Int32) = true := rfl
theorem ib5 : n_ib 11 (5 : Int32) = true := rfl
theorem ib6 : n_ib 11 (6 : Int32) = true := rfl
theorem ib7 : n_ib 11 (7 : Int32) = true := rfl
theorem ib8 : n_ib 11 (8 : Int32) = true := rfl
theorem ib9 : n_ib 11 (9 : Int32) = true := rfl
theorem ib10 : n_ib 11 (10 : Int32) = true := rfl
/-- eleven values in a row -/
def w11 (f : Nat → Int32) (a0 a1 a2 a3 a4 a5 a6 a7 a8 a9 a10 : Int32) : Nat → Int32 := upd (upd (upd (upd (upd (upd (upd (upd (upd (upd (upd f 0 a0) 1 a1) 2 a2) 3 a3) 4 a4) 5 a5) 6 a6) 7 a7) 8 a8) 9 a9) 10 a10
theorem e_gather {G : nG} {M : nM} {N a n p t pl : Nat} (hN : 1000 ≤ N) (hMv : n_Mv G a) (ha : 9 ≤ a ∧ (a + 4 < 46 ∨ 47 < a)) (hn : M 3 5 = nI n) (hn16 : n ≤ 16) (hp : p < 12) (ht : t < 16) (hpl : pl < 12) :
    fX0_gatherFacts N G a (nI p) (nI t) (nI pl) M = some ((), n_set M 46 (w11 (M 46) (M 7 p) (M 8 p) (M 5 t) (M 6 t) (nI pl) (p_full n (M (a + 1)) (M 5) (nI pl)) (cb (bt (M a 7) pl)) (M (a + 2) t) (cb (bt (M a 5) t)) (M (a + 3) p) (M a 9))) := by
  obtain ⟨a0, ⟨a1, a2, a3, a4⟩, ⟨a5, a6, a7, a8⟩, ⟨a9, a10, a11, a12⟩⟩ := hMv
  have hb : Nat.beq (n_kd G a) 4 = true := by rw [a0]; rfl
  have i12 := n_ib_nI hp (show 12 < 2 ^ 31 by decide)
  have i16 := n_ib_nI ht (show 16 < 2 ^ 31 by decide)
  have j1 := n_in_nI a6 a10 ht (by decide)
  have j2 := n_in_nI a7 a11 hp (by decide)
  have na : a ≠ 46 := by omega
  have na1 : a + 1 ≠ 46 := by omega
  have na2 : a + 2 ≠ 46 := by omega
  have na3 : a + 3 ≠ 46 := by omega
  have ef : ∀ f : Nat → Int32, fX0_fullOf N G a (nI pl) (n_set M 46 f) = some (p_full n (M (a + 1)) (M 5) (nI pl), n_set M 46 f) := fun f => by
    have := e_fullOf_c (G := G) (M := n_set M 46 f) (N := N) (a := a) (c := a + 1) hN a0 a1 a5 a9 (by rw [n_set_ne (by decide)]; exact hn) hn16 (nI pl)
    rw [n_set_ne na1, n_set_ne (show (5 : Nat) ≠ 46 by decide)] at this
    exact this
  unfold fX0_gatherFacts w11
  simp only [n_up_n, n_set_set, n_set_eq, n_chk_t, i12, i16, hb, a2, a3, j1, j2, ef, e_bit (show pl < 32 by omega), e_bit (show t < 32 by omega), Option.bind_some, n_set_ne na, n_set_ne na2, n_set_ne na3, n_set_ne (show (5 : Nat) ≠ 46 by decide), n_set_ne (show (6 : Nat) ≠ 46 by decide), n_set_ne (show (7 : Nat) ≠ 46 by decide), n_set_ne (show (8 : Nat) ≠ 46 by decide), nI_clamp (show p < 2 ^ 31 by omega), nI_clamp (show t < 2 ^ 31 by omega), k0, k1, k2, k3, k4, k5, k6, k7, k8, k9, k10, ib0, ib1, ib2, ib3, ib4, ib5, ib6, ib7, ib8, ib9, ib10]
theorem w11_F {f : Nat → Int32} {a0 a1 a2 a3 a4 a5 a6 a7 a8 a9 a10 : Int32} {sl wi si wo row : Nat → Int32} {n p t pl : Nat} (h0 : a0 = sl p) (h1 : a1 = wi p) (h2 : a2 = si t) (h3 : a3 = wo t) (h4 : a4 = nI pl) (h5 : a5 = p_full n (fun k => row (28 + k)) si (nI pl)) (h6 : a6 = row (4 + pl)) (h7 : a7 = row (44 + t)) (h8 : a8 = row (60 + t)) (h9 : a9 = row (88 + p)) (h10 : a10 = row 0) : ∀ v, v < 11 → w11 f a0 a1 a2 a3 a4 a5 a6 a7 a8 a9 a10 v = p_F sl wi si wo row n p t pl v := by
  intro v hv
  rcases (show v = 0 ∨ v = 1 ∨ v = 2 ∨ v = 3 ∨ v = 4 ∨ v = 5 ∨ v = 6 ∨ v = 7 ∨ v = 8 ∨ v = 9 ∨ v = 10 by omega) with rfl | rfl | rfl | rfl | rfl | rfl | rfl | rfl | rfl | rfl | rfl
  · exact h0
  · exact h1
  · exact h2
  · exact h3
  · exact h4
  · exact h5
  · exact h6
  · exact h7
  · exact h8
  · exact h9
  · exact h10
theorem e_wl {M : nM} {w : Nat} {F : Nat → Int32} (hw : w < 3) (hF : ∀ v, v < 11 → M 46 v = F v) : fX0_withoutLaw (nI w) M = some ((if w = 0 then (80 : Int32) * F 0 - (20 : Int32) * F 2 else if w = 1 then (1 : Int32) + F 0 else (500 : Int32) + (50 : Int32) * F 1), M) := by
  have f0 := hF 0 (by decide)
  have f1 := hF 1 (by decide)
  have f2 := hF 2 (by decide)
  unfold fX0_withoutLaw
  rcases (show w = 0 ∨ w = 1 ∨ w = 2 by omega) with rfl | rfl | rfl
  · rw [if_neg (show ¬ ¬ nI 0 = (0 : Int32) from not_not_intro rfl), ib0, n_chk_t, ib2, n_chk_t, k0, k2, f0, f2]
    rfl
  · rw [if_pos (show ¬ nI 1 = (0 : Int32) by decide), if_neg (show ¬ ¬ nI 1 = (1 : Int32) from not_not_intro rfl), ib0, n_chk_t, k0, f0]
    rfl
  · rw [if_pos (show ¬ nI 2 = (0 : Int32) by decide), if_pos (show ¬ nI 2 = (1 : Int32) by decide), ib1, n_chk_t, k1, f1]
    rfl
theorem e_65 {N w : Nat} {G : nG} {v : Int32} {M : nM} (hw : w < 3) : fX0_asked_65 N G (nI w) v M = some (p_clamp v (if w = 1 then 99 else 1000), M) := by
  unfold fX0_asked_65 fX0_asked_80
  by_cases h : w = 1
  · subst h
    rw [if_neg (show ¬ ¬ nI 1 = (1 : Int32) from not_not_intro rfl), e_clampC (by decide)]
    rfl
  · rw [if_pos (show ¬ nI w = (1 : Int32) from fun e => h ((nI_eq (b := 1) (by omega) (by decide)).mp e)), e_clampC (by decide), if_neg h]
theorem e_askC0 {G : nG} {M : nM} {N w : Nat} {F : Nat → Int32} {ls : List lLn} (hN : 1000 ≤ N) (hw : w < 3) (hl : l_inC (M 16 6) (M 17) (M 18) (M 19) (M 20) (M 21) ls) (hF : ∀ v, v < 11 → M 46 v = F v) : ∃ S' : Nat → Int32, ((fX3_lineFor N (nI w) M).bind fun p2 => if ¬ p2.1 = (-1 : Int32) then (fX3_valueOf N p2.1 p2.2).bind fun p3 => fX0_asked_65 N G (nI w) p3.1 p3.2 else (fX0_withoutLaw (nI w) p2.2).bind fun p4 => fX0_asked_65 N G (nI w) p4.1 p4.2) = some (p_ask ls F w, n_set M 47 S') := by
  obtain ⟨S1, e1⟩ := e_lineC (N := N) (F := F) hN hw hl hF ls.length 0 N (M 47) (by omega) (by have := hl.1; omega)
  rw [n_set_self rfl, List.drop_zero] at e1
  have e1' : fX3_lineFor N (nI w) M = some (l_ix (l_fd F w ls 0), n_set M 47 S1) := e1
  rw [e1', Option.bind_some]
  show ∃ S' : Nat → Int32, (if ¬ l_ix (l_fd F w ls 0) = (-1 : Int32) then (fX3_valueOf N (l_ix (l_fd F w ls 0)) (n_set M 47 S1)).bind (fun p3 => fX0_asked_65 N G (nI w) p3.1 p3.2) else (fX0_withoutLaw (nI w) (n_set M 47 S1)).bind (fun p4 => fX0_asked_65 N G (nI w) p4.1 p4.2)) = _
  obtain ⟨l1, l2, l3⟩ := hl
  unfold p_ask p_tell
  cases hfd : l_fd F w ls 0 with
  | none =>
    refine ⟨S1, ?_⟩
    rw [if_neg (show ¬ ¬ l_ix none = (-1 : Int32) from not_not_intro rfl), e_wl (F := F) hw (fun v hv => by rw [n_set_ne (by decide)]; exact hF v hv), Option.bind_some, e_65 hw]
    rfl
  | some i =>
    have hi := l_fd_b hfd
    have hx : ls[i]? = some (ls[i]'(by omega)) := List.getElem?_eq_getElem (by omega)
    obtain ⟨x1, x2, x3, fr, x4, x5, x6, x7, x8⟩ := l3 i _ hx
    obtain ⟨a1, a2⟩ := l_atC_l x8
    have hi16 := n_ib_nI (show i < 16 by omega) (show 16 < 2 ^ 31 by decide)
    obtain ⟨S2, -, e2⟩ := e_run (N := N) (f := fr) (F := F) (M := n_set M 47 S1) (c := ls[i].2.1) (b := false) hN x2.1 x2.2 (fun k x hk => by rw [n_set_ne (by decide)]; exact a1.2 k x hk) a1.1 (fun v hv => by rw [n_set_ne (by decide)]; exact hF v hv)
    refine ⟨S2, ?_⟩
    rw [show l_ix (some i) = nI i from rfl, if_pos (nI_nm1 (by omega))]
    have ev : fX3_valueOf N (nI i) (n_set M 47 S1) = some (l_val F ls[i].2.1, n_set M 47 S2) := by
      unfold fX3_valueOf
      rw [if_neg (nI_pos (by omega)), n_set_ne (show (16 : Nat) ≠ 47 by decide), l2, if_pos (nI_lt (by omega) (by omega)), hi16, n_chk_t, n_chk_t, nI_clamp (by omega), n_set_ne (show (19 : Nat) ≠ 47 by decide), n_set_ne (show (20 : Nat) ≠ 47 by decide), x5, x6, e2, Option.bind_some, n_set_set]
      rfl
    rw [ev, Option.bind_some, e_65 hw]
    have eg : ls.getD i (0, [], []) = ls[i] := by rw [List.getD_eq_getElem?_getD, hx]; rfl
    show some (p_clamp (l_val F ls[i].2.1) _, _) = some (p_clamp (l_val F (ls.getD i (0, [], [])).2.1) _, _)
    rw [eg]
/-- the class asks the law -/
theorem e_askC {G : nG} {M : nM} {N a n q w p t pl : Nat} {ls : List lLn} {row rb si wo sl wt : Nat → Int32} {mt mp : Int32} (hN : 1000 ≤ N) (hMv : n_Mv G a) (ha : 9 ≤ a ∧ (a + 4 < 46 ∨ 47 < a)) (hs : r_stock (M 3 5) (M 3 6) (M 4) (M 5) (M 6) (M 7) (M 8) mt mp rb si wo sl wt n q) (hm : r_mov (M a 5) (M a 6) (M a 7) (M a 8) (M a 9) (M a 10) (M a 11) (M (a + 1)) (M (a + 2)) (M (a + 3)) (M (a + 4)) row n q) (hl : l_inC (M 16 6) (M 17) (M 18) (M 19) (M 20) (M 21) ls) (hw : w < 3) (hp : p < 12) (ht : t < 16) (hpl : pl < 12) :
    ∃ f' S' : Nat → Int32, fX0_asked N G a (nI w) (nI p) (nI t) (nI pl) M = some (p_ask ls (p_F sl wt si wo row n p t pl) w, n_set (n_set M 46 f') 47 S') := by
  obtain ⟨⟨s1, s2⟩, ⟨s3, s4⟩, -, s7, s8, s9, s10, s11⟩ := hs
  obtain ⟨m1, m2, m3, m4, m5, m6, m7, m8, m9, m10, m11⟩ := hm
  have eg := e_gather (N := N) hN hMv ha s3 s1 hp ht hpl
  have hF := w11_F (f := M 46) (sl := sl) (wi := wt) (si := si) (wo := wo) (row := row) (n := n) (s10 p hp) (s11 p hp) (s8 t ht) (s9 t ht) (rfl : nI pl = nI pl) (p_full_c (p := nI pl) (fun i hi => m1.1 i (by omega)) (fun i hi => s8 i (by omega))) (r_bits_g m7 hpl) (m2 t ht) (r_bits_g m5 ht) (m3.1 p hp) m9
  obtain ⟨S', e⟩ := e_askC0 (G := G) (F := p_F sl wt si wo row n p t pl) (M := n_set M 46 (w11 (M 46) (M 7 p) (M 8 p) (M 5 t) (M 6 t) (nI pl) (p_full n (M (a + 1)) (M 5) (nI pl)) (cb (bt (M a 7) pl)) (M (a + 2) t) (cb (bt (M a 5) t)) (M (a + 3) p) (M a 9))) (N := N) hN hw hl (fun v hv => by rw [n_set_eq]; exact hF v hv)
  have e9 : fX0_asked N G a (nI w) (nI p) (nI t) (nI pl) M = some (p_ask ls (p_F sl wt si wo row n p t pl) w, n_set (n_set M 46 (w11 (M 46) (M 7 p) (M 8 p) (M 5 t) (M 6 t) (nI pl) (p_full n (M (a + 1)) (M 5) (nI pl)) (cb (bt (M a 7) pl)) (M (a + 2) t) (cb (bt (M a 5) t)) (M (a + 3) p) (M a 9))) 47 S') := by
    unfold fX0_asked
    rw [eg, Option.bind_some]
    exact e
  exact ⟨_, S', e9⟩
/-- the model asks the law -/
theorem e_gatherM {M : nM} {N n p t pl : Nat} (hN : 1000 ≤ N) (hn : M 107 6 = nI n) (hn16 : n ≤ 16) (hp : p < 12) (ht : t < 16) (hpl : pl < 12) (most : Int32) (w : Int32) :
    fX12_lawTells N (nI p) (nI t) (nI pl) w most M = (fX12_lineOf N w (n_set M 131 (w11 (M 131) (M 114 p) (M 115 p) (M 112 t) (M 113 t) (nI pl) (p_full n (fun k => M 108 (28 + k)) (M 112) (nI pl)) (M 108 (4 + pl)) (M 108 (44 + t)) (M 108 (60 + t)) (M 108 (88 + p)) (M 108 0)))).bind (fun p13 =>
      if ¬ w = 0 then
        if ¬ w = (1 : Int32) then n_chk true (fX12_lawTells_207 N most p13.1 ((500 : Int32) + ((50 : Int32) * (p13.2 115 p))) p13.2)
        else n_chk true (fX12_lawTells_207 N most p13.1 ((1 : Int32) + (p13.2 114 p)) p13.2)
      else n_chk true (n_chk true (fX12_lawTells_207 N most p13.1 (((80 : Int32) * (p13.2 114 p)) - ((20 : Int32) * (p13.2 112 t))) p13.2))) := by
  have i12 := n_ib_nI hp (show 12 < 2 ^ 31 by decide)
  have i16 := n_ib_nI ht (show 16 < 2 ^ 31 by decide)
  have a1 : (4 : Int32) + nI pl = nI (4 + pl) := nI_add 4 pl
  have a2 : (44 : Int32) + nI t = nI (44 + t) := nI_add 44 t
  have a3 : (60 : Int32) + nI t = nI (60 + t) := nI_add 60 t
  have a4 : (88 : Int32) + nI p = nI (88 + p) := nI_add 88 p
  have j1 := n_ib_nI (show 4 + pl < 100 by omega) (show 100 < 2 ^ 31 by decide)
  have j2 := n_ib_nI (show 44 + t < 100 by omega) (show 100 < 2 ^ 31 by decide)
  have j3 := n_ib_nI (show 60 + t < 100 by omega) (show 100 < 2 ^ 31 by decide)
  have j4 := n_ib_nI (show 88 + p < 100 by omega) (show 100 < 2 ^ 31 by decide)
  have j5 : n_ib 100 (0 : Int32) = true := rfl
  have ef : ∀ f : Nat → Int32, fX12_fullOf N (nI pl) (n_set M 131 f) = some (p_full n (fun k => M 108 (28 + k)) (M 112) (nI pl), n_set M 131 f) := fun f => by
    have := e_fullOf_m (M := n_set M 131 f) (N := N) hN (by rw [n_set_ne (by decide)]; exact hn) hn16 (nI pl)
    rw [n_set_ne (show (108 : Nat) ≠ 131 by decide), n_set_ne (show (112 : Nat) ≠ 131 by decide)] at this
    exact this
  unfold fX12_lawTells w11
  simp only [n_up_n, n_set_set, n_set_eq, n_chk_t, i12, i16, a1, a2, a3, a4, j1, j2, j3, j4, j5, ef, Option.bind_some, n_set_ne (show (108 : Nat) ≠ 131 by decide), n_set_ne (show (112 : Nat) ≠ 131 by decide), n_set_ne (show (113 : Nat) ≠ 131 by decide), n_set_ne (show (114 : Nat) ≠ 131 by decide), n_set_ne (show (115 : Nat) ≠ 131 by decide), nI_clamp (show p < 2 ^ 31 by omega), nI_clamp (show t < 2 ^ 31 by omega), nI_clamp (show 4 + pl < 2 ^ 31 by omega), nI_clamp (show 44 + t < 2 ^ 31 by omega), nI_clamp (show 60 + t < 2 ^ 31 by omega), nI_clamp (show 88 + p < 2 ^ 31 by omega), k0, k1, k2, k3, k4, k5, k6, k7, k8, k9, k10, ib0, ib1, ib2, ib3, ib4, ib5, ib6, ib7, ib8, ib9, ib10]
theorem e_207 {N : Nat} {F : Nat → Int32} {M : nM} {ls : List lLn} {r : Option Nat} {most v : Int32} (hN : 1000 ≤ N) (hl : l_inM (M 119 0) (M 120) (M 121) (M 122) (M 123) (M 124) (M 125) ls) (hF : ∀ v, v < 11 → M 131 v = F v) (hr : ∀ i, r = some i → i < ls.length) : ∃ S' : Nat → Int32, ∀ S : Nat → Int32, S = M 132 → fX12_lawTells_207 N most (l_ix r) v M = some (p_clamp (l_or F ls r v) most, n_set M 132 S') := by
  obtain ⟨l1, l2, l3⟩ := hl
  unfold fX12_lawTells_207 fX12_lawTells_240
  cases r with
  | none =>
    refine ⟨M 132, fun S hS => ?_⟩
    rw [if_neg (show ¬ ¬ l_ix none = (-1 : Int32) from not_not_intro rfl), e_held, Option.bind_some, n_set_self rfl]
    rfl
  | some i =>
    have hi := hr i rfl
    have hx : ls[i]? = some (ls[i]'hi) := List.getElem?_eq_getElem hi
    obtain ⟨x1, x2, x3, fr, x4, x5, x6, x7, x8⟩ := l3 i _ hx
    obtain ⟨a1, a2⟩ := l_atM_l x8
    have hi48 := n_ib_nI (show i < 48 by omega) (show 48 < 2 ^ 31 by decide)
    obtain ⟨S2, e2⟩ := e_runs (N := N) (f := fr) (F := F) (M := M) (c := ls[i].2.1) (b := false) hN x2.1 x2.2 (l_ev_one x2.1) (fun k x hk => a1.2 k x hk) a1.1 hF
    refine ⟨S2, fun S hS => ?_⟩
    rw [show l_ix (some i) = nI i from rfl, if_pos (nI_nm1 (by omega)), hi48, n_chk_t, n_chk_t, nI_clamp (by omega), x5, x6, e2, Option.bind_some, e_held, Option.bind_some]
    have eg : ls.getD i (0, [], []) = ls[i] := by rw [List.getD_eq_getElem?_getD, hx]; rfl
    show some (p_clamp (l_val F ls[i].2.1) _, _) = some (p_clamp (l_val F (ls.getD i (0, [], [])).2.1) _, _)
    rw [eg]
theorem e_askM {M : nM} {N n w p t pl : Nat} {ls : List lLn} (hN : 1000 ≤ N) (hn : M 107 6 = nI n) (hn16 : n ≤ 16) (hl : l_inM (M 119 0) (M 120) (M 121) (M 122) (M 123) (M 124) (M 125) ls) (hw : w < 3) (hp : p < 12) (ht : t < 16) (hpl : pl < 12) :
    ∃ f' S' : Nat → Int32, fX12_lawTells N (nI p) (nI t) (nI pl) (nI w) (if w = 1 then 99 else 1000) M = some (p_ask ls (p_F (M 114) (M 115) (M 112) (M 113) (M 108) n p t pl) w, n_set (n_set M 131 f') 132 S') := by
  have hF := w11_F (f := M 131) (sl := M 114) (wi := M 115) (si := M 112) (wo := M 113) (row := M 108) (n := n) (p := p) (t := t) (pl := pl) rfl rfl rfl rfl rfl rfl rfl rfl rfl rfl rfl
  rw [e_gatherM hN hn hn16 hp ht hpl]
  generalize w11 (M 131) (M 114 p) (M 115 p) (M 112 t) (M 113 t) (nI pl) (p_full n (fun k => M 108 (28 + k)) (M 112) (nI pl)) (M 108 (4 + pl)) (M 108 (44 + t)) (M 108 (60 + t)) (M 108 (88 + p)) (M 108 0) = f' at hF ⊢
  obtain ⟨S1, e1⟩ := e_lineM (N := N) (M := n_set M 131 f') (F := p_F (M 114) (M 115) (M 112) (M 113) (M 108) n p t pl) hN hw hl (fun v hv => by rw [n_set_eq]; exact hF v hv) ls.length 0 N (M 132) (by omega) (by have := hl.1; omega)
  rw [List.drop_zero] at e1
  have e0 : n_set (n_set M 131 f') 132 (M 132) = n_set M 131 f' := n_set_self (by rw [n_set_ne (by decide)])
  rw [e0] at e1
  have e1' : fX12_lineOf N (nI w) (n_set M 131 f') = some (l_ix (l_fd (p_F (M 114) (M 115) (M 112) (M 113) (M 108) n p t pl) w ls 0), n_set (n_set M 131 f') 132 S1) := e1
  rw [e1', Option.bind_some]
  have hl2 : l_inM (n_set (n_set M 131 f') 132 S1 119 0) (n_set (n_set M 131 f') 132 S1 120) (n_set (n_set M 131 f') 132 S1 121) (n_set (n_set M 131 f') 132 S1 122) (n_set (n_set M 131 f') 132 S1 123) (n_set (n_set M 131 f') 132 S1 124) (n_set (n_set M 131 f') 132 S1 125) ls := hl
  have key := fun (most v : Int32) => e_207 (N := N) (F := p_F (M 114) (M 115) (M 112) (M 113) (M 108) n p t pl) (M := n_set (n_set M 131 f') 132 S1) (ls := ls) (r := l_fd (p_F (M 114) (M 115) (M 112) (M 113) (M 108) n p t pl) w ls 0) (most := most) (v := v) hN hl2 (fun v hv => by rw [n_set_ne (by decide), n_set_eq]; exact hF v hv) (fun i hi => by have := l_fd_b hi; omega)
  unfold p_ask p_tell
  rcases (show w = 0 ∨ w = 1 ∨ w = 2 by omega) with rfl | rfl | rfl
  · obtain ⟨S2, e2⟩ := key 1000 (((80 : Int32) * (M 114 p)) - ((20 : Int32) * (M 112 t)))
    refine ⟨f', S2, ?_⟩
    have e3 := e2 _ rfl
    rw [n_set_set] at e3
    rw [if_neg (show ¬ ¬ nI 0 = (0 : Int32) from not_not_intro rfl), n_chk_t, n_chk_t]
    exact e3
  · obtain ⟨S2, e2⟩ := key 99 ((1 : Int32) + (M 114 p))
    refine ⟨f', S2, ?_⟩
    have e3 := e2 _ rfl
    rw [n_set_set] at e3
    rw [if_pos (show ¬ nI 1 = (0 : Int32) by decide), if_neg (show ¬ ¬ nI 1 = (1 : Int32) from not_not_intro rfl), n_chk_t]
    exact e3
  · obtain ⟨S2, e2⟩ := key 1000 ((500 : Int32) + ((50 : Int32) * (M 115 p)))
    refine ⟨f', S2, ?_⟩
    have e3 := e2 _ rfl
    rw [n_set_set] at e3
    rw [if_pos (show ¬ nI 2 = (0 : Int32) by decide), if_pos (show ¬ nI 2 = (1 : Int32) by decide), n_chk_t]
    exact e3
