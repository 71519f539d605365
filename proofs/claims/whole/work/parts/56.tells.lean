/-! ===== palms, far, finds ===== -/
theorem n_up_n {M : nM} {a k : Nat} {v : Int32} : n_up M a k v = n_set M a (upd (M a) k v) := by
  funext b
  by_cases h : b = a
  · rw [h, n_up_eq, n_set_eq]
  · rw [n_up_ne h, n_set_ne h]
def p_F (sl wi si wo row : Nat → Int32) (n p t pl : Nat) : Nat → Int32 := fun v => match v with
  | 0 => sl p
  | 1 => wi p
  | 2 => si t
  | 3 => wo t
  | 4 => nI pl
  | 5 => p_full n (fun k => row (28 + k)) si (nI pl)
  | 6 => row (4 + pl)
  | 7 => row (44 + t)
  | 8 => row (60 + t)
  | 9 => row (88 + p)
  | _ => row 0
def p_tell (ls : List lLn) (F : Nat → Int32) (w : Nat) : Int32 := match l_fd F w ls 0 with
  | some i => l_val F (ls.getD i (0, [], [])).2.1
  | none => if w = 0 then (80 : Int32) * F 0 - (20 : Int32) * F 2 else if w = 1 then (1 : Int32) + F 0 else (500 : Int32) + (50 : Int32) * F 1
def p_clamp (v most : Int32) : Int32 := if (0 : Int32) ≤ v then (if v ≤ most then v else most) else 0
def p_ask (ls : List lLn) (F : Nat → Int32) (w : Nat) : Int32 := p_clamp (p_tell ls F w) (if w = 1 then 99 else 1000)
theorem e_clampC {v most : Int32} (hm : (0 : Int32) ≤ most) : (if (0 : Int32) < (if most < v then most else v) then (if most < v then most else v) else (0 : Int32)) = p_clamp v most := by
  unfold p_clamp
  by_cases h1 : most < v
  · rw [if_pos h1, if_pos (Int32.le_trans hm (Int32.le_of_lt h1)), if_neg (Int32.not_le.mpr h1)]
    by_cases h2 : (0 : Int32) < most
    · rw [if_pos h2]
    · rw [if_neg h2]
      exact Int32.le_antisymm hm (Int32.not_lt.mp h2)
  · rw [if_neg h1]
    have h1' : v ≤ most := Int32.not_lt.mp h1
    by_cases h2 : (0 : Int32) < v
    · rw [if_pos h2, if_pos (Int32.le_of_lt h2), if_pos h1']
    · rw [if_neg h2]
      by_cases h3 : (0 : Int32) ≤ v
      · rw [if_pos h3, if_pos h1']
        exact Int32.le_antisymm h3 (Int32.not_lt.mp h2)
      · rw [if_neg h3]
theorem e_held {v most : Int32} (M : nM) : fX12_held v 0 most M = some (p_clamp v most, M) := by
  unfold fX12_held p_clamp
  by_cases h1 : (0 : Int32) ≤ v
  · rw [if_pos h1, if_pos h1]
    by_cases h2 : v ≤ most
    · rw [if_pos h2, if_pos h2]
    · rw [if_neg h2, if_neg h2]
  · rw [if_neg h1, if_neg h1]
theorem k0 : (0 : Int32).toNatClampNeg = 0 := rfl
theorem k1 : (1 : Int32).toNatClampNeg = 1 := rfl
theorem k2 : (2 : Int32).toNatClampNeg = 2 := rfl
theorem k3 : (3 : Int32).toNatClampNeg = 3 := rfl
theorem k4 : (4 : Int32).toNatClampNeg = 4 := rfl
theorem k5 : (5 : Int32).toNatClampNeg = 5 := rfl
theorem k6 : (6 : Int32).toNatClampNeg = 6 := rfl
theorem k7 : (7 : Int32).toNatClampNeg = 7 := rfl
theorem k8 : (8 : Int32).toNatClampNeg = 8 := rfl
theorem k9 : (9 : Int32).toNatClampNeg = 9 := rfl
theorem k10 : (10 : Int32).toNatClampNeg = 10 := rfl
theorem ib0 : n_ib 11 (0 : Int32) = true := rfl
theorem ib1 : n_ib 11 (1 : Int32) = true := rfl
theorem ib2 : n_ib 11 (2 : Int32) = true := rfl
theorem ib3 : n_ib 11 (3 : Int32) = true := rfl
theorem ib4 : n_ib 11 (4 : Int32) = true := rfl
theorem ib5 : n_ib 11 (5 : Int32) = true := rfl
theorem ib6 : n_ib 11 (6 : Int32) = true := rfl
theorem ib7 : n_ib 11 (7 : Int32) = true := rfl
theorem ib8 : n_ib 11 (8 : Int32) = true := rfl
theorem ib9 : n_ib 11 (9 : Int32) = true := rfl
theorem ib10 : n_ib 11 (10 : Int32) = true := rfl
/-- eleven values in a row -/
def w11 (f : Nat → Int32) (a0 a1 a2 a3 a4 a5 a6 a7 a8 a9 a10 : Int32) : Nat → Int32 := upd (upd (upd (upd (upd (upd (upd (upd (upd (upd (upd f 0 a0) 1 a1) 2 a2) 3 a3) 4 a4) 5 a5) 6 a6) 7 a7) 8 a8) 9 a9) 10 a10
theorem e_gather {G : nG} {M : nM} {N a n p t pl : Nat} (hN : 1000 ≤ N) (hMv : n_Mv G a) (ha : 9 ≤ a ∧ (a + 4 < 46 ∨ 47 < a)) (hn : M 3 5 = nI n) (hn16 : n ≤ 16) (hp : p < 12) (ht : t < 16) (hpl : pl < 12) :
    fX0_gatherFacts N G a (nI p) (nI t) (nI pl) M = some ((), n_set M 46 (w11 (M 46) (M 7 p) (M 8 p) (M 5 t) (M 6 t) (nI pl) (p_full n (M (a + 1)) (M 5) (nI pl)) (cb (bt (M a 7) pl)) (M (a + 2) t) (cb (bt (M a 5) t)) (M (a + 3) p) (M a 9))) := by
  obtain ⟨a0, ⟨a1, a2, a3, a4⟩, ⟨a5, a6, a7, a8⟩, ⟨a9, a10, a11, a12⟩⟩ := hMv
  have hb : Nat.beq (n_kd G a) 4 = true := by rw [a0]; rfl
  have i12 := n_ib_nI hp (show 12 < 2 ^ 31 by decide)
  have i16 := n_ib_nI ht (show 16 < 2 ^ 31 by decide)
  have j1 := n_in_nI a6 a10 ht (by decide)
  have j2 := n_in_nI a7 a11 hp (by decide)
  have na : a ≠ 46 := by omega
  have na1 : a + 1 ≠ 46 := by omega
  have na2 : a + 2 ≠ 46 := by omega
  have na3 : a + 3 ≠ 46 := by omega
  have ef : ∀ f : Nat → Int32, fX0_fullOf N G a (nI pl) (n_set M 46 f) = some (p_full n (M (a + 1)) (M 5) (nI pl), n_set M 46 f) := fun f => by
    have := e_fullOf_c (G := G) (M := n_set M 46 f) (N := N) (a := a) (c := a + 1) hN a0 a1 a5 a9 (by rw [n_set_ne (by decide)]; exact hn) hn16 (nI pl)
    rw [n_set_ne na1, n_set_ne (show (5 : Nat) ≠ 46 by decide)] at this
    exact this
  unfold fX0_gatherFacts w11
  simp only [n_up_n, n_set_set, n_set_eq, n_chk_t, i12, i16, hb, a2, a3, j1, j2, ef, e_bit (show pl < 32 by omega), e_bit (show t < 32 by omega), Option.bind_some, n_set_ne na, n_set_ne na2, n_set_ne na3, n_set_ne (show (5 : Nat) ≠ 46 by decide), n_set_ne (show (6 : Nat) ≠ 46 by decide), n_set_ne (show (7 : Nat) ≠ 46 by decide), n_set_ne (show (8 : Nat) ≠ 46 by decide), nI_clamp (show p < 2 ^ 31 by omega), nI_clamp (show t < 2 ^ 31 by omega), k0, k1, k2, k3, k4, k5, k6, k7, k8, k9, k10, ib0, ib1, ib2, ib3, ib4, ib5, ib6, ib7, ib8, ib9, ib10]
theorem w11_F {f : Nat → Int32} {a0 a1 a2 a3 a4 a5 a6 a7 a8 a9 a10 : Int32} {sl wi si wo row : Nat → Int32} {n p t pl : Nat} (h0 : a0 = sl p) (h1 : a1 = wi p) (h2 : a2 = si t) (h3 : a3 = wo t) (h4 : a4 = nI pl) (h5 : a5 = p_full n (fun k => row (28 + k)) si (nI pl)) (h6 : a6 = row (4 + pl)) (h7 : a7 = row (44 + t)) (h8 : a8 = row (60 + t)) (h9 : a9 = row (88 + p)) (h10 : a10 = row 0) : ∀ v, v < 11 → w11 f a0 a1 a2 a3 a4 a5 a6 a7 a8 a9 a10 v = p_F sl wi si wo row n p t pl v := by
  intro v hv
  rcases (show v = 0 ∨ v = 1 ∨ v = 2 ∨ v = 3 ∨ v = 4 ∨ v = 5 ∨ v = 6 ∨ v = 7 ∨ v = 8 ∨ v = 9 ∨ v = 10 by omega) with rfl | rfl | rfl | rfl | rfl | rfl | rfl | rfl | rfl | rfl | rfl
  · exact h0
  · exact h1
  · exact h2
  · exact h3
  · exact h4
  · exact h5
  · exact h6
  · exact h7
  · exact h8
  · exact h9
  · exact h10
