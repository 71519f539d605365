/-! ===== text: it is taken ===== -/
def c3 (M : nM) : nM := n_up (n_up (n_cpy (n_cpy (n_cpy (n_cpy (n_cpy M 86 17 0 0 400) 87 18 0 0 16) 88 19 0 0 16) 89 20 0 0 16) 90 21 0 0 16) 16 5 (M 85 5)) 16 6 (M 85 6)
theorem z_cl : (0 : Int32).toNatClampNeg = 0 ∧ (400 : Int32).toNatClampNeg = 400 ∧ (16 : Int32).toNatClampNeg = 16 := by decide
theorem e_cp3 {G : nG} {M : nM} (hG : n_GOK G) : fX3_copyFrom G 16 85 M = some ((), c3 M) := by
  have k1 : Nat.beq (n_kd G 85) 3 = true := by rw [gk85 hG]; rfl
  have k2 : Nat.beq (n_kd G 16) 3 = true := by rw [gk16 hG]; rfl
  have o1 : n_cpok G 86 17 (0 : Int32) (0 : Int32) (400 : Int32) = true := cd_cp (L := 400) (gk86 hG) (hG.1 17 (by decide)) (gl86 hG) (hG.2.1 17 (by decide)) (by decide) rfl
  have o2 : n_cpok G 87 18 (0 : Int32) (0 : Int32) (16 : Int32) = true := cd_cp (L := 16) (gk87 hG) (hG.1 18 (by decide)) (gl87 hG) (hG.2.1 18 (by decide)) (by decide) rfl
  have o3 : n_cpok G 88 19 (0 : Int32) (0 : Int32) (16 : Int32) = true := cd_cp (L := 16) (gk88 hG) (hG.1 19 (by decide)) (gl88 hG) (hG.2.1 19 (by decide)) (by decide) rfl
  have o4 : n_cpok G 89 20 (0 : Int32) (0 : Int32) (16 : Int32) = true := cd_cp (L := 16) (gk89 hG) (hG.1 20 (by decide)) (gl89 hG) (hG.2.1 20 (by decide)) (by decide) rfl
  have o5 : n_cpok G 90 21 (0 : Int32) (0 : Int32) (16 : Int32) = true := cd_cp (L := 16) (gk90 hG) (hG.1 21 (by decide)) (gl90 hG) (hG.2.1 21 (by decide)) (by decide) rfl
  unfold fX3_copyFrom
  rw [k1, k2, gm85_0 hG, gm85_1 hG, gm85_2 hG, gm85_3 hG, gm85_4 hG, gm16_0 hG, gm16_1 hG, gm16_2 hG, gm16_3 hG, gm16_4 hG, o1, o2, o3, o4, o5, z_cl.1, z_cl.2.1, z_cl.2.2]
  rfl
def c7 (x0 : Nat) (M : nM) : nM := n_up (n_cpy M 92 (x0 + 1) 0 0 64) x0 3 (M 91 3)
theorem e_cp7 {G : nG} {M : nM} {x0 : Nat} (hG : n_GOK G) (hx : x0 = 22 ∨ x0 = 24 ∨ x0 = 26) : fX7_copyFrom G x0 91 M = some ((), c7 x0 M) := by
  have k1 : Nat.beq (n_kd G 91) 7 = true := by rw [gk91 hG]; rfl
  have k2 : Nat.beq (n_kd G x0) 7 = true := by
    have : n_kd G x0 = 7 := by
      rcases hx with q | q | q <;> subst q
      · exact hG.1 22 (by decide)
      · exact hG.1 24 (by decide)
      · exact hG.1 26 (by decide)
    rw [this]; rfl
  have m2 : n_mr G x0 0 = x0 + 1 := by
    rcases hx with q | q | q <;> subst q
    · exact hG.2.2 22 0 (by decide) (by decide)
    · exact hG.2.2 24 0 (by decide) (by decide)
    · exact hG.2.2 26 0 (by decide) (by decide)
  have k3 : n_kd G (x0 + 1) = 14 := by
    rcases hx with q | q | q <;> subst q
    · exact hG.1 23 (by decide)
    · exact hG.1 25 (by decide)
    · exact hG.1 27 (by decide)
  have l3 : n_len G (x0 + 1) = 64 := by
    rcases hx with q | q | q <;> subst q
    · exact hG.2.1 23 (by decide)
    · exact hG.2.1 25 (by decide)
    · exact hG.2.1 27 (by decide)
  have b3 : Nat.beq (n_kd G (x0 + 1)) 14 = true := by rw [k3]; rfl
  have b4 : Nat.beq (n_kd G 92) 14 = true := by rw [gk92 hG]; rfl
  have o1 : n_cpok G 92 (x0 + 1) (0 : Int32) (0 : Int32) (nI 64) = true := cd_cp (L := 64) (gk92 hG) k3 (gl92 hG) l3 (by decide) rfl
  have ei : (if (Int32.ofNat 64) < (Int32.ofNat 64) then (Int32.ofNat 64) else (Int32.ofNat 64)) = nI 64 := by decide
  have ne : (91 : Nat) ≠ x0 + 1 := by omega
  unfold fX7_copyFrom
  rw [k1, k2, m2, gm91_0 hG, b3, b4, gl92 hG, l3, ei]
  show n_chk (n_cpok G 92 (x0 + 1) (0 : Int32) (0 : Int32) (nI 64) && true) (some ((), n_up (n_cpy M 92 (x0 + 1) (0 : Int32).toNatClampNeg (0 : Int32).toNatClampNeg (nI 64).toNatClampNeg) x0 3 (n_cpy M 92 (x0 + 1) (0 : Int32).toNatClampNeg (0 : Int32).toNatClampNeg (nI 64).toNatClampNeg 91 3))) = _
  rw [o1, z_cl.1, nI_clamp (show 64 < 2 ^ 31 by decide)]
  show some ((), n_up (n_cpy M 92 (x0 + 1) 0 0 64) x0 3 (n_cpy M 92 (x0 + 1) 0 0 64 91 3)) = _
  rw [n_cpy_ne ne]
  rfl
theorem c3_o {M : nM} {a : Nat} (h : ¬ (16 ≤ a ∧ a ≤ 21)) : c3 M a = M a := by
  unfold c3
  rw [n_up_ne (by omega), n_up_ne (by omega), n_cpy_ne (by omega), n_cpy_ne (by omega), n_cpy_ne (by omega), n_cpy_ne (by omega), n_cpy_ne (by omega)]
theorem c3_6 {M : nM} : c3 M 16 6 = M 85 6 := by
  unfold c3
  rw [n_up_eq, upd_eq]
theorem c3_17 {M : nM} {i : Nat} (h : i < 400) : c3 M 17 i = M 86 i := by
  unfold c3
  rw [n_up_ne (by decide), n_up_ne (by decide), n_cpy_ne (by decide), n_cpy_ne (by decide), n_cpy_ne (by decide), n_cpy_ne (by decide), n_cpy_eq, pk_cpy_in (by omega) (by omega)]
  exact congrArg (M 86) (by omega)
theorem c3_18 {M : nM} {i : Nat} (h : i < 16) : c3 M 18 i = M 87 i ∧ c3 M 19 i = M 88 i ∧ c3 M 20 i = M 89 i ∧ c3 M 21 i = M 90 i := by
  unfold c3
  refine ⟨?_, ?_, ?_, ?_⟩
  · rw [n_up_ne (by decide), n_up_ne (by decide), n_cpy_ne (by decide), n_cpy_ne (by decide), n_cpy_ne (by decide), n_cpy_eq, pk_cpy_in (by omega) (by omega), n_cpy_ne (by decide)]
    exact congrArg (M 87) (by omega)
  · rw [n_up_ne (by decide), n_up_ne (by decide), n_cpy_ne (by decide), n_cpy_ne (by decide), n_cpy_eq, pk_cpy_in (by omega) (by omega), n_cpy_ne (by decide), n_cpy_ne (by decide)]
    exact congrArg (M 88) (by omega)
  · rw [n_up_ne (by decide), n_up_ne (by decide), n_cpy_ne (by decide), n_cpy_eq, pk_cpy_in (by omega) (by omega), n_cpy_ne (by decide), n_cpy_ne (by decide), n_cpy_ne (by decide)]
    exact congrArg (M 89) (by omega)
  · rw [n_up_ne (by decide), n_up_ne (by decide), n_cpy_eq, pk_cpy_in (by omega) (by omega), n_cpy_ne (by decide), n_cpy_ne (by decide), n_cpy_ne (by decide), n_cpy_ne (by decide)]
    exact congrArg (M 90) (by omega)
theorem c7_o {M : nM} {x0 a : Nat} (h1 : a ≠ x0) (h2 : a ≠ x0 + 1) : c7 x0 M a = M a := by
  unfold c7
  rw [n_up_ne h1, n_cpy_ne h2]
theorem c7_3 {M : nM} {x0 : Nat} : c7 x0 M x0 3 = M 91 3 := by
  unfold c7
  rw [n_up_eq, upd_eq]
theorem c7_i {M : nM} {x0 i : Nat} (h : i ≠ 3) : c7 x0 M x0 i = M x0 i := by
  unfold c7
  rw [n_up_eq, upd_ne h, n_cpy_ne (by omega)]
theorem c7_c {M : nM} {x0 i : Nat} (h : i < 64) : c7 x0 M (x0 + 1) i = M 92 i := by
  unfold c7
  rw [n_up_ne (by omega), n_cpy_eq, pk_cpy_in (by omega) (by omega)]
  exact congrArg (M 92) (by omega)
/-! the model -/
def cf (f : Nat → Int32) (off i : Nat) : Nat → Int32 := fun t => if t < i then f (off + t) else f t
def cpS (lo hi off : Nat) (M : nM) (i : Nat) : nM := fun a => if lo ≤ a ∧ a ≤ hi then cf (M a) off i else M a
theorem cpS_in {lo hi off a i : Nat} {M : nM} (h : lo ≤ a ∧ a ≤ hi) : cpS lo hi off M i a = cf (M a) off i := if_pos h
theorem cpS_o {lo hi off a i : Nat} {M : nM} (h : ¬ (lo ≤ a ∧ a ≤ hi)) : cpS lo hi off M i a = M a := if_neg h
theorem cf_l {f : Nat → Int32} {off i t : Nat} (h : t < i) : cf f off i t = f (off + t) := if_pos h
theorem cf_g {f : Nat → Int32} {off i t : Nat} (h : i ≤ t) : cf f off i t = f t := if_neg (by omega)
theorem cf_s {f : Nat → Int32} {off i : Nat} : upd (cf f off i) i (f (off + i)) = cf f off (i + 1) := by
  funext t
  by_cases e : t = i
  · subst e
    rw [upd_eq, cf_l (by omega)]
  · rw [upd_ne e]
    by_cases z : t < i
    · rw [cf_l z, cf_l (by omega)]
    · rw [cf_g (by omega), cf_g (by omega)]
theorem cpS_0 {lo hi off : Nat} {M : nM} : cpS lo hi off M 0 = M := by
  funext a
  unfold cpS
  split
  · funext t
    exact cf_g (Nat.zero_le _)
  · rfl
theorem cpS_s {lo hi off i : Nat} {M : nM} (hl : lo = hi) (hi' : i ≤ off) : n_up (cpS lo hi off M i) hi i (cpS lo hi off M i hi (off + i)) = cpS lo hi off M (i + 1) := by
  subst hl
  funext a
  by_cases e : a = lo
  · subst e
    rw [n_up_eq, cpS_in ⟨Nat.le_refl _, Nat.le_refl _⟩, cpS_in ⟨Nat.le_refl _, Nat.le_refl _⟩, cf_g (by omega), cf_s]
  · rw [n_up_ne e, cpS_o (by omega), cpS_o (by omega)]
def cyS (cap : Nat) (off w : Int32) (a : Nat) (x2 : Int32) (M : nM) (X : nM → Option (Unit × nM)) : Option (Unit × nM) := n_chk (n_ib cap (off + x2)) (n_chk (n_ib cap ((w * (M 107 28)) + x2)) (X (n_up M a ((w * (M 107 28)) + x2).toNatClampNeg (M a (off + x2).toNatClampNeg))))
theorem cyS_e {cap off w a i : Nat} {M : nM} {X : nM → Option (Unit × nM)} (hM : M 107 28 = 0) (hc : off + i < cap) (hc2 : cap < 2 ^ 30) : cyS cap (nI off) (nI w) a (nI i) M X = X (n_up M a i (M a (off + i))) := by
  unfold cyS
  have e0 : nI w * (0 : Int32) + nI i = nI i := by
    rw [show (0 : Int32) = nI 0 from rfl, pk_mul, nI_add, Nat.mul_zero, Nat.zero_add]
  rw [hM, e0, nI_add, n_ib_nI hc (by omega), n_ib_nI (show i < cap by omega) (by omega), n_chk_t, n_chk_t, nI_clamp (show off + i < 2 ^ 31 by omega), nI_clamp (show i < 2 ^ 31 by omega)]
theorem tl2_eq (N f : Nat) (x1 x2 : Int32) (M : nM) : fX12_takesLaw_2 N (f + 1) x1 x2 M = if x1 ≤ x2 then fX12_takesLaw_107 N N x1 (0 : Int32) M else cyS 48 (32 : Int32) (16 : Int32) 120 x2 M (fun M => cyS 48 (32 : Int32) (16 : Int32) 121 x2 M (fun M => cyS 48 (32 : Int32) (16 : Int32) 122 x2 M (fun M => cyS 48 (32 : Int32) (16 : Int32) 123 x2 M (fun M => fX12_takesLaw_2 N f x1 (x2 + (1 : Int32)) M)))) := rfl
theorem tl7_eq (N f : Nat) (x1 x2 : Int32) (M : nM) : fX12_takesLaw_107 N (f + 1) x1 x2 M = if (M 107 29) ≤ x2 then n_chk (n_ib 2 (M 107 28)) (some ((), n_up M 119 (M 107 28).toNatClampNeg x1)) else cyS 1200 (800 : Int32) (400 : Int32) 124 x2 M (fun M => cyS 1200 (800 : Int32) (400 : Int32) 125 x2 M (fun M => fX12_takesLaw_107 N f x1 (x2 + (1 : Int32)) M)) := rfl
theorem tl4_s {M : nM} {i : Nat} (hi : i ≤ 32) : n_up (n_up (n_up (n_up (cpS 120 123 32 M i) 120 i (M 120 (32 + i))) 121 i (M 121 (32 + i))) 122 i (M 122 (32 + i))) 123 i (M 123 (32 + i)) = cpS 120 123 32 M (i + 1) := by
  funext a
  by_cases e3 : a = 123
  · subst e3
    rw [n_up_eq, n_up_ne (by decide), n_up_ne (by decide), n_up_ne (by decide), cpS_in (by decide), cpS_in (by decide), cf_s]
  · rw [n_up_ne e3]
    by_cases e2 : a = 122
    · subst e2
      rw [n_up_eq, n_up_ne (by decide), n_up_ne (by decide), cpS_in (by decide), cpS_in (by decide), cf_s]
    · rw [n_up_ne e2]
      by_cases e1 : a = 121
      · subst e1
        rw [n_up_eq, n_up_ne (by decide), cpS_in (by decide), cpS_in (by decide), cf_s]
      · rw [n_up_ne e1]
        by_cases e0 : a = 120
        · subst e0
          rw [n_up_eq, cpS_in (by decide), cpS_in (by decide), cf_s]
        · rw [n_up_ne e0, cpS_o (by omega), cpS_o (by omega)]
theorem tl2_s {M : nM} {i : Nat} : n_up (n_up (cpS 124 125 800 M i) 124 i (M 124 (800 + i))) 125 i (M 125 (800 + i)) = cpS 124 125 800 M (i + 1) := by
  funext a
  by_cases e3 : a = 125
  · subst e3
    rw [n_up_eq, n_up_ne (by decide), cpS_in (by decide), cpS_in (by decide), cf_s]
  · rw [n_up_ne e3]
    by_cases e0 : a = 124
    · subst e0
      rw [n_up_eq, cpS_in (by decide), cpS_in (by decide), cf_s]
    · rw [n_up_ne e0, cpS_o (by omega), cpS_o (by omega)]
def tkD (D : nM) (L K : Nat) : nM := n_up (cpS 124 125 800 (cpS 120 123 32 D L) K) 119 0 (nI L)
theorem e_tkL {D : nM} {N L K : Nat} (hN : 1000 ≤ N) (h28 : D 107 28 = 0) (h29 : D 107 29 = nI K) (hL : L ≤ 16) (hK : K ≤ 400) : fX12_takesLaw N (nI L) D = some ((), tkD D L K) := by
  have a107 : ∀ i, cpS 120 123 32 D i 107 = D 107 := fun i => cpS_o (by omega)
  have b107 : ∀ i, cpS 124 125 800 (cpS 120 123 32 D L) i 107 = D 107 := fun i => (cpS_o (by omega)).trans (a107 L)
  have go2 : ∀ (d i f : Nat), i + d = K → d < f → fX12_takesLaw_107 N f (nI L) (nI i) (cpS 124 125 800 (cpS 120 123 32 D L) i) = some ((), tkD D L K) := by
    intro d
    induction d with
    | zero =>
      intro i f hi hf
      obtain ⟨f, rfl⟩ : ∃ g, f = g + 1 := ⟨f - 1, by omega⟩
      rw [tl7_eq, b107, h29, h28, if_pos (nI_le (by omega) (by omega)), show i = K by omega]
      rfl
    | succ d ih =>
      intro i f hi hf
      obtain ⟨f, rfl⟩ : ∃ g, f = g + 1 := ⟨f - 1, by omega⟩
      rw [tl7_eq, b107, h29, if_neg (nI_ge (by omega) (by omega)), show (800 : Int32) = nI 800 from rfl, show (400 : Int32) = nI 400 from rfl, cyS_e (by rw [b107]; exact h28) (by omega) (by decide), cyS_e (by rw [n_up_ne (by decide), b107]; exact h28) (by omega) (by decide), nI_1, n_up_ne (show 125 ≠ 124 by decide), cpS_in (show 124 ≤ 124 ∧ 124 ≤ 125 by decide), cpS_in (show 124 ≤ 125 ∧ 125 ≤ 125 by decide), cf_g (show i ≤ 800 + i by omega), cf_g (show i ≤ 800 + i by omega), tl2_s]
      exact ih (i + 1) f (by omega) (by omega)
  have go : ∀ (d i f : Nat), i + d = L → d < f → fX12_takesLaw_2 N f (nI L) (nI i) (cpS 120 123 32 D i) = some ((), tkD D L K) := by
    intro d
    induction d with
    | zero =>
      intro i f hi hf
      obtain ⟨f, rfl⟩ : ∃ g, f = g + 1 := ⟨f - 1, by omega⟩
      rw [tl2_eq, if_pos (nI_le (by omega) (by omega)), show i = L by omega]
      have := go2 K 0 N (by omega) (by omega)
      rw [cpS_0] at this
      exact this
    | succ d ih =>
      intro i f hi hf
      obtain ⟨f, rfl⟩ : ∃ g, f = g + 1 := ⟨f - 1, by omega⟩
      rw [tl2_eq, if_neg (nI_ge (by omega) (by omega)), show (32 : Int32) = nI 32 from rfl, show (16 : Int32) = nI 16 from rfl, cyS_e (by rw [a107]; exact h28) (by omega) (by decide), cyS_e (by rw [n_up_ne (by decide), a107]; exact h28) (by omega) (by decide), cyS_e (by rw [n_up_ne (by decide), n_up_ne (by decide), a107]; exact h28) (by omega) (by decide), cyS_e (by rw [n_up_ne (by decide), n_up_ne (by decide), n_up_ne (by decide), a107]; exact h28) (by omega) (by decide), nI_1, n_up_ne (show 123 ≠ 122 by decide), n_up_ne (show 123 ≠ 121 by decide), n_up_ne (show 123 ≠ 120 by decide), n_up_ne (show 122 ≠ 121 by decide), n_up_ne (show 122 ≠ 120 by decide), n_up_ne (show 121 ≠ 120 by decide), cpS_in (show 120 ≤ 120 ∧ 120 ≤ 123 by decide), cpS_in (show 120 ≤ 121 ∧ 121 ≤ 123 by decide), cpS_in (show 120 ≤ 122 ∧ 122 ≤ 123 by decide), cpS_in (show 120 ≤ 123 ∧ 123 ≤ 123 by decide), cf_g (show i ≤ 32 + i by omega), cf_g (show i ≤ 32 + i by omega), cf_g (show i ≤ 32 + i by omega), cf_g (show i ≤ 32 + i by omega), tl4_s (by omega)]
      exact ih (i + 1) f (by omega) (by omega)
  have := go L 0 N (by omega) (by omega)
  rw [cpS_0] at this
  exact this
def coS (cap : Nat) (off : Int32) (a : Nat) (x3 : Int32) (M : nM) (X : nM → Option (Unit × nM)) : Option (Unit × nM) := n_chk (n_ib cap (off + x3)) (n_chk (n_ib cap x3) (X (n_up M a x3.toNatClampNeg (M a (off + x3).toNatClampNeg))))
theorem coS_e {cap off a i : Nat} {M : nM} {X : nM → Option (Unit × nM)} (hc : off + i < cap) (hc2 : cap < 2 ^ 30) : coS cap (nI off) a (nI i) M X = X (n_up M a i (M a (off + i))) := by
  unfold coS
  rw [nI_add, n_ib_nI hc (by omega), n_ib_nI (show i < cap by omega) (by omega), n_chk_t, n_chk_t, nI_clamp (show off + i < 2 ^ 31 by omega), nI_clamp (show i < 2 ^ 31 by omega)]
theorem to7_eq (N f : Nat) (x2 x3 : Int32) (M : nM) : fX12_takesOther_7 N (f + 1) x2 x3 M = if (12 : Int32) ≤ x3 then some ((), n_up M 107 41 x2) else coS 24 (12 : Int32) 129 x3 M (fun M => fX12_takesOther_7 N f x2 (x3 + (1 : Int32)) M) := rfl
theorem to47_eq (N f : Nat) (x2 x3 : Int32) (M : nM) : fX12_takesOther_47 N (f + 1) x2 x3 M = if ((4 : Int32) * x2) ≤ x3 then some ((), n_up (n_up M 107 37 x2) 107 3 (0 : Int32)) else coS 128 (64 : Int32) 127 x3 M (fun M => fX12_takesOther_47 N f x2 (x3 + (1 : Int32)) M) := rfl
theorem to85_eq (N f : Nat) (x2 x3 : Int32) (M : nM) : fX12_takesOther_85 N (f + 1) x2 x3 M = if ((4 : Int32) * x2) ≤ x3 then some ((), n_up (n_up M 107 39 x2) 107 3 (0 : Int32)) else coS 128 (64 : Int32) 128 x3 M (fun M => fX12_takesOther_85 N f x2 (x3 + (1 : Int32)) M) := rfl
theorem e_to7 {D : nM} {N m : Nat} (hN : 1000 ≤ N) : fX12_takesOther_7 N N (nI m) (0 : Int32) D = some ((), n_up (cpS 129 129 12 D 12) 107 41 (nI m)) := by
  have go : ∀ (d i f : Nat), i + d = 12 → d < f → fX12_takesOther_7 N f (nI m) (nI i) (cpS 129 129 12 D i) = some ((), n_up (cpS 129 129 12 D 12) 107 41 (nI m)) := by
    intro d
    induction d with
    | zero =>
      intro i f hi hf
      obtain ⟨f, rfl⟩ : ∃ g, f = g + 1 := ⟨f - 1, by omega⟩
      rw [to7_eq, if_pos (show (12 : Int32) ≤ nI i from nI_le (a := 12) (by omega) (by omega)), show i = 12 by omega]
    | succ d ih =>
      intro i f hi hf
      obtain ⟨f, rfl⟩ : ∃ g, f = g + 1 := ⟨f - 1, by omega⟩
      rw [to7_eq, if_neg (show ¬ (12 : Int32) ≤ nI i from nI_ge (b := 12) (by omega) (by decide)), show (12 : Int32) = nI 12 from rfl, coS_e (by omega) (by decide), nI_1, cpS_s rfl (by omega)]
      exact ih (i + 1) f (by omega) (by omega)
  have := go 12 0 N (by omega) (by omega)
  rw [cpS_0] at this
  exact this
theorem e_to47 {D : nM} {N m : Nat} (hN : 1000 ≤ N) (hm : m ≤ 16) : fX12_takesOther_47 N N (nI m) (0 : Int32) D = some ((), n_up (n_up (cpS 127 127 64 D (4 * m)) 107 37 (nI m)) 107 3 0) := by
  have e4 : (4 : Int32) * nI m = nI (4 * m) := pk_mul 4 m
  have go : ∀ (d i f : Nat), i + d = 4 * m → d < f → fX12_takesOther_47 N f (nI m) (nI i) (cpS 127 127 64 D i) = some ((), n_up (n_up (cpS 127 127 64 D (4 * m)) 107 37 (nI m)) 107 3 0) := by
    intro d
    induction d with
    | zero =>
      intro i f hi hf
      obtain ⟨f, rfl⟩ : ∃ g, f = g + 1 := ⟨f - 1, by omega⟩
      rw [to47_eq, e4, if_pos (nI_le (by omega) (by omega)), show i = 4 * m by omega]
    | succ d ih =>
      intro i f hi hf
      obtain ⟨f, rfl⟩ : ∃ g, f = g + 1 := ⟨f - 1, by omega⟩
      rw [to47_eq, e4, if_neg (nI_ge (by omega) (by omega)), show (64 : Int32) = nI 64 from rfl, coS_e (by omega) (by decide), nI_1, cpS_s rfl (by omega)]
      exact ih (i + 1) f (by omega) (by omega)
  have := go (4 * m) 0 N (by omega) (by omega)
  rw [cpS_0] at this
  exact this
theorem e_to85 {D : nM} {N m : Nat} (hN : 1000 ≤ N) (hm : m ≤ 16) : fX12_takesOther_85 N N (nI m) (0 : Int32) D = some ((), n_up (n_up (cpS 128 128 64 D (4 * m)) 107 39 (nI m)) 107 3 0) := by
  have e4 : (4 : Int32) * nI m = nI (4 * m) := pk_mul 4 m
  have go : ∀ (d i f : Nat), i + d = 4 * m → d < f → fX12_takesOther_85 N f (nI m) (nI i) (cpS 128 128 64 D i) = some ((), n_up (n_up (cpS 128 128 64 D (4 * m)) 107 39 (nI m)) 107 3 0) := by
    intro d
    induction d with
    | zero =>
      intro i f hi hf
      obtain ⟨f, rfl⟩ : ∃ g, f = g + 1 := ⟨f - 1, by omega⟩
      rw [to85_eq, e4, if_pos (nI_le (by omega) (by omega)), show i = 4 * m by omega]
    | succ d ih =>
      intro i f hi hf
      obtain ⟨f, rfl⟩ : ∃ g, f = g + 1 := ⟨f - 1, by omega⟩
      rw [to85_eq, e4, if_neg (nI_ge (by omega) (by omega)), show (64 : Int32) = nI 64 from rfl, coS_e (by omega) (by decide), nI_1, cpS_s rfl (by omega)]
      exact ih (i + 1) f (by omega) (by omega)
  have := go (4 * m) 0 N (by omega) (by omega)
  rw [cpS_0] at this
  exact this
/-! the houses behind it -/
theorem Mix_7 {C D : nM} {i : Nat} : Mix C D 107 i = D 107 i := by rw [Mix_d (by decide) (by decide)]
theorem Rel_law {G : nG} {C D : nM} {n q : Nat} {ls : List lLn} {c : List lOp} (h : Rel G (Mix C D) n q) (hls : ls.length ≤ 16) (hc : lm c ≤ 400) (hLc : LWc C ls c) (hLm : LWm D ls c) (h86 : ∀ i, i < c.length → C 86 i = l_enc (c.getD i (0, 0))) (h24 : ∀ i, i < lm c → D 124 (800 + i) = nI ((l_mods c).getD i (0, 0)).1 ∧ D 125 (800 + i) = nI ((l_mods c).getD i (0, 0)).2) : Rel G (Mix (c3 C) (tkD D ls.length (lm c))) n q := by
  have hcl := lm_le c
  have mc : ∀ a, a < 107 ∨ 151 < a → ¬ (16 ≤ a ∧ a ≤ 21) → Mix (c3 C) (tkD D ls.length (lm c)) a = Mix C D a := fun a h1 h2 => by rw [Mix_c h1, Mix_c h1, c3_o h2]
  have md : ∀ a, 107 ≤ a → a ≤ 151 → ¬ (119 ≤ a ∧ a ≤ 125) → Mix (c3 C) (tkD D ls.length (lm c)) a = Mix C D a := fun a h1 h2 h3 => by
    rw [Mix_d h1 h2, Mix_d h1 h2]
    unfold tkD
    rw [n_up_ne (by omega), cpS_o (by omega), cpS_o (by omega)]
  have m7 : Mix (c3 C) (tkD D ls.length (lm c)) 107 = Mix C D 107 := md 107 (by decide) (by decide) (by decide)
  obtain ⟨⟨hst, hmv, hbk, hlw, hsp, hcu, hli, hsw, hpk, hbx, hky, hcl, hsh, hrw, hgf, hmi⟩, hpr, hrd, hck, hwd, him⟩ := id h
  refine Rel_tx h (fun a ha => ?_) (fun i _ => by rw [m7]) ?_ ?_ ?_ ?_ ?_ ?_ ?_
  · by_cases z : a < 107 ∨ 151 < a
    · exact mc a z (by unfold txc at ha; omega)
    · exact md a (by omega) (by omega) (by unfold txc at ha; omega)
  · rw [Mix_c (show 16 < 107 ∨ 151 < 16 by decide), Mix_c (show 17 < 107 ∨ 151 < 17 by decide), Mix_c (show 18 < 107 ∨ 151 < 18 by decide), Mix_c (show 19 < 107 ∨ 151 < 19 by decide), Mix_c (show 20 < 107 ∨ 151 < 20 by decide), Mix_c (show 21 < 107 ∨ 151 < 21 by decide), Mix_d (show 107 ≤ 119 by decide) (by decide), Mix_d (show 107 ≤ 120 by decide) (by decide), Mix_d (show 107 ≤ 121 by decide) (by decide), Mix_d (show 107 ≤ 122 by decide) (by decide), Mix_d (show 107 ≤ 123 by decide) (by decide), Mix_d (show 107 ≤ 124 by decide) (by decide), Mix_d (show 107 ≤ 125 by decide) (by decide)]
    have t119 : tkD D ls.length (lm c) 119 0 = nI ls.length := by
      unfold tkD
      rw [n_up_eq, upd_eq]
    have t120 : ∀ a, 120 ≤ a → a ≤ 123 → ∀ i, i < ls.length → tkD D ls.length (lm c) a i = D a (32 + i) := fun a h1 h2 i hi => by
      unfold tkD
      rw [n_up_ne (by omega), cpS_o (by omega), cpS_in ⟨h1, h2⟩, cf_l hi]
    have t124 : ∀ a, (a = 124 ∨ a = 125) → ∀ i, i < lm c → tkD D ls.length (lm c) a i = D a (800 + i) := fun a h1 i hi => by
      unfold tkD
      rw [n_up_ne (by omega), cpS_in (by omega), cf_l hi, cpS_o (by omega)]
    refine ⟨ls, hls, by rw [c3_6]; exact hLc.1, t119, fun i x hx => ?_⟩
    have hi := l_lt hx
    obtain ⟨f, y1, y2, y3, y4, y5⟩ := hLc.2 i x hx
    obtain ⟨z1, z2, z3, g, z4, z5, z6, z7, z8⟩ := hLm i x hx
    obtain ⟨w1, w2, w3, w4⟩ := c3_18 (M := C) (show i < 16 by omega)
    refine ⟨z1, z2, z3, ⟨f, by rw [w1]; exact y1, by rw [w2]; exact y2, by rw [w3]; exact y3, by rw [w4]; exact y4, by have := y5.1; omega, fun t u hu => ?_⟩, g, ?_, ?_, ?_, ?_, by have h8 := z8.1; have : (l_mods c).length = lm c := rfl; omega, fun t u hu => ?_⟩
    · have s := y5.2 t u hu
      have sl := l_lt s
      rw [c3_17 (by omega), h86 _ sl, List.getD_eq_getElem?_getD, s]
      rfl
    · rw [t120 120 (by decide) (by decide) i hi]; exact z4
    · rw [t120 121 (by decide) (by decide) i hi]; exact z5
    · rw [t120 122 (by decide) (by decide) i hi]; exact z6
    · rw [t120 123 (by decide) (by decide) i hi]; exact z7
    · have s := z8.2 t u hu
      have sl : g + t < lm c := l_lt s
      obtain ⟨v1, v2⟩ := h24 _ sl
      rw [t124 124 (Or.inl rfl) _ sl, t124 125 (Or.inr rfl) _ sl, v1, v2, List.getD_eq_getElem?_getD, s]
      exact ⟨rfl, rfl⟩
  · rw [mc 22 (by decide) (by decide), mc 23 (by decide) (by decide), m7, md 127 (by decide) (by decide) (by decide)]; exact hsp
  · rw [mc 24 (by decide) (by decide), mc 25 (by decide) (by decide), m7, md 128 (by decide) (by decide) (by decide)]; exact hcu
  · rw [mc 26 (by decide) (by decide), mc 27 (by decide) (by decide), m7, md 129 (by decide) (by decide) (by decide)]; exact hli
  · obtain ⟨k, x, p1, p2, p3, p4, p5, p6⟩ := hpr
    refine ⟨k, x, p1, p2, by rw [mc 48 (by decide) (by decide)]; exact p3, by rw [mc 48 (by decide) (by decide)]; exact p4, by rw [m7]; exact p5, fun j hj => ?_⟩
    exact p_mov_c (by omega) (fun a g1 g2 => mc a (by omega) (by omega)) (fun t ht => by rw [md 109 (by decide) (by decide) (by decide)]) (p6 j hj)
  · unfold RD
    rw [mc 80 (by decide) (by decide), mc 81 (by decide) (by decide), m7, md 117 (by decide) (by decide) (by decide)]; exact hrd
  · unfold CK
    rw [mc 9 (by decide) (by decide), mc 93 (by decide) (by decide), mc 14 (by decide) (by decide), mc 22 (by decide) (by decide), mc 24 (by decide) (by decide), mc 26 (by decide) (by decide), mc 29 (by decide) (by decide), mc 31 (by decide) (by decide), mc 33 (by decide) (by decide), mc 35 (by decide) (by decide), mc 37 (by decide) (by decide), mc 39 (by decide) (by decide), mc 41 (by decide) (by decide), mc 91 (by decide) (by decide), m7]
    exact hck
/-- rows are taken: z the class's rows, a the model's, w where it counts them, P whether what can be undone is forgotten -/
theorem Rel_row {G : nG} {C D C2 D2 : nM} {n q z : Nat} (h : Rel G (Mix C D) n q) (hz : z = 22 ∨ z = 24 ∨ z = 26) (hC : ∀ a, a ≠ z → a ≠ z + 1 → a ≠ 48 → C2 a = C a) (hCz : ∀ i, i ≠ 3 → C2 z i = C z i) (h481 : C2 48 1 = C 48 1) (hD : ∀ a i, a ≠ z / 2 + 116 → ¬ (a = 107 ∧ (i = 3 ∨ i = 37 ∨ i = 39 ∨ i = 41)) → D2 a i = D a i) (h7 : ∀ i, (i = 37 ∨ i = 39 ∨ i = 41) → i ≠ z + 15 → D2 107 i = D 107 i) (hp : (C2 48 2 = C 48 2 ∧ D2 107 3 = D 107 3) ∨ (C2 48 2 = 0 ∧ D2 107 3 = 0))
    (gsp : z = 22 → r_sup (C2 22 3) (C2 23) (D2 107 37) (D2 127) n q) (gcu : z = 24 → r_cus (C2 24 3) (C2 25) (D2 107 39) (D2 128) q) (gli : z = 26 → r_lin (C2 26 3) (C2 27) (D2 107 41) (D2 129) q) : Rel G (Mix C2 D2) n q := by
  have mc : ∀ a, a < 107 ∨ 151 < a → a ≠ z → a ≠ z + 1 → a ≠ 48 → Mix C2 D2 a = Mix C D a := fun a h1 h2 h3 h4 => by rw [Mix_c h1, Mix_c h1, hC a h2 h3 h4]
  have md : ∀ a, 107 < a → a ≤ 151 → a ≠ z / 2 + 116 → Mix C2 D2 a = Mix C D a := fun a h1 h2 h3 => by
    rw [Mix_d (by omega) h2, Mix_d (by omega) h2]
    funext i
    exact hD a i h3 (by omega)
  have m7 : ∀ i, ¬ (i = 3 ∨ i = 37 ∨ i = 39 ∨ i = 41) → Mix C2 D2 107 i = Mix C D 107 i := fun i hi => by
    rw [Mix_7, Mix_7]
    exact hD 107 i (by omega) (by omega)
  have mz : ∀ i, i ≠ 3 → Mix C2 D2 z i = Mix C D z i := fun i hi => by
    rw [Mix_c (by omega), Mix_c (by omega)]
    exact hCz i hi
  obtain ⟨⟨hst, hmv, hbk, hlw, hsp, hcu, hli, hsw, hpk, hbx, hky, hcl, hsh, hrw, hgf, hmi⟩, hpr, hrd, hck, hwd, him⟩ := id h
  refine Rel_tx h (fun a ha => ?_) (fun i hi => m7 i (by unfold t7c at hi; omega)) ?_ ?_ ?_ ?_ ?_ ?_ ?_
  · by_cases y : a < 107 ∨ 151 < a
    · exact mc a y (by unfold txc at ha; omega) (by unfold txc at ha; omega) (by unfold txc at ha; omega)
    · exact md a (by unfold txc at ha; omega) (by omega) (by unfold txc at ha; omega)
  · rw [mc 16 (by decide) (by omega) (by omega) (by decide), mc 17 (by decide) (by omega) (by omega) (by decide), mc 18 (by decide) (by omega) (by omega) (by decide), mc 19 (by decide) (by omega) (by omega) (by decide), mc 20 (by decide) (by omega) (by omega) (by decide), mc 21 (by decide) (by omega) (by omega) (by decide), md 119 (by decide) (by decide) (by omega), md 120 (by decide) (by decide) (by omega), md 121 (by decide) (by decide) (by omega), md 122 (by decide) (by decide) (by omega), md 123 (by decide) (by decide) (by omega), md 124 (by decide) (by decide) (by omega), md 125 (by decide) (by decide) (by omega)]; exact hlw
  · by_cases y : z = 22
    · rw [Mix_c (show 22 < 107 ∨ 151 < 22 by decide), Mix_c (show 23 < 107 ∨ 151 < 23 by decide), Mix_7, Mix_d (show 107 ≤ 127 by decide) (by decide)]
      exact gsp y
    · rw [mc 22 (by decide) (by omega) (by omega) (by decide), mc 23 (by decide) (by omega) (by omega) (by decide), Mix_7, h7 37 (Or.inl rfl) (by omega), ← Mix_7 (C := C) (D := D) (i := 37), md 127 (by decide) (by decide) (by omega)]; exact hsp
  · by_cases y : z = 24
    · rw [Mix_c (show 24 < 107 ∨ 151 < 24 by decide), Mix_c (show 25 < 107 ∨ 151 < 25 by decide), Mix_7, Mix_d (show 107 ≤ 128 by decide) (by decide)]
      exact gcu y
    · rw [mc 24 (by decide) (by omega) (by omega) (by decide), mc 25 (by decide) (by omega) (by omega) (by decide), Mix_7, h7 39 (Or.inr (Or.inl rfl)) (by omega), ← Mix_7 (C := C) (D := D) (i := 39), md 128 (by decide) (by decide) (by omega)]; exact hcu
  · by_cases y : z = 26
    · rw [Mix_c (show 26 < 107 ∨ 151 < 26 by decide), Mix_c (show 27 < 107 ∨ 151 < 27 by decide), Mix_7, Mix_d (show 107 ≤ 129 by decide) (by decide)]
      exact gli y
    · rw [mc 26 (by decide) (by omega) (by omega) (by decide), mc 27 (by decide) (by omega) (by omega) (by decide), Mix_7, h7 41 (Or.inr (Or.inr rfl)) (by omega), ← Mix_7 (C := C) (D := D) (i := 41), md 129 (by decide) (by decide) (by omega)]; exact hli
  · obtain ⟨k, x, p1, p2, p3, p4, p5, p6⟩ := hpr
    have e48 : ∀ i, Mix C2 D2 48 i = C2 48 i := fun i => by rw [Mix_c (by decide)]
    have e48' : ∀ i, Mix C D 48 i = C 48 i := fun i => by rw [Mix_c (by decide)]
    rcases hp with ⟨q1, q2⟩ | ⟨q1, q2⟩
    · refine ⟨k, x, p1, p2, by rw [e48, q1, ← e48']; exact p3, by rw [e48, h481, ← e48']; exact p4, by rw [Mix_7, q2, ← Mix_7 (C := C) (D := D) (i := 3)]; exact p5, fun j hj => ?_⟩
      exact p_mov_c (by omega) (fun a g1 g2 => mc a (by omega) (by omega) (by omega) (by omega)) (fun t ht => by rw [md 109 (by decide) (by decide) (by omega)]) (p6 j hj)
    · exact ⟨0, x, by decide, p2, by rw [e48, q1]; rfl, by rw [e48, h481, ← e48']; exact p4, by rw [Mix_7, q2]; rfl, fun j hj => absurd hj (by omega)⟩
  · unfold RD
    rw [mc 80 (by decide) (by omega) (by omega) (by decide), mc 81 (by decide) (by omega) (by omega) (by decide), m7 15 (by decide), m7 35 (by decide), m7 36 (by decide), md 117 (by decide) (by decide) (by omega)]; exact hrd
  · have w : ∀ a, (a = 22 ∨ a = 24 ∨ a = 26) → ∀ i, i ≠ 3 → Mix C2 D2 a i = Mix C D a i := fun a ha i hi => by
      by_cases y : a = z
      · rw [y]; exact mz i hi
      · rw [mc a (by omega) y (by omega) (by omega)]
    unfold CK
    rw [mc 9 (by decide) (by omega) (by omega) (by decide), mc 93 (by decide) (by omega) (by omega) (by decide), mc 14 (by decide) (by omega) (by omega) (by decide), w 22 (by decide) 1 (by decide), w 22 (by decide) 2 (by decide), w 24 (by decide) 1 (by decide), w 24 (by decide) 2 (by decide), w 26 (by decide) 1 (by decide), w 26 (by decide) 2 (by decide), mc 29 (by decide) (by omega) (by omega) (by decide), mc 31 (by decide) (by omega) (by omega) (by decide), mc 33 (by decide) (by omega) (by omega) (by decide), mc 35 (by decide) (by omega) (by omega) (by decide), mc 37 (by decide) (by omega) (by omega) (by decide), mc 39 (by decide) (by omega) (by omega) (by decide), mc 41 (by decide) (by omega) (by omega) (by decide), mc 91 (by decide) (by omega) (by omega) (by decide), m7 5 (by decide)]
    exact hck
