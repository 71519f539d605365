/-! ===== how many bits, sums ===== -/
theorem nI_and (a b : Nat) : nI a &&& nI b = nI (a &&& b) := Int32.toBitVec_inj.mp (by
  rw [Int32.toBitVec_and]
  exact BitVec.ofNat_and.symm)
def pc1 (w : Nat) : Nat := Nat.sub w (Nat.land (Nat.div w 2) 1431655765)
def pc2 (v : Nat) : Nat := Nat.add (Nat.land v 858993459) (Nat.land (Nat.div v 4) 858993459)
def pc3 (v : Nat) : Nat := Nat.land (Nat.add v (Nat.div v 16)) 252645135
def pc4 (v : Nat) : Nat := Nat.add v (Nat.div v 256)
def pc5 (v : Nat) : Nat := Nat.add v (Nat.div v 65536)
def pcN (w : Nat) : Nat := Nat.land (pc5 (pc4 (pc3 (pc2 (pc1 w))))) 63
def pcC : Nat → Nat → Bool
  | 0, w => Nat.beq (pcN w) (Nat.add (pcN (Nat.div w 2)) (Nat.mod w 2))
  | k + 1, w => pcC k (Nat.mul 2 w) && pcC k (Nat.add (Nat.mul 2 w) 1)
theorem pcC_t : ∀ (k a w : Nat), pcC k a = true → a * 2 ^ k ≤ w → w < (a + 1) * 2 ^ k → pcN w = pcN (w / 2) + w % 2
  | 0, a, w, h, h1, h2 => by
    have : w = a := by omega
    subst this
    exact Nat.eq_of_beq_eq_true h
  | k + 1, a, w, h, h1, h2 => by
    unfold pcC at h
    rw [Bool.and_eq_true] at h
    rw [Nat.pow_succ] at h1 h2
    have e1 : a * (2 ^ k * 2) = (2 * a) * 2 ^ k := by rw [Nat.mul_comm (2 ^ k) 2, ← Nat.mul_assoc, Nat.mul_comm a 2]
    have e2 : (a + 1) * (2 ^ k * 2) = (2 * a + 2) * 2 ^ k := by rw [Nat.mul_comm (2 ^ k) 2, ← Nat.mul_assoc, Nat.add_mul, Nat.mul_comm a 2]
    rw [e1] at h1
    rw [e2] at h2
    rcases Nat.lt_or_ge w ((2 * a + 1) * 2 ^ k) with h3 | h3
    · exact pcC_t k (2 * a) w h.1 h1 h3
    · exact pcC_t k (2 * a + 1) w h.2 h3 h2
set_option maxRecDepth 100000 in
theorem pcC_16 : pcC 16 0 = true := by decide +kernel
theorem pc_rec {w : Nat} (h : w < 65536) : pcN w = pcN (w / 2) + w % 2 := pcC_t 16 0 w pcC_16 (by omega) (by omega)
def pcS : Nat → Nat → Nat
  | 0, _ => 0
  | k + 1, w => w % 2 + pcS k (w / 2)
theorem pc_S : ∀ (k w : Nat), k ≤ 16 → w < 2 ^ k → pcN w = pcS k w
  | 0, w, _, h => by
    have : w = 0 := by omega
    subst this
    rfl
  | k + 1, w, hk, h => by
    have h16 : 2 ^ (k + 1) ≤ 2 ^ 16 := Nat.pow_le_pow_right (by decide) hk
    rw [Nat.pow_succ] at h h16
    rw [pc_rec (by omega), pc_S k (w / 2) (by omega) (by omega)]
    show pcS k (w / 2) + w % 2 = w % 2 + pcS k (w / 2)
    exact Nat.add_comm _ _
theorem e_bc {w : Nat} (h : w < 65536) (M : nM) : fJ6_bitCount_0f7a4 (nI w) M = some (nI (pcN w), M) := by
  have a1 : Nat.land (Nat.div w 2) 1431655765 ≤ w / 2 := Nat.and_le_left
  have b1 : pc1 w ≤ w := Nat.sub_le _ _
  have a2 : Nat.land (pc1 w) 858993459 ≤ pc1 w := Nat.and_le_left
  have a3 : Nat.land (Nat.div (pc1 w) 4) 858993459 ≤ pc1 w / 4 := Nat.and_le_left
  have b2 : pc2 (pc1 w) = Nat.land (pc1 w) 858993459 + Nat.land (Nat.div (pc1 w) 4) 858993459 := rfl
  have b3 : pc3 (pc2 (pc1 w)) ≤ pc2 (pc1 w) + pc2 (pc1 w) / 16 := Nat.and_le_left
  have b4 : pc4 (pc3 (pc2 (pc1 w))) = pc3 (pc2 (pc1 w)) + pc3 (pc2 (pc1 w)) / 256 := rfl
  have s1 : ((nI w).toUInt32 >>> ((1 : Int32).toUInt32 &&& Int32.toUInt32 31)).toInt32 = nI (w / 2) := pk_ushrN (by omega) 1 1 (by decide)
  have s2 : ((nI (pc1 w)).toUInt32 >>> ((2 : Int32).toUInt32 &&& Int32.toUInt32 31)).toInt32 = nI (pc1 w / 4) := pk_ushrN (by omega) 2 2 (by decide)
  have s3 : ((nI (pc2 (pc1 w))).toUInt32 >>> ((4 : Int32).toUInt32 &&& Int32.toUInt32 31)).toInt32 = nI (pc2 (pc1 w) / 16) := pk_ushrN (by omega) 4 4 (by decide)
  have s4 : ((nI (pc3 (pc2 (pc1 w)))).toUInt32 >>> ((8 : Int32).toUInt32 &&& Int32.toUInt32 31)).toInt32 = nI (pc3 (pc2 (pc1 w)) / 256) := pk_ushrN (by omega) 8 8 (by decide)
  have s5 : ((nI (pc4 (pc3 (pc2 (pc1 w))))).toUInt32 >>> ((16 : Int32).toUInt32 &&& Int32.toUInt32 31)).toInt32 = nI (pc4 (pc3 (pc2 (pc1 w))) / 65536) := pk_ushrN (by omega) 16 16 (by decide)
  have t1 : nI w - (((nI w).toUInt32 >>> ((1 : Int32).toUInt32 &&& Int32.toUInt32 31)).toInt32 &&& (1431655765 : Int32)) = nI (pc1 w) := by
    rw [s1, show (1431655765 : Int32) = nI 1431655765 from rfl, nI_and]
    exact pk_sub (Nat.le_trans a1 (Nat.div_le_self _ _))
  have t2 : (nI (pc1 w) &&& (858993459 : Int32)) + (((nI (pc1 w)).toUInt32 >>> ((2 : Int32).toUInt32 &&& Int32.toUInt32 31)).toInt32 &&& (858993459 : Int32)) = nI (pc2 (pc1 w)) := by
    rw [s2, show (858993459 : Int32) = nI 858993459 from rfl, nI_and, nI_and, nI_add]
    rfl
  have t3 : (nI (pc2 (pc1 w)) + ((nI (pc2 (pc1 w))).toUInt32 >>> ((4 : Int32).toUInt32 &&& Int32.toUInt32 31)).toInt32) &&& (252645135 : Int32) = nI (pc3 (pc2 (pc1 w))) := by
    rw [s3, show (252645135 : Int32) = nI 252645135 from rfl, nI_add, nI_and]
    rfl
  have t4 : nI (pc3 (pc2 (pc1 w))) + ((nI (pc3 (pc2 (pc1 w)))).toUInt32 >>> ((8 : Int32).toUInt32 &&& Int32.toUInt32 31)).toInt32 = nI (pc4 (pc3 (pc2 (pc1 w)))) := by
    rw [s4, nI_add]
    rfl
  have t5 : nI (pc4 (pc3 (pc2 (pc1 w)))) + ((nI (pc4 (pc3 (pc2 (pc1 w))))).toUInt32 >>> ((16 : Int32).toUInt32 &&& Int32.toUInt32 31)).toInt32 = nI (pc5 (pc4 (pc3 (pc2 (pc1 w))))) := by
    rw [s5, nI_add]
    rfl
  have t6 : nI (pc5 (pc4 (pc3 (pc2 (pc1 w))))) &&& (63 : Int32) = nI (pcN w) := by
    rw [show (63 : Int32) = nI 63 from rfl, nI_and]
    rfl
  unfold fJ6_bitCount_0f7a4
  rw [t1]
  show some (_, M) = _
  rw [t2, t3, t4, t5, t6]
def p_sum : Nat → (Nat → Int32) → Int32
  | 0, _ => 0
  | k + 1, f => p_sum k f + f k
theorem p_sum_c {f g : Nat → Int32} : ∀ {k : Nat}, (∀ i, i < k → f i = g i) → p_sum k f = p_sum k g
  | 0, _ => rfl
  | k + 1, h => by
    unfold p_sum
    rw [p_sum_c (k := k) (fun i hi => h i (by omega)), h k (by omega)]
theorem p_sum_0 {f : Nat → Int32} {q : Nat} : ∀ d : Nat, (∀ i, q ≤ i → i < q + d → f i = 0) → p_sum (q + d) f = p_sum q f
  | 0, _ => rfl
  | d + 1, h => by
    show p_sum (q + d) f + f (q + d) = p_sum q f
    rw [h (q + d) (by omega) (by omega), Int32.add_zero]
    exact p_sum_0 d (fun i h1 h2 => h i h1 (by omega))
theorem p_sum_h (f : Nat → Int32) : ∀ k : Nat, p_sum (k + 1) f = f 0 + p_sum k (fun t => f (t + 1))
  | 0 => by
    show (0 : Int32) + f 0 = f 0 + 0
    exact Int32.add_comm _ _
  | k + 1 => by
    show p_sum (k + 1) f + f (k + 1) = f 0 + (p_sum k (fun t => f (t + 1)) + f (k + 1))
    rw [p_sum_h f k, Int32.add_assoc]
theorem p_sum_S : ∀ (k w : Nat), p_sum k (fun t => cb (w.testBit t)) = nI (pcS k w)
  | 0, _ => rfl
  | k + 1, w => by
    have ih := p_sum_S k (w / 2)
    have e : (fun t => cb (w.testBit (t + 1))) = (fun t => cb ((w / 2).testBit t)) := by
      funext t
      rw [Nat.testBit_succ]
    have e0 : cb (w.testBit 0) = nI (w % 2) := by
      rw [Nat.testBit_zero]
      rcases Nat.mod_two_eq_zero_or_one w with h | h <;> rw [h] <;> rfl
    rw [p_sum_h]
    show cb (w.testBit 0) + p_sum k (fun t => cb (w.testBit (t + 1))) = _
    rw [e, ih, e0, nI_add]
    rfl
theorem e_sum5 {N : Nat} {b k : Nat} (hb : b + k ≤ 100) {M : nM} : ∀ (d i f : Nat), i + d = k → d < f → fX12_sumOf_5 N f (nI b) (nI k) (p_sum i (fun t => M 108 (b + t))) (nI i) M = some (p_sum k (fun t => M 108 (b + t)), M) := by
  intro d
  induction d with
  | zero =>
    intro i f hi hf
    obtain ⟨f, rfl⟩ : ∃ g, f = g + 1 := ⟨f - 1, by omega⟩
    have : i = k := by omega
    subst this
    unfold fX12_sumOf_5
    rw [if_pos (nI_le (by omega) (by omega))]
  | succ d ih =>
    intro i f hi hf
    obtain ⟨f, rfl⟩ : ∃ g, f = g + 1 := ⟨f - 1, by omega⟩
    unfold fX12_sumOf_5
    rw [if_neg (nI_ge (by omega) (by omega)), nI_add, n_ib_nI (show b + i < 100 by omega) (by decide), n_chk_t, nI_clamp (show b + i < 2 ^ 31 by omega), nI_1]
    exact ih (i + 1) f (by omega) (by omega)
theorem e_sumM {N : Nat} {b k : Nat} (hN : 1000 ≤ N) (hb : b + k ≤ 100) (M : nM) : fX12_sumOf N (nI b) (nI k) M = some (p_sum k (fun t => M 108 (b + t)), M) := e_sum5 hb k 0 N (by omega) (by omega)
theorem e_sum4 {N : Nat} {G : nG} {c L : Nat} (hk : n_kd G c = 14) (hl : n_len G c = L) (hL : L < 100) {M : nM} : ∀ (d i f : Nat), i + d = L → d < f → fX4_sum_4 N G f c (p_sum i (M c)) (nI i) M = some (p_sum L (M c), M) := by
  intro d
  have hk2 : Nat.beq (n_kd G c) 14 = true := by rw [hk]; rfl
  have hl2 : Int32.ofNat (n_len G c) = nI L := by rw [hl]; rfl
  induction d with
  | zero =>
    intro i f hi hf
    obtain ⟨f, rfl⟩ : ∃ g, f = g + 1 := ⟨f - 1, by omega⟩
    have : i = L := by omega
    subst this
    unfold fX4_sum_4
    rw [hk2, n_chk_t, hl2, if_pos (nI_le (by omega) (by omega))]
  | succ d ih =>
    intro i f hi hf
    obtain ⟨f, rfl⟩ : ∃ g, f = g + 1 := ⟨f - 1, by omega⟩
    unfold fX4_sum_4
    rw [hk2, n_chk_t, hl2, if_neg (nI_ge (by omega) (by omega)), n_in_nI hk hl (show i < L by omega) (by omega), n_chk_t, nI_clamp (show i < 2 ^ 31 by omega), nI_1]
    exact ih (i + 1) f (by omega) (by omega)
theorem e_sumC {N : Nat} {G : nG} {c L : Nat} (hN : 1000 ≤ N) (hk : n_kd G c = 14) (hl : n_len G c = L) (hL : L < 100) (M : nM) : fX4_sum N G c M = some (p_sum L (M c), M) := e_sum4 hk hl hL L 0 N (by omega) (by omega)
/-- the bits of s that a row of 0 and 1 tells, counted -/
theorem r_bits_bc {s : Int32} {row : Nat → Int32} {k m p n : Nat} (h : r_bits s row k m p) (hm : m = 16) (hp : p ≤ n) (hn : n ≤ 16) (M : nM) : fJ6_bitCount_0f7a4 s M = some (p_sum n (fun t => row (k + t)), M) := by
  subst hm
  obtain ⟨w, hw⟩ : ∃ w, w = s.toBitVec.toNat := ⟨_, rfl⟩
  have hs : s = nI w := by
    apply Int32.toBitVec_inj.mp
    apply BitVec.eq_of_toNat_eq
    rw [pk_tn (by rw [hw]; exact s.toBitVec.isLt), hw]
  have hb : ∀ t, w.testBit t = bt s t := fun t => by rw [hw]; rfl
  have hw16 : w < 2 ^ n := Nat.lt_pow_two_of_testBit w (fun i hi => by rw [hb]; exact h.2 i (by omega))
  have hle : 2 ^ n ≤ 2 ^ 16 := Nat.pow_le_pow_right (by decide) hn
  have hw2 : w < 65536 := by omega
  have e1 : p_sum n (fun t => row (k + t)) = nI (pcS n w) := by
    rw [← p_sum_S n w]
    exact p_sum_c (fun i hi => by
      show row (k + i) = cb (w.testBit i)
      rw [hb]
      exact (r_bits_g h (by omega)).symm)
  rw [e1, ← pc_S n w hn hw16]
  have e2 := e_bc hw2 M
  rw [← hs] at e2
  exact e2
