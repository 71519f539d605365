/-! ===== fits: ways to go on ===== -/
def f_T (b : Nat → Bool) (V : Nat → Nat) : Nat → Nat
  | 0 => 0
  | d + 1 => (if b (7 - d) = true then V (7 - d) else 0) + f_T b V d
def f_C (ok : Nat → Nat → Bool) : Nat → Nat → Nat
  | 0, _ => 1
  | d + 1, s => f_T (fun p => !s.testBit p && ok (7 - d) p) (fun p => f_C ok d (s ||| 2 ^ p)) 8
theorem f_T_le {b : Nat → Bool} {V : Nat → Nat} {K : Nat} (h : ∀ p, p < 8 → b p = true → V p ≤ K) : ∀ d : Nat, d ≤ 8 → f_T b V d ≤ d * K
  | 0, _ => Nat.zero_le _
  | d + 1, hd => by
    have ih := f_T_le h d (by omega)
    show (if b (7 - d) = true then V (7 - d) else 0) + f_T b V d ≤ (d + 1) * K
    rw [Nat.add_mul, Nat.one_mul]
    by_cases hb : b (7 - d) = true
    · rw [if_pos hb]
      have := h (7 - d) (by omega) hb
      omega
    · rw [if_neg hb]
      omega
theorem f_T_c {b c : Nat → Bool} {V U : Nat → Nat} (h : ∀ p, p < 8 → b p = c p) (h2 : ∀ p, p < 8 → b p = true → V p = U p) : ∀ d : Nat, d ≤ 8 → f_T b V d = f_T c U d
  | 0, _ => rfl
  | d + 1, hd => by
    show (if b (7 - d) = true then V (7 - d) else 0) + f_T b V d = (if c (7 - d) = true then U (7 - d) else 0) + f_T c U d
    rw [f_T_c h h2 d (by omega), ← h (7 - d) (by omega)]
    by_cases hb : b (7 - d) = true
    · rw [if_pos hb, if_pos hb, h2 _ (by omega) hb]
    · rw [if_neg hb, if_neg hb]
def f_F (s : Nat) (w V : Nat → Nat) : Nat := sN (fun S => if s ≤ S then w S * V S else 0) 256
theorem f_F_s {s : Nat} {w V : Nat → Nat} (hs : s < 256) : f_F s w V = w s * V s + f_F (s + 1) w V := by
  have := sN_u (g := fun S => if s ≤ S then w S * V S else 0) (h := fun S => if s + 1 ≤ S then w S * V S else 0) (a := s) 256 hs (fun i _ hi => by
    show (if s ≤ i then w i * V i else 0) = if s + 1 ≤ i then w i * V i else 0
    by_cases h : s ≤ i
    · rw [if_pos h, if_pos (by omega)]
    · rw [if_neg h, if_neg (by omega)])
  rw [if_pos (Nat.le_refl s), if_neg (by omega)] at this
  unfold f_F
  omega
theorem f_F_u {s k x : Nat} {w w' V : Nat → Nat} (hk : k < 256) (hs : s ≤ k) (h1 : w' k = w k + x) (h2 : ∀ i, i < 256 → i ≠ k → w' i = w i) : f_F s w' V = f_F s w V + x * V k := by
  have := sN_u (g := fun S => if s ≤ S then w' S * V S else 0) (h := fun S => if s ≤ S then w S * V S else 0) (a := k) 256 hk (fun i hi hne => by
    show (if s ≤ i then w' i * V i else 0) = if s ≤ i then w i * V i else 0
    rw [h2 i hi hne])
  rw [if_pos hs, if_pos hs, h1, Nat.add_mul] at this
  unfold f_F
  omega
theorem f_F_e {w V : Nat → Nat} : f_F 255 w V = w 255 * V 255 := by
  rw [f_F_s (by decide)]
  have : f_F 256 w V = 0 := by
    have e : f_F 256 w V = sN (fun _ => 0) 256 := sN_c 256 fun i hi => by
      show (if 256 ≤ i then w i * V i else 0) = 0
      rw [if_neg (by omega)]
    rw [e]
    have : ∀ n : Nat, sN (fun _ => 0) n = 0 := by
      intro n
      induction n with
      | zero => rfl
      | succ n ih => show sN (fun _ => 0) n + 0 = 0; omega
    exact this 256
  show w 255 * V 255 + f_F 256 w V = _
  omega
theorem f_F_0 {w V : Nat → Nat} (h0 : w 0 = 1) (h : ∀ i, i < 256 → i ≠ 0 → w i = 0) : f_F 0 w V = V 0 := by
  have := sN_u (g := fun S => if 0 ≤ S then w S * V S else 0) (h := fun _ => 0) (a := 0) 256 (by decide) (fun i hi hne => by
    show (if 0 ≤ i then w i * V i else 0) = 0
    rw [h i hi hne, Nat.zero_mul]
    exact ite_self _)
  have z : ∀ n : Nat, sN (fun _ => 0) n = 0 := by
    intro n
    induction n with
    | zero => rfl
    | succ n ih => show sN (fun _ => 0) n + 0 = 0; omega
  rw [z 256, if_pos (Nat.le_refl 0), h0, Nat.one_mul] at this
  unfold f_F
  omega
theorem f_F_ge {s k : Nat} {w V : Nat → Nat} (hk : k < 256) (hs : s ≤ k) : w k * V k ≤ f_F s w V := by
  have := sN_u (g := fun S => if s ≤ S then w S * V S else 0) (h := fun S => if S = k then 0 else if s ≤ S then w S * V S else 0) (a := k) 256 hk (fun i hi hne => by
    show (if s ≤ i then w i * V i else 0) = if i = k then 0 else if s ≤ i then w i * V i else 0
    rw [if_neg hne])
  rw [if_pos hs, if_pos rfl] at this
  unfold f_F
  omega
/-! ===== fits: the class counts by sets ===== -/
theorem nI_or (a b : Nat) : nI a ||| nI b = nI (a ||| b) := Int32.toBitVec_inj.mp (by
  rw [Int32.toBitVec_or]
  exact BitVec.ofNat_or.symm)
theorem f_bi : ∀ p, p < 8 → (1 : Int32) <<< (nI p &&& 31) = nI (2 ^ p) := by decide +kernel
set_option maxRecDepth 100000 in
theorem f_tb : ∀ s, s < 256 → ∀ p, p < 8 → decide (Nat.land s (2 ^ p) = 0) = (!s.testBit p) ∧ Nat.lor s (2 ^ p) < 256 ∧ (s.testBit p = true ∨ (s < Nat.lor s (2 ^ p) ∧ pcN (Nat.lor s (2 ^ p)) = pcN s + 1)) := by decide +kernel
set_option maxRecDepth 100000 in
theorem f_pc : ∀ s, s < 255 → pcN s < 8 := by decide +kernel
theorem f_bt0 {a : Int32} {p : Nat} (hp : p < 8) : (a &&& nI (2 ^ p)) = 0 ↔ bt a p = false := by
  rw [← f_bi p hp]
  constructor
  · intro e
    have := b_and a ((1 : Int32) <<< (nI p &&& 31)) p
    rw [e, b_0, b_sh (by omega)] at this
    simpa using this.symm
  · intro e
    refine b_ext fun i hi => ?_
    rw [b_and, b_0, b_sh (by omega)]
    by_cases z : i = p
    · rw [z, e]; rfl
    · simp [z]
theorem wa34_eq (N f : Nat) (G : nG) (k21 : Int32 → Int32 → nM → Option (Int32 × nM)) (x1 x2 x3 x4 : Int32) (M : nM) : fX9_waysAllowed_34 N G k21 (f + 1) x1 x2 x3 x4 M = if (8 : Int32) ≤ x4 then k21 x1 (x2 + (1 : Int32)) M else n_chk (n_ib 256 x2) (if (M 99 x2.toNatClampNeg) = 0 then k21 x1 (x2 + (1 : Int32)) M else if ¬ (x2 &&& ((1 : Int32) <<< (x4 &&& 31))) = 0 then fX9_waysAllowed_34 N G k21 f x1 x2 x3 (x4 + (1 : Int32)) M else n_chk (n_ib 8 x3) (if ((M 100 x3.toNatClampNeg) &&& ((1 : Int32) <<< (x4 &&& 31))) = 0 then fX9_waysAllowed_34 N G k21 f x1 x2 x3 (x4 + (1 : Int32)) M else n_chk (n_ib 256 (x2 ||| ((1 : Int32) <<< (x4 &&& 31)))) (n_chk (n_ib 256 x2) (n_chk (n_ib 256 (x2 ||| ((1 : Int32) <<< (x4 &&& 31)))) (fX9_waysAllowed_34 N G k21 f x1 x2 x3 (x4 + (1 : Int32)) (n_up M 99 (x2 ||| ((1 : Int32) <<< (x4 &&& 31))).toNatClampNeg ((M 99 (x2 ||| ((1 : Int32) <<< (x4 &&& 31))).toNatClampNeg) + (M 99 x2.toNatClampNeg)))))))) := rfl
theorem wa21_eq (N f : Nat) (G : nG) (x1 x2 : Int32) (M : nM) : fX9_waysAllowed_21 N G (f + 1) x1 x2 M = if x1 ≤ x2 then n_chk (n_ib 256 x1) (some ((M 99 x1.toNatClampNeg), M)) else (fJ6_bitCount_0f7a4 x2 M).bind fun p1 => fX9_waysAllowed_34 N G (fun x1 x2 M => fX9_waysAllowed_21 N G f x1 x2 M) N x1 x2 p1.1 (0 : Int32) p1.2 := rfl
theorem c_wa34 {N s c : Nat} {G : nG} {k21 : Int32 → Int32 → nM → Option (Int32 × nM)} {x1 : Int32} {M : nM} (hs : s < 256) (hc : c < 8) : ∀ (d f : Nat) (w : Nat → Nat) (W : Nat → Int32), d ≤ 8 → d < f → (∀ S, S < 256 → W S = nI (w S)) → w s < 2 ^ 31 → ∃ (w' : Nat → Nat) (W' : Nat → Int32), (∀ S, S < 256 → W' S = nI (w' S)) ∧ (∀ V : Nat → Nat, f_F (s + 1) w' V = f_F (s + 1) w V + w s * f_T (fun p => !s.testBit p && bt (M 100 c) p) (fun p => V (s ||| 2 ^ p)) d) ∧ fX9_waysAllowed_34 N G k21 f x1 (nI s) (nI c) (nI (8 - d)) (n_set M 99 W) = k21 x1 (nI (s + 1)) (n_set M 99 W') := by
  intro d
  induction d with
  | zero =>
    intro f w W hd hf hW hx
    obtain ⟨f, rfl⟩ : ∃ g, f = g + 1 := ⟨f - 1, by omega⟩
    refine ⟨w, W, hW, fun V => (show f_F (s + 1) w V = f_F (s + 1) w V + w s * 0 by rw [Nat.mul_zero]; exact (Nat.add_zero _).symm), ?_⟩
    rw [wa34_eq, if_pos (show (8 : Int32) ≤ nI (8 - 0) by decide), nI_1]
  | succ d ih =>
    intro f w W hd hf hW hx
    obtain ⟨f, rfl⟩ : ∃ g, f = g + 1 := ⟨f - 1, by omega⟩
    have hp : 7 - d < 8 := by omega
    have e8 : 8 - (d + 1) = 7 - d := by omega
    have e9 : 7 - d + 1 = 8 - d := by omega
    rw [e8, wa34_eq, if_neg (show ¬ (8 : Int32) ≤ nI (7 - d) from nI_ge (b := 8) hp (by decide)), n_ib_nI hs (by decide), n_chk_t, nI_clamp (show s < 2 ^ 31 by omega), n_set_eq, hW s hs, f_bi _ hp, nI_1, nI_1, e9, n_chk_t]
    by_cases h0 : w s = 0
    · refine ⟨w, W, hW, fun V => ?_, ?_⟩
      · rw [h0, Nat.zero_mul]; exact (Nat.add_zero _).symm
      · rw [h0, if_pos (show nI 0 = (0 : Int32) from rfl)]
    · rw [if_neg (nI_ne0 (by omega) hx)]
      obtain ⟨t1, t2, t3⟩ := f_tb s hs (7 - d) hp
      have hT : ∀ V : Nat → Nat, f_T (fun p => !s.testBit p && bt (M 100 c) p) (fun p => V (s ||| 2 ^ p)) (d + 1) = (if (!s.testBit (7 - d) && bt (M 100 c) (7 - d)) = true then V (s ||| 2 ^ (7 - d)) else 0) + f_T (fun p => !s.testBit p && bt (M 100 c) p) (fun p => V (s ||| 2 ^ p)) d := fun V => rfl
      rw [nI_and, nI_or]
      have t2' : s ||| 2 ^ (7 - d) < 256 := t2
      have t1' : decide (s &&& 2 ^ (7 - d) = 0) = (!s.testBit (7 - d)) := t1
      have t3' : s.testBit (7 - d) = true ∨ (s < s ||| 2 ^ (7 - d) ∧ pcN (s ||| 2 ^ (7 - d)) = pcN s + 1) := t3
      cases hb : s.testBit (7 - d) with
      | true =>
        have hne : ¬ s &&& 2 ^ (7 - d) = 0 := fun e => by rw [hb, decide_eq_true e] at t1'; exact absurd t1' (by decide)
        have hle : s &&& 2 ^ (7 - d) ≤ s := Nat.and_le_left
        rw [if_pos (nI_ne0 (by omega) (by omega))]
        obtain ⟨w', W', r1, r2, r3⟩ := ih f w W (by omega) (by omega) hW hx
        refine ⟨w', W', r1, fun V => ?_, r3⟩
        rw [r2 V, hT V, hb, if_neg (show ¬ (!true && bt (M 100 c) (7 - d)) = true by rw [Bool.not_true, Bool.false_and]; decide), Nat.zero_add]
      | false =>
        have hze : s &&& 2 ^ (7 - d) = 0 := by
          rw [hb] at t1'
          exact of_decide_eq_true t1'
        have hlt : s < s ||| 2 ^ (7 - d) := by
          rcases t3' with z | z
          · rw [hb] at z; exact absurd z (by decide)
          · exact z.1
        generalize s ||| 2 ^ (7 - d) = k at t2' hlt hT
        rw [hze, if_neg (not_not_intro (show nI 0 = (0 : Int32) from rfl)), n_ib_nI hc (by decide), n_chk_t, nI_clamp (show c < 2 ^ 31 by omega), n_set_ne (show (100 : Nat) ≠ 99 by decide)]
        cases ha : bt (M 100 c) (7 - d) with
        | false =>
          rw [if_pos ((f_bt0 hp).mpr ha)]
          obtain ⟨w', W', r1, r2, r3⟩ := ih f w W (by omega) (by omega) hW hx
          refine ⟨w', W', r1, fun V => ?_, r3⟩
          rw [r2 V, hT V, hb, ha]
          rw [if_neg (by decide), Nat.zero_add]
        | true =>
          rw [if_neg (fun e => by rw [(f_bt0 hp).mp e] at ha; exact absurd ha (by decide)), n_ib_nI t2' (by decide), n_chk_t, n_chk_t, nI_clamp (show k < 2 ^ 31 by omega), hW k t2', nI_add, n_up_set]
          have hks : s ≠ k := by omega
          obtain ⟨w', W', r1, r2, r3⟩ := ih f (fun S => if S = k then w k + w s else w S) (upd W k (nI (w k + w s))) (by omega) (by omega) (fun S hS => by
            by_cases e : S = k
            · subst e; rw [upd_eq, if_pos rfl]
            · rw [upd_ne e, if_neg e]; exact hW S hS) (by rw [if_neg hks]; exact hx)
          refine ⟨w', W', r1, fun V => ?_, r3⟩
          have u1 := f_F_u (s := s + 1) (k := k) (x := w s) (w := w) (w' := fun S => if S = k then w k + w s else w S) (V := V) t2' (by omega) (if_pos rfl) (fun i _ hi => if_neg hi)
          rw [r2 V, u1, if_neg hks, hT V, hb, ha, if_pos (by decide), Nat.mul_add]
          omega
def f_V (ok : Nat → Nat → Bool) (S : Nat) : Nat := f_C ok (8 - pcN S) S
def f_V8 (S : Nat) : Nat := 8 ^ (8 - pcN S)
theorem c_wa21 {N K : Nat} {G : nG} {M : nM} (hN : 1000 ≤ N) : ∀ (d s f : Nat) (w : Nat → Nat) (W : Nat → Int32), s + d = 255 → d < f → (∀ S, S < 256 → W S = nI (w S)) → f_F s w (f_V (fun t p => bt (M 100 t) p)) = K → f_F s w f_V8 ≤ 8 ^ 8 → ∃ W' : Nat → Int32, fX9_waysAllowed_21 N G f (255 : Int32) (nI s) (n_set M 99 W) = some (nI K, n_set M 99 W') := by
  intro d
  induction d with
  | zero =>
    intro s f w W hs hf hW h1 h2
    obtain ⟨f, rfl⟩ : ∃ g, f = g + 1 := ⟨f - 1, by omega⟩
    obtain rfl : s = 255 := by omega
    refine ⟨W, ?_⟩
    rw [f_F_e] at h1
    have e1 : f_V (fun t p => bt (M 100 t) p) 255 = 1 := rfl
    rw [e1, Nat.mul_one] at h1
    rw [wa21_eq, if_pos (show (255 : Int32) ≤ nI 255 by decide), show n_ib 256 (255 : Int32) = true by decide, n_chk_t, show (255 : Int32).toNatClampNeg = 255 by decide, n_set_eq, hW 255 (by decide), h1]
  | succ d ih =>
    intro s f w W hs hf hW h1 h2
    obtain ⟨f, rfl⟩ : ∃ g, f = g + 1 := ⟨f - 1, by omega⟩
    have hc := f_pc s (by omega)
    have hb := e_bc (w := s) (by omega) (n_set M 99 W)
    have hws : w s < 2 ^ 31 := by
      have := f_F_ge (s := s) (k := s) (w := w) (V := f_V8) (by omega) (Nat.le_refl s)
      have h3 : w s * 1 ≤ w s * f_V8 s := Nat.mul_le_mul_left _ (Nat.pow_pos (by decide))
      have h4 : 8 ^ 8 < 2 ^ 31 := by decide
      omega
    have hT8 : f_T (fun p => !s.testBit p && bt (M 100 (pcN s)) p) (fun p => f_V8 (s ||| 2 ^ p)) 8 ≤ f_V8 s := by
      have e : f_V8 s = 8 * 8 ^ (7 - pcN s) := by
        unfold f_V8
        rw [show 8 - pcN s = (7 - pcN s) + 1 by omega, Nat.pow_succ, Nat.mul_comm]
      rw [e]
      refine f_T_le (fun p hp hbp => ?_) 8 (Nat.le_refl _)
      obtain ⟨-, -, t3⟩ := f_tb s (by omega) p hp
      rw [Bool.and_eq_true, Bool.not_eq_true'] at hbp
      rcases t3 with z | z
      · rw [hbp.1] at z; exact absurd z (by decide)
      · have z2 : pcN (s ||| 2 ^ p) = pcN s + 1 := z.2
        show 8 ^ (8 - pcN (s ||| 2 ^ p)) ≤ _
        rw [z2, show 8 - (pcN s + 1) = 7 - pcN s by omega]
        exact Nat.le_refl _
    have hTC : f_T (fun p => !s.testBit p && bt (M 100 (pcN s)) p) (fun p => f_V (fun t p => bt (M 100 t) p) (s ||| 2 ^ p)) 8 = f_V (fun t p => bt (M 100 t) p) s := by
      have e : f_V (fun t p => bt (M 100 t) p) s = f_T (fun p => !s.testBit p && bt (M 100 (7 - (7 - pcN s))) p) (fun p => f_C (fun t p => bt (M 100 t) p) (7 - pcN s) (s ||| 2 ^ p)) 8 := by
        unfold f_V
        rw [show 8 - pcN s = (7 - pcN s) + 1 by omega]
        rfl
      rw [e, show 7 - (7 - pcN s) = pcN s by omega]
      refine f_T_c (fun p _ => rfl) (fun p hp hbp => ?_) 8 (Nat.le_refl _)
      obtain ⟨-, -, t3⟩ := f_tb s (by omega) p hp
      rw [Bool.and_eq_true, Bool.not_eq_true'] at hbp
      rcases t3 with z | z
      · rw [hbp.1] at z; exact absurd z (by decide)
      · have z2 : pcN (s ||| 2 ^ p) = pcN s + 1 := z.2
        show f_C _ (8 - pcN (s ||| 2 ^ p)) _ = _
        rw [z2, show 8 - (pcN s + 1) = 7 - pcN s by omega]
    obtain ⟨w', W', r1, r2, r3⟩ := c_wa34 (N := N) (G := G) (k21 := fun x1 x2 M => fX9_waysAllowed_21 N G f x1 x2 M) (x1 := (255 : Int32)) (M := M) (show s < 256 by omega) hc 8 N w W (Nat.le_refl _) (by omega) hW hws
    obtain ⟨W2, q1⟩ := ih (s + 1) f w' W' (by omega) (by omega) r1 (by rw [r2, hTC, Nat.add_comm, ← f_F_s (by omega)]; exact h1) (by
      rw [f_F_s (by omega)] at h2
      have := Nat.mul_le_mul_left (w s) hT8
      rw [r2]
      omega)
    refine ⟨W2, ?_⟩
    rw [wa21_eq, if_neg (show ¬ (255 : Int32) ≤ nI s from nI_ge (b := 255) (by omega) (by decide)), hb, Option.bind_some]
    exact r3.trans q1
theorem c_wa {N : Nat} {G : nG} {M : nM} (hN : 1000 ≤ N) (hG : n_GOK G) : ∃ W : Nat → Int32, fX9_waysAllowed N G M = some (nI (f_C (fun t p => bt (M 100 t) p) 8 0), n_set M 99 W) := by
  have fillE := e_fill (N := N) (c := 99) (L := 256) (x := (0 : Int32)) (gk99 hG) (gl99 hG) (by decide) hN M
  obtain ⟨W', q1⟩ := c_wa21 (N := N) (G := G) (M := M) (K := f_C (fun t p => bt (M 100 t) p) 8 0) hN 255 0 N (fun S => if S = 0 then 1 else 0) (upd (fun t => if 0 ≤ t ∧ t < 256 then (0 : Int32) else M 99 t) 0 1) (by omega) (by omega) (fun S hS => by
    by_cases e : S = 0
    · subst e; rw [upd_eq]; rfl
    · rw [upd_ne e, if_neg e, if_pos ⟨Nat.zero_le _, hS⟩]; rfl) (by rw [f_F_0 rfl (fun i _ hi => if_neg hi)]; rfl) (by rw [f_F_0 rfl (fun i _ hi => if_neg hi)]; exact Nat.le_refl _)
  refine ⟨W', ?_⟩
  unfold fX9_waysAllowed
  rw [fillE, Option.bind_some, show n_ib 256 (0 : Int32) = true by decide, n_chk_t, show (0 : Int32).toNatClampNeg = 0 by decide]
  show fX9_waysAllowed_21 N G N (255 : Int32) (0 : Int32) (n_up (n_set M 99 (fun t => if 0 ≤ t ∧ t < 256 then (0 : Int32) else M 99 t)) 99 0 (1 : Int32)) = _
  rw [n_up_set]
  exact q1
