/-! ===== image: the model keeps its state in a row, or takes it back ===== -/
/-- what stands at a place of the row -/
def k_pl (p : Nat) : Nat × Nat :=
  if p < 100 then (108, p)
  else if p < 112 then (107, [6, 7, 37, 39, 41, 46, 49, 51, 55, 65, 70, 72].getD (p - 100) 0)
  else if p < 176 then ([112, 113, 133, 134].getD ((p - 112) % 4) 0, (p - 112) / 4)
  else if p < 236 then ([111, 114, 115, 129, 141].getD ((p - 176) % 5) 0, (p - 176) / 5)
  else if p < 240 then (135, p - 236)
  else if p < 256 then ([136, 137].getD ((p - 240) % 2) 0, (p - 240) / 2)
  else if p < 296 then ([139, 144, 145, 146].getD ((p - 256) % 4) 0, (p - 256) / 4)
  else if p < 332 then (143, p - 296)
  else if p < 338 then (148, p - 332)
  else if p < 343 then (149, p - 338)
  else if p < 407 then (127, p - 343)
  else if p < 471 then (128, p - 407)
  else if p < 1071 then (116, p - 471)
  else if p < 1072 then (119, 0)
  else if p < 1136 then ([120, 121, 122, 123].getD ((p - 1072) % 4) 0, (p - 1072) / 4)
  else ([124, 125].getD ((p - 1136) % 2) 0, (p - 1136) / 2)
def k_st (b : Bool) (p c k : Nat) (M : nM) : nM := match b with
  | true => n_up (n_up (n_up M 107 77 (nI (p + 1))) 151 p (M c k)) c k (M c k)
  | false => n_up (n_up M 107 77 (nI (p + 1))) c k (M 151 p)
def k_rn (b : Bool) : Nat → Nat → nM → nM
  | 0, _, M => M
  | n + 1, p, M => k_rn b n (p + 1) (k_st b p (k_pl p).1 (k_pl p).2 M)
theorem k_rn_s {b : Bool} {n p : Nat} {M : nM} : k_rn b (n + 1) p M = k_rn b n (p + 1) (k_st b p (k_pl p).1 (k_pl p).2 M) := rfl
theorem k_rn_a {b : Bool} : ∀ (n m p : Nat) (M : nM), k_rn b (n + m) p M = k_rn b m (p + n) (k_rn b n p M)
  | 0, m, p, M => by rw [Nat.zero_add]; rfl
  | n + 1, m, p, M => by
    rw [show n + 1 + m = (n + m) + 1 by omega, k_rn_s, k_rn_a n m (p + 1), show p + 1 + n = p + (n + 1) by omega]
    rfl
/-- where the row is, and whether it is filled -/
def k_I (b : Bool) (p : Nat) (M : nM) : Prop := M 107 77 = nI p ∧ M 107 75 = cb b
theorem k_I_s {b : Bool} {p c k : Nat} {M : nM} (h : k_I b p M) (hc : c ≠ 107 ∨ (k ≠ 75 ∧ k ≠ 77)) : k_I b (p + 1) (k_st b p c k M) := by
  have up : ∀ (K : nM) (v : Int32), K 107 77 = nI (p + 1) → K 107 75 = cb b → k_I b (p + 1) (n_up K c k v) := fun K v h1 h2 => by
    unfold k_I
    rcases hc with z | z
    · rw [n_up_ne (fun e => z e.symm)]; exact ⟨h1, h2⟩
    · by_cases e : c = 107
      · subst e
        rw [n_up_eq, upd_ne (fun e => z.2 e.symm), upd_ne (fun e => z.1 e.symm)]
        exact ⟨h1, h2⟩
      · rw [n_up_ne (fun z => e z.symm)]; exact ⟨h1, h2⟩
  cases b with
  | true =>
    refine up _ _ ?_ ?_
    · rw [n_up_ne (show (107 : Nat) ≠ 151 by decide), n_up_eq, upd_eq]
    · rw [n_up_ne (show (107 : Nat) ≠ 151 by decide), n_up_eq, upd_ne (by decide)]; exact h.2
  | false =>
    refine up _ _ ?_ ?_
    · rw [n_up_eq, upd_eq]
    · rw [n_up_eq, upd_ne (by decide)]; exact h.2
theorem kp_eq (x : Int32) (M : nM) : fX12_keeps x M = if ¬ (n_up M 107 77 ((M 107 77) + (1 : Int32)) 107 75) = 0 then n_chk (n_ib 2400 ((n_up M 107 77 ((M 107 77) + (1 : Int32)) 107 77) - (1 : Int32))) (some (x, n_up (n_up M 107 77 ((M 107 77) + (1 : Int32))) 151 ((n_up M 107 77 ((M 107 77) + (1 : Int32)) 107 77) - (1 : Int32)).toNatClampNeg x)) else n_chk (n_ib 2400 ((n_up M 107 77 ((M 107 77) + (1 : Int32)) 107 77) - (1 : Int32))) (some ((n_up M 107 77 ((M 107 77) + (1 : Int32)) 151 ((n_up M 107 77 ((M 107 77) + (1 : Int32)) 107 77) - (1 : Int32)).toNatClampNeg), n_up M 107 77 ((M 107 77) + (1 : Int32)))) := rfl
theorem k_step {α : Type} {b : Bool} {p c k : Nat} {M : nM} {K : nM → Option α} (h : k_I b p M) (hp : p < 2400) : ((fX12_keeps (M c k) M).bind fun q => K (n_up q.2 c k q.1)) = K (k_st b p c k M) := by
  rw [kp_eq, h.1, nI_1, n_up_eq, upd_eq, upd_ne (show (75 : Nat) ≠ 77 by decide), h.2, nI_pred, n_ib_nI hp (by decide), n_chk_t, n_chk_t, nI_clamp (show p < 2 ^ 31 by omega)]
  cases b with
  | true => rw [if_pos (show ¬ (cb true : Int32) = 0 by decide), Option.bind_some]; rfl
  | false =>
    rw [if_neg (show ¬ ¬ (cb false : Int32) = 0 by decide), Option.bind_some, n_up_ne (show (151 : Nat) ≠ 107 by decide)]
    rfl
def k_op {α : Type} (c : Nat) (x : Int32) (M : nM) (K : nM → Option α) : Option α := (fX12_keeps (M c x.toNatClampNeg) M).bind fun q => K (n_up q.2 c x.toNatClampNeg q.1)
theorem k_op_e {α : Type} {b : Bool} {p c k : Nat} {M : nM} {K : nM → Option α} (h : k_I b p M) (hp : p < 2400) (hk : k < 2 ^ 31) : k_op c (nI k) M K = K (k_st b p c k M) := by
  unfold k_op
  rw [nI_clamp hk]
  exact k_step h hp
set_option maxRecDepth 100000 in
theorem kq_keepsThings_2_0 : ∀ i, i < 16 → k_pl (112 + 4 * i + 0) = (112, i) := by decide +kernel
set_option maxRecDepth 100000 in
theorem kq_keepsThings_2_1 : ∀ i, i < 16 → k_pl (112 + 4 * i + 1) = (113, i) := by decide +kernel
set_option maxRecDepth 100000 in
theorem kq_keepsThings_2_2 : ∀ i, i < 16 → k_pl (112 + 4 * i + 2) = (133, i) := by decide +kernel
set_option maxRecDepth 100000 in
theorem kq_keepsThings_2_3 : ∀ i, i < 16 → k_pl (112 + 4 * i + 3) = (134, i) := by decide +kernel
set_option maxRecDepth 100000 in
theorem kq_keepsThings_80_0 : ∀ i, i < 12 → k_pl (176 + 5 * i + 0) = (111, i) := by decide +kernel
set_option maxRecDepth 100000 in
theorem kq_keepsThings_80_1 : ∀ i, i < 12 → k_pl (176 + 5 * i + 1) = (114, i) := by decide +kernel
set_option maxRecDepth 100000 in
theorem kq_keepsThings_80_2 : ∀ i, i < 12 → k_pl (176 + 5 * i + 2) = (115, i) := by decide +kernel
set_option maxRecDepth 100000 in
theorem kq_keepsThings_80_3 : ∀ i, i < 12 → k_pl (176 + 5 * i + 3) = (129, i) := by decide +kernel
set_option maxRecDepth 100000 in
theorem kq_keepsThings_80_4 : ∀ i, i < 12 → k_pl (176 + 5 * i + 4) = (141, i) := by decide +kernel
set_option maxRecDepth 100000 in
theorem kq_keepsTold_2_0 : ∀ i, i < 4 → k_pl (236 + 1 * i + 0) = (135, i) := by decide +kernel
set_option maxRecDepth 100000 in
theorem kq_keepsTold_31_0 : ∀ i, i < 8 → k_pl (240 + 2 * i + 0) = (136, i) := by decide +kernel
set_option maxRecDepth 100000 in
theorem kq_keepsTold_31_1 : ∀ i, i < 8 → k_pl (240 + 2 * i + 1) = (137, i) := by decide +kernel
set_option maxRecDepth 100000 in
theorem kq_keepsTold_77_0 : ∀ i, i < 10 → k_pl (256 + 4 * i + 0) = (139, i) := by decide +kernel
set_option maxRecDepth 100000 in
theorem kq_keepsTold_77_1 : ∀ i, i < 10 → k_pl (256 + 4 * i + 1) = (144, i) := by decide +kernel
set_option maxRecDepth 100000 in
theorem kq_keepsTold_77_2 : ∀ i, i < 10 → k_pl (256 + 4 * i + 2) = (145, i) := by decide +kernel
set_option maxRecDepth 100000 in
theorem kq_keepsTold_77_3 : ∀ i, i < 10 → k_pl (256 + 4 * i + 3) = (146, i) := by decide +kernel
set_option maxRecDepth 100000 in
theorem kq_keepsTold_155_0 : ∀ i, i < 36 → k_pl (296 + 1 * i + 0) = (143, i) := by decide +kernel
set_option maxRecDepth 100000 in
theorem kq_keepsTold_185_0 : ∀ i, i < 6 → k_pl (332 + 1 * i + 0) = (148, i) := by decide +kernel
set_option maxRecDepth 100000 in
theorem kq_keepsTold_215_0 : ∀ i, i < 5 → k_pl (338 + 1 * i + 0) = (149, i) := by decide +kernel
set_option maxRecDepth 100000 in
theorem kq_keepsTold_244_0 : ∀ i, i < 64 → k_pl (343 + 1 * i + 0) = (127, i) := by decide +kernel
set_option maxRecDepth 100000 in
theorem kq_keepsTold_274_0 : ∀ i, i < 64 → k_pl (407 + 1 * i + 0) = (128, i) := by decide +kernel
set_option maxRecDepth 100000 in
theorem kq_keepsLaw_18_0 : ∀ i, i < 16 → k_pl (1072 + 4 * i + 0) = (120, i) := by decide +kernel
set_option maxRecDepth 100000 in
theorem kq_keepsLaw_18_1 : ∀ i, i < 16 → k_pl (1072 + 4 * i + 1) = (121, i) := by decide +kernel
set_option maxRecDepth 100000 in
theorem kq_keepsLaw_18_2 : ∀ i, i < 16 → k_pl (1072 + 4 * i + 2) = (122, i) := by decide +kernel
set_option maxRecDepth 100000 in
theorem kq_keepsLaw_18_3 : ∀ i, i < 16 → k_pl (1072 + 4 * i + 3) = (123, i) := by decide +kernel
set_option maxRecDepth 100000 in
theorem kq_keepsLaw_96_0 : ∀ i, i < 400 → k_pl (1136 + 2 * i + 0) = (124, i) := by decide +kernel
set_option maxRecDepth 100000 in
theorem kq_keepsLaw_96_1 : ∀ i, i < 400 → k_pl (1136 + 2 * i + 1) = (125, i) := by decide +kernel
set_option maxRecDepth 100000 in
theorem kq_image_35_0 : ∀ i, i < 100 → k_pl (0 + 1 * i + 0) = (108, i) := by decide +kernel
set_option maxRecDepth 100000 in
theorem kq_image_77_0 : ∀ i, i < 600 → k_pl (471 + 1 * i + 0) = (116, i) := by decide +kernel
theorem kl_keepsThings_80_eq (N f : Nat) (x : Int32) (M : nM) : fX12_keepsThings_80 N (f + 1) x M = if (12 : Int32) ≤ x then (some ((), M)) else n_chk (n_ib 12 x) (k_op 111 x M (fun M1 => n_chk (n_ib 12 x) (n_chk (n_ib 12 x) (k_op 114 x M1 (fun M2 => n_chk (n_ib 12 x) (n_chk (n_ib 12 x) (k_op 115 x M2 (fun M3 => n_chk (n_ib 12 x) (n_chk (n_ib 24 x) (k_op 129 x M3 (fun M4 => n_chk (n_ib 24 x) (n_chk (n_ib 12 x) (k_op 141 x M4 (fun M5 => n_chk (n_ib 12 x) (fX12_keepsThings_80 N f (x + (1 : Int32)) M5))))))))))))))) := rfl
theorem kl_keepsThings_80 {N : Nat} {b : Bool} : ∀ (d i f : Nat) (M : nM), i + d = 12 → d < f → k_I b (176 + 5 * i) M → fX12_keepsThings_80 N f (nI i) M = (some ((), (k_rn b (5 * d) (176 + 5 * i) M))) := by
  intro d
  induction d with
  | zero =>
    intro i f M hi hf hI
    obtain ⟨f, rfl⟩ : ∃ g, f = g + 1 := ⟨f - 1, by omega⟩
    rw [kl_keepsThings_80_eq, if_pos (show (12 : Int32) ≤ nI i from nI_le (a := 12) (by omega) (by omega))]
    rfl
  | succ d ih =>
    intro i f M hi hf hI
    obtain ⟨f, rfl⟩ : ∃ g, f = g + 1 := ⟨f - 1, by omega⟩
    have hi12 : i < 12 := by omega
    have q0 := kq_keepsThings_80_0 i hi12
    have q1 := kq_keepsThings_80_1 i hi12
    have q2 := kq_keepsThings_80_2 i hi12
    have q3 := kq_keepsThings_80_3 i hi12
    have q4 := kq_keepsThings_80_4 i hi12
    obtain ⟨M1, hM1⟩ : ∃ K, K = k_st b (176 + 5 * i) 111 i M := ⟨_, rfl⟩
    have hI1 : k_I b (176 + 5 * i + 1) M1 := by rw [hM1]; exact k_I_s (p := 176 + 5 * i) hI (Or.inl (by decide))
    obtain ⟨M2, hM2⟩ : ∃ K, K = k_st b (176 + 5 * i + 1) 114 i M1 := ⟨_, rfl⟩
    have hI2 : k_I b (176 + 5 * i + 2) M2 := by rw [hM2]; exact k_I_s (p := 176 + 5 * i + 1) hI1 (Or.inl (by decide))
    obtain ⟨M3, hM3⟩ : ∃ K, K = k_st b (176 + 5 * i + 2) 115 i M2 := ⟨_, rfl⟩
    have hI3 : k_I b (176 + 5 * i + 3) M3 := by rw [hM3]; exact k_I_s (p := 176 + 5 * i + 2) hI2 (Or.inl (by decide))
    obtain ⟨M4, hM4⟩ : ∃ K, K = k_st b (176 + 5 * i + 3) 129 i M3 := ⟨_, rfl⟩
    have hI4 : k_I b (176 + 5 * i + 4) M4 := by rw [hM4]; exact k_I_s (p := 176 + 5 * i + 3) hI3 (Or.inl (by decide))
    obtain ⟨M5, hM5⟩ : ∃ K, K = k_st b (176 + 5 * i + 4) 141 i M4 := ⟨_, rfl⟩
    have hI5 : k_I b (176 + 5 * i + 5) M5 := by rw [hM5]; exact k_I_s (p := 176 + 5 * i + 4) hI4 (Or.inl (by decide))
    rw [kl_keepsThings_80_eq, if_neg (show ¬ (12 : Int32) ≤ nI i from nI_ge (b := 12) hi12 (by decide)), n_ib_nI (show i < 12 by omega) (by decide), n_ib_nI (show i < 24 by omega) (by decide), n_chk_t]
    rw [k_op_e (c := 111) (k := i) (M := M) hI (by omega) (by omega), ← hM1, n_chk_t, n_chk_t]
    rw [k_op_e (c := 114) (k := i) (M := M1) hI1 (by omega) (by omega), ← hM2, n_chk_t, n_chk_t]
    rw [k_op_e (c := 115) (k := i) (M := M2) hI2 (by omega) (by omega), ← hM3, n_chk_t, n_chk_t]
    rw [k_op_e (c := 129) (k := i) (M := M3) hI3 (by omega) (by omega), ← hM4, n_chk_t, n_chk_t]
    rw [k_op_e (c := 141) (k := i) (M := M4) hI4 (by omega) (by omega), ← hM5, n_chk_t]
    rw [nI_1, ih (i + 1) f M5 (by omega) (by omega) (by rw [show 176 + 5 * (i + 1) = 176 + 5 * i + 5 by omega]; exact hI5)]
    have hk : k_rn b (5 * d) (176 + 5 * (i + 1)) M5 = k_rn b (5 * (d + 1)) (176 + 5 * i) M := by
      rw [show 5 * (d + 1) = 5 * d + 5 by omega, show 176 + 5 * (i + 1) = 176 + 5 * i + 5 by omega]
      rw [k_rn_s, show 176 + 5 * i = 176 + 5 * i + 0 from rfl, q0]
      rw [k_rn_s, q1]
      rw [k_rn_s, q2]
      rw [k_rn_s, q3]
      rw [k_rn_s, q4]
      rw [hM5, hM4, hM3, hM2, hM1]
      rfl
    rw [hk]
theorem kl_keepsThings_2_eq (N f : Nat) (x : Int32) (M : nM) : fX12_keepsThings_2 N (f + 1) x M = if (16 : Int32) ≤ x then (fX12_keepsThings_80 N N (0 : Int32) M) else n_chk (n_ib 16 x) (k_op 112 x M (fun M1 => n_chk (n_ib 16 x) (n_chk (n_ib 16 x) (k_op 113 x M1 (fun M2 => n_chk (n_ib 16 x) (n_chk (n_ib 16 x) (k_op 133 x M2 (fun M3 => n_chk (n_ib 16 x) (n_chk (n_ib 16 x) (k_op 134 x M3 (fun M4 => n_chk (n_ib 16 x) (fX12_keepsThings_2 N f (x + (1 : Int32)) M4)))))))))))) := rfl
theorem kl_keepsThings_2 {N : Nat} {b : Bool} : ∀ (d i f : Nat) (M : nM), i + d = 16 → d < f → k_I b (112 + 4 * i) M → fX12_keepsThings_2 N f (nI i) M = (fX12_keepsThings_80 N N (0 : Int32) (k_rn b (4 * d) (112 + 4 * i) M)) := by
  intro d
  induction d with
  | zero =>
    intro i f M hi hf hI
    obtain ⟨f, rfl⟩ : ∃ g, f = g + 1 := ⟨f - 1, by omega⟩
    rw [kl_keepsThings_2_eq, if_pos (show (16 : Int32) ≤ nI i from nI_le (a := 16) (by omega) (by omega))]
    rfl
  | succ d ih =>
    intro i f M hi hf hI
    obtain ⟨f, rfl⟩ : ∃ g, f = g + 1 := ⟨f - 1, by omega⟩
    have hi16 : i < 16 := by omega
    have q0 := kq_keepsThings_2_0 i hi16
    have q1 := kq_keepsThings_2_1 i hi16
    have q2 := kq_keepsThings_2_2 i hi16
    have q3 := kq_keepsThings_2_3 i hi16
    obtain ⟨M1, hM1⟩ : ∃ K, K = k_st b (112 + 4 * i) 112 i M := ⟨_, rfl⟩
    have hI1 : k_I b (112 + 4 * i + 1) M1 := by rw [hM1]; exact k_I_s (p := 112 + 4 * i) hI (Or.inl (by decide))
    obtain ⟨M2, hM2⟩ : ∃ K, K = k_st b (112 + 4 * i + 1) 113 i M1 := ⟨_, rfl⟩
    have hI2 : k_I b (112 + 4 * i + 2) M2 := by rw [hM2]; exact k_I_s (p := 112 + 4 * i + 1) hI1 (Or.inl (by decide))
    obtain ⟨M3, hM3⟩ : ∃ K, K = k_st b (112 + 4 * i + 2) 133 i M2 := ⟨_, rfl⟩
    have hI3 : k_I b (112 + 4 * i + 3) M3 := by rw [hM3]; exact k_I_s (p := 112 + 4 * i + 2) hI2 (Or.inl (by decide))
    obtain ⟨M4, hM4⟩ : ∃ K, K = k_st b (112 + 4 * i + 3) 134 i M3 := ⟨_, rfl⟩
    have hI4 : k_I b (112 + 4 * i + 4) M4 := by rw [hM4]; exact k_I_s (p := 112 + 4 * i + 3) hI3 (Or.inl (by decide))
    rw [kl_keepsThings_2_eq, if_neg (show ¬ (16 : Int32) ≤ nI i from nI_ge (b := 16) hi16 (by decide)), n_ib_nI (show i < 16 by omega) (by decide), n_chk_t]
    rw [k_op_e (c := 112) (k := i) (M := M) hI (by omega) (by omega), ← hM1, n_chk_t, n_chk_t]
    rw [k_op_e (c := 113) (k := i) (M := M1) hI1 (by omega) (by omega), ← hM2, n_chk_t, n_chk_t]
    rw [k_op_e (c := 133) (k := i) (M := M2) hI2 (by omega) (by omega), ← hM3, n_chk_t, n_chk_t]
    rw [k_op_e (c := 134) (k := i) (M := M3) hI3 (by omega) (by omega), ← hM4, n_chk_t]
    rw [nI_1, ih (i + 1) f M4 (by omega) (by omega) (by rw [show 112 + 4 * (i + 1) = 112 + 4 * i + 4 by omega]; exact hI4)]
    have hk : k_rn b (4 * d) (112 + 4 * (i + 1)) M4 = k_rn b (4 * (d + 1)) (112 + 4 * i) M := by
      rw [show 4 * (d + 1) = 4 * d + 4 by omega, show 112 + 4 * (i + 1) = 112 + 4 * i + 4 by omega]
      rw [k_rn_s, show 112 + 4 * i = 112 + 4 * i + 0 from rfl, q0]
      rw [k_rn_s, q1]
      rw [k_rn_s, q2]
      rw [k_rn_s, q3]
      rw [hM4, hM3, hM2, hM1]
      rfl
    rw [hk]
theorem kl_keepsTold_274_eq (N f : Nat) (x : Int32) (M : nM) : fX12_keepsTold_274 N (f + 1) x M = if (64 : Int32) ≤ x then (some ((), M)) else n_chk (n_ib 128 x) (k_op 128 x M (fun M1 => n_chk (n_ib 128 x) (fX12_keepsTold_274 N f (x + (1 : Int32)) M1))) := rfl
theorem kl_keepsTold_274 {N : Nat} {b : Bool} : ∀ (d i f : Nat) (M : nM), i + d = 64 → d < f → k_I b (407 + 1 * i) M → fX12_keepsTold_274 N f (nI i) M = (some ((), (k_rn b (1 * d) (407 + 1 * i) M))) := by
  intro d
  induction d with
  | zero =>
    intro i f M hi hf hI
    obtain ⟨f, rfl⟩ : ∃ g, f = g + 1 := ⟨f - 1, by omega⟩
    rw [kl_keepsTold_274_eq, if_pos (show (64 : Int32) ≤ nI i from nI_le (a := 64) (by omega) (by omega))]
    rfl
  | succ d ih =>
    intro i f M hi hf hI
    obtain ⟨f, rfl⟩ : ∃ g, f = g + 1 := ⟨f - 1, by omega⟩
    have hi64 : i < 64 := by omega
    have q0 := kq_keepsTold_274_0 i hi64
    obtain ⟨M1, hM1⟩ : ∃ K, K = k_st b (407 + 1 * i) 128 i M := ⟨_, rfl⟩
    have hI1 : k_I b (407 + 1 * i + 1) M1 := by rw [hM1]; exact k_I_s (p := 407 + 1 * i) hI (Or.inl (by decide))
    rw [kl_keepsTold_274_eq, if_neg (show ¬ (64 : Int32) ≤ nI i from nI_ge (b := 64) hi64 (by decide)), n_ib_nI (show i < 128 by omega) (by decide), n_chk_t]
    rw [k_op_e (c := 128) (k := i) (M := M) hI (by omega) (by omega), ← hM1, n_chk_t]
    rw [nI_1, ih (i + 1) f M1 (by omega) (by omega) (by rw [show 407 + 1 * (i + 1) = 407 + 1 * i + 1 by omega]; exact hI1)]
    have hk : k_rn b (1 * d) (407 + 1 * (i + 1)) M1 = k_rn b (1 * (d + 1)) (407 + 1 * i) M := by
      rw [show 1 * (d + 1) = 1 * d + 1 by omega, show 407 + 1 * (i + 1) = 407 + 1 * i + 1 by omega]
      rw [k_rn_s, show 407 + 1 * i = 407 + 1 * i + 0 from rfl, q0]
      rw [hM1]
      rfl
    rw [hk]
theorem kl_keepsTold_244_eq (N f : Nat) (x : Int32) (M : nM) : fX12_keepsTold_244 N (f + 1) x M = if (64 : Int32) ≤ x then (fX12_keepsTold_274 N N (0 : Int32) M) else n_chk (n_ib 128 x) (k_op 127 x M (fun M1 => n_chk (n_ib 128 x) (fX12_keepsTold_244 N f (x + (1 : Int32)) M1))) := rfl
theorem kl_keepsTold_244 {N : Nat} {b : Bool} : ∀ (d i f : Nat) (M : nM), i + d = 64 → d < f → k_I b (343 + 1 * i) M → fX12_keepsTold_244 N f (nI i) M = (fX12_keepsTold_274 N N (0 : Int32) (k_rn b (1 * d) (343 + 1 * i) M)) := by
  intro d
  induction d with
  | zero =>
    intro i f M hi hf hI
    obtain ⟨f, rfl⟩ : ∃ g, f = g + 1 := ⟨f - 1, by omega⟩
    rw [kl_keepsTold_244_eq, if_pos (show (64 : Int32) ≤ nI i from nI_le (a := 64) (by omega) (by omega))]
    rfl
  | succ d ih =>
    intro i f M hi hf hI
    obtain ⟨f, rfl⟩ : ∃ g, f = g + 1 := ⟨f - 1, by omega⟩
    have hi64 : i < 64 := by omega
    have q0 := kq_keepsTold_244_0 i hi64
    obtain ⟨M1, hM1⟩ : ∃ K, K = k_st b (343 + 1 * i) 127 i M := ⟨_, rfl⟩
    have hI1 : k_I b (343 + 1 * i + 1) M1 := by rw [hM1]; exact k_I_s (p := 343 + 1 * i) hI (Or.inl (by decide))
    rw [kl_keepsTold_244_eq, if_neg (show ¬ (64 : Int32) ≤ nI i from nI_ge (b := 64) hi64 (by decide)), n_ib_nI (show i < 128 by omega) (by decide), n_chk_t]
    rw [k_op_e (c := 127) (k := i) (M := M) hI (by omega) (by omega), ← hM1, n_chk_t]
    rw [nI_1, ih (i + 1) f M1 (by omega) (by omega) (by rw [show 343 + 1 * (i + 1) = 343 + 1 * i + 1 by omega]; exact hI1)]
    have hk : k_rn b (1 * d) (343 + 1 * (i + 1)) M1 = k_rn b (1 * (d + 1)) (343 + 1 * i) M := by
      rw [show 1 * (d + 1) = 1 * d + 1 by omega, show 343 + 1 * (i + 1) = 343 + 1 * i + 1 by omega]
      rw [k_rn_s, show 343 + 1 * i = 343 + 1 * i + 0 from rfl, q0]
      rw [hM1]
      rfl
    rw [hk]
theorem kl_keepsTold_215_eq (N f : Nat) (x : Int32) (M : nM) : fX12_keepsTold_215 N (f + 1) x M = if (5 : Int32) ≤ x then (fX12_keepsTold_244 N N (0 : Int32) M) else n_chk (n_ib 5 x) (k_op 149 x M (fun M1 => n_chk (n_ib 5 x) (fX12_keepsTold_215 N f (x + (1 : Int32)) M1))) := rfl
theorem kl_keepsTold_215 {N : Nat} {b : Bool} : ∀ (d i f : Nat) (M : nM), i + d = 5 → d < f → k_I b (338 + 1 * i) M → fX12_keepsTold_215 N f (nI i) M = (fX12_keepsTold_244 N N (0 : Int32) (k_rn b (1 * d) (338 + 1 * i) M)) := by
  intro d
  induction d with
  | zero =>
    intro i f M hi hf hI
    obtain ⟨f, rfl⟩ : ∃ g, f = g + 1 := ⟨f - 1, by omega⟩
    rw [kl_keepsTold_215_eq, if_pos (show (5 : Int32) ≤ nI i from nI_le (a := 5) (by omega) (by omega))]
    rfl
  | succ d ih =>
    intro i f M hi hf hI
    obtain ⟨f, rfl⟩ : ∃ g, f = g + 1 := ⟨f - 1, by omega⟩
    have hi5 : i < 5 := by omega
    have q0 := kq_keepsTold_215_0 i hi5
    obtain ⟨M1, hM1⟩ : ∃ K, K = k_st b (338 + 1 * i) 149 i M := ⟨_, rfl⟩
    have hI1 : k_I b (338 + 1 * i + 1) M1 := by rw [hM1]; exact k_I_s (p := 338 + 1 * i) hI (Or.inl (by decide))
    rw [kl_keepsTold_215_eq, if_neg (show ¬ (5 : Int32) ≤ nI i from nI_ge (b := 5) hi5 (by decide)), n_ib_nI (show i < 5 by omega) (by decide), n_chk_t]
    rw [k_op_e (c := 149) (k := i) (M := M) hI (by omega) (by omega), ← hM1, n_chk_t]
    rw [nI_1, ih (i + 1) f M1 (by omega) (by omega) (by rw [show 338 + 1 * (i + 1) = 338 + 1 * i + 1 by omega]; exact hI1)]
    have hk : k_rn b (1 * d) (338 + 1 * (i + 1)) M1 = k_rn b (1 * (d + 1)) (338 + 1 * i) M := by
      rw [show 1 * (d + 1) = 1 * d + 1 by omega, show 338 + 1 * (i + 1) = 338 + 1 * i + 1 by omega]
      rw [k_rn_s, show 338 + 1 * i = 338 + 1 * i + 0 from rfl, q0]
      rw [hM1]
      rfl
    rw [hk]
theorem kl_keepsTold_185_eq (N f : Nat) (x : Int32) (M : nM) : fX12_keepsTold_185 N (f + 1) x M = if (6 : Int32) ≤ x then (fX12_keepsTold_215 N N (0 : Int32) M) else n_chk (n_ib 6 x) (k_op 148 x M (fun M1 => n_chk (n_ib 6 x) (fX12_keepsTold_185 N f (x + (1 : Int32)) M1))) := rfl
theorem kl_keepsTold_185 {N : Nat} {b : Bool} : ∀ (d i f : Nat) (M : nM), i + d = 6 → d < f → k_I b (332 + 1 * i) M → fX12_keepsTold_185 N f (nI i) M = (fX12_keepsTold_215 N N (0 : Int32) (k_rn b (1 * d) (332 + 1 * i) M)) := by
  intro d
  induction d with
  | zero =>
    intro i f M hi hf hI
    obtain ⟨f, rfl⟩ : ∃ g, f = g + 1 := ⟨f - 1, by omega⟩
    rw [kl_keepsTold_185_eq, if_pos (show (6 : Int32) ≤ nI i from nI_le (a := 6) (by omega) (by omega))]
    rfl
  | succ d ih =>
    intro i f M hi hf hI
    obtain ⟨f, rfl⟩ : ∃ g, f = g + 1 := ⟨f - 1, by omega⟩
    have hi6 : i < 6 := by omega
    have q0 := kq_keepsTold_185_0 i hi6
    obtain ⟨M1, hM1⟩ : ∃ K, K = k_st b (332 + 1 * i) 148 i M := ⟨_, rfl⟩
    have hI1 : k_I b (332 + 1 * i + 1) M1 := by rw [hM1]; exact k_I_s (p := 332 + 1 * i) hI (Or.inl (by decide))
    rw [kl_keepsTold_185_eq, if_neg (show ¬ (6 : Int32) ≤ nI i from nI_ge (b := 6) hi6 (by decide)), n_ib_nI (show i < 6 by omega) (by decide), n_chk_t]
    rw [k_op_e (c := 148) (k := i) (M := M) hI (by omega) (by omega), ← hM1, n_chk_t]
    rw [nI_1, ih (i + 1) f M1 (by omega) (by omega) (by rw [show 332 + 1 * (i + 1) = 332 + 1 * i + 1 by omega]; exact hI1)]
    have hk : k_rn b (1 * d) (332 + 1 * (i + 1)) M1 = k_rn b (1 * (d + 1)) (332 + 1 * i) M := by
      rw [show 1 * (d + 1) = 1 * d + 1 by omega, show 332 + 1 * (i + 1) = 332 + 1 * i + 1 by omega]
      rw [k_rn_s, show 332 + 1 * i = 332 + 1 * i + 0 from rfl, q0]
      rw [hM1]
      rfl
    rw [hk]
theorem kl_keepsTold_155_eq (N f : Nat) (x : Int32) (M : nM) : fX12_keepsTold_155 N (f + 1) x M = if (36 : Int32) ≤ x then (fX12_keepsTold_185 N N (0 : Int32) M) else n_chk (n_ib 36 x) (k_op 143 x M (fun M1 => n_chk (n_ib 36 x) (fX12_keepsTold_155 N f (x + (1 : Int32)) M1))) := rfl
theorem kl_keepsTold_155 {N : Nat} {b : Bool} : ∀ (d i f : Nat) (M : nM), i + d = 36 → d < f → k_I b (296 + 1 * i) M → fX12_keepsTold_155 N f (nI i) M = (fX12_keepsTold_185 N N (0 : Int32) (k_rn b (1 * d) (296 + 1 * i) M)) := by
  intro d
  induction d with
  | zero =>
    intro i f M hi hf hI
    obtain ⟨f, rfl⟩ : ∃ g, f = g + 1 := ⟨f - 1, by omega⟩
    rw [kl_keepsTold_155_eq, if_pos (show (36 : Int32) ≤ nI i from nI_le (a := 36) (by omega) (by omega))]
    rfl
  | succ d ih =>
    intro i f M hi hf hI
    obtain ⟨f, rfl⟩ : ∃ g, f = g + 1 := ⟨f - 1, by omega⟩
    have hi36 : i < 36 := by omega
    have q0 := kq_keepsTold_155_0 i hi36
    obtain ⟨M1, hM1⟩ : ∃ K, K = k_st b (296 + 1 * i) 143 i M := ⟨_, rfl⟩
    have hI1 : k_I b (296 + 1 * i + 1) M1 := by rw [hM1]; exact k_I_s (p := 296 + 1 * i) hI (Or.inl (by decide))
    rw [kl_keepsTold_155_eq, if_neg (show ¬ (36 : Int32) ≤ nI i from nI_ge (b := 36) hi36 (by decide)), n_ib_nI (show i < 36 by omega) (by decide), n_chk_t]
    rw [k_op_e (c := 143) (k := i) (M := M) hI (by omega) (by omega), ← hM1, n_chk_t]
    rw [nI_1, ih (i + 1) f M1 (by omega) (by omega) (by rw [show 296 + 1 * (i + 1) = 296 + 1 * i + 1 by omega]; exact hI1)]
    have hk : k_rn b (1 * d) (296 + 1 * (i + 1)) M1 = k_rn b (1 * (d + 1)) (296 + 1 * i) M := by
      rw [show 1 * (d + 1) = 1 * d + 1 by omega, show 296 + 1 * (i + 1) = 296 + 1 * i + 1 by omega]
      rw [k_rn_s, show 296 + 1 * i = 296 + 1 * i + 0 from rfl, q0]
      rw [hM1]
      rfl
    rw [hk]
theorem kl_keepsTold_77_eq (N f : Nat) (x : Int32) (M : nM) : fX12_keepsTold_77 N (f + 1) x M = if (10 : Int32) ≤ x then (fX12_keepsTold_155 N N (0 : Int32) M) else n_chk (n_ib 10 x) (k_op 139 x M (fun M1 => n_chk (n_ib 10 x) (n_chk (n_ib 10 x) (k_op 144 x M1 (fun M2 => n_chk (n_ib 10 x) (n_chk (n_ib 10 x) (k_op 145 x M2 (fun M3 => n_chk (n_ib 10 x) (n_chk (n_ib 10 x) (k_op 146 x M3 (fun M4 => n_chk (n_ib 10 x) (fX12_keepsTold_77 N f (x + (1 : Int32)) M4)))))))))))) := rfl
theorem kl_keepsTold_77 {N : Nat} {b : Bool} : ∀ (d i f : Nat) (M : nM), i + d = 10 → d < f → k_I b (256 + 4 * i) M → fX12_keepsTold_77 N f (nI i) M = (fX12_keepsTold_155 N N (0 : Int32) (k_rn b (4 * d) (256 + 4 * i) M)) := by
  intro d
  induction d with
  | zero =>
    intro i f M hi hf hI
    obtain ⟨f, rfl⟩ : ∃ g, f = g + 1 := ⟨f - 1, by omega⟩
    rw [kl_keepsTold_77_eq, if_pos (show (10 : Int32) ≤ nI i from nI_le (a := 10) (by omega) (by omega))]
    rfl
  | succ d ih =>
    intro i f M hi hf hI
    obtain ⟨f, rfl⟩ : ∃ g, f = g + 1 := ⟨f - 1, by omega⟩
    have hi10 : i < 10 := by omega
    have q0 := kq_keepsTold_77_0 i hi10
    have q1 := kq_keepsTold_77_1 i hi10
    have q2 := kq_keepsTold_77_2 i hi10
    have q3 := kq_keepsTold_77_3 i hi10
    obtain ⟨M1, hM1⟩ : ∃ K, K = k_st b (256 + 4 * i) 139 i M := ⟨_, rfl⟩
    have hI1 : k_I b (256 + 4 * i + 1) M1 := by rw [hM1]; exact k_I_s (p := 256 + 4 * i) hI (Or.inl (by decide))
    obtain ⟨M2, hM2⟩ : ∃ K, K = k_st b (256 + 4 * i + 1) 144 i M1 := ⟨_, rfl⟩
    have hI2 : k_I b (256 + 4 * i + 2) M2 := by rw [hM2]; exact k_I_s (p := 256 + 4 * i + 1) hI1 (Or.inl (by decide))
    obtain ⟨M3, hM3⟩ : ∃ K, K = k_st b (256 + 4 * i + 2) 145 i M2 := ⟨_, rfl⟩
    have hI3 : k_I b (256 + 4 * i + 3) M3 := by rw [hM3]; exact k_I_s (p := 256 + 4 * i + 2) hI2 (Or.inl (by decide))
    obtain ⟨M4, hM4⟩ : ∃ K, K = k_st b (256 + 4 * i + 3) 146 i M3 := ⟨_, rfl⟩
    have hI4 : k_I b (256 + 4 * i + 4) M4 := by rw [hM4]; exact k_I_s (p := 256 + 4 * i + 3) hI3 (Or.inl (by decide))
    rw [kl_keepsTold_77_eq, if_neg (show ¬ (10 : Int32) ≤ nI i from nI_ge (b := 10) hi10 (by decide)), n_ib_nI (show i < 10 by omega) (by decide), n_chk_t]
    rw [k_op_e (c := 139) (k := i) (M := M) hI (by omega) (by omega), ← hM1, n_chk_t, n_chk_t]
    rw [k_op_e (c := 144) (k := i) (M := M1) hI1 (by omega) (by omega), ← hM2, n_chk_t, n_chk_t]
    rw [k_op_e (c := 145) (k := i) (M := M2) hI2 (by omega) (by omega), ← hM3, n_chk_t, n_chk_t]
    rw [k_op_e (c := 146) (k := i) (M := M3) hI3 (by omega) (by omega), ← hM4, n_chk_t]
    rw [nI_1, ih (i + 1) f M4 (by omega) (by omega) (by rw [show 256 + 4 * (i + 1) = 256 + 4 * i + 4 by omega]; exact hI4)]
    have hk : k_rn b (4 * d) (256 + 4 * (i + 1)) M4 = k_rn b (4 * (d + 1)) (256 + 4 * i) M := by
      rw [show 4 * (d + 1) = 4 * d + 4 by omega, show 256 + 4 * (i + 1) = 256 + 4 * i + 4 by omega]
      rw [k_rn_s, show 256 + 4 * i = 256 + 4 * i + 0 from rfl, q0]
      rw [k_rn_s, q1]
      rw [k_rn_s, q2]
      rw [k_rn_s, q3]
      rw [hM4, hM3, hM2, hM1]
      rfl
    rw [hk]
theorem kl_keepsTold_31_eq (N f : Nat) (x : Int32) (M : nM) : fX12_keepsTold_31 N (f + 1) x M = if (8 : Int32) ≤ x then (fX12_keepsTold_77 N N (0 : Int32) M) else n_chk (n_ib 8 x) (k_op 136 x M (fun M1 => n_chk (n_ib 8 x) (n_chk (n_ib 8 x) (k_op 137 x M1 (fun M2 => n_chk (n_ib 8 x) (fX12_keepsTold_31 N f (x + (1 : Int32)) M2)))))) := rfl
theorem kl_keepsTold_31 {N : Nat} {b : Bool} : ∀ (d i f : Nat) (M : nM), i + d = 8 → d < f → k_I b (240 + 2 * i) M → fX12_keepsTold_31 N f (nI i) M = (fX12_keepsTold_77 N N (0 : Int32) (k_rn b (2 * d) (240 + 2 * i) M)) := by
  intro d
  induction d with
  | zero =>
    intro i f M hi hf hI
    obtain ⟨f, rfl⟩ : ∃ g, f = g + 1 := ⟨f - 1, by omega⟩
    rw [kl_keepsTold_31_eq, if_pos (show (8 : Int32) ≤ nI i from nI_le (a := 8) (by omega) (by omega))]
    rfl
  | succ d ih =>
    intro i f M hi hf hI
    obtain ⟨f, rfl⟩ : ∃ g, f = g + 1 := ⟨f - 1, by omega⟩
    have hi8 : i < 8 := by omega
    have q0 := kq_keepsTold_31_0 i hi8
    have q1 := kq_keepsTold_31_1 i hi8
    obtain ⟨M1, hM1⟩ : ∃ K, K = k_st b (240 + 2 * i) 136 i M := ⟨_, rfl⟩
    have hI1 : k_I b (240 + 2 * i + 1) M1 := by rw [hM1]; exact k_I_s (p := 240 + 2 * i) hI (Or.inl (by decide))
    obtain ⟨M2, hM2⟩ : ∃ K, K = k_st b (240 + 2 * i + 1) 137 i M1 := ⟨_, rfl⟩
    have hI2 : k_I b (240 + 2 * i + 2) M2 := by rw [hM2]; exact k_I_s (p := 240 + 2 * i + 1) hI1 (Or.inl (by decide))
    rw [kl_keepsTold_31_eq, if_neg (show ¬ (8 : Int32) ≤ nI i from nI_ge (b := 8) hi8 (by decide)), n_ib_nI (show i < 8 by omega) (by decide), n_chk_t]
    rw [k_op_e (c := 136) (k := i) (M := M) hI (by omega) (by omega), ← hM1, n_chk_t, n_chk_t]
    rw [k_op_e (c := 137) (k := i) (M := M1) hI1 (by omega) (by omega), ← hM2, n_chk_t]
    rw [nI_1, ih (i + 1) f M2 (by omega) (by omega) (by rw [show 240 + 2 * (i + 1) = 240 + 2 * i + 2 by omega]; exact hI2)]
    have hk : k_rn b (2 * d) (240 + 2 * (i + 1)) M2 = k_rn b (2 * (d + 1)) (240 + 2 * i) M := by
      rw [show 2 * (d + 1) = 2 * d + 2 by omega, show 240 + 2 * (i + 1) = 240 + 2 * i + 2 by omega]
      rw [k_rn_s, show 240 + 2 * i = 240 + 2 * i + 0 from rfl, q0]
      rw [k_rn_s, q1]
      rw [hM2, hM1]
      rfl
    rw [hk]
theorem kl_keepsTold_2_eq (N f : Nat) (x : Int32) (M : nM) : fX12_keepsTold_2 N (f + 1) x M = if (4 : Int32) ≤ x then (fX12_keepsTold_31 N N (0 : Int32) M) else n_chk (n_ib 4 x) (k_op 135 x M (fun M1 => n_chk (n_ib 4 x) (fX12_keepsTold_2 N f (x + (1 : Int32)) M1))) := rfl
theorem kl_keepsTold_2 {N : Nat} {b : Bool} : ∀ (d i f : Nat) (M : nM), i + d = 4 → d < f → k_I b (236 + 1 * i) M → fX12_keepsTold_2 N f (nI i) M = (fX12_keepsTold_31 N N (0 : Int32) (k_rn b (1 * d) (236 + 1 * i) M)) := by
  intro d
  induction d with
  | zero =>
    intro i f M hi hf hI
    obtain ⟨f, rfl⟩ : ∃ g, f = g + 1 := ⟨f - 1, by omega⟩
    rw [kl_keepsTold_2_eq, if_pos (show (4 : Int32) ≤ nI i from nI_le (a := 4) (by omega) (by omega))]
    rfl
  | succ d ih =>
    intro i f M hi hf hI
    obtain ⟨f, rfl⟩ : ∃ g, f = g + 1 := ⟨f - 1, by omega⟩
    have hi4 : i < 4 := by omega
    have q0 := kq_keepsTold_2_0 i hi4
    obtain ⟨M1, hM1⟩ : ∃ K, K = k_st b (236 + 1 * i) 135 i M := ⟨_, rfl⟩
    have hI1 : k_I b (236 + 1 * i + 1) M1 := by rw [hM1]; exact k_I_s (p := 236 + 1 * i) hI (Or.inl (by decide))
    rw [kl_keepsTold_2_eq, if_neg (show ¬ (4 : Int32) ≤ nI i from nI_ge (b := 4) hi4 (by decide)), n_ib_nI (show i < 4 by omega) (by decide), n_chk_t]
    rw [k_op_e (c := 135) (k := i) (M := M) hI (by omega) (by omega), ← hM1, n_chk_t]
    rw [nI_1, ih (i + 1) f M1 (by omega) (by omega) (by rw [show 236 + 1 * (i + 1) = 236 + 1 * i + 1 by omega]; exact hI1)]
    have hk : k_rn b (1 * d) (236 + 1 * (i + 1)) M1 = k_rn b (1 * (d + 1)) (236 + 1 * i) M := by
      rw [show 1 * (d + 1) = 1 * d + 1 by omega, show 236 + 1 * (i + 1) = 236 + 1 * i + 1 by omega]
      rw [k_rn_s, show 236 + 1 * i = 236 + 1 * i + 0 from rfl, q0]
      rw [hM1]
      rfl
    rw [hk]
theorem kl_keepsLaw_96_eq (N f : Nat) (x : Int32) (M : nM) : fX12_keepsLaw_96 N (f + 1) x M = if (400 : Int32) ≤ x then (some ((), M)) else n_chk (n_ib 1200 x) (k_op 124 x M (fun M1 => n_chk (n_ib 1200 x) (n_chk (n_ib 1200 x) (k_op 125 x M1 (fun M2 => n_chk (n_ib 1200 x) (fX12_keepsLaw_96 N f (x + (1 : Int32)) M2)))))) := rfl
theorem kl_keepsLaw_96 {N : Nat} {b : Bool} : ∀ (d i f : Nat) (M : nM), i + d = 400 → d < f → k_I b (1136 + 2 * i) M → fX12_keepsLaw_96 N f (nI i) M = (some ((), (k_rn b (2 * d) (1136 + 2 * i) M))) := by
  intro d
  induction d with
  | zero =>
    intro i f M hi hf hI
    obtain ⟨f, rfl⟩ : ∃ g, f = g + 1 := ⟨f - 1, by omega⟩
    rw [kl_keepsLaw_96_eq, if_pos (show (400 : Int32) ≤ nI i from nI_le (a := 400) (by omega) (by omega))]
    rfl
  | succ d ih =>
    intro i f M hi hf hI
    obtain ⟨f, rfl⟩ : ∃ g, f = g + 1 := ⟨f - 1, by omega⟩
    have hi400 : i < 400 := by omega
    have q0 := kq_keepsLaw_96_0 i hi400
    have q1 := kq_keepsLaw_96_1 i hi400
    obtain ⟨M1, hM1⟩ : ∃ K, K = k_st b (1136 + 2 * i) 124 i M := ⟨_, rfl⟩
    have hI1 : k_I b (1136 + 2 * i + 1) M1 := by rw [hM1]; exact k_I_s (p := 1136 + 2 * i) hI (Or.inl (by decide))
    obtain ⟨M2, hM2⟩ : ∃ K, K = k_st b (1136 + 2 * i + 1) 125 i M1 := ⟨_, rfl⟩
    have hI2 : k_I b (1136 + 2 * i + 2) M2 := by rw [hM2]; exact k_I_s (p := 1136 + 2 * i + 1) hI1 (Or.inl (by decide))
    rw [kl_keepsLaw_96_eq, if_neg (show ¬ (400 : Int32) ≤ nI i from nI_ge (b := 400) hi400 (by decide)), n_ib_nI (show i < 1200 by omega) (by decide), n_chk_t]
    rw [k_op_e (c := 124) (k := i) (M := M) hI (by omega) (by omega), ← hM1, n_chk_t, n_chk_t]
    rw [k_op_e (c := 125) (k := i) (M := M1) hI1 (by omega) (by omega), ← hM2, n_chk_t]
    rw [nI_1, ih (i + 1) f M2 (by omega) (by omega) (by rw [show 1136 + 2 * (i + 1) = 1136 + 2 * i + 2 by omega]; exact hI2)]
    have hk : k_rn b (2 * d) (1136 + 2 * (i + 1)) M2 = k_rn b (2 * (d + 1)) (1136 + 2 * i) M := by
      rw [show 2 * (d + 1) = 2 * d + 2 by omega, show 1136 + 2 * (i + 1) = 1136 + 2 * i + 2 by omega]
      rw [k_rn_s, show 1136 + 2 * i = 1136 + 2 * i + 0 from rfl, q0]
      rw [k_rn_s, q1]
      rw [hM2, hM1]
      rfl
    rw [hk]
theorem kl_keepsLaw_18_eq (N f : Nat) (x : Int32) (M : nM) : fX12_keepsLaw_18 N (f + 1) x M = if (16 : Int32) ≤ x then (fX12_keepsLaw_96 N N (0 : Int32) M) else n_chk (n_ib 48 x) (k_op 120 x M (fun M1 => n_chk (n_ib 48 x) (n_chk (n_ib 48 x) (k_op 121 x M1 (fun M2 => n_chk (n_ib 48 x) (n_chk (n_ib 48 x) (k_op 122 x M2 (fun M3 => n_chk (n_ib 48 x) (n_chk (n_ib 48 x) (k_op 123 x M3 (fun M4 => n_chk (n_ib 48 x) (fX12_keepsLaw_18 N f (x + (1 : Int32)) M4)))))))))))) := rfl
theorem kl_keepsLaw_18 {N : Nat} {b : Bool} : ∀ (d i f : Nat) (M : nM), i + d = 16 → d < f → k_I b (1072 + 4 * i) M → fX12_keepsLaw_18 N f (nI i) M = (fX12_keepsLaw_96 N N (0 : Int32) (k_rn b (4 * d) (1072 + 4 * i) M)) := by
  intro d
  induction d with
  | zero =>
    intro i f M hi hf hI
    obtain ⟨f, rfl⟩ : ∃ g, f = g + 1 := ⟨f - 1, by omega⟩
    rw [kl_keepsLaw_18_eq, if_pos (show (16 : Int32) ≤ nI i from nI_le (a := 16) (by omega) (by omega))]
    rfl
  | succ d ih =>
    intro i f M hi hf hI
    obtain ⟨f, rfl⟩ : ∃ g, f = g + 1 := ⟨f - 1, by omega⟩
    have hi16 : i < 16 := by omega
    have q0 := kq_keepsLaw_18_0 i hi16
    have q1 := kq_keepsLaw_18_1 i hi16
    have q2 := kq_keepsLaw_18_2 i hi16
    have q3 := kq_keepsLaw_18_3 i hi16
    obtain ⟨M1, hM1⟩ : ∃ K, K = k_st b (1072 + 4 * i) 120 i M := ⟨_, rfl⟩
    have hI1 : k_I b (1072 + 4 * i + 1) M1 := by rw [hM1]; exact k_I_s (p := 1072 + 4 * i) hI (Or.inl (by decide))
    obtain ⟨M2, hM2⟩ : ∃ K, K = k_st b (1072 + 4 * i + 1) 121 i M1 := ⟨_, rfl⟩
    have hI2 : k_I b (1072 + 4 * i + 2) M2 := by rw [hM2]; exact k_I_s (p := 1072 + 4 * i + 1) hI1 (Or.inl (by decide))
    obtain ⟨M3, hM3⟩ : ∃ K, K = k_st b (1072 + 4 * i + 2) 122 i M2 := ⟨_, rfl⟩
    have hI3 : k_I b (1072 + 4 * i + 3) M3 := by rw [hM3]; exact k_I_s (p := 1072 + 4 * i + 2) hI2 (Or.inl (by decide))
    obtain ⟨M4, hM4⟩ : ∃ K, K = k_st b (1072 + 4 * i + 3) 123 i M3 := ⟨_, rfl⟩
    have hI4 : k_I b (1072 + 4 * i + 4) M4 := by rw [hM4]; exact k_I_s (p := 1072 + 4 * i + 3) hI3 (Or.inl (by decide))
    rw [kl_keepsLaw_18_eq, if_neg (show ¬ (16 : Int32) ≤ nI i from nI_ge (b := 16) hi16 (by decide)), n_ib_nI (show i < 48 by omega) (by decide), n_chk_t]
    rw [k_op_e (c := 120) (k := i) (M := M) hI (by omega) (by omega), ← hM1, n_chk_t, n_chk_t]
    rw [k_op_e (c := 121) (k := i) (M := M1) hI1 (by omega) (by omega), ← hM2, n_chk_t, n_chk_t]
    rw [k_op_e (c := 122) (k := i) (M := M2) hI2 (by omega) (by omega), ← hM3, n_chk_t, n_chk_t]
    rw [k_op_e (c := 123) (k := i) (M := M3) hI3 (by omega) (by omega), ← hM4, n_chk_t]
    rw [nI_1, ih (i + 1) f M4 (by omega) (by omega) (by rw [show 1072 + 4 * (i + 1) = 1072 + 4 * i + 4 by omega]; exact hI4)]
    have hk : k_rn b (4 * d) (1072 + 4 * (i + 1)) M4 = k_rn b (4 * (d + 1)) (1072 + 4 * i) M := by
      rw [show 4 * (d + 1) = 4 * d + 4 by omega, show 1072 + 4 * (i + 1) = 1072 + 4 * i + 4 by omega]
      rw [k_rn_s, show 1072 + 4 * i = 1072 + 4 * i + 0 from rfl, q0]
      rw [k_rn_s, q1]
      rw [k_rn_s, q2]
      rw [k_rn_s, q3]
      rw [hM4, hM3, hM2, hM1]
      rfl
    rw [hk]
theorem kl_image_77_eq (N f : Nat) (x1 x : Int32) (M : nM) : fX12_image_77 N (f + 1) x1 x M = if (600 : Int32) ≤ x then ((fX12_keepsLaw N M).bind fun p1 => if ¬ x1 = 0 then some ((1 : Int32), p1.2) else some ((1 : Int32), n_up p1.2 107 3 (0 : Int32))) else n_chk (n_ib 600 x) (k_op 116 x M (fun M1 => n_chk (n_ib 600 x) (fX12_image_77 N f x1 (x + (1 : Int32)) M1))) := rfl
theorem kl_image_77 {N : Nat} {b : Bool} {x1 : Int32} : ∀ (d i f : Nat) (M : nM), i + d = 600 → d < f → k_I b (471 + 1 * i) M → fX12_image_77 N f x1 (nI i) M = ((fX12_keepsLaw N (k_rn b (1 * d) (471 + 1 * i) M)).bind fun p1 => if ¬ x1 = 0 then some ((1 : Int32), p1.2) else some ((1 : Int32), n_up p1.2 107 3 (0 : Int32))) := by
  intro d
  induction d with
  | zero =>
    intro i f M hi hf hI
    obtain ⟨f, rfl⟩ : ∃ g, f = g + 1 := ⟨f - 1, by omega⟩
    rw [kl_image_77_eq, if_pos (show (600 : Int32) ≤ nI i from nI_le (a := 600) (by omega) (by omega))]
    rfl
  | succ d ih =>
    intro i f M hi hf hI
    obtain ⟨f, rfl⟩ : ∃ g, f = g + 1 := ⟨f - 1, by omega⟩
    have hi600 : i < 600 := by omega
    have q0 := kq_image_77_0 i hi600
    obtain ⟨M1, hM1⟩ : ∃ K, K = k_st b (471 + 1 * i) 116 i M := ⟨_, rfl⟩
    have hI1 : k_I b (471 + 1 * i + 1) M1 := by rw [hM1]; exact k_I_s (p := 471 + 1 * i) hI (Or.inl (by decide))
    rw [kl_image_77_eq, if_neg (show ¬ (600 : Int32) ≤ nI i from nI_ge (b := 600) hi600 (by decide)), n_ib_nI (show i < 600 by omega) (by decide), n_chk_t]
    rw [k_op_e (c := 116) (k := i) (M := M) hI (by omega) (by omega), ← hM1, n_chk_t]
    rw [nI_1, ih (i + 1) f M1 (by omega) (by omega) (by rw [show 471 + 1 * (i + 1) = 471 + 1 * i + 1 by omega]; exact hI1)]
    have hk : k_rn b (1 * d) (471 + 1 * (i + 1)) M1 = k_rn b (1 * (d + 1)) (471 + 1 * i) M := by
      rw [show 1 * (d + 1) = 1 * d + 1 by omega, show 471 + 1 * (i + 1) = 471 + 1 * i + 1 by omega]
      rw [k_rn_s, show 471 + 1 * i = 471 + 1 * i + 0 from rfl, q0]
      rw [hM1]
      rfl
    rw [hk]
theorem kl_image_35_eq (N f : Nat) (x1 x : Int32) (M : nM) : fX12_image_35 N (f + 1) x1 x M = if (100 : Int32) ≤ x then ((fX12_keepsMany M).bind fun p1 => (fX12_keepsThings N p1.2).bind fun p2 => (fX12_keepsTold N p2.2).bind fun p3 => fX12_image_77 N N x1 (0 : Int32) p3.2) else n_chk (n_ib 100 x) (k_op 108 x M (fun M1 => n_chk (n_ib 100 x) (fX12_image_35 N f x1 (x + (1 : Int32)) M1))) := rfl
theorem kl_image_35 {N : Nat} {b : Bool} {x1 : Int32} : ∀ (d i f : Nat) (M : nM), i + d = 100 → d < f → k_I b (0 + 1 * i) M → fX12_image_35 N f x1 (nI i) M = ((fX12_keepsMany (k_rn b (1 * d) (0 + 1 * i) M)).bind fun p1 => (fX12_keepsThings N p1.2).bind fun p2 => (fX12_keepsTold N p2.2).bind fun p3 => fX12_image_77 N N x1 (0 : Int32) p3.2) := by
  intro d
  induction d with
  | zero =>
    intro i f M hi hf hI
    obtain ⟨f, rfl⟩ : ∃ g, f = g + 1 := ⟨f - 1, by omega⟩
    rw [kl_image_35_eq, if_pos (show (100 : Int32) ≤ nI i from nI_le (a := 100) (by omega) (by omega))]
    rfl
  | succ d ih =>
    intro i f M hi hf hI
    obtain ⟨f, rfl⟩ : ∃ g, f = g + 1 := ⟨f - 1, by omega⟩
    have hi100 : i < 100 := by omega
    have q0 := kq_image_35_0 i hi100
    obtain ⟨M1, hM1⟩ : ∃ K, K = k_st b (0 + 1 * i) 108 i M := ⟨_, rfl⟩
    have hI1 : k_I b (0 + 1 * i + 1) M1 := by rw [hM1]; exact k_I_s (p := 0 + 1 * i) hI (Or.inl (by decide))
    rw [kl_image_35_eq, if_neg (show ¬ (100 : Int32) ≤ nI i from nI_ge (b := 100) hi100 (by decide)), n_ib_nI (show i < 100 by omega) (by decide), n_chk_t]
    rw [k_op_e (c := 108) (k := i) (M := M) hI (by omega) (by omega), ← hM1, n_chk_t]
    rw [nI_1, ih (i + 1) f M1 (by omega) (by omega) (by rw [show 0 + 1 * (i + 1) = 0 + 1 * i + 1 by omega]; exact hI1)]
    have hk : k_rn b (1 * d) (0 + 1 * (i + 1)) M1 = k_rn b (1 * (d + 1)) (0 + 1 * i) M := by
      rw [show 1 * (d + 1) = 1 * d + 1 by omega, show 0 + 1 * (i + 1) = 0 + 1 * i + 1 by omega]
      rw [k_rn_s, show 0 + 1 * i = 0 + 1 * i + 0 from rfl, q0]
      rw [hM1]
      rfl
    rw [hk]
