/-! ===== image, the step ===== -/
theorem HB_0 {G : nG} (hG : n_GOK G) : HB G 0 := fun a a1 a2 => by
  refine ⟨hG.1 a (by omega), hG.2.1 a (by omega), fun k => ?_⟩
  have := hG.2.2 a k (by omega) (fun z => by omega)
  rw [Nat.add_zero, this]
  by_cases e : n_nN (n_nL n_mrL a) k 0 = 0
  · rw [if_pos e, e]
  · rw [if_neg e, Nat.add_zero]
theorem i_RCW {F M : nM} (h80 : F 80 = M 80) (h81 : F 81 = M 81) (h117 : F 117 = M 117) (h118 : F 118 = M 118) (h93 : F 93 = M 93) (h91 : F 91 = M 91) (h9 : F 9 0 = M 9 0) (hw : ∀ a, a < 45 → 3 < a → a ≠ 9 → F a 1 = M a 1 ∧ F a 2 = M a 2 ∨ ¬ (a = 14 ∨ a = 22 ∨ a = 24 ∨ a = 26 ∨ a = 29 ∨ a = 31 ∨ a = 33 ∨ a = 35 ∨ a = 37 ∨ a = 39 ∨ a = 41)) (h7 : F 107 15 = M 107 15 ∧ F 107 35 = M 107 35 ∧ F 107 36 = M 107 36 ∧ F 107 5 = M 107 5) (hrd : RD M) (hck : CK M) (hwd : ∀ k, k < 145 → M 118 k = nI (n_mw.getD k 0)) : RD F ∧ CK F ∧ ∀ k, k < 145 → F 118 k = nI (n_mw.getD k 0) := by
  have w : ∀ a, (a = 14 ∨ a = 22 ∨ a = 24 ∨ a = 26 ∨ a = 29 ∨ a = 31 ∨ a = 33 ∨ a = 35 ∨ a = 37 ∨ a = 39 ∨ a = 41) → F a 1 = M a 1 ∧ F a 2 = M a 2 := fun a ha => by
    rcases hw a (by omega) (by omega) (by omega) with z | z
    · exact z
    · exact absurd ha z
  refine ⟨?_, ?_, by rw [h118]; exact hwd⟩
  · unfold RD
    rw [h80, h81, h117, h7.1, h7.2.1, h7.2.2.1]
    exact hrd
  · unfold CK
    rw [h9, h93, h91, h7.2.2.2, (w 14 (by decide)).1, (w 14 (by decide)).2, (w 22 (by decide)).1, (w 22 (by decide)).2, (w 24 (by decide)).1, (w 24 (by decide)).2, (w 26 (by decide)).1, (w 26 (by decide)).2, (w 29 (by decide)).1, (w 29 (by decide)).2, (w 31 (by decide)).1, (w 31 (by decide)).2, (w 33 (by decide)).1, (w 33 (by decide)).2, (w 35 (by decide)).1, (w 35 (by decide)).2, (w 37 (by decide)).1, (w 37 (by decide)).2, (w 39 (by decide)).1, (w 39 (by decide)).2, (w 41 (by decide)).1, (w 41 (by decide)).2]
    exact hck
/-- the model's image, in one -/
theorem i_M {N : Nat} {b : Bool} {M : nM} (hN : 1000 ≤ N) (h : b = true ∨ M 107 76 = 1) : ∃ K : nM, fX12_image N (cb b) M = some (1, bif b then k_rn b 1936 0 K else n_up (k_rn b 1936 0 K) 107 3 0) ∧ (∀ c, c ≠ 107 → K c = M c) ∧ (∀ i, i ≠ 0 → i ≠ 75 → i ≠ 76 → i ≠ 77 → K 107 i = M 107 i) ∧ K 107 76 = 1 := by
  obtain ⟨K, hK⟩ : ∃ K, K = n_up (n_up (n_up (n_up M 107 0 0) 107 75 (cb b)) 107 76 1) 107 77 0 := ⟨_, rfl⟩
  have hI : k_I b 0 K := by
    rw [hK]
    refine ⟨?_, ?_⟩
    · rw [n_up_eq, upd_eq]; rfl
    · rw [n_up_eq, upd_ne (by decide), n_up_eq, upd_ne (by decide), n_up_eq, upd_eq]
  have e1 : fX12_image N (cb b) M = fX12_image_35 N N (cb b) (0 : Int32) K := by
    have e18 : fX12_image_18 N (cb b) (n_up M 107 0 0) = fX12_image_35 N N (cb b) (0 : Int32) K := by
      rw [hK]
      cases b <;> rfl
    have e0 : fX12_image N (cb b) M = if ¬ cb b = 0 then fX12_image_18 N (cb b) (n_up M 107 0 0) else if ¬ ((n_up M 107 0 0) 107 76) = 0 then fX12_image_18 N (cb b) (n_up M 107 0 0) else some ((0 : Int32), n_up M 107 0 0) := rfl
    rw [e0]
    cases b with
    | true => rw [if_pos (show ¬ (cb true : Int32) = 0 by decide)]; exact e18
    | false =>
      rcases h with z | z
      · exact absurd z (by decide)
      · rw [if_neg (show ¬ ¬ (cb false : Int32) = 0 by decide), n_up_eq, upd_ne (by decide), z, if_pos (by decide)]; exact e18
  refine ⟨K, e1.trans (k_img hN hI), fun c hc => by rw [hK, n_up_ne hc, n_up_ne hc, n_up_ne hc, n_up_ne hc], fun i i0 i1 i2 i3 => by rw [hK, n_up_eq, upd_ne i3, n_up_eq, upd_ne i2, n_up_eq, upd_ne i1, n_up_eq, upd_ne i0], by rw [hK, n_up_eq, upd_ne (by decide), n_up_eq, upd_eq]⟩
set_option maxRecDepth 100000 in
theorem i_pl : ∀ j, j < 1936 → (Nat.beq (k_pl j).1 117 || (Nat.beq (k_pl j).1 118 || Nat.beq (k_pl j).1 109)) = false := by decide +kernel
theorem p_mov_F {F M : nM} (h : ∀ c, 50 ≤ c → c < 80 → F c = M c) (i : Nat) (row : Nat → Int32) (n q : Nat) (hp : p_mov M i row n q) : p_mov F i row n q := by
  unfold p_mov at hp ⊢
  split at hp <;> (simp only [h 50 (by decide) (by decide), h 51 (by decide) (by decide), h 52 (by decide) (by decide), h 53 (by decide) (by decide), h 54 (by decide) (by decide), h 55 (by decide) (by decide), h 56 (by decide) (by decide), h 57 (by decide) (by decide), h 58 (by decide) (by decide), h 59 (by decide) (by decide), h 60 (by decide) (by decide), h 61 (by decide) (by decide), h 62 (by decide) (by decide), h 63 (by decide) (by decide), h 64 (by decide) (by decide), h 65 (by decide) (by decide), h 66 (by decide) (by decide), h 67 (by decide) (by decide), h 68 (by decide) (by decide), h 69 (by decide) (by decide), h 70 (by decide) (by decide), h 71 (by decide) (by decide), h 72 (by decide) (by decide), h 73 (by decide) (by decide), h 74 (by decide) (by decide), h 75 (by decide) (by decide), h 76 (by decide) (by decide), h 77 (by decide) (by decide), h 78 (by decide) (by decide), h 79 (by decide) (by decide)]; exact hp)
/-- kept: G' is the graph with the kept house, M0 the memory with it -/
theorem i_keep {N : Nat} {G' : nG} {M M0 : nM} {n q : Nat} (hN : 1000 ≤ N) (h0 : HB G' 0) (h15 : HB G' 150) (hnn : n_n G' ≤ 200) (hsl : n_sl G' ≤ 200000) (hm17 : n_mr G' 1 7 = 152) (hM0 : ∀ c, c ≤ 151 → M0 c = M c) (hHR : HR M M n q) (hPR : PR M n q) (hrd : RD M) (hck : CK M) (hwd : ∀ k, k < 145 → M 118 k = nI (n_mw.getD k 0)) : ∃ (Mc F : nM), fX1_copyFrom G' 152 2 M0 = some ((), Mc) ∧ fX12_image N 1 Mc = some (1, F) ∧ Rel G' F n q := by
  have hd : ((150 : Nat) = 150 ∧ (0 : Nat) = 0) ∨ ((150 : Nat) = 0 ∧ (0 : Nat) = 150) := Or.inl ⟨rfl, rfl⟩
  obtain ⟨ce1, ce2⟩ := cd_e (d0 := 150) (d1 := 0) hd cd_L M0 (fun x hx => ⟨(cd_Lb x hx).2.1, (cd_Lb x hx).2.2⟩)
  obtain ⟨K, k1, k2, k3, k4⟩ := i_M (N := N) (b := true) (M := cd 150 0 cd_L M0) hN (Or.inl rfl)
  obtain ⟨t1, t2⟩ := k_rn_t 1936 0 K (by decide)
  obtain ⟨F, hF⟩ : ∃ F, F = k_rn true 1936 0 K := ⟨_, rfl⟩
  rw [← hF] at t1 t2 k1
  have cdo : ∀ c, c ≤ 151 → cd 150 0 cd_L M0 c = M c := fun c hc => by
    rw [ce2 c (fun x hx => by have := (cd_Lb x hx).1; omega)]
    exact hM0 c hc
  have F1 : ∀ c, c ≤ 150 → c ≠ 107 → F c = M c := fun c hc h7 => funext fun i => by
    rw [t1 c i (by omega) (fun z => h7 z.1), k2 c h7, cdo c (by omega)]
  have F2 : ∀ i, i ≠ 0 → i ≠ 75 → i ≠ 76 → i ≠ 77 → F 107 i = M 107 i := fun i i0 i1 i2 i3 => by
    rw [t1 107 i (by decide) (fun z => i3 z.2), k3 i i0 i1 i2 i3, cdo 107 (by decide)]
  have Fp : ∀ j, j < 1936 → F (k_pl j).1 (k_pl j).2 = M (k_pl j).1 (k_pl j).2 := fun j hj => by
    have a := k_pl_a hj
    by_cases e : (k_pl j).1 = 107
    · have b := a.2.2.2 e
      rw [e]
      exact F2 _ b.2.2.2.1 b.1 b.2.2.1 b.2.1
    · rw [F1 _ (by omega) e]
  have hHR' : HR F F n q := HR_c (fun a i ha _ => by rw [F1 a (by omega) (by omega)]) Fp hHR
  have rcw := i_RCW (F := F) (M := M) (F1 80 (by decide) (by decide)) (F1 81 (by decide) (by decide)) (F1 117 (by decide) (by decide)) (F1 118 (by decide) (by decide)) (F1 93 (by decide) (by decide)) (F1 91 (by decide) (by decide)) (by rw [F1 9 (by decide) (by decide)]) (fun a ha _ _ => Or.inl (by rw [F1 a (by omega) (by omega)]; exact ⟨rfl, rfl⟩)) ⟨F2 15 (by decide) (by decide) (by decide) (by decide), F2 35 (by decide) (by decide) (by decide) (by decide), F2 36 (by decide) (by decide) (by decide) (by decide), F2 5 (by decide) (by decide) (by decide) (by decide)⟩ hrd hck hwd
  refine ⟨cd 150 0 cd_L M0, F, cp_1 (d0 := 150) (d1 := 0) h15 h0, k1, hHR', ?_, rcw.1, rcw.2.1, rcw.2.2, Or.inr ⟨hnn, hsl, hm17, h15, ?_, n, q, ?_⟩⟩
  · obtain ⟨k, x, p1, p2, p3, p4, p5, p6⟩ := hPR
    refine ⟨k, x, p1, p2, by rw [F1 48 (by decide) (by decide)]; exact p3, by rw [F1 48 (by decide) (by decide)]; exact p4, by rw [F2 3 (by decide) (by decide) (by decide) (by decide)]; exact p5, fun j hj => ?_⟩
    rw [F1 109 (by decide) (by decide)]
    exact p_mov_F (fun c c1 c2 => F1 c (by omega) (by omega)) _ _ _ _ (p6 j hj)
  · rw [t1 107 76 (by decide) (by decide)]
    exact k4
  · refine HR_c (c := M) (m := M) (fun a i ha hca => ?_) (fun j hj => ?_) hHR
    · show F (a + 150) i = M a i
      have a3 : 2 < a := by
        by_cases z : 2 < a
        · exact z
        · exfalso
          have k : ∀ a, a < 3 → ∀ l : List (Nat × Nat × Nat), (∀ x, x ∈ l → 2 < x.2.1) → ∀ i, cd_c l a i = false := fun a ha l hl i => by
            unfold cd_c
            rw [List.any_eq_false]
            intro x hx
            have := hl x hx
            rw [y_beq, decide_eq_false (by omega), Bool.false_and]
            decide
          rw [k a (by omega) cd_L (fun x hx => (cd_Lb x hx).1) i] at hca
          exact absurd hca (by decide)
      rw [t1 (a + 150) i (by omega) (fun z => by omega), k2 (a + 150) (by omega), ce1 a i ha, hca]
      show M0 (a + 0) i = M a i
      rw [Nat.add_zero, hM0 a (by omega)]
    · rw [k_iv, (k_pl_a hj).1, t2 j, if_pos ⟨Nat.zero_le _, by omega⟩]
      have a := k_pl_a hj
      by_cases e : (k_pl j).1 = 107
      · have b := a.2.2.2 e
        rw [e, k3 _ b.2.2.2.1 b.1 b.2.2.1 b.2.1, cdo 107 (by decide)]
      · rw [k2 _ e, cdo _ (by omega)]
/-- taken back -/
theorem i_back {N : Nat} {G : nG} {M : nM} {n q n' q' : Nat} (hN : 1000 ≤ N) (hG : n_GOK G) (h15 : n_GK G) (hnn : n_n G ≤ 200) (hsl : n_sl G ≤ 200000) (hm17 : n_mr G 1 7 = 152) (h76 : M 107 76 = 1) (hHR : HR (fun a => M (a + 150)) (iv (M 151)) n' q') (hPR : PR M n q) (hrd : RD M) (hck : CK M) (hwd : ∀ k, k < 145 → M 118 k = nI (n_mw.getD k 0)) : ∃ (Mc F : nM), fX1_copyFrom G 2 152 M = some ((), Mc) ∧ fX12_image N 0 (n_up Mc 48 2 0) = some (1, F) ∧ Rel G F n' q' := by
  have hd : ((0 : Nat) = 150 ∧ (150 : Nat) = 0) ∨ ((0 : Nat) = 0 ∧ (150 : Nat) = 150) := Or.inr ⟨rfl, rfl⟩
  obtain ⟨ce1, ce2⟩ := cd_e (d0 := 0) (d1 := 150) hd cd_L M (fun x hx => ⟨(cd_Lb x hx).2.1, (cd_Lb x hx).2.2⟩)
  have cdo : ∀ c, c ≤ 2 ∨ 45 ≤ c → cd 0 150 cd_L M c = M c := fun c hc => ce2 c (fun x hx => by have := cd_Lb x hx; omega)
  have cds : ∀ c, c ≠ 48 → n_up (cd 0 150 cd_L M) 48 2 0 c = cd 0 150 cd_L M c := fun c hc => n_up_ne hc
  obtain ⟨K, k1, k2, k3, k4⟩ := i_M (N := N) (b := false) (M := n_up (cd 0 150 cd_L M) 48 2 0) hN (Or.inr (by rw [cds 107 (by decide), cdo 107 (by decide)]; exact h76))
  obtain ⟨f1, f2, f3⟩ := k_rn_f 1936 0 K (by decide)
  obtain ⟨R, hR⟩ : ∃ R, R = k_rn false 1936 0 K := ⟨_, rfl⟩
  rw [← hR] at f1 f2 f3 k1
  have K151 : K 151 = M 151 := by rw [k2 151 (by decide), cds 151 (by decide), cdo 151 (by decide)]
  have R1 : ∀ c, (c < 107 ∨ 149 < c) → c ≠ 151 → R c = n_up (cd 0 150 cd_L M) 48 2 0 c := fun c hc h1 => funext fun i => by
    rw [f2 c i h1 (fun z => by omega) (fun j _ hj z => by
      have a := k_pl_a (p := j) (by omega)
      omega), k2 c (by omega)]
  have R2 : ∀ c, (c = 117 ∨ c = 118 ∨ c = 109) → R c = M c := fun c hc => funext fun i => by
    rw [f2 c i (by omega) (fun z => by omega) (fun j _ hj z => by
      have a := i_pl j (by omega)
      rw [y_beq, y_beq, y_beq] at a
      simp only [Bool.or_eq_false_iff, decide_eq_false_iff_not] at a
      omega), k2 c (by omega), cds c (by omega), cdo c (by omega)]
  have R3 : ∀ i, (i = 5 ∨ i = 15 ∨ i = 35 ∨ i = 36 ∨ i = 3) → R 107 i = M 107 i := fun i hi => by
    rw [f2 107 i (by decide) (fun z => by omega) (fun j _ hj z => by
      have a := k_pl_a (p := j) (by omega)
      have b := a.1
      rw [← z.1, ← z.2] at b
      have e111 : k_ix 107 i = 111 := by rcases hi with e | e | e | e | e <;> subst e <;> rfl
      rw [e111] at b
      have z2 := z.2
      rw [← b] at z2
      have : (k_pl 111).2 = 72 := by decide
      omega), k3 i (by omega) (by omega) (by omega) (by omega), cds 107 (by decide), cdo 107 (by decide)]
  obtain ⟨F, hF⟩ : ∃ F, F = n_up R 107 3 0 := ⟨_, rfl⟩
  have Fo : ∀ c, c ≠ 107 → F c = R c := fun c hc => by rw [hF, n_up_ne hc]
  have F7 : ∀ i, i ≠ 3 → F 107 i = R 107 i := fun i hi => by rw [hF, n_up_eq, upd_ne hi]
  have Fc : ∀ c, 45 ≤ c → c < 107 → c ≠ 48 → F c = M c := fun c c1 c2 c3 => by rw [Fo c (by omega), R1 c (by omega) (by omega), cds c c3, cdo c (by omega)]
  have Fh : ∀ c, c ≠ 48 → c < 45 → F c = cd 0 150 cd_L M c := fun c c1 c2 => by rw [Fo c (by omega), R1 c (by omega) (by omega), cds c c1]
  have Fk : ∀ c, 149 < c → c ≠ 151 → F c = M c := fun c c1 c2 => by rw [Fo c (by omega), R1 c (by omega) c2, cds c (by omega), cdo c (by omega)]
  have F151 : F 151 = M 151 := by rw [Fo 151 (by decide), f1, K151]
  have no : ∀ a i, a < 45 → cd_c cd_L a i = false → F a i = M a i := fun a i ha hn => by
    rw [Fh a (by omega) ha]
    have := ce1 a i ha
    rw [Nat.add_zero, hn] at this
    exact this
  have rcw := i_RCW (F := F) (M := M) (Fc 80 (by decide) (by decide) (by decide)) (Fc 81 (by decide) (by decide) (by decide)) (by rw [Fo 117 (by decide)]; exact R2 117 (by decide)) (by rw [Fo 118 (by decide)]; exact R2 118 (by decide)) (Fc 93 (by decide) (by decide) (by decide)) (Fc 91 (by decide) (by decide) (by decide)) (no 9 0 (by decide) (by decide +kernel)) (fun a ha h3 h9 => by
      by_cases e : a = 14 ∨ a = 22 ∨ a = 24 ∨ a = 26 ∨ a = 29 ∨ a = 31 ∨ a = 33 ∨ a = 35 ∨ a = 37 ∨ a = 39 ∨ a = 41
      · left
        have k : ∀ a, (a = 14 ∨ a = 22 ∨ a = 24 ∨ a = 26 ∨ a = 29 ∨ a = 31 ∨ a = 33 ∨ a = 35 ∨ a = 37 ∨ a = 39 ∨ a = 41) → cd_c cd_L a 1 = false ∧ cd_c cd_L a 2 = false := fun a ha => by
          rcases ha with e | e | e | e | e | e | e | e | e | e | e <;> subst e <;> decide +kernel
        exact ⟨no a 1 ha (k a e).1, no a 2 ha (k a e).2⟩
      · exact Or.inr e) ⟨by rw [F7 15 (by decide)]; exact R3 15 (by decide), by rw [F7 35 (by decide)]; exact R3 35 (by decide), by rw [F7 36 (by decide)]; exact R3 36 (by decide), by rw [F7 5 (by decide)]; exact R3 5 (by decide)⟩ hrd hck hwd
  have Fpl : ∀ j, j < 1936 → F (k_pl j).1 (k_pl j).2 = M 151 j := fun j hj => by
    have a := k_pl_a hj
    have e : F (k_pl j).1 (k_pl j).2 = R (k_pl j).1 (k_pl j).2 := by
      by_cases e : (k_pl j).1 = 107
      · have b := a.2.2.2 e
        rw [e]
        exact F7 _ b.2.2.2.2
      · rw [Fo _ e]
    rw [e, f3 j (Nat.zero_le _) (by omega), K151]
  refine ⟨cd 0 150 cd_L M, F, cp_1 (d0 := 0) (d1 := 150) (HB_0 hG) h15, by rw [hF]; exact k1, ?_, ?_, rcw.1, rcw.2.1, rcw.2.2, Or.inr ⟨hnn, hsl, hm17, h15, ?_, n', q', ?_⟩⟩
  · refine HR_c (c := fun a => M (a + 150)) (m := iv (M 151)) (fun a i ha hca => ?_) (fun j hj => ?_) hHR
    · show F a i = M (a + 150) i
      rw [Fh a (by omega) ha]
      have := ce1 a i ha
      rw [Nat.add_zero, hca] at this
      exact this
    · rw [Fpl j hj, k_iv, (k_pl_a hj).1]
  · obtain ⟨k, x, p1, p2, p3, p4, p5, p6⟩ := hPR
    have F48 : F 48 = n_up (cd 0 150 cd_L M) 48 2 0 48 := by rw [Fo 48 (by decide), R1 48 (by decide) (by decide)]
    refine ⟨0, x, by decide, p2, ?_, ?_, ?_, fun j hj => absurd hj (by omega)⟩
    · rw [F48, n_up_eq, upd_eq]; rfl
    · rw [F48, n_up_eq, upd_ne (by decide), cdo 48 (by decide)]; exact p4
    · rw [hF, n_up_eq, upd_eq]; rfl
  · rw [F7 76 (by decide)]
    rw [f2 107 76 (by decide) (by decide) (fun j _ hj z => by
      have a := k_pl_a (p := j) (by omega)
      exact (a.2.2.2 z.1.symm).2.2.1 z.2.symm)]
    exact k4
  · refine HR_c (c := fun a => M (a + 150)) (m := iv (M 151)) (fun a i ha hca => ?_) (fun j hj => by rw [F151]) hHR
    show F (a + 150) i = M (a + 150) i
    by_cases e : a + 150 = 151
    · rw [e, F151]
    · rw [Fk (a + 150) (by omega) e]
/-- image: the step -/
theorem st_image {N : Nat} {hh : nH} {n q : Nat} (hN : 1000 ≤ N) (x : Int32) (hG : n_GOK hh.1) (hR : Rel hh.1 hh.2 n q) : ∃ (v : Int32) (h' : nH) (M2 : nM) (n' q' : Nat), fX11_image N 1 (if x = 0 then 0 else 1) hh = some (v, h') ∧ n_GOK h'.1 ∧ fX12_image N (if x = 0 then 0 else 1) h'.2 = some (v, M2) ∧ Rel h'.1 M2 n' q' := by
  obtain ⟨hHR, hPR, hrd, hck, hwd, him⟩ := id hR
  have b1 : Nat.beq (n_kd hh.1 1) 11 = true := nbeq (hG.1 1 (by decide))
  have b2 : Nat.beq (n_kd hh.1 2) 1 = true := nbeq (hG.1 2 (by decide))
  have m10 : n_mr hh.1 1 0 = 2 := hG.2.2 1 0 (by decide) (by decide)
  have m12 : n_mr hh.1 1 2 = 48 := hG.2.2 1 2 (by decide) (by decide)
  have b48 : Nat.beq (n_kd hh.1 48) 5 = true := nbeq (hG.1 48 (by decide))
  by_cases hx : x = 0
  · rw [if_pos hx]
    rcases him with ⟨i1, i2, i3, i4⟩ | ⟨i1, i2, i3, i4, i5, n', q', i6⟩
    · refine ⟨0, hh, n_up hh.2 107 0 0, n, q, ?_, hG, ?_, ?_⟩
      · unfold fX11_image
        rw [if_pos rfl, b1, n_chk_t]
        show (if n_mr hh.1 1 7 = 0 then some ((0 : Int32), hh) else _) = _
        rw [if_pos i3]
      · show (if ¬ (0 : Int32) = 0 then fX12_image_18 N 0 (n_up hh.2 107 0 0) else if ¬ ((n_up hh.2 107 0 0) 107 76) = 0 then fX12_image_18 N 0 (n_up hh.2 107 0 0) else some ((0 : Int32), n_up hh.2 107 0 0)) = _
        rw [if_neg (by decide), n_up_eq, upd_ne (by decide), i4, if_neg (by decide)]
      · exact Rel_scr hR (fun c g1 g2 => n_up_ne g2) (fun k hk => by rw [n_up_eq, upd_ne (fun e => by subst e; exact absurd hk (by decide))])
    · obtain ⟨Mc, F, e1, e2, e3⟩ := i_back (N := N) hN hG i4 i1 i2 i3 i5 i6 hPR hrd hck hwd
      refine ⟨1, (hh.1, n_up Mc 48 2 0), F, n', q', ?_, hG, e2, e3⟩
      unfold fX11_image
      rw [if_pos rfl, b1, n_chk_t]
      show (if n_mr hh.1 1 7 = 0 then some ((0 : Int32), hh) else n_chk true (n_chk true (n_chk (Nat.beq (n_kd hh.1 (n_mr hh.1 1 0)) 1 && true) ((fX1_copyFrom hh.1 (n_mr hh.1 1 0) (n_mr hh.1 1 7) hh.2).bind fun p4 => n_chk (Nat.beq (n_kd hh.1 1) 11) (n_ig hh.1 (n_chk (Nat.beq (n_kd hh.1 (n_mr hh.1 1 2)) 5 && true) (n_ck (Nat.beq (n_mr hh.1 1 2) 48) ((fX5_forget p4.2).bind fun p7 => some ((1 : Int32), ((hh.1, p7.2) : nH))))))))))  = _
      rw [if_neg (by rw [i3]; decide), n_chk_t, n_chk_t, m10, b2, i3, m12, b48, b1, e1, Option.bind_some]
      unfold n_ig
      rw [if_pos hG]
      rfl
  · rw [if_neg hx]
    have x1 : ∀ (K : nH) (a : Nat), Nat.beq (n_kd K.1 1) 11 = true → n_mr K.1 1 7 = 152 → n_mr K.1 1 0 = 2 → Nat.beq (n_kd K.1 152) 1 = true → ∀ Mc, fX1_copyFrom K.1 152 2 K.2 = some ((), Mc) → fX11_image_22 N 1 K = some ((1 : Int32), ((K.1, Mc) : nH)) := fun K a c1 c2 c3 c4 Mc c5 => by
      unfold fX11_image_22
      rw [c1, n_chk_t]
      show n_chk true (n_chk (Nat.beq (n_kd K.1 (n_mr K.1 1 7)) 1 && true) ((fX1_copyFrom K.1 (n_mr K.1 1 7) (n_mr K.1 1 0) K.2).bind fun p3 => some ((1 : Int32), ((K.1, p3.2) : nH)))) = _
      rw [n_chk_t, c2, c3, c4, c5]
      rfl
    rcases him with ⟨i1, i2, i3, i4⟩ | ⟨i1, i2, i3, i4, i5, n', q', i6⟩
    · obtain ⟨h, s1, s2, s3, s4, s5⟩ := c_anew (N := N) (B := hh) hN i1
      obtain ⟨h13, hh13⟩ : ∃ h13, h13 = n_upR h 1 7 152 := ⟨_, rfl⟩
      have mr1 : ∀ a k, ¬ (a = 1 ∧ k = 7) → n_mr h13.1 a k = n_mr h.1 a k := fun a k hak => by
        rw [hh13]
        show va_up (n_mr h.1) 1 (va_up (n_mr h.1 1) 7 152) a k = _
        by_cases e : a = 1
        · subst e
          rw [va_up_self, va_up_ne _ _ (fun z => hak ⟨rfl, z⟩)]
        · rw [va_up_ne _ _ e]
      have mr17 : n_mr h13.1 1 7 = 152 := by
        rw [hh13]
        show va_up (n_mr h.1) 1 (va_up (n_mr h.1 1) 7 152) 1 7 = _
        rw [va_up_self, va_up_self]
      have kd13 : ∀ a, n_kd h13.1 a = n_kd h.1 a := fun a => by rw [hh13]; rfl
      have ln13 : ∀ a, n_len h13.1 a = n_len h.1 a := fun a => by rw [hh13]; rfl
      have M13 : h13.2 = h.2 := by rw [hh13]; rfl
      have hG13 : n_GOK h13.1 := by
        refine ⟨fun a ha => by rw [kd13, (s4 a (by omega)).1]; exact hG.1 a ha, fun a ha => by rw [ln13, (s4 a (by omega)).2.1]; exact hG.2.1 a ha, fun a k ha hak => by rw [mr1 a k hak, (s4 a (by omega)).2.2.1]; exact hG.2.2 a k ha hak⟩
      have hB13 : HB h13.1 150 := fun a a1 a2 => by
        obtain ⟨g1, g2, g3⟩ := s5 a a1 a2
        exact ⟨by rw [kd13]; exact g1, by rw [ln13]; exact g2, fun k => by rw [mr1 (a + 150) k (fun z => by omega)]; exact g3 k⟩
      obtain ⟨Mc, F, e1, e2, e3⟩ := i_keep (N := N) (G' := h13.1) (M := hh.2) (M0 := h13.2) hN (HB_0 hG13) hB13 (by rw [hh13]; show n_n h.1 ≤ 200; omega) (by rw [hh13]; show n_sl h.1 ≤ 200000; omega) mr17 (fun c hc => by rw [M13]; exact (s4 c hc).2.2.2) hHR hPR hrd hck hwd
      refine ⟨1, (h13.1, Mc), F, n, q, ?_, hG13, e2, e3⟩
      have b1h : Nat.beq (n_kd h.1 1) 11 = true := by rw [(s4 1 (by decide)).1]; exact b1
      unfold fX11_image
      rw [if_neg (by decide), b1, n_chk_t]
      show (if n_mr hh.1 1 7 = 0 then n_chk (Nat.blt 0 (n_n hh.1 + 1)) ((fX1_init N (n_n hh.1 + 1) (n_alloc hh 1 8)).bind fun p12 => n_chk (Nat.beq (n_kd p12.2.1 1) 11) (fX11_image_22 N 1 (n_upR p12.2 1 7 (n_n hh.1 + 1)))) else _) = _
      rw [if_pos i3, i1, show Nat.blt 0 (151 + 1) = true from rfl, n_chk_t, s1, Option.bind_some]
      show n_chk (Nat.beq (n_kd h.1 1) 11) (fX11_image_22 N 1 (n_upR h 1 7 152)) = _
      rw [b1h, n_chk_t, ← hh13]
      exact x1 h13 0 (by rw [kd13]; exact b1h) mr17 (by rw [mr1 1 0 (by decide), (s4 1 (by decide)).2.2.1]; exact m10) (nbeq (hB13 2 (by decide) (by decide)).1) Mc e1
    · obtain ⟨Mc, F, e1, e2, e3⟩ := i_keep (N := N) (G' := hh.1) (M := hh.2) (M0 := hh.2) hN (HB_0 hG) i4 i1 i2 i3 (fun c hc => rfl) hHR hPR hrd hck hwd
      refine ⟨1, (hh.1, Mc), F, n, q, ?_, hG, e2, e3⟩
      unfold fX11_image
      rw [if_neg (by decide), b1, n_chk_t]
      show (if n_mr hh.1 1 7 = 0 then _ else fX11_image_22 N 1 hh) = _
      rw [if_neg (by rw [i3]; decide)]
      exact x1 hh 0 b1 i3 m10 (nbeq (i4 2 (by decide) (by decide)).1) Mc e1
