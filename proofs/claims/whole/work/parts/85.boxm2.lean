/-! ===== boxes: the model's loops ===== -/
def f45b (N f : Nat) (k25 : Int32 → nM → Option (Unit × nM)) (k35 : Int32 → Int32 → nM → Option (Unit × nM)) (x1 x2 x3 : Int32) (p4 : Int32 × nM) : Option (Unit × nM) := n_chk (n_ib 8 x3) (fX12_findsNested_45 N k25 k35 f x1 x2 (x3 + (1 : Int32)) (n_up p4.2 138 x3.toNatClampNeg p4.1))
theorem f45_eq (N f : Nat) (k25 : Int32 → nM → Option (Unit × nM)) (k35 : Int32 → Int32 → nM → Option (Unit × nM)) (x1 x2 x3 : Int32) (M : nM) : fX12_findsNested_45 N k25 k35 (f + 1) x1 x2 x3 M = if (M 107 51) ≤ x3 then k35 x1 (x2 + (1 : Int32)) M else n_chk (n_ib 8 x2) (n_chk (n_ib 8 x3) (if (M 136 x3.toNatClampNeg) ≤ (M 136 x2.toNatClampNeg) then fX12_findsNested_45 N k25 k35 f x1 x2 (x3 + (1 : Int32)) M else n_chk (n_ib 8 x2) (n_chk (n_ib 8 x3) (if (M 137 x3.toNatClampNeg) ≤ (M 137 x2.toNatClampNeg) then fX12_findsNested_45 N k25 k35 f x1 x2 (x3 + (1 : Int32)) M else n_chk (n_ib 8 x3) (n_chk (n_ib 8 x2) ((fX12_greater (M 138 x3.toNatClampNeg) ((M 138 x2.toNatClampNeg) + (1 : Int32)) M).bind (f45b N f k25 k35 x1 x2 x3))))))) := rfl
theorem c_f45 {N u : Nat} {k25 : Int32 → nM → Option (Unit × nM)} {k35 : Int32 → Int32 → nM → Option (Unit × nM)} {x1 : Int32} {M : nM} {ps : List (Nat × Nat)} {D : Nat → Nat} (hL8 : ps.length ≤ 8) (h51 : M 107 51 = nI ps.length) (hb : ∀ i, i < ps.length → (ps.getD i (0, 0)).1 ≤ 30 ∧ (ps.getD i (0, 0)).2 ≤ 30) (hc : ∀ i, i < ps.length → M 136 i = nI (ps.getD i (0, 0)).2 ∧ M 137 i = nI (ps.getD i (0, 0)).1) (hD : ∀ v, v < ps.length → D v = x_mx (fun u => x_E ps u v) D ps.length) (hD8 : ∀ v, v < ps.length → D v ≤ 8) (hu : u < ps.length) :
    ∀ (d i f : Nat) (L : Nat → Nat) (W : Nat → Int32), i + d = ps.length → d < f → (∀ t, t < ps.length → W t = nI (L t)) → (∀ t, t < ps.length → L t ≤ D t) → ∃ W' : Nat → Int32, (∀ t, t < ps.length → W' t = nI (x_ps (x_E ps) (x_qM u d i) L t)) ∧ fX12_findsNested_45 N k25 k35 f x1 (nI u) (nI i) (n_set M 138 W) = k35 x1 (nI (u + 1)) (n_set M 138 W') := by
  intro d
  induction d with
  | zero =>
    intro i f L W hi hf hW hLD
    obtain ⟨f, rfl⟩ : ∃ g, f = g + 1 := ⟨f - 1, by omega⟩
    refine ⟨W, hW, ?_⟩
    rw [f45_eq, n_set_ne (show (107 : Nat) ≠ 138 by decide), h51, if_pos (nI_le (by omega) (by omega)), nI_1]
  | succ d ih =>
    intro i f L W hi hf hW hLD
    obtain ⟨f, rfl⟩ : ∃ g, f = g + 1 := ⟨f - 1, by omega⟩
    have hv : i < ps.length := by omega
    obtain ⟨c1, c2⟩ := hc u hu
    obtain ⟨c3, c4⟩ := hc i hv
    obtain ⟨b1, b2⟩ := hb u hu
    obtain ⟨b3, b4⟩ := hb i hv
    have lu := hD8 _ hu
    have lv := hD8 _ hv
    have lu2 := hLD _ hu
    have lv2 := hLD _ hv
    have hst := x_ps_le hD [(u, i)] L (fun x hx => by
      rcases List.mem_cons.mp hx with e | e
      · subst e; exact ⟨hu, hv⟩
      · cases e) hLD
    rw [f45_eq, n_set_ne (show (107 : Nat) ≠ 138 by decide), h51, if_neg (nI_ge (by omega) (by omega)), n_ib_nI (show u < 8 by omega) (by decide), n_ib_nI (show i < 8 by omega) (by decide), n_chk_t, n_chk_t, n_chk_t, n_chk_t, n_chk_t, n_chk_t, nI_clamp (show u < 2 ^ 31 by omega), nI_clamp (show i < 2 ^ 31 by omega), n_set_ne (show (136 : Nat) ≠ 138 by decide), n_set_ne (show (137 : Nat) ≠ 138 by decide), n_set_eq, c1, c2, c3, c4, hW u hu, hW i hv, nI_1, nI_1]
    unfold x_qM
    have skip : x_E ps u i = false → ∃ W' : Nat → Int32, (∀ t, t < ps.length → W' t = nI (x_ps (x_E ps) ((u, i) :: x_qM u d (i + 1)) L t)) ∧ fX12_findsNested_45 N k25 k35 f x1 (nI u) (nI (i + 1)) (n_set M 138 W) = k35 x1 (nI (u + 1)) (n_set M 138 W') := fun hE => by
      refine ih (i + 1) f (x_rx (x_E ps) L u i) W (by omega) (by omega) (fun t ht => ?_) hst
      rw [hW t ht]
      unfold x_rx
      rw [hE]
      by_cases e : t = i
      · rw [if_pos e, if_neg (by decide), e]
      · rw [if_neg e]
    by_cases h2 : (ps.getD u (0, 0)).2 < (ps.getD i (0, 0)).2
    · rw [if_neg (nI_ge h2 (by omega))]
      by_cases h1 : (ps.getD u (0, 0)).1 < (ps.getD i (0, 0)).1
      · rw [if_neg (nI_ge h1 (by omega))]
        have hE : x_E ps u i = true := by unfold x_E; rw [decide_eq_true h1, decide_eq_true h2]; rfl
        have hgr : fX12_greater (nI (L i)) (nI (L u + 1)) (n_set M 138 W) = some (nI (max (L i) (L u + 1)), n_set M 138 W) := by
          unfold fX12_greater
          by_cases hlt : L i ≤ L u + 1
          · rw [if_pos (nI_le hlt (by omega)), Nat.max_eq_right hlt]
          · rw [if_neg (nI_ge (by omega) (by omega)), Nat.max_eq_left (by omega)]
        rw [hgr, Option.bind_some, f45b, n_ib_nI (show i < 8 by omega) (by decide), n_chk_t, nI_clamp (show i < 2 ^ 31 by omega), nI_1]
        show ∃ W' : Nat → Int32, _ ∧ fX12_findsNested_45 N k25 k35 f x1 (nI u) (nI (i + 1)) (n_up (n_set M 138 W) 138 i (nI (max (L i) (L u + 1)))) = _
        rw [n_up_set]
        refine ih (i + 1) f (x_rx (x_E ps) L u i) _ (by omega) (by omega) (fun t ht => ?_) hst
        unfold x_rx
        rw [hE]
        by_cases e : t = i
        · rw [if_pos e, if_pos rfl, e, upd_eq]
        · rw [if_neg e, upd_ne e]; exact hW t ht
      · rw [if_pos (nI_le (by omega) (by omega))]
        exact skip (by unfold x_E; rw [decide_eq_false h1]; rfl)
    · rw [if_pos (nI_le (by omega) (by omega))]
      exact skip (by unfold x_E; rw [decide_eq_false h2, Bool.and_false])
