/-! ===== hours ===== -/
def hoC (N f : Nat) (G : nG) (x1 x2 x3 : Int32) (p2 : Int32 × nM) : Option (Int32 × nM) := fX11_hours_34 N G f x1 (x2 + p2.1) (x3 + (1 : Int32)) p2.2
theorem hoC_eq (N f : Nat) (G : nG) (x1 x2 x3 : Int32) (M : nM) : fX11_hours_34 N G (f + 1) x1 x2 x3 M = if x1 ≤ x3 then some (x2, M) else (fX5_keep G M).bind fun p1 => (fX0_passHour N G 9 p1.2).bind (hoC N f G x1 x2 x3) := rfl
def hoM (N f : Nat) (x1 x2 x3 : Int32) (p2 : Int32 × nM) : Option (Int32 × nM) := fX12_hours_36 N f x1 (x2 + p2.1) (x3 + (1 : Int32)) p2.2
theorem hoM_eq (N f : Nat) (x1 x2 x3 : Int32) (M : nM) : fX12_hours_36 N (f + 1) x1 x2 x3 M = if x1 ≤ x3 then some (x2, M) else (fX12_keepsAhead N M).bind fun p1 => (fX12_goesBy N p1.2).bind (hoM N f x1 x2 x3) := rfl
theorem c_ho {G : nG} {n q N j : Nat} (hN : 1000 ≤ N) (hG : n_GOK G) (hj : j ≤ 60) : ∀ (d i : Nat) (c : Int32) (C D : nM), Rel G (Mix C D) n q → i + d = j → ∃ (v : Int32) (C' D' : nM), (∀ f, d < f → fX11_hours_34 N G f (nI j) c (nI i) C = some (v, C')) ∧ (∀ c, 107 ≤ c → c ≤ 151 → C' c = C c) ∧ (∀ g, d < g → fX12_hours_36 N g (nI j) c (nI i) D = some (v, D')) ∧ (∀ c, c < 107 ∨ 151 < c → D' c = D c) ∧ Rel G (Mix C' D') n q := by
  intro d
  induction d with
  | zero =>
    intro i c C D h hi
    refine ⟨c, C, D, fun f hf => ?_, fun _ _ _ => rfl, fun g hg => ?_, fun _ _ => rfl, h⟩
    · obtain ⟨f, rfl⟩ : ∃ g, f = g + 1 := ⟨f - 1, by omega⟩
      rw [hoC_eq, if_pos (nI_le (by omega) (by omega))]
    · obtain ⟨g, rfl⟩ : ∃ g', g = g' + 1 := ⟨g - 1, by omega⟩
      rw [hoM_eq, if_pos (nI_le (by omega) (by omega))]
  | succ d ih =>
    intro i c C D h hi
    obtain ⟨v1, C1, D1, k1, k2, k3, k4, k5⟩ := fin_keep hN hG (hr_DoC (N := N) hN) (hr_DoM (N := N) hN) h
    obtain ⟨v, C', D', r1, r2, r3, r4, r5⟩ := ih (i + 1) (c + v1) C1 D1 k5 (by omega)
    refine ⟨v, C', D', fun f hf => ?_, fun z g1 g2 => by rw [r2 z g1 g2, k2 z g1 g2], fun g hg => ?_, fun z hz => by rw [r4 z hz, k4 z hz], r5⟩
    · obtain ⟨f, rfl⟩ : ∃ g, f = g + 1 := ⟨f - 1, by omega⟩
      rw [hoC_eq, if_neg (nI_ge (by omega) (by omega))]
      refine (bind_as _ k1).trans ?_
      unfold hoC
      rw [nI_1]
      exact r1 f (by omega)
    · obtain ⟨g, rfl⟩ : ∃ g', g = g' + 1 := ⟨g - 1, by omega⟩
      rw [hoM_eq, if_neg (nI_ge (by omega) (by omega))]
      refine (bind_as _ k3).trans ?_
      unfold hoM
      rw [nI_1]
      exact r3 g (by omega)
theorem hrC_eq (N : Nat) (G : nG) (x : Int32) (M : nM) : fX11_hours N G x M = (fX11_within x (1 : Int32) (60 : Int32) M).bind fun p1 => if p1.1 = 0 then some ((-1 : Int32), p1.2) else if ((p1.2 9 9) + x) ≤ (9999 : Int32) then fX11_hours_34 N G N x (0 : Int32) (0 : Int32) p1.2 else some ((-1 : Int32), p1.2) := rfl
theorem hrM_eq (N : Nat) (x : Int32) (M : nM) : fX12_hours N x M = (fX12_isIn x (1 : Int32) (60 : Int32) (n_up M 107 0 0)).bind fun p2 => if p2.1 = 0 then some ((-1 : Int32), p2.2) else n_chk (n_ib 100 (0 : Int32)) (if ((p2.2 108 (0 : Int32).toNatClampNeg) + x) ≤ (9999 : Int32) then fX12_hours_36 N N x (0 : Int32) (0 : Int32) p2.2 else some ((-1 : Int32), p2.2)) := rfl
theorem st_hours {G : nG} {M : nM} {n q N : Nat} (hN : 1000 ≤ N) (hG : n_GOK G) (h : Rel G M n q) (x : Int32) : Stq G (fX11_hours N G x) (fX12_hours N x) M := by
  refine Stq_mix fun D hD => ?_
  have hR := Rel_m0 h hD
  obtain ⟨D0, hD0⟩ : ∃ D0, D0 = n_up D 107 0 0 := ⟨_, rfl⟩
  rw [← hD0] at hR
  have h9 : M 9 9 = D0 108 0 := CD_h (Rel_CD hR)
  have hfr : ∀ c, c < 107 ∨ 151 < c → D0 c = D c := fun c hc => by rw [hD0]; exact n0_ne c hc
  rw [hrC_eq, hrM_eq, ← hD0, e_within, e_isIn, Option.bind_some, Option.bind_some]
  cases hx : wi x 1 60 with
  | false => exact ⟨-1, M, D0, rfl, fun _ _ _ => rfl, rfl, hfr, n, q, hR⟩
  | true =>
    rw [if_neg (show ¬ (cb true, M).1 = 0 from (by decide : ¬ cb true = (0 : Int32))), if_neg (show ¬ (cb true, D0).1 = 0 from (by decide : ¬ cb true = (0 : Int32))), show n_ib 100 (0 : Int32) = true from rfl, n_chk_t, k0]
    show ∃ (v : Int32) (C' D' : nM), (if M 9 9 + x ≤ (9999 : Int32) then fX11_hours_34 N G N x (0 : Int32) (0 : Int32) M else some ((-1 : Int32), M)) = some (v, C') ∧ _ ∧ (if D0 108 0 + x ≤ (9999 : Int32) then fX12_hours_36 N N x (0 : Int32) (0 : Int32) D0 else some ((-1 : Int32), D0)) = some (v, D') ∧ _
    rw [h9]
    by_cases hc : D0 108 0 + x ≤ (9999 : Int32)
    · rw [if_pos hc, if_pos hc]
      obtain ⟨j, hj1, hj, rfl⟩ := wi_nI1 (n := 60) (by decide) hx
      obtain ⟨v, C', D', r1, r2, r3, r4, r5⟩ := c_ho hN hG hj j 0 0 M D0 hR (by omega)
      exact ⟨v, C', D', r1 N (by omega), r2, r3 N (by omega), fun c hc => by rw [r4 c hc]; exact hfr c hc, n, q, r5⟩
    · rw [if_neg hc, if_neg hc]
      exact ⟨-1, M, D0, rfl, fun _ _ _ => rfl, rfl, hfr, n, q, hR⟩
