/-! ===== glance, the step ===== -/
theorem g_ans {N d R C k : Nat} {b : Bool} (h : g_ok d R C) (hg : g_in R C = false) : ∃ w : Int32, (∀ M : nM, fX9_glanced_193 N (cb b) (nI ((d + 2) % 4)) (nI R - 1) (nI C - 1) (nI k) M = some ((if b = true then nI k else w), M)) ∧ ∀ M : nM, fX12_goesFrom_176 N (nI R - 1) (nI C - 1) M = some (w, M) := by
  obtain ⟨h0, h1 | ⟨rfl, rfl, h1, h2⟩ | ⟨rfl, rfl, h1, h2⟩ | ⟨rfl, rfl, h1, h2⟩ | ⟨rfl, rfl, h1, h2⟩⟩ := h
  · rw [g_in_t.mpr h1] at hg
    cases hg
  · rcases (show C = 1 ∨ C = 2 ∨ C = 3 ∨ C = 4 ∨ C = 5 ∨ C = 6 by omega) with rfl | rfl | rfl | rfl | rfl | rfl <;> cases b <;> exact ⟨_, fun _ => rfl, fun _ => rfl⟩
  · rcases (show R = 1 ∨ R = 2 ∨ R = 3 ∨ R = 4 ∨ R = 5 ∨ R = 6 by omega) with rfl | rfl | rfl | rfl | rfl | rfl <;> cases b <;> exact ⟨_, fun _ => rfl, fun _ => rfl⟩
  · rcases (show C = 1 ∨ C = 2 ∨ C = 3 ∨ C = 4 ∨ C = 5 ∨ C = 6 by omega) with rfl | rfl | rfl | rfl | rfl | rfl <;> cases b <;> exact ⟨_, fun _ => rfl, fun _ => rfl⟩
  · rcases (show R = 1 ∨ R = 2 ∨ R = 3 ∨ R = 4 ∨ R = 5 ∨ R = 6 by omega) with rfl | rfl | rfl | rfl | rfl | rfl <;> cases b <;> exact ⟨_, fun _ => rfl, fun _ => rfl⟩
def g_R0 (s : Nat) : Nat := if s / 6 = 0 then 1 else if s / 6 = 2 then 6 else s % 6 + 1
def g_C0 (s : Nat) : Nat := if s / 6 = 1 then 6 else if s / 6 = 3 then 1 else s % 6 + 1
theorem g_st0 : ∀ s, s < 24 → s / 6 < 4 ∧ (1 ≤ g_R0 s ∧ g_R0 s ≤ 6 ∧ 1 ≤ g_C0 s ∧ g_C0 s ≤ 6) ∧ (s / 6 = 0 → g_R0 s = 1) ∧ (s / 6 = 1 → g_C0 s = 6) ∧ (s / 6 = 2 → g_R0 s = 6) ∧ (s / 6 = 3 → g_C0 s = 1) := by decide +kernel
theorem g_bC {N : Nat} {x2 : Int32} {M : nM} : ∀ s, s < 24 → fX9_glanced N (nI s) x2 M = fX9_glanced_67 N N x2 (nI ((s / 6 + 2) % 4)) (nI (g_R0 s) - 1) (nI (g_C0 s) - 1) (nI 0) (nI 0) M := by
  intro s hs
  rcases (show s = 0 ∨ s = 1 ∨ s = 2 ∨ s = 3 ∨ s = 4 ∨ s = 5 ∨ s = 6 ∨ s = 7 ∨ s = 8 ∨ s = 9 ∨ s = 10 ∨ s = 11 ∨ s = 12 ∨ s = 13 ∨ s = 14 ∨ s = 15 ∨ s = 16 ∨ s = 17 ∨ s = 18 ∨ s = 19 ∨ s = 20 ∨ s = 21 ∨ s = 22 ∨ s = 23 by omega) with rfl | rfl | rfl | rfl | rfl | rfl | rfl | rfl | rfl | rfl | rfl | rfl | rfl | rfl | rfl | rfl | rfl | rfl | rfl | rfl | rfl | rfl | rfl | rfl <;> rfl
theorem g_bM {N : Nat} {M : nM} : ∀ s, s < 24 → fX12_goesFrom N (nI s) M = fX12_goesFrom_56 N N (nI (s / 6)) (nI (g_R0 s) - 1) (nI (g_C0 s) - 1) (n_up M 107 64 (nI 0)) := by
  intro s hs
  rcases (show s = 0 ∨ s = 1 ∨ s = 2 ∨ s = 3 ∨ s = 4 ∨ s = 5 ∨ s = 6 ∨ s = 7 ∨ s = 8 ∨ s = 9 ∨ s = 10 ∨ s = 11 ∨ s = 12 ∨ s = 13 ∨ s = 14 ∨ s = 15 ∨ s = 16 ∨ s = 17 ∨ s = 18 ∨ s = 19 ∨ s = 20 ∨ s = 21 ∨ s = 22 ∨ s = 23 by omega) with rfl | rfl | rfl | rfl | rfl | rfl | rfl | rfl | rfl | rfl | rfl | rfl | rfl | rfl | rfl | rfl | rfl | rfl | rfl | rfl | rfl | rfl | rfl | rfl <;> rfl
theorem glC_eq (N : Nat) (x1 x2 : Int32) (M : nM) : fX11_glance N x1 x2 M = (fX11_within x1 (0 : Int32) (23 : Int32) M).bind fun p1 => if p1.1 = 0 then some ((-1 : Int32), p1.2) else (fX11_within x2 (0 : Int32) (1 : Int32) p1.2).bind fun p2 => if ¬ p2.1 = 0 then (if ¬ x2 = (1 : Int32) then fX11_glance_36 N (0 : Int32) x1 p2.2 else fX11_glance_36 N (1 : Int32) x1 p2.2) else some ((-1 : Int32), p2.2) := rfl
theorem glM_eq (N : Nat) (x1 x2 : Int32) (M : nM) : fX12_glance N x1 x2 M = (fX12_isIn x1 (0 : Int32) (23 : Int32) (n_up M 107 0 0)).bind fun p2 => if p2.1 = 0 then some ((-1 : Int32), p2.2) else (fX12_isIn x2 (0 : Int32) (1 : Int32) p2.2).bind fun p3 => if ¬ p3.1 = 0 then (fX12_goesFrom N x1 p3.2).bind fun p4 => (if ¬ x2 = 0 then some ((p4.2 107 64), p4.2) else some (p4.1, p4.2)) else some ((-1 : Int32), p3.2) := rfl
theorem st_glance {G : nG} {M : nM} {n q N : Nat} (hN : 1000 ≤ N) (h : Rel G M n q) (x y : Int32) : Stq G (fX11_glance N x y) (fX12_glance N x y) M := by
  refine Stq_mix fun D hD => ?_
  have hR := Rel_m0 h hD
  obtain ⟨D0, hD0⟩ : ∃ D0, D0 = n_up D 107 0 0 := ⟨_, rfl⟩
  rw [← hD0] at hR
  have hfr : ∀ c, c < 107 ∨ 151 < c → D0 c = D c := fun c hc => by rw [hD0]; exact n0_ne c hc
  rw [glC_eq, glM_eq, ← hD0, e_within, e_isIn, Option.bind_some, Option.bind_some]
  cases hx : wi x 0 23 with
  | false => exact ⟨-1, M, D0, rfl, fun _ _ _ => rfl, rfl, hfr, n, q, hR⟩
  | true =>
    rw [if_neg (show ¬ (cb true, M).1 = 0 from (by decide : ¬ cb true = (0 : Int32))), if_neg (show ¬ (cb true, D0).1 = 0 from (by decide : ¬ cb true = (0 : Int32))), e_within, e_isIn, Option.bind_some, Option.bind_some]
    cases hy : wi y 0 1 with
    | false => exact ⟨-1, M, D0, rfl, fun _ _ _ => rfl, rfl, hfr, n, q, hR⟩
    | true =>
      rw [if_pos (show ¬ (cb true, M).1 = 0 from (by decide : ¬ cb true = (0 : Int32))), if_pos (show ¬ (cb true, D0).1 = 0 from (by decide : ¬ cb true = (0 : Int32)))]
      obtain ⟨s, hs, rfl⟩ := wi_nI (n := 23) (by decide) hx
      obtain ⟨k, hk, rfl⟩ := wi_nI (n := 1) (by decide) hy
      obtain ⟨b, hb⟩ : ∃ b : Bool, nI k = cb b := by
        rcases (show k = 0 ∨ k = 1 by omega) with rfl | rfl
        · exact ⟨false, rfl⟩
        · exact ⟨true, rfl⟩
      rw [hb]
      obtain ⟨⟨hst, hmv, hbk, hlw, hsp, hcu, hli, hsw, hpk, hbx, hky, hcl, hsh, hrw, hgf, hmi⟩, -⟩ := id hR
      obtain ⟨mi, hmi2⟩ : ∃ mi : Nat → Nat, mi = fun k => (M 44 k).toNatClampNeg := ⟨_, rfl⟩
      have hv : ∀ k, k < 36 → mi k ≤ 2 ∧ M 44 k = nI (mi k) ∧ D0 143 k = nI (mi k) := fun k hk => by
        obtain ⟨j, hj, e1, e2⟩ := hmi k hk
        have e1' : M 44 k = nI j := e1
        have e2' : D0 143 k = nI j := e2
        have e3 : mi k = j := by
          rw [hmi2]
          show (M 44 k).toNatClampNeg = j
          rw [e1', nI_clamp (by omega)]
        rw [e3]
        exact ⟨hj, e1', e2'⟩
      obtain ⟨t0, t1, t2, t3, t4, t5⟩ := g_st0 s (by omega)
      have hst0 : g_st (s / 6) (g_R0 s) (g_C0 s) := ⟨t0, t1.1, t1.2.1, t1.2.2.1, t1.2.2.2, t2, t3, t4, t5⟩
      have hok : g_ok (s / 6) (g_R0 s) (g_C0 s) := ⟨t0, Or.inl t1⟩
      have hout := g_run_out (mi := mi) 0 hst0
      have hok2 := g_run_ok (mi := mi) 144 (s / 6) (g_R0 s) (g_C0 s) 0 hok
      have r1 := c_gl67 (N := N) (x2 := cb b) (M := M) (mi := mi) (fun k hk => ⟨(hv k hk).1, (hv k hk).2.1⟩) 144 0 N (s / 6) (g_R0 s) (g_C0 s) 0 hok (by omega) (by omega)
      have r2 := c_gf56 (N := N) (D := D0) (mi := mi) (fun k hk => ⟨(hv k hk).1, (hv k hk).2.2⟩) 144 N (s / 6) (g_R0 s) (g_C0 s) 0 hok (by omega) hout
      obtain ⟨w, a1, a2⟩ := g_ans (N := N) (k := (g_run mi 144 (s / 6) (g_R0 s) (g_C0 s) 0).2.2.2) (b := b) hok2 hout
      rw [a1] at r1
      rw [a2] at r2
      have r3 : fX9_glanced N (nI s) (cb b) M = _ := (g_bC s (by omega)).trans r1
      have r4 : fX12_goesFrom N (nI s) D0 = _ := (g_bM s (by omega)).trans r2
      generalize (g_run mi 144 (s / 6) (g_R0 s) (g_C0 s) 0).2.2.2 = kk at r3 r4
      refine ⟨(if b = true then nI kk else w), M, n_up D0 107 64 (nI kk), ?_, fun _ _ _ => rfl, ?_, fun c hc => by rw [n_up_ne (by omega)]; exact hfr c hc, n, q, ?_⟩
      · cases b with
        | false =>
          rw [if_pos (show ¬ cb false = (1 : Int32) by decide)]
          unfold fX11_glance_36
          have r3' : fX9_glanced N (nI s) 0 M = _ := r3
          show (fX9_glanced N (nI s) 0 M).bind _ = _
          rw [r3', Option.bind_some]
        | true =>
          rw [if_neg (show ¬ ¬ cb true = (1 : Int32) from not_not_intro rfl)]
          unfold fX11_glance_36
          have r3' : fX9_glanced N (nI s) 1 M = _ := r3
          show (fX9_glanced N (nI s) 1 M).bind _ = _
          rw [r3', Option.bind_some]
      · show (fX12_goesFrom N (nI s) D0).bind _ = _
        rw [r4, Option.bind_some]
        cases b with
        | false => rw [if_neg (show ¬ ¬ cb false = (0 : Int32) from not_not_intro rfl)]; rfl
        | true =>
          rw [if_pos (show ¬ cb true = (0 : Int32) by decide)]
          show some (n_up D0 107 64 (nI kk) 107 64, n_up D0 107 64 (nI kk)) = some (nI kk, n_up D0 107 64 (nI kk))
          rw [n_up_eq, upd_eq]
      · refine Rel_scr hR (fun c g1 g2 => ?_) (fun k hk => ?_)
        · by_cases hc : c < 107 ∨ 151 < c
          · rw [Mix_c hc, Mix_c hc]
          · rw [Mix_d (by omega) (by omega), Mix_d (by omega) (by omega), n_up_ne g2]
        · show n_up D0 107 64 (nI kk) 107 k = D0 107 k
          rw [n_up_eq, upd_ne (fun e => by subst e; exact absurd hk (by decide))]
