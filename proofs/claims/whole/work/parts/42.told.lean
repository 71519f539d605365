/-! ===== what is told for thought: pick, share, row, swap, box, key, clue ===== -/
theorem e_clear {G : nG} {a : Nat} (hk : n_kd G a = 7) (M : nM) : fX7_clear G a M = some (0, n_up M a 3 0) := by
  have hb : Nat.beq (n_kd G a) 7 = true := by rw [hk]; rfl
  unfold fX7_clear
  simp only [hb, n_chk]
theorem e_add1 {G : nG} {M : nM} {x0 c H k : Nat} (hk : n_kd G x0 = 7) (hm : n_mr G x0 0 = c) (hkc : n_kd G c = 14) (hl : n_len G c = H) (hw : r_wm (M x0 1) (M x0 2) 1 H) (h3 : M x0 3 = nI k) (hne : x0 ≠ c) (hH : H < 1000) (hkH : k ≤ H) (a b d e : Int32) :
    fX7_add G x0 a b d e M = if k < H then some (nI (k + 1), n_up (n_up M c k a) x0 3 (nI (k + 1))) else some (-1, M) := by
  have hb : Nat.beq (n_kd G x0) 7 = true := by rw [hk]; rfl
  obtain ⟨h1, h2⟩ := hw
  unfold fX7_add fX7_write
  by_cases hlt : k < H
  · have c1 : nI k < nI H := nI_lt hlt (by omega)
    have c2 : ¬ nI k < 0 := nI_pos (by omega)
    have c3 : nI k * nI 1 = nI k := by rw [pk_mul, Nat.mul_one]
    have c4 := n_in_nI hkc hl hlt (by omega)
    have c5 : n_up M c k a x0 1 = nI 1 := by rw [n_up_ne hne]; exact h1
    have c6 : n_up M c k a x0 3 = nI k := by rw [n_up_ne hne]; exact h3
    have c7 : (nI 1 ≤ (1 : Int32)) := by decide
    have c8 : (nI 1 ≤ (2 : Int32)) := by decide
    have c9 : (nI 1 ≤ (3 : Int32)) := by decide
    simp only [hb, h1, h2, h3, hm, c1, c2, c3, c4, c5, c6, c7, c8, c9, hlt, n_chk, Bool.and_self, Option.bind_some, nI_clamp (show k < 2 ^ 31 by omega), fX7_write_47, fX7_write_66, n_up_eq, upd_eq, nI_1, wp_bind, wp_some, wp_chk, ↓reduceIte, not_true_eq_false, not_false_eq_true, z10, z01, zm0, z0m, zm1, z1m, true_and, and_true, cb_t, cb_f, cb0, cb1, eq_self, Bool.false_eq_true, Bool.true_eq_false, reduceCtorEq]
  · have c1 : ¬ nI k < nI H := nI_nlt (by omega) (by omega)
    simp only [hb, h2, h3, c1, hlt, n_chk, wp_bind, wp_some, wp_chk, ↓reduceIte, not_true_eq_false, not_false_eq_true, z10, z01, zm0, z0m, zm1, z1m, true_and, and_true, cb_t, cb_f, cb0, cb1, eq_self, Bool.false_eq_true, Bool.true_eq_false, reduceCtorEq]
theorem e_add2 {G : nG} {M : nM} {x0 c H k : Nat} (hk : n_kd G x0 = 7) (hm : n_mr G x0 0 = c) (hkc : n_kd G c = 14) (hl : n_len G c = 2 * H) (hw : r_wm (M x0 1) (M x0 2) 2 H) (h3 : M x0 3 = nI k) (hne : x0 ≠ c) (hH : H < 1000) (hkH : k ≤ H) (a b d e : Int32) :
    fX7_add G x0 a b d e M = if k < H then some (nI (k + 1), n_up (n_up (n_up M c (2 * k) a) c (2 * k + 1) b) x0 3 (nI (k + 1))) else some (-1, M) := by
  have hb : Nat.beq (n_kd G x0) 7 = true := by rw [hk]; rfl
  obtain ⟨h1, h2⟩ := hw
  unfold fX7_add fX7_write
  by_cases hlt : k < H
  · have c1 : nI k < nI H := nI_lt hlt (by omega)
    have c2 : ¬ nI k < 0 := nI_pos (by omega)
    have c3 : nI k * nI 2 = nI (2 * k) := by rw [pk_mul, Nat.mul_comm]
    have c4 : n_in G 14 c (nI (2 * k)) = true := n_in_nI hkc hl (by omega) (by omega)
    have c4' : n_in G 14 c (nI (2 * k + 1)) = true := n_in_nI hkc hl (by omega) (by omega)
    have c5 : n_up M c (2 * k) a x0 1 = nI 2 := by rw [n_up_ne hne]; exact h1
    have c5' : n_up (n_up M c (2 * k) a) c (2 * k + 1) b x0 1 = nI 2 := by rw [n_up_ne hne]; exact c5
    have c6 : n_up (n_up M c (2 * k) a) c (2 * k + 1) b x0 3 = nI k := by rw [n_up_ne hne, n_up_ne hne]; exact h3
    have c7 : ¬ (nI 2 ≤ (1 : Int32)) := by decide
    have c8 : (nI 2 ≤ (2 : Int32)) := by decide
    have c9 : (nI 2 ≤ (3 : Int32)) := by decide
    simp only [hb, h1, h2, h3, hm, c1, c2, c3, c4, c4', c5, c5', c6, c7, c8, c9, hlt, n_chk, Bool.and_self, Option.bind_some, nI_clamp (show 2 * k < 2 ^ 31 by omega), nI_clamp (show 2 * k + 1 < 2 ^ 31 by omega), fX7_write_47, fX7_write_66, n_up_eq, upd_eq, nI_1, wp_bind, wp_some, wp_chk, ↓reduceIte, not_true_eq_false, not_false_eq_true, z10, z01, zm0, z0m, zm1, z1m, true_and, and_true, cb_t, cb_f, cb0, cb1, eq_self, Bool.false_eq_true, Bool.true_eq_false, reduceCtorEq]
  · have c1 : ¬ nI k < nI H := nI_nlt (by omega) (by omega)
    simp only [hb, h2, h3, c1, hlt, n_chk, wp_bind, wp_some, wp_chk, ↓reduceIte, not_true_eq_false, not_false_eq_true, z10, z01, zm0, z0m, zm1, z1m, true_and, and_true, cb_t, cb_f, cb0, cb1, eq_self, Bool.false_eq_true, Bool.true_eq_false, reduceCtorEq]
theorem e_add3 {G : nG} {M : nM} {x0 c H k : Nat} (hk : n_kd G x0 = 7) (hm : n_mr G x0 0 = c) (hkc : n_kd G c = 14) (hl : n_len G c = 3 * H) (hw : r_wm (M x0 1) (M x0 2) 3 H) (h3 : M x0 3 = nI k) (hne : x0 ≠ c) (hH : H < 1000) (hkH : k ≤ H) (a b d e : Int32) :
    fX7_add G x0 a b d e M = if k < H then some (nI (k + 1), n_up (n_up (n_up (n_up M c (3 * k) a) c (3 * k + 1) b) c (3 * k + 2) d) x0 3 (nI (k + 1))) else some (-1, M) := by
  have hb : Nat.beq (n_kd G x0) 7 = true := by rw [hk]; rfl
  obtain ⟨h1, h2⟩ := hw
  unfold fX7_add fX7_write
  by_cases hlt : k < H
  · have c1 : nI k < nI H := nI_lt hlt (by omega)
    have c2 : ¬ nI k < 0 := nI_pos (by omega)
    have c3 : nI k * nI 3 = nI (3 * k) := by rw [pk_mul, Nat.mul_comm]
    have c3' : nI (3 * k) + 2 = nI (3 * k + 2) := nI_add (3 * k) 2
    have c4 : n_in G 14 c (nI (3 * k)) = true := n_in_nI hkc hl (by omega) (by omega)
    have c4' : n_in G 14 c (nI (3 * k + 1)) = true := n_in_nI hkc hl (by omega) (by omega)
    have c4'' : n_in G 14 c (nI (3 * k + 2)) = true := n_in_nI hkc hl (by omega) (by omega)
    have c5 : n_up M c (3 * k) a x0 1 = nI 3 := by rw [n_up_ne hne]; exact h1
    have c5' : n_up (n_up M c (3 * k) a) c (3 * k + 1) b x0 1 = nI 3 := by rw [n_up_ne hne]; exact c5
    have c5'' : n_up (n_up (n_up M c (3 * k) a) c (3 * k + 1) b) c (3 * k + 2) d x0 1 = nI 3 := by rw [n_up_ne hne]; exact c5'
    have c6 : n_up (n_up (n_up M c (3 * k) a) c (3 * k + 1) b) c (3 * k + 2) d x0 3 = nI k := by rw [n_up_ne hne, n_up_ne hne, n_up_ne hne]; exact h3
    have c7 : ¬ (nI 3 ≤ (1 : Int32)) := by decide
    have c8 : ¬ (nI 3 ≤ (2 : Int32)) := by decide
    have c9 : (nI 3 ≤ (3 : Int32)) := by decide
    simp only [hb, h1, h2, h3, hm, c1, c2, c3, c3', c4, c4', c4'', c5, c5', c5'', c6, c7, c8, c9, hlt, n_chk, Bool.and_self, Option.bind_some, nI_clamp (show 3 * k < 2 ^ 31 by omega), nI_clamp (show 3 * k + 1 < 2 ^ 31 by omega), nI_clamp (show 3 * k + 2 < 2 ^ 31 by omega), fX7_write_47, fX7_write_66, n_up_eq, upd_eq, nI_1, wp_bind, wp_some, wp_chk, ↓reduceIte, not_true_eq_false, not_false_eq_true, z10, z01, zm0, z0m, zm1, z1m, true_and, and_true, cb_t, cb_f, cb0, cb1, eq_self, Bool.false_eq_true, Bool.true_eq_false, reduceCtorEq]
  · have c1 : ¬ nI k < nI H := nI_nlt (by omega) (by omega)
    simp only [hb, h2, h3, c1, hlt, n_chk, wp_bind, wp_some, wp_chk, ↓reduceIte, not_true_eq_false, not_false_eq_true, z10, z01, zm0, z0m, zm1, z1m, true_and, and_true, cb_t, cb_f, cb0, cb1, eq_self, Bool.false_eq_true, Bool.true_eq_false, reduceCtorEq]
theorem l_snoc {α : Type} {ps : List α} {y : α} {P : Nat → α → Prop} (h : ∀ (i : Nat) (x : α), ps[i]? = some x → P i x) (hy : P ps.length y) : ∀ (i : Nat) (x : α), (ps ++ [y])[i]? = some x → P i x := by
  intro i x hx
  by_cases hi : i < ps.length
  · rw [List.getElem?_append_left hi] at hx
    exact h i x hx
  · rw [List.getElem?_append_right (by omega)] at hx
    by_cases he : i = ps.length
    · subst he
      simp at hx
      rw [← hx]
      exact hy
    · rw [List.getElem?_eq_none (by simp; omega)] at hx
      cases hx
theorem l_lt {α : Type} {ps : List α} {i : Nat} {x : α} (h : ps[i]? = some x) : i < ps.length := (List.getElem?_eq_some_iff.mp h).1
theorem r_one_add {most lo hi : Nat} {cnt mc : Int32} {cells a : Nat → Int32} {k v : Nat} (h : r_one most lo hi cnt cells mc a) (hc : cnt = nI k) (hk : k < most) (hm : most < 1000) (h1 : lo ≤ v) (h2 : v ≤ hi) : r_one most lo hi (nI (k + 1)) (upd cells k (nI v)) (nI (k + 1)) (upd a k (nI v)) := by
  obtain ⟨ps, p1, p2, p3, p4⟩ := h
  have hlen : ps.length = k := by
    rw [p2] at hc
    exact (nI_eq (by omega) (by omega)).mp hc
  refine ⟨ps ++ [v], by simp; omega, by simp [hlen], by simp [hlen], l_snoc (fun i x hx => ?_) ?_⟩
  · have := l_lt hx
    rw [upd_ne (by omega), upd_ne (by omega)]
    exact p4 i x hx
  · rw [hlen]
    exact ⟨h1, h2, upd_eq, upd_eq⟩
theorem r_one_cnt {most lo hi : Nat} {cnt mc : Int32} {cells a : Nat → Int32} (h : r_one most lo hi cnt cells mc a) : ∃ k : Nat, k ≤ most ∧ cnt = nI k ∧ mc = nI k := by
  obtain ⟨ps, p1, p2, p3, p4⟩ := h
  exact ⟨ps.length, p1, p2, p3⟩
theorem r_one_0 {most lo hi : Nat} {cells a : Nat → Int32} : r_one most lo hi 0 cells 0 a := ⟨[], by simp, rfl, rfl, fun i x hx => by simp at hx⟩
theorem st_pick {G : nG} {M : nM} {n q : Nat} (hG : n_GOK G) (h : Rel G M n q) (x : Int32) : Stq G (fX11_pick G x) (fX12_pick x) M := by
  obtain ⟨⟨hst, hmv, hbk, hlw, hsp, hcu, hli, hsw, hpk, hbx, hky, hcl, hsh, hrw, hgf, hmi⟩, hpr, hrd, hck, hwd, him⟩ := id h
  obtain ⟨k, hk, e1, e2⟩ := r_one_cnt hpk
  have hwm : r_wm (M 31 1) (M 31 2) 1 4 := hck.2.2.2.2.2.2.2.1
  unfold Stq fX11_pick fX12_pick
  by_cases h0 : x = -1
  · simp only [h0, e_clear (gk31 hG), wp_bind, wp_some, wp_chk, ↓reduceIte, not_true_eq_false, not_false_eq_true, z10, z01, zm0, z0m, zm1, z1m, true_and, and_true, cb_t, cb_f, cb0, cb1, eq_self, Bool.false_eq_true, Bool.true_eq_false, reduceCtorEq]
    exact ⟨n, q, ⟨⟨hst, hmv, hbk, hlw, hsp, hcu, hli, hsw, r_one_0, hbx, hky, hcl, hsh, hrw, hgf, hmi⟩, hpr, hrd, hck, hwd, him⟩⟩
  · cases hw : wi x 0 2 with
    | false =>
      simp only [h0, e_within, e_isIn, hw, wp_bind, wp_some, wp_chk, ↓reduceIte, not_true_eq_false, not_false_eq_true, z10, z01, zm0, z0m, zm1, z1m, true_and, and_true, cb_t, cb_f, cb0, cb1, eq_self, Bool.false_eq_true, Bool.true_eq_false, reduceCtorEq]
      exact ⟨n, q, h⟩
    | true =>
      obtain ⟨v, hv, rfl⟩ := wi_nI (n := 2) (by decide) hw
      simp only [h0, e_within, e_isIn, hw, e_add1 (gk31 hG) (gm31_0 hG) (gk32 hG) (gl32 hG) hwm e1 (by decide) (by decide) hk, wp_bind, wp_some, wp_chk, ↓reduceIte, not_true_eq_false, not_false_eq_true, z10, z01, zm0, z0m, zm1, z1m, true_and, and_true, cb_t, cb_f, cb0, cb1, eq_self, Bool.false_eq_true, Bool.true_eq_false, reduceCtorEq]
      by_cases hlt : k < 4
      · have f1 : n_up (n_up (n_up M 32 k (nI v)) 31 3 (nI (k + 1))) 107 0 0 107 49 = nI k := e2
        have f2 : ¬ nI k = 4 := fun e => by have := (nI_eq (b := 4) (by omega) (by decide)).mp e; omega
        simp only [hlt, f1, f2, n_ib_nI hlt (show 4 < 2 ^ 31 by decide), nI_clamp (show k < 2 ^ 31 by omega), wp_bind, wp_some, wp_chk, ↓reduceIte, not_true_eq_false, not_false_eq_true, z10, z01, zm0, z0m, zm1, z1m, true_and, and_true, cb_t, cb_f, cb0, cb1, eq_self, Bool.false_eq_true, Bool.true_eq_false, reduceCtorEq]
        have f3 : n_up (n_up (n_up (n_up M 32 k (nI v)) 31 3 (nI (k + 1))) 107 0 0) 135 k (nI v) 107 49 = nI k := e2
        simp only [f3, nI_1, n_up_eq, upd_eq, wp_bind, wp_some, wp_chk, ↓reduceIte, not_true_eq_false, not_false_eq_true, z10, z01, zm0, z0m, zm1, z1m, true_and, and_true, cb_t, cb_f, cb0, cb1, eq_self, Bool.false_eq_true, Bool.true_eq_false, reduceCtorEq]
        exact ⟨n, q, ⟨⟨hst, hmv, hbk, hlw, hsp, hcu, hli, hsw, r_one_add hpk e1 hlt (by decide) (Nat.zero_le _) hv, hbx, hky, hcl, hsh, hrw, hgf, hmi⟩, hpr, hrd, hck, hwd, him⟩⟩
      · have hk4 : k = 4 := by omega
        have f1 : n_up M 107 0 0 107 49 = 4 := by rw [show n_up M 107 0 0 107 49 = M 107 49 from rfl, e2, hk4]; rfl
        simp only [hlt, f1, wp_bind, wp_some, wp_chk, ↓reduceIte, not_true_eq_false, not_false_eq_true, z10, z01, zm0, z0m, zm1, z1m, true_and, and_true, cb_t, cb_f, cb0, cb1, eq_self, Bool.false_eq_true, Bool.true_eq_false, reduceCtorEq]
        exact ⟨n, q, h⟩
theorem st_share {G : nG} {M : nM} {n q : Nat} (hG : n_GOK G) (h : Rel G M n q) (x : Int32) : Stq G (fX11_share G x) (fX12_share x) M := by
  obtain ⟨⟨hst, hmv, hbk, hlw, hsp, hcu, hli, hsw, hpk, hbx, hky, hcl, hsh, hrw, hgf, hmi⟩, hpr, hrd, hck, hwd, him⟩ := id h
  obtain ⟨k, hk, e1, e2⟩ := r_one_cnt hsh
  have hwm : r_wm (M 39 1) (M 39 2) 1 6 := hck.2.2.2.2.2.2.2.2.2.2.2.1
  unfold Stq fX11_share fX12_share
  by_cases h0 : x = -1
  · simp only [h0, e_clear (gk39 hG), wp_bind, wp_some, wp_chk, ↓reduceIte, not_true_eq_false, not_false_eq_true, z10, z01, zm0, z0m, zm1, z1m, true_and, and_true, cb_t, cb_f, cb0, cb1, eq_self, Bool.false_eq_true, Bool.true_eq_false, reduceCtorEq]
    exact ⟨n, q, ⟨⟨hst, hmv, hbk, hlw, hsp, hcu, hli, hsw, hpk, hbx, hky, hcl, r_one_0, hrw, hgf, hmi⟩, hpr, hrd, hck, hwd, him⟩⟩
  · cases hw : wi x 1 30 with
    | false =>
      simp only [h0, e_within, e_isIn, hw, wp_bind, wp_some, wp_chk, ↓reduceIte, not_true_eq_false, not_false_eq_true, z10, z01, zm0, z0m, zm1, z1m, true_and, and_true, cb_t, cb_f, cb0, cb1, eq_self, Bool.false_eq_true, Bool.true_eq_false, reduceCtorEq]
      exact ⟨n, q, h⟩
    | true =>
      obtain ⟨v, hv1, hv, rfl⟩ := wi_nI1 (n := 30) (by decide) hw
      simp only [h0, e_within, e_isIn, hw, e_add1 (gk39 hG) (gm39_0 hG) (gk40 hG) (gl40 hG) hwm e1 (by decide) (by decide) hk, wp_bind, wp_some, wp_chk, ↓reduceIte, not_true_eq_false, not_false_eq_true, z10, z01, zm0, z0m, zm1, z1m, true_and, and_true, cb_t, cb_f, cb0, cb1, eq_self, Bool.false_eq_true, Bool.true_eq_false, reduceCtorEq]
      by_cases hlt : k < 6
      · have f1 : n_up (n_up (n_up M 40 k (nI v)) 39 3 (nI (k + 1))) 107 0 0 107 70 = nI k := e2
        have f2 : ¬ nI k = 6 := fun e => by have := (nI_eq (b := 6) (by omega) (by decide)).mp e; omega
        simp only [hlt, f1, f2, n_ib_nI hlt (show 6 < 2 ^ 31 by decide), nI_clamp (show k < 2 ^ 31 by omega), wp_bind, wp_some, wp_chk, ↓reduceIte, not_true_eq_false, not_false_eq_true, z10, z01, zm0, z0m, zm1, z1m, true_and, and_true, cb_t, cb_f, cb0, cb1, eq_self, Bool.false_eq_true, Bool.true_eq_false, reduceCtorEq]
        have f3 : n_up (n_up (n_up (n_up M 40 k (nI v)) 39 3 (nI (k + 1))) 107 0 0) 148 k (nI v) 107 70 = nI k := e2
        simp only [f3, nI_1, n_up_eq, upd_eq, wp_bind, wp_some, wp_chk, ↓reduceIte, not_true_eq_false, not_false_eq_true, z10, z01, zm0, z0m, zm1, z1m, true_and, and_true, cb_t, cb_f, cb0, cb1, eq_self, Bool.false_eq_true, Bool.true_eq_false, reduceCtorEq]
        exact ⟨n, q, ⟨⟨hst, hmv, hbk, hlw, hsp, hcu, hli, hsw, hpk, hbx, hky, hcl, r_one_add hsh e1 hlt (by decide) hv1 hv, hrw, hgf, hmi⟩, hpr, hrd, hck, hwd, him⟩⟩
      · have hk4 : k = 6 := by omega
        have f1 : n_up M 107 0 0 107 70 = 6 := by rw [show n_up M 107 0 0 107 70 = M 107 70 from rfl, e2, hk4]; rfl
        simp only [hlt, f1, wp_bind, wp_some, wp_chk, ↓reduceIte, not_true_eq_false, not_false_eq_true, z10, z01, zm0, z0m, zm1, z1m, true_and, and_true, cb_t, cb_f, cb0, cb1, eq_self, Bool.false_eq_true, Bool.true_eq_false, reduceCtorEq]
        exact ⟨n, q, h⟩
theorem st_row {G : nG} {M : nM} {n q : Nat} (hG : n_GOK G) (h : Rel G M n q) (x : Int32) : Stq G (fX11_row G x) (fX12_row x) M := by
  obtain ⟨⟨hst, hmv, hbk, hlw, hsp, hcu, hli, hsw, hpk, hbx, hky, hcl, hsh, hrw, hgf, hmi⟩, hpr, hrd, hck, hwd, him⟩ := id h
  obtain ⟨k, hk, e1, e2⟩ := r_one_cnt hrw
  have hwm : r_wm (M 41 1) (M 41 2) 1 5 := hck.2.2.2.2.2.2.2.2.2.2.2.2.1
  unfold Stq fX11_row fX12_row
  by_cases h0 : x = -1
  · simp only [h0, e_clear (gk41 hG), wp_bind, wp_some, wp_chk, ↓reduceIte, not_true_eq_false, not_false_eq_true, z10, z01, zm0, z0m, zm1, z1m, true_and, and_true, cb_t, cb_f, cb0, cb1, eq_self, Bool.false_eq_true, Bool.true_eq_false, reduceCtorEq]
    exact ⟨n, q, ⟨⟨hst, hmv, hbk, hlw, hsp, hcu, hli, hsw, hpk, hbx, hky, hcl, hsh, r_one_0, hgf, hmi⟩, hpr, hrd, hck, hwd, him⟩⟩
  · cases hw : wi x 0 30 with
    | false =>
      simp only [h0, e_within, e_isIn, hw, wp_bind, wp_some, wp_chk, ↓reduceIte, not_true_eq_false, not_false_eq_true, z10, z01, zm0, z0m, zm1, z1m, true_and, and_true, cb_t, cb_f, cb0, cb1, eq_self, Bool.false_eq_true, Bool.true_eq_false, reduceCtorEq]
      exact ⟨n, q, h⟩
    | true =>
      obtain ⟨v, hv, rfl⟩ := wi_nI (n := 30) (by decide) hw
      simp only [h0, e_within, e_isIn, hw, e_add1 (gk41 hG) (gm41_0 hG) (gk42 hG) (gl42 hG) hwm e1 (by decide) (by decide) hk, wp_bind, wp_some, wp_chk, ↓reduceIte, not_true_eq_false, not_false_eq_true, z10, z01, zm0, z0m, zm1, z1m, true_and, and_true, cb_t, cb_f, cb0, cb1, eq_self, Bool.false_eq_true, Bool.true_eq_false, reduceCtorEq]
      by_cases hlt : k < 5
      · have f1 : n_up (n_up (n_up M 42 k (nI v)) 41 3 (nI (k + 1))) 107 0 0 107 72 = nI k := e2
        have f2 : ¬ nI k = 5 := fun e => by have := (nI_eq (b := 5) (by omega) (by decide)).mp e; omega
        simp only [hlt, f1, f2, n_ib_nI hlt (show 5 < 2 ^ 31 by decide), nI_clamp (show k < 2 ^ 31 by omega), wp_bind, wp_some, wp_chk, ↓reduceIte, not_true_eq_false, not_false_eq_true, z10, z01, zm0, z0m, zm1, z1m, true_and, and_true, cb_t, cb_f, cb0, cb1, eq_self, Bool.false_eq_true, Bool.true_eq_false, reduceCtorEq]
        have f3 : n_up (n_up (n_up (n_up M 42 k (nI v)) 41 3 (nI (k + 1))) 107 0 0) 149 k (nI v) 107 72 = nI k := e2
        simp only [f3, nI_1, n_up_eq, upd_eq, wp_bind, wp_some, wp_chk, ↓reduceIte, not_true_eq_false, not_false_eq_true, z10, z01, zm0, z0m, zm1, z1m, true_and, and_true, cb_t, cb_f, cb0, cb1, eq_self, Bool.false_eq_true, Bool.true_eq_false, reduceCtorEq]
        exact ⟨n, q, ⟨⟨hst, hmv, hbk, hlw, hsp, hcu, hli, hsw, hpk, hbx, hky, hcl, hsh, r_one_add hrw e1 hlt (by decide) (Nat.zero_le _) hv, hgf, hmi⟩, hpr, hrd, hck, hwd, him⟩⟩
      · have hk4 : k = 5 := by omega
        have f1 : n_up M 107 0 0 107 72 = 5 := by rw [show n_up M 107 0 0 107 72 = M 107 72 from rfl, e2, hk4]; rfl
        simp only [hlt, f1, wp_bind, wp_some, wp_chk, ↓reduceIte, not_true_eq_false, not_false_eq_true, z10, z01, zm0, z0m, zm1, z1m, true_and, and_true, cb_t, cb_f, cb0, cb1, eq_self, Bool.false_eq_true, Bool.true_eq_false, reduceCtorEq]
        exact ⟨n, q, h⟩
theorem r_swp_cnt {cnt mc : Int32} {cells a b : Nat → Int32} (h : r_swp cnt cells mc a b) : ∃ k : Nat, k ≤ 16 ∧ cnt = nI k ∧ mc = nI k := by
  obtain ⟨ps, p1, p2, p3, p4⟩ := h
  exact ⟨ps.length, p1, p2, p3⟩
theorem r_swp_add {cnt mc : Int32} {cells a b : Nat → Int32} {k u v : Nat} (h : r_swp cnt cells mc a b) (hc : cnt = nI k) (hk : k < 16) (h1 : u ≤ 9) (h2 : v ≤ 9) (h3 : u ≠ v) : r_swp (nI (k + 1)) (upd (upd cells (2 * k) (nI u)) (2 * k + 1) (nI v)) (nI (k + 1)) (upd a k (nI u)) (upd b k (nI v)) := by
  obtain ⟨ps, p1, p2, p3, p4⟩ := h
  have hlen : ps.length = k := by
    rw [p2] at hc
    exact (nI_eq (by omega) (by omega)).mp hc
  refine ⟨ps ++ [(u, v)], by simp; omega, by simp [hlen], by simp [hlen], l_snoc (fun i x hx => ?_) ?_⟩
  · have := l_lt hx
    rw [upd_ne (show 2 * i ≠ 2 * k + 1 by omega), upd_ne (show 2 * i ≠ 2 * k by omega), upd_ne (show 2 * i + 1 ≠ 2 * k + 1 by omega), upd_ne (show 2 * i + 1 ≠ 2 * k by omega), upd_ne (show i ≠ k by omega), upd_ne (show i ≠ k by omega)]
    exact p4 i x hx
  · rw [hlen]
    exact ⟨by show u < 10; omega, by show v < 10; omega, h3, by rw [upd_ne (show 2 * k ≠ 2 * k + 1 by omega)]; exact upd_eq, upd_eq, upd_eq, upd_eq⟩
theorem r_swp_0 {cells a b : Nat → Int32} : r_swp 0 cells 0 a b := ⟨[], by simp, rfl, rfl, fun i x hx => by simp at hx⟩
theorem st_swap {G : nG} {M : nM} {n q : Nat} (hG : n_GOK G) (h : Rel G M n q) (x y : Int32) : Stq G (fX11_swap G x y) (fX12_swap x y) M := by
  obtain ⟨⟨hst, hmv, hbk, hlw, hsp, hcu, hli, hsw, hpk, hbx, hky, hcl, hsh, hrw, hgf, hmi⟩, hpr, hrd, hck, hwd, him⟩ := id h
  obtain ⟨k, hk, e1, e2⟩ := r_swp_cnt hsw
  have hwm : r_wm (M 29 1) (M 29 2) 2 16 := hck.2.2.2.2.2.2.1
  unfold Stq fX11_swap fX12_swap
  by_cases h0 : x = -1
  · simp only [h0, e_clear (gk29 hG), wp_bind, wp_some, wp_chk, ↓reduceIte, not_true_eq_false, not_false_eq_true, z10, z01, zm0, z0m, zm1, z1m, true_and, and_true, cb_t, cb_f, cb0, cb1, eq_self, Bool.false_eq_true, Bool.true_eq_false, reduceCtorEq]
    exact ⟨n, q, ⟨⟨hst, hmv, hbk, hlw, hsp, hcu, hli, r_swp_0, hpk, hbx, hky, hcl, hsh, hrw, hgf, hmi⟩, hpr, hrd, hck, hwd, him⟩⟩
  · cases hw : wi x 0 9 with
    | false =>
      simp only [h0, e_within, e_isIn, hw, wp_bind, wp_some, wp_chk, ↓reduceIte, not_true_eq_false, not_false_eq_true, z10, z01, zm0, z0m, zm1, z1m, true_and, and_true, cb_t, cb_f, cb0, cb1, eq_self, Bool.false_eq_true, Bool.true_eq_false, reduceCtorEq]
      exact ⟨n, q, h⟩
    | true =>
      cases hw2 : wi y 0 9 with
      | false =>
        simp only [h0, e_within, e_isIn, hw, hw2, wp_bind, wp_some, wp_chk, ↓reduceIte, not_true_eq_false, not_false_eq_true, z10, z01, zm0, z0m, zm1, z1m, true_and, and_true, cb_t, cb_f, cb0, cb1, eq_self, Bool.false_eq_true, Bool.true_eq_false, reduceCtorEq]
        exact ⟨n, q, h⟩
      | true =>
        by_cases hxy : x = y
        · subst hxy
          simp only [h0, e_within, e_isIn, hw, wp_bind, wp_some, wp_chk, ↓reduceIte, not_true_eq_false, not_false_eq_true, z10, z01, zm0, z0m, zm1, z1m, true_and, and_true, cb_t, cb_f, cb0, cb1, eq_self, Bool.false_eq_true, Bool.true_eq_false, reduceCtorEq]
          exact ⟨n, q, h⟩
        · obtain ⟨u, hu, rfl⟩ := wi_nI (n := 9) (by decide) hw
          obtain ⟨v, hv, rfl⟩ := wi_nI (n := 9) (by decide) hw2
          simp only [h0, e_within, e_isIn, hw, hw2, hxy, e_add2 (H := 16) (gk29 hG) (gm29_0 hG) (gk30 hG) (gl30 hG) hwm e1 (by decide) (by decide) hk, wp_bind, wp_some, wp_chk, ↓reduceIte, not_true_eq_false, not_false_eq_true, z10, z01, zm0, z0m, zm1, z1m, true_and, and_true, cb_t, cb_f, cb0, cb1, eq_self, Bool.false_eq_true, Bool.true_eq_false, reduceCtorEq]
          by_cases hlt : k < 16
          · have f2 : ¬ nI k = 16 := fun e => by have := (nI_eq (b := 16) (by omega) (by decide)).mp e; omega
            simp only [hlt, wp_bind, wp_some, wp_chk, ↓reduceIte, not_true_eq_false, not_false_eq_true, z10, z01, zm0, z0m, zm1, z1m, true_and, and_true, cb_t, cb_f, cb0, cb1, eq_self, Bool.false_eq_true, Bool.true_eq_false, reduceCtorEq]
            have f1 : n_up (n_up (n_up (n_up M 30 (2 * k) (nI u)) 30 (2 * k + 1) (nI v)) 29 3 (nI (k + 1))) 107 0 0 107 46 = nI k := e2
            simp only [f1, f2, n_ib_nI hlt (show 16 < 2 ^ 31 by decide), nI_clamp (show k < 2 ^ 31 by omega), wp_bind, wp_some, wp_chk, ↓reduceIte, not_true_eq_false, not_false_eq_true, z10, z01, zm0, z0m, zm1, z1m, true_and, and_true, cb_t, cb_f, cb0, cb1, eq_self, Bool.false_eq_true, Bool.true_eq_false, reduceCtorEq]
            have f3 : n_up (n_up (n_up (n_up (n_up M 30 (2 * k) (nI u)) 30 (2 * k + 1) (nI v)) 29 3 (nI (k + 1))) 107 0 0) 133 k (nI u) 107 46 = nI k := e2
            simp only [f3, n_ib_nI hlt (show 16 < 2 ^ 31 by decide), nI_clamp (show k < 2 ^ 31 by omega), wp_bind, wp_some, wp_chk, ↓reduceIte, not_true_eq_false, not_false_eq_true, z10, z01, zm0, z0m, zm1, z1m, true_and, and_true, cb_t, cb_f, cb0, cb1, eq_self, Bool.false_eq_true, Bool.true_eq_false, reduceCtorEq]
            have f4 : n_up (n_up (n_up (n_up (n_up (n_up M 30 (2 * k) (nI u)) 30 (2 * k + 1) (nI v)) 29 3 (nI (k + 1))) 107 0 0) 133 k (nI u)) 134 k (nI v) 107 46 = nI k := e2
            simp only [f4, nI_1, n_up_eq, upd_eq, wp_bind, wp_some, wp_chk, ↓reduceIte, not_true_eq_false, not_false_eq_true, z10, z01, zm0, z0m, zm1, z1m, true_and, and_true, cb_t, cb_f, cb0, cb1, eq_self, Bool.false_eq_true, Bool.true_eq_false, reduceCtorEq]
            exact ⟨n, q, ⟨⟨hst, hmv, hbk, hlw, hsp, hcu, hli, r_swp_add hsw e1 hlt hu hv (fun e => hxy (by rw [e])), hpk, hbx, hky, hcl, hsh, hrw, hgf, hmi⟩, hpr, hrd, hck, hwd, him⟩⟩
          · have hk4 : k = 16 := by omega
            have f1 : n_up M 107 0 0 107 46 = 16 := by rw [show n_up M 107 0 0 107 46 = M 107 46 from rfl, e2, hk4]; rfl
            simp only [hlt, f1, wp_bind, wp_some, wp_chk, ↓reduceIte, not_true_eq_false, not_false_eq_true, z10, z01, zm0, z0m, zm1, z1m, true_and, and_true, cb_t, cb_f, cb0, cb1, eq_self, Bool.false_eq_true, Bool.true_eq_false, reduceCtorEq]
            exact ⟨n, q, h⟩
theorem r_box_cnt {cnt mc : Int32} {cells a b : Nat → Int32} (h : r_box cnt cells mc a b) : ∃ k : Nat, k ≤ 8 ∧ cnt = nI k ∧ mc = nI k := by
  obtain ⟨ps, p1, p2, p3, p4⟩ := h
  exact ⟨ps.length, p1, p2, p3⟩
theorem r_box_add {cnt mc : Int32} {cells a b : Nat → Int32} {k u v : Nat} (h : r_box cnt cells mc a b) (hc : cnt = nI k) (hk : k < 8) (h1 : 1 ≤ u ∧ u ≤ 30) (h2 : 1 ≤ v ∧ v ≤ 30) : r_box (nI (k + 1)) (upd (upd cells (2 * k) (nI u)) (2 * k + 1) (nI v)) (nI (k + 1)) (upd a k (nI v)) (upd b k (nI u)) := by
  obtain ⟨ps, p1, p2, p3, p4⟩ := h
  have hlen : ps.length = k := by
    rw [p2] at hc
    exact (nI_eq (by omega) (by omega)).mp hc
  refine ⟨ps ++ [(u, v)], by simp; omega, by simp [hlen], by simp [hlen], l_snoc (fun i x hx => ?_) ?_⟩
  · have := l_lt hx
    rw [upd_ne (show 2 * i ≠ 2 * k + 1 by omega), upd_ne (show 2 * i ≠ 2 * k by omega), upd_ne (show 2 * i + 1 ≠ 2 * k + 1 by omega), upd_ne (show 2 * i + 1 ≠ 2 * k by omega), upd_ne (show i ≠ k by omega), upd_ne (show i ≠ k by omega)]
    exact p4 i x hx
  · rw [hlen]
    exact ⟨h1.1, h1.2, h2.1, h2.2, by rw [upd_ne (show 2 * k ≠ 2 * k + 1 by omega)]; exact upd_eq, upd_eq, upd_eq, upd_eq⟩
theorem r_box_0 {cells a b : Nat → Int32} : r_box 0 cells 0 a b := ⟨[], by simp, rfl, rfl, fun i x hx => by simp at hx⟩
theorem e_mm {u v : Nat} (hu : u ≤ 30) (hv : v ≤ 30) (M : nM) : ∃ a b : Nat, ((a = u ∨ a = v) ∧ (b = u ∨ b = v)) ∧ (if nI v < nI u then nI v else nI u) = nI a ∧ (if nI u < nI v then nI v else nI u) = nI b ∧ (∀ M, fX12_greater (nI u) (nI v) M = some (nI b, M)) ∧ ∀ M, fX12_lesser (nI u) (nI v) M = some (nI a, M) := by
  unfold fX12_greater fX12_lesser
  rcases Nat.lt_trichotomy u v with h | h | h
  · have a1 : nI u < nI v := nI_lt h (by omega)
    have a2 : ¬ nI v < nI u := nI_nlt (by omega) (by omega)
    have a3 : nI u ≤ nI v := nI_le (by omega) (by omega)
    have a4 : ¬ nI v ≤ nI u := nI_ge h (by omega)
    exact ⟨u, v, ⟨Or.inl rfl, Or.inr rfl⟩, by rw [if_neg a2], by rw [if_pos a1], fun M => by rw [if_pos a3], fun M => by rw [if_neg a4]⟩
  · subst h
    have a2 : ¬ nI u < nI u := nI_nlt (by omega) (by omega)
    have a3 : nI u ≤ nI u := nI_le (by omega) (by omega)
    exact ⟨u, u, ⟨Or.inl rfl, Or.inr rfl⟩, by rw [if_neg a2], by rw [if_neg a2], fun M => by rw [if_pos a3], fun M => by rw [if_pos a3]⟩
  · have a1 : nI v < nI u := nI_lt h (by omega)
    have a2 : ¬ nI u < nI v := nI_nlt (by omega) (by omega)
    have a3 : nI v ≤ nI u := nI_le (by omega) (by omega)
    have a4 : ¬ nI u ≤ nI v := nI_ge h (by omega)
    exact ⟨v, u, ⟨Or.inr rfl, Or.inl rfl⟩, by rw [if_pos a1], by rw [if_neg a2], fun M => by rw [if_neg a4], fun M => by rw [if_pos a3]⟩
theorem st_box {G : nG} {M : nM} {n q : Nat} (hG : n_GOK G) (h : Rel G M n q) (x y : Int32) : Stq G (fX11_box G x y) (fX12_box x y) M := by
  obtain ⟨⟨hst, hmv, hbk, hlw, hsp, hcu, hli, hsw, hpk, hbx, hky, hcl, hsh, hrw, hgf, hmi⟩, hpr, hrd, hck, hwd, him⟩ := id h
  obtain ⟨k, hk, e1, e2⟩ := r_box_cnt hbx
  have hwm : r_wm (M 33 1) (M 33 2) 2 8 := hck.2.2.2.2.2.2.2.2.1
  unfold Stq fX11_box fX12_box
  by_cases h0 : x = -1
  · simp only [h0, e_clear (gk33 hG), wp_bind, wp_some, wp_chk, ↓reduceIte, not_true_eq_false, not_false_eq_true, z10, z01, zm0, z0m, zm1, z1m, true_and, and_true, cb_t, cb_f, cb0, cb1, eq_self, Bool.false_eq_true, Bool.true_eq_false, reduceCtorEq]
    exact ⟨n, q, ⟨⟨hst, hmv, hbk, hlw, hsp, hcu, hli, hsw, hpk, r_box_0, hky, hcl, hsh, hrw, hgf, hmi⟩, hpr, hrd, hck, hwd, him⟩⟩
  · cases hw : wi x 1 30 with
    | false =>
      simp only [h0, e_within, e_isIn, hw, wp_bind, wp_some, wp_chk, ↓reduceIte, not_true_eq_false, not_false_eq_true, z10, z01, zm0, z0m, zm1, z1m, true_and, and_true, cb_t, cb_f, cb0, cb1, eq_self, Bool.false_eq_true, Bool.true_eq_false, reduceCtorEq]
      exact ⟨n, q, h⟩
    | true =>
      cases hw2 : wi y 1 30 with
      | false =>
        simp only [h0, e_within, e_isIn, hw, hw2, wp_bind, wp_some, wp_chk, ↓reduceIte, not_true_eq_false, not_false_eq_true, z10, z01, zm0, z0m, zm1, z1m, true_and, and_true, cb_t, cb_f, cb0, cb1, eq_self, Bool.false_eq_true, Bool.true_eq_false, reduceCtorEq]
        exact ⟨n, q, h⟩
      | true =>
        obtain ⟨u, hu1, hu, rfl⟩ := wi_nI1 (n := 30) (by decide) hw
        obtain ⟨v, hv1, hv, rfl⟩ := wi_nI1 (n := 30) (by decide) hw2
        obtain ⟨a, b, ⟨ga, gb⟩, g1, g2, g3, g4⟩ := e_mm hu hv M
        have ra : 1 ≤ a ∧ a ≤ 30 := by rcases ga with rfl | rfl <;> omega
        have rb : 1 ≤ b ∧ b ≤ 30 := by rcases gb with rfl | rfl <;> omega
        simp only [h0, e_within, e_isIn, hw, hw2, g1, g2, e_add2 (H := 8) (gk33 hG) (gm33_0 hG) (gk34 hG) (gl34 hG) hwm e1 (by decide) (by decide) hk, wp_bind, wp_some, wp_chk, ↓reduceIte, not_true_eq_false, not_false_eq_true, z10, z01, zm0, z0m, zm1, z1m, true_and, and_true, cb_t, cb_f, cb0, cb1, eq_self, Bool.false_eq_true, Bool.true_eq_false, reduceCtorEq]
        by_cases hlt : k < 8
        · have f2 : ¬ nI k = 8 := fun e => by have := (nI_eq (b := 8) (by omega) (by decide)).mp e; omega
          simp only [hlt, wp_bind, wp_some, wp_chk, ↓reduceIte, not_true_eq_false, not_false_eq_true, z10, z01, zm0, z0m, zm1, z1m, true_and, and_true, cb_t, cb_f, cb0, cb1, eq_self, Bool.false_eq_true, Bool.true_eq_false, reduceCtorEq]
          have f1 : n_up (n_up (n_up (n_up M 34 (2 * k) (nI a)) 34 (2 * k + 1) (nI b)) 33 3 (nI (k + 1))) 107 0 0 107 51 = nI k := e2
          simp only [f1, f2, g3, n_ib_nI hlt (show 8 < 2 ^ 31 by decide), nI_clamp (show k < 2 ^ 31 by omega), wp_bind, wp_some, wp_chk, ↓reduceIte, not_true_eq_false, not_false_eq_true, z10, z01, zm0, z0m, zm1, z1m, true_and, and_true, cb_t, cb_f, cb0, cb1, eq_self, Bool.false_eq_true, Bool.true_eq_false, reduceCtorEq]
          have f3 : n_up (n_up (n_up (n_up (n_up M 34 (2 * k) (nI a)) 34 (2 * k + 1) (nI b)) 33 3 (nI (k + 1))) 107 0 0) 136 k (nI b) 107 51 = nI k := e2
          simp only [f3, g4, n_ib_nI hlt (show 8 < 2 ^ 31 by decide), nI_clamp (show k < 2 ^ 31 by omega), wp_bind, wp_some, wp_chk, ↓reduceIte, not_true_eq_false, not_false_eq_true, z10, z01, zm0, z0m, zm1, z1m, true_and, and_true, cb_t, cb_f, cb0, cb1, eq_self, Bool.false_eq_true, Bool.true_eq_false, reduceCtorEq]
          have f4 : n_up (n_up (n_up (n_up (n_up (n_up M 34 (2 * k) (nI a)) 34 (2 * k + 1) (nI b)) 33 3 (nI (k + 1))) 107 0 0) 136 k (nI b)) 137 k (nI a) 107 51 = nI k := e2
          simp only [f4, nI_1, n_up_eq, upd_eq, wp_bind, wp_some, wp_chk, ↓reduceIte, not_true_eq_false, not_false_eq_true, z10, z01, zm0, z0m, zm1, z1m, true_and, and_true, cb_t, cb_f, cb0, cb1, eq_self, Bool.false_eq_true, Bool.true_eq_false, reduceCtorEq]
          exact ⟨n, q, ⟨⟨hst, hmv, hbk, hlw, hsp, hcu, hli, hsw, hpk, r_box_add hbx e1 hlt ra rb, hky, hcl, hsh, hrw, hgf, hmi⟩, hpr, hrd, hck, hwd, him⟩⟩
        · have hk4 : k = 8 := by omega
          have f1 : n_up M 107 0 0 107 51 = 8 := by rw [show n_up M 107 0 0 107 51 = M 107 51 from rfl, e2, hk4]; rfl
          simp only [hlt, f1, wp_bind, wp_some, wp_chk, ↓reduceIte, not_true_eq_false, not_false_eq_true, z10, z01, zm0, z0m, zm1, z1m, true_and, and_true, cb_t, cb_f, cb0, cb1, eq_self, Bool.false_eq_true, Bool.true_eq_false, reduceCtorEq]
          exact ⟨n, q, h⟩
theorem r_clu_cnt {cnt mc : Int32} {cells a b s : Nat → Int32} (h : r_clu cnt cells mc a b s) : ∃ k : Nat, k ≤ 10 ∧ cnt = nI k ∧ mc = nI k := by
  obtain ⟨ps, p1, p2, p3, p4⟩ := h
  exact ⟨ps.length, p1, p2, p3⟩
theorem r_clu_add {cnt mc : Int32} {cells a b s : Nat → Int32} {k u v : Nat} {z : Int32} (h : r_clu cnt cells mc a b s) (hc : cnt = nI k) (hk : k < 10) (h1 : u ≤ 7) (h2 : v ≤ 7) (hz : z = 0 ∨ z = 1) : r_clu (nI (k + 1)) (upd (upd (upd cells (3 * k) (nI u)) (3 * k + 1) (nI v)) (3 * k + 2) z) (nI (k + 1)) (upd a k (nI u)) (upd b k (nI v)) (upd s k z) := by
  obtain ⟨ps, p1, p2, p3, p4⟩ := h
  have hlen : ps.length = k := by
    rw [p2] at hc
    exact (nI_eq (by omega) (by omega)).mp hc
  refine ⟨ps ++ [(u, v, decide (z = 1))], by simp; omega, by simp [hlen], by simp [hlen], l_snoc (fun i x hx => ?_) ?_⟩
  · have := l_lt hx
    rw [upd_ne (show 3 * i ≠ 3 * k + 2 by omega), upd_ne (show 3 * i ≠ 3 * k + 1 by omega), upd_ne (show 3 * i ≠ 3 * k by omega), upd_ne (show 3 * i + 1 ≠ 3 * k + 2 by omega), upd_ne (show 3 * i + 1 ≠ 3 * k + 1 by omega), upd_ne (show 3 * i + 1 ≠ 3 * k by omega), upd_ne (show 3 * i + 2 ≠ 3 * k + 2 by omega), upd_ne (show 3 * i + 2 ≠ 3 * k + 1 by omega), upd_ne (show 3 * i + 2 ≠ 3 * k by omega), upd_ne (show i ≠ k by omega), upd_ne (show i ≠ k by omega), upd_ne (show i ≠ k by omega)]
    exact p4 i x hx
  · rw [hlen]
    have ez : z = (if decide (z = 1) = true then 1 else 0) := by rcases hz with rfl | rfl <;> decide
    exact ⟨by show u < 8; omega, by show v < 8; omega, by rw [upd_ne (show 3 * k ≠ 3 * k + 2 by omega), upd_ne (show 3 * k ≠ 3 * k + 1 by omega)]; exact upd_eq, by rw [upd_ne (show 3 * k + 1 ≠ 3 * k + 2 by omega)]; exact upd_eq, by rw [upd_eq]; exact ez, upd_eq, upd_eq, by rw [upd_eq]; exact ez⟩
theorem r_clu_0 {cells a b s : Nat → Int32} : r_clu 0 cells 0 a b s := ⟨[], by simp, rfl, rfl, fun i x hx => by simp at hx⟩
theorem st_clue {G : nG} {M : nM} {n q : Nat} (hG : n_GOK G) (h : Rel G M n q) (x y z : Int32) : Stq G (fX11_clue G x y z) (fX12_clue x y z) M := by
  obtain ⟨⟨hst, hmv, hbk, hlw, hsp, hcu, hli, hsw, hpk, hbx, hky, hcl, hsh, hrw, hgf, hmi⟩, hpr, hrd, hck, hwd, him⟩ := id h
  obtain ⟨k, hk, e1, e2⟩ := r_clu_cnt hcl
  have hwm : r_wm (M 37 1) (M 37 2) 3 10 := hck.2.2.2.2.2.2.2.2.2.2.1
  unfold Stq fX11_clue fX12_clue
  by_cases h0 : x = -1
  · simp only [h0, e_clear (gk37 hG), wp_bind, wp_some, wp_chk, ↓reduceIte, not_true_eq_false, not_false_eq_true, z10, z01, zm0, z0m, zm1, z1m, true_and, and_true, cb_t, cb_f, cb0, cb1, eq_self, Bool.false_eq_true, Bool.true_eq_false, reduceCtorEq]
    exact ⟨n, q, ⟨⟨hst, hmv, hbk, hlw, hsp, hcu, hli, hsw, hpk, hbx, hky, r_clu_0, hsh, hrw, hgf, hmi⟩, hpr, hrd, hck, hwd, him⟩⟩
  · cases hw : wi x 0 7 with
    | false =>
      simp only [h0, e_within, e_isIn, hw, wp_bind, wp_some, wp_chk, ↓reduceIte, not_true_eq_false, not_false_eq_true, z10, z01, zm0, z0m, zm1, z1m, true_and, and_true, cb_t, cb_f, cb0, cb1, eq_self, Bool.false_eq_true, Bool.true_eq_false, reduceCtorEq]
      exact ⟨n, q, h⟩
    | true =>
      cases hw2 : wi y 0 7 with
      | false =>
        simp only [h0, e_within, e_isIn, hw, hw2, wp_bind, wp_some, wp_chk, ↓reduceIte, not_true_eq_false, not_false_eq_true, z10, z01, zm0, z0m, zm1, z1m, true_and, and_true, cb_t, cb_f, cb0, cb1, eq_self, Bool.false_eq_true, Bool.true_eq_false, reduceCtorEq]
        exact ⟨n, q, h⟩
      | true =>
        obtain ⟨u, hu, rfl⟩ := wi_nI (n := 7) (by decide) hw
        obtain ⟨v, hv, rfl⟩ := wi_nI (n := 7) (by decide) hw2
        obtain ⟨s, hs, g1, g2⟩ : ∃ s : Int32, (s = 0 ∨ s = 1) ∧ (∀ M, (if z = 0 then fX11_clue_62 G (0 : Int32) (nI v) (nI u) M else fX11_clue_62 G (1 : Int32) (nI v) (nI u) M) = fX11_clue_62 G s (nI v) (nI u) M) ∧ (∀ i M, (if z = 0 then fX12_clue_87 (0 : Int32) i M else fX12_clue_87 (1 : Int32) i M) = fX12_clue_87 s i M) := by
          by_cases hz : z = 0
          · exact ⟨0, Or.inl rfl, fun M => if_pos hz, fun i M => if_pos hz⟩
          · exact ⟨1, Or.inr rfl, fun M => if_neg hz, fun i M => if_neg hz⟩
        simp only [h0, e_within, e_isIn, hw, hw2, g1, g2, wp_bind, wp_some, wp_chk, ↓reduceIte, not_true_eq_false, not_false_eq_true, z10, z01, zm0, z0m, zm1, z1m, true_and, and_true, cb_t, cb_f, cb0, cb1, eq_self, Bool.false_eq_true, Bool.true_eq_false, reduceCtorEq]
        unfold fX11_clue_62 fX12_clue_87
        simp only [e_add3 (H := 10) (gk37 hG) (gm37_0 hG) (gk38 hG) (gl38 hG) hwm e1 (by decide) (by decide) hk, wp_bind, wp_some, wp_chk, ↓reduceIte, not_true_eq_false, not_false_eq_true, z10, z01, zm0, z0m, zm1, z1m, true_and, and_true, cb_t, cb_f, cb0, cb1, eq_self, Bool.false_eq_true, Bool.true_eq_false, reduceCtorEq]
        by_cases hlt : k < 10
        · have f2 : ¬ nI k = 10 := fun e => by have := (nI_eq (b := 10) (by omega) (by decide)).mp e; omega
          simp only [hlt, wp_bind, wp_some, wp_chk, ↓reduceIte, not_true_eq_false, not_false_eq_true, z10, z01, zm0, z0m, zm1, z1m, true_and, and_true, cb_t, cb_f, cb0, cb1, eq_self, Bool.false_eq_true, Bool.true_eq_false, reduceCtorEq]
          have f1 : n_up (n_up (n_up (n_up (n_up M 38 (3 * k) (nI u)) 38 (3 * k + 1) (nI v)) 38 (3 * k + 2) s) 37 3 (nI (k + 1))) 107 0 0 107 65 = nI k := e2
          simp only [f1, f2, n_ib_nI hlt (show 10 < 2 ^ 31 by decide), nI_clamp (show k < 2 ^ 31 by omega), wp_bind, wp_some, wp_chk, ↓reduceIte, not_true_eq_false, not_false_eq_true, z10, z01, zm0, z0m, zm1, z1m, true_and, and_true, cb_t, cb_f, cb0, cb1, eq_self, Bool.false_eq_true, Bool.true_eq_false, reduceCtorEq]
          have f3 : n_up (n_up (n_up (n_up (n_up (n_up M 38 (3 * k) (nI u)) 38 (3 * k + 1) (nI v)) 38 (3 * k + 2) s) 37 3 (nI (k + 1))) 107 0 0) 144 k (nI u) 107 65 = nI k := e2
          simp only [f3, n_ib_nI hlt (show 10 < 2 ^ 31 by decide), nI_clamp (show k < 2 ^ 31 by omega), wp_bind, wp_some, wp_chk, ↓reduceIte, not_true_eq_false, not_false_eq_true, z10, z01, zm0, z0m, zm1, z1m, true_and, and_true, cb_t, cb_f, cb0, cb1, eq_self, Bool.false_eq_true, Bool.true_eq_false, reduceCtorEq]
          have f4 : n_up (n_up (n_up (n_up (n_up (n_up (n_up M 38 (3 * k) (nI u)) 38 (3 * k + 1) (nI v)) 38 (3 * k + 2) s) 37 3 (nI (k + 1))) 107 0 0) 144 k (nI u)) 145 k (nI v) 107 65 = nI k := e2
          simp only [f4, n_ib_nI hlt (show 10 < 2 ^ 31 by decide), nI_clamp (show k < 2 ^ 31 by omega), wp_bind, wp_some, wp_chk, ↓reduceIte, not_true_eq_false, not_false_eq_true, z10, z01, zm0, z0m, zm1, z1m, true_and, and_true, cb_t, cb_f, cb0, cb1, eq_self, Bool.false_eq_true, Bool.true_eq_false, reduceCtorEq]
          have f5 : n_up (n_up (n_up (n_up (n_up (n_up (n_up (n_up M 38 (3 * k) (nI u)) 38 (3 * k + 1) (nI v)) 38 (3 * k + 2) s) 37 3 (nI (k + 1))) 107 0 0) 144 k (nI u)) 145 k (nI v)) 146 k s 107 65 = nI k := e2
          simp only [f5, nI_1, n_up_eq, upd_eq, wp_bind, wp_some, wp_chk, ↓reduceIte, not_true_eq_false, not_false_eq_true, z10, z01, zm0, z0m, zm1, z1m, true_and, and_true, cb_t, cb_f, cb0, cb1, eq_self, Bool.false_eq_true, Bool.true_eq_false, reduceCtorEq]
          exact ⟨n, q, ⟨⟨hst, hmv, hbk, hlw, hsp, hcu, hli, hsw, hpk, hbx, hky, r_clu_add hcl e1 hlt hu hv hs, hsh, hrw, hgf, hmi⟩, hpr, hrd, hck, hwd, him⟩⟩
        · have hk4 : k = 10 := by omega
          have f1 : n_up M 107 0 0 107 65 = 10 := by rw [show n_up M 107 0 0 107 65 = M 107 65 from rfl, e2, hk4]; rfl
          simp only [hlt, f1, wp_bind, wp_some, wp_chk, ↓reduceIte, not_true_eq_false, not_false_eq_true, z10, z01, zm0, z0m, zm1, z1m, true_and, and_true, cb_t, cb_f, cb0, cb1, eq_self, Bool.false_eq_true, Bool.true_eq_false, reduceCtorEq]
          exact ⟨n, q, h⟩
