/-! ===== text: tokens ===== -/
def tx_wn (b : Nat → Nat) (p e : Nat) : Nat → Nat → Nat
  | 0, _ => 28
  | d + 1, i => if tx_is b p e (tx_ws.getD i (0, 0)) = true then i else tx_wn b p e d (i + 1)
theorem tx_wn_i {b : Nat → Nat} {p e : Nat} : ∀ (d i : Nat), i + d = 28 → tx_wn b p e d i ≤ 28 ∧ tx_wi b p e d i = if tx_wn b p e d i < 28 then nI (tx_wn b p e d i) else -1
  | 0, i, _ => ⟨Nat.le_refl _, rfl⟩
  | d + 1, i, hi => by
    unfold tx_wn tx_wi
    by_cases h : tx_is b p e (tx_ws.getD i (0, 0)) = true
    · rw [if_pos h, if_pos h, if_pos (by omega)]
      exact ⟨by omega, rfl⟩
    · rw [if_neg h, if_neg h]
      exact tx_wn_i d (i + 1) (by omega)
def tx_at (b : Nat → Nat) (k pos : Nat) : Nat := tx_nb b (k - pos) pos
def tx_en (b : Nat → Nat) (k p : Nat) : Nat := if tx_g (b p) = 3 then p + 1 else tx_ge b (tx_g (b p)) (k - (p + 1)) (p + 1)
def tx_nx (b : Nat → Nat) (k pos : Nat) : Nat := if tx_at b k pos < k then tx_en b k (tx_at b k pos) else k
def tx_tg (b : Nat → Nat) (k p : Nat) : Nat := if p < k then (if tx_g (b p) = 1 then (if tx_wn b p (tx_en b k p) 28 0 < 28 then 2 else 1) else if tx_g (b p) = 2 then (if tx_en b k p - p < 5 then 3 else 1) else if tx_mk (b p) = true then 4 else 1) else 0
def tx_vl (b : Nat → Nat) (k p : Nat) : Nat := if tx_g (b p) = 1 then tx_wn b p (tx_en b k p) 28 0 else if tx_g (b p) = 2 then tx_nu b (tx_en b k p - (p + 1)) (p + 1) (b p - 48) else b p
/-- what the model has as the token's value behind it, v before -/
def tx_v (b : Nat → Nat) (k p : Nat) (v : Int32) : Int32 := if p < k then (if tx_g (b p) = 1 then tx_wi b p (tx_en b k p) 28 0 else nI (tx_vl b k p)) else v
theorem tx_at_b {b : Nat → Nat} {k pos : Nat} (h : pos ≤ k) : pos ≤ tx_at b k pos ∧ tx_at b k pos ≤ k ∧ (tx_at b k pos < k → tx_g (b (tx_at b k pos)) ≠ 0) ∧ ∀ i, pos ≤ i → i < tx_at b k pos → tx_g (b i) = 0 := tx_nb_b (k - pos) pos (by omega)
theorem tx_en_b {b : Nat → Nat} {k p : Nat} (h : p < k) : p < tx_en b k p ∧ tx_en b k p ≤ k ∧ (tx_g (b p) ≠ 3 → ∀ i, p ≤ i → i < tx_en b k p → tx_g (b i) = tx_g (b p)) ∧ (tx_g (b p) ≠ 3 → tx_en b k p < k → tx_g (b (tx_en b k p)) ≠ tx_g (b p)) := by
  unfold tx_en
  by_cases e : tx_g (b p) = 3
  · rw [if_pos e]
    exact ⟨by omega, by omega, fun z => absurd e z, fun z => absurd e z⟩
  · rw [if_neg e]
    obtain ⟨a1, a2, a3, a4⟩ := tx_ge_b (b := b) (g := tx_g (b p)) (k := k) (k - (p + 1)) (p + 1) (by omega)
    refine ⟨by omega, a2, fun _ i h1 h2 => ?_, fun _ h1 => a3 h1⟩
    by_cases z : i = p
    · rw [z]
    · exact a4 i (by omega) h2
theorem tx_g0 {x : Nat} : tx_g x = 0 ↔ x = 32 ∨ x = 10 := by
  unfold tx_g
  constructor
  · intro h
    split at h
    · exact absurd h (by decide)
    · split at h
      · exact absurd h (by decide)
      · split at h
        · assumption
        · exact absurd h (by decide)
  · intro h
    rw [if_neg (by omega), if_neg (by omega), if_pos h]
theorem tx_g4 (x : Nat) : tx_g x < 4 := by
  unfold tx_g
  split
  · decide
  · split
    · decide
    · split <;> decide
/-- the model reads a token -/
theorem e_reads {N k : Nat} {b : Nat → Nat} (hN : 1000 ≤ N) : ∀ (d pos f : Nat) (M : nM), pos + d = k → d < f → tx_M b k M → M 107 16 = nI pos → ∃ M' : nM, tx_F M M' ∧ fX12_reads_0 N f M = some ((), M') ∧ M' 107 16 = nI (tx_nx b k pos) ∧ M' 107 17 = nI (tx_at b k pos) ∧ M' 107 18 = nI (tx_tg b k (tx_at b k pos)) ∧ M' 107 19 = tx_v b k (tx_at b k pos) (M 107 19) := by
  intro d
  -- at a sign that is no blank, or at the end
  have at_ : ∀ (pos f : Nat) (M : nM), pos ≤ k → (pos < k → tx_g (b pos) ≠ 0) → tx_M b k M → M 107 16 = nI pos → ∃ M' : nM, tx_F M M' ∧ fX12_reads_0 N (f + 1) M = some ((), M') ∧ M' 107 16 = nI (if pos < k then tx_en b k pos else k) ∧ M' 107 17 = nI pos ∧ M' 107 18 = nI (tx_tg b k pos) ∧ M' 107 19 = tx_v b k pos (M 107 19) := fun pos f M hpk hnb hM h16 => by
    have hk := hM.1
    obtain ⟨K, hK⟩ : ∃ K, K = n_up (n_up M 107 17 (nI pos)) 107 18 (1 : Int32) := ⟨_, rfl⟩
    have FK : tx_F M K := by rw [hK]; exact tx_F_t (tx_F_u (by decide)) (tx_F_u (by decide))
    have K16 : K 107 16 = nI pos := by rw [hK, n_up_eq, upd_ne (by decide), n_up_eq, upd_ne (by decide)]; exact h16
    have K17 : K 107 17 = nI pos := by rw [hK, n_up_eq, upd_ne (by decide), n_up_eq, upd_eq]
    have K18 : K 107 18 = 1 := by rw [hK, n_up_eq, upd_eq]
    have hMK := tx_F_M FK hM
    by_cases hlt : pos < k
    · have hb := hM.2.2.1 pos hlt
      have hg0 := hnb hlt
      have n32 : ¬ nI (b pos) = (32 : Int32) := fun z => hg0 (tx_g0.mpr (Or.inl ((nI_eq (b := 32) (by omega) (by decide)).mp z)))
      have n10 : ¬ nI (b pos) = (10 : Int32) := fun z => hg0 (tx_g0.mpr (Or.inr ((nI_eq (b := 10) (by omega) (by decide)).mp z)))
      obtain ⟨K2, hK2⟩ : ∃ K2, K2 = n_up (n_up K 107 16 (nI (pos + 1))) 107 19 (nI (b pos)) := ⟨_, rfl⟩
      have FK2 : tx_F M K2 := by rw [hK2]; exact tx_F_t FK (tx_F_t (tx_F_u (by decide)) (tx_F_u (by decide)))
      have L16 : K2 107 16 = nI (pos + 1) := by rw [hK2, n_up_eq, upd_ne (by decide), n_up_eq, upd_eq]
      have L17 : K2 107 17 = nI pos := by rw [hK2, n_up_eq, upd_ne (by decide), n_up_eq, upd_ne (by decide)]; exact K17
      have L18 : K2 107 18 = 1 := by rw [hK2, n_up_eq, upd_ne (by decide), n_up_eq, upd_ne (by decide)]; exact K18
      have L19 : K2 107 19 = nI (b pos) := by rw [hK2, n_up_eq, upd_eq]
      have hM2 := tx_F_M FK2 hM
      have ev : fX12_reads_0 N (f + 1) M = (if cb (decide (tx_g (b pos) = 1)) = 0 then (if cb (decide (tx_g (b pos) = 2)) = 0 then (if cb (tx_mk (b pos)) = 0 then some ((), K2) else some ((), n_up K2 107 18 (4 : Int32))) else fX12_reads_171 N N (n_up K2 107 19 (nI (b pos) - (48 : Int32)))) else fX12_reads_95 N N K2) := by
        rw [r0_eq, h16, e_raw hM hpk, if_pos hlt, Option.bind_some, if_neg n32]
        show ((fX12_raw (M 107 16) M).bind _) = _
        rw [h16, e_raw hM hpk, if_pos hlt, Option.bind_some, if_pos n10]
        show ((fX12_raw (n_up (n_up M 107 17 (M 107 16)) 107 18 (1 : Int32) 107 16) (n_up (n_up M 107 17 (M 107 16)) 107 18 (1 : Int32))).bind _) = _
        rw [h16, ← hK, K16, e_raw hMK hpk, if_pos hlt, Option.bind_some, if_pos (nI_nm1 (by omega))]
        show ((fX12_isLetter (nI (b pos)) (n_up (n_up K 107 16 ((K 107 16) + (1 : Int32))) 107 19 (nI (b pos)))).bind _) = _
        rw [K16, nI_1, ← hK2, e_let hb.2, Option.bind_some]
        show (if cb (decide (tx_g (b pos) = 1)) = 0 then ((fX12_isDigit (nI (b pos)) K2).bind _) else fX12_reads_95 N N K2) = _
        rw [e_dig hb.2, Option.bind_some]
        show (if cb (decide (tx_g (b pos) = 1)) = 0 then (if cb (decide (tx_g (b pos) = 2)) = 0 then ((fX12_isMarkSign (nI (b pos)) K2).bind _) else fX12_reads_171 N N (n_up K2 107 19 (nI (b pos) - (48 : Int32)))) else fX12_reads_95 N N K2) = _
        rw [e_mks _ hb.2, Option.bind_some]
      rw [ev, if_pos hlt]
      obtain ⟨en1, en2, en3, en4⟩ := tx_en_b (b := b) hlt
      by_cases g1 : tx_g (b pos) = 1
      · have een : tx_ge b 1 (k - (pos + 1)) (pos + 1) = tx_en b k pos := by
          unfold tx_en
          rw [g1, if_neg (by decide)]
        rw [decide_eq_true g1, if_neg (show ¬ (cb true : Int32) = 0 by decide)]
        obtain ⟨M', m1, m2, m3, m4, m5⟩ := c_r95m (N := N) (b := b) (k - (pos + 1)) (pos + 1) N K2 (by omega) (by omega) hM2 L16
        rw [een] at m2
        have hw := e_wordAt (N := N) (p := pos) (e := tx_en b k pos) (b := b) (M := M') hN (tx_F_M m1 hM2) en2 en1 (fun i h1 h2 => by rw [en3 (by rw [g1]; decide) i h1 h2]; exact g1)
        obtain ⟨w1, w2⟩ := tx_wn_i (b := b) (p := pos) (e := tx_en b k pos) 28 0 rfl
        have et : tx_tg b k pos = if tx_wn b pos (tx_en b k pos) 28 0 < 28 then 2 else 1 := by
          unfold tx_tg
          rw [if_pos hlt, if_pos g1]
        have evl : tx_v b k pos (M 107 19) = tx_wi b pos (tx_en b k pos) 28 0 := by
          unfold tx_v
          rw [if_pos hlt, if_pos g1]
        rw [m5, m3, L17, m2, hw, Option.bind_some]
        show ∃ M'' : nM, _ ∧ (if (n_up M' 107 19 (tx_wi b pos (tx_en b k pos) 28 0) 107 19) = (-1 : Int32) then some ((), n_up M' 107 19 (tx_wi b pos (tx_en b k pos) 28 0)) else some ((), n_up (n_up M' 107 19 (tx_wi b pos (tx_en b k pos) 28 0)) 107 18 (2 : Int32))) = _ ∧ _
        rw [show (n_up M' 107 19 (tx_wi b pos (tx_en b k pos) 28 0) 107 19) = tx_wi b pos (tx_en b k pos) 28 0 by rw [n_up_eq, upd_eq], et, evl, w2]
        generalize tx_wn b pos (tx_en b k pos) 28 0 = W at w1
        by_cases hW : W < 28
        · rw [if_pos hW, if_pos hW, if_neg (nI_nm1 (by omega))]
          refine ⟨_, tx_F_t FK2 (tx_F_t m1 (tx_F_t (tx_F_u (by decide)) (tx_F_u (by decide)))), rfl, ?_, ?_, ?_, ?_⟩
          · rw [n_up_eq, upd_ne (by decide), n_up_eq, upd_ne (by decide)]; exact m2
          · rw [n_up_eq, upd_ne (by decide), n_up_eq, upd_ne (by decide), m3]; exact L17
          · rw [n_up_eq, upd_eq]; rfl
          · rw [n_up_eq, upd_ne (by decide), n_up_eq, upd_eq]
        · rw [if_neg hW, if_neg hW, if_pos rfl]
          refine ⟨_, tx_F_t FK2 (tx_F_t m1 (tx_F_u (by decide))), rfl, ?_, ?_, ?_, by rw [n_up_eq, upd_eq]⟩
          · rw [n_up_eq, upd_ne (by decide)]; exact m2
          · rw [n_up_eq, upd_ne (by decide), m3]; exact L17
          · rw [n_up_eq, upd_ne (by decide), m4]; exact L18
      · rw [decide_eq_false g1, if_pos (show (cb false : Int32) = 0 from rfl)]
        by_cases g2 : tx_g (b pos) = 2
        · have hd := tx_dig g2
          have een : tx_ge b 2 (k - (pos + 1)) (pos + 1) = tx_en b k pos := by
            unfold tx_en
            rw [g2, if_neg (by decide)]
          rw [decide_eq_true g2, if_neg (show ¬ (cb true : Int32) = 0 by decide), show nI (b pos) - (48 : Int32) = nI (b pos - 48) from pk_sub (b := 48) hd.1]
          obtain ⟨M', m1, m2, m3, m4, m5, m6⟩ := c_r171 (N := N) (b := b) (p := pos) (k - (pos + 1)) (pos + 1) N (b pos - 48) (n_up K2 107 19 (nI (b pos - 48))) (by omega) (by omega) (tx_F_M (tx_F_u (by decide)) hM2) (by rw [n_up_eq, upd_ne (by decide)]; exact L16) (by rw [n_up_eq, upd_ne (by decide)]; exact L17) (by omega) (by rw [n_up_eq, upd_eq]) (by omega)
          rw [een] at m2 m4 m5
          refine ⟨M', tx_F_t FK2 (tx_F_t (tx_F_u (by decide)) m1), m6, m2, m3, ?_, ?_⟩
          · rw [m4, n_up_eq, upd_ne (by decide), L18]
            unfold tx_tg
            rw [if_pos hlt, if_neg g1, if_pos g2]
            split <;> rfl
          · unfold tx_v tx_vl
            rw [if_pos hlt, if_neg g1, if_neg g1, if_pos g2]
            exact m5
        · have g3 : tx_g (b pos) = 3 := by
            have := tx_g4 (b pos)
            omega
          have een : tx_en b k pos = pos + 1 := by
            unfold tx_en
            rw [if_pos g3]
          have et : tx_tg b k pos = if tx_mk (b pos) = true then 4 else 1 := by
            unfold tx_tg
            rw [if_pos hlt, if_neg g1, if_neg g2]
          have evl : tx_v b k pos (M 107 19) = nI (b pos) := by
            unfold tx_v tx_vl
            rw [if_pos hlt, if_neg g1, if_neg g1, if_neg g2]
          rw [decide_eq_false g2, if_pos (show (cb false : Int32) = 0 from rfl), een, et, evl]
          cases tx_mk (b pos) with
          | false =>
            rw [if_pos (show (cb false : Int32) = 0 from rfl), if_neg (show ¬ false = true by decide)]
            exact ⟨K2, FK2, rfl, L16, L17, L18, L19⟩
          | true =>
            rw [if_neg (show ¬ (cb true : Int32) = 0 by decide), if_pos (show true = true from rfl)]
            exact ⟨_, tx_F_t FK2 (tx_F_u (by decide)), rfl, by rw [n_up_eq, upd_ne (by decide)]; exact L16, by rw [n_up_eq, upd_ne (by decide)]; exact L17, by rw [n_up_eq, upd_eq]; rfl, by rw [n_up_eq, upd_ne (by decide)]; exact L19⟩
    · have et : tx_tg b k pos = 0 := by
        unfold tx_tg
        rw [if_neg hlt]
      rw [if_neg hlt, et]
      refine ⟨n_up K 107 18 0, tx_F_t FK (tx_F_u (by decide)), ?_, by rw [n_up_eq, upd_ne (by decide), K16, show pos = k by omega], by rw [n_up_eq, upd_ne (by decide)]; exact K17, by rw [n_up_eq, upd_eq]; rfl, by
        unfold tx_v
        rw [if_neg hlt, n_up_eq, upd_ne (by decide), hK, n_up_eq, upd_ne (by decide), n_up_eq, upd_ne (by decide)]⟩
      rw [r0_eq, h16, e_raw hM hpk, if_neg hlt, Option.bind_some, if_neg (show ¬ (-1 : Int32) = 32 by decide)]
      show ((fX12_raw (M 107 16) M).bind _) = _
      rw [h16, e_raw hM hpk, if_neg hlt, Option.bind_some, if_pos (show ¬ (-1 : Int32) = 10 by decide)]
      show ((fX12_raw (n_up (n_up M 107 17 (M 107 16)) 107 18 (1 : Int32) 107 16) (n_up (n_up M 107 17 (M 107 16)) 107 18 (1 : Int32))).bind _) = _
      rw [h16, ← hK, K16, e_raw hMK hpk, if_neg hlt, Option.bind_some, if_neg (not_not_intro rfl)]
  induction d with
  | zero =>
    intro pos f M hp hf hM h16
    obtain ⟨f, rfl⟩ : ∃ g, f = g + 1 := ⟨f - 1, by omega⟩
    have e0 : tx_at b k pos = pos := by
      unfold tx_at
      rw [show k - pos = 0 by omega]
      rfl
    unfold tx_nx
    rw [e0]
    exact at_ pos f M (by omega) (fun z => absurd z (by omega)) hM h16
  | succ d ih =>
    intro pos f M hp hf hM h16
    obtain ⟨f, rfl⟩ : ∃ g, f = g + 1 := ⟨f - 1, by omega⟩
    have hk := hM.1
    by_cases hg : tx_g (b pos) = 0
    · have e1 : tx_at b k pos = tx_at b k (pos + 1) := by
        unfold tx_at
        rw [show k - pos = (k - (pos + 1)) + 1 by omega]
        show (if tx_g (b pos) = 0 then tx_nb b (k - (pos + 1)) (pos + 1) else pos) = _
        rw [if_pos hg]
      have e2 : tx_nx b k pos = tx_nx b k (pos + 1) := by
        unfold tx_nx
        rw [e1]
      rw [e1, e2]
      have hb := hM.2.2.1 pos (by omega)
      obtain ⟨M', m1, m2, m3⟩ := ih (pos + 1) f (n_up M 107 16 (nI (pos + 1))) (by omega) (by omega) (tx_F_M (tx_F_u (by decide)) hM) (by rw [n_up_eq, upd_eq])
      rw [show n_up M 107 16 (nI (pos + 1)) 107 19 = M 107 19 by rw [n_up_eq, upd_ne (by decide)]] at m3
      refine ⟨M', tx_F_t (tx_F_u (by decide)) m1, ?_, m3⟩
      rw [r0_eq, h16, e_raw hM (by omega), if_pos (by omega), Option.bind_some]
      rcases tx_g0.mp hg with z | z
      · rw [z, if_pos (show nI 32 = (32 : Int32) from rfl)]
        show fX12_reads_0 N f (n_up M 107 16 ((M 107 16) + (1 : Int32))) = _
        rw [h16, nI_1]
        exact m2
      · rw [z, if_neg (show ¬ nI 10 = (32 : Int32) by decide)]
        show ((fX12_raw (M 107 16) M).bind _) = _
        rw [h16, e_raw hM (by omega), if_pos (by omega), Option.bind_some, z, if_neg (not_not_intro (show nI 10 = (10 : Int32) from rfl))]
        show fX12_reads_0 N f (n_up M 107 16 ((M 107 16) + (1 : Int32))) = _
        rw [h16, nI_1]
        exact m2
    · have e0 : tx_at b k pos = pos := by
        unfold tx_at
        rw [show k - pos = d + 1 by omega]
        show (if tx_g (b pos) = 0 then tx_nb b d (pos + 1) else pos) = _
        rw [if_neg hg]
      unfold tx_nx
      rw [e0]
      exact at_ pos f M (by omega) (fun _ => hg) hM h16
