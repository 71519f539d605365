/-! ===== text: the model reads a token ===== -/
/-- only where the model is in its text changes -/
def tx_F (M M' : nM) : Prop := (∀ c, c ≠ 107 → M' c = M c) ∧ ∀ i, ¬ (16 ≤ i ∧ i ≤ 19) → M' 107 i = M 107 i
theorem tx_F_r (M : nM) : tx_F M M := ⟨fun _ _ => rfl, fun _ _ => rfl⟩
theorem tx_F_t {M M' M'' : nM} (h1 : tx_F M M') (h2 : tx_F M' M'') : tx_F M M'' := ⟨fun c hc => (h2.1 c hc).trans (h1.1 c hc), fun i hi => (h2.2 i hi).trans (h1.2 i hi)⟩
theorem tx_F_u {M : nM} {i : Nat} {v : Int32} (hi : 16 ≤ i ∧ i ≤ 19) : tx_F M (n_up M 107 i v) := ⟨fun c hc => n_up_ne hc, fun j hj => by rw [n_up_eq, upd_ne (fun e => hj (by rw [e]; exact hi))]⟩
theorem tx_F_M {b : Nat → Nat} {k : Nat} {M M' : nM} (hF : tx_F M M') (h : tx_M b k M) : tx_M b k M' := by
  obtain ⟨h1, h2, h3, h4⟩ := h
  refine ⟨h1, by rw [hF.2 15 (by omega)]; exact h2, fun i hi => by rw [hF.1 117 (by decide)]; exact h3 i hi, fun i hi => by rw [hF.1 118 (by decide)]; exact h4 i hi⟩
theorem r95m_eq (N f : Nat) (M : nM) : fX12_reads_95 N (f + 1) M = (fX12_raw (M 107 16) M).bind fun p1 => (fX12_isLetter p1.1 p1.2).bind fun p2 => if p2.1 = 0 then (fX12_wordAt N (p2.2 107 17) (p2.2 107 16) p2.2).bind fun p3 => (if (n_up p3.2 107 19 p3.1 107 19) = (-1 : Int32) then some ((), n_up p3.2 107 19 p3.1) else some ((), n_up (n_up p3.2 107 19 p3.1) 107 18 (2 : Int32))) else fX12_reads_95 N f (n_up p2.2 107 16 ((p2.2 107 16) + (1 : Int32))) := rfl
theorem r171_eq (N f : Nat) (M : nM) : fX12_reads_171 N (f + 1) M = (fX12_raw (M 107 16) M).bind fun p1 => (fX12_isDigit p1.1 p1.2).bind fun p2 => if p2.1 = 0 then (if (5 : Int32) ≤ ((p2.2 107 16) - (p2.2 107 17)) then some ((), p2.2) else some ((), n_up p2.2 107 18 (3 : Int32))) else if (10000 : Int32) ≤ (p2.2 107 19) then fX12_reads_171 N f (n_up (n_up p2.2 107 19 (p2.2 107 19)) 107 16 ((n_up p2.2 107 19 (p2.2 107 19) 107 16) + (1 : Int32))) else (fX12_raw (p2.2 107 16) p2.2).bind fun p6 => fX12_reads_171 N f (n_up (n_up p6.2 107 19 ((((10 : Int32) * (p2.2 107 19)) + p6.1) - (48 : Int32))) 107 16 ((n_up p6.2 107 19 ((((10 : Int32) * (p2.2 107 19)) + p6.1) - (48 : Int32)) 107 16) + (1 : Int32))) := rfl
theorem r0_eq (N f : Nat) (M : nM) : fX12_reads_0 N (f + 1) M = (fX12_raw (M 107 16) M).bind fun p1 => if p1.1 = (32 : Int32) then fX12_reads_0 N f (n_up p1.2 107 16 ((p1.2 107 16) + (1 : Int32))) else (fX12_raw (p1.2 107 16) p1.2).bind fun p3 => if ¬ p3.1 = (10 : Int32) then (fX12_raw (n_up (n_up p3.2 107 17 (p3.2 107 16)) 107 18 (1 : Int32) 107 16) (n_up (n_up p3.2 107 17 (p3.2 107 16)) 107 18 (1 : Int32))).bind fun p6 => (if ¬ p6.1 = (-1 : Int32) then (fX12_isLetter p6.1 (n_up (n_up p6.2 107 16 ((p6.2 107 16) + (1 : Int32))) 107 19 p6.1)).bind fun p9 => (if p9.1 = 0 then (fX12_isDigit p6.1 p9.2).bind fun p10 => (if p10.1 = 0 then (fX12_isMarkSign p6.1 p10.2).bind fun p11 => (if p11.1 = 0 then some ((), p11.2) else some ((), n_up p11.2 107 18 (4 : Int32))) else fX12_reads_171 N N (n_up p10.2 107 19 (p6.1 - (48 : Int32)))) else fX12_reads_95 N N p9.2) else some ((), n_up p6.2 107 18 (0 : Int32))) else fX12_reads_0 N f (n_up p3.2 107 16 ((p3.2 107 16) + (1 : Int32))) := rfl
/-- letters to their end -/
theorem c_r95m {N k : Nat} {b : Nat → Nat} : ∀ (d e f : Nat) (M : nM), e + d = k → d < f → tx_M b k M → M 107 16 = nI e → ∃ M' : nM, tx_F M M' ∧ M' 107 16 = nI (tx_ge b 1 d e) ∧ M' 107 17 = M 107 17 ∧ M' 107 18 = M 107 18 ∧ fX12_reads_95 N f M = ((fX12_wordAt N (M' 107 17) (M' 107 16) M').bind fun p3 => (if (n_up p3.2 107 19 p3.1 107 19) = (-1 : Int32) then some ((), n_up p3.2 107 19 p3.1) else some ((), n_up (n_up p3.2 107 19 p3.1) 107 18 (2 : Int32)))) := by
  intro d
  induction d with
  | zero =>
    intro e f M he hf hM h16
    obtain ⟨f, rfl⟩ : ∃ g, f = g + 1 := ⟨f - 1, by omega⟩
    refine ⟨M, tx_F_r M, h16, rfl, rfl, ?_⟩
    rw [r95m_eq, h16, e_raw hM (by omega), if_neg (by omega), Option.bind_some]
    show ((fX12_isLetter (-1 : Int32) M).bind _) = _
    rw [e_let1, Option.bind_some, if_pos rfl]
    show ((fX12_wordAt N (M 107 17) (M 107 16) M).bind _) = _
    rw [h16]
  | succ d ih =>
    intro e f M he hf hM h16
    obtain ⟨f, rfl⟩ : ∃ g, f = g + 1 := ⟨f - 1, by omega⟩
    have hb := hM.2.2.1 e (by omega)
    unfold tx_ge
    by_cases hg : tx_g (b e) = 1
    · have hk := hM.1
      obtain ⟨M', m1, m2, m3, m4, m5⟩ := ih (e + 1) f (n_up M 107 16 (nI (e + 1))) (by omega) (by omega) (tx_F_M (tx_F_u (by decide)) hM) (by rw [n_up_eq, upd_eq])
      refine ⟨M', tx_F_t (tx_F_u (by decide)) m1, by rw [if_pos hg]; exact m2, by rw [m3, n_up_eq, upd_ne (by decide)], by rw [m4, n_up_eq, upd_ne (by decide)], ?_⟩
      rw [r95m_eq, h16, e_raw hM (by omega), if_pos (by omega), Option.bind_some]
      show ((fX12_isLetter (nI (b e)) M).bind _) = _
      rw [e_let hb.2, decide_eq_true hg, Option.bind_some, if_neg (show ¬ (cb true : Int32) = 0 by decide)]
      show fX12_reads_95 N f (n_up M 107 16 ((M 107 16) + (1 : Int32))) = _
      rw [h16, nI_1]
      exact m5
    · refine ⟨M, tx_F_r M, by rw [if_neg hg]; exact h16, rfl, rfl, ?_⟩
      rw [r95m_eq, h16, e_raw hM (by omega), if_pos (by omega), Option.bind_some]
      show ((fX12_isLetter (nI (b e)) M).bind _) = _
      rw [e_let hb.2, decide_eq_false hg, Option.bind_some, if_pos (show (cb false : Int32) = 0 from rfl)]
      show ((fX12_wordAt N (M 107 17) (M 107 16) M).bind _) = _
      rw [h16]
theorem tx_dig {x : Nat} (h : tx_g x = 2) : 48 ≤ x ∧ x ≤ 57 := by
  unfold tx_g at h
  split at h
  · exact absurd h (by decide)
  · split at h
    · assumption
    · split at h <;> exact absurd h (by decide)
/-- digits to their end -/
theorem c_r171 {N k p : Nat} {b : Nat → Nat} : ∀ (d e f v : Nat) (M : nM), e + d = k → d < f → tx_M b k M → M 107 16 = nI e → M 107 17 = nI p → p ≤ e → M 107 19 = nI v → v < 200000 → ∃ M' : nM, tx_F M M' ∧ M' 107 16 = nI (tx_ge b 2 d e) ∧ M' 107 17 = nI p ∧ M' 107 18 = (if tx_ge b 2 d e - p < 5 then 3 else M 107 18) ∧ M' 107 19 = nI (tx_nu b (tx_ge b 2 d e - e) e v) ∧ fX12_reads_171 N f M = some ((), M') := by
  intro d
  induction d with
  | zero =>
    intro e f v M he hf hM h16 h17 hp h19 hv
    obtain ⟨f, rfl⟩ : ∃ g, f = g + 1 := ⟨f - 1, by omega⟩
    have hk := hM.1
    have e0 : tx_ge b 2 0 e = e := rfl
    rw [e0, Nat.sub_self]
    have ev : fX12_reads_171 N (f + 1) M = (if (5 : Int32) ≤ nI (e - p) then some ((), M) else some ((), n_up M 107 18 (3 : Int32))) := by
      rw [r171_eq, h16, e_raw hM (by omega), if_neg (by omega), Option.bind_some]
      show ((fX12_isDigit (-1 : Int32) M).bind _) = _
      rw [e_dig1, Option.bind_some, if_pos rfl]
      show (if (5 : Int32) ≤ ((M 107 16) - (M 107 17)) then _ else _) = _
      rw [h16, h17, pk_sub hp]
    rw [ev]
    by_cases z : e - p < 5
    · rw [if_neg (show ¬ (5 : Int32) ≤ nI (e - p) from nI_ge (b := 5) z (by decide))]
      exact ⟨_, tx_F_u (by decide), by rw [n_up_eq, upd_ne (by decide)]; exact h16, by rw [n_up_eq, upd_ne (by decide)]; exact h17, by rw [n_up_eq, upd_eq, if_pos z], by rw [n_up_eq, upd_ne (by decide)]; exact h19, rfl⟩
    · rw [if_pos (show (5 : Int32) ≤ nI (e - p) from nI_le (a := 5) (by omega) (by omega))]
      exact ⟨_, tx_F_r M, h16, h17, by rw [if_neg z], h19, rfl⟩
  | succ d ih =>
    intro e f v M he hf hM h16 h17 hp h19 hv
    obtain ⟨f, rfl⟩ : ∃ g, f = g + 1 := ⟨f - 1, by omega⟩
    have hk := hM.1
    have hb := hM.2.2.1 e (by omega)
    by_cases hg : tx_g (b e) = 2
    · have hd := tx_dig hg
      have ege : tx_ge b 2 (d + 1) e = tx_ge b 2 d (e + 1) := by
        show (if tx_g (b e) = 2 then tx_ge b 2 d (e + 1) else e) = _
        rw [if_pos hg]
      have hge := (tx_ge_b (b := b) (g := 2) (k := k) d (e + 1) (by omega)).1
      obtain ⟨v', hv'⟩ : ∃ v', v' = if 10000 ≤ v then v else 10 * v + (b e - 48) := ⟨_, rfl⟩
      have hv2 : v' < 200000 := by rw [hv']; split <;> omega
      have h16' : ∀ w : Int32, (n_up (n_up M 107 19 w) 107 16 ((n_up M 107 19 w 107 16) + (1 : Int32))) = n_up (n_up M 107 19 w) 107 16 (nI (e + 1)) := fun w => by
        rw [show n_up M 107 19 w 107 16 = nI e by rw [n_up_eq, upd_ne (by decide)]; exact h16, nI_1]
      obtain ⟨M', m1, m2, m3, m4, m5, m6⟩ := ih (e + 1) f v' (n_up (n_up M 107 19 (nI v')) 107 16 (nI (e + 1))) (by omega) (by omega) (tx_F_M (tx_F_t (tx_F_u (by decide)) (tx_F_u (by decide))) hM) (by rw [n_up_eq, upd_eq]) (by rw [n_up_eq, upd_ne (by decide), n_up_eq, upd_ne (by decide)]; exact h17) (by omega) (by rw [n_up_eq, upd_ne (by decide), n_up_eq, upd_eq]) hv2
      rw [ege]
      refine ⟨M', tx_F_t (tx_F_t (tx_F_u (by decide)) (tx_F_u (by decide))) m1, m2, m3, by rw [m4, n_up_eq, upd_ne (by decide), n_up_eq, upd_ne (by decide)], ?_, ?_⟩
      · rw [m5, show tx_ge b 2 d (e + 1) - e = (tx_ge b 2 d (e + 1) - (e + 1)) + 1 by omega, hv']
        rfl
      · rw [r171_eq, h16, e_raw hM (by omega), if_pos (by omega), Option.bind_some]
        show ((fX12_isDigit (nI (b e)) M).bind _) = _
        rw [e_dig hb.2, decide_eq_true hg, Option.bind_some, if_neg (show ¬ (cb true : Int32) = 0 by decide)]
        show (if (10000 : Int32) ≤ (M 107 19) then fX12_reads_171 N f (n_up (n_up M 107 19 (M 107 19)) 107 16 ((n_up M 107 19 (M 107 19) 107 16) + (1 : Int32))) else (fX12_raw (M 107 16) M).bind fun p6 => fX12_reads_171 N f (n_up (n_up p6.2 107 19 ((((10 : Int32) * (M 107 19)) + p6.1) - (48 : Int32))) 107 16 ((n_up p6.2 107 19 ((((10 : Int32) * (M 107 19)) + p6.1) - (48 : Int32)) 107 16) + (1 : Int32)))) = _
        rw [h19]
        by_cases z : 10000 ≤ v
        · rw [if_pos z] at hv'
          rw [if_pos (show (10000 : Int32) ≤ nI v from nI_le (a := 10000) z (by omega)), h16', ← hv']
          exact m6
        · rw [if_neg z] at hv'
          rw [if_neg (show ¬ (10000 : Int32) ≤ nI v from nI_ge (b := 10000) (by omega) (by decide)), h16, e_raw hM (by omega), if_pos (by omega), Option.bind_some]
          show fX12_reads_171 N f (n_up (n_up M 107 19 ((((10 : Int32) * nI v) + nI (b e)) - (48 : Int32))) 107 16 ((n_up M 107 19 ((((10 : Int32) * nI v) + nI (b e)) - (48 : Int32)) 107 16) + (1 : Int32))) = _
          have ev : ((10 : Int32) * nI v) + nI (b e) - (48 : Int32) = nI v' := by
            rw [hv', show (10 : Int32) = nI 10 from rfl, pk_mul, nI_add]
            exact (pk_sub (b := 48) (by omega)).trans (congrArg nI (by omega))
          rw [ev, h16']
          exact m6
    · have ege : tx_ge b 2 (d + 1) e = e := by
        show (if tx_g (b e) = 2 then tx_ge b 2 d (e + 1) else e) = _
        rw [if_neg hg]
      rw [ege, Nat.sub_self]
      have ev : fX12_reads_171 N (f + 1) M = (if (5 : Int32) ≤ nI (e - p) then some ((), M) else some ((), n_up M 107 18 (3 : Int32))) := by
        rw [r171_eq, h16, e_raw hM (by omega), if_pos (by omega), Option.bind_some]
        show ((fX12_isDigit (nI (b e)) M).bind _) = _
        rw [e_dig hb.2, decide_eq_false hg, Option.bind_some, if_pos (show (cb false : Int32) = 0 from rfl)]
        show (if (5 : Int32) ≤ ((M 107 16) - (M 107 17)) then _ else _) = _
        rw [h16, h17, pk_sub hp]
      rw [ev]
      by_cases z : e - p < 5
      · rw [if_neg (show ¬ (5 : Int32) ≤ nI (e - p) from nI_ge (b := 5) z (by decide))]
        exact ⟨_, tx_F_u (by decide), by rw [n_up_eq, upd_ne (by decide)]; exact h16, by rw [n_up_eq, upd_ne (by decide)]; exact h17, by rw [n_up_eq, upd_eq, if_pos z], by rw [n_up_eq, upd_ne (by decide)]; exact h19, rfl⟩
      · rw [if_pos (show (5 : Int32) ≤ nI (e - p) from nI_le (a := 5) (by omega) (by omega))]
        exact ⟨_, tx_F_r M, h16, h17, by rw [if_neg z], h19, rfl⟩
