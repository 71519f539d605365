/-! ===== text: where the model stands in the tokens ===== -/
def tkT (b : Nat → Nat) (k : Nat) : tK := fun j => (tx_tg b k (tkp b k j), tx_vl b k (tkp b k j), tkp b k j)
/-- the model's value behind token j -/
def tkw (b : Nat → Nat) (k : Nat) (v : Int32) : Nat → Int32
  | 0 => tx_v b k (tkp b k 0) v
  | j + 1 => tx_v b k (tkp b k (j + 1)) (tkw b k v j)
/-- the model's token cells -/
def mtk (f : Nat → Int32) (q p t : Int32) (w : Int32) : Nat → Int32 := fun i => if i = 16 then q else if i = 17 then p else if i = 18 then t else if i = 19 then w else f i
def mdr (f : Nat → Int32) (L : List Nat) : Nat → Int32 := fun i => if 800 ≤ i ∧ i < 800 + L.length then nI (L.getD (i - 800) 0) else f i
/-- the model at token j, with code c -/
def ms (b : Nat → Nat) (k : Nat) (v : Int32) (M0 : nM) (j : Nat) (c : List (Nat × Nat)) : nM := fun a => if a = 107 then upd (mtk (M0 107) (nI (tkq b k (j + 1))) (nI (tkp b k j)) (nI (tkT b k j).1) (tkw b k v j)) 29 (nI c.length) else if a = 124 then mdr (M0 124) (c.map Prod.fst) else if a = 125 then mdr (M0 125) (c.map Prod.snd) else M0 a
theorem ms_7 {b : Nat → Nat} {k : Nat} {v : Int32} {M0 : nM} {j : Nat} {c : List (Nat × Nat)} : ms b k v M0 j c 107 = upd (mtk (M0 107) (nI (tkq b k (j + 1))) (nI (tkp b k j)) (nI (tkT b k j).1) (tkw b k v j)) 29 (nI c.length) := rfl
theorem ms_24 {b : Nat → Nat} {k : Nat} {v : Int32} {M0 : nM} {j : Nat} {c : List (Nat × Nat)} : ms b k v M0 j c 124 = mdr (M0 124) (c.map Prod.fst) := rfl
theorem ms_25 {b : Nat → Nat} {k : Nat} {v : Int32} {M0 : nM} {j : Nat} {c : List (Nat × Nat)} : ms b k v M0 j c 125 = mdr (M0 125) (c.map Prod.snd) := rfl
theorem ms_o {b : Nat → Nat} {k : Nat} {v : Int32} {M0 : nM} {j a : Nat} {c : List (Nat × Nat)} (h1 : a ≠ 107) (h2 : a ≠ 124) (h3 : a ≠ 125) : ms b k v M0 j c a = M0 a := by
  unfold ms
  rw [if_neg h1, if_neg h2, if_neg h3]
theorem ms_16 {b : Nat → Nat} {k : Nat} {v : Int32} {M0 : nM} {j : Nat} {c : List (Nat × Nat)} : ms b k v M0 j c 107 16 = nI (tkq b k (j + 1)) := rfl
theorem ms_17 {b : Nat → Nat} {k : Nat} {v : Int32} {M0 : nM} {j : Nat} {c : List (Nat × Nat)} : ms b k v M0 j c 107 17 = nI (tkT b k j).2.2 := rfl
theorem ms_18 {b : Nat → Nat} {k : Nat} {v : Int32} {M0 : nM} {j : Nat} {c : List (Nat × Nat)} : ms b k v M0 j c 107 18 = nI (tkT b k j).1 := rfl
theorem ms_19 {b : Nat → Nat} {k : Nat} {v : Int32} {M0 : nM} {j : Nat} {c : List (Nat × Nat)} : ms b k v M0 j c 107 19 = tkw b k v j := rfl
theorem ms_29 {b : Nat → Nat} {k : Nat} {v : Int32} {M0 : nM} {j : Nat} {c : List (Nat × Nat)} : ms b k v M0 j c 107 29 = nI c.length := rfl
theorem ms_7o {b : Nat → Nat} {k : Nat} {v : Int32} {M0 : nM} {j i : Nat} {c : List (Nat × Nat)} (h1 : ¬ (16 ≤ i ∧ i ≤ 19)) (h2 : i ≠ 29) : ms b k v M0 j c 107 i = M0 107 i := by
  rw [ms_7, upd_ne h2]
  unfold mtk
  rw [if_neg (by omega), if_neg (by omega), if_neg (by omega), if_neg (by omega)]
theorem tkw_v {b : Nat → Nat} {k j : Nat} {v : Int32} (h : 2 ≤ (tkT b k j).1) : tkw b k v j = nI (tkT b k j).2.1 := by
  have key : ∀ u : Int32, tx_v b k (tkp b k j) u = nI (tkT b k j).2.1 := fun u => by
    show tx_v b k (tkp b k j) u = nI (tx_vl b k (tkp b k j))
    have h' : 2 ≤ tx_tg b k (tkp b k j) := h
    unfold tx_tg at h'
    unfold tx_v
    by_cases hp : tkp b k j < k
    · rw [if_pos hp] at h' ⊢
      by_cases g1 : tx_g (b (tkp b k j)) = 1
      · rw [if_pos g1] at h' ⊢
        obtain ⟨w1, w2⟩ := tx_wn_i (b := b) (p := tkp b k j) (e := tx_en b k (tkp b k j)) 28 0 rfl
        unfold tx_vl
        rw [if_pos g1, w2]
        split at h'
        · rename_i hh
          rw [if_pos hh]
        · exact absurd h' (by decide)
      · rw [if_neg g1]
    · rw [if_neg hp] at h'
      exact absurd h' (by decide)
  cases j with
  | zero => exact key v
  | succ j => exact key (tkw b k v j)
/-- the tokens of a text -/
theorem tk_T {b : Nat → Nat} {k n : Nat} (hk : k ≤ 400) (h1 : tkp b k n = k) (h2 : ∀ i, i < n → tkp b k i < k) (h3 : n ≤ k) (hb : ∀ i, i < k → b i < 256) : TK (tkT b k) n := by
  refine ⟨by omega, fun j hj => ?_⟩
  show (tx_tg b k (tkp b k j) = 0 ↔ j = n) ∧ tx_tg b k (tkp b k j) ≤ 4 ∧ (tx_tg b k (tkp b k j) = 2 → tx_vl b k (tkp b k j) < 28) ∧ (tx_tg b k (tkp b k j) = 3 → tx_vl b k (tkp b k j) < 10000) ∧ (tx_tg b k (tkp b k j) = 4 → tx_mk (tx_vl b k (tkp b k j)) = true)
  by_cases e : j = n
  · rw [e, h1]
    have : tx_tg b k k = 0 := by
      unfold tx_tg
      rw [if_neg (by omega)]
    rw [this]
    exact ⟨⟨fun _ => rfl, fun _ => rfl⟩, by decide, fun z => absurd z (by decide), fun z => absurd z (by decide), fun z => absurd z (by decide)⟩
  · have hp := h2 j (by omega)
    generalize tkp b k j = p at hp
    obtain ⟨en1, en2, en3, en4⟩ := tx_en_b (b := b) hp
    unfold tx_tg tx_vl
    rw [if_pos hp]
    by_cases g1 : tx_g (b p) = 1
    · rw [if_pos g1, if_pos g1]
      by_cases hw : tx_wn b p (tx_en b k p) 28 0 < 28
      · rw [if_pos hw]
        exact ⟨⟨fun z => absurd z (by decide), fun z => absurd z e⟩, by decide, fun _ => hw, fun z => absurd z (by decide), fun z => absurd z (by decide)⟩
      · rw [if_neg hw]
        exact ⟨⟨fun z => absurd z (by decide), fun z => absurd z e⟩, by decide, fun z => absurd z (by decide), fun z => absurd z (by decide), fun z => absurd z (by decide)⟩
    · rw [if_neg g1, if_neg g1]
      by_cases g2 : tx_g (b p) = 2
      · rw [if_pos g2, if_pos g2]
        have hdp := tx_dig g2
        by_cases h5 : tx_en b k p - p < 5
        · rw [if_pos h5]
          refine ⟨⟨fun z => absurd z (by decide), fun z => absurd z e⟩, by decide, fun z => absurd z (by decide), fun _ => ?_, fun z => absurd z (by decide)⟩
          have t := tx_n4_u (b := b) (tx_en b k p - (p + 1)) (p + 1) (b p - 48) 1 (fun i i1 i2 => (tx_dig (by rw [en3 (by omega) i (by omega) (by omega)]; exact g2)).2) (by omega) (by omega)
          rw [← t.1]
          exact t.2
        · rw [if_neg h5]
          exact ⟨⟨fun z => absurd z (by decide), fun z => absurd z e⟩, by decide, fun z => absurd z (by decide), fun z => absurd z (by decide), fun z => absurd z (by decide)⟩
      · rw [if_neg g2, if_neg g2]
        by_cases gm : tx_mk (b p) = true
        · rw [if_pos gm]
          exact ⟨⟨fun z => absurd z (by decide), fun z => absurd z e⟩, by decide, fun z => absurd z (by decide), fun z => absurd z (by decide), fun _ => gm⟩
        · rw [if_neg gm]
          exact ⟨⟨fun z => absurd z (by decide), fun z => absurd z e⟩, by decide, fun z => absurd z (by decide), fun z => absurd z (by decide), fun z => absurd z (by decide)⟩
theorem tkq_k {b : Nat → Nat} {k : Nat} : ∀ j, tkq b k j ≤ k
  | 0 => Nat.zero_le _
  | j + 1 => by
    show tx_nx b k (tkq b k j) ≤ k
    unfold tx_nx
    by_cases h : tx_at b k (tkq b k j) < k
    · rw [if_pos h]
      exact (tx_en_b h).2.1
    · rw [if_neg h]
      exact Nat.le_refl _
theorem tkq_n {b : Nat → Nat} {k n : Nat} (h1 : tkp b k n = k) : tkq b k (n + 1) = k := by
  show tx_nx b k (tkq b k n) = k
  unfold tx_nx
  rw [show tx_at b k (tkq b k n) = k from h1, if_neg (by omega)]
theorem tkq_n2 {b : Nat → Nat} {k n : Nat} (h1 : tkp b k n = k) : tkp b k (n + 1) = k ∧ tkq b k (n + 2) = k := by
  have e : tkp b k (n + 1) = k := by
    unfold tkp
    rw [tkq_n h1, tx_at_k]
  exact ⟨e, tkq_n e⟩
/-- what the model's base has: the text, and its words -/
abbrev MB (b : Nat → Nat) (k : Nat) (M0 : nM) : Prop := tx_M b k M0
theorem ms_M {b : Nat → Nat} {k j : Nat} {v : Int32} {M0 : nM} {c : List (Nat × Nat)} (h : tx_M b k M0) : tx_M b k (ms b k v M0 j c) := by
  obtain ⟨h1, h2, h3, h4⟩ := h
  exact ⟨h1, by rw [ms_7o (by omega) (by decide)]; exact h2, fun i hi => by rw [ms_o (by decide) (by decide) (by decide)]; exact h3 i hi, fun i hi => by rw [ms_o (by decide) (by decide) (by decide)]; exact h4 i hi⟩
/-- read out of where it stands, and from the beginning -/
theorem e_rds {b : Nat → Nat} {k n j N : Nat} {v : Int32} {M0 : nM} {c : List (Nat × Nat)} (hN : 1000 ≤ N) (h1 : tkp b k n = k) (hM : MB b k M0) (hj : j ≤ n) : fX12_reads_all N (ms b k v M0 j c) = some ((), ms b k v M0 (nx n j) c) := by
  have hk := hM.1
  have hq := tkq_k (b := b) (k := k) (j + 1)
  obtain ⟨M', m1, m2, m3, m4, m5, m6⟩ := e_reads (N := N) hN (k - tkq b k (j + 1)) (tkq b k (j + 1)) N (ms b k v M0 j c) (by omega) (by omega) (ms_M hM) ms_16
  unfold fX12_reads_all
  rw [m2]
  congr 2
  have main : M' = ms b k v M0 (j + 1) c := by
    funext a
    by_cases ha : a = 107
    · subst ha
      funext i
      by_cases hi : 16 ≤ i ∧ i ≤ 19
      · obtain ⟨a1, a2⟩ := hi
        have : i = 16 ∨ i = 17 ∨ i = 18 ∨ i = 19 := by omega
        rcases this with e | e | e | e
        · subst e; exact m3
        · subst e; exact m4
        · subst e; exact m5
        · subst e; exact m6
      · rw [m1.2 i hi]
        by_cases e : i = 29
        · subst e; rfl
        · rw [ms_7o hi e, ms_7o hi e]
    · rw [m1.1 a ha]
      unfold ms
      rw [if_neg ha, if_neg ha]
  by_cases z : j < n
  · rw [nx_l z]
    exact main
  · have ej : j = n := by omega
    subst ej
    obtain ⟨p1, p2⟩ := tkq_n2 h1
    rw [main]
    unfold nx
    rw [if_neg z]
    funext a
    unfold ms
    by_cases ha : a = 107
    · rw [if_pos ha, if_pos ha]
      have e1 : tkq b k (j + 1 + 1) = tkq b k (j + 1) := by rw [tkq_n h1]; exact p2
      have e2 : tkp b k (j + 1) = tkp b k j := by rw [p1, h1]
      have e3 : tkT b k (j + 1) = tkT b k j := by
        unfold tkT
        rw [e2]
      have e4 : tkw b k v (j + 1) = tkw b k v j := by
        show tx_v b k (tkp b k (j + 1)) (tkw b k v j) = _
        unfold tx_v
        rw [p1, if_neg (by omega)]
      rw [e1, e2, e3, e4]
    · rw [if_neg ha, if_neg ha]
theorem mdr_nil {f : Nat → Int32} : mdr f [] = f := by
  funext i
  unfold mdr
  rw [if_neg (by show ¬ (800 ≤ i ∧ i < 800 + 0); omega)]
theorem e_rd0 {b : Nat → Nat} {k N : Nat} {M0 : nM} (hN : 1000 ≤ N) (hM : MB b k M0) (h16 : M0 107 16 = 0) (h29 : M0 107 29 = 0) : fX12_reads_all N M0 = some ((), ms b k (M0 107 19) M0 0 []) := by
  have hk := hM.1
  obtain ⟨M', m1, m2, m3, m4, m5, m6⟩ := e_reads (N := N) hN k 0 N M0 (by omega) (by omega) hM h16
  unfold fX12_reads_all
  rw [m2]
  congr 2
  funext a
  by_cases ha : a = 107
  · subst ha
    funext i
    by_cases hi : 16 ≤ i ∧ i ≤ 19
    · obtain ⟨a1, a2⟩ := hi
      have : i = 16 ∨ i = 17 ∨ i = 18 ∨ i = 19 := by omega
      rcases this with e | e | e | e
      · subst e; exact m3
      · subst e; exact m4
      · subst e; exact m5
      · subst e; exact m6
    · rw [m1.2 i hi]
      by_cases e : i = 29
      · subst e; rw [h29]; rfl
      · rw [ms_7o hi e]
  · rw [m1.1 a ha]
    unfold ms
    rw [if_neg ha]
    by_cases e1 : a = 124
    · rw [if_pos e1, e1]
      exact mdr_nil.symm
    · rw [if_neg e1]
      by_cases e2 : a = 125
      · rw [if_pos e2, e2]
        exact mdr_nil.symm
      · rw [if_neg e2]
theorem mdr_s {f : Nat → Int32} {L : List Nat} {x : Nat} : upd (mdr f L) (800 + L.length) (nI x) = mdr f (L ++ [x]) := by
  funext i
  unfold mdr
  by_cases e : i = 800 + L.length
  · subst e
    rw [upd_eq, if_pos (by rw [List.length_append]; simp), Nat.add_sub_cancel_left, List.getD_eq_getElem?_getD, List.getElem?_append_right (Nat.le_refl _), Nat.sub_self]
    rfl
  · rw [upd_ne e]
    by_cases e2 : 800 ≤ i ∧ i < 800 + L.length
    · rw [if_pos e2, if_pos (by rw [List.length_append]; simp; omega), List.getD_eq_getElem?_getD, List.getD_eq_getElem?_getD, List.getElem?_append_left (by omega)]
    · rw [if_neg e2, if_neg (by rw [List.length_append]; simp; omega)]
theorem e_emM {b : Nat → Nat} {k j o x : Nat} {v : Int32} {M0 : nM} {c : List (Nat × Nat)} (hc : c.length < 400) : fX12_emits (nI o) (nI x) (ms b k v M0 j c) = some ((), ms b k v M0 j (c ++ [(o, x)])) := by
  have e0 : (800 : Int32) + nI c.length = nI (800 + c.length) := nI_add 800 c.length
  unfold fX12_emits
  show n_chk (n_ib 1200 ((800 : Int32) + (ms b k v M0 j c 107 29))) (n_chk (n_ib 1200 ((800 : Int32) + (n_up (ms b k v M0 j c) 124 ((800 : Int32) + (ms b k v M0 j c 107 29)).toNatClampNeg (nI o) 107 29))) (some ((), n_up (n_up (n_up (ms b k v M0 j c) 124 ((800 : Int32) + (ms b k v M0 j c 107 29)).toNatClampNeg (nI o)) 125 ((800 : Int32) + (n_up (ms b k v M0 j c) 124 ((800 : Int32) + (ms b k v M0 j c 107 29)).toNatClampNeg (nI o) 107 29)).toNatClampNeg (nI x)) 107 29 ((n_up (n_up (ms b k v M0 j c) 124 ((800 : Int32) + (ms b k v M0 j c 107 29)).toNatClampNeg (nI o)) 125 ((800 : Int32) + (n_up (ms b k v M0 j c) 124 ((800 : Int32) + (ms b k v M0 j c 107 29)).toNatClampNeg (nI o) 107 29)).toNatClampNeg (nI x) 107 29) + (1 : Int32))))) = _
  rw [n_up_ne (show 107 ≠ 125 by decide), n_up_ne (show 107 ≠ 124 by decide), ms_29, e0, n_ib_nI (show 800 + c.length < 1200 by omega) (by decide), n_chk_t, n_chk_t, nI_clamp (show 800 + c.length < 2 ^ 31 by omega), nI_1]
  congr 2
  funext a
  by_cases h7 : a = 107
  · subst h7
    rw [n_up_eq, n_up_ne (by decide), n_up_ne (by decide), ms_7, ms_7]
    funext i
    by_cases e : i = 29
    · rw [e, upd_eq, upd_eq, List.length_append]; rfl
    · rw [upd_ne e, upd_ne e, upd_ne e]
  · rw [n_up_ne h7]
    by_cases h5 : a = 125
    · subst h5
      rw [n_up_eq, n_up_ne (by decide), ms_25, ms_25, List.map_append]
      have := mdr_s (f := M0 125) (L := c.map Prod.snd) (x := x)
      rw [List.length_map] at this
      exact this
    · rw [n_up_ne h5]
      by_cases h4 : a = 124
      · subst h4
        rw [n_up_eq, ms_24, ms_24, List.map_append]
        have := mdr_s (f := M0 124) (L := c.map Prod.fst) (x := o)
        rw [List.length_map] at this
        exact this
      · rw [n_up_ne h4, ms_o h7 h4 h5, ms_o h7 h4 h5]
theorem ms_up {b : Nat → Nat} {k j a i : Nat} {v x : Int32} {M0 : nM} {c : List (Nat × Nat)} (h1 : a ≠ 124) (h2 : a ≠ 125) (h3 : a = 107 → ¬ (16 ≤ i ∧ i ≤ 19) ∧ i ≠ 29) : n_up (ms b k v M0 j c) a i x = ms b k v (n_up M0 a i x) j c := by
  funext z
  by_cases h : z = a
  · subst h
    rw [n_up_eq]
    by_cases e : z = 107
    · subst e
      obtain ⟨g1, g2⟩ := h3 rfl
      funext t
      by_cases e1 : t = i
      · subst e1
        rw [upd_eq, ms_7o g1 g2, n_up_eq, upd_eq]
      · rw [upd_ne e1, ms_7, ms_7, n_up_eq]
        by_cases e2 : t = 29
        · rw [e2, upd_eq, upd_eq]
        · rw [upd_ne e2, upd_ne e2]
          unfold mtk
          rw [upd_ne e1]
    · rw [ms_o e h1 h2, ms_o e h1 h2, n_up_eq]
  · rw [n_up_ne h]
    unfold ms
    by_cases e0 : z = 107
    · rw [if_pos e0, if_pos e0, n_up_ne (by rw [← e0]; exact h)]
    · rw [if_neg e0, if_neg e0]
      by_cases e1 : z = 124
      · rw [if_pos e1, if_pos e1, n_up_ne (by rw [← e1]; exact h)]
      · rw [if_neg e1, if_neg e1]
        by_cases e2 : z = 125
        · rw [if_pos e2, if_pos e2, n_up_ne (by rw [← e2]; exact h)]
        · rw [if_neg e2, if_neg e2, n_up_ne h]
/-- the model with a fault -/
def me (b : Nat → Nat) (k : Nat) (v : Int32) (M0 : nM) (e j : Nat) (c : List (Nat × Nat)) : nM := n_up (n_up (ms b k v M0 j c) 107 33 (nI e)) 107 34 (nI (tkT b k j).2.2)
theorem e_ers {b : Nat → Nat} {k j : Nat} {v : Int32} {M0 : nM} {c : List (Nat × Nat)} (e : Nat) : fX12_errs (nI e) (ms b k v M0 j c) = some (-1, me b k v M0 e j c) := by
  unfold fX12_errs
  show some ((-1 : Int32), n_up (n_up (ms b k v M0 j c) 107 33 (nI e)) 107 34 (n_up (ms b k v M0 j c) 107 33 (nI e) 107 17)) = _
  rw [n_up_eq, upd_ne (by decide), ms_17]
  rfl
theorem e_ers2 {b : Nat → Nat} {k j : Nat} {v : Int32} {M0 : nM} {c : List (Nat × Nat)} (e : Nat) : ((fX12_errs (nI e) (ms b k v M0 j c)).bind fun p => some (p.1, p.2)) = some (-1, me b k v M0 e j c) := by
  rw [e_ers e]
  rfl
theorem e_mS {b : Nat → Nat} {k n j s : Nat} {v : Int32} {M0 : nM} {c : List (Nat × Nat)} (h : TK (tkT b k) n) (hj : j ≤ n) (hs : s < 256) : fX12_isSign (nI s) (ms b k v M0 j c) = some (cb (decide (isS (tkT b k) j s)), ms b k v M0 j c) := by
  obtain ⟨k1, k2, k3, k4, k5⟩ := h.2 j hj
  unfold fX12_isSign
  rw [ms_18, ms_19]
  by_cases e : (tkT b k j).1 = 4
  · rw [if_neg (not_not_intro (show nI (tkT b k j).1 = (4 : Int32) by rw [e]; rfl)), tkw_v (by omega)]
    have hm := tx_mkb _ (k5 e)
    by_cases z : (tkT b k j).2.1 = s
    · rw [if_neg (not_not_intro (congrArg nI z)), decide_eq_true (show isS (tkT b k) j s from ⟨e, z⟩)]
      rfl
    · rw [if_pos (fun y => z ((nI_eq (by omega) (by omega)).mp y)), decide_eq_false (show ¬ isS (tkT b k) j s from fun y => z y.2)]
      rfl
  · rw [if_pos (show ¬ nI (tkT b k j).1 = (4 : Int32) from fun y => e ((nI_eq (b := 4) (by omega) (by decide)).mp y)), decide_eq_false (show ¬ isS (tkT b k) j s from fun y => e y.1)]
    rfl
theorem e_mW {b : Nat → Nat} {k n j s : Nat} {v : Int32} {M0 : nM} {c : List (Nat × Nat)} (h : TK (tkT b k) n) (hj : j ≤ n) (hs : s < 256) : fX12_isWord (nI s) (ms b k v M0 j c) = some (cb (decide (isW (tkT b k) j s)), ms b k v M0 j c) := by
  obtain ⟨k1, k2, k3, k4, k5⟩ := h.2 j hj
  unfold fX12_isWord
  rw [ms_18, ms_19]
  by_cases e : (tkT b k j).1 = 2
  · rw [if_neg (not_not_intro (show nI (tkT b k j).1 = (2 : Int32) by rw [e]; rfl)), tkw_v (by omega)]
    have hm := k3 e
    by_cases z : (tkT b k j).2.1 = s
    · rw [if_neg (not_not_intro (congrArg nI z)), decide_eq_true (show isW (tkT b k) j s from ⟨e, z⟩)]
      rfl
    · rw [if_pos (fun y => z ((nI_eq (by omega) (by omega)).mp y)), decide_eq_false (show ¬ isW (tkT b k) j s from fun y => z y.2)]
      rfl
  · rw [if_pos (show ¬ nI (tkT b k j).1 = (2 : Int32) from fun y => e ((nI_eq (b := 2) (by omega) (by decide)).mp y)), decide_eq_false (show ¬ isW (tkT b k) j s from fun y => e y.1)]
    rfl
theorem e_mN {b : Nat → Nat} {k n j : Nat} {v : Int32} {M0 : nM} {c : List (Nat × Nat)} (h : TK (tkT b k) n) (hj : j ≤ n) : ms b k v M0 j c 107 18 = (3 : Int32) ↔ isN (tkT b k) j := by
  rw [ms_18]
  exact nI_eq (b := 3) (by have := (h.2 j hj).2.1; omega) (by decide)
theorem MB_up {b : Nat → Nat} {k a i : Nat} {M0 : nM} {x : Int32} (h : MB b k M0) (h1 : a ≠ 117) (h2 : a ≠ 118) (h3 : a = 107 → i ≠ 15) : MB b k (n_up M0 a i x) := by
  obtain ⟨m1, m2, m3, m4⟩ := h
  refine ⟨m1, ?_, fun t ht => by rw [n_up_ne (Ne.symm h1)]; exact m3 t ht, fun t ht => by rw [n_up_ne (Ne.symm h2)]; exact m4 t ht⟩
  by_cases e : a = 107
  · subst e
    rw [n_up_eq, upd_ne (Ne.symm (h3 rfl))]; exact m2
  · rw [n_up_ne (Ne.symm e)]; exact m2
