/-! ===== text: the class's words and signs ===== -/
def tx_cw : List Nat := [112, 97, 108, 109, 115, 32, 102, 97, 114, 32, 102, 105, 110, 100, 115, 32, 115, 108, 101, 105, 103, 104, 116, 32, 119, 105, 116, 115, 32, 115, 105, 122, 101, 32, 119, 111, 114, 116, 104, 32, 112, 108, 97, 99, 101, 32, 102, 117, 108, 108, 32, 108, 111, 99, 107, 32, 109, 111, 118, 101, 100, 32, 108, 111, 115, 116, 32, 112, 97, 108, 109, 101, 100, 32, 104, 111, 117, 114, 32, 119, 104, 101, 110, 32, 111, 114, 32, 97, 110, 100, 32, 110, 111, 116, 32, 97, 116, 32, 112, 101, 114, 115, 111, 110, 32, 112, 117, 116, 115, 32, 105, 110, 32, 116, 105, 101, 32, 108, 111, 111, 115, 101, 32, 111, 112, 101, 110, 32, 115, 101, 97, 114, 99, 104, 32, 99, 104, 105, 108, 100, 32, 111, 102, 32]
def tx_cc (i : Nat) : Nat := tx_cw.getD i 0
/-- the class's words: where each begins, how long it is; which of the model's it is, and back -/
def tx_cs : List (Nat × Nat) := [(0, 5), (6, 3), (10, 5), (16, 7), (24, 4), (29, 4), (34, 5), (40, 5), (46, 4), (51, 4), (56, 5), (62, 4), (67, 6), (74, 4), (79, 4), (84, 2), (87, 3), (91, 3), (95, 2), (98, 6), (105, 4), (110, 2), (113, 3), (117, 5), (123, 4), (128, 6), (135, 5), (141, 2)]
def tx_pm : List Nat := [0, 1, 2, 7, 8, 9, 10, 11, 12, 13, 14, 15, 16, 17, 3, 4, 5, 6, 18, 19, 20, 21, 22, 23, 24, 25, 26, 27]
def tx_pi : List Nat := [0, 1, 2, 14, 15, 16, 17, 3, 4, 5, 6, 7, 8, 9, 10, 11, 12, 13, 18, 19, 20, 21, 22, 23, 24, 25, 26, 27]
def tx_S (w : Nat) : Nat := (tx_cs.getD w (144, 0)).1
def tx_L (w : Nat) : Nat := (tx_cs.getD w (144, 0)).2
def tx_p (w : Nat) : Nat := tx_pm.getD w 0
def tx_q (w : Nat) : Nat := tx_pi.getD w 0
theorem tx_pq : ∀ i, i < 28 → tx_q i < 28 ∧ tx_p (tx_q i) = i := by decide +kernel
theorem tx_qp : ∀ w, w < 28 → tx_p w < 28 ∧ tx_q (tx_p w) = w := by decide +kernel
set_option maxRecDepth 100000 in
theorem tx_csk : ∀ w, w < 28 → tx_S w + tx_L w < 144 ∧ tx_cc (tx_S w + tx_L w) = 32 ∧ (∀ t, t < tx_L w → tx_cc (tx_S w + t) ≠ 32 ∧ tx_cc (tx_S w + t) < 256 ∧ tx_cc (tx_S w + t) = tx_c ((tx_ws.getD (tx_p w) (0, 0)).1 + t)) ∧ tx_S w + tx_L w + 1 = tx_S (w + 1) ∧ (tx_ws.getD (tx_p w) (0, 0)).2 = tx_L w := by decide +kernel
set_option maxRecDepth 100000 in
theorem tx_b2 : ∀ i, i < 144 → ((((n_tb2.getD i 0) &&& (255 : Int32)).toUInt32 % 65536).toInt32 = nI (tx_cc i) ∧ tx_cc i < 256) := by decide +kernel
set_option maxRecDepth 100000 in
theorem tx_u16 : ∀ y, y < 256 → ((nI y).toUInt32.toUInt16.toUInt32.toInt32 == nI y) = true ∧ ((nI y).toUInt32 % 65536).toInt32 = nI y := by decide +kernel
theorem e_chr {i : Nat} (hi : i < 144) (M : nM) : fJ0_charAt_5068e_t2 (nI i) M = some (nI (tx_cc i), M) := by
  obtain ⟨b1, b2⟩ := tx_b2 i hi
  have u := (tx_u16 _ b2).1
  have h1 : fJ0_checkIndex_df160 (nI i) (Int32.ofNat 144) M = some ((), M) := by
    unfold fJ0_checkIndex_df160 fJ3_checkIndex_8e157
    rw [if_neg (nI_pos (by omega)), if_pos (show nI i < Int32.ofNat 144 from nI_lt (b := 144) hi (by decide))]
    rfl
  have h2 : fJ1_charAt_3b067_t2 (nI i) M = some (nI (tx_cc i), M) := by
    unfold fJ1_charAt_3b067_t2
    rw [h1, Option.bind_some, n_ib_nI hi (by decide), n_chk_t, nI_clamp (show i < 2 ^ 31 by omega), b1, u, n_chk_t]
  show (fJ1_charAt_3b067_t2 (nI i) M).bind (fun p2 => n_chk (p2.1.toUInt32.toUInt16.toUInt32.toInt32 == p2.1) (some (p2.1, p2.2))) = _
  rw [h2, Option.bind_some]
  show n_chk ((nI (tx_cc i)).toUInt32.toUInt16.toUInt32.toInt32 == nI (tx_cc i)) (some (nI (tx_cc i), M)) = _
  rw [u, n_chk_t]
theorem e_len2 (M : nM) : fJ0_length_8abf5_t2 M = some (nI 144, M) := by
  show some (((Int32.ofNat 144) >>> ((0 : Int32) &&& 31)), M) = _
  rw [show (Int32.ofNat 144) >>> ((0 : Int32) &&& 31) = nI 144 by decide]
theorem isw_eq (N f : Nat) (x1 x2 x3 x4 : Int32) (M : nM) : fX6_isWord_3 N (f + 1) x1 x2 x3 x4 M = if x2 ≤ x4 then some ((1 : Int32), M) else (fJ0_charAt_5068e_t2 x4 M).bind fun p1 => n_chk (n_ib 400 ((x3 + x4) - x1)) (if p1.1 = ((p1.2 81 ((x3 + x4) - x1).toNatClampNeg) &&& (255 : Int32)) then fX6_isWord_3 N f x1 x2 x3 (x4 + (1 : Int32)) p1.2 else some ((0 : Int32), p1.2)) := rfl
theorem c_isw {N k p w : Nat} {b : Nat → Nat} {M : nM} (hw : w < 28) (hC : tx_C b k M) (hp : p + tx_L w ≤ k) : ∀ (d t f : Nat), t + d = tx_L w → d < f → ∃ r : Bool, fX6_isWord_3 N f (nI (tx_S w)) (nI (tx_S w + tx_L w)) (nI p) (nI (tx_S w + t)) M = some (cb r, M) ∧ (r = true ↔ ∀ i, t ≤ i → i < tx_L w → tx_cc (tx_S w + i) = b (p + i)) := by
  obtain ⟨k1, k2, k3, k4, k5⟩ := tx_csk w hw
  have hk := hC.1
  intro d
  induction d with
  | zero =>
    intro t f ht hf
    obtain ⟨f, rfl⟩ : ∃ g, f = g + 1 := ⟨f - 1, by omega⟩
    refine ⟨true, ?_, ⟨fun _ i i1 i2 => absurd i1 (by omega), fun _ => rfl⟩⟩
    rw [isw_eq, if_pos (nI_le (by omega) (by omega))]
    rfl
  | succ d ih =>
    intro t f ht hf
    obtain ⟨f, rfl⟩ : ∃ g, f = g + 1 := ⟨f - 1, by omega⟩
    obtain ⟨n1, n2, n3⟩ := k3 t (by omega)
    have hb := hC.2 (p + t) (by omega)
    have e1 : nI p + nI (tx_S w + t) - nI (tx_S w) = nI (p + t) := by
      rw [nI_add, pk_sub (by omega)]
      exact congrArg nI (by omega)
    rw [isw_eq, if_neg (nI_ge (by omega) (by omega)), e_chr (by omega), Option.bind_some, e1, n_ib_nI (show p + t < 400 by omega) (by decide), n_chk_t, nI_clamp (show p + t < 2 ^ 31 by omega)]
    show ∃ r : Bool, (if nI (tx_cc (tx_S w + t)) = (M 81 (p + t) &&& (255 : Int32)) then fX6_isWord_3 N f (nI (tx_S w)) (nI (tx_S w + tx_L w)) (nI p) (nI (tx_S w + t) + (1 : Int32)) M else some ((0 : Int32), M)) = some (cb r, M) ∧ _
    rw [hb.1, tx_255 _ hb.2, nI_1]
    by_cases z : tx_cc (tx_S w + t) = b (p + t)
    · rw [if_pos (congrArg nI z)]
      obtain ⟨r, r1, r2⟩ := ih (t + 1) f (by omega) (by omega)
      refine ⟨r, r1, r2.trans ⟨fun h i i1 i2 => ?_, fun h i i1 i2 => h i (by omega) i2⟩⟩
      by_cases y : i = t
      · rw [y]; exact z
      · exact h i (by omega) i2
    · rw [if_neg (fun y => z ((nI_eq (by omega) (by omega)).mp y))]
      exact ⟨false, rfl, ⟨fun h => absurd h (by decide), fun h => absurd (h t (Nat.le_refl _) (by omega)) z⟩⟩
theorem wk_eq (N f : Nat) (x1 x2 x3 x4 x5 : Int32) (M : nM) : fX6_wordKind_10 N (f + 1) x1 x2 x3 x4 x5 M = (fJ0_length_8abf5_t2 M).bind fun p1 => if p1.1 ≤ x5 then some ((1 : Int32), p1.2) else (fJ0_charAt_5068e_t2 x5 p1.2).bind fun p2 => if ¬ p2.1 = (32 : Int32) then fX6_wordKind_10 N f x1 x2 x3 x4 (x5 + (1 : Int32)) p2.2 else if ¬ (x5 - x4) = (x2 - x1) then fX6_wordKind_10 N f x1 x2 (x3 + (1 : Int32)) (x5 + (1 : Int32)) (x5 + (1 : Int32)) p2.2 else (fX6_isWord N x4 x5 x1 p2.2).bind fun p7 => if p7.1 = 0 then fX6_wordKind_10 N f x1 x2 (x3 + (1 : Int32)) (x5 + (1 : Int32)) (x5 + (1 : Int32)) p7.2 else some (x3, p7.2) := rfl
theorem c_wks {N w : Nat} {M : nM} {x1 x2 x3 x4 : Int32} (hw : w < 28) : ∀ (d t f : Nat), t + d = tx_L w → fX6_wordKind_10 N (f + d) x1 x2 x3 x4 (nI (tx_S w + t)) M = fX6_wordKind_10 N f x1 x2 x3 x4 (nI (tx_S w + tx_L w)) M := by
  obtain ⟨k1, k2, k3, k4, k5⟩ := tx_csk w hw
  intro d
  induction d with
  | zero =>
    intro t f ht
    rw [show t = tx_L w by omega]
    rfl
  | succ d ih =>
    intro t f ht
    obtain ⟨n1, n2, n3⟩ := k3 t (by omega)
    show fX6_wordKind_10 N ((f + d) + 1) x1 x2 x3 x4 (nI (tx_S w + t)) M = _
    rw [wk_eq, e_len2, Option.bind_some, if_neg (show ¬ nI 144 ≤ nI (tx_S w + t) from nI_ge (b := 144) (by omega) (by decide)), e_chr (by omega), Option.bind_some, if_pos (show ¬ nI (tx_cc (tx_S w + t)) = (32 : Int32) from fun z => n1 ((nI_eq (b := 32) (by omega) (by decide)).mp z)), nI_1]
    exact ih (t + 1) f (by omega)
/-- the class's word from p to e: which, of those from w on -/
def tx_kw (b : Nat → Nat) (p e : Nat) : Nat → Nat → Int32
  | 0, _ => 1
  | d + 1, w => if tx_is b p e (tx_ws.getD (tx_p w) (0, 0)) = true then nI (128 + w) else tx_kw b p e d (w + 1)
theorem c_wkc {N k p e : Nat} {b : Nat → Nat} {M : nM} (hN : 1000 ≤ N) (hC : tx_C b k M) (hpe : p < e) (hek : e ≤ k) : ∀ (d w f : Nat), w + d = 28 → 145 ≤ f + tx_S w → fX6_wordKind_10 N f (nI p) (nI e) (nI (128 + w)) (nI (tx_S w)) (nI (tx_S w)) M = some (tx_kw b p e d w, M) := by
  have hk := hC.1
  intro d
  induction d with
  | zero =>
    intro w f hw hf
    have : tx_S w = 144 := by rw [show w = 28 by omega]; rfl
    rw [this] at hf ⊢
    obtain ⟨f, rfl⟩ : ∃ g, f = g + 1 := ⟨f - 1, by omega⟩
    rw [wk_eq, e_len2, Option.bind_some, if_pos (show nI 144 ≤ nI 144 by decide)]
    rfl
  | succ d ih =>
    intro w f hw hf
    obtain ⟨k1, k2, k3, k4, k5⟩ := tx_csk w (by omega)
    obtain ⟨f, rfl⟩ : ∃ g, f = (g + 1) + tx_L w := ⟨f - 1 - tx_L w, by omega⟩
    have sk := c_wks (N := N) (w := w) (M := M) (x1 := nI p) (x2 := nI e) (x3 := nI (128 + w)) (x4 := nI (tx_S w)) (by omega) (tx_L w) 0 (f + 1) (by omega)
    rw [show tx_S w + 0 = tx_S w from rfl] at sk
    rw [sk, wk_eq, e_len2, Option.bind_some, if_neg (show ¬ nI 144 ≤ nI (tx_S w + tx_L w) from nI_ge (b := 144) (by omega) (by decide)), e_chr (by omega), Option.bind_some, k2, if_neg (not_not_intro (show nI 32 = (32 : Int32) from rfl)), nI_1, nI_1, pk_sub (show tx_S w ≤ tx_S w + tx_L w by omega), pk_sub (show p ≤ e by omega), show tx_S w + tx_L w - tx_S w = tx_L w by omega, k4]
    have go := ih (w + 1) f (by omega) (by omega)
    rw [show 128 + w + 1 = 128 + (w + 1) by omega]
    unfold tx_kw
    by_cases z : tx_L w = e - p
    · rw [if_neg (not_not_intro (congrArg nI z))]
      obtain ⟨r, r1, r2⟩ := c_isw (N := N) (p := p) (w := w) (by omega) hC (by omega) (tx_L w) 0 N (by omega) (by omega)
      rw [show tx_S w + 0 = tx_S w from rfl] at r1
      have e1 : fX6_isWord N (nI (tx_S w)) (nI (tx_S w + tx_L w)) (nI p) M = some (cb r, M) := r1
      show ((fX6_isWord N (nI (tx_S w)) (nI (tx_S w + tx_L w)) (nI p) M).bind _) = _
      rw [e1, Option.bind_some]
      have er : r = tx_is b p e (tx_ws.getD (tx_p w) (0, 0)) := by
        rw [Bool.eq_iff_iff, r2]
        unfold tx_is
        rw [decide_eq_true (show e - p = (tx_ws.getD (tx_p w) (0, 0)).2 by rw [k5]; exact z.symm), Bool.true_and, tx_mt_t, k5]
        exact ⟨fun h t ht => by rw [← (k3 t ht).2.2]; exact h t (by omega) ht, fun h i _ hi => by rw [(k3 i hi).2.2]; exact h i hi⟩
      rw [← er]
      cases r with
      | true => rfl
      | false =>
        rw [if_pos (show (cb false : Int32) = 0 from rfl), if_neg (show ¬ false = true by decide)]
        exact go
    · rw [if_pos (fun y => z ((nI_eq (by omega) (by omega)).mp y)), if_neg (show ¬ tx_is b p e (tx_ws.getD (tx_p w) (0, 0)) = true from fun y => by
        unfold tx_is at y
        rw [decide_eq_false (show ¬ e - p = (tx_ws.getD (tx_p w) (0, 0)).2 by rw [k5]; omega), Bool.false_and] at y
        exact absurd y (by decide))]
      exact go
set_option maxRecDepth 100000 in
theorem tx_two : ∀ i, i < 28 → ∀ j, j < 28 → i ≠ j → (tx_ws.getD i (0, 0)).2 = (tx_ws.getD j (0, 0)).2 → ∃ t, t < (tx_ws.getD i (0, 0)).2 ∧ tx_c ((tx_ws.getD i (0, 0)).1 + t) ≠ tx_c ((tx_ws.getD j (0, 0)).1 + t) := by decide +kernel
theorem tx_uni {b : Nat → Nat} {p e i j : Nat} (hi : i < 28) (hj : j < 28) (h1 : tx_is b p e (tx_ws.getD i (0, 0)) = true) (h2 : tx_is b p e (tx_ws.getD j (0, 0)) = true) : i = j := by
  unfold tx_is at h1 h2
  rw [Bool.and_eq_true, decide_eq_true_eq, tx_mt_t] at h1 h2
  by_cases z : i = j
  · exact z
  · obtain ⟨t, t1, t2⟩ := tx_two i hi j hj z (by rw [← h1.1, ← h2.1])
    exact absurd ((h1.2 t t1).trans (h2.2 t (by rw [← h2.1, h1.1]; exact t1)).symm) t2
theorem tx_wn_s {b : Nat → Nat} {p e : Nat} : ∀ (d i : Nat), i + d = 28 → (tx_wn b p e d i < 28 → tx_is b p e (tx_ws.getD (tx_wn b p e d i) (0, 0)) = true) ∧ (tx_wn b p e d i = 28 → ∀ j, i ≤ j → j < 28 → ¬ tx_is b p e (tx_ws.getD j (0, 0)) = true)
  | 0, i, hi => ⟨fun h => absurd h (by show ¬ 28 < 28; omega), fun _ j h1 h2 => absurd h1 (by omega)⟩
  | d + 1, i, hi => by
    unfold tx_wn
    by_cases h : tx_is b p e (tx_ws.getD i (0, 0)) = true
    · rw [if_pos h]
      exact ⟨fun _ => h, fun z => absurd z (by omega)⟩
    · rw [if_neg h]
      obtain ⟨a1, a2⟩ := tx_wn_s (b := b) (p := p) (e := e) d (i + 1) (by omega)
      refine ⟨a1, fun z j j1 j2 => ?_⟩
      by_cases y : j = i
      · rw [y]; exact h
      · exact a2 z j (by omega) j2
theorem tx_kw_n {b : Nat → Nat} {p e : Nat} : ∀ (d w : Nat), w + d = 28 → (∀ j, j < 28 → ¬ tx_is b p e (tx_ws.getD j (0, 0)) = true) → tx_kw b p e d w = 1
  | 0, _, _, _ => rfl
  | d + 1, w, hw, h => by
    unfold tx_kw
    rw [if_neg (h _ (tx_qp w (by omega)).1)]
    exact tx_kw_n d (w + 1) (by omega) h
theorem tx_kw_y {b : Nat → Nat} {p e i : Nat} (hi : i < 28) (h : tx_is b p e (tx_ws.getD i (0, 0)) = true) : ∀ (d w : Nat), w + d = 28 → w ≤ tx_q i → tx_kw b p e d w = nI (128 + tx_q i)
  | 0, w, hw, hle => absurd (tx_pq i hi).1 (by omega)
  | d + 1, w, hw, hle => by
    obtain ⟨q1, q2⟩ := tx_pq i hi
    obtain ⟨p1, p2⟩ := tx_qp w (by omega)
    unfold tx_kw
    by_cases z : w = tx_q i
    · rw [if_pos (show tx_is b p e (tx_ws.getD (tx_p w) (0, 0)) = true by rw [z, q2]; exact h), z]
    · rw [if_neg (show ¬ tx_is b p e (tx_ws.getD (tx_p w) (0, 0)) = true from fun y => z (by rw [← tx_uni p1 hi y h, p2]))]
      exact tx_kw_y hi h d (w + 1) (by omega) (by omega)
theorem e_wk {N k p e : Nat} {b : Nat → Nat} {M : nM} (hN : 1000 ≤ N) (hC : tx_C b k M) (hpe : p < e) (hek : e ≤ k) : fX6_wordKind N (nI p) (nI e) M = some (nI (if tx_wn b p e 28 0 < 28 then 128 + tx_q (tx_wn b p e 28 0) else 1), M) := by
  have h := c_wkc (N := N) hN hC hpe hek 28 0 N rfl (by omega)
  have h2 : fX6_wordKind N (nI p) (nI e) M = some (tx_kw b p e 28 0, M) := h
  rw [h2]
  obtain ⟨s1, s2⟩ := tx_wn_s (b := b) (p := p) (e := e) 28 0 rfl
  have hle := (tx_wn_i (b := b) (p := p) (e := e) 28 0 rfl).1
  by_cases z : tx_wn b p e 28 0 < 28
  · rw [if_pos z, tx_kw_y z (s1 z) 28 0 rfl (Nat.zero_le _)]
  · rw [if_neg z, tx_kw_n 28 0 rfl (fun j hj => s2 (by omega) j (Nat.zero_le _) hj)]
    rfl
/-! signs -/
def tx_sg (i : Nat) : Nat := [59, 43, 45, 42, 47, 40, 41, 60, 61, 62].getD i 0
set_option maxRecDepth 100000 in
theorem tx_b1 : ∀ i, i < 10 → ∀ x, x < 256 → (n_tb1.getD i 0 = (nI x).toInt8.toInt32 ↔ tx_sg i = x) := by decide +kernel
set_option maxRecDepth 100000 in
theorem tx_mks : ∀ x, x < 256 → (tx_mk x = true ↔ ∃ j, j < 10 ∧ tx_sg j = x) := by decide +kernel
theorem ix_eq (N f : Nat) (x3 x4 x5 : Int32) (M : nM) : fJ1_indexOfChar_4cfef_t1_7 N (f + 1) x3 x4 x5 M = if x3 ≤ x5 then some ((-1 : Int32), M) else n_chk (n_ib 10 x5) (if ¬ (n_tb1.getD x5.toNatClampNeg 0) = x4 then fJ1_indexOfChar_4cfef_t1_7 N f x3 x4 (x5 + (1 : Int32)) M else some (x5, M)) := rfl
theorem c_ix {N x : Nat} {M : nM} (hx : x < 256) : ∀ (d i f : Nat), i + d = 10 → d < f → ∃ r : Int32, fJ1_indexOfChar_4cfef_t1_7 N f (nI 10) (nI x).toInt8.toInt32 (nI i) M = some (r, M) ∧ (r < 0 ↔ ∀ j, i ≤ j → j < 10 → tx_sg j ≠ x) := by
  intro d
  induction d with
  | zero =>
    intro i f hi hf
    obtain ⟨f, rfl⟩ : ∃ g, f = g + 1 := ⟨f - 1, by omega⟩
    rw [ix_eq, if_pos (nI_le (by omega) (by omega))]
    exact ⟨-1, rfl, ⟨fun _ j j1 j2 => absurd j1 (by omega), fun _ => by decide⟩⟩
  | succ d ih =>
    intro i f hi hf
    obtain ⟨f, rfl⟩ : ∃ g, f = g + 1 := ⟨f - 1, by omega⟩
    rw [ix_eq, if_neg (nI_ge (by omega) (by omega)), n_ib_nI (show i < 10 by omega) (by decide), n_chk_t, nI_clamp (show i < 2 ^ 31 by omega), nI_1]
    by_cases z : tx_sg i = x
    · rw [if_neg (not_not_intro ((tx_b1 i (by omega) x hx).mpr z))]
      exact ⟨_, rfl, ⟨fun h => absurd h (nI_pos (by omega)), fun h => absurd z (h i (Nat.le_refl _) (by omega))⟩⟩
    · rw [if_pos (fun y => z ((tx_b1 i (by omega) x hx).mp y))]
      obtain ⟨r, r1, r2⟩ := ih (i + 1) f (by omega) (by omega)
      refine ⟨r, r1, r2.trans ⟨fun h j j1 j2 => ?_, fun h j j1 j2 => h j (by omega) j2⟩⟩
      by_cases y : j = i
      · rw [y]; exact z
      · exact h j (by omega) j2
theorem e_ix {N x : Nat} {M : nM} (hN : 1000 ≤ N) (hx : x < 256) : ∃ r : Int32, fJ0_indexOf_0f7a4_t1 N ((nI x).toUInt32 % 65536).toInt32 M = some (r, M) ∧ (r < 0 ↔ ¬ tx_mk x = true) := by
  obtain ⟨r, r1, r2⟩ := c_ix (N := N) (M := M) hx 10 0 N rfl (by omega)
  refine ⟨r, ?_, ?_⟩
  · rw [(tx_u16 x hx).2]
    have h1 : fJ1_canEncode_9a6ad (nI x) M = some (1, M) := by
      unfold fJ1_canEncode_9a6ad
      rw [if_neg (nI_pos (by omega)), if_neg (show ¬ (255 : Int32) < nI x from nI_nlt (b := x) (a := 255) (by omega) (by decide))]
    have h2 : fJ1_indexOf_4cfef_t1 N (nI x) (0 : Int32) (nI 10) M = some (r, M) := by
      unfold fJ1_indexOf_4cfef_t1
      rw [h1, Option.bind_some, if_pos (show ¬ (1 : Int32) = 0 by decide)]
      show (if (if (0 : Int32) < (0 : Int32) then (0 : Int32) else 0) < (if (Int32.ofNat 10) < nI 10 then (Int32.ofNat 10) else nI 10) then ((fJ1_indexOfChar_4cfef_t1 N (nI x) (if (0 : Int32) < (0 : Int32) then (0 : Int32) else 0) (if (Int32.ofNat 10) < nI 10 then (Int32.ofNat 10) else nI 10) M).bind fun p4 => some (p4.1, p4.2)) else some ((-1 : Int32), M)) = _
      rw [if_neg (show ¬ (0 : Int32) < 0 by decide), if_neg (show ¬ (Int32.ofNat 10) < nI 10 by decide), if_pos (show (0 : Int32) < nI 10 by decide)]
      have r3 : fJ1_indexOfChar_4cfef_t1 N (nI x) (0 : Int32) (nI 10) M = some (r, M) := r1
      rw [r3]
      rfl
    have h3 : fJ0_length_8abf5_t1 M = some (nI 10, M) := by
      show some (((Int32.ofNat 10) >>> ((0 : Int32) &&& 31)), M) = _
      rw [show (Int32.ofNat 10) >>> ((0 : Int32) &&& 31) = nI 10 by decide]
    have h4 : fJ0_indexOf_7cf53_t1 N (nI x) (0 : Int32) M = some (r, M) := by
      show ((fJ0_length_8abf5_t1 M).bind fun p3 => (fJ1_indexOf_4cfef_t1 N (nI x) (0 : Int32) p3.1 p3.2).bind fun p4 => some (p4.1, p4.2)) = _
      rw [h3, Option.bind_some]
      show ((fJ1_indexOf_4cfef_t1 N (nI x) (0 : Int32) (nI 10) M).bind fun p4 => some (p4.1, p4.2)) = _
      rw [h2]
      rfl
    unfold fJ0_indexOf_0f7a4_t1
    rw [h4]
    rfl
  · rw [r2, tx_mks x hx]
    exact ⟨fun h ⟨j, j1, j2⟩ => h j (Nat.zero_le _) j1 j2, fun h j _ j2 e => h ⟨j, j2, e⟩⟩
