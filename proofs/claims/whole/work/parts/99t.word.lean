/-! ===== text: the model finds a word ===== -/
/-- the words: where each begins among the model's, how long it is -/
def tx_ws : List (Nat × Nat) := [(1, 5), (7, 3), (11, 5), (17, 4), (22, 2), (25, 3), (29, 3), (33, 7), (41, 4), (46, 4), (51, 5), (57, 5), (63, 4), (68, 4), (73, 5), (79, 4), (84, 6), (91, 4), (96, 2), (99, 6), (106, 4), (111, 2), (114, 3), (118, 5), (124, 4), (129, 6), (136, 5), (142, 2)]
def tx_c (i : Nat) : Nat := n_mw.getD i 0
theorem tx_wsL : tx_ws.length = 28 := rfl
set_option maxRecDepth 100000 in
theorem tx_wsk : ∀ i, i < 28 → (tx_ws.getD i (0, 0)).1 + (tx_ws.getD i (0, 0)).2 ≤ 144 ∧ 1 ≤ (tx_ws.getD i (0, 0)).1 ∧ tx_c ((tx_ws.getD i (0, 0)).1 + (tx_ws.getD i (0, 0)).2) = 32 ∧ (∀ t, t < (tx_ws.getD i (0, 0)).2 → tx_c ((tx_ws.getD i (0, 0)).1 + t) ≠ 32 ∧ tx_c ((tx_ws.getD i (0, 0)).1 + t) < 256) ∧ (tx_ws.getD i (0, 0)).1 + (tx_ws.getD i (0, 0)).2 = (if i = 27 then 144 else (tx_ws.getD (i + 1) (0, 0)).1 - 1) := by decide +kernel
def tx_mt (b : Nat → Nat) (p s : Nat) : Nat → Bool
  | 0 => true
  | l + 1 => tx_mt b p s l && decide (tx_c (s + l) = b (p + l))
theorem tx_mt_t {b : Nat → Nat} {p s : Nat} : ∀ l : Nat, tx_mt b p s l = true ↔ ∀ t, t < l → tx_c (s + t) = b (p + t)
  | 0 => ⟨fun _ t ht => absurd ht (by omega), fun _ => rfl⟩
  | l + 1 => by
    unfold tx_mt
    rw [Bool.and_eq_true, tx_mt_t l, decide_eq_true_eq]
    constructor
    · rintro ⟨h1, h2⟩ t ht
      by_cases e : t = l
      · rw [e]; exact h2
      · exact h1 t (by omega)
    · intro h
      exact ⟨fun t ht => h t (by omega), h l (by omega)⟩
/-- the word that stands from p to e -/
def tx_is (b : Nat → Nat) (p e : Nat) (x : Nat × Nat) : Bool := decide (e - p = x.2) && tx_mt b p x.1 x.2
def tx_wi (b : Nat → Nat) (p e : Nat) : Nat → Nat → Int32
  | 0, _ => -1
  | d + 1, i => if tx_is b p e (tx_ws.getD i (0, 0)) = true then nI i else tx_wi b p e d (i + 1)
theorem w94_eq (N f : Nat) (k5 : Int32 → Int32 → Int32 → Int32 → nM → Option (Int32 × nM)) (x1 x2 x3 x4 : Int32) (M : nM) : fX12_wordAt_94 N k5 (f + 1) x1 x2 x3 x4 M = n_chk (n_ib 145 x4) (if (M 118 x4.toNatClampNeg) = (32 : Int32) then k5 x1 x2 x3 x4 M else fX12_wordAt_94 N k5 f x1 x2 x3 (x4 + (1 : Int32)) M) := rfl
theorem w61_eq (N : Nat) (k5 : Int32 → Int32 → Int32 → Int32 → nM → Option (Int32 × nM)) (x1 x2 x3 x4 x5 : Int32) (M : nM) : fX12_wordAt_61 N k5 x1 x2 x3 x4 x5 M = if ¬ (x1 + x5) = x2 then fX12_wordAt_94 N k5 N x1 x2 x3 (x4 + (1 : Int32)) M else n_chk (n_ib 145 ((x4 + (1 : Int32)) + x5)) (if ¬ (M 118 ((x4 + (1 : Int32)) + x5).toNatClampNeg) = (32 : Int32) then fX12_wordAt_94 N k5 N x1 x2 x3 (x4 + (1 : Int32)) M else some (x3, M)) := rfl
theorem w20_eq (N f : Nat) (k5 : Int32 → Int32 → Int32 → Int32 → nM → Option (Int32 × nM)) (x1 x2 x3 x4 x5 : Int32) (M : nM) : fX12_wordAt_20 N k5 (f + 1) x1 x2 x3 x4 x5 M = if x2 ≤ (x1 + x5) then fX12_wordAt_61 N k5 x1 x2 x3 x4 x5 M else n_chk (n_ib 145 ((x4 + (1 : Int32)) + x5)) (n_chk (n_ib 400 (x1 + x5)) (if ¬ (M 118 ((x4 + (1 : Int32)) + x5).toNatClampNeg) = (M 117 (x1 + x5).toNatClampNeg) then fX12_wordAt_61 N k5 x1 x2 x3 x4 x5 M else fX12_wordAt_20 N k5 f x1 x2 x3 x4 (x5 + (1 : Int32)) M)) := rfl
theorem w5_eq (N f : Nat) (x1 x2 x3 x4 : Int32) (M : nM) : fX12_wordAt_5 N (f + 1) x1 x2 x3 x4 M = if (144 : Int32) ≤ x4 then some ((-1 : Int32), M) else fX12_wordAt_20 N (fun x1 x2 x3 x4 M => fX12_wordAt_5 N f x1 x2 x3 x4 M) N x1 x2 (x3 + (1 : Int32)) x4 (0 : Int32) M := rfl
theorem c_w94 {N s l : Nat} {k5 : Int32 → Int32 → Int32 → Int32 → nM → Option (Int32 × nM)} {x1 x2 x3 : Int32} {M : nM} (hw : ∀ i, i < 145 → M 118 i = nI (tx_c i)) (hs : s + l ≤ 144) (h32 : tx_c (s + l) = 32) (hn : ∀ t, t < l → tx_c (s + t) ≠ 32 ∧ tx_c (s + t) < 256) : ∀ (d t f : Nat), t + d = l → d < f → fX12_wordAt_94 N k5 f x1 x2 x3 (nI (s + t)) M = k5 x1 x2 x3 (nI (s + l)) M := by
  intro d
  induction d with
  | zero =>
    intro t f ht hf
    obtain ⟨f, rfl⟩ : ∃ g, f = g + 1 := ⟨f - 1, by omega⟩
    rw [w94_eq, show t = l by omega, n_ib_nI (by omega) (by decide), n_chk_t, nI_clamp (by omega), hw _ (by omega), h32, if_pos (show nI 32 = (32 : Int32) from rfl)]
  | succ d ih =>
    intro t f ht hf
    obtain ⟨f, rfl⟩ : ∃ g, f = g + 1 := ⟨f - 1, by omega⟩
    obtain ⟨n1, n2⟩ := hn t (by omega)
    rw [w94_eq, n_ib_nI (by omega) (by decide), n_chk_t, nI_clamp (by omega), hw _ (by omega), if_neg (show ¬ nI (tx_c (s + t)) = (32 : Int32) from fun z => n1 ((nI_eq (b := 32) (by omega) (by decide)).mp z)), nI_1]
    exact ih (t + 1) f (by omega) (by omega)
theorem c_w20 {N s l p e k : Nat} {b : Nat → Nat} {k5 : Int32 → Int32 → Int32 → Int32 → nM → Option (Int32 × nM)} {x3 : Int32} {M : nM} (hN : 1000 ≤ N) (hM : tx_M b k M) (hw : ∀ i, i < 145 → M 118 i = nI (tx_c i)) (hs1 : 1 ≤ s) (hs : s + l ≤ 144) (h32 : tx_c (s + l) = 32) (hn : ∀ t, t < l → tx_c (s + t) ≠ 32 ∧ tx_c (s + t) < 256) (hek : e ≤ k) (hpe : p < e) (hg : ∀ i, p ≤ i → i < e → tx_g (b i) = 1) : ∀ (d t f : Nat), t + d = l → d + 1 < f → p + t ≤ e → (∀ i, i < t → tx_c (s + i) = b (p + i)) → fX12_wordAt_20 N k5 f (nI p) (nI e) x3 (nI (s - 1)) (nI t) M = if tx_is b p e (s, l) = true then some (x3, M) else k5 (nI p) (nI e) x3 (nI (s + l)) M := by
  have hk := hM.1
  have e1 : nI (s - 1) + (1 : Int32) = nI s := by rw [nI_1, show s - 1 + 1 = s by omega]
  have l32 : ∀ i, p ≤ i → i < e → b i ≠ 32 := fun i h1 h2 z => by
    have := hg i h1 h2
    rw [z] at this
    exact absurd this (by decide)
  have to94 : fX12_wordAt_94 N k5 N (nI p) (nI e) x3 (nI s) M = k5 (nI p) (nI e) x3 (nI (s + l)) M := c_w94 (N := N) (s := s) (l := l) (k5 := k5) hw hs h32 hn l 0 N (by omega) (by omega)
  have no : ∀ t, t < l → t < e - p → tx_c (s + t) ≠ b (p + t) → tx_is b p e (s, l) = false := fun t t1 t2 hne => by
    unfold tx_is
    cases hm : tx_mt b p (s, l).1 (s, l).2 with
    | false => rw [Bool.and_false]
    | true => exact absurd ((tx_mt_t l).mp hm t t1) hne
  have nol : e - p ≠ l → tx_is b p e (s, l) = false := fun h => by
    unfold tx_is
    rw [decide_eq_false h, Bool.false_and]
  have w61 : ∀ t, p + t ≤ e → t ≤ l → (∀ i, i < t → tx_c (s + i) = b (p + i)) → (p + t < e → t < l → tx_c (s + t) ≠ b (p + t)) → fX12_wordAt_61 N k5 (nI p) (nI e) x3 (nI (s - 1)) (nI t) M = if tx_is b p e (s, l) = true then some (x3, M) else k5 (nI p) (nI e) x3 (nI (s + l)) M := fun t h1 h2 h3 h4 => by
    rw [w61_eq, nI_add, e1, nI_add]
    by_cases z : p + t = e
    · rw [if_neg (not_not_intro (congrArg nI z)), n_ib_nI (by omega) (by decide), n_chk_t, nI_clamp (by omega), hw _ (by omega)]
      by_cases y : t = l
      · subst y
        rw [h32, if_neg (not_not_intro (show nI 32 = (32 : Int32) from rfl)), if_pos (show tx_is b p e (s, t) = true by
          unfold tx_is
          rw [decide_eq_true (show e - p = (s, t).2 by show e - p = t; omega), Bool.true_and]
          exact (tx_mt_t t).mpr h3)]
      · obtain ⟨n1, n2⟩ := hn t (by omega)
        rw [if_pos (show ¬ nI (tx_c (s + t)) = (32 : Int32) from fun z => n1 ((nI_eq (b := 32) (by omega) (by decide)).mp z)), nol (by omega), if_neg (by decide)]
        exact to94
    · rw [if_pos (fun y => z ((nI_eq (by omega) (by omega)).mp y))]
      have : tx_is b p e (s, l) = false := by
        by_cases y : t < l
        · exact no t y (by omega) (h4 (by omega) y)
        · exact nol (by omega)
      rw [this, if_neg (by decide)]
      exact to94
  intro d
  induction d with
  | zero =>
    intro t f ht hf hte hm
    obtain ⟨f, rfl⟩ : ∃ g, f = g + 1 := ⟨f - 1, by omega⟩
    rw [w20_eq, nI_add, e1, nI_add]
    by_cases z : e ≤ p + t
    · rw [if_pos (nI_le z (by omega))]
      exact w61 t hte (by omega) hm (fun h => absurd h (by omega))
    · have hb := hM.2.2.1 (p + t) (by omega)
      have := l32 (p + t) (by omega) (by omega)
      rw [if_neg (nI_ge (by omega) (by omega)), n_ib_nI (show s + t < 145 by omega) (by decide), n_ib_nI (show p + t < 400 by omega) (by decide), n_chk_t, n_chk_t, nI_clamp (show s + t < 2 ^ 31 by omega), nI_clamp (show p + t < 2 ^ 31 by omega), hw _ (by omega), hb.1, show t = l by omega, h32, if_pos (show ¬ nI 32 = nI (b (p + l)) from fun y => by
        have y2 := (nI_eq (by omega) (by rw [show l = t by omega]; omega)).mp y
        rw [show l = t by omega] at y2
        omega)]
      have := w61 t hte (by omega) hm (fun _ h => absurd h (by omega))
      rw [show t = l by omega] at this
      exact this
  | succ d ih =>
    intro t f ht hf hte hm
    obtain ⟨f, rfl⟩ : ∃ g, f = g + 1 := ⟨f - 1, by omega⟩
    rw [w20_eq, nI_add, e1, nI_add]
    by_cases z : e ≤ p + t
    · rw [if_pos (nI_le z (by omega))]
      exact w61 t hte (by omega) hm (fun h => absurd h (by omega))
    · have hb := hM.2.2.1 (p + t) (by omega)
      obtain ⟨n1, n2⟩ := hn t (by omega)
      rw [if_neg (nI_ge (by omega) (by omega)), n_ib_nI (show s + t < 145 by omega) (by decide), n_ib_nI (show p + t < 400 by omega) (by decide), n_chk_t, n_chk_t, nI_clamp (show s + t < 2 ^ 31 by omega), nI_clamp (show p + t < 2 ^ 31 by omega), hw _ (by omega), hb.1]
      by_cases y : tx_c (s + t) = b (p + t)
      · rw [if_neg (not_not_intro (congrArg nI y)), nI_1]
        exact ih (t + 1) f (by omega) (by omega) (by omega) (fun i hi => by
          by_cases q : i = t
          · rw [q]; exact y
          · exact hm i (by omega))
      · rw [if_pos (fun q => y ((nI_eq (by omega) (by omega)).mp q))]
        exact w61 t hte (by omega) hm (fun _ _ => y)
theorem e_wordAt {N p e k : Nat} {b : Nat → Nat} {M : nM} (hN : 1000 ≤ N) (hM : tx_M b k M) (hek : e ≤ k) (hpe : p < e) (hg : ∀ i, p ≤ i → i < e → tx_g (b i) = 1) : fX12_wordAt N (nI p) (nI e) M = some (tx_wi b p e 28 0, M) := by
  have go : ∀ (d i f : Nat), i + d = 28 → d < f → fX12_wordAt_5 N f (nI p) (nI e) (nI i - 1) (nI (if i = 28 then 144 else (tx_ws.getD i (0, 0)).1 - 1)) M = some (tx_wi b p e d i, M) := by
    intro d
    induction d with
    | zero =>
      intro i f hi hf
      obtain ⟨f, rfl⟩ : ∃ g, f = g + 1 := ⟨f - 1, by omega⟩
      rw [if_pos (by omega), w5_eq, if_pos (show (144 : Int32) ≤ nI 144 by decide)]
      rfl
    | succ d ih =>
      intro i f hi hf
      obtain ⟨f, rfl⟩ : ∃ g, f = g + 1 := ⟨f - 1, by omega⟩
      obtain ⟨g1, g2, g3, g4, g5⟩ := tx_wsk i (by omega)
      rw [if_neg (by omega), w5_eq, if_neg (show ¬ (144 : Int32) ≤ nI ((tx_ws.getD i (0, 0)).1 - 1) from nI_ge (b := 144) (by omega) (by decide)), Int32.sub_add_cancel]
      have t := c_w20 (N := N) (s := (tx_ws.getD i (0, 0)).1) (l := (tx_ws.getD i (0, 0)).2) (k5 := fun x1 x2 x3 x4 M => fX12_wordAt_5 N f x1 x2 x3 x4 M) (x3 := nI i) hN hM hM.2.2.2 g2 g1 g3 g4 hek hpe hg (tx_ws.getD i (0, 0)).2 0 N (by omega) (by omega) (by omega) (fun i hi => absurd hi (by omega))
      refine (show fX12_wordAt_20 N (fun x1 x2 x3 x4 M => fX12_wordAt_5 N f x1 x2 x3 x4 M) N (nI p) (nI e) (nI i) (nI ((tx_ws.getD i (0, 0)).1 - 1)) (0 : Int32) M = _ from t).trans ?_
      unfold tx_wi
      have hp : ((tx_ws.getD i (0, 0)).1, (tx_ws.getD i (0, 0)).2) = tx_ws.getD i (0, 0) := rfl
      rw [hp]
      by_cases y : tx_is b p e (tx_ws.getD i (0, 0)) = true
      · rw [if_pos y, if_pos y]
      · rw [if_neg y, if_neg y, g5]
        have := ih (i + 1) f (by omega) (by omega)
        rw [nI_pred] at this
        rw [← this]
        by_cases q : i = 27
        · rw [if_pos q, if_pos (by omega)]
        · rw [if_neg q, if_neg (by omega)]
  exact go 28 0 N (by omega) (by omega)
