/-! ===== game ===== -/
def nmL : List Nat := [0, 1, 0, 2, 1, 3, 0, 4, 2, 5, 1, 6, 3, 7, 0, 8, 4, 9, 2, 10, 5, 11, 1, 12, 6, 13, 3, 14, 7, 15, 0]
def nm (k : Nat) : Nat := nmL.getD k 0
def nmk (k : Nat) : Nat → Int32
  | 0 => 0
  | i + 1 => nmk k i ||| ((1 : Int32) <<< (nI (nm (k - (i + 1))) &&& 31))
theorem nm_ok : ∀ k, k < 31 → (∀ v, v < nm k → bt (nmk k ((k + 1) / 2)) v = true) ∧ bt (nmk k ((k + 1) / 2)) (nm k) = false ∧ nm k < 16 := by decide +kernel
theorem e_has {v : Nat} (hv : v < 32) (s : Int32) (M : nM) : fX12_has s (nI v) M = some (cb (bt s v), M) := by
  unfold fX12_has
  rw [b_get hv]
  cases bt s v <;> rfl
theorem nm_half (k : Nat) (hk : k < 31) : (nI k + (1 : Int32)) / (2 : Int32) = nI ((k + 1) / 2) := by
  rw [nI_1]
  exact pk_div (d := 2) (by omega) (by decide) (by decide)
theorem wr12_eq (N f : Nat) (k2 : Int32 → nM → Option (Unit × nM)) (x1 x2 x3 : Int32) (M : nM) : fX9_weighRows_12 N k2 (f + 1) x1 x2 x3 M = if (2 : Int32) = 0 then none else if ((x1 + (1 : Int32)) / (2 : Int32)) < x3 then fX9_weighRows_43 N k2 N x1 x2 (0 : Int32) M else n_chk (n_ib 256 (x1 - x3)) ((fX4_withBit x2 (M 99 (x1 - x3).toNatClampNeg) (1 : Int32) M).bind fun p1 => fX9_weighRows_12 N k2 f x1 p1.1 (x3 + (1 : Int32)) p1.2) := rfl
theorem c_wr12 {N k : Nat} {k2 : Int32 → nM → Option (Unit × nM)} {M : nM} (hk : k < 31) (hM : ∀ t, t < k → M 99 t = nI (nm t)) : ∀ (d i f : Nat), i + d = (k + 1) / 2 → d < f → fX9_weighRows_12 N k2 f (nI k) (nmk k i) (nI (i + 1)) M = fX9_weighRows_43 N k2 N (nI k) (nmk k ((k + 1) / 2)) 0 M := by
  intro d
  induction d with
  | zero =>
    intro i f hi hf
    obtain ⟨f, rfl⟩ : ∃ g, f = g + 1 := ⟨f - 1, by omega⟩
    have : i = (k + 1) / 2 := by omega
    subst this
    rw [wr12_eq, if_neg (show ¬ (2 : Int32) = 0 by decide), nm_half k hk, if_pos (nI_lt (by omega) (by omega))]
  | succ d ih =>
    intro i f hi hf
    obtain ⟨f, rfl⟩ : ∃ g, f = g + 1 := ⟨f - 1, by omega⟩
    rw [wr12_eq, if_neg (show ¬ (2 : Int32) = 0 by decide), nm_half k hk, if_neg (nI_nlt (by omega) (by omega)), pk_sub (show i + 1 ≤ k by omega), n_ib_nI (show k - (i + 1) < 256 by omega) (by decide), n_chk_t, nI_clamp (show k - (i + 1) < 2 ^ 31 by omega), hM _ (by omega), e_withBit1, Option.bind_some, nI_1]
    exact ih (i + 1) f (by omega) (by omega)
theorem wr43_eq (N f : Nat) (k2 : Int32 → nM → Option (Unit × nM)) (x1 x2 x3 : Int32) (M : nM) : fX9_weighRows_43 N k2 (f + 1) x1 x2 x3 M = if (30 : Int32) ≤ x3 then n_chk (n_ib 256 x1) (k2 (x1 + (1 : Int32)) (n_up M 99 x1.toNatClampNeg x3)) else (fX4_hasBit x2 x3 M).bind fun p3 => if p3.1 = 0 then n_chk (n_ib 256 x1) (k2 (x1 + (1 : Int32)) (n_up p3.2 99 x1.toNatClampNeg x3)) else fX9_weighRows_43 N k2 f x1 x2 (x3 + (1 : Int32)) p3.2 := rfl
theorem c_wr43 {N k : Nat} {k2 : Int32 → nM → Option (Unit × nM)} {M : nM} (hk : k < 31) : ∀ (d v f : Nat), v + d = nm k → d < f → fX9_weighRows_43 N k2 f (nI k) (nmk k ((k + 1) / 2)) (nI v) M = k2 (nI (k + 1)) (n_up M 99 k (nI (nm k))) := by
  intro d
  obtain ⟨h1, h2, h3⟩ := nm_ok k hk
  induction d with
  | zero =>
    intro v f hi hf
    obtain ⟨f, rfl⟩ : ∃ g, f = g + 1 := ⟨f - 1, by omega⟩
    have : v = nm k := by omega
    subst this
    rw [wr43_eq, if_neg (show ¬ (30 : Int32) ≤ nI (nm k) from nI_ge (b := 30) (by omega) (by decide)), e_hasBit (by omega), Option.bind_some, h2, if_pos (show (cb false, M).1 = 0 from rfl), n_ib_nI (show k < 256 by omega) (by decide), n_chk_t, nI_1, nI_clamp (by omega)]
  | succ d ih =>
    intro v f hi hf
    obtain ⟨f, rfl⟩ : ∃ g, f = g + 1 := ⟨f - 1, by omega⟩
    rw [wr43_eq, if_neg (show ¬ (30 : Int32) ≤ nI v from nI_ge (b := 30) (by omega) (by decide)), e_hasBit (by omega), Option.bind_some, h1 v (by omega), if_neg (show ¬ (cb true, M).1 = 0 from (by decide : ¬ cb true = (0 : Int32))), nI_1]
    exact ih (v + 1) f (by omega) (by omega)
theorem wr2_eq (N f : Nat) (x1 : Int32) (M : nM) : fX9_weighRows_2 N (f + 1) x1 M = if (30 : Int32) < x1 then some ((), M) else fX9_weighRows_12 N (fun x1 M => fX9_weighRows_2 N f x1 M) N x1 (0 : Int32) (1 : Int32) M := rfl
theorem c_wr2 {N : Nat} {M : nM} (hN : 1000 ≤ N) : ∀ (d k f : Nat) (W : Nat → Int32), k + d = 31 → d < f → (∀ t, t < k → W t = nI (nm t)) → ∃ W' : Nat → Int32, (∀ t, t < 31 → W' t = nI (nm t)) ∧ fX9_weighRows_2 N f (nI k) (n_set M 99 W) = some ((), n_set M 99 W') := by
  intro d
  induction d with
  | zero =>
    intro k f W hk hf hW
    obtain ⟨f, rfl⟩ : ∃ g, f = g + 1 := ⟨f - 1, by omega⟩
    refine ⟨W, fun t ht => hW t (by omega), ?_⟩
    rw [wr2_eq, if_pos (show (30 : Int32) < nI k from nI_lt (a := 30) (by omega) (by omega))]
  | succ d ih =>
    intro k f W hk hf hW
    obtain ⟨f, rfl⟩ : ∃ g, f = g + 1 := ⟨f - 1, by omega⟩
    obtain ⟨W', h1, h2⟩ := ih (k + 1) f (upd W k (nI (nm k))) (by omega) (by omega) (fun t ht => by
      by_cases e : t = k
      · subst e; exact upd_eq
      · rw [upd_ne e]; exact hW t (by omega))
    refine ⟨W', h1, ?_⟩
    have hb := (nm_ok k (by omega)).2.2
    have e1 := c_wr12 (N := N) (k2 := fun x1 M => fX9_weighRows_2 N f x1 M) (M := n_set M 99 W) (show k < 31 by omega) (fun t ht => by rw [n_set_eq]; exact hW t ht) ((k + 1) / 2) 0 N (by omega) (by omega)
    have e2 := c_wr43 (N := N) (k2 := fun x1 M => fX9_weighRows_2 N f x1 M) (M := n_set M 99 W) (show k < 31 by omega) (nm k) 0 N (by omega) (by omega)
    rw [wr2_eq, if_neg (show ¬ (30 : Int32) < nI k from nI_nlt (a := 30) (by omega) (by decide))]
    refine e1.trans (e2.trans ?_)
    rw [n_up_set]
    exact h2
theorem fn12_eq (N f : Nat) (k2 : Int32 → nM → Option (Unit × nM)) (x1 x2 x3 : Int32) (M : nM) : fX12_findsNimbers_12 N k2 (f + 1) x1 x2 x3 M = if (2 : Int32) = 0 then none else if ((x1 + (1 : Int32)) / (2 : Int32)) < x3 then fX12_findsNimbers_42 N k2 N x1 x2 (0 : Int32) M else n_chk (n_ib 31 (x1 - x3)) (fX12_findsNimbers_12 N k2 f x1 (x2 ||| ((1 : Int32) <<< ((M 150 (x1 - x3).toNatClampNeg) &&& 31))) (x3 + (1 : Int32)) M) := rfl
theorem c_fn12 {N k : Nat} {k2 : Int32 → nM → Option (Unit × nM)} {M : nM} (hk : k < 31) (hM : ∀ t, t < k → M 150 t = nI (nm t)) : ∀ (d i f : Nat), i + d = (k + 1) / 2 → d < f → fX12_findsNimbers_12 N k2 f (nI k) (nmk k i) (nI (i + 1)) M = fX12_findsNimbers_42 N k2 N (nI k) (nmk k ((k + 1) / 2)) 0 M := by
  intro d
  induction d with
  | zero =>
    intro i f hi hf
    obtain ⟨f, rfl⟩ : ∃ g, f = g + 1 := ⟨f - 1, by omega⟩
    have : i = (k + 1) / 2 := by omega
    subst this
    rw [fn12_eq, if_neg (show ¬ (2 : Int32) = 0 by decide), nm_half k hk, if_pos (nI_lt (by omega) (by omega))]
  | succ d ih =>
    intro i f hi hf
    obtain ⟨f, rfl⟩ : ∃ g, f = g + 1 := ⟨f - 1, by omega⟩
    rw [fn12_eq, if_neg (show ¬ (2 : Int32) = 0 by decide), nm_half k hk, if_neg (nI_nlt (by omega) (by omega)), pk_sub (show i + 1 ≤ k by omega), n_ib_nI (show k - (i + 1) < 31 by omega) (by decide), n_chk_t, nI_clamp (show k - (i + 1) < 2 ^ 31 by omega), hM _ (by omega), nI_1]
    exact ih (i + 1) f (by omega) (by omega)
theorem fn42_eq (N f : Nat) (k2 : Int32 → nM → Option (Unit × nM)) (x1 x2 x3 : Int32) (M : nM) : fX12_findsNimbers_42 N k2 (f + 1) x1 x2 x3 M = (fX12_has x2 x3 M).bind fun p1 => if p1.1 = 0 then n_chk (n_ib 31 x1) (k2 (x1 + (1 : Int32)) (n_up p1.2 150 x1.toNatClampNeg x3)) else fX12_findsNimbers_42 N k2 f x1 x2 (x3 + (1 : Int32)) p1.2 := rfl
theorem c_fn42 {N k : Nat} {k2 : Int32 → nM → Option (Unit × nM)} {M : nM} (hk : k < 31) : ∀ (d v f : Nat), v + d = nm k → d < f → fX12_findsNimbers_42 N k2 f (nI k) (nmk k ((k + 1) / 2)) (nI v) M = k2 (nI (k + 1)) (n_up M 150 k (nI (nm k))) := by
  intro d
  obtain ⟨h1, h2, h3⟩ := nm_ok k hk
  induction d with
  | zero =>
    intro v f hi hf
    obtain ⟨f, rfl⟩ : ∃ g, f = g + 1 := ⟨f - 1, by omega⟩
    have : v = nm k := by omega
    subst this
    rw [fn42_eq, e_has (by omega), Option.bind_some, h2, if_pos (show (cb false, M).1 = 0 from rfl), n_ib_nI (show k < 31 by omega) (by decide), n_chk_t, nI_1, nI_clamp (by omega)]
  | succ d ih =>
    intro v f hi hf
    obtain ⟨f, rfl⟩ : ∃ g, f = g + 1 := ⟨f - 1, by omega⟩
    rw [fn42_eq, e_has (by omega), Option.bind_some, h1 v (by omega), if_neg (show ¬ (cb true, M).1 = 0 from (by decide : ¬ cb true = (0 : Int32))), nI_1]
    exact ih (v + 1) f (by omega) (by omega)
theorem fn2_eq (N f : Nat) (x1 : Int32) (M : nM) : fX12_findsNimbers_2 N (f + 1) x1 M = if (31 : Int32) ≤ x1 then some ((), M) else fX12_findsNimbers_12 N (fun x1 M => fX12_findsNimbers_2 N f x1 M) N x1 (0 : Int32) (1 : Int32) M := rfl
theorem c_fn2 {N : Nat} {M : nM} (hN : 1000 ≤ N) : ∀ (d k f : Nat) (W : Nat → Int32), k + d = 31 → d < f → (∀ t, t < k → W t = nI (nm t)) → ∃ W' : Nat → Int32, (∀ t, t < 31 → W' t = nI (nm t)) ∧ fX12_findsNimbers_2 N f (nI k) (n_set M 150 W) = some ((), n_set M 150 W') := by
  intro d
  induction d with
  | zero =>
    intro k f W hk hf hW
    obtain ⟨f, rfl⟩ : ∃ g, f = g + 1 := ⟨f - 1, by omega⟩
    refine ⟨W, fun t ht => hW t (by omega), ?_⟩
    rw [fn2_eq, if_pos (show (31 : Int32) ≤ nI k from nI_le (a := 31) (by omega) (by omega))]
  | succ d ih =>
    intro k f W hk hf hW
    obtain ⟨f, rfl⟩ : ∃ g, f = g + 1 := ⟨f - 1, by omega⟩
    obtain ⟨W', h1, h2⟩ := ih (k + 1) f (upd W k (nI (nm k))) (by omega) (by omega) (fun t ht => by
      by_cases e : t = k
      · subst e; exact upd_eq
      · rw [upd_ne e]; exact hW t (by omega))
    refine ⟨W', h1, ?_⟩
    have hb := (nm_ok k (by omega)).2.2
    have e1 := c_fn12 (N := N) (k2 := fun x1 M => fX12_findsNimbers_2 N f x1 M) (M := n_set M 150 W) (show k < 31 by omega) (fun t ht => by rw [n_set_eq]; exact hW t ht) ((k + 1) / 2) 0 N (by omega) (by omega)
    have e2 := c_fn42 (N := N) (k2 := fun x1 M => fX12_findsNimbers_2 N f x1 M) (M := n_set M 150 W) (show k < 31 by omega) (nm k) 0 N (by omega) (by omega)
    rw [fn2_eq, if_neg (show ¬ (31 : Int32) ≤ nI k from nI_ge (b := 31) (by omega) (by decide))]
    refine e1.trans (e2.trans ?_)
    rw [n_up_set]
    exact h2
theorem xor_0 {a b : Int32} : (a ^^^ b = 0) ↔ (b = a) := by
  constructor
  · intro h
    apply b_ext
    intro i hi
    have := congrArg (fun z => bt z i) h
    simp only [b_xor, b_0] at this
    revert this
    cases bt a i <;> cases bt b i <;> simp
  · intro h
    subst h
    apply b_ext
    intro i hi
    rw [b_xor, b_0]
    cases bt b i <;> rfl
/-- the first number to take from x so that what is left weighs t -/
def g_mv (t : Int32) (x : Nat) : Nat → Nat → Option Nat
  | 0, _ => none
  | d + 1, j => if nI (nm (x - j)) = t ^^^ nI (nm x) then some j else g_mv t x d (j + 1)
def g_go (ps : List Nat) (t : Int32) (b : Bool) : Nat → Nat → Int32
  | 0, _ => -1
  | d + 1, i => match g_mv t (ps.getD i 0) ((ps.getD i 0 + 1) / 2) 1 with
    | some j => if b = true then nI j else nI i
    | none => g_go ps t b d (i + 1)
def g_xr (ps : List Nat) : Nat → Int32
  | 0 => 0
  | i + 1 => g_xr ps i ^^^ nI (nm (ps.getD i 0))
theorem gm81_eq (N f : Nat) (G : nG) (k50 : Int32 → Int32 → Int32 → nM → Option (Int32 × nM)) (x1 x2 x3 x4 x5 : Int32) (M : nM) : fX9_goodMove_81 N G k50 (f + 1) x1 x2 x3 x4 x5 M = if (2 : Int32) = 0 then none else if ((x4 + (1 : Int32)) / (2 : Int32)) < x5 then k50 x1 x2 (x3 + (1 : Int32)) M else n_chk (n_ib 256 x4) (n_chk (n_ib 256 (x4 - x5)) (if ¬ ((x2 ^^^ (M 99 x4.toNatClampNeg)) ^^^ (M 99 (x4 - x5).toNatClampNeg)) = 0 then fX9_goodMove_81 N G k50 f x1 x2 x3 x4 (x5 + (1 : Int32)) M else if x1 = 0 then some (x3, M) else some (x5, M))) := rfl
theorem c_gm81 {N : Nat} {G : nG} {k50 : Int32 → Int32 → Int32 → nM → Option (Int32 × nM)} {M : nM} {t : Int32} {b : Bool} {x i : Nat} (hx : x ≤ 30) (hM : ∀ t, t < 31 → M 99 t = nI (nm t)) : ∀ (d j f : Nat), j + d = (x + 1) / 2 + 1 → 1 ≤ j → d < f → fX9_goodMove_81 N G k50 f (cb b) t (nI i) (nI x) (nI j) M = (match g_mv t x d j with
    | some j => some ((if b = true then nI j else nI i), M)
    | none => k50 (cb b) t (nI (i + 1)) M) := by
  intro d
  induction d with
  | zero =>
    intro j f hj h1 hf
    obtain ⟨f, rfl⟩ : ∃ g, f = g + 1 := ⟨f - 1, by omega⟩
    rw [gm81_eq, if_neg (show ¬ (2 : Int32) = 0 by decide), nm_half x (by omega), if_pos (nI_lt (by omega) (by omega)), nI_1]
    rfl
  | succ d ih =>
    intro j f hj h1 hf
    obtain ⟨f, rfl⟩ : ∃ g, f = g + 1 := ⟨f - 1, by omega⟩
    rw [gm81_eq, if_neg (show ¬ (2 : Int32) = 0 by decide), nm_half x (by omega), if_neg (nI_nlt (by omega) (by omega)), n_ib_nI (show x < 256 by omega) (by decide), n_chk_t, pk_sub (show j ≤ x by omega), n_ib_nI (show x - j < 256 by omega) (by decide), n_chk_t, nI_clamp (show x < 2 ^ 31 by omega), nI_clamp (show x - j < 2 ^ 31 by omega), hM x (by omega), hM (x - j) (by omega), nI_1]
    unfold g_mv
    by_cases hc : nI (nm (x - j)) = t ^^^ nI (nm x)
    · rw [if_pos hc, if_neg (not_not_intro (xor_0.mpr hc))]
      cases b <;> rfl
    · rw [if_neg hc, if_pos (fun z => hc (xor_0.mp z))]
      exact ih (j + 1) f (by omega) (by omega) (by omega)
theorem gm50_eq (N f : Nat) (G : nG) (x1 x2 x3 : Int32) (M : nM) : fX9_goodMove_50 N G (f + 1) x1 x2 x3 M = if (M 41 3) ≤ x3 then some ((-1 : Int32), M) else (fX7_cell G 41 x3 (0 : Int32) M).bind fun p1 => fX9_goodMove_81 N G (fun x1 x2 x3 M => fX9_goodMove_50 N G f x1 x2 x3 M) N x1 x2 x3 p1.1 (1 : Int32) p1.2 := rfl
theorem ps_get {ps : List Nat} {i : Nat} (h : i < ps.length) : ps[i]? = some (ps.getD i 0) := by
  rw [List.getD_eq_getElem?_getD, List.getElem?_eq_getElem h]
  rfl
theorem c_gm50 {N : Nat} {G : nG} {M : nM} {t : Int32} {b : Bool} {ps : List Nat} (hN : 1000 ≤ N) (hL : ps.length ≤ 5) (h3 : M 41 3 = nI ps.length) (hcell : ∀ i, i < ps.length → ps.getD i 0 ≤ 30 ∧ fX7_cell G 41 (nI i) (0 : Int32) M = some (nI (ps.getD i 0), M)) (hM : ∀ t, t < 31 → M 99 t = nI (nm t)) : ∀ (d i f : Nat), i + d = ps.length → d < f → fX9_goodMove_50 N G f (cb b) t (nI i) M = some (g_go ps t b d i, M) := by
  intro d
  induction d with
  | zero =>
    intro i f hi hf
    obtain ⟨f, rfl⟩ : ∃ g, f = g + 1 := ⟨f - 1, by omega⟩
    rw [gm50_eq, h3, if_pos (nI_le (by omega) (by omega))]
    rfl
  | succ d ih =>
    intro i f hi hf
    obtain ⟨f, rfl⟩ : ∃ g, f = g + 1 := ⟨f - 1, by omega⟩
    obtain ⟨hx, hc⟩ := hcell i (by omega)
    rw [gm50_eq, h3, if_neg (nI_ge (by omega) (by omega)), hc, Option.bind_some]
    refine (c_gm81 (N := N) (k50 := fun x1 x2 x3 M => fX9_goodMove_50 N G f x1 x2 x3 M) (i := i) hx hM ((ps.getD i 0 + 1) / 2) 1 N (by omega) (by omega) (by omega)).trans ?_
    unfold g_go
    cases g_mv t (ps.getD i 0) ((ps.getD i 0 + 1) / 2) 1 with
    | some j => rfl
    | none => exact ih (i + 1) f (by omega) (by omega)
theorem gm8_eq (N f : Nat) (G : nG) (x1 x2 x3 : Int32) (M : nM) : fX9_goodMove_8 N G (f + 1) x1 x2 x3 M = if (M 41 3) ≤ x3 then fX9_goodMove_50 N G N x1 x2 (0 : Int32) M else (fX7_cell G 41 x3 (0 : Int32) M).bind fun p1 => n_chk (n_ib 256 p1.1) (fX9_goodMove_8 N G f x1 (x2 ^^^ (p1.2 99 p1.1.toNatClampNeg)) (x3 + (1 : Int32)) p1.2) := rfl
theorem c_gm8 {N : Nat} {G : nG} {M : nM} {x1 : Int32} {ps : List Nat} (hL : ps.length ≤ 5) (h3 : M 41 3 = nI ps.length) (hcell : ∀ i, i < ps.length → ps.getD i 0 ≤ 30 ∧ fX7_cell G 41 (nI i) (0 : Int32) M = some (nI (ps.getD i 0), M)) (hM : ∀ t, t < 31 → M 99 t = nI (nm t)) : ∀ (d i f : Nat), i + d = ps.length → d < f → fX9_goodMove_8 N G f x1 (g_xr ps i) (nI i) M = fX9_goodMove_50 N G N x1 (g_xr ps ps.length) 0 M := by
  intro d
  induction d with
  | zero =>
    intro i f hi hf
    obtain ⟨f, rfl⟩ : ∃ g, f = g + 1 := ⟨f - 1, by omega⟩
    have : i = ps.length := by omega
    rw [gm8_eq, h3, if_pos (nI_le (by omega) (by omega)), this]
  | succ d ih =>
    intro i f hi hf
    obtain ⟨f, rfl⟩ : ∃ g, f = g + 1 := ⟨f - 1, by omega⟩
    obtain ⟨hx, hc⟩ := hcell i (by omega)
    rw [gm8_eq, h3, if_neg (nI_ge (by omega) (by omega)), hc, Option.bind_some]
    show n_chk (n_ib 256 (nI (ps.getD i 0))) (fX9_goodMove_8 N G f x1 (g_xr ps i ^^^ (M 99 (nI (ps.getD i 0)).toNatClampNeg)) (nI i + (1 : Int32)) M) = _
    rw [n_ib_nI (show ps.getD i 0 < 256 by omega) (by decide), n_chk_t, nI_clamp (by omega), hM _ (by omega), nI_1]
    exact ih (i + 1) f (by omega) (by omega)
theorem mg85_eq (N f : Nat) (k55 : Int32 → Int32 → Int32 → nM → Option (Int32 × nM)) (x1 x2 x3 x4 x5 x6 : Int32) (M : nM) : fX12_game_85 N k55 (f + 1) x1 x2 x3 x4 x5 x6 M = if (2 : Int32) = 0 then none else if ((x4 + (1 : Int32)) / (2 : Int32)) < x6 then k55 x1 x2 (x3 + (1 : Int32)) M else n_chk (n_ib 31 (x4 - x6)) (if ¬ (M 150 (x4 - x6).toNatClampNeg) = x5 then fX12_game_85 N k55 f x1 x2 x3 x4 x5 (x6 + (1 : Int32)) M else if ¬ x1 = 0 then some (x6, M) else some (x3, M)) := rfl
theorem c_mg85 {N : Nat} {k55 : Int32 → Int32 → Int32 → nM → Option (Int32 × nM)} {M : nM} {t : Int32} {b : Bool} {x i : Nat} (hx : x ≤ 30) (hM : ∀ t, t < 31 → M 150 t = nI (nm t)) : ∀ (d j f : Nat), j + d = (x + 1) / 2 + 1 → 1 ≤ j → d < f → fX12_game_85 N k55 f (cb b) t (nI i) (nI x) (t ^^^ nI (nm x)) (nI j) M = (match g_mv t x d j with
    | some j => some ((if b = true then nI j else nI i), M)
    | none => k55 (cb b) t (nI (i + 1)) M) := by
  intro d
  induction d with
  | zero =>
    intro j f hj h1 hf
    obtain ⟨f, rfl⟩ : ∃ g, f = g + 1 := ⟨f - 1, by omega⟩
    rw [mg85_eq, if_neg (show ¬ (2 : Int32) = 0 by decide), nm_half x (by omega), if_pos (nI_lt (by omega) (by omega)), nI_1]
    rfl
  | succ d ih =>
    intro j f hj h1 hf
    obtain ⟨f, rfl⟩ : ∃ g, f = g + 1 := ⟨f - 1, by omega⟩
    rw [mg85_eq, if_neg (show ¬ (2 : Int32) = 0 by decide), nm_half x (by omega), if_neg (nI_nlt (by omega) (by omega)), pk_sub (show j ≤ x by omega), n_ib_nI (show x - j < 31 by omega) (by decide), n_chk_t, nI_clamp (show x - j < 2 ^ 31 by omega), hM (x - j) (by omega), nI_1]
    unfold g_mv
    by_cases hc : nI (nm (x - j)) = t ^^^ nI (nm x)
    · rw [if_pos hc, if_neg (not_not_intro hc)]
      cases b <;> rfl
    · rw [if_neg hc, if_pos hc]
      exact ih (j + 1) f (by omega) (by omega) (by omega)
theorem mg55_eq (N f : Nat) (x1 x2 x3 : Int32) (M : nM) : fX12_game_55 N (f + 1) x1 x2 x3 M = if (M 107 72) ≤ x3 then some ((-1 : Int32), M) else n_chk (n_ib 5 x3) (n_chk (n_ib 31 (M 149 x3.toNatClampNeg)) (fX12_game_85 N (fun x1 x2 x3 M => fX12_game_55 N f x1 x2 x3 M) N x1 x2 x3 (M 149 x3.toNatClampNeg) (x2 ^^^ (M 150 (M 149 x3.toNatClampNeg).toNatClampNeg)) (1 : Int32) M)) := rfl
theorem c_mg55 {N : Nat} {M : nM} {t : Int32} {b : Bool} {ps : List Nat} (hN : 1000 ≤ N) (hL : ps.length ≤ 5) (h3 : M 107 72 = nI ps.length) (hcell : ∀ i, i < ps.length → ps.getD i 0 ≤ 30 ∧ M 149 i = nI (ps.getD i 0)) (hM : ∀ t, t < 31 → M 150 t = nI (nm t)) : ∀ (d i f : Nat), i + d = ps.length → d < f → fX12_game_55 N f (cb b) t (nI i) M = some (g_go ps t b d i, M) := by
  intro d
  induction d with
  | zero =>
    intro i f hi hf
    obtain ⟨f, rfl⟩ : ∃ g, f = g + 1 := ⟨f - 1, by omega⟩
    rw [mg55_eq, h3, if_pos (nI_le (by omega) (by omega))]
    rfl
  | succ d ih =>
    intro i f hi hf
    obtain ⟨f, rfl⟩ : ∃ g, f = g + 1 := ⟨f - 1, by omega⟩
    obtain ⟨hx, hc⟩ := hcell i (by omega)
    rw [mg55_eq, h3, if_neg (nI_ge (by omega) (by omega)), n_ib_nI (show i < 5 by omega) (by decide), n_chk_t, nI_clamp (show i < 2 ^ 31 by omega), hc, n_ib_nI (show ps.getD i 0 < 31 by omega) (by decide), n_chk_t, nI_clamp (show ps.getD i 0 < 2 ^ 31 by omega), hM _ (by omega)]
    refine (c_mg85 (N := N) (k55 := fun x1 x2 x3 M => fX12_game_55 N f x1 x2 x3 M) (i := i) hx hM ((ps.getD i 0 + 1) / 2) 1 N (by omega) (by omega) (by omega)).trans ?_
    unfold g_go
    cases g_mv t (ps.getD i 0) ((ps.getD i 0 + 1) / 2) 1 with
    | some j => rfl
    | none => exact ih (i + 1) f (by omega) (by omega)
theorem mg25_eq (N f : Nat) (x1 x2 x3 : Int32) (M : nM) : fX12_game_25 N (f + 1) x1 x2 x3 M = if (M 107 72) ≤ x3 then fX12_game_55 N N x1 x2 (0 : Int32) M else n_chk (n_ib 5 x3) (n_chk (n_ib 31 (M 149 x3.toNatClampNeg)) (fX12_game_25 N f x1 (x2 ^^^ (M 150 (M 149 x3.toNatClampNeg).toNatClampNeg)) (x3 + (1 : Int32)) M)) := rfl
theorem c_mg25 {N : Nat} {M : nM} {x1 : Int32} {ps : List Nat} (hL : ps.length ≤ 5) (h3 : M 107 72 = nI ps.length) (hcell : ∀ i, i < ps.length → ps.getD i 0 ≤ 30 ∧ M 149 i = nI (ps.getD i 0)) (hM : ∀ t, t < 31 → M 150 t = nI (nm t)) : ∀ (d i f : Nat), i + d = ps.length → d < f → fX12_game_25 N f x1 (g_xr ps i) (nI i) M = fX12_game_55 N N x1 (g_xr ps ps.length) 0 M := by
  intro d
  induction d with
  | zero =>
    intro i f hi hf
    obtain ⟨f, rfl⟩ : ∃ g, f = g + 1 := ⟨f - 1, by omega⟩
    have : i = ps.length := by omega
    rw [mg25_eq, h3, if_pos (nI_le (by omega) (by omega)), this]
  | succ d ih =>
    intro i f hi hf
    obtain ⟨f, rfl⟩ : ∃ g, f = g + 1 := ⟨f - 1, by omega⟩
    obtain ⟨hx, hc⟩ := hcell i (by omega)
    rw [mg25_eq, h3, if_neg (nI_ge (by omega) (by omega)), n_ib_nI (show i < 5 by omega) (by decide), n_chk_t, nI_clamp (show i < 2 ^ 31 by omega), hc, n_ib_nI (show ps.getD i 0 < 31 by omega) (by decide), n_chk_t, nI_clamp (show ps.getD i 0 < 2 ^ 31 by omega), hM _ (by omega), nI_1]
    exact ih (i + 1) f (by omega) (by omega)
theorem st_game {G : nG} {M : nM} {n q N : Nat} (hN : 1000 ≤ N) (hG : n_GOK G) (h : Rel G M n q) (x : Int32) : Stq G (fX11_game N G x) (fX12_game N x) M := by
  refine Stq_mix fun D hD => ?_
  have hR := Rel_m0 h hD
  obtain ⟨D0, hD0⟩ : ∃ D0, D0 = n_up D 107 0 0 := ⟨_, rfl⟩
  rw [← hD0] at hR
  have hfr : ∀ c, c < 107 ∨ 151 < c → D0 c = D c := fun c hc => by rw [hD0]; exact n0_ne c hc
  have eM : fX12_game N x D = (fX12_isIn x (0 : Int32) (1 : Int32) D0).bind fun p2 => if ¬ p2.1 = 0 then (fX12_findsNimbers N p2.2).bind fun p3 => fX12_game_25 N N x (0 : Int32) (0 : Int32) p3.2 else some ((-1 : Int32), p2.2) := by rw [hD0]; rfl
  have eC : fX11_game N G x M = (fX11_within x (0 : Int32) (1 : Int32) M).bind fun p1 => if p1.1 = 0 then some ((-1 : Int32), p1.2) else if ¬ x = (1 : Int32) then fX11_game_23 N G (0 : Int32) p1.2 else fX11_game_23 N G (1 : Int32) p1.2 := rfl
  rw [eC, eM, e_within, e_isIn, Option.bind_some, Option.bind_some]
  cases hx : wi x 0 1 with
  | false => exact ⟨-1, M, D0, rfl, fun _ _ _ => rfl, rfl, hfr, n, q, hR⟩
  | true =>
    obtain ⟨k, hk, rfl⟩ := wi_nI (n := 1) (by decide) hx
    obtain ⟨b, hb⟩ : ∃ b : Bool, nI k = cb b := by
      rcases (show k = 0 ∨ k = 1 by omega) with rfl | rfl
      · exact ⟨false, rfl⟩
      · exact ⟨true, rfl⟩
    rw [hb, if_neg (show ¬ (cb true, M).1 = 0 from (by decide : ¬ cb true = (0 : Int32))), if_pos (show ¬ (cb true, D0).1 = 0 from (by decide : ¬ cb true = (0 : Int32)))]
    obtain ⟨⟨hst, hmv, hbk, hlw, hsp, hcu, hli, hsw, hpk, hbx, hky, hcl, hsh, hrw, hgf, hmi⟩, hpr, hrd, hck, hwd, him⟩ := id hR
    obtain ⟨ps, i1, i2, i3, i4⟩ := hrw
    have hwm : r_wm (M 41 1) (M 41 2) 1 5 := hck.2.2.2.2.2.2.2.2.2.2.2.2.1
    obtain ⟨W1, w1, w2⟩ := c_wr2 (N := N) (M := M) hN 31 0 N (M 99) (by omega) (by omega) (fun t ht => absurd ht (by omega))
    obtain ⟨W2, w3, w4⟩ := c_fn2 (N := N) (M := D0) hN 31 0 N (D0 150) (by omega) (by omega) (fun t ht => absurd ht (by omega))
    rw [n_set_self rfl] at w2 w4
    have hcC : ∀ i, i < ps.length → ps.getD i 0 ≤ 30 ∧ fX7_cell G 41 (nI i) (0 : Int32) (n_set M 99 W1) = some (nI (ps.getD i 0), n_set M 99 W1) := fun i hi => by
      obtain ⟨g1, g2, g3, g4⟩ := i4 i _ (ps_get hi)
      refine ⟨g2, ?_⟩
      have := e_cell (G := G) (M := n_set M 99 W1) (x0 := 41) (c := 42) (W := 1) (H := 5) (i := i) (j := 0) (gk41 hG) (gm41_0 hG) (gk42 hG) (gl42 hG) hwm (by decide) (by decide) (by decide) (by omega) (by decide)
      rw [show i * 1 + 0 = i by omega, n_set_ne (show (42 : Nat) ≠ 99 by decide)] at this
      have g3' : M 42 i = nI (ps.getD i 0) := g3
      rw [g3'] at this
      exact this
    have hcM : ∀ i, i < ps.length → ps.getD i 0 ≤ 30 ∧ n_set D0 150 W2 149 i = nI (ps.getD i 0) := fun i hi => by
      obtain ⟨g1, g2, g3, g4⟩ := i4 i _ (ps_get hi)
      exact ⟨g2, g4⟩
    have r1 : fX9_goodMove N G (cb b) M = some (g_go ps (g_xr ps ps.length) b ps.length 0, n_set M 99 W1) := by
      unfold fX9_goodMove fX9_weighRows
      have w2' : fX9_weighRows_2 N N 0 M = some ((), n_set M 99 W1) := w2
      rw [w2', Option.bind_some]
      exact (c_gm8 (N := N) (M := n_set M 99 W1) (x1 := cb b) i1 i2 hcC w1 ps.length 0 N (by omega) (by omega)).trans (c_gm50 (M := n_set M 99 W1) hN i1 i2 hcC w1 ps.length 0 N (by omega) (by omega))
    have r2 : (fX12_findsNimbers N D0).bind (fun p3 => fX12_game_25 N N (cb b) (0 : Int32) (0 : Int32) p3.2) = some (g_go ps (g_xr ps ps.length) b ps.length 0, n_set D0 150 W2) := by
      unfold fX12_findsNimbers
      have w4' : fX12_findsNimbers_2 N N 0 D0 = some ((), n_set D0 150 W2) := w4
      rw [w4', Option.bind_some]
      exact (c_mg25 (N := N) (M := n_set D0 150 W2) (x1 := cb b) i1 i3 hcM w3 ps.length 0 N (by omega) (by omega)).trans (c_mg55 (M := n_set D0 150 W2) hN i1 i3 hcM w3 ps.length 0 N (by omega) (by omega))
    refine ⟨_, n_set M 99 W1, n_set D0 150 W2, ?_, fun c g1 g2 => n_set_ne (by omega), r2, fun c hc => by rw [n_set_ne (by omega)]; exact hfr c hc, n, q, ?_⟩
    · cases b with
      | false =>
        rw [if_pos (show ¬ cb false = (1 : Int32) by decide)]
        unfold fX11_game_23
        have r1' : fX9_goodMove N G 0 M = _ := r1
        show (fX9_goodMove N G 0 M).bind _ = _
        rw [r1', Option.bind_some]
      | true =>
        rw [if_neg (show ¬ ¬ cb true = (1 : Int32) from not_not_intro rfl)]
        unfold fX11_game_23
        have r1' : fX9_goodMove N G 1 M = _ := r1
        show (fX9_goodMove N G 1 M).bind _ = _
        rw [r1', Option.bind_some]
    · refine Rel_scr hR (fun c g1 g2 => ?_) (fun k hk => ?_)
      · have e99 : c ≠ 99 := fun e => by subst e; exact absurd g1 (by decide)
        have e150 : c ≠ 150 := fun e => by subst e; exact absurd g1 (by decide)
        by_cases hc : c < 107 ∨ 151 < c
        · rw [Mix_c hc, Mix_c hc, n_set_ne e99]
        · rw [Mix_d (by omega) (by omega), Mix_d (by omega) (by omega), n_set_ne e150]
      · rfl
