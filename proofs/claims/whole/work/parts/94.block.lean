/-! ===== fits: the loop goes through the tree ===== -/
theorem f_blk {α : Type} {N : Nat} {D : nM} {Φ : Nat → α → Int32 → nM → Option (Int32 × nM)} {st : α → (Nat → Nat) → α} (hN : 1000 ≤ N) (hs : ∀ a w w', (∀ i, i < 8 → w i = w' i) → st a w = st a w') (hE : ∀ (f : Nat) (a : α) (w : Nat → Nat) (W : Nat → Int32), f_R W w → f_Pm w → Φ (f + 1) a 1 (n_set D 147 W) = (fX12_goesToNextOrder N (n_set D 147 W)).bind fun p1 => Φ f (st a w) p1.1 p1.2) : ∀ (m : Nat) (w : Nat → Nat) (W : Nat → Int32) (f : Nat) (a : α), m ≤ 8 → f_Pm w → f_R W w → f_As (8 - m) w → 8 ^ m ≤ f → ∃ (w' : Nat → Nat) (W' : Nat → Int32) (f' : Nat), f_R W' w' ∧ f_Pm w' ∧ (∀ i, i < 8 - m → w' i = w i) ∧ f_De (8 - m) w' ∧ f ≤ f' + 8 ^ m ∧ Φ f a 1 (n_set D 147 W) = (fX12_goesToNextOrder N (n_set D 147 W')).bind fun p1 => Φ f' (f_tf st m w a) p1.1 p1.2 := by
  intro m
  induction m with
  | zero =>
    intro w W f a _ hP hR _ hf
    rw [Nat.pow_zero] at hf
    obtain ⟨f, rfl⟩ : ∃ g, f = g + 1 := ⟨f - 1, by omega⟩
    exact ⟨w, W, f, hR, hP, fun _ _ => rfl, fun i j h1 h2 h3 => absurd h3 (by omega), by rw [Nat.pow_zero]; exact Nat.le_refl _, hE f a w W hR hP⟩
  | succ m ihm =>
    intro w0 W0 f0 a0 hm hP0 hR0 hA0 hf0
    have hk : 8 - (m + 1) = 7 - m := by omega
    rw [hk] at hA0 ⊢
    have h8k : 8 - m = 7 - m + 1 := by omega
    obtain ⟨k, ek⟩ : ∃ k, k = 7 - m := ⟨_, rfl⟩
    rw [← ek] at hA0 ⊢ h8k
    have hk8 : k < 8 := by omega
    have hpos : 0 < 8 ^ m := Nat.pow_pos (by decide)
    have inner : ∀ (r : Nat), r ≤ 8 → ∀ (w : Nat → Nat) (W : Nat → Int32) (f : Nat) (a : α), f_Pm w → f_R W w → (∀ i, i < k → w i = w0 i) → f_As (k + 1) w → 8 - r ≤ w k → (∀ v, 8 - r ≤ v → v < w k → f_us w0 v k = true) → r * 8 ^ m ≤ f → ∃ (w' : Nat → Nat) (W' : Nat → Int32) (f' : Nat), f_R W' w' ∧ f_Pm w' ∧ (∀ i, i < k → w' i = w0 i) ∧ f_De k w' ∧ f ≤ f' + r * 8 ^ m ∧ Φ f a 1 (n_set D 147 W) = (fX12_goesToNextOrder N (n_set D 147 W')).bind fun p1 => Φ f' (f_fo (fun p b => if f_us w0 p k = true then b else f_tf st m (f_up w0 k p) b) r a) p1.1 p1.2 := by
      intro r
      induction r with
      | zero =>
        intro _ w W f a hP hR hpre hA hle hv hf
        have := hP.1 k hk8
        omega
      | succ r ihr =>
        intro hr w W f a hP hR hpre hA hle hv hf
        have e7 : 8 - (r + 1) = 7 - r := by omega
        rw [e7] at hle hv
        rw [Nat.add_mul, Nat.one_mul] at hf ⊢
        have hfo : f_fo (fun p b => if f_us w0 p k = true then b else f_tf st m (f_up w0 k p) b) (r + 1) a = f_fo (fun p b => if f_us w0 p k = true then b else f_tf st m (f_up w0 k p) b) r (if f_us w0 (7 - r) k = true then a else f_tf st m (f_up w0 k (7 - r)) a) := rfl
        rw [hfo]
        by_cases hu : f_us w0 (7 - r) k = true
        · have hne : w k ≠ 7 - r := fun e => by
            obtain ⟨i, i1, i2⟩ := (f_us_t k).mp hu
            have := hP.2.1 i k (by omega) hk8 (by rw [hpre i i1, i2, e])
            omega
          obtain ⟨w', W', f', r1, r2, r3, r4, r5, r6⟩ := ihr (by omega) w W f a hP hR hpre hA (by omega) (fun v h1 h2 => hv v (by omega) h2) (by omega)
          rw [if_pos hu]
          exact ⟨w', W', f', r1, r2, r3, r4, by omega, r6⟩
        · have hwk : w k = 7 - r := by
            by_cases e : w k = 7 - r
            · exact e
            · exact absurd (hv (7 - r) (Nat.le_refl _) (by omega)) hu
          rw [if_neg hu]
          have htf : f_tf st m (f_up w0 k (7 - r)) a = f_tf st m w a := f_tf_c hs m _ _ a (by omega) (fun i hi => by
            by_cases e : i = k
            · rw [e, f_up_e, hwk]
            · rw [f_up_n e]; exact (hpre i (by omega)).symm)
          rw [htf]
          obtain ⟨w1, W1, f1, q1, q2, q3, q4, q5, q6⟩ := ihm w W f a (by omega) hP hR (by rw [h8k]; exact hA) (by omega)
          rw [h8k] at q3 q4
          have hw1k : w1 k = 7 - r := by rw [q3 k (by omega)]; exact hwk
          have hpre1 : ∀ i, i < k → w1 i = w0 i := fun i hi => by rw [q3 i (by omega)]; exact hpre i hi
          by_cases hx : k < 7 ∧ w1 k < w1 (k + 1)
          · obtain ⟨w2, W2, p1, p2, p3, p4, p5, p6, p7⟩ := c_noN (N := N) (D := D) hN q2 q1 hx.1 q4 hx.2
            obtain ⟨w', W', f', r1, r2, r3, r4, r5, r6⟩ := ihr (by omega) w2 W2 f1 (f_tf st m w a) p2 p1 (fun i hi => by rw [p3 i hi]; exact hpre1 i hi) p4 (by omega) (fun v h1 h2 => by
              have hv8 : v < 8 := by
                have := p2.1 k hk8
                omega
              obtain ⟨t, t1, t2⟩ := q2.2.2 v hv8
              have htk : t < k := by
                by_cases z : t < k
                · exact z
                · exact absurd t2 (p6 v (by omega) h2 t (by omega) t1)
              exact (f_us_t k).mpr ⟨t, htk, by rw [← hpre1 t htk]; exact t2⟩) (by omega)
            refine ⟨w', W', f', r1, r2, r3, r4, by omega, ?_⟩
            rw [q6, p7, Option.bind_some]
            exact r6
          · have hDe : f_De k w1 := fun i j h1 h2 h3 => by
              by_cases e : i = k
              · subst e
                have hk7 : i < 7 := by omega
                have hlt : w1 (i + 1) < w1 i := by
                  have n1 : ¬ w1 i < w1 (i + 1) := fun z => hx ⟨hk7, z⟩
                  have n2 : w1 i ≠ w1 (i + 1) := fun z => by
                    have := q2.2.1 i (i + 1) (by omega) (by omega) z
                    omega
                  omega
                by_cases e2 : j = i + 1
                · rw [e2]; exact hlt
                · have := q4 (i + 1) j (Nat.le_refl _) (by omega) h3
                  omega
              · exact q4 i j (by omega) h2 h3
            have hsk : f_fo (fun p b => if f_us w0 p k = true then b else f_tf st m (f_up w0 k p) b) r (f_tf st m w a) = f_tf st m w a := f_fo_s r (by omega) (fun p h1 h2 => by
              obtain ⟨t, t1, t2⟩ := q2.2.2 p h2
              have htk : t < k := by
                by_cases z : t < k
                · exact z
                · by_cases z2 : t = k
                  · rw [z2, hw1k] at t2; omega
                  · have := hDe k t (Nat.le_refl _) (by omega) t1
                    omega
              have : f_us w0 p k = true := (f_us_t k).mpr ⟨t, htk, by rw [← hpre1 t htk]; exact t2⟩
              show (if f_us w0 p k = true then f_tf st m w a else _) = _
              rw [if_pos this])
            rw [hsk]
            exact ⟨w1, W1, f1, q1, q2, hpre1, hDe, by omega, q6⟩
    have e8 : 8 ^ (m + 1) = 8 * 8 ^ m := by rw [Nat.pow_succ, Nat.mul_comm]
    obtain ⟨w', W', f', r1, r2, r3, r4, r5, r6⟩ := inner 8 (Nat.le_refl _) w0 W0 f0 a0 hP0 hR0 (fun _ _ => rfl) (fun i j h1 h2 h3 => hA0 i j (by omega) h2 h3) (by omega) (fun v _ h2 => by
      have h8 := hP0.1 k hk8
      obtain ⟨t, t1, t2⟩ := hP0.2.2 v (by omega)
      have htk : t < k := by
        by_cases z : t < k
        · exact z
        · by_cases z2 : t = k
          · rw [z2] at t2; omega
          · have := hA0 k t (Nat.le_refl _) (by omega) t1
            omega
      exact (f_us_t k).mpr ⟨t, htk, t2⟩) (by omega)
    refine ⟨w', W', f', r1, r2, r3, r4, by omega, ?_⟩
    rw [r6]
    show _ = (fX12_goesToNextOrder N (n_set D 147 W')).bind fun p1 => Φ f' (f_fo (fun p b => if f_us w0 p (7 - m) = true then b else f_tf st m (f_up w0 (7 - m) p) b) 8 a0) p1.1 p1.2
    rw [← ek]
/-! ===== fits: does an order fit ===== -/
theorem f_get {ps : List (Nat × Nat × Bool)} {i : Nat} (h : i < ps.length) : ps[i]? = some (ps.getD i (0, 0, false)) := by
  rw [List.getD_eq_getElem?_getD, List.getElem?_eq_getElem h]
  rfl
theorem f_drop {ps : List (Nat × Nat × Bool)} {i : Nat} (h : i < ps.length) : ps.drop i = ps.getD i (0, 0, false) :: ps.drop (i + 1) := by
  rw [List.drop_eq_getElem_cons h]
  congr 1
  rw [List.getD_eq_getElem?_getD, List.getElem?_eq_getElem h]
  rfl
def f_q (w : Nat → Nat) (x : Nat × Nat × Bool) : Bool := decide (w x.1 = x.2.1) == x.2.2
theorem df2_eq (N f : Nat) (x1 : Int32) (M : nM) : fX12_doesFit_2 N (f + 1) x1 M = if (M 107 65) ≤ x1 then some ((1 : Int32), M) else n_chk (n_ib 10 x1) (n_chk (n_ib 8 (M 144 x1.toNatClampNeg)) (n_chk (n_ib 10 x1) (if ¬ (M 147 (M 144 x1.toNatClampNeg).toNatClampNeg) = (M 145 x1.toNatClampNeg) then fX12_doesFit_35 N (fun x1 M => fX12_doesFit_2 N f x1 M) x1 (0 : Int32) M else fX12_doesFit_35 N (fun x1 M => fX12_doesFit_2 N f x1 M) x1 (1 : Int32) M))) := rfl
theorem df35_eq (N : Nat) (k2 : Int32 → nM → Option (Int32 × nM)) (x1 s0 : Int32) (M : nM) : fX12_doesFit_35 N k2 x1 s0 M = n_chk (n_ib 10 x1) (if ¬ (M 146 x1.toNatClampNeg) = (1 : Int32) then (if s0 = (0 : Int32) then k2 (x1 + (1 : Int32)) M else some ((0 : Int32), M)) else (if s0 = (1 : Int32) then k2 (x1 + (1 : Int32)) M else some ((0 : Int32), M))) := rfl
theorem c_df {N : Nat} {M : nM} {ps : List (Nat × Nat × Bool)} {w : Nat → Nat} (hw : ∀ t, t < 8 → w t < 8) (hW : ∀ t, t < 8 → M 147 t = nI (w t)) (hL : ps.length ≤ 10) (h65 : M 107 65 = nI ps.length) (hc : ∀ i, i < ps.length → (ps.getD i (0, 0, false)).1 < 8 ∧ (ps.getD i (0, 0, false)).2.1 < 8 ∧ M 144 i = nI (ps.getD i (0, 0, false)).1 ∧ M 145 i = nI (ps.getD i (0, 0, false)).2.1 ∧ M 146 i = (if (ps.getD i (0, 0, false)).2.2 = true then 1 else 0)) : ∀ (d i f : Nat), i + d = ps.length → d < f → fX12_doesFit_2 N f (nI i) M = some (cb ((ps.drop i).all (f_q w)), M) := by
  intro d
  induction d with
  | zero =>
    intro i f hi hf
    obtain ⟨f, rfl⟩ : ∃ g, f = g + 1 := ⟨f - 1, by omega⟩
    rw [df2_eq, h65, if_pos (nI_le (by omega) (by omega)), List.drop_eq_nil_of_le (by omega)]
    rfl
  | succ d ih =>
    intro i f hi hf
    obtain ⟨f, rfl⟩ : ∃ g, f = g + 1 := ⟨f - 1, by omega⟩
    obtain ⟨c1, c2, c3, c4, c5⟩ := hc i (by omega)
    have ihi := ih (i + 1) f (by omega) (by omega)
    have hwx := hw _ c1
    rw [df2_eq, h65, if_neg (nI_ge (by omega) (by omega)), n_ib_nI (show i < 10 by omega) (by decide), n_chk_t, n_chk_t, nI_clamp (show i < 2 ^ 31 by omega), c3, n_ib_nI c1 (by decide), n_chk_t, nI_clamp (show (ps.getD i (0, 0, false)).1 < 2 ^ 31 by omega), hW _ c1, c4, df35_eq, df35_eq, n_ib_nI (show i < 10 by omega) (by decide), n_chk_t, n_chk_t, nI_clamp (show i < 2 ^ 31 by omega), c5, nI_1, f_drop (show i < ps.length by omega), List.all_cons]
    have hq : f_q w (ps.getD i (0, 0, false)) = (decide (w (ps.getD i (0, 0, false)).1 = (ps.getD i (0, 0, false)).2.1) == (ps.getD i (0, 0, false)).2.2) := rfl
    rw [hq]
    have hz : ∀ u v : Nat, u < 8 → v < 8 → (nI u = nI v ↔ u = v) := fun u v h1 h2 => nI_eq (by omega) (by omega)
    by_cases e : w (ps.getD i (0, 0, false)).1 = (ps.getD i (0, 0, false)).2.1
    · rw [if_neg (not_not_intro ((hz _ _ hwx c2).mpr e)), decide_eq_true e]
      cases (ps.getD i (0, 0, false)).2.2 with
      | true =>
        rw [if_pos rfl, if_neg (not_not_intro rfl), if_pos rfl]
        exact ihi
      | false =>
        rw [if_neg (show ¬ false = true by decide), if_pos (show ¬ (0 : Int32) = 1 by decide), if_neg (show ¬ (1 : Int32) = 0 by decide)]
        rfl
    · rw [if_pos (fun z => e ((hz _ _ hwx c2).mp z)), decide_eq_false e]
      cases (ps.getD i (0, 0, false)).2.2 with
      | true =>
        rw [if_pos rfl, if_neg (not_not_intro rfl), if_neg (show ¬ (0 : Int32) = 1 by decide)]
        rfl
      | false =>
        rw [if_neg (show ¬ false = true by decide), if_pos (show ¬ (0 : Int32) = 1 by decide), if_pos rfl]
        exact ihi
theorem f46_eq (N f : Nat) (x1 x2 x3 x4 : Int32) (M : nM) : fX12_fits_46 N (f + 1) x1 x2 x3 x4 M = if x4 = 0 then (if ¬ x1 = (-1 : Int32) then fX12_fits_97 N N x3 (0 : Int32) M else some (x2, M)) else (fX12_doesFit N M).bind fun p1 => if p1.1 = 0 then (fX12_goesToNextOrder N p1.2).bind fun p3 => fX12_fits_46 N f x1 x2 x3 p3.1 p3.2 else if x1 = (-1 : Int32) then (fX12_goesToNextOrder N p1.2).bind fun p3 => fX12_fits_46 N f x1 (x2 + (1 : Int32)) x3 p3.1 p3.2 else n_chk (n_ib 8 x1) ((fX12_goesToNextOrder N p1.2).bind fun p3 => fX12_fits_46 N f x1 (x2 + (1 : Int32)) (x3 ||| ((1 : Int32) <<< ((p1.2 147 x1.toNatClampNeg) &&& 31))) p3.1 p3.2) := rfl
theorem f20_eq (N f : Nat) (x1 x2 : Int32) (M : nM) : fX12_fits_20 N (f + 1) x1 x2 M = if (8 : Int32) ≤ x2 then fX12_fits_46 N N x1 (0 : Int32) (0 : Int32) (1 : Int32) M else n_chk (n_ib 8 x2) (fX12_fits_20 N f x1 (x2 + (1 : Int32)) (n_up M 147 x2.toNatClampNeg x2)) := rfl
theorem f97_eq (N f : Nat) (x3 x5 : Int32) (M : nM) : fX12_fits_97 N (f + 1) x3 x5 M = if (8 : Int32) ≤ x5 then some ((-1 : Int32), M) else if ¬ x3 = ((1 : Int32) <<< (x5 &&& 31)) then fX12_fits_97 N f x3 (x5 + (1 : Int32)) M else some (x5, M) := rfl
theorem c_f20 {N : Nat} {x1 : Int32} {D : nM} : ∀ (d i f : Nat) (W : Nat → Int32), i + d = 8 → d < f → (∀ a, a < i → W a = nI a) → ∃ W' : Nat → Int32, f_R W' (fun t => t) ∧ fX12_fits_20 N f x1 (nI i) (n_set D 147 W) = fX12_fits_46 N N x1 0 0 1 (n_set D 147 W') := by
  intro d
  induction d with
  | zero =>
    intro i f W hi hf hW
    obtain ⟨f, rfl⟩ : ∃ g, f = g + 1 := ⟨f - 1, by omega⟩
    refine ⟨W, fun a ha => hW a (by omega), ?_⟩
    rw [f20_eq, if_pos (show (8 : Int32) ≤ nI i from nI_le (a := 8) (by omega) (by omega))]
  | succ d ih =>
    intro i f W hi hf hW
    obtain ⟨f, rfl⟩ : ∃ g, f = g + 1 := ⟨f - 1, by omega⟩
    obtain ⟨W', h1, h2⟩ := ih (i + 1) f (upd W i (nI i)) (by omega) (by omega) (fun a ha => by
      by_cases e : a = i
      · subst e; exact upd_eq
      · rw [upd_ne e]; exact hW a (by omega))
    refine ⟨W', h1, ?_⟩
    rw [f20_eq, if_neg (show ¬ (8 : Int32) ≤ nI i from nI_ge (b := 8) (by omega) (by decide)), n_ib_nI (show i < 8 by omega) (by decide), n_chk_t, nI_clamp (show i < 2 ^ 31 by omega), nI_1, n_up_set]
    exact h2
def f_st (ps : List (Nat × Nat × Bool)) (o : (Nat → Nat) → Int32 → Int32) (a : Nat × Int32) (w : Nat → Nat) : Nat × Int32 := if ps.all (f_q w) = true then (a.1 + 1, o w a.2) else a
theorem f_q_c {ps : List (Nat × Nat × Bool)} (hps : ∀ x, x ∈ ps → x.1 < 8) {w w' : Nat → Nat} (h : ∀ i, i < 8 → w i = w' i) : ps.all (f_q w) = ps.all (f_q w') := by
  rw [Bool.eq_iff_iff, List.all_eq_true, List.all_eq_true]
  constructor
  · intro g x hx
    have := g x hx
    unfold f_q at this ⊢
    rw [← h x.1 (hps x hx)]
    exact this
  · intro g x hx
    have := g x hx
    unfold f_q at this ⊢
    rw [h x.1 (hps x hx)]
    exact this
/-- the model's whole loop -/
theorem c_f46 {N : Nat} {x1 : Int32} {D : nM} {ps : List (Nat × Nat × Bool)} {o : (Nat → Nat) → Int32 → Int32} (hN : 20000000 ≤ N) (hL : ps.length ≤ 10) (h65 : D 107 65 = nI ps.length) (hps : ∀ x, x ∈ ps → x.1 < 8) (hc : ∀ i, i < ps.length → (ps.getD i (0, 0, false)).1 < 8 ∧ (ps.getD i (0, 0, false)).2.1 < 8 ∧ D 144 i = nI (ps.getD i (0, 0, false)).1 ∧ D 145 i = nI (ps.getD i (0, 0, false)).2.1 ∧ D 146 i = (if (ps.getD i (0, 0, false)).2.2 = true then 1 else 0)) (ho : ∀ w w' μ, (∀ i, i < 8 → w i = w' i) → o w μ = o w' μ) (hx : (x1 = -1 ∧ ∀ w μ, o w μ = μ) ∨ ∃ x, x < 8 ∧ x1 = nI x ∧ ∀ w μ, w x < 8 → o w μ = μ ||| ((1 : Int32) <<< (nI (w x) &&& 31))) (W : Nat → Int32) (hR : f_R W (fun t => t)) : ∃ (W' : Nat → Int32) (f' : Nat), fX12_fits_46 N N x1 0 0 1 (n_set D 147 W) = fX12_fits_46 N (f' + 1) x1 (nI (f_tf (f_st ps o) 8 (fun t => t) (0, 0)).1) (f_tf (f_st ps o) 8 (fun t => t) (0, 0)).2 0 (n_set D 147 W') := by
  have hN1 : 1000 ≤ N := by omega
  have hid : f_Pm (fun t => t) := ⟨fun j hj => hj, fun i j _ _ e => e, fun v hv => ⟨v, hv, rfl⟩⟩
  obtain ⟨w', W', f', r1, r2, r3, r4, r5, r6⟩ := f_blk (α := Nat × Int32) (N := N) (D := D) (Φ := fun f a x4 M => fX12_fits_46 N f x1 (nI a.1) a.2 x4 M) (st := f_st ps o) hN1 (fun a w w' h => by
    unfold f_st
    rw [f_q_c hps h, ho w w' a.2 h]) (fun f a w W hRw hPw => by
    show fX12_fits_46 N (f + 1) x1 (nI a.1) a.2 1 (n_set D 147 W) = (fX12_goesToNextOrder N (n_set D 147 W)).bind fun p1 => fX12_fits_46 N f x1 (nI (f_st ps o a w).1) (f_st ps o a w).2 p1.1 p1.2
    have hd : fX12_doesFit N (n_set D 147 W) = some (cb (ps.all (f_q w)), n_set D 147 W) := by
      have := c_df (N := N) (M := n_set D 147 W) (ps := ps) (w := w) hPw.1 (fun t ht => by rw [n_set_eq]; exact hRw t ht) hL (by rw [n_set_ne (by decide)]; exact h65) (fun i hi => by
        rw [n_set_ne (show (144 : Nat) ≠ 147 by decide), n_set_ne (show (145 : Nat) ≠ 147 by decide), n_set_ne (show (146 : Nat) ≠ 147 by decide)]
        exact hc i hi) ps.length 0 N (by omega) (by omega)
      rw [List.drop_zero] at this
      exact this
    rw [f46_eq, if_neg (show ¬ (1 : Int32) = 0 by decide), hd, Option.bind_some]
    unfold f_st
    cases ps.all (f_q w) with
    | false =>
      rw [if_pos (show (cb false : Int32) = 0 from rfl), if_neg (show ¬ false = true by decide)]
    | true =>
      rw [if_neg (show ¬ (cb true : Int32) = 0 by decide), if_pos (show true = true from rfl), nI_1]
      rcases hx with ⟨e1, e2⟩ | ⟨x, x8, e1, e2⟩
      · rw [if_pos e1, e2]
      · rw [if_neg (by rw [e1]; exact nI_nm1 (by omega)), e1, n_ib_nI x8 (by decide), n_chk_t, nI_clamp (show x < 2 ^ 31 by omega), e2 w a.2 (hPw.1 x x8)]
        show ((fX12_goesToNextOrder N (n_set D 147 W)).bind fun p3 => fX12_fits_46 N f (nI x) (nI (a.1 + 1)) (a.2 ||| ((1 : Int32) <<< ((n_set D 147 W 147 x) &&& 31))) p3.1 p3.2) = _
        rw [n_set_eq, hRw x x8]) 8 (fun t => t) W N (0, 0) (Nat.le_refl _) hid hR (fun i j _ h _ => h) (by
    have : 8 ^ 8 = 16777216 := by decide
    omega)
  have h88 : 8 ^ 8 = 16777216 := by decide
  obtain ⟨f', rfl⟩ : ∃ g, f' = g + 1 := ⟨f' - 1, by omega⟩
  refine ⟨W', f', ?_⟩
  rw [c_noE hN1 r2.1 r1 r4, Option.bind_some] at r6
  exact r6
