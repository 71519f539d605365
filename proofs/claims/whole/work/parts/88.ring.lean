/-! ===== ring: those that are left, in their order behind a place ===== -/
def q_W (n p : Nat) : List Nat := (List.range n).map (fun s => (p + 1 + s) % n)
def q_L (o : Nat → Bool) (n p : Nat) : List Nat := (q_W n p).filter (fun a => !o a)
theorem q_W_h {n p : Nat} (hn : 0 < n) : ∃ t, q_W n p = (p + 1) % n :: t ∧ q_W n ((p + 1) % n) = t ++ [(p + 1) % n] := by
  obtain ⟨m, rfl⟩ : ∃ m, n = m + 1 := ⟨n - 1, by omega⟩
  refine ⟨(List.range m).map (fun s => (p + 1 + (s + 1)) % (m + 1)), ?_, ?_⟩
  · unfold q_W
    rw [List.range_succ_eq_map, List.map_cons, List.map_map]
    rfl
  · unfold q_W
    rw [List.range_succ, List.map_append]
    congr 1
    · refine List.map_congr_left fun s _ => ?_
      rw [Nat.add_assoc ((p + 1) % (m + 1)), Nat.mod_add_mod]
      congr 1; omega
    · show [((p + 1) % (m + 1) + 1 + m) % (m + 1)] = _
      rw [Nat.add_assoc, Nat.add_comm 1 m, Nat.add_mod_right, Nat.mod_mod]
theorem q_W_l {n p : Nat} (hp : p < n) : ∃ t, q_W n p = t ++ [p] ∧ p ∉ t := by
  obtain ⟨m, rfl⟩ : ∃ m, n = m + 1 := ⟨n - 1, by omega⟩
  refine ⟨(List.range m).map (fun s => (p + 1 + s) % (m + 1)), ?_, ?_⟩
  · unfold q_W
    rw [List.range_succ, List.map_append]
    congr 1
    show [(p + 1 + m) % (m + 1)] = [p]
    rw [Nat.add_assoc, Nat.add_comm 1 m, Nat.add_mod_right, Nat.mod_eq_of_lt hp]
  · intro h
    obtain ⟨s, hs, e⟩ := List.mem_map.mp h
    have hs' := List.mem_range.mp hs
    by_cases g : p + 1 + s < m + 1
    · rw [Nat.mod_eq_of_lt g] at e; omega
    · have : (p + 1 + s) % (m + 1) = p + 1 + s - (m + 1) := by
        rw [Nat.mod_eq_sub_mod (by omega), Nat.mod_eq_of_lt (by omega)]
      omega
/-- a place that is out is passed over -/
theorem q_L_o {o : Nat → Bool} {n p : Nat} (hn : 0 < n) (h : o ((p + 1) % n) = true) : q_L o n ((p + 1) % n) = q_L o n p := by
  obtain ⟨t, e1, e2⟩ := q_W_h (p := p) hn
  unfold q_L
  rw [e1, e2, List.filter_append, List.filter_cons_of_neg (by simp [h]), List.filter_cons_of_neg (by simp [h])]
  exact List.append_nil _
theorem q_L_h {o : Nat → Bool} {n p : Nat} (hn : 0 < n) (h : o ((p + 1) % n) = false) : ∃ t, q_L o n p = (p + 1) % n :: t ∧ q_L o n ((p + 1) % n) = t ++ [(p + 1) % n] := by
  obtain ⟨t, e1, e2⟩ := q_W_h (p := p) hn
  refine ⟨t.filter (fun a => !o a), ?_, ?_⟩
  · unfold q_L
    rw [e1, List.filter_cons_of_pos (by simp [h])]
  · unfold q_L
    rw [e2, List.filter_append, List.filter_cons_of_pos (by simp [h])]
    rfl
theorem q_L_x {o o' : Nat → Bool} {n p : Nat} {t : List Nat} (hp : p < n) (e : q_L o n p = t ++ [p]) (h : ∀ a, o' a = if a = p then true else o a) : q_L o' n p = t := by
  obtain ⟨u, e1, hu⟩ := q_W_l hp
  unfold q_L at e ⊢
  rw [e1, List.filter_append] at e ⊢
  have hop : o p = false := by
    cases hc : o p with
    | false => rfl
    | true =>
      have : p ∈ t ++ [p] := List.mem_append_right _ (List.mem_singleton.mpr rfl)
      rw [← e, ← List.filter_append, List.mem_filter, hc] at this
      exact absurd this.2 (by decide)
  rw [List.filter_cons_of_pos (by simp [hop])] at e
  rw [List.filter_cons_of_neg (by simp [h])]
  have e3 := List.append_inj_left' e rfl
  rw [← e3]
  show _ ++ [] = _
  rw [List.append_nil]
  refine List.filter_congr fun a ha => ?_
  rw [h, if_neg (show ¬ a = p from fun z => hu (z ▸ ha))]
theorem q_L_ne {o : Nat → Bool} {n p : Nat} (h : q_L o n p ≠ []) : ∃ s, s < n ∧ o ((p + 1 + s) % n) = false := by
  cases e : q_L o n p with
  | nil => exact absurd e h
  | cons a t =>
    have : a ∈ q_L o n p := by rw [e]; exact List.mem_cons_self
    unfold q_L q_W at this
    obtain ⟨h1, h2⟩ := List.mem_filter.mp this
    obtain ⟨s, hs, rfl⟩ := List.mem_map.mp h1
    refine ⟨s, List.mem_range.mp hs, ?_⟩
    simpa using h2
theorem q_L_0 {o : Nat → Bool} {n : Nat} (hn : 0 < n) (ho : ∀ a, a < n → o a = false) : q_L o n (n - 1) = List.range n := by
  unfold q_L q_W
  rw [List.filter_eq_self.mpr (fun a ha => by
    obtain ⟨s, -, rfl⟩ := List.mem_map.mp ha
    rw [ho _ (Nat.mod_lt _ hn)]
    rfl)]
  conv => rhs; rw [← List.map_id (List.range n)]
  refine List.map_congr_left fun s hs => ?_
  have := List.mem_range.mp hs
  show (n - 1 + 1 + s) % n = s
  rw [show n - 1 + 1 + s = s + n by omega, Nat.add_mod_right, Nat.mod_eq_of_lt this]
theorem q_rot1 {h : Nat} {t : List Nat} (i : Nat) (hi : i < t.length + 1) : (t ++ [h])[i]? = (h :: t)[(i + 1) % (t.length + 1)]? := by
  by_cases g : i < t.length
  · rw [List.getElem?_append_left g, Nat.mod_eq_of_lt (by omega)]
    rfl
  · have : i = t.length := by omega
    subst this
    rw [List.getElem?_append_right (Nat.le_refl _), Nat.mod_self, Nat.sub_self]
    rfl

theorem q_L_out {o : Nat → Bool} {n p a : Nat} (h : a ∈ q_L o n p) : o a = false := by
  unfold q_L at h
  simpa using (List.mem_filter.mp h).2
theorem q_m1 {x k : Nat} (hx : 0 < x) (hk : 0 < k) : (x - 1 + k) % x = (k - 1) % x := by
  rw [show x - 1 + k = k - 1 + x by omega, Nat.add_mod_right]
theorem q_m2 {x k i : Nat} (hk : 0 < k) (hi : i < x) : ((i + x - (k - 1) % x - 1) % x + k) % x = i := by
  have hv : (k - 1) % x < x := Nat.mod_lt _ (by omega)
  have e := Nat.div_add_mod (k - 1) x
  generalize (k - 1) % x = v at hv e ⊢
  generalize (k - 1) / x = c at e
  rw [Nat.mod_add_mod, show i + x - v - 1 + k = i + x + x * c by omega, Nat.add_mul_mod_self_left, Nat.add_mod_right, Nat.mod_eq_of_lt hi]
theorem q_m3 {x k i : Nat} (hk : 0 < k) (hi : i < x) (h : i ≠ (k - 1) % x) : (i + x - (k - 1) % x - 1) % x < x - 1 := by
  have e := q_m2 hk hi
  have hj : (i + x - (k - 1) % x - 1) % x < x := Nat.mod_lt _ (by omega)
  by_cases g : (i + x - (k - 1) % x - 1) % x = x - 1
  · rw [g, q_m1 (by omega) hk] at e
    omega
  · omega
/-! ===== ring: the loops ===== -/
def q_o (W : Nat → Int32) (a : Nat) : Bool := decide (W a = (1 : Int32))
theorem q_o_t {W : Nat → Int32} {a : Nat} (h : q_o W a = true) : W a = (1 : Int32) := of_decide_eq_true h
theorem q_o_f {W : Nat → Int32} {a : Nat} (h : q_o W a = false) : ¬ W a = (1 : Int32) := of_decide_eq_false h
theorem r95_eq (N f : Nat) (k72 : Int32 → Int32 → Int32 → Int32 → Int32 → nM → Option (Int32 × nM)) (k81 : Int32 → Int32 → Int32 → Int32 → Int32 → Int32 → nM → Option (Int32 × nM)) (x1 x2 x3 x4 x5 x6 : Int32) (M : nM) : fX12_ring_95 N k72 k81 (f + 1) x1 x2 x3 x4 x5 x6 M = n_chk (n_ib 40 x4) (if ¬ (M 140 x4.toNatClampNeg) = (1 : Int32) then k81 x1 x2 x3 x4 x5 (x6 + (1 : Int32)) M else if x1 = 0 then none else fX12_ring_95 N k72 k81 f x1 x2 x3 ((x4 + (1 : Int32)) - (x4 + (1 : Int32)) / x1 * x1) x5 x6 M) := rfl
theorem r81_eq (N f : Nat) (k72 : Int32 → Int32 → Int32 → Int32 → Int32 → nM → Option (Int32 × nM)) (x1 x2 x3 x4 x5 x6 : Int32) (M : nM) : fX12_ring_81 N k72 (f + 1) x1 x2 x3 x4 x5 x6 M = if x2 ≤ x6 then n_chk (n_ib 40 x4) (if ¬ x4 = x3 then k72 x1 x2 x3 x4 (x5 + (1 : Int32)) (n_up M 140 x4.toNatClampNeg (1 : Int32)) else some (x5, n_up M 140 x4.toNatClampNeg (1 : Int32))) else if x1 = 0 then none else fX12_ring_95 N k72 (fun x1 x2 x3 x4 x5 x6 M => fX12_ring_81 N k72 f x1 x2 x3 x4 x5 x6 M) N x1 x2 x3 ((x4 + (1 : Int32)) - (x4 + (1 : Int32)) / x1 * x1) x5 x6 M := rfl
theorem r72_eq (N f : Nat) (x1 x2 x3 x4 x5 : Int32) (M : nM) : fX12_ring_72 N (f + 1) x1 x2 x3 x4 x5 M = if x1 < x5 then some (x4, M) else fX12_ring_81 N (fun x1 x2 x3 x4 x5 M => fX12_ring_72 N f x1 x2 x3 x4 x5 M) N x1 x2 x3 x4 x5 (0 : Int32) M := rfl
theorem r44_eq (N f : Nat) (x1 x2 x3 x4 : Int32) (M : nM) : fX12_ring_44 N (f + 1) x1 x2 x3 x4 M = if x1 ≤ x4 then fX12_ring_72 N N x1 x2 x3 (x1 - (1 : Int32)) (1 : Int32) M else n_chk (n_ib 40 x4) (fX12_ring_44 N f x1 x2 x3 (x4 + (1 : Int32)) (n_up M 140 x4.toNatClampNeg (0 : Int32))) := rfl
theorem q_nx {n p : Nat} (hn : 0 < n) (hn4 : n ≤ 40) (hp : p < n) : nI p + (1 : Int32) - (nI p + (1 : Int32)) / nI n * nI n = nI ((p + 1) % n) := by
  rw [nI_1]
  exact pk_rem (by omega) hn (by omega)
theorem c_r95 {N n : Nat} {k72 : Int32 → Int32 → Int32 → Int32 → Int32 → nM → Option (Int32 × nM)} {k81 : Int32 → Int32 → Int32 → Int32 → Int32 → Int32 → nM → Option (Int32 × nM)} {x2 x3 x5 x6 : Int32} {M : nM} (hn : 0 < n) (hn4 : n ≤ 40) : ∀ (D f p : Nat), p < n → (∃ s, s ≤ D ∧ q_o (M 140) ((p + 1 + s) % n) = false) → D < f → ∃ (h : Nat) (t : List Nat), q_L (q_o (M 140)) n p = h :: t ∧ q_L (q_o (M 140)) n h = t ++ [h] ∧ h < n ∧ fX12_ring_95 N k72 k81 f (nI n) x2 x3 (nI ((p + 1) % n)) x5 x6 M = k81 (nI n) x2 x3 (nI h) x5 (x6 + 1) M := by
  intro D
  induction D with
  | zero =>
    intro f p hp hs hf
    obtain ⟨f, rfl⟩ : ∃ g, f = g + 1 := ⟨f - 1, by omega⟩
    obtain ⟨s, s1, s2⟩ := hs
    obtain rfl : s = 0 := by omega
    have s3 : q_o (M 140) ((p + 1) % n) = false := s2
    obtain ⟨t, e1, e2⟩ := q_L_h hn s3
    have hl : (p + 1) % n < n := Nat.mod_lt _ hn
    refine ⟨_, t, e1, e2, hl, ?_⟩
    rw [r95_eq, n_ib_nI (by omega) (by decide), n_chk_t, nI_clamp (by omega), if_pos (q_o_f s3)]
  | succ D ih =>
    intro f p hp hs hf
    obtain ⟨f, rfl⟩ : ∃ g, f = g + 1 := ⟨f - 1, by omega⟩
    have hl : (p + 1) % n < n := Nat.mod_lt _ hn
    cases s3 : q_o (M 140) ((p + 1) % n) with
    | false =>
      obtain ⟨t, e1, e2⟩ := q_L_h hn s3
      refine ⟨_, t, e1, e2, hl, ?_⟩
      rw [r95_eq, n_ib_nI (by omega) (by decide), n_chk_t, nI_clamp (by omega), if_pos (q_o_f s3)]
    | true =>
      obtain ⟨s, s1, s2⟩ := hs
      obtain ⟨s, rfl⟩ : ∃ u, s = u + 1 := ⟨s - 1, by
        have : s ≠ 0 := fun e => by subst e; rw [Nat.add_zero, s3] at s2; exact absurd s2 (by decide)
        omega⟩
      obtain ⟨h, t, e1, e2, e3, e4⟩ := ih f ((p + 1) % n) hl ⟨s, by omega, by
        rw [Nat.add_assoc, Nat.mod_add_mod, show p + 1 + (1 + s) = p + 1 + (s + 1) by omega]
        exact s2⟩ (by omega)
      refine ⟨h, t, ?_, e2, e3, ?_⟩
      · rw [← q_L_o hn s3]; exact e1
      · rw [r95_eq, n_ib_nI (by omega) (by decide), n_chk_t, nI_clamp (by omega), if_neg (not_not_intro (q_o_t s3)), if_neg (nI_ne0 hn (by omega)), q_nx hn hn4 hl]
        exact e4
theorem c_r81 {N n k : Nat} {k72 : Int32 → Int32 → Int32 → Int32 → Int32 → nM → Option (Int32 × nM)} {x3 x5 : Int32} {M : nM} (hN : 1000 ≤ N) (hn : 0 < n) (hn4 : n ≤ 40) (hk : k ≤ 20) : ∀ (d j f p : Nat), p < n → 0 < (q_L (q_o (M 140)) n p).length → (d = 0 → ∃ t, q_L (q_o (M 140)) n p = t ++ [p]) → j + d = k → d < f → ∃ (h g : Nat), h < n ∧ (q_L (q_o (M 140)) n h).length = (q_L (q_o (M 140)) n p).length ∧ (∃ t, q_L (q_o (M 140)) n h = t ++ [h]) ∧ (∀ i, i < (q_L (q_o (M 140)) n p).length → (q_L (q_o (M 140)) n h)[i]? = (q_L (q_o (M 140)) n p)[(i + d) % (q_L (q_o (M 140)) n p).length]?) ∧ fX12_ring_81 N k72 f (nI n) (nI k) x3 (nI p) x5 (nI j) M = fX12_ring_81 N k72 (g + 1) (nI n) (nI k) x3 (nI h) x5 (nI k) M := by
  intro d
  induction d with
  | zero =>
    intro j f p hp hx ht hj hf
    obtain ⟨f, rfl⟩ : ∃ g, f = g + 1 := ⟨f - 1, by omega⟩
    refine ⟨p, f, hp, rfl, ht rfl, fun i hi => by rw [Nat.add_zero, Nat.mod_eq_of_lt hi], ?_⟩
    rw [show j = k by omega]
  | succ d ih =>
    intro j f p hp hx ht hj hf
    obtain ⟨f, rfl⟩ : ∃ g, f = g + 1 := ⟨f - 1, by omega⟩
    obtain ⟨s, s1, s2⟩ := q_L_ne (o := q_o (M 140)) (n := n) (p := p) (fun e => by rw [e] at hx; exact absurd hx (by decide))
    obtain ⟨h, t, e1, e2, e3, e4⟩ := c_r95 (N := N) (k72 := k72) (k81 := fun x1 x2 x3 x4 x5 x6 M => fX12_ring_81 N k72 f x1 x2 x3 x4 x5 x6 M) (x2 := nI k) (x3 := x3) (x5 := x5) (x6 := nI j) (M := M) hn hn4 40 N p hp ⟨s, by omega, s2⟩ (by omega)
    have hlen : (q_L (q_o (M 140)) n h).length = (q_L (q_o (M 140)) n p).length := by rw [e1, e2, List.length_append]; rfl
    obtain ⟨h2, g, i1, i2, i3, i4, i5⟩ := ih (j + 1) f h e3 (by omega) (fun _ => ⟨t, e2⟩) (by omega) (by omega)
    refine ⟨h2, g, i1, by omega, i3, fun i hi => ?_, ?_⟩
    · rw [hlen] at i4
      rw [i4 i hi]
      have hl2 : (q_L (q_o (M 140)) n p).length = t.length + 1 := by rw [e1]; rfl
      rw [hl2, e2, q_rot1 _ (Nat.mod_lt _ (by omega)), ← e1, Nat.mod_add_mod]
      rfl
    · rw [r81_eq, if_neg (nI_ge (by omega) (by omega)), if_neg (nI_ne0 hn (by omega)), q_nx hn hn4 hp]
      refine e4.trans ?_
      show fX12_ring_81 N k72 f (nI n) (nI k) x3 (nI h) x5 (nI j + 1) M = _
      rw [nI_1]
      exact i5
theorem c_r72 {N n k : Nat} {x3 : Int32} {D : nM} (hN : 1000 ≤ N) (hn : 0 < n) (hn4 : n ≤ 40) (hk1 : 1 ≤ k) (hk : k ≤ 20) (f p c : Nat) (W : Nat → Int32) (hp : p < n) (hc : c ≤ n) (hx : 0 < (q_L (q_o W) n p).length) : ∃ (h : Nat) (t : List Nat), h < n ∧ t.length + 1 = (q_L (q_o W) n p).length ∧ (∀ i, i < t.length → t[i]? = (q_L (q_o W) n p)[(i + k) % (q_L (q_o W) n p).length]?) ∧ (q_L (q_o W) n p)[(k - 1) % (q_L (q_o W) n p).length]? = some h ∧ q_L (q_o (upd W h 1)) n h = t ∧ fX12_ring_72 N (f + 1) (nI n) (nI k) x3 (nI p) (nI c) (n_set D 140 W) = if ¬ nI h = x3 then fX12_ring_72 N f (nI n) (nI k) x3 (nI h) (nI (c + 1)) (n_set D 140 (upd W h 1)) else some (nI c, n_set D 140 (upd W h 1)) := by
  have hW : (n_set D 140 W) 140 = W := n_set_eq
  obtain ⟨h, g, i1, i2, ⟨t, i3⟩, i4, i5⟩ := c_r81 (N := N) (n := n) (k := k) (k72 := fun x1 x2 x3 x4 x5 M => fX12_ring_72 N f x1 x2 x3 x4 x5 M) (x3 := x3) (x5 := nI c) (M := n_set D 140 W) hN hn hn4 hk k 0 N p hp (by rw [hW]; exact hx) (fun z => absurd z (by omega)) (by omega) (by omega)
  rw [hW] at i2 i3 i4
  have hl : (q_L (q_o W) n h).length = t.length + 1 := by rw [i3, List.length_append]; rfl
  refine ⟨h, t, i1, by omega, fun i hi => ?_, ?_, ?_, ?_⟩
  · rw [← i4 i (by omega), i3, List.getElem?_append_left hi]
  · have := i4 (t.length) (by omega)
    rw [i3, List.getElem?_append_right (Nat.le_refl _), Nat.sub_self, show t.length = (q_L (q_o W) n p).length - 1 by omega, q_m1 hx hk1] at this
    exact this.symm
  · refine q_L_x i1 i3 fun a => ?_
    unfold q_o
    by_cases e : a = h
    · subst e
      rw [upd_eq, if_pos rfl]
      rfl
    · rw [upd_ne e, if_neg e]
  · rw [r72_eq, if_neg (nI_nlt hc (by omega))]
    refine i5.trans ?_
    rw [r81_eq, if_pos (Int32.le_refl _), n_ib_nI (by omega) (by decide), n_chk_t, nI_clamp (by omega), nI_1, n_up_set]
theorem r72_end {N n k c f : Nat} {x3 x4 : Int32} {M : nM} (hn4 : n ≤ 40) (hc : c = n + 1) : fX12_ring_72 N (f + 1) (nI n) (nI k) x3 x4 (nI c) M = some (x4, M) := by
  rw [r72_eq, if_pos (nI_lt (by omega) (by omega))]
/-- the index of the one that goes last -/
def q_J (k : Nat) : Nat → Nat
  | 0 => 0
  | x + 1 => (q_J k x + k) % (x + 1)
theorem c_r72A {N n k : Nat} {D : nM} (hN : 1000 ≤ N) (hn : 0 < n) (hn4 : n ≤ 40) (hk1 : 1 ≤ k) (hk : k ≤ 20) : ∀ (x f p c : Nat) (W : Nat → Int32), p < n → (q_L (q_o W) n p).length = x → 0 < x → c + x = n + 1 → x < f → ∃ (w : Nat) (W' : Nat → Int32), (q_L (q_o W) n p)[q_J k x]? = some w ∧ fX12_ring_72 N f (nI n) (nI k) (-1 : Int32) (nI p) (nI c) (n_set D 140 W) = some (nI w, n_set D 140 W') := by
  intro x
  induction x with
  | zero => intro f p c W hp hl hx; exact absurd hx (by omega)
  | succ x ih =>
    intro f p c W hp hl hx hc hf
    obtain ⟨f, rfl⟩ : ∃ g, f = g + 1 := ⟨f - 1, by omega⟩
    obtain ⟨h, t, i1, i2, i3, i4, i5, i6⟩ := c_r72 (x3 := (-1 : Int32)) (D := D) hN hn hn4 hk1 hk f p c W hp (by omega) (by omega)
    rw [if_pos (nI_nm1 (by omega))] at i6
    rw [hl] at i2 i3 i4
    rcases Nat.eq_zero_or_pos x with z | z
    · subst z
      obtain ⟨f, rfl⟩ : ∃ g, f = g + 1 := ⟨f - 1, by omega⟩
      refine ⟨h, _, ?_, i6.trans (r72_end hn4 (by omega))⟩
      have e1 : q_J k 1 = (k - 1) % 1 := by
        show (q_J k 0 + k) % 1 = _
        rw [Nat.mod_one, Nat.mod_one]
      rw [e1]
      exact i4
    · obtain ⟨w, W', j1, j2⟩ := ih f h (c + 1) (upd W h 1) i1 (by rw [i5]; omega) z (by omega) (by omega)
      refine ⟨w, W', ?_, i6.trans j2⟩
      rw [i5] at j1
      have hlt : q_J k x < t.length := by
        rcases Nat.lt_or_ge (q_J k x) t.length with g | g
        · exact g
        · rw [List.getElem?_eq_none g] at j1
          exact absurd j1 (by simp)
      rw [i3 _ hlt] at j1
      exact j1
def q_oR (n k : Nat) : Nat → Nat → Nat
  | 0, _ => 0
  | x + 1, i => if i = (k - 1) % (x + 1) then n - x else q_oR n k x ((i + (x + 1) - (k - 1) % (x + 1) - 1) % (x + 1))
theorem c_r72B {N n k w : Nat} {D : nM} (hN : 1000 ≤ N) (hn : 0 < n) (hn4 : n ≤ 40) (hk1 : 1 ≤ k) (hk : k ≤ 20) (hw : w < n) : ∀ (x f p c i : Nat) (W : Nat → Int32), p < n → (q_L (q_o W) n p).length = x → i < x → (q_L (q_o W) n p)[i]? = some w → c + x = n + 1 → x < f → ∃ (W' : Nat → Int32), fX12_ring_72 N f (nI n) (nI k) (nI w) (nI p) (nI c) (n_set D 140 W) = some (nI (q_oR n k x i), n_set D 140 W') := by
  intro x
  induction x with
  | zero => intro f p c i W hp hl hx; exact absurd hx (by omega)
  | succ x ih =>
    intro f p c i W hp hl hx hi hc hf
    obtain ⟨f, rfl⟩ : ∃ g, f = g + 1 := ⟨f - 1, by omega⟩
    obtain ⟨h, t, i1, i2, i3, i4, i5, i6⟩ := c_r72 (x3 := nI w) (D := D) hN hn hn4 hk1 hk f p c W hp (by omega) (by omega)
    rw [hl] at i2 i3 i4
    unfold q_oR
    by_cases e : i = (k - 1) % (x + 1)
    · rw [← e, hi] at i4
      have ew : w = h := Option.some.inj i4
      subst ew
      rw [if_neg (not_not_intro rfl)] at i6
      rw [if_pos e, show n - x = c by omega]
      exact ⟨_, i6⟩
    · have b1 := q_m3 hk1 hx e
      have b2 := q_m2 hk1 hx
      rw [if_neg e]
      generalize (i + (x + 1) - (k - 1) % (x + 1) - 1) % (x + 1) = j at b1 b2
      have t1 : t[j]? = some w := by rw [i3 j (by omega), b2]; exact hi
      have hwh : w ≠ h := fun z => by
        subst z
        rw [← i5] at t1
        have := q_L_out (List.mem_of_getElem? t1)
        unfold q_o at this
        rw [upd_eq] at this
        exact absurd this (by decide)
      rw [if_pos (fun z => hwh ((nI_eq (by omega) (by omega)).mp z).symm)] at i6
      obtain ⟨W', j2⟩ := ih f h (c + 1) j (upd W h 1) i1 (by rw [i5]; omega) (by omega) (by rw [i5]; exact t1) (by omega) (by omega)
      exact ⟨W', i6.trans j2⟩
/-! ===== ring: the class ===== -/
theorem or_eq (N f : Nat) (x0 x1 x3 x4 : Int32) (M : nM) : fX9_outOfRing_5 N (f + 1) x0 x1 x3 x4 M = if x4 ≤ 0 then some ((-1 : Int32), M) else if x4 = 0 then none else if ¬ x3 = ((x1 - (1 : Int32)) - (x1 - (1 : Int32)) / x4 * x4) then (if x4 = 0 then none else fX9_outOfRing_5 N f x0 x1 ((((x3 - ((x1 - (1 : Int32)) - (x1 - (1 : Int32)) / x4 * x4)) - (1 : Int32)) + x4) - (((x3 - ((x1 - (1 : Int32)) - (x1 - (1 : Int32)) / x4 * x4)) - (1 : Int32)) + x4) / x4 * x4) (x4 + (-1 : Int32)) M) else some (((x0 - x4) + (1 : Int32)), M) := rfl
theorem lr_eq (N f : Nat) (x0 x1 x2 x3 : Int32) (M : nM) : fX9_lastInRing_4 N (f + 1) x0 x1 x2 x3 M = if x0 < x3 then some (x2, M) else if x3 = 0 then none else fX9_lastInRing_4 N f x0 x1 ((x2 + x1) - (x2 + x1) / x3 * x3) (x3 + (1 : Int32)) M := rfl
theorem q_ac (a b c d : Int32) : a - b - c + d = a + d - b - c := by
  simp only [Int32.sub_eq_add_neg]
  ac_rfl
theorem c_or {N n k : Nat} {M : nM} (hn4 : n ≤ 40) (hk1 : 1 ≤ k) (hk : k ≤ 20) : ∀ (x f i : Nat), x ≤ n → i < x → x < f → fX9_outOfRing_5 N f (nI n) (nI k) (nI i) (nI x) M = some (nI (q_oR n k x i), M) := by
  intro x
  induction x with
  | zero => intro f i h1 h2; exact absurd h2 (by omega)
  | succ x ih =>
    intro f i hxn hi hf
    obtain ⟨f, rfl⟩ : ∃ g, f = g + 1 := ⟨f - 1, by omega⟩
    have hv : (k - 1) % (x + 1) < x + 1 := Nat.mod_lt _ (by omega)
    have e1 : nI k - (1 : Int32) = nI (k - 1) := pk_sub (b := 1) (by omega)
    have e2 : nI (k - 1) - nI (k - 1) / nI (x + 1) * nI (x + 1) = nI ((k - 1) % (x + 1)) := pk_rem (by omega) (by omega) (by omega)
    rw [or_eq, e1, e2, if_neg (nI_nle (by omega) (by omega)), if_neg (nI_ne0 (by omega) (by omega))]
    unfold q_oR
    by_cases e : i = (k - 1) % (x + 1)
    · rw [if_neg (not_not_intro (congrArg nI e)), if_pos e, pk_sub (by omega), nI_1, show n - (x + 1) + 1 = n - x by omega]
    · have b1 := q_m3 hk1 hi e
      have e3 : nI i - nI ((k - 1) % (x + 1)) - (1 : Int32) + nI (x + 1) = nI (i + (x + 1) - (k - 1) % (x + 1) - 1) := by
        have a1 : nI (i + (x + 1)) - nI ((k - 1) % (x + 1)) = nI (i + (x + 1) - (k - 1) % (x + 1)) := pk_sub (by omega)
        have a2 : nI (i + (x + 1) - (k - 1) % (x + 1)) - (1 : Int32) = nI (i + (x + 1) - (k - 1) % (x + 1) - 1) := pk_sub (b := 1) (by omega)
        rw [← a2, ← a1, ← nI_add i (x + 1)]
        exact q_ac _ _ _ _
      have e4 : nI (x + 1) + (-1 : Int32) = nI x := by
        rw [← Int32.sub_eq_add_neg]
        exact nI_pred x
      have hb : i + (x + 1) - (k - 1) % (x + 1) - 1 < 2 ^ 31 := by omega
      rw [if_pos (fun z => e ((nI_eq (by omega) (by omega)).mp z)), if_neg (nI_ne0 (by omega) (by omega)), if_neg e, e3, e4, pk_rem hb (by omega) (by omega)]
      exact ih f _ (by omega) (by omega) (by omega)
theorem c_lr {N n k : Nat} {M : nM} (hn4 : n ≤ 40) (hk : k ≤ 20) : ∀ (d x f : Nat), x + d = n → 0 < x → d < f → fX9_lastInRing_4 N f (nI n) (nI k) (nI (q_J k x)) (nI (x + 1)) M = some (nI (q_J k n), M) := by
  intro d
  induction d with
  | zero =>
    intro x f hx h0 hf
    obtain ⟨f, rfl⟩ : ∃ g, f = g + 1 := ⟨f - 1, by omega⟩
    rw [lr_eq, if_pos (nI_lt (by omega) (by omega)), show x = n by omega]
  | succ d ih =>
    intro x f hx h0 hf
    obtain ⟨f, rfl⟩ : ∃ g, f = g + 1 := ⟨f - 1, by omega⟩
    have hJ : q_J k x < 2 ^ 30 := by
      obtain ⟨y, rfl⟩ : ∃ y, x = y + 1 := ⟨x - 1, by omega⟩
      have : (q_J k y + k) % (y + 1) < y + 1 := Nat.mod_lt _ (by omega)
      show (q_J k y + k) % (y + 1) < _
      omega
    rw [lr_eq, if_neg (nI_nlt (by omega) (by omega)), if_neg (nI_ne0 (by omega) (by omega)), nI_add, pk_rem (by omega) (by omega) (by omega), nI_1]
    exact ih (x + 1) f (by omega) (by omega) (by omega)
/-! ===== ring: the start and the step ===== -/
theorem c_r44 {N n k : Nat} {x3 : Int32} {D : nM} (hn : 0 < n) (hn4 : n ≤ 40) : ∀ (d i f : Nat) (W : Nat → Int32), i + d = n → d < f → (∀ a, a < i → W a = 0) → ∃ W' : Nat → Int32, (∀ a, a < n → W' a = 0) ∧ fX12_ring_44 N f (nI n) (nI k) x3 (nI i) (n_set D 140 W) = fX12_ring_72 N N (nI n) (nI k) x3 (nI (n - 1)) (nI 1) (n_set D 140 W') := by
  intro d
  induction d with
  | zero =>
    intro i f W hi hf hW
    obtain ⟨f, rfl⟩ : ∃ g, f = g + 1 := ⟨f - 1, by omega⟩
    refine ⟨W, fun a ha => hW a (by omega), ?_⟩
    have e1 : nI n - (1 : Int32) = nI (n - 1) := pk_sub (b := 1) (by omega)
    rw [r44_eq, if_pos (nI_le (by omega) (by omega)), e1]
    rfl
  | succ d ih =>
    intro i f W hi hf hW
    obtain ⟨f, rfl⟩ : ∃ g, f = g + 1 := ⟨f - 1, by omega⟩
    obtain ⟨W', h1, h2⟩ := ih (i + 1) f (upd W i 0) (by omega) (by omega) (fun a ha => by
      by_cases e : a = i
      · subst e; exact upd_eq
      · rw [upd_ne e]; exact hW a (by omega))
    refine ⟨W', h1, ?_⟩
    rw [r44_eq, if_neg (nI_ge (by omega) (by omega)), n_ib_nI (by omega) (by decide), n_chk_t, nI_clamp (by omega), nI_1, n_up_set]
    exact h2
theorem st_ring {G : nG} {M : nM} {n q N : Nat} (hN : 1000 ≤ N) (hG : n_GOK G) (h : Rel G M n q) (x y z : Int32) : Stq G (fX11_ring N x y z) (fX12_ring N x y z) M := by
  refine Stq_mix fun D1 hD1 => ?_
  have hR := Rel_m0 h hD1
  obtain ⟨D0, hD0⟩ : ∃ D0, D0 = n_up D1 107 0 0 := ⟨_, rfl⟩
  rw [← hD0] at hR
  have hfr : ∀ c, c < 107 ∨ 151 < c → D0 c = D1 c := fun c hc => by rw [hD0]; exact n0_ne c hc
  have eM : fX12_ring N x y z D1 = (fX12_isIn x (1 : Int32) (40 : Int32) D0).bind fun p2 => if p2.1 = 0 then some ((-1 : Int32), p2.2) else (fX12_isIn y (1 : Int32) (20 : Int32) p2.2).bind fun p3 => if p3.1 = 0 then some ((-1 : Int32), p3.2) else (fX12_isIn z (-1 : Int32) (x - (1 : Int32)) p3.2).bind fun p4 => if ¬ p4.1 = 0 then fX12_ring_44 N N x y z (0 : Int32) p4.2 else some ((-1 : Int32), p4.2) := by rw [hD0]; rfl
  have eC : fX11_ring N x y z M = (fX11_within x (1 : Int32) (40 : Int32) M).bind fun p1 => if p1.1 = 0 then some ((-1 : Int32), p1.2) else (fX11_within y (1 : Int32) (20 : Int32) p1.2).bind fun p2 => if ¬ p2.1 = 0 then (if ¬ z = (-1 : Int32) then (fX11_within z (0 : Int32) (x - (1 : Int32)) p2.2).bind fun p3 => if p3.1 = 0 then some ((-1 : Int32), p3.2) else (fX9_outOfRing N x y z p3.2).bind fun p4 => some (p4.1, p4.2) else (fX9_lastInRing N x y p2.2).bind fun p5 => some (p5.1, p5.2)) else some ((-1 : Int32), p2.2) := rfl
  have t1 : ∀ K : nM, ¬ (cb true, K).1 = 0 := fun _ => (by decide : ¬ cb true = (0 : Int32))
  have t0 : ∀ K : nM, (cb false, K).1 = 0 := fun _ => rfl
  have bad : ∃ (v : Int32) (C' D' : nM), some ((-1 : Int32), M) = some (v, C') ∧ (∀ c, 107 ≤ c → c ≤ 151 → C' c = M c) ∧ some ((-1 : Int32), D0) = some (v, D') ∧ (∀ c, c < 107 ∨ 151 < c → D' c = D1 c) ∧ ∃ n q : Nat, Rel G (Mix C' D') n q := ⟨-1, M, D0, rfl, fun _ _ _ => rfl, rfl, hfr, n, q, hR⟩
  have fin : ∀ (w : Int32) (W : Nat → Int32), ∃ (v : Int32) (C' D' : nM), some (w, M) = some (v, C') ∧ (∀ c, 107 ≤ c → c ≤ 151 → C' c = M c) ∧ some (w, n_set D0 140 W) = some (v, D') ∧ (∀ c, c < 107 ∨ 151 < c → D' c = D1 c) ∧ ∃ n q : Nat, Rel G (Mix C' D') n q := fun w W => by
    refine ⟨w, M, n_set D0 140 W, rfl, fun _ _ _ => rfl, rfl, fun c hc => by rw [n_set_ne (by omega)]; exact hfr c hc, n, q, ?_⟩
    refine Rel_scr hR (fun c g1 g2 => ?_) (fun k hk => rfl)
    have e140 : c ≠ 140 := fun e => by subst e; exact absurd g1 (by decide)
    by_cases hc : c < 107 ∨ 151 < c
    · rw [Mix_c hc, Mix_c hc]
    · rw [Mix_d (by omega) (by omega), Mix_d (by omega) (by omega), n_set_ne e140]
  rw [eC, eM, e_within, e_isIn, Option.bind_some, Option.bind_some]
  cases hx : wi x 1 40 with
  | false => rw [if_pos (t0 _), if_pos (t0 _)]; exact bad
  | true =>
  rw [if_neg (t1 _), if_neg (t1 _), e_within, e_isIn, Option.bind_some, Option.bind_some]
  cases hy : wi y 1 20 with
  | false => rw [if_neg (not_not_intro (t0 _)), if_pos (t0 _)]; exact bad
  | true =>
  rw [if_pos (t1 _), if_neg (t1 _), e_isIn, Option.bind_some]
  obtain ⟨m, m1, m2, rfl⟩ := wi_nI1 (n := 40) (by decide) hx
  obtain ⟨k, k1, k2, rfl⟩ := wi_nI1 (n := 20) (by decide) hy
  have es : nI m - (1 : Int32) = nI (m - 1) := pk_sub (b := 1) (by omega)
  rw [es]
  obtain ⟨W', w1, w2⟩ := c_r44 (N := N) (n := m) (k := k) (x3 := z) (D := D0) (by omega) m2 m 0 N (D0 140) (by omega) (by omega) (fun a ha => absurd ha (by omega))
  rw [n_set_self rfl] at w2
  have hL : q_L (q_o W') m (m - 1) = List.range m := q_L_0 (by omega) (fun a ha => by
    unfold q_o
    rw [w1 a ha]
    decide)
  by_cases hz : z = -1
  · subst hz
    have g1 : wi (-1 : Int32) (-1) (nI (m - 1)) = true := by
      have : ¬ nI (m - 1) < (-1 : Int32) := fun g => absurd (Int32.lt_trans g (by decide)) (nI_pos (by omega))
      unfold wi
      simp [this]
    rw [g1, if_neg (not_not_intro rfl), if_pos (t1 _)]
    obtain ⟨w, W2, a1, a2⟩ := c_r72A (N := N) (D := D0) hN (by omega) m2 k1 k2 m N (m - 1) 1 W' (by omega) (by rw [hL, List.length_range]) (by omega) (by omega) (by omega)
    have a3 : fX12_ring_44 N N (nI m) (nI k) (-1 : Int32) (0 : Int32) D0 = some (nI w, n_set D0 140 W2) := w2.trans a2
    have a4 : fX9_lastInRing N (nI m) (nI k) M = some (nI (q_J k m), M) := by
      have := c_lr (N := N) (n := m) (k := k) (M := M) m2 k2 (m - 1) 1 N (by omega) (by omega) (by omega)
      rw [show q_J k 1 = 0 by show (0 + k) % 1 = 0; exact Nat.mod_one _] at this
      exact this
    have a5 : w = q_J k m := by
      rw [hL] at a1
      have hJ : q_J k m < m := by
        obtain ⟨y, rfl⟩ : ∃ y, m = y + 1 := ⟨m - 1, by omega⟩
        exact Nat.mod_lt _ (by omega)
      rw [List.getElem?_range hJ] at a1
      exact (Option.some.inj a1).symm
    show ∃ (v : Int32) (C' D' : nM), ((fX9_lastInRing N (nI m) (nI k) M).bind _) = _ ∧ _ ∧ fX12_ring_44 N N (nI m) (nI k) (-1 : Int32) (0 : Int32) D0 = _ ∧ _
    rw [a4, a3, Option.bind_some, a5]
    exact fin _ _
  · have hww : wi z (-1) (nI (m - 1)) = wi z 0 (nI (m - 1)) := by
      unfold wi
      have : decide (z < -1) = decide (z < 0) := decide_eq_decide.mpr ⟨fun g => Int32.lt_trans g (by decide), fun g => by
        rw [Int32.lt_iff_toInt_lt] at g ⊢
        have e1 : (-1 : Int32).toInt = -1 := by decide
        have e2 : (0 : Int32).toInt = 0 := by decide
        have e3 : z.toInt ≠ -1 := fun e => hz (Int32.toInt_inj.mp (by rw [e, e1]))
        omega⟩
      rw [this]
    rw [hww, if_pos hz, e_within, Option.bind_some]
    cases hw2 : wi z 0 (nI (m - 1)) with
    | false => rw [if_pos (t0 _), if_neg (not_not_intro (t0 _))]; exact bad
    | true =>
      obtain ⟨v, hv, rfl⟩ := wi_nI (n := m - 1) (nI_toInt (by omega)) hw2
      rw [if_neg (t1 _), if_pos (t1 _)]
      obtain ⟨W2, a2⟩ := c_r72B (N := N) (D := D0) (w := v) hN (by omega) m2 k1 k2 (by omega) m N (m - 1) 1 v W' (by omega) (by rw [hL, List.length_range]) (by omega) (by rw [hL]; exact List.getElem?_range (by omega)) (by omega) (by omega)
      have a3 : fX12_ring_44 N N (nI m) (nI k) (nI v) (0 : Int32) D0 = some (nI (q_oR m k m v), n_set D0 140 W2) := w2.trans a2
      have a4 : fX9_outOfRing N (nI m) (nI k) (nI v) M = some (nI (q_oR m k m v), M) := c_or (N := N) (n := m) (k := k) (M := M) m2 k1 k2 m N v (by omega) (by omega) (by omega)
      show ∃ (v_1 : Int32) (C' D' : nM), ((fX9_outOfRing N (nI m) (nI k) (nI v) M).bind _) = _ ∧ _ ∧ fX12_ring_44 N N (nI m) (nI k) (nI v) (0 : Int32) D0 = _ ∧ _
      rw [a4, a3, Option.bind_some]
      exact fin _ _
