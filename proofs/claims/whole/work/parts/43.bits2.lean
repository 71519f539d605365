/-! ===== sets by their bits; key ===== -/
def n_set (M : nM) (a : Nat) (f : Nat → Int32) : nM := fun b => if b = a then f else M b
theorem n_set_eq {M : nM} {a : Nat} {f : Nat → Int32} : n_set M a f a = f := if_pos rfl
theorem n_set_ne {M : nM} {a b : Nat} {f : Nat → Int32} (h : b ≠ a) : n_set M a f b = M b := if_neg h
theorem n_set_up {M : nM} {a k : Nat} {v : Int32} {f : Nat → Int32} : n_set (n_up M a k v) a f = n_set M a f := by
  funext b
  by_cases h : b = a
  · rw [h, n_set_eq, n_set_eq]
  · rw [n_set_ne h, n_set_ne h, n_up_ne h]
theorem n_set_self {M : nM} {a : Nat} {f : Nat → Int32} (h : M a = f) : n_set M a f = M := by
  funext b
  by_cases hb : b = a
  · rw [hb, n_set_eq, h]
  · rw [n_set_ne hb]
theorem n_up_set {M : nM} {a k : Nat} {v : Int32} {f : Nat → Int32} : n_up (n_set M a f) a k v = n_set M a (upd f k v) := by
  funext b
  by_cases h : b = a
  · rw [h, n_up_eq, n_set_eq, n_set_eq]
  · rw [n_up_ne h, n_set_ne h, n_set_ne h]
theorem n_set_set {M : nM} {a : Nat} {f g : Nat → Int32} : n_set (n_set M a f) a g = n_set M a g := by
  funext b
  by_cases h : b = a
  · rw [h, n_set_eq, n_set_eq]
  · rw [n_set_ne h, n_set_ne h, n_set_ne h]
theorem b_one (i : Nat) : bt 1 i = decide (i = 0) := by
  by_cases h : i < 32
  · have : ∀ i, i < 32 → bt 1 i = decide (i = 0) := by decide +kernel
    exact this i h
  · rw [b_big (by omega)]
    simp only [Bool.false_eq, decide_eq_false_iff_not]
    omega
theorem b_sh {v : Nat} (hv : v < 32) (t : Nat) : bt ((1 : Int32) <<< (nI v &&& 31)) t = decide (t = v) := by
  by_cases h : t < 32
  · rw [b_shl v hv 1 h, b_one]
    by_cases h1 : v ≤ t
    · simp only [h1, decide_true, Bool.true_and]
      exact decide_eq_decide.mpr (by omega)
    · simp only [h1, decide_false, Bool.false_and, Bool.false_eq, decide_eq_false_iff_not]
      omega
  · rw [b_big (by omega)]
    simp only [Bool.false_eq, decide_eq_false_iff_not]
    omega
theorem b_set {v : Nat} (hv : v < 32) (x : Int32) (t : Nat) : bt (x ||| ((1 : Int32) <<< (nI v &&& 31))) t = (bt x t || decide (t = v)) := by rw [b_or, b_sh hv]
theorem b_clr {v : Nat} (hv : v < 32) (x : Int32) (t : Nat) : bt (x &&& (((1 : Int32) <<< (nI v &&& 31)) ^^^ (-1 : Int32))) t = (bt x t && !decide (t = v)) := by
  by_cases h : t < 32
  · rw [b_and, b_xor, b_sh hv, b_m1 t h]
    simp
  · rw [b_big (by omega), b_big (by omega)]
    rfl
theorem b_get {v : Nat} (hv : v < 32) (x : Int32) : (x >>> (nI v &&& 31)) &&& (1 : Int32) = cb (bt x v) := by
  apply b_ext
  intro i hi
  rw [b_and, b_sshr v hv x hi, b_one]
  by_cases h : i = 0
  · subst h
    rw [if_pos (by omega)]
    cases bt x v <;> decide
  · have : bt (cb (bt x v)) i = false := by
      cases bt x v
      · exact b_0 i
      · show bt 1 i = false
        rw [b_one]
        simp [h]
    rw [this]
    simp [h]
theorem e_bit {v : Nat} (hv : v < 32) (s : Int32) (M : nM) : fX4_bit s (nI v) M = some (cb (bt s v), M) := by
  unfold fX4_bit
  rw [b_get hv]
theorem e_hasBit {v : Nat} (hv : v < 32) (s : Int32) (M : nM) : fX4_hasBit s (nI v) M = some (cb (bt s v), M) := by
  unfold fX4_hasBit
  rw [e_bit hv]
  cases bt s v <;> simp only [Option.bind_some, wp_bind, wp_some, wp_chk, ↓reduceIte, not_true_eq_false, not_false_eq_true, z10, z01, zm0, z0m, zm1, z1m, true_and, and_true, cb_t, cb_f, cb0, cb1, eq_self, Bool.false_eq_true, Bool.true_eq_false, reduceCtorEq]
/-- the set with v in it, or not -/
def sb (s : Int32) (v : Nat) (on : Bool) : Int32 := if on = true then s ||| ((1 : Int32) <<< (nI v &&& 31)) else s &&& (((1 : Int32) <<< (nI v &&& 31)) ^^^ (-1 : Int32))
theorem b_sb {v : Nat} (hv : v < 32) (s : Int32) (on : Bool) (t : Nat) : bt (sb s v on) t = if t = v then on else bt s t := by
  unfold sb
  cases on with
  | true =>
    rw [if_pos rfl, b_set hv]
    by_cases h : t = v <;> simp [h]
  | false =>
    rw [if_neg (by decide), b_clr hv]
    by_cases h : t = v <;> simp [h]
theorem e_withBit {v : Nat} (s : Int32) (on : Bool) (M : nM) : fX4_withBit s (nI v) (cb on) M = some (sb s v on, M) := by
  unfold fX4_withBit sb
  cases on <;> simp only [wp_bind, wp_some, wp_chk, ↓reduceIte, not_true_eq_false, not_false_eq_true, z10, z01, zm0, z0m, zm1, z1m, true_and, and_true, cb_t, cb_f, cb0, cb1, eq_self, Bool.false_eq_true, Bool.true_eq_false, reduceCtorEq]
theorem e_withBit1 {v : Nat} (s : Int32) (M : nM) : fX4_withBit s (nI v) 1 M = some (sb s v true, M) := e_withBit s true M
theorem e_withBit0 {v : Nat} (s : Int32) (M : nM) : fX4_withBit s (nI v) 0 M = some (sb s v false, M) := e_withBit s false M
theorem e_key17 (N : Nat) : ∀ (d j f : Nat) (M : nM), j + d = 10 → d < f → fX12_key_17 N f (nI j) M = some (0, n_set M 139 (fun t => if j ≤ t ∧ t < 10 then 0 else M 139 t)) := by
  intro d
  induction d with
  | zero =>
    intro j f M hj hf
    obtain ⟨f, rfl⟩ : ∃ g, f = g + 1 := ⟨f - 1, by omega⟩
    unfold fX12_key_17
    rw [if_pos (show (10 : Int32) ≤ nI j from nI_le (a := 10) (by omega) (by omega))]
    rw [n_set_self]
    funext t
    rw [if_neg (by omega)]
  | succ d ih =>
    intro j f M hj hf
    obtain ⟨f, rfl⟩ : ∃ g, f = g + 1 := ⟨f - 1, by omega⟩
    unfold fX12_key_17
    rw [if_neg (show ¬ (10 : Int32) ≤ nI j from nI_ge (b := 10) (by omega) (by omega))]
    simp only [n_ib_nI (show j < 10 by omega) (show 10 < 2 ^ 31 by decide), n_chk, nI_clamp (show j < 2 ^ 31 by omega), nI_1]
    rw [ih (j + 1) f _ (by omega) (by omega), n_set_up]
    congr 3
    funext t
    rw [n_up_eq]
    by_cases h : t = j
    · subst h
      rw [upd_eq, if_neg (by omega), if_pos (by omega)]
    · rw [upd_ne h]
      by_cases h2 : j + 1 ≤ t ∧ t < 10
      · rw [if_pos h2, if_pos (by omega)]
      · rw [if_neg h2, if_neg (by omega)]
theorem r_key_cnt {cnt mc : Int32} {cells a : Nat → Int32} (h : r_key cnt cells mc a) : ∃ k : Nat, k ≤ 12 ∧ cnt = nI k ∧ mc = nI k := by
  obtain ⟨ps, p1, p2, p3, p4⟩ := h
  exact ⟨ps.length, p1, p2, p3⟩
theorem r_key_0 {cells a : Nat → Int32} (h : ∀ c, c < 10 → a c = 0) : r_key 0 cells 0 a := ⟨[], by simp, rfl, rfl, fun i x hx => by simp at hx, fun c hc t => by rw [h c hc, b_0]; simp⟩
theorem r_key_add {cnt mc : Int32} {cells a : Nat → Int32} {k u v : Nat} (h : r_key cnt cells mc a) (hc : cnt = nI k) (hk : k < 12) (h1 : u ≤ 9) (h2 : v ≤ 9) : r_key (nI (k + 1)) (upd (upd cells (2 * k) (nI u)) (2 * k + 1) (nI v)) (nI (k + 1)) (upd a u (a u ||| ((1 : Int32) <<< (nI v &&& 31)))) := by
  obtain ⟨ps, p1, p2, p3, p4, p5⟩ := h
  have hlen : ps.length = k := by
    rw [p2] at hc
    exact (nI_eq (by omega) (by omega)).mp hc
  refine ⟨ps ++ [(u, v)], by simp; omega, by simp [hlen], by simp [hlen], l_snoc (fun i x hx => ?_) ?_, ?_⟩
  · have := l_lt hx
    rw [upd_ne (show 2 * i ≠ 2 * k + 1 by omega), upd_ne (show 2 * i ≠ 2 * k by omega), upd_ne (show 2 * i + 1 ≠ 2 * k + 1 by omega), upd_ne (show 2 * i + 1 ≠ 2 * k by omega)]
    exact p4 i x hx
  · rw [hlen]
    exact ⟨by show u < 10; omega, by show v < 10; omega, by rw [upd_ne (show 2 * k ≠ 2 * k + 1 by omega)]; exact upd_eq, upd_eq⟩
  · intro c hc t
    by_cases hcu : c = u
    · subst hcu
      rw [upd_eq, b_set (by omega), Bool.or_eq_true, p5 c hc t]
      simp only [decide_eq_true_eq, List.mem_append, List.mem_singleton, Prod.mk.injEq, true_and]
    · rw [upd_ne hcu, p5 c hc t]
      simp only [List.mem_append, List.mem_singleton, Prod.mk.injEq, hcu, false_and, or_false]
theorem st_key {G : nG} {M : nM} {n q N : Nat} (hN : 1000 ≤ N) (hG : n_GOK G) (h : Rel G M n q) (x y : Int32) : Stq G (fX11_key G x y) (fX12_key N x y) M := by
  obtain ⟨⟨hst, hmv, hbk, hlw, hsp, hcu, hli, hsw, hpk, hbx, hky, hcl, hsh, hrw, hgf, hmi⟩, hpr, hrd, hck, hwd, him⟩ := id h
  obtain ⟨k, hk, e1, e2⟩ := r_key_cnt hky
  have hwm : r_wm (M 35 1) (M 35 2) 2 12 := hck.2.2.2.2.2.2.2.2.2.1
  unfold Stq fX11_key fX12_key
  by_cases h0 : x = -1
  · simp only [h0, e_clear (gk35 hG), e_key17 N 10 0 N _ rfl (by omega), show (0 : Int32) = nI 0 from rfl, wp_bind, wp_some, wp_chk, ↓reduceIte, not_true_eq_false, not_false_eq_true, z10, z01, zm0, z0m, zm1, z1m, true_and, and_true, cb_t, cb_f, cb0, cb1, eq_self, Bool.false_eq_true, Bool.true_eq_false, reduceCtorEq]
    refine ⟨n, q, ⟨⟨hst, hmv, hbk, hlw, hsp, hcu, hli, hsw, hpk, hbx, r_key_0 (fun c hc => ?_), hcl, hsh, hrw, hgf, hmi⟩, hpr, hrd, hck, hwd, him⟩⟩
    show (if 0 ≤ c ∧ c < 10 then (0 : Int32) else _) = 0
    rw [if_pos (by omega)]
  · cases hw : wi x 0 9 with
    | false =>
      simp only [h0, e_within, e_isIn, hw, wp_bind, wp_some, wp_chk, ↓reduceIte, not_true_eq_false, not_false_eq_true, z10, z01, zm0, z0m, zm1, z1m, true_and, and_true, cb_t, cb_f, cb0, cb1, eq_self, Bool.false_eq_true, Bool.true_eq_false, reduceCtorEq]
      exact ⟨n, q, h⟩
    | true =>
      cases hw2 : wi y 0 9 with
      | false =>
        simp only [h0, e_within, e_isIn, hw, hw2, wp_bind, wp_some, wp_chk, ↓reduceIte, not_true_eq_false, not_false_eq_true, z10, z01, zm0, z0m, zm1, z1m, true_and, and_true, cb_t, cb_f, cb0, cb1, eq_self, Bool.false_eq_true, Bool.true_eq_false, reduceCtorEq]
        exact ⟨n, q, h⟩
      | true =>
        obtain ⟨u, hu, rfl⟩ := wi_nI (n := 9) (by decide) hw
        obtain ⟨v, hv, rfl⟩ := wi_nI (n := 9) (by decide) hw2
        simp only [h0, e_within, e_isIn, hw, hw2, e_add2 (H := 12) (gk35 hG) (gm35_0 hG) (gk36 hG) (gl36 hG) hwm e1 (by decide) (by decide) hk, wp_bind, wp_some, wp_chk, ↓reduceIte, not_true_eq_false, not_false_eq_true, z10, z01, zm0, z0m, zm1, z1m, true_and, and_true, cb_t, cb_f, cb0, cb1, eq_self, Bool.false_eq_true, Bool.true_eq_false, reduceCtorEq]
        by_cases hlt : k < 12
        · have f2 : ¬ nI k = 12 := fun e => by have := (nI_eq (b := 12) (by omega) (by decide)).mp e; omega
          simp only [hlt, wp_bind, wp_some, wp_chk, ↓reduceIte, not_true_eq_false, not_false_eq_true, z10, z01, zm0, z0m, zm1, z1m, true_and, and_true, cb_t, cb_f, cb0, cb1, eq_self, Bool.false_eq_true, Bool.true_eq_false, reduceCtorEq]
          have f1 : n_up (n_up (n_up (n_up M 36 (2 * k) (nI u)) 36 (2 * k + 1) (nI v)) 35 3 (nI (k + 1))) 107 0 0 107 55 = nI k := e2
          simp only [f1, f2, n_ib_nI (show u < 10 by omega) (show 10 < 2 ^ 31 by decide), nI_clamp (show u < 2 ^ 31 by omega), wp_bind, wp_some, wp_chk, ↓reduceIte, not_true_eq_false, not_false_eq_true, z10, z01, zm0, z0m, zm1, z1m, true_and, and_true, cb_t, cb_f, cb0, cb1, eq_self, Bool.false_eq_true, Bool.true_eq_false, reduceCtorEq]
          have f3 : ∀ z, n_up (n_up (n_up (n_up (n_up M 36 (2 * k) (nI u)) 36 (2 * k + 1) (nI v)) 35 3 (nI (k + 1))) 107 0 0) 139 u z 107 55 = nI k := fun _ => e2
          simp only [f3, nI_1, n_up_eq, upd_eq, wp_bind, wp_some, wp_chk, ↓reduceIte, not_true_eq_false, not_false_eq_true, z10, z01, zm0, z0m, zm1, z1m, true_and, and_true, cb_t, cb_f, cb0, cb1, eq_self, Bool.false_eq_true, Bool.true_eq_false, reduceCtorEq]
          exact ⟨n, q, ⟨⟨hst, hmv, hbk, hlw, hsp, hcu, hli, hsw, hpk, hbx, r_key_add hky e1 hlt hu hv, hcl, hsh, hrw, hgf, hmi⟩, hpr, hrd, hck, hwd, him⟩⟩
        · have hk4 : k = 12 := by omega
          have f1 : n_up M 107 0 0 107 55 = 12 := by rw [show n_up M 107 0 0 107 55 = M 107 55 from rfl, e2, hk4]; rfl
          simp only [hlt, f1, wp_bind, wp_some, wp_chk, ↓reduceIte, not_true_eq_false, not_false_eq_true, z10, z01, zm0, z0m, zm1, z1m, true_and, and_true, cb_t, cb_f, cb0, cb1, eq_self, Bool.false_eq_true, Bool.true_eq_false, reduceCtorEq]
          exact ⟨n, q, h⟩
