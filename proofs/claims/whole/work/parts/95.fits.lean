/-! ===== fits: what the class allows ===== -/
def f_a (t p : Nat) (x : Nat × Nat × Bool) : Bool := decide (x.1 ≠ t) || (decide (p = x.2.1) == x.2.2)
def f_k (ps : List (Nat × Nat × Bool)) (t p : Nat) : Bool := ps.all (f_a t p)
theorem wf12_eq (N f : Nat) (G : nG) (x1 x2 x3 : Int32) (M : nM) : fX9_waysToFit_12 N G (f + 1) x1 x2 x3 M = if (M 37 3) ≤ x3 then (if x1 < 0 then fX9_waysToFit_131 N G M else if (8 : Int32) ≤ x1 then fX9_waysToFit_131 N G M else n_chk (n_ib 8 x1) (n_chk (n_ib 8 x1) (fX9_waysToFit_131 N G (n_up M 100 x1.toNatClampNeg ((M 100 x1.toNatClampNeg) &&& ((1 : Int32) <<< (x2 &&& 31))))))) else (fX7_cell G 37 x3 (0 : Int32) M).bind fun p2 => (fX7_cell G 37 x3 (1 : Int32) p2.2).bind fun p3 => if p2.1 < 0 then fX9_waysToFit_12 N G f x1 x2 (x3 + (1 : Int32)) p3.2 else if (8 : Int32) ≤ p2.1 then fX9_waysToFit_12 N G f x1 x2 (x3 + (1 : Int32)) p3.2 else n_chk (n_ib 8 p2.1) ((fX7_cell G 37 x3 (2 : Int32) p3.2).bind fun p7 => if ¬ p7.1 = (1 : Int32) then n_chk (n_ib 8 p2.1) (fX9_waysToFit_12 N G f x1 x2 (x3 + (1 : Int32)) (n_up p7.2 100 p2.1.toNatClampNeg ((p3.2 100 p2.1.toNatClampNeg) &&& (((1 : Int32) <<< (p3.1 &&& 31)) ^^^ (-1 : Int32))))) else n_chk (n_ib 8 p2.1) (fX9_waysToFit_12 N G f x1 x2 (x3 + (1 : Int32)) (n_up p7.2 100 p2.1.toNatClampNeg ((p3.2 100 p2.1.toNatClampNeg) &&& ((1 : Int32) <<< (p3.1 &&& 31)))))) := rfl
/-- the clues as they lie in the class -/
def f_H (G : nG) (ps : List (Nat × Nat × Bool)) (M : nM) : Prop := M 37 3 = nI ps.length ∧ ∀ i, i < ps.length → (ps.getD i (0, 0, false)).1 < 8 ∧ (ps.getD i (0, 0, false)).2.1 < 8 ∧ fX7_cell G 37 (nI i) (0 : Int32) M = some (nI (ps.getD i (0, 0, false)).1, M) ∧ fX7_cell G 37 (nI i) (1 : Int32) M = some (nI (ps.getD i (0, 0, false)).2.1, M) ∧ fX7_cell G 37 (nI i) (2 : Int32) M = some ((if (ps.getD i (0, 0, false)).2.2 = true then 1 else 0), M)
theorem c_wf12 {N : Nat} {G : nG} {x1 x2 : Int32} {M : nM} {ps : List (Nat × Nat × Bool)} (hL : ps.length ≤ 10) (hH : ∀ A : Nat → Int32, f_H G ps (n_set M 100 A)) : ∀ (d i f : Nat) (A : Nat → Int32), i + d = ps.length → d < f → ∃ (A' : Nat → Int32) (g : Nat), (∀ t p, t < 8 → p < 8 → bt (A' t) p = (bt (A t) p && f_k (ps.drop i) t p)) ∧ fX9_waysToFit_12 N G f x1 x2 (nI i) (n_set M 100 A) = fX9_waysToFit_12 N G (g + 1) x1 x2 (nI ps.length) (n_set M 100 A') := by
  intro d
  induction d with
  | zero =>
    intro i f A hi hf
    obtain ⟨f, rfl⟩ : ∃ g, f = g + 1 := ⟨f - 1, by omega⟩
    refine ⟨A, f, fun t p _ _ => ?_, by rw [show i = ps.length by omega]⟩
    rw [List.drop_eq_nil_of_le (by omega)]
    show bt (A t) p = (bt (A t) p && true)
    rw [Bool.and_true]
  | succ d ih =>
    intro i f A hi hf
    obtain ⟨f, rfl⟩ : ∃ g, f = g + 1 := ⟨f - 1, by omega⟩
    obtain ⟨h3, hc⟩ := hH A
    obtain ⟨c1, c2, c3, c4, c5⟩ := hc i (by omega)
    have hk : ∀ t p, f_k (ps.drop i) t p = (f_a t p (ps.getD i (0, 0, false)) && f_k (ps.drop (i + 1)) t p) := fun t p => by
      unfold f_k
      rw [f_drop (show i < ps.length by omega), List.all_cons]
    rw [wf12_eq, h3, if_neg (nI_ge (by omega) (by omega)), c3, Option.bind_some]
    show ∃ (A' : Nat → Int32) (g : Nat), _ ∧ ((fX7_cell G 37 (nI i) (1 : Int32) (n_set M 100 A)).bind _) = _
    rw [c4, Option.bind_some]
    generalize hxx : ps.getD i (0, 0, false) = x at c1 c2 c3 c4 c5 hk
    obtain ⟨a, b, s⟩ := x
    have c1' : a < 8 := c1
    have c2' : b < 8 := c2
    rw [if_neg (show ¬ nI a < 0 from nI_pos (by omega)), if_neg (show ¬ (8 : Int32) ≤ nI a from nI_ge (b := 8) c1' (by decide))]
    show ∃ (A' : Nat → Int32) (g : Nat), _ ∧ n_chk (n_ib 8 (nI a)) ((fX7_cell G 37 (nI i) (2 : Int32) (n_set M 100 A)).bind _) = _
    rw [n_ib_nI c1' (by decide), n_chk_t, c5, Option.bind_some, nI_1]
    cases s with
    | true =>
      show ∃ (A' : Nat → Int32) (g : Nat), _ ∧ (if ¬ (1 : Int32) = (1 : Int32) then _ else n_chk true (fX9_waysToFit_12 N G f x1 x2 (nI (i + 1)) (n_up (n_set M 100 A) 100 (nI a).toNatClampNeg ((n_set M 100 A 100 (nI a).toNatClampNeg) &&& ((1 : Int32) <<< (nI b &&& 31)))))) = _
      rw [if_neg (not_not_intro rfl), n_chk_t, nI_clamp (show a < 2 ^ 31 by omega), n_set_eq, n_up_set]
      obtain ⟨A', g, r1, r2⟩ := ih (i + 1) f (upd A a (A a &&& ((1 : Int32) <<< (nI b &&& 31)))) (by omega) (by omega)
      refine ⟨A', g, fun t p ht hp => ?_, r2⟩
      rw [r1 t p ht hp, hk]
      unfold f_a
      by_cases e : t = a
      · subst e
        rw [upd_eq, b_and, b_sh (by omega)]
        show _ = (bt (A t) p && ((decide (t ≠ t) || (decide (p = b) == true)) && _))
        rw [show decide (t ≠ t) = false by simp, Bool.false_or, Bool.and_assoc]
        cases decide (p = b) <;> rfl
      · rw [upd_ne e]
        show _ = (bt (A t) p && ((decide (a ≠ t) || _) && _))
        rw [show decide (a ≠ t) = true from decide_eq_true (fun z => e z.symm), Bool.true_or, Bool.true_and]
    | false =>
      show ∃ (A' : Nat → Int32) (g : Nat), _ ∧ (if ¬ (0 : Int32) = (1 : Int32) then n_chk true (fX9_waysToFit_12 N G f x1 x2 (nI (i + 1)) (n_up (n_set M 100 A) 100 (nI a).toNatClampNeg ((n_set M 100 A 100 (nI a).toNatClampNeg) &&& (((1 : Int32) <<< (nI b &&& 31)) ^^^ (-1 : Int32))))) else _) = _
      rw [if_pos (show ¬ (0 : Int32) = 1 by decide), n_chk_t, nI_clamp (show a < 2 ^ 31 by omega), n_set_eq, n_up_set]
      obtain ⟨A', g, r1, r2⟩ := ih (i + 1) f (upd A a (A a &&& (((1 : Int32) <<< (nI b &&& 31)) ^^^ (-1 : Int32)))) (by omega) (by omega)
      refine ⟨A', g, fun t p ht hp => ?_, r2⟩
      rw [r1 t p ht hp, hk]
      unfold f_a
      by_cases e : t = a
      · subst e
        rw [upd_eq, b_clr (by omega)]
        show _ = (bt (A t) p && ((decide (t ≠ t) || (decide (p = b) == false)) && _))
        rw [show decide (t ≠ t) = false by simp, Bool.false_or, Bool.and_assoc]
        cases decide (p = b) <;> rfl
      · rw [upd_ne e]
        show _ = (bt (A t) p && ((decide (a ≠ t) || _) && _))
        rw [show decide (a ≠ t) = true from decide_eq_true (fun z => e z.symm), Bool.true_or, Bool.true_and]
theorem f_C_c {ok ok' : Nat → Nat → Bool} (h : ∀ t p, t < 8 → p < 8 → ok t p = ok' t p) : ∀ (d s : Nat), d ≤ 8 → f_C ok d s = f_C ok' d s
  | 0, _, _ => rfl
  | d + 1, s, hd => f_T_c (fun p hp => by rw [h (7 - d) p (by omega) hp]) (fun p _ _ => f_C_c h d _ (by omega)) 8 (Nat.le_refl _)
theorem f_C_le {ok : Nat → Nat → Bool} : ∀ (d s : Nat), f_C ok d s ≤ 8 ^ d
  | 0, _ => Nat.le_refl _
  | d + 1, s => by
    rw [Nat.pow_succ, Nat.mul_comm]
    exact f_T_le (fun p _ _ => f_C_le d _) 8 (Nat.le_refl _)
theorem f_255 : ∀ p, p < 8 → bt (255 : Int32) p = true := by decide +kernel
theorem c_wf {N : Nat} {G : nG} {x1 : Int32} {p : Nat} {M : nM} {ps : List (Nat × Nat × Bool)} (hN : 1000 ≤ N) (hG : n_GOK G) (hL : ps.length ≤ 10) (hH : ∀ A : Nat → Int32, f_H G ps (n_set M 100 A)) (hp : p < 8) (ok : Nat → Nat → Bool) (hx : (x1 = -1 ∧ ∀ t q, t < 8 → q < 8 → ok t q = f_k ps t q) ∨ ∃ x, x < 8 ∧ x1 = nI x ∧ ∀ t q, t < 8 → q < 8 → ok t q = (f_k ps t q && (decide (t ≠ x) || decide (q = p)))) : ∃ M' : nM, (∀ c, c ≠ 99 → c ≠ 100 → M' c = M c) ∧ fX9_waysToFit N G x1 (nI p) M = some (nI (f_C ok 8 0), M') := by
  have fillE := e_fill (N := N) (c := 100) (L := 8) (x := (255 : Int32)) (gk100 hG) (gl100 hG) (by decide) hN M
  obtain ⟨A', g, r1, r2⟩ := c_wf12 (N := N) (x1 := x1) (x2 := nI p) hL hH ps.length 0 N (fun t => if 0 ≤ t ∧ t < 8 then (255 : Int32) else M 100 t) (by omega) (by omega)
  rw [List.drop_zero] at r1
  have r1' : ∀ t q, t < 8 → q < 8 → bt (A' t) q = f_k ps t q := fun t q ht hq => by
    rw [r1 t q ht hq]
    show (bt (if 0 ≤ t ∧ t < 8 then (255 : Int32) else M 100 t) q && _) = _
    rw [if_pos ⟨Nat.zero_le _, ht⟩, f_255 q hq, Bool.true_and]
  have e0 : fX9_waysToFit N G x1 (nI p) M = fX9_waysToFit_12 N G (g + 1) x1 (nI p) (nI ps.length) (n_set M 100 A') := by
    show ((fJ7_fill_53178 N G 100 (255 : Int32) M).bind _) = _
    rw [fillE, Option.bind_some]
    exact r2
  have h3 := (hH A').1
  rw [e0, wf12_eq, h3, if_pos (nI_le (Nat.le_refl _) (by omega))]
  rcases hx with ⟨rfl, hok⟩ | ⟨x, x8, rfl, hok⟩
  · obtain ⟨W, hW⟩ := c_wa (N := N) (G := G) (M := n_set M 100 A') hN hG
    rw [if_pos (by decide)]
    refine ⟨n_set (n_set M 100 A') 99 W, fun c c1 c2 => by rw [n_set_ne c1, n_set_ne c2], ?_⟩
    show ((fX9_waysAllowed N G (n_set M 100 A')).bind _) = _
    rw [hW, Option.bind_some]
    show some (nI _, _) = _
    rw [n_set_eq, f_C_c (ok' := ok) (fun t q ht hq => by rw [hok t q ht hq]; exact r1' t q ht hq) 8 0 (Nat.le_refl _)]
  · rw [if_neg (show ¬ nI x < 0 from nI_pos (by omega)), if_neg (show ¬ (8 : Int32) ≤ nI x from nI_ge (b := 8) x8 (by decide)), n_ib_nI x8 (by decide), n_chk_t, n_chk_t, nI_clamp (show x < 2 ^ 31 by omega), n_set_eq, n_up_set]
    obtain ⟨W, hW⟩ := c_wa (N := N) (G := G) (M := n_set M 100 (upd A' x (A' x &&& ((1 : Int32) <<< (nI p &&& 31))))) hN hG
    refine ⟨n_set (n_set M 100 (upd A' x (A' x &&& ((1 : Int32) <<< (nI p &&& 31))))) 99 W, fun c c1 c2 => by rw [n_set_ne c1, n_set_ne c2], ?_⟩
    show ((fX9_waysAllowed N G _).bind _) = _
    rw [hW, Option.bind_some]
    show some (nI _, _) = _
    rw [n_set_eq, f_C_c (ok' := ok) (fun t q ht hq => by
      rw [hok t q ht hq]
      show bt (upd A' x (A' x &&& ((1 : Int32) <<< (nI p &&& 31))) t) q = _
      by_cases e : t = x
      · subst e
        rw [upd_eq, b_and, b_sh (by omega), r1' t q ht hq]
        simp
      · rw [upd_ne e, r1' t q ht hq]
        simp [e]) 8 0 (Nat.le_refl _)]
/-! ===== fits: the sure place ===== -/
def f_su (q : Nat → Bool) : Nat → Nat → Int32 → Int32
  | 0, _, s => s
  | d + 1, p, s => if q p = true then (if s = (-1 : Int32) then f_su q d (p + 1) (nI p) else -1) else f_su q d (p + 1) s
theorem f_su_c {q r : Nat → Bool} : ∀ (d p : Nat) (s : Int32), (∀ i, i < p + d → q i = r i) → f_su q d p s = f_su r d p s
  | 0, _, _, _ => rfl
  | d + 1, p, s, h => by
    unfold f_su
    rw [h p (by omega), f_su_c d (p + 1) (nI p) (fun i hi => h i (by omega)), f_su_c d (p + 1) s (fun i hi => h i (by omega))]
def f_97 (m : Nat) : Nat → Nat → Int32
  | 0, _ => -1
  | d + 1, p => if m = 2 ^ p then nI p else f_97 m d (p + 1)
theorem f_97_su : ∀ m, m < 256 → f_97 m 8 0 = f_su (fun p => m.testBit p) 8 0 (-1) := by decide +kernel
theorem c_f97 {N m : Nat} {M : nM} (hm : m < 256) : ∀ (d p f : Nat), p + d = 8 → d < f → fX12_fits_97 N f (nI m) (nI p) M = some (f_97 m d p, M) := by
  intro d
  induction d with
  | zero =>
    intro p f hp hf
    obtain ⟨f, rfl⟩ : ∃ g, f = g + 1 := ⟨f - 1, by omega⟩
    rw [f97_eq, if_pos (show (8 : Int32) ≤ nI p from nI_le (a := 8) (by omega) (by omega))]
    rfl
  | succ d ih =>
    intro p f hp hf
    obtain ⟨f, rfl⟩ : ∃ g, f = g + 1 := ⟨f - 1, by omega⟩
    have h2 : 2 ^ p < 2 ^ 31 := Nat.pow_lt_pow_right (by decide) (by omega)
    rw [f97_eq, if_neg (show ¬ (8 : Int32) ≤ nI p from nI_ge (b := 8) (by omega) (by decide)), f_bi p (by omega), nI_1]
    unfold f_97
    by_cases e : m = 2 ^ p
    · rw [if_neg (not_not_intro (congrArg nI e)), if_pos e]
    · rw [if_pos (fun z => e ((nI_eq (by omega) h2).mp z)), if_neg e]
      exact ih (p + 1) f (by omega) (by omega)
theorem sp4_eq (N f : Nat) (G : nG) (x1 x2 x3 : Int32) (M : nM) : fX9_surePlace_4 N G (f + 1) x1 x2 x3 M = if (8 : Int32) ≤ x3 then some (x2, M) else (fX9_waysToFit N G x1 x3 M).bind fun p1 => if p1.1 ≤ 0 then fX9_surePlace_4 N G f x1 x2 (x3 + (1 : Int32)) p1.2 else if x2 = (-1 : Int32) then fX9_surePlace_4 N G f x1 x3 (x3 + (1 : Int32)) p1.2 else some ((-1 : Int32), p1.2) := rfl
def f_o2 (ps : List (Nat × Nat × Bool)) (x p t q : Nat) : Bool := f_k ps t q && (decide (t ≠ x) || decide (q = p))
theorem c_sp4 {N x : Nat} {G : nG} {M0 : nM} {ps : List (Nat × Nat × Bool)} (hN : 1000 ≤ N) (hG : n_GOK G) (hL : ps.length ≤ 10) (hx : x < 8) (hH : ∀ M : nM, (∀ c, c ≠ 99 → c ≠ 100 → M c = M0 c) → f_H G ps M) : ∀ (d p f : Nat) (s : Int32) (M : nM), p + d = 8 → d < f → (∀ c, c ≠ 99 → c ≠ 100 → M c = M0 c) → ∃ M' : nM, (∀ c, c ≠ 99 → c ≠ 100 → M' c = M0 c) ∧ fX9_surePlace_4 N G f (nI x) s (nI p) M = some (f_su (fun p => decide (0 < f_C (f_o2 ps x p) 8 0)) d p s, M') := by
  intro d
  induction d with
  | zero =>
    intro p f s M hp hf hM
    obtain ⟨f, rfl⟩ : ∃ g, f = g + 1 := ⟨f - 1, by omega⟩
    refine ⟨M, hM, ?_⟩
    rw [sp4_eq, if_pos (show (8 : Int32) ≤ nI p from nI_le (a := 8) (by omega) (by omega))]
    rfl
  | succ d ih =>
    intro p f s M hp hf hM
    obtain ⟨f, rfl⟩ : ∃ g, f = g + 1 := ⟨f - 1, by omega⟩
    obtain ⟨M1, m1, m2⟩ := c_wf (N := N) (G := G) (x1 := nI x) (p := p) (M := M) (ps := ps) hN hG hL (fun A => hH _ (fun c c1 c2 => by rw [n_set_ne c2]; exact hM c c1 c2)) (by omega) (f_o2 ps x p) (Or.inr ⟨x, hx, rfl, fun _ _ _ _ => rfl⟩)
    have hM1 : ∀ c, c ≠ 99 → c ≠ 100 → M1 c = M0 c := fun c c1 c2 => by rw [m1 c c1 c2]; exact hM c c1 c2
    have hle : f_C (f_o2 ps x p) 8 0 < 2 ^ 31 := Nat.lt_of_le_of_lt (f_C_le 8 0) (by decide)
    rw [sp4_eq, if_neg (show ¬ (8 : Int32) ≤ nI p from nI_ge (b := 8) (by omega) (by decide)), m2, Option.bind_some, nI_1]
    unfold f_su
    generalize f_C (f_o2 ps x p) 8 0 = K at hle
    by_cases h0 : 0 < K
    · rw [if_neg (show ¬ nI K ≤ 0 from nI_nle h0 hle), if_pos (show decide (0 < K) = true from decide_eq_true h0)]
      by_cases hs : s = (-1 : Int32)
      · rw [if_pos hs, if_pos hs]
        exact ih (p + 1) f (nI p) M1 (by omega) (by omega) hM1
      · rw [if_neg hs, if_neg hs]
        exact ⟨M1, hM1, rfl⟩
    · rw [show K = 0 by omega, if_pos (show nI 0 ≤ (0 : Int32) by decide), if_neg (show ¬ decide (0 < 0) = true by decide)]
      exact ih (p + 1) f s M1 (by omega) (by omega) hM1
theorem f_pr_t {ok : Nat → Nat → Bool} {w : Nat → Nat} : ∀ n : Nat, f_pr ok w n = true ↔ ∀ t, t < n → ok t (w t) = true
  | 0 => ⟨fun _ t ht => absurd ht (by omega), fun _ => rfl⟩
  | n + 1 => by
    unfold f_pr
    rw [Bool.and_eq_true, f_pr_t n]
    constructor
    · rintro ⟨h1, h2⟩ t ht
      by_cases e : t = n
      · rw [e]; exact h2
      · exact h1 t (by omega)
    · intro h
      exact ⟨fun t ht => h t (by omega), h n (by omega)⟩
theorem f_fit {ps : List (Nat × Nat × Bool)} (hps : ∀ x, x ∈ ps → x.1 < 8) (w : Nat → Nat) : ps.all (f_q w) = f_pr (f_k ps) w 8 := by
  rw [Bool.eq_iff_iff, List.all_eq_true, f_pr_t]
  constructor
  · intro h t ht
    unfold f_k
    rw [List.all_eq_true]
    intro x hx
    have := h x hx
    unfold f_q at this
    unfold f_a
    by_cases e : x.1 = t
    · rw [← e, this, Bool.or_true]
    · rw [show decide (x.1 ≠ t) = true by simp [e], Bool.true_or]
  · intro h x hx
    have := h x.1 (hps x hx)
    unfold f_k at this
    rw [List.all_eq_true] at this
    have := this x hx
    unfold f_a at this
    rw [show decide (x.1 ≠ x.1) = false by simp, Bool.false_or] at this
    exact this
theorem f_fit2 {ps : List (Nat × Nat × Bool)} (hps : ∀ x, x ∈ ps → x.1 < 8) {x p : Nat} (hx : x < 8) (w : Nat → Nat) : (ps.all (f_q w) && decide (w x = p)) = f_pr (f_o2 ps x p) w 8 := by
  rw [f_fit hps, Bool.eq_iff_iff, Bool.and_eq_true, f_pr_t, f_pr_t]
  constructor
  · rintro ⟨h1, h2⟩ t ht
    unfold f_o2
    rw [h1 t ht, Bool.true_and]
    by_cases e : t = x
    · rw [e, h2, Bool.or_true]
    · rw [show decide (t ≠ x) = true by simp [e], Bool.true_or]
  · intro h
    refine ⟨fun t ht => ?_, ?_⟩
    · have := h t ht
      unfold f_o2 at this
      rw [Bool.and_eq_true] at this
      exact this.1
    · have := h x hx
      unfold f_o2 at this
      rw [Bool.and_eq_true, show decide (x ≠ x) = false by simp, Bool.false_or] at this
      exact this.2
theorem f_fo_P {α : Type} {g : Nat → α → α} (P : α → Prop) (hg : ∀ p a, P a → P (g p a)) : ∀ (r : Nat) (a : α), P a → P (f_fo g r a)
  | 0, _, h => h
  | r + 1, a, h => f_fo_P P hg r _ (hg _ a h)
theorem f_tf_P {α : Type} {st : α → (Nat → Nat) → α} (P : α → Prop) (hs : ∀ a w, P a → P (st a w)) : ∀ (m : Nat) (w : Nat → Nat) (a : α), P a → P (f_tf st m w a)
  | 0, w, a, h => hs a w h
  | m + 1, w, a, h => f_fo_P P (fun p b hb => by
    show P (if f_us w p (7 - m) = true then b else f_tf st m (f_up w (7 - m) p) b)
    split
    · exact hb
    · exact f_tf_P P hs m _ b hb) 8 a h
theorem f_cC0 {ok : Nat → Nat → Bool} {fit : (Nat → Nat) → Bool} (hf : ∀ w, fit w = f_pr ok w 8) (w : Nat → Nat) : f_cT fit 8 w = f_C ok 8 0 := by
  have := f_cC hf 8 0 w (Nat.le_refl _) (fun p _ => by rw [Nat.zero_testBit]; rfl)
  rw [this]
  exact if_pos rfl
theorem f_num {s : Int32} (h : ∀ u, bt s u = true → u < 8) : ∃ y, y < 256 ∧ nI y = s ∧ ∀ u, u < 8 → y.testBit u = bt s u := by
  have hlt : s.toBitVec.toNat < 256 := by
    refine Nat.lt_pow_two_of_testBit (n := 8) _ fun i hi => ?_
    cases e : s.toBitVec.toNat.testBit i with
    | false => rfl
    | true =>
      have : bt s i = true := by
        show s.toBitVec.getLsbD i = true
        rw [BitVec.getLsbD]
        exact e
      have := h i this
      omega
  refine ⟨_, hlt, b_ext fun i hi => ?_, fun u _ => rfl⟩
  rw [b_nat hi]
  rfl
