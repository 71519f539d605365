/-! ===== heir: ways, counted over a list ===== -/
def h_N (P : (Nat → Nat) → Bool) : List Nat → (Nat → Nat) → Nat
  | [], a => if P a = true then 1 else 0
  | p :: L, a => h_N P L (f_up a p 0) + h_N P L (f_up a p 1) + h_N P L (f_up a p 2)
theorem f_up_up {a : Nat → Nat} {p r v w : Nat} (h : p ≠ r) : f_up (f_up a p v) r w = f_up (f_up a r w) p v := by
  funext j
  unfold f_up
  by_cases e1 : j = r
  · subst e1
    rw [if_pos rfl, if_neg (fun z => h z.symm), if_pos rfl]
  · rw [if_neg e1]
    by_cases e2 : j = p
    · rw [if_pos e2, if_pos e2]
    · rw [if_neg e2, if_neg e2, if_neg e1]
theorem h_N_p {P : (Nat → Nat) → Bool} {L K : List Nat} (h : L.Perm K) : ∀ a, h_N P L a = h_N P K a := by
  induction h with
  | nil => intro a; rfl
  | cons x _ ih => intro a; show _ + _ + _ = _ + _ + _; rw [ih, ih, ih]
  | swap x y l =>
    intro a
    by_cases e : x = y
    · subst e; rfl
    · show h_N P l (f_up (f_up a y 0) x 0) + h_N P l (f_up (f_up a y 0) x 1) + h_N P l (f_up (f_up a y 0) x 2) + (h_N P l (f_up (f_up a y 1) x 0) + h_N P l (f_up (f_up a y 1) x 1) + h_N P l (f_up (f_up a y 1) x 2)) + (h_N P l (f_up (f_up a y 2) x 0) + h_N P l (f_up (f_up a y 2) x 1) + h_N P l (f_up (f_up a y 2) x 2)) = h_N P l (f_up (f_up a x 0) y 0) + h_N P l (f_up (f_up a x 0) y 1) + h_N P l (f_up (f_up a x 0) y 2) + (h_N P l (f_up (f_up a x 1) y 0) + h_N P l (f_up (f_up a x 1) y 1) + h_N P l (f_up (f_up a x 1) y 2)) + (h_N P l (f_up (f_up a x 2) y 0) + h_N P l (f_up (f_up a x 2) y 1) + h_N P l (f_up (f_up a x 2) y 2))
      have hc : ∀ v w, f_up (f_up a y v) x w = f_up (f_up a x w) y v := fun v w => f_up_up (fun z => e z.symm)
      rw [hc 0 0, hc 0 1, hc 0 2, hc 1 0, hc 1 1, hc 1 2, hc 2 0, hc 2 1, hc 2 2]
      omega
  | trans _ _ ih1 ih2 => intro a; rw [ih1, ih2]
/-- b is a with values on L -/
def h_X (L : List Nat) (a b : Nat → Nat) : Prop := (∀ j, j ∉ L → b j = a j) ∧ ∀ j, j ∈ L → b j < 3
theorem h_X_up {L : List Nat} {a b : Nat → Nat} {p v : Nat} (hp : p ∉ L) (hv : v < 3) (h : h_X L (f_up a p v) b) : h_X (p :: L) a b := by
  refine ⟨fun j hj => ?_, fun j hj => ?_⟩
  · rw [List.mem_cons, not_or] at hj
    rw [h.1 j hj.2, f_up_n hj.1]
  · rcases List.mem_cons.mp hj with e | e
    · subst e
      rw [h.1 j hp, f_up_e]
      exact hv
    · exact h.2 j e
theorem h_N_c {P Q : (Nat → Nat) → Bool} : ∀ (L : List Nat) (a : Nat → Nat), L.Nodup → (∀ b, h_X L a b → P b = Q b) → h_N P L a = h_N Q L a
  | [], a, _, h => by
    show (if P a = true then 1 else 0) = if Q a = true then 1 else 0
    rw [h a ⟨fun _ _ => rfl, fun j hj => absurd hj (by simp)⟩]
  | p :: L, a, hn, h => by
    have hp := (List.nodup_cons.mp hn).1
    have hl := (List.nodup_cons.mp hn).2
    show _ + _ + _ = _ + _ + _
    rw [h_N_c L _ hl (fun b hb => h b (h_X_up hp (by decide) hb)), h_N_c L (f_up a p 1) hl (fun b hb => h b (h_X_up hp (by decide) hb)), h_N_c L (f_up a p 2) hl (fun b hb => h b (h_X_up hp (by decide) hb))]
theorem h_N_0 : ∀ (L : List Nat) (a : Nat → Nat), h_N (fun _ => false) L a = 0
  | [], _ => rfl
  | p :: L, a => by
    show _ + _ + _ = 0
    rw [h_N_0 L, h_N_0 L, h_N_0 L]
theorem h_N_le {P : (Nat → Nat) → Bool} : ∀ (L : List Nat) (a : Nat → Nat), h_N P L a ≤ 3 ^ L.length
  | [], a => by
    show (if P a = true then 1 else 0) ≤ 1
    split <;> omega
  | p :: L, a => by
    show _ + _ + _ ≤ 3 ^ (L.length + 1)
    have h0 := h_N_le (P := P) L (f_up a p 0)
    have h1 := h_N_le (P := P) L (f_up a p 1)
    have h2 := h_N_le (P := P) L (f_up a p 2)
    rw [Nat.pow_succ]
    omega
/-- P looks at no place of L -/
def h_I (P : (Nat → Nat) → Bool) (L : List Nat) : Prop := ∀ a b, (∀ j, j ∉ L → a j = b j) → P a = P b
theorem h_N_and {P Q : (Nat → Nat) → Bool} : ∀ (L : List Nat) (a : Nat → Nat), h_I P L → h_N (fun b => P b && Q b) L a = (if P a = true then 1 else 0) * h_N Q L a
  | [], a, _ => by
    show (if (P a && Q a) = true then 1 else 0) = (if P a = true then 1 else 0) * (if Q a = true then 1 else 0)
    cases P a <;> cases Q a <;> rfl
  | p :: L, a, h => by
    have hL : h_I P L := fun x y e => h x y (fun j hj => e j (fun z => hj (List.mem_cons_of_mem _ z)))
    have hP : ∀ v, P (f_up a p v) = P a := fun v => h _ _ (fun j hj => f_up_n (fun e => hj (by rw [e]; exact List.mem_cons_self)))
    show _ + _ + _ = _ * (_ + _ + _)
    rw [h_N_and L _ hL, h_N_and L _ hL, h_N_and L _ hL, hP, hP, hP, Nat.mul_add, Nat.mul_add]
theorem h_N_i {Q : (Nat → Nat) → Bool} : ∀ (L : List Nat) (a b : Nat → Nat) (D : List Nat), h_I Q D → (∀ j, j ∉ D → a j = b j) → h_N Q L a = h_N Q L b
  | [], a, b, D, h, e => by
    show (if Q a = true then 1 else 0) = if Q b = true then 1 else 0
    rw [h a b e]
  | p :: L, a, b, D, h, e => by
    have hu : ∀ v j, j ∉ D → f_up a p v j = f_up b p v j := fun v j hj => by
      unfold f_up
      by_cases z : j = p
      · rw [if_pos z, if_pos z]
      · rw [if_neg z, if_neg z]; exact e j hj
    show _ + _ + _ = _ + _ + _
    rw [h_N_i L _ _ D h (hu 0), h_N_i L _ _ D h (hu 1), h_N_i L _ _ D h (hu 2)]
theorem h_N_app {P Q : (Nat → Nat) → Bool} : ∀ (L K : List Nat) (a : Nat → Nat), h_I P K → h_I Q L → h_N (fun b => P b && Q b) (L ++ K) a = h_N P L a * h_N Q K a
  | [], K, a, hP, _ => h_N_and K a hP
  | p :: L, K, a, hP, hQ => by
    have hQL : h_I Q L := fun x y e => hQ x y (fun j hj => e j (fun z => hj (List.mem_cons_of_mem _ z)))
    have hi : ∀ v, h_N Q K (f_up a p v) = h_N Q K a := fun v => h_N_i K _ _ (p :: L) hQ (fun j hj => f_up_n (fun e => hj (by rw [e]; exact List.mem_cons_self)))
    show _ + _ + _ = (_ + _ + _) * _
    rw [List.append_eq, h_N_app L K _ hP hQL, h_N_app L K _ hP hQL, h_N_app L K _ hP hQL, hi, hi, hi, Nat.add_mul, Nat.add_mul]
/-! ===== heir: the members of a set ===== -/
def h_m (q : Nat) (S : Nat → Bool) : List Nat := (List.range q).filter S
theorem h_m_in {q : Nat} {S : Nat → Bool} {j : Nat} : j ∈ h_m q S ↔ j < q ∧ S j = true := by
  unfold h_m
  rw [List.mem_filter, List.mem_range]
theorem h_m_n {q : Nat} {S : Nat → Bool} : (h_m q S).Nodup := List.Nodup.sublist List.filter_sublist List.nodup_range
theorem h_m_c {q : Nat} {S T : Nat → Bool} (h : ∀ j, j < q → S j = T j) : h_m q S = h_m q T := List.filter_congr fun j hj => h j (List.mem_range.mp hj)
theorem h_m_pm {q : Nat} {S A B : Nat → Bool} (h : ∀ j, j < q → S j = (A j || B j)) (hd : ∀ j, j < q → ¬ (A j = true ∧ B j = true)) : (h_m q S).Perm (h_m q A ++ h_m q B) := by
  induction q with
  | zero => exact List.Perm.refl _
  | succ q ih =>
    have ih := ih (fun j hj => h j (by omega)) (fun j hj => hd j (by omega))
    have hs : ∀ T : Nat → Bool, h_m (q + 1) T = h_m q T ++ (if T q = true then [q] else []) := fun T => by
      unfold h_m
      rw [List.range_succ, List.filter_append]
      congr 1
      cases e : T q with
      | true => rw [List.filter_cons_of_pos (by simp [e])]; rfl
      | false => rw [List.filter_cons_of_neg (by simp [e])]; rfl
    rw [hs S, hs A, hs B]
    have hq := h q (by omega)
    have hdq := hd q (by omega)
    cases hA : A q with
    | true =>
      cases hB : B q with
      | true => exact absurd ⟨hA, hB⟩ hdq
      | false =>
        rw [hA, hB] at hq
        rw [hq]
        show (h_m q S ++ [q]).Perm (h_m q A ++ [q] ++ (h_m q B ++ []))
        rw [List.append_nil, List.append_assoc]
        refine (List.Perm.append_right [q] ih).trans ?_
        rw [List.append_assoc]
        exact List.Perm.append_left _ List.perm_append_comm
    | false =>
      cases hB : B q with
      | true =>
        rw [hA, hB] at hq
        rw [hq]
        show (h_m q S ++ [q]).Perm (h_m q A ++ [] ++ (h_m q B ++ [q]))
        rw [List.append_nil, ← List.append_assoc]
        exact List.Perm.append_right [q] ih
      | false =>
        rw [hA, hB] at hq
        rw [hq]
        show (h_m q S ++ []).Perm (h_m q A ++ [] ++ (h_m q B ++ []))
        rw [List.append_nil, List.append_nil, List.append_nil]
        exact ih
theorem h_m_1 {q p : Nat} {S : Nat → Bool} (hp : p < q) (hs : S p = true) : (h_m q S).Perm (p :: h_m q (fun j => S j && decide (j ≠ p))) := by
  have h1 := h_m_pm (q := q) (S := S) (A := fun j => decide (j = p)) (B := fun j => S j && decide (j ≠ p)) (fun j _ => by
    by_cases e : j = p
    · subst e; simp [hs]
    · simp [e]) (fun j _ h => by
    obtain ⟨h1, h2⟩ := h
    rw [Bool.and_eq_true] at h2
    exact of_decide_eq_true h2.2 (of_decide_eq_true h1))
  have h2 : h_m q (fun j => decide (j = p)) = [p] := by
    have : ∀ n, h_m n (fun j => decide (j = p)) = if p < n then [p] else [] := by
      intro n
      induction n with
      | zero => rfl
      | succ n ih =>
        unfold h_m at ih ⊢
        rw [List.range_succ, List.filter_append, ih]
        by_cases e : n = p
        · subst e
          rw [if_neg (by omega), if_pos (by omega), List.filter_cons_of_pos (by simp)]
          rfl
        · rw [List.filter_cons_of_neg (by simp [e])]
          by_cases z : p < n
          · rw [if_pos z, if_pos (by omega)]; rfl
          · rw [if_neg z, if_neg (by omega)]; rfl
    rw [this q, if_pos hp]
  rw [h2] at h1
  exact h1
/-! ===== heir: bonds ===== -/
def h_v (q : Nat) (g : Nat → Nat) (p : Nat) : Nat := if p < q then (if g p = 3 then 1 else g p) else 1
def h_hh (m x y : Nat) : Bool := decide ((if x = 2 then 1 else 0) + (if y = 2 then 1 else 0) ≤ m) && decide (m ≤ (if x = 0 then 0 else 1) + (if y = 0 then 0 else 1))
def h_h (q : Nat) (F S : Nat → Nat) (g : Nat → Nat) (c : Nat) : Bool := if g c = 3 then true else h_hh (g c) (h_v q g (F c)) (h_v q g (S c))
theorem h_h_c {q c : Nat} {F S g g' : Nat → Nat} (h0 : g c = g' c) (h1 : F c < q → g (F c) = g' (F c)) (h2 : S c < q → g (S c) = g' (S c)) : h_h q F S g c = h_h q F S g' c := by
  unfold h_h
  have e1 : h_v q g (F c) = h_v q g' (F c) := by
    unfold h_v
    by_cases z : F c < q
    · rw [if_pos z, if_pos z, h1 z]
    · rw [if_neg z, if_neg z]
  have e2 : h_v q g (S c) = h_v q g' (S c) := by
    unfold h_v
    by_cases z : S c < q
    · rw [if_pos z, if_pos z, h2 z]
    · rw [if_neg z, if_neg z]
  rw [h0, e1, e2]
theorem h_hh_m {m x y x' y' : Nat} (hx : x = 1 ∨ x' = x) (hy : y = 1 ∨ y' = y) (h : h_hh m x y = false) : h_hh m x' y' = false := by
  have hlo : ∀ u u' : Nat, (u = 1 ∨ u' = u) → (if u = 2 then 1 else 0) ≤ (if u' = 2 then 1 else 0) ∧ (if u' = 0 then 0 else 1) ≤ (if u = 0 then 0 else 1) := fun u u' e => by
    rcases e with e | e
    · subst e
      refine ⟨Nat.zero_le _, ?_⟩
      show _ ≤ 1
      split <;> omega
    · subst e; exact ⟨Nat.le_refl _, Nat.le_refl _⟩
  obtain ⟨a1, a2⟩ := hlo x x' hx
  obtain ⟨b1, b2⟩ := hlo y y' hy
  unfold h_hh at h ⊢
  rw [Bool.and_eq_false_iff] at h ⊢
  rcases h with h | h
  · have := of_decide_eq_false h
    exact Or.inl (decide_eq_false (by omega))
  · have := of_decide_eq_false h
    exact Or.inr (decide_eq_false (by omega))
/-- what fails with some not given fails with all given -/
theorem h_h_m {q c : Nat} {F S g b : Nat → Nat} (hb : ∀ j, g j ≠ 3 → b j = g j) (h : h_h q F S g c = false) : h_h q F S b c = false := by
  unfold h_h at h ⊢
  by_cases e : g c = 3
  · rw [if_pos e] at h; exact absurd h (by decide)
  · rw [if_neg e] at h
    have hv : ∀ p, h_v q g p = 1 ∨ h_v q b p = h_v q g p := fun p => by
      unfold h_v
      by_cases z : p < q
      · rw [if_pos z, if_pos z]
        by_cases z2 : g p = 3
        · rw [if_pos z2]; exact Or.inl rfl
        · rw [if_neg z2, hb p z2, if_neg z2]; exact Or.inr rfl
      · rw [if_neg z]; exact Or.inl rfl
    rw [hb c e, if_neg e]
    exact h_hh_m (hv _) (hv _) h
def h_t (q : Nat) (F S : Nat → Nat) (A : Nat → Bool) (c : Nat) : Bool := A c || (decide (F c < q) && A (F c)) || (decide (S c < q) && A (S c))
theorem h_t_t {q c : Nat} {F S : Nat → Nat} {A : Nat → Bool} : h_t q F S A c = true ↔ A c = true ∨ (F c < q ∧ A (F c) = true) ∨ (S c < q ∧ A (S c) = true) := by
  unfold h_t
  rw [Bool.or_eq_true, Bool.or_eq_true, Bool.and_eq_true, Bool.and_eq_true, decide_eq_true_eq, decide_eq_true_eq, or_assoc]
def h_P (q : Nat) (F S : Nat → Nat) (al : Nat → Nat → Bool) (A : Nat → Bool) (b : Nat → Nat) : Bool := (List.range q).all (fun c => !h_t q F S A c || h_h q F S b c) && (List.range q).all (fun j => !A j || al j (b j))
theorem h_P_t {q : Nat} {F S : Nat → Nat} {al : Nat → Nat → Bool} {A : Nat → Bool} {b : Nat → Nat} : h_P q F S al A b = true ↔ (∀ c, c < q → h_t q F S A c = true → h_h q F S b c = true) ∧ ∀ j, j < q → A j = true → al j (b j) = true := by
  unfold h_P
  rw [Bool.and_eq_true, List.all_eq_true, List.all_eq_true]
  constructor
  · rintro ⟨h1, h2⟩
    refine ⟨fun c hc ht => ?_, fun j hj hA => ?_⟩
    · have := h1 c (List.mem_range.mpr hc)
      rw [ht] at this
      exact this
    · have := h2 j (List.mem_range.mpr hj)
      rw [hA] at this
      exact this
  · rintro ⟨h1, h2⟩
    refine ⟨fun c hc => ?_, fun j hj => ?_⟩
    · have hc := List.mem_range.mp hc
      cases e : h_t q F S A c with
      | false => rfl
      | true => exact h1 c hc e
    · have hj := List.mem_range.mp hj
      cases e : A j with
      | false => rfl
      | true => exact h2 j hj e
def h_W (q : Nat) (F S : Nat → Nat) (al : Nat → Nat → Bool) (A : Nat → Bool) (g : Nat → Nat) : Nat := h_N (h_P q F S al A) (h_m q A) g
theorem h_W_c {q : Nat} {F S g : Nat → Nat} {al : Nat → Nat → Bool} {A B : Nat → Bool} (hq : ∀ j, q ≤ j → A j = B j) (h : ∀ j, j < q → A j = B j) : h_W q F S al A g = h_W q F S al B g := by
  have : A = B := funext fun j => by
    by_cases z : j < q
    · exact h j z
    · exact hq j (by omega)
  rw [this]
theorem h_W_0 {q : Nat} {F S g : Nat → Nat} {al : Nat → Nat → Bool} {A : Nat → Bool} (h : ∀ j, A j = false) : h_W q F S al A g = 1 := by
  have e : A = fun _ => false := funext h
  subst e
  have e2 : h_m q (fun _ => false) = [] := List.filter_eq_nil_iff.mpr (fun _ _ => by decide)
  unfold h_W
  rw [e2]
  have : h_P q F S al (fun _ => false) g = true := h_P_t.mpr ⟨fun c _ ht => by
    rcases h_t_t.mp ht with z | z | z
    · exact absurd z (by decide)
    · exact absurd z.2 (by decide)
    · exact absurd z.2 (by decide), fun j _ hA => absurd hA (by decide)⟩
  show (if h_P q F S al (fun _ => false) g = true then 1 else 0) = 1
  rw [if_pos this]
theorem h_W_m {q : Nat} {F S g : Nat → Nat} {al : Nat → Nat → Bool} {A B C : Nat → Bool} (hC : ∀ j, C j = (A j || B j)) (hd : ∀ j, j < q → ¬ (A j = true ∧ B j = true)) (ht : ∀ c, c < q → ¬ (h_t q F S A c = true ∧ h_t q F S B c = true)) : h_W q F S al C g = h_W q F S al A g * h_W q F S al B g := by
  have hP : h_P q F S al C = fun b => h_P q F S al A b && h_P q F S al B b := by
    funext b
    rw [Bool.eq_iff_iff, Bool.and_eq_true, h_P_t, h_P_t, h_P_t]
    have htC : ∀ c, h_t q F S C c = true ↔ h_t q F S A c = true ∨ h_t q F S B c = true := fun c => by
      rw [h_t_t, h_t_t, h_t_t, hC, hC, hC, Bool.or_eq_true, Bool.or_eq_true, Bool.or_eq_true]
      constructor
      · rintro ((z | z) | ⟨z1, z | z⟩ | ⟨z1, z | z⟩)
        · exact Or.inl (Or.inl z)
        · exact Or.inr (Or.inl z)
        · exact Or.inl (Or.inr (Or.inl ⟨z1, z⟩))
        · exact Or.inr (Or.inr (Or.inl ⟨z1, z⟩))
        · exact Or.inl (Or.inr (Or.inr ⟨z1, z⟩))
        · exact Or.inr (Or.inr (Or.inr ⟨z1, z⟩))
      · rintro ((z | ⟨z1, z⟩ | ⟨z1, z⟩) | (z | ⟨z1, z⟩ | ⟨z1, z⟩))
        · exact Or.inl (Or.inl z)
        · exact Or.inr (Or.inl ⟨z1, Or.inl z⟩)
        · exact Or.inr (Or.inr ⟨z1, Or.inl z⟩)
        · exact Or.inl (Or.inr z)
        · exact Or.inr (Or.inl ⟨z1, Or.inr z⟩)
        · exact Or.inr (Or.inr ⟨z1, Or.inr z⟩)
    constructor
    · rintro ⟨h1, h2⟩
      exact ⟨⟨fun c hc z => h1 c hc ((htC c).mpr (Or.inl z)), fun j hj z => h2 j hj (by rw [hC, z]; rfl)⟩, fun c hc z => h1 c hc ((htC c).mpr (Or.inr z)), fun j hj z => h2 j hj (by rw [hC, z, Bool.or_true])⟩
    · rintro ⟨⟨h1, h2⟩, h3, h4⟩
      refine ⟨fun c hc z => ?_, fun j hj z => ?_⟩
      · rcases (htC c).mp z with y | y
        · exact h1 c hc y
        · exact h3 c hc y
      · rw [hC, Bool.or_eq_true] at z
        rcases z with y | y
        · exact h2 j hj y
        · exact h4 j hj y
  have ind : ∀ X Y : Nat → Bool, (∀ j, j < q → ¬ (X j = true ∧ Y j = true)) → (∀ c, c < q → ¬ (h_t q F S X c = true ∧ h_t q F S Y c = true)) → h_I (h_P q F S al X) (h_m q Y) := fun X Y hd ht a b e => by
    have hc : ∀ c, c < q → h_t q F S X c = true → h_h q F S a c = h_h q F S b c := fun c hc z => by
      have hn : ¬ h_t q F S Y c = true := fun y => ht c hc ⟨z, y⟩
      rw [h_t_t, not_or, not_or] at hn
      refine h_h_c (e c (fun y => hn.1 (h_m_in.mp y).2)) (fun hl => e _ (fun y => hn.2.1 ⟨hl, (h_m_in.mp y).2⟩)) (fun hl => e _ (fun y => hn.2.2 ⟨hl, (h_m_in.mp y).2⟩))
    have hj : ∀ j, j < q → X j = true → a j = b j := fun j hj z => e j (fun y => hd j hj ⟨z, (h_m_in.mp y).2⟩)
    rw [Bool.eq_iff_iff, h_P_t, h_P_t]
    constructor
    · rintro ⟨h1, h2⟩
      exact ⟨fun c hc' z => by rw [← hc c hc' z]; exact h1 c hc' z, fun j hj' z => by rw [← hj j hj' z]; exact h2 j hj' z⟩
    · rintro ⟨h1, h2⟩
      exact ⟨fun c hc' z => by rw [hc c hc' z]; exact h1 c hc' z, fun j hj' z => by rw [hj j hj' z]; exact h2 j hj' z⟩
  unfold h_W
  rw [hP, h_N_p (h_m_pm (fun j _ => hC j) hd)]
  exact h_N_app _ _ g (ind A B hd ht) (ind B A (fun j hj z => hd j hj ⟨z.2, z.1⟩) (fun c hc z => ht c hc ⟨z.2, z.1⟩))
/-- the bonds of p hold -/
def h_b (q : Nat) (F S : Nat → Nat) (p : Nat) (g : Nat → Nat) : Bool := (List.range q).all (fun c => !(decide (c = p) || decide (F c = p) || decide (S c = p)) || h_h q F S g c)
theorem h_b_t {q p : Nat} {F S g : Nat → Nat} : h_b q F S p g = true ↔ ∀ c, c < q → (c = p ∨ F c = p ∨ S c = p) → h_h q F S g c = true := by
  unfold h_b
  rw [List.all_eq_true]
  constructor
  · intro h c hc z
    have := h c (List.mem_range.mpr hc)
    have e : (decide (c = p) || decide (F c = p) || decide (S c = p)) = true := by
      rcases z with z | z | z <;> simp [z]
    rw [e] at this
    exact this
  · intro h c hc
    have hc := List.mem_range.mp hc
    cases e : (decide (c = p) || decide (F c = p) || decide (S c = p)) with
    | false => rfl
    | true =>
      rw [Bool.or_eq_true, Bool.or_eq_true, decide_eq_true_eq, decide_eq_true_eq, decide_eq_true_eq, or_assoc] at e
      exact h c hc e
theorem h_W_1 {q p v : Nat} {F S g : Nat → Nat} {al : Nat → Nat → Bool} {K : Nat → Bool} (hp : p < q) (hK : K p = true) (hg : g p = 3) (hg2 : ∀ j, j < q → K j = true → g j = 3) (hv : v < 3) (hI : ∀ c, c < q → h_t q F S K c = true → (K c = true ∨ g c ≠ 3) ∧ (F c < q → K (F c) = true ∨ g (F c) ≠ 3) ∧ (S c < q → K (S c) = true ∨ g (S c) ≠ 3)) : h_N (h_P q F S al K) (h_m q (fun j => K j && decide (j ≠ p))) (f_up g p v) = if (al p v && h_b q F S p (f_up g p v)) = true then h_W q F S al (fun j => K j && decide (j ≠ p)) (f_up g p v) else 0 := by
  have hpn : p ∉ h_m q (fun j => K j && decide (j ≠ p)) := fun z => by
    have := (h_m_in.mp z).2
    simp at this
  have hbp : ∀ b, h_X (h_m q (fun j => K j && decide (j ≠ p))) (f_up g p v) b → b p = v := fun b hb => by rw [hb.1 p hpn, f_up_e]
  have hbg : ∀ b, h_X (h_m q (fun j => K j && decide (j ≠ p))) (f_up g p v) b → ∀ j, f_up g p v j ≠ 3 → b j = f_up g p v j := fun b hb j hj => by
    refine hb.1 j fun z => hj ?_
    obtain ⟨z1, z2⟩ := h_m_in.mp z
    rw [Bool.and_eq_true, decide_eq_true_eq] at z2
    rw [f_up_n z2.2]
    exact hg2 j z1 z2.1
  have htp : ∀ c, c < q → (c = p ∨ F c = p ∨ S c = p) → h_t q F S K c = true := fun c _ z => by
    rw [h_t_t]
    rcases z with z | z | z
    · exact Or.inl (by rw [z]; exact hK)
    · exact Or.inr (Or.inl ⟨by rw [z]; exact hp, by rw [z]; exact hK⟩)
    · exact Or.inr (Or.inr ⟨by rw [z]; exact hp, by rw [z]; exact hK⟩)
  by_cases hc : (al p v && h_b q F S p (f_up g p v)) = true
  · rw [if_pos hc]
    rw [Bool.and_eq_true] at hc
    refine h_N_c _ _ h_m_n fun b hb => ?_
    rw [Bool.eq_iff_iff, h_P_t, h_P_t]
    constructor
    · rintro ⟨h1, h2⟩
      refine ⟨fun c hc' z => h1 c hc' ?_, fun j hj z => ?_⟩
      · rw [h_t_t] at z ⊢
        rcases z with z | ⟨z1, z⟩ | ⟨z1, z⟩
        · rw [Bool.and_eq_true] at z; exact Or.inl z.1
        · rw [Bool.and_eq_true] at z; exact Or.inr (Or.inl ⟨z1, z.1⟩)
        · rw [Bool.and_eq_true] at z; exact Or.inr (Or.inr ⟨z1, z.1⟩)
      · rw [Bool.and_eq_true] at z; exact h2 j hj z.1
    · rintro ⟨h1, h2⟩
      have notin : ∀ j, K j = true → ¬ (K j && decide (j ≠ p)) = true → j = p := fun j k1 k2 => by
        by_cases e : j = p
        · exact e
        · exact absurd (show (K j && decide (j ≠ p)) = true by rw [k1]; simp [e]) k2
      refine ⟨fun c hc' z => ?_, fun j hj z => ?_⟩
      · by_cases ht' : h_t q F S (fun j => K j && decide (j ≠ p)) c = true
        · exact h1 c hc' ht'
        · rw [h_t_t, not_or, not_or] at ht'
          obtain ⟨n1, n2, n3⟩ := ht'
          obtain ⟨i1, i2, i3⟩ := hI c hc' z
          have hcp : c = p ∨ F c = p ∨ S c = p := by
            rcases h_t_t.mp z with y | ⟨y1, y⟩ | ⟨y1, y⟩
            · exact Or.inl (notin c y n1)
            · exact Or.inr (Or.inl (notin _ y (fun w => n2 ⟨y1, w⟩)))
            · exact Or.inr (Or.inr (notin _ y (fun w => n3 ⟨y1, w⟩)))
          have hold := h_b_t.mp hc.2 c hc' hcp
          have hbj : ∀ j, ¬ (K j && decide (j ≠ p)) = true → (K j = true ∨ g j ≠ 3) → b j = f_up g p v j := fun j y w => hb.1 j (fun m => y (h_m_in.mp m).2)
          rw [h_h_c (g' := f_up g p v) (hbj c n1 i1) (fun hl => hbj _ (fun w => n2 ⟨hl, w⟩) (i2 hl)) (fun hl => hbj _ (fun w => n3 ⟨hl, w⟩) (i3 hl))]
          exact hold
      · by_cases e : j = p
        · subst e
          rw [hbp b hb]
          exact hc.1
        · exact h2 j hj (by show (K j && decide (j ≠ p)) = true; rw [z]; simp [e])
  · rw [if_neg hc]
    rw [h_N_c (Q := fun _ => false) _ _ h_m_n (fun b hb => ?_)]
    · exact h_N_0 _ _
    · cases hPb : h_P q F S al K b with
      | false => rfl
      | true =>
        exfalso
        obtain ⟨h1, h2⟩ := h_P_t.mp hPb
        refine hc ?_
        rw [Bool.and_eq_true]
        refine ⟨by have := h2 p hp hK; rw [hbp b hb] at this; exact this, h_b_t.mpr fun c hc' z => ?_⟩
        cases hh : h_h q F S (f_up g p v) c with
        | true => rfl
        | false =>
          have := h_h_m (hbg b hb) hh
          rw [h1 c hc' (htp c hc' z)] at this
          exact this.symm
theorem h_W_s {q p : Nat} {F S g : Nat → Nat} {al : Nat → Nat → Bool} {K : Nat → Bool} (hp : p < q) (hK : K p = true) (hg2 : ∀ j, j < q → K j = true → g j = 3) (hI : ∀ c, c < q → h_t q F S K c = true → (K c = true ∨ g c ≠ 3) ∧ (F c < q → K (F c) = true ∨ g (F c) ≠ 3) ∧ (S c < q → K (S c) = true ∨ g (S c) ≠ 3)) : h_W q F S al K g = (if (al p 0 && h_b q F S p (f_up g p 0)) = true then h_W q F S al (fun j => K j && decide (j ≠ p)) (f_up g p 0) else 0) + (if (al p 1 && h_b q F S p (f_up g p 1)) = true then h_W q F S al (fun j => K j && decide (j ≠ p)) (f_up g p 1) else 0) + (if (al p 2 && h_b q F S p (f_up g p 2)) = true then h_W q F S al (fun j => K j && decide (j ≠ p)) (f_up g p 2) else 0) := by
  have h0 := fun v hv => h_W_1 (q := q) (p := p) (v := v) (F := F) (S := S) (g := g) (al := al) (K := K) hp hK (hg2 p hp hK) hg2 hv hI
  rw [← h0 0 (by decide), ← h0 1 (by decide), ← h0 2 (by decide)]
  unfold h_W
  rw [h_N_p (h_m_1 hp hK)]
  rfl
theorem h_W_le {q : Nat} {F S g : Nat → Nat} {al : Nat → Nat → Bool} {K : Nat → Bool} (hq : q ≤ 12) : h_W q F S al K g ≤ 531441 := by
  have h1 := h_N_le (P := h_P q F S al K) (h_m q K) g
  have h2 : (h_m q K).length ≤ q := by
    have := List.length_filter_le K (List.range q)
    rw [List.length_range] at this
    exact this
  have h3 : 3 ^ (h_m q K).length ≤ 3 ^ 12 := Nat.pow_le_pow_right (by decide) (by omega)
  have h4 : 3 ^ 12 = 531441 := by decide
  unfold h_W
  omega
