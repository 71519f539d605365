/-! ===== opened: what a set opens ===== -/
theorem sN_le {g h : Nat → Nat} : ∀ n : Nat, (∀ i, i < n → g i ≤ h i) → sN g n ≤ sN h n
  | 0, _ => Nat.le_refl 0
  | n + 1, e => Nat.add_le_add (sN_le n (fun i hi => e i (by omega))) (e n (by omega))
theorem sN_lt {g h : Nat → Nat} {a : Nat} : ∀ n : Nat, a < n → (∀ i, i < n → g i ≤ h i) → g a < h a → sN g n < sN h n
  | 0, ha, _, _ => absurd ha (by omega)
  | n + 1, ha, e, hl => by
    show sN g n + g n < sN h n + h n
    have e1 := e n (by omega)
    by_cases z : a = n
    · subst z
      have := sN_le (g := g) (h := h) a (fun i hi => e i (by omega))
      omega
    · have := sN_lt (g := g) (h := h) n (by omega) (fun i hi => e i (by omega)) hl
      omega
def o_op (s : Int32) (e : Nat × Int32) : Int32 := if bt s e.1 = true then s ||| e.2 else s
def o_p (L : List (Nat × Int32)) (s : Int32) : Int32 := L.foldl o_op s
def o_cl (L : List (Nat × Int32)) (s : Int32) : Prop := ∀ e, e ∈ L → bt s e.1 = true → ∀ u, bt e.2 u = true → bt s u = true
def o_le (s t : Int32) : Prop := ∀ u, bt s u = true → bt t u = true
def o_b (s : Int32) : Prop := ∀ u, bt s u = true → u < 10
theorem o_eq {s t : Int32} (h1 : o_le s t) (h2 : o_le t s) : s = t := b_ext fun i _ => by
  cases e1 : bt s i with
  | true => exact (h1 i e1).symm
  | false =>
    cases e2 : bt t i with
    | false => rfl
    | true => rw [h2 i e2] at e1; exact absurd e1 (by decide)
theorem o_op_up (s : Int32) (e : Nat × Int32) : o_le s (o_op s e) := fun u hu => by
  unfold o_op
  split
  · rw [b_or, hu]; rfl
  · exact hu
theorem o_p_up : ∀ (L : List (Nat × Int32)) (s : Int32), o_le s (o_p L s)
  | [], s => fun u hu => hu
  | e :: L, s => fun u hu => o_p_up L (o_op s e) u (o_op_up s e u hu)
theorem o_p_le {T : Int32} : ∀ (L : List (Nat × Int32)) (s : Int32), o_cl L T → o_le s T → o_le (o_p L s) T
  | [], s, _, h => h
  | e :: L, s, hc, h => o_p_le L (o_op s e) (fun x hx => hc x (List.mem_cons_of_mem _ hx)) (fun u hu => by
    unfold o_op at hu
    by_cases h1 : bt s e.1 = true
    · rw [if_pos h1, b_or, Bool.or_eq_true] at hu
      rcases hu with z | z
      · exact h u z
      · exact hc e List.mem_cons_self (h _ h1) u z
    · rw [if_neg h1] at hu
      exact h u hu)
theorem o_p_fix : ∀ (L : List (Nat × Int32)) (s : Int32), o_le (o_p L s) s → o_cl L s
  | [], s, _ => fun e he => absurd he (by simp)
  | a :: L, s, h => by
    have h1 : o_le (o_op s a) s := fun u hu => h u (o_p_up L (o_op s a) u hu)
    have h2 : o_op s a = s := o_eq h1 (o_op_up s a)
    have h3 : o_le (o_p L s) s := by
      have : o_p (a :: L) s = o_p L (o_op s a) := rfl
      rw [this, h2] at h
      exact h
    have ih := o_p_fix L s h3
    intro e he hb u hu
    rcases List.mem_cons.mp he with z | z
    · subst z
      refine h1 u ?_
      unfold o_op
      rw [if_pos hb, b_or, hu, Bool.or_true]
    · exact ih e z hb u hu
def o_it (L : List (Nat × Int32)) : Nat → Int32 → Int32
  | 0, s => s
  | k + 1, s => o_it L k (o_p L s)
theorem o_it_up (L : List (Nat × Int32)) : ∀ (k : Nat) (s : Int32), o_le s (o_it L k s)
  | 0, s => fun u hu => hu
  | k + 1, s => fun u hu => o_it_up L k (o_p L s) u (o_p_up L s u hu)
theorem o_it_le {L : List (Nat × Int32)} {T : Int32} (hc : o_cl L T) : ∀ (k : Nat) (s : Int32), o_le s T → o_le (o_it L k s) T
  | 0, s, h => h
  | k + 1, s, h => o_it_le hc k (o_p L s) (o_p_le L s hc h)
theorem o_p_b : ∀ {L : List (Nat × Int32)} (_ : ∀ e, e ∈ L → o_b e.2) (s : Int32), o_b s → o_b (o_p L s)
  | [], _, s, h => h
  | e :: L, hL, s, h => o_p_b (L := L) (fun x hx => hL x (List.mem_cons_of_mem _ hx)) (o_op s e) (fun u hu => by
    unfold o_op at hu
    by_cases h1 : bt s e.1 = true
    · rw [if_pos h1, b_or, Bool.or_eq_true] at hu
      rcases hu with z | z
      · exact h u z
      · exact hL e List.mem_cons_self u z
    · rw [if_neg h1] at hu
      exact h u hu)
theorem o_it_b {L : List (Nat × Int32)} (hL : ∀ e, e ∈ L → o_b e.2) : ∀ (k : Nat) (s : Int32), o_b s → o_b (o_it L k s)
  | 0, _, h => h
  | k + 1, s, h => o_it_b hL k (o_p L s) (o_p_b hL s h)
theorem o_cn_lt {s t : Int32} (h : o_le s t) (hb : o_b t) (hn : ¬ o_le t s) : u_cn s < u_cn t := by
  obtain ⟨u, hu⟩ := Classical.not_forall.mp hn
  obtain ⟨h1, h2⟩ := Classical.not_imp.mp hu
  refine sN_lt (a := u) 10 (hb u h1) (fun i _ => ?_) ?_
  · cases e : bt s i with
    | false => exact Nat.zero_le _
    | true => rw [h i e]; exact Nat.le_refl _
  · rw [if_neg h2, if_pos h1]; exact Nat.zero_lt_one
theorem o_it_cl {L : List (Nat × Int32)} (hL : ∀ e, e ∈ L → o_b e.2) : ∀ (k : Nat) (s : Int32), o_b s → (o_cl L s ∨ 11 ≤ u_cn s + k) → o_cl L (o_it L k s)
  | 0, s, _, h => by
    rcases h with z | z
    · exact z
    · have := u_cn_10 s; omega
  | k + 1, s, hb, h => by
    show o_cl L (o_it L k (o_p L s))
    by_cases hf : o_le (o_p L s) s
    · refine o_it_cl hL k _ (o_p_b hL s hb) (Or.inl ?_)
      rw [o_eq hf (o_p_up L s)]
      exact o_p_fix L s hf
    · rcases h with z | z
      · exact absurd (o_p_le L s z (fun u hu => hu)) hf
      · have := o_cn_lt (o_p_up L s) (o_p_b hL s hb) hf
        exact o_it_cl hL k _ (o_p_b hL s hb) (Or.inr (by omega))
def o_C (L : List (Nat × Int32)) (s : Int32) : Int32 := o_it L 10 s
theorem o_C_cl {L : List (Nat × Int32)} (hL : ∀ e, e ∈ L → o_b e.2) {s : Int32} (hb : o_b s) : o_cl L (o_C L s) := by
  refine o_it_cl hL 10 s hb ?_
  by_cases h : u_cn s = 0
  · left
    intro e he h1
    have := hb _ h1
    have h2 : u_cn 0 < u_cn s := o_cn_lt (fun u hu => by rw [b_0] at hu; exact absurd hu (by decide)) hb (fun z => by
      have := z _ h1
      rw [b_0] at this
      exact absurd this (by decide))
    omega
  · right; omega
theorem o_C_eq {L K : List (Nat × Int32)} (hL : ∀ e, e ∈ L → o_b e.2) (hK : ∀ e, e ∈ K → o_b e.2) (h : ∀ T, o_cl L T ↔ o_cl K T) {s : Int32} (hb : o_b s) : o_C L s = o_C K s := o_eq (o_it_le ((h _).mpr (o_C_cl hK hb)) 10 s (o_it_up K 10 s)) (o_it_le ((h _).mp (o_C_cl hL hb)) 10 s (o_it_up L 10 s))
/-! ===== opened: how many must be forced ===== -/
def o_ct (F : Nat → Bool) (n : Nat) : Nat := sN (fun i => if F i = true then 1 else 0) n
theorem o_ct_le {F X : Nat → Bool} {n : Nat} (h : ∀ i, i < n → F i = true → X i = true) : o_ct F n ≤ o_ct X n := sN_le n fun i hi => by
  cases e : F i with
  | false => exact Nat.zero_le _
  | true => rw [h i hi e]; exact Nat.le_refl _
theorem o_ct_lt {F X : Nat → Bool} {n a : Nat} (h : ∀ i, i < n → F i = true → X i = true) (ha : a < n) (h1 : F a = false) (h2 : X a = true) : o_ct F n < o_ct X n := sN_lt n ha (fun i hi => by
  cases e : F i with
  | false => exact Nat.zero_le _
  | true => rw [h i hi e]; exact Nat.le_refl _) (by rw [h1, h2]; decide)
theorem o_inj {m : Nat} {g : Nat → Nat} {F : Nat → Bool} : ∀ (n : Nat) (X : Nat → Bool), (∀ i, i < n → F i = true → g i < m ∧ X (g i) = true) → (∀ i j, i < j → j < n → F i = true → F j = true → g i ≠ g j) → o_ct F n ≤ o_ct X m
  | 0, X, _, _ => Nat.zero_le _
  | n + 1, X, h, hi => by
    show o_ct F n + (if F n = true then 1 else 0) ≤ o_ct X m
    cases e : F n with
    | false =>
      exact o_inj n X (fun i hi => h i (by omega)) (fun i j h1 h2 => hi i j h1 (by omega))
    | true =>
      obtain ⟨g1, g2⟩ := h n (by omega) e
      have ih := o_inj (m := m) (g := g) (F := F) n (fun x => if x = g n then false else X x) (fun i hl hF => by
        obtain ⟨a1, a2⟩ := h i (by omega) hF
        refine ⟨a1, ?_⟩
        show (if g i = g n then false else X (g i)) = true
        rw [if_neg (hi i n hl (by omega) hF e)]
        exact a2) (fun i j h1 h2 => hi i j h1 (by omega))
      have := sN_u (g := fun i => if (fun x => if x = g n then false else X x) i = true then 1 else 0) (h := fun i => if X i = true then 1 else 0) (a := g n) m g1 (fun i _ hne => by
        show (if (if i = g n then false else X i) = true then 1 else 0) = _
        rw [if_neg hne])
      rw [g2, if_pos rfl] at this
      simp only [↓reduceIte, Bool.false_eq_true] at this
      have t2 : sN (fun i => if (fun x => if x = g n then false else X x) i = true then 1 else 0) m + 1 = sN (fun i => if X i = true then 1 else 0) m := this
      unfold o_ct at ih ⊢
      rw [if_pos rfl]
      omega
/-- i must be forced: who opens it is opened by it, and is no lower -/
def o_mb (r : Nat → Nat → Bool) (i : Nat) : Nat → Bool
  | 0 => true
  | k + 1 => o_mb r i k && !(decide (k ≠ i) && r k i && (decide (k < i) || !r i k))
theorem o_mb_t {r : Nat → Nat → Bool} {i : Nat} : ∀ (n : Nat), o_mb r i n = true ↔ ∀ j, j < n → j ≠ i → r j i = true → ¬ j < i ∧ r i j = true
  | 0 => ⟨fun _ j hj => absurd hj (by omega), fun _ => rfl⟩
  | n + 1 => by
    unfold o_mb
    rw [Bool.and_eq_true, o_mb_t n]
    constructor
    · rintro ⟨h1, h2⟩ j hj hne hr
      by_cases e : j = n
      · subst e
        simp only [ne_eq, hne, not_false_eq_true, decide_true, hr, Bool.and_self, Bool.true_and, Bool.not_eq_eq_eq_not, Bool.not_true, Bool.or_eq_false_iff, decide_eq_false_iff_not, Bool.not_eq_eq_eq_not, Bool.not_false] at h2
        exact h2
      · exact h1 j (by omega) hne hr
    · intro h
      refine ⟨fun j hj => h j (by omega), ?_⟩
      by_cases e : n = i
      · subst e; simp
      · cases hr : r n i with
        | false => simp
        | true =>
          obtain ⟨a1, a2⟩ := h n (by omega) e hr
          simp [a1, a2]
theorem o_from {r : Nat → Nat → Bool} (hr : ∀ i, i < 10 → r i i = true) (ht : ∀ i j k, i < 10 → j < 10 → k < 10 → r i j = true → r j k = true → r i k = true) {v : Nat} (hv : v < 10) : ∀ (d u : Nat), u < 10 → (10 - o_ct (r u) 10) * 10 + u < d → r u v = true → ∃ w, w < 10 ∧ o_mb r w 10 = true ∧ r w v = true
  | 0, u, _, h, _ => absurd h (by omega)
  | d + 1, u, hu, hd, huv => by
    cases hm : o_mb r u 10 with
    | true => exact ⟨u, hu, hm, huv⟩
    | false =>
      have hn : ¬ ∀ j, j < 10 → j ≠ u → r j u = true → ¬ j < u ∧ r u j = true := fun z => by
        rw [(o_mb_t 10).mpr z] at hm
        exact absurd hm (by decide)
      obtain ⟨j, hj⟩ := Classical.not_forall.mp hn
      obtain ⟨j1, hj⟩ := Classical.not_imp.mp hj
      obtain ⟨j2, hj⟩ := Classical.not_imp.mp hj
      obtain ⟨j3, hj⟩ := Classical.not_imp.mp hj
      have hle : ∀ i, i < 10 → r u i = true → r j i = true := fun i hi h => ht j u i j1 hu hi j3 h
      have hc10 : ∀ w, o_ct (r w) 10 ≤ 10 := fun w => by
        have : ∀ n : Nat, o_ct (r w) n ≤ n := by
          intro n
          induction n with
          | zero => exact Nat.le_refl 0
          | succ n ih =>
            show o_ct (r w) n + (if r w n = true then 1 else 0) ≤ n + 1
            cases r w n
            · show _ + 0 ≤ _; omega
            · show _ + 1 ≤ _; omega
        exact this 10
      have h10 := hc10 j
      refine o_from hr ht hv d j j1 ?_ (ht j u v j1 hu hv j3 huv)
      cases hc : r u j with
      | false =>
        have := o_ct_lt hle j1 hc (hr j j1)
        omega
      | true =>
        have hlt : j < u := by
          by_cases z : j < u
          · exact z
          · exact absurd ⟨z, hc⟩ hj
        have := o_ct_le hle
        omega
theorem o_least {r : Nat → Nat → Bool} {X : Nat → Bool} (ht : ∀ i j k, i < 10 → j < 10 → k < 10 → r i j = true → r j k = true → r i k = true) (hX : ∀ v, v < 10 → ∃ x, x < 10 ∧ X x = true ∧ r x v = true) : o_ct (fun i => o_mb r i 10) 10 ≤ o_ct X 10 := by
  have hg : ∀ v : Nat, ∃ x, v < 10 → x < 10 ∧ X x = true ∧ r x v = true := fun v => by
    by_cases h : v < 10
    · obtain ⟨x, hx⟩ := hX v h; exact ⟨x, fun _ => hx⟩
    · exact ⟨0, fun z => absurd z h⟩
  obtain ⟨g, hg⟩ := Classical.axiomOfChoice hg
  refine o_inj (g := g) 10 X (fun i hi _ => ⟨(hg i hi).1, (hg i hi).2.1⟩) (fun i j hij hj hi1 hj1 e => ?_)
  have hi : i < 10 := by omega
  obtain ⟨a1, a2, a3⟩ := hg i hi
  obtain ⟨b1, b2, b3⟩ := hg j hj
  rw [← e] at b1 b2 b3
  have hmi := (o_mb_t 10).mp hi1
  have hmj := (o_mb_t 10).mp hj1
  have hij2 : r i j = true := by
    by_cases z : g i = i
    · rw [z] at b3; exact b3
    · have := (hmi (g i) a1 z a3).2
      exact ht i (g i) j hi a1 hj this b3
  exact (hmj i hi (by omega) hij2).1 hij
def o_bi (v : Nat) : Int32 := (1 : Int32) <<< (nI v &&& 31)
theorem o_bi_t {v : Nat} (hv : v < 10) (t : Nat) : bt (o_bi v) t = decide (t = v) := b_sh (by omega) t
theorem o_bi_b {v : Nat} (hv : v < 10) : o_b (o_bi v) := fun u hu => by
  rw [o_bi_t hv] at hu
  have := of_decide_eq_true hu
  omega
theorem o_bi_le {v : Nat} (hv : v < 10) {T : Int32} (h : bt T v = true) : o_le (o_bi v) T := fun u hu => by
  rw [o_bi_t hv] at hu
  have := of_decide_eq_true hu
  rw [this]
  exact h
theorem o_r1 {L : List (Nat × Int32)} {i : Nat} (hi : i < 10) : bt (o_C L (o_bi i)) i = true := o_it_up L 10 _ i (by rw [o_bi_t hi]; simp)
theorem o_r3 {L : List (Nat × Int32)} (hL : ∀ e, e ∈ L → o_b e.2) {i j k : Nat} (hi : i < 10) (hj : j < 10) (h1 : bt (o_C L (o_bi i)) j = true) (h2 : bt (o_C L (o_bi j)) k = true) : bt (o_C L (o_bi i)) k = true := o_it_le (o_C_cl hL (o_bi_b hi)) 10 _ (o_bi_le hj h1) k h2
def o_un (L : List (Nat × Int32)) (X : Int32) : Nat → Int32
  | 0 => 0
  | k + 1 => if bt X k = true then o_un L X k ||| o_C L (o_bi k) else o_un L X k
theorem o_un_t {L : List (Nat × Int32)} {X : Int32} {u : Nat} : ∀ k : Nat, bt (o_un L X k) u = true ↔ ∃ x, x < k ∧ bt X x = true ∧ bt (o_C L (o_bi x)) u = true
  | 0 => ⟨fun h => by
      have h' : bt (0 : Int32) u = true := h
      rw [b_0] at h'; exact absurd h' (by decide), fun ⟨x, hx, _⟩ => absurd hx (by omega)⟩
  | k + 1 => by
    have ih := o_un_t (L := L) (X := X) (u := u) k
    unfold o_un
    by_cases h : bt X k = true
    · rw [if_pos h, b_or, Bool.or_eq_true, ih]
      constructor
      · rintro (⟨x, h1, h2, h3⟩ | h1)
        · exact ⟨x, by omega, h2, h3⟩
        · exact ⟨k, by omega, h, h1⟩
      · rintro ⟨x, h1, h2, h3⟩
        by_cases e : x = k
        · subst e; exact Or.inr h3
        · exact Or.inl ⟨x, by omega, h2, h3⟩
    · rw [if_neg h, ih]
      constructor
      · rintro ⟨x, h1, h2, h3⟩
        exact ⟨x, by omega, h2, h3⟩
      · rintro ⟨x, h1, h2, h3⟩
        refine ⟨x, ?_, h2, h3⟩
        by_cases e : x = k
        · subst e; exact absurd h2 h
        · omega
theorem o_r4 {L : List (Nat × Int32)} (hL : ∀ e, e ∈ L → o_b e.2) {X : Int32} (hX : o_b X) {v : Nat} (h : bt (o_C L X) v = true) : ∃ x, x < 10 ∧ bt X x = true ∧ bt (o_C L (o_bi x)) v = true := by
  have hc : o_cl L (o_un L X 10) := fun e he hb u hu => by
    obtain ⟨x, h1, h2, h3⟩ := (o_un_t 10).mp hb
    exact (o_un_t 10).mpr ⟨x, h1, h2, o_C_cl hL (o_bi_b h1) e he h3 u hu⟩
  exact (o_un_t 10).mp (o_it_le hc 10 X (fun u hu => (o_un_t 10).mpr ⟨u, hX u hu, hu, o_r1 (hX u hu)⟩) v h)
theorem o_r5 {L : List (Nat × Int32)} (hL : ∀ e, e ∈ L → o_b e.2) {X : Int32} (hX : o_b X) {x v : Nat} (hx : bt X x = true) (h : bt (o_C L (o_bi x)) v = true) : bt (o_C L X) v = true := o_it_le (o_C_cl hL hX) 10 _ (o_bi_le (hX x hx) (o_it_up L 10 X x hx)) v h
theorem o_1023 : ∀ i, i < 32 → bt (1023 : Int32) i = decide (i < 10) := by decide +kernel
theorem o_full {s : Int32} (hb : o_b s) : s = (1023 : Int32) ↔ ∀ v, v < 10 → bt s v = true := by
  constructor
  · intro e v hv
    rw [e, o_1023 v (by omega)]
    simp [hv]
  · intro h
    refine b_ext fun i hi => ?_
    rw [o_1023 i hi]
    by_cases z : i < 10
    · rw [h i z]; simp [z]
    · cases e : bt s i with
      | true => exact absurd (hb i e) z
      | false => simp [z]
/-! ===== opened: the loops of the sets ===== -/
theorem of13_eq (N f : Nat) (G : nG) (k4 : Int32 → Int32 → nM → Option (Int32 × nM)) (x2 x3 x4 : Int32) (M : nM) : fX9_openedFrom_13 N G k4 (f + 1) x2 x3 x4 M = if (M 35 3) ≤ x4 then k4 x2 (x3 + (1 : Int32)) M else (fX7_cell G 35 x4 (0 : Int32) M).bind fun p2 => (fX4_hasBit x2 p2.1 p2.2).bind fun p3 => if p3.1 = 0 then fX9_openedFrom_13 N G k4 f x2 x3 (x4 + (1 : Int32)) p3.2 else (fX7_cell G 35 x4 (1 : Int32) p3.2).bind fun p5 => (fX4_withBit x2 p5.1 (1 : Int32) p5.2).bind fun p6 => fX9_openedFrom_13 N G k4 f p6.1 x3 (x4 + (1 : Int32)) p6.2 := rfl
theorem of4_eq (N f : Nat) (G : nG) (x2 x3 : Int32) (M : nM) : fX9_openedFrom_4 N G (f + 1) x2 x3 M = if (10 : Int32) ≤ x3 then some (x2, M) else fX9_openedFrom_13 N G (fun x2 x3 M => fX9_openedFrom_4 N G f x2 x3 M) N x2 x3 (0 : Int32) M := rfl
theorem om13_eq (N f : Nat) (k4 : Int32 → Int32 → nM → Option (Int32 × nM)) (x2 x3 x4 : Int32) (M : nM) : fX12_openedFrom_13 N k4 (f + 1) x2 x3 x4 M = if (10 : Int32) ≤ x4 then k4 x2 (x3 + (1 : Int32)) M else (fX12_has x2 x4 M).bind fun p2 => if p2.1 = 0 then fX12_openedFrom_13 N k4 f x2 x3 (x4 + (1 : Int32)) p2.2 else n_chk (n_ib 10 x4) (fX12_openedFrom_13 N k4 f (x2 ||| (p2.2 139 x4.toNatClampNeg)) x3 (x4 + (1 : Int32)) p2.2) := rfl
theorem om4_eq (N f : Nat) (x2 x3 : Int32) (M : nM) : fX12_openedFrom_4 N (f + 1) x2 x3 M = if (10 : Int32) ≤ x3 then some (x2, M) else fX12_openedFrom_13 N (fun x2 x3 M => fX12_openedFrom_4 N f x2 x3 M) N x2 x3 (0 : Int32) M := rfl
def o_L1 (ps : List (Nat × Nat)) : List (Nat × Int32) := ps.map (fun x => (x.1, o_bi x.2))
def o_L2 (K : Nat → Int32) : List (Nat × Int32) := (List.range 10).map (fun c => (c, K c))
theorem o_L1_d {ps : List (Nat × Nat)} {i : Nat} (hi : i < ps.length) : (o_L1 ps).drop i = ((ps.getD i (0, 0)).1, o_bi (ps.getD i (0, 0)).2) :: (o_L1 ps).drop (i + 1) := by
  have hl : i < (o_L1 ps).length := by unfold o_L1; rw [List.length_map]; exact hi
  have e : (o_L1 ps)[i]'hl = (fun x : Nat × Nat => (x.1, o_bi x.2)) (ps[i]'hi) := List.getElem_map ..
  have e2 : ps.getD i (0, 0) = ps[i]'hi := by
    rw [List.getD_eq_getElem?_getD, List.getElem?_eq_getElem hi]
    rfl
  rw [List.drop_eq_getElem_cons hl, e, e2]
theorem o_L2_d {K : Nat → Int32} {i : Nat} (hi : i < 10) : (o_L2 K).drop i = (i, K i) :: (o_L2 K).drop (i + 1) := by
  have hl : i < (o_L2 K).length := by unfold o_L2; rw [List.length_map, List.length_range]; exact hi
  have e : (o_L2 K)[i]'hl = (fun c : Nat => (c, K c)) ((List.range 10)[i]'(by rw [List.length_range]; exact hi)) := List.getElem_map ..
  rw [List.drop_eq_getElem_cons hl, e, List.getElem_range]
theorem c_of13 {N : Nat} {G : nG} {k4 : Int32 → Int32 → nM → Option (Int32 × nM)} {x3 : Int32} {M : nM} {ps : List (Nat × Nat)} (hL : ps.length ≤ 12) (h3 : M 35 3 = nI ps.length) (hps : ∀ i, i < ps.length → (ps.getD i (0, 0)).1 < 10 ∧ (ps.getD i (0, 0)).2 < 10) (hc : ∀ i, i < ps.length → fX7_cell G 35 (nI i) (0 : Int32) M = some (nI (ps.getD i (0, 0)).1, M) ∧ fX7_cell G 35 (nI i) (1 : Int32) M = some (nI (ps.getD i (0, 0)).2, M)) : ∀ (d i f : Nat) (s : Int32), i + d = ps.length → d < f → fX9_openedFrom_13 N G k4 f s x3 (nI i) M = k4 (o_p ((o_L1 ps).drop i) s) (x3 + 1) M := by
  intro d
  induction d with
  | zero =>
    intro i f s hi hf
    obtain ⟨f, rfl⟩ : ∃ g, f = g + 1 := ⟨f - 1, by omega⟩
    rw [of13_eq, h3, if_pos (nI_le (by omega) (by omega)), List.drop_eq_nil_of_le (by unfold o_L1; rw [List.length_map]; omega)]
    rfl
  | succ d ih =>
    intro i f s hi hf
    obtain ⟨f, rfl⟩ : ∃ g, f = g + 1 := ⟨f - 1, by omega⟩
    obtain ⟨c1, c2⟩ := hc i (by omega)
    obtain ⟨b1, b2⟩ := hps i (by omega)
    rw [of13_eq, h3, if_neg (nI_ge (by omega) (by omega)), c1, Option.bind_some]
    show ((fX4_hasBit s (nI (ps.getD i (0, 0)).1) M).bind _) = _
    rw [e_hasBit (by omega), Option.bind_some, o_L1_d (show i < ps.length by omega), nI_1]
    show _ = k4 (o_p ((o_L1 ps).drop (i + 1)) (o_op s ((ps.getD i (0, 0)).1, o_bi (ps.getD i (0, 0)).2))) (x3 + 1) M
    unfold o_op
    cases hb : bt s (ps.getD i (0, 0)).1 with
    | false =>
      rw [if_pos (show (cb false : Int32) = 0 from rfl), if_neg (show ¬ false = true by decide)]
      exact ih (i + 1) f s (by omega) (by omega)
    | true =>
      rw [if_neg (show ¬ (cb true : Int32) = 0 by decide), if_pos (show true = true from rfl)]
      show ((fX7_cell G 35 (nI i) (1 : Int32) M).bind _) = _
      rw [c2, Option.bind_some]
      show ((fX4_withBit s (nI (ps.getD i (0, 0)).2) (1 : Int32) M).bind _) = _
      rw [e_withBit1, Option.bind_some]
      exact ih (i + 1) f (sb s (ps.getD i (0, 0)).2 true) (by omega) (by omega)
theorem c_of {N : Nat} {G : nG} {M : nM} {ps : List (Nat × Nat)} (hN : 1000 ≤ N) (hL : ps.length ≤ 12) (h3 : M 35 3 = nI ps.length) (hps : ∀ i, i < ps.length → (ps.getD i (0, 0)).1 < 10 ∧ (ps.getD i (0, 0)).2 < 10) (hc : ∀ i, i < ps.length → fX7_cell G 35 (nI i) (0 : Int32) M = some (nI (ps.getD i (0, 0)).1, M) ∧ fX7_cell G 35 (nI i) (1 : Int32) M = some (nI (ps.getD i (0, 0)).2, M)) (s : Int32) : fX9_openedFrom N G s M = some (o_C (o_L1 ps) s, M) := by
  have go : ∀ (d p f : Nat) (s : Int32), p + d = 10 → d < f → fX9_openedFrom_4 N G f s (nI p) M = some (o_it (o_L1 ps) d s, M) := by
    intro d
    induction d with
    | zero =>
      intro p f s hp hf
      obtain ⟨f, rfl⟩ : ∃ g, f = g + 1 := ⟨f - 1, by omega⟩
      rw [of4_eq, if_pos (show (10 : Int32) ≤ nI p from nI_le (a := 10) (by omega) (by omega))]
      rfl
    | succ d ih =>
      intro p f s hp hf
      obtain ⟨f, rfl⟩ : ∃ g, f = g + 1 := ⟨f - 1, by omega⟩
      rw [of4_eq, if_neg (show ¬ (10 : Int32) ≤ nI p from nI_ge (b := 10) (by omega) (by decide))]
      have t := c_of13 (N := N) (G := G) (k4 := fun x2 x3 M => fX9_openedFrom_4 N G f x2 x3 M) (x3 := nI p) hL h3 hps hc ps.length 0 N s (by omega) (by omega)
      refine t.trans ?_
      show fX9_openedFrom_4 N G f (o_p ((o_L1 ps).drop 0) s) (nI p + 1) M = _
      rw [nI_1, ih (p + 1) f _ (by omega) (by omega)]
      rfl
  exact go 10 0 N s (by omega) (by omega)
theorem c_om13 {N : Nat} {k4 : Int32 → Int32 → nM → Option (Int32 × nM)} {x3 : Int32} {M : nM} : ∀ (d i f : Nat) (s : Int32), i + d = 10 → d < f → fX12_openedFrom_13 N k4 f s x3 (nI i) M = k4 (o_p ((o_L2 (M 139)).drop i) s) (x3 + 1) M := by
  intro d
  induction d with
  | zero =>
    intro i f s hi hf
    obtain ⟨f, rfl⟩ : ∃ g, f = g + 1 := ⟨f - 1, by omega⟩
    rw [om13_eq, if_pos (show (10 : Int32) ≤ nI i from nI_le (a := 10) (by omega) (by omega)), List.drop_eq_nil_of_le (by unfold o_L2; rw [List.length_map, List.length_range]; omega)]
    rfl
  | succ d ih =>
    intro i f s hi hf
    obtain ⟨f, rfl⟩ : ∃ g, f = g + 1 := ⟨f - 1, by omega⟩
    rw [om13_eq, if_neg (show ¬ (10 : Int32) ≤ nI i from nI_ge (b := 10) (by omega) (by decide)), e_has (by omega), Option.bind_some, o_L2_d (show i < 10 by omega), nI_1]
    show _ = k4 (o_p ((o_L2 (M 139)).drop (i + 1)) (o_op s (i, M 139 i))) (x3 + 1) M
    unfold o_op
    cases hb : bt s i with
    | false =>
      rw [if_pos (show (cb false : Int32) = 0 from rfl), if_neg (show ¬ false = true by decide)]
      exact ih (i + 1) f s (by omega) (by omega)
    | true =>
      rw [if_neg (show ¬ (cb true : Int32) = 0 by decide), if_pos (show true = true from rfl), n_ib_nI (by omega) (by decide), n_chk_t, nI_clamp (by omega)]
      exact ih (i + 1) f _ (by omega) (by omega)
theorem c_om {N : Nat} {M : nM} (hN : 1000 ≤ N) (s : Int32) : fX12_openedFrom N s M = some (o_C (o_L2 (M 139)) s, M) := by
  have go : ∀ (d p f : Nat) (s : Int32), p + d = 10 → d < f → fX12_openedFrom_4 N f s (nI p) M = some (o_it (o_L2 (M 139)) d s, M) := by
    intro d
    induction d with
    | zero =>
      intro p f s hp hf
      obtain ⟨f, rfl⟩ : ∃ g, f = g + 1 := ⟨f - 1, by omega⟩
      rw [om4_eq, if_pos (show (10 : Int32) ≤ nI p from nI_le (a := 10) (by omega) (by omega))]
      rfl
    | succ d ih =>
      intro p f s hp hf
      obtain ⟨f, rfl⟩ : ∃ g, f = g + 1 := ⟨f - 1, by omega⟩
      rw [om4_eq, if_neg (show ¬ (10 : Int32) ≤ nI p from nI_ge (b := 10) (by omega) (by decide))]
      have t := c_om13 (N := N) (k4 := fun x2 x3 M => fX12_openedFrom_4 N f x2 x3 M) (x3 := nI p) (M := M) 10 0 N s (by omega) (by omega)
      refine t.trans ?_
      show fX12_openedFrom_4 N f (o_p ((o_L2 (M 139)).drop 0) s) (nI p + 1) M = _
      rw [nI_1, ih (p + 1) f _ (by omega) (by omega)]
      rfl
  exact go 10 0 N s (by omega) (by omega)
