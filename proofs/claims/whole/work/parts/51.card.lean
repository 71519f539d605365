/-! ===== what thinking uses up; cards ===== -/
def scc (c : Nat) : Bool := (Nat.ble 99 c && Nat.ble c 106) || (Nat.beq c 138 || (Nat.beq c 140 || (Nat.beq c 142 || (Nat.beq c 147 || Nat.beq c 150))))
def s7c (k : Nat) : Bool := Nat.beq k 0 || (Nat.beq k 60 || (Nat.beq k 61 || (Nat.beq k 62 || Nat.beq k 64)))
theorem scc_big {c : Nat} (h : 150 < c) : scc c = false := by
  unfold scc
  have nb : ∀ b : Nat, b < c → Nat.ble c b = false := fun b g => by rw [Bool.eq_false_iff]; intro z; have := Nat.le_of_ble_eq_true z; omega
  have ne : ∀ b : Nat, b < c → Nat.beq c b = false := fun b g => by rw [Bool.eq_false_iff]; intro z; have := Nat.eq_of_beq_eq_true z; omega
  rw [nb 106 (by omega), ne 138 (by omega), ne 140 (by omega), ne 142 (by omega), ne 147 (by omega), ne 150 (by omega)]
  simp
theorem Rel_scr {G : nG} {M M' : nM} {n q : Nat} (h : Rel G M n q) (hc : ∀ c, scc c = false → c ≠ 107 → M' c = M c) (h7 : ∀ k, s7c k = false → M' 107 k = M 107 k) : Rel G M' n q := by
  obtain ⟨⟨hst, hmv, hbk, hlw, hsp, hcu, hli, hsw, hpk, hbx, hky, hcl, hsh, hrw, hgf, hmi⟩, hpr, hrd, hck, hwd, him⟩ := id h
  refine ⟨⟨?_, ?_, ?_, ?_, ?_, ?_, ?_, ?_, ?_, ?_, ?_, ?_, ?_, ?_, ?_, ?_⟩, ?_, ?_, ?_, ?_, ?_⟩
  · rw [hc 3 rfl (by decide), hc 4 rfl (by decide), hc 5 rfl (by decide), hc 6 rfl (by decide), hc 7 rfl (by decide), hc 8 rfl (by decide), h7 6 rfl, h7 7 rfl, hc 111 rfl (by decide), hc 112 rfl (by decide), hc 113 rfl (by decide), hc 114 rfl (by decide), hc 115 rfl (by decide)]; exact hst
  · rw [hc 9 rfl (by decide), hc 10 rfl (by decide), hc 11 rfl (by decide), hc 12 rfl (by decide), hc 13 rfl (by decide), hc 108 rfl (by decide)]; exact hmv
  · rw [hc 15 rfl (by decide), hc 116 rfl (by decide)]; exact hbk
  · rw [hc 16 rfl (by decide), hc 17 rfl (by decide), hc 18 rfl (by decide), hc 19 rfl (by decide), hc 20 rfl (by decide), hc 21 rfl (by decide), hc 119 rfl (by decide), hc 120 rfl (by decide), hc 121 rfl (by decide), hc 122 rfl (by decide), hc 123 rfl (by decide), hc 124 rfl (by decide), hc 125 rfl (by decide)]; exact hlw
  · rw [hc 22 rfl (by decide), hc 23 rfl (by decide), h7 37 rfl, hc 127 rfl (by decide)]; exact hsp
  · rw [hc 24 rfl (by decide), hc 25 rfl (by decide), h7 39 rfl, hc 128 rfl (by decide)]; exact hcu
  · rw [hc 26 rfl (by decide), hc 27 rfl (by decide), h7 41 rfl, hc 129 rfl (by decide)]; exact hli
  · rw [hc 29 rfl (by decide), hc 30 rfl (by decide), h7 46 rfl, hc 133 rfl (by decide), hc 134 rfl (by decide)]; exact hsw
  · rw [hc 31 rfl (by decide), hc 32 rfl (by decide), h7 49 rfl, hc 135 rfl (by decide)]; exact hpk
  · rw [hc 33 rfl (by decide), hc 34 rfl (by decide), h7 51 rfl, hc 136 rfl (by decide), hc 137 rfl (by decide)]; exact hbx
  · rw [hc 35 rfl (by decide), hc 36 rfl (by decide), h7 55 rfl, hc 139 rfl (by decide)]; exact hky
  · rw [hc 37 rfl (by decide), hc 38 rfl (by decide), h7 65 rfl, hc 144 rfl (by decide), hc 145 rfl (by decide), hc 146 rfl (by decide)]; exact hcl
  · rw [hc 39 rfl (by decide), hc 40 rfl (by decide), h7 70 rfl, hc 148 rfl (by decide)]; exact hsh
  · rw [hc 41 rfl (by decide), hc 42 rfl (by decide), h7 72 rfl, hc 149 rfl (by decide)]; exact hrw
  · rw [hc 43 rfl (by decide), hc 141 rfl (by decide)]; exact hgf
  · rw [hc 44 rfl (by decide), hc 143 rfl (by decide)]; exact hmi
  · obtain ⟨k, x, p1, p2, p3, p4, p5, p6⟩ := hpr
    refine ⟨k, x, p1, p2, by rw [hc 48 rfl (by decide)]; exact p3, by rw [hc 48 rfl (by decide)]; exact p4, by rw [h7 3 rfl]; exact p5, fun j hj => ?_⟩
    refine p_mov_c (by omega) (fun c g1 g2 => hc c ?_ (by omega)) (fun t ht => by rw [hc 109 rfl (by decide)]) (p6 j hj)
    have nb : Nat.ble 99 c = false := by rw [Bool.eq_false_iff]; intro z; have := Nat.le_of_ble_eq_true z; omega
    have ne : ∀ b : Nat, 100 < b → Nat.beq c b = false := fun b g => by rw [Bool.eq_false_iff]; intro z; have := Nat.eq_of_beq_eq_true z; omega
    unfold scc
    rw [nb, ne 138 (by omega), ne 140 (by omega), ne 142 (by omega), ne 147 (by omega), ne 150 (by omega)]
    rfl
  · unfold RD
    rw [hc 80 rfl (by decide), hc 81 rfl (by decide), h7 15 rfl, hc 117 rfl (by decide), h7 35 rfl, h7 36 rfl]; exact hrd
  · unfold CK
    rw [hc 9 rfl (by decide), hc 93 rfl (by decide), hc 14 rfl (by decide), hc 22 rfl (by decide), hc 24 rfl (by decide), hc 26 rfl (by decide), hc 29 rfl (by decide), hc 31 rfl (by decide), hc 33 rfl (by decide), hc 35 rfl (by decide), hc 37 rfl (by decide), hc 39 rfl (by decide), hc 41 rfl (by decide), hc 91 rfl (by decide), h7 5 rfl]
    exact hck
  · rw [hc 118 rfl (by decide)]; exact hwd
  · unfold IM
    rw [h7 76 rfl, hc 151 rfl (by decide)]
    rcases him with z | ⟨z1, z2, z3, z4, z5, n', q', z6⟩
    · exact Or.inl z
    · refine Or.inr ⟨z1, z2, z3, z4, z5, n', q', ?_⟩
      have e : ∀ a, 2 ≤ a → M' (a + 150) = M (a + 150) := fun a ha => hc _ (scc_big (by omega)) (by omega)
      obtain ⟨k1, k2, k3, k4, k5, k6, k7, k8, k9, k10, k11, k12, k13, k14, k15, k16⟩ := z6
      refine ⟨?_, ?_, ?_, ?_, ?_, ?_, ?_, ?_, ?_, ?_, ?_, ?_, ?_, ?_, ?_, ?_⟩
      · simp only [e 3 (by decide), e 4 (by decide), e 5 (by decide), e 6 (by decide), e 7 (by decide), e 8 (by decide)]; exact k1
      · simp only [e 9 (by decide), e 10 (by decide), e 11 (by decide), e 12 (by decide), e 13 (by decide)]; exact k2
      · simp only [e 15 (by decide)]; exact k3
      · simp only [e 16 (by decide), e 17 (by decide), e 18 (by decide), e 19 (by decide), e 20 (by decide), e 21 (by decide)]; exact k4
      · simp only [e 22 (by decide), e 23 (by decide)]; exact k5
      · simp only [e 24 (by decide), e 25 (by decide)]; exact k6
      · simp only [e 26 (by decide), e 27 (by decide)]; exact k7
      · simp only [e 29 (by decide), e 30 (by decide)]; exact k8
      · simp only [e 31 (by decide), e 32 (by decide)]; exact k9
      · simp only [e 33 (by decide), e 34 (by decide)]; exact k10
      · simp only [e 35 (by decide), e 36 (by decide)]; exact k11
      · simp only [e 37 (by decide), e 38 (by decide)]; exact k12
      · simp only [e 39 (by decide), e 40 (by decide)]; exact k13
      · simp only [e 41 (by decide), e 42 (by decide)]; exact k14
      · simp only [e 43 (by decide)]; exact k15
      · simp only [e 44 (by decide)]; exact k16
/-- where a card goes by one pick -/
def q_g (n p a : Nat) : Nat := (if a % 3 = p then 1 else if a % 3 = (if p = 0 then 1 else 0) then 0 else 2) * (n / 3) + a / 3
theorem q_g_b {n p a : Nat} (h3 : n % 3 = 0) (ha : a < n) : q_g n p a < n := by
  unfold q_g
  have hx : ∀ x : Nat, x ≤ 2 → x * (n / 3) + a / 3 < n := fun x hx => by
    have : x * (n / 3) ≤ 2 * (n / 3) := Nat.mul_le_mul_right _ hx
    omega
  apply hx
  by_cases h1 : a % 3 = p
  · rw [if_pos h1]; omega
  · rw [if_neg h1]
    by_cases h2 : a % 3 = (if p = 0 then 1 else 0)
    · rw [if_pos h2]; omega
    · rw [if_neg h2]; omega
theorem d_div3 {a : Nat} (h : a < 2 ^ 31) : nI a / (3 : Int32) = nI (a / 3) := pk_div (d := 3) h (by decide) (by decide)
theorem d_mod3 {a : Nat} (h : a < 2 ^ 31) : nI a - nI a / (3 : Int32) * (3 : Int32) = nI (a % 3) := pk_rem (d := 3) h (by decide) (by decide)
theorem e_ap {n p a : Nat} (hn : n ≤ 30) (ha : a < 100) (hp : p < 3) (M : nM) : fX9_afterPick (nI n) (nI a) (nI p) M = some (nI (q_g n p a), M) := by
  have z3 : ¬ (3 : Int32) = 0 := by decide
  have e31 : ∀ (x : Nat) (M : nM), fX9_afterPick_31 (nI n) (nI a) (nI x) M = some (nI (x * (n / 3) + a / 3), M) := fun x M => by
    unfold fX9_afterPick_31
    rw [if_neg z3, if_neg z3, d_div3 (by omega), d_div3 (by omega), pk_mul, nI_add]
  unfold fX9_afterPick q_g
  rw [if_neg z3, d_mod3 (by omega)]
  simp only
  have ha3 : a % 3 < 3 := Nat.mod_lt _ (by decide)
  by_cases h1 : a % 3 = p
  · rw [if_neg (by rw [h1]; exact not_not_intro rfl), if_pos h1]
    exact e31 1 M
  · have e2 : (3 : Int32) - nI p - nI (a % 3) = nI (3 - p - a % 3) := by
      rw [show (3 : Int32) = nI 3 from rfl, pk_sub (by omega), pk_sub (by omega)]
    rw [if_pos (fun e => h1 ((nI_eq (by omega) (by omega)).mp e)), if_neg h1, e2]
    by_cases h2 : a % 3 ≤ 3 - p - a % 3
    · rw [if_pos (nI_le h2 (by omega)), if_pos (by split <;> omega)]
      exact e31 0 M
    · rw [if_neg (nI_ge (by omega) (by omega)), if_neg (by split <;> omega)]
      exact e31 2 M
theorem e_ga {n p a : Nat} (hn : n ≤ 30) (ha : a < 100) (hp : p < 3) (M : nM) : fX12_gathered (nI n) (nI a) (nI p) M = some (nI (q_g n p a), M) := by
  have z3 : ¬ (3 : Int32) = 0 := by decide
  have e31 : ∀ (x : Nat) (M : nM), fX12_gathered_34 (nI n) (nI a) (nI x) M = some (nI (x * (n / 3) + a / 3), M) := fun x M => by
    unfold fX12_gathered_34
    rw [if_neg z3, if_neg z3, d_div3 (by omega), d_div3 (by omega), pk_mul, nI_add]
  unfold fX12_gathered fX12_gathered_26 q_g
  rw [if_neg z3, d_mod3 (by omega)]
  simp only
  have ha3 : a % 3 < 3 := Nat.mod_lt _ (by decide)
  by_cases h1 : a % 3 = p
  · rw [if_neg (by rw [h1]; exact not_not_intro rfl), if_pos h1]
    exact e31 1 M
  · rw [if_pos (fun e => h1 ((nI_eq (by omega) (by omega)).mp e)), if_neg h1]
    by_cases hp0 : p = 0
    · subst hp0
      rw [if_neg (show ¬ ¬ nI 0 = (0 : Int32) from not_not_intro rfl), if_pos rfl]
      by_cases h2 : a % 3 = 1
      · rw [if_neg (by rw [h2]; exact not_not_intro rfl), if_pos h2]
        exact e31 0 M
      · rw [if_pos (show ¬ nI (a % 3) = (1 : Int32) from fun e => h2 ((nI_eq (b := 1) (by omega) (by omega)).mp e)), if_neg h2]
        exact e31 2 M
    · rw [if_pos (nI_ne0 (by omega) (by omega)), if_neg hp0]
      by_cases h2 : a % 3 = 0
      · rw [if_neg (by rw [h2]; exact not_not_intro rfl), if_pos h2]
        exact e31 0 M
      · rw [if_pos (show ¬ nI (a % 3) = (0 : Int32) from fun e => h2 ((nI_eq (b := 0) (by omega) (by omega)).mp e)), if_neg h2]
        exact e31 2 M
def q_gs (n : Nat) : List Nat → Nat → Nat
  | [], a => a
  | p :: t, a => q_gs n t (q_g n p a)
theorem e_cb {G : nG} {M : nM} {N n : Nat} {ps : List Nat} (hG : n_GOK G) (h3 : n % 3 = 0) (hn : n ≤ 30) (hwm : r_wm (M 31 1) (M 31 2) 1 4) (hl : ps.length ≤ 4) (hc : M 31 3 = nI ps.length) (hp : ∀ (i : Nat) (x : Nat), ps[i]? = some x → 0 ≤ x ∧ x ≤ 2 ∧ M 32 i = nI x ∧ M 135 i = nI x) : ∀ (d j f a : Nat), j + d = ps.length → d < f → a < n → fX9_cardBehind_5 N G f (nI n) (nI a) (nI j) M = some (nI (q_gs n (ps.drop j) a), M) := by
  intro d
  induction d with
  | zero =>
    intro j f a hj hf ha
    obtain ⟨f, rfl⟩ : ∃ g, f = g + 1 := ⟨f - 1, by omega⟩
    unfold fX9_cardBehind_5
    rw [hc, if_pos (nI_le (by omega) (by omega)), List.drop_of_length_le (by omega)]
    rfl
  | succ d ih =>
    intro j f a hj hf ha
    obtain ⟨f, rfl⟩ : ∃ g, f = g + 1 := ⟨f - 1, by omega⟩
    have hx : ps[j]? = some (ps[j]'(by omega)) := List.getElem?_eq_getElem (by omega)
    obtain ⟨-, h2, h3', -⟩ := hp j _ hx
    have hd : ps.drop j = ps[j]'(by omega) :: ps.drop (j + 1) := List.drop_eq_getElem_cons (by omega)
    have g0 := e_cell (W := 1) (H := 4) (i := j) (j := 0) (gk31 hG) (gm31_0 hG) (gk32 hG) (gl32 hG) hwm (by decide) (by decide) (by decide) (by omega) (by decide)
    rw [show j * 1 + 0 = j by omega, h3'] at g0
    unfold fX9_cardBehind_5
    rw [hc, if_neg (nI_ge (by omega) (by omega)), show (0 : Int32) = nI 0 from rfl, g0]
    simp only [Option.bind_some, e_ap hn (show a < 100 by omega) (show ps[j] < 3 by omega), nI_1]
    rw [ih (j + 1) f _ (by omega) (by omega) (q_g_b h3 ha), hd]
    rfl
theorem e_c73 {M : nM} {N n : Nat} {ps : List Nat} (h3 : n % 3 = 0) (hn : n ≤ 30) (hl : ps.length ≤ 4) (hc : M 107 49 = nI ps.length) (hp : ∀ (i : Nat) (x : Nat), ps[i]? = some x → 0 ≤ x ∧ x ≤ 2 ∧ M 135 i = nI x) : ∀ (d j f a : Nat), j + d = ps.length → d < f → a < n → fX12_card_73 N f (nI n) (nI a) (nI j) M = some (nI (q_gs n (ps.drop j) a), M) := by
  intro d
  induction d with
  | zero =>
    intro j f a hj hf ha
    obtain ⟨f, rfl⟩ : ∃ g, f = g + 1 := ⟨f - 1, by omega⟩
    unfold fX12_card_73
    rw [hc, if_pos (nI_le (by omega) (by omega)), List.drop_of_length_le (by omega)]
    rfl
  | succ d ih =>
    intro j f a hj hf ha
    obtain ⟨f, rfl⟩ : ∃ g, f = g + 1 := ⟨f - 1, by omega⟩
    have hx : ps[j]? = some (ps[j]'(by omega)) := List.getElem?_eq_getElem (by omega)
    obtain ⟨-, h2, h3'⟩ := hp j _ hx
    have hd : ps.drop j = ps[j]'(by omega) :: ps.drop (j + 1) := List.drop_eq_getElem_cons (by omega)
    unfold fX12_card_73
    rw [hc, if_neg (nI_ge (by omega) (by omega))]
    simp only [n_ib_nI (show j < 4 by omega) (show 4 < 2 ^ 31 by decide), n_chk, nI_clamp (show j < 2 ^ 31 by omega), h3', Option.bind_some, e_ga hn (show a < 100 by omega) (show ps[j] < 3 by omega), nI_1]
    rw [ih (j + 1) f _ (by omega) (by omega) (q_g_b h3 ha), hd]
    rfl
/-- t times by pile 1; whether the first c are back; the first time when all are -/
def q_it (n : Nat) : Nat → Nat → Nat
  | 0, c => c
  | t + 1, c => q_g n 1 (q_it n t c)
theorem q_it_b {n : Nat} (h3 : n % 3 = 0) : ∀ (t : Nat) {c : Nat}, c < n → q_it n t c < n
  | 0, _, hc => hc
  | t + 1, _, hc => q_g_b h3 (q_it_b h3 t hc)
def q_bk (n t : Nat) : Nat → Bool
  | 0 => true
  | c + 1 => q_bk n t c && decide (q_it n t c = c)
def q_tt (n : Nat) : Nat → Nat → Int32
  | 0, _ => -1
  | d + 1, t => if q_bk n t n = true then nI t else q_tt n d (t + 1)
theorem e_tt39 {M : nM} {N n t : Nat} {k : Int32 → Int32 → nM → Option (Int32 × nM)} (h3 : n % 3 = 0) (hn : n ≤ 30) : ∀ (d i f : Nat) (W : Nat → Int32), i + d = n → d < f → (∀ j, j < i → W j = nI (q_it n (t + 1) j)) → (∀ j, i ≤ j → j < n → W j = nI (q_it n t j)) → ∃ W' : Nat → Int32, (∀ j, j < n → W' j = nI (q_it n (t + 1) j)) ∧ fX9_turnsTillSame_39 N k f (nI n) (nI (t + 1)) (cb (q_bk n (t + 1) i)) (nI i) (n_set M 99 W) = fX9_turnsTillSame_99 N k (nI n) (nI (t + 1)) (cb (q_bk n (t + 1) n)) (n_set M 99 W') := by
  intro d
  induction d with
  | zero =>
    intro i f W hi hf h1 h2
    obtain ⟨f, rfl⟩ : ∃ g, f = g + 1 := ⟨f - 1, by omega⟩
    obtain rfl : i = n := by omega
    refine ⟨W, h1, ?_⟩
    unfold fX9_turnsTillSame_39
    rw [if_pos (nI_le (by omega) (by omega))]
  | succ d ih =>
    intro i f W hi hf h1 h2
    obtain ⟨f, rfl⟩ : ∃ g, f = g + 1 := ⟨f - 1, by omega⟩
    obtain ⟨W', w1, w2⟩ := ih (i + 1) f (upd W i (nI (q_it n (t + 1) i))) (by omega) (by omega) (fun j hj => by
      by_cases e : j = i
      · rw [e, upd_eq]
      · rw [upd_ne e]; exact h1 j (by omega)) (fun j hj1 hj2 => by rw [upd_ne (by omega)]; exact h2 j (by omega) hj2)
    refine ⟨W', w1, ?_⟩
    have hb := q_it_b h3 t (show i < n by omega)
    have hb2 := q_it_b h3 (t + 1) (show i < n by omega)
    have eW : n_set M 99 W 99 i = nI (q_it n t i) := by rw [n_set_eq]; exact h2 i (by omega) (by omega)
    have c30 : ¬ (30 : Int32) ≤ nI i := nI_ge (b := 30) (by omega) (by decide)
    have eg : q_g n 1 (q_it n t i) = q_it n (t + 1) i := rfl
    have ebk : q_bk n (t + 1) (i + 1) = (q_bk n (t + 1) i && decide (q_it n (t + 1) i = i)) := rfl
    rw [ebk] at w2
    unfold fX9_turnsTillSame_39
    rw [if_neg (nI_ge (by omega) (by omega)), if_neg c30]
    have e1 : fX9_afterPick (nI n) (nI (q_it n t i)) 1 (n_set M 99 W) = some (nI (q_it n (t + 1) i), n_set M 99 W) := e_ap hn (by omega) (by decide) _
    simp only [n_ib_nI (show i < 256 by omega) (show 256 < 2 ^ 31 by decide), n_chk, nI_clamp (show i < 2 ^ 31 by omega), eW, e1, Option.bind_some, n_up_set, n_set_eq, upd_eq, nI_1]
    cases hq : q_bk n (t + 1) i with
    | false =>
      rw [hq] at w2
      rw [if_pos (show cb false = (0 : Int32) from rfl)]
      exact w2
    | true =>
      rw [hq] at w2
      rw [if_neg (show ¬ cb true = (0 : Int32) by decide)]
      by_cases e : q_it n (t + 1) i = i
      · rw [if_neg (by rw [e]; exact not_not_intro rfl)]
        rw [show decide (q_it n (t + 1) i = i) = true from decide_eq_true e] at w2
        exact w2
      · rw [if_pos (fun z => e ((nI_eq (by omega) (by omega)).mp z))]
        rw [show decide (q_it n (t + 1) i = i) = false from decide_eq_false e] at w2
        exact w2
theorem e_tt28 {M : nM} {N n : Nat} (hN : 1000 ≤ N) (h3 : n % 3 = 0) (hn : n ≤ 30) : ∀ (d t f : Nat) (W : Nat → Int32), t + d = 99 → d < f → (∀ j, j < n → W j = nI (q_it n t j)) → ∃ W' : Nat → Int32, fX9_turnsTillSame_28 N f (nI n) (nI (t + 1)) (n_set M 99 W) = some (q_tt n d (t + 1), n_set M 99 W') := by
  intro d
  induction d with
  | zero =>
    intro t f W ht hf h1
    obtain ⟨f, rfl⟩ : ∃ g, f = g + 1 := ⟨f - 1, by omega⟩
    refine ⟨W, ?_⟩
    unfold fX9_turnsTillSame_28
    rw [if_pos (show (99 : Int32) < nI (t + 1) from nI_lt (a := 99) (by omega) (by omega))]
    rfl
  | succ d ih =>
    intro t f W ht hf h1
    obtain ⟨f, rfl⟩ : ∃ g, f = g + 1 := ⟨f - 1, by omega⟩
    obtain ⟨W', w1, w2⟩ := e_tt39 (M := M) (N := N) (t := t) (k := fun x1 x2 M => fX9_turnsTillSame_28 N f x1 x2 M) h3 hn n 0 N W (by omega) (by omega) (fun j hj => absurd hj (by omega)) (fun j _ hj => h1 j hj)
    have e0 : fX9_turnsTillSame_28 N (f + 1) (nI n) (nI (t + 1)) (n_set M 99 W) = fX9_turnsTillSame_39 N (fun x1 x2 M => fX9_turnsTillSame_28 N f x1 x2 M) N (nI n) (nI (t + 1)) (cb (q_bk n (t + 1) 0)) (nI 0) (n_set M 99 W) := by
      show (if (99 : Int32) < nI (t + 1) then _ else _) = _
      rw [if_neg (show ¬ (99 : Int32) < nI (t + 1) from nI_nlt (a := 99) (by omega) (by decide))]
      rfl
    rw [e0, w2]
    unfold fX9_turnsTillSame_99 q_tt
    cases hq : q_bk n (t + 1) n with
    | false =>
      obtain ⟨W2, e2⟩ := ih (t + 1) f W' (by omega) (by omega) w1
      refine ⟨W2, ?_⟩
      rw [if_pos (show cb false = (0 : Int32) from rfl), if_neg (show ¬ false = true by decide), nI_1]
      exact e2
    | true =>
      refine ⟨W', ?_⟩
      rw [if_neg (show ¬ cb true = (0 : Int32) by decide), if_pos (show true = true from rfl)]
theorem e_tt2 {M : nM} {N n : Nat} (hN : 1000 ≤ N) (h3 : n % 3 = 0) (hn : n ≤ 30) : ∀ (d i f : Nat) (W : Nat → Int32), i + d = n → d < f → (∀ j, j < i → W j = nI j) → ∃ W' : Nat → Int32, fX9_turnsTillSame_2 N f (nI n) (nI i) (n_set M 99 W) = some (q_tt n 99 1, n_set M 99 W') := by
  intro d
  induction d with
  | zero =>
    intro i f W hi hf h1
    obtain ⟨f, rfl⟩ : ∃ g, f = g + 1 := ⟨f - 1, by omega⟩
    obtain rfl : i = n := by omega
    unfold fX9_turnsTillSame_2
    rw [if_pos (nI_le (by omega) (by omega))]
    exact e_tt28 hN h3 hn 99 0 N W (by omega) (by omega) h1
  | succ d ih =>
    intro i f W hi hf h1
    obtain ⟨f, rfl⟩ : ∃ g, f = g + 1 := ⟨f - 1, by omega⟩
    unfold fX9_turnsTillSame_2
    rw [if_neg (nI_ge (by omega) (by omega)), if_neg (show ¬ (30 : Int32) ≤ nI i from nI_ge (b := 30) (by omega) (by decide))]
    simp only [n_ib_nI (show i < 256 by omega) (show 256 < 2 ^ 31 by decide), n_chk, nI_clamp (show i < 2 ^ 31 by omega), n_up_set, nI_1]
    exact ih (i + 1) f _ (by omega) (by omega) (fun j hj => by
      by_cases e : j = i
      · rw [e, upd_eq]
      · rw [upd_ne e]; exact h1 j (by omega))
theorem e_bk13 {M : nM} {N n t c : Nat} {k : Int32 → Int32 → Int32 → nM → Option (Int32 × nM)} (h3 : n % 3 = 0) (hn : n ≤ 30) (ht : t < 1000) (hc : c < n) : ∀ (d i f : Nat), i + d = t → d < f → fX12_isBack_13 N k f (nI n) (nI t) (nI c) (nI (q_it n i c)) (nI i) M = if q_it n t c = c then k (nI n) (nI t) (nI (c + 1)) M else some (0, M) := by
  intro d
  induction d with
  | zero =>
    intro i f hi hf
    obtain ⟨f, rfl⟩ : ∃ g, f = g + 1 := ⟨f - 1, by omega⟩
    obtain rfl : i = t := by omega
    have hb := q_it_b h3 i hc
    unfold fX12_isBack_13
    rw [if_pos (nI_le (by omega) (by omega))]
    by_cases e : q_it n i c = c
    · rw [if_pos (by rw [e]), if_pos e]
      simp only [nI_1]
    · rw [if_neg (fun z => e ((nI_eq (by omega) (by omega)).mp z)), if_neg e]
  | succ d ih =>
    intro i f hi hf
    obtain ⟨f, rfl⟩ : ∃ g, f = g + 1 := ⟨f - 1, by omega⟩
    have hb := q_it_b h3 i hc
    unfold fX12_isBack_13
    rw [if_neg (nI_ge (by omega) (by omega)), show (1 : Int32) = nI 1 from rfl, e_ga hn (by omega) (by decide)]
    simp only [Option.bind_some, nI_add]
    exact ih (i + 1) f (by omega) (by omega)
/-- from c on all are back -/
theorem e_bk2 {M : nM} {N n t : Nat} (hN : 1000 ≤ N) (h3 : n % 3 = 0) (hn : n ≤ 30) (ht : t < 100) : ∀ (d c f : Nat), c + d = n → d < f → q_bk n t c = true → fX12_isBack_2 N f (nI n) (nI t) (nI c) M = some (cb (q_bk n t n), M) := by
  intro d
  induction d with
  | zero =>
    intro c f hc hf hq
    obtain ⟨f, rfl⟩ : ∃ g, f = g + 1 := ⟨f - 1, by omega⟩
    obtain rfl : c = n := by omega
    unfold fX12_isBack_2
    rw [if_pos (nI_le (by omega) (by omega)), hq]
    rfl
  | succ d ih =>
    intro c f hc hf hq
    obtain ⟨f, rfl⟩ : ∃ g, f = g + 1 := ⟨f - 1, by omega⟩
    unfold fX12_isBack_2
    have e0 := e_bk13 (M := M) (N := N) (k := fun x1 x2 x3 M => fX12_isBack_2 N f x1 x2 x3 M) h3 hn (show t < 1000 by omega) (show c < n by omega) t 0 N (by omega) (by omega)
    rw [if_neg (nI_ge (by omega) (by omega))]
    refine Eq.trans e0 ?_
    by_cases e : q_it n t c = c
    · rw [if_pos e]
      refine ih (c + 1) f (by omega) (by omega) ?_
      show (q_bk n t c && decide (q_it n t c = c)) = true
      rw [hq, e]
      simp
    · rw [if_neg e]
      have hf : ∀ m, q_bk n t (c + 1 + m) = false := fun m => by
        induction m with
        | zero =>
          show (q_bk n t c && decide (q_it n t c = c)) = false
          simp [e]
        | succ m ihm =>
          show (q_bk n t (c + 1 + m) && _) = false
          rw [ihm]
          rfl
      have := hf (n - (c + 1))
      rw [show c + 1 + (n - (c + 1)) = n by omega] at this
      rw [this]
      rfl
theorem e_c43 {M : nM} {N n : Nat} (hN : 1000 ≤ N) (h3 : n % 3 = 0) (hn : n ≤ 30) : ∀ (d t f : Nat), t + d = 99 → d < f → fX12_card_43 N f (nI n) (nI (t + 1)) M = some (q_tt n d (t + 1), M) := by
  intro d
  induction d with
  | zero =>
    intro t f ht hf
    obtain ⟨f, rfl⟩ : ∃ g, f = g + 1 := ⟨f - 1, by omega⟩
    unfold fX12_card_43
    rw [if_pos (show (99 : Int32) < nI (t + 1) from nI_lt (a := 99) (by omega) (by omega))]
    rfl
  | succ d ih =>
    intro t f ht hf
    obtain ⟨f, rfl⟩ : ∃ g, f = g + 1 := ⟨f - 1, by omega⟩
    have e0 : fX12_isBack N (nI n) (nI (t + 1)) M = some (cb (q_bk n (t + 1) n), M) := e_bk2 hN h3 hn (by omega) n 0 N (by omega) (by omega) rfl
    unfold fX12_card_43 q_tt
    rw [if_neg (show ¬ (99 : Int32) < nI (t + 1) from nI_nlt (a := 99) (by omega) (by decide)), e0]
    simp only [Option.bind_some, nI_1]
    cases hq : q_bk n (t + 1) n with
    | false =>
      rw [if_pos (show cb false = (0 : Int32) from rfl), if_neg (show ¬ false = true by decide)]
      exact ih (t + 1) f (by omega) (by omega)
    | true => rw [if_neg (show ¬ cb true = (0 : Int32) by decide), if_pos (show true = true from rfl)]
theorem st_card {G : nG} {M : nM} {n q N : Nat} (hN : 1000 ≤ N) (hG : n_GOK G) (h : Rel G M n q) (x y : Int32) : Stq G (fX11_card N G x y) (fX12_card N x y) M := by
  obtain ⟨⟨hst, hmv, hbk, hlw, hsp, hcu, hli, hsw, hpk, hbx, hky, hcl, hsh, hrw, hgf, hmi⟩, hpr, hrd, hck, hwd, him⟩ := id h
  obtain ⟨ps, i1, i2, i3, i4⟩ := hpk
  have hwm : r_wm (M 31 1) (M 31 2) 1 4 := hck.2.2.2.2.2.2.2.1
  have z3 : ((3 : Int32) = 0) = False := eq_false (by decide)
  unfold Stq fX11_card fX12_card
  cases hw : wi x 3 30 with
  | false =>
    simp only [e_within, e_isIn, hw, wp_bind, wp_some, wp_chk, ↓reduceIte, not_true_eq_false, not_false_eq_true, z10, z01, zm0, z0m, zm1, z1m, true_and, and_true, cb_t, cb_f, cb0, cb1, eq_self, Bool.false_eq_true, Bool.true_eq_false, reduceCtorEq]
    exact ⟨n, q, h⟩
  | true =>
  obtain ⟨u, u1, u2, rfl⟩ := wi_nIl (l := 3) (by decide) (n := 30) (by decide) hw
  by_cases h3 : u % 3 = 0
  · have em : nI u - nI u / (3 : Int32) * (3 : Int32) = 0 := by rw [d_mod3 (by omega), h3]; rfl
    have es : nI u - (1 : Int32) = nI (u - 1) := pk_sub (b := 1) (by omega)
    by_cases hy : y = -1
    · subst hy
      have w1 : wi (-1 : Int32) (-1) (nI (u - 1)) = true := by
        have : ¬ nI (u - 1) < (-1 : Int32) := fun g => absurd (Int32.lt_trans g (by decide)) (nI_pos (by omega))
        unfold wi
        simp [this]
      obtain ⟨W', e1⟩ := e_tt2 (M := M) hN h3 u2 u 0 N (M 99) (by omega) (by omega) (fun j hj => absurd hj (by omega))
      rw [n_set_self rfl] at e1
      have f1 : fX9_turnsTillSame N (nI u) M = some (q_tt u 99 1, n_set M 99 W') := e1
      have f2 : ∀ M, fX12_card_43 N N (nI u) 1 M = some (q_tt u 99 1, M) := fun M => e_c43 hN h3 u2 99 0 N (by omega) (by omega)
      simp only [e_within, e_isIn, hw, z3, em, es, w1, f1, f2, wp_bind, wp_some, wp_chk, ↓reduceIte, not_true_eq_false, not_false_eq_true, z10, z01, zm0, z0m, zm1, z1m, true_and, and_true, cb_t, cb_f, cb0, cb1, eq_self, Bool.false_eq_true, Bool.true_eq_false, reduceCtorEq]
      exact ⟨n, q, Rel_scr h (fun c g1 g2 => by rw [n_up_ne g2, n_set_ne (fun e => by subst e; exact absurd g1 (by decide))]) (fun k hk => by
        rw [n_up_eq, upd_ne (fun e => by subst e; exact absurd hk (by decide)), n_set_ne (by decide)])⟩
    · have hww : wi y (-1) (nI (u - 1)) = wi y 0 (nI (u - 1)) := by
        unfold wi
        have : decide (y < -1) = decide (y < 0) := decide_eq_decide.mpr ⟨fun g => Int32.lt_trans g (by decide), fun g => by
          rw [Int32.lt_iff_toInt_lt] at g ⊢
          have e1 : (-1 : Int32).toInt = -1 := by decide
          have e2 : (0 : Int32).toInt = 0 := by decide
          have e3 : y.toInt ≠ -1 := fun e => hy (Int32.toInt_inj.mp (by rw [e, e1]))
          omega⟩
        rw [this]
      cases hw2 : wi y 0 (nI (u - 1)) with
      | false =>
        simp only [e_within, e_isIn, hw, z3, em, es, hy, hww, hw2, wp_bind, wp_some, wp_chk, ↓reduceIte, not_true_eq_false, not_false_eq_true, z10, z01, zm0, z0m, zm1, z1m, true_and, and_true, cb_t, cb_f, cb0, cb1, eq_self, Bool.false_eq_true, Bool.true_eq_false, reduceCtorEq]
        exact ⟨n, q, h⟩
      | true =>
        obtain ⟨v, hv, rfl⟩ := wi_nI (n := u - 1) (nI_toInt (by omega)) hw2
        have f1 : fX9_cardBehind N G (nI u) (nI v) M = some (nI (q_gs u ps v), M) := by
          have := e_cb (N := N) hG h3 u2 hwm i1 i2 i4 ps.length 0 N v (by omega) (by omega) (by omega)
          exact this
        have f2 : fX12_card_73 N N (nI u) (nI v) 0 (n_up M 107 0 0) = some (nI (q_gs u ps v), n_up M 107 0 0) := by
          have := e_c73 (M := n_up M 107 0 0) (N := N) h3 u2 i1 i3 (fun i x hx => ⟨(i4 i x hx).1, (i4 i x hx).2.1, (i4 i x hx).2.2.2⟩) ps.length 0 N v (by omega) (by omega) (by omega)
          exact this
        simp only [e_within, e_isIn, hw, z3, em, es, hy, hww, hw2, f1, f2, wp_bind, wp_some, wp_chk, ↓reduceIte, not_true_eq_false, not_false_eq_true, z10, z01, zm0, z0m, zm1, z1m, true_and, and_true, cb_t, cb_f, cb0, cb1, eq_self, Bool.false_eq_true, Bool.true_eq_false, reduceCtorEq]
        exact ⟨n, q, h⟩
  · have em : ¬ nI u - nI u / (3 : Int32) * (3 : Int32) = 0 := by rw [d_mod3 (by omega)]; exact nI_ne0 (by omega) (by omega)
    simp only [e_within, e_isIn, hw, z3, em, wp_bind, wp_some, wp_chk, ↓reduceIte, not_true_eq_false, not_false_eq_true, z10, z01, zm0, z0m, zm1, z1m, true_and, and_true, cb_t, cb_f, cb0, cb1, eq_self, Bool.false_eq_true, Bool.true_eq_false, reduceCtorEq]
    exact ⟨n, q, h⟩
