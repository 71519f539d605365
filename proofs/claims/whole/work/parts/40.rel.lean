/-! ===== the class and the model side by side: what their cells have in common ===== -/
theorem upd_eq {f : Nat → Int32} {k : Nat} {v : Int32} : upd f k v k = v := if_pos rfl
theorem upd_ne {f : Nat → Int32} {k j : Nat} {v : Int32} (h : j ≠ k) : upd f k v j = f j := if_neg h
/-- what comes out, with what holds of it -/
def wp {α : Type} (x : Option (α × nM)) (Q : α → nM → Prop) : Prop := ∃ (a : α) (M : nM), x = some (a, M) ∧ Q a M
theorem wp_some {α : Type} {a : α} {M : nM} {Q : α → nM → Prop} : wp (some (a, M)) Q = Q a M := by
  apply propext
  constructor
  · rintro ⟨b, M', e, h⟩
    cases e
    exact h
  · intro h
    exact ⟨a, M, rfl, h⟩
theorem wp_bind {α β : Type} {x : Option (α × nM)} {f : α × nM → Option (β × nM)} {Q : β → nM → Prop} : wp (x.bind f) Q = wp x (fun a M => wp (f (a, M)) Q) := by
  apply propext
  constructor
  · rintro ⟨b, M', e, h⟩
    obtain ⟨p, e1, e2⟩ := Option.bind_eq_some_iff.mp e
    exact ⟨p.1, p.2, e1, b, M', e2, h⟩
  · rintro ⟨a, M, e1, b, M', e2, h⟩
    exact ⟨b, M', by rw [e1]; exact e2, h⟩
theorem wp_chk {α : Type} {b : Bool} {x : Option (α × nM)} {Q : α → nM → Prop} : wp (n_chk b x) Q = (b = true ∧ wp x Q) := by
  apply propext
  cases b with
  | true => exact ⟨fun h => ⟨rfl, h⟩, fun h => h.2⟩
  | false =>
    constructor
    · rintro ⟨a, M, e, -⟩
      cases e
    · rintro ⟨h, -⟩
      cases h
theorem wp_ite {α : Type} {c : Prop} [Decidable c] {x y : Option (α × nM)} {Q : α → nM → Prop} : wp (if c then x else y) Q = ((c → wp x Q) ∧ (¬ c → wp y Q)) := by
  apply propext
  by_cases h : c
  · rw [if_pos h]
    exact ⟨fun k => ⟨fun _ => k, fun g => absurd h g⟩, fun k => k.1 h⟩
  · rw [if_neg h]
    exact ⟨fun k => ⟨fun g => absurd g h, fun _ => k⟩, fun k => k.2 h⟩
theorem wp_mono {α : Type} {x : Option (α × nM)} {Q R : α → nM → Prop} (h : wp x Q) (k : ∀ a M, Q a M → R a M) : wp x R := by
  obtain ⟨a, M, e, q⟩ := h
  exact ⟨a, M, e, k a M q⟩
theorem wp_of {α : Type} {x : Option (α × nM)} {a : α} {M : nM} {Q : α → nM → Prop} (h : x = some (a, M)) (q : Q a M) : wp x Q := ⟨a, M, h, q⟩
theorem n_ib_nI {L j : Nat} (h : j < L) (hL : L < 2 ^ 31) : n_ib L (nI j) = true := by
  unfold n_ib
  have h1 : ¬ nI j < 0 := nI_pos (by omega)
  rw [nI_clamp (by omega)]
  simp only [h1, decide_false, Bool.not_false, Bool.true_and]
  exact Nat.ble_eq_true_of_le h
/-! ===== the parts of the relation ===== -/
/-- the set s, by its bits, and a row of 0 and 1 from k on: n of them, of which those from p on are 0 -/
def r_bits (s : Int32) (row : Nat → Int32) (k n p : Nat) : Prop := (∀ t, t < n → (bt s t = true ∧ row (k + t) = 1) ∨ (bt s t = false ∧ row (k + t) = 0)) ∧ (∀ t, p ≤ t → bt s t = false)
def r_mov (lost tied locked found hour draws lines : Int32) (i mv pa se : Nat → Int32) (row : Nat → Int32) (n q : Nat) : Prop :=
  ((∀ t, t < 16 → i t = row (28 + t)) ∧ (∀ t, t < 16 → ∃ j : Nat, j < 12 ∧ i t = nI j)) ∧ (∀ t, t < 16 → mv t = row (44 + t)) ∧
  ((∀ t, t < 12 → pa t = row (88 + t)) ∧ (∀ t, q ≤ t → t < 12 → pa t = 0)) ∧ (∀ t, t < 12 → se t = row (16 + t)) ∧
  r_bits lost row 60 16 n ∧ r_bits tied row 76 12 q ∧ r_bits locked row 4 12 12 ∧
  found = row 3 ∧ hour = row 0 ∧ draws = row 1 ∧ (lines = row 2 ∧ ∃ k : Nat, k ≤ 150 ∧ lines = nI k)
def r_eq (N : Nat) (a b : Nat → Int32) : Prop := ∀ k, k < N → a k = b k
def r_stock (ot op : Int32) (ro si wo sl wi : Nat → Int32) (mt mp : Int32) (rb msi mwo msl mwi : Nat → Int32) (n q : Nat) : Prop :=
  (n ≤ 16 ∧ q ≤ 12) ∧ (ot = nI n ∧ op = nI q) ∧ (mt = nI n ∧ mp = nI q) ∧ (∀ k, k < 12 → ro k = rb k + 9) ∧ r_eq 16 si msi ∧ r_eq 16 wo mwo ∧ r_eq 12 sl msl ∧ r_eq 12 wi mwi
/-- a law's code: what (0 number, 1 fact, 2 part, 3 not, 4 plus, 5 minus, 6 times, 7 less, 8 same, 9 more, 10 and, 11 or) with its number -/
abbrev lOp : Type := Nat × Nat
/-- the kinds of what lies on the stack behind code: true, a condition -/
def l_ty : List lOp → List Bool → Option (List Bool)
  | [], st => some st
  | (o, v) :: t, st =>
    if o = 0 then (if v < 10000 then l_ty t (false :: st) else none)
    else if o = 1 then (if v < 11 then l_ty t (false :: st) else none)
    else if o = 2 then (match st with
      | false :: r => if 0 < v ∧ v < 10000 then l_ty t (false :: r) else none
      | _ => none)
    else if v = 0 then (
      if o = 3 then (match st with
        | true :: r => l_ty t (true :: r)
        | _ => none)
      else if o ≤ 6 then (match st with
        | false :: false :: r => l_ty t (false :: r)
        | _ => none)
      else if o ≤ 9 then (match st with
        | false :: false :: r => l_ty t (true :: r)
        | _ => none)
      else if o ≤ 11 then (match st with
        | true :: true :: r => l_ty t (true :: r)
        | _ => none)
      else none)
    else none
/-- how deep the stack gets -/
def l_dp : List lOp → Nat → Nat → Prop
  | [], _, _ => True
  | (o, _) :: t, d, D => if o ≤ 1 then d + 1 ≤ D ∧ l_dp t (d + 1) D else if o ≤ 3 then l_dp t d D else l_dp t (d - 1) D
/-- the class's word for a code, the model's codes for it -/
def l_enc (x : lOp) : Int32 := nI (16 * x.2 + x.1)
def l_mod (x : lOp) : List (Nat × Nat) :=
  if x.1 = 2 then [(0, x.2), (5, 0)]
  else [((match x.1 with
    | 0 => 0
    | 1 => 1
    | 3 => 9
    | 4 => 2
    | 5 => 3
    | 6 => 4
    | 7 => 6
    | 8 => 7
    | 9 => 8
    | 10 => 10
    | _ => 11), x.2)]
def l_mods (c : List lOp) : List (Nat × Nat) := c.flatMap l_mod
abbrev lLn : Type := Nat × List lOp × List lOp
def l_okE (c : List lOp) : Prop := l_ty c [] = some [false] ∧ l_dp c 0 48
def l_okB (c : List lOp) : Prop := c = [] ∨ (l_ty c [] = some [true] ∧ l_dp c 0 48)
def l_atC (code : Nat → Int32) (f : Nat) (c : List lOp) : Prop := f + c.length ≤ 400 ∧ ∀ (k : Nat) (x : lOp), c[k]? = some x → code (f + k) = l_enc x
def l_atM (op arg : Nat → Int32) (f : Nat) (c : List (Nat × Nat)) : Prop := f + c.length ≤ 400 ∧ ∀ (k : Nat) (x : Nat × Nat), c[k]? = some x → op (f + k) = nI x.1 ∧ arg (f + k) = nI x.2
/-- both have the same law -/
def r_law (lns : Int32) (code words from_ when_ till : Nat → Int32) (lm : Int32) (lw lf lh lt op arg : Nat → Int32) : Prop :=
  ∃ ls : List lLn, ls.length ≤ 16 ∧ lns = nI ls.length ∧ lm = nI ls.length ∧ ∀ (i : Nat) (x : lLn), ls[i]? = some x → x.1 < 3 ∧ l_okE x.2.1 ∧ l_okB x.2.2 ∧
    (∃ f : Nat, words i = nI x.1 ∧ from_ i = nI f ∧ when_ i = nI (f + x.2.1.length) ∧ till i = nI (f + x.2.1.length + x.2.2.length) ∧ l_atC code f (x.2.1 ++ x.2.2)) ∧
    (∃ f : Nat, lw i = nI x.1 ∧ lf i = nI f ∧ lh i = nI (f + (l_mods x.2.1).length) ∧ lt i = nI (f + (l_mods x.2.1).length + (l_mods x.2.2).length) ∧ l_atM op arg f (l_mods x.2.1 ++ l_mods x.2.2))
/-- rows of four: supper (hour, person, thing, place) -/
def r_sup (cnt : Int32) (cells : Nat → Int32) (mc : Int32) (rows : Nat → Int32) (n q : Nat) : Prop :=
  ∃ k : Nat, k ≤ 16 ∧ cnt = nI k ∧ mc = nI k ∧ (∀ i, i < 4 * k → cells i = rows i) ∧ ∀ i, i < k → ∃ a b c : Nat, a < q ∧ b < n ∧ c < 12 ∧ cells (4 * i + 1) = nI a ∧ cells (4 * i + 2) = nI b ∧ cells (4 * i + 3) = nI c
/-- customs (hour, what, who, place) -/
def r_cus (cnt : Int32) (cells : Nat → Int32) (mc : Int32) (rows : Nat → Int32) (q : Nat) : Prop :=
  ∃ k : Nat, k ≤ 16 ∧ cnt = nI k ∧ mc = nI k ∧ (∀ i, i < 4 * k → cells i = rows i) ∧ ∀ i, i < k → ∃ a b c : Nat, a < 5 ∧ c < 12 ∧ (a = 2 ∨ a = 3 → b < 12) ∧ (¬ (a = 2 ∨ a = 3) → b < q) ∧ cells (4 * i + 1) = nI a ∧ cells (4 * i + 2) = nI b ∧ cells (4 * i + 3) = nI c
/-- who is whose child: rows of (child, parent), and sets of parents -/
def r_lin (cnt : Int32) (cells : Nat → Int32) (mc : Int32) (par : Nat → Int32) (q : Nat) : Prop :=
  ∃ ps : List (Nat × Nat), ps.length ≤ 16 ∧ cnt = nI ps.length ∧ mc = nI ps.length ∧ (∀ (i : Nat) (x : Nat × Nat), ps[i]? = some x → cells (4 * i) = nI x.1 ∧ cells (4 * i + 1) = nI x.2 ∧ x.1 < q ∧ x.2 < q ∧ x.1 ≠ x.2) ∧
    (∀ c, c < 12 → ∀ t, bt (par c) t = true ↔ (c, t) ∈ ps) ∧ ∀ c, (ps.filter (fun x => x.1 == c)).length ≤ 2
def r_swp (cnt : Int32) (cells : Nat → Int32) (mc : Int32) (a b : Nat → Int32) : Prop :=
  ∃ ps : List (Nat × Nat), ps.length ≤ 16 ∧ cnt = nI ps.length ∧ mc = nI ps.length ∧ ∀ (i : Nat) (x : Nat × Nat), ps[i]? = some x → x.1 < 10 ∧ x.2 < 10 ∧ x.1 ≠ x.2 ∧ cells (2 * i) = nI x.1 ∧ cells (2 * i + 1) = nI x.2 ∧ a i = nI x.1 ∧ b i = nI x.2
def r_one (most lo hi : Nat) (cnt : Int32) (cells : Nat → Int32) (mc : Int32) (a : Nat → Int32) : Prop :=
  ∃ ps : List Nat, ps.length ≤ most ∧ cnt = nI ps.length ∧ mc = nI ps.length ∧ ∀ (i : Nat) (x : Nat), ps[i]? = some x → lo ≤ x ∧ x ≤ hi ∧ cells i = nI x ∧ a i = nI x
/-- boxes (the lesser side, the greater one) -/
def r_box (cnt : Int32) (cells : Nat → Int32) (mc : Int32) (a b : Nat → Int32) : Prop :=
  ∃ ps : List (Nat × Nat), ps.length ≤ 8 ∧ cnt = nI ps.length ∧ mc = nI ps.length ∧ ∀ (i : Nat) (x : Nat × Nat), ps[i]? = some x → 1 ≤ x.1 ∧ x.1 ≤ 30 ∧ 1 ≤ x.2 ∧ x.2 ≤ 30 ∧ cells (2 * i) = nI x.1 ∧ cells (2 * i + 1) = nI x.2 ∧ a i = nI x.2 ∧ b i = nI x.1
def r_key (cnt : Int32) (cells : Nat → Int32) (mc : Int32) (ks : Nat → Int32) : Prop :=
  ∃ ps : List (Nat × Nat), ps.length ≤ 12 ∧ cnt = nI ps.length ∧ mc = nI ps.length ∧ (∀ (i : Nat) (x : Nat × Nat), ps[i]? = some x → x.1 < 10 ∧ x.2 < 10 ∧ cells (2 * i) = nI x.1 ∧ cells (2 * i + 1) = nI x.2) ∧ ∀ c, c < 10 → ∀ t, bt (ks c) t = true ↔ (c, t) ∈ ps
def r_clu (cnt : Int32) (cells : Nat → Int32) (mc : Int32) (a b s : Nat → Int32) : Prop :=
  ∃ ps : List (Nat × Nat × Bool), ps.length ≤ 10 ∧ cnt = nI ps.length ∧ mc = nI ps.length ∧ ∀ (i : Nat) (x : Nat × Nat × Bool), ps[i]? = some x → x.1 < 8 ∧ x.2.1 < 8 ∧ cells (3 * i) = nI x.1 ∧ cells (3 * i + 1) = nI x.2.1 ∧ cells (3 * i + 2) = (if x.2.2 = true then 1 else 0) ∧ a i = nI x.1 ∧ b i = nI x.2.1 ∧ s i = (if x.2.2 = true then 1 else 0)
def r_gif (g mg : Nat → Int32) : Prop := ∀ k, k < 12 → ∃ j : Nat, j ≤ 2 ∧ g k = nI j ∧ mg k = nI j - 2
def r_mir (a b : Nat → Int32) : Prop := ∀ k, k < 36 → ∃ j : Nat, j ≤ 2 ∧ a k = nI j ∧ b k = nI j
/-- all of a house, in the class's cells c (from 2 on) and the model's m -/
def HR (c m : nM) (n q : Nat) : Prop :=
  r_stock (c 3 5) (c 3 6) (c 4) (c 5) (c 6) (c 7) (c 8) (m 107 6) (m 107 7) (m 111) (m 112) (m 113) (m 114) (m 115) n q ∧
  r_mov (c 9 5) (c 9 6) (c 9 7) (c 9 8) (c 9 9) (c 9 10) (c 9 11) (c 10) (c 11) (c 12) (c 13) (m 108) n q ∧
  r_eq 600 (c 15) (m 116) ∧
  r_law (c 16 6) (c 17) (c 18) (c 19) (c 20) (c 21) (m 119 0) (m 120) (m 121) (m 122) (m 123) (m 124) (m 125) ∧
  r_sup (c 22 3) (c 23) (m 107 37) (m 127) n q ∧ r_cus (c 24 3) (c 25) (m 107 39) (m 128) q ∧ r_lin (c 26 3) (c 27) (m 107 41) (m 129) q ∧
  r_swp (c 29 3) (c 30) (m 107 46) (m 133) (m 134) ∧ r_one 4 0 2 (c 31 3) (c 32) (m 107 49) (m 135) ∧ r_box (c 33 3) (c 34) (m 107 51) (m 136) (m 137) ∧
  r_key (c 35 3) (c 36) (m 107 55) (m 139) ∧ r_clu (c 37 3) (c 38) (m 107 65) (m 144) (m 145) (m 146) ∧ r_one 6 1 30 (c 39 3) (c 40) (m 107 70) (m 148) ∧ r_one 5 0 30 (c 41 3) (c 42) (m 107 72) (m 149) ∧
  r_gif (c 43) (m 141) ∧ r_mir (c 44) (m 143)
/-- what can be undone: the copy i of the ring -/
def p_mov (M : nM) (i : Nat) (row : Nat → Int32) (n q : Nat) : Prop := match i with
  | 0 => r_mov (M 50 5) (M 50 6) (M 50 7) (M 50 8) (M 50 9) (M 50 10) (M 50 11) (M 51) (M 52) (M 53) (M 54) row n q
  | 1 => r_mov (M 55 5) (M 55 6) (M 55 7) (M 55 8) (M 55 9) (M 55 10) (M 55 11) (M 56) (M 57) (M 58) (M 59) row n q
  | 2 => r_mov (M 60 5) (M 60 6) (M 60 7) (M 60 8) (M 60 9) (M 60 10) (M 60 11) (M 61) (M 62) (M 63) (M 64) row n q
  | 3 => r_mov (M 65 5) (M 65 6) (M 65 7) (M 65 8) (M 65 9) (M 65 10) (M 65 11) (M 66) (M 67) (M 68) (M 69) row n q
  | 4 => r_mov (M 70 5) (M 70 6) (M 70 7) (M 70 8) (M 70 9) (M 70 10) (M 70 11) (M 71) (M 72) (M 73) (M 74) row n q
  | _ => r_mov (M 75 5) (M 75 6) (M 75 7) (M 75 8) (M 75 9) (M 75 10) (M 75 11) (M 76) (M 77) (M 78) (M 79) row n q
def PR (M : nM) (n q : Nat) : Prop := ∃ k x : Nat, k ≤ 6 ∧ x < 6 ∧ M 48 2 = nI k ∧ M 48 1 = nI x ∧ M 107 3 = nI k ∧ ∀ j, j < k → p_mov M ((x + 6 - k + j) % 6) (fun z => M 109 (100 * j + z)) n q
/-- the tape and the fault -/
def r_tape (l : Int32) (t : Nat → Int32) (ml : Int32) (mt : Nat → Int32) : Prop := ∃ k : Nat, k ≤ 400 ∧ l = nI k ∧ ml = nI k ∧ ∀ i, i < k → ∃ b : Nat, b < 256 ∧ t i = (nI b).toInt8.toInt32 ∧ mt i = nI b
def RD (M : nM) : Prop := r_tape (M 80 9) (M 81) (M 107 15) (M 117) ∧ M 80 10 = M 107 35 ∧ M 80 11 = M 107 36
/-- widths and heights of tables, and who is in thought -/
def r_wm (w h : Int32) (W H : Nat) : Prop := w = nI W ∧ h = nI H
def CK (M : nM) : Prop := M 9 0 = 0 ∧ M 93 0 = 1 ∧ r_wm (M 14 1) (M 14 2) 4 150 ∧ r_wm (M 22 1) (M 22 2) 4 16 ∧ r_wm (M 24 1) (M 24 2) 4 16 ∧ r_wm (M 26 1) (M 26 2) 4 16 ∧ r_wm (M 29 1) (M 29 2) 2 16 ∧ r_wm (M 31 1) (M 31 2) 1 4 ∧ r_wm (M 33 1) (M 33 2) 2 8 ∧ r_wm (M 35 1) (M 35 2) 2 12 ∧ r_wm (M 37 1) (M 37 2) 3 10 ∧ r_wm (M 39 1) (M 39 2) 1 6 ∧ r_wm (M 41 1) (M 41 2) 1 5 ∧ r_wm (M 91 1) (M 91 2) 4 16 ∧ M 107 5 = 0
/-- the model's words -/
def n_mw : List Nat := [32, 112, 97, 108, 109, 115, 32, 102, 97, 114, 32, 102, 105, 110, 100, 115, 32, 119, 104, 101, 110, 32, 111, 114, 32, 97, 110, 100, 32, 110, 111, 116, 32, 115, 108, 101, 105, 103, 104, 116, 32, 119, 105, 116, 115, 32, 115, 105, 122, 101, 32, 119, 111, 114, 116, 104, 32, 112, 108, 97, 99, 101, 32, 102, 117, 108, 108, 32, 108, 111, 99, 107, 32, 109, 111, 118, 101, 100, 32, 108, 111, 115, 116, 32, 112, 97, 108, 109, 101, 100, 32, 104, 111, 117, 114, 32, 97, 116, 32, 112, 101, 114, 115, 111, 110, 32, 112, 117, 116, 115, 32, 105, 110, 32, 116, 105, 101, 32, 108, 111, 111, 115, 101, 32, 111, 112, 101, 110, 32, 115, 101, 97, 114, 99, 104, 32, 99, 104, 105, 108, 100, 32, 111, 102, 32]
/-- what the image of the model holds, as if it stood in its cells -/
def iv (I : Nat → Int32) : nM := fun c k => match c with
  | 108 => I k
  | 107 => (match k with
    | 6 => I 100
    | 7 => I 101
    | 37 => I 102
    | 39 => I 103
    | 41 => I 104
    | 46 => I 105
    | 49 => I 106
    | 51 => I 107
    | 55 => I 108
    | 65 => I 109
    | 70 => I 110
    | _ => I 111)
  | 112 => I (112 + 4 * k)
  | 113 => I (113 + 4 * k)
  | 133 => I (114 + 4 * k)
  | 134 => I (115 + 4 * k)
  | 111 => I (176 + 5 * k)
  | 114 => I (177 + 5 * k)
  | 115 => I (178 + 5 * k)
  | 129 => I (179 + 5 * k)
  | 141 => I (180 + 5 * k)
  | 135 => I (236 + k)
  | 136 => I (240 + 2 * k)
  | 137 => I (241 + 2 * k)
  | 139 => I (256 + 4 * k)
  | 144 => I (257 + 4 * k)
  | 145 => I (258 + 4 * k)
  | 146 => I (259 + 4 * k)
  | 143 => I (296 + k)
  | 148 => I (332 + k)
  | 149 => I (338 + k)
  | 127 => I (343 + k)
  | 128 => I (407 + k)
  | 116 => I (471 + k)
  | 119 => I 1071
  | 120 => I (1072 + 4 * k)
  | 121 => I (1073 + 4 * k)
  | 122 => I (1074 + 4 * k)
  | 123 => I (1075 + 4 * k)
  | 124 => I (1136 + 2 * k)
  | _ => I (1137 + 2 * k)
/-- the layout of the house that image() keeps -/
def n_GK (G : nG) : Prop := ∀ a, 2 ≤ a → a < 45 → n_kd G (a + 150) = n_nN n_kdL a 99 ∧ n_len G (a + 150) = n_nN n_lenL a 0 ∧ ∀ k, n_mr G (a + 150) k = (if n_nN (n_nL n_mrL a) k 0 = 0 then 0 else n_nN (n_nL n_mrL a) k 0 + 150)
def IM (G : nG) (M : nM) : Prop := (n_n G = 151 ∧ n_sl G ≤ 100000 ∧ n_mr G 1 7 = 0 ∧ M 107 76 = 0) ∨ (n_n G ≤ 200 ∧ n_sl G ≤ 200000 ∧ n_mr G 1 7 = 152 ∧ n_GK G ∧ M 107 76 = 1 ∧ ∃ n q : Nat, HR (fun a => M (a + 150)) (iv (M 151)) n q)
/-- class and model are in the same state -/
def Rel (G : nG) (M : nM) (n q : Nat) : Prop := HR M M n q ∧ PR M n q ∧ RD M ∧ CK M ∧ (∀ k, k < 145 → M 118 k = nI (n_mw.getD k 0)) ∧ IM G M
def Stq (G : nG) (f1 f2 : nM → Option (Int32 × nM)) (M : nM) : Prop := wp (f1 M) (fun v M1 => wp (f2 M1) (fun u M2 => v = u ∧ ∃ n q : Nat, Rel G M2 n q))
