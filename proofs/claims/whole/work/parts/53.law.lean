/-! ===== a law's code run: class and model ===== -/
def l_two (o : Nat) (a b : Int32) : Int32 :=
  if o = 4 then a + b else if o = 5 then a - b else if o = 6 then a * b else if o = 7 then (if b ≤ a then 0 else 1) else if o = 8 then (if ¬ a = b then 0 else 1) else if o = 9 then (if a ≤ b then 0 else 1) else if o = 10 then a &&& b else a ||| b
def l_ev (F : Nat → Int32) : List lOp → List Int32 → List Int32
  | [], st => st
  | (o, v) :: t, st =>
    if o = 0 then l_ev F t (nI v :: st)
    else if o = 1 then l_ev F t (F v :: st)
    else if o = 2 then (match st with
      | a :: r => l_ev F t (a / nI v :: r)
      | _ => [])
    else if o = 3 then (match st with
      | a :: r => l_ev F t ((1 - a) :: r)
      | _ => [])
    else (match st with
      | b :: a :: r => l_ev F t (l_two o a b :: r)
      | _ => [])
/-- the stack's values have their kinds -/
def l_tk : List Bool → List Int32 → Prop
  | [], [] => True
  | b :: t, x :: s => (b = true → x = 0 ∨ x = 1) ∧ l_tk t s
  | _, _ => False
/-- the row S holds the stack, its top last -/
def l_st (S : Nat → Int32) : List Int32 → Prop
  | [] => True
  | x :: t => S t.length = x ∧ l_st S t
theorem l_st_upd {S : Nat → Int32} {k : Nat} {v : Int32} : ∀ {st : List Int32}, st.length ≤ k → l_st S st → l_st (upd S k v) st
  | [], _, _ => trivial
  | x :: t, h, ⟨h1, h2⟩ => by
    rw [List.length_cons] at h
    exact ⟨by rw [upd_ne (by omega)]; exact h1, l_st_upd (by omega) h2⟩
theorem l_two_b {o : Nat} {a b : Int32} (h7 : 7 ≤ o) (ha : 10 ≤ o → (a = 0 ∨ a = 1) ∧ (b = 0 ∨ b = 1)) : l_two o a b = 0 ∨ l_two o a b = 1 := by
  unfold l_two
  rw [if_neg (by omega), if_neg (by omega), if_neg (by omega)]
  by_cases h1 : o = 7
  · rw [if_pos h1]; split <;> simp
  · rw [if_neg h1]
    by_cases h2 : o = 8
    · rw [if_pos h2]; split <;> simp
    · rw [if_neg h2]
      by_cases h3 : o = 9
      · rw [if_pos h3]; split <;> simp
      · rw [if_neg h3]
        obtain ⟨g1, g2⟩ := ha (by omega)
        rcases g1 with rfl | rfl <;> rcases g2 with rfl | rfl <;> (split <;> decide)
theorem e_ofTwo {o : Nat} (h4 : 4 ≤ o) (h11 : o ≤ 11) (a b : Int32) (M : nM) : fX3_ofTwo (nI o) a b M = some (l_two o a b, M) := by
  unfold fX3_ofTwo l_two
  rcases (show o = 4 ∨ o = 5 ∨ o = 6 ∨ o = 7 ∨ o = 8 ∨ o = 9 ∨ o = 10 ∨ o = 11 by omega) with rfl | rfl | rfl | rfl | rfl | rfl | rfl | rfl
  · rfl
  · rfl
  · rfl
  · show (if b ≤ a then some ((0 : Int32), M) else some (1, M)) = some ((if b ≤ a then 0 else 1), M)
    split <;> rfl
  · show (if ¬ a = b then some ((0 : Int32), M) else some (1, M)) = some ((if ¬ a = b then 0 else 1), M)
    split <;> rfl
  · show (if a ≤ b then some ((0 : Int32), M) else some (1, M)) = some ((if a ≤ b then 0 else 1), M)
    split <;> rfl
  · rfl
  · rfl
/-- the model's number for a code -/
def l_mo (o : Nat) : Nat := match o with
    | 0 => 0
    | 1 => 1
    | 3 => 9
    | 4 => 2
    | 5 => 3
    | 6 => 4
    | 7 => 6
    | 8 => 7
    | 9 => 8
    | 10 => 10
    | _ => 11
theorem e_twoOf {o : Nat} (h4 : 4 ≤ o) (h11 : o ≤ 11) (a b : Int32) (ha : 10 ≤ o → (a = 0 ∨ a = 1) ∧ (b = 0 ∨ b = 1)) (M : nM) : fX12_twoOf (nI (l_mo o)) a b M = some (l_two o a b, M) := by
  unfold fX12_twoOf l_two l_mo
  rcases (show o = 4 ∨ o = 5 ∨ o = 6 ∨ o = 7 ∨ o = 8 ∨ o = 9 ∨ o = 10 ∨ o = 11 by omega) with rfl | rfl | rfl | rfl | rfl | rfl | rfl | rfl
  · rfl
  · rfl
  · rfl
  · show (if b ≤ a then some ((0 : Int32), M) else some (1, M)) = some ((if b ≤ a then 0 else 1), M)
    split <;> rfl
  · show (if ¬ a = b then some ((0 : Int32), M) else some (1, M)) = some ((if ¬ a = b then 0 else 1), M)
    split <;> rfl
  · show (if a ≤ b then some ((0 : Int32), M) else some (1, M)) = some ((if a ≤ b then 0 else 1), M)
    split <;> rfl
  · obtain ⟨g1, g2⟩ := ha (by omega)
    rcases g1 with rfl | rfl <;> rcases g2 with rfl | rfl <;> rfl
  · obtain ⟨g1, g2⟩ := ha (by omega)
    rcases g1 with rfl | rfl <;> rcases g2 with rfl | rfl <;> rfl
theorem e_div (v : Nat) (hv : 0 < v) (hv2 : v < 10000) (a : Int32) (M : nM) : fX3_ofOne (nI 2) a (nI v) M = some (a / nI v, M) := by
  unfold fX3_ofOne
  rw [if_pos (show ¬ nI 2 = (3 : Int32) by decide), if_pos (nI_ne0 hv (by omega)), if_neg (nI_ne0 hv (by omega))]
theorem e_not (v : Int32) (a : Int32) (M : nM) : fX3_ofOne (nI 3) a v M = some (1 - a, M) := rfl
theorem d_lo {o v : Nat} (ho : o < 16) (hv : v < 10000) : nI (16 * v + o) &&& (15 : Int32) = nI o := by
  rw [pk_andN (by omega) 4 (by decide)]
  congr 1
  omega
theorem d_hi {o v : Nat} (ho : o < 16) (hv : v < 10000) : nI (16 * v + o) >>> ((4 : Int32) &&& 31) = nI v := by
  rw [pk_shrN (by omega) _ 4 (by decide)]
  congr 1
  omega
theorem l_m1 (d : Nat) : nI (d + 1) + (-1 : Int32) = nI d := pk_m1 d
theorem n_chk_t {α : Type} {x : Option α} : n_chk true x = x := rfl
/-- the body of the class's run, in pieces -/
def rB3 (N f : Nat) (E pos v5 : Int32) (p6 : Int32 × nM) : Option (Int32 × nM) := n_chk (n_ib 48 (v5 - (1 : Int32))) (fX3_run_10 N f E v5 (pos + (1 : Int32)) (n_up p6.2 47 (v5 - (1 : Int32)).toNatClampNeg p6.1))
def rB2 (N f : Nat) (E pos v1 v5 : Int32) (M : nM) : Option (Int32 × nM) := n_chk (n_ib 48 (v5 - (1 : Int32))) (n_chk (n_ib 48 v5) ((fX3_ofTwo v1 (M 47 (v5 - (1 : Int32)).toNatClampNeg) (M 47 v5.toNatClampNeg) M).bind (rB3 N f E pos v5)))
def rB4 (N f : Nat) (E d pos : Int32) (p11 : Int32 × nM) : Option (Int32 × nM) := n_chk (n_ib 48 (d - (1 : Int32))) (fX3_run_10 N f E d (pos + (1 : Int32)) (n_up p11.2 47 (d - (1 : Int32)).toNatClampNeg p11.1))
def rB5 (N f : Nat) (E d pos : Int32) (p15 : Int32 × nM) : Option (Int32 × nM) := n_chk (n_ib 48 d) (fX3_run_10 N f E (d + (1 : Int32)) (pos + (1 : Int32)) (n_up p15.2 47 d.toNatClampNeg p15.1))
def rB (N f : Nat) (E d pos v1 v2 : Int32) (M : nM) : Option (Int32 × nM) :=
  if (1 : Int32) < v1 then
    if (3 : Int32) < v1 then
      if d < (2 : Int32) then fX3_run_10 N f E d (pos + (1 : Int32)) M
      else if (Int32.ofNat 48) < d then fX3_run_10 N f E d (pos + (1 : Int32)) M
      else rB2 N f E pos v1 (d + (-1 : Int32)) M
    else
      if d < (1 : Int32) then fX3_run_10 N f E d (pos + (1 : Int32)) M
      else if (Int32.ofNat 48) < d then fX3_run_10 N f E d (pos + (1 : Int32)) M
      else n_chk (n_ib 48 (d - (1 : Int32))) ((fX3_ofOne v1 (M 47 (d - (1 : Int32)).toNatClampNeg) v2 M).bind (rB4 N f E d pos))
  else
    if (Int32.ofNat 48) ≤ d then fX3_run_10 N f E d (pos + (1 : Int32)) M
    else
      if ¬ v1 = 0 then (fX3_factOf v2 M).bind (rB5 N f E d pos)
      else n_chk (n_ib 48 d) (fX3_run_10 N f E (d + (1 : Int32)) (pos + (1 : Int32)) (n_up M 47 d.toNatClampNeg v2))
theorem rB_eq (N f : Nat) (E d pos : Int32) (M : nM) : fX3_run_10 N (f + 1) E d pos M = if E ≤ pos then fX3_run_179 N d M else if (400 : Int32) ≤ pos then fX3_run_179 N d M else n_chk (n_ib 400 pos) (n_chk (n_ib 400 pos) (rB N f E d pos (M 17 pos.toNatClampNeg &&& (15 : Int32)) (M 17 pos.toNatClampNeg >>> ((4 : Int32) &&& 31)) M)) := rfl
theorem r_step {N f E d pos o v : Nat} {M : nM} {S : Nat → Int32} (hE : pos < E) (hE2 : E ≤ 400) (ho : o < 16) (hv : v < 10000) (hx : M 17 pos = nI (16 * v + o)) : fX3_run_10 N (f + 1) (nI E) (nI d) (nI pos) (n_set M 47 S) = rB N f (nI E) (nI d) (nI pos) (nI o) (nI v) (n_set M 47 S) := by
  have hS17 : n_set M 47 S 17 pos = nI (16 * v + o) := by rw [n_set_ne (by decide)]; exact hx
  rw [rB_eq, if_neg (nI_ge hE (by omega)), if_neg (show ¬ (400 : Int32) ≤ nI pos from nI_ge (b := 400) (by omega) (by decide)), n_ib_nI (show pos < 400 by omega) (by decide), n_chk_t, n_chk_t, nI_clamp (show pos < 2 ^ 31 by omega), hS17, d_lo ho hv, d_hi ho hv]
theorem r_push {N f E d pos v : Nat} {M : nM} {S : Nat → Int32} (hE : pos < E) (hE2 : E ≤ 400) (hv : v < 10000) (hx : M 17 pos = nI (16 * v + 0)) (hd : d < 48) : fX3_run_10 N (f + 1) (nI E) (nI d) (nI pos) (n_set M 47 S) = fX3_run_10 N f (nI E) (nI (d + 1)) (nI (pos + 1)) (n_set M 47 (upd S d (nI v))) := by
  rw [r_step hE hE2 (by decide) hv hx, rB, if_neg (show ¬ (1 : Int32) < nI 0 by decide), if_neg (show ¬ Int32.ofNat 48 ≤ nI d from nI_ge (b := 48) hd (by decide)), if_neg (show ¬ ¬ nI 0 = (0 : Int32) from not_not_intro rfl), n_ib_nI hd (by decide), n_chk_t, nI_clamp (by omega), n_up_set, nI_1, nI_1]
theorem r_fact {N f E d pos v : Nat} {M : nM} {S : Nat → Int32} (hE : pos < E) (hE2 : E ≤ 400) (hv : v < 11) (hx : M 17 pos = nI (16 * v + 1)) (hd : d < 48) : fX3_run_10 N (f + 1) (nI E) (nI d) (nI pos) (n_set M 47 S) = fX3_run_10 N f (nI E) (nI (d + 1)) (nI (pos + 1)) (n_set M 47 (upd S d (M 46 v))) := by
  have ef : fX3_factOf (nI v) (n_set M 47 S) = some (M 46 v, n_set M 47 S) := by
    unfold fX3_factOf
    rw [if_neg (nI_pos (by omega)), if_neg (show ¬ Int32.ofNat 11 ≤ nI v from nI_ge (b := 11) hv (by decide)), n_ib_nI hv (by decide), n_chk_t, nI_clamp (by omega), n_set_ne (by decide)]
  rw [r_step hE hE2 (by decide) (by omega) hx, rB, if_neg (show ¬ (1 : Int32) < nI 1 by decide), if_neg (show ¬ Int32.ofNat 48 ≤ nI d from nI_ge (b := 48) hd (by decide)), if_pos (show ¬ nI 1 = (0 : Int32) by decide), ef, Option.bind_some, rB5, n_ib_nI hd (by decide), n_chk_t, nI_clamp (by omega), n_up_set, nI_1, nI_1]
theorem r_oneC {N f E d pos o v : Nat} {M : nM} {S : Nat → Int32} {z : Int32} (hE : pos < E) (hE2 : E ≤ 400) (ho : o = 2 ∨ o = 3) (hv : v < 10000) (hx : M 17 pos = nI (16 * v + o)) (hd : d < 48) (hz : ∀ M, fX3_ofOne (nI o) (S d) (nI v) M = some (z, M)) : fX3_run_10 N (f + 1) (nI E) (nI (d + 1)) (nI pos) (n_set M 47 S) = fX3_run_10 N f (nI E) (nI (d + 1)) (nI (pos + 1)) (n_set M 47 (upd S d z)) := by
  have e1 : nI (d + 1) - 1 = nI d := nI_pred _
  rw [r_step hE hE2 (by omega) hv hx, rB, if_pos (show (1 : Int32) < nI o from nI_lt (a := 1) (by omega) (by omega)), if_neg (show ¬ (3 : Int32) < nI o from nI_nlt (a := 3) (by omega) (by decide)), if_neg (show ¬ nI (d + 1) < (1 : Int32) from nI_nlt (b := 1) (by omega) (by omega)), if_neg (show ¬ Int32.ofNat 48 < nI (d + 1) from nI_nlt (a := 48) (by omega) (by decide)), e1, n_ib_nI hd (by decide), n_chk_t, nI_clamp (by omega), n_set_eq, hz, Option.bind_some, rB4, e1, n_ib_nI hd (by decide), n_chk_t, nI_clamp (by omega), n_up_set, nI_1]
theorem r_two {N f E d pos o : Nat} {M : nM} {S : Nat → Int32} (hE : pos < E) (hE2 : E ≤ 400) (h4 : 4 ≤ o) (h11 : o ≤ 11) (hx : M 17 pos = nI (16 * 0 + o)) (hd : d + 1 < 48) : fX3_run_10 N (f + 1) (nI E) (nI (d + 2)) (nI pos) (n_set M 47 S) = fX3_run_10 N f (nI E) (nI (d + 1)) (nI (pos + 1)) (n_set M 47 (upd S d (l_two o (S d) (S (d + 1))))) := by
  have e0 : nI (d + 2) + (-1 : Int32) = nI (d + 1) := pk_m1 (d + 1)
  have e1 : nI (d + 1) - 1 = nI d := nI_pred _
  rw [r_step hE hE2 (by omega) (by decide) hx, rB, if_pos (show (1 : Int32) < nI o from nI_lt (a := 1) (by omega) (by omega)), if_pos (show (3 : Int32) < nI o from nI_lt (a := 3) (by omega) (by omega)), if_neg (show ¬ nI (d + 2) < (2 : Int32) from nI_nlt (b := 2) (by omega) (by omega)), if_neg (show ¬ Int32.ofNat 48 < nI (d + 2) from nI_nlt (a := 48) (by omega) (by decide)), e0, rB2, e1, n_ib_nI (show d < 48 by omega) (by decide), n_chk_t, n_ib_nI hd (by decide), n_chk_t, nI_clamp (show d < 2 ^ 31 by omega), nI_clamp (show d + 1 < 2 ^ 31 by omega), n_set_eq, e_ofTwo h4 h11, Option.bind_some, rB3, e1, n_ib_nI (show d < 48 by omega) (by decide), n_chk_t, nI_clamp (show d < 2 ^ 31 by omega), n_up_set, nI_1]
/-- one code's kinds and value -/
theorem l_tk2 {b1 b2 : Bool} {r : List Bool} {st : List Int32} (h : l_tk (b1 :: b2 :: r) st) : ∃ (b a : Int32) (s : List Int32), st = b :: a :: s ∧ (b1 = true → b = 0 ∨ b = 1) ∧ (b2 = true → a = 0 ∨ a = 1) ∧ l_tk r s := by
  match st, h with
  | b :: a :: s, h => exact ⟨b, a, s, rfl, h.1, h.2.1, h.2.2⟩
  | [_], h => exact absurd h.2 (fun z => z)
  | [], h => exact absurd h (fun z => z)
theorem l_tk1 {b1 : Bool} {r : List Bool} {st : List Int32} (h : l_tk (b1 :: r) st) : ∃ (b : Int32) (s : List Int32), st = b :: s ∧ (b1 = true → b = 0 ∨ b = 1) ∧ l_tk r s := by
  match st, h with
  | b :: s, h => exact ⟨b, s, rfl, h.1, h.2⟩
  | [], h => exact absurd h (fun z => z)
/-- what the kinds say of a code, case by case -/
theorem l_ty_x {o v : Nat} {t : List lOp} {ts tf : List Bool} (h : l_ty ((o, v) :: t) ts = some tf) :
    (o = 0 ∧ v < 10000 ∧ l_ty t (false :: ts) = some tf) ∨ (o = 1 ∧ v < 11 ∧ l_ty t (false :: ts) = some tf) ∨ (o = 2 ∧ 0 < v ∧ v < 10000 ∧ ∃ r, ts = false :: r ∧ l_ty t (false :: r) = some tf) ∨
    (o = 3 ∧ v = 0 ∧ ∃ r, ts = true :: r ∧ l_ty t (true :: r) = some tf) ∨ (4 ≤ o ∧ o ≤ 11 ∧ v = 0 ∧ ∃ (b1 b2 b3 : Bool) (r : List Bool), ts = b1 :: b2 :: r ∧ l_ty t (b3 :: r) = some tf ∧ (b3 = true → 7 ≤ o) ∧ (10 ≤ o → b1 = true ∧ b2 = true)) := by
  unfold l_ty at h
  by_cases h0 : o = 0
  · rw [if_pos h0] at h
    by_cases hv : v < 10000
    · rw [if_pos hv] at h; exact Or.inl ⟨h0, hv, h⟩
    · rw [if_neg hv] at h; cases h
  rw [if_neg h0] at h
  by_cases h1 : o = 1
  · rw [if_pos h1] at h
    by_cases hv : v < 11
    · rw [if_pos hv] at h; exact Or.inr (Or.inl ⟨h1, hv, h⟩)
    · rw [if_neg hv] at h; cases h
  rw [if_neg h1] at h
  by_cases h2 : o = 2
  · rw [if_pos h2] at h
    split at h
    · rename_i r
      by_cases hv : 0 < v ∧ v < 10000
      · rw [if_pos hv] at h; exact Or.inr (Or.inr (Or.inl ⟨h2, hv.1, hv.2, r, rfl, h⟩))
      · rw [if_neg hv] at h; cases h
    · cases h
  rw [if_neg h2] at h
  by_cases hv : v = 0
  · rw [if_pos hv] at h
    by_cases h3 : o = 3
    · rw [if_pos h3] at h
      split at h
      · rename_i r
        exact Or.inr (Or.inr (Or.inr (Or.inl ⟨h3, hv, r, rfl, h⟩)))
      · cases h
    rw [if_neg h3] at h
    by_cases h6 : o ≤ 6
    · rw [if_pos h6] at h
      split at h
      · rename_i r
        exact Or.inr (Or.inr (Or.inr (Or.inr ⟨by omega, by omega, hv, false, false, false, r, rfl, h, fun z => (by cases z), fun z => absurd z (by omega)⟩)))
      · cases h
    rw [if_neg h6] at h
    by_cases h9 : o ≤ 9
    · rw [if_pos h9] at h
      split at h
      · rename_i r
        exact Or.inr (Or.inr (Or.inr (Or.inr ⟨by omega, by omega, hv, false, false, true, r, rfl, h, fun z => by omega, fun z => absurd z (by omega)⟩)))
      · cases h
    rw [if_neg h9] at h
    by_cases h11 : o ≤ 11
    · rw [if_pos h11] at h
      split at h
      · rename_i r
        exact Or.inr (Or.inr (Or.inr (Or.inr ⟨by omega, by omega, hv, true, true, true, r, rfl, h, fun z => by omega, fun z => ⟨rfl, rfl⟩⟩)))
      · cases h
    rw [if_neg h11] at h
    cases h
  · rw [if_neg hv] at h; cases h
theorem l_ev_two {F : Nat → Int32} {o v : Nat} {t : List lOp} {b a : Int32} {s : List Int32} (h : 4 ≤ o) : l_ev F ((o, v) :: t) (b :: a :: s) = l_ev F t (l_two o a b :: s) := by
  conv => lhs; unfold l_ev
  rw [if_neg (by omega), if_neg (by omega), if_neg (by omega), if_neg (by omega)]
/-- the class's run -/
theorem e_runC {N : Nat} {F : Nat → Int32} : ∀ (c : List lOp) (st : List Int32) (ts tf : List Bool) (pos f : Nat) (M : nM) (S : Nat → Int32), l_ty c ts = some tf → l_tk ts st → l_dp c st.length 48 → (∀ (k : Nat) (x : lOp), c[k]? = some x → M 17 (pos + k) = l_enc x) → pos + c.length ≤ 400 → l_st S st → c.length < f → (∀ v, v < 11 → M 46 v = F v) → st.length ≤ 48 →
    ∃ S' : Nat → Int32, l_st S' (l_ev F c st) ∧ l_tk tf (l_ev F c st) ∧ fX3_run_10 N f (nI (pos + c.length)) (nI st.length) (nI pos) (n_set M 47 S) = fX3_run_179 N (nI (l_ev F c st).length) (n_set M 47 S') := by
  intro c
  induction c with
  | nil =>
    intro st ts tf pos f M S hty htk hdp hat hle hst hf hF h48
    obtain ⟨f, rfl⟩ : ∃ g, f = g + 1 := ⟨f - 1, by omega⟩
    cases hty
    refine ⟨S, hst, htk, ?_⟩
    have hle2 : pos ≤ 400 := hle
    unfold fX3_run_10
    exact if_pos (nI_le (Nat.le_refl pos) (by omega))
  | cons x t ih =>
    intro st ts tf pos f M S hty htk hdp hat hle hst hf hF h48
    obtain ⟨f, rfl⟩ : ∃ g, f = g + 1 := ⟨f - 1, by omega⟩
    obtain ⟨o, v⟩ := x
    rw [List.length_cons] at hle hf
    have hx : M 17 pos = nI (16 * v + o) := hat 0 (o, v) rfl
    have hat' : ∀ (k : Nat) (x : lOp), t[k]? = some x → M 17 (pos + 1 + k) = l_enc x := fun k x hk => by
      have := hat (k + 1) x hk
      rw [show pos + 1 + k = pos + (k + 1) by omega]
      exact this
    rw [show pos + ((o, v) :: t).length = pos + 1 + t.length by rw [List.length_cons]; omega]
    unfold l_dp at hdp
    rcases l_ty_x hty with ⟨rfl, hv, hty2⟩ | ⟨rfl, hv, hty2⟩ | ⟨rfl, hv0, hv, r, rfl, hty2⟩ | ⟨rfl, rfl, r, rfl, hty2⟩ | ⟨h4, h11, rfl, b1, b2, b3, r, rfl, hty2, hb7, hb10⟩
    · rw [if_pos (by decide)] at hdp
      obtain ⟨S', s1, s2, s3⟩ := ih (nI v :: st) (false :: ts) tf (pos + 1) f M (upd S st.length (nI v)) hty2 ⟨fun z => (by cases z), htk⟩ hdp.2 hat' (by omega) ⟨upd_eq, l_st_upd (Nat.le_refl _) hst⟩ (by omega) hF hdp.1
      exact ⟨S', s1, s2, (r_push (by omega) (by omega) hv hx (by omega)).trans s3⟩
    · rw [if_pos (by decide)] at hdp
      obtain ⟨S', s1, s2, s3⟩ := ih (F v :: st) (false :: ts) tf (pos + 1) f M (upd S st.length (F v)) hty2 ⟨fun z => (by cases z), htk⟩ hdp.2 hat' (by omega) ⟨upd_eq, l_st_upd (Nat.le_refl _) hst⟩ (by omega) hF hdp.1
      refine ⟨S', s1, s2, (r_fact (by omega) (by omega) hv hx (by omega)).trans ?_⟩
      rw [hF v hv]
      exact s3
    · rw [if_neg (by decide), if_pos (by decide)] at hdp
      obtain ⟨a, s, rfl, h1, h2⟩ := l_tk1 htk
      rw [List.length_cons] at hdp h48
      obtain ⟨S', s1, s2, s3⟩ := ih (a / nI v :: s) (false :: r) tf (pos + 1) f M (upd S s.length (a / nI v)) hty2 ⟨fun z => (by cases z), h2⟩ hdp hat' (by omega) ⟨upd_eq, l_st_upd (Nat.le_refl _) hst.2⟩ (by omega) hF h48
      exact ⟨S', s1, s2, (r_oneC (by omega) (by omega) (Or.inl rfl) hv hx (by omega) (fun M => by rw [hst.1]; exact e_div v hv0 hv a M)).trans s3⟩
    · rw [if_neg (by decide), if_pos (by decide)] at hdp
      obtain ⟨a, s, rfl, h1, h2⟩ := l_tk1 htk
      rw [List.length_cons] at hdp h48
      obtain ⟨S', s1, s2, s3⟩ := ih ((1 - a) :: s) (true :: r) tf (pos + 1) f M (upd S s.length (1 - a)) hty2 ⟨fun z => (by rcases h1 z with rfl | rfl <;> decide), h2⟩ hdp hat' (by omega) ⟨upd_eq, l_st_upd (Nat.le_refl _) hst.2⟩ (by omega) hF h48
      exact ⟨S', s1, s2, (r_oneC (by omega) (by omega) (Or.inr rfl) (by decide) hx (by omega) (fun M => by rw [hst.1]; exact e_not _ a M)).trans s3⟩
    · rw [if_neg (by omega), if_neg (by omega)] at hdp
      obtain ⟨b, a, s, rfl, h1, h2, h3⟩ := l_tk2 htk
      rw [List.length_cons, List.length_cons] at hdp h48
      rw [l_ev_two h4]
      obtain ⟨S', s1, s2, s3⟩ := ih (l_two o a b :: s) (b3 :: r) tf (pos + 1) f M (upd S s.length (l_two o a b)) hty2 ⟨fun z => l_two_b (hb7 z) (fun g => ⟨h2 (hb10 g).2, h1 (hb10 g).1⟩), h3⟩ hdp hat' (by omega) ⟨upd_eq, l_st_upd (Nat.le_refl _) hst.2.2⟩ (by omega) hF (by rw [List.length_cons]; omega)
      refine ⟨S', s1, s2, (r_two (by omega) (by omega) h4 h11 hx (by omega)).trans ?_⟩
      have q1 : S (s.length + 1) = b := hst.1
      have q2 : S s.length = a := hst.2.1
      rw [q1, q2]
      exact s3
theorem e_run {N f : Nat} {F : Nat → Int32} {M : nM} {c : List lOp} {b : Bool} (hN : 1000 ≤ N) (hty : l_ty c [] = some [b]) (hdp : l_dp c 0 48) (hat : ∀ (k : Nat) (x : lOp), c[k]? = some x → M 17 (f + k) = l_enc x) (hle : f + c.length ≤ 400) (hF : ∀ v, v < 11 → M 46 v = F v) :
    ∃ S' : Nat → Int32, (b = true → (l_ev F c []).headD 0 = 0 ∨ (l_ev F c []).headD 0 = 1) ∧ fX3_run N (nI f) (nI (f + c.length)) M = some ((l_ev F c []).headD 0, n_set M 47 S') := by
  obtain ⟨S', s1, s2, s3⟩ := e_runC (N := N) (F := F) c [] [] [b] f N M (M 47) hty trivial hdp hat hle trivial (by omega) hF (by decide)
  obtain ⟨y, s, e1, e2, e3⟩ := l_tk1 s2
  have hs : s = [] := by
    cases s with
    | nil => rfl
    | cons _ _ => exact absurd e3 (fun z => z)
  subst hs
  refine ⟨S', ?_, ?_⟩
  · rw [e1]; exact e2
  · rw [n_set_self rfl, e1] at s3
    rw [e1] at s1
    unfold fX3_run
    rw [if_neg (show ¬ nI f < (0 : Int32) from nI_pos (by omega))]
    refine s3.trans ?_
    have q : S' 0 = y := s1.1
    show fX3_run_179 N (nI 1) (n_set M 47 S') = _
    unfold fX3_run_179
    rw [if_neg (show ¬ ¬ nI 1 = (1 : Int32) from not_not_intro rfl), if_neg (show ¬ Int32.ofNat 48 ≤ (0 : Int32) by decide), show n_ib 48 (0 : Int32) = true from rfl, show (0 : Int32).toNatClampNeg = 0 from rfl, n_set_eq, q, e1]
    rfl
