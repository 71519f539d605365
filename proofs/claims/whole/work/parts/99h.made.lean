/-! ===== what the constructors make, as data ===== -/
abbrev dT : Type := List (Nat × Nat × Nat × Nat × Int32)
def y_n : dT → Nat
  | [] => 0
  | (o, a, _, _, _) :: t => bif Nat.beq o 0 then a else y_n t
def y_s : dT → Nat
  | [] => 0
  | (o, _, _, l, _) :: t => bif Nat.beq o 0 then y_s t + l else y_s t
def y_k : dT → Nat → Nat
  | [], _ => 99
  | (o, b, k, _, _) :: t, a => bif Nat.beq o 0 && Nat.beq a b then k else y_k t a
def y_l : dT → Nat → Nat
  | [], _ => 0
  | (o, b, _, l, _) :: t, a => bif Nat.beq o 0 && Nat.beq a b then l else y_l t a
def y_r : dT → Nat → Nat → Nat
  | [], _, _ => 0
  | (o, b, j, v, _) :: t, a, i => bif Nat.beq o 0 && Nat.beq a b then 0 else bif Nat.beq o 1 && (Nat.beq a b && Nat.beq i j) then v else y_r t a i
def y_m : dT → Nat → Nat → Int32
  | [], _, _ => 0
  | (o, b, j, l, v) :: t, a, i => bif Nat.beq o 0 && Nat.beq a b then 0 else bif Nat.beq o 2 && (Nat.beq a b && Nat.beq i j) then v else bif Nat.beq o 3 && (Nat.beq a b && Nat.blt i l) then v else y_m t a i
def y_al (t : dT) (k l : Nat) : dT := (0, y_n t + 1, k, l, 0) :: t
def y_R (t : dT) (x j a : Nat) : dT := (1, x, j, a, 0) :: t
def y_u (t : dT) (x j : Nat) (v : Int32) : dT := (2, x, j, 0, v) :: t
def y_f (t : dT) (c l : Nat) (v : Int32) : dT := (3, c, 0, l, v) :: t
def y_Q (h : nH) (t : dT) : Prop := n_n h.1 = y_n t ∧ n_sl h.1 = y_s t ∧ (∀ a, n_kd h.1 a = y_k t a) ∧ (∀ a, n_len h.1 a = y_l t a) ∧ (∀ a i, n_mr h.1 a i = y_r t a i) ∧ ∀ a i, h.2 a i = y_m t a i
theorem y_beq (a b : Nat) : Nat.beq a b = decide (a = b) := by
  by_cases h : a = b
  · rw [decide_eq_true h, h, Nat.beq_refl]
  · rw [decide_eq_false h]
    cases e : Nat.beq a b with
    | false => rfl
    | true => exact absurd (Nat.eq_of_beq_eq_true e) h
theorem y_qal {h : nH} {t : dT} (hQ : y_Q h t) (k l : Nat) : y_Q (n_alloc h k l) (y_al t k l) := by
  obtain ⟨q1, q2, q3, q4, q5, q6⟩ := hQ
  refine ⟨?_, ?_, fun a => ?_, fun a => ?_, fun a i => ?_, fun a i => ?_⟩
  · show n_n h.1 + 1 = y_n t + 1
    rw [q1]
  · show n_sl h.1 + l = y_s t + l
    rw [q2]
  · show va_up (n_kd h.1) (n_n h.1 + 1) k a = bif true && Nat.beq a (y_n t + 1) then k else y_k t a
    rw [q1, Bool.true_and, y_beq]
    by_cases e : a = y_n t + 1
    · rw [e, va_up_self, decide_eq_true rfl]; rfl
    · rw [va_up_ne _ _ e, decide_eq_false e]; exact q3 a
  · show va_up (n_len h.1) (n_n h.1 + 1) l a = bif true && Nat.beq a (y_n t + 1) then l else y_l t a
    rw [q1, Bool.true_and, y_beq]
    by_cases e : a = y_n t + 1
    · rw [e, va_up_self, decide_eq_true rfl]; rfl
    · rw [va_up_ne _ _ e, decide_eq_false e]; exact q4 a
  · show va_up (n_mr h.1) (n_n h.1 + 1) (fun _ => 0) a i = bif true && Nat.beq a (y_n t + 1) then 0 else bif false && _ then _ else y_r t a i
    rw [q1, Bool.true_and, y_beq]
    by_cases e : a = y_n t + 1
    · rw [e, va_up_self, decide_eq_true rfl]; rfl
    · rw [va_up_ne _ _ e, decide_eq_false e]; exact q5 a i
  · show va_up h.2 (n_n h.1 + 1) (fun _ => 0) a i = bif true && Nat.beq a (y_n t + 1) then 0 else bif false && _ then _ else bif false && _ then _ else y_m t a i
    rw [q1, Bool.true_and, y_beq]
    by_cases e : a = y_n t + 1
    · rw [e, va_up_self, decide_eq_true rfl]; rfl
    · rw [va_up_ne _ _ e, decide_eq_false e]; exact q6 a i
theorem y_qR {h : nH} {t : dT} (hQ : y_Q h t) (x j v : Nat) : y_Q (n_upR h x j v) (y_R t x j v) := by
  obtain ⟨q1, q2, q3, q4, q5, q6⟩ := hQ
  refine ⟨q1, q2, q3, q4, fun a i => ?_, q6⟩
  show va_up (n_mr h.1) x (va_up (n_mr h.1 x) j v) a i = bif false && _ then _ else bif true && (Nat.beq a x && Nat.beq i j) then v else y_r t a i
  rw [Bool.true_and, y_beq, y_beq]
  by_cases e : a = x
  · rw [e, va_up_self, decide_eq_true rfl, Bool.true_and]
    by_cases e2 : i = j
    · rw [e2, va_up_self, decide_eq_true rfl]; rfl
    · rw [va_up_ne _ _ e2, decide_eq_false e2]; exact q5 x i
  · rw [va_up_ne _ _ e, decide_eq_false e]; exact q5 a i
theorem y_qu {h : nH} {t : dT} (hQ : y_Q h t) (x j : Nat) (v : Int32) : y_Q (h.1, n_up h.2 x j v) (y_u t x j v) := by
  obtain ⟨q1, q2, q3, q4, q5, q6⟩ := hQ
  refine ⟨q1, q2, q3, q4, q5, fun a i => ?_⟩
  show n_up h.2 x j v a i = bif false && _ then _ else bif true && (Nat.beq a x && Nat.beq i j) then v else bif false && _ then _ else y_m t a i
  rw [Bool.true_and, y_beq, y_beq]
  by_cases e : a = x
  · subst e
    rw [n_up_eq, decide_eq_true rfl, Bool.true_and]
    by_cases e2 : i = j
    · rw [e2, upd_eq, decide_eq_true rfl]; rfl
    · rw [upd_ne e2, decide_eq_false e2]; exact q6 a i
  · rw [n_up_ne e, decide_eq_false e]; exact q6 a i
theorem y_qf {h : nH} {t : dT} (hQ : y_Q h t) (c l : Nat) (v : Int32) : y_Q (h.1, n_set h.2 c (fun i => if 0 ≤ i ∧ i < l then v else h.2 c i)) (y_f t c l v) := by
  obtain ⟨q1, q2, q3, q4, q5, q6⟩ := hQ
  refine ⟨q1, q2, q3, q4, q5, fun a i => ?_⟩
  show n_set h.2 c (fun i => if 0 ≤ i ∧ i < l then v else h.2 c i) a i = bif false && _ then _ else bif false && _ then _ else bif true && (Nat.beq a c && Nat.blt i l) then v else y_m t a i
  rw [Bool.true_and, y_beq]
  by_cases e : a = c
  · subst e
    rw [n_set_eq, decide_eq_true rfl, Bool.true_and]
    cases e2 : Nat.blt i l with
    | true =>
      have : i < l := Nat.le_of_ble_eq_true e2
      rw [if_pos ⟨Nat.zero_le _, this⟩]; rfl
    | false =>
      have : ¬ i < l := fun z => by
        have := Nat.ble_eq_true_of_le (show i + 1 ≤ l from z)
        have e3 : Nat.blt i l = Nat.ble (i + 1) l := rfl
        rw [e3, this] at e2
        exact absurd e2 (by decide)
      rw [if_neg (fun z => this z.2)]; exact q6 a i
  · rw [n_set_ne e, decide_eq_false e]; exact q6 a i
def y_S (x : Option (Unit × nH)) (y : Option dT) : Prop := ∀ t, y = some t → ∃ h, x = some ((), h) ∧ y_Q h t
theorem y_chk {c c' : Bool} {x : Option (Unit × nH)} {y : Option dT} (hc : c' = true → c = true) (hs : y_S x y) : y_S (n_chk c x) (n_chk c' y) := fun t e => by
  cases e1 : c' with
  | false => rw [e1] at e; exact absurd (show (none : Option dT) = some t from e) (by simp)
  | true =>
    rw [e1] at e
    rw [hc e1]
    exact hs t e
def y_in (t : dT) (k a : Nat) (i : Int32) : Bool := Nat.beq (y_k t a) k && (!decide (i < 0) && Nat.blt i.toNatClampNeg (y_l t a))
theorem y_kd {h : nH} {t : dT} {a k : Nat} {x : Option (Unit × nH)} {y : Option dT} (hQ : y_Q h t) (hs : y_S x y) : y_S (n_chk (Nat.beq (n_kd h.1 a) k) x) (n_chk (Nat.beq (y_k t a) k) y) := y_chk (fun z => by rw [hQ.2.2.1]; exact z) hs
theorem y_kd2 {h : nH} {t : dT} {a k : Nat} {c : Bool} {x : Option (Unit × nH)} {y : Option dT} (hQ : y_Q h t) (hs : y_S x y) : y_S (n_chk (Nat.beq (n_kd h.1 a) k && c) x) (n_chk (Nat.beq (y_k t a) k && c) y) := y_chk (fun z => by rw [hQ.2.2.1]; exact z) hs
theorem y_lin {h : nH} {t : dT} {a k : Nat} {i : Int32} {x : Option (Unit × nH)} {y : Option dT} (hQ : y_Q h t) (hs : y_S x y) : y_S (n_chk (n_in h.1 k a i) x) (n_chk (y_in t k a i) y) := y_chk (fun z => by unfold n_in; rw [hQ.2.2.1, hQ.2.2.2.1]; exact z) hs
theorem y_lin2 {h : nH} {t : dT} {a k b k2 : Nat} {i : Int32} {x : Option (Unit × nH)} {y : Option dT} (hQ : y_Q h t) (hs : y_S x y) : y_S (n_chk (n_in h.1 k a i && Nat.beq (n_kd h.1 b) k2) x) (n_chk (y_in t k a i && Nat.beq (y_k t b) k2) y) := y_chk (fun z => by unfold n_in; rw [hQ.2.2.1, hQ.2.2.1, hQ.2.2.2.1]; exact z) hs
def y_cal (h : nH) (k l : Nat) (K : Nat → nH → Option (Unit × nH)) : Option (Unit × nH) := K (n_n h.1 + 1) (n_alloc h k l)
def z_cal (t : dT) (k l : Nat) (K : Nat → dT → Option dT) : Option dT := K (y_n t + 1) (y_al t k l)
theorem y_lal {h : nH} {t : dT} {k l : Nat} {K : Nat → nH → Option (Unit × nH)} {K' : Nat → dT → Option dT} (hQ : y_Q h t) (H : ∀ h2, y_Q h2 (y_al t k l) → y_S (K (y_n t + 1) h2) (K' (y_n t + 1) (y_al t k l))) : y_S (y_cal h k l K) (z_cal t k l K') := by
  have := H (n_alloc h k l) (y_qal hQ k l)
  unfold y_cal z_cal
  rw [hQ.1]
  exact this
def y_cR (h : nH) (x j a : Nat) (K : nH → Option (Unit × nH)) : Option (Unit × nH) := K (n_upR h x j a)
def z_cR (t : dT) (x j a : Nat) (K : dT → Option dT) : Option dT := K (y_R t x j a)
theorem y_lR {h : nH} {t : dT} {x j a : Nat} {K : nH → Option (Unit × nH)} {K' : dT → Option dT} (hQ : y_Q h t) (H : ∀ h2, y_Q h2 (y_R t x j a) → y_S (K h2) (K' (y_R t x j a))) : y_S (y_cR h x j a K) (z_cR t x j a K') := H _ (y_qR hQ x j a)
def y_cu (h : nH) (x j : Nat) (v : Int32) (K : nH → Option (Unit × nH)) : Option (Unit × nH) := K (h.1, n_up h.2 x j v)
def z_cu (t : dT) (x j : Nat) (v : Int32) (K : dT → Option dT) : Option dT := K (y_u t x j v)
theorem y_lu {h : nH} {t : dT} {x j : Nat} {v : Int32} {K : nH → Option (Unit × nH)} {K' : dT → Option dT} (hQ : y_Q h t) (H : ∀ h2, y_Q h2 (y_u t x j v) → y_S (K h2) (K' (y_u t x j v))) : y_S (y_cu h x j v K) (z_cu t x j v K') := H _ (y_qu hQ x j v)
def y_cmr (h : nH) (x j : Nat) (K : Nat → Option (Unit × nH)) : Option (Unit × nH) := K (n_mr h.1 x j)
def z_cmr (t : dT) (x j : Nat) (K : Nat → Option dT) : Option dT := K (y_r t x j)
theorem y_lmr {h : nH} {t : dT} {x j : Nat} {K : Nat → Option (Unit × nH)} {K' : Nat → Option dT} (hQ : y_Q h t) (H : y_S (K (y_r t x j)) (K' (y_r t x j))) : y_S (y_cmr h x j K) (z_cmr t x j K') := by
  unfold y_cmr z_cmr
  rw [hQ.2.2.2.2.1]
  exact H
def y_cmv (h : nH) (x j : Nat) (K : Int32 → Option (Unit × nH)) : Option (Unit × nH) := K (h.2 x j)
def z_cmv (t : dT) (x j : Nat) (K : Int32 → Option dT) : Option dT := K (y_m t x j)
theorem y_lmv {h : nH} {t : dT} {x j : Nat} {K : Int32 → Option (Unit × nH)} {K' : Int32 → Option dT} (hQ : y_Q h t) (H : y_S (K (y_m t x j)) (K' (y_m t x j))) : y_S (y_cmv h x j K) (z_cmv t x j K') := by
  unfold y_cmv z_cmv
  rw [hQ.2.2.2.2.2]
  exact H
def y_cbd (x : Option (Unit × nH)) (K : nH → Option (Unit × nH)) : Option (Unit × nH) := x.bind fun p => K p.2
def z_cbd (x : Option dT) (K : dT → Option dT) : Option dT := x.bind K
theorem y_lbd {x : Option (Unit × nH)} {y : Option dT} {K : nH → Option (Unit × nH)} {K' : dT → Option dT} (hs : y_S x y) (H : ∀ h t, y_Q h t → y_S (K h) (K' t)) : y_S (y_cbd x K) (z_cbd y K') := fun t e => by
  obtain ⟨u, u1, u2⟩ := Option.bind_eq_some_iff.mp (show y.bind K' = some t from e)
  obtain ⟨h, h1, h2⟩ := hs u u1
  unfold y_cbd
  rw [h1, Option.bind_some]
  exact H h u h2 t u2
def y_cfi (N : Nat) (h : nH) (a : Nat) (v : Int32) (K : nH → Option (Unit × nH)) : Option (Unit × nH) := (fJ7_fill_53178 N h.1 a v h.2).bind fun p => K (h.1, p.2)
def z_cfi (t : dT) (a : Nat) (v : Int32) (K : dT → Option dT) : Option dT := n_chk (Nat.beq (y_k t a) 14 && Nat.blt (y_l t a) 1000) (K (y_f t a (y_l t a) v))
theorem y_lfi {N : Nat} {h : nH} {t : dT} {a : Nat} {v : Int32} {K : nH → Option (Unit × nH)} {K' : dT → Option dT} (hN : 1000 ≤ N) (hQ : y_Q h t) (H : ∀ h2, y_Q h2 (y_f t a (y_l t a) v) → y_S (K h2) (K' (y_f t a (y_l t a) v))) : y_S (y_cfi N h a v K) (z_cfi t a v K') := fun t2 e => by
  unfold z_cfi at e
  cases e1 : (Nat.beq (y_k t a) 14 && Nat.blt (y_l t a) 1000) with
  | false => rw [e1] at e; exact absurd (show (none : Option dT) = some t2 from e) (by simp)
  | true =>
    rw [e1, n_chk_t] at e
    rw [Bool.and_eq_true] at e1
    have k1 : n_kd h.1 a = 14 := by rw [hQ.2.2.1]; exact Nat.eq_of_beq_eq_true e1.1
    have k2 : n_len h.1 a = y_l t a := hQ.2.2.2.1 a
    have k3 : y_l t a < 1000 := Nat.le_of_ble_eq_true e1.2
    unfold y_cfi
    rw [e_fill k1 k2 k3 hN h.2, Option.bind_some]
    exact H _ (y_qf hQ a (y_l t a) v) t2 e
theorem y_some {h : nH} {t : dT} (hQ : y_Q h t) : y_S (some ((), h)) (some t) := fun u e => ⟨h, rfl, by rw [← Option.some.inj e]; exact hQ⟩
theorem vyX8_init (N : Nat) (x0 : Nat) (hh : nH) : fX8_init N x0 hh = n_chk (Nat.blt 0 x0 && true) (n_chk (!decide ((12 : Int32) < 0) && Nat.ble ((12 : Int32).toNatClampNeg * 4) 536870912) (y_cal hh 14 (12 : Int32).toNatClampNeg (fun a1 h2 => n_chk (Nat.beq (n_kd h2.1 x0) 8) (y_cR h2 x0 0 a1 (fun h3 => n_chk (!decide ((16 : Int32) < 0) && Nat.ble ((16 : Int32).toNatClampNeg * 4) 536870912) (y_cal h3 14 (16 : Int32).toNatClampNeg (fun a4 h5 => n_chk (Nat.beq (n_kd h5.1 x0) 8) (y_cR h5 x0 1 a4 (fun h6 => n_chk (!decide ((16 : Int32) < 0) && Nat.ble ((16 : Int32).toNatClampNeg * 4) 536870912) (y_cal h6 14 (16 : Int32).toNatClampNeg (fun a7 h8 => n_chk (Nat.beq (n_kd h8.1 x0) 8) (y_cR h8 x0 2 a7 (fun h9 => n_chk (!decide ((12 : Int32) < 0) && Nat.ble ((12 : Int32).toNatClampNeg * 4) 536870912) (y_cal h9 14 (12 : Int32).toNatClampNeg (fun a10 h11 => n_chk (Nat.beq (n_kd h11.1 x0) 8) (y_cR h11 x0 3 a10 (fun h12 => n_chk (!decide ((12 : Int32) < 0) && Nat.ble ((12 : Int32).toNatClampNeg * 4) 536870912) (y_cal h12 14 (12 : Int32).toNatClampNeg (fun a13 h14 => n_chk (Nat.beq (n_kd h14.1 x0) 8) (y_cR h14 x0 4 a13 (fun h15 => n_chk (Nat.beq (n_kd h15.1 x0) 8) (y_cu h15 x0 5 (0 : Int32) (fun h16 => n_chk (Nat.beq (n_kd h16.1 x0) 8) (y_cu h16 x0 6 (0 : Int32) (fun h17 => n_chk (Nat.beq (n_kd h17.1 x0) 8) (y_cmr h17 x0 0 (fun a18 => y_cfi N h17 a18 (9 : Int32) (fun h20 => some ((), h20))))))))))))))))))))))))))))) := rfl
def zX8_init (x0 : Nat) (hh : dT) : Option dT := n_chk (Nat.blt 0 x0 && true) (n_chk (!decide ((12 : Int32) < 0) && Nat.ble ((12 : Int32).toNatClampNeg * 4) 536870912) (z_cal hh 14 (12 : Int32).toNatClampNeg (fun a1 h2 => n_chk (Nat.beq (y_k h2 x0) 8) (z_cR h2 x0 0 a1 (fun h3 => n_chk (!decide ((16 : Int32) < 0) && Nat.ble ((16 : Int32).toNatClampNeg * 4) 536870912) (z_cal h3 14 (16 : Int32).toNatClampNeg (fun a4 h5 => n_chk (Nat.beq (y_k h5 x0) 8) (z_cR h5 x0 1 a4 (fun h6 => n_chk (!decide ((16 : Int32) < 0) && Nat.ble ((16 : Int32).toNatClampNeg * 4) 536870912) (z_cal h6 14 (16 : Int32).toNatClampNeg (fun a7 h8 => n_chk (Nat.beq (y_k h8 x0) 8) (z_cR h8 x0 2 a7 (fun h9 => n_chk (!decide ((12 : Int32) < 0) && Nat.ble ((12 : Int32).toNatClampNeg * 4) 536870912) (z_cal h9 14 (12 : Int32).toNatClampNeg (fun a10 h11 => n_chk (Nat.beq (y_k h11 x0) 8) (z_cR h11 x0 3 a10 (fun h12 => n_chk (!decide ((12 : Int32) < 0) && Nat.ble ((12 : Int32).toNatClampNeg * 4) 536870912) (z_cal h12 14 (12 : Int32).toNatClampNeg (fun a13 h14 => n_chk (Nat.beq (y_k h14 x0) 8) (z_cR h14 x0 4 a13 (fun h15 => n_chk (Nat.beq (y_k h15 x0) 8) (z_cu h15 x0 5 (0 : Int32) (fun h16 => n_chk (Nat.beq (y_k h16 x0) 8) (z_cu h16 x0 6 (0 : Int32) (fun h17 => n_chk (Nat.beq (y_k h17 x0) 8) (z_cmr h17 x0 0 (fun a18 => z_cfi h17 a18 (9 : Int32) (fun h20 => some h20))))))))))))))))))))))))))))
theorem sX8_init {N : Nat} {x0 : Nat} {hh : nH} {t : dT} (hN : 1000 ≤ N) (Q_hh : y_Q hh t) : y_S (fX8_init N x0 hh) (zX8_init x0 t) := by
  rw [vyX8_init]
  unfold zX8_init
  refine y_chk (fun z => z) ?_
  refine y_chk (fun z => z) ?_
  refine y_lal Q_hh (fun h2 Q_h2 => ?_)
  refine y_kd Q_h2 ?_
  refine y_lR Q_h2 (fun h3 Q_h3 => ?_)
  refine y_chk (fun z => z) ?_
  refine y_lal Q_h3 (fun h5 Q_h5 => ?_)
  refine y_kd Q_h5 ?_
  refine y_lR Q_h5 (fun h6 Q_h6 => ?_)
  refine y_chk (fun z => z) ?_
  refine y_lal Q_h6 (fun h8 Q_h8 => ?_)
  refine y_kd Q_h8 ?_
  refine y_lR Q_h8 (fun h9 Q_h9 => ?_)
  refine y_chk (fun z => z) ?_
  refine y_lal Q_h9 (fun h11 Q_h11 => ?_)
  refine y_kd Q_h11 ?_
  refine y_lR Q_h11 (fun h12 Q_h12 => ?_)
  refine y_chk (fun z => z) ?_
  refine y_lal Q_h12 (fun h14 Q_h14 => ?_)
  refine y_kd Q_h14 ?_
  refine y_lR Q_h14 (fun h15 Q_h15 => ?_)
  refine y_kd Q_h15 ?_
  refine y_lu Q_h15 (fun h16 Q_h16 => ?_)
  refine y_kd Q_h16 ?_
  refine y_lu Q_h16 (fun h17 Q_h17 => ?_)
  refine y_kd Q_h17 ?_
  refine y_lmr Q_h17 ?_
  refine y_lfi hN Q_h17 (fun h20 Q_h20 => ?_)
  exact y_some Q_h20
theorem vyX4_init (x0 : Nat) (x1 : Int32) (hh : nH) : fX4_init x0 x1 hh = n_chk (Nat.blt 0 x0 && true) (n_chk (!decide ((16 : Int32) < 0) && Nat.ble ((16 : Int32).toNatClampNeg * 4) 536870912) (y_cal hh 14 (16 : Int32).toNatClampNeg (fun a1 h2 => n_chk (Nat.beq (n_kd h2.1 x0) 4) (y_cR h2 x0 1 a1 (fun h3 => n_chk (!decide ((16 : Int32) < 0) && Nat.ble ((16 : Int32).toNatClampNeg * 4) 536870912) (y_cal h3 14 (16 : Int32).toNatClampNeg (fun a4 h5 => n_chk (Nat.beq (n_kd h5.1 x0) 4) (y_cR h5 x0 2 a4 (fun h6 => n_chk (!decide ((12 : Int32) < 0) && Nat.ble ((12 : Int32).toNatClampNeg * 4) 536870912) (y_cal h6 14 (12 : Int32).toNatClampNeg (fun a7 h8 => n_chk (Nat.beq (n_kd h8.1 x0) 4) (y_cR h8 x0 3 a7 (fun h9 => n_chk (!decide ((12 : Int32) < 0) && Nat.ble ((12 : Int32).toNatClampNeg * 4) 536870912) (y_cal h9 14 (12 : Int32).toNatClampNeg (fun a10 h11 => n_chk (Nat.beq (n_kd h11.1 x0) 4) (y_cR h11 x0 4 a10 (fun h12 => n_chk (Nat.beq (n_kd h12.1 x0) 4) (y_cu h12 x0 5 (0 : Int32) (fun h13 => n_chk (Nat.beq (n_kd h13.1 x0) 4) (y_cu h13 x0 6 (0 : Int32) (fun h14 => n_chk (Nat.beq (n_kd h14.1 x0) 4) (y_cu h14 x0 7 (0 : Int32) (fun h15 => n_chk (Nat.beq (n_kd h15.1 x0) 4) (y_cu h15 x0 8 (0 : Int32) (fun h16 => n_chk (Nat.beq (n_kd h16.1 x0) 4) (y_cu h16 x0 9 (0 : Int32) (fun h17 => n_chk (Nat.beq (n_kd h17.1 x0) 4) (y_cu h17 x0 10 (0 : Int32) (fun h18 => n_chk (Nat.beq (n_kd h18.1 x0) 4) (y_cu h18 x0 11 (0 : Int32) (fun h19 => n_chk (Nat.beq (n_kd h19.1 x0) 4 && (x1 == 0 || x1 == 1)) (y_cu h19 x0 0 x1 (fun h20 => some ((), h20)))))))))))))))))))))))))))))))))) := rfl
def zX4_init (x0 : Nat) (x1 : Int32) (hh : dT) : Option dT := n_chk (Nat.blt 0 x0 && true) (n_chk (!decide ((16 : Int32) < 0) && Nat.ble ((16 : Int32).toNatClampNeg * 4) 536870912) (z_cal hh 14 (16 : Int32).toNatClampNeg (fun a1 h2 => n_chk (Nat.beq (y_k h2 x0) 4) (z_cR h2 x0 1 a1 (fun h3 => n_chk (!decide ((16 : Int32) < 0) && Nat.ble ((16 : Int32).toNatClampNeg * 4) 536870912) (z_cal h3 14 (16 : Int32).toNatClampNeg (fun a4 h5 => n_chk (Nat.beq (y_k h5 x0) 4) (z_cR h5 x0 2 a4 (fun h6 => n_chk (!decide ((12 : Int32) < 0) && Nat.ble ((12 : Int32).toNatClampNeg * 4) 536870912) (z_cal h6 14 (12 : Int32).toNatClampNeg (fun a7 h8 => n_chk (Nat.beq (y_k h8 x0) 4) (z_cR h8 x0 3 a7 (fun h9 => n_chk (!decide ((12 : Int32) < 0) && Nat.ble ((12 : Int32).toNatClampNeg * 4) 536870912) (z_cal h9 14 (12 : Int32).toNatClampNeg (fun a10 h11 => n_chk (Nat.beq (y_k h11 x0) 4) (z_cR h11 x0 4 a10 (fun h12 => n_chk (Nat.beq (y_k h12 x0) 4) (z_cu h12 x0 5 (0 : Int32) (fun h13 => n_chk (Nat.beq (y_k h13 x0) 4) (z_cu h13 x0 6 (0 : Int32) (fun h14 => n_chk (Nat.beq (y_k h14 x0) 4) (z_cu h14 x0 7 (0 : Int32) (fun h15 => n_chk (Nat.beq (y_k h15 x0) 4) (z_cu h15 x0 8 (0 : Int32) (fun h16 => n_chk (Nat.beq (y_k h16 x0) 4) (z_cu h16 x0 9 (0 : Int32) (fun h17 => n_chk (Nat.beq (y_k h17 x0) 4) (z_cu h17 x0 10 (0 : Int32) (fun h18 => n_chk (Nat.beq (y_k h18 x0) 4) (z_cu h18 x0 11 (0 : Int32) (fun h19 => n_chk (Nat.beq (y_k h19 x0) 4 && (x1 == 0 || x1 == 1)) (z_cu h19 x0 0 x1 (fun h20 => some h20)))))))))))))))))))))))))))))))))
theorem sX4_init {N : Nat} {x0 : Nat} {x1 : Int32} {hh : nH} {t : dT} (hN : 1000 ≤ N) (Q_hh : y_Q hh t) : y_S (fX4_init x0 x1 hh) (zX4_init x0 x1 t) := by
  rw [vyX4_init]
  unfold zX4_init
  refine y_chk (fun z => z) ?_
  refine y_chk (fun z => z) ?_
  refine y_lal Q_hh (fun h2 Q_h2 => ?_)
  refine y_kd Q_h2 ?_
  refine y_lR Q_h2 (fun h3 Q_h3 => ?_)
  refine y_chk (fun z => z) ?_
  refine y_lal Q_h3 (fun h5 Q_h5 => ?_)
  refine y_kd Q_h5 ?_
  refine y_lR Q_h5 (fun h6 Q_h6 => ?_)
  refine y_chk (fun z => z) ?_
  refine y_lal Q_h6 (fun h8 Q_h8 => ?_)
  refine y_kd Q_h8 ?_
  refine y_lR Q_h8 (fun h9 Q_h9 => ?_)
  refine y_chk (fun z => z) ?_
  refine y_lal Q_h9 (fun h11 Q_h11 => ?_)
  refine y_kd Q_h11 ?_
  refine y_lR Q_h11 (fun h12 Q_h12 => ?_)
  refine y_kd Q_h12 ?_
  refine y_lu Q_h12 (fun h13 Q_h13 => ?_)
  refine y_kd Q_h13 ?_
  refine y_lu Q_h13 (fun h14 Q_h14 => ?_)
  refine y_kd Q_h14 ?_
  refine y_lu Q_h14 (fun h15 Q_h15 => ?_)
  refine y_kd Q_h15 ?_
  refine y_lu Q_h15 (fun h16 Q_h16 => ?_)
  refine y_kd Q_h16 ?_
  refine y_lu Q_h16 (fun h17 Q_h17 => ?_)
  refine y_kd Q_h17 ?_
  refine y_lu Q_h17 (fun h18 Q_h18 => ?_)
  refine y_kd Q_h18 ?_
  refine y_lu Q_h18 (fun h19 Q_h19 => ?_)
  refine y_kd2 Q_h19 ?_
  refine y_lu Q_h19 (fun h20 Q_h20 => ?_)
  exact y_some Q_h20
theorem vyX7_init (x0 : Nat) (x1 : Int32) (x2 : Int32) (hh : nH) : fX7_init x0 x1 x2 hh = n_chk (Nat.blt 0 x0 && true) (n_chk (Nat.beq (n_kd hh.1 x0) 7) (y_cu hh x0 3 (0 : Int32) (fun h1 => n_chk (Nat.beq (n_kd h1.1 x0) 7) (y_cu h1 x0 2 (if x1 < (0 : Int32) then (0 : Int32) else x1) (fun h2 => n_chk (Nat.beq (n_kd h2.1 x0) 7) (y_cu h2 x0 1 (if (4 : Int32) < (if x2 < (1 : Int32) then (1 : Int32) else x2) then (4 : Int32) else (if x2 < (1 : Int32) then (1 : Int32) else x2)) (fun h3 => n_chk (Nat.beq (n_kd h3.1 x0) 7) (y_cmv h3 x0 2 (fun v4 => n_chk (Nat.beq (n_kd h3.1 x0) 7) (y_cmv h3 x0 1 (fun v5 => n_chk (!decide ((v4 * v5) < 0) && Nat.ble ((v4 * v5).toNatClampNeg * 4) 536870912) (y_cal h3 14 (v4 * v5).toNatClampNeg (fun a6 h7 => n_chk (Nat.beq (n_kd h7.1 x0) 7) (y_cR h7 x0 0 a6 (fun h8 => some ((), h8)))))))))))))))) := rfl
def zX7_init (x0 : Nat) (x1 : Int32) (x2 : Int32) (hh : dT) : Option dT := n_chk (Nat.blt 0 x0 && true) (n_chk (Nat.beq (y_k hh x0) 7) (z_cu hh x0 3 (0 : Int32) (fun h1 => n_chk (Nat.beq (y_k h1 x0) 7) (z_cu h1 x0 2 (if x1 < (0 : Int32) then (0 : Int32) else x1) (fun h2 => n_chk (Nat.beq (y_k h2 x0) 7) (z_cu h2 x0 1 (if (4 : Int32) < (if x2 < (1 : Int32) then (1 : Int32) else x2) then (4 : Int32) else (if x2 < (1 : Int32) then (1 : Int32) else x2)) (fun h3 => n_chk (Nat.beq (y_k h3 x0) 7) (z_cmv h3 x0 2 (fun v4 => n_chk (Nat.beq (y_k h3 x0) 7) (z_cmv h3 x0 1 (fun v5 => n_chk (!decide ((v4 * v5) < 0) && Nat.ble ((v4 * v5).toNatClampNeg * 4) 536870912) (z_cal h3 14 (v4 * v5).toNatClampNeg (fun a6 h7 => n_chk (Nat.beq (y_k h7 x0) 7) (z_cR h7 x0 0 a6 (fun h8 => some h8)))))))))))))))
theorem sX7_init {N : Nat} {x0 : Nat} {x1 : Int32} {x2 : Int32} {hh : nH} {t : dT} (hN : 1000 ≤ N) (Q_hh : y_Q hh t) : y_S (fX7_init x0 x1 x2 hh) (zX7_init x0 x1 x2 t) := by
  rw [vyX7_init]
  unfold zX7_init
  refine y_chk (fun z => z) ?_
  refine y_kd Q_hh ?_
  refine y_lu Q_hh (fun h1 Q_h1 => ?_)
  refine y_kd Q_h1 ?_
  refine y_lu Q_h1 (fun h2 Q_h2 => ?_)
  refine y_kd Q_h2 ?_
  refine y_lu Q_h2 (fun h3 Q_h3 => ?_)
  refine y_kd Q_h3 ?_
  refine y_lmv Q_h3 ?_
  refine y_kd Q_h3 ?_
  refine y_lmv Q_h3 ?_
  refine y_chk (fun z => z) ?_
  refine y_lal Q_h3 (fun h7 Q_h7 => ?_)
  refine y_kd Q_h7 ?_
  refine y_lR Q_h7 (fun h8 Q_h8 => ?_)
  exact y_some Q_h8
theorem vyX3_init (x0 : Nat) (hh : nH) : fX3_init x0 hh = n_chk (Nat.blt 0 x0 && true) (n_chk (!decide ((400 : Int32) < 0) && Nat.ble ((400 : Int32).toNatClampNeg * 4) 536870912) (y_cal hh 14 (400 : Int32).toNatClampNeg (fun a1 h2 => n_chk (Nat.beq (n_kd h2.1 x0) 3) (y_cR h2 x0 0 a1 (fun h3 => n_chk (!decide ((16 : Int32) < 0) && Nat.ble ((16 : Int32).toNatClampNeg * 4) 536870912) (y_cal h3 14 (16 : Int32).toNatClampNeg (fun a4 h5 => n_chk (Nat.beq (n_kd h5.1 x0) 3) (y_cR h5 x0 1 a4 (fun h6 => n_chk (!decide ((16 : Int32) < 0) && Nat.ble ((16 : Int32).toNatClampNeg * 4) 536870912) (y_cal h6 14 (16 : Int32).toNatClampNeg (fun a7 h8 => n_chk (Nat.beq (n_kd h8.1 x0) 3) (y_cR h8 x0 2 a7 (fun h9 => n_chk (!decide ((16 : Int32) < 0) && Nat.ble ((16 : Int32).toNatClampNeg * 4) 536870912) (y_cal h9 14 (16 : Int32).toNatClampNeg (fun a10 h11 => n_chk (Nat.beq (n_kd h11.1 x0) 3) (y_cR h11 x0 3 a10 (fun h12 => n_chk (!decide ((16 : Int32) < 0) && Nat.ble ((16 : Int32).toNatClampNeg * 4) 536870912) (y_cal h12 14 (16 : Int32).toNatClampNeg (fun a13 h14 => n_chk (Nat.beq (n_kd h14.1 x0) 3) (y_cR h14 x0 4 a13 (fun h15 => n_chk (Nat.beq (n_kd h15.1 x0) 3) (y_cu h15 x0 5 (0 : Int32) (fun h16 => n_chk (Nat.beq (n_kd h16.1 x0) 3) (y_cu h16 x0 6 (0 : Int32) (fun h17 => some ((), h17)))))))))))))))))))))))))) := rfl
def zX3_init (x0 : Nat) (hh : dT) : Option dT := n_chk (Nat.blt 0 x0 && true) (n_chk (!decide ((400 : Int32) < 0) && Nat.ble ((400 : Int32).toNatClampNeg * 4) 536870912) (z_cal hh 14 (400 : Int32).toNatClampNeg (fun a1 h2 => n_chk (Nat.beq (y_k h2 x0) 3) (z_cR h2 x0 0 a1 (fun h3 => n_chk (!decide ((16 : Int32) < 0) && Nat.ble ((16 : Int32).toNatClampNeg * 4) 536870912) (z_cal h3 14 (16 : Int32).toNatClampNeg (fun a4 h5 => n_chk (Nat.beq (y_k h5 x0) 3) (z_cR h5 x0 1 a4 (fun h6 => n_chk (!decide ((16 : Int32) < 0) && Nat.ble ((16 : Int32).toNatClampNeg * 4) 536870912) (z_cal h6 14 (16 : Int32).toNatClampNeg (fun a7 h8 => n_chk (Nat.beq (y_k h8 x0) 3) (z_cR h8 x0 2 a7 (fun h9 => n_chk (!decide ((16 : Int32) < 0) && Nat.ble ((16 : Int32).toNatClampNeg * 4) 536870912) (z_cal h9 14 (16 : Int32).toNatClampNeg (fun a10 h11 => n_chk (Nat.beq (y_k h11 x0) 3) (z_cR h11 x0 3 a10 (fun h12 => n_chk (!decide ((16 : Int32) < 0) && Nat.ble ((16 : Int32).toNatClampNeg * 4) 536870912) (z_cal h12 14 (16 : Int32).toNatClampNeg (fun a13 h14 => n_chk (Nat.beq (y_k h14 x0) 3) (z_cR h14 x0 4 a13 (fun h15 => n_chk (Nat.beq (y_k h15 x0) 3) (z_cu h15 x0 5 (0 : Int32) (fun h16 => n_chk (Nat.beq (y_k h16 x0) 3) (z_cu h16 x0 6 (0 : Int32) (fun h17 => some h17)))))))))))))))))))))))))
theorem sX3_init {N : Nat} {x0 : Nat} {hh : nH} {t : dT} (hN : 1000 ≤ N) (Q_hh : y_Q hh t) : y_S (fX3_init x0 hh) (zX3_init x0 t) := by
  rw [vyX3_init]
  unfold zX3_init
  refine y_chk (fun z => z) ?_
  refine y_chk (fun z => z) ?_
  refine y_lal Q_hh (fun h2 Q_h2 => ?_)
  refine y_kd Q_h2 ?_
  refine y_lR Q_h2 (fun h3 Q_h3 => ?_)
  refine y_chk (fun z => z) ?_
  refine y_lal Q_h3 (fun h5 Q_h5 => ?_)
  refine y_kd Q_h5 ?_
  refine y_lR Q_h5 (fun h6 Q_h6 => ?_)
  refine y_chk (fun z => z) ?_
  refine y_lal Q_h6 (fun h8 Q_h8 => ?_)
  refine y_kd Q_h8 ?_
  refine y_lR Q_h8 (fun h9 Q_h9 => ?_)
  refine y_chk (fun z => z) ?_
  refine y_lal Q_h9 (fun h11 Q_h11 => ?_)
  refine y_kd Q_h11 ?_
  refine y_lR Q_h11 (fun h12 Q_h12 => ?_)
  refine y_chk (fun z => z) ?_
  refine y_lal Q_h12 (fun h14 Q_h14 => ?_)
  refine y_kd Q_h14 ?_
  refine y_lR Q_h14 (fun h15 Q_h15 => ?_)
  refine y_kd Q_h15 ?_
  refine y_lu Q_h15 (fun h16 Q_h16 => ?_)
  refine y_kd Q_h16 ?_
  refine y_lu Q_h16 (fun h17 Q_h17 => ?_)
  exact y_some Q_h17
theorem vyX10_init_88 (N : Nat) (x0 : Nat) (s0 : Nat) (hh : nH) : fX10_init_88 N x0 s0 hh = y_cal hh 7 4 (fun a1 h2 => n_chk (Nat.blt 0 a1) (y_cbd (fX7_init a1 (5 : Int32) (1 : Int32) h2) (fun p3 => n_chk (Nat.beq (n_kd p3.1 s0) 10) (y_cR p3 s0 6 a1 (fun h4 => n_chk (!decide ((12 : Int32) < 0) && Nat.ble ((12 : Int32).toNatClampNeg * 4) 536870912) (y_cal h4 14 (12 : Int32).toNatClampNeg (fun a5 h6 => n_chk (Nat.beq (n_kd h6.1 x0) 10) (y_cR h6 x0 7 a5 (fun h7 => n_chk (!decide ((36 : Int32) < 0) && Nat.ble ((36 : Int32).toNatClampNeg * 4) 536870912) (y_cal h7 14 (36 : Int32).toNatClampNeg (fun a8 h9 => n_chk (Nat.beq (n_kd h9.1 x0) 10) (y_cR h9 x0 8 a8 (fun h10 => n_chk (Nat.beq (n_kd h10.1 x0) 10) (y_cmr h10 x0 7 (fun a11 => y_cfi N h10 a11 (2 : Int32) (fun h13 => some ((), h13))))))))))))))))) := rfl
def zX10_init_88 (x0 : Nat) (s0 : Nat) (hh : dT) : Option dT := z_cal hh 7 4 (fun a1 h2 => n_chk (Nat.blt 0 a1) (z_cbd (zX7_init a1 (5 : Int32) (1 : Int32) h2) (fun p3 => n_chk (Nat.beq (y_k p3 s0) 10) (z_cR p3 s0 6 a1 (fun h4 => n_chk (!decide ((12 : Int32) < 0) && Nat.ble ((12 : Int32).toNatClampNeg * 4) 536870912) (z_cal h4 14 (12 : Int32).toNatClampNeg (fun a5 h6 => n_chk (Nat.beq (y_k h6 x0) 10) (z_cR h6 x0 7 a5 (fun h7 => n_chk (!decide ((36 : Int32) < 0) && Nat.ble ((36 : Int32).toNatClampNeg * 4) 536870912) (z_cal h7 14 (36 : Int32).toNatClampNeg (fun a8 h9 => n_chk (Nat.beq (y_k h9 x0) 10) (z_cR h9 x0 8 a8 (fun h10 => n_chk (Nat.beq (y_k h10 x0) 10) (z_cmr h10 x0 7 (fun a11 => z_cfi h10 a11 (2 : Int32) (fun h13 => some h13))))))))))))))))
theorem sX10_init_88 {N : Nat} {x0 : Nat} {s0 : Nat} {hh : nH} {t : dT} (hN : 1000 ≤ N) (Q_hh : y_Q hh t) : y_S (fX10_init_88 N x0 s0 hh) (zX10_init_88 x0 s0 t) := by
  rw [vyX10_init_88]
  unfold zX10_init_88
  refine y_lal Q_hh (fun h2 Q_h2 => ?_)
  refine y_chk (fun z => z) ?_
  refine y_lbd (sX7_init hN Q_h2) (fun p3 tp3 Q_p3 => ?_)
  refine y_kd Q_p3 ?_
  refine y_lR Q_p3 (fun h4 Q_h4 => ?_)
  refine y_chk (fun z => z) ?_
  refine y_lal Q_h4 (fun h6 Q_h6 => ?_)
  refine y_kd Q_h6 ?_
  refine y_lR Q_h6 (fun h7 Q_h7 => ?_)
  refine y_chk (fun z => z) ?_
  refine y_lal Q_h7 (fun h9 Q_h9 => ?_)
  refine y_kd Q_h9 ?_
  refine y_lR Q_h9 (fun h10 Q_h10 => ?_)
  refine y_kd Q_h10 ?_
  refine y_lmr Q_h10 ?_
  refine y_lfi hN Q_h10 (fun h13 Q_h13 => ?_)
  exact y_some Q_h13
theorem vyX10_init (N : Nat) (x0 : Nat) (hh : nH) : fX10_init N x0 hh = n_chk (Nat.blt 0 x0 && true) (y_cal hh 7 4 (fun a1 h2 => n_chk (Nat.blt 0 a1) (y_cbd (fX7_init a1 (16 : Int32) (2 : Int32) h2) (fun p3 => n_chk (Nat.beq (n_kd p3.1 x0) 10) (y_cR p3 x0 0 a1 (fun h4 => y_cal h4 7 4 (fun a5 h6 => n_chk (Nat.blt 0 a5) (y_cbd (fX7_init a5 (4 : Int32) (1 : Int32) h6) (fun p7 => n_chk (Nat.beq (n_kd p7.1 x0) 10) (y_cR p7 x0 1 a5 (fun h8 => y_cal h8 7 4 (fun a9 h10 => n_chk (Nat.blt 0 a9) (y_cbd (fX7_init a9 (8 : Int32) (2 : Int32) h10) (fun p11 => n_chk (Nat.beq (n_kd p11.1 x0) 10) (y_cR p11 x0 2 a9 (fun h12 => y_cal h12 7 4 (fun a13 h14 => n_chk (Nat.blt 0 a13) (y_cbd (fX7_init a13 (12 : Int32) (2 : Int32) h14) (fun p15 => n_chk (Nat.beq (n_kd p15.1 x0) 10) (y_cR p15 x0 3 a13 (fun h16 => y_cal h16 7 4 (fun a17 h18 => n_chk (Nat.blt 0 a17) (y_cbd (fX7_init a17 (10 : Int32) (3 : Int32) h18) (fun p19 => n_chk (Nat.beq (n_kd p19.1 x0) 10) (y_cR p19 x0 4 a17 (fun h20 => y_cal h20 7 4 (fun a21 h22 => n_chk (Nat.blt 0 a21) (y_cbd (fX7_init a21 (6 : Int32) (1 : Int32) h22) (fun p23 => n_chk (Nat.beq (n_kd p23.1 x0) 10) (y_cR p23 x0 5 a21 (fun h24 => fX10_init_88 N x0 x0 h24))))))))))))))))))))))))))))))) := rfl
def zX10_init (x0 : Nat) (hh : dT) : Option dT := n_chk (Nat.blt 0 x0 && true) (z_cal hh 7 4 (fun a1 h2 => n_chk (Nat.blt 0 a1) (z_cbd (zX7_init a1 (16 : Int32) (2 : Int32) h2) (fun p3 => n_chk (Nat.beq (y_k p3 x0) 10) (z_cR p3 x0 0 a1 (fun h4 => z_cal h4 7 4 (fun a5 h6 => n_chk (Nat.blt 0 a5) (z_cbd (zX7_init a5 (4 : Int32) (1 : Int32) h6) (fun p7 => n_chk (Nat.beq (y_k p7 x0) 10) (z_cR p7 x0 1 a5 (fun h8 => z_cal h8 7 4 (fun a9 h10 => n_chk (Nat.blt 0 a9) (z_cbd (zX7_init a9 (8 : Int32) (2 : Int32) h10) (fun p11 => n_chk (Nat.beq (y_k p11 x0) 10) (z_cR p11 x0 2 a9 (fun h12 => z_cal h12 7 4 (fun a13 h14 => n_chk (Nat.blt 0 a13) (z_cbd (zX7_init a13 (12 : Int32) (2 : Int32) h14) (fun p15 => n_chk (Nat.beq (y_k p15 x0) 10) (z_cR p15 x0 3 a13 (fun h16 => z_cal h16 7 4 (fun a17 h18 => n_chk (Nat.blt 0 a17) (z_cbd (zX7_init a17 (10 : Int32) (3 : Int32) h18) (fun p19 => n_chk (Nat.beq (y_k p19 x0) 10) (z_cR p19 x0 4 a17 (fun h20 => z_cal h20 7 4 (fun a21 h22 => n_chk (Nat.blt 0 a21) (z_cbd (zX7_init a21 (6 : Int32) (1 : Int32) h22) (fun p23 => n_chk (Nat.beq (y_k p23 x0) 10) (z_cR p23 x0 5 a21 (fun h24 => zX10_init_88 x0 x0 h24)))))))))))))))))))))))))))))))
theorem sX10_init {N : Nat} {x0 : Nat} {hh : nH} {t : dT} (hN : 1000 ≤ N) (Q_hh : y_Q hh t) : y_S (fX10_init N x0 hh) (zX10_init x0 t) := by
  rw [vyX10_init]
  unfold zX10_init
  refine y_chk (fun z => z) ?_
  refine y_lal Q_hh (fun h2 Q_h2 => ?_)
  refine y_chk (fun z => z) ?_
  refine y_lbd (sX7_init hN Q_h2) (fun p3 tp3 Q_p3 => ?_)
  refine y_kd Q_p3 ?_
  refine y_lR Q_p3 (fun h4 Q_h4 => ?_)
  refine y_lal Q_h4 (fun h6 Q_h6 => ?_)
  refine y_chk (fun z => z) ?_
  refine y_lbd (sX7_init hN Q_h6) (fun p7 tp7 Q_p7 => ?_)
  refine y_kd Q_p7 ?_
  refine y_lR Q_p7 (fun h8 Q_h8 => ?_)
  refine y_lal Q_h8 (fun h10 Q_h10 => ?_)
  refine y_chk (fun z => z) ?_
  refine y_lbd (sX7_init hN Q_h10) (fun p11 tp11 Q_p11 => ?_)
  refine y_kd Q_p11 ?_
  refine y_lR Q_p11 (fun h12 Q_h12 => ?_)
  refine y_lal Q_h12 (fun h14 Q_h14 => ?_)
  refine y_chk (fun z => z) ?_
  refine y_lbd (sX7_init hN Q_h14) (fun p15 tp15 Q_p15 => ?_)
  refine y_kd Q_p15 ?_
  refine y_lR Q_p15 (fun h16 Q_h16 => ?_)
  refine y_lal Q_h16 (fun h18 Q_h18 => ?_)
  refine y_chk (fun z => z) ?_
  refine y_lbd (sX7_init hN Q_h18) (fun p19 tp19 Q_p19 => ?_)
  refine y_kd Q_p19 ?_
  refine y_lR Q_p19 (fun h20 Q_h20 => ?_)
  refine y_lal Q_h20 (fun h22 Q_h22 => ?_)
  refine y_chk (fun z => z) ?_
  refine y_lbd (sX7_init hN Q_h22) (fun p23 tp23 Q_p23 => ?_)
  refine y_kd Q_p23 ?_
  refine y_lR Q_p23 (fun h24 Q_h24 => ?_)
  exact sX10_init_88 hN Q_h24
theorem vyX1_init_92 (N : Nat) (x0 : Nat) (s0 : Nat) (s1 : Nat) (hh : nH) : fX1_init_92 N x0 s0 s1 hh = n_chk (Nat.beq (n_kd hh.1 s1) 1) (y_cR hh s1 6 s0 (fun h1 => y_cal h1 10 9 (fun a2 h3 => n_chk (Nat.blt 0 a2) (y_cbd (fX10_init N a2 h3) (fun p4 => n_chk (Nat.beq (n_kd p4.1 x0) 1) (y_cR p4 x0 7 a2 (fun h5 => some ((), h5)))))))) := rfl
def zX1_init_92 (x0 : Nat) (s0 : Nat) (s1 : Nat) (hh : dT) : Option dT := n_chk (Nat.beq (y_k hh s1) 1) (z_cR hh s1 6 s0 (fun h1 => z_cal h1 10 9 (fun a2 h3 => n_chk (Nat.blt 0 a2) (z_cbd (zX10_init a2 h3) (fun p4 => n_chk (Nat.beq (y_k p4 x0) 1) (z_cR p4 x0 7 a2 (fun h5 => some h5)))))))
theorem sX1_init_92 {N : Nat} {x0 : Nat} {s0 : Nat} {s1 : Nat} {hh : nH} {t : dT} (hN : 1000 ≤ N) (Q_hh : y_Q hh t) : y_S (fX1_init_92 N x0 s0 s1 hh) (zX1_init_92 x0 s0 s1 t) := by
  rw [vyX1_init_92]
  unfold zX1_init_92
  refine y_kd Q_hh ?_
  refine y_lR Q_hh (fun h1 Q_h1 => ?_)
  refine y_lal Q_h1 (fun h3 Q_h3 => ?_)
  refine y_chk (fun z => z) ?_
  refine y_lbd (sX10_init hN Q_h3) (fun p4 tp4 Q_p4 => ?_)
  refine y_kd Q_p4 ?_
  refine y_lR Q_p4 (fun h5 Q_h5 => ?_)
  exact y_some Q_h5
theorem vyX1_init (N : Nat) (x0 : Nat) (hh : nH) : fX1_init N x0 hh = n_chk (Nat.blt 0 x0 && true) (y_cal hh 8 7 (fun a1 h2 => n_chk (Nat.blt 0 a1) (y_cbd (fX8_init N a1 h2) (fun p3 => n_chk (Nat.beq (n_kd p3.1 x0) 1) (y_cR p3 x0 0 a1 (fun h4 => y_cal h4 4 12 (fun a5 h6 => n_chk (Nat.blt 0 a5) (y_cbd (fX4_init a5 (0 : Int32) h6) (fun p7 => n_chk (Nat.beq (n_kd p7.1 x0) 1) (y_cR p7 x0 1 a5 (fun h8 => y_cal h8 7 4 (fun a9 h10 => n_chk (Nat.blt 0 a9) (y_cbd (fX7_init a9 (150 : Int32) (4 : Int32) h10) (fun p11 => n_chk (Nat.beq (n_kd p11.1 x0) 1) (y_cR p11 x0 2 a9 (fun h12 => y_cal h12 3 7 (fun a13 h14 => n_chk (Nat.blt 0 a13) (y_cbd (fX3_init a13 h14) (fun p15 => n_chk (Nat.beq (n_kd p15.1 x0) 1) (y_cR p15 x0 3 a13 (fun h16 => y_cal h16 7 4 (fun a17 h18 => n_chk (Nat.blt 0 a17) (y_cbd (fX7_init a17 (16 : Int32) (4 : Int32) h18) (fun p19 => n_chk (Nat.beq (n_kd p19.1 x0) 1) (y_cR p19 x0 4 a17 (fun h20 => y_cal h20 7 4 (fun a21 h22 => n_chk (Nat.blt 0 a21) (y_cbd (fX7_init a21 (16 : Int32) (4 : Int32) h22) (fun p23 => n_chk (Nat.beq (n_kd p23.1 x0) 1) (y_cR p23 x0 5 a21 (fun h24 => y_cal h24 7 4 (fun a25 h26 => n_chk (Nat.blt 0 a25) (y_cbd (fX7_init a25 (16 : Int32) (4 : Int32) h26) (fun p27 => fX1_init_92 N x0 a25 x0 p27)))))))))))))))))))))))))))))))))) := rfl
def zX1_init (x0 : Nat) (hh : dT) : Option dT := n_chk (Nat.blt 0 x0 && true) (z_cal hh 8 7 (fun a1 h2 => n_chk (Nat.blt 0 a1) (z_cbd (zX8_init a1 h2) (fun p3 => n_chk (Nat.beq (y_k p3 x0) 1) (z_cR p3 x0 0 a1 (fun h4 => z_cal h4 4 12 (fun a5 h6 => n_chk (Nat.blt 0 a5) (z_cbd (zX4_init a5 (0 : Int32) h6) (fun p7 => n_chk (Nat.beq (y_k p7 x0) 1) (z_cR p7 x0 1 a5 (fun h8 => z_cal h8 7 4 (fun a9 h10 => n_chk (Nat.blt 0 a9) (z_cbd (zX7_init a9 (150 : Int32) (4 : Int32) h10) (fun p11 => n_chk (Nat.beq (y_k p11 x0) 1) (z_cR p11 x0 2 a9 (fun h12 => z_cal h12 3 7 (fun a13 h14 => n_chk (Nat.blt 0 a13) (z_cbd (zX3_init a13 h14) (fun p15 => n_chk (Nat.beq (y_k p15 x0) 1) (z_cR p15 x0 3 a13 (fun h16 => z_cal h16 7 4 (fun a17 h18 => n_chk (Nat.blt 0 a17) (z_cbd (zX7_init a17 (16 : Int32) (4 : Int32) h18) (fun p19 => n_chk (Nat.beq (y_k p19 x0) 1) (z_cR p19 x0 4 a17 (fun h20 => z_cal h20 7 4 (fun a21 h22 => n_chk (Nat.blt 0 a21) (z_cbd (zX7_init a21 (16 : Int32) (4 : Int32) h22) (fun p23 => n_chk (Nat.beq (y_k p23 x0) 1) (z_cR p23 x0 5 a21 (fun h24 => z_cal h24 7 4 (fun a25 h26 => n_chk (Nat.blt 0 a25) (z_cbd (zX7_init a25 (16 : Int32) (4 : Int32) h26) (fun p27 => zX1_init_92 x0 a25 x0 p27))))))))))))))))))))))))))))))))))
theorem sX1_init {N : Nat} {x0 : Nat} {hh : nH} {t : dT} (hN : 1000 ≤ N) (Q_hh : y_Q hh t) : y_S (fX1_init N x0 hh) (zX1_init x0 t) := by
  rw [vyX1_init]
  unfold zX1_init
  refine y_chk (fun z => z) ?_
  refine y_lal Q_hh (fun h2 Q_h2 => ?_)
  refine y_chk (fun z => z) ?_
  refine y_lbd (sX8_init hN Q_h2) (fun p3 tp3 Q_p3 => ?_)
  refine y_kd Q_p3 ?_
  refine y_lR Q_p3 (fun h4 Q_h4 => ?_)
  refine y_lal Q_h4 (fun h6 Q_h6 => ?_)
  refine y_chk (fun z => z) ?_
  refine y_lbd (sX4_init hN Q_h6) (fun p7 tp7 Q_p7 => ?_)
  refine y_kd Q_p7 ?_
  refine y_lR Q_p7 (fun h8 Q_h8 => ?_)
  refine y_lal Q_h8 (fun h10 Q_h10 => ?_)
  refine y_chk (fun z => z) ?_
  refine y_lbd (sX7_init hN Q_h10) (fun p11 tp11 Q_p11 => ?_)
  refine y_kd Q_p11 ?_
  refine y_lR Q_p11 (fun h12 Q_h12 => ?_)
  refine y_lal Q_h12 (fun h14 Q_h14 => ?_)
  refine y_chk (fun z => z) ?_
  refine y_lbd (sX3_init hN Q_h14) (fun p15 tp15 Q_p15 => ?_)
  refine y_kd Q_p15 ?_
  refine y_lR Q_p15 (fun h16 Q_h16 => ?_)
  refine y_lal Q_h16 (fun h18 Q_h18 => ?_)
  refine y_chk (fun z => z) ?_
  refine y_lbd (sX7_init hN Q_h18) (fun p19 tp19 Q_p19 => ?_)
  refine y_kd Q_p19 ?_
  refine y_lR Q_p19 (fun h20 Q_h20 => ?_)
  refine y_lal Q_h20 (fun h22 Q_h22 => ?_)
  refine y_chk (fun z => z) ?_
  refine y_lbd (sX7_init hN Q_h22) (fun p23 tp23 Q_p23 => ?_)
  refine y_kd Q_p23 ?_
  refine y_lR Q_p23 (fun h24 Q_h24 => ?_)
  refine y_lal Q_h24 (fun h26 Q_h26 => ?_)
  refine y_chk (fun z => z) ?_
  refine y_lbd (sX7_init hN Q_h26) (fun p27 tp27 Q_p27 => ?_)
  exact sX1_init_92 hN Q_p27
theorem vyX0_init (x0 : Nat) (x1 : Nat) (hh : nH) : fX0_init x0 x1 hh = n_chk (Nat.blt 0 x0 && true) (n_chk (!decide ((11 : Int32) < 0) && Nat.ble ((11 : Int32).toNatClampNeg * 4) 536870912) (y_cal hh 14 (11 : Int32).toNatClampNeg (fun a1 h2 => n_chk (Nat.beq (n_kd h2.1 x0) 0) (y_cR h2 x0 1 a1 (fun h3 => n_chk (!decide ((48 : Int32) < 0) && Nat.ble ((48 : Int32).toNatClampNeg * 4) 536870912) (y_cal h3 14 (48 : Int32).toNatClampNeg (fun a4 h5 => n_chk (Nat.beq (n_kd h5.1 x0) 0) (y_cR h5 x0 2 a4 (fun h6 => n_chk (Nat.beq (n_kd h6.1 x0) 0) (y_cR h6 x0 0 x1 (fun h7 => some ((), h7)))))))))))) := rfl
def zX0_init (x0 : Nat) (x1 : Nat) (hh : dT) : Option dT := n_chk (Nat.blt 0 x0 && true) (n_chk (!decide ((11 : Int32) < 0) && Nat.ble ((11 : Int32).toNatClampNeg * 4) 536870912) (z_cal hh 14 (11 : Int32).toNatClampNeg (fun a1 h2 => n_chk (Nat.beq (y_k h2 x0) 0) (z_cR h2 x0 1 a1 (fun h3 => n_chk (!decide ((48 : Int32) < 0) && Nat.ble ((48 : Int32).toNatClampNeg * 4) 536870912) (z_cal h3 14 (48 : Int32).toNatClampNeg (fun a4 h5 => n_chk (Nat.beq (y_k h5 x0) 0) (z_cR h5 x0 2 a4 (fun h6 => n_chk (Nat.beq (y_k h6 x0) 0) (z_cR h6 x0 0 x1 (fun h7 => some h7)))))))))))
theorem sX0_init {N : Nat} {x0 : Nat} {x1 : Nat} {hh : nH} {t : dT} (hN : 1000 ≤ N) (Q_hh : y_Q hh t) : y_S (fX0_init x0 x1 hh) (zX0_init x0 x1 t) := by
  rw [vyX0_init]
  unfold zX0_init
  refine y_chk (fun z => z) ?_
  refine y_chk (fun z => z) ?_
  refine y_lal Q_hh (fun h2 Q_h2 => ?_)
  refine y_kd Q_h2 ?_
  refine y_lR Q_h2 (fun h3 Q_h3 => ?_)
  refine y_chk (fun z => z) ?_
  refine y_lal Q_h3 (fun h5 Q_h5 => ?_)
  refine y_kd Q_h5 ?_
  refine y_lR Q_h5 (fun h6 Q_h6 => ?_)
  refine y_kd Q_h6 ?_
  refine y_lR Q_h6 (fun h7 Q_h7 => ?_)
  exact y_some Q_h7
theorem vyX5_init_25 (N f : Nat) (x0 : Nat) (x1 : Int32) (hh : nH) : fX5_init_25 N (f + 1) x0 x1 hh = if (6 : Int32) ≤ x1 then some ((), hh) else n_chk (Nat.beq (n_kd hh.1 x0) 5) (y_cmr hh x0 0 (fun a1 => y_cal hh 4 12 (fun a2 h3 => n_chk (Nat.blt 0 a2) (y_cbd (fX4_init a2 (0 : Int32) h3) (fun p4 => n_chk (n_in p4.1 15 a1 x1 && Nat.beq (n_kd p4.1 a2) 4) (y_cR p4 a1 x1.toNatClampNeg a2 (fun h5 => fX5_init_25 N f x0 (x1 + (1 : Int32)) h5))))))) := rfl
def zX5_init_25 : Nat → Nat → Int32 → dT → Option dT
  | 0, _, _, _ => none
  | f + 1, x0, x1, hh => if (6 : Int32) ≤ x1 then some hh else n_chk (Nat.beq (y_k hh x0) 5) (z_cmr hh x0 0 (fun a1 => z_cal hh 4 12 (fun a2 h3 => n_chk (Nat.blt 0 a2) (z_cbd (zX4_init a2 (0 : Int32) h3) (fun p4 => n_chk (y_in p4 15 a1 x1 && Nat.beq (y_k p4 a2) 4) (z_cR p4 a1 x1.toNatClampNeg a2 (fun h5 => zX5_init_25 f x0 (x1 + (1 : Int32)) h5)))))))
theorem sX5_init_25 {N : Nat} {x0 : Nat} (hN : 1000 ≤ N) : ∀ (d f : Nat), d ≤ f → ∀ {x1 : Int32} {hh : nH} {t : dT}, y_Q hh t → y_S (fX5_init_25 N f x0 x1 hh) (zX5_init_25 d x0 x1 t) := by
  intro d
  induction d with
  | zero => intro f _ x1 hh t _ u e; exact absurd (show (none : Option dT) = some u from e) (by simp)
  | succ d ih =>
    intro f hf x1 hh t Q_hh
    obtain ⟨f, rfl⟩ : ∃ g, f = g + 1 := ⟨f - 1, by omega⟩
    rw [vyX5_init_25]
    unfold zX5_init_25
    by_cases e : (6 : Int32) ≤ x1
    · rw [if_pos e, if_pos e]
      exact y_some Q_hh
    · rw [if_neg e, if_neg e]
      refine y_kd Q_hh ?_
      refine y_lmr Q_hh ?_
      refine y_lal Q_hh (fun h3 Q_h3 => ?_)
      refine y_chk (fun z => z) ?_
      refine y_lbd (sX4_init hN Q_h3) (fun p4 tp4 Q_p4 => ?_)
      refine y_lin2 Q_p4 ?_
      refine y_lR Q_p4 (fun h5 Q_h5 => ?_)
      exact ih f (by omega) Q_h5
theorem vyX5_init (N : Nat) (x0 : Nat) (hh : nH) : fX5_init N x0 hh = n_chk (Nat.blt 0 x0 && true) (n_chk (!decide ((6 : Int32) < 0) && Nat.ble ((6 : Int32).toNatClampNeg * 4) 536870912) (y_cal hh 15 (6 : Int32).toNatClampNeg (fun a1 h2 => n_chk (Nat.beq (n_kd h2.1 x0) 5) (y_cR h2 x0 0 a1 (fun h3 => n_chk (Nat.beq (n_kd h3.1 x0) 5) (y_cu h3 x0 1 (0 : Int32) (fun h4 => n_chk (Nat.beq (n_kd h4.1 x0) 5) (y_cu h4 x0 2 (0 : Int32) (fun h5 => fX5_init_25 N N x0 (0 : Int32) h5))))))))) := rfl
def zX5_init (x0 : Nat) (hh : dT) : Option dT := n_chk (Nat.blt 0 x0 && true) (n_chk (!decide ((6 : Int32) < 0) && Nat.ble ((6 : Int32).toNatClampNeg * 4) 536870912) (z_cal hh 15 (6 : Int32).toNatClampNeg (fun a1 h2 => n_chk (Nat.beq (y_k h2 x0) 5) (z_cR h2 x0 0 a1 (fun h3 => n_chk (Nat.beq (y_k h3 x0) 5) (z_cu h3 x0 1 (0 : Int32) (fun h4 => n_chk (Nat.beq (y_k h4 x0) 5) (z_cu h4 x0 2 (0 : Int32) (fun h5 => zX5_init_25 9 x0 (0 : Int32) h5)))))))))
theorem sX5_init {N : Nat} {x0 : Nat} {hh : nH} {t : dT} (hN : 1000 ≤ N) (Q_hh : y_Q hh t) : y_S (fX5_init N x0 hh) (zX5_init x0 t) := by
  rw [vyX5_init]
  unfold zX5_init
  refine y_chk (fun z => z) ?_
  refine y_chk (fun z => z) ?_
  refine y_lal Q_hh (fun h2 Q_h2 => ?_)
  refine y_kd Q_h2 ?_
  refine y_lR Q_h2 (fun h3 Q_h3 => ?_)
  refine y_kd Q_h3 ?_
  refine y_lu Q_h3 (fun h4 Q_h4 => ?_)
  refine y_kd Q_h4 ?_
  refine y_lu Q_h4 (fun h5 Q_h5 => ?_)
  exact sX5_init_25 hN 9 N (by omega) Q_h5
theorem vyX6_init_90 (x0 : Nat) (x1 : Nat) (hh : nH) : fX6_init_90 x0 x1 hh = n_chk (Nat.beq (n_kd hh.1 x0) 6) (y_cR hh x0 0 x1 (fun h1 => some ((), h1))) := rfl
def zX6_init_90 (x0 : Nat) (x1 : Nat) (hh : dT) : Option dT := n_chk (Nat.beq (y_k hh x0) 6) (z_cR hh x0 0 x1 (fun h1 => some h1))
theorem sX6_init_90 {N : Nat} {x0 : Nat} {x1 : Nat} {hh : nH} {t : dT} (hN : 1000 ≤ N) (Q_hh : y_Q hh t) : y_S (fX6_init_90 x0 x1 hh) (zX6_init_90 x0 x1 t) := by
  rw [vyX6_init_90]
  unfold zX6_init_90
  refine y_kd Q_hh ?_
  refine y_lR Q_hh (fun h1 Q_h1 => ?_)
  exact y_some Q_h1
theorem vyX6_init (x0 : Nat) (x1 : Nat) (hh : nH) : fX6_init x0 x1 hh = n_chk (Nat.blt 0 x0 && true) (n_chk (!decide ((400 : Int32) < 0) && Nat.ble ((400 : Int32).toNatClampNeg * 1) 536870912) (y_cal hh 13 (400 : Int32).toNatClampNeg (fun a1 h2 => n_chk (Nat.beq (n_kd h2.1 x0) 6) (y_cR h2 x0 1 a1 (fun h3 => n_chk (!decide ((401 : Int32) < 0) && Nat.ble ((401 : Int32).toNatClampNeg * 4) 536870912) (y_cal h3 14 (401 : Int32).toNatClampNeg (fun a4 h5 => n_chk (Nat.beq (n_kd h5.1 x0) 6) (y_cR h5 x0 2 a4 (fun h6 => n_chk (!decide ((401 : Int32) < 0) && Nat.ble ((401 : Int32).toNatClampNeg * 4) 536870912) (y_cal h6 14 (401 : Int32).toNatClampNeg (fun a7 h8 => n_chk (Nat.beq (n_kd h8.1 x0) 6) (y_cR h8 x0 3 a7 (fun h9 => n_chk (!decide ((401 : Int32) < 0) && Nat.ble ((401 : Int32).toNatClampNeg * 4) 536870912) (y_cal h9 14 (401 : Int32).toNatClampNeg (fun a10 h11 => n_chk (Nat.beq (n_kd h11.1 x0) 6) (y_cR h11 x0 4 a10 (fun h12 => n_chk (Nat.beq (n_kd h12.1 x0) 6) (y_cu h12 x0 5 (0 : Int32) (fun h13 => n_chk (Nat.beq (n_kd h13.1 x0) 6) (y_cu h13 x0 6 (0 : Int32) (fun h14 => y_cal h14 3 7 (fun a15 h16 => n_chk (Nat.blt 0 a15) (y_cbd (fX3_init a15 h16) (fun p17 => n_chk (Nat.beq (n_kd p17.1 x0) 6) (y_cR p17 x0 7 a15 (fun h18 => y_cal h18 7 4 (fun a19 h20 => n_chk (Nat.blt 0 a19) (y_cbd (fX7_init a19 (16 : Int32) (4 : Int32) h20) (fun p21 => n_chk (Nat.beq (n_kd p21.1 x0) 6) (y_cR p21 x0 8 a19 (fun h22 => n_chk (Nat.beq (n_kd h22.1 x0) 6) (y_cu h22 x0 9 (0 : Int32) (fun h23 => n_chk (Nat.beq (n_kd h23.1 x0) 6) (y_cu h23 x0 10 (0 : Int32) (fun h24 => n_chk (Nat.beq (n_kd h24.1 x0) 6) (y_cu h24 x0 11 (-1 : Int32) (fun h25 => fX6_init_90 x0 x1 h25))))))))))))))))))))))))))))))))))))) := rfl
def zX6_init (x0 : Nat) (x1 : Nat) (hh : dT) : Option dT := n_chk (Nat.blt 0 x0 && true) (n_chk (!decide ((400 : Int32) < 0) && Nat.ble ((400 : Int32).toNatClampNeg * 1) 536870912) (z_cal hh 13 (400 : Int32).toNatClampNeg (fun a1 h2 => n_chk (Nat.beq (y_k h2 x0) 6) (z_cR h2 x0 1 a1 (fun h3 => n_chk (!decide ((401 : Int32) < 0) && Nat.ble ((401 : Int32).toNatClampNeg * 4) 536870912) (z_cal h3 14 (401 : Int32).toNatClampNeg (fun a4 h5 => n_chk (Nat.beq (y_k h5 x0) 6) (z_cR h5 x0 2 a4 (fun h6 => n_chk (!decide ((401 : Int32) < 0) && Nat.ble ((401 : Int32).toNatClampNeg * 4) 536870912) (z_cal h6 14 (401 : Int32).toNatClampNeg (fun a7 h8 => n_chk (Nat.beq (y_k h8 x0) 6) (z_cR h8 x0 3 a7 (fun h9 => n_chk (!decide ((401 : Int32) < 0) && Nat.ble ((401 : Int32).toNatClampNeg * 4) 536870912) (z_cal h9 14 (401 : Int32).toNatClampNeg (fun a10 h11 => n_chk (Nat.beq (y_k h11 x0) 6) (z_cR h11 x0 4 a10 (fun h12 => n_chk (Nat.beq (y_k h12 x0) 6) (z_cu h12 x0 5 (0 : Int32) (fun h13 => n_chk (Nat.beq (y_k h13 x0) 6) (z_cu h13 x0 6 (0 : Int32) (fun h14 => z_cal h14 3 7 (fun a15 h16 => n_chk (Nat.blt 0 a15) (z_cbd (zX3_init a15 h16) (fun p17 => n_chk (Nat.beq (y_k p17 x0) 6) (z_cR p17 x0 7 a15 (fun h18 => z_cal h18 7 4 (fun a19 h20 => n_chk (Nat.blt 0 a19) (z_cbd (zX7_init a19 (16 : Int32) (4 : Int32) h20) (fun p21 => n_chk (Nat.beq (y_k p21 x0) 6) (z_cR p21 x0 8 a19 (fun h22 => n_chk (Nat.beq (y_k h22 x0) 6) (z_cu h22 x0 9 (0 : Int32) (fun h23 => n_chk (Nat.beq (y_k h23 x0) 6) (z_cu h23 x0 10 (0 : Int32) (fun h24 => n_chk (Nat.beq (y_k h24 x0) 6) (z_cu h24 x0 11 (-1 : Int32) (fun h25 => zX6_init_90 x0 x1 h25)))))))))))))))))))))))))))))))))))))
theorem sX6_init {N : Nat} {x0 : Nat} {x1 : Nat} {hh : nH} {t : dT} (hN : 1000 ≤ N) (Q_hh : y_Q hh t) : y_S (fX6_init x0 x1 hh) (zX6_init x0 x1 t) := by
  rw [vyX6_init]
  unfold zX6_init
  refine y_chk (fun z => z) ?_
  refine y_chk (fun z => z) ?_
  refine y_lal Q_hh (fun h2 Q_h2 => ?_)
  refine y_kd Q_h2 ?_
  refine y_lR Q_h2 (fun h3 Q_h3 => ?_)
  refine y_chk (fun z => z) ?_
  refine y_lal Q_h3 (fun h5 Q_h5 => ?_)
  refine y_kd Q_h5 ?_
  refine y_lR Q_h5 (fun h6 Q_h6 => ?_)
  refine y_chk (fun z => z) ?_
  refine y_lal Q_h6 (fun h8 Q_h8 => ?_)
  refine y_kd Q_h8 ?_
  refine y_lR Q_h8 (fun h9 Q_h9 => ?_)
  refine y_chk (fun z => z) ?_
  refine y_lal Q_h9 (fun h11 Q_h11 => ?_)
  refine y_kd Q_h11 ?_
  refine y_lR Q_h11 (fun h12 Q_h12 => ?_)
  refine y_kd Q_h12 ?_
  refine y_lu Q_h12 (fun h13 Q_h13 => ?_)
  refine y_kd Q_h13 ?_
  refine y_lu Q_h13 (fun h14 Q_h14 => ?_)
  refine y_lal Q_h14 (fun h16 Q_h16 => ?_)
  refine y_chk (fun z => z) ?_
  refine y_lbd (sX3_init hN Q_h16) (fun p17 tp17 Q_p17 => ?_)
  refine y_kd Q_p17 ?_
  refine y_lR Q_p17 (fun h18 Q_h18 => ?_)
  refine y_lal Q_h18 (fun h20 Q_h20 => ?_)
  refine y_chk (fun z => z) ?_
  refine y_lbd (sX7_init hN Q_h20) (fun p21 tp21 Q_p21 => ?_)
  refine y_kd Q_p21 ?_
  refine y_lR Q_p21 (fun h22 Q_h22 => ?_)
  refine y_kd Q_h22 ?_
  refine y_lu Q_h22 (fun h23 Q_h23 => ?_)
  refine y_kd Q_h23 ?_
  refine y_lu Q_h23 (fun h24 Q_h24 => ?_)
  refine y_kd Q_h24 ?_
  refine y_lu Q_h24 (fun h25 Q_h25 => ?_)
  exact sX6_init_90 hN Q_h25
theorem vyX9_init (x0 : Nat) (x1 : Nat) (hh : nH) : fX9_init x0 x1 hh = n_chk (Nat.blt 0 x0 && true) (n_chk (!decide ((256 : Int32) < 0) && Nat.ble ((256 : Int32).toNatClampNeg * 4) 536870912) (y_cal hh 14 (256 : Int32).toNatClampNeg (fun a1 h2 => n_chk (Nat.beq (n_kd h2.1 x0) 9) (y_cR h2 x0 1 a1 (fun h3 => n_chk (!decide ((8 : Int32) < 0) && Nat.ble ((8 : Int32).toNatClampNeg * 4) 536870912) (y_cal h3 14 (8 : Int32).toNatClampNeg (fun a4 h5 => n_chk (Nat.beq (n_kd h5.1 x0) 9) (y_cR h5 x0 2 a4 (fun h6 => n_chk (Nat.beq (n_kd h6.1 x0) 9) (y_cR h6 x0 0 x1 (fun h7 => some ((), h7)))))))))))) := rfl
def zX9_init (x0 : Nat) (x1 : Nat) (hh : dT) : Option dT := n_chk (Nat.blt 0 x0 && true) (n_chk (!decide ((256 : Int32) < 0) && Nat.ble ((256 : Int32).toNatClampNeg * 4) 536870912) (z_cal hh 14 (256 : Int32).toNatClampNeg (fun a1 h2 => n_chk (Nat.beq (y_k h2 x0) 9) (z_cR h2 x0 1 a1 (fun h3 => n_chk (!decide ((8 : Int32) < 0) && Nat.ble ((8 : Int32).toNatClampNeg * 4) 536870912) (z_cal h3 14 (8 : Int32).toNatClampNeg (fun a4 h5 => n_chk (Nat.beq (y_k h5 x0) 9) (z_cR h5 x0 2 a4 (fun h6 => n_chk (Nat.beq (y_k h6 x0) 9) (z_cR h6 x0 0 x1 (fun h7 => some h7)))))))))))
theorem sX9_init {N : Nat} {x0 : Nat} {x1 : Nat} {hh : nH} {t : dT} (hN : 1000 ≤ N) (Q_hh : y_Q hh t) : y_S (fX9_init x0 x1 hh) (zX9_init x0 x1 t) := by
  rw [vyX9_init]
  unfold zX9_init
  refine y_chk (fun z => z) ?_
  refine y_chk (fun z => z) ?_
  refine y_lal Q_hh (fun h2 Q_h2 => ?_)
  refine y_kd Q_h2 ?_
  refine y_lR Q_h2 (fun h3 Q_h3 => ?_)
  refine y_chk (fun z => z) ?_
  refine y_lal Q_h3 (fun h5 Q_h5 => ?_)
  refine y_kd Q_h5 ?_
  refine y_lR Q_h5 (fun h6 Q_h6 => ?_)
  refine y_kd Q_h6 ?_
  refine y_lR Q_h6 (fun h7 Q_h7 => ?_)
  exact y_some Q_h7
theorem vyX2_init (x0 : Nat) (hh : nH) : fX2_init x0 hh = n_chk (Nat.blt 0 x0 && true) (n_chk (!decide ((12 : Int32) < 0) && Nat.ble ((12 : Int32).toNatClampNeg * 4) 536870912) (y_cal hh 14 (12 : Int32).toNatClampNeg (fun a1 h2 => n_chk (Nat.beq (n_kd h2.1 x0) 2) (y_cR h2 x0 0 a1 (fun h3 => n_chk (!decide ((12 : Int32) < 0) && Nat.ble ((12 : Int32).toNatClampNeg * 4) 536870912) (y_cal h3 14 (12 : Int32).toNatClampNeg (fun a4 h5 => n_chk (Nat.beq (n_kd h5.1 x0) 2) (y_cR h5 x0 1 a4 (fun h6 => n_chk (!decide ((12 : Int32) < 0) && Nat.ble ((12 : Int32).toNatClampNeg * 4) 536870912) (y_cal h6 14 (12 : Int32).toNatClampNeg (fun a7 h8 => n_chk (Nat.beq (n_kd h8.1 x0) 2) (y_cR h8 x0 2 a7 (fun h9 => n_chk (!decide ((12 : Int32) < 0) && Nat.ble ((12 : Int32).toNatClampNeg * 4) 536870912) (y_cal h9 14 (12 : Int32).toNatClampNeg (fun a10 h11 => n_chk (Nat.beq (n_kd h11.1 x0) 2) (y_cR h11 x0 3 a10 (fun h12 => n_chk (!decide ((12 : Int32) < 0) && Nat.ble ((12 : Int32).toNatClampNeg * 4) 536870912) (y_cal h12 14 (12 : Int32).toNatClampNeg (fun a13 h14 => n_chk (Nat.beq (n_kd h14.1 x0) 2) (y_cR h14 x0 4 a13 (fun h15 => n_chk (Nat.beq (n_kd h15.1 x0) 2) (y_cu h15 x0 5 (0 : Int32) (fun h16 => some ((), h16)))))))))))))))))))))))) := rfl
def zX2_init (x0 : Nat) (hh : dT) : Option dT := n_chk (Nat.blt 0 x0 && true) (n_chk (!decide ((12 : Int32) < 0) && Nat.ble ((12 : Int32).toNatClampNeg * 4) 536870912) (z_cal hh 14 (12 : Int32).toNatClampNeg (fun a1 h2 => n_chk (Nat.beq (y_k h2 x0) 2) (z_cR h2 x0 0 a1 (fun h3 => n_chk (!decide ((12 : Int32) < 0) && Nat.ble ((12 : Int32).toNatClampNeg * 4) 536870912) (z_cal h3 14 (12 : Int32).toNatClampNeg (fun a4 h5 => n_chk (Nat.beq (y_k h5 x0) 2) (z_cR h5 x0 1 a4 (fun h6 => n_chk (!decide ((12 : Int32) < 0) && Nat.ble ((12 : Int32).toNatClampNeg * 4) 536870912) (z_cal h6 14 (12 : Int32).toNatClampNeg (fun a7 h8 => n_chk (Nat.beq (y_k h8 x0) 2) (z_cR h8 x0 2 a7 (fun h9 => n_chk (!decide ((12 : Int32) < 0) && Nat.ble ((12 : Int32).toNatClampNeg * 4) 536870912) (z_cal h9 14 (12 : Int32).toNatClampNeg (fun a10 h11 => n_chk (Nat.beq (y_k h11 x0) 2) (z_cR h11 x0 3 a10 (fun h12 => n_chk (!decide ((12 : Int32) < 0) && Nat.ble ((12 : Int32).toNatClampNeg * 4) 536870912) (z_cal h12 14 (12 : Int32).toNatClampNeg (fun a13 h14 => n_chk (Nat.beq (y_k h14 x0) 2) (z_cR h14 x0 4 a13 (fun h15 => n_chk (Nat.beq (y_k h15 x0) 2) (z_cu h15 x0 5 (0 : Int32) (fun h16 => some h16)))))))))))))))))))))))
theorem sX2_init {N : Nat} {x0 : Nat} {hh : nH} {t : dT} (hN : 1000 ≤ N) (Q_hh : y_Q hh t) : y_S (fX2_init x0 hh) (zX2_init x0 t) := by
  rw [vyX2_init]
  unfold zX2_init
  refine y_chk (fun z => z) ?_
  refine y_chk (fun z => z) ?_
  refine y_lal Q_hh (fun h2 Q_h2 => ?_)
  refine y_kd Q_h2 ?_
  refine y_lR Q_h2 (fun h3 Q_h3 => ?_)
  refine y_chk (fun z => z) ?_
  refine y_lal Q_h3 (fun h5 Q_h5 => ?_)
  refine y_kd Q_h5 ?_
  refine y_lR Q_h5 (fun h6 Q_h6 => ?_)
  refine y_chk (fun z => z) ?_
  refine y_lal Q_h6 (fun h8 Q_h8 => ?_)
  refine y_kd Q_h8 ?_
  refine y_lR Q_h8 (fun h9 Q_h9 => ?_)
  refine y_chk (fun z => z) ?_
  refine y_lal Q_h9 (fun h11 Q_h11 => ?_)
  refine y_kd Q_h11 ?_
  refine y_lR Q_h11 (fun h12 Q_h12 => ?_)
  refine y_chk (fun z => z) ?_
  refine y_lal Q_h12 (fun h14 Q_h14 => ?_)
  refine y_kd Q_h14 ?_
  refine y_lR Q_h14 (fun h15 Q_h15 => ?_)
  refine y_kd Q_h15 ?_
  refine y_lu Q_h15 (fun h16 Q_h16 => ?_)
  exact y_some Q_h16
theorem vyX11_init_97 (N : Nat) (x0 : Nat) (s0 : Nat) (s1 : Nat) (hh : nH) : fX11_init_97 N x0 s0 s1 hh = n_chk (Nat.beq (n_kd hh.1 s1) 11) (y_cR hh s1 6 s0 (fun h1 => n_chk (Nat.beq (n_kd h1.1 x0) 11) (y_cR h1 x0 7 0 (fun h2 => some ((), h2))))) := rfl
def zX11_init_97 (x0 : Nat) (s0 : Nat) (s1 : Nat) (hh : dT) : Option dT := n_chk (Nat.beq (y_k hh s1) 11) (z_cR hh s1 6 s0 (fun h1 => n_chk (Nat.beq (y_k h1 x0) 11) (z_cR h1 x0 7 0 (fun h2 => some h2))))
theorem sX11_init_97 {N : Nat} {x0 : Nat} {s0 : Nat} {s1 : Nat} {hh : nH} {t : dT} (hN : 1000 ≤ N) (Q_hh : y_Q hh t) : y_S (fX11_init_97 N x0 s0 s1 hh) (zX11_init_97 x0 s0 s1 t) := by
  rw [vyX11_init_97]
  unfold zX11_init_97
  refine y_kd Q_hh ?_
  refine y_lR Q_hh (fun h1 Q_h1 => ?_)
  refine y_kd Q_h1 ?_
  refine y_lR Q_h1 (fun h2 Q_h2 => ?_)
  exact y_some Q_h2
theorem vyX11_init (N : Nat) (x0 : Nat) (hh : nH) : fX11_init N x0 hh = n_chk (Nat.blt 0 x0 && true) (y_cal hh 1 8 (fun a1 h2 => n_chk (Nat.blt 0 a1) (y_cbd (fX1_init N a1 h2) (fun p3 => n_chk (Nat.beq (n_kd p3.1 x0) 11) (y_cR p3 x0 0 a1 (fun h4 => y_cal h4 0 3 (fun a5 h6 => n_chk (Nat.beq (n_kd h6.1 x0) 11) (y_cmr h6 x0 0 (fun a7 => n_chk (Nat.blt 0 a5) (y_cbd (fX0_init a5 a7 h6) (fun p8 => n_chk (Nat.beq (n_kd p8.1 x0) 11) (y_cR p8 x0 1 a5 (fun h9 => y_cal h9 5 3 (fun a10 h11 => n_chk (Nat.blt 0 a10) (y_cbd (fX5_init N a10 h11) (fun p12 => n_chk (Nat.beq (n_kd p12.1 x0) 11) (y_cR p12 x0 2 a10 (fun h13 => y_cal h13 6 12 (fun a14 h15 => n_chk (Nat.beq (n_kd h15.1 x0) 11) (y_cmr h15 x0 0 (fun a16 => n_chk (Nat.beq (n_kd h15.1 a16) 1) (y_cmr h15 a16 0 (fun a17 => n_chk (Nat.blt 0 a14) (y_cbd (fX6_init a14 a17 h15) (fun p18 => n_chk (Nat.beq (n_kd p18.1 x0) 11) (y_cR p18 x0 3 a14 (fun h19 => y_cal h19 4 12 (fun a20 h21 => n_chk (Nat.blt 0 a20) (y_cbd (fX4_init a20 (1 : Int32) h21) (fun p22 => n_chk (Nat.beq (n_kd p22.1 x0) 11) (y_cR p22 x0 4 a20 (fun h23 => y_cal h23 9 3 (fun a24 h25 => n_chk (Nat.beq (n_kd h25.1 x0) 11) (y_cmr h25 x0 0 (fun a26 => n_chk (Nat.beq (n_kd h25.1 a26) 1) (y_cmr h25 a26 7 (fun a27 => n_chk (Nat.blt 0 a24) (y_cbd (fX9_init a24 a27 h25) (fun p28 => n_chk (Nat.beq (n_kd p28.1 x0) 11) (y_cR p28 x0 5 a24 (fun h29 => y_cal h29 2 6 (fun a30 h31 => n_chk (Nat.blt 0 a30) (y_cbd (fX2_init a30 h31) (fun p32 => fX11_init_97 N x0 a30 x0 p32)))))))))))))))))))))))))))))))))))))))))))) := rfl
def zX11_init (x0 : Nat) (hh : dT) : Option dT := n_chk (Nat.blt 0 x0 && true) (z_cal hh 1 8 (fun a1 h2 => n_chk (Nat.blt 0 a1) (z_cbd (zX1_init a1 h2) (fun p3 => n_chk (Nat.beq (y_k p3 x0) 11) (z_cR p3 x0 0 a1 (fun h4 => z_cal h4 0 3 (fun a5 h6 => n_chk (Nat.beq (y_k h6 x0) 11) (z_cmr h6 x0 0 (fun a7 => n_chk (Nat.blt 0 a5) (z_cbd (zX0_init a5 a7 h6) (fun p8 => n_chk (Nat.beq (y_k p8 x0) 11) (z_cR p8 x0 1 a5 (fun h9 => z_cal h9 5 3 (fun a10 h11 => n_chk (Nat.blt 0 a10) (z_cbd (zX5_init a10 h11) (fun p12 => n_chk (Nat.beq (y_k p12 x0) 11) (z_cR p12 x0 2 a10 (fun h13 => z_cal h13 6 12 (fun a14 h15 => n_chk (Nat.beq (y_k h15 x0) 11) (z_cmr h15 x0 0 (fun a16 => n_chk (Nat.beq (y_k h15 a16) 1) (z_cmr h15 a16 0 (fun a17 => n_chk (Nat.blt 0 a14) (z_cbd (zX6_init a14 a17 h15) (fun p18 => n_chk (Nat.beq (y_k p18 x0) 11) (z_cR p18 x0 3 a14 (fun h19 => z_cal h19 4 12 (fun a20 h21 => n_chk (Nat.blt 0 a20) (z_cbd (zX4_init a20 (1 : Int32) h21) (fun p22 => n_chk (Nat.beq (y_k p22 x0) 11) (z_cR p22 x0 4 a20 (fun h23 => z_cal h23 9 3 (fun a24 h25 => n_chk (Nat.beq (y_k h25 x0) 11) (z_cmr h25 x0 0 (fun a26 => n_chk (Nat.beq (y_k h25 a26) 1) (z_cmr h25 a26 7 (fun a27 => n_chk (Nat.blt 0 a24) (z_cbd (zX9_init a24 a27 h25) (fun p28 => n_chk (Nat.beq (y_k p28 x0) 11) (z_cR p28 x0 5 a24 (fun h29 => z_cal h29 2 6 (fun a30 h31 => n_chk (Nat.blt 0 a30) (z_cbd (zX2_init a30 h31) (fun p32 => zX11_init_97 x0 a30 x0 p32))))))))))))))))))))))))))))))))))))))))))))
theorem sX11_init {N : Nat} {x0 : Nat} {hh : nH} {t : dT} (hN : 1000 ≤ N) (Q_hh : y_Q hh t) : y_S (fX11_init N x0 hh) (zX11_init x0 t) := by
  rw [vyX11_init]
  unfold zX11_init
  refine y_chk (fun z => z) ?_
  refine y_lal Q_hh (fun h2 Q_h2 => ?_)
  refine y_chk (fun z => z) ?_
  refine y_lbd (sX1_init hN Q_h2) (fun p3 tp3 Q_p3 => ?_)
  refine y_kd Q_p3 ?_
  refine y_lR Q_p3 (fun h4 Q_h4 => ?_)
  refine y_lal Q_h4 (fun h6 Q_h6 => ?_)
  refine y_kd Q_h6 ?_
  refine y_lmr Q_h6 ?_
  refine y_chk (fun z => z) ?_
  refine y_lbd (sX0_init hN Q_h6) (fun p8 tp8 Q_p8 => ?_)
  refine y_kd Q_p8 ?_
  refine y_lR Q_p8 (fun h9 Q_h9 => ?_)
  refine y_lal Q_h9 (fun h11 Q_h11 => ?_)
  refine y_chk (fun z => z) ?_
  refine y_lbd (sX5_init hN Q_h11) (fun p12 tp12 Q_p12 => ?_)
  refine y_kd Q_p12 ?_
  refine y_lR Q_p12 (fun h13 Q_h13 => ?_)
  refine y_lal Q_h13 (fun h15 Q_h15 => ?_)
  refine y_kd Q_h15 ?_
  refine y_lmr Q_h15 ?_
  refine y_kd Q_h15 ?_
  refine y_lmr Q_h15 ?_
  refine y_chk (fun z => z) ?_
  refine y_lbd (sX6_init hN Q_h15) (fun p18 tp18 Q_p18 => ?_)
  refine y_kd Q_p18 ?_
  refine y_lR Q_p18 (fun h19 Q_h19 => ?_)
  refine y_lal Q_h19 (fun h21 Q_h21 => ?_)
  refine y_chk (fun z => z) ?_
  refine y_lbd (sX4_init hN Q_h21) (fun p22 tp22 Q_p22 => ?_)
  refine y_kd Q_p22 ?_
  refine y_lR Q_p22 (fun h23 Q_h23 => ?_)
  refine y_lal Q_h23 (fun h25 Q_h25 => ?_)
  refine y_kd Q_h25 ?_
  refine y_lmr Q_h25 ?_
  refine y_kd Q_h25 ?_
  refine y_lmr Q_h25 ?_
  refine y_chk (fun z => z) ?_
  refine y_lbd (sX9_init hN Q_h25) (fun p28 tp28 Q_p28 => ?_)
  refine y_kd Q_p28 ?_
  refine y_lR Q_p28 (fun h29 Q_h29 => ?_)
  refine y_lal Q_h29 (fun h31 Q_h31 => ?_)
  refine y_chk (fun z => z) ?_
  refine y_lbd (sX2_init hN Q_h31) (fun p32 tp32 Q_p32 => ?_)
  exact sX11_init_97 hN Q_p32
