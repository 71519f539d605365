/-! ===== image: the house that is kept, made anew ===== -/
def by_n (B : nH) : dT → Nat
  | [] => n_n B.1
  | (o, a, _, _, _) :: t => bif Nat.beq o 0 then a else by_n B t
def by_s (B : nH) : dT → Nat
  | [] => n_sl B.1
  | (o, _, _, l, _) :: t => bif Nat.beq o 0 then by_s B t + l else by_s B t
def by_k (B : nH) : dT → Nat → Nat
  | [], a => n_kd B.1 a
  | (o, b, k, _, _) :: t, a => bif Nat.beq o 0 && Nat.beq a b then k else by_k B t a
def by_l (B : nH) : dT → Nat → Nat
  | [], a => n_len B.1 a
  | (o, b, _, l, _) :: t, a => bif Nat.beq o 0 && Nat.beq a b then l else by_l B t a
def by_r (B : nH) : dT → Nat → Nat → Nat
  | [], a, i => n_mr B.1 a i
  | (o, b, j, v, _) :: t, a, i => bif Nat.beq o 0 && Nat.beq a b then 0 else bif Nat.beq o 1 && (Nat.beq a b && Nat.beq i j) then v else by_r B t a i
def by_m (B : nH) : dT → Nat → Nat → Int32
  | [], a, i => B.2 a i
  | (o, b, j, l, v) :: t, a, i => bif Nat.beq o 0 && Nat.beq a b then 0 else bif Nat.beq o 2 && (Nat.beq a b && Nat.beq i j) then v else bif Nat.beq o 3 && (Nat.beq a b && Nat.blt i l) then v else by_m B t a i
def by_al (B : nH) (t : dT) (k l : Nat) : dT := (0, by_n B t + 1, k, l, 0) :: t
def by_Q (B : nH) (h : nH) (t : dT) : Prop := n_n h.1 = by_n B t ∧ n_sl h.1 = by_s B t ∧ (∀ a, n_kd h.1 a = by_k B t a) ∧ (∀ a, n_len h.1 a = by_l B t a) ∧ (∀ a i, n_mr h.1 a i = by_r B t a i) ∧ ∀ a i, h.2 a i = by_m B t a i
theorem by_qal {B : nH} {h : nH} {t : dT} (hQ : by_Q B h t) (k l : Nat) : by_Q B (n_alloc h k l) (by_al B t k l) := by
  obtain ⟨q1, q2, q3, q4, q5, q6⟩ := hQ
  refine ⟨?_, ?_, fun a => ?_, fun a => ?_, fun a i => ?_, fun a i => ?_⟩
  · show n_n h.1 + 1 = by_n B t + 1
    rw [q1]
  · show n_sl h.1 + l = by_s B t + l
    rw [q2]
  · show va_up (n_kd h.1) (n_n h.1 + 1) k a = bif true && Nat.beq a (by_n B t + 1) then k else by_k B t a
    rw [q1, Bool.true_and, y_beq]
    by_cases e : a = by_n B t + 1
    · rw [e, va_up_self, decide_eq_true rfl]; rfl
    · rw [va_up_ne _ _ e, decide_eq_false e]; exact q3 a
  · show va_up (n_len h.1) (n_n h.1 + 1) l a = bif true && Nat.beq a (by_n B t + 1) then l else by_l B t a
    rw [q1, Bool.true_and, y_beq]
    by_cases e : a = by_n B t + 1
    · rw [e, va_up_self, decide_eq_true rfl]; rfl
    · rw [va_up_ne _ _ e, decide_eq_false e]; exact q4 a
  · show va_up (n_mr h.1) (n_n h.1 + 1) (fun _ => 0) a i = bif true && Nat.beq a (by_n B t + 1) then 0 else bif false && _ then _ else by_r B t a i
    rw [q1, Bool.true_and, y_beq]
    by_cases e : a = by_n B t + 1
    · rw [e, va_up_self, decide_eq_true rfl]; rfl
    · rw [va_up_ne _ _ e, decide_eq_false e]; exact q5 a i
  · show va_up h.2 (n_n h.1 + 1) (fun _ => 0) a i = bif true && Nat.beq a (by_n B t + 1) then 0 else bif false && _ then _ else bif false && _ then _ else by_m B t a i
    rw [q1, Bool.true_and, y_beq]
    by_cases e : a = by_n B t + 1
    · rw [e, va_up_self, decide_eq_true rfl]; rfl
    · rw [va_up_ne _ _ e, decide_eq_false e]; exact q6 a i
theorem by_qR {B : nH} {h : nH} {t : dT} (hQ : by_Q B h t) (x j v : Nat) : by_Q B (n_upR h x j v) (y_R t x j v) := by
  obtain ⟨q1, q2, q3, q4, q5, q6⟩ := hQ
  refine ⟨q1, q2, q3, q4, fun a i => ?_, q6⟩
  show va_up (n_mr h.1) x (va_up (n_mr h.1 x) j v) a i = bif false && _ then _ else bif true && (Nat.beq a x && Nat.beq i j) then v else by_r B t a i
  rw [Bool.true_and, y_beq, y_beq]
  by_cases e : a = x
  · rw [e, va_up_self, decide_eq_true rfl, Bool.true_and]
    by_cases e2 : i = j
    · rw [e2, va_up_self, decide_eq_true rfl]; rfl
    · rw [va_up_ne _ _ e2, decide_eq_false e2]; exact q5 x i
  · rw [va_up_ne _ _ e, decide_eq_false e]; exact q5 a i
theorem by_qu {B : nH} {h : nH} {t : dT} (hQ : by_Q B h t) (x j : Nat) (v : Int32) : by_Q B (h.1, n_up h.2 x j v) (y_u t x j v) := by
  obtain ⟨q1, q2, q3, q4, q5, q6⟩ := hQ
  refine ⟨q1, q2, q3, q4, q5, fun a i => ?_⟩
  show n_up h.2 x j v a i = bif false && _ then _ else bif true && (Nat.beq a x && Nat.beq i j) then v else bif false && _ then _ else by_m B t a i
  rw [Bool.true_and, y_beq, y_beq]
  by_cases e : a = x
  · subst e
    rw [n_up_eq, decide_eq_true rfl, Bool.true_and]
    by_cases e2 : i = j
    · rw [e2, upd_eq, decide_eq_true rfl]; rfl
    · rw [upd_ne e2, decide_eq_false e2]; exact q6 a i
  · rw [n_up_ne e, decide_eq_false e]; exact q6 a i
theorem by_qf {B : nH} {h : nH} {t : dT} (hQ : by_Q B h t) (c l : Nat) (v : Int32) : by_Q B (h.1, n_set h.2 c (fun i => if 0 ≤ i ∧ i < l then v else h.2 c i)) (y_f t c l v) := by
  obtain ⟨q1, q2, q3, q4, q5, q6⟩ := hQ
  refine ⟨q1, q2, q3, q4, q5, fun a i => ?_⟩
  show n_set h.2 c (fun i => if 0 ≤ i ∧ i < l then v else h.2 c i) a i = bif false && _ then _ else bif false && _ then _ else bif true && (Nat.beq a c && Nat.blt i l) then v else by_m B t a i
  rw [Bool.true_and, y_beq]
  by_cases e : a = c
  · subst e
    rw [n_set_eq, decide_eq_true rfl, Bool.true_and]
    cases e2 : Nat.blt i l with
    | true =>
      have : i < l := Nat.le_of_ble_eq_true e2
      rw [if_pos ⟨Nat.zero_le _, this⟩]; rfl
    | false =>
      have : ¬ i < l := fun z => by
        have := Nat.ble_eq_true_of_le (show i + 1 ≤ l from z)
        have e3 : Nat.blt i l = Nat.ble (i + 1) l := rfl
        rw [e3, this] at e2
        exact absurd e2 (by decide)
      rw [if_neg (fun z => this z.2)]; exact q6 a i
  · rw [n_set_ne e, decide_eq_false e]; exact q6 a i
def by_S (B : nH) (x : Option (Unit × nH)) (y : Option dT) : Prop := ∀ t, y = some t → ∃ h, x = some ((), h) ∧ by_Q B h t
theorem by_chk {B : nH} {c c' : Bool} {x : Option (Unit × nH)} {y : Option dT} (hc : c' = true → c = true) (hs : by_S B x y) : by_S B (n_chk c x) (n_chk c' y) := fun t e => by
  cases e1 : c' with
  | false => rw [e1] at e; exact absurd (show (none : Option dT) = some t from e) (by simp)
  | true =>
    rw [e1] at e
    rw [hc e1]
    exact hs t e
def by_in (B : nH) (t : dT) (k a : Nat) (i : Int32) : Bool := Nat.beq (by_k B t a) k && (!decide (i < 0) && Nat.blt i.toNatClampNeg (by_l B t a))
theorem by_kd {B : nH} {h : nH} {t : dT} {a k : Nat} {x : Option (Unit × nH)} {y : Option dT} (hQ : by_Q B h t) (hs : by_S B x y) : by_S B (n_chk (Nat.beq (n_kd h.1 a) k) x) (n_chk (Nat.beq (by_k B t a) k) y) := by_chk (fun z => by rw [hQ.2.2.1]; exact z) hs
theorem by_kd2 {B : nH} {h : nH} {t : dT} {a k : Nat} {c : Bool} {x : Option (Unit × nH)} {y : Option dT} (hQ : by_Q B h t) (hs : by_S B x y) : by_S B (n_chk (Nat.beq (n_kd h.1 a) k && c) x) (n_chk (Nat.beq (by_k B t a) k && c) y) := by_chk (fun z => by rw [hQ.2.2.1]; exact z) hs
theorem by_lin {B : nH} {h : nH} {t : dT} {a k : Nat} {i : Int32} {x : Option (Unit × nH)} {y : Option dT} (hQ : by_Q B h t) (hs : by_S B x y) : by_S B (n_chk (n_in h.1 k a i) x) (n_chk (by_in B t k a i) y) := by_chk (fun z => by unfold n_in; rw [hQ.2.2.1, hQ.2.2.2.1]; exact z) hs
theorem by_lin2 {B : nH} {h : nH} {t : dT} {a k b k2 : Nat} {i : Int32} {x : Option (Unit × nH)} {y : Option dT} (hQ : by_Q B h t) (hs : by_S B x y) : by_S B (n_chk (n_in h.1 k a i && Nat.beq (n_kd h.1 b) k2) x) (n_chk (by_in B t k a i && Nat.beq (by_k B t b) k2) y) := by_chk (fun z => by unfold n_in; rw [hQ.2.2.1, hQ.2.2.1, hQ.2.2.2.1]; exact z) hs
def bz_cal (B : nH) (t : dT) (k l : Nat) (K : Nat → dT → Option dT) : Option dT := K (by_n B t + 1) (by_al B t k l)
theorem by_lal {B : nH} {h : nH} {t : dT} {k l : Nat} {K : Nat → nH → Option (Unit × nH)} {K' : Nat → dT → Option dT} (hQ : by_Q B h t) (H : ∀ h2, by_Q B h2 (by_al B t k l) → by_S B (K (by_n B t + 1) h2) (K' (by_n B t + 1) (by_al B t k l))) : by_S B (y_cal h k l K) (bz_cal B t k l K') := by
  have := H (n_alloc h k l) (by_qal hQ k l)
  unfold y_cal bz_cal
  rw [hQ.1]
  exact this
theorem by_lR {B : nH} {h : nH} {t : dT} {x j a : Nat} {K : nH → Option (Unit × nH)} {K' : dT → Option dT} (hQ : by_Q B h t) (H : ∀ h2, by_Q B h2 (y_R t x j a) → by_S B (K h2) (K' (y_R t x j a))) : by_S B (y_cR h x j a K) (z_cR t x j a K') := H _ (by_qR hQ x j a)
theorem by_lu {B : nH} {h : nH} {t : dT} {x j : Nat} {v : Int32} {K : nH → Option (Unit × nH)} {K' : dT → Option dT} (hQ : by_Q B h t) (H : ∀ h2, by_Q B h2 (y_u t x j v) → by_S B (K h2) (K' (y_u t x j v))) : by_S B (y_cu h x j v K) (z_cu t x j v K') := H _ (by_qu hQ x j v)
def bz_cmr (B : nH) (t : dT) (x j : Nat) (K : Nat → Option dT) : Option dT := K (by_r B t x j)
theorem by_lmr {B : nH} {h : nH} {t : dT} {x j : Nat} {K : Nat → Option (Unit × nH)} {K' : Nat → Option dT} (hQ : by_Q B h t) (H : by_S B (K (by_r B t x j)) (K' (by_r B t x j))) : by_S B (y_cmr h x j K) (bz_cmr B t x j K') := by
  unfold y_cmr bz_cmr
  rw [hQ.2.2.2.2.1]
  exact H
def bz_cmv (B : nH) (t : dT) (x j : Nat) (K : Int32 → Option dT) : Option dT := K (by_m B t x j)
theorem by_lmv {B : nH} {h : nH} {t : dT} {x j : Nat} {K : Int32 → Option (Unit × nH)} {K' : Int32 → Option dT} (hQ : by_Q B h t) (H : by_S B (K (by_m B t x j)) (K' (by_m B t x j))) : by_S B (y_cmv h x j K) (bz_cmv B t x j K') := by
  unfold y_cmv bz_cmv
  rw [hQ.2.2.2.2.2]
  exact H
theorem by_lbd {B : nH} {x : Option (Unit × nH)} {y : Option dT} {K : nH → Option (Unit × nH)} {K' : dT → Option dT} (hs : by_S B x y) (H : ∀ h t, by_Q B h t → by_S B (K h) (K' t)) : by_S B (y_cbd x K) (z_cbd y K') := fun t e => by
  obtain ⟨u, u1, u2⟩ := Option.bind_eq_some_iff.mp (show y.bind K' = some t from e)
  obtain ⟨h, h1, h2⟩ := hs u u1
  unfold y_cbd
  rw [h1, Option.bind_some]
  exact H h u h2 t u2
def bz_cfi (B : nH) (t : dT) (a : Nat) (v : Int32) (K : dT → Option dT) : Option dT := n_chk (Nat.beq (by_k B t a) 14 && Nat.blt (by_l B t a) 1000) (K (y_f t a (by_l B t a) v))
theorem by_lfi {B : nH} {N : Nat} {h : nH} {t : dT} {a : Nat} {v : Int32} {K : nH → Option (Unit × nH)} {K' : dT → Option dT} (hN : 1000 ≤ N) (hQ : by_Q B h t) (H : ∀ h2, by_Q B h2 (y_f t a (by_l B t a) v) → by_S B (K h2) (K' (y_f t a (by_l B t a) v))) : by_S B (y_cfi N h a v K) (bz_cfi B t a v K') := fun t2 e => by
  unfold bz_cfi at e
  cases e1 : (Nat.beq (by_k B t a) 14 && Nat.blt (by_l B t a) 1000) with
  | false => rw [e1] at e; exact absurd (show (none : Option dT) = some t2 from e) (by simp)
  | true =>
    rw [e1, n_chk_t] at e
    rw [Bool.and_eq_true] at e1
    have k1 : n_kd h.1 a = 14 := by rw [hQ.2.2.1]; exact Nat.eq_of_beq_eq_true e1.1
    have k2 : n_len h.1 a = by_l B t a := hQ.2.2.2.1 a
    have k3 : by_l B t a < 1000 := Nat.le_of_ble_eq_true e1.2
    unfold y_cfi
    rw [e_fill k1 k2 k3 hN h.2, Option.bind_some]
    exact H _ (by_qf hQ a (by_l B t a) v) t2 e
theorem by_some {B : nH} {h : nH} {t : dT} (hQ : by_Q B h t) : by_S B (some ((), h)) (some t) := fun u e => ⟨h, rfl, by rw [← Option.some.inj e]; exact hQ⟩
def bzX8_init (B : nH) (x0 : Nat) (hh : dT) : Option dT := n_chk (Nat.blt 0 x0 && true) (n_chk (!decide ((12 : Int32) < 0) && Nat.ble ((12 : Int32).toNatClampNeg * 4) 536870912) (bz_cal B hh 14 (12 : Int32).toNatClampNeg (fun a1 h2 => n_chk (Nat.beq (by_k B h2 x0) 8) (z_cR h2 x0 0 a1 (fun h3 => n_chk (!decide ((16 : Int32) < 0) && Nat.ble ((16 : Int32).toNatClampNeg * 4) 536870912) (bz_cal B h3 14 (16 : Int32).toNatClampNeg (fun a4 h5 => n_chk (Nat.beq (by_k B h5 x0) 8) (z_cR h5 x0 1 a4 (fun h6 => n_chk (!decide ((16 : Int32) < 0) && Nat.ble ((16 : Int32).toNatClampNeg * 4) 536870912) (bz_cal B h6 14 (16 : Int32).toNatClampNeg (fun a7 h8 => n_chk (Nat.beq (by_k B h8 x0) 8) (z_cR h8 x0 2 a7 (fun h9 => n_chk (!decide ((12 : Int32) < 0) && Nat.ble ((12 : Int32).toNatClampNeg * 4) 536870912) (bz_cal B h9 14 (12 : Int32).toNatClampNeg (fun a10 h11 => n_chk (Nat.beq (by_k B h11 x0) 8) (z_cR h11 x0 3 a10 (fun h12 => n_chk (!decide ((12 : Int32) < 0) && Nat.ble ((12 : Int32).toNatClampNeg * 4) 536870912) (bz_cal B h12 14 (12 : Int32).toNatClampNeg (fun a13 h14 => n_chk (Nat.beq (by_k B h14 x0) 8) (z_cR h14 x0 4 a13 (fun h15 => n_chk (Nat.beq (by_k B h15 x0) 8) (z_cu h15 x0 5 (0 : Int32) (fun h16 => n_chk (Nat.beq (by_k B h16 x0) 8) (z_cu h16 x0 6 (0 : Int32) (fun h17 => n_chk (Nat.beq (by_k B h17 x0) 8) (bz_cmr B h17 x0 0 (fun a18 => bz_cfi B h17 a18 (9 : Int32) (fun h20 => some h20))))))))))))))))))))))))))))
theorem bsX8_init {B : nH} {N : Nat} {x0 : Nat} {hh : nH} {t : dT} (hN : 1000 ≤ N) (Q_hh : by_Q B hh t) : by_S B (fX8_init N x0 hh) (bzX8_init B x0 t) := by
  rw [vyX8_init]
  unfold bzX8_init
  refine by_chk (fun z => z) ?_
  refine by_chk (fun z => z) ?_
  refine by_lal Q_hh (fun h2 Q_h2 => ?_)
  refine by_kd Q_h2 ?_
  refine by_lR Q_h2 (fun h3 Q_h3 => ?_)
  refine by_chk (fun z => z) ?_
  refine by_lal Q_h3 (fun h5 Q_h5 => ?_)
  refine by_kd Q_h5 ?_
  refine by_lR Q_h5 (fun h6 Q_h6 => ?_)
  refine by_chk (fun z => z) ?_
  refine by_lal Q_h6 (fun h8 Q_h8 => ?_)
  refine by_kd Q_h8 ?_
  refine by_lR Q_h8 (fun h9 Q_h9 => ?_)
  refine by_chk (fun z => z) ?_
  refine by_lal Q_h9 (fun h11 Q_h11 => ?_)
  refine by_kd Q_h11 ?_
  refine by_lR Q_h11 (fun h12 Q_h12 => ?_)
  refine by_chk (fun z => z) ?_
  refine by_lal Q_h12 (fun h14 Q_h14 => ?_)
  refine by_kd Q_h14 ?_
  refine by_lR Q_h14 (fun h15 Q_h15 => ?_)
  refine by_kd Q_h15 ?_
  refine by_lu Q_h15 (fun h16 Q_h16 => ?_)
  refine by_kd Q_h16 ?_
  refine by_lu Q_h16 (fun h17 Q_h17 => ?_)
  refine by_kd Q_h17 ?_
  refine by_lmr Q_h17 ?_
  refine by_lfi hN Q_h17 (fun h20 Q_h20 => ?_)
  exact by_some Q_h20

def bzX4_init (B : nH) (x0 : Nat) (x1 : Int32) (hh : dT) : Option dT := n_chk (Nat.blt 0 x0 && true) (n_chk (!decide ((16 : Int32) < 0) && Nat.ble ((16 : Int32).toNatClampNeg * 4) 536870912) (bz_cal B hh 14 (16 : Int32).toNatClampNeg (fun a1 h2 => n_chk (Nat.beq (by_k B h2 x0) 4) (z_cR h2 x0 1 a1 (fun h3 => n_chk (!decide ((16 : Int32) < 0) && Nat.ble ((16 : Int32).toNatClampNeg * 4) 536870912) (bz_cal B h3 14 (16 : Int32).toNatClampNeg (fun a4 h5 => n_chk (Nat.beq (by_k B h5 x0) 4) (z_cR h5 x0 2 a4 (fun h6 => n_chk (!decide ((12 : Int32) < 0) && Nat.ble ((12 : Int32).toNatClampNeg * 4) 536870912) (bz_cal B h6 14 (12 : Int32).toNatClampNeg (fun a7 h8 => n_chk (Nat.beq (by_k B h8 x0) 4) (z_cR h8 x0 3 a7 (fun h9 => n_chk (!decide ((12 : Int32) < 0) && Nat.ble ((12 : Int32).toNatClampNeg * 4) 536870912) (bz_cal B h9 14 (12 : Int32).toNatClampNeg (fun a10 h11 => n_chk (Nat.beq (by_k B h11 x0) 4) (z_cR h11 x0 4 a10 (fun h12 => n_chk (Nat.beq (by_k B h12 x0) 4) (z_cu h12 x0 5 (0 : Int32) (fun h13 => n_chk (Nat.beq (by_k B h13 x0) 4) (z_cu h13 x0 6 (0 : Int32) (fun h14 => n_chk (Nat.beq (by_k B h14 x0) 4) (z_cu h14 x0 7 (0 : Int32) (fun h15 => n_chk (Nat.beq (by_k B h15 x0) 4) (z_cu h15 x0 8 (0 : Int32) (fun h16 => n_chk (Nat.beq (by_k B h16 x0) 4) (z_cu h16 x0 9 (0 : Int32) (fun h17 => n_chk (Nat.beq (by_k B h17 x0) 4) (z_cu h17 x0 10 (0 : Int32) (fun h18 => n_chk (Nat.beq (by_k B h18 x0) 4) (z_cu h18 x0 11 (0 : Int32) (fun h19 => n_chk (Nat.beq (by_k B h19 x0) 4 && (x1 == 0 || x1 == 1)) (z_cu h19 x0 0 x1 (fun h20 => some h20)))))))))))))))))))))))))))))))))
theorem bsX4_init {B : nH} {N : Nat} {x0 : Nat} {x1 : Int32} {hh : nH} {t : dT} (hN : 1000 ≤ N) (Q_hh : by_Q B hh t) : by_S B (fX4_init x0 x1 hh) (bzX4_init B x0 x1 t) := by
  rw [vyX4_init]
  unfold bzX4_init
  refine by_chk (fun z => z) ?_
  refine by_chk (fun z => z) ?_
  refine by_lal Q_hh (fun h2 Q_h2 => ?_)
  refine by_kd Q_h2 ?_
  refine by_lR Q_h2 (fun h3 Q_h3 => ?_)
  refine by_chk (fun z => z) ?_
  refine by_lal Q_h3 (fun h5 Q_h5 => ?_)
  refine by_kd Q_h5 ?_
  refine by_lR Q_h5 (fun h6 Q_h6 => ?_)
  refine by_chk (fun z => z) ?_
  refine by_lal Q_h6 (fun h8 Q_h8 => ?_)
  refine by_kd Q_h8 ?_
  refine by_lR Q_h8 (fun h9 Q_h9 => ?_)
  refine by_chk (fun z => z) ?_
  refine by_lal Q_h9 (fun h11 Q_h11 => ?_)
  refine by_kd Q_h11 ?_
  refine by_lR Q_h11 (fun h12 Q_h12 => ?_)
  refine by_kd Q_h12 ?_
  refine by_lu Q_h12 (fun h13 Q_h13 => ?_)
  refine by_kd Q_h13 ?_
  refine by_lu Q_h13 (fun h14 Q_h14 => ?_)
  refine by_kd Q_h14 ?_
  refine by_lu Q_h14 (fun h15 Q_h15 => ?_)
  refine by_kd Q_h15 ?_
  refine by_lu Q_h15 (fun h16 Q_h16 => ?_)
  refine by_kd Q_h16 ?_
  refine by_lu Q_h16 (fun h17 Q_h17 => ?_)
  refine by_kd Q_h17 ?_
  refine by_lu Q_h17 (fun h18 Q_h18 => ?_)
  refine by_kd Q_h18 ?_
  refine by_lu Q_h18 (fun h19 Q_h19 => ?_)
  refine by_kd2 Q_h19 ?_
  refine by_lu Q_h19 (fun h20 Q_h20 => ?_)
  exact by_some Q_h20

def bzX7_init (B : nH) (x0 : Nat) (x1 : Int32) (x2 : Int32) (hh : dT) : Option dT := n_chk (Nat.blt 0 x0 && true) (n_chk (Nat.beq (by_k B hh x0) 7) (z_cu hh x0 3 (0 : Int32) (fun h1 => n_chk (Nat.beq (by_k B h1 x0) 7) (z_cu h1 x0 2 (if x1 < (0 : Int32) then (0 : Int32) else x1) (fun h2 => n_chk (Nat.beq (by_k B h2 x0) 7) (z_cu h2 x0 1 (if (4 : Int32) < (if x2 < (1 : Int32) then (1 : Int32) else x2) then (4 : Int32) else (if x2 < (1 : Int32) then (1 : Int32) else x2)) (fun h3 => n_chk (Nat.beq (by_k B h3 x0) 7) (bz_cmv B h3 x0 2 (fun v4 => n_chk (Nat.beq (by_k B h3 x0) 7) (bz_cmv B h3 x0 1 (fun v5 => n_chk (!decide ((v4 * v5) < 0) && Nat.ble ((v4 * v5).toNatClampNeg * 4) 536870912) (bz_cal B h3 14 (v4 * v5).toNatClampNeg (fun a6 h7 => n_chk (Nat.beq (by_k B h7 x0) 7) (z_cR h7 x0 0 a6 (fun h8 => some h8)))))))))))))))
theorem bsX7_init {B : nH} {N : Nat} {x0 : Nat} {x1 : Int32} {x2 : Int32} {hh : nH} {t : dT} (hN : 1000 ≤ N) (Q_hh : by_Q B hh t) : by_S B (fX7_init x0 x1 x2 hh) (bzX7_init B x0 x1 x2 t) := by
  rw [vyX7_init]
  unfold bzX7_init
  refine by_chk (fun z => z) ?_
  refine by_kd Q_hh ?_
  refine by_lu Q_hh (fun h1 Q_h1 => ?_)
  refine by_kd Q_h1 ?_
  refine by_lu Q_h1 (fun h2 Q_h2 => ?_)
  refine by_kd Q_h2 ?_
  refine by_lu Q_h2 (fun h3 Q_h3 => ?_)
  refine by_kd Q_h3 ?_
  refine by_lmv Q_h3 ?_
  refine by_kd Q_h3 ?_
  refine by_lmv Q_h3 ?_
  refine by_chk (fun z => z) ?_
  refine by_lal Q_h3 (fun h7 Q_h7 => ?_)
  refine by_kd Q_h7 ?_
  refine by_lR Q_h7 (fun h8 Q_h8 => ?_)
  exact by_some Q_h8

def bzX3_init (B : nH) (x0 : Nat) (hh : dT) : Option dT := n_chk (Nat.blt 0 x0 && true) (n_chk (!decide ((400 : Int32) < 0) && Nat.ble ((400 : Int32).toNatClampNeg * 4) 536870912) (bz_cal B hh 14 (400 : Int32).toNatClampNeg (fun a1 h2 => n_chk (Nat.beq (by_k B h2 x0) 3) (z_cR h2 x0 0 a1 (fun h3 => n_chk (!decide ((16 : Int32) < 0) && Nat.ble ((16 : Int32).toNatClampNeg * 4) 536870912) (bz_cal B h3 14 (16 : Int32).toNatClampNeg (fun a4 h5 => n_chk (Nat.beq (by_k B h5 x0) 3) (z_cR h5 x0 1 a4 (fun h6 => n_chk (!decide ((16 : Int32) < 0) && Nat.ble ((16 : Int32).toNatClampNeg * 4) 536870912) (bz_cal B h6 14 (16 : Int32).toNatClampNeg (fun a7 h8 => n_chk (Nat.beq (by_k B h8 x0) 3) (z_cR h8 x0 2 a7 (fun h9 => n_chk (!decide ((16 : Int32) < 0) && Nat.ble ((16 : Int32).toNatClampNeg * 4) 536870912) (bz_cal B h9 14 (16 : Int32).toNatClampNeg (fun a10 h11 => n_chk (Nat.beq (by_k B h11 x0) 3) (z_cR h11 x0 3 a10 (fun h12 => n_chk (!decide ((16 : Int32) < 0) && Nat.ble ((16 : Int32).toNatClampNeg * 4) 536870912) (bz_cal B h12 14 (16 : Int32).toNatClampNeg (fun a13 h14 => n_chk (Nat.beq (by_k B h14 x0) 3) (z_cR h14 x0 4 a13 (fun h15 => n_chk (Nat.beq (by_k B h15 x0) 3) (z_cu h15 x0 5 (0 : Int32) (fun h16 => n_chk (Nat.beq (by_k B h16 x0) 3) (z_cu h16 x0 6 (0 : Int32) (fun h17 => some h17)))))))))))))))))))))))))
theorem bsX3_init {B : nH} {N : Nat} {x0 : Nat} {hh : nH} {t : dT} (hN : 1000 ≤ N) (Q_hh : by_Q B hh t) : by_S B (fX3_init x0 hh) (bzX3_init B x0 t) := by
  rw [vyX3_init]
  unfold bzX3_init
  refine by_chk (fun z => z) ?_
  refine by_chk (fun z => z) ?_
  refine by_lal Q_hh (fun h2 Q_h2 => ?_)
  refine by_kd Q_h2 ?_
  refine by_lR Q_h2 (fun h3 Q_h3 => ?_)
  refine by_chk (fun z => z) ?_
  refine by_lal Q_h3 (fun h5 Q_h5 => ?_)
  refine by_kd Q_h5 ?_
  refine by_lR Q_h5 (fun h6 Q_h6 => ?_)
  refine by_chk (fun z => z) ?_
  refine by_lal Q_h6 (fun h8 Q_h8 => ?_)
  refine by_kd Q_h8 ?_
  refine by_lR Q_h8 (fun h9 Q_h9 => ?_)
  refine by_chk (fun z => z) ?_
  refine by_lal Q_h9 (fun h11 Q_h11 => ?_)
  refine by_kd Q_h11 ?_
  refine by_lR Q_h11 (fun h12 Q_h12 => ?_)
  refine by_chk (fun z => z) ?_
  refine by_lal Q_h12 (fun h14 Q_h14 => ?_)
  refine by_kd Q_h14 ?_
  refine by_lR Q_h14 (fun h15 Q_h15 => ?_)
  refine by_kd Q_h15 ?_
  refine by_lu Q_h15 (fun h16 Q_h16 => ?_)
  refine by_kd Q_h16 ?_
  refine by_lu Q_h16 (fun h17 Q_h17 => ?_)
  exact by_some Q_h17

def bzX10_init_88 (B : nH) (x0 : Nat) (s0 : Nat) (hh : dT) : Option dT := bz_cal B hh 7 4 (fun a1 h2 => n_chk (Nat.blt 0 a1) (z_cbd (bzX7_init B a1 (5 : Int32) (1 : Int32) h2) (fun p3 => n_chk (Nat.beq (by_k B p3 s0) 10) (z_cR p3 s0 6 a1 (fun h4 => n_chk (!decide ((12 : Int32) < 0) && Nat.ble ((12 : Int32).toNatClampNeg * 4) 536870912) (bz_cal B h4 14 (12 : Int32).toNatClampNeg (fun a5 h6 => n_chk (Nat.beq (by_k B h6 x0) 10) (z_cR h6 x0 7 a5 (fun h7 => n_chk (!decide ((36 : Int32) < 0) && Nat.ble ((36 : Int32).toNatClampNeg * 4) 536870912) (bz_cal B h7 14 (36 : Int32).toNatClampNeg (fun a8 h9 => n_chk (Nat.beq (by_k B h9 x0) 10) (z_cR h9 x0 8 a8 (fun h10 => n_chk (Nat.beq (by_k B h10 x0) 10) (bz_cmr B h10 x0 7 (fun a11 => bz_cfi B h10 a11 (2 : Int32) (fun h13 => some h13))))))))))))))))
theorem bsX10_init_88 {B : nH} {N : Nat} {x0 : Nat} {s0 : Nat} {hh : nH} {t : dT} (hN : 1000 ≤ N) (Q_hh : by_Q B hh t) : by_S B (fX10_init_88 N x0 s0 hh) (bzX10_init_88 B x0 s0 t) := by
  rw [vyX10_init_88]
  unfold bzX10_init_88
  refine by_lal Q_hh (fun h2 Q_h2 => ?_)
  refine by_chk (fun z => z) ?_
  refine by_lbd (bsX7_init hN Q_h2) (fun p3 tp3 Q_p3 => ?_)
  refine by_kd Q_p3 ?_
  refine by_lR Q_p3 (fun h4 Q_h4 => ?_)
  refine by_chk (fun z => z) ?_
  refine by_lal Q_h4 (fun h6 Q_h6 => ?_)
  refine by_kd Q_h6 ?_
  refine by_lR Q_h6 (fun h7 Q_h7 => ?_)
  refine by_chk (fun z => z) ?_
  refine by_lal Q_h7 (fun h9 Q_h9 => ?_)
  refine by_kd Q_h9 ?_
  refine by_lR Q_h9 (fun h10 Q_h10 => ?_)
  refine by_kd Q_h10 ?_
  refine by_lmr Q_h10 ?_
  refine by_lfi hN Q_h10 (fun h13 Q_h13 => ?_)
  exact by_some Q_h13

def bzX10_init (B : nH) (x0 : Nat) (hh : dT) : Option dT := n_chk (Nat.blt 0 x0 && true) (bz_cal B hh 7 4 (fun a1 h2 => n_chk (Nat.blt 0 a1) (z_cbd (bzX7_init B a1 (16 : Int32) (2 : Int32) h2) (fun p3 => n_chk (Nat.beq (by_k B p3 x0) 10) (z_cR p3 x0 0 a1 (fun h4 => bz_cal B h4 7 4 (fun a5 h6 => n_chk (Nat.blt 0 a5) (z_cbd (bzX7_init B a5 (4 : Int32) (1 : Int32) h6) (fun p7 => n_chk (Nat.beq (by_k B p7 x0) 10) (z_cR p7 x0 1 a5 (fun h8 => bz_cal B h8 7 4 (fun a9 h10 => n_chk (Nat.blt 0 a9) (z_cbd (bzX7_init B a9 (8 : Int32) (2 : Int32) h10) (fun p11 => n_chk (Nat.beq (by_k B p11 x0) 10) (z_cR p11 x0 2 a9 (fun h12 => bz_cal B h12 7 4 (fun a13 h14 => n_chk (Nat.blt 0 a13) (z_cbd (bzX7_init B a13 (12 : Int32) (2 : Int32) h14) (fun p15 => n_chk (Nat.beq (by_k B p15 x0) 10) (z_cR p15 x0 3 a13 (fun h16 => bz_cal B h16 7 4 (fun a17 h18 => n_chk (Nat.blt 0 a17) (z_cbd (bzX7_init B a17 (10 : Int32) (3 : Int32) h18) (fun p19 => n_chk (Nat.beq (by_k B p19 x0) 10) (z_cR p19 x0 4 a17 (fun h20 => bz_cal B h20 7 4 (fun a21 h22 => n_chk (Nat.blt 0 a21) (z_cbd (bzX7_init B a21 (6 : Int32) (1 : Int32) h22) (fun p23 => n_chk (Nat.beq (by_k B p23 x0) 10) (z_cR p23 x0 5 a21 (fun h24 => bzX10_init_88 B x0 x0 h24)))))))))))))))))))))))))))))))
theorem bsX10_init {B : nH} {N : Nat} {x0 : Nat} {hh : nH} {t : dT} (hN : 1000 ≤ N) (Q_hh : by_Q B hh t) : by_S B (fX10_init N x0 hh) (bzX10_init B x0 t) := by
  rw [vyX10_init]
  unfold bzX10_init
  refine by_chk (fun z => z) ?_
  refine by_lal Q_hh (fun h2 Q_h2 => ?_)
  refine by_chk (fun z => z) ?_
  refine by_lbd (bsX7_init hN Q_h2) (fun p3 tp3 Q_p3 => ?_)
  refine by_kd Q_p3 ?_
  refine by_lR Q_p3 (fun h4 Q_h4 => ?_)
  refine by_lal Q_h4 (fun h6 Q_h6 => ?_)
  refine by_chk (fun z => z) ?_
  refine by_lbd (bsX7_init hN Q_h6) (fun p7 tp7 Q_p7 => ?_)
  refine by_kd Q_p7 ?_
  refine by_lR Q_p7 (fun h8 Q_h8 => ?_)
  refine by_lal Q_h8 (fun h10 Q_h10 => ?_)
  refine by_chk (fun z => z) ?_
  refine by_lbd (bsX7_init hN Q_h10) (fun p11 tp11 Q_p11 => ?_)
  refine by_kd Q_p11 ?_
  refine by_lR Q_p11 (fun h12 Q_h12 => ?_)
  refine by_lal Q_h12 (fun h14 Q_h14 => ?_)
  refine by_chk (fun z => z) ?_
  refine by_lbd (bsX7_init hN Q_h14) (fun p15 tp15 Q_p15 => ?_)
  refine by_kd Q_p15 ?_
  refine by_lR Q_p15 (fun h16 Q_h16 => ?_)
  refine by_lal Q_h16 (fun h18 Q_h18 => ?_)
  refine by_chk (fun z => z) ?_
  refine by_lbd (bsX7_init hN Q_h18) (fun p19 tp19 Q_p19 => ?_)
  refine by_kd Q_p19 ?_
  refine by_lR Q_p19 (fun h20 Q_h20 => ?_)
  refine by_lal Q_h20 (fun h22 Q_h22 => ?_)
  refine by_chk (fun z => z) ?_
  refine by_lbd (bsX7_init hN Q_h22) (fun p23 tp23 Q_p23 => ?_)
  refine by_kd Q_p23 ?_
  refine by_lR Q_p23 (fun h24 Q_h24 => ?_)
  exact bsX10_init_88 hN Q_h24

def bzX1_init_92 (B : nH) (x0 : Nat) (s0 : Nat) (s1 : Nat) (hh : dT) : Option dT := n_chk (Nat.beq (by_k B hh s1) 1) (z_cR hh s1 6 s0 (fun h1 => bz_cal B h1 10 9 (fun a2 h3 => n_chk (Nat.blt 0 a2) (z_cbd (bzX10_init B a2 h3) (fun p4 => n_chk (Nat.beq (by_k B p4 x0) 1) (z_cR p4 x0 7 a2 (fun h5 => some h5)))))))
theorem bsX1_init_92 {B : nH} {N : Nat} {x0 : Nat} {s0 : Nat} {s1 : Nat} {hh : nH} {t : dT} (hN : 1000 ≤ N) (Q_hh : by_Q B hh t) : by_S B (fX1_init_92 N x0 s0 s1 hh) (bzX1_init_92 B x0 s0 s1 t) := by
  rw [vyX1_init_92]
  unfold bzX1_init_92
  refine by_kd Q_hh ?_
  refine by_lR Q_hh (fun h1 Q_h1 => ?_)
  refine by_lal Q_h1 (fun h3 Q_h3 => ?_)
  refine by_chk (fun z => z) ?_
  refine by_lbd (bsX10_init hN Q_h3) (fun p4 tp4 Q_p4 => ?_)
  refine by_kd Q_p4 ?_
  refine by_lR Q_p4 (fun h5 Q_h5 => ?_)
  exact by_some Q_h5

def bzX1_init (B : nH) (x0 : Nat) (hh : dT) : Option dT := n_chk (Nat.blt 0 x0 && true) (bz_cal B hh 8 7 (fun a1 h2 => n_chk (Nat.blt 0 a1) (z_cbd (bzX8_init B a1 h2) (fun p3 => n_chk (Nat.beq (by_k B p3 x0) 1) (z_cR p3 x0 0 a1 (fun h4 => bz_cal B h4 4 12 (fun a5 h6 => n_chk (Nat.blt 0 a5) (z_cbd (bzX4_init B a5 (0 : Int32) h6) (fun p7 => n_chk (Nat.beq (by_k B p7 x0) 1) (z_cR p7 x0 1 a5 (fun h8 => bz_cal B h8 7 4 (fun a9 h10 => n_chk (Nat.blt 0 a9) (z_cbd (bzX7_init B a9 (150 : Int32) (4 : Int32) h10) (fun p11 => n_chk (Nat.beq (by_k B p11 x0) 1) (z_cR p11 x0 2 a9 (fun h12 => bz_cal B h12 3 7 (fun a13 h14 => n_chk (Nat.blt 0 a13) (z_cbd (bzX3_init B a13 h14) (fun p15 => n_chk (Nat.beq (by_k B p15 x0) 1) (z_cR p15 x0 3 a13 (fun h16 => bz_cal B h16 7 4 (fun a17 h18 => n_chk (Nat.blt 0 a17) (z_cbd (bzX7_init B a17 (16 : Int32) (4 : Int32) h18) (fun p19 => n_chk (Nat.beq (by_k B p19 x0) 1) (z_cR p19 x0 4 a17 (fun h20 => bz_cal B h20 7 4 (fun a21 h22 => n_chk (Nat.blt 0 a21) (z_cbd (bzX7_init B a21 (16 : Int32) (4 : Int32) h22) (fun p23 => n_chk (Nat.beq (by_k B p23 x0) 1) (z_cR p23 x0 5 a21 (fun h24 => bz_cal B h24 7 4 (fun a25 h26 => n_chk (Nat.blt 0 a25) (z_cbd (bzX7_init B a25 (16 : Int32) (4 : Int32) h26) (fun p27 => bzX1_init_92 B x0 a25 x0 p27))))))))))))))))))))))))))))))))))
theorem bsX1_init {B : nH} {N : Nat} {x0 : Nat} {hh : nH} {t : dT} (hN : 1000 ≤ N) (Q_hh : by_Q B hh t) : by_S B (fX1_init N x0 hh) (bzX1_init B x0 t) := by
  rw [vyX1_init]
  unfold bzX1_init
  refine by_chk (fun z => z) ?_
  refine by_lal Q_hh (fun h2 Q_h2 => ?_)
  refine by_chk (fun z => z) ?_
  refine by_lbd (bsX8_init hN Q_h2) (fun p3 tp3 Q_p3 => ?_)
  refine by_kd Q_p3 ?_
  refine by_lR Q_p3 (fun h4 Q_h4 => ?_)
  refine by_lal Q_h4 (fun h6 Q_h6 => ?_)
  refine by_chk (fun z => z) ?_
  refine by_lbd (bsX4_init hN Q_h6) (fun p7 tp7 Q_p7 => ?_)
  refine by_kd Q_p7 ?_
  refine by_lR Q_p7 (fun h8 Q_h8 => ?_)
  refine by_lal Q_h8 (fun h10 Q_h10 => ?_)
  refine by_chk (fun z => z) ?_
  refine by_lbd (bsX7_init hN Q_h10) (fun p11 tp11 Q_p11 => ?_)
  refine by_kd Q_p11 ?_
  refine by_lR Q_p11 (fun h12 Q_h12 => ?_)
  refine by_lal Q_h12 (fun h14 Q_h14 => ?_)
  refine by_chk (fun z => z) ?_
  refine by_lbd (bsX3_init hN Q_h14) (fun p15 tp15 Q_p15 => ?_)
  refine by_kd Q_p15 ?_
  refine by_lR Q_p15 (fun h16 Q_h16 => ?_)
  refine by_lal Q_h16 (fun h18 Q_h18 => ?_)
  refine by_chk (fun z => z) ?_
  refine by_lbd (bsX7_init hN Q_h18) (fun p19 tp19 Q_p19 => ?_)
  refine by_kd Q_p19 ?_
  refine by_lR Q_p19 (fun h20 Q_h20 => ?_)
  refine by_lal Q_h20 (fun h22 Q_h22 => ?_)
  refine by_chk (fun z => z) ?_
  refine by_lbd (bsX7_init hN Q_h22) (fun p23 tp23 Q_p23 => ?_)
  refine by_kd Q_p23 ?_
  refine by_lR Q_p23 (fun h24 Q_h24 => ?_)
  refine by_lal Q_h24 (fun h26 Q_h26 => ?_)
  refine by_chk (fun z => z) ?_
  refine by_lbd (bsX7_init hN Q_h26) (fun p27 tp27 Q_p27 => ?_)
  exact bsX1_init_92 hN Q_p27

