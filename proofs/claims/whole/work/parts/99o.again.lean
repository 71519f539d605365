/-! ===== image: the house that is kept, made anew on a heap B ===== -/
def ry_o (B h : nH) (t : dT) (a : Nat) : Prop := n_kd h.1 a = n_kd B.1 a ∧ n_len h.1 a = n_len B.1 a ∧ n_mr h.1 a = n_mr B.1 a ∧ h.2 a = B.2 a
def ry_k (h : nH) (t : dT) (a : Nat) : Prop := n_kd h.1 a = y_k t a ∧ n_len h.1 a = y_l t a ∧ (∀ i, n_mr h.1 a i = y_r t a i) ∧ ∀ i, h.2 a i = y_m t a i
def ry_Q (B h : nH) (t : dT) : Prop := n_n h.1 = y_n t ∧ n_sl h.1 = n_sl B.1 + y_s t ∧ (∀ a, y_k t a ≠ 99 → ry_k h t a) ∧ ∀ a, y_k t a = 99 → ry_o B h t a
theorem ry_qal {B h : nH} {t : dT} (hQ : ry_Q B h t) (k l : Nat) (hk : k ≠ 99) : ry_Q B (n_alloc h k l) (y_al t k l) := by
  obtain ⟨q1, q2, q3, q4⟩ := hQ
  have ek : ∀ a, y_k (y_al t k l) a = if a = y_n t + 1 then k else y_k t a := fun a => by
    show (bif true && Nat.beq a (y_n t + 1) then k else y_k t a) = _
    rw [Bool.true_and, y_beq]
    by_cases e : a = y_n t + 1
    · rw [decide_eq_true e, if_pos e]; rfl
    · rw [decide_eq_false e, if_neg e]; rfl
  have new : ∀ a, a = y_n t + 1 → ry_k (n_alloc h k l) (y_al t k l) a := fun a e => by
    have e2 : Nat.beq a (y_n t + 1) = true := by rw [y_beq]; exact decide_eq_true e
    refine ⟨?_, ?_, fun i => ?_, fun i => ?_⟩
    · show va_up (n_kd h.1) (n_n h.1 + 1) k a = bif true && Nat.beq a (y_n t + 1) then k else y_k t a
      rw [q1, e2, e, va_up_self]; rfl
    · show va_up (n_len h.1) (n_n h.1 + 1) l a = bif true && Nat.beq a (y_n t + 1) then l else y_l t a
      rw [q1, e2, e, va_up_self]; rfl
    · show va_up (n_mr h.1) (n_n h.1 + 1) (fun _ => 0) a i = bif true && Nat.beq a (y_n t + 1) then 0 else bif false && _ then _ else y_r t a i
      rw [q1, e2, e, va_up_self]; rfl
    · show va_up h.2 (n_n h.1 + 1) (fun _ => 0) a i = bif true && Nat.beq a (y_n t + 1) then 0 else bif false && _ then _ else bif false && _ then _ else y_m t a i
      rw [q1, e2, e, va_up_self]; rfl
  have old : ∀ a, a ≠ y_n t + 1 → n_kd (n_alloc h k l).1 a = n_kd h.1 a ∧ n_len (n_alloc h k l).1 a = n_len h.1 a ∧ n_mr (n_alloc h k l).1 a = n_mr h.1 a ∧ (n_alloc h k l).2 a = h.2 a := fun a e => by
    rw [← q1] at e
    exact ⟨va_up_ne _ _ e, va_up_ne _ _ e, va_up_ne _ _ e, va_up_ne _ _ e⟩
  have oldt : ∀ a, a ≠ y_n t + 1 → y_l (y_al t k l) a = y_l t a ∧ (∀ i, y_r (y_al t k l) a i = y_r t a i) ∧ ∀ i, y_m (y_al t k l) a i = y_m t a i := fun a e => by
    have e2 : Nat.beq a (y_n t + 1) = false := by rw [y_beq]; exact decide_eq_false e
    refine ⟨?_, fun i => ?_, fun i => ?_⟩
    · show (bif true && Nat.beq a (y_n t + 1) then l else y_l t a) = _
      rw [e2]; rfl
    · show (bif true && Nat.beq a (y_n t + 1) then 0 else bif false && _ then _ else y_r t a i) = _
      rw [e2]; rfl
    · show (bif true && Nat.beq a (y_n t + 1) then 0 else bif false && _ then _ else bif false && _ then _ else y_m t a i) = _
      rw [e2]; rfl
  refine ⟨?_, ?_, fun a ha => ?_, fun a ha => ?_⟩
  · show n_n h.1 + 1 = y_n t + 1
    rw [q1]
  · show n_sl h.1 + l = n_sl B.1 + (y_s t + l)
    rw [q2]; omega
  · by_cases e : a = y_n t + 1
    · exact new a e
    · rw [ek, if_neg e] at ha
      obtain ⟨k1, k2, k3, k4⟩ := q3 a ha
      obtain ⟨o1, o2, o3, o4⟩ := old a e
      obtain ⟨t1, t2, t3⟩ := oldt a e
      refine ⟨by rw [o1, ek, if_neg e]; exact k1, by rw [o2, t1]; exact k2, fun i => by rw [o3, t2]; exact k3 i, fun i => by rw [o4, t3]; exact k4 i⟩
  · by_cases e : a = y_n t + 1
    · rw [ek, if_pos e] at ha
      exact absurd ha hk
    · rw [ek, if_neg e] at ha
      obtain ⟨o1, o2, o3, o4⟩ := old a e
      obtain ⟨k1, k2, k3, k4⟩ := q4 a ha
      exact ⟨o1.trans k1, o2.trans k2, o3.trans k3, o4.trans k4⟩
theorem ry_qR {B h : nH} {t : dT} (hQ : ry_Q B h t) (x j v : Nat) (hx : y_k t x ≠ 99) : ry_Q B (n_upR h x j v) (y_R t x j v) := by
  obtain ⟨q1, q2, q3, q4⟩ := hQ
  refine ⟨q1, q2, fun a ha => ?_, fun a ha => ?_⟩
  · obtain ⟨k1, k2, k3, k4⟩ := q3 a ha
    refine ⟨k1, k2, fun i => ?_, k4⟩
    show va_up (n_mr h.1) x (va_up (n_mr h.1 x) j v) a i = bif false && _ then _ else bif true && (Nat.beq a x && Nat.beq i j) then v else y_r t a i
    rw [Bool.true_and, y_beq, y_beq]
    by_cases e : a = x
    · subst e
      rw [va_up_self, decide_eq_true rfl, Bool.true_and]
      by_cases e2 : i = j
      · rw [e2, va_up_self, decide_eq_true rfl]; rfl
      · rw [va_up_ne _ _ e2, decide_eq_false e2]; exact k3 i
    · rw [va_up_ne _ _ e, decide_eq_false e]; exact k3 i
  · obtain ⟨k1, k2, k3, k4⟩ := q4 a ha
    have e : a ≠ x := fun e => hx (by rw [← e]; exact ha)
    exact ⟨k1, k2, (va_up_ne _ _ e).trans k3, k4⟩
theorem ry_qu {B h : nH} {t : dT} (hQ : ry_Q B h t) (x j : Nat) (v : Int32) (hx : y_k t x ≠ 99) : ry_Q B (h.1, n_up h.2 x j v) (y_u t x j v) := by
  obtain ⟨q1, q2, q3, q4⟩ := hQ
  refine ⟨q1, q2, fun a ha => ?_, fun a ha => ?_⟩
  · obtain ⟨k1, k2, k3, k4⟩ := q3 a ha
    refine ⟨k1, k2, k3, fun i => ?_⟩
    show n_up h.2 x j v a i = bif false && _ then _ else bif true && (Nat.beq a x && Nat.beq i j) then v else bif false && _ then _ else y_m t a i
    rw [Bool.true_and, y_beq, y_beq]
    by_cases e : a = x
    · subst e
      rw [n_up_eq, decide_eq_true rfl, Bool.true_and]
      by_cases e2 : i = j
      · rw [e2, upd_eq, decide_eq_true rfl]; rfl
      · rw [upd_ne e2, decide_eq_false e2]; exact k4 i
    · rw [n_up_ne e, decide_eq_false e]; exact k4 i
  · obtain ⟨k1, k2, k3, k4⟩ := q4 a ha
    have e : a ≠ x := fun e => hx (by rw [← e]; exact ha)
    exact ⟨k1, k2, k3, (n_up_ne e).trans k4⟩
theorem ry_qf {B h : nH} {t : dT} (hQ : ry_Q B h t) (c l : Nat) (v : Int32) (hx : y_k t c ≠ 99) : ry_Q B (h.1, n_set h.2 c (fun i => if 0 ≤ i ∧ i < l then v else h.2 c i)) (y_f t c l v) := by
  obtain ⟨q1, q2, q3, q4⟩ := hQ
  refine ⟨q1, q2, fun a ha => ?_, fun a ha => ?_⟩
  · obtain ⟨k1, k2, k3, k4⟩ := q3 a ha
    refine ⟨k1, k2, k3, fun i => ?_⟩
    show n_set h.2 c (fun i => if 0 ≤ i ∧ i < l then v else h.2 c i) a i = bif false && _ then _ else bif false && _ then _ else bif true && (Nat.beq a c && Nat.blt i l) then v else y_m t a i
    rw [Bool.true_and, y_beq]
    by_cases e : a = c
    · subst e
      rw [n_set_eq, decide_eq_true rfl, Bool.true_and]
      cases e2 : Nat.blt i l with
      | true =>
        have : i < l := Nat.le_of_ble_eq_true e2
        rw [if_pos ⟨Nat.zero_le _, this⟩]; rfl
      | false =>
        have : ¬ i < l := fun z => by
          have := Nat.ble_eq_true_of_le (show i + 1 ≤ l from z)
          have e3 : Nat.blt i l = Nat.ble (i + 1) l := rfl
          rw [e3, this] at e2
          exact absurd e2 (by decide)
        rw [if_neg (fun z => this z.2)]; exact k4 i
    · rw [n_set_ne e, decide_eq_false e]; exact k4 i
  · obtain ⟨k1, k2, k3, k4⟩ := q4 a ha
    have e : a ≠ c := fun e => hx (by rw [← e]; exact ha)
    exact ⟨k1, k2, k3, (n_set_ne e).trans k4⟩
def ry_S (B : nH) (x : Option (Unit × nH)) (y : Option dT) : Prop := ∀ t, y = some t → ∃ h, x = some ((), h) ∧ ry_Q B h t
theorem ry_chk {B : nH} {c c' : Bool} {x : Option (Unit × nH)} {y : Option dT} (hc : c' = true → c = true) (hs : c' = true → ry_S B x y) : ry_S B (n_chk c x) (n_chk c' y) := fun t e => by
  cases e1 : c' with
  | false => rw [e1] at e; exact absurd (show (none : Option dT) = some t from e) (by simp)
  | true =>
    rw [e1] at e
    rw [hc e1]
    exact hs e1 t e
theorem ry_kd {B h : nH} {t : dT} {a k : Nat} {x : Option (Unit × nH)} {y : Option dT} (hk : k ≠ 99) (hQ : ry_Q B h t) (hs : ry_S B x y) : ry_S B (n_chk (Nat.beq (n_kd h.1 a) k) x) (n_chk (Nat.beq (y_k t a) k) y) := ry_chk (fun z => by
  have e := Nat.eq_of_beq_eq_true z
  rw [(hQ.2.2.1 a (by rw [e]; exact hk)).1]; exact z) (fun _ => hs)
theorem ry_kd2 {B h : nH} {t : dT} {a k : Nat} {c : Bool} {x : Option (Unit × nH)} {y : Option dT} (hk : k ≠ 99) (hQ : ry_Q B h t) (hs : ry_S B x y) : ry_S B (n_chk (Nat.beq (n_kd h.1 a) k && c) x) (n_chk (Nat.beq (y_k t a) k && c) y) := ry_chk (fun z => by
  have z' := z
  rw [Bool.and_eq_true] at z'
  have e := Nat.eq_of_beq_eq_true z'.1
  rw [(hQ.2.2.1 a (by rw [e]; exact hk)).1]; exact z) (fun _ => hs)
theorem ry_lal {B h : nH} {t : dT} {k l : Nat} {K : Nat → nH → Option (Unit × nH)} {K' : Nat → dT → Option dT} (hk : k ≠ 99) (hQ : ry_Q B h t) (H : ∀ h2, ry_Q B h2 (y_al t k l) → ry_S B (K (y_n t + 1) h2) (K' (y_n t + 1) (y_al t k l))) : ry_S B (y_cal h k l K) (z_cal t k l K') := by
  have := H (n_alloc h k l) (ry_qal hQ k l hk)
  unfold y_cal z_cal
  rw [hQ.1]
  exact this
def rz_k (t : dT) (x : Nat) : Bool := !Nat.beq (y_k t x) 99
theorem rz_k_t {t : dT} {x : Nat} (h : rz_k t x = true) : y_k t x ≠ 99 := fun e => by
  unfold rz_k at h
  rw [e] at h
  exact absurd h (by decide)
def rz_cR (t : dT) (x j a : Nat) (K : dT → Option dT) : Option dT := n_chk (rz_k t x) (K (y_R t x j a))
theorem ry_lR {B h : nH} {t : dT} {x j a : Nat} {K : nH → Option (Unit × nH)} {K' : dT → Option dT} (hQ : ry_Q B h t) (H : ∀ h2, ry_Q B h2 (y_R t x j a) → ry_S B (K h2) (K' (y_R t x j a))) : ry_S B (y_cR h x j a K) (rz_cR t x j a K') := ry_chk (c := true) (fun _ => rfl) (fun z => H _ (ry_qR hQ x j a (rz_k_t z)))
def rz_cu (t : dT) (x j : Nat) (v : Int32) (K : dT → Option dT) : Option dT := n_chk (rz_k t x) (K (y_u t x j v))
theorem ry_lu {B h : nH} {t : dT} {x j : Nat} {v : Int32} {K : nH → Option (Unit × nH)} {K' : dT → Option dT} (hQ : ry_Q B h t) (H : ∀ h2, ry_Q B h2 (y_u t x j v) → ry_S B (K h2) (K' (y_u t x j v))) : ry_S B (y_cu h x j v K) (rz_cu t x j v K') := ry_chk (c := true) (fun _ => rfl) (fun z => H _ (ry_qu hQ x j v (rz_k_t z)))
def rz_cmr (t : dT) (x j : Nat) (K : Nat → Option dT) : Option dT := n_chk (rz_k t x) (K (y_r t x j))
theorem ry_lmr {B h : nH} {t : dT} {x j : Nat} {K : Nat → Option (Unit × nH)} {K' : Nat → Option dT} (hQ : ry_Q B h t) (H : ry_S B (K (y_r t x j)) (K' (y_r t x j))) : ry_S B (y_cmr h x j K) (rz_cmr t x j K') := ry_chk (c := true) (fun _ => rfl) (fun z => by
  rw [← (hQ.2.2.1 x (rz_k_t z)).2.2.1 j] at H
  rw [← (hQ.2.2.1 x (rz_k_t z)).2.2.1 j]
  exact H)
def rz_cmv (t : dT) (x j : Nat) (K : Int32 → Option dT) : Option dT := n_chk (rz_k t x) (K (y_m t x j))
theorem ry_lmv {B h : nH} {t : dT} {x j : Nat} {K : Int32 → Option (Unit × nH)} {K' : Int32 → Option dT} (hQ : ry_Q B h t) (H : ry_S B (K (y_m t x j)) (K' (y_m t x j))) : ry_S B (y_cmv h x j K) (rz_cmv t x j K') := ry_chk (c := true) (fun _ => rfl) (fun z => by
  rw [← (hQ.2.2.1 x (rz_k_t z)).2.2.2 j] at H
  rw [← (hQ.2.2.1 x (rz_k_t z)).2.2.2 j]
  exact H)
theorem ry_lbd {B : nH} {x : Option (Unit × nH)} {y : Option dT} {K : nH → Option (Unit × nH)} {K' : dT → Option dT} (hs : ry_S B x y) (H : ∀ h t, ry_Q B h t → ry_S B (K h) (K' t)) : ry_S B (y_cbd x K) (z_cbd y K') := fun t e => by
  obtain ⟨u, u1, u2⟩ := Option.bind_eq_some_iff.mp (show y.bind K' = some t from e)
  obtain ⟨h, h1, h2⟩ := hs u u1
  unfold y_cbd
  rw [h1, Option.bind_some]
  exact H h u h2 t u2
theorem ry_lfi {B : nH} {N : Nat} {h : nH} {t : dT} {a : Nat} {v : Int32} {K : nH → Option (Unit × nH)} {K' : dT → Option dT} (hN : 1000 ≤ N) (hQ : ry_Q B h t) (H : ∀ h2, ry_Q B h2 (y_f t a (y_l t a) v) → ry_S B (K h2) (K' (y_f t a (y_l t a) v))) : ry_S B (y_cfi N h a v K) (z_cfi t a v K') := fun t2 e => by
  unfold z_cfi at e
  cases e1 : (Nat.beq (y_k t a) 14 && Nat.blt (y_l t a) 1000) with
  | false => rw [e1] at e; exact absurd (show (none : Option dT) = some t2 from e) (by simp)
  | true =>
    rw [e1, n_chk_t] at e
    rw [Bool.and_eq_true] at e1
    have ek : y_k t a = 14 := Nat.eq_of_beq_eq_true e1.1
    have en : y_k t a ≠ 99 := by rw [ek]; decide
    have k1 : n_kd h.1 a = 14 := by rw [(hQ.2.2.1 a en).1]; exact ek
    have k2 : n_len h.1 a = y_l t a := (hQ.2.2.1 a en).2.1
    have k3 : y_l t a < 1000 := Nat.le_of_ble_eq_true e1.2
    unfold y_cfi
    rw [e_fill k1 k2 k3 hN h.2, Option.bind_some]
    exact H _ (ry_qf hQ a (y_l t a) v en) t2 e
theorem ry_some {B h : nH} {t : dT} (hQ : ry_Q B h t) : ry_S B (some ((), h)) (some t) := fun u e => ⟨h, rfl, by rw [← Option.some.inj e]; exact hQ⟩
def rzX8_init (x0 : Nat) (hh : dT) : Option dT := n_chk (Nat.blt 0 x0 && true) (n_chk (!decide ((12 : Int32) < 0) && Nat.ble ((12 : Int32).toNatClampNeg * 4) 536870912) (z_cal hh 14 (12 : Int32).toNatClampNeg (fun a1 h2 => n_chk (Nat.beq (y_k h2 x0) 8) (rz_cR h2 x0 0 a1 (fun h3 => n_chk (!decide ((16 : Int32) < 0) && Nat.ble ((16 : Int32).toNatClampNeg * 4) 536870912) (z_cal h3 14 (16 : Int32).toNatClampNeg (fun a4 h5 => n_chk (Nat.beq (y_k h5 x0) 8) (rz_cR h5 x0 1 a4 (fun h6 => n_chk (!decide ((16 : Int32) < 0) && Nat.ble ((16 : Int32).toNatClampNeg * 4) 536870912) (z_cal h6 14 (16 : Int32).toNatClampNeg (fun a7 h8 => n_chk (Nat.beq (y_k h8 x0) 8) (rz_cR h8 x0 2 a7 (fun h9 => n_chk (!decide ((12 : Int32) < 0) && Nat.ble ((12 : Int32).toNatClampNeg * 4) 536870912) (z_cal h9 14 (12 : Int32).toNatClampNeg (fun a10 h11 => n_chk (Nat.beq (y_k h11 x0) 8) (rz_cR h11 x0 3 a10 (fun h12 => n_chk (!decide ((12 : Int32) < 0) && Nat.ble ((12 : Int32).toNatClampNeg * 4) 536870912) (z_cal h12 14 (12 : Int32).toNatClampNeg (fun a13 h14 => n_chk (Nat.beq (y_k h14 x0) 8) (rz_cR h14 x0 4 a13 (fun h15 => n_chk (Nat.beq (y_k h15 x0) 8) (rz_cu h15 x0 5 (0 : Int32) (fun h16 => n_chk (Nat.beq (y_k h16 x0) 8) (rz_cu h16 x0 6 (0 : Int32) (fun h17 => n_chk (Nat.beq (y_k h17 x0) 8) (rz_cmr h17 x0 0 (fun a18 => z_cfi h17 a18 (9 : Int32) (fun h20 => some h20))))))))))))))))))))))))))))
theorem rsX8_init {B : nH} {N : Nat} {x0 : Nat} {hh : nH} {t : dT} (hN : 1000 ≤ N) (Q_hh : ry_Q B hh t) : ry_S B (fX8_init N x0 hh) (rzX8_init x0 t) := by
  rw [vyX8_init]
  unfold rzX8_init
  refine ry_chk (fun z => z) (fun _ => ?_)
  refine ry_chk (fun z => z) (fun _ => ?_)
  refine ry_lal (by decide) Q_hh (fun h2 Q_h2 => ?_)
  refine ry_kd (by decide) Q_h2 ?_
  refine ry_lR Q_h2 (fun h3 Q_h3 => ?_)
  refine ry_chk (fun z => z) (fun _ => ?_)
  refine ry_lal (by decide) Q_h3 (fun h5 Q_h5 => ?_)
  refine ry_kd (by decide) Q_h5 ?_
  refine ry_lR Q_h5 (fun h6 Q_h6 => ?_)
  refine ry_chk (fun z => z) (fun _ => ?_)
  refine ry_lal (by decide) Q_h6 (fun h8 Q_h8 => ?_)
  refine ry_kd (by decide) Q_h8 ?_
  refine ry_lR Q_h8 (fun h9 Q_h9 => ?_)
  refine ry_chk (fun z => z) (fun _ => ?_)
  refine ry_lal (by decide) Q_h9 (fun h11 Q_h11 => ?_)
  refine ry_kd (by decide) Q_h11 ?_
  refine ry_lR Q_h11 (fun h12 Q_h12 => ?_)
  refine ry_chk (fun z => z) (fun _ => ?_)
  refine ry_lal (by decide) Q_h12 (fun h14 Q_h14 => ?_)
  refine ry_kd (by decide) Q_h14 ?_
  refine ry_lR Q_h14 (fun h15 Q_h15 => ?_)
  refine ry_kd (by decide) Q_h15 ?_
  refine ry_lu Q_h15 (fun h16 Q_h16 => ?_)
  refine ry_kd (by decide) Q_h16 ?_
  refine ry_lu Q_h16 (fun h17 Q_h17 => ?_)
  refine ry_kd (by decide) Q_h17 ?_
  refine ry_lmr Q_h17 ?_
  refine ry_lfi hN Q_h17 (fun h20 Q_h20 => ?_)
  exact ry_some Q_h20

def rzX4_init (x0 : Nat) (x1 : Int32) (hh : dT) : Option dT := n_chk (Nat.blt 0 x0 && true) (n_chk (!decide ((16 : Int32) < 0) && Nat.ble ((16 : Int32).toNatClampNeg * 4) 536870912) (z_cal hh 14 (16 : Int32).toNatClampNeg (fun a1 h2 => n_chk (Nat.beq (y_k h2 x0) 4) (rz_cR h2 x0 1 a1 (fun h3 => n_chk (!decide ((16 : Int32) < 0) && Nat.ble ((16 : Int32).toNatClampNeg * 4) 536870912) (z_cal h3 14 (16 : Int32).toNatClampNeg (fun a4 h5 => n_chk (Nat.beq (y_k h5 x0) 4) (rz_cR h5 x0 2 a4 (fun h6 => n_chk (!decide ((12 : Int32) < 0) && Nat.ble ((12 : Int32).toNatClampNeg * 4) 536870912) (z_cal h6 14 (12 : Int32).toNatClampNeg (fun a7 h8 => n_chk (Nat.beq (y_k h8 x0) 4) (rz_cR h8 x0 3 a7 (fun h9 => n_chk (!decide ((12 : Int32) < 0) && Nat.ble ((12 : Int32).toNatClampNeg * 4) 536870912) (z_cal h9 14 (12 : Int32).toNatClampNeg (fun a10 h11 => n_chk (Nat.beq (y_k h11 x0) 4) (rz_cR h11 x0 4 a10 (fun h12 => n_chk (Nat.beq (y_k h12 x0) 4) (rz_cu h12 x0 5 (0 : Int32) (fun h13 => n_chk (Nat.beq (y_k h13 x0) 4) (rz_cu h13 x0 6 (0 : Int32) (fun h14 => n_chk (Nat.beq (y_k h14 x0) 4) (rz_cu h14 x0 7 (0 : Int32) (fun h15 => n_chk (Nat.beq (y_k h15 x0) 4) (rz_cu h15 x0 8 (0 : Int32) (fun h16 => n_chk (Nat.beq (y_k h16 x0) 4) (rz_cu h16 x0 9 (0 : Int32) (fun h17 => n_chk (Nat.beq (y_k h17 x0) 4) (rz_cu h17 x0 10 (0 : Int32) (fun h18 => n_chk (Nat.beq (y_k h18 x0) 4) (rz_cu h18 x0 11 (0 : Int32) (fun h19 => n_chk (Nat.beq (y_k h19 x0) 4 && (x1 == 0 || x1 == 1)) (rz_cu h19 x0 0 x1 (fun h20 => some h20)))))))))))))))))))))))))))))))))
theorem rsX4_init {B : nH} {N : Nat} {x0 : Nat} {x1 : Int32} {hh : nH} {t : dT} (hN : 1000 ≤ N) (Q_hh : ry_Q B hh t) : ry_S B (fX4_init x0 x1 hh) (rzX4_init x0 x1 t) := by
  rw [vyX4_init]
  unfold rzX4_init
  refine ry_chk (fun z => z) (fun _ => ?_)
  refine ry_chk (fun z => z) (fun _ => ?_)
  refine ry_lal (by decide) Q_hh (fun h2 Q_h2 => ?_)
  refine ry_kd (by decide) Q_h2 ?_
  refine ry_lR Q_h2 (fun h3 Q_h3 => ?_)
  refine ry_chk (fun z => z) (fun _ => ?_)
  refine ry_lal (by decide) Q_h3 (fun h5 Q_h5 => ?_)
  refine ry_kd (by decide) Q_h5 ?_
  refine ry_lR Q_h5 (fun h6 Q_h6 => ?_)
  refine ry_chk (fun z => z) (fun _ => ?_)
  refine ry_lal (by decide) Q_h6 (fun h8 Q_h8 => ?_)
  refine ry_kd (by decide) Q_h8 ?_
  refine ry_lR Q_h8 (fun h9 Q_h9 => ?_)
  refine ry_chk (fun z => z) (fun _ => ?_)
  refine ry_lal (by decide) Q_h9 (fun h11 Q_h11 => ?_)
  refine ry_kd (by decide) Q_h11 ?_
  refine ry_lR Q_h11 (fun h12 Q_h12 => ?_)
  refine ry_kd (by decide) Q_h12 ?_
  refine ry_lu Q_h12 (fun h13 Q_h13 => ?_)
  refine ry_kd (by decide) Q_h13 ?_
  refine ry_lu Q_h13 (fun h14 Q_h14 => ?_)
  refine ry_kd (by decide) Q_h14 ?_
  refine ry_lu Q_h14 (fun h15 Q_h15 => ?_)
  refine ry_kd (by decide) Q_h15 ?_
  refine ry_lu Q_h15 (fun h16 Q_h16 => ?_)
  refine ry_kd (by decide) Q_h16 ?_
  refine ry_lu Q_h16 (fun h17 Q_h17 => ?_)
  refine ry_kd (by decide) Q_h17 ?_
  refine ry_lu Q_h17 (fun h18 Q_h18 => ?_)
  refine ry_kd (by decide) Q_h18 ?_
  refine ry_lu Q_h18 (fun h19 Q_h19 => ?_)
  refine ry_kd2 (by decide) Q_h19 ?_
  refine ry_lu Q_h19 (fun h20 Q_h20 => ?_)
  exact ry_some Q_h20

def rzX7_init (x0 : Nat) (x1 : Int32) (x2 : Int32) (hh : dT) : Option dT := n_chk (Nat.blt 0 x0 && true) (n_chk (Nat.beq (y_k hh x0) 7) (rz_cu hh x0 3 (0 : Int32) (fun h1 => n_chk (Nat.beq (y_k h1 x0) 7) (rz_cu h1 x0 2 (if x1 < (0 : Int32) then (0 : Int32) else x1) (fun h2 => n_chk (Nat.beq (y_k h2 x0) 7) (rz_cu h2 x0 1 (if (4 : Int32) < (if x2 < (1 : Int32) then (1 : Int32) else x2) then (4 : Int32) else (if x2 < (1 : Int32) then (1 : Int32) else x2)) (fun h3 => n_chk (Nat.beq (y_k h3 x0) 7) (rz_cmv h3 x0 2 (fun v4 => n_chk (Nat.beq (y_k h3 x0) 7) (rz_cmv h3 x0 1 (fun v5 => n_chk (!decide ((v4 * v5) < 0) && Nat.ble ((v4 * v5).toNatClampNeg * 4) 536870912) (z_cal h3 14 (v4 * v5).toNatClampNeg (fun a6 h7 => n_chk (Nat.beq (y_k h7 x0) 7) (rz_cR h7 x0 0 a6 (fun h8 => some h8)))))))))))))))
theorem rsX7_init {B : nH} {N : Nat} {x0 : Nat} {x1 : Int32} {x2 : Int32} {hh : nH} {t : dT} (hN : 1000 ≤ N) (Q_hh : ry_Q B hh t) : ry_S B (fX7_init x0 x1 x2 hh) (rzX7_init x0 x1 x2 t) := by
  rw [vyX7_init]
  unfold rzX7_init
  refine ry_chk (fun z => z) (fun _ => ?_)
  refine ry_kd (by decide) Q_hh ?_
  refine ry_lu Q_hh (fun h1 Q_h1 => ?_)
  refine ry_kd (by decide) Q_h1 ?_
  refine ry_lu Q_h1 (fun h2 Q_h2 => ?_)
  refine ry_kd (by decide) Q_h2 ?_
  refine ry_lu Q_h2 (fun h3 Q_h3 => ?_)
  refine ry_kd (by decide) Q_h3 ?_
  refine ry_lmv Q_h3 ?_
  refine ry_kd (by decide) Q_h3 ?_
  refine ry_lmv Q_h3 ?_
  refine ry_chk (fun z => z) (fun _ => ?_)
  refine ry_lal (by decide) Q_h3 (fun h7 Q_h7 => ?_)
  refine ry_kd (by decide) Q_h7 ?_
  refine ry_lR Q_h7 (fun h8 Q_h8 => ?_)
  exact ry_some Q_h8

def rzX3_init (x0 : Nat) (hh : dT) : Option dT := n_chk (Nat.blt 0 x0 && true) (n_chk (!decide ((400 : Int32) < 0) && Nat.ble ((400 : Int32).toNatClampNeg * 4) 536870912) (z_cal hh 14 (400 : Int32).toNatClampNeg (fun a1 h2 => n_chk (Nat.beq (y_k h2 x0) 3) (rz_cR h2 x0 0 a1 (fun h3 => n_chk (!decide ((16 : Int32) < 0) && Nat.ble ((16 : Int32).toNatClampNeg * 4) 536870912) (z_cal h3 14 (16 : Int32).toNatClampNeg (fun a4 h5 => n_chk (Nat.beq (y_k h5 x0) 3) (rz_cR h5 x0 1 a4 (fun h6 => n_chk (!decide ((16 : Int32) < 0) && Nat.ble ((16 : Int32).toNatClampNeg * 4) 536870912) (z_cal h6 14 (16 : Int32).toNatClampNeg (fun a7 h8 => n_chk (Nat.beq (y_k h8 x0) 3) (rz_cR h8 x0 2 a7 (fun h9 => n_chk (!decide ((16 : Int32) < 0) && Nat.ble ((16 : Int32).toNatClampNeg * 4) 536870912) (z_cal h9 14 (16 : Int32).toNatClampNeg (fun a10 h11 => n_chk (Nat.beq (y_k h11 x0) 3) (rz_cR h11 x0 3 a10 (fun h12 => n_chk (!decide ((16 : Int32) < 0) && Nat.ble ((16 : Int32).toNatClampNeg * 4) 536870912) (z_cal h12 14 (16 : Int32).toNatClampNeg (fun a13 h14 => n_chk (Nat.beq (y_k h14 x0) 3) (rz_cR h14 x0 4 a13 (fun h15 => n_chk (Nat.beq (y_k h15 x0) 3) (rz_cu h15 x0 5 (0 : Int32) (fun h16 => n_chk (Nat.beq (y_k h16 x0) 3) (rz_cu h16 x0 6 (0 : Int32) (fun h17 => some h17)))))))))))))))))))))))))
theorem rsX3_init {B : nH} {N : Nat} {x0 : Nat} {hh : nH} {t : dT} (hN : 1000 ≤ N) (Q_hh : ry_Q B hh t) : ry_S B (fX3_init x0 hh) (rzX3_init x0 t) := by
  rw [vyX3_init]
  unfold rzX3_init
  refine ry_chk (fun z => z) (fun _ => ?_)
  refine ry_chk (fun z => z) (fun _ => ?_)
  refine ry_lal (by decide) Q_hh (fun h2 Q_h2 => ?_)
  refine ry_kd (by decide) Q_h2 ?_
  refine ry_lR Q_h2 (fun h3 Q_h3 => ?_)
  refine ry_chk (fun z => z) (fun _ => ?_)
  refine ry_lal (by decide) Q_h3 (fun h5 Q_h5 => ?_)
  refine ry_kd (by decide) Q_h5 ?_
  refine ry_lR Q_h5 (fun h6 Q_h6 => ?_)
  refine ry_chk (fun z => z) (fun _ => ?_)
  refine ry_lal (by decide) Q_h6 (fun h8 Q_h8 => ?_)
  refine ry_kd (by decide) Q_h8 ?_
  refine ry_lR Q_h8 (fun h9 Q_h9 => ?_)
  refine ry_chk (fun z => z) (fun _ => ?_)
  refine ry_lal (by decide) Q_h9 (fun h11 Q_h11 => ?_)
  refine ry_kd (by decide) Q_h11 ?_
  refine ry_lR Q_h11 (fun h12 Q_h12 => ?_)
  refine ry_chk (fun z => z) (fun _ => ?_)
  refine ry_lal (by decide) Q_h12 (fun h14 Q_h14 => ?_)
  refine ry_kd (by decide) Q_h14 ?_
  refine ry_lR Q_h14 (fun h15 Q_h15 => ?_)
  refine ry_kd (by decide) Q_h15 ?_
  refine ry_lu Q_h15 (fun h16 Q_h16 => ?_)
  refine ry_kd (by decide) Q_h16 ?_
  refine ry_lu Q_h16 (fun h17 Q_h17 => ?_)
  exact ry_some Q_h17

def rzX10_init_88 (x0 : Nat) (s0 : Nat) (hh : dT) : Option dT := z_cal hh 7 4 (fun a1 h2 => n_chk (Nat.blt 0 a1) (z_cbd (rzX7_init a1 (5 : Int32) (1 : Int32) h2) (fun p3 => n_chk (Nat.beq (y_k p3 s0) 10) (rz_cR p3 s0 6 a1 (fun h4 => n_chk (!decide ((12 : Int32) < 0) && Nat.ble ((12 : Int32).toNatClampNeg * 4) 536870912) (z_cal h4 14 (12 : Int32).toNatClampNeg (fun a5 h6 => n_chk (Nat.beq (y_k h6 x0) 10) (rz_cR h6 x0 7 a5 (fun h7 => n_chk (!decide ((36 : Int32) < 0) && Nat.ble ((36 : Int32).toNatClampNeg * 4) 536870912) (z_cal h7 14 (36 : Int32).toNatClampNeg (fun a8 h9 => n_chk (Nat.beq (y_k h9 x0) 10) (rz_cR h9 x0 8 a8 (fun h10 => n_chk (Nat.beq (y_k h10 x0) 10) (rz_cmr h10 x0 7 (fun a11 => z_cfi h10 a11 (2 : Int32) (fun h13 => some h13))))))))))))))))
theorem rsX10_init_88 {B : nH} {N : Nat} {x0 : Nat} {s0 : Nat} {hh : nH} {t : dT} (hN : 1000 ≤ N) (Q_hh : ry_Q B hh t) : ry_S B (fX10_init_88 N x0 s0 hh) (rzX10_init_88 x0 s0 t) := by
  rw [vyX10_init_88]
  unfold rzX10_init_88
  refine ry_lal (by decide) Q_hh (fun h2 Q_h2 => ?_)
  refine ry_chk (fun z => z) (fun _ => ?_)
  refine ry_lbd (rsX7_init hN Q_h2) (fun p3 tp3 Q_p3 => ?_)
  refine ry_kd (by decide) Q_p3 ?_
  refine ry_lR Q_p3 (fun h4 Q_h4 => ?_)
  refine ry_chk (fun z => z) (fun _ => ?_)
  refine ry_lal (by decide) Q_h4 (fun h6 Q_h6 => ?_)
  refine ry_kd (by decide) Q_h6 ?_
  refine ry_lR Q_h6 (fun h7 Q_h7 => ?_)
  refine ry_chk (fun z => z) (fun _ => ?_)
  refine ry_lal (by decide) Q_h7 (fun h9 Q_h9 => ?_)
  refine ry_kd (by decide) Q_h9 ?_
  refine ry_lR Q_h9 (fun h10 Q_h10 => ?_)
  refine ry_kd (by decide) Q_h10 ?_
  refine ry_lmr Q_h10 ?_
  refine ry_lfi hN Q_h10 (fun h13 Q_h13 => ?_)
  exact ry_some Q_h13

def rzX10_init (x0 : Nat) (hh : dT) : Option dT := n_chk (Nat.blt 0 x0 && true) (z_cal hh 7 4 (fun a1 h2 => n_chk (Nat.blt 0 a1) (z_cbd (rzX7_init a1 (16 : Int32) (2 : Int32) h2) (fun p3 => n_chk (Nat.beq (y_k p3 x0) 10) (rz_cR p3 x0 0 a1 (fun h4 => z_cal h4 7 4 (fun a5 h6 => n_chk (Nat.blt 0 a5) (z_cbd (rzX7_init a5 (4 : Int32) (1 : Int32) h6) (fun p7 => n_chk (Nat.beq (y_k p7 x0) 10) (rz_cR p7 x0 1 a5 (fun h8 => z_cal h8 7 4 (fun a9 h10 => n_chk (Nat.blt 0 a9) (z_cbd (rzX7_init a9 (8 : Int32) (2 : Int32) h10) (fun p11 => n_chk (Nat.beq (y_k p11 x0) 10) (rz_cR p11 x0 2 a9 (fun h12 => z_cal h12 7 4 (fun a13 h14 => n_chk (Nat.blt 0 a13) (z_cbd (rzX7_init a13 (12 : Int32) (2 : Int32) h14) (fun p15 => n_chk (Nat.beq (y_k p15 x0) 10) (rz_cR p15 x0 3 a13 (fun h16 => z_cal h16 7 4 (fun a17 h18 => n_chk (Nat.blt 0 a17) (z_cbd (rzX7_init a17 (10 : Int32) (3 : Int32) h18) (fun p19 => n_chk (Nat.beq (y_k p19 x0) 10) (rz_cR p19 x0 4 a17 (fun h20 => z_cal h20 7 4 (fun a21 h22 => n_chk (Nat.blt 0 a21) (z_cbd (rzX7_init a21 (6 : Int32) (1 : Int32) h22) (fun p23 => n_chk (Nat.beq (y_k p23 x0) 10) (rz_cR p23 x0 5 a21 (fun h24 => rzX10_init_88 x0 x0 h24)))))))))))))))))))))))))))))))
theorem rsX10_init {B : nH} {N : Nat} {x0 : Nat} {hh : nH} {t : dT} (hN : 1000 ≤ N) (Q_hh : ry_Q B hh t) : ry_S B (fX10_init N x0 hh) (rzX10_init x0 t) := by
  rw [vyX10_init]
  unfold rzX10_init
  refine ry_chk (fun z => z) (fun _ => ?_)
  refine ry_lal (by decide) Q_hh (fun h2 Q_h2 => ?_)
  refine ry_chk (fun z => z) (fun _ => ?_)
  refine ry_lbd (rsX7_init hN Q_h2) (fun p3 tp3 Q_p3 => ?_)
  refine ry_kd (by decide) Q_p3 ?_
  refine ry_lR Q_p3 (fun h4 Q_h4 => ?_)
  refine ry_lal (by decide) Q_h4 (fun h6 Q_h6 => ?_)
  refine ry_chk (fun z => z) (fun _ => ?_)
  refine ry_lbd (rsX7_init hN Q_h6) (fun p7 tp7 Q_p7 => ?_)
  refine ry_kd (by decide) Q_p7 ?_
  refine ry_lR Q_p7 (fun h8 Q_h8 => ?_)
  refine ry_lal (by decide) Q_h8 (fun h10 Q_h10 => ?_)
  refine ry_chk (fun z => z) (fun _ => ?_)
  refine ry_lbd (rsX7_init hN Q_h10) (fun p11 tp11 Q_p11 => ?_)
  refine ry_kd (by decide) Q_p11 ?_
  refine ry_lR Q_p11 (fun h12 Q_h12 => ?_)
  refine ry_lal (by decide) Q_h12 (fun h14 Q_h14 => ?_)
  refine ry_chk (fun z => z) (fun _ => ?_)
  refine ry_lbd (rsX7_init hN Q_h14) (fun p15 tp15 Q_p15 => ?_)
  refine ry_kd (by decide) Q_p15 ?_
  refine ry_lR Q_p15 (fun h16 Q_h16 => ?_)
  refine ry_lal (by decide) Q_h16 (fun h18 Q_h18 => ?_)
  refine ry_chk (fun z => z) (fun _ => ?_)
  refine ry_lbd (rsX7_init hN Q_h18) (fun p19 tp19 Q_p19 => ?_)
  refine ry_kd (by decide) Q_p19 ?_
  refine ry_lR Q_p19 (fun h20 Q_h20 => ?_)
  refine ry_lal (by decide) Q_h20 (fun h22 Q_h22 => ?_)
  refine ry_chk (fun z => z) (fun _ => ?_)
  refine ry_lbd (rsX7_init hN Q_h22) (fun p23 tp23 Q_p23 => ?_)
  refine ry_kd (by decide) Q_p23 ?_
  refine ry_lR Q_p23 (fun h24 Q_h24 => ?_)
  exact rsX10_init_88 hN Q_h24

def rzX1_init_92 (x0 : Nat) (s0 : Nat) (s1 : Nat) (hh : dT) : Option dT := n_chk (Nat.beq (y_k hh s1) 1) (rz_cR hh s1 6 s0 (fun h1 => z_cal h1 10 9 (fun a2 h3 => n_chk (Nat.blt 0 a2) (z_cbd (rzX10_init a2 h3) (fun p4 => n_chk (Nat.beq (y_k p4 x0) 1) (rz_cR p4 x0 7 a2 (fun h5 => some h5)))))))
theorem rsX1_init_92 {B : nH} {N : Nat} {x0 : Nat} {s0 : Nat} {s1 : Nat} {hh : nH} {t : dT} (hN : 1000 ≤ N) (Q_hh : ry_Q B hh t) : ry_S B (fX1_init_92 N x0 s0 s1 hh) (rzX1_init_92 x0 s0 s1 t) := by
  rw [vyX1_init_92]
  unfold rzX1_init_92
  refine ry_kd (by decide) Q_hh ?_
  refine ry_lR Q_hh (fun h1 Q_h1 => ?_)
  refine ry_lal (by decide) Q_h1 (fun h3 Q_h3 => ?_)
  refine ry_chk (fun z => z) (fun _ => ?_)
  refine ry_lbd (rsX10_init hN Q_h3) (fun p4 tp4 Q_p4 => ?_)
  refine ry_kd (by decide) Q_p4 ?_
  refine ry_lR Q_p4 (fun h5 Q_h5 => ?_)
  exact ry_some Q_h5

def rzX1_init (x0 : Nat) (hh : dT) : Option dT := n_chk (Nat.blt 0 x0 && true) (z_cal hh 8 7 (fun a1 h2 => n_chk (Nat.blt 0 a1) (z_cbd (rzX8_init a1 h2) (fun p3 => n_chk (Nat.beq (y_k p3 x0) 1) (rz_cR p3 x0 0 a1 (fun h4 => z_cal h4 4 12 (fun a5 h6 => n_chk (Nat.blt 0 a5) (z_cbd (rzX4_init a5 (0 : Int32) h6) (fun p7 => n_chk (Nat.beq (y_k p7 x0) 1) (rz_cR p7 x0 1 a5 (fun h8 => z_cal h8 7 4 (fun a9 h10 => n_chk (Nat.blt 0 a9) (z_cbd (rzX7_init a9 (150 : Int32) (4 : Int32) h10) (fun p11 => n_chk (Nat.beq (y_k p11 x0) 1) (rz_cR p11 x0 2 a9 (fun h12 => z_cal h12 3 7 (fun a13 h14 => n_chk (Nat.blt 0 a13) (z_cbd (rzX3_init a13 h14) (fun p15 => n_chk (Nat.beq (y_k p15 x0) 1) (rz_cR p15 x0 3 a13 (fun h16 => z_cal h16 7 4 (fun a17 h18 => n_chk (Nat.blt 0 a17) (z_cbd (rzX7_init a17 (16 : Int32) (4 : Int32) h18) (fun p19 => n_chk (Nat.beq (y_k p19 x0) 1) (rz_cR p19 x0 4 a17 (fun h20 => z_cal h20 7 4 (fun a21 h22 => n_chk (Nat.blt 0 a21) (z_cbd (rzX7_init a21 (16 : Int32) (4 : Int32) h22) (fun p23 => n_chk (Nat.beq (y_k p23 x0) 1) (rz_cR p23 x0 5 a21 (fun h24 => z_cal h24 7 4 (fun a25 h26 => n_chk (Nat.blt 0 a25) (z_cbd (rzX7_init a25 (16 : Int32) (4 : Int32) h26) (fun p27 => rzX1_init_92 x0 a25 x0 p27))))))))))))))))))))))))))))))))))
theorem rsX1_init {B : nH} {N : Nat} {x0 : Nat} {hh : nH} {t : dT} (hN : 1000 ≤ N) (Q_hh : ry_Q B hh t) : ry_S B (fX1_init N x0 hh) (rzX1_init x0 t) := by
  rw [vyX1_init]
  unfold rzX1_init
  refine ry_chk (fun z => z) (fun _ => ?_)
  refine ry_lal (by decide) Q_hh (fun h2 Q_h2 => ?_)
  refine ry_chk (fun z => z) (fun _ => ?_)
  refine ry_lbd (rsX8_init hN Q_h2) (fun p3 tp3 Q_p3 => ?_)
  refine ry_kd (by decide) Q_p3 ?_
  refine ry_lR Q_p3 (fun h4 Q_h4 => ?_)
  refine ry_lal (by decide) Q_h4 (fun h6 Q_h6 => ?_)
  refine ry_chk (fun z => z) (fun _ => ?_)
  refine ry_lbd (rsX4_init hN Q_h6) (fun p7 tp7 Q_p7 => ?_)
  refine ry_kd (by decide) Q_p7 ?_
  refine ry_lR Q_p7 (fun h8 Q_h8 => ?_)
  refine ry_lal (by decide) Q_h8 (fun h10 Q_h10 => ?_)
  refine ry_chk (fun z => z) (fun _ => ?_)
  refine ry_lbd (rsX7_init hN Q_h10) (fun p11 tp11 Q_p11 => ?_)
  refine ry_kd (by decide) Q_p11 ?_
  refine ry_lR Q_p11 (fun h12 Q_h12 => ?_)
  refine ry_lal (by decide) Q_h12 (fun h14 Q_h14 => ?_)
  refine ry_chk (fun z => z) (fun _ => ?_)
  refine ry_lbd (rsX3_init hN Q_h14) (fun p15 tp15 Q_p15 => ?_)
  refine ry_kd (by decide) Q_p15 ?_
  refine ry_lR Q_p15 (fun h16 Q_h16 => ?_)
  refine ry_lal (by decide) Q_h16 (fun h18 Q_h18 => ?_)
  refine ry_chk (fun z => z) (fun _ => ?_)
  refine ry_lbd (rsX7_init hN Q_h18) (fun p19 tp19 Q_p19 => ?_)
  refine ry_kd (by decide) Q_p19 ?_
  refine ry_lR Q_p19 (fun h20 Q_h20 => ?_)
  refine ry_lal (by decide) Q_h20 (fun h22 Q_h22 => ?_)
  refine ry_chk (fun z => z) (fun _ => ?_)
  refine ry_lbd (rsX7_init hN Q_h22) (fun p23 tp23 Q_p23 => ?_)
  refine ry_kd (by decide) Q_p23 ?_
  refine ry_lR Q_p23 (fun h24 Q_h24 => ?_)
  refine ry_lal (by decide) Q_h24 (fun h26 Q_h26 => ?_)
  refine ry_chk (fun z => z) (fun _ => ?_)
  refine ry_lbd (rsX7_init hN Q_h26) (fun p27 tp27 Q_p27 => ?_)
  exact rsX1_init_92 hN Q_p27

