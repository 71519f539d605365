/-! ===== image: the house made anew ===== -/
set_option maxRecDepth 100000 in
def y_T3 : dT := [(1, 152, 7, 178, 0), (3, 193, 0, 12, 2), (1, 178, 8, 194, 0), (0, 194, 14, 36, 0), (1, 178, 7, 193, 0), (0, 193, 14, 12, 0), (1, 178, 6, 191, 0), (1, 191, 0, 192, 0), (0, 192, 14, 5, 0), (2, 191, 1, 0, 1), (2, 191, 2, 0, 5), (2, 191, 3, 0, 0), (0, 191, 7, 4, 0), (1, 178, 5, 189, 0), (1, 189, 0, 190, 0), (0, 190, 14, 6, 0), (2, 189, 1, 0, 1), (2, 189, 2, 0, 6), (2, 189, 3, 0, 0), (0, 189, 7, 4, 0), (1, 178, 4, 187, 0), (1, 187, 0, 188, 0), (0, 188, 14, 30, 0), (2, 187, 1, 0, 3), (2, 187, 2, 0, 10), (2, 187, 3, 0, 0), (0, 187, 7, 4, 0), (1, 178, 3, 185, 0), (1, 185, 0, 186, 0), (0, 186, 14, 24, 0), (2, 185, 1, 0, 2), (2, 185, 2, 0, 12), (2, 185, 3, 0, 0), (0, 185, 7, 4, 0), (1, 178, 2, 183, 0), (1, 183, 0, 184, 0), (0, 184, 14, 16, 0), (2, 183, 1, 0, 2), (2, 183, 2, 0, 8), (2, 183, 3, 0, 0), (0, 183, 7, 4, 0), (1, 178, 1, 181, 0), (1, 181, 0, 182, 0), (0, 182, 14, 4, 0), (2, 181, 1, 0, 1), (2, 181, 2, 0, 4), (2, 181, 3, 0, 0), (0, 181, 7, 4, 0), (1, 178, 0, 179, 0), (1, 179, 0, 180, 0), (0, 180, 14, 32, 0), (2, 179, 1, 0, 2), (2, 179, 2, 0, 16), (2, 179, 3, 0, 0), (0, 179, 7, 4, 0), (0, 178, 10, 9, 0), (1, 152, 6, 176, 0), (1, 176, 0, 177, 0), (0, 177, 14, 64, 0), (2, 176, 1, 0, 4), (2, 176, 2, 0, 16), (2, 176, 3, 0, 0), (0, 176, 7, 4, 0), (1, 152, 5, 174, 0), (1, 174, 0, 175, 0), (0, 175, 14, 64, 0), (2, 174, 1, 0, 4), (2, 174, 2, 0, 16), (2, 174, 3, 0, 0), (0, 174, 7, 4, 0), (1, 152, 4, 172, 0), (1, 172, 0, 173, 0), (0, 173, 14, 64, 0), (2, 172, 1, 0, 4), (2, 172, 2, 0, 16), (2, 172, 3, 0, 0), (0, 172, 7, 4, 0), (1, 152, 3, 166, 0), (2, 166, 6, 0, 0), (2, 166, 5, 0, 0), (1, 166, 4, 171, 0), (0, 171, 14, 16, 0), (1, 166, 3, 170, 0), (0, 170, 14, 16, 0), (1, 166, 2, 169, 0), (0, 169, 14, 16, 0), (1, 166, 1, 168, 0), (0, 168, 14, 16, 0), (1, 166, 0, 167, 0), (0, 167, 14, 400, 0), (0, 166, 3, 7, 0), (1, 152, 2, 164, 0), (1, 164, 0, 165, 0), (0, 165, 14, 600, 0), (2, 164, 1, 0, 4), (2, 164, 2, 0, 150), (2, 164, 3, 0, 0), (0, 164, 7, 4, 0), (1, 152, 1, 159, 0), (2, 159, 0, 0, 0), (2, 159, 11, 0, 0), (2, 159, 10, 0, 0), (2, 159, 9, 0, 0), (2, 159, 8, 0, 0), (2, 159, 7, 0, 0), (2, 159, 6, 0, 0), (2, 159, 5, 0, 0), (1, 159, 4, 163, 0), (0, 163, 14, 12, 0), (1, 159, 3, 162, 0), (0, 162, 14, 12, 0), (1, 159, 2, 161, 0), (0, 161, 14, 16, 0), (1, 159, 1, 160, 0), (0, 160, 14, 16, 0), (0, 159, 4, 12, 0), (1, 152, 0, 153, 0), (3, 154, 0, 12, 9), (2, 153, 6, 0, 0), (2, 153, 5, 0, 0), (1, 153, 4, 158, 0), (0, 158, 14, 12, 0), (1, 153, 3, 157, 0), (0, 157, 14, 12, 0), (1, 153, 2, 156, 0), (0, 156, 14, 16, 0), (1, 153, 1, 155, 0), (0, 155, 14, 16, 0), (1, 153, 0, 154, 0), (0, 154, 14, 12, 0), (0, 153, 8, 7, 0), (0, 152, 1, 8, 0)]
set_option maxRecDepth 100000 in
theorem y_e3 : rzX1_init 152 [(0, 152, 1, 8, 0)] = some y_T3 := by decide +kernel
theorem ry_q0 {B : nH} (hn : n_n B.1 = 151) : ry_Q B (n_alloc B 1 8) [(0, 152, 1, 8, 0)] := by
  have e152 : n_n B.1 + 1 = 152 := by rw [hn]
  have ek : ∀ a, y_k [(0, 152, 1, 8, 0)] a = if a = 152 then 1 else 99 := fun a => by
    show (bif true && Nat.beq a 152 then 1 else 99) = _
    rw [Bool.true_and, y_beq]
    by_cases e : a = 152
    · rw [decide_eq_true e, if_pos e]; rfl
    · rw [decide_eq_false e, if_neg e]; rfl
  refine ⟨e152, rfl, fun a ha => ?_, fun a ha => ?_⟩
  · rw [ek] at ha
    by_cases e : a = 152
    · subst e
      refine ⟨?_, ?_, fun i => ?_, fun i => ?_⟩
      · show va_up (n_kd B.1) (n_n B.1 + 1) 1 152 = 1
        rw [e152, va_up_self]
      · show va_up (n_len B.1) (n_n B.1 + 1) 8 152 = 8
        rw [e152, va_up_self]
      · show va_up (n_mr B.1) (n_n B.1 + 1) (fun _ => 0) 152 i = 0
        rw [e152, va_up_self]
      · show va_up B.2 (n_n B.1 + 1) (fun _ => 0) 152 i = 0
        rw [e152, va_up_self]
    · rw [if_neg e] at ha; exact absurd rfl ha
  · rw [ek] at ha
    by_cases e : a = 152
    · rw [if_pos e] at ha; exact absurd ha (by decide)
    · have e' : a ≠ n_n B.1 + 1 := by rw [e152]; exact e
      exact ⟨va_up_ne _ _ e', va_up_ne _ _ e', va_up_ne _ _ e', va_up_ne _ _ e'⟩
set_option maxRecDepth 100000 in
theorem y_3k : ∀ a, a < 45 → 2 ≤ a → y_k y_T3 (a + 150) = n_nN n_kdL a 99 ∧ y_l y_T3 (a + 150) = n_nN n_lenL a 0 ∧ n_nN n_kdL a 99 ≠ 99 := by decide +kernel
set_option maxRecDepth 100000 in
theorem y_3r : ∀ a, a < 45 → 2 ≤ a → ∀ k, k < 12 → y_r y_T3 (a + 150) k = (if n_nN (n_nL n_mrL a) k 0 = 0 then 0 else n_nN (n_nL n_mrL a) k 0 + 150) := by decide +kernel
set_option maxRecDepth 100000 in
theorem y_3l : ∀ a, a < 45 → (n_nL n_mrL a).length ≤ 12 := by decide +kernel
theorem y_r_b12 {a k : Nat} : ∀ t : dT, t.all (fun x => Nat.blt x.2.2.1 12 || !Nat.beq x.1 1) = true → 12 ≤ k → y_r t a k = 0
  | [], _, _ => rfl
  | (o, b, j, v, w) :: t, h, hk => by
    rw [List.all_cons, Bool.and_eq_true] at h
    have ih := y_r_b12 (a := a) (k := k) t h.2 hk
    unfold y_r
    cases e0 : (Nat.beq o 0 && Nat.beq a b) with
    | true => rfl
    | false =>
      cases e1 : (Nat.beq o 1 && (Nat.beq a b && Nat.beq k j)) with
      | false => exact ih
      | true =>
        exfalso
        rw [Bool.and_eq_true, Bool.and_eq_true] at e1
        have hj : k = j := Nat.eq_of_beq_eq_true e1.2.2
        have h1 := h.1
        rw [show Nat.beq (o, b, j, v, w).1 1 = true from e1.1, Bool.not_true, Bool.or_false] at h1
        have : j < 12 := Nat.le_of_ble_eq_true h1
        omega
set_option maxRecDepth 100000 in
theorem y_3a : y_T3.all (fun x => Nat.blt x.2.2.1 12 || !Nat.beq x.1 1) = true := by decide +kernel
set_option maxRecDepth 100000 in
theorem y_3n : y_n y_T3 = 194 ∧ y_s y_T3 = 1632 := by decide +kernel
theorem y_k_no {a : Nat} : ∀ t : dT, t.all (fun x => !Nat.beq x.1 0 || Nat.blt 151 x.2.1) = true → a ≤ 151 → y_k t a = 99
  | [], _, _ => rfl
  | (o, b, j, v, w) :: t, h, ha => by
    rw [List.all_cons, Bool.and_eq_true] at h
    have ih := y_k_no (a := a) t h.2 ha
    unfold y_k
    cases e0 : (Nat.beq o 0 && Nat.beq a b) with
    | false => exact ih
    | true =>
      exfalso
      rw [Bool.and_eq_true] at e0
      have hb : a = b := Nat.eq_of_beq_eq_true e0.2
      have h1 := h.1
      rw [show Nat.beq (o, b, j, v, w).1 0 = true from e0.1, Bool.not_true, Bool.false_or] at h1
      have : 151 < b := Nat.le_of_ble_eq_true h1
      omega
set_option maxRecDepth 100000 in
theorem y_3b : y_T3.all (fun x => !Nat.beq x.1 0 || Nat.blt 151 x.2.1) = true := by decide +kernel
/-- the house is made anew -/
theorem c_anew {N : Nat} {B : nH} (hN : 1000 ≤ N) (hn : n_n B.1 = 151) : ∃ h : nH, fX1_init N 152 (n_alloc B 1 8) = some ((), h) ∧ n_n h.1 = 194 ∧ n_sl h.1 = n_sl B.1 + 1632 ∧ (∀ a, a ≤ 151 → n_kd h.1 a = n_kd B.1 a ∧ n_len h.1 a = n_len B.1 a ∧ n_mr h.1 a = n_mr B.1 a ∧ h.2 a = B.2 a) ∧ HB h.1 150 := by
  obtain ⟨h, h1, h2⟩ := rsX1_init (N := N) (B := B) (x0 := 152) hN (ry_q0 hn) y_T3 y_e3
  refine ⟨h, h1, by rw [h2.1]; exact y_3n.1, by rw [h2.2.1, y_3n.2], fun a ha => h2.2.2.2 a (y_k_no y_T3 y_3b ha), fun a a1 a2 => ?_⟩
  obtain ⟨k1, k2, k3⟩ := y_3k a a2 a1
  obtain ⟨r1, r2, r3, -⟩ := h2.2.2.1 (a + 150) (by rw [k1]; exact k3)
  refine ⟨r1.trans k1, r2.trans k2, fun k => (r3 k).trans ?_⟩
  by_cases z : k < 12
  · exact y_3r a a2 a1 k z
  · rw [y_r_b12 y_T3 y_3a (by omega), n_nN_big _ _ _ (Nat.le_trans (y_3l a a2) (by omega)), if_pos rfl]
