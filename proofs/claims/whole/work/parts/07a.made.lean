/-! ===== what makes cells and sets references ===== -/
abbrev nD (T : Type) : Type := (Nat → nL → List Value → nH → Option T) → nL → List Value → nH → Option T
def n_Sd (l : Launch) (w : nW) (d : Nat) (μ : nY) {T : Type} (fin : T → nR) (pc : Nat) (op : nD T) : Prop :=
  ∀ (go : Nat → nL → List Value → nH → Option T) (r : T) (lv : nL) (st : List Value) (h : nH), (∀ (pc' : Nat) (lv' : nL) (st' : List Value) (h' : nH), go pc' lv' st' h' = some r → n_At l w d μ pc' lv' st' h' (fin r)) → op go lv st h = some r → n_At l w d μ pc lv st h (fin r)
abbrev o_up {T : Type} (o : nG → nO T) : nD T := fun go lv st h => o h.1 (fun pc lv st M => go pc lv st (h.1, M)) lv st h.2
theorem s_up {l : Launch} {w : nW} {d : Nat} {μ : nY} {T : Type} {fin : T → nR} {pc : Nat} {o : nG → nO T} (hs : ∀ G, n_S l w d μ G fin pc (o G)) : n_Sd l w d μ fin pc (o_up o) := fun go r lv st h hg hr => hs h.1 (fun pc lv st M => go pc lv st (h.1, M)) r lv st h.2 (fun pc' lv' st' M' h' => hg pc' lv' st' (h.1, M') h') hr
def n_alloc (h : nH) (k len : Nat) : nH := ((n_n h.1 + 1, n_sl h.1 + len, va_up (n_kd h.1) (n_n h.1 + 1) k, va_up (n_len h.1) (n_n h.1 + 1) len, va_up (n_mr h.1) (n_n h.1 + 1) (fun _ => 0)), va_up h.2 (n_n h.1 + 1) (fun _ => 0))
theorem n_alloc_n (h : nH) (k len : Nat) : n_n (n_alloc h k len).1 = n_n h.1 + 1 := rfl
theorem n_alloc_sl (h : nH) (k len : Nat) : n_sl (n_alloc h k len).1 = n_sl h.1 + len := rfl
theorem n_alloc_kd (h : nH) (k len : Nat) : n_kd (n_alloc h k len).1 = va_up (n_kd h.1) (n_n h.1 + 1) k := rfl
theorem n_alloc_other {w : nW} {h : nH} {k len a : Nat} (ha : a ≠ n_n h.1 + 1) : n_cell w (n_alloc h k len) a = n_cell w h a := by
  have e1 : n_kd (n_alloc h k len).1 a = n_kd h.1 a := va_up_ne _ _ ha
  have e2 : n_len (n_alloc h k len).1 a = n_len h.1 a := va_up_ne _ _ ha
  have e3 : n_mr (n_alloc h k len).1 a = n_mr h.1 a := va_up_ne _ _ ha
  have e4 : (n_alloc h k len).2 a = h.2 a := va_up_ne _ _ ha
  unfold n_cell n_fs
  simp only [e1, e2, e3, e4]
theorem n_alloc_ws {w : nW} {h : nH} {k len : Nat} : n_ws w (n_alloc h k len) = n_ws w h ++ [(w.1 + (n_n h.1 + 1), n_cell w (n_alloc h k len) (n_n h.1 + 1))] := by
  unfold n_ws
  rw [n_alloc_n, List.range_succ, List.map_append]
  refine congrArg (fun x => x ++ _) (List.map_congr_left fun i hi => ?_)
  have := List.mem_range.mp hi
  rw [n_alloc_other (by omega)]
theorem n_alloc_P {w : nW} {h : nH} {k len : Nat} {H H1 : Heap} (hk : k ≤ 15) (hP : n_P w h H) (h1 : va_P w.2.1 vwCl (n_ws w h ++ [(w.1 + (n_n h.1 + 1), n_cell w (n_alloc h k len) (n_n h.1 + 1))]) H1) : n_P w (n_alloc h k len) H1 := by
  refine ⟨fun a ha => ?_, by rw [n_alloc_ws]; exact h1⟩
  rw [n_alloc_n]
  by_cases e : a = n_n h.1 + 1
  · omega
  · have : n_kd (n_alloc h k len).1 a = n_kd h.1 a := va_up_ne _ _ e
    rw [this] at ha
    have := hP.1 a ha
    omega
/-- where a new cell lies -/
theorem n_addr {w : nW} {h : nH} {s : State} {H1 : Heap} {cells q : Nat} {x : va_E} (hz : w.1 + 1 + n_n h.1 = s.heap.size + cells) (hu : H1.size ≤ s.heap.size + (cells + 1)) (hP : va_P w.2.1 vwCl (n_ws w h ++ [(q, x)]) H1) (hD : va_D (n_A w) (n_ws w h ++ [(q, x)])) : q = w.1 + (n_n h.1 + 1) := by
  have hl : (n_ws w h ++ [(q, x)])[n_n h.1]? = some (q, x) := by
    rw [List.getElem?_append_right (by rw [n_ws_len]; exact Nat.le_refl _), n_ws_len, Nat.sub_self]
    rfl
  have h1 : q < H1.size := (hP _ _ hl).lt
  have h2 : w.1 < q := hD.2 _ _ hl
  by_cases hq : q = w.1 + (n_n h.1 + 1)
  · exact hq
  · exfalso
    have hb : 1 ≤ q - w.1 ∧ q - w.1 ≤ n_n h.1 := by omega
    have h3 := n_ws_get (w := w) (h := h) hb.1 hb.2
    have h4 : (n_ws w h ++ [(q, x)])[q - w.1 - 1]? = some (w.1 + (q - w.1), n_cell w h (q - w.1)) := by
      rw [List.getElem?_append_left (by rw [n_ws_len]; omega)]
      exact h3
    have h5 := hD.1 _ _ _ _ h4 hl (by show w.1 + (q - w.1) = q; omega)
    omega
abbrev o_new {T : Type} (ci N nx : Nat) : nD T := fun go lv st h => go nx lv (.ref (n_n h.1 + 1) :: st) (n_alloc h ci N)
def n_DF (ci N : Nat) : Prop := ∀ j, j < N → defaultValue (n_ty ci j) = if n_isR (n_ty ci j) = true then .null else .int 0
theorem s_new {l : Launch} {w : nW} {d : Nat} {μ : nY} {T : Type} {fin : T → nR} {pc : Nat} {ci idx N : Nat} {C0 : String} {TT : u_T} (ok : n_OK ci C0 TT N) (df : n_DF ci N) (w1 : Cond.classLink μ.1 idx C0 ∈ lw_good) (w2 : Cond.instantiable C0 N ∈ lw_good) (w3 : Cond.initialized C0 ∈ lw_good) (hd : decode μ.2.2.1 pc = .ok (.new idx, 3)) : n_Sd l w d μ fin pc (o_new ci N (pc + 3)) := by
  intro go r lv st h hg hr
  have h1 := hg _ _ _ _ hr
  have g1 := h1.1
  rw [n_alloc_n, n_alloc_sl] at g1
  refine ⟨by omega, fun p e R s m args below meth c H locs cells slots ls C hP hS hl hz hc hs => ?_⟩
  have ht := C.2.2.2.2.2.2.2.1
  have hci := ok.1
  have hkn : n_kd (n_alloc h ci N).1 (n_n h.1 + 1) = ci := va_up_self _ _ _
  have hmn : n_mr (n_alloc h ci N).1 (n_n h.1 + 1) = fun _ => 0 := va_up_self _ _ _
  have hMn : (n_alloc h ci N).2 (n_n h.1 + 1) = fun _ => 0 := va_up_self _ _ _
  refine va_new (fs := n_fs w.1 (n_alloc h ci N) ci (n_n h.1 + 1)) C.1 C.2.1 ht ok.2.2.1 (n_ty ci) ok.2.2.2.1 C.2.2.2.2.1 (ht _ w1) (ht _ w2) (ht _ w3) C.2.2.2.2.2.2.2.2.1.1 hP.2 (n_D w h) hS (fun q hq => Nat.lt_of_lt_of_le C.2.2.2.2.2.2.2.2.2.1 hq) ok.2.1 (fun j hj => ?_) (by omega) (by omega) hd (fun q H1 hP1 hD1 hS => ?_)
  · rw [df j hj]
    unfold vp_V
    rw [List.getD_eq_getElem?_getD, n_fs_get ok.N hj, hmn, hMn]
    by_cases hR : n_isR (n_ty ci j) = true
    · simp [hR, n_rf, va_rf]
    · simp [hR]
  · refine n_W_sz fun hu => ?_
    have hq := n_addr hz hu hP1 hD1
    subst hq
    have e7 : n_cell w (n_alloc h ci N) (n_n h.1 + 1) = .inr (ci, n_fs w.1 (n_alloc h ci N) ci (n_n h.1 + 1)) := n_cell_obj hkn ok.1
    rw [← e7] at hP1
    have hP := n_alloc_P (k := ci) (len := N) (by omega) hP hP1
    have h2 := h1.2 p e R s m args below meth c H1 locs (cells + 1) (slots + N) ls C hP hS hl (by rw [n_alloc_n]; omega) (by rw [n_alloc_n]; omega) (by rw [n_alloc_sl]; omega)
    rw [n_alloc_n, n_alloc_sl, List.map_cons, n_ref (by omega)] at h2
    have e1 : cells + 1 + (n_n (fin r).2.1 - (n_n h.1 + 1)) = cells + (n_n (fin r).2.1 - n_n h.1) := by omega
    have e2 : slots + N + (n_sl (fin r).2.1 - (n_sl h.1 + N)) = slots + (n_sl (fin r).2.1 - n_sl h.1) := by omega
    rw [e1, e2] at h2
    exact h2
abbrev o_newa {T : Type} (k cb nx : Nat) : nD T := fun go lv st h => match st with
  | .int x :: r => n_chk (!decide (x < 0) && Nat.ble (x.toNatClampNeg * cb) 536870912) (go nx lv (.ref (n_n h.1 + 1) :: r) (n_alloc h k x.toNatClampNeg))
  | _ => none
theorem s_newI {l : Launch} {w : nW} {d : Nat} {μ : nY} {T : Type} {fin : T → nR} {pc : Nat} (w1 : Cond.arrayClass .int ∈ lw_good) (hd : decode μ.2.2.1 pc = .ok (.newarray .int, 2)) : n_Sd l w d μ fin pc (o_newa 14 4 (pc + 2)) := by
  intro go r lv st h hg hr
  unfold o_newa at hr
  split at hr
  · rename_i x rest
    obtain ⟨hb, hr⟩ := n_chk_some hr
    simp only [Bool.and_eq_true, Bool.not_eq_true', decide_eq_false_iff_not] at hb
    have h1 := hg _ _ _ _ hr
    have g1 := h1.1
    rw [n_alloc_n, n_alloc_sl] at g1
    refine ⟨by omega, fun p e R s m args below meth c H locs cells slots ls C hP hS hl hz hc hs => ?_⟩
    have ht := C.2.2.2.2.2.2.2.1
    have hkn : n_kd (n_alloc h 14 x.toNatClampNeg).1 (n_n h.1 + 1) = 14 := va_up_self _ _ _
    have hln : n_len (n_alloc h 14 x.toNatClampNeg).1 (n_n h.1 + 1) = x.toNatClampNeg := va_up_self _ _ _
    have hMn : (n_alloc h 14 x.toNatClampNeg).2 (n_n h.1 + 1) = fun _ => 0 := va_up_self _ _ _
    refine va_newa C.1 C.2.1 (atype := .int) (ht _ w1) (ty := .int) rfl C.2.2.2.2.2.2.2.2.1.1 hP.2 (n_D w h) hS (fun q hq => Nat.lt_of_lt_of_le C.2.2.2.2.2.2.2.2.2.1 hq) (N' := x.toNatClampNeg) (a0 := (x.toNatClampNeg, .inl (fun _ => 0))) (fun cA => rfl) hb.1 rfl (Nat.le_of_ble_eq_true hb.2) (by omega) (by omega) hd (fun q cA H1 hK1 hP1 hD1 hS => ?_)
    refine n_W_sz fun hu => ?_
    have hq := n_addr hz hu hP1 hD1
    subst hq
    have hcA : cA = w.2.2.2.1 := by
      have a1 := (hK1.2 3 (cA, .int) rfl).2
      have a2 := (C.2.2.2.2.2.2.2.2.1.1.2 1 (w.2.2.2.1, .int) rfl).2
      exact Option.some.inj (a1.symm.trans a2)
    subst hcA
    have e9 : n_cell w (n_alloc h 14 x.toNatClampNeg) (n_n h.1 + 1) = .inl (w.2.2.2.1, x.toNatClampNeg, .inl (fun _ => 0)) := by
      rw [n_cell_I hkn, hln, hMn]
    rw [← e9] at hP1
    have hP := n_alloc_P (k := 14) (len := x.toNatClampNeg) (by omega) hP hP1
    have h2 := h1.2 p e R s m args below meth c H1 locs (cells + 1) (slots + x.toNatClampNeg) ls C hP hS hl (by rw [n_alloc_n]; omega) (by rw [n_alloc_n]; omega) (by rw [n_alloc_sl]; omega)
    rw [n_alloc_n, n_alloc_sl, List.map_cons, n_ref (by omega)] at h2
    have e1 : cells + 1 + (n_n (fin r).2.1 - (n_n h.1 + 1)) = cells + (n_n (fin r).2.1 - n_n h.1) := by omega
    have e2 : slots + x.toNatClampNeg + (n_sl (fin r).2.1 - (n_sl h.1 + x.toNatClampNeg)) = slots + (n_sl (fin r).2.1 - n_sl h.1) := by omega
    rw [e1, e2] at h2
    exact h2
  · cases hr
theorem s_newB {l : Launch} {w : nW} {d : Nat} {μ : nY} {T : Type} {fin : T → nR} {pc : Nat} (w1 : Cond.arrayClass .byte ∈ lw_good) (hd : decode μ.2.2.1 pc = .ok (.newarray .byte, 2)) : n_Sd l w d μ fin pc (o_newa 13 1 (pc + 2)) := by
  intro go r lv st h hg hr
  unfold o_newa at hr
  split at hr
  · rename_i x rest
    obtain ⟨hb, hr⟩ := n_chk_some hr
    simp only [Bool.and_eq_true, Bool.not_eq_true', decide_eq_false_iff_not] at hb
    have h1 := hg _ _ _ _ hr
    have g1 := h1.1
    rw [n_alloc_n, n_alloc_sl] at g1
    refine ⟨by omega, fun p e R s m args below meth c H locs cells slots ls C hP hS hl hz hc hs => ?_⟩
    have ht := C.2.2.2.2.2.2.2.1
    have hkn : n_kd (n_alloc h 13 x.toNatClampNeg).1 (n_n h.1 + 1) = 13 := va_up_self _ _ _
    have hln : n_len (n_alloc h 13 x.toNatClampNeg).1 (n_n h.1 + 1) = x.toNatClampNeg := va_up_self _ _ _
    have hMn : (n_alloc h 13 x.toNatClampNeg).2 (n_n h.1 + 1) = fun _ => 0 := va_up_self _ _ _
    refine va_newa C.1 C.2.1 (atype := .byte) (ht _ w1) (ty := .byte) rfl C.2.2.2.2.2.2.2.2.1.1 hP.2 (n_D w h) hS (fun q hq => Nat.lt_of_lt_of_le C.2.2.2.2.2.2.2.2.2.1 hq) (N' := x.toNatClampNeg) (a0 := (x.toNatClampNeg, .inl (fun _ => 0))) (fun cA => rfl) hb.1 rfl (Nat.le_of_ble_eq_true hb.2) (by omega) (by omega) hd (fun q cA H1 hK1 hP1 hD1 hS => ?_)
    refine n_W_sz fun hu => ?_
    have hq := n_addr hz hu hP1 hD1
    subst hq
    have hcA : cA = w.2.2.1 := by
      have a1 := (hK1.2 3 (cA, .byte) rfl).2
      have a2 := (C.2.2.2.2.2.2.2.2.1.1.2 0 (w.2.2.1, .byte) rfl).2
      exact Option.some.inj (a1.symm.trans a2)
    subst hcA
    have e9 : n_cell w (n_alloc h 13 x.toNatClampNeg) (n_n h.1 + 1) = .inl (w.2.2.1, x.toNatClampNeg, .inl (fun _ => 0)) := by
      rw [n_cell_B hkn, hln, hMn]
    rw [← e9] at hP1
    have hP := n_alloc_P (k := 13) (len := x.toNatClampNeg) (by omega) hP hP1
    have h2 := h1.2 p e R s m args below meth c H1 locs (cells + 1) (slots + x.toNatClampNeg) ls C hP hS hl (by rw [n_alloc_n]; omega) (by rw [n_alloc_n]; omega) (by rw [n_alloc_sl]; omega)
    rw [n_alloc_n, n_alloc_sl, List.map_cons, n_ref (by omega)] at h2
    have e1 : cells + 1 + (n_n (fin r).2.1 - (n_n h.1 + 1)) = cells + (n_n (fin r).2.1 - n_n h.1) := by omega
    have e2 : slots + x.toNatClampNeg + (n_sl (fin r).2.1 - (n_sl h.1 + x.toNatClampNeg)) = slots + (n_sl (fin r).2.1 - n_sl h.1) := by omega
    rw [e1, e2] at h2
    exact h2
  · cases hr
theorem s_newO {l : Launch} {w : nW} {d : Nat} {μ : nY} {T : Type} {fin : T → nR} {pc : Nat} {idx : Nat} (w1 : Cond.classLink μ.1 idx RX4 ∈ lw_good) (hd : decode μ.2.2.1 pc = .ok (.anewarray idx, 3)) : n_Sd l w d μ fin pc (o_newa 15 4 (pc + 3)) := by
  intro go r lv st h hg hr
  unfold o_newa at hr
  split at hr
  · rename_i x rest
    obtain ⟨hb, hr⟩ := n_chk_some hr
    simp only [Bool.and_eq_true, Bool.not_eq_true', decide_eq_false_iff_not] at hb
    have h1 := hg _ _ _ _ hr
    have g1 := h1.1
    rw [n_alloc_n, n_alloc_sl] at g1
    refine ⟨by omega, fun p e R s m args below meth c H locs cells slots ls C hP hS hl hz hc hs => ?_⟩
    have ht := C.2.2.2.2.2.2.2.1
    have hkn : n_kd (n_alloc h 15 x.toNatClampNeg).1 (n_n h.1 + 1) = 15 := va_up_self _ _ _
    have hln : n_len (n_alloc h 15 x.toNatClampNeg).1 (n_n h.1 + 1) = x.toNatClampNeg := va_up_self _ _ _
    have hmn : n_mr (n_alloc h 15 x.toNatClampNeg).1 (n_n h.1 + 1) = fun _ => 0 := va_up_self _ _ _
    refine va_newq C.1 C.2.1 C.2.2.2.2.1 (ht _ w1) C.2.2.2.2.2.2.2.2.1.2.1 C.2.2.2.2.2.2.2.2.1.1 hP.2 (n_D w h) hS (fun q hq => Nat.lt_of_lt_of_le C.2.2.2.2.2.2.2.2.2.1 hq) (N' := x.toNatClampNeg) hb.1 rfl (Nat.le_of_ble_eq_true hb.2) (by omega) (by omega) hd (fun q cA H1 hK1 hP1 hD1 hS => ?_)
    refine n_W_sz fun hu => ?_
    have hq := n_addr hz hu hP1 hD1
    subst hq
    have hcA : cA = w.2.2.2.2.1 := by
      obtain ⟨_, _, _, _, _, a1⟩ := (hK1.2 3 (cA, .object RX4) rfl).2
      obtain ⟨_, _, _, _, _, a2⟩ := (C.2.2.2.2.2.2.2.2.1.1.2 2 (w.2.2.2.2.1, .object RX4) rfl).2
      exact Option.some.inj (a1.symm.trans a2)
    subst hcA
    have e9 : n_cell w (n_alloc h 15 x.toNatClampNeg) (n_n h.1 + 1) = .inl (w.2.2.2.2.1, x.toNatClampNeg, .inr (.inr (.inr (.inr (fun _ => none))))) := by
      rw [n_cell_O hkn, hln, hmn]
      rfl
    rw [← e9] at hP1
    have hP := n_alloc_P (k := 15) (len := x.toNatClampNeg) (by omega) hP hP1
    have h2 := h1.2 p e R s m args below meth c H1 locs (cells + 1) (slots + x.toNatClampNeg) ls C hP hS hl (by rw [n_alloc_n]; omega) (by rw [n_alloc_n]; omega) (by rw [n_alloc_sl]; omega)
    rw [n_alloc_n, n_alloc_sl, List.map_cons, n_ref (by omega)] at h2
    have e1 : cells + 1 + (n_n (fin r).2.1 - (n_n h.1 + 1)) = cells + (n_n (fin r).2.1 - n_n h.1) := by omega
    have e2 : slots + x.toNatClampNeg + (n_sl (fin r).2.1 - (n_sl h.1 + x.toNatClampNeg)) = slots + (n_sl (fin r).2.1 - n_sl h.1) := by omega
    rw [e1, e2] at h2
    exact h2
  · cases hr
def n_upR (h : nH) (a k v : Nat) : nH := ((n_n h.1, n_sl h.1, n_kd h.1, n_len h.1, va_up (n_mr h.1) a (va_up (n_mr h.1 a) k v)), h.2)
theorem n_upR_other {w : nW} {h : nH} {a k v b : Nat} (hb : b ≠ a) : n_cell w (n_upR h a k v) b = n_cell w h b := by
  have e3 : n_mr (n_upR h a k v).1 b = n_mr h.1 b := va_up_ne _ _ hb
  unfold n_cell n_fs
  simp only [e3]
  rfl
theorem n_fs_setR {b : Nat} {h : nH} {ci a k N v : Nat} (hN : n_N ci = N) (hk : k < N) (hR : n_isR (n_ty ci k) = true) : (n_fs b h ci a).set k (va_rf (n_rf b v)) = n_fs b (n_upR h a k v) ci a := by
  have e3 : n_mr (n_upR h a k v).1 a = va_up (n_mr h.1 a) k v := va_up_self _ _ _
  apply List.ext_getElem?
  intro j
  by_cases hj : j = k
  · subst hj
    rw [List.getElem?_set_self (by rw [n_fs_len hN]; exact hk), n_fs_get hN hk, hR, if_pos rfl, e3, va_up_self]
  · rw [List.getElem?_set_ne (fun e => hj e.symm)]
    by_cases hl : j < N
    · rw [n_fs_get hN hl, n_fs_get hN hl, e3, va_up_ne _ _ hj]
      rfl
    · rw [List.getElem?_eq_none (by rw [n_fs_len hN]; omega), List.getElem?_eq_none (by rw [n_fs_len hN]; omega)]
abbrev o_putR {T : Type} (ci k nx : Nat) : nD T := fun go lv st h => match st with
  | .ref v :: .ref a :: r => n_chk (Nat.beq (n_kd h.1 a) ci) (go nx lv r (n_upR h a k v))
  | _ => none
theorem n_fitR (t : FieldType) (ht : n_isR t = true) (b a : Nat) : narrow t (va_rf (n_rf b a)) = va_rf (n_rf b a) ∧ fits t (va_rf (n_rf b a)) = true := by
  unfold n_rf
  cases t <;> simp only [n_isR] at ht <;> first | (cases ht; done) | (by_cases h0 : a = 0 <;> simp [h0, va_rf, narrow, fits])
theorem s_putR {l : Launch} {w : nW} {d : Nat} {μ : nY} {T : Type} {fin : T → nR} {pc : Nat} {ci k idx N : Nat} {C0 : String} {TT : u_T} (ok : n_OK ci C0 TT N) (hk : k < N) (hR : n_isR (n_ty ci k) = true) (hfin : (TT k).2.2.2 = false) (hd : decode μ.2.2.1 pc = .ok (.putfield idx, 3)) (hw : Cond.fieldLink μ.1 idx (TT k).1 (TT k).2.1 (TT k).2.2.1 ∈ lw_good) : n_Sd l w d μ fin pc (o_putR ci k (pc + 3)) := by
  intro go r lv st h hg hr
  unfold o_putR at hr
  split at hr
  · rename_i v a rest
    obtain ⟨hb, hr⟩ := n_chk_some hr
    have hkd := n_beq hb
    have h1 := hg _ _ _ _ hr
    refine ⟨h1.1, fun p e R s m args below meth c H locs cells slots ls C hP hS hl hz hc hs => ?_⟩
    obtain ⟨a1, a2⟩ := hP.1 a (by have := ok.1; omega)
    have he := n_ws_get (w := w) (h := h) a1 a2
    rw [n_cell_obj (h := h) hkd ok.1] at he
    rw [List.map_cons, List.map_cons, n_ref a1]
    have hfit := n_fitR (n_ty ci k) hR w.1 v
    refine va_put C.1 C.2.1 C.2.2.2.2.2.2.2.1 ok.2.2.1 (n_ty ci) ok.2.2.2.1 ok.2.2.2.2 C.2.2.2.2.1 C.2.2.2.2.2.2.2.2.1.1 hP.2 (n_D w h) hS (a - 1) he ok.2.1 k hk (C.2.2.2.2.2.2.2.1 _ hw) (fun _ q => q) hfin (ty := n_ty ci k) (v := va_rf (n_rf w.1 v)) (ok.2.2.2.1 k hk) hfit.1 hfit.2 (by rw [n_fs_len ok.N]; exact hk) hd (fun H locs hP1 _ hS => ?_)
    rw [n_ws_set (h' := n_upR h a k v) a1 a2 rfl (by rw [n_cell_obj (h := n_upR h a k v) hkd ok.1, n_fs_setR ok.N hk hR]) (fun b hb => n_upR_other hb)] at hP1
    have hP : n_P w (n_upR h a k v) H := ⟨hP.1, hP1⟩
    exact h1.2 p e R s m args below meth c H locs cells slots ls C hP hS hl hz hc hs
  · cases hr
theorem s_putRF {l : Launch} {w : nW} {d : Nat} {μ : nY} {T : Type} {fin : T → nR} {pc : Nat} {ci k idx N : Nat} {C0 : String} {TT : u_T} (ok : n_OK ci C0 TT N) (hk : k < N) (hR : n_isR (n_ty ci k) = true) (hfin : (TT k).2.2.2 = true) (hin2 : μ.2.1.name = "<init>") (hdecl : (TT k).1 = μ.1) (hd : decode μ.2.2.1 pc = .ok (.putfield idx, 3)) (hw : Cond.fieldLink μ.1 idx (TT k).1 (TT k).2.1 (TT k).2.2.1 ∈ lw_good) : n_Sd l w d μ fin pc (o_putR ci k (pc + 3)) := by
  intro go r lv st h hg hr
  unfold o_putR at hr
  split at hr
  · rename_i v a rest
    obtain ⟨hb, hr⟩ := n_chk_some hr
    have hkd := n_beq hb
    have h1 := hg _ _ _ _ hr
    refine ⟨h1.1, fun p e R s m args below meth c H locs cells slots ls C hP hS hl hz hc hs => ?_⟩
    obtain ⟨a1, a2⟩ := hP.1 a (by have := ok.1; omega)
    have he := n_ws_get (w := w) (h := h) a1 a2
    rw [n_cell_obj (h := h) hkd ok.1] at he
    rw [List.map_cons, List.map_cons, n_ref a1]
    have hfit := n_fitR (n_ty ci k) hR w.1 v
    refine va_putF C.1 C.2.1 C.2.2.2.2.2.2.2.1 ok.2.2.1 (n_ty ci) ok.2.2.2.1 ok.2.2.2.2 C.2.2.2.2.1 C.2.2.2.2.2.2.2.2.1.1 hP.2 (n_D w h) hS (a - 1) he ok.2.1 k hk (C.2.2.2.2.2.2.2.1 _ hw) (fun _ q => q) hfin (by rw [C.2.2.2.2.2.2.1]; exact hin2) hdecl (ty := n_ty ci k) (v := va_rf (n_rf w.1 v)) (ok.2.2.2.1 k hk) hfit.1 hfit.2 (by rw [n_fs_len ok.N]; exact hk) hd (fun H locs hP1 _ hS => ?_)
    rw [n_ws_set (h' := n_upR h a k v) a1 a2 rfl (by rw [n_cell_obj (h := n_upR h a k v) hkd ok.1, n_fs_setR ok.N hk hR]) (fun b hb => n_upR_other hb)] at hP1
    have hP : n_P w (n_upR h a k v) H := ⟨hP.1, hP1⟩
    exact h1.2 p e R s m args below meth c H locs cells slots ls C hP hS hl hz hc hs
  · cases hr
abbrev o_aast {T : Type} (nx : Nat) : nD T := fun go lv st h => match st with
  | .ref v :: .int i :: .ref a :: r => n_chk (n_in h.1 15 a i && Nat.beq (n_kd h.1 v) 4) (go nx lv r (n_upR h a i.toNatClampNeg v))
  | _ => none
theorem s_aastore {l : Launch} {w : nW} {d : Nat} {μ : nY} {T : Type} {fin : T → nR} {pc : Nat} (hd : decode μ.2.2.1 pc = .ok (.aastore, 1)) (ok : n_OK 4 RX4 TX4 12) : n_Sd l w d μ fin pc (o_aast (pc + 1)) := by
  intro go r lv st h hg hr
  unfold o_aast at hr
  split at hr
  · rename_i v i a rest
    obtain ⟨hb, hr⟩ := n_chk_some hr
    simp only [Bool.and_eq_true] at hb
    obtain ⟨hkd, hin⟩ := n_in_spec hb.1
    have hkv := n_beq hb.2
    have h1 := hg _ _ _ _ hr
    refine ⟨h1.1, fun p e R s m args below meth c H locs cells slots ls C hP hS hl hz hc hs => ?_⟩
    obtain ⟨a1, a2⟩ := hP.1 a (by omega)
    obtain ⟨v1, v2⟩ := hP.1 v (by omega)
    have he := n_ws_get (w := w) (h := h) a1 a2
    have hv := n_ws_get (w := w) (h := h) v1 v2
    rw [n_cell_O (h := h) hkd] at he
    rw [n_cell_obj (h := h) hkv (by omega)] at hv
    rw [List.map_cons, List.map_cons, List.map_cons, n_ref a1, n_ref v1]
    refine va_astq C.1 C.2.1 C.2.2.2.2.2.2.2.2.1.1 hP.2 (n_D w h) hS (a - 1) 2 (v - 1) 4 he rfl hv ok.2.1 hin hd (fun H locs hP1 _ hS => ?_)
    have e3 : n_mr (n_upR h a i.toNatClampNeg v).1 a = va_up (n_mr h.1 a) i.toNatClampNeg v := va_up_self _ _ _
    rw [n_ws_set (h' := n_upR h a i.toNatClampNeg v) a1 a2 rfl (by
      rw [n_cell_O (h := n_upR h a i.toNatClampNeg v) hkd, e3]
      have e4 : (fun j => n_rf w.1 (va_up (n_mr h.1 a) i.toNatClampNeg v j)) = va_up (fun j => n_rf w.1 (n_mr h.1 a j)) i.toNatClampNeg (some (w.1 + v)) := by
        funext j
        by_cases hj : j = i.toNatClampNeg
        · subst hj
          rw [va_up_self, va_up_self]
          have : ¬ v = 0 := fun z => by rw [z] at v1; exact absurd v1 (by decide)
          simp [n_rf, this]
        · rw [va_up_ne _ _ hj, va_up_ne _ _ hj]
      rw [e4]
      rfl) (fun b hb => n_upR_other hb)] at hP1
    have hP : n_P w (n_upR h a i.toNatClampNeg v) H := ⟨hP.1, hP1⟩
    exact h1.2 p e R s m args below meth c H locs cells slots ls C hP hS hl hz hc hs
  · cases hr
/-! ===== calls of what makes cells ===== -/
abbrev nFd : Type 1 := ∀ (T : Type), List Value → nH → (Option Value → nH → Option T) → Option T
def n_CSd (l : Launch) (w : nW) (d : Nat) (μ : nY) (f : nFd) : Prop := ∀ (T : Type) (as : List Value) (h : nH) (k : Option Value → nH → Option T) (r : T), f T as h k = some r → ∃ (v : Option Value) (h' : nH), n_Met l w d μ as h (v, h') ∧ k v h' = some r
abbrev n_nn (as : List Value) : Bool := match as with
  | .ref a :: _ => Nat.blt 0 a
  | _ => false
abbrev o_callI {T : Type} (n : Nat) (f : nFd) (nx : Nat) : nD T := fun go lv st h => match n_pop (n + 1) st [] with
  | some (as, r) => n_chk (n_nn as) (n_ck (Nat.ble (n_cs r) 8) (f T as h (fun v h' => go nx lv (n_psh v r) h')))
  | none => none
theorem s_callI {l : Launch} {w : nW} {d : Nat} {μ : nY} {T : Type} {fin : T → nR} {pc : Nat} {n idx d' : Nat} {μ' : nY} {f : nFd} (hf : n_CSd l w d' μ' f) (hdd : d' + 1 ≤ d) (hm : n_MOK μ' n) (hret : μ'.2.2.2.2 = none) (hname : μ'.2.1.name = "<init>") (hst : Cond.instanceMethod μ'.2.1 ∈ lw_good) (hlk : Cond.methodLink μ.1 idx μ'.2.1 ∈ lw_good) (hd : decode μ.2.2.1 pc = .ok (.invokespecial idx, 3)) : n_Sd l w d μ fin pc (o_callI n f (pc + 3)) := by
  intro go r lv st h hg hr
  unfold o_callI at hr
  split at hr
  · rename_i qas qr hq
    generalize hqe : (qas, qr) = q at hq
    have hq1 : qas = q.1 := by rw [← hqe]
    have hq2 : qr = q.2 := by rw [← hqe]
    rw [hq1, hq2] at hr
    obtain ⟨hrc, hr⟩ := n_chk_some hr
    obtain ⟨hb, hr⟩ := n_ck_some hr
    obtain ⟨v, h2, hmet, hk⟩ := hf _ _ _ _ _ hr
    have h1 := hg _ _ _ _ hk
    have g1 := h1.1
    have g2 := hmet.1
    simp only at g2
    refine ⟨by omega, fun p e R s m args below meth c H locs cells slots ls C hP hS hl hz hc hs => ?_⟩
    obtain ⟨xs, e1, e2, e3⟩ := n_pop_spec hq
    rw [List.append_nil] at e2
    refine n_W_sz fun hu => ?_
    have hsz := n_size C.2.2.2.2.2.2.2.2.2.1 hP hS hz hu
    have ht := C.2.2.2.2.2.2.2.1
    have hfr := C.2.2.2.2.2.2.2.2.2.2.1
    have hlo := C.2.2.2.2.2.2.2.2.2.2.2
    have hml := hm.2.2.2
    have hB : CallB R s args μ.1 idx μ'.2.1 μ'.2.2.1 μ'.2.2.2.1 none (n_wsm μ') (n_rm d' (n_n h2.1 - n_n h.1) (n_sl h2.1 - n_sl h.1)) (n_n h2.1 - n_n h.1) (n_sl h2.1 - n_sl h.1) n :=
      callB_of n ht (n_goodm hm.1) (by unfold n_wsm; rw [hret]) rfl rfl (ht _ hm.2.1) (ht _ hlk) hm.2.2.1 ⟨by show d' + 1 + 1 ≤ R.frames; omega, by show 8 + (μ'.2.2.2.1 + 11) + 60 * (d' + 1) ≤ R.locals; omega⟩
    obtain ⟨a, As, hqa, a1⟩ : ∃ (a : Nat) (As : List Value), q.1 = .ref a :: As ∧ 1 ≤ a := by
      unfold n_nn at hrc
      split at hrc
      · rename_i a As hqa
        exact ⟨a, As, hqa, Nat.le_of_ble_eq_true hrc⟩
      · cases hrc
    have hxs : xs = As.reverse ++ [.ref a] := by
      have := congrArg List.reverse (e2.symm.trans hqa)
      simpa using this
    have hlen : As.length = n := by
      have := e3
      rw [hxs] at this
      simpa using this
    have hmet2 := hmet.2
    rw [hqa, List.map_cons, n_ref a1] at hmet2
    have hrun := va_runI (cells := cells) (slots := slots) (locs := locs) (p := p) (l := l) (e := e) (below := below) (meth := meth) (b := w.1 + a) (As := As.map (n_tr w)) (rest := q.2.map (n_tr w)) (g := F0 m pc ls (st.map (n_tr w))) (H := H) ⟨C.1, C.2.1, C.2.2.2.1, C.2.2.2.2.1, ht⟩ hmet2 ⟨hB, hname, ht _ hst⟩
      ⟨n_blind, fun U hU hW => ⟨rfl, by rw [hU]; exact hP, n_K.warm hW (by rw [hU]; exact hS.2.1) C.2.2.2.2.2.2.2.2.1, by rw [hU]; exact hsz⟩⟩ rfl (by simp [hlen]) hl.1 (by show st.map (n_tr w) = _; rw [e1, hxs]; simp [n_ref a1]) (lv_room (by rw [n_cs_tr]; exact Nat.le_of_ble_eq_true hb)) hd ⟨by simp only; omega, by simp only; omega⟩
    refine n_after hrun hS (fun H locs hP hS => ?_)
    rw [n_psh_tr]
    have h3 := h1.2 p e R s m args below meth c H locs (cells + (n_n h2.1 - n_n h.1)) (slots + (n_sl h2.1 - n_sl h.1)) ls C hP hS hl (by omega) (by omega) (by omega)
    have e8 : cells + (n_n h2.1 - n_n h.1) + (n_n (fin r).2.1 - n_n h2.1) = cells + (n_n (fin r).2.1 - n_n h.1) := by omega
    have e9 : slots + (n_sl h2.1 - n_sl h.1) + (n_sl (fin r).2.1 - n_sl h2.1) = slots + (n_sl (fin r).2.1 - n_sl h.1) := by omega
    rw [e8, e9] at h3
    exact h3
  · cases hr
theorem s_callIN {l : Launch} {w : nW} {d : Nat} {μ : nY} {T : Type} {fin : T → nR} {pc : Nat} {n idx d' : Nat} {μ' : nY} {f : nFd} {host : String} (hf : n_CSd l w d' μ' f) (hdd : d' + 1 ≤ d) (hm : n_MOK μ' n) (hret : μ'.2.2.2.2 = none) (hname : μ'.2.1.name = "<init>") (hst : Cond.instanceMethod μ'.2.1 ∈ lw_good) (hlk : Cond.methodLinkNest μ.1 idx μ'.2.1 host ∈ n_nest) (hd : decode μ.2.2.1 pc = .ok (.invokespecial idx, 3)) : n_Sd l w d μ fin pc (o_callI n f (pc + 3)) := by
  intro go r lv st h hg hr
  unfold o_callI at hr
  split at hr
  · rename_i qas qr hq
    generalize hqe : (qas, qr) = q at hq
    have hq1 : qas = q.1 := by rw [← hqe]
    have hq2 : qr = q.2 := by rw [← hqe]
    rw [hq1, hq2] at hr
    obtain ⟨hrc, hr⟩ := n_chk_some hr
    obtain ⟨hb, hr⟩ := n_ck_some hr
    obtain ⟨v, h2, hmet, hk⟩ := hf _ _ _ _ _ hr
    have h1 := hg _ _ _ _ hk
    have g1 := h1.1
    have g2 := hmet.1
    simp only at g2
    refine ⟨by omega, fun p e R s m args below meth c H locs cells slots ls C hP hS hl hz hc hs => ?_⟩
    obtain ⟨xs, e1, e2, e3⟩ := n_pop_spec hq
    rw [List.append_nil] at e2
    refine n_W_sz fun hu => ?_
    have hsz := n_size C.2.2.2.2.2.2.2.2.2.1 hP hS hz hu
    have ht := C.2.2.2.2.2.2.2.1
    have hfr := C.2.2.2.2.2.2.2.2.2.2.1
    have hlo := C.2.2.2.2.2.2.2.2.2.2.2
    have hml := hm.2.2.2
    have hB : va_CN R s args μ.1 idx μ'.2.1 host μ'.2.2.1 μ'.2.2.2.1 none (n_wsm μ') (n_rm d' (n_n h2.1 - n_n h.1) (n_sl h2.1 - n_sl h.1)) (n_n h2.1 - n_n h.1) (n_sl h2.1 - n_sl h.1) n :=
      va_cnB n ht (n_goodm hm.1) (by unfold n_wsm; rw [hret]) rfl rfl (C.2.2.2.2.2.2.2.2.1.2.2.1 _ hlk) (ht _ hm.2.1) hm.2.2.1 ⟨by show d' + 1 + 1 ≤ R.frames; omega, by show 8 + (μ'.2.2.2.1 + 11) + 60 * (d' + 1) ≤ R.locals; omega⟩
    obtain ⟨a, As, hqa, a1⟩ : ∃ (a : Nat) (As : List Value), q.1 = .ref a :: As ∧ 1 ≤ a := by
      unfold n_nn at hrc
      split at hrc
      · rename_i a As hqa
        exact ⟨a, As, hqa, Nat.le_of_ble_eq_true hrc⟩
      · cases hrc
    have hxs : xs = As.reverse ++ [.ref a] := by
      have := congrArg List.reverse (e2.symm.trans hqa)
      simpa using this
    have hlen : As.length = n := by
      have := e3
      rw [hxs] at this
      simpa using this
    have hmet2 := hmet.2
    rw [hqa, List.map_cons, n_ref a1] at hmet2
    have hrun := va_runIN (cells := cells) (slots := slots) (locs := locs) (p := p) (l := l) (e := e) (below := below) (meth := meth) (b := w.1 + a) (As := As.map (n_tr w)) (rest := q.2.map (n_tr w)) (g := F0 m pc ls (st.map (n_tr w))) (H := H) ⟨C.1, C.2.1, C.2.2.2.1, C.2.2.2.2.1, ht⟩ hmet2 ⟨hB, hname, ht _ hst⟩
      ⟨n_blind, fun U hU hW => ⟨rfl, by rw [hU]; exact hP, n_K.warm hW (by rw [hU]; exact hS.2.1) C.2.2.2.2.2.2.2.2.1, by rw [hU]; exact hsz⟩⟩ rfl (by simp [hlen]) hl.1 (by show st.map (n_tr w) = _; rw [e1, hxs]; simp [n_ref a1]) (lv_room (by rw [n_cs_tr]; exact Nat.le_of_ble_eq_true hb)) hd ⟨by simp only; omega, by simp only; omega⟩
    refine n_after hrun hS (fun H locs hP hS => ?_)
    rw [n_psh_tr]
    have h3 := h1.2 p e R s m args below meth c H locs (cells + (n_n h2.1 - n_n h.1)) (slots + (n_sl h2.1 - n_sl h.1)) ls C hP hS hl (by omega) (by omega) (by omega)
    have e8 : cells + (n_n h2.1 - n_n h.1) + (n_n (fin r).2.1 - n_n h2.1) = cells + (n_n (fin r).2.1 - n_n h.1) := by omega
    have e9 : slots + (n_sl h2.1 - n_sl h.1) + (n_sl (fin r).2.1 - n_sl h2.1) = slots + (n_sl (fin r).2.1 - n_sl h.1) := by omega
    rw [e8, e9] at h3
    exact h3
  · cases hr
abbrev o_vretd : nD (Unit × nH) := fun _ _ st h => match st with
  | [] => some ((), h)
  | _ => none
abbrev o_zretd : nD (Int32 × nH) := fun _ _ st h => match st with
  | [.int v] => n_chk (v == 0 || v == 1) (some (v, h))
  | _ => none
theorem s_vretd {l : Launch} {w : nW} {d : Nat} {μ : nY} {pc : Nat} (hr : μ.2.2.2.2 = none) (hd : decode μ.2.2.1 pc = .ok (.return_, 1)) : n_Sd l w d μ (fun r => (dv_v r.1, r.2)) pc o_vretd := by
  intro go r lv st h hg h9
  unfold o_vretd at h9
  split at h9
  · cases h9
    refine ⟨⟨Nat.le_refl _, Nat.le_refl _⟩, fun p e R s m args below meth c H locs cells slots ls C hP hS hl hz hc hs => ?_⟩
    simp only [Nat.sub_self, Nat.add_zero]
    exact W.vret C.1 C.2.1 (by rw [C.2.2.1]; exact hr) (fun t ht hW => ⟨⟨rfl, by rw [ht]; exact hP, n_K.warm hW (by rw [ht]; exact hS.2.1) C.2.2.2.2.2.2.2.2.1⟩, hS.F ht⟩) hS.2.2 hd C.2.2.2.2.2.1
  · cases h9
theorem s_zretd {l : Launch} {w : nW} {d : Nat} {μ : nY} {pc : Nat} (hr : μ.2.2.2.2 = some .boolean) (hd : decode μ.2.2.1 pc = .ok (.ireturn, 1)) : n_Sd l w d μ (fun r => (dv_i r.1, r.2)) pc o_zretd := by
  intro go r lv st h hg h9
  unfold o_zretd at h9
  split at h9
  · rename_i v
    obtain ⟨hb, h9⟩ := n_chk_some h9
    simp only [Bool.or_eq_true, beq_iff_eq] at hb
    cases h9
    refine ⟨⟨Nat.le_refl _, Nat.le_refl _⟩, fun p e R s m args below meth c H locs cells slots ls C hP hS hl hz hc hs => ?_⟩
    simp only [Nat.sub_self, Nat.add_zero]
    exact W.zret C.1 C.2.1 (by rw [C.2.2.1]; exact hr) (by rcases hb with rfl | rfl <;> rfl) (fun t ht hW => ⟨⟨rfl, by rw [ht]; exact hP, n_K.warm hW (by rw [ht]; exact hS.2.1) C.2.2.2.2.2.2.2.2.1⟩, hS.F ht⟩) hS.2.2 hd C.2.2.2.2.2.1
  · cases h9
abbrev nKd (T : Type) : Type := List (Nat × (nL → List Value → nH → Option T))
abbrev n_rund {T : Type} (code : List (Nat × nD T)) (K : nKd T) : Nat → List (Nat × nD T) → Nat → nL → List Value → nH → Option T
  | 0, _, _, _, _, _ => none
  | n + 1, cs, pc, lv, st, h => match cs with
    | [] => none
    | (p, o) :: cs' => n_ck (Nat.beq p pc) (o (fun pc' lv' st' h' => match n_klk K pc' with
      | some k => k lv' st' h'
      | none => n_rund code K n (n_nxt code cs' pc') pc' lv' st' h') lv st h)
theorem n_rund_ok {l : Launch} {w : nW} {d : Nat} {μ : nY} {T : Type} {fin : T → nR} {code : List (Nat × nD T)} {K : nKd T} (hcode : ∀ q ∈ code, n_Sd l w d μ fin q.1 q.2)
    (hK : ∀ q ∈ K, ∀ (lv : nL) (st : List Value) (h : nH) (r : T), q.2 lv st h = some r → n_At l w d μ q.1 lv st h (fin r)) :
    ∀ (n : Nat) (cs : List (Nat × nD T)) (pc : Nat) (lv : nL) (st : List Value) (h : nH) (r : T), (∀ q ∈ cs, q ∈ code) → n_rund code K n cs pc lv st h = some r → n_At l w d μ pc lv st h (fin r) := by
  intro n
  induction n with
  | zero => intro cs pc lv st M r _ h; cases h
  | succ n ih =>
    intro cs pc lv st M r hcs h
    unfold n_rund at h
    cases cs with
    | nil => cases h
    | cons q cs' =>
      obtain ⟨p, o⟩ := q
      simp only at h
      obtain ⟨hb, h3⟩ := n_ck_some h
      have hpc := n_beq hb
      rw [← hpc]
      refine hcode (p, o) (hcs (p, o) List.mem_cons_self) _ r lv st M ?_ h3
      intro pc' lv' st' M' h'
      split at h'
      · rename_i k hk
        exact hK _ (n_klk_mem hk) lv' st' M' r h'
      · exact ih _ _ _ _ _ _ (fun x hx => n_nxt_mem (fun y hy => hcs y (List.mem_cons_of_mem _ hy)) hx) h'
def n_AllD (l : Launch) (w : nW) (d : Nat) (μ : nY) {T : Type} (fin : T → nR) : List (Nat × nD T) → Prop
  | [] => True
  | q :: t => n_Sd l w d μ fin q.1 q.2 ∧ n_AllD l w d μ fin t
theorem n_AllD.all {l : Launch} {w : nW} {d : Nat} {μ : nY} {T : Type} {fin : T → nR} : ∀ {c : List (Nat × nD T)}, n_AllD l w d μ fin c → ∀ q ∈ c, n_Sd l w d μ fin q.1 q.2
  | [], _, q, hq => by cases hq
  | x :: t, h, q, hq => by
    rcases List.mem_cons.mp hq with e | e
    · rw [e]; exact h.1
    · exact n_AllD.all h.2 q e
theorem n_AllD.app {l : Launch} {w : nW} {d : Nat} {μ : nY} {T : Type} {fin : T → nR} : ∀ {c e : List (Nat × nD T)}, n_AllD l w d μ fin c → n_AllD l w d μ fin e → n_AllD l w d μ fin (c ++ e)
  | [], _, _, h => h
  | _ :: _, _, h1, h2 => ⟨h1.1, n_AllD.app h1.2 h2⟩
def n_KOD (l : Launch) (w : nW) (d : Nat) (μ : nY) {T : Type} (fin : T → nR) : nKd T → Prop
  | [] => True
  | q :: t => (∀ (lv : nL) (st : List Value) (h : nH) (r : T), q.2 lv st h = some r → n_At l w d μ q.1 lv st h (fin r)) ∧ n_KOD l w d μ fin t
theorem n_KOD.all {l : Launch} {w : nW} {d : Nat} {μ : nY} {T : Type} {fin : T → nR} : ∀ {K : nKd T}, n_KOD l w d μ fin K → ∀ q ∈ K, ∀ (lv : nL) (st : List Value) (h : nH) (r : T), q.2 lv st h = some r → n_At l w d μ q.1 lv st h (fin r)
  | [], _, q, hq => by cases hq
  | x :: t, h, q, hq => by
    rcases List.mem_cons.mp hq with e | e
    · rw [e]; exact h.1
    · exact n_KOD.all h.2 q e
theorem n_cd {l : Launch} {w : nW} {d : Nat} {μ : nY} {T : Type} {fin : T → nR} {q : Nat × nD T} {t : List (Nat × nD T)} (h : n_Sd l w d μ fin q.1 q.2) (ht : n_AllD l w d μ fin t) : n_AllD l w d μ fin (q :: t) := ⟨h, ht⟩
theorem n_ed {l : Launch} {w : nW} {d : Nat} {μ : nY} {T : Type} {fin : T → nR} : n_AllD l w d μ fin [] := trivial
theorem n_kcd {l : Launch} {w : nW} {d : Nat} {μ : nY} {T : Type} {fin : T → nR} {q : Nat × (nL → List Value → nH → Option T)} {t : nKd T} (h : ∀ (lv : nL) (st : List Value) (h : nH) (r : T), q.2 lv st h = some r → n_At l w d μ q.1 lv st h (fin r)) (ht : n_KOD l w d μ fin t) : n_KOD l w d μ fin (q :: t) := ⟨h, ht⟩
theorem n_ked {l : Launch} {w : nW} {d : Nat} {μ : nY} {T : Type} {fin : T → nR} : n_KOD l w d μ fin ([] : nKd T) := trivial
theorem n_segd {l : Launch} {w : nW} {d : Nat} {μ : nY} {T : Type} {fin : T → nR} {code : List (Nat × nD T)} {K : nKd T} {pc : Nat} {lv : nL} {st : List Value} {h : nH} {r : T} {F : Option T} (n : Nat) (hc : n_AllD l w d μ fin code) (hK : n_KOD l w d μ fin K) (he : n_rund code K n (n_find code pc) pc lv st h = F) (hF : F = some r) : n_At l w d μ pc lv st h (fin r) :=
  n_rund_ok hc.all hK.all n _ _ _ _ _ _ (fun _ hq => n_find_mem hq) (he.trans hF)
