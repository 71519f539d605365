/-! ===== fields and arrays ===== -/
def n_OK (ci : Nat) (C : String) (TT : u_T) (N : Nat) : Prop := ci ≤ 12 ∧ vwCl[ci]? = some (C, TT, N) ∧ (∀ x ∈ u_ws C TT N, x ∈ lw_good) ∧ (∀ k, k < N → parseFieldDescriptor (TT k).2.2.1 = some (n_ty ci k)) ∧ (∀ a, a < N → ∀ b, b < N → a ≠ b → (TT a).2.1 ≠ (TT b).2.1)
theorem n_OK.N {ci N : Nat} {C : String} {TT : u_T} (h : n_OK ci C TT N) : n_N ci = N := by
  unfold n_N n_C
  rw [List.getD_eq_getElem?_getD, h.2.1]
  rfl
theorem n_ref {w : nW} {a : Nat} (h : 1 ≤ a) : n_tr w (.ref a) = .ref (w.1 + a) := by
  have : ¬ a = 0 := by omega
  simp [n_tr, n_rf, this, va_rf]
theorem n_cell_obj {w : nW} {h : nH} {a ci : Nat} (hk : n_kd h.1 a = ci) (hc : ci ≤ 12) : n_cell w h a = .inr (ci, n_fs w.1 h ci a) := by
  unfold n_cell
  rw [hk, if_neg (by omega), if_neg (by omega), if_neg (by omega)]
theorem n_cell_I {w : nW} {h : nH} {a : Nat} (hk : n_kd h.1 a = 14) : n_cell w h a = .inl (w.2.2.2.1, n_len h.1 a, .inl (h.2 a)) := by
  unfold n_cell
  rw [hk, if_neg (by omega), if_pos rfl]
theorem n_cell_B {w : nW} {h : nH} {a : Nat} (hk : n_kd h.1 a = 13) : n_cell w h a = .inl (w.2.2.1, n_len h.1 a, .inl (h.2 a)) := by
  unfold n_cell
  rw [hk, if_pos rfl]
theorem n_cell_O {w : nW} {h : nH} {a : Nat} (hk : n_kd h.1 a = 15) : n_cell w h a = .inl (w.2.2.2.2.1, n_len h.1 a, .inr (.inr (.inr (.inr (fun i => n_rf w.1 (n_mr h.1 a i)))))) := by
  unfold n_cell
  rw [hk, if_neg (by omega), if_neg (by omega), if_pos rfl]
theorem n_fs_get {b : Nat} {h : nH} {ci a k N : Nat} (hN : n_N ci = N) (hk : k < N) : (n_fs b h ci a)[k]? = some (if n_isR (n_ty ci k) = true then va_rf (n_rf b (n_mr h.1 a k)) else .int (h.2 a k)) := by
  unfold n_fs
  rw [hN, List.getElem?_map, List.getElem?_range hk]
  rfl
theorem n_fs_len {b : Nat} {h : nH} {ci a N : Nat} (hN : n_N ci = N) : (n_fs b h ci a).length = N := by simp [n_fs, hN]
theorem n_up_ne {M : nM} {a k b : Nat} {v : Int32} (h : b ≠ a) : n_up M a k v b = M b := by simp [n_up, h]
theorem n_up_eq {M : nM} {a k : Nat} {v : Int32} : n_up M a k v a = upd (M a) k v := by simp [n_up]
theorem n_cell_other {w : nW} {G : nG} {M M' : nM} {b : Nat} (h : M' b = M b) : n_cell w (G, M') b = n_cell w (G, M) b := by
  unfold n_cell n_fs
  simp only [h]
theorem n_fs_set {b : Nat} {G : nG} {M : nM} {ci a k N : Nat} {v : Int32} (hN : n_N ci = N) (hk : k < N) (hR : n_isR (n_ty ci k) = false) : (n_fs b (G, M) ci a).set k (.int v) = n_fs b (G, n_up M a k v) ci a := by
  apply List.ext_getElem?
  intro j
  by_cases hj : j = k
  · subst hj
    rw [List.getElem?_set_self (by rw [n_fs_len hN]; exact hk), n_fs_get hN hk, hR, if_neg (by decide)]
    simp [n_up, upd]
  · rw [List.getElem?_set_ne (fun e => hj e.symm)]
    by_cases hl : j < N
    · rw [n_fs_get hN hl, n_fs_get hN hl]
      simp [n_up, upd, hj]
    · rw [List.getElem?_eq_none (by rw [n_fs_len hN]; omega), List.getElem?_eq_none (by rw [n_fs_len hN]; omega)]
theorem n_beq {a b : Nat} (h : Nat.beq a b = true) : a = b := Nat.eq_of_beq_eq_true h
theorem s_getI {l : Launch} {w : nW} {d : Nat} {μ : nY} {G : nG} {T : Type} {fin : T → nR} {pc : Nat} {ci k idx N : Nat} {C : String} {TT : u_T} (ok : n_OK ci C TT N) (hk : k < N) (hR : n_isR (n_ty ci k) = false) (hd : decode μ.2.2.1 pc = .ok (.getfield idx, 3)) (hw : Cond.fieldLink μ.1 idx (TT k).1 (TT k).2.1 (TT k).2.2.1 ∈ lw_good) : n_S l w d μ G fin pc (o_getI G ci k (pc + 3)) := by
  intro go r lv st M hg h
  unfold o_getI at h
  split at h
  · rename_i a rest
    obtain ⟨hb, h⟩ := n_chk_some h
    have hkd := n_beq hb
    have h1 := hg _ _ _ _ h
    refine ⟨h1.1, fun p e R s m args below meth c H locs cells slots ls C hP hS hl hz hc hs => ?_⟩
    obtain ⟨a1, a2⟩ := hP.1 a (by show n_kd G a ≤ 15; have := ok.1; omega)
    have he := n_ws_get (w := w) (h := (G, M)) a1 a2
    rw [n_cell_obj (h := (G, M)) hkd ok.1] at he
    rw [List.map_cons, n_ref a1]
    refine va_get C.1 C.2.1 C.2.2.2.2.2.2.2.1 ok.2.2.1 C.2.2.2.2.1 C.2.2.2.2.2.2.2.2.1.1 hP.2 (a - 1) he ok.2.1 k hk (C.2.2.2.2.2.2.2.1 _ hw) (fun _ q => q) (n_fs_get ok.N hk) hd ?_
    rw [hR, if_neg (by decide)]
    exact h1.2 p e R s m args below meth c H locs cells slots ls C hP hS hl hz hc hs
  · cases h
theorem s_getR {l : Launch} {w : nW} {d : Nat} {μ : nY} {G : nG} {T : Type} {fin : T → nR} {pc : Nat} {ci k idx N : Nat} {C : String} {TT : u_T} (ok : n_OK ci C TT N) (hk : k < N) (hR : n_isR (n_ty ci k) = true) (hd : decode μ.2.2.1 pc = .ok (.getfield idx, 3)) (hw : Cond.fieldLink μ.1 idx (TT k).1 (TT k).2.1 (TT k).2.2.1 ∈ lw_good) : n_S l w d μ G fin pc (o_getR G ci k (pc + 3)) := by
  intro go r lv st M hg h
  unfold o_getR at h
  split at h
  · rename_i a rest
    obtain ⟨hb, h⟩ := n_chk_some h
    have hkd := n_beq hb
    have h1 := hg _ _ _ _ h
    refine ⟨h1.1, fun p e R s m args below meth c H locs cells slots ls C hP hS hl hz hc hs => ?_⟩
    obtain ⟨a1, a2⟩ := hP.1 a (by show n_kd G a ≤ 15; have := ok.1; omega)
    have he := n_ws_get (w := w) (h := (G, M)) a1 a2
    rw [n_cell_obj (h := (G, M)) hkd ok.1] at he
    rw [List.map_cons, n_ref a1]
    refine va_get C.1 C.2.1 C.2.2.2.2.2.2.2.1 ok.2.2.1 C.2.2.2.2.1 C.2.2.2.2.2.2.2.2.1.1 hP.2 (a - 1) he ok.2.1 k hk (C.2.2.2.2.2.2.2.1 _ hw) (fun _ q => q) (n_fs_get ok.N hk) hd ?_
    rw [hR, if_pos rfl]
    exact h1.2 p e R s m args below meth c H locs cells slots ls C hP hS hl hz hc hs
  · cases h
theorem s_putI {l : Launch} {w : nW} {d : Nat} {μ : nY} {G : nG} {T : Type} {fin : T → nR} {pc : Nat} {ci k idx N : Nat} {C : String} {TT : u_T} (ok : n_OK ci C TT N) (hk : k < N) (hty : n_ty ci k = .int) (hfin : (TT k).2.2.2 = false) (hd : decode μ.2.2.1 pc = .ok (.putfield idx, 3)) (hw : Cond.fieldLink μ.1 idx (TT k).1 (TT k).2.1 (TT k).2.2.1 ∈ lw_good) : n_S l w d μ G fin pc (o_putI G ci k (pc + 3)) := by
  intro go r lv st M hg h
  unfold o_putI at h
  split at h
  · rename_i v a rest
    obtain ⟨hb, h⟩ := n_chk_some h
    have hkd := n_beq hb
    have h1 := hg _ _ _ _ h
    refine ⟨h1.1, fun p e R s m args below meth c H locs cells slots ls C hP hS hl hz hc hs => ?_⟩
    obtain ⟨a1, a2⟩ := hP.1 a (by show n_kd G a ≤ 15; have := ok.1; omega)
    have he := n_ws_get (w := w) (h := (G, M)) a1 a2
    rw [n_cell_obj (h := (G, M)) hkd ok.1] at he
    have hR : n_isR (n_ty ci k) = false := by rw [hty]; rfl
    rw [List.map_cons, List.map_cons, n_ref a1]
    refine va_put C.1 C.2.1 C.2.2.2.2.2.2.2.1 ok.2.2.1 (n_ty ci) ok.2.2.2.1 ok.2.2.2.2 C.2.2.2.2.1 C.2.2.2.2.2.2.2.2.1.1 hP.2 (n_D w (G, M)) hS (a - 1) he ok.2.1 k hk (C.2.2.2.2.2.2.2.1 _ hw) (fun _ q => q) hfin (ty := .int) (v := .int v) (by rw [ok.2.2.2.1 k hk, hty]) rfl rfl (by rw [n_fs_len ok.N]; exact hk) hd (fun H locs hP1 _ hS => ?_)
    rw [n_ws_set (h' := (G, n_up M a k v)) a1 a2 rfl (by rw [n_cell_obj (h := (G, n_up M a k v)) hkd ok.1, n_fs_set ok.N hk hR]) (fun b hb => n_cell_other (n_up_ne hb))] at hP1
    have hP : n_P w (G, n_up M a k v) H := ⟨hP.1, hP1⟩
    exact h1.2 p e R s m args below meth c H locs cells slots ls C hP hS hl hz hc hs
  · cases h
theorem s_putIF {l : Launch} {w : nW} {d : Nat} {μ : nY} {G : nG} {T : Type} {fin : T → nR} {pc : Nat} {ci k idx N : Nat} {C : String} {TT : u_T} (ok : n_OK ci C TT N) (hk : k < N) (hty : n_ty ci k = .int) (hfin : (TT k).2.2.2 = true) (hin2 : μ.2.1.name = "<init>") (hdecl : (TT k).1 = μ.1) (hd : decode μ.2.2.1 pc = .ok (.putfield idx, 3)) (hw : Cond.fieldLink μ.1 idx (TT k).1 (TT k).2.1 (TT k).2.2.1 ∈ lw_good) : n_S l w d μ G fin pc (o_putI G ci k (pc + 3)) := by
  intro go r lv st M hg h
  unfold o_putI at h
  split at h
  · rename_i v a rest
    obtain ⟨hb, h⟩ := n_chk_some h
    have hkd := n_beq hb
    have h1 := hg _ _ _ _ h
    refine ⟨h1.1, fun p e R s m args below meth c H locs cells slots ls C hP hS hl hz hc hs => ?_⟩
    obtain ⟨a1, a2⟩ := hP.1 a (by show n_kd G a ≤ 15; have := ok.1; omega)
    have he := n_ws_get (w := w) (h := (G, M)) a1 a2
    rw [n_cell_obj (h := (G, M)) hkd ok.1] at he
    have hR : n_isR (n_ty ci k) = false := by rw [hty]; rfl
    rw [List.map_cons, List.map_cons, n_ref a1]
    refine va_putF C.1 C.2.1 C.2.2.2.2.2.2.2.1 ok.2.2.1 (n_ty ci) ok.2.2.2.1 ok.2.2.2.2 C.2.2.2.2.1 C.2.2.2.2.2.2.2.2.1.1 hP.2 (n_D w (G, M)) hS (a - 1) he ok.2.1 k hk (C.2.2.2.2.2.2.2.1 _ hw) (fun _ q => q) hfin (by rw [C.2.2.2.2.2.2.1]; exact hin2) hdecl (ty := .int) (v := .int v) (by rw [ok.2.2.2.1 k hk, hty]) rfl rfl (by rw [n_fs_len ok.N]; exact hk) hd (fun H locs hP1 _ hS => ?_)
    rw [n_ws_set (h' := (G, n_up M a k v)) a1 a2 rfl (by rw [n_cell_obj (h := (G, n_up M a k v)) hkd ok.1, n_fs_set ok.N hk hR]) (fun b hb => n_cell_other (n_up_ne hb))] at hP1
    have hP : n_P w (G, n_up M a k v) H := ⟨hP.1, hP1⟩
    exact h1.2 p e R s m args below meth c H locs cells slots ls C hP hS hl hz hc hs
  · cases h
theorem s_putZ {l : Launch} {w : nW} {d : Nat} {μ : nY} {G : nG} {T : Type} {fin : T → nR} {pc : Nat} {ci k idx N : Nat} {C : String} {TT : u_T} (ok : n_OK ci C TT N) (hk : k < N) (hty : n_ty ci k = .boolean) (hfin : (TT k).2.2.2 = false) (hd : decode μ.2.2.1 pc = .ok (.putfield idx, 3)) (hw : Cond.fieldLink μ.1 idx (TT k).1 (TT k).2.1 (TT k).2.2.1 ∈ lw_good) : n_S l w d μ G fin pc (o_putZ G ci k (pc + 3)) := by
  intro go r lv st M hg h
  unfold o_putZ at h
  split at h
  · rename_i v a rest
    obtain ⟨hb, h⟩ := n_chk_some h
    simp only [Bool.and_eq_true, Bool.or_eq_true, beq_iff_eq] at hb
    obtain ⟨hb, hv01⟩ := hb
    have hkd := n_beq hb
    have h1 := hg _ _ _ _ h
    refine ⟨h1.1, fun p e R s m args below meth c H locs cells slots ls C hP hS hl hz hc hs => ?_⟩
    obtain ⟨a1, a2⟩ := hP.1 a (by show n_kd G a ≤ 15; have := ok.1; omega)
    have he := n_ws_get (w := w) (h := (G, M)) a1 a2
    rw [n_cell_obj (h := (G, M)) hkd ok.1] at he
    have hR : n_isR (n_ty ci k) = false := by rw [hty]; rfl
    rw [List.map_cons, List.map_cons, n_ref a1]
    refine va_put C.1 C.2.1 C.2.2.2.2.2.2.2.1 ok.2.2.1 (n_ty ci) ok.2.2.2.1 ok.2.2.2.2 C.2.2.2.2.1 C.2.2.2.2.2.2.2.2.1.1 hP.2 (n_D w (G, M)) hS (a - 1) he ok.2.1 k hk (C.2.2.2.2.2.2.2.1 _ hw) (fun _ q => q) hfin (ty := .boolean) (v := .int v) (by rw [ok.2.2.2.1 k hk, hty]) (by rcases hv01 with rfl | rfl <;> rfl) (by rcases hv01 with rfl | rfl <;> rfl) (by rw [n_fs_len ok.N]; exact hk) hd (fun H locs hP1 _ hS => ?_)
    rw [n_ws_set (h' := (G, n_up M a k v)) a1 a2 rfl (by rw [n_cell_obj (h := (G, n_up M a k v)) hkd ok.1, n_fs_set ok.N hk hR]) (fun b hb => n_cell_other (n_up_ne hb))] at hP1
    have hP : n_P w (G, n_up M a k v) H := ⟨hP.1, hP1⟩
    exact h1.2 p e R s m args below meth c H locs cells slots ls C hP hS hl hz hc hs
  · cases h
theorem s_putZF {l : Launch} {w : nW} {d : Nat} {μ : nY} {G : nG} {T : Type} {fin : T → nR} {pc : Nat} {ci k idx N : Nat} {C : String} {TT : u_T} (ok : n_OK ci C TT N) (hk : k < N) (hty : n_ty ci k = .boolean) (hfin : (TT k).2.2.2 = true) (hin2 : μ.2.1.name = "<init>") (hdecl : (TT k).1 = μ.1) (hd : decode μ.2.2.1 pc = .ok (.putfield idx, 3)) (hw : Cond.fieldLink μ.1 idx (TT k).1 (TT k).2.1 (TT k).2.2.1 ∈ lw_good) : n_S l w d μ G fin pc (o_putZ G ci k (pc + 3)) := by
  intro go r lv st M hg h
  unfold o_putZ at h
  split at h
  · rename_i v a rest
    obtain ⟨hb, h⟩ := n_chk_some h
    simp only [Bool.and_eq_true, Bool.or_eq_true, beq_iff_eq] at hb
    obtain ⟨hb, hv01⟩ := hb
    have hkd := n_beq hb
    have h1 := hg _ _ _ _ h
    refine ⟨h1.1, fun p e R s m args below meth c H locs cells slots ls C hP hS hl hz hc hs => ?_⟩
    obtain ⟨a1, a2⟩ := hP.1 a (by show n_kd G a ≤ 15; have := ok.1; omega)
    have he := n_ws_get (w := w) (h := (G, M)) a1 a2
    rw [n_cell_obj (h := (G, M)) hkd ok.1] at he
    have hR : n_isR (n_ty ci k) = false := by rw [hty]; rfl
    rw [List.map_cons, List.map_cons, n_ref a1]
    refine va_putF C.1 C.2.1 C.2.2.2.2.2.2.2.1 ok.2.2.1 (n_ty ci) ok.2.2.2.1 ok.2.2.2.2 C.2.2.2.2.1 C.2.2.2.2.2.2.2.2.1.1 hP.2 (n_D w (G, M)) hS (a - 1) he ok.2.1 k hk (C.2.2.2.2.2.2.2.1 _ hw) (fun _ q => q) hfin (by rw [C.2.2.2.2.2.2.1]; exact hin2) hdecl (ty := .boolean) (v := .int v) (by rw [ok.2.2.2.1 k hk, hty]) (by rcases hv01 with rfl | rfl <;> rfl) (by rcases hv01 with rfl | rfl <;> rfl) (by rw [n_fs_len ok.N]; exact hk) hd (fun H locs hP1 _ hS => ?_)
    rw [n_ws_set (h' := (G, n_up M a k v)) a1 a2 rfl (by rw [n_cell_obj (h := (G, n_up M a k v)) hkd ok.1, n_fs_set ok.N hk hR]) (fun b hb => n_cell_other (n_up_ne hb))] at hP1
    have hP : n_P w (G, n_up M a k v) H := ⟨hP.1, hP1⟩
    exact h1.2 p e R s m args below meth c H locs cells slots ls C hP hS hl hz hc hs
  · cases h
theorem n_in_spec {G : nG} {t a : Nat} {i : Int32} (h : n_in G t a i = true) : n_kd G a = t ∧ vp_in i (n_len G a) := by
  unfold n_in at h
  simp only [Bool.and_eq_true, Bool.not_eq_true', decide_eq_false_iff_not] at h
  refine ⟨n_beq h.1, fun q => ?_⟩
  rcases q with q | q
  · exact h.2.1 q
  · have : i.toNatClampNeg < n_len G a := Nat.le_of_ble_eq_true h.2.2
    omega
theorem s_iaload {l : Launch} {w : nW} {d : Nat} {μ : nY} {G : nG} {T : Type} {fin : T → nR} {pc : Nat} (hd : decode μ.2.2.1 pc = .ok (.iaload, 1)) : n_S l w d μ G fin pc (o_ald G 14 (pc + 1)) := by
  intro go r lv st M hg h
  unfold o_ald at h
  split at h
  · rename_i i a rest
    obtain ⟨hb, h⟩ := n_chk_some h
    obtain ⟨hkd, hin⟩ := n_in_spec hb
    have h1 := hg _ _ _ _ h
    refine ⟨h1.1, fun p e R s m args below meth c H locs cells slots ls C hP hS hl hz hc hs => ?_⟩
    obtain ⟨a1, a2⟩ := hP.1 a (by show n_kd G a ≤ 15; omega)
    have he := n_ws_get (w := w) (h := (G, M)) a1 a2
    rw [n_cell_I (h := (G, M)) hkd] at he
    rw [List.map_cons, List.map_cons, n_ref a1]
    exact va_iald C.1 C.2.1 C.2.2.2.2.2.2.2.2.1.1 hP.2 (a - 1) 1 he rfl hin hd (h1.2 p e R s m args below meth c H locs cells slots ls C hP hS hl hz hc hs)
  · cases h
theorem s_baload {l : Launch} {w : nW} {d : Nat} {μ : nY} {G : nG} {T : Type} {fin : T → nR} {pc : Nat} (hd : decode μ.2.2.1 pc = .ok (.baload, 1)) : n_S l w d μ G fin pc (o_ald G 13 (pc + 1)) := by
  intro go r lv st M hg h
  unfold o_ald at h
  split at h
  · rename_i i a rest
    obtain ⟨hb, h⟩ := n_chk_some h
    obtain ⟨hkd, hin⟩ := n_in_spec hb
    have h1 := hg _ _ _ _ h
    refine ⟨h1.1, fun p e R s m args below meth c H locs cells slots ls C hP hS hl hz hc hs => ?_⟩
    obtain ⟨a1, a2⟩ := hP.1 a (by show n_kd G a ≤ 15; omega)
    have he := n_ws_get (w := w) (h := (G, M)) a1 a2
    rw [n_cell_B (h := (G, M)) hkd] at he
    rw [List.map_cons, List.map_cons, n_ref a1]
    exact va_bald C.1 C.2.1 C.2.2.2.2.2.2.2.2.1.1 hP.2 (a - 1) 0 he rfl hin hd (h1.2 p e R s m args below meth c H locs cells slots ls C hP hS hl hz hc hs)
  · cases h
theorem s_aaload {l : Launch} {w : nW} {d : Nat} {μ : nY} {G : nG} {T : Type} {fin : T → nR} {pc : Nat} (hd : decode μ.2.2.1 pc = .ok (.aaload, 1)) : n_S l w d μ G fin pc (o_aald G (pc + 1)) := by
  intro go r lv st M hg h
  unfold o_aald at h
  split at h
  · rename_i i a rest
    obtain ⟨hb, h⟩ := n_chk_some h
    obtain ⟨hkd, hin⟩ := n_in_spec hb
    have h1 := hg _ _ _ _ h
    refine ⟨h1.1, fun p e R s m args below meth c H locs cells slots ls C hP hS hl hz hc hs => ?_⟩
    obtain ⟨a1, a2⟩ := hP.1 a (by show n_kd G a ≤ 15; omega)
    have he := n_ws_get (w := w) (h := (G, M)) a1 a2
    rw [n_cell_O (h := (G, M)) hkd] at he
    rw [List.map_cons, List.map_cons, n_ref a1]
    exact va_aldq C.1 C.2.1 C.2.2.2.2.2.2.2.2.1.1 hP.2 (a - 1) 2 he rfl hin hd (h1.2 p e R s m args below meth c H locs cells slots ls C hP hS hl hz hc hs)
  · cases h
abbrev o_iastore {T : Type} (G : nG) (nx : Nat) : nO T := fun go lv st M => match st with
  | .int x :: .int i :: .ref a :: r => n_chk (n_in G 14 a i) (go nx lv r (n_up M a i.toNatClampNeg (x)))
  | _ => none
theorem s_iastore {l : Launch} {w : nW} {d : Nat} {μ : nY} {G : nG} {T : Type} {fin : T → nR} {pc : Nat} (hd : decode μ.2.2.1 pc = .ok (.iastore, 1)) : n_S l w d μ G fin pc (o_iastore G (pc + 1)) := by
  intro go r lv st M hg h
  unfold o_iastore at h
  split at h
  · rename_i x i a rest
    obtain ⟨hb, h⟩ := n_chk_some h
    obtain ⟨hkd, hin⟩ := n_in_spec hb
    have h1 := hg _ _ _ _ h
    refine ⟨h1.1, fun p e R s m args below meth c H locs cells slots ls C hP hS hl hz hc hs => ?_⟩
    obtain ⟨a1, a2⟩ := hP.1 a (by show n_kd G a ≤ 15; omega)
    have he := n_ws_get (w := w) (h := (G, M)) a1 a2
    rw [n_cell_I (h := (G, M)) hkd] at he
    rw [List.map_cons, List.map_cons, List.map_cons, n_ref a1]
    refine va_iast C.1 C.2.1 C.2.2.2.2.2.2.2.2.1.1 hP.2 (n_D w (G, M)) hS (a - 1) 1 he rfl hin hd (fun H locs hP1 _ hS => ?_)
    rw [n_ws_set (h' := (G, n_up M a i.toNatClampNeg (x))) a1 a2 rfl (by rw [n_cell_I (h := (G, n_up M a i.toNatClampNeg (x))) hkd]; simp only [n_up_eq]) (fun b hb => n_cell_other (n_up_ne hb))] at hP1
    have hP : n_P w (G, n_up M a i.toNatClampNeg (x)) H := ⟨hP.1, hP1⟩
    exact h1.2 p e R s m args below meth c H locs cells slots ls C hP hS hl hz hc hs
  · cases h
abbrev o_bastore {T : Type} (G : nG) (nx : Nat) : nO T := fun go lv st M => match st with
  | .int x :: .int i :: .ref a :: r => n_chk (n_in G 13 a i) (go nx lv r (n_up M a i.toNatClampNeg (vp_nar .byte x)))
  | _ => none
theorem s_bastore {l : Launch} {w : nW} {d : Nat} {μ : nY} {G : nG} {T : Type} {fin : T → nR} {pc : Nat} (hd : decode μ.2.2.1 pc = .ok (.bastore, 1)) : n_S l w d μ G fin pc (o_bastore G (pc + 1)) := by
  intro go r lv st M hg h
  unfold o_bastore at h
  split at h
  · rename_i x i a rest
    obtain ⟨hb, h⟩ := n_chk_some h
    obtain ⟨hkd, hin⟩ := n_in_spec hb
    have h1 := hg _ _ _ _ h
    refine ⟨h1.1, fun p e R s m args below meth c H locs cells slots ls C hP hS hl hz hc hs => ?_⟩
    obtain ⟨a1, a2⟩ := hP.1 a (by show n_kd G a ≤ 15; omega)
    have he := n_ws_get (w := w) (h := (G, M)) a1 a2
    rw [n_cell_B (h := (G, M)) hkd] at he
    rw [List.map_cons, List.map_cons, List.map_cons, n_ref a1]
    refine va_bast C.1 C.2.1 C.2.2.2.2.2.2.2.2.1.1 hP.2 (n_D w (G, M)) hS (a - 1) 0 he rfl hin hd (fun H locs hP1 _ hS => ?_)
    rw [n_ws_set (h' := (G, n_up M a i.toNatClampNeg (vp_nar .byte x))) a1 a2 rfl (by rw [n_cell_B (h := (G, n_up M a i.toNatClampNeg (vp_nar .byte x))) hkd]; simp only [n_up_eq]) (fun b hb => n_cell_other (n_up_ne hb))] at hP1
    have hP : n_P w (G, n_up M a i.toNatClampNeg (vp_nar .byte x)) H := ⟨hP.1, hP1⟩
    exact h1.2 p e R s m args below meth c H locs cells slots ls C hP hS hl hz hc hs
  · cases h
theorem s_alenI {l : Launch} {w : nW} {d : Nat} {μ : nY} {G : nG} {T : Type} {fin : T → nR} {pc : Nat} (hd : decode μ.2.2.1 pc = .ok (.arraylength, 1)) : n_S l w d μ G fin pc (o_alen G 14 (pc + 1)) := by
  intro go r lv st M hg h
  unfold o_alen at h
  split at h
  · rename_i a rest
    obtain ⟨hb, h⟩ := n_chk_some h
    have hkd := n_beq hb
    have h1 := hg _ _ _ _ h
    refine ⟨h1.1, fun p e R s m args below meth c H locs cells slots ls C hP hS hl hz hc hs => ?_⟩
    obtain ⟨a1, a2⟩ := hP.1 a (by show n_kd G a ≤ 15; omega)
    have he := n_ws_get (w := w) (h := (G, M)) a1 a2
    rw [n_cell_I (h := (G, M)) hkd] at he
    rw [List.map_cons, n_ref a1]
    exact va_alen C.1 C.2.1 C.2.2.2.2.2.2.2.2.1.1 hP.2 (a - 1) 1 he (ty := _) rfl rfl hd (h1.2 p e R s m args below meth c H locs cells slots ls C hP hS hl hz hc hs)
  · cases h
theorem s_alenB {l : Launch} {w : nW} {d : Nat} {μ : nY} {G : nG} {T : Type} {fin : T → nR} {pc : Nat} (hd : decode μ.2.2.1 pc = .ok (.arraylength, 1)) : n_S l w d μ G fin pc (o_alen G 13 (pc + 1)) := by
  intro go r lv st M hg h
  unfold o_alen at h
  split at h
  · rename_i a rest
    obtain ⟨hb, h⟩ := n_chk_some h
    have hkd := n_beq hb
    have h1 := hg _ _ _ _ h
    refine ⟨h1.1, fun p e R s m args below meth c H locs cells slots ls C hP hS hl hz hc hs => ?_⟩
    obtain ⟨a1, a2⟩ := hP.1 a (by show n_kd G a ≤ 15; omega)
    have he := n_ws_get (w := w) (h := (G, M)) a1 a2
    rw [n_cell_B (h := (G, M)) hkd] at he
    rw [List.map_cons, n_ref a1]
    exact va_alen C.1 C.2.1 C.2.2.2.2.2.2.2.2.1.1 hP.2 (a - 1) 0 he (ty := _) rfl rfl hd (h1.2 p e R s m args below meth c H locs cells slots ls C hP hS hl hz hc hs)
  · cases h
theorem s_alenO {l : Launch} {w : nW} {d : Nat} {μ : nY} {G : nG} {T : Type} {fin : T → nR} {pc : Nat} (hd : decode μ.2.2.1 pc = .ok (.arraylength, 1)) : n_S l w d μ G fin pc (o_alen G 15 (pc + 1)) := by
  intro go r lv st M hg h
  unfold o_alen at h
  split at h
  · rename_i a rest
    obtain ⟨hb, h⟩ := n_chk_some h
    have hkd := n_beq hb
    have h1 := hg _ _ _ _ h
    refine ⟨h1.1, fun p e R s m args below meth c H locs cells slots ls C hP hS hl hz hc hs => ?_⟩
    obtain ⟨a1, a2⟩ := hP.1 a (by show n_kd G a ≤ 15; omega)
    have he := n_ws_get (w := w) (h := (G, M)) a1 a2
    rw [n_cell_O (h := (G, M)) hkd] at he
    rw [List.map_cons, n_ref a1]
    exact va_alen C.1 C.2.1 C.2.2.2.2.2.2.2.2.1.1 hP.2 (a - 1) 2 he (ty := _) rfl rfl hd (h1.2 p e R s m args below meth c H locs cells slots ls C hP hS hl hz hc hs)
  · cases h
theorem n_K.warm {w : nW} {u U : State} (hW : u.WarmedH U.vm) (hH : ∀ q : Nat, q < u.heap.size → ¬ n_A w q → U.heap[q]? = u.heap[q]?) (h : n_K w u) : n_K w U := ⟨va_K.moved hW.alike h.1, va_AO.moved hW.alike h.2.1, fun x hx => by
  have h2 := h.2.2.1 x hx
  simp only [n_nest, List.mem_cons, List.not_mem_nil, or_false] at hx
  rcases hx with rfl | rfl | rfl | rfl <;> exact va_Nw.warmM hW h2, h.2.2.2.1, h.2.2.2.1 u U u.heap U.heap (Or.inl hW) hH h.2.2.2.2⟩
theorem n_K.same {w : nW} {u U : State} (hv : u.vm = U.vm) (hH : U.heap = u.heap) (h : n_K w u) : n_K w U := ⟨va_K.moved (by rw [hv]; exact Vm.Alike.refl U.vm) h.1, va_AO.moved (by rw [hv]; exact Vm.Alike.refl U.vm) h.2.1, fun x hx => by
  have h2 := h.2.2.1 x hx
  simp only [n_nest, List.mem_cons, List.not_mem_nil, or_false] at hx
  rcases hx with rfl | rfl | rfl | rfl <;> exact va_Nw.same rfl hv h2, h.2.2.2.1, h.2.2.2.1 u U u.heap U.heap (Or.inr hv) (fun q _ _ => by rw [hH]) h.2.2.2.2⟩
theorem s_iret {l : Launch} {w : nW} {d : Nat} {μ : nY} {G : nG} {pc : Nat}  (hr : μ.2.2.2.2 = some .int) (hd : decode μ.2.2.1 pc = .ok (.ireturn, 1)) : n_S l w d μ G (n_fin dv_i G) pc o_iret := by
  intro go r lv st M hg h
  unfold o_iret at h
  split at h
  · skip
    rename_i v
    cases h
    refine ⟨⟨Nat.le_refl _, Nat.le_refl _⟩, fun p e R s m args below meth c H locs cells slots ls C hP hS hl hz hc hs => ?_⟩
    simp only [Nat.sub_self, Nat.add_zero]
    exact W.iret C.1 C.2.1 (by rw [C.2.2.1]; exact hr) (fun t ht hW => ⟨⟨rfl, by rw [ht]; exact hP, n_K.warm hW (by rw [ht]; exact hS.2.1) C.2.2.2.2.2.2.2.2.1⟩, hS.F ht⟩) hS.2.2 hd C.2.2.2.2.2.1
  · cases h
theorem s_zret {l : Launch} {w : nW} {d : Nat} {μ : nY} {G : nG} {pc : Nat}  (hr : μ.2.2.2.2 = some .boolean) (hd : decode μ.2.2.1 pc = .ok (.ireturn, 1)) : n_S l w d μ G (n_fin dv_i G) pc o_zret := by
  intro go r lv st M hg h
  unfold o_zret at h
  split at h
  · skip
    rename_i v
    obtain ⟨hb, h⟩ := n_chk_some h
    simp only [Bool.or_eq_true, beq_iff_eq] at hb
    cases h
    refine ⟨⟨Nat.le_refl _, Nat.le_refl _⟩, fun p e R s m args below meth c H locs cells slots ls C hP hS hl hz hc hs => ?_⟩
    simp only [Nat.sub_self, Nat.add_zero]
    exact W.zret C.1 C.2.1 (by rw [C.2.2.1]; exact hr) (by rcases hb with rfl | rfl <;> rfl) (fun t ht hW => ⟨⟨rfl, by rw [ht]; exact hP, n_K.warm hW (by rw [ht]; exact hS.2.1) C.2.2.2.2.2.2.2.2.1⟩, hS.F ht⟩) hS.2.2 hd C.2.2.2.2.2.1
  · cases h
theorem s_vret {l : Launch} {w : nW} {d : Nat} {μ : nY} {G : nG} {pc : Nat}  (hr : μ.2.2.2.2 = none) (hd : decode μ.2.2.1 pc = .ok (.return_, 1)) : n_S l w d μ G (n_fin dv_v G) pc o_vret := by
  intro go r lv st M hg h
  unfold o_vret at h
  split at h
  · skip
    cases h
    refine ⟨⟨Nat.le_refl _, Nat.le_refl _⟩, fun p e R s m args below meth c H locs cells slots ls C hP hS hl hz hc hs => ?_⟩
    simp only [Nat.sub_self, Nat.add_zero]
    exact W.vret C.1 C.2.1 (by rw [C.2.2.1]; exact hr) (fun t ht hW => ⟨⟨rfl, by rw [ht]; exact hP, n_K.warm hW (by rw [ht]; exact hS.2.1) C.2.2.2.2.2.2.2.2.1⟩, hS.F ht⟩) hS.2.2 hd C.2.2.2.2.2.1
  · cases h
theorem s_lret {l : Launch} {w : nW} {d : Nat} {μ : nY} {G : nG} {pc : Nat}  (hr : μ.2.2.2.2 = some .long) (hd : decode μ.2.2.1 pc = .ok (.lreturn, 1)) : n_S l w d μ G (n_fin dv_l G) pc o_lret := by
  intro go r lv st M hg h
  unfold o_lret at h
  split at h
  · skip
    rename_i v
    cases h
    refine ⟨⟨Nat.le_refl _, Nat.le_refl _⟩, fun p e R s m args below meth c H locs cells slots ls C hP hS hl hz hc hs => ?_⟩
    simp only [Nat.sub_self, Nat.add_zero]
    exact W.lret C.1 C.2.1 (by rw [C.2.2.1]; exact hr) (fun t ht hW => ⟨⟨rfl, by rw [ht]; exact hP, n_K.warm hW (by rw [ht]; exact hS.2.1) C.2.2.2.2.2.2.2.2.1⟩, hS.F ht⟩) hS.2.2 hd C.2.2.2.2.2.1
  · cases h
