/-! ===== the plain instructions are the machine's ===== -/
theorem s_iconst {l : Launch} {w : nW} {d : Nat} {μ : nY} {G : nG} {T : Type} {fin : T → nR} {pc : Nat} {n : Int} {v : Int32} (hd : decode μ.2.2.1 pc = .ok (.iconst n, 1)) (hv : Int32.ofInt n = v) : n_S l w d μ G fin pc (o_push (.int v) (pc + 1)) := by
  intro go r lv st M hg h
  have h1 := hg _ _ _ _ h
  refine ⟨h1.1, fun p e R s m args below meth c H locs cells slots ls C hP hS hl hz hc hs => ?_⟩
  exact lv_iconst C.1 C.2.1 hd hv (h1.2 p e R s m args below meth c H locs cells slots ls C hP hS hl hz hc hs)
theorem s_bipush {l : Launch} {w : nW} {d : Nat} {μ : nY} {G : nG} {T : Type} {fin : T → nR} {pc : Nat} {n : Int} {v : Int32} (hd : decode μ.2.2.1 pc = .ok (.bipush n, 2)) (hv : (Int8.ofInt n).toInt32 = v) : n_S l w d μ G fin pc (o_push (.int v) (pc + 2)) := by
  intro go r lv st M hg h
  have h1 := hg _ _ _ _ h
  refine ⟨h1.1, fun p e R s m args below meth c H locs cells slots ls C hP hS hl hz hc hs => ?_⟩
  exact lv_bipush C.1 C.2.1 hd hv (h1.2 p e R s m args below meth c H locs cells slots ls C hP hS hl hz hc hs)
theorem s_sipush {l : Launch} {w : nW} {d : Nat} {μ : nY} {G : nG} {T : Type} {fin : T → nR} {pc : Nat} {n : Int} {v : Int32} (hd : decode μ.2.2.1 pc = .ok (.sipush n, 3)) (hv : (Int16.ofInt n).toInt32 = v) : n_S l w d μ G fin pc (o_push (.int v) (pc + 3)) := by
  intro go r lv st M hg h
  have h1 := hg _ _ _ _ h
  refine ⟨h1.1, fun p e R s m args below meth c H locs cells slots ls C hP hS hl hz hc hs => ?_⟩
  exact lv_sipush C.1 C.2.1 hd hv (h1.2 p e R s m args below meth c H locs cells slots ls C hP hS hl hz hc hs)
theorem s_lconst {l : Launch} {w : nW} {d : Nat} {μ : nY} {G : nG} {T : Type} {fin : T → nR} {pc : Nat} {n : Fin 2} {v : Int64} (hd : decode μ.2.2.1 pc = .ok (.lconst n, 1)) (hv : Int64.ofNat (n : Nat) = v) : n_S l w d μ G fin pc (o_push (.long v) (pc + 1)) := by
  intro go r lv st M hg h
  have h1 := hg _ _ _ _ h
  refine ⟨h1.1, fun p e R s m args below meth c H locs cells slots ls C hP hS hl hz hc hs => ?_⟩
  exact lv_lconst C.1 C.2.1 hd hv (h1.2 p e R s m args below meth c H locs cells slots ls C hP hS hl hz hc hs)
theorem s_ldc {l : Launch} {w : nW} {d : Nat} {μ : nY} {G : nG} {T : Type} {fin : T → nR} {pc : Nat} {i : Nat} {v : Int32} (hd : decode μ.2.2.1 pc = .ok (.ldc i, 2)) (hw : Jvm.Cond.constant μ.1 i v ∈ lw_good) : n_S l w d μ G fin pc (o_push (.int v) (pc + 2)) := by
  intro go r lv st M hg h
  have h1 := hg _ _ _ _ h
  refine ⟨h1.1, fun p e R s m args below meth c H locs cells slots ls C hP hS hl hz hc hs => ?_⟩
  exact lv_ldc C.1 C.2.1 C.2.2.2.2.1 (C.2.2.2.2.2.2.2.1 _ hw) hd (h1.2 p e R s m args below meth c H locs cells slots ls C hP hS hl hz hc hs)
theorem s_ldcw {l : Launch} {w : nW} {d : Nat} {μ : nY} {G : nG} {T : Type} {fin : T → nR} {pc : Nat} {i : Nat} {v : Int32} (hd : decode μ.2.2.1 pc = .ok (.ldc_w i, 3)) (hw : Jvm.Cond.constant μ.1 i v ∈ lw_good) : n_S l w d μ G fin pc (o_push (.int v) (pc + 3)) := by
  intro go r lv st M hg h
  have h1 := hg _ _ _ _ h
  refine ⟨h1.1, fun p e R s m args below meth c H locs cells slots ls C hP hS hl hz hc hs => ?_⟩
  exact lv_ldcw C.1 C.2.1 C.2.2.2.2.1 (C.2.2.2.2.2.2.2.1 _ hw) hd (h1.2 p e R s m args below meth c H locs cells slots ls C hP hS hl hz hc hs)
theorem s_ldc2 {l : Launch} {w : nW} {d : Nat} {μ : nY} {G : nG} {T : Type} {fin : T → nR} {pc : Nat} {i : Nat} {v : Int64} (hd : decode μ.2.2.1 pc = .ok (.ldc2_w i, 3)) (hw : Jvm.Cond.constantLong μ.1 i v ∈ lw_good) : n_S l w d μ G fin pc (o_push (.long v) (pc + 3)) := by
  intro go r lv st M hg h
  have h1 := hg _ _ _ _ h
  refine ⟨h1.1, fun p e R s m args below meth c H locs cells slots ls C hP hS hl hz hc hs => ?_⟩
  exact lv_ldc2 C.1 C.2.1 C.2.2.2.2.1 (C.2.2.2.2.2.2.2.1 _ hw) hd (h1.2 p e R s m args below meth c H locs cells slots ls C hP hS hl hz hc hs)
theorem s_null {l : Launch} {w : nW} {d : Nat} {μ : nY} {G : nG} {T : Type} {fin : T → nR} {pc : Nat}  (hd : decode μ.2.2.1 pc = .ok (.aconst_null, 1))  : n_S l w d μ G fin pc (o_push (.ref 0) (pc + 1)) := by
  intro go r lv st M hg h
  have h1 := hg _ _ _ _ h
  refine ⟨h1.1, fun p e R s m args below meth c H locs cells slots ls C hP hS hl hz hc hs => ?_⟩
  exact lv_null C.1 C.2.1 hd (h1.2 p e R s m args below meth c H locs cells slots ls C hP hS hl hz hc hs)
theorem s_iload_n {l : Launch} {w : nW} {d : Nat} {μ : nY} {G : nG} {T : Type} {fin : T → nR} {pc : Nat} {k : Fin 4} (hd : decode μ.2.2.1 pc = .ok (.iload_n k, 1)) : n_S l w d μ G fin pc (o_iload k.val (pc + 1)) := by
  intro go r lv st M hg h
  unfold o_iload at h
  split at h
  · rename_i x hx
    have h1 := hg _ _ _ _ h
    refine ⟨h1.1, fun p e R s m args below meth c H locs cells slots ls C hP hS hl hz hc hs => ?_⟩
    exact lv_iload_n C.1 C.2.1 hd rfl (n_lk_at hl hx) (h1.2 p e R s m args below meth c H locs cells slots ls C hP hS hl hz hc hs)
  · cases h
theorem s_iload {l : Launch} {w : nW} {d : Nat} {μ : nY} {G : nG} {T : Type} {fin : T → nR} {pc : Nat} {i : Nat} (hd : decode μ.2.2.1 pc = .ok (.iload i, 2)) : n_S l w d μ G fin pc (o_iload i (pc + 2)) := by
  intro go r lv st M hg h
  unfold o_iload at h
  split at h
  · rename_i x hx
    have h1 := hg _ _ _ _ h
    refine ⟨h1.1, fun p e R s m args below meth c H locs cells slots ls C hP hS hl hz hc hs => ?_⟩
    exact lv_iload C.1 C.2.1 hd (n_lk_at hl hx) (h1.2 p e R s m args below meth c H locs cells slots ls C hP hS hl hz hc hs)
  · cases h
theorem s_lload_n {l : Launch} {w : nW} {d : Nat} {μ : nY} {G : nG} {T : Type} {fin : T → nR} {pc : Nat} {k : Fin 4} (hd : decode μ.2.2.1 pc = .ok (.lload_n k, 1)) : n_S l w d μ G fin pc (o_lload k.val (pc + 1)) := by
  intro go r lv st M hg h
  unfold o_lload at h
  split at h
  · rename_i x hx
    have h1 := hg _ _ _ _ h
    refine ⟨h1.1, fun p e R s m args below meth c H locs cells slots ls C hP hS hl hz hc hs => ?_⟩
    exact lv_lload_n C.1 C.2.1 hd rfl (n_lk_at hl hx) (h1.2 p e R s m args below meth c H locs cells slots ls C hP hS hl hz hc hs)
  · cases h
theorem s_lload {l : Launch} {w : nW} {d : Nat} {μ : nY} {G : nG} {T : Type} {fin : T → nR} {pc : Nat} {i : Nat} (hd : decode μ.2.2.1 pc = .ok (.lload i, 2)) : n_S l w d μ G fin pc (o_lload i (pc + 2)) := by
  intro go r lv st M hg h
  unfold o_lload at h
  split at h
  · rename_i x hx
    have h1 := hg _ _ _ _ h
    refine ⟨h1.1, fun p e R s m args below meth c H locs cells slots ls C hP hS hl hz hc hs => ?_⟩
    exact lv_lload C.1 C.2.1 hd (n_lk_at hl hx) (h1.2 p e R s m args below meth c H locs cells slots ls C hP hS hl hz hc hs)
  · cases h
theorem s_aload_n {l : Launch} {w : nW} {d : Nat} {μ : nY} {G : nG} {T : Type} {fin : T → nR} {pc : Nat} {k : Fin 4} (hd : decode μ.2.2.1 pc = .ok (.aload_n k, 1)) : n_S l w d μ G fin pc (o_aload k.val (pc + 1)) := by
  intro go r lv st M hg h
  unfold o_aload at h
  split at h
  · rename_i x hx
    have h1 := hg _ _ _ _ h
    refine ⟨h1.1, fun p e R s m args below meth c H locs cells slots ls C hP hS hl hz hc hs => ?_⟩
    have h2 := h1.2 p e R s m args below meth c H locs cells slots ls C hP hS hl hz hc hs
    have h3 := n_lk_at hl hx
    by_cases hx0 : x = 0
    · have e : n_tr w (.ref x) = .null := by simp [n_tr, n_rf, hx0, va_rf]
      rw [List.map_cons, e] at h2
      rw [e] at h3
      exact lv_aload_nN C.1 C.2.1 hd rfl h3 h2
    · have e : n_tr w (.ref x) = .ref (w.1 + x) := by simp [n_tr, n_rf, hx0, va_rf]
      rw [List.map_cons, e] at h2
      rw [e] at h3
      exact lv_aload_n C.1 C.2.1 hd rfl h3 h2
  · cases h
theorem s_aload {l : Launch} {w : nW} {d : Nat} {μ : nY} {G : nG} {T : Type} {fin : T → nR} {pc : Nat} {i : Nat} (hd : decode μ.2.2.1 pc = .ok (.aload i, 2)) : n_S l w d μ G fin pc (o_aload i (pc + 2)) := by
  intro go r lv st M hg h
  unfold o_aload at h
  split at h
  · rename_i x hx
    have h1 := hg _ _ _ _ h
    refine ⟨h1.1, fun p e R s m args below meth c H locs cells slots ls C hP hS hl hz hc hs => ?_⟩
    have h2 := h1.2 p e R s m args below meth c H locs cells slots ls C hP hS hl hz hc hs
    have h3 := n_lk_at hl hx
    by_cases hx0 : x = 0
    · have e : n_tr w (.ref x) = .null := by simp [n_tr, n_rf, hx0, va_rf]
      rw [List.map_cons, e] at h2
      rw [e] at h3
      exact lv_aloadN C.1 C.2.1 hd h3 h2
    · have e : n_tr w (.ref x) = .ref (w.1 + x) := by simp [n_tr, n_rf, hx0, va_rf]
      rw [List.map_cons, e] at h2
      rw [e] at h3
      exact lv_aload C.1 C.2.1 hd h3 h2
  · cases h
theorem s_istore_n {l : Launch} {w : nW} {d : Nat} {μ : nY} {G : nG} {T : Type} {fin : T → nR} {pc : Nat} {k : Fin 4} (hd : decode μ.2.2.1 pc = .ok (.istore_n k, 1)) : n_S l w d μ G fin pc (o_istore μ.2.2.2.1 k.val (pc + 1)) := by
  intro go r lv st M hg h
  unfold o_istore at h
  split at h
  · rename_i x rest
    obtain ⟨hb, h⟩ := n_ck_some h
    have h1 := hg _ _ _ _ h
    refine ⟨h1.1, fun p e R s m args below meth c H locs cells slots ls C hP hS hl hz hc hs => ?_⟩
    exact lv_istore_n C.1 C.2.1 hd rfl hl (Nat.le_of_ble_eq_true hb) (n_trL_st w _ (.int x) lv) (fun ls hl => h1.2 p e R s m args below meth c H locs cells slots ls C hP hS hl hz hc hs)
  · cases h
theorem s_lstore_n {l : Launch} {w : nW} {d : Nat} {μ : nY} {G : nG} {T : Type} {fin : T → nR} {pc : Nat} {k : Fin 4} (hd : decode μ.2.2.1 pc = .ok (.lstore_n k, 1)) : n_S l w d μ G fin pc (o_lstore μ.2.2.2.1 k.val (pc + 1)) := by
  intro go r lv st M hg h
  unfold o_lstore at h
  split at h
  · rename_i x rest
    obtain ⟨hb, h⟩ := n_ck_some h
    have h1 := hg _ _ _ _ h
    refine ⟨h1.1, fun p e R s m args below meth c H locs cells slots ls C hP hS hl hz hc hs => ?_⟩
    exact lv_lstore_n C.1 C.2.1 hd rfl hl (Nat.le_of_ble_eq_true hb) (n_trL_st2 w _ (.long x) lv) (fun ls hl => h1.2 p e R s m args below meth c H locs cells slots ls C hP hS hl hz hc hs)
  · cases h
theorem s_astore_n {l : Launch} {w : nW} {d : Nat} {μ : nY} {G : nG} {T : Type} {fin : T → nR} {pc : Nat} {k : Fin 4} (hd : decode μ.2.2.1 pc = .ok (.astore_n k, 1)) : n_S l w d μ G fin pc (o_astore μ.2.2.2.1 k.val (pc + 1)) := by
  intro go r lv st M hg h
  unfold o_astore at h
  split at h
  · rename_i x rest
    obtain ⟨hb, h⟩ := n_ck_some h
    have h1 := hg _ _ _ _ h
    refine ⟨h1.1, fun p e R s m args below meth c H locs cells slots ls C hP hS hl hz hc hs => ?_⟩
    have hb' : k.val < μ.2.2.2.1 := Nat.le_of_ble_eq_true hb
    have h3 := n_trL_st w k.val (.ref x) lv
    rw [List.map_cons]
    by_cases hx0 : x = 0
    · have e9 : n_tr w (.ref x) = .null := by simp [n_tr, n_rf, hx0, va_rf]
      rw [e9] at h3 ⊢
      exact lv_astore_nN C.1 C.2.1 hd rfl hl hb' h3 (fun ls hl => h1.2 p e R s m args below meth c H locs cells slots ls C hP hS hl hz hc hs)
    · have e9 : n_tr w (.ref x) = .ref (w.1 + x) := by simp [n_tr, n_rf, hx0, va_rf]
      rw [e9] at h3 ⊢
      exact lv_astore_n C.1 C.2.1 hd rfl hl hb' h3 (fun ls hl => h1.2 p e R s m args below meth c H locs cells slots ls C hP hS hl hz hc hs)
  · cases h
theorem s_istore {l : Launch} {w : nW} {d : Nat} {μ : nY} {G : nG} {T : Type} {fin : T → nR} {pc : Nat} {i : Nat} (hd : decode μ.2.2.1 pc = .ok (.istore i, 2)) : n_S l w d μ G fin pc (o_istore μ.2.2.2.1 i (pc + 2)) := by
  intro go r lv st M hg h
  unfold o_istore at h
  split at h
  · rename_i x rest
    obtain ⟨hb, h⟩ := n_ck_some h
    have h1 := hg _ _ _ _ h
    refine ⟨h1.1, fun p e R s m args below meth c H locs cells slots ls C hP hS hl hz hc hs => ?_⟩
    exact lv_istore C.1 C.2.1 hd hl (Nat.le_of_ble_eq_true hb) (n_trL_st w _ (.int x) lv) (fun ls hl => h1.2 p e R s m args below meth c H locs cells slots ls C hP hS hl hz hc hs)
  · cases h
theorem s_lstore {l : Launch} {w : nW} {d : Nat} {μ : nY} {G : nG} {T : Type} {fin : T → nR} {pc : Nat} {i : Nat} (hd : decode μ.2.2.1 pc = .ok (.lstore i, 2)) : n_S l w d μ G fin pc (o_lstore μ.2.2.2.1 i (pc + 2)) := by
  intro go r lv st M hg h
  unfold o_lstore at h
  split at h
  · rename_i x rest
    obtain ⟨hb, h⟩ := n_ck_some h
    have h1 := hg _ _ _ _ h
    refine ⟨h1.1, fun p e R s m args below meth c H locs cells slots ls C hP hS hl hz hc hs => ?_⟩
    exact lv_lstore C.1 C.2.1 hd hl (Nat.le_of_ble_eq_true hb) (n_trL_st2 w _ (.long x) lv) (fun ls hl => h1.2 p e R s m args below meth c H locs cells slots ls C hP hS hl hz hc hs)
  · cases h
theorem s_astore {l : Launch} {w : nW} {d : Nat} {μ : nY} {G : nG} {T : Type} {fin : T → nR} {pc : Nat} {i : Nat} (hd : decode μ.2.2.1 pc = .ok (.astore i, 2)) : n_S l w d μ G fin pc (o_astore μ.2.2.2.1 i (pc + 2)) := by
  intro go r lv st M hg h
  unfold o_astore at h
  split at h
  · rename_i x rest
    obtain ⟨hb, h⟩ := n_ck_some h
    have h1 := hg _ _ _ _ h
    refine ⟨h1.1, fun p e R s m args below meth c H locs cells slots ls C hP hS hl hz hc hs => ?_⟩
    have hb' : i < μ.2.2.2.1 := Nat.le_of_ble_eq_true hb
    have h3 := n_trL_st w i (.ref x) lv
    rw [List.map_cons]
    by_cases hx0 : x = 0
    · have e9 : n_tr w (.ref x) = .null := by simp [n_tr, n_rf, hx0, va_rf]
      rw [e9] at h3 ⊢
      exact lv_astoreN C.1 C.2.1 hd hl hb' h3 (fun ls hl => h1.2 p e R s m args below meth c H locs cells slots ls C hP hS hl hz hc hs)
    · have e9 : n_tr w (.ref x) = .ref (w.1 + x) := by simp [n_tr, n_rf, hx0, va_rf]
      rw [e9] at h3 ⊢
      exact lv_astore C.1 C.2.1 hd hl hb' h3 (fun ls hl => h1.2 p e R s m args below meth c H locs cells slots ls C hP hS hl hz hc hs)
  · cases h
theorem s_iinc {l : Launch} {w : nW} {d : Nat} {μ : nY} {G : nG} {T : Type} {fin : T → nR} {pc : Nat} {i : Nat} {n : Int} {v : Int32} (hd : decode μ.2.2.1 pc = .ok (.iinc i n, 3)) (hv : Int32.ofInt n = v) : n_S l w d μ G fin pc (o_inc μ.2.2.2.1 i v (pc + 3)) := by
  intro go r lv st M hg h
  unfold o_inc at h
  split at h
  · rename_i x hx
    obtain ⟨hb, h⟩ := n_ck_some h
    have h1 := hg _ _ _ _ h
    refine ⟨h1.1, fun p e R s m args below meth c H locs cells slots ls C hP hS hl hz hc hs => ?_⟩
    obtain ⟨k, hk⟩ := List.getElem?_of_mem (List.mem_map.mpr ⟨(i, Value.int x), n_lk_mem hx, rfl⟩ : (i, Value.int x) ∈ n_trL w lv)
    exact lv_iinc C.1 C.2.1 hd hl hk (by rw [hv]) (Nat.le_of_ble_eq_true hb) (n_trL_st w _ (.int (x + v)) lv) (fun ls hl => h1.2 p e R s m args below meth c H locs cells slots ls C hP hS hl hz hc hs)
  · cases h
abbrev o_iadd {T : Type} (nx : Nat) : nO T := fun go lv st M => match st with
  | .int y :: .int x :: r => go nx lv (.int (x + y) :: r) M
  | _ => none
theorem s_iadd {l : Launch} {w : nW} {d : Nat} {μ : nY} {G : nG} {T : Type} {fin : T → nR} {pc : Nat} (hd : decode μ.2.2.1 pc = .ok (.iadd, 1)) : n_S l w d μ G fin pc (o_iadd (pc + 1)) := by
  intro go r lv st M hg h
  unfold o_iadd at h
  split at h
  · have h1 := hg _ _ _ _ h
    refine ⟨h1.1, fun p e R s m args below meth c H locs cells slots ls C hP hS hl hz hc hs => ?_⟩
    exact lv_iadd C.1 C.2.1 hd (h1.2 p e R s m args below meth c H locs cells slots ls C hP hS hl hz hc hs)
  · cases h
abbrev o_isub {T : Type} (nx : Nat) : nO T := fun go lv st M => match st with
  | .int y :: .int x :: r => go nx lv (.int (x - y) :: r) M
  | _ => none
theorem s_isub {l : Launch} {w : nW} {d : Nat} {μ : nY} {G : nG} {T : Type} {fin : T → nR} {pc : Nat} (hd : decode μ.2.2.1 pc = .ok (.isub, 1)) : n_S l w d μ G fin pc (o_isub (pc + 1)) := by
  intro go r lv st M hg h
  unfold o_isub at h
  split at h
  · have h1 := hg _ _ _ _ h
    refine ⟨h1.1, fun p e R s m args below meth c H locs cells slots ls C hP hS hl hz hc hs => ?_⟩
    exact lv_isub C.1 C.2.1 hd (h1.2 p e R s m args below meth c H locs cells slots ls C hP hS hl hz hc hs)
  · cases h
abbrev o_imul {T : Type} (nx : Nat) : nO T := fun go lv st M => match st with
  | .int y :: .int x :: r => go nx lv (.int (x * y) :: r) M
  | _ => none
theorem s_imul {l : Launch} {w : nW} {d : Nat} {μ : nY} {G : nG} {T : Type} {fin : T → nR} {pc : Nat} (hd : decode μ.2.2.1 pc = .ok (.imul, 1)) : n_S l w d μ G fin pc (o_imul (pc + 1)) := by
  intro go r lv st M hg h
  unfold o_imul at h
  split at h
  · have h1 := hg _ _ _ _ h
    refine ⟨h1.1, fun p e R s m args below meth c H locs cells slots ls C hP hS hl hz hc hs => ?_⟩
    exact lv_imul C.1 C.2.1 hd (h1.2 p e R s m args below meth c H locs cells slots ls C hP hS hl hz hc hs)
  · cases h
abbrev o_iand {T : Type} (nx : Nat) : nO T := fun go lv st M => match st with
  | .int y :: .int x :: r => go nx lv (.int (x &&& y) :: r) M
  | _ => none
theorem s_iand {l : Launch} {w : nW} {d : Nat} {μ : nY} {G : nG} {T : Type} {fin : T → nR} {pc : Nat} (hd : decode μ.2.2.1 pc = .ok (.iand, 1)) : n_S l w d μ G fin pc (o_iand (pc + 1)) := by
  intro go r lv st M hg h
  unfold o_iand at h
  split at h
  · have h1 := hg _ _ _ _ h
    refine ⟨h1.1, fun p e R s m args below meth c H locs cells slots ls C hP hS hl hz hc hs => ?_⟩
    exact lv_iand C.1 C.2.1 hd (h1.2 p e R s m args below meth c H locs cells slots ls C hP hS hl hz hc hs)
  · cases h
abbrev o_ior {T : Type} (nx : Nat) : nO T := fun go lv st M => match st with
  | .int y :: .int x :: r => go nx lv (.int (x ||| y) :: r) M
  | _ => none
theorem s_ior {l : Launch} {w : nW} {d : Nat} {μ : nY} {G : nG} {T : Type} {fin : T → nR} {pc : Nat} (hd : decode μ.2.2.1 pc = .ok (.ior, 1)) : n_S l w d μ G fin pc (o_ior (pc + 1)) := by
  intro go r lv st M hg h
  unfold o_ior at h
  split at h
  · have h1 := hg _ _ _ _ h
    refine ⟨h1.1, fun p e R s m args below meth c H locs cells slots ls C hP hS hl hz hc hs => ?_⟩
    exact lv_ior C.1 C.2.1 hd (h1.2 p e R s m args below meth c H locs cells slots ls C hP hS hl hz hc hs)
  · cases h
abbrev o_ixor {T : Type} (nx : Nat) : nO T := fun go lv st M => match st with
  | .int y :: .int x :: r => go nx lv (.int (x ^^^ y) :: r) M
  | _ => none
theorem s_ixor {l : Launch} {w : nW} {d : Nat} {μ : nY} {G : nG} {T : Type} {fin : T → nR} {pc : Nat} (hd : decode μ.2.2.1 pc = .ok (.ixor, 1)) : n_S l w d μ G fin pc (o_ixor (pc + 1)) := by
  intro go r lv st M hg h
  unfold o_ixor at h
  split at h
  · have h1 := hg _ _ _ _ h
    refine ⟨h1.1, fun p e R s m args below meth c H locs cells slots ls C hP hS hl hz hc hs => ?_⟩
    exact lv_ixor C.1 C.2.1 hd (h1.2 p e R s m args below meth c H locs cells slots ls C hP hS hl hz hc hs)
  · cases h
abbrev o_ishl {T : Type} (nx : Nat) : nO T := fun go lv st M => match st with
  | .int y :: .int x :: r => go nx lv (.int (x <<< (y &&& 31)) :: r) M
  | _ => none
theorem s_ishl {l : Launch} {w : nW} {d : Nat} {μ : nY} {G : nG} {T : Type} {fin : T → nR} {pc : Nat} (hd : decode μ.2.2.1 pc = .ok (.ishl, 1)) : n_S l w d μ G fin pc (o_ishl (pc + 1)) := by
  intro go r lv st M hg h
  unfold o_ishl at h
  split at h
  · have h1 := hg _ _ _ _ h
    refine ⟨h1.1, fun p e R s m args below meth c H locs cells slots ls C hP hS hl hz hc hs => ?_⟩
    exact lv_ishl C.1 C.2.1 hd (h1.2 p e R s m args below meth c H locs cells slots ls C hP hS hl hz hc hs)
  · cases h
abbrev o_ishr {T : Type} (nx : Nat) : nO T := fun go lv st M => match st with
  | .int y :: .int x :: r => go nx lv (.int (x >>> (y &&& 31)) :: r) M
  | _ => none
theorem s_ishr {l : Launch} {w : nW} {d : Nat} {μ : nY} {G : nG} {T : Type} {fin : T → nR} {pc : Nat} (hd : decode μ.2.2.1 pc = .ok (.ishr, 1)) : n_S l w d μ G fin pc (o_ishr (pc + 1)) := by
  intro go r lv st M hg h
  unfold o_ishr at h
  split at h
  · have h1 := hg _ _ _ _ h
    refine ⟨h1.1, fun p e R s m args below meth c H locs cells slots ls C hP hS hl hz hc hs => ?_⟩
    exact lv_ishr C.1 C.2.1 hd (h1.2 p e R s m args below meth c H locs cells slots ls C hP hS hl hz hc hs)
  · cases h
abbrev o_iushr {T : Type} (nx : Nat) : nO T := fun go lv st M => match st with
  | .int y :: .int x :: r => go nx lv (.int ((x.toUInt32 >>> (y.toUInt32 &&& Int32.toUInt32 31)).toInt32) :: r) M
  | _ => none
theorem s_iushr {l : Launch} {w : nW} {d : Nat} {μ : nY} {G : nG} {T : Type} {fin : T → nR} {pc : Nat} (hd : decode μ.2.2.1 pc = .ok (.iushr, 1)) : n_S l w d μ G fin pc (o_iushr (pc + 1)) := by
  intro go r lv st M hg h
  unfold o_iushr at h
  split at h
  · have h1 := hg _ _ _ _ h
    refine ⟨h1.1, fun p e R s m args below meth c H locs cells slots ls C hP hS hl hz hc hs => ?_⟩
    exact lv_iushr C.1 C.2.1 hd rfl (h1.2 p e R s m args below meth c H locs cells slots ls C hP hS hl hz hc hs)
  · cases h
abbrev o_i2c {T : Type} (nx : Nat) : nO T := fun go lv st M => match st with
  | .int x :: r => go nx lv (.int ((x.toUInt32 % 65536).toInt32) :: r) M
  | _ => none
theorem s_i2c {l : Launch} {w : nW} {d : Nat} {μ : nY} {G : nG} {T : Type} {fin : T → nR} {pc : Nat} (hd : decode μ.2.2.1 pc = .ok (.i2c, 1)) : n_S l w d μ G fin pc (o_i2c (pc + 1)) := by
  intro go r lv st M hg h
  unfold o_i2c at h
  split at h
  · have h1 := hg _ _ _ _ h
    refine ⟨h1.1, fun p e R s m args below meth c H locs cells slots ls C hP hS hl hz hc hs => ?_⟩
    exact lv_i2c C.1 C.2.1 hd rfl (h1.2 p e R s m args below meth c H locs cells slots ls C hP hS hl hz hc hs)
  · cases h
abbrev o_i2b {T : Type} (nx : Nat) : nO T := fun go lv st M => match st with
  | .int x :: r => go nx lv (.int (x.toInt8.toInt32) :: r) M
  | _ => none
theorem s_i2b {l : Launch} {w : nW} {d : Nat} {μ : nY} {G : nG} {T : Type} {fin : T → nR} {pc : Nat} (hd : decode μ.2.2.1 pc = .ok (.i2b, 1)) : n_S l w d μ G fin pc (o_i2b (pc + 1)) := by
  intro go r lv st M hg h
  unfold o_i2b at h
  split at h
  · have h1 := hg _ _ _ _ h
    refine ⟨h1.1, fun p e R s m args below meth c H locs cells slots ls C hP hS hl hz hc hs => ?_⟩
    exact lv_i2b C.1 C.2.1 hd rfl (h1.2 p e R s m args below meth c H locs cells slots ls C hP hS hl hz hc hs)
  · cases h
abbrev o_idiv {T : Type} (nx : Nat) : nO T := fun go lv st M => match st with
  | .int y :: .int x :: r => if y = 0 then none else go nx lv (.int (x / y) :: r) M
  | _ => none
theorem s_idiv {l : Launch} {w : nW} {d : Nat} {μ : nY} {G : nG} {T : Type} {fin : T → nR} {pc : Nat} (hd : decode μ.2.2.1 pc = .ok (.idiv, 1)) : n_S l w d μ G fin pc (o_idiv (pc + 1)) := by
  intro go r lv st M hg h
  unfold o_idiv at h
  split at h
  · rename_i y x rest
    by_cases hy : y = 0
    · rw [if_pos hy] at h; cases h
    rw [if_neg hy] at h
    have h1 := hg _ _ _ _ h
    refine ⟨h1.1, fun p e R s m args below meth c H locs cells slots ls C hP hS hl hz hc hs => ?_⟩
    exact lv_idiv C.1 C.2.1 hd hy (h1.2 p e R s m args below meth c H locs cells slots ls C hP hS hl hz hc hs)
  · cases h
abbrev o_irem {T : Type} (nx : Nat) : nO T := fun go lv st M => match st with
  | .int y :: .int x :: r => if y = 0 then none else go nx lv (.int (x - x / y * y) :: r) M
  | _ => none
theorem s_irem {l : Launch} {w : nW} {d : Nat} {μ : nY} {G : nG} {T : Type} {fin : T → nR} {pc : Nat} (hd : decode μ.2.2.1 pc = .ok (.irem, 1)) : n_S l w d μ G fin pc (o_irem (pc + 1)) := by
  intro go r lv st M hg h
  unfold o_irem at h
  split at h
  · rename_i y x rest
    by_cases hy : y = 0
    · rw [if_pos hy] at h; cases h
    rw [if_neg hy] at h
    have h1 := hg _ _ _ _ h
    refine ⟨h1.1, fun p e R s m args below meth c H locs cells slots ls C hP hS hl hz hc hs => ?_⟩
    exact lv_irem C.1 C.2.1 hd hy (h1.2 p e R s m args below meth c H locs cells slots ls C hP hS hl hz hc hs)
  · cases h
theorem s_goto {l : Launch} {w : nW} {d : Nat} {μ : nY} {G : nG} {T : Type} {fin : T → nR} {pc : Nat} {off : Int} {tgt : Nat} (hd : decode μ.2.2.1 pc = .ok (.goto off, 3)) (ht : (pc : Int) + off = (tgt : Int)) : n_S l w d μ G fin pc (o_goto tgt) := by
  intro go r lv st M hg h
  have h1 := hg _ _ _ _ h
  refine ⟨h1.1, fun p e R s m args below meth c H locs cells slots ls C hP hS hl hz hc hs => ?_⟩
  exact lv_goto C.1 C.2.1 hd ht (h1.2 p e R s m args below meth c H locs cells slots ls C hP hS hl hz hc hs)
abbrev oc_eq {T : Type} (tgt nx : Nat) : nO T := fun go lv st M => match st with
  | .int y :: .int x :: r => if x = y then go tgt lv r M else go nx lv r M
  | _ => none
theorem s_icmp_eq {l : Launch} {w : nW} {d : Nat} {μ : nY} {G : nG} {T : Type} {fin : T → nR} {pc : Nat} {off : Int} {tgt : Nat} (hd : decode μ.2.2.1 pc = .ok (.if_icmp .eq off, 3)) (ht : (pc : Int) + off = (tgt : Int)) : n_S l w d μ G fin pc (oc_eq tgt (pc + 3)) := by
  intro go r lv st M hg h
  unfold oc_eq at h
  split at h
  · rename_i y x rest
    by_cases hy : x = y
    · rw [if_pos hy] at h
      have h1 := hg _ _ _ _ h
      refine ⟨h1.1, fun p e R s m args below meth c H locs cells slots ls C hP hS hl hz hc hs => ?_⟩
      exact lv_icmp_eq C.1 C.2.1 hd ht (fun _ => h1.2 p e R s m args below meth c H locs cells slots ls C hP hS hl hz hc hs) (fun q => absurd hy q)
    · rw [if_neg hy] at h
      have h1 := hg _ _ _ _ h
      refine ⟨h1.1, fun p e R s m args below meth c H locs cells slots ls C hP hS hl hz hc hs => ?_⟩
      exact lv_icmp_eq C.1 C.2.1 hd ht (fun q => absurd q hy) (fun _ => h1.2 p e R s m args below meth c H locs cells slots ls C hP hS hl hz hc hs)
  · cases h
abbrev oc_ne {T : Type} (tgt nx : Nat) : nO T := fun go lv st M => match st with
  | .int y :: .int x :: r => if ¬ x = y then go tgt lv r M else go nx lv r M
  | _ => none
theorem s_icmp_ne {l : Launch} {w : nW} {d : Nat} {μ : nY} {G : nG} {T : Type} {fin : T → nR} {pc : Nat} {off : Int} {tgt : Nat} (hd : decode μ.2.2.1 pc = .ok (.if_icmp .ne off, 3)) (ht : (pc : Int) + off = (tgt : Int)) : n_S l w d μ G fin pc (oc_ne tgt (pc + 3)) := by
  intro go r lv st M hg h
  unfold oc_ne at h
  split at h
  · rename_i y x rest
    by_cases hy : ¬ x = y
    · rw [if_pos hy] at h
      have h1 := hg _ _ _ _ h
      refine ⟨h1.1, fun p e R s m args below meth c H locs cells slots ls C hP hS hl hz hc hs => ?_⟩
      exact lv_icmp_ne C.1 C.2.1 hd ht (fun _ => h1.2 p e R s m args below meth c H locs cells slots ls C hP hS hl hz hc hs) (fun q => absurd hy (fun z => z q))
    · rw [if_neg hy] at h
      have h1 := hg _ _ _ _ h
      refine ⟨h1.1, fun p e R s m args below meth c H locs cells slots ls C hP hS hl hz hc hs => ?_⟩
      exact lv_icmp_ne C.1 C.2.1 hd ht (fun q => absurd q hy) (fun _ => h1.2 p e R s m args below meth c H locs cells slots ls C hP hS hl hz hc hs)
  · cases h
abbrev oc_lt {T : Type} (tgt nx : Nat) : nO T := fun go lv st M => match st with
  | .int y :: .int x :: r => if x < y then go tgt lv r M else go nx lv r M
  | _ => none
theorem s_icmp_lt {l : Launch} {w : nW} {d : Nat} {μ : nY} {G : nG} {T : Type} {fin : T → nR} {pc : Nat} {off : Int} {tgt : Nat} (hd : decode μ.2.2.1 pc = .ok (.if_icmp .lt off, 3)) (ht : (pc : Int) + off = (tgt : Int)) : n_S l w d μ G fin pc (oc_lt tgt (pc + 3)) := by
  intro go r lv st M hg h
  unfold oc_lt at h
  split at h
  · rename_i y x rest
    by_cases hy : x < y
    · rw [if_pos hy] at h
      have h1 := hg _ _ _ _ h
      refine ⟨h1.1, fun p e R s m args below meth c H locs cells slots ls C hP hS hl hz hc hs => ?_⟩
      exact lv_icmp_lt C.1 C.2.1 hd ht (fun _ => h1.2 p e R s m args below meth c H locs cells slots ls C hP hS hl hz hc hs) (fun q => absurd hy q)
    · rw [if_neg hy] at h
      have h1 := hg _ _ _ _ h
      refine ⟨h1.1, fun p e R s m args below meth c H locs cells slots ls C hP hS hl hz hc hs => ?_⟩
      exact lv_icmp_lt C.1 C.2.1 hd ht (fun q => absurd q hy) (fun _ => h1.2 p e R s m args below meth c H locs cells slots ls C hP hS hl hz hc hs)
  · cases h
abbrev oc_ge {T : Type} (tgt nx : Nat) : nO T := fun go lv st M => match st with
  | .int y :: .int x :: r => if y ≤ x then go tgt lv r M else go nx lv r M
  | _ => none
theorem s_icmp_ge {l : Launch} {w : nW} {d : Nat} {μ : nY} {G : nG} {T : Type} {fin : T → nR} {pc : Nat} {off : Int} {tgt : Nat} (hd : decode μ.2.2.1 pc = .ok (.if_icmp .ge off, 3)) (ht : (pc : Int) + off = (tgt : Int)) : n_S l w d μ G fin pc (oc_ge tgt (pc + 3)) := by
  intro go r lv st M hg h
  unfold oc_ge at h
  split at h
  · rename_i y x rest
    by_cases hy : y ≤ x
    · rw [if_pos hy] at h
      have h1 := hg _ _ _ _ h
      refine ⟨h1.1, fun p e R s m args below meth c H locs cells slots ls C hP hS hl hz hc hs => ?_⟩
      exact lv_icmp_ge C.1 C.2.1 hd ht (fun _ => h1.2 p e R s m args below meth c H locs cells slots ls C hP hS hl hz hc hs) (fun q => absurd hy q)
    · rw [if_neg hy] at h
      have h1 := hg _ _ _ _ h
      refine ⟨h1.1, fun p e R s m args below meth c H locs cells slots ls C hP hS hl hz hc hs => ?_⟩
      exact lv_icmp_ge C.1 C.2.1 hd ht (fun q => absurd q hy) (fun _ => h1.2 p e R s m args below meth c H locs cells slots ls C hP hS hl hz hc hs)
  · cases h
abbrev oc_gt {T : Type} (tgt nx : Nat) : nO T := fun go lv st M => match st with
  | .int y :: .int x :: r => if y < x then go tgt lv r M else go nx lv r M
  | _ => none
theorem s_icmp_gt {l : Launch} {w : nW} {d : Nat} {μ : nY} {G : nG} {T : Type} {fin : T → nR} {pc : Nat} {off : Int} {tgt : Nat} (hd : decode μ.2.2.1 pc = .ok (.if_icmp .gt off, 3)) (ht : (pc : Int) + off = (tgt : Int)) : n_S l w d μ G fin pc (oc_gt tgt (pc + 3)) := by
  intro go r lv st M hg h
  unfold oc_gt at h
  split at h
  · rename_i y x rest
    by_cases hy : y < x
    · rw [if_pos hy] at h
      have h1 := hg _ _ _ _ h
      refine ⟨h1.1, fun p e R s m args below meth c H locs cells slots ls C hP hS hl hz hc hs => ?_⟩
      exact lv_icmp_gt C.1 C.2.1 hd ht (fun _ => h1.2 p e R s m args below meth c H locs cells slots ls C hP hS hl hz hc hs) (fun q => absurd hy q)
    · rw [if_neg hy] at h
      have h1 := hg _ _ _ _ h
      refine ⟨h1.1, fun p e R s m args below meth c H locs cells slots ls C hP hS hl hz hc hs => ?_⟩
      exact lv_icmp_gt C.1 C.2.1 hd ht (fun q => absurd q hy) (fun _ => h1.2 p e R s m args below meth c H locs cells slots ls C hP hS hl hz hc hs)
  · cases h
abbrev oc_le {T : Type} (tgt nx : Nat) : nO T := fun go lv st M => match st with
  | .int y :: .int x :: r => if x ≤ y then go tgt lv r M else go nx lv r M
  | _ => none
theorem s_icmp_le {l : Launch} {w : nW} {d : Nat} {μ : nY} {G : nG} {T : Type} {fin : T → nR} {pc : Nat} {off : Int} {tgt : Nat} (hd : decode μ.2.2.1 pc = .ok (.if_icmp .le off, 3)) (ht : (pc : Int) + off = (tgt : Int)) : n_S l w d μ G fin pc (oc_le tgt (pc + 3)) := by
  intro go r lv st M hg h
  unfold oc_le at h
  split at h
  · rename_i y x rest
    by_cases hy : x ≤ y
    · rw [if_pos hy] at h
      have h1 := hg _ _ _ _ h
      refine ⟨h1.1, fun p e R s m args below meth c H locs cells slots ls C hP hS hl hz hc hs => ?_⟩
      exact lv_icmp_le C.1 C.2.1 hd ht (fun _ => h1.2 p e R s m args below meth c H locs cells slots ls C hP hS hl hz hc hs) (fun q => absurd hy q)
    · rw [if_neg hy] at h
      have h1 := hg _ _ _ _ h
      refine ⟨h1.1, fun p e R s m args below meth c H locs cells slots ls C hP hS hl hz hc hs => ?_⟩
      exact lv_icmp_le C.1 C.2.1 hd ht (fun q => absurd q hy) (fun _ => h1.2 p e R s m args below meth c H locs cells slots ls C hP hS hl hz hc hs)
  · cases h
abbrev oi_eq {T : Type} (tgt nx : Nat) : nO T := fun go lv st M => match st with
  | .int x :: r => if x = 0 then go tgt lv r M else go nx lv r M
  | _ => none
theorem s_if_eq {l : Launch} {w : nW} {d : Nat} {μ : nY} {G : nG} {T : Type} {fin : T → nR} {pc : Nat} {off : Int} {tgt : Nat} (hd : decode μ.2.2.1 pc = .ok (.ifCond .eq off, 3)) (ht : (pc : Int) + off = (tgt : Int)) : n_S l w d μ G fin pc (oi_eq tgt (pc + 3)) := by
  intro go r lv st M hg h
  unfold oi_eq at h
  split at h
  · rename_i x rest
    by_cases hy : x = 0
    · rw [if_pos hy] at h
      have h1 := hg _ _ _ _ h
      refine ⟨h1.1, fun p e R s m args below meth c H locs cells slots ls C hP hS hl hz hc hs => ?_⟩
      exact lv_if_eq C.1 C.2.1 hd ht (fun _ => h1.2 p e R s m args below meth c H locs cells slots ls C hP hS hl hz hc hs) (fun q => absurd hy q)
    · rw [if_neg hy] at h
      have h1 := hg _ _ _ _ h
      refine ⟨h1.1, fun p e R s m args below meth c H locs cells slots ls C hP hS hl hz hc hs => ?_⟩
      exact lv_if_eq C.1 C.2.1 hd ht (fun q => absurd q hy) (fun _ => h1.2 p e R s m args below meth c H locs cells slots ls C hP hS hl hz hc hs)
  · cases h
abbrev oi_ne {T : Type} (tgt nx : Nat) : nO T := fun go lv st M => match st with
  | .int x :: r => if ¬ x = 0 then go tgt lv r M else go nx lv r M
  | _ => none
theorem s_if_ne {l : Launch} {w : nW} {d : Nat} {μ : nY} {G : nG} {T : Type} {fin : T → nR} {pc : Nat} {off : Int} {tgt : Nat} (hd : decode μ.2.2.1 pc = .ok (.ifCond .ne off, 3)) (ht : (pc : Int) + off = (tgt : Int)) : n_S l w d μ G fin pc (oi_ne tgt (pc + 3)) := by
  intro go r lv st M hg h
  unfold oi_ne at h
  split at h
  · rename_i x rest
    by_cases hy : ¬ x = 0
    · rw [if_pos hy] at h
      have h1 := hg _ _ _ _ h
      refine ⟨h1.1, fun p e R s m args below meth c H locs cells slots ls C hP hS hl hz hc hs => ?_⟩
      exact lv_if_ne C.1 C.2.1 hd ht (fun _ => h1.2 p e R s m args below meth c H locs cells slots ls C hP hS hl hz hc hs) (fun q => absurd hy (fun z => z q))
    · rw [if_neg hy] at h
      have h1 := hg _ _ _ _ h
      refine ⟨h1.1, fun p e R s m args below meth c H locs cells slots ls C hP hS hl hz hc hs => ?_⟩
      exact lv_if_ne C.1 C.2.1 hd ht (fun q => absurd q hy) (fun _ => h1.2 p e R s m args below meth c H locs cells slots ls C hP hS hl hz hc hs)
  · cases h
abbrev oi_lt {T : Type} (tgt nx : Nat) : nO T := fun go lv st M => match st with
  | .int x :: r => if x < 0 then go tgt lv r M else go nx lv r M
  | _ => none
theorem s_if_lt {l : Launch} {w : nW} {d : Nat} {μ : nY} {G : nG} {T : Type} {fin : T → nR} {pc : Nat} {off : Int} {tgt : Nat} (hd : decode μ.2.2.1 pc = .ok (.ifCond .lt off, 3)) (ht : (pc : Int) + off = (tgt : Int)) : n_S l w d μ G fin pc (oi_lt tgt (pc + 3)) := by
  intro go r lv st M hg h
  unfold oi_lt at h
  split at h
  · rename_i x rest
    by_cases hy : x < 0
    · rw [if_pos hy] at h
      have h1 := hg _ _ _ _ h
      refine ⟨h1.1, fun p e R s m args below meth c H locs cells slots ls C hP hS hl hz hc hs => ?_⟩
      exact lv_if_lt C.1 C.2.1 hd ht (fun _ => h1.2 p e R s m args below meth c H locs cells slots ls C hP hS hl hz hc hs) (fun q => absurd hy q)
    · rw [if_neg hy] at h
      have h1 := hg _ _ _ _ h
      refine ⟨h1.1, fun p e R s m args below meth c H locs cells slots ls C hP hS hl hz hc hs => ?_⟩
      exact lv_if_lt C.1 C.2.1 hd ht (fun q => absurd q hy) (fun _ => h1.2 p e R s m args below meth c H locs cells slots ls C hP hS hl hz hc hs)
  · cases h
abbrev oi_ge {T : Type} (tgt nx : Nat) : nO T := fun go lv st M => match st with
  | .int x :: r => if 0 ≤ x then go tgt lv r M else go nx lv r M
  | _ => none
theorem s_if_ge {l : Launch} {w : nW} {d : Nat} {μ : nY} {G : nG} {T : Type} {fin : T → nR} {pc : Nat} {off : Int} {tgt : Nat} (hd : decode μ.2.2.1 pc = .ok (.ifCond .ge off, 3)) (ht : (pc : Int) + off = (tgt : Int)) : n_S l w d μ G fin pc (oi_ge tgt (pc + 3)) := by
  intro go r lv st M hg h
  unfold oi_ge at h
  split at h
  · rename_i x rest
    by_cases hy : 0 ≤ x
    · rw [if_pos hy] at h
      have h1 := hg _ _ _ _ h
      refine ⟨h1.1, fun p e R s m args below meth c H locs cells slots ls C hP hS hl hz hc hs => ?_⟩
      exact lv_if_ge C.1 C.2.1 hd ht (fun _ => h1.2 p e R s m args below meth c H locs cells slots ls C hP hS hl hz hc hs) (fun q => absurd hy q)
    · rw [if_neg hy] at h
      have h1 := hg _ _ _ _ h
      refine ⟨h1.1, fun p e R s m args below meth c H locs cells slots ls C hP hS hl hz hc hs => ?_⟩
      exact lv_if_ge C.1 C.2.1 hd ht (fun q => absurd q hy) (fun _ => h1.2 p e R s m args below meth c H locs cells slots ls C hP hS hl hz hc hs)
  · cases h
abbrev oi_gt {T : Type} (tgt nx : Nat) : nO T := fun go lv st M => match st with
  | .int x :: r => if 0 < x then go tgt lv r M else go nx lv r M
  | _ => none
theorem s_if_gt {l : Launch} {w : nW} {d : Nat} {μ : nY} {G : nG} {T : Type} {fin : T → nR} {pc : Nat} {off : Int} {tgt : Nat} (hd : decode μ.2.2.1 pc = .ok (.ifCond .gt off, 3)) (ht : (pc : Int) + off = (tgt : Int)) : n_S l w d μ G fin pc (oi_gt tgt (pc + 3)) := by
  intro go r lv st M hg h
  unfold oi_gt at h
  split at h
  · rename_i x rest
    by_cases hy : 0 < x
    · rw [if_pos hy] at h
      have h1 := hg _ _ _ _ h
      refine ⟨h1.1, fun p e R s m args below meth c H locs cells slots ls C hP hS hl hz hc hs => ?_⟩
      exact lv_if_gt C.1 C.2.1 hd ht (fun _ => h1.2 p e R s m args below meth c H locs cells slots ls C hP hS hl hz hc hs) (fun q => absurd hy q)
    · rw [if_neg hy] at h
      have h1 := hg _ _ _ _ h
      refine ⟨h1.1, fun p e R s m args below meth c H locs cells slots ls C hP hS hl hz hc hs => ?_⟩
      exact lv_if_gt C.1 C.2.1 hd ht (fun q => absurd q hy) (fun _ => h1.2 p e R s m args below meth c H locs cells slots ls C hP hS hl hz hc hs)
  · cases h
abbrev oi_le {T : Type} (tgt nx : Nat) : nO T := fun go lv st M => match st with
  | .int x :: r => if x ≤ 0 then go tgt lv r M else go nx lv r M
  | _ => none
theorem s_if_le {l : Launch} {w : nW} {d : Nat} {μ : nY} {G : nG} {T : Type} {fin : T → nR} {pc : Nat} {off : Int} {tgt : Nat} (hd : decode μ.2.2.1 pc = .ok (.ifCond .le off, 3)) (ht : (pc : Int) + off = (tgt : Int)) : n_S l w d μ G fin pc (oi_le tgt (pc + 3)) := by
  intro go r lv st M hg h
  unfold oi_le at h
  split at h
  · rename_i x rest
    by_cases hy : x ≤ 0
    · rw [if_pos hy] at h
      have h1 := hg _ _ _ _ h
      refine ⟨h1.1, fun p e R s m args below meth c H locs cells slots ls C hP hS hl hz hc hs => ?_⟩
      exact lv_if_le C.1 C.2.1 hd ht (fun _ => h1.2 p e R s m args below meth c H locs cells slots ls C hP hS hl hz hc hs) (fun q => absurd hy q)
    · rw [if_neg hy] at h
      have h1 := hg _ _ _ _ h
      refine ⟨h1.1, fun p e R s m args below meth c H locs cells slots ls C hP hS hl hz hc hs => ?_⟩
      exact lv_if_le C.1 C.2.1 hd ht (fun q => absurd q hy) (fun _ => h1.2 p e R s m args below meth c H locs cells slots ls C hP hS hl hz hc hs)
  · cases h
theorem s_pop {l : Launch} {w : nW} {d : Nat} {μ : nY} {G : nG} {T : Type} {fin : T → nR} {pc : Nat} (hd : decode μ.2.2.1 pc = .ok (.pop, 1)) : n_S l w d μ G fin pc (o_pop (pc + 1)) := by
  intro go r lv st M hg h
  unfold o_pop at h
  split at h
  · have h1 := hg _ _ _ _ h
    refine ⟨h1.1, fun p e R s m args below meth c H locs cells slots ls C hP hS hl hz hc hs => ?_⟩
    exact lv_pop C.1 C.2.1 hd (n_tr_cat _ _) (h1.2 p e R s m args below meth c H locs cells slots ls C hP hS hl hz hc hs)
  · have h1 := hg _ _ _ _ h
    refine ⟨h1.1, fun p e R s m args below meth c H locs cells slots ls C hP hS hl hz hc hs => ?_⟩
    exact lv_pop C.1 C.2.1 hd (n_tr_cat _ _) (h1.2 p e R s m args below meth c H locs cells slots ls C hP hS hl hz hc hs)
  · cases h
theorem s_dup {l : Launch} {w : nW} {d : Nat} {μ : nY} {G : nG} {T : Type} {fin : T → nR} {pc : Nat} (hd : decode μ.2.2.1 pc = .ok (.dup, 1)) : n_S l w d μ G fin pc (o_dup (pc + 1)) := by
  intro go r lv st M hg h
  unfold o_dup at h
  split at h
  · have h1 := hg _ _ _ _ h
    refine ⟨h1.1, fun p e R s m args below meth c H locs cells slots ls C hP hS hl hz hc hs => ?_⟩
    exact lv_dup C.1 C.2.1 hd (n_tr_cat _ _) (h1.2 p e R s m args below meth c H locs cells slots ls C hP hS hl hz hc hs)
  · have h1 := hg _ _ _ _ h
    refine ⟨h1.1, fun p e R s m args below meth c H locs cells slots ls C hP hS hl hz hc hs => ?_⟩
    exact lv_dup C.1 C.2.1 hd (n_tr_cat _ _) (h1.2 p e R s m args below meth c H locs cells slots ls C hP hS hl hz hc hs)
  · cases h
theorem s_dup2 {l : Launch} {w : nW} {d : Nat} {μ : nY} {G : nG} {T : Type} {fin : T → nR} {pc : Nat} (hd : decode μ.2.2.1 pc = .ok (.dup2, 1)) : n_S l w d μ G fin pc (o_dup2 (pc + 1)) := by
  intro go r lv st M hg h
  unfold o_dup2 at h
  split at h
  · have h1 := hg _ _ _ _ h
    refine ⟨h1.1, fun p e R s m args below meth c H locs cells slots ls C hP hS hl hz hc hs => ?_⟩
    exact lv_dup2_11 C.1 C.2.1 hd (n_tr_cat _ _) (n_tr_cat _ _) (h1.2 p e R s m args below meth c H locs cells slots ls C hP hS hl hz hc hs)
  · have h1 := hg _ _ _ _ h
    refine ⟨h1.1, fun p e R s m args below meth c H locs cells slots ls C hP hS hl hz hc hs => ?_⟩
    exact lv_dup2_11 C.1 C.2.1 hd (n_tr_cat _ _) (n_tr_cat _ _) (h1.2 p e R s m args below meth c H locs cells slots ls C hP hS hl hz hc hs)
  · cases h
