/-! ===== the nice machine: cells by small numbers (0: null), ints in M, references and lengths in G ===== -/
abbrev nG : Type := Nat × Nat × (Nat → Nat) × (Nat → Nat) × (Nat → Nat → Nat)
abbrev nM : Type := Nat → Nat → Int32
abbrev nH : Type := nG × nM
abbrev nR : Type := Option Value × nH
abbrev nL : Type := List (Nat × Value)
/-- the last cell that was there before; classes; array classes; what lies below by its number, and what is known of it -/
abbrev nW : Type := Nat × va_G × ClassId × ClassId × ClassId × (Nat → Nat) × (State → Heap → Prop)
abbrev nY : Type := String × MethodName × ByteArray × Nat × Option FieldType
def n_n (G : nG) : Nat := G.1
def n_sl (G : nG) : Nat := G.2.1
def n_kd (G : nG) (a : Nat) : Nat := G.2.2.1 a
def n_len (G : nG) (a : Nat) : Nat := G.2.2.2.1 a
def n_mr (G : nG) (a k : Nat) : Nat := G.2.2.2.2 a k
def n_up (M : nM) (a k : Nat) (v : Int32) : nM := fun b => if b = a then upd (M a) k v else M b
def n_C (ci : Nat) : vw_C := vwCl.getD ci ("", fun _ => ("", "", "", false), 0)
def n_ty (ci : Nat) : Nat → FieldType := match ci with
  | 0 => tyX0
  | 1 => tyX1
  | 2 => tyX2
  | 3 => tyX3
  | 4 => tyX4
  | 5 => tyX5
  | 6 => tyX6
  | 7 => tyX7
  | 8 => tyX8
  | 9 => tyX9
  | 10 => tyX10
  | 11 => tyX11
  | _ => tyX12
def n_isR (t : FieldType) : Bool := match t with
  | .object _ => true
  | .array _ => true
  | _ => false
def n_N (ci : Nat) : Nat := (n_C ci).2.2
def n_rf (b a : Nat) : Option Nat := if a = 0 then none else some (b + a)
/-- what lies below, by its number; number 20 may be null: then 0 stands for null, and one more than its address else -/
def n_rA (sp : Nat → Nat) (k : Nat) : Value := if k = 20 then (if sp 20 = 0 then .null else .ref (sp 20 - 1)) else .ref (sp k)
def n_tr (w : nW) (v : Value) : Value := match v with
  | .ref a => va_rf (n_rf w.1 a)
  | .retAddr k => n_rA w.2.2.2.2.2.1 k
  | v => v
theorem n_rA_ne {w : nW} {k : Nat} (h : k ≠ 20) : n_tr w (.retAddr k) = .ref (w.2.2.2.2.2.1 k) := if_neg h
def n_trL (w : nW) (lv : nL) : nL := lv.map fun q => (q.1, n_tr w q.2)
def n_fs (b : Nat) (h : nH) (ci a : Nat) : List Value := (List.range (n_N ci)).map fun k => if n_isR (n_ty ci k) = true then va_rf (n_rf b (n_mr h.1 a k)) else .int (h.2 a k)
def n_cell (w : nW) (h : nH) (a : Nat) : va_E :=
  if n_kd h.1 a = 13 then .inl (w.2.2.1, n_len h.1 a, .inl (h.2 a))
  else if n_kd h.1 a = 14 then .inl (w.2.2.2.1, n_len h.1 a, .inl (h.2 a))
  else if n_kd h.1 a = 15 then .inl (w.2.2.2.2.1, n_len h.1 a, .inr (.inr (.inr (.inr (fun i => n_rf w.1 (n_mr h.1 a i))))))
  else .inr (n_kd h.1 a, n_fs w.1 h (n_kd h.1 a) a)
def n_ws (w : nW) (h : nH) : va_W := (List.range (n_n h.1)).map fun i => (w.1 + (i + 1), n_cell w h (i + 1))
def n_P (w : nW) (h : nH) (H : Heap) : Prop := (∀ a, n_kd h.1 a ≤ 15 → 1 ≤ a ∧ a ≤ n_n h.1) ∧ va_P w.2.1 vwCl (n_ws w h) H
def n_tys (w : nW) : List (ClassId × FieldType) := [(w.2.2.1, .byte), (w.2.2.2.1, .int), (w.2.2.2.2.1, .object RX4)]
def n_A (w : nW) : Nat → Prop := fun q => w.1 < q
/-- what is known of what lies below stays known -/
def n_cl (w : nW) : Prop := ∀ (u U : State) (Hu HU : Heap), (u.WarmedH U.vm ∨ u.vm = U.vm) → (∀ q : Nat, q < Hu.size → ¬ n_A w q → HU[q]? = Hu[q]?) → w.2.2.2.2.2.2 u Hu → w.2.2.2.2.2.2 U HU
def n_nest : List Cond := [.methodLinkNest RX11 9 yX1_init RX11, .methodLinkNest RX1 38 yX3_init RX11, .methodLinkNest RX6 34 yX3_init RX11, .methodLinkNest RX11 69 yX2_init RX11]
def n_K (w : nW) (U : State) : Prop := va_K w.2.1 vwCl (n_tys w) U ∧ va_AO RX4 U ∧ (∀ x ∈ n_nest, va_Nw x U) ∧ n_cl w ∧ w.2.2.2.2.2.2 U U.heap
def n_Q (w : nW) (r : nR) : Array Value → State → Outcome → State → Prop := fun _ st oc t => (oc = .returned (r.1.map (n_tr w)) ∧ n_P w r.2 t.heap ∧ n_K w t) ∧ va_F (n_A w) st t
/-- what stands around a method's body -/
def n_Cx (w : nW) (d : Nat) (μ : nY) (p : Program) (R : Room) (s : State) (m : MethodId) (args : Array Value) (meth : Method) (c : Code) : Prop :=
  p.tables.exec = Jvm.exec ∧ c.code = μ.2.2.1 ∧ meth.sig.returnType = μ.2.2.2.2 ∧ c.maxLocals = μ.2.2.2.1 ∧ s.vm.findClass μ.1 = some m.cls ∧ meth.locks = false ∧ meth.name = μ.2.1.name ∧ (∀ x ∈ lw_good, x.before args s = true) ∧ n_K w s ∧ w.1 < s.heap.size ∧ d + 1 ≤ R.frames ∧ 60 * (d + 1) ≤ R.locals
/-- the machine at pc, with these locals, this stack and heap, comes to the method's end with r -/
def n_At (l : Launch) (w : nW) (d : Nat) (μ : nY) (pc : Nat) (lv : nL) (st : List Value) (h : nH) (r : nR) : Prop :=
  (n_n h.1 ≤ n_n r.2.1 ∧ n_sl h.1 ≤ n_sl r.2.1) ∧ ∀ (p : Program) (e : Env) (R : Room) (s : State) (m : MethodId) (args : Array Value) (below : List Frame) (meth : Method) (c : Code) (H : Heap) (locs : List Loc) (cells slots : Nat) (ls : Array Slot),
    n_Cx w d μ p R s m args meth c → n_P w h H → va_S (n_A w) s.heap H locs → lv_has ls μ.2.2.2.1 (n_trL w lv) → w.1 + 1 + n_n h.1 = s.heap.size + cells → cells + (n_n r.2.1 - n_n h.1) ≤ R.cells → slots + (n_sl r.2.1 - n_sl h.1) ≤ R.slots →
    W p l e R s m args below meth c H locs cells slots (MQ below (n_Q w r) args s (cells + (n_n r.2.1 - n_n h.1)) (slots + (n_sl r.2.1 - n_sl h.1)) (n_A w)) (F0 m pc ls (st.map (n_tr w)))
def n_rm (d k n : Nat) : Room := { frames := d + 1, cells := k, slots := n, locals := 60 * (d + 1) }
def n_wsm (μ : nY) : List Cond := .code μ.2.1 μ.2.2.1 μ.2.2.2.1 μ.2.2.2.2 :: lw_good
/-- a method's contract: from these arguments and this heap to r -/
def n_Met (l : Launch) (w : nW) (d : Nat) (μ : nY) (as : List Value) (h : nH) (r : nR) : Prop :=
  (n_n h.1 ≤ n_n r.2.1 ∧ n_sl h.1 ≤ n_sl r.2.1) ∧ Met l μ.2.1 (n_wsm μ) (n_rm d (n_n r.2.1 - n_n h.1) (n_sl r.2.1 - n_sl h.1)) (va_Pc (as.map (n_tr w)) (fun U => n_P w h U.heap ∧ n_K w U ∧ U.heap.size = w.1 + 1 + n_n h.1)) (n_Q w r) (n_n r.2.1 - n_n h.1) (n_sl r.2.1 - n_sl h.1) (n_A w)
theorem n_W_sz {p : Program} {l : Launch} {e : Env} {R : Room} {s : State} {m : MethodId} {args : Array Value} {below : List Frame} {meth : Method} {c : Code} {H : Heap} {locs : List Loc} {cells slots : Nat} {Q : State → Prop} {g : JFrame}
    (k : H.size ≤ s.heap.size + cells → W p l e R s m args below meth c H locs cells slots Q g) : W p l e R s m args below meth c H locs cells slots Q g := fun T hT X => k (by rw [← hT]; exact X.same.2.2.1) T hT X
theorem n_ws_get {w : nW} {h : nH} {a : Nat} (h1 : 1 ≤ a) (h2 : a ≤ n_n h.1) : (n_ws w h)[a - 1]? = some (w.1 + a, n_cell w h a) := by
  unfold n_ws
  rw [List.getElem?_map, List.getElem?_range (by omega)]
  simp only [Option.map_some]
  rw [show a - 1 + 1 = a by omega]
theorem n_ws_len {w : nW} {h : nH} : (n_ws w h).length = n_n h.1 := by simp [n_ws]
theorem n_ws_inv {w : nW} {h : nH} {k : Nat} {q : Nat × va_E} (hk : (n_ws w h)[k]? = some q) : k < n_n h.1 ∧ q = (w.1 + (k + 1), n_cell w h (k + 1)) := by
  have hl : k < (n_ws w h).length := (List.getElem?_eq_some_iff.mp hk).1
  rw [n_ws_len] at hl
  have := n_ws_get (w := w) (h := h) (a := k + 1) (by omega) (by omega)
  rw [show k + 1 - 1 = k by omega, hk] at this
  exact ⟨hl, Option.some.inj this⟩
theorem n_D (w : nW) (h : nH) : va_D (n_A w) (n_ws w h) := by
  refine ⟨fun i j p q hi hj e => ?_, fun k q hk => ?_⟩
  · have a := n_ws_inv hi
    have b := n_ws_inv hj
    rw [a.2, b.2] at e
    simp only at e
    omega
  · have a := n_ws_inv hk
    rw [a.2]
    show w.1 < w.1 + (k + 1)
    omega
/-- the heap's size, by what is counted -/
theorem n_size {w : nW} {h : nH} {s : State} {H : Heap} {locs : List Loc} {cells : Nat} (hw : w.1 < s.heap.size) (hP : n_P w h H) (hS : va_S (n_A w) s.heap H locs) (hz : w.1 + 1 + n_n h.1 = s.heap.size + cells) (hu : H.size ≤ s.heap.size + cells) : H.size = w.1 + 1 + n_n h.1 := by
  have h1 := hS.1
  by_cases h0 : n_n h.1 = 0
  · omega
  · have h2 := (hP.2 _ _ (n_ws_get (w := w) (h := h) (a := n_n h.1) (by omega) (Nat.le_refl _))).lt
    simp only at h2
    omega
theorem n_ws_set {w : nW} {h h' : nH} {a : Nat} {x : va_E} (ha1 : 1 ≤ a) (ha2 : a ≤ n_n h.1) (hn : n_n h'.1 = n_n h.1) (hx : n_cell w h' a = x) (ho : ∀ b, b ≠ a → n_cell w h' b = n_cell w h b) : (n_ws w h).set (a - 1) (w.1 + a, x) = n_ws w h' := by
  apply List.ext_getElem?
  intro k
  by_cases hk : k = a - 1
  · subst hk
    rw [List.getElem?_set_self (by rw [n_ws_len]; omega), n_ws_get ha1 (by omega), hx]
  · rw [List.getElem?_set_ne (fun e => hk e.symm)]
    by_cases hl : k < n_n h.1
    · have e1 := n_ws_get (w := w) (h := h) (a := k + 1) (by omega) (by omega)
      have e2 := n_ws_get (w := w) (h := h') (a := k + 1) (by omega) (by omega)
      rw [show k + 1 - 1 = k by omega] at e1 e2
      rw [e1, e2, ho (k + 1) (by omega)]
    · rw [List.getElem?_eq_none (by rw [n_ws_len]; omega), List.getElem?_eq_none (by rw [n_ws_len]; omega)]
def n_chk {α : Type} (b : Bool) (x : Option α) : Option α := match b with
  | true => x
  | false => none
theorem n_chk_some {α : Type} {b : Bool} {x : Option α} {r : α} (h : n_chk b x = some r) : b = true ∧ x = some r := by
  cases b with
  | true => exact ⟨rfl, h⟩
  | false => cases h
/-- a check on what is known when the code is read: it is gone when it holds -/
abbrev n_ck {α : Type} (b : Bool) (x : Option α) : Option α := match b with
  | true => x
  | false => none
theorem n_ck_some {α : Type} {b : Bool} {x : Option α} {r : α} (h : n_ck b x = some r) : b = true ∧ x = some r := by
  cases b with
  | true => exact ⟨rfl, h⟩
  | false => cases h
abbrev n_lk : nL → Nat → Option Value
  | [], _ => none
  | (k, x) :: t, i => match Nat.beq k i with
    | true => some x
    | false => n_lk t i
theorem n_lk_mem {lv : nL} {i : Nat} {v : Value} (h : n_lk lv i = some v) : (i, v) ∈ lv := by
  induction lv with
  | nil => cases h
  | cons q t ih =>
    obtain ⟨k, x⟩ := q
    unfold n_lk at h
    cases hb : Nat.beq k i with
    | true =>
      rw [hb] at h
      have := Nat.eq_of_beq_eq_true hb
      cases h
      subst this
      exact List.mem_cons_self
    | false =>
      rw [hb] at h
      exact List.mem_cons_of_mem _ (ih h)
theorem n_lk_at {w : nW} {ls : Array Slot} {nL0 : Nat} {lv : nL} {i : Nat} {v : Value} (hl : lv_has ls nL0 (n_trL w lv)) (h : n_lk lv i = some v) : ls[i]? = some (.val (n_tr w v)) :=
  hl.2.2 (i, n_tr w v) (List.mem_map.mpr ⟨(i, v), n_lk_mem h, rfl⟩)
abbrev n_c2 (v : Value) : Bool := match v with
  | .long _ => true
  | .double _ => true
  | _ => false
/-- what stays when the local i is set -/
abbrev n_rv (i : Nat) : nL → nL
  | [] => []
  | (k, x) :: t => match Nat.beq k i with
    | true => n_rv i t
    | false => match n_c2 x with
      | false => (k, x) :: n_rv i t
      | true => match Nat.beq (k + 1) i with
        | true => n_rv i t
        | false => (k, x) :: n_rv i t
theorem n_bb (a b : Nat) : (a == b) = Nat.beq a b := by
  rw [Bool.eq_iff_iff, Nat.beq_eq]
  simp
theorem n_rv_eq (i : Nat) : ∀ (lv : nL), n_rv i lv = lv.filter (fun q => !(q.1 == i) && !(q.1 + 1 == i && q.2.category == 2))
  | [] => rfl
  | (k, x) :: t => by
    have ih := n_rv_eq i t
    have hc : (x.category == 2) = n_c2 x := by cases x <;> rfl
    have hb1 := n_bb k i
    have hb2 := n_bb (k + 1) i
    unfold n_rv
    rw [List.filter_cons]
    simp only [hc, hb1, hb2, ih]
    cases Nat.beq k i <;> cases n_c2 x <;> cases Nat.beq (k + 1) i <;> rfl
abbrev n_st (i : Nat) (v : Value) (lv : nL) : nL := (i, v) :: n_rv i lv
def n_st2 (i : Nat) (v : Value) (lv : nL) : nL := (i, v) :: lv.filter (fun q => !(q.1 == i) && (!(q.1 == i + 1) && !(q.1 + 1 == i && q.2.category == 2)))
theorem n_tr_cat (w : nW) (v : Value) : (n_tr w v).category = v.category := by
  cases v with
  | ref a => unfold n_tr n_rf; by_cases h : a = 0 <;> simp [h, va_rf, Value.category]
  | retAddr k =>
    show (n_rA _ k).category = _
    unfold n_rA
    split
    · split <;> rfl
    · rfl
  | _ => rfl
theorem n_trL_st (w : nW) (i : Nat) (v : Value) (lv : nL) : (i, n_tr w v) :: (n_trL w lv).filter (fun q => !(q.1 == i) && !(q.1 + 1 == i && q.2.category == 2)) = n_trL w (n_st i v lv) := by
  unfold n_trL n_st
  rw [n_rv_eq, List.map_cons, List.filter_map]
  simp only [Function.comp_def, n_tr_cat]
theorem n_trL_st2 (w : nW) (i : Nat) (v : Value) (lv : nL) : (i, n_tr w v) :: (n_trL w lv).filter (fun q => !(q.1 == i) && (!(q.1 == i + 1) && !(q.1 + 1 == i && q.2.category == 2))) = n_trL w (n_st2 i v lv) := by
  unfold n_trL n_st2
  rw [List.map_cons, List.filter_map]
  simp only [Function.comp_def, n_tr_cat]
abbrev nO (T : Type) : Type := (Nat → nL → List Value → nM → Option T) → nL → List Value → nM → Option T
/-- an instruction's meaning is the machine's -/
def n_S (l : Launch) (w : nW) (d : Nat) (μ : nY) (G : nG) {T : Type} (fin : T → nR) (pc : Nat) (op : nO T) : Prop :=
  ∀ (go : Nat → nL → List Value → nM → Option T) (r : T) (lv : nL) (st : List Value) (M : nM), (∀ (pc' : Nat) (lv' : nL) (st' : List Value) (M' : nM), go pc' lv' st' M' = some r → n_At l w d μ pc' lv' st' (G, M') (fin r)) → op go lv st M = some r → n_At l w d μ pc lv st (G, M) (fin r)
abbrev o_push {T : Type} (v : Value) (nx : Nat) : nO T := fun go lv st M => go nx lv (v :: st) M
abbrev o_iload {T : Type} (i nx : Nat) : nO T := fun go lv st M => match n_lk lv i with
  | some (.int x) => go nx lv (.int x :: st) M
  | _ => none
abbrev o_aload {T : Type} (i nx : Nat) : nO T := fun go lv st M => match n_lk lv i with
  | some (.ref x) => go nx lv (.ref x :: st) M
  | _ => none
abbrev o_lload {T : Type} (i nx : Nat) : nO T := fun go lv st M => match n_lk lv i with
  | some (.long x) => go nx lv (.long x :: st) M
  | _ => none
abbrev o_istore {T : Type} (nl i nx : Nat) : nO T := fun go lv st M => match st with
  | .int x :: r => n_ck (Nat.blt i nl) (go nx (n_st i (.int x) lv) r M)
  | _ => none
abbrev o_astore {T : Type} (nl i nx : Nat) : nO T := fun go lv st M => match st with
  | .ref x :: r => n_ck (Nat.blt i nl) (go nx (n_st i (.ref x) lv) r M)
  | _ => none
abbrev o_lstore {T : Type} (nl i nx : Nat) : nO T := fun go lv st M => match st with
  | .long x :: r => n_ck (Nat.blt (i + 1) nl) (go nx (n_st2 i (.long x) lv) r M)
  | _ => none
abbrev o_inc {T : Type} (nl i : Nat) (n : Int32) (nx : Nat) : nO T := fun go lv st M => match n_lk lv i with
  | some (.int x) => n_ck (Nat.blt i nl) (go nx (n_st i (.int (x + n)) lv) st M)
  | _ => none
abbrev o_goto {T : Type} (tgt : Nat) : nO T := fun go lv st M => go tgt lv st M
abbrev o_pop {T : Type} (nx : Nat) : nO T := fun go lv st M => match st with
  | .int _ :: r => go nx lv r M
  | .ref _ :: r => go nx lv r M
  | _ => none
abbrev o_dup {T : Type} (nx : Nat) : nO T := fun go lv st M => match st with
  | .int x :: r => go nx lv (.int x :: .int x :: r) M
  | .ref x :: r => go nx lv (.ref x :: .ref x :: r) M
  | _ => none
abbrev o_dup2 {T : Type} (nx : Nat) : nO T := fun go lv st M => match st with
  | .int y :: .ref x :: r => go nx lv (.int y :: .ref x :: .int y :: .ref x :: r) M
  | .int y :: .int x :: r => go nx lv (.int y :: .int x :: .int y :: .int x :: r) M
  | _ => none
abbrev o_getI {T : Type} (G : nG) (ci k nx : Nat) : nO T := fun go lv st M => match st with
  | .ref a :: r => n_chk (Nat.beq (n_kd G a) ci) (go nx lv (.int (M a k) :: r) M)
  | _ => none
abbrev o_getR {T : Type} (G : nG) (ci k nx : Nat) : nO T := fun go lv st M => match st with
  | .ref a :: r => n_chk (Nat.beq (n_kd G a) ci) (go nx lv (.ref (n_mr G a k) :: r) M)
  | _ => none
abbrev o_putI {T : Type} (G : nG) (ci k nx : Nat) : nO T := fun go lv st M => match st with
  | .int v :: .ref a :: r => n_chk (Nat.beq (n_kd G a) ci) (go nx lv r (n_up M a k v))
  | _ => none
abbrev o_putZ {T : Type} (G : nG) (ci k nx : Nat) : nO T := fun go lv st M => match st with
  | .int v :: .ref a :: r => n_chk (Nat.beq (n_kd G a) ci && (v == 0 || v == 1)) (go nx lv r (n_up M a k v))
  | _ => none
def n_in (G : nG) (t a : Nat) (i : Int32) : Bool := Nat.beq (n_kd G a) t && (!decide (i < 0) && Nat.blt i.toNatClampNeg (n_len G a))
abbrev o_ald {T : Type} (G : nG) (t nx : Nat) : nO T := fun go lv st M => match st with
  | .int i :: .ref a :: r => n_chk (n_in G t a i) (go nx lv (.int (M a i.toNatClampNeg) :: r) M)
  | _ => none
abbrev o_aald {T : Type} (G : nG) (nx : Nat) : nO T := fun go lv st M => match st with
  | .int i :: .ref a :: r => n_chk (n_in G 15 a i) (go nx lv (.ref (n_mr G a i.toNatClampNeg) :: r) M)
  | _ => none
abbrev o_alen {T : Type} (G : nG) (t nx : Nat) : nO T := fun go lv st M => match st with
  | .ref a :: r => n_chk (Nat.beq (n_kd G a) t) (go nx lv (.int (Int32.ofNat (n_len G a)) :: r) M)
  | _ => none
abbrev o_iret : nO (Int32 × nM) := fun _ _ st M => match st with
  | [.int v] => some (v, M)
  | _ => none
abbrev o_zret : nO (Int32 × nM) := fun _ _ st M => match st with
  | [.int v] => n_chk (v == 0 || v == 1) (some (v, M))
  | _ => none
abbrev o_vret : nO (Unit × nM) := fun _ _ st M => match st with
  | [] => some ((), M)
  | _ => none
abbrev o_lret : nO (Int64 × nM) := fun _ _ st M => match st with
  | [.long v] => some (v, M)
  | _ => none
abbrev o_aret : nO (Nat × nM) := fun _ _ st M => match st with
  | [.ref v] => some (v, M)
  | _ => none
abbrev dv_i (x : Int32) : Option Value := some (.int x)
abbrev dv_l (x : Int64) : Option Value := some (.long x)
abbrev dv_r (x : Nat) : Option Value := some (.ref x)
abbrev dv_v (_ : Unit) : Option Value := none
abbrev n_fin {T : Type} (dv : T → Option Value) (G : nG) : T × nM → nR := fun r => (dv r.1, (G, r.2))
