/-! THE CLAIM OUT OF ONE WALK OF THE LAW'S BODY. Your part is whole_start (and what it stands on); all else here is the same for every law, but numbers. -/
def R_law : String := "SleightHouseLaw"
def lw_P (b : Addr) (xs : List Int32) (args : Array Value) (s : State) : Prop := args = #[.ref b] ∧ s.IntsAt b xs ∧ xs.length ≤ 3072 ∧ (Jvm.Cond.and given_1 narrow_1).before args s = true
def lw_Q (_ : Array Value) (s : State) (o : Outcome) (t : State) : Prop := o = .returned (some (.int 1)) ∧ Framed s o t [] 600000 7302250
def lw_Z (below : List Frame) (a : Array Value) (s : State) : State → Prop := fun t => ∃ o, t.status = .running ∧ Ended t below o ∧ lw_Q a s o t
/-- the law's own end, with 1 on the stack, nothing written that was there before, its room as the claim has it -/
theorem lw_ret {p : Program} {l : Launch} {e : Env} {s : State} {m : MethodId} {below : List Frame} {meth : Method} {c : Code} {b : Nat} (hx : p.tables.exec = Jvm.exec) (hb : c.code = code) (hr : meth.sig.returnType = ret) (hlocks : meth.locks = false) {pc : Nat} {H : Heap} {ls : Array Slot} (hdg : decode code pc = .ok (.ireturn, 1)) : W p l e room_1 s m #[Value.ref b] below meth c H [] 600000 7302250 (lw_Z below #[Value.ref b] s) (F0 m pc ls [.int 1]) := by
  intro T hT X
  obtain ⟨fs, hret, hrun, hended, hW, hframe⟩ := X.leave (v := some (.int 1)) (hlocks := hlocks) (fun h => by rw [hr] at h; cases h)
  have hmeth' : T.vm.method? m = some meth := X.method'
  refine ⟨T.setFrames fs, ?_, .returned (some (.int 1)), hrun, hended, rfl, ⟨_, rfl⟩, hW, hframe⟩
  jvm_step X.here [X.here.top, hx, hb, hdg, hmeth', hr, ret, narrow_b1]
  (try refine ⟨rfl, ?_⟩); (try refine ⟨rfl, ?_⟩)
  first | (intro acts; rw [hret _ acts rfl rfl rfl]) | rw [hret _ _ rfl rfl rfl]
  exact Steps.refl _
/-- what holds at the law's entry: the machine, the code, the tables' words (any of lw_tbl by 'hts w (by decide +kernel)'), the script of L ints xs at the cell b, what the Statement gives of the start (any of its parts by flat_of_before) -/
def lw_At (p : Program) (s : State) (m : MethodId) (meth : Method) (c : Code) (b L : Nat) (xs : Nat → Int32) : Prop :=
  p.tables.exec = Jvm.exec ∧ c.code = code ∧ meth.sig.returnType = ret ∧ c.maxLocals = 4 ∧ s.vm.findClass R_law = some m.cls ∧ (∀ w ∈ lw_tbl, w.before #[Value.ref b] s = true) ∧ va_X b L xs s s.heap ∧ b < s.heap.size ∧ meth.locks = false ∧ (Jvm.Cond.and given_1 narrow_1).before #[Value.ref b] s = true
/-! ===== the script, and the known graph, for the law ===== -/
/-- what is known below: the script -/
def n_PX (w : nW) (L : Nat) (xs : Nat → Int32) : Prop := w.2.2.2.2.2.1 0 ≤ w.1 ∧ ∀ (u : State) (Hu : Heap), w.2.2.2.2.2.2 u Hu → va_X (w.2.2.2.2.2.1 0) L xs u Hu
abbrev o_aloadS {T : Type} (i nx : Nat) : nO T := fun go lv st M => match n_lk lv i with
  | some (.retAddr k) => n_ck (Nat.blt k 20) (go nx lv (.retAddr k :: st) M)
  | _ => none
abbrev o_slen {T : Type} (L nx : Nat) : nO T := fun go lv st M => match st with
  | .retAddr k :: r => n_ck (Nat.beq k 0) (go nx lv (.int (Int32.ofNat L) :: r) M)
  | _ => none
abbrev o_sald {T : Type} (L : Nat) (xs : Nat → Int32) (nx : Nat) : nO T := fun go lv st M => match st with
  | .int i :: .retAddr k :: r => n_ck (Nat.beq k 0) (n_chk (n_ib L i) (go nx lv (.int (xs i.toNatClampNeg) :: r) M))
  | _ => none
theorem s_aloadS {l : Launch} {w : nW} {d : Nat} {μ : nY} {G : nG} {T : Type} {fin : T → nR} {pc : Nat} {k : Fin 4} (hd : decode μ.2.2.1 pc = .ok (.aload_n k, 1)) : n_S l w d μ G fin pc (o_aloadS k.val (pc + 1)) := by
  intro go r lv st M hg h
  unfold o_aloadS at h
  split at h
  · rename_i x hx
    obtain ⟨hb, h9⟩ := n_ck_some h
    have hne : x ≠ 20 := Nat.ne_of_lt (Nat.le_of_ble_eq_true hb)
    have h1 := hg _ _ _ _ h9
    refine ⟨h1.1, fun p e R s m args below meth c H locs cells slots ls C hP hS hl hz hc hs => ?_⟩
    have hat := n_lk_at hl hx
    have h2 := h1.2 p e R s m args below meth c H locs cells slots ls C hP hS hl hz hc hs
    rw [List.map_cons, n_rA_ne hne] at h2
    rw [n_rA_ne hne] at hat
    exact lv_aload_n C.1 C.2.1 hd rfl hat h2
  · cases h
theorem s_slen {l : Launch} {w : nW} {d : Nat} {μ : nY} {G : nG} {T : Type} {fin : T → nR} {pc : Nat} {L : Nat} {xs : Nat → Int32} (hX : n_PX w L xs) (hd : decode μ.2.2.1 pc = .ok (.arraylength, 1)) : n_S l w d μ G fin pc (o_slen L (pc + 1)) := by
  intro go r lv st M hg h
  unfold o_slen at h
  split at h
  · rename_i k rest
    obtain ⟨hb, h⟩ := n_ck_some h
    have hk := n_beq hb
    have h1 := hg _ _ _ _ h
    refine ⟨h1.1, fun p e R s m args below meth c H locs cells slots ls C hP hS hl hz hc hs => ?_⟩
    rw [List.map_cons, hk, n_rA_ne (k := 0) (by omega)]
    exact va_slen C.1 C.2.1 (hX.2 s s.heap C.2.2.2.2.2.2.2.2.1.2.2.2.2) (Nat.lt_of_le_of_lt hX.1 C.2.2.2.2.2.2.2.2.2.1) (Nat.not_lt.mpr hX.1 : ¬ n_A w _) hS hd (h1.2 p e R s m args below meth c H locs cells slots ls C hP hS hl hz hc hs)
  · cases h
theorem s_sald {l : Launch} {w : nW} {d : Nat} {μ : nY} {G : nG} {T : Type} {fin : T → nR} {pc : Nat} {L : Nat} {xs : Nat → Int32} (hX : n_PX w L xs) (hd : decode μ.2.2.1 pc = .ok (.iaload, 1)) : n_S l w d μ G fin pc (o_sald L xs (pc + 1)) := by
  intro go r lv st M hg h
  unfold o_sald at h
  split at h
  · rename_i i k rest
    obtain ⟨hb, h8⟩ := n_ck_some h
    obtain ⟨hi, h9⟩ := n_chk_some h8
    have hk := n_beq hb
    have h1 := hg _ _ _ _ h9
    refine ⟨h1.1, fun p e R s m args below meth c H locs cells slots ls C hP hS hl hz hc hs => ?_⟩
    have hin : vp_in i L := by
      unfold n_ib at hi
      simp only [Bool.and_eq_true, Bool.not_eq_true', decide_eq_false_iff_not] at hi
      intro q
      rcases q with q | q
      · exact hi.1 q
      · have : i.toNatClampNeg < L := Nat.le_of_ble_eq_true hi.2
        omega
    rw [List.map_cons, List.map_cons, hk, n_rA_ne (k := 0) (by omega)]
    exact va_sld C.1 C.2.1 (hX.2 s s.heap C.2.2.2.2.2.2.2.2.1.2.2.2.2) (Nat.lt_of_le_of_lt hX.1 C.2.2.2.2.2.2.2.2.2.1) (Nat.not_lt.mpr hX.1 : ¬ n_A w _) hS hin hd (h1.2 p e R s m args below meth c H locs cells slots ls C hP hS hl hz hc hs)
  · cases h
/-- a static instruction where the graph is the known one -/
noncomputable def n_ig {α : Type} (G : nG) (x : Option α) : Option α := @ite _ (n_GOK G) (Classical.propDecidable _) x none
noncomputable abbrev o_upG {T : Type} (o : nG → nO T) : nD T := fun go lv st h => n_ig h.1 (o h.1 (fun pc lv st M => go pc lv st (h.1, M)) lv st h.2)
theorem s_upG {l : Launch} {w : nW} {d : Nat} {μ : nY} {T : Type} {fin : T → nR} {pc : Nat} {o : nG → nO T} (hs : ∀ G, n_GOK G → n_S l w d μ G fin pc (o G)) : n_Sd l w d μ fin pc (o_upG o) := fun go r lv st h hg hr => by
  by_cases hG : n_GOK h.1
  · unfold o_upG n_ig at hr
    rw [if_pos hG] at hr
    exact hs h.1 hG (fun pc lv st M => go pc lv st (h.1, M)) r lv st h.2 (fun pc' lv' st' M' h' => hg pc' lv' st' (h.1, M') h') hr
  · unfold o_upG n_ig at hr
    rw [if_neg hG] at hr
    cases hr
/-! ===== from the nice machine to the claim ===== -/
def n_h0 : nH := ((0, 0, fun _ => 99, fun _ => 0, fun _ _ => 0), fun _ _ => 0)
def n_mlaw (nm : String) : nY := (R_law, ⟨R_law, nm, "([I)Z"⟩, code, 4, ret)
theorem n_law_end {w : nW} {s t : State} {below : List Frame} {a : Array Value} {r : nR} {k n : Nat} (hr : r.1 = some (.int 1)) (hw : w.1 + 1 = s.heap.size) (hk : k ≤ 600000) (hn : n ≤ 7302250) (h : MQ below (n_Q w r) a s k n (n_A w) t) : lw_Z below a s t := by
  obtain ⟨o, h1, h2, ⟨⟨ho, -, -⟩, -⟩, L, ⟨hv, hW, hsame⟩, hL⟩ := h
  rw [hr] at ho
  refine ⟨o, h1, h2, ho, hv, hW, ?_⟩
  refine State.sameButNew.mono ?_ hk hn
  exact State.sameButNew.drop_fresh (L := []) (J := L) hsame (fun x hx => by
    have : w.1 < x.base := hL x hx
    omega)
theorem n_arr {s : State} {A : Array Value} {ty : FieldType} (h : (Cond.arrayClass ty).before A s = true) (hp : ∀ c, va_RA s c ty = (s.vm.findClass ("[" ++ ty.toString) = some c)) : ∃ c : ClassId, ArrOfT s c ty ∧ va_RA s c ty := by
  obtain ⟨c, k, comp, h1, h2, h3⟩ := Cond.arrayClass_spec h
  exact ⟨c, fun n z => ⟨fun k h => (by cases h), k, h2, comp, h3⟩, by rw [hp]; exact h1⟩
theorem n_arrO {s : State} {A : Array Value} {C : String} (h : (Cond.arrayOver (.object C)).before A s = true) : ∃ c : ClassId, ArrOfT s c (.object C) ∧ va_RA s c (.object C) := by
  obtain ⟨comp, c, k, h1, h2, h3, h4, h5⟩ := Cond.arrayOver_spec h
  exact ⟨c, fun n z => ⟨fun k h => (by cases h), k, h3, comp, h4⟩, k, comp, h3, h4, h1, h5⟩
