/-! THE CLAIM OUT OF ONE WALK OF THE LAW'S BODY. Your part is whole_start (and what it stands on); all else here is the same for every law, but numbers. -/
def R_law : String := "SleightHouseLaw"
def lw_P (b : Addr) (xs : List Int32) (args : Array Value) (s : State) : Prop := args = #[.ref b] ∧ s.IntsAt b xs ∧ xs.length ≤ 3072 ∧ (Jvm.Cond.and given_1 narrow_1).before args s = true
def lw_Q (_ : Array Value) (s : State) (o : Outcome) (t : State) : Prop := o = .returned (some (.int 1)) ∧ Framed s o t [] 600000 7302250
def lw_Z (below : List Frame) (a : Array Value) (s : State) : State → Prop := fun t => ∃ o, t.status = .running ∧ Ended t below o ∧ lw_Q a s o t
/-- the law's own end, with 1 on the stack, nothing written that was there before, its room as the claim has it -/
theorem lw_ret {p : Program} {l : Launch} {e : Env} {s : State} {m : MethodId} {below : List Frame} {meth : Method} {c : Code} {b : Nat} (hx : p.tables.exec = Jvm.exec) (hb : c.code = code) (hr : meth.sig.returnType = ret) (hlocks : meth.locks = false) {pc : Nat} {H : Heap} {ls : Array Slot} (hdg : decode code pc = .ok (.ireturn, 1)) : W p l e room_1 s m #[Value.ref b] below meth c H [] 600000 7302250 (lw_Z below #[Value.ref b] s) (F0 m pc ls [.int 1]) := by
  intro T hT X
  obtain ⟨fs, hret, hrun, hended, hW, hframe⟩ := X.leave (v := some (.int 1)) (hlocks := hlocks) (fun h => by rw [hr] at h; cases h)
  have hmeth' : T.vm.method? m = some meth := X.method'
  refine ⟨T.setFrames fs, ?_, .returned (some (.int 1)), hrun, hended, rfl, ⟨_, rfl⟩, hW, hframe⟩
  jvm_step X.here [X.here.top, hx, hb, hdg, hmeth', hr, ret, narrow_b1]
  (try refine ⟨rfl, ?_⟩); (try refine ⟨rfl, ?_⟩)
  first | (intro acts; rw [hret _ acts rfl rfl rfl]) | rw [hret _ _ rfl rfl rfl]
  exact Steps.refl _
/-- what holds at the law's entry: the machine, the code, the tables' words (any of lw_tbl by 'hts w (by decide +kernel)'), the script of L ints xs at the cell b, what the Statement gives of the start (any of its parts by flat_of_before) -/
def lw_At (p : Program) (s : State) (m : MethodId) (meth : Method) (c : Code) (b L : Nat) (xs : Nat → Int32) : Prop :=
  p.tables.exec = Jvm.exec ∧ c.code = code ∧ meth.sig.returnType = ret ∧ c.maxLocals = 4 ∧ s.vm.findClass R_law = some m.cls ∧ (∀ w ∈ lw_tbl, w.before #[Value.ref b] s = true) ∧ va_X b L xs s s.heap ∧ b < s.heap.size ∧ meth.locks = false ∧ (Jvm.Cond.and given_1 narrow_1).before #[Value.ref b] s = true
/-! ===== the script, and the known graph, for the law ===== -/
/-- what is known below: the script -/
def n_PX (w : nW) (L : Nat) (xs : Nat → Int32) : Prop := w.2.2.2.2.2.1 0 ≤ w.1 ∧ ∀ (u : State) (Hu : Heap), w.2.2.2.2.2.2 u Hu → va_X (w.2.2.2.2.2.1 0) L xs u Hu
abbrev o_aloadS {T : Type} (i nx : Nat) : nO T := fun go lv st M => match n_lk lv i with
  | some (.retAddr k) => go nx lv (.retAddr k :: st) M
  | _ => none
abbrev o_slen {T : Type} (L nx : Nat) : nO T := fun go lv st M => match st with
  | .retAddr k :: r => n_ck (Nat.beq k 0) (go nx lv (.int (Int32.ofNat L) :: r) M)
  | _ => none
abbrev o_sald {T : Type} (L : Nat) (xs : Nat → Int32) (nx : Nat) : nO T := fun go lv st M => match st with
  | .int i :: .retAddr k :: r => n_ck (Nat.beq k 0) (n_chk (n_ib L i) (go nx lv (.int (xs i.toNatClampNeg) :: r) M))
  | _ => none
theorem s_aloadS {l : Launch} {w : nW} {d : Nat} {μ : nY} {G : nG} {T : Type} {fin : T → nR} {pc : Nat} {k : Fin 4} (hd : decode μ.2.2.1 pc = .ok (.aload_n k, 1)) : n_S l w d μ G fin pc (o_aloadS k.val (pc + 1)) := by
  intro go r lv st M hg h
  unfold o_aloadS at h
  split at h
  · rename_i x hx
    have h1 := hg _ _ _ _ h
    refine ⟨h1.1, fun p e R s m args below meth c H locs cells slots ls C hP hS hl hz hc hs => ?_⟩
    exact lv_aload_n C.1 C.2.1 hd rfl (n_lk_at hl hx) (h1.2 p e R s m args below meth c H locs cells slots ls C hP hS hl hz hc hs)
  · cases h
theorem s_slen {l : Launch} {w : nW} {d : Nat} {μ : nY} {G : nG} {T : Type} {fin : T → nR} {pc : Nat} {L : Nat} {xs : Nat → Int32} (hX : n_PX w L xs) (hd : decode μ.2.2.1 pc = .ok (.arraylength, 1)) : n_S l w d μ G fin pc (o_slen L (pc + 1)) := by
  intro go r lv st M hg h
  unfold o_slen at h
  split at h
  · rename_i k rest
    obtain ⟨hb, h⟩ := n_ck_some h
    have hk := n_beq hb
    have h1 := hg _ _ _ _ h
    refine ⟨h1.1, fun p e R s m args below meth c H locs cells slots ls C hP hS hl hz hc hs => ?_⟩
    rw [List.map_cons, hk]
    exact va_slen C.1 C.2.1 (hX.2 s s.heap C.2.2.2.2.2.2.2.2.1.2.2.2.2) (Nat.lt_of_le_of_lt hX.1 C.2.2.2.2.2.2.2.2.2.1) (Nat.not_lt.mpr hX.1 : ¬ n_A w _) hS hd (h1.2 p e R s m args below meth c H locs cells slots ls C hP hS hl hz hc hs)
  · cases h
theorem s_sald {l : Launch} {w : nW} {d : Nat} {μ : nY} {G : nG} {T : Type} {fin : T → nR} {pc : Nat} {L : Nat} {xs : Nat → Int32} (hX : n_PX w L xs) (hd : decode μ.2.2.1 pc = .ok (.iaload, 1)) : n_S l w d μ G fin pc (o_sald L xs (pc + 1)) := by
  intro go r lv st M hg h
  unfold o_sald at h
  split at h
  · rename_i i k rest
    obtain ⟨hb, h8⟩ := n_ck_some h
    obtain ⟨hi, h9⟩ := n_chk_some h8
    have hk := n_beq hb
    have h1 := hg _ _ _ _ h9
    refine ⟨h1.1, fun p e R s m args below meth c H locs cells slots ls C hP hS hl hz hc hs => ?_⟩
    have hin : vp_in i L := by
      unfold n_ib at hi
      simp only [Bool.and_eq_true, Bool.not_eq_true', decide_eq_false_iff_not] at hi
      intro q
      rcases q with q | q
      · exact hi.1 q
      · have : i.toNatClampNeg < L := Nat.le_of_ble_eq_true hi.2
        omega
    rw [List.map_cons, List.map_cons, hk]
    exact va_sld C.1 C.2.1 (hX.2 s s.heap C.2.2.2.2.2.2.2.2.1.2.2.2.2) (Nat.lt_of_le_of_lt hX.1 C.2.2.2.2.2.2.2.2.2.1) (Nat.not_lt.mpr hX.1 : ¬ n_A w _) hS hin hd (h1.2 p e R s m args below meth c H locs cells slots ls C hP hS hl hz hc hs)
  · cases h
/-- a static instruction where the graph is the known one -/
noncomputable def n_ig {α : Type} (G : nG) (x : Option α) : Option α := @ite _ (n_GOK G) (Classical.propDecidable _) x none
noncomputable abbrev o_upG {T : Type} (o : nG → nO T) : nD T := fun go lv st h => n_ig h.1 (o h.1 (fun pc lv st M => go pc lv st (h.1, M)) lv st h.2)
theorem s_upG {l : Launch} {w : nW} {d : Nat} {μ : nY} {T : Type} {fin : T → nR} {pc : Nat} {o : nG → nO T} (hs : ∀ G, n_GOK G → n_S l w d μ G fin pc (o G)) : n_Sd l w d μ fin pc (o_upG o) := fun go r lv st h hg hr => by
  by_cases hG : n_GOK h.1
  · unfold o_upG n_ig at hr
    rw [if_pos hG] at hr
    exact hs h.1 hG (fun pc lv st M => go pc lv st (h.1, M)) r lv st h.2 (fun pc' lv' st' M' h' => hg pc' lv' st' (h.1, M') h') hr
  · unfold o_upG n_ig at hr
    rw [if_neg hG] at hr
    cases hr
/-! ===== from the nice machine to the claim ===== -/
def n_h0 : nH := ((0, 0, fun _ => 99, fun _ => 0, fun _ _ => 0), fun _ _ => 0)
def n_mlaw (nm : String) : nY := (R_law, ⟨R_law, nm, "([I)Z"⟩, code, 4, ret)
theorem n_law_end {w : nW} {s t : State} {below : List Frame} {a : Array Value} {r : nR} {k n : Nat} (hr : r.1 = some (.int 1)) (hw : w.1 + 1 = s.heap.size) (hk : k ≤ 600000) (hn : n ≤ 7302250) (h : MQ below (n_Q w r) a s k n (n_A w) t) : lw_Z below a s t := by
  obtain ⟨o, h1, h2, ⟨⟨ho, -, -⟩, -⟩, L, ⟨hv, hW, hsame⟩, hL⟩ := h
  rw [hr] at ho
  refine ⟨o, h1, h2, ho, hv, hW, ?_⟩
  refine State.sameButNew.mono ?_ hk hn
  exact State.sameButNew.drop_fresh (L := []) (J := L) hsame (fun x hx => by
    have : w.1 < x.base := hL x hx
    omega)
theorem n_arr {s : State} {A : Array Value} {ty : FieldType} (h : (Cond.arrayClass ty).before A s = true) (hp : ∀ c, va_RA s c ty = (s.vm.findClass ("[" ++ ty.toString) = some c)) : ∃ c : ClassId, ArrOfT s c ty ∧ va_RA s c ty := by
  obtain ⟨c, k, comp, h1, h2, h3⟩ := Cond.arrayClass_spec h
  exact ⟨c, fun n z => ⟨fun k h => (by cases h), k, h2, comp, h3⟩, by rw [hp]; exact h1⟩
theorem n_arrO {s : State} {A : Array Value} {C : String} (h : (Cond.arrayOver (.object C)).before A s = true) : ∃ c : ClassId, ArrOfT s c (.object C) ∧ va_RA s c (.object C) := by
  obtain ⟨comp, c, k, h1, h2, h3, h4, h5⟩ := Cond.arrayOver_spec h
  exact ⟨c, fun n z => ⟨fun k h => (by cases h), k, h3, comp, h4⟩, k, comp, h3, h4, h1, h5⟩
set_option maxRecDepth 200000 in
set_option maxHeartbeats 4000000 in
/-- the law out of the nice machine: if from the empty heap the law's code comes to the answer 1, within the room, that is whole_start -/
theorem n_law {p : Program} {e : Env} {s : State} {m : MethodId} {below : List Frame} {meth : Method} {c : Code} (l : Launch) {b L : Nat} {xs : Nat → Int32} (C0 : lw_At p s m meth c b L xs) (d : Nat) (hd : d ≤ 1300)
    (hat : ∀ (w : nW) (nm : String), n_PX w L xs → ∃ r : nR, r.1 = some (.int 1) ∧ n_n r.2.1 ≤ 600000 ∧ n_sl r.2.1 ≤ 7302250 ∧ n_At l w d (n_mlaw nm) 0 [(0, .retAddr 0)] [] n_h0 r) :
    W p l e room_1 s m #[Value.ref b] below meth c s.heap [] 0 0 (lw_Z below #[Value.ref b] s) (entryFrame m ([Value.ref b] : List Value).toArray 4) := by
  obtain ⟨hx, hb, hr, hml, hown, hts, hX, hbl, hlocks, hgv⟩ := id C0
  have hgd : ∀ w ∈ lw_good, w.before #[Value.ref b] s = true := fun w hw => hts w (List.mem_filter.mp hw).1
  obtain ⟨c0, iS0, hKn0⟩ := u_known (C := RX0) (T := TX0) (N := 3) (n := 3) hgd nok0.2.2.1 (hts (.instantiable RX0 3) (List.mem_of_getElem? (i := 441) (by decide +kernel)))
  obtain ⟨c1, iS1, hKn1⟩ := u_known (C := RX1) (T := TX1) (N := 8) (n := 8) hgd nok1.2.2.1 (hts (.instantiable RX1 8) (List.mem_of_getElem? (i := 168) (by decide +kernel)))
  obtain ⟨c2, iS2, hKn2⟩ := u_known (C := RX2) (T := TX2) (N := 6) (n := 6) hgd nok2.2.2.1 (hts (.instantiable RX2 6) (List.mem_of_getElem? (i := 548) (by decide +kernel)))
  obtain ⟨c3, iS3, hKn3⟩ := u_known (C := RX3) (T := TX3) (N := 7) (n := 7) hgd nok3.2.2.1 (hts (.instantiable RX3 7) (List.mem_of_getElem? (i := 320) (by decide +kernel)))
  obtain ⟨c4, iS4, hKn4⟩ := u_known (C := RX4) (T := TX4) (N := 12) (n := 12) hgd nok4.2.2.1 (hts (.instantiable RX4 12) (List.mem_of_getElem? (i := 223) (by decide +kernel)))
  obtain ⟨c5, iS5, hKn5⟩ := u_known (C := RX5) (T := TX5) (N := 3) (n := 3) hgd nok5.2.2.1 (hts (.instantiable RX5 3) (List.mem_of_getElem? (i := 457) (by decide +kernel)))
  obtain ⟨c6, iS6, hKn6⟩ := u_known (C := RX6) (T := TX6) (N := 12) (n := 12) hgd nok6.2.2.1 (hts (.instantiable RX6 12) (List.mem_of_getElem? (i := 477) (by decide +kernel)))
  obtain ⟨c7, iS7, hKn7⟩ := u_known (C := RX7) (T := TX7) (N := 4) (n := 4) hgd nok7.2.2.1 (hts (.instantiable RX7 4) (List.mem_of_getElem? (i := 289) (by decide +kernel)))
  obtain ⟨c8, iS8, hKn8⟩ := u_known (C := RX8) (T := TX8) (N := 7) (n := 7) hgd nok8.2.2.1 (hts (.instantiable RX8 7) (List.mem_of_getElem? (i := 174) (by decide +kernel)))
  obtain ⟨c9, iS9, hKn9⟩ := u_known (C := RX9) (T := TX9) (N := 3) (n := 3) hgd nok9.2.2.1 (hts (.instantiable RX9 3) (List.mem_of_getElem? (i := 532) (by decide +kernel)))
  obtain ⟨c10, iS10, hKn10⟩ := u_known (C := RX10) (T := TX10) (N := 9) (n := 9) hgd nok10.2.2.1 (hts (.instantiable RX10 9) (List.mem_of_getElem? (i := 349) (by decide +kernel)))
  obtain ⟨c11, iS11, hKn11⟩ := u_known (C := RX11) (T := TX11) (N := 8) (n := 8) hgd nok11.2.2.1 (hts (.instantiable RX11 8) (List.mem_of_getElem? (i := 160) (by decide +kernel)))
  obtain ⟨c12, iS12, hKn12⟩ := u_known (C := RX12) (T := TX12) (N := 79) (n := 79) hgd nok12.2.2.1 (hts (.instantiable RX12 79) (List.mem_of_getElem? (i := 1402) (by decide +kernel)))
  obtain ⟨dC, dI, hKc⟩ : ∃ (dC : Nat → ClassId) (dI : Nat → Nat → Nat), ∀ (k : Nat) (q : vw_C), vwCl[k]? = some q → u_Kn s q.1 q.2.1 q.2.2 (dC k) (dI k) := by
    refine ⟨fun k => if k = 0 then c0 else if k = 1 then c1 else if k = 2 then c2 else if k = 3 then c3 else if k = 4 then c4 else if k = 5 then c5 else if k = 6 then c6 else if k = 7 then c7 else if k = 8 then c8 else if k = 9 then c9 else if k = 10 then c10 else if k = 11 then c11 else c12, fun k => if k = 0 then iS0 else if k = 1 then iS1 else if k = 2 then iS2 else if k = 3 then iS3 else if k = 4 then iS4 else if k = 5 then iS5 else if k = 6 then iS6 else if k = 7 then iS7 else if k = 8 then iS8 else if k = 9 then iS9 else if k = 10 then iS10 else if k = 11 then iS11 else iS12, ?_⟩
    intro k q hq
    match k, hq with
    | 0, hq => cases hq; exact hKn0
    | 1, hq => cases hq; exact hKn1
    | 2, hq => cases hq; exact hKn2
    | 3, hq => cases hq; exact hKn3
    | 4, hq => cases hq; exact hKn4
    | 5, hq => cases hq; exact hKn5
    | 6, hq => cases hq; exact hKn6
    | 7, hq => cases hq; exact hKn7
    | 8, hq => cases hq; exact hKn8
    | 9, hq => cases hq; exact hKn9
    | 10, hq => cases hq; exact hKn10
    | 11, hq => cases hq; exact hKn11
    | 12, hq => cases hq; exact hKn12
    | k + 13, hq => simp [vwCl] at hq
  obtain ⟨cB, hB⟩ := n_arr (ty := .byte) (hts _ (List.mem_of_getElem? (i := 528) (by decide +kernel))) (fun c => rfl)
  obtain ⟨cI, hI⟩ := n_arr (ty := .int) (hts _ (List.mem_of_getElem? (i := 221) (by decide +kernel))) (fun c => rfl)
  have hov : (Cond.arrayOver (.object RX4)).before #[Value.ref b] s = true := hts _ (List.mem_of_getElem? (i := 463) (by decide +kernel))
  obtain ⟨cO, hO⟩ := n_arrO hov
  obtain ⟨w, hwe⟩ : ∃ w : nW, w = (s.heap.size - 1, (dC, dI), cB, cI, cO, (fun _ => b), fun u Hu => va_X b L xs u Hu) := ⟨_, rfl⟩
  have hw1 : w.1 + 1 = s.heap.size := by rw [hwe]; show s.heap.size - 1 + 1 = _; omega
  have hcl : n_cl w := by
    intro u U Hu HU hv hH hu
    rw [hwe] at hu ⊢
    have hbs : b < Hu.size := by
      obtain ⟨scr, h1, -⟩ := hu
      exact (Array.getElem?_eq_some_iff.mp h1).1
    have hbk : HU[b]? = Hu[b]? := hH b hbs (by show ¬ w.1 < b; omega)
    refine (va_X.moved ?_ hu).kept hbk
    rcases hv with hv | hv
    · exact hv.alike
    · rw [hv]; exact Vm.Alike.refl _
  have hPX : n_PX w L xs := by
    rw [hwe]
    refine ⟨by show b ≤ s.heap.size - 1; omega, fun u Hu h => h⟩
  have hK : n_K w s := by
    refine ⟨?_, va_AO.of hov, fun x hx => ?_, hcl, by rw [hwe]; exact hX⟩
    · rw [hwe]
      refine ⟨hKc, fun k q hk => ?_⟩
      match k, hk with
      | 0, hk => cases hk; exact hB
      | 1, hk => cases hk; exact hI
      | 2, hk => cases hk; exact hO
      | k + 3, hk => simp [n_tys] at hk
    · simp only [n_nest, List.mem_cons, List.not_mem_nil, or_false] at hx
      rcases hx with rfl | rfl | rfl | rfl
      · exact va_Nw.of rfl (hts _ (List.mem_of_getElem? (i := 169) (by decide +kernel)))
      · exact va_Nw.of rfl (hts _ (List.mem_of_getElem? (i := 321) (by decide +kernel)))
      · exact va_Nw.of rfl (hts _ (List.mem_of_getElem? (i := 483) (by decide +kernel)))
      · exact va_Nw.of rfl (hts _ (List.mem_of_getElem? (i := 549) (by decide +kernel)))
  obtain ⟨r, hr1, hrn, hrs, hA⟩ := hat w meth.name hPX
  have hl := lv_entry ([.ref b]) (n := 4) (Nat.le_of_ble_eq_true rfl)
  rw [lg_entry_eq]
  generalize (lg_sl ([.ref b]) ++ List.replicate (4 - (lg_sl ([.ref b])).length) Slot.unset).toArray = ls at hl ⊢
  have hl : lv_has ls 4 (n_trL w [(0, .retAddr 0)]) := by
    have e1 : n_trL w [(0, .retAddr 0)] = [(0, .ref b)] := by rw [hwe]; rfl
    rw [e1]
    exact hl
  have hP0 : n_P w n_h0 s.heap := ⟨fun a ha => absurd ha (by show ¬ 99 ≤ 15; decide), fun k q hk => by
    have : n_ws w n_h0 = [] := rfl
    rw [this] at hk
    simp at hk⟩
  have h2 := hA.2 p e room_1 s m #[Value.ref b] below meth c s.heap [] 0 0 ls ⟨hx, hb, hr, hml, hown, hlocks, rfl, hgd, hK, by omega, by show d + 1 ≤ 2048; omega, by show 60 * (d + 1) ≤ 84000; omega⟩ hP0 va_S.rf hl (by show w.1 + 1 + 0 = s.heap.size + 0; omega) (by show 0 + (n_n r.2.1 - 0) ≤ 600000; omega) (by show 0 + (n_sl r.2.1 - 0) ≤ 7302250; omega)
  intro T hT X
  obtain ⟨t, a1, b1⟩ := h2 T hT X
  exact ⟨t, a1, n_law_end hr1 hw1 (by show 0 + (n_n r.2.1 - 0) ≤ 600000; omega) (by show 0 + (n_sl r.2.1 - 0) ≤ 7302250; omega) b1⟩
