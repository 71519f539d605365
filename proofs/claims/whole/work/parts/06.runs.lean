/-! ===== calls, whole stretches of code, a method's entry ===== -/
abbrev n_cn (v : Value) : Nat := match v with
  | .long _ => 2
  | .double _ => 2
  | _ => 1
abbrev n_cs : List Value → Nat
  | [] => 0
  | v :: t => n_cn v + n_cs t
theorem n_cs_eq : ∀ (st : List Value), (st.map fun v => v.category).sum = n_cs st
  | [] => rfl
  | v :: t => by
    rw [List.map_cons, List.sum_cons, n_cs_eq t]
    cases v <;> rfl
theorem n_cs_tr (w : nW) (st : List Value) : ((st.map (n_tr w)).map fun v => v.category).sum = n_cs st := by
  rw [List.map_map, ← n_cs_eq]
  simp only [Function.comp_def, n_tr_cat]
abbrev n_pop : Nat → List Value → List Value → Option (List Value × List Value)
  | 0, st, acc => some (acc, st)
  | k + 1, v :: st, acc => n_pop k st (v :: acc)
  | _ + 1, [], _ => none
theorem n_pop_spec : ∀ {k : Nat} {st acc : List Value} {q : List Value × List Value}, n_pop k st acc = some q → ∃ xs : List Value, st = xs ++ q.2 ∧ q.1 = xs.reverse ++ acc ∧ xs.length = k
  | 0, st, acc, q, h => by cases h; exact ⟨[], rfl, rfl, rfl⟩
  | k + 1, v :: st, acc, q, h => by
    obtain ⟨xs, e1, e2, e3⟩ := n_pop_spec (k := k) (st := st) (acc := v :: acc) h
    exact ⟨v :: xs, by rw [e1]; rfl, by rw [e2]; simp, by simp [e3]⟩
  | _ + 1, [], _, _, h => by cases h
abbrev nF : Type 1 := ∀ (T : Type), List Value → nM → (Option Value → nM → Option T) → Option T
/-- a callee's function is its contract -/
def n_CS (l : Launch) (w : nW) (d : Nat) (μ : nY) (G : nG) (f : nF) : Prop := ∀ (T : Type) (as : List Value) (M : nM) (k : Option Value → nM → Option T) (r : T), f T as M k = some r → ∃ (v : Option Value) (M' : nM), n_Met l w d μ as (G, M) (v, (G, M')) ∧ k v M' = some r
abbrev n_psh (v : Option Value) (r : List Value) : List Value := match v with
  | some x => x :: r
  | none => r
abbrev o_call {T : Type} (n : Nat) (f : nF) (nx : Nat) : nO T := fun go lv st M => match n_pop n st [] with
  | some (as, r) => n_ck (Nat.ble (n_cs r) 8) (f T as M (fun v M' => go nx lv (n_psh v r) M'))
  | none => none
abbrev n_rcv (G : nG) (ci : Nat) (as : List Value) : Bool := match as with
  | .ref a :: _ => Nat.beq (n_kd G a) ci
  | _ => false
abbrev o_callV {T : Type} (G : nG) (ci n : Nat) (f : nF) (nx : Nat) : nO T := fun go lv st M => match n_pop (n + 1) st [] with
  | some (as, r) => n_chk (n_rcv G ci as && Nat.ble (n_cs r) 8) (f T as M (fun v M' => go nx lv (n_psh v r) M'))
  | none => none
def n_MOK (μ : nY) (n : Nat) : Prop := Cond.code μ.2.1 μ.2.2.1 μ.2.2.2.1 μ.2.2.2.2 ∈ lw_good ∧ Cond.initialized μ.2.1.cls ∈ lw_good ∧ (μ.2.1.cls ≠ "java/lang/invoke/MethodHandle" ∧ μ.2.1.cls ≠ "java/lang/invoke/VarHandle" ∧ (parseMethodDescriptor μ.2.1.desc).map (fun d => d.parameters.length) = some n) ∧ μ.2.2.2.1 ≤ 41
theorem n_goodm {μ : nY} (h : Cond.code μ.2.1 μ.2.2.1 μ.2.2.2.1 μ.2.2.2.2 ∈ lw_good) : GoodIn lw_good (n_wsm μ) := fun w hw => by
  rcases List.mem_cons.mp hw with e | e
  · rw [e]; exact lw_good_self _ h
  · exact lw_good_self w e
theorem n_blind {w : nW} {av : List Value} {h : nH} {z : Nat} : FrameBlind (va_Pc av (fun U => n_P w h U.heap ∧ n_K w U ∧ U.heap.size = z)) := fun a U g mk q => ⟨q.1, q.2.1, n_K.same (u := U) (U := U.calling g mk a) rfl rfl q.2.2.1, q.2.2.2⟩
theorem n_after {p : Program} {l : Launch} {e : Env} {R : Room} {s : State} {m : MethodId} {args : Array Value} {below : List Frame} {meth : Method} {c : Code} {H : Heap} {locs : List Loc} {cells slots : Nat} {Q : State → Prop} {w : nW} {r : nR} {mc ms pc : Nat} {ls : Array Slot} {st0 rest : List Value} {a : Array Value}
    (hr : va_Run p l e R s m args below meth c H locs cells slots mc ms (F0 m pc ls st0) rest (n_Q w r a) (n_A w)) (hS : va_S (n_A w) s.heap H locs)
    (kk : ∀ (H1 : Heap) (locs1 : List Loc), n_P w r.2 H1 → va_S (n_A w) s.heap H1 locs1 → W p l e R s m args below meth c H1 locs1 (cells + mc) (slots + ms) Q (F0 m (pc + 3) ls ((r.1.map (n_tr w)).toList ++ rest))) : W p l e R s m args below meth c H locs cells slots Q (F0 m pc ls st0) := by
  intro T hT X
  obtain ⟨v, st₀, t, T', L, h0, X', hL, e1, e2, ⟨⟨hv, hp, hk⟩, hz, hkp⟩, st⟩ := hr T hT X
  cases hv
  rw [h0] at hz hkp
  obtain ⟨t2, a1, b1⟩ := kk T'.heap (locs ++ L) (by rw [e1]; exact hp) ⟨Nat.le_trans hS.1 (by rw [e1]; exact hz), fun q h1 h2 => by rw [e1, hkp q (Nat.lt_of_lt_of_le h1 hS.1) h2]; exact hS.2.1 q h1 h2, fun q hq => by
      rcases List.mem_append.mp hq with h | h
      · exact hS.2.2 q h
      · exact hL q h⟩ T' rfl X'
  exact ⟨t2, st t2 a1, b1⟩
theorem n_psh_tr (w : nW) (v : Option Value) (r : List Value) : (v.map (n_tr w)).toList ++ r.map (n_tr w) = (n_psh v r).map (n_tr w) := by cases v <;> rfl
theorem s_callS {l : Launch} {w : nW} {d : Nat} {μ : nY} {G : nG} {T : Type} {fin : T → nR} {pc : Nat} {n idx d' : Nat} {μ' : nY} {f : nF} (hf : n_CS l w d' μ' G f) (hdd : d' + 1 ≤ d) (hm : n_MOK μ' n) (hst : Cond.static μ'.2.1 ∈ lw_good) (hlk : Cond.methodLink μ.1 idx μ'.2.1 ∈ lw_good) (hd : decode μ.2.2.1 pc = .ok (.invokestatic idx, 3)) : n_S l w d μ G fin pc (o_call n f (pc + 3)) := by
  intro go r lv st M hg h
  unfold o_call at h
  split at h
  · rename_i qas qr hq
    generalize hqe : (qas, qr) = q at hq
    have hq1 : qas = q.1 := by rw [← hqe]
    have hq2 : qr = q.2 := by rw [← hqe]
    rw [hq1, hq2] at h
    obtain ⟨hb, h⟩ := n_ck_some h
    obtain ⟨v, M', hmet, hk⟩ := hf _ _ _ _ _ h
    have h1 := hg _ _ _ _ hk
    refine ⟨h1.1, fun p e R s m args below meth c H locs cells slots ls C hP hS hl hz hc hs => ?_⟩
    obtain ⟨xs, e1, e2, e3⟩ := n_pop_spec hq
    rw [List.append_nil] at e2
    refine n_W_sz fun hu => ?_
    have hsz := n_size C.2.2.2.2.2.2.2.2.2.1 hP hS hz hu
    have ht := C.2.2.2.2.2.2.2.1
    have hfr := C.2.2.2.2.2.2.2.2.2.2.1
    have hlo := C.2.2.2.2.2.2.2.2.2.2.2
    have hml := hm.2.2.2
    have hB : CallB R s args μ.1 idx μ'.2.1 μ'.2.2.1 μ'.2.2.2.1 μ'.2.2.2.2 (n_wsm μ') (n_rm d' (n_n G - n_n G) (n_sl G - n_sl G)) (n_n G - n_n G) (n_sl G - n_sl G) n :=
      callB_of n ht (n_goodm hm.1) rfl rfl rfl (ht _ hm.2.1) (ht _ hlk) hm.2.2.1 ⟨by show d' + 1 + 1 ≤ R.frames; omega, by show 8 + (μ'.2.2.2.1 + 11) + 60 * (d' + 1) ≤ R.locals; omega⟩
    have hrun := va_runS (cells := cells) (slots := slots) (locs := locs) (p := p) (l := l) (e := e) (below := below) (meth := meth) (As := q.1.map (n_tr w)) (rest := q.2.map (n_tr w)) (g := F0 m pc ls (st.map (n_tr w))) (H := H) ⟨C.1, C.2.1, C.2.2.2.1, C.2.2.2.2.1, ht⟩ hmet.2 ⟨hB, ht _ hst⟩
      ⟨n_blind, fun U hU hW => ⟨rfl, by rw [hU]; exact hP, n_K.warm hW (by rw [hU]; exact hS.2.1) C.2.2.2.2.2.2.2.2.1, by rw [hU]; exact hsz⟩⟩ rfl (by rw [e2]; simp [e3]) hl.1 (by rw [e2, e1]; simp) (lv_room (by rw [n_cs_tr]; exact Nat.le_of_ble_eq_true hb)) hd ⟨by rw [Nat.sub_self]; omega, by rw [Nat.sub_self]; omega⟩
    refine n_after hrun hS (fun H locs hP hS => ?_)
    rw [n_psh_tr]
    rw [Nat.sub_self, Nat.sub_self, Nat.add_zero, Nat.add_zero]
    exact h1.2 p e R s m args below meth c H locs cells slots ls C hP hS hl hz hc hs
  · cases h
theorem s_callV {l : Launch} {w : nW} {d : Nat} {μ : nY} {G : nG} {T : Type} {fin : T → nR} {pc : Nat} {n idx d' ci N : Nat} {C0 : String} {TT : u_T} {μ' : nY} {f : nF} (hf : n_CS l w d' μ' G f) (hdd : d' + 1 ≤ d) (hm : n_MOK μ' n) (ok : n_OK ci C0 TT N) (hst : Cond.instanceMethod μ'.2.1 ∈ lw_good) (hsel : Cond.selects C0 μ'.2.1 μ'.2.1 ∈ lw_good) (hlk : Cond.methodLink μ.1 idx μ'.2.1 ∈ lw_good) (hd : decode μ.2.2.1 pc = .ok (.invokevirtual idx, 3)) : n_S l w d μ G fin pc (o_callV G ci n f (pc + 3)) := by
  intro go r lv st M hg h
  unfold o_callV at h
  split at h
  · rename_i qas qr hq
    generalize hqe : (qas, qr) = q at hq
    have hq1 : qas = q.1 := by rw [← hqe]
    have hq2 : qr = q.2 := by rw [← hqe]
    rw [hq1, hq2] at h
    obtain ⟨hb, h⟩ := n_chk_some h
    simp only [Bool.and_eq_true] at hb
    obtain ⟨hrc, hb⟩ := hb
    obtain ⟨v, M', hmet, hk⟩ := hf _ _ _ _ _ h
    have h1 := hg _ _ _ _ hk
    refine ⟨h1.1, fun p e R s m args below meth c H locs cells slots ls C hP hS hl hz hc hs => ?_⟩
    obtain ⟨xs, e1, e2, e3⟩ := n_pop_spec hq
    rw [List.append_nil] at e2
    refine n_W_sz fun hu => ?_
    have hsz := n_size C.2.2.2.2.2.2.2.2.2.1 hP hS hz hu
    have ht := C.2.2.2.2.2.2.2.1
    have hfr := C.2.2.2.2.2.2.2.2.2.2.1
    have hlo := C.2.2.2.2.2.2.2.2.2.2.2
    have hml := hm.2.2.2
    have hB : CallB R s args μ.1 idx μ'.2.1 μ'.2.2.1 μ'.2.2.2.1 μ'.2.2.2.2 (n_wsm μ') (n_rm d' (n_n G - n_n G) (n_sl G - n_sl G)) (n_n G - n_n G) (n_sl G - n_sl G) n :=
      callB_of n ht (n_goodm hm.1) rfl rfl rfl (ht _ hm.2.1) (ht _ hlk) hm.2.2.1 ⟨by show d' + 1 + 1 ≤ R.frames; omega, by show 8 + (μ'.2.2.2.1 + 11) + 60 * (d' + 1) ≤ R.locals; omega⟩
    obtain ⟨a, As, hqa, hkd⟩ : ∃ (a : Nat) (As : List Value), q.1 = .ref a :: As ∧ n_kd G a = ci := by
      unfold n_rcv at hrc
      split at hrc
      · rename_i a As hqa
        exact ⟨a, As, hqa, n_beq hrc⟩
      · cases hrc
    obtain ⟨a1, a2⟩ := hP.1 a (by show n_kd G a ≤ 15; have := ok.1; omega)
    have he := n_ws_get (w := w) (h := (G, M)) a1 a2
    rw [n_cell_obj (h := (G, M)) hkd ok.1] at he
    have hxs : xs = As.reverse ++ [.ref a] := by
      have := congrArg List.reverse (e2.symm.trans hqa)
      simpa using this
    have hlen : As.length = n := by
      have := e3
      rw [hxs] at this
      simpa using this
    have hmet2 := hmet.2
    rw [hqa, List.map_cons, n_ref a1] at hmet2
    have hrun := va_runV (cells := cells) (slots := slots) (locs := locs) (p := p) (l := l) (e := e) (below := below) (meth := meth) (C := C0) (b := w.1 + a) (As := As.map (n_tr w)) (rest := q.2.map (n_tr w)) (g := F0 m pc ls (st.map (n_tr w))) (H := H) ⟨C.1, C.2.1, C.2.2.2.1, C.2.2.2.2.1, ht⟩ hmet2 ⟨hB, ht _ hst, ht _ hsel⟩
      ⟨n_blind, va_recv C.2.2.2.2.2.2.2.2.1.1 hP.2 ok.2.1 he, fun U hU hW => ⟨rfl, by rw [hU]; exact hP, n_K.warm hW (by rw [hU]; exact hS.2.1) C.2.2.2.2.2.2.2.2.1, by rw [hU]; exact hsz⟩⟩ rfl (by simp [hlen]) hl.1 (by show st.map (n_tr w) = _; rw [e1, hxs]; simp [n_ref a1]) (lv_room (by rw [n_cs_tr]; exact Nat.le_of_ble_eq_true hb)) hd ⟨by rw [Nat.sub_self]; omega, by rw [Nat.sub_self]; omega⟩
    refine n_after hrun hS (fun H locs hP hS => ?_)
    rw [n_psh_tr]
    rw [Nat.sub_self, Nat.sub_self, Nat.add_zero, Nat.add_zero]
    exact h1.2 p e R s m args below meth c H locs cells slots ls C hP hS hl hz hc hs
  · cases h
abbrev o_objI {T : Type} (nx : Nat) : nO T := fun go lv st M => match st with
  | .ref a :: r => n_chk (Nat.blt 0 a && Nat.ble (n_cs r) 8) (go nx lv r M)
  | _ => none
theorem s_objI {l : Launch} {w : nW} {d : Nat} {μ : nY} {G : nG} {T : Type} {fin : T → nR} {pc : Nat} {idx : Nat} (h1 : Cond.methodLink μ.1 idx Lib.objectInit ∈ lw_good) (h2 : Cond.instanceMethod Lib.objectInit ∈ lw_good) (h3 : Cond.code Lib.objectInit ⟨#[0xb1]⟩ 1 none ∈ lw_good) (hd : decode μ.2.2.1 pc = .ok (.invokespecial idx, 3)) : n_S l w d μ G fin pc (o_objI (pc + 3)) := by
  intro go r lv st M hg h
  unfold o_objI at h
  split at h
  · rename_i a rest
    obtain ⟨hb, h⟩ := n_chk_some h
    simp only [Bool.and_eq_true] at hb
    have h4 := hg _ _ _ _ h
    refine ⟨h4.1, fun p e R s m args below meth c H locs cells slots ls C hP hS hl hz hc hs => ?_⟩
    have a1 : 1 ≤ a := Nat.le_of_ble_eq_true hb.1
    have ht := C.2.2.2.2.2.2.2.1
    have hfr := C.2.2.2.2.2.2.2.2.2.2.1
    have hlo := C.2.2.2.2.2.2.2.2.2.2.2
    have hcs : ((rest.map (n_tr w)).map fun v => v.category).sum ≤ 8 := by rw [n_cs_tr]; exact Nat.le_of_ble_eq_true hb.2
    refine W.objInit C.1 C.2.1 C.2.2.2.2.1 (ht _ h1) (ht _ h2) (ht _ h3) rfl (hl.1.trans C.2.2.2.1.symm) (a := w.1 + a) (rest := rest.map (n_tr w)) (by show List.map (n_tr w) (.ref a :: rest) = _; rw [List.map_cons, n_ref a1]) hd (by omega) (by show 2 * 0 + _ + 12 ≤ _; omega) ?_
    exact h4.2 p e R s m args below meth c H locs cells slots ls C hP hS hl hz hc hs
  · cases h
/-- System.arraycopy between two rows of ints -/
def n_cpy (M : nM) (a0 a1 sp dp n : Nat) : nM := fun b => if b = a1 then va_cpy (M a0) (M a1) sp dp n else M b
def n_cpok (G : nG) (a0 a1 : Nat) (sp dp n : Int32) : Bool := (Nat.beq (n_kd G a0) 14 && Nat.beq (n_kd G a1) 14) && ((!decide (sp < 0) && (!decide (dp < 0) && !decide (n < 0))) && (Nat.ble (sp.toNatClampNeg + n.toNatClampNeg) (n_len G a0) && Nat.ble (dp.toNatClampNeg + n.toNatClampNeg) (n_len G a1)))
abbrev o_copy {T : Type} (G : nG) (nx : Nat) : nO T := fun go lv st M => match st with
  | .int n :: .int dp :: .ref a1 :: .int sp :: .ref a0 :: r => n_chk (n_cpok G a0 a1 sp dp n && Nat.ble (n_cs r) 8) (go nx lv r (n_cpy M a0 a1 sp.toNatClampNeg dp.toNatClampNeg n.toNatClampNeg))
  | _ => none
theorem s_copy {l : Launch} {w : nW} {d : Nat} {μ : nY} {G : nG} {T : Type} {fin : T → nR} {pc : Nat} {idx : Nat} (w1 : Cond.methodLink μ.1 idx arraycopyName ∈ lw_good) (w2 : Cond.native arraycopyName ∈ lw_good) (w3 : Cond.static arraycopyName ∈ lw_good) (w4 : Cond.initialized "java/lang/System" ∈ lw_good) (hd : decode μ.2.2.1 pc = .ok (.invokestatic idx, 3)) : n_S l w d μ G fin pc (o_copy G (pc + 3)) := by
  intro go r lv st M hg h
  unfold o_copy at h
  split at h
  · rename_i n dp b1 sp b0 rest
    obtain ⟨hb, h⟩ := n_chk_some h
    unfold n_cpok at hb
    simp only [Bool.and_eq_true, Bool.not_eq_true', decide_eq_false_iff_not] at hb
    obtain ⟨⟨⟨k0, k1⟩, ⟨⟨c1, c2, c3⟩, c4, c5⟩⟩, hcs⟩ := hb
    have k0 := n_beq k0
    have k1 := n_beq k1
    have h4 := hg _ _ _ _ h
    refine ⟨h4.1, fun p e R s m args below meth c H locs cells slots ls C hP hS hl hz hc hs => ?_⟩
    have ht := C.2.2.2.2.2.2.2.1
    have hfr := C.2.2.2.2.2.2.2.2.2.2.1
    have hlo := C.2.2.2.2.2.2.2.2.2.2.2
    obtain ⟨x1, x2⟩ := hP.1 b0 (by show n_kd G b0 ≤ 15; omega)
    obtain ⟨y1, y2⟩ := hP.1 b1 (by show n_kd G b1 ≤ 15; omega)
    have he0 := n_ws_get (w := w) (h := (G, M)) x1 x2
    have he1 := n_ws_get (w := w) (h := (G, M)) y1 y2
    rw [n_cell_I (h := (G, M)) k0] at he0
    rw [n_cell_I (h := (G, M)) k1] at he1
    have hcs2 : ((rest.map (n_tr w)).map fun v => v.category).sum ≤ 8 := by rw [n_cs_tr]; exact Nat.le_of_ble_eq_true hcs
    have hnf : nativeFrameWords "java/lang/System" "arraycopy" 5 ≤ 30 := by decide +kernel
    simp only [List.map_cons, n_ref x1, n_ref y1]
    refine va_copyi C.1 C.2.1 (C.2.2.2.1.trans hl.1.symm) C.2.2.2.2.1 (ht _ w1) (ht _ w2) (ht _ w3) (ht _ w4) C.2.2.2.2.2.2.2.2.1.1 hP.2 (n_D w (G, M)) hS (b0 - 1) (b1 - 1) 1 1 he0 he1 rfl rfl rfl c1 c2 c3 (Nat.le_of_ble_eq_true c4) (Nat.le_of_ble_eq_true c5) (fun _ _ => rfl) (by omega) (by omega) hd (fun H locs hP1 _ hS => ?_)
    rw [n_ws_set (h' := (G, n_cpy M b0 b1 sp.toNatClampNeg dp.toNatClampNeg n.toNatClampNeg)) y1 y2 rfl (by rw [n_cell_I (h := (G, n_cpy M b0 b1 sp.toNatClampNeg dp.toNatClampNeg n.toNatClampNeg)) k1]; simp [n_cpy]) (fun b hb => n_cell_other (by simp [n_cpy, hb]))] at hP1
    have hP : n_P w (G, n_cpy M b0 b1 sp.toNatClampNeg dp.toNatClampNeg n.toNatClampNeg) H := ⟨hP.1, hP1⟩
    exact h4.2 p e R s m args below meth c H locs cells slots ls C hP hS hl hz hc hs
  · cases h
/-! ===== whole stretches ===== -/
abbrev n_klk {α : Type} : List (Nat × α) → Nat → Option α
  | [], _ => none
  | (k, x) :: t, i => match Nat.beq k i with
    | true => some x
    | false => n_klk t i
theorem n_klk_mem {α : Type} {K : List (Nat × α)} {i : Nat} {v : α} (h : n_klk K i = some v) : (i, v) ∈ K := by
  induction K with
  | nil => cases h
  | cons q t ih =>
    obtain ⟨k, x⟩ := q
    unfold n_klk at h
    cases hb : Nat.beq k i with
    | true =>
      rw [hb] at h
      have := Nat.eq_of_beq_eq_true hb
      cases h
      subst this
      exact List.mem_cons_self
    | false =>
      rw [hb] at h
      exact List.mem_cons_of_mem _ (ih h)
abbrev n_find {α : Type} : List (Nat × α) → Nat → List (Nat × α)
  | [], _ => []
  | q :: t, i => match Nat.beq q.1 i with
    | true => q :: t
    | false => n_find t i
theorem n_find_mem {α : Type} {K : List (Nat × α)} {i : Nat} {x : Nat × α} (h : x ∈ n_find K i) : x ∈ K := by
  induction K with
  | nil => cases h
  | cons q t ih =>
    unfold n_find at h
    cases hb : Nat.beq q.1 i with
    | true => rw [hb] at h; exact h
    | false => rw [hb] at h; exact List.mem_cons_of_mem _ (ih h)
abbrev n_nxt {α : Type} (code : List (Nat × α)) (cs : List (Nat × α)) (i : Nat) : List (Nat × α) := match cs with
  | [] => n_find code i
  | q :: t => match Nat.beq q.1 i with
    | true => q :: t
    | false => n_find code i
theorem n_nxt_mem {α : Type} {code cs : List (Nat × α)} {i : Nat} {x : Nat × α} (hcs : ∀ q ∈ cs, q ∈ code) (h : x ∈ n_nxt code cs i) : x ∈ code := by
  unfold n_nxt at h
  cases cs with
  | nil => exact n_find_mem h
  | cons q t =>
    simp only at h
    cases hb : Nat.beq q.1 i with
    | true => rw [hb] at h; exact hcs x h
    | false => rw [hb] at h; exact n_find_mem h
abbrev nK (T : Type) : Type := List (Nat × (nL → List Value → nM → Option T))
abbrev n_run {T : Type} (code : List (Nat × nO T)) (K : nK T) : Nat → List (Nat × nO T) → Nat → nL → List Value → nM → Option T
  | 0, _, _, _, _, _ => none
  | n + 1, cs, pc, lv, st, M => match cs with
    | [] => none
    | (p, o) :: cs' => n_ck (Nat.beq p pc) (o (fun pc' lv' st' M' => match n_klk K pc' with
      | some k => k lv' st' M'
      | none => n_run code K n (n_nxt code cs' pc') pc' lv' st' M') lv st M)
theorem n_run_ok {l : Launch} {w : nW} {d : Nat} {μ : nY} {G : nG} {T : Type} {fin : T → nR} {code : List (Nat × nO T)} {K : nK T} (hcode : ∀ q ∈ code, n_S l w d μ G fin q.1 q.2)
    (hK : ∀ q ∈ K, ∀ (lv : nL) (st : List Value) (M : nM) (r : T), q.2 lv st M = some r → n_At l w d μ q.1 lv st (G, M) (fin r)) :
    ∀ (n : Nat) (cs : List (Nat × nO T)) (pc : Nat) (lv : nL) (st : List Value) (M : nM) (r : T), (∀ q ∈ cs, q ∈ code) → n_run code K n cs pc lv st M = some r → n_At l w d μ pc lv st (G, M) (fin r) := by
  intro n
  induction n with
  | zero => intro cs pc lv st M r _ h; cases h
  | succ n ih =>
    intro cs pc lv st M r hcs h
    unfold n_run at h
    cases cs with
    | nil => cases h
    | cons q cs' =>
      obtain ⟨p, o⟩ := q
      simp only at h
      obtain ⟨hb, h3⟩ := n_ck_some h
      have hpc := n_beq hb
      rw [← hpc]
      refine hcode (p, o) (hcs (p, o) List.mem_cons_self) _ r lv st M ?_ h3
      intro pc' lv' st' M' h'
      split at h'
      · rename_i k hk
        exact hK _ (n_klk_mem hk) lv' st' M' r h'
      · exact ih _ _ _ _ _ _ (fun x hx => n_nxt_mem (fun y hy => hcs y (List.mem_cons_of_mem _ hy)) hx) h'
/-! ===== what a stretch hands on: live locals and stack, taken apart by their kinds ===== -/
abbrev n_pI {α : Type} (st : List Value) (k : Int32 → List Value → Option α) : Option α := match st with
  | .int x :: t => k x t
  | _ => none
abbrev n_pR {α : Type} (st : List Value) (k : Nat → List Value → Option α) : Option α := match st with
  | .ref x :: t => k x t
  | _ => none
abbrev n_pL {α : Type} (st : List Value) (k : Int64 → List Value → Option α) : Option α := match st with
  | .long x :: t => k x t
  | _ => none
abbrev n_pC {α : Type} (a0 : Nat) (st : List Value) (k : List Value → Option α) : Option α := match st with
  | .ref x :: t => n_ck (Nat.beq x a0) (k t)
  | _ => none
abbrev n_pE {α : Type} (st : List Value) (k : Option α) : Option α := match st with
  | [] => k
  | _ => none
theorem n_pI_x {α : Type} {st : List Value} {k : Int32 → List Value → Option α} {r : α} (h : n_pI st k = some r) : ∃ (x : Int32) (t : List Value), st = .int x :: t ∧ k x t = some r := by
  unfold n_pI at h
  split at h
  · exact ⟨_, _, rfl, h⟩
  · cases h
theorem n_pR_x {α : Type} {st : List Value} {k : Nat → List Value → Option α} {r : α} (h : n_pR st k = some r) : ∃ (x : Nat) (t : List Value), st = .ref x :: t ∧ k x t = some r := by
  unfold n_pR at h
  split at h
  · exact ⟨_, _, rfl, h⟩
  · cases h
theorem n_pL_x {α : Type} {st : List Value} {k : Int64 → List Value → Option α} {r : α} (h : n_pL st k = some r) : ∃ (x : Int64) (t : List Value), st = .long x :: t ∧ k x t = some r := by
  unfold n_pL at h
  split at h
  · exact ⟨_, _, rfl, h⟩
  · cases h
theorem n_pC_x {α : Type} {a0 : Nat} {st : List Value} {k : List Value → Option α} {r : α} (h : n_pC a0 st k = some r) : ∃ (t : List Value), st = .ref a0 :: t ∧ k t = some r := by
  unfold n_pC at h
  split at h
  · obtain ⟨hb, h⟩ := n_ck_some h
    rw [n_beq hb]
    exact ⟨_, rfl, h⟩
  · cases h
theorem n_pE_x {α : Type} {st : List Value} {k : Option α} {r : α} (h : n_pE st k = some r) : st = [] ∧ k = some r := by
  unfold n_pE at h
  split at h
  · exact ⟨rfl, h⟩
  · cases h
abbrev n_lI {α : Type} (lv : nL) (i : Nat) (k : Int32 → Option α) : Option α := match n_lk lv i with
  | some (.int x) => k x
  | _ => none
abbrev n_lR {α : Type} (lv : nL) (i : Nat) (k : Nat → Option α) : Option α := match n_lk lv i with
  | some (.ref x) => k x
  | _ => none
abbrev n_lL {α : Type} (lv : nL) (i : Nat) (k : Int64 → Option α) : Option α := match n_lk lv i with
  | some (.long x) => k x
  | _ => none
abbrev n_lC {α : Type} (a0 : Nat) (lv : nL) (i : Nat) (k : Option α) : Option α := match n_lk lv i with
  | some (.ref x) => n_ck (Nat.beq x a0) k
  | _ => none
theorem n_lI_x {α : Type} {lv : nL} {i : Nat} {k : Int32 → Option α} {r : α} (h : n_lI lv i k = some r) : ∃ x : Int32, n_lk lv i = some (.int x) ∧ k x = some r := by
  unfold n_lI at h
  split at h
  · rename_i x hx
    exact ⟨x, hx, h⟩
  · cases h
theorem n_lR_x {α : Type} {lv : nL} {i : Nat} {k : Nat → Option α} {r : α} (h : n_lR lv i k = some r) : ∃ x : Nat, n_lk lv i = some (.ref x) ∧ k x = some r := by
  unfold n_lR at h
  split at h
  · rename_i x hx
    exact ⟨x, hx, h⟩
  · cases h
theorem n_lL_x {α : Type} {lv : nL} {i : Nat} {k : Int64 → Option α} {r : α} (h : n_lL lv i k = some r) : ∃ x : Int64, n_lk lv i = some (.long x) ∧ k x = some r := by
  unfold n_lL at h
  split at h
  · rename_i x hx
    exact ⟨x, hx, h⟩
  · cases h
theorem n_lC_x {α : Type} {a0 : Nat} {lv : nL} {i : Nat} {k : Option α} {r : α} (h : n_lC a0 lv i k = some r) : n_lk lv i = some (.ref a0) ∧ k = some r := by
  unfold n_lC at h
  split at h
  · rename_i x hx
    obtain ⟨hb, h⟩ := n_ck_some h
    rw [n_beq hb] at hx
    exact ⟨hx, h⟩
  · cases h
def n_eqL : nL → nL → Prop
  | [], _ => True
  | q :: t, lv => n_lk lv q.1 = some q.2 ∧ n_eqL t lv
theorem n_qc {q : Nat × Value} {t lv : nL} (h : n_lk lv q.1 = some q.2) (ht : n_eqL t lv) : n_eqL (q :: t) lv := ⟨h, ht⟩
theorem n_qe {lv : nL} : n_eqL [] lv := trivial
theorem n_eqL_has {w : nW} {ls : Array Slot} {nn : Nat} {lv : nL} (hl : lv_has ls nn (n_trL w lv)) : ∀ {c : nL}, n_eqL c lv → lv_has ls nn (n_trL w c)
  | [], _ => ⟨hl.1, hl.2.1, fun q h => by cases h⟩
  | q :: t, h => by
    have ih := n_eqL_has hl h.2
    refine ⟨hl.1, hl.2.1, fun x hx => ?_⟩
    rcases List.mem_cons.mp hx with e | e
    · rw [e]
      exact n_lk_at hl h.1
    · exact ih.2.2 x e
theorem n_sub {l : Launch} {w : nW} {d : Nat} {μ : nY} {pc : Nat} {lv cn : nL} {st : List Value} {h : nH} {r : nR} (hc : n_eqL cn lv) (h1 : n_At l w d μ pc cn st h r) : n_At l w d μ pc lv st h r := by
  refine ⟨h1.1, fun p e R s m args below meth c H locs cells slots ls C hP hS hl hz hc1 hs => ?_⟩
  exact h1.2 p e R s m args below meth c H locs cells slots ls C hP hS (n_eqL_has hl hc) hz hc1 hs
/-! ===== a method's entry ===== -/
theorem n_args (w : nW) : ∀ (as : List Value) (i : Nat), lv_args i (as.map (n_tr w)) = n_trL w (lv_args i as)
  | [], _ => rfl
  | v :: as, i => by
    rw [List.map_cons]
    unfold lv_args
    rw [n_tr_cat, n_args w as]
    rfl
theorem n_sl_len : ∀ (as : List Value), (lg_sl as).length = n_cs as
  | [] => rfl
  | v :: as => by
    have ih := n_sl_len as
    unfold lg_sl at ih ⊢
    rw [List.flatMap_cons, List.length_append, ih]
    cases v <;> rfl
theorem n_entry {l : Launch} {w : nW} {d : Nat} {μ : nY} {as : List Value} {h : nH} {r : nR} (hy : plainName μ.2.1.cls = true) (hown : μ.1 = μ.2.1.cls) (hlen : n_cs as ≤ μ.2.2.2.1) (hat : n_At l w d μ 0 (lv_args 0 as) [] h r) : n_Met l w d μ as h r := by
  refine ⟨hat.1, ?_⟩
  refine Met.ofW (cc := μ.2.2.1) (maxL := μ.2.2.2.1) (ret := μ.2.2.2.2) hy rfl ?_
  intro p e s m args below meth c s₁ B hml hv
  obtain ⟨rfl, hP, hK, hsz⟩ := hv
  have hts := atoms_spec (ws := n_wsm μ) B.pre
  have hl := lv_entry (as.map (n_tr w)) (n := μ.2.2.2.1) (by rw [n_sl_len, ← n_cs_eq, n_cs_tr]; exact hlen)
  rw [lg_entry_eq]
  generalize (lg_sl (as.map (n_tr w)) ++ List.replicate (μ.2.2.2.1 - (lg_sl (as.map (n_tr w))).length) Slot.unset).toArray = ls at hl ⊢
  rw [n_args] at hl
  have h2 := hat.2 p e (n_rm d (n_n r.2.1 - n_n h.1) (n_sl r.2.1 - n_sl h.1)) s m (as.map (n_tr w)).toArray below meth c s.heap [] 0 0 ls
    ⟨B.exec, B.bytes, B.returns, hml, by rw [hown]; exact findClass_of_methodNamed B.named, B.notSynchronized, (name_of_methodNamed B.named B.method).1, fun x hx => hts x (List.mem_cons_of_mem _ hx), hK, by omega, Nat.le_refl _, Nat.le_refl _⟩ hP va_S.rf hl (by omega) (by show 0 + _ ≤ _; rw [Nat.zero_add]; exact Nat.le_refl _) (by show 0 + _ ≤ _; rw [Nat.zero_add]; exact Nat.le_refl _)
  rw [Nat.zero_add, Nat.zero_add] at h2
  exact h2
