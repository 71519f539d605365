/-! ===== texts below the heap ===== -/
def n_tx1 : String := ";+-*/()<=>"
def n_tx2 : String := "palms far finds sleight wits size worth place full lock moved lost palmed hour when or and not at person puts in tie loose open search child of "
def n_tlen : List Nat := [10, 144]
def n_tb1 : List Int32 := [59, 43, 45, 42, 47, 40, 41, 60, 61, 62]
def n_tb2 : List Int32 := [112, 97, 108, 109, 115, 32, 102, 97, 114, 32, 102, 105, 110, 100, 115, 32, 115, 108, 101, 105, 103, 104, 116, 32, 119, 105, 116, 115, 32, 115, 105, 122, 101, 32, 119, 111, 114, 116, 104, 32, 112, 108, 97, 99, 101, 32, 102, 117, 108, 108, 32, 108, 111, 99, 107, 32, 109, 111, 118, 101, 100, 32, 108, 111, 115, 116, 32, 112, 97, 108, 109, 101, 100, 32, 104, 111, 117, 114, 32, 119, 104, 101, 110, 32, 111, 114, 32, 97, 110, 100, 32, 110, 111, 116, 32, 97, 116, 32, 112, 101, 114, 115, 111, 110, 32, 112, 117, 116, 115, 32, 105, 110, 32, 116, 105, 101, 32, 108, 111, 111, 115, 101, 32, 111, 112, 101, 110, 32, 115, 101, 97, 114, 99, 104, 32, 99, 104, 105, 108, 100, 32, 111, 102, 32]
def n_tbyt : List (List Int32) := [n_tb1, n_tb2]
/-- what is known of the texts -/
def n_PS (w : nW) : Prop := ∀ (u : State) (Hu : Heap), w.2.2.2.2.2.2 u Hu → vk_S 2 n_tlen n_tbyt (fun i => w.2.2.2.2.2.1 (i + 1)) (fun i => w.2.2.2.2.2.1 (i + 11)) (n_A w) u Hu ∧ (vk_R RX6 95 n_tx1 (w.2.2.2.2.2.1 1) u ∧ vk_R RX6 116 n_tx2 (w.2.2.2.2.2.1 2) u) ∧ va_Z "java/lang/String" "COMPACT_STRINGS" "Z" (.int 1) (n_A w) u Hu ∧ va_Z "jdk/internal/util/Preconditions" "SIOOBE_FORMATTER" "Ljava/util/function/BiFunction;" (n_tr w (.retAddr 20)) (n_A w) u Hu
theorem s_ldcS1 {l : Launch} {w : nW} {d : Nat} {μ : nY} {G : nG} {T : Type} {fin : T → nR} {pc : Nat} (hT : n_PS w) (ho : μ.1 = RX6) (hd : decode μ.2.2.1 pc = .ok (.ldc 95, 2)) : n_S l w d μ G fin pc (o_push (.retAddr 1) (pc + 2)) := by
  intro go r lv st M hg h
  have h1 := hg _ _ _ _ h
  refine ⟨h1.1, fun p e R s m args below meth c H locs cells slots ls C hP hS hl hz hc hs => ?_⟩
  have h2 := h1.2 p e R s m args below meth c H locs cells slots ls C hP hS hl hz hc hs
  rw [List.map_cons, n_rA_ne (k := 1) (by omega)] at h2
  exact va_ldcS C.1 C.2.1 (by rw [← ho]; exact C.2.2.2.2.1) (hT s s.heap C.2.2.2.2.2.2.2.2.1.2.2.2.2).2.1.1 hd h2
theorem s_ldcS2 {l : Launch} {w : nW} {d : Nat} {μ : nY} {G : nG} {T : Type} {fin : T → nR} {pc : Nat} (hT : n_PS w) (ho : μ.1 = RX6) (hd : decode μ.2.2.1 pc = .ok (.ldc 116, 2)) : n_S l w d μ G fin pc (o_push (.retAddr 2) (pc + 2)) := by
  intro go r lv st M hg h
  have h1 := hg _ _ _ _ h
  refine ⟨h1.1, fun p e R s m args below meth c H locs cells slots ls C hP hS hl hz hc hs => ?_⟩
  have h2 := h1.2 p e R s m args below meth c H locs cells slots ls C hP hS hl hz hc hs
  rw [List.map_cons, n_rA_ne (k := 2) (by omega)] at h2
  exact va_ldcS C.1 C.2.1 (by rw [← ho]; exact C.2.2.2.2.1) (hT s s.heap C.2.2.2.2.2.2.2.2.1.2.2.2.2).2.1.2 hd h2
theorem s_getsI {l : Launch} {w : nW} {d : Nat} {μ : nY} {G : nG} {T : Type} {fin : T → nR} {pc : Nat} {idx : Nat} (hT : n_PS w) (hw : Cond.fieldLink μ.1 idx "java/lang/String" "COMPACT_STRINGS" "Z" ∈ lw_good) (hd : decode μ.2.2.1 pc = .ok (.getstatic idx, 3)) : n_S l w d μ G fin pc (o_push (.int 1) (pc + 3)) := by
  intro go r lv st M hg h
  have h1 := hg _ _ _ _ h
  refine ⟨h1.1, fun p e R s m args below meth c H locs cells slots ls C hP hS hl hz hc hs => ?_⟩
  exact va_gets C.1 C.2.1 (hT s s.heap C.2.2.2.2.2.2.2.2.1.2.2.2.2).2.2.1 hS C.2.2.2.2.1 (C.2.2.2.2.2.2.2.1 _ hw) (fun _ q => q) hd (h1.2 p e R s m args below meth c H locs cells slots ls C hP hS hl hz hc hs)
theorem s_getsF {l : Launch} {w : nW} {d : Nat} {μ : nY} {G : nG} {T : Type} {fin : T → nR} {pc : Nat} {idx : Nat} (hT : n_PS w) (hw : Cond.fieldLink μ.1 idx "jdk/internal/util/Preconditions" "SIOOBE_FORMATTER" "Ljava/util/function/BiFunction;" ∈ lw_good) (hd : decode μ.2.2.1 pc = .ok (.getstatic idx, 3)) : n_S l w d μ G fin pc (o_push (.retAddr 20) (pc + 3)) := by
  intro go r lv st M hg h
  have h1 := hg _ _ _ _ h
  refine ⟨h1.1, fun p e R s m args below meth c H locs cells slots ls C hP hS hl hz hc hs => ?_⟩
  exact va_gets C.1 C.2.1 (hT s s.heap C.2.2.2.2.2.2.2.2.1.2.2.2.2).2.2.2 hS C.2.2.2.2.1 (C.2.2.2.2.2.2.2.1 _ hw) (fun _ q => q) hd (h1.2 p e R s m args below meth c H locs cells slots ls C hP hS hl hz hc hs)
/-- a field of the String k: its coder, its bytes -/
abbrev o_tco {T : Type} (k nx : Nat) : nO T := fun go lv st M => match st with
  | .retAddr j :: r => n_ck (Nat.beq j k) (go nx lv (.int 0 :: r) M)
  | _ => none
abbrev o_tva {T : Type} (k k2 nx : Nat) : nO T := fun go lv st M => match st with
  | .retAddr j :: r => n_ck (Nat.beq j k) (go nx lv (.retAddr k2 :: r) M)
  | _ => none
theorem s_tco {l : Launch} {w : nW} {d : Nat} {μ : nY} {G : nG} {T : Type} {fin : T → nR} {pc : Nat} {idx i : Nat} (hT : n_PS w) (hi : i < 2) (hw : Cond.fieldLink μ.1 idx "java/lang/String" "coder" "B" ∈ lw_good) (hd : decode μ.2.2.1 pc = .ok (.getfield idx, 3)) : n_S l w d μ G fin pc (o_tco (i + 1) (pc + 3)) := by
  intro go r lv st M hg h
  unfold o_tco at h
  split at h
  · rename_i k rest
    obtain ⟨hb, h9⟩ := n_ck_some h
    have hk := n_beq hb
    have h1 := hg _ _ _ _ h9
    refine ⟨h1.1, fun p e R s m args below meth c H locs cells slots ls C hP hS hl hz hc hs => ?_⟩
    rw [List.map_cons, hk, n_rA_ne (k := i + 1) (by omega)]
    exact vk_getf C.1 C.2.1 ((hT s s.heap C.2.2.2.2.2.2.2.2.1.2.2.2.2).1.1 i hi).2.1 hS C.2.2.2.2.1 (C.2.2.2.2.2.2.2.1 _ hw) (fun _ q => q) hd (h1.2 p e R s m args below meth c H locs cells slots ls C hP hS hl hz hc hs)
  · cases h
theorem s_tva {l : Launch} {w : nW} {d : Nat} {μ : nY} {G : nG} {T : Type} {fin : T → nR} {pc : Nat} {idx i : Nat} (hT : n_PS w) (hi : i < 2) (hw : Cond.fieldLink μ.1 idx "java/lang/String" "value" "[B" ∈ lw_good) (hd : decode μ.2.2.1 pc = .ok (.getfield idx, 3)) : n_S l w d μ G fin pc (o_tva (i + 1) (i + 11) (pc + 3)) := by
  intro go r lv st M hg h
  unfold o_tva at h
  split at h
  · rename_i k rest
    obtain ⟨hb, h9⟩ := n_ck_some h
    have hk := n_beq hb
    have h1 := hg _ _ _ _ h9
    refine ⟨h1.1, fun p e R s m args below meth c H locs cells slots ls C hP hS hl hz hc hs => ?_⟩
    rw [List.map_cons, hk, n_rA_ne (k := i + 1) (by omega)]
    have h2 := h1.2 p e R s m args below meth c H locs cells slots ls C hP hS hl hz hc hs
    rw [List.map_cons, n_rA_ne (k := i + 11) (by omega)] at h2
    exact vk_getf C.1 C.2.1 ((hT s s.heap C.2.2.2.2.2.2.2.2.1.2.2.2.2).1.1 i hi).2.2.1 hS C.2.2.2.2.1 (C.2.2.2.2.2.2.2.1 _ hw) (fun _ q => q) hd h2
  · cases h
abbrev o_tle {T : Type} (k L nx : Nat) : nO T := fun go lv st M => match st with
  | .retAddr j :: r => n_ck (Nat.beq j k) (go nx lv (.int (Int32.ofNat L) :: r) M)
  | _ => none
theorem s_tle {l : Launch} {w : nW} {d : Nat} {μ : nY} {G : nG} {T : Type} {fin : T → nR} {pc : Nat} {i L : Nat} (hT : n_PS w) (hi : i < 2) (hL : n_tlen.getD i 0 = L) (hd : decode μ.2.2.1 pc = .ok (.arraylength, 1)) : n_S l w d μ G fin pc (o_tle (i + 11) L (pc + 1)) := by
  intro go r lv st M hg h
  unfold o_tle at h
  split at h
  · rename_i k rest
    obtain ⟨hb, h9⟩ := n_ck_some h
    have hk := n_beq hb
    have h1 := hg _ _ _ _ h9
    refine ⟨h1.1, fun p e R s m args below meth c H locs cells slots ls C hP hS hl hz hc hs => ?_⟩
    rw [List.map_cons, hk, n_rA_ne (k := i + 11) (by omega)]
    exact va_tlen C.1 C.2.1 ((hT s s.heap C.2.2.2.2.2.2.2.2.1.2.2.2.2).1.1 i hi).2.2.2 hS (by rw [hL]) hd (h1.2 p e R s m args below meth c H locs cells slots ls C hP hS hl hz hc hs)
  · cases h
abbrev o_tal {T : Type} (k L : Nat) (bs : List Int32) (nx : Nat) : nO T := fun go lv st M => match st with
  | .int i :: .retAddr j :: r => n_ck (Nat.beq j k) (n_chk (n_ib L i) (go nx lv (.int (bs.getD i.toNatClampNeg 0) :: r) M))
  | _ => none
theorem s_tal {l : Launch} {w : nW} {d : Nat} {μ : nY} {G : nG} {T : Type} {fin : T → nR} {pc : Nat} {i L : Nat} {bs : List Int32} (hT : n_PS w) (hi : i < 2) (hL : n_tlen.getD i 0 = L) (hB : n_tbyt.getD i [] = bs) (hd : decode μ.2.2.1 pc = .ok (.baload, 1)) : n_S l w d μ G fin pc (o_tal (i + 11) L bs (pc + 1)) := by
  intro go r lv st M hg h
  unfold o_tal at h
  split at h
  · rename_i z k rest
    obtain ⟨hb, h8⟩ := n_ck_some h
    obtain ⟨hz0, h9⟩ := n_chk_some h8
    have hk := n_beq hb
    have h1 := hg _ _ _ _ h9
    refine ⟨h1.1, fun p e R s m args below meth c H locs cells slots ls C hP hS hl hz hc hs => ?_⟩
    have hin : vp_in z L := by
      unfold n_ib at hz0
      simp only [Bool.and_eq_true, Bool.not_eq_true', decide_eq_false_iff_not] at hz0
      intro q
      rcases q with q | q
      · exact hz0.1 q
      · have : z.toNatClampNeg < L := Nat.le_of_ble_eq_true hz0.2
        omega
    rw [List.map_cons, List.map_cons, hk, n_rA_ne (k := i + 11) (by omega)]
    exact va_tb C.1 C.2.1 ((hT s s.heap C.2.2.2.2.2.2.2.2.1.2.2.2.2).1.1 i hi).2.2.2 hS (by rw [hL]; exact hin) (by simp only [hB]; rfl) hd (h1.2 p e R s m args below meth c H locs cells slots ls C hP hS hl hz hc hs)
  · cases h
abbrev n_rcs (k : Nat) (as : List Value) : Bool := match as with
  | .retAddr j :: _ => Nat.beq j k
  | _ => false
/-- a call on the String k -/
abbrev o_callT {T : Type} (k n : Nat) (f : nF) (nx : Nat) : nO T := fun go lv st M => match n_pop (n + 1) st [] with
  | some (as, r) => n_ck (n_rcs k as) (n_ck (Nat.ble (n_cs r) 8) (f T as M (fun v M' => go nx lv (n_psh v r) M')))
  | none => none
theorem s_callT {l : Launch} {w : nW} {d : Nat} {μ : nY} {G : nG} {T : Type} {fin : T → nR} {pc : Nat} {n idx d' i : Nat} {μ' : nY} {f : nF} (hT : n_PS w) (hi : i < 2) (hf : n_CS l w d' μ' G f) (hdd : d' + 1 ≤ d) (hm : n_MOK μ' n) (hst : Cond.instanceMethod μ'.2.1 ∈ lw_good) (hsel : Cond.selects "java/lang/String" μ'.2.1 μ'.2.1 ∈ lw_good) (hlk : Cond.methodLink μ.1 idx μ'.2.1 ∈ lw_good) (hd : decode μ.2.2.1 pc = .ok (.invokevirtual idx, 3)) : n_S l w d μ G fin pc (o_callT (i + 1) n f (pc + 3)) := by
  intro go r lv st M hg h
  unfold o_callT at h
  split at h
  · rename_i qas qr hq
    generalize hqe : (qas, qr) = q at hq
    have hq1 : qas = q.1 := by rw [← hqe]
    have hq2 : qr = q.2 := by rw [← hqe]
    rw [hq1, hq2] at h
    obtain ⟨hrc, h8⟩ := n_ck_some h
    obtain ⟨hb, h9⟩ := n_ck_some h8
    obtain ⟨v, M', hmet, hk⟩ := hf _ _ _ _ _ h9
    have h1 := hg _ _ _ _ hk
    refine ⟨h1.1, fun p e R s m args below meth c H locs cells slots ls C hP hS hl hz hc hs => ?_⟩
    obtain ⟨xs, e1, e2, e3⟩ := n_pop_spec hq
    rw [List.append_nil] at e2
    refine n_W_sz fun hu => ?_
    have hsz := n_size C.2.2.2.2.2.2.2.2.2.1 hP hS hz hu
    have ht := C.2.2.2.2.2.2.2.1
    have hfr := C.2.2.2.2.2.2.2.2.2.2.1
    have hlo := C.2.2.2.2.2.2.2.2.2.2.2
    have hml := hm.2.2.2
    have hB : CallB R s args μ.1 idx μ'.2.1 μ'.2.2.1 μ'.2.2.2.1 μ'.2.2.2.2 (n_wsm μ') (n_rm d' (n_n G - n_n G) (n_sl G - n_sl G)) (n_n G - n_n G) (n_sl G - n_sl G) n :=
      callB_of n ht (n_goodm hm.1) rfl rfl rfl (ht _ hm.2.1) (ht _ hlk) hm.2.2.1 ⟨by show d' + 1 + 1 ≤ R.frames; omega, by show 8 + (μ'.2.2.2.1 + 11) + 60 * (d' + 1) ≤ R.locals; omega⟩
    obtain ⟨As, hqa⟩ : ∃ (As : List Value), q.1 = .retAddr (i + 1) :: As := by
      unfold n_rcs at hrc
      split at hrc
      · rename_i a As hqa
        exact ⟨As, by rw [hqa, n_beq hrc]⟩
      · cases hrc
    have hxs : xs = As.reverse ++ [.retAddr (i + 1)] := by
      have := congrArg List.reverse (e2.symm.trans hqa)
      simpa using this
    have hlen : As.length = n := by
      have := e3
      rw [hxs] at this
      simpa using this
    have hmet2 := hmet.2
    have etr : n_tr w (.retAddr (i + 1)) = .ref (w.2.2.2.2.2.1 (i + 1)) := n_rA_ne (by omega)
    rw [hqa, List.map_cons, etr] at hmet2
    have hrun := va_runV (cells := cells) (slots := slots) (locs := locs) (p := p) (l := l) (e := e) (below := below) (meth := meth) (C := "java/lang/String") (b := w.2.2.2.2.2.1 (i + 1)) (As := As.map (n_tr w)) (rest := q.2.map (n_tr w)) (g := F0 m pc ls (st.map (n_tr w))) (H := H) ⟨C.1, C.2.1, C.2.2.2.1, C.2.2.2.2.1, ht⟩ hmet2 ⟨hB, ht _ hst, ht _ hsel⟩
      ⟨n_blind, vk_recv (i := i) (hT s s.heap C.2.2.2.2.2.2.2.2.1.2.2.2.2).1 hi hS, fun U hU hW => ⟨rfl, by rw [hU]; exact hP, n_K.warm hW (by rw [hU]; exact hS.2.1) C.2.2.2.2.2.2.2.2.1, by rw [hU]; exact hsz⟩⟩ rfl (by simp [hlen]) hl.1 (by show st.map (n_tr w) = _; rw [e1, hxs]; simp [etr]) (lv_room (by rw [n_cs_tr]; exact Nat.le_of_ble_eq_true hb)) hd ⟨by rw [Nat.sub_self]; omega, by rw [Nat.sub_self]; omega⟩
    refine n_after hrun hS (fun H locs hP hS => ?_)
    rw [n_psh_tr]
    rw [Nat.sub_self, Nat.sub_self, Nat.add_zero, Nat.add_zero]
    exact h1.2 p e R s m args below meth c H locs cells slots ls C hP hS hl hz hc hs
  · cases h
/-- what a method answers that is said to be a char or a byte -/
abbrev o_cret : nO (Int32 × nM) := fun _ _ st M => match st with
  | [.int v] => n_chk (v.toUInt32.toUInt16.toUInt32.toInt32 == v) (some (v, M))
  | _ => none
abbrev o_bret : nO (Int32 × nM) := fun _ _ st M => match st with
  | [.int v] => n_chk (v.toInt8.toInt32 == v) (some (v, M))
  | _ => none
theorem s_cret {l : Launch} {w : nW} {d : Nat} {μ : nY} {G : nG} {pc : Nat} (hr : μ.2.2.2.2 = some .char) (hd : decode μ.2.2.1 pc = .ok (.ireturn, 1)) : n_S l w d μ G (n_fin dv_i G) pc o_cret := by
  intro go r lv st M hg h
  unfold o_cret at h
  split at h
  · rename_i v
    obtain ⟨hb, h9⟩ := n_chk_some h
    simp only [beq_iff_eq] at hb
    cases h9
    refine ⟨⟨Nat.le_refl _, Nat.le_refl _⟩, fun p e R s m args below meth c H locs cells slots ls C hP hS hl hz hc hs => ?_⟩
    simp only [Nat.sub_self, Nat.add_zero]
    exact W.zret C.1 C.2.1 (by rw [C.2.2.1]; exact hr) (by show Value.int _ = _; rw [hb]) (fun t ht hW => ⟨⟨rfl, by rw [ht]; exact hP, n_K.warm hW (by rw [ht]; exact hS.2.1) C.2.2.2.2.2.2.2.2.1⟩, hS.F ht⟩) hS.2.2 hd C.2.2.2.2.2.1
  · cases h
theorem s_bret {l : Launch} {w : nW} {d : Nat} {μ : nY} {G : nG} {pc : Nat} (hr : μ.2.2.2.2 = some .byte) (hd : decode μ.2.2.1 pc = .ok (.ireturn, 1)) : n_S l w d μ G (n_fin dv_i G) pc o_bret := by
  intro go r lv st M hg h
  unfold o_bret at h
  split at h
  · rename_i v
    obtain ⟨hb, h9⟩ := n_chk_some h
    simp only [beq_iff_eq] at hb
    cases h9
    refine ⟨⟨Nat.le_refl _, Nat.le_refl _⟩, fun p e R s m args below meth c H locs cells slots ls C hP hS hl hz hc hs => ?_⟩
    simp only [Nat.sub_self, Nat.add_zero]
    exact W.zret C.1 C.2.1 (by rw [C.2.2.1]; exact hr) (by show Value.int _ = _; rw [hb]) (fun t ht hW => ⟨⟨rfl, by rw [ht]; exact hP, n_K.warm hW (by rw [ht]; exact hS.2.1) C.2.2.2.2.2.2.2.2.1⟩, hS.F ht⟩) hS.2.2 hd C.2.2.2.2.2.1
  · cases h
abbrev o_no {T : Type} : nO T := fun _ _ _ _ => none
theorem s_no {l : Launch} {w : nW} {d : Nat} {μ : nY} {G : nG} {T : Type} {fin : T → nR} {pc : Nat} : n_S l w d μ G fin pc o_no := fun _ _ _ _ _ _ h => by cases h
abbrev n_pS {α : Type} (a0 : Nat) (st : List Value) (k : List Value → Option α) : Option α := match st with
  | .retAddr x :: t => n_ck (Nat.beq x a0) (k t)
  | _ => none
theorem n_pS_x {α : Type} {a0 : Nat} {st : List Value} {k : List Value → Option α} {r : α} (h : n_pS a0 st k = some r) : ∃ (t : List Value), st = .retAddr a0 :: t ∧ k t = some r := by
  unfold n_pS at h
  split at h
  · obtain ⟨hb, h⟩ := n_ck_some h
    rw [n_beq hb]
    exact ⟨_, rfl, h⟩
  · cases h
abbrev n_lS {α : Type} (a0 : Nat) (lv : nL) (i : Nat) (k : Option α) : Option α := match n_lk lv i with
  | some (.retAddr x) => n_ck (Nat.beq x a0) k
  | _ => none
theorem n_lS_x {α : Type} {a0 : Nat} {lv : nL} {i : Nat} {k : Option α} {r : α} (h : n_lS a0 lv i k = some r) : n_lk lv i = some (.retAddr a0) ∧ k = some r := by
  unfold n_lS at h
  split at h
  · rename_i x hx
    obtain ⟨hb, h⟩ := n_ck_some h
    rw [n_beq hb] at hx
    exact ⟨hx, h⟩
  · cases h
