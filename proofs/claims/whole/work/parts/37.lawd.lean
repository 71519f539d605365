/-! ===== the law, case by case ===== -/
abbrev lw_sw : List (Int32 × Nat) := [((0 : Int32), 228), ((1 : Int32), 251), ((2 : Int32), 294), ((3 : Int32), 327), ((4 : Int32), 370), ((5 : Int32), 413), ((6 : Int32), 446), ((7 : Int32), 479), ((8 : Int32), 502), ((9 : Int32), 565), ((10 : Int32), 588), ((11 : Int32), 611), ((12 : Int32), 634), ((13 : Int32), 667), ((14 : Int32), 700), ((15 : Int32), 733), ((16 : Int32), 786), ((17 : Int32), 819), ((18 : Int32), 852), ((19 : Int32), 895), ((20 : Int32), 928), ((21 : Int32), 961), ((22 : Int32), 984), ((23 : Int32), 1007), ((24 : Int32), 1040), ((25 : Int32), 1073), ((26 : Int32), 1096), ((27 : Int32), 1129), ((28 : Int32), 1152), ((29 : Int32), 1195), ((30 : Int32), 1228), ((31 : Int32), 1251), ((32 : Int32), 1284), ((33 : Int32), 1317), ((34 : Int32), 1350), ((35 : Int32), 1383), ((36 : Int32), 1416), ((37 : Int32), 1475), ((38 : Int32), 1498), ((39 : Int32), 1521), ((40 : Int32), 1554), ((41 : Int32), 1577), ((42 : Int32), 1600), ((43 : Int32), 1613), ((44 : Int32), 1652)]
def lw_lv (i : Int32) : nL := [(0, .retAddr 0), (1, .ref 1), (2, .ref 107), (3, .int i)]
/-- the law at pc, its counter i -/
def n_Lw (l : Launch) (w : nW) (nm : String) (pc : Nat) (i : Int32) (h : nH) (r : nR) : Prop := n_At l w 530 (n_mlaw nm) pc (lw_lv i) [] h r
noncomputable def n_one (i : Int32) (M2 : nM) (r : nR) : Int32 → nM → Option nR := fun y M => @ite _ (y = i ∧ M = M2) (Classical.propDecidable _) (some r) none
theorem n_one_at (i : Int32) (M2 : nM) (r : nR) : n_one i M2 r i M2 = some r := if_pos ⟨rfl, rfl⟩
theorem n_one_x {i y : Int32} {M M2 : nM} {r q : nR} (h : n_one i M2 r y M = some q) : y = i ∧ M = M2 ∧ r = q := by
  unfold n_one at h
  split at h
  · rename_i e
    exact ⟨e.1, e.2, Option.some.inj h⟩
  · cases h
noncomputable def n_oned (i : Int32) (h2 : nH) (r : nR) : Int32 → nH → Option nR := fun y h => @ite _ (y = i ∧ h = h2) (Classical.propDecidable _) (some r) none
theorem n_oned_at (i : Int32) (h2 : nH) (r : nR) : n_oned i h2 r i h2 = some r := if_pos ⟨rfl, rfl⟩
theorem n_oned_x {i y : Int32} {h h2 : nH} {r q : nR} (e : n_oned i h2 r y h = some q) : y = i ∧ h = h2 ∧ r = q := by
  unfold n_oned at e
  split at e
  · rename_i e1
    exact ⟨e1.1, e1.2, Option.some.inj e⟩
  · cases e
theorem n_sw_id {α : Type} (k : Nat → α) (d : Nat) (x : Int32) : ∀ ps : List (Int32 × Nat), n_sw ps d x k = k (n_sw ps d x id)
  | [] => rfl
  | q :: t => by
    unfold n_sw
    by_cases h : x = q.1
    · rw [if_pos h, if_pos h]; rfl
    · rw [if_neg h, if_neg h]; exact n_sw_id k d x t
/-- a call of what makes cells, on an object -/
abbrev o_callVd {T : Type} (ci n : Nat) (f : nFd) (nx : Nat) : nD T := fun go lv st h => match n_pop (n + 1) st [] with
  | some (as, r) => n_chk (n_rcv h.1 ci as && Nat.ble (n_cs r) 8) (f T as h (fun v h' => go nx lv (n_psh v r) h'))
  | none => none
theorem s_callVd {l : Launch} {w : nW} {d : Nat} {μ : nY} {T : Type} {fin : T → nR} {pc : Nat} {n idx d' ci N : Nat} {C0 : String} {TT : u_T} {μ' : nY} {f : nFd} (hf : n_CSd l w d' μ' f) (hdd : d' + 1 ≤ d) (hm : n_MOK μ' n) (ok : n_OK ci C0 TT N) (hst : Cond.instanceMethod μ'.2.1 ∈ lw_good) (hsel : Cond.selects C0 μ'.2.1 μ'.2.1 ∈ lw_good) (hlk : Cond.methodLink μ.1 idx μ'.2.1 ∈ lw_good) (hd : decode μ.2.2.1 pc = .ok (.invokevirtual idx, 3)) : n_Sd l w d μ fin pc (o_callVd ci n f (pc + 3)) := by
  intro go r lv st h hg hr
  unfold o_callVd at hr
  split at hr
  · rename_i qas qr hq
    generalize hqe : (qas, qr) = q at hq
    have hq1 : qas = q.1 := by rw [← hqe]
    have hq2 : qr = q.2 := by rw [← hqe]
    rw [hq1, hq2] at hr
    obtain ⟨hb, hr⟩ := n_chk_some hr
    simp only [Bool.and_eq_true] at hb
    obtain ⟨hrc, hb⟩ := hb
    obtain ⟨v, h2, hmet, hk⟩ := hf _ _ _ _ _ hr
    have h1 := hg _ _ _ _ hk
    have g1 := h1.1
    have g2 := hmet.1
    simp only at g2
    refine ⟨by omega, fun p e R s m args below meth c H locs cells slots ls C hP hS hl hz hc hs => ?_⟩
    obtain ⟨xs, e1, e2, e3⟩ := n_pop_spec hq
    rw [List.append_nil] at e2
    refine n_W_sz fun hu => ?_
    have hsz := n_size C.2.2.2.2.2.2.2.2.2.1 hP hS hz hu
    have ht := C.2.2.2.2.2.2.2.1
    have hfr := C.2.2.2.2.2.2.2.2.2.2.1
    have hlo := C.2.2.2.2.2.2.2.2.2.2.2
    have hml := hm.2.2.2
    have hB : CallB R s args μ.1 idx μ'.2.1 μ'.2.2.1 μ'.2.2.2.1 μ'.2.2.2.2 (n_wsm μ') (n_rm d' (n_n h2.1 - n_n h.1) (n_sl h2.1 - n_sl h.1)) (n_n h2.1 - n_n h.1) (n_sl h2.1 - n_sl h.1) n :=
      callB_of n ht (n_goodm hm.1) rfl rfl rfl (ht _ hm.2.1) (ht _ hlk) hm.2.2.1 ⟨by show d' + 1 + 1 ≤ R.frames; omega, by show 8 + (μ'.2.2.2.1 + 11) + 60 * (d' + 1) ≤ R.locals; omega⟩
    obtain ⟨a, As, hqa, hkd⟩ : ∃ (a : Nat) (As : List Value), q.1 = .ref a :: As ∧ n_kd h.1 a = ci := by
      unfold n_rcv at hrc
      split at hrc
      · rename_i a As hqa
        exact ⟨a, As, hqa, n_beq hrc⟩
      · cases hrc
    obtain ⟨a1, a2⟩ := hP.1 a (by have := ok.1; omega)
    have he := n_ws_get (w := w) (h := h) a1 a2
    rw [n_cell_obj (h := h) hkd ok.1] at he
    have hxs : xs = As.reverse ++ [.ref a] := by
      have := congrArg List.reverse (e2.symm.trans hqa)
      simpa using this
    have hlen : As.length = n := by
      have := e3
      rw [hxs] at this
      simpa using this
    have hmet2 := hmet.2
    rw [hqa, List.map_cons, n_ref a1] at hmet2
    have hrun := va_runV (cells := cells) (slots := slots) (locs := locs) (p := p) (l := l) (e := e) (below := below) (meth := meth) (C := C0) (b := w.1 + a) (As := As.map (n_tr w)) (rest := q.2.map (n_tr w)) (g := F0 m pc ls (st.map (n_tr w))) (H := H) ⟨C.1, C.2.1, C.2.2.2.1, C.2.2.2.2.1, ht⟩ hmet2 ⟨hB, ht _ hst, ht _ hsel⟩
      ⟨n_blind, va_recv C.2.2.2.2.2.2.2.2.1.1 hP.2 ok.2.1 he, fun U hU hW => ⟨rfl, by rw [hU]; exact hP, n_K.warm hW (by rw [hU]; exact hS.2.1) C.2.2.2.2.2.2.2.2.1, by rw [hU]; exact hsz⟩⟩ rfl (by simp [hlen]) hl.1 (by show st.map (n_tr w) = _; rw [e1, hxs]; simp [n_ref a1]) (lv_room (by rw [n_cs_tr]; exact Nat.le_of_ble_eq_true hb)) hd ⟨by simp only; omega, by simp only; omega⟩
    refine n_after hrun hS (fun H locs hP hS => ?_)
    rw [n_psh_tr]
    have h3 := h1.2 p e R s m args below meth c H locs (cells + (n_n h2.1 - n_n h.1)) (slots + (n_sl h2.1 - n_sl h.1)) ls C hP hS hl (by omega) (by omega) (by omega)
    have e8 : cells + (n_n h2.1 - n_n h.1) + (n_n (fin r).2.1 - n_n h2.1) = cells + (n_n (fin r).2.1 - n_n h.1) := by omega
    have e9 : slots + (n_sl h2.1 - n_sl h.1) + (n_sl (fin r).2.1 - n_sl h2.1) = slots + (n_sl (fin r).2.1 - n_sl h.1) := by omega
    rw [e8, e9] at h3
    exact h3
  · cases hr

/-! ===== words of the law ===== -/
theorem w_159 : Jvm.Cond.classLink "SleightHouseLaw" (7 : Nat) "SleightHouse" ∈ lw_good := lw_good_in 159 (by decide +kernel) (by decide +kernel)
theorem w_160 : Jvm.Cond.instantiable "SleightHouse" (8 : Nat) ∈ lw_good := lw_good_in 160 (by decide +kernel) (by decide +kernel)
theorem w_161 : Jvm.Cond.methodLink "SleightHouseLaw" (9 : Nat) ({ cls := "SleightHouse", name := "<init>", desc := "()V" } : Jvm.MethodName) ∈ lw_good := lw_good_in 161 (by decide +kernel) (by decide +kernel)
theorem w_162 : Jvm.Cond.instanceMethod ({ cls := "SleightHouse", name := "<init>", desc := "()V" } : Jvm.MethodName) ∈ lw_good := lw_good_in 162 (by decide +kernel) (by decide +kernel)
theorem w_597 : Jvm.Cond.methodLink "SleightHouseLaw" (13 : Nat) ({ cls := "SleightHouse", name := "state", desc := "(I)I" } : Jvm.MethodName) ∈ lw_good := lw_good_in 597 (by decide +kernel) (by decide +kernel)
theorem w_598 : Jvm.Cond.instanceMethod ({ cls := "SleightHouse", name := "state", desc := "(I)I" } : Jvm.MethodName) ∈ lw_good := lw_good_in 598 (by decide +kernel) (by decide +kernel)
theorem w_599 : Jvm.Cond.selects "SleightHouse" ({ cls := "SleightHouse", name := "state", desc := "(I)I" } : Jvm.MethodName) ({ cls := "SleightHouse", name := "state", desc := "(I)I" } : Jvm.MethodName) ∈ lw_good := lw_good_in 599 (by decide +kernel) (by decide +kernel)
theorem w_605 : Jvm.Cond.methodLink "SleightHouseLaw" (18 : Nat) ({ cls := "SleightHouse", name := "thing", desc := "(III)I" } : Jvm.MethodName) ∈ lw_good := lw_good_in 605 (by decide +kernel) (by decide +kernel)
theorem w_606 : Jvm.Cond.instanceMethod ({ cls := "SleightHouse", name := "thing", desc := "(III)I" } : Jvm.MethodName) ∈ lw_good := lw_good_in 606 (by decide +kernel) (by decide +kernel)
theorem w_607 : Jvm.Cond.selects "SleightHouse" ({ cls := "SleightHouse", name := "thing", desc := "(III)I" } : Jvm.MethodName) ({ cls := "SleightHouse", name := "thing", desc := "(III)I" } : Jvm.MethodName) ∈ lw_good := lw_good_in 607 (by decide +kernel) (by decide +kernel)
theorem w_627 : Jvm.Cond.methodLink "SleightHouseLaw" (23 : Nat) ({ cls := "SleightHouse", name := "person", desc := "(II)I" } : Jvm.MethodName) ∈ lw_good := lw_good_in 627 (by decide +kernel) (by decide +kernel)
theorem w_628 : Jvm.Cond.instanceMethod ({ cls := "SleightHouse", name := "person", desc := "(II)I" } : Jvm.MethodName) ∈ lw_good := lw_good_in 628 (by decide +kernel) (by decide +kernel)
theorem w_629 : Jvm.Cond.selects "SleightHouse" ({ cls := "SleightHouse", name := "person", desc := "(II)I" } : Jvm.MethodName) ({ cls := "SleightHouse", name := "person", desc := "(II)I" } : Jvm.MethodName) ∈ lw_good := lw_good_in 629 (by decide +kernel) (by decide +kernel)
theorem w_639 : Jvm.Cond.methodLink "SleightHouseLaw" (28 : Nat) ({ cls := "SleightHouse", name := "set", desc := "(III)Z" } : Jvm.MethodName) ∈ lw_good := lw_good_in 639 (by decide +kernel) (by decide +kernel)
theorem w_640 : Jvm.Cond.instanceMethod ({ cls := "SleightHouse", name := "set", desc := "(III)Z" } : Jvm.MethodName) ∈ lw_good := lw_good_in 640 (by decide +kernel) (by decide +kernel)
theorem w_641 : Jvm.Cond.selects "SleightHouse" ({ cls := "SleightHouse", name := "set", desc := "(III)Z" } : Jvm.MethodName) ({ cls := "SleightHouse", name := "set", desc := "(III)Z" } : Jvm.MethodName) ∈ lw_good := lw_good_in 641 (by decide +kernel) (by decide +kernel)
theorem w_663 : Jvm.Cond.methodLink "SleightHouseLaw" (33 : Nat) ({ cls := "SleightHouse", name := "puts", desc := "(III)I" } : Jvm.MethodName) ∈ lw_good := lw_good_in 663 (by decide +kernel) (by decide +kernel)
theorem w_664 : Jvm.Cond.instanceMethod ({ cls := "SleightHouse", name := "puts", desc := "(III)I" } : Jvm.MethodName) ∈ lw_good := lw_good_in 664 (by decide +kernel) (by decide +kernel)
theorem w_665 : Jvm.Cond.selects "SleightHouse" ({ cls := "SleightHouse", name := "puts", desc := "(III)I" } : Jvm.MethodName) ({ cls := "SleightHouse", name := "puts", desc := "(III)I" } : Jvm.MethodName) ∈ lw_good := lw_good_in 665 (by decide +kernel) (by decide +kernel)
theorem w_760 : Jvm.Cond.methodLink "SleightHouseLaw" (37 : Nat) ({ cls := "SleightHouse", name := "search", desc := "(II)I" } : Jvm.MethodName) ∈ lw_good := lw_good_in 760 (by decide +kernel) (by decide +kernel)
theorem w_761 : Jvm.Cond.instanceMethod ({ cls := "SleightHouse", name := "search", desc := "(II)I" } : Jvm.MethodName) ∈ lw_good := lw_good_in 761 (by decide +kernel) (by decide +kernel)
theorem w_762 : Jvm.Cond.selects "SleightHouse" ({ cls := "SleightHouse", name := "search", desc := "(II)I" } : Jvm.MethodName) ({ cls := "SleightHouse", name := "search", desc := "(II)I" } : Jvm.MethodName) ∈ lw_good := lw_good_in 762 (by decide +kernel) (by decide +kernel)
theorem w_772 : Jvm.Cond.methodLink "SleightHouseLaw" (41 : Nat) ({ cls := "SleightHouse", name := "act", desc := "(II)Z" } : Jvm.MethodName) ∈ lw_good := lw_good_in 772 (by decide +kernel) (by decide +kernel)
theorem w_773 : Jvm.Cond.instanceMethod ({ cls := "SleightHouse", name := "act", desc := "(II)Z" } : Jvm.MethodName) ∈ lw_good := lw_good_in 773 (by decide +kernel) (by decide +kernel)
theorem w_774 : Jvm.Cond.selects "SleightHouse" ({ cls := "SleightHouse", name := "act", desc := "(II)Z" } : Jvm.MethodName) ({ cls := "SleightHouse", name := "act", desc := "(II)Z" } : Jvm.MethodName) ∈ lw_good := lw_good_in 774 (by decide +kernel) (by decide +kernel)
theorem w_777 : Jvm.Cond.methodLink "SleightHouseLaw" (46 : Nat) ({ cls := "SleightHouse", name := "hours", desc := "(I)I" } : Jvm.MethodName) ∈ lw_good := lw_good_in 777 (by decide +kernel) (by decide +kernel)
theorem w_778 : Jvm.Cond.instanceMethod ({ cls := "SleightHouse", name := "hours", desc := "(I)I" } : Jvm.MethodName) ∈ lw_good := lw_good_in 778 (by decide +kernel) (by decide +kernel)
theorem w_779 : Jvm.Cond.selects "SleightHouse" ({ cls := "SleightHouse", name := "hours", desc := "(I)I" } : Jvm.MethodName) ({ cls := "SleightHouse", name := "hours", desc := "(I)I" } : Jvm.MethodName) ∈ lw_good := lw_good_in 779 (by decide +kernel) (by decide +kernel)
theorem w_805 : Jvm.Cond.methodLink "SleightHouseLaw" (50 : Nat) ({ cls := "SleightHouse", name := "feed", desc := "(IIIII)I" } : Jvm.MethodName) ∈ lw_good := lw_good_in 805 (by decide +kernel) (by decide +kernel)
theorem w_806 : Jvm.Cond.instanceMethod ({ cls := "SleightHouse", name := "feed", desc := "(IIIII)I" } : Jvm.MethodName) ∈ lw_good := lw_good_in 806 (by decide +kernel) (by decide +kernel)
theorem w_807 : Jvm.Cond.selects "SleightHouse" ({ cls := "SleightHouse", name := "feed", desc := "(IIIII)I" } : Jvm.MethodName) ({ cls := "SleightHouse", name := "feed", desc := "(IIIII)I" } : Jvm.MethodName) ∈ lw_good := lw_good_in 807 (by decide +kernel) (by decide +kernel)
theorem w_813 : Jvm.Cond.methodLink "SleightHouseLaw" (55 : Nat) ({ cls := "SleightHouse", name := "end", desc := "(I)Z" } : Jvm.MethodName) ∈ lw_good := lw_good_in 813 (by decide +kernel) (by decide +kernel)
theorem w_814 : Jvm.Cond.instanceMethod ({ cls := "SleightHouse", name := "end", desc := "(I)Z" } : Jvm.MethodName) ∈ lw_good := lw_good_in 814 (by decide +kernel) (by decide +kernel)
theorem w_815 : Jvm.Cond.selects "SleightHouse" ({ cls := "SleightHouse", name := "end", desc := "(I)Z" } : Jvm.MethodName) ({ cls := "SleightHouse", name := "end", desc := "(I)Z" } : Jvm.MethodName) ∈ lw_good := lw_good_in 815 (by decide +kernel) (by decide +kernel)
theorem w_817 : Jvm.Cond.methodLink "SleightHouseLaw" (60 : Nat) ({ cls := "SleightHouse", name := "text", desc := "(I)I" } : Jvm.MethodName) ∈ lw_good := lw_good_in 817 (by decide +kernel) (by decide +kernel)
theorem w_818 : Jvm.Cond.instanceMethod ({ cls := "SleightHouse", name := "text", desc := "(I)I" } : Jvm.MethodName) ∈ lw_good := lw_good_in 818 (by decide +kernel) (by decide +kernel)
theorem w_819 : Jvm.Cond.selects "SleightHouse" ({ cls := "SleightHouse", name := "text", desc := "(I)I" } : Jvm.MethodName) ({ cls := "SleightHouse", name := "text", desc := "(I)I" } : Jvm.MethodName) ∈ lw_good := lw_good_in 819 (by decide +kernel) (by decide +kernel)
theorem w_1065 : Jvm.Cond.methodLink "SleightHouseLaw" (64 : Nat) ({ cls := "SleightHouse", name := "fault", desc := "(I)I" } : Jvm.MethodName) ∈ lw_good := lw_good_in 1065 (by decide +kernel) (by decide +kernel)
theorem w_1066 : Jvm.Cond.instanceMethod ({ cls := "SleightHouse", name := "fault", desc := "(I)I" } : Jvm.MethodName) ∈ lw_good := lw_good_in 1066 (by decide +kernel) (by decide +kernel)
theorem w_1067 : Jvm.Cond.selects "SleightHouse" ({ cls := "SleightHouse", name := "fault", desc := "(I)I" } : Jvm.MethodName) ({ cls := "SleightHouse", name := "fault", desc := "(I)I" } : Jvm.MethodName) ∈ lw_good := lw_good_in 1067 (by decide +kernel) (by decide +kernel)
theorem w_1069 : Jvm.Cond.methodLink "SleightHouseLaw" (68 : Nat) ({ cls := "SleightHouse", name := "place", desc := "(II)I" } : Jvm.MethodName) ∈ lw_good := lw_good_in 1069 (by decide +kernel) (by decide +kernel)
theorem w_1070 : Jvm.Cond.instanceMethod ({ cls := "SleightHouse", name := "place", desc := "(II)I" } : Jvm.MethodName) ∈ lw_good := lw_good_in 1070 (by decide +kernel) (by decide +kernel)
theorem w_1071 : Jvm.Cond.selects "SleightHouse" ({ cls := "SleightHouse", name := "place", desc := "(II)I" } : Jvm.MethodName) ({ cls := "SleightHouse", name := "place", desc := "(II)I" } : Jvm.MethodName) ∈ lw_good := lw_good_in 1071 (by decide +kernel) (by decide +kernel)
theorem w_1079 : Jvm.Cond.methodLink "SleightHouseLaw" (72 : Nat) ({ cls := "SleightHouse", name := "of", desc := "(II)I" } : Jvm.MethodName) ∈ lw_good := lw_good_in 1079 (by decide +kernel) (by decide +kernel)
theorem w_1080 : Jvm.Cond.instanceMethod ({ cls := "SleightHouse", name := "of", desc := "(II)I" } : Jvm.MethodName) ∈ lw_good := lw_good_in 1080 (by decide +kernel) (by decide +kernel)
theorem w_1081 : Jvm.Cond.selects "SleightHouse" ({ cls := "SleightHouse", name := "of", desc := "(II)I" } : Jvm.MethodName) ({ cls := "SleightHouse", name := "of", desc := "(II)I" } : Jvm.MethodName) ∈ lw_good := lw_good_in 1081 (by decide +kernel) (by decide +kernel)
theorem w_1083 : Jvm.Cond.methodLink "SleightHouseLaw" (76 : Nat) ({ cls := "SleightHouse", name := "who", desc := "(II)I" } : Jvm.MethodName) ∈ lw_good := lw_good_in 1083 (by decide +kernel) (by decide +kernel)
theorem w_1084 : Jvm.Cond.instanceMethod ({ cls := "SleightHouse", name := "who", desc := "(II)I" } : Jvm.MethodName) ∈ lw_good := lw_good_in 1084 (by decide +kernel) (by decide +kernel)
theorem w_1085 : Jvm.Cond.selects "SleightHouse" ({ cls := "SleightHouse", name := "who", desc := "(II)I" } : Jvm.MethodName) ({ cls := "SleightHouse", name := "who", desc := "(II)I" } : Jvm.MethodName) ∈ lw_good := lw_good_in 1085 (by decide +kernel) (by decide +kernel)
theorem w_1093 : Jvm.Cond.methodLink "SleightHouseLaw" (80 : Nat) ({ cls := "SleightHouse", name := "tells", desc := "(IIII)I" } : Jvm.MethodName) ∈ lw_good := lw_good_in 1093 (by decide +kernel) (by decide +kernel)
theorem w_1094 : Jvm.Cond.instanceMethod ({ cls := "SleightHouse", name := "tells", desc := "(IIII)I" } : Jvm.MethodName) ∈ lw_good := lw_good_in 1094 (by decide +kernel) (by decide +kernel)
theorem w_1095 : Jvm.Cond.selects "SleightHouse" ({ cls := "SleightHouse", name := "tells", desc := "(IIII)I" } : Jvm.MethodName) ({ cls := "SleightHouse", name := "tells", desc := "(IIII)I" } : Jvm.MethodName) ∈ lw_good := lw_good_in 1095 (by decide +kernel) (by decide +kernel)
theorem w_1098 : Jvm.Cond.methodLink "SleightHouseLaw" (85 : Nat) ({ cls := "SleightHouse", name := "book", desc := "(II)I" } : Jvm.MethodName) ∈ lw_good := lw_good_in 1098 (by decide +kernel) (by decide +kernel)
theorem w_1099 : Jvm.Cond.instanceMethod ({ cls := "SleightHouse", name := "book", desc := "(II)I" } : Jvm.MethodName) ∈ lw_good := lw_good_in 1099 (by decide +kernel) (by decide +kernel)
theorem w_1100 : Jvm.Cond.selects "SleightHouse" ({ cls := "SleightHouse", name := "book", desc := "(II)I" } : Jvm.MethodName) ({ cls := "SleightHouse", name := "book", desc := "(II)I" } : Jvm.MethodName) ∈ lw_good := lw_good_in 1100 (by decide +kernel) (by decide +kernel)
theorem w_1103 : Jvm.Cond.methodLink "SleightHouseLaw" (89 : Nat) ({ cls := "SleightHouse", name := "goes", desc := "(II)I" } : Jvm.MethodName) ∈ lw_good := lw_good_in 1103 (by decide +kernel) (by decide +kernel)
theorem w_1104 : Jvm.Cond.instanceMethod ({ cls := "SleightHouse", name := "goes", desc := "(II)I" } : Jvm.MethodName) ∈ lw_good := lw_good_in 1104 (by decide +kernel) (by decide +kernel)
theorem w_1105 : Jvm.Cond.selects "SleightHouse" ({ cls := "SleightHouse", name := "goes", desc := "(II)I" } : Jvm.MethodName) ({ cls := "SleightHouse", name := "goes", desc := "(II)I" } : Jvm.MethodName) ∈ lw_good := lw_good_in 1105 (by decide +kernel) (by decide +kernel)
theorem w_1117 : Jvm.Cond.methodLink "SleightHouseLaw" (93 : Nat) ({ cls := "SleightHouse", name := "where", desc := "(III)I" } : Jvm.MethodName) ∈ lw_good := lw_good_in 1117 (by decide +kernel) (by decide +kernel)
theorem w_1118 : Jvm.Cond.instanceMethod ({ cls := "SleightHouse", name := "where", desc := "(III)I" } : Jvm.MethodName) ∈ lw_good := lw_good_in 1118 (by decide +kernel) (by decide +kernel)
theorem w_1119 : Jvm.Cond.selects "SleightHouse" ({ cls := "SleightHouse", name := "where", desc := "(III)I" } : Jvm.MethodName) ({ cls := "SleightHouse", name := "where", desc := "(III)I" } : Jvm.MethodName) ∈ lw_good := lw_good_in 1119 (by decide +kernel) (by decide +kernel)
theorem w_1121 : Jvm.Cond.methodLink "SleightHouseLaw" (97 : Nat) ({ cls := "SleightHouse", name := "brings", desc := "(II)I" } : Jvm.MethodName) ∈ lw_good := lw_good_in 1121 (by decide +kernel) (by decide +kernel)
theorem w_1122 : Jvm.Cond.instanceMethod ({ cls := "SleightHouse", name := "brings", desc := "(II)I" } : Jvm.MethodName) ∈ lw_good := lw_good_in 1122 (by decide +kernel) (by decide +kernel)
theorem w_1123 : Jvm.Cond.selects "SleightHouse" ({ cls := "SleightHouse", name := "brings", desc := "(II)I" } : Jvm.MethodName) ({ cls := "SleightHouse", name := "brings", desc := "(II)I" } : Jvm.MethodName) ∈ lw_good := lw_good_in 1123 (by decide +kernel) (by decide +kernel)
theorem w_1125 : Jvm.Cond.methodLink "SleightHouseLaw" (101 : Nat) ({ cls := "SleightHouse", name := "swap", desc := "(II)I" } : Jvm.MethodName) ∈ lw_good := lw_good_in 1125 (by decide +kernel) (by decide +kernel)
theorem w_1126 : Jvm.Cond.instanceMethod ({ cls := "SleightHouse", name := "swap", desc := "(II)I" } : Jvm.MethodName) ∈ lw_good := lw_good_in 1126 (by decide +kernel) (by decide +kernel)
theorem w_1127 : Jvm.Cond.selects "SleightHouse" ({ cls := "SleightHouse", name := "swap", desc := "(II)I" } : Jvm.MethodName) ({ cls := "SleightHouse", name := "swap", desc := "(II)I" } : Jvm.MethodName) ∈ lw_good := lw_good_in 1127 (by decide +kernel) (by decide +kernel)
theorem w_1131 : Jvm.Cond.methodLink "SleightHouseLaw" (105 : Nat) ({ cls := "SleightHouse", name := "under", desc := "(I)I" } : Jvm.MethodName) ∈ lw_good := lw_good_in 1131 (by decide +kernel) (by decide +kernel)
theorem w_1132 : Jvm.Cond.instanceMethod ({ cls := "SleightHouse", name := "under", desc := "(I)I" } : Jvm.MethodName) ∈ lw_good := lw_good_in 1132 (by decide +kernel) (by decide +kernel)
theorem w_1133 : Jvm.Cond.selects "SleightHouse" ({ cls := "SleightHouse", name := "under", desc := "(I)I" } : Jvm.MethodName) ({ cls := "SleightHouse", name := "under", desc := "(I)I" } : Jvm.MethodName) ∈ lw_good := lw_good_in 1133 (by decide +kernel) (by decide +kernel)
theorem w_1147 : Jvm.Cond.methodLink "SleightHouseLaw" (109 : Nat) ({ cls := "SleightHouse", name := "pick", desc := "(I)I" } : Jvm.MethodName) ∈ lw_good := lw_good_in 1147 (by decide +kernel) (by decide +kernel)
theorem w_1148 : Jvm.Cond.instanceMethod ({ cls := "SleightHouse", name := "pick", desc := "(I)I" } : Jvm.MethodName) ∈ lw_good := lw_good_in 1148 (by decide +kernel) (by decide +kernel)
theorem w_1149 : Jvm.Cond.selects "SleightHouse" ({ cls := "SleightHouse", name := "pick", desc := "(I)I" } : Jvm.MethodName) ({ cls := "SleightHouse", name := "pick", desc := "(I)I" } : Jvm.MethodName) ∈ lw_good := lw_good_in 1149 (by decide +kernel) (by decide +kernel)
theorem w_1151 : Jvm.Cond.methodLink "SleightHouseLaw" (113 : Nat) ({ cls := "SleightHouse", name := "card", desc := "(II)I" } : Jvm.MethodName) ∈ lw_good := lw_good_in 1151 (by decide +kernel) (by decide +kernel)
theorem w_1152 : Jvm.Cond.instanceMethod ({ cls := "SleightHouse", name := "card", desc := "(II)I" } : Jvm.MethodName) ∈ lw_good := lw_good_in 1152 (by decide +kernel) (by decide +kernel)
theorem w_1153 : Jvm.Cond.selects "SleightHouse" ({ cls := "SleightHouse", name := "card", desc := "(II)I" } : Jvm.MethodName) ({ cls := "SleightHouse", name := "card", desc := "(II)I" } : Jvm.MethodName) ∈ lw_good := lw_good_in 1153 (by decide +kernel) (by decide +kernel)
theorem w_1166 : Jvm.Cond.methodLink "SleightHouseLaw" (117 : Nat) ({ cls := "SleightHouse", name := "box", desc := "(II)I" } : Jvm.MethodName) ∈ lw_good := lw_good_in 1166 (by decide +kernel) (by decide +kernel)
theorem w_1167 : Jvm.Cond.instanceMethod ({ cls := "SleightHouse", name := "box", desc := "(II)I" } : Jvm.MethodName) ∈ lw_good := lw_good_in 1167 (by decide +kernel) (by decide +kernel)
theorem w_1168 : Jvm.Cond.selects "SleightHouse" ({ cls := "SleightHouse", name := "box", desc := "(II)I" } : Jvm.MethodName) ({ cls := "SleightHouse", name := "box", desc := "(II)I" } : Jvm.MethodName) ∈ lw_good := lw_good_in 1168 (by decide +kernel) (by decide +kernel)
theorem w_1172 : Jvm.Cond.methodLink "SleightHouseLaw" (121 : Nat) ({ cls := "SleightHouse", name := "boxes", desc := "(I)I" } : Jvm.MethodName) ∈ lw_good := lw_good_in 1172 (by decide +kernel) (by decide +kernel)
theorem w_1173 : Jvm.Cond.instanceMethod ({ cls := "SleightHouse", name := "boxes", desc := "(I)I" } : Jvm.MethodName) ∈ lw_good := lw_good_in 1173 (by decide +kernel) (by decide +kernel)
theorem w_1174 : Jvm.Cond.selects "SleightHouse" ({ cls := "SleightHouse", name := "boxes", desc := "(I)I" } : Jvm.MethodName) ({ cls := "SleightHouse", name := "boxes", desc := "(I)I" } : Jvm.MethodName) ∈ lw_good := lw_good_in 1174 (by decide +kernel) (by decide +kernel)
theorem w_1186 : Jvm.Cond.methodLink "SleightHouseLaw" (125 : Nat) ({ cls := "SleightHouse", name := "key", desc := "(II)I" } : Jvm.MethodName) ∈ lw_good := lw_good_in 1186 (by decide +kernel) (by decide +kernel)
theorem w_1187 : Jvm.Cond.instanceMethod ({ cls := "SleightHouse", name := "key", desc := "(II)I" } : Jvm.MethodName) ∈ lw_good := lw_good_in 1187 (by decide +kernel) (by decide +kernel)
theorem w_1188 : Jvm.Cond.selects "SleightHouse" ({ cls := "SleightHouse", name := "key", desc := "(II)I" } : Jvm.MethodName) ({ cls := "SleightHouse", name := "key", desc := "(II)I" } : Jvm.MethodName) ∈ lw_good := lw_good_in 1188 (by decide +kernel) (by decide +kernel)
theorem w_1190 : Jvm.Cond.methodLink "SleightHouseLaw" (129 : Nat) ({ cls := "SleightHouse", name := "opened", desc := "(I)I" } : Jvm.MethodName) ∈ lw_good := lw_good_in 1190 (by decide +kernel) (by decide +kernel)
theorem w_1191 : Jvm.Cond.instanceMethod ({ cls := "SleightHouse", name := "opened", desc := "(I)I" } : Jvm.MethodName) ∈ lw_good := lw_good_in 1191 (by decide +kernel) (by decide +kernel)
theorem w_1192 : Jvm.Cond.selects "SleightHouse" ({ cls := "SleightHouse", name := "opened", desc := "(I)I" } : Jvm.MethodName) ({ cls := "SleightHouse", name := "opened", desc := "(I)I" } : Jvm.MethodName) ∈ lw_good := lw_good_in 1192 (by decide +kernel) (by decide +kernel)
theorem w_1203 : Jvm.Cond.methodLink "SleightHouseLaw" (133 : Nat) ({ cls := "SleightHouse", name := "ring", desc := "(III)I" } : Jvm.MethodName) ∈ lw_good := lw_good_in 1203 (by decide +kernel) (by decide +kernel)
theorem w_1204 : Jvm.Cond.instanceMethod ({ cls := "SleightHouse", name := "ring", desc := "(III)I" } : Jvm.MethodName) ∈ lw_good := lw_good_in 1204 (by decide +kernel) (by decide +kernel)
theorem w_1205 : Jvm.Cond.selects "SleightHouse" ({ cls := "SleightHouse", name := "ring", desc := "(III)I" } : Jvm.MethodName) ({ cls := "SleightHouse", name := "ring", desc := "(III)I" } : Jvm.MethodName) ∈ lw_good := lw_good_in 1205 (by decide +kernel) (by decide +kernel)
theorem w_1213 : Jvm.Cond.methodLink "SleightHouseLaw" (137 : Nat) ({ cls := "SleightHouse", name := "gift", desc := "(II)Z" } : Jvm.MethodName) ∈ lw_good := lw_good_in 1213 (by decide +kernel) (by decide +kernel)
theorem w_1214 : Jvm.Cond.instanceMethod ({ cls := "SleightHouse", name := "gift", desc := "(II)Z" } : Jvm.MethodName) ∈ lw_good := lw_good_in 1214 (by decide +kernel) (by decide +kernel)
theorem w_1215 : Jvm.Cond.selects "SleightHouse" ({ cls := "SleightHouse", name := "gift", desc := "(II)Z" } : Jvm.MethodName) ({ cls := "SleightHouse", name := "gift", desc := "(II)Z" } : Jvm.MethodName) ∈ lw_good := lw_good_in 1215 (by decide +kernel) (by decide +kernel)
theorem w_1217 : Jvm.Cond.methodLink "SleightHouseLaw" (141 : Nat) ({ cls := "SleightHouse", name := "heir", desc := "(I)I" } : Jvm.MethodName) ∈ lw_good := lw_good_in 1217 (by decide +kernel) (by decide +kernel)
theorem w_1218 : Jvm.Cond.instanceMethod ({ cls := "SleightHouse", name := "heir", desc := "(I)I" } : Jvm.MethodName) ∈ lw_good := lw_good_in 1218 (by decide +kernel) (by decide +kernel)
theorem w_1219 : Jvm.Cond.selects "SleightHouse" ({ cls := "SleightHouse", name := "heir", desc := "(I)I" } : Jvm.MethodName) ({ cls := "SleightHouse", name := "heir", desc := "(I)I" } : Jvm.MethodName) ∈ lw_good := lw_good_in 1219 (by decide +kernel) (by decide +kernel)
theorem w_1277 : Jvm.Cond.methodLink "SleightHouseLaw" (145 : Nat) ({ cls := "SleightHouse", name := "weighings", desc := "(II)I" } : Jvm.MethodName) ∈ lw_good := lw_good_in 1277 (by decide +kernel) (by decide +kernel)
theorem w_1278 : Jvm.Cond.instanceMethod ({ cls := "SleightHouse", name := "weighings", desc := "(II)I" } : Jvm.MethodName) ∈ lw_good := lw_good_in 1278 (by decide +kernel) (by decide +kernel)
theorem w_1279 : Jvm.Cond.selects "SleightHouse" ({ cls := "SleightHouse", name := "weighings", desc := "(II)I" } : Jvm.MethodName) ({ cls := "SleightHouse", name := "weighings", desc := "(II)I" } : Jvm.MethodName) ∈ lw_good := lw_good_in 1279 (by decide +kernel) (by decide +kernel)
theorem w_1284 : Jvm.Cond.methodLink "SleightHouseLaw" (149 : Nat) ({ cls := "SleightHouse", name := "rings", desc := "(II)I" } : Jvm.MethodName) ∈ lw_good := lw_good_in 1284 (by decide +kernel) (by decide +kernel)
theorem w_1285 : Jvm.Cond.instanceMethod ({ cls := "SleightHouse", name := "rings", desc := "(II)I" } : Jvm.MethodName) ∈ lw_good := lw_good_in 1285 (by decide +kernel) (by decide +kernel)
theorem w_1286 : Jvm.Cond.selects "SleightHouse" ({ cls := "SleightHouse", name := "rings", desc := "(II)I" } : Jvm.MethodName) ({ cls := "SleightHouse", name := "rings", desc := "(II)I" } : Jvm.MethodName) ∈ lw_good := lw_good_in 1286 (by decide +kernel) (by decide +kernel)
theorem w_1292 : Jvm.Cond.methodLink "SleightHouseLaw" (153 : Nat) ({ cls := "SleightHouse", name := "hats", desc := "(II)I" } : Jvm.MethodName) ∈ lw_good := lw_good_in 1292 (by decide +kernel) (by decide +kernel)
theorem w_1293 : Jvm.Cond.instanceMethod ({ cls := "SleightHouse", name := "hats", desc := "(II)I" } : Jvm.MethodName) ∈ lw_good := lw_good_in 1293 (by decide +kernel) (by decide +kernel)
theorem w_1294 : Jvm.Cond.selects "SleightHouse" ({ cls := "SleightHouse", name := "hats", desc := "(II)I" } : Jvm.MethodName) ({ cls := "SleightHouse", name := "hats", desc := "(II)I" } : Jvm.MethodName) ∈ lw_good := lw_good_in 1294 (by decide +kernel) (by decide +kernel)
theorem w_1302 : Jvm.Cond.methodLink "SleightHouseLaw" (157 : Nat) ({ cls := "SleightHouse", name := "mirror", desc := "(II)Z" } : Jvm.MethodName) ∈ lw_good := lw_good_in 1302 (by decide +kernel) (by decide +kernel)
theorem w_1303 : Jvm.Cond.instanceMethod ({ cls := "SleightHouse", name := "mirror", desc := "(II)Z" } : Jvm.MethodName) ∈ lw_good := lw_good_in 1303 (by decide +kernel) (by decide +kernel)
theorem w_1304 : Jvm.Cond.selects "SleightHouse" ({ cls := "SleightHouse", name := "mirror", desc := "(II)Z" } : Jvm.MethodName) ({ cls := "SleightHouse", name := "mirror", desc := "(II)Z" } : Jvm.MethodName) ∈ lw_good := lw_good_in 1304 (by decide +kernel) (by decide +kernel)
theorem w_1306 : Jvm.Cond.methodLink "SleightHouseLaw" (161 : Nat) ({ cls := "SleightHouse", name := "glance", desc := "(II)I" } : Jvm.MethodName) ∈ lw_good := lw_good_in 1306 (by decide +kernel) (by decide +kernel)
theorem w_1307 : Jvm.Cond.instanceMethod ({ cls := "SleightHouse", name := "glance", desc := "(II)I" } : Jvm.MethodName) ∈ lw_good := lw_good_in 1307 (by decide +kernel) (by decide +kernel)
theorem w_1308 : Jvm.Cond.selects "SleightHouse" ({ cls := "SleightHouse", name := "glance", desc := "(II)I" } : Jvm.MethodName) ({ cls := "SleightHouse", name := "glance", desc := "(II)I" } : Jvm.MethodName) ∈ lw_good := lw_good_in 1308 (by decide +kernel) (by decide +kernel)
theorem w_1317 : Jvm.Cond.methodLink "SleightHouseLaw" (165 : Nat) ({ cls := "SleightHouse", name := "clue", desc := "(IIZ)I" } : Jvm.MethodName) ∈ lw_good := lw_good_in 1317 (by decide +kernel) (by decide +kernel)
theorem w_1318 : Jvm.Cond.instanceMethod ({ cls := "SleightHouse", name := "clue", desc := "(IIZ)I" } : Jvm.MethodName) ∈ lw_good := lw_good_in 1318 (by decide +kernel) (by decide +kernel)
theorem w_1319 : Jvm.Cond.selects "SleightHouse" ({ cls := "SleightHouse", name := "clue", desc := "(IIZ)I" } : Jvm.MethodName) ({ cls := "SleightHouse", name := "clue", desc := "(IIZ)I" } : Jvm.MethodName) ∈ lw_good := lw_good_in 1319 (by decide +kernel) (by decide +kernel)
theorem w_1321 : Jvm.Cond.methodLink "SleightHouseLaw" (170 : Nat) ({ cls := "SleightHouse", name := "fits", desc := "(I)I" } : Jvm.MethodName) ∈ lw_good := lw_good_in 1321 (by decide +kernel) (by decide +kernel)
theorem w_1322 : Jvm.Cond.instanceMethod ({ cls := "SleightHouse", name := "fits", desc := "(I)I" } : Jvm.MethodName) ∈ lw_good := lw_good_in 1322 (by decide +kernel) (by decide +kernel)
theorem w_1323 : Jvm.Cond.selects "SleightHouse" ({ cls := "SleightHouse", name := "fits", desc := "(I)I" } : Jvm.MethodName) ({ cls := "SleightHouse", name := "fits", desc := "(I)I" } : Jvm.MethodName) ∈ lw_good := lw_good_in 1323 (by decide +kernel) (by decide +kernel)
theorem w_1339 : Jvm.Cond.methodLink "SleightHouseLaw" (174 : Nat) ({ cls := "SleightHouse", name := "share", desc := "(I)I" } : Jvm.MethodName) ∈ lw_good := lw_good_in 1339 (by decide +kernel) (by decide +kernel)
theorem w_1340 : Jvm.Cond.instanceMethod ({ cls := "SleightHouse", name := "share", desc := "(I)I" } : Jvm.MethodName) ∈ lw_good := lw_good_in 1340 (by decide +kernel) (by decide +kernel)
theorem w_1341 : Jvm.Cond.selects "SleightHouse" ({ cls := "SleightHouse", name := "share", desc := "(I)I" } : Jvm.MethodName) ({ cls := "SleightHouse", name := "share", desc := "(I)I" } : Jvm.MethodName) ∈ lw_good := lw_good_in 1341 (by decide +kernel) (by decide +kernel)
theorem w_1343 : Jvm.Cond.methodLink "SleightHouseLaw" (178 : Nat) ({ cls := "SleightHouse", name := "gets", desc := "(II)I" } : Jvm.MethodName) ∈ lw_good := lw_good_in 1343 (by decide +kernel) (by decide +kernel)
theorem w_1344 : Jvm.Cond.instanceMethod ({ cls := "SleightHouse", name := "gets", desc := "(II)I" } : Jvm.MethodName) ∈ lw_good := lw_good_in 1344 (by decide +kernel) (by decide +kernel)
theorem w_1345 : Jvm.Cond.selects "SleightHouse" ({ cls := "SleightHouse", name := "gets", desc := "(II)I" } : Jvm.MethodName) ({ cls := "SleightHouse", name := "gets", desc := "(II)I" } : Jvm.MethodName) ∈ lw_good := lw_good_in 1345 (by decide +kernel) (by decide +kernel)
theorem w_1351 : Jvm.Cond.methodLink "SleightHouseLaw" (182 : Nat) ({ cls := "SleightHouse", name := "row", desc := "(I)I" } : Jvm.MethodName) ∈ lw_good := lw_good_in 1351 (by decide +kernel) (by decide +kernel)
theorem w_1352 : Jvm.Cond.instanceMethod ({ cls := "SleightHouse", name := "row", desc := "(I)I" } : Jvm.MethodName) ∈ lw_good := lw_good_in 1352 (by decide +kernel) (by decide +kernel)
theorem w_1353 : Jvm.Cond.selects "SleightHouse" ({ cls := "SleightHouse", name := "row", desc := "(I)I" } : Jvm.MethodName) ({ cls := "SleightHouse", name := "row", desc := "(I)I" } : Jvm.MethodName) ∈ lw_good := lw_good_in 1353 (by decide +kernel) (by decide +kernel)
theorem w_1355 : Jvm.Cond.methodLink "SleightHouseLaw" (186 : Nat) ({ cls := "SleightHouse", name := "game", desc := "(I)I" } : Jvm.MethodName) ∈ lw_good := lw_good_in 1355 (by decide +kernel) (by decide +kernel)
theorem w_1356 : Jvm.Cond.instanceMethod ({ cls := "SleightHouse", name := "game", desc := "(I)I" } : Jvm.MethodName) ∈ lw_good := lw_good_in 1356 (by decide +kernel) (by decide +kernel)
theorem w_1357 : Jvm.Cond.selects "SleightHouse" ({ cls := "SleightHouse", name := "game", desc := "(I)I" } : Jvm.MethodName) ({ cls := "SleightHouse", name := "game", desc := "(I)I" } : Jvm.MethodName) ∈ lw_good := lw_good_in 1357 (by decide +kernel) (by decide +kernel)
theorem w_1367 : Jvm.Cond.methodLink "SleightHouseLaw" (190 : Nat) ({ cls := "SleightHouse", name := "undo", desc := "()Z" } : Jvm.MethodName) ∈ lw_good := lw_good_in 1367 (by decide +kernel) (by decide +kernel)
theorem w_1368 : Jvm.Cond.instanceMethod ({ cls := "SleightHouse", name := "undo", desc := "()Z" } : Jvm.MethodName) ∈ lw_good := lw_good_in 1368 (by decide +kernel) (by decide +kernel)
theorem w_1369 : Jvm.Cond.selects "SleightHouse" ({ cls := "SleightHouse", name := "undo", desc := "()Z" } : Jvm.MethodName) ({ cls := "SleightHouse", name := "undo", desc := "()Z" } : Jvm.MethodName) ∈ lw_good := lw_good_in 1369 (by decide +kernel) (by decide +kernel)
theorem w_1375 : Jvm.Cond.methodLink "SleightHouseLaw" (195 : Nat) ({ cls := "SleightHouse", name := "image", desc := "(Z)Z" } : Jvm.MethodName) ∈ lw_good := lw_good_in 1375 (by decide +kernel) (by decide +kernel)
theorem w_1376 : Jvm.Cond.instanceMethod ({ cls := "SleightHouse", name := "image", desc := "(Z)Z" } : Jvm.MethodName) ∈ lw_good := lw_good_in 1376 (by decide +kernel) (by decide +kernel)
theorem w_1377 : Jvm.Cond.selects "SleightHouse" ({ cls := "SleightHouse", name := "image", desc := "(Z)Z" } : Jvm.MethodName) ({ cls := "SleightHouse", name := "image", desc := "(Z)Z" } : Jvm.MethodName) ∈ lw_good := lw_good_in 1377 (by decide +kernel) (by decide +kernel)
theorem w_1397 : Jvm.Cond.methodLink "SleightHouseLaw" (200 : Nat) ({ cls := "SleightHouse", name := "look", desc := "(I)I" } : Jvm.MethodName) ∈ lw_good := lw_good_in 1397 (by decide +kernel) (by decide +kernel)
theorem w_1398 : Jvm.Cond.instanceMethod ({ cls := "SleightHouse", name := "look", desc := "(I)I" } : Jvm.MethodName) ∈ lw_good := lw_good_in 1398 (by decide +kernel) (by decide +kernel)
theorem w_1399 : Jvm.Cond.selects "SleightHouse" ({ cls := "SleightHouse", name := "look", desc := "(I)I" } : Jvm.MethodName) ({ cls := "SleightHouse", name := "look", desc := "(I)I" } : Jvm.MethodName) ∈ lw_good := lw_good_in 1399 (by decide +kernel) (by decide +kernel)
theorem w_1401 : Jvm.Cond.classLink "SleightHouseLaw" (10 : Nat) "SleightHouseModel" ∈ lw_good := lw_good_in 1401 (by decide +kernel) (by decide +kernel)
theorem w_1402 : Jvm.Cond.instantiable "SleightHouseModel" (79 : Nat) ∈ lw_good := lw_good_in 1402 (by decide +kernel) (by decide +kernel)
theorem w_1403 : Jvm.Cond.methodLink "SleightHouseLaw" (12 : Nat) ({ cls := "SleightHouseModel", name := "<init>", desc := "()V" } : Jvm.MethodName) ∈ lw_good := lw_good_in 1403 (by decide +kernel) (by decide +kernel)
theorem w_1404 : Jvm.Cond.instanceMethod ({ cls := "SleightHouseModel", name := "<init>", desc := "()V" } : Jvm.MethodName) ∈ lw_good := lw_good_in 1404 (by decide +kernel) (by decide +kernel)
theorem w_1645 : Jvm.Cond.methodLink "SleightHouseLaw" (194 : Nat) ({ cls := "SleightHouseModel", name := "undo", desc := "()Z" } : Jvm.MethodName) ∈ lw_good := lw_good_in 1645 (by decide +kernel) (by decide +kernel)
theorem w_1646 : Jvm.Cond.instanceMethod ({ cls := "SleightHouseModel", name := "undo", desc := "()Z" } : Jvm.MethodName) ∈ lw_good := lw_good_in 1646 (by decide +kernel) (by decide +kernel)
theorem w_1647 : Jvm.Cond.selects "SleightHouseModel" ({ cls := "SleightHouseModel", name := "undo", desc := "()Z" } : Jvm.MethodName) ({ cls := "SleightHouseModel", name := "undo", desc := "()Z" } : Jvm.MethodName) ∈ lw_good := lw_good_in 1647 (by decide +kernel) (by decide +kernel)
theorem w_1649 : Jvm.Cond.methodLink "SleightHouseLaw" (17 : Nat) ({ cls := "SleightHouseModel", name := "state", desc := "(I)I" } : Jvm.MethodName) ∈ lw_good := lw_good_in 1649 (by decide +kernel) (by decide +kernel)
theorem w_1650 : Jvm.Cond.instanceMethod ({ cls := "SleightHouseModel", name := "state", desc := "(I)I" } : Jvm.MethodName) ∈ lw_good := lw_good_in 1650 (by decide +kernel) (by decide +kernel)
theorem w_1651 : Jvm.Cond.selects "SleightHouseModel" ({ cls := "SleightHouseModel", name := "state", desc := "(I)I" } : Jvm.MethodName) ({ cls := "SleightHouseModel", name := "state", desc := "(I)I" } : Jvm.MethodName) ∈ lw_good := lw_good_in 1651 (by decide +kernel) (by decide +kernel)
theorem w_1653 : Jvm.Cond.methodLink "SleightHouseLaw" (22 : Nat) ({ cls := "SleightHouseModel", name := "thing", desc := "(III)I" } : Jvm.MethodName) ∈ lw_good := lw_good_in 1653 (by decide +kernel) (by decide +kernel)
theorem w_1654 : Jvm.Cond.instanceMethod ({ cls := "SleightHouseModel", name := "thing", desc := "(III)I" } : Jvm.MethodName) ∈ lw_good := lw_good_in 1654 (by decide +kernel) (by decide +kernel)
theorem w_1655 : Jvm.Cond.selects "SleightHouseModel" ({ cls := "SleightHouseModel", name := "thing", desc := "(III)I" } : Jvm.MethodName) ({ cls := "SleightHouseModel", name := "thing", desc := "(III)I" } : Jvm.MethodName) ∈ lw_good := lw_good_in 1655 (by decide +kernel) (by decide +kernel)
theorem w_1665 : Jvm.Cond.methodLink "SleightHouseLaw" (27 : Nat) ({ cls := "SleightHouseModel", name := "person", desc := "(II)I" } : Jvm.MethodName) ∈ lw_good := lw_good_in 1665 (by decide +kernel) (by decide +kernel)
theorem w_1666 : Jvm.Cond.instanceMethod ({ cls := "SleightHouseModel", name := "person", desc := "(II)I" } : Jvm.MethodName) ∈ lw_good := lw_good_in 1666 (by decide +kernel) (by decide +kernel)
theorem w_1667 : Jvm.Cond.selects "SleightHouseModel" ({ cls := "SleightHouseModel", name := "person", desc := "(II)I" } : Jvm.MethodName) ({ cls := "SleightHouseModel", name := "person", desc := "(II)I" } : Jvm.MethodName) ∈ lw_good := lw_good_in 1667 (by decide +kernel) (by decide +kernel)
theorem w_1669 : Jvm.Cond.methodLink "SleightHouseLaw" (32 : Nat) ({ cls := "SleightHouseModel", name := "set", desc := "(III)Z" } : Jvm.MethodName) ∈ lw_good := lw_good_in 1669 (by decide +kernel) (by decide +kernel)
theorem w_1670 : Jvm.Cond.instanceMethod ({ cls := "SleightHouseModel", name := "set", desc := "(III)Z" } : Jvm.MethodName) ∈ lw_good := lw_good_in 1670 (by decide +kernel) (by decide +kernel)
theorem w_1671 : Jvm.Cond.selects "SleightHouseModel" ({ cls := "SleightHouseModel", name := "set", desc := "(III)Z" } : Jvm.MethodName) ({ cls := "SleightHouseModel", name := "set", desc := "(III)Z" } : Jvm.MethodName) ∈ lw_good := lw_good_in 1671 (by decide +kernel) (by decide +kernel)
theorem w_1685 : Jvm.Cond.methodLink "SleightHouseLaw" (54 : Nat) ({ cls := "SleightHouseModel", name := "feed", desc := "(IIIII)I" } : Jvm.MethodName) ∈ lw_good := lw_good_in 1685 (by decide +kernel) (by decide +kernel)
theorem w_1686 : Jvm.Cond.instanceMethod ({ cls := "SleightHouseModel", name := "feed", desc := "(IIIII)I" } : Jvm.MethodName) ∈ lw_good := lw_good_in 1686 (by decide +kernel) (by decide +kernel)
theorem w_1687 : Jvm.Cond.selects "SleightHouseModel" ({ cls := "SleightHouseModel", name := "feed", desc := "(IIIII)I" } : Jvm.MethodName) ({ cls := "SleightHouseModel", name := "feed", desc := "(IIIII)I" } : Jvm.MethodName) ∈ lw_good := lw_good_in 1687 (by decide +kernel) (by decide +kernel)
theorem w_1693 : Jvm.Cond.methodLink "SleightHouseLaw" (59 : Nat) ({ cls := "SleightHouseModel", name := "end", desc := "(I)Z" } : Jvm.MethodName) ∈ lw_good := lw_good_in 1693 (by decide +kernel) (by decide +kernel)
theorem w_1694 : Jvm.Cond.instanceMethod ({ cls := "SleightHouseModel", name := "end", desc := "(I)Z" } : Jvm.MethodName) ∈ lw_good := lw_good_in 1694 (by decide +kernel) (by decide +kernel)
theorem w_1695 : Jvm.Cond.selects "SleightHouseModel" ({ cls := "SleightHouseModel", name := "end", desc := "(I)Z" } : Jvm.MethodName) ({ cls := "SleightHouseModel", name := "end", desc := "(I)Z" } : Jvm.MethodName) ∈ lw_good := lw_good_in 1695 (by decide +kernel) (by decide +kernel)
theorem w_1697 : Jvm.Cond.methodLink "SleightHouseLaw" (63 : Nat) ({ cls := "SleightHouseModel", name := "text", desc := "(I)I" } : Jvm.MethodName) ∈ lw_good := lw_good_in 1697 (by decide +kernel) (by decide +kernel)
theorem w_1698 : Jvm.Cond.instanceMethod ({ cls := "SleightHouseModel", name := "text", desc := "(I)I" } : Jvm.MethodName) ∈ lw_good := lw_good_in 1698 (by decide +kernel) (by decide +kernel)
theorem w_1699 : Jvm.Cond.selects "SleightHouseModel" ({ cls := "SleightHouseModel", name := "text", desc := "(I)I" } : Jvm.MethodName) ({ cls := "SleightHouseModel", name := "text", desc := "(I)I" } : Jvm.MethodName) ∈ lw_good := lw_good_in 1699 (by decide +kernel) (by decide +kernel)
theorem w_1833 : Jvm.Cond.methodLink "SleightHouseLaw" (67 : Nat) ({ cls := "SleightHouseModel", name := "fault", desc := "(I)I" } : Jvm.MethodName) ∈ lw_good := lw_good_in 1833 (by decide +kernel) (by decide +kernel)
theorem w_1834 : Jvm.Cond.instanceMethod ({ cls := "SleightHouseModel", name := "fault", desc := "(I)I" } : Jvm.MethodName) ∈ lw_good := lw_good_in 1834 (by decide +kernel) (by decide +kernel)
theorem w_1835 : Jvm.Cond.selects "SleightHouseModel" ({ cls := "SleightHouseModel", name := "fault", desc := "(I)I" } : Jvm.MethodName) ({ cls := "SleightHouseModel", name := "fault", desc := "(I)I" } : Jvm.MethodName) ∈ lw_good := lw_good_in 1835 (by decide +kernel) (by decide +kernel)
theorem w_1837 : Jvm.Cond.methodLink "SleightHouseLaw" (36 : Nat) ({ cls := "SleightHouseModel", name := "puts", desc := "(III)I" } : Jvm.MethodName) ∈ lw_good := lw_good_in 1837 (by decide +kernel) (by decide +kernel)
theorem w_1838 : Jvm.Cond.instanceMethod ({ cls := "SleightHouseModel", name := "puts", desc := "(III)I" } : Jvm.MethodName) ∈ lw_good := lw_good_in 1838 (by decide +kernel) (by decide +kernel)
theorem w_1839 : Jvm.Cond.selects "SleightHouseModel" ({ cls := "SleightHouseModel", name := "puts", desc := "(III)I" } : Jvm.MethodName) ({ cls := "SleightHouseModel", name := "puts", desc := "(III)I" } : Jvm.MethodName) ∈ lw_good := lw_good_in 1839 (by decide +kernel) (by decide +kernel)
theorem w_1911 : Jvm.Cond.methodLink "SleightHouseLaw" (40 : Nat) ({ cls := "SleightHouseModel", name := "search", desc := "(II)I" } : Jvm.MethodName) ∈ lw_good := lw_good_in 1911 (by decide +kernel) (by decide +kernel)
theorem w_1912 : Jvm.Cond.instanceMethod ({ cls := "SleightHouseModel", name := "search", desc := "(II)I" } : Jvm.MethodName) ∈ lw_good := lw_good_in 1912 (by decide +kernel) (by decide +kernel)
theorem w_1913 : Jvm.Cond.selects "SleightHouseModel" ({ cls := "SleightHouseModel", name := "search", desc := "(II)I" } : Jvm.MethodName) ({ cls := "SleightHouseModel", name := "search", desc := "(II)I" } : Jvm.MethodName) ∈ lw_good := lw_good_in 1913 (by decide +kernel) (by decide +kernel)
theorem w_1927 : Jvm.Cond.methodLink "SleightHouseLaw" (45 : Nat) ({ cls := "SleightHouseModel", name := "act", desc := "(II)Z" } : Jvm.MethodName) ∈ lw_good := lw_good_in 1927 (by decide +kernel) (by decide +kernel)
theorem w_1928 : Jvm.Cond.instanceMethod ({ cls := "SleightHouseModel", name := "act", desc := "(II)Z" } : Jvm.MethodName) ∈ lw_good := lw_good_in 1928 (by decide +kernel) (by decide +kernel)
theorem w_1929 : Jvm.Cond.selects "SleightHouseModel" ({ cls := "SleightHouseModel", name := "act", desc := "(II)Z" } : Jvm.MethodName) ({ cls := "SleightHouseModel", name := "act", desc := "(II)Z" } : Jvm.MethodName) ∈ lw_good := lw_good_in 1929 (by decide +kernel) (by decide +kernel)
theorem w_1931 : Jvm.Cond.methodLink "SleightHouseLaw" (49 : Nat) ({ cls := "SleightHouseModel", name := "hours", desc := "(I)I" } : Jvm.MethodName) ∈ lw_good := lw_good_in 1931 (by decide +kernel) (by decide +kernel)
theorem w_1932 : Jvm.Cond.instanceMethod ({ cls := "SleightHouseModel", name := "hours", desc := "(I)I" } : Jvm.MethodName) ∈ lw_good := lw_good_in 1932 (by decide +kernel) (by decide +kernel)
theorem w_1933 : Jvm.Cond.selects "SleightHouseModel" ({ cls := "SleightHouseModel", name := "hours", desc := "(I)I" } : Jvm.MethodName) ({ cls := "SleightHouseModel", name := "hours", desc := "(I)I" } : Jvm.MethodName) ∈ lw_good := lw_good_in 1933 (by decide +kernel) (by decide +kernel)
theorem w_1947 : Jvm.Cond.methodLink "SleightHouseLaw" (71 : Nat) ({ cls := "SleightHouseModel", name := "place", desc := "(II)I" } : Jvm.MethodName) ∈ lw_good := lw_good_in 1947 (by decide +kernel) (by decide +kernel)
theorem w_1948 : Jvm.Cond.instanceMethod ({ cls := "SleightHouseModel", name := "place", desc := "(II)I" } : Jvm.MethodName) ∈ lw_good := lw_good_in 1948 (by decide +kernel) (by decide +kernel)
theorem w_1949 : Jvm.Cond.selects "SleightHouseModel" ({ cls := "SleightHouseModel", name := "place", desc := "(II)I" } : Jvm.MethodName) ({ cls := "SleightHouseModel", name := "place", desc := "(II)I" } : Jvm.MethodName) ∈ lw_good := lw_good_in 1949 (by decide +kernel) (by decide +kernel)
theorem w_1955 : Jvm.Cond.methodLink "SleightHouseLaw" (75 : Nat) ({ cls := "SleightHouseModel", name := "of", desc := "(II)I" } : Jvm.MethodName) ∈ lw_good := lw_good_in 1955 (by decide +kernel) (by decide +kernel)
theorem w_1956 : Jvm.Cond.instanceMethod ({ cls := "SleightHouseModel", name := "of", desc := "(II)I" } : Jvm.MethodName) ∈ lw_good := lw_good_in 1956 (by decide +kernel) (by decide +kernel)
theorem w_1957 : Jvm.Cond.selects "SleightHouseModel" ({ cls := "SleightHouseModel", name := "of", desc := "(II)I" } : Jvm.MethodName) ({ cls := "SleightHouseModel", name := "of", desc := "(II)I" } : Jvm.MethodName) ∈ lw_good := lw_good_in 1957 (by decide +kernel) (by decide +kernel)
theorem w_1959 : Jvm.Cond.methodLink "SleightHouseLaw" (79 : Nat) ({ cls := "SleightHouseModel", name := "who", desc := "(II)I" } : Jvm.MethodName) ∈ lw_good := lw_good_in 1959 (by decide +kernel) (by decide +kernel)
theorem w_1960 : Jvm.Cond.instanceMethod ({ cls := "SleightHouseModel", name := "who", desc := "(II)I" } : Jvm.MethodName) ∈ lw_good := lw_good_in 1960 (by decide +kernel) (by decide +kernel)
theorem w_1961 : Jvm.Cond.selects "SleightHouseModel" ({ cls := "SleightHouseModel", name := "who", desc := "(II)I" } : Jvm.MethodName) ({ cls := "SleightHouseModel", name := "who", desc := "(II)I" } : Jvm.MethodName) ∈ lw_good := lw_good_in 1961 (by decide +kernel) (by decide +kernel)
theorem w_1963 : Jvm.Cond.methodLink "SleightHouseLaw" (84 : Nat) ({ cls := "SleightHouseModel", name := "tells", desc := "(IIII)I" } : Jvm.MethodName) ∈ lw_good := lw_good_in 1963 (by decide +kernel) (by decide +kernel)
theorem w_1964 : Jvm.Cond.instanceMethod ({ cls := "SleightHouseModel", name := "tells", desc := "(IIII)I" } : Jvm.MethodName) ∈ lw_good := lw_good_in 1964 (by decide +kernel) (by decide +kernel)
theorem w_1965 : Jvm.Cond.selects "SleightHouseModel" ({ cls := "SleightHouseModel", name := "tells", desc := "(IIII)I" } : Jvm.MethodName) ({ cls := "SleightHouseModel", name := "tells", desc := "(IIII)I" } : Jvm.MethodName) ∈ lw_good := lw_good_in 1965 (by decide +kernel) (by decide +kernel)
theorem w_1967 : Jvm.Cond.methodLink "SleightHouseLaw" (88 : Nat) ({ cls := "SleightHouseModel", name := "book", desc := "(II)I" } : Jvm.MethodName) ∈ lw_good := lw_good_in 1967 (by decide +kernel) (by decide +kernel)
theorem w_1968 : Jvm.Cond.instanceMethod ({ cls := "SleightHouseModel", name := "book", desc := "(II)I" } : Jvm.MethodName) ∈ lw_good := lw_good_in 1968 (by decide +kernel) (by decide +kernel)
theorem w_1969 : Jvm.Cond.selects "SleightHouseModel" ({ cls := "SleightHouseModel", name := "book", desc := "(II)I" } : Jvm.MethodName) ({ cls := "SleightHouseModel", name := "book", desc := "(II)I" } : Jvm.MethodName) ∈ lw_good := lw_good_in 1969 (by decide +kernel) (by decide +kernel)
theorem w_1971 : Jvm.Cond.methodLink "SleightHouseLaw" (92 : Nat) ({ cls := "SleightHouseModel", name := "goes", desc := "(II)I" } : Jvm.MethodName) ∈ lw_good := lw_good_in 1971 (by decide +kernel) (by decide +kernel)
theorem w_1972 : Jvm.Cond.instanceMethod ({ cls := "SleightHouseModel", name := "goes", desc := "(II)I" } : Jvm.MethodName) ∈ lw_good := lw_good_in 1972 (by decide +kernel) (by decide +kernel)
theorem w_1973 : Jvm.Cond.selects "SleightHouseModel" ({ cls := "SleightHouseModel", name := "goes", desc := "(II)I" } : Jvm.MethodName) ({ cls := "SleightHouseModel", name := "goes", desc := "(II)I" } : Jvm.MethodName) ∈ lw_good := lw_good_in 1973 (by decide +kernel) (by decide +kernel)
theorem w_1987 : Jvm.Cond.methodLink "SleightHouseLaw" (96 : Nat) ({ cls := "SleightHouseModel", name := "where", desc := "(III)I" } : Jvm.MethodName) ∈ lw_good := lw_good_in 1987 (by decide +kernel) (by decide +kernel)
theorem w_1988 : Jvm.Cond.instanceMethod ({ cls := "SleightHouseModel", name := "where", desc := "(III)I" } : Jvm.MethodName) ∈ lw_good := lw_good_in 1988 (by decide +kernel) (by decide +kernel)
theorem w_1989 : Jvm.Cond.selects "SleightHouseModel" ({ cls := "SleightHouseModel", name := "where", desc := "(III)I" } : Jvm.MethodName) ({ cls := "SleightHouseModel", name := "where", desc := "(III)I" } : Jvm.MethodName) ∈ lw_good := lw_good_in 1989 (by decide +kernel) (by decide +kernel)
theorem w_1991 : Jvm.Cond.methodLink "SleightHouseLaw" (100 : Nat) ({ cls := "SleightHouseModel", name := "brings", desc := "(II)I" } : Jvm.MethodName) ∈ lw_good := lw_good_in 1991 (by decide +kernel) (by decide +kernel)
theorem w_1992 : Jvm.Cond.instanceMethod ({ cls := "SleightHouseModel", name := "brings", desc := "(II)I" } : Jvm.MethodName) ∈ lw_good := lw_good_in 1992 (by decide +kernel) (by decide +kernel)
theorem w_1993 : Jvm.Cond.selects "SleightHouseModel" ({ cls := "SleightHouseModel", name := "brings", desc := "(II)I" } : Jvm.MethodName) ({ cls := "SleightHouseModel", name := "brings", desc := "(II)I" } : Jvm.MethodName) ∈ lw_good := lw_good_in 1993 (by decide +kernel) (by decide +kernel)
theorem w_1995 : Jvm.Cond.methodLink "SleightHouseLaw" (104 : Nat) ({ cls := "SleightHouseModel", name := "swap", desc := "(II)I" } : Jvm.MethodName) ∈ lw_good := lw_good_in 1995 (by decide +kernel) (by decide +kernel)
theorem w_1996 : Jvm.Cond.instanceMethod ({ cls := "SleightHouseModel", name := "swap", desc := "(II)I" } : Jvm.MethodName) ∈ lw_good := lw_good_in 1996 (by decide +kernel) (by decide +kernel)
theorem w_1997 : Jvm.Cond.selects "SleightHouseModel" ({ cls := "SleightHouseModel", name := "swap", desc := "(II)I" } : Jvm.MethodName) ({ cls := "SleightHouseModel", name := "swap", desc := "(II)I" } : Jvm.MethodName) ∈ lw_good := lw_good_in 1997 (by decide +kernel) (by decide +kernel)
theorem w_1999 : Jvm.Cond.methodLink "SleightHouseLaw" (108 : Nat) ({ cls := "SleightHouseModel", name := "under", desc := "(I)I" } : Jvm.MethodName) ∈ lw_good := lw_good_in 1999 (by decide +kernel) (by decide +kernel)
theorem w_2000 : Jvm.Cond.instanceMethod ({ cls := "SleightHouseModel", name := "under", desc := "(I)I" } : Jvm.MethodName) ∈ lw_good := lw_good_in 2000 (by decide +kernel) (by decide +kernel)
theorem w_2001 : Jvm.Cond.selects "SleightHouseModel" ({ cls := "SleightHouseModel", name := "under", desc := "(I)I" } : Jvm.MethodName) ({ cls := "SleightHouseModel", name := "under", desc := "(I)I" } : Jvm.MethodName) ∈ lw_good := lw_good_in 2001 (by decide +kernel) (by decide +kernel)
theorem w_2015 : Jvm.Cond.methodLink "SleightHouseLaw" (112 : Nat) ({ cls := "SleightHouseModel", name := "pick", desc := "(I)I" } : Jvm.MethodName) ∈ lw_good := lw_good_in 2015 (by decide +kernel) (by decide +kernel)
theorem w_2016 : Jvm.Cond.instanceMethod ({ cls := "SleightHouseModel", name := "pick", desc := "(I)I" } : Jvm.MethodName) ∈ lw_good := lw_good_in 2016 (by decide +kernel) (by decide +kernel)
theorem w_2017 : Jvm.Cond.selects "SleightHouseModel" ({ cls := "SleightHouseModel", name := "pick", desc := "(I)I" } : Jvm.MethodName) ({ cls := "SleightHouseModel", name := "pick", desc := "(I)I" } : Jvm.MethodName) ∈ lw_good := lw_good_in 2017 (by decide +kernel) (by decide +kernel)
theorem w_2019 : Jvm.Cond.methodLink "SleightHouseLaw" (116 : Nat) ({ cls := "SleightHouseModel", name := "card", desc := "(II)I" } : Jvm.MethodName) ∈ lw_good := lw_good_in 2019 (by decide +kernel) (by decide +kernel)
theorem w_2020 : Jvm.Cond.instanceMethod ({ cls := "SleightHouseModel", name := "card", desc := "(II)I" } : Jvm.MethodName) ∈ lw_good := lw_good_in 2020 (by decide +kernel) (by decide +kernel)
theorem w_2021 : Jvm.Cond.selects "SleightHouseModel" ({ cls := "SleightHouseModel", name := "card", desc := "(II)I" } : Jvm.MethodName) ({ cls := "SleightHouseModel", name := "card", desc := "(II)I" } : Jvm.MethodName) ∈ lw_good := lw_good_in 2021 (by decide +kernel) (by decide +kernel)
theorem w_2031 : Jvm.Cond.methodLink "SleightHouseLaw" (120 : Nat) ({ cls := "SleightHouseModel", name := "box", desc := "(II)I" } : Jvm.MethodName) ∈ lw_good := lw_good_in 2031 (by decide +kernel) (by decide +kernel)
theorem w_2032 : Jvm.Cond.instanceMethod ({ cls := "SleightHouseModel", name := "box", desc := "(II)I" } : Jvm.MethodName) ∈ lw_good := lw_good_in 2032 (by decide +kernel) (by decide +kernel)
theorem w_2033 : Jvm.Cond.selects "SleightHouseModel" ({ cls := "SleightHouseModel", name := "box", desc := "(II)I" } : Jvm.MethodName) ({ cls := "SleightHouseModel", name := "box", desc := "(II)I" } : Jvm.MethodName) ∈ lw_good := lw_good_in 2033 (by decide +kernel) (by decide +kernel)
theorem w_2043 : Jvm.Cond.methodLink "SleightHouseLaw" (124 : Nat) ({ cls := "SleightHouseModel", name := "boxes", desc := "(I)I" } : Jvm.MethodName) ∈ lw_good := lw_good_in 2043 (by decide +kernel) (by decide +kernel)
theorem w_2044 : Jvm.Cond.instanceMethod ({ cls := "SleightHouseModel", name := "boxes", desc := "(I)I" } : Jvm.MethodName) ∈ lw_good := lw_good_in 2044 (by decide +kernel) (by decide +kernel)
theorem w_2045 : Jvm.Cond.selects "SleightHouseModel" ({ cls := "SleightHouseModel", name := "boxes", desc := "(I)I" } : Jvm.MethodName) ({ cls := "SleightHouseModel", name := "boxes", desc := "(I)I" } : Jvm.MethodName) ∈ lw_good := lw_good_in 2045 (by decide +kernel) (by decide +kernel)
theorem w_2051 : Jvm.Cond.methodLink "SleightHouseLaw" (128 : Nat) ({ cls := "SleightHouseModel", name := "key", desc := "(II)I" } : Jvm.MethodName) ∈ lw_good := lw_good_in 2051 (by decide +kernel) (by decide +kernel)
theorem w_2052 : Jvm.Cond.instanceMethod ({ cls := "SleightHouseModel", name := "key", desc := "(II)I" } : Jvm.MethodName) ∈ lw_good := lw_good_in 2052 (by decide +kernel) (by decide +kernel)
theorem w_2053 : Jvm.Cond.selects "SleightHouseModel" ({ cls := "SleightHouseModel", name := "key", desc := "(II)I" } : Jvm.MethodName) ({ cls := "SleightHouseModel", name := "key", desc := "(II)I" } : Jvm.MethodName) ∈ lw_good := lw_good_in 2053 (by decide +kernel) (by decide +kernel)
theorem w_2055 : Jvm.Cond.methodLink "SleightHouseLaw" (132 : Nat) ({ cls := "SleightHouseModel", name := "opened", desc := "(I)I" } : Jvm.MethodName) ∈ lw_good := lw_good_in 2055 (by decide +kernel) (by decide +kernel)
theorem w_2056 : Jvm.Cond.instanceMethod ({ cls := "SleightHouseModel", name := "opened", desc := "(I)I" } : Jvm.MethodName) ∈ lw_good := lw_good_in 2056 (by decide +kernel) (by decide +kernel)
theorem w_2057 : Jvm.Cond.selects "SleightHouseModel" ({ cls := "SleightHouseModel", name := "opened", desc := "(I)I" } : Jvm.MethodName) ({ cls := "SleightHouseModel", name := "opened", desc := "(I)I" } : Jvm.MethodName) ∈ lw_good := lw_good_in 2057 (by decide +kernel) (by decide +kernel)
theorem w_2067 : Jvm.Cond.methodLink "SleightHouseLaw" (136 : Nat) ({ cls := "SleightHouseModel", name := "ring", desc := "(III)I" } : Jvm.MethodName) ∈ lw_good := lw_good_in 2067 (by decide +kernel) (by decide +kernel)
theorem w_2068 : Jvm.Cond.instanceMethod ({ cls := "SleightHouseModel", name := "ring", desc := "(III)I" } : Jvm.MethodName) ∈ lw_good := lw_good_in 2068 (by decide +kernel) (by decide +kernel)
theorem w_2069 : Jvm.Cond.selects "SleightHouseModel" ({ cls := "SleightHouseModel", name := "ring", desc := "(III)I" } : Jvm.MethodName) ({ cls := "SleightHouseModel", name := "ring", desc := "(III)I" } : Jvm.MethodName) ∈ lw_good := lw_good_in 2069 (by decide +kernel) (by decide +kernel)
theorem w_2071 : Jvm.Cond.methodLink "SleightHouseLaw" (140 : Nat) ({ cls := "SleightHouseModel", name := "gift", desc := "(II)Z" } : Jvm.MethodName) ∈ lw_good := lw_good_in 2071 (by decide +kernel) (by decide +kernel)
theorem w_2072 : Jvm.Cond.instanceMethod ({ cls := "SleightHouseModel", name := "gift", desc := "(II)Z" } : Jvm.MethodName) ∈ lw_good := lw_good_in 2072 (by decide +kernel) (by decide +kernel)
theorem w_2073 : Jvm.Cond.selects "SleightHouseModel" ({ cls := "SleightHouseModel", name := "gift", desc := "(II)Z" } : Jvm.MethodName) ({ cls := "SleightHouseModel", name := "gift", desc := "(II)Z" } : Jvm.MethodName) ∈ lw_good := lw_good_in 2073 (by decide +kernel) (by decide +kernel)
theorem w_2075 : Jvm.Cond.methodLink "SleightHouseLaw" (144 : Nat) ({ cls := "SleightHouseModel", name := "heir", desc := "(I)I" } : Jvm.MethodName) ∈ lw_good := lw_good_in 2075 (by decide +kernel) (by decide +kernel)
theorem w_2076 : Jvm.Cond.instanceMethod ({ cls := "SleightHouseModel", name := "heir", desc := "(I)I" } : Jvm.MethodName) ∈ lw_good := lw_good_in 2076 (by decide +kernel) (by decide +kernel)
theorem w_2077 : Jvm.Cond.selects "SleightHouseModel" ({ cls := "SleightHouseModel", name := "heir", desc := "(I)I" } : Jvm.MethodName) ({ cls := "SleightHouseModel", name := "heir", desc := "(I)I" } : Jvm.MethodName) ∈ lw_good := lw_good_in 2077 (by decide +kernel) (by decide +kernel)
theorem w_2092 : Jvm.Cond.methodLink "SleightHouseLaw" (148 : Nat) ({ cls := "SleightHouseModel", name := "weighings", desc := "(II)I" } : Jvm.MethodName) ∈ lw_good := lw_good_in 2092 (by decide +kernel) (by decide +kernel)
theorem w_2093 : Jvm.Cond.instanceMethod ({ cls := "SleightHouseModel", name := "weighings", desc := "(II)I" } : Jvm.MethodName) ∈ lw_good := lw_good_in 2093 (by decide +kernel) (by decide +kernel)
theorem w_2094 : Jvm.Cond.selects "SleightHouseModel" ({ cls := "SleightHouseModel", name := "weighings", desc := "(II)I" } : Jvm.MethodName) ({ cls := "SleightHouseModel", name := "weighings", desc := "(II)I" } : Jvm.MethodName) ∈ lw_good := lw_good_in 2094 (by decide +kernel) (by decide +kernel)
theorem w_2096 : Jvm.Cond.methodLink "SleightHouseLaw" (152 : Nat) ({ cls := "SleightHouseModel", name := "rings", desc := "(II)I" } : Jvm.MethodName) ∈ lw_good := lw_good_in 2096 (by decide +kernel) (by decide +kernel)
theorem w_2097 : Jvm.Cond.instanceMethod ({ cls := "SleightHouseModel", name := "rings", desc := "(II)I" } : Jvm.MethodName) ∈ lw_good := lw_good_in 2097 (by decide +kernel) (by decide +kernel)
theorem w_2098 : Jvm.Cond.selects "SleightHouseModel" ({ cls := "SleightHouseModel", name := "rings", desc := "(II)I" } : Jvm.MethodName) ({ cls := "SleightHouseModel", name := "rings", desc := "(II)I" } : Jvm.MethodName) ∈ lw_good := lw_good_in 2098 (by decide +kernel) (by decide +kernel)
theorem w_2105 : Jvm.Cond.methodLink "SleightHouseLaw" (156 : Nat) ({ cls := "SleightHouseModel", name := "hats", desc := "(II)I" } : Jvm.MethodName) ∈ lw_good := lw_good_in 2105 (by decide +kernel) (by decide +kernel)
theorem w_2106 : Jvm.Cond.instanceMethod ({ cls := "SleightHouseModel", name := "hats", desc := "(II)I" } : Jvm.MethodName) ∈ lw_good := lw_good_in 2106 (by decide +kernel) (by decide +kernel)
theorem w_2107 : Jvm.Cond.selects "SleightHouseModel" ({ cls := "SleightHouseModel", name := "hats", desc := "(II)I" } : Jvm.MethodName) ({ cls := "SleightHouseModel", name := "hats", desc := "(II)I" } : Jvm.MethodName) ∈ lw_good := lw_good_in 2107 (by decide +kernel) (by decide +kernel)
theorem w_2109 : Jvm.Cond.methodLink "SleightHouseLaw" (160 : Nat) ({ cls := "SleightHouseModel", name := "mirror", desc := "(II)Z" } : Jvm.MethodName) ∈ lw_good := lw_good_in 2109 (by decide +kernel) (by decide +kernel)
theorem w_2110 : Jvm.Cond.instanceMethod ({ cls := "SleightHouseModel", name := "mirror", desc := "(II)Z" } : Jvm.MethodName) ∈ lw_good := lw_good_in 2110 (by decide +kernel) (by decide +kernel)
theorem w_2111 : Jvm.Cond.selects "SleightHouseModel" ({ cls := "SleightHouseModel", name := "mirror", desc := "(II)Z" } : Jvm.MethodName) ({ cls := "SleightHouseModel", name := "mirror", desc := "(II)Z" } : Jvm.MethodName) ∈ lw_good := lw_good_in 2111 (by decide +kernel) (by decide +kernel)
theorem w_2113 : Jvm.Cond.methodLink "SleightHouseLaw" (164 : Nat) ({ cls := "SleightHouseModel", name := "glance", desc := "(II)I" } : Jvm.MethodName) ∈ lw_good := lw_good_in 2113 (by decide +kernel) (by decide +kernel)
theorem w_2114 : Jvm.Cond.instanceMethod ({ cls := "SleightHouseModel", name := "glance", desc := "(II)I" } : Jvm.MethodName) ∈ lw_good := lw_good_in 2114 (by decide +kernel) (by decide +kernel)
theorem w_2115 : Jvm.Cond.selects "SleightHouseModel" ({ cls := "SleightHouseModel", name := "glance", desc := "(II)I" } : Jvm.MethodName) ({ cls := "SleightHouseModel", name := "glance", desc := "(II)I" } : Jvm.MethodName) ∈ lw_good := lw_good_in 2115 (by decide +kernel) (by decide +kernel)
theorem w_2121 : Jvm.Cond.methodLink "SleightHouseLaw" (169 : Nat) ({ cls := "SleightHouseModel", name := "clue", desc := "(IIZ)I" } : Jvm.MethodName) ∈ lw_good := lw_good_in 2121 (by decide +kernel) (by decide +kernel)
theorem w_2122 : Jvm.Cond.instanceMethod ({ cls := "SleightHouseModel", name := "clue", desc := "(IIZ)I" } : Jvm.MethodName) ∈ lw_good := lw_good_in 2122 (by decide +kernel) (by decide +kernel)
theorem w_2123 : Jvm.Cond.selects "SleightHouseModel" ({ cls := "SleightHouseModel", name := "clue", desc := "(IIZ)I" } : Jvm.MethodName) ({ cls := "SleightHouseModel", name := "clue", desc := "(IIZ)I" } : Jvm.MethodName) ∈ lw_good := lw_good_in 2123 (by decide +kernel) (by decide +kernel)
theorem w_2125 : Jvm.Cond.methodLink "SleightHouseLaw" (173 : Nat) ({ cls := "SleightHouseModel", name := "fits", desc := "(I)I" } : Jvm.MethodName) ∈ lw_good := lw_good_in 2125 (by decide +kernel) (by decide +kernel)
theorem w_2126 : Jvm.Cond.instanceMethod ({ cls := "SleightHouseModel", name := "fits", desc := "(I)I" } : Jvm.MethodName) ∈ lw_good := lw_good_in 2126 (by decide +kernel) (by decide +kernel)
theorem w_2127 : Jvm.Cond.selects "SleightHouseModel" ({ cls := "SleightHouseModel", name := "fits", desc := "(I)I" } : Jvm.MethodName) ({ cls := "SleightHouseModel", name := "fits", desc := "(I)I" } : Jvm.MethodName) ∈ lw_good := lw_good_in 2127 (by decide +kernel) (by decide +kernel)
theorem w_2137 : Jvm.Cond.methodLink "SleightHouseLaw" (177 : Nat) ({ cls := "SleightHouseModel", name := "share", desc := "(I)I" } : Jvm.MethodName) ∈ lw_good := lw_good_in 2137 (by decide +kernel) (by decide +kernel)
theorem w_2138 : Jvm.Cond.instanceMethod ({ cls := "SleightHouseModel", name := "share", desc := "(I)I" } : Jvm.MethodName) ∈ lw_good := lw_good_in 2138 (by decide +kernel) (by decide +kernel)
theorem w_2139 : Jvm.Cond.selects "SleightHouseModel" ({ cls := "SleightHouseModel", name := "share", desc := "(I)I" } : Jvm.MethodName) ({ cls := "SleightHouseModel", name := "share", desc := "(I)I" } : Jvm.MethodName) ∈ lw_good := lw_good_in 2139 (by decide +kernel) (by decide +kernel)
theorem w_2141 : Jvm.Cond.methodLink "SleightHouseLaw" (181 : Nat) ({ cls := "SleightHouseModel", name := "gets", desc := "(II)I" } : Jvm.MethodName) ∈ lw_good := lw_good_in 2141 (by decide +kernel) (by decide +kernel)
theorem w_2142 : Jvm.Cond.instanceMethod ({ cls := "SleightHouseModel", name := "gets", desc := "(II)I" } : Jvm.MethodName) ∈ lw_good := lw_good_in 2142 (by decide +kernel) (by decide +kernel)
theorem w_2143 : Jvm.Cond.selects "SleightHouseModel" ({ cls := "SleightHouseModel", name := "gets", desc := "(II)I" } : Jvm.MethodName) ({ cls := "SleightHouseModel", name := "gets", desc := "(II)I" } : Jvm.MethodName) ∈ lw_good := lw_good_in 2143 (by decide +kernel) (by decide +kernel)
theorem w_2145 : Jvm.Cond.methodLink "SleightHouseLaw" (185 : Nat) ({ cls := "SleightHouseModel", name := "row", desc := "(I)I" } : Jvm.MethodName) ∈ lw_good := lw_good_in 2145 (by decide +kernel) (by decide +kernel)
theorem w_2146 : Jvm.Cond.instanceMethod ({ cls := "SleightHouseModel", name := "row", desc := "(I)I" } : Jvm.MethodName) ∈ lw_good := lw_good_in 2146 (by decide +kernel) (by decide +kernel)
theorem w_2147 : Jvm.Cond.selects "SleightHouseModel" ({ cls := "SleightHouseModel", name := "row", desc := "(I)I" } : Jvm.MethodName) ({ cls := "SleightHouseModel", name := "row", desc := "(I)I" } : Jvm.MethodName) ∈ lw_good := lw_good_in 2147 (by decide +kernel) (by decide +kernel)
theorem w_2149 : Jvm.Cond.methodLink "SleightHouseLaw" (189 : Nat) ({ cls := "SleightHouseModel", name := "game", desc := "(I)I" } : Jvm.MethodName) ∈ lw_good := lw_good_in 2149 (by decide +kernel) (by decide +kernel)
theorem w_2150 : Jvm.Cond.instanceMethod ({ cls := "SleightHouseModel", name := "game", desc := "(I)I" } : Jvm.MethodName) ∈ lw_good := lw_good_in 2150 (by decide +kernel) (by decide +kernel)
theorem w_2151 : Jvm.Cond.selects "SleightHouseModel" ({ cls := "SleightHouseModel", name := "game", desc := "(I)I" } : Jvm.MethodName) ({ cls := "SleightHouseModel", name := "game", desc := "(I)I" } : Jvm.MethodName) ∈ lw_good := lw_good_in 2151 (by decide +kernel) (by decide +kernel)
theorem w_2157 : Jvm.Cond.methodLink "SleightHouseLaw" (199 : Nat) ({ cls := "SleightHouseModel", name := "image", desc := "(Z)Z" } : Jvm.MethodName) ∈ lw_good := lw_good_in 2157 (by decide +kernel) (by decide +kernel)
theorem w_2158 : Jvm.Cond.instanceMethod ({ cls := "SleightHouseModel", name := "image", desc := "(Z)Z" } : Jvm.MethodName) ∈ lw_good := lw_good_in 2158 (by decide +kernel) (by decide +kernel)
theorem w_2159 : Jvm.Cond.selects "SleightHouseModel" ({ cls := "SleightHouseModel", name := "image", desc := "(Z)Z" } : Jvm.MethodName) ({ cls := "SleightHouseModel", name := "image", desc := "(Z)Z" } : Jvm.MethodName) ∈ lw_good := lw_good_in 2159 (by decide +kernel) (by decide +kernel)
theorem w_2181 : Jvm.Cond.methodLink "SleightHouseLaw" (203 : Nat) ({ cls := "SleightHouseModel", name := "look", desc := "(I)I" } : Jvm.MethodName) ∈ lw_good := lw_good_in 2181 (by decide +kernel) (by decide +kernel)
theorem w_2182 : Jvm.Cond.instanceMethod ({ cls := "SleightHouseModel", name := "look", desc := "(I)I" } : Jvm.MethodName) ∈ lw_good := lw_good_in 2182 (by decide +kernel) (by decide +kernel)
theorem w_2183 : Jvm.Cond.selects "SleightHouseModel" ({ cls := "SleightHouseModel", name := "look", desc := "(I)I" } : Jvm.MethodName) ({ cls := "SleightHouseModel", name := "look", desc := "(I)I" } : Jvm.MethodName) ∈ lw_good := lw_good_in 2183 (by decide +kernel) (by decide +kernel)
theorem dl_0 : decode code 0 = .ok (.new 7, 3) := by decide +kernel
theorem dl_3 : decode code 3 = .ok (.dup, 1) := by decide +kernel
theorem dl_4 : decode code 4 = .ok (.invokespecial 9, 3) := by decide +kernel
theorem dl_7 : decode code 7 = .ok (.astore_n 1, 1) := by decide +kernel
theorem dl_8 : decode code 8 = .ok (.new 10, 3) := by decide +kernel
theorem dl_11 : decode code 11 = .ok (.dup, 1) := by decide +kernel
theorem dl_12 : decode code 12 = .ok (.invokespecial 12, 3) := by decide +kernel
theorem dl_15 : decode code 15 = .ok (.astore_n 2, 1) := by decide +kernel
theorem dl_16 : decode code 16 = .ok (.iconst 0, 1) := by decide +kernel
theorem dl_17 : decode code 17 = .ok (.istore_n 3, 1) := by decide +kernel
theorem dl_18 : decode code 18 = .ok (.iload_n 3, 1) := by decide +kernel
theorem dl_19 : decode code 19 = .ok (.aload_n 0, 1) := by decide +kernel
theorem dl_20 : decode code 20 = .ok (.arraylength, 1) := by decide +kernel
theorem dl_21 : decode code 21 = .ok (.bipush 6, 2) := by decide +kernel
theorem dl_23 : decode code 23 = .ok (.isub, 1) := by decide +kernel
theorem dl_24 : decode code 24 = .ok (.if_icmp .gt 1657, 3) := by decide +kernel
theorem dl_27 : decode code 27 = .ok (.aload_n 0, 1) := by decide +kernel
theorem dl_28 : decode code 28 = .ok (.iload_n 3, 1) := by decide +kernel
theorem dl_29 : decode code 29 = .ok (.iaload, 1) := by decide +kernel
theorem dl_30 : decode code 30 = .ok (.bipush 63, 2) := by decide +kernel
theorem dl_32 : decode code 32 = .ok (.iand, 1) := by decide +kernel
theorem dl_33 : decode code 33 = .ok (.tableswitch 1642 0 44 #[195, 218, 261, 294, 337, 380, 413, 446, 469, 532, 555, 578, 601, 634, 667, 700, 753, 786, 819, 862, 895, 928, 951, 974, 1007, 1040, 1063, 1096, 1119, 1162, 1195, 1218, 1251, 1284, 1317, 1350, 1383, 1442, 1465, 1488, 1521, 1544, 1567, 1580, 1619], 195) := by decide +kernel
theorem dl_228 : decode code 228 = .ok (.aload_n 1, 1) := by decide +kernel
theorem dl_229 : decode code 229 = .ok (.aload_n 0, 1) := by decide +kernel
theorem dl_230 : decode code 230 = .ok (.iload_n 3, 1) := by decide +kernel
theorem dl_231 : decode code 231 = .ok (.iconst 1, 1) := by decide +kernel
theorem dl_232 : decode code 232 = .ok (.iadd, 1) := by decide +kernel
theorem dl_233 : decode code 233 = .ok (.iaload, 1) := by decide +kernel
theorem dl_234 : decode code 234 = .ok (.invokevirtual 13, 3) := by decide +kernel
theorem dl_237 : decode code 237 = .ok (.aload_n 2, 1) := by decide +kernel
theorem dl_238 : decode code 238 = .ok (.aload_n 0, 1) := by decide +kernel
theorem dl_239 : decode code 239 = .ok (.iload_n 3, 1) := by decide +kernel
theorem dl_240 : decode code 240 = .ok (.iconst 1, 1) := by decide +kernel
theorem dl_241 : decode code 241 = .ok (.iadd, 1) := by decide +kernel
theorem dl_242 : decode code 242 = .ok (.iaload, 1) := by decide +kernel
theorem dl_243 : decode code 243 = .ok (.invokevirtual 17, 3) := by decide +kernel
theorem dl_246 : decode code 246 = .ok (.if_icmp .eq 1429, 3) := by decide +kernel
theorem dl_249 : decode code 249 = .ok (.iconst 0, 1) := by decide +kernel
theorem dl_251 : decode code 251 = .ok (.aload_n 1, 1) := by decide +kernel
theorem dl_252 : decode code 252 = .ok (.aload_n 0, 1) := by decide +kernel
theorem dl_253 : decode code 253 = .ok (.iload_n 3, 1) := by decide +kernel
theorem dl_254 : decode code 254 = .ok (.iconst 1, 1) := by decide +kernel
theorem dl_255 : decode code 255 = .ok (.iadd, 1) := by decide +kernel
theorem dl_256 : decode code 256 = .ok (.iaload, 1) := by decide +kernel
theorem dl_257 : decode code 257 = .ok (.aload_n 0, 1) := by decide +kernel
theorem dl_258 : decode code 258 = .ok (.iload_n 3, 1) := by decide +kernel
theorem dl_259 : decode code 259 = .ok (.iconst 2, 1) := by decide +kernel
theorem dl_260 : decode code 260 = .ok (.iadd, 1) := by decide +kernel
theorem dl_261 : decode code 261 = .ok (.iaload, 1) := by decide +kernel
theorem dl_262 : decode code 262 = .ok (.aload_n 0, 1) := by decide +kernel
theorem dl_263 : decode code 263 = .ok (.iload_n 3, 1) := by decide +kernel
theorem dl_264 : decode code 264 = .ok (.iconst 3, 1) := by decide +kernel
theorem dl_265 : decode code 265 = .ok (.iadd, 1) := by decide +kernel
theorem dl_266 : decode code 266 = .ok (.iaload, 1) := by decide +kernel
theorem dl_267 : decode code 267 = .ok (.invokevirtual 18, 3) := by decide +kernel
theorem dl_270 : decode code 270 = .ok (.aload_n 2, 1) := by decide +kernel
theorem dl_271 : decode code 271 = .ok (.aload_n 0, 1) := by decide +kernel
theorem dl_272 : decode code 272 = .ok (.iload_n 3, 1) := by decide +kernel
theorem dl_273 : decode code 273 = .ok (.iconst 1, 1) := by decide +kernel
theorem dl_274 : decode code 274 = .ok (.iadd, 1) := by decide +kernel
theorem dl_275 : decode code 275 = .ok (.iaload, 1) := by decide +kernel
theorem dl_276 : decode code 276 = .ok (.aload_n 0, 1) := by decide +kernel
theorem dl_277 : decode code 277 = .ok (.iload_n 3, 1) := by decide +kernel
theorem dl_278 : decode code 278 = .ok (.iconst 2, 1) := by decide +kernel
theorem dl_279 : decode code 279 = .ok (.iadd, 1) := by decide +kernel
theorem dl_280 : decode code 280 = .ok (.iaload, 1) := by decide +kernel
theorem dl_281 : decode code 281 = .ok (.aload_n 0, 1) := by decide +kernel
theorem dl_282 : decode code 282 = .ok (.iload_n 3, 1) := by decide +kernel
theorem dl_283 : decode code 283 = .ok (.iconst 3, 1) := by decide +kernel
theorem dl_284 : decode code 284 = .ok (.iadd, 1) := by decide +kernel
theorem dl_285 : decode code 285 = .ok (.iaload, 1) := by decide +kernel
theorem dl_286 : decode code 286 = .ok (.invokevirtual 22, 3) := by decide +kernel
theorem dl_289 : decode code 289 = .ok (.if_icmp .eq 1386, 3) := by decide +kernel
theorem dl_292 : decode code 292 = .ok (.iconst 0, 1) := by decide +kernel
theorem dl_294 : decode code 294 = .ok (.aload_n 1, 1) := by decide +kernel
theorem dl_295 : decode code 295 = .ok (.aload_n 0, 1) := by decide +kernel
theorem dl_296 : decode code 296 = .ok (.iload_n 3, 1) := by decide +kernel
theorem dl_297 : decode code 297 = .ok (.iconst 1, 1) := by decide +kernel
theorem dl_298 : decode code 298 = .ok (.iadd, 1) := by decide +kernel
theorem dl_299 : decode code 299 = .ok (.iaload, 1) := by decide +kernel
theorem dl_300 : decode code 300 = .ok (.aload_n 0, 1) := by decide +kernel
theorem dl_301 : decode code 301 = .ok (.iload_n 3, 1) := by decide +kernel
theorem dl_302 : decode code 302 = .ok (.iconst 2, 1) := by decide +kernel
theorem dl_303 : decode code 303 = .ok (.iadd, 1) := by decide +kernel
theorem dl_304 : decode code 304 = .ok (.iaload, 1) := by decide +kernel
theorem dl_305 : decode code 305 = .ok (.invokevirtual 23, 3) := by decide +kernel
theorem dl_308 : decode code 308 = .ok (.aload_n 2, 1) := by decide +kernel
theorem dl_309 : decode code 309 = .ok (.aload_n 0, 1) := by decide +kernel
theorem dl_310 : decode code 310 = .ok (.iload_n 3, 1) := by decide +kernel
theorem dl_311 : decode code 311 = .ok (.iconst 1, 1) := by decide +kernel
theorem dl_312 : decode code 312 = .ok (.iadd, 1) := by decide +kernel
theorem dl_313 : decode code 313 = .ok (.iaload, 1) := by decide +kernel
theorem dl_314 : decode code 314 = .ok (.aload_n 0, 1) := by decide +kernel
theorem dl_315 : decode code 315 = .ok (.iload_n 3, 1) := by decide +kernel
theorem dl_316 : decode code 316 = .ok (.iconst 2, 1) := by decide +kernel
theorem dl_317 : decode code 317 = .ok (.iadd, 1) := by decide +kernel
theorem dl_318 : decode code 318 = .ok (.iaload, 1) := by decide +kernel
theorem dl_319 : decode code 319 = .ok (.invokevirtual 27, 3) := by decide +kernel
theorem dl_322 : decode code 322 = .ok (.if_icmp .eq 1353, 3) := by decide +kernel
theorem dl_325 : decode code 325 = .ok (.iconst 0, 1) := by decide +kernel
theorem dl_327 : decode code 327 = .ok (.aload_n 1, 1) := by decide +kernel
theorem dl_328 : decode code 328 = .ok (.aload_n 0, 1) := by decide +kernel
theorem dl_329 : decode code 329 = .ok (.iload_n 3, 1) := by decide +kernel
theorem dl_330 : decode code 330 = .ok (.iconst 1, 1) := by decide +kernel
theorem dl_331 : decode code 331 = .ok (.iadd, 1) := by decide +kernel
theorem dl_332 : decode code 332 = .ok (.iaload, 1) := by decide +kernel
theorem dl_333 : decode code 333 = .ok (.aload_n 0, 1) := by decide +kernel
theorem dl_334 : decode code 334 = .ok (.iload_n 3, 1) := by decide +kernel
theorem dl_335 : decode code 335 = .ok (.iconst 2, 1) := by decide +kernel
theorem dl_336 : decode code 336 = .ok (.iadd, 1) := by decide +kernel
theorem dl_337 : decode code 337 = .ok (.iaload, 1) := by decide +kernel
theorem dl_338 : decode code 338 = .ok (.aload_n 0, 1) := by decide +kernel
theorem dl_339 : decode code 339 = .ok (.iload_n 3, 1) := by decide +kernel
theorem dl_340 : decode code 340 = .ok (.iconst 3, 1) := by decide +kernel
theorem dl_341 : decode code 341 = .ok (.iadd, 1) := by decide +kernel
theorem dl_342 : decode code 342 = .ok (.iaload, 1) := by decide +kernel
theorem dl_343 : decode code 343 = .ok (.invokevirtual 28, 3) := by decide +kernel
theorem dl_346 : decode code 346 = .ok (.aload_n 2, 1) := by decide +kernel
theorem dl_347 : decode code 347 = .ok (.aload_n 0, 1) := by decide +kernel
theorem dl_348 : decode code 348 = .ok (.iload_n 3, 1) := by decide +kernel
theorem dl_349 : decode code 349 = .ok (.iconst 1, 1) := by decide +kernel
theorem dl_350 : decode code 350 = .ok (.iadd, 1) := by decide +kernel
theorem dl_351 : decode code 351 = .ok (.iaload, 1) := by decide +kernel
theorem dl_352 : decode code 352 = .ok (.aload_n 0, 1) := by decide +kernel
theorem dl_353 : decode code 353 = .ok (.iload_n 3, 1) := by decide +kernel
theorem dl_354 : decode code 354 = .ok (.iconst 2, 1) := by decide +kernel
theorem dl_355 : decode code 355 = .ok (.iadd, 1) := by decide +kernel
theorem dl_356 : decode code 356 = .ok (.iaload, 1) := by decide +kernel
theorem dl_357 : decode code 357 = .ok (.aload_n 0, 1) := by decide +kernel
theorem dl_358 : decode code 358 = .ok (.iload_n 3, 1) := by decide +kernel
theorem dl_359 : decode code 359 = .ok (.iconst 3, 1) := by decide +kernel
theorem dl_360 : decode code 360 = .ok (.iadd, 1) := by decide +kernel
theorem dl_361 : decode code 361 = .ok (.iaload, 1) := by decide +kernel
theorem dl_362 : decode code 362 = .ok (.invokevirtual 32, 3) := by decide +kernel
theorem dl_365 : decode code 365 = .ok (.if_icmp .eq 1310, 3) := by decide +kernel
theorem dl_368 : decode code 368 = .ok (.iconst 0, 1) := by decide +kernel
theorem dl_370 : decode code 370 = .ok (.aload_n 1, 1) := by decide +kernel
theorem dl_371 : decode code 371 = .ok (.aload_n 0, 1) := by decide +kernel
theorem dl_372 : decode code 372 = .ok (.iload_n 3, 1) := by decide +kernel
theorem dl_373 : decode code 373 = .ok (.iconst 1, 1) := by decide +kernel
theorem dl_374 : decode code 374 = .ok (.iadd, 1) := by decide +kernel
theorem dl_375 : decode code 375 = .ok (.iaload, 1) := by decide +kernel
theorem dl_376 : decode code 376 = .ok (.aload_n 0, 1) := by decide +kernel
theorem dl_377 : decode code 377 = .ok (.iload_n 3, 1) := by decide +kernel
theorem dl_378 : decode code 378 = .ok (.iconst 2, 1) := by decide +kernel
theorem dl_379 : decode code 379 = .ok (.iadd, 1) := by decide +kernel
theorem dl_380 : decode code 380 = .ok (.iaload, 1) := by decide +kernel
theorem dl_381 : decode code 381 = .ok (.aload_n 0, 1) := by decide +kernel
theorem dl_382 : decode code 382 = .ok (.iload_n 3, 1) := by decide +kernel
theorem dl_383 : decode code 383 = .ok (.iconst 3, 1) := by decide +kernel
theorem dl_384 : decode code 384 = .ok (.iadd, 1) := by decide +kernel
theorem dl_385 : decode code 385 = .ok (.iaload, 1) := by decide +kernel
theorem dl_386 : decode code 386 = .ok (.invokevirtual 33, 3) := by decide +kernel
theorem dl_389 : decode code 389 = .ok (.aload_n 2, 1) := by decide +kernel
theorem dl_390 : decode code 390 = .ok (.aload_n 0, 1) := by decide +kernel
theorem dl_391 : decode code 391 = .ok (.iload_n 3, 1) := by decide +kernel
theorem dl_392 : decode code 392 = .ok (.iconst 1, 1) := by decide +kernel
theorem dl_393 : decode code 393 = .ok (.iadd, 1) := by decide +kernel
theorem dl_394 : decode code 394 = .ok (.iaload, 1) := by decide +kernel
theorem dl_395 : decode code 395 = .ok (.aload_n 0, 1) := by decide +kernel
theorem dl_396 : decode code 396 = .ok (.iload_n 3, 1) := by decide +kernel
theorem dl_397 : decode code 397 = .ok (.iconst 2, 1) := by decide +kernel
theorem dl_398 : decode code 398 = .ok (.iadd, 1) := by decide +kernel
theorem dl_399 : decode code 399 = .ok (.iaload, 1) := by decide +kernel
theorem dl_400 : decode code 400 = .ok (.aload_n 0, 1) := by decide +kernel
theorem dl_401 : decode code 401 = .ok (.iload_n 3, 1) := by decide +kernel
theorem dl_402 : decode code 402 = .ok (.iconst 3, 1) := by decide +kernel
theorem dl_403 : decode code 403 = .ok (.iadd, 1) := by decide +kernel
theorem dl_404 : decode code 404 = .ok (.iaload, 1) := by decide +kernel
theorem dl_405 : decode code 405 = .ok (.invokevirtual 36, 3) := by decide +kernel
theorem dl_408 : decode code 408 = .ok (.if_icmp .eq 1267, 3) := by decide +kernel
theorem dl_411 : decode code 411 = .ok (.iconst 0, 1) := by decide +kernel
theorem dl_413 : decode code 413 = .ok (.aload_n 1, 1) := by decide +kernel
theorem dl_414 : decode code 414 = .ok (.aload_n 0, 1) := by decide +kernel
theorem dl_415 : decode code 415 = .ok (.iload_n 3, 1) := by decide +kernel
theorem dl_416 : decode code 416 = .ok (.iconst 1, 1) := by decide +kernel
theorem dl_417 : decode code 417 = .ok (.iadd, 1) := by decide +kernel
theorem dl_418 : decode code 418 = .ok (.iaload, 1) := by decide +kernel
theorem dl_419 : decode code 419 = .ok (.aload_n 0, 1) := by decide +kernel
theorem dl_420 : decode code 420 = .ok (.iload_n 3, 1) := by decide +kernel
theorem dl_421 : decode code 421 = .ok (.iconst 2, 1) := by decide +kernel
theorem dl_422 : decode code 422 = .ok (.iadd, 1) := by decide +kernel
theorem dl_423 : decode code 423 = .ok (.iaload, 1) := by decide +kernel
theorem dl_424 : decode code 424 = .ok (.invokevirtual 37, 3) := by decide +kernel
theorem dl_427 : decode code 427 = .ok (.aload_n 2, 1) := by decide +kernel
theorem dl_428 : decode code 428 = .ok (.aload_n 0, 1) := by decide +kernel
theorem dl_429 : decode code 429 = .ok (.iload_n 3, 1) := by decide +kernel
theorem dl_430 : decode code 430 = .ok (.iconst 1, 1) := by decide +kernel
theorem dl_431 : decode code 431 = .ok (.iadd, 1) := by decide +kernel
theorem dl_432 : decode code 432 = .ok (.iaload, 1) := by decide +kernel
theorem dl_433 : decode code 433 = .ok (.aload_n 0, 1) := by decide +kernel
theorem dl_434 : decode code 434 = .ok (.iload_n 3, 1) := by decide +kernel
theorem dl_435 : decode code 435 = .ok (.iconst 2, 1) := by decide +kernel
theorem dl_436 : decode code 436 = .ok (.iadd, 1) := by decide +kernel
theorem dl_437 : decode code 437 = .ok (.iaload, 1) := by decide +kernel
theorem dl_438 : decode code 438 = .ok (.invokevirtual 40, 3) := by decide +kernel
theorem dl_441 : decode code 441 = .ok (.if_icmp .eq 1234, 3) := by decide +kernel
theorem dl_444 : decode code 444 = .ok (.iconst 0, 1) := by decide +kernel
theorem dl_446 : decode code 446 = .ok (.aload_n 1, 1) := by decide +kernel
theorem dl_447 : decode code 447 = .ok (.aload_n 0, 1) := by decide +kernel
theorem dl_448 : decode code 448 = .ok (.iload_n 3, 1) := by decide +kernel
theorem dl_449 : decode code 449 = .ok (.iconst 1, 1) := by decide +kernel
theorem dl_450 : decode code 450 = .ok (.iadd, 1) := by decide +kernel
theorem dl_451 : decode code 451 = .ok (.iaload, 1) := by decide +kernel
theorem dl_452 : decode code 452 = .ok (.aload_n 0, 1) := by decide +kernel
theorem dl_453 : decode code 453 = .ok (.iload_n 3, 1) := by decide +kernel
theorem dl_454 : decode code 454 = .ok (.iconst 2, 1) := by decide +kernel
theorem dl_455 : decode code 455 = .ok (.iadd, 1) := by decide +kernel
theorem dl_456 : decode code 456 = .ok (.iaload, 1) := by decide +kernel
theorem dl_457 : decode code 457 = .ok (.invokevirtual 41, 3) := by decide +kernel
theorem dl_460 : decode code 460 = .ok (.aload_n 2, 1) := by decide +kernel
theorem dl_461 : decode code 461 = .ok (.aload_n 0, 1) := by decide +kernel
theorem dl_462 : decode code 462 = .ok (.iload_n 3, 1) := by decide +kernel
theorem dl_463 : decode code 463 = .ok (.iconst 1, 1) := by decide +kernel
theorem dl_464 : decode code 464 = .ok (.iadd, 1) := by decide +kernel
theorem dl_465 : decode code 465 = .ok (.iaload, 1) := by decide +kernel
theorem dl_466 : decode code 466 = .ok (.aload_n 0, 1) := by decide +kernel
theorem dl_467 : decode code 467 = .ok (.iload_n 3, 1) := by decide +kernel
theorem dl_468 : decode code 468 = .ok (.iconst 2, 1) := by decide +kernel
theorem dl_469 : decode code 469 = .ok (.iadd, 1) := by decide +kernel
theorem dl_470 : decode code 470 = .ok (.iaload, 1) := by decide +kernel
theorem dl_471 : decode code 471 = .ok (.invokevirtual 45, 3) := by decide +kernel
theorem dl_474 : decode code 474 = .ok (.if_icmp .eq 1201, 3) := by decide +kernel
theorem dl_477 : decode code 477 = .ok (.iconst 0, 1) := by decide +kernel
theorem dl_479 : decode code 479 = .ok (.aload_n 1, 1) := by decide +kernel
theorem dl_480 : decode code 480 = .ok (.aload_n 0, 1) := by decide +kernel
theorem dl_481 : decode code 481 = .ok (.iload_n 3, 1) := by decide +kernel
theorem dl_482 : decode code 482 = .ok (.iconst 1, 1) := by decide +kernel
theorem dl_483 : decode code 483 = .ok (.iadd, 1) := by decide +kernel
theorem dl_484 : decode code 484 = .ok (.iaload, 1) := by decide +kernel
theorem dl_485 : decode code 485 = .ok (.invokevirtual 46, 3) := by decide +kernel
theorem dl_488 : decode code 488 = .ok (.aload_n 2, 1) := by decide +kernel
theorem dl_489 : decode code 489 = .ok (.aload_n 0, 1) := by decide +kernel
theorem dl_490 : decode code 490 = .ok (.iload_n 3, 1) := by decide +kernel
theorem dl_491 : decode code 491 = .ok (.iconst 1, 1) := by decide +kernel
theorem dl_492 : decode code 492 = .ok (.iadd, 1) := by decide +kernel
theorem dl_493 : decode code 493 = .ok (.iaload, 1) := by decide +kernel
theorem dl_494 : decode code 494 = .ok (.invokevirtual 49, 3) := by decide +kernel
theorem dl_497 : decode code 497 = .ok (.if_icmp .eq 1178, 3) := by decide +kernel
theorem dl_500 : decode code 500 = .ok (.iconst 0, 1) := by decide +kernel
theorem dl_502 : decode code 502 = .ok (.aload_n 1, 1) := by decide +kernel
theorem dl_503 : decode code 503 = .ok (.aload_n 0, 1) := by decide +kernel
theorem dl_504 : decode code 504 = .ok (.iload_n 3, 1) := by decide +kernel
theorem dl_505 : decode code 505 = .ok (.iconst 1, 1) := by decide +kernel
theorem dl_506 : decode code 506 = .ok (.iadd, 1) := by decide +kernel
theorem dl_507 : decode code 507 = .ok (.iaload, 1) := by decide +kernel
theorem dl_508 : decode code 508 = .ok (.aload_n 0, 1) := by decide +kernel
theorem dl_509 : decode code 509 = .ok (.iload_n 3, 1) := by decide +kernel
theorem dl_510 : decode code 510 = .ok (.iconst 2, 1) := by decide +kernel
theorem dl_511 : decode code 511 = .ok (.iadd, 1) := by decide +kernel
theorem dl_512 : decode code 512 = .ok (.iaload, 1) := by decide +kernel
theorem dl_513 : decode code 513 = .ok (.aload_n 0, 1) := by decide +kernel
theorem dl_514 : decode code 514 = .ok (.iload_n 3, 1) := by decide +kernel
theorem dl_515 : decode code 515 = .ok (.iconst 3, 1) := by decide +kernel
theorem dl_516 : decode code 516 = .ok (.iadd, 1) := by decide +kernel
theorem dl_517 : decode code 517 = .ok (.iaload, 1) := by decide +kernel
theorem dl_518 : decode code 518 = .ok (.aload_n 0, 1) := by decide +kernel
theorem dl_519 : decode code 519 = .ok (.iload_n 3, 1) := by decide +kernel
theorem dl_520 : decode code 520 = .ok (.iconst 4, 1) := by decide +kernel
theorem dl_521 : decode code 521 = .ok (.iadd, 1) := by decide +kernel
theorem dl_522 : decode code 522 = .ok (.iaload, 1) := by decide +kernel
theorem dl_523 : decode code 523 = .ok (.aload_n 0, 1) := by decide +kernel
theorem dl_524 : decode code 524 = .ok (.iload_n 3, 1) := by decide +kernel
theorem dl_525 : decode code 525 = .ok (.iconst 5, 1) := by decide +kernel
theorem dl_526 : decode code 526 = .ok (.iadd, 1) := by decide +kernel
theorem dl_527 : decode code 527 = .ok (.iaload, 1) := by decide +kernel
theorem dl_528 : decode code 528 = .ok (.invokevirtual 50, 3) := by decide +kernel
theorem dl_531 : decode code 531 = .ok (.aload_n 2, 1) := by decide +kernel
theorem dl_532 : decode code 532 = .ok (.aload_n 0, 1) := by decide +kernel
theorem dl_533 : decode code 533 = .ok (.iload_n 3, 1) := by decide +kernel
theorem dl_534 : decode code 534 = .ok (.iconst 1, 1) := by decide +kernel
theorem dl_535 : decode code 535 = .ok (.iadd, 1) := by decide +kernel
theorem dl_536 : decode code 536 = .ok (.iaload, 1) := by decide +kernel
theorem dl_537 : decode code 537 = .ok (.aload_n 0, 1) := by decide +kernel
theorem dl_538 : decode code 538 = .ok (.iload_n 3, 1) := by decide +kernel
theorem dl_539 : decode code 539 = .ok (.iconst 2, 1) := by decide +kernel
theorem dl_540 : decode code 540 = .ok (.iadd, 1) := by decide +kernel
theorem dl_541 : decode code 541 = .ok (.iaload, 1) := by decide +kernel
theorem dl_542 : decode code 542 = .ok (.aload_n 0, 1) := by decide +kernel
theorem dl_543 : decode code 543 = .ok (.iload_n 3, 1) := by decide +kernel
theorem dl_544 : decode code 544 = .ok (.iconst 3, 1) := by decide +kernel
theorem dl_545 : decode code 545 = .ok (.iadd, 1) := by decide +kernel
theorem dl_546 : decode code 546 = .ok (.iaload, 1) := by decide +kernel
theorem dl_547 : decode code 547 = .ok (.aload_n 0, 1) := by decide +kernel
theorem dl_548 : decode code 548 = .ok (.iload_n 3, 1) := by decide +kernel
theorem dl_549 : decode code 549 = .ok (.iconst 4, 1) := by decide +kernel
theorem dl_550 : decode code 550 = .ok (.iadd, 1) := by decide +kernel
theorem dl_551 : decode code 551 = .ok (.iaload, 1) := by decide +kernel
theorem dl_552 : decode code 552 = .ok (.aload_n 0, 1) := by decide +kernel
theorem dl_553 : decode code 553 = .ok (.iload_n 3, 1) := by decide +kernel
theorem dl_554 : decode code 554 = .ok (.iconst 5, 1) := by decide +kernel
theorem dl_555 : decode code 555 = .ok (.iadd, 1) := by decide +kernel
theorem dl_556 : decode code 556 = .ok (.iaload, 1) := by decide +kernel
theorem dl_557 : decode code 557 = .ok (.invokevirtual 54, 3) := by decide +kernel
theorem dl_560 : decode code 560 = .ok (.if_icmp .eq 1115, 3) := by decide +kernel
theorem dl_563 : decode code 563 = .ok (.iconst 0, 1) := by decide +kernel
theorem dl_565 : decode code 565 = .ok (.aload_n 1, 1) := by decide +kernel
theorem dl_566 : decode code 566 = .ok (.aload_n 0, 1) := by decide +kernel
theorem dl_567 : decode code 567 = .ok (.iload_n 3, 1) := by decide +kernel
theorem dl_568 : decode code 568 = .ok (.iconst 1, 1) := by decide +kernel
theorem dl_569 : decode code 569 = .ok (.iadd, 1) := by decide +kernel
theorem dl_570 : decode code 570 = .ok (.iaload, 1) := by decide +kernel
theorem dl_571 : decode code 571 = .ok (.invokevirtual 55, 3) := by decide +kernel
theorem dl_574 : decode code 574 = .ok (.aload_n 2, 1) := by decide +kernel
theorem dl_575 : decode code 575 = .ok (.aload_n 0, 1) := by decide +kernel
theorem dl_576 : decode code 576 = .ok (.iload_n 3, 1) := by decide +kernel
theorem dl_577 : decode code 577 = .ok (.iconst 1, 1) := by decide +kernel
theorem dl_578 : decode code 578 = .ok (.iadd, 1) := by decide +kernel
theorem dl_579 : decode code 579 = .ok (.iaload, 1) := by decide +kernel
theorem dl_580 : decode code 580 = .ok (.invokevirtual 59, 3) := by decide +kernel
theorem dl_583 : decode code 583 = .ok (.if_icmp .eq 1092, 3) := by decide +kernel
theorem dl_586 : decode code 586 = .ok (.iconst 0, 1) := by decide +kernel
theorem dl_588 : decode code 588 = .ok (.aload_n 1, 1) := by decide +kernel
theorem dl_589 : decode code 589 = .ok (.aload_n 0, 1) := by decide +kernel
theorem dl_590 : decode code 590 = .ok (.iload_n 3, 1) := by decide +kernel
theorem dl_591 : decode code 591 = .ok (.iconst 1, 1) := by decide +kernel
theorem dl_592 : decode code 592 = .ok (.iadd, 1) := by decide +kernel
theorem dl_593 : decode code 593 = .ok (.iaload, 1) := by decide +kernel
theorem dl_594 : decode code 594 = .ok (.invokevirtual 60, 3) := by decide +kernel
theorem dl_597 : decode code 597 = .ok (.aload_n 2, 1) := by decide +kernel
theorem dl_598 : decode code 598 = .ok (.aload_n 0, 1) := by decide +kernel
theorem dl_599 : decode code 599 = .ok (.iload_n 3, 1) := by decide +kernel
theorem dl_600 : decode code 600 = .ok (.iconst 1, 1) := by decide +kernel
theorem dl_601 : decode code 601 = .ok (.iadd, 1) := by decide +kernel
theorem dl_602 : decode code 602 = .ok (.iaload, 1) := by decide +kernel
theorem dl_603 : decode code 603 = .ok (.invokevirtual 63, 3) := by decide +kernel
theorem dl_606 : decode code 606 = .ok (.if_icmp .eq 1069, 3) := by decide +kernel
theorem dl_609 : decode code 609 = .ok (.iconst 0, 1) := by decide +kernel
theorem dl_611 : decode code 611 = .ok (.aload_n 1, 1) := by decide +kernel
theorem dl_612 : decode code 612 = .ok (.aload_n 0, 1) := by decide +kernel
theorem dl_613 : decode code 613 = .ok (.iload_n 3, 1) := by decide +kernel
theorem dl_614 : decode code 614 = .ok (.iconst 1, 1) := by decide +kernel
theorem dl_615 : decode code 615 = .ok (.iadd, 1) := by decide +kernel
theorem dl_616 : decode code 616 = .ok (.iaload, 1) := by decide +kernel
theorem dl_617 : decode code 617 = .ok (.invokevirtual 64, 3) := by decide +kernel
theorem dl_620 : decode code 620 = .ok (.aload_n 2, 1) := by decide +kernel
theorem dl_621 : decode code 621 = .ok (.aload_n 0, 1) := by decide +kernel
theorem dl_622 : decode code 622 = .ok (.iload_n 3, 1) := by decide +kernel
theorem dl_623 : decode code 623 = .ok (.iconst 1, 1) := by decide +kernel
theorem dl_624 : decode code 624 = .ok (.iadd, 1) := by decide +kernel
theorem dl_625 : decode code 625 = .ok (.iaload, 1) := by decide +kernel
theorem dl_626 : decode code 626 = .ok (.invokevirtual 67, 3) := by decide +kernel
theorem dl_629 : decode code 629 = .ok (.if_icmp .eq 1046, 3) := by decide +kernel
theorem dl_632 : decode code 632 = .ok (.iconst 0, 1) := by decide +kernel
theorem dl_634 : decode code 634 = .ok (.aload_n 1, 1) := by decide +kernel
theorem dl_635 : decode code 635 = .ok (.aload_n 0, 1) := by decide +kernel
theorem dl_636 : decode code 636 = .ok (.iload_n 3, 1) := by decide +kernel
theorem dl_637 : decode code 637 = .ok (.iconst 1, 1) := by decide +kernel
theorem dl_638 : decode code 638 = .ok (.iadd, 1) := by decide +kernel
theorem dl_639 : decode code 639 = .ok (.iaload, 1) := by decide +kernel
theorem dl_640 : decode code 640 = .ok (.aload_n 0, 1) := by decide +kernel
theorem dl_641 : decode code 641 = .ok (.iload_n 3, 1) := by decide +kernel
theorem dl_642 : decode code 642 = .ok (.iconst 2, 1) := by decide +kernel
theorem dl_643 : decode code 643 = .ok (.iadd, 1) := by decide +kernel
theorem dl_644 : decode code 644 = .ok (.iaload, 1) := by decide +kernel
theorem dl_645 : decode code 645 = .ok (.invokevirtual 68, 3) := by decide +kernel
theorem dl_648 : decode code 648 = .ok (.aload_n 2, 1) := by decide +kernel
theorem dl_649 : decode code 649 = .ok (.aload_n 0, 1) := by decide +kernel
theorem dl_650 : decode code 650 = .ok (.iload_n 3, 1) := by decide +kernel
theorem dl_651 : decode code 651 = .ok (.iconst 1, 1) := by decide +kernel
theorem dl_652 : decode code 652 = .ok (.iadd, 1) := by decide +kernel
theorem dl_653 : decode code 653 = .ok (.iaload, 1) := by decide +kernel
theorem dl_654 : decode code 654 = .ok (.aload_n 0, 1) := by decide +kernel
theorem dl_655 : decode code 655 = .ok (.iload_n 3, 1) := by decide +kernel
theorem dl_656 : decode code 656 = .ok (.iconst 2, 1) := by decide +kernel
theorem dl_657 : decode code 657 = .ok (.iadd, 1) := by decide +kernel
theorem dl_658 : decode code 658 = .ok (.iaload, 1) := by decide +kernel
theorem dl_659 : decode code 659 = .ok (.invokevirtual 71, 3) := by decide +kernel
theorem dl_662 : decode code 662 = .ok (.if_icmp .eq 1013, 3) := by decide +kernel
theorem dl_665 : decode code 665 = .ok (.iconst 0, 1) := by decide +kernel
theorem dl_667 : decode code 667 = .ok (.aload_n 1, 1) := by decide +kernel
theorem dl_668 : decode code 668 = .ok (.aload_n 0, 1) := by decide +kernel
theorem dl_669 : decode code 669 = .ok (.iload_n 3, 1) := by decide +kernel
theorem dl_670 : decode code 670 = .ok (.iconst 1, 1) := by decide +kernel
theorem dl_671 : decode code 671 = .ok (.iadd, 1) := by decide +kernel
theorem dl_672 : decode code 672 = .ok (.iaload, 1) := by decide +kernel
theorem dl_673 : decode code 673 = .ok (.aload_n 0, 1) := by decide +kernel
theorem dl_674 : decode code 674 = .ok (.iload_n 3, 1) := by decide +kernel
theorem dl_675 : decode code 675 = .ok (.iconst 2, 1) := by decide +kernel
theorem dl_676 : decode code 676 = .ok (.iadd, 1) := by decide +kernel
theorem dl_677 : decode code 677 = .ok (.iaload, 1) := by decide +kernel
theorem dl_678 : decode code 678 = .ok (.invokevirtual 72, 3) := by decide +kernel
theorem dl_681 : decode code 681 = .ok (.aload_n 2, 1) := by decide +kernel
theorem dl_682 : decode code 682 = .ok (.aload_n 0, 1) := by decide +kernel
theorem dl_683 : decode code 683 = .ok (.iload_n 3, 1) := by decide +kernel
theorem dl_684 : decode code 684 = .ok (.iconst 1, 1) := by decide +kernel
theorem dl_685 : decode code 685 = .ok (.iadd, 1) := by decide +kernel
theorem dl_686 : decode code 686 = .ok (.iaload, 1) := by decide +kernel
theorem dl_687 : decode code 687 = .ok (.aload_n 0, 1) := by decide +kernel
theorem dl_688 : decode code 688 = .ok (.iload_n 3, 1) := by decide +kernel
theorem dl_689 : decode code 689 = .ok (.iconst 2, 1) := by decide +kernel
theorem dl_690 : decode code 690 = .ok (.iadd, 1) := by decide +kernel
theorem dl_691 : decode code 691 = .ok (.iaload, 1) := by decide +kernel
theorem dl_692 : decode code 692 = .ok (.invokevirtual 75, 3) := by decide +kernel
theorem dl_695 : decode code 695 = .ok (.if_icmp .eq 980, 3) := by decide +kernel
theorem dl_698 : decode code 698 = .ok (.iconst 0, 1) := by decide +kernel
theorem dl_700 : decode code 700 = .ok (.aload_n 1, 1) := by decide +kernel
theorem dl_701 : decode code 701 = .ok (.aload_n 0, 1) := by decide +kernel
theorem dl_702 : decode code 702 = .ok (.iload_n 3, 1) := by decide +kernel
theorem dl_703 : decode code 703 = .ok (.iconst 1, 1) := by decide +kernel
theorem dl_704 : decode code 704 = .ok (.iadd, 1) := by decide +kernel
theorem dl_705 : decode code 705 = .ok (.iaload, 1) := by decide +kernel
theorem dl_706 : decode code 706 = .ok (.aload_n 0, 1) := by decide +kernel
theorem dl_707 : decode code 707 = .ok (.iload_n 3, 1) := by decide +kernel
theorem dl_708 : decode code 708 = .ok (.iconst 2, 1) := by decide +kernel
theorem dl_709 : decode code 709 = .ok (.iadd, 1) := by decide +kernel
theorem dl_710 : decode code 710 = .ok (.iaload, 1) := by decide +kernel
theorem dl_711 : decode code 711 = .ok (.invokevirtual 76, 3) := by decide +kernel
theorem dl_714 : decode code 714 = .ok (.aload_n 2, 1) := by decide +kernel
theorem dl_715 : decode code 715 = .ok (.aload_n 0, 1) := by decide +kernel
theorem dl_716 : decode code 716 = .ok (.iload_n 3, 1) := by decide +kernel
theorem dl_717 : decode code 717 = .ok (.iconst 1, 1) := by decide +kernel
theorem dl_718 : decode code 718 = .ok (.iadd, 1) := by decide +kernel
theorem dl_719 : decode code 719 = .ok (.iaload, 1) := by decide +kernel
theorem dl_720 : decode code 720 = .ok (.aload_n 0, 1) := by decide +kernel
theorem dl_721 : decode code 721 = .ok (.iload_n 3, 1) := by decide +kernel
theorem dl_722 : decode code 722 = .ok (.iconst 2, 1) := by decide +kernel
theorem dl_723 : decode code 723 = .ok (.iadd, 1) := by decide +kernel
theorem dl_724 : decode code 724 = .ok (.iaload, 1) := by decide +kernel
theorem dl_725 : decode code 725 = .ok (.invokevirtual 79, 3) := by decide +kernel
theorem dl_728 : decode code 728 = .ok (.if_icmp .eq 947, 3) := by decide +kernel
theorem dl_731 : decode code 731 = .ok (.iconst 0, 1) := by decide +kernel
theorem dl_733 : decode code 733 = .ok (.aload_n 1, 1) := by decide +kernel
theorem dl_734 : decode code 734 = .ok (.aload_n 0, 1) := by decide +kernel
theorem dl_735 : decode code 735 = .ok (.iload_n 3, 1) := by decide +kernel
theorem dl_736 : decode code 736 = .ok (.iconst 1, 1) := by decide +kernel
theorem dl_737 : decode code 737 = .ok (.iadd, 1) := by decide +kernel
theorem dl_738 : decode code 738 = .ok (.iaload, 1) := by decide +kernel
theorem dl_739 : decode code 739 = .ok (.aload_n 0, 1) := by decide +kernel
theorem dl_740 : decode code 740 = .ok (.iload_n 3, 1) := by decide +kernel
theorem dl_741 : decode code 741 = .ok (.iconst 2, 1) := by decide +kernel
theorem dl_742 : decode code 742 = .ok (.iadd, 1) := by decide +kernel
theorem dl_743 : decode code 743 = .ok (.iaload, 1) := by decide +kernel
theorem dl_744 : decode code 744 = .ok (.aload_n 0, 1) := by decide +kernel
theorem dl_745 : decode code 745 = .ok (.iload_n 3, 1) := by decide +kernel
theorem dl_746 : decode code 746 = .ok (.iconst 3, 1) := by decide +kernel
theorem dl_747 : decode code 747 = .ok (.iadd, 1) := by decide +kernel
theorem dl_748 : decode code 748 = .ok (.iaload, 1) := by decide +kernel
theorem dl_749 : decode code 749 = .ok (.aload_n 0, 1) := by decide +kernel
theorem dl_750 : decode code 750 = .ok (.iload_n 3, 1) := by decide +kernel
theorem dl_751 : decode code 751 = .ok (.iconst 4, 1) := by decide +kernel
theorem dl_752 : decode code 752 = .ok (.iadd, 1) := by decide +kernel
theorem dl_753 : decode code 753 = .ok (.iaload, 1) := by decide +kernel
theorem dl_754 : decode code 754 = .ok (.invokevirtual 80, 3) := by decide +kernel
theorem dl_757 : decode code 757 = .ok (.aload_n 2, 1) := by decide +kernel
theorem dl_758 : decode code 758 = .ok (.aload_n 0, 1) := by decide +kernel
theorem dl_759 : decode code 759 = .ok (.iload_n 3, 1) := by decide +kernel
theorem dl_760 : decode code 760 = .ok (.iconst 1, 1) := by decide +kernel
theorem dl_761 : decode code 761 = .ok (.iadd, 1) := by decide +kernel
theorem dl_762 : decode code 762 = .ok (.iaload, 1) := by decide +kernel
theorem dl_763 : decode code 763 = .ok (.aload_n 0, 1) := by decide +kernel
theorem dl_764 : decode code 764 = .ok (.iload_n 3, 1) := by decide +kernel
theorem dl_765 : decode code 765 = .ok (.iconst 2, 1) := by decide +kernel
theorem dl_766 : decode code 766 = .ok (.iadd, 1) := by decide +kernel
theorem dl_767 : decode code 767 = .ok (.iaload, 1) := by decide +kernel
theorem dl_768 : decode code 768 = .ok (.aload_n 0, 1) := by decide +kernel
theorem dl_769 : decode code 769 = .ok (.iload_n 3, 1) := by decide +kernel
theorem dl_770 : decode code 770 = .ok (.iconst 3, 1) := by decide +kernel
theorem dl_771 : decode code 771 = .ok (.iadd, 1) := by decide +kernel
theorem dl_772 : decode code 772 = .ok (.iaload, 1) := by decide +kernel
theorem dl_773 : decode code 773 = .ok (.aload_n 0, 1) := by decide +kernel
theorem dl_774 : decode code 774 = .ok (.iload_n 3, 1) := by decide +kernel
theorem dl_775 : decode code 775 = .ok (.iconst 4, 1) := by decide +kernel
theorem dl_776 : decode code 776 = .ok (.iadd, 1) := by decide +kernel
theorem dl_777 : decode code 777 = .ok (.iaload, 1) := by decide +kernel
theorem dl_778 : decode code 778 = .ok (.invokevirtual 84, 3) := by decide +kernel
theorem dl_781 : decode code 781 = .ok (.if_icmp .eq 894, 3) := by decide +kernel
theorem dl_784 : decode code 784 = .ok (.iconst 0, 1) := by decide +kernel
theorem dl_786 : decode code 786 = .ok (.aload_n 1, 1) := by decide +kernel
theorem dl_787 : decode code 787 = .ok (.aload_n 0, 1) := by decide +kernel
theorem dl_788 : decode code 788 = .ok (.iload_n 3, 1) := by decide +kernel
theorem dl_789 : decode code 789 = .ok (.iconst 1, 1) := by decide +kernel
theorem dl_790 : decode code 790 = .ok (.iadd, 1) := by decide +kernel
theorem dl_791 : decode code 791 = .ok (.iaload, 1) := by decide +kernel
theorem dl_792 : decode code 792 = .ok (.aload_n 0, 1) := by decide +kernel
theorem dl_793 : decode code 793 = .ok (.iload_n 3, 1) := by decide +kernel
theorem dl_794 : decode code 794 = .ok (.iconst 2, 1) := by decide +kernel
theorem dl_795 : decode code 795 = .ok (.iadd, 1) := by decide +kernel
theorem dl_796 : decode code 796 = .ok (.iaload, 1) := by decide +kernel
theorem dl_797 : decode code 797 = .ok (.invokevirtual 85, 3) := by decide +kernel
theorem dl_800 : decode code 800 = .ok (.aload_n 2, 1) := by decide +kernel
theorem dl_801 : decode code 801 = .ok (.aload_n 0, 1) := by decide +kernel
theorem dl_802 : decode code 802 = .ok (.iload_n 3, 1) := by decide +kernel
theorem dl_803 : decode code 803 = .ok (.iconst 1, 1) := by decide +kernel
theorem dl_804 : decode code 804 = .ok (.iadd, 1) := by decide +kernel
theorem dl_805 : decode code 805 = .ok (.iaload, 1) := by decide +kernel
theorem dl_806 : decode code 806 = .ok (.aload_n 0, 1) := by decide +kernel
theorem dl_807 : decode code 807 = .ok (.iload_n 3, 1) := by decide +kernel
theorem dl_808 : decode code 808 = .ok (.iconst 2, 1) := by decide +kernel
theorem dl_809 : decode code 809 = .ok (.iadd, 1) := by decide +kernel
theorem dl_810 : decode code 810 = .ok (.iaload, 1) := by decide +kernel
theorem dl_811 : decode code 811 = .ok (.invokevirtual 88, 3) := by decide +kernel
theorem dl_814 : decode code 814 = .ok (.if_icmp .eq 861, 3) := by decide +kernel
theorem dl_817 : decode code 817 = .ok (.iconst 0, 1) := by decide +kernel
theorem dl_819 : decode code 819 = .ok (.aload_n 1, 1) := by decide +kernel
theorem dl_820 : decode code 820 = .ok (.aload_n 0, 1) := by decide +kernel
theorem dl_821 : decode code 821 = .ok (.iload_n 3, 1) := by decide +kernel
theorem dl_822 : decode code 822 = .ok (.iconst 1, 1) := by decide +kernel
theorem dl_823 : decode code 823 = .ok (.iadd, 1) := by decide +kernel
theorem dl_824 : decode code 824 = .ok (.iaload, 1) := by decide +kernel
theorem dl_825 : decode code 825 = .ok (.aload_n 0, 1) := by decide +kernel
theorem dl_826 : decode code 826 = .ok (.iload_n 3, 1) := by decide +kernel
theorem dl_827 : decode code 827 = .ok (.iconst 2, 1) := by decide +kernel
theorem dl_828 : decode code 828 = .ok (.iadd, 1) := by decide +kernel
theorem dl_829 : decode code 829 = .ok (.iaload, 1) := by decide +kernel
theorem dl_830 : decode code 830 = .ok (.invokevirtual 89, 3) := by decide +kernel
theorem dl_833 : decode code 833 = .ok (.aload_n 2, 1) := by decide +kernel
theorem dl_834 : decode code 834 = .ok (.aload_n 0, 1) := by decide +kernel
theorem dl_835 : decode code 835 = .ok (.iload_n 3, 1) := by decide +kernel
theorem dl_836 : decode code 836 = .ok (.iconst 1, 1) := by decide +kernel
theorem dl_837 : decode code 837 = .ok (.iadd, 1) := by decide +kernel
theorem dl_838 : decode code 838 = .ok (.iaload, 1) := by decide +kernel
theorem dl_839 : decode code 839 = .ok (.aload_n 0, 1) := by decide +kernel
theorem dl_840 : decode code 840 = .ok (.iload_n 3, 1) := by decide +kernel
theorem dl_841 : decode code 841 = .ok (.iconst 2, 1) := by decide +kernel
theorem dl_842 : decode code 842 = .ok (.iadd, 1) := by decide +kernel
theorem dl_843 : decode code 843 = .ok (.iaload, 1) := by decide +kernel
theorem dl_844 : decode code 844 = .ok (.invokevirtual 92, 3) := by decide +kernel
theorem dl_847 : decode code 847 = .ok (.if_icmp .eq 828, 3) := by decide +kernel
theorem dl_850 : decode code 850 = .ok (.iconst 0, 1) := by decide +kernel
theorem dl_852 : decode code 852 = .ok (.aload_n 1, 1) := by decide +kernel
theorem dl_853 : decode code 853 = .ok (.aload_n 0, 1) := by decide +kernel
theorem dl_854 : decode code 854 = .ok (.iload_n 3, 1) := by decide +kernel
theorem dl_855 : decode code 855 = .ok (.iconst 1, 1) := by decide +kernel
theorem dl_856 : decode code 856 = .ok (.iadd, 1) := by decide +kernel
theorem dl_857 : decode code 857 = .ok (.iaload, 1) := by decide +kernel
theorem dl_858 : decode code 858 = .ok (.aload_n 0, 1) := by decide +kernel
theorem dl_859 : decode code 859 = .ok (.iload_n 3, 1) := by decide +kernel
theorem dl_860 : decode code 860 = .ok (.iconst 2, 1) := by decide +kernel
theorem dl_861 : decode code 861 = .ok (.iadd, 1) := by decide +kernel
theorem dl_862 : decode code 862 = .ok (.iaload, 1) := by decide +kernel
theorem dl_863 : decode code 863 = .ok (.aload_n 0, 1) := by decide +kernel
theorem dl_864 : decode code 864 = .ok (.iload_n 3, 1) := by decide +kernel
theorem dl_865 : decode code 865 = .ok (.iconst 3, 1) := by decide +kernel
theorem dl_866 : decode code 866 = .ok (.iadd, 1) := by decide +kernel
theorem dl_867 : decode code 867 = .ok (.iaload, 1) := by decide +kernel
theorem dl_868 : decode code 868 = .ok (.invokevirtual 93, 3) := by decide +kernel
theorem dl_871 : decode code 871 = .ok (.aload_n 2, 1) := by decide +kernel
theorem dl_872 : decode code 872 = .ok (.aload_n 0, 1) := by decide +kernel
theorem dl_873 : decode code 873 = .ok (.iload_n 3, 1) := by decide +kernel
theorem dl_874 : decode code 874 = .ok (.iconst 1, 1) := by decide +kernel
theorem dl_875 : decode code 875 = .ok (.iadd, 1) := by decide +kernel
theorem dl_876 : decode code 876 = .ok (.iaload, 1) := by decide +kernel
theorem dl_877 : decode code 877 = .ok (.aload_n 0, 1) := by decide +kernel
theorem dl_878 : decode code 878 = .ok (.iload_n 3, 1) := by decide +kernel
theorem dl_879 : decode code 879 = .ok (.iconst 2, 1) := by decide +kernel
theorem dl_880 : decode code 880 = .ok (.iadd, 1) := by decide +kernel
theorem dl_881 : decode code 881 = .ok (.iaload, 1) := by decide +kernel
theorem dl_882 : decode code 882 = .ok (.aload_n 0, 1) := by decide +kernel
theorem dl_883 : decode code 883 = .ok (.iload_n 3, 1) := by decide +kernel
theorem dl_884 : decode code 884 = .ok (.iconst 3, 1) := by decide +kernel
theorem dl_885 : decode code 885 = .ok (.iadd, 1) := by decide +kernel
theorem dl_886 : decode code 886 = .ok (.iaload, 1) := by decide +kernel
theorem dl_887 : decode code 887 = .ok (.invokevirtual 96, 3) := by decide +kernel
theorem dl_890 : decode code 890 = .ok (.if_icmp .eq 785, 3) := by decide +kernel
theorem dl_893 : decode code 893 = .ok (.iconst 0, 1) := by decide +kernel
theorem dl_895 : decode code 895 = .ok (.aload_n 1, 1) := by decide +kernel
theorem dl_896 : decode code 896 = .ok (.aload_n 0, 1) := by decide +kernel
theorem dl_897 : decode code 897 = .ok (.iload_n 3, 1) := by decide +kernel
theorem dl_898 : decode code 898 = .ok (.iconst 1, 1) := by decide +kernel
theorem dl_899 : decode code 899 = .ok (.iadd, 1) := by decide +kernel
theorem dl_900 : decode code 900 = .ok (.iaload, 1) := by decide +kernel
theorem dl_901 : decode code 901 = .ok (.aload_n 0, 1) := by decide +kernel
theorem dl_902 : decode code 902 = .ok (.iload_n 3, 1) := by decide +kernel
theorem dl_903 : decode code 903 = .ok (.iconst 2, 1) := by decide +kernel
theorem dl_904 : decode code 904 = .ok (.iadd, 1) := by decide +kernel
theorem dl_905 : decode code 905 = .ok (.iaload, 1) := by decide +kernel
theorem dl_906 : decode code 906 = .ok (.invokevirtual 97, 3) := by decide +kernel
theorem dl_909 : decode code 909 = .ok (.aload_n 2, 1) := by decide +kernel
theorem dl_910 : decode code 910 = .ok (.aload_n 0, 1) := by decide +kernel
theorem dl_911 : decode code 911 = .ok (.iload_n 3, 1) := by decide +kernel
theorem dl_912 : decode code 912 = .ok (.iconst 1, 1) := by decide +kernel
theorem dl_913 : decode code 913 = .ok (.iadd, 1) := by decide +kernel
theorem dl_914 : decode code 914 = .ok (.iaload, 1) := by decide +kernel
theorem dl_915 : decode code 915 = .ok (.aload_n 0, 1) := by decide +kernel
theorem dl_916 : decode code 916 = .ok (.iload_n 3, 1) := by decide +kernel
theorem dl_917 : decode code 917 = .ok (.iconst 2, 1) := by decide +kernel
theorem dl_918 : decode code 918 = .ok (.iadd, 1) := by decide +kernel
theorem dl_919 : decode code 919 = .ok (.iaload, 1) := by decide +kernel
theorem dl_920 : decode code 920 = .ok (.invokevirtual 100, 3) := by decide +kernel
theorem dl_923 : decode code 923 = .ok (.if_icmp .eq 752, 3) := by decide +kernel
theorem dl_926 : decode code 926 = .ok (.iconst 0, 1) := by decide +kernel
theorem dl_928 : decode code 928 = .ok (.aload_n 1, 1) := by decide +kernel
theorem dl_929 : decode code 929 = .ok (.aload_n 0, 1) := by decide +kernel
theorem dl_930 : decode code 930 = .ok (.iload_n 3, 1) := by decide +kernel
theorem dl_931 : decode code 931 = .ok (.iconst 1, 1) := by decide +kernel
theorem dl_932 : decode code 932 = .ok (.iadd, 1) := by decide +kernel
theorem dl_933 : decode code 933 = .ok (.iaload, 1) := by decide +kernel
theorem dl_934 : decode code 934 = .ok (.aload_n 0, 1) := by decide +kernel
theorem dl_935 : decode code 935 = .ok (.iload_n 3, 1) := by decide +kernel
theorem dl_936 : decode code 936 = .ok (.iconst 2, 1) := by decide +kernel
theorem dl_937 : decode code 937 = .ok (.iadd, 1) := by decide +kernel
theorem dl_938 : decode code 938 = .ok (.iaload, 1) := by decide +kernel
theorem dl_939 : decode code 939 = .ok (.invokevirtual 101, 3) := by decide +kernel
theorem dl_942 : decode code 942 = .ok (.aload_n 2, 1) := by decide +kernel
theorem dl_943 : decode code 943 = .ok (.aload_n 0, 1) := by decide +kernel
theorem dl_944 : decode code 944 = .ok (.iload_n 3, 1) := by decide +kernel
theorem dl_945 : decode code 945 = .ok (.iconst 1, 1) := by decide +kernel
theorem dl_946 : decode code 946 = .ok (.iadd, 1) := by decide +kernel
theorem dl_947 : decode code 947 = .ok (.iaload, 1) := by decide +kernel
theorem dl_948 : decode code 948 = .ok (.aload_n 0, 1) := by decide +kernel
theorem dl_949 : decode code 949 = .ok (.iload_n 3, 1) := by decide +kernel
theorem dl_950 : decode code 950 = .ok (.iconst 2, 1) := by decide +kernel
theorem dl_951 : decode code 951 = .ok (.iadd, 1) := by decide +kernel
theorem dl_952 : decode code 952 = .ok (.iaload, 1) := by decide +kernel
theorem dl_953 : decode code 953 = .ok (.invokevirtual 104, 3) := by decide +kernel
theorem dl_956 : decode code 956 = .ok (.if_icmp .eq 719, 3) := by decide +kernel
theorem dl_959 : decode code 959 = .ok (.iconst 0, 1) := by decide +kernel
theorem dl_961 : decode code 961 = .ok (.aload_n 1, 1) := by decide +kernel
theorem dl_962 : decode code 962 = .ok (.aload_n 0, 1) := by decide +kernel
theorem dl_963 : decode code 963 = .ok (.iload_n 3, 1) := by decide +kernel
theorem dl_964 : decode code 964 = .ok (.iconst 1, 1) := by decide +kernel
theorem dl_965 : decode code 965 = .ok (.iadd, 1) := by decide +kernel
theorem dl_966 : decode code 966 = .ok (.iaload, 1) := by decide +kernel
theorem dl_967 : decode code 967 = .ok (.invokevirtual 105, 3) := by decide +kernel
theorem dl_970 : decode code 970 = .ok (.aload_n 2, 1) := by decide +kernel
theorem dl_971 : decode code 971 = .ok (.aload_n 0, 1) := by decide +kernel
theorem dl_972 : decode code 972 = .ok (.iload_n 3, 1) := by decide +kernel
theorem dl_973 : decode code 973 = .ok (.iconst 1, 1) := by decide +kernel
theorem dl_974 : decode code 974 = .ok (.iadd, 1) := by decide +kernel
theorem dl_975 : decode code 975 = .ok (.iaload, 1) := by decide +kernel
theorem dl_976 : decode code 976 = .ok (.invokevirtual 108, 3) := by decide +kernel
theorem dl_979 : decode code 979 = .ok (.if_icmp .eq 696, 3) := by decide +kernel
theorem dl_982 : decode code 982 = .ok (.iconst 0, 1) := by decide +kernel
theorem dl_984 : decode code 984 = .ok (.aload_n 1, 1) := by decide +kernel
theorem dl_985 : decode code 985 = .ok (.aload_n 0, 1) := by decide +kernel
theorem dl_986 : decode code 986 = .ok (.iload_n 3, 1) := by decide +kernel
theorem dl_987 : decode code 987 = .ok (.iconst 1, 1) := by decide +kernel
theorem dl_988 : decode code 988 = .ok (.iadd, 1) := by decide +kernel
theorem dl_989 : decode code 989 = .ok (.iaload, 1) := by decide +kernel
theorem dl_990 : decode code 990 = .ok (.invokevirtual 109, 3) := by decide +kernel
theorem dl_993 : decode code 993 = .ok (.aload_n 2, 1) := by decide +kernel
theorem dl_994 : decode code 994 = .ok (.aload_n 0, 1) := by decide +kernel
theorem dl_995 : decode code 995 = .ok (.iload_n 3, 1) := by decide +kernel
theorem dl_996 : decode code 996 = .ok (.iconst 1, 1) := by decide +kernel
theorem dl_997 : decode code 997 = .ok (.iadd, 1) := by decide +kernel
theorem dl_998 : decode code 998 = .ok (.iaload, 1) := by decide +kernel
theorem dl_999 : decode code 999 = .ok (.invokevirtual 112, 3) := by decide +kernel
theorem dl_1002 : decode code 1002 = .ok (.if_icmp .eq 673, 3) := by decide +kernel
theorem dl_1005 : decode code 1005 = .ok (.iconst 0, 1) := by decide +kernel
theorem dl_1007 : decode code 1007 = .ok (.aload_n 1, 1) := by decide +kernel
theorem dl_1008 : decode code 1008 = .ok (.aload_n 0, 1) := by decide +kernel
theorem dl_1009 : decode code 1009 = .ok (.iload_n 3, 1) := by decide +kernel
theorem dl_1010 : decode code 1010 = .ok (.iconst 1, 1) := by decide +kernel
theorem dl_1011 : decode code 1011 = .ok (.iadd, 1) := by decide +kernel
theorem dl_1012 : decode code 1012 = .ok (.iaload, 1) := by decide +kernel
theorem dl_1013 : decode code 1013 = .ok (.aload_n 0, 1) := by decide +kernel
theorem dl_1014 : decode code 1014 = .ok (.iload_n 3, 1) := by decide +kernel
theorem dl_1015 : decode code 1015 = .ok (.iconst 2, 1) := by decide +kernel
theorem dl_1016 : decode code 1016 = .ok (.iadd, 1) := by decide +kernel
theorem dl_1017 : decode code 1017 = .ok (.iaload, 1) := by decide +kernel
theorem dl_1018 : decode code 1018 = .ok (.invokevirtual 113, 3) := by decide +kernel
theorem dl_1021 : decode code 1021 = .ok (.aload_n 2, 1) := by decide +kernel
theorem dl_1022 : decode code 1022 = .ok (.aload_n 0, 1) := by decide +kernel
theorem dl_1023 : decode code 1023 = .ok (.iload_n 3, 1) := by decide +kernel
theorem dl_1024 : decode code 1024 = .ok (.iconst 1, 1) := by decide +kernel
theorem dl_1025 : decode code 1025 = .ok (.iadd, 1) := by decide +kernel
theorem dl_1026 : decode code 1026 = .ok (.iaload, 1) := by decide +kernel
theorem dl_1027 : decode code 1027 = .ok (.aload_n 0, 1) := by decide +kernel
theorem dl_1028 : decode code 1028 = .ok (.iload_n 3, 1) := by decide +kernel
theorem dl_1029 : decode code 1029 = .ok (.iconst 2, 1) := by decide +kernel
theorem dl_1030 : decode code 1030 = .ok (.iadd, 1) := by decide +kernel
theorem dl_1031 : decode code 1031 = .ok (.iaload, 1) := by decide +kernel
theorem dl_1032 : decode code 1032 = .ok (.invokevirtual 116, 3) := by decide +kernel
theorem dl_1035 : decode code 1035 = .ok (.if_icmp .eq 640, 3) := by decide +kernel
theorem dl_1038 : decode code 1038 = .ok (.iconst 0, 1) := by decide +kernel
theorem dl_1040 : decode code 1040 = .ok (.aload_n 1, 1) := by decide +kernel
theorem dl_1041 : decode code 1041 = .ok (.aload_n 0, 1) := by decide +kernel
theorem dl_1042 : decode code 1042 = .ok (.iload_n 3, 1) := by decide +kernel
theorem dl_1043 : decode code 1043 = .ok (.iconst 1, 1) := by decide +kernel
theorem dl_1044 : decode code 1044 = .ok (.iadd, 1) := by decide +kernel
theorem dl_1045 : decode code 1045 = .ok (.iaload, 1) := by decide +kernel
theorem dl_1046 : decode code 1046 = .ok (.aload_n 0, 1) := by decide +kernel
theorem dl_1047 : decode code 1047 = .ok (.iload_n 3, 1) := by decide +kernel
theorem dl_1048 : decode code 1048 = .ok (.iconst 2, 1) := by decide +kernel
theorem dl_1049 : decode code 1049 = .ok (.iadd, 1) := by decide +kernel
theorem dl_1050 : decode code 1050 = .ok (.iaload, 1) := by decide +kernel
theorem dl_1051 : decode code 1051 = .ok (.invokevirtual 117, 3) := by decide +kernel
theorem dl_1054 : decode code 1054 = .ok (.aload_n 2, 1) := by decide +kernel
theorem dl_1055 : decode code 1055 = .ok (.aload_n 0, 1) := by decide +kernel
theorem dl_1056 : decode code 1056 = .ok (.iload_n 3, 1) := by decide +kernel
theorem dl_1057 : decode code 1057 = .ok (.iconst 1, 1) := by decide +kernel
theorem dl_1058 : decode code 1058 = .ok (.iadd, 1) := by decide +kernel
theorem dl_1059 : decode code 1059 = .ok (.iaload, 1) := by decide +kernel
theorem dl_1060 : decode code 1060 = .ok (.aload_n 0, 1) := by decide +kernel
theorem dl_1061 : decode code 1061 = .ok (.iload_n 3, 1) := by decide +kernel
theorem dl_1062 : decode code 1062 = .ok (.iconst 2, 1) := by decide +kernel
theorem dl_1063 : decode code 1063 = .ok (.iadd, 1) := by decide +kernel
theorem dl_1064 : decode code 1064 = .ok (.iaload, 1) := by decide +kernel
theorem dl_1065 : decode code 1065 = .ok (.invokevirtual 120, 3) := by decide +kernel
theorem dl_1068 : decode code 1068 = .ok (.if_icmp .eq 607, 3) := by decide +kernel
theorem dl_1071 : decode code 1071 = .ok (.iconst 0, 1) := by decide +kernel
theorem dl_1073 : decode code 1073 = .ok (.aload_n 1, 1) := by decide +kernel
theorem dl_1074 : decode code 1074 = .ok (.aload_n 0, 1) := by decide +kernel
theorem dl_1075 : decode code 1075 = .ok (.iload_n 3, 1) := by decide +kernel
theorem dl_1076 : decode code 1076 = .ok (.iconst 1, 1) := by decide +kernel
theorem dl_1077 : decode code 1077 = .ok (.iadd, 1) := by decide +kernel
theorem dl_1078 : decode code 1078 = .ok (.iaload, 1) := by decide +kernel
theorem dl_1079 : decode code 1079 = .ok (.invokevirtual 121, 3) := by decide +kernel
theorem dl_1082 : decode code 1082 = .ok (.aload_n 2, 1) := by decide +kernel
theorem dl_1083 : decode code 1083 = .ok (.aload_n 0, 1) := by decide +kernel
theorem dl_1084 : decode code 1084 = .ok (.iload_n 3, 1) := by decide +kernel
theorem dl_1085 : decode code 1085 = .ok (.iconst 1, 1) := by decide +kernel
theorem dl_1086 : decode code 1086 = .ok (.iadd, 1) := by decide +kernel
theorem dl_1087 : decode code 1087 = .ok (.iaload, 1) := by decide +kernel
theorem dl_1088 : decode code 1088 = .ok (.invokevirtual 124, 3) := by decide +kernel
theorem dl_1091 : decode code 1091 = .ok (.if_icmp .eq 584, 3) := by decide +kernel
theorem dl_1094 : decode code 1094 = .ok (.iconst 0, 1) := by decide +kernel
theorem dl_1096 : decode code 1096 = .ok (.aload_n 1, 1) := by decide +kernel
theorem dl_1097 : decode code 1097 = .ok (.aload_n 0, 1) := by decide +kernel
theorem dl_1098 : decode code 1098 = .ok (.iload_n 3, 1) := by decide +kernel
theorem dl_1099 : decode code 1099 = .ok (.iconst 1, 1) := by decide +kernel
theorem dl_1100 : decode code 1100 = .ok (.iadd, 1) := by decide +kernel
theorem dl_1101 : decode code 1101 = .ok (.iaload, 1) := by decide +kernel
theorem dl_1102 : decode code 1102 = .ok (.aload_n 0, 1) := by decide +kernel
theorem dl_1103 : decode code 1103 = .ok (.iload_n 3, 1) := by decide +kernel
theorem dl_1104 : decode code 1104 = .ok (.iconst 2, 1) := by decide +kernel
theorem dl_1105 : decode code 1105 = .ok (.iadd, 1) := by decide +kernel
theorem dl_1106 : decode code 1106 = .ok (.iaload, 1) := by decide +kernel
theorem dl_1107 : decode code 1107 = .ok (.invokevirtual 125, 3) := by decide +kernel
theorem dl_1110 : decode code 1110 = .ok (.aload_n 2, 1) := by decide +kernel
theorem dl_1111 : decode code 1111 = .ok (.aload_n 0, 1) := by decide +kernel
theorem dl_1112 : decode code 1112 = .ok (.iload_n 3, 1) := by decide +kernel
theorem dl_1113 : decode code 1113 = .ok (.iconst 1, 1) := by decide +kernel
theorem dl_1114 : decode code 1114 = .ok (.iadd, 1) := by decide +kernel
theorem dl_1115 : decode code 1115 = .ok (.iaload, 1) := by decide +kernel
theorem dl_1116 : decode code 1116 = .ok (.aload_n 0, 1) := by decide +kernel
theorem dl_1117 : decode code 1117 = .ok (.iload_n 3, 1) := by decide +kernel
theorem dl_1118 : decode code 1118 = .ok (.iconst 2, 1) := by decide +kernel
theorem dl_1119 : decode code 1119 = .ok (.iadd, 1) := by decide +kernel
theorem dl_1120 : decode code 1120 = .ok (.iaload, 1) := by decide +kernel
theorem dl_1121 : decode code 1121 = .ok (.invokevirtual 128, 3) := by decide +kernel
theorem dl_1124 : decode code 1124 = .ok (.if_icmp .eq 551, 3) := by decide +kernel
theorem dl_1127 : decode code 1127 = .ok (.iconst 0, 1) := by decide +kernel
theorem dl_1129 : decode code 1129 = .ok (.aload_n 1, 1) := by decide +kernel
theorem dl_1130 : decode code 1130 = .ok (.aload_n 0, 1) := by decide +kernel
theorem dl_1131 : decode code 1131 = .ok (.iload_n 3, 1) := by decide +kernel
theorem dl_1132 : decode code 1132 = .ok (.iconst 1, 1) := by decide +kernel
theorem dl_1133 : decode code 1133 = .ok (.iadd, 1) := by decide +kernel
theorem dl_1134 : decode code 1134 = .ok (.iaload, 1) := by decide +kernel
theorem dl_1135 : decode code 1135 = .ok (.invokevirtual 129, 3) := by decide +kernel
theorem dl_1138 : decode code 1138 = .ok (.aload_n 2, 1) := by decide +kernel
theorem dl_1139 : decode code 1139 = .ok (.aload_n 0, 1) := by decide +kernel
theorem dl_1140 : decode code 1140 = .ok (.iload_n 3, 1) := by decide +kernel
theorem dl_1141 : decode code 1141 = .ok (.iconst 1, 1) := by decide +kernel
theorem dl_1142 : decode code 1142 = .ok (.iadd, 1) := by decide +kernel
theorem dl_1143 : decode code 1143 = .ok (.iaload, 1) := by decide +kernel
theorem dl_1144 : decode code 1144 = .ok (.invokevirtual 132, 3) := by decide +kernel
theorem dl_1147 : decode code 1147 = .ok (.if_icmp .eq 528, 3) := by decide +kernel
theorem dl_1150 : decode code 1150 = .ok (.iconst 0, 1) := by decide +kernel
theorem dl_1152 : decode code 1152 = .ok (.aload_n 1, 1) := by decide +kernel
theorem dl_1153 : decode code 1153 = .ok (.aload_n 0, 1) := by decide +kernel
theorem dl_1154 : decode code 1154 = .ok (.iload_n 3, 1) := by decide +kernel
theorem dl_1155 : decode code 1155 = .ok (.iconst 1, 1) := by decide +kernel
theorem dl_1156 : decode code 1156 = .ok (.iadd, 1) := by decide +kernel
theorem dl_1157 : decode code 1157 = .ok (.iaload, 1) := by decide +kernel
theorem dl_1158 : decode code 1158 = .ok (.aload_n 0, 1) := by decide +kernel
theorem dl_1159 : decode code 1159 = .ok (.iload_n 3, 1) := by decide +kernel
theorem dl_1160 : decode code 1160 = .ok (.iconst 2, 1) := by decide +kernel
theorem dl_1161 : decode code 1161 = .ok (.iadd, 1) := by decide +kernel
theorem dl_1162 : decode code 1162 = .ok (.iaload, 1) := by decide +kernel
theorem dl_1163 : decode code 1163 = .ok (.aload_n 0, 1) := by decide +kernel
theorem dl_1164 : decode code 1164 = .ok (.iload_n 3, 1) := by decide +kernel
theorem dl_1165 : decode code 1165 = .ok (.iconst 3, 1) := by decide +kernel
theorem dl_1166 : decode code 1166 = .ok (.iadd, 1) := by decide +kernel
theorem dl_1167 : decode code 1167 = .ok (.iaload, 1) := by decide +kernel
theorem dl_1168 : decode code 1168 = .ok (.invokevirtual 133, 3) := by decide +kernel
theorem dl_1171 : decode code 1171 = .ok (.aload_n 2, 1) := by decide +kernel
theorem dl_1172 : decode code 1172 = .ok (.aload_n 0, 1) := by decide +kernel
theorem dl_1173 : decode code 1173 = .ok (.iload_n 3, 1) := by decide +kernel
theorem dl_1174 : decode code 1174 = .ok (.iconst 1, 1) := by decide +kernel
theorem dl_1175 : decode code 1175 = .ok (.iadd, 1) := by decide +kernel
theorem dl_1176 : decode code 1176 = .ok (.iaload, 1) := by decide +kernel
theorem dl_1177 : decode code 1177 = .ok (.aload_n 0, 1) := by decide +kernel
theorem dl_1178 : decode code 1178 = .ok (.iload_n 3, 1) := by decide +kernel
theorem dl_1179 : decode code 1179 = .ok (.iconst 2, 1) := by decide +kernel
theorem dl_1180 : decode code 1180 = .ok (.iadd, 1) := by decide +kernel
theorem dl_1181 : decode code 1181 = .ok (.iaload, 1) := by decide +kernel
theorem dl_1182 : decode code 1182 = .ok (.aload_n 0, 1) := by decide +kernel
theorem dl_1183 : decode code 1183 = .ok (.iload_n 3, 1) := by decide +kernel
theorem dl_1184 : decode code 1184 = .ok (.iconst 3, 1) := by decide +kernel
theorem dl_1185 : decode code 1185 = .ok (.iadd, 1) := by decide +kernel
theorem dl_1186 : decode code 1186 = .ok (.iaload, 1) := by decide +kernel
theorem dl_1187 : decode code 1187 = .ok (.invokevirtual 136, 3) := by decide +kernel
theorem dl_1190 : decode code 1190 = .ok (.if_icmp .eq 485, 3) := by decide +kernel
theorem dl_1193 : decode code 1193 = .ok (.iconst 0, 1) := by decide +kernel
theorem dl_1195 : decode code 1195 = .ok (.aload_n 1, 1) := by decide +kernel
theorem dl_1196 : decode code 1196 = .ok (.aload_n 0, 1) := by decide +kernel
theorem dl_1197 : decode code 1197 = .ok (.iload_n 3, 1) := by decide +kernel
theorem dl_1198 : decode code 1198 = .ok (.iconst 1, 1) := by decide +kernel
theorem dl_1199 : decode code 1199 = .ok (.iadd, 1) := by decide +kernel
theorem dl_1200 : decode code 1200 = .ok (.iaload, 1) := by decide +kernel
theorem dl_1201 : decode code 1201 = .ok (.aload_n 0, 1) := by decide +kernel
theorem dl_1202 : decode code 1202 = .ok (.iload_n 3, 1) := by decide +kernel
theorem dl_1203 : decode code 1203 = .ok (.iconst 2, 1) := by decide +kernel
theorem dl_1204 : decode code 1204 = .ok (.iadd, 1) := by decide +kernel
theorem dl_1205 : decode code 1205 = .ok (.iaload, 1) := by decide +kernel
theorem dl_1206 : decode code 1206 = .ok (.invokevirtual 137, 3) := by decide +kernel
theorem dl_1209 : decode code 1209 = .ok (.aload_n 2, 1) := by decide +kernel
theorem dl_1210 : decode code 1210 = .ok (.aload_n 0, 1) := by decide +kernel
theorem dl_1211 : decode code 1211 = .ok (.iload_n 3, 1) := by decide +kernel
theorem dl_1212 : decode code 1212 = .ok (.iconst 1, 1) := by decide +kernel
theorem dl_1213 : decode code 1213 = .ok (.iadd, 1) := by decide +kernel
theorem dl_1214 : decode code 1214 = .ok (.iaload, 1) := by decide +kernel
theorem dl_1215 : decode code 1215 = .ok (.aload_n 0, 1) := by decide +kernel
theorem dl_1216 : decode code 1216 = .ok (.iload_n 3, 1) := by decide +kernel
theorem dl_1217 : decode code 1217 = .ok (.iconst 2, 1) := by decide +kernel
theorem dl_1218 : decode code 1218 = .ok (.iadd, 1) := by decide +kernel
theorem dl_1219 : decode code 1219 = .ok (.iaload, 1) := by decide +kernel
theorem dl_1220 : decode code 1220 = .ok (.invokevirtual 140, 3) := by decide +kernel
theorem dl_1223 : decode code 1223 = .ok (.if_icmp .eq 452, 3) := by decide +kernel
theorem dl_1226 : decode code 1226 = .ok (.iconst 0, 1) := by decide +kernel
theorem dl_1228 : decode code 1228 = .ok (.aload_n 1, 1) := by decide +kernel
theorem dl_1229 : decode code 1229 = .ok (.aload_n 0, 1) := by decide +kernel
theorem dl_1230 : decode code 1230 = .ok (.iload_n 3, 1) := by decide +kernel
theorem dl_1231 : decode code 1231 = .ok (.iconst 1, 1) := by decide +kernel
theorem dl_1232 : decode code 1232 = .ok (.iadd, 1) := by decide +kernel
theorem dl_1233 : decode code 1233 = .ok (.iaload, 1) := by decide +kernel
theorem dl_1234 : decode code 1234 = .ok (.invokevirtual 141, 3) := by decide +kernel
theorem dl_1237 : decode code 1237 = .ok (.aload_n 2, 1) := by decide +kernel
theorem dl_1238 : decode code 1238 = .ok (.aload_n 0, 1) := by decide +kernel
theorem dl_1239 : decode code 1239 = .ok (.iload_n 3, 1) := by decide +kernel
theorem dl_1240 : decode code 1240 = .ok (.iconst 1, 1) := by decide +kernel
theorem dl_1241 : decode code 1241 = .ok (.iadd, 1) := by decide +kernel
theorem dl_1242 : decode code 1242 = .ok (.iaload, 1) := by decide +kernel
theorem dl_1243 : decode code 1243 = .ok (.invokevirtual 144, 3) := by decide +kernel
theorem dl_1246 : decode code 1246 = .ok (.if_icmp .eq 429, 3) := by decide +kernel
theorem dl_1249 : decode code 1249 = .ok (.iconst 0, 1) := by decide +kernel
theorem dl_1251 : decode code 1251 = .ok (.aload_n 1, 1) := by decide +kernel
theorem dl_1252 : decode code 1252 = .ok (.aload_n 0, 1) := by decide +kernel
theorem dl_1253 : decode code 1253 = .ok (.iload_n 3, 1) := by decide +kernel
theorem dl_1254 : decode code 1254 = .ok (.iconst 1, 1) := by decide +kernel
theorem dl_1255 : decode code 1255 = .ok (.iadd, 1) := by decide +kernel
theorem dl_1256 : decode code 1256 = .ok (.iaload, 1) := by decide +kernel
theorem dl_1257 : decode code 1257 = .ok (.aload_n 0, 1) := by decide +kernel
theorem dl_1258 : decode code 1258 = .ok (.iload_n 3, 1) := by decide +kernel
theorem dl_1259 : decode code 1259 = .ok (.iconst 2, 1) := by decide +kernel
theorem dl_1260 : decode code 1260 = .ok (.iadd, 1) := by decide +kernel
theorem dl_1261 : decode code 1261 = .ok (.iaload, 1) := by decide +kernel
theorem dl_1262 : decode code 1262 = .ok (.invokevirtual 145, 3) := by decide +kernel
theorem dl_1265 : decode code 1265 = .ok (.aload_n 2, 1) := by decide +kernel
theorem dl_1266 : decode code 1266 = .ok (.aload_n 0, 1) := by decide +kernel
theorem dl_1267 : decode code 1267 = .ok (.iload_n 3, 1) := by decide +kernel
theorem dl_1268 : decode code 1268 = .ok (.iconst 1, 1) := by decide +kernel
theorem dl_1269 : decode code 1269 = .ok (.iadd, 1) := by decide +kernel
theorem dl_1270 : decode code 1270 = .ok (.iaload, 1) := by decide +kernel
theorem dl_1271 : decode code 1271 = .ok (.aload_n 0, 1) := by decide +kernel
theorem dl_1272 : decode code 1272 = .ok (.iload_n 3, 1) := by decide +kernel
theorem dl_1273 : decode code 1273 = .ok (.iconst 2, 1) := by decide +kernel
theorem dl_1274 : decode code 1274 = .ok (.iadd, 1) := by decide +kernel
theorem dl_1275 : decode code 1275 = .ok (.iaload, 1) := by decide +kernel
theorem dl_1276 : decode code 1276 = .ok (.invokevirtual 148, 3) := by decide +kernel
theorem dl_1279 : decode code 1279 = .ok (.if_icmp .eq 396, 3) := by decide +kernel
theorem dl_1282 : decode code 1282 = .ok (.iconst 0, 1) := by decide +kernel
theorem dl_1284 : decode code 1284 = .ok (.aload_n 1, 1) := by decide +kernel
theorem dl_1285 : decode code 1285 = .ok (.aload_n 0, 1) := by decide +kernel
theorem dl_1286 : decode code 1286 = .ok (.iload_n 3, 1) := by decide +kernel
theorem dl_1287 : decode code 1287 = .ok (.iconst 1, 1) := by decide +kernel
theorem dl_1288 : decode code 1288 = .ok (.iadd, 1) := by decide +kernel
theorem dl_1289 : decode code 1289 = .ok (.iaload, 1) := by decide +kernel
theorem dl_1290 : decode code 1290 = .ok (.aload_n 0, 1) := by decide +kernel
theorem dl_1291 : decode code 1291 = .ok (.iload_n 3, 1) := by decide +kernel
theorem dl_1292 : decode code 1292 = .ok (.iconst 2, 1) := by decide +kernel
theorem dl_1293 : decode code 1293 = .ok (.iadd, 1) := by decide +kernel
theorem dl_1294 : decode code 1294 = .ok (.iaload, 1) := by decide +kernel
theorem dl_1295 : decode code 1295 = .ok (.invokevirtual 149, 3) := by decide +kernel
theorem dl_1298 : decode code 1298 = .ok (.aload_n 2, 1) := by decide +kernel
theorem dl_1299 : decode code 1299 = .ok (.aload_n 0, 1) := by decide +kernel
theorem dl_1300 : decode code 1300 = .ok (.iload_n 3, 1) := by decide +kernel
theorem dl_1301 : decode code 1301 = .ok (.iconst 1, 1) := by decide +kernel
theorem dl_1302 : decode code 1302 = .ok (.iadd, 1) := by decide +kernel
theorem dl_1303 : decode code 1303 = .ok (.iaload, 1) := by decide +kernel
theorem dl_1304 : decode code 1304 = .ok (.aload_n 0, 1) := by decide +kernel
theorem dl_1305 : decode code 1305 = .ok (.iload_n 3, 1) := by decide +kernel
theorem dl_1306 : decode code 1306 = .ok (.iconst 2, 1) := by decide +kernel
theorem dl_1307 : decode code 1307 = .ok (.iadd, 1) := by decide +kernel
theorem dl_1308 : decode code 1308 = .ok (.iaload, 1) := by decide +kernel
theorem dl_1309 : decode code 1309 = .ok (.invokevirtual 152, 3) := by decide +kernel
theorem dl_1312 : decode code 1312 = .ok (.if_icmp .eq 363, 3) := by decide +kernel
theorem dl_1315 : decode code 1315 = .ok (.iconst 0, 1) := by decide +kernel
theorem dl_1317 : decode code 1317 = .ok (.aload_n 1, 1) := by decide +kernel
theorem dl_1318 : decode code 1318 = .ok (.aload_n 0, 1) := by decide +kernel
theorem dl_1319 : decode code 1319 = .ok (.iload_n 3, 1) := by decide +kernel
theorem dl_1320 : decode code 1320 = .ok (.iconst 1, 1) := by decide +kernel
theorem dl_1321 : decode code 1321 = .ok (.iadd, 1) := by decide +kernel
theorem dl_1322 : decode code 1322 = .ok (.iaload, 1) := by decide +kernel
theorem dl_1323 : decode code 1323 = .ok (.aload_n 0, 1) := by decide +kernel
theorem dl_1324 : decode code 1324 = .ok (.iload_n 3, 1) := by decide +kernel
theorem dl_1325 : decode code 1325 = .ok (.iconst 2, 1) := by decide +kernel
theorem dl_1326 : decode code 1326 = .ok (.iadd, 1) := by decide +kernel
theorem dl_1327 : decode code 1327 = .ok (.iaload, 1) := by decide +kernel
theorem dl_1328 : decode code 1328 = .ok (.invokevirtual 153, 3) := by decide +kernel
theorem dl_1331 : decode code 1331 = .ok (.aload_n 2, 1) := by decide +kernel
theorem dl_1332 : decode code 1332 = .ok (.aload_n 0, 1) := by decide +kernel
theorem dl_1333 : decode code 1333 = .ok (.iload_n 3, 1) := by decide +kernel
theorem dl_1334 : decode code 1334 = .ok (.iconst 1, 1) := by decide +kernel
theorem dl_1335 : decode code 1335 = .ok (.iadd, 1) := by decide +kernel
theorem dl_1336 : decode code 1336 = .ok (.iaload, 1) := by decide +kernel
theorem dl_1337 : decode code 1337 = .ok (.aload_n 0, 1) := by decide +kernel
theorem dl_1338 : decode code 1338 = .ok (.iload_n 3, 1) := by decide +kernel
theorem dl_1339 : decode code 1339 = .ok (.iconst 2, 1) := by decide +kernel
theorem dl_1340 : decode code 1340 = .ok (.iadd, 1) := by decide +kernel
theorem dl_1341 : decode code 1341 = .ok (.iaload, 1) := by decide +kernel
theorem dl_1342 : decode code 1342 = .ok (.invokevirtual 156, 3) := by decide +kernel
theorem dl_1345 : decode code 1345 = .ok (.if_icmp .eq 330, 3) := by decide +kernel
theorem dl_1348 : decode code 1348 = .ok (.iconst 0, 1) := by decide +kernel
theorem dl_1350 : decode code 1350 = .ok (.aload_n 1, 1) := by decide +kernel
theorem dl_1351 : decode code 1351 = .ok (.aload_n 0, 1) := by decide +kernel
theorem dl_1352 : decode code 1352 = .ok (.iload_n 3, 1) := by decide +kernel
theorem dl_1353 : decode code 1353 = .ok (.iconst 1, 1) := by decide +kernel
theorem dl_1354 : decode code 1354 = .ok (.iadd, 1) := by decide +kernel
theorem dl_1355 : decode code 1355 = .ok (.iaload, 1) := by decide +kernel
theorem dl_1356 : decode code 1356 = .ok (.aload_n 0, 1) := by decide +kernel
theorem dl_1357 : decode code 1357 = .ok (.iload_n 3, 1) := by decide +kernel
theorem dl_1358 : decode code 1358 = .ok (.iconst 2, 1) := by decide +kernel
theorem dl_1359 : decode code 1359 = .ok (.iadd, 1) := by decide +kernel
theorem dl_1360 : decode code 1360 = .ok (.iaload, 1) := by decide +kernel
theorem dl_1361 : decode code 1361 = .ok (.invokevirtual 157, 3) := by decide +kernel
theorem dl_1364 : decode code 1364 = .ok (.aload_n 2, 1) := by decide +kernel
theorem dl_1365 : decode code 1365 = .ok (.aload_n 0, 1) := by decide +kernel
theorem dl_1366 : decode code 1366 = .ok (.iload_n 3, 1) := by decide +kernel
theorem dl_1367 : decode code 1367 = .ok (.iconst 1, 1) := by decide +kernel
theorem dl_1368 : decode code 1368 = .ok (.iadd, 1) := by decide +kernel
theorem dl_1369 : decode code 1369 = .ok (.iaload, 1) := by decide +kernel
theorem dl_1370 : decode code 1370 = .ok (.aload_n 0, 1) := by decide +kernel
theorem dl_1371 : decode code 1371 = .ok (.iload_n 3, 1) := by decide +kernel
theorem dl_1372 : decode code 1372 = .ok (.iconst 2, 1) := by decide +kernel
theorem dl_1373 : decode code 1373 = .ok (.iadd, 1) := by decide +kernel
theorem dl_1374 : decode code 1374 = .ok (.iaload, 1) := by decide +kernel
theorem dl_1375 : decode code 1375 = .ok (.invokevirtual 160, 3) := by decide +kernel
theorem dl_1378 : decode code 1378 = .ok (.if_icmp .eq 297, 3) := by decide +kernel
theorem dl_1381 : decode code 1381 = .ok (.iconst 0, 1) := by decide +kernel
theorem dl_1383 : decode code 1383 = .ok (.aload_n 1, 1) := by decide +kernel
theorem dl_1384 : decode code 1384 = .ok (.aload_n 0, 1) := by decide +kernel
theorem dl_1385 : decode code 1385 = .ok (.iload_n 3, 1) := by decide +kernel
theorem dl_1386 : decode code 1386 = .ok (.iconst 1, 1) := by decide +kernel
theorem dl_1387 : decode code 1387 = .ok (.iadd, 1) := by decide +kernel
theorem dl_1388 : decode code 1388 = .ok (.iaload, 1) := by decide +kernel
theorem dl_1389 : decode code 1389 = .ok (.aload_n 0, 1) := by decide +kernel
theorem dl_1390 : decode code 1390 = .ok (.iload_n 3, 1) := by decide +kernel
theorem dl_1391 : decode code 1391 = .ok (.iconst 2, 1) := by decide +kernel
theorem dl_1392 : decode code 1392 = .ok (.iadd, 1) := by decide +kernel
theorem dl_1393 : decode code 1393 = .ok (.iaload, 1) := by decide +kernel
theorem dl_1394 : decode code 1394 = .ok (.invokevirtual 161, 3) := by decide +kernel
theorem dl_1397 : decode code 1397 = .ok (.aload_n 2, 1) := by decide +kernel
theorem dl_1398 : decode code 1398 = .ok (.aload_n 0, 1) := by decide +kernel
theorem dl_1399 : decode code 1399 = .ok (.iload_n 3, 1) := by decide +kernel
theorem dl_1400 : decode code 1400 = .ok (.iconst 1, 1) := by decide +kernel
theorem dl_1401 : decode code 1401 = .ok (.iadd, 1) := by decide +kernel
theorem dl_1402 : decode code 1402 = .ok (.iaload, 1) := by decide +kernel
theorem dl_1403 : decode code 1403 = .ok (.aload_n 0, 1) := by decide +kernel
theorem dl_1404 : decode code 1404 = .ok (.iload_n 3, 1) := by decide +kernel
theorem dl_1405 : decode code 1405 = .ok (.iconst 2, 1) := by decide +kernel
theorem dl_1406 : decode code 1406 = .ok (.iadd, 1) := by decide +kernel
theorem dl_1407 : decode code 1407 = .ok (.iaload, 1) := by decide +kernel
theorem dl_1408 : decode code 1408 = .ok (.invokevirtual 164, 3) := by decide +kernel
theorem dl_1411 : decode code 1411 = .ok (.if_icmp .eq 264, 3) := by decide +kernel
theorem dl_1414 : decode code 1414 = .ok (.iconst 0, 1) := by decide +kernel
theorem dl_1416 : decode code 1416 = .ok (.aload_n 1, 1) := by decide +kernel
theorem dl_1417 : decode code 1417 = .ok (.aload_n 0, 1) := by decide +kernel
theorem dl_1418 : decode code 1418 = .ok (.iload_n 3, 1) := by decide +kernel
theorem dl_1419 : decode code 1419 = .ok (.iconst 1, 1) := by decide +kernel
theorem dl_1420 : decode code 1420 = .ok (.iadd, 1) := by decide +kernel
theorem dl_1421 : decode code 1421 = .ok (.iaload, 1) := by decide +kernel
theorem dl_1422 : decode code 1422 = .ok (.aload_n 0, 1) := by decide +kernel
theorem dl_1423 : decode code 1423 = .ok (.iload_n 3, 1) := by decide +kernel
theorem dl_1424 : decode code 1424 = .ok (.iconst 2, 1) := by decide +kernel
theorem dl_1425 : decode code 1425 = .ok (.iadd, 1) := by decide +kernel
theorem dl_1426 : decode code 1426 = .ok (.iaload, 1) := by decide +kernel
theorem dl_1427 : decode code 1427 = .ok (.aload_n 0, 1) := by decide +kernel
theorem dl_1428 : decode code 1428 = .ok (.iload_n 3, 1) := by decide +kernel
theorem dl_1429 : decode code 1429 = .ok (.iconst 3, 1) := by decide +kernel
theorem dl_1430 : decode code 1430 = .ok (.iadd, 1) := by decide +kernel
theorem dl_1431 : decode code 1431 = .ok (.iaload, 1) := by decide +kernel
theorem dl_1432 : decode code 1432 = .ok (.ifCond .eq 7, 3) := by decide +kernel
theorem dl_1435 : decode code 1435 = .ok (.iconst 1, 1) := by decide +kernel
theorem dl_1436 : decode code 1436 = .ok (.goto 4, 3) := by decide +kernel
theorem dl_1439 : decode code 1439 = .ok (.iconst 0, 1) := by decide +kernel
theorem dl_1440 : decode code 1440 = .ok (.invokevirtual 165, 3) := by decide +kernel
theorem dl_1443 : decode code 1443 = .ok (.aload_n 2, 1) := by decide +kernel
theorem dl_1444 : decode code 1444 = .ok (.aload_n 0, 1) := by decide +kernel
theorem dl_1445 : decode code 1445 = .ok (.iload_n 3, 1) := by decide +kernel
theorem dl_1446 : decode code 1446 = .ok (.iconst 1, 1) := by decide +kernel
theorem dl_1447 : decode code 1447 = .ok (.iadd, 1) := by decide +kernel
theorem dl_1448 : decode code 1448 = .ok (.iaload, 1) := by decide +kernel
theorem dl_1449 : decode code 1449 = .ok (.aload_n 0, 1) := by decide +kernel
theorem dl_1450 : decode code 1450 = .ok (.iload_n 3, 1) := by decide +kernel
theorem dl_1451 : decode code 1451 = .ok (.iconst 2, 1) := by decide +kernel
theorem dl_1452 : decode code 1452 = .ok (.iadd, 1) := by decide +kernel
theorem dl_1453 : decode code 1453 = .ok (.iaload, 1) := by decide +kernel
theorem dl_1454 : decode code 1454 = .ok (.aload_n 0, 1) := by decide +kernel
theorem dl_1455 : decode code 1455 = .ok (.iload_n 3, 1) := by decide +kernel
theorem dl_1456 : decode code 1456 = .ok (.iconst 3, 1) := by decide +kernel
theorem dl_1457 : decode code 1457 = .ok (.iadd, 1) := by decide +kernel
theorem dl_1458 : decode code 1458 = .ok (.iaload, 1) := by decide +kernel
theorem dl_1459 : decode code 1459 = .ok (.ifCond .eq 7, 3) := by decide +kernel
theorem dl_1462 : decode code 1462 = .ok (.iconst 1, 1) := by decide +kernel
theorem dl_1463 : decode code 1463 = .ok (.goto 4, 3) := by decide +kernel
theorem dl_1466 : decode code 1466 = .ok (.iconst 0, 1) := by decide +kernel
theorem dl_1467 : decode code 1467 = .ok (.invokevirtual 169, 3) := by decide +kernel
theorem dl_1470 : decode code 1470 = .ok (.if_icmp .eq 205, 3) := by decide +kernel
theorem dl_1473 : decode code 1473 = .ok (.iconst 0, 1) := by decide +kernel
theorem dl_1475 : decode code 1475 = .ok (.aload_n 1, 1) := by decide +kernel
theorem dl_1476 : decode code 1476 = .ok (.aload_n 0, 1) := by decide +kernel
theorem dl_1477 : decode code 1477 = .ok (.iload_n 3, 1) := by decide +kernel
theorem dl_1478 : decode code 1478 = .ok (.iconst 1, 1) := by decide +kernel
theorem dl_1479 : decode code 1479 = .ok (.iadd, 1) := by decide +kernel
theorem dl_1480 : decode code 1480 = .ok (.iaload, 1) := by decide +kernel
theorem dl_1481 : decode code 1481 = .ok (.invokevirtual 170, 3) := by decide +kernel
theorem dl_1484 : decode code 1484 = .ok (.aload_n 2, 1) := by decide +kernel
theorem dl_1485 : decode code 1485 = .ok (.aload_n 0, 1) := by decide +kernel
theorem dl_1486 : decode code 1486 = .ok (.iload_n 3, 1) := by decide +kernel
theorem dl_1487 : decode code 1487 = .ok (.iconst 1, 1) := by decide +kernel
theorem dl_1488 : decode code 1488 = .ok (.iadd, 1) := by decide +kernel
theorem dl_1489 : decode code 1489 = .ok (.iaload, 1) := by decide +kernel
theorem dl_1490 : decode code 1490 = .ok (.invokevirtual 173, 3) := by decide +kernel
theorem dl_1493 : decode code 1493 = .ok (.if_icmp .eq 182, 3) := by decide +kernel
theorem dl_1496 : decode code 1496 = .ok (.iconst 0, 1) := by decide +kernel
theorem dl_1498 : decode code 1498 = .ok (.aload_n 1, 1) := by decide +kernel
theorem dl_1499 : decode code 1499 = .ok (.aload_n 0, 1) := by decide +kernel
theorem dl_1500 : decode code 1500 = .ok (.iload_n 3, 1) := by decide +kernel
theorem dl_1501 : decode code 1501 = .ok (.iconst 1, 1) := by decide +kernel
theorem dl_1502 : decode code 1502 = .ok (.iadd, 1) := by decide +kernel
theorem dl_1503 : decode code 1503 = .ok (.iaload, 1) := by decide +kernel
theorem dl_1504 : decode code 1504 = .ok (.invokevirtual 174, 3) := by decide +kernel
theorem dl_1507 : decode code 1507 = .ok (.aload_n 2, 1) := by decide +kernel
theorem dl_1508 : decode code 1508 = .ok (.aload_n 0, 1) := by decide +kernel
theorem dl_1509 : decode code 1509 = .ok (.iload_n 3, 1) := by decide +kernel
theorem dl_1510 : decode code 1510 = .ok (.iconst 1, 1) := by decide +kernel
theorem dl_1511 : decode code 1511 = .ok (.iadd, 1) := by decide +kernel
theorem dl_1512 : decode code 1512 = .ok (.iaload, 1) := by decide +kernel
theorem dl_1513 : decode code 1513 = .ok (.invokevirtual 177, 3) := by decide +kernel
theorem dl_1516 : decode code 1516 = .ok (.if_icmp .eq 159, 3) := by decide +kernel
theorem dl_1519 : decode code 1519 = .ok (.iconst 0, 1) := by decide +kernel
theorem dl_1521 : decode code 1521 = .ok (.aload_n 1, 1) := by decide +kernel
theorem dl_1522 : decode code 1522 = .ok (.aload_n 0, 1) := by decide +kernel
theorem dl_1523 : decode code 1523 = .ok (.iload_n 3, 1) := by decide +kernel
theorem dl_1524 : decode code 1524 = .ok (.iconst 1, 1) := by decide +kernel
theorem dl_1525 : decode code 1525 = .ok (.iadd, 1) := by decide +kernel
theorem dl_1526 : decode code 1526 = .ok (.iaload, 1) := by decide +kernel
theorem dl_1527 : decode code 1527 = .ok (.aload_n 0, 1) := by decide +kernel
theorem dl_1528 : decode code 1528 = .ok (.iload_n 3, 1) := by decide +kernel
theorem dl_1529 : decode code 1529 = .ok (.iconst 2, 1) := by decide +kernel
theorem dl_1530 : decode code 1530 = .ok (.iadd, 1) := by decide +kernel
theorem dl_1531 : decode code 1531 = .ok (.iaload, 1) := by decide +kernel
theorem dl_1532 : decode code 1532 = .ok (.invokevirtual 178, 3) := by decide +kernel
theorem dl_1535 : decode code 1535 = .ok (.aload_n 2, 1) := by decide +kernel
theorem dl_1536 : decode code 1536 = .ok (.aload_n 0, 1) := by decide +kernel
theorem dl_1537 : decode code 1537 = .ok (.iload_n 3, 1) := by decide +kernel
theorem dl_1538 : decode code 1538 = .ok (.iconst 1, 1) := by decide +kernel
theorem dl_1539 : decode code 1539 = .ok (.iadd, 1) := by decide +kernel
theorem dl_1540 : decode code 1540 = .ok (.iaload, 1) := by decide +kernel
theorem dl_1541 : decode code 1541 = .ok (.aload_n 0, 1) := by decide +kernel
theorem dl_1542 : decode code 1542 = .ok (.iload_n 3, 1) := by decide +kernel
theorem dl_1543 : decode code 1543 = .ok (.iconst 2, 1) := by decide +kernel
theorem dl_1544 : decode code 1544 = .ok (.iadd, 1) := by decide +kernel
theorem dl_1545 : decode code 1545 = .ok (.iaload, 1) := by decide +kernel
theorem dl_1546 : decode code 1546 = .ok (.invokevirtual 181, 3) := by decide +kernel
theorem dl_1549 : decode code 1549 = .ok (.if_icmp .eq 126, 3) := by decide +kernel
theorem dl_1552 : decode code 1552 = .ok (.iconst 0, 1) := by decide +kernel
theorem dl_1554 : decode code 1554 = .ok (.aload_n 1, 1) := by decide +kernel
theorem dl_1555 : decode code 1555 = .ok (.aload_n 0, 1) := by decide +kernel
theorem dl_1556 : decode code 1556 = .ok (.iload_n 3, 1) := by decide +kernel
theorem dl_1557 : decode code 1557 = .ok (.iconst 1, 1) := by decide +kernel
theorem dl_1558 : decode code 1558 = .ok (.iadd, 1) := by decide +kernel
theorem dl_1559 : decode code 1559 = .ok (.iaload, 1) := by decide +kernel
theorem dl_1560 : decode code 1560 = .ok (.invokevirtual 182, 3) := by decide +kernel
theorem dl_1563 : decode code 1563 = .ok (.aload_n 2, 1) := by decide +kernel
theorem dl_1564 : decode code 1564 = .ok (.aload_n 0, 1) := by decide +kernel
theorem dl_1565 : decode code 1565 = .ok (.iload_n 3, 1) := by decide +kernel
theorem dl_1566 : decode code 1566 = .ok (.iconst 1, 1) := by decide +kernel
theorem dl_1567 : decode code 1567 = .ok (.iadd, 1) := by decide +kernel
theorem dl_1568 : decode code 1568 = .ok (.iaload, 1) := by decide +kernel
theorem dl_1569 : decode code 1569 = .ok (.invokevirtual 185, 3) := by decide +kernel
theorem dl_1572 : decode code 1572 = .ok (.if_icmp .eq 103, 3) := by decide +kernel
theorem dl_1575 : decode code 1575 = .ok (.iconst 0, 1) := by decide +kernel
theorem dl_1577 : decode code 1577 = .ok (.aload_n 1, 1) := by decide +kernel
theorem dl_1578 : decode code 1578 = .ok (.aload_n 0, 1) := by decide +kernel
theorem dl_1579 : decode code 1579 = .ok (.iload_n 3, 1) := by decide +kernel
theorem dl_1580 : decode code 1580 = .ok (.iconst 1, 1) := by decide +kernel
theorem dl_1581 : decode code 1581 = .ok (.iadd, 1) := by decide +kernel
theorem dl_1582 : decode code 1582 = .ok (.iaload, 1) := by decide +kernel
theorem dl_1583 : decode code 1583 = .ok (.invokevirtual 186, 3) := by decide +kernel
theorem dl_1586 : decode code 1586 = .ok (.aload_n 2, 1) := by decide +kernel
theorem dl_1587 : decode code 1587 = .ok (.aload_n 0, 1) := by decide +kernel
theorem dl_1588 : decode code 1588 = .ok (.iload_n 3, 1) := by decide +kernel
theorem dl_1589 : decode code 1589 = .ok (.iconst 1, 1) := by decide +kernel
theorem dl_1590 : decode code 1590 = .ok (.iadd, 1) := by decide +kernel
theorem dl_1591 : decode code 1591 = .ok (.iaload, 1) := by decide +kernel
theorem dl_1592 : decode code 1592 = .ok (.invokevirtual 189, 3) := by decide +kernel
theorem dl_1595 : decode code 1595 = .ok (.if_icmp .eq 80, 3) := by decide +kernel
theorem dl_1598 : decode code 1598 = .ok (.iconst 0, 1) := by decide +kernel
theorem dl_1600 : decode code 1600 = .ok (.aload_n 1, 1) := by decide +kernel
theorem dl_1601 : decode code 1601 = .ok (.invokevirtual 190, 3) := by decide +kernel
theorem dl_1604 : decode code 1604 = .ok (.aload_n 2, 1) := by decide +kernel
theorem dl_1605 : decode code 1605 = .ok (.invokevirtual 194, 3) := by decide +kernel
theorem dl_1608 : decode code 1608 = .ok (.if_icmp .eq 67, 3) := by decide +kernel
theorem dl_1611 : decode code 1611 = .ok (.iconst 0, 1) := by decide +kernel
theorem dl_1613 : decode code 1613 = .ok (.aload_n 1, 1) := by decide +kernel
theorem dl_1614 : decode code 1614 = .ok (.aload_n 0, 1) := by decide +kernel
theorem dl_1615 : decode code 1615 = .ok (.iload_n 3, 1) := by decide +kernel
theorem dl_1616 : decode code 1616 = .ok (.iconst 1, 1) := by decide +kernel
theorem dl_1617 : decode code 1617 = .ok (.iadd, 1) := by decide +kernel
theorem dl_1618 : decode code 1618 = .ok (.iaload, 1) := by decide +kernel
theorem dl_1619 : decode code 1619 = .ok (.ifCond .eq 7, 3) := by decide +kernel
theorem dl_1622 : decode code 1622 = .ok (.iconst 1, 1) := by decide +kernel
theorem dl_1623 : decode code 1623 = .ok (.goto 4, 3) := by decide +kernel
theorem dl_1626 : decode code 1626 = .ok (.iconst 0, 1) := by decide +kernel
theorem dl_1627 : decode code 1627 = .ok (.invokevirtual 195, 3) := by decide +kernel
theorem dl_1630 : decode code 1630 = .ok (.aload_n 2, 1) := by decide +kernel
theorem dl_1631 : decode code 1631 = .ok (.aload_n 0, 1) := by decide +kernel
theorem dl_1632 : decode code 1632 = .ok (.iload_n 3, 1) := by decide +kernel
theorem dl_1633 : decode code 1633 = .ok (.iconst 1, 1) := by decide +kernel
theorem dl_1634 : decode code 1634 = .ok (.iadd, 1) := by decide +kernel
theorem dl_1635 : decode code 1635 = .ok (.iaload, 1) := by decide +kernel
theorem dl_1636 : decode code 1636 = .ok (.ifCond .eq 7, 3) := by decide +kernel
theorem dl_1639 : decode code 1639 = .ok (.iconst 1, 1) := by decide +kernel
theorem dl_1640 : decode code 1640 = .ok (.goto 4, 3) := by decide +kernel
theorem dl_1643 : decode code 1643 = .ok (.iconst 0, 1) := by decide +kernel
theorem dl_1644 : decode code 1644 = .ok (.invokevirtual 199, 3) := by decide +kernel
theorem dl_1647 : decode code 1647 = .ok (.if_icmp .eq 28, 3) := by decide +kernel
theorem dl_1650 : decode code 1650 = .ok (.iconst 0, 1) := by decide +kernel
theorem dl_1652 : decode code 1652 = .ok (.aload_n 1, 1) := by decide +kernel
theorem dl_1653 : decode code 1653 = .ok (.aload_n 0, 1) := by decide +kernel
theorem dl_1654 : decode code 1654 = .ok (.iload_n 3, 1) := by decide +kernel
theorem dl_1655 : decode code 1655 = .ok (.iconst 1, 1) := by decide +kernel
theorem dl_1656 : decode code 1656 = .ok (.iadd, 1) := by decide +kernel
theorem dl_1657 : decode code 1657 = .ok (.iaload, 1) := by decide +kernel
theorem dl_1658 : decode code 1658 = .ok (.invokevirtual 200, 3) := by decide +kernel
theorem dl_1661 : decode code 1661 = .ok (.aload_n 2, 1) := by decide +kernel
theorem dl_1662 : decode code 1662 = .ok (.aload_n 0, 1) := by decide +kernel
theorem dl_1663 : decode code 1663 = .ok (.iload_n 3, 1) := by decide +kernel
theorem dl_1664 : decode code 1664 = .ok (.iconst 1, 1) := by decide +kernel
theorem dl_1665 : decode code 1665 = .ok (.iadd, 1) := by decide +kernel
theorem dl_1666 : decode code 1666 = .ok (.iaload, 1) := by decide +kernel
theorem dl_1667 : decode code 1667 = .ok (.invokevirtual 203, 3) := by decide +kernel
theorem dl_1670 : decode code 1670 = .ok (.if_icmp .eq 5, 3) := by decide +kernel
theorem dl_1673 : decode code 1673 = .ok (.iconst 0, 1) := by decide +kernel
theorem dl_1675 : decode code 1675 = .ok (.iinc 3 6, 3) := by decide +kernel
theorem dl_1678 : decode code 1678 = .ok (.goto (-1660), 3) := by decide +kernel
theorem dl_1681 : decode code 1681 = .ok (.iconst 1, 1) := by decide +kernel
theorem dl_1682 : decode code 1682 = .ok (.ireturn, 1) := by decide +kernel
