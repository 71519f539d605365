/-! ===== the same at known cells; switches; longs ===== -/
theorem n_S_of {l : Launch} {w : nW} {d : Nat} {μ : nY} {G : nG} {T : Type} {fin : T → nR} {pc : Nat} {op op' : nO T} (h : n_S l w d μ G fin pc op) (he : ∀ (go : Nat → nL → List Value → nM → Option T) (lv : nL) (st : List Value) (M : nM) (r : T), op' go lv st M = some r → op go lv st M = some r) : n_S l w d μ G fin pc op' := fun go r lv st M hg hr => h go r lv st M hg (he go lv st M r hr)
def n_ib (L : Nat) (i : Int32) : Bool := !decide (i < 0) && Nat.blt i.toNatClampNeg L
abbrev o_gIc {T : Type} (a0 k nx : Nat) : nO T := fun go lv st M => match st with
  | .ref a :: r => n_ck (Nat.beq a a0) (go nx lv (.int (M a0 k) :: r) M)
  | _ => none
abbrev o_gRc {T : Type} (a0 v nx : Nat) : nO T := fun go lv st M => match st with
  | .ref a :: r => n_ck (Nat.beq a a0) (go nx lv (.ref v :: r) M)
  | _ => none
abbrev o_pIc {T : Type} (a0 k nx : Nat) : nO T := fun go lv st M => match st with
  | .int v :: .ref a :: r => n_ck (Nat.beq a a0) (go nx lv r (n_up M a0 k v))
  | _ => none
abbrev o_pZc {T : Type} (a0 k nx : Nat) : nO T := fun go lv st M => match st with
  | .int v :: .ref a :: r => n_ck (Nat.beq a a0) (n_chk (v == 0 || v == 1) (go nx lv r (n_up M a0 k v)))
  | _ => none
abbrev o_aldc {T : Type} (a0 L nx : Nat) : nO T := fun go lv st M => match st with
  | .int i :: .ref a :: r => n_ck (Nat.beq a a0) (n_chk (n_ib L i) (go nx lv (.int (M a0 i.toNatClampNeg) :: r) M))
  | _ => none
abbrev o_iastc {T : Type} (a0 L : Nat) (nx : Nat) : nO T := fun go lv st M => match st with
  | .int x :: .int i :: .ref a :: r => n_ck (Nat.beq a a0) (n_chk (n_ib L i) (go nx lv r (n_up M a0 i.toNatClampNeg x)))
  | _ => none
abbrev o_bastc {T : Type} (a0 L : Nat) (nx : Nat) : nO T := fun go lv st M => match st with
  | .int x :: .int i :: .ref a :: r => n_ck (Nat.beq a a0) (n_chk (n_ib L i) (go nx lv r (n_up M a0 i.toNatClampNeg (vp_nar .byte x))))
  | _ => none
abbrev o_alenc {T : Type} (a0 L nx : Nat) : nO T := fun go lv st M => match st with
  | .ref a :: r => n_ck (Nat.beq a a0) (go nx lv (.int (Int32.ofNat L) :: r) M)
  | _ => none
abbrev n_rcvc (a0 : Nat) (as : List Value) : Bool := match as with
  | .ref a :: _ => Nat.beq a a0
  | _ => false
abbrev o_callVc {T : Type} (a0 n : Nat) (f : nF) (nx : Nat) : nO T := fun go lv st M => match n_pop (n + 1) st [] with
  | some (as, r) => n_ck (n_rcvc a0 as) (n_ck (Nat.ble (n_cs r) 8) (f T as M (fun v M' => go nx lv (n_psh v r) M')))
  | none => none
def n_cpokc (L0 L1 : Nat) (sp dp n : Int32) : Bool := ((!decide (sp < 0) && (!decide (dp < 0) && !decide (n < 0))) && (Nat.ble (sp.toNatClampNeg + n.toNatClampNeg) L0 && Nat.ble (dp.toNatClampNeg + n.toNatClampNeg) L1))
abbrev o_copyc {T : Type} (a0 a1 L0 L1 nx : Nat) : nO T := fun go lv st M => match st with
  | .int n :: .int dp :: .ref b1 :: .int sp :: .ref b0 :: r => n_ck (Nat.beq b0 a0) (n_ck (Nat.beq b1 a1) (n_ck (Nat.ble (n_cs r) 8) (n_chk (n_cpokc L0 L1 sp dp n) (go nx lv r (n_cpy M a0 a1 sp.toNatClampNeg dp.toNatClampNeg n.toNatClampNeg)))))
  | _ => none
theorem s_gIc {l : Launch} {w : nW} {d : Nat} {μ : nY} {G : nG} {T : Type} {fin : T → nR} {pc : Nat} {a0 ci k : Nat} (h : n_S l w d μ G fin pc (o_getI G ci k (pc + 3))) (hk : n_kd G a0 = ci) : n_S l w d μ G fin pc (o_gIc a0 k (pc + 3)) := n_S_of h (fun go lv st M r h => by
  unfold o_gIc at h
  unfold o_getI
  split at h
  · obtain ⟨hb, h9⟩ := n_ck_some h
    have := n_beq hb
    subst this
    simp only [hk, Nat.beq_refl, n_chk]
    exact h9
  · cases h)
theorem s_gRc {l : Launch} {w : nW} {d : Nat} {μ : nY} {G : nG} {T : Type} {fin : T → nR} {pc : Nat} {a0 ci k v : Nat} (h : n_S l w d μ G fin pc (o_getR G ci k (pc + 3))) (hk : n_kd G a0 = ci) (hv : n_mr G a0 k = v) : n_S l w d μ G fin pc (o_gRc a0 v (pc + 3)) := n_S_of h (fun go lv st M r h => by
  unfold o_gRc at h
  unfold o_getR
  split at h
  · obtain ⟨hb, h9⟩ := n_ck_some h
    have := n_beq hb
    subst this
    simp only [hk, hv, Nat.beq_refl, n_chk]
    exact h9
  · cases h)
theorem s_pIc {l : Launch} {w : nW} {d : Nat} {μ : nY} {G : nG} {T : Type} {fin : T → nR} {pc : Nat} {a0 ci k : Nat} (h : n_S l w d μ G fin pc (o_putI G ci k (pc + 3))) (hk : n_kd G a0 = ci) : n_S l w d μ G fin pc (o_pIc a0 k (pc + 3)) := n_S_of h (fun go lv st M r h => by
  unfold o_pIc at h
  unfold o_putI
  split at h
  · obtain ⟨hb, h9⟩ := n_ck_some h
    have := n_beq hb
    subst this
    simp only [hk, Nat.beq_refl, n_chk]
    exact h9
  · cases h)
theorem s_pZc {l : Launch} {w : nW} {d : Nat} {μ : nY} {G : nG} {T : Type} {fin : T → nR} {pc : Nat} {a0 ci k : Nat} (h : n_S l w d μ G fin pc (o_putZ G ci k (pc + 3))) (hk : n_kd G a0 = ci) : n_S l w d μ G fin pc (o_pZc a0 k (pc + 3)) := n_S_of h (fun go lv st M r h => by
  unfold o_pZc at h
  unfold o_putZ
  split at h
  · obtain ⟨hb, h8⟩ := n_ck_some h
    obtain ⟨hz, h9⟩ := n_chk_some h8
    have := n_beq hb
    subst this
    simp only [hk, hz, Nat.beq_refl, n_chk, Bool.and_self]
    exact h9
  · cases h)
theorem s_aldc {l : Launch} {w : nW} {d : Nat} {μ : nY} {G : nG} {T : Type} {fin : T → nR} {pc : Nat} {a0 L t : Nat} (h : n_S l w d μ G fin pc (o_ald G t (pc + 1))) (hk : n_kd G a0 = t) (hL : n_len G a0 = L) : n_S l w d μ G fin pc (o_aldc a0 L (pc + 1)) := n_S_of h (fun go lv st M r h => by
  unfold o_aldc at h
  unfold o_ald
  split at h
  · obtain ⟨hb, h8⟩ := n_ck_some h
    obtain ⟨hz, h9⟩ := n_chk_some h8
    have := n_beq hb
    subst this
    unfold n_ib at hz
    simp only [n_in, hk, hL, hz, Nat.beq_refl, n_chk, Bool.and_self]
    exact h9
  · cases h)
theorem s_iastc {l : Launch} {w : nW} {d : Nat} {μ : nY} {G : nG} {T : Type} {fin : T → nR} {pc : Nat} {a0 L : Nat} (h : n_S l w d μ G fin pc (o_iastore G (pc + 1))) (hk : n_kd G a0 = 14) (hL : n_len G a0 = L) : n_S l w d μ G fin pc (o_iastc a0 L (pc + 1)) := n_S_of h (fun go lv st M r h => by
  unfold o_iastc at h
  unfold o_iastore
  split at h
  · obtain ⟨hb, h8⟩ := n_ck_some h
    obtain ⟨hz, h9⟩ := n_chk_some h8
    have := n_beq hb
    subst this
    unfold n_ib at hz
    simp only [n_in, hk, hL, hz, Nat.beq_refl, n_chk, Bool.and_self]
    exact h9
  · cases h)
theorem s_bastc {l : Launch} {w : nW} {d : Nat} {μ : nY} {G : nG} {T : Type} {fin : T → nR} {pc : Nat} {a0 L : Nat} (h : n_S l w d μ G fin pc (o_bastore G (pc + 1))) (hk : n_kd G a0 = 13) (hL : n_len G a0 = L) : n_S l w d μ G fin pc (o_bastc a0 L (pc + 1)) := n_S_of h (fun go lv st M r h => by
  unfold o_bastc at h
  unfold o_bastore
  split at h
  · obtain ⟨hb, h8⟩ := n_ck_some h
    obtain ⟨hz, h9⟩ := n_chk_some h8
    have := n_beq hb
    subst this
    unfold n_ib at hz
    simp only [n_in, hk, hL, hz, Nat.beq_refl, n_chk, Bool.and_self]
    exact h9
  · cases h)
theorem s_alenc {l : Launch} {w : nW} {d : Nat} {μ : nY} {G : nG} {T : Type} {fin : T → nR} {pc : Nat} {a0 L t : Nat} (h : n_S l w d μ G fin pc (o_alen G t (pc + 1))) (hk : n_kd G a0 = t) (hL : n_len G a0 = L) : n_S l w d μ G fin pc (o_alenc a0 L (pc + 1)) := n_S_of h (fun go lv st M r h => by
  unfold o_alenc at h
  unfold o_alen
  split at h
  · obtain ⟨hb, h9⟩ := n_ck_some h
    have := n_beq hb
    subst this
    simp only [hk, hL, Nat.beq_refl, n_chk]
    exact h9
  · cases h)
theorem s_callVc {l : Launch} {w : nW} {d : Nat} {μ : nY} {G : nG} {T : Type} {fin : T → nR} {pc : Nat} {a0 ci n : Nat} {f : nF} (h : n_S l w d μ G fin pc (o_callV G ci n f (pc + 3))) (hk : n_kd G a0 = ci) : n_S l w d μ G fin pc (o_callVc a0 n f (pc + 3)) := n_S_of h (fun go lv st M r h => by
  unfold o_callVc at h
  unfold o_callV
  split at h
  · rename_i as r0 hq
    obtain ⟨hb1, h8⟩ := n_ck_some h
    obtain ⟨hb2, h9⟩ := n_ck_some h8
    have hr : n_rcv G ci as = true := by
      unfold n_rcvc at hb1
      unfold n_rcv
      split at hb1
      · have := n_beq hb1
        subst this
        simp only [hk, Nat.beq_refl]
      · cases hb1
    rw [hq]
    simp only [hr, hb2, n_chk, Bool.and_self]
    exact h9
  · cases h)
theorem s_copyc {l : Launch} {w : nW} {d : Nat} {μ : nY} {G : nG} {T : Type} {fin : T → nR} {pc : Nat} {a0 a1 L0 L1 : Nat} (h : n_S l w d μ G fin pc (o_copy G (pc + 3))) (hk0 : n_kd G a0 = 14) (hL0 : n_len G a0 = L0) (hk1 : n_kd G a1 = 14) (hL1 : n_len G a1 = L1) : n_S l w d μ G fin pc (o_copyc a0 a1 L0 L1 (pc + 3)) := n_S_of h (fun go lv st M r h => by
  unfold o_copyc at h
  unfold o_copy
  split at h
  · obtain ⟨hb0, h6⟩ := n_ck_some h
    obtain ⟨hb1, h7⟩ := n_ck_some h6
    obtain ⟨hb2, h8⟩ := n_ck_some h7
    obtain ⟨hz, h9⟩ := n_chk_some h8
    have e0 := n_beq hb0
    have e1 := n_beq hb1
    subst e0
    subst e1
    unfold n_cpokc at hz
    simp only [n_cpok, hk0, hL0, hk1, hL1, hz, hb2, Nat.beq_refl, n_chk, Bool.and_self]
    exact h9
  · cases h)
abbrev n_sw {α : Type} : List (Int32 × Nat) → Nat → Int32 → (Nat → α) → α
  | [], d, _, k => k d
  | q :: t, d, x, k => if x = q.1 then k q.2 else n_sw t d x k
theorem n_sw_some {α : Type} {x : Int32} {d : Nat} {k : Nat → Option α} {r : α} : ∀ {ps : List (Int32 × Nat)}, n_sw ps d x k = some r → (∃ q ∈ ps, x = q.1 ∧ k q.2 = some r) ∨ ((∀ q ∈ ps, x ≠ q.1) ∧ k d = some r)
  | [], h => Or.inr ⟨fun q hq => (by cases hq), h⟩
  | q :: t, h => by
    unfold n_sw at h
    by_cases hx : x = q.1
    · rw [if_pos hx] at h
      exact Or.inl ⟨q, List.mem_cons_self, hx, h⟩
    · rw [if_neg hx] at h
      rcases n_sw_some h with ⟨y, h1, h2⟩ | ⟨h1, h2⟩
      · exact Or.inl ⟨y, List.mem_cons_of_mem _ h1, h2⟩
      · refine Or.inr ⟨fun y hy => ?_, h2⟩
        rcases List.mem_cons.mp hy with e | e
        · rw [e]; exact hx
        · exact h1 y e
abbrev o_sw {T : Type} (ps : List (Int32 × Nat)) (dt : Nat) : nO T := fun go lv st M => match st with
  | .int x :: r => n_sw ps dt x (fun t => go t lv r M)
  | _ => none
def n_tswok (pc : Nat) (dflt lo hi : Int) (offs : List Int) (ps : List (Int32 × Nat)) (dt : Nat) : Bool :=
  ps.all (fun q => (decide (lo ≤ q.1.toInt) && decide (q.1.toInt ≤ hi)) && (offs[(q.1.toInt - lo).toNat]? == some ((q.2 : Int) - (pc : Int)))) && ((List.range (hi - lo + 1).toNat).all (fun (i : Nat) => ps.any (fun q => q.1.toInt == lo + (i : Int))) && decide ((pc : Int) + dflt = (dt : Int)))
theorem s_tsw {l : Launch} {w : nW} {d : Nat} {μ : nY} {G : nG} {T : Type} {fin : T → nR} {pc : Nat} {dflt lo hi : Int} {offs : Array Int} {len dt : Nat} {ps : List (Int32 × Nat)} (hd : decode μ.2.2.1 pc = .ok (.tableswitch dflt lo hi offs, len)) (ho : n_tswok pc dflt lo hi offs.toList ps dt = true) : n_S l w d μ G fin pc (o_sw ps dt) := by
  intro go r lv st M hg h
  unfold o_sw at h
  split at h
  · rename_i x rest
    unfold n_tswok at ho
    simp only [Bool.and_eq_true, decide_eq_true_eq] at ho
    obtain ⟨ho1, ho2, ho3⟩ := ho
    rcases n_sw_some h with ⟨q, hq, hx, h2⟩ | ⟨hn, h2⟩
    · have h1 := hg _ _ _ _ h2
      refine ⟨h1.1, fun p e R s m args below meth c H locs cells slots ls C hP hS hl hz hc hs => ?_⟩
      have h3 := List.all_eq_true.mp ho1 q hq
      simp only [Bool.and_eq_true, decide_eq_true_eq, beq_iff_eq, Array.getElem?_toList] at h3
      subst hx
      exact lv_tableIn C.1 C.2.1 hd (by omega) (by omega) h3.2 (by omega) (h1.2 p e R s m args below meth c H locs cells slots ls C hP hS hl hz hc hs)
    · have h1 := hg _ _ _ _ h2
      refine ⟨h1.1, fun p e R s m args below meth c H locs cells slots ls C hP hS hl hz hc hs => ?_⟩
      refine lv_tableOut C.1 C.2.1 hd ?_ ho3 (h1.2 p e R s m args below meth c H locs cells slots ls C hP hS hl hz hc hs)
      by_cases ha : x.toInt < lo
      · exact Or.inl ha
      · refine Or.inr ?_
        by_cases hb : hi < x.toInt
        · exact hb
        · exfalso
          have h4 := List.all_eq_true.mp ho2 (x.toInt - lo).toNat (List.mem_range.mpr (by omega))
          obtain ⟨q, hq, hq2⟩ := List.any_eq_true.mp h4
          simp only [beq_iff_eq] at hq2
          refine hn q hq (Int32.toInt_inj.mp ?_)
          omega
  · cases h
abbrev o_ladd {T : Type} (nx : Nat) : nO T := fun go lv st M => match st with
  | .long y :: .long x :: r => go nx lv (.long (x + y) :: r) M
  | _ => none
abbrev o_lmul {T : Type} (nx : Nat) : nO T := fun go lv st M => match st with
  | .long y :: .long x :: r => go nx lv (.long (x * y) :: r) M
  | _ => none
abbrev o_lrem {T : Type} (nx : Nat) : nO T := fun go lv st M => match st with
  | .long y :: .long x :: r => if y = 0 then none else go nx lv (.long (x - x / y * y) :: r) M
  | _ => none
abbrev o_lcmp {T : Type} (nx : Nat) : nO T := fun go lv st M => match st with
  | .long y :: .long x :: r => go nx lv (.int (lg_cmp x y) :: r) M
  | _ => none
abbrev o_l2i {T : Type} (nx : Nat) : nO T := fun go lv st M => match st with
  | .long x :: r => go nx lv (.int x.toInt32 :: r) M
  | _ => none
abbrev o_nn {T : Type} (tgt nx : Nat) : nO T := fun go lv st M => match st with
  | .ref a :: r => if a = 0 then go nx lv r M else go tgt lv r M
  | _ => none
theorem s_ladd {l : Launch} {w : nW} {d : Nat} {μ : nY} {G : nG} {T : Type} {fin : T → nR} {pc : Nat} (hd : decode μ.2.2.1 pc = .ok (.ladd, 1)) : n_S l w d μ G fin pc (o_ladd (pc + 1)) := by
  intro go r lv st M hg h
  unfold o_ladd at h
  split at h
  · have h1 := hg _ _ _ _ h
    refine ⟨h1.1, fun p e R s m args below meth c H locs cells slots ls C hP hS hl hz hc hs => ?_⟩
    exact lv_ladd C.1 C.2.1 hd (h1.2 p e R s m args below meth c H locs cells slots ls C hP hS hl hz hc hs)
  · cases h
theorem s_lmul {l : Launch} {w : nW} {d : Nat} {μ : nY} {G : nG} {T : Type} {fin : T → nR} {pc : Nat} (hd : decode μ.2.2.1 pc = .ok (.lmul, 1)) : n_S l w d μ G fin pc (o_lmul (pc + 1)) := by
  intro go r lv st M hg h
  unfold o_lmul at h
  split at h
  · have h1 := hg _ _ _ _ h
    refine ⟨h1.1, fun p e R s m args below meth c H locs cells slots ls C hP hS hl hz hc hs => ?_⟩
    exact lv_lmul C.1 C.2.1 hd (h1.2 p e R s m args below meth c H locs cells slots ls C hP hS hl hz hc hs)
  · cases h
theorem s_lrem {l : Launch} {w : nW} {d : Nat} {μ : nY} {G : nG} {T : Type} {fin : T → nR} {pc : Nat} (hd : decode μ.2.2.1 pc = .ok (.lrem, 1)) : n_S l w d μ G fin pc (o_lrem (pc + 1)) := by
  intro go r lv st M hg h
  unfold o_lrem at h
  split at h
  · rename_i y x rest
    by_cases hy : y = 0
    · rw [if_pos hy] at h; cases h
    rw [if_neg hy] at h
    have h1 := hg _ _ _ _ h
    refine ⟨h1.1, fun p e R s m args below meth c H locs cells slots ls C hP hS hl hz hc hs => ?_⟩
    exact lv_lrem C.1 C.2.1 hd hy (h1.2 p e R s m args below meth c H locs cells slots ls C hP hS hl hz hc hs)
  · cases h
theorem s_lcmp {l : Launch} {w : nW} {d : Nat} {μ : nY} {G : nG} {T : Type} {fin : T → nR} {pc : Nat} (hd : decode μ.2.2.1 pc = .ok (.lcmp, 1)) : n_S l w d μ G fin pc (o_lcmp (pc + 1)) := by
  intro go r lv st M hg h
  unfold o_lcmp at h
  split at h
  · have h1 := hg _ _ _ _ h
    refine ⟨h1.1, fun p e R s m args below meth c H locs cells slots ls C hP hS hl hz hc hs => ?_⟩
    exact W.lcmp C.1 C.2.1 hd (h1.2 p e R s m args below meth c H locs cells slots ls C hP hS hl hz hc hs)
  · cases h
theorem s_l2i {l : Launch} {w : nW} {d : Nat} {μ : nY} {G : nG} {T : Type} {fin : T → nR} {pc : Nat} (hd : decode μ.2.2.1 pc = .ok (.l2i, 1)) : n_S l w d μ G fin pc (o_l2i (pc + 1)) := by
  intro go r lv st M hg h
  unfold o_l2i at h
  split at h
  · have h1 := hg _ _ _ _ h
    refine ⟨h1.1, fun p e R s m args below meth c H locs cells slots ls C hP hS hl hz hc hs => ?_⟩
    exact lv_l2i C.1 C.2.1 hd rfl (h1.2 p e R s m args below meth c H locs cells slots ls C hP hS hl hz hc hs)
  · cases h
theorem s_nn {l : Launch} {w : nW} {d : Nat} {μ : nY} {G : nG} {T : Type} {fin : T → nR} {pc : Nat} {off : Int} {tgt : Nat} (hd : decode μ.2.2.1 pc = .ok (.ifnonnull off, 3)) (ht : (pc : Int) + off = (tgt : Int)) : n_S l w d μ G fin pc (o_nn tgt (pc + 3)) := by
  intro go r lv st M hg h
  unfold o_nn at h
  split at h
  · rename_i a rest
    by_cases ha : a = 0
    · rw [if_pos ha] at h
      have h1 := hg _ _ _ _ h
      refine ⟨h1.1, fun p e R s m args below meth c H locs cells slots ls C hP hS hl hz hc hs => ?_⟩
      have e9 : n_tr w (.ref a) = .null := by simp [n_tr, n_rf, ha, va_rf]
      rw [List.map_cons, e9]
      exact lv_ifnonnullN C.1 C.2.1 hd (h1.2 p e R s m args below meth c H locs cells slots ls C hP hS hl hz hc hs)
    · rw [if_neg ha] at h
      have h1 := hg _ _ _ _ h
      refine ⟨h1.1, fun p e R s m args below meth c H locs cells slots ls C hP hS hl hz hc hs => ?_⟩
      rw [List.map_cons, n_ref (a := a) (Nat.pos_of_ne_zero ha)]
      exact lv_ifnonnull C.1 C.2.1 hd ht (h1.2 p e R s m args below meth c H locs cells slots ls C hP hS hl hz hc hs)
  · cases h
theorem s_aret {l : Launch} {w : nW} {d : Nat} {μ : nY} {G : nG} {pc : Nat} {C0 : String} (hr : μ.2.2.2.2 = some (.object C0)) (hd : decode μ.2.2.1 pc = .ok (.areturn, 1)) : n_S l w d μ G (n_fin dv_r G) pc o_aret := by
  intro go r lv st M hg h
  unfold o_aret at h
  split at h
  · rename_i v
    cases h
    refine ⟨⟨Nat.le_refl _, Nat.le_refl _⟩, fun p e R s m args below meth c H locs cells slots ls C hP hS hl hz hc hs => ?_⟩
    simp only [Nat.sub_self, Nat.add_zero]
    exact W.aret C.1 C.2.1 (by rw [C.2.2.1]; exact hr) (Or.inl ⟨_, rfl⟩) (va_rf_or _) (fun t ht hW => ⟨⟨rfl, by rw [ht]; exact hP, n_K.warm hW (by rw [ht]; exact hS.2.1) C.2.2.2.2.2.2.2.2.1⟩, hS.F ht⟩) hS.2.2 hd C.2.2.2.2.2.1
  · cases h
/-! ===== a method's function as a callee's; the list of its instructions ===== -/
def n_AllS (l : Launch) (w : nW) (d : Nat) (μ : nY) (G : nG) {T : Type} (fin : T → nR) : List (Nat × nO T) → Prop
  | [] => True
  | q :: t => n_S l w d μ G fin q.1 q.2 ∧ n_AllS l w d μ G fin t
theorem n_AllS.all {l : Launch} {w : nW} {d : Nat} {μ : nY} {G : nG} {T : Type} {fin : T → nR} : ∀ {c : List (Nat × nO T)}, n_AllS l w d μ G fin c → ∀ q ∈ c, n_S l w d μ G fin q.1 q.2
  | [], _, q, hq => by cases hq
  | x :: t, h, q, hq => by
    rcases List.mem_cons.mp hq with e | e
    · rw [e]; exact h.1
    · exact n_AllS.all h.2 q e
theorem n_AllS.app {l : Launch} {w : nW} {d : Nat} {μ : nY} {G : nG} {T : Type} {fin : T → nR} : ∀ {c e : List (Nat × nO T)}, n_AllS l w d μ G fin c → n_AllS l w d μ G fin e → n_AllS l w d μ G fin (c ++ e)
  | [], _, _, h => h
  | _ :: _, _, h1, h2 => ⟨h1.1, n_AllS.app h1.2 h2⟩
def n_KOK (l : Launch) (w : nW) (d : Nat) (μ : nY) (G : nG) {T : Type} (fin : T → nR) : nK T → Prop
  | [] => True
  | q :: t => (∀ (lv : nL) (st : List Value) (M : nM) (r : T), q.2 lv st M = some r → n_At l w d μ q.1 lv st (G, M) (fin r)) ∧ n_KOK l w d μ G fin t
theorem n_KOK.all {l : Launch} {w : nW} {d : Nat} {μ : nY} {G : nG} {T : Type} {fin : T → nR} : ∀ {K : nK T}, n_KOK l w d μ G fin K → ∀ q ∈ K, ∀ (lv : nL) (st : List Value) (M : nM) (r : T), q.2 lv st M = some r → n_At l w d μ q.1 lv st (G, M) (fin r)
  | [], _, q, hq => by cases hq
  | x :: t, h, q, hq => by
    rcases List.mem_cons.mp hq with e | e
    · rw [e]; exact h.1
    · exact n_KOK.all h.2 q e
theorem n_c {l : Launch} {w : nW} {d : Nat} {μ : nY} {G : nG} {T : Type} {fin : T → nR} {q : Nat × nO T} {t : List (Nat × nO T)} (h : n_S l w d μ G fin q.1 q.2) (ht : n_AllS l w d μ G fin t) : n_AllS l w d μ G fin (q :: t) := ⟨h, ht⟩
theorem n_e {l : Launch} {w : nW} {d : Nat} {μ : nY} {G : nG} {T : Type} {fin : T → nR} : n_AllS l w d μ G fin [] := trivial
theorem n_kc {l : Launch} {w : nW} {d : Nat} {μ : nY} {G : nG} {T : Type} {fin : T → nR} {q : Nat × (nL → List Value → nM → Option T)} {t : nK T} (h : ∀ (lv : nL) (st : List Value) (M : nM) (r : T), q.2 lv st M = some r → n_At l w d μ q.1 lv st (G, M) (fin r)) (ht : n_KOK l w d μ G fin t) : n_KOK l w d μ G fin (q :: t) := ⟨h, ht⟩
theorem n_ke {l : Launch} {w : nW} {d : Nat} {μ : nY} {G : nG} {T : Type} {fin : T → nR} : n_KOK l w d μ G fin ([] : nK T) := trivial
theorem n_seg {l : Launch} {w : nW} {d : Nat} {μ : nY} {G : nG} {T : Type} {fin : T → nR} {code : List (Nat × nO T)} {K : nK T} {pc : Nat} {lv : nL} {st : List Value} {M : nM} {r : T} {F : Option T} (n : Nat) (hc : n_AllS l w d μ G fin code) (hK : n_KOK l w d μ G fin K) (he : n_run code K n (n_find code pc) pc lv st M = F) (hF : F = some r) : n_At l w d μ pc lv st (G, M) (fin r) :=
  n_run_ok hc.all hK.all n _ _ _ _ _ _ (fun _ hq => n_find_mem hq) (he.trans hF)
