/-! ===== the texts at the start ===== -/
def n_fl : List Cond := flatC (Jvm.Cond.and given_1 narrow_1)
def n_tm (i : Nat) : Term := match i with
  | 0 => .string RX6 95
  | _ => .string RX6 116
set_option maxRecDepth 200000 in
theorem n_fl1 : ∀ j : Nat, j < 10 → n_fl[13 + j]? = some (Cond.eq (.elem (.field (n_tm 0) "java/lang/String" "value" "[B") (.int (Int32.ofNat j))) (.int (n_tb1.getD j 0))) := by decide +kernel
set_option maxRecDepth 200000 in
theorem n_fl2 : ∀ j : Nat, j < 144 → n_fl[27 + j]? = some (Cond.eq (.elem (.field (n_tm 1) "java/lang/String" "value" "[B") (.int (Int32.ofNat j))) (.int (n_tb2.getD j 0))) := by decide +kernel
theorem n_two {i : Nat} (h : i < 2) : i = 0 ∨ i = 1 := by omega
set_option maxRecDepth 200000 in
theorem n_texts {args : Array Value} {s : State} {A : Nat → Prop} (hg : (Jvm.Cond.and given_1 narrow_1).before args s = true) (hts : ∀ w ∈ lw_tbl, w.before args s = true) (hA : ∀ a : Nat, a < s.heap.size → ¬ A a) :
    ∃ adK adV : Nat → Nat, vk_S 2 n_tlen n_tbyt adK adV A s s.heap ∧ (vk_R RX6 95 n_tx1 (adK 0) s ∧ vk_R RX6 116 n_tx2 (adK 1) s) ∧ va_Z "java/lang/String" "COMPACT_STRINGS" "Z" (.int 1) A s s.heap ∧ va_Zq "jdk/internal/util/Preconditions" "SIOOBE_FORMATTER" "Ljava/util/function/BiFunction;" A s s.heap := by
  have hs : ∀ (j : Nat) (c : Cond), n_fl[j]? = some c → c.before args s = true := fun j c hj => flat_of_before _ hg c (List.mem_of_getElem? hj)
  have ht : ∀ (j : Nat) (c : Cond), lw_tbl[j]? = some c → c.before args s = true := fun j c hj => hts c (List.mem_of_getElem? hj)
  obtain ⟨adK, adV, hS, hE⟩ := vk_Sof (args := args) (s := s) (N := 2) (tm := n_tm) (len := n_tlen) (byt := n_tbyt) (A := A)
    (by intro i hi; rcases n_two hi with rfl | rfl <;> decide)
    (by intro i hi; rcases n_two hi with rfl | rfl <;> first | exact hs 9 _ (by decide +kernel) | exact hs 23 _ (by decide +kernel))
    (by intro i hi; rcases n_two hi with rfl | rfl <;> first | exact hs 10 _ (by decide +kernel) | exact hs 24 _ (by decide +kernel))
    (by intro i hi; rcases n_two hi with rfl | rfl <;> first | exact hs 11 _ (by decide +kernel) | exact hs 25 _ (by decide +kernel))
    (by intro i hi; rcases n_two hi with rfl | rfl <;> first | exact hs 12 _ (by decide +kernel) | exact hs 26 _ (by decide +kernel))
    (by intro i hi j hj; rcases n_two hi with rfl | rfl <;> first | exact hs (13 + j) _ (n_fl1 j hj) | exact hs (27 + j) _ (n_fl2 j hj))
    (by
      intro i j hi hj hij
      rcases n_two hi with rfl | rfl <;> rcases n_two hj with rfl | rfl
      · exact absurd rfl hij
      · exact Or.inl (hs 171 _ (by decide +kernel))
      · exact Or.inr (hs 171 _ (by decide +kernel))
      · exact absurd rfl hij) hA
  refine ⟨adK, adV, hS, ⟨vk_R.of (A := args) (ht 832 _ (by decide +kernel)) (hE 0 (by decide)), vk_R.of (A := args) (ht 927 _ (by decide +kernel)) (hE 1 (by decide))⟩, ?_, ?_⟩
  · exact va_Zof (args := args) (ht 846 _ (by decide +kernel)) (ht 153 _ (by decide +kernel)) (va_eqt (hs 4 _ (by decide +kernel))) hA
  · exact va_Zqof (args := args) (ht 885 _ (by decide +kernel)) (ht 156 _ (by decide +kernel)) (hs 5 _ (by decide +kernel)) hA
set_option maxRecDepth 200000 in
set_option maxHeartbeats 4000000 in
/-- the law out of the nice machine: if from the empty heap the law's code comes to the answer 1, within the room, that is whole_start -/
theorem n_law {p : Program} {e : Env} {s : State} {m : MethodId} {below : List Frame} {meth : Method} {c : Code} (l : Launch) {b L : Nat} {xs : Nat → Int32} (C0 : lw_At p s m meth c b L xs) (d : Nat) (hd : d ≤ 1300)
    (hat : ∀ (w : nW) (nm : String), n_PX w L xs → n_PS w → ∃ r : nR, r.1 = some (.int 1) ∧ n_n r.2.1 ≤ 600000 ∧ n_sl r.2.1 ≤ 7302250 ∧ n_At l w d (n_mlaw nm) 0 [(0, .retAddr 0)] [] n_h0 r) :
    W p l e room_1 s m #[Value.ref b] below meth c s.heap [] 0 0 (lw_Z below #[Value.ref b] s) (entryFrame m ([Value.ref b] : List Value).toArray 4) := by
  obtain ⟨hx, hb, hr, hml, hown, hts, hX, hbl, hlocks, hgv⟩ := id C0
  have hgd : ∀ w ∈ lw_good, w.before #[Value.ref b] s = true := fun w hw => hts w (List.mem_filter.mp hw).1
  obtain ⟨c0, iS0, hKn0⟩ := u_known (C := RX0) (T := TX0) (N := 3) (n := 3) hgd nok0.2.2.1 (hts (.instantiable RX0 3) (List.mem_of_getElem? (i := 441) (by decide +kernel)))
  obtain ⟨c1, iS1, hKn1⟩ := u_known (C := RX1) (T := TX1) (N := 8) (n := 8) hgd nok1.2.2.1 (hts (.instantiable RX1 8) (List.mem_of_getElem? (i := 168) (by decide +kernel)))
  obtain ⟨c2, iS2, hKn2⟩ := u_known (C := RX2) (T := TX2) (N := 6) (n := 6) hgd nok2.2.2.1 (hts (.instantiable RX2 6) (List.mem_of_getElem? (i := 548) (by decide +kernel)))
  obtain ⟨c3, iS3, hKn3⟩ := u_known (C := RX3) (T := TX3) (N := 7) (n := 7) hgd nok3.2.2.1 (hts (.instantiable RX3 7) (List.mem_of_getElem? (i := 320) (by decide +kernel)))
  obtain ⟨c4, iS4, hKn4⟩ := u_known (C := RX4) (T := TX4) (N := 12) (n := 12) hgd nok4.2.2.1 (hts (.instantiable RX4 12) (List.mem_of_getElem? (i := 223) (by decide +kernel)))
  obtain ⟨c5, iS5, hKn5⟩ := u_known (C := RX5) (T := TX5) (N := 3) (n := 3) hgd nok5.2.2.1 (hts (.instantiable RX5 3) (List.mem_of_getElem? (i := 457) (by decide +kernel)))
  obtain ⟨c6, iS6, hKn6⟩ := u_known (C := RX6) (T := TX6) (N := 12) (n := 12) hgd nok6.2.2.1 (hts (.instantiable RX6 12) (List.mem_of_getElem? (i := 477) (by decide +kernel)))
  obtain ⟨c7, iS7, hKn7⟩ := u_known (C := RX7) (T := TX7) (N := 4) (n := 4) hgd nok7.2.2.1 (hts (.instantiable RX7 4) (List.mem_of_getElem? (i := 289) (by decide +kernel)))
  obtain ⟨c8, iS8, hKn8⟩ := u_known (C := RX8) (T := TX8) (N := 7) (n := 7) hgd nok8.2.2.1 (hts (.instantiable RX8 7) (List.mem_of_getElem? (i := 174) (by decide +kernel)))
  obtain ⟨c9, iS9, hKn9⟩ := u_known (C := RX9) (T := TX9) (N := 3) (n := 3) hgd nok9.2.2.1 (hts (.instantiable RX9 3) (List.mem_of_getElem? (i := 532) (by decide +kernel)))
  obtain ⟨c10, iS10, hKn10⟩ := u_known (C := RX10) (T := TX10) (N := 9) (n := 9) hgd nok10.2.2.1 (hts (.instantiable RX10 9) (List.mem_of_getElem? (i := 349) (by decide +kernel)))
  obtain ⟨c11, iS11, hKn11⟩ := u_known (C := RX11) (T := TX11) (N := 8) (n := 8) hgd nok11.2.2.1 (hts (.instantiable RX11 8) (List.mem_of_getElem? (i := 160) (by decide +kernel)))
  obtain ⟨c12, iS12, hKn12⟩ := u_known (C := RX12) (T := TX12) (N := 79) (n := 79) hgd nok12.2.2.1 (hts (.instantiable RX12 79) (List.mem_of_getElem? (i := 1402) (by decide +kernel)))
  obtain ⟨dC, dI, hKc⟩ : ∃ (dC : Nat → ClassId) (dI : Nat → Nat → Nat), ∀ (k : Nat) (q : vw_C), vwCl[k]? = some q → u_Kn s q.1 q.2.1 q.2.2 (dC k) (dI k) := by
    refine ⟨fun k => if k = 0 then c0 else if k = 1 then c1 else if k = 2 then c2 else if k = 3 then c3 else if k = 4 then c4 else if k = 5 then c5 else if k = 6 then c6 else if k = 7 then c7 else if k = 8 then c8 else if k = 9 then c9 else if k = 10 then c10 else if k = 11 then c11 else c12, fun k => if k = 0 then iS0 else if k = 1 then iS1 else if k = 2 then iS2 else if k = 3 then iS3 else if k = 4 then iS4 else if k = 5 then iS5 else if k = 6 then iS6 else if k = 7 then iS7 else if k = 8 then iS8 else if k = 9 then iS9 else if k = 10 then iS10 else if k = 11 then iS11 else iS12, ?_⟩
    intro k q hq
    match k, hq with
    | 0, hq => cases hq; exact hKn0
    | 1, hq => cases hq; exact hKn1
    | 2, hq => cases hq; exact hKn2
    | 3, hq => cases hq; exact hKn3
    | 4, hq => cases hq; exact hKn4
    | 5, hq => cases hq; exact hKn5
    | 6, hq => cases hq; exact hKn6
    | 7, hq => cases hq; exact hKn7
    | 8, hq => cases hq; exact hKn8
    | 9, hq => cases hq; exact hKn9
    | 10, hq => cases hq; exact hKn10
    | 11, hq => cases hq; exact hKn11
    | 12, hq => cases hq; exact hKn12
    | k + 13, hq => simp [vwCl] at hq
  obtain ⟨cB, hB⟩ := n_arr (ty := .byte) (hts _ (List.mem_of_getElem? (i := 528) (by decide +kernel))) (fun c => rfl)
  obtain ⟨cI, hI⟩ := n_arr (ty := .int) (hts _ (List.mem_of_getElem? (i := 221) (by decide +kernel))) (fun c => rfl)
  have hov : (Cond.arrayOver (.object RX4)).before #[Value.ref b] s = true := hts _ (List.mem_of_getElem? (i := 463) (by decide +kernel))
  obtain ⟨cO, hO⟩ := n_arrO hov
  obtain ⟨adK, adV, hS2, hR2, hZ1, hZq⟩ := n_texts (A := fun q => s.heap.size - 1 < q) hgv hts (fun a ha hq => by have hq2 : s.heap.size - 1 < a := hq; omega)
  obtain ⟨q, hZ2⟩ : ∃ q : Nat, va_Z "jdk/internal/util/Preconditions" "SIOOBE_FORMATTER" "Ljava/util/function/BiFunction;" (if q = 0 then .null else .ref (q - 1)) (fun q => s.heap.size - 1 < q) s s.heap := by
    rcases hZq with h | ⟨t, h⟩
    · exact ⟨0, h⟩
    · exact ⟨t + 1, h⟩
  obtain ⟨sp, hsp⟩ : ∃ sp : Nat → Nat, sp = fun k => if k = 0 then b else if k = 20 then q else if k < 11 then adK (k - 1) else adV (k - 11) := ⟨_, rfl⟩
  have hs0 : sp 0 = b := by rw [hsp]; rfl
  have hsA : ∀ i, i < 2 → sp (i + 1) = adK i := fun i hi => by rcases n_two hi with rfl | rfl <;> rw [hsp] <;> rfl
  have hsV : ∀ i, i < 2 → sp (i + 11) = adV i := fun i hi => by rcases n_two hi with rfl | rfl <;> rw [hsp] <;> rfl
  have hs20 : sp 20 = q := by rw [hsp]; rfl
  obtain ⟨w, hwe⟩ : ∃ w : nW, w = (s.heap.size - 1, (dC, dI), cB, cI, cO, sp, fun u Hu => va_X b L xs u Hu ∧ vk_S 2 n_tlen n_tbyt adK adV (fun q => s.heap.size - 1 < q) u Hu ∧ (vk_R RX6 95 n_tx1 (adK 0) u ∧ vk_R RX6 116 n_tx2 (adK 1) u) ∧ va_Z "java/lang/String" "COMPACT_STRINGS" "Z" (.int 1) (fun q => s.heap.size - 1 < q) u Hu ∧ va_Z "jdk/internal/util/Preconditions" "SIOOBE_FORMATTER" "Ljava/util/function/BiFunction;" (if q = 0 then .null else .ref (q - 1)) (fun q => s.heap.size - 1 < q) u Hu) := ⟨_, rfl⟩
  have hw1 : w.1 + 1 = s.heap.size := by rw [hwe]; show s.heap.size - 1 + 1 = _; omega
  have hcl : n_cl w := by
    intro u U Hu HU hv hH hu
    have hH2 : ∀ q : Nat, q < Hu.size → ¬ (s.heap.size - 1 < q) → HU[q]? = Hu[q]? := fun q h1 h2 => hH q h1 (by show ¬ w.1 < q; omega)
    rw [hwe] at hu ⊢
    obtain ⟨u1, u2, u3, u4, u5⟩ := hu
    have hbs : b < Hu.size := by
      obtain ⟨scr, h1, -⟩ := u1
      exact (Array.getElem?_eq_some_iff.mp h1).1
    have hbk : HU[b]? = Hu[b]? := hH2 b hbs (by omega)
    have hal : u.vm.Alike U.vm := by
      rcases hv with hv | hv
      · exact hv.alike
      · rw [hv]; exact Vm.Alike.refl _
    refine ⟨(va_X.moved hal u1).kept hbk, (vk_S.moved hal u2).kept hH2, ?_, (va_Z.moved hal u4).kept hH2, (va_Z.moved hal u5).kept hH2⟩
    rcases hv with hv | hv
    · exact ⟨u3.1.warm hv, u3.2.warm hv⟩
    · exact ⟨u3.1.same hv.symm, u3.2.same hv.symm⟩
  have hPX : n_PX w L xs := by
    rw [hwe]
    refine ⟨by show sp 0 ≤ s.heap.size - 1; omega, fun u Hu h => ?_⟩
    show va_X (sp 0) L xs u Hu
    rw [hs0]
    exact h.1
  have hPS : n_PS w := by
    rw [hwe]
    intro u Hu h
    obtain ⟨-, h2, h3, h4, h5⟩ := h
    refine ⟨⟨fun i hi => ?_, fun i j hi hj e => ?_⟩, ⟨?_, ?_⟩, h4, ?_⟩
    · show va_O _ (sp (i + 1)) _ _ _ ∧ va_OF _ _ _ _ (sp (i + 1)) _ _ _ ∧ va_OF _ _ _ (.ref (sp (i + 11))) (sp (i + 1)) _ _ _ ∧ va_T _ (sp (i + 11)) _ _ _ _ _
      rw [hsA i hi, hsV i hi]
      exact h2.1 i hi
    · have e2 : sp (i + 1) = sp (j + 1) := e
      rw [hsA i hi, hsA j hj] at e2
      exact h2.2 i j hi hj e2
    · show vk_R _ _ _ (sp (0 + 1)) _
      rw [hsA 0 (by decide)]
      exact h3.1
    · show vk_R _ _ _ (sp (1 + 1)) _
      rw [hsA 1 (by decide)]
      exact h3.2
    · have e3 : n_rA sp 20 = (if q = 0 then .null else .ref (q - 1)) := by
        show (if sp 20 = 0 then Value.null else .ref (sp 20 - 1)) = _
        rw [hs20]
      show va_Z _ _ _ (n_rA sp 20) _ _ _
      rw [e3]
      exact h5
  have hK : n_K w s := by
    refine ⟨?_, va_AO.of hov, fun x hx => ?_, hcl, by rw [hwe]; exact ⟨hX, hS2, hR2, hZ1, hZ2⟩⟩
    · rw [hwe]
      refine ⟨hKc, fun k q hk => ?_⟩
      match k, hk with
      | 0, hk => cases hk; exact hB
      | 1, hk => cases hk; exact hI
      | 2, hk => cases hk; exact hO
      | k + 3, hk => simp [n_tys] at hk
    · simp only [n_nest, List.mem_cons, List.not_mem_nil, or_false] at hx
      rcases hx with rfl | rfl | rfl | rfl
      · exact va_Nw.of rfl (hts _ (List.mem_of_getElem? (i := 169) (by decide +kernel)))
      · exact va_Nw.of rfl (hts _ (List.mem_of_getElem? (i := 321) (by decide +kernel)))
      · exact va_Nw.of rfl (hts _ (List.mem_of_getElem? (i := 483) (by decide +kernel)))
      · exact va_Nw.of rfl (hts _ (List.mem_of_getElem? (i := 549) (by decide +kernel)))
  obtain ⟨r, hr1, hrn, hrs, hA⟩ := hat w meth.name hPX hPS
  have hl := lv_entry ([.ref b]) (n := 4) (Nat.le_of_ble_eq_true rfl)
  rw [lg_entry_eq]
  generalize (lg_sl ([.ref b]) ++ List.replicate (4 - (lg_sl ([.ref b])).length) Slot.unset).toArray = ls at hl ⊢
  have hl : lv_has ls 4 (n_trL w [(0, .retAddr 0)]) := by
    have e1 : n_trL w [(0, .retAddr 0)] = [(0, .ref b)] := by
      show [(0, n_tr w (.retAddr 0))] = _
      rw [n_rA_ne (by decide), hwe]
      show [(0, Value.ref (sp 0))] = _
      rw [hs0]
    rw [e1]
    exact hl
  have hP0 : n_P w n_h0 s.heap := ⟨fun a ha => absurd ha (by show ¬ 99 ≤ 15; decide), fun k q hk => by
    have : n_ws w n_h0 = [] := rfl
    rw [this] at hk
    simp at hk⟩
  have h2 := hA.2 p e room_1 s m #[Value.ref b] below meth c s.heap [] 0 0 ls ⟨hx, hb, hr, hml, hown, hlocks, rfl, hgd, hK, by omega, by show d + 1 ≤ 2048; omega, by show 60 * (d + 1) ≤ 84000; omega⟩ hP0 va_S.rf hl (by show w.1 + 1 + 0 = s.heap.size + 0; omega) (by show 0 + (n_n r.2.1 - 0) ≤ 600000; omega) (by show 0 + (n_sl r.2.1 - 0) ≤ 7302250; omega)
  intro T hT X
  obtain ⟨t, a1, b1⟩ := h2 T hT X
  exact ⟨t, a1, n_law_end hr1 hw1 (by show 0 + (n_n r.2.1 - 0) ≤ 600000; omega) (by show 0 + (n_sl r.2.1 - 0) ≤ 7302250; omega) b1⟩
