/-! ===== text: the model reads a condition, as a whole ===== -/
def raF (N f : Nat) (x1 x2 : Int32) (M : nM) : Option (Int32 × nM) := if ¬ x1 = 0 then (fX12_isSign (41 : Int32) M).bind fun p5 => if ¬ p5.1 = 0 then (fX12_settles_all N (9 : Int32) (n_up (n_up p5.2 107 32 ((p5.2 107 32) - (1 : Int32))) 107 30 ((n_up p5.2 107 32 ((p5.2 107 32) - (1 : Int32)) 107 30) - (1 : Int32)))).bind fun p9 => (fX12_reads_all N p9.2).bind fun p10 => fX12_readAny_9 N f (x1 - (1 : Int32)) x2 p10.2 else (fX12_errs (1 : Int32) p5.2).bind fun p => some (p.1, p.2) else some ((0 : Int32), M)
theorem ra0 (N f : Nat) (x1 : Int32) (M : nM) : fX12_readAny_9 N (f + 1) x1 (0 : Int32) M = (fX12_isWord (5 : Int32) M).bind fun p1 => if p1.1 = 0 then (fX12_isWord (4 : Int32) p1.2).bind fun p2 => if p2.1 = 0 then (fX12_settles_all N (10 : Int32) p2.2).bind fun p3 => (fX12_settles_all N (11 : Int32) p3.2).bind fun p4 => raF N f x1 (0 : Int32) p4.2 else (fX12_settles_all N (10 : Int32) p2.2).bind fun p12 => (fX12_settles_all N (11 : Int32) p12.2).bind fun p13 => (fX12_waits (11 : Int32) p13.2).bind fun p14 => (fX12_reads_all N p14.2).bind fun p15 => fX12_readAny_9 N f x1 (1 : Int32) p15.2 else (fX12_settles_all N (10 : Int32) p1.2).bind fun p16 => (fX12_waits (10 : Int32) p16.2).bind fun p17 => (fX12_reads_all N p17.2).bind fun p18 => fX12_readAny_9 N f x1 (1 : Int32) p18.2 := rfl
theorem ra1 (N f : Nat) (x1 : Int32) (M : nM) : fX12_readAny_9 N (f + 1) x1 (1 : Int32) M = (fX12_isWord (6 : Int32) M).bind fun p19 => if ¬ p19.1 = 0 then fX12_readAny_33 N (fun x1 x2 M => fX12_readAny_9 N f x1 x2 M) x1 (1 : Int32) p19.1 p19.2 else (fX12_isSign (40 : Int32) p19.2).bind fun p20 => if p20.1 = 0 then (fX12_readCompared N p20.2).bind fun p21 => if ¬ p21.1 = (-1 : Int32) then (fX12_settles_all N (9 : Int32) p21.2).bind fun p22 => fX12_readAny_9 N f x1 (0 : Int32) p22.2 else some ((-1 : Int32), p21.2) else fX12_readAny_33 N (fun x1 x2 M => fX12_readAny_9 N f x1 x2 M) x1 (1 : Int32) p19.1 p20.2 := rfl
theorem r33_t (N : Nat) (k9 : Int32 → Int32 → nM → Option (Int32 × nM)) (x1 x2 : Int32) (M : nM) : fX12_readAny_33 N k9 x1 x2 (cb true) M = if ¬ (M 107 30) = (8 : Int32) then (fX12_waits (9 : Int32) (n_up M 107 30 ((M 107 30) + (1 : Int32)))).bind fun p1 => (fX12_reads_all N p1.2).bind fun p2 => k9 x1 x2 p2.2 else (fX12_errs (3 : Int32) M).bind fun p => some (p.1, p.2) := by
  unfold fX12_readAny_33
  congr 1
theorem r33_f (N : Nat) (k9 : Int32 → Int32 → nM → Option (Int32 × nM)) (x1 x2 : Int32) (M : nM) : fX12_readAny_33 N k9 x1 x2 (cb false) M = if ¬ (M 107 30) = (8 : Int32) then (fX12_waits (12 : Int32) (n_up M 107 30 ((M 107 30) + (1 : Int32)))).bind fun p1 => (fX12_reads_all N p1.2).bind fun p2 => k9 (x1 + (1 : Int32)) x2 p2.2 else (fX12_errs (3 : Int32) M).bind fun p => some (p.1, p.2) := by
  unfold fX12_readAny_33
  congr 1
theorem PSt_o {M0 : nM} {S : List Nat} {o o' : Nat} (h : PSt M0 S o) : PSt (n_up M0 107 30 (nI o')) S o' := ⟨by rw [n_up_eq, upd_ne (by decide)]; exact h.1, by rw [n_up_eq, upd_eq], fun i x hx => by rw [n_up_ne (by decide)]; exact h.2.2 i x hx⟩
theorem PSt_p {M0 : nM} {S : List Nat} {o x : Nat} (h : PSt M0 (S ++ [x]) o) : PSt (n_up M0 107 32 (nI S.length)) S o := ⟨by rw [n_up_eq, upd_eq], by rw [n_up_eq, upd_ne (by decide)]; exact h.2.1, fun i y hy => by
  rw [n_up_ne (by decide)]
  exact h.2.2 i y (by rw [List.getElem?_append_left (l_lt hy)]; exact hy)⟩
def tpb (S : List Nat) : Prop := ∀ y, S[S.length - 1]? = some y → y = 12
theorem tpb_n {S : List Nat} {x : Nat} (h : tpb S) (hx : x ≠ 12) : tpn x S := fun y hy => by
  rw [h y hy]
  exact ⟨Ne.symm hx, by decide⟩
theorem tpb_s {S : List Nat} : tpb (S ++ [12]) := fun z hz => by
  rw [List.length_append, show S.length + [12].length - 1 = S.length from rfl, List.getElem?_append_right (Nat.le_refl _), Nat.sub_self] at hz
  exact (Option.some.inj hz).symm
/-- the stack of a condition -/
def cst (S : List Nat) (e b : Bool) : List Nat := S ++ List.replicate e.toNat 11 ++ List.replicate b.toNat 10
theorem tp11 {S : List Nat} {e : Bool} (h : tpb S) : tpn 10 (S ++ List.replicate e.toNat 11) := by
  cases e with
  | true => exact tpn_s (by decide) (by decide)
  | false =>
    rw [show List.replicate false.toNat 11 = [] from rfl, List.append_nil]
    exact tpb_n h (by decide)
theorem tp9 {S : List Nat} {e b : Bool} (h : tpb S) : tpn 9 (cst S e b) := by
  unfold cst
  cases b with
  | true => exact tpn_s (by decide) (by decide)
  | false =>
    rw [show List.replicate false.toNat 10 = [] from rfl, List.append_nil]
    cases e with
    | true => exact tpn_s (by decide) (by decide)
    | false =>
      rw [show List.replicate false.toNat 11 = [] from rfl, List.append_nil]
      exact tpb_n h (by decide)
theorem l_mods_if {e : Bool} {c : List lOp} {o : Nat} (h : o ≠ 2) : l_mods (if e = true then c ++ [(o, 0)] else c) = l_mods c ++ List.replicate e.toNat (l_mo o, 0) := by
  cases e with
  | true => rw [if_pos rfl, lmo h]; rfl
  | false => rw [if_neg (by decide)]; exact (List.append_nil _).symm
/-- what comes out, or how it goes on -/
def okA (b : Nat → Nat) (k : Nat) (v : Int32) (M0 : nM) (F : Option (Int32 × nM)) (r : tR) (K : nM → Nat → List lOp → Prop) : Prop := (∀ x, r = .inl x → ∃ M1 : nM, F = some (-1, me b k v M1 x.1 x.2.1 (l_mods x.2.2)) ∧ FR M0 M1) ∧ (∀ j' c', r = .inr (j', c') → ∃ M1 : nM, FR M0 M1 ∧ K M1 j' c')
theorem inl_inj {a x : Nat × Nat × List lOp} (h : (Sum.inl a : tR) = .inl x) : a = x := by
  cases h
  rfl
theorem inr_inl {a : Nat × List lOp} {x : Nat × Nat × List lOp} (h : (Sum.inr a : tR) = .inl x) : False := by
  cases h
theorem okA_l {b : Nat → Nat} {k : Nat} {v : Int32} {M0 M1 : nM} {F : Option (Int32 × nM)} {x : Nat × Nat × List lOp} {K : nM → Nat → List lOp → Prop} (h : F = some (-1, me b k v M1 x.1 x.2.1 (l_mods x.2.2))) (hF : FR M0 M1) : okA b k v M0 F (.inl x) K := ⟨fun y hy => ⟨M1, by rw [← inl_inj hy]; exact h, hF⟩, fun j c q => (inl_inr q).elim⟩
theorem okA_r {b : Nat → Nat} {k j : Nat} {v : Int32} {M0 M1 : nM} {F : Option (Int32 × nM)} {c : List lOp} {K : nM → Nat → List lOp → Prop} (h : K M1 j c) (hF : FR M0 M1) : okA b k v M0 F (.inr (j, c)) K := ⟨fun y hy => (inr_inl hy).elim, fun j' c' q => by
  have e := inr_inj q
  have e1 : j = j' := congrArg Prod.fst e
  have e2 : c = c' := congrArg Prod.snd e
  subst e1
  subst e2
  exact ⟨M1, hF, h⟩⟩
theorem c_R {b : Nat → Nat} {k n N : Nat} {v : Int32} (hN : 1000 ≤ N) (hT : MT b k n) : ∀ d : Nat, (∀ (f br o m j : Nat) (S : List Nat) (M0 : nM) (c : List lOp) (e b' : Bool), MB b k M0 → PSt M0 (S ++ List.replicate m 9) o → tpn 9 S → m ≤ o → br ≤ o → o ≤ 8 → S.length + m ≤ 3 * o + 2 → j ≤ n → 2 * n + 1 ≤ 2 * j + d → n < j + f → lm c + m ≤ j → okA b k v M0 (fX12_readAny_9 N f (nI br) (1 : Int32) (ms b k v M0 j (l_mods c))) (sp_B (tkT b k) d 0 e b' o j c) (fun M1 j' c' => PSt M1 S (o - m) ∧ ∃ f', n < j' + f' ∧ fX12_readAny_9 N f (nI br) (1 : Int32) (ms b k v M0 j (l_mods c)) = fX12_readAny_9 N f' (nI br) (0 : Int32) (ms b k v M1 j' (l_mods c' ++ List.replicate m (9, 0))))) ∧ (∀ (f br o j : Nat) (S : List Nat) (M0 : nM) (c : List lOp) (e b' : Bool), MB b k M0 → PSt M0 (cst S e b') o → tpb S → br ≤ o → o ≤ 8 → S.length ≤ 3 * o → j ≤ n → 2 * n + 2 ≤ 2 * j + d → n < j + f → lm c + e.toNat + b'.toNat ≤ j → okA b k v M0 (fX12_readAny_9 N f (nI br) (1 : Int32) (ms b k v M0 j (l_mods c))) (sp_B (tkT b k) d 1 e b' o j c) (fun M1 j' c' => PSt M1 S o ∧ ∃ f', n < j' + f' + 1 ∧ fX12_readAny_9 N f (nI br) (1 : Int32) (ms b k v M0 j (l_mods c)) = raF N f' (nI br) (0 : Int32) (ms b k v M1 j' (l_mods c')))) := by
  obtain ⟨h, h1⟩ := id hT
  have hn := h.1
  intro d
  induction d with
  | zero => exact ⟨fun f br o m j S M0 c e b' _ _ _ _ _ _ _ hj hd => absurd hd (by omega), fun f br o j S M0 c e b' _ _ _ _ _ _ hj hd => absurd hd (by omega)⟩
  | succ d ih =>
    obtain ⟨ih0, ih1⟩ := ih
    refine ⟨fun f br o m j S M0 c e b' hM hP ht hm hbr ho hS hj hd hf hc => ?_, fun f br o j S M0 c e b' hM hP ht hbr ho hS hj hd hf hc => ?_⟩
    · obtain ⟨f, rfl⟩ : ∃ g, f = g + 1 := ⟨f - 1, by omega⟩
      have e30 : ms b k v M0 j (l_mods c) 107 30 = nI o := by rw [ms_7o (by omega) (by decide)]; exact hP.2.1
      rw [sp_B0, ra1, show (6 : Int32) = nI 6 from rfl, e_mW h hj (by decide), Option.bind_some]
      by_cases z : isW (tkT b k) j 6
      · have hl := tk_W h hj z
        rw [decide_eq_true z, if_pos (show ¬ (cb true : Int32) = 0 by decide), if_pos z]
        show okA b k v M0 (fX12_readAny_33 N (fun x1 x2 M => fX12_readAny_9 N f x1 x2 M) (nI br) (1 : Int32) (cb true) (ms b k v M0 j (l_mods c))) _ (fun M1 j' c' => PSt M1 S (o - m) ∧ ∃ f', n < j' + f' ∧ fX12_readAny_33 N (fun x1 x2 M => fX12_readAny_9 N f x1 x2 M) (nI br) (1 : Int32) (cb true) (ms b k v M0 j (l_mods c)) = fX12_readAny_9 N f' (nI br) (0 : Int32) (ms b k v M1 j' (l_mods c' ++ List.replicate m (9, 0))))
        rw [r33_t, e30]
        by_cases z8 : 8 ≤ o
        · rw [if_neg (not_not_intro (show nI o = (8 : Int32) by rw [show o = 8 by omega]; rfl)), if_pos z8]
          exact okA_l (e_ers2 3) (FR_r _)
        · rw [if_pos (show ¬ nI o = (8 : Int32) from fun q => by have := (nI_eq (b := 8) (by omega) (by decide)).mp q; omega), if_neg z8, nI_1, ms_up (by decide) (by decide) (fun _ => ⟨by omega, by decide⟩)]
          obtain ⟨M1, a1, a2, a3⟩ := e_wai (b := b) (k := k) (j := j) (x := 9) (v := v) (c := l_mods c) (PSt_o (o' := o + 1) hP) (by rw [List.length_append, List.length_replicate]; omega)
          have a1' : fX12_waits (9 : Int32) (ms b k v (n_up M0 107 30 (nI (o + 1))) j (l_mods c)) = some ((), ms b k v M1 j (l_mods c)) := a1
          have hF := FR_t FR_30 a3
          have hM1 := FR_M hF hM
          rw [a1', Option.bind_some]
          show okA b k v M0 ((fX12_reads_all N (ms b k v M1 j (l_mods c))).bind fun p2 => fX12_readAny_9 N f (nI br) (1 : Int32) p2.2) _ (fun M1' j' c' => PSt M1' S (o - m) ∧ ∃ f', n < j' + f' ∧ ((fX12_reads_all N (ms b k v M1 j (l_mods c))).bind fun p2 => fX12_readAny_9 N f (nI br) (1 : Int32) p2.2) = _)
          rw [e_rds hN h1 hM1 hj, nx_l hl, Option.bind_some]
          show okA b k v M0 (fX12_readAny_9 N f (nI br) (1 : Int32) (ms b k v M1 (j + 1) (l_mods c))) _ (fun M1' j' c' => PSt M1' S (o - m) ∧ ∃ f', n < j' + f' ∧ fX12_readAny_9 N f (nI br) (1 : Int32) (ms b k v M1 (j + 1) (l_mods c)) = _)
          have r := ih0 f br (o + 1) (m + 1) (j + 1) S M1 c false false hM1 (by rw [List.replicate_succ', ← List.append_assoc]; exact a2) ht (by omega) (by omega) (by omega) (by omega) hl (by omega) (by omega) (by omega)
          cases hr : sp_B (tkT b k) d 0 false false (o + 1) (j + 1) c with
          | inl x =>
            obtain ⟨M2, b1, b2⟩ := r.1 x hr
            exact okA_l b1 (FR_t hF b2)
          | inr x =>
            obtain ⟨j2, c2⟩ := x
            obtain ⟨M2, b1, b2, f2, b3, b4⟩ := r.2 j2 c2 hr
            rw [rb_r]
            refine okA_r ⟨by rw [show o - m = o + 1 - (m + 1) by omega]; exact b2, f2, b3, ?_⟩ (FR_t hF b1)
            rw [b4, lmo (by decide), List.append_assoc]
            rfl
      · rw [decide_eq_false z, if_neg (show ¬ ¬ (cb false : Int32) = 0 by decide), if_neg z]
        show okA b k v M0 ((fX12_isSign (40 : Int32) (ms b k v M0 j (l_mods c))).bind fun p20 => if p20.1 = 0 then (fX12_readCompared N p20.2).bind fun p21 => if ¬ p21.1 = (-1 : Int32) then (fX12_settles_all N (9 : Int32) p21.2).bind fun p22 => fX12_readAny_9 N f (nI br) (0 : Int32) p22.2 else some ((-1 : Int32), p21.2) else fX12_readAny_33 N (fun x1 x2 M => fX12_readAny_9 N f x1 x2 M) (nI br) (1 : Int32) (cb false) p20.2) _ (fun M1 j' c' => PSt M1 S (o - m) ∧ ∃ f', n < j' + f' ∧ ((fX12_isSign (40 : Int32) (ms b k v M0 j (l_mods c))).bind fun p20 => if p20.1 = 0 then (fX12_readCompared N p20.2).bind fun p21 => if ¬ p21.1 = (-1 : Int32) then (fX12_settles_all N (9 : Int32) p21.2).bind fun p22 => fX12_readAny_9 N f (nI br) (0 : Int32) p22.2 else some ((-1 : Int32), p21.2) else fX12_readAny_33 N (fun x1 x2 M => fX12_readAny_9 N f x1 x2 M) (nI br) (1 : Int32) (cb false) p20.2) = fX12_readAny_9 N f' (nI br) (0 : Int32) (ms b k v M1 j' (l_mods c' ++ List.replicate m (9, 0))))
        rw [show (40 : Int32) = nI 40 from rfl, e_mS h hj (by decide), Option.bind_some]
        by_cases y : isS (tkT b k) j 40
        · have hl := tk_S h hj y
          rw [decide_eq_true y, if_neg (show ¬ (cb true : Int32) = 0 by decide), if_pos y]
          show okA b k v M0 (fX12_readAny_33 N (fun x1 x2 M => fX12_readAny_9 N f x1 x2 M) (nI br) (1 : Int32) (cb false) (ms b k v M0 j (l_mods c))) _ (fun M1 j' c' => PSt M1 S (o - m) ∧ ∃ f', n < j' + f' ∧ fX12_readAny_33 N (fun x1 x2 M => fX12_readAny_9 N f x1 x2 M) (nI br) (1 : Int32) (cb false) (ms b k v M0 j (l_mods c)) = fX12_readAny_9 N f' (nI br) (0 : Int32) (ms b k v M1 j' (l_mods c' ++ List.replicate m (9, 0))))
          rw [r33_f, e30]
          by_cases z8 : 8 ≤ o
          · rw [if_neg (not_not_intro (show nI o = (8 : Int32) by rw [show o = 8 by omega]; rfl)), if_pos z8]
            exact okA_l (e_ers2 3) (FR_r _)
          · rw [if_pos (show ¬ nI o = (8 : Int32) from fun q => by have := (nI_eq (b := 8) (by omega) (by decide)).mp q; omega), if_neg z8, nI_1, nI_1, ms_up (by decide) (by decide) (fun _ => ⟨by omega, by decide⟩)]
            obtain ⟨M1, a1, a2, a3⟩ := e_wai (b := b) (k := k) (j := j) (x := 12) (v := v) (c := l_mods c) (PSt_o (o' := o + 1) hP) (by rw [List.length_append, List.length_replicate]; omega)
            have a1' : fX12_waits (12 : Int32) (ms b k v (n_up M0 107 30 (nI (o + 1))) j (l_mods c)) = some ((), ms b k v M1 j (l_mods c)) := a1
            have hF := FR_t FR_30 a3
            have hM1 := FR_M hF hM
            rw [a1', Option.bind_some]
            show okA b k v M0 ((fX12_reads_all N (ms b k v M1 j (l_mods c))).bind fun p2 => fX12_readAny_9 N f (nI (br + 1)) (1 : Int32) p2.2) _ (fun M1' j' c' => PSt M1' S (o - m) ∧ ∃ f', n < j' + f' ∧ ((fX12_reads_all N (ms b k v M1 j (l_mods c))).bind fun p2 => fX12_readAny_9 N f (nI (br + 1)) (1 : Int32) p2.2) = _)
            rw [e_rds hN h1 hM1 hj, nx_l hl, Option.bind_some]
            show okA b k v M0 (fX12_readAny_9 N f (nI (br + 1)) (1 : Int32) (ms b k v M1 (j + 1) (l_mods c))) _ (fun M1' j' c' => PSt M1' S (o - m) ∧ ∃ f', n < j' + f' ∧ fX12_readAny_9 N f (nI (br + 1)) (1 : Int32) (ms b k v M1 (j + 1) (l_mods c)) = _)
            have a2' : PSt M1 (cst (S ++ List.replicate m 9 ++ [12]) false false) (o + 1) := by
              have : cst (S ++ List.replicate m 9 ++ [12]) false false = S ++ List.replicate m 9 ++ [12] := by
                unfold cst
                exact (List.append_nil _).trans (List.append_nil _)
              rw [this]
              exact a2
            have r := ih1 f (br + 1) (o + 1) (j + 1) (S ++ List.replicate m 9 ++ [12]) M1 c false false hM1 a2' tpb_s (by omega) (by omega) (by rw [List.length_append, List.length_append, List.length_replicate]; show S.length + m + 1 ≤ _; omega) hl (by omega) (by omega) (by show lm c + 0 + 0 ≤ _; omega)
            have gg := sp_cd_g (d := d) (o := o + 1) (j := j + 1) (c := c) h (by omega) hl
            cases hr : sp_B (tkT b k) d 1 false false (o + 1) (j + 1) c with
            | inl x =>
              obtain ⟨M2, b1, b2⟩ := r.1 x hr
              exact okA_l b1 (FR_t hF b2)
            | inr x =>
              obtain ⟨j2, c2⟩ := x
              obtain ⟨M2, b1, b2, f2, b3, b4⟩ := r.2 j2 c2 hr
              obtain ⟨g1, g2, D1, g3, g4, g5⟩ := gg j2 c2 hr
              have hc2 : lm c2 + m + 1 ≤ j2 := by rw [g3, lm_a]; omega
              have hc3 : (l_mods c2).length + m + 1 ≤ j2 := hc2
              have hF2 := FR_t hF b1
              have hM2 := FR_M hF2 hM
              rw [rb_r, b4]
              unfold raF
              rw [if_pos (show ¬ nI (br + 1) = 0 from nI_ne0 (by omega) (by omega)), show (41 : Int32) = nI 41 from rfl, e_mS h g2 (by decide), Option.bind_some]
              by_cases w : isS (tkT b k) j2 41
              · have hl2 := tk_S h g2 w
                have e32 : ms b k v M2 j2 (l_mods c2) 107 32 = nI ((S ++ List.replicate m 9).length + 1) := by
                  rw [ms_7o (by omega) (by decide), b2.1, List.length_append]; rfl
                have e30' : n_up (ms b k v M2 j2 (l_mods c2)) 107 32 (nI (S ++ List.replicate m 9).length) 107 30 = nI (o + 1) := by
                  rw [n_up_eq, upd_ne (by decide), ms_7o (by omega) (by decide)]; exact b2.2.1
                rw [decide_eq_true w, if_pos (show ¬ (cb true : Int32) = 0 by decide), if_pos w]
                show okA b k v M0 ((fX12_settles_all N (9 : Int32) (n_up (n_up (ms b k v M2 j2 (l_mods c2)) 107 32 ((ms b k v M2 j2 (l_mods c2) 107 32) - (1 : Int32))) 107 30 ((n_up (ms b k v M2 j2 (l_mods c2)) 107 32 ((ms b k v M2 j2 (l_mods c2) 107 32) - (1 : Int32)) 107 30) - (1 : Int32)))).bind fun p9 => (fX12_reads_all N p9.2).bind fun p10 => fX12_readAny_9 N f2 (nI (br + 1) - (1 : Int32)) (0 : Int32) p10.2) _ (fun M1' j' c' => PSt M1' S (o - m) ∧ ∃ f', n < j' + f' ∧ ((fX12_settles_all N (9 : Int32) (n_up (n_up (ms b k v M2 j2 (l_mods c2)) 107 32 ((ms b k v M2 j2 (l_mods c2) 107 32) - (1 : Int32))) 107 30 ((n_up (ms b k v M2 j2 (l_mods c2)) 107 32 ((ms b k v M2 j2 (l_mods c2) 107 32) - (1 : Int32)) 107 30) - (1 : Int32)))).bind fun p9 => (fX12_reads_all N p9.2).bind fun p10 => fX12_readAny_9 N f2 (nI (br + 1) - (1 : Int32)) (0 : Int32) p10.2) = _)
                rw [e32, nI_pred, e30', nI_pred, nI_pred, ms_up (by decide) (by decide) (fun _ => ⟨by omega, by decide⟩), ms_up (by decide) (by decide) (fun _ => ⟨by omega, by decide⟩)]
                have hP3 : PSt (n_up (n_up M2 107 32 (nI (S ++ List.replicate m 9).length)) 107 30 (nI o)) (S ++ List.replicate m 9) o := PSt_o (PSt_p b2)
                obtain ⟨M3, s1, s2, s3⟩ := c_set (b := b) (k := k) (N := N) (j := j2) (v := v) (Or.inl rfl) m N o (n_up (n_up M2 107 32 (nI (S ++ List.replicate m 9).length)) 107 30 (nI o)) S (l_mods c2) (by omega) hP3 ht (by omega) (by omega) (fun _ => hm)
                have s1' : fX12_settles_all N (9 : Int32) (ms b k v (n_up (n_up M2 107 32 (nI (S ++ List.replicate m 9).length)) 107 30 (nI o)) j2 (l_mods c2)) = some ((), ms b k v M3 j2 (l_mods c2 ++ List.replicate m (9, 0))) := s1
                have hF3 := FR_t hF2 (FR_t (FR_t FR_32 FR_30) s3)
                rw [s1', Option.bind_some]
                show okA b k v M0 ((fX12_reads_all N (ms b k v M3 j2 (l_mods c2 ++ List.replicate m (9, 0)))).bind fun p10 => fX12_readAny_9 N f2 (nI br) (0 : Int32) p10.2) _ (fun M1' j' c' => PSt M1' S (o - m) ∧ ∃ f', n < j' + f' ∧ ((fX12_reads_all N (ms b k v M3 j2 (l_mods c2 ++ List.replicate m (9, 0)))).bind fun p10 => fX12_readAny_9 N f2 (nI br) (0 : Int32) p10.2) = _)
                rw [e_rds hN h1 (FR_M hF3 hM) g2, nx_l hl2, Option.bind_some]
                exact okA_r ⟨by rw [if_pos rfl] at s2; exact s2, f2, by omega, rfl⟩ hF3
              · rw [decide_eq_false w, if_neg (show ¬ ¬ (cb false : Int32) = 0 by decide), if_neg w]
                exact okA_l (e_ers2 1) hF2
        · rw [decide_eq_false y, if_pos (show (cb false : Int32) = 0 from rfl), if_neg y]
          show okA b k v M0 ((fX12_readCompared N (ms b k v M0 j (l_mods c))).bind fun p21 => if ¬ p21.1 = (-1 : Int32) then (fX12_settles_all N (9 : Int32) p21.2).bind fun p22 => fX12_readAny_9 N f (nI br) (0 : Int32) p22.2 else some ((-1 : Int32), p21.2)) _ (fun M1 j' c' => PSt M1 S (o - m) ∧ ∃ f', n < j' + f' ∧ ((fX12_readCompared N (ms b k v M0 j (l_mods c))).bind fun p21 => if ¬ p21.1 = (-1 : Int32) then (fX12_settles_all N (9 : Int32) p21.2).bind fun p22 => fX12_readAny_9 N f (nI br) (0 : Int32) p22.2 else some ((-1 : Int32), p21.2)) = _)
          rw [e_cmM hN hT hM hj (by omega)]
          have gg := sp_cm_g (c := c) h hj
          cases hr : sp_cm (tkT b k) j c with
          | inl x =>
            rw [mR_l, Option.bind_some, if_neg (show ¬ ¬ (-1 : Int32) = -1 by decide)]
            exact okA_l rfl (FR_r _)
          | inr x =>
            obtain ⟨j2, c2⟩ := x
            obtain ⟨g1, g2, D1, g3, g4, g5⟩ := gg j2 c2 hr
            have hc2 : lm c2 + m ≤ j2 := by rw [g3, lm_a]; omega
            have hc3 : (l_mods c2).length + m ≤ j2 := hc2
            rw [mR_r, Option.bind_some, if_pos (show ¬ (0 : Int32) = -1 by decide)]
            obtain ⟨M3, s1, s2, s3⟩ := c_set (b := b) (k := k) (N := N) (j := j2) (v := v) (Or.inl rfl) m N o M0 S (l_mods c2) (by omega) hP ht (by omega) (by omega) (fun _ => hm)
            have s1' : fX12_settles_all N (9 : Int32) (ms b k v M0 j2 (l_mods c2)) = some ((), ms b k v M3 j2 (l_mods c2 ++ List.replicate m (9, 0))) := s1
            show okA b k v M0 ((fX12_settles_all N (9 : Int32) (ms b k v M0 j2 (l_mods c2))).bind fun p22 => fX12_readAny_9 N f (nI br) (0 : Int32) p22.2) _ (fun M1 j' c' => PSt M1 S (o - m) ∧ ∃ f', n < j' + f' ∧ ((fX12_settles_all N (9 : Int32) (ms b k v M0 j2 (l_mods c2))).bind fun p22 => fX12_readAny_9 N f (nI br) (0 : Int32) p22.2) = _)
            rw [s1', Option.bind_some]
            exact okA_r ⟨by rw [if_pos rfl] at s2; exact s2, f, by omega, rfl⟩ s3
    · rw [sp_B1]
      have hlen : (cst S e b').length = S.length + e.toNat + b'.toNat := by
        unfold cst
        rw [List.length_append, List.length_append, List.length_replicate, List.length_replicate]
      have he1 : e.toNat ≤ 1 := Bool.toNat_le e
      have hb1 : b'.toNat ≤ 1 := Bool.toNat_le b'
      have r := ih0 f br o 0 j (cst S e b') M0 c false false hM (by rw [show List.replicate 0 9 = [] from rfl, List.append_nil]; exact hP) (tp9 ht) (by omega) hbr ho (by omega) hj (by omega) hf (by omega)
      have gg := (sp_B_g h d).1 false false o j c ho hj
      cases hr : sp_B (tkT b k) d 0 false false o j c with
      | inl x =>
        obtain ⟨M2, b1, b2⟩ := r.1 x hr
        exact okA_l b1 b2
      | inr x =>
        obtain ⟨j1, c1⟩ := x
        obtain ⟨M1, b1, b2, f1, b3, b4⟩ := r.2 j1 c1 hr
        obtain ⟨g1, g2, D1, g3, g4, g5⟩ := gg j1 c1 hr
        have hc1 : lm c1 + e.toNat + b'.toNat ≤ j1 := by rw [g3, lm_a]; omega
        have hc1' : (l_mods c1).length + e.toNat + b'.toNat ≤ j1 := hc1
        have hM1 := FR_M b1 hM
        rw [show List.replicate 0 ((9, 0) : Nat × Nat) = [] from rfl, List.append_nil] at b4
        rw [rb_r, b4]
        obtain ⟨f1, rfl⟩ : ∃ g, f1 = g + 1 := ⟨f1 - 1, by omega⟩
        rw [ra0, show (5 : Int32) = nI 5 from rfl, e_mW h g2 (by decide), Option.bind_some]
        -- the and that waited
        obtain ⟨M2, s1, s2, s3⟩ := c_set (b := b) (k := k) (N := N) (j := j1) (v := v) (Or.inr (Or.inl rfl)) b'.toNat N o M1 (S ++ List.replicate e.toNat 11) (l_mods c1) (by omega) b2 (tp11 ht) (by omega) (by rw [List.length_append, List.length_replicate]; omega) (fun q => absurd q (by decide))
        have s1' : fX12_settles_all N (10 : Int32) (ms b k v M1 j1 (l_mods c1)) = some ((), ms b k v M2 j1 (l_mods (if b' = true then c1 ++ [(10, 0)] else c1))) := by
          rw [l_mods_if (by decide)]
          exact s1
        rw [if_neg (by decide)] at s2
        have hF2 := FR_t b1 s3
        have hM2 := FR_M hF2 hM
        obtain ⟨c2, hc2⟩ : ∃ c2, c2 = if b' = true then c1 ++ [(10, 0)] else c1 := ⟨_, rfl⟩
        have hl2 : lm c2 + e.toNat ≤ j1 := by
          rw [hc2, lm_if (by decide)]
          cases b' with
          | true => rw [if_pos rfl]; have : lm c1 + e.toNat + 1 ≤ j1 := hc1; omega
          | false => rw [if_neg (by decide)]; omega
        have hl2' : (l_mods c2).length + e.toNat ≤ j1 := hl2
        rw [← hc2] at s1' ⊢
        by_cases w1 : isW (tkT b k) j1 5
        · have hl := tk_W h g2 w1
          rw [decide_eq_true w1, if_neg (show ¬ (cb true : Int32) = 0 by decide), if_pos w1]
          show okA b k v M0 ((fX12_settles_all N (10 : Int32) (ms b k v M1 j1 (l_mods c1))).bind fun p16 => (fX12_waits (10 : Int32) p16.2).bind fun p17 => (fX12_reads_all N p17.2).bind fun p18 => fX12_readAny_9 N f1 (nI br) (1 : Int32) p18.2) _ (fun M1' j' c' => PSt M1' S o ∧ ∃ f', n < j' + f' + 1 ∧ ((fX12_settles_all N (10 : Int32) (ms b k v M1 j1 (l_mods c1))).bind fun p16 => (fX12_waits (10 : Int32) p16.2).bind fun p17 => (fX12_reads_all N p17.2).bind fun p18 => fX12_readAny_9 N f1 (nI br) (1 : Int32) p18.2) = _)
          obtain ⟨M3, a1, a2, a3⟩ := e_wai (b := b) (k := k) (j := j1) (x := 10) (v := v) (c := l_mods c2) s2 (by rw [List.length_append, List.length_replicate]; omega)
          have a1' : fX12_waits (10 : Int32) (ms b k v M2 j1 (l_mods c2)) = some ((), ms b k v M3 j1 (l_mods c2)) := a1
          have hF3 := FR_t hF2 a3
          have hM3 := FR_M hF3 hM
          rw [s1', Option.bind_some]
          show okA b k v M0 ((fX12_waits (10 : Int32) (ms b k v M2 j1 (l_mods c2))).bind fun p17 => (fX12_reads_all N p17.2).bind fun p18 => fX12_readAny_9 N f1 (nI br) (1 : Int32) p18.2) _ (fun M1' j' c' => PSt M1' S o ∧ ∃ f', n < j' + f' + 1 ∧ ((fX12_waits (10 : Int32) (ms b k v M2 j1 (l_mods c2))).bind fun p17 => (fX12_reads_all N p17.2).bind fun p18 => fX12_readAny_9 N f1 (nI br) (1 : Int32) p18.2) = _)
          rw [a1', Option.bind_some]
          show okA b k v M0 ((fX12_reads_all N (ms b k v M3 j1 (l_mods c2))).bind fun p18 => fX12_readAny_9 N f1 (nI br) (1 : Int32) p18.2) _ (fun M1' j' c' => PSt M1' S o ∧ ∃ f', n < j' + f' + 1 ∧ ((fX12_reads_all N (ms b k v M3 j1 (l_mods c2))).bind fun p18 => fX12_readAny_9 N f1 (nI br) (1 : Int32) p18.2) = _)
          rw [e_rds hN h1 hM3 g2, nx_l hl, Option.bind_some]
          have r2 := ih1 f1 br o (j1 + 1) S M3 c2 e true hM3 a2 ht hbr ho hS hl (by omega) (by omega) (by show lm c2 + e.toNat + 1 ≤ _; omega)
          exact ⟨fun x hx => by
            obtain ⟨M4, q1, q2⟩ := r2.1 x hx
            exact ⟨M4, q1, FR_t hF3 q2⟩, fun j' c' hx => by
            obtain ⟨M4, q1, q2⟩ := r2.2 j' c' hx
            exact ⟨M4, FR_t hF3 q1, q2⟩⟩
        · rw [decide_eq_false w1, if_pos (show (cb false : Int32) = 0 from rfl), if_neg w1]
          show okA b k v M0 ((fX12_isWord (4 : Int32) (ms b k v M1 j1 (l_mods c1))).bind fun p2 => if p2.1 = 0 then (fX12_settles_all N (10 : Int32) p2.2).bind fun p3 => (fX12_settles_all N (11 : Int32) p3.2).bind fun p4 => raF N f1 (nI br) (0 : Int32) p4.2 else (fX12_settles_all N (10 : Int32) p2.2).bind fun p12 => (fX12_settles_all N (11 : Int32) p12.2).bind fun p13 => (fX12_waits (11 : Int32) p13.2).bind fun p14 => (fX12_reads_all N p14.2).bind fun p15 => fX12_readAny_9 N f1 (nI br) (1 : Int32) p15.2) _ (fun M1' j' c' => PSt M1' S o ∧ ∃ f', n < j' + f' + 1 ∧ ((fX12_isWord (4 : Int32) (ms b k v M1 j1 (l_mods c1))).bind fun p2 => if p2.1 = 0 then (fX12_settles_all N (10 : Int32) p2.2).bind fun p3 => (fX12_settles_all N (11 : Int32) p3.2).bind fun p4 => raF N f1 (nI br) (0 : Int32) p4.2 else (fX12_settles_all N (10 : Int32) p2.2).bind fun p12 => (fX12_settles_all N (11 : Int32) p12.2).bind fun p13 => (fX12_waits (11 : Int32) p13.2).bind fun p14 => (fX12_reads_all N p14.2).bind fun p15 => fX12_readAny_9 N f1 (nI br) (1 : Int32) p15.2) = _)
          -- the or that waited
          obtain ⟨M3, t1, t2, t3⟩ := c_set (b := b) (k := k) (N := N) (j := j1) (v := v) (Or.inr (Or.inr rfl)) e.toNat N o M2 S (l_mods c2) (by omega) s2 (tpb_n ht (by decide)) (by omega) (by omega) (fun q => absurd q (by decide))
          have t1' : fX12_settles_all N (11 : Int32) (ms b k v M2 j1 (l_mods c2)) = some ((), ms b k v M3 j1 (l_mods (if e = true then c2 ++ [(11, 0)] else c2))) := by
            rw [l_mods_if (by decide)]
            exact t1
          rw [if_neg (by decide)] at t2
          have hF3 := FR_t hF2 t3
          have hM3 := FR_M hF3 hM
          obtain ⟨c3, hc3⟩ : ∃ c3, c3 = if e = true then c2 ++ [(11, 0)] else c2 := ⟨_, rfl⟩
          have hl3 : lm c3 ≤ j1 := by
            rw [hc3, lm_if (by decide)]
            cases e with
            | true => rw [if_pos rfl]; exact hl2
            | false => rw [if_neg (by decide)]; omega
          rw [← hc3] at t1' ⊢
          rw [show (4 : Int32) = nI 4 from rfl, e_mW h g2 (by decide), Option.bind_some]
          by_cases w2 : isW (tkT b k) j1 4
          · have hl := tk_W h g2 w2
            rw [decide_eq_true w2, if_neg (show ¬ (cb true : Int32) = 0 by decide), if_pos w2]
            show okA b k v M0 ((fX12_settles_all N (10 : Int32) (ms b k v M1 j1 (l_mods c1))).bind fun p12 => (fX12_settles_all N (11 : Int32) p12.2).bind fun p13 => (fX12_waits (11 : Int32) p13.2).bind fun p14 => (fX12_reads_all N p14.2).bind fun p15 => fX12_readAny_9 N f1 (nI br) (1 : Int32) p15.2) _ (fun M1' j' c' => PSt M1' S o ∧ ∃ f', n < j' + f' + 1 ∧ ((fX12_settles_all N (10 : Int32) (ms b k v M1 j1 (l_mods c1))).bind fun p12 => (fX12_settles_all N (11 : Int32) p12.2).bind fun p13 => (fX12_waits (11 : Int32) p13.2).bind fun p14 => (fX12_reads_all N p14.2).bind fun p15 => fX12_readAny_9 N f1 (nI br) (1 : Int32) p15.2) = _)
            obtain ⟨M4, a1, a2, a3⟩ := e_wai (b := b) (k := k) (j := j1) (x := 11) (v := v) (c := l_mods c3) t2 (by omega)
            have a1' : fX12_waits (11 : Int32) (ms b k v M3 j1 (l_mods c3)) = some ((), ms b k v M4 j1 (l_mods c3)) := a1
            have hF4 := FR_t hF3 a3
            have hM4 := FR_M hF4 hM
            rw [s1', Option.bind_some]
            show okA b k v M0 ((fX12_settles_all N (11 : Int32) (ms b k v M2 j1 (l_mods c2))).bind fun p13 => (fX12_waits (11 : Int32) p13.2).bind fun p14 => (fX12_reads_all N p14.2).bind fun p15 => fX12_readAny_9 N f1 (nI br) (1 : Int32) p15.2) _ (fun M1' j' c' => PSt M1' S o ∧ ∃ f', n < j' + f' + 1 ∧ ((fX12_settles_all N (11 : Int32) (ms b k v M2 j1 (l_mods c2))).bind fun p13 => (fX12_waits (11 : Int32) p13.2).bind fun p14 => (fX12_reads_all N p14.2).bind fun p15 => fX12_readAny_9 N f1 (nI br) (1 : Int32) p15.2) = _)
            rw [t1', Option.bind_some]
            show okA b k v M0 ((fX12_waits (11 : Int32) (ms b k v M3 j1 (l_mods c3))).bind fun p14 => (fX12_reads_all N p14.2).bind fun p15 => fX12_readAny_9 N f1 (nI br) (1 : Int32) p15.2) _ (fun M1' j' c' => PSt M1' S o ∧ ∃ f', n < j' + f' + 1 ∧ ((fX12_waits (11 : Int32) (ms b k v M3 j1 (l_mods c3))).bind fun p14 => (fX12_reads_all N p14.2).bind fun p15 => fX12_readAny_9 N f1 (nI br) (1 : Int32) p15.2) = _)
            rw [a1', Option.bind_some]
            show okA b k v M0 ((fX12_reads_all N (ms b k v M4 j1 (l_mods c3))).bind fun p15 => fX12_readAny_9 N f1 (nI br) (1 : Int32) p15.2) _ (fun M1' j' c' => PSt M1' S o ∧ ∃ f', n < j' + f' + 1 ∧ ((fX12_reads_all N (ms b k v M4 j1 (l_mods c3))).bind fun p15 => fX12_readAny_9 N f1 (nI br) (1 : Int32) p15.2) = _)
            rw [e_rds hN h1 hM4 g2, nx_l hl, Option.bind_some]
            have a2' : PSt M4 (cst S true false) o := by
              have : cst S true false = S ++ [11] := by
                unfold cst
                exact List.append_nil _
              rw [this]
              exact a2
            have r2 := ih1 f1 br o (j1 + 1) S M4 c3 true false hM4 a2' ht hbr ho hS hl (by omega) (by omega) (by show lm c3 + 1 + 0 ≤ _; omega)
            exact ⟨fun x hx => by
              obtain ⟨M5, q1, q2⟩ := r2.1 x hx
              exact ⟨M5, q1, FR_t hF4 q2⟩, fun j' c' hx => by
              obtain ⟨M5, q1, q2⟩ := r2.2 j' c' hx
              exact ⟨M5, FR_t hF4 q1, q2⟩⟩
          · rw [decide_eq_false w2, if_pos (show (cb false : Int32) = 0 from rfl), if_neg w2]
            show okA b k v M0 ((fX12_settles_all N (10 : Int32) (ms b k v M1 j1 (l_mods c1))).bind fun p3 => (fX12_settles_all N (11 : Int32) p3.2).bind fun p4 => raF N f1 (nI br) (0 : Int32) p4.2) _ (fun M1' j' c' => PSt M1' S o ∧ ∃ f', n < j' + f' + 1 ∧ ((fX12_settles_all N (10 : Int32) (ms b k v M1 j1 (l_mods c1))).bind fun p3 => (fX12_settles_all N (11 : Int32) p3.2).bind fun p4 => raF N f1 (nI br) (0 : Int32) p4.2) = _)
            rw [s1', Option.bind_some]
            show okA b k v M0 ((fX12_settles_all N (11 : Int32) (ms b k v M2 j1 (l_mods c2))).bind fun p4 => raF N f1 (nI br) (0 : Int32) p4.2) _ (fun M1' j' c' => PSt M1' S o ∧ ∃ f', n < j' + f' + 1 ∧ ((fX12_settles_all N (11 : Int32) (ms b k v M2 j1 (l_mods c2))).bind fun p4 => raF N f1 (nI br) (0 : Int32) p4.2) = _)
            rw [t1', Option.bind_some]
            exact okA_r ⟨t2, f1, by omega, rfl⟩ hF3
theorem e_cdM {b : Nat → Nat} {k n N j : Nat} {v : Int32} {M0 : nM} {c : List lOp} (hN : 1000 ≤ N) (hT : MT b k n) (hM : MB b k M0) (hj : j ≤ n) (hc : lm c ≤ j) (h30 : M0 107 30 = 0) : (∀ x, sp_B (tkT b k) 802 1 false false 0 j c = .inl x → ∃ M1 : nM, fX12_readAny N (ms b k v M0 j (l_mods c)) = some (-1, me b k v M1 x.1 x.2.1 (l_mods x.2.2)) ∧ FR M0 M1) ∧ (∀ j' c', sp_B (tkT b k) 802 1 false false 0 j c = .inr (j', c') → ∃ M1 : nM, fX12_readAny N (ms b k v M0 j (l_mods c)) = some (0, ms b k v M1 j' (l_mods c')) ∧ FR M0 M1 ∧ M1 107 30 = 0) := by
  have hn := hT.1.1
  have e0 : fX12_readAny N (ms b k v M0 j (l_mods c)) = fX12_readAny_9 N N (nI 0) (1 : Int32) (ms b k v (n_up M0 107 32 (nI 0)) j (l_mods c)) := by
    rw [← ms_up (by decide) (by decide) (fun _ => ⟨by omega, by decide⟩)]
    rfl
  have hP : PSt (n_up M0 107 32 (nI 0)) (cst [] false false) 0 := ⟨by rw [n_up_eq, upd_eq]; rfl, by rw [n_up_eq, upd_ne (by decide), h30]; rfl, fun i x hx => absurd hx (by show ¬ ([] : List Nat)[i]? = some x; simp)⟩
  have r := (c_R (v := v) hN hT 802).2 N 0 0 j [] (n_up M0 107 32 (nI 0)) c false false (FR_M FR_32 hM) hP (fun y hy => absurd hy (by simp)) (by decide) (by decide) (by decide) hj (by omega) (by omega) (by show lm c + 0 + 0 ≤ j; omega)
  rw [e0]
  refine ⟨fun x hx => ?_, fun j' c' hx => ?_⟩
  · obtain ⟨M1, q1, q2⟩ := r.1 x hx
    exact ⟨M1, q1, FR_t FR_32 q2⟩
  · obtain ⟨M1, q1, q2, f', q3, q4⟩ := r.2 j' c' hx
    exact ⟨M1, q4, FR_t FR_32 q1, q2.2.1⟩
