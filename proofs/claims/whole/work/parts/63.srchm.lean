/-! ===== the model searches; who can put and search ===== -/
def sm3 (N f : Nat) (x1 x2 x3 x4 : Int32) (p7 : Unit × nM) : Option (Int32 × nM) := fX12_searches_32 N f x1 x2 (x3 + 1) (x4 + 1) p7.2
def sm2 (N f : Nat) (x1 x2 x3 x4 : Int32) (M5 : nM) : Option (Int32 × nM) := n_chk (n_ib 100 (3 : Int32)) (n_chk (n_ib 100 (3 : Int32)) ((fX12_notes (3 : Int32) x4 x1 (n_up M5 108 (3 : Int32).toNatClampNeg ((M5 108 (3 : Int32).toNatClampNeg) + (1 : Int32)))).bind (sm3 N f x1 x2 x3 x4)))
def sm1 (N f : Nat) (x1 x2 x3 x4 : Int32) (p4 : Int32 × nM) : Option (Int32 × nM) := if ¬ p4.1 = 0 then n_chk (n_ib 100 ((60 : Int32) + x4)) (sm2 N f x1 x2 x3 x4 (n_up p4.2 108 ((60 : Int32) + x4).toNatClampNeg (0 : Int32))) else fX12_searches_32 N f x1 x2 x3 (x4 + 1) p4.2
theorem sm_eq (N f : Nat) (x1 x2 x3 x4 : Int32) (M : nM) : fX12_searches_32 N (f + 1) x1 x2 x3 x4 M = if (M 107 6) ≤ x4 then some (x3, M) else n_chk (n_ib 100 ((4 : Int32) + x2)) (if ¬ (M 108 ((4 : Int32) + x2).toNatClampNeg) = 0 then some (x3, M) else n_chk (n_ib 100 ((28 : Int32) + x4)) (if ¬ (M 108 ((28 : Int32) + x4).toNatClampNeg) = x2 then fX12_searches_32 N f x1 x2 x3 (x4 + 1) M else n_chk (n_ib 100 ((60 : Int32) + x4)) (if (M 108 ((60 : Int32) + x4).toNatClampNeg) = 0 then fX12_searches_32 N f x1 x2 x3 (x4 + 1) M else (fX12_findsOf N x1 x4 x2 M).bind fun p3 => (fX12_comes p3.1 p3.2).bind (sm1 N f x1 x2 x3 x4)))) := rfl
def RK (row : Nat → Int32) : Prop := (∃ k : Nat, k ≤ 150 ∧ row 2 = nI k) ∧ ∀ t, t < 16 → ∃ j : Nat, j < 12 ∧ row (28 + t) = nI j
theorem CD_RK {M0 M : nM} {a n q : Nat} {th : Bool} {row bk : Nat → Int32} (h : CD M0 M a th row bk n q) : RK row := by
  obtain ⟨-, -, hm, -⟩ := h
  refine ⟨r_mov_k hm, fun t ht => ?_⟩
  obtain ⟨j, hj, e⟩ := hm.1.2 t ht
  exact ⟨j, hj, (hm.1.1 t ht).symm.trans e⟩
theorem dM_107 {m : nM} {row bk f S : Nat → Int32} : dM m row bk f S 107 = m 107 := dM_ne (by decide) (by decide) (by decide) (by decide)
theorem c_seM {G : nG} {M0 m : nM} {N n q p pl : Nat} {ls : List lLn} {th : Bool} (hN : 1000 ≤ N) (he : EV G M0 m ls n q) (hth : m 107 5 = cb th) (hp : p < q) (hpl : pl < 12) : ∀ (d i g : Nat) (c : Int32) (row bk f S : Nat → Int32), row (4 + pl) = 0 → (∃ k : Nat, k ≤ 150 ∧ row 2 = nI k) → i + d = n → d < g → ∃ f2 S2 : Nat → Int32, fX12_searches_32 N g (nI p) (nI pl) c (nI i) (dM m row bk f S) = some ((d_se m ls n th p pl d i c row bk).1, dM m (d_se m ls n th p pl d i c row bk).2.1 (d_se m ls n th p pl d i c row bk).2.2 f2 S2) := by
  intro d
  have hn : n ≤ 16 ∧ q ≤ 12 := he.2.1.1
  have s5 : m 107 6 = nI n := he.2.1.2.2.1.1
  induction d with
  | zero =>
    intro i g c row bk f S hl hk hi hg
    obtain ⟨g, rfl⟩ : ∃ g', g = g' + 1 := ⟨g - 1, by omega⟩
    refine ⟨f, S, ?_⟩
    rw [sm_eq, dM_107, s5, if_pos (nI_le (by omega) (by omega))]
    rfl
  | succ d ih =>
    intro i g c row bk f S hl hk hi hg
    obtain ⟨g, rfl⟩ : ∃ g', g = g' + 1 := ⟨g - 1, by omega⟩
    have hi16 : i < 16 := by omega
    have a1 : (28 : Int32) + nI i = nI (28 + i) := nI_add 28 i
    have a2 : (60 : Int32) + nI i = nI (60 + i) := nI_add 60 i
    have a3 : (4 : Int32) + nI pl = nI (4 + pl) := nI_add 4 pl
    have i1 := n_ib_nI (show 28 + i < 100 by omega) (show 100 < 2 ^ 31 by decide)
    have i2 := n_ib_nI (show 60 + i < 100 by omega) (show 100 < 2 ^ 31 by decide)
    have i3 := n_ib_nI (show 4 + pl < 100 by omega) (show 100 < 2 ^ 31 by decide)
    rw [sm_eq, dM_107, s5, if_neg (nI_ge (by omega) (by omega)), a1, a2, a3, i1, i2, i3, n_chk_t, n_chk_t, n_chk_t, nI_clamp (show 28 + i < 2 ^ 31 by omega), nI_clamp (show 60 + i < 2 ^ 31 by omega), nI_clamp (show 4 + pl < 2 ^ 31 by omega), dM_108, if_neg (not_not_intro hl), nI_1]
    unfold d_se
    by_cases hc1 : row (28 + i) = nI pl
    · rw [if_neg (not_not_intro hc1)]
      by_cases hc2 : row (60 + i) = 0
      · rw [if_neg (show ¬ (row (28 + i) = nI pl ∧ row (60 + i) ≠ 0) from fun z => z.2 hc2), if_pos hc2]
        exact ih (i + 1) g c row bk f S hl hk (by omega) (by omega)
      · rw [if_pos (show row (28 + i) = nI pl ∧ row (60 + i) ≠ 0 from ⟨hc1, hc2⟩), if_neg hc2]
        obtain ⟨f3, S3, e3⟩ := c_askM (row := row) (bk := bk) (f := f) (S := S) (w := 2) hN he (by decide) (show p < 12 by omega) hi16 hpl
        obtain ⟨j, hj, ej⟩ := p_ask_b ls (p_F (m 114) (m 115) (m 112) (m 113) row n p i pl) 2
        have ej' : d_ask m ls n row 2 p i pl = nI j := ej
        rw [ej'] at e3
        have e3' : fX12_findsOf N (nI p) (nI i) (nI pl) (dM m row bk f S) = some (nI j, dM m row bk f3 S3) := by
          unfold fX12_findsOf
          have e3b : fX12_lawTells N (nI p) (nI i) (nI pl) 2 1000 (dM m row bk f S) = _ := e3
          rw [e3b, Option.bind_some]
        rw [e3', ej', Option.bind_some, nI_clamp (by omega)]
        show ∃ f2 S2 : Nat → Int32, (fX12_comes (nI j) (dM m row bk f3 S3)).bind (sm1 N g (nI p) (nI pl) c (nI i)) = _
        rw [c_cmM hth hj, Option.bind_some]
        have hk2 := d_kc (th := th) hk
        have hl2 : d_cr th row (4 + pl) = 0 := by rw [d_cr_ne (by omega)]; exact hl
        unfold sm1
        cases hd : d_cb th j row with
        | false =>
          rw [if_neg (show ¬ ¬ (cb false, dM m (d_cr th row) bk f3 S3).1 = 0 from not_not_intro rfl), if_neg (show ¬ false = true by decide), nI_1]
          exact ih (i + 1) g c _ bk f3 S3 hl2 hk2 (by omega) (by omega)
        | true =>
          generalize d_cr th row = r2 at hk2 hl2 ⊢
          have ef : upd (upd r2 (60 + i) 0) 3 (upd r2 (60 + i) 0 3 + 1) = d_f1 r2 i := by
            rw [upd_ne (show 3 ≠ 60 + i by omega)]
            rfl
          have hk3 : ∃ k : Nat, k ≤ 150 ∧ d_f1 r2 i 2 = nI k := by
            unfold d_f1
            rw [upd_ne (by decide), upd_ne (by omega)]
            exact hk2
          have hl3 : d_f1 r2 i (4 + pl) = 0 := by
            unfold d_f1
            rw [upd_ne (by omega), upd_ne (by omega)]
            exact hl2
          obtain ⟨k4, hk4a, hk4b⟩ := id hk3
          have e7 := c_ntM (m := m) (bk := bk) (f := f3) (S := S3) (x := 3) (y := nI i) (z := nI p) hth hk4a hk4b
          rw [if_pos (show ¬ (cb true, dM m r2 bk f3 S3).1 = 0 from (by decide : ¬ cb true = (0 : Int32))), if_pos rfl, a2, i2, n_chk_t, sm2, show n_ib 100 (3 : Int32) = true from rfl, n_chk_t, n_chk_t, k3, nI_clamp (show 60 + i < 2 ^ 31 by omega)]
          show ∃ f2 S2 : Nat → Int32, (fX12_notes 3 (nI i) (nI p) (n_up (n_up (dM m r2 bk f3 S3) 108 (60 + i) 0) 108 3 (n_up (dM m r2 bk f3 S3) 108 (60 + i) 0 108 3 + 1))).bind _ = _
          rw [dM_u108, dM_108, dM_u108, ef, e7, Option.bind_some, sm3, nI_1]
          exact ih (i + 1) g (c + 1) _ _ f3 S3 (by rw [d_nr_ne (by omega)]; exact hl3) (d_kn hk3) (by omega) (by omega)
    · rw [if_pos hc1, if_neg (show ¬ (row (28 + i) = nI pl ∧ row (60 + i) ≠ 0) from fun z => hc1 z.1)]
      exact ih (i + 1) g c row bk f S hl hk (by omega) (by omega)
theorem sms_eq (N : Nat) (x1 x2 : Int32) (M : nM) : fX12_searches N x1 x2 M = n_chk (n_ib 100 ((16 : Int32) + x2)) (n_chk (n_ib 100 ((16 : Int32) + x2)) ((fX12_notes (2 : Int32) x2 x1 (n_up M 108 ((16 : Int32) + x2).toNatClampNeg ((M 108 ((16 : Int32) + x2).toNatClampNeg) + (1 : Int32)))).bind fun p2 => fX12_searches_32 N N x1 x2 (0 : Int32) (0 : Int32) p2.2)) := rfl
theorem c_srM {G : nG} {M0 m : nM} {N n q p pl : Nat} {ls : List lLn} {th : Bool} {row bk f S : Nat → Int32} (hN : 1000 ≤ N) (he : EV G M0 m ls n q) (hth : m 107 5 = cb th) (hk : ∃ k : Nat, k ≤ 150 ∧ row 2 = nI k) (hp : p < q) (hpl : pl < 12) : ∃ f2 S2 : Nat → Int32, fX12_searches N (nI p) (nI pl) (dM m row bk f S) = some ((d_srch m ls n th p pl row bk).1, dM m (d_srch m ls n th p pl row bk).2.1 (d_srch m ls n th p pl row bk).2.2 f2 S2) := by
  have s5 : m 107 6 = nI n := he.2.1.2.2.1.1
  have hn : n ≤ 16 ∧ q ≤ 12 := he.2.1.1
  have a1 : (16 : Int32) + nI pl = nI (16 + pl) := nI_add 16 pl
  have a3 : (4 : Int32) + nI pl = nI (4 + pl) := nI_add 4 pl
  have i1 := n_ib_nI (show 16 + pl < 100 by omega) (show 100 < 2 ^ 31 by decide)
  have i3 := n_ib_nI (show 4 + pl < 100 by omega) (show 100 < 2 ^ 31 by decide)
  have hk1 : ∃ k : Nat, k ≤ 150 ∧ d_s1 row pl 2 = nI k := by
    unfold d_s1
    rw [upd_ne (by omega)]
    exact hk
  have hl1 : d_nr th (d_s1 row pl) (4 + pl) = row (4 + pl) := by
    rw [d_nr_ne (by omega)]
    exact upd_ne (by omega)
  obtain ⟨k4, hk4a, hk4b⟩ := id hk1
  have e2 := c_ntM (m := m) (bk := bk) (f := f) (S := S) (x := 2) (y := nI pl) (z := nI p) hth hk4a hk4b
  have hk2 := d_kn (th := th) hk1
  have es : upd row (16 + pl) (row (16 + pl) + 1) = d_s1 row pl := rfl
  rw [sms_eq, a1, i1, n_chk_t, n_chk_t, nI_clamp (show 16 + pl < 2 ^ 31 by omega), dM_108, dM_u108, es, e2, Option.bind_some]
  show ∃ f2 S2 : Nat → Int32, fX12_searches_32 N N (nI p) (nI pl) 0 (nI 0) (dM m (d_nr th (d_s1 row pl)) (d_nb th 2 (nI pl) (nI p) (d_s1 row pl) bk) f S) = _
  unfold d_srch
  by_cases hc : row (4 + pl) = 0
  · rw [if_pos hc]
    exact c_seM hN he hth hp hpl n 0 N 0 _ _ f S (by rw [hl1]; exact hc) hk2 (by omega) (by omega)
  · rw [if_neg hc]
    refine ⟨f, S, ?_⟩
    obtain ⟨g, rfl⟩ : ∃ g', N = g' + 1 := ⟨N - 1, by omega⟩
    rw [sm_eq, a3, i3, n_chk_t, nI_clamp (show 4 + pl < 2 ^ 31 by omega), dM_108, hl1, if_pos hc]
    split <;> rfl
/-! who can -/
def d_cpi (m : nM) (n : Nat) (row : Nat → Int32) (p t pl : Nat) : Bool := if row (76 + p) = 0 then (if row (4 + pl) = 0 then (if row (4 + (row (28 + t)).toNatClampNeg) = 0 then d_room m n row pl t else false) else false) else false
def d_cp (m : nM) (n q : Nat) (row : Nat → Int32) (x y z : Int32) : Bool := if wn x q = true then (if wn y n = true then (if wn z 12 = true then d_cpi m n row x.toNatClampNeg y.toNatClampNeg z.toNatClampNeg else false) else false) else false
def d_cs (q : Nat) (row : Nat → Int32) (x z : Int32) : Bool := if wn x q = true then (if wn z 12 = true then (if row (76 + x.toNatClampNeg) = 0 then true else false) else false) else false
theorem c_cpC {G : nG} {M0 m M : nM} {N a n q : Nat} {ls : List lLn} {th : Bool} {row bk : Nat → Int32} (hN : 1000 ≤ N) (he : EV G M0 m ls n q) (ha : a = 9 ∨ a = 93) (h : CD M0 M a th row bk n q) (x y z : Int32) : fX0_canPut N G a x y z M = some (cb (d_cp m n q row x y z), M) := by
  have hn : n ≤ 16 ∧ q ≤ 12 := he.2.1.1
  have hMv : n_Mv G a := by rcases ha with rfl | rfl; exact n_Mv9 he.1; exact n_Mv93 he.1
  have hk : Nat.beq (n_kd G a) 4 = true := by rw [hMv.1]; rfl
  obtain ⟨s3, s4⟩ := CD_n he ha h
  have hm := h.2.2.1
  unfold fX0_canPut d_cp
  rw [e_hasPerson s4, Option.bind_some]
  cases hx : wn x q with
  | false => rfl
  | true =>
  rw [if_neg (show ¬ (cb true, M).1 = 0 from (by decide : ¬ cb true = (0 : Int32))), if_pos rfl, e_hasThing s3, Option.bind_some]
  cases hy : wn y n with
  | false => rfl
  | true =>
  rw [if_neg (show ¬ (cb true, M).1 = 0 from (by decide : ¬ cb true = (0 : Int32))), if_pos rfl, e_hasPlace, Option.bind_some]
  cases hz : wn z 12 with
  | false => rfl
  | true =>
  rw [if_pos (show ¬ (cb true, M).1 = 0 from (by decide : ¬ cb true = (0 : Int32))), if_pos rfl]
  obtain ⟨p, hp, rfl⟩ := wn_t (by omega) hx
  obtain ⟨t, ht, rfl⟩ := wn_t (by omega) hy
  obtain ⟨pl, hpl, rfl⟩ := wn_t (by omega) hz
  have ht16 : t < 16 := by omega
  obtain ⟨j, hj, ej⟩ := hm.1.2 t ht16
  have ej2 : row (28 + t) = nI j := (hm.1.1 t ht16).symm.trans ej
  have b1 : cb (bt (M a 6) p) = row (76 + p) := r_bits_g hm.2.2.2.2.2.1 (by omega)
  have b2 : cb (bt (M a 7) pl) = row (4 + pl) := r_bits_g hm.2.2.2.2.2.2.1 hpl
  have b3 : cb (bt (M a 7) j) = row (4 + j) := r_bits_g hm.2.2.2.2.2.2.1 hj
  have i1 := n_in_nI hMv.2.2.1.1 hMv.2.2.2.1 ht16 (by decide)
  have hr := c_roomC hN he ha h ht16 hpl
  unfold d_cpi
  rw [nI_clamp (show p < 2 ^ 31 by omega), nI_clamp (show t < 2 ^ 31 by omega), nI_clamp (show pl < 2 ^ 31 by omega), ej2, nI_clamp (show j < 2 ^ 31 by omega)]
  simp only [hk, n_chk_t, e_hasBit (show p < 32 by omega), e_hasBit (show pl < 32 by omega), e_hasBit (show j < 32 by omega), Option.bind_some, b1, b2, b3, hMv.2.1.1, i1, ej, hr]
  by_cases c1 : row (76 + p) = 0
  · rw [if_neg (not_not_intro c1), if_pos c1]
    by_cases c2 : row (4 + pl) = 0
    · rw [if_neg (not_not_intro c2), if_pos c2]
      by_cases c3 : row (4 + j) = 0
      · rw [if_pos c3, if_pos c3]
        cases d_room m n row pl t <;> rfl
      · rw [if_neg c3, if_neg c3]; rfl
    · rw [if_pos c2, if_neg c2]; rfl
  · rw [if_pos c1, if_neg c1]; rfl
theorem c_cpM {G : nG} {M0 m : nM} {N n q : Nat} {ls : List lLn} {row bk f S : Nat → Int32} (hN : 1000 ≤ N) (he : EV G M0 m ls n q) (hr : RK row) (x y z : Int32) : fX12_canPut N x y z (dM m row bk f S) = some (cb (d_cp m n q row x y z), dM m row bk f S) := by
  have hn : n ≤ 16 ∧ q ≤ 12 := he.2.1.1
  have s5 : dM m row bk f S 107 6 = nI n := he.2.1.2.2.1.1
  have s6 : dM m row bk f S 107 7 = nI q := he.2.1.2.2.1.2
  unfold fX12_canPut d_cp
  rw [e_isPerson s6, Option.bind_some]
  cases hx : wn x q with
  | false => rfl
  | true =>
  rw [if_neg (show ¬ (cb true, dM m row bk f S).1 = 0 from (by decide : ¬ cb true = (0 : Int32))), if_pos rfl, e_isThing s5, Option.bind_some]
  cases hy : wn y n with
  | false => rfl
  | true =>
  rw [if_neg (show ¬ (cb true, dM m row bk f S).1 = 0 from (by decide : ¬ cb true = (0 : Int32))), if_pos rfl, e_isPlace, Option.bind_some]
  cases hz : wn z 12 with
  | false => rfl
  | true =>
  rw [if_pos (show ¬ (cb true, dM m row bk f S).1 = 0 from (by decide : ¬ cb true = (0 : Int32))), if_pos rfl]
  obtain ⟨p, hp, rfl⟩ := wn_t (by omega) hx
  obtain ⟨t, ht, rfl⟩ := wn_t (by omega) hy
  obtain ⟨pl, hpl, rfl⟩ := wn_t (by omega) hz
  have ht16 : t < 16 := by omega
  obtain ⟨j, hj, ej⟩ := hr.2 t ht16
  have hr2 := c_roomM (row := row) (bk := bk) (f := f) (S := S) hN he ht16 hpl
  unfold d_cpi
  rw [nI_clamp (show p < 2 ^ 31 by omega), nI_clamp (show t < 2 ^ 31 by omega), nI_clamp (show pl < 2 ^ 31 by omega), ej, nI_clamp (show j < 2 ^ 31 by omega)]
  simp only [show (76 : Int32) + nI p = nI (76 + p) from nI_add 76 p, show (4 : Int32) + nI pl = nI (4 + pl) from nI_add 4 pl, show (28 : Int32) + nI t = nI (28 + t) from nI_add 28 t, show (4 : Int32) + nI j = nI (4 + j) from nI_add 4 j, n_ib_nI (show 76 + p < 100 by omega) (show 100 < 2 ^ 31 by decide), n_ib_nI (show 4 + pl < 100 by omega) (show 100 < 2 ^ 31 by decide), n_ib_nI (show 28 + t < 100 by omega) (show 100 < 2 ^ 31 by decide), n_ib_nI (show 4 + j < 100 by omega) (show 100 < 2 ^ 31 by decide), nI_clamp (show 76 + p < 2 ^ 31 by omega), nI_clamp (show 4 + pl < 2 ^ 31 by omega), nI_clamp (show 28 + t < 2 ^ 31 by omega), nI_clamp (show 4 + j < 2 ^ 31 by omega), n_chk_t, dM_108, ej, hr2, Option.bind_some]
  by_cases c1 : row (76 + p) = 0
  · rw [if_neg (not_not_intro c1), if_pos c1]
    by_cases c2 : row (4 + pl) = 0
    · rw [if_neg (not_not_intro c2), if_pos c2]
      by_cases c3 : row (4 + j) = 0
      · rw [if_neg (not_not_intro c3), if_pos c3]
        cases d_room m n row pl t <;> rfl
      · rw [if_pos c3, if_neg c3]; rfl
    · rw [if_pos c2, if_neg c2]; rfl
  · rw [if_pos c1, if_neg c1]; rfl
theorem c_csC {G : nG} {M0 m M : nM} {a n q : Nat} {ls : List lLn} {th : Bool} {row bk : Nat → Int32} (he : EV G M0 m ls n q) (ha : a = 9 ∨ a = 93) (h : CD M0 M a th row bk n q) (x z : Int32) : fX0_canSearch G a x z M = some (cb (d_cs q row x z), M) := by
  have hn : n ≤ 16 ∧ q ≤ 12 := he.2.1.1
  have hMv : n_Mv G a := by rcases ha with rfl | rfl; exact n_Mv9 he.1; exact n_Mv93 he.1
  have hk : Nat.beq (n_kd G a) 4 = true := by rw [hMv.1]; rfl
  obtain ⟨s3, s4⟩ := CD_n he ha h
  have hm := h.2.2.1
  unfold fX0_canSearch d_cs
  rw [e_hasPerson s4, Option.bind_some]
  cases hx : wn x q with
  | false => rfl
  | true =>
  rw [if_neg (show ¬ (cb true, M).1 = 0 from (by decide : ¬ cb true = (0 : Int32))), if_pos rfl, e_hasPlace, Option.bind_some]
  cases hz : wn z 12 with
  | false => rfl
  | true =>
  rw [if_neg (show ¬ (cb true, M).1 = 0 from (by decide : ¬ cb true = (0 : Int32))), if_pos rfl]
  obtain ⟨p, hp, rfl⟩ := wn_t (by omega) hx
  have b1 : cb (bt (M a 6) p) = row (76 + p) := r_bits_g hm.2.2.2.2.2.1 (by omega)
  rw [nI_clamp (show p < 2 ^ 31 by omega)]
  simp only [hk, n_chk_t, e_hasBit (show p < 32 by omega), Option.bind_some, b1]
  by_cases c1 : row (76 + p) = 0
  · rw [if_neg (not_not_intro c1), if_pos c1]; rfl
  · rw [if_pos c1, if_neg c1]; rfl
theorem c_csM {G : nG} {M0 m : nM} {n q : Nat} {ls : List lLn} {row bk f S : Nat → Int32} (he : EV G M0 m ls n q) (x z : Int32) : fX12_canSearch x z (dM m row bk f S) = some (cb (d_cs q row x z), dM m row bk f S) := by
  have hn : n ≤ 16 ∧ q ≤ 12 := he.2.1.1
  have s6 : dM m row bk f S 107 7 = nI q := he.2.1.2.2.1.2
  unfold fX12_canSearch d_cs
  rw [e_isPerson s6, Option.bind_some]
  cases hx : wn x q with
  | false => rfl
  | true =>
  rw [if_neg (show ¬ (cb true, dM m row bk f S).1 = 0 from (by decide : ¬ cb true = (0 : Int32))), if_pos rfl, e_isPlace, Option.bind_some]
  cases hz : wn z 12 with
  | false => rfl
  | true =>
  rw [if_neg (show ¬ (cb true, dM m row bk f S).1 = 0 from (by decide : ¬ cb true = (0 : Int32))), if_pos rfl]
  obtain ⟨p, hp, rfl⟩ := wn_t (by omega) hx
  rw [nI_clamp (show p < 2 ^ 31 by omega)]
  simp only [show (76 : Int32) + nI p = nI (76 + p) from nI_add 76 p, n_ib_nI (show 76 + p < 100 by omega) (show 100 < 2 ^ 31 by decide), nI_clamp (show 76 + p < 2 ^ 31 by omega), n_chk_t, dM_108]
  by_cases c1 : row (76 + p) = 0
  · rw [if_neg (not_not_intro c1), if_pos c1]; rfl
  · rw [if_pos c1, if_neg c1]; rfl
