/-! ===== puts, where, search, brings ===== -/
theorem bind_as {α β γ : Type} {x : Option α} {f : α → Option β} (g : β → Option γ) {v : β} (h : x.bind f = some v) : (x.bind fun a => (f a).bind g) = g v := by
  cases x with
  | none => cases h
  | some a =>
    have e : f a = some v := h
    show (f a).bind g = g v
    rw [e]
    rfl
theorem Mix_0 {M D : nM} (hD : ∀ c, 107 ≤ c → c ≤ 151 → D c = M c) : Mix M (n_up D 107 0 0) = n_up M 107 0 0 := by
  funext c
  by_cases hc : c < 107 ∨ 151 < c
  · rw [Mix_c hc, n_up_ne (by omega)]
  · rw [Mix_d (by omega) (by omega)]
    by_cases h7 : c = 107
    · subst h7; rw [n_up_eq, n_up_eq, hD 107 (by decide) (by decide)]
    · rw [n_up_ne h7, n_up_ne h7, hD c (by omega) (by omega)]
theorem Rel_0 {G : nG} {M : nM} {n q : Nat} (h : Rel G M n q) : Rel G (n_up M 107 0 0) n q := h
theorem Rel_m0 {G : nG} {M D : nM} {n q : Nat} (h : Rel G M n q) (hD : ∀ c, 107 ≤ c → c ≤ 151 → D c = M c) : Rel G (Mix M (n_up D 107 0 0)) n q := by rw [Mix_0 hD]; exact Rel_0 h
theorem Rel_CD {G : nG} {C D : nM} {n q : Nat} (h : Rel G (Mix C D) n q) : CD C C 9 false (D 108) (D 116) n q := by
  obtain ⟨⟨hst, hmv, hbk, hlw, hsp, hcu, hli, hsw, hpk, hbx, hky, hcl, hsh, hrw, hgf, hmi⟩, hpr, hrd, hck, hwd, him⟩ := id h
  exact ⟨fun _ _ _ _ _ => rfl, hck.1, hmv, hbk⟩
theorem n0_ne {D : nM} (c : Nat) (h : c < 107 ∨ 151 < c) : n_up D 107 0 0 c = D c := n_up_ne (by omega)
theorem d_nb_t {a b c : Int32} {row bk : Nat → Int32} : d_nb true a b c row bk = bk := if_pos (Or.inl rfl)
def d_putD (n p t pl : Nat) : dD := fun m ls th row bk => (cb (d_put m ls n th p t pl row bk).1, (d_put m ls n th p t pl row bk).2)
theorem put_DoC {G : nG} {N n q p t pl : Nat} (hN : 1000 ≤ N) (hp : p < q) (ht : t < n) (hpl : pl < 12) : DoC G n q (fun a M => fX0_putDown N G a (nI p) (nI t) (nI pl) M) (d_putD n p t pl) := fun _ _ _ _ _ _ _ _ hW ha hCD => c_putC hN hW.1 ha hCD hp ht hpl
theorem put_DoM {G : nG} {N n q p t pl : Nat} (hN : 1000 ≤ N) (hp : p < q) (ht : t < n) (hpl : pl < 12) : DoM G n q (fun M => fX12_isPut N (nI p) (nI t) (nI pl) M) (d_putD n p t pl) := fun _ _ _ _ _ _ _ _ hW h5 ⟨_, _, _, hk⟩ => c_putM hN hW.1 h5 (CD_RK hk).1 hp ht hpl
theorem put_DoB {n p t pl : Nat} : DoB (d_putD n p t pl) := fun m ls row bk => by
  show (d_put m ls n true p t pl row bk).2.2 = bk
  unfold d_put
  rw [d_nb_t, d_nb_t]
  split
  · rfl
  · split <;> rfl
theorem se_b {m : nM} {ls : List lLn} {n p pl : Nat} : ∀ (d i : Nat) (c : Int32) (row bk : Nat → Int32), (d_se m ls n true p pl d i c row bk).2.2 = bk
  | 0, _, _, _, _ => rfl
  | d + 1, i, c, row, bk => by
    unfold d_se
    rw [d_nb_t]
    split
    · split
      · exact se_b d _ _ _ _
      · exact se_b d _ _ _ _
    · exact se_b d _ _ _ _
def d_srD (n p pl : Nat) : dD := fun m ls th row bk => d_srch m ls n th p pl row bk
theorem sr_DoC {G : nG} {N n q p pl : Nat} (hN : 1000 ≤ N) (hp : p < q) (hpl : pl < 12) : DoC G n q (fun a M => fX0_searchPlace N G a (nI p) (nI pl) M) (d_srD n p pl) := fun _ _ _ _ _ _ _ _ hW ha hCD => c_srC hN hW.1 ha hCD hp hpl
theorem sr_DoM {G : nG} {N n q p pl : Nat} (hN : 1000 ≤ N) (hp : p < q) (hpl : pl < 12) : DoM G n q (fun M => fX12_searches N (nI p) (nI pl) M) (d_srD n p pl) := fun _ _ _ _ _ _ _ _ hW h5 ⟨_, _, _, hk⟩ => c_srM hN hW.1 h5 (CD_RK hk).1 hp hpl
theorem sr_DoB {n p pl : Nat} : DoB (d_srD n p pl) := fun m ls row bk => by
  show (d_srch m ls n true p pl row bk).2.2 = bk
  unfold d_srch
  rw [d_nb_t]
  split
  · exact se_b _ _ _ _ _
  · rfl
theorem d_cp_t {m : nM} {n q : Nat} {row : Nat → Int32} {x y z : Int32} (hn : n ≤ 16) (hq : q ≤ 12) (h : d_cp m n q row x y z = true) : ∃ p t pl : Nat, p < q ∧ t < n ∧ pl < 12 ∧ x = nI p ∧ y = nI t ∧ z = nI pl := by
  unfold d_cp at h
  cases hx : wn x q with
  | false => rw [hx] at h; exact absurd (show false = true from h) (by decide)
  | true =>
  cases hy : wn y n with
  | false => rw [hx, hy] at h; exact absurd (show false = true from h) (by decide)
  | true =>
  cases hz : wn z 12 with
  | false => rw [hx, hy, hz] at h; exact absurd (show false = true from h) (by decide)
  | true =>
  obtain ⟨p, hp, e1⟩ := wn_t (by omega) hx
  obtain ⟨t, ht, e2⟩ := wn_t (by omega) hy
  obtain ⟨pl, hpl, e3⟩ := wn_t (by omega) hz
  exact ⟨p, t, pl, hp, ht, hpl, e1, e2, e3⟩
theorem d_cs_t {q : Nat} {row : Nat → Int32} {x z : Int32} (hq : q ≤ 12) (h : d_cs q row x z = true) : ∃ p pl : Nat, p < q ∧ pl < 12 ∧ x = nI p ∧ z = nI pl := by
  unfold d_cs at h
  cases hx : wn x q with
  | false => rw [hx] at h; exact absurd (show false = true from h) (by decide)
  | true =>
  cases hz : wn z 12 with
  | false => rw [hx, hz] at h; exact absurd (show false = true from h) (by decide)
  | true =>
  obtain ⟨p, hp, e1⟩ := wn_t (by omega) hx
  obtain ⟨pl, hpl, e3⟩ := wn_t (by omega) hz
  exact ⟨p, pl, hp, hpl, e1, e3⟩
def puC (y : Int32) (p3 : Int32 × nM) : Option (Int32 × nM) := n_chk (n_ib 16 y) (some ((p3.2 10 y.toNatClampNeg), p3.2))
def puM (y : Int32) (p4 : Int32 × nM) : Option (Int32 × nM) := n_chk (n_ib 100 ((28 : Int32) + y)) (some ((p4.2 108 ((28 : Int32) + y).toNatClampNeg), p4.2))
theorem puC_eq (N : Nat) (G : nG) (x y z : Int32) (M : nM) : fX11_puts N G x y z M = (fX0_canPut N G 9 x y z M).bind fun p1 => if ¬ p1.1 = 0 then (fX5_keep G p1.2).bind fun p2 => (fX0_putDown N G 9 x y z p2.2).bind (puC y) else some ((-1 : Int32), p1.2) := rfl
theorem puM_eq (N : Nat) (x y z : Int32) (M : nM) : fX12_puts N x y z M = (fX12_canPut N x y z (n_up M 107 0 0)).bind fun p2 => if ¬ p2.1 = 0 then (fX12_keepsAhead N p2.2).bind fun p3 => (fX12_isPut N x y z p3.2).bind (puM y) else some ((-1 : Int32), p2.2) := rfl
theorem st_puts {G : nG} {M : nM} {n q N : Nat} (hN : 1000 ≤ N) (hG : n_GOK G) (h : Rel G M n q) (x y z : Int32) : Stq G (fX11_puts N G x y z) (fX12_puts N x y z) M := by
  refine Stq_mix fun D hD => ?_
  have hR := Rel_m0 h hD
  obtain ⟨D0, hD0⟩ : ∃ D0, D0 = n_up D 107 0 0 := ⟨_, rfl⟩
  rw [← hD0] at hR
  obtain ⟨ls, hW⟩ := Mix_EW (M0 := M) (m := D0) hG hR (fun _ _ => rfl) (fun _ _ _ => rfl) (fun _ _ => rfl)
  have hCD := Rel_CD hR
  have hn := hW.1.2.1.1
  have e1 := c_cpC hN hW.1 (Or.inl rfl) hCD x y z
  have e2 := c_cpM (bk := D0 116) (f := D0 131) (S := D0 132) hN hW.1 (CD_RK hCD) x y z
  rw [← dM_self D0] at e2
  rw [puC_eq, puM_eq, ← hD0, e1, e2, Option.bind_some, Option.bind_some]
  cases hd : d_cp D0 n q (D0 108) x y z with
  | false => exact ⟨-1, M, D0, rfl, fun _ _ _ => rfl, rfl, fun c hc => by rw [hD0]; exact n0_ne c hc, n, q, hR⟩
  | true =>
    rw [if_pos (show ¬ (cb true, M).1 = 0 from (by decide : ¬ cb true = (0 : Int32))), if_pos (show ¬ (cb true, D0).1 = 0 from (by decide : ¬ cb true = (0 : Int32)))]
    obtain ⟨p, t, pl, hp, ht, hpl, rfl, rfl, rfl⟩ := d_cp_t hn.1 hn.2 hd
    obtain ⟨v, C', D', k1, k2, k3, k4, k5⟩ := fin_keep hN hG (put_DoC hN hp ht hpl) (put_DoM hN hp ht hpl) hR
    refine ⟨C' 10 t, C', D', ?_, k2, ?_, fun c hc => by rw [k4 c hc, hD0]; exact n0_ne c hc, n, q, k5⟩
    · refine (bind_as _ k1).trans ?_
      unfold puC
      rw [n_ib_nI (show t < 16 by omega) (by decide), n_chk_t, nI_clamp (by omega)]
    · refine (bind_as _ k3).trans ?_
      unfold puM
      rw [show (28 : Int32) + nI t = nI (28 + t) from nI_add 28 t, n_ib_nI (show 28 + t < 100 by omega) (by decide), n_chk_t, nI_clamp (by omega)]
      have e3 : C' 10 t = D' 108 (28 + t) := k5.1.2.1.1.1 t (by omega)
      rw [e3]
def whC (y : Int32) (p3 : Int32 × nM) : Option (Int32 × nM) := n_chk (n_ib 16 y) (some ((p3.2 94 y.toNatClampNeg), p3.2))
def whM (N : Nat) (y : Int32) (p4 : Int32 × nM) : Option (Int32 × nM) := n_chk (n_ib 100 ((28 : Int32) + y)) ((fX12_endsThought N p4.2).bind fun p6 => some ((p4.2 108 ((28 : Int32) + y).toNatClampNeg), p6.2))
theorem whC_eq (N : Nat) (G : nG) (x y z : Int32) (M : nM) : fX11_where N G x y z M = (fX0_canPut N G 9 x y z M).bind fun p1 => if ¬ p1.1 = 0 then (fX4_copyFrom G 93 9 p1.2).bind fun p2 => (fX0_putDown N G 93 x y z p2.2).bind (whC y) else some ((-1 : Int32), p1.2) := rfl
theorem whM_eq (N : Nat) (x y z : Int32) (M : nM) : fX12_where N x y z M = (fX12_canPut N x y z (n_up M 107 0 0)).bind fun p2 => if ¬ p2.1 = 0 then (fX12_thinks N p2.2).bind fun p3 => (fX12_isPut N x y z p3.2).bind (whM N y) else some ((-1 : Int32), p2.2) := rfl
theorem st_where {G : nG} {M : nM} {n q N : Nat} (hN : 1000 ≤ N) (hG : n_GOK G) (h : Rel G M n q) (x y z : Int32) : Stq G (fX11_where N G x y z) (fX12_where N x y z) M := by
  refine Stq_mix fun D hD => ?_
  have hR := Rel_m0 h hD
  obtain ⟨D0, hD0⟩ : ∃ D0, D0 = n_up D 107 0 0 := ⟨_, rfl⟩
  rw [← hD0] at hR
  obtain ⟨ls, hW⟩ := Mix_EW (M0 := M) (m := D0) hG hR (fun _ _ => rfl) (fun _ _ _ => rfl) (fun _ _ => rfl)
  have hCD := Rel_CD hR
  have hn := hW.1.2.1.1
  have e1 := c_cpC hN hW.1 (Or.inl rfl) hCD x y z
  have e2 := c_cpM (bk := D0 116) (f := D0 131) (S := D0 132) hN hW.1 (CD_RK hCD) x y z
  rw [← dM_self D0] at e2
  rw [whC_eq, whM_eq, ← hD0, e1, e2, Option.bind_some, Option.bind_some]
  cases hd : d_cp D0 n q (D0 108) x y z with
  | false => exact ⟨-1, M, D0, rfl, fun _ _ _ => rfl, rfl, fun c hc => by rw [hD0]; exact n0_ne c hc, n, q, hR⟩
  | true =>
    rw [if_pos (show ¬ (cb true, M).1 = 0 from (by decide : ¬ cb true = (0 : Int32))), if_pos (show ¬ (cb true, D0).1 = 0 from (by decide : ¬ cb true = (0 : Int32)))]
    obtain ⟨p, t, pl, hp, ht, hpl, rfl, rfl, rfl⟩ := d_cp_t hn.1 hn.2 hd
    obtain ⟨v, C', D1, D', k1, k2, k3, ⟨k6, -, -⟩, k7, k4, k5⟩ := fin_dream hN hG (put_DoC hN hp ht hpl) (put_DoM hN hp ht hpl) put_DoB hR
    refine ⟨C' 94 t, C', D', ?_, k2, ?_, fun c hc => by rw [k4 c hc, hD0]; exact n0_ne c hc, n, q, k5⟩
    · refine (bind_as _ k1).trans ?_
      unfold whC
      rw [n_ib_nI (show t < 16 by omega) (by decide), n_chk_t, nI_clamp (by omega)]
    · refine (bind_as _ k3).trans ?_
      unfold whM
      rw [show (28 : Int32) + nI t = nI (28 + t) from nI_add 28 t, n_ib_nI (show 28 + t < 100 by omega) (by decide), n_chk_t, nI_clamp (by omega), k7, Option.bind_some]
      have e3 : C' 94 t = D1 108 (28 + t) := k6.1.1 t (by omega)
      rw [e3]
def ssF (p3 : Int32 × nM) : Option (Int32 × nM) := some (p3.1, p3.2)
theorem ssC_eq (N : Nat) (G : nG) (x z : Int32) (M : nM) : fX11_search N G x z M = (fX0_canSearch G 9 x z M).bind fun p1 => if ¬ p1.1 = 0 then (fX5_keep G p1.2).bind fun p2 => (fX0_searchPlace N G 9 x z p2.2).bind ssF else some ((-1 : Int32), p1.2) := rfl
theorem ssM_eq (N : Nat) (x z : Int32) (M : nM) : fX12_search N x z M = (fX12_canSearch x z (n_up M 107 0 0)).bind fun p2 => if ¬ p2.1 = 0 then (fX12_keepsAhead N p2.2).bind fun p3 => (fX12_searches N x z p3.2).bind ssF else some ((-1 : Int32), p2.2) := rfl
theorem st_search {G : nG} {M : nM} {n q N : Nat} (hN : 1000 ≤ N) (hG : n_GOK G) (h : Rel G M n q) (x z : Int32) : Stq G (fX11_search N G x z) (fX12_search N x z) M := by
  refine Stq_mix fun D hD => ?_
  have hR := Rel_m0 h hD
  obtain ⟨D0, hD0⟩ : ∃ D0, D0 = n_up D 107 0 0 := ⟨_, rfl⟩
  rw [← hD0] at hR
  obtain ⟨ls, hW⟩ := Mix_EW (M0 := M) (m := D0) hG hR (fun _ _ => rfl) (fun _ _ _ => rfl) (fun _ _ => rfl)
  have hCD := Rel_CD hR
  have hn := hW.1.2.1.1
  have e1 := c_csC hW.1 (Or.inl rfl) hCD x z
  have e2 := c_csM (row := D0 108) (bk := D0 116) (f := D0 131) (S := D0 132) hW.1 x z
  rw [← dM_self D0] at e2
  rw [ssC_eq, ssM_eq, ← hD0, e1, e2, Option.bind_some, Option.bind_some]
  cases hd : d_cs q (D0 108) x z with
  | false => exact ⟨-1, M, D0, rfl, fun _ _ _ => rfl, rfl, fun c hc => by rw [hD0]; exact n0_ne c hc, n, q, hR⟩
  | true =>
    rw [if_pos (show ¬ (cb true, M).1 = 0 from (by decide : ¬ cb true = (0 : Int32))), if_pos (show ¬ (cb true, D0).1 = 0 from (by decide : ¬ cb true = (0 : Int32)))]
    obtain ⟨p, pl, hp, hpl, rfl, rfl⟩ := d_cs_t hn.2 hd
    obtain ⟨v, C', D', k1, k2, k3, k4, k5⟩ := fin_keep hN hG (sr_DoC hN hp hpl) (sr_DoM hN hp hpl) hR
    exact ⟨v, C', D', bind_as ssF k1, k2, bind_as ssF k3, fun c hc => by rw [k4 c hc, hD0]; exact n0_ne c hc, n, q, k5⟩
def brM (N : Nat) (p4 : Int32 × nM) : Option (Int32 × nM) := (fX12_endsThought N p4.2).bind fun p5 => some (p4.1, p5.2)
theorem brC_eq (N : Nat) (G : nG) (x z : Int32) (M : nM) : fX11_brings N G x z M = (fX0_canSearch G 9 x z M).bind fun p1 => if ¬ p1.1 = 0 then (fX4_copyFrom G 93 9 p1.2).bind fun p2 => (fX0_searchPlace N G 93 x z p2.2).bind ssF else some ((-1 : Int32), p1.2) := rfl
theorem brM_eq (N : Nat) (x z : Int32) (M : nM) : fX12_brings N x z M = (fX12_canSearch x z (n_up M 107 0 0)).bind fun p2 => if ¬ p2.1 = 0 then (fX12_thinks N p2.2).bind fun p3 => (fX12_searches N x z p3.2).bind (brM N) else some ((-1 : Int32), p2.2) := rfl
theorem st_brings {G : nG} {M : nM} {n q N : Nat} (hN : 1000 ≤ N) (hG : n_GOK G) (h : Rel G M n q) (x z : Int32) : Stq G (fX11_brings N G x z) (fX12_brings N x z) M := by
  refine Stq_mix fun D hD => ?_
  have hR := Rel_m0 h hD
  obtain ⟨D0, hD0⟩ : ∃ D0, D0 = n_up D 107 0 0 := ⟨_, rfl⟩
  rw [← hD0] at hR
  obtain ⟨ls, hW⟩ := Mix_EW (M0 := M) (m := D0) hG hR (fun _ _ => rfl) (fun _ _ _ => rfl) (fun _ _ => rfl)
  have hCD := Rel_CD hR
  have hn := hW.1.2.1.1
  have e1 := c_csC hW.1 (Or.inl rfl) hCD x z
  have e2 := c_csM (row := D0 108) (bk := D0 116) (f := D0 131) (S := D0 132) hW.1 x z
  rw [← dM_self D0] at e2
  rw [brC_eq, brM_eq, ← hD0, e1, e2, Option.bind_some, Option.bind_some]
  cases hd : d_cs q (D0 108) x z with
  | false => exact ⟨-1, M, D0, rfl, fun _ _ _ => rfl, rfl, fun c hc => by rw [hD0]; exact n0_ne c hc, n, q, hR⟩
  | true =>
    rw [if_pos (show ¬ (cb true, M).1 = 0 from (by decide : ¬ cb true = (0 : Int32))), if_pos (show ¬ (cb true, D0).1 = 0 from (by decide : ¬ cb true = (0 : Int32)))]
    obtain ⟨p, pl, hp, hpl, rfl, rfl⟩ := d_cs_t hn.2 hd
    obtain ⟨v, C', D1, D', k1, k2, k3, -, k7, k4, k5⟩ := fin_dream hN hG (sr_DoC hN hp hpl) (sr_DoM hN hp hpl) sr_DoB hR
    refine ⟨v, C', D', bind_as ssF k1, k2, (bind_as (brM N) k3).trans ?_, fun c hc => by rw [k4 c hc, hD0]; exact n0_ne c hc, n, q, k5⟩
    unfold brM
    rw [k7, Option.bind_some]
