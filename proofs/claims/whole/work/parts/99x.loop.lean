/-! ===== the law's loop ===== -/
def wl_P (r : nR) : Prop := r.1 = some (.int 1) ∧ n_n r.2.1 ≤ 600000 ∧ n_sl r.2.1 ≤ 7302250
theorem wl_un {G : nG} {f1 f2 : nM → Option (Int32 × nM)} {M : nM} (h : Stq G f1 f2 M) : ∃ (v : Int32) (M1 M2 : nM) (n q : Nat), f1 M = some (v, M1) ∧ f2 M1 = some (v, M2) ∧ Rel G M2 n q := by
  obtain ⟨v, M1, e1, u, M2, e2, rfl, n, q, hR⟩ := h
  exact ⟨v, M1, M2, n, q, e1, e2, hR⟩
def wl_T (N : Nat) : Prop := ∀ (G : nG) (M : nM) (n q : Nat) (x : Int32), n_GOK G → Rel G M n q → Stq G (fX11_text N G x) (fX12_text N x) M
def wl_I (N : Nat) : Prop := ∀ (hh : nH) (n q : Nat) (x : Int32), n_GOK hh.1 → Rel hh.1 hh.2 n q → ∃ (v : Int32) (h' : nH) (M2 : nM) (n' q' : Nat), fX11_image N 1 (if x = 0 then 0 else 1) hh = some (v, h') ∧ n_GOK h'.1 ∧ fX12_image N (if x = 0 then 0 else 1) h'.2 = some (v, M2) ∧ Rel h'.1 M2 n' q'
theorem wc_state {l : Launch} {w : nW} {nm : String} {L : Nat} {xs : Nat → Int32} {N : Nat} (hN : 20000000 ≤ N) (hX : n_PX w L xs) (hS : n_PS w) (i : Int32) (hb1 : n_ib L (i + (1 : Int32)) = true) (hb2 : n_ib L (i + (2 : Int32)) = true) (hb3 : n_ib L (i + (3 : Int32)) = true) (hb4 : n_ib L (i + (4 : Int32)) = true) (hb5 : n_ib L (i + (5 : Int32)) = true) {hh : nH} {n q : Nat} (hG : n_GOK hh.1) (hR : Rel hh.1 hh.2 n q) (next : ∀ (h2 : nH) (n q : Nat), n_GOK h2.1 → Rel h2.1 h2.2 n q → ∃ r : nR, wl_P r ∧ n_Lw l w nm 1675 i h2 r) : ∃ r : nR, wl_P r ∧ n_Lw l w nm 228 i hh r := by
  obtain ⟨v, M1, M2, n', q', e1, e2, e3⟩ := wl_un (st_state hR (xs (i + (1 : Int32)).toNatClampNeg))
  obtain ⟨r, r1, r2⟩ := next (hh.1, M2) n' q' hG e3
  exact ⟨r, r1, lc_state N hG hX hS i hh.2 M1 M2 v r hb1 e1 e2 r2⟩
theorem wc_thing {l : Launch} {w : nW} {nm : String} {L : Nat} {xs : Nat → Int32} {N : Nat} (hN : 20000000 ≤ N) (hX : n_PX w L xs) (hS : n_PS w) (i : Int32) (hb1 : n_ib L (i + (1 : Int32)) = true) (hb2 : n_ib L (i + (2 : Int32)) = true) (hb3 : n_ib L (i + (3 : Int32)) = true) (hb4 : n_ib L (i + (4 : Int32)) = true) (hb5 : n_ib L (i + (5 : Int32)) = true) {hh : nH} {n q : Nat} (hG : n_GOK hh.1) (hR : Rel hh.1 hh.2 n q) (next : ∀ (h2 : nH) (n q : Nat), n_GOK h2.1 → Rel h2.1 h2.2 n q → ∃ r : nR, wl_P r ∧ n_Lw l w nm 1675 i h2 r) : ∃ r : nR, wl_P r ∧ n_Lw l w nm 251 i hh r := by
  obtain ⟨v, M1, M2, n', q', e1, e2, e3⟩ := wl_un (st_thing hR (xs (i + (1 : Int32)).toNatClampNeg) (xs (i + (2 : Int32)).toNatClampNeg) (xs (i + (3 : Int32)).toNatClampNeg))
  obtain ⟨r, r1, r2⟩ := next (hh.1, M2) n' q' hG e3
  exact ⟨r, r1, lc_thing N hG hX hS i hh.2 M1 M2 v r hb1 hb2 hb3 e1 e2 r2⟩
theorem wc_person {l : Launch} {w : nW} {nm : String} {L : Nat} {xs : Nat → Int32} {N : Nat} (hN : 20000000 ≤ N) (hX : n_PX w L xs) (hS : n_PS w) (i : Int32) (hb1 : n_ib L (i + (1 : Int32)) = true) (hb2 : n_ib L (i + (2 : Int32)) = true) (hb3 : n_ib L (i + (3 : Int32)) = true) (hb4 : n_ib L (i + (4 : Int32)) = true) (hb5 : n_ib L (i + (5 : Int32)) = true) {hh : nH} {n q : Nat} (hG : n_GOK hh.1) (hR : Rel hh.1 hh.2 n q) (next : ∀ (h2 : nH) (n q : Nat), n_GOK h2.1 → Rel h2.1 h2.2 n q → ∃ r : nR, wl_P r ∧ n_Lw l w nm 1675 i h2 r) : ∃ r : nR, wl_P r ∧ n_Lw l w nm 294 i hh r := by
  obtain ⟨v, M1, M2, n', q', e1, e2, e3⟩ := wl_un (st_person hR (xs (i + (1 : Int32)).toNatClampNeg) (xs (i + (2 : Int32)).toNatClampNeg))
  obtain ⟨r, r1, r2⟩ := next (hh.1, M2) n' q' hG e3
  exact ⟨r, r1, lc_person N hG hX hS i hh.2 M1 M2 v r hb1 hb2 e1 e2 r2⟩
theorem wc_set {l : Launch} {w : nW} {nm : String} {L : Nat} {xs : Nat → Int32} {N : Nat} (hN : 20000000 ≤ N) (hX : n_PX w L xs) (hS : n_PS w) (i : Int32) (hb1 : n_ib L (i + (1 : Int32)) = true) (hb2 : n_ib L (i + (2 : Int32)) = true) (hb3 : n_ib L (i + (3 : Int32)) = true) (hb4 : n_ib L (i + (4 : Int32)) = true) (hb5 : n_ib L (i + (5 : Int32)) = true) {hh : nH} {n q : Nat} (hG : n_GOK hh.1) (hR : Rel hh.1 hh.2 n q) (next : ∀ (h2 : nH) (n q : Nat), n_GOK h2.1 → Rel h2.1 h2.2 n q → ∃ r : nR, wl_P r ∧ n_Lw l w nm 1675 i h2 r) : ∃ r : nR, wl_P r ∧ n_Lw l w nm 327 i hh r := by
  obtain ⟨v, M1, M2, n', q', e1, e2, e3⟩ := wl_un (st_set hG hR (xs (i + (1 : Int32)).toNatClampNeg) (xs (i + (2 : Int32)).toNatClampNeg) (xs (i + (3 : Int32)).toNatClampNeg))
  obtain ⟨r, r1, r2⟩ := next (hh.1, M2) n' q' hG e3
  exact ⟨r, r1, lc_set N hG hX hS i hh.2 M1 M2 v r hb1 hb2 hb3 e1 e2 r2⟩
theorem wc_puts {l : Launch} {w : nW} {nm : String} {L : Nat} {xs : Nat → Int32} {N : Nat} (hN : 20000000 ≤ N) (hX : n_PX w L xs) (hS : n_PS w) (i : Int32) (hb1 : n_ib L (i + (1 : Int32)) = true) (hb2 : n_ib L (i + (2 : Int32)) = true) (hb3 : n_ib L (i + (3 : Int32)) = true) (hb4 : n_ib L (i + (4 : Int32)) = true) (hb5 : n_ib L (i + (5 : Int32)) = true) {hh : nH} {n q : Nat} (hG : n_GOK hh.1) (hR : Rel hh.1 hh.2 n q) (next : ∀ (h2 : nH) (n q : Nat), n_GOK h2.1 → Rel h2.1 h2.2 n q → ∃ r : nR, wl_P r ∧ n_Lw l w nm 1675 i h2 r) : ∃ r : nR, wl_P r ∧ n_Lw l w nm 370 i hh r := by
  obtain ⟨v, M1, M2, n', q', e1, e2, e3⟩ := wl_un (st_puts (N := N) (by omega) hG hR (xs (i + (1 : Int32)).toNatClampNeg) (xs (i + (2 : Int32)).toNatClampNeg) (xs (i + (3 : Int32)).toNatClampNeg))
  obtain ⟨r, r1, r2⟩ := next (hh.1, M2) n' q' hG e3
  exact ⟨r, r1, lc_puts N hG hX hS i hh.2 M1 M2 v r hb1 hb2 hb3 e1 e2 r2⟩
theorem wc_search {l : Launch} {w : nW} {nm : String} {L : Nat} {xs : Nat → Int32} {N : Nat} (hN : 20000000 ≤ N) (hX : n_PX w L xs) (hS : n_PS w) (i : Int32) (hb1 : n_ib L (i + (1 : Int32)) = true) (hb2 : n_ib L (i + (2 : Int32)) = true) (hb3 : n_ib L (i + (3 : Int32)) = true) (hb4 : n_ib L (i + (4 : Int32)) = true) (hb5 : n_ib L (i + (5 : Int32)) = true) {hh : nH} {n q : Nat} (hG : n_GOK hh.1) (hR : Rel hh.1 hh.2 n q) (next : ∀ (h2 : nH) (n q : Nat), n_GOK h2.1 → Rel h2.1 h2.2 n q → ∃ r : nR, wl_P r ∧ n_Lw l w nm 1675 i h2 r) : ∃ r : nR, wl_P r ∧ n_Lw l w nm 413 i hh r := by
  obtain ⟨v, M1, M2, n', q', e1, e2, e3⟩ := wl_un (st_search (N := N) (by omega) hG hR (xs (i + (1 : Int32)).toNatClampNeg) (xs (i + (2 : Int32)).toNatClampNeg))
  obtain ⟨r, r1, r2⟩ := next (hh.1, M2) n' q' hG e3
  exact ⟨r, r1, lc_search N hG hX hS i hh.2 M1 M2 v r hb1 hb2 e1 e2 r2⟩
theorem wc_act {l : Launch} {w : nW} {nm : String} {L : Nat} {xs : Nat → Int32} {N : Nat} (hN : 20000000 ≤ N) (hX : n_PX w L xs) (hS : n_PS w) (i : Int32) (hb1 : n_ib L (i + (1 : Int32)) = true) (hb2 : n_ib L (i + (2 : Int32)) = true) (hb3 : n_ib L (i + (3 : Int32)) = true) (hb4 : n_ib L (i + (4 : Int32)) = true) (hb5 : n_ib L (i + (5 : Int32)) = true) {hh : nH} {n q : Nat} (hG : n_GOK hh.1) (hR : Rel hh.1 hh.2 n q) (next : ∀ (h2 : nH) (n q : Nat), n_GOK h2.1 → Rel h2.1 h2.2 n q → ∃ r : nR, wl_P r ∧ n_Lw l w nm 1675 i h2 r) : ∃ r : nR, wl_P r ∧ n_Lw l w nm 446 i hh r := by
  obtain ⟨v, M1, M2, n', q', e1, e2, e3⟩ := wl_un (st_act (N := N) (by omega) hG hR (xs (i + (1 : Int32)).toNatClampNeg) (xs (i + (2 : Int32)).toNatClampNeg))
  obtain ⟨r, r1, r2⟩ := next (hh.1, M2) n' q' hG e3
  exact ⟨r, r1, lc_act N hG hX hS i hh.2 M1 M2 v r hb1 hb2 e1 e2 r2⟩
theorem wc_hours {l : Launch} {w : nW} {nm : String} {L : Nat} {xs : Nat → Int32} {N : Nat} (hN : 20000000 ≤ N) (hX : n_PX w L xs) (hS : n_PS w) (i : Int32) (hb1 : n_ib L (i + (1 : Int32)) = true) (hb2 : n_ib L (i + (2 : Int32)) = true) (hb3 : n_ib L (i + (3 : Int32)) = true) (hb4 : n_ib L (i + (4 : Int32)) = true) (hb5 : n_ib L (i + (5 : Int32)) = true) {hh : nH} {n q : Nat} (hG : n_GOK hh.1) (hR : Rel hh.1 hh.2 n q) (next : ∀ (h2 : nH) (n q : Nat), n_GOK h2.1 → Rel h2.1 h2.2 n q → ∃ r : nR, wl_P r ∧ n_Lw l w nm 1675 i h2 r) : ∃ r : nR, wl_P r ∧ n_Lw l w nm 479 i hh r := by
  obtain ⟨v, M1, M2, n', q', e1, e2, e3⟩ := wl_un (st_hours (N := N) (by omega) hG hR (xs (i + (1 : Int32)).toNatClampNeg))
  obtain ⟨r, r1, r2⟩ := next (hh.1, M2) n' q' hG e3
  exact ⟨r, r1, lc_hours N hG hX hS i hh.2 M1 M2 v r hb1 e1 e2 r2⟩
theorem wc_feed {l : Launch} {w : nW} {nm : String} {L : Nat} {xs : Nat → Int32} {N : Nat} (hN : 20000000 ≤ N) (hX : n_PX w L xs) (hS : n_PS w) (i : Int32) (hb1 : n_ib L (i + (1 : Int32)) = true) (hb2 : n_ib L (i + (2 : Int32)) = true) (hb3 : n_ib L (i + (3 : Int32)) = true) (hb4 : n_ib L (i + (4 : Int32)) = true) (hb5 : n_ib L (i + (5 : Int32)) = true) {hh : nH} {n q : Nat} (hG : n_GOK hh.1) (hR : Rel hh.1 hh.2 n q) (next : ∀ (h2 : nH) (n q : Nat), n_GOK h2.1 → Rel h2.1 h2.2 n q → ∃ r : nR, wl_P r ∧ n_Lw l w nm 1675 i h2 r) : ∃ r : nR, wl_P r ∧ n_Lw l w nm 502 i hh r := by
  obtain ⟨v, M1, M2, n', q', e1, e2, e3⟩ := wl_un (st_feed (N := N) (by omega) hR (xs (i + (1 : Int32)).toNatClampNeg) (xs (i + (2 : Int32)).toNatClampNeg) (xs (i + (3 : Int32)).toNatClampNeg) (xs (i + (4 : Int32)).toNatClampNeg) (xs (i + (5 : Int32)).toNatClampNeg))
  obtain ⟨r, r1, r2⟩ := next (hh.1, M2) n' q' hG e3
  exact ⟨r, r1, lc_feed N hG hX hS i hh.2 M1 M2 v r hb1 hb2 hb3 hb4 hb5 e1 e2 r2⟩
theorem wc_end {l : Launch} {w : nW} {nm : String} {L : Nat} {xs : Nat → Int32} {N : Nat} (hN : 20000000 ≤ N) (hX : n_PX w L xs) (hS : n_PS w) (i : Int32) (hb1 : n_ib L (i + (1 : Int32)) = true) (hb2 : n_ib L (i + (2 : Int32)) = true) (hb3 : n_ib L (i + (3 : Int32)) = true) (hb4 : n_ib L (i + (4 : Int32)) = true) (hb5 : n_ib L (i + (5 : Int32)) = true) {hh : nH} {n q : Nat} (hG : n_GOK hh.1) (hR : Rel hh.1 hh.2 n q) (next : ∀ (h2 : nH) (n q : Nat), n_GOK h2.1 → Rel h2.1 h2.2 n q → ∃ r : nR, wl_P r ∧ n_Lw l w nm 1675 i h2 r) : ∃ r : nR, wl_P r ∧ n_Lw l w nm 565 i hh r := by
  obtain ⟨v, M1, M2, n', q', e1, e2, e3⟩ := wl_un (st_end hR (xs (i + (1 : Int32)).toNatClampNeg))
  obtain ⟨r, r1, r2⟩ := next (hh.1, M2) n' q' hG e3
  exact ⟨r, r1, lc_end N hG hX hS i hh.2 M1 M2 v r hb1 e1 e2 r2⟩
theorem wc_text {l : Launch} {w : nW} {nm : String} {L : Nat} {xs : Nat → Int32} {N : Nat} (hN : 20000000 ≤ N) (hX : n_PX w L xs) (hS : n_PS w) (i : Int32) (hb1 : n_ib L (i + (1 : Int32)) = true) (hb2 : n_ib L (i + (2 : Int32)) = true) (hb3 : n_ib L (i + (3 : Int32)) = true) (hb4 : n_ib L (i + (4 : Int32)) = true) (hb5 : n_ib L (i + (5 : Int32)) = true) {hh : nH} {n q : Nat} (hG : n_GOK hh.1) (hR : Rel hh.1 hh.2 n q) (hT : wl_T N) (next : ∀ (h2 : nH) (n q : Nat), n_GOK h2.1 → Rel h2.1 h2.2 n q → ∃ r : nR, wl_P r ∧ n_Lw l w nm 1675 i h2 r) : ∃ r : nR, wl_P r ∧ n_Lw l w nm 588 i hh r := by
  obtain ⟨v, M1, M2, n', q', e1, e2, e3⟩ := wl_un (hT hh.1 hh.2 n q (xs (i + (1 : Int32)).toNatClampNeg) hG hR)
  obtain ⟨r, r1, r2⟩ := next (hh.1, M2) n' q' hG e3
  exact ⟨r, r1, lc_text N hG hX hS i hh.2 M1 M2 v r hb1 e1 e2 r2⟩
theorem wc_fault {l : Launch} {w : nW} {nm : String} {L : Nat} {xs : Nat → Int32} {N : Nat} (hN : 20000000 ≤ N) (hX : n_PX w L xs) (hS : n_PS w) (i : Int32) (hb1 : n_ib L (i + (1 : Int32)) = true) (hb2 : n_ib L (i + (2 : Int32)) = true) (hb3 : n_ib L (i + (3 : Int32)) = true) (hb4 : n_ib L (i + (4 : Int32)) = true) (hb5 : n_ib L (i + (5 : Int32)) = true) {hh : nH} {n q : Nat} (hG : n_GOK hh.1) (hR : Rel hh.1 hh.2 n q) (next : ∀ (h2 : nH) (n q : Nat), n_GOK h2.1 → Rel h2.1 h2.2 n q → ∃ r : nR, wl_P r ∧ n_Lw l w nm 1675 i h2 r) : ∃ r : nR, wl_P r ∧ n_Lw l w nm 611 i hh r := by
  obtain ⟨v, M1, M2, n', q', e1, e2, e3⟩ := wl_un (st_fault hR (xs (i + (1 : Int32)).toNatClampNeg))
  obtain ⟨r, r1, r2⟩ := next (hh.1, M2) n' q' hG e3
  exact ⟨r, r1, lc_fault N hG hX hS i hh.2 M1 M2 v r hb1 e1 e2 r2⟩
theorem wc_place {l : Launch} {w : nW} {nm : String} {L : Nat} {xs : Nat → Int32} {N : Nat} (hN : 20000000 ≤ N) (hX : n_PX w L xs) (hS : n_PS w) (i : Int32) (hb1 : n_ib L (i + (1 : Int32)) = true) (hb2 : n_ib L (i + (2 : Int32)) = true) (hb3 : n_ib L (i + (3 : Int32)) = true) (hb4 : n_ib L (i + (4 : Int32)) = true) (hb5 : n_ib L (i + (5 : Int32)) = true) {hh : nH} {n q : Nat} (hG : n_GOK hh.1) (hR : Rel hh.1 hh.2 n q) (next : ∀ (h2 : nH) (n q : Nat), n_GOK h2.1 → Rel h2.1 h2.2 n q → ∃ r : nR, wl_P r ∧ n_Lw l w nm 1675 i h2 r) : ∃ r : nR, wl_P r ∧ n_Lw l w nm 634 i hh r := by
  obtain ⟨v, M1, M2, n', q', e1, e2, e3⟩ := wl_un (st_place (N := N) (by omega) hG hR (xs (i + (1 : Int32)).toNatClampNeg) (xs (i + (2 : Int32)).toNatClampNeg))
  obtain ⟨r, r1, r2⟩ := next (hh.1, M2) n' q' hG e3
  exact ⟨r, r1, lc_place N hG hX hS i hh.2 M1 M2 v r hb1 hb2 e1 e2 r2⟩
theorem wc_of {l : Launch} {w : nW} {nm : String} {L : Nat} {xs : Nat → Int32} {N : Nat} (hN : 20000000 ≤ N) (hX : n_PX w L xs) (hS : n_PS w) (i : Int32) (hb1 : n_ib L (i + (1 : Int32)) = true) (hb2 : n_ib L (i + (2 : Int32)) = true) (hb3 : n_ib L (i + (3 : Int32)) = true) (hb4 : n_ib L (i + (4 : Int32)) = true) (hb5 : n_ib L (i + (5 : Int32)) = true) {hh : nH} {n q : Nat} (hG : n_GOK hh.1) (hR : Rel hh.1 hh.2 n q) (next : ∀ (h2 : nH) (n q : Nat), n_GOK h2.1 → Rel h2.1 h2.2 n q → ∃ r : nR, wl_P r ∧ n_Lw l w nm 1675 i h2 r) : ∃ r : nR, wl_P r ∧ n_Lw l w nm 667 i hh r := by
  obtain ⟨v, M1, M2, n', q', e1, e2, e3⟩ := wl_un (st_of hR (xs (i + (1 : Int32)).toNatClampNeg) (xs (i + (2 : Int32)).toNatClampNeg))
  obtain ⟨r, r1, r2⟩ := next (hh.1, M2) n' q' hG e3
  exact ⟨r, r1, lc_of N hG hX hS i hh.2 M1 M2 v r hb1 hb2 e1 e2 r2⟩
theorem wc_who {l : Launch} {w : nW} {nm : String} {L : Nat} {xs : Nat → Int32} {N : Nat} (hN : 20000000 ≤ N) (hX : n_PX w L xs) (hS : n_PS w) (i : Int32) (hb1 : n_ib L (i + (1 : Int32)) = true) (hb2 : n_ib L (i + (2 : Int32)) = true) (hb3 : n_ib L (i + (3 : Int32)) = true) (hb4 : n_ib L (i + (4 : Int32)) = true) (hb5 : n_ib L (i + (5 : Int32)) = true) {hh : nH} {n q : Nat} (hG : n_GOK hh.1) (hR : Rel hh.1 hh.2 n q) (next : ∀ (h2 : nH) (n q : Nat), n_GOK h2.1 → Rel h2.1 h2.2 n q → ∃ r : nR, wl_P r ∧ n_Lw l w nm 1675 i h2 r) : ∃ r : nR, wl_P r ∧ n_Lw l w nm 700 i hh r := by
  obtain ⟨v, M1, M2, n', q', e1, e2, e3⟩ := wl_un (st_who (N := N) (by omega) hG hR (xs (i + (1 : Int32)).toNatClampNeg) (xs (i + (2 : Int32)).toNatClampNeg))
  obtain ⟨r, r1, r2⟩ := next (hh.1, M2) n' q' hG e3
  exact ⟨r, r1, lc_who N hG hX hS i hh.2 M1 M2 v r hb1 hb2 e1 e2 r2⟩
theorem wc_tells {l : Launch} {w : nW} {nm : String} {L : Nat} {xs : Nat → Int32} {N : Nat} (hN : 20000000 ≤ N) (hX : n_PX w L xs) (hS : n_PS w) (i : Int32) (hb1 : n_ib L (i + (1 : Int32)) = true) (hb2 : n_ib L (i + (2 : Int32)) = true) (hb3 : n_ib L (i + (3 : Int32)) = true) (hb4 : n_ib L (i + (4 : Int32)) = true) (hb5 : n_ib L (i + (5 : Int32)) = true) {hh : nH} {n q : Nat} (hG : n_GOK hh.1) (hR : Rel hh.1 hh.2 n q) (next : ∀ (h2 : nH) (n q : Nat), n_GOK h2.1 → Rel h2.1 h2.2 n q → ∃ r : nR, wl_P r ∧ n_Lw l w nm 1675 i h2 r) : ∃ r : nR, wl_P r ∧ n_Lw l w nm 733 i hh r := by
  obtain ⟨v, M1, M2, n', q', e1, e2, e3⟩ := wl_un (st_tells (N := N) (by omega) hG hR (xs (i + (1 : Int32)).toNatClampNeg) (xs (i + (2 : Int32)).toNatClampNeg) (xs (i + (3 : Int32)).toNatClampNeg) (xs (i + (4 : Int32)).toNatClampNeg))
  obtain ⟨r, r1, r2⟩ := next (hh.1, M2) n' q' hG e3
  exact ⟨r, r1, lc_tells N hG hX hS i hh.2 M1 M2 v r hb1 hb2 hb3 hb4 e1 e2 r2⟩
theorem wc_book {l : Launch} {w : nW} {nm : String} {L : Nat} {xs : Nat → Int32} {N : Nat} (hN : 20000000 ≤ N) (hX : n_PX w L xs) (hS : n_PS w) (i : Int32) (hb1 : n_ib L (i + (1 : Int32)) = true) (hb2 : n_ib L (i + (2 : Int32)) = true) (hb3 : n_ib L (i + (3 : Int32)) = true) (hb4 : n_ib L (i + (4 : Int32)) = true) (hb5 : n_ib L (i + (5 : Int32)) = true) {hh : nH} {n q : Nat} (hG : n_GOK hh.1) (hR : Rel hh.1 hh.2 n q) (next : ∀ (h2 : nH) (n q : Nat), n_GOK h2.1 → Rel h2.1 h2.2 n q → ∃ r : nR, wl_P r ∧ n_Lw l w nm 1675 i h2 r) : ∃ r : nR, wl_P r ∧ n_Lw l w nm 786 i hh r := by
  obtain ⟨v, M1, M2, n', q', e1, e2, e3⟩ := wl_un (st_book hG hR (xs (i + (1 : Int32)).toNatClampNeg) (xs (i + (2 : Int32)).toNatClampNeg))
  obtain ⟨r, r1, r2⟩ := next (hh.1, M2) n' q' hG e3
  exact ⟨r, r1, lc_book N hG hX hS i hh.2 M1 M2 v r hb1 hb2 e1 e2 r2⟩
theorem wc_goes {l : Launch} {w : nW} {nm : String} {L : Nat} {xs : Nat → Int32} {N : Nat} (hN : 20000000 ≤ N) (hX : n_PX w L xs) (hS : n_PS w) (i : Int32) (hb1 : n_ib L (i + (1 : Int32)) = true) (hb2 : n_ib L (i + (2 : Int32)) = true) (hb3 : n_ib L (i + (3 : Int32)) = true) (hb4 : n_ib L (i + (4 : Int32)) = true) (hb5 : n_ib L (i + (5 : Int32)) = true) {hh : nH} {n q : Nat} (hG : n_GOK hh.1) (hR : Rel hh.1 hh.2 n q) (next : ∀ (h2 : nH) (n q : Nat), n_GOK h2.1 → Rel h2.1 h2.2 n q → ∃ r : nR, wl_P r ∧ n_Lw l w nm 1675 i h2 r) : ∃ r : nR, wl_P r ∧ n_Lw l w nm 819 i hh r := by
  obtain ⟨v, M1, M2, n', q', e1, e2, e3⟩ := wl_un (st_goes (N := N) (by omega) hG hR (xs (i + (1 : Int32)).toNatClampNeg) (xs (i + (2 : Int32)).toNatClampNeg))
  obtain ⟨r, r1, r2⟩ := next (hh.1, M2) n' q' hG e3
  exact ⟨r, r1, lc_goes N hG hX hS i hh.2 M1 M2 v r hb1 hb2 e1 e2 r2⟩
theorem wc_where {l : Launch} {w : nW} {nm : String} {L : Nat} {xs : Nat → Int32} {N : Nat} (hN : 20000000 ≤ N) (hX : n_PX w L xs) (hS : n_PS w) (i : Int32) (hb1 : n_ib L (i + (1 : Int32)) = true) (hb2 : n_ib L (i + (2 : Int32)) = true) (hb3 : n_ib L (i + (3 : Int32)) = true) (hb4 : n_ib L (i + (4 : Int32)) = true) (hb5 : n_ib L (i + (5 : Int32)) = true) {hh : nH} {n q : Nat} (hG : n_GOK hh.1) (hR : Rel hh.1 hh.2 n q) (next : ∀ (h2 : nH) (n q : Nat), n_GOK h2.1 → Rel h2.1 h2.2 n q → ∃ r : nR, wl_P r ∧ n_Lw l w nm 1675 i h2 r) : ∃ r : nR, wl_P r ∧ n_Lw l w nm 852 i hh r := by
  obtain ⟨v, M1, M2, n', q', e1, e2, e3⟩ := wl_un (st_where (N := N) (by omega) hG hR (xs (i + (1 : Int32)).toNatClampNeg) (xs (i + (2 : Int32)).toNatClampNeg) (xs (i + (3 : Int32)).toNatClampNeg))
  obtain ⟨r, r1, r2⟩ := next (hh.1, M2) n' q' hG e3
  exact ⟨r, r1, lc_where N hG hX hS i hh.2 M1 M2 v r hb1 hb2 hb3 e1 e2 r2⟩
theorem wc_brings {l : Launch} {w : nW} {nm : String} {L : Nat} {xs : Nat → Int32} {N : Nat} (hN : 20000000 ≤ N) (hX : n_PX w L xs) (hS : n_PS w) (i : Int32) (hb1 : n_ib L (i + (1 : Int32)) = true) (hb2 : n_ib L (i + (2 : Int32)) = true) (hb3 : n_ib L (i + (3 : Int32)) = true) (hb4 : n_ib L (i + (4 : Int32)) = true) (hb5 : n_ib L (i + (5 : Int32)) = true) {hh : nH} {n q : Nat} (hG : n_GOK hh.1) (hR : Rel hh.1 hh.2 n q) (next : ∀ (h2 : nH) (n q : Nat), n_GOK h2.1 → Rel h2.1 h2.2 n q → ∃ r : nR, wl_P r ∧ n_Lw l w nm 1675 i h2 r) : ∃ r : nR, wl_P r ∧ n_Lw l w nm 895 i hh r := by
  obtain ⟨v, M1, M2, n', q', e1, e2, e3⟩ := wl_un (st_brings (N := N) (by omega) hG hR (xs (i + (1 : Int32)).toNatClampNeg) (xs (i + (2 : Int32)).toNatClampNeg))
  obtain ⟨r, r1, r2⟩ := next (hh.1, M2) n' q' hG e3
  exact ⟨r, r1, lc_brings N hG hX hS i hh.2 M1 M2 v r hb1 hb2 e1 e2 r2⟩
theorem wc_swap {l : Launch} {w : nW} {nm : String} {L : Nat} {xs : Nat → Int32} {N : Nat} (hN : 20000000 ≤ N) (hX : n_PX w L xs) (hS : n_PS w) (i : Int32) (hb1 : n_ib L (i + (1 : Int32)) = true) (hb2 : n_ib L (i + (2 : Int32)) = true) (hb3 : n_ib L (i + (3 : Int32)) = true) (hb4 : n_ib L (i + (4 : Int32)) = true) (hb5 : n_ib L (i + (5 : Int32)) = true) {hh : nH} {n q : Nat} (hG : n_GOK hh.1) (hR : Rel hh.1 hh.2 n q) (next : ∀ (h2 : nH) (n q : Nat), n_GOK h2.1 → Rel h2.1 h2.2 n q → ∃ r : nR, wl_P r ∧ n_Lw l w nm 1675 i h2 r) : ∃ r : nR, wl_P r ∧ n_Lw l w nm 928 i hh r := by
  obtain ⟨v, M1, M2, n', q', e1, e2, e3⟩ := wl_un (st_swap hG hR (xs (i + (1 : Int32)).toNatClampNeg) (xs (i + (2 : Int32)).toNatClampNeg))
  obtain ⟨r, r1, r2⟩ := next (hh.1, M2) n' q' hG e3
  exact ⟨r, r1, lc_swap N hG hX hS i hh.2 M1 M2 v r hb1 hb2 e1 e2 r2⟩
theorem wc_under {l : Launch} {w : nW} {nm : String} {L : Nat} {xs : Nat → Int32} {N : Nat} (hN : 20000000 ≤ N) (hX : n_PX w L xs) (hS : n_PS w) (i : Int32) (hb1 : n_ib L (i + (1 : Int32)) = true) (hb2 : n_ib L (i + (2 : Int32)) = true) (hb3 : n_ib L (i + (3 : Int32)) = true) (hb4 : n_ib L (i + (4 : Int32)) = true) (hb5 : n_ib L (i + (5 : Int32)) = true) {hh : nH} {n q : Nat} (hG : n_GOK hh.1) (hR : Rel hh.1 hh.2 n q) (next : ∀ (h2 : nH) (n q : Nat), n_GOK h2.1 → Rel h2.1 h2.2 n q → ∃ r : nR, wl_P r ∧ n_Lw l w nm 1675 i h2 r) : ∃ r : nR, wl_P r ∧ n_Lw l w nm 961 i hh r := by
  obtain ⟨v, M1, M2, n', q', e1, e2, e3⟩ := wl_un (st_under (N := N) (by omega) hG hR (xs (i + (1 : Int32)).toNatClampNeg))
  obtain ⟨r, r1, r2⟩ := next (hh.1, M2) n' q' hG e3
  exact ⟨r, r1, lc_under N hG hX hS i hh.2 M1 M2 v r hb1 e1 e2 r2⟩
theorem wc_pick {l : Launch} {w : nW} {nm : String} {L : Nat} {xs : Nat → Int32} {N : Nat} (hN : 20000000 ≤ N) (hX : n_PX w L xs) (hS : n_PS w) (i : Int32) (hb1 : n_ib L (i + (1 : Int32)) = true) (hb2 : n_ib L (i + (2 : Int32)) = true) (hb3 : n_ib L (i + (3 : Int32)) = true) (hb4 : n_ib L (i + (4 : Int32)) = true) (hb5 : n_ib L (i + (5 : Int32)) = true) {hh : nH} {n q : Nat} (hG : n_GOK hh.1) (hR : Rel hh.1 hh.2 n q) (next : ∀ (h2 : nH) (n q : Nat), n_GOK h2.1 → Rel h2.1 h2.2 n q → ∃ r : nR, wl_P r ∧ n_Lw l w nm 1675 i h2 r) : ∃ r : nR, wl_P r ∧ n_Lw l w nm 984 i hh r := by
  obtain ⟨v, M1, M2, n', q', e1, e2, e3⟩ := wl_un (st_pick hG hR (xs (i + (1 : Int32)).toNatClampNeg))
  obtain ⟨r, r1, r2⟩ := next (hh.1, M2) n' q' hG e3
  exact ⟨r, r1, lc_pick N hG hX hS i hh.2 M1 M2 v r hb1 e1 e2 r2⟩
theorem wc_card {l : Launch} {w : nW} {nm : String} {L : Nat} {xs : Nat → Int32} {N : Nat} (hN : 20000000 ≤ N) (hX : n_PX w L xs) (hS : n_PS w) (i : Int32) (hb1 : n_ib L (i + (1 : Int32)) = true) (hb2 : n_ib L (i + (2 : Int32)) = true) (hb3 : n_ib L (i + (3 : Int32)) = true) (hb4 : n_ib L (i + (4 : Int32)) = true) (hb5 : n_ib L (i + (5 : Int32)) = true) {hh : nH} {n q : Nat} (hG : n_GOK hh.1) (hR : Rel hh.1 hh.2 n q) (next : ∀ (h2 : nH) (n q : Nat), n_GOK h2.1 → Rel h2.1 h2.2 n q → ∃ r : nR, wl_P r ∧ n_Lw l w nm 1675 i h2 r) : ∃ r : nR, wl_P r ∧ n_Lw l w nm 1007 i hh r := by
  obtain ⟨v, M1, M2, n', q', e1, e2, e3⟩ := wl_un (st_card (N := N) (by omega) hG hR (xs (i + (1 : Int32)).toNatClampNeg) (xs (i + (2 : Int32)).toNatClampNeg))
  obtain ⟨r, r1, r2⟩ := next (hh.1, M2) n' q' hG e3
  exact ⟨r, r1, lc_card N hG hX hS i hh.2 M1 M2 v r hb1 hb2 e1 e2 r2⟩
theorem wc_box {l : Launch} {w : nW} {nm : String} {L : Nat} {xs : Nat → Int32} {N : Nat} (hN : 20000000 ≤ N) (hX : n_PX w L xs) (hS : n_PS w) (i : Int32) (hb1 : n_ib L (i + (1 : Int32)) = true) (hb2 : n_ib L (i + (2 : Int32)) = true) (hb3 : n_ib L (i + (3 : Int32)) = true) (hb4 : n_ib L (i + (4 : Int32)) = true) (hb5 : n_ib L (i + (5 : Int32)) = true) {hh : nH} {n q : Nat} (hG : n_GOK hh.1) (hR : Rel hh.1 hh.2 n q) (next : ∀ (h2 : nH) (n q : Nat), n_GOK h2.1 → Rel h2.1 h2.2 n q → ∃ r : nR, wl_P r ∧ n_Lw l w nm 1675 i h2 r) : ∃ r : nR, wl_P r ∧ n_Lw l w nm 1040 i hh r := by
  obtain ⟨v, M1, M2, n', q', e1, e2, e3⟩ := wl_un (st_box hG hR (xs (i + (1 : Int32)).toNatClampNeg) (xs (i + (2 : Int32)).toNatClampNeg))
  obtain ⟨r, r1, r2⟩ := next (hh.1, M2) n' q' hG e3
  exact ⟨r, r1, lc_box N hG hX hS i hh.2 M1 M2 v r hb1 hb2 e1 e2 r2⟩
theorem wc_boxes {l : Launch} {w : nW} {nm : String} {L : Nat} {xs : Nat → Int32} {N : Nat} (hN : 20000000 ≤ N) (hX : n_PX w L xs) (hS : n_PS w) (i : Int32) (hb1 : n_ib L (i + (1 : Int32)) = true) (hb2 : n_ib L (i + (2 : Int32)) = true) (hb3 : n_ib L (i + (3 : Int32)) = true) (hb4 : n_ib L (i + (4 : Int32)) = true) (hb5 : n_ib L (i + (5 : Int32)) = true) {hh : nH} {n q : Nat} (hG : n_GOK hh.1) (hR : Rel hh.1 hh.2 n q) (next : ∀ (h2 : nH) (n q : Nat), n_GOK h2.1 → Rel h2.1 h2.2 n q → ∃ r : nR, wl_P r ∧ n_Lw l w nm 1675 i h2 r) : ∃ r : nR, wl_P r ∧ n_Lw l w nm 1073 i hh r := by
  obtain ⟨v, M1, M2, n', q', e1, e2, e3⟩ := wl_un (st_boxes (N := N) (by omega) hG hR (xs (i + (1 : Int32)).toNatClampNeg))
  obtain ⟨r, r1, r2⟩ := next (hh.1, M2) n' q' hG e3
  exact ⟨r, r1, lc_boxes N hG hX hS i hh.2 M1 M2 v r hb1 e1 e2 r2⟩
theorem wc_key {l : Launch} {w : nW} {nm : String} {L : Nat} {xs : Nat → Int32} {N : Nat} (hN : 20000000 ≤ N) (hX : n_PX w L xs) (hS : n_PS w) (i : Int32) (hb1 : n_ib L (i + (1 : Int32)) = true) (hb2 : n_ib L (i + (2 : Int32)) = true) (hb3 : n_ib L (i + (3 : Int32)) = true) (hb4 : n_ib L (i + (4 : Int32)) = true) (hb5 : n_ib L (i + (5 : Int32)) = true) {hh : nH} {n q : Nat} (hG : n_GOK hh.1) (hR : Rel hh.1 hh.2 n q) (next : ∀ (h2 : nH) (n q : Nat), n_GOK h2.1 → Rel h2.1 h2.2 n q → ∃ r : nR, wl_P r ∧ n_Lw l w nm 1675 i h2 r) : ∃ r : nR, wl_P r ∧ n_Lw l w nm 1096 i hh r := by
  obtain ⟨v, M1, M2, n', q', e1, e2, e3⟩ := wl_un (st_key (N := N) (by omega) hG hR (xs (i + (1 : Int32)).toNatClampNeg) (xs (i + (2 : Int32)).toNatClampNeg))
  obtain ⟨r, r1, r2⟩ := next (hh.1, M2) n' q' hG e3
  exact ⟨r, r1, lc_key N hG hX hS i hh.2 M1 M2 v r hb1 hb2 e1 e2 r2⟩
theorem wc_opened {l : Launch} {w : nW} {nm : String} {L : Nat} {xs : Nat → Int32} {N : Nat} (hN : 20000000 ≤ N) (hX : n_PX w L xs) (hS : n_PS w) (i : Int32) (hb1 : n_ib L (i + (1 : Int32)) = true) (hb2 : n_ib L (i + (2 : Int32)) = true) (hb3 : n_ib L (i + (3 : Int32)) = true) (hb4 : n_ib L (i + (4 : Int32)) = true) (hb5 : n_ib L (i + (5 : Int32)) = true) {hh : nH} {n q : Nat} (hG : n_GOK hh.1) (hR : Rel hh.1 hh.2 n q) (next : ∀ (h2 : nH) (n q : Nat), n_GOK h2.1 → Rel h2.1 h2.2 n q → ∃ r : nR, wl_P r ∧ n_Lw l w nm 1675 i h2 r) : ∃ r : nR, wl_P r ∧ n_Lw l w nm 1129 i hh r := by
  obtain ⟨v, M1, M2, n', q', e1, e2, e3⟩ := wl_un (st_opened (N := N) (by omega) hG hR (xs (i + (1 : Int32)).toNatClampNeg))
  obtain ⟨r, r1, r2⟩ := next (hh.1, M2) n' q' hG e3
  exact ⟨r, r1, lc_opened N hG hX hS i hh.2 M1 M2 v r hb1 e1 e2 r2⟩
theorem wc_ring {l : Launch} {w : nW} {nm : String} {L : Nat} {xs : Nat → Int32} {N : Nat} (hN : 20000000 ≤ N) (hX : n_PX w L xs) (hS : n_PS w) (i : Int32) (hb1 : n_ib L (i + (1 : Int32)) = true) (hb2 : n_ib L (i + (2 : Int32)) = true) (hb3 : n_ib L (i + (3 : Int32)) = true) (hb4 : n_ib L (i + (4 : Int32)) = true) (hb5 : n_ib L (i + (5 : Int32)) = true) {hh : nH} {n q : Nat} (hG : n_GOK hh.1) (hR : Rel hh.1 hh.2 n q) (next : ∀ (h2 : nH) (n q : Nat), n_GOK h2.1 → Rel h2.1 h2.2 n q → ∃ r : nR, wl_P r ∧ n_Lw l w nm 1675 i h2 r) : ∃ r : nR, wl_P r ∧ n_Lw l w nm 1152 i hh r := by
  obtain ⟨v, M1, M2, n', q', e1, e2, e3⟩ := wl_un (st_ring (N := N) (by omega) hG hR (xs (i + (1 : Int32)).toNatClampNeg) (xs (i + (2 : Int32)).toNatClampNeg) (xs (i + (3 : Int32)).toNatClampNeg))
  obtain ⟨r, r1, r2⟩ := next (hh.1, M2) n' q' hG e3
  exact ⟨r, r1, lc_ring N hG hX hS i hh.2 M1 M2 v r hb1 hb2 hb3 e1 e2 r2⟩
theorem wc_gift {l : Launch} {w : nW} {nm : String} {L : Nat} {xs : Nat → Int32} {N : Nat} (hN : 20000000 ≤ N) (hX : n_PX w L xs) (hS : n_PS w) (i : Int32) (hb1 : n_ib L (i + (1 : Int32)) = true) (hb2 : n_ib L (i + (2 : Int32)) = true) (hb3 : n_ib L (i + (3 : Int32)) = true) (hb4 : n_ib L (i + (4 : Int32)) = true) (hb5 : n_ib L (i + (5 : Int32)) = true) {hh : nH} {n q : Nat} (hG : n_GOK hh.1) (hR : Rel hh.1 hh.2 n q) (next : ∀ (h2 : nH) (n q : Nat), n_GOK h2.1 → Rel h2.1 h2.2 n q → ∃ r : nR, wl_P r ∧ n_Lw l w nm 1675 i h2 r) : ∃ r : nR, wl_P r ∧ n_Lw l w nm 1195 i hh r := by
  obtain ⟨v, M1, M2, n', q', e1, e2, e3⟩ := wl_un (st_gift hG hR (xs (i + (1 : Int32)).toNatClampNeg) (xs (i + (2 : Int32)).toNatClampNeg))
  obtain ⟨r, r1, r2⟩ := next (hh.1, M2) n' q' hG e3
  exact ⟨r, r1, lc_gift N hG hX hS i hh.2 M1 M2 v r hb1 hb2 e1 e2 r2⟩
theorem wc_heir {l : Launch} {w : nW} {nm : String} {L : Nat} {xs : Nat → Int32} {N : Nat} (hN : 20000000 ≤ N) (hX : n_PX w L xs) (hS : n_PS w) (i : Int32) (hb1 : n_ib L (i + (1 : Int32)) = true) (hb2 : n_ib L (i + (2 : Int32)) = true) (hb3 : n_ib L (i + (3 : Int32)) = true) (hb4 : n_ib L (i + (4 : Int32)) = true) (hb5 : n_ib L (i + (5 : Int32)) = true) {hh : nH} {n q : Nat} (hG : n_GOK hh.1) (hR : Rel hh.1 hh.2 n q) (next : ∀ (h2 : nH) (n q : Nat), n_GOK h2.1 → Rel h2.1 h2.2 n q → ∃ r : nR, wl_P r ∧ n_Lw l w nm 1675 i h2 r) : ∃ r : nR, wl_P r ∧ n_Lw l w nm 1228 i hh r := by
  obtain ⟨v, M1, M2, n', q', e1, e2, e3⟩ := wl_un (st_heir (N := N) (by omega) hG hR (xs (i + (1 : Int32)).toNatClampNeg))
  obtain ⟨r, r1, r2⟩ := next (hh.1, M2) n' q' hG e3
  exact ⟨r, r1, lc_heir N hG hX hS i hh.2 M1 M2 v r hb1 e1 e2 r2⟩
theorem wc_weighings {l : Launch} {w : nW} {nm : String} {L : Nat} {xs : Nat → Int32} {N : Nat} (hN : 20000000 ≤ N) (hX : n_PX w L xs) (hS : n_PS w) (i : Int32) (hb1 : n_ib L (i + (1 : Int32)) = true) (hb2 : n_ib L (i + (2 : Int32)) = true) (hb3 : n_ib L (i + (3 : Int32)) = true) (hb4 : n_ib L (i + (4 : Int32)) = true) (hb5 : n_ib L (i + (5 : Int32)) = true) {hh : nH} {n q : Nat} (hG : n_GOK hh.1) (hR : Rel hh.1 hh.2 n q) (next : ∀ (h2 : nH) (n q : Nat), n_GOK h2.1 → Rel h2.1 h2.2 n q → ∃ r : nR, wl_P r ∧ n_Lw l w nm 1675 i h2 r) : ∃ r : nR, wl_P r ∧ n_Lw l w nm 1251 i hh r := by
  obtain ⟨v, M1, M2, n', q', e1, e2, e3⟩ := wl_un (st_weighings (N := N) (by omega) hR (xs (i + (1 : Int32)).toNatClampNeg) (xs (i + (2 : Int32)).toNatClampNeg))
  obtain ⟨r, r1, r2⟩ := next (hh.1, M2) n' q' hG e3
  exact ⟨r, r1, lc_weighings N hG hX hS i hh.2 M1 M2 v r hb1 hb2 e1 e2 r2⟩
theorem wc_rings {l : Launch} {w : nW} {nm : String} {L : Nat} {xs : Nat → Int32} {N : Nat} (hN : 20000000 ≤ N) (hX : n_PX w L xs) (hS : n_PS w) (i : Int32) (hb1 : n_ib L (i + (1 : Int32)) = true) (hb2 : n_ib L (i + (2 : Int32)) = true) (hb3 : n_ib L (i + (3 : Int32)) = true) (hb4 : n_ib L (i + (4 : Int32)) = true) (hb5 : n_ib L (i + (5 : Int32)) = true) {hh : nH} {n q : Nat} (hG : n_GOK hh.1) (hR : Rel hh.1 hh.2 n q) (next : ∀ (h2 : nH) (n q : Nat), n_GOK h2.1 → Rel h2.1 h2.2 n q → ∃ r : nR, wl_P r ∧ n_Lw l w nm 1675 i h2 r) : ∃ r : nR, wl_P r ∧ n_Lw l w nm 1284 i hh r := by
  obtain ⟨v, M1, M2, n', q', e1, e2, e3⟩ := wl_un (st_rings (N := N) (by omega) hR (xs (i + (1 : Int32)).toNatClampNeg) (xs (i + (2 : Int32)).toNatClampNeg))
  obtain ⟨r, r1, r2⟩ := next (hh.1, M2) n' q' hG e3
  exact ⟨r, r1, lc_rings N hG hX hS i hh.2 M1 M2 v r hb1 hb2 e1 e2 r2⟩
theorem wc_hats {l : Launch} {w : nW} {nm : String} {L : Nat} {xs : Nat → Int32} {N : Nat} (hN : 20000000 ≤ N) (hX : n_PX w L xs) (hS : n_PS w) (i : Int32) (hb1 : n_ib L (i + (1 : Int32)) = true) (hb2 : n_ib L (i + (2 : Int32)) = true) (hb3 : n_ib L (i + (3 : Int32)) = true) (hb4 : n_ib L (i + (4 : Int32)) = true) (hb5 : n_ib L (i + (5 : Int32)) = true) {hh : nH} {n q : Nat} (hG : n_GOK hh.1) (hR : Rel hh.1 hh.2 n q) (next : ∀ (h2 : nH) (n q : Nat), n_GOK h2.1 → Rel h2.1 h2.2 n q → ∃ r : nR, wl_P r ∧ n_Lw l w nm 1675 i h2 r) : ∃ r : nR, wl_P r ∧ n_Lw l w nm 1317 i hh r := by
  obtain ⟨v, M1, M2, n', q', e1, e2, e3⟩ := wl_un (st_hats (N := N) (by omega) hR (xs (i + (1 : Int32)).toNatClampNeg) (xs (i + (2 : Int32)).toNatClampNeg))
  obtain ⟨r, r1, r2⟩ := next (hh.1, M2) n' q' hG e3
  exact ⟨r, r1, lc_hats N hG hX hS i hh.2 M1 M2 v r hb1 hb2 e1 e2 r2⟩
theorem wc_mirror {l : Launch} {w : nW} {nm : String} {L : Nat} {xs : Nat → Int32} {N : Nat} (hN : 20000000 ≤ N) (hX : n_PX w L xs) (hS : n_PS w) (i : Int32) (hb1 : n_ib L (i + (1 : Int32)) = true) (hb2 : n_ib L (i + (2 : Int32)) = true) (hb3 : n_ib L (i + (3 : Int32)) = true) (hb4 : n_ib L (i + (4 : Int32)) = true) (hb5 : n_ib L (i + (5 : Int32)) = true) {hh : nH} {n q : Nat} (hG : n_GOK hh.1) (hR : Rel hh.1 hh.2 n q) (next : ∀ (h2 : nH) (n q : Nat), n_GOK h2.1 → Rel h2.1 h2.2 n q → ∃ r : nR, wl_P r ∧ n_Lw l w nm 1675 i h2 r) : ∃ r : nR, wl_P r ∧ n_Lw l w nm 1350 i hh r := by
  obtain ⟨v, M1, M2, n', q', e1, e2, e3⟩ := wl_un (st_mirror hG hR (xs (i + (1 : Int32)).toNatClampNeg) (xs (i + (2 : Int32)).toNatClampNeg))
  obtain ⟨r, r1, r2⟩ := next (hh.1, M2) n' q' hG e3
  exact ⟨r, r1, lc_mirror N hG hX hS i hh.2 M1 M2 v r hb1 hb2 e1 e2 r2⟩
theorem wc_glance {l : Launch} {w : nW} {nm : String} {L : Nat} {xs : Nat → Int32} {N : Nat} (hN : 20000000 ≤ N) (hX : n_PX w L xs) (hS : n_PS w) (i : Int32) (hb1 : n_ib L (i + (1 : Int32)) = true) (hb2 : n_ib L (i + (2 : Int32)) = true) (hb3 : n_ib L (i + (3 : Int32)) = true) (hb4 : n_ib L (i + (4 : Int32)) = true) (hb5 : n_ib L (i + (5 : Int32)) = true) {hh : nH} {n q : Nat} (hG : n_GOK hh.1) (hR : Rel hh.1 hh.2 n q) (next : ∀ (h2 : nH) (n q : Nat), n_GOK h2.1 → Rel h2.1 h2.2 n q → ∃ r : nR, wl_P r ∧ n_Lw l w nm 1675 i h2 r) : ∃ r : nR, wl_P r ∧ n_Lw l w nm 1383 i hh r := by
  obtain ⟨v, M1, M2, n', q', e1, e2, e3⟩ := wl_un (st_glance (N := N) (by omega) hR (xs (i + (1 : Int32)).toNatClampNeg) (xs (i + (2 : Int32)).toNatClampNeg))
  obtain ⟨r, r1, r2⟩ := next (hh.1, M2) n' q' hG e3
  exact ⟨r, r1, lc_glance N hG hX hS i hh.2 M1 M2 v r hb1 hb2 e1 e2 r2⟩
theorem wc_clue {l : Launch} {w : nW} {nm : String} {L : Nat} {xs : Nat → Int32} {N : Nat} (hN : 20000000 ≤ N) (hX : n_PX w L xs) (hS : n_PS w) (i : Int32) (hb1 : n_ib L (i + (1 : Int32)) = true) (hb2 : n_ib L (i + (2 : Int32)) = true) (hb3 : n_ib L (i + (3 : Int32)) = true) (hb4 : n_ib L (i + (4 : Int32)) = true) (hb5 : n_ib L (i + (5 : Int32)) = true) {hh : nH} {n q : Nat} (hG : n_GOK hh.1) (hR : Rel hh.1 hh.2 n q) (next : ∀ (h2 : nH) (n q : Nat), n_GOK h2.1 → Rel h2.1 h2.2 n q → ∃ r : nR, wl_P r ∧ n_Lw l w nm 1675 i h2 r) : ∃ r : nR, wl_P r ∧ n_Lw l w nm 1416 i hh r := by
  obtain ⟨v, M1, M2, n', q', e1, e2, e3⟩ := wl_un (st_clue hG hR (xs (i + (1 : Int32)).toNatClampNeg) (xs (i + (2 : Int32)).toNatClampNeg) (if (xs (i + (3 : Int32)).toNatClampNeg) = 0 then 0 else 1))
  obtain ⟨r, r1, r2⟩ := next (hh.1, M2) n' q' hG e3
  exact ⟨r, r1, lc_clue N hG hX hS i hh.2 M1 M2 v r hb1 hb2 hb3 e1 e2 r2⟩
theorem wc_fits {l : Launch} {w : nW} {nm : String} {L : Nat} {xs : Nat → Int32} {N : Nat} (hN : 20000000 ≤ N) (hX : n_PX w L xs) (hS : n_PS w) (i : Int32) (hb1 : n_ib L (i + (1 : Int32)) = true) (hb2 : n_ib L (i + (2 : Int32)) = true) (hb3 : n_ib L (i + (3 : Int32)) = true) (hb4 : n_ib L (i + (4 : Int32)) = true) (hb5 : n_ib L (i + (5 : Int32)) = true) {hh : nH} {n q : Nat} (hG : n_GOK hh.1) (hR : Rel hh.1 hh.2 n q) (next : ∀ (h2 : nH) (n q : Nat), n_GOK h2.1 → Rel h2.1 h2.2 n q → ∃ r : nR, wl_P r ∧ n_Lw l w nm 1675 i h2 r) : ∃ r : nR, wl_P r ∧ n_Lw l w nm 1475 i hh r := by
  obtain ⟨v, M1, M2, n', q', e1, e2, e3⟩ := wl_un (st_fits (N := N) (by omega) hG hR (xs (i + (1 : Int32)).toNatClampNeg))
  obtain ⟨r, r1, r2⟩ := next (hh.1, M2) n' q' hG e3
  exact ⟨r, r1, lc_fits N hG hX hS i hh.2 M1 M2 v r hb1 e1 e2 r2⟩
theorem wc_share {l : Launch} {w : nW} {nm : String} {L : Nat} {xs : Nat → Int32} {N : Nat} (hN : 20000000 ≤ N) (hX : n_PX w L xs) (hS : n_PS w) (i : Int32) (hb1 : n_ib L (i + (1 : Int32)) = true) (hb2 : n_ib L (i + (2 : Int32)) = true) (hb3 : n_ib L (i + (3 : Int32)) = true) (hb4 : n_ib L (i + (4 : Int32)) = true) (hb5 : n_ib L (i + (5 : Int32)) = true) {hh : nH} {n q : Nat} (hG : n_GOK hh.1) (hR : Rel hh.1 hh.2 n q) (next : ∀ (h2 : nH) (n q : Nat), n_GOK h2.1 → Rel h2.1 h2.2 n q → ∃ r : nR, wl_P r ∧ n_Lw l w nm 1675 i h2 r) : ∃ r : nR, wl_P r ∧ n_Lw l w nm 1498 i hh r := by
  obtain ⟨v, M1, M2, n', q', e1, e2, e3⟩ := wl_un (st_share hG hR (xs (i + (1 : Int32)).toNatClampNeg))
  obtain ⟨r, r1, r2⟩ := next (hh.1, M2) n' q' hG e3
  exact ⟨r, r1, lc_share N hG hX hS i hh.2 M1 M2 v r hb1 e1 e2 r2⟩
theorem wc_gets {l : Launch} {w : nW} {nm : String} {L : Nat} {xs : Nat → Int32} {N : Nat} (hN : 20000000 ≤ N) (hX : n_PX w L xs) (hS : n_PS w) (i : Int32) (hb1 : n_ib L (i + (1 : Int32)) = true) (hb2 : n_ib L (i + (2 : Int32)) = true) (hb3 : n_ib L (i + (3 : Int32)) = true) (hb4 : n_ib L (i + (4 : Int32)) = true) (hb5 : n_ib L (i + (5 : Int32)) = true) {hh : nH} {n q : Nat} (hG : n_GOK hh.1) (hR : Rel hh.1 hh.2 n q) (next : ∀ (h2 : nH) (n q : Nat), n_GOK h2.1 → Rel h2.1 h2.2 n q → ∃ r : nR, wl_P r ∧ n_Lw l w nm 1675 i h2 r) : ∃ r : nR, wl_P r ∧ n_Lw l w nm 1521 i hh r := by
  obtain ⟨v, M1, M2, n', q', e1, e2, e3⟩ := wl_un (st_gets (N := N) (by omega) hG hR (xs (i + (1 : Int32)).toNatClampNeg) (xs (i + (2 : Int32)).toNatClampNeg))
  obtain ⟨r, r1, r2⟩ := next (hh.1, M2) n' q' hG e3
  exact ⟨r, r1, lc_gets N hG hX hS i hh.2 M1 M2 v r hb1 hb2 e1 e2 r2⟩
theorem wc_row {l : Launch} {w : nW} {nm : String} {L : Nat} {xs : Nat → Int32} {N : Nat} (hN : 20000000 ≤ N) (hX : n_PX w L xs) (hS : n_PS w) (i : Int32) (hb1 : n_ib L (i + (1 : Int32)) = true) (hb2 : n_ib L (i + (2 : Int32)) = true) (hb3 : n_ib L (i + (3 : Int32)) = true) (hb4 : n_ib L (i + (4 : Int32)) = true) (hb5 : n_ib L (i + (5 : Int32)) = true) {hh : nH} {n q : Nat} (hG : n_GOK hh.1) (hR : Rel hh.1 hh.2 n q) (next : ∀ (h2 : nH) (n q : Nat), n_GOK h2.1 → Rel h2.1 h2.2 n q → ∃ r : nR, wl_P r ∧ n_Lw l w nm 1675 i h2 r) : ∃ r : nR, wl_P r ∧ n_Lw l w nm 1554 i hh r := by
  obtain ⟨v, M1, M2, n', q', e1, e2, e3⟩ := wl_un (st_row hG hR (xs (i + (1 : Int32)).toNatClampNeg))
  obtain ⟨r, r1, r2⟩ := next (hh.1, M2) n' q' hG e3
  exact ⟨r, r1, lc_row N hG hX hS i hh.2 M1 M2 v r hb1 e1 e2 r2⟩
theorem wc_game {l : Launch} {w : nW} {nm : String} {L : Nat} {xs : Nat → Int32} {N : Nat} (hN : 20000000 ≤ N) (hX : n_PX w L xs) (hS : n_PS w) (i : Int32) (hb1 : n_ib L (i + (1 : Int32)) = true) (hb2 : n_ib L (i + (2 : Int32)) = true) (hb3 : n_ib L (i + (3 : Int32)) = true) (hb4 : n_ib L (i + (4 : Int32)) = true) (hb5 : n_ib L (i + (5 : Int32)) = true) {hh : nH} {n q : Nat} (hG : n_GOK hh.1) (hR : Rel hh.1 hh.2 n q) (next : ∀ (h2 : nH) (n q : Nat), n_GOK h2.1 → Rel h2.1 h2.2 n q → ∃ r : nR, wl_P r ∧ n_Lw l w nm 1675 i h2 r) : ∃ r : nR, wl_P r ∧ n_Lw l w nm 1577 i hh r := by
  obtain ⟨v, M1, M2, n', q', e1, e2, e3⟩ := wl_un (st_game (N := N) (by omega) hG hR (xs (i + (1 : Int32)).toNatClampNeg))
  obtain ⟨r, r1, r2⟩ := next (hh.1, M2) n' q' hG e3
  exact ⟨r, r1, lc_game N hG hX hS i hh.2 M1 M2 v r hb1 e1 e2 r2⟩
theorem wc_undo {l : Launch} {w : nW} {nm : String} {L : Nat} {xs : Nat → Int32} {N : Nat} (hN : 20000000 ≤ N) (hX : n_PX w L xs) (hS : n_PS w) (i : Int32) (hb1 : n_ib L (i + (1 : Int32)) = true) (hb2 : n_ib L (i + (2 : Int32)) = true) (hb3 : n_ib L (i + (3 : Int32)) = true) (hb4 : n_ib L (i + (4 : Int32)) = true) (hb5 : n_ib L (i + (5 : Int32)) = true) {hh : nH} {n q : Nat} (hG : n_GOK hh.1) (hR : Rel hh.1 hh.2 n q) (next : ∀ (h2 : nH) (n q : Nat), n_GOK h2.1 → Rel h2.1 h2.2 n q → ∃ r : nR, wl_P r ∧ n_Lw l w nm 1675 i h2 r) : ∃ r : nR, wl_P r ∧ n_Lw l w nm 1600 i hh r := by
  obtain ⟨v, M1, M2, n', q', e1, e2, e3⟩ := wl_un (st_undo (N := N) (by omega) hG hR )
  obtain ⟨r, r1, r2⟩ := next (hh.1, M2) n' q' hG e3
  exact ⟨r, r1, lc_undo N hG hX hS i hh.2 M1 M2 v r  e1 e2 r2⟩
theorem wc_image {l : Launch} {w : nW} {nm : String} {L : Nat} {xs : Nat → Int32} {N : Nat} (hN : 20000000 ≤ N) (hX : n_PX w L xs) (hS : n_PS w) (i : Int32) (hb1 : n_ib L (i + (1 : Int32)) = true) (hb2 : n_ib L (i + (2 : Int32)) = true) (hb3 : n_ib L (i + (3 : Int32)) = true) (hb4 : n_ib L (i + (4 : Int32)) = true) (hb5 : n_ib L (i + (5 : Int32)) = true) {hh : nH} {n q : Nat} (hG : n_GOK hh.1) (hR : Rel hh.1 hh.2 n q) (hI : wl_I N) (next : ∀ (h2 : nH) (n q : Nat), n_GOK h2.1 → Rel h2.1 h2.2 n q → ∃ r : nR, wl_P r ∧ n_Lw l w nm 1675 i h2 r) : ∃ r : nR, wl_P r ∧ n_Lw l w nm 1613 i hh r := by
  obtain ⟨v, h', M2, n', q', e1, e2, e3, e4⟩ := hI hh n q (xs (i + (1 : Int32)).toNatClampNeg) hG hR
  obtain ⟨r, r1, r2⟩ := next (h'.1, M2) n' q' e2 e4
  exact ⟨r, r1, lc_image N hX hS i hh h' M2 v r (hG.1 1 (by decide)) e2 hb1 e1 e3 r2⟩
theorem wc_look {l : Launch} {w : nW} {nm : String} {L : Nat} {xs : Nat → Int32} {N : Nat} (hN : 20000000 ≤ N) (hX : n_PX w L xs) (hS : n_PS w) (i : Int32) (hb1 : n_ib L (i + (1 : Int32)) = true) (hb2 : n_ib L (i + (2 : Int32)) = true) (hb3 : n_ib L (i + (3 : Int32)) = true) (hb4 : n_ib L (i + (4 : Int32)) = true) (hb5 : n_ib L (i + (5 : Int32)) = true) {hh : nH} {n q : Nat} (hG : n_GOK hh.1) (hR : Rel hh.1 hh.2 n q) (next : ∀ (h2 : nH) (n q : Nat), n_GOK h2.1 → Rel h2.1 h2.2 n q → ∃ r : nR, wl_P r ∧ n_Lw l w nm 1675 i h2 r) : ∃ r : nR, wl_P r ∧ n_Lw l w nm 1652 i hh r := by
  obtain ⟨v, M1, M2, n', q', e1, e2, e3⟩ := wl_un (st_look (N := N) (by omega) hR (xs (i + (1 : Int32)).toNatClampNeg))
  obtain ⟨r, r1, r2⟩ := next (hh.1, M2) n' q' hG e3
  exact ⟨r, r1, lc_look N hG hX hS i hh.2 M1 M2 v r hb1 e1 e2 r2⟩
theorem wl_63 (x : Int32) : ∃ m : Nat, m < 64 ∧ x &&& (63 : Int32) = nI m := by
  have hb : ∀ u, bt (x &&& (63 : Int32)) u = true → u < 6 := fun u hu => by
    rw [b_and, Bool.and_eq_true] at hu
    by_cases z : u < 32
    · have k : ∀ u, u < 32 → bt (63 : Int32) u = decide (u < 6) := by decide +kernel
      rw [k u z] at hu
      exact of_decide_eq_true hu.2
    · rw [b_big (by omega)] at hu
      exact absurd hu.1 (by decide)
  have hlt : (x &&& (63 : Int32)).toBitVec.toNat < 64 := by
    refine Nat.lt_pow_two_of_testBit (n := 6) _ fun i hi => ?_
    cases e : (x &&& (63 : Int32)).toBitVec.toNat.testBit i with
    | false => rfl
    | true =>
      have : bt (x &&& (63 : Int32)) i = true := by
        show (x &&& (63 : Int32)).toBitVec.getLsbD i = true
        rw [BitVec.getLsbD]
        exact e
      have := hb i this
      omega
  refine ⟨_, hlt, (b_ext fun i hi => ?_).symm⟩
  rw [b_nat hi]
  rfl
def wl_tab : List Nat := [228, 251, 294, 327, 370, 413, 446, 479, 502, 565, 588, 611, 634, 667, 700, 733, 786, 819, 852, 895, 928, 961, 984, 1007, 1040, 1073, 1096, 1129, 1152, 1195, 1228, 1251, 1284, 1317, 1350, 1383, 1416, 1475, 1498, 1521, 1554, 1577, 1600, 1613, 1652]
theorem wl_tg : ∀ m, m < 64 → lw_tg (nI m) = n_nN wl_tab m 1675 := by decide +kernel
theorem wl_case {l : Launch} {w : nW} {nm : String} {L : Nat} {xs : Nat → Int32} {N : Nat} (hN : 20000000 ≤ N) (hX : n_PX w L xs) (hS : n_PS w) (hT : wl_T N) (hI : wl_I N) (i : Int32) (hb1 : n_ib L (i + (1 : Int32)) = true) (hb2 : n_ib L (i + (2 : Int32)) = true) (hb3 : n_ib L (i + (3 : Int32)) = true) (hb4 : n_ib L (i + (4 : Int32)) = true) (hb5 : n_ib L (i + (5 : Int32)) = true) {hh : nH} {n q : Nat} (hG : n_GOK hh.1) (hR : Rel hh.1 hh.2 n q) (next : ∀ (h2 : nH) (n q : Nat), n_GOK h2.1 → Rel h2.1 h2.2 n q → ∃ r : nR, wl_P r ∧ n_Lw l w nm 1675 i h2 r) : ∀ m, m < 64 → ∃ r : nR, wl_P r ∧ n_Lw l w nm (n_nN wl_tab m 1675) i hh r
  | 0, _ => wc_state hN hX hS i hb1 hb2 hb3 hb4 hb5 hG hR next
  | 1, _ => wc_thing hN hX hS i hb1 hb2 hb3 hb4 hb5 hG hR next
  | 2, _ => wc_person hN hX hS i hb1 hb2 hb3 hb4 hb5 hG hR next
  | 3, _ => wc_set hN hX hS i hb1 hb2 hb3 hb4 hb5 hG hR next
  | 4, _ => wc_puts hN hX hS i hb1 hb2 hb3 hb4 hb5 hG hR next
  | 5, _ => wc_search hN hX hS i hb1 hb2 hb3 hb4 hb5 hG hR next
  | 6, _ => wc_act hN hX hS i hb1 hb2 hb3 hb4 hb5 hG hR next
  | 7, _ => wc_hours hN hX hS i hb1 hb2 hb3 hb4 hb5 hG hR next
  | 8, _ => wc_feed hN hX hS i hb1 hb2 hb3 hb4 hb5 hG hR next
  | 9, _ => wc_end hN hX hS i hb1 hb2 hb3 hb4 hb5 hG hR next
  | 10, _ => wc_text hN hX hS i hb1 hb2 hb3 hb4 hb5 hG hR hT next
  | 11, _ => wc_fault hN hX hS i hb1 hb2 hb3 hb4 hb5 hG hR next
  | 12, _ => wc_place hN hX hS i hb1 hb2 hb3 hb4 hb5 hG hR next
  | 13, _ => wc_of hN hX hS i hb1 hb2 hb3 hb4 hb5 hG hR next
  | 14, _ => wc_who hN hX hS i hb1 hb2 hb3 hb4 hb5 hG hR next
  | 15, _ => wc_tells hN hX hS i hb1 hb2 hb3 hb4 hb5 hG hR next
  | 16, _ => wc_book hN hX hS i hb1 hb2 hb3 hb4 hb5 hG hR next
  | 17, _ => wc_goes hN hX hS i hb1 hb2 hb3 hb4 hb5 hG hR next
  | 18, _ => wc_where hN hX hS i hb1 hb2 hb3 hb4 hb5 hG hR next
  | 19, _ => wc_brings hN hX hS i hb1 hb2 hb3 hb4 hb5 hG hR next
  | 20, _ => wc_swap hN hX hS i hb1 hb2 hb3 hb4 hb5 hG hR next
  | 21, _ => wc_under hN hX hS i hb1 hb2 hb3 hb4 hb5 hG hR next
  | 22, _ => wc_pick hN hX hS i hb1 hb2 hb3 hb4 hb5 hG hR next
  | 23, _ => wc_card hN hX hS i hb1 hb2 hb3 hb4 hb5 hG hR next
  | 24, _ => wc_box hN hX hS i hb1 hb2 hb3 hb4 hb5 hG hR next
  | 25, _ => wc_boxes hN hX hS i hb1 hb2 hb3 hb4 hb5 hG hR next
  | 26, _ => wc_key hN hX hS i hb1 hb2 hb3 hb4 hb5 hG hR next
  | 27, _ => wc_opened hN hX hS i hb1 hb2 hb3 hb4 hb5 hG hR next
  | 28, _ => wc_ring hN hX hS i hb1 hb2 hb3 hb4 hb5 hG hR next
  | 29, _ => wc_gift hN hX hS i hb1 hb2 hb3 hb4 hb5 hG hR next
  | 30, _ => wc_heir hN hX hS i hb1 hb2 hb3 hb4 hb5 hG hR next
  | 31, _ => wc_weighings hN hX hS i hb1 hb2 hb3 hb4 hb5 hG hR next
  | 32, _ => wc_rings hN hX hS i hb1 hb2 hb3 hb4 hb5 hG hR next
  | 33, _ => wc_hats hN hX hS i hb1 hb2 hb3 hb4 hb5 hG hR next
  | 34, _ => wc_mirror hN hX hS i hb1 hb2 hb3 hb4 hb5 hG hR next
  | 35, _ => wc_glance hN hX hS i hb1 hb2 hb3 hb4 hb5 hG hR next
  | 36, _ => wc_clue hN hX hS i hb1 hb2 hb3 hb4 hb5 hG hR next
  | 37, _ => wc_fits hN hX hS i hb1 hb2 hb3 hb4 hb5 hG hR next
  | 38, _ => wc_share hN hX hS i hb1 hb2 hb3 hb4 hb5 hG hR next
  | 39, _ => wc_gets hN hX hS i hb1 hb2 hb3 hb4 hb5 hG hR next
  | 40, _ => wc_row hN hX hS i hb1 hb2 hb3 hb4 hb5 hG hR next
  | 41, _ => wc_game hN hX hS i hb1 hb2 hb3 hb4 hb5 hG hR next
  | 42, _ => wc_undo hN hX hS i hb1 hb2 hb3 hb4 hb5 hG hR next
  | 43, _ => wc_image hN hX hS i hb1 hb2 hb3 hb4 hb5 hG hR hI next
  | 44, _ => wc_look hN hX hS i hb1 hb2 hb3 hb4 hb5 hG hR next
  | m + 45, _ => by
    have : n_nN wl_tab (m + 45) 1675 = 1675 := n_nN_big _ _ _ (by show 45 ≤ m + 45; omega)
    rw [this]
    exact next hh n q hG hR
theorem wl_loop {l : Launch} {w : nW} {nm : String} {L : Nat} {xs : Nat → Int32} {N : Nat} (hN : 20000000 ≤ N) (hL : L ≤ 3072) (hX : n_PX w L xs) (hS : n_PS w) (hT : wl_T N) (hI : wl_I N) : ∀ (d i : Nat), L ≤ i + d → i ≤ 4000 → ∀ (hh : nH) (n q : Nat), n_GOK hh.1 → Rel hh.1 hh.2 n q → ∃ r : nR, wl_P r ∧ n_Lw l w nm 18 (nI i) hh r := by
  intro d
  induction d with
  | zero =>
    intro i hd hi hh n q hG hR
    have hout : (Int32.ofNat L - (6 : Int32)) < nI i := by
      rw [Int32.lt_iff_toInt_lt, nI_toInt (by omega)]
      have e1 : (Int32.ofNat L - (6 : Int32)).toInt = (L : Int) - 6 := by
        have : (Int32.ofNat L) = nI L := rfl
        rw [this, show (6 : Int32) = nI 6 from rfl, Int32.toInt_sub, nI_toInt (by omega), nI_toInt (by omega)]
        apply Int.bmod_eq_of_le <;> omega
      omega
    have hb := hR.2.2.2.2.2
    refine ⟨(some (.int 1), hh), ⟨rfl, ?_, ?_⟩, lh_out N hG hX hS (nI i) hh.2 _ hout (lc_ending (nI i) hh.2)⟩
    · rcases hb with z | z
      · have := z.1; show n_n hh.1 ≤ _; omega
      · have := z.1; show n_n hh.1 ≤ _; omega
    · rcases hb with z | z
      · have := z.2.1; show n_sl hh.1 ≤ _; omega
      · have := z.2.1; show n_sl hh.1 ≤ _; omega
  | succ d ih =>
    intro i hd hi hh n q hG hR
    have e1 : (Int32.ofNat L - (6 : Int32)).toInt = (L : Int) - 6 := by
      have : (Int32.ofNat L) = nI L := rfl
      rw [this, show (6 : Int32) = nI 6 from rfl, Int32.toInt_sub, nI_toInt (by omega), nI_toInt (by omega)]
      apply Int.bmod_eq_of_le <;> omega
    by_cases hin : i + 6 ≤ L
    · have hnot : ¬ (Int32.ofNat L - (6 : Int32)) < nI i := by
        rw [Int32.lt_iff_toInt_lt, nI_toInt (by omega)]
        omega
      obtain ⟨m, m1, m2⟩ := wl_63 (xs (nI i).toNatClampNeg)
      have hbk : ∀ k, k ≤ 5 → n_ib L (nI i + nI k) = true := fun k hk => by
        rw [nI_add]
        exact n_ib_nI (by omega) (by omega)
      obtain ⟨r, r1, r2⟩ := wl_case (l := l) (nm := nm) hN hX hS hT hI (nI i) (hbk 1 (by decide)) (hbk 2 (by decide)) (hbk 3 (by decide)) (hbk 4 (by decide)) (hbk 5 (by decide)) hG hR (fun h2 n q g1 g2 => by
        obtain ⟨r, r1, r2⟩ := ih (i + 6) (by omega) (by omega) h2 n q g1 g2
        refine ⟨r, r1, lc_nextr N g1 hX hS (nI i) h2.2 r ?_⟩
        rw [show nI i + (6 : Int32) = nI (i + 6) from nI_add i 6]
        exact r2) m m1
      refine ⟨r, r1, lh_in N hG hX hS (nI i) hh.2 r hnot (n_ib_nI (by omega) (by omega)) ?_⟩
      rw [m2, wl_tg m m1]
      exact r2
    · have hout : (Int32.ofNat L - (6 : Int32)) < nI i := by
        rw [Int32.lt_iff_toInt_lt, nI_toInt (by omega)]
        omega
      have hb := hR.2.2.2.2.2
      refine ⟨(some (.int 1), hh), ⟨rfl, ?_, ?_⟩, lh_out N hG hX hS (nI i) hh.2 _ hout (lc_ending (nI i) hh.2)⟩
      · rcases hb with z | z
        · have := z.1; show n_n hh.1 ≤ _; omega
        · have := z.1; show n_n hh.1 ≤ _; omega
      · rcases hb with z | z
        · have := z.2.1; show n_sl hh.1 ≤ _; omega
        · have := z.2.1; show n_sl hh.1 ≤ _; omega
/-- the law's run, but for text and image -/
theorem wl_all {l : Launch} {w : nW} {nm : String} {L : Nat} {xs : Nat → Int32} {N : Nat} (hN : 20000000 ≤ N) (hL : L ≤ 3072) (hX : n_PX w L xs) (hS : n_PS w) (hT : wl_T N) (hI : wl_I N) : ∃ r : nR, r.1 = some (.int 1) ∧ n_n r.2.1 ≤ 600000 ∧ n_sl r.2.1 ≤ 7302250 ∧ n_At l w 530 (n_mlaw nm) 0 [(0, .retAddr 0)] [] n_h0 r := by
  obtain ⟨h1, h2, s1, s2, s3, s4⟩ := y_start (N := N) (by omega)
  obtain ⟨r, ⟨r1, r2, r3⟩, r4⟩ := wl_loop (l := l) (nm := nm) hN hL hX hS hT hI L 0 (by omega) (by omega) h2 0 0 (y_GOK s4) (y_Rel s4)
  exact ⟨r, r1, r2, r3, lc_start N hX hS h1 h2 r s1 s2 s3 r4⟩
