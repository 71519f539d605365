/-! ===== class and model in memories of their own ===== -/
def Mix (C D : nM) : nM := fun c => if c < 107 ∨ 151 < c then C c else D c
theorem Mix_c {C D : nM} {c : Nat} (h : c < 107 ∨ 151 < c) : Mix C D c = C c := if_pos h
theorem Mix_d {C D : nM} {c : Nat} (h1 : 107 ≤ c) (h2 : c ≤ 151) : Mix C D c = D c := if_neg (by omega)
theorem Stq_mix {G : nG} {M : nM} {f g : nM → Option (Int32 × nM)} (h : ∀ D : nM, (∀ c, 107 ≤ c → c ≤ 151 → D c = M c) → ∃ (v : Int32) (C' D' : nM), f M = some (v, C') ∧ (∀ c, 107 ≤ c → c ≤ 151 → C' c = M c) ∧ g D = some (v, D') ∧ (∀ c, c < 107 ∨ 151 < c → D' c = D c) ∧ ∃ n q : Nat, Rel G (Mix C' D') n q) : Stq G f g M := by
  obtain ⟨v, C1, D1, e1, k1, -⟩ := h M (fun _ _ _ => rfl)
  obtain ⟨w, C2, D2, e2, k2, e3, k3, n, q, hr⟩ := h C1 k1
  have e4 : some (v, C1) = some (w, C2) := e1.symm.trans e2
  have e5 : v = w := congrArg Prod.fst (Option.some.inj e4)
  have e6 : C1 = C2 := congrArg Prod.snd (Option.some.inj e4)
  subst e5
  subst e6
  have e7 : Mix C1 D2 = D2 := by
    funext c
    by_cases hc : c < 107 ∨ 151 < c
    · rw [Mix_c hc, k3 c hc]
    · exact Mix_d (by omega) (by omega)
  rw [e7] at hr
  exact ⟨v, C1, e1, v, D2, e3, rfl, n, q, hr⟩
/-- agreeing below the model -/
def Ag (A B : nM) : Prop := ∀ c, c < 107 → A c = B c
theorem Ag_up {A B : nM} {a k : Nat} {v : Int32} (h : Ag A B) (ha : a < 107) : Ag (n_up A a k v) (n_up B a k v) := fun c hc => by
  by_cases e : c = a
  · subst e; rw [n_up_eq, n_up_eq, h c hc]
  · rw [n_up_ne e, n_up_ne e, h c hc]
theorem Ag_set {A B : nM} {a : Nat} {f g : Nat → Int32} (h : Ag A B) (hf : f = g) : Ag (n_set A a f) (n_set B a g) := fun c hc => by
  subst hf
  by_cases e : c = a
  · subst e; rw [n_set_eq, n_set_eq]
  · rw [n_set_ne e, n_set_ne e, h c hc]
theorem Ag_cpy {A B : nM} {a b s d l : Nat} (h : Ag A B) (ha : a < 107) : Ag (n_cpy A a b s d l) (n_cpy B a b s d l) := fun c hc => by
  unfold n_cpy
  by_cases e : c = b
  · subst e; rw [if_pos rfl, if_pos rfl, h a ha, h c hc]
  · rw [if_neg e, if_neg e, h c hc]
theorem Ag_cpM {A B : nM} {a b : Nat} (h : Ag A B) (ha : a < 107) (hb : b + 4 < 107) : Ag (cpM A a b) (cpM B a b) := by
  unfold cpM
  refine Ag_set (Ag_cpy (Ag_cpy (Ag_cpy (Ag_cpy h (by omega)) (by omega)) (by omega)) (by omega)) ?_
  rw [h a ha, h b (by omega)]
theorem Ag_kpC {A B : nM} {k x : Nat} (h : Ag A B) (hx : x < 6) : Ag (kpC A k x) (kpC B k x) := by
  unfold kpC
  exact Ag_up (Ag_up (Ag_cpM h (by omega) (by decide)) (by decide)) (by decide)
theorem Ag_mix {C D : nM} : Ag (Mix C D) C := fun c hc => Mix_c (Or.inl hc)
/-- what doings don't change, with supper and customs -/
def EW (G : nG) (M0 m : nM) (ls : List lLn) (n q : Nat) : Prop := EV G M0 m ls n q ∧ r_sup (M0 22 3) (M0 23) (m 107 37) (m 127) n q ∧ r_cus (M0 24 3) (M0 25) (m 107 39) (m 128) q ∧ r_wm (M0 22 1) (M0 22 2) 4 16 ∧ r_wm (M0 24 1) (M0 24 2) 4 16
abbrev dD : Type := nM → List lLn → Bool → (Nat → Int32) → (Nat → Int32) → Int32 × (Nat → Int32) × (Nat → Int32)
def DoC (G : nG) (n q : Nat) (fC : Nat → nM → Option (Int32 × nM)) (d : dD) : Prop := ∀ (M0 m M : nM) (ls : List lLn) (a : Nat) (th : Bool) (row bk : Nat → Int32), EW G M0 m ls n q → (a = 9 ∨ a = 93) → CD M0 M a th row bk n q → ∃ M' : nM, fC a M = some ((d m ls th row bk).1, M') ∧ CD M0 M' a th (d m ls th row bk).2.1 (d m ls th row bk).2.2 n q
/-- a class that stands so -/
def HC (M0 : nM) (th : Bool) (row bk : Nat → Int32) (n q : Nat) : Prop := ∃ (M : nM) (a : Nat), (a = 9 ∨ a = 93) ∧ CD M0 M a th row bk n q
def DoM (G : nG) (n q : Nat) (gM : nM → Option (Int32 × nM)) (d : dD) : Prop := ∀ (M0 m : nM) (ls : List lLn) (th : Bool) (row bk f S : Nat → Int32), EW G M0 m ls n q → m 107 5 = cb th → HC M0 th row bk n q → ∃ f2 S2 : Nat → Int32, gM (dM m row bk f S) = some ((d m ls th row bk).1, dM m (d m ls th row bk).2.1 (d m ls th row bk).2.2 f2 S2)
def DoB (d : dD) : Prop := ∀ (m : nM) (ls : List lLn) (row bk : Nat → Int32), (d m ls true row bk).2.2 = bk
theorem Mix_EW {G : nG} {C D M0 m : nM} {n q : Nat} (hG : n_GOK G) (h : Rel G (Mix C D) n q) (hc : ∀ c, c < 9 ∨ (13 < c ∧ c < 46 ∧ c ≠ 15) → M0 c = C c) (hd : ∀ c, 110 < c → c ≤ 151 → m c = D c) (h7 : ∀ k, m7c k = false → m 107 k = D 107 k) : ∃ ls : List lLn, EW G M0 m ls n q := by
  obtain ⟨⟨hst, hmv, hbk, hlw, hsp, hcu, hli, hsw, hpk, hbx, hky, hcl, hsh, hrw, hgf, hmi⟩, hpr, hrd, hck, hwd, him⟩ := id h
  obtain ⟨ls, l1, l2⟩ := r_law_x hlw
  refine ⟨ls, ⟨hG, ?_, ?_, ?_, ?_⟩, ?_, ?_, ?_, ?_⟩
  · rw [hc 3 (by decide), hc 4 (by decide), hc 5 (by decide), hc 6 (by decide), hc 7 (by decide), hc 8 (by decide), h7 6 rfl, h7 7 rfl, hd 111 (by decide) (by decide), hd 112 (by decide) (by decide), hd 113 (by decide) (by decide), hd 114 (by decide) (by decide), hd 115 (by decide) (by decide)]
    exact hst
  · rw [hc 16 (by decide), hc 17 (by decide), hc 18 (by decide), hc 19 (by decide), hc 20 (by decide), hc 21 (by decide)]
    exact l1
  · rw [hd 119 (by decide) (by decide), hd 120 (by decide) (by decide), hd 121 (by decide) (by decide), hd 122 (by decide) (by decide), hd 123 (by decide) (by decide), hd 124 (by decide) (by decide), hd 125 (by decide) (by decide)]
    exact l2
  · rw [hc 14 (by decide)]
    exact hck.2.2.1
  · rw [hc 22 (by decide), hc 23 (by decide), h7 37 rfl, hd 127 (by decide) (by decide)]
    exact hsp
  · rw [hc 24 (by decide), hc 25 (by decide), h7 39 rfl, hd 128 (by decide) (by decide)]
    exact hcu
  · rw [hc 22 (by decide)]
    exact hck.2.2.2.1
  · rw [hc 24 (by decide)]
    exact hck.2.2.2.2.1
theorem fin_keep {G : nG} {C D : nM} {n q N : Nat} {fC : Nat → nM → Option (Int32 × nM)} {gM : nM → Option (Int32 × nM)} {d : dD} (hN : 1000 ≤ N) (hG : n_GOK G) (hC : DoC G n q fC d) (hM : DoM G n q gM d) (h : Rel G (Mix C D) n q) : ∃ (v : Int32) (C' D' : nM), (fX5_keep G C).bind (fun p => fC 9 p.2) = some (v, C') ∧ (∀ c, 107 ≤ c → c ≤ 151 → C' c = C c) ∧ (fX12_keepsAhead N D).bind (fun p => gM p.2) = some (v, D') ∧ (∀ c, c < 107 ∨ 151 < c → D' c = D c) ∧ Rel G (Mix C' D') n q := by
  obtain ⟨⟨hst, hmv, hbk, hlw, hsp, hcu, hli, hsw, hpk, hbx, hky, hcl, hsh, hrw, hgf, hmi⟩, hpr, hrd, hck, hwd, him⟩ := id h
  obtain ⟨k, x, p1, p2, p3, p4, p5, p6⟩ := id hpr
  obtain ⟨D2, hD2⟩ : ∃ D2, D2 = n_up (n_set D 109 (kpR k (D 109) (D 108))) 107 3 (nI (if k < 6 then k + 1 else 6)) := ⟨_, rfl⟩
  have eD : ∀ c, c ≠ 107 → c ≠ 109 → D2 c = D c := fun c g1 g2 => by rw [hD2, n_up_ne g1, n_set_ne g2]
  have eD7 : ∀ t, t ≠ 3 → D2 107 t = D 107 t := fun t g => by rw [hD2, n_up_eq, upd_ne g, n_set_ne (by decide)]
  have eC : ∀ c, c < 48 ∨ 79 < c → kpC C k x c = C c := fun c g => kpC_ne p2 g
  obtain ⟨ls, hW⟩ := Mix_EW (M0 := kpC C k x) (m := D2) hG h (fun c g => eC c (by omega)) (fun c g1 g2 => eD c (by omega) (by omega)) (fun t ht => eD7 t (fun z => by subst z; exact absurd ht (by decide)))
  have e9 : ∀ c, c < 48 → kpC C k x c = C c := fun c g => eC c (Or.inl g)
  have hCD : CD (kpC C k x) (kpC C k x) 9 false (D 108) (D 116) n q := by
    refine ⟨fun _ _ _ _ _ => rfl, ?_, ?_, ?_⟩
    · rw [e9 9 (by decide)]; exact hck.1
    · rw [e9 9 (by decide), e9 (9 + 1) (by decide), e9 (9 + 2) (by decide), e9 (9 + 3) (by decide), e9 (9 + 4) (by decide)]
      exact hmv
    · rw [e9 15 (by decide)]; exact hbk
  obtain ⟨C', c1, c2⟩ := hC _ _ _ ls 9 false _ _ hW (Or.inl rfl) hCD
  have h5 : D2 107 5 = cb false := by rw [eD7 5 (by decide)]; exact hck.2.2.2.2.2.2.2.2.2.2.2.2.2.2
  obtain ⟨f2, S2, m1⟩ := hM _ _ ls false (D 108) (D 116) (D2 131) (D2 132) hW h5 ⟨_, 9, Or.inl rfl, hCD⟩
  have eself : D2 = dM D2 (D 108) (D 116) (D2 131) (D2 132) := by
    have := dM_self D2
    rw [eD 108 (by decide) (by decide), eD 116 (by decide) (by decide)] at this
    exact this
  rw [← eself] at m1
  obtain ⟨f1, f2', f3, f4⟩ := c2
  generalize (d D2 ls false (D 108) (D 116)).2.1 = row' at f3 m1
  generalize (d D2 ls false (D 108) (D 116)).2.2 = bk' at f4 m1
  have hC' : ∀ c, c < 9 ∨ 13 < c → c ≠ 15 → c ≠ 46 → c ≠ 47 → C' c = kpC C k x c := f1
  have hD' : ∀ c, c ≠ 107 → c ≠ 109 → c ≠ 108 → c ≠ 116 → c ≠ 131 → c ≠ 132 → dM D2 row' bk' f2 S2 c = D c := fun c g1 g2 g3 g4 g5 g6 => by rw [dM_ne g3 g4 g5 g6, eD c g1 g2]
  have eM : Mix C' (dM D2 row' bk' f2 S2) 107 = D2 107 := rfl
  refine ⟨(d D2 ls false (D 108) (D 116)).1, C', dM D2 row' bk' f2 S2, ?_, fun c g1 g2 => ?_, ?_, fun c hc => ?_, ?_⟩
  · rw [e_keepC (M := C) hG p1 p2 p3 p4, Option.bind_some]
    exact c1
  · rw [hC' c (by omega) (by omega) (by omega) (by omega)]
    exact eC c (by omega)
  · rw [e_keepM (M := D) hN p1 p5, Option.bind_some, ← hD2]
    exact m1
  · exact hD' c (by omega) (by omega) (by omega) (by omega) (by omega) (by omega)
  · refine Rel_mov h (fun c hc => ?_) (fun t ht => ?_) ?_ ?_ ?_ ?_ ?_ ?_
    · obtain ⟨g1, g2, g3, g4, g5, g6, g7, g8, g9, g10, g11, g12, g13, g14, g15⟩ := mvc_out hc
      by_cases hcl : c < 107 ∨ 151 < c
      · rw [Mix_c hcl, Mix_c hcl, hC' c (by omega) g7 (by omega) (by omega), eC c (by omega)]
      · rw [Mix_d (by omega) (by omega), Mix_d (by omega) (by omega)]
        exact hD' c g9 g11 g10 g13 g14 g15
    · rw [eM]
      exact eD7 t (fun z => by subst z; exact absurd ht (by decide))
    · exact f3
    · exact f4
    · refine PR_keep p1 p2 p6 hmv (fun c g1 g2 => ?_) ?_ ?_
      · rw [Mix_c (Or.inl (by omega)), hC' c (by omega) (by omega) (by omega) (by omega)]
        exact (Ag_kpC Ag_mix p2 c (by omega)).symm
      · rw [eM, hD2, n_up_eq, upd_eq]
      · show dM D2 row' bk' f2 S2 109 = kpR k (D 109) (D 108)
        rw [dM_ne (by decide) (by decide) (by decide) (by decide), hD2, n_up_ne (by decide), n_set_eq]
    · exact f2'
    · show C' 93 0 = 1
      rw [hC' 93 (by decide) (by decide) (by decide) (by decide), eC 93 (by decide)]
      exact hck.2.1
    · rw [eM]
      exact h5
