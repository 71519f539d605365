/-! ===== SleightHouseModel.hours(I)I ===== -/
def mX12_hours : nY := (RX12, yX12_hours, cX12_hours, 4, some .int)
theorem okX12_hours : n_MOK mX12_hours 1 := ⟨w_1934, w_151, ⟨by decide +kernel, by decide +kernel, by decide +kernel⟩, by decide⟩
abbrev aX12_hours (N : Nat) : List (Nat × nO (Int32 × nM)) := [(0, o_aload 0 1), (1, o_push (.int (0 : Int32)) 2), (2, o_pIc 107 0 5), (5, o_aload 0 6), (6, o_iload 1 7), (7, o_push (.int (1 : Int32)) 8), (8, o_push (.int (60 : Int32)) 10), (10, o_callVc 107 3 (hX12_isIn) 13), (13, oi_eq 30 16), (16, o_aload 0 17), (17, o_gRc 107 108 20), (20, o_push (.int (0 : Int32)) 21), (21, o_aldc 108 100 22), (22, o_iload 1 23), (23, o_iadd 24), (24, o_push (.int (9999 : Int32)) 27), (27, oc_le 32 30), (30, o_push (.int (-1 : Int32)) 31), (31, o_iret), (32, o_push (.int (0 : Int32)) 33), (33, o_istore 4 2 34), (34, o_push (.int (0 : Int32)) 35), (35, o_istore 4 3 36), (36, o_iload 3 37), (37, o_iload 1 38), (38, oc_ge 58 41), (41, o_aload 0 42), (42, o_callVc 107 0 (hX12_keepsAhead N) 45), (45, o_iload 2 46), (46, o_aload 0 47), (47, o_callVc 107 0 (hX12_goesBy N) 50), (50, o_iadd 51), (51, o_istore 4 2 52), (52, o_inc 4 3 (1 : Int32) 55), (55, o_goto 36), (58, o_iload 2 59), (59, o_iret)]
set_option maxRecDepth 200000 in
theorem iX12_hours {l : Launch} {w : nW} (N : Nat) {G : nG} (hG : n_GOK G) : n_AllS l w 8 mX12_hours G (n_fin dv_i G) (aX12_hours N) :=
  n_c (s_aload_n (pc := 0) (k := 0) (by decide +kernel)) <|
  n_c (s_iconst (pc := 1) (n := 0) (by decide +kernel) (by decide +kernel)) <|
  n_c (s_pIc (s_putI (pc := 2) (ci := 12) (k := 0) (idx := 146) nok12 (by decide) rfl rfl (by decide +kernel) w_1407) (gk107 hG)) <|
  n_c (s_aload_n (pc := 5) (k := 0) (by decide +kernel)) <|
  n_c (s_iload_n (pc := 6) (k := 1) (by decide +kernel)) <|
  n_c (s_iconst (pc := 7) (n := 1) (by decide +kernel) (by decide +kernel)) <|
  n_c (s_bipush (pc := 8) (n := 60) (by decide +kernel) (by decide +kernel)) <|
  n_c (s_callVc (s_callV (pc := 10) (csX12_isIn) (by decide) okX12_isIn nok12 w_1659 w_46 w_1657 (by decide +kernel)) (gk107 hG)) <|
  n_c (s_if_eq (pc := 13) (off := 17) (by decide +kernel) (by decide +kernel)) <|
  n_c (s_aload_n (pc := 16) (k := 0) (by decide +kernel)) <|
  n_c (s_gRc (s_getR (pc := 17) (ci := 12) (k := 1) (idx := 7) nok12 (by decide) rfl (by decide +kernel) w_1408) (gk107 hG) (gm107_1 hG)) <|
  n_c (s_iconst (pc := 20) (n := 0) (by decide +kernel) (by decide +kernel)) <|
  n_c (s_aldc (s_iaload (pc := 21) (by decide +kernel)) (gk108 hG) (gl108 hG)) <|
  n_c (s_iload_n (pc := 22) (k := 1) (by decide +kernel)) <|
  n_c (s_iadd (pc := 23) (by decide +kernel)) <|
  n_c (s_sipush (pc := 24) (n := 9999) (by decide +kernel) (by decide +kernel)) <|
  n_c (s_icmp_le (pc := 27) (off := 5) (by decide +kernel) (by decide +kernel)) <|
  n_c (s_iconst (pc := 30) (n := -1) (by decide +kernel) (by decide +kernel)) <|
  n_c (s_iret (pc := 31) rfl (by decide +kernel)) <|
  n_c (s_iconst (pc := 32) (n := 0) (by decide +kernel) (by decide +kernel)) <|
  n_c (s_istore_n (pc := 33) (k := 2) (by decide +kernel)) <|
  n_c (s_iconst (pc := 34) (n := 0) (by decide +kernel) (by decide +kernel)) <|
  n_c (s_istore_n (pc := 35) (k := 3) (by decide +kernel)) <|
  n_c (s_iload_n (pc := 36) (k := 3) (by decide +kernel)) <|
  n_c (s_iload_n (pc := 37) (k := 1) (by decide +kernel)) <|
  n_c (s_icmp_ge (pc := 38) (off := 20) (by decide +kernel) (by decide +kernel)) <|
  n_c (s_aload_n (pc := 41) (k := 0) (by decide +kernel)) <|
  n_c (s_callVc (s_callV (pc := 42) (csX12_keepsAhead N hG) (by decide) okX12_keepsAhead nok12 w_1859 w_89 w_1857 (by decide +kernel)) (gk107 hG)) <|
  n_c (s_iload_n (pc := 45) (k := 2) (by decide +kernel)) <|
  n_c (s_aload_n (pc := 46) (k := 0) (by decide +kernel)) <|
  n_c (s_callVc (s_callV (pc := 47) (csX12_goesBy N hG) (by decide) okX12_goesBy nok12 w_1937 w_105 w_1935 (by decide +kernel)) (gk107 hG)) <|
  n_c (s_iadd (pc := 50) (by decide +kernel)) <|
  n_c (s_istore_n (pc := 51) (k := 2) (by decide +kernel)) <|
  n_c (s_iinc (pc := 52) (n := 1) (by decide +kernel) (by decide +kernel)) <|
  n_c (s_goto (pc := 55) (off := -19) (by decide +kernel) (by decide +kernel)) <|
  n_c (s_iload_n (pc := 58) (k := 2) (by decide +kernel)) <|
  n_c (s_iret (pc := 59) rfl (by decide +kernel)) <|
  n_e
def fX12_hours_36 (N : Nat) : Nat → Int32 → Int32 → Int32 → nM → Option (Int32 × nM)
  | 0, _, _, _, _ => none
  | n + 1, x1, x2, x3, M =>
    if x1 ≤ x3 then
      some (x2, M)
    else
      (fX12_keepsAhead N M).bind fun p1 =>
      (fX12_goesBy N p1.2).bind fun p2 =>
      let v3 : Int32 := (x2 + p2.1)
      let v4 : Int32 := (x3 + (1 : Int32))
      fX12_hours_36 N n x1 v3 v4 p2.2
set_option maxRecDepth 200000 in
theorem bX12_hours_36 {l : Launch} {w : nW} (N : Nat) {G : nG} (hG : n_GOK G) : ∀ (n : Nat) (x1 : Int32) (x2 : Int32) (x3 : Int32) (M : nM) (r : Int32 × nM), fX12_hours_36 N n x1 x2 x3 M = some r → n_At l w 8 mX12_hours 36 [(0, .ref 107), (1, .int x1), (2, .int x2), (3, .int x3)] [] (G, M) (dv_i r.1, (G, r.2)) := by
  intro n
  induction n with
  | zero => intro x1 x2 x3 M r h; cases (show (none : Option (Int32 × nM)) = some r from h)
  | succ n ih =>
    intro x1 x2 x3 M r h
    exact n_seg (fin := n_fin dv_i G) (K := [(36, fun lv st M => n_lC 107 lv 0 (n_lI lv 1 (fun x1 => n_lI lv 2 (fun x2 => n_lI lv 3 (fun x3 => n_pE st (fX12_hours_36 N n x1 x2 x3 M))))))]) 17 (iX12_hours N hG) (n_kc (fun lv st M r h => by
      obtain ⟨e0, h1⟩ := n_lC_x h
      obtain ⟨x1, e1, h2⟩ := n_lI_x h1
      obtain ⟨x2, e2, h3⟩ := n_lI_x h2
      obtain ⟨x3, e3, h4⟩ := n_lI_x h3
      obtain ⟨rfl, h5⟩ := n_pE_x h4
      exact n_sub (n_qc e0 (n_qc e1 (n_qc e2 (n_qc e3 n_qe)))) (ih x1 x2 x3 M r h5)) n_ke) (by rfl) h
def fX12_hours (N : Nat) (x1 : Int32) (M : nM) : Option (Int32 × nM) :=
  let M1 : nM := n_up M 107 0 (0 : Int32)
  (fX12_isIn x1 (1 : Int32) (60 : Int32) M1).bind fun p2 =>
  if p2.1 = 0 then
    some ((-1 : Int32), p2.2)
  else
    n_chk (n_ib 100 (0 : Int32)) <|
    if ((p2.2 108 (0 : Int32).toNatClampNeg) + x1) ≤ (9999 : Int32) then
      fX12_hours_36 N N x1 (0 : Int32) (0 : Int32) p2.2
    else
      some ((-1 : Int32), p2.2)
set_option maxRecDepth 200000 in
theorem bX12_hours_0 {l : Launch} {w : nW} (N : Nat) {G : nG} (hG : n_GOK G) (x1 : Int32) (M : nM) (r : Int32 × nM) (h : fX12_hours N x1 M = some r) : n_At l w 8 mX12_hours 0 [(0, .ref 107), (1, .int x1)] [] (G, M) (dv_i r.1, (G, r.2)) :=
  n_seg (fin := n_fin dv_i G) (K := [(36, fun lv st M => n_lC 107 lv 0 (n_lI lv 1 (fun x1 => n_lI lv 2 (fun x2 => n_lI lv 3 (fun x3 => n_pE st (fX12_hours_36 N N x1 x2 x3 M))))))]) 28 (iX12_hours N hG) (n_kc (fun lv st M r h => by
      obtain ⟨e0, h1⟩ := n_lC_x h
      obtain ⟨x1, e1, h2⟩ := n_lI_x h1
      obtain ⟨x2, e2, h3⟩ := n_lI_x h2
      obtain ⟨x3, e3, h4⟩ := n_lI_x h3
      obtain ⟨rfl, h5⟩ := n_pE_x h4
      exact n_sub (n_qc e0 (n_qc e1 (n_qc e2 (n_qc e3 n_qe)))) (bX12_hours_36 N hG N x1 x2 x3 M r h5)) n_ke) (by rfl) h
theorem eX12_hours {l : Launch} {w : nW} (N : Nat) {G : nG} (hG : n_GOK G) (z1 : Int32) (M : nM) (r : Int32 × nM) (h : fX12_hours N z1 M = some r) : n_Met l w 8 mX12_hours [.ref 107, .int z1] (G, M) (dv_i r.1, (G, r.2)) :=
  n_entry (by decide +kernel) rfl (Nat.le_of_ble_eq_true rfl) (n_sub (lv := [(0, .ref 107), (1, .int z1)]) (n_qc rfl (n_qc rfl n_qe)) (bX12_hours_0 N hG z1 M r h))
abbrev hX12_hours (N : Nat) : nF := fun T as M k => n_pC 107 as (fun as => n_pI as (fun z1 as => n_pE as ((fX12_hours N z1 M).bind fun p => k (dv_i p.1) p.2)))
theorem csX12_hours {l : Launch} {w : nW} (N : Nat) {G : nG} (hG : n_GOK G) : n_CS l w 8 mX12_hours G (hX12_hours N) := fun T as M k r h => by
  obtain ⟨t0, rfl, h1⟩ := n_pC_x h
  obtain ⟨z1, t1, rfl, h2⟩ := n_pI_x h1
  obtain ⟨rfl, hE⟩ := n_pE_x h2
  obtain ⟨p, hp, hk⟩ := Option.bind_eq_some_iff.mp hE
  exact ⟨_, _, eX12_hours N hG z1 M p hp, hk⟩
/-! ===== SleightHouse$Reader.append(I)V ===== -/
def mX6_append : nY := (RX6, yX6_append, cX6_append, 3, none)
theorem okX6_append : n_MOK mX6_append 1 := ⟨w_812, w_148, ⟨by decide +kernel, by decide +kernel, by decide +kernel⟩, by decide⟩
abbrev aX6_append (N : Nat) : List (Nat × nO (Unit × nM)) := [(0, o_push (.int (24 : Int32)) 2), (2, o_istore 3 2 3), (3, o_iload 2 4), (4, oi_lt 46 7), (7, o_aload 0 8), (8, o_gIc 80 9 11), (11, o_push (.int (400 : Int32)) 14), (14, oc_ge 46 17), (17, o_aload 0 18), (18, o_gRc 80 81 21), (21, o_aload 0 22), (22, o_gIc 80 9 25), (25, o_iload 1 26), (26, o_iload 2 27), (27, o_iushr 28), (28, o_i2b 29), (29, o_bastc 81 400 30), (30, o_aload 0 31), (31, o_dup 32), (32, o_gIc 80 9 35), (35, o_push (.int (1 : Int32)) 36), (36, o_iadd 37), (37, o_pIc 80 9 40), (40, o_inc 3 2 (-8 : Int32) 43), (43, o_goto 3), (46, o_vret)]
set_option maxRecDepth 200000 in
theorem iX6_append {l : Launch} {w : nW} (N : Nat) {G : nG} (hG : n_GOK G) : n_AllS l w 0 mX6_append G (n_fin dv_v G) (aX6_append N) :=
  n_c (s_bipush (pc := 0) (n := 24) (by decide +kernel) (by decide +kernel)) <|
  n_c (s_istore_n (pc := 2) (k := 2) (by decide +kernel)) <|
  n_c (s_iload_n (pc := 3) (k := 2) (by decide +kernel)) <|
  n_c (s_if_lt (pc := 4) (off := 42) (by decide +kernel) (by decide +kernel)) <|
  n_c (s_aload_n (pc := 7) (k := 0) (by decide +kernel)) <|
  n_c (s_gIc (s_getI (pc := 8) (ci := 6) (k := 9) (idx := 48) nok6 (by decide) rfl (by decide +kernel) w_497) (gk80 hG)) <|
  n_c (s_sipush (pc := 11) (n := 400) (by decide +kernel) (by decide +kernel)) <|
  n_c (s_icmp_ge (pc := 14) (off := 32) (by decide +kernel) (by decide +kernel)) <|
  n_c (s_aload_n (pc := 17) (k := 0) (by decide +kernel)) <|
  n_c (s_gRc (s_getR (pc := 18) (ci := 6) (k := 1) (idx := 9) nok6 (by decide) rfl (by decide +kernel) w_487) (gk80 hG) (gm80_1 hG)) <|
  n_c (s_aload_n (pc := 21) (k := 0) (by decide +kernel)) <|
  n_c (s_gIc (s_getI (pc := 22) (ci := 6) (k := 9) (idx := 48) nok6 (by decide) rfl (by decide +kernel) w_497) (gk80 hG)) <|
  n_c (s_iload_n (pc := 25) (k := 1) (by decide +kernel)) <|
  n_c (s_iload_n (pc := 26) (k := 2) (by decide +kernel)) <|
  n_c (s_iushr (pc := 27) (by decide +kernel)) <|
  n_c (s_i2b (pc := 28) (by decide +kernel)) <|
  n_c (s_bastc (s_bastore (pc := 29) (by decide +kernel)) (gk81 hG) (gl81 hG)) <|
  n_c (s_aload_n (pc := 30) (k := 0) (by decide +kernel)) <|
  n_c (s_dup (pc := 31) (by decide +kernel)) <|
  n_c (s_gIc (s_getI (pc := 32) (ci := 6) (k := 9) (idx := 48) nok6 (by decide) rfl (by decide +kernel) w_497) (gk80 hG)) <|
  n_c (s_iconst (pc := 35) (n := 1) (by decide +kernel) (by decide +kernel)) <|
  n_c (s_iadd (pc := 36) (by decide +kernel)) <|
  n_c (s_pIc (s_putI (pc := 37) (ci := 6) (k := 9) (idx := 48) nok6 (by decide) rfl rfl (by decide +kernel) w_497) (gk80 hG)) <|
  n_c (s_iinc (pc := 40) (n := -8) (by decide +kernel) (by decide +kernel)) <|
  n_c (s_goto (pc := 43) (off := -40) (by decide +kernel) (by decide +kernel)) <|
  n_c (s_vret (pc := 46) rfl (by decide +kernel)) <|
  n_e
def fX6_append_3 (N : Nat) : Nat → Int32 → Int32 → nM → Option (Unit × nM)
  | 0, _, _, _ => none
  | n + 1, x1, x2, M =>
    if x2 < 0 then
      some ((), M)
    else
      if (400 : Int32) ≤ (M 80 9) then
        some ((), M)
      else
        n_chk (n_ib 400 (M 80 9)) <|
        let M1 : nM := n_up M 81 (M 80 9).toNatClampNeg (vp_nar .byte (x1.toUInt32 >>> (x2.toUInt32 &&& Int32.toUInt32 31)).toInt32.toInt8.toInt32)
        let M2 : nM := n_up M1 80 9 ((M1 80 9) + (1 : Int32))
        let v3 : Int32 := (x2 + (-8 : Int32))
        fX6_append_3 N n x1 v3 M2
set_option maxRecDepth 200000 in
theorem bX6_append_3 {l : Launch} {w : nW} (N : Nat) {G : nG} (hG : n_GOK G) : ∀ (n : Nat) (x1 : Int32) (x2 : Int32) (M : nM) (r : Unit × nM), fX6_append_3 N n x1 x2 M = some r → n_At l w 0 mX6_append 3 [(0, .ref 80), (1, .int x1), (2, .int x2)] [] (G, M) (dv_v r.1, (G, r.2)) := by
  intro n
  induction n with
  | zero => intro x1 x2 M r h; cases (show (none : Option (Unit × nM)) = some r from h)
  | succ n ih =>
    intro x1 x2 M r h
    exact n_seg (fin := n_fin dv_v G) (K := [(3, fun lv st M => n_lC 80 lv 0 (n_lI lv 1 (fun x1 => n_lI lv 2 (fun x2 => n_pE st (fX6_append_3 N n x1 x2 M)))))]) 28 (iX6_append N hG) (n_kc (fun lv st M r h => by
      obtain ⟨e0, h1⟩ := n_lC_x h
      obtain ⟨x1, e1, h2⟩ := n_lI_x h1
      obtain ⟨x2, e2, h3⟩ := n_lI_x h2
      obtain ⟨rfl, h4⟩ := n_pE_x h3
      exact n_sub (n_qc e0 (n_qc e1 (n_qc e2 n_qe))) (ih x1 x2 M r h4)) n_ke) (by rfl) h
def fX6_append (N : Nat) (x1 : Int32) (M : nM) : Option (Unit × nM) :=
  fX6_append_3 N N x1 (24 : Int32) M
set_option maxRecDepth 200000 in
theorem bX6_append_0 {l : Launch} {w : nW} (N : Nat) {G : nG} (hG : n_GOK G) (x1 : Int32) (M : nM) (r : Unit × nM) (h : fX6_append N x1 M = some r) : n_At l w 0 mX6_append 0 [(0, .ref 80), (1, .int x1)] [] (G, M) (dv_v r.1, (G, r.2)) :=
  n_seg (fin := n_fin dv_v G) (K := [(3, fun lv st M => n_lC 80 lv 0 (n_lI lv 1 (fun x1 => n_lI lv 2 (fun x2 => n_pE st (fX6_append_3 N N x1 x2 M)))))]) 5 (iX6_append N hG) (n_kc (fun lv st M r h => by
      obtain ⟨e0, h1⟩ := n_lC_x h
      obtain ⟨x1, e1, h2⟩ := n_lI_x h1
      obtain ⟨x2, e2, h3⟩ := n_lI_x h2
      obtain ⟨rfl, h4⟩ := n_pE_x h3
      exact n_sub (n_qc e0 (n_qc e1 (n_qc e2 n_qe))) (bX6_append_3 N hG N x1 x2 M r h4)) n_ke) (by rfl) h
theorem eX6_append {l : Launch} {w : nW} (N : Nat) {G : nG} (hG : n_GOK G) (z1 : Int32) (M : nM) (r : Unit × nM) (h : fX6_append N z1 M = some r) : n_Met l w 0 mX6_append [.ref 80, .int z1] (G, M) (dv_v r.1, (G, r.2)) :=
  n_entry (by decide +kernel) rfl (Nat.le_of_ble_eq_true rfl) (n_sub (lv := [(0, .ref 80), (1, .int z1)]) (n_qc rfl (n_qc rfl n_qe)) (bX6_append_0 N hG z1 M r h))
abbrev hX6_append (N : Nat) : nF := fun T as M k => n_pC 80 as (fun as => n_pI as (fun z1 as => n_pE as ((fX6_append N z1 M).bind fun p => k (dv_v p.1) p.2)))
theorem csX6_append {l : Launch} {w : nW} (N : Nat) {G : nG} (hG : n_GOK G) : n_CS l w 0 mX6_append G (hX6_append N) := fun T as M k r h => by
  obtain ⟨t0, rfl, h1⟩ := n_pC_x h
  obtain ⟨z1, t1, rfl, h2⟩ := n_pI_x h1
  obtain ⟨rfl, hE⟩ := n_pE_x h2
  obtain ⟨p, hp, hk⟩ := Option.bind_eq_some_iff.mp hE
  exact ⟨_, _, eX6_append N hG z1 M p hp, hk⟩
/-! ===== SleightHouse.feed(IIIII)I ===== -/
def mX11_feed : nY := (RX11, yX11_feed, cX11_feed, 6, some .int)
theorem okX11_feed : n_MOK mX11_feed 5 := ⟨w_808, w_137, ⟨by decide +kernel, by decide +kernel, by decide +kernel⟩, by decide⟩
abbrev aX11_feed (N : Nat) : List (Nat × nO (Int32 × nM)) := [(0, o_aload 0 1), (1, o_gRc 1 80 4), (4, o_gIc 80 9 7), (7, o_push (.int (20 : Int32)) 9), (9, o_iadd 10), (10, o_push (.int (400 : Int32)) 13), (13, oc_le 18 16), (16, o_push (.int (-1 : Int32)) 17), (17, o_iret), (18, o_aload 0 19), (19, o_gRc 1 80 22), (22, o_iload 1 23), (23, o_callVc 80 1 (hX6_append N) 26), (26, o_aload 0 27), (27, o_gRc 1 80 30), (30, o_iload 2 31), (31, o_callVc 80 1 (hX6_append N) 34), (34, o_aload 0 35), (35, o_gRc 1 80 38), (38, o_iload 3 39), (39, o_callVc 80 1 (hX6_append N) 42), (42, o_aload 0 43), (43, o_gRc 1 80 46), (46, o_iload 4 48), (48, o_callVc 80 1 (hX6_append N) 51), (51, o_aload 0 52), (52, o_gRc 1 80 55), (55, o_iload 5 57), (57, o_callVc 80 1 (hX6_append N) 60), (60, o_aload 0 61), (61, o_gRc 1 80 64), (64, o_gIc 80 9 67), (67, o_iret)]
set_option maxRecDepth 200000 in
theorem iX11_feed {l : Launch} {w : nW} (N : Nat) {G : nG} (hG : n_GOK G) : n_AllS l w 1 mX11_feed G (n_fin dv_i G) (aX11_feed N) :=
  n_c (s_aload_n (pc := 0) (k := 0) (by decide +kernel)) <|
  n_c (s_gRc (s_getR (pc := 1) (ci := 11) (k := 3) (idx := 41) nok11 (by decide) rfl (by decide +kernel) w_575) (gk1 hG) (gm1_3 hG)) <|
  n_c (s_gIc (s_getI (pc := 4) (ci := 6) (k := 9) (idx := 190) nok6 (by decide) rfl (by decide +kernel) w_498) (gk80 hG)) <|
  n_c (s_bipush (pc := 7) (n := 20) (by decide +kernel) (by decide +kernel)) <|
  n_c (s_iadd (pc := 9) (by decide +kernel)) <|
  n_c (s_sipush (pc := 10) (n := 400) (by decide +kernel) (by decide +kernel)) <|
  n_c (s_icmp_le (pc := 13) (off := 5) (by decide +kernel) (by decide +kernel)) <|
  n_c (s_iconst (pc := 16) (n := -1) (by decide +kernel) (by decide +kernel)) <|
  n_c (s_iret (pc := 17) rfl (by decide +kernel)) <|
  n_c (s_aload_n (pc := 18) (k := 0) (by decide +kernel)) <|
  n_c (s_gRc (s_getR (pc := 19) (ci := 11) (k := 3) (idx := 41) nok11 (by decide) rfl (by decide +kernel) w_575) (gk1 hG) (gm1_3 hG)) <|
  n_c (s_iload_n (pc := 22) (k := 1) (by decide +kernel)) <|
  n_c (s_callVc (s_callV (pc := 23) (csX6_append N hG) (by decide) okX6_append nok6 w_810 w_811 w_809 (by decide +kernel)) (gk80 hG)) <|
  n_c (s_aload_n (pc := 26) (k := 0) (by decide +kernel)) <|
  n_c (s_gRc (s_getR (pc := 27) (ci := 11) (k := 3) (idx := 41) nok11 (by decide) rfl (by decide +kernel) w_575) (gk1 hG) (gm1_3 hG)) <|
  n_c (s_iload_n (pc := 30) (k := 2) (by decide +kernel)) <|
  n_c (s_callVc (s_callV (pc := 31) (csX6_append N hG) (by decide) okX6_append nok6 w_810 w_811 w_809 (by decide +kernel)) (gk80 hG)) <|
  n_c (s_aload_n (pc := 34) (k := 0) (by decide +kernel)) <|
  n_c (s_gRc (s_getR (pc := 35) (ci := 11) (k := 3) (idx := 41) nok11 (by decide) rfl (by decide +kernel) w_575) (gk1 hG) (gm1_3 hG)) <|
  n_c (s_iload_n (pc := 38) (k := 3) (by decide +kernel)) <|
  n_c (s_callVc (s_callV (pc := 39) (csX6_append N hG) (by decide) okX6_append nok6 w_810 w_811 w_809 (by decide +kernel)) (gk80 hG)) <|
  n_c (s_aload_n (pc := 42) (k := 0) (by decide +kernel)) <|
  n_c (s_gRc (s_getR (pc := 43) (ci := 11) (k := 3) (idx := 41) nok11 (by decide) rfl (by decide +kernel) w_575) (gk1 hG) (gm1_3 hG)) <|
  n_c (s_iload (pc := 46) (by decide +kernel)) <|
  n_c (s_callVc (s_callV (pc := 48) (csX6_append N hG) (by decide) okX6_append nok6 w_810 w_811 w_809 (by decide +kernel)) (gk80 hG)) <|
  n_c (s_aload_n (pc := 51) (k := 0) (by decide +kernel)) <|
  n_c (s_gRc (s_getR (pc := 52) (ci := 11) (k := 3) (idx := 41) nok11 (by decide) rfl (by decide +kernel) w_575) (gk1 hG) (gm1_3 hG)) <|
  n_c (s_iload (pc := 55) (by decide +kernel)) <|
  n_c (s_callVc (s_callV (pc := 57) (csX6_append N hG) (by decide) okX6_append nok6 w_810 w_811 w_809 (by decide +kernel)) (gk80 hG)) <|
  n_c (s_aload_n (pc := 60) (k := 0) (by decide +kernel)) <|
  n_c (s_gRc (s_getR (pc := 61) (ci := 11) (k := 3) (idx := 41) nok11 (by decide) rfl (by decide +kernel) w_575) (gk1 hG) (gm1_3 hG)) <|
  n_c (s_gIc (s_getI (pc := 64) (ci := 6) (k := 9) (idx := 190) nok6 (by decide) rfl (by decide +kernel) w_498) (gk80 hG)) <|
  n_c (s_iret (pc := 67) rfl (by decide +kernel)) <|
  n_e
def fX11_feed (N : Nat) (x1 : Int32) (x2 : Int32) (x3 : Int32) (x4 : Int32) (x5 : Int32) (M : nM) : Option (Int32 × nM) :=
  if ((M 80 9) + (20 : Int32)) ≤ (400 : Int32) then
    (fX6_append N x1 M).bind fun p1 =>
    (fX6_append N x2 p1.2).bind fun p2 =>
    (fX6_append N x3 p2.2).bind fun p3 =>
    (fX6_append N x4 p3.2).bind fun p4 =>
    (fX6_append N x5 p4.2).bind fun p5 =>
    some ((p5.2 80 9), p5.2)
  else
    some ((-1 : Int32), M)
set_option maxRecDepth 200000 in
theorem bX11_feed_0 {l : Launch} {w : nW} (N : Nat) {G : nG} (hG : n_GOK G) (x1 : Int32) (x2 : Int32) (x3 : Int32) (x4 : Int32) (x5 : Int32) (M : nM) (r : Int32 × nM) (h : fX11_feed N x1 x2 x3 x4 x5 M = some r) : n_At l w 1 mX11_feed 0 [(0, .ref 1), (1, .int x1), (2, .int x2), (3, .int x3), (4, .int x4), (5, .int x5)] [] (G, M) (dv_i r.1, (G, r.2)) :=
  n_seg (fin := n_fin dv_i G) (K := []) 36 (iX11_feed N hG) n_ke (by rfl) h
theorem eX11_feed {l : Launch} {w : nW} (N : Nat) {G : nG} (hG : n_GOK G) (z1 : Int32) (z2 : Int32) (z3 : Int32) (z4 : Int32) (z5 : Int32) (M : nM) (r : Int32 × nM) (h : fX11_feed N z1 z2 z3 z4 z5 M = some r) : n_Met l w 1 mX11_feed [.ref 1, .int z1, .int z2, .int z3, .int z4, .int z5] (G, M) (dv_i r.1, (G, r.2)) :=
  n_entry (by decide +kernel) rfl (Nat.le_of_ble_eq_true rfl) (n_sub (lv := [(0, .ref 1), (1, .int z1), (2, .int z2), (3, .int z3), (4, .int z4), (5, .int z5)]) (n_qc rfl (n_qc rfl (n_qc rfl (n_qc rfl (n_qc rfl (n_qc rfl n_qe)))))) (bX11_feed_0 N hG z1 z2 z3 z4 z5 M r h))
abbrev hX11_feed (N : Nat) : nF := fun T as M k => n_pC 1 as (fun as => n_pI as (fun z1 as => n_pI as (fun z2 as => n_pI as (fun z3 as => n_pI as (fun z4 as => n_pI as (fun z5 as => n_pE as ((fX11_feed N z1 z2 z3 z4 z5 M).bind fun p => k (dv_i p.1) p.2)))))))
theorem csX11_feed {l : Launch} {w : nW} (N : Nat) {G : nG} (hG : n_GOK G) : n_CS l w 1 mX11_feed G (hX11_feed N) := fun T as M k r h => by
  obtain ⟨t0, rfl, h1⟩ := n_pC_x h
  obtain ⟨z1, t1, rfl, h2⟩ := n_pI_x h1
  obtain ⟨z2, t2, rfl, h3⟩ := n_pI_x h2
  obtain ⟨z3, t3, rfl, h4⟩ := n_pI_x h3
  obtain ⟨z4, t4, rfl, h5⟩ := n_pI_x h4
  obtain ⟨z5, t5, rfl, h6⟩ := n_pI_x h5
  obtain ⟨rfl, hE⟩ := n_pE_x h6
  obtain ⟨p, hp, hk⟩ := Option.bind_eq_some_iff.mp hE
  exact ⟨_, _, eX11_feed N hG z1 z2 z3 z4 z5 M p hp, hk⟩
/-! ===== SleightHouseModel.types(I)V ===== -/
def mX12_types : nY := (RX12, yX12_types, cX12_types, 3, none)
theorem okX12_types : n_MOK mX12_types 1 := ⟨w_1692, w_151, ⟨by decide +kernel, by decide +kernel, by decide +kernel⟩, by decide⟩
abbrev aX12_types (N : Nat) : List (Nat × nO (Unit × nM)) := [(0, o_push (.int (24 : Int32)) 2), (2, o_istore 3 2 3), (3, o_iload 2 4), (4, oi_lt 39 7), (7, o_aload 0 8), (8, o_gRc 107 117 11), (11, o_aload 0 12), (12, o_gIc 107 15 15), (15, o_iload 1 16), (16, o_iload 2 17), (17, o_ishr 18), (18, o_push (.int (255 : Int32)) 21), (21, o_iand 22), (22, o_iastc 117 400 23), (23, o_aload 0 24), (24, o_aload 0 25), (25, o_gIc 107 15 28), (28, o_push (.int (1 : Int32)) 29), (29, o_iadd 30), (30, o_pIc 107 15 33), (33, o_inc 3 2 (-8 : Int32) 36), (36, o_goto 3), (39, o_vret)]
set_option maxRecDepth 200000 in
theorem iX12_types {l : Launch} {w : nW} (N : Nat) {G : nG} (hG : n_GOK G) : n_AllS l w 0 mX12_types G (n_fin dv_v G) (aX12_types N) :=
  n_c (s_bipush (pc := 0) (n := 24) (by decide +kernel) (by decide +kernel)) <|
  n_c (s_istore_n (pc := 2) (k := 2) (by decide +kernel)) <|
  n_c (s_iload_n (pc := 3) (k := 2) (by decide +kernel)) <|
  n_c (s_if_lt (pc := 4) (off := 35) (by decide +kernel) (by decide +kernel)) <|
  n_c (s_aload_n (pc := 7) (k := 0) (by decide +kernel)) <|
  n_c (s_gRc (s_getR (pc := 8) (ci := 12) (k := 14) (idx := 37) nok12 (by decide) rfl (by decide +kernel) w_1421) (gk107 hG) (gm107_14 hG)) <|
  n_c (s_aload_n (pc := 11) (k := 0) (by decide +kernel)) <|
  n_c (s_gIc (s_getI (pc := 12) (ci := 12) (k := 15) (idx := 188) nok12 (by decide) rfl (by decide +kernel) w_1422) (gk107 hG)) <|
  n_c (s_iload_n (pc := 15) (k := 1) (by decide +kernel)) <|
  n_c (s_iload_n (pc := 16) (k := 2) (by decide +kernel)) <|
  n_c (s_ishr (pc := 17) (by decide +kernel)) <|
  n_c (s_sipush (pc := 18) (n := 255) (by decide +kernel) (by decide +kernel)) <|
  n_c (s_iand (pc := 21) (by decide +kernel)) <|
  n_c (s_iastc (s_iastore (pc := 22) (by decide +kernel)) (gk117 hG) (gl117 hG)) <|
  n_c (s_aload_n (pc := 23) (k := 0) (by decide +kernel)) <|
  n_c (s_aload_n (pc := 24) (k := 0) (by decide +kernel)) <|
  n_c (s_gIc (s_getI (pc := 25) (ci := 12) (k := 15) (idx := 188) nok12 (by decide) rfl (by decide +kernel) w_1422) (gk107 hG)) <|
  n_c (s_iconst (pc := 28) (n := 1) (by decide +kernel) (by decide +kernel)) <|
  n_c (s_iadd (pc := 29) (by decide +kernel)) <|
  n_c (s_pIc (s_putI (pc := 30) (ci := 12) (k := 15) (idx := 188) nok12 (by decide) rfl rfl (by decide +kernel) w_1422) (gk107 hG)) <|
  n_c (s_iinc (pc := 33) (n := -8) (by decide +kernel) (by decide +kernel)) <|
  n_c (s_goto (pc := 36) (off := -33) (by decide +kernel) (by decide +kernel)) <|
  n_c (s_vret (pc := 39) rfl (by decide +kernel)) <|
  n_e
def fX12_types_3 (N : Nat) : Nat → Int32 → Int32 → nM → Option (Unit × nM)
  | 0, _, _, _ => none
  | n + 1, x1, x2, M =>
    if x2 < 0 then
      some ((), M)
    else
      n_chk (n_ib 400 (M 107 15)) <|
      let M1 : nM := n_up M 117 (M 107 15).toNatClampNeg ((x1 >>> (x2 &&& 31)) &&& (255 : Int32))
      let M2 : nM := n_up M1 107 15 ((M1 107 15) + (1 : Int32))
      let v3 : Int32 := (x2 + (-8 : Int32))
      fX12_types_3 N n x1 v3 M2
set_option maxRecDepth 200000 in
theorem bX12_types_3 {l : Launch} {w : nW} (N : Nat) {G : nG} (hG : n_GOK G) : ∀ (n : Nat) (x1 : Int32) (x2 : Int32) (M : nM) (r : Unit × nM), fX12_types_3 N n x1 x2 M = some r → n_At l w 0 mX12_types 3 [(0, .ref 107), (1, .int x1), (2, .int x2)] [] (G, M) (dv_v r.1, (G, r.2)) := by
  intro n
  induction n with
  | zero => intro x1 x2 M r h; cases (show (none : Option (Unit × nM)) = some r from h)
  | succ n ih =>
    intro x1 x2 M r h
    exact n_seg (fin := n_fin dv_v G) (K := [(3, fun lv st M => n_lC 107 lv 0 (n_lI lv 1 (fun x1 => n_lI lv 2 (fun x2 => n_pE st (fX12_types_3 N n x1 x2 M)))))]) 24 (iX12_types N hG) (n_kc (fun lv st M r h => by
      obtain ⟨e0, h1⟩ := n_lC_x h
      obtain ⟨x1, e1, h2⟩ := n_lI_x h1
      obtain ⟨x2, e2, h3⟩ := n_lI_x h2
      obtain ⟨rfl, h4⟩ := n_pE_x h3
      exact n_sub (n_qc e0 (n_qc e1 (n_qc e2 n_qe))) (ih x1 x2 M r h4)) n_ke) (by rfl) h
def fX12_types (N : Nat) (x1 : Int32) (M : nM) : Option (Unit × nM) :=
  fX12_types_3 N N x1 (24 : Int32) M
set_option maxRecDepth 200000 in
theorem bX12_types_0 {l : Launch} {w : nW} (N : Nat) {G : nG} (hG : n_GOK G) (x1 : Int32) (M : nM) (r : Unit × nM) (h : fX12_types N x1 M = some r) : n_At l w 0 mX12_types 0 [(0, .ref 107), (1, .int x1)] [] (G, M) (dv_v r.1, (G, r.2)) :=
  n_seg (fin := n_fin dv_v G) (K := [(3, fun lv st M => n_lC 107 lv 0 (n_lI lv 1 (fun x1 => n_lI lv 2 (fun x2 => n_pE st (fX12_types_3 N N x1 x2 M)))))]) 5 (iX12_types N hG) (n_kc (fun lv st M r h => by
      obtain ⟨e0, h1⟩ := n_lC_x h
      obtain ⟨x1, e1, h2⟩ := n_lI_x h1
      obtain ⟨x2, e2, h3⟩ := n_lI_x h2
      obtain ⟨rfl, h4⟩ := n_pE_x h3
      exact n_sub (n_qc e0 (n_qc e1 (n_qc e2 n_qe))) (bX12_types_3 N hG N x1 x2 M r h4)) n_ke) (by rfl) h
theorem eX12_types {l : Launch} {w : nW} (N : Nat) {G : nG} (hG : n_GOK G) (z1 : Int32) (M : nM) (r : Unit × nM) (h : fX12_types N z1 M = some r) : n_Met l w 0 mX12_types [.ref 107, .int z1] (G, M) (dv_v r.1, (G, r.2)) :=
  n_entry (by decide +kernel) rfl (Nat.le_of_ble_eq_true rfl) (n_sub (lv := [(0, .ref 107), (1, .int z1)]) (n_qc rfl (n_qc rfl n_qe)) (bX12_types_0 N hG z1 M r h))
abbrev hX12_types (N : Nat) : nF := fun T as M k => n_pC 107 as (fun as => n_pI as (fun z1 as => n_pE as ((fX12_types N z1 M).bind fun p => k (dv_v p.1) p.2)))
theorem csX12_types {l : Launch} {w : nW} (N : Nat) {G : nG} (hG : n_GOK G) : n_CS l w 0 mX12_types G (hX12_types N) := fun T as M k r h => by
  obtain ⟨t0, rfl, h1⟩ := n_pC_x h
  obtain ⟨z1, t1, rfl, h2⟩ := n_pI_x h1
  obtain ⟨rfl, hE⟩ := n_pE_x h2
  obtain ⟨p, hp, hk⟩ := Option.bind_eq_some_iff.mp hE
  exact ⟨_, _, eX12_types N hG z1 M p hp, hk⟩
/-! ===== SleightHouseModel.feed(IIIII)I ===== -/
def mX12_feed : nY := (RX12, yX12_feed, cX12_feed, 6, some .int)
theorem okX12_feed : n_MOK mX12_feed 5 := ⟨w_1688, w_151, ⟨by decide +kernel, by decide +kernel, by decide +kernel⟩, by decide⟩
abbrev aX12_feed (N : Nat) : List (Nat × nO (Int32 × nM)) := [(0, o_aload 0 1), (1, o_push (.int (0 : Int32)) 2), (2, o_pIc 107 0 5), (5, o_aload 0 6), (6, o_gIc 107 15 9), (9, o_push (.int (380 : Int32)) 12), (12, oc_le 17 15), (15, o_push (.int (-1 : Int32)) 16), (16, o_iret), (17, o_aload 0 18), (18, o_iload 1 19), (19, o_callVc 107 1 (hX12_types N) 22), (22, o_aload 0 23), (23, o_iload 2 24), (24, o_callVc 107 1 (hX12_types N) 27), (27, o_aload 0 28), (28, o_iload 3 29), (29, o_callVc 107 1 (hX12_types N) 32), (32, o_aload 0 33), (33, o_iload 4 35), (35, o_callVc 107 1 (hX12_types N) 38), (38, o_aload 0 39), (39, o_iload 5 41), (41, o_callVc 107 1 (hX12_types N) 44), (44, o_aload 0 45), (45, o_gIc 107 15 48), (48, o_iret)]
set_option maxRecDepth 200000 in
theorem iX12_feed {l : Launch} {w : nW} (N : Nat) {G : nG} (hG : n_GOK G) : n_AllS l w 1 mX12_feed G (n_fin dv_i G) (aX12_feed N) :=
  n_c (s_aload_n (pc := 0) (k := 0) (by decide +kernel)) <|
  n_c (s_iconst (pc := 1) (n := 0) (by decide +kernel) (by decide +kernel)) <|
  n_c (s_pIc (s_putI (pc := 2) (ci := 12) (k := 0) (idx := 146) nok12 (by decide) rfl rfl (by decide +kernel) w_1407) (gk107 hG)) <|
  n_c (s_aload_n (pc := 5) (k := 0) (by decide +kernel)) <|
  n_c (s_gIc (s_getI (pc := 6) (ci := 12) (k := 15) (idx := 188) nok12 (by decide) rfl (by decide +kernel) w_1422) (gk107 hG)) <|
  n_c (s_sipush (pc := 9) (n := 380) (by decide +kernel) (by decide +kernel)) <|
  n_c (s_icmp_le (pc := 12) (off := 5) (by decide +kernel) (by decide +kernel)) <|
  n_c (s_iconst (pc := 15) (n := -1) (by decide +kernel) (by decide +kernel)) <|
  n_c (s_iret (pc := 16) rfl (by decide +kernel)) <|
  n_c (s_aload_n (pc := 17) (k := 0) (by decide +kernel)) <|
  n_c (s_iload_n (pc := 18) (k := 1) (by decide +kernel)) <|
  n_c (s_callVc (s_callV (pc := 19) (csX12_types N hG) (by decide) okX12_types nok12 w_1691 w_51 w_1689 (by decide +kernel)) (gk107 hG)) <|
  n_c (s_aload_n (pc := 22) (k := 0) (by decide +kernel)) <|
  n_c (s_iload_n (pc := 23) (k := 2) (by decide +kernel)) <|
  n_c (s_callVc (s_callV (pc := 24) (csX12_types N hG) (by decide) okX12_types nok12 w_1691 w_51 w_1689 (by decide +kernel)) (gk107 hG)) <|
  n_c (s_aload_n (pc := 27) (k := 0) (by decide +kernel)) <|
  n_c (s_iload_n (pc := 28) (k := 3) (by decide +kernel)) <|
  n_c (s_callVc (s_callV (pc := 29) (csX12_types N hG) (by decide) okX12_types nok12 w_1691 w_51 w_1689 (by decide +kernel)) (gk107 hG)) <|
  n_c (s_aload_n (pc := 32) (k := 0) (by decide +kernel)) <|
  n_c (s_iload (pc := 33) (by decide +kernel)) <|
  n_c (s_callVc (s_callV (pc := 35) (csX12_types N hG) (by decide) okX12_types nok12 w_1691 w_51 w_1689 (by decide +kernel)) (gk107 hG)) <|
  n_c (s_aload_n (pc := 38) (k := 0) (by decide +kernel)) <|
  n_c (s_iload (pc := 39) (by decide +kernel)) <|
  n_c (s_callVc (s_callV (pc := 41) (csX12_types N hG) (by decide) okX12_types nok12 w_1691 w_51 w_1689 (by decide +kernel)) (gk107 hG)) <|
  n_c (s_aload_n (pc := 44) (k := 0) (by decide +kernel)) <|
  n_c (s_gIc (s_getI (pc := 45) (ci := 12) (k := 15) (idx := 188) nok12 (by decide) rfl (by decide +kernel) w_1422) (gk107 hG)) <|
  n_c (s_iret (pc := 48) rfl (by decide +kernel)) <|
  n_e
def fX12_feed (N : Nat) (x1 : Int32) (x2 : Int32) (x3 : Int32) (x4 : Int32) (x5 : Int32) (M : nM) : Option (Int32 × nM) :=
  let M1 : nM := n_up M 107 0 (0 : Int32)
  if (M1 107 15) ≤ (380 : Int32) then
    (fX12_types N x1 M1).bind fun p2 =>
    (fX12_types N x2 p2.2).bind fun p3 =>
    (fX12_types N x3 p3.2).bind fun p4 =>
    (fX12_types N x4 p4.2).bind fun p5 =>
    (fX12_types N x5 p5.2).bind fun p6 =>
    some ((p6.2 107 15), p6.2)
  else
    some ((-1 : Int32), M1)
set_option maxRecDepth 200000 in
theorem bX12_feed_0 {l : Launch} {w : nW} (N : Nat) {G : nG} (hG : n_GOK G) (x1 : Int32) (x2 : Int32) (x3 : Int32) (x4 : Int32) (x5 : Int32) (M : nM) (r : Int32 × nM) (h : fX12_feed N x1 x2 x3 x4 x5 M = some r) : n_At l w 1 mX12_feed 0 [(0, .ref 107), (1, .int x1), (2, .int x2), (3, .int x3), (4, .int x4), (5, .int x5)] [] (G, M) (dv_i r.1, (G, r.2)) :=
  n_seg (fin := n_fin dv_i G) (K := []) 30 (iX12_feed N hG) n_ke (by rfl) h
theorem eX12_feed {l : Launch} {w : nW} (N : Nat) {G : nG} (hG : n_GOK G) (z1 : Int32) (z2 : Int32) (z3 : Int32) (z4 : Int32) (z5 : Int32) (M : nM) (r : Int32 × nM) (h : fX12_feed N z1 z2 z3 z4 z5 M = some r) : n_Met l w 1 mX12_feed [.ref 107, .int z1, .int z2, .int z3, .int z4, .int z5] (G, M) (dv_i r.1, (G, r.2)) :=
  n_entry (by decide +kernel) rfl (Nat.le_of_ble_eq_true rfl) (n_sub (lv := [(0, .ref 107), (1, .int z1), (2, .int z2), (3, .int z3), (4, .int z4), (5, .int z5)]) (n_qc rfl (n_qc rfl (n_qc rfl (n_qc rfl (n_qc rfl (n_qc rfl n_qe)))))) (bX12_feed_0 N hG z1 z2 z3 z4 z5 M r h))
abbrev hX12_feed (N : Nat) : nF := fun T as M k => n_pC 107 as (fun as => n_pI as (fun z1 as => n_pI as (fun z2 as => n_pI as (fun z3 as => n_pI as (fun z4 as => n_pI as (fun z5 as => n_pE as ((fX12_feed N z1 z2 z3 z4 z5 M).bind fun p => k (dv_i p.1) p.2)))))))
theorem csX12_feed {l : Launch} {w : nW} (N : Nat) {G : nG} (hG : n_GOK G) : n_CS l w 1 mX12_feed G (hX12_feed N) := fun T as M k r h => by
  obtain ⟨t0, rfl, h1⟩ := n_pC_x h
  obtain ⟨z1, t1, rfl, h2⟩ := n_pI_x h1
  obtain ⟨z2, t2, rfl, h3⟩ := n_pI_x h2
  obtain ⟨z3, t3, rfl, h4⟩ := n_pI_x h3
  obtain ⟨z4, t4, rfl, h5⟩ := n_pI_x h4
  obtain ⟨z5, t5, rfl, h6⟩ := n_pI_x h5
  obtain ⟨rfl, hE⟩ := n_pE_x h6
  obtain ⟨p, hp, hk⟩ := Option.bind_eq_some_iff.mp hE
  exact ⟨_, _, eX12_feed N hG z1 z2 z3 z4 z5 M p hp, hk⟩
/-! ===== SleightHouse.end(I)Z ===== -/
def mX11_end : nY := (RX11, yX11_end, cX11_end, 2, some .boolean)
theorem okX11_end : n_MOK mX11_end 1 := ⟨w_816, w_137, ⟨by decide +kernel, by decide +kernel, by decide +kernel⟩, by decide⟩
abbrev aX11_end : List (Nat × nO (Int32 × nM)) := [(0, o_iload 1 1), (1, oi_lt 15 4), (4, o_iload 1 5), (5, o_aload 0 6), (6, o_gRc 1 80 9), (9, o_gIc 80 9 12), (12, oc_le 17 15), (15, o_push (.int (0 : Int32)) 16), (16, o_zret), (17, o_aload 0 18), (18, o_gRc 1 80 21), (21, o_iload 1 22), (22, o_pIc 80 9 25), (25, o_push (.int (1 : Int32)) 26), (26, o_zret)]
set_option maxRecDepth 200000 in
theorem iX11_end {l : Launch} {w : nW} {G : nG} (hG : n_GOK G) : n_AllS l w 0 mX11_end G (n_fin dv_i G) (aX11_end) :=
  n_c (s_iload_n (pc := 0) (k := 1) (by decide +kernel)) <|
  n_c (s_if_lt (pc := 1) (off := 14) (by decide +kernel) (by decide +kernel)) <|
  n_c (s_iload_n (pc := 4) (k := 1) (by decide +kernel)) <|
  n_c (s_aload_n (pc := 5) (k := 0) (by decide +kernel)) <|
  n_c (s_gRc (s_getR (pc := 6) (ci := 11) (k := 3) (idx := 41) nok11 (by decide) rfl (by decide +kernel) w_575) (gk1 hG) (gm1_3 hG)) <|
  n_c (s_gIc (s_getI (pc := 9) (ci := 6) (k := 9) (idx := 190) nok6 (by decide) rfl (by decide +kernel) w_498) (gk80 hG)) <|
  n_c (s_icmp_le (pc := 12) (off := 5) (by decide +kernel) (by decide +kernel)) <|
  n_c (s_iconst (pc := 15) (n := 0) (by decide +kernel) (by decide +kernel)) <|
  n_c (s_zret (pc := 16) rfl (by decide +kernel)) <|
  n_c (s_aload_n (pc := 17) (k := 0) (by decide +kernel)) <|
  n_c (s_gRc (s_getR (pc := 18) (ci := 11) (k := 3) (idx := 41) nok11 (by decide) rfl (by decide +kernel) w_575) (gk1 hG) (gm1_3 hG)) <|
  n_c (s_iload_n (pc := 21) (k := 1) (by decide +kernel)) <|
  n_c (s_pIc (s_putI (pc := 22) (ci := 6) (k := 9) (idx := 190) nok6 (by decide) rfl rfl (by decide +kernel) w_498) (gk80 hG)) <|
  n_c (s_iconst (pc := 25) (n := 1) (by decide +kernel) (by decide +kernel)) <|
  n_c (s_zret (pc := 26) rfl (by decide +kernel)) <|
  n_e
def fX11_end (x1 : Int32) (M : nM) : Option (Int32 × nM) :=
  if x1 < 0 then
    some ((0 : Int32), M)
  else
    if x1 ≤ (M 80 9) then
      let M1 : nM := n_up M 80 9 x1
      some ((1 : Int32), M1)
    else
      some ((0 : Int32), M)
set_option maxRecDepth 200000 in
theorem bX11_end_0 {l : Launch} {w : nW} {G : nG} (hG : n_GOK G) (x1 : Int32) (M : nM) (r : Int32 × nM) (h : fX11_end x1 M = some r) : n_At l w 0 mX11_end 0 [(0, .ref 1), (1, .int x1)] [] (G, M) (dv_i r.1, (G, r.2)) :=
  n_seg (fin := n_fin dv_i G) (K := []) 20 (iX11_end hG) n_ke (by rfl) h
theorem eX11_end {l : Launch} {w : nW} {G : nG} (hG : n_GOK G) (z1 : Int32) (M : nM) (r : Int32 × nM) (h : fX11_end z1 M = some r) : n_Met l w 0 mX11_end [.ref 1, .int z1] (G, M) (dv_i r.1, (G, r.2)) :=
  n_entry (by decide +kernel) rfl (Nat.le_of_ble_eq_true rfl) (n_sub (lv := [(0, .ref 1), (1, .int z1)]) (n_qc rfl (n_qc rfl n_qe)) (bX11_end_0 hG z1 M r h))
abbrev hX11_end : nF := fun T as M k => n_pC 1 as (fun as => n_pI as (fun z1 as => n_pE as ((fX11_end z1 M).bind fun p => k (dv_i p.1) p.2)))
theorem csX11_end {l : Launch} {w : nW} {G : nG} (hG : n_GOK G) : n_CS l w 0 mX11_end G (hX11_end) := fun T as M k r h => by
  obtain ⟨t0, rfl, h1⟩ := n_pC_x h
  obtain ⟨z1, t1, rfl, h2⟩ := n_pI_x h1
  obtain ⟨rfl, hE⟩ := n_pE_x h2
  obtain ⟨p, hp, hk⟩ := Option.bind_eq_some_iff.mp hE
  exact ⟨_, _, eX11_end hG z1 M p hp, hk⟩
/-! ===== SleightHouseModel.end(I)Z ===== -/
def mX12_end : nY := (RX12, yX12_end, cX12_end, 2, some .boolean)
theorem okX12_end : n_MOK mX12_end 1 := ⟨w_1696, w_151, ⟨by decide +kernel, by decide +kernel, by decide +kernel⟩, by decide⟩
abbrev aX12_end : List (Nat × nO (Int32 × nM)) := [(0, o_aload 0 1), (1, o_push (.int (0 : Int32)) 2), (2, o_pIc 107 0 5), (5, o_aload 0 6), (6, o_iload 1 7), (7, o_push (.int (0 : Int32)) 8), (8, o_aload 0 9), (9, o_gIc 107 15 12), (12, o_callVc 107 3 (hX12_isIn) 15), (15, oi_ne 20 18), (18, o_push (.int (0 : Int32)) 19), (19, o_zret), (20, o_aload 0 21), (21, o_iload 1 22), (22, o_pIc 107 15 25), (25, o_push (.int (1 : Int32)) 26), (26, o_zret)]
set_option maxRecDepth 200000 in
theorem iX12_end {l : Launch} {w : nW} {G : nG} (hG : n_GOK G) : n_AllS l w 1 mX12_end G (n_fin dv_i G) (aX12_end) :=
  n_c (s_aload_n (pc := 0) (k := 0) (by decide +kernel)) <|
  n_c (s_iconst (pc := 1) (n := 0) (by decide +kernel) (by decide +kernel)) <|
  n_c (s_pIc (s_putI (pc := 2) (ci := 12) (k := 0) (idx := 146) nok12 (by decide) rfl rfl (by decide +kernel) w_1407) (gk107 hG)) <|
  n_c (s_aload_n (pc := 5) (k := 0) (by decide +kernel)) <|
  n_c (s_iload_n (pc := 6) (k := 1) (by decide +kernel)) <|
  n_c (s_iconst (pc := 7) (n := 0) (by decide +kernel) (by decide +kernel)) <|
  n_c (s_aload_n (pc := 8) (k := 0) (by decide +kernel)) <|
  n_c (s_gIc (s_getI (pc := 9) (ci := 12) (k := 15) (idx := 188) nok12 (by decide) rfl (by decide +kernel) w_1422) (gk107 hG)) <|
  n_c (s_callVc (s_callV (pc := 12) (csX12_isIn) (by decide) okX12_isIn nok12 w_1659 w_46 w_1657 (by decide +kernel)) (gk107 hG)) <|
  n_c (s_if_ne (pc := 15) (off := 5) (by decide +kernel) (by decide +kernel)) <|
  n_c (s_iconst (pc := 18) (n := 0) (by decide +kernel) (by decide +kernel)) <|
  n_c (s_zret (pc := 19) rfl (by decide +kernel)) <|
  n_c (s_aload_n (pc := 20) (k := 0) (by decide +kernel)) <|
  n_c (s_iload_n (pc := 21) (k := 1) (by decide +kernel)) <|
  n_c (s_pIc (s_putI (pc := 22) (ci := 12) (k := 15) (idx := 188) nok12 (by decide) rfl rfl (by decide +kernel) w_1422) (gk107 hG)) <|
  n_c (s_iconst (pc := 25) (n := 1) (by decide +kernel) (by decide +kernel)) <|
  n_c (s_zret (pc := 26) rfl (by decide +kernel)) <|
  n_e
def fX12_end (x1 : Int32) (M : nM) : Option (Int32 × nM) :=
  let M1 : nM := n_up M 107 0 (0 : Int32)
  (fX12_isIn x1 (0 : Int32) (M1 107 15) M1).bind fun p2 =>
  if ¬ p2.1 = 0 then
    let M3 : nM := n_up p2.2 107 15 x1
    some ((1 : Int32), M3)
  else
    some ((0 : Int32), p2.2)
set_option maxRecDepth 200000 in
theorem bX12_end_0 {l : Launch} {w : nW} {G : nG} (hG : n_GOK G) (x1 : Int32) (M : nM) (r : Int32 × nM) (h : fX12_end x1 M = some r) : n_At l w 1 mX12_end 0 [(0, .ref 107), (1, .int x1)] [] (G, M) (dv_i r.1, (G, r.2)) :=
  n_seg (fin := n_fin dv_i G) (K := []) 20 (iX12_end hG) n_ke (by rfl) h
theorem eX12_end {l : Launch} {w : nW} {G : nG} (hG : n_GOK G) (z1 : Int32) (M : nM) (r : Int32 × nM) (h : fX12_end z1 M = some r) : n_Met l w 1 mX12_end [.ref 107, .int z1] (G, M) (dv_i r.1, (G, r.2)) :=
  n_entry (by decide +kernel) rfl (Nat.le_of_ble_eq_true rfl) (n_sub (lv := [(0, .ref 107), (1, .int z1)]) (n_qc rfl (n_qc rfl n_qe)) (bX12_end_0 hG z1 M r h))
abbrev hX12_end : nF := fun T as M k => n_pC 107 as (fun as => n_pI as (fun z1 as => n_pE as ((fX12_end z1 M).bind fun p => k (dv_i p.1) p.2)))
theorem csX12_end {l : Launch} {w : nW} {G : nG} (hG : n_GOK G) : n_CS l w 1 mX12_end G (hX12_end) := fun T as M k r h => by
  obtain ⟨t0, rfl, h1⟩ := n_pC_x h
  obtain ⟨z1, t1, rfl, h2⟩ := n_pI_x h1
  obtain ⟨rfl, hE⟩ := n_pE_x h2
  obtain ⟨p, hp, hk⟩ := Option.bind_eq_some_iff.mp hE
  exact ⟨_, _, eX12_end hG z1 M p hp, hk⟩
/-! ===== SleightHouse$Law.clear()V ===== -/
def mX3_clear : nY := (RX3, yX3_clear, cX3_clear, 1, none)
theorem okX3_clear : n_MOK mX3_clear 0 := ⟨w_960, w_144, ⟨by decide +kernel, by decide +kernel, by decide +kernel⟩, by decide⟩
abbrev aX3_clear : List (Nat × nO (Unit × nM)) := [(0, o_aload 0 1), (1, o_push (.int (0 : Int32)) 2), (2, o_pIc 85 5 5), (5, o_aload 0 6), (6, o_push (.int (0 : Int32)) 7), (7, o_pIc 85 6 10), (10, o_vret)]
set_option maxRecDepth 200000 in
theorem iX3_clear {l : Launch} {w : nW} {G : nG} (hG : n_GOK G) : n_AllS l w 0 mX3_clear G (n_fin dv_v G) (aX3_clear) :=
  n_c (s_aload_n (pc := 0) (k := 0) (by decide +kernel)) <|
  n_c (s_iconst (pc := 1) (n := 0) (by decide +kernel) (by decide +kernel)) <|
  n_c (s_pIc (s_putI (pc := 2) (ci := 3) (k := 5) (idx := 27) nok3 (by decide) rfl rfl (by decide +kernel) w_330) (gk85 hG)) <|
  n_c (s_aload_n (pc := 5) (k := 0) (by decide +kernel)) <|
  n_c (s_iconst (pc := 6) (n := 0) (by decide +kernel) (by decide +kernel)) <|
  n_c (s_pIc (s_putI (pc := 7) (ci := 3) (k := 6) (idx := 31) nok3 (by decide) rfl rfl (by decide +kernel) w_331) (gk85 hG)) <|
  n_c (s_vret (pc := 10) rfl (by decide +kernel)) <|
  n_e
def fX3_clear (M : nM) : Option (Unit × nM) :=
  let M1 : nM := n_up M 85 5 (0 : Int32)
  let M2 : nM := n_up M1 85 6 (0 : Int32)
  some ((), M2)
set_option maxRecDepth 200000 in
theorem bX3_clear_0 {l : Launch} {w : nW} {G : nG} (hG : n_GOK G) (M : nM) (r : Unit × nM) (h : fX3_clear M = some r) : n_At l w 0 mX3_clear 0 [(0, .ref 85)] [] (G, M) (dv_v r.1, (G, r.2)) :=
  n_seg (fin := n_fin dv_v G) (K := []) 10 (iX3_clear hG) n_ke (by rfl) h
theorem eX3_clear {l : Launch} {w : nW} {G : nG} (hG : n_GOK G) (M : nM) (r : Unit × nM) (h : fX3_clear M = some r) : n_Met l w 0 mX3_clear [.ref 85] (G, M) (dv_v r.1, (G, r.2)) :=
  n_entry (by decide +kernel) rfl (Nat.le_of_ble_eq_true rfl) (n_sub (lv := [(0, .ref 85)]) (n_qc rfl n_qe) (bX3_clear_0 hG M r h))
abbrev hX3_clear : nF := fun T as M k => n_pC 85 as (fun as => n_pE as ((fX3_clear M).bind fun p => k (dv_v p.1) p.2))
theorem csX3_clear {l : Launch} {w : nW} {G : nG} (hG : n_GOK G) : n_CS l w 0 mX3_clear G (hX3_clear) := fun T as M k r h => by
  obtain ⟨t0, rfl, h1⟩ := n_pC_x h
  obtain ⟨rfl, hE⟩ := n_pE_x h1
  obtain ⟨p, hp, hk⟩ := Option.bind_eq_some_iff.mp hE
  exact ⟨_, _, eX3_clear hG M p hp, hk⟩
/-! ===== SleightHouse$Rows.clear()I ===== -/
def mX7_clear : nY := (RX7, yX7_clear, cX7_clear, 1, some .int)
theorem okX7_clear : n_MOK mX7_clear 0 := ⟨w_964, w_142, ⟨by decide +kernel, by decide +kernel, by decide +kernel⟩, by decide⟩
abbrev aX7_clear (G : nG) : List (Nat × nO (Int32 × nM)) := [(0, o_aload 0 1), (1, o_push (.int (0 : Int32)) 2), (2, o_putI G 7 3 5), (5, o_push (.int (0 : Int32)) 6), (6, o_iret)]
set_option maxRecDepth 200000 in
theorem iX7_clear {l : Launch} {w : nW} {G : nG} : n_AllS l w 0 mX7_clear G (n_fin dv_i G) (aX7_clear G) :=
  n_c (s_aload_n (pc := 0) (k := 0) (by decide +kernel)) <|
  n_c (s_iconst (pc := 1) (n := 0) (by decide +kernel) (by decide +kernel)) <|
  n_c (s_putI (pc := 2) (ci := 7) (k := 3) (idx := 9) nok7 (by decide) rfl rfl (by decide +kernel) w_303) <|
  n_c (s_iconst (pc := 5) (n := 0) (by decide +kernel) (by decide +kernel)) <|
  n_c (s_iret (pc := 6) rfl (by decide +kernel)) <|
  n_e
def fX7_clear (G : nG) (x0 : Nat) (M : nM) : Option (Int32 × nM) :=
  n_chk (Nat.beq (n_kd G x0) 7) <|
  let M1 : nM := n_up M x0 3 (0 : Int32)
  some ((0 : Int32), M1)
set_option maxRecDepth 200000 in
theorem bX7_clear_0 {l : Launch} {w : nW} {G : nG} (x0 : Nat) (M : nM) (r : Int32 × nM) (h : fX7_clear G x0 M = some r) : n_At l w 0 mX7_clear 0 [(0, .ref x0)] [] (G, M) (dv_i r.1, (G, r.2)) :=
  n_seg (fin := n_fin dv_i G) (K := []) 8 (iX7_clear) n_ke (by rfl) h
theorem eX7_clear {l : Launch} {w : nW} {G : nG} (z0 : Nat) (M : nM) (r : Int32 × nM) (h : fX7_clear G z0 M = some r) : n_Met l w 0 mX7_clear [.ref z0] (G, M) (dv_i r.1, (G, r.2)) :=
  n_entry (by decide +kernel) rfl (Nat.le_of_ble_eq_true rfl) (n_sub (lv := [(0, .ref z0)]) (n_qc rfl n_qe) (bX7_clear_0 z0 M r h))
abbrev hX7_clear (G : nG) : nF := fun T as M k => n_pR as (fun z0 as => n_pE as ((fX7_clear G z0 M).bind fun p => k (dv_i p.1) p.2))
theorem csX7_clear {l : Launch} {w : nW} {G : nG} : n_CS l w 0 mX7_clear G (hX7_clear G) := fun T as M k r h => by
  obtain ⟨z0, t0, rfl, h1⟩ := n_pR_x h
  obtain ⟨rfl, hE⟩ := n_pE_x h1
  obtain ⟨p, hp, hk⟩ := Option.bind_eq_some_iff.mp hE
  exact ⟨_, _, eX7_clear z0 M p hp, hk⟩
/-! ===== SleightHouse$Reader.canBegin(I)Z ===== -/
def mX6_canBegin : nY := (RX6, yX6_canBegin, cX6_canBegin, 3, some .boolean)
theorem okX6_canBegin : n_MOK mX6_canBegin 1 := ⟨w_968, w_148, ⟨by decide +kernel, by decide +kernel, by decide +kernel⟩, by decide⟩
abbrev aX6_canBegin : List (Nat × nO (Int32 × nM)) := [(0, o_aload 0 1), (1, o_gRc 80 82 4), (4, o_aload 0 5), (5, o_gIc 80 6 8), (8, o_aldc 82 401 9), (9, o_istore 3 2 10), (10, o_iload 1 11), (11, oi_ne 34 14), (14, o_iload 2 15), (15, o_push (.int (128 : Int32)) 18), (18, oc_lt 32 21), (21, o_iload 2 22), (22, o_push (.int (130 : Int32)) 25), (25, oc_gt 32 28), (28, o_push (.int (1 : Int32)) 29), (29, o_goto 33), (32, o_push (.int (0 : Int32)) 33), (33, o_zret), (34, o_iload 2 35), (35, o_iload 1 36), (36, o_push (.int (3 : Int32)) 37), (37, oc_ne 46 40), (40, o_push (.int (147 : Int32)) 43), (43, o_goto 49), (46, o_push (.int (146 : Int32)) 49), (49, oc_ne 56 52), (52, o_push (.int (1 : Int32)) 53), (53, o_goto 57), (56, o_push (.int (0 : Int32)) 57), (57, o_zret)]
set_option maxRecDepth 200000 in
theorem iX6_canBegin {l : Launch} {w : nW} {G : nG} (hG : n_GOK G) : n_AllS l w 0 mX6_canBegin G (n_fin dv_i G) (aX6_canBegin) :=
  n_c (s_aload_n (pc := 0) (k := 0) (by decide +kernel)) <|
  n_c (s_gRc (s_getR (pc := 1) (ci := 6) (k := 2) (idx := 15) nok6 (by decide) rfl (by decide +kernel) w_488) (gk80 hG) (gm80_2 hG)) <|
  n_c (s_aload_n (pc := 4) (k := 0) (by decide +kernel)) <|
  n_c (s_gIc (s_getI (pc := 5) (ci := 6) (k := 6) (idx := 29) nok6 (by decide) rfl (by decide +kernel) w_492) (gk80 hG)) <|
  n_c (s_aldc (s_iaload (pc := 8) (by decide +kernel)) (gk82 hG) (gl82 hG)) <|
  n_c (s_istore_n (pc := 9) (k := 2) (by decide +kernel)) <|
  n_c (s_iload_n (pc := 10) (k := 1) (by decide +kernel)) <|
  n_c (s_if_ne (pc := 11) (off := 23) (by decide +kernel) (by decide +kernel)) <|
  n_c (s_iload_n (pc := 14) (k := 2) (by decide +kernel)) <|
  n_c (s_sipush (pc := 15) (n := 128) (by decide +kernel) (by decide +kernel)) <|
  n_c (s_icmp_lt (pc := 18) (off := 14) (by decide +kernel) (by decide +kernel)) <|
  n_c (s_iload_n (pc := 21) (k := 2) (by decide +kernel)) <|
  n_c (s_sipush (pc := 22) (n := 130) (by decide +kernel) (by decide +kernel)) <|
  n_c (s_icmp_gt (pc := 25) (off := 7) (by decide +kernel) (by decide +kernel)) <|
  n_c (s_iconst (pc := 28) (n := 1) (by decide +kernel) (by decide +kernel)) <|
  n_c (s_goto (pc := 29) (off := 4) (by decide +kernel) (by decide +kernel)) <|
  n_c (s_iconst (pc := 32) (n := 0) (by decide +kernel) (by decide +kernel)) <|
  n_c (s_zret (pc := 33) rfl (by decide +kernel)) <|
  n_c (s_iload_n (pc := 34) (k := 2) (by decide +kernel)) <|
  n_c (s_iload_n (pc := 35) (k := 1) (by decide +kernel)) <|
  n_c (s_iconst (pc := 36) (n := 3) (by decide +kernel) (by decide +kernel)) <|
  n_c (s_icmp_ne (pc := 37) (off := 9) (by decide +kernel) (by decide +kernel)) <|
  n_c (s_sipush (pc := 40) (n := 147) (by decide +kernel) (by decide +kernel)) <|
  n_c (s_goto (pc := 43) (off := 6) (by decide +kernel) (by decide +kernel)) <|
  n_c (s_sipush (pc := 46) (n := 146) (by decide +kernel) (by decide +kernel)) <|
  n_c (s_icmp_ne (pc := 49) (off := 7) (by decide +kernel) (by decide +kernel)) <|
  n_c (s_iconst (pc := 52) (n := 1) (by decide +kernel) (by decide +kernel)) <|
  n_c (s_goto (pc := 53) (off := 4) (by decide +kernel) (by decide +kernel)) <|
  n_c (s_iconst (pc := 56) (n := 0) (by decide +kernel) (by decide +kernel)) <|
  n_c (s_zret (pc := 57) rfl (by decide +kernel)) <|
  n_e
def fX6_canBegin_49 (s0 : Int32) (s1 : Int32) (M : nM) : Option (Int32 × nM) :=
  if ¬ s1 = s0 then
    some ((0 : Int32), M)
  else
    some ((1 : Int32), M)
set_option maxRecDepth 200000 in
theorem bX6_canBegin_49 {l : Launch} {w : nW} {G : nG} (hG : n_GOK G) (s0 : Int32) (s1 : Int32) (M : nM) (r : Int32 × nM) (h : fX6_canBegin_49 s0 s1 M = some r) : n_At l w 0 mX6_canBegin 49 [] [.int s0, .int s1] (G, M) (dv_i r.1, (G, r.2)) :=
  n_seg (fin := n_fin dv_i G) (K := []) 9 (iX6_canBegin hG) n_ke (by rfl) h
def fX6_canBegin (x1 : Int32) (M : nM) : Option (Int32 × nM) :=
  n_chk (n_ib 401 (M 80 6)) <|
  let v1 : Int32 := (M 82 (M 80 6).toNatClampNeg)
  if ¬ x1 = 0 then
    if ¬ x1 = (3 : Int32) then
      fX6_canBegin_49 (146 : Int32) v1 M
    else
      fX6_canBegin_49 (147 : Int32) v1 M
  else
    if v1 < (128 : Int32) then
      some ((0 : Int32), M)
    else
      if (130 : Int32) < v1 then
        some ((0 : Int32), M)
      else
        some ((1 : Int32), M)
set_option maxRecDepth 200000 in
theorem bX6_canBegin_0 {l : Launch} {w : nW} {G : nG} (hG : n_GOK G) (x1 : Int32) (M : nM) (r : Int32 × nM) (h : fX6_canBegin x1 M = some r) : n_At l w 0 mX6_canBegin 0 [(0, .ref 80), (1, .int x1)] [] (G, M) (dv_i r.1, (G, r.2)) :=
  n_seg (fin := n_fin dv_i G) (K := [(49, fun lv st M => n_pI st (fun s0 st => n_pI st (fun s1 st => n_pE st (fX6_canBegin_49 s0 s1 M))))]) 31 (iX6_canBegin hG) (n_kc (fun lv st M r h => by
      obtain ⟨s0, t0, rfl, h1⟩ := n_pI_x h
      obtain ⟨s1, t1, rfl, h2⟩ := n_pI_x h1
      obtain ⟨rfl, h3⟩ := n_pE_x h2
      exact n_sub n_qe (bX6_canBegin_49 hG s0 s1 M r h3)) n_ke) (by rfl) h
theorem eX6_canBegin {l : Launch} {w : nW} {G : nG} (hG : n_GOK G) (z1 : Int32) (M : nM) (r : Int32 × nM) (h : fX6_canBegin z1 M = some r) : n_Met l w 0 mX6_canBegin [.ref 80, .int z1] (G, M) (dv_i r.1, (G, r.2)) :=
  n_entry (by decide +kernel) rfl (Nat.le_of_ble_eq_true rfl) (n_sub (lv := [(0, .ref 80), (1, .int z1)]) (n_qc rfl (n_qc rfl n_qe)) (bX6_canBegin_0 hG z1 M r h))
abbrev hX6_canBegin : nF := fun T as M k => n_pC 80 as (fun as => n_pI as (fun z1 as => n_pE as ((fX6_canBegin z1 M).bind fun p => k (dv_i p.1) p.2)))
theorem csX6_canBegin {l : Launch} {w : nW} {G : nG} (hG : n_GOK G) : n_CS l w 0 mX6_canBegin G (hX6_canBegin) := fun T as M k r h => by
  obtain ⟨t0, rfl, h1⟩ := n_pC_x h
  obtain ⟨z1, t1, rfl, h2⟩ := n_pI_x h1
  obtain ⟨rfl, hE⟩ := n_pE_x h2
  obtain ⟨p, hp, hk⟩ := Option.bind_eq_some_iff.mp hE
  exact ⟨_, _, eX6_canBegin hG z1 M p hp, hk⟩
/-! ===== SleightHouse$Reader.blame(I)Z ===== -/
def mX6_blame : nY := (RX6, yX6_blame, cX6_blame, 2, some .boolean)
theorem okX6_blame : n_MOK mX6_blame 1 := ⟨w_972, w_148, ⟨by decide +kernel, by decide +kernel, by decide +kernel⟩, by decide⟩
abbrev aX6_blame : List (Nat × nO (Int32 × nM)) := [(0, o_aload 0 1), (1, o_iload 1 2), (2, o_pIc 80 10 5), (5, o_aload 0 6), (6, o_aload 0 7), (7, o_gRc 80 84 10), (10, o_aload 0 11), (11, o_gIc 80 6 14), (14, o_aldc 84 401 15), (15, o_pIc 80 11 18), (18, o_push (.int (0 : Int32)) 19), (19, o_zret)]
set_option maxRecDepth 200000 in
theorem iX6_blame {l : Launch} {w : nW} {G : nG} (hG : n_GOK G) : n_AllS l w 0 mX6_blame G (n_fin dv_i G) (aX6_blame) :=
  n_c (s_aload_n (pc := 0) (k := 0) (by decide +kernel)) <|
  n_c (s_iload_n (pc := 1) (k := 1) (by decide +kernel)) <|
  n_c (s_pIc (s_putI (pc := 2) (ci := 6) (k := 10) (idx := 51) nok6 (by decide) rfl rfl (by decide +kernel) w_499) (gk80 hG)) <|
  n_c (s_aload_n (pc := 5) (k := 0) (by decide +kernel)) <|
  n_c (s_aload_n (pc := 6) (k := 0) (by decide +kernel)) <|
  n_c (s_gRc (s_getR (pc := 7) (ci := 6) (k := 4) (idx := 22) nok6 (by decide) rfl (by decide +kernel) w_490) (gk80 hG) (gm80_4 hG)) <|
  n_c (s_aload_n (pc := 10) (k := 0) (by decide +kernel)) <|
  n_c (s_gIc (s_getI (pc := 11) (ci := 6) (k := 6) (idx := 29) nok6 (by decide) rfl (by decide +kernel) w_492) (gk80 hG)) <|
  n_c (s_aldc (s_iaload (pc := 14) (by decide +kernel)) (gk84 hG) (gl84 hG)) <|
  n_c (s_pIc (s_putI (pc := 15) (ci := 6) (k := 11) (idx := 54) nok6 (by decide) rfl rfl (by decide +kernel) w_501) (gk80 hG)) <|
  n_c (s_iconst (pc := 18) (n := 0) (by decide +kernel) (by decide +kernel)) <|
  n_c (s_zret (pc := 19) rfl (by decide +kernel)) <|
  n_e
def fX6_blame (x1 : Int32) (M : nM) : Option (Int32 × nM) :=
  let M1 : nM := n_up M 80 10 x1
  n_chk (n_ib 401 (M1 80 6)) <|
  let M2 : nM := n_up M1 80 11 (M1 84 (M1 80 6).toNatClampNeg)
  some ((0 : Int32), M2)
set_option maxRecDepth 200000 in
theorem bX6_blame_0 {l : Launch} {w : nW} {G : nG} (hG : n_GOK G) (x1 : Int32) (M : nM) (r : Int32 × nM) (h : fX6_blame x1 M = some r) : n_At l w 0 mX6_blame 0 [(0, .ref 80), (1, .int x1)] [] (G, M) (dv_i r.1, (G, r.2)) :=
  n_seg (fin := n_fin dv_i G) (K := []) 15 (iX6_blame hG) n_ke (by rfl) h
theorem eX6_blame {l : Launch} {w : nW} {G : nG} (hG : n_GOK G) (z1 : Int32) (M : nM) (r : Int32 × nM) (h : fX6_blame z1 M = some r) : n_Met l w 0 mX6_blame [.ref 80, .int z1] (G, M) (dv_i r.1, (G, r.2)) :=
  n_entry (by decide +kernel) rfl (Nat.le_of_ble_eq_true rfl) (n_sub (lv := [(0, .ref 80), (1, .int z1)]) (n_qc rfl (n_qc rfl n_qe)) (bX6_blame_0 hG z1 M r h))
abbrev hX6_blame : nF := fun T as M k => n_pC 80 as (fun as => n_pI as (fun z1 as => n_pE as ((fX6_blame z1 M).bind fun p => k (dv_i p.1) p.2)))
theorem csX6_blame {l : Launch} {w : nW} {G : nG} (hG : n_GOK G) : n_CS l w 0 mX6_blame G (hX6_blame) := fun T as M k r h => by
  obtain ⟨t0, rfl, h1⟩ := n_pC_x h
  obtain ⟨z1, t1, rfl, h2⟩ := n_pI_x h1
  obtain ⟨rfl, hE⟩ := n_pE_x h2
  obtain ⟨p, hp, hk⟩ := Option.bind_eq_some_iff.mp hE
  exact ⟨_, _, eX6_blame hG z1 M p hp, hk⟩
/-! ===== SleightHouse$Law.begin(I)V ===== -/
def mX3_begin : nY := (RX3, yX3_begin, cX3_begin, 2, none)
theorem okX3_begin : n_MOK mX3_begin 1 := ⟨w_980, w_144, ⟨by decide +kernel, by decide +kernel, by decide +kernel⟩, by decide⟩
abbrev aX3_begin : List (Nat × nO (Unit × nM)) := [(0, o_aload 0 1), (1, o_gIc 85 6 4), (4, o_push (.int (16 : Int32)) 6), (6, oc_ge 32 9), (9, o_aload 0 10), (10, o_gRc 85 87 13), (13, o_aload 0 14), (14, o_gIc 85 6 17), (17, o_iload 1 18), (18, o_iastc 87 16 19), (19, o_aload 0 20), (20, o_gRc 85 88 23), (23, o_aload 0 24), (24, o_gIc 85 6 27), (27, o_aload 0 28), (28, o_gIc 85 5 31), (31, o_iastc 88 16 32), (32, o_vret)]
set_option maxRecDepth 200000 in
theorem iX3_begin {l : Launch} {w : nW} {G : nG} (hG : n_GOK G) : n_AllS l w 0 mX3_begin G (n_fin dv_v G) (aX3_begin) :=
  n_c (s_aload_n (pc := 0) (k := 0) (by decide +kernel)) <|
  n_c (s_gIc (s_getI (pc := 1) (ci := 3) (k := 6) (idx := 31) nok3 (by decide) rfl (by decide +kernel) w_331) (gk85 hG)) <|
  n_c (s_bipush (pc := 4) (n := 16) (by decide +kernel) (by decide +kernel)) <|
  n_c (s_icmp_ge (pc := 6) (off := 26) (by decide +kernel) (by decide +kernel)) <|
  n_c (s_aload_n (pc := 9) (k := 0) (by decide +kernel)) <|
  n_c (s_gRc (s_getR (pc := 10) (ci := 3) (k := 1) (idx := 15) nok3 (by decide) rfl (by decide +kernel) w_326) (gk85 hG) (gm85_1 hG)) <|
  n_c (s_aload_n (pc := 13) (k := 0) (by decide +kernel)) <|
  n_c (s_gIc (s_getI (pc := 14) (ci := 3) (k := 6) (idx := 31) nok3 (by decide) rfl (by decide +kernel) w_331) (gk85 hG)) <|
  n_c (s_iload_n (pc := 17) (k := 1) (by decide +kernel)) <|
  n_c (s_iastc (s_iastore (pc := 18) (by decide +kernel)) (gk87 hG) (gl87 hG)) <|
  n_c (s_aload_n (pc := 19) (k := 0) (by decide +kernel)) <|
  n_c (s_gRc (s_getR (pc := 20) (ci := 3) (k := 2) (idx := 18) nok3 (by decide) rfl (by decide +kernel) w_327) (gk85 hG) (gm85_2 hG)) <|
  n_c (s_aload_n (pc := 23) (k := 0) (by decide +kernel)) <|
  n_c (s_gIc (s_getI (pc := 24) (ci := 3) (k := 6) (idx := 31) nok3 (by decide) rfl (by decide +kernel) w_331) (gk85 hG)) <|
  n_c (s_aload_n (pc := 27) (k := 0) (by decide +kernel)) <|
  n_c (s_gIc (s_getI (pc := 28) (ci := 3) (k := 5) (idx := 27) nok3 (by decide) rfl (by decide +kernel) w_330) (gk85 hG)) <|
  n_c (s_iastc (s_iastore (pc := 31) (by decide +kernel)) (gk88 hG) (gl88 hG)) <|
  n_c (s_vret (pc := 32) rfl (by decide +kernel)) <|
  n_e
def fX3_begin (x1 : Int32) (M : nM) : Option (Unit × nM) :=
  if (16 : Int32) ≤ (M 85 6) then
    some ((), M)
  else
    n_chk (n_ib 16 (M 85 6)) <|
    let M1 : nM := n_up M 87 (M 85 6).toNatClampNeg x1
    n_chk (n_ib 16 (M1 85 6)) <|
    let M2 : nM := n_up M1 88 (M1 85 6).toNatClampNeg (M1 85 5)
    some ((), M2)
set_option maxRecDepth 200000 in
theorem bX3_begin_0 {l : Launch} {w : nW} {G : nG} (hG : n_GOK G) (x1 : Int32) (M : nM) (r : Unit × nM) (h : fX3_begin x1 M = some r) : n_At l w 0 mX3_begin 0 [(0, .ref 85), (1, .int x1)] [] (G, M) (dv_v r.1, (G, r.2)) :=
  n_seg (fin := n_fin dv_v G) (K := []) 22 (iX3_begin hG) n_ke (by rfl) h
theorem eX3_begin {l : Launch} {w : nW} {G : nG} (hG : n_GOK G) (z1 : Int32) (M : nM) (r : Unit × nM) (h : fX3_begin z1 M = some r) : n_Met l w 0 mX3_begin [.ref 85, .int z1] (G, M) (dv_v r.1, (G, r.2)) :=
  n_entry (by decide +kernel) rfl (Nat.le_of_ble_eq_true rfl) (n_sub (lv := [(0, .ref 85), (1, .int z1)]) (n_qc rfl (n_qc rfl n_qe)) (bX3_begin_0 hG z1 M r h))
abbrev hX3_begin : nF := fun T as M k => n_pC 85 as (fun as => n_pI as (fun z1 as => n_pE as ((fX3_begin z1 M).bind fun p => k (dv_v p.1) p.2)))
theorem csX3_begin {l : Launch} {w : nW} {G : nG} (hG : n_GOK G) : n_CS l w 0 mX3_begin G (hX3_begin) := fun T as M k r h => by
  obtain ⟨t0, rfl, h1⟩ := n_pC_x h
  obtain ⟨z1, t1, rfl, h2⟩ := n_pI_x h1
  obtain ⟨rfl, hE⟩ := n_pE_x h2
  obtain ⟨p, hp, hk⟩ := Option.bind_eq_some_iff.mp hE
  exact ⟨_, _, eX3_begin hG z1 M p hp, hk⟩
/-! ===== SleightHouse$Reader.step()V ===== -/
def mX6_step : nY := (RX6, yX6_step, cX6_step, 1, none)
theorem okX6_step : n_MOK mX6_step 0 := ⟨w_984, w_148, ⟨by decide +kernel, by decide +kernel, by decide +kernel⟩, by decide⟩
abbrev aX6_step : List (Nat × nO (Unit × nM)) := [(0, o_aload 0 1), (1, o_gIc 80 6 4), (4, o_aload 0 5), (5, o_gIc 80 5 8), (8, o_push (.int (1 : Int32)) 9), (9, o_isub 10), (10, oc_ge 23 13), (13, o_aload 0 14), (14, o_dup 15), (15, o_gIc 80 6 18), (18, o_push (.int (1 : Int32)) 19), (19, o_iadd 20), (20, o_pIc 80 6 23), (23, o_vret)]
set_option maxRecDepth 200000 in
theorem iX6_step {l : Launch} {w : nW} {G : nG} (hG : n_GOK G) : n_AllS l w 0 mX6_step G (n_fin dv_v G) (aX6_step) :=
  n_c (s_aload_n (pc := 0) (k := 0) (by decide +kernel)) <|
  n_c (s_gIc (s_getI (pc := 1) (ci := 6) (k := 6) (idx := 29) nok6 (by decide) rfl (by decide +kernel) w_492) (gk80 hG)) <|
  n_c (s_aload_n (pc := 4) (k := 0) (by decide +kernel)) <|
  n_c (s_gIc (s_getI (pc := 5) (ci := 6) (k := 5) (idx := 25) nok6 (by decide) rfl (by decide +kernel) w_491) (gk80 hG)) <|
  n_c (s_iconst (pc := 8) (n := 1) (by decide +kernel) (by decide +kernel)) <|
  n_c (s_isub (pc := 9) (by decide +kernel)) <|
  n_c (s_icmp_ge (pc := 10) (off := 13) (by decide +kernel) (by decide +kernel)) <|
  n_c (s_aload_n (pc := 13) (k := 0) (by decide +kernel)) <|
  n_c (s_dup (pc := 14) (by decide +kernel)) <|
  n_c (s_gIc (s_getI (pc := 15) (ci := 6) (k := 6) (idx := 29) nok6 (by decide) rfl (by decide +kernel) w_492) (gk80 hG)) <|
  n_c (s_iconst (pc := 18) (n := 1) (by decide +kernel) (by decide +kernel)) <|
  n_c (s_iadd (pc := 19) (by decide +kernel)) <|
  n_c (s_pIc (s_putI (pc := 20) (ci := 6) (k := 6) (idx := 29) nok6 (by decide) rfl rfl (by decide +kernel) w_492) (gk80 hG)) <|
  n_c (s_vret (pc := 23) rfl (by decide +kernel)) <|
  n_e
def fX6_step (M : nM) : Option (Unit × nM) :=
  if ((M 80 5) - (1 : Int32)) ≤ (M 80 6) then
    some ((), M)
  else
    let M1 : nM := n_up M 80 6 ((M 80 6) + (1 : Int32))
    some ((), M1)
set_option maxRecDepth 200000 in
theorem bX6_step_0 {l : Launch} {w : nW} {G : nG} (hG : n_GOK G) (M : nM) (r : Unit × nM) (h : fX6_step M = some r) : n_At l w 0 mX6_step 0 [(0, .ref 80)] [] (G, M) (dv_v r.1, (G, r.2)) :=
  n_seg (fin := n_fin dv_v G) (K := []) 18 (iX6_step hG) n_ke (by rfl) h
theorem eX6_step {l : Launch} {w : nW} {G : nG} (hG : n_GOK G) (M : nM) (r : Unit × nM) (h : fX6_step M = some r) : n_Met l w 0 mX6_step [.ref 80] (G, M) (dv_v r.1, (G, r.2)) :=
  n_entry (by decide +kernel) rfl (Nat.le_of_ble_eq_true rfl) (n_sub (lv := [(0, .ref 80)]) (n_qc rfl n_qe) (bX6_step_0 hG M r h))
abbrev hX6_step : nF := fun T as M k => n_pC 80 as (fun as => n_pE as ((fX6_step M).bind fun p => k (dv_v p.1) p.2))
theorem csX6_step {l : Launch} {w : nW} {G : nG} (hG : n_GOK G) : n_CS l w 0 mX6_step G (hX6_step) := fun T as M k r h => by
  obtain ⟨t0, rfl, h1⟩ := n_pC_x h
  obtain ⟨rfl, hE⟩ := n_pE_x h1
  obtain ⟨p, hp, hk⟩ := Option.bind_eq_some_iff.mp hE
  exact ⟨_, _, eX6_step hG M p hp, hk⟩
/-! ===== SleightHouse$Law.emit(II)V ===== -/
def mX3_emit : nY := (RX3, yX3_emit, cX3_emit, 3, none)
theorem okX3_emit : n_MOK mX3_emit 2 := ⟨w_996, w_144, ⟨by decide +kernel, by decide +kernel, by decide +kernel⟩, by decide⟩
abbrev aX3_emit : List (Nat × nO (Unit × nM)) := [(0, o_aload 0 1), (1, o_gIc 85 5 4), (4, o_push (.int (400 : Int32)) 7), (7, oc_ge 34 10), (10, o_aload 0 11), (11, o_gRc 85 86 14), (14, o_aload 0 15), (15, o_gIc 85 5 18), (18, o_iload 2 19), (19, o_push (.int (4 : Int32)) 20), (20, o_ishl 21), (21, o_iload 1 22), (22, o_ior 23), (23, o_iastc 86 400 24), (24, o_aload 0 25), (25, o_dup 26), (26, o_gIc 85 5 29), (29, o_push (.int (1 : Int32)) 30), (30, o_iadd 31), (31, o_pIc 85 5 34), (34, o_vret)]
set_option maxRecDepth 200000 in
theorem iX3_emit {l : Launch} {w : nW} {G : nG} (hG : n_GOK G) : n_AllS l w 0 mX3_emit G (n_fin dv_v G) (aX3_emit) :=
  n_c (s_aload_n (pc := 0) (k := 0) (by decide +kernel)) <|
  n_c (s_gIc (s_getI (pc := 1) (ci := 3) (k := 5) (idx := 27) nok3 (by decide) rfl (by decide +kernel) w_330) (gk85 hG)) <|
  n_c (s_sipush (pc := 4) (n := 400) (by decide +kernel) (by decide +kernel)) <|
  n_c (s_icmp_ge (pc := 7) (off := 27) (by decide +kernel) (by decide +kernel)) <|
  n_c (s_aload_n (pc := 10) (k := 0) (by decide +kernel)) <|
  n_c (s_gRc (s_getR (pc := 11) (ci := 3) (k := 0) (idx := 9) nok3 (by decide) rfl (by decide +kernel) w_325) (gk85 hG) (gm85_0 hG)) <|
  n_c (s_aload_n (pc := 14) (k := 0) (by decide +kernel)) <|
  n_c (s_gIc (s_getI (pc := 15) (ci := 3) (k := 5) (idx := 27) nok3 (by decide) rfl (by decide +kernel) w_330) (gk85 hG)) <|
  n_c (s_iload_n (pc := 18) (k := 2) (by decide +kernel)) <|
  n_c (s_iconst (pc := 19) (n := 4) (by decide +kernel) (by decide +kernel)) <|
  n_c (s_ishl (pc := 20) (by decide +kernel)) <|
  n_c (s_iload_n (pc := 21) (k := 1) (by decide +kernel)) <|
  n_c (s_ior (pc := 22) (by decide +kernel)) <|
  n_c (s_iastc (s_iastore (pc := 23) (by decide +kernel)) (gk86 hG) (gl86 hG)) <|
  n_c (s_aload_n (pc := 24) (k := 0) (by decide +kernel)) <|
  n_c (s_dup (pc := 25) (by decide +kernel)) <|
  n_c (s_gIc (s_getI (pc := 26) (ci := 3) (k := 5) (idx := 27) nok3 (by decide) rfl (by decide +kernel) w_330) (gk85 hG)) <|
  n_c (s_iconst (pc := 29) (n := 1) (by decide +kernel) (by decide +kernel)) <|
  n_c (s_iadd (pc := 30) (by decide +kernel)) <|
  n_c (s_pIc (s_putI (pc := 31) (ci := 3) (k := 5) (idx := 27) nok3 (by decide) rfl rfl (by decide +kernel) w_330) (gk85 hG)) <|
  n_c (s_vret (pc := 34) rfl (by decide +kernel)) <|
  n_e
def fX3_emit (x1 : Int32) (x2 : Int32) (M : nM) : Option (Unit × nM) :=
  if (400 : Int32) ≤ (M 85 5) then
    some ((), M)
  else
    n_chk (n_ib 400 (M 85 5)) <|
    let M1 : nM := n_up M 86 (M 85 5).toNatClampNeg ((x2 <<< ((4 : Int32) &&& 31)) ||| x1)
    let M2 : nM := n_up M1 85 5 ((M1 85 5) + (1 : Int32))
    some ((), M2)
set_option maxRecDepth 200000 in
theorem bX3_emit_0 {l : Launch} {w : nW} {G : nG} (hG : n_GOK G) (x1 : Int32) (x2 : Int32) (M : nM) (r : Unit × nM) (h : fX3_emit x1 x2 M = some r) : n_At l w 0 mX3_emit 0 [(0, .ref 85), (1, .int x1), (2, .int x2)] [] (G, M) (dv_v r.1, (G, r.2)) :=
  n_seg (fin := n_fin dv_v G) (K := []) 25 (iX3_emit hG) n_ke (by rfl) h
theorem eX3_emit {l : Launch} {w : nW} {G : nG} (hG : n_GOK G) (z1 : Int32) (z2 : Int32) (M : nM) (r : Unit × nM) (h : fX3_emit z1 z2 M = some r) : n_Met l w 0 mX3_emit [.ref 85, .int z1, .int z2] (G, M) (dv_v r.1, (G, r.2)) :=
  n_entry (by decide +kernel) rfl (Nat.le_of_ble_eq_true rfl) (n_sub (lv := [(0, .ref 85), (1, .int z1), (2, .int z2)]) (n_qc rfl (n_qc rfl (n_qc rfl n_qe))) (bX3_emit_0 hG z1 z2 M r h))
abbrev hX3_emit : nF := fun T as M k => n_pC 85 as (fun as => n_pI as (fun z1 as => n_pI as (fun z2 as => n_pE as ((fX3_emit z1 z2 M).bind fun p => k (dv_v p.1) p.2))))
theorem csX3_emit {l : Launch} {w : nW} {G : nG} (hG : n_GOK G) : n_CS l w 0 mX3_emit G (hX3_emit) := fun T as M k r h => by
  obtain ⟨t0, rfl, h1⟩ := n_pC_x h
  obtain ⟨z1, t1, rfl, h2⟩ := n_pI_x h1
  obtain ⟨z2, t2, rfl, h3⟩ := n_pI_x h2
  obtain ⟨rfl, hE⟩ := n_pE_x h3
  obtain ⟨p, hp, hk⟩ := Option.bind_eq_some_iff.mp hE
  exact ⟨_, _, eX3_emit hG z1 z2 M p hp, hk⟩
/-! ===== SleightHouse$Reader.unit()Z ===== -/
def mX6_unit : nY := (RX6, yX6_unit, cX6_unit, 2, some .boolean)
theorem okX6_unit : n_MOK mX6_unit 0 := ⟨w_992, w_148, ⟨by decide +kernel, by decide +kernel, by decide +kernel⟩, by decide⟩
abbrev aX6_unit : List (Nat × nO (Int32 × nM)) := [(0, o_aload 0 1), (1, o_gRc 80 82 4), (4, o_aload 0 5), (5, o_gIc 80 6 8), (8, o_aldc 82 401 9), (9, o_istore 2 1 10), (10, o_iload 1 11), (11, o_push (.int (2 : Int32)) 12), (12, oc_ne 35 15), (15, o_aload 0 16), (16, o_gRc 80 85 19), (19, o_push (.int (0 : Int32)) 20), (20, o_aload 0 21), (21, o_gRc 80 83 24), (24, o_aload 0 25), (25, o_gIc 80 6 28), (28, o_aldc 83 401 29), (29, o_callVc 85 2 (hX3_emit) 32), (32, o_goto 71), (35, o_iload 1 36), (36, o_push (.int (131 : Int32)) 39), (39, oc_lt 65 42), (42, o_iload 1 43), (43, o_push (.int (141 : Int32)) 46), (46, oc_gt 65 49), (49, o_aload 0 50), (50, o_gRc 80 85 53), (53, o_push (.int (1 : Int32)) 54), (54, o_iload 1 55), (55, o_push (.int (131 : Int32)) 58), (58, o_isub 59), (59, o_callVc 85 2 (hX3_emit) 62), (62, o_goto 71), (65, o_aload 0 66), (66, o_push (.int (1 : Int32)) 67), (67, o_callVc 80 1 (hX6_blame) 70), (70, o_zret), (71, o_aload 0 72), (72, o_callVc 80 0 (hX6_step) 75), (75, o_push (.int (1 : Int32)) 76), (76, o_zret)]
set_option maxRecDepth 200000 in
theorem iX6_unit {l : Launch} {w : nW} {G : nG} (hG : n_GOK G) : n_AllS l w 1 mX6_unit G (n_fin dv_i G) (aX6_unit) :=
  n_c (s_aload_n (pc := 0) (k := 0) (by decide +kernel)) <|
  n_c (s_gRc (s_getR (pc := 1) (ci := 6) (k := 2) (idx := 15) nok6 (by decide) rfl (by decide +kernel) w_488) (gk80 hG) (gm80_2 hG)) <|
  n_c (s_aload_n (pc := 4) (k := 0) (by decide +kernel)) <|
  n_c (s_gIc (s_getI (pc := 5) (ci := 6) (k := 6) (idx := 29) nok6 (by decide) rfl (by decide +kernel) w_492) (gk80 hG)) <|
  n_c (s_aldc (s_iaload (pc := 8) (by decide +kernel)) (gk82 hG) (gl82 hG)) <|
  n_c (s_istore_n (pc := 9) (k := 1) (by decide +kernel)) <|
  n_c (s_iload_n (pc := 10) (k := 1) (by decide +kernel)) <|
  n_c (s_iconst (pc := 11) (n := 2) (by decide +kernel) (by decide +kernel)) <|
  n_c (s_icmp_ne (pc := 12) (off := 23) (by decide +kernel) (by decide +kernel)) <|
  n_c (s_aload_n (pc := 15) (k := 0) (by decide +kernel)) <|
  n_c (s_gRc (s_getR (pc := 16) (ci := 6) (k := 7) (idx := 35) nok6 (by decide) rfl (by decide +kernel) w_493) (gk80 hG) (gm80_7 hG)) <|
  n_c (s_iconst (pc := 19) (n := 0) (by decide +kernel) (by decide +kernel)) <|
  n_c (s_aload_n (pc := 20) (k := 0) (by decide +kernel)) <|
  n_c (s_gRc (s_getR (pc := 21) (ci := 6) (k := 3) (idx := 19) nok6 (by decide) rfl (by decide +kernel) w_489) (gk80 hG) (gm80_3 hG)) <|
  n_c (s_aload_n (pc := 24) (k := 0) (by decide +kernel)) <|
  n_c (s_gIc (s_getI (pc := 25) (ci := 6) (k := 6) (idx := 29) nok6 (by decide) rfl (by decide +kernel) w_492) (gk80 hG)) <|
  n_c (s_aldc (s_iaload (pc := 28) (by decide +kernel)) (gk83 hG) (gl83 hG)) <|
  n_c (s_callVc (s_callV (pc := 29) (csX3_emit hG) (by decide) okX3_emit nok3 w_994 w_995 w_993 (by decide +kernel)) (gk85 hG)) <|
  n_c (s_goto (pc := 32) (off := 39) (by decide +kernel) (by decide +kernel)) <|
  n_c (s_iload_n (pc := 35) (k := 1) (by decide +kernel)) <|
  n_c (s_sipush (pc := 36) (n := 131) (by decide +kernel) (by decide +kernel)) <|
  n_c (s_icmp_lt (pc := 39) (off := 26) (by decide +kernel) (by decide +kernel)) <|
  n_c (s_iload_n (pc := 42) (k := 1) (by decide +kernel)) <|
  n_c (s_sipush (pc := 43) (n := 141) (by decide +kernel) (by decide +kernel)) <|
  n_c (s_icmp_gt (pc := 46) (off := 19) (by decide +kernel) (by decide +kernel)) <|
  n_c (s_aload_n (pc := 49) (k := 0) (by decide +kernel)) <|
  n_c (s_gRc (s_getR (pc := 50) (ci := 6) (k := 7) (idx := 35) nok6 (by decide) rfl (by decide +kernel) w_493) (gk80 hG) (gm80_7 hG)) <|
  n_c (s_iconst (pc := 53) (n := 1) (by decide +kernel) (by decide +kernel)) <|
  n_c (s_iload_n (pc := 54) (k := 1) (by decide +kernel)) <|
  n_c (s_sipush (pc := 55) (n := 131) (by decide +kernel) (by decide +kernel)) <|
  n_c (s_isub (pc := 58) (by decide +kernel)) <|
  n_c (s_callVc (s_callV (pc := 59) (csX3_emit hG) (by decide) okX3_emit nok3 w_994 w_995 w_993 (by decide +kernel)) (gk85 hG)) <|
  n_c (s_goto (pc := 62) (off := 9) (by decide +kernel) (by decide +kernel)) <|
  n_c (s_aload_n (pc := 65) (k := 0) (by decide +kernel)) <|
  n_c (s_iconst (pc := 66) (n := 1) (by decide +kernel) (by decide +kernel)) <|
  n_c (s_callVc (s_callV (pc := 67) (csX6_blame hG) (by decide) okX6_blame nok6 w_971 w_19 w_969 (by decide +kernel)) (gk80 hG)) <|
  n_c (s_zret (pc := 70) rfl (by decide +kernel)) <|
  n_c (s_aload_n (pc := 71) (k := 0) (by decide +kernel)) <|
  n_c (s_callVc (s_callV (pc := 72) (csX6_step hG) (by decide) okX6_step nok6 w_983 w_21 w_981 (by decide +kernel)) (gk80 hG)) <|
  n_c (s_iconst (pc := 75) (n := 1) (by decide +kernel) (by decide +kernel)) <|
  n_c (s_zret (pc := 76) rfl (by decide +kernel)) <|
  n_e
def fX6_unit_65 (M : nM) : Option (Int32 × nM) :=
  (fX6_blame (1 : Int32) M).bind fun p1 =>
  n_chk (p1.1 == 0 || p1.1 == 1) (some (p1.1, p1.2))
set_option maxRecDepth 200000 in
theorem bX6_unit_65 {l : Launch} {w : nW} {G : nG} (hG : n_GOK G) (M : nM) (r : Int32 × nM) (h : fX6_unit_65 M = some r) : n_At l w 1 mX6_unit 65 [(0, .ref 80)] [] (G, M) (dv_i r.1, (G, r.2)) :=
  n_seg (fin := n_fin dv_i G) (K := []) 7 (iX6_unit hG) n_ke (by rfl) h
def fX6_unit_71 (M : nM) : Option (Int32 × nM) :=
  (fX6_step M).bind fun p1 =>
  some ((1 : Int32), p1.2)
set_option maxRecDepth 200000 in
theorem bX6_unit_71 {l : Launch} {w : nW} {G : nG} (hG : n_GOK G) (M : nM) (r : Int32 × nM) (h : fX6_unit_71 M = some r) : n_At l w 1 mX6_unit 71 [(0, .ref 80)] [] (G, M) (dv_i r.1, (G, r.2)) :=
  n_seg (fin := n_fin dv_i G) (K := []) 7 (iX6_unit hG) n_ke (by rfl) h
def fX6_unit (M : nM) : Option (Int32 × nM) :=
  n_chk (n_ib 401 (M 80 6)) <|
  let v1 : Int32 := (M 82 (M 80 6).toNatClampNeg)
  if ¬ v1 = (2 : Int32) then
    if v1 < (131 : Int32) then
      fX6_unit_65 M
    else
      if (141 : Int32) < v1 then
        fX6_unit_65 M
      else
        (fX3_emit (1 : Int32) (v1 - (131 : Int32)) M).bind fun p2 =>
        fX6_unit_71 p2.2
  else
    n_chk (n_ib 401 (M 80 6)) <|
    (fX3_emit (0 : Int32) (M 83 (M 80 6).toNatClampNeg) M).bind fun p3 =>
    fX6_unit_71 p3.2
set_option maxRecDepth 200000 in
theorem bX6_unit_0 {l : Launch} {w : nW} {G : nG} (hG : n_GOK G) (M : nM) (r : Int32 × nM) (h : fX6_unit M = some r) : n_At l w 1 mX6_unit 0 [(0, .ref 80)] [] (G, M) (dv_i r.1, (G, r.2)) :=
  n_seg (fin := n_fin dv_i G) (K := [(65, fun lv st M => n_lC 80 lv 0 (n_pE st (fX6_unit_65 M))), (71, fun lv st M => n_lC 80 lv 0 (n_pE st (fX6_unit_71 M)))]) 36 (iX6_unit hG) (n_kc (fun lv st M r h => by
      obtain ⟨e0, h1⟩ := n_lC_x h
      obtain ⟨rfl, h2⟩ := n_pE_x h1
      exact n_sub (n_qc e0 n_qe) (bX6_unit_65 hG M r h2)) (n_kc (fun lv st M r h => by
      obtain ⟨e0, h1⟩ := n_lC_x h
      obtain ⟨rfl, h2⟩ := n_pE_x h1
      exact n_sub (n_qc e0 n_qe) (bX6_unit_71 hG M r h2)) n_ke)) (by rfl) h
theorem eX6_unit {l : Launch} {w : nW} {G : nG} (hG : n_GOK G) (M : nM) (r : Int32 × nM) (h : fX6_unit M = some r) : n_Met l w 1 mX6_unit [.ref 80] (G, M) (dv_i r.1, (G, r.2)) :=
  n_entry (by decide +kernel) rfl (Nat.le_of_ble_eq_true rfl) (n_sub (lv := [(0, .ref 80)]) (n_qc rfl n_qe) (bX6_unit_0 hG M r h))
abbrev hX6_unit : nF := fun T as M k => n_pC 80 as (fun as => n_pE as ((fX6_unit M).bind fun p => k (dv_i p.1) p.2))
theorem csX6_unit {l : Launch} {w : nW} {G : nG} (hG : n_GOK G) : n_CS l w 1 mX6_unit G (hX6_unit) := fun T as M k r h => by
  obtain ⟨t0, rfl, h1⟩ := n_pC_x h
  obtain ⟨rfl, hE⟩ := n_pE_x h1
  obtain ⟨p, hp, hk⟩ := Option.bind_eq_some_iff.mp hE
  exact ⟨_, _, eX6_unit hG M p hp, hk⟩
/-! ===== SleightHouse$Reader.parts()Z ===== -/
def mX6_parts : nY := (RX6, yX6_parts, cX6_parts, 2, some .boolean)
theorem okX6_parts : n_MOK mX6_parts 0 := ⟨w_1000, w_148, ⟨by decide +kernel, by decide +kernel, by decide +kernel⟩, by decide⟩
abbrev aX6_parts (N : Nat) : List (Nat × nO (Int32 × nM)) := [(0, o_push (.int (0 : Int32)) 1), (1, o_istore 2 1 2), (2, o_iload 1 3), (3, o_push (.int (400 : Int32)) 6), (6, oc_ge 91 9), (9, o_aload 0 10), (10, o_gRc 80 82 13), (13, o_aload 0 14), (14, o_gIc 80 6 17), (17, o_aldc 82 401 18), (18, o_push (.int (47 : Int32)) 20), (20, oc_ne 91 23), (23, o_aload 0 24), (24, o_callVc 80 0 (hX6_step) 27), (27, o_aload 0 28), (28, o_gRc 80 82 31), (31, o_aload 0 32), (32, o_gIc 80 6 35), (35, o_aldc 82 401 36), (36, o_push (.int (2 : Int32)) 37), (37, oc_eq 46 40), (40, o_aload 0 41), (41, o_push (.int (1 : Int32)) 42), (42, o_callVc 80 1 (hX6_blame) 45), (45, o_zret), (46, o_aload 0 47), (47, o_gRc 80 83 50), (50, o_aload 0 51), (51, o_gIc 80 6 54), (54, o_aldc 83 401 55), (55, oi_ne 64 58), (58, o_aload 0 59), (59, o_push (.int (2 : Int32)) 60), (60, o_callVc 80 1 (hX6_blame) 63), (63, o_zret), (64, o_aload 0 65), (65, o_gRc 80 85 68), (68, o_push (.int (2 : Int32)) 69), (69, o_aload 0 70), (70, o_gRc 80 83 73), (73, o_aload 0 74), (74, o_gIc 80 6 77), (77, o_aldc 83 401 78), (78, o_callVc 85 2 (hX3_emit) 81), (81, o_aload 0 82), (82, o_callVc 80 0 (hX6_step) 85), (85, o_inc 2 1 (1 : Int32) 88), (88, o_goto 2), (91, o_push (.int (1 : Int32)) 92), (92, o_zret)]
set_option maxRecDepth 200000 in
theorem iX6_parts {l : Launch} {w : nW} (N : Nat) {G : nG} (hG : n_GOK G) : n_AllS l w 1 mX6_parts G (n_fin dv_i G) (aX6_parts N) :=
  n_c (s_iconst (pc := 0) (n := 0) (by decide +kernel) (by decide +kernel)) <|
  n_c (s_istore_n (pc := 1) (k := 1) (by decide +kernel)) <|
  n_c (s_iload_n (pc := 2) (k := 1) (by decide +kernel)) <|
  n_c (s_sipush (pc := 3) (n := 400) (by decide +kernel) (by decide +kernel)) <|
  n_c (s_icmp_ge (pc := 6) (off := 85) (by decide +kernel) (by decide +kernel)) <|
  n_c (s_aload_n (pc := 9) (k := 0) (by decide +kernel)) <|
  n_c (s_gRc (s_getR (pc := 10) (ci := 6) (k := 2) (idx := 15) nok6 (by decide) rfl (by decide +kernel) w_488) (gk80 hG) (gm80_2 hG)) <|
  n_c (s_aload_n (pc := 13) (k := 0) (by decide +kernel)) <|
  n_c (s_gIc (s_getI (pc := 14) (ci := 6) (k := 6) (idx := 29) nok6 (by decide) rfl (by decide +kernel) w_492) (gk80 hG)) <|
  n_c (s_aldc (s_iaload (pc := 17) (by decide +kernel)) (gk82 hG) (gl82 hG)) <|
  n_c (s_bipush (pc := 18) (n := 47) (by decide +kernel) (by decide +kernel)) <|
  n_c (s_icmp_ne (pc := 20) (off := 71) (by decide +kernel) (by decide +kernel)) <|
  n_c (s_aload_n (pc := 23) (k := 0) (by decide +kernel)) <|
  n_c (s_callVc (s_callV (pc := 24) (csX6_step hG) (by decide) okX6_step nok6 w_983 w_21 w_981 (by decide +kernel)) (gk80 hG)) <|
  n_c (s_aload_n (pc := 27) (k := 0) (by decide +kernel)) <|
  n_c (s_gRc (s_getR (pc := 28) (ci := 6) (k := 2) (idx := 15) nok6 (by decide) rfl (by decide +kernel) w_488) (gk80 hG) (gm80_2 hG)) <|
  n_c (s_aload_n (pc := 31) (k := 0) (by decide +kernel)) <|
  n_c (s_gIc (s_getI (pc := 32) (ci := 6) (k := 6) (idx := 29) nok6 (by decide) rfl (by decide +kernel) w_492) (gk80 hG)) <|
  n_c (s_aldc (s_iaload (pc := 35) (by decide +kernel)) (gk82 hG) (gl82 hG)) <|
  n_c (s_iconst (pc := 36) (n := 2) (by decide +kernel) (by decide +kernel)) <|
  n_c (s_icmp_eq (pc := 37) (off := 9) (by decide +kernel) (by decide +kernel)) <|
  n_c (s_aload_n (pc := 40) (k := 0) (by decide +kernel)) <|
  n_c (s_iconst (pc := 41) (n := 1) (by decide +kernel) (by decide +kernel)) <|
  n_c (s_callVc (s_callV (pc := 42) (csX6_blame hG) (by decide) okX6_blame nok6 w_971 w_19 w_969 (by decide +kernel)) (gk80 hG)) <|
  n_c (s_zret (pc := 45) rfl (by decide +kernel)) <|
  n_c (s_aload_n (pc := 46) (k := 0) (by decide +kernel)) <|
  n_c (s_gRc (s_getR (pc := 47) (ci := 6) (k := 3) (idx := 19) nok6 (by decide) rfl (by decide +kernel) w_489) (gk80 hG) (gm80_3 hG)) <|
  n_c (s_aload_n (pc := 50) (k := 0) (by decide +kernel)) <|
  n_c (s_gIc (s_getI (pc := 51) (ci := 6) (k := 6) (idx := 29) nok6 (by decide) rfl (by decide +kernel) w_492) (gk80 hG)) <|
  n_c (s_aldc (s_iaload (pc := 54) (by decide +kernel)) (gk83 hG) (gl83 hG)) <|
  n_c (s_if_ne (pc := 55) (off := 9) (by decide +kernel) (by decide +kernel)) <|
  n_c (s_aload_n (pc := 58) (k := 0) (by decide +kernel)) <|
  n_c (s_iconst (pc := 59) (n := 2) (by decide +kernel) (by decide +kernel)) <|
  n_c (s_callVc (s_callV (pc := 60) (csX6_blame hG) (by decide) okX6_blame nok6 w_971 w_19 w_969 (by decide +kernel)) (gk80 hG)) <|
  n_c (s_zret (pc := 63) rfl (by decide +kernel)) <|
  n_c (s_aload_n (pc := 64) (k := 0) (by decide +kernel)) <|
  n_c (s_gRc (s_getR (pc := 65) (ci := 6) (k := 7) (idx := 35) nok6 (by decide) rfl (by decide +kernel) w_493) (gk80 hG) (gm80_7 hG)) <|
  n_c (s_iconst (pc := 68) (n := 2) (by decide +kernel) (by decide +kernel)) <|
  n_c (s_aload_n (pc := 69) (k := 0) (by decide +kernel)) <|
  n_c (s_gRc (s_getR (pc := 70) (ci := 6) (k := 3) (idx := 19) nok6 (by decide) rfl (by decide +kernel) w_489) (gk80 hG) (gm80_3 hG)) <|
  n_c (s_aload_n (pc := 73) (k := 0) (by decide +kernel)) <|
  n_c (s_gIc (s_getI (pc := 74) (ci := 6) (k := 6) (idx := 29) nok6 (by decide) rfl (by decide +kernel) w_492) (gk80 hG)) <|
  n_c (s_aldc (s_iaload (pc := 77) (by decide +kernel)) (gk83 hG) (gl83 hG)) <|
  n_c (s_callVc (s_callV (pc := 78) (csX3_emit hG) (by decide) okX3_emit nok3 w_994 w_995 w_993 (by decide +kernel)) (gk85 hG)) <|
  n_c (s_aload_n (pc := 81) (k := 0) (by decide +kernel)) <|
  n_c (s_callVc (s_callV (pc := 82) (csX6_step hG) (by decide) okX6_step nok6 w_983 w_21 w_981 (by decide +kernel)) (gk80 hG)) <|
  n_c (s_iinc (pc := 85) (n := 1) (by decide +kernel) (by decide +kernel)) <|
  n_c (s_goto (pc := 88) (off := -86) (by decide +kernel) (by decide +kernel)) <|
  n_c (s_iconst (pc := 91) (n := 1) (by decide +kernel) (by decide +kernel)) <|
  n_c (s_zret (pc := 92) rfl (by decide +kernel)) <|
  n_e
def fX6_parts_2 (N : Nat) : Nat → Int32 → nM → Option (Int32 × nM)
  | 0, _, _ => none
  | n + 1, x1, M =>
    if (400 : Int32) ≤ x1 then
      some ((1 : Int32), M)
    else
      n_chk (n_ib 401 (M 80 6)) <|
      if ¬ (M 82 (M 80 6).toNatClampNeg) = (47 : Int32) then
        some ((1 : Int32), M)
      else
        (fX6_step M).bind fun p1 =>
        n_chk (n_ib 401 (p1.2 80 6)) <|
        if (p1.2 82 (p1.2 80 6).toNatClampNeg) = (2 : Int32) then
          n_chk (n_ib 401 (p1.2 80 6)) <|
          if ¬ (p1.2 83 (p1.2 80 6).toNatClampNeg) = 0 then
            n_chk (n_ib 401 (p1.2 80 6)) <|
            (fX3_emit (2 : Int32) (p1.2 83 (p1.2 80 6).toNatClampNeg) p1.2).bind fun p2 =>
            (fX6_step p2.2).bind fun p3 =>
            let v4 : Int32 := (x1 + (1 : Int32))
            fX6_parts_2 N n v4 p3.2
          else
            (fX6_blame (2 : Int32) p1.2).bind fun p5 =>
            n_chk (p5.1 == 0 || p5.1 == 1) (some (p5.1, p5.2))
        else
          (fX6_blame (1 : Int32) p1.2).bind fun p6 =>
          n_chk (p6.1 == 0 || p6.1 == 1) (some (p6.1, p6.2))
set_option maxRecDepth 200000 in
theorem bX6_parts_2 {l : Launch} {w : nW} (N : Nat) {G : nG} (hG : n_GOK G) : ∀ (n : Nat) (x1 : Int32) (M : nM) (r : Int32 × nM), fX6_parts_2 N n x1 M = some r → n_At l w 1 mX6_parts 2 [(0, .ref 80), (1, .int x1)] [] (G, M) (dv_i r.1, (G, r.2)) := by
  intro n
  induction n with
  | zero => intro x1 M r h; cases (show (none : Option (Int32 × nM)) = some r from h)
  | succ n ih =>
    intro x1 M r h
    exact n_seg (fin := n_fin dv_i G) (K := [(2, fun lv st M => n_lC 80 lv 0 (n_lI lv 1 (fun x1 => n_pE st (fX6_parts_2 N n x1 M))))]) 53 (iX6_parts N hG) (n_kc (fun lv st M r h => by
      obtain ⟨e0, h1⟩ := n_lC_x h
      obtain ⟨x1, e1, h2⟩ := n_lI_x h1
      obtain ⟨rfl, h3⟩ := n_pE_x h2
      exact n_sub (n_qc e0 (n_qc e1 n_qe)) (ih x1 M r h3)) n_ke) (by rfl) h
def fX6_parts (N : Nat) (M : nM) : Option (Int32 × nM) :=
  fX6_parts_2 N N (0 : Int32) M
set_option maxRecDepth 200000 in
theorem bX6_parts_0 {l : Launch} {w : nW} (N : Nat) {G : nG} (hG : n_GOK G) (M : nM) (r : Int32 × nM) (h : fX6_parts N M = some r) : n_At l w 1 mX6_parts 0 [(0, .ref 80)] [] (G, M) (dv_i r.1, (G, r.2)) :=
  n_seg (fin := n_fin dv_i G) (K := [(2, fun lv st M => n_lC 80 lv 0 (n_lI lv 1 (fun x1 => n_pE st (fX6_parts_2 N N x1 M))))]) 5 (iX6_parts N hG) (n_kc (fun lv st M r h => by
      obtain ⟨e0, h1⟩ := n_lC_x h
      obtain ⟨x1, e1, h2⟩ := n_lI_x h1
      obtain ⟨rfl, h3⟩ := n_pE_x h2
      exact n_sub (n_qc e0 (n_qc e1 n_qe)) (bX6_parts_2 N hG N x1 M r h3)) n_ke) (by rfl) h
theorem eX6_parts {l : Launch} {w : nW} (N : Nat) {G : nG} (hG : n_GOK G) (M : nM) (r : Int32 × nM) (h : fX6_parts N M = some r) : n_Met l w 1 mX6_parts [.ref 80] (G, M) (dv_i r.1, (G, r.2)) :=
  n_entry (by decide +kernel) rfl (Nat.le_of_ble_eq_true rfl) (n_sub (lv := [(0, .ref 80)]) (n_qc rfl n_qe) (bX6_parts_0 N hG M r h))
abbrev hX6_parts (N : Nat) : nF := fun T as M k => n_pC 80 as (fun as => n_pE as ((fX6_parts N M).bind fun p => k (dv_i p.1) p.2))
theorem csX6_parts {l : Launch} {w : nW} (N : Nat) {G : nG} (hG : n_GOK G) : n_CS l w 1 mX6_parts G (hX6_parts N) := fun T as M k r h => by
  obtain ⟨t0, rfl, h1⟩ := n_pC_x h
  obtain ⟨rfl, hE⟩ := n_pE_x h1
  obtain ⟨p, hp, hk⟩ := Option.bind_eq_some_iff.mp hE
  exact ⟨_, _, eX6_parts N hG M p hp, hk⟩
/-! ===== SleightHouse$Reader.sum()Z ===== -/
def mX6_sum : nY := (RX6, yX6_sum, cX6_sum, 4, some .boolean)
theorem okX6_sum : n_MOK mX6_sum 0 := ⟨w_988, w_148, ⟨by decide +kernel, by decide +kernel, by decide +kernel⟩, by decide⟩
abbrev aX6_sum (N : Nat) : List (Nat × nO (Int32 × nM)) := [(0, o_push (.int (-1 : Int32)) 1), (1, o_istore 4 1 2), (2, o_push (.int (0 : Int32)) 3), (3, o_istore 4 2 4), (4, o_push (.int (0 : Int32)) 5), (5, o_istore 4 3 6), (6, o_iload 3 7), (7, o_push (.int (400 : Int32)) 10), (10, oc_ge 143 13), (13, o_aload 0 14), (14, o_callVc 80 0 (hX6_unit) 17), (17, oi_ne 22 20), (20, o_push (.int (0 : Int32)) 21), (21, o_zret), (22, o_iload 2 23), (23, oi_eq 36 26), (26, o_aload 0 27), (27, o_gRc 80 85 30), (30, o_push (.int (6 : Int32)) 32), (32, o_push (.int (0 : Int32)) 33), (33, o_callVc 85 2 (hX3_emit) 36), (36, o_aload 0 37), (37, o_callVc 80 0 (hX6_parts N) 40), (40, oi_ne 45 43), (43, o_push (.int (0 : Int32)) 44), (44, o_zret), (45, o_aload 0 46), (46, o_gRc 80 82 49), (49, o_aload 0 50), (50, o_gIc 80 6 53), (53, o_aldc 82 401 54), (54, o_push (.int (42 : Int32)) 56), (56, oc_ne 63 59), (59, o_push (.int (1 : Int32)) 60), (60, o_goto 64), (63, o_push (.int (0 : Int32)) 64), (64, o_istore 4 2 65), (65, o_iload 2 66), (66, oi_ne 133 69), (69, o_iload 1 70), (70, o_push (.int (-1 : Int32)) 71), (71, oc_eq 83 74), (74, o_aload 0 75), (75, o_gRc 80 85 78), (78, o_iload 1 79), (79, o_push (.int (0 : Int32)) 80), (80, o_callVc 85 2 (hX3_emit) 83), (83, o_aload 0 84), (84, o_gRc 80 82 87), (87, o_aload 0 88), (88, o_gIc 80 6 91), (91, o_aldc 82 401 92), (92, o_push (.int (43 : Int32)) 94), (94, oc_eq 113 97), (97, o_aload 0 98), (98, o_gRc 80 82 101), (101, o_aload 0 102), (102, o_gIc 80 6 105), (105, o_aldc 82 401 106), (106, o_push (.int (45 : Int32)) 108), (108, oc_eq 113 111), (111, o_push (.int (1 : Int32)) 112), (112, o_zret), (113, o_aload 0 114), (114, o_gRc 80 82 117), (117, o_aload 0 118), (118, o_gIc 80 6 121), (121, o_aldc 82 401 122), (122, o_push (.int (43 : Int32)) 124), (124, oc_ne 131 127), (127, o_push (.int (4 : Int32)) 128), (128, o_goto 132), (131, o_push (.int (5 : Int32)) 132), (132, o_istore 4 1 133), (133, o_aload 0 134), (134, o_callVc 80 0 (hX6_step) 137), (137, o_inc 4 3 (1 : Int32) 140), (140, o_goto 6), (143, o_aload 0 144), (144, o_push (.int (1 : Int32)) 145), (145, o_callVc 80 1 (hX6_blame) 148), (148, o_zret)]
set_option maxRecDepth 200000 in
theorem iX6_sum {l : Launch} {w : nW} (N : Nat) {G : nG} (hG : n_GOK G) : n_AllS l w 2 mX6_sum G (n_fin dv_i G) (aX6_sum N) :=
  n_c (s_iconst (pc := 0) (n := -1) (by decide +kernel) (by decide +kernel)) <|
  n_c (s_istore_n (pc := 1) (k := 1) (by decide +kernel)) <|
  n_c (s_iconst (pc := 2) (n := 0) (by decide +kernel) (by decide +kernel)) <|
  n_c (s_istore_n (pc := 3) (k := 2) (by decide +kernel)) <|
  n_c (s_iconst (pc := 4) (n := 0) (by decide +kernel) (by decide +kernel)) <|
  n_c (s_istore_n (pc := 5) (k := 3) (by decide +kernel)) <|
  n_c (s_iload_n (pc := 6) (k := 3) (by decide +kernel)) <|
  n_c (s_sipush (pc := 7) (n := 400) (by decide +kernel) (by decide +kernel)) <|
  n_c (s_icmp_ge (pc := 10) (off := 133) (by decide +kernel) (by decide +kernel)) <|
  n_c (s_aload_n (pc := 13) (k := 0) (by decide +kernel)) <|
  n_c (s_callVc (s_callV (pc := 14) (csX6_unit hG) (by decide) okX6_unit nok6 w_991 w_23 w_989 (by decide +kernel)) (gk80 hG)) <|
  n_c (s_if_ne (pc := 17) (off := 5) (by decide +kernel) (by decide +kernel)) <|
  n_c (s_iconst (pc := 20) (n := 0) (by decide +kernel) (by decide +kernel)) <|
  n_c (s_zret (pc := 21) rfl (by decide +kernel)) <|
  n_c (s_iload_n (pc := 22) (k := 2) (by decide +kernel)) <|
  n_c (s_if_eq (pc := 23) (off := 13) (by decide +kernel) (by decide +kernel)) <|
  n_c (s_aload_n (pc := 26) (k := 0) (by decide +kernel)) <|
  n_c (s_gRc (s_getR (pc := 27) (ci := 6) (k := 7) (idx := 35) nok6 (by decide) rfl (by decide +kernel) w_493) (gk80 hG) (gm80_7 hG)) <|
  n_c (s_bipush (pc := 30) (n := 6) (by decide +kernel) (by decide +kernel)) <|
  n_c (s_iconst (pc := 32) (n := 0) (by decide +kernel) (by decide +kernel)) <|
  n_c (s_callVc (s_callV (pc := 33) (csX3_emit hG) (by decide) okX3_emit nok3 w_994 w_995 w_993 (by decide +kernel)) (gk85 hG)) <|
  n_c (s_aload_n (pc := 36) (k := 0) (by decide +kernel)) <|
  n_c (s_callVc (s_callV (pc := 37) (csX6_parts N hG) (by decide) okX6_parts nok6 w_999 w_24 w_997 (by decide +kernel)) (gk80 hG)) <|
  n_c (s_if_ne (pc := 40) (off := 5) (by decide +kernel) (by decide +kernel)) <|
  n_c (s_iconst (pc := 43) (n := 0) (by decide +kernel) (by decide +kernel)) <|
  n_c (s_zret (pc := 44) rfl (by decide +kernel)) <|
  n_c (s_aload_n (pc := 45) (k := 0) (by decide +kernel)) <|
  n_c (s_gRc (s_getR (pc := 46) (ci := 6) (k := 2) (idx := 15) nok6 (by decide) rfl (by decide +kernel) w_488) (gk80 hG) (gm80_2 hG)) <|
  n_c (s_aload_n (pc := 49) (k := 0) (by decide +kernel)) <|
  n_c (s_gIc (s_getI (pc := 50) (ci := 6) (k := 6) (idx := 29) nok6 (by decide) rfl (by decide +kernel) w_492) (gk80 hG)) <|
  n_c (s_aldc (s_iaload (pc := 53) (by decide +kernel)) (gk82 hG) (gl82 hG)) <|
  n_c (s_bipush (pc := 54) (n := 42) (by decide +kernel) (by decide +kernel)) <|
  n_c (s_icmp_ne (pc := 56) (off := 7) (by decide +kernel) (by decide +kernel)) <|
  n_c (s_iconst (pc := 59) (n := 1) (by decide +kernel) (by decide +kernel)) <|
  n_c (s_goto (pc := 60) (off := 4) (by decide +kernel) (by decide +kernel)) <|
  n_c (s_iconst (pc := 63) (n := 0) (by decide +kernel) (by decide +kernel)) <|
  n_c (s_istore_n (pc := 64) (k := 2) (by decide +kernel)) <|
  n_c (s_iload_n (pc := 65) (k := 2) (by decide +kernel)) <|
  n_c (s_if_ne (pc := 66) (off := 67) (by decide +kernel) (by decide +kernel)) <|
  n_c (s_iload_n (pc := 69) (k := 1) (by decide +kernel)) <|
  n_c (s_iconst (pc := 70) (n := -1) (by decide +kernel) (by decide +kernel)) <|
  n_c (s_icmp_eq (pc := 71) (off := 12) (by decide +kernel) (by decide +kernel)) <|
  n_c (s_aload_n (pc := 74) (k := 0) (by decide +kernel)) <|
  n_c (s_gRc (s_getR (pc := 75) (ci := 6) (k := 7) (idx := 35) nok6 (by decide) rfl (by decide +kernel) w_493) (gk80 hG) (gm80_7 hG)) <|
  n_c (s_iload_n (pc := 78) (k := 1) (by decide +kernel)) <|
  n_c (s_iconst (pc := 79) (n := 0) (by decide +kernel) (by decide +kernel)) <|
  n_c (s_callVc (s_callV (pc := 80) (csX3_emit hG) (by decide) okX3_emit nok3 w_994 w_995 w_993 (by decide +kernel)) (gk85 hG)) <|
  n_c (s_aload_n (pc := 83) (k := 0) (by decide +kernel)) <|
  n_c (s_gRc (s_getR (pc := 84) (ci := 6) (k := 2) (idx := 15) nok6 (by decide) rfl (by decide +kernel) w_488) (gk80 hG) (gm80_2 hG)) <|
  n_c (s_aload_n (pc := 87) (k := 0) (by decide +kernel)) <|
  n_c (s_gIc (s_getI (pc := 88) (ci := 6) (k := 6) (idx := 29) nok6 (by decide) rfl (by decide +kernel) w_492) (gk80 hG)) <|
  n_c (s_aldc (s_iaload (pc := 91) (by decide +kernel)) (gk82 hG) (gl82 hG)) <|
  n_c (s_bipush (pc := 92) (n := 43) (by decide +kernel) (by decide +kernel)) <|
  n_c (s_icmp_eq (pc := 94) (off := 19) (by decide +kernel) (by decide +kernel)) <|
  n_c (s_aload_n (pc := 97) (k := 0) (by decide +kernel)) <|
  n_c (s_gRc (s_getR (pc := 98) (ci := 6) (k := 2) (idx := 15) nok6 (by decide) rfl (by decide +kernel) w_488) (gk80 hG) (gm80_2 hG)) <|
  n_c (s_aload_n (pc := 101) (k := 0) (by decide +kernel)) <|
  n_c (s_gIc (s_getI (pc := 102) (ci := 6) (k := 6) (idx := 29) nok6 (by decide) rfl (by decide +kernel) w_492) (gk80 hG)) <|
  n_c (s_aldc (s_iaload (pc := 105) (by decide +kernel)) (gk82 hG) (gl82 hG)) <|
  n_c (s_bipush (pc := 106) (n := 45) (by decide +kernel) (by decide +kernel)) <|
  n_c (s_icmp_eq (pc := 108) (off := 5) (by decide +kernel) (by decide +kernel)) <|
  n_c (s_iconst (pc := 111) (n := 1) (by decide +kernel) (by decide +kernel)) <|
  n_c (s_zret (pc := 112) rfl (by decide +kernel)) <|
  n_c (s_aload_n (pc := 113) (k := 0) (by decide +kernel)) <|
  n_c (s_gRc (s_getR (pc := 114) (ci := 6) (k := 2) (idx := 15) nok6 (by decide) rfl (by decide +kernel) w_488) (gk80 hG) (gm80_2 hG)) <|
  n_c (s_aload_n (pc := 117) (k := 0) (by decide +kernel)) <|
  n_c (s_gIc (s_getI (pc := 118) (ci := 6) (k := 6) (idx := 29) nok6 (by decide) rfl (by decide +kernel) w_492) (gk80 hG)) <|
  n_c (s_aldc (s_iaload (pc := 121) (by decide +kernel)) (gk82 hG) (gl82 hG)) <|
  n_c (s_bipush (pc := 122) (n := 43) (by decide +kernel) (by decide +kernel)) <|
  n_c (s_icmp_ne (pc := 124) (off := 7) (by decide +kernel) (by decide +kernel)) <|
  n_c (s_iconst (pc := 127) (n := 4) (by decide +kernel) (by decide +kernel)) <|
  n_c (s_goto (pc := 128) (off := 4) (by decide +kernel) (by decide +kernel)) <|
  n_c (s_iconst (pc := 131) (n := 5) (by decide +kernel) (by decide +kernel)) <|
  n_c (s_istore_n (pc := 132) (k := 1) (by decide +kernel)) <|
  n_c (s_aload_n (pc := 133) (k := 0) (by decide +kernel)) <|
  n_c (s_callVc (s_callV (pc := 134) (csX6_step hG) (by decide) okX6_step nok6 w_983 w_21 w_981 (by decide +kernel)) (gk80 hG)) <|
  n_c (s_iinc (pc := 137) (n := 1) (by decide +kernel) (by decide +kernel)) <|
  n_c (s_goto (pc := 140) (off := -134) (by decide +kernel) (by decide +kernel)) <|
  n_c (s_aload_n (pc := 143) (k := 0) (by decide +kernel)) <|
  n_c (s_iconst (pc := 144) (n := 1) (by decide +kernel) (by decide +kernel)) <|
  n_c (s_callVc (s_callV (pc := 145) (csX6_blame hG) (by decide) okX6_blame nok6 w_971 w_19 w_969 (by decide +kernel)) (gk80 hG)) <|
  n_c (s_zret (pc := 148) rfl (by decide +kernel)) <|
  n_e
def fX6_sum_133 (N : Nat) (k6 : Int32 → Int32 → Int32 → nM → Option (Int32 × nM)) (x1 : Int32) (x2 : Int32) (x3 : Int32) (M : nM) : Option (Int32 × nM) :=
  (fX6_step M).bind fun p1 =>
  let v2 : Int32 := (x3 + (1 : Int32))
  k6 x1 x2 v2 p1.2
set_option maxRecDepth 200000 in
theorem bX6_sum_133 {l : Launch} {w : nW} (N : Nat) {G : nG} (hG : n_GOK G) (k6 : Int32 → Int32 → Int32 → nM → Option (Int32 × nM)) (hk6 : ∀ (x1 : Int32) (x2 : Int32) (x3 : Int32) (M : nM) (r : Int32 × nM), k6 x1 x2 x3 M = some r → n_At l w 2 mX6_sum 6 [(0, .ref 80), (1, .int x1), (2, .int x2), (3, .int x3)] [] (G, M) (dv_i r.1, (G, r.2))) (x1 : Int32) (x2 : Int32) (x3 : Int32) (M : nM) (r : Int32 × nM) (h : fX6_sum_133 N k6 x1 x2 x3 M = some r) : n_At l w 2 mX6_sum 133 [(0, .ref 80), (1, .int x1), (2, .int x2), (3, .int x3)] [] (G, M) (dv_i r.1, (G, r.2)) :=
  n_seg (fin := n_fin dv_i G) (K := [(6, fun lv st M => n_lC 80 lv 0 (n_lI lv 1 (fun x1 => n_lI lv 2 (fun x2 => n_lI lv 3 (fun x3 => n_pE st (k6 x1 x2 x3 M))))))]) 7 (iX6_sum N hG) (n_kc (fun lv st M r h => by
      obtain ⟨e0, h1⟩ := n_lC_x h
      obtain ⟨x1, e1, h2⟩ := n_lI_x h1
      obtain ⟨x2, e2, h3⟩ := n_lI_x h2
      obtain ⟨x3, e3, h4⟩ := n_lI_x h3
      obtain ⟨rfl, h5⟩ := n_pE_x h4
      exact n_sub (n_qc e0 (n_qc e1 (n_qc e2 (n_qc e3 n_qe)))) (hk6 x1 x2 x3 M r h5)) n_ke) (by rfl) h
def fX6_sum_132 (N : Nat) (k6 : Int32 → Int32 → Int32 → nM → Option (Int32 × nM)) (x2 : Int32) (x3 : Int32) (s0 : Int32) (M : nM) : Option (Int32 × nM) :=
  fX6_sum_133 N k6 s0 x2 x3 M
set_option maxRecDepth 200000 in
theorem bX6_sum_132 {l : Launch} {w : nW} (N : Nat) {G : nG} (hG : n_GOK G) (k6 : Int32 → Int32 → Int32 → nM → Option (Int32 × nM)) (hk6 : ∀ (x1 : Int32) (x2 : Int32) (x3 : Int32) (M : nM) (r : Int32 × nM), k6 x1 x2 x3 M = some r → n_At l w 2 mX6_sum 6 [(0, .ref 80), (1, .int x1), (2, .int x2), (3, .int x3)] [] (G, M) (dv_i r.1, (G, r.2))) (x2 : Int32) (x3 : Int32) (s0 : Int32) (M : nM) (r : Int32 × nM) (h : fX6_sum_132 N k6 x2 x3 s0 M = some r) : n_At l w 2 mX6_sum 132 [(0, .ref 80), (2, .int x2), (3, .int x3)] [.int s0] (G, M) (dv_i r.1, (G, r.2)) :=
  n_seg (fin := n_fin dv_i G) (K := [(133, fun lv st M => n_lC 80 lv 0 (n_lI lv 1 (fun x1 => n_lI lv 2 (fun x2 => n_lI lv 3 (fun x3 => n_pE st (fX6_sum_133 N k6 x1 x2 x3 M))))))]) 4 (iX6_sum N hG) (n_kc (fun lv st M r h => by
      obtain ⟨e0, h1⟩ := n_lC_x h
      obtain ⟨x1, e1, h2⟩ := n_lI_x h1
      obtain ⟨x2, e2, h3⟩ := n_lI_x h2
      obtain ⟨x3, e3, h4⟩ := n_lI_x h3
      obtain ⟨rfl, h5⟩ := n_pE_x h4
      exact n_sub (n_qc e0 (n_qc e1 (n_qc e2 (n_qc e3 n_qe)))) (bX6_sum_133 N hG k6 hk6 x1 x2 x3 M r h5)) n_ke) (by rfl) h
def fX6_sum_113 (N : Nat) (k6 : Int32 → Int32 → Int32 → nM → Option (Int32 × nM)) (x2 : Int32) (x3 : Int32) (M : nM) : Option (Int32 × nM) :=
  n_chk (n_ib 401 (M 80 6)) <|
  if ¬ (M 82 (M 80 6).toNatClampNeg) = (43 : Int32) then
    fX6_sum_132 N k6 x2 x3 (5 : Int32) M
  else
    fX6_sum_132 N k6 x2 x3 (4 : Int32) M
set_option maxRecDepth 200000 in
theorem bX6_sum_113 {l : Launch} {w : nW} (N : Nat) {G : nG} (hG : n_GOK G) (k6 : Int32 → Int32 → Int32 → nM → Option (Int32 × nM)) (hk6 : ∀ (x1 : Int32) (x2 : Int32) (x3 : Int32) (M : nM) (r : Int32 × nM), k6 x1 x2 x3 M = some r → n_At l w 2 mX6_sum 6 [(0, .ref 80), (1, .int x1), (2, .int x2), (3, .int x3)] [] (G, M) (dv_i r.1, (G, r.2))) (x2 : Int32) (x3 : Int32) (M : nM) (r : Int32 × nM) (h : fX6_sum_113 N k6 x2 x3 M = some r) : n_At l w 2 mX6_sum 113 [(0, .ref 80), (2, .int x2), (3, .int x3)] [] (G, M) (dv_i r.1, (G, r.2)) :=
  n_seg (fin := n_fin dv_i G) (K := [(132, fun lv st M => n_lC 80 lv 0 (n_lI lv 2 (fun x2 => n_lI lv 3 (fun x3 => n_pI st (fun s0 st => n_pE st (fX6_sum_132 N k6 x2 x3 s0 M))))))]) 13 (iX6_sum N hG) (n_kc (fun lv st M r h => by
      obtain ⟨e0, h1⟩ := n_lC_x h
      obtain ⟨x2, e2, h2⟩ := n_lI_x h1
      obtain ⟨x3, e3, h3⟩ := n_lI_x h2
      obtain ⟨s0, t0, rfl, h4⟩ := n_pI_x h3
      obtain ⟨rfl, h5⟩ := n_pE_x h4
      exact n_sub (n_qc e0 (n_qc e2 (n_qc e3 n_qe))) (bX6_sum_132 N hG k6 hk6 x2 x3 s0 M r h5)) n_ke) (by rfl) h
def fX6_sum_83 (N : Nat) (k6 : Int32 → Int32 → Int32 → nM → Option (Int32 × nM)) (x2 : Int32) (x3 : Int32) (M : nM) : Option (Int32 × nM) :=
  n_chk (n_ib 401 (M 80 6)) <|
  if (M 82 (M 80 6).toNatClampNeg) = (43 : Int32) then
    fX6_sum_113 N k6 x2 x3 M
  else
    n_chk (n_ib 401 (M 80 6)) <|
    if (M 82 (M 80 6).toNatClampNeg) = (45 : Int32) then
      fX6_sum_113 N k6 x2 x3 M
    else
      some ((1 : Int32), M)
set_option maxRecDepth 200000 in
theorem bX6_sum_83 {l : Launch} {w : nW} (N : Nat) {G : nG} (hG : n_GOK G) (k6 : Int32 → Int32 → Int32 → nM → Option (Int32 × nM)) (hk6 : ∀ (x1 : Int32) (x2 : Int32) (x3 : Int32) (M : nM) (r : Int32 × nM), k6 x1 x2 x3 M = some r → n_At l w 2 mX6_sum 6 [(0, .ref 80), (1, .int x1), (2, .int x2), (3, .int x3)] [] (G, M) (dv_i r.1, (G, r.2))) (x2 : Int32) (x3 : Int32) (M : nM) (r : Int32 × nM) (h : fX6_sum_83 N k6 x2 x3 M = some r) : n_At l w 2 mX6_sum 83 [(0, .ref 80), (2, .int x2), (3, .int x3)] [] (G, M) (dv_i r.1, (G, r.2)) :=
  n_seg (fin := n_fin dv_i G) (K := [(113, fun lv st M => n_lC 80 lv 0 (n_lI lv 2 (fun x2 => n_lI lv 3 (fun x3 => n_pE st (fX6_sum_113 N k6 x2 x3 M)))))]) 19 (iX6_sum N hG) (n_kc (fun lv st M r h => by
      obtain ⟨e0, h1⟩ := n_lC_x h
      obtain ⟨x2, e2, h2⟩ := n_lI_x h1
      obtain ⟨x3, e3, h3⟩ := n_lI_x h2
      obtain ⟨rfl, h4⟩ := n_pE_x h3
      exact n_sub (n_qc e0 (n_qc e2 (n_qc e3 n_qe))) (bX6_sum_113 N hG k6 hk6 x2 x3 M r h4)) n_ke) (by rfl) h
def fX6_sum_64 (N : Nat) (k6 : Int32 → Int32 → Int32 → nM → Option (Int32 × nM)) (x1 : Int32) (x3 : Int32) (s0 : Int32) (M : nM) : Option (Int32 × nM) :=
  if ¬ s0 = 0 then
    fX6_sum_133 N k6 x1 s0 x3 M
  else
    if x1 = (-1 : Int32) then
      fX6_sum_83 N k6 s0 x3 M
    else
      (fX3_emit x1 (0 : Int32) M).bind fun p1 =>
      fX6_sum_83 N k6 s0 x3 p1.2
set_option maxRecDepth 200000 in
theorem bX6_sum_64 {l : Launch} {w : nW} (N : Nat) {G : nG} (hG : n_GOK G) (k6 : Int32 → Int32 → Int32 → nM → Option (Int32 × nM)) (hk6 : ∀ (x1 : Int32) (x2 : Int32) (x3 : Int32) (M : nM) (r : Int32 × nM), k6 x1 x2 x3 M = some r → n_At l w 2 mX6_sum 6 [(0, .ref 80), (1, .int x1), (2, .int x2), (3, .int x3)] [] (G, M) (dv_i r.1, (G, r.2))) (x1 : Int32) (x3 : Int32) (s0 : Int32) (M : nM) (r : Int32 × nM) (h : fX6_sum_64 N k6 x1 x3 s0 M = some r) : n_At l w 2 mX6_sum 64 [(0, .ref 80), (1, .int x1), (3, .int x3)] [.int s0] (G, M) (dv_i r.1, (G, r.2)) :=
  n_seg (fin := n_fin dv_i G) (K := [(83, fun lv st M => n_lC 80 lv 0 (n_lI lv 2 (fun x2 => n_lI lv 3 (fun x3 => n_pE st (fX6_sum_83 N k6 x2 x3 M))))), (133, fun lv st M => n_lC 80 lv 0 (n_lI lv 1 (fun x1 => n_lI lv 2 (fun x2 => n_lI lv 3 (fun x3 => n_pE st (fX6_sum_133 N k6 x1 x2 x3 M))))))]) 14 (iX6_sum N hG) (n_kc (fun lv st M r h => by
      obtain ⟨e0, h1⟩ := n_lC_x h
      obtain ⟨x2, e2, h2⟩ := n_lI_x h1
      obtain ⟨x3, e3, h3⟩ := n_lI_x h2
      obtain ⟨rfl, h4⟩ := n_pE_x h3
      exact n_sub (n_qc e0 (n_qc e2 (n_qc e3 n_qe))) (bX6_sum_83 N hG k6 hk6 x2 x3 M r h4)) (n_kc (fun lv st M r h => by
      obtain ⟨e0, h1⟩ := n_lC_x h
      obtain ⟨x1, e1, h2⟩ := n_lI_x h1
      obtain ⟨x2, e2, h3⟩ := n_lI_x h2
      obtain ⟨x3, e3, h4⟩ := n_lI_x h3
      obtain ⟨rfl, h5⟩ := n_pE_x h4
      exact n_sub (n_qc e0 (n_qc e1 (n_qc e2 (n_qc e3 n_qe)))) (bX6_sum_133 N hG k6 hk6 x1 x2 x3 M r h5)) n_ke)) (by rfl) h
def fX6_sum_36 (N : Nat) (k6 : Int32 → Int32 → Int32 → nM → Option (Int32 × nM)) (x1 : Int32) (x3 : Int32) (M : nM) : Option (Int32 × nM) :=
  (fX6_parts N M).bind fun p1 =>
  if ¬ p1.1 = 0 then
    n_chk (n_ib 401 (p1.2 80 6)) <|
    if ¬ (p1.2 82 (p1.2 80 6).toNatClampNeg) = (42 : Int32) then
      fX6_sum_64 N k6 x1 x3 (0 : Int32) p1.2
    else
      fX6_sum_64 N k6 x1 x3 (1 : Int32) p1.2
  else
    some ((0 : Int32), p1.2)
set_option maxRecDepth 200000 in
theorem bX6_sum_36 {l : Launch} {w : nW} (N : Nat) {G : nG} (hG : n_GOK G) (k6 : Int32 → Int32 → Int32 → nM → Option (Int32 × nM)) (hk6 : ∀ (x1 : Int32) (x2 : Int32) (x3 : Int32) (M : nM) (r : Int32 × nM), k6 x1 x2 x3 M = some r → n_At l w 2 mX6_sum 6 [(0, .ref 80), (1, .int x1), (2, .int x2), (3, .int x3)] [] (G, M) (dv_i r.1, (G, r.2))) (x1 : Int32) (x3 : Int32) (M : nM) (r : Int32 × nM) (h : fX6_sum_36 N k6 x1 x3 M = some r) : n_At l w 2 mX6_sum 36 [(0, .ref 80), (1, .int x1), (3, .int x3)] [] (G, M) (dv_i r.1, (G, r.2)) :=
  n_seg (fin := n_fin dv_i G) (K := [(64, fun lv st M => n_lC 80 lv 0 (n_lI lv 1 (fun x1 => n_lI lv 3 (fun x3 => n_pI st (fun s0 st => n_pE st (fX6_sum_64 N k6 x1 x3 s0 M))))))]) 18 (iX6_sum N hG) (n_kc (fun lv st M r h => by
      obtain ⟨e0, h1⟩ := n_lC_x h
      obtain ⟨x1, e1, h2⟩ := n_lI_x h1
      obtain ⟨x3, e3, h3⟩ := n_lI_x h2
      obtain ⟨s0, t0, rfl, h4⟩ := n_pI_x h3
      obtain ⟨rfl, h5⟩ := n_pE_x h4
      exact n_sub (n_qc e0 (n_qc e1 (n_qc e3 n_qe))) (bX6_sum_64 N hG k6 hk6 x1 x3 s0 M r h5)) n_ke) (by rfl) h
def fX6_sum_6 (N : Nat) : Nat → Int32 → Int32 → Int32 → nM → Option (Int32 × nM)
  | 0, _, _, _, _ => none
  | n + 1, x1, x2, x3, M =>
    if (400 : Int32) ≤ x3 then
      (fX6_blame (1 : Int32) M).bind fun p1 =>
      n_chk (p1.1 == 0 || p1.1 == 1) (some (p1.1, p1.2))
    else
      (fX6_unit M).bind fun p2 =>
      if ¬ p2.1 = 0 then
        if x2 = 0 then
          fX6_sum_36 N (fun x1 x2 x3 M => fX6_sum_6 N n x1 x2 x3 M) x1 x3 p2.2
        else
          (fX3_emit (6 : Int32) (0 : Int32) p2.2).bind fun p3 =>
          fX6_sum_36 N (fun x1 x2 x3 M => fX6_sum_6 N n x1 x2 x3 M) x1 x3 p3.2
      else
        some ((0 : Int32), p2.2)
set_option maxRecDepth 200000 in
theorem bX6_sum_6 {l : Launch} {w : nW} (N : Nat) {G : nG} (hG : n_GOK G) : ∀ (n : Nat) (x1 : Int32) (x2 : Int32) (x3 : Int32) (M : nM) (r : Int32 × nM), fX6_sum_6 N n x1 x2 x3 M = some r → n_At l w 2 mX6_sum 6 [(0, .ref 80), (1, .int x1), (2, .int x2), (3, .int x3)] [] (G, M) (dv_i r.1, (G, r.2)) := by
  intro n
  induction n with
  | zero => intro x1 x2 x3 M r h; cases (show (none : Option (Int32 × nM)) = some r from h)
  | succ n ih =>
    intro x1 x2 x3 M r h
    exact n_seg (fin := n_fin dv_i G) (K := [(36, fun lv st M => n_lC 80 lv 0 (n_lI lv 1 (fun x1 => n_lI lv 3 (fun x3 => n_pE st (fX6_sum_36 N (fun x1 x2 x3 M => fX6_sum_6 N n x1 x2 x3 M) x1 x3 M)))))]) 22 (iX6_sum N hG) (n_kc (fun lv st M r h => by
      obtain ⟨e0, h1⟩ := n_lC_x h
      obtain ⟨x1, e1, h2⟩ := n_lI_x h1
      obtain ⟨x3, e3, h3⟩ := n_lI_x h2
      obtain ⟨rfl, h4⟩ := n_pE_x h3
      exact n_sub (n_qc e0 (n_qc e1 (n_qc e3 n_qe))) (bX6_sum_36 N hG (fun x1 x2 x3 M => fX6_sum_6 N n x1 x2 x3 M) ih x1 x3 M r h4)) n_ke) (by rfl) h
def fX6_sum (N : Nat) (M : nM) : Option (Int32 × nM) :=
  fX6_sum_6 N N (-1 : Int32) (0 : Int32) (0 : Int32) M
set_option maxRecDepth 200000 in
theorem bX6_sum_0 {l : Launch} {w : nW} (N : Nat) {G : nG} (hG : n_GOK G) (M : nM) (r : Int32 × nM) (h : fX6_sum N M = some r) : n_At l w 2 mX6_sum 0 [(0, .ref 80)] [] (G, M) (dv_i r.1, (G, r.2)) :=
  n_seg (fin := n_fin dv_i G) (K := [(6, fun lv st M => n_lC 80 lv 0 (n_lI lv 1 (fun x1 => n_lI lv 2 (fun x2 => n_lI lv 3 (fun x3 => n_pE st (fX6_sum_6 N N x1 x2 x3 M))))))]) 9 (iX6_sum N hG) (n_kc (fun lv st M r h => by
      obtain ⟨e0, h1⟩ := n_lC_x h
      obtain ⟨x1, e1, h2⟩ := n_lI_x h1
      obtain ⟨x2, e2, h3⟩ := n_lI_x h2
      obtain ⟨x3, e3, h4⟩ := n_lI_x h3
      obtain ⟨rfl, h5⟩ := n_pE_x h4
      exact n_sub (n_qc e0 (n_qc e1 (n_qc e2 (n_qc e3 n_qe)))) (bX6_sum_6 N hG N x1 x2 x3 M r h5)) n_ke) (by rfl) h
theorem eX6_sum {l : Launch} {w : nW} (N : Nat) {G : nG} (hG : n_GOK G) (M : nM) (r : Int32 × nM) (h : fX6_sum N M = some r) : n_Met l w 2 mX6_sum [.ref 80] (G, M) (dv_i r.1, (G, r.2)) :=
  n_entry (by decide +kernel) rfl (Nat.le_of_ble_eq_true rfl) (n_sub (lv := [(0, .ref 80)]) (n_qc rfl n_qe) (bX6_sum_0 N hG M r h))
abbrev hX6_sum (N : Nat) : nF := fun T as M k => n_pC 80 as (fun as => n_pE as ((fX6_sum N M).bind fun p => k (dv_i p.1) p.2))
theorem csX6_sum {l : Launch} {w : nW} (N : Nat) {G : nG} (hG : n_GOK G) : n_CS l w 2 mX6_sum G (hX6_sum N) := fun T as M k r h => by
  obtain ⟨t0, rfl, h1⟩ := n_pC_x h
  obtain ⟨rfl, hE⟩ := n_pE_x h1
  obtain ⟨p, hp, hk⟩ := Option.bind_eq_some_iff.mp hE
  exact ⟨_, _, eX6_sum N hG M p hp, hk⟩
/-! ===== SleightHouse$Law.beginWhen()V ===== -/
def mX3_beginWhen : nY := (RX3, yX3_beginWhen, cX3_beginWhen, 1, none)
theorem okX3_beginWhen : n_MOK mX3_beginWhen 0 := ⟨w_1004, w_144, ⟨by decide +kernel, by decide +kernel, by decide +kernel⟩, by decide⟩
abbrev aX3_beginWhen : List (Nat × nO (Unit × nM)) := [(0, o_aload 0 1), (1, o_gIc 85 6 4), (4, o_push (.int (16 : Int32)) 6), (6, oc_ge 22 9), (9, o_aload 0 10), (10, o_gRc 85 89 13), (13, o_aload 0 14), (14, o_gIc 85 6 17), (17, o_aload 0 18), (18, o_gIc 85 5 21), (21, o_iastc 89 16 22), (22, o_vret)]
set_option maxRecDepth 200000 in
theorem iX3_beginWhen {l : Launch} {w : nW} {G : nG} (hG : n_GOK G) : n_AllS l w 0 mX3_beginWhen G (n_fin dv_v G) (aX3_beginWhen) :=
  n_c (s_aload_n (pc := 0) (k := 0) (by decide +kernel)) <|
  n_c (s_gIc (s_getI (pc := 1) (ci := 3) (k := 6) (idx := 31) nok3 (by decide) rfl (by decide +kernel) w_331) (gk85 hG)) <|
  n_c (s_bipush (pc := 4) (n := 16) (by decide +kernel) (by decide +kernel)) <|
  n_c (s_icmp_ge (pc := 6) (off := 16) (by decide +kernel) (by decide +kernel)) <|
  n_c (s_aload_n (pc := 9) (k := 0) (by decide +kernel)) <|
  n_c (s_gRc (s_getR (pc := 10) (ci := 3) (k := 3) (idx := 21) nok3 (by decide) rfl (by decide +kernel) w_328) (gk85 hG) (gm85_3 hG)) <|
  n_c (s_aload_n (pc := 13) (k := 0) (by decide +kernel)) <|
  n_c (s_gIc (s_getI (pc := 14) (ci := 3) (k := 6) (idx := 31) nok3 (by decide) rfl (by decide +kernel) w_331) (gk85 hG)) <|
  n_c (s_aload_n (pc := 17) (k := 0) (by decide +kernel)) <|
  n_c (s_gIc (s_getI (pc := 18) (ci := 3) (k := 5) (idx := 27) nok3 (by decide) rfl (by decide +kernel) w_330) (gk85 hG)) <|
  n_c (s_iastc (s_iastore (pc := 21) (by decide +kernel)) (gk89 hG) (gl89 hG)) <|
  n_c (s_vret (pc := 22) rfl (by decide +kernel)) <|
  n_e
def fX3_beginWhen (M : nM) : Option (Unit × nM) :=
  if (16 : Int32) ≤ (M 85 6) then
    some ((), M)
  else
    n_chk (n_ib 16 (M 85 6)) <|
    let M1 : nM := n_up M 89 (M 85 6).toNatClampNeg (M 85 5)
    some ((), M1)
set_option maxRecDepth 200000 in
theorem bX3_beginWhen_0 {l : Launch} {w : nW} {G : nG} (hG : n_GOK G) (M : nM) (r : Unit × nM) (h : fX3_beginWhen M = some r) : n_At l w 0 mX3_beginWhen 0 [(0, .ref 85)] [] (G, M) (dv_v r.1, (G, r.2)) :=
  n_seg (fin := n_fin dv_v G) (K := []) 16 (iX3_beginWhen hG) n_ke (by rfl) h
theorem eX3_beginWhen {l : Launch} {w : nW} {G : nG} (hG : n_GOK G) (M : nM) (r : Unit × nM) (h : fX3_beginWhen M = some r) : n_Met l w 0 mX3_beginWhen [.ref 85] (G, M) (dv_v r.1, (G, r.2)) :=
  n_entry (by decide +kernel) rfl (Nat.le_of_ble_eq_true rfl) (n_sub (lv := [(0, .ref 85)]) (n_qc rfl n_qe) (bX3_beginWhen_0 hG M r h))
abbrev hX3_beginWhen : nF := fun T as M k => n_pC 85 as (fun as => n_pE as ((fX3_beginWhen M).bind fun p => k (dv_v p.1) p.2))
theorem csX3_beginWhen {l : Launch} {w : nW} {G : nG} (hG : n_GOK G) : n_CS l w 0 mX3_beginWhen G (hX3_beginWhen) := fun T as M k r h => by
  obtain ⟨t0, rfl, h1⟩ := n_pC_x h
  obtain ⟨rfl, hE⟩ := n_pE_x h1
  obtain ⟨p, hp, hk⟩ := Option.bind_eq_some_iff.mp hE
  exact ⟨_, _, eX3_beginWhen hG M p hp, hk⟩
/-! ===== SleightHouse$Reader.expect(I)Z ===== -/
def mX6_expect : nY := (RX6, yX6_expect, cX6_expect, 2, some .boolean)
theorem okX6_expect : n_MOK mX6_expect 1 := ⟨w_1016, w_148, ⟨by decide +kernel, by decide +kernel, by decide +kernel⟩, by decide⟩
abbrev aX6_expect : List (Nat × nO (Int32 × nM)) := [(0, o_aload 0 1), (1, o_gRc 80 82 4), (4, o_aload 0 5), (5, o_gIc 80 6 8), (8, o_aldc 82 401 9), (9, o_iload 1 10), (10, oc_eq 19 13), (13, o_aload 0 14), (14, o_push (.int (1 : Int32)) 15), (15, o_callVc 80 1 (hX6_blame) 18), (18, o_zret), (19, o_aload 0 20), (20, o_callVc 80 0 (hX6_step) 23), (23, o_push (.int (1 : Int32)) 24), (24, o_zret)]
set_option maxRecDepth 200000 in
theorem iX6_expect {l : Launch} {w : nW} {G : nG} (hG : n_GOK G) : n_AllS l w 1 mX6_expect G (n_fin dv_i G) (aX6_expect) :=
  n_c (s_aload_n (pc := 0) (k := 0) (by decide +kernel)) <|
  n_c (s_gRc (s_getR (pc := 1) (ci := 6) (k := 2) (idx := 15) nok6 (by decide) rfl (by decide +kernel) w_488) (gk80 hG) (gm80_2 hG)) <|
  n_c (s_aload_n (pc := 4) (k := 0) (by decide +kernel)) <|
  n_c (s_gIc (s_getI (pc := 5) (ci := 6) (k := 6) (idx := 29) nok6 (by decide) rfl (by decide +kernel) w_492) (gk80 hG)) <|
  n_c (s_aldc (s_iaload (pc := 8) (by decide +kernel)) (gk82 hG) (gl82 hG)) <|
  n_c (s_iload_n (pc := 9) (k := 1) (by decide +kernel)) <|
  n_c (s_icmp_eq (pc := 10) (off := 9) (by decide +kernel) (by decide +kernel)) <|
  n_c (s_aload_n (pc := 13) (k := 0) (by decide +kernel)) <|
  n_c (s_iconst (pc := 14) (n := 1) (by decide +kernel) (by decide +kernel)) <|
  n_c (s_callVc (s_callV (pc := 15) (csX6_blame hG) (by decide) okX6_blame nok6 w_971 w_19 w_969 (by decide +kernel)) (gk80 hG)) <|
  n_c (s_zret (pc := 18) rfl (by decide +kernel)) <|
  n_c (s_aload_n (pc := 19) (k := 0) (by decide +kernel)) <|
  n_c (s_callVc (s_callV (pc := 20) (csX6_step hG) (by decide) okX6_step nok6 w_983 w_21 w_981 (by decide +kernel)) (gk80 hG)) <|
  n_c (s_iconst (pc := 23) (n := 1) (by decide +kernel) (by decide +kernel)) <|
  n_c (s_zret (pc := 24) rfl (by decide +kernel)) <|
  n_e
def fX6_expect (x1 : Int32) (M : nM) : Option (Int32 × nM) :=
  n_chk (n_ib 401 (M 80 6)) <|
  if (M 82 (M 80 6).toNatClampNeg) = x1 then
    (fX6_step M).bind fun p1 =>
    some ((1 : Int32), p1.2)
  else
    (fX6_blame (1 : Int32) M).bind fun p2 =>
    n_chk (p2.1 == 0 || p2.1 == 1) (some (p2.1, p2.2))
set_option maxRecDepth 200000 in
theorem bX6_expect_0 {l : Launch} {w : nW} {G : nG} (hG : n_GOK G) (x1 : Int32) (M : nM) (r : Int32 × nM) (h : fX6_expect x1 M = some r) : n_At l w 1 mX6_expect 0 [(0, .ref 80), (1, .int x1)] [] (G, M) (dv_i r.1, (G, r.2)) :=
  n_seg (fin := n_fin dv_i G) (K := []) 18 (iX6_expect hG) n_ke (by rfl) h
theorem eX6_expect {l : Launch} {w : nW} {G : nG} (hG : n_GOK G) (z1 : Int32) (M : nM) (r : Int32 × nM) (h : fX6_expect z1 M = some r) : n_Met l w 1 mX6_expect [.ref 80, .int z1] (G, M) (dv_i r.1, (G, r.2)) :=
  n_entry (by decide +kernel) rfl (Nat.le_of_ble_eq_true rfl) (n_sub (lv := [(0, .ref 80), (1, .int z1)]) (n_qc rfl (n_qc rfl n_qe)) (bX6_expect_0 hG z1 M r h))
abbrev hX6_expect : nF := fun T as M k => n_pC 80 as (fun as => n_pI as (fun z1 as => n_pE as ((fX6_expect z1 M).bind fun p => k (dv_i p.1) p.2)))
theorem csX6_expect {l : Launch} {w : nW} {G : nG} (hG : n_GOK G) : n_CS l w 1 mX6_expect G (hX6_expect) := fun T as M k r h => by
  obtain ⟨t0, rfl, h1⟩ := n_pC_x h
  obtain ⟨z1, t1, rfl, h2⟩ := n_pI_x h1
  obtain ⟨rfl, hE⟩ := n_pE_x h2
  obtain ⟨p, hp, hk⟩ := Option.bind_eq_some_iff.mp hE
  exact ⟨_, _, eX6_expect hG z1 M p hp, hk⟩
/-! ===== SleightHouse$Law.finish()V ===== -/
def mX3_finish : nY := (RX3, yX3_finish, cX3_finish, 1, none)
theorem okX3_finish : n_MOK mX3_finish 0 := ⟨w_1020, w_144, ⟨by decide +kernel, by decide +kernel, by decide +kernel⟩, by decide⟩
abbrev aX3_finish : List (Nat × nO (Unit × nM)) := [(0, o_aload 0 1), (1, o_gIc 85 6 4), (4, o_push (.int (16 : Int32)) 6), (6, oc_ge 32 9), (9, o_aload 0 10), (10, o_gRc 85 90 13), (13, o_aload 0 14), (14, o_gIc 85 6 17), (17, o_aload 0 18), (18, o_gIc 85 5 21), (21, o_iastc 90 16 22), (22, o_aload 0 23), (23, o_dup 24), (24, o_gIc 85 6 27), (27, o_push (.int (1 : Int32)) 28), (28, o_iadd 29), (29, o_pIc 85 6 32), (32, o_vret)]
set_option maxRecDepth 200000 in
theorem iX3_finish {l : Launch} {w : nW} {G : nG} (hG : n_GOK G) : n_AllS l w 0 mX3_finish G (n_fin dv_v G) (aX3_finish) :=
  n_c (s_aload_n (pc := 0) (k := 0) (by decide +kernel)) <|
  n_c (s_gIc (s_getI (pc := 1) (ci := 3) (k := 6) (idx := 31) nok3 (by decide) rfl (by decide +kernel) w_331) (gk85 hG)) <|
  n_c (s_bipush (pc := 4) (n := 16) (by decide +kernel) (by decide +kernel)) <|
  n_c (s_icmp_ge (pc := 6) (off := 26) (by decide +kernel) (by decide +kernel)) <|
  n_c (s_aload_n (pc := 9) (k := 0) (by decide +kernel)) <|
  n_c (s_gRc (s_getR (pc := 10) (ci := 3) (k := 4) (idx := 24) nok3 (by decide) rfl (by decide +kernel) w_329) (gk85 hG) (gm85_4 hG)) <|
  n_c (s_aload_n (pc := 13) (k := 0) (by decide +kernel)) <|
  n_c (s_gIc (s_getI (pc := 14) (ci := 3) (k := 6) (idx := 31) nok3 (by decide) rfl (by decide +kernel) w_331) (gk85 hG)) <|
  n_c (s_aload_n (pc := 17) (k := 0) (by decide +kernel)) <|
  n_c (s_gIc (s_getI (pc := 18) (ci := 3) (k := 5) (idx := 27) nok3 (by decide) rfl (by decide +kernel) w_330) (gk85 hG)) <|
  n_c (s_iastc (s_iastore (pc := 21) (by decide +kernel)) (gk90 hG) (gl90 hG)) <|
  n_c (s_aload_n (pc := 22) (k := 0) (by decide +kernel)) <|
  n_c (s_dup (pc := 23) (by decide +kernel)) <|
  n_c (s_gIc (s_getI (pc := 24) (ci := 3) (k := 6) (idx := 31) nok3 (by decide) rfl (by decide +kernel) w_331) (gk85 hG)) <|
  n_c (s_iconst (pc := 27) (n := 1) (by decide +kernel) (by decide +kernel)) <|
  n_c (s_iadd (pc := 28) (by decide +kernel)) <|
  n_c (s_pIc (s_putI (pc := 29) (ci := 3) (k := 6) (idx := 31) nok3 (by decide) rfl rfl (by decide +kernel) w_331) (gk85 hG)) <|
  n_c (s_vret (pc := 32) rfl (by decide +kernel)) <|
  n_e
def fX3_finish (M : nM) : Option (Unit × nM) :=
  if (16 : Int32) ≤ (M 85 6) then
    some ((), M)
  else
    n_chk (n_ib 16 (M 85 6)) <|
    let M1 : nM := n_up M 90 (M 85 6).toNatClampNeg (M 85 5)
    let M2 : nM := n_up M1 85 6 ((M1 85 6) + (1 : Int32))
    some ((), M2)
set_option maxRecDepth 200000 in
theorem bX3_finish_0 {l : Launch} {w : nW} {G : nG} (hG : n_GOK G) (M : nM) (r : Unit × nM) (h : fX3_finish M = some r) : n_At l w 0 mX3_finish 0 [(0, .ref 85)] [] (G, M) (dv_v r.1, (G, r.2)) :=
  n_seg (fin := n_fin dv_v G) (K := []) 22 (iX3_finish hG) n_ke (by rfl) h
theorem eX3_finish {l : Launch} {w : nW} {G : nG} (hG : n_GOK G) (M : nM) (r : Unit × nM) (h : fX3_finish M = some r) : n_Met l w 0 mX3_finish [.ref 85] (G, M) (dv_v r.1, (G, r.2)) :=
  n_entry (by decide +kernel) rfl (Nat.le_of_ble_eq_true rfl) (n_sub (lv := [(0, .ref 85)]) (n_qc rfl n_qe) (bX3_finish_0 hG M r h))
abbrev hX3_finish : nF := fun T as M k => n_pC 85 as (fun as => n_pE as ((fX3_finish M).bind fun p => k (dv_v p.1) p.2))
theorem csX3_finish {l : Launch} {w : nW} {G : nG} (hG : n_GOK G) : n_CS l w 0 mX3_finish G (hX3_finish) := fun T as M k r h => by
  obtain ⟨t0, rfl, h1⟩ := n_pC_x h
  obtain ⟨rfl, hE⟩ := n_pE_x h1
  obtain ⟨p, hp, hk⟩ := Option.bind_eq_some_iff.mp hE
  exact ⟨_, _, eX3_finish hG M p hp, hk⟩
/-! ===== SleightHouse$Reader.numberBelow(I)I ===== -/
def mX6_numberBelow : nY := (RX6, yX6_numberBelow, cX6_numberBelow, 3, some .int)
theorem okX6_numberBelow : n_MOK mX6_numberBelow 1 := ⟨w_1028, w_148, ⟨by decide +kernel, by decide +kernel, by decide +kernel⟩, by decide⟩
abbrev aX6_numberBelow : List (Nat × nO (Int32 × nM)) := [(0, o_aload 0 1), (1, o_gRc 80 82 4), (4, o_aload 0 5), (5, o_gIc 80 6 8), (8, o_aldc 82 401 9), (9, o_push (.int (2 : Int32)) 10), (10, oc_eq 21 13), (13, o_aload 0 14), (14, o_push (.int (1 : Int32)) 15), (15, o_callVc 80 1 (hX6_blame) 18), (18, o_pop 19), (19, o_push (.int (-1 : Int32)) 20), (20, o_iret), (21, o_aload 0 22), (22, o_gRc 80 83 25), (25, o_aload 0 26), (26, o_gIc 80 6 29), (29, o_aldc 83 401 30), (30, o_istore 3 2 31), (31, o_iload 2 32), (32, o_iload 1 33), (33, oc_lt 44 36), (36, o_aload 0 37), (37, o_push (.int (2 : Int32)) 38), (38, o_callVc 80 1 (hX6_blame) 41), (41, o_pop 42), (42, o_push (.int (-1 : Int32)) 43), (43, o_iret), (44, o_aload 0 45), (45, o_callVc 80 0 (hX6_step) 48), (48, o_iload 2 49), (49, o_iret)]
set_option maxRecDepth 200000 in
theorem iX6_numberBelow {l : Launch} {w : nW} {G : nG} (hG : n_GOK G) : n_AllS l w 1 mX6_numberBelow G (n_fin dv_i G) (aX6_numberBelow) :=
  n_c (s_aload_n (pc := 0) (k := 0) (by decide +kernel)) <|
  n_c (s_gRc (s_getR (pc := 1) (ci := 6) (k := 2) (idx := 15) nok6 (by decide) rfl (by decide +kernel) w_488) (gk80 hG) (gm80_2 hG)) <|
  n_c (s_aload_n (pc := 4) (k := 0) (by decide +kernel)) <|
  n_c (s_gIc (s_getI (pc := 5) (ci := 6) (k := 6) (idx := 29) nok6 (by decide) rfl (by decide +kernel) w_492) (gk80 hG)) <|
  n_c (s_aldc (s_iaload (pc := 8) (by decide +kernel)) (gk82 hG) (gl82 hG)) <|
  n_c (s_iconst (pc := 9) (n := 2) (by decide +kernel) (by decide +kernel)) <|
  n_c (s_icmp_eq (pc := 10) (off := 11) (by decide +kernel) (by decide +kernel)) <|
  n_c (s_aload_n (pc := 13) (k := 0) (by decide +kernel)) <|
  n_c (s_iconst (pc := 14) (n := 1) (by decide +kernel) (by decide +kernel)) <|
  n_c (s_callVc (s_callV (pc := 15) (csX6_blame hG) (by decide) okX6_blame nok6 w_971 w_19 w_969 (by decide +kernel)) (gk80 hG)) <|
  n_c (s_pop (pc := 18) (by decide +kernel)) <|
  n_c (s_iconst (pc := 19) (n := -1) (by decide +kernel) (by decide +kernel)) <|
  n_c (s_iret (pc := 20) rfl (by decide +kernel)) <|
  n_c (s_aload_n (pc := 21) (k := 0) (by decide +kernel)) <|
  n_c (s_gRc (s_getR (pc := 22) (ci := 6) (k := 3) (idx := 19) nok6 (by decide) rfl (by decide +kernel) w_489) (gk80 hG) (gm80_3 hG)) <|
  n_c (s_aload_n (pc := 25) (k := 0) (by decide +kernel)) <|
  n_c (s_gIc (s_getI (pc := 26) (ci := 6) (k := 6) (idx := 29) nok6 (by decide) rfl (by decide +kernel) w_492) (gk80 hG)) <|
  n_c (s_aldc (s_iaload (pc := 29) (by decide +kernel)) (gk83 hG) (gl83 hG)) <|
  n_c (s_istore_n (pc := 30) (k := 2) (by decide +kernel)) <|
  n_c (s_iload_n (pc := 31) (k := 2) (by decide +kernel)) <|
  n_c (s_iload_n (pc := 32) (k := 1) (by decide +kernel)) <|
  n_c (s_icmp_lt (pc := 33) (off := 11) (by decide +kernel) (by decide +kernel)) <|
  n_c (s_aload_n (pc := 36) (k := 0) (by decide +kernel)) <|
  n_c (s_iconst (pc := 37) (n := 2) (by decide +kernel) (by decide +kernel)) <|
  n_c (s_callVc (s_callV (pc := 38) (csX6_blame hG) (by decide) okX6_blame nok6 w_971 w_19 w_969 (by decide +kernel)) (gk80 hG)) <|
  n_c (s_pop (pc := 41) (by decide +kernel)) <|
  n_c (s_iconst (pc := 42) (n := -1) (by decide +kernel) (by decide +kernel)) <|
  n_c (s_iret (pc := 43) rfl (by decide +kernel)) <|
  n_c (s_aload_n (pc := 44) (k := 0) (by decide +kernel)) <|
  n_c (s_callVc (s_callV (pc := 45) (csX6_step hG) (by decide) okX6_step nok6 w_983 w_21 w_981 (by decide +kernel)) (gk80 hG)) <|
  n_c (s_iload_n (pc := 48) (k := 2) (by decide +kernel)) <|
  n_c (s_iret (pc := 49) rfl (by decide +kernel)) <|
  n_e
def fX6_numberBelow (x1 : Int32) (M : nM) : Option (Int32 × nM) :=
  n_chk (n_ib 401 (M 80 6)) <|
  if (M 82 (M 80 6).toNatClampNeg) = (2 : Int32) then
    n_chk (n_ib 401 (M 80 6)) <|
    let v1 : Int32 := (M 83 (M 80 6).toNatClampNeg)
    if v1 < x1 then
      (fX6_step M).bind fun p2 =>
      some (v1, p2.2)
    else
      (fX6_blame (2 : Int32) M).bind fun p3 =>
      some ((-1 : Int32), p3.2)
  else
    (fX6_blame (1 : Int32) M).bind fun p4 =>
    some ((-1 : Int32), p4.2)
set_option maxRecDepth 200000 in
theorem bX6_numberBelow_0 {l : Launch} {w : nW} {G : nG} (hG : n_GOK G) (x1 : Int32) (M : nM) (r : Int32 × nM) (h : fX6_numberBelow x1 M = some r) : n_At l w 1 mX6_numberBelow 0 [(0, .ref 80), (1, .int x1)] [] (G, M) (dv_i r.1, (G, r.2)) :=
  n_seg (fin := n_fin dv_i G) (K := []) 35 (iX6_numberBelow hG) n_ke (by rfl) h
theorem eX6_numberBelow {l : Launch} {w : nW} {G : nG} (hG : n_GOK G) (z1 : Int32) (M : nM) (r : Int32 × nM) (h : fX6_numberBelow z1 M = some r) : n_Met l w 1 mX6_numberBelow [.ref 80, .int z1] (G, M) (dv_i r.1, (G, r.2)) :=
  n_entry (by decide +kernel) rfl (Nat.le_of_ble_eq_true rfl) (n_sub (lv := [(0, .ref 80), (1, .int z1)]) (n_qc rfl (n_qc rfl n_qe)) (bX6_numberBelow_0 hG z1 M r h))
abbrev hX6_numberBelow : nF := fun T as M k => n_pC 80 as (fun as => n_pI as (fun z1 as => n_pE as ((fX6_numberBelow z1 M).bind fun p => k (dv_i p.1) p.2)))
theorem csX6_numberBelow {l : Launch} {w : nW} {G : nG} (hG : n_GOK G) : n_CS l w 1 mX6_numberBelow G (hX6_numberBelow) := fun T as M k r h => by
  obtain ⟨t0, rfl, h1⟩ := n_pC_x h
  obtain ⟨z1, t1, rfl, h2⟩ := n_pI_x h1
  obtain ⟨rfl, hE⟩ := n_pE_x h2
  obtain ⟨p, hp, hk⟩ := Option.bind_eq_some_iff.mp hE
  exact ⟨_, _, eX6_numberBelow hG z1 M p hp, hk⟩
/-! ===== SleightHouse$Rows.add(IIII)I ===== -/
def mX7_add : nY := (RX7, yX7_add, cX7_add, 5, some .int)
theorem okX7_add : n_MOK mX7_add 4 := ⟨w_1032, w_142, ⟨by decide +kernel, by decide +kernel, by decide +kernel⟩, by decide⟩
abbrev aX7_add (G : nG) : List (Nat × nO (Int32 × nM)) := [(0, o_aload 0 1), (1, o_getI G 7 3 4), (4, o_aload 0 5), (5, o_getI G 7 2 8), (8, oc_lt 13 11), (11, o_push (.int (-1 : Int32)) 12), (12, o_iret), (13, o_aload 0 14), (14, o_aload 0 15), (15, o_getI G 7 3 18), (18, o_iload 1 19), (19, o_iload 2 20), (20, o_iload 3 21), (21, o_iload 4 23), (23, o_callV G 7 5 (hX7_write G) 26), (26, o_aload 0 27), (27, o_dup 28), (28, o_getI G 7 3 31), (31, o_push (.int (1 : Int32)) 32), (32, o_iadd 33), (33, o_putI G 7 3 36), (36, o_aload 0 37), (37, o_getI G 7 3 40), (40, o_iret)]
set_option maxRecDepth 200000 in
theorem iX7_add {l : Launch} {w : nW} {G : nG} : n_AllS l w 1 mX7_add G (n_fin dv_i G) (aX7_add G) :=
  n_c (s_aload_n (pc := 0) (k := 0) (by decide +kernel)) <|
  n_c (s_getI (pc := 1) (ci := 7) (k := 3) (idx := 9) nok7 (by decide) rfl (by decide +kernel) w_303) <|
  n_c (s_aload_n (pc := 4) (k := 0) (by decide +kernel)) <|
  n_c (s_getI (pc := 5) (ci := 7) (k := 2) (idx := 21) nok7 (by decide) rfl (by decide +kernel) w_302) <|
  n_c (s_icmp_lt (pc := 8) (off := 5) (by decide +kernel) (by decide +kernel)) <|
  n_c (s_iconst (pc := 11) (n := -1) (by decide +kernel) (by decide +kernel)) <|
  n_c (s_iret (pc := 12) rfl (by decide +kernel)) <|
  n_c (s_aload_n (pc := 13) (k := 0) (by decide +kernel)) <|
  n_c (s_aload_n (pc := 14) (k := 0) (by decide +kernel)) <|
  n_c (s_getI (pc := 15) (ci := 7) (k := 3) (idx := 9) nok7 (by decide) rfl (by decide +kernel) w_303) <|
  n_c (s_iload_n (pc := 18) (k := 1) (by decide +kernel)) <|
  n_c (s_iload_n (pc := 19) (k := 2) (by decide +kernel)) <|
  n_c (s_iload_n (pc := 20) (k := 3) (by decide +kernel)) <|
  n_c (s_iload (pc := 21) (by decide +kernel)) <|
  n_c (s_callV (pc := 23) (csX7_write) (by decide) okX7_write nok7 w_710 w_711 w_1033 (by decide +kernel)) <|
  n_c (s_aload_n (pc := 26) (k := 0) (by decide +kernel)) <|
  n_c (s_dup (pc := 27) (by decide +kernel)) <|
  n_c (s_getI (pc := 28) (ci := 7) (k := 3) (idx := 9) nok7 (by decide) rfl (by decide +kernel) w_303) <|
  n_c (s_iconst (pc := 31) (n := 1) (by decide +kernel) (by decide +kernel)) <|
  n_c (s_iadd (pc := 32) (by decide +kernel)) <|
  n_c (s_putI (pc := 33) (ci := 7) (k := 3) (idx := 9) nok7 (by decide) rfl rfl (by decide +kernel) w_303) <|
  n_c (s_aload_n (pc := 36) (k := 0) (by decide +kernel)) <|
  n_c (s_getI (pc := 37) (ci := 7) (k := 3) (idx := 9) nok7 (by decide) rfl (by decide +kernel) w_303) <|
  n_c (s_iret (pc := 40) rfl (by decide +kernel)) <|
  n_e
def fX7_add (G : nG) (x0 : Nat) (x1 : Int32) (x2 : Int32) (x3 : Int32) (x4 : Int32) (M : nM) : Option (Int32 × nM) :=
  n_chk (Nat.beq (n_kd G x0) 7) <|
  n_chk (Nat.beq (n_kd G x0) 7) <|
  if (M x0 3) < (M x0 2) then
    n_chk (Nat.beq (n_kd G x0) 7) <|
    n_chk (Nat.beq (n_kd G x0) 7 && true) <|
    (fX7_write G x0 (M x0 3) x1 x2 x3 x4 M).bind fun p1 =>
    n_chk (Nat.beq (n_kd G x0) 7) <|
    n_chk (Nat.beq (n_kd G x0) 7) <|
    let M2 : nM := n_up p1.2 x0 3 ((p1.2 x0 3) + (1 : Int32))
    n_chk (Nat.beq (n_kd G x0) 7) <|
    some ((M2 x0 3), M2)
  else
    some ((-1 : Int32), M)
set_option maxRecDepth 200000 in
theorem bX7_add_0 {l : Launch} {w : nW} {G : nG} (x0 : Nat) (x1 : Int32) (x2 : Int32) (x3 : Int32) (x4 : Int32) (M : nM) (r : Int32 × nM) (h : fX7_add G x0 x1 x2 x3 x4 M = some r) : n_At l w 1 mX7_add 0 [(0, .ref x0), (1, .int x1), (2, .int x2), (3, .int x3), (4, .int x4)] [] (G, M) (dv_i r.1, (G, r.2)) :=
  n_seg (fin := n_fin dv_i G) (K := []) 27 (iX7_add) n_ke (by rfl) h
theorem eX7_add {l : Launch} {w : nW} {G : nG} (z0 : Nat) (z1 : Int32) (z2 : Int32) (z3 : Int32) (z4 : Int32) (M : nM) (r : Int32 × nM) (h : fX7_add G z0 z1 z2 z3 z4 M = some r) : n_Met l w 1 mX7_add [.ref z0, .int z1, .int z2, .int z3, .int z4] (G, M) (dv_i r.1, (G, r.2)) :=
  n_entry (by decide +kernel) rfl (Nat.le_of_ble_eq_true rfl) (n_sub (lv := [(0, .ref z0), (1, .int z1), (2, .int z2), (3, .int z3), (4, .int z4)]) (n_qc rfl (n_qc rfl (n_qc rfl (n_qc rfl (n_qc rfl n_qe))))) (bX7_add_0 z0 z1 z2 z3 z4 M r h))
abbrev hX7_add (G : nG) : nF := fun T as M k => n_pR as (fun z0 as => n_pI as (fun z1 as => n_pI as (fun z2 as => n_pI as (fun z3 as => n_pI as (fun z4 as => n_pE as ((fX7_add G z0 z1 z2 z3 z4 M).bind fun p => k (dv_i p.1) p.2))))))
theorem csX7_add {l : Launch} {w : nW} {G : nG} : n_CS l w 1 mX7_add G (hX7_add G) := fun T as M k r h => by
  obtain ⟨z0, t0, rfl, h1⟩ := n_pR_x h
  obtain ⟨z1, t1, rfl, h2⟩ := n_pI_x h1
  obtain ⟨z2, t2, rfl, h3⟩ := n_pI_x h2
  obtain ⟨z3, t3, rfl, h4⟩ := n_pI_x h3
  obtain ⟨z4, t4, rfl, h5⟩ := n_pI_x h4
  obtain ⟨rfl, hE⟩ := n_pE_x h5
  obtain ⟨p, hp, hk⟩ := Option.bind_eq_some_iff.mp hE
  exact ⟨_, _, eX7_add z0 z1 z2 z3 z4 M p hp, hk⟩
/-! ===== SleightHouse$Reader.supperLine()Z ===== -/
def mX6_supperLine : nY := (RX6, yX6_supperLine, cX6_supperLine, 5, some .boolean)
theorem okX6_supperLine : n_MOK mX6_supperLine 0 := ⟨w_1024, w_148, ⟨by decide +kernel, by decide +kernel, by decide +kernel⟩, by decide⟩
abbrev aX6_supperLine (G : nG) : List (Nat × nO (Int32 × nM)) := [(0, o_aload 0 1), (1, o_callVc 80 0 (hX6_step) 4), (4, o_aload 0 5), (5, o_push (.int (1000 : Int32)) 8), (8, o_callVc 80 1 (hX6_numberBelow) 11), (11, o_istore 5 1 12), (12, o_iload 1 13), (13, o_push (.int (-1 : Int32)) 14), (14, oc_eq 27 17), (17, o_aload 0 18), (18, o_push (.int (147 : Int32)) 21), (21, o_callVc 80 1 (hX6_expect) 24), (24, oi_ne 29 27), (27, o_push (.int (0 : Int32)) 28), (28, o_zret), (29, o_aload 0 30), (30, o_aload 0 31), (31, o_gRc 80 3 34), (34, o_gIc 3 6 37), (37, o_callVc 80 1 (hX6_numberBelow) 40), (40, o_istore 5 2 41), (41, o_iload 2 42), (42, o_push (.int (-1 : Int32)) 43), (43, oc_eq 56 46), (46, o_aload 0 47), (47, o_push (.int (148 : Int32)) 50), (50, o_callVc 80 1 (hX6_expect) 53), (53, oi_ne 58 56), (56, o_push (.int (0 : Int32)) 57), (57, o_zret), (58, o_aload 0 59), (59, o_aload 0 60), (60, o_gRc 80 3 63), (63, o_gIc 3 5 66), (66, o_callVc 80 1 (hX6_numberBelow) 69), (69, o_istore 5 3 70), (70, o_iload 3 71), (71, o_push (.int (-1 : Int32)) 72), (72, oc_eq 85 75), (75, o_aload 0 76), (76, o_push (.int (149 : Int32)) 79), (79, o_callVc 80 1 (hX6_expect) 82), (82, oi_ne 87 85), (85, o_push (.int (0 : Int32)) 86), (86, o_zret), (87, o_aload 0 88), (88, o_push (.int (12 : Int32)) 90), (90, o_callVc 80 1 (hX6_numberBelow) 93), (93, o_istore 5 4 95), (95, o_iload 4 97), (97, o_push (.int (-1 : Int32)) 98), (98, oc_eq 110 101), (101, o_aload 0 102), (102, o_push (.int (59 : Int32)) 104), (104, o_callVc 80 1 (hX6_expect) 107), (107, oi_ne 112 110), (110, o_push (.int (0 : Int32)) 111), (111, o_zret), (112, o_aload 0 113), (113, o_gRc 80 91 116), (116, o_iload 1 117), (117, o_iload 2 118), (118, o_iload 3 119), (119, o_iload 4 121), (121, o_callVc 91 4 (hX7_add G) 124), (124, o_pop 125), (125, o_push (.int (1 : Int32)) 126), (126, o_zret)]
set_option maxRecDepth 200000 in
theorem iX6_supperLine {l : Launch} {w : nW} {G : nG} (hG : n_GOK G) : n_AllS l w 2 mX6_supperLine G (n_fin dv_i G) (aX6_supperLine G) :=
  n_c (s_aload_n (pc := 0) (k := 0) (by decide +kernel)) <|
  n_c (s_callVc (s_callV (pc := 1) (csX6_step hG) (by decide) okX6_step nok6 w_983 w_21 w_981 (by decide +kernel)) (gk80 hG)) <|
  n_c (s_aload_n (pc := 4) (k := 0) (by decide +kernel)) <|
  n_c (s_sipush (pc := 5) (n := 1000) (by decide +kernel) (by decide +kernel)) <|
  n_c (s_callVc (s_callV (pc := 8) (csX6_numberBelow hG) (by decide) okX6_numberBelow nok6 w_1027 w_29 w_1025 (by decide +kernel)) (gk80 hG)) <|
  n_c (s_istore_n (pc := 11) (k := 1) (by decide +kernel)) <|
  n_c (s_iload_n (pc := 12) (k := 1) (by decide +kernel)) <|
  n_c (s_iconst (pc := 13) (n := -1) (by decide +kernel) (by decide +kernel)) <|
  n_c (s_icmp_eq (pc := 14) (off := 13) (by decide +kernel) (by decide +kernel)) <|
  n_c (s_aload_n (pc := 17) (k := 0) (by decide +kernel)) <|
  n_c (s_sipush (pc := 18) (n := 147) (by decide +kernel) (by decide +kernel)) <|
  n_c (s_callVc (s_callV (pc := 21) (csX6_expect hG) (by decide) okX6_expect nok6 w_1015 w_27 w_1013 (by decide +kernel)) (gk80 hG)) <|
  n_c (s_if_ne (pc := 24) (off := 5) (by decide +kernel) (by decide +kernel)) <|
  n_c (s_iconst (pc := 27) (n := 0) (by decide +kernel) (by decide +kernel)) <|
  n_c (s_zret (pc := 28) rfl (by decide +kernel)) <|
  n_c (s_aload_n (pc := 29) (k := 0) (by decide +kernel)) <|
  n_c (s_aload_n (pc := 30) (k := 0) (by decide +kernel)) <|
  n_c (s_gRc (s_getR (pc := 31) (ci := 6) (k := 0) (idx := 57) nok6 (by decide) rfl (by decide +kernel) w_486) (gk80 hG) (gm80_0 hG)) <|
  n_c (s_gIc (s_getI (pc := 34) (ci := 8) (k := 6) (idx := 137) nok8 (by decide) rfl (by decide +kernel) w_204) (gk3 hG)) <|
  n_c (s_callVc (s_callV (pc := 37) (csX6_numberBelow hG) (by decide) okX6_numberBelow nok6 w_1027 w_29 w_1025 (by decide +kernel)) (gk80 hG)) <|
  n_c (s_istore_n (pc := 40) (k := 2) (by decide +kernel)) <|
  n_c (s_iload_n (pc := 41) (k := 2) (by decide +kernel)) <|
  n_c (s_iconst (pc := 42) (n := -1) (by decide +kernel) (by decide +kernel)) <|
  n_c (s_icmp_eq (pc := 43) (off := 13) (by decide +kernel) (by decide +kernel)) <|
  n_c (s_aload_n (pc := 46) (k := 0) (by decide +kernel)) <|
  n_c (s_sipush (pc := 47) (n := 148) (by decide +kernel) (by decide +kernel)) <|
  n_c (s_callVc (s_callV (pc := 50) (csX6_expect hG) (by decide) okX6_expect nok6 w_1015 w_27 w_1013 (by decide +kernel)) (gk80 hG)) <|
  n_c (s_if_ne (pc := 53) (off := 5) (by decide +kernel) (by decide +kernel)) <|
  n_c (s_iconst (pc := 56) (n := 0) (by decide +kernel) (by decide +kernel)) <|
  n_c (s_zret (pc := 57) rfl (by decide +kernel)) <|
  n_c (s_aload_n (pc := 58) (k := 0) (by decide +kernel)) <|
  n_c (s_aload_n (pc := 59) (k := 0) (by decide +kernel)) <|
  n_c (s_gRc (s_getR (pc := 60) (ci := 6) (k := 0) (idx := 57) nok6 (by decide) rfl (by decide +kernel) w_486) (gk80 hG) (gm80_0 hG)) <|
  n_c (s_gIc (s_getI (pc := 63) (ci := 8) (k := 5) (idx := 142) nok8 (by decide) rfl (by decide +kernel) w_200) (gk3 hG)) <|
  n_c (s_callVc (s_callV (pc := 66) (csX6_numberBelow hG) (by decide) okX6_numberBelow nok6 w_1027 w_29 w_1025 (by decide +kernel)) (gk80 hG)) <|
  n_c (s_istore_n (pc := 69) (k := 3) (by decide +kernel)) <|
  n_c (s_iload_n (pc := 70) (k := 3) (by decide +kernel)) <|
  n_c (s_iconst (pc := 71) (n := -1) (by decide +kernel) (by decide +kernel)) <|
  n_c (s_icmp_eq (pc := 72) (off := 13) (by decide +kernel) (by decide +kernel)) <|
  n_c (s_aload_n (pc := 75) (k := 0) (by decide +kernel)) <|
  n_c (s_sipush (pc := 76) (n := 149) (by decide +kernel) (by decide +kernel)) <|
  n_c (s_callVc (s_callV (pc := 79) (csX6_expect hG) (by decide) okX6_expect nok6 w_1015 w_27 w_1013 (by decide +kernel)) (gk80 hG)) <|
  n_c (s_if_ne (pc := 82) (off := 5) (by decide +kernel) (by decide +kernel)) <|
  n_c (s_iconst (pc := 85) (n := 0) (by decide +kernel) (by decide +kernel)) <|
  n_c (s_zret (pc := 86) rfl (by decide +kernel)) <|
  n_c (s_aload_n (pc := 87) (k := 0) (by decide +kernel)) <|
  n_c (s_bipush (pc := 88) (n := 12) (by decide +kernel) (by decide +kernel)) <|
  n_c (s_callVc (s_callV (pc := 90) (csX6_numberBelow hG) (by decide) okX6_numberBelow nok6 w_1027 w_29 w_1025 (by decide +kernel)) (gk80 hG)) <|
  n_c (s_istore (pc := 93) (by decide +kernel)) <|
  n_c (s_iload (pc := 95) (by decide +kernel)) <|
  n_c (s_iconst (pc := 97) (n := -1) (by decide +kernel) (by decide +kernel)) <|
  n_c (s_icmp_eq (pc := 98) (off := 12) (by decide +kernel) (by decide +kernel)) <|
  n_c (s_aload_n (pc := 101) (k := 0) (by decide +kernel)) <|
  n_c (s_bipush (pc := 102) (n := 59) (by decide +kernel) (by decide +kernel)) <|
  n_c (s_callVc (s_callV (pc := 104) (csX6_expect hG) (by decide) okX6_expect nok6 w_1015 w_27 w_1013 (by decide +kernel)) (gk80 hG)) <|
  n_c (s_if_ne (pc := 107) (off := 5) (by decide +kernel) (by decide +kernel)) <|
  n_c (s_iconst (pc := 110) (n := 0) (by decide +kernel) (by decide +kernel)) <|
  n_c (s_zret (pc := 111) rfl (by decide +kernel)) <|
  n_c (s_aload_n (pc := 112) (k := 0) (by decide +kernel)) <|
  n_c (s_gRc (s_getR (pc := 113) (ci := 6) (k := 8) (idx := 44) nok6 (by decide) rfl (by decide +kernel) w_495) (gk80 hG) (gm80_8 hG)) <|
  n_c (s_iload_n (pc := 116) (k := 1) (by decide +kernel)) <|
  n_c (s_iload_n (pc := 117) (k := 2) (by decide +kernel)) <|
  n_c (s_iload_n (pc := 118) (k := 3) (by decide +kernel)) <|
  n_c (s_iload (pc := 119) (by decide +kernel)) <|
  n_c (s_callVc (s_callV (pc := 121) (csX7_add) (by decide) okX7_add nok7 w_1030 w_1031 w_1029 (by decide +kernel)) (gk91 hG)) <|
  n_c (s_pop (pc := 124) (by decide +kernel)) <|
  n_c (s_iconst (pc := 125) (n := 1) (by decide +kernel) (by decide +kernel)) <|
  n_c (s_zret (pc := 126) rfl (by decide +kernel)) <|
  n_e
def fX6_supperLine (G : nG) (M : nM) : Option (Int32 × nM) :=
  (fX6_step M).bind fun p1 =>
  (fX6_numberBelow (1000 : Int32) p1.2).bind fun p2 =>
  if p2.1 = (-1 : Int32) then
    some ((0 : Int32), p2.2)
  else
    (fX6_expect (147 : Int32) p2.2).bind fun p3 =>
    if ¬ p3.1 = 0 then
      (fX6_numberBelow (p3.2 3 6) p3.2).bind fun p4 =>
      if p4.1 = (-1 : Int32) then
        some ((0 : Int32), p4.2)
      else
        (fX6_expect (148 : Int32) p4.2).bind fun p5 =>
        if ¬ p5.1 = 0 then
          (fX6_numberBelow (p5.2 3 5) p5.2).bind fun p6 =>
          if p6.1 = (-1 : Int32) then
            some ((0 : Int32), p6.2)
          else
            (fX6_expect (149 : Int32) p6.2).bind fun p7 =>
            if ¬ p7.1 = 0 then
              (fX6_numberBelow (12 : Int32) p7.2).bind fun p8 =>
              if p8.1 = (-1 : Int32) then
                some ((0 : Int32), p8.2)
              else
                (fX6_expect (59 : Int32) p8.2).bind fun p9 =>
                if ¬ p9.1 = 0 then
                  (fX7_add G 91 p2.1 p4.1 p6.1 p8.1 p9.2).bind fun p10 =>
                  some ((1 : Int32), p10.2)
                else
                  some ((0 : Int32), p9.2)
            else
              some ((0 : Int32), p7.2)
        else
          some ((0 : Int32), p5.2)
    else
      some ((0 : Int32), p3.2)
set_option maxRecDepth 200000 in
theorem bX6_supperLine_0 {l : Launch} {w : nW} {G : nG} (hG : n_GOK G) (M : nM) (r : Int32 × nM) (h : fX6_supperLine G M = some r) : n_At l w 2 mX6_supperLine 0 [(0, .ref 80)] [] (G, M) (dv_i r.1, (G, r.2)) :=
  n_seg (fin := n_fin dv_i G) (K := []) 79 (iX6_supperLine hG) n_ke (by rfl) h
theorem eX6_supperLine {l : Launch} {w : nW} {G : nG} (hG : n_GOK G) (M : nM) (r : Int32 × nM) (h : fX6_supperLine G M = some r) : n_Met l w 2 mX6_supperLine [.ref 80] (G, M) (dv_i r.1, (G, r.2)) :=
  n_entry (by decide +kernel) rfl (Nat.le_of_ble_eq_true rfl) (n_sub (lv := [(0, .ref 80)]) (n_qc rfl n_qe) (bX6_supperLine_0 hG M r h))
abbrev hX6_supperLine (G : nG) : nF := fun T as M k => n_pC 80 as (fun as => n_pE as ((fX6_supperLine G M).bind fun p => k (dv_i p.1) p.2))
theorem csX6_supperLine {l : Launch} {w : nW} {G : nG} (hG : n_GOK G) : n_CS l w 2 mX6_supperLine G (hX6_supperLine G) := fun T as M k r h => by
  obtain ⟨t0, rfl, h1⟩ := n_pC_x h
  obtain ⟨rfl, hE⟩ := n_pE_x h1
  obtain ⟨p, hp, hk⟩ := Option.bind_eq_some_iff.mp hE
  exact ⟨_, _, eX6_supperLine hG M p hp, hk⟩
/-! ===== SleightHouse$Reader.linesOfChild(I)I ===== -/
def mX6_linesOfChild : nY := (RX6, yX6_linesOfChild, cX6_linesOfChild, 4, some .int)
theorem okX6_linesOfChild : n_MOK mX6_linesOfChild 1 := ⟨w_1049, w_148, ⟨by decide +kernel, by decide +kernel, by decide +kernel⟩, by decide⟩
abbrev aX6_linesOfChild (N : Nat) (G : nG) : List (Nat × nO (Int32 × nM)) := [(0, o_push (.int (0 : Int32)) 1), (1, o_istore 4 2 2), (2, o_push (.int (0 : Int32)) 3), (3, o_istore 4 3 4), (4, o_iload 3 5), (5, o_aload 0 6), (6, o_gRc 80 91 9), (9, o_gIc 91 3 12), (12, oc_ge 37 15), (15, o_aload 0 16), (16, o_gRc 80 91 19), (19, o_iload 3 20), (20, o_push (.int (0 : Int32)) 21), (21, o_callVc 91 2 (hX7_cell G) 24), (24, o_iload 1 25), (25, oc_ne 31 28), (28, o_inc 4 2 (1 : Int32) 31), (31, o_inc 4 3 (1 : Int32) 34), (34, o_goto 4), (37, o_iload 2 38), (38, o_iret)]
set_option maxRecDepth 200000 in
theorem iX6_linesOfChild {l : Launch} {w : nW} (N : Nat) {G : nG} (hG : n_GOK G) : n_AllS l w 1 mX6_linesOfChild G (n_fin dv_i G) (aX6_linesOfChild N G) :=
  n_c (s_iconst (pc := 0) (n := 0) (by decide +kernel) (by decide +kernel)) <|
  n_c (s_istore_n (pc := 1) (k := 2) (by decide +kernel)) <|
  n_c (s_iconst (pc := 2) (n := 0) (by decide +kernel) (by decide +kernel)) <|
  n_c (s_istore_n (pc := 3) (k := 3) (by decide +kernel)) <|
  n_c (s_iload_n (pc := 4) (k := 3) (by decide +kernel)) <|
  n_c (s_aload_n (pc := 5) (k := 0) (by decide +kernel)) <|
  n_c (s_gRc (s_getR (pc := 6) (ci := 6) (k := 8) (idx := 44) nok6 (by decide) rfl (by decide +kernel) w_495) (gk80 hG) (gm80_8 hG)) <|
  n_c (s_gIc (s_getI (pc := 9) (ci := 7) (k := 3) (idx := 157) nok7 (by decide) rfl (by decide +kernel) w_309) (gk91 hG)) <|
  n_c (s_icmp_ge (pc := 12) (off := 25) (by decide +kernel) (by decide +kernel)) <|
  n_c (s_aload_n (pc := 15) (k := 0) (by decide +kernel)) <|
  n_c (s_gRc (s_getR (pc := 16) (ci := 6) (k := 8) (idx := 44) nok6 (by decide) rfl (by decide +kernel) w_495) (gk80 hG) (gm80_8 hG)) <|
  n_c (s_iload_n (pc := 19) (k := 3) (by decide +kernel)) <|
  n_c (s_iconst (pc := 20) (n := 0) (by decide +kernel) (by decide +kernel)) <|
  n_c (s_callVc (s_callV (pc := 21) (csX7_cell) (by decide) okX7_cell nok7 w_786 w_787 w_1050 (by decide +kernel)) (gk91 hG)) <|
  n_c (s_iload_n (pc := 24) (k := 1) (by decide +kernel)) <|
  n_c (s_icmp_ne (pc := 25) (off := 6) (by decide +kernel) (by decide +kernel)) <|
  n_c (s_iinc (pc := 28) (n := 1) (by decide +kernel) (by decide +kernel)) <|
  n_c (s_iinc (pc := 31) (n := 1) (by decide +kernel) (by decide +kernel)) <|
  n_c (s_goto (pc := 34) (off := -30) (by decide +kernel) (by decide +kernel)) <|
  n_c (s_iload_n (pc := 37) (k := 2) (by decide +kernel)) <|
  n_c (s_iret (pc := 38) rfl (by decide +kernel)) <|
  n_e
def fX6_linesOfChild_4 (N : Nat) (G : nG) : Nat → Int32 → Int32 → Int32 → nM → Option (Int32 × nM)
  | 0, _, _, _, _ => none
  | n + 1, x1, x2, x3, M =>
    if (M 91 3) ≤ x3 then
      some (x2, M)
    else
      (fX7_cell G 91 x3 (0 : Int32) M).bind fun p1 =>
      if ¬ p1.1 = x1 then
        let v2 : Int32 := (x3 + (1 : Int32))
        fX6_linesOfChild_4 N G n x1 x2 v2 p1.2
      else
        let v3 : Int32 := (x2 + (1 : Int32))
        let v4 : Int32 := (x3 + (1 : Int32))
        fX6_linesOfChild_4 N G n x1 v3 v4 p1.2
set_option maxRecDepth 200000 in
theorem bX6_linesOfChild_4 {l : Launch} {w : nW} (N : Nat) {G : nG} (hG : n_GOK G) : ∀ (n : Nat) (x1 : Int32) (x2 : Int32) (x3 : Int32) (M : nM) (r : Int32 × nM), fX6_linesOfChild_4 N G n x1 x2 x3 M = some r → n_At l w 1 mX6_linesOfChild 4 [(0, .ref 80), (1, .int x1), (2, .int x2), (3, .int x3)] [] (G, M) (dv_i r.1, (G, r.2)) := by
  intro n
  induction n with
  | zero => intro x1 x2 x3 M r h; cases (show (none : Option (Int32 × nM)) = some r from h)
  | succ n ih =>
    intro x1 x2 x3 M r h
    exact n_seg (fin := n_fin dv_i G) (K := [(4, fun lv st M => n_lC 80 lv 0 (n_lI lv 1 (fun x1 => n_lI lv 2 (fun x2 => n_lI lv 3 (fun x3 => n_pE st (fX6_linesOfChild_4 N G n x1 x2 x3 M))))))]) 22 (iX6_linesOfChild N hG) (n_kc (fun lv st M r h => by
      obtain ⟨e0, h1⟩ := n_lC_x h
      obtain ⟨x1, e1, h2⟩ := n_lI_x h1
      obtain ⟨x2, e2, h3⟩ := n_lI_x h2
      obtain ⟨x3, e3, h4⟩ := n_lI_x h3
      obtain ⟨rfl, h5⟩ := n_pE_x h4
      exact n_sub (n_qc e0 (n_qc e1 (n_qc e2 (n_qc e3 n_qe)))) (ih x1 x2 x3 M r h5)) n_ke) (by rfl) h
def fX6_linesOfChild (N : Nat) (G : nG) (x1 : Int32) (M : nM) : Option (Int32 × nM) :=
  fX6_linesOfChild_4 N G N x1 (0 : Int32) (0 : Int32) M
set_option maxRecDepth 200000 in
theorem bX6_linesOfChild_0 {l : Launch} {w : nW} (N : Nat) {G : nG} (hG : n_GOK G) (x1 : Int32) (M : nM) (r : Int32 × nM) (h : fX6_linesOfChild N G x1 M = some r) : n_At l w 1 mX6_linesOfChild 0 [(0, .ref 80), (1, .int x1)] [] (G, M) (dv_i r.1, (G, r.2)) :=
  n_seg (fin := n_fin dv_i G) (K := [(4, fun lv st M => n_lC 80 lv 0 (n_lI lv 1 (fun x1 => n_lI lv 2 (fun x2 => n_lI lv 3 (fun x3 => n_pE st (fX6_linesOfChild_4 N G N x1 x2 x3 M))))))]) 7 (iX6_linesOfChild N hG) (n_kc (fun lv st M r h => by
      obtain ⟨e0, h1⟩ := n_lC_x h
      obtain ⟨x1, e1, h2⟩ := n_lI_x h1
      obtain ⟨x2, e2, h3⟩ := n_lI_x h2
      obtain ⟨x3, e3, h4⟩ := n_lI_x h3
      obtain ⟨rfl, h5⟩ := n_pE_x h4
      exact n_sub (n_qc e0 (n_qc e1 (n_qc e2 (n_qc e3 n_qe)))) (bX6_linesOfChild_4 N hG N x1 x2 x3 M r h5)) n_ke) (by rfl) h
theorem eX6_linesOfChild {l : Launch} {w : nW} (N : Nat) {G : nG} (hG : n_GOK G) (z1 : Int32) (M : nM) (r : Int32 × nM) (h : fX6_linesOfChild N G z1 M = some r) : n_Met l w 1 mX6_linesOfChild [.ref 80, .int z1] (G, M) (dv_i r.1, (G, r.2)) :=
  n_entry (by decide +kernel) rfl (Nat.le_of_ble_eq_true rfl) (n_sub (lv := [(0, .ref 80), (1, .int z1)]) (n_qc rfl (n_qc rfl n_qe)) (bX6_linesOfChild_0 N hG z1 M r h))
abbrev hX6_linesOfChild (N : Nat) (G : nG) : nF := fun T as M k => n_pC 80 as (fun as => n_pI as (fun z1 as => n_pE as ((fX6_linesOfChild N G z1 M).bind fun p => k (dv_i p.1) p.2)))
theorem csX6_linesOfChild {l : Launch} {w : nW} (N : Nat) {G : nG} (hG : n_GOK G) : n_CS l w 1 mX6_linesOfChild G (hX6_linesOfChild N G) := fun T as M k r h => by
  obtain ⟨t0, rfl, h1⟩ := n_pC_x h
  obtain ⟨z1, t1, rfl, h2⟩ := n_pI_x h1
  obtain ⟨rfl, hE⟩ := n_pE_x h2
  obtain ⟨p, hp, hk⟩ := Option.bind_eq_some_iff.mp hE
  exact ⟨_, _, eX6_linesOfChild N hG z1 M p hp, hk⟩
