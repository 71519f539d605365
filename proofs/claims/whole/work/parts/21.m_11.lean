/-! ===== SleightHouseModel.lesser(II)I ===== -/
def mX12_lesser : nY := (RX12, yX12_lesser, cX12_lesser, 3, some .int)
theorem okX12_lesser : n_MOK mX12_lesser 2 := ⟨w_2042, w_151, ⟨by decide +kernel, by decide +kernel, by decide +kernel⟩, by decide⟩
abbrev aX12_lesser : List (Nat × nO (Int32 × nM)) := [(0, o_iload 1 1), (1, o_iload 2 2), (2, oc_ge 9 5), (5, o_iload 1 6), (6, o_goto 10), (9, o_iload 2 10), (10, o_iret)]
set_option maxRecDepth 200000 in
theorem iX12_lesser {l : Launch} {w : nW} {G : nG} : n_AllS l w 0 mX12_lesser G (n_fin dv_i G) (aX12_lesser) :=
  n_c (s_iload_n (pc := 0) (k := 1) (by decide +kernel)) <|
  n_c (s_iload_n (pc := 1) (k := 2) (by decide +kernel)) <|
  n_c (s_icmp_ge (pc := 2) (off := 7) (by decide +kernel) (by decide +kernel)) <|
  n_c (s_iload_n (pc := 5) (k := 1) (by decide +kernel)) <|
  n_c (s_goto (pc := 6) (off := 4) (by decide +kernel) (by decide +kernel)) <|
  n_c (s_iload_n (pc := 9) (k := 2) (by decide +kernel)) <|
  n_c (s_iret (pc := 10) rfl (by decide +kernel)) <|
  n_e
def fX12_lesser (x1 : Int32) (x2 : Int32) (M : nM) : Option (Int32 × nM) :=
  if x2 ≤ x1 then
    some (x2, M)
  else
    some (x1, M)
set_option maxRecDepth 200000 in
theorem bX12_lesser_0 {l : Launch} {w : nW} {G : nG} (x1 : Int32) (x2 : Int32) (M : nM) (r : Int32 × nM) (h : fX12_lesser x1 x2 M = some r) : n_At l w 0 mX12_lesser 0 [(1, .int x1), (2, .int x2)] [] (G, M) (dv_i r.1, (G, r.2)) :=
  n_seg (fin := n_fin dv_i G) (K := []) 11 (iX12_lesser) n_ke (by rfl) h
theorem eX12_lesser {l : Launch} {w : nW} {G : nG} (z1 : Int32) (z2 : Int32) (M : nM) (r : Int32 × nM) (h : fX12_lesser z1 z2 M = some r) : n_Met l w 0 mX12_lesser [.ref 107, .int z1, .int z2] (G, M) (dv_i r.1, (G, r.2)) :=
  n_entry (by decide +kernel) rfl (Nat.le_of_ble_eq_true rfl) (n_sub (lv := [(0, .ref 107), (1, .int z1), (2, .int z2)]) (n_qc rfl (n_qc rfl n_qe)) (bX12_lesser_0 z1 z2 M r h))
abbrev hX12_lesser : nF := fun T as M k => n_pC 107 as (fun as => n_pI as (fun z1 as => n_pI as (fun z2 as => n_pE as ((fX12_lesser z1 z2 M).bind fun p => k (dv_i p.1) p.2))))
theorem csX12_lesser {l : Launch} {w : nW} {G : nG} : n_CS l w 0 mX12_lesser G (hX12_lesser) := fun T as M k r h => by
  obtain ⟨t0, rfl, h1⟩ := n_pC_x h
  obtain ⟨z1, t1, rfl, h2⟩ := n_pI_x h1
  obtain ⟨z2, t2, rfl, h3⟩ := n_pI_x h2
  obtain ⟨rfl, hE⟩ := n_pE_x h3
  obtain ⟨p, hp, hk⟩ := Option.bind_eq_some_iff.mp hE
  exact ⟨_, _, eX12_lesser z1 z2 M p hp, hk⟩
/-! ===== SleightHouseModel.box(II)I ===== -/
def mX12_box : nY := (RX12, yX12_box, cX12_box, 3, some .int)
theorem okX12_box : n_MOK mX12_box 2 := ⟨w_2034, w_151, ⟨by decide +kernel, by decide +kernel, by decide +kernel⟩, by decide⟩
abbrev aX12_box : List (Nat × nO (Int32 × nM)) := [(0, o_aload 0 1), (1, o_push (.int (0 : Int32)) 2), (2, o_pIc 107 0 5), (5, o_iload 1 6), (6, o_push (.int (-1 : Int32)) 7), (7, oc_ne 17 10), (10, o_aload 0 11), (11, o_push (.int (0 : Int32)) 12), (12, o_pIc 107 51 15), (15, o_push (.int (0 : Int32)) 16), (16, o_iret), (17, o_aload 0 18), (18, o_iload 1 19), (19, o_push (.int (1 : Int32)) 20), (20, o_push (.int (30 : Int32)) 22), (22, o_callVc 107 3 (hX12_isIn) 25), (25, oi_eq 48 28), (28, o_aload 0 29), (29, o_iload 2 30), (30, o_push (.int (1 : Int32)) 31), (31, o_push (.int (30 : Int32)) 33), (33, o_callVc 107 3 (hX12_isIn) 36), (36, oi_eq 48 39), (39, o_aload 0 40), (40, o_gIc 107 51 43), (43, o_push (.int (8 : Int32)) 45), (45, oc_ne 50 48), (48, o_push (.int (-1 : Int32)) 49), (49, o_iret), (50, o_aload 0 51), (51, o_gRc 107 136 54), (54, o_aload 0 55), (55, o_gIc 107 51 58), (58, o_aload 0 59), (59, o_iload 1 60), (60, o_iload 2 61), (61, o_callVc 107 2 (hX12_greater) 64), (64, o_iastc 136 8 65), (65, o_aload 0 66), (66, o_gRc 107 137 69), (69, o_aload 0 70), (70, o_gIc 107 51 73), (73, o_aload 0 74), (74, o_iload 1 75), (75, o_iload 2 76), (76, o_callVc 107 2 (hX12_lesser) 79), (79, o_iastc 137 8 80), (80, o_aload 0 81), (81, o_aload 0 82), (82, o_gIc 107 51 85), (85, o_push (.int (1 : Int32)) 86), (86, o_iadd 87), (87, o_pIc 107 51 90), (90, o_aload 0 91), (91, o_gIc 107 51 94), (94, o_iret)]
set_option maxRecDepth 200000 in
theorem iX12_box {l : Launch} {w : nW} {G : nG} (hG : n_GOK G) : n_AllS l w 1 mX12_box G (n_fin dv_i G) (aX12_box) :=
  n_c (s_aload_n (pc := 0) (k := 0) (by decide +kernel)) <|
  n_c (s_iconst (pc := 1) (n := 0) (by decide +kernel) (by decide +kernel)) <|
  n_c (s_pIc (s_putI (pc := 2) (ci := 12) (k := 0) (idx := 146) nok12 (by decide) rfl rfl (by decide +kernel) w_1407) (gk107 hG)) <|
  n_c (s_iload_n (pc := 5) (k := 1) (by decide +kernel)) <|
  n_c (s_iconst (pc := 6) (n := -1) (by decide +kernel) (by decide +kernel)) <|
  n_c (s_icmp_ne (pc := 7) (off := 10) (by decide +kernel) (by decide +kernel)) <|
  n_c (s_aload_n (pc := 10) (k := 0) (by decide +kernel)) <|
  n_c (s_iconst (pc := 11) (n := 0) (by decide +kernel) (by decide +kernel)) <|
  n_c (s_pIc (s_putI (pc := 12) (ci := 12) (k := 51) (idx := 440) nok12 (by decide) rfl rfl (by decide +kernel) w_1458) (gk107 hG)) <|
  n_c (s_iconst (pc := 15) (n := 0) (by decide +kernel) (by decide +kernel)) <|
  n_c (s_iret (pc := 16) rfl (by decide +kernel)) <|
  n_c (s_aload_n (pc := 17) (k := 0) (by decide +kernel)) <|
  n_c (s_iload_n (pc := 18) (k := 1) (by decide +kernel)) <|
  n_c (s_iconst (pc := 19) (n := 1) (by decide +kernel) (by decide +kernel)) <|
  n_c (s_bipush (pc := 20) (n := 30) (by decide +kernel) (by decide +kernel)) <|
  n_c (s_callVc (s_callV (pc := 22) (csX12_isIn) (by decide) okX12_isIn nok12 w_1659 w_46 w_1657 (by decide +kernel)) (gk107 hG)) <|
  n_c (s_if_eq (pc := 25) (off := 23) (by decide +kernel) (by decide +kernel)) <|
  n_c (s_aload_n (pc := 28) (k := 0) (by decide +kernel)) <|
  n_c (s_iload_n (pc := 29) (k := 2) (by decide +kernel)) <|
  n_c (s_iconst (pc := 30) (n := 1) (by decide +kernel) (by decide +kernel)) <|
  n_c (s_bipush (pc := 31) (n := 30) (by decide +kernel) (by decide +kernel)) <|
  n_c (s_callVc (s_callV (pc := 33) (csX12_isIn) (by decide) okX12_isIn nok12 w_1659 w_46 w_1657 (by decide +kernel)) (gk107 hG)) <|
  n_c (s_if_eq (pc := 36) (off := 12) (by decide +kernel) (by decide +kernel)) <|
  n_c (s_aload_n (pc := 39) (k := 0) (by decide +kernel)) <|
  n_c (s_gIc (s_getI (pc := 40) (ci := 12) (k := 51) (idx := 440) nok12 (by decide) rfl (by decide +kernel) w_1458) (gk107 hG)) <|
  n_c (s_bipush (pc := 43) (n := 8) (by decide +kernel) (by decide +kernel)) <|
  n_c (s_icmp_ne (pc := 45) (off := 5) (by decide +kernel) (by decide +kernel)) <|
  n_c (s_iconst (pc := 48) (n := -1) (by decide +kernel) (by decide +kernel)) <|
  n_c (s_iret (pc := 49) rfl (by decide +kernel)) <|
  n_c (s_aload_n (pc := 50) (k := 0) (by decide +kernel)) <|
  n_c (s_gRc (s_getR (pc := 51) (ci := 12) (k := 52) (idx := 98) nok12 (by decide) rfl (by decide +kernel) w_1459) (gk107 hG) (gm107_52 hG)) <|
  n_c (s_aload_n (pc := 54) (k := 0) (by decide +kernel)) <|
  n_c (s_gIc (s_getI (pc := 55) (ci := 12) (k := 51) (idx := 440) nok12 (by decide) rfl (by decide +kernel) w_1458) (gk107 hG)) <|
  n_c (s_aload_n (pc := 58) (k := 0) (by decide +kernel)) <|
  n_c (s_iload_n (pc := 59) (k := 1) (by decide +kernel)) <|
  n_c (s_iload_n (pc := 60) (k := 2) (by decide +kernel)) <|
  n_c (s_callVc (s_callV (pc := 61) (csX12_greater) (by decide) okX12_greater nok12 w_2037 w_117 w_2035 (by decide +kernel)) (gk107 hG)) <|
  n_c (s_iastc (s_iastore (pc := 64) (by decide +kernel)) (gk136 hG) (gl136 hG)) <|
  n_c (s_aload_n (pc := 65) (k := 0) (by decide +kernel)) <|
  n_c (s_gRc (s_getR (pc := 66) (ci := 12) (k := 53) (idx := 101) nok12 (by decide) rfl (by decide +kernel) w_1460) (gk107 hG) (gm107_53 hG)) <|
  n_c (s_aload_n (pc := 69) (k := 0) (by decide +kernel)) <|
  n_c (s_gIc (s_getI (pc := 70) (ci := 12) (k := 51) (idx := 440) nok12 (by decide) rfl (by decide +kernel) w_1458) (gk107 hG)) <|
  n_c (s_aload_n (pc := 73) (k := 0) (by decide +kernel)) <|
  n_c (s_iload_n (pc := 74) (k := 1) (by decide +kernel)) <|
  n_c (s_iload_n (pc := 75) (k := 2) (by decide +kernel)) <|
  n_c (s_callVc (s_callV (pc := 76) (csX12_lesser) (by decide) okX12_lesser nok12 w_2041 w_118 w_2039 (by decide +kernel)) (gk107 hG)) <|
  n_c (s_iastc (s_iastore (pc := 79) (by decide +kernel)) (gk137 hG) (gl137 hG)) <|
  n_c (s_aload_n (pc := 80) (k := 0) (by decide +kernel)) <|
  n_c (s_aload_n (pc := 81) (k := 0) (by decide +kernel)) <|
  n_c (s_gIc (s_getI (pc := 82) (ci := 12) (k := 51) (idx := 440) nok12 (by decide) rfl (by decide +kernel) w_1458) (gk107 hG)) <|
  n_c (s_iconst (pc := 85) (n := 1) (by decide +kernel) (by decide +kernel)) <|
  n_c (s_iadd (pc := 86) (by decide +kernel)) <|
  n_c (s_pIc (s_putI (pc := 87) (ci := 12) (k := 51) (idx := 440) nok12 (by decide) rfl rfl (by decide +kernel) w_1458) (gk107 hG)) <|
  n_c (s_aload_n (pc := 90) (k := 0) (by decide +kernel)) <|
  n_c (s_gIc (s_getI (pc := 91) (ci := 12) (k := 51) (idx := 440) nok12 (by decide) rfl (by decide +kernel) w_1458) (gk107 hG)) <|
  n_c (s_iret (pc := 94) rfl (by decide +kernel)) <|
  n_e
def fX12_box (x1 : Int32) (x2 : Int32) (M : nM) : Option (Int32 × nM) :=
  let M1 : nM := n_up M 107 0 (0 : Int32)
  if ¬ x1 = (-1 : Int32) then
    (fX12_isIn x1 (1 : Int32) (30 : Int32) M1).bind fun p2 =>
    if p2.1 = 0 then
      some ((-1 : Int32), p2.2)
    else
      (fX12_isIn x2 (1 : Int32) (30 : Int32) p2.2).bind fun p3 =>
      if p3.1 = 0 then
        some ((-1 : Int32), p3.2)
      else
        if ¬ (p3.2 107 51) = (8 : Int32) then
          (fX12_greater x1 x2 p3.2).bind fun p4 =>
          n_chk (n_ib 8 (p3.2 107 51)) <|
          let M5 : nM := n_up p4.2 136 (p3.2 107 51).toNatClampNeg p4.1
          (fX12_lesser x1 x2 M5).bind fun p6 =>
          n_chk (n_ib 8 (M5 107 51)) <|
          let M7 : nM := n_up p6.2 137 (M5 107 51).toNatClampNeg p6.1
          let M8 : nM := n_up M7 107 51 ((M7 107 51) + (1 : Int32))
          some ((M8 107 51), M8)
        else
          some ((-1 : Int32), p3.2)
  else
    let M9 : nM := n_up M1 107 51 (0 : Int32)
    some ((0 : Int32), M9)
set_option maxRecDepth 200000 in
theorem bX12_box_0 {l : Launch} {w : nW} {G : nG} (hG : n_GOK G) (x1 : Int32) (x2 : Int32) (M : nM) (r : Int32 × nM) (h : fX12_box x1 x2 M = some r) : n_At l w 1 mX12_box 0 [(0, .ref 107), (1, .int x1), (2, .int x2)] [] (G, M) (dv_i r.1, (G, r.2)) :=
  n_seg (fin := n_fin dv_i G) (K := []) 63 (iX12_box hG) n_ke (by rfl) h
theorem eX12_box {l : Launch} {w : nW} {G : nG} (hG : n_GOK G) (z1 : Int32) (z2 : Int32) (M : nM) (r : Int32 × nM) (h : fX12_box z1 z2 M = some r) : n_Met l w 1 mX12_box [.ref 107, .int z1, .int z2] (G, M) (dv_i r.1, (G, r.2)) :=
  n_entry (by decide +kernel) rfl (Nat.le_of_ble_eq_true rfl) (n_sub (lv := [(0, .ref 107), (1, .int z1), (2, .int z2)]) (n_qc rfl (n_qc rfl (n_qc rfl n_qe))) (bX12_box_0 hG z1 z2 M r h))
abbrev hX12_box : nF := fun T as M k => n_pC 107 as (fun as => n_pI as (fun z1 as => n_pI as (fun z2 as => n_pE as ((fX12_box z1 z2 M).bind fun p => k (dv_i p.1) p.2))))
theorem csX12_box {l : Launch} {w : nW} {G : nG} (hG : n_GOK G) : n_CS l w 1 mX12_box G (hX12_box) := fun T as M k r h => by
  obtain ⟨t0, rfl, h1⟩ := n_pC_x h
  obtain ⟨z1, t1, rfl, h2⟩ := n_pI_x h1
  obtain ⟨z2, t2, rfl, h3⟩ := n_pI_x h2
  obtain ⟨rfl, hE⟩ := n_pE_x h3
  obtain ⟨p, hp, hk⟩ := Option.bind_eq_some_iff.mp hE
  exact ⟨_, _, eX12_box hG z1 z2 M p hp, hk⟩
/-! ===== java/util/Arrays.fill([II)V ===== -/
def mJ7_fill_53178 : nY := (RJ7, yJ7_fill_53178, cJ7_fill_53178, 4, none)
theorem okJ7_fill_53178 : n_MOK mJ7_fill_53178 2 := ⟨w_181, w_140, ⟨by decide +kernel, by decide +kernel, by decide +kernel⟩, by decide⟩
abbrev aJ7_fill_53178 (N : Nat) (G : nG) : List (Nat × nO (Unit × nM)) := [(0, o_push (.int (0 : Int32)) 1), (1, o_istore 4 2 2), (2, o_aload 0 3), (3, o_alen G 14 4), (4, o_istore 4 3 5), (5, o_iload 2 6), (6, o_iload 3 7), (7, oc_ge 20 10), (10, o_aload 0 11), (11, o_iload 2 12), (12, o_iload 1 13), (13, o_iastore G 14), (14, o_inc 4 2 (1 : Int32) 17), (17, o_goto 5), (20, o_vret)]
set_option maxRecDepth 200000 in
theorem iJ7_fill_53178 {l : Launch} {w : nW} (N : Nat) {G : nG} : n_AllS l w 0 mJ7_fill_53178 G (n_fin dv_v G) (aJ7_fill_53178 N G) :=
  n_c (s_iconst (pc := 0) (n := 0) (by decide +kernel) (by decide +kernel)) <|
  n_c (s_istore_n (pc := 1) (k := 2) (by decide +kernel)) <|
  n_c (s_aload_n (pc := 2) (k := 0) (by decide +kernel)) <|
  n_c (s_alenI (pc := 3) (by decide +kernel)) <|
  n_c (s_istore_n (pc := 4) (k := 3) (by decide +kernel)) <|
  n_c (s_iload_n (pc := 5) (k := 2) (by decide +kernel)) <|
  n_c (s_iload_n (pc := 6) (k := 3) (by decide +kernel)) <|
  n_c (s_icmp_ge (pc := 7) (off := 13) (by decide +kernel) (by decide +kernel)) <|
  n_c (s_aload_n (pc := 10) (k := 0) (by decide +kernel)) <|
  n_c (s_iload_n (pc := 11) (k := 2) (by decide +kernel)) <|
  n_c (s_iload_n (pc := 12) (k := 1) (by decide +kernel)) <|
  n_c (s_iastore (pc := 13) (by decide +kernel)) <|
  n_c (s_iinc (pc := 14) (n := 1) (by decide +kernel) (by decide +kernel)) <|
  n_c (s_goto (pc := 17) (off := -12) (by decide +kernel) (by decide +kernel)) <|
  n_c (s_vret (pc := 20) rfl (by decide +kernel)) <|
  n_e
def fJ7_fill_53178_5 (N : Nat) (G : nG) : Nat → Nat → Int32 → Int32 → Int32 → nM → Option (Unit × nM)
  | 0, _, _, _, _, _ => none
  | n + 1, x0, x1, x2, x3, M =>
    if x3 ≤ x2 then
      some ((), M)
    else
      n_chk (n_in G 14 x0 x2) <|
      let M1 : nM := n_up M x0 x2.toNatClampNeg x1
      let v2 : Int32 := (x2 + (1 : Int32))
      fJ7_fill_53178_5 N G n x0 x1 v2 x3 M1
set_option maxRecDepth 200000 in
theorem bJ7_fill_53178_5 {l : Launch} {w : nW} (N : Nat) {G : nG} : ∀ (n : Nat) (x0 : Nat) (x1 : Int32) (x2 : Int32) (x3 : Int32) (M : nM) (r : Unit × nM), fJ7_fill_53178_5 N G n x0 x1 x2 x3 M = some r → n_At l w 0 mJ7_fill_53178 5 [(0, .ref x0), (1, .int x1), (2, .int x2), (3, .int x3)] [] (G, M) (dv_v r.1, (G, r.2)) := by
  intro n
  induction n with
  | zero => intro x0 x1 x2 x3 M r h; cases (show (none : Option (Unit × nM)) = some r from h)
  | succ n ih =>
    intro x0 x1 x2 x3 M r h
    exact n_seg (fin := n_fin dv_v G) (K := [(5, fun lv st M => n_lR lv 0 (fun x0 => n_lI lv 1 (fun x1 => n_lI lv 2 (fun x2 => n_lI lv 3 (fun x3 => n_pE st (fJ7_fill_53178_5 N G n x0 x1 x2 x3 M))))))]) 13 (iJ7_fill_53178 N) (n_kc (fun lv st M r h => by
      obtain ⟨x0, e0, h1⟩ := n_lR_x h
      obtain ⟨x1, e1, h2⟩ := n_lI_x h1
      obtain ⟨x2, e2, h3⟩ := n_lI_x h2
      obtain ⟨x3, e3, h4⟩ := n_lI_x h3
      obtain ⟨rfl, h5⟩ := n_pE_x h4
      exact n_sub (n_qc e0 (n_qc e1 (n_qc e2 (n_qc e3 n_qe)))) (ih x0 x1 x2 x3 M r h5)) n_ke) (by rfl) h
def fJ7_fill_53178 (N : Nat) (G : nG) (x0 : Nat) (x1 : Int32) (M : nM) : Option (Unit × nM) :=
  n_chk (Nat.beq (n_kd G x0) 14) <|
  let v1 : Int32 := (Int32.ofNat (n_len G x0))
  fJ7_fill_53178_5 N G N x0 x1 (0 : Int32) v1 M
set_option maxRecDepth 200000 in
theorem bJ7_fill_53178_0 {l : Launch} {w : nW} (N : Nat) {G : nG} (x0 : Nat) (x1 : Int32) (M : nM) (r : Unit × nM) (h : fJ7_fill_53178 N G x0 x1 M = some r) : n_At l w 0 mJ7_fill_53178 0 [(0, .ref x0), (1, .int x1)] [] (G, M) (dv_v r.1, (G, r.2)) :=
  n_seg (fin := n_fin dv_v G) (K := [(5, fun lv st M => n_lR lv 0 (fun x0 => n_lI lv 1 (fun x1 => n_lI lv 2 (fun x2 => n_lI lv 3 (fun x3 => n_pE st (fJ7_fill_53178_5 N G N x0 x1 x2 x3 M))))))]) 8 (iJ7_fill_53178 N) (n_kc (fun lv st M r h => by
      obtain ⟨x0, e0, h1⟩ := n_lR_x h
      obtain ⟨x1, e1, h2⟩ := n_lI_x h1
      obtain ⟨x2, e2, h3⟩ := n_lI_x h2
      obtain ⟨x3, e3, h4⟩ := n_lI_x h3
      obtain ⟨rfl, h5⟩ := n_pE_x h4
      exact n_sub (n_qc e0 (n_qc e1 (n_qc e2 (n_qc e3 n_qe)))) (bJ7_fill_53178_5 N N x0 x1 x2 x3 M r h5)) n_ke) (by rfl) h
theorem eJ7_fill_53178 {l : Launch} {w : nW} (N : Nat) {G : nG} (z0 : Nat) (z1 : Int32) (M : nM) (r : Unit × nM) (h : fJ7_fill_53178 N G z0 z1 M = some r) : n_Met l w 0 mJ7_fill_53178 [.ref z0, .int z1] (G, M) (dv_v r.1, (G, r.2)) :=
  n_entry (by decide +kernel) rfl (Nat.le_of_ble_eq_true rfl) (n_sub (lv := [(0, .ref z0), (1, .int z1)]) (n_qc rfl (n_qc rfl n_qe)) (bJ7_fill_53178_0 N z0 z1 M r h))
abbrev hJ7_fill_53178 (N : Nat) (G : nG) : nF := fun T as M k => n_pR as (fun z0 as => n_pI as (fun z1 as => n_pE as ((fJ7_fill_53178 N G z0 z1 M).bind fun p => k (dv_v p.1) p.2)))
theorem csJ7_fill_53178 {l : Launch} {w : nW} (N : Nat) {G : nG} : n_CS l w 0 mJ7_fill_53178 G (hJ7_fill_53178 N G) := fun T as M k r h => by
  obtain ⟨z0, t0, rfl, h1⟩ := n_pR_x h
  obtain ⟨z1, t1, rfl, h2⟩ := n_pI_x h1
  obtain ⟨rfl, hE⟩ := n_pE_x h2
  obtain ⟨p, hp, hk⟩ := Option.bind_eq_some_iff.mp hE
  exact ⟨_, _, eJ7_fill_53178 N z0 z1 M p hp, hk⟩
/-! ===== SleightHouse$Thought.goesInto(II)Z ===== -/
def mX9_goesInto : nY := (RX9, yX9_goesInto, cX9_goesInto, 3, some .boolean)
theorem okX9_goesInto : n_MOK mX9_goesInto 2 := ⟨w_1184, w_149, ⟨by decide +kernel, by decide +kernel, by decide +kernel⟩, by decide⟩
abbrev aX9_goesInto (G : nG) : List (Nat × nO (Int32 × nM)) := [(0, o_aload 0 1), (1, o_gRc 98 28 4), (4, o_gRc 28 33 7), (7, o_iload 1 8), (8, o_push (.int (0 : Int32)) 9), (9, o_callVc 33 2 (hX7_cell G) 12), (12, o_aload 0 13), (13, o_gRc 98 28 16), (16, o_gRc 28 33 19), (19, o_iload 2 20), (20, o_push (.int (0 : Int32)) 21), (21, o_callVc 33 2 (hX7_cell G) 24), (24, oc_ge 58 27), (27, o_aload 0 28), (28, o_gRc 98 28 31), (31, o_gRc 28 33 34), (34, o_iload 1 35), (35, o_push (.int (1 : Int32)) 36), (36, o_callVc 33 2 (hX7_cell G) 39), (39, o_aload 0 40), (40, o_gRc 98 28 43), (43, o_gRc 28 33 46), (46, o_iload 2 47), (47, o_push (.int (1 : Int32)) 48), (48, o_callVc 33 2 (hX7_cell G) 51), (51, oc_ge 58 54), (54, o_push (.int (1 : Int32)) 55), (55, o_goto 59), (58, o_push (.int (0 : Int32)) 59), (59, o_zret)]
set_option maxRecDepth 200000 in
theorem iX9_goesInto {l : Launch} {w : nW} {G : nG} (hG : n_GOK G) : n_AllS l w 1 mX9_goesInto G (n_fin dv_i G) (aX9_goesInto G) :=
  n_c (s_aload_n (pc := 0) (k := 0) (by decide +kernel)) <|
  n_c (s_gRc (s_getR (pc := 1) (ci := 9) (k := 0) (idx := 18) nok9 (by decide) rfl (by decide +kernel) w_537) (gk98 hG) (gm98_0 hG)) <|
  n_c (s_gRc (s_getR (pc := 4) (ci := 10) (k := 2) (idx := 59) nok10 (by decide) rfl (by decide +kernel) w_364) (gk28 hG) (gm28_2 hG)) <|
  n_c (s_iload_n (pc := 7) (k := 1) (by decide +kernel)) <|
  n_c (s_iconst (pc := 8) (n := 0) (by decide +kernel) (by decide +kernel)) <|
  n_c (s_callVc (s_callV (pc := 9) (csX7_cell) (by decide) okX7_cell nok7 w_786 w_787 w_1145 (by decide +kernel)) (gk33 hG)) <|
  n_c (s_aload_n (pc := 12) (k := 0) (by decide +kernel)) <|
  n_c (s_gRc (s_getR (pc := 13) (ci := 9) (k := 0) (idx := 18) nok9 (by decide) rfl (by decide +kernel) w_537) (gk98 hG) (gm98_0 hG)) <|
  n_c (s_gRc (s_getR (pc := 16) (ci := 10) (k := 2) (idx := 59) nok10 (by decide) rfl (by decide +kernel) w_364) (gk28 hG) (gm28_2 hG)) <|
  n_c (s_iload_n (pc := 19) (k := 2) (by decide +kernel)) <|
  n_c (s_iconst (pc := 20) (n := 0) (by decide +kernel) (by decide +kernel)) <|
  n_c (s_callVc (s_callV (pc := 21) (csX7_cell) (by decide) okX7_cell nok7 w_786 w_787 w_1145 (by decide +kernel)) (gk33 hG)) <|
  n_c (s_icmp_ge (pc := 24) (off := 34) (by decide +kernel) (by decide +kernel)) <|
  n_c (s_aload_n (pc := 27) (k := 0) (by decide +kernel)) <|
  n_c (s_gRc (s_getR (pc := 28) (ci := 9) (k := 0) (idx := 18) nok9 (by decide) rfl (by decide +kernel) w_537) (gk98 hG) (gm98_0 hG)) <|
  n_c (s_gRc (s_getR (pc := 31) (ci := 10) (k := 2) (idx := 59) nok10 (by decide) rfl (by decide +kernel) w_364) (gk28 hG) (gm28_2 hG)) <|
  n_c (s_iload_n (pc := 34) (k := 1) (by decide +kernel)) <|
  n_c (s_iconst (pc := 35) (n := 1) (by decide +kernel) (by decide +kernel)) <|
  n_c (s_callVc (s_callV (pc := 36) (csX7_cell) (by decide) okX7_cell nok7 w_786 w_787 w_1145 (by decide +kernel)) (gk33 hG)) <|
  n_c (s_aload_n (pc := 39) (k := 0) (by decide +kernel)) <|
  n_c (s_gRc (s_getR (pc := 40) (ci := 9) (k := 0) (idx := 18) nok9 (by decide) rfl (by decide +kernel) w_537) (gk98 hG) (gm98_0 hG)) <|
  n_c (s_gRc (s_getR (pc := 43) (ci := 10) (k := 2) (idx := 59) nok10 (by decide) rfl (by decide +kernel) w_364) (gk28 hG) (gm28_2 hG)) <|
  n_c (s_iload_n (pc := 46) (k := 2) (by decide +kernel)) <|
  n_c (s_iconst (pc := 47) (n := 1) (by decide +kernel) (by decide +kernel)) <|
  n_c (s_callVc (s_callV (pc := 48) (csX7_cell) (by decide) okX7_cell nok7 w_786 w_787 w_1145 (by decide +kernel)) (gk33 hG)) <|
  n_c (s_icmp_ge (pc := 51) (off := 7) (by decide +kernel) (by decide +kernel)) <|
  n_c (s_iconst (pc := 54) (n := 1) (by decide +kernel) (by decide +kernel)) <|
  n_c (s_goto (pc := 55) (off := 4) (by decide +kernel) (by decide +kernel)) <|
  n_c (s_iconst (pc := 58) (n := 0) (by decide +kernel) (by decide +kernel)) <|
  n_c (s_zret (pc := 59) rfl (by decide +kernel)) <|
  n_e
def fX9_goesInto (G : nG) (x1 : Int32) (x2 : Int32) (M : nM) : Option (Int32 × nM) :=
  (fX7_cell G 33 x1 (0 : Int32) M).bind fun p1 =>
  (fX7_cell G 33 x2 (0 : Int32) p1.2).bind fun p2 =>
  if p2.1 ≤ p1.1 then
    some ((0 : Int32), p2.2)
  else
    (fX7_cell G 33 x1 (1 : Int32) p2.2).bind fun p3 =>
    (fX7_cell G 33 x2 (1 : Int32) p3.2).bind fun p4 =>
    if p4.1 ≤ p3.1 then
      some ((0 : Int32), p4.2)
    else
      some ((1 : Int32), p4.2)
set_option maxRecDepth 200000 in
theorem bX9_goesInto_0 {l : Launch} {w : nW} {G : nG} (hG : n_GOK G) (x1 : Int32) (x2 : Int32) (M : nM) (r : Int32 × nM) (h : fX9_goesInto G x1 x2 M = some r) : n_At l w 1 mX9_goesInto 0 [(0, .ref 98), (1, .int x1), (2, .int x2)] [] (G, M) (dv_i r.1, (G, r.2)) :=
  n_seg (fin := n_fin dv_i G) (K := []) 36 (iX9_goesInto hG) n_ke (by rfl) h
theorem eX9_goesInto {l : Launch} {w : nW} {G : nG} (hG : n_GOK G) (z1 : Int32) (z2 : Int32) (M : nM) (r : Int32 × nM) (h : fX9_goesInto G z1 z2 M = some r) : n_Met l w 1 mX9_goesInto [.ref 98, .int z1, .int z2] (G, M) (dv_i r.1, (G, r.2)) :=
  n_entry (by decide +kernel) rfl (Nat.le_of_ble_eq_true rfl) (n_sub (lv := [(0, .ref 98), (1, .int z1), (2, .int z2)]) (n_qc rfl (n_qc rfl (n_qc rfl n_qe))) (bX9_goesInto_0 hG z1 z2 M r h))
abbrev hX9_goesInto (G : nG) : nF := fun T as M k => n_pC 98 as (fun as => n_pI as (fun z1 as => n_pI as (fun z2 as => n_pE as ((fX9_goesInto G z1 z2 M).bind fun p => k (dv_i p.1) p.2))))
theorem csX9_goesInto {l : Launch} {w : nW} {G : nG} (hG : n_GOK G) : n_CS l w 1 mX9_goesInto G (hX9_goesInto G) := fun T as M k r h => by
  obtain ⟨t0, rfl, h1⟩ := n_pC_x h
  obtain ⟨z1, t1, rfl, h2⟩ := n_pI_x h1
  obtain ⟨z2, t2, rfl, h3⟩ := n_pI_x h2
  obtain ⟨rfl, hE⟩ := n_pE_x h3
  obtain ⟨p, hp, hk⟩ := Option.bind_eq_some_iff.mp hE
  exact ⟨_, _, eX9_goesInto hG z1 z2 M p hp, hk⟩
/-! ===== SleightHouse$Thought.nested(Z)I ===== -/
def mX9_nested : nY := (RX9, yX9_nested, cX9_nested, 7, some .int)
theorem okX9_nested : n_MOK mX9_nested 1 := ⟨w_1179, w_149, ⟨by decide +kernel, by decide +kernel, by decide +kernel⟩, by decide⟩
abbrev aX9_nested (N : Nat) (G : nG) : List (Nat × nO (Int32 × nM)) := [(0, o_aload 0 1), (1, o_gRc 98 28 4), (4, o_gRc 28 33 7), (7, o_gIc 33 3 10), (10, o_istore 7 2 11), (11, o_aload 0 12), (12, o_gRc 98 99 15), (15, o_push (.int (1 : Int32)) 16), (16, o_call 2 (hJ7_fill_53178 N G) 19), (19, o_push (.int (0 : Int32)) 20), (20, o_istore 7 3 21), (21, o_iload 3 22), (22, o_iload 2 23), (23, oc_ge 98 26), (26, o_push (.int (0 : Int32)) 27), (27, o_istore 7 4 29), (29, o_iload 4 31), (31, o_iload 2 32), (32, o_iload 2 33), (33, o_imul 34), (34, oc_ge 92 37), (37, o_iload 4 39), (39, o_iload 2 40), (40, o_idiv 41), (41, o_istore 7 5 43), (43, o_iload 4 45), (45, o_iload 2 46), (46, o_irem 47), (47, o_istore 7 6 49), (49, o_aload 0 50), (50, o_iload 6 52), (52, o_iload 5 54), (54, o_callVc 98 2 (hX9_goesInto G) 57), (57, oi_eq 86 60), (60, o_aload 0 61), (61, o_gRc 98 99 64), (64, o_iload 5 66), (66, o_aload 0 67), (67, o_gRc 98 99 70), (70, o_iload 5 72), (72, o_aldc 99 256 73), (73, o_aload 0 74), (74, o_gRc 98 99 77), (77, o_iload 6 79), (79, o_aldc 99 256 80), (80, o_push (.int (1 : Int32)) 81), (81, o_iadd 82), (82, o_mmax 85), (85, o_iastc 99 256 86), (86, o_inc 7 4 (1 : Int32) 89), (89, o_goto 29), (92, o_inc 7 3 (1 : Int32) 95), (95, o_goto 21), (98, o_push (.int (-1 : Int32)) 99), (99, o_istore 7 3 100), (100, o_push (.int (0 : Int32)) 101), (101, o_istore 7 4 103), (103, o_iload 4 105), (105, o_iload 2 106), (106, oc_ge 139 109), (109, o_iload 3 110), (110, o_push (.int (-1 : Int32)) 111), (111, oc_eq 130 114), (114, o_aload 0 115), (115, o_gRc 98 99 118), (118, o_iload 4 120), (120, o_aldc 99 256 121), (121, o_aload 0 122), (122, o_gRc 98 99 125), (125, o_iload 3 126), (126, o_aldc 99 256 127), (127, oc_le 133 130), (130, o_iload 4 132), (132, o_istore 7 3 133), (133, o_inc 7 4 (1 : Int32) 136), (136, o_goto 103), (139, o_iload 1 140), (140, oi_eq 145 143), (143, o_iload 3 144), (144, o_iret), (145, o_iload 3 146), (146, o_push (.int (-1 : Int32)) 147), (147, oc_ne 154 150), (150, o_push (.int (0 : Int32)) 151), (151, o_goto 160), (154, o_aload 0 155), (155, o_gRc 98 99 158), (158, o_iload 3 159), (159, o_aldc 99 256 160), (160, o_iret)]
set_option maxRecDepth 200000 in
theorem iX9_nested {l : Launch} {w : nW} (N : Nat) {G : nG} (hG : n_GOK G) : n_AllS l w 2 mX9_nested G (n_fin dv_i G) (aX9_nested N G) :=
  n_c (s_aload_n (pc := 0) (k := 0) (by decide +kernel)) <|
  n_c (s_gRc (s_getR (pc := 1) (ci := 9) (k := 0) (idx := 18) nok9 (by decide) rfl (by decide +kernel) w_537) (gk98 hG) (gm98_0 hG)) <|
  n_c (s_gRc (s_getR (pc := 4) (ci := 10) (k := 2) (idx := 59) nok10 (by decide) rfl (by decide +kernel) w_364) (gk28 hG) (gm28_2 hG)) <|
  n_c (s_gIc (s_getI (pc := 7) (ci := 7) (k := 3) (idx := 28) nok7 (by decide) rfl (by decide +kernel) w_304) (gk33 hG)) <|
  n_c (s_istore_n (pc := 10) (k := 2) (by decide +kernel)) <|
  n_c (s_aload_n (pc := 11) (k := 0) (by decide +kernel)) <|
  n_c (s_gRc (s_getR (pc := 12) (ci := 9) (k := 1) (idx := 9) nok9 (by decide) rfl (by decide +kernel) w_538) (gk98 hG) (gm98_1 hG)) <|
  n_c (s_iconst (pc := 15) (n := 1) (by decide +kernel) (by decide +kernel)) <|
  n_c (s_callS (pc := 16) (csJ7_fill_53178 N) (by decide) okJ7_fill_53178 w_180 w_1180 (by decide +kernel)) <|
  n_c (s_iconst (pc := 19) (n := 0) (by decide +kernel) (by decide +kernel)) <|
  n_c (s_istore_n (pc := 20) (k := 3) (by decide +kernel)) <|
  n_c (s_iload_n (pc := 21) (k := 3) (by decide +kernel)) <|
  n_c (s_iload_n (pc := 22) (k := 2) (by decide +kernel)) <|
  n_c (s_icmp_ge (pc := 23) (off := 75) (by decide +kernel) (by decide +kernel)) <|
  n_c (s_iconst (pc := 26) (n := 0) (by decide +kernel) (by decide +kernel)) <|
  n_c (s_istore (pc := 27) (by decide +kernel)) <|
  n_c (s_iload (pc := 29) (by decide +kernel)) <|
  n_c (s_iload_n (pc := 31) (k := 2) (by decide +kernel)) <|
  n_c (s_iload_n (pc := 32) (k := 2) (by decide +kernel)) <|
  n_c (s_imul (pc := 33) (by decide +kernel)) <|
  n_c (s_icmp_ge (pc := 34) (off := 58) (by decide +kernel) (by decide +kernel)) <|
  n_c (s_iload (pc := 37) (by decide +kernel)) <|
  n_c (s_iload_n (pc := 39) (k := 2) (by decide +kernel)) <|
  n_c (s_idiv (pc := 40) (by decide +kernel)) <|
  n_c (s_istore (pc := 41) (by decide +kernel)) <|
  n_c (s_iload (pc := 43) (by decide +kernel)) <|
  n_c (s_iload_n (pc := 45) (k := 2) (by decide +kernel)) <|
  n_c (s_irem (pc := 46) (by decide +kernel)) <|
  n_c (s_istore (pc := 47) (by decide +kernel)) <|
  n_c (s_aload_n (pc := 49) (k := 0) (by decide +kernel)) <|
  n_c (s_iload (pc := 50) (by decide +kernel)) <|
  n_c (s_iload (pc := 52) (by decide +kernel)) <|
  n_c (s_callVc (s_callV (pc := 54) (csX9_goesInto hG) (by decide) okX9_goesInto nok9 w_1183 w_34 w_1181 (by decide +kernel)) (gk98 hG)) <|
  n_c (s_if_eq (pc := 57) (off := 29) (by decide +kernel) (by decide +kernel)) <|
  n_c (s_aload_n (pc := 60) (k := 0) (by decide +kernel)) <|
  n_c (s_gRc (s_getR (pc := 61) (ci := 9) (k := 1) (idx := 9) nok9 (by decide) rfl (by decide +kernel) w_538) (gk98 hG) (gm98_1 hG)) <|
  n_c (s_iload (pc := 64) (by decide +kernel)) <|
  n_c (s_aload_n (pc := 66) (k := 0) (by decide +kernel)) <|
  n_c (s_gRc (s_getR (pc := 67) (ci := 9) (k := 1) (idx := 9) nok9 (by decide) rfl (by decide +kernel) w_538) (gk98 hG) (gm98_1 hG)) <|
  n_c (s_iload (pc := 70) (by decide +kernel)) <|
  n_c (s_aldc (s_iaload (pc := 72) (by decide +kernel)) (gk99 hG) (gl99 hG)) <|
  n_c (s_aload_n (pc := 73) (k := 0) (by decide +kernel)) <|
  n_c (s_gRc (s_getR (pc := 74) (ci := 9) (k := 1) (idx := 9) nok9 (by decide) rfl (by decide +kernel) w_538) (gk98 hG) (gm98_1 hG)) <|
  n_c (s_iload (pc := 77) (by decide +kernel)) <|
  n_c (s_aldc (s_iaload (pc := 79) (by decide +kernel)) (gk99 hG) (gl99 hG)) <|
  n_c (s_iconst (pc := 80) (n := 1) (by decide +kernel) (by decide +kernel)) <|
  n_c (s_iadd (pc := 81) (by decide +kernel)) <|
  n_c (s_mmax (pc := 82) w_1185 w_295 w_143 w_296 (by decide +kernel)) <|
  n_c (s_iastc (s_iastore (pc := 85) (by decide +kernel)) (gk99 hG) (gl99 hG)) <|
  n_c (s_iinc (pc := 86) (n := 1) (by decide +kernel) (by decide +kernel)) <|
  n_c (s_goto (pc := 89) (off := -60) (by decide +kernel) (by decide +kernel)) <|
  n_c (s_iinc (pc := 92) (n := 1) (by decide +kernel) (by decide +kernel)) <|
  n_c (s_goto (pc := 95) (off := -74) (by decide +kernel) (by decide +kernel)) <|
  n_c (s_iconst (pc := 98) (n := -1) (by decide +kernel) (by decide +kernel)) <|
  n_c (s_istore_n (pc := 99) (k := 3) (by decide +kernel)) <|
  n_c (s_iconst (pc := 100) (n := 0) (by decide +kernel) (by decide +kernel)) <|
  n_c (s_istore (pc := 101) (by decide +kernel)) <|
  n_c (s_iload (pc := 103) (by decide +kernel)) <|
  n_c (s_iload_n (pc := 105) (k := 2) (by decide +kernel)) <|
  n_c (s_icmp_ge (pc := 106) (off := 33) (by decide +kernel) (by decide +kernel)) <|
  n_c (s_iload_n (pc := 109) (k := 3) (by decide +kernel)) <|
  n_c (s_iconst (pc := 110) (n := -1) (by decide +kernel) (by decide +kernel)) <|
  n_c (s_icmp_eq (pc := 111) (off := 19) (by decide +kernel) (by decide +kernel)) <|
  n_c (s_aload_n (pc := 114) (k := 0) (by decide +kernel)) <|
  n_c (s_gRc (s_getR (pc := 115) (ci := 9) (k := 1) (idx := 9) nok9 (by decide) rfl (by decide +kernel) w_538) (gk98 hG) (gm98_1 hG)) <|
  n_c (s_iload (pc := 118) (by decide +kernel)) <|
  n_c (s_aldc (s_iaload (pc := 120) (by decide +kernel)) (gk99 hG) (gl99 hG)) <|
  n_c (s_aload_n (pc := 121) (k := 0) (by decide +kernel)) <|
  n_c (s_gRc (s_getR (pc := 122) (ci := 9) (k := 1) (idx := 9) nok9 (by decide) rfl (by decide +kernel) w_538) (gk98 hG) (gm98_1 hG)) <|
  n_c (s_iload_n (pc := 125) (k := 3) (by decide +kernel)) <|
  n_c (s_aldc (s_iaload (pc := 126) (by decide +kernel)) (gk99 hG) (gl99 hG)) <|
  n_c (s_icmp_le (pc := 127) (off := 6) (by decide +kernel) (by decide +kernel)) <|
  n_c (s_iload (pc := 130) (by decide +kernel)) <|
  n_c (s_istore_n (pc := 132) (k := 3) (by decide +kernel)) <|
  n_c (s_iinc (pc := 133) (n := 1) (by decide +kernel) (by decide +kernel)) <|
  n_c (s_goto (pc := 136) (off := -33) (by decide +kernel) (by decide +kernel)) <|
  n_c (s_iload_n (pc := 139) (k := 1) (by decide +kernel)) <|
  n_c (s_if_eq (pc := 140) (off := 5) (by decide +kernel) (by decide +kernel)) <|
  n_c (s_iload_n (pc := 143) (k := 3) (by decide +kernel)) <|
  n_c (s_iret (pc := 144) rfl (by decide +kernel)) <|
  n_c (s_iload_n (pc := 145) (k := 3) (by decide +kernel)) <|
  n_c (s_iconst (pc := 146) (n := -1) (by decide +kernel) (by decide +kernel)) <|
  n_c (s_icmp_ne (pc := 147) (off := 7) (by decide +kernel) (by decide +kernel)) <|
  n_c (s_iconst (pc := 150) (n := 0) (by decide +kernel) (by decide +kernel)) <|
  n_c (s_goto (pc := 151) (off := 9) (by decide +kernel) (by decide +kernel)) <|
  n_c (s_aload_n (pc := 154) (k := 0) (by decide +kernel)) <|
  n_c (s_gRc (s_getR (pc := 155) (ci := 9) (k := 1) (idx := 9) nok9 (by decide) rfl (by decide +kernel) w_538) (gk98 hG) (gm98_1 hG)) <|
  n_c (s_iload_n (pc := 158) (k := 3) (by decide +kernel)) <|
  n_c (s_aldc (s_iaload (pc := 159) (by decide +kernel)) (gk99 hG) (gl99 hG)) <|
  n_c (s_iret (pc := 160) rfl (by decide +kernel)) <|
  n_e
def fX9_nested_29 (N : Nat) (G : nG) (k21 : Int32 → Int32 → Int32 → nM → Option (Int32 × nM)) : Nat → Int32 → Int32 → Int32 → Int32 → nM → Option (Int32 × nM)
  | 0, _, _, _, _, _ => none
  | n + 1, x1, x2, x3, x4, M =>
    if (x2 * x2) ≤ x4 then
      let v1 : Int32 := (x3 + (1 : Int32))
      k21 x1 x2 v1 M
    else
      if x2 = 0 then none else
      let v2 : Int32 := (x4 / x2)
      if x2 = 0 then none else
      let v3 : Int32 := (x4 - x4 / x2 * x2)
      (fX9_goesInto G v3 v2 M).bind fun p4 =>
      if p4.1 = 0 then
        let v5 : Int32 := (x4 + (1 : Int32))
        fX9_nested_29 N G k21 n x1 x2 x3 v5 p4.2
      else
        n_chk (n_ib 256 v2) <|
        n_chk (n_ib 256 v3) <|
        n_chk (n_ib 256 v2) <|
        let M6 : nM := n_up p4.2 99 v2.toNatClampNeg (if (p4.2 99 v2.toNatClampNeg) < ((p4.2 99 v3.toNatClampNeg) + (1 : Int32)) then ((p4.2 99 v3.toNatClampNeg) + (1 : Int32)) else (p4.2 99 v2.toNatClampNeg))
        let v7 : Int32 := (x4 + (1 : Int32))
        fX9_nested_29 N G k21 n x1 x2 x3 v7 M6
set_option maxRecDepth 200000 in
theorem bX9_nested_29 {l : Launch} {w : nW} (N : Nat) {G : nG} (hG : n_GOK G) (k21 : Int32 → Int32 → Int32 → nM → Option (Int32 × nM)) (hk21 : ∀ (x1 : Int32) (x2 : Int32) (x3 : Int32) (M : nM) (r : Int32 × nM), k21 x1 x2 x3 M = some r → n_At l w 2 mX9_nested 21 [(0, .ref 98), (1, .int x1), (2, .int x2), (3, .int x3)] [] (G, M) (dv_i r.1, (G, r.2))) : ∀ (n : Nat) (x1 : Int32) (x2 : Int32) (x3 : Int32) (x4 : Int32) (M : nM) (r : Int32 × nM), fX9_nested_29 N G k21 n x1 x2 x3 x4 M = some r → n_At l w 2 mX9_nested 29 [(0, .ref 98), (1, .int x1), (2, .int x2), (3, .int x3), (4, .int x4)] [] (G, M) (dv_i r.1, (G, r.2)) := by
  intro n
  induction n with
  | zero => intro x1 x2 x3 x4 M r h; cases (show (none : Option (Int32 × nM)) = some r from h)
  | succ n ih =>
    intro x1 x2 x3 x4 M r h
    exact n_seg (fin := n_fin dv_i G) (K := [(21, fun lv st M => n_lC 98 lv 0 (n_lI lv 1 (fun x1 => n_lI lv 2 (fun x2 => n_lI lv 3 (fun x3 => n_pE st (k21 x1 x2 x3 M)))))), (29, fun lv st M => n_lC 98 lv 0 (n_lI lv 1 (fun x1 => n_lI lv 2 (fun x2 => n_lI lv 3 (fun x3 => n_lI lv 4 (fun x4 => n_pE st (fX9_nested_29 N G k21 n x1 x2 x3 x4 M)))))))]) 42 (iX9_nested N hG) (n_kc (fun lv st M r h => by
      obtain ⟨e0, h1⟩ := n_lC_x h
      obtain ⟨x1, e1, h2⟩ := n_lI_x h1
      obtain ⟨x2, e2, h3⟩ := n_lI_x h2
      obtain ⟨x3, e3, h4⟩ := n_lI_x h3
      obtain ⟨rfl, h5⟩ := n_pE_x h4
      exact n_sub (n_qc e0 (n_qc e1 (n_qc e2 (n_qc e3 n_qe)))) (hk21 x1 x2 x3 M r h5)) (n_kc (fun lv st M r h => by
      obtain ⟨e0, h1⟩ := n_lC_x h
      obtain ⟨x1, e1, h2⟩ := n_lI_x h1
      obtain ⟨x2, e2, h3⟩ := n_lI_x h2
      obtain ⟨x3, e3, h4⟩ := n_lI_x h3
      obtain ⟨x4, e4, h5⟩ := n_lI_x h4
      obtain ⟨rfl, h6⟩ := n_pE_x h5
      exact n_sub (n_qc e0 (n_qc e1 (n_qc e2 (n_qc e3 (n_qc e4 n_qe))))) (ih x1 x2 x3 x4 M r h6)) n_ke)) (by rfl) h
def fX9_nested_103 (N : Nat) (G : nG) : Nat → Int32 → Int32 → Int32 → Int32 → nM → Option (Int32 × nM)
  | 0, _, _, _, _, _ => none
  | n + 1, x1, x2, x3, x4, M =>
    if x2 ≤ x4 then
      if x1 = 0 then
        if ¬ x3 = (-1 : Int32) then
          n_chk (n_ib 256 x3) <|
          some ((M 99 x3.toNatClampNeg), M)
        else
          some ((0 : Int32), M)
      else
        some (x3, M)
    else
      if x3 = (-1 : Int32) then
        let v1 : Int32 := (x4 + (1 : Int32))
        fX9_nested_103 N G n x1 x2 x4 v1 M
      else
        n_chk (n_ib 256 x4) <|
        n_chk (n_ib 256 x3) <|
        if (M 99 x4.toNatClampNeg) ≤ (M 99 x3.toNatClampNeg) then
          let v2 : Int32 := (x4 + (1 : Int32))
          fX9_nested_103 N G n x1 x2 x3 v2 M
        else
          let v3 : Int32 := (x4 + (1 : Int32))
          fX9_nested_103 N G n x1 x2 x4 v3 M
set_option maxRecDepth 200000 in
theorem bX9_nested_103 {l : Launch} {w : nW} (N : Nat) {G : nG} (hG : n_GOK G) : ∀ (n : Nat) (x1 : Int32) (x2 : Int32) (x3 : Int32) (x4 : Int32) (M : nM) (r : Int32 × nM), fX9_nested_103 N G n x1 x2 x3 x4 M = some r → n_At l w 2 mX9_nested 103 [(0, .ref 98), (1, .int x1), (2, .int x2), (3, .int x3), (4, .int x4)] [] (G, M) (dv_i r.1, (G, r.2)) := by
  intro n
  induction n with
  | zero => intro x1 x2 x3 x4 M r h; cases (show (none : Option (Int32 × nM)) = some r from h)
  | succ n ih =>
    intro x1 x2 x3 x4 M r h
    exact n_seg (fin := n_fin dv_i G) (K := [(103, fun lv st M => n_lC 98 lv 0 (n_lI lv 1 (fun x1 => n_lI lv 2 (fun x2 => n_lI lv 3 (fun x3 => n_lI lv 4 (fun x4 => n_pE st (fX9_nested_103 N G n x1 x2 x3 x4 M)))))))]) 43 (iX9_nested N hG) (n_kc (fun lv st M r h => by
      obtain ⟨e0, h1⟩ := n_lC_x h
      obtain ⟨x1, e1, h2⟩ := n_lI_x h1
      obtain ⟨x2, e2, h3⟩ := n_lI_x h2
      obtain ⟨x3, e3, h4⟩ := n_lI_x h3
      obtain ⟨x4, e4, h5⟩ := n_lI_x h4
      obtain ⟨rfl, h6⟩ := n_pE_x h5
      exact n_sub (n_qc e0 (n_qc e1 (n_qc e2 (n_qc e3 (n_qc e4 n_qe))))) (ih x1 x2 x3 x4 M r h6)) n_ke) (by rfl) h
def fX9_nested_21 (N : Nat) (G : nG) : Nat → Int32 → Int32 → Int32 → nM → Option (Int32 × nM)
  | 0, _, _, _, _ => none
  | n + 1, x1, x2, x3, M =>
    if x2 ≤ x3 then
      fX9_nested_103 N G N x1 x2 (-1 : Int32) (0 : Int32) M
    else
      fX9_nested_29 N G (fun x1 x2 x3 M => fX9_nested_21 N G n x1 x2 x3 M) N x1 x2 x3 (0 : Int32) M
set_option maxRecDepth 200000 in
theorem bX9_nested_21 {l : Launch} {w : nW} (N : Nat) {G : nG} (hG : n_GOK G) : ∀ (n : Nat) (x1 : Int32) (x2 : Int32) (x3 : Int32) (M : nM) (r : Int32 × nM), fX9_nested_21 N G n x1 x2 x3 M = some r → n_At l w 2 mX9_nested 21 [(0, .ref 98), (1, .int x1), (2, .int x2), (3, .int x3)] [] (G, M) (dv_i r.1, (G, r.2)) := by
  intro n
  induction n with
  | zero => intro x1 x2 x3 M r h; cases (show (none : Option (Int32 × nM)) = some r from h)
  | succ n ih =>
    intro x1 x2 x3 M r h
    exact n_seg (fin := n_fin dv_i G) (K := [(29, fun lv st M => n_lC 98 lv 0 (n_lI lv 1 (fun x1 => n_lI lv 2 (fun x2 => n_lI lv 3 (fun x3 => n_lI lv 4 (fun x4 => n_pE st (fX9_nested_29 N G (fun x1 x2 x3 M => fX9_nested_21 N G n x1 x2 x3 M) N x1 x2 x3 x4 M))))))), (103, fun lv st M => n_lC 98 lv 0 (n_lI lv 1 (fun x1 => n_lI lv 2 (fun x2 => n_lI lv 3 (fun x3 => n_lI lv 4 (fun x4 => n_pE st (fX9_nested_103 N G N x1 x2 x3 x4 M)))))))]) 12 (iX9_nested N hG) (n_kc (fun lv st M r h => by
      obtain ⟨e0, h1⟩ := n_lC_x h
      obtain ⟨x1, e1, h2⟩ := n_lI_x h1
      obtain ⟨x2, e2, h3⟩ := n_lI_x h2
      obtain ⟨x3, e3, h4⟩ := n_lI_x h3
      obtain ⟨x4, e4, h5⟩ := n_lI_x h4
      obtain ⟨rfl, h6⟩ := n_pE_x h5
      exact n_sub (n_qc e0 (n_qc e1 (n_qc e2 (n_qc e3 (n_qc e4 n_qe))))) (bX9_nested_29 N hG (fun x1 x2 x3 M => fX9_nested_21 N G n x1 x2 x3 M) ih N x1 x2 x3 x4 M r h6)) (n_kc (fun lv st M r h => by
      obtain ⟨e0, h1⟩ := n_lC_x h
      obtain ⟨x1, e1, h2⟩ := n_lI_x h1
      obtain ⟨x2, e2, h3⟩ := n_lI_x h2
      obtain ⟨x3, e3, h4⟩ := n_lI_x h3
      obtain ⟨x4, e4, h5⟩ := n_lI_x h4
      obtain ⟨rfl, h6⟩ := n_pE_x h5
      exact n_sub (n_qc e0 (n_qc e1 (n_qc e2 (n_qc e3 (n_qc e4 n_qe))))) (bX9_nested_103 N hG N x1 x2 x3 x4 M r h6)) n_ke)) (by rfl) h
def fX9_nested (N : Nat) (G : nG) (x1 : Int32) (M : nM) : Option (Int32 × nM) :=
  let v1 : Int32 := (M 33 3)
  (fJ7_fill_53178 N G 99 (1 : Int32) M).bind fun p2 =>
  fX9_nested_21 N G N x1 v1 (0 : Int32) p2.2
set_option maxRecDepth 200000 in
theorem bX9_nested_0 {l : Launch} {w : nW} (N : Nat) {G : nG} (hG : n_GOK G) (x1 : Int32) (M : nM) (r : Int32 × nM) (h : fX9_nested N G x1 M = some r) : n_At l w 2 mX9_nested 0 [(0, .ref 98), (1, .int x1)] [] (G, M) (dv_i r.1, (G, r.2)) :=
  n_seg (fin := n_fin dv_i G) (K := [(21, fun lv st M => n_lC 98 lv 0 (n_lI lv 1 (fun x1 => n_lI lv 2 (fun x2 => n_lI lv 3 (fun x3 => n_pE st (fX9_nested_21 N G N x1 x2 x3 M))))))]) 14 (iX9_nested N hG) (n_kc (fun lv st M r h => by
      obtain ⟨e0, h1⟩ := n_lC_x h
      obtain ⟨x1, e1, h2⟩ := n_lI_x h1
      obtain ⟨x2, e2, h3⟩ := n_lI_x h2
      obtain ⟨x3, e3, h4⟩ := n_lI_x h3
      obtain ⟨rfl, h5⟩ := n_pE_x h4
      exact n_sub (n_qc e0 (n_qc e1 (n_qc e2 (n_qc e3 n_qe)))) (bX9_nested_21 N hG N x1 x2 x3 M r h5)) n_ke) (by rfl) h
theorem eX9_nested {l : Launch} {w : nW} (N : Nat) {G : nG} (hG : n_GOK G) (z1 : Int32) (M : nM) (r : Int32 × nM) (h : fX9_nested N G z1 M = some r) : n_Met l w 2 mX9_nested [.ref 98, .int z1] (G, M) (dv_i r.1, (G, r.2)) :=
  n_entry (by decide +kernel) rfl (Nat.le_of_ble_eq_true rfl) (n_sub (lv := [(0, .ref 98), (1, .int z1)]) (n_qc rfl (n_qc rfl n_qe)) (bX9_nested_0 N hG z1 M r h))
abbrev hX9_nested (N : Nat) (G : nG) : nF := fun T as M k => n_pC 98 as (fun as => n_pI as (fun z1 as => n_pE as ((fX9_nested N G z1 M).bind fun p => k (dv_i p.1) p.2)))
theorem csX9_nested {l : Launch} {w : nW} (N : Nat) {G : nG} (hG : n_GOK G) : n_CS l w 2 mX9_nested G (hX9_nested N G) := fun T as M k r h => by
  obtain ⟨t0, rfl, h1⟩ := n_pC_x h
  obtain ⟨z1, t1, rfl, h2⟩ := n_pI_x h1
  obtain ⟨rfl, hE⟩ := n_pE_x h2
  obtain ⟨p, hp, hk⟩ := Option.bind_eq_some_iff.mp hE
  exact ⟨_, _, eX9_nested N hG z1 M p hp, hk⟩
/-! ===== SleightHouse.boxes(I)I ===== -/
def mX11_boxes : nY := (RX11, yX11_boxes, cX11_boxes, 2, some .int)
theorem okX11_boxes : n_MOK mX11_boxes 1 := ⟨w_1175, w_137, ⟨by decide +kernel, by decide +kernel, by decide +kernel⟩, by decide⟩
abbrev aX11_boxes (N : Nat) (G : nG) : List (Nat × nO (Int32 × nM)) := [(0, o_iload 1 1), (1, o_push (.int (0 : Int32)) 2), (2, o_push (.int (1 : Int32)) 3), (3, o_call 3 (hX11_within) 6), (6, oi_eq 29 9), (9, o_aload 0 10), (10, o_gRc 1 98 13), (13, o_iload 1 14), (14, o_push (.int (1 : Int32)) 15), (15, oc_ne 22 18), (18, o_push (.int (1 : Int32)) 19), (19, o_goto 23), (22, o_push (.int (0 : Int32)) 23), (23, o_callVc 98 1 (hX9_nested N G) 26), (26, o_goto 30), (29, o_push (.int (-1 : Int32)) 30), (30, o_iret)]
set_option maxRecDepth 200000 in
theorem iX11_boxes {l : Launch} {w : nW} (N : Nat) {G : nG} (hG : n_GOK G) : n_AllS l w 3 mX11_boxes G (n_fin dv_i G) (aX11_boxes N G) :=
  n_c (s_iload_n (pc := 0) (k := 1) (by decide +kernel)) <|
  n_c (s_iconst (pc := 1) (n := 0) (by decide +kernel) (by decide +kernel)) <|
  n_c (s_iconst (pc := 2) (n := 1) (by decide +kernel) (by decide +kernel)) <|
  n_c (s_callS (pc := 3) (csX11_within) (by decide) okX11_within w_610 w_609 (by decide +kernel)) <|
  n_c (s_if_eq (pc := 6) (off := 23) (by decide +kernel) (by decide +kernel)) <|
  n_c (s_aload_n (pc := 9) (k := 0) (by decide +kernel)) <|
  n_c (s_gRc (s_getR (pc := 10) (ci := 11) (k := 5) (idx := 63) nok11 (by decide) rfl (by decide +kernel) w_577) (gk1 hG) (gm1_5 hG)) <|
  n_c (s_iload_n (pc := 13) (k := 1) (by decide +kernel)) <|
  n_c (s_iconst (pc := 14) (n := 1) (by decide +kernel) (by decide +kernel)) <|
  n_c (s_icmp_ne (pc := 15) (off := 7) (by decide +kernel) (by decide +kernel)) <|
  n_c (s_iconst (pc := 18) (n := 1) (by decide +kernel) (by decide +kernel)) <|
  n_c (s_goto (pc := 19) (off := 4) (by decide +kernel) (by decide +kernel)) <|
  n_c (s_iconst (pc := 22) (n := 0) (by decide +kernel) (by decide +kernel)) <|
  n_c (s_callVc (s_callV (pc := 23) (csX9_nested N hG) (by decide) okX9_nested nok9 w_1177 w_1178 w_1176 (by decide +kernel)) (gk98 hG)) <|
  n_c (s_goto (pc := 26) (off := 4) (by decide +kernel) (by decide +kernel)) <|
  n_c (s_iconst (pc := 29) (n := -1) (by decide +kernel) (by decide +kernel)) <|
  n_c (s_iret (pc := 30) rfl (by decide +kernel)) <|
  n_e
def fX11_boxes_23 (N : Nat) (G : nG) (s0 : Int32) (M : nM) : Option (Int32 × nM) :=
  (fX9_nested N G s0 M).bind fun p1 =>
  some (p1.1, p1.2)
set_option maxRecDepth 200000 in
theorem bX11_boxes_23 {l : Launch} {w : nW} (N : Nat) {G : nG} (hG : n_GOK G) (s0 : Int32) (M : nM) (r : Int32 × nM) (h : fX11_boxes_23 N G s0 M = some r) : n_At l w 3 mX11_boxes 23 [] [.int s0, .ref 98] (G, M) (dv_i r.1, (G, r.2)) :=
  n_seg (fin := n_fin dv_i G) (K := []) 6 (iX11_boxes N hG) n_ke (by rfl) h
def fX11_boxes (N : Nat) (G : nG) (x1 : Int32) (M : nM) : Option (Int32 × nM) :=
  (fX11_within x1 (0 : Int32) (1 : Int32) M).bind fun p1 =>
  if p1.1 = 0 then
    some ((-1 : Int32), p1.2)
  else
    if ¬ x1 = (1 : Int32) then
      fX11_boxes_23 N G (0 : Int32) p1.2
    else
      fX11_boxes_23 N G (1 : Int32) p1.2
set_option maxRecDepth 200000 in
theorem bX11_boxes_0 {l : Launch} {w : nW} (N : Nat) {G : nG} (hG : n_GOK G) (x1 : Int32) (M : nM) (r : Int32 × nM) (h : fX11_boxes N G x1 M = some r) : n_At l w 3 mX11_boxes 0 [(0, .ref 1), (1, .int x1)] [] (G, M) (dv_i r.1, (G, r.2)) :=
  n_seg (fin := n_fin dv_i G) (K := [(23, fun lv st M => n_pI st (fun s0 st => n_pC 98 st (fun st => n_pE st (fX11_boxes_23 N G s0 M))))]) 18 (iX11_boxes N hG) (n_kc (fun lv st M r h => by
      obtain ⟨s0, t0, rfl, h1⟩ := n_pI_x h
      obtain ⟨t1, rfl, h2⟩ := n_pC_x h1
      obtain ⟨rfl, h3⟩ := n_pE_x h2
      exact n_sub n_qe (bX11_boxes_23 N hG s0 M r h3)) n_ke) (by rfl) h
theorem eX11_boxes {l : Launch} {w : nW} (N : Nat) {G : nG} (hG : n_GOK G) (z1 : Int32) (M : nM) (r : Int32 × nM) (h : fX11_boxes N G z1 M = some r) : n_Met l w 3 mX11_boxes [.ref 1, .int z1] (G, M) (dv_i r.1, (G, r.2)) :=
  n_entry (by decide +kernel) rfl (Nat.le_of_ble_eq_true rfl) (n_sub (lv := [(0, .ref 1), (1, .int z1)]) (n_qc rfl (n_qc rfl n_qe)) (bX11_boxes_0 N hG z1 M r h))
abbrev hX11_boxes (N : Nat) (G : nG) : nF := fun T as M k => n_pC 1 as (fun as => n_pI as (fun z1 as => n_pE as ((fX11_boxes N G z1 M).bind fun p => k (dv_i p.1) p.2)))
theorem csX11_boxes {l : Launch} {w : nW} (N : Nat) {G : nG} (hG : n_GOK G) : n_CS l w 3 mX11_boxes G (hX11_boxes N G) := fun T as M k r h => by
  obtain ⟨t0, rfl, h1⟩ := n_pC_x h
  obtain ⟨z1, t1, rfl, h2⟩ := n_pI_x h1
  obtain ⟨rfl, hE⟩ := n_pE_x h2
  obtain ⟨p, hp, hk⟩ := Option.bind_eq_some_iff.mp hE
  exact ⟨_, _, eX11_boxes N hG z1 M p hp, hk⟩
/-! ===== SleightHouseModel.findsNested()V ===== -/
def mX12_findsNested : nY := (RX12, yX12_findsNested, cX12_findsNested, 4, none)
theorem okX12_findsNested : n_MOK mX12_findsNested 0 := ⟨w_2050, w_151, ⟨by decide +kernel, by decide +kernel, by decide +kernel⟩, by decide⟩
abbrev aX12_findsNested (N : Nat) : List (Nat × nO (Unit × nM)) := [(0, o_push (.int (0 : Int32)) 1), (1, o_istore 4 1 2), (2, o_iload 1 3), (3, o_aload 0 4), (4, o_gIc 107 51 7), (7, oc_ge 23 10), (10, o_aload 0 11), (11, o_gRc 107 138 14), (14, o_iload 1 15), (15, o_push (.int (1 : Int32)) 16), (16, o_iastc 138 8 17), (17, o_inc 4 1 (1 : Int32) 20), (20, o_goto 2), (23, o_push (.int (0 : Int32)) 24), (24, o_istore 4 1 25), (25, o_iload 1 26), (26, o_aload 0 27), (27, o_gIc 107 51 30), (30, oc_ge 125 33), (33, o_push (.int (0 : Int32)) 34), (34, o_istore 4 2 35), (35, o_iload 2 36), (36, o_aload 0 37), (37, o_gIc 107 51 40), (40, oc_ge 119 43), (43, o_push (.int (0 : Int32)) 44), (44, o_istore 4 3 45), (45, o_iload 3 46), (46, o_aload 0 47), (47, o_gIc 107 51 50), (50, oc_ge 113 53), (53, o_aload 0 54), (54, o_gRc 107 136 57), (57, o_iload 2 58), (58, o_aldc 136 8 59), (59, o_aload 0 60), (60, o_gRc 107 136 63), (63, o_iload 3 64), (64, o_aldc 136 8 65), (65, oc_ge 107 68), (68, o_aload 0 69), (69, o_gRc 107 137 72), (72, o_iload 2 73), (73, o_aldc 137 8 74), (74, o_aload 0 75), (75, o_gRc 107 137 78), (78, o_iload 3 79), (79, o_aldc 137 8 80), (80, oc_ge 107 83), (83, o_aload 0 84), (84, o_gRc 107 138 87), (87, o_iload 3 88), (88, o_aload 0 89), (89, o_aload 0 90), (90, o_gRc 107 138 93), (93, o_iload 3 94), (94, o_aldc 138 8 95), (95, o_aload 0 96), (96, o_gRc 107 138 99), (99, o_iload 2 100), (100, o_aldc 138 8 101), (101, o_push (.int (1 : Int32)) 102), (102, o_iadd 103), (103, o_callVc 107 2 (hX12_greater) 106), (106, o_iastc 138 8 107), (107, o_inc 4 3 (1 : Int32) 110), (110, o_goto 45), (113, o_inc 4 2 (1 : Int32) 116), (116, o_goto 35), (119, o_inc 4 1 (1 : Int32) 122), (122, o_goto 25), (125, o_vret)]
set_option maxRecDepth 200000 in
theorem iX12_findsNested {l : Launch} {w : nW} (N : Nat) {G : nG} (hG : n_GOK G) : n_AllS l w 1 mX12_findsNested G (n_fin dv_v G) (aX12_findsNested N) :=
  n_c (s_iconst (pc := 0) (n := 0) (by decide +kernel) (by decide +kernel)) <|
  n_c (s_istore_n (pc := 1) (k := 1) (by decide +kernel)) <|
  n_c (s_iload_n (pc := 2) (k := 1) (by decide +kernel)) <|
  n_c (s_aload_n (pc := 3) (k := 0) (by decide +kernel)) <|
  n_c (s_gIc (s_getI (pc := 4) (ci := 12) (k := 51) (idx := 440) nok12 (by decide) rfl (by decide +kernel) w_1458) (gk107 hG)) <|
  n_c (s_icmp_ge (pc := 7) (off := 16) (by decide +kernel) (by decide +kernel)) <|
  n_c (s_aload_n (pc := 10) (k := 0) (by decide +kernel)) <|
  n_c (s_gRc (s_getR (pc := 11) (ci := 12) (k := 54) (idx := 104) nok12 (by decide) rfl (by decide +kernel) w_1461) (gk107 hG) (gm107_54 hG)) <|
  n_c (s_iload_n (pc := 14) (k := 1) (by decide +kernel)) <|
  n_c (s_iconst (pc := 15) (n := 1) (by decide +kernel) (by decide +kernel)) <|
  n_c (s_iastc (s_iastore (pc := 16) (by decide +kernel)) (gk138 hG) (gl138 hG)) <|
  n_c (s_iinc (pc := 17) (n := 1) (by decide +kernel) (by decide +kernel)) <|
  n_c (s_goto (pc := 20) (off := -18) (by decide +kernel) (by decide +kernel)) <|
  n_c (s_iconst (pc := 23) (n := 0) (by decide +kernel) (by decide +kernel)) <|
  n_c (s_istore_n (pc := 24) (k := 1) (by decide +kernel)) <|
  n_c (s_iload_n (pc := 25) (k := 1) (by decide +kernel)) <|
  n_c (s_aload_n (pc := 26) (k := 0) (by decide +kernel)) <|
  n_c (s_gIc (s_getI (pc := 27) (ci := 12) (k := 51) (idx := 440) nok12 (by decide) rfl (by decide +kernel) w_1458) (gk107 hG)) <|
  n_c (s_icmp_ge (pc := 30) (off := 95) (by decide +kernel) (by decide +kernel)) <|
  n_c (s_iconst (pc := 33) (n := 0) (by decide +kernel) (by decide +kernel)) <|
  n_c (s_istore_n (pc := 34) (k := 2) (by decide +kernel)) <|
  n_c (s_iload_n (pc := 35) (k := 2) (by decide +kernel)) <|
  n_c (s_aload_n (pc := 36) (k := 0) (by decide +kernel)) <|
  n_c (s_gIc (s_getI (pc := 37) (ci := 12) (k := 51) (idx := 440) nok12 (by decide) rfl (by decide +kernel) w_1458) (gk107 hG)) <|
  n_c (s_icmp_ge (pc := 40) (off := 79) (by decide +kernel) (by decide +kernel)) <|
  n_c (s_iconst (pc := 43) (n := 0) (by decide +kernel) (by decide +kernel)) <|
  n_c (s_istore_n (pc := 44) (k := 3) (by decide +kernel)) <|
  n_c (s_iload_n (pc := 45) (k := 3) (by decide +kernel)) <|
  n_c (s_aload_n (pc := 46) (k := 0) (by decide +kernel)) <|
  n_c (s_gIc (s_getI (pc := 47) (ci := 12) (k := 51) (idx := 440) nok12 (by decide) rfl (by decide +kernel) w_1458) (gk107 hG)) <|
  n_c (s_icmp_ge (pc := 50) (off := 63) (by decide +kernel) (by decide +kernel)) <|
  n_c (s_aload_n (pc := 53) (k := 0) (by decide +kernel)) <|
  n_c (s_gRc (s_getR (pc := 54) (ci := 12) (k := 52) (idx := 98) nok12 (by decide) rfl (by decide +kernel) w_1459) (gk107 hG) (gm107_52 hG)) <|
  n_c (s_iload_n (pc := 57) (k := 2) (by decide +kernel)) <|
  n_c (s_aldc (s_iaload (pc := 58) (by decide +kernel)) (gk136 hG) (gl136 hG)) <|
  n_c (s_aload_n (pc := 59) (k := 0) (by decide +kernel)) <|
  n_c (s_gRc (s_getR (pc := 60) (ci := 12) (k := 52) (idx := 98) nok12 (by decide) rfl (by decide +kernel) w_1459) (gk107 hG) (gm107_52 hG)) <|
  n_c (s_iload_n (pc := 63) (k := 3) (by decide +kernel)) <|
  n_c (s_aldc (s_iaload (pc := 64) (by decide +kernel)) (gk136 hG) (gl136 hG)) <|
  n_c (s_icmp_ge (pc := 65) (off := 42) (by decide +kernel) (by decide +kernel)) <|
  n_c (s_aload_n (pc := 68) (k := 0) (by decide +kernel)) <|
  n_c (s_gRc (s_getR (pc := 69) (ci := 12) (k := 53) (idx := 101) nok12 (by decide) rfl (by decide +kernel) w_1460) (gk107 hG) (gm107_53 hG)) <|
  n_c (s_iload_n (pc := 72) (k := 2) (by decide +kernel)) <|
  n_c (s_aldc (s_iaload (pc := 73) (by decide +kernel)) (gk137 hG) (gl137 hG)) <|
  n_c (s_aload_n (pc := 74) (k := 0) (by decide +kernel)) <|
  n_c (s_gRc (s_getR (pc := 75) (ci := 12) (k := 53) (idx := 101) nok12 (by decide) rfl (by decide +kernel) w_1460) (gk107 hG) (gm107_53 hG)) <|
  n_c (s_iload_n (pc := 78) (k := 3) (by decide +kernel)) <|
  n_c (s_aldc (s_iaload (pc := 79) (by decide +kernel)) (gk137 hG) (gl137 hG)) <|
  n_c (s_icmp_ge (pc := 80) (off := 27) (by decide +kernel) (by decide +kernel)) <|
  n_c (s_aload_n (pc := 83) (k := 0) (by decide +kernel)) <|
  n_c (s_gRc (s_getR (pc := 84) (ci := 12) (k := 54) (idx := 104) nok12 (by decide) rfl (by decide +kernel) w_1461) (gk107 hG) (gm107_54 hG)) <|
  n_c (s_iload_n (pc := 87) (k := 3) (by decide +kernel)) <|
  n_c (s_aload_n (pc := 88) (k := 0) (by decide +kernel)) <|
  n_c (s_aload_n (pc := 89) (k := 0) (by decide +kernel)) <|
  n_c (s_gRc (s_getR (pc := 90) (ci := 12) (k := 54) (idx := 104) nok12 (by decide) rfl (by decide +kernel) w_1461) (gk107 hG) (gm107_54 hG)) <|
  n_c (s_iload_n (pc := 93) (k := 3) (by decide +kernel)) <|
  n_c (s_aldc (s_iaload (pc := 94) (by decide +kernel)) (gk138 hG) (gl138 hG)) <|
  n_c (s_aload_n (pc := 95) (k := 0) (by decide +kernel)) <|
  n_c (s_gRc (s_getR (pc := 96) (ci := 12) (k := 54) (idx := 104) nok12 (by decide) rfl (by decide +kernel) w_1461) (gk107 hG) (gm107_54 hG)) <|
  n_c (s_iload_n (pc := 99) (k := 2) (by decide +kernel)) <|
  n_c (s_aldc (s_iaload (pc := 100) (by decide +kernel)) (gk138 hG) (gl138 hG)) <|
  n_c (s_iconst (pc := 101) (n := 1) (by decide +kernel) (by decide +kernel)) <|
  n_c (s_iadd (pc := 102) (by decide +kernel)) <|
  n_c (s_callVc (s_callV (pc := 103) (csX12_greater) (by decide) okX12_greater nok12 w_2037 w_117 w_2035 (by decide +kernel)) (gk107 hG)) <|
  n_c (s_iastc (s_iastore (pc := 106) (by decide +kernel)) (gk138 hG) (gl138 hG)) <|
  n_c (s_iinc (pc := 107) (n := 1) (by decide +kernel) (by decide +kernel)) <|
  n_c (s_goto (pc := 110) (off := -65) (by decide +kernel) (by decide +kernel)) <|
  n_c (s_iinc (pc := 113) (n := 1) (by decide +kernel) (by decide +kernel)) <|
  n_c (s_goto (pc := 116) (off := -81) (by decide +kernel) (by decide +kernel)) <|
  n_c (s_iinc (pc := 119) (n := 1) (by decide +kernel) (by decide +kernel)) <|
  n_c (s_goto (pc := 122) (off := -97) (by decide +kernel) (by decide +kernel)) <|
  n_c (s_vret (pc := 125) rfl (by decide +kernel)) <|
  n_e
def fX12_findsNested_45 (N : Nat) (k25 : Int32 → nM → Option (Unit × nM)) (k35 : Int32 → Int32 → nM → Option (Unit × nM)) : Nat → Int32 → Int32 → Int32 → nM → Option (Unit × nM)
  | 0, _, _, _, _ => none
  | n + 1, x1, x2, x3, M =>
    if (M 107 51) ≤ x3 then
      let v1 : Int32 := (x2 + (1 : Int32))
      k35 x1 v1 M
    else
      n_chk (n_ib 8 x2) <|
      n_chk (n_ib 8 x3) <|
      if (M 136 x3.toNatClampNeg) ≤ (M 136 x2.toNatClampNeg) then
        let v2 : Int32 := (x3 + (1 : Int32))
        fX12_findsNested_45 N k25 k35 n x1 x2 v2 M
      else
        n_chk (n_ib 8 x2) <|
        n_chk (n_ib 8 x3) <|
        if (M 137 x3.toNatClampNeg) ≤ (M 137 x2.toNatClampNeg) then
          let v3 : Int32 := (x3 + (1 : Int32))
          fX12_findsNested_45 N k25 k35 n x1 x2 v3 M
        else
          n_chk (n_ib 8 x3) <|
          n_chk (n_ib 8 x2) <|
          (fX12_greater (M 138 x3.toNatClampNeg) ((M 138 x2.toNatClampNeg) + (1 : Int32)) M).bind fun p4 =>
          n_chk (n_ib 8 x3) <|
          let M5 : nM := n_up p4.2 138 x3.toNatClampNeg p4.1
          let v6 : Int32 := (x3 + (1 : Int32))
          fX12_findsNested_45 N k25 k35 n x1 x2 v6 M5
set_option maxRecDepth 200000 in
theorem bX12_findsNested_45 {l : Launch} {w : nW} (N : Nat) {G : nG} (hG : n_GOK G) (k25 : Int32 → nM → Option (Unit × nM)) (hk25 : ∀ (x1 : Int32) (M : nM) (r : Unit × nM), k25 x1 M = some r → n_At l w 1 mX12_findsNested 25 [(0, .ref 107), (1, .int x1)] [] (G, M) (dv_v r.1, (G, r.2))) (k35 : Int32 → Int32 → nM → Option (Unit × nM)) (hk35 : ∀ (x1 : Int32) (x2 : Int32) (M : nM) (r : Unit × nM), k35 x1 x2 M = some r → n_At l w 1 mX12_findsNested 35 [(0, .ref 107), (1, .int x1), (2, .int x2)] [] (G, M) (dv_v r.1, (G, r.2))) : ∀ (n : Nat) (x1 : Int32) (x2 : Int32) (x3 : Int32) (M : nM) (r : Unit × nM), fX12_findsNested_45 N k25 k35 n x1 x2 x3 M = some r → n_At l w 1 mX12_findsNested 45 [(0, .ref 107), (1, .int x1), (2, .int x2), (3, .int x3)] [] (G, M) (dv_v r.1, (G, r.2)) := by
  intro n
  induction n with
  | zero => intro x1 x2 x3 M r h; cases (show (none : Option (Unit × nM)) = some r from h)
  | succ n ih =>
    intro x1 x2 x3 M r h
    exact n_seg (fin := n_fin dv_v G) (K := [(35, fun lv st M => n_lC 107 lv 0 (n_lI lv 1 (fun x1 => n_lI lv 2 (fun x2 => n_pE st (k35 x1 x2 M))))), (45, fun lv st M => n_lC 107 lv 0 (n_lI lv 1 (fun x1 => n_lI lv 2 (fun x2 => n_lI lv 3 (fun x3 => n_pE st (fX12_findsNested_45 N k25 k35 n x1 x2 x3 M))))))]) 49 (iX12_findsNested N hG) (n_kc (fun lv st M r h => by
      obtain ⟨e0, h1⟩ := n_lC_x h
      obtain ⟨x1, e1, h2⟩ := n_lI_x h1
      obtain ⟨x2, e2, h3⟩ := n_lI_x h2
      obtain ⟨rfl, h4⟩ := n_pE_x h3
      exact n_sub (n_qc e0 (n_qc e1 (n_qc e2 n_qe))) (hk35 x1 x2 M r h4)) (n_kc (fun lv st M r h => by
      obtain ⟨e0, h1⟩ := n_lC_x h
      obtain ⟨x1, e1, h2⟩ := n_lI_x h1
      obtain ⟨x2, e2, h3⟩ := n_lI_x h2
      obtain ⟨x3, e3, h4⟩ := n_lI_x h3
      obtain ⟨rfl, h5⟩ := n_pE_x h4
      exact n_sub (n_qc e0 (n_qc e1 (n_qc e2 (n_qc e3 n_qe)))) (ih x1 x2 x3 M r h5)) n_ke)) (by rfl) h
def fX12_findsNested_35 (N : Nat) (k25 : Int32 → nM → Option (Unit × nM)) : Nat → Int32 → Int32 → nM → Option (Unit × nM)
  | 0, _, _, _ => none
  | n + 1, x1, x2, M =>
    if (M 107 51) ≤ x2 then
      let v1 : Int32 := (x1 + (1 : Int32))
      k25 v1 M
    else
      fX12_findsNested_45 N k25 (fun x1 x2 M => fX12_findsNested_35 N k25 n x1 x2 M) N x1 x2 (0 : Int32) M
set_option maxRecDepth 200000 in
theorem bX12_findsNested_35 {l : Launch} {w : nW} (N : Nat) {G : nG} (hG : n_GOK G) (k25 : Int32 → nM → Option (Unit × nM)) (hk25 : ∀ (x1 : Int32) (M : nM) (r : Unit × nM), k25 x1 M = some r → n_At l w 1 mX12_findsNested 25 [(0, .ref 107), (1, .int x1)] [] (G, M) (dv_v r.1, (G, r.2))) : ∀ (n : Nat) (x1 : Int32) (x2 : Int32) (M : nM) (r : Unit × nM), fX12_findsNested_35 N k25 n x1 x2 M = some r → n_At l w 1 mX12_findsNested 35 [(0, .ref 107), (1, .int x1), (2, .int x2)] [] (G, M) (dv_v r.1, (G, r.2)) := by
  intro n
  induction n with
  | zero => intro x1 x2 M r h; cases (show (none : Option (Unit × nM)) = some r from h)
  | succ n ih =>
    intro x1 x2 M r h
    exact n_seg (fin := n_fin dv_v G) (K := [(25, fun lv st M => n_lC 107 lv 0 (n_lI lv 1 (fun x1 => n_pE st (k25 x1 M)))), (45, fun lv st M => n_lC 107 lv 0 (n_lI lv 1 (fun x1 => n_lI lv 2 (fun x2 => n_lI lv 3 (fun x3 => n_pE st (fX12_findsNested_45 N k25 (fun x1 x2 M => fX12_findsNested_35 N k25 n x1 x2 M) N x1 x2 x3 M))))))]) 11 (iX12_findsNested N hG) (n_kc (fun lv st M r h => by
      obtain ⟨e0, h1⟩ := n_lC_x h
      obtain ⟨x1, e1, h2⟩ := n_lI_x h1
      obtain ⟨rfl, h3⟩ := n_pE_x h2
      exact n_sub (n_qc e0 (n_qc e1 n_qe)) (hk25 x1 M r h3)) (n_kc (fun lv st M r h => by
      obtain ⟨e0, h1⟩ := n_lC_x h
      obtain ⟨x1, e1, h2⟩ := n_lI_x h1
      obtain ⟨x2, e2, h3⟩ := n_lI_x h2
      obtain ⟨x3, e3, h4⟩ := n_lI_x h3
      obtain ⟨rfl, h5⟩ := n_pE_x h4
      exact n_sub (n_qc e0 (n_qc e1 (n_qc e2 (n_qc e3 n_qe)))) (bX12_findsNested_45 N hG k25 hk25 (fun x1 x2 M => fX12_findsNested_35 N k25 n x1 x2 M) ih N x1 x2 x3 M r h5)) n_ke)) (by rfl) h
def fX12_findsNested_25 (N : Nat) : Nat → Int32 → nM → Option (Unit × nM)
  | 0, _, _ => none
  | n + 1, x1, M =>
    if (M 107 51) ≤ x1 then
      some ((), M)
    else
      fX12_findsNested_35 N (fun x1 M => fX12_findsNested_25 N n x1 M) N x1 (0 : Int32) M
set_option maxRecDepth 200000 in
theorem bX12_findsNested_25 {l : Launch} {w : nW} (N : Nat) {G : nG} (hG : n_GOK G) : ∀ (n : Nat) (x1 : Int32) (M : nM) (r : Unit × nM), fX12_findsNested_25 N n x1 M = some r → n_At l w 1 mX12_findsNested 25 [(0, .ref 107), (1, .int x1)] [] (G, M) (dv_v r.1, (G, r.2)) := by
  intro n
  induction n with
  | zero => intro x1 M r h; cases (show (none : Option (Unit × nM)) = some r from h)
  | succ n ih =>
    intro x1 M r h
    exact n_seg (fin := n_fin dv_v G) (K := [(35, fun lv st M => n_lC 107 lv 0 (n_lI lv 1 (fun x1 => n_lI lv 2 (fun x2 => n_pE st (fX12_findsNested_35 N (fun x1 M => fX12_findsNested_25 N n x1 M) N x1 x2 M)))))]) 10 (iX12_findsNested N hG) (n_kc (fun lv st M r h => by
      obtain ⟨e0, h1⟩ := n_lC_x h
      obtain ⟨x1, e1, h2⟩ := n_lI_x h1
      obtain ⟨x2, e2, h3⟩ := n_lI_x h2
      obtain ⟨rfl, h4⟩ := n_pE_x h3
      exact n_sub (n_qc e0 (n_qc e1 (n_qc e2 n_qe))) (bX12_findsNested_35 N hG (fun x1 M => fX12_findsNested_25 N n x1 M) ih N x1 x2 M r h4)) n_ke) (by rfl) h
def fX12_findsNested_2 (N : Nat) : Nat → Int32 → nM → Option (Unit × nM)
  | 0, _, _ => none
  | n + 1, x1, M =>
    if (M 107 51) ≤ x1 then
      fX12_findsNested_25 N N (0 : Int32) M
    else
      n_chk (n_ib 8 x1) <|
      let M1 : nM := n_up M 138 x1.toNatClampNeg (1 : Int32)
      let v2 : Int32 := (x1 + (1 : Int32))
      fX12_findsNested_2 N n v2 M1
set_option maxRecDepth 200000 in
theorem bX12_findsNested_2 {l : Launch} {w : nW} (N : Nat) {G : nG} (hG : n_GOK G) : ∀ (n : Nat) (x1 : Int32) (M : nM) (r : Unit × nM), fX12_findsNested_2 N n x1 M = some r → n_At l w 1 mX12_findsNested 2 [(0, .ref 107), (1, .int x1)] [] (G, M) (dv_v r.1, (G, r.2)) := by
  intro n
  induction n with
  | zero => intro x1 M r h; cases (show (none : Option (Unit × nM)) = some r from h)
  | succ n ih =>
    intro x1 M r h
    exact n_seg (fin := n_fin dv_v G) (K := [(2, fun lv st M => n_lC 107 lv 0 (n_lI lv 1 (fun x1 => n_pE st (fX12_findsNested_2 N n x1 M)))), (25, fun lv st M => n_lC 107 lv 0 (n_lI lv 1 (fun x1 => n_pE st (fX12_findsNested_25 N N x1 M))))]) 16 (iX12_findsNested N hG) (n_kc (fun lv st M r h => by
      obtain ⟨e0, h1⟩ := n_lC_x h
      obtain ⟨x1, e1, h2⟩ := n_lI_x h1
      obtain ⟨rfl, h3⟩ := n_pE_x h2
      exact n_sub (n_qc e0 (n_qc e1 n_qe)) (ih x1 M r h3)) (n_kc (fun lv st M r h => by
      obtain ⟨e0, h1⟩ := n_lC_x h
      obtain ⟨x1, e1, h2⟩ := n_lI_x h1
      obtain ⟨rfl, h3⟩ := n_pE_x h2
      exact n_sub (n_qc e0 (n_qc e1 n_qe)) (bX12_findsNested_25 N hG N x1 M r h3)) n_ke)) (by rfl) h
def fX12_findsNested (N : Nat) (M : nM) : Option (Unit × nM) :=
  fX12_findsNested_2 N N (0 : Int32) M
set_option maxRecDepth 200000 in
theorem bX12_findsNested_0 {l : Launch} {w : nW} (N : Nat) {G : nG} (hG : n_GOK G) (M : nM) (r : Unit × nM) (h : fX12_findsNested N M = some r) : n_At l w 1 mX12_findsNested 0 [(0, .ref 107)] [] (G, M) (dv_v r.1, (G, r.2)) :=
  n_seg (fin := n_fin dv_v G) (K := [(2, fun lv st M => n_lC 107 lv 0 (n_lI lv 1 (fun x1 => n_pE st (fX12_findsNested_2 N N x1 M))))]) 5 (iX12_findsNested N hG) (n_kc (fun lv st M r h => by
      obtain ⟨e0, h1⟩ := n_lC_x h
      obtain ⟨x1, e1, h2⟩ := n_lI_x h1
      obtain ⟨rfl, h3⟩ := n_pE_x h2
      exact n_sub (n_qc e0 (n_qc e1 n_qe)) (bX12_findsNested_2 N hG N x1 M r h3)) n_ke) (by rfl) h
theorem eX12_findsNested {l : Launch} {w : nW} (N : Nat) {G : nG} (hG : n_GOK G) (M : nM) (r : Unit × nM) (h : fX12_findsNested N M = some r) : n_Met l w 1 mX12_findsNested [.ref 107] (G, M) (dv_v r.1, (G, r.2)) :=
  n_entry (by decide +kernel) rfl (Nat.le_of_ble_eq_true rfl) (n_sub (lv := [(0, .ref 107)]) (n_qc rfl n_qe) (bX12_findsNested_0 N hG M r h))
abbrev hX12_findsNested (N : Nat) : nF := fun T as M k => n_pC 107 as (fun as => n_pE as ((fX12_findsNested N M).bind fun p => k (dv_v p.1) p.2))
theorem csX12_findsNested {l : Launch} {w : nW} (N : Nat) {G : nG} (hG : n_GOK G) : n_CS l w 1 mX12_findsNested G (hX12_findsNested N) := fun T as M k r h => by
  obtain ⟨t0, rfl, h1⟩ := n_pC_x h
  obtain ⟨rfl, hE⟩ := n_pE_x h1
  obtain ⟨p, hp, hk⟩ := Option.bind_eq_some_iff.mp hE
  exact ⟨_, _, eX12_findsNested N hG M p hp, hk⟩
/-! ===== SleightHouseModel.boxes(I)I ===== -/
def mX12_boxes : nY := (RX12, yX12_boxes, cX12_boxes, 4, some .int)
theorem okX12_boxes : n_MOK mX12_boxes 1 := ⟨w_2046, w_151, ⟨by decide +kernel, by decide +kernel, by decide +kernel⟩, by decide⟩
abbrev aX12_boxes (N : Nat) : List (Nat × nO (Int32 × nM)) := [(0, o_aload 0 1), (1, o_push (.int (0 : Int32)) 2), (2, o_pIc 107 0 5), (5, o_aload 0 6), (6, o_iload 1 7), (7, o_push (.int (0 : Int32)) 8), (8, o_push (.int (1 : Int32)) 9), (9, o_callVc 107 3 (hX12_isIn) 12), (12, oi_ne 17 15), (15, o_push (.int (-1 : Int32)) 16), (16, o_iret), (17, o_aload 0 18), (18, o_callVc 107 0 (hX12_findsNested N) 21), (21, o_push (.int (-1 : Int32)) 22), (22, o_istore 4 2 23), (23, o_push (.int (0 : Int32)) 24), (24, o_istore 4 3 25), (25, o_iload 3 26), (26, o_aload 0 27), (27, o_gIc 107 51 30), (30, oc_ge 61 33), (33, o_iload 2 34), (34, o_push (.int (-1 : Int32)) 35), (35, oc_eq 53 38), (38, o_aload 0 39), (39, o_gRc 107 138 42), (42, o_iload 3 43), (43, o_aldc 138 8 44), (44, o_aload 0 45), (45, o_gRc 107 138 48), (48, o_iload 2 49), (49, o_aldc 138 8 50), (50, oc_le 55 53), (53, o_iload 3 54), (54, o_istore 4 2 55), (55, o_inc 4 3 (1 : Int32) 58), (58, o_goto 25), (61, o_iload 1 62), (62, o_push (.int (1 : Int32)) 63), (63, oc_ne 70 66), (66, o_iload 2 67), (67, o_goto 85), (70, o_iload 2 71), (71, o_push (.int (-1 : Int32)) 72), (72, oc_ne 79 75), (75, o_push (.int (0 : Int32)) 76), (76, o_goto 85), (79, o_aload 0 80), (80, o_gRc 107 138 83), (83, o_iload 2 84), (84, o_aldc 138 8 85), (85, o_iret)]
set_option maxRecDepth 200000 in
theorem iX12_boxes {l : Launch} {w : nW} (N : Nat) {G : nG} (hG : n_GOK G) : n_AllS l w 2 mX12_boxes G (n_fin dv_i G) (aX12_boxes N) :=
  n_c (s_aload_n (pc := 0) (k := 0) (by decide +kernel)) <|
  n_c (s_iconst (pc := 1) (n := 0) (by decide +kernel) (by decide +kernel)) <|
  n_c (s_pIc (s_putI (pc := 2) (ci := 12) (k := 0) (idx := 146) nok12 (by decide) rfl rfl (by decide +kernel) w_1407) (gk107 hG)) <|
  n_c (s_aload_n (pc := 5) (k := 0) (by decide +kernel)) <|
  n_c (s_iload_n (pc := 6) (k := 1) (by decide +kernel)) <|
  n_c (s_iconst (pc := 7) (n := 0) (by decide +kernel) (by decide +kernel)) <|
  n_c (s_iconst (pc := 8) (n := 1) (by decide +kernel) (by decide +kernel)) <|
  n_c (s_callVc (s_callV (pc := 9) (csX12_isIn) (by decide) okX12_isIn nok12 w_1659 w_46 w_1657 (by decide +kernel)) (gk107 hG)) <|
  n_c (s_if_ne (pc := 12) (off := 5) (by decide +kernel) (by decide +kernel)) <|
  n_c (s_iconst (pc := 15) (n := -1) (by decide +kernel) (by decide +kernel)) <|
  n_c (s_iret (pc := 16) rfl (by decide +kernel)) <|
  n_c (s_aload_n (pc := 17) (k := 0) (by decide +kernel)) <|
  n_c (s_callVc (s_callV (pc := 18) (csX12_findsNested N hG) (by decide) okX12_findsNested nok12 w_2049 w_119 w_2047 (by decide +kernel)) (gk107 hG)) <|
  n_c (s_iconst (pc := 21) (n := -1) (by decide +kernel) (by decide +kernel)) <|
  n_c (s_istore_n (pc := 22) (k := 2) (by decide +kernel)) <|
  n_c (s_iconst (pc := 23) (n := 0) (by decide +kernel) (by decide +kernel)) <|
  n_c (s_istore_n (pc := 24) (k := 3) (by decide +kernel)) <|
  n_c (s_iload_n (pc := 25) (k := 3) (by decide +kernel)) <|
  n_c (s_aload_n (pc := 26) (k := 0) (by decide +kernel)) <|
  n_c (s_gIc (s_getI (pc := 27) (ci := 12) (k := 51) (idx := 440) nok12 (by decide) rfl (by decide +kernel) w_1458) (gk107 hG)) <|
  n_c (s_icmp_ge (pc := 30) (off := 31) (by decide +kernel) (by decide +kernel)) <|
  n_c (s_iload_n (pc := 33) (k := 2) (by decide +kernel)) <|
  n_c (s_iconst (pc := 34) (n := -1) (by decide +kernel) (by decide +kernel)) <|
  n_c (s_icmp_eq (pc := 35) (off := 18) (by decide +kernel) (by decide +kernel)) <|
  n_c (s_aload_n (pc := 38) (k := 0) (by decide +kernel)) <|
  n_c (s_gRc (s_getR (pc := 39) (ci := 12) (k := 54) (idx := 104) nok12 (by decide) rfl (by decide +kernel) w_1461) (gk107 hG) (gm107_54 hG)) <|
  n_c (s_iload_n (pc := 42) (k := 3) (by decide +kernel)) <|
  n_c (s_aldc (s_iaload (pc := 43) (by decide +kernel)) (gk138 hG) (gl138 hG)) <|
  n_c (s_aload_n (pc := 44) (k := 0) (by decide +kernel)) <|
  n_c (s_gRc (s_getR (pc := 45) (ci := 12) (k := 54) (idx := 104) nok12 (by decide) rfl (by decide +kernel) w_1461) (gk107 hG) (gm107_54 hG)) <|
  n_c (s_iload_n (pc := 48) (k := 2) (by decide +kernel)) <|
  n_c (s_aldc (s_iaload (pc := 49) (by decide +kernel)) (gk138 hG) (gl138 hG)) <|
  n_c (s_icmp_le (pc := 50) (off := 5) (by decide +kernel) (by decide +kernel)) <|
  n_c (s_iload_n (pc := 53) (k := 3) (by decide +kernel)) <|
  n_c (s_istore_n (pc := 54) (k := 2) (by decide +kernel)) <|
  n_c (s_iinc (pc := 55) (n := 1) (by decide +kernel) (by decide +kernel)) <|
  n_c (s_goto (pc := 58) (off := -33) (by decide +kernel) (by decide +kernel)) <|
  n_c (s_iload_n (pc := 61) (k := 1) (by decide +kernel)) <|
  n_c (s_iconst (pc := 62) (n := 1) (by decide +kernel) (by decide +kernel)) <|
  n_c (s_icmp_ne (pc := 63) (off := 7) (by decide +kernel) (by decide +kernel)) <|
  n_c (s_iload_n (pc := 66) (k := 2) (by decide +kernel)) <|
  n_c (s_goto (pc := 67) (off := 18) (by decide +kernel) (by decide +kernel)) <|
  n_c (s_iload_n (pc := 70) (k := 2) (by decide +kernel)) <|
  n_c (s_iconst (pc := 71) (n := -1) (by decide +kernel) (by decide +kernel)) <|
  n_c (s_icmp_ne (pc := 72) (off := 7) (by decide +kernel) (by decide +kernel)) <|
  n_c (s_iconst (pc := 75) (n := 0) (by decide +kernel) (by decide +kernel)) <|
  n_c (s_goto (pc := 76) (off := 9) (by decide +kernel) (by decide +kernel)) <|
  n_c (s_aload_n (pc := 79) (k := 0) (by decide +kernel)) <|
  n_c (s_gRc (s_getR (pc := 80) (ci := 12) (k := 54) (idx := 104) nok12 (by decide) rfl (by decide +kernel) w_1461) (gk107 hG) (gm107_54 hG)) <|
  n_c (s_iload_n (pc := 83) (k := 2) (by decide +kernel)) <|
  n_c (s_aldc (s_iaload (pc := 84) (by decide +kernel)) (gk138 hG) (gl138 hG)) <|
  n_c (s_iret (pc := 85) rfl (by decide +kernel)) <|
  n_e
def fX12_boxes_25 (N : Nat) : Nat → Int32 → Int32 → Int32 → nM → Option (Int32 × nM)
  | 0, _, _, _, _ => none
  | n + 1, x1, x2, x3, M =>
    if (M 107 51) ≤ x3 then
      if ¬ x1 = (1 : Int32) then
        if ¬ x2 = (-1 : Int32) then
          n_chk (n_ib 8 x2) <|
          some ((M 138 x2.toNatClampNeg), M)
        else
          some ((0 : Int32), M)
      else
        some (x2, M)
    else
      if x2 = (-1 : Int32) then
        let v1 : Int32 := (x3 + (1 : Int32))
        fX12_boxes_25 N n x1 x3 v1 M
      else
        n_chk (n_ib 8 x3) <|
        n_chk (n_ib 8 x2) <|
        if (M 138 x3.toNatClampNeg) ≤ (M 138 x2.toNatClampNeg) then
          let v2 : Int32 := (x3 + (1 : Int32))
          fX12_boxes_25 N n x1 x2 v2 M
        else
          let v3 : Int32 := (x3 + (1 : Int32))
          fX12_boxes_25 N n x1 x3 v3 M
set_option maxRecDepth 200000 in
theorem bX12_boxes_25 {l : Launch} {w : nW} (N : Nat) {G : nG} (hG : n_GOK G) : ∀ (n : Nat) (x1 : Int32) (x2 : Int32) (x3 : Int32) (M : nM) (r : Int32 × nM), fX12_boxes_25 N n x1 x2 x3 M = some r → n_At l w 2 mX12_boxes 25 [(0, .ref 107), (1, .int x1), (2, .int x2), (3, .int x3)] [] (G, M) (dv_i r.1, (G, r.2)) := by
  intro n
  induction n with
  | zero => intro x1 x2 x3 M r h; cases (show (none : Option (Int32 × nM)) = some r from h)
  | succ n ih =>
    intro x1 x2 x3 M r h
    exact n_seg (fin := n_fin dv_i G) (K := [(25, fun lv st M => n_lC 107 lv 0 (n_lI lv 1 (fun x1 => n_lI lv 2 (fun x2 => n_lI lv 3 (fun x3 => n_pE st (fX12_boxes_25 N n x1 x2 x3 M))))))]) 46 (iX12_boxes N hG) (n_kc (fun lv st M r h => by
      obtain ⟨e0, h1⟩ := n_lC_x h
      obtain ⟨x1, e1, h2⟩ := n_lI_x h1
      obtain ⟨x2, e2, h3⟩ := n_lI_x h2
      obtain ⟨x3, e3, h4⟩ := n_lI_x h3
      obtain ⟨rfl, h5⟩ := n_pE_x h4
      exact n_sub (n_qc e0 (n_qc e1 (n_qc e2 (n_qc e3 n_qe)))) (ih x1 x2 x3 M r h5)) n_ke) (by rfl) h
def fX12_boxes (N : Nat) (x1 : Int32) (M : nM) : Option (Int32 × nM) :=
  let M1 : nM := n_up M 107 0 (0 : Int32)
  (fX12_isIn x1 (0 : Int32) (1 : Int32) M1).bind fun p2 =>
  if ¬ p2.1 = 0 then
    (fX12_findsNested N p2.2).bind fun p3 =>
    fX12_boxes_25 N N x1 (-1 : Int32) (0 : Int32) p3.2
  else
    some ((-1 : Int32), p2.2)
set_option maxRecDepth 200000 in
theorem bX12_boxes_0 {l : Launch} {w : nW} (N : Nat) {G : nG} (hG : n_GOK G) (x1 : Int32) (M : nM) (r : Int32 × nM) (h : fX12_boxes N x1 M = some r) : n_At l w 2 mX12_boxes 0 [(0, .ref 107), (1, .int x1)] [] (G, M) (dv_i r.1, (G, r.2)) :=
  n_seg (fin := n_fin dv_i G) (K := [(25, fun lv st M => n_lC 107 lv 0 (n_lI lv 1 (fun x1 => n_lI lv 2 (fun x2 => n_lI lv 3 (fun x3 => n_pE st (fX12_boxes_25 N N x1 x2 x3 M))))))]) 20 (iX12_boxes N hG) (n_kc (fun lv st M r h => by
      obtain ⟨e0, h1⟩ := n_lC_x h
      obtain ⟨x1, e1, h2⟩ := n_lI_x h1
      obtain ⟨x2, e2, h3⟩ := n_lI_x h2
      obtain ⟨x3, e3, h4⟩ := n_lI_x h3
      obtain ⟨rfl, h5⟩ := n_pE_x h4
      exact n_sub (n_qc e0 (n_qc e1 (n_qc e2 (n_qc e3 n_qe)))) (bX12_boxes_25 N hG N x1 x2 x3 M r h5)) n_ke) (by rfl) h
theorem eX12_boxes {l : Launch} {w : nW} (N : Nat) {G : nG} (hG : n_GOK G) (z1 : Int32) (M : nM) (r : Int32 × nM) (h : fX12_boxes N z1 M = some r) : n_Met l w 2 mX12_boxes [.ref 107, .int z1] (G, M) (dv_i r.1, (G, r.2)) :=
  n_entry (by decide +kernel) rfl (Nat.le_of_ble_eq_true rfl) (n_sub (lv := [(0, .ref 107), (1, .int z1)]) (n_qc rfl (n_qc rfl n_qe)) (bX12_boxes_0 N hG z1 M r h))
abbrev hX12_boxes (N : Nat) : nF := fun T as M k => n_pC 107 as (fun as => n_pI as (fun z1 as => n_pE as ((fX12_boxes N z1 M).bind fun p => k (dv_i p.1) p.2)))
theorem csX12_boxes {l : Launch} {w : nW} (N : Nat) {G : nG} (hG : n_GOK G) : n_CS l w 2 mX12_boxes G (hX12_boxes N) := fun T as M k r h => by
  obtain ⟨t0, rfl, h1⟩ := n_pC_x h
  obtain ⟨z1, t1, rfl, h2⟩ := n_pI_x h1
  obtain ⟨rfl, hE⟩ := n_pE_x h2
  obtain ⟨p, hp, hk⟩ := Option.bind_eq_some_iff.mp hE
  exact ⟨_, _, eX12_boxes N hG z1 M p hp, hk⟩
/-! ===== SleightHouse.key(II)I ===== -/
def mX11_key : nY := (RX11, yX11_key, cX11_key, 3, some .int)
theorem okX11_key : n_MOK mX11_key 2 := ⟨w_1189, w_137, ⟨by decide +kernel, by decide +kernel, by decide +kernel⟩, by decide⟩
abbrev aX11_key (G : nG) : List (Nat × nO (Int32 × nM)) := [(0, o_iload 1 1), (1, o_push (.int (-1 : Int32)) 2), (2, oc_ne 19 5), (5, o_aload 0 6), (6, o_gRc 1 2 9), (9, o_gRc 2 28 12), (12, o_gRc 28 35 15), (15, o_callVc 35 0 (hX7_clear G) 18), (18, o_iret), (19, o_iload 1 20), (20, o_push (.int (0 : Int32)) 21), (21, o_push (.int (9 : Int32)) 23), (23, o_call 3 (hX11_within) 26), (26, oi_eq 39 29), (29, o_iload 2 30), (30, o_push (.int (0 : Int32)) 31), (31, o_push (.int (9 : Int32)) 33), (33, o_call 3 (hX11_within) 36), (36, oi_ne 41 39), (39, o_push (.int (-1 : Int32)) 40), (40, o_iret), (41, o_aload 0 42), (42, o_gRc 1 2 45), (45, o_gRc 2 28 48), (48, o_gRc 28 35 51), (51, o_iload 1 52), (52, o_iload 2 53), (53, o_push (.int (0 : Int32)) 54), (54, o_push (.int (0 : Int32)) 55), (55, o_callVc 35 4 (hX7_add G) 58), (58, o_iret)]
set_option maxRecDepth 200000 in
theorem iX11_key {l : Launch} {w : nW} {G : nG} (hG : n_GOK G) : n_AllS l w 2 mX11_key G (n_fin dv_i G) (aX11_key G) :=
  n_c (s_iload_n (pc := 0) (k := 1) (by decide +kernel)) <|
  n_c (s_iconst (pc := 1) (n := -1) (by decide +kernel) (by decide +kernel)) <|
  n_c (s_icmp_ne (pc := 2) (off := 17) (by decide +kernel) (by decide +kernel)) <|
  n_c (s_aload_n (pc := 5) (k := 0) (by decide +kernel)) <|
  n_c (s_gRc (s_getR (pc := 6) (ci := 11) (k := 0) (idx := 10) nok11 (by decide) rfl (by decide +kernel) w_572) (gk1 hG) (gm1_0 hG)) <|
  n_c (s_gRc (s_getR (pc := 9) (ci := 1) (k := 7) (idx := 56) nok1 (by decide) rfl (by decide +kernel) w_421) (gk2 hG) (gm2_7 hG)) <|
  n_c (s_gRc (s_getR (pc := 12) (ci := 10) (k := 3) (idx := 326) nok10 (by decide) rfl (by decide +kernel) w_368) (gk28 hG) (gm28_3 hG)) <|
  n_c (s_callVc (s_callV (pc := 15) (csX7_clear) (by decide) okX7_clear nok7 w_962 w_963 w_1129 (by decide +kernel)) (gk35 hG)) <|
  n_c (s_iret (pc := 18) rfl (by decide +kernel)) <|
  n_c (s_iload_n (pc := 19) (k := 1) (by decide +kernel)) <|
  n_c (s_iconst (pc := 20) (n := 0) (by decide +kernel) (by decide +kernel)) <|
  n_c (s_bipush (pc := 21) (n := 9) (by decide +kernel) (by decide +kernel)) <|
  n_c (s_callS (pc := 23) (csX11_within) (by decide) okX11_within w_610 w_609 (by decide +kernel)) <|
  n_c (s_if_eq (pc := 26) (off := 13) (by decide +kernel) (by decide +kernel)) <|
  n_c (s_iload_n (pc := 29) (k := 2) (by decide +kernel)) <|
  n_c (s_iconst (pc := 30) (n := 0) (by decide +kernel) (by decide +kernel)) <|
  n_c (s_bipush (pc := 31) (n := 9) (by decide +kernel) (by decide +kernel)) <|
  n_c (s_callS (pc := 33) (csX11_within) (by decide) okX11_within w_610 w_609 (by decide +kernel)) <|
  n_c (s_if_ne (pc := 36) (off := 5) (by decide +kernel) (by decide +kernel)) <|
  n_c (s_iconst (pc := 39) (n := -1) (by decide +kernel) (by decide +kernel)) <|
  n_c (s_iret (pc := 40) rfl (by decide +kernel)) <|
  n_c (s_aload_n (pc := 41) (k := 0) (by decide +kernel)) <|
  n_c (s_gRc (s_getR (pc := 42) (ci := 11) (k := 0) (idx := 10) nok11 (by decide) rfl (by decide +kernel) w_572) (gk1 hG) (gm1_0 hG)) <|
  n_c (s_gRc (s_getR (pc := 45) (ci := 1) (k := 7) (idx := 56) nok1 (by decide) rfl (by decide +kernel) w_421) (gk2 hG) (gm2_7 hG)) <|
  n_c (s_gRc (s_getR (pc := 48) (ci := 10) (k := 3) (idx := 326) nok10 (by decide) rfl (by decide +kernel) w_368) (gk28 hG) (gm28_3 hG)) <|
  n_c (s_iload_n (pc := 51) (k := 1) (by decide +kernel)) <|
  n_c (s_iload_n (pc := 52) (k := 2) (by decide +kernel)) <|
  n_c (s_iconst (pc := 53) (n := 0) (by decide +kernel) (by decide +kernel)) <|
  n_c (s_iconst (pc := 54) (n := 0) (by decide +kernel) (by decide +kernel)) <|
  n_c (s_callVc (s_callV (pc := 55) (csX7_add) (by decide) okX7_add nok7 w_1030 w_1031 w_1130 (by decide +kernel)) (gk35 hG)) <|
  n_c (s_iret (pc := 58) rfl (by decide +kernel)) <|
  n_e
def fX11_key (G : nG) (x1 : Int32) (x2 : Int32) (M : nM) : Option (Int32 × nM) :=
  if ¬ x1 = (-1 : Int32) then
    (fX11_within x1 (0 : Int32) (9 : Int32) M).bind fun p1 =>
    if p1.1 = 0 then
      some ((-1 : Int32), p1.2)
    else
      (fX11_within x2 (0 : Int32) (9 : Int32) p1.2).bind fun p2 =>
      if ¬ p2.1 = 0 then
        (fX7_add G 35 x1 x2 (0 : Int32) (0 : Int32) p2.2).bind fun p3 =>
        some (p3.1, p3.2)
      else
        some ((-1 : Int32), p2.2)
  else
    (fX7_clear G 35 M).bind fun p4 =>
    some (p4.1, p4.2)
set_option maxRecDepth 200000 in
theorem bX11_key_0 {l : Launch} {w : nW} {G : nG} (hG : n_GOK G) (x1 : Int32) (x2 : Int32) (M : nM) (r : Int32 × nM) (h : fX11_key G x1 x2 M = some r) : n_At l w 2 mX11_key 0 [(0, .ref 1), (1, .int x1), (2, .int x2)] [] (G, M) (dv_i r.1, (G, r.2)) :=
  n_seg (fin := n_fin dv_i G) (K := []) 36 (iX11_key hG) n_ke (by rfl) h
theorem eX11_key {l : Launch} {w : nW} {G : nG} (hG : n_GOK G) (z1 : Int32) (z2 : Int32) (M : nM) (r : Int32 × nM) (h : fX11_key G z1 z2 M = some r) : n_Met l w 2 mX11_key [.ref 1, .int z1, .int z2] (G, M) (dv_i r.1, (G, r.2)) :=
  n_entry (by decide +kernel) rfl (Nat.le_of_ble_eq_true rfl) (n_sub (lv := [(0, .ref 1), (1, .int z1), (2, .int z2)]) (n_qc rfl (n_qc rfl (n_qc rfl n_qe))) (bX11_key_0 hG z1 z2 M r h))
abbrev hX11_key (G : nG) : nF := fun T as M k => n_pC 1 as (fun as => n_pI as (fun z1 as => n_pI as (fun z2 as => n_pE as ((fX11_key G z1 z2 M).bind fun p => k (dv_i p.1) p.2))))
theorem csX11_key {l : Launch} {w : nW} {G : nG} (hG : n_GOK G) : n_CS l w 2 mX11_key G (hX11_key G) := fun T as M k r h => by
  obtain ⟨t0, rfl, h1⟩ := n_pC_x h
  obtain ⟨z1, t1, rfl, h2⟩ := n_pI_x h1
  obtain ⟨z2, t2, rfl, h3⟩ := n_pI_x h2
  obtain ⟨rfl, hE⟩ := n_pE_x h3
  obtain ⟨p, hp, hk⟩ := Option.bind_eq_some_iff.mp hE
  exact ⟨_, _, eX11_key hG z1 z2 M p hp, hk⟩
/-! ===== SleightHouseModel.key(II)I ===== -/
def mX12_key : nY := (RX12, yX12_key, cX12_key, 4, some .int)
theorem okX12_key : n_MOK mX12_key 2 := ⟨w_2054, w_151, ⟨by decide +kernel, by decide +kernel, by decide +kernel⟩, by decide⟩
abbrev aX12_key (N : Nat) : List (Nat × nO (Int32 × nM)) := [(0, o_aload 0 1), (1, o_push (.int (0 : Int32)) 2), (2, o_pIc 107 0 5), (5, o_iload 1 6), (6, o_push (.int (-1 : Int32)) 7), (7, oc_ne 38 10), (10, o_aload 0 11), (11, o_push (.int (0 : Int32)) 12), (12, o_pIc 107 55 15), (15, o_push (.int (0 : Int32)) 16), (16, o_istore 4 3 17), (17, o_iload 3 18), (18, o_push (.int (10 : Int32)) 20), (20, oc_ge 36 23), (23, o_aload 0 24), (24, o_gRc 107 139 27), (27, o_iload 3 28), (28, o_push (.int (0 : Int32)) 29), (29, o_iastc 139 10 30), (30, o_inc 4 3 (1 : Int32) 33), (33, o_goto 17), (36, o_push (.int (0 : Int32)) 37), (37, o_iret), (38, o_aload 0 39), (39, o_iload 1 40), (40, o_push (.int (0 : Int32)) 41), (41, o_push (.int (9 : Int32)) 43), (43, o_callVc 107 3 (hX12_isIn) 46), (46, oi_eq 69 49), (49, o_aload 0 50), (50, o_iload 2 51), (51, o_push (.int (0 : Int32)) 52), (52, o_push (.int (9 : Int32)) 54), (54, o_callVc 107 3 (hX12_isIn) 57), (57, oi_eq 69 60), (60, o_aload 0 61), (61, o_gIc 107 55 64), (64, o_push (.int (12 : Int32)) 66), (66, oc_ne 71 69), (69, o_push (.int (-1 : Int32)) 70), (70, o_iret), (71, o_aload 0 72), (72, o_gRc 107 139 75), (75, o_iload 1 76), (76, o_aload 0 77), (77, o_gRc 107 139 80), (80, o_iload 1 81), (81, o_aldc 139 10 82), (82, o_push (.int (1 : Int32)) 83), (83, o_iload 2 84), (84, o_ishl 85), (85, o_ior 86), (86, o_iastc 139 10 87), (87, o_aload 0 88), (88, o_aload 0 89), (89, o_gIc 107 55 92), (92, o_push (.int (1 : Int32)) 93), (93, o_iadd 94), (94, o_pIc 107 55 97), (97, o_aload 0 98), (98, o_gIc 107 55 101), (101, o_iret)]
set_option maxRecDepth 200000 in
theorem iX12_key {l : Launch} {w : nW} (N : Nat) {G : nG} (hG : n_GOK G) : n_AllS l w 1 mX12_key G (n_fin dv_i G) (aX12_key N) :=
  n_c (s_aload_n (pc := 0) (k := 0) (by decide +kernel)) <|
  n_c (s_iconst (pc := 1) (n := 0) (by decide +kernel) (by decide +kernel)) <|
  n_c (s_pIc (s_putI (pc := 2) (ci := 12) (k := 0) (idx := 146) nok12 (by decide) rfl rfl (by decide +kernel) w_1407) (gk107 hG)) <|
  n_c (s_iload_n (pc := 5) (k := 1) (by decide +kernel)) <|
  n_c (s_iconst (pc := 6) (n := -1) (by decide +kernel) (by decide +kernel)) <|
  n_c (s_icmp_ne (pc := 7) (off := 31) (by decide +kernel) (by decide +kernel)) <|
  n_c (s_aload_n (pc := 10) (k := 0) (by decide +kernel)) <|
  n_c (s_iconst (pc := 11) (n := 0) (by decide +kernel) (by decide +kernel)) <|
  n_c (s_pIc (s_putI (pc := 12) (ci := 12) (k := 55) (idx := 452) nok12 (by decide) rfl rfl (by decide +kernel) w_1462) (gk107 hG)) <|
  n_c (s_iconst (pc := 15) (n := 0) (by decide +kernel) (by decide +kernel)) <|
  n_c (s_istore_n (pc := 16) (k := 3) (by decide +kernel)) <|
  n_c (s_iload_n (pc := 17) (k := 3) (by decide +kernel)) <|
  n_c (s_bipush (pc := 18) (n := 10) (by decide +kernel) (by decide +kernel)) <|
  n_c (s_icmp_ge (pc := 20) (off := 16) (by decide +kernel) (by decide +kernel)) <|
  n_c (s_aload_n (pc := 23) (k := 0) (by decide +kernel)) <|
  n_c (s_gRc (s_getR (pc := 24) (ci := 12) (k := 56) (idx := 107) nok12 (by decide) rfl (by decide +kernel) w_1463) (gk107 hG) (gm107_56 hG)) <|
  n_c (s_iload_n (pc := 27) (k := 3) (by decide +kernel)) <|
  n_c (s_iconst (pc := 28) (n := 0) (by decide +kernel) (by decide +kernel)) <|
  n_c (s_iastc (s_iastore (pc := 29) (by decide +kernel)) (gk139 hG) (gl139 hG)) <|
  n_c (s_iinc (pc := 30) (n := 1) (by decide +kernel) (by decide +kernel)) <|
  n_c (s_goto (pc := 33) (off := -16) (by decide +kernel) (by decide +kernel)) <|
  n_c (s_iconst (pc := 36) (n := 0) (by decide +kernel) (by decide +kernel)) <|
  n_c (s_iret (pc := 37) rfl (by decide +kernel)) <|
  n_c (s_aload_n (pc := 38) (k := 0) (by decide +kernel)) <|
  n_c (s_iload_n (pc := 39) (k := 1) (by decide +kernel)) <|
  n_c (s_iconst (pc := 40) (n := 0) (by decide +kernel) (by decide +kernel)) <|
  n_c (s_bipush (pc := 41) (n := 9) (by decide +kernel) (by decide +kernel)) <|
  n_c (s_callVc (s_callV (pc := 43) (csX12_isIn) (by decide) okX12_isIn nok12 w_1659 w_46 w_1657 (by decide +kernel)) (gk107 hG)) <|
  n_c (s_if_eq (pc := 46) (off := 23) (by decide +kernel) (by decide +kernel)) <|
  n_c (s_aload_n (pc := 49) (k := 0) (by decide +kernel)) <|
  n_c (s_iload_n (pc := 50) (k := 2) (by decide +kernel)) <|
  n_c (s_iconst (pc := 51) (n := 0) (by decide +kernel) (by decide +kernel)) <|
  n_c (s_bipush (pc := 52) (n := 9) (by decide +kernel) (by decide +kernel)) <|
  n_c (s_callVc (s_callV (pc := 54) (csX12_isIn) (by decide) okX12_isIn nok12 w_1659 w_46 w_1657 (by decide +kernel)) (gk107 hG)) <|
  n_c (s_if_eq (pc := 57) (off := 12) (by decide +kernel) (by decide +kernel)) <|
  n_c (s_aload_n (pc := 60) (k := 0) (by decide +kernel)) <|
  n_c (s_gIc (s_getI (pc := 61) (ci := 12) (k := 55) (idx := 452) nok12 (by decide) rfl (by decide +kernel) w_1462) (gk107 hG)) <|
  n_c (s_bipush (pc := 64) (n := 12) (by decide +kernel) (by decide +kernel)) <|
  n_c (s_icmp_ne (pc := 66) (off := 5) (by decide +kernel) (by decide +kernel)) <|
  n_c (s_iconst (pc := 69) (n := -1) (by decide +kernel) (by decide +kernel)) <|
  n_c (s_iret (pc := 70) rfl (by decide +kernel)) <|
  n_c (s_aload_n (pc := 71) (k := 0) (by decide +kernel)) <|
  n_c (s_gRc (s_getR (pc := 72) (ci := 12) (k := 56) (idx := 107) nok12 (by decide) rfl (by decide +kernel) w_1463) (gk107 hG) (gm107_56 hG)) <|
  n_c (s_iload_n (pc := 75) (k := 1) (by decide +kernel)) <|
  n_c (s_aload_n (pc := 76) (k := 0) (by decide +kernel)) <|
  n_c (s_gRc (s_getR (pc := 77) (ci := 12) (k := 56) (idx := 107) nok12 (by decide) rfl (by decide +kernel) w_1463) (gk107 hG) (gm107_56 hG)) <|
  n_c (s_iload_n (pc := 80) (k := 1) (by decide +kernel)) <|
  n_c (s_aldc (s_iaload (pc := 81) (by decide +kernel)) (gk139 hG) (gl139 hG)) <|
  n_c (s_iconst (pc := 82) (n := 1) (by decide +kernel) (by decide +kernel)) <|
  n_c (s_iload_n (pc := 83) (k := 2) (by decide +kernel)) <|
  n_c (s_ishl (pc := 84) (by decide +kernel)) <|
  n_c (s_ior (pc := 85) (by decide +kernel)) <|
  n_c (s_iastc (s_iastore (pc := 86) (by decide +kernel)) (gk139 hG) (gl139 hG)) <|
  n_c (s_aload_n (pc := 87) (k := 0) (by decide +kernel)) <|
  n_c (s_aload_n (pc := 88) (k := 0) (by decide +kernel)) <|
  n_c (s_gIc (s_getI (pc := 89) (ci := 12) (k := 55) (idx := 452) nok12 (by decide) rfl (by decide +kernel) w_1462) (gk107 hG)) <|
  n_c (s_iconst (pc := 92) (n := 1) (by decide +kernel) (by decide +kernel)) <|
  n_c (s_iadd (pc := 93) (by decide +kernel)) <|
  n_c (s_pIc (s_putI (pc := 94) (ci := 12) (k := 55) (idx := 452) nok12 (by decide) rfl rfl (by decide +kernel) w_1462) (gk107 hG)) <|
  n_c (s_aload_n (pc := 97) (k := 0) (by decide +kernel)) <|
  n_c (s_gIc (s_getI (pc := 98) (ci := 12) (k := 55) (idx := 452) nok12 (by decide) rfl (by decide +kernel) w_1462) (gk107 hG)) <|
  n_c (s_iret (pc := 101) rfl (by decide +kernel)) <|
  n_e
def fX12_key_17 (N : Nat) : Nat → Int32 → nM → Option (Int32 × nM)
  | 0, _, _ => none
  | n + 1, x3, M =>
    if (10 : Int32) ≤ x3 then
      some ((0 : Int32), M)
    else
      n_chk (n_ib 10 x3) <|
      let M1 : nM := n_up M 139 x3.toNatClampNeg (0 : Int32)
      let v2 : Int32 := (x3 + (1 : Int32))
      fX12_key_17 N n v2 M1
set_option maxRecDepth 200000 in
theorem bX12_key_17 {l : Launch} {w : nW} (N : Nat) {G : nG} (hG : n_GOK G) : ∀ (n : Nat) (x3 : Int32) (M : nM) (r : Int32 × nM), fX12_key_17 N n x3 M = some r → n_At l w 1 mX12_key 17 [(0, .ref 107), (3, .int x3)] [] (G, M) (dv_i r.1, (G, r.2)) := by
  intro n
  induction n with
  | zero => intro x3 M r h; cases (show (none : Option (Int32 × nM)) = some r from h)
  | succ n ih =>
    intro x3 M r h
    exact n_seg (fin := n_fin dv_i G) (K := [(17, fun lv st M => n_lC 107 lv 0 (n_lI lv 3 (fun x3 => n_pE st (fX12_key_17 N n x3 M))))]) 15 (iX12_key N hG) (n_kc (fun lv st M r h => by
      obtain ⟨e0, h1⟩ := n_lC_x h
      obtain ⟨x3, e3, h2⟩ := n_lI_x h1
      obtain ⟨rfl, h3⟩ := n_pE_x h2
      exact n_sub (n_qc e0 (n_qc e3 n_qe)) (ih x3 M r h3)) n_ke) (by rfl) h
def fX12_key (N : Nat) (x1 : Int32) (x2 : Int32) (M : nM) : Option (Int32 × nM) :=
  let M1 : nM := n_up M 107 0 (0 : Int32)
  if ¬ x1 = (-1 : Int32) then
    (fX12_isIn x1 (0 : Int32) (9 : Int32) M1).bind fun p2 =>
    if p2.1 = 0 then
      some ((-1 : Int32), p2.2)
    else
      (fX12_isIn x2 (0 : Int32) (9 : Int32) p2.2).bind fun p3 =>
      if p3.1 = 0 then
        some ((-1 : Int32), p3.2)
      else
        if ¬ (p3.2 107 55) = (12 : Int32) then
          n_chk (n_ib 10 x1) <|
          n_chk (n_ib 10 x1) <|
          let M4 : nM := n_up p3.2 139 x1.toNatClampNeg ((p3.2 139 x1.toNatClampNeg) ||| ((1 : Int32) <<< (x2 &&& 31)))
          let M5 : nM := n_up M4 107 55 ((M4 107 55) + (1 : Int32))
          some ((M5 107 55), M5)
        else
          some ((-1 : Int32), p3.2)
  else
    let M6 : nM := n_up M1 107 55 (0 : Int32)
    fX12_key_17 N N (0 : Int32) M6
set_option maxRecDepth 200000 in
theorem bX12_key_0 {l : Launch} {w : nW} (N : Nat) {G : nG} (hG : n_GOK G) (x1 : Int32) (x2 : Int32) (M : nM) (r : Int32 × nM) (h : fX12_key N x1 x2 M = some r) : n_At l w 1 mX12_key 0 [(0, .ref 107), (1, .int x1), (2, .int x2)] [] (G, M) (dv_i r.1, (G, r.2)) :=
  n_seg (fin := n_fin dv_i G) (K := [(17, fun lv st M => n_lC 107 lv 0 (n_lI lv 3 (fun x3 => n_pE st (fX12_key_17 N N x3 M))))]) 57 (iX12_key N hG) (n_kc (fun lv st M r h => by
      obtain ⟨e0, h1⟩ := n_lC_x h
      obtain ⟨x3, e3, h2⟩ := n_lI_x h1
      obtain ⟨rfl, h3⟩ := n_pE_x h2
      exact n_sub (n_qc e0 (n_qc e3 n_qe)) (bX12_key_17 N hG N x3 M r h3)) n_ke) (by rfl) h
theorem eX12_key {l : Launch} {w : nW} (N : Nat) {G : nG} (hG : n_GOK G) (z1 : Int32) (z2 : Int32) (M : nM) (r : Int32 × nM) (h : fX12_key N z1 z2 M = some r) : n_Met l w 1 mX12_key [.ref 107, .int z1, .int z2] (G, M) (dv_i r.1, (G, r.2)) :=
  n_entry (by decide +kernel) rfl (Nat.le_of_ble_eq_true rfl) (n_sub (lv := [(0, .ref 107), (1, .int z1), (2, .int z2)]) (n_qc rfl (n_qc rfl (n_qc rfl n_qe))) (bX12_key_0 N hG z1 z2 M r h))
abbrev hX12_key (N : Nat) : nF := fun T as M k => n_pC 107 as (fun as => n_pI as (fun z1 as => n_pI as (fun z2 as => n_pE as ((fX12_key N z1 z2 M).bind fun p => k (dv_i p.1) p.2))))
theorem csX12_key {l : Launch} {w : nW} (N : Nat) {G : nG} (hG : n_GOK G) : n_CS l w 1 mX12_key G (hX12_key N) := fun T as M k r h => by
  obtain ⟨t0, rfl, h1⟩ := n_pC_x h
  obtain ⟨z1, t1, rfl, h2⟩ := n_pI_x h1
  obtain ⟨z2, t2, rfl, h3⟩ := n_pI_x h2
  obtain ⟨rfl, hE⟩ := n_pE_x h3
  obtain ⟨p, hp, hk⟩ := Option.bind_eq_some_iff.mp hE
  exact ⟨_, _, eX12_key N hG z1 z2 M p hp, hk⟩
/-! ===== SleightHouse$Thought.openedFrom(I)I ===== -/
def mX9_openedFrom : nY := (RX9, yX9_openedFrom, cX9_openedFrom, 5, some .int)
theorem okX9_openedFrom : n_MOK mX9_openedFrom 1 := ⟨w_1201, w_149, ⟨by decide +kernel, by decide +kernel, by decide +kernel⟩, by decide⟩
abbrev aX9_openedFrom (N : Nat) (G : nG) : List (Nat × nO (Int32 × nM)) := [(0, o_iload 1 1), (1, o_istore 5 2 2), (2, o_push (.int (0 : Int32)) 3), (3, o_istore 5 3 4), (4, o_iload 3 5), (5, o_push (.int (10 : Int32)) 7), (7, oc_ge 79 10), (10, o_push (.int (0 : Int32)) 11), (11, o_istore 5 4 13), (13, o_iload 4 15), (15, o_aload 0 16), (16, o_gRc 98 28 19), (19, o_gRc 28 35 22), (22, o_gIc 35 3 25), (25, oc_ge 73 28), (28, o_iload 2 29), (29, o_aload 0 30), (30, o_gRc 98 28 33), (33, o_gRc 28 35 36), (36, o_iload 4 38), (38, o_push (.int (0 : Int32)) 39), (39, o_callVc 35 2 (hX7_cell G) 42), (42, o_call 2 (hX4_hasBit) 45), (45, oi_eq 67 48), (48, o_iload 2 49), (49, o_aload 0 50), (50, o_gRc 98 28 53), (53, o_gRc 28 35 56), (56, o_iload 4 58), (58, o_push (.int (1 : Int32)) 59), (59, o_callVc 35 2 (hX7_cell G) 62), (62, o_push (.int (1 : Int32)) 63), (63, o_call 3 (hX4_withBit) 66), (66, o_istore 5 2 67), (67, o_inc 5 4 (1 : Int32) 70), (70, o_goto 13), (73, o_inc 5 3 (1 : Int32) 76), (76, o_goto 4), (79, o_iload 2 80), (80, o_iret)]
set_option maxRecDepth 200000 in
theorem iX9_openedFrom {l : Launch} {w : nW} (N : Nat) {G : nG} (hG : n_GOK G) : n_AllS l w 2 mX9_openedFrom G (n_fin dv_i G) (aX9_openedFrom N G) :=
  n_c (s_iload_n (pc := 0) (k := 1) (by decide +kernel)) <|
  n_c (s_istore_n (pc := 1) (k := 2) (by decide +kernel)) <|
  n_c (s_iconst (pc := 2) (n := 0) (by decide +kernel) (by decide +kernel)) <|
  n_c (s_istore_n (pc := 3) (k := 3) (by decide +kernel)) <|
  n_c (s_iload_n (pc := 4) (k := 3) (by decide +kernel)) <|
  n_c (s_bipush (pc := 5) (n := 10) (by decide +kernel) (by decide +kernel)) <|
  n_c (s_icmp_ge (pc := 7) (off := 72) (by decide +kernel) (by decide +kernel)) <|
  n_c (s_iconst (pc := 10) (n := 0) (by decide +kernel) (by decide +kernel)) <|
  n_c (s_istore (pc := 11) (by decide +kernel)) <|
  n_c (s_iload (pc := 13) (by decide +kernel)) <|
  n_c (s_aload_n (pc := 15) (k := 0) (by decide +kernel)) <|
  n_c (s_gRc (s_getR (pc := 16) (ci := 9) (k := 0) (idx := 18) nok9 (by decide) rfl (by decide +kernel) w_537) (gk98 hG) (gm98_0 hG)) <|
  n_c (s_gRc (s_getR (pc := 19) (ci := 10) (k := 3) (idx := 76) nok10 (by decide) rfl (by decide +kernel) w_367) (gk28 hG) (gm28_3 hG)) <|
  n_c (s_gIc (s_getI (pc := 22) (ci := 7) (k := 3) (idx := 28) nok7 (by decide) rfl (by decide +kernel) w_304) (gk35 hG)) <|
  n_c (s_icmp_ge (pc := 25) (off := 48) (by decide +kernel) (by decide +kernel)) <|
  n_c (s_iload_n (pc := 28) (k := 2) (by decide +kernel)) <|
  n_c (s_aload_n (pc := 29) (k := 0) (by decide +kernel)) <|
  n_c (s_gRc (s_getR (pc := 30) (ci := 9) (k := 0) (idx := 18) nok9 (by decide) rfl (by decide +kernel) w_537) (gk98 hG) (gm98_0 hG)) <|
  n_c (s_gRc (s_getR (pc := 33) (ci := 10) (k := 3) (idx := 76) nok10 (by decide) rfl (by decide +kernel) w_367) (gk28 hG) (gm28_3 hG)) <|
  n_c (s_iload (pc := 36) (by decide +kernel)) <|
  n_c (s_iconst (pc := 38) (n := 0) (by decide +kernel) (by decide +kernel)) <|
  n_c (s_callVc (s_callV (pc := 39) (csX7_cell) (by decide) okX7_cell nok7 w_786 w_787 w_1145 (by decide +kernel)) (gk35 hG)) <|
  n_c (s_callS (pc := 42) (csX4_hasBit) (by decide) okX4_hasBit w_675 w_1139 (by decide +kernel)) <|
  n_c (s_if_eq (pc := 45) (off := 22) (by decide +kernel) (by decide +kernel)) <|
  n_c (s_iload_n (pc := 48) (k := 2) (by decide +kernel)) <|
  n_c (s_aload_n (pc := 49) (k := 0) (by decide +kernel)) <|
  n_c (s_gRc (s_getR (pc := 50) (ci := 9) (k := 0) (idx := 18) nok9 (by decide) rfl (by decide +kernel) w_537) (gk98 hG) (gm98_0 hG)) <|
  n_c (s_gRc (s_getR (pc := 53) (ci := 10) (k := 3) (idx := 76) nok10 (by decide) rfl (by decide +kernel) w_367) (gk28 hG) (gm28_3 hG)) <|
  n_c (s_iload (pc := 56) (by decide +kernel)) <|
  n_c (s_iconst (pc := 58) (n := 1) (by decide +kernel) (by decide +kernel)) <|
  n_c (s_callVc (s_callV (pc := 59) (csX7_cell) (by decide) okX7_cell nok7 w_786 w_787 w_1145 (by decide +kernel)) (gk35 hG)) <|
  n_c (s_iconst (pc := 62) (n := 1) (by decide +kernel) (by decide +kernel)) <|
  n_c (s_callS (pc := 63) (csX4_withBit) (by decide) okX4_withBit w_625 w_1140 (by decide +kernel)) <|
  n_c (s_istore_n (pc := 66) (k := 2) (by decide +kernel)) <|
  n_c (s_iinc (pc := 67) (n := 1) (by decide +kernel) (by decide +kernel)) <|
  n_c (s_goto (pc := 70) (off := -57) (by decide +kernel) (by decide +kernel)) <|
  n_c (s_iinc (pc := 73) (n := 1) (by decide +kernel) (by decide +kernel)) <|
  n_c (s_goto (pc := 76) (off := -72) (by decide +kernel) (by decide +kernel)) <|
  n_c (s_iload_n (pc := 79) (k := 2) (by decide +kernel)) <|
  n_c (s_iret (pc := 80) rfl (by decide +kernel)) <|
  n_e
def fX9_openedFrom_13 (N : Nat) (G : nG) (k4 : Int32 → Int32 → nM → Option (Int32 × nM)) : Nat → Int32 → Int32 → Int32 → nM → Option (Int32 × nM)
  | 0, _, _, _, _ => none
  | n + 1, x2, x3, x4, M =>
    if (M 35 3) ≤ x4 then
      let v1 : Int32 := (x3 + (1 : Int32))
      k4 x2 v1 M
    else
      (fX7_cell G 35 x4 (0 : Int32) M).bind fun p2 =>
      (fX4_hasBit x2 p2.1 p2.2).bind fun p3 =>
      if p3.1 = 0 then
        let v4 : Int32 := (x4 + (1 : Int32))
        fX9_openedFrom_13 N G k4 n x2 x3 v4 p3.2
      else
        (fX7_cell G 35 x4 (1 : Int32) p3.2).bind fun p5 =>
        (fX4_withBit x2 p5.1 (1 : Int32) p5.2).bind fun p6 =>
        let v7 : Int32 := (x4 + (1 : Int32))
        fX9_openedFrom_13 N G k4 n p6.1 x3 v7 p6.2
set_option maxRecDepth 200000 in
theorem bX9_openedFrom_13 {l : Launch} {w : nW} (N : Nat) {G : nG} (hG : n_GOK G) (k4 : Int32 → Int32 → nM → Option (Int32 × nM)) (hk4 : ∀ (x2 : Int32) (x3 : Int32) (M : nM) (r : Int32 × nM), k4 x2 x3 M = some r → n_At l w 2 mX9_openedFrom 4 [(0, .ref 98), (2, .int x2), (3, .int x3)] [] (G, M) (dv_i r.1, (G, r.2))) : ∀ (n : Nat) (x2 : Int32) (x3 : Int32) (x4 : Int32) (M : nM) (r : Int32 × nM), fX9_openedFrom_13 N G k4 n x2 x3 x4 M = some r → n_At l w 2 mX9_openedFrom 13 [(0, .ref 98), (2, .int x2), (3, .int x3), (4, .int x4)] [] (G, M) (dv_i r.1, (G, r.2)) := by
  intro n
  induction n with
  | zero => intro x2 x3 x4 M r h; cases (show (none : Option (Int32 × nM)) = some r from h)
  | succ n ih =>
    intro x2 x3 x4 M r h
    exact n_seg (fin := n_fin dv_i G) (K := [(4, fun lv st M => n_lC 98 lv 0 (n_lI lv 2 (fun x2 => n_lI lv 3 (fun x3 => n_pE st (k4 x2 x3 M))))), (13, fun lv st M => n_lC 98 lv 0 (n_lI lv 2 (fun x2 => n_lI lv 3 (fun x3 => n_lI lv 4 (fun x4 => n_pE st (fX9_openedFrom_13 N G k4 n x2 x3 x4 M))))))]) 34 (iX9_openedFrom N hG) (n_kc (fun lv st M r h => by
      obtain ⟨e0, h1⟩ := n_lC_x h
      obtain ⟨x2, e2, h2⟩ := n_lI_x h1
      obtain ⟨x3, e3, h3⟩ := n_lI_x h2
      obtain ⟨rfl, h4⟩ := n_pE_x h3
      exact n_sub (n_qc e0 (n_qc e2 (n_qc e3 n_qe))) (hk4 x2 x3 M r h4)) (n_kc (fun lv st M r h => by
      obtain ⟨e0, h1⟩ := n_lC_x h
      obtain ⟨x2, e2, h2⟩ := n_lI_x h1
      obtain ⟨x3, e3, h3⟩ := n_lI_x h2
      obtain ⟨x4, e4, h4⟩ := n_lI_x h3
      obtain ⟨rfl, h5⟩ := n_pE_x h4
      exact n_sub (n_qc e0 (n_qc e2 (n_qc e3 (n_qc e4 n_qe)))) (ih x2 x3 x4 M r h5)) n_ke)) (by rfl) h
def fX9_openedFrom_4 (N : Nat) (G : nG) : Nat → Int32 → Int32 → nM → Option (Int32 × nM)
  | 0, _, _, _ => none
  | n + 1, x2, x3, M =>
    if (10 : Int32) ≤ x3 then
      some (x2, M)
    else
      fX9_openedFrom_13 N G (fun x2 x3 M => fX9_openedFrom_4 N G n x2 x3 M) N x2 x3 (0 : Int32) M
set_option maxRecDepth 200000 in
theorem bX9_openedFrom_4 {l : Launch} {w : nW} (N : Nat) {G : nG} (hG : n_GOK G) : ∀ (n : Nat) (x2 : Int32) (x3 : Int32) (M : nM) (r : Int32 × nM), fX9_openedFrom_4 N G n x2 x3 M = some r → n_At l w 2 mX9_openedFrom 4 [(0, .ref 98), (2, .int x2), (3, .int x3)] [] (G, M) (dv_i r.1, (G, r.2)) := by
  intro n
  induction n with
  | zero => intro x2 x3 M r h; cases (show (none : Option (Int32 × nM)) = some r from h)
  | succ n ih =>
    intro x2 x3 M r h
    exact n_seg (fin := n_fin dv_i G) (K := [(13, fun lv st M => n_lC 98 lv 0 (n_lI lv 2 (fun x2 => n_lI lv 3 (fun x3 => n_lI lv 4 (fun x4 => n_pE st (fX9_openedFrom_13 N G (fun x2 x3 M => fX9_openedFrom_4 N G n x2 x3 M) N x2 x3 x4 M))))))]) 10 (iX9_openedFrom N hG) (n_kc (fun lv st M r h => by
      obtain ⟨e0, h1⟩ := n_lC_x h
      obtain ⟨x2, e2, h2⟩ := n_lI_x h1
      obtain ⟨x3, e3, h3⟩ := n_lI_x h2
      obtain ⟨x4, e4, h4⟩ := n_lI_x h3
      obtain ⟨rfl, h5⟩ := n_pE_x h4
      exact n_sub (n_qc e0 (n_qc e2 (n_qc e3 (n_qc e4 n_qe)))) (bX9_openedFrom_13 N hG (fun x2 x3 M => fX9_openedFrom_4 N G n x2 x3 M) ih N x2 x3 x4 M r h5)) n_ke) (by rfl) h
def fX9_openedFrom (N : Nat) (G : nG) (x1 : Int32) (M : nM) : Option (Int32 × nM) :=
  fX9_openedFrom_4 N G N x1 (0 : Int32) M
set_option maxRecDepth 200000 in
theorem bX9_openedFrom_0 {l : Launch} {w : nW} (N : Nat) {G : nG} (hG : n_GOK G) (x1 : Int32) (M : nM) (r : Int32 × nM) (h : fX9_openedFrom N G x1 M = some r) : n_At l w 2 mX9_openedFrom 0 [(0, .ref 98), (1, .int x1)] [] (G, M) (dv_i r.1, (G, r.2)) :=
  n_seg (fin := n_fin dv_i G) (K := [(4, fun lv st M => n_lC 98 lv 0 (n_lI lv 2 (fun x2 => n_lI lv 3 (fun x3 => n_pE st (fX9_openedFrom_4 N G N x2 x3 M)))))]) 7 (iX9_openedFrom N hG) (n_kc (fun lv st M r h => by
      obtain ⟨e0, h1⟩ := n_lC_x h
      obtain ⟨x2, e2, h2⟩ := n_lI_x h1
      obtain ⟨x3, e3, h3⟩ := n_lI_x h2
      obtain ⟨rfl, h4⟩ := n_pE_x h3
      exact n_sub (n_qc e0 (n_qc e2 (n_qc e3 n_qe))) (bX9_openedFrom_4 N hG N x2 x3 M r h4)) n_ke) (by rfl) h
theorem eX9_openedFrom {l : Launch} {w : nW} (N : Nat) {G : nG} (hG : n_GOK G) (z1 : Int32) (M : nM) (r : Int32 × nM) (h : fX9_openedFrom N G z1 M = some r) : n_Met l w 2 mX9_openedFrom [.ref 98, .int z1] (G, M) (dv_i r.1, (G, r.2)) :=
  n_entry (by decide +kernel) rfl (Nat.le_of_ble_eq_true rfl) (n_sub (lv := [(0, .ref 98), (1, .int z1)]) (n_qc rfl (n_qc rfl n_qe)) (bX9_openedFrom_0 N hG z1 M r h))
abbrev hX9_openedFrom (N : Nat) (G : nG) : nF := fun T as M k => n_pC 98 as (fun as => n_pI as (fun z1 as => n_pE as ((fX9_openedFrom N G z1 M).bind fun p => k (dv_i p.1) p.2)))
theorem csX9_openedFrom {l : Launch} {w : nW} (N : Nat) {G : nG} (hG : n_GOK G) : n_CS l w 2 mX9_openedFrom G (hX9_openedFrom N G) := fun T as M k r h => by
  obtain ⟨t0, rfl, h1⟩ := n_pC_x h
  obtain ⟨z1, t1, rfl, h2⟩ := n_pI_x h1
  obtain ⟨rfl, hE⟩ := n_pE_x h2
  obtain ⟨p, hp, hk⟩ := Option.bind_eq_some_iff.mp hE
  exact ⟨_, _, eX9_openedFrom N hG z1 M p hp, hk⟩
/-! ===== SleightHouse$Thought.fewestForced()I ===== -/
def mX9_fewestForced : nY := (RX9, yX9_fewestForced, cX9_fewestForced, 6, some .int)
theorem okX9_fewestForced : n_MOK mX9_fewestForced 0 := ⟨w_1197, w_149, ⟨by decide +kernel, by decide +kernel, by decide +kernel⟩, by decide⟩
abbrev aX9_fewestForced (N : Nat) (G : nG) : List (Nat × nO (Int32 × nM)) := [(0, o_push (.int (0 : Int32)) 1), (1, o_istore 6 1 2), (2, o_iload 1 3), (3, o_push (.int (10 : Int32)) 5), (5, oc_ge 27 8), (8, o_aload 0 9), (9, o_gRc 98 99 12), (12, o_iload 1 13), (13, o_aload 0 14), (14, o_push (.int (1 : Int32)) 15), (15, o_iload 1 16), (16, o_ishl 17), (17, o_callVc 98 1 (hX9_openedFrom N G) 20), (20, o_iastc 99 256 21), (21, o_inc 6 1 (1 : Int32) 24), (24, o_goto 2), (27, o_push (.int (0 : Int32)) 28), (28, o_istore 6 1 29), (29, o_push (.int (0 : Int32)) 30), (30, o_istore 6 2 31), (31, o_iload 2 32), (32, o_push (.int (10 : Int32)) 34), (34, oc_ge 122 37), (37, o_push (.int (1 : Int32)) 38), (38, o_istore 6 3 39), (39, o_push (.int (0 : Int32)) 40), (40, o_istore 6 4 42), (42, o_iload 4 44), (44, o_push (.int (10 : Int32)) 46), (46, oc_ge 109 49), (49, o_iload 4 51), (51, o_iload 2 52), (52, oc_eq 73 55), (55, o_aload 0 56), (56, o_gRc 98 99 59), (59, o_iload 4 61), (61, o_aldc 99 256 62), (62, o_iload 2 63), (63, o_call 2 (hX4_hasBit) 66), (66, oi_eq 73 69), (69, o_push (.int (1 : Int32)) 70), (70, o_goto 74), (73, o_push (.int (0 : Int32)) 74), (74, o_istore 6 5 76), (76, o_iload 5 78), (78, oi_eq 103 81), (81, o_iload 4 83), (83, o_iload 2 84), (84, oc_lt 101 87), (87, o_aload 0 88), (88, o_gRc 98 99 91), (91, o_iload 2 92), (92, o_aldc 99 256 93), (93, o_iload 4 95), (95, o_call 2 (hX4_hasBit) 98), (98, oi_ne 103 101), (101, o_push (.int (0 : Int32)) 102), (102, o_istore 6 3 103), (103, o_inc 6 4 (1 : Int32) 106), (106, o_goto 42), (109, o_iload 3 110), (110, oi_eq 116 113), (113, o_inc 6 1 (1 : Int32) 116), (116, o_inc 6 2 (1 : Int32) 119), (119, o_goto 31), (122, o_iload 1 123), (123, o_iret)]
set_option maxRecDepth 200000 in
theorem iX9_fewestForced {l : Launch} {w : nW} (N : Nat) {G : nG} (hG : n_GOK G) : n_AllS l w 3 mX9_fewestForced G (n_fin dv_i G) (aX9_fewestForced N G) :=
  n_c (s_iconst (pc := 0) (n := 0) (by decide +kernel) (by decide +kernel)) <|
  n_c (s_istore_n (pc := 1) (k := 1) (by decide +kernel)) <|
  n_c (s_iload_n (pc := 2) (k := 1) (by decide +kernel)) <|
  n_c (s_bipush (pc := 3) (n := 10) (by decide +kernel) (by decide +kernel)) <|
  n_c (s_icmp_ge (pc := 5) (off := 22) (by decide +kernel) (by decide +kernel)) <|
  n_c (s_aload_n (pc := 8) (k := 0) (by decide +kernel)) <|
  n_c (s_gRc (s_getR (pc := 9) (ci := 9) (k := 1) (idx := 9) nok9 (by decide) rfl (by decide +kernel) w_538) (gk98 hG) (gm98_1 hG)) <|
  n_c (s_iload_n (pc := 12) (k := 1) (by decide +kernel)) <|
  n_c (s_aload_n (pc := 13) (k := 0) (by decide +kernel)) <|
  n_c (s_iconst (pc := 14) (n := 1) (by decide +kernel) (by decide +kernel)) <|
  n_c (s_iload_n (pc := 15) (k := 1) (by decide +kernel)) <|
  n_c (s_ishl (pc := 16) (by decide +kernel)) <|
  n_c (s_callVc (s_callV (pc := 17) (csX9_openedFrom N hG) (by decide) okX9_openedFrom nok9 w_1199 w_1200 w_1198 (by decide +kernel)) (gk98 hG)) <|
  n_c (s_iastc (s_iastore (pc := 20) (by decide +kernel)) (gk99 hG) (gl99 hG)) <|
  n_c (s_iinc (pc := 21) (n := 1) (by decide +kernel) (by decide +kernel)) <|
  n_c (s_goto (pc := 24) (off := -22) (by decide +kernel) (by decide +kernel)) <|
  n_c (s_iconst (pc := 27) (n := 0) (by decide +kernel) (by decide +kernel)) <|
  n_c (s_istore_n (pc := 28) (k := 1) (by decide +kernel)) <|
  n_c (s_iconst (pc := 29) (n := 0) (by decide +kernel) (by decide +kernel)) <|
  n_c (s_istore_n (pc := 30) (k := 2) (by decide +kernel)) <|
  n_c (s_iload_n (pc := 31) (k := 2) (by decide +kernel)) <|
  n_c (s_bipush (pc := 32) (n := 10) (by decide +kernel) (by decide +kernel)) <|
  n_c (s_icmp_ge (pc := 34) (off := 88) (by decide +kernel) (by decide +kernel)) <|
  n_c (s_iconst (pc := 37) (n := 1) (by decide +kernel) (by decide +kernel)) <|
  n_c (s_istore_n (pc := 38) (k := 3) (by decide +kernel)) <|
  n_c (s_iconst (pc := 39) (n := 0) (by decide +kernel) (by decide +kernel)) <|
  n_c (s_istore (pc := 40) (by decide +kernel)) <|
  n_c (s_iload (pc := 42) (by decide +kernel)) <|
  n_c (s_bipush (pc := 44) (n := 10) (by decide +kernel) (by decide +kernel)) <|
  n_c (s_icmp_ge (pc := 46) (off := 63) (by decide +kernel) (by decide +kernel)) <|
  n_c (s_iload (pc := 49) (by decide +kernel)) <|
  n_c (s_iload_n (pc := 51) (k := 2) (by decide +kernel)) <|
  n_c (s_icmp_eq (pc := 52) (off := 21) (by decide +kernel) (by decide +kernel)) <|
  n_c (s_aload_n (pc := 55) (k := 0) (by decide +kernel)) <|
  n_c (s_gRc (s_getR (pc := 56) (ci := 9) (k := 1) (idx := 9) nok9 (by decide) rfl (by decide +kernel) w_538) (gk98 hG) (gm98_1 hG)) <|
  n_c (s_iload (pc := 59) (by decide +kernel)) <|
  n_c (s_aldc (s_iaload (pc := 61) (by decide +kernel)) (gk99 hG) (gl99 hG)) <|
  n_c (s_iload_n (pc := 62) (k := 2) (by decide +kernel)) <|
  n_c (s_callS (pc := 63) (csX4_hasBit) (by decide) okX4_hasBit w_675 w_1139 (by decide +kernel)) <|
  n_c (s_if_eq (pc := 66) (off := 7) (by decide +kernel) (by decide +kernel)) <|
  n_c (s_iconst (pc := 69) (n := 1) (by decide +kernel) (by decide +kernel)) <|
  n_c (s_goto (pc := 70) (off := 4) (by decide +kernel) (by decide +kernel)) <|
  n_c (s_iconst (pc := 73) (n := 0) (by decide +kernel) (by decide +kernel)) <|
  n_c (s_istore (pc := 74) (by decide +kernel)) <|
  n_c (s_iload (pc := 76) (by decide +kernel)) <|
  n_c (s_if_eq (pc := 78) (off := 25) (by decide +kernel) (by decide +kernel)) <|
  n_c (s_iload (pc := 81) (by decide +kernel)) <|
  n_c (s_iload_n (pc := 83) (k := 2) (by decide +kernel)) <|
  n_c (s_icmp_lt (pc := 84) (off := 17) (by decide +kernel) (by decide +kernel)) <|
  n_c (s_aload_n (pc := 87) (k := 0) (by decide +kernel)) <|
  n_c (s_gRc (s_getR (pc := 88) (ci := 9) (k := 1) (idx := 9) nok9 (by decide) rfl (by decide +kernel) w_538) (gk98 hG) (gm98_1 hG)) <|
  n_c (s_iload_n (pc := 91) (k := 2) (by decide +kernel)) <|
  n_c (s_aldc (s_iaload (pc := 92) (by decide +kernel)) (gk99 hG) (gl99 hG)) <|
  n_c (s_iload (pc := 93) (by decide +kernel)) <|
  n_c (s_callS (pc := 95) (csX4_hasBit) (by decide) okX4_hasBit w_675 w_1139 (by decide +kernel)) <|
  n_c (s_if_ne (pc := 98) (off := 5) (by decide +kernel) (by decide +kernel)) <|
  n_c (s_iconst (pc := 101) (n := 0) (by decide +kernel) (by decide +kernel)) <|
  n_c (s_istore_n (pc := 102) (k := 3) (by decide +kernel)) <|
  n_c (s_iinc (pc := 103) (n := 1) (by decide +kernel) (by decide +kernel)) <|
  n_c (s_goto (pc := 106) (off := -64) (by decide +kernel) (by decide +kernel)) <|
  n_c (s_iload_n (pc := 109) (k := 3) (by decide +kernel)) <|
  n_c (s_if_eq (pc := 110) (off := 6) (by decide +kernel) (by decide +kernel)) <|
  n_c (s_iinc (pc := 113) (n := 1) (by decide +kernel) (by decide +kernel)) <|
  n_c (s_iinc (pc := 116) (n := 1) (by decide +kernel) (by decide +kernel)) <|
  n_c (s_goto (pc := 119) (off := -88) (by decide +kernel) (by decide +kernel)) <|
  n_c (s_iload_n (pc := 122) (k := 1) (by decide +kernel)) <|
  n_c (s_iret (pc := 123) rfl (by decide +kernel)) <|
  n_e
def fX9_fewestForced_74 (N : Nat) (G : nG) (k31 : Int32 → Int32 → nM → Option (Int32 × nM)) (k42 : Int32 → Int32 → Int32 → Int32 → nM → Option (Int32 × nM)) (x1 : Int32) (x2 : Int32) (x3 : Int32) (x4 : Int32) (s0 : Int32) (M : nM) : Option (Int32 × nM) :=
  if s0 = 0 then
    let v1 : Int32 := (x4 + (1 : Int32))
    k42 x1 x2 x3 v1 M
  else
    if x4 < x2 then
      let v2 : Int32 := (x4 + (1 : Int32))
      k42 x1 x2 (0 : Int32) v2 M
    else
      n_chk (n_ib 256 x2) <|
      (fX4_hasBit (M 99 x2.toNatClampNeg) x4 M).bind fun p3 =>
      if ¬ p3.1 = 0 then
        let v4 : Int32 := (x4 + (1 : Int32))
        k42 x1 x2 x3 v4 p3.2
      else
        let v5 : Int32 := (x4 + (1 : Int32))
        k42 x1 x2 (0 : Int32) v5 p3.2
set_option maxRecDepth 200000 in
theorem bX9_fewestForced_74 {l : Launch} {w : nW} (N : Nat) {G : nG} (hG : n_GOK G) (k31 : Int32 → Int32 → nM → Option (Int32 × nM)) (hk31 : ∀ (x1 : Int32) (x2 : Int32) (M : nM) (r : Int32 × nM), k31 x1 x2 M = some r → n_At l w 3 mX9_fewestForced 31 [(0, .ref 98), (1, .int x1), (2, .int x2)] [] (G, M) (dv_i r.1, (G, r.2))) (k42 : Int32 → Int32 → Int32 → Int32 → nM → Option (Int32 × nM)) (hk42 : ∀ (x1 : Int32) (x2 : Int32) (x3 : Int32) (x4 : Int32) (M : nM) (r : Int32 × nM), k42 x1 x2 x3 x4 M = some r → n_At l w 3 mX9_fewestForced 42 [(0, .ref 98), (1, .int x1), (2, .int x2), (3, .int x3), (4, .int x4)] [] (G, M) (dv_i r.1, (G, r.2))) (x1 : Int32) (x2 : Int32) (x3 : Int32) (x4 : Int32) (s0 : Int32) (M : nM) (r : Int32 × nM) (h : fX9_fewestForced_74 N G k31 k42 x1 x2 x3 x4 s0 M = some r) : n_At l w 3 mX9_fewestForced 74 [(0, .ref 98), (1, .int x1), (2, .int x2), (3, .int x3), (4, .int x4)] [.int s0] (G, M) (dv_i r.1, (G, r.2)) :=
  n_seg (fin := n_fin dv_i G) (K := [(42, fun lv st M => n_lC 98 lv 0 (n_lI lv 1 (fun x1 => n_lI lv 2 (fun x2 => n_lI lv 3 (fun x3 => n_lI lv 4 (fun x4 => n_pE st (k42 x1 x2 x3 x4 M)))))))]) 28 (iX9_fewestForced N hG) (n_kc (fun lv st M r h => by
      obtain ⟨e0, h1⟩ := n_lC_x h
      obtain ⟨x1, e1, h2⟩ := n_lI_x h1
      obtain ⟨x2, e2, h3⟩ := n_lI_x h2
      obtain ⟨x3, e3, h4⟩ := n_lI_x h3
      obtain ⟨x4, e4, h5⟩ := n_lI_x h4
      obtain ⟨rfl, h6⟩ := n_pE_x h5
      exact n_sub (n_qc e0 (n_qc e1 (n_qc e2 (n_qc e3 (n_qc e4 n_qe))))) (hk42 x1 x2 x3 x4 M r h6)) n_ke) (by rfl) h
def fX9_fewestForced_73 (N : Nat) (G : nG) (k31 : Int32 → Int32 → nM → Option (Int32 × nM)) (k42 : Int32 → Int32 → Int32 → Int32 → nM → Option (Int32 × nM)) (x1 : Int32) (x2 : Int32) (x3 : Int32) (x4 : Int32) (M : nM) : Option (Int32 × nM) :=
  fX9_fewestForced_74 N G k31 k42 x1 x2 x3 x4 (0 : Int32) M
set_option maxRecDepth 200000 in
theorem bX9_fewestForced_73 {l : Launch} {w : nW} (N : Nat) {G : nG} (hG : n_GOK G) (k31 : Int32 → Int32 → nM → Option (Int32 × nM)) (hk31 : ∀ (x1 : Int32) (x2 : Int32) (M : nM) (r : Int32 × nM), k31 x1 x2 M = some r → n_At l w 3 mX9_fewestForced 31 [(0, .ref 98), (1, .int x1), (2, .int x2)] [] (G, M) (dv_i r.1, (G, r.2))) (k42 : Int32 → Int32 → Int32 → Int32 → nM → Option (Int32 × nM)) (hk42 : ∀ (x1 : Int32) (x2 : Int32) (x3 : Int32) (x4 : Int32) (M : nM) (r : Int32 × nM), k42 x1 x2 x3 x4 M = some r → n_At l w 3 mX9_fewestForced 42 [(0, .ref 98), (1, .int x1), (2, .int x2), (3, .int x3), (4, .int x4)] [] (G, M) (dv_i r.1, (G, r.2))) (x1 : Int32) (x2 : Int32) (x3 : Int32) (x4 : Int32) (M : nM) (r : Int32 × nM) (h : fX9_fewestForced_73 N G k31 k42 x1 x2 x3 x4 M = some r) : n_At l w 3 mX9_fewestForced 73 [(0, .ref 98), (1, .int x1), (2, .int x2), (3, .int x3), (4, .int x4)] [] (G, M) (dv_i r.1, (G, r.2)) :=
  n_seg (fin := n_fin dv_i G) (K := [(74, fun lv st M => n_lC 98 lv 0 (n_lI lv 1 (fun x1 => n_lI lv 2 (fun x2 => n_lI lv 3 (fun x3 => n_lI lv 4 (fun x4 => n_pI st (fun s0 st => n_pE st (fX9_fewestForced_74 N G k31 k42 x1 x2 x3 x4 s0 M))))))))]) 4 (iX9_fewestForced N hG) (n_kc (fun lv st M r h => by
      obtain ⟨e0, h1⟩ := n_lC_x h
      obtain ⟨x1, e1, h2⟩ := n_lI_x h1
      obtain ⟨x2, e2, h3⟩ := n_lI_x h2
      obtain ⟨x3, e3, h4⟩ := n_lI_x h3
      obtain ⟨x4, e4, h5⟩ := n_lI_x h4
      obtain ⟨s0, t0, rfl, h6⟩ := n_pI_x h5
      obtain ⟨rfl, h7⟩ := n_pE_x h6
      exact n_sub (n_qc e0 (n_qc e1 (n_qc e2 (n_qc e3 (n_qc e4 n_qe))))) (bX9_fewestForced_74 N hG k31 hk31 k42 hk42 x1 x2 x3 x4 s0 M r h7)) n_ke) (by rfl) h
def fX9_fewestForced_42 (N : Nat) (G : nG) (k31 : Int32 → Int32 → nM → Option (Int32 × nM)) : Nat → Int32 → Int32 → Int32 → Int32 → nM → Option (Int32 × nM)
  | 0, _, _, _, _, _ => none
  | n + 1, x1, x2, x3, x4, M =>
    if (10 : Int32) ≤ x4 then
      if x3 = 0 then
        let v1 : Int32 := (x2 + (1 : Int32))
        k31 x1 v1 M
      else
        let v2 : Int32 := (x1 + (1 : Int32))
        let v3 : Int32 := (x2 + (1 : Int32))
        k31 v2 v3 M
    else
      if x4 = x2 then
        fX9_fewestForced_73 N G k31 (fun x1 x2 x3 x4 M => fX9_fewestForced_42 N G k31 n x1 x2 x3 x4 M) x1 x2 x3 x4 M
      else
        n_chk (n_ib 256 x4) <|
        (fX4_hasBit (M 99 x4.toNatClampNeg) x2 M).bind fun p4 =>
        if p4.1 = 0 then
          fX9_fewestForced_73 N G k31 (fun x1 x2 x3 x4 M => fX9_fewestForced_42 N G k31 n x1 x2 x3 x4 M) x1 x2 x3 x4 p4.2
        else
          fX9_fewestForced_74 N G k31 (fun x1 x2 x3 x4 M => fX9_fewestForced_42 N G k31 n x1 x2 x3 x4 M) x1 x2 x3 x4 (1 : Int32) p4.2
set_option maxRecDepth 200000 in
theorem bX9_fewestForced_42 {l : Launch} {w : nW} (N : Nat) {G : nG} (hG : n_GOK G) (k31 : Int32 → Int32 → nM → Option (Int32 × nM)) (hk31 : ∀ (x1 : Int32) (x2 : Int32) (M : nM) (r : Int32 × nM), k31 x1 x2 M = some r → n_At l w 3 mX9_fewestForced 31 [(0, .ref 98), (1, .int x1), (2, .int x2)] [] (G, M) (dv_i r.1, (G, r.2))) : ∀ (n : Nat) (x1 : Int32) (x2 : Int32) (x3 : Int32) (x4 : Int32) (M : nM) (r : Int32 × nM), fX9_fewestForced_42 N G k31 n x1 x2 x3 x4 M = some r → n_At l w 3 mX9_fewestForced 42 [(0, .ref 98), (1, .int x1), (2, .int x2), (3, .int x3), (4, .int x4)] [] (G, M) (dv_i r.1, (G, r.2)) := by
  intro n
  induction n with
  | zero => intro x1 x2 x3 x4 M r h; cases (show (none : Option (Int32 × nM)) = some r from h)
  | succ n ih =>
    intro x1 x2 x3 x4 M r h
    exact n_seg (fin := n_fin dv_i G) (K := [(31, fun lv st M => n_lC 98 lv 0 (n_lI lv 1 (fun x1 => n_lI lv 2 (fun x2 => n_pE st (k31 x1 x2 M))))), (73, fun lv st M => n_lC 98 lv 0 (n_lI lv 1 (fun x1 => n_lI lv 2 (fun x2 => n_lI lv 3 (fun x3 => n_lI lv 4 (fun x4 => n_pE st (fX9_fewestForced_73 N G k31 (fun x1 x2 x3 x4 M => fX9_fewestForced_42 N G k31 n x1 x2 x3 x4 M) x1 x2 x3 x4 M))))))), (74, fun lv st M => n_lC 98 lv 0 (n_lI lv 1 (fun x1 => n_lI lv 2 (fun x2 => n_lI lv 3 (fun x3 => n_lI lv 4 (fun x4 => n_pI st (fun s0 st => n_pE st (fX9_fewestForced_74 N G k31 (fun x1 x2 x3 x4 M => fX9_fewestForced_42 N G k31 n x1 x2 x3 x4 M) x1 x2 x3 x4 s0 M))))))))]) 25 (iX9_fewestForced N hG) (n_kc (fun lv st M r h => by
      obtain ⟨e0, h1⟩ := n_lC_x h
      obtain ⟨x1, e1, h2⟩ := n_lI_x h1
      obtain ⟨x2, e2, h3⟩ := n_lI_x h2
      obtain ⟨rfl, h4⟩ := n_pE_x h3
      exact n_sub (n_qc e0 (n_qc e1 (n_qc e2 n_qe))) (hk31 x1 x2 M r h4)) (n_kc (fun lv st M r h => by
      obtain ⟨e0, h1⟩ := n_lC_x h
      obtain ⟨x1, e1, h2⟩ := n_lI_x h1
      obtain ⟨x2, e2, h3⟩ := n_lI_x h2
      obtain ⟨x3, e3, h4⟩ := n_lI_x h3
      obtain ⟨x4, e4, h5⟩ := n_lI_x h4
      obtain ⟨rfl, h6⟩ := n_pE_x h5
      exact n_sub (n_qc e0 (n_qc e1 (n_qc e2 (n_qc e3 (n_qc e4 n_qe))))) (bX9_fewestForced_73 N hG k31 hk31 (fun x1 x2 x3 x4 M => fX9_fewestForced_42 N G k31 n x1 x2 x3 x4 M) ih x1 x2 x3 x4 M r h6)) (n_kc (fun lv st M r h => by
      obtain ⟨e0, h1⟩ := n_lC_x h
      obtain ⟨x1, e1, h2⟩ := n_lI_x h1
      obtain ⟨x2, e2, h3⟩ := n_lI_x h2
      obtain ⟨x3, e3, h4⟩ := n_lI_x h3
      obtain ⟨x4, e4, h5⟩ := n_lI_x h4
      obtain ⟨s0, t0, rfl, h6⟩ := n_pI_x h5
      obtain ⟨rfl, h7⟩ := n_pE_x h6
      exact n_sub (n_qc e0 (n_qc e1 (n_qc e2 (n_qc e3 (n_qc e4 n_qe))))) (bX9_fewestForced_74 N hG k31 hk31 (fun x1 x2 x3 x4 M => fX9_fewestForced_42 N G k31 n x1 x2 x3 x4 M) ih x1 x2 x3 x4 s0 M r h7)) n_ke))) (by rfl) h
def fX9_fewestForced_31 (N : Nat) (G : nG) : Nat → Int32 → Int32 → nM → Option (Int32 × nM)
  | 0, _, _, _ => none
  | n + 1, x1, x2, M =>
    if (10 : Int32) ≤ x2 then
      some (x1, M)
    else
      fX9_fewestForced_42 N G (fun x1 x2 M => fX9_fewestForced_31 N G n x1 x2 M) N x1 x2 (1 : Int32) (0 : Int32) M
set_option maxRecDepth 200000 in
theorem bX9_fewestForced_31 {l : Launch} {w : nW} (N : Nat) {G : nG} (hG : n_GOK G) : ∀ (n : Nat) (x1 : Int32) (x2 : Int32) (M : nM) (r : Int32 × nM), fX9_fewestForced_31 N G n x1 x2 M = some r → n_At l w 3 mX9_fewestForced 31 [(0, .ref 98), (1, .int x1), (2, .int x2)] [] (G, M) (dv_i r.1, (G, r.2)) := by
  intro n
  induction n with
  | zero => intro x1 x2 M r h; cases (show (none : Option (Int32 × nM)) = some r from h)
  | succ n ih =>
    intro x1 x2 M r h
    exact n_seg (fin := n_fin dv_i G) (K := [(42, fun lv st M => n_lC 98 lv 0 (n_lI lv 1 (fun x1 => n_lI lv 2 (fun x2 => n_lI lv 3 (fun x3 => n_lI lv 4 (fun x4 => n_pE st (fX9_fewestForced_42 N G (fun x1 x2 M => fX9_fewestForced_31 N G n x1 x2 M) N x1 x2 x3 x4 M)))))))]) 12 (iX9_fewestForced N hG) (n_kc (fun lv st M r h => by
      obtain ⟨e0, h1⟩ := n_lC_x h
      obtain ⟨x1, e1, h2⟩ := n_lI_x h1
      obtain ⟨x2, e2, h3⟩ := n_lI_x h2
      obtain ⟨x3, e3, h4⟩ := n_lI_x h3
      obtain ⟨x4, e4, h5⟩ := n_lI_x h4
      obtain ⟨rfl, h6⟩ := n_pE_x h5
      exact n_sub (n_qc e0 (n_qc e1 (n_qc e2 (n_qc e3 (n_qc e4 n_qe))))) (bX9_fewestForced_42 N hG (fun x1 x2 M => fX9_fewestForced_31 N G n x1 x2 M) ih N x1 x2 x3 x4 M r h6)) n_ke) (by rfl) h
def fX9_fewestForced_2 (N : Nat) (G : nG) : Nat → Int32 → nM → Option (Int32 × nM)
  | 0, _, _ => none
  | n + 1, x1, M =>
    if (10 : Int32) ≤ x1 then
      fX9_fewestForced_31 N G N (0 : Int32) (0 : Int32) M
    else
      (fX9_openedFrom N G ((1 : Int32) <<< (x1 &&& 31)) M).bind fun p1 =>
      n_chk (n_ib 256 x1) <|
      let M2 : nM := n_up p1.2 99 x1.toNatClampNeg p1.1
      let v3 : Int32 := (x1 + (1 : Int32))
      fX9_fewestForced_2 N G n v3 M2
set_option maxRecDepth 200000 in
theorem bX9_fewestForced_2 {l : Launch} {w : nW} (N : Nat) {G : nG} (hG : n_GOK G) : ∀ (n : Nat) (x1 : Int32) (M : nM) (r : Int32 × nM), fX9_fewestForced_2 N G n x1 M = some r → n_At l w 3 mX9_fewestForced 2 [(0, .ref 98), (1, .int x1)] [] (G, M) (dv_i r.1, (G, r.2)) := by
  intro n
  induction n with
  | zero => intro x1 M r h; cases (show (none : Option (Int32 × nM)) = some r from h)
  | succ n ih =>
    intro x1 M r h
    exact n_seg (fin := n_fin dv_i G) (K := [(2, fun lv st M => n_lC 98 lv 0 (n_lI lv 1 (fun x1 => n_pE st (fX9_fewestForced_2 N G n x1 M)))), (31, fun lv st M => n_lC 98 lv 0 (n_lI lv 1 (fun x1 => n_lI lv 2 (fun x2 => n_pE st (fX9_fewestForced_31 N G N x1 x2 M)))))]) 21 (iX9_fewestForced N hG) (n_kc (fun lv st M r h => by
      obtain ⟨e0, h1⟩ := n_lC_x h
      obtain ⟨x1, e1, h2⟩ := n_lI_x h1
      obtain ⟨rfl, h3⟩ := n_pE_x h2
      exact n_sub (n_qc e0 (n_qc e1 n_qe)) (ih x1 M r h3)) (n_kc (fun lv st M r h => by
      obtain ⟨e0, h1⟩ := n_lC_x h
      obtain ⟨x1, e1, h2⟩ := n_lI_x h1
      obtain ⟨x2, e2, h3⟩ := n_lI_x h2
      obtain ⟨rfl, h4⟩ := n_pE_x h3
      exact n_sub (n_qc e0 (n_qc e1 (n_qc e2 n_qe))) (bX9_fewestForced_31 N hG N x1 x2 M r h4)) n_ke)) (by rfl) h
def fX9_fewestForced (N : Nat) (G : nG) (M : nM) : Option (Int32 × nM) :=
  fX9_fewestForced_2 N G N (0 : Int32) M
set_option maxRecDepth 200000 in
theorem bX9_fewestForced_0 {l : Launch} {w : nW} (N : Nat) {G : nG} (hG : n_GOK G) (M : nM) (r : Int32 × nM) (h : fX9_fewestForced N G M = some r) : n_At l w 3 mX9_fewestForced 0 [(0, .ref 98)] [] (G, M) (dv_i r.1, (G, r.2)) :=
  n_seg (fin := n_fin dv_i G) (K := [(2, fun lv st M => n_lC 98 lv 0 (n_lI lv 1 (fun x1 => n_pE st (fX9_fewestForced_2 N G N x1 M))))]) 5 (iX9_fewestForced N hG) (n_kc (fun lv st M r h => by
      obtain ⟨e0, h1⟩ := n_lC_x h
      obtain ⟨x1, e1, h2⟩ := n_lI_x h1
      obtain ⟨rfl, h3⟩ := n_pE_x h2
      exact n_sub (n_qc e0 (n_qc e1 n_qe)) (bX9_fewestForced_2 N hG N x1 M r h3)) n_ke) (by rfl) h
theorem eX9_fewestForced {l : Launch} {w : nW} (N : Nat) {G : nG} (hG : n_GOK G) (M : nM) (r : Int32 × nM) (h : fX9_fewestForced N G M = some r) : n_Met l w 3 mX9_fewestForced [.ref 98] (G, M) (dv_i r.1, (G, r.2)) :=
  n_entry (by decide +kernel) rfl (Nat.le_of_ble_eq_true rfl) (n_sub (lv := [(0, .ref 98)]) (n_qc rfl n_qe) (bX9_fewestForced_0 N hG M r h))
abbrev hX9_fewestForced (N : Nat) (G : nG) : nF := fun T as M k => n_pC 98 as (fun as => n_pE as ((fX9_fewestForced N G M).bind fun p => k (dv_i p.1) p.2))
theorem csX9_fewestForced {l : Launch} {w : nW} (N : Nat) {G : nG} (hG : n_GOK G) : n_CS l w 3 mX9_fewestForced G (hX9_fewestForced N G) := fun T as M k r h => by
  obtain ⟨t0, rfl, h1⟩ := n_pC_x h
  obtain ⟨rfl, hE⟩ := n_pE_x h1
  obtain ⟨p, hp, hk⟩ := Option.bind_eq_some_iff.mp hE
  exact ⟨_, _, eX9_fewestForced N hG M p hp, hk⟩
/-! ===== SleightHouse.opened(I)I ===== -/
def mX11_opened : nY := (RX11, yX11_opened, cX11_opened, 2, some .int)
theorem okX11_opened : n_MOK mX11_opened 1 := ⟨w_1193, w_137, ⟨by decide +kernel, by decide +kernel, by decide +kernel⟩, by decide⟩
abbrev aX11_opened (N : Nat) (G : nG) : List (Nat × nO (Int32 × nM)) := [(0, o_iload 1 1), (1, o_push (.int (-1 : Int32)) 2), (2, oc_ne 13 5), (5, o_aload 0 6), (6, o_gRc 1 98 9), (9, o_callVc 98 0 (hX9_fewestForced N G) 12), (12, o_iret), (13, o_iload 1 14), (14, o_push (.int (0 : Int32)) 15), (15, o_push (.int (1023 : Int32)) 18), (18, o_call 3 (hX11_within) 21), (21, oi_eq 35 24), (24, o_aload 0 25), (25, o_gRc 1 98 28), (28, o_iload 1 29), (29, o_callVc 98 1 (hX9_openedFrom N G) 32), (32, o_goto 36), (35, o_push (.int (-1 : Int32)) 36), (36, o_iret)]
set_option maxRecDepth 200000 in
theorem iX11_opened {l : Launch} {w : nW} (N : Nat) {G : nG} (hG : n_GOK G) : n_AllS l w 4 mX11_opened G (n_fin dv_i G) (aX11_opened N G) :=
  n_c (s_iload_n (pc := 0) (k := 1) (by decide +kernel)) <|
  n_c (s_iconst (pc := 1) (n := -1) (by decide +kernel) (by decide +kernel)) <|
  n_c (s_icmp_ne (pc := 2) (off := 11) (by decide +kernel) (by decide +kernel)) <|
  n_c (s_aload_n (pc := 5) (k := 0) (by decide +kernel)) <|
  n_c (s_gRc (s_getR (pc := 6) (ci := 11) (k := 5) (idx := 63) nok11 (by decide) rfl (by decide +kernel) w_577) (gk1 hG) (gm1_5 hG)) <|
  n_c (s_callVc (s_callV (pc := 9) (csX9_fewestForced N hG) (by decide) okX9_fewestForced nok9 w_1195 w_1196 w_1194 (by decide +kernel)) (gk98 hG)) <|
  n_c (s_iret (pc := 12) rfl (by decide +kernel)) <|
  n_c (s_iload_n (pc := 13) (k := 1) (by decide +kernel)) <|
  n_c (s_iconst (pc := 14) (n := 0) (by decide +kernel) (by decide +kernel)) <|
  n_c (s_sipush (pc := 15) (n := 1023) (by decide +kernel) (by decide +kernel)) <|
  n_c (s_callS (pc := 18) (csX11_within) (by decide) okX11_within w_610 w_609 (by decide +kernel)) <|
  n_c (s_if_eq (pc := 21) (off := 14) (by decide +kernel) (by decide +kernel)) <|
  n_c (s_aload_n (pc := 24) (k := 0) (by decide +kernel)) <|
  n_c (s_gRc (s_getR (pc := 25) (ci := 11) (k := 5) (idx := 63) nok11 (by decide) rfl (by decide +kernel) w_577) (gk1 hG) (gm1_5 hG)) <|
  n_c (s_iload_n (pc := 28) (k := 1) (by decide +kernel)) <|
  n_c (s_callVc (s_callV (pc := 29) (csX9_openedFrom N hG) (by decide) okX9_openedFrom nok9 w_1199 w_1200 w_1202 (by decide +kernel)) (gk98 hG)) <|
  n_c (s_goto (pc := 32) (off := 4) (by decide +kernel) (by decide +kernel)) <|
  n_c (s_iconst (pc := 35) (n := -1) (by decide +kernel) (by decide +kernel)) <|
  n_c (s_iret (pc := 36) rfl (by decide +kernel)) <|
  n_e
def fX11_opened (N : Nat) (G : nG) (x1 : Int32) (M : nM) : Option (Int32 × nM) :=
  if ¬ x1 = (-1 : Int32) then
    (fX11_within x1 (0 : Int32) (1023 : Int32) M).bind fun p1 =>
    if p1.1 = 0 then
      some ((-1 : Int32), p1.2)
    else
      (fX9_openedFrom N G x1 p1.2).bind fun p2 =>
      some (p2.1, p2.2)
  else
    (fX9_fewestForced N G M).bind fun p3 =>
    some (p3.1, p3.2)
set_option maxRecDepth 200000 in
theorem bX11_opened_0 {l : Launch} {w : nW} (N : Nat) {G : nG} (hG : n_GOK G) (x1 : Int32) (M : nM) (r : Int32 × nM) (h : fX11_opened N G x1 M = some r) : n_At l w 4 mX11_opened 0 [(0, .ref 1), (1, .int x1)] [] (G, M) (dv_i r.1, (G, r.2)) :=
  n_seg (fin := n_fin dv_i G) (K := []) 23 (iX11_opened N hG) n_ke (by rfl) h
theorem eX11_opened {l : Launch} {w : nW} (N : Nat) {G : nG} (hG : n_GOK G) (z1 : Int32) (M : nM) (r : Int32 × nM) (h : fX11_opened N G z1 M = some r) : n_Met l w 4 mX11_opened [.ref 1, .int z1] (G, M) (dv_i r.1, (G, r.2)) :=
  n_entry (by decide +kernel) rfl (Nat.le_of_ble_eq_true rfl) (n_sub (lv := [(0, .ref 1), (1, .int z1)]) (n_qc rfl (n_qc rfl n_qe)) (bX11_opened_0 N hG z1 M r h))
abbrev hX11_opened (N : Nat) (G : nG) : nF := fun T as M k => n_pC 1 as (fun as => n_pI as (fun z1 as => n_pE as ((fX11_opened N G z1 M).bind fun p => k (dv_i p.1) p.2)))
theorem csX11_opened {l : Launch} {w : nW} (N : Nat) {G : nG} (hG : n_GOK G) : n_CS l w 4 mX11_opened G (hX11_opened N G) := fun T as M k r h => by
  obtain ⟨t0, rfl, h1⟩ := n_pC_x h
  obtain ⟨z1, t1, rfl, h2⟩ := n_pI_x h1
  obtain ⟨rfl, hE⟩ := n_pE_x h2
  obtain ⟨p, hp, hk⟩ := Option.bind_eq_some_iff.mp hE
  exact ⟨_, _, eX11_opened N hG z1 M p hp, hk⟩
/-! ===== SleightHouseModel.openedFrom(I)I ===== -/
def mX12_openedFrom : nY := (RX12, yX12_openedFrom, cX12_openedFrom, 5, some .int)
theorem okX12_openedFrom : n_MOK mX12_openedFrom 1 := ⟨w_2062, w_151, ⟨by decide +kernel, by decide +kernel, by decide +kernel⟩, by decide⟩
abbrev aX12_openedFrom (N : Nat) : List (Nat × nO (Int32 × nM)) := [(0, o_iload 1 1), (1, o_istore 5 2 2), (2, o_push (.int (0 : Int32)) 3), (3, o_istore 5 3 4), (4, o_iload 3 5), (5, o_push (.int (10 : Int32)) 7), (7, oc_ge 52 10), (10, o_push (.int (0 : Int32)) 11), (11, o_istore 5 4 13), (13, o_iload 4 15), (15, o_push (.int (10 : Int32)) 17), (17, oc_ge 46 20), (20, o_aload 0 21), (21, o_iload 2 22), (22, o_iload 4 24), (24, o_callVc 107 2 (hX12_has) 27), (27, oi_eq 40 30), (30, o_iload 2 31), (31, o_aload 0 32), (32, o_gRc 107 139 35), (35, o_iload 4 37), (37, o_aldc 139 10 38), (38, o_ior 39), (39, o_istore 5 2 40), (40, o_inc 5 4 (1 : Int32) 43), (43, o_goto 13), (46, o_inc 5 3 (1 : Int32) 49), (49, o_goto 4), (52, o_iload 2 53), (53, o_iret)]
set_option maxRecDepth 200000 in
theorem iX12_openedFrom {l : Launch} {w : nW} (N : Nat) {G : nG} (hG : n_GOK G) : n_AllS l w 1 mX12_openedFrom G (n_fin dv_i G) (aX12_openedFrom N) :=
  n_c (s_iload_n (pc := 0) (k := 1) (by decide +kernel)) <|
  n_c (s_istore_n (pc := 1) (k := 2) (by decide +kernel)) <|
  n_c (s_iconst (pc := 2) (n := 0) (by decide +kernel) (by decide +kernel)) <|
  n_c (s_istore_n (pc := 3) (k := 3) (by decide +kernel)) <|
  n_c (s_iload_n (pc := 4) (k := 3) (by decide +kernel)) <|
  n_c (s_bipush (pc := 5) (n := 10) (by decide +kernel) (by decide +kernel)) <|
  n_c (s_icmp_ge (pc := 7) (off := 45) (by decide +kernel) (by decide +kernel)) <|
  n_c (s_iconst (pc := 10) (n := 0) (by decide +kernel) (by decide +kernel)) <|
  n_c (s_istore (pc := 11) (by decide +kernel)) <|
  n_c (s_iload (pc := 13) (by decide +kernel)) <|
  n_c (s_bipush (pc := 15) (n := 10) (by decide +kernel) (by decide +kernel)) <|
  n_c (s_icmp_ge (pc := 17) (off := 29) (by decide +kernel) (by decide +kernel)) <|
  n_c (s_aload_n (pc := 20) (k := 0) (by decide +kernel)) <|
  n_c (s_iload_n (pc := 21) (k := 2) (by decide +kernel)) <|
  n_c (s_iload (pc := 22) (by decide +kernel)) <|
  n_c (s_callVc (s_callV (pc := 24) (csX12_has) (by decide) okX12_has nok12 w_2013 w_114 w_2011 (by decide +kernel)) (gk107 hG)) <|
  n_c (s_if_eq (pc := 27) (off := 13) (by decide +kernel) (by decide +kernel)) <|
  n_c (s_iload_n (pc := 30) (k := 2) (by decide +kernel)) <|
  n_c (s_aload_n (pc := 31) (k := 0) (by decide +kernel)) <|
  n_c (s_gRc (s_getR (pc := 32) (ci := 12) (k := 56) (idx := 107) nok12 (by decide) rfl (by decide +kernel) w_1463) (gk107 hG) (gm107_56 hG)) <|
  n_c (s_iload (pc := 35) (by decide +kernel)) <|
  n_c (s_aldc (s_iaload (pc := 37) (by decide +kernel)) (gk139 hG) (gl139 hG)) <|
  n_c (s_ior (pc := 38) (by decide +kernel)) <|
  n_c (s_istore_n (pc := 39) (k := 2) (by decide +kernel)) <|
  n_c (s_iinc (pc := 40) (n := 1) (by decide +kernel) (by decide +kernel)) <|
  n_c (s_goto (pc := 43) (off := -30) (by decide +kernel) (by decide +kernel)) <|
  n_c (s_iinc (pc := 46) (n := 1) (by decide +kernel) (by decide +kernel)) <|
  n_c (s_goto (pc := 49) (off := -45) (by decide +kernel) (by decide +kernel)) <|
  n_c (s_iload_n (pc := 52) (k := 2) (by decide +kernel)) <|
  n_c (s_iret (pc := 53) rfl (by decide +kernel)) <|
  n_e
def fX12_openedFrom_13 (N : Nat) (k4 : Int32 → Int32 → nM → Option (Int32 × nM)) : Nat → Int32 → Int32 → Int32 → nM → Option (Int32 × nM)
  | 0, _, _, _, _ => none
  | n + 1, x2, x3, x4, M =>
    if (10 : Int32) ≤ x4 then
      let v1 : Int32 := (x3 + (1 : Int32))
      k4 x2 v1 M
    else
      (fX12_has x2 x4 M).bind fun p2 =>
      if p2.1 = 0 then
        let v3 : Int32 := (x4 + (1 : Int32))
        fX12_openedFrom_13 N k4 n x2 x3 v3 p2.2
      else
        n_chk (n_ib 10 x4) <|
        let v4 : Int32 := (x2 ||| (p2.2 139 x4.toNatClampNeg))
        let v5 : Int32 := (x4 + (1 : Int32))
        fX12_openedFrom_13 N k4 n v4 x3 v5 p2.2
set_option maxRecDepth 200000 in
theorem bX12_openedFrom_13 {l : Launch} {w : nW} (N : Nat) {G : nG} (hG : n_GOK G) (k4 : Int32 → Int32 → nM → Option (Int32 × nM)) (hk4 : ∀ (x2 : Int32) (x3 : Int32) (M : nM) (r : Int32 × nM), k4 x2 x3 M = some r → n_At l w 1 mX12_openedFrom 4 [(0, .ref 107), (2, .int x2), (3, .int x3)] [] (G, M) (dv_i r.1, (G, r.2))) : ∀ (n : Nat) (x2 : Int32) (x3 : Int32) (x4 : Int32) (M : nM) (r : Int32 × nM), fX12_openedFrom_13 N k4 n x2 x3 x4 M = some r → n_At l w 1 mX12_openedFrom 13 [(0, .ref 107), (2, .int x2), (3, .int x3), (4, .int x4)] [] (G, M) (dv_i r.1, (G, r.2)) := by
  intro n
  induction n with
  | zero => intro x2 x3 x4 M r h; cases (show (none : Option (Int32 × nM)) = some r from h)
  | succ n ih =>
    intro x2 x3 x4 M r h
    exact n_seg (fin := n_fin dv_i G) (K := [(4, fun lv st M => n_lC 107 lv 0 (n_lI lv 2 (fun x2 => n_lI lv 3 (fun x3 => n_pE st (k4 x2 x3 M))))), (13, fun lv st M => n_lC 107 lv 0 (n_lI lv 2 (fun x2 => n_lI lv 3 (fun x3 => n_lI lv 4 (fun x4 => n_pE st (fX12_openedFrom_13 N k4 n x2 x3 x4 M))))))]) 24 (iX12_openedFrom N hG) (n_kc (fun lv st M r h => by
      obtain ⟨e0, h1⟩ := n_lC_x h
      obtain ⟨x2, e2, h2⟩ := n_lI_x h1
      obtain ⟨x3, e3, h3⟩ := n_lI_x h2
      obtain ⟨rfl, h4⟩ := n_pE_x h3
      exact n_sub (n_qc e0 (n_qc e2 (n_qc e3 n_qe))) (hk4 x2 x3 M r h4)) (n_kc (fun lv st M r h => by
      obtain ⟨e0, h1⟩ := n_lC_x h
      obtain ⟨x2, e2, h2⟩ := n_lI_x h1
      obtain ⟨x3, e3, h3⟩ := n_lI_x h2
      obtain ⟨x4, e4, h4⟩ := n_lI_x h3
      obtain ⟨rfl, h5⟩ := n_pE_x h4
      exact n_sub (n_qc e0 (n_qc e2 (n_qc e3 (n_qc e4 n_qe)))) (ih x2 x3 x4 M r h5)) n_ke)) (by rfl) h
def fX12_openedFrom_4 (N : Nat) : Nat → Int32 → Int32 → nM → Option (Int32 × nM)
  | 0, _, _, _ => none
  | n + 1, x2, x3, M =>
    if (10 : Int32) ≤ x3 then
      some (x2, M)
    else
      fX12_openedFrom_13 N (fun x2 x3 M => fX12_openedFrom_4 N n x2 x3 M) N x2 x3 (0 : Int32) M
set_option maxRecDepth 200000 in
theorem bX12_openedFrom_4 {l : Launch} {w : nW} (N : Nat) {G : nG} (hG : n_GOK G) : ∀ (n : Nat) (x2 : Int32) (x3 : Int32) (M : nM) (r : Int32 × nM), fX12_openedFrom_4 N n x2 x3 M = some r → n_At l w 1 mX12_openedFrom 4 [(0, .ref 107), (2, .int x2), (3, .int x3)] [] (G, M) (dv_i r.1, (G, r.2)) := by
  intro n
  induction n with
  | zero => intro x2 x3 M r h; cases (show (none : Option (Int32 × nM)) = some r from h)
  | succ n ih =>
    intro x2 x3 M r h
    exact n_seg (fin := n_fin dv_i G) (K := [(13, fun lv st M => n_lC 107 lv 0 (n_lI lv 2 (fun x2 => n_lI lv 3 (fun x3 => n_lI lv 4 (fun x4 => n_pE st (fX12_openedFrom_13 N (fun x2 x3 M => fX12_openedFrom_4 N n x2 x3 M) N x2 x3 x4 M))))))]) 10 (iX12_openedFrom N hG) (n_kc (fun lv st M r h => by
      obtain ⟨e0, h1⟩ := n_lC_x h
      obtain ⟨x2, e2, h2⟩ := n_lI_x h1
      obtain ⟨x3, e3, h3⟩ := n_lI_x h2
      obtain ⟨x4, e4, h4⟩ := n_lI_x h3
      obtain ⟨rfl, h5⟩ := n_pE_x h4
      exact n_sub (n_qc e0 (n_qc e2 (n_qc e3 (n_qc e4 n_qe)))) (bX12_openedFrom_13 N hG (fun x2 x3 M => fX12_openedFrom_4 N n x2 x3 M) ih N x2 x3 x4 M r h5)) n_ke) (by rfl) h
def fX12_openedFrom (N : Nat) (x1 : Int32) (M : nM) : Option (Int32 × nM) :=
  fX12_openedFrom_4 N N x1 (0 : Int32) M
set_option maxRecDepth 200000 in
theorem bX12_openedFrom_0 {l : Launch} {w : nW} (N : Nat) {G : nG} (hG : n_GOK G) (x1 : Int32) (M : nM) (r : Int32 × nM) (h : fX12_openedFrom N x1 M = some r) : n_At l w 1 mX12_openedFrom 0 [(0, .ref 107), (1, .int x1)] [] (G, M) (dv_i r.1, (G, r.2)) :=
  n_seg (fin := n_fin dv_i G) (K := [(4, fun lv st M => n_lC 107 lv 0 (n_lI lv 2 (fun x2 => n_lI lv 3 (fun x3 => n_pE st (fX12_openedFrom_4 N N x2 x3 M)))))]) 7 (iX12_openedFrom N hG) (n_kc (fun lv st M r h => by
      obtain ⟨e0, h1⟩ := n_lC_x h
      obtain ⟨x2, e2, h2⟩ := n_lI_x h1
      obtain ⟨x3, e3, h3⟩ := n_lI_x h2
      obtain ⟨rfl, h4⟩ := n_pE_x h3
      exact n_sub (n_qc e0 (n_qc e2 (n_qc e3 n_qe))) (bX12_openedFrom_4 N hG N x2 x3 M r h4)) n_ke) (by rfl) h
theorem eX12_openedFrom {l : Launch} {w : nW} (N : Nat) {G : nG} (hG : n_GOK G) (z1 : Int32) (M : nM) (r : Int32 × nM) (h : fX12_openedFrom N z1 M = some r) : n_Met l w 1 mX12_openedFrom [.ref 107, .int z1] (G, M) (dv_i r.1, (G, r.2)) :=
  n_entry (by decide +kernel) rfl (Nat.le_of_ble_eq_true rfl) (n_sub (lv := [(0, .ref 107), (1, .int z1)]) (n_qc rfl (n_qc rfl n_qe)) (bX12_openedFrom_0 N hG z1 M r h))
abbrev hX12_openedFrom (N : Nat) : nF := fun T as M k => n_pC 107 as (fun as => n_pI as (fun z1 as => n_pE as ((fX12_openedFrom N z1 M).bind fun p => k (dv_i p.1) p.2)))
theorem csX12_openedFrom {l : Launch} {w : nW} (N : Nat) {G : nG} (hG : n_GOK G) : n_CS l w 1 mX12_openedFrom G (hX12_openedFrom N) := fun T as M k r h => by
  obtain ⟨t0, rfl, h1⟩ := n_pC_x h
  obtain ⟨z1, t1, rfl, h2⟩ := n_pI_x h1
  obtain ⟨rfl, hE⟩ := n_pE_x h2
  obtain ⟨p, hp, hk⟩ := Option.bind_eq_some_iff.mp hE
  exact ⟨_, _, eX12_openedFrom N hG z1 M p hp, hk⟩
/-! ===== SleightHouseModel.onesOf(I)I ===== -/
def mX12_onesOf : nY := (RX12, yX12_onesOf, cX12_onesOf, 4, some .int)
theorem okX12_onesOf : n_MOK mX12_onesOf 1 := ⟨w_2066, w_151, ⟨by decide +kernel, by decide +kernel, by decide +kernel⟩, by decide⟩
abbrev aX12_onesOf (N : Nat) : List (Nat × nO (Int32 × nM)) := [(0, o_push (.int (0 : Int32)) 1), (1, o_istore 4 2 2), (2, o_iload 1 3), (3, o_istore 4 3 4), (4, o_iload 3 5), (5, oi_eq 21 8), (8, o_iload 2 9), (9, o_push (.int (1 : Int32)) 10), (10, o_iadd 11), (11, o_istore 4 2 12), (12, o_iload 3 13), (13, o_iload 3 14), (14, o_push (.int (1 : Int32)) 15), (15, o_isub 16), (16, o_iand 17), (17, o_istore 4 3 18), (18, o_goto 4), (21, o_iload 2 22), (22, o_iret)]
set_option maxRecDepth 200000 in
theorem iX12_onesOf {l : Launch} {w : nW} (N : Nat) {G : nG} : n_AllS l w 0 mX12_onesOf G (n_fin dv_i G) (aX12_onesOf N) :=
  n_c (s_iconst (pc := 0) (n := 0) (by decide +kernel) (by decide +kernel)) <|
  n_c (s_istore_n (pc := 1) (k := 2) (by decide +kernel)) <|
  n_c (s_iload_n (pc := 2) (k := 1) (by decide +kernel)) <|
  n_c (s_istore_n (pc := 3) (k := 3) (by decide +kernel)) <|
  n_c (s_iload_n (pc := 4) (k := 3) (by decide +kernel)) <|
  n_c (s_if_eq (pc := 5) (off := 16) (by decide +kernel) (by decide +kernel)) <|
  n_c (s_iload_n (pc := 8) (k := 2) (by decide +kernel)) <|
  n_c (s_iconst (pc := 9) (n := 1) (by decide +kernel) (by decide +kernel)) <|
  n_c (s_iadd (pc := 10) (by decide +kernel)) <|
  n_c (s_istore_n (pc := 11) (k := 2) (by decide +kernel)) <|
  n_c (s_iload_n (pc := 12) (k := 3) (by decide +kernel)) <|
  n_c (s_iload_n (pc := 13) (k := 3) (by decide +kernel)) <|
  n_c (s_iconst (pc := 14) (n := 1) (by decide +kernel) (by decide +kernel)) <|
  n_c (s_isub (pc := 15) (by decide +kernel)) <|
  n_c (s_iand (pc := 16) (by decide +kernel)) <|
  n_c (s_istore_n (pc := 17) (k := 3) (by decide +kernel)) <|
  n_c (s_goto (pc := 18) (off := -14) (by decide +kernel) (by decide +kernel)) <|
  n_c (s_iload_n (pc := 21) (k := 2) (by decide +kernel)) <|
  n_c (s_iret (pc := 22) rfl (by decide +kernel)) <|
  n_e
def fX12_onesOf_4 (N : Nat) : Nat → Int32 → Int32 → nM → Option (Int32 × nM)
  | 0, _, _, _ => none
  | n + 1, x2, x3, M =>
    if x3 = 0 then
      some (x2, M)
    else
      let v1 : Int32 := (x2 + (1 : Int32))
      let v2 : Int32 := (x3 &&& (x3 - (1 : Int32)))
      fX12_onesOf_4 N n v1 v2 M
set_option maxRecDepth 200000 in
theorem bX12_onesOf_4 {l : Launch} {w : nW} (N : Nat) {G : nG} : ∀ (n : Nat) (x2 : Int32) (x3 : Int32) (M : nM) (r : Int32 × nM), fX12_onesOf_4 N n x2 x3 M = some r → n_At l w 0 mX12_onesOf 4 [(2, .int x2), (3, .int x3)] [] (G, M) (dv_i r.1, (G, r.2)) := by
  intro n
  induction n with
  | zero => intro x2 x3 M r h; cases (show (none : Option (Int32 × nM)) = some r from h)
  | succ n ih =>
    intro x2 x3 M r h
    exact n_seg (fin := n_fin dv_i G) (K := [(4, fun lv st M => n_lI lv 2 (fun x2 => n_lI lv 3 (fun x3 => n_pE st (fX12_onesOf_4 N n x2 x3 M))))]) 18 (iX12_onesOf N) (n_kc (fun lv st M r h => by
      obtain ⟨x2, e2, h1⟩ := n_lI_x h
      obtain ⟨x3, e3, h2⟩ := n_lI_x h1
      obtain ⟨rfl, h3⟩ := n_pE_x h2
      exact n_sub (n_qc e2 (n_qc e3 n_qe)) (ih x2 x3 M r h3)) n_ke) (by rfl) h
def fX12_onesOf (N : Nat) (x1 : Int32) (M : nM) : Option (Int32 × nM) :=
  fX12_onesOf_4 N N (0 : Int32) x1 M
set_option maxRecDepth 200000 in
theorem bX12_onesOf_0 {l : Launch} {w : nW} (N : Nat) {G : nG} (x1 : Int32) (M : nM) (r : Int32 × nM) (h : fX12_onesOf N x1 M = some r) : n_At l w 0 mX12_onesOf 0 [(1, .int x1)] [] (G, M) (dv_i r.1, (G, r.2)) :=
  n_seg (fin := n_fin dv_i G) (K := [(4, fun lv st M => n_lI lv 2 (fun x2 => n_lI lv 3 (fun x3 => n_pE st (fX12_onesOf_4 N N x2 x3 M))))]) 7 (iX12_onesOf N) (n_kc (fun lv st M r h => by
      obtain ⟨x2, e2, h1⟩ := n_lI_x h
      obtain ⟨x3, e3, h2⟩ := n_lI_x h1
      obtain ⟨rfl, h3⟩ := n_pE_x h2
      exact n_sub (n_qc e2 (n_qc e3 n_qe)) (bX12_onesOf_4 N N x2 x3 M r h3)) n_ke) (by rfl) h
theorem eX12_onesOf {l : Launch} {w : nW} (N : Nat) {G : nG} (z1 : Int32) (M : nM) (r : Int32 × nM) (h : fX12_onesOf N z1 M = some r) : n_Met l w 0 mX12_onesOf [.ref 107, .int z1] (G, M) (dv_i r.1, (G, r.2)) :=
  n_entry (by decide +kernel) rfl (Nat.le_of_ble_eq_true rfl) (n_sub (lv := [(0, .ref 107), (1, .int z1)]) (n_qc rfl n_qe) (bX12_onesOf_0 N z1 M r h))
abbrev hX12_onesOf (N : Nat) : nF := fun T as M k => n_pC 107 as (fun as => n_pI as (fun z1 as => n_pE as ((fX12_onesOf N z1 M).bind fun p => k (dv_i p.1) p.2)))
theorem csX12_onesOf {l : Launch} {w : nW} (N : Nat) {G : nG} : n_CS l w 0 mX12_onesOf G (hX12_onesOf N) := fun T as M k r h => by
  obtain ⟨t0, rfl, h1⟩ := n_pC_x h
  obtain ⟨z1, t1, rfl, h2⟩ := n_pI_x h1
  obtain ⟨rfl, hE⟩ := n_pE_x h2
  obtain ⟨p, hp, hk⟩ := Option.bind_eq_some_iff.mp hE
  exact ⟨_, _, eX12_onesOf N z1 M p hp, hk⟩
/-! ===== SleightHouseModel.opened(I)I ===== -/
def mX12_opened : nY := (RX12, yX12_opened, cX12_opened, 4, some .int)
theorem okX12_opened : n_MOK mX12_opened 1 := ⟨w_2058, w_151, ⟨by decide +kernel, by decide +kernel, by decide +kernel⟩, by decide⟩
abbrev aX12_opened (N : Nat) : List (Nat × nO (Int32 × nM)) := [(0, o_aload 0 1), (1, o_push (.int (0 : Int32)) 2), (2, o_pIc 107 0 5), (5, o_aload 0 6), (6, o_iload 1 7), (7, o_push (.int (-1 : Int32)) 8), (8, o_push (.int (1023 : Int32)) 11), (11, o_callVc 107 3 (hX12_isIn) 14), (14, oi_ne 19 17), (17, o_push (.int (-1 : Int32)) 18), (18, o_iret), (19, o_iload 1 20), (20, o_push (.int (-1 : Int32)) 21), (21, oc_eq 30 24), (24, o_aload 0 25), (25, o_iload 1 26), (26, o_callVc 107 1 (hX12_openedFrom N) 29), (29, o_iret), (30, o_push (.int (10 : Int32)) 32), (32, o_istore 4 2 33), (33, o_push (.int (0 : Int32)) 34), (34, o_istore 4 3 35), (35, o_iload 3 36), (36, o_push (.int (1024 : Int32)) 39), (39, oc_ge 74 42), (42, o_aload 0 43), (43, o_iload 3 44), (44, o_callVc 107 1 (hX12_onesOf N) 47), (47, o_iload 2 48), (48, oc_ge 68 51), (51, o_aload 0 52), (52, o_iload 3 53), (53, o_callVc 107 1 (hX12_openedFrom N) 56), (56, o_push (.int (1023 : Int32)) 59), (59, oc_ne 68 62), (62, o_aload 0 63), (63, o_iload 3 64), (64, o_callVc 107 1 (hX12_onesOf N) 67), (67, o_istore 4 2 68), (68, o_inc 4 3 (1 : Int32) 71), (71, o_goto 35), (74, o_iload 2 75), (75, o_iret)]
set_option maxRecDepth 200000 in
theorem iX12_opened {l : Launch} {w : nW} (N : Nat) {G : nG} (hG : n_GOK G) : n_AllS l w 2 mX12_opened G (n_fin dv_i G) (aX12_opened N) :=
  n_c (s_aload_n (pc := 0) (k := 0) (by decide +kernel)) <|
  n_c (s_iconst (pc := 1) (n := 0) (by decide +kernel) (by decide +kernel)) <|
  n_c (s_pIc (s_putI (pc := 2) (ci := 12) (k := 0) (idx := 146) nok12 (by decide) rfl rfl (by decide +kernel) w_1407) (gk107 hG)) <|
  n_c (s_aload_n (pc := 5) (k := 0) (by decide +kernel)) <|
  n_c (s_iload_n (pc := 6) (k := 1) (by decide +kernel)) <|
  n_c (s_iconst (pc := 7) (n := -1) (by decide +kernel) (by decide +kernel)) <|
  n_c (s_sipush (pc := 8) (n := 1023) (by decide +kernel) (by decide +kernel)) <|
  n_c (s_callVc (s_callV (pc := 11) (csX12_isIn) (by decide) okX12_isIn nok12 w_1659 w_46 w_1657 (by decide +kernel)) (gk107 hG)) <|
  n_c (s_if_ne (pc := 14) (off := 5) (by decide +kernel) (by decide +kernel)) <|
  n_c (s_iconst (pc := 17) (n := -1) (by decide +kernel) (by decide +kernel)) <|
  n_c (s_iret (pc := 18) rfl (by decide +kernel)) <|
  n_c (s_iload_n (pc := 19) (k := 1) (by decide +kernel)) <|
  n_c (s_iconst (pc := 20) (n := -1) (by decide +kernel) (by decide +kernel)) <|
  n_c (s_icmp_eq (pc := 21) (off := 9) (by decide +kernel) (by decide +kernel)) <|
  n_c (s_aload_n (pc := 24) (k := 0) (by decide +kernel)) <|
  n_c (s_iload_n (pc := 25) (k := 1) (by decide +kernel)) <|
  n_c (s_callVc (s_callV (pc := 26) (csX12_openedFrom N hG) (by decide) okX12_openedFrom nok12 w_2061 w_120 w_2059 (by decide +kernel)) (gk107 hG)) <|
  n_c (s_iret (pc := 29) rfl (by decide +kernel)) <|
  n_c (s_bipush (pc := 30) (n := 10) (by decide +kernel) (by decide +kernel)) <|
  n_c (s_istore_n (pc := 32) (k := 2) (by decide +kernel)) <|
  n_c (s_iconst (pc := 33) (n := 0) (by decide +kernel) (by decide +kernel)) <|
  n_c (s_istore_n (pc := 34) (k := 3) (by decide +kernel)) <|
  n_c (s_iload_n (pc := 35) (k := 3) (by decide +kernel)) <|
  n_c (s_sipush (pc := 36) (n := 1024) (by decide +kernel) (by decide +kernel)) <|
  n_c (s_icmp_ge (pc := 39) (off := 35) (by decide +kernel) (by decide +kernel)) <|
  n_c (s_aload_n (pc := 42) (k := 0) (by decide +kernel)) <|
  n_c (s_iload_n (pc := 43) (k := 3) (by decide +kernel)) <|
  n_c (s_callVc (s_callV (pc := 44) (csX12_onesOf N) (by decide) okX12_onesOf nok12 w_2065 w_121 w_2063 (by decide +kernel)) (gk107 hG)) <|
  n_c (s_iload_n (pc := 47) (k := 2) (by decide +kernel)) <|
  n_c (s_icmp_ge (pc := 48) (off := 20) (by decide +kernel) (by decide +kernel)) <|
  n_c (s_aload_n (pc := 51) (k := 0) (by decide +kernel)) <|
  n_c (s_iload_n (pc := 52) (k := 3) (by decide +kernel)) <|
  n_c (s_callVc (s_callV (pc := 53) (csX12_openedFrom N hG) (by decide) okX12_openedFrom nok12 w_2061 w_120 w_2059 (by decide +kernel)) (gk107 hG)) <|
  n_c (s_sipush (pc := 56) (n := 1023) (by decide +kernel) (by decide +kernel)) <|
  n_c (s_icmp_ne (pc := 59) (off := 9) (by decide +kernel) (by decide +kernel)) <|
  n_c (s_aload_n (pc := 62) (k := 0) (by decide +kernel)) <|
  n_c (s_iload_n (pc := 63) (k := 3) (by decide +kernel)) <|
  n_c (s_callVc (s_callV (pc := 64) (csX12_onesOf N) (by decide) okX12_onesOf nok12 w_2065 w_121 w_2063 (by decide +kernel)) (gk107 hG)) <|
  n_c (s_istore_n (pc := 67) (k := 2) (by decide +kernel)) <|
  n_c (s_iinc (pc := 68) (n := 1) (by decide +kernel) (by decide +kernel)) <|
  n_c (s_goto (pc := 71) (off := -36) (by decide +kernel) (by decide +kernel)) <|
  n_c (s_iload_n (pc := 74) (k := 2) (by decide +kernel)) <|
  n_c (s_iret (pc := 75) rfl (by decide +kernel)) <|
  n_e
def fX12_opened_35 (N : Nat) : Nat → Int32 → Int32 → nM → Option (Int32 × nM)
  | 0, _, _, _ => none
  | n + 1, x2, x3, M =>
    if (1024 : Int32) ≤ x3 then
      some (x2, M)
    else
      (fX12_onesOf N x3 M).bind fun p1 =>
      if x2 ≤ p1.1 then
        let v2 : Int32 := (x3 + (1 : Int32))
        fX12_opened_35 N n x2 v2 p1.2
      else
        (fX12_openedFrom N x3 p1.2).bind fun p3 =>
        if ¬ p3.1 = (1023 : Int32) then
          let v4 : Int32 := (x3 + (1 : Int32))
          fX12_opened_35 N n x2 v4 p3.2
        else
          (fX12_onesOf N x3 p3.2).bind fun p5 =>
          let v6 : Int32 := (x3 + (1 : Int32))
          fX12_opened_35 N n p5.1 v6 p5.2
set_option maxRecDepth 200000 in
theorem bX12_opened_35 {l : Launch} {w : nW} (N : Nat) {G : nG} (hG : n_GOK G) : ∀ (n : Nat) (x2 : Int32) (x3 : Int32) (M : nM) (r : Int32 × nM), fX12_opened_35 N n x2 x3 M = some r → n_At l w 2 mX12_opened 35 [(0, .ref 107), (2, .int x2), (3, .int x3)] [] (G, M) (dv_i r.1, (G, r.2)) := by
  intro n
  induction n with
  | zero => intro x2 x3 M r h; cases (show (none : Option (Int32 × nM)) = some r from h)
  | succ n ih =>
    intro x2 x3 M r h
    exact n_seg (fin := n_fin dv_i G) (K := [(35, fun lv st M => n_lC 107 lv 0 (n_lI lv 2 (fun x2 => n_lI lv 3 (fun x3 => n_pE st (fX12_opened_35 N n x2 x3 M)))))]) 28 (iX12_opened N hG) (n_kc (fun lv st M r h => by
      obtain ⟨e0, h1⟩ := n_lC_x h
      obtain ⟨x2, e2, h2⟩ := n_lI_x h1
      obtain ⟨x3, e3, h3⟩ := n_lI_x h2
      obtain ⟨rfl, h4⟩ := n_pE_x h3
      exact n_sub (n_qc e0 (n_qc e2 (n_qc e3 n_qe))) (ih x2 x3 M r h4)) n_ke) (by rfl) h
def fX12_opened (N : Nat) (x1 : Int32) (M : nM) : Option (Int32 × nM) :=
  let M1 : nM := n_up M 107 0 (0 : Int32)
  (fX12_isIn x1 (-1 : Int32) (1023 : Int32) M1).bind fun p2 =>
  if ¬ p2.1 = 0 then
    if x1 = (-1 : Int32) then
      fX12_opened_35 N N (10 : Int32) (0 : Int32) p2.2
    else
      (fX12_openedFrom N x1 p2.2).bind fun p3 =>
      some (p3.1, p3.2)
  else
    some ((-1 : Int32), p2.2)
set_option maxRecDepth 200000 in
theorem bX12_opened_0 {l : Launch} {w : nW} (N : Nat) {G : nG} (hG : n_GOK G) (x1 : Int32) (M : nM) (r : Int32 × nM) (h : fX12_opened N x1 M = some r) : n_At l w 2 mX12_opened 0 [(0, .ref 107), (1, .int x1)] [] (G, M) (dv_i r.1, (G, r.2)) :=
  n_seg (fin := n_fin dv_i G) (K := [(35, fun lv st M => n_lC 107 lv 0 (n_lI lv 2 (fun x2 => n_lI lv 3 (fun x3 => n_pE st (fX12_opened_35 N N x2 x3 M)))))]) 25 (iX12_opened N hG) (n_kc (fun lv st M r h => by
      obtain ⟨e0, h1⟩ := n_lC_x h
      obtain ⟨x2, e2, h2⟩ := n_lI_x h1
      obtain ⟨x3, e3, h3⟩ := n_lI_x h2
      obtain ⟨rfl, h4⟩ := n_pE_x h3
      exact n_sub (n_qc e0 (n_qc e2 (n_qc e3 n_qe))) (bX12_opened_35 N hG N x2 x3 M r h4)) n_ke) (by rfl) h
theorem eX12_opened {l : Launch} {w : nW} (N : Nat) {G : nG} (hG : n_GOK G) (z1 : Int32) (M : nM) (r : Int32 × nM) (h : fX12_opened N z1 M = some r) : n_Met l w 2 mX12_opened [.ref 107, .int z1] (G, M) (dv_i r.1, (G, r.2)) :=
  n_entry (by decide +kernel) rfl (Nat.le_of_ble_eq_true rfl) (n_sub (lv := [(0, .ref 107), (1, .int z1)]) (n_qc rfl (n_qc rfl n_qe)) (bX12_opened_0 N hG z1 M r h))
abbrev hX12_opened (N : Nat) : nF := fun T as M k => n_pC 107 as (fun as => n_pI as (fun z1 as => n_pE as ((fX12_opened N z1 M).bind fun p => k (dv_i p.1) p.2)))
theorem csX12_opened {l : Launch} {w : nW} (N : Nat) {G : nG} (hG : n_GOK G) : n_CS l w 2 mX12_opened G (hX12_opened N) := fun T as M k r h => by
  obtain ⟨t0, rfl, h1⟩ := n_pC_x h
  obtain ⟨z1, t1, rfl, h2⟩ := n_pI_x h1
  obtain ⟨rfl, hE⟩ := n_pE_x h2
  obtain ⟨p, hp, hk⟩ := Option.bind_eq_some_iff.mp hE
  exact ⟨_, _, eX12_opened N hG z1 M p hp, hk⟩
/-! ===== SleightHouse$Thought.lastInRing(II)I ===== -/
def mX9_lastInRing : nY := (RX9, yX9_lastInRing, cX9_lastInRing, 4, some .int)
theorem okX9_lastInRing : n_MOK mX9_lastInRing 2 := ⟨w_1209, w_149, ⟨by decide +kernel, by decide +kernel, by decide +kernel⟩, by decide⟩
abbrev aX9_lastInRing (N : Nat) : List (Nat × nO (Int32 × nM)) := [(0, o_push (.int (0 : Int32)) 1), (1, o_istore 4 2 2), (2, o_push (.int (2 : Int32)) 3), (3, o_istore 4 3 4), (4, o_iload 3 5), (5, o_iload 0 6), (6, oc_gt 21 9), (9, o_iload 2 10), (10, o_iload 1 11), (11, o_iadd 12), (12, o_iload 3 13), (13, o_irem 14), (14, o_istore 4 2 15), (15, o_inc 4 3 (1 : Int32) 18), (18, o_goto 4), (21, o_iload 2 22), (22, o_iret)]
set_option maxRecDepth 200000 in
theorem iX9_lastInRing {l : Launch} {w : nW} (N : Nat) {G : nG} : n_AllS l w 0 mX9_lastInRing G (n_fin dv_i G) (aX9_lastInRing N) :=
  n_c (s_iconst (pc := 0) (n := 0) (by decide +kernel) (by decide +kernel)) <|
  n_c (s_istore_n (pc := 1) (k := 2) (by decide +kernel)) <|
  n_c (s_iconst (pc := 2) (n := 2) (by decide +kernel) (by decide +kernel)) <|
  n_c (s_istore_n (pc := 3) (k := 3) (by decide +kernel)) <|
  n_c (s_iload_n (pc := 4) (k := 3) (by decide +kernel)) <|
  n_c (s_iload_n (pc := 5) (k := 0) (by decide +kernel)) <|
  n_c (s_icmp_gt (pc := 6) (off := 15) (by decide +kernel) (by decide +kernel)) <|
  n_c (s_iload_n (pc := 9) (k := 2) (by decide +kernel)) <|
  n_c (s_iload_n (pc := 10) (k := 1) (by decide +kernel)) <|
  n_c (s_iadd (pc := 11) (by decide +kernel)) <|
  n_c (s_iload_n (pc := 12) (k := 3) (by decide +kernel)) <|
  n_c (s_irem (pc := 13) (by decide +kernel)) <|
  n_c (s_istore_n (pc := 14) (k := 2) (by decide +kernel)) <|
  n_c (s_iinc (pc := 15) (n := 1) (by decide +kernel) (by decide +kernel)) <|
  n_c (s_goto (pc := 18) (off := -14) (by decide +kernel) (by decide +kernel)) <|
  n_c (s_iload_n (pc := 21) (k := 2) (by decide +kernel)) <|
  n_c (s_iret (pc := 22) rfl (by decide +kernel)) <|
  n_e
def fX9_lastInRing_4 (N : Nat) : Nat → Int32 → Int32 → Int32 → Int32 → nM → Option (Int32 × nM)
  | 0, _, _, _, _, _ => none
  | n + 1, x0, x1, x2, x3, M =>
    if x0 < x3 then
      some (x2, M)
    else
      if x3 = 0 then none else
      let v1 : Int32 := ((x2 + x1) - (x2 + x1) / x3 * x3)
      let v2 : Int32 := (x3 + (1 : Int32))
      fX9_lastInRing_4 N n x0 x1 v1 v2 M
set_option maxRecDepth 200000 in
theorem bX9_lastInRing_4 {l : Launch} {w : nW} (N : Nat) {G : nG} : ∀ (n : Nat) (x0 : Int32) (x1 : Int32) (x2 : Int32) (x3 : Int32) (M : nM) (r : Int32 × nM), fX9_lastInRing_4 N n x0 x1 x2 x3 M = some r → n_At l w 0 mX9_lastInRing 4 [(0, .int x0), (1, .int x1), (2, .int x2), (3, .int x3)] [] (G, M) (dv_i r.1, (G, r.2)) := by
  intro n
  induction n with
  | zero => intro x0 x1 x2 x3 M r h; cases (show (none : Option (Int32 × nM)) = some r from h)
  | succ n ih =>
    intro x0 x1 x2 x3 M r h
    exact n_seg (fin := n_fin dv_i G) (K := [(4, fun lv st M => n_lI lv 0 (fun x0 => n_lI lv 1 (fun x1 => n_lI lv 2 (fun x2 => n_lI lv 3 (fun x3 => n_pE st (fX9_lastInRing_4 N n x0 x1 x2 x3 M))))))]) 16 (iX9_lastInRing N) (n_kc (fun lv st M r h => by
      obtain ⟨x0, e0, h1⟩ := n_lI_x h
      obtain ⟨x1, e1, h2⟩ := n_lI_x h1
      obtain ⟨x2, e2, h3⟩ := n_lI_x h2
      obtain ⟨x3, e3, h4⟩ := n_lI_x h3
      obtain ⟨rfl, h5⟩ := n_pE_x h4
      exact n_sub (n_qc e0 (n_qc e1 (n_qc e2 (n_qc e3 n_qe)))) (ih x0 x1 x2 x3 M r h5)) n_ke) (by rfl) h
def fX9_lastInRing (N : Nat) (x0 : Int32) (x1 : Int32) (M : nM) : Option (Int32 × nM) :=
  fX9_lastInRing_4 N N x0 x1 (0 : Int32) (2 : Int32) M
set_option maxRecDepth 200000 in
theorem bX9_lastInRing_0 {l : Launch} {w : nW} (N : Nat) {G : nG} (x0 : Int32) (x1 : Int32) (M : nM) (r : Int32 × nM) (h : fX9_lastInRing N x0 x1 M = some r) : n_At l w 0 mX9_lastInRing 0 [(0, .int x0), (1, .int x1)] [] (G, M) (dv_i r.1, (G, r.2)) :=
  n_seg (fin := n_fin dv_i G) (K := [(4, fun lv st M => n_lI lv 0 (fun x0 => n_lI lv 1 (fun x1 => n_lI lv 2 (fun x2 => n_lI lv 3 (fun x3 => n_pE st (fX9_lastInRing_4 N N x0 x1 x2 x3 M))))))]) 7 (iX9_lastInRing N) (n_kc (fun lv st M r h => by
      obtain ⟨x0, e0, h1⟩ := n_lI_x h
      obtain ⟨x1, e1, h2⟩ := n_lI_x h1
      obtain ⟨x2, e2, h3⟩ := n_lI_x h2
      obtain ⟨x3, e3, h4⟩ := n_lI_x h3
      obtain ⟨rfl, h5⟩ := n_pE_x h4
      exact n_sub (n_qc e0 (n_qc e1 (n_qc e2 (n_qc e3 n_qe)))) (bX9_lastInRing_4 N N x0 x1 x2 x3 M r h5)) n_ke) (by rfl) h
theorem eX9_lastInRing {l : Launch} {w : nW} (N : Nat) {G : nG} (z0 : Int32) (z1 : Int32) (M : nM) (r : Int32 × nM) (h : fX9_lastInRing N z0 z1 M = some r) : n_Met l w 0 mX9_lastInRing [.int z0, .int z1] (G, M) (dv_i r.1, (G, r.2)) :=
  n_entry (by decide +kernel) rfl (Nat.le_of_ble_eq_true rfl) (n_sub (lv := [(0, .int z0), (1, .int z1)]) (n_qc rfl (n_qc rfl n_qe)) (bX9_lastInRing_0 N z0 z1 M r h))
abbrev hX9_lastInRing (N : Nat) : nF := fun T as M k => n_pI as (fun z0 as => n_pI as (fun z1 as => n_pE as ((fX9_lastInRing N z0 z1 M).bind fun p => k (dv_i p.1) p.2)))
theorem csX9_lastInRing {l : Launch} {w : nW} (N : Nat) {G : nG} : n_CS l w 0 mX9_lastInRing G (hX9_lastInRing N) := fun T as M k r h => by
  obtain ⟨z0, t0, rfl, h1⟩ := n_pI_x h
  obtain ⟨z1, t1, rfl, h2⟩ := n_pI_x h1
  obtain ⟨rfl, hE⟩ := n_pE_x h2
  obtain ⟨p, hp, hk⟩ := Option.bind_eq_some_iff.mp hE
  exact ⟨_, _, eX9_lastInRing N z0 z1 M p hp, hk⟩
