/-! ===== SleightHouse$Reader.childLine()Z ===== -/
def mX6_childLine : nY := (RX6, yX6_childLine, cX6_childLine, 3, some .boolean)
theorem okX6_childLine : n_MOK mX6_childLine 0 := ⟨w_1045, w_148, ⟨by decide +kernel, by decide +kernel, by decide +kernel⟩, by decide⟩
abbrev aX6_childLine (N : Nat) (G : nG) : List (Nat × nO (Int32 × nM)) := [(0, o_aload 0 1), (1, o_callVc 80 0 (hX6_step) 4), (4, o_aload 0 5), (5, o_gRc 80 82 8), (8, o_aload 0 9), (9, o_gIc 80 6 12), (12, o_aldc 82 401 13), (13, o_push (.int (2 : Int32)) 14), (14, oc_ne 40 17), (17, o_aload 0 18), (18, o_aload 0 19), (19, o_gRc 80 83 22), (22, o_aload 0 23), (23, o_gIc 80 6 26), (26, o_aldc 83 401 27), (27, o_callVc 80 1 (hX6_linesOfChild N G) 30), (30, o_push (.int (2 : Int32)) 31), (31, oc_lt 40 34), (34, o_aload 0 35), (35, o_push (.int (2 : Int32)) 36), (36, o_callVc 80 1 (hX6_blame) 39), (39, o_zret), (40, o_aload 0 41), (41, o_aload 0 42), (42, o_gRc 80 3 45), (45, o_gIc 3 6 48), (48, o_callVc 80 1 (hX6_numberBelow) 51), (51, o_istore 3 1 52), (52, o_iload 1 53), (53, o_push (.int (-1 : Int32)) 54), (54, oc_eq 77 57), (57, o_aload 0 58), (58, o_push (.int (154 : Int32)) 61), (61, o_callVc 80 1 (hX6_expect) 64), (64, oi_eq 77 67), (67, o_aload 0 68), (68, o_push (.int (155 : Int32)) 71), (71, o_callVc 80 1 (hX6_expect) 74), (74, oi_ne 79 77), (77, o_push (.int (0 : Int32)) 78), (78, o_zret), (79, o_aload 0 80), (80, o_gRc 80 82 83), (83, o_aload 0 84), (84, o_gIc 80 6 87), (87, o_aldc 82 401 88), (88, o_push (.int (2 : Int32)) 89), (89, oc_ne 111 92), (92, o_aload 0 93), (93, o_gRc 80 83 96), (96, o_aload 0 97), (97, o_gIc 80 6 100), (100, o_aldc 83 401 101), (101, o_iload 1 102), (102, oc_ne 111 105), (105, o_aload 0 106), (106, o_push (.int (2 : Int32)) 107), (107, o_callVc 80 1 (hX6_blame) 110), (110, o_zret), (111, o_aload 0 112), (112, o_aload 0 113), (113, o_gRc 80 3 116), (116, o_gIc 3 6 119), (119, o_callVc 80 1 (hX6_numberBelow) 122), (122, o_istore 3 2 123), (123, o_iload 2 124), (124, o_push (.int (-1 : Int32)) 125), (125, oc_eq 137 128), (128, o_aload 0 129), (129, o_push (.int (59 : Int32)) 131), (131, o_callVc 80 1 (hX6_expect) 134), (134, oi_ne 139 137), (137, o_push (.int (0 : Int32)) 138), (138, o_zret), (139, o_aload 0 140), (140, o_gRc 80 91 143), (143, o_iload 1 144), (144, o_iload 2 145), (145, o_push (.int (0 : Int32)) 146), (146, o_push (.int (0 : Int32)) 147), (147, o_callVc 91 4 (hX7_add G) 150), (150, o_pop 151), (151, o_push (.int (1 : Int32)) 152), (152, o_zret)]
set_option maxRecDepth 200000 in
theorem iX6_childLine {l : Launch} {w : nW} (N : Nat) {G : nG} (hG : n_GOK G) : n_AllS l w 2 mX6_childLine G (n_fin dv_i G) (aX6_childLine N G) :=
  n_c (s_aload_n (pc := 0) (k := 0) (by decide +kernel)) <|
  n_c (s_callVc (s_callV (pc := 1) (csX6_step hG) (by decide) okX6_step nok6 w_983 w_21 w_981 (by decide +kernel)) (gk80 hG)) <|
  n_c (s_aload_n (pc := 4) (k := 0) (by decide +kernel)) <|
  n_c (s_gRc (s_getR (pc := 5) (ci := 6) (k := 2) (idx := 15) nok6 (by decide) rfl (by decide +kernel) w_488) (gk80 hG) (gm80_2 hG)) <|
  n_c (s_aload_n (pc := 8) (k := 0) (by decide +kernel)) <|
  n_c (s_gIc (s_getI (pc := 9) (ci := 6) (k := 6) (idx := 29) nok6 (by decide) rfl (by decide +kernel) w_492) (gk80 hG)) <|
  n_c (s_aldc (s_iaload (pc := 12) (by decide +kernel)) (gk82 hG) (gl82 hG)) <|
  n_c (s_iconst (pc := 13) (n := 2) (by decide +kernel) (by decide +kernel)) <|
  n_c (s_icmp_ne (pc := 14) (off := 26) (by decide +kernel) (by decide +kernel)) <|
  n_c (s_aload_n (pc := 17) (k := 0) (by decide +kernel)) <|
  n_c (s_aload_n (pc := 18) (k := 0) (by decide +kernel)) <|
  n_c (s_gRc (s_getR (pc := 19) (ci := 6) (k := 3) (idx := 19) nok6 (by decide) rfl (by decide +kernel) w_489) (gk80 hG) (gm80_3 hG)) <|
  n_c (s_aload_n (pc := 22) (k := 0) (by decide +kernel)) <|
  n_c (s_gIc (s_getI (pc := 23) (ci := 6) (k := 6) (idx := 29) nok6 (by decide) rfl (by decide +kernel) w_492) (gk80 hG)) <|
  n_c (s_aldc (s_iaload (pc := 26) (by decide +kernel)) (gk83 hG) (gl83 hG)) <|
  n_c (s_callVc (s_callV (pc := 27) (csX6_linesOfChild N hG) (by decide) okX6_linesOfChild nok6 w_1048 w_33 w_1046 (by decide +kernel)) (gk80 hG)) <|
  n_c (s_iconst (pc := 30) (n := 2) (by decide +kernel) (by decide +kernel)) <|
  n_c (s_icmp_lt (pc := 31) (off := 9) (by decide +kernel) (by decide +kernel)) <|
  n_c (s_aload_n (pc := 34) (k := 0) (by decide +kernel)) <|
  n_c (s_iconst (pc := 35) (n := 2) (by decide +kernel) (by decide +kernel)) <|
  n_c (s_callVc (s_callV (pc := 36) (csX6_blame hG) (by decide) okX6_blame nok6 w_971 w_19 w_969 (by decide +kernel)) (gk80 hG)) <|
  n_c (s_zret (pc := 39) rfl (by decide +kernel)) <|
  n_c (s_aload_n (pc := 40) (k := 0) (by decide +kernel)) <|
  n_c (s_aload_n (pc := 41) (k := 0) (by decide +kernel)) <|
  n_c (s_gRc (s_getR (pc := 42) (ci := 6) (k := 0) (idx := 57) nok6 (by decide) rfl (by decide +kernel) w_486) (gk80 hG) (gm80_0 hG)) <|
  n_c (s_gIc (s_getI (pc := 45) (ci := 8) (k := 6) (idx := 137) nok8 (by decide) rfl (by decide +kernel) w_204) (gk3 hG)) <|
  n_c (s_callVc (s_callV (pc := 48) (csX6_numberBelow hG) (by decide) okX6_numberBelow nok6 w_1027 w_29 w_1025 (by decide +kernel)) (gk80 hG)) <|
  n_c (s_istore_n (pc := 51) (k := 1) (by decide +kernel)) <|
  n_c (s_iload_n (pc := 52) (k := 1) (by decide +kernel)) <|
  n_c (s_iconst (pc := 53) (n := -1) (by decide +kernel) (by decide +kernel)) <|
  n_c (s_icmp_eq (pc := 54) (off := 23) (by decide +kernel) (by decide +kernel)) <|
  n_c (s_aload_n (pc := 57) (k := 0) (by decide +kernel)) <|
  n_c (s_sipush (pc := 58) (n := 154) (by decide +kernel) (by decide +kernel)) <|
  n_c (s_callVc (s_callV (pc := 61) (csX6_expect hG) (by decide) okX6_expect nok6 w_1015 w_27 w_1013 (by decide +kernel)) (gk80 hG)) <|
  n_c (s_if_eq (pc := 64) (off := 13) (by decide +kernel) (by decide +kernel)) <|
  n_c (s_aload_n (pc := 67) (k := 0) (by decide +kernel)) <|
  n_c (s_sipush (pc := 68) (n := 155) (by decide +kernel) (by decide +kernel)) <|
  n_c (s_callVc (s_callV (pc := 71) (csX6_expect hG) (by decide) okX6_expect nok6 w_1015 w_27 w_1013 (by decide +kernel)) (gk80 hG)) <|
  n_c (s_if_ne (pc := 74) (off := 5) (by decide +kernel) (by decide +kernel)) <|
  n_c (s_iconst (pc := 77) (n := 0) (by decide +kernel) (by decide +kernel)) <|
  n_c (s_zret (pc := 78) rfl (by decide +kernel)) <|
  n_c (s_aload_n (pc := 79) (k := 0) (by decide +kernel)) <|
  n_c (s_gRc (s_getR (pc := 80) (ci := 6) (k := 2) (idx := 15) nok6 (by decide) rfl (by decide +kernel) w_488) (gk80 hG) (gm80_2 hG)) <|
  n_c (s_aload_n (pc := 83) (k := 0) (by decide +kernel)) <|
  n_c (s_gIc (s_getI (pc := 84) (ci := 6) (k := 6) (idx := 29) nok6 (by decide) rfl (by decide +kernel) w_492) (gk80 hG)) <|
  n_c (s_aldc (s_iaload (pc := 87) (by decide +kernel)) (gk82 hG) (gl82 hG)) <|
  n_c (s_iconst (pc := 88) (n := 2) (by decide +kernel) (by decide +kernel)) <|
  n_c (s_icmp_ne (pc := 89) (off := 22) (by decide +kernel) (by decide +kernel)) <|
  n_c (s_aload_n (pc := 92) (k := 0) (by decide +kernel)) <|
  n_c (s_gRc (s_getR (pc := 93) (ci := 6) (k := 3) (idx := 19) nok6 (by decide) rfl (by decide +kernel) w_489) (gk80 hG) (gm80_3 hG)) <|
  n_c (s_aload_n (pc := 96) (k := 0) (by decide +kernel)) <|
  n_c (s_gIc (s_getI (pc := 97) (ci := 6) (k := 6) (idx := 29) nok6 (by decide) rfl (by decide +kernel) w_492) (gk80 hG)) <|
  n_c (s_aldc (s_iaload (pc := 100) (by decide +kernel)) (gk83 hG) (gl83 hG)) <|
  n_c (s_iload_n (pc := 101) (k := 1) (by decide +kernel)) <|
  n_c (s_icmp_ne (pc := 102) (off := 9) (by decide +kernel) (by decide +kernel)) <|
  n_c (s_aload_n (pc := 105) (k := 0) (by decide +kernel)) <|
  n_c (s_iconst (pc := 106) (n := 2) (by decide +kernel) (by decide +kernel)) <|
  n_c (s_callVc (s_callV (pc := 107) (csX6_blame hG) (by decide) okX6_blame nok6 w_971 w_19 w_969 (by decide +kernel)) (gk80 hG)) <|
  n_c (s_zret (pc := 110) rfl (by decide +kernel)) <|
  n_c (s_aload_n (pc := 111) (k := 0) (by decide +kernel)) <|
  n_c (s_aload_n (pc := 112) (k := 0) (by decide +kernel)) <|
  n_c (s_gRc (s_getR (pc := 113) (ci := 6) (k := 0) (idx := 57) nok6 (by decide) rfl (by decide +kernel) w_486) (gk80 hG) (gm80_0 hG)) <|
  n_c (s_gIc (s_getI (pc := 116) (ci := 8) (k := 6) (idx := 137) nok8 (by decide) rfl (by decide +kernel) w_204) (gk3 hG)) <|
  n_c (s_callVc (s_callV (pc := 119) (csX6_numberBelow hG) (by decide) okX6_numberBelow nok6 w_1027 w_29 w_1025 (by decide +kernel)) (gk80 hG)) <|
  n_c (s_istore_n (pc := 122) (k := 2) (by decide +kernel)) <|
  n_c (s_iload_n (pc := 123) (k := 2) (by decide +kernel)) <|
  n_c (s_iconst (pc := 124) (n := -1) (by decide +kernel) (by decide +kernel)) <|
  n_c (s_icmp_eq (pc := 125) (off := 12) (by decide +kernel) (by decide +kernel)) <|
  n_c (s_aload_n (pc := 128) (k := 0) (by decide +kernel)) <|
  n_c (s_bipush (pc := 129) (n := 59) (by decide +kernel) (by decide +kernel)) <|
  n_c (s_callVc (s_callV (pc := 131) (csX6_expect hG) (by decide) okX6_expect nok6 w_1015 w_27 w_1013 (by decide +kernel)) (gk80 hG)) <|
  n_c (s_if_ne (pc := 134) (off := 5) (by decide +kernel) (by decide +kernel)) <|
  n_c (s_iconst (pc := 137) (n := 0) (by decide +kernel) (by decide +kernel)) <|
  n_c (s_zret (pc := 138) rfl (by decide +kernel)) <|
  n_c (s_aload_n (pc := 139) (k := 0) (by decide +kernel)) <|
  n_c (s_gRc (s_getR (pc := 140) (ci := 6) (k := 8) (idx := 44) nok6 (by decide) rfl (by decide +kernel) w_495) (gk80 hG) (gm80_8 hG)) <|
  n_c (s_iload_n (pc := 143) (k := 1) (by decide +kernel)) <|
  n_c (s_iload_n (pc := 144) (k := 2) (by decide +kernel)) <|
  n_c (s_iconst (pc := 145) (n := 0) (by decide +kernel) (by decide +kernel)) <|
  n_c (s_iconst (pc := 146) (n := 0) (by decide +kernel) (by decide +kernel)) <|
  n_c (s_callVc (s_callV (pc := 147) (csX7_add) (by decide) okX7_add nok7 w_1030 w_1031 w_1029 (by decide +kernel)) (gk91 hG)) <|
  n_c (s_pop (pc := 150) (by decide +kernel)) <|
  n_c (s_iconst (pc := 151) (n := 1) (by decide +kernel) (by decide +kernel)) <|
  n_c (s_zret (pc := 152) rfl (by decide +kernel)) <|
  n_e
def fX6_childLine_111 (N : Nat) (G : nG) (x1 : Int32) (M : nM) : Option (Int32 × nM) :=
  (fX6_numberBelow (M 3 6) M).bind fun p1 =>
  if p1.1 = (-1 : Int32) then
    some ((0 : Int32), p1.2)
  else
    (fX6_expect (59 : Int32) p1.2).bind fun p2 =>
    if ¬ p2.1 = 0 then
      (fX7_add G 91 x1 p1.1 (0 : Int32) (0 : Int32) p2.2).bind fun p3 =>
      some ((1 : Int32), p3.2)
    else
      some ((0 : Int32), p2.2)
set_option maxRecDepth 200000 in
theorem bX6_childLine_111 {l : Launch} {w : nW} (N : Nat) {G : nG} (hG : n_GOK G) (x1 : Int32) (M : nM) (r : Int32 × nM) (h : fX6_childLine_111 N G x1 M = some r) : n_At l w 2 mX6_childLine 111 [(0, .ref 80), (1, .int x1)] [] (G, M) (dv_i r.1, (G, r.2)) :=
  n_seg (fin := n_fin dv_i G) (K := []) 30 (iX6_childLine N hG) n_ke (by rfl) h
def fX6_childLine_40 (N : Nat) (G : nG) (M : nM) : Option (Int32 × nM) :=
  (fX6_numberBelow (M 3 6) M).bind fun p1 =>
  if p1.1 = (-1 : Int32) then
    some ((0 : Int32), p1.2)
  else
    (fX6_expect (154 : Int32) p1.2).bind fun p2 =>
    if p2.1 = 0 then
      some ((0 : Int32), p2.2)
    else
      (fX6_expect (155 : Int32) p2.2).bind fun p3 =>
      if ¬ p3.1 = 0 then
        n_chk (n_ib 401 (p3.2 80 6)) <|
        if ¬ (p3.2 82 (p3.2 80 6).toNatClampNeg) = (2 : Int32) then
          fX6_childLine_111 N G p1.1 p3.2
        else
          n_chk (n_ib 401 (p3.2 80 6)) <|
          if ¬ (p3.2 83 (p3.2 80 6).toNatClampNeg) = p1.1 then
            fX6_childLine_111 N G p1.1 p3.2
          else
            (fX6_blame (2 : Int32) p3.2).bind fun p4 =>
            n_chk (p4.1 == 0 || p4.1 == 1) (some (p4.1, p4.2))
      else
        some ((0 : Int32), p3.2)
set_option maxRecDepth 200000 in
theorem bX6_childLine_40 {l : Launch} {w : nW} (N : Nat) {G : nG} (hG : n_GOK G) (M : nM) (r : Int32 × nM) (h : fX6_childLine_40 N G M = some r) : n_At l w 2 mX6_childLine 40 [(0, .ref 80)] [] (G, M) (dv_i r.1, (G, r.2)) :=
  n_seg (fin := n_fin dv_i G) (K := [(111, fun lv st M => n_lC 80 lv 0 (n_lI lv 1 (fun x1 => n_pE st (fX6_childLine_111 N G x1 M))))]) 44 (iX6_childLine N hG) (n_kc (fun lv st M r h => by
      obtain ⟨e0, h1⟩ := n_lC_x h
      obtain ⟨x1, e1, h2⟩ := n_lI_x h1
      obtain ⟨rfl, h3⟩ := n_pE_x h2
      exact n_sub (n_qc e0 (n_qc e1 n_qe)) (bX6_childLine_111 N hG x1 M r h3)) n_ke) (by rfl) h
def fX6_childLine (N : Nat) (G : nG) (M : nM) : Option (Int32 × nM) :=
  (fX6_step M).bind fun p1 =>
  n_chk (n_ib 401 (p1.2 80 6)) <|
  if ¬ (p1.2 82 (p1.2 80 6).toNatClampNeg) = (2 : Int32) then
    fX6_childLine_40 N G p1.2
  else
    n_chk (n_ib 401 (p1.2 80 6)) <|
    (fX6_linesOfChild N G (p1.2 83 (p1.2 80 6).toNatClampNeg) p1.2).bind fun p2 =>
    if p2.1 < (2 : Int32) then
      fX6_childLine_40 N G p2.2
    else
      (fX6_blame (2 : Int32) p2.2).bind fun p3 =>
      n_chk (p3.1 == 0 || p3.1 == 1) (some (p3.1, p3.2))
set_option maxRecDepth 200000 in
theorem bX6_childLine_0 {l : Launch} {w : nW} (N : Nat) {G : nG} (hG : n_GOK G) (M : nM) (r : Int32 × nM) (h : fX6_childLine N G M = some r) : n_At l w 2 mX6_childLine 0 [(0, .ref 80)] [] (G, M) (dv_i r.1, (G, r.2)) :=
  n_seg (fin := n_fin dv_i G) (K := [(40, fun lv st M => n_lC 80 lv 0 (n_pE st (fX6_childLine_40 N G M)))]) 25 (iX6_childLine N hG) (n_kc (fun lv st M r h => by
      obtain ⟨e0, h1⟩ := n_lC_x h
      obtain ⟨rfl, h2⟩ := n_pE_x h1
      exact n_sub (n_qc e0 n_qe) (bX6_childLine_40 N hG M r h2)) n_ke) (by rfl) h
theorem eX6_childLine {l : Launch} {w : nW} (N : Nat) {G : nG} (hG : n_GOK G) (M : nM) (r : Int32 × nM) (h : fX6_childLine N G M = some r) : n_Met l w 2 mX6_childLine [.ref 80] (G, M) (dv_i r.1, (G, r.2)) :=
  n_entry (by decide +kernel) rfl (Nat.le_of_ble_eq_true rfl) (n_sub (lv := [(0, .ref 80)]) (n_qc rfl n_qe) (bX6_childLine_0 N hG M r h))
abbrev hX6_childLine (N : Nat) (G : nG) : nF := fun T as M k => n_pC 80 as (fun as => n_pE as ((fX6_childLine N G M).bind fun p => k (dv_i p.1) p.2))
theorem csX6_childLine {l : Launch} {w : nW} (N : Nat) {G : nG} (hG : n_GOK G) : n_CS l w 2 mX6_childLine G (hX6_childLine N G) := fun T as M k r h => by
  obtain ⟨t0, rfl, h1⟩ := n_pC_x h
  obtain ⟨rfl, hE⟩ := n_pE_x h1
  obtain ⟨p, hp, hk⟩ := Option.bind_eq_some_iff.mp hE
  exact ⟨_, _, eX6_childLine N hG M p hp, hk⟩
/-! ===== SleightHouse$Law.copyFrom(LSleightHouse$Law;)V ===== -/
def mX3_copyFrom : nY := (RX3, yX3_copyFrom, cX3_copyFrom, 2, none)
theorem okX3_copyFrom : n_MOK mX3_copyFrom 1 := ⟨w_1054, w_144, ⟨by decide +kernel, by decide +kernel, by decide +kernel⟩, by decide⟩
abbrev aX3_copyFrom (G : nG) : List (Nat × nO (Unit × nM)) := [(0, o_aload 1 1), (1, o_getR G 3 0 4), (4, o_push (.int (0 : Int32)) 5), (5, o_aload 0 6), (6, o_getR G 3 0 9), (9, o_push (.int (0 : Int32)) 10), (10, o_push (.int (400 : Int32)) 13), (13, o_copy G 16), (16, o_aload 1 17), (17, o_getR G 3 1 20), (20, o_push (.int (0 : Int32)) 21), (21, o_aload 0 22), (22, o_getR G 3 1 25), (25, o_push (.int (0 : Int32)) 26), (26, o_push (.int (16 : Int32)) 28), (28, o_copy G 31), (31, o_aload 1 32), (32, o_getR G 3 2 35), (35, o_push (.int (0 : Int32)) 36), (36, o_aload 0 37), (37, o_getR G 3 2 40), (40, o_push (.int (0 : Int32)) 41), (41, o_push (.int (16 : Int32)) 43), (43, o_copy G 46), (46, o_aload 1 47), (47, o_getR G 3 3 50), (50, o_push (.int (0 : Int32)) 51), (51, o_aload 0 52), (52, o_getR G 3 3 55), (55, o_push (.int (0 : Int32)) 56), (56, o_push (.int (16 : Int32)) 58), (58, o_copy G 61), (61, o_aload 1 62), (62, o_getR G 3 4 65), (65, o_push (.int (0 : Int32)) 66), (66, o_aload 0 67), (67, o_getR G 3 4 70), (70, o_push (.int (0 : Int32)) 71), (71, o_push (.int (16 : Int32)) 73), (73, o_copy G 76), (76, o_aload 0 77), (77, o_aload 1 78), (78, o_getI G 3 5 81), (81, o_putI G 3 5 84), (84, o_aload 0 85), (85, o_aload 1 86), (86, o_getI G 3 6 89), (89, o_putI G 3 6 92), (92, o_vret)]
set_option maxRecDepth 200000 in
theorem iX3_copyFrom {l : Launch} {w : nW} {G : nG} : n_AllS l w 0 mX3_copyFrom G (n_fin dv_v G) (aX3_copyFrom G) :=
  n_c (s_aload_n (pc := 0) (k := 1) (by decide +kernel)) <|
  n_c (s_getR (pc := 1) (ci := 3) (k := 0) (idx := 9) nok3 (by decide) rfl (by decide +kernel) w_325) <|
  n_c (s_iconst (pc := 4) (n := 0) (by decide +kernel) (by decide +kernel)) <|
  n_c (s_aload_n (pc := 5) (k := 0) (by decide +kernel)) <|
  n_c (s_getR (pc := 6) (ci := 3) (k := 0) (idx := 9) nok3 (by decide) rfl (by decide +kernel) w_325) <|
  n_c (s_iconst (pc := 9) (n := 0) (by decide +kernel) (by decide +kernel)) <|
  n_c (s_sipush (pc := 10) (n := 400) (by decide +kernel) (by decide +kernel)) <|
  n_c (s_copy (pc := 13) w_1055 w_698 w_697 w_152 (by decide +kernel)) <|
  n_c (s_aload_n (pc := 16) (k := 1) (by decide +kernel)) <|
  n_c (s_getR (pc := 17) (ci := 3) (k := 1) (idx := 15) nok3 (by decide) rfl (by decide +kernel) w_326) <|
  n_c (s_iconst (pc := 20) (n := 0) (by decide +kernel) (by decide +kernel)) <|
  n_c (s_aload_n (pc := 21) (k := 0) (by decide +kernel)) <|
  n_c (s_getR (pc := 22) (ci := 3) (k := 1) (idx := 15) nok3 (by decide) rfl (by decide +kernel) w_326) <|
  n_c (s_iconst (pc := 25) (n := 0) (by decide +kernel) (by decide +kernel)) <|
  n_c (s_bipush (pc := 26) (n := 16) (by decide +kernel) (by decide +kernel)) <|
  n_c (s_copy (pc := 28) w_1055 w_698 w_697 w_152 (by decide +kernel)) <|
  n_c (s_aload_n (pc := 31) (k := 1) (by decide +kernel)) <|
  n_c (s_getR (pc := 32) (ci := 3) (k := 2) (idx := 18) nok3 (by decide) rfl (by decide +kernel) w_327) <|
  n_c (s_iconst (pc := 35) (n := 0) (by decide +kernel) (by decide +kernel)) <|
  n_c (s_aload_n (pc := 36) (k := 0) (by decide +kernel)) <|
  n_c (s_getR (pc := 37) (ci := 3) (k := 2) (idx := 18) nok3 (by decide) rfl (by decide +kernel) w_327) <|
  n_c (s_iconst (pc := 40) (n := 0) (by decide +kernel) (by decide +kernel)) <|
  n_c (s_bipush (pc := 41) (n := 16) (by decide +kernel) (by decide +kernel)) <|
  n_c (s_copy (pc := 43) w_1055 w_698 w_697 w_152 (by decide +kernel)) <|
  n_c (s_aload_n (pc := 46) (k := 1) (by decide +kernel)) <|
  n_c (s_getR (pc := 47) (ci := 3) (k := 3) (idx := 21) nok3 (by decide) rfl (by decide +kernel) w_328) <|
  n_c (s_iconst (pc := 50) (n := 0) (by decide +kernel) (by decide +kernel)) <|
  n_c (s_aload_n (pc := 51) (k := 0) (by decide +kernel)) <|
  n_c (s_getR (pc := 52) (ci := 3) (k := 3) (idx := 21) nok3 (by decide) rfl (by decide +kernel) w_328) <|
  n_c (s_iconst (pc := 55) (n := 0) (by decide +kernel) (by decide +kernel)) <|
  n_c (s_bipush (pc := 56) (n := 16) (by decide +kernel) (by decide +kernel)) <|
  n_c (s_copy (pc := 58) w_1055 w_698 w_697 w_152 (by decide +kernel)) <|
  n_c (s_aload_n (pc := 61) (k := 1) (by decide +kernel)) <|
  n_c (s_getR (pc := 62) (ci := 3) (k := 4) (idx := 24) nok3 (by decide) rfl (by decide +kernel) w_329) <|
  n_c (s_iconst (pc := 65) (n := 0) (by decide +kernel) (by decide +kernel)) <|
  n_c (s_aload_n (pc := 66) (k := 0) (by decide +kernel)) <|
  n_c (s_getR (pc := 67) (ci := 3) (k := 4) (idx := 24) nok3 (by decide) rfl (by decide +kernel) w_329) <|
  n_c (s_iconst (pc := 70) (n := 0) (by decide +kernel) (by decide +kernel)) <|
  n_c (s_bipush (pc := 71) (n := 16) (by decide +kernel) (by decide +kernel)) <|
  n_c (s_copy (pc := 73) w_1055 w_698 w_697 w_152 (by decide +kernel)) <|
  n_c (s_aload_n (pc := 76) (k := 0) (by decide +kernel)) <|
  n_c (s_aload_n (pc := 77) (k := 1) (by decide +kernel)) <|
  n_c (s_getI (pc := 78) (ci := 3) (k := 5) (idx := 27) nok3 (by decide) rfl (by decide +kernel) w_330) <|
  n_c (s_putI (pc := 81) (ci := 3) (k := 5) (idx := 27) nok3 (by decide) rfl rfl (by decide +kernel) w_330) <|
  n_c (s_aload_n (pc := 84) (k := 0) (by decide +kernel)) <|
  n_c (s_aload_n (pc := 85) (k := 1) (by decide +kernel)) <|
  n_c (s_getI (pc := 86) (ci := 3) (k := 6) (idx := 31) nok3 (by decide) rfl (by decide +kernel) w_331) <|
  n_c (s_putI (pc := 89) (ci := 3) (k := 6) (idx := 31) nok3 (by decide) rfl rfl (by decide +kernel) w_331) <|
  n_c (s_vret (pc := 92) rfl (by decide +kernel)) <|
  n_e
def fX3_copyFrom (G : nG) (x0 : Nat) (x1 : Nat) (M : nM) : Option (Unit × nM) :=
  n_chk (Nat.beq (n_kd G x1) 3) <|
  n_chk (Nat.beq (n_kd G x0) 3) <|
  n_chk (n_cpok G (n_mr G x1 0) (n_mr G x0 0) (0 : Int32) (0 : Int32) (400 : Int32) && true) <|
  let M1 : nM := n_cpy M (n_mr G x1 0) (n_mr G x0 0) (0 : Int32).toNatClampNeg (0 : Int32).toNatClampNeg (400 : Int32).toNatClampNeg
  n_chk (Nat.beq (n_kd G x1) 3) <|
  n_chk (Nat.beq (n_kd G x0) 3) <|
  n_chk (n_cpok G (n_mr G x1 1) (n_mr G x0 1) (0 : Int32) (0 : Int32) (16 : Int32) && true) <|
  let M2 : nM := n_cpy M1 (n_mr G x1 1) (n_mr G x0 1) (0 : Int32).toNatClampNeg (0 : Int32).toNatClampNeg (16 : Int32).toNatClampNeg
  n_chk (Nat.beq (n_kd G x1) 3) <|
  n_chk (Nat.beq (n_kd G x0) 3) <|
  n_chk (n_cpok G (n_mr G x1 2) (n_mr G x0 2) (0 : Int32) (0 : Int32) (16 : Int32) && true) <|
  let M3 : nM := n_cpy M2 (n_mr G x1 2) (n_mr G x0 2) (0 : Int32).toNatClampNeg (0 : Int32).toNatClampNeg (16 : Int32).toNatClampNeg
  n_chk (Nat.beq (n_kd G x1) 3) <|
  n_chk (Nat.beq (n_kd G x0) 3) <|
  n_chk (n_cpok G (n_mr G x1 3) (n_mr G x0 3) (0 : Int32) (0 : Int32) (16 : Int32) && true) <|
  let M4 : nM := n_cpy M3 (n_mr G x1 3) (n_mr G x0 3) (0 : Int32).toNatClampNeg (0 : Int32).toNatClampNeg (16 : Int32).toNatClampNeg
  n_chk (Nat.beq (n_kd G x1) 3) <|
  n_chk (Nat.beq (n_kd G x0) 3) <|
  n_chk (n_cpok G (n_mr G x1 4) (n_mr G x0 4) (0 : Int32) (0 : Int32) (16 : Int32) && true) <|
  let M5 : nM := n_cpy M4 (n_mr G x1 4) (n_mr G x0 4) (0 : Int32).toNatClampNeg (0 : Int32).toNatClampNeg (16 : Int32).toNatClampNeg
  n_chk (Nat.beq (n_kd G x1) 3) <|
  n_chk (Nat.beq (n_kd G x0) 3) <|
  let M6 : nM := n_up M5 x0 5 (M5 x1 5)
  n_chk (Nat.beq (n_kd G x1) 3) <|
  n_chk (Nat.beq (n_kd G x0) 3) <|
  let M7 : nM := n_up M6 x0 6 (M6 x1 6)
  some ((), M7)
set_option maxRecDepth 200000 in
theorem bX3_copyFrom_0 {l : Launch} {w : nW} {G : nG} (x0 : Nat) (x1 : Nat) (M : nM) (r : Unit × nM) (h : fX3_copyFrom G x0 x1 M = some r) : n_At l w 0 mX3_copyFrom 0 [(0, .ref x0), (1, .ref x1)] [] (G, M) (dv_v r.1, (G, r.2)) :=
  n_seg (fin := n_fin dv_v G) (K := []) 52 (iX3_copyFrom) n_ke (by rfl) h
theorem eX3_copyFrom {l : Launch} {w : nW} {G : nG} (z0 : Nat) (z1 : Nat) (M : nM) (r : Unit × nM) (h : fX3_copyFrom G z0 z1 M = some r) : n_Met l w 0 mX3_copyFrom [.ref z0, .ref z1] (G, M) (dv_v r.1, (G, r.2)) :=
  n_entry (by decide +kernel) rfl (Nat.le_of_ble_eq_true rfl) (n_sub (lv := [(0, .ref z0), (1, .ref z1)]) (n_qc rfl (n_qc rfl n_qe)) (bX3_copyFrom_0 z0 z1 M r h))
abbrev hX3_copyFrom (G : nG) : nF := fun T as M k => n_pR as (fun z0 as => n_pR as (fun z1 as => n_pE as ((fX3_copyFrom G z0 z1 M).bind fun p => k (dv_v p.1) p.2)))
theorem csX3_copyFrom {l : Launch} {w : nW} {G : nG} : n_CS l w 0 mX3_copyFrom G (hX3_copyFrom G) := fun T as M k r h => by
  obtain ⟨z0, t0, rfl, h1⟩ := n_pR_x h
  obtain ⟨z1, t1, rfl, h2⟩ := n_pR_x h1
  obtain ⟨rfl, hE⟩ := n_pE_x h2
  obtain ⟨p, hp, hk⟩ := Option.bind_eq_some_iff.mp hE
  exact ⟨_, _, eX3_copyFrom z0 z1 M p hp, hk⟩
/-! ===== SleightHouse$House.linesOf(I)LSleightHouse$Rows; ===== -/
def mX1_linesOf : nY := (RX1, yX1_linesOf, cX1_linesOf, 2, some (.object "SleightHouse$Rows"))
theorem okX1_linesOf : n_MOK mX1_linesOf 1 := ⟨w_1059, w_138, ⟨by decide +kernel, by decide +kernel, by decide +kernel⟩, by decide⟩
abbrev aX1_linesOf : List (Nat × nO (Nat × nM)) := [(0, o_iload 1 1), (1, o_push (.int (1 : Int32)) 2), (2, oc_ne 10 5), (5, o_aload 0 6), (6, o_gRc 2 22 9), (9, o_aret), (10, o_iload 1 11), (11, o_push (.int (2 : Int32)) 12), (12, oc_ne 22 15), (15, o_aload 0 16), (16, o_gRc 2 24 19), (19, o_goto 26), (22, o_aload 0 23), (23, o_gRc 2 26 26), (26, o_aret)]
set_option maxRecDepth 200000 in
theorem iX1_linesOf {l : Launch} {w : nW} {G : nG} (hG : n_GOK G) : n_AllS l w 0 mX1_linesOf G (n_fin dv_r G) (aX1_linesOf) :=
  n_c (s_iload_n (pc := 0) (k := 1) (by decide +kernel)) <|
  n_c (s_iconst (pc := 1) (n := 1) (by decide +kernel) (by decide +kernel)) <|
  n_c (s_icmp_ne (pc := 2) (off := 8) (by decide +kernel) (by decide +kernel)) <|
  n_c (s_aload_n (pc := 5) (k := 0) (by decide +kernel)) <|
  n_c (s_gRc (s_getR (pc := 6) (ci := 1) (k := 4) (idx := 43) nok1 (by decide) rfl (by decide +kernel) w_413) (gk2 hG) (gm2_4 hG)) <|
  n_c (s_aret (pc := 9) rfl (by decide +kernel)) <|
  n_c (s_iload_n (pc := 10) (k := 1) (by decide +kernel)) <|
  n_c (s_iconst (pc := 11) (n := 2) (by decide +kernel) (by decide +kernel)) <|
  n_c (s_icmp_ne (pc := 12) (off := 10) (by decide +kernel) (by decide +kernel)) <|
  n_c (s_aload_n (pc := 15) (k := 0) (by decide +kernel)) <|
  n_c (s_gRc (s_getR (pc := 16) (ci := 1) (k := 5) (idx := 46) nok1 (by decide) rfl (by decide +kernel) w_416) (gk2 hG) (gm2_5 hG)) <|
  n_c (s_goto (pc := 19) (off := 7) (by decide +kernel) (by decide +kernel)) <|
  n_c (s_aload_n (pc := 22) (k := 0) (by decide +kernel)) <|
  n_c (s_gRc (s_getR (pc := 23) (ci := 1) (k := 6) (idx := 49) nok1 (by decide) rfl (by decide +kernel) w_419) (gk2 hG) (gm2_6 hG)) <|
  n_c (s_aret (pc := 26) rfl (by decide +kernel)) <|
  n_e
def fX1_linesOf (x1 : Int32) (M : nM) : Option (Nat × nM) :=
  if ¬ x1 = (1 : Int32) then
    if ¬ x1 = (2 : Int32) then
      some (26, M)
    else
      some (24, M)
  else
    some (22, M)
set_option maxRecDepth 200000 in
theorem bX1_linesOf_0 {l : Launch} {w : nW} {G : nG} (hG : n_GOK G) (x1 : Int32) (M : nM) (r : Nat × nM) (h : fX1_linesOf x1 M = some r) : n_At l w 0 mX1_linesOf 0 [(0, .ref 2), (1, .int x1)] [] (G, M) (dv_r r.1, (G, r.2)) :=
  n_seg (fin := n_fin dv_r G) (K := []) 19 (iX1_linesOf hG) n_ke (by rfl) h
theorem eX1_linesOf {l : Launch} {w : nW} {G : nG} (hG : n_GOK G) (z1 : Int32) (M : nM) (r : Nat × nM) (h : fX1_linesOf z1 M = some r) : n_Met l w 0 mX1_linesOf [.ref 2, .int z1] (G, M) (dv_r r.1, (G, r.2)) :=
  n_entry (by decide +kernel) rfl (Nat.le_of_ble_eq_true rfl) (n_sub (lv := [(0, .ref 2), (1, .int z1)]) (n_qc rfl (n_qc rfl n_qe)) (bX1_linesOf_0 hG z1 M r h))
abbrev hX1_linesOf : nF := fun T as M k => n_pC 2 as (fun as => n_pI as (fun z1 as => n_pE as ((fX1_linesOf z1 M).bind fun p => k (dv_r p.1) p.2)))
theorem csX1_linesOf {l : Launch} {w : nW} {G : nG} (hG : n_GOK G) : n_CS l w 0 mX1_linesOf G (hX1_linesOf) := fun T as M k r h => by
  obtain ⟨t0, rfl, h1⟩ := n_pC_x h
  obtain ⟨z1, t1, rfl, h2⟩ := n_pI_x h1
  obtain ⟨rfl, hE⟩ := n_pE_x h2
  obtain ⟨p, hp, hk⟩ := Option.bind_eq_some_iff.mp hE
  exact ⟨_, _, eX1_linesOf hG z1 M p hp, hk⟩
/-! ===== SleightHouse$Rows.copyFrom(LSleightHouse$Rows;)V ===== -/
def mX7_copyFrom : nY := (RX7, yX7_copyFrom, cX7_copyFrom, 3, none)
theorem okX7_copyFrom : n_MOK mX7_copyFrom 1 := ⟨w_1063, w_142, ⟨by decide +kernel, by decide +kernel, by decide +kernel⟩, by decide⟩
abbrev aX7_copyFrom (G : nG) : List (Nat × nO (Unit × nM)) := [(0, o_aload 0 1), (1, o_getR G 7 0 4), (4, o_alen G 14 5), (5, o_aload 1 6), (6, o_getR G 7 0 9), (9, o_alen G 14 10), (10, o_mmin 13), (13, o_istore 3 2 14), (14, o_aload 1 15), (15, o_getR G 7 0 18), (18, o_push (.int (0 : Int32)) 19), (19, o_aload 0 20), (20, o_getR G 7 0 23), (23, o_push (.int (0 : Int32)) 24), (24, o_iload 2 25), (25, o_copy G 28), (28, o_aload 0 29), (29, o_aload 1 30), (30, o_getI G 7 3 33), (33, o_putI G 7 3 36), (36, o_vret)]
set_option maxRecDepth 200000 in
theorem iX7_copyFrom {l : Launch} {w : nW} {G : nG} : n_AllS l w 0 mX7_copyFrom G (n_fin dv_v G) (aX7_copyFrom G) :=
  n_c (s_aload_n (pc := 0) (k := 0) (by decide +kernel)) <|
  n_c (s_getR (pc := 1) (ci := 7) (k := 0) (idx := 30) nok7 (by decide) rfl (by decide +kernel) w_300) <|
  n_c (s_alenI (pc := 4) (by decide +kernel)) <|
  n_c (s_aload_n (pc := 5) (k := 1) (by decide +kernel)) <|
  n_c (s_getR (pc := 6) (ci := 7) (k := 0) (idx := 30) nok7 (by decide) rfl (by decide +kernel) w_300) <|
  n_c (s_alenI (pc := 9) (by decide +kernel)) <|
  n_c (s_mmin (pc := 10) w_297 w_298 w_143 w_299 (by decide +kernel)) <|
  n_c (s_istore_n (pc := 13) (k := 2) (by decide +kernel)) <|
  n_c (s_aload_n (pc := 14) (k := 1) (by decide +kernel)) <|
  n_c (s_getR (pc := 15) (ci := 7) (k := 0) (idx := 30) nok7 (by decide) rfl (by decide +kernel) w_300) <|
  n_c (s_iconst (pc := 18) (n := 0) (by decide +kernel) (by decide +kernel)) <|
  n_c (s_aload_n (pc := 19) (k := 0) (by decide +kernel)) <|
  n_c (s_getR (pc := 20) (ci := 7) (k := 0) (idx := 30) nok7 (by decide) rfl (by decide +kernel) w_300) <|
  n_c (s_iconst (pc := 23) (n := 0) (by decide +kernel) (by decide +kernel)) <|
  n_c (s_iload_n (pc := 24) (k := 2) (by decide +kernel)) <|
  n_c (s_copy (pc := 25) w_1064 w_698 w_697 w_152 (by decide +kernel)) <|
  n_c (s_aload_n (pc := 28) (k := 0) (by decide +kernel)) <|
  n_c (s_aload_n (pc := 29) (k := 1) (by decide +kernel)) <|
  n_c (s_getI (pc := 30) (ci := 7) (k := 3) (idx := 9) nok7 (by decide) rfl (by decide +kernel) w_303) <|
  n_c (s_putI (pc := 33) (ci := 7) (k := 3) (idx := 9) nok7 (by decide) rfl rfl (by decide +kernel) w_303) <|
  n_c (s_vret (pc := 36) rfl (by decide +kernel)) <|
  n_e
def fX7_copyFrom (G : nG) (x0 : Nat) (x1 : Nat) (M : nM) : Option (Unit × nM) :=
  n_chk (Nat.beq (n_kd G x0) 7) <|
  n_chk (Nat.beq (n_kd G (n_mr G x0 0)) 14) <|
  n_chk (Nat.beq (n_kd G x1) 7) <|
  n_chk (Nat.beq (n_kd G (n_mr G x1 0)) 14) <|
  let v1 : Int32 := (if (Int32.ofNat (n_len G (n_mr G x1 0))) < (Int32.ofNat (n_len G (n_mr G x0 0))) then (Int32.ofNat (n_len G (n_mr G x1 0))) else (Int32.ofNat (n_len G (n_mr G x0 0))))
  n_chk (Nat.beq (n_kd G x1) 7) <|
  n_chk (Nat.beq (n_kd G x0) 7) <|
  n_chk (n_cpok G (n_mr G x1 0) (n_mr G x0 0) (0 : Int32) (0 : Int32) v1 && true) <|
  let M2 : nM := n_cpy M (n_mr G x1 0) (n_mr G x0 0) (0 : Int32).toNatClampNeg (0 : Int32).toNatClampNeg v1.toNatClampNeg
  n_chk (Nat.beq (n_kd G x1) 7) <|
  n_chk (Nat.beq (n_kd G x0) 7) <|
  let M3 : nM := n_up M2 x0 3 (M2 x1 3)
  some ((), M3)
set_option maxRecDepth 200000 in
theorem bX7_copyFrom_0 {l : Launch} {w : nW} {G : nG} (x0 : Nat) (x1 : Nat) (M : nM) (r : Unit × nM) (h : fX7_copyFrom G x0 x1 M = some r) : n_At l w 0 mX7_copyFrom 0 [(0, .ref x0), (1, .ref x1)] [] (G, M) (dv_v r.1, (G, r.2)) :=
  n_seg (fin := n_fin dv_v G) (K := []) 24 (iX7_copyFrom) n_ke (by rfl) h
theorem eX7_copyFrom {l : Launch} {w : nW} {G : nG} (z0 : Nat) (z1 : Nat) (M : nM) (r : Unit × nM) (h : fX7_copyFrom G z0 z1 M = some r) : n_Met l w 0 mX7_copyFrom [.ref z0, .ref z1] (G, M) (dv_v r.1, (G, r.2)) :=
  n_entry (by decide +kernel) rfl (Nat.le_of_ble_eq_true rfl) (n_sub (lv := [(0, .ref z0), (1, .ref z1)]) (n_qc rfl (n_qc rfl n_qe)) (bX7_copyFrom_0 z0 z1 M r h))
abbrev hX7_copyFrom (G : nG) : nF := fun T as M k => n_pR as (fun z0 as => n_pR as (fun z1 as => n_pE as ((fX7_copyFrom G z0 z1 M).bind fun p => k (dv_v p.1) p.2)))
theorem csX7_copyFrom {l : Launch} {w : nW} {G : nG} : n_CS l w 0 mX7_copyFrom G (hX7_copyFrom G) := fun T as M k r h => by
  obtain ⟨z0, t0, rfl, h1⟩ := n_pR_x h
  obtain ⟨z1, t1, rfl, h2⟩ := n_pR_x h1
  obtain ⟨rfl, hE⟩ := n_pE_x h2
  obtain ⟨p, hp, hk⟩ := Option.bind_eq_some_iff.mp hE
  exact ⟨_, _, eX7_copyFrom z0 z1 M p hp, hk⟩
/-! ===== SleightHouseModel.raw(I)I ===== -/
def mX12_raw : nY := (RX12, yX12_raw, cX12_raw, 2, some .int)
theorem okX12_raw : n_MOK mX12_raw 1 := ⟨w_1712, w_151, ⟨by decide +kernel, by decide +kernel, by decide +kernel⟩, by decide⟩
abbrev aX12_raw : List (Nat × nO (Int32 × nM)) := [(0, o_iload 1 1), (1, o_aload 0 2), (2, o_gIc 107 15 5), (5, oc_ge 17 8), (8, o_aload 0 9), (9, o_gRc 107 117 12), (12, o_iload 1 13), (13, o_aldc 117 400 14), (14, o_goto 18), (17, o_push (.int (-1 : Int32)) 18), (18, o_iret)]
set_option maxRecDepth 200000 in
theorem iX12_raw {l : Launch} {w : nW} {G : nG} (hG : n_GOK G) : n_AllS l w 0 mX12_raw G (n_fin dv_i G) (aX12_raw) :=
  n_c (s_iload_n (pc := 0) (k := 1) (by decide +kernel)) <|
  n_c (s_aload_n (pc := 1) (k := 0) (by decide +kernel)) <|
  n_c (s_gIc (s_getI (pc := 2) (ci := 12) (k := 15) (idx := 188) nok12 (by decide) rfl (by decide +kernel) w_1422) (gk107 hG)) <|
  n_c (s_icmp_ge (pc := 5) (off := 12) (by decide +kernel) (by decide +kernel)) <|
  n_c (s_aload_n (pc := 8) (k := 0) (by decide +kernel)) <|
  n_c (s_gRc (s_getR (pc := 9) (ci := 12) (k := 14) (idx := 37) nok12 (by decide) rfl (by decide +kernel) w_1421) (gk107 hG) (gm107_14 hG)) <|
  n_c (s_iload_n (pc := 12) (k := 1) (by decide +kernel)) <|
  n_c (s_aldc (s_iaload (pc := 13) (by decide +kernel)) (gk117 hG) (gl117 hG)) <|
  n_c (s_goto (pc := 14) (off := 4) (by decide +kernel) (by decide +kernel)) <|
  n_c (s_iconst (pc := 17) (n := -1) (by decide +kernel) (by decide +kernel)) <|
  n_c (s_iret (pc := 18) rfl (by decide +kernel)) <|
  n_e
def fX12_raw (x1 : Int32) (M : nM) : Option (Int32 × nM) :=
  if (M 107 15) ≤ x1 then
    some ((-1 : Int32), M)
  else
    n_chk (n_ib 400 x1) <|
    some ((M 117 x1.toNatClampNeg), M)
set_option maxRecDepth 200000 in
theorem bX12_raw_0 {l : Launch} {w : nW} {G : nG} (hG : n_GOK G) (x1 : Int32) (M : nM) (r : Int32 × nM) (h : fX12_raw x1 M = some r) : n_At l w 0 mX12_raw 0 [(0, .ref 107), (1, .int x1)] [] (G, M) (dv_i r.1, (G, r.2)) :=
  n_seg (fin := n_fin dv_i G) (K := []) 15 (iX12_raw hG) n_ke (by rfl) h
theorem eX12_raw {l : Launch} {w : nW} {G : nG} (hG : n_GOK G) (z1 : Int32) (M : nM) (r : Int32 × nM) (h : fX12_raw z1 M = some r) : n_Met l w 0 mX12_raw [.ref 107, .int z1] (G, M) (dv_i r.1, (G, r.2)) :=
  n_entry (by decide +kernel) rfl (Nat.le_of_ble_eq_true rfl) (n_sub (lv := [(0, .ref 107), (1, .int z1)]) (n_qc rfl (n_qc rfl n_qe)) (bX12_raw_0 hG z1 M r h))
abbrev hX12_raw : nF := fun T as M k => n_pC 107 as (fun as => n_pI as (fun z1 as => n_pE as ((fX12_raw z1 M).bind fun p => k (dv_i p.1) p.2)))
theorem csX12_raw {l : Launch} {w : nW} {G : nG} (hG : n_GOK G) : n_CS l w 0 mX12_raw G (hX12_raw) := fun T as M k r h => by
  obtain ⟨t0, rfl, h1⟩ := n_pC_x h
  obtain ⟨z1, t1, rfl, h2⟩ := n_pI_x h1
  obtain ⟨rfl, hE⟩ := n_pE_x h2
  obtain ⟨p, hp, hk⟩ := Option.bind_eq_some_iff.mp hE
  exact ⟨_, _, eX12_raw hG z1 M p hp, hk⟩
/-! ===== SleightHouseModel.isLetter(I)Z ===== -/
def mX12_isLetter : nY := (RX12, yX12_isLetter, cX12_isLetter, 2, some .boolean)
theorem okX12_isLetter : n_MOK mX12_isLetter 1 := ⟨w_1716, w_151, ⟨by decide +kernel, by decide +kernel, by decide +kernel⟩, by decide⟩
abbrev aX12_isLetter : List (Nat × nO (Int32 × nM)) := [(0, o_aload 0 1), (1, o_iload 1 2), (2, o_push (.int (97 : Int32)) 4), (4, o_push (.int (122 : Int32)) 6), (6, o_callVc 107 3 (hX12_isIn) 9), (9, oi_ne 24 12), (12, o_aload 0 13), (13, o_iload 1 14), (14, o_push (.int (65 : Int32)) 16), (16, o_push (.int (90 : Int32)) 18), (18, o_callVc 107 3 (hX12_isIn) 21), (21, oi_eq 28 24), (24, o_push (.int (1 : Int32)) 25), (25, o_goto 29), (28, o_push (.int (0 : Int32)) 29), (29, o_zret)]
set_option maxRecDepth 200000 in
theorem iX12_isLetter {l : Launch} {w : nW} {G : nG} (hG : n_GOK G) : n_AllS l w 1 mX12_isLetter G (n_fin dv_i G) (aX12_isLetter) :=
  n_c (s_aload_n (pc := 0) (k := 0) (by decide +kernel)) <|
  n_c (s_iload_n (pc := 1) (k := 1) (by decide +kernel)) <|
  n_c (s_bipush (pc := 2) (n := 97) (by decide +kernel) (by decide +kernel)) <|
  n_c (s_bipush (pc := 4) (n := 122) (by decide +kernel) (by decide +kernel)) <|
  n_c (s_callVc (s_callV (pc := 6) (csX12_isIn) (by decide) okX12_isIn nok12 w_1659 w_46 w_1657 (by decide +kernel)) (gk107 hG)) <|
  n_c (s_if_ne (pc := 9) (off := 15) (by decide +kernel) (by decide +kernel)) <|
  n_c (s_aload_n (pc := 12) (k := 0) (by decide +kernel)) <|
  n_c (s_iload_n (pc := 13) (k := 1) (by decide +kernel)) <|
  n_c (s_bipush (pc := 14) (n := 65) (by decide +kernel) (by decide +kernel)) <|
  n_c (s_bipush (pc := 16) (n := 90) (by decide +kernel) (by decide +kernel)) <|
  n_c (s_callVc (s_callV (pc := 18) (csX12_isIn) (by decide) okX12_isIn nok12 w_1659 w_46 w_1657 (by decide +kernel)) (gk107 hG)) <|
  n_c (s_if_eq (pc := 21) (off := 7) (by decide +kernel) (by decide +kernel)) <|
  n_c (s_iconst (pc := 24) (n := 1) (by decide +kernel) (by decide +kernel)) <|
  n_c (s_goto (pc := 25) (off := 4) (by decide +kernel) (by decide +kernel)) <|
  n_c (s_iconst (pc := 28) (n := 0) (by decide +kernel) (by decide +kernel)) <|
  n_c (s_zret (pc := 29) rfl (by decide +kernel)) <|
  n_e
def fX12_isLetter (x1 : Int32) (M : nM) : Option (Int32 × nM) :=
  (fX12_isIn x1 (97 : Int32) (122 : Int32) M).bind fun p1 =>
  if ¬ p1.1 = 0 then
    some ((1 : Int32), p1.2)
  else
    (fX12_isIn x1 (65 : Int32) (90 : Int32) p1.2).bind fun p2 =>
    if p2.1 = 0 then
      some ((0 : Int32), p2.2)
    else
      some ((1 : Int32), p2.2)
set_option maxRecDepth 200000 in
theorem bX12_isLetter_0 {l : Launch} {w : nW} {G : nG} (hG : n_GOK G) (x1 : Int32) (M : nM) (r : Int32 × nM) (h : fX12_isLetter x1 M = some r) : n_At l w 1 mX12_isLetter 0 [(0, .ref 107), (1, .int x1)] [] (G, M) (dv_i r.1, (G, r.2)) :=
  n_seg (fin := n_fin dv_i G) (K := []) 23 (iX12_isLetter hG) n_ke (by rfl) h
theorem eX12_isLetter {l : Launch} {w : nW} {G : nG} (hG : n_GOK G) (z1 : Int32) (M : nM) (r : Int32 × nM) (h : fX12_isLetter z1 M = some r) : n_Met l w 1 mX12_isLetter [.ref 107, .int z1] (G, M) (dv_i r.1, (G, r.2)) :=
  n_entry (by decide +kernel) rfl (Nat.le_of_ble_eq_true rfl) (n_sub (lv := [(0, .ref 107), (1, .int z1)]) (n_qc rfl (n_qc rfl n_qe)) (bX12_isLetter_0 hG z1 M r h))
abbrev hX12_isLetter : nF := fun T as M k => n_pC 107 as (fun as => n_pI as (fun z1 as => n_pE as ((fX12_isLetter z1 M).bind fun p => k (dv_i p.1) p.2)))
theorem csX12_isLetter {l : Launch} {w : nW} {G : nG} (hG : n_GOK G) : n_CS l w 1 mX12_isLetter G (hX12_isLetter) := fun T as M k r h => by
  obtain ⟨t0, rfl, h1⟩ := n_pC_x h
  obtain ⟨z1, t1, rfl, h2⟩ := n_pI_x h1
  obtain ⟨rfl, hE⟩ := n_pE_x h2
  obtain ⟨p, hp, hk⟩ := Option.bind_eq_some_iff.mp hE
  exact ⟨_, _, eX12_isLetter hG z1 M p hp, hk⟩
/-! ===== SleightHouseModel.wordAt(II)I ===== -/
def mX12_wordAt : nY := (RX12, yX12_wordAt, cX12_wordAt, 6, some .int)
theorem okX12_wordAt : n_MOK mX12_wordAt 2 := ⟨w_1720, w_151, ⟨by decide +kernel, by decide +kernel, by decide +kernel⟩, by decide⟩
abbrev aX12_wordAt (N : Nat) : List (Nat × nO (Int32 × nM)) := [(0, o_push (.int (-1 : Int32)) 1), (1, o_istore 6 3 2), (2, o_push (.int (0 : Int32)) 3), (3, o_istore 6 4 5), (5, o_iload 4 7), (7, o_push (.int (144 : Int32)) 10), (10, oc_ge 118 13), (13, o_push (.int (0 : Int32)) 14), (14, o_istore 6 5 16), (16, o_iload 3 17), (17, o_push (.int (1 : Int32)) 18), (18, o_iadd 19), (19, o_istore 6 3 20), (20, o_iload 1 21), (21, o_iload 5 23), (23, o_iadd 24), (24, o_iload 2 25), (25, oc_ge 61 28), (28, o_aload 0 29), (29, o_gRc 107 118 32), (32, o_iload 4 34), (34, o_push (.int (1 : Int32)) 35), (35, o_iadd 36), (36, o_iload 5 38), (38, o_iadd 39), (39, o_aldc 118 145 40), (40, o_aload 0 41), (41, o_gRc 107 117 44), (44, o_iload 1 45), (45, o_iload 5 47), (47, o_iadd 48), (48, o_aldc 117 400 49), (49, oc_ne 61 52), (52, o_iload 5 54), (54, o_push (.int (1 : Int32)) 55), (55, o_iadd 56), (56, o_istore 6 5 58), (58, o_goto 20), (61, o_iload 1 62), (62, o_iload 5 64), (64, o_iadd 65), (65, o_iload 2 66), (66, oc_ne 88 69), (69, o_aload 0 70), (70, o_gRc 107 118 73), (73, o_iload 4 75), (75, o_push (.int (1 : Int32)) 76), (76, o_iadd 77), (77, o_iload 5 79), (79, o_iadd 80), (80, o_aldc 118 145 81), (81, o_push (.int (32 : Int32)) 83), (83, oc_ne 88 86), (86, o_iload 3 87), (87, o_iret), (88, o_iload 4 90), (90, o_push (.int (1 : Int32)) 91), (91, o_iadd 92), (92, o_istore 6 4 94), (94, o_aload 0 95), (95, o_gRc 107 118 98), (98, o_iload 4 100), (100, o_aldc 118 145 101), (101, o_push (.int (32 : Int32)) 103), (103, oc_eq 115 106), (106, o_iload 4 108), (108, o_push (.int (1 : Int32)) 109), (109, o_iadd 110), (110, o_istore 6 4 112), (112, o_goto 94), (115, o_goto 5), (118, o_push (.int (-1 : Int32)) 119), (119, o_iret)]
set_option maxRecDepth 200000 in
theorem iX12_wordAt {l : Launch} {w : nW} (N : Nat) {G : nG} (hG : n_GOK G) : n_AllS l w 0 mX12_wordAt G (n_fin dv_i G) (aX12_wordAt N) :=
  n_c (s_iconst (pc := 0) (n := -1) (by decide +kernel) (by decide +kernel)) <|
  n_c (s_istore_n (pc := 1) (k := 3) (by decide +kernel)) <|
  n_c (s_iconst (pc := 2) (n := 0) (by decide +kernel) (by decide +kernel)) <|
  n_c (s_istore (pc := 3) (by decide +kernel)) <|
  n_c (s_iload (pc := 5) (by decide +kernel)) <|
  n_c (s_sipush (pc := 7) (n := 144) (by decide +kernel) (by decide +kernel)) <|
  n_c (s_icmp_ge (pc := 10) (off := 108) (by decide +kernel) (by decide +kernel)) <|
  n_c (s_iconst (pc := 13) (n := 0) (by decide +kernel) (by decide +kernel)) <|
  n_c (s_istore (pc := 14) (by decide +kernel)) <|
  n_c (s_iload_n (pc := 16) (k := 3) (by decide +kernel)) <|
  n_c (s_iconst (pc := 17) (n := 1) (by decide +kernel) (by decide +kernel)) <|
  n_c (s_iadd (pc := 18) (by decide +kernel)) <|
  n_c (s_istore_n (pc := 19) (k := 3) (by decide +kernel)) <|
  n_c (s_iload_n (pc := 20) (k := 1) (by decide +kernel)) <|
  n_c (s_iload (pc := 21) (by decide +kernel)) <|
  n_c (s_iadd (pc := 23) (by decide +kernel)) <|
  n_c (s_iload_n (pc := 24) (k := 2) (by decide +kernel)) <|
  n_c (s_icmp_ge (pc := 25) (off := 36) (by decide +kernel) (by decide +kernel)) <|
  n_c (s_aload_n (pc := 28) (k := 0) (by decide +kernel)) <|
  n_c (s_gRc (s_getR (pc := 29) (ci := 12) (k := 20) (idx := 40) nok12 (by decide) rfl (by decide +kernel) w_1427) (gk107 hG) (gm107_20 hG)) <|
  n_c (s_iload (pc := 32) (by decide +kernel)) <|
  n_c (s_iconst (pc := 34) (n := 1) (by decide +kernel) (by decide +kernel)) <|
  n_c (s_iadd (pc := 35) (by decide +kernel)) <|
  n_c (s_iload (pc := 36) (by decide +kernel)) <|
  n_c (s_iadd (pc := 38) (by decide +kernel)) <|
  n_c (s_aldc (s_iaload (pc := 39) (by decide +kernel)) (gk118 hG) (gl118 hG)) <|
  n_c (s_aload_n (pc := 40) (k := 0) (by decide +kernel)) <|
  n_c (s_gRc (s_getR (pc := 41) (ci := 12) (k := 14) (idx := 37) nok12 (by decide) rfl (by decide +kernel) w_1421) (gk107 hG) (gm107_14 hG)) <|
  n_c (s_iload_n (pc := 44) (k := 1) (by decide +kernel)) <|
  n_c (s_iload (pc := 45) (by decide +kernel)) <|
  n_c (s_iadd (pc := 47) (by decide +kernel)) <|
  n_c (s_aldc (s_iaload (pc := 48) (by decide +kernel)) (gk117 hG) (gl117 hG)) <|
  n_c (s_icmp_ne (pc := 49) (off := 12) (by decide +kernel) (by decide +kernel)) <|
  n_c (s_iload (pc := 52) (by decide +kernel)) <|
  n_c (s_iconst (pc := 54) (n := 1) (by decide +kernel) (by decide +kernel)) <|
  n_c (s_iadd (pc := 55) (by decide +kernel)) <|
  n_c (s_istore (pc := 56) (by decide +kernel)) <|
  n_c (s_goto (pc := 58) (off := -38) (by decide +kernel) (by decide +kernel)) <|
  n_c (s_iload_n (pc := 61) (k := 1) (by decide +kernel)) <|
  n_c (s_iload (pc := 62) (by decide +kernel)) <|
  n_c (s_iadd (pc := 64) (by decide +kernel)) <|
  n_c (s_iload_n (pc := 65) (k := 2) (by decide +kernel)) <|
  n_c (s_icmp_ne (pc := 66) (off := 22) (by decide +kernel) (by decide +kernel)) <|
  n_c (s_aload_n (pc := 69) (k := 0) (by decide +kernel)) <|
  n_c (s_gRc (s_getR (pc := 70) (ci := 12) (k := 20) (idx := 40) nok12 (by decide) rfl (by decide +kernel) w_1427) (gk107 hG) (gm107_20 hG)) <|
  n_c (s_iload (pc := 73) (by decide +kernel)) <|
  n_c (s_iconst (pc := 75) (n := 1) (by decide +kernel) (by decide +kernel)) <|
  n_c (s_iadd (pc := 76) (by decide +kernel)) <|
  n_c (s_iload (pc := 77) (by decide +kernel)) <|
  n_c (s_iadd (pc := 79) (by decide +kernel)) <|
  n_c (s_aldc (s_iaload (pc := 80) (by decide +kernel)) (gk118 hG) (gl118 hG)) <|
  n_c (s_bipush (pc := 81) (n := 32) (by decide +kernel) (by decide +kernel)) <|
  n_c (s_icmp_ne (pc := 83) (off := 5) (by decide +kernel) (by decide +kernel)) <|
  n_c (s_iload_n (pc := 86) (k := 3) (by decide +kernel)) <|
  n_c (s_iret (pc := 87) rfl (by decide +kernel)) <|
  n_c (s_iload (pc := 88) (by decide +kernel)) <|
  n_c (s_iconst (pc := 90) (n := 1) (by decide +kernel) (by decide +kernel)) <|
  n_c (s_iadd (pc := 91) (by decide +kernel)) <|
  n_c (s_istore (pc := 92) (by decide +kernel)) <|
  n_c (s_aload_n (pc := 94) (k := 0) (by decide +kernel)) <|
  n_c (s_gRc (s_getR (pc := 95) (ci := 12) (k := 20) (idx := 40) nok12 (by decide) rfl (by decide +kernel) w_1427) (gk107 hG) (gm107_20 hG)) <|
  n_c (s_iload (pc := 98) (by decide +kernel)) <|
  n_c (s_aldc (s_iaload (pc := 100) (by decide +kernel)) (gk118 hG) (gl118 hG)) <|
  n_c (s_bipush (pc := 101) (n := 32) (by decide +kernel) (by decide +kernel)) <|
  n_c (s_icmp_eq (pc := 103) (off := 12) (by decide +kernel) (by decide +kernel)) <|
  n_c (s_iload (pc := 106) (by decide +kernel)) <|
  n_c (s_iconst (pc := 108) (n := 1) (by decide +kernel) (by decide +kernel)) <|
  n_c (s_iadd (pc := 109) (by decide +kernel)) <|
  n_c (s_istore (pc := 110) (by decide +kernel)) <|
  n_c (s_goto (pc := 112) (off := -18) (by decide +kernel) (by decide +kernel)) <|
  n_c (s_goto (pc := 115) (off := -110) (by decide +kernel) (by decide +kernel)) <|
  n_c (s_iconst (pc := 118) (n := -1) (by decide +kernel) (by decide +kernel)) <|
  n_c (s_iret (pc := 119) rfl (by decide +kernel)) <|
  n_e
def fX12_wordAt_94 (N : Nat) (k5 : Int32 → Int32 → Int32 → Int32 → nM → Option (Int32 × nM)) : Nat → Int32 → Int32 → Int32 → Int32 → nM → Option (Int32 × nM)
  | 0, _, _, _, _, _ => none
  | n + 1, x1, x2, x3, x4, M =>
    n_chk (n_ib 145 x4) <|
    if (M 118 x4.toNatClampNeg) = (32 : Int32) then
      k5 x1 x2 x3 x4 M
    else
      let v1 : Int32 := (x4 + (1 : Int32))
      fX12_wordAt_94 N k5 n x1 x2 x3 v1 M
set_option maxRecDepth 200000 in
theorem bX12_wordAt_94 {l : Launch} {w : nW} (N : Nat) {G : nG} (hG : n_GOK G) (k5 : Int32 → Int32 → Int32 → Int32 → nM → Option (Int32 × nM)) (hk5 : ∀ (x1 : Int32) (x2 : Int32) (x3 : Int32) (x4 : Int32) (M : nM) (r : Int32 × nM), k5 x1 x2 x3 x4 M = some r → n_At l w 0 mX12_wordAt 5 [(0, .ref 107), (1, .int x1), (2, .int x2), (3, .int x3), (4, .int x4)] [] (G, M) (dv_i r.1, (G, r.2))) : ∀ (n : Nat) (x1 : Int32) (x2 : Int32) (x3 : Int32) (x4 : Int32) (M : nM) (r : Int32 × nM), fX12_wordAt_94 N k5 n x1 x2 x3 x4 M = some r → n_At l w 0 mX12_wordAt 94 [(0, .ref 107), (1, .int x1), (2, .int x2), (3, .int x3), (4, .int x4)] [] (G, M) (dv_i r.1, (G, r.2)) := by
  intro n
  induction n with
  | zero => intro x1 x2 x3 x4 M r h; cases (show (none : Option (Int32 × nM)) = some r from h)
  | succ n ih =>
    intro x1 x2 x3 x4 M r h
    exact n_seg (fin := n_fin dv_i G) (K := [(5, fun lv st M => n_lC 107 lv 0 (n_lI lv 1 (fun x1 => n_lI lv 2 (fun x2 => n_lI lv 3 (fun x3 => n_lI lv 4 (fun x4 => n_pE st (k5 x1 x2 x3 x4 M))))))), (94, fun lv st M => n_lC 107 lv 0 (n_lI lv 1 (fun x1 => n_lI lv 2 (fun x2 => n_lI lv 3 (fun x3 => n_lI lv 4 (fun x4 => n_pE st (fX12_wordAt_94 N k5 n x1 x2 x3 x4 M)))))))]) 15 (iX12_wordAt N hG) (n_kc (fun lv st M r h => by
      obtain ⟨e0, h1⟩ := n_lC_x h
      obtain ⟨x1, e1, h2⟩ := n_lI_x h1
      obtain ⟨x2, e2, h3⟩ := n_lI_x h2
      obtain ⟨x3, e3, h4⟩ := n_lI_x h3
      obtain ⟨x4, e4, h5⟩ := n_lI_x h4
      obtain ⟨rfl, h6⟩ := n_pE_x h5
      exact n_sub (n_qc e0 (n_qc e1 (n_qc e2 (n_qc e3 (n_qc e4 n_qe))))) (hk5 x1 x2 x3 x4 M r h6)) (n_kc (fun lv st M r h => by
      obtain ⟨e0, h1⟩ := n_lC_x h
      obtain ⟨x1, e1, h2⟩ := n_lI_x h1
      obtain ⟨x2, e2, h3⟩ := n_lI_x h2
      obtain ⟨x3, e3, h4⟩ := n_lI_x h3
      obtain ⟨x4, e4, h5⟩ := n_lI_x h4
      obtain ⟨rfl, h6⟩ := n_pE_x h5
      exact n_sub (n_qc e0 (n_qc e1 (n_qc e2 (n_qc e3 (n_qc e4 n_qe))))) (ih x1 x2 x3 x4 M r h6)) n_ke)) (by rfl) h
def fX12_wordAt_61 (N : Nat) (k5 : Int32 → Int32 → Int32 → Int32 → nM → Option (Int32 × nM)) (x1 : Int32) (x2 : Int32) (x3 : Int32) (x4 : Int32) (x5 : Int32) (M : nM) : Option (Int32 × nM) :=
  if ¬ (x1 + x5) = x2 then
    let v1 : Int32 := (x4 + (1 : Int32))
    fX12_wordAt_94 N k5 N x1 x2 x3 v1 M
  else
    n_chk (n_ib 145 ((x4 + (1 : Int32)) + x5)) <|
    if ¬ (M 118 ((x4 + (1 : Int32)) + x5).toNatClampNeg) = (32 : Int32) then
      let v2 : Int32 := (x4 + (1 : Int32))
      fX12_wordAt_94 N k5 N x1 x2 x3 v2 M
    else
      some (x3, M)
set_option maxRecDepth 200000 in
theorem bX12_wordAt_61 {l : Launch} {w : nW} (N : Nat) {G : nG} (hG : n_GOK G) (k5 : Int32 → Int32 → Int32 → Int32 → nM → Option (Int32 × nM)) (hk5 : ∀ (x1 : Int32) (x2 : Int32) (x3 : Int32) (x4 : Int32) (M : nM) (r : Int32 × nM), k5 x1 x2 x3 x4 M = some r → n_At l w 0 mX12_wordAt 5 [(0, .ref 107), (1, .int x1), (2, .int x2), (3, .int x3), (4, .int x4)] [] (G, M) (dv_i r.1, (G, r.2))) (x1 : Int32) (x2 : Int32) (x3 : Int32) (x4 : Int32) (x5 : Int32) (M : nM) (r : Int32 × nM) (h : fX12_wordAt_61 N k5 x1 x2 x3 x4 x5 M = some r) : n_At l w 0 mX12_wordAt 61 [(0, .ref 107), (1, .int x1), (2, .int x2), (3, .int x3), (4, .int x4), (5, .int x5)] [] (G, M) (dv_i r.1, (G, r.2)) :=
  n_seg (fin := n_fin dv_i G) (K := [(94, fun lv st M => n_lC 107 lv 0 (n_lI lv 1 (fun x1 => n_lI lv 2 (fun x2 => n_lI lv 3 (fun x3 => n_lI lv 4 (fun x4 => n_pE st (fX12_wordAt_94 N k5 N x1 x2 x3 x4 M)))))))]) 28 (iX12_wordAt N hG) (n_kc (fun lv st M r h => by
      obtain ⟨e0, h1⟩ := n_lC_x h
      obtain ⟨x1, e1, h2⟩ := n_lI_x h1
      obtain ⟨x2, e2, h3⟩ := n_lI_x h2
      obtain ⟨x3, e3, h4⟩ := n_lI_x h3
      obtain ⟨x4, e4, h5⟩ := n_lI_x h4
      obtain ⟨rfl, h6⟩ := n_pE_x h5
      exact n_sub (n_qc e0 (n_qc e1 (n_qc e2 (n_qc e3 (n_qc e4 n_qe))))) (bX12_wordAt_94 N hG k5 hk5 N x1 x2 x3 x4 M r h6)) n_ke) (by rfl) h
def fX12_wordAt_20 (N : Nat) (k5 : Int32 → Int32 → Int32 → Int32 → nM → Option (Int32 × nM)) : Nat → Int32 → Int32 → Int32 → Int32 → Int32 → nM → Option (Int32 × nM)
  | 0, _, _, _, _, _, _ => none
  | n + 1, x1, x2, x3, x4, x5, M =>
    if x2 ≤ (x1 + x5) then
      fX12_wordAt_61 N k5 x1 x2 x3 x4 x5 M
    else
      n_chk (n_ib 145 ((x4 + (1 : Int32)) + x5)) <|
      n_chk (n_ib 400 (x1 + x5)) <|
      if ¬ (M 118 ((x4 + (1 : Int32)) + x5).toNatClampNeg) = (M 117 (x1 + x5).toNatClampNeg) then
        fX12_wordAt_61 N k5 x1 x2 x3 x4 x5 M
      else
        let v1 : Int32 := (x5 + (1 : Int32))
        fX12_wordAt_20 N k5 n x1 x2 x3 x4 v1 M
set_option maxRecDepth 200000 in
theorem bX12_wordAt_20 {l : Launch} {w : nW} (N : Nat) {G : nG} (hG : n_GOK G) (k5 : Int32 → Int32 → Int32 → Int32 → nM → Option (Int32 × nM)) (hk5 : ∀ (x1 : Int32) (x2 : Int32) (x3 : Int32) (x4 : Int32) (M : nM) (r : Int32 × nM), k5 x1 x2 x3 x4 M = some r → n_At l w 0 mX12_wordAt 5 [(0, .ref 107), (1, .int x1), (2, .int x2), (3, .int x3), (4, .int x4)] [] (G, M) (dv_i r.1, (G, r.2))) : ∀ (n : Nat) (x1 : Int32) (x2 : Int32) (x3 : Int32) (x4 : Int32) (x5 : Int32) (M : nM) (r : Int32 × nM), fX12_wordAt_20 N k5 n x1 x2 x3 x4 x5 M = some r → n_At l w 0 mX12_wordAt 20 [(0, .ref 107), (1, .int x1), (2, .int x2), (3, .int x3), (4, .int x4), (5, .int x5)] [] (G, M) (dv_i r.1, (G, r.2)) := by
  intro n
  induction n with
  | zero => intro x1 x2 x3 x4 x5 M r h; cases (show (none : Option (Int32 × nM)) = some r from h)
  | succ n ih =>
    intro x1 x2 x3 x4 x5 M r h
    exact n_seg (fin := n_fin dv_i G) (K := [(20, fun lv st M => n_lC 107 lv 0 (n_lI lv 1 (fun x1 => n_lI lv 2 (fun x2 => n_lI lv 3 (fun x3 => n_lI lv 4 (fun x4 => n_lI lv 5 (fun x5 => n_pE st (fX12_wordAt_20 N k5 n x1 x2 x3 x4 x5 M)))))))), (61, fun lv st M => n_lC 107 lv 0 (n_lI lv 1 (fun x1 => n_lI lv 2 (fun x2 => n_lI lv 3 (fun x3 => n_lI lv 4 (fun x4 => n_lI lv 5 (fun x5 => n_pE st (fX12_wordAt_61 N k5 x1 x2 x3 x4 x5 M))))))))]) 28 (iX12_wordAt N hG) (n_kc (fun lv st M r h => by
      obtain ⟨e0, h1⟩ := n_lC_x h
      obtain ⟨x1, e1, h2⟩ := n_lI_x h1
      obtain ⟨x2, e2, h3⟩ := n_lI_x h2
      obtain ⟨x3, e3, h4⟩ := n_lI_x h3
      obtain ⟨x4, e4, h5⟩ := n_lI_x h4
      obtain ⟨x5, e5, h6⟩ := n_lI_x h5
      obtain ⟨rfl, h7⟩ := n_pE_x h6
      exact n_sub (n_qc e0 (n_qc e1 (n_qc e2 (n_qc e3 (n_qc e4 (n_qc e5 n_qe)))))) (ih x1 x2 x3 x4 x5 M r h7)) (n_kc (fun lv st M r h => by
      obtain ⟨e0, h1⟩ := n_lC_x h
      obtain ⟨x1, e1, h2⟩ := n_lI_x h1
      obtain ⟨x2, e2, h3⟩ := n_lI_x h2
      obtain ⟨x3, e3, h4⟩ := n_lI_x h3
      obtain ⟨x4, e4, h5⟩ := n_lI_x h4
      obtain ⟨x5, e5, h6⟩ := n_lI_x h5
      obtain ⟨rfl, h7⟩ := n_pE_x h6
      exact n_sub (n_qc e0 (n_qc e1 (n_qc e2 (n_qc e3 (n_qc e4 (n_qc e5 n_qe)))))) (bX12_wordAt_61 N hG k5 hk5 x1 x2 x3 x4 x5 M r h7)) n_ke)) (by rfl) h
def fX12_wordAt_5 (N : Nat) : Nat → Int32 → Int32 → Int32 → Int32 → nM → Option (Int32 × nM)
  | 0, _, _, _, _, _ => none
  | n + 1, x1, x2, x3, x4, M =>
    if (144 : Int32) ≤ x4 then
      some ((-1 : Int32), M)
    else
      let v1 : Int32 := (x3 + (1 : Int32))
      fX12_wordAt_20 N (fun x1 x2 x3 x4 M => fX12_wordAt_5 N n x1 x2 x3 x4 M) N x1 x2 v1 x4 (0 : Int32) M
set_option maxRecDepth 200000 in
theorem bX12_wordAt_5 {l : Launch} {w : nW} (N : Nat) {G : nG} (hG : n_GOK G) : ∀ (n : Nat) (x1 : Int32) (x2 : Int32) (x3 : Int32) (x4 : Int32) (M : nM) (r : Int32 × nM), fX12_wordAt_5 N n x1 x2 x3 x4 M = some r → n_At l w 0 mX12_wordAt 5 [(0, .ref 107), (1, .int x1), (2, .int x2), (3, .int x3), (4, .int x4)] [] (G, M) (dv_i r.1, (G, r.2)) := by
  intro n
  induction n with
  | zero => intro x1 x2 x3 x4 M r h; cases (show (none : Option (Int32 × nM)) = some r from h)
  | succ n ih =>
    intro x1 x2 x3 x4 M r h
    exact n_seg (fin := n_fin dv_i G) (K := [(20, fun lv st M => n_lC 107 lv 0 (n_lI lv 1 (fun x1 => n_lI lv 2 (fun x2 => n_lI lv 3 (fun x3 => n_lI lv 4 (fun x4 => n_lI lv 5 (fun x5 => n_pE st (fX12_wordAt_20 N (fun x1 x2 x3 x4 M => fX12_wordAt_5 N n x1 x2 x3 x4 M) N x1 x2 x3 x4 x5 M))))))))]) 14 (iX12_wordAt N hG) (n_kc (fun lv st M r h => by
      obtain ⟨e0, h1⟩ := n_lC_x h
      obtain ⟨x1, e1, h2⟩ := n_lI_x h1
      obtain ⟨x2, e2, h3⟩ := n_lI_x h2
      obtain ⟨x3, e3, h4⟩ := n_lI_x h3
      obtain ⟨x4, e4, h5⟩ := n_lI_x h4
      obtain ⟨x5, e5, h6⟩ := n_lI_x h5
      obtain ⟨rfl, h7⟩ := n_pE_x h6
      exact n_sub (n_qc e0 (n_qc e1 (n_qc e2 (n_qc e3 (n_qc e4 (n_qc e5 n_qe)))))) (bX12_wordAt_20 N hG (fun x1 x2 x3 x4 M => fX12_wordAt_5 N n x1 x2 x3 x4 M) ih N x1 x2 x3 x4 x5 M r h7)) n_ke) (by rfl) h
def fX12_wordAt (N : Nat) (x1 : Int32) (x2 : Int32) (M : nM) : Option (Int32 × nM) :=
  fX12_wordAt_5 N N x1 x2 (-1 : Int32) (0 : Int32) M
set_option maxRecDepth 200000 in
theorem bX12_wordAt_0 {l : Launch} {w : nW} (N : Nat) {G : nG} (hG : n_GOK G) (x1 : Int32) (x2 : Int32) (M : nM) (r : Int32 × nM) (h : fX12_wordAt N x1 x2 M = some r) : n_At l w 0 mX12_wordAt 0 [(0, .ref 107), (1, .int x1), (2, .int x2)] [] (G, M) (dv_i r.1, (G, r.2)) :=
  n_seg (fin := n_fin dv_i G) (K := [(5, fun lv st M => n_lC 107 lv 0 (n_lI lv 1 (fun x1 => n_lI lv 2 (fun x2 => n_lI lv 3 (fun x3 => n_lI lv 4 (fun x4 => n_pE st (fX12_wordAt_5 N N x1 x2 x3 x4 M)))))))]) 7 (iX12_wordAt N hG) (n_kc (fun lv st M r h => by
      obtain ⟨e0, h1⟩ := n_lC_x h
      obtain ⟨x1, e1, h2⟩ := n_lI_x h1
      obtain ⟨x2, e2, h3⟩ := n_lI_x h2
      obtain ⟨x3, e3, h4⟩ := n_lI_x h3
      obtain ⟨x4, e4, h5⟩ := n_lI_x h4
      obtain ⟨rfl, h6⟩ := n_pE_x h5
      exact n_sub (n_qc e0 (n_qc e1 (n_qc e2 (n_qc e3 (n_qc e4 n_qe))))) (bX12_wordAt_5 N hG N x1 x2 x3 x4 M r h6)) n_ke) (by rfl) h
theorem eX12_wordAt {l : Launch} {w : nW} (N : Nat) {G : nG} (hG : n_GOK G) (z1 : Int32) (z2 : Int32) (M : nM) (r : Int32 × nM) (h : fX12_wordAt N z1 z2 M = some r) : n_Met l w 0 mX12_wordAt [.ref 107, .int z1, .int z2] (G, M) (dv_i r.1, (G, r.2)) :=
  n_entry (by decide +kernel) rfl (Nat.le_of_ble_eq_true rfl) (n_sub (lv := [(0, .ref 107), (1, .int z1), (2, .int z2)]) (n_qc rfl (n_qc rfl (n_qc rfl n_qe))) (bX12_wordAt_0 N hG z1 z2 M r h))
abbrev hX12_wordAt (N : Nat) : nF := fun T as M k => n_pC 107 as (fun as => n_pI as (fun z1 as => n_pI as (fun z2 as => n_pE as ((fX12_wordAt N z1 z2 M).bind fun p => k (dv_i p.1) p.2))))
theorem csX12_wordAt {l : Launch} {w : nW} (N : Nat) {G : nG} (hG : n_GOK G) : n_CS l w 0 mX12_wordAt G (hX12_wordAt N) := fun T as M k r h => by
  obtain ⟨t0, rfl, h1⟩ := n_pC_x h
  obtain ⟨z1, t1, rfl, h2⟩ := n_pI_x h1
  obtain ⟨z2, t2, rfl, h3⟩ := n_pI_x h2
  obtain ⟨rfl, hE⟩ := n_pE_x h3
  obtain ⟨p, hp, hk⟩ := Option.bind_eq_some_iff.mp hE
  exact ⟨_, _, eX12_wordAt N hG z1 z2 M p hp, hk⟩
/-! ===== SleightHouseModel.isDigit(I)Z ===== -/
def mX12_isDigit : nY := (RX12, yX12_isDigit, cX12_isDigit, 2, some .boolean)
theorem okX12_isDigit : n_MOK mX12_isDigit 1 := ⟨w_1724, w_151, ⟨by decide +kernel, by decide +kernel, by decide +kernel⟩, by decide⟩
abbrev aX12_isDigit : List (Nat × nO (Int32 × nM)) := [(0, o_aload 0 1), (1, o_iload 1 2), (2, o_push (.int (48 : Int32)) 4), (4, o_push (.int (57 : Int32)) 6), (6, o_callVc 107 3 (hX12_isIn) 9), (9, o_zret)]
set_option maxRecDepth 200000 in
theorem iX12_isDigit {l : Launch} {w : nW} {G : nG} (hG : n_GOK G) : n_AllS l w 1 mX12_isDigit G (n_fin dv_i G) (aX12_isDigit) :=
  n_c (s_aload_n (pc := 0) (k := 0) (by decide +kernel)) <|
  n_c (s_iload_n (pc := 1) (k := 1) (by decide +kernel)) <|
  n_c (s_bipush (pc := 2) (n := 48) (by decide +kernel) (by decide +kernel)) <|
  n_c (s_bipush (pc := 4) (n := 57) (by decide +kernel) (by decide +kernel)) <|
  n_c (s_callVc (s_callV (pc := 6) (csX12_isIn) (by decide) okX12_isIn nok12 w_1659 w_46 w_1657 (by decide +kernel)) (gk107 hG)) <|
  n_c (s_zret (pc := 9) rfl (by decide +kernel)) <|
  n_e
def fX12_isDigit (x1 : Int32) (M : nM) : Option (Int32 × nM) :=
  (fX12_isIn x1 (48 : Int32) (57 : Int32) M).bind fun p1 =>
  n_chk (p1.1 == 0 || p1.1 == 1) (some (p1.1, p1.2))
set_option maxRecDepth 200000 in
theorem bX12_isDigit_0 {l : Launch} {w : nW} {G : nG} (hG : n_GOK G) (x1 : Int32) (M : nM) (r : Int32 × nM) (h : fX12_isDigit x1 M = some r) : n_At l w 1 mX12_isDigit 0 [(0, .ref 107), (1, .int x1)] [] (G, M) (dv_i r.1, (G, r.2)) :=
  n_seg (fin := n_fin dv_i G) (K := []) 9 (iX12_isDigit hG) n_ke (by rfl) h
theorem eX12_isDigit {l : Launch} {w : nW} {G : nG} (hG : n_GOK G) (z1 : Int32) (M : nM) (r : Int32 × nM) (h : fX12_isDigit z1 M = some r) : n_Met l w 1 mX12_isDigit [.ref 107, .int z1] (G, M) (dv_i r.1, (G, r.2)) :=
  n_entry (by decide +kernel) rfl (Nat.le_of_ble_eq_true rfl) (n_sub (lv := [(0, .ref 107), (1, .int z1)]) (n_qc rfl (n_qc rfl n_qe)) (bX12_isDigit_0 hG z1 M r h))
abbrev hX12_isDigit : nF := fun T as M k => n_pC 107 as (fun as => n_pI as (fun z1 as => n_pE as ((fX12_isDigit z1 M).bind fun p => k (dv_i p.1) p.2)))
theorem csX12_isDigit {l : Launch} {w : nW} {G : nG} (hG : n_GOK G) : n_CS l w 1 mX12_isDigit G (hX12_isDigit) := fun T as M k r h => by
  obtain ⟨t0, rfl, h1⟩ := n_pC_x h
  obtain ⟨z1, t1, rfl, h2⟩ := n_pI_x h1
  obtain ⟨rfl, hE⟩ := n_pE_x h2
  obtain ⟨p, hp, hk⟩ := Option.bind_eq_some_iff.mp hE
  exact ⟨_, _, eX12_isDigit hG z1 M p hp, hk⟩
/-! ===== SleightHouseModel.isMarkSign(I)Z ===== -/
def mX12_isMarkSign : nY := (RX12, yX12_isMarkSign, cX12_isMarkSign, 2, some .boolean)
theorem okX12_isMarkSign : n_MOK mX12_isMarkSign 1 := ⟨w_1728, w_151, ⟨by decide +kernel, by decide +kernel, by decide +kernel⟩, by decide⟩
abbrev aX12_isMarkSign : List (Nat × nO (Int32 × nM)) := [(0, o_iload 1 1), (1, o_push (.int (59 : Int32)) 3), (3, oc_eq 60 6), (6, o_iload 1 7), (7, o_push (.int (43 : Int32)) 9), (9, oc_eq 60 12), (12, o_iload 1 13), (13, o_push (.int (45 : Int32)) 15), (15, oc_eq 60 18), (18, o_iload 1 19), (19, o_push (.int (42 : Int32)) 21), (21, oc_eq 60 24), (24, o_iload 1 25), (25, o_push (.int (47 : Int32)) 27), (27, oc_eq 60 30), (30, o_iload 1 31), (31, o_push (.int (40 : Int32)) 33), (33, oc_eq 60 36), (36, o_iload 1 37), (37, o_push (.int (41 : Int32)) 39), (39, oc_eq 60 42), (42, o_iload 1 43), (43, o_push (.int (60 : Int32)) 45), (45, oc_eq 60 48), (48, o_iload 1 49), (49, o_push (.int (61 : Int32)) 51), (51, oc_eq 60 54), (54, o_iload 1 55), (55, o_push (.int (62 : Int32)) 57), (57, oc_ne 64 60), (60, o_push (.int (1 : Int32)) 61), (61, o_goto 65), (64, o_push (.int (0 : Int32)) 65), (65, o_zret)]
set_option maxRecDepth 200000 in
theorem iX12_isMarkSign {l : Launch} {w : nW} {G : nG} : n_AllS l w 0 mX12_isMarkSign G (n_fin dv_i G) (aX12_isMarkSign) :=
  n_c (s_iload_n (pc := 0) (k := 1) (by decide +kernel)) <|
  n_c (s_bipush (pc := 1) (n := 59) (by decide +kernel) (by decide +kernel)) <|
  n_c (s_icmp_eq (pc := 3) (off := 57) (by decide +kernel) (by decide +kernel)) <|
  n_c (s_iload_n (pc := 6) (k := 1) (by decide +kernel)) <|
  n_c (s_bipush (pc := 7) (n := 43) (by decide +kernel) (by decide +kernel)) <|
  n_c (s_icmp_eq (pc := 9) (off := 51) (by decide +kernel) (by decide +kernel)) <|
  n_c (s_iload_n (pc := 12) (k := 1) (by decide +kernel)) <|
  n_c (s_bipush (pc := 13) (n := 45) (by decide +kernel) (by decide +kernel)) <|
  n_c (s_icmp_eq (pc := 15) (off := 45) (by decide +kernel) (by decide +kernel)) <|
  n_c (s_iload_n (pc := 18) (k := 1) (by decide +kernel)) <|
  n_c (s_bipush (pc := 19) (n := 42) (by decide +kernel) (by decide +kernel)) <|
  n_c (s_icmp_eq (pc := 21) (off := 39) (by decide +kernel) (by decide +kernel)) <|
  n_c (s_iload_n (pc := 24) (k := 1) (by decide +kernel)) <|
  n_c (s_bipush (pc := 25) (n := 47) (by decide +kernel) (by decide +kernel)) <|
  n_c (s_icmp_eq (pc := 27) (off := 33) (by decide +kernel) (by decide +kernel)) <|
  n_c (s_iload_n (pc := 30) (k := 1) (by decide +kernel)) <|
  n_c (s_bipush (pc := 31) (n := 40) (by decide +kernel) (by decide +kernel)) <|
  n_c (s_icmp_eq (pc := 33) (off := 27) (by decide +kernel) (by decide +kernel)) <|
  n_c (s_iload_n (pc := 36) (k := 1) (by decide +kernel)) <|
  n_c (s_bipush (pc := 37) (n := 41) (by decide +kernel) (by decide +kernel)) <|
  n_c (s_icmp_eq (pc := 39) (off := 21) (by decide +kernel) (by decide +kernel)) <|
  n_c (s_iload_n (pc := 42) (k := 1) (by decide +kernel)) <|
  n_c (s_bipush (pc := 43) (n := 60) (by decide +kernel) (by decide +kernel)) <|
  n_c (s_icmp_eq (pc := 45) (off := 15) (by decide +kernel) (by decide +kernel)) <|
  n_c (s_iload_n (pc := 48) (k := 1) (by decide +kernel)) <|
  n_c (s_bipush (pc := 49) (n := 61) (by decide +kernel) (by decide +kernel)) <|
  n_c (s_icmp_eq (pc := 51) (off := 9) (by decide +kernel) (by decide +kernel)) <|
  n_c (s_iload_n (pc := 54) (k := 1) (by decide +kernel)) <|
  n_c (s_bipush (pc := 55) (n := 62) (by decide +kernel) (by decide +kernel)) <|
  n_c (s_icmp_ne (pc := 57) (off := 7) (by decide +kernel) (by decide +kernel)) <|
  n_c (s_iconst (pc := 60) (n := 1) (by decide +kernel) (by decide +kernel)) <|
  n_c (s_goto (pc := 61) (off := 4) (by decide +kernel) (by decide +kernel)) <|
  n_c (s_iconst (pc := 64) (n := 0) (by decide +kernel) (by decide +kernel)) <|
  n_c (s_zret (pc := 65) rfl (by decide +kernel)) <|
  n_e
def fX12_isMarkSign (x1 : Int32) (M : nM) : Option (Int32 × nM) :=
  if x1 = (59 : Int32) then
    some ((1 : Int32), M)
  else
    if x1 = (43 : Int32) then
      some ((1 : Int32), M)
    else
      if x1 = (45 : Int32) then
        some ((1 : Int32), M)
      else
        if x1 = (42 : Int32) then
          some ((1 : Int32), M)
        else
          if x1 = (47 : Int32) then
            some ((1 : Int32), M)
          else
            if x1 = (40 : Int32) then
              some ((1 : Int32), M)
            else
              if x1 = (41 : Int32) then
                some ((1 : Int32), M)
              else
                if x1 = (60 : Int32) then
                  some ((1 : Int32), M)
                else
                  if x1 = (61 : Int32) then
                    some ((1 : Int32), M)
                  else
                    if ¬ x1 = (62 : Int32) then
                      some ((0 : Int32), M)
                    else
                      some ((1 : Int32), M)
set_option maxRecDepth 200000 in
theorem bX12_isMarkSign_0 {l : Launch} {w : nW} {G : nG} (x1 : Int32) (M : nM) (r : Int32 × nM) (h : fX12_isMarkSign x1 M = some r) : n_At l w 0 mX12_isMarkSign 0 [(1, .int x1)] [] (G, M) (dv_i r.1, (G, r.2)) :=
  n_seg (fin := n_fin dv_i G) (K := []) 65 (iX12_isMarkSign) n_ke (by rfl) h
theorem eX12_isMarkSign {l : Launch} {w : nW} {G : nG} (z1 : Int32) (M : nM) (r : Int32 × nM) (h : fX12_isMarkSign z1 M = some r) : n_Met l w 0 mX12_isMarkSign [.ref 107, .int z1] (G, M) (dv_i r.1, (G, r.2)) :=
  n_entry (by decide +kernel) rfl (Nat.le_of_ble_eq_true rfl) (n_sub (lv := [(0, .ref 107), (1, .int z1)]) (n_qc rfl n_qe) (bX12_isMarkSign_0 z1 M r h))
abbrev hX12_isMarkSign : nF := fun T as M k => n_pC 107 as (fun as => n_pI as (fun z1 as => n_pE as ((fX12_isMarkSign z1 M).bind fun p => k (dv_i p.1) p.2)))
theorem csX12_isMarkSign {l : Launch} {w : nW} {G : nG} : n_CS l w 0 mX12_isMarkSign G (hX12_isMarkSign) := fun T as M k r h => by
  obtain ⟨t0, rfl, h1⟩ := n_pC_x h
  obtain ⟨z1, t1, rfl, h2⟩ := n_pI_x h1
  obtain ⟨rfl, hE⟩ := n_pE_x h2
  obtain ⟨p, hp, hk⟩ := Option.bind_eq_some_iff.mp hE
  exact ⟨_, _, eX12_isMarkSign z1 M p hp, hk⟩
/-! ===== SleightHouseModel.reads()V ===== -/
def mX12_reads : nY := (RX12, yX12_reads, cX12_reads, 2, none)
theorem okX12_reads : n_MOK mX12_reads 0 := ⟨w_1708, w_151, ⟨by decide +kernel, by decide +kernel, by decide +kernel⟩, by decide⟩
abbrev aX12_reads (N : Nat) : List (Nat × nO (Unit × nM)) := [(0, o_aload 0 1), (1, o_aload 0 2), (2, o_gIc 107 16 5), (5, o_callVc 107 1 (hX12_raw) 8), (8, o_push (.int (32 : Int32)) 10), (10, oc_eq 26 13), (13, o_aload 0 14), (14, o_aload 0 15), (15, o_gIc 107 16 18), (18, o_callVc 107 1 (hX12_raw) 21), (21, o_push (.int (10 : Int32)) 23), (23, oc_ne 39 26), (26, o_aload 0 27), (27, o_aload 0 28), (28, o_gIc 107 16 31), (31, o_push (.int (1 : Int32)) 32), (32, o_iadd 33), (33, o_pIc 107 16 36), (36, o_goto 0), (39, o_aload 0 40), (40, o_aload 0 41), (41, o_gIc 107 16 44), (44, o_pIc 107 17 47), (47, o_aload 0 48), (48, o_push (.int (1 : Int32)) 49), (49, o_pIc 107 18 52), (52, o_aload 0 53), (53, o_aload 0 54), (54, o_gIc 107 16 57), (57, o_callVc 107 1 (hX12_raw) 60), (60, o_istore 2 1 61), (61, o_iload 1 62), (62, o_push (.int (-1 : Int32)) 63), (63, oc_ne 72 66), (66, o_aload 0 67), (67, o_push (.int (0 : Int32)) 68), (68, o_pIc 107 18 71), (71, o_vret), (72, o_aload 0 73), (73, o_aload 0 74), (74, o_gIc 107 16 77), (77, o_push (.int (1 : Int32)) 78), (78, o_iadd 79), (79, o_pIc 107 16 82), (82, o_aload 0 83), (83, o_iload 1 84), (84, o_pIc 107 19 87), (87, o_aload 0 88), (88, o_iload 1 89), (89, o_callVc 107 1 (hX12_isLetter) 92), (92, oi_eq 155 95), (95, o_aload 0 96), (96, o_aload 0 97), (97, o_aload 0 98), (98, o_gIc 107 16 101), (101, o_callVc 107 1 (hX12_raw) 104), (104, o_callVc 107 1 (hX12_isLetter) 107), (107, oi_eq 123 110), (110, o_aload 0 111), (111, o_aload 0 112), (112, o_gIc 107 16 115), (115, o_push (.int (1 : Int32)) 116), (116, o_iadd 117), (117, o_pIc 107 16 120), (120, o_goto 95), (123, o_aload 0 124), (124, o_aload 0 125), (125, o_aload 0 126), (126, o_gIc 107 17 129), (129, o_aload 0 130), (130, o_gIc 107 16 133), (133, o_callVc 107 2 (hX12_wordAt N) 136), (136, o_pIc 107 19 139), (139, o_aload 0 140), (140, o_gIc 107 19 143), (143, o_push (.int (-1 : Int32)) 144), (144, oc_eq 273 147), (147, o_aload 0 148), (148, o_push (.int (2 : Int32)) 149), (149, o_pIc 107 18 152), (152, o_goto 273), (155, o_aload 0 156), (156, o_iload 1 157), (157, o_callVc 107 1 (hX12_isDigit) 160), (160, oi_eq 260 163), (163, o_aload 0 164), (164, o_iload 1 165), (165, o_push (.int (48 : Int32)) 167), (167, o_isub 168), (168, o_pIc 107 19 171), (171, o_aload 0 172), (172, o_aload 0 173), (173, o_aload 0 174), (174, o_gIc 107 16 177), (177, o_callVc 107 1 (hX12_raw) 180), (180, o_callVc 107 1 (hX12_isDigit) 183), (183, oi_eq 239 186), (186, o_aload 0 187), (187, o_aload 0 188), (188, o_gIc 107 19 191), (191, o_push (.int (10000 : Int32)) 194), (194, oc_ge 219 197), (197, o_push (.int (10 : Int32)) 199), (199, o_aload 0 200), (200, o_gIc 107 19 203), (203, o_imul 204), (204, o_aload 0 205), (205, o_aload 0 206), (206, o_gIc 107 16 209), (209, o_callVc 107 1 (hX12_raw) 212), (212, o_iadd 213), (213, o_push (.int (48 : Int32)) 215), (215, o_isub 216), (216, o_goto 223), (219, o_aload 0 220), (220, o_gIc 107 19 223), (223, o_pIc 107 19 226), (226, o_aload 0 227), (227, o_aload 0 228), (228, o_gIc 107 16 231), (231, o_push (.int (1 : Int32)) 232), (232, o_iadd 233), (233, o_pIc 107 16 236), (236, o_goto 171), (239, o_aload 0 240), (240, o_gIc 107 16 243), (243, o_aload 0 244), (244, o_gIc 107 17 247), (247, o_isub 248), (248, o_push (.int (5 : Int32)) 249), (249, oc_ge 273 252), (252, o_aload 0 253), (253, o_push (.int (3 : Int32)) 254), (254, o_pIc 107 18 257), (257, o_goto 273), (260, o_aload 0 261), (261, o_iload 1 262), (262, o_callVc 107 1 (hX12_isMarkSign) 265), (265, oi_eq 273 268), (268, o_aload 0 269), (269, o_push (.int (4 : Int32)) 270), (270, o_pIc 107 18 273), (273, o_vret)]
set_option maxRecDepth 200000 in
theorem iX12_reads {l : Launch} {w : nW} (N : Nat) {G : nG} (hG : n_GOK G) : n_AllS l w 2 mX12_reads G (n_fin dv_v G) (aX12_reads N) :=
  n_c (s_aload_n (pc := 0) (k := 0) (by decide +kernel)) <|
  n_c (s_aload_n (pc := 1) (k := 0) (by decide +kernel)) <|
  n_c (s_gIc (s_getI (pc := 2) (ci := 12) (k := 16) (idx := 195) nok12 (by decide) rfl (by decide +kernel) w_1423) (gk107 hG)) <|
  n_c (s_callVc (s_callV (pc := 5) (csX12_raw hG) (by decide) okX12_raw nok12 w_1711 w_54 w_1709 (by decide +kernel)) (gk107 hG)) <|
  n_c (s_bipush (pc := 8) (n := 32) (by decide +kernel) (by decide +kernel)) <|
  n_c (s_icmp_eq (pc := 10) (off := 16) (by decide +kernel) (by decide +kernel)) <|
  n_c (s_aload_n (pc := 13) (k := 0) (by decide +kernel)) <|
  n_c (s_aload_n (pc := 14) (k := 0) (by decide +kernel)) <|
  n_c (s_gIc (s_getI (pc := 15) (ci := 12) (k := 16) (idx := 195) nok12 (by decide) rfl (by decide +kernel) w_1423) (gk107 hG)) <|
  n_c (s_callVc (s_callV (pc := 18) (csX12_raw hG) (by decide) okX12_raw nok12 w_1711 w_54 w_1709 (by decide +kernel)) (gk107 hG)) <|
  n_c (s_bipush (pc := 21) (n := 10) (by decide +kernel) (by decide +kernel)) <|
  n_c (s_icmp_ne (pc := 23) (off := 16) (by decide +kernel) (by decide +kernel)) <|
  n_c (s_aload_n (pc := 26) (k := 0) (by decide +kernel)) <|
  n_c (s_aload_n (pc := 27) (k := 0) (by decide +kernel)) <|
  n_c (s_gIc (s_getI (pc := 28) (ci := 12) (k := 16) (idx := 195) nok12 (by decide) rfl (by decide +kernel) w_1423) (gk107 hG)) <|
  n_c (s_iconst (pc := 31) (n := 1) (by decide +kernel) (by decide +kernel)) <|
  n_c (s_iadd (pc := 32) (by decide +kernel)) <|
  n_c (s_pIc (s_putI (pc := 33) (ci := 12) (k := 16) (idx := 195) nok12 (by decide) rfl rfl (by decide +kernel) w_1423) (gk107 hG)) <|
  n_c (s_goto (pc := 36) (off := -36) (by decide +kernel) (by decide +kernel)) <|
  n_c (s_aload_n (pc := 39) (k := 0) (by decide +kernel)) <|
  n_c (s_aload_n (pc := 40) (k := 0) (by decide +kernel)) <|
  n_c (s_gIc (s_getI (pc := 41) (ci := 12) (k := 16) (idx := 195) nok12 (by decide) rfl (by decide +kernel) w_1423) (gk107 hG)) <|
  n_c (s_pIc (s_putI (pc := 44) (ci := 12) (k := 17) (idx := 201) nok12 (by decide) rfl rfl (by decide +kernel) w_1424) (gk107 hG)) <|
  n_c (s_aload_n (pc := 47) (k := 0) (by decide +kernel)) <|
  n_c (s_iconst (pc := 48) (n := 1) (by decide +kernel) (by decide +kernel)) <|
  n_c (s_pIc (s_putI (pc := 49) (ci := 12) (k := 18) (idx := 204) nok12 (by decide) rfl rfl (by decide +kernel) w_1425) (gk107 hG)) <|
  n_c (s_aload_n (pc := 52) (k := 0) (by decide +kernel)) <|
  n_c (s_aload_n (pc := 53) (k := 0) (by decide +kernel)) <|
  n_c (s_gIc (s_getI (pc := 54) (ci := 12) (k := 16) (idx := 195) nok12 (by decide) rfl (by decide +kernel) w_1423) (gk107 hG)) <|
  n_c (s_callVc (s_callV (pc := 57) (csX12_raw hG) (by decide) okX12_raw nok12 w_1711 w_54 w_1709 (by decide +kernel)) (gk107 hG)) <|
  n_c (s_istore_n (pc := 60) (k := 1) (by decide +kernel)) <|
  n_c (s_iload_n (pc := 61) (k := 1) (by decide +kernel)) <|
  n_c (s_iconst (pc := 62) (n := -1) (by decide +kernel) (by decide +kernel)) <|
  n_c (s_icmp_ne (pc := 63) (off := 9) (by decide +kernel) (by decide +kernel)) <|
  n_c (s_aload_n (pc := 66) (k := 0) (by decide +kernel)) <|
  n_c (s_iconst (pc := 67) (n := 0) (by decide +kernel) (by decide +kernel)) <|
  n_c (s_pIc (s_putI (pc := 68) (ci := 12) (k := 18) (idx := 204) nok12 (by decide) rfl rfl (by decide +kernel) w_1425) (gk107 hG)) <|
  n_c (s_vret (pc := 71) rfl (by decide +kernel)) <|
  n_c (s_aload_n (pc := 72) (k := 0) (by decide +kernel)) <|
  n_c (s_aload_n (pc := 73) (k := 0) (by decide +kernel)) <|
  n_c (s_gIc (s_getI (pc := 74) (ci := 12) (k := 16) (idx := 195) nok12 (by decide) rfl (by decide +kernel) w_1423) (gk107 hG)) <|
  n_c (s_iconst (pc := 77) (n := 1) (by decide +kernel) (by decide +kernel)) <|
  n_c (s_iadd (pc := 78) (by decide +kernel)) <|
  n_c (s_pIc (s_putI (pc := 79) (ci := 12) (k := 16) (idx := 195) nok12 (by decide) rfl rfl (by decide +kernel) w_1423) (gk107 hG)) <|
  n_c (s_aload_n (pc := 82) (k := 0) (by decide +kernel)) <|
  n_c (s_iload_n (pc := 83) (k := 1) (by decide +kernel)) <|
  n_c (s_pIc (s_putI (pc := 84) (ci := 12) (k := 19) (idx := 207) nok12 (by decide) rfl rfl (by decide +kernel) w_1426) (gk107 hG)) <|
  n_c (s_aload_n (pc := 87) (k := 0) (by decide +kernel)) <|
  n_c (s_iload_n (pc := 88) (k := 1) (by decide +kernel)) <|
  n_c (s_callVc (s_callV (pc := 89) (csX12_isLetter hG) (by decide) okX12_isLetter nok12 w_1715 w_55 w_1713 (by decide +kernel)) (gk107 hG)) <|
  n_c (s_if_eq (pc := 92) (off := 63) (by decide +kernel) (by decide +kernel)) <|
  n_c (s_aload_n (pc := 95) (k := 0) (by decide +kernel)) <|
  n_c (s_aload_n (pc := 96) (k := 0) (by decide +kernel)) <|
  n_c (s_aload_n (pc := 97) (k := 0) (by decide +kernel)) <|
  n_c (s_gIc (s_getI (pc := 98) (ci := 12) (k := 16) (idx := 195) nok12 (by decide) rfl (by decide +kernel) w_1423) (gk107 hG)) <|
  n_c (s_callVc (s_callV (pc := 101) (csX12_raw hG) (by decide) okX12_raw nok12 w_1711 w_54 w_1709 (by decide +kernel)) (gk107 hG)) <|
  n_c (s_callVc (s_callV (pc := 104) (csX12_isLetter hG) (by decide) okX12_isLetter nok12 w_1715 w_55 w_1713 (by decide +kernel)) (gk107 hG)) <|
  n_c (s_if_eq (pc := 107) (off := 16) (by decide +kernel) (by decide +kernel)) <|
  n_c (s_aload_n (pc := 110) (k := 0) (by decide +kernel)) <|
  n_c (s_aload_n (pc := 111) (k := 0) (by decide +kernel)) <|
  n_c (s_gIc (s_getI (pc := 112) (ci := 12) (k := 16) (idx := 195) nok12 (by decide) rfl (by decide +kernel) w_1423) (gk107 hG)) <|
  n_c (s_iconst (pc := 115) (n := 1) (by decide +kernel) (by decide +kernel)) <|
  n_c (s_iadd (pc := 116) (by decide +kernel)) <|
  n_c (s_pIc (s_putI (pc := 117) (ci := 12) (k := 16) (idx := 195) nok12 (by decide) rfl rfl (by decide +kernel) w_1423) (gk107 hG)) <|
  n_c (s_goto (pc := 120) (off := -25) (by decide +kernel) (by decide +kernel)) <|
  n_c (s_aload_n (pc := 123) (k := 0) (by decide +kernel)) <|
  n_c (s_aload_n (pc := 124) (k := 0) (by decide +kernel)) <|
  n_c (s_aload_n (pc := 125) (k := 0) (by decide +kernel)) <|
  n_c (s_gIc (s_getI (pc := 126) (ci := 12) (k := 17) (idx := 201) nok12 (by decide) rfl (by decide +kernel) w_1424) (gk107 hG)) <|
  n_c (s_aload_n (pc := 129) (k := 0) (by decide +kernel)) <|
  n_c (s_gIc (s_getI (pc := 130) (ci := 12) (k := 16) (idx := 195) nok12 (by decide) rfl (by decide +kernel) w_1423) (gk107 hG)) <|
  n_c (s_callVc (s_callV (pc := 133) (csX12_wordAt N hG) (by decide) okX12_wordAt nok12 w_1719 w_56 w_1717 (by decide +kernel)) (gk107 hG)) <|
  n_c (s_pIc (s_putI (pc := 136) (ci := 12) (k := 19) (idx := 207) nok12 (by decide) rfl rfl (by decide +kernel) w_1426) (gk107 hG)) <|
  n_c (s_aload_n (pc := 139) (k := 0) (by decide +kernel)) <|
  n_c (s_gIc (s_getI (pc := 140) (ci := 12) (k := 19) (idx := 207) nok12 (by decide) rfl (by decide +kernel) w_1426) (gk107 hG)) <|
  n_c (s_iconst (pc := 143) (n := -1) (by decide +kernel) (by decide +kernel)) <|
  n_c (s_icmp_eq (pc := 144) (off := 129) (by decide +kernel) (by decide +kernel)) <|
  n_c (s_aload_n (pc := 147) (k := 0) (by decide +kernel)) <|
  n_c (s_iconst (pc := 148) (n := 2) (by decide +kernel) (by decide +kernel)) <|
  n_c (s_pIc (s_putI (pc := 149) (ci := 12) (k := 18) (idx := 204) nok12 (by decide) rfl rfl (by decide +kernel) w_1425) (gk107 hG)) <|
  n_c (s_goto (pc := 152) (off := 121) (by decide +kernel) (by decide +kernel)) <|
  n_c (s_aload_n (pc := 155) (k := 0) (by decide +kernel)) <|
  n_c (s_iload_n (pc := 156) (k := 1) (by decide +kernel)) <|
  n_c (s_callVc (s_callV (pc := 157) (csX12_isDigit hG) (by decide) okX12_isDigit nok12 w_1723 w_57 w_1721 (by decide +kernel)) (gk107 hG)) <|
  n_c (s_if_eq (pc := 160) (off := 100) (by decide +kernel) (by decide +kernel)) <|
  n_c (s_aload_n (pc := 163) (k := 0) (by decide +kernel)) <|
  n_c (s_iload_n (pc := 164) (k := 1) (by decide +kernel)) <|
  n_c (s_bipush (pc := 165) (n := 48) (by decide +kernel) (by decide +kernel)) <|
  n_c (s_isub (pc := 167) (by decide +kernel)) <|
  n_c (s_pIc (s_putI (pc := 168) (ci := 12) (k := 19) (idx := 207) nok12 (by decide) rfl rfl (by decide +kernel) w_1426) (gk107 hG)) <|
  n_c (s_aload_n (pc := 171) (k := 0) (by decide +kernel)) <|
  n_c (s_aload_n (pc := 172) (k := 0) (by decide +kernel)) <|
  n_c (s_aload_n (pc := 173) (k := 0) (by decide +kernel)) <|
  n_c (s_gIc (s_getI (pc := 174) (ci := 12) (k := 16) (idx := 195) nok12 (by decide) rfl (by decide +kernel) w_1423) (gk107 hG)) <|
  n_c (s_callVc (s_callV (pc := 177) (csX12_raw hG) (by decide) okX12_raw nok12 w_1711 w_54 w_1709 (by decide +kernel)) (gk107 hG)) <|
  n_c (s_callVc (s_callV (pc := 180) (csX12_isDigit hG) (by decide) okX12_isDigit nok12 w_1723 w_57 w_1721 (by decide +kernel)) (gk107 hG)) <|
  n_c (s_if_eq (pc := 183) (off := 56) (by decide +kernel) (by decide +kernel)) <|
  n_c (s_aload_n (pc := 186) (k := 0) (by decide +kernel)) <|
  n_c (s_aload_n (pc := 187) (k := 0) (by decide +kernel)) <|
  n_c (s_gIc (s_getI (pc := 188) (ci := 12) (k := 19) (idx := 207) nok12 (by decide) rfl (by decide +kernel) w_1426) (gk107 hG)) <|
  n_c (s_sipush (pc := 191) (n := 10000) (by decide +kernel) (by decide +kernel)) <|
  n_c (s_icmp_ge (pc := 194) (off := 25) (by decide +kernel) (by decide +kernel)) <|
  n_c (s_bipush (pc := 197) (n := 10) (by decide +kernel) (by decide +kernel)) <|
  n_c (s_aload_n (pc := 199) (k := 0) (by decide +kernel)) <|
  n_c (s_gIc (s_getI (pc := 200) (ci := 12) (k := 19) (idx := 207) nok12 (by decide) rfl (by decide +kernel) w_1426) (gk107 hG)) <|
  n_c (s_imul (pc := 203) (by decide +kernel)) <|
  n_c (s_aload_n (pc := 204) (k := 0) (by decide +kernel)) <|
  n_c (s_aload_n (pc := 205) (k := 0) (by decide +kernel)) <|
  n_c (s_gIc (s_getI (pc := 206) (ci := 12) (k := 16) (idx := 195) nok12 (by decide) rfl (by decide +kernel) w_1423) (gk107 hG)) <|
  n_c (s_callVc (s_callV (pc := 209) (csX12_raw hG) (by decide) okX12_raw nok12 w_1711 w_54 w_1709 (by decide +kernel)) (gk107 hG)) <|
  n_c (s_iadd (pc := 212) (by decide +kernel)) <|
  n_c (s_bipush (pc := 213) (n := 48) (by decide +kernel) (by decide +kernel)) <|
  n_c (s_isub (pc := 215) (by decide +kernel)) <|
  n_c (s_goto (pc := 216) (off := 7) (by decide +kernel) (by decide +kernel)) <|
  n_c (s_aload_n (pc := 219) (k := 0) (by decide +kernel)) <|
  n_c (s_gIc (s_getI (pc := 220) (ci := 12) (k := 19) (idx := 207) nok12 (by decide) rfl (by decide +kernel) w_1426) (gk107 hG)) <|
  n_c (s_pIc (s_putI (pc := 223) (ci := 12) (k := 19) (idx := 207) nok12 (by decide) rfl rfl (by decide +kernel) w_1426) (gk107 hG)) <|
  n_c (s_aload_n (pc := 226) (k := 0) (by decide +kernel)) <|
  n_c (s_aload_n (pc := 227) (k := 0) (by decide +kernel)) <|
  n_c (s_gIc (s_getI (pc := 228) (ci := 12) (k := 16) (idx := 195) nok12 (by decide) rfl (by decide +kernel) w_1423) (gk107 hG)) <|
  n_c (s_iconst (pc := 231) (n := 1) (by decide +kernel) (by decide +kernel)) <|
  n_c (s_iadd (pc := 232) (by decide +kernel)) <|
  n_c (s_pIc (s_putI (pc := 233) (ci := 12) (k := 16) (idx := 195) nok12 (by decide) rfl rfl (by decide +kernel) w_1423) (gk107 hG)) <|
  n_c (s_goto (pc := 236) (off := -65) (by decide +kernel) (by decide +kernel)) <|
  n_c (s_aload_n (pc := 239) (k := 0) (by decide +kernel)) <|
  n_c (s_gIc (s_getI (pc := 240) (ci := 12) (k := 16) (idx := 195) nok12 (by decide) rfl (by decide +kernel) w_1423) (gk107 hG)) <|
  n_c (s_aload_n (pc := 243) (k := 0) (by decide +kernel)) <|
  n_c (s_gIc (s_getI (pc := 244) (ci := 12) (k := 17) (idx := 201) nok12 (by decide) rfl (by decide +kernel) w_1424) (gk107 hG)) <|
  n_c (s_isub (pc := 247) (by decide +kernel)) <|
  n_c (s_iconst (pc := 248) (n := 5) (by decide +kernel) (by decide +kernel)) <|
  n_c (s_icmp_ge (pc := 249) (off := 24) (by decide +kernel) (by decide +kernel)) <|
  n_c (s_aload_n (pc := 252) (k := 0) (by decide +kernel)) <|
  n_c (s_iconst (pc := 253) (n := 3) (by decide +kernel) (by decide +kernel)) <|
  n_c (s_pIc (s_putI (pc := 254) (ci := 12) (k := 18) (idx := 204) nok12 (by decide) rfl rfl (by decide +kernel) w_1425) (gk107 hG)) <|
  n_c (s_goto (pc := 257) (off := 16) (by decide +kernel) (by decide +kernel)) <|
  n_c (s_aload_n (pc := 260) (k := 0) (by decide +kernel)) <|
  n_c (s_iload_n (pc := 261) (k := 1) (by decide +kernel)) <|
  n_c (s_callVc (s_callV (pc := 262) (csX12_isMarkSign) (by decide) okX12_isMarkSign nok12 w_1727 w_58 w_1725 (by decide +kernel)) (gk107 hG)) <|
  n_c (s_if_eq (pc := 265) (off := 8) (by decide +kernel) (by decide +kernel)) <|
  n_c (s_aload_n (pc := 268) (k := 0) (by decide +kernel)) <|
  n_c (s_iconst (pc := 269) (n := 4) (by decide +kernel) (by decide +kernel)) <|
  n_c (s_pIc (s_putI (pc := 270) (ci := 12) (k := 18) (idx := 204) nok12 (by decide) rfl rfl (by decide +kernel) w_1425) (gk107 hG)) <|
  n_c (s_vret (pc := 273) rfl (by decide +kernel)) <|
  n_e
def fX12_reads_95 (N : Nat) : Nat → nM → Option (Unit × nM)
  | 0, _ => none
  | n + 1, M =>
    (fX12_raw (M 107 16) M).bind fun p1 =>
    (fX12_isLetter p1.1 p1.2).bind fun p2 =>
    if p2.1 = 0 then
      (fX12_wordAt N (p2.2 107 17) (p2.2 107 16) p2.2).bind fun p3 =>
      let M4 : nM := n_up p3.2 107 19 p3.1
      if (M4 107 19) = (-1 : Int32) then
        some ((), M4)
      else
        let M5 : nM := n_up M4 107 18 (2 : Int32)
        some ((), M5)
    else
      let M6 : nM := n_up p2.2 107 16 ((p2.2 107 16) + (1 : Int32))
      fX12_reads_95 N n M6
set_option maxRecDepth 200000 in
theorem bX12_reads_95 {l : Launch} {w : nW} (N : Nat) {G : nG} (hG : n_GOK G) : ∀ (n : Nat) (M : nM) (r : Unit × nM), fX12_reads_95 N n M = some r → n_At l w 2 mX12_reads 95 [(0, .ref 107)] [] (G, M) (dv_v r.1, (G, r.2)) := by
  intro n
  induction n with
  | zero => intro M r h; cases (show (none : Option (Unit × nM)) = some r from h)
  | succ n ih =>
    intro M r h
    exact n_seg (fin := n_fin dv_v G) (K := [(95, fun lv st M => n_lC 107 lv 0 (n_pE st (fX12_reads_95 N n M)))]) 35 (iX12_reads N hG) (n_kc (fun lv st M r h => by
      obtain ⟨e0, h1⟩ := n_lC_x h
      obtain ⟨rfl, h2⟩ := n_pE_x h1
      exact n_sub (n_qc e0 n_qe) (ih M r h2)) n_ke) (by rfl) h
def fX12_reads_171 (N : Nat) : Nat → nM → Option (Unit × nM)
  | 0, _ => none
  | n + 1, M =>
    (fX12_raw (M 107 16) M).bind fun p1 =>
    (fX12_isDigit p1.1 p1.2).bind fun p2 =>
    if p2.1 = 0 then
      if (5 : Int32) ≤ ((p2.2 107 16) - (p2.2 107 17)) then
        some ((), p2.2)
      else
        let M3 : nM := n_up p2.2 107 18 (3 : Int32)
        some ((), M3)
    else
      if (10000 : Int32) ≤ (p2.2 107 19) then
        let M4 : nM := n_up p2.2 107 19 (p2.2 107 19)
        let M5 : nM := n_up M4 107 16 ((M4 107 16) + (1 : Int32))
        fX12_reads_171 N n M5
      else
        (fX12_raw (p2.2 107 16) p2.2).bind fun p6 =>
        let M7 : nM := n_up p6.2 107 19 ((((10 : Int32) * (p2.2 107 19)) + p6.1) - (48 : Int32))
        let M8 : nM := n_up M7 107 16 ((M7 107 16) + (1 : Int32))
        fX12_reads_171 N n M8
set_option maxRecDepth 200000 in
theorem bX12_reads_171 {l : Launch} {w : nW} (N : Nat) {G : nG} (hG : n_GOK G) : ∀ (n : Nat) (M : nM) (r : Unit × nM), fX12_reads_171 N n M = some r → n_At l w 2 mX12_reads 171 [(0, .ref 107)] [] (G, M) (dv_v r.1, (G, r.2)) := by
  intro n
  induction n with
  | zero => intro M r h; cases (show (none : Option (Unit × nM)) = some r from h)
  | succ n ih =>
    intro M r h
    exact n_seg (fin := n_fin dv_v G) (K := [(171, fun lv st M => n_lC 107 lv 0 (n_pE st (fX12_reads_171 N n M)))]) 58 (iX12_reads N hG) (n_kc (fun lv st M r h => by
      obtain ⟨e0, h1⟩ := n_lC_x h
      obtain ⟨rfl, h2⟩ := n_pE_x h1
      exact n_sub (n_qc e0 n_qe) (ih M r h2)) n_ke) (by rfl) h
def fX12_reads_0 (N : Nat) : Nat → nM → Option (Unit × nM)
  | 0, _ => none
  | n + 1, M =>
    (fX12_raw (M 107 16) M).bind fun p1 =>
    if p1.1 = (32 : Int32) then
      let M2 : nM := n_up p1.2 107 16 ((p1.2 107 16) + (1 : Int32))
      fX12_reads_0 N n M2
    else
      (fX12_raw (p1.2 107 16) p1.2).bind fun p3 =>
      if ¬ p3.1 = (10 : Int32) then
        let M4 : nM := n_up p3.2 107 17 (p3.2 107 16)
        let M5 : nM := n_up M4 107 18 (1 : Int32)
        (fX12_raw (M5 107 16) M5).bind fun p6 =>
        if ¬ p6.1 = (-1 : Int32) then
          let M7 : nM := n_up p6.2 107 16 ((p6.2 107 16) + (1 : Int32))
          let M8 : nM := n_up M7 107 19 p6.1
          (fX12_isLetter p6.1 M8).bind fun p9 =>
          if p9.1 = 0 then
            (fX12_isDigit p6.1 p9.2).bind fun p10 =>
            if p10.1 = 0 then
              (fX12_isMarkSign p6.1 p10.2).bind fun p11 =>
              if p11.1 = 0 then
                some ((), p11.2)
              else
                let M12 : nM := n_up p11.2 107 18 (4 : Int32)
                some ((), M12)
            else
              let M13 : nM := n_up p10.2 107 19 (p6.1 - (48 : Int32))
              fX12_reads_171 N N M13
          else
            fX12_reads_95 N N p9.2
        else
          let M14 : nM := n_up p6.2 107 18 (0 : Int32)
          some ((), M14)
      else
        let M15 : nM := n_up p3.2 107 16 ((p3.2 107 16) + (1 : Int32))
        fX12_reads_0 N n M15
set_option maxRecDepth 200000 in
theorem bX12_reads_0 {l : Launch} {w : nW} (N : Nat) {G : nG} (hG : n_GOK G) : ∀ (n : Nat) (M : nM) (r : Unit × nM), fX12_reads_0 N n M = some r → n_At l w 2 mX12_reads 0 [(0, .ref 107)] [] (G, M) (dv_v r.1, (G, r.2)) := by
  intro n
  induction n with
  | zero => intro M r h; cases (show (none : Option (Unit × nM)) = some r from h)
  | succ n ih =>
    intro M r h
    exact n_seg (fin := n_fin dv_v G) (K := [(0, fun lv st M => n_lC 107 lv 0 (n_pE st (fX12_reads_0 N n M))), (95, fun lv st M => n_lC 107 lv 0 (n_pE st (fX12_reads_95 N N M))), (171, fun lv st M => n_lC 107 lv 0 (n_pE st (fX12_reads_171 N N M)))]) 79 (iX12_reads N hG) (n_kc (fun lv st M r h => by
      obtain ⟨e0, h1⟩ := n_lC_x h
      obtain ⟨rfl, h2⟩ := n_pE_x h1
      exact n_sub (n_qc e0 n_qe) (ih M r h2)) (n_kc (fun lv st M r h => by
      obtain ⟨e0, h1⟩ := n_lC_x h
      obtain ⟨rfl, h2⟩ := n_pE_x h1
      exact n_sub (n_qc e0 n_qe) (bX12_reads_95 N hG N M r h2)) (n_kc (fun lv st M r h => by
      obtain ⟨e0, h1⟩ := n_lC_x h
      obtain ⟨rfl, h2⟩ := n_pE_x h1
      exact n_sub (n_qc e0 n_qe) (bX12_reads_171 N hG N M r h2)) n_ke))) (by rfl) h
def fX12_reads_all (N : Nat) (M : nM) : Option (Unit × nM) := fX12_reads_0 N N M
theorem eX12_reads {l : Launch} {w : nW} (N : Nat) {G : nG} (hG : n_GOK G) (M : nM) (r : Unit × nM) (h : fX12_reads_all N M = some r) : n_Met l w 2 mX12_reads [.ref 107] (G, M) (dv_v r.1, (G, r.2)) :=
  n_entry (by decide +kernel) rfl (Nat.le_of_ble_eq_true rfl) (n_sub (lv := [(0, .ref 107)]) (n_qc rfl n_qe) (bX12_reads_0 N hG N M r h))
abbrev hX12_reads (N : Nat) : nF := fun T as M k => n_pC 107 as (fun as => n_pE as ((fX12_reads_all N M).bind fun p => k (dv_v p.1) p.2))
theorem csX12_reads {l : Launch} {w : nW} (N : Nat) {G : nG} (hG : n_GOK G) : n_CS l w 2 mX12_reads G (hX12_reads N) := fun T as M k r h => by
  obtain ⟨t0, rfl, h1⟩ := n_pC_x h
  obtain ⟨rfl, hE⟩ := n_pE_x h1
  obtain ⟨p, hp, hk⟩ := Option.bind_eq_some_iff.mp hE
  exact ⟨_, _, eX12_reads N hG M p hp, hk⟩
/-! ===== SleightHouseModel.isWord(I)Z ===== -/
def mX12_isWord : nY := (RX12, yX12_isWord, cX12_isWord, 2, some .boolean)
theorem okX12_isWord : n_MOK mX12_isWord 1 := ⟨w_1736, w_151, ⟨by decide +kernel, by decide +kernel, by decide +kernel⟩, by decide⟩
abbrev aX12_isWord : List (Nat × nO (Int32 × nM)) := [(0, o_aload 0 1), (1, o_gIc 107 18 4), (4, o_push (.int (2 : Int32)) 5), (5, oc_ne 20 8), (8, o_aload 0 9), (9, o_gIc 107 19 12), (12, o_iload 1 13), (13, oc_ne 20 16), (16, o_push (.int (1 : Int32)) 17), (17, o_goto 21), (20, o_push (.int (0 : Int32)) 21), (21, o_zret)]
set_option maxRecDepth 200000 in
theorem iX12_isWord {l : Launch} {w : nW} {G : nG} (hG : n_GOK G) : n_AllS l w 0 mX12_isWord G (n_fin dv_i G) (aX12_isWord) :=
  n_c (s_aload_n (pc := 0) (k := 0) (by decide +kernel)) <|
  n_c (s_gIc (s_getI (pc := 1) (ci := 12) (k := 18) (idx := 204) nok12 (by decide) rfl (by decide +kernel) w_1425) (gk107 hG)) <|
  n_c (s_iconst (pc := 4) (n := 2) (by decide +kernel) (by decide +kernel)) <|
  n_c (s_icmp_ne (pc := 5) (off := 15) (by decide +kernel) (by decide +kernel)) <|
  n_c (s_aload_n (pc := 8) (k := 0) (by decide +kernel)) <|
  n_c (s_gIc (s_getI (pc := 9) (ci := 12) (k := 19) (idx := 207) nok12 (by decide) rfl (by decide +kernel) w_1426) (gk107 hG)) <|
  n_c (s_iload_n (pc := 12) (k := 1) (by decide +kernel)) <|
  n_c (s_icmp_ne (pc := 13) (off := 7) (by decide +kernel) (by decide +kernel)) <|
  n_c (s_iconst (pc := 16) (n := 1) (by decide +kernel) (by decide +kernel)) <|
  n_c (s_goto (pc := 17) (off := 4) (by decide +kernel) (by decide +kernel)) <|
  n_c (s_iconst (pc := 20) (n := 0) (by decide +kernel) (by decide +kernel)) <|
  n_c (s_zret (pc := 21) rfl (by decide +kernel)) <|
  n_e
def fX12_isWord (x1 : Int32) (M : nM) : Option (Int32 × nM) :=
  if ¬ (M 107 18) = (2 : Int32) then
    some ((0 : Int32), M)
  else
    if ¬ (M 107 19) = x1 then
      some ((0 : Int32), M)
    else
      some ((1 : Int32), M)
set_option maxRecDepth 200000 in
theorem bX12_isWord_0 {l : Launch} {w : nW} {G : nG} (hG : n_GOK G) (x1 : Int32) (M : nM) (r : Int32 × nM) (h : fX12_isWord x1 M = some r) : n_At l w 0 mX12_isWord 0 [(0, .ref 107), (1, .int x1)] [] (G, M) (dv_i r.1, (G, r.2)) :=
  n_seg (fin := n_fin dv_i G) (K := []) 18 (iX12_isWord hG) n_ke (by rfl) h
theorem eX12_isWord {l : Launch} {w : nW} {G : nG} (hG : n_GOK G) (z1 : Int32) (M : nM) (r : Int32 × nM) (h : fX12_isWord z1 M = some r) : n_Met l w 0 mX12_isWord [.ref 107, .int z1] (G, M) (dv_i r.1, (G, r.2)) :=
  n_entry (by decide +kernel) rfl (Nat.le_of_ble_eq_true rfl) (n_sub (lv := [(0, .ref 107), (1, .int z1)]) (n_qc rfl (n_qc rfl n_qe)) (bX12_isWord_0 hG z1 M r h))
abbrev hX12_isWord : nF := fun T as M k => n_pC 107 as (fun as => n_pI as (fun z1 as => n_pE as ((fX12_isWord z1 M).bind fun p => k (dv_i p.1) p.2)))
theorem csX12_isWord {l : Launch} {w : nW} {G : nG} (hG : n_GOK G) : n_CS l w 0 mX12_isWord G (hX12_isWord) := fun T as M k r h => by
  obtain ⟨t0, rfl, h1⟩ := n_pC_x h
  obtain ⟨z1, t1, rfl, h2⟩ := n_pI_x h1
  obtain ⟨rfl, hE⟩ := n_pE_x h2
  obtain ⟨p, hp, hk⟩ := Option.bind_eq_some_iff.mp hE
  exact ⟨_, _, eX12_isWord hG z1 M p hp, hk⟩
/-! ===== SleightHouseModel.errs(I)I ===== -/
def mX12_errs : nY := (RX12, yX12_errs, cX12_errs, 2, some .int)
theorem okX12_errs : n_MOK mX12_errs 1 := ⟨w_1740, w_151, ⟨by decide +kernel, by decide +kernel, by decide +kernel⟩, by decide⟩
abbrev aX12_errs : List (Nat × nO (Int32 × nM)) := [(0, o_aload 0 1), (1, o_iload 1 2), (2, o_pIc 107 33 5), (5, o_aload 0 6), (6, o_aload 0 7), (7, o_gIc 107 17 10), (10, o_pIc 107 34 13), (13, o_push (.int (-1 : Int32)) 14), (14, o_iret)]
set_option maxRecDepth 200000 in
theorem iX12_errs {l : Launch} {w : nW} {G : nG} (hG : n_GOK G) : n_AllS l w 0 mX12_errs G (n_fin dv_i G) (aX12_errs) :=
  n_c (s_aload_n (pc := 0) (k := 0) (by decide +kernel)) <|
  n_c (s_iload_n (pc := 1) (k := 1) (by decide +kernel)) <|
  n_c (s_pIc (s_putI (pc := 2) (ci := 12) (k := 33) (idx := 223) nok12 (by decide) rfl rfl (by decide +kernel) w_1440) (gk107 hG)) <|
  n_c (s_aload_n (pc := 5) (k := 0) (by decide +kernel)) <|
  n_c (s_aload_n (pc := 6) (k := 0) (by decide +kernel)) <|
  n_c (s_gIc (s_getI (pc := 7) (ci := 12) (k := 17) (idx := 201) nok12 (by decide) rfl (by decide +kernel) w_1424) (gk107 hG)) <|
  n_c (s_pIc (s_putI (pc := 10) (ci := 12) (k := 34) (idx := 226) nok12 (by decide) rfl rfl (by decide +kernel) w_1441) (gk107 hG)) <|
  n_c (s_iconst (pc := 13) (n := -1) (by decide +kernel) (by decide +kernel)) <|
  n_c (s_iret (pc := 14) rfl (by decide +kernel)) <|
  n_e
def fX12_errs (x1 : Int32) (M : nM) : Option (Int32 × nM) :=
  let M1 : nM := n_up M 107 33 x1
  let M2 : nM := n_up M1 107 34 (M1 107 17)
  some ((-1 : Int32), M2)
set_option maxRecDepth 200000 in
theorem bX12_errs_0 {l : Launch} {w : nW} {G : nG} (hG : n_GOK G) (x1 : Int32) (M : nM) (r : Int32 × nM) (h : fX12_errs x1 M = some r) : n_At l w 0 mX12_errs 0 [(0, .ref 107), (1, .int x1)] [] (G, M) (dv_i r.1, (G, r.2)) :=
  n_seg (fin := n_fin dv_i G) (K := []) 12 (iX12_errs hG) n_ke (by rfl) h
theorem eX12_errs {l : Launch} {w : nW} {G : nG} (hG : n_GOK G) (z1 : Int32) (M : nM) (r : Int32 × nM) (h : fX12_errs z1 M = some r) : n_Met l w 0 mX12_errs [.ref 107, .int z1] (G, M) (dv_i r.1, (G, r.2)) :=
  n_entry (by decide +kernel) rfl (Nat.le_of_ble_eq_true rfl) (n_sub (lv := [(0, .ref 107), (1, .int z1)]) (n_qc rfl (n_qc rfl n_qe)) (bX12_errs_0 hG z1 M r h))
abbrev hX12_errs : nF := fun T as M k => n_pC 107 as (fun as => n_pI as (fun z1 as => n_pE as ((fX12_errs z1 M).bind fun p => k (dv_i p.1) p.2)))
theorem csX12_errs {l : Launch} {w : nW} {G : nG} (hG : n_GOK G) : n_CS l w 0 mX12_errs G (hX12_errs) := fun T as M k r h => by
  obtain ⟨t0, rfl, h1⟩ := n_pC_x h
  obtain ⟨z1, t1, rfl, h2⟩ := n_pI_x h1
  obtain ⟨rfl, hE⟩ := n_pE_x h2
  obtain ⟨p, hp, hk⟩ := Option.bind_eq_some_iff.mp hE
  exact ⟨_, _, eX12_errs hG z1 M p hp, hk⟩
/-! ===== SleightHouseModel.readNumber(II)I ===== -/
def mX12_readNumber : nY := (RX12, yX12_readNumber, cX12_readNumber, 4, some .int)
theorem okX12_readNumber : n_MOK mX12_readNumber 2 := ⟨w_1752, w_151, ⟨by decide +kernel, by decide +kernel, by decide +kernel⟩, by decide⟩
abbrev aX12_readNumber (N : Nat) : List (Nat × nO (Int32 × nM)) := [(0, o_aload 0 1), (1, o_gIc 107 18 4), (4, o_push (.int (3 : Int32)) 5), (5, oc_eq 14 8), (8, o_aload 0 9), (9, o_push (.int (1 : Int32)) 10), (10, o_callVc 107 1 (hX12_errs) 13), (13, o_iret), (14, o_aload 0 15), (15, o_aload 0 16), (16, o_gIc 107 19 19), (19, o_iload 1 20), (20, o_iload 2 21), (21, o_callVc 107 3 (hX12_isIn) 24), (24, oi_ne 33 27), (27, o_aload 0 28), (28, o_push (.int (2 : Int32)) 29), (29, o_callVc 107 1 (hX12_errs) 32), (32, o_iret), (33, o_aload 0 34), (34, o_gIc 107 19 37), (37, o_istore 4 3 38), (38, o_aload 0 39), (39, o_callVc 107 0 (hX12_reads N) 42), (42, o_iload 3 43), (43, o_iret)]
set_option maxRecDepth 200000 in
theorem iX12_readNumber {l : Launch} {w : nW} (N : Nat) {G : nG} (hG : n_GOK G) : n_AllS l w 3 mX12_readNumber G (n_fin dv_i G) (aX12_readNumber N) :=
  n_c (s_aload_n (pc := 0) (k := 0) (by decide +kernel)) <|
  n_c (s_gIc (s_getI (pc := 1) (ci := 12) (k := 18) (idx := 204) nok12 (by decide) rfl (by decide +kernel) w_1425) (gk107 hG)) <|
  n_c (s_iconst (pc := 4) (n := 3) (by decide +kernel) (by decide +kernel)) <|
  n_c (s_icmp_eq (pc := 5) (off := 9) (by decide +kernel) (by decide +kernel)) <|
  n_c (s_aload_n (pc := 8) (k := 0) (by decide +kernel)) <|
  n_c (s_iconst (pc := 9) (n := 1) (by decide +kernel) (by decide +kernel)) <|
  n_c (s_callVc (s_callV (pc := 10) (csX12_errs hG) (by decide) okX12_errs nok12 w_1739 w_61 w_1737 (by decide +kernel)) (gk107 hG)) <|
  n_c (s_iret (pc := 13) rfl (by decide +kernel)) <|
  n_c (s_aload_n (pc := 14) (k := 0) (by decide +kernel)) <|
  n_c (s_aload_n (pc := 15) (k := 0) (by decide +kernel)) <|
  n_c (s_gIc (s_getI (pc := 16) (ci := 12) (k := 19) (idx := 207) nok12 (by decide) rfl (by decide +kernel) w_1426) (gk107 hG)) <|
  n_c (s_iload_n (pc := 19) (k := 1) (by decide +kernel)) <|
  n_c (s_iload_n (pc := 20) (k := 2) (by decide +kernel)) <|
  n_c (s_callVc (s_callV (pc := 21) (csX12_isIn) (by decide) okX12_isIn nok12 w_1659 w_46 w_1657 (by decide +kernel)) (gk107 hG)) <|
  n_c (s_if_ne (pc := 24) (off := 9) (by decide +kernel) (by decide +kernel)) <|
  n_c (s_aload_n (pc := 27) (k := 0) (by decide +kernel)) <|
  n_c (s_iconst (pc := 28) (n := 2) (by decide +kernel) (by decide +kernel)) <|
  n_c (s_callVc (s_callV (pc := 29) (csX12_errs hG) (by decide) okX12_errs nok12 w_1739 w_61 w_1737 (by decide +kernel)) (gk107 hG)) <|
  n_c (s_iret (pc := 32) rfl (by decide +kernel)) <|
  n_c (s_aload_n (pc := 33) (k := 0) (by decide +kernel)) <|
  n_c (s_gIc (s_getI (pc := 34) (ci := 12) (k := 19) (idx := 207) nok12 (by decide) rfl (by decide +kernel) w_1426) (gk107 hG)) <|
  n_c (s_istore_n (pc := 37) (k := 3) (by decide +kernel)) <|
  n_c (s_aload_n (pc := 38) (k := 0) (by decide +kernel)) <|
  n_c (s_callVc (s_callV (pc := 39) (csX12_reads N hG) (by decide) okX12_reads nok12 w_1707 w_53 w_1705 (by decide +kernel)) (gk107 hG)) <|
  n_c (s_iload_n (pc := 42) (k := 3) (by decide +kernel)) <|
  n_c (s_iret (pc := 43) rfl (by decide +kernel)) <|
  n_e
def fX12_readNumber (N : Nat) (x1 : Int32) (x2 : Int32) (M : nM) : Option (Int32 × nM) :=
  if (M 107 18) = (3 : Int32) then
    (fX12_isIn (M 107 19) x1 x2 M).bind fun p1 =>
    if ¬ p1.1 = 0 then
      let v2 : Int32 := (p1.2 107 19)
      (fX12_reads_all N p1.2).bind fun p3 =>
      some (v2, p3.2)
    else
      (fX12_errs (2 : Int32) p1.2).bind fun p4 =>
      some (p4.1, p4.2)
  else
    (fX12_errs (1 : Int32) M).bind fun p5 =>
    some (p5.1, p5.2)
set_option maxRecDepth 200000 in
theorem bX12_readNumber_0 {l : Launch} {w : nW} (N : Nat) {G : nG} (hG : n_GOK G) (x1 : Int32) (x2 : Int32) (M : nM) (r : Int32 × nM) (h : fX12_readNumber N x1 x2 M = some r) : n_At l w 3 mX12_readNumber 0 [(0, .ref 107), (1, .int x1), (2, .int x2)] [] (G, M) (dv_i r.1, (G, r.2)) :=
  n_seg (fin := n_fin dv_i G) (K := []) 29 (iX12_readNumber N hG) n_ke (by rfl) h
theorem eX12_readNumber {l : Launch} {w : nW} (N : Nat) {G : nG} (hG : n_GOK G) (z1 : Int32) (z2 : Int32) (M : nM) (r : Int32 × nM) (h : fX12_readNumber N z1 z2 M = some r) : n_Met l w 3 mX12_readNumber [.ref 107, .int z1, .int z2] (G, M) (dv_i r.1, (G, r.2)) :=
  n_entry (by decide +kernel) rfl (Nat.le_of_ble_eq_true rfl) (n_sub (lv := [(0, .ref 107), (1, .int z1), (2, .int z2)]) (n_qc rfl (n_qc rfl (n_qc rfl n_qe))) (bX12_readNumber_0 N hG z1 z2 M r h))
abbrev hX12_readNumber (N : Nat) : nF := fun T as M k => n_pC 107 as (fun as => n_pI as (fun z1 as => n_pI as (fun z2 as => n_pE as ((fX12_readNumber N z1 z2 M).bind fun p => k (dv_i p.1) p.2))))
theorem csX12_readNumber {l : Launch} {w : nW} (N : Nat) {G : nG} (hG : n_GOK G) : n_CS l w 3 mX12_readNumber G (hX12_readNumber N) := fun T as M k r h => by
  obtain ⟨t0, rfl, h1⟩ := n_pC_x h
  obtain ⟨z1, t1, rfl, h2⟩ := n_pI_x h1
  obtain ⟨z2, t2, rfl, h3⟩ := n_pI_x h2
  obtain ⟨rfl, hE⟩ := n_pE_x h3
  obtain ⟨p, hp, hk⟩ := Option.bind_eq_some_iff.mp hE
  exact ⟨_, _, eX12_readNumber N hG z1 z2 M p hp, hk⟩
/-! ===== SleightHouseModel.readTold(III)I ===== -/
def mX12_readTold : nY := (RX12, yX12_readTold, cX12_readTold, 4, some .int)
theorem okX12_readTold : n_MOK mX12_readTold 3 := ⟨w_1748, w_151, ⟨by decide +kernel, by decide +kernel, by decide +kernel⟩, by decide⟩
abbrev aX12_readTold (N : Nat) : List (Nat × nO (Int32 × nM)) := [(0, o_aload 0 1), (1, o_iload 1 2), (2, o_callVc 107 1 (hX12_isWord) 5), (5, oi_ne 14 8), (8, o_aload 0 9), (9, o_push (.int (1 : Int32)) 10), (10, o_callVc 107 1 (hX12_errs) 13), (13, o_iret), (14, o_aload 0 15), (15, o_callVc 107 0 (hX12_reads N) 18), (18, o_aload 0 19), (19, o_iload 2 20), (20, o_iload 3 21), (21, o_callVc 107 2 (hX12_readNumber N) 24), (24, o_iret)]
set_option maxRecDepth 200000 in
theorem iX12_readTold {l : Launch} {w : nW} (N : Nat) {G : nG} (hG : n_GOK G) : n_AllS l w 4 mX12_readTold G (n_fin dv_i G) (aX12_readTold N) :=
  n_c (s_aload_n (pc := 0) (k := 0) (by decide +kernel)) <|
  n_c (s_iload_n (pc := 1) (k := 1) (by decide +kernel)) <|
  n_c (s_callVc (s_callV (pc := 2) (csX12_isWord hG) (by decide) okX12_isWord nok12 w_1735 w_60 w_1733 (by decide +kernel)) (gk107 hG)) <|
  n_c (s_if_ne (pc := 5) (off := 9) (by decide +kernel) (by decide +kernel)) <|
  n_c (s_aload_n (pc := 8) (k := 0) (by decide +kernel)) <|
  n_c (s_iconst (pc := 9) (n := 1) (by decide +kernel) (by decide +kernel)) <|
  n_c (s_callVc (s_callV (pc := 10) (csX12_errs hG) (by decide) okX12_errs nok12 w_1739 w_61 w_1737 (by decide +kernel)) (gk107 hG)) <|
  n_c (s_iret (pc := 13) rfl (by decide +kernel)) <|
  n_c (s_aload_n (pc := 14) (k := 0) (by decide +kernel)) <|
  n_c (s_callVc (s_callV (pc := 15) (csX12_reads N hG) (by decide) okX12_reads nok12 w_1707 w_53 w_1705 (by decide +kernel)) (gk107 hG)) <|
  n_c (s_aload_n (pc := 18) (k := 0) (by decide +kernel)) <|
  n_c (s_iload_n (pc := 19) (k := 2) (by decide +kernel)) <|
  n_c (s_iload_n (pc := 20) (k := 3) (by decide +kernel)) <|
  n_c (s_callVc (s_callV (pc := 21) (csX12_readNumber N hG) (by decide) okX12_readNumber nok12 w_1751 w_64 w_1749 (by decide +kernel)) (gk107 hG)) <|
  n_c (s_iret (pc := 24) rfl (by decide +kernel)) <|
  n_e
def fX12_readTold (N : Nat) (x1 : Int32) (x2 : Int32) (x3 : Int32) (M : nM) : Option (Int32 × nM) :=
  (fX12_isWord x1 M).bind fun p1 =>
  if ¬ p1.1 = 0 then
    (fX12_reads_all N p1.2).bind fun p2 =>
    (fX12_readNumber N x2 x3 p2.2).bind fun p3 =>
    some (p3.1, p3.2)
  else
    (fX12_errs (1 : Int32) p1.2).bind fun p4 =>
    some (p4.1, p4.2)
set_option maxRecDepth 200000 in
theorem bX12_readTold_0 {l : Launch} {w : nW} (N : Nat) {G : nG} (hG : n_GOK G) (x1 : Int32) (x2 : Int32) (x3 : Int32) (M : nM) (r : Int32 × nM) (h : fX12_readTold N x1 x2 x3 M = some r) : n_At l w 4 mX12_readTold 0 [(0, .ref 107), (1, .int x1), (2, .int x2), (3, .int x3)] [] (G, M) (dv_i r.1, (G, r.2)) :=
  n_seg (fin := n_fin dv_i G) (K := []) 18 (iX12_readTold N hG) n_ke (by rfl) h
theorem eX12_readTold {l : Launch} {w : nW} (N : Nat) {G : nG} (hG : n_GOK G) (z1 : Int32) (z2 : Int32) (z3 : Int32) (M : nM) (r : Int32 × nM) (h : fX12_readTold N z1 z2 z3 M = some r) : n_Met l w 4 mX12_readTold [.ref 107, .int z1, .int z2, .int z3] (G, M) (dv_i r.1, (G, r.2)) :=
  n_entry (by decide +kernel) rfl (Nat.le_of_ble_eq_true rfl) (n_sub (lv := [(0, .ref 107), (1, .int z1), (2, .int z2), (3, .int z3)]) (n_qc rfl (n_qc rfl (n_qc rfl (n_qc rfl n_qe)))) (bX12_readTold_0 N hG z1 z2 z3 M r h))
abbrev hX12_readTold (N : Nat) : nF := fun T as M k => n_pC 107 as (fun as => n_pI as (fun z1 as => n_pI as (fun z2 as => n_pI as (fun z3 as => n_pE as ((fX12_readTold N z1 z2 z3 M).bind fun p => k (dv_i p.1) p.2)))))
theorem csX12_readTold {l : Launch} {w : nW} (N : Nat) {G : nG} (hG : n_GOK G) : n_CS l w 4 mX12_readTold G (hX12_readTold N) := fun T as M k r h => by
  obtain ⟨t0, rfl, h1⟩ := n_pC_x h
  obtain ⟨z1, t1, rfl, h2⟩ := n_pI_x h1
  obtain ⟨z2, t2, rfl, h3⟩ := n_pI_x h2
  obtain ⟨z3, t3, rfl, h4⟩ := n_pI_x h3
  obtain ⟨rfl, hE⟩ := n_pE_x h4
  obtain ⟨p, hp, hk⟩ := Option.bind_eq_some_iff.mp hE
  exact ⟨_, _, eX12_readTold N hG z1 z2 z3 M p hp, hk⟩
/-! ===== SleightHouseModel.isSign(I)Z ===== -/
def mX12_isSign : nY := (RX12, yX12_isSign, cX12_isSign, 2, some .boolean)
theorem okX12_isSign : n_MOK mX12_isSign 1 := ⟨w_1760, w_151, ⟨by decide +kernel, by decide +kernel, by decide +kernel⟩, by decide⟩
abbrev aX12_isSign : List (Nat × nO (Int32 × nM)) := [(0, o_aload 0 1), (1, o_gIc 107 18 4), (4, o_push (.int (4 : Int32)) 5), (5, oc_ne 20 8), (8, o_aload 0 9), (9, o_gIc 107 19 12), (12, o_iload 1 13), (13, oc_ne 20 16), (16, o_push (.int (1 : Int32)) 17), (17, o_goto 21), (20, o_push (.int (0 : Int32)) 21), (21, o_zret)]
set_option maxRecDepth 200000 in
theorem iX12_isSign {l : Launch} {w : nW} {G : nG} (hG : n_GOK G) : n_AllS l w 0 mX12_isSign G (n_fin dv_i G) (aX12_isSign) :=
  n_c (s_aload_n (pc := 0) (k := 0) (by decide +kernel)) <|
  n_c (s_gIc (s_getI (pc := 1) (ci := 12) (k := 18) (idx := 204) nok12 (by decide) rfl (by decide +kernel) w_1425) (gk107 hG)) <|
  n_c (s_iconst (pc := 4) (n := 4) (by decide +kernel) (by decide +kernel)) <|
  n_c (s_icmp_ne (pc := 5) (off := 15) (by decide +kernel) (by decide +kernel)) <|
  n_c (s_aload_n (pc := 8) (k := 0) (by decide +kernel)) <|
  n_c (s_gIc (s_getI (pc := 9) (ci := 12) (k := 19) (idx := 207) nok12 (by decide) rfl (by decide +kernel) w_1426) (gk107 hG)) <|
  n_c (s_iload_n (pc := 12) (k := 1) (by decide +kernel)) <|
  n_c (s_icmp_ne (pc := 13) (off := 7) (by decide +kernel) (by decide +kernel)) <|
  n_c (s_iconst (pc := 16) (n := 1) (by decide +kernel) (by decide +kernel)) <|
  n_c (s_goto (pc := 17) (off := 4) (by decide +kernel) (by decide +kernel)) <|
  n_c (s_iconst (pc := 20) (n := 0) (by decide +kernel) (by decide +kernel)) <|
  n_c (s_zret (pc := 21) rfl (by decide +kernel)) <|
  n_e
def fX12_isSign (x1 : Int32) (M : nM) : Option (Int32 × nM) :=
  if ¬ (M 107 18) = (4 : Int32) then
    some ((0 : Int32), M)
  else
    if ¬ (M 107 19) = x1 then
      some ((0 : Int32), M)
    else
      some ((1 : Int32), M)
set_option maxRecDepth 200000 in
theorem bX12_isSign_0 {l : Launch} {w : nW} {G : nG} (hG : n_GOK G) (x1 : Int32) (M : nM) (r : Int32 × nM) (h : fX12_isSign x1 M = some r) : n_At l w 0 mX12_isSign 0 [(0, .ref 107), (1, .int x1)] [] (G, M) (dv_i r.1, (G, r.2)) :=
  n_seg (fin := n_fin dv_i G) (K := []) 18 (iX12_isSign hG) n_ke (by rfl) h
theorem eX12_isSign {l : Launch} {w : nW} {G : nG} (hG : n_GOK G) (z1 : Int32) (M : nM) (r : Int32 × nM) (h : fX12_isSign z1 M = some r) : n_Met l w 0 mX12_isSign [.ref 107, .int z1] (G, M) (dv_i r.1, (G, r.2)) :=
  n_entry (by decide +kernel) rfl (Nat.le_of_ble_eq_true rfl) (n_sub (lv := [(0, .ref 107), (1, .int z1)]) (n_qc rfl (n_qc rfl n_qe)) (bX12_isSign_0 hG z1 M r h))
abbrev hX12_isSign : nF := fun T as M k => n_pC 107 as (fun as => n_pI as (fun z1 as => n_pE as ((fX12_isSign z1 M).bind fun p => k (dv_i p.1) p.2)))
theorem csX12_isSign {l : Launch} {w : nW} {G : nG} (hG : n_GOK G) : n_CS l w 0 mX12_isSign G (hX12_isSign) := fun T as M k r h => by
  obtain ⟨t0, rfl, h1⟩ := n_pC_x h
  obtain ⟨z1, t1, rfl, h2⟩ := n_pI_x h1
  obtain ⟨rfl, hE⟩ := n_pE_x h2
  obtain ⟨p, hp, hk⟩ := Option.bind_eq_some_iff.mp hE
  exact ⟨_, _, eX12_isSign hG z1 M p hp, hk⟩
/-! ===== SleightHouseModel.readMark(I)I ===== -/
def mX12_readMark : nY := (RX12, yX12_readMark, cX12_readMark, 2, some .int)
theorem okX12_readMark : n_MOK mX12_readMark 1 := ⟨w_1756, w_151, ⟨by decide +kernel, by decide +kernel, by decide +kernel⟩, by decide⟩
abbrev aX12_readMark (N : Nat) : List (Nat × nO (Int32 × nM)) := [(0, o_aload 0 1), (1, o_iload 1 2), (2, o_callVc 107 1 (hX12_isSign) 5), (5, oi_ne 14 8), (8, o_aload 0 9), (9, o_push (.int (1 : Int32)) 10), (10, o_callVc 107 1 (hX12_errs) 13), (13, o_iret), (14, o_aload 0 15), (15, o_callVc 107 0 (hX12_reads N) 18), (18, o_push (.int (0 : Int32)) 19), (19, o_iret)]
set_option maxRecDepth 200000 in
theorem iX12_readMark {l : Launch} {w : nW} (N : Nat) {G : nG} (hG : n_GOK G) : n_AllS l w 3 mX12_readMark G (n_fin dv_i G) (aX12_readMark N) :=
  n_c (s_aload_n (pc := 0) (k := 0) (by decide +kernel)) <|
  n_c (s_iload_n (pc := 1) (k := 1) (by decide +kernel)) <|
  n_c (s_callVc (s_callV (pc := 2) (csX12_isSign hG) (by decide) okX12_isSign nok12 w_1759 w_66 w_1757 (by decide +kernel)) (gk107 hG)) <|
  n_c (s_if_ne (pc := 5) (off := 9) (by decide +kernel) (by decide +kernel)) <|
  n_c (s_aload_n (pc := 8) (k := 0) (by decide +kernel)) <|
  n_c (s_iconst (pc := 9) (n := 1) (by decide +kernel) (by decide +kernel)) <|
  n_c (s_callVc (s_callV (pc := 10) (csX12_errs hG) (by decide) okX12_errs nok12 w_1739 w_61 w_1737 (by decide +kernel)) (gk107 hG)) <|
  n_c (s_iret (pc := 13) rfl (by decide +kernel)) <|
  n_c (s_aload_n (pc := 14) (k := 0) (by decide +kernel)) <|
  n_c (s_callVc (s_callV (pc := 15) (csX12_reads N hG) (by decide) okX12_reads nok12 w_1707 w_53 w_1705 (by decide +kernel)) (gk107 hG)) <|
  n_c (s_iconst (pc := 18) (n := 0) (by decide +kernel) (by decide +kernel)) <|
  n_c (s_iret (pc := 19) rfl (by decide +kernel)) <|
  n_e
def fX12_readMark (N : Nat) (x1 : Int32) (M : nM) : Option (Int32 × nM) :=
  (fX12_isSign x1 M).bind fun p1 =>
  if ¬ p1.1 = 0 then
    (fX12_reads_all N p1.2).bind fun p2 =>
    some ((0 : Int32), p2.2)
  else
    (fX12_errs (1 : Int32) p1.2).bind fun p3 =>
    some (p3.1, p3.2)
set_option maxRecDepth 200000 in
theorem bX12_readMark_0 {l : Launch} {w : nW} (N : Nat) {G : nG} (hG : n_GOK G) (x1 : Int32) (M : nM) (r : Int32 × nM) (h : fX12_readMark N x1 M = some r) : n_At l w 3 mX12_readMark 0 [(0, .ref 107), (1, .int x1)] [] (G, M) (dv_i r.1, (G, r.2)) :=
  n_seg (fin := n_fin dv_i G) (K := []) 15 (iX12_readMark N hG) n_ke (by rfl) h
theorem eX12_readMark {l : Launch} {w : nW} (N : Nat) {G : nG} (hG : n_GOK G) (z1 : Int32) (M : nM) (r : Int32 × nM) (h : fX12_readMark N z1 M = some r) : n_Met l w 3 mX12_readMark [.ref 107, .int z1] (G, M) (dv_i r.1, (G, r.2)) :=
  n_entry (by decide +kernel) rfl (Nat.le_of_ble_eq_true rfl) (n_sub (lv := [(0, .ref 107), (1, .int z1)]) (n_qc rfl (n_qc rfl n_qe)) (bX12_readMark_0 N hG z1 M r h))
abbrev hX12_readMark (N : Nat) : nF := fun T as M k => n_pC 107 as (fun as => n_pI as (fun z1 as => n_pE as ((fX12_readMark N z1 M).bind fun p => k (dv_i p.1) p.2)))
theorem csX12_readMark {l : Launch} {w : nW} (N : Nat) {G : nG} (hG : n_GOK G) : n_CS l w 3 mX12_readMark G (hX12_readMark N) := fun T as M k r h => by
  obtain ⟨t0, rfl, h1⟩ := n_pC_x h
  obtain ⟨z1, t1, rfl, h2⟩ := n_pI_x h1
  obtain ⟨rfl, hE⟩ := n_pE_x h2
  obtain ⟨p, hp, hk⟩ := Option.bind_eq_some_iff.mp hE
  exact ⟨_, _, eX12_readMark N hG z1 M p hp, hk⟩
/-! ===== SleightHouseModel.readPut(I)I ===== -/
def mX12_readPut : nY := (RX12, yX12_readPut, cX12_readPut, 2, some .int)
theorem okX12_readPut : n_MOK mX12_readPut 1 := ⟨w_1744, w_151, ⟨by decide +kernel, by decide +kernel, by decide +kernel⟩, by decide⟩
abbrev aX12_readPut (N : Nat) : List (Nat × nO (Int32 × nM)) := [(0, o_aload 0 1), (1, o_gRc 107 127 4), (4, o_iload 1 5), (5, o_aload 0 6), (6, o_push (.int (18 : Int32)) 8), (8, o_push (.int (0 : Int32)) 9), (9, o_push (.int (999 : Int32)) 12), (12, o_callVc 107 3 (hX12_readTold N) 15), (15, o_iastc 127 128 16), (16, o_aload 0 17), (17, o_gRc 107 127 20), (20, o_iload 1 21), (21, o_aldc 127 128 22), (22, o_push (.int (-1 : Int32)) 23), (23, oc_ne 28 26), (26, o_push (.int (-1 : Int32)) 27), (27, o_iret), (28, o_aload 0 29), (29, o_gRc 107 127 32), (32, o_iload 1 33), (33, o_push (.int (1 : Int32)) 34), (34, o_iadd 35), (35, o_aload 0 36), (36, o_push (.int (19 : Int32)) 38), (38, o_push (.int (0 : Int32)) 39), (39, o_aload 0 40), (40, o_gIc 107 7 43), (43, o_push (.int (1 : Int32)) 44), (44, o_isub 45), (45, o_callVc 107 3 (hX12_readTold N) 48), (48, o_iastc 127 128 49), (49, o_aload 0 50), (50, o_gRc 107 127 53), (53, o_iload 1 54), (54, o_push (.int (1 : Int32)) 55), (55, o_iadd 56), (56, o_aldc 127 128 57), (57, o_push (.int (-1 : Int32)) 58), (58, oc_ne 63 61), (61, o_push (.int (-1 : Int32)) 62), (62, o_iret), (63, o_aload 0 64), (64, o_gRc 107 127 67), (67, o_iload 1 68), (68, o_push (.int (2 : Int32)) 69), (69, o_iadd 70), (70, o_aload 0 71), (71, o_push (.int (20 : Int32)) 73), (73, o_push (.int (0 : Int32)) 74), (74, o_aload 0 75), (75, o_gIc 107 6 78), (78, o_push (.int (1 : Int32)) 79), (79, o_isub 80), (80, o_callVc 107 3 (hX12_readTold N) 83), (83, o_iastc 127 128 84), (84, o_aload 0 85), (85, o_gRc 107 127 88), (88, o_iload 1 89), (89, o_push (.int (2 : Int32)) 90), (90, o_iadd 91), (91, o_aldc 127 128 92), (92, o_push (.int (-1 : Int32)) 93), (93, oc_ne 98 96), (96, o_push (.int (-1 : Int32)) 97), (97, o_iret), (98, o_aload 0 99), (99, o_gRc 107 127 102), (102, o_iload 1 103), (103, o_push (.int (3 : Int32)) 104), (104, o_iadd 105), (105, o_aload 0 106), (106, o_push (.int (21 : Int32)) 108), (108, o_push (.int (0 : Int32)) 109), (109, o_push (.int (11 : Int32)) 111), (111, o_callVc 107 3 (hX12_readTold N) 114), (114, o_iastc 127 128 115), (115, o_aload 0 116), (116, o_gRc 107 127 119), (119, o_iload 1 120), (120, o_push (.int (3 : Int32)) 121), (121, o_iadd 122), (122, o_aldc 127 128 123), (123, o_push (.int (-1 : Int32)) 124), (124, oc_ne 131 127), (127, o_push (.int (-1 : Int32)) 128), (128, o_goto 137), (131, o_aload 0 132), (132, o_push (.int (59 : Int32)) 134), (134, o_callVc 107 1 (hX12_readMark N) 137), (137, o_iret)]
set_option maxRecDepth 200000 in
theorem iX12_readPut {l : Launch} {w : nW} (N : Nat) {G : nG} (hG : n_GOK G) : n_AllS l w 5 mX12_readPut G (n_fin dv_i G) (aX12_readPut N) :=
  n_c (s_aload_n (pc := 0) (k := 0) (by decide +kernel)) <|
  n_c (s_gRc (s_getR (pc := 1) (ci := 12) (k := 38) (idx := 71) nok12 (by decide) rfl (by decide +kernel) w_1445) (gk107 hG) (gm107_38 hG)) <|
  n_c (s_iload_n (pc := 4) (k := 1) (by decide +kernel)) <|
  n_c (s_aload_n (pc := 5) (k := 0) (by decide +kernel)) <|
  n_c (s_bipush (pc := 6) (n := 18) (by decide +kernel) (by decide +kernel)) <|
  n_c (s_iconst (pc := 8) (n := 0) (by decide +kernel) (by decide +kernel)) <|
  n_c (s_sipush (pc := 9) (n := 999) (by decide +kernel) (by decide +kernel)) <|
  n_c (s_callVc (s_callV (pc := 12) (csX12_readTold N hG) (by decide) okX12_readTold nok12 w_1747 w_63 w_1745 (by decide +kernel)) (gk107 hG)) <|
  n_c (s_iastc (s_iastore (pc := 15) (by decide +kernel)) (gk127 hG) (gl127 hG)) <|
  n_c (s_aload_n (pc := 16) (k := 0) (by decide +kernel)) <|
  n_c (s_gRc (s_getR (pc := 17) (ci := 12) (k := 38) (idx := 71) nok12 (by decide) rfl (by decide +kernel) w_1445) (gk107 hG) (gm107_38 hG)) <|
  n_c (s_iload_n (pc := 20) (k := 1) (by decide +kernel)) <|
  n_c (s_aldc (s_iaload (pc := 21) (by decide +kernel)) (gk127 hG) (gl127 hG)) <|
  n_c (s_iconst (pc := 22) (n := -1) (by decide +kernel) (by decide +kernel)) <|
  n_c (s_icmp_ne (pc := 23) (off := 5) (by decide +kernel) (by decide +kernel)) <|
  n_c (s_iconst (pc := 26) (n := -1) (by decide +kernel) (by decide +kernel)) <|
  n_c (s_iret (pc := 27) rfl (by decide +kernel)) <|
  n_c (s_aload_n (pc := 28) (k := 0) (by decide +kernel)) <|
  n_c (s_gRc (s_getR (pc := 29) (ci := 12) (k := 38) (idx := 71) nok12 (by decide) rfl (by decide +kernel) w_1445) (gk107 hG) (gm107_38 hG)) <|
  n_c (s_iload_n (pc := 32) (k := 1) (by decide +kernel)) <|
  n_c (s_iconst (pc := 33) (n := 1) (by decide +kernel) (by decide +kernel)) <|
  n_c (s_iadd (pc := 34) (by decide +kernel)) <|
  n_c (s_aload_n (pc := 35) (k := 0) (by decide +kernel)) <|
  n_c (s_bipush (pc := 36) (n := 19) (by decide +kernel) (by decide +kernel)) <|
  n_c (s_iconst (pc := 38) (n := 0) (by decide +kernel) (by decide +kernel)) <|
  n_c (s_aload_n (pc := 39) (k := 0) (by decide +kernel)) <|
  n_c (s_gIc (s_getI (pc := 40) (ci := 12) (k := 7) (idx := 161) nok12 (by decide) rfl (by decide +kernel) w_1414) (gk107 hG)) <|
  n_c (s_iconst (pc := 43) (n := 1) (by decide +kernel) (by decide +kernel)) <|
  n_c (s_isub (pc := 44) (by decide +kernel)) <|
  n_c (s_callVc (s_callV (pc := 45) (csX12_readTold N hG) (by decide) okX12_readTold nok12 w_1747 w_63 w_1745 (by decide +kernel)) (gk107 hG)) <|
  n_c (s_iastc (s_iastore (pc := 48) (by decide +kernel)) (gk127 hG) (gl127 hG)) <|
  n_c (s_aload_n (pc := 49) (k := 0) (by decide +kernel)) <|
  n_c (s_gRc (s_getR (pc := 50) (ci := 12) (k := 38) (idx := 71) nok12 (by decide) rfl (by decide +kernel) w_1445) (gk107 hG) (gm107_38 hG)) <|
  n_c (s_iload_n (pc := 53) (k := 1) (by decide +kernel)) <|
  n_c (s_iconst (pc := 54) (n := 1) (by decide +kernel) (by decide +kernel)) <|
  n_c (s_iadd (pc := 55) (by decide +kernel)) <|
  n_c (s_aldc (s_iaload (pc := 56) (by decide +kernel)) (gk127 hG) (gl127 hG)) <|
  n_c (s_iconst (pc := 57) (n := -1) (by decide +kernel) (by decide +kernel)) <|
  n_c (s_icmp_ne (pc := 58) (off := 5) (by decide +kernel) (by decide +kernel)) <|
  n_c (s_iconst (pc := 61) (n := -1) (by decide +kernel) (by decide +kernel)) <|
  n_c (s_iret (pc := 62) rfl (by decide +kernel)) <|
  n_c (s_aload_n (pc := 63) (k := 0) (by decide +kernel)) <|
  n_c (s_gRc (s_getR (pc := 64) (ci := 12) (k := 38) (idx := 71) nok12 (by decide) rfl (by decide +kernel) w_1445) (gk107 hG) (gm107_38 hG)) <|
  n_c (s_iload_n (pc := 67) (k := 1) (by decide +kernel)) <|
  n_c (s_iconst (pc := 68) (n := 2) (by decide +kernel) (by decide +kernel)) <|
  n_c (s_iadd (pc := 69) (by decide +kernel)) <|
  n_c (s_aload_n (pc := 70) (k := 0) (by decide +kernel)) <|
  n_c (s_bipush (pc := 71) (n := 20) (by decide +kernel) (by decide +kernel)) <|
  n_c (s_iconst (pc := 73) (n := 0) (by decide +kernel) (by decide +kernel)) <|
  n_c (s_aload_n (pc := 74) (k := 0) (by decide +kernel)) <|
  n_c (s_gIc (s_getI (pc := 75) (ci := 12) (k := 6) (idx := 158) nok12 (by decide) rfl (by decide +kernel) w_1413) (gk107 hG)) <|
  n_c (s_iconst (pc := 78) (n := 1) (by decide +kernel) (by decide +kernel)) <|
  n_c (s_isub (pc := 79) (by decide +kernel)) <|
  n_c (s_callVc (s_callV (pc := 80) (csX12_readTold N hG) (by decide) okX12_readTold nok12 w_1747 w_63 w_1745 (by decide +kernel)) (gk107 hG)) <|
  n_c (s_iastc (s_iastore (pc := 83) (by decide +kernel)) (gk127 hG) (gl127 hG)) <|
  n_c (s_aload_n (pc := 84) (k := 0) (by decide +kernel)) <|
  n_c (s_gRc (s_getR (pc := 85) (ci := 12) (k := 38) (idx := 71) nok12 (by decide) rfl (by decide +kernel) w_1445) (gk107 hG) (gm107_38 hG)) <|
  n_c (s_iload_n (pc := 88) (k := 1) (by decide +kernel)) <|
  n_c (s_iconst (pc := 89) (n := 2) (by decide +kernel) (by decide +kernel)) <|
  n_c (s_iadd (pc := 90) (by decide +kernel)) <|
  n_c (s_aldc (s_iaload (pc := 91) (by decide +kernel)) (gk127 hG) (gl127 hG)) <|
  n_c (s_iconst (pc := 92) (n := -1) (by decide +kernel) (by decide +kernel)) <|
  n_c (s_icmp_ne (pc := 93) (off := 5) (by decide +kernel) (by decide +kernel)) <|
  n_c (s_iconst (pc := 96) (n := -1) (by decide +kernel) (by decide +kernel)) <|
  n_c (s_iret (pc := 97) rfl (by decide +kernel)) <|
  n_c (s_aload_n (pc := 98) (k := 0) (by decide +kernel)) <|
  n_c (s_gRc (s_getR (pc := 99) (ci := 12) (k := 38) (idx := 71) nok12 (by decide) rfl (by decide +kernel) w_1445) (gk107 hG) (gm107_38 hG)) <|
  n_c (s_iload_n (pc := 102) (k := 1) (by decide +kernel)) <|
  n_c (s_iconst (pc := 103) (n := 3) (by decide +kernel) (by decide +kernel)) <|
  n_c (s_iadd (pc := 104) (by decide +kernel)) <|
  n_c (s_aload_n (pc := 105) (k := 0) (by decide +kernel)) <|
  n_c (s_bipush (pc := 106) (n := 21) (by decide +kernel) (by decide +kernel)) <|
  n_c (s_iconst (pc := 108) (n := 0) (by decide +kernel) (by decide +kernel)) <|
  n_c (s_bipush (pc := 109) (n := 11) (by decide +kernel) (by decide +kernel)) <|
  n_c (s_callVc (s_callV (pc := 111) (csX12_readTold N hG) (by decide) okX12_readTold nok12 w_1747 w_63 w_1745 (by decide +kernel)) (gk107 hG)) <|
  n_c (s_iastc (s_iastore (pc := 114) (by decide +kernel)) (gk127 hG) (gl127 hG)) <|
  n_c (s_aload_n (pc := 115) (k := 0) (by decide +kernel)) <|
  n_c (s_gRc (s_getR (pc := 116) (ci := 12) (k := 38) (idx := 71) nok12 (by decide) rfl (by decide +kernel) w_1445) (gk107 hG) (gm107_38 hG)) <|
  n_c (s_iload_n (pc := 119) (k := 1) (by decide +kernel)) <|
  n_c (s_iconst (pc := 120) (n := 3) (by decide +kernel) (by decide +kernel)) <|
  n_c (s_iadd (pc := 121) (by decide +kernel)) <|
  n_c (s_aldc (s_iaload (pc := 122) (by decide +kernel)) (gk127 hG) (gl127 hG)) <|
  n_c (s_iconst (pc := 123) (n := -1) (by decide +kernel) (by decide +kernel)) <|
  n_c (s_icmp_ne (pc := 124) (off := 7) (by decide +kernel) (by decide +kernel)) <|
  n_c (s_iconst (pc := 127) (n := -1) (by decide +kernel) (by decide +kernel)) <|
  n_c (s_goto (pc := 128) (off := 9) (by decide +kernel) (by decide +kernel)) <|
  n_c (s_aload_n (pc := 131) (k := 0) (by decide +kernel)) <|
  n_c (s_bipush (pc := 132) (n := 59) (by decide +kernel) (by decide +kernel)) <|
  n_c (s_callVc (s_callV (pc := 134) (csX12_readMark N hG) (by decide) okX12_readMark nok12 w_1755 w_65 w_1753 (by decide +kernel)) (gk107 hG)) <|
  n_c (s_iret (pc := 137) rfl (by decide +kernel)) <|
  n_e
def fX12_readPut (N : Nat) (x1 : Int32) (M : nM) : Option (Int32 × nM) :=
  (fX12_readTold N (18 : Int32) (0 : Int32) (999 : Int32) M).bind fun p1 =>
  n_chk (n_ib 128 x1) <|
  let M2 : nM := n_up p1.2 127 x1.toNatClampNeg p1.1
  n_chk (n_ib 128 x1) <|
  if ¬ (M2 127 x1.toNatClampNeg) = (-1 : Int32) then
    (fX12_readTold N (19 : Int32) (0 : Int32) ((M2 107 7) - (1 : Int32)) M2).bind fun p3 =>
    n_chk (n_ib 128 (x1 + (1 : Int32))) <|
    let M4 : nM := n_up p3.2 127 (x1 + (1 : Int32)).toNatClampNeg p3.1
    n_chk (n_ib 128 (x1 + (1 : Int32))) <|
    if ¬ (M4 127 (x1 + (1 : Int32)).toNatClampNeg) = (-1 : Int32) then
      (fX12_readTold N (20 : Int32) (0 : Int32) ((M4 107 6) - (1 : Int32)) M4).bind fun p5 =>
      n_chk (n_ib 128 (x1 + (2 : Int32))) <|
      let M6 : nM := n_up p5.2 127 (x1 + (2 : Int32)).toNatClampNeg p5.1
      n_chk (n_ib 128 (x1 + (2 : Int32))) <|
      if ¬ (M6 127 (x1 + (2 : Int32)).toNatClampNeg) = (-1 : Int32) then
        (fX12_readTold N (21 : Int32) (0 : Int32) (11 : Int32) M6).bind fun p7 =>
        n_chk (n_ib 128 (x1 + (3 : Int32))) <|
        let M8 : nM := n_up p7.2 127 (x1 + (3 : Int32)).toNatClampNeg p7.1
        n_chk (n_ib 128 (x1 + (3 : Int32))) <|
        if ¬ (M8 127 (x1 + (3 : Int32)).toNatClampNeg) = (-1 : Int32) then
          (fX12_readMark N (59 : Int32) M8).bind fun p9 =>
          some (p9.1, p9.2)
        else
          some ((-1 : Int32), M8)
      else
        some ((-1 : Int32), M6)
    else
      some ((-1 : Int32), M4)
  else
    some ((-1 : Int32), M2)
set_option maxRecDepth 200000 in
theorem bX12_readPut_0 {l : Launch} {w : nW} (N : Nat) {G : nG} (hG : n_GOK G) (x1 : Int32) (M : nM) (r : Int32 × nM) (h : fX12_readPut N x1 M = some r) : n_At l w 5 mX12_readPut 0 [(0, .ref 107), (1, .int x1)] [] (G, M) (dv_i r.1, (G, r.2)) :=
  n_seg (fin := n_fin dv_i G) (K := []) 94 (iX12_readPut N hG) n_ke (by rfl) h
theorem eX12_readPut {l : Launch} {w : nW} (N : Nat) {G : nG} (hG : n_GOK G) (z1 : Int32) (M : nM) (r : Int32 × nM) (h : fX12_readPut N z1 M = some r) : n_Met l w 5 mX12_readPut [.ref 107, .int z1] (G, M) (dv_i r.1, (G, r.2)) :=
  n_entry (by decide +kernel) rfl (Nat.le_of_ble_eq_true rfl) (n_sub (lv := [(0, .ref 107), (1, .int z1)]) (n_qc rfl (n_qc rfl n_qe)) (bX12_readPut_0 N hG z1 M r h))
abbrev hX12_readPut (N : Nat) : nF := fun T as M k => n_pC 107 as (fun as => n_pI as (fun z1 as => n_pE as ((fX12_readPut N z1 M).bind fun p => k (dv_i p.1) p.2)))
theorem csX12_readPut {l : Launch} {w : nW} (N : Nat) {G : nG} (hG : n_GOK G) : n_CS l w 5 mX12_readPut G (hX12_readPut N) := fun T as M k r h => by
  obtain ⟨t0, rfl, h1⟩ := n_pC_x h
  obtain ⟨z1, t1, rfl, h2⟩ := n_pI_x h1
  obtain ⟨rfl, hE⟩ := n_pE_x h2
  obtain ⟨p, hp, hk⟩ := Option.bind_eq_some_iff.mp hE
  exact ⟨_, _, eX12_readPut N hG z1 M p hp, hk⟩
/-! ===== SleightHouseModel.readSupper()I ===== -/
def mX12_readSupper : nY := (RX12, yX12_readSupper, cX12_readSupper, 2, some .int)
theorem okX12_readSupper : n_MOK mX12_readSupper 0 := ⟨w_1732, w_151, ⟨by decide +kernel, by decide +kernel, by decide +kernel⟩, by decide⟩
abbrev aX12_readSupper (N : Nat) : List (Nat × nO (Int32 × nM)) := [(0, o_push (.int (0 : Int32)) 1), (1, o_istore 2 1 2), (2, o_aload 0 3), (3, o_push (.int (18 : Int32)) 5), (5, o_callVc 107 1 (hX12_isWord) 8), (8, oi_eq 46 11), (11, o_iload 1 12), (12, o_push (.int (16 : Int32)) 14), (14, oc_ne 23 17), (17, o_aload 0 18), (18, o_push (.int (3 : Int32)) 19), (19, o_callVc 107 1 (hX12_errs) 22), (22, o_iret), (23, o_aload 0 24), (24, o_push (.int (64 : Int32)) 26), (26, o_push (.int (4 : Int32)) 27), (27, o_iload 1 28), (28, o_imul 29), (29, o_iadd 30), (30, o_callVc 107 1 (hX12_readPut N) 33), (33, o_push (.int (-1 : Int32)) 34), (34, oc_ne 39 37), (37, o_push (.int (-1 : Int32)) 38), (38, o_iret), (39, o_iload 1 40), (40, o_push (.int (1 : Int32)) 41), (41, o_iadd 42), (42, o_istore 2 1 43), (43, o_goto 2), (46, o_aload 0 47), (47, o_gIc 107 18 50), (50, oi_ne 57 53), (53, o_iload 1 54), (54, o_goto 62), (57, o_aload 0 58), (58, o_push (.int (1 : Int32)) 59), (59, o_callVc 107 1 (hX12_errs) 62), (62, o_iret)]
set_option maxRecDepth 200000 in
theorem iX12_readSupper {l : Launch} {w : nW} (N : Nat) {G : nG} (hG : n_GOK G) : n_AllS l w 6 mX12_readSupper G (n_fin dv_i G) (aX12_readSupper N) :=
  n_c (s_iconst (pc := 0) (n := 0) (by decide +kernel) (by decide +kernel)) <|
  n_c (s_istore_n (pc := 1) (k := 1) (by decide +kernel)) <|
  n_c (s_aload_n (pc := 2) (k := 0) (by decide +kernel)) <|
  n_c (s_bipush (pc := 3) (n := 18) (by decide +kernel) (by decide +kernel)) <|
  n_c (s_callVc (s_callV (pc := 5) (csX12_isWord hG) (by decide) okX12_isWord nok12 w_1735 w_60 w_1733 (by decide +kernel)) (gk107 hG)) <|
  n_c (s_if_eq (pc := 8) (off := 38) (by decide +kernel) (by decide +kernel)) <|
  n_c (s_iload_n (pc := 11) (k := 1) (by decide +kernel)) <|
  n_c (s_bipush (pc := 12) (n := 16) (by decide +kernel) (by decide +kernel)) <|
  n_c (s_icmp_ne (pc := 14) (off := 9) (by decide +kernel) (by decide +kernel)) <|
  n_c (s_aload_n (pc := 17) (k := 0) (by decide +kernel)) <|
  n_c (s_iconst (pc := 18) (n := 3) (by decide +kernel) (by decide +kernel)) <|
  n_c (s_callVc (s_callV (pc := 19) (csX12_errs hG) (by decide) okX12_errs nok12 w_1739 w_61 w_1737 (by decide +kernel)) (gk107 hG)) <|
  n_c (s_iret (pc := 22) rfl (by decide +kernel)) <|
  n_c (s_aload_n (pc := 23) (k := 0) (by decide +kernel)) <|
  n_c (s_bipush (pc := 24) (n := 64) (by decide +kernel) (by decide +kernel)) <|
  n_c (s_iconst (pc := 26) (n := 4) (by decide +kernel) (by decide +kernel)) <|
  n_c (s_iload_n (pc := 27) (k := 1) (by decide +kernel)) <|
  n_c (s_imul (pc := 28) (by decide +kernel)) <|
  n_c (s_iadd (pc := 29) (by decide +kernel)) <|
  n_c (s_callVc (s_callV (pc := 30) (csX12_readPut N hG) (by decide) okX12_readPut nok12 w_1743 w_62 w_1741 (by decide +kernel)) (gk107 hG)) <|
  n_c (s_iconst (pc := 33) (n := -1) (by decide +kernel) (by decide +kernel)) <|
  n_c (s_icmp_ne (pc := 34) (off := 5) (by decide +kernel) (by decide +kernel)) <|
  n_c (s_iconst (pc := 37) (n := -1) (by decide +kernel) (by decide +kernel)) <|
  n_c (s_iret (pc := 38) rfl (by decide +kernel)) <|
  n_c (s_iload_n (pc := 39) (k := 1) (by decide +kernel)) <|
  n_c (s_iconst (pc := 40) (n := 1) (by decide +kernel) (by decide +kernel)) <|
  n_c (s_iadd (pc := 41) (by decide +kernel)) <|
  n_c (s_istore_n (pc := 42) (k := 1) (by decide +kernel)) <|
  n_c (s_goto (pc := 43) (off := -41) (by decide +kernel) (by decide +kernel)) <|
  n_c (s_aload_n (pc := 46) (k := 0) (by decide +kernel)) <|
  n_c (s_gIc (s_getI (pc := 47) (ci := 12) (k := 18) (idx := 204) nok12 (by decide) rfl (by decide +kernel) w_1425) (gk107 hG)) <|
  n_c (s_if_ne (pc := 50) (off := 7) (by decide +kernel) (by decide +kernel)) <|
  n_c (s_iload_n (pc := 53) (k := 1) (by decide +kernel)) <|
  n_c (s_goto (pc := 54) (off := 8) (by decide +kernel) (by decide +kernel)) <|
  n_c (s_aload_n (pc := 57) (k := 0) (by decide +kernel)) <|
  n_c (s_iconst (pc := 58) (n := 1) (by decide +kernel) (by decide +kernel)) <|
  n_c (s_callVc (s_callV (pc := 59) (csX12_errs hG) (by decide) okX12_errs nok12 w_1739 w_61 w_1737 (by decide +kernel)) (gk107 hG)) <|
  n_c (s_iret (pc := 62) rfl (by decide +kernel)) <|
  n_e
def fX12_readSupper_2 (N : Nat) : Nat → Int32 → nM → Option (Int32 × nM)
  | 0, _, _ => none
  | n + 1, x1, M =>
    (fX12_isWord (18 : Int32) M).bind fun p1 =>
    if p1.1 = 0 then
      if ¬ (p1.2 107 18) = 0 then
        (fX12_errs (1 : Int32) p1.2).bind fun p2 =>
        some (p2.1, p2.2)
      else
        some (x1, p1.2)
    else
      if ¬ x1 = (16 : Int32) then
        (fX12_readPut N ((64 : Int32) + ((4 : Int32) * x1)) p1.2).bind fun p3 =>
        if ¬ p3.1 = (-1 : Int32) then
          let v4 : Int32 := (x1 + (1 : Int32))
          fX12_readSupper_2 N n v4 p3.2
        else
          some ((-1 : Int32), p3.2)
      else
        (fX12_errs (3 : Int32) p1.2).bind fun p5 =>
        some (p5.1, p5.2)
set_option maxRecDepth 200000 in
theorem bX12_readSupper_2 {l : Launch} {w : nW} (N : Nat) {G : nG} (hG : n_GOK G) : ∀ (n : Nat) (x1 : Int32) (M : nM) (r : Int32 × nM), fX12_readSupper_2 N n x1 M = some r → n_At l w 6 mX12_readSupper 2 [(0, .ref 107), (1, .int x1)] [] (G, M) (dv_i r.1, (G, r.2)) := by
  intro n
  induction n with
  | zero => intro x1 M r h; cases (show (none : Option (Int32 × nM)) = some r from h)
  | succ n ih =>
    intro x1 M r h
    exact n_seg (fin := n_fin dv_i G) (K := [(2, fun lv st M => n_lC 107 lv 0 (n_lI lv 1 (fun x1 => n_pE st (fX12_readSupper_2 N n x1 M))))]) 40 (iX12_readSupper N hG) (n_kc (fun lv st M r h => by
      obtain ⟨e0, h1⟩ := n_lC_x h
      obtain ⟨x1, e1, h2⟩ := n_lI_x h1
      obtain ⟨rfl, h3⟩ := n_pE_x h2
      exact n_sub (n_qc e0 (n_qc e1 n_qe)) (ih x1 M r h3)) n_ke) (by rfl) h
def fX12_readSupper (N : Nat) (M : nM) : Option (Int32 × nM) :=
  fX12_readSupper_2 N N (0 : Int32) M
set_option maxRecDepth 200000 in
theorem bX12_readSupper_0 {l : Launch} {w : nW} (N : Nat) {G : nG} (hG : n_GOK G) (M : nM) (r : Int32 × nM) (h : fX12_readSupper N M = some r) : n_At l w 6 mX12_readSupper 0 [(0, .ref 107)] [] (G, M) (dv_i r.1, (G, r.2)) :=
  n_seg (fin := n_fin dv_i G) (K := [(2, fun lv st M => n_lC 107 lv 0 (n_lI lv 1 (fun x1 => n_pE st (fX12_readSupper_2 N N x1 M))))]) 5 (iX12_readSupper N hG) (n_kc (fun lv st M r h => by
      obtain ⟨e0, h1⟩ := n_lC_x h
      obtain ⟨x1, e1, h2⟩ := n_lI_x h1
      obtain ⟨rfl, h3⟩ := n_pE_x h2
      exact n_sub (n_qc e0 (n_qc e1 n_qe)) (bX12_readSupper_2 N hG N x1 M r h3)) n_ke) (by rfl) h
theorem eX12_readSupper {l : Launch} {w : nW} (N : Nat) {G : nG} (hG : n_GOK G) (M : nM) (r : Int32 × nM) (h : fX12_readSupper N M = some r) : n_Met l w 6 mX12_readSupper [.ref 107] (G, M) (dv_i r.1, (G, r.2)) :=
  n_entry (by decide +kernel) rfl (Nat.le_of_ble_eq_true rfl) (n_sub (lv := [(0, .ref 107)]) (n_qc rfl n_qe) (bX12_readSupper_0 N hG M r h))
abbrev hX12_readSupper (N : Nat) : nF := fun T as M k => n_pC 107 as (fun as => n_pE as ((fX12_readSupper N M).bind fun p => k (dv_i p.1) p.2))
theorem csX12_readSupper {l : Launch} {w : nW} (N : Nat) {G : nG} (hG : n_GOK G) : n_CS l w 6 mX12_readSupper G (hX12_readSupper N) := fun T as M k r h => by
  obtain ⟨t0, rfl, h1⟩ := n_pC_x h
  obtain ⟨rfl, hE⟩ := n_pE_x h1
  obtain ⟨p, hp, hk⟩ := Option.bind_eq_some_iff.mp hE
  exact ⟨_, _, eX12_readSupper N hG M p hp, hk⟩
/-! ===== SleightHouseModel.kindOfDeed()I ===== -/
def mX12_kindOfDeed : nY := (RX12, yX12_kindOfDeed, cX12_kindOfDeed, 1, some .int)
theorem okX12_kindOfDeed : n_MOK mX12_kindOfDeed 0 := ⟨w_1772, w_151, ⟨by decide +kernel, by decide +kernel, by decide +kernel⟩, by decide⟩
abbrev aX12_kindOfDeed : List (Nat × nO (Int32 × nM)) := [(0, o_aload 0 1), (1, o_push (.int (22 : Int32)) 3), (3, o_callVc 107 1 (hX12_isWord) 6), (6, oi_eq 11 9), (9, o_push (.int (0 : Int32)) 10), (10, o_iret), (11, o_aload 0 12), (12, o_push (.int (23 : Int32)) 14), (14, o_callVc 107 1 (hX12_isWord) 17), (17, oi_eq 22 20), (20, o_push (.int (1 : Int32)) 21), (21, o_iret), (22, o_aload 0 23), (23, o_push (.int (13 : Int32)) 25), (25, o_callVc 107 1 (hX12_isWord) 28), (28, oi_eq 35 31), (31, o_push (.int (2 : Int32)) 32), (32, o_goto 62), (35, o_aload 0 36), (36, o_push (.int (24 : Int32)) 38), (38, o_callVc 107 1 (hX12_isWord) 41), (41, oi_eq 48 44), (44, o_push (.int (3 : Int32)) 45), (45, o_goto 62), (48, o_aload 0 49), (49, o_push (.int (25 : Int32)) 51), (51, o_callVc 107 1 (hX12_isWord) 54), (54, oi_eq 61 57), (57, o_push (.int (4 : Int32)) 58), (58, o_goto 62), (61, o_push (.int (-1 : Int32)) 62), (62, o_iret)]
set_option maxRecDepth 200000 in
theorem iX12_kindOfDeed {l : Launch} {w : nW} {G : nG} (hG : n_GOK G) : n_AllS l w 1 mX12_kindOfDeed G (n_fin dv_i G) (aX12_kindOfDeed) :=
  n_c (s_aload_n (pc := 0) (k := 0) (by decide +kernel)) <|
  n_c (s_bipush (pc := 1) (n := 22) (by decide +kernel) (by decide +kernel)) <|
  n_c (s_callVc (s_callV (pc := 3) (csX12_isWord hG) (by decide) okX12_isWord nok12 w_1735 w_60 w_1733 (by decide +kernel)) (gk107 hG)) <|
  n_c (s_if_eq (pc := 6) (off := 5) (by decide +kernel) (by decide +kernel)) <|
  n_c (s_iconst (pc := 9) (n := 0) (by decide +kernel) (by decide +kernel)) <|
  n_c (s_iret (pc := 10) rfl (by decide +kernel)) <|
  n_c (s_aload_n (pc := 11) (k := 0) (by decide +kernel)) <|
  n_c (s_bipush (pc := 12) (n := 23) (by decide +kernel) (by decide +kernel)) <|
  n_c (s_callVc (s_callV (pc := 14) (csX12_isWord hG) (by decide) okX12_isWord nok12 w_1735 w_60 w_1733 (by decide +kernel)) (gk107 hG)) <|
  n_c (s_if_eq (pc := 17) (off := 5) (by decide +kernel) (by decide +kernel)) <|
  n_c (s_iconst (pc := 20) (n := 1) (by decide +kernel) (by decide +kernel)) <|
  n_c (s_iret (pc := 21) rfl (by decide +kernel)) <|
  n_c (s_aload_n (pc := 22) (k := 0) (by decide +kernel)) <|
  n_c (s_bipush (pc := 23) (n := 13) (by decide +kernel) (by decide +kernel)) <|
  n_c (s_callVc (s_callV (pc := 25) (csX12_isWord hG) (by decide) okX12_isWord nok12 w_1735 w_60 w_1733 (by decide +kernel)) (gk107 hG)) <|
  n_c (s_if_eq (pc := 28) (off := 7) (by decide +kernel) (by decide +kernel)) <|
  n_c (s_iconst (pc := 31) (n := 2) (by decide +kernel) (by decide +kernel)) <|
  n_c (s_goto (pc := 32) (off := 30) (by decide +kernel) (by decide +kernel)) <|
  n_c (s_aload_n (pc := 35) (k := 0) (by decide +kernel)) <|
  n_c (s_bipush (pc := 36) (n := 24) (by decide +kernel) (by decide +kernel)) <|
  n_c (s_callVc (s_callV (pc := 38) (csX12_isWord hG) (by decide) okX12_isWord nok12 w_1735 w_60 w_1733 (by decide +kernel)) (gk107 hG)) <|
  n_c (s_if_eq (pc := 41) (off := 7) (by decide +kernel) (by decide +kernel)) <|
  n_c (s_iconst (pc := 44) (n := 3) (by decide +kernel) (by decide +kernel)) <|
  n_c (s_goto (pc := 45) (off := 17) (by decide +kernel) (by decide +kernel)) <|
  n_c (s_aload_n (pc := 48) (k := 0) (by decide +kernel)) <|
  n_c (s_bipush (pc := 49) (n := 25) (by decide +kernel) (by decide +kernel)) <|
  n_c (s_callVc (s_callV (pc := 51) (csX12_isWord hG) (by decide) okX12_isWord nok12 w_1735 w_60 w_1733 (by decide +kernel)) (gk107 hG)) <|
  n_c (s_if_eq (pc := 54) (off := 7) (by decide +kernel) (by decide +kernel)) <|
  n_c (s_iconst (pc := 57) (n := 4) (by decide +kernel) (by decide +kernel)) <|
  n_c (s_goto (pc := 58) (off := 4) (by decide +kernel) (by decide +kernel)) <|
  n_c (s_iconst (pc := 61) (n := -1) (by decide +kernel) (by decide +kernel)) <|
  n_c (s_iret (pc := 62) rfl (by decide +kernel)) <|
  n_e
def fX12_kindOfDeed (M : nM) : Option (Int32 × nM) :=
  (fX12_isWord (22 : Int32) M).bind fun p1 =>
  if p1.1 = 0 then
    (fX12_isWord (23 : Int32) p1.2).bind fun p2 =>
    if p2.1 = 0 then
      (fX12_isWord (13 : Int32) p2.2).bind fun p3 =>
      if p3.1 = 0 then
        (fX12_isWord (24 : Int32) p3.2).bind fun p4 =>
        if p4.1 = 0 then
          (fX12_isWord (25 : Int32) p4.2).bind fun p5 =>
          if p5.1 = 0 then
            some ((-1 : Int32), p5.2)
          else
            some ((4 : Int32), p5.2)
        else
          some ((3 : Int32), p4.2)
      else
        some ((2 : Int32), p3.2)
    else
      some ((1 : Int32), p2.2)
  else
    some ((0 : Int32), p1.2)
set_option maxRecDepth 200000 in
theorem bX12_kindOfDeed_0 {l : Launch} {w : nW} {G : nG} (hG : n_GOK G) (M : nM) (r : Int32 × nM) (h : fX12_kindOfDeed M = some r) : n_At l w 1 mX12_kindOfDeed 0 [(0, .ref 107)] [] (G, M) (dv_i r.1, (G, r.2)) :=
  n_seg (fin := n_fin dv_i G) (K := []) 38 (iX12_kindOfDeed hG) n_ke (by rfl) h
theorem eX12_kindOfDeed {l : Launch} {w : nW} {G : nG} (hG : n_GOK G) (M : nM) (r : Int32 × nM) (h : fX12_kindOfDeed M = some r) : n_Met l w 1 mX12_kindOfDeed [.ref 107] (G, M) (dv_i r.1, (G, r.2)) :=
  n_entry (by decide +kernel) rfl (Nat.le_of_ble_eq_true rfl) (n_sub (lv := [(0, .ref 107)]) (n_qc rfl n_qe) (bX12_kindOfDeed_0 hG M r h))
abbrev hX12_kindOfDeed : nF := fun T as M k => n_pC 107 as (fun as => n_pE as ((fX12_kindOfDeed M).bind fun p => k (dv_i p.1) p.2))
theorem csX12_kindOfDeed {l : Launch} {w : nW} {G : nG} (hG : n_GOK G) : n_CS l w 1 mX12_kindOfDeed G (hX12_kindOfDeed) := fun T as M k r h => by
  obtain ⟨t0, rfl, h1⟩ := n_pC_x h
  obtain ⟨rfl, hE⟩ := n_pE_x h1
  obtain ⟨p, hp, hk⟩ := Option.bind_eq_some_iff.mp hE
  exact ⟨_, _, eX12_kindOfDeed hG M p hp, hk⟩
