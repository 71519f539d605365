/-! ===== SleightHouseModel.set(III)Z ===== -/
def mX12_set : nY := (RX12, yX12_set, cX12_set, 4, some .boolean)
theorem okX12_set : n_MOK mX12_set 3 := ⟨w_1672, w_151, ⟨by decide +kernel, by decide +kernel, by decide +kernel⟩, by decide⟩
abbrev aX12_set : List (Nat × nO (Int32 × nM)) := [(0, o_aload 0 1), (1, o_push (.int (0 : Int32)) 2), (2, o_pIc 107 0 5), (5, o_aload 0 6), (6, o_iload 1 7), (7, o_iload 2 8), (8, o_iload 3 9), (9, o_callVc 107 3 (hX12_canSet) 12), (12, oi_ne 17 15), (15, o_push (.int (0 : Int32)) 16), (16, o_zret), (17, o_iload 1 18), (18, oi_ne 31 21), (21, o_aload 0 22), (22, o_gRc 107 111 25), (25, o_iload 2 26), (26, o_iload 3 27), (27, o_push (.int (9 : Int32)) 29), (29, o_isub 30), (30, o_iastc 111 12 31), (31, o_iload 1 32), (32, o_push (.int (1 : Int32)) 33), (33, oc_ne 43 36), (36, o_aload 0 37), (37, o_gRc 107 112 40), (40, o_iload 2 41), (41, o_iload 3 42), (42, o_iastc 112 16 43), (43, o_iload 1 44), (44, o_push (.int (2 : Int32)) 45), (45, oc_ne 55 48), (48, o_aload 0 49), (49, o_gRc 107 113 52), (52, o_iload 2 53), (53, o_iload 3 54), (54, o_iastc 113 16 55), (55, o_iload 1 56), (56, o_push (.int (3 : Int32)) 57), (57, oc_ne 70 60), (60, o_aload 0 61), (61, o_gRc 107 108 64), (64, o_push (.int (60 : Int32)) 66), (66, o_iload 2 67), (67, o_iadd 68), (68, o_iload 3 69), (69, o_iastc 108 100 70), (70, o_iload 1 71), (71, o_push (.int (4 : Int32)) 72), (72, oc_ne 82 75), (75, o_aload 0 76), (76, o_gRc 107 114 79), (79, o_iload 2 80), (80, o_iload 3 81), (81, o_iastc 114 12 82), (82, o_iload 1 83), (83, o_push (.int (5 : Int32)) 84), (84, oc_ne 94 87), (87, o_aload 0 88), (88, o_gRc 107 115 91), (91, o_iload 2 92), (92, o_iload 3 93), (93, o_iastc 115 12 94), (94, o_aload 0 95), (95, o_push (.int (0 : Int32)) 96), (96, o_pIc 107 3 99), (99, o_push (.int (1 : Int32)) 100), (100, o_zret)]
set_option maxRecDepth 200000 in
theorem iX12_set {l : Launch} {w : nW} {G : nG} (hG : n_GOK G) : n_AllS l w 2 mX12_set G (n_fin dv_i G) (aX12_set) :=
  n_c (s_aload_n (pc := 0) (k := 0) (by decide +kernel)) <|
  n_c (s_iconst (pc := 1) (n := 0) (by decide +kernel) (by decide +kernel)) <|
  n_c (s_pIc (s_putI (pc := 2) (ci := 12) (k := 0) (idx := 146) nok12 (by decide) rfl rfl (by decide +kernel) w_1407) (gk107 hG)) <|
  n_c (s_aload_n (pc := 5) (k := 0) (by decide +kernel)) <|
  n_c (s_iload_n (pc := 6) (k := 1) (by decide +kernel)) <|
  n_c (s_iload_n (pc := 7) (k := 2) (by decide +kernel)) <|
  n_c (s_iload_n (pc := 8) (k := 3) (by decide +kernel)) <|
  n_c (s_callVc (s_callV (pc := 9) (csX12_canSet hG) (by decide) okX12_canSet nok12 w_1675 w_48 w_1673 (by decide +kernel)) (gk107 hG)) <|
  n_c (s_if_ne (pc := 12) (off := 5) (by decide +kernel) (by decide +kernel)) <|
  n_c (s_iconst (pc := 15) (n := 0) (by decide +kernel) (by decide +kernel)) <|
  n_c (s_zret (pc := 16) rfl (by decide +kernel)) <|
  n_c (s_iload_n (pc := 17) (k := 1) (by decide +kernel)) <|
  n_c (s_if_ne (pc := 18) (off := 13) (by decide +kernel) (by decide +kernel)) <|
  n_c (s_aload_n (pc := 21) (k := 0) (by decide +kernel)) <|
  n_c (s_gRc (s_getR (pc := 22) (ci := 12) (k := 8) (idx := 19) nok12 (by decide) rfl (by decide +kernel) w_1415) (gk107 hG) (gm107_8 hG)) <|
  n_c (s_iload_n (pc := 25) (k := 2) (by decide +kernel)) <|
  n_c (s_iload_n (pc := 26) (k := 3) (by decide +kernel)) <|
  n_c (s_bipush (pc := 27) (n := 9) (by decide +kernel) (by decide +kernel)) <|
  n_c (s_isub (pc := 29) (by decide +kernel)) <|
  n_c (s_iastc (s_iastore (pc := 30) (by decide +kernel)) (gk111 hG) (gl111 hG)) <|
  n_c (s_iload_n (pc := 31) (k := 1) (by decide +kernel)) <|
  n_c (s_iconst (pc := 32) (n := 1) (by decide +kernel) (by decide +kernel)) <|
  n_c (s_icmp_ne (pc := 33) (off := 10) (by decide +kernel) (by decide +kernel)) <|
  n_c (s_aload_n (pc := 36) (k := 0) (by decide +kernel)) <|
  n_c (s_gRc (s_getR (pc := 37) (ci := 12) (k := 9) (idx := 22) nok12 (by decide) rfl (by decide +kernel) w_1416) (gk107 hG) (gm107_9 hG)) <|
  n_c (s_iload_n (pc := 40) (k := 2) (by decide +kernel)) <|
  n_c (s_iload_n (pc := 41) (k := 3) (by decide +kernel)) <|
  n_c (s_iastc (s_iastore (pc := 42) (by decide +kernel)) (gk112 hG) (gl112 hG)) <|
  n_c (s_iload_n (pc := 43) (k := 1) (by decide +kernel)) <|
  n_c (s_iconst (pc := 44) (n := 2) (by decide +kernel) (by decide +kernel)) <|
  n_c (s_icmp_ne (pc := 45) (off := 10) (by decide +kernel) (by decide +kernel)) <|
  n_c (s_aload_n (pc := 48) (k := 0) (by decide +kernel)) <|
  n_c (s_gRc (s_getR (pc := 49) (ci := 12) (k := 10) (idx := 25) nok12 (by decide) rfl (by decide +kernel) w_1417) (gk107 hG) (gm107_10 hG)) <|
  n_c (s_iload_n (pc := 52) (k := 2) (by decide +kernel)) <|
  n_c (s_iload_n (pc := 53) (k := 3) (by decide +kernel)) <|
  n_c (s_iastc (s_iastore (pc := 54) (by decide +kernel)) (gk113 hG) (gl113 hG)) <|
  n_c (s_iload_n (pc := 55) (k := 1) (by decide +kernel)) <|
  n_c (s_iconst (pc := 56) (n := 3) (by decide +kernel) (by decide +kernel)) <|
  n_c (s_icmp_ne (pc := 57) (off := 13) (by decide +kernel) (by decide +kernel)) <|
  n_c (s_aload_n (pc := 60) (k := 0) (by decide +kernel)) <|
  n_c (s_gRc (s_getR (pc := 61) (ci := 12) (k := 1) (idx := 7) nok12 (by decide) rfl (by decide +kernel) w_1408) (gk107 hG) (gm107_1 hG)) <|
  n_c (s_bipush (pc := 64) (n := 60) (by decide +kernel) (by decide +kernel)) <|
  n_c (s_iload_n (pc := 66) (k := 2) (by decide +kernel)) <|
  n_c (s_iadd (pc := 67) (by decide +kernel)) <|
  n_c (s_iload_n (pc := 68) (k := 3) (by decide +kernel)) <|
  n_c (s_iastc (s_iastore (pc := 69) (by decide +kernel)) (gk108 hG) (gl108 hG)) <|
  n_c (s_iload_n (pc := 70) (k := 1) (by decide +kernel)) <|
  n_c (s_iconst (pc := 71) (n := 4) (by decide +kernel) (by decide +kernel)) <|
  n_c (s_icmp_ne (pc := 72) (off := 10) (by decide +kernel) (by decide +kernel)) <|
  n_c (s_aload_n (pc := 75) (k := 0) (by decide +kernel)) <|
  n_c (s_gRc (s_getR (pc := 76) (ci := 12) (k := 11) (idx := 28) nok12 (by decide) rfl (by decide +kernel) w_1418) (gk107 hG) (gm107_11 hG)) <|
  n_c (s_iload_n (pc := 79) (k := 2) (by decide +kernel)) <|
  n_c (s_iload_n (pc := 80) (k := 3) (by decide +kernel)) <|
  n_c (s_iastc (s_iastore (pc := 81) (by decide +kernel)) (gk114 hG) (gl114 hG)) <|
  n_c (s_iload_n (pc := 82) (k := 1) (by decide +kernel)) <|
  n_c (s_iconst (pc := 83) (n := 5) (by decide +kernel) (by decide +kernel)) <|
  n_c (s_icmp_ne (pc := 84) (off := 10) (by decide +kernel) (by decide +kernel)) <|
  n_c (s_aload_n (pc := 87) (k := 0) (by decide +kernel)) <|
  n_c (s_gRc (s_getR (pc := 88) (ci := 12) (k := 12) (idx := 31) nok12 (by decide) rfl (by decide +kernel) w_1419) (gk107 hG) (gm107_12 hG)) <|
  n_c (s_iload_n (pc := 91) (k := 2) (by decide +kernel)) <|
  n_c (s_iload_n (pc := 92) (k := 3) (by decide +kernel)) <|
  n_c (s_iastc (s_iastore (pc := 93) (by decide +kernel)) (gk115 hG) (gl115 hG)) <|
  n_c (s_aload_n (pc := 94) (k := 0) (by decide +kernel)) <|
  n_c (s_iconst (pc := 95) (n := 0) (by decide +kernel) (by decide +kernel)) <|
  n_c (s_pIc (s_putI (pc := 96) (ci := 12) (k := 3) (idx := 149) nok12 (by decide) rfl rfl (by decide +kernel) w_1410) (gk107 hG)) <|
  n_c (s_iconst (pc := 99) (n := 1) (by decide +kernel) (by decide +kernel)) <|
  n_c (s_zret (pc := 100) rfl (by decide +kernel)) <|
  n_e
def fX12_set_82 (x1 : Int32) (x2 : Int32) (x3 : Int32) (M : nM) : Option (Int32 × nM) :=
  if ¬ x1 = (5 : Int32) then
    let M1 : nM := n_up M 107 3 (0 : Int32)
    some ((1 : Int32), M1)
  else
    n_chk (n_ib 12 x2) <|
    let M2 : nM := n_up M 115 x2.toNatClampNeg x3
    let M3 : nM := n_up M2 107 3 (0 : Int32)
    some ((1 : Int32), M3)
set_option maxRecDepth 200000 in
theorem bX12_set_82 {l : Launch} {w : nW} {G : nG} (hG : n_GOK G) (x1 : Int32) (x2 : Int32) (x3 : Int32) (M : nM) (r : Int32 × nM) (h : fX12_set_82 x1 x2 x3 M = some r) : n_At l w 2 mX12_set 82 [(0, .ref 107), (1, .int x1), (2, .int x2), (3, .int x3)] [] (G, M) (dv_i r.1, (G, r.2)) :=
  n_seg (fin := n_fin dv_i G) (K := []) 21 (iX12_set hG) n_ke (by rfl) h
def fX12_set_70 (x1 : Int32) (x2 : Int32) (x3 : Int32) (M : nM) : Option (Int32 × nM) :=
  if ¬ x1 = (4 : Int32) then
    fX12_set_82 x1 x2 x3 M
  else
    n_chk (n_ib 12 x2) <|
    let M1 : nM := n_up M 114 x2.toNatClampNeg x3
    fX12_set_82 x1 x2 x3 M1
set_option maxRecDepth 200000 in
theorem bX12_set_70 {l : Launch} {w : nW} {G : nG} (hG : n_GOK G) (x1 : Int32) (x2 : Int32) (x3 : Int32) (M : nM) (r : Int32 × nM) (h : fX12_set_70 x1 x2 x3 M = some r) : n_At l w 2 mX12_set 70 [(0, .ref 107), (1, .int x1), (2, .int x2), (3, .int x3)] [] (G, M) (dv_i r.1, (G, r.2)) :=
  n_seg (fin := n_fin dv_i G) (K := [(82, fun lv st M => n_lC 107 lv 0 (n_lI lv 1 (fun x1 => n_lI lv 2 (fun x2 => n_lI lv 3 (fun x3 => n_pE st (fX12_set_82 x1 x2 x3 M))))))]) 11 (iX12_set hG) (n_kc (fun lv st M r h => by
      obtain ⟨e0, h1⟩ := n_lC_x h
      obtain ⟨x1, e1, h2⟩ := n_lI_x h1
      obtain ⟨x2, e2, h3⟩ := n_lI_x h2
      obtain ⟨x3, e3, h4⟩ := n_lI_x h3
      obtain ⟨rfl, h5⟩ := n_pE_x h4
      exact n_sub (n_qc e0 (n_qc e1 (n_qc e2 (n_qc e3 n_qe)))) (bX12_set_82 hG x1 x2 x3 M r h5)) n_ke) (by rfl) h
def fX12_set_55 (x1 : Int32) (x2 : Int32) (x3 : Int32) (M : nM) : Option (Int32 × nM) :=
  if ¬ x1 = (3 : Int32) then
    fX12_set_70 x1 x2 x3 M
  else
    n_chk (n_ib 100 ((60 : Int32) + x2)) <|
    let M1 : nM := n_up M 108 ((60 : Int32) + x2).toNatClampNeg x3
    fX12_set_70 x1 x2 x3 M1
set_option maxRecDepth 200000 in
theorem bX12_set_55 {l : Launch} {w : nW} {G : nG} (hG : n_GOK G) (x1 : Int32) (x2 : Int32) (x3 : Int32) (M : nM) (r : Int32 × nM) (h : fX12_set_55 x1 x2 x3 M = some r) : n_At l w 2 mX12_set 55 [(0, .ref 107), (1, .int x1), (2, .int x2), (3, .int x3)] [] (G, M) (dv_i r.1, (G, r.2)) :=
  n_seg (fin := n_fin dv_i G) (K := [(70, fun lv st M => n_lC 107 lv 0 (n_lI lv 1 (fun x1 => n_lI lv 2 (fun x2 => n_lI lv 3 (fun x3 => n_pE st (fX12_set_70 x1 x2 x3 M))))))]) 13 (iX12_set hG) (n_kc (fun lv st M r h => by
      obtain ⟨e0, h1⟩ := n_lC_x h
      obtain ⟨x1, e1, h2⟩ := n_lI_x h1
      obtain ⟨x2, e2, h3⟩ := n_lI_x h2
      obtain ⟨x3, e3, h4⟩ := n_lI_x h3
      obtain ⟨rfl, h5⟩ := n_pE_x h4
      exact n_sub (n_qc e0 (n_qc e1 (n_qc e2 (n_qc e3 n_qe)))) (bX12_set_70 hG x1 x2 x3 M r h5)) n_ke) (by rfl) h
def fX12_set_43 (x1 : Int32) (x2 : Int32) (x3 : Int32) (M : nM) : Option (Int32 × nM) :=
  if ¬ x1 = (2 : Int32) then
    fX12_set_55 x1 x2 x3 M
  else
    n_chk (n_ib 16 x2) <|
    let M1 : nM := n_up M 113 x2.toNatClampNeg x3
    fX12_set_55 x1 x2 x3 M1
set_option maxRecDepth 200000 in
theorem bX12_set_43 {l : Launch} {w : nW} {G : nG} (hG : n_GOK G) (x1 : Int32) (x2 : Int32) (x3 : Int32) (M : nM) (r : Int32 × nM) (h : fX12_set_43 x1 x2 x3 M = some r) : n_At l w 2 mX12_set 43 [(0, .ref 107), (1, .int x1), (2, .int x2), (3, .int x3)] [] (G, M) (dv_i r.1, (G, r.2)) :=
  n_seg (fin := n_fin dv_i G) (K := [(55, fun lv st M => n_lC 107 lv 0 (n_lI lv 1 (fun x1 => n_lI lv 2 (fun x2 => n_lI lv 3 (fun x3 => n_pE st (fX12_set_55 x1 x2 x3 M))))))]) 11 (iX12_set hG) (n_kc (fun lv st M r h => by
      obtain ⟨e0, h1⟩ := n_lC_x h
      obtain ⟨x1, e1, h2⟩ := n_lI_x h1
      obtain ⟨x2, e2, h3⟩ := n_lI_x h2
      obtain ⟨x3, e3, h4⟩ := n_lI_x h3
      obtain ⟨rfl, h5⟩ := n_pE_x h4
      exact n_sub (n_qc e0 (n_qc e1 (n_qc e2 (n_qc e3 n_qe)))) (bX12_set_55 hG x1 x2 x3 M r h5)) n_ke) (by rfl) h
def fX12_set_31 (x1 : Int32) (x2 : Int32) (x3 : Int32) (M : nM) : Option (Int32 × nM) :=
  if ¬ x1 = (1 : Int32) then
    fX12_set_43 x1 x2 x3 M
  else
    n_chk (n_ib 16 x2) <|
    let M1 : nM := n_up M 112 x2.toNatClampNeg x3
    fX12_set_43 x1 x2 x3 M1
set_option maxRecDepth 200000 in
theorem bX12_set_31 {l : Launch} {w : nW} {G : nG} (hG : n_GOK G) (x1 : Int32) (x2 : Int32) (x3 : Int32) (M : nM) (r : Int32 × nM) (h : fX12_set_31 x1 x2 x3 M = some r) : n_At l w 2 mX12_set 31 [(0, .ref 107), (1, .int x1), (2, .int x2), (3, .int x3)] [] (G, M) (dv_i r.1, (G, r.2)) :=
  n_seg (fin := n_fin dv_i G) (K := [(43, fun lv st M => n_lC 107 lv 0 (n_lI lv 1 (fun x1 => n_lI lv 2 (fun x2 => n_lI lv 3 (fun x3 => n_pE st (fX12_set_43 x1 x2 x3 M))))))]) 11 (iX12_set hG) (n_kc (fun lv st M r h => by
      obtain ⟨e0, h1⟩ := n_lC_x h
      obtain ⟨x1, e1, h2⟩ := n_lI_x h1
      obtain ⟨x2, e2, h3⟩ := n_lI_x h2
      obtain ⟨x3, e3, h4⟩ := n_lI_x h3
      obtain ⟨rfl, h5⟩ := n_pE_x h4
      exact n_sub (n_qc e0 (n_qc e1 (n_qc e2 (n_qc e3 n_qe)))) (bX12_set_43 hG x1 x2 x3 M r h5)) n_ke) (by rfl) h
def fX12_set (x1 : Int32) (x2 : Int32) (x3 : Int32) (M : nM) : Option (Int32 × nM) :=
  let M1 : nM := n_up M 107 0 (0 : Int32)
  (fX12_canSet x1 x2 x3 M1).bind fun p2 =>
  if ¬ p2.1 = 0 then
    if ¬ x1 = 0 then
      fX12_set_31 x1 x2 x3 p2.2
    else
      n_chk (n_ib 12 x2) <|
      let M3 : nM := n_up p2.2 111 x2.toNatClampNeg (x3 - (9 : Int32))
      fX12_set_31 x1 x2 x3 M3
  else
    some ((0 : Int32), p2.2)
set_option maxRecDepth 200000 in
theorem bX12_set_0 {l : Launch} {w : nW} {G : nG} (hG : n_GOK G) (x1 : Int32) (x2 : Int32) (x3 : Int32) (M : nM) (r : Int32 × nM) (h : fX12_set x1 x2 x3 M = some r) : n_At l w 2 mX12_set 0 [(0, .ref 107), (1, .int x1), (2, .int x2), (3, .int x3)] [] (G, M) (dv_i r.1, (G, r.2)) :=
  n_seg (fin := n_fin dv_i G) (K := [(31, fun lv st M => n_lC 107 lv 0 (n_lI lv 1 (fun x1 => n_lI lv 2 (fun x2 => n_lI lv 3 (fun x3 => n_pE st (fX12_set_31 x1 x2 x3 M))))))]) 23 (iX12_set hG) (n_kc (fun lv st M r h => by
      obtain ⟨e0, h1⟩ := n_lC_x h
      obtain ⟨x1, e1, h2⟩ := n_lI_x h1
      obtain ⟨x2, e2, h3⟩ := n_lI_x h2
      obtain ⟨x3, e3, h4⟩ := n_lI_x h3
      obtain ⟨rfl, h5⟩ := n_pE_x h4
      exact n_sub (n_qc e0 (n_qc e1 (n_qc e2 (n_qc e3 n_qe)))) (bX12_set_31 hG x1 x2 x3 M r h5)) n_ke) (by rfl) h
theorem eX12_set {l : Launch} {w : nW} {G : nG} (hG : n_GOK G) (z1 : Int32) (z2 : Int32) (z3 : Int32) (M : nM) (r : Int32 × nM) (h : fX12_set z1 z2 z3 M = some r) : n_Met l w 2 mX12_set [.ref 107, .int z1, .int z2, .int z3] (G, M) (dv_i r.1, (G, r.2)) :=
  n_entry (by decide +kernel) rfl (Nat.le_of_ble_eq_true rfl) (n_sub (lv := [(0, .ref 107), (1, .int z1), (2, .int z2), (3, .int z3)]) (n_qc rfl (n_qc rfl (n_qc rfl (n_qc rfl n_qe)))) (bX12_set_0 hG z1 z2 z3 M r h))
abbrev hX12_set : nF := fun T as M k => n_pC 107 as (fun as => n_pI as (fun z1 as => n_pI as (fun z2 as => n_pI as (fun z3 as => n_pE as ((fX12_set z1 z2 z3 M).bind fun p => k (dv_i p.1) p.2)))))
theorem csX12_set {l : Launch} {w : nW} {G : nG} (hG : n_GOK G) : n_CS l w 2 mX12_set G (hX12_set) := fun T as M k r h => by
  obtain ⟨t0, rfl, h1⟩ := n_pC_x h
  obtain ⟨z1, t1, rfl, h2⟩ := n_pI_x h1
  obtain ⟨z2, t2, rfl, h3⟩ := n_pI_x h2
  obtain ⟨z3, t3, rfl, h4⟩ := n_pI_x h3
  obtain ⟨rfl, hE⟩ := n_pE_x h4
  obtain ⟨p, hp, hk⟩ := Option.bind_eq_some_iff.mp hE
  exact ⟨_, _, eX12_set hG z1 z2 z3 M p hp, hk⟩
/-! ===== SleightHouse$Moving.bit(II)I ===== -/
def mX4_bit : nY := (RX4, yX4_bit, cX4_bit, 2, some .int)
theorem okX4_bit : n_MOK mX4_bit 2 := ⟨w_679, w_141, ⟨by decide +kernel, by decide +kernel, by decide +kernel⟩, by decide⟩
abbrev aX4_bit : List (Nat × nO (Int32 × nM)) := [(0, o_iload 0 1), (1, o_iload 1 2), (2, o_ishr 3), (3, o_push (.int (1 : Int32)) 4), (4, o_iand 5), (5, o_iret)]
set_option maxRecDepth 200000 in
theorem iX4_bit {l : Launch} {w : nW} {G : nG} : n_AllS l w 0 mX4_bit G (n_fin dv_i G) (aX4_bit) :=
  n_c (s_iload_n (pc := 0) (k := 0) (by decide +kernel)) <|
  n_c (s_iload_n (pc := 1) (k := 1) (by decide +kernel)) <|
  n_c (s_ishr (pc := 2) (by decide +kernel)) <|
  n_c (s_iconst (pc := 3) (n := 1) (by decide +kernel) (by decide +kernel)) <|
  n_c (s_iand (pc := 4) (by decide +kernel)) <|
  n_c (s_iret (pc := 5) rfl (by decide +kernel)) <|
  n_e
def fX4_bit (x0 : Int32) (x1 : Int32) (M : nM) : Option (Int32 × nM) :=
  some (((x0 >>> (x1 &&& 31)) &&& (1 : Int32)), M)
set_option maxRecDepth 200000 in
theorem bX4_bit_0 {l : Launch} {w : nW} {G : nG} (x0 : Int32) (x1 : Int32) (M : nM) (r : Int32 × nM) (h : fX4_bit x0 x1 M = some r) : n_At l w 0 mX4_bit 0 [(0, .int x0), (1, .int x1)] [] (G, M) (dv_i r.1, (G, r.2)) :=
  n_seg (fin := n_fin dv_i G) (K := []) 9 (iX4_bit) n_ke (by rfl) h
theorem eX4_bit {l : Launch} {w : nW} {G : nG} (z0 : Int32) (z1 : Int32) (M : nM) (r : Int32 × nM) (h : fX4_bit z0 z1 M = some r) : n_Met l w 0 mX4_bit [.int z0, .int z1] (G, M) (dv_i r.1, (G, r.2)) :=
  n_entry (by decide +kernel) rfl (Nat.le_of_ble_eq_true rfl) (n_sub (lv := [(0, .int z0), (1, .int z1)]) (n_qc rfl (n_qc rfl n_qe)) (bX4_bit_0 z0 z1 M r h))
abbrev hX4_bit : nF := fun T as M k => n_pI as (fun z0 as => n_pI as (fun z1 as => n_pE as ((fX4_bit z0 z1 M).bind fun p => k (dv_i p.1) p.2)))
theorem csX4_bit {l : Launch} {w : nW} {G : nG} : n_CS l w 0 mX4_bit G (hX4_bit) := fun T as M k r h => by
  obtain ⟨z0, t0, rfl, h1⟩ := n_pI_x h
  obtain ⟨z1, t1, rfl, h2⟩ := n_pI_x h1
  obtain ⟨rfl, hE⟩ := n_pE_x h2
  obtain ⟨p, hp, hk⟩ := Option.bind_eq_some_iff.mp hE
  exact ⟨_, _, eX4_bit z0 z1 M p hp, hk⟩
/-! ===== SleightHouse$Moving.hasBit(II)Z ===== -/
def mX4_hasBit : nY := (RX4, yX4_hasBit, cX4_hasBit, 2, some .boolean)
theorem okX4_hasBit : n_MOK mX4_hasBit 2 := ⟨w_676, w_141, ⟨by decide +kernel, by decide +kernel, by decide +kernel⟩, by decide⟩
abbrev aX4_hasBit : List (Nat × nO (Int32 × nM)) := [(0, o_iload 0 1), (1, o_iload 1 2), (2, o_call 2 (hX4_bit) 5), (5, o_push (.int (1 : Int32)) 6), (6, oc_ne 13 9), (9, o_push (.int (1 : Int32)) 10), (10, o_goto 14), (13, o_push (.int (0 : Int32)) 14), (14, o_zret)]
set_option maxRecDepth 200000 in
theorem iX4_hasBit {l : Launch} {w : nW} {G : nG} : n_AllS l w 1 mX4_hasBit G (n_fin dv_i G) (aX4_hasBit) :=
  n_c (s_iload_n (pc := 0) (k := 0) (by decide +kernel)) <|
  n_c (s_iload_n (pc := 1) (k := 1) (by decide +kernel)) <|
  n_c (s_callS (pc := 2) (csX4_bit) (by decide) okX4_bit w_678 w_677 (by decide +kernel)) <|
  n_c (s_iconst (pc := 5) (n := 1) (by decide +kernel) (by decide +kernel)) <|
  n_c (s_icmp_ne (pc := 6) (off := 7) (by decide +kernel) (by decide +kernel)) <|
  n_c (s_iconst (pc := 9) (n := 1) (by decide +kernel) (by decide +kernel)) <|
  n_c (s_goto (pc := 10) (off := 4) (by decide +kernel) (by decide +kernel)) <|
  n_c (s_iconst (pc := 13) (n := 0) (by decide +kernel) (by decide +kernel)) <|
  n_c (s_zret (pc := 14) rfl (by decide +kernel)) <|
  n_e
def fX4_hasBit (x0 : Int32) (x1 : Int32) (M : nM) : Option (Int32 × nM) :=
  (fX4_bit x0 x1 M).bind fun p1 =>
  if ¬ p1.1 = (1 : Int32) then
    some ((0 : Int32), p1.2)
  else
    some ((1 : Int32), p1.2)
set_option maxRecDepth 200000 in
theorem bX4_hasBit_0 {l : Launch} {w : nW} {G : nG} (x0 : Int32) (x1 : Int32) (M : nM) (r : Int32 × nM) (h : fX4_hasBit x0 x1 M = some r) : n_At l w 1 mX4_hasBit 0 [(0, .int x0), (1, .int x1)] [] (G, M) (dv_i r.1, (G, r.2)) :=
  n_seg (fin := n_fin dv_i G) (K := []) 13 (iX4_hasBit) n_ke (by rfl) h
theorem eX4_hasBit {l : Launch} {w : nW} {G : nG} (z0 : Int32) (z1 : Int32) (M : nM) (r : Int32 × nM) (h : fX4_hasBit z0 z1 M = some r) : n_Met l w 1 mX4_hasBit [.int z0, .int z1] (G, M) (dv_i r.1, (G, r.2)) :=
  n_entry (by decide +kernel) rfl (Nat.le_of_ble_eq_true rfl) (n_sub (lv := [(0, .int z0), (1, .int z1)]) (n_qc rfl (n_qc rfl n_qe)) (bX4_hasBit_0 z0 z1 M r h))
abbrev hX4_hasBit : nF := fun T as M k => n_pI as (fun z0 as => n_pI as (fun z1 as => n_pE as ((fX4_hasBit z0 z1 M).bind fun p => k (dv_i p.1) p.2)))
theorem csX4_hasBit {l : Launch} {w : nW} {G : nG} : n_CS l w 1 mX4_hasBit G (hX4_hasBit) := fun T as M k r h => by
  obtain ⟨z0, t0, rfl, h1⟩ := n_pI_x h
  obtain ⟨z1, t1, rfl, h2⟩ := n_pI_x h1
  obtain ⟨rfl, hE⟩ := n_pE_x h2
  obtain ⟨p, hp, hk⟩ := Option.bind_eq_some_iff.mp hE
  exact ⟨_, _, eX4_hasBit z0 z1 M p hp, hk⟩
/-! ===== SleightHouse$Doings.fullOf(LSleightHouse$Moving;I)I ===== -/
def mX0_fullOf : nY := (RX0, yX0_fullOf, cX0_fullOf, 5, some .int)
theorem okX0_fullOf : n_MOK mX0_fullOf 2 := ⟨w_687, w_146, ⟨by decide +kernel, by decide +kernel, by decide +kernel⟩, by decide⟩
abbrev aX0_fullOf (N : Nat) (G : nG) : List (Nat × nO (Int32 × nM)) := [(0, o_push (.int (0 : Int32)) 1), (1, o_istore 5 3 2), (2, o_push (.int (0 : Int32)) 3), (3, o_istore 5 4 5), (5, o_iload 4 7), (7, o_aload 0 8), (8, o_gRc 45 2 11), (11, o_gRc 2 3 14), (14, o_gIc 3 5 17), (17, oc_ge 53 20), (20, o_aload 1 21), (21, o_getR G 4 1 24), (24, o_iload 4 26), (26, o_ald G 14 27), (27, o_iload 2 28), (28, oc_ne 47 31), (31, o_iload 3 32), (32, o_aload 0 33), (33, o_gRc 45 2 36), (36, o_gRc 2 3 39), (39, o_gRc 3 5 42), (42, o_iload 4 44), (44, o_aldc 5 16 45), (45, o_iadd 46), (46, o_istore 5 3 47), (47, o_inc 5 4 (1 : Int32) 50), (50, o_goto 5), (53, o_iload 3 54), (54, o_iret)]
set_option maxRecDepth 200000 in
theorem iX0_fullOf {l : Launch} {w : nW} (N : Nat) {G : nG} (hG : n_GOK G) : n_AllS l w 0 mX0_fullOf G (n_fin dv_i G) (aX0_fullOf N G) :=
  n_c (s_iconst (pc := 0) (n := 0) (by decide +kernel) (by decide +kernel)) <|
  n_c (s_istore_n (pc := 1) (k := 3) (by decide +kernel)) <|
  n_c (s_iconst (pc := 2) (n := 0) (by decide +kernel) (by decide +kernel)) <|
  n_c (s_istore (pc := 3) (by decide +kernel)) <|
  n_c (s_iload (pc := 5) (by decide +kernel)) <|
  n_c (s_aload_n (pc := 7) (k := 0) (by decide +kernel)) <|
  n_c (s_gRc (s_getR (pc := 8) (ci := 0) (k := 0) (idx := 20) nok0 (by decide) rfl (by decide +kernel) w_446) (gk45 hG) (gm45_0 hG)) <|
  n_c (s_gRc (s_getR (pc := 11) (ci := 1) (k := 0) (idx := 24) nok1 (by decide) rfl (by decide +kernel) w_404) (gk2 hG) (gm2_0 hG)) <|
  n_c (s_gIc (s_getI (pc := 14) (ci := 8) (k := 5) (idx := 30) nok8 (by decide) rfl (by decide +kernel) w_198) (gk3 hG)) <|
  n_c (s_icmp_ge (pc := 17) (off := 36) (by decide +kernel) (by decide +kernel)) <|
  n_c (s_aload_n (pc := 20) (k := 1) (by decide +kernel)) <|
  n_c (s_getR (pc := 21) (ci := 4) (k := 1) (idx := 36) nok4 (by decide) rfl (by decide +kernel) w_231) <|
  n_c (s_iload (pc := 24) (by decide +kernel)) <|
  n_c (s_iaload (pc := 26) (by decide +kernel)) <|
  n_c (s_iload_n (pc := 27) (k := 2) (by decide +kernel)) <|
  n_c (s_icmp_ne (pc := 28) (off := 19) (by decide +kernel) (by decide +kernel)) <|
  n_c (s_iload_n (pc := 31) (k := 3) (by decide +kernel)) <|
  n_c (s_aload_n (pc := 32) (k := 0) (by decide +kernel)) <|
  n_c (s_gRc (s_getR (pc := 33) (ci := 0) (k := 0) (idx := 20) nok0 (by decide) rfl (by decide +kernel) w_446) (gk45 hG) (gm45_0 hG)) <|
  n_c (s_gRc (s_getR (pc := 36) (ci := 1) (k := 0) (idx := 24) nok1 (by decide) rfl (by decide +kernel) w_404) (gk2 hG) (gm2_0 hG)) <|
  n_c (s_gRc (s_getR (pc := 39) (ci := 8) (k := 1) (idx := 41) nok8 (by decide) rfl (by decide +kernel) w_186) (gk3 hG) (gm3_1 hG)) <|
  n_c (s_iload (pc := 42) (by decide +kernel)) <|
  n_c (s_aldc (s_iaload (pc := 44) (by decide +kernel)) (gk5 hG) (gl5 hG)) <|
  n_c (s_iadd (pc := 45) (by decide +kernel)) <|
  n_c (s_istore_n (pc := 46) (k := 3) (by decide +kernel)) <|
  n_c (s_iinc (pc := 47) (n := 1) (by decide +kernel) (by decide +kernel)) <|
  n_c (s_goto (pc := 50) (off := -45) (by decide +kernel) (by decide +kernel)) <|
  n_c (s_iload_n (pc := 53) (k := 3) (by decide +kernel)) <|
  n_c (s_iret (pc := 54) rfl (by decide +kernel)) <|
  n_e
def fX0_fullOf_5 (N : Nat) (G : nG) : Nat → Nat → Int32 → Int32 → Int32 → nM → Option (Int32 × nM)
  | 0, _, _, _, _, _ => none
  | n + 1, x1, x2, x3, x4, M =>
    if (M 3 5) ≤ x4 then
      some (x3, M)
    else
      n_chk (Nat.beq (n_kd G x1) 4) <|
      n_chk (n_in G 14 (n_mr G x1 1) x4) <|
      if ¬ (M (n_mr G x1 1) x4.toNatClampNeg) = x2 then
        let v1 : Int32 := (x4 + (1 : Int32))
        fX0_fullOf_5 N G n x1 x2 x3 v1 M
      else
        n_chk (n_ib 16 x4) <|
        let v2 : Int32 := (x3 + (M 5 x4.toNatClampNeg))
        let v3 : Int32 := (x4 + (1 : Int32))
        fX0_fullOf_5 N G n x1 x2 v2 v3 M
set_option maxRecDepth 200000 in
theorem bX0_fullOf_5 {l : Launch} {w : nW} (N : Nat) {G : nG} (hG : n_GOK G) : ∀ (n : Nat) (x1 : Nat) (x2 : Int32) (x3 : Int32) (x4 : Int32) (M : nM) (r : Int32 × nM), fX0_fullOf_5 N G n x1 x2 x3 x4 M = some r → n_At l w 0 mX0_fullOf 5 [(0, .ref 45), (1, .ref x1), (2, .int x2), (3, .int x3), (4, .int x4)] [] (G, M) (dv_i r.1, (G, r.2)) := by
  intro n
  induction n with
  | zero => intro x1 x2 x3 x4 M r h; cases (show (none : Option (Int32 × nM)) = some r from h)
  | succ n ih =>
    intro x1 x2 x3 x4 M r h
    exact n_seg (fin := n_fin dv_i G) (K := [(5, fun lv st M => n_lC 45 lv 0 (n_lR lv 1 (fun x1 => n_lI lv 2 (fun x2 => n_lI lv 3 (fun x3 => n_lI lv 4 (fun x4 => n_pE st (fX0_fullOf_5 N G n x1 x2 x3 x4 M)))))))]) 30 (iX0_fullOf N hG) (n_kc (fun lv st M r h => by
      obtain ⟨e0, h1⟩ := n_lC_x h
      obtain ⟨x1, e1, h2⟩ := n_lR_x h1
      obtain ⟨x2, e2, h3⟩ := n_lI_x h2
      obtain ⟨x3, e3, h4⟩ := n_lI_x h3
      obtain ⟨x4, e4, h5⟩ := n_lI_x h4
      obtain ⟨rfl, h6⟩ := n_pE_x h5
      exact n_sub (n_qc e0 (n_qc e1 (n_qc e2 (n_qc e3 (n_qc e4 n_qe))))) (ih x1 x2 x3 x4 M r h6)) n_ke) (by rfl) h
def fX0_fullOf (N : Nat) (G : nG) (x1 : Nat) (x2 : Int32) (M : nM) : Option (Int32 × nM) :=
  fX0_fullOf_5 N G N x1 x2 (0 : Int32) (0 : Int32) M
set_option maxRecDepth 200000 in
theorem bX0_fullOf_0 {l : Launch} {w : nW} (N : Nat) {G : nG} (hG : n_GOK G) (x1 : Nat) (x2 : Int32) (M : nM) (r : Int32 × nM) (h : fX0_fullOf N G x1 x2 M = some r) : n_At l w 0 mX0_fullOf 0 [(0, .ref 45), (1, .ref x1), (2, .int x2)] [] (G, M) (dv_i r.1, (G, r.2)) :=
  n_seg (fin := n_fin dv_i G) (K := [(5, fun lv st M => n_lC 45 lv 0 (n_lR lv 1 (fun x1 => n_lI lv 2 (fun x2 => n_lI lv 3 (fun x3 => n_lI lv 4 (fun x4 => n_pE st (fX0_fullOf_5 N G N x1 x2 x3 x4 M)))))))]) 7 (iX0_fullOf N hG) (n_kc (fun lv st M r h => by
      obtain ⟨e0, h1⟩ := n_lC_x h
      obtain ⟨x1, e1, h2⟩ := n_lR_x h1
      obtain ⟨x2, e2, h3⟩ := n_lI_x h2
      obtain ⟨x3, e3, h4⟩ := n_lI_x h3
      obtain ⟨x4, e4, h5⟩ := n_lI_x h4
      obtain ⟨rfl, h6⟩ := n_pE_x h5
      exact n_sub (n_qc e0 (n_qc e1 (n_qc e2 (n_qc e3 (n_qc e4 n_qe))))) (bX0_fullOf_5 N hG N x1 x2 x3 x4 M r h6)) n_ke) (by rfl) h
theorem eX0_fullOf {l : Launch} {w : nW} (N : Nat) {G : nG} (hG : n_GOK G) (z1 : Nat) (z2 : Int32) (M : nM) (r : Int32 × nM) (h : fX0_fullOf N G z1 z2 M = some r) : n_Met l w 0 mX0_fullOf [.ref 45, .ref z1, .int z2] (G, M) (dv_i r.1, (G, r.2)) :=
  n_entry (by decide +kernel) rfl (Nat.le_of_ble_eq_true rfl) (n_sub (lv := [(0, .ref 45), (1, .ref z1), (2, .int z2)]) (n_qc rfl (n_qc rfl (n_qc rfl n_qe))) (bX0_fullOf_0 N hG z1 z2 M r h))
abbrev hX0_fullOf (N : Nat) (G : nG) : nF := fun T as M k => n_pC 45 as (fun as => n_pR as (fun z1 as => n_pI as (fun z2 as => n_pE as ((fX0_fullOf N G z1 z2 M).bind fun p => k (dv_i p.1) p.2))))
theorem csX0_fullOf {l : Launch} {w : nW} (N : Nat) {G : nG} (hG : n_GOK G) : n_CS l w 0 mX0_fullOf G (hX0_fullOf N G) := fun T as M k r h => by
  obtain ⟨t0, rfl, h1⟩ := n_pC_x h
  obtain ⟨z1, t1, rfl, h2⟩ := n_pR_x h1
  obtain ⟨z2, t2, rfl, h3⟩ := n_pI_x h2
  obtain ⟨rfl, hE⟩ := n_pE_x h3
  obtain ⟨p, hp, hk⟩ := Option.bind_eq_some_iff.mp hE
  exact ⟨_, _, eX0_fullOf N hG z1 z2 M p hp, hk⟩
/-! ===== SleightHouse$Doings.hasRoom(LSleightHouse$Moving;II)Z ===== -/
def mX0_hasRoom : nY := (RX0, yX0_hasRoom, cX0_hasRoom, 5, some .boolean)
theorem okX0_hasRoom : n_MOK mX0_hasRoom 3 := ⟨w_683, w_146, ⟨by decide +kernel, by decide +kernel, by decide +kernel⟩, by decide⟩
abbrev aX0_hasRoom (N : Nat) (G : nG) : List (Nat × nO (Int32 × nM)) := [(0, o_aload 0 1), (1, o_aload 1 2), (2, o_iload 3 3), (3, o_callVc 45 2 (hX0_fullOf N G) 6), (6, o_istore 5 4 8), (8, o_aload 1 9), (9, o_getR G 4 1 12), (12, o_iload 2 13), (13, o_ald G 14 14), (14, o_iload 3 15), (15, oc_eq 35 18), (18, o_iload 4 20), (20, o_aload 0 21), (21, o_gRc 45 2 24), (24, o_gRc 2 3 27), (27, o_gRc 3 5 30), (30, o_iload 2 31), (31, o_aldc 5 16 32), (32, o_iadd 33), (33, o_istore 5 4 35), (35, o_iload 4 37), (37, o_aload 0 38), (38, o_gRc 45 2 41), (41, o_gRc 2 3 44), (44, o_gRc 3 4 47), (47, o_iload 3 48), (48, o_aldc 4 12 49), (49, oc_gt 56 52), (52, o_push (.int (1 : Int32)) 53), (53, o_goto 57), (56, o_push (.int (0 : Int32)) 57), (57, o_zret)]
set_option maxRecDepth 200000 in
theorem iX0_hasRoom {l : Launch} {w : nW} (N : Nat) {G : nG} (hG : n_GOK G) : n_AllS l w 1 mX0_hasRoom G (n_fin dv_i G) (aX0_hasRoom N G) :=
  n_c (s_aload_n (pc := 0) (k := 0) (by decide +kernel)) <|
  n_c (s_aload_n (pc := 1) (k := 1) (by decide +kernel)) <|
  n_c (s_iload_n (pc := 2) (k := 3) (by decide +kernel)) <|
  n_c (s_callVc (s_callV (pc := 3) (csX0_fullOf N hG) (by decide) okX0_fullOf nok0 w_685 w_686 w_684 (by decide +kernel)) (gk45 hG)) <|
  n_c (s_istore (pc := 6) (by decide +kernel)) <|
  n_c (s_aload_n (pc := 8) (k := 1) (by decide +kernel)) <|
  n_c (s_getR (pc := 9) (ci := 4) (k := 1) (idx := 36) nok4 (by decide) rfl (by decide +kernel) w_231) <|
  n_c (s_iload_n (pc := 12) (k := 2) (by decide +kernel)) <|
  n_c (s_iaload (pc := 13) (by decide +kernel)) <|
  n_c (s_iload_n (pc := 14) (k := 3) (by decide +kernel)) <|
  n_c (s_icmp_eq (pc := 15) (off := 20) (by decide +kernel) (by decide +kernel)) <|
  n_c (s_iload (pc := 18) (by decide +kernel)) <|
  n_c (s_aload_n (pc := 20) (k := 0) (by decide +kernel)) <|
  n_c (s_gRc (s_getR (pc := 21) (ci := 0) (k := 0) (idx := 20) nok0 (by decide) rfl (by decide +kernel) w_446) (gk45 hG) (gm45_0 hG)) <|
  n_c (s_gRc (s_getR (pc := 24) (ci := 1) (k := 0) (idx := 24) nok1 (by decide) rfl (by decide +kernel) w_404) (gk2 hG) (gm2_0 hG)) <|
  n_c (s_gRc (s_getR (pc := 27) (ci := 8) (k := 1) (idx := 41) nok8 (by decide) rfl (by decide +kernel) w_186) (gk3 hG) (gm3_1 hG)) <|
  n_c (s_iload_n (pc := 30) (k := 2) (by decide +kernel)) <|
  n_c (s_aldc (s_iaload (pc := 31) (by decide +kernel)) (gk5 hG) (gl5 hG)) <|
  n_c (s_iadd (pc := 32) (by decide +kernel)) <|
  n_c (s_istore (pc := 33) (by decide +kernel)) <|
  n_c (s_iload (pc := 35) (by decide +kernel)) <|
  n_c (s_aload_n (pc := 37) (k := 0) (by decide +kernel)) <|
  n_c (s_gRc (s_getR (pc := 38) (ci := 0) (k := 0) (idx := 20) nok0 (by decide) rfl (by decide +kernel) w_446) (gk45 hG) (gm45_0 hG)) <|
  n_c (s_gRc (s_getR (pc := 41) (ci := 1) (k := 0) (idx := 24) nok1 (by decide) rfl (by decide +kernel) w_404) (gk2 hG) (gm2_0 hG)) <|
  n_c (s_gRc (s_getR (pc := 44) (ci := 8) (k := 0) (idx := 150) nok8 (by decide) rfl (by decide +kernel) w_184) (gk3 hG) (gm3_0 hG)) <|
  n_c (s_iload_n (pc := 47) (k := 3) (by decide +kernel)) <|
  n_c (s_aldc (s_iaload (pc := 48) (by decide +kernel)) (gk4 hG) (gl4 hG)) <|
  n_c (s_icmp_gt (pc := 49) (off := 7) (by decide +kernel) (by decide +kernel)) <|
  n_c (s_iconst (pc := 52) (n := 1) (by decide +kernel) (by decide +kernel)) <|
  n_c (s_goto (pc := 53) (off := 4) (by decide +kernel) (by decide +kernel)) <|
  n_c (s_iconst (pc := 56) (n := 0) (by decide +kernel) (by decide +kernel)) <|
  n_c (s_zret (pc := 57) rfl (by decide +kernel)) <|
  n_e
def fX0_hasRoom_35 (N : Nat) (G : nG) (x3 : Int32) (x4 : Int32) (M : nM) : Option (Int32 × nM) :=
  n_chk (n_ib 12 x3) <|
  if (M 4 x3.toNatClampNeg) < x4 then
    some ((0 : Int32), M)
  else
    some ((1 : Int32), M)
set_option maxRecDepth 200000 in
theorem bX0_hasRoom_35 {l : Launch} {w : nW} (N : Nat) {G : nG} (hG : n_GOK G) (x3 : Int32) (x4 : Int32) (M : nM) (r : Int32 × nM) (h : fX0_hasRoom_35 N G x3 x4 M = some r) : n_At l w 1 mX0_hasRoom 35 [(0, .ref 45), (3, .int x3), (4, .int x4)] [] (G, M) (dv_i r.1, (G, r.2)) :=
  n_seg (fin := n_fin dv_i G) (K := []) 16 (iX0_hasRoom N hG) n_ke (by rfl) h
def fX0_hasRoom (N : Nat) (G : nG) (x1 : Nat) (x2 : Int32) (x3 : Int32) (M : nM) : Option (Int32 × nM) :=
  (fX0_fullOf N G x1 x3 M).bind fun p1 =>
  n_chk (Nat.beq (n_kd G x1) 4) <|
  n_chk (n_in G 14 (n_mr G x1 1) x2) <|
  if (p1.2 (n_mr G x1 1) x2.toNatClampNeg) = x3 then
    fX0_hasRoom_35 N G x3 p1.1 p1.2
  else
    n_chk (n_ib 16 x2) <|
    let v2 : Int32 := (p1.1 + (p1.2 5 x2.toNatClampNeg))
    fX0_hasRoom_35 N G x3 v2 p1.2
set_option maxRecDepth 200000 in
theorem bX0_hasRoom_0 {l : Launch} {w : nW} (N : Nat) {G : nG} (hG : n_GOK G) (x1 : Nat) (x2 : Int32) (x3 : Int32) (M : nM) (r : Int32 × nM) (h : fX0_hasRoom N G x1 x2 x3 M = some r) : n_At l w 1 mX0_hasRoom 0 [(0, .ref 45), (1, .ref x1), (2, .int x2), (3, .int x3)] [] (G, M) (dv_i r.1, (G, r.2)) :=
  n_seg (fin := n_fin dv_i G) (K := [(35, fun lv st M => n_lC 45 lv 0 (n_lI lv 3 (fun x3 => n_lI lv 4 (fun x4 => n_pE st (fX0_hasRoom_35 N G x3 x4 M)))))]) 23 (iX0_hasRoom N hG) (n_kc (fun lv st M r h => by
      obtain ⟨e0, h1⟩ := n_lC_x h
      obtain ⟨x3, e3, h2⟩ := n_lI_x h1
      obtain ⟨x4, e4, h3⟩ := n_lI_x h2
      obtain ⟨rfl, h4⟩ := n_pE_x h3
      exact n_sub (n_qc e0 (n_qc e3 (n_qc e4 n_qe))) (bX0_hasRoom_35 N hG x3 x4 M r h4)) n_ke) (by rfl) h
theorem eX0_hasRoom {l : Launch} {w : nW} (N : Nat) {G : nG} (hG : n_GOK G) (z1 : Nat) (z2 : Int32) (z3 : Int32) (M : nM) (r : Int32 × nM) (h : fX0_hasRoom N G z1 z2 z3 M = some r) : n_Met l w 1 mX0_hasRoom [.ref 45, .ref z1, .int z2, .int z3] (G, M) (dv_i r.1, (G, r.2)) :=
  n_entry (by decide +kernel) rfl (Nat.le_of_ble_eq_true rfl) (n_sub (lv := [(0, .ref 45), (1, .ref z1), (2, .int z2), (3, .int z3)]) (n_qc rfl (n_qc rfl (n_qc rfl (n_qc rfl n_qe)))) (bX0_hasRoom_0 N hG z1 z2 z3 M r h))
abbrev hX0_hasRoom (N : Nat) (G : nG) : nF := fun T as M k => n_pC 45 as (fun as => n_pR as (fun z1 as => n_pI as (fun z2 as => n_pI as (fun z3 as => n_pE as ((fX0_hasRoom N G z1 z2 z3 M).bind fun p => k (dv_i p.1) p.2)))))
theorem csX0_hasRoom {l : Launch} {w : nW} (N : Nat) {G : nG} (hG : n_GOK G) : n_CS l w 1 mX0_hasRoom G (hX0_hasRoom N G) := fun T as M k r h => by
  obtain ⟨t0, rfl, h1⟩ := n_pC_x h
  obtain ⟨z1, t1, rfl, h2⟩ := n_pR_x h1
  obtain ⟨z2, t2, rfl, h3⟩ := n_pI_x h2
  obtain ⟨z3, t3, rfl, h4⟩ := n_pI_x h3
  obtain ⟨rfl, hE⟩ := n_pE_x h4
  obtain ⟨p, hp, hk⟩ := Option.bind_eq_some_iff.mp hE
  exact ⟨_, _, eX0_hasRoom N hG z1 z2 z3 M p hp, hk⟩
/-! ===== SleightHouse$Doings.canPut(LSleightHouse$Moving;III)Z ===== -/
def mX0_canPut : nY := (RX0, yX0_canPut, cX0_canPut, 5, some .boolean)
theorem okX0_canPut : n_MOK mX0_canPut 4 := ⟨w_670, w_146, ⟨by decide +kernel, by decide +kernel, by decide +kernel⟩, by decide⟩
abbrev aX0_canPut (N : Nat) (G : nG) : List (Nat × nO (Int32 × nM)) := [(0, o_aload 0 1), (1, o_gRc 45 2 4), (4, o_iload 2 5), (5, o_callVc 2 1 (hX1_hasPerson) 8), (8, oi_eq 34 11), (11, o_aload 0 12), (12, o_gRc 45 2 15), (15, o_iload 3 16), (16, o_callVc 2 1 (hX1_hasThing) 19), (19, oi_eq 34 22), (22, o_aload 0 23), (23, o_gRc 45 2 26), (26, o_iload 4 28), (28, o_callVc 2 1 (hX1_hasPlace) 31), (31, oi_ne 36 34), (34, o_push (.int (0 : Int32)) 35), (35, o_zret), (36, o_aload 1 37), (37, o_getI G 4 6 40), (40, o_iload 2 41), (41, o_call 2 (hX4_hasBit) 44), (44, oi_ne 75 47), (47, o_aload 1 48), (48, o_getI G 4 7 51), (51, o_iload 4 53), (53, o_call 2 (hX4_hasBit) 56), (56, oi_ne 75 59), (59, o_aload 1 60), (60, o_getI G 4 7 63), (63, o_aload 1 64), (64, o_getR G 4 1 67), (67, o_iload 3 68), (68, o_ald G 14 69), (69, o_call 2 (hX4_hasBit) 72), (72, oi_eq 77 75), (75, o_push (.int (0 : Int32)) 76), (76, o_zret), (77, o_aload 0 78), (78, o_aload 1 79), (79, o_iload 3 80), (80, o_iload 4 82), (82, o_callVc 45 3 (hX0_hasRoom N G) 85), (85, o_zret)]
set_option maxRecDepth 200000 in
theorem iX0_canPut {l : Launch} {w : nW} (N : Nat) {G : nG} (hG : n_GOK G) : n_AllS l w 2 mX0_canPut G (n_fin dv_i G) (aX0_canPut N G) :=
  n_c (s_aload_n (pc := 0) (k := 0) (by decide +kernel)) <|
  n_c (s_gRc (s_getR (pc := 1) (ci := 0) (k := 0) (idx := 20) nok0 (by decide) rfl (by decide +kernel) w_446) (gk45 hG) (gm45_0 hG)) <|
  n_c (s_iload_n (pc := 4) (k := 2) (by decide +kernel)) <|
  n_c (s_callVc (s_callV (pc := 5) (csX1_hasPerson hG) (by decide) okX1_hasPerson nok1 w_660 w_661 w_671 (by decide +kernel)) (gk2 hG)) <|
  n_c (s_if_eq (pc := 8) (off := 26) (by decide +kernel) (by decide +kernel)) <|
  n_c (s_aload_n (pc := 11) (k := 0) (by decide +kernel)) <|
  n_c (s_gRc (s_getR (pc := 12) (ci := 0) (k := 0) (idx := 20) nok0 (by decide) rfl (by decide +kernel) w_446) (gk45 hG) (gm45_0 hG)) <|
  n_c (s_iload_n (pc := 15) (k := 3) (by decide +kernel)) <|
  n_c (s_callVc (s_callV (pc := 16) (csX1_hasThing hG) (by decide) okX1_hasThing nok1 w_651 w_652 w_672 (by decide +kernel)) (gk2 hG)) <|
  n_c (s_if_eq (pc := 19) (off := 15) (by decide +kernel) (by decide +kernel)) <|
  n_c (s_aload_n (pc := 22) (k := 0) (by decide +kernel)) <|
  n_c (s_gRc (s_getR (pc := 23) (ci := 0) (k := 0) (idx := 20) nok0 (by decide) rfl (by decide +kernel) w_446) (gk45 hG) (gm45_0 hG)) <|
  n_c (s_iload (pc := 26) (by decide +kernel)) <|
  n_c (s_callVc (s_callV (pc := 28) (csX1_hasPlace) (by decide) okX1_hasPlace nok1 w_613 w_614 w_673 (by decide +kernel)) (gk2 hG)) <|
  n_c (s_if_ne (pc := 31) (off := 5) (by decide +kernel) (by decide +kernel)) <|
  n_c (s_iconst (pc := 34) (n := 0) (by decide +kernel) (by decide +kernel)) <|
  n_c (s_zret (pc := 35) rfl (by decide +kernel)) <|
  n_c (s_aload_n (pc := 36) (k := 1) (by decide +kernel)) <|
  n_c (s_getI (pc := 37) (ci := 4) (k := 6) (idx := 139) nok4 (by decide) rfl (by decide +kernel) w_246) <|
  n_c (s_iload_n (pc := 40) (k := 2) (by decide +kernel)) <|
  n_c (s_callS (pc := 41) (csX4_hasBit) (by decide) okX4_hasBit w_675 w_674 (by decide +kernel)) <|
  n_c (s_if_ne (pc := 44) (off := 31) (by decide +kernel) (by decide +kernel)) <|
  n_c (s_aload_n (pc := 47) (k := 1) (by decide +kernel)) <|
  n_c (s_getI (pc := 48) (ci := 4) (k := 7) (idx := 89) nok4 (by decide) rfl (by decide +kernel) w_249) <|
  n_c (s_iload (pc := 51) (by decide +kernel)) <|
  n_c (s_callS (pc := 53) (csX4_hasBit) (by decide) okX4_hasBit w_675 w_674 (by decide +kernel)) <|
  n_c (s_if_ne (pc := 56) (off := 19) (by decide +kernel) (by decide +kernel)) <|
  n_c (s_aload_n (pc := 59) (k := 1) (by decide +kernel)) <|
  n_c (s_getI (pc := 60) (ci := 4) (k := 7) (idx := 89) nok4 (by decide) rfl (by decide +kernel) w_249) <|
  n_c (s_aload_n (pc := 63) (k := 1) (by decide +kernel)) <|
  n_c (s_getR (pc := 64) (ci := 4) (k := 1) (idx := 36) nok4 (by decide) rfl (by decide +kernel) w_231) <|
  n_c (s_iload_n (pc := 67) (k := 3) (by decide +kernel)) <|
  n_c (s_iaload (pc := 68) (by decide +kernel)) <|
  n_c (s_callS (pc := 69) (csX4_hasBit) (by decide) okX4_hasBit w_675 w_674 (by decide +kernel)) <|
  n_c (s_if_eq (pc := 72) (off := 5) (by decide +kernel) (by decide +kernel)) <|
  n_c (s_iconst (pc := 75) (n := 0) (by decide +kernel) (by decide +kernel)) <|
  n_c (s_zret (pc := 76) rfl (by decide +kernel)) <|
  n_c (s_aload_n (pc := 77) (k := 0) (by decide +kernel)) <|
  n_c (s_aload_n (pc := 78) (k := 1) (by decide +kernel)) <|
  n_c (s_iload_n (pc := 79) (k := 3) (by decide +kernel)) <|
  n_c (s_iload (pc := 80) (by decide +kernel)) <|
  n_c (s_callVc (s_callV (pc := 82) (csX0_hasRoom N hG) (by decide) okX0_hasRoom nok0 w_682 w_2 w_680 (by decide +kernel)) (gk45 hG)) <|
  n_c (s_zret (pc := 85) rfl (by decide +kernel)) <|
  n_e
def fX0_canPut (N : Nat) (G : nG) (x1 : Nat) (x2 : Int32) (x3 : Int32) (x4 : Int32) (M : nM) : Option (Int32 × nM) :=
  (fX1_hasPerson x2 M).bind fun p1 =>
  if p1.1 = 0 then
    some ((0 : Int32), p1.2)
  else
    (fX1_hasThing x3 p1.2).bind fun p2 =>
    if p2.1 = 0 then
      some ((0 : Int32), p2.2)
    else
      (fX1_hasPlace x4 p2.2).bind fun p3 =>
      if ¬ p3.1 = 0 then
        n_chk (Nat.beq (n_kd G x1) 4) <|
        (fX4_hasBit (p3.2 x1 6) x2 p3.2).bind fun p4 =>
        if ¬ p4.1 = 0 then
          some ((0 : Int32), p4.2)
        else
          n_chk (Nat.beq (n_kd G x1) 4) <|
          (fX4_hasBit (p4.2 x1 7) x4 p4.2).bind fun p5 =>
          if ¬ p5.1 = 0 then
            some ((0 : Int32), p5.2)
          else
            n_chk (Nat.beq (n_kd G x1) 4) <|
            n_chk (Nat.beq (n_kd G x1) 4) <|
            n_chk (n_in G 14 (n_mr G x1 1) x3) <|
            (fX4_hasBit (p5.2 x1 7) (p5.2 (n_mr G x1 1) x3.toNatClampNeg) p5.2).bind fun p6 =>
            if p6.1 = 0 then
              (fX0_hasRoom N G x1 x3 x4 p6.2).bind fun p7 =>
              n_chk (p7.1 == 0 || p7.1 == 1) (some (p7.1, p7.2))
            else
              some ((0 : Int32), p6.2)
      else
        some ((0 : Int32), p3.2)
set_option maxRecDepth 200000 in
theorem bX0_canPut_0 {l : Launch} {w : nW} (N : Nat) {G : nG} (hG : n_GOK G) (x1 : Nat) (x2 : Int32) (x3 : Int32) (x4 : Int32) (M : nM) (r : Int32 × nM) (h : fX0_canPut N G x1 x2 x3 x4 M = some r) : n_At l w 2 mX0_canPut 0 [(0, .ref 45), (1, .ref x1), (2, .int x2), (3, .int x3), (4, .int x4)] [] (G, M) (dv_i r.1, (G, r.2)) :=
  n_seg (fin := n_fin dv_i G) (K := []) 54 (iX0_canPut N hG) n_ke (by rfl) h
theorem eX0_canPut {l : Launch} {w : nW} (N : Nat) {G : nG} (hG : n_GOK G) (z1 : Nat) (z2 : Int32) (z3 : Int32) (z4 : Int32) (M : nM) (r : Int32 × nM) (h : fX0_canPut N G z1 z2 z3 z4 M = some r) : n_Met l w 2 mX0_canPut [.ref 45, .ref z1, .int z2, .int z3, .int z4] (G, M) (dv_i r.1, (G, r.2)) :=
  n_entry (by decide +kernel) rfl (Nat.le_of_ble_eq_true rfl) (n_sub (lv := [(0, .ref 45), (1, .ref z1), (2, .int z2), (3, .int z3), (4, .int z4)]) (n_qc rfl (n_qc rfl (n_qc rfl (n_qc rfl (n_qc rfl n_qe))))) (bX0_canPut_0 N hG z1 z2 z3 z4 M r h))
abbrev hX0_canPut (N : Nat) (G : nG) : nF := fun T as M k => n_pC 45 as (fun as => n_pR as (fun z1 as => n_pI as (fun z2 as => n_pI as (fun z3 as => n_pI as (fun z4 as => n_pE as ((fX0_canPut N G z1 z2 z3 z4 M).bind fun p => k (dv_i p.1) p.2))))))
theorem csX0_canPut {l : Launch} {w : nW} (N : Nat) {G : nG} (hG : n_GOK G) : n_CS l w 2 mX0_canPut G (hX0_canPut N G) := fun T as M k r h => by
  obtain ⟨t0, rfl, h1⟩ := n_pC_x h
  obtain ⟨z1, t1, rfl, h2⟩ := n_pR_x h1
  obtain ⟨z2, t2, rfl, h3⟩ := n_pI_x h2
  obtain ⟨z3, t3, rfl, h4⟩ := n_pI_x h3
  obtain ⟨z4, t4, rfl, h5⟩ := n_pI_x h4
  obtain ⟨rfl, hE⟩ := n_pE_x h5
  obtain ⟨p, hp, hk⟩ := Option.bind_eq_some_iff.mp hE
  exact ⟨_, _, eX0_canPut N hG z1 z2 z3 z4 M p hp, hk⟩
/-! ===== SleightHouse$Moving.copyFrom(LSleightHouse$Moving;)V ===== -/
def mX4_copyFrom : nY := (RX4, yX4_copyFrom, cX4_copyFrom, 2, none)
theorem okX4_copyFrom : n_MOK mX4_copyFrom 1 := ⟨w_695, w_141, ⟨by decide +kernel, by decide +kernel, by decide +kernel⟩, by decide⟩
abbrev aX4_copyFrom (G : nG) : List (Nat × nO (Unit × nM)) := [(0, o_aload 1 1), (1, o_getR G 4 1 4), (4, o_push (.int (0 : Int32)) 5), (5, o_aload 0 6), (6, o_getR G 4 1 9), (9, o_push (.int (0 : Int32)) 10), (10, o_push (.int (16 : Int32)) 12), (12, o_copy G 15), (15, o_aload 1 16), (16, o_getR G 4 2 19), (19, o_push (.int (0 : Int32)) 20), (20, o_aload 0 21), (21, o_getR G 4 2 24), (24, o_push (.int (0 : Int32)) 25), (25, o_push (.int (16 : Int32)) 27), (27, o_copy G 30), (30, o_aload 1 31), (31, o_getR G 4 3 34), (34, o_push (.int (0 : Int32)) 35), (35, o_aload 0 36), (36, o_getR G 4 3 39), (39, o_push (.int (0 : Int32)) 40), (40, o_push (.int (12 : Int32)) 42), (42, o_copy G 45), (45, o_aload 1 46), (46, o_getR G 4 4 49), (49, o_push (.int (0 : Int32)) 50), (50, o_aload 0 51), (51, o_getR G 4 4 54), (54, o_push (.int (0 : Int32)) 55), (55, o_push (.int (12 : Int32)) 57), (57, o_copy G 60), (60, o_aload 0 61), (61, o_aload 1 62), (62, o_getI G 4 5 65), (65, o_putI G 4 5 68), (68, o_aload 0 69), (69, o_aload 1 70), (70, o_getI G 4 6 73), (73, o_putI G 4 6 76), (76, o_aload 0 77), (77, o_aload 1 78), (78, o_getI G 4 7 81), (81, o_putI G 4 7 84), (84, o_aload 0 85), (85, o_aload 1 86), (86, o_getI G 4 8 89), (89, o_putI G 4 8 92), (92, o_aload 0 93), (93, o_aload 1 94), (94, o_getI G 4 9 97), (97, o_putI G 4 9 100), (100, o_aload 0 101), (101, o_aload 1 102), (102, o_getI G 4 10 105), (105, o_putI G 4 10 108), (108, o_aload 0 109), (109, o_aload 1 110), (110, o_getI G 4 11 113), (113, o_putI G 4 11 116), (116, o_vret)]
set_option maxRecDepth 200000 in
theorem iX4_copyFrom {l : Launch} {w : nW} {G : nG} : n_AllS l w 0 mX4_copyFrom G (n_fin dv_v G) (aX4_copyFrom G) :=
  n_c (s_aload_n (pc := 0) (k := 1) (by decide +kernel)) <|
  n_c (s_getR (pc := 1) (ci := 4) (k := 1) (idx := 9) nok4 (by decide) rfl (by decide +kernel) w_230) <|
  n_c (s_iconst (pc := 4) (n := 0) (by decide +kernel) (by decide +kernel)) <|
  n_c (s_aload_n (pc := 5) (k := 0) (by decide +kernel)) <|
  n_c (s_getR (pc := 6) (ci := 4) (k := 1) (idx := 9) nok4 (by decide) rfl (by decide +kernel) w_230) <|
  n_c (s_iconst (pc := 9) (n := 0) (by decide +kernel) (by decide +kernel)) <|
  n_c (s_bipush (pc := 10) (n := 16) (by decide +kernel) (by decide +kernel)) <|
  n_c (s_copy (pc := 12) w_696 w_698 w_697 w_152 (by decide +kernel)) <|
  n_c (s_aload_n (pc := 15) (k := 1) (by decide +kernel)) <|
  n_c (s_getR (pc := 16) (ci := 4) (k := 2) (idx := 15) nok4 (by decide) rfl (by decide +kernel) w_233) <|
  n_c (s_iconst (pc := 19) (n := 0) (by decide +kernel) (by decide +kernel)) <|
  n_c (s_aload_n (pc := 20) (k := 0) (by decide +kernel)) <|
  n_c (s_getR (pc := 21) (ci := 4) (k := 2) (idx := 15) nok4 (by decide) rfl (by decide +kernel) w_233) <|
  n_c (s_iconst (pc := 24) (n := 0) (by decide +kernel) (by decide +kernel)) <|
  n_c (s_bipush (pc := 25) (n := 16) (by decide +kernel) (by decide +kernel)) <|
  n_c (s_copy (pc := 27) w_696 w_698 w_697 w_152 (by decide +kernel)) <|
  n_c (s_aload_n (pc := 30) (k := 1) (by decide +kernel)) <|
  n_c (s_getR (pc := 31) (ci := 4) (k := 3) (idx := 18) nok4 (by decide) rfl (by decide +kernel) w_236) <|
  n_c (s_iconst (pc := 34) (n := 0) (by decide +kernel) (by decide +kernel)) <|
  n_c (s_aload_n (pc := 35) (k := 0) (by decide +kernel)) <|
  n_c (s_getR (pc := 36) (ci := 4) (k := 3) (idx := 18) nok4 (by decide) rfl (by decide +kernel) w_236) <|
  n_c (s_iconst (pc := 39) (n := 0) (by decide +kernel) (by decide +kernel)) <|
  n_c (s_bipush (pc := 40) (n := 12) (by decide +kernel) (by decide +kernel)) <|
  n_c (s_copy (pc := 42) w_696 w_698 w_697 w_152 (by decide +kernel)) <|
  n_c (s_aload_n (pc := 45) (k := 1) (by decide +kernel)) <|
  n_c (s_getR (pc := 46) (ci := 4) (k := 4) (idx := 21) nok4 (by decide) rfl (by decide +kernel) w_239) <|
  n_c (s_iconst (pc := 49) (n := 0) (by decide +kernel) (by decide +kernel)) <|
  n_c (s_aload_n (pc := 50) (k := 0) (by decide +kernel)) <|
  n_c (s_getR (pc := 51) (ci := 4) (k := 4) (idx := 21) nok4 (by decide) rfl (by decide +kernel) w_239) <|
  n_c (s_iconst (pc := 54) (n := 0) (by decide +kernel) (by decide +kernel)) <|
  n_c (s_bipush (pc := 55) (n := 12) (by decide +kernel) (by decide +kernel)) <|
  n_c (s_copy (pc := 57) w_696 w_698 w_697 w_152 (by decide +kernel)) <|
  n_c (s_aload_n (pc := 60) (k := 0) (by decide +kernel)) <|
  n_c (s_aload_n (pc := 61) (k := 1) (by decide +kernel)) <|
  n_c (s_getI (pc := 62) (ci := 4) (k := 5) (idx := 24) nok4 (by decide) rfl (by decide +kernel) w_242) <|
  n_c (s_putI (pc := 65) (ci := 4) (k := 5) (idx := 24) nok4 (by decide) rfl rfl (by decide +kernel) w_242) <|
  n_c (s_aload_n (pc := 68) (k := 0) (by decide +kernel)) <|
  n_c (s_aload_n (pc := 69) (k := 1) (by decide +kernel)) <|
  n_c (s_getI (pc := 70) (ci := 4) (k := 6) (idx := 28) nok4 (by decide) rfl (by decide +kernel) w_245) <|
  n_c (s_putI (pc := 73) (ci := 4) (k := 6) (idx := 28) nok4 (by decide) rfl rfl (by decide +kernel) w_245) <|
  n_c (s_aload_n (pc := 76) (k := 0) (by decide +kernel)) <|
  n_c (s_aload_n (pc := 77) (k := 1) (by decide +kernel)) <|
  n_c (s_getI (pc := 78) (ci := 4) (k := 7) (idx := 31) nok4 (by decide) rfl (by decide +kernel) w_248) <|
  n_c (s_putI (pc := 81) (ci := 4) (k := 7) (idx := 31) nok4 (by decide) rfl rfl (by decide +kernel) w_248) <|
  n_c (s_aload_n (pc := 84) (k := 0) (by decide +kernel)) <|
  n_c (s_aload_n (pc := 85) (k := 1) (by decide +kernel)) <|
  n_c (s_getI (pc := 86) (ci := 4) (k := 8) (idx := 34) nok4 (by decide) rfl (by decide +kernel) w_251) <|
  n_c (s_putI (pc := 89) (ci := 4) (k := 8) (idx := 34) nok4 (by decide) rfl rfl (by decide +kernel) w_251) <|
  n_c (s_aload_n (pc := 92) (k := 0) (by decide +kernel)) <|
  n_c (s_aload_n (pc := 93) (k := 1) (by decide +kernel)) <|
  n_c (s_getI (pc := 94) (ci := 4) (k := 9) (idx := 37) nok4 (by decide) rfl (by decide +kernel) w_254) <|
  n_c (s_putI (pc := 97) (ci := 4) (k := 9) (idx := 37) nok4 (by decide) rfl rfl (by decide +kernel) w_254) <|
  n_c (s_aload_n (pc := 100) (k := 0) (by decide +kernel)) <|
  n_c (s_aload_n (pc := 101) (k := 1) (by decide +kernel)) <|
  n_c (s_getI (pc := 102) (ci := 4) (k := 10) (idx := 40) nok4 (by decide) rfl (by decide +kernel) w_257) <|
  n_c (s_putI (pc := 105) (ci := 4) (k := 10) (idx := 40) nok4 (by decide) rfl rfl (by decide +kernel) w_257) <|
  n_c (s_aload_n (pc := 108) (k := 0) (by decide +kernel)) <|
  n_c (s_aload_n (pc := 109) (k := 1) (by decide +kernel)) <|
  n_c (s_getI (pc := 110) (ci := 4) (k := 11) (idx := 43) nok4 (by decide) rfl (by decide +kernel) w_260) <|
  n_c (s_putI (pc := 113) (ci := 4) (k := 11) (idx := 43) nok4 (by decide) rfl rfl (by decide +kernel) w_260) <|
  n_c (s_vret (pc := 116) rfl (by decide +kernel)) <|
  n_e
def fX4_copyFrom (G : nG) (x0 : Nat) (x1 : Nat) (M : nM) : Option (Unit × nM) :=
  n_chk (Nat.beq (n_kd G x1) 4) <|
  n_chk (Nat.beq (n_kd G x0) 4) <|
  n_chk (n_cpok G (n_mr G x1 1) (n_mr G x0 1) (0 : Int32) (0 : Int32) (16 : Int32) && true) <|
  let M1 : nM := n_cpy M (n_mr G x1 1) (n_mr G x0 1) (0 : Int32).toNatClampNeg (0 : Int32).toNatClampNeg (16 : Int32).toNatClampNeg
  n_chk (Nat.beq (n_kd G x1) 4) <|
  n_chk (Nat.beq (n_kd G x0) 4) <|
  n_chk (n_cpok G (n_mr G x1 2) (n_mr G x0 2) (0 : Int32) (0 : Int32) (16 : Int32) && true) <|
  let M2 : nM := n_cpy M1 (n_mr G x1 2) (n_mr G x0 2) (0 : Int32).toNatClampNeg (0 : Int32).toNatClampNeg (16 : Int32).toNatClampNeg
  n_chk (Nat.beq (n_kd G x1) 4) <|
  n_chk (Nat.beq (n_kd G x0) 4) <|
  n_chk (n_cpok G (n_mr G x1 3) (n_mr G x0 3) (0 : Int32) (0 : Int32) (12 : Int32) && true) <|
  let M3 : nM := n_cpy M2 (n_mr G x1 3) (n_mr G x0 3) (0 : Int32).toNatClampNeg (0 : Int32).toNatClampNeg (12 : Int32).toNatClampNeg
  n_chk (Nat.beq (n_kd G x1) 4) <|
  n_chk (Nat.beq (n_kd G x0) 4) <|
  n_chk (n_cpok G (n_mr G x1 4) (n_mr G x0 4) (0 : Int32) (0 : Int32) (12 : Int32) && true) <|
  let M4 : nM := n_cpy M3 (n_mr G x1 4) (n_mr G x0 4) (0 : Int32).toNatClampNeg (0 : Int32).toNatClampNeg (12 : Int32).toNatClampNeg
  n_chk (Nat.beq (n_kd G x1) 4) <|
  n_chk (Nat.beq (n_kd G x0) 4) <|
  let M5 : nM := n_up M4 x0 5 (M4 x1 5)
  n_chk (Nat.beq (n_kd G x1) 4) <|
  n_chk (Nat.beq (n_kd G x0) 4) <|
  let M6 : nM := n_up M5 x0 6 (M5 x1 6)
  n_chk (Nat.beq (n_kd G x1) 4) <|
  n_chk (Nat.beq (n_kd G x0) 4) <|
  let M7 : nM := n_up M6 x0 7 (M6 x1 7)
  n_chk (Nat.beq (n_kd G x1) 4) <|
  n_chk (Nat.beq (n_kd G x0) 4) <|
  let M8 : nM := n_up M7 x0 8 (M7 x1 8)
  n_chk (Nat.beq (n_kd G x1) 4) <|
  n_chk (Nat.beq (n_kd G x0) 4) <|
  let M9 : nM := n_up M8 x0 9 (M8 x1 9)
  n_chk (Nat.beq (n_kd G x1) 4) <|
  n_chk (Nat.beq (n_kd G x0) 4) <|
  let M10 : nM := n_up M9 x0 10 (M9 x1 10)
  n_chk (Nat.beq (n_kd G x1) 4) <|
  n_chk (Nat.beq (n_kd G x0) 4) <|
  let M11 : nM := n_up M10 x0 11 (M10 x1 11)
  some ((), M11)
set_option maxRecDepth 200000 in
theorem bX4_copyFrom_0 {l : Launch} {w : nW} {G : nG} (x0 : Nat) (x1 : Nat) (M : nM) (r : Unit × nM) (h : fX4_copyFrom G x0 x1 M = some r) : n_At l w 0 mX4_copyFrom 0 [(0, .ref x0), (1, .ref x1)] [] (G, M) (dv_v r.1, (G, r.2)) :=
  n_seg (fin := n_fin dv_v G) (K := []) 64 (iX4_copyFrom) n_ke (by rfl) h
theorem eX4_copyFrom {l : Launch} {w : nW} {G : nG} (z0 : Nat) (z1 : Nat) (M : nM) (r : Unit × nM) (h : fX4_copyFrom G z0 z1 M = some r) : n_Met l w 0 mX4_copyFrom [.ref z0, .ref z1] (G, M) (dv_v r.1, (G, r.2)) :=
  n_entry (by decide +kernel) rfl (Nat.le_of_ble_eq_true rfl) (n_sub (lv := [(0, .ref z0), (1, .ref z1)]) (n_qc rfl (n_qc rfl n_qe)) (bX4_copyFrom_0 z0 z1 M r h))
abbrev hX4_copyFrom (G : nG) : nF := fun T as M k => n_pR as (fun z0 as => n_pR as (fun z1 as => n_pE as ((fX4_copyFrom G z0 z1 M).bind fun p => k (dv_v p.1) p.2)))
theorem csX4_copyFrom {l : Launch} {w : nW} {G : nG} : n_CS l w 0 mX4_copyFrom G (hX4_copyFrom G) := fun T as M k r h => by
  obtain ⟨z0, t0, rfl, h1⟩ := n_pR_x h
  obtain ⟨z1, t1, rfl, h2⟩ := n_pR_x h1
  obtain ⟨rfl, hE⟩ := n_pE_x h2
  obtain ⟨p, hp, hk⟩ := Option.bind_eq_some_iff.mp hE
  exact ⟨_, _, eX4_copyFrom z0 z1 M p hp, hk⟩
/-! ===== SleightHouse$Past.keep(LSleightHouse$Moving;)V ===== -/
def mX5_keep : nY := (RX5, yX5_keep, cX5_keep, 2, none)
theorem okX5_keep : n_MOK mX5_keep 1 := ⟨w_691, w_147, ⟨by decide +kernel, by decide +kernel, by decide +kernel⟩, by decide⟩
abbrev aX5_keep (G : nG) : List (Nat × nO (Unit × nM)) := [(0, o_aload 0 1), (1, o_gRc 48 49 4), (4, o_aload 0 5), (5, o_gIc 48 1 8), (8, o_aald G 9), (9, o_aload 1 10), (10, o_callV G 4 1 (hX4_copyFrom G) 13), (13, o_aload 0 14), (14, o_aload 0 15), (15, o_gIc 48 1 18), (18, o_push (.int (1 : Int32)) 19), (19, o_iadd 20), (20, o_push (.int (6 : Int32)) 22), (22, o_irem 23), (23, o_pIc 48 1 26), (26, o_aload 0 27), (27, o_aload 0 28), (28, o_gIc 48 2 31), (31, o_push (.int (1 : Int32)) 32), (32, o_iadd 33), (33, o_push (.int (6 : Int32)) 35), (35, o_mmin 38), (38, o_pIc 48 2 41), (41, o_vret)]
set_option maxRecDepth 200000 in
theorem iX5_keep {l : Launch} {w : nW} {G : nG} (hG : n_GOK G) : n_AllS l w 1 mX5_keep G (n_fin dv_v G) (aX5_keep G) :=
  n_c (s_aload_n (pc := 0) (k := 0) (by decide +kernel)) <|
  n_c (s_gRc (s_getR (pc := 1) (ci := 5) (k := 0) (idx := 11) nok5 (by decide) rfl (by decide +kernel) w_465) (gk48 hG) (gm48_0 hG)) <|
  n_c (s_aload_n (pc := 4) (k := 0) (by decide +kernel)) <|
  n_c (s_gIc (s_getI (pc := 5) (ci := 5) (k := 1) (idx := 17) nok5 (by decide) rfl (by decide +kernel) w_466) (gk48 hG)) <|
  n_c (s_aaload (pc := 8) (by decide +kernel)) <|
  n_c (s_aload_n (pc := 9) (k := 1) (by decide +kernel)) <|
  n_c (s_callV (pc := 10) (csX4_copyFrom) (by decide) okX4_copyFrom nok4 w_693 w_694 w_692 (by decide +kernel)) <|
  n_c (s_aload_n (pc := 13) (k := 0) (by decide +kernel)) <|
  n_c (s_aload_n (pc := 14) (k := 0) (by decide +kernel)) <|
  n_c (s_gIc (s_getI (pc := 15) (ci := 5) (k := 1) (idx := 17) nok5 (by decide) rfl (by decide +kernel) w_466) (gk48 hG)) <|
  n_c (s_iconst (pc := 18) (n := 1) (by decide +kernel) (by decide +kernel)) <|
  n_c (s_iadd (pc := 19) (by decide +kernel)) <|
  n_c (s_bipush (pc := 20) (n := 6) (by decide +kernel) (by decide +kernel)) <|
  n_c (s_irem (pc := 22) (by decide +kernel)) <|
  n_c (s_pIc (s_putI (pc := 23) (ci := 5) (k := 1) (idx := 17) nok5 (by decide) rfl rfl (by decide +kernel) w_466) (gk48 hG)) <|
  n_c (s_aload_n (pc := 26) (k := 0) (by decide +kernel)) <|
  n_c (s_aload_n (pc := 27) (k := 0) (by decide +kernel)) <|
  n_c (s_gIc (s_getI (pc := 28) (ci := 5) (k := 2) (idx := 21) nok5 (by decide) rfl (by decide +kernel) w_467) (gk48 hG)) <|
  n_c (s_iconst (pc := 31) (n := 1) (by decide +kernel) (by decide +kernel)) <|
  n_c (s_iadd (pc := 32) (by decide +kernel)) <|
  n_c (s_bipush (pc := 33) (n := 6) (by decide +kernel) (by decide +kernel)) <|
  n_c (s_mmin (pc := 35) w_699 w_298 w_143 w_299 (by decide +kernel)) <|
  n_c (s_pIc (s_putI (pc := 38) (ci := 5) (k := 2) (idx := 21) nok5 (by decide) rfl rfl (by decide +kernel) w_467) (gk48 hG)) <|
  n_c (s_vret (pc := 41) rfl (by decide +kernel)) <|
  n_e
def fX5_keep (G : nG) (M : nM) : Option (Unit × nM) :=
  n_chk (n_in G 15 49 (M 48 1)) <|
  n_chk (Nat.beq (n_kd G (n_mr G 49 (M 48 1).toNatClampNeg)) 4 && true) <|
  (fX4_copyFrom G (n_mr G 49 (M 48 1).toNatClampNeg) 9 M).bind fun p1 =>
  if (6 : Int32) = 0 then none else
  let M2 : nM := n_up p1.2 48 1 (((p1.2 48 1) + (1 : Int32)) - ((p1.2 48 1) + (1 : Int32)) / (6 : Int32) * (6 : Int32))
  let M3 : nM := n_up M2 48 2 (if (6 : Int32) < ((M2 48 2) + (1 : Int32)) then (6 : Int32) else ((M2 48 2) + (1 : Int32)))
  some ((), M3)
set_option maxRecDepth 200000 in
theorem bX5_keep_0 {l : Launch} {w : nW} {G : nG} (hG : n_GOK G) (M : nM) (r : Unit × nM) (h : fX5_keep G M = some r) : n_At l w 1 mX5_keep 0 [(0, .ref 48), (1, .ref 9)] [] (G, M) (dv_v r.1, (G, r.2)) :=
  n_seg (fin := n_fin dv_v G) (K := []) 27 (iX5_keep hG) n_ke (by rfl) h
theorem eX5_keep {l : Launch} {w : nW} {G : nG} (hG : n_GOK G) (M : nM) (r : Unit × nM) (h : fX5_keep G M = some r) : n_Met l w 1 mX5_keep [.ref 48, .ref 9] (G, M) (dv_v r.1, (G, r.2)) :=
  n_entry (by decide +kernel) rfl (Nat.le_of_ble_eq_true rfl) (n_sub (lv := [(0, .ref 48), (1, .ref 9)]) (n_qc rfl (n_qc rfl n_qe)) (bX5_keep_0 hG M r h))
abbrev hX5_keep (G : nG) : nF := fun T as M k => n_pC 48 as (fun as => n_pC 9 as (fun as => n_pE as ((fX5_keep G M).bind fun p => k (dv_v p.1) p.2)))
theorem csX5_keep {l : Launch} {w : nW} {G : nG} (hG : n_GOK G) : n_CS l w 1 mX5_keep G (hX5_keep G) := fun T as M k r h => by
  obtain ⟨t0, rfl, h1⟩ := n_pC_x h
  obtain ⟨t1, rfl, h2⟩ := n_pC_x h1
  obtain ⟨rfl, hE⟩ := n_pE_x h2
  obtain ⟨p, hp, hk⟩ := Option.bind_eq_some_iff.mp hE
  exact ⟨_, _, eX5_keep hG M p hp, hk⟩
/-! ===== SleightHouse$Rows.write(IIIII)V ===== -/
def mX7_write : nY := (RX7, yX7_write, cX7_write, 7, none)
theorem okX7_write : n_MOK mX7_write 5 := ⟨w_712, w_142, ⟨by decide +kernel, by decide +kernel, by decide +kernel⟩, by decide⟩
abbrev aX7_write (G : nG) : List (Nat × nO (Unit × nM)) := [(0, o_iload 1 1), (1, oi_lt 12 4), (4, o_iload 1 5), (5, o_aload 0 6), (6, o_getI G 7 2 9), (9, oc_lt 13 12), (12, o_vret), (13, o_iload 1 14), (14, o_aload 0 15), (15, o_getI G 7 1 18), (18, o_imul 19), (19, o_istore 7 6 21), (21, o_aload 0 22), (22, o_getR G 7 0 25), (25, o_iload 6 27), (27, o_iload 2 28), (28, o_iastore G 29), (29, o_aload 0 30), (30, o_getI G 7 1 33), (33, o_push (.int (1 : Int32)) 34), (34, oc_le 47 37), (37, o_aload 0 38), (38, o_getR G 7 0 41), (41, o_iload 6 43), (43, o_push (.int (1 : Int32)) 44), (44, o_iadd 45), (45, o_iload 3 46), (46, o_iastore G 47), (47, o_aload 0 48), (48, o_getI G 7 1 51), (51, o_push (.int (2 : Int32)) 52), (52, oc_le 66 55), (55, o_aload 0 56), (56, o_getR G 7 0 59), (59, o_iload 6 61), (61, o_push (.int (2 : Int32)) 62), (62, o_iadd 63), (63, o_iload 4 65), (65, o_iastore G 66), (66, o_aload 0 67), (67, o_getI G 7 1 70), (70, o_push (.int (3 : Int32)) 71), (71, oc_le 85 74), (74, o_aload 0 75), (75, o_getR G 7 0 78), (78, o_iload 6 80), (80, o_push (.int (3 : Int32)) 81), (81, o_iadd 82), (82, o_iload 5 84), (84, o_iastore G 85), (85, o_vret)]
set_option maxRecDepth 200000 in
theorem iX7_write {l : Launch} {w : nW} {G : nG} : n_AllS l w 0 mX7_write G (n_fin dv_v G) (aX7_write G) :=
  n_c (s_iload_n (pc := 0) (k := 1) (by decide +kernel)) <|
  n_c (s_if_lt (pc := 1) (off := 11) (by decide +kernel) (by decide +kernel)) <|
  n_c (s_iload_n (pc := 4) (k := 1) (by decide +kernel)) <|
  n_c (s_aload_n (pc := 5) (k := 0) (by decide +kernel)) <|
  n_c (s_getI (pc := 6) (ci := 7) (k := 2) (idx := 21) nok7 (by decide) rfl (by decide +kernel) w_302) <|
  n_c (s_icmp_lt (pc := 9) (off := 4) (by decide +kernel) (by decide +kernel)) <|
  n_c (s_vret (pc := 12) rfl (by decide +kernel)) <|
  n_c (s_iload_n (pc := 13) (k := 1) (by decide +kernel)) <|
  n_c (s_aload_n (pc := 14) (k := 0) (by decide +kernel)) <|
  n_c (s_getI (pc := 15) (ci := 7) (k := 1) (idx := 27) nok7 (by decide) rfl (by decide +kernel) w_301) <|
  n_c (s_imul (pc := 18) (by decide +kernel)) <|
  n_c (s_istore (pc := 19) (by decide +kernel)) <|
  n_c (s_aload_n (pc := 21) (k := 0) (by decide +kernel)) <|
  n_c (s_getR (pc := 22) (ci := 7) (k := 0) (idx := 30) nok7 (by decide) rfl (by decide +kernel) w_300) <|
  n_c (s_iload (pc := 25) (by decide +kernel)) <|
  n_c (s_iload_n (pc := 27) (k := 2) (by decide +kernel)) <|
  n_c (s_iastore (pc := 28) (by decide +kernel)) <|
  n_c (s_aload_n (pc := 29) (k := 0) (by decide +kernel)) <|
  n_c (s_getI (pc := 30) (ci := 7) (k := 1) (idx := 27) nok7 (by decide) rfl (by decide +kernel) w_301) <|
  n_c (s_iconst (pc := 33) (n := 1) (by decide +kernel) (by decide +kernel)) <|
  n_c (s_icmp_le (pc := 34) (off := 13) (by decide +kernel) (by decide +kernel)) <|
  n_c (s_aload_n (pc := 37) (k := 0) (by decide +kernel)) <|
  n_c (s_getR (pc := 38) (ci := 7) (k := 0) (idx := 30) nok7 (by decide) rfl (by decide +kernel) w_300) <|
  n_c (s_iload (pc := 41) (by decide +kernel)) <|
  n_c (s_iconst (pc := 43) (n := 1) (by decide +kernel) (by decide +kernel)) <|
  n_c (s_iadd (pc := 44) (by decide +kernel)) <|
  n_c (s_iload_n (pc := 45) (k := 3) (by decide +kernel)) <|
  n_c (s_iastore (pc := 46) (by decide +kernel)) <|
  n_c (s_aload_n (pc := 47) (k := 0) (by decide +kernel)) <|
  n_c (s_getI (pc := 48) (ci := 7) (k := 1) (idx := 27) nok7 (by decide) rfl (by decide +kernel) w_301) <|
  n_c (s_iconst (pc := 51) (n := 2) (by decide +kernel) (by decide +kernel)) <|
  n_c (s_icmp_le (pc := 52) (off := 14) (by decide +kernel) (by decide +kernel)) <|
  n_c (s_aload_n (pc := 55) (k := 0) (by decide +kernel)) <|
  n_c (s_getR (pc := 56) (ci := 7) (k := 0) (idx := 30) nok7 (by decide) rfl (by decide +kernel) w_300) <|
  n_c (s_iload (pc := 59) (by decide +kernel)) <|
  n_c (s_iconst (pc := 61) (n := 2) (by decide +kernel) (by decide +kernel)) <|
  n_c (s_iadd (pc := 62) (by decide +kernel)) <|
  n_c (s_iload (pc := 63) (by decide +kernel)) <|
  n_c (s_iastore (pc := 65) (by decide +kernel)) <|
  n_c (s_aload_n (pc := 66) (k := 0) (by decide +kernel)) <|
  n_c (s_getI (pc := 67) (ci := 7) (k := 1) (idx := 27) nok7 (by decide) rfl (by decide +kernel) w_301) <|
  n_c (s_iconst (pc := 70) (n := 3) (by decide +kernel) (by decide +kernel)) <|
  n_c (s_icmp_le (pc := 71) (off := 14) (by decide +kernel) (by decide +kernel)) <|
  n_c (s_aload_n (pc := 74) (k := 0) (by decide +kernel)) <|
  n_c (s_getR (pc := 75) (ci := 7) (k := 0) (idx := 30) nok7 (by decide) rfl (by decide +kernel) w_300) <|
  n_c (s_iload (pc := 78) (by decide +kernel)) <|
  n_c (s_iconst (pc := 80) (n := 3) (by decide +kernel) (by decide +kernel)) <|
  n_c (s_iadd (pc := 81) (by decide +kernel)) <|
  n_c (s_iload (pc := 82) (by decide +kernel)) <|
  n_c (s_iastore (pc := 84) (by decide +kernel)) <|
  n_c (s_vret (pc := 85) rfl (by decide +kernel)) <|
  n_e
def fX7_write_66 (G : nG) (x0 : Nat) (x5 : Int32) (x6 : Int32) (M : nM) : Option (Unit × nM) :=
  n_chk (Nat.beq (n_kd G x0) 7) <|
  if (M x0 1) ≤ (3 : Int32) then
    some ((), M)
  else
    n_chk (Nat.beq (n_kd G x0) 7) <|
    n_chk (n_in G 14 (n_mr G x0 0) (x6 + (3 : Int32))) <|
    let M1 : nM := n_up M (n_mr G x0 0) (x6 + (3 : Int32)).toNatClampNeg x5
    some ((), M1)
set_option maxRecDepth 200000 in
theorem bX7_write_66 {l : Launch} {w : nW} {G : nG} (x0 : Nat) (x5 : Int32) (x6 : Int32) (M : nM) (r : Unit × nM) (h : fX7_write_66 G x0 x5 x6 M = some r) : n_At l w 0 mX7_write 66 [(0, .ref x0), (5, .int x5), (6, .int x6)] [] (G, M) (dv_v r.1, (G, r.2)) :=
  n_seg (fin := n_fin dv_v G) (K := []) 16 (iX7_write) n_ke (by rfl) h
def fX7_write_47 (G : nG) (x0 : Nat) (x4 : Int32) (x5 : Int32) (x6 : Int32) (M : nM) : Option (Unit × nM) :=
  n_chk (Nat.beq (n_kd G x0) 7) <|
  if (M x0 1) ≤ (2 : Int32) then
    fX7_write_66 G x0 x5 x6 M
  else
    n_chk (Nat.beq (n_kd G x0) 7) <|
    n_chk (n_in G 14 (n_mr G x0 0) (x6 + (2 : Int32))) <|
    let M1 : nM := n_up M (n_mr G x0 0) (x6 + (2 : Int32)).toNatClampNeg x4
    fX7_write_66 G x0 x5 x6 M1
set_option maxRecDepth 200000 in
theorem bX7_write_47 {l : Launch} {w : nW} {G : nG} (x0 : Nat) (x4 : Int32) (x5 : Int32) (x6 : Int32) (M : nM) (r : Unit × nM) (h : fX7_write_47 G x0 x4 x5 x6 M = some r) : n_At l w 0 mX7_write 47 [(0, .ref x0), (4, .int x4), (5, .int x5), (6, .int x6)] [] (G, M) (dv_v r.1, (G, r.2)) :=
  n_seg (fin := n_fin dv_v G) (K := [(66, fun lv st M => n_lR lv 0 (fun x0 => n_lI lv 5 (fun x5 => n_lI lv 6 (fun x6 => n_pE st (fX7_write_66 G x0 x5 x6 M)))))]) 14 (iX7_write) (n_kc (fun lv st M r h => by
      obtain ⟨x0, e0, h1⟩ := n_lR_x h
      obtain ⟨x5, e5, h2⟩ := n_lI_x h1
      obtain ⟨x6, e6, h3⟩ := n_lI_x h2
      obtain ⟨rfl, h4⟩ := n_pE_x h3
      exact n_sub (n_qc e0 (n_qc e5 (n_qc e6 n_qe))) (bX7_write_66 x0 x5 x6 M r h4)) n_ke) (by rfl) h
def fX7_write (G : nG) (x0 : Nat) (x1 : Int32) (x2 : Int32) (x3 : Int32) (x4 : Int32) (x5 : Int32) (M : nM) : Option (Unit × nM) :=
  if x1 < 0 then
    some ((), M)
  else
    n_chk (Nat.beq (n_kd G x0) 7) <|
    if x1 < (M x0 2) then
      n_chk (Nat.beq (n_kd G x0) 7) <|
      let v1 : Int32 := (x1 * (M x0 1))
      n_chk (Nat.beq (n_kd G x0) 7) <|
      n_chk (n_in G 14 (n_mr G x0 0) v1) <|
      let M2 : nM := n_up M (n_mr G x0 0) v1.toNatClampNeg x2
      n_chk (Nat.beq (n_kd G x0) 7) <|
      if (M2 x0 1) ≤ (1 : Int32) then
        fX7_write_47 G x0 x4 x5 v1 M2
      else
        n_chk (Nat.beq (n_kd G x0) 7) <|
        n_chk (n_in G 14 (n_mr G x0 0) (v1 + (1 : Int32))) <|
        let M3 : nM := n_up M2 (n_mr G x0 0) (v1 + (1 : Int32)).toNatClampNeg x3
        fX7_write_47 G x0 x4 x5 v1 M3
    else
      some ((), M)
set_option maxRecDepth 200000 in
theorem bX7_write_0 {l : Launch} {w : nW} {G : nG} (x0 : Nat) (x1 : Int32) (x2 : Int32) (x3 : Int32) (x4 : Int32) (x5 : Int32) (M : nM) (r : Unit × nM) (h : fX7_write G x0 x1 x2 x3 x4 x5 M = some r) : n_At l w 0 mX7_write 0 [(0, .ref x0), (1, .int x1), (2, .int x2), (3, .int x3), (4, .int x4), (5, .int x5)] [] (G, M) (dv_v r.1, (G, r.2)) :=
  n_seg (fin := n_fin dv_v G) (K := [(47, fun lv st M => n_lR lv 0 (fun x0 => n_lI lv 4 (fun x4 => n_lI lv 5 (fun x5 => n_lI lv 6 (fun x6 => n_pE st (fX7_write_47 G x0 x4 x5 x6 M))))))]) 32 (iX7_write) (n_kc (fun lv st M r h => by
      obtain ⟨x0, e0, h1⟩ := n_lR_x h
      obtain ⟨x4, e4, h2⟩ := n_lI_x h1
      obtain ⟨x5, e5, h3⟩ := n_lI_x h2
      obtain ⟨x6, e6, h4⟩ := n_lI_x h3
      obtain ⟨rfl, h5⟩ := n_pE_x h4
      exact n_sub (n_qc e0 (n_qc e4 (n_qc e5 (n_qc e6 n_qe)))) (bX7_write_47 x0 x4 x5 x6 M r h5)) n_ke) (by rfl) h
theorem eX7_write {l : Launch} {w : nW} {G : nG} (z0 : Nat) (z1 : Int32) (z2 : Int32) (z3 : Int32) (z4 : Int32) (z5 : Int32) (M : nM) (r : Unit × nM) (h : fX7_write G z0 z1 z2 z3 z4 z5 M = some r) : n_Met l w 0 mX7_write [.ref z0, .int z1, .int z2, .int z3, .int z4, .int z5] (G, M) (dv_v r.1, (G, r.2)) :=
  n_entry (by decide +kernel) rfl (Nat.le_of_ble_eq_true rfl) (n_sub (lv := [(0, .ref z0), (1, .int z1), (2, .int z2), (3, .int z3), (4, .int z4), (5, .int z5)]) (n_qc rfl (n_qc rfl (n_qc rfl (n_qc rfl (n_qc rfl (n_qc rfl n_qe)))))) (bX7_write_0 z0 z1 z2 z3 z4 z5 M r h))
abbrev hX7_write (G : nG) : nF := fun T as M k => n_pR as (fun z0 as => n_pI as (fun z1 as => n_pI as (fun z2 as => n_pI as (fun z3 as => n_pI as (fun z4 as => n_pI as (fun z5 as => n_pE as ((fX7_write G z0 z1 z2 z3 z4 z5 M).bind fun p => k (dv_v p.1) p.2)))))))
theorem csX7_write {l : Launch} {w : nW} {G : nG} : n_CS l w 0 mX7_write G (hX7_write G) := fun T as M k r h => by
  obtain ⟨z0, t0, rfl, h1⟩ := n_pR_x h
  obtain ⟨z1, t1, rfl, h2⟩ := n_pI_x h1
  obtain ⟨z2, t2, rfl, h3⟩ := n_pI_x h2
  obtain ⟨z3, t3, rfl, h4⟩ := n_pI_x h3
  obtain ⟨z4, t4, rfl, h5⟩ := n_pI_x h4
  obtain ⟨z5, t5, rfl, h6⟩ := n_pI_x h5
  obtain ⟨rfl, hE⟩ := n_pE_x h6
  obtain ⟨p, hp, hk⟩ := Option.bind_eq_some_iff.mp hE
  exact ⟨_, _, eX7_write z0 z1 z2 z3 z4 z5 M p hp, hk⟩
/-! ===== SleightHouse$Doings.note(LSleightHouse$Moving;III)V ===== -/
def mX0_note : nY := (RX0, yX0_note, cX0_note, 5, none)
theorem okX0_note : n_MOK mX0_note 4 := ⟨w_708, w_146, ⟨by decide +kernel, by decide +kernel, by decide +kernel⟩, by decide⟩
abbrev aX0_note (G : nG) : List (Nat × nO (Unit × nM)) := [(0, o_aload 1 1), (1, o_getI G 4 0 4), (4, oi_ne 49 7), (7, o_aload 1 8), (8, o_getI G 4 11 11), (11, o_push (.int (150 : Int32)) 14), (14, oc_ge 49 17), (17, o_aload 0 18), (18, o_gRc 45 2 21), (21, o_gRc 2 14 24), (24, o_aload 1 25), (25, o_getI G 4 11 28), (28, o_aload 1 29), (29, o_getI G 4 9 32), (32, o_iload 2 33), (33, o_iload 3 34), (34, o_iload 4 36), (36, o_callVc 14 5 (hX7_write G) 39), (39, o_aload 1 40), (40, o_dup 41), (41, o_getI G 4 11 44), (44, o_push (.int (1 : Int32)) 45), (45, o_iadd 46), (46, o_putI G 4 11 49), (49, o_vret)]
set_option maxRecDepth 200000 in
theorem iX0_note {l : Launch} {w : nW} {G : nG} (hG : n_GOK G) : n_AllS l w 1 mX0_note G (n_fin dv_v G) (aX0_note G) :=
  n_c (s_aload_n (pc := 0) (k := 1) (by decide +kernel)) <|
  n_c (s_getI (pc := 1) (ci := 4) (k := 0) (idx := 107) nok4 (by decide) rfl (by decide +kernel) w_229) <|
  n_c (s_if_ne (pc := 4) (off := 45) (by decide +kernel) (by decide +kernel)) <|
  n_c (s_aload_n (pc := 7) (k := 1) (by decide +kernel)) <|
  n_c (s_getI (pc := 8) (ci := 4) (k := 11) (idx := 116) nok4 (by decide) rfl (by decide +kernel) w_261) <|
  n_c (s_sipush (pc := 11) (n := 150) (by decide +kernel) (by decide +kernel)) <|
  n_c (s_icmp_ge (pc := 14) (off := 35) (by decide +kernel) (by decide +kernel)) <|
  n_c (s_aload_n (pc := 17) (k := 0) (by decide +kernel)) <|
  n_c (s_gRc (s_getR (pc := 18) (ci := 0) (k := 0) (idx := 20) nok0 (by decide) rfl (by decide +kernel) w_446) (gk45 hG) (gm45_0 hG)) <|
  n_c (s_gRc (s_getR (pc := 21) (ci := 1) (k := 2) (idx := 119) nok1 (by decide) rfl (by decide +kernel) w_408) (gk2 hG) (gm2_2 hG)) <|
  n_c (s_aload_n (pc := 24) (k := 1) (by decide +kernel)) <|
  n_c (s_getI (pc := 25) (ci := 4) (k := 11) (idx := 116) nok4 (by decide) rfl (by decide +kernel) w_261) <|
  n_c (s_aload_n (pc := 28) (k := 1) (by decide +kernel)) <|
  n_c (s_getI (pc := 29) (ci := 4) (k := 9) (idx := 104) nok4 (by decide) rfl (by decide +kernel) w_255) <|
  n_c (s_iload_n (pc := 32) (k := 2) (by decide +kernel)) <|
  n_c (s_iload_n (pc := 33) (k := 3) (by decide +kernel)) <|
  n_c (s_iload (pc := 34) (by decide +kernel)) <|
  n_c (s_callVc (s_callV (pc := 36) (csX7_write) (by decide) okX7_write nok7 w_710 w_711 w_709 (by decide +kernel)) (gk14 hG)) <|
  n_c (s_aload_n (pc := 39) (k := 1) (by decide +kernel)) <|
  n_c (s_dup (pc := 40) (by decide +kernel)) <|
  n_c (s_getI (pc := 41) (ci := 4) (k := 11) (idx := 116) nok4 (by decide) rfl (by decide +kernel) w_261) <|
  n_c (s_iconst (pc := 44) (n := 1) (by decide +kernel) (by decide +kernel)) <|
  n_c (s_iadd (pc := 45) (by decide +kernel)) <|
  n_c (s_putI (pc := 46) (ci := 4) (k := 11) (idx := 116) nok4 (by decide) rfl rfl (by decide +kernel) w_261) <|
  n_c (s_vret (pc := 49) rfl (by decide +kernel)) <|
  n_e
def fX0_note (G : nG) (x1 : Nat) (x2 : Int32) (x3 : Int32) (x4 : Int32) (M : nM) : Option (Unit × nM) :=
  n_chk (Nat.beq (n_kd G x1) 4) <|
  if ¬ (M x1 0) = 0 then
    some ((), M)
  else
    n_chk (Nat.beq (n_kd G x1) 4) <|
    if (150 : Int32) ≤ (M x1 11) then
      some ((), M)
    else
      n_chk (Nat.beq (n_kd G x1) 4) <|
      n_chk (Nat.beq (n_kd G x1) 4) <|
      (fX7_write G 14 (M x1 11) (M x1 9) x2 x3 x4 M).bind fun p1 =>
      n_chk (Nat.beq (n_kd G x1) 4) <|
      n_chk (Nat.beq (n_kd G x1) 4) <|
      let M2 : nM := n_up p1.2 x1 11 ((p1.2 x1 11) + (1 : Int32))
      some ((), M2)
set_option maxRecDepth 200000 in
theorem bX0_note_0 {l : Launch} {w : nW} {G : nG} (hG : n_GOK G) (x1 : Nat) (x2 : Int32) (x3 : Int32) (x4 : Int32) (M : nM) (r : Unit × nM) (h : fX0_note G x1 x2 x3 x4 M = some r) : n_At l w 1 mX0_note 0 [(0, .ref 45), (1, .ref x1), (2, .int x2), (3, .int x3), (4, .int x4)] [] (G, M) (dv_v r.1, (G, r.2)) :=
  n_seg (fin := n_fin dv_v G) (K := []) 30 (iX0_note hG) n_ke (by rfl) h
theorem eX0_note {l : Launch} {w : nW} {G : nG} (hG : n_GOK G) (z1 : Nat) (z2 : Int32) (z3 : Int32) (z4 : Int32) (M : nM) (r : Unit × nM) (h : fX0_note G z1 z2 z3 z4 M = some r) : n_Met l w 1 mX0_note [.ref 45, .ref z1, .int z2, .int z3, .int z4] (G, M) (dv_v r.1, (G, r.2)) :=
  n_entry (by decide +kernel) rfl (Nat.le_of_ble_eq_true rfl) (n_sub (lv := [(0, .ref 45), (1, .ref z1), (2, .int z2), (3, .int z3), (4, .int z4)]) (n_qc rfl (n_qc rfl (n_qc rfl (n_qc rfl (n_qc rfl n_qe))))) (bX0_note_0 hG z1 z2 z3 z4 M r h))
abbrev hX0_note (G : nG) : nF := fun T as M k => n_pC 45 as (fun as => n_pR as (fun z1 as => n_pI as (fun z2 as => n_pI as (fun z3 as => n_pI as (fun z4 as => n_pE as ((fX0_note G z1 z2 z3 z4 M).bind fun p => k (dv_v p.1) p.2))))))
theorem csX0_note {l : Launch} {w : nW} {G : nG} (hG : n_GOK G) : n_CS l w 1 mX0_note G (hX0_note G) := fun T as M k r h => by
  obtain ⟨t0, rfl, h1⟩ := n_pC_x h
  obtain ⟨z1, t1, rfl, h2⟩ := n_pR_x h1
  obtain ⟨z2, t2, rfl, h3⟩ := n_pI_x h2
  obtain ⟨z3, t3, rfl, h4⟩ := n_pI_x h3
  obtain ⟨z4, t4, rfl, h5⟩ := n_pI_x h4
  obtain ⟨rfl, hE⟩ := n_pE_x h5
  obtain ⟨p, hp, hk⟩ := Option.bind_eq_some_iff.mp hE
  exact ⟨_, _, eX0_note hG z1 z2 z3 z4 M p hp, hk⟩
/-! ===== SleightHouse$Doings.gatherFacts(LSleightHouse$Moving;III)V ===== -/
def mX0_gatherFacts : nY := (RX0, yX0_gatherFacts, cX0_gatherFacts, 5, none)
theorem okX0_gatherFacts : n_MOK mX0_gatherFacts 4 := ⟨w_720, w_146, ⟨by decide +kernel, by decide +kernel, by decide +kernel⟩, by decide⟩
abbrev aX0_gatherFacts (N : Nat) (G : nG) : List (Nat × nO (Unit × nM)) := [(0, o_aload 0 1), (1, o_gRc 45 46 4), (4, o_push (.int (0 : Int32)) 5), (5, o_aload 0 6), (6, o_gRc 45 2 9), (9, o_gRc 2 3 12), (12, o_gRc 3 7 15), (15, o_iload 2 16), (16, o_aldc 7 12 17), (17, o_iastc 46 11 18), (18, o_aload 0 19), (19, o_gRc 45 46 22), (22, o_push (.int (1 : Int32)) 23), (23, o_aload 0 24), (24, o_gRc 45 2 27), (27, o_gRc 2 3 30), (30, o_gRc 3 8 33), (33, o_iload 2 34), (34, o_aldc 8 12 35), (35, o_iastc 46 11 36), (36, o_aload 0 37), (37, o_gRc 45 46 40), (40, o_push (.int (2 : Int32)) 41), (41, o_aload 0 42), (42, o_gRc 45 2 45), (45, o_gRc 2 3 48), (48, o_gRc 3 5 51), (51, o_iload 3 52), (52, o_aldc 5 16 53), (53, o_iastc 46 11 54), (54, o_aload 0 55), (55, o_gRc 45 46 58), (58, o_push (.int (3 : Int32)) 59), (59, o_aload 0 60), (60, o_gRc 45 2 63), (63, o_gRc 2 3 66), (66, o_gRc 3 6 69), (69, o_iload 3 70), (70, o_aldc 6 16 71), (71, o_iastc 46 11 72), (72, o_aload 0 73), (73, o_gRc 45 46 76), (76, o_push (.int (4 : Int32)) 77), (77, o_iload 4 79), (79, o_iastc 46 11 80), (80, o_aload 0 81), (81, o_gRc 45 46 84), (84, o_push (.int (5 : Int32)) 85), (85, o_aload 0 86), (86, o_aload 1 87), (87, o_iload 4 89), (89, o_callVc 45 2 (hX0_fullOf N G) 92), (92, o_iastc 46 11 93), (93, o_aload 0 94), (94, o_gRc 45 46 97), (97, o_push (.int (6 : Int32)) 99), (99, o_aload 1 100), (100, o_getI G 4 7 103), (103, o_iload 4 105), (105, o_call 2 (hX4_bit) 108), (108, o_iastc 46 11 109), (109, o_aload 0 110), (110, o_gRc 45 46 113), (113, o_push (.int (7 : Int32)) 115), (115, o_aload 1 116), (116, o_getR G 4 2 119), (119, o_iload 3 120), (120, o_ald G 14 121), (121, o_iastc 46 11 122), (122, o_aload 0 123), (123, o_gRc 45 46 126), (126, o_push (.int (8 : Int32)) 128), (128, o_aload 1 129), (129, o_getI G 4 5 132), (132, o_iload 3 133), (133, o_call 2 (hX4_bit) 136), (136, o_iastc 46 11 137), (137, o_aload 0 138), (138, o_gRc 45 46 141), (141, o_push (.int (9 : Int32)) 143), (143, o_aload 1 144), (144, o_getR G 4 3 147), (147, o_iload 2 148), (148, o_ald G 14 149), (149, o_iastc 46 11 150), (150, o_aload 0 151), (151, o_gRc 45 46 154), (154, o_push (.int (10 : Int32)) 156), (156, o_aload 1 157), (157, o_getI G 4 9 160), (160, o_iastc 46 11 161), (161, o_vret)]
set_option maxRecDepth 200000 in
theorem iX0_gatherFacts {l : Launch} {w : nW} (N : Nat) {G : nG} (hG : n_GOK G) : n_AllS l w 1 mX0_gatherFacts G (n_fin dv_v G) (aX0_gatherFacts N G) :=
  n_c (s_aload_n (pc := 0) (k := 0) (by decide +kernel)) <|
  n_c (s_gRc (s_getR (pc := 1) (ci := 0) (k := 1) (idx := 11) nok0 (by decide) rfl (by decide +kernel) w_447) (gk45 hG) (gm45_1 hG)) <|
  n_c (s_iconst (pc := 4) (n := 0) (by decide +kernel) (by decide +kernel)) <|
  n_c (s_aload_n (pc := 5) (k := 0) (by decide +kernel)) <|
  n_c (s_gRc (s_getR (pc := 6) (ci := 0) (k := 0) (idx := 20) nok0 (by decide) rfl (by decide +kernel) w_446) (gk45 hG) (gm45_0 hG)) <|
  n_c (s_gRc (s_getR (pc := 9) (ci := 1) (k := 0) (idx := 24) nok1 (by decide) rfl (by decide +kernel) w_404) (gk2 hG) (gm2_0 hG)) <|
  n_c (s_gRc (s_getR (pc := 12) (ci := 8) (k := 3) (idx := 76) nok8 (by decide) rfl (by decide +kernel) w_192) (gk3 hG) (gm3_3 hG)) <|
  n_c (s_iload_n (pc := 15) (k := 2) (by decide +kernel)) <|
  n_c (s_aldc (s_iaload (pc := 16) (by decide +kernel)) (gk7 hG) (gl7 hG)) <|
  n_c (s_iastc (s_iastore (pc := 17) (by decide +kernel)) (gk46 hG) (gl46 hG)) <|
  n_c (s_aload_n (pc := 18) (k := 0) (by decide +kernel)) <|
  n_c (s_gRc (s_getR (pc := 19) (ci := 0) (k := 1) (idx := 11) nok0 (by decide) rfl (by decide +kernel) w_447) (gk45 hG) (gm45_1 hG)) <|
  n_c (s_iconst (pc := 22) (n := 1) (by decide +kernel) (by decide +kernel)) <|
  n_c (s_aload_n (pc := 23) (k := 0) (by decide +kernel)) <|
  n_c (s_gRc (s_getR (pc := 24) (ci := 0) (k := 0) (idx := 20) nok0 (by decide) rfl (by decide +kernel) w_446) (gk45 hG) (gm45_0 hG)) <|
  n_c (s_gRc (s_getR (pc := 27) (ci := 1) (k := 0) (idx := 24) nok1 (by decide) rfl (by decide +kernel) w_404) (gk2 hG) (gm2_0 hG)) <|
  n_c (s_gRc (s_getR (pc := 30) (ci := 8) (k := 4) (idx := 79) nok8 (by decide) rfl (by decide +kernel) w_195) (gk3 hG) (gm3_4 hG)) <|
  n_c (s_iload_n (pc := 33) (k := 2) (by decide +kernel)) <|
  n_c (s_aldc (s_iaload (pc := 34) (by decide +kernel)) (gk8 hG) (gl8 hG)) <|
  n_c (s_iastc (s_iastore (pc := 35) (by decide +kernel)) (gk46 hG) (gl46 hG)) <|
  n_c (s_aload_n (pc := 36) (k := 0) (by decide +kernel)) <|
  n_c (s_gRc (s_getR (pc := 37) (ci := 0) (k := 1) (idx := 11) nok0 (by decide) rfl (by decide +kernel) w_447) (gk45 hG) (gm45_1 hG)) <|
  n_c (s_iconst (pc := 40) (n := 2) (by decide +kernel) (by decide +kernel)) <|
  n_c (s_aload_n (pc := 41) (k := 0) (by decide +kernel)) <|
  n_c (s_gRc (s_getR (pc := 42) (ci := 0) (k := 0) (idx := 20) nok0 (by decide) rfl (by decide +kernel) w_446) (gk45 hG) (gm45_0 hG)) <|
  n_c (s_gRc (s_getR (pc := 45) (ci := 1) (k := 0) (idx := 24) nok1 (by decide) rfl (by decide +kernel) w_404) (gk2 hG) (gm2_0 hG)) <|
  n_c (s_gRc (s_getR (pc := 48) (ci := 8) (k := 1) (idx := 41) nok8 (by decide) rfl (by decide +kernel) w_186) (gk3 hG) (gm3_1 hG)) <|
  n_c (s_iload_n (pc := 51) (k := 3) (by decide +kernel)) <|
  n_c (s_aldc (s_iaload (pc := 52) (by decide +kernel)) (gk5 hG) (gl5 hG)) <|
  n_c (s_iastc (s_iastore (pc := 53) (by decide +kernel)) (gk46 hG) (gl46 hG)) <|
  n_c (s_aload_n (pc := 54) (k := 0) (by decide +kernel)) <|
  n_c (s_gRc (s_getR (pc := 55) (ci := 0) (k := 1) (idx := 11) nok0 (by decide) rfl (by decide +kernel) w_447) (gk45 hG) (gm45_1 hG)) <|
  n_c (s_iconst (pc := 58) (n := 3) (by decide +kernel) (by decide +kernel)) <|
  n_c (s_aload_n (pc := 59) (k := 0) (by decide +kernel)) <|
  n_c (s_gRc (s_getR (pc := 60) (ci := 0) (k := 0) (idx := 20) nok0 (by decide) rfl (by decide +kernel) w_446) (gk45 hG) (gm45_0 hG)) <|
  n_c (s_gRc (s_getR (pc := 63) (ci := 1) (k := 0) (idx := 24) nok1 (by decide) rfl (by decide +kernel) w_404) (gk2 hG) (gm2_0 hG)) <|
  n_c (s_gRc (s_getR (pc := 66) (ci := 8) (k := 2) (idx := 82) nok8 (by decide) rfl (by decide +kernel) w_189) (gk3 hG) (gm3_2 hG)) <|
  n_c (s_iload_n (pc := 69) (k := 3) (by decide +kernel)) <|
  n_c (s_aldc (s_iaload (pc := 70) (by decide +kernel)) (gk6 hG) (gl6 hG)) <|
  n_c (s_iastc (s_iastore (pc := 71) (by decide +kernel)) (gk46 hG) (gl46 hG)) <|
  n_c (s_aload_n (pc := 72) (k := 0) (by decide +kernel)) <|
  n_c (s_gRc (s_getR (pc := 73) (ci := 0) (k := 1) (idx := 11) nok0 (by decide) rfl (by decide +kernel) w_447) (gk45 hG) (gm45_1 hG)) <|
  n_c (s_iconst (pc := 76) (n := 4) (by decide +kernel) (by decide +kernel)) <|
  n_c (s_iload (pc := 77) (by decide +kernel)) <|
  n_c (s_iastc (s_iastore (pc := 79) (by decide +kernel)) (gk46 hG) (gl46 hG)) <|
  n_c (s_aload_n (pc := 80) (k := 0) (by decide +kernel)) <|
  n_c (s_gRc (s_getR (pc := 81) (ci := 0) (k := 1) (idx := 11) nok0 (by decide) rfl (by decide +kernel) w_447) (gk45 hG) (gm45_1 hG)) <|
  n_c (s_iconst (pc := 84) (n := 5) (by decide +kernel) (by decide +kernel)) <|
  n_c (s_aload_n (pc := 85) (k := 0) (by decide +kernel)) <|
  n_c (s_aload_n (pc := 86) (k := 1) (by decide +kernel)) <|
  n_c (s_iload (pc := 87) (by decide +kernel)) <|
  n_c (s_callVc (s_callV (pc := 89) (csX0_fullOf N hG) (by decide) okX0_fullOf nok0 w_685 w_686 w_684 (by decide +kernel)) (gk45 hG)) <|
  n_c (s_iastc (s_iastore (pc := 92) (by decide +kernel)) (gk46 hG) (gl46 hG)) <|
  n_c (s_aload_n (pc := 93) (k := 0) (by decide +kernel)) <|
  n_c (s_gRc (s_getR (pc := 94) (ci := 0) (k := 1) (idx := 11) nok0 (by decide) rfl (by decide +kernel) w_447) (gk45 hG) (gm45_1 hG)) <|
  n_c (s_bipush (pc := 97) (n := 6) (by decide +kernel) (by decide +kernel)) <|
  n_c (s_aload_n (pc := 99) (k := 1) (by decide +kernel)) <|
  n_c (s_getI (pc := 100) (ci := 4) (k := 7) (idx := 89) nok4 (by decide) rfl (by decide +kernel) w_249) <|
  n_c (s_iload (pc := 103) (by decide +kernel)) <|
  n_c (s_callS (pc := 105) (csX4_bit) (by decide) okX4_bit w_678 w_721 (by decide +kernel)) <|
  n_c (s_iastc (s_iastore (pc := 108) (by decide +kernel)) (gk46 hG) (gl46 hG)) <|
  n_c (s_aload_n (pc := 109) (k := 0) (by decide +kernel)) <|
  n_c (s_gRc (s_getR (pc := 110) (ci := 0) (k := 1) (idx := 11) nok0 (by decide) rfl (by decide +kernel) w_447) (gk45 hG) (gm45_1 hG)) <|
  n_c (s_bipush (pc := 113) (n := 7) (by decide +kernel) (by decide +kernel)) <|
  n_c (s_aload_n (pc := 115) (k := 1) (by decide +kernel)) <|
  n_c (s_getR (pc := 116) (ci := 4) (k := 2) (idx := 95) nok4 (by decide) rfl (by decide +kernel) w_234) <|
  n_c (s_iload_n (pc := 119) (k := 3) (by decide +kernel)) <|
  n_c (s_iaload (pc := 120) (by decide +kernel)) <|
  n_c (s_iastc (s_iastore (pc := 121) (by decide +kernel)) (gk46 hG) (gl46 hG)) <|
  n_c (s_aload_n (pc := 122) (k := 0) (by decide +kernel)) <|
  n_c (s_gRc (s_getR (pc := 123) (ci := 0) (k := 1) (idx := 11) nok0 (by decide) rfl (by decide +kernel) w_447) (gk45 hG) (gm45_1 hG)) <|
  n_c (s_bipush (pc := 126) (n := 8) (by decide +kernel) (by decide +kernel)) <|
  n_c (s_aload_n (pc := 128) (k := 1) (by decide +kernel)) <|
  n_c (s_getI (pc := 129) (ci := 4) (k := 5) (idx := 98) nok4 (by decide) rfl (by decide +kernel) w_243) <|
  n_c (s_iload_n (pc := 132) (k := 3) (by decide +kernel)) <|
  n_c (s_callS (pc := 133) (csX4_bit) (by decide) okX4_bit w_678 w_721 (by decide +kernel)) <|
  n_c (s_iastc (s_iastore (pc := 136) (by decide +kernel)) (gk46 hG) (gl46 hG)) <|
  n_c (s_aload_n (pc := 137) (k := 0) (by decide +kernel)) <|
  n_c (s_gRc (s_getR (pc := 138) (ci := 0) (k := 1) (idx := 11) nok0 (by decide) rfl (by decide +kernel) w_447) (gk45 hG) (gm45_1 hG)) <|
  n_c (s_bipush (pc := 141) (n := 9) (by decide +kernel) (by decide +kernel)) <|
  n_c (s_aload_n (pc := 143) (k := 1) (by decide +kernel)) <|
  n_c (s_getR (pc := 144) (ci := 4) (k := 3) (idx := 101) nok4 (by decide) rfl (by decide +kernel) w_237) <|
  n_c (s_iload_n (pc := 147) (k := 2) (by decide +kernel)) <|
  n_c (s_iaload (pc := 148) (by decide +kernel)) <|
  n_c (s_iastc (s_iastore (pc := 149) (by decide +kernel)) (gk46 hG) (gl46 hG)) <|
  n_c (s_aload_n (pc := 150) (k := 0) (by decide +kernel)) <|
  n_c (s_gRc (s_getR (pc := 151) (ci := 0) (k := 1) (idx := 11) nok0 (by decide) rfl (by decide +kernel) w_447) (gk45 hG) (gm45_1 hG)) <|
  n_c (s_bipush (pc := 154) (n := 10) (by decide +kernel) (by decide +kernel)) <|
  n_c (s_aload_n (pc := 156) (k := 1) (by decide +kernel)) <|
  n_c (s_getI (pc := 157) (ci := 4) (k := 9) (idx := 104) nok4 (by decide) rfl (by decide +kernel) w_255) <|
  n_c (s_iastc (s_iastore (pc := 160) (by decide +kernel)) (gk46 hG) (gl46 hG)) <|
  n_c (s_vret (pc := 161) rfl (by decide +kernel)) <|
  n_e
def fX0_gatherFacts (N : Nat) (G : nG) (x1 : Nat) (x2 : Int32) (x3 : Int32) (x4 : Int32) (M : nM) : Option (Unit × nM) :=
  n_chk (n_ib 12 x2) <|
  n_chk (n_ib 11 (0 : Int32)) <|
  let M1 : nM := n_up M 46 (0 : Int32).toNatClampNeg (M 7 x2.toNatClampNeg)
  n_chk (n_ib 12 x2) <|
  n_chk (n_ib 11 (1 : Int32)) <|
  let M2 : nM := n_up M1 46 (1 : Int32).toNatClampNeg (M1 8 x2.toNatClampNeg)
  n_chk (n_ib 16 x3) <|
  n_chk (n_ib 11 (2 : Int32)) <|
  let M3 : nM := n_up M2 46 (2 : Int32).toNatClampNeg (M2 5 x3.toNatClampNeg)
  n_chk (n_ib 16 x3) <|
  n_chk (n_ib 11 (3 : Int32)) <|
  let M4 : nM := n_up M3 46 (3 : Int32).toNatClampNeg (M3 6 x3.toNatClampNeg)
  n_chk (n_ib 11 (4 : Int32)) <|
  let M5 : nM := n_up M4 46 (4 : Int32).toNatClampNeg x4
  (fX0_fullOf N G x1 x4 M5).bind fun p6 =>
  n_chk (n_ib 11 (5 : Int32)) <|
  let M7 : nM := n_up p6.2 46 (5 : Int32).toNatClampNeg p6.1
  n_chk (Nat.beq (n_kd G x1) 4) <|
  (fX4_bit (M7 x1 7) x4 M7).bind fun p8 =>
  n_chk (n_ib 11 (6 : Int32)) <|
  let M9 : nM := n_up p8.2 46 (6 : Int32).toNatClampNeg p8.1
  n_chk (Nat.beq (n_kd G x1) 4) <|
  n_chk (n_in G 14 (n_mr G x1 2) x3) <|
  n_chk (n_ib 11 (7 : Int32)) <|
  let M10 : nM := n_up M9 46 (7 : Int32).toNatClampNeg (M9 (n_mr G x1 2) x3.toNatClampNeg)
  n_chk (Nat.beq (n_kd G x1) 4) <|
  (fX4_bit (M10 x1 5) x3 M10).bind fun p11 =>
  n_chk (n_ib 11 (8 : Int32)) <|
  let M12 : nM := n_up p11.2 46 (8 : Int32).toNatClampNeg p11.1
  n_chk (Nat.beq (n_kd G x1) 4) <|
  n_chk (n_in G 14 (n_mr G x1 3) x2) <|
  n_chk (n_ib 11 (9 : Int32)) <|
  let M13 : nM := n_up M12 46 (9 : Int32).toNatClampNeg (M12 (n_mr G x1 3) x2.toNatClampNeg)
  n_chk (Nat.beq (n_kd G x1) 4) <|
  n_chk (n_ib 11 (10 : Int32)) <|
  let M14 : nM := n_up M13 46 (10 : Int32).toNatClampNeg (M13 x1 9)
  some ((), M14)
set_option maxRecDepth 200000 in
theorem bX0_gatherFacts_0 {l : Launch} {w : nW} (N : Nat) {G : nG} (hG : n_GOK G) (x1 : Nat) (x2 : Int32) (x3 : Int32) (x4 : Int32) (M : nM) (r : Unit × nM) (h : fX0_gatherFacts N G x1 x2 x3 x4 M = some r) : n_At l w 1 mX0_gatherFacts 0 [(0, .ref 45), (1, .ref x1), (2, .int x2), (3, .int x3), (4, .int x4)] [] (G, M) (dv_v r.1, (G, r.2)) :=
  n_seg (fin := n_fin dv_v G) (K := []) 95 (iX0_gatherFacts N hG) n_ke (by rfl) h
theorem eX0_gatherFacts {l : Launch} {w : nW} (N : Nat) {G : nG} (hG : n_GOK G) (z1 : Nat) (z2 : Int32) (z3 : Int32) (z4 : Int32) (M : nM) (r : Unit × nM) (h : fX0_gatherFacts N G z1 z2 z3 z4 M = some r) : n_Met l w 1 mX0_gatherFacts [.ref 45, .ref z1, .int z2, .int z3, .int z4] (G, M) (dv_v r.1, (G, r.2)) :=
  n_entry (by decide +kernel) rfl (Nat.le_of_ble_eq_true rfl) (n_sub (lv := [(0, .ref 45), (1, .ref z1), (2, .int z2), (3, .int z3), (4, .int z4)]) (n_qc rfl (n_qc rfl (n_qc rfl (n_qc rfl (n_qc rfl n_qe))))) (bX0_gatherFacts_0 N hG z1 z2 z3 z4 M r h))
abbrev hX0_gatherFacts (N : Nat) (G : nG) : nF := fun T as M k => n_pC 45 as (fun as => n_pR as (fun z1 as => n_pI as (fun z2 as => n_pI as (fun z3 as => n_pI as (fun z4 as => n_pE as ((fX0_gatherFacts N G z1 z2 z3 z4 M).bind fun p => k (dv_v p.1) p.2))))))
theorem csX0_gatherFacts {l : Launch} {w : nW} (N : Nat) {G : nG} (hG : n_GOK G) : n_CS l w 1 mX0_gatherFacts G (hX0_gatherFacts N G) := fun T as M k r h => by
  obtain ⟨t0, rfl, h1⟩ := n_pC_x h
  obtain ⟨z1, t1, rfl, h2⟩ := n_pR_x h1
  obtain ⟨z2, t2, rfl, h3⟩ := n_pI_x h2
  obtain ⟨z3, t3, rfl, h4⟩ := n_pI_x h3
  obtain ⟨z4, t4, rfl, h5⟩ := n_pI_x h4
  obtain ⟨rfl, hE⟩ := n_pE_x h5
  obtain ⟨p, hp, hk⟩ := Option.bind_eq_some_iff.mp hE
  exact ⟨_, _, eX0_gatherFacts N hG z1 z2 z3 z4 M p hp, hk⟩
/-! ===== SleightHouse$Law.factOf([II)I ===== -/
def mX3_factOf : nY := (RX3, yX3_factOf, cX3_factOf, 2, some .int)
theorem okX3_factOf : n_MOK mX3_factOf 2 := ⟨w_733, w_144, ⟨by decide +kernel, by decide +kernel, by decide +kernel⟩, by decide⟩
abbrev aX3_factOf : List (Nat × nO (Int32 × nM)) := [(0, o_iload 1 1), (1, oi_lt 16 4), (4, o_iload 1 5), (5, o_aload 0 6), (6, o_alenc 46 11 7), (7, oc_ge 16 10), (10, o_aload 0 11), (11, o_iload 1 12), (12, o_aldc 46 11 13), (13, o_goto 17), (16, o_push (.int (0 : Int32)) 17), (17, o_iret)]
set_option maxRecDepth 200000 in
theorem iX3_factOf {l : Launch} {w : nW} {G : nG} (hG : n_GOK G) : n_AllS l w 0 mX3_factOf G (n_fin dv_i G) (aX3_factOf) :=
  n_c (s_iload_n (pc := 0) (k := 1) (by decide +kernel)) <|
  n_c (s_if_lt (pc := 1) (off := 15) (by decide +kernel) (by decide +kernel)) <|
  n_c (s_iload_n (pc := 4) (k := 1) (by decide +kernel)) <|
  n_c (s_aload_n (pc := 5) (k := 0) (by decide +kernel)) <|
  n_c (s_alenc (s_alenI (pc := 6) (by decide +kernel)) (gk46 hG) (gl46 hG)) <|
  n_c (s_icmp_ge (pc := 7) (off := 9) (by decide +kernel) (by decide +kernel)) <|
  n_c (s_aload_n (pc := 10) (k := 0) (by decide +kernel)) <|
  n_c (s_iload_n (pc := 11) (k := 1) (by decide +kernel)) <|
  n_c (s_aldc (s_iaload (pc := 12) (by decide +kernel)) (gk46 hG) (gl46 hG)) <|
  n_c (s_goto (pc := 13) (off := 4) (by decide +kernel) (by decide +kernel)) <|
  n_c (s_iconst (pc := 16) (n := 0) (by decide +kernel) (by decide +kernel)) <|
  n_c (s_iret (pc := 17) rfl (by decide +kernel)) <|
  n_e
def fX3_factOf (x1 : Int32) (M : nM) : Option (Int32 × nM) :=
  if x1 < 0 then
    some ((0 : Int32), M)
  else
    if (Int32.ofNat 11) ≤ x1 then
      some ((0 : Int32), M)
    else
      n_chk (n_ib 11 x1) <|
      some ((M 46 x1.toNatClampNeg), M)
set_option maxRecDepth 200000 in
theorem bX3_factOf_0 {l : Launch} {w : nW} {G : nG} (hG : n_GOK G) (x1 : Int32) (M : nM) (r : Int32 × nM) (h : fX3_factOf x1 M = some r) : n_At l w 0 mX3_factOf 0 [(0, .ref 46), (1, .int x1)] [] (G, M) (dv_i r.1, (G, r.2)) :=
  n_seg (fin := n_fin dv_i G) (K := []) 18 (iX3_factOf hG) n_ke (by rfl) h
theorem eX3_factOf {l : Launch} {w : nW} {G : nG} (hG : n_GOK G) (z1 : Int32) (M : nM) (r : Int32 × nM) (h : fX3_factOf z1 M = some r) : n_Met l w 0 mX3_factOf [.ref 46, .int z1] (G, M) (dv_i r.1, (G, r.2)) :=
  n_entry (by decide +kernel) rfl (Nat.le_of_ble_eq_true rfl) (n_sub (lv := [(0, .ref 46), (1, .int z1)]) (n_qc rfl (n_qc rfl n_qe)) (bX3_factOf_0 hG z1 M r h))
abbrev hX3_factOf : nF := fun T as M k => n_pC 46 as (fun as => n_pI as (fun z1 as => n_pE as ((fX3_factOf z1 M).bind fun p => k (dv_i p.1) p.2)))
theorem csX3_factOf {l : Launch} {w : nW} {G : nG} (hG : n_GOK G) : n_CS l w 0 mX3_factOf G (hX3_factOf) := fun T as M k r h => by
  obtain ⟨t0, rfl, h1⟩ := n_pC_x h
  obtain ⟨z1, t1, rfl, h2⟩ := n_pI_x h1
  obtain ⟨rfl, hE⟩ := n_pE_x h2
  obtain ⟨p, hp, hk⟩ := Option.bind_eq_some_iff.mp hE
  exact ⟨_, _, eX3_factOf hG z1 M p hp, hk⟩
/-! ===== SleightHouse$Law.ofOne(III)I ===== -/
def mX3_ofOne : nY := (RX3, yX3_ofOne, cX3_ofOne, 3, some .int)
theorem okX3_ofOne : n_MOK mX3_ofOne 3 := ⟨w_736, w_144, ⟨by decide +kernel, by decide +kernel, by decide +kernel⟩, by decide⟩
abbrev aX3_ofOne : List (Nat × nO (Int32 × nM)) := [(0, o_iload 0 1), (1, o_push (.int (3 : Int32)) 2), (2, oc_ne 9 5), (5, o_push (.int (1 : Int32)) 6), (6, o_iload 1 7), (7, o_isub 8), (8, o_iret), (9, o_iload 2 10), (10, oi_ne 17 13), (13, o_push (.int (0 : Int32)) 14), (14, o_goto 20), (17, o_iload 1 18), (18, o_iload 2 19), (19, o_idiv 20), (20, o_iret)]
set_option maxRecDepth 200000 in
theorem iX3_ofOne {l : Launch} {w : nW} {G : nG} : n_AllS l w 0 mX3_ofOne G (n_fin dv_i G) (aX3_ofOne) :=
  n_c (s_iload_n (pc := 0) (k := 0) (by decide +kernel)) <|
  n_c (s_iconst (pc := 1) (n := 3) (by decide +kernel) (by decide +kernel)) <|
  n_c (s_icmp_ne (pc := 2) (off := 7) (by decide +kernel) (by decide +kernel)) <|
  n_c (s_iconst (pc := 5) (n := 1) (by decide +kernel) (by decide +kernel)) <|
  n_c (s_iload_n (pc := 6) (k := 1) (by decide +kernel)) <|
  n_c (s_isub (pc := 7) (by decide +kernel)) <|
  n_c (s_iret (pc := 8) rfl (by decide +kernel)) <|
  n_c (s_iload_n (pc := 9) (k := 2) (by decide +kernel)) <|
  n_c (s_if_ne (pc := 10) (off := 7) (by decide +kernel) (by decide +kernel)) <|
  n_c (s_iconst (pc := 13) (n := 0) (by decide +kernel) (by decide +kernel)) <|
  n_c (s_goto (pc := 14) (off := 6) (by decide +kernel) (by decide +kernel)) <|
  n_c (s_iload_n (pc := 17) (k := 1) (by decide +kernel)) <|
  n_c (s_iload_n (pc := 18) (k := 2) (by decide +kernel)) <|
  n_c (s_idiv (pc := 19) (by decide +kernel)) <|
  n_c (s_iret (pc := 20) rfl (by decide +kernel)) <|
  n_e
def fX3_ofOne (x0 : Int32) (x1 : Int32) (x2 : Int32) (M : nM) : Option (Int32 × nM) :=
  if ¬ x0 = (3 : Int32) then
    if ¬ x2 = 0 then
      if x2 = 0 then none else
      some ((x1 / x2), M)
    else
      some ((0 : Int32), M)
  else
    some (((1 : Int32) - x1), M)
set_option maxRecDepth 200000 in
theorem bX3_ofOne_0 {l : Launch} {w : nW} {G : nG} (x0 : Int32) (x1 : Int32) (x2 : Int32) (M : nM) (r : Int32 × nM) (h : fX3_ofOne x0 x1 x2 M = some r) : n_At l w 0 mX3_ofOne 0 [(0, .int x0), (1, .int x1), (2, .int x2)] [] (G, M) (dv_i r.1, (G, r.2)) :=
  n_seg (fin := n_fin dv_i G) (K := []) 19 (iX3_ofOne) n_ke (by rfl) h
theorem eX3_ofOne {l : Launch} {w : nW} {G : nG} (z0 : Int32) (z1 : Int32) (z2 : Int32) (M : nM) (r : Int32 × nM) (h : fX3_ofOne z0 z1 z2 M = some r) : n_Met l w 0 mX3_ofOne [.int z0, .int z1, .int z2] (G, M) (dv_i r.1, (G, r.2)) :=
  n_entry (by decide +kernel) rfl (Nat.le_of_ble_eq_true rfl) (n_sub (lv := [(0, .int z0), (1, .int z1), (2, .int z2)]) (n_qc rfl (n_qc rfl (n_qc rfl n_qe))) (bX3_ofOne_0 z0 z1 z2 M r h))
abbrev hX3_ofOne : nF := fun T as M k => n_pI as (fun z0 as => n_pI as (fun z1 as => n_pI as (fun z2 as => n_pE as ((fX3_ofOne z0 z1 z2 M).bind fun p => k (dv_i p.1) p.2))))
theorem csX3_ofOne {l : Launch} {w : nW} {G : nG} : n_CS l w 0 mX3_ofOne G (hX3_ofOne) := fun T as M k r h => by
  obtain ⟨z0, t0, rfl, h1⟩ := n_pI_x h
  obtain ⟨z1, t1, rfl, h2⟩ := n_pI_x h1
  obtain ⟨z2, t2, rfl, h3⟩ := n_pI_x h2
  obtain ⟨rfl, hE⟩ := n_pE_x h3
  obtain ⟨p, hp, hk⟩ := Option.bind_eq_some_iff.mp hE
  exact ⟨_, _, eX3_ofOne z0 z1 z2 M p hp, hk⟩
/-! ===== SleightHouse$Law.ofTwo(III)I ===== -/
def mX3_ofTwo : nY := (RX3, yX3_ofTwo, cX3_ofTwo, 3, some .int)
theorem okX3_ofTwo : n_MOK mX3_ofTwo 3 := ⟨w_739, w_144, ⟨by decide +kernel, by decide +kernel, by decide +kernel⟩, by decide⟩
abbrev aX3_ofTwo : List (Nat × nO (Int32 × nM)) := [(0, o_iload 0 1), (1, o_sw [((4 : Int32), 44), ((5 : Int32), 48), ((6 : Int32), 52), ((7 : Int32), 56), ((8 : Int32), 67), ((9 : Int32), 78), ((10 : Int32), 89)] 93), (44, o_iload 1 45), (45, o_iload 2 46), (46, o_iadd 47), (47, o_iret), (48, o_iload 1 49), (49, o_iload 2 50), (50, o_isub 51), (51, o_iret), (52, o_iload 1 53), (53, o_iload 2 54), (54, o_imul 55), (55, o_iret), (56, o_iload 1 57), (57, o_iload 2 58), (58, oc_ge 65 61), (61, o_push (.int (1 : Int32)) 62), (62, o_goto 66), (65, o_push (.int (0 : Int32)) 66), (66, o_iret), (67, o_iload 1 68), (68, o_iload 2 69), (69, oc_ne 76 72), (72, o_push (.int (1 : Int32)) 73), (73, o_goto 77), (76, o_push (.int (0 : Int32)) 77), (77, o_iret), (78, o_iload 1 79), (79, o_iload 2 80), (80, oc_le 87 83), (83, o_push (.int (1 : Int32)) 84), (84, o_goto 88), (87, o_push (.int (0 : Int32)) 88), (88, o_iret), (89, o_iload 1 90), (90, o_iload 2 91), (91, o_iand 92), (92, o_iret), (93, o_iload 1 94), (94, o_iload 2 95), (95, o_ior 96), (96, o_iret)]
set_option maxRecDepth 200000 in
theorem iX3_ofTwo {l : Launch} {w : nW} {G : nG} : n_AllS l w 0 mX3_ofTwo G (n_fin dv_i G) (aX3_ofTwo) :=
  n_c (s_iload_n (pc := 0) (k := 0) (by decide +kernel)) <|
  n_c (s_tsw (pc := 1) (dflt := 92) (lo := 4) (hi := 10) (offs := #[43, 47, 51, 55, 66, 77, 88]) (len := 43) (by decide +kernel) (by decide +kernel)) <|
  n_c (s_iload_n (pc := 44) (k := 1) (by decide +kernel)) <|
  n_c (s_iload_n (pc := 45) (k := 2) (by decide +kernel)) <|
  n_c (s_iadd (pc := 46) (by decide +kernel)) <|
  n_c (s_iret (pc := 47) rfl (by decide +kernel)) <|
  n_c (s_iload_n (pc := 48) (k := 1) (by decide +kernel)) <|
  n_c (s_iload_n (pc := 49) (k := 2) (by decide +kernel)) <|
  n_c (s_isub (pc := 50) (by decide +kernel)) <|
  n_c (s_iret (pc := 51) rfl (by decide +kernel)) <|
  n_c (s_iload_n (pc := 52) (k := 1) (by decide +kernel)) <|
  n_c (s_iload_n (pc := 53) (k := 2) (by decide +kernel)) <|
  n_c (s_imul (pc := 54) (by decide +kernel)) <|
  n_c (s_iret (pc := 55) rfl (by decide +kernel)) <|
  n_c (s_iload_n (pc := 56) (k := 1) (by decide +kernel)) <|
  n_c (s_iload_n (pc := 57) (k := 2) (by decide +kernel)) <|
  n_c (s_icmp_ge (pc := 58) (off := 7) (by decide +kernel) (by decide +kernel)) <|
  n_c (s_iconst (pc := 61) (n := 1) (by decide +kernel) (by decide +kernel)) <|
  n_c (s_goto (pc := 62) (off := 4) (by decide +kernel) (by decide +kernel)) <|
  n_c (s_iconst (pc := 65) (n := 0) (by decide +kernel) (by decide +kernel)) <|
  n_c (s_iret (pc := 66) rfl (by decide +kernel)) <|
  n_c (s_iload_n (pc := 67) (k := 1) (by decide +kernel)) <|
  n_c (s_iload_n (pc := 68) (k := 2) (by decide +kernel)) <|
  n_c (s_icmp_ne (pc := 69) (off := 7) (by decide +kernel) (by decide +kernel)) <|
  n_c (s_iconst (pc := 72) (n := 1) (by decide +kernel) (by decide +kernel)) <|
  n_c (s_goto (pc := 73) (off := 4) (by decide +kernel) (by decide +kernel)) <|
  n_c (s_iconst (pc := 76) (n := 0) (by decide +kernel) (by decide +kernel)) <|
  n_c (s_iret (pc := 77) rfl (by decide +kernel)) <|
  n_c (s_iload_n (pc := 78) (k := 1) (by decide +kernel)) <|
  n_c (s_iload_n (pc := 79) (k := 2) (by decide +kernel)) <|
  n_c (s_icmp_le (pc := 80) (off := 7) (by decide +kernel) (by decide +kernel)) <|
  n_c (s_iconst (pc := 83) (n := 1) (by decide +kernel) (by decide +kernel)) <|
  n_c (s_goto (pc := 84) (off := 4) (by decide +kernel) (by decide +kernel)) <|
  n_c (s_iconst (pc := 87) (n := 0) (by decide +kernel) (by decide +kernel)) <|
  n_c (s_iret (pc := 88) rfl (by decide +kernel)) <|
  n_c (s_iload_n (pc := 89) (k := 1) (by decide +kernel)) <|
  n_c (s_iload_n (pc := 90) (k := 2) (by decide +kernel)) <|
  n_c (s_iand (pc := 91) (by decide +kernel)) <|
  n_c (s_iret (pc := 92) rfl (by decide +kernel)) <|
  n_c (s_iload_n (pc := 93) (k := 1) (by decide +kernel)) <|
  n_c (s_iload_n (pc := 94) (k := 2) (by decide +kernel)) <|
  n_c (s_ior (pc := 95) (by decide +kernel)) <|
  n_c (s_iret (pc := 96) rfl (by decide +kernel)) <|
  n_e
def fX3_ofTwo (x0 : Int32) (x1 : Int32) (x2 : Int32) (M : nM) : Option (Int32 × nM) :=
  if x0 = (4 : Int32) then
    some ((x1 + x2), M)
  else
  if x0 = (5 : Int32) then
    some ((x1 - x2), M)
  else
  if x0 = (6 : Int32) then
    some ((x1 * x2), M)
  else
  if x0 = (7 : Int32) then
    if x2 ≤ x1 then
      some ((0 : Int32), M)
    else
      some ((1 : Int32), M)
  else
  if x0 = (8 : Int32) then
    if ¬ x1 = x2 then
      some ((0 : Int32), M)
    else
      some ((1 : Int32), M)
  else
  if x0 = (9 : Int32) then
    if x1 ≤ x2 then
      some ((0 : Int32), M)
    else
      some ((1 : Int32), M)
  else
  if x0 = (10 : Int32) then
    some ((x1 &&& x2), M)
  else
  some ((x1 ||| x2), M)
set_option maxRecDepth 200000 in
theorem bX3_ofTwo_0 {l : Launch} {w : nW} {G : nG} (x0 : Int32) (x1 : Int32) (x2 : Int32) (M : nM) (r : Int32 × nM) (h : fX3_ofTwo x0 x1 x2 M = some r) : n_At l w 0 mX3_ofTwo 0 [(0, .int x0), (1, .int x1), (2, .int x2)] [] (G, M) (dv_i r.1, (G, r.2)) :=
  n_seg (fin := n_fin dv_i G) (K := []) 49 (iX3_ofTwo) n_ke (by rfl) h
theorem eX3_ofTwo {l : Launch} {w : nW} {G : nG} (z0 : Int32) (z1 : Int32) (z2 : Int32) (M : nM) (r : Int32 × nM) (h : fX3_ofTwo z0 z1 z2 M = some r) : n_Met l w 0 mX3_ofTwo [.int z0, .int z1, .int z2] (G, M) (dv_i r.1, (G, r.2)) :=
  n_entry (by decide +kernel) rfl (Nat.le_of_ble_eq_true rfl) (n_sub (lv := [(0, .int z0), (1, .int z1), (2, .int z2)]) (n_qc rfl (n_qc rfl (n_qc rfl n_qe))) (bX3_ofTwo_0 z0 z1 z2 M r h))
abbrev hX3_ofTwo : nF := fun T as M k => n_pI as (fun z0 as => n_pI as (fun z1 as => n_pI as (fun z2 as => n_pE as ((fX3_ofTwo z0 z1 z2 M).bind fun p => k (dv_i p.1) p.2))))
theorem csX3_ofTwo {l : Launch} {w : nW} {G : nG} : n_CS l w 0 mX3_ofTwo G (hX3_ofTwo) := fun T as M k r h => by
  obtain ⟨z0, t0, rfl, h1⟩ := n_pI_x h
  obtain ⟨z1, t1, rfl, h2⟩ := n_pI_x h1
  obtain ⟨z2, t2, rfl, h3⟩ := n_pI_x h2
  obtain ⟨rfl, hE⟩ := n_pE_x h3
  obtain ⟨p, hp, hk⟩ := Option.bind_eq_some_iff.mp hE
  exact ⟨_, _, eX3_ofTwo z0 z1 z2 M p hp, hk⟩
/-! ===== SleightHouse$Law.run(II[I[I)I ===== -/
def mX3_run : nY := (RX3, yX3_run, cX3_run, 9, some .int)
theorem okX3_run : n_MOK mX3_run 4 := ⟨w_729, w_144, ⟨by decide +kernel, by decide +kernel, by decide +kernel⟩, by decide⟩
abbrev aX3_run (N : Nat) : List (Nat × nO (Int32 × nM)) := [(0, o_push (.int (0 : Int32)) 1), (1, o_istore 9 5 3), (3, o_iload 1 4), (4, o_push (.int (0 : Int32)) 5), (5, o_mmax 8), (8, o_istore 9 6 10), (10, o_iload 6 12), (12, o_iload 2 13), (13, oc_ge 179 16), (16, o_iload 6 18), (18, o_push (.int (400 : Int32)) 21), (21, oc_ge 179 24), (24, o_aload 0 25), (25, o_gRc 16 17 28), (28, o_iload 6 30), (30, o_aldc 17 400 31), (31, o_push (.int (15 : Int32)) 33), (33, o_iand 34), (34, o_istore 9 7 36), (36, o_aload 0 37), (37, o_gRc 16 17 40), (40, o_iload 6 42), (42, o_aldc 17 400 43), (43, o_push (.int (4 : Int32)) 44), (44, o_ishr 45), (45, o_istore 9 8 47), (47, o_iload 7 49), (49, o_push (.int (1 : Int32)) 50), (50, oc_gt 88 53), (53, o_iload 5 55), (55, o_aload 4 57), (57, o_alenc 47 48 58), (58, oc_ge 173 61), (61, o_aload 4 63), (63, o_iload 5 65), (65, o_iload 7 67), (67, oi_ne 75 70), (70, o_iload 8 72), (72, o_goto 81), (75, o_aload 3 76), (76, o_iload 8 78), (78, o_call 2 (hX3_factOf) 81), (81, o_iastc 47 48 82), (82, o_inc 9 5 (1 : Int32) 85), (85, o_goto 173), (88, o_iload 7 90), (90, o_push (.int (3 : Int32)) 91), (91, oc_gt 132 94), (94, o_iload 5 96), (96, o_push (.int (1 : Int32)) 97), (97, oc_lt 173 100), (100, o_iload 5 102), (102, o_aload 4 104), (104, o_alenc 47 48 105), (105, oc_gt 173 108), (108, o_aload 4 110), (110, o_iload 5 112), (112, o_push (.int (1 : Int32)) 113), (113, o_isub 114), (114, o_iload 7 116), (116, o_aload 4 118), (118, o_iload 5 120), (120, o_push (.int (1 : Int32)) 121), (121, o_isub 122), (122, o_aldc 47 48 123), (123, o_iload 8 125), (125, o_call 3 (hX3_ofOne) 128), (128, o_iastc 47 48 129), (129, o_goto 173), (132, o_iload 5 134), (134, o_push (.int (2 : Int32)) 135), (135, oc_lt 173 138), (138, o_iload 5 140), (140, o_aload 4 142), (142, o_alenc 47 48 143), (143, oc_gt 173 146), (146, o_inc 9 5 (-1 : Int32) 149), (149, o_aload 4 151), (151, o_iload 5 153), (153, o_push (.int (1 : Int32)) 154), (154, o_isub 155), (155, o_iload 7 157), (157, o_aload 4 159), (159, o_iload 5 161), (161, o_push (.int (1 : Int32)) 162), (162, o_isub 163), (163, o_aldc 47 48 164), (164, o_aload 4 166), (166, o_iload 5 168), (168, o_aldc 47 48 169), (169, o_call 3 (hX3_ofTwo) 172), (172, o_iastc 47 48 173), (173, o_inc 9 6 (1 : Int32) 176), (176, o_goto 10), (179, o_iload 5 181), (181, o_push (.int (1 : Int32)) 182), (182, oc_ne 198 185), (185, o_aload 4 187), (187, o_alenc 47 48 188), (188, oi_le 198 191), (191, o_aload 4 193), (193, o_push (.int (0 : Int32)) 194), (194, o_aldc 47 48 195), (195, o_goto 199), (198, o_push (.int (0 : Int32)) 199), (199, o_iret)]
set_option maxRecDepth 200000 in
theorem iX3_run {l : Launch} {w : nW} (N : Nat) {G : nG} (hG : n_GOK G) : n_AllS l w 1 mX3_run G (n_fin dv_i G) (aX3_run N) :=
  n_c (s_iconst (pc := 0) (n := 0) (by decide +kernel) (by decide +kernel)) <|
  n_c (s_istore (pc := 1) (by decide +kernel)) <|
  n_c (s_iload_n (pc := 3) (k := 1) (by decide +kernel)) <|
  n_c (s_iconst (pc := 4) (n := 0) (by decide +kernel) (by decide +kernel)) <|
  n_c (s_mmax (pc := 5) w_730 w_295 w_143 w_296 (by decide +kernel)) <|
  n_c (s_istore (pc := 8) (by decide +kernel)) <|
  n_c (s_iload (pc := 10) (by decide +kernel)) <|
  n_c (s_iload_n (pc := 12) (k := 2) (by decide +kernel)) <|
  n_c (s_icmp_ge (pc := 13) (off := 166) (by decide +kernel) (by decide +kernel)) <|
  n_c (s_iload (pc := 16) (by decide +kernel)) <|
  n_c (s_sipush (pc := 18) (n := 400) (by decide +kernel) (by decide +kernel)) <|
  n_c (s_icmp_ge (pc := 21) (off := 158) (by decide +kernel) (by decide +kernel)) <|
  n_c (s_aload_n (pc := 24) (k := 0) (by decide +kernel)) <|
  n_c (s_gRc (s_getR (pc := 25) (ci := 3) (k := 0) (idx := 9) nok3 (by decide) rfl (by decide +kernel) w_325) (gk16 hG) (gm16_0 hG)) <|
  n_c (s_iload (pc := 28) (by decide +kernel)) <|
  n_c (s_aldc (s_iaload (pc := 30) (by decide +kernel)) (gk17 hG) (gl17 hG)) <|
  n_c (s_bipush (pc := 31) (n := 15) (by decide +kernel) (by decide +kernel)) <|
  n_c (s_iand (pc := 33) (by decide +kernel)) <|
  n_c (s_istore (pc := 34) (by decide +kernel)) <|
  n_c (s_aload_n (pc := 36) (k := 0) (by decide +kernel)) <|
  n_c (s_gRc (s_getR (pc := 37) (ci := 3) (k := 0) (idx := 9) nok3 (by decide) rfl (by decide +kernel) w_325) (gk16 hG) (gm16_0 hG)) <|
  n_c (s_iload (pc := 40) (by decide +kernel)) <|
  n_c (s_aldc (s_iaload (pc := 42) (by decide +kernel)) (gk17 hG) (gl17 hG)) <|
  n_c (s_iconst (pc := 43) (n := 4) (by decide +kernel) (by decide +kernel)) <|
  n_c (s_ishr (pc := 44) (by decide +kernel)) <|
  n_c (s_istore (pc := 45) (by decide +kernel)) <|
  n_c (s_iload (pc := 47) (by decide +kernel)) <|
  n_c (s_iconst (pc := 49) (n := 1) (by decide +kernel) (by decide +kernel)) <|
  n_c (s_icmp_gt (pc := 50) (off := 38) (by decide +kernel) (by decide +kernel)) <|
  n_c (s_iload (pc := 53) (by decide +kernel)) <|
  n_c (s_aload (pc := 55) (by decide +kernel)) <|
  n_c (s_alenc (s_alenI (pc := 57) (by decide +kernel)) (gk47 hG) (gl47 hG)) <|
  n_c (s_icmp_ge (pc := 58) (off := 115) (by decide +kernel) (by decide +kernel)) <|
  n_c (s_aload (pc := 61) (by decide +kernel)) <|
  n_c (s_iload (pc := 63) (by decide +kernel)) <|
  n_c (s_iload (pc := 65) (by decide +kernel)) <|
  n_c (s_if_ne (pc := 67) (off := 8) (by decide +kernel) (by decide +kernel)) <|
  n_c (s_iload (pc := 70) (by decide +kernel)) <|
  n_c (s_goto (pc := 72) (off := 9) (by decide +kernel) (by decide +kernel)) <|
  n_c (s_aload_n (pc := 75) (k := 3) (by decide +kernel)) <|
  n_c (s_iload (pc := 76) (by decide +kernel)) <|
  n_c (s_callS (pc := 78) (csX3_factOf hG) (by decide) okX3_factOf w_732 w_731 (by decide +kernel)) <|
  n_c (s_iastc (s_iastore (pc := 81) (by decide +kernel)) (gk47 hG) (gl47 hG)) <|
  n_c (s_iinc (pc := 82) (n := 1) (by decide +kernel) (by decide +kernel)) <|
  n_c (s_goto (pc := 85) (off := 88) (by decide +kernel) (by decide +kernel)) <|
  n_c (s_iload (pc := 88) (by decide +kernel)) <|
  n_c (s_iconst (pc := 90) (n := 3) (by decide +kernel) (by decide +kernel)) <|
  n_c (s_icmp_gt (pc := 91) (off := 41) (by decide +kernel) (by decide +kernel)) <|
  n_c (s_iload (pc := 94) (by decide +kernel)) <|
  n_c (s_iconst (pc := 96) (n := 1) (by decide +kernel) (by decide +kernel)) <|
  n_c (s_icmp_lt (pc := 97) (off := 76) (by decide +kernel) (by decide +kernel)) <|
  n_c (s_iload (pc := 100) (by decide +kernel)) <|
  n_c (s_aload (pc := 102) (by decide +kernel)) <|
  n_c (s_alenc (s_alenI (pc := 104) (by decide +kernel)) (gk47 hG) (gl47 hG)) <|
  n_c (s_icmp_gt (pc := 105) (off := 68) (by decide +kernel) (by decide +kernel)) <|
  n_c (s_aload (pc := 108) (by decide +kernel)) <|
  n_c (s_iload (pc := 110) (by decide +kernel)) <|
  n_c (s_iconst (pc := 112) (n := 1) (by decide +kernel) (by decide +kernel)) <|
  n_c (s_isub (pc := 113) (by decide +kernel)) <|
  n_c (s_iload (pc := 114) (by decide +kernel)) <|
  n_c (s_aload (pc := 116) (by decide +kernel)) <|
  n_c (s_iload (pc := 118) (by decide +kernel)) <|
  n_c (s_iconst (pc := 120) (n := 1) (by decide +kernel) (by decide +kernel)) <|
  n_c (s_isub (pc := 121) (by decide +kernel)) <|
  n_c (s_aldc (s_iaload (pc := 122) (by decide +kernel)) (gk47 hG) (gl47 hG)) <|
  n_c (s_iload (pc := 123) (by decide +kernel)) <|
  n_c (s_callS (pc := 125) (csX3_ofOne) (by decide) okX3_ofOne w_735 w_734 (by decide +kernel)) <|
  n_c (s_iastc (s_iastore (pc := 128) (by decide +kernel)) (gk47 hG) (gl47 hG)) <|
  n_c (s_goto (pc := 129) (off := 44) (by decide +kernel) (by decide +kernel)) <|
  n_c (s_iload (pc := 132) (by decide +kernel)) <|
  n_c (s_iconst (pc := 134) (n := 2) (by decide +kernel) (by decide +kernel)) <|
  n_c (s_icmp_lt (pc := 135) (off := 38) (by decide +kernel) (by decide +kernel)) <|
  n_c (s_iload (pc := 138) (by decide +kernel)) <|
  n_c (s_aload (pc := 140) (by decide +kernel)) <|
  n_c (s_alenc (s_alenI (pc := 142) (by decide +kernel)) (gk47 hG) (gl47 hG)) <|
  n_c (s_icmp_gt (pc := 143) (off := 30) (by decide +kernel) (by decide +kernel)) <|
  n_c (s_iinc (pc := 146) (n := -1) (by decide +kernel) (by decide +kernel)) <|
  n_c (s_aload (pc := 149) (by decide +kernel)) <|
  n_c (s_iload (pc := 151) (by decide +kernel)) <|
  n_c (s_iconst (pc := 153) (n := 1) (by decide +kernel) (by decide +kernel)) <|
  n_c (s_isub (pc := 154) (by decide +kernel)) <|
  n_c (s_iload (pc := 155) (by decide +kernel)) <|
  n_c (s_aload (pc := 157) (by decide +kernel)) <|
  n_c (s_iload (pc := 159) (by decide +kernel)) <|
  n_c (s_iconst (pc := 161) (n := 1) (by decide +kernel) (by decide +kernel)) <|
  n_c (s_isub (pc := 162) (by decide +kernel)) <|
  n_c (s_aldc (s_iaload (pc := 163) (by decide +kernel)) (gk47 hG) (gl47 hG)) <|
  n_c (s_aload (pc := 164) (by decide +kernel)) <|
  n_c (s_iload (pc := 166) (by decide +kernel)) <|
  n_c (s_aldc (s_iaload (pc := 168) (by decide +kernel)) (gk47 hG) (gl47 hG)) <|
  n_c (s_callS (pc := 169) (csX3_ofTwo) (by decide) okX3_ofTwo w_738 w_737 (by decide +kernel)) <|
  n_c (s_iastc (s_iastore (pc := 172) (by decide +kernel)) (gk47 hG) (gl47 hG)) <|
  n_c (s_iinc (pc := 173) (n := 1) (by decide +kernel) (by decide +kernel)) <|
  n_c (s_goto (pc := 176) (off := -166) (by decide +kernel) (by decide +kernel)) <|
  n_c (s_iload (pc := 179) (by decide +kernel)) <|
  n_c (s_iconst (pc := 181) (n := 1) (by decide +kernel) (by decide +kernel)) <|
  n_c (s_icmp_ne (pc := 182) (off := 16) (by decide +kernel) (by decide +kernel)) <|
  n_c (s_aload (pc := 185) (by decide +kernel)) <|
  n_c (s_alenc (s_alenI (pc := 187) (by decide +kernel)) (gk47 hG) (gl47 hG)) <|
  n_c (s_if_le (pc := 188) (off := 10) (by decide +kernel) (by decide +kernel)) <|
  n_c (s_aload (pc := 191) (by decide +kernel)) <|
  n_c (s_iconst (pc := 193) (n := 0) (by decide +kernel) (by decide +kernel)) <|
  n_c (s_aldc (s_iaload (pc := 194) (by decide +kernel)) (gk47 hG) (gl47 hG)) <|
  n_c (s_goto (pc := 195) (off := 4) (by decide +kernel) (by decide +kernel)) <|
  n_c (s_iconst (pc := 198) (n := 0) (by decide +kernel) (by decide +kernel)) <|
  n_c (s_iret (pc := 199) rfl (by decide +kernel)) <|
  n_e
def fX3_run_179 (N : Nat) (x5 : Int32) (M : nM) : Option (Int32 × nM) :=
  if ¬ x5 = (1 : Int32) then
    some ((0 : Int32), M)
  else
    if (Int32.ofNat 48) ≤ 0 then
      some ((0 : Int32), M)
    else
      n_chk (n_ib 48 (0 : Int32)) <|
      some ((M 47 (0 : Int32).toNatClampNeg), M)
set_option maxRecDepth 200000 in
theorem bX3_run_179 {l : Launch} {w : nW} (N : Nat) {G : nG} (hG : n_GOK G) (x5 : Int32) (M : nM) (r : Int32 × nM) (h : fX3_run_179 N x5 M = some r) : n_At l w 1 mX3_run 179 [(4, .ref 47), (5, .int x5)] [] (G, M) (dv_i r.1, (G, r.2)) :=
  n_seg (fin := n_fin dv_i G) (K := []) 18 (iX3_run N hG) n_ke (by rfl) h
def fX3_run_10 (N : Nat) : Nat → Int32 → Int32 → Int32 → nM → Option (Int32 × nM)
  | 0, _, _, _, _ => none
  | n + 1, x2, x5, x6, M =>
    if x2 ≤ x6 then
      fX3_run_179 N x5 M
    else
      if (400 : Int32) ≤ x6 then
        fX3_run_179 N x5 M
      else
        n_chk (n_ib 400 x6) <|
        let v1 : Int32 := ((M 17 x6.toNatClampNeg) &&& (15 : Int32))
        n_chk (n_ib 400 x6) <|
        let v2 : Int32 := ((M 17 x6.toNatClampNeg) >>> ((4 : Int32) &&& 31))
        if (1 : Int32) < v1 then
          if (3 : Int32) < v1 then
            if x5 < (2 : Int32) then
              let v3 : Int32 := (x6 + (1 : Int32))
              fX3_run_10 N n x2 x5 v3 M
            else
              if (Int32.ofNat 48) < x5 then
                let v4 : Int32 := (x6 + (1 : Int32))
                fX3_run_10 N n x2 x5 v4 M
              else
                let v5 : Int32 := (x5 + (-1 : Int32))
                n_chk (n_ib 48 (v5 - (1 : Int32))) <|
                n_chk (n_ib 48 v5) <|
                (fX3_ofTwo v1 (M 47 (v5 - (1 : Int32)).toNatClampNeg) (M 47 v5.toNatClampNeg) M).bind fun p6 =>
                n_chk (n_ib 48 (v5 - (1 : Int32))) <|
                let M7 : nM := n_up p6.2 47 (v5 - (1 : Int32)).toNatClampNeg p6.1
                let v8 : Int32 := (x6 + (1 : Int32))
                fX3_run_10 N n x2 v5 v8 M7
          else
            if x5 < (1 : Int32) then
              let v9 : Int32 := (x6 + (1 : Int32))
              fX3_run_10 N n x2 x5 v9 M
            else
              if (Int32.ofNat 48) < x5 then
                let v10 : Int32 := (x6 + (1 : Int32))
                fX3_run_10 N n x2 x5 v10 M
              else
                n_chk (n_ib 48 (x5 - (1 : Int32))) <|
                (fX3_ofOne v1 (M 47 (x5 - (1 : Int32)).toNatClampNeg) v2 M).bind fun p11 =>
                n_chk (n_ib 48 (x5 - (1 : Int32))) <|
                let M12 : nM := n_up p11.2 47 (x5 - (1 : Int32)).toNatClampNeg p11.1
                let v13 : Int32 := (x6 + (1 : Int32))
                fX3_run_10 N n x2 x5 v13 M12
        else
          if (Int32.ofNat 48) ≤ x5 then
            let v14 : Int32 := (x6 + (1 : Int32))
            fX3_run_10 N n x2 x5 v14 M
          else
            if ¬ v1 = 0 then
              (fX3_factOf v2 M).bind fun p15 =>
              n_chk (n_ib 48 x5) <|
              let M16 : nM := n_up p15.2 47 x5.toNatClampNeg p15.1
              let v17 : Int32 := (x5 + (1 : Int32))
              let v18 : Int32 := (x6 + (1 : Int32))
              fX3_run_10 N n x2 v17 v18 M16
            else
              n_chk (n_ib 48 x5) <|
              let M19 : nM := n_up M 47 x5.toNatClampNeg v2
              let v20 : Int32 := (x5 + (1 : Int32))
              let v21 : Int32 := (x6 + (1 : Int32))
              fX3_run_10 N n x2 v20 v21 M19
set_option maxRecDepth 200000 in
theorem bX3_run_10 {l : Launch} {w : nW} (N : Nat) {G : nG} (hG : n_GOK G) : ∀ (n : Nat) (x2 : Int32) (x5 : Int32) (x6 : Int32) (M : nM) (r : Int32 × nM), fX3_run_10 N n x2 x5 x6 M = some r → n_At l w 1 mX3_run 10 [(0, .ref 16), (2, .int x2), (3, .ref 46), (4, .ref 47), (5, .int x5), (6, .int x6)] [] (G, M) (dv_i r.1, (G, r.2)) := by
  intro n
  induction n with
  | zero => intro x2 x5 x6 M r h; cases (show (none : Option (Int32 × nM)) = some r from h)
  | succ n ih =>
    intro x2 x5 x6 M r h
    exact n_seg (fin := n_fin dv_i G) (K := [(10, fun lv st M => n_lC 16 lv 0 (n_lI lv 2 (fun x2 => n_lC 46 lv 3 (n_lC 47 lv 4 (n_lI lv 5 (fun x5 => n_lI lv 6 (fun x6 => n_pE st (fX3_run_10 N n x2 x5 x6 M)))))))), (179, fun lv st M => n_lC 47 lv 4 (n_lI lv 5 (fun x5 => n_pE st (fX3_run_179 N x5 M))))]) 110 (iX3_run N hG) (n_kc (fun lv st M r h => by
      obtain ⟨e0, h1⟩ := n_lC_x h
      obtain ⟨x2, e2, h2⟩ := n_lI_x h1
      obtain ⟨e3, h3⟩ := n_lC_x h2
      obtain ⟨e4, h4⟩ := n_lC_x h3
      obtain ⟨x5, e5, h5⟩ := n_lI_x h4
      obtain ⟨x6, e6, h6⟩ := n_lI_x h5
      obtain ⟨rfl, h7⟩ := n_pE_x h6
      exact n_sub (n_qc e0 (n_qc e2 (n_qc e3 (n_qc e4 (n_qc e5 (n_qc e6 n_qe)))))) (ih x2 x5 x6 M r h7)) (n_kc (fun lv st M r h => by
      obtain ⟨e4, h1⟩ := n_lC_x h
      obtain ⟨x5, e5, h2⟩ := n_lI_x h1
      obtain ⟨rfl, h3⟩ := n_pE_x h2
      exact n_sub (n_qc e4 (n_qc e5 n_qe)) (bX3_run_179 N hG x5 M r h3)) n_ke)) (by rfl) h
def fX3_run (N : Nat) (x1 : Int32) (x2 : Int32) (M : nM) : Option (Int32 × nM) :=
  let v1 : Int32 := (if x1 < (0 : Int32) then (0 : Int32) else x1)
  fX3_run_10 N N x2 (0 : Int32) v1 M
set_option maxRecDepth 200000 in
theorem bX3_run_0 {l : Launch} {w : nW} (N : Nat) {G : nG} (hG : n_GOK G) (x1 : Int32) (x2 : Int32) (M : nM) (r : Int32 × nM) (h : fX3_run N x1 x2 M = some r) : n_At l w 1 mX3_run 0 [(0, .ref 16), (1, .int x1), (2, .int x2), (3, .ref 46), (4, .ref 47)] [] (G, M) (dv_i r.1, (G, r.2)) :=
  n_seg (fin := n_fin dv_i G) (K := [(10, fun lv st M => n_lC 16 lv 0 (n_lI lv 2 (fun x2 => n_lC 46 lv 3 (n_lC 47 lv 4 (n_lI lv 5 (fun x5 => n_lI lv 6 (fun x6 => n_pE st (fX3_run_10 N N x2 x5 x6 M))))))))]) 9 (iX3_run N hG) (n_kc (fun lv st M r h => by
      obtain ⟨e0, h1⟩ := n_lC_x h
      obtain ⟨x2, e2, h2⟩ := n_lI_x h1
      obtain ⟨e3, h3⟩ := n_lC_x h2
      obtain ⟨e4, h4⟩ := n_lC_x h3
      obtain ⟨x5, e5, h5⟩ := n_lI_x h4
      obtain ⟨x6, e6, h6⟩ := n_lI_x h5
      obtain ⟨rfl, h7⟩ := n_pE_x h6
      exact n_sub (n_qc e0 (n_qc e2 (n_qc e3 (n_qc e4 (n_qc e5 (n_qc e6 n_qe)))))) (bX3_run_10 N hG N x2 x5 x6 M r h7)) n_ke) (by rfl) h
theorem eX3_run {l : Launch} {w : nW} (N : Nat) {G : nG} (hG : n_GOK G) (z1 : Int32) (z2 : Int32) (M : nM) (r : Int32 × nM) (h : fX3_run N z1 z2 M = some r) : n_Met l w 1 mX3_run [.ref 16, .int z1, .int z2, .ref 46, .ref 47] (G, M) (dv_i r.1, (G, r.2)) :=
  n_entry (by decide +kernel) rfl (Nat.le_of_ble_eq_true rfl) (n_sub (lv := [(0, .ref 16), (1, .int z1), (2, .int z2), (3, .ref 46), (4, .ref 47)]) (n_qc rfl (n_qc rfl (n_qc rfl (n_qc rfl (n_qc rfl n_qe))))) (bX3_run_0 N hG z1 z2 M r h))
abbrev hX3_run (N : Nat) : nF := fun T as M k => n_pC 16 as (fun as => n_pI as (fun z1 as => n_pI as (fun z2 as => n_pC 46 as (fun as => n_pC 47 as (fun as => n_pE as ((fX3_run N z1 z2 M).bind fun p => k (dv_i p.1) p.2))))))
theorem csX3_run {l : Launch} {w : nW} (N : Nat) {G : nG} (hG : n_GOK G) : n_CS l w 1 mX3_run G (hX3_run N) := fun T as M k r h => by
  obtain ⟨t0, rfl, h1⟩ := n_pC_x h
  obtain ⟨z1, t1, rfl, h2⟩ := n_pI_x h1
  obtain ⟨z2, t2, rfl, h3⟩ := n_pI_x h2
  obtain ⟨t3, rfl, h4⟩ := n_pC_x h3
  obtain ⟨t4, rfl, h5⟩ := n_pC_x h4
  obtain ⟨rfl, hE⟩ := n_pE_x h5
  obtain ⟨p, hp, hk⟩ := Option.bind_eq_some_iff.mp hE
  exact ⟨_, _, eX3_run N hG z1 z2 M p hp, hk⟩
/-! ===== SleightHouse$Law.lineFor(I[I[I)I ===== -/
def mX3_lineFor : nY := (RX3, yX3_lineFor, cX3_lineFor, 5, some .int)
theorem okX3_lineFor : n_MOK mX3_lineFor 3 := ⟨w_725, w_144, ⟨by decide +kernel, by decide +kernel, by decide +kernel⟩, by decide⟩
abbrev aX3_lineFor (N : Nat) : List (Nat × nO (Int32 × nM)) := [(0, o_push (.int (0 : Int32)) 1), (1, o_istore 5 4 3), (3, o_iload 4 5), (5, o_aload 0 6), (6, o_gIc 16 6 9), (9, oc_ge 72 12), (12, o_aload 0 13), (13, o_gRc 16 18 16), (16, o_iload 4 18), (18, o_aldc 18 16 19), (19, o_iload 1 20), (20, oc_ne 66 23), (23, o_aload 0 24), (24, o_gRc 16 20 27), (27, o_iload 4 29), (29, o_aldc 20 16 30), (30, o_aload 0 31), (31, o_gRc 16 21 34), (34, o_iload 4 36), (36, o_aldc 21 16 37), (37, oc_eq 63 40), (40, o_aload 0 41), (41, o_aload 0 42), (42, o_gRc 16 20 45), (45, o_iload 4 47), (47, o_aldc 20 16 48), (48, o_aload 0 49), (49, o_gRc 16 21 52), (52, o_iload 4 54), (54, o_aldc 21 16 55), (55, o_aload 2 56), (56, o_aload 3 57), (57, o_callVc 16 4 (hX3_run N) 60), (60, oi_eq 66 63), (63, o_iload 4 65), (65, o_iret), (66, o_inc 5 4 (1 : Int32) 69), (69, o_goto 3), (72, o_push (.int (-1 : Int32)) 73), (73, o_iret)]
set_option maxRecDepth 200000 in
theorem iX3_lineFor {l : Launch} {w : nW} (N : Nat) {G : nG} (hG : n_GOK G) : n_AllS l w 2 mX3_lineFor G (n_fin dv_i G) (aX3_lineFor N) :=
  n_c (s_iconst (pc := 0) (n := 0) (by decide +kernel) (by decide +kernel)) <|
  n_c (s_istore (pc := 1) (by decide +kernel)) <|
  n_c (s_iload (pc := 3) (by decide +kernel)) <|
  n_c (s_aload_n (pc := 5) (k := 0) (by decide +kernel)) <|
  n_c (s_gIc (s_getI (pc := 6) (ci := 3) (k := 6) (idx := 31) nok3 (by decide) rfl (by decide +kernel) w_331) (gk16 hG)) <|
  n_c (s_icmp_ge (pc := 9) (off := 63) (by decide +kernel) (by decide +kernel)) <|
  n_c (s_aload_n (pc := 12) (k := 0) (by decide +kernel)) <|
  n_c (s_gRc (s_getR (pc := 13) (ci := 3) (k := 1) (idx := 15) nok3 (by decide) rfl (by decide +kernel) w_326) (gk16 hG) (gm16_1 hG)) <|
  n_c (s_iload (pc := 16) (by decide +kernel)) <|
  n_c (s_aldc (s_iaload (pc := 18) (by decide +kernel)) (gk18 hG) (gl18 hG)) <|
  n_c (s_iload_n (pc := 19) (k := 1) (by decide +kernel)) <|
  n_c (s_icmp_ne (pc := 20) (off := 46) (by decide +kernel) (by decide +kernel)) <|
  n_c (s_aload_n (pc := 23) (k := 0) (by decide +kernel)) <|
  n_c (s_gRc (s_getR (pc := 24) (ci := 3) (k := 3) (idx := 21) nok3 (by decide) rfl (by decide +kernel) w_328) (gk16 hG) (gm16_3 hG)) <|
  n_c (s_iload (pc := 27) (by decide +kernel)) <|
  n_c (s_aldc (s_iaload (pc := 29) (by decide +kernel)) (gk20 hG) (gl20 hG)) <|
  n_c (s_aload_n (pc := 30) (k := 0) (by decide +kernel)) <|
  n_c (s_gRc (s_getR (pc := 31) (ci := 3) (k := 4) (idx := 24) nok3 (by decide) rfl (by decide +kernel) w_329) (gk16 hG) (gm16_4 hG)) <|
  n_c (s_iload (pc := 34) (by decide +kernel)) <|
  n_c (s_aldc (s_iaload (pc := 36) (by decide +kernel)) (gk21 hG) (gl21 hG)) <|
  n_c (s_icmp_eq (pc := 37) (off := 26) (by decide +kernel) (by decide +kernel)) <|
  n_c (s_aload_n (pc := 40) (k := 0) (by decide +kernel)) <|
  n_c (s_aload_n (pc := 41) (k := 0) (by decide +kernel)) <|
  n_c (s_gRc (s_getR (pc := 42) (ci := 3) (k := 3) (idx := 21) nok3 (by decide) rfl (by decide +kernel) w_328) (gk16 hG) (gm16_3 hG)) <|
  n_c (s_iload (pc := 45) (by decide +kernel)) <|
  n_c (s_aldc (s_iaload (pc := 47) (by decide +kernel)) (gk20 hG) (gl20 hG)) <|
  n_c (s_aload_n (pc := 48) (k := 0) (by decide +kernel)) <|
  n_c (s_gRc (s_getR (pc := 49) (ci := 3) (k := 4) (idx := 24) nok3 (by decide) rfl (by decide +kernel) w_329) (gk16 hG) (gm16_4 hG)) <|
  n_c (s_iload (pc := 52) (by decide +kernel)) <|
  n_c (s_aldc (s_iaload (pc := 54) (by decide +kernel)) (gk21 hG) (gl21 hG)) <|
  n_c (s_aload_n (pc := 55) (k := 2) (by decide +kernel)) <|
  n_c (s_aload_n (pc := 56) (k := 3) (by decide +kernel)) <|
  n_c (s_callVc (s_callV (pc := 57) (csX3_run N hG) (by decide) okX3_run nok3 w_728 w_5 w_726 (by decide +kernel)) (gk16 hG)) <|
  n_c (s_if_eq (pc := 60) (off := 6) (by decide +kernel) (by decide +kernel)) <|
  n_c (s_iload (pc := 63) (by decide +kernel)) <|
  n_c (s_iret (pc := 65) rfl (by decide +kernel)) <|
  n_c (s_iinc (pc := 66) (n := 1) (by decide +kernel) (by decide +kernel)) <|
  n_c (s_goto (pc := 69) (off := -66) (by decide +kernel) (by decide +kernel)) <|
  n_c (s_iconst (pc := 72) (n := -1) (by decide +kernel) (by decide +kernel)) <|
  n_c (s_iret (pc := 73) rfl (by decide +kernel)) <|
  n_e
def fX3_lineFor_3 (N : Nat) : Nat → Int32 → Int32 → nM → Option (Int32 × nM)
  | 0, _, _, _ => none
  | n + 1, x1, x4, M =>
    if (M 16 6) ≤ x4 then
      some ((-1 : Int32), M)
    else
      n_chk (n_ib 16 x4) <|
      if ¬ (M 18 x4.toNatClampNeg) = x1 then
        let v1 : Int32 := (x4 + (1 : Int32))
        fX3_lineFor_3 N n x1 v1 M
      else
        n_chk (n_ib 16 x4) <|
        n_chk (n_ib 16 x4) <|
        if (M 20 x4.toNatClampNeg) = (M 21 x4.toNatClampNeg) then
          some (x4, M)
        else
          n_chk (n_ib 16 x4) <|
          n_chk (n_ib 16 x4) <|
          (fX3_run N (M 20 x4.toNatClampNeg) (M 21 x4.toNatClampNeg) M).bind fun p2 =>
          if p2.1 = 0 then
            let v3 : Int32 := (x4 + (1 : Int32))
            fX3_lineFor_3 N n x1 v3 p2.2
          else
            some (x4, p2.2)
set_option maxRecDepth 200000 in
theorem bX3_lineFor_3 {l : Launch} {w : nW} (N : Nat) {G : nG} (hG : n_GOK G) : ∀ (n : Nat) (x1 : Int32) (x4 : Int32) (M : nM) (r : Int32 × nM), fX3_lineFor_3 N n x1 x4 M = some r → n_At l w 2 mX3_lineFor 3 [(0, .ref 16), (1, .int x1), (2, .ref 46), (3, .ref 47), (4, .int x4)] [] (G, M) (dv_i r.1, (G, r.2)) := by
  intro n
  induction n with
  | zero => intro x1 x4 M r h; cases (show (none : Option (Int32 × nM)) = some r from h)
  | succ n ih =>
    intro x1 x4 M r h
    exact n_seg (fin := n_fin dv_i G) (K := [(3, fun lv st M => n_lC 16 lv 0 (n_lI lv 1 (fun x1 => n_lC 46 lv 2 (n_lC 47 lv 3 (n_lI lv 4 (fun x4 => n_pE st (fX3_lineFor_3 N n x1 x4 M)))))))]) 45 (iX3_lineFor N hG) (n_kc (fun lv st M r h => by
      obtain ⟨e0, h1⟩ := n_lC_x h
      obtain ⟨x1, e1, h2⟩ := n_lI_x h1
      obtain ⟨e2, h3⟩ := n_lC_x h2
      obtain ⟨e3, h4⟩ := n_lC_x h3
      obtain ⟨x4, e4, h5⟩ := n_lI_x h4
      obtain ⟨rfl, h6⟩ := n_pE_x h5
      exact n_sub (n_qc e0 (n_qc e1 (n_qc e2 (n_qc e3 (n_qc e4 n_qe))))) (ih x1 x4 M r h6)) n_ke) (by rfl) h
def fX3_lineFor (N : Nat) (x1 : Int32) (M : nM) : Option (Int32 × nM) :=
  fX3_lineFor_3 N N x1 (0 : Int32) M
set_option maxRecDepth 200000 in
theorem bX3_lineFor_0 {l : Launch} {w : nW} (N : Nat) {G : nG} (hG : n_GOK G) (x1 : Int32) (M : nM) (r : Int32 × nM) (h : fX3_lineFor N x1 M = some r) : n_At l w 2 mX3_lineFor 0 [(0, .ref 16), (1, .int x1), (2, .ref 46), (3, .ref 47)] [] (G, M) (dv_i r.1, (G, r.2)) :=
  n_seg (fin := n_fin dv_i G) (K := [(3, fun lv st M => n_lC 16 lv 0 (n_lI lv 1 (fun x1 => n_lC 46 lv 2 (n_lC 47 lv 3 (n_lI lv 4 (fun x4 => n_pE st (fX3_lineFor_3 N N x1 x4 M)))))))]) 5 (iX3_lineFor N hG) (n_kc (fun lv st M r h => by
      obtain ⟨e0, h1⟩ := n_lC_x h
      obtain ⟨x1, e1, h2⟩ := n_lI_x h1
      obtain ⟨e2, h3⟩ := n_lC_x h2
      obtain ⟨e3, h4⟩ := n_lC_x h3
      obtain ⟨x4, e4, h5⟩ := n_lI_x h4
      obtain ⟨rfl, h6⟩ := n_pE_x h5
      exact n_sub (n_qc e0 (n_qc e1 (n_qc e2 (n_qc e3 (n_qc e4 n_qe))))) (bX3_lineFor_3 N hG N x1 x4 M r h6)) n_ke) (by rfl) h
theorem eX3_lineFor {l : Launch} {w : nW} (N : Nat) {G : nG} (hG : n_GOK G) (z1 : Int32) (M : nM) (r : Int32 × nM) (h : fX3_lineFor N z1 M = some r) : n_Met l w 2 mX3_lineFor [.ref 16, .int z1, .ref 46, .ref 47] (G, M) (dv_i r.1, (G, r.2)) :=
  n_entry (by decide +kernel) rfl (Nat.le_of_ble_eq_true rfl) (n_sub (lv := [(0, .ref 16), (1, .int z1), (2, .ref 46), (3, .ref 47)]) (n_qc rfl (n_qc rfl (n_qc rfl (n_qc rfl n_qe)))) (bX3_lineFor_0 N hG z1 M r h))
abbrev hX3_lineFor (N : Nat) : nF := fun T as M k => n_pC 16 as (fun as => n_pI as (fun z1 as => n_pC 46 as (fun as => n_pC 47 as (fun as => n_pE as ((fX3_lineFor N z1 M).bind fun p => k (dv_i p.1) p.2)))))
theorem csX3_lineFor {l : Launch} {w : nW} (N : Nat) {G : nG} (hG : n_GOK G) : n_CS l w 2 mX3_lineFor G (hX3_lineFor N) := fun T as M k r h => by
  obtain ⟨t0, rfl, h1⟩ := n_pC_x h
  obtain ⟨z1, t1, rfl, h2⟩ := n_pI_x h1
  obtain ⟨t2, rfl, h3⟩ := n_pC_x h2
  obtain ⟨t3, rfl, h4⟩ := n_pC_x h3
  obtain ⟨rfl, hE⟩ := n_pE_x h4
  obtain ⟨p, hp, hk⟩ := Option.bind_eq_some_iff.mp hE
  exact ⟨_, _, eX3_lineFor N hG z1 M p hp, hk⟩
/-! ===== SleightHouse$Doings.withoutLaw(I)I ===== -/
def mX0_withoutLaw : nY := (RX0, yX0_withoutLaw, cX0_withoutLaw, 2, some .int)
theorem okX0_withoutLaw : n_MOK mX0_withoutLaw 1 := ⟨w_743, w_146, ⟨by decide +kernel, by decide +kernel, by decide +kernel⟩, by decide⟩
abbrev aX0_withoutLaw : List (Nat × nO (Int32 × nM)) := [(0, o_iload 1 1), (1, oi_ne 24 4), (4, o_push (.int (80 : Int32)) 6), (6, o_aload 0 7), (7, o_gRc 45 46 10), (10, o_push (.int (0 : Int32)) 11), (11, o_aldc 46 11 12), (12, o_imul 13), (13, o_push (.int (20 : Int32)) 15), (15, o_aload 0 16), (16, o_gRc 45 46 19), (19, o_push (.int (2 : Int32)) 20), (20, o_aldc 46 11 21), (21, o_imul 22), (22, o_isub 23), (23, o_iret), (24, o_iload 1 25), (25, o_push (.int (1 : Int32)) 26), (26, oc_ne 40 29), (29, o_push (.int (1 : Int32)) 30), (30, o_aload 0 31), (31, o_gRc 45 46 34), (34, o_push (.int (0 : Int32)) 35), (35, o_aldc 46 11 36), (36, o_iadd 37), (37, o_goto 53), (40, o_push (.int (500 : Int32)) 43), (43, o_push (.int (50 : Int32)) 45), (45, o_aload 0 46), (46, o_gRc 45 46 49), (49, o_push (.int (1 : Int32)) 50), (50, o_aldc 46 11 51), (51, o_imul 52), (52, o_iadd 53), (53, o_iret)]
set_option maxRecDepth 200000 in
theorem iX0_withoutLaw {l : Launch} {w : nW} {G : nG} (hG : n_GOK G) : n_AllS l w 0 mX0_withoutLaw G (n_fin dv_i G) (aX0_withoutLaw) :=
  n_c (s_iload_n (pc := 0) (k := 1) (by decide +kernel)) <|
  n_c (s_if_ne (pc := 1) (off := 23) (by decide +kernel) (by decide +kernel)) <|
  n_c (s_bipush (pc := 4) (n := 80) (by decide +kernel) (by decide +kernel)) <|
  n_c (s_aload_n (pc := 6) (k := 0) (by decide +kernel)) <|
  n_c (s_gRc (s_getR (pc := 7) (ci := 0) (k := 1) (idx := 11) nok0 (by decide) rfl (by decide +kernel) w_447) (gk45 hG) (gm45_1 hG)) <|
  n_c (s_iconst (pc := 10) (n := 0) (by decide +kernel) (by decide +kernel)) <|
  n_c (s_aldc (s_iaload (pc := 11) (by decide +kernel)) (gk46 hG) (gl46 hG)) <|
  n_c (s_imul (pc := 12) (by decide +kernel)) <|
  n_c (s_bipush (pc := 13) (n := 20) (by decide +kernel) (by decide +kernel)) <|
  n_c (s_aload_n (pc := 15) (k := 0) (by decide +kernel)) <|
  n_c (s_gRc (s_getR (pc := 16) (ci := 0) (k := 1) (idx := 11) nok0 (by decide) rfl (by decide +kernel) w_447) (gk45 hG) (gm45_1 hG)) <|
  n_c (s_iconst (pc := 19) (n := 2) (by decide +kernel) (by decide +kernel)) <|
  n_c (s_aldc (s_iaload (pc := 20) (by decide +kernel)) (gk46 hG) (gl46 hG)) <|
  n_c (s_imul (pc := 21) (by decide +kernel)) <|
  n_c (s_isub (pc := 22) (by decide +kernel)) <|
  n_c (s_iret (pc := 23) rfl (by decide +kernel)) <|
  n_c (s_iload_n (pc := 24) (k := 1) (by decide +kernel)) <|
  n_c (s_iconst (pc := 25) (n := 1) (by decide +kernel) (by decide +kernel)) <|
  n_c (s_icmp_ne (pc := 26) (off := 14) (by decide +kernel) (by decide +kernel)) <|
  n_c (s_iconst (pc := 29) (n := 1) (by decide +kernel) (by decide +kernel)) <|
  n_c (s_aload_n (pc := 30) (k := 0) (by decide +kernel)) <|
  n_c (s_gRc (s_getR (pc := 31) (ci := 0) (k := 1) (idx := 11) nok0 (by decide) rfl (by decide +kernel) w_447) (gk45 hG) (gm45_1 hG)) <|
  n_c (s_iconst (pc := 34) (n := 0) (by decide +kernel) (by decide +kernel)) <|
  n_c (s_aldc (s_iaload (pc := 35) (by decide +kernel)) (gk46 hG) (gl46 hG)) <|
  n_c (s_iadd (pc := 36) (by decide +kernel)) <|
  n_c (s_goto (pc := 37) (off := 16) (by decide +kernel) (by decide +kernel)) <|
  n_c (s_sipush (pc := 40) (n := 500) (by decide +kernel) (by decide +kernel)) <|
  n_c (s_bipush (pc := 43) (n := 50) (by decide +kernel) (by decide +kernel)) <|
  n_c (s_aload_n (pc := 45) (k := 0) (by decide +kernel)) <|
  n_c (s_gRc (s_getR (pc := 46) (ci := 0) (k := 1) (idx := 11) nok0 (by decide) rfl (by decide +kernel) w_447) (gk45 hG) (gm45_1 hG)) <|
  n_c (s_iconst (pc := 49) (n := 1) (by decide +kernel) (by decide +kernel)) <|
  n_c (s_aldc (s_iaload (pc := 50) (by decide +kernel)) (gk46 hG) (gl46 hG)) <|
  n_c (s_imul (pc := 51) (by decide +kernel)) <|
  n_c (s_iadd (pc := 52) (by decide +kernel)) <|
  n_c (s_iret (pc := 53) rfl (by decide +kernel)) <|
  n_e
def fX0_withoutLaw (x1 : Int32) (M : nM) : Option (Int32 × nM) :=
  if ¬ x1 = 0 then
    if ¬ x1 = (1 : Int32) then
      n_chk (n_ib 11 (1 : Int32)) <|
      some (((500 : Int32) + ((50 : Int32) * (M 46 (1 : Int32).toNatClampNeg))), M)
    else
      n_chk (n_ib 11 (0 : Int32)) <|
      some (((1 : Int32) + (M 46 (0 : Int32).toNatClampNeg)), M)
  else
    n_chk (n_ib 11 (0 : Int32)) <|
    n_chk (n_ib 11 (2 : Int32)) <|
    some ((((80 : Int32) * (M 46 (0 : Int32).toNatClampNeg)) - ((20 : Int32) * (M 46 (2 : Int32).toNatClampNeg))), M)
set_option maxRecDepth 200000 in
theorem bX0_withoutLaw_0 {l : Launch} {w : nW} {G : nG} (hG : n_GOK G) (x1 : Int32) (M : nM) (r : Int32 × nM) (h : fX0_withoutLaw x1 M = some r) : n_At l w 0 mX0_withoutLaw 0 [(0, .ref 45), (1, .int x1)] [] (G, M) (dv_i r.1, (G, r.2)) :=
  n_seg (fin := n_fin dv_i G) (K := []) 39 (iX0_withoutLaw hG) n_ke (by rfl) h
theorem eX0_withoutLaw {l : Launch} {w : nW} {G : nG} (hG : n_GOK G) (z1 : Int32) (M : nM) (r : Int32 × nM) (h : fX0_withoutLaw z1 M = some r) : n_Met l w 0 mX0_withoutLaw [.ref 45, .int z1] (G, M) (dv_i r.1, (G, r.2)) :=
  n_entry (by decide +kernel) rfl (Nat.le_of_ble_eq_true rfl) (n_sub (lv := [(0, .ref 45), (1, .int z1)]) (n_qc rfl (n_qc rfl n_qe)) (bX0_withoutLaw_0 hG z1 M r h))
abbrev hX0_withoutLaw : nF := fun T as M k => n_pC 45 as (fun as => n_pI as (fun z1 as => n_pE as ((fX0_withoutLaw z1 M).bind fun p => k (dv_i p.1) p.2)))
theorem csX0_withoutLaw {l : Launch} {w : nW} {G : nG} (hG : n_GOK G) : n_CS l w 0 mX0_withoutLaw G (hX0_withoutLaw) := fun T as M k r h => by
  obtain ⟨t0, rfl, h1⟩ := n_pC_x h
  obtain ⟨z1, t1, rfl, h2⟩ := n_pI_x h1
  obtain ⟨rfl, hE⟩ := n_pE_x h2
  obtain ⟨p, hp, hk⟩ := Option.bind_eq_some_iff.mp hE
  exact ⟨_, _, eX0_withoutLaw hG z1 M p hp, hk⟩
