/-! ===== SleightHouse.swap(II)I ===== -/
def mX11_swap : nY := (RX11, yX11_swap, cX11_swap, 3, some .int)
theorem okX11_swap : n_MOK mX11_swap 2 := ⟨w_1128, w_137, ⟨by decide +kernel, by decide +kernel, by decide +kernel⟩, by decide⟩
abbrev aX11_swap (G : nG) : List (Nat × nO (Int32 × nM)) := [(0, o_iload 1 1), (1, o_push (.int (-1 : Int32)) 2), (2, oc_ne 19 5), (5, o_aload 0 6), (6, o_gRc 1 2 9), (9, o_gRc 2 28 12), (12, o_gRc 28 29 15), (15, o_callVc 29 0 (hX7_clear G) 18), (18, o_iret), (19, o_iload 1 20), (20, o_push (.int (0 : Int32)) 21), (21, o_push (.int (9 : Int32)) 23), (23, o_call 3 (hX11_within) 26), (26, oi_eq 44 29), (29, o_iload 2 30), (30, o_push (.int (0 : Int32)) 31), (31, o_push (.int (9 : Int32)) 33), (33, o_call 3 (hX11_within) 36), (36, oi_eq 44 39), (39, o_iload 1 40), (40, o_iload 2 41), (41, oc_ne 46 44), (44, o_push (.int (-1 : Int32)) 45), (45, o_iret), (46, o_aload 0 47), (47, o_gRc 1 2 50), (50, o_gRc 2 28 53), (53, o_gRc 28 29 56), (56, o_iload 1 57), (57, o_iload 2 58), (58, o_push (.int (0 : Int32)) 59), (59, o_push (.int (0 : Int32)) 60), (60, o_callVc 29 4 (hX7_add G) 63), (63, o_iret)]
set_option maxRecDepth 200000 in
theorem iX11_swap {l : Launch} {w : nW} {G : nG} (hG : n_GOK G) : n_AllS l w 2 mX11_swap G (n_fin dv_i G) (aX11_swap G) :=
  n_c (s_iload_n (pc := 0) (k := 1) (by decide +kernel)) <|
  n_c (s_iconst (pc := 1) (n := -1) (by decide +kernel) (by decide +kernel)) <|
  n_c (s_icmp_ne (pc := 2) (off := 17) (by decide +kernel) (by decide +kernel)) <|
  n_c (s_aload_n (pc := 5) (k := 0) (by decide +kernel)) <|
  n_c (s_gRc (s_getR (pc := 6) (ci := 11) (k := 0) (idx := 10) nok11 (by decide) rfl (by decide +kernel) w_572) (gk1 hG) (gm1_0 hG)) <|
  n_c (s_gRc (s_getR (pc := 9) (ci := 1) (k := 7) (idx := 56) nok1 (by decide) rfl (by decide +kernel) w_421) (gk2 hG) (gm2_7 hG)) <|
  n_c (s_gRc (s_getR (pc := 12) (ci := 10) (k := 0) (idx := 283) nok10 (by decide) rfl (by decide +kernel) w_359) (gk28 hG) (gm28_0 hG)) <|
  n_c (s_callVc (s_callV (pc := 15) (csX7_clear) (by decide) okX7_clear nok7 w_962 w_963 w_1129 (by decide +kernel)) (gk29 hG)) <|
  n_c (s_iret (pc := 18) rfl (by decide +kernel)) <|
  n_c (s_iload_n (pc := 19) (k := 1) (by decide +kernel)) <|
  n_c (s_iconst (pc := 20) (n := 0) (by decide +kernel) (by decide +kernel)) <|
  n_c (s_bipush (pc := 21) (n := 9) (by decide +kernel) (by decide +kernel)) <|
  n_c (s_callS (pc := 23) (csX11_within) (by decide) okX11_within w_610 w_609 (by decide +kernel)) <|
  n_c (s_if_eq (pc := 26) (off := 18) (by decide +kernel) (by decide +kernel)) <|
  n_c (s_iload_n (pc := 29) (k := 2) (by decide +kernel)) <|
  n_c (s_iconst (pc := 30) (n := 0) (by decide +kernel) (by decide +kernel)) <|
  n_c (s_bipush (pc := 31) (n := 9) (by decide +kernel) (by decide +kernel)) <|
  n_c (s_callS (pc := 33) (csX11_within) (by decide) okX11_within w_610 w_609 (by decide +kernel)) <|
  n_c (s_if_eq (pc := 36) (off := 8) (by decide +kernel) (by decide +kernel)) <|
  n_c (s_iload_n (pc := 39) (k := 1) (by decide +kernel)) <|
  n_c (s_iload_n (pc := 40) (k := 2) (by decide +kernel)) <|
  n_c (s_icmp_ne (pc := 41) (off := 5) (by decide +kernel) (by decide +kernel)) <|
  n_c (s_iconst (pc := 44) (n := -1) (by decide +kernel) (by decide +kernel)) <|
  n_c (s_iret (pc := 45) rfl (by decide +kernel)) <|
  n_c (s_aload_n (pc := 46) (k := 0) (by decide +kernel)) <|
  n_c (s_gRc (s_getR (pc := 47) (ci := 11) (k := 0) (idx := 10) nok11 (by decide) rfl (by decide +kernel) w_572) (gk1 hG) (gm1_0 hG)) <|
  n_c (s_gRc (s_getR (pc := 50) (ci := 1) (k := 7) (idx := 56) nok1 (by decide) rfl (by decide +kernel) w_421) (gk2 hG) (gm2_7 hG)) <|
  n_c (s_gRc (s_getR (pc := 53) (ci := 10) (k := 0) (idx := 283) nok10 (by decide) rfl (by decide +kernel) w_359) (gk28 hG) (gm28_0 hG)) <|
  n_c (s_iload_n (pc := 56) (k := 1) (by decide +kernel)) <|
  n_c (s_iload_n (pc := 57) (k := 2) (by decide +kernel)) <|
  n_c (s_iconst (pc := 58) (n := 0) (by decide +kernel) (by decide +kernel)) <|
  n_c (s_iconst (pc := 59) (n := 0) (by decide +kernel) (by decide +kernel)) <|
  n_c (s_callVc (s_callV (pc := 60) (csX7_add) (by decide) okX7_add nok7 w_1030 w_1031 w_1130 (by decide +kernel)) (gk29 hG)) <|
  n_c (s_iret (pc := 63) rfl (by decide +kernel)) <|
  n_e
def fX11_swap (G : nG) (x1 : Int32) (x2 : Int32) (M : nM) : Option (Int32 × nM) :=
  if ¬ x1 = (-1 : Int32) then
    (fX11_within x1 (0 : Int32) (9 : Int32) M).bind fun p1 =>
    if p1.1 = 0 then
      some ((-1 : Int32), p1.2)
    else
      (fX11_within x2 (0 : Int32) (9 : Int32) p1.2).bind fun p2 =>
      if p2.1 = 0 then
        some ((-1 : Int32), p2.2)
      else
        if ¬ x1 = x2 then
          (fX7_add G 29 x1 x2 (0 : Int32) (0 : Int32) p2.2).bind fun p3 =>
          some (p3.1, p3.2)
        else
          some ((-1 : Int32), p2.2)
  else
    (fX7_clear G 29 M).bind fun p4 =>
    some (p4.1, p4.2)
set_option maxRecDepth 200000 in
theorem bX11_swap_0 {l : Launch} {w : nW} {G : nG} (hG : n_GOK G) (x1 : Int32) (x2 : Int32) (M : nM) (r : Int32 × nM) (h : fX11_swap G x1 x2 M = some r) : n_At l w 2 mX11_swap 0 [(0, .ref 1), (1, .int x1), (2, .int x2)] [] (G, M) (dv_i r.1, (G, r.2)) :=
  n_seg (fin := n_fin dv_i G) (K := []) 41 (iX11_swap hG) n_ke (by rfl) h
theorem eX11_swap {l : Launch} {w : nW} {G : nG} (hG : n_GOK G) (z1 : Int32) (z2 : Int32) (M : nM) (r : Int32 × nM) (h : fX11_swap G z1 z2 M = some r) : n_Met l w 2 mX11_swap [.ref 1, .int z1, .int z2] (G, M) (dv_i r.1, (G, r.2)) :=
  n_entry (by decide +kernel) rfl (Nat.le_of_ble_eq_true rfl) (n_sub (lv := [(0, .ref 1), (1, .int z1), (2, .int z2)]) (n_qc rfl (n_qc rfl (n_qc rfl n_qe))) (bX11_swap_0 hG z1 z2 M r h))
abbrev hX11_swap (G : nG) : nF := fun T as M k => n_pC 1 as (fun as => n_pI as (fun z1 as => n_pI as (fun z2 as => n_pE as ((fX11_swap G z1 z2 M).bind fun p => k (dv_i p.1) p.2))))
theorem csX11_swap {l : Launch} {w : nW} {G : nG} (hG : n_GOK G) : n_CS l w 2 mX11_swap G (hX11_swap G) := fun T as M k r h => by
  obtain ⟨t0, rfl, h1⟩ := n_pC_x h
  obtain ⟨z1, t1, rfl, h2⟩ := n_pI_x h1
  obtain ⟨z2, t2, rfl, h3⟩ := n_pI_x h2
  obtain ⟨rfl, hE⟩ := n_pE_x h3
  obtain ⟨p, hp, hk⟩ := Option.bind_eq_some_iff.mp hE
  exact ⟨_, _, eX11_swap hG z1 z2 M p hp, hk⟩
/-! ===== SleightHouseModel.swap(II)I ===== -/
def mX12_swap : nY := (RX12, yX12_swap, cX12_swap, 3, some .int)
theorem okX12_swap : n_MOK mX12_swap 2 := ⟨w_1998, w_151, ⟨by decide +kernel, by decide +kernel, by decide +kernel⟩, by decide⟩
abbrev aX12_swap : List (Nat × nO (Int32 × nM)) := [(0, o_aload 0 1), (1, o_push (.int (0 : Int32)) 2), (2, o_pIc 107 0 5), (5, o_iload 1 6), (6, o_push (.int (-1 : Int32)) 7), (7, oc_ne 17 10), (10, o_aload 0 11), (11, o_push (.int (0 : Int32)) 12), (12, o_pIc 107 46 15), (15, o_push (.int (0 : Int32)) 16), (16, o_iret), (17, o_aload 0 18), (18, o_iload 1 19), (19, o_push (.int (0 : Int32)) 20), (20, o_push (.int (9 : Int32)) 22), (22, o_callVc 107 3 (hX12_isIn) 25), (25, oi_eq 53 28), (28, o_aload 0 29), (29, o_iload 2 30), (30, o_push (.int (0 : Int32)) 31), (31, o_push (.int (9 : Int32)) 33), (33, o_callVc 107 3 (hX12_isIn) 36), (36, oi_eq 53 39), (39, o_iload 1 40), (40, o_iload 2 41), (41, oc_eq 53 44), (44, o_aload 0 45), (45, o_gIc 107 46 48), (48, o_push (.int (16 : Int32)) 50), (50, oc_ne 55 53), (53, o_push (.int (-1 : Int32)) 54), (54, o_iret), (55, o_aload 0 56), (56, o_gRc 107 133 59), (59, o_aload 0 60), (60, o_gIc 107 46 63), (63, o_iload 1 64), (64, o_iastc 133 16 65), (65, o_aload 0 66), (66, o_gRc 107 134 69), (69, o_aload 0 70), (70, o_gIc 107 46 73), (73, o_iload 2 74), (74, o_iastc 134 16 75), (75, o_aload 0 76), (76, o_aload 0 77), (77, o_gIc 107 46 80), (80, o_push (.int (1 : Int32)) 81), (81, o_iadd 82), (82, o_pIc 107 46 85), (85, o_aload 0 86), (86, o_gIc 107 46 89), (89, o_iret)]
set_option maxRecDepth 200000 in
theorem iX12_swap {l : Launch} {w : nW} {G : nG} (hG : n_GOK G) : n_AllS l w 1 mX12_swap G (n_fin dv_i G) (aX12_swap) :=
  n_c (s_aload_n (pc := 0) (k := 0) (by decide +kernel)) <|
  n_c (s_iconst (pc := 1) (n := 0) (by decide +kernel) (by decide +kernel)) <|
  n_c (s_pIc (s_putI (pc := 2) (ci := 12) (k := 0) (idx := 146) nok12 (by decide) rfl rfl (by decide +kernel) w_1407) (gk107 hG)) <|
  n_c (s_iload_n (pc := 5) (k := 1) (by decide +kernel)) <|
  n_c (s_iconst (pc := 6) (n := -1) (by decide +kernel) (by decide +kernel)) <|
  n_c (s_icmp_ne (pc := 7) (off := 10) (by decide +kernel) (by decide +kernel)) <|
  n_c (s_aload_n (pc := 10) (k := 0) (by decide +kernel)) <|
  n_c (s_iconst (pc := 11) (n := 0) (by decide +kernel) (by decide +kernel)) <|
  n_c (s_pIc (s_putI (pc := 12) (ci := 12) (k := 46) (idx := 419) nok12 (by decide) rfl rfl (by decide +kernel) w_1453) (gk107 hG)) <|
  n_c (s_iconst (pc := 15) (n := 0) (by decide +kernel) (by decide +kernel)) <|
  n_c (s_iret (pc := 16) rfl (by decide +kernel)) <|
  n_c (s_aload_n (pc := 17) (k := 0) (by decide +kernel)) <|
  n_c (s_iload_n (pc := 18) (k := 1) (by decide +kernel)) <|
  n_c (s_iconst (pc := 19) (n := 0) (by decide +kernel) (by decide +kernel)) <|
  n_c (s_bipush (pc := 20) (n := 9) (by decide +kernel) (by decide +kernel)) <|
  n_c (s_callVc (s_callV (pc := 22) (csX12_isIn) (by decide) okX12_isIn nok12 w_1659 w_46 w_1657 (by decide +kernel)) (gk107 hG)) <|
  n_c (s_if_eq (pc := 25) (off := 28) (by decide +kernel) (by decide +kernel)) <|
  n_c (s_aload_n (pc := 28) (k := 0) (by decide +kernel)) <|
  n_c (s_iload_n (pc := 29) (k := 2) (by decide +kernel)) <|
  n_c (s_iconst (pc := 30) (n := 0) (by decide +kernel) (by decide +kernel)) <|
  n_c (s_bipush (pc := 31) (n := 9) (by decide +kernel) (by decide +kernel)) <|
  n_c (s_callVc (s_callV (pc := 33) (csX12_isIn) (by decide) okX12_isIn nok12 w_1659 w_46 w_1657 (by decide +kernel)) (gk107 hG)) <|
  n_c (s_if_eq (pc := 36) (off := 17) (by decide +kernel) (by decide +kernel)) <|
  n_c (s_iload_n (pc := 39) (k := 1) (by decide +kernel)) <|
  n_c (s_iload_n (pc := 40) (k := 2) (by decide +kernel)) <|
  n_c (s_icmp_eq (pc := 41) (off := 12) (by decide +kernel) (by decide +kernel)) <|
  n_c (s_aload_n (pc := 44) (k := 0) (by decide +kernel)) <|
  n_c (s_gIc (s_getI (pc := 45) (ci := 12) (k := 46) (idx := 419) nok12 (by decide) rfl (by decide +kernel) w_1453) (gk107 hG)) <|
  n_c (s_bipush (pc := 48) (n := 16) (by decide +kernel) (by decide +kernel)) <|
  n_c (s_icmp_ne (pc := 50) (off := 5) (by decide +kernel) (by decide +kernel)) <|
  n_c (s_iconst (pc := 53) (n := -1) (by decide +kernel) (by decide +kernel)) <|
  n_c (s_iret (pc := 54) rfl (by decide +kernel)) <|
  n_c (s_aload_n (pc := 55) (k := 0) (by decide +kernel)) <|
  n_c (s_gRc (s_getR (pc := 56) (ci := 12) (k := 47) (idx := 89) nok12 (by decide) rfl (by decide +kernel) w_1454) (gk107 hG) (gm107_47 hG)) <|
  n_c (s_aload_n (pc := 59) (k := 0) (by decide +kernel)) <|
  n_c (s_gIc (s_getI (pc := 60) (ci := 12) (k := 46) (idx := 419) nok12 (by decide) rfl (by decide +kernel) w_1453) (gk107 hG)) <|
  n_c (s_iload_n (pc := 63) (k := 1) (by decide +kernel)) <|
  n_c (s_iastc (s_iastore (pc := 64) (by decide +kernel)) (gk133 hG) (gl133 hG)) <|
  n_c (s_aload_n (pc := 65) (k := 0) (by decide +kernel)) <|
  n_c (s_gRc (s_getR (pc := 66) (ci := 12) (k := 48) (idx := 92) nok12 (by decide) rfl (by decide +kernel) w_1455) (gk107 hG) (gm107_48 hG)) <|
  n_c (s_aload_n (pc := 69) (k := 0) (by decide +kernel)) <|
  n_c (s_gIc (s_getI (pc := 70) (ci := 12) (k := 46) (idx := 419) nok12 (by decide) rfl (by decide +kernel) w_1453) (gk107 hG)) <|
  n_c (s_iload_n (pc := 73) (k := 2) (by decide +kernel)) <|
  n_c (s_iastc (s_iastore (pc := 74) (by decide +kernel)) (gk134 hG) (gl134 hG)) <|
  n_c (s_aload_n (pc := 75) (k := 0) (by decide +kernel)) <|
  n_c (s_aload_n (pc := 76) (k := 0) (by decide +kernel)) <|
  n_c (s_gIc (s_getI (pc := 77) (ci := 12) (k := 46) (idx := 419) nok12 (by decide) rfl (by decide +kernel) w_1453) (gk107 hG)) <|
  n_c (s_iconst (pc := 80) (n := 1) (by decide +kernel) (by decide +kernel)) <|
  n_c (s_iadd (pc := 81) (by decide +kernel)) <|
  n_c (s_pIc (s_putI (pc := 82) (ci := 12) (k := 46) (idx := 419) nok12 (by decide) rfl rfl (by decide +kernel) w_1453) (gk107 hG)) <|
  n_c (s_aload_n (pc := 85) (k := 0) (by decide +kernel)) <|
  n_c (s_gIc (s_getI (pc := 86) (ci := 12) (k := 46) (idx := 419) nok12 (by decide) rfl (by decide +kernel) w_1453) (gk107 hG)) <|
  n_c (s_iret (pc := 89) rfl (by decide +kernel)) <|
  n_e
def fX12_swap (x1 : Int32) (x2 : Int32) (M : nM) : Option (Int32 × nM) :=
  let M1 : nM := n_up M 107 0 (0 : Int32)
  if ¬ x1 = (-1 : Int32) then
    (fX12_isIn x1 (0 : Int32) (9 : Int32) M1).bind fun p2 =>
    if p2.1 = 0 then
      some ((-1 : Int32), p2.2)
    else
      (fX12_isIn x2 (0 : Int32) (9 : Int32) p2.2).bind fun p3 =>
      if p3.1 = 0 then
        some ((-1 : Int32), p3.2)
      else
        if x1 = x2 then
          some ((-1 : Int32), p3.2)
        else
          if ¬ (p3.2 107 46) = (16 : Int32) then
            n_chk (n_ib 16 (p3.2 107 46)) <|
            let M4 : nM := n_up p3.2 133 (p3.2 107 46).toNatClampNeg x1
            n_chk (n_ib 16 (M4 107 46)) <|
            let M5 : nM := n_up M4 134 (M4 107 46).toNatClampNeg x2
            let M6 : nM := n_up M5 107 46 ((M5 107 46) + (1 : Int32))
            some ((M6 107 46), M6)
          else
            some ((-1 : Int32), p3.2)
  else
    let M7 : nM := n_up M1 107 46 (0 : Int32)
    some ((0 : Int32), M7)
set_option maxRecDepth 200000 in
theorem bX12_swap_0 {l : Launch} {w : nW} {G : nG} (hG : n_GOK G) (x1 : Int32) (x2 : Int32) (M : nM) (r : Int32 × nM) (h : fX12_swap x1 x2 M = some r) : n_At l w 1 mX12_swap 0 [(0, .ref 107), (1, .int x1), (2, .int x2)] [] (G, M) (dv_i r.1, (G, r.2)) :=
  n_seg (fin := n_fin dv_i G) (K := []) 62 (iX12_swap hG) n_ke (by rfl) h
theorem eX12_swap {l : Launch} {w : nW} {G : nG} (hG : n_GOK G) (z1 : Int32) (z2 : Int32) (M : nM) (r : Int32 × nM) (h : fX12_swap z1 z2 M = some r) : n_Met l w 1 mX12_swap [.ref 107, .int z1, .int z2] (G, M) (dv_i r.1, (G, r.2)) :=
  n_entry (by decide +kernel) rfl (Nat.le_of_ble_eq_true rfl) (n_sub (lv := [(0, .ref 107), (1, .int z1), (2, .int z2)]) (n_qc rfl (n_qc rfl (n_qc rfl n_qe))) (bX12_swap_0 hG z1 z2 M r h))
abbrev hX12_swap : nF := fun T as M k => n_pC 107 as (fun as => n_pI as (fun z1 as => n_pI as (fun z2 as => n_pE as ((fX12_swap z1 z2 M).bind fun p => k (dv_i p.1) p.2))))
theorem csX12_swap {l : Launch} {w : nW} {G : nG} (hG : n_GOK G) : n_CS l w 1 mX12_swap G (hX12_swap) := fun T as M k r h => by
  obtain ⟨t0, rfl, h1⟩ := n_pC_x h
  obtain ⟨z1, t1, rfl, h2⟩ := n_pI_x h1
  obtain ⟨z2, t2, rfl, h3⟩ := n_pI_x h2
  obtain ⟨rfl, hE⟩ := n_pE_x h3
  obtain ⟨p, hp, hk⟩ := Option.bind_eq_some_iff.mp hE
  exact ⟨_, _, eX12_swap hG z1 z2 M p hp, hk⟩
/-! ===== SleightHouse$Thought.cupBehind(I)I ===== -/
def mX9_cupBehind : nY := (RX9, yX9_cupBehind, cX9_cupBehind, 6, some .int)
theorem okX9_cupBehind : n_MOK mX9_cupBehind 1 := ⟨w_1144, w_149, ⟨by decide +kernel, by decide +kernel, by decide +kernel⟩, by decide⟩
abbrev aX9_cupBehind (N : Nat) (G : nG) : List (Nat × nO (Int32 × nM)) := [(0, o_iload 1 1), (1, o_istore 6 2 2), (2, o_push (.int (0 : Int32)) 3), (3, o_istore 6 3 4), (4, o_iload 3 5), (5, o_aload 0 6), (6, o_gRc 98 28 9), (9, o_gRc 28 29 12), (12, o_gIc 29 3 15), (15, oc_ge 73 18), (18, o_aload 0 19), (19, o_gRc 98 28 22), (22, o_gRc 28 29 25), (25, o_iload 3 26), (26, o_push (.int (0 : Int32)) 27), (27, o_callVc 29 2 (hX7_cell G) 30), (30, o_istore 6 4 32), (32, o_aload 0 33), (33, o_gRc 98 28 36), (36, o_gRc 28 29 39), (39, o_iload 3 40), (40, o_push (.int (1 : Int32)) 41), (41, o_callVc 29 2 (hX7_cell G) 44), (44, o_istore 6 5 46), (46, o_iload 2 47), (47, o_iload 4 49), (49, oc_ne 58 52), (52, o_iload 5 54), (54, o_istore 6 2 55), (55, o_goto 67), (58, o_iload 2 59), (59, o_iload 5 61), (61, oc_ne 67 64), (64, o_iload 4 66), (66, o_istore 6 2 67), (67, o_inc 6 3 (1 : Int32) 70), (70, o_goto 4), (73, o_iload 2 74), (74, o_iret)]
set_option maxRecDepth 200000 in
theorem iX9_cupBehind {l : Launch} {w : nW} (N : Nat) {G : nG} (hG : n_GOK G) : n_AllS l w 1 mX9_cupBehind G (n_fin dv_i G) (aX9_cupBehind N G) :=
  n_c (s_iload_n (pc := 0) (k := 1) (by decide +kernel)) <|
  n_c (s_istore_n (pc := 1) (k := 2) (by decide +kernel)) <|
  n_c (s_iconst (pc := 2) (n := 0) (by decide +kernel) (by decide +kernel)) <|
  n_c (s_istore_n (pc := 3) (k := 3) (by decide +kernel)) <|
  n_c (s_iload_n (pc := 4) (k := 3) (by decide +kernel)) <|
  n_c (s_aload_n (pc := 5) (k := 0) (by decide +kernel)) <|
  n_c (s_gRc (s_getR (pc := 6) (ci := 9) (k := 0) (idx := 18) nok9 (by decide) rfl (by decide +kernel) w_537) (gk98 hG) (gm98_0 hG)) <|
  n_c (s_gRc (s_getR (pc := 9) (ci := 10) (k := 0) (idx := 22) nok10 (by decide) rfl (by decide +kernel) w_358) (gk28 hG) (gm28_0 hG)) <|
  n_c (s_gIc (s_getI (pc := 12) (ci := 7) (k := 3) (idx := 28) nok7 (by decide) rfl (by decide +kernel) w_304) (gk29 hG)) <|
  n_c (s_icmp_ge (pc := 15) (off := 58) (by decide +kernel) (by decide +kernel)) <|
  n_c (s_aload_n (pc := 18) (k := 0) (by decide +kernel)) <|
  n_c (s_gRc (s_getR (pc := 19) (ci := 9) (k := 0) (idx := 18) nok9 (by decide) rfl (by decide +kernel) w_537) (gk98 hG) (gm98_0 hG)) <|
  n_c (s_gRc (s_getR (pc := 22) (ci := 10) (k := 0) (idx := 22) nok10 (by decide) rfl (by decide +kernel) w_358) (gk28 hG) (gm28_0 hG)) <|
  n_c (s_iload_n (pc := 25) (k := 3) (by decide +kernel)) <|
  n_c (s_iconst (pc := 26) (n := 0) (by decide +kernel) (by decide +kernel)) <|
  n_c (s_callVc (s_callV (pc := 27) (csX7_cell) (by decide) okX7_cell nok7 w_786 w_787 w_1145 (by decide +kernel)) (gk29 hG)) <|
  n_c (s_istore (pc := 30) (by decide +kernel)) <|
  n_c (s_aload_n (pc := 32) (k := 0) (by decide +kernel)) <|
  n_c (s_gRc (s_getR (pc := 33) (ci := 9) (k := 0) (idx := 18) nok9 (by decide) rfl (by decide +kernel) w_537) (gk98 hG) (gm98_0 hG)) <|
  n_c (s_gRc (s_getR (pc := 36) (ci := 10) (k := 0) (idx := 22) nok10 (by decide) rfl (by decide +kernel) w_358) (gk28 hG) (gm28_0 hG)) <|
  n_c (s_iload_n (pc := 39) (k := 3) (by decide +kernel)) <|
  n_c (s_iconst (pc := 40) (n := 1) (by decide +kernel) (by decide +kernel)) <|
  n_c (s_callVc (s_callV (pc := 41) (csX7_cell) (by decide) okX7_cell nok7 w_786 w_787 w_1145 (by decide +kernel)) (gk29 hG)) <|
  n_c (s_istore (pc := 44) (by decide +kernel)) <|
  n_c (s_iload_n (pc := 46) (k := 2) (by decide +kernel)) <|
  n_c (s_iload (pc := 47) (by decide +kernel)) <|
  n_c (s_icmp_ne (pc := 49) (off := 9) (by decide +kernel) (by decide +kernel)) <|
  n_c (s_iload (pc := 52) (by decide +kernel)) <|
  n_c (s_istore_n (pc := 54) (k := 2) (by decide +kernel)) <|
  n_c (s_goto (pc := 55) (off := 12) (by decide +kernel) (by decide +kernel)) <|
  n_c (s_iload_n (pc := 58) (k := 2) (by decide +kernel)) <|
  n_c (s_iload (pc := 59) (by decide +kernel)) <|
  n_c (s_icmp_ne (pc := 61) (off := 6) (by decide +kernel) (by decide +kernel)) <|
  n_c (s_iload (pc := 64) (by decide +kernel)) <|
  n_c (s_istore_n (pc := 66) (k := 2) (by decide +kernel)) <|
  n_c (s_iinc (pc := 67) (n := 1) (by decide +kernel) (by decide +kernel)) <|
  n_c (s_goto (pc := 70) (off := -66) (by decide +kernel) (by decide +kernel)) <|
  n_c (s_iload_n (pc := 73) (k := 2) (by decide +kernel)) <|
  n_c (s_iret (pc := 74) rfl (by decide +kernel)) <|
  n_e
def fX9_cupBehind_4 (N : Nat) (G : nG) : Nat → Int32 → Int32 → nM → Option (Int32 × nM)
  | 0, _, _, _ => none
  | n + 1, x2, x3, M =>
    if (M 29 3) ≤ x3 then
      some (x2, M)
    else
      (fX7_cell G 29 x3 (0 : Int32) M).bind fun p1 =>
      (fX7_cell G 29 x3 (1 : Int32) p1.2).bind fun p2 =>
      if ¬ x2 = p1.1 then
        if ¬ x2 = p2.1 then
          let v3 : Int32 := (x3 + (1 : Int32))
          fX9_cupBehind_4 N G n x2 v3 p2.2
        else
          let v4 : Int32 := (x3 + (1 : Int32))
          fX9_cupBehind_4 N G n p1.1 v4 p2.2
      else
        let v5 : Int32 := (x3 + (1 : Int32))
        fX9_cupBehind_4 N G n p2.1 v5 p2.2
set_option maxRecDepth 200000 in
theorem bX9_cupBehind_4 {l : Launch} {w : nW} (N : Nat) {G : nG} (hG : n_GOK G) : ∀ (n : Nat) (x2 : Int32) (x3 : Int32) (M : nM) (r : Int32 × nM), fX9_cupBehind_4 N G n x2 x3 M = some r → n_At l w 1 mX9_cupBehind 4 [(0, .ref 98), (2, .int x2), (3, .int x3)] [] (G, M) (dv_i r.1, (G, r.2)) := by
  intro n
  induction n with
  | zero => intro x2 x3 M r h; cases (show (none : Option (Int32 × nM)) = some r from h)
  | succ n ih =>
    intro x2 x3 M r h
    exact n_seg (fin := n_fin dv_i G) (K := [(4, fun lv st M => n_lC 98 lv 0 (n_lI lv 2 (fun x2 => n_lI lv 3 (fun x3 => n_pE st (fX9_cupBehind_4 N G n x2 x3 M)))))]) 42 (iX9_cupBehind N hG) (n_kc (fun lv st M r h => by
      obtain ⟨e0, h1⟩ := n_lC_x h
      obtain ⟨x2, e2, h2⟩ := n_lI_x h1
      obtain ⟨x3, e3, h3⟩ := n_lI_x h2
      obtain ⟨rfl, h4⟩ := n_pE_x h3
      exact n_sub (n_qc e0 (n_qc e2 (n_qc e3 n_qe))) (ih x2 x3 M r h4)) n_ke) (by rfl) h
def fX9_cupBehind (N : Nat) (G : nG) (x1 : Int32) (M : nM) : Option (Int32 × nM) :=
  fX9_cupBehind_4 N G N x1 (0 : Int32) M
set_option maxRecDepth 200000 in
theorem bX9_cupBehind_0 {l : Launch} {w : nW} (N : Nat) {G : nG} (hG : n_GOK G) (x1 : Int32) (M : nM) (r : Int32 × nM) (h : fX9_cupBehind N G x1 M = some r) : n_At l w 1 mX9_cupBehind 0 [(0, .ref 98), (1, .int x1)] [] (G, M) (dv_i r.1, (G, r.2)) :=
  n_seg (fin := n_fin dv_i G) (K := [(4, fun lv st M => n_lC 98 lv 0 (n_lI lv 2 (fun x2 => n_lI lv 3 (fun x3 => n_pE st (fX9_cupBehind_4 N G N x2 x3 M)))))]) 7 (iX9_cupBehind N hG) (n_kc (fun lv st M r h => by
      obtain ⟨e0, h1⟩ := n_lC_x h
      obtain ⟨x2, e2, h2⟩ := n_lI_x h1
      obtain ⟨x3, e3, h3⟩ := n_lI_x h2
      obtain ⟨rfl, h4⟩ := n_pE_x h3
      exact n_sub (n_qc e0 (n_qc e2 (n_qc e3 n_qe))) (bX9_cupBehind_4 N hG N x2 x3 M r h4)) n_ke) (by rfl) h
theorem eX9_cupBehind {l : Launch} {w : nW} (N : Nat) {G : nG} (hG : n_GOK G) (z1 : Int32) (M : nM) (r : Int32 × nM) (h : fX9_cupBehind N G z1 M = some r) : n_Met l w 1 mX9_cupBehind [.ref 98, .int z1] (G, M) (dv_i r.1, (G, r.2)) :=
  n_entry (by decide +kernel) rfl (Nat.le_of_ble_eq_true rfl) (n_sub (lv := [(0, .ref 98), (1, .int z1)]) (n_qc rfl (n_qc rfl n_qe)) (bX9_cupBehind_0 N hG z1 M r h))
abbrev hX9_cupBehind (N : Nat) (G : nG) : nF := fun T as M k => n_pC 98 as (fun as => n_pI as (fun z1 as => n_pE as ((fX9_cupBehind N G z1 M).bind fun p => k (dv_i p.1) p.2)))
theorem csX9_cupBehind {l : Launch} {w : nW} (N : Nat) {G : nG} (hG : n_GOK G) : n_CS l w 1 mX9_cupBehind G (hX9_cupBehind N G) := fun T as M k r h => by
  obtain ⟨t0, rfl, h1⟩ := n_pC_x h
  obtain ⟨z1, t1, rfl, h2⟩ := n_pI_x h1
  obtain ⟨rfl, hE⟩ := n_pE_x h2
  obtain ⟨p, hp, hk⟩ := Option.bind_eq_some_iff.mp hE
  exact ⟨_, _, eX9_cupBehind N hG z1 M p hp, hk⟩
/-! ===== SleightHouse$Thought.leastSwaps()I ===== -/
def mX9_leastSwaps : nY := (RX9, yX9_leastSwaps, cX9_leastSwaps, 6, some .int)
theorem okX9_leastSwaps : n_MOK mX9_leastSwaps 0 := ⟨w_1138, w_149, ⟨by decide +kernel, by decide +kernel, by decide +kernel⟩, by decide⟩
abbrev aX9_leastSwaps (N : Nat) (G : nG) : List (Nat × nO (Int32 × nM)) := [(0, o_push (.int (0 : Int32)) 1), (1, o_istore 6 1 2), (2, o_push (.int (0 : Int32)) 3), (3, o_istore 6 2 4), (4, o_push (.int (0 : Int32)) 5), (5, o_istore 6 3 6), (6, o_iload 3 7), (7, o_push (.int (10 : Int32)) 9), (9, oc_ge 73 12), (12, o_iload 1 13), (13, o_iload 3 14), (14, o_call 2 (hX4_hasBit) 17), (17, oi_ne 23 20), (20, o_inc 6 2 (1 : Int32) 23), (23, o_iload 3 24), (24, o_istore 6 4 26), (26, o_push (.int (0 : Int32)) 27), (27, o_istore 6 5 29), (29, o_iload 5 31), (31, o_push (.int (10 : Int32)) 33), (33, oc_ge 67 36), (36, o_iload 1 37), (37, o_iload 4 39), (39, o_call 2 (hX4_hasBit) 42), (42, oi_ne 67 45), (45, o_iload 1 46), (46, o_iload 4 48), (48, o_push (.int (1 : Int32)) 49), (49, o_call 3 (hX4_withBit) 52), (52, o_istore 6 1 53), (53, o_aload 0 54), (54, o_iload 4 56), (56, o_callVc 98 1 (hX9_cupBehind N G) 59), (59, o_istore 6 4 61), (61, o_inc 6 5 (1 : Int32) 64), (64, o_goto 29), (67, o_inc 6 3 (1 : Int32) 70), (70, o_goto 6), (73, o_push (.int (10 : Int32)) 75), (75, o_iload 2 76), (76, o_isub 77), (77, o_iret)]
set_option maxRecDepth 200000 in
theorem iX9_leastSwaps {l : Launch} {w : nW} (N : Nat) {G : nG} (hG : n_GOK G) : n_AllS l w 2 mX9_leastSwaps G (n_fin dv_i G) (aX9_leastSwaps N G) :=
  n_c (s_iconst (pc := 0) (n := 0) (by decide +kernel) (by decide +kernel)) <|
  n_c (s_istore_n (pc := 1) (k := 1) (by decide +kernel)) <|
  n_c (s_iconst (pc := 2) (n := 0) (by decide +kernel) (by decide +kernel)) <|
  n_c (s_istore_n (pc := 3) (k := 2) (by decide +kernel)) <|
  n_c (s_iconst (pc := 4) (n := 0) (by decide +kernel) (by decide +kernel)) <|
  n_c (s_istore_n (pc := 5) (k := 3) (by decide +kernel)) <|
  n_c (s_iload_n (pc := 6) (k := 3) (by decide +kernel)) <|
  n_c (s_bipush (pc := 7) (n := 10) (by decide +kernel) (by decide +kernel)) <|
  n_c (s_icmp_ge (pc := 9) (off := 64) (by decide +kernel) (by decide +kernel)) <|
  n_c (s_iload_n (pc := 12) (k := 1) (by decide +kernel)) <|
  n_c (s_iload_n (pc := 13) (k := 3) (by decide +kernel)) <|
  n_c (s_callS (pc := 14) (csX4_hasBit) (by decide) okX4_hasBit w_675 w_1139 (by decide +kernel)) <|
  n_c (s_if_ne (pc := 17) (off := 6) (by decide +kernel) (by decide +kernel)) <|
  n_c (s_iinc (pc := 20) (n := 1) (by decide +kernel) (by decide +kernel)) <|
  n_c (s_iload_n (pc := 23) (k := 3) (by decide +kernel)) <|
  n_c (s_istore (pc := 24) (by decide +kernel)) <|
  n_c (s_iconst (pc := 26) (n := 0) (by decide +kernel) (by decide +kernel)) <|
  n_c (s_istore (pc := 27) (by decide +kernel)) <|
  n_c (s_iload (pc := 29) (by decide +kernel)) <|
  n_c (s_bipush (pc := 31) (n := 10) (by decide +kernel) (by decide +kernel)) <|
  n_c (s_icmp_ge (pc := 33) (off := 34) (by decide +kernel) (by decide +kernel)) <|
  n_c (s_iload_n (pc := 36) (k := 1) (by decide +kernel)) <|
  n_c (s_iload (pc := 37) (by decide +kernel)) <|
  n_c (s_callS (pc := 39) (csX4_hasBit) (by decide) okX4_hasBit w_675 w_1139 (by decide +kernel)) <|
  n_c (s_if_ne (pc := 42) (off := 25) (by decide +kernel) (by decide +kernel)) <|
  n_c (s_iload_n (pc := 45) (k := 1) (by decide +kernel)) <|
  n_c (s_iload (pc := 46) (by decide +kernel)) <|
  n_c (s_iconst (pc := 48) (n := 1) (by decide +kernel) (by decide +kernel)) <|
  n_c (s_callS (pc := 49) (csX4_withBit) (by decide) okX4_withBit w_625 w_1140 (by decide +kernel)) <|
  n_c (s_istore_n (pc := 52) (k := 1) (by decide +kernel)) <|
  n_c (s_aload_n (pc := 53) (k := 0) (by decide +kernel)) <|
  n_c (s_iload (pc := 54) (by decide +kernel)) <|
  n_c (s_callVc (s_callV (pc := 56) (csX9_cupBehind N hG) (by decide) okX9_cupBehind nok9 w_1142 w_1143 w_1141 (by decide +kernel)) (gk98 hG)) <|
  n_c (s_istore (pc := 59) (by decide +kernel)) <|
  n_c (s_iinc (pc := 61) (n := 1) (by decide +kernel) (by decide +kernel)) <|
  n_c (s_goto (pc := 64) (off := -35) (by decide +kernel) (by decide +kernel)) <|
  n_c (s_iinc (pc := 67) (n := 1) (by decide +kernel) (by decide +kernel)) <|
  n_c (s_goto (pc := 70) (off := -64) (by decide +kernel) (by decide +kernel)) <|
  n_c (s_bipush (pc := 73) (n := 10) (by decide +kernel) (by decide +kernel)) <|
  n_c (s_iload_n (pc := 75) (k := 2) (by decide +kernel)) <|
  n_c (s_isub (pc := 76) (by decide +kernel)) <|
  n_c (s_iret (pc := 77) rfl (by decide +kernel)) <|
  n_e
def fX9_leastSwaps_29 (N : Nat) (G : nG) (k6 : Int32 → Int32 → Int32 → nM → Option (Int32 × nM)) : Nat → Int32 → Int32 → Int32 → Int32 → Int32 → nM → Option (Int32 × nM)
  | 0, _, _, _, _, _, _ => none
  | n + 1, x1, x2, x3, x4, x5, M =>
    if (10 : Int32) ≤ x5 then
      let v1 : Int32 := (x3 + (1 : Int32))
      k6 x1 x2 v1 M
    else
      (fX4_hasBit x1 x4 M).bind fun p2 =>
      if ¬ p2.1 = 0 then
        let v3 : Int32 := (x3 + (1 : Int32))
        k6 x1 x2 v3 p2.2
      else
        (fX4_withBit x1 x4 (1 : Int32) p2.2).bind fun p4 =>
        (fX9_cupBehind N G x4 p4.2).bind fun p5 =>
        let v6 : Int32 := (x5 + (1 : Int32))
        fX9_leastSwaps_29 N G k6 n p4.1 x2 x3 p5.1 v6 p5.2
set_option maxRecDepth 200000 in
theorem bX9_leastSwaps_29 {l : Launch} {w : nW} (N : Nat) {G : nG} (hG : n_GOK G) (k6 : Int32 → Int32 → Int32 → nM → Option (Int32 × nM)) (hk6 : ∀ (x1 : Int32) (x2 : Int32) (x3 : Int32) (M : nM) (r : Int32 × nM), k6 x1 x2 x3 M = some r → n_At l w 2 mX9_leastSwaps 6 [(0, .ref 98), (1, .int x1), (2, .int x2), (3, .int x3)] [] (G, M) (dv_i r.1, (G, r.2))) : ∀ (n : Nat) (x1 : Int32) (x2 : Int32) (x3 : Int32) (x4 : Int32) (x5 : Int32) (M : nM) (r : Int32 × nM), fX9_leastSwaps_29 N G k6 n x1 x2 x3 x4 x5 M = some r → n_At l w 2 mX9_leastSwaps 29 [(0, .ref 98), (1, .int x1), (2, .int x2), (3, .int x3), (4, .int x4), (5, .int x5)] [] (G, M) (dv_i r.1, (G, r.2)) := by
  intro n
  induction n with
  | zero => intro x1 x2 x3 x4 x5 M r h; cases (show (none : Option (Int32 × nM)) = some r from h)
  | succ n ih =>
    intro x1 x2 x3 x4 x5 M r h
    exact n_seg (fin := n_fin dv_i G) (K := [(6, fun lv st M => n_lC 98 lv 0 (n_lI lv 1 (fun x1 => n_lI lv 2 (fun x2 => n_lI lv 3 (fun x3 => n_pE st (k6 x1 x2 x3 M)))))), (29, fun lv st M => n_lC 98 lv 0 (n_lI lv 1 (fun x1 => n_lI lv 2 (fun x2 => n_lI lv 3 (fun x3 => n_lI lv 4 (fun x4 => n_lI lv 5 (fun x5 => n_pE st (fX9_leastSwaps_29 N G k6 n x1 x2 x3 x4 x5 M))))))))]) 25 (iX9_leastSwaps N hG) (n_kc (fun lv st M r h => by
      obtain ⟨e0, h1⟩ := n_lC_x h
      obtain ⟨x1, e1, h2⟩ := n_lI_x h1
      obtain ⟨x2, e2, h3⟩ := n_lI_x h2
      obtain ⟨x3, e3, h4⟩ := n_lI_x h3
      obtain ⟨rfl, h5⟩ := n_pE_x h4
      exact n_sub (n_qc e0 (n_qc e1 (n_qc e2 (n_qc e3 n_qe)))) (hk6 x1 x2 x3 M r h5)) (n_kc (fun lv st M r h => by
      obtain ⟨e0, h1⟩ := n_lC_x h
      obtain ⟨x1, e1, h2⟩ := n_lI_x h1
      obtain ⟨x2, e2, h3⟩ := n_lI_x h2
      obtain ⟨x3, e3, h4⟩ := n_lI_x h3
      obtain ⟨x4, e4, h5⟩ := n_lI_x h4
      obtain ⟨x5, e5, h6⟩ := n_lI_x h5
      obtain ⟨rfl, h7⟩ := n_pE_x h6
      exact n_sub (n_qc e0 (n_qc e1 (n_qc e2 (n_qc e3 (n_qc e4 (n_qc e5 n_qe)))))) (ih x1 x2 x3 x4 x5 M r h7)) n_ke)) (by rfl) h
def fX9_leastSwaps_6 (N : Nat) (G : nG) : Nat → Int32 → Int32 → Int32 → nM → Option (Int32 × nM)
  | 0, _, _, _, _ => none
  | n + 1, x1, x2, x3, M =>
    if (10 : Int32) ≤ x3 then
      some (((10 : Int32) - x2), M)
    else
      (fX4_hasBit x1 x3 M).bind fun p1 =>
      if ¬ p1.1 = 0 then
        fX9_leastSwaps_29 N G (fun x1 x2 x3 M => fX9_leastSwaps_6 N G n x1 x2 x3 M) N x1 x2 x3 x3 (0 : Int32) p1.2
      else
        let v2 : Int32 := (x2 + (1 : Int32))
        fX9_leastSwaps_29 N G (fun x1 x2 x3 M => fX9_leastSwaps_6 N G n x1 x2 x3 M) N x1 v2 x3 x3 (0 : Int32) p1.2
set_option maxRecDepth 200000 in
theorem bX9_leastSwaps_6 {l : Launch} {w : nW} (N : Nat) {G : nG} (hG : n_GOK G) : ∀ (n : Nat) (x1 : Int32) (x2 : Int32) (x3 : Int32) (M : nM) (r : Int32 × nM), fX9_leastSwaps_6 N G n x1 x2 x3 M = some r → n_At l w 2 mX9_leastSwaps 6 [(0, .ref 98), (1, .int x1), (2, .int x2), (3, .int x3)] [] (G, M) (dv_i r.1, (G, r.2)) := by
  intro n
  induction n with
  | zero => intro x1 x2 x3 M r h; cases (show (none : Option (Int32 × nM)) = some r from h)
  | succ n ih =>
    intro x1 x2 x3 M r h
    exact n_seg (fin := n_fin dv_i G) (K := [(29, fun lv st M => n_lC 98 lv 0 (n_lI lv 1 (fun x1 => n_lI lv 2 (fun x2 => n_lI lv 3 (fun x3 => n_lI lv 4 (fun x4 => n_lI lv 5 (fun x5 => n_pE st (fX9_leastSwaps_29 N G (fun x1 x2 x3 M => fX9_leastSwaps_6 N G n x1 x2 x3 M) N x1 x2 x3 x4 x5 M))))))))]) 23 (iX9_leastSwaps N hG) (n_kc (fun lv st M r h => by
      obtain ⟨e0, h1⟩ := n_lC_x h
      obtain ⟨x1, e1, h2⟩ := n_lI_x h1
      obtain ⟨x2, e2, h3⟩ := n_lI_x h2
      obtain ⟨x3, e3, h4⟩ := n_lI_x h3
      obtain ⟨x4, e4, h5⟩ := n_lI_x h4
      obtain ⟨x5, e5, h6⟩ := n_lI_x h5
      obtain ⟨rfl, h7⟩ := n_pE_x h6
      exact n_sub (n_qc e0 (n_qc e1 (n_qc e2 (n_qc e3 (n_qc e4 (n_qc e5 n_qe)))))) (bX9_leastSwaps_29 N hG (fun x1 x2 x3 M => fX9_leastSwaps_6 N G n x1 x2 x3 M) ih N x1 x2 x3 x4 x5 M r h7)) n_ke) (by rfl) h
def fX9_leastSwaps (N : Nat) (G : nG) (M : nM) : Option (Int32 × nM) :=
  fX9_leastSwaps_6 N G N (0 : Int32) (0 : Int32) (0 : Int32) M
set_option maxRecDepth 200000 in
theorem bX9_leastSwaps_0 {l : Launch} {w : nW} (N : Nat) {G : nG} (hG : n_GOK G) (M : nM) (r : Int32 × nM) (h : fX9_leastSwaps N G M = some r) : n_At l w 2 mX9_leastSwaps 0 [(0, .ref 98)] [] (G, M) (dv_i r.1, (G, r.2)) :=
  n_seg (fin := n_fin dv_i G) (K := [(6, fun lv st M => n_lC 98 lv 0 (n_lI lv 1 (fun x1 => n_lI lv 2 (fun x2 => n_lI lv 3 (fun x3 => n_pE st (fX9_leastSwaps_6 N G N x1 x2 x3 M))))))]) 9 (iX9_leastSwaps N hG) (n_kc (fun lv st M r h => by
      obtain ⟨e0, h1⟩ := n_lC_x h
      obtain ⟨x1, e1, h2⟩ := n_lI_x h1
      obtain ⟨x2, e2, h3⟩ := n_lI_x h2
      obtain ⟨x3, e3, h4⟩ := n_lI_x h3
      obtain ⟨rfl, h5⟩ := n_pE_x h4
      exact n_sub (n_qc e0 (n_qc e1 (n_qc e2 (n_qc e3 n_qe)))) (bX9_leastSwaps_6 N hG N x1 x2 x3 M r h5)) n_ke) (by rfl) h
theorem eX9_leastSwaps {l : Launch} {w : nW} (N : Nat) {G : nG} (hG : n_GOK G) (M : nM) (r : Int32 × nM) (h : fX9_leastSwaps N G M = some r) : n_Met l w 2 mX9_leastSwaps [.ref 98] (G, M) (dv_i r.1, (G, r.2)) :=
  n_entry (by decide +kernel) rfl (Nat.le_of_ble_eq_true rfl) (n_sub (lv := [(0, .ref 98)]) (n_qc rfl n_qe) (bX9_leastSwaps_0 N hG M r h))
abbrev hX9_leastSwaps (N : Nat) (G : nG) : nF := fun T as M k => n_pC 98 as (fun as => n_pE as ((fX9_leastSwaps N G M).bind fun p => k (dv_i p.1) p.2))
theorem csX9_leastSwaps {l : Launch} {w : nW} (N : Nat) {G : nG} (hG : n_GOK G) : n_CS l w 2 mX9_leastSwaps G (hX9_leastSwaps N G) := fun T as M k r h => by
  obtain ⟨t0, rfl, h1⟩ := n_pC_x h
  obtain ⟨rfl, hE⟩ := n_pE_x h1
  obtain ⟨p, hp, hk⟩ := Option.bind_eq_some_iff.mp hE
  exact ⟨_, _, eX9_leastSwaps N hG M p hp, hk⟩
/-! ===== SleightHouse.under(I)I ===== -/
def mX11_under : nY := (RX11, yX11_under, cX11_under, 2, some .int)
theorem okX11_under : n_MOK mX11_under 1 := ⟨w_1134, w_137, ⟨by decide +kernel, by decide +kernel, by decide +kernel⟩, by decide⟩
abbrev aX11_under (N : Nat) (G : nG) : List (Nat × nO (Int32 × nM)) := [(0, o_iload 1 1), (1, o_push (.int (-1 : Int32)) 2), (2, oc_ne 13 5), (5, o_aload 0 6), (6, o_gRc 1 98 9), (9, o_callVc 98 0 (hX9_leastSwaps N G) 12), (12, o_iret), (13, o_iload 1 14), (14, o_push (.int (-2 : Int32)) 16), (16, oc_ne 43 19), (19, o_aload 0 20), (20, o_gRc 1 2 23), (23, o_gRc 2 28 26), (26, o_gRc 28 29 29), (29, o_gIc 29 3 32), (32, o_push (.int (2 : Int32)) 33), (33, o_irem 34), (34, oi_ne 41 37), (37, o_push (.int (1 : Int32)) 38), (38, o_goto 42), (41, o_push (.int (0 : Int32)) 42), (42, o_iret), (43, o_iload 1 44), (44, o_push (.int (0 : Int32)) 45), (45, o_push (.int (9 : Int32)) 47), (47, o_call 3 (hX11_within) 50), (50, oi_eq 64 53), (53, o_aload 0 54), (54, o_gRc 1 98 57), (57, o_iload 1 58), (58, o_callVc 98 1 (hX9_cupBehind N G) 61), (61, o_goto 65), (64, o_push (.int (-1 : Int32)) 65), (65, o_iret)]
set_option maxRecDepth 200000 in
theorem iX11_under {l : Launch} {w : nW} (N : Nat) {G : nG} (hG : n_GOK G) : n_AllS l w 3 mX11_under G (n_fin dv_i G) (aX11_under N G) :=
  n_c (s_iload_n (pc := 0) (k := 1) (by decide +kernel)) <|
  n_c (s_iconst (pc := 1) (n := -1) (by decide +kernel) (by decide +kernel)) <|
  n_c (s_icmp_ne (pc := 2) (off := 11) (by decide +kernel) (by decide +kernel)) <|
  n_c (s_aload_n (pc := 5) (k := 0) (by decide +kernel)) <|
  n_c (s_gRc (s_getR (pc := 6) (ci := 11) (k := 5) (idx := 63) nok11 (by decide) rfl (by decide +kernel) w_577) (gk1 hG) (gm1_5 hG)) <|
  n_c (s_callVc (s_callV (pc := 9) (csX9_leastSwaps N hG) (by decide) okX9_leastSwaps nok9 w_1136 w_1137 w_1135 (by decide +kernel)) (gk98 hG)) <|
  n_c (s_iret (pc := 12) rfl (by decide +kernel)) <|
  n_c (s_iload_n (pc := 13) (k := 1) (by decide +kernel)) <|
  n_c (s_bipush (pc := 14) (n := -2) (by decide +kernel) (by decide +kernel)) <|
  n_c (s_icmp_ne (pc := 16) (off := 27) (by decide +kernel) (by decide +kernel)) <|
  n_c (s_aload_n (pc := 19) (k := 0) (by decide +kernel)) <|
  n_c (s_gRc (s_getR (pc := 20) (ci := 11) (k := 0) (idx := 10) nok11 (by decide) rfl (by decide +kernel) w_572) (gk1 hG) (gm1_0 hG)) <|
  n_c (s_gRc (s_getR (pc := 23) (ci := 1) (k := 7) (idx := 56) nok1 (by decide) rfl (by decide +kernel) w_421) (gk2 hG) (gm2_7 hG)) <|
  n_c (s_gRc (s_getR (pc := 26) (ci := 10) (k := 0) (idx := 283) nok10 (by decide) rfl (by decide +kernel) w_359) (gk28 hG) (gm28_0 hG)) <|
  n_c (s_gIc (s_getI (pc := 29) (ci := 7) (k := 3) (idx := 226) nok7 (by decide) rfl (by decide +kernel) w_308) (gk29 hG)) <|
  n_c (s_iconst (pc := 32) (n := 2) (by decide +kernel) (by decide +kernel)) <|
  n_c (s_irem (pc := 33) (by decide +kernel)) <|
  n_c (s_if_ne (pc := 34) (off := 7) (by decide +kernel) (by decide +kernel)) <|
  n_c (s_iconst (pc := 37) (n := 1) (by decide +kernel) (by decide +kernel)) <|
  n_c (s_goto (pc := 38) (off := 4) (by decide +kernel) (by decide +kernel)) <|
  n_c (s_iconst (pc := 41) (n := 0) (by decide +kernel) (by decide +kernel)) <|
  n_c (s_iret (pc := 42) rfl (by decide +kernel)) <|
  n_c (s_iload_n (pc := 43) (k := 1) (by decide +kernel)) <|
  n_c (s_iconst (pc := 44) (n := 0) (by decide +kernel) (by decide +kernel)) <|
  n_c (s_bipush (pc := 45) (n := 9) (by decide +kernel) (by decide +kernel)) <|
  n_c (s_callS (pc := 47) (csX11_within) (by decide) okX11_within w_610 w_609 (by decide +kernel)) <|
  n_c (s_if_eq (pc := 50) (off := 14) (by decide +kernel) (by decide +kernel)) <|
  n_c (s_aload_n (pc := 53) (k := 0) (by decide +kernel)) <|
  n_c (s_gRc (s_getR (pc := 54) (ci := 11) (k := 5) (idx := 63) nok11 (by decide) rfl (by decide +kernel) w_577) (gk1 hG) (gm1_5 hG)) <|
  n_c (s_iload_n (pc := 57) (k := 1) (by decide +kernel)) <|
  n_c (s_callVc (s_callV (pc := 58) (csX9_cupBehind N hG) (by decide) okX9_cupBehind nok9 w_1142 w_1143 w_1146 (by decide +kernel)) (gk98 hG)) <|
  n_c (s_goto (pc := 61) (off := 4) (by decide +kernel) (by decide +kernel)) <|
  n_c (s_iconst (pc := 64) (n := -1) (by decide +kernel) (by decide +kernel)) <|
  n_c (s_iret (pc := 65) rfl (by decide +kernel)) <|
  n_e
def fX11_under (N : Nat) (G : nG) (x1 : Int32) (M : nM) : Option (Int32 × nM) :=
  if ¬ x1 = (-1 : Int32) then
    if ¬ x1 = (-2 : Int32) then
      (fX11_within x1 (0 : Int32) (9 : Int32) M).bind fun p1 =>
      if p1.1 = 0 then
        some ((-1 : Int32), p1.2)
      else
        (fX9_cupBehind N G x1 p1.2).bind fun p2 =>
        some (p2.1, p2.2)
    else
      if (2 : Int32) = 0 then none else
      if ¬ ((M 29 3) - (M 29 3) / (2 : Int32) * (2 : Int32)) = 0 then
        some ((0 : Int32), M)
      else
        some ((1 : Int32), M)
  else
    (fX9_leastSwaps N G M).bind fun p3 =>
    some (p3.1, p3.2)
set_option maxRecDepth 200000 in
theorem bX11_under_0 {l : Launch} {w : nW} (N : Nat) {G : nG} (hG : n_GOK G) (x1 : Int32) (M : nM) (r : Int32 × nM) (h : fX11_under N G x1 M = some r) : n_At l w 3 mX11_under 0 [(0, .ref 1), (1, .int x1)] [] (G, M) (dv_i r.1, (G, r.2)) :=
  n_seg (fin := n_fin dv_i G) (K := []) 39 (iX11_under N hG) n_ke (by rfl) h
theorem eX11_under {l : Launch} {w : nW} (N : Nat) {G : nG} (hG : n_GOK G) (z1 : Int32) (M : nM) (r : Int32 × nM) (h : fX11_under N G z1 M = some r) : n_Met l w 3 mX11_under [.ref 1, .int z1] (G, M) (dv_i r.1, (G, r.2)) :=
  n_entry (by decide +kernel) rfl (Nat.le_of_ble_eq_true rfl) (n_sub (lv := [(0, .ref 1), (1, .int z1)]) (n_qc rfl (n_qc rfl n_qe)) (bX11_under_0 N hG z1 M r h))
abbrev hX11_under (N : Nat) (G : nG) : nF := fun T as M k => n_pC 1 as (fun as => n_pI as (fun z1 as => n_pE as ((fX11_under N G z1 M).bind fun p => k (dv_i p.1) p.2)))
theorem csX11_under {l : Launch} {w : nW} (N : Nat) {G : nG} (hG : n_GOK G) : n_CS l w 3 mX11_under G (hX11_under N G) := fun T as M k r h => by
  obtain ⟨t0, rfl, h1⟩ := n_pC_x h
  obtain ⟨z1, t1, rfl, h2⟩ := n_pI_x h1
  obtain ⟨rfl, hE⟩ := n_pE_x h2
  obtain ⟨p, hp, hk⟩ := Option.bind_eq_some_iff.mp hE
  exact ⟨_, _, eX11_under N hG z1 M p hp, hk⟩
/-! ===== SleightHouseModel.comesUnder(I)I ===== -/
def mX12_comesUnder : nY := (RX12, yX12_comesUnder, cX12_comesUnder, 4, some .int)
theorem okX12_comesUnder : n_MOK mX12_comesUnder 1 := ⟨w_2006, w_151, ⟨by decide +kernel, by decide +kernel, by decide +kernel⟩, by decide⟩
abbrev aX12_comesUnder (N : Nat) : List (Nat × nO (Int32 × nM)) := [(0, o_iload 1 1), (1, o_istore 4 2 2), (2, o_push (.int (0 : Int32)) 3), (3, o_istore 4 3 4), (4, o_iload 3 5), (5, o_aload 0 6), (6, o_gIc 107 46 9), (9, oc_ge 58 12), (12, o_iload 2 13), (13, o_aload 0 14), (14, o_gRc 107 133 17), (17, o_iload 3 18), (18, o_aldc 133 16 19), (19, oc_ne 31 22), (22, o_aload 0 23), (23, o_gRc 107 134 26), (26, o_iload 3 27), (27, o_aldc 134 16 28), (28, o_goto 51), (31, o_iload 2 32), (32, o_aload 0 33), (33, o_gRc 107 134 36), (36, o_iload 3 37), (37, o_aldc 134 16 38), (38, oc_ne 50 41), (41, o_aload 0 42), (42, o_gRc 107 133 45), (45, o_iload 3 46), (46, o_aldc 133 16 47), (47, o_goto 51), (50, o_iload 2 51), (51, o_istore 4 2 52), (52, o_inc 4 3 (1 : Int32) 55), (55, o_goto 4), (58, o_iload 2 59), (59, o_iret)]
set_option maxRecDepth 200000 in
theorem iX12_comesUnder {l : Launch} {w : nW} (N : Nat) {G : nG} (hG : n_GOK G) : n_AllS l w 0 mX12_comesUnder G (n_fin dv_i G) (aX12_comesUnder N) :=
  n_c (s_iload_n (pc := 0) (k := 1) (by decide +kernel)) <|
  n_c (s_istore_n (pc := 1) (k := 2) (by decide +kernel)) <|
  n_c (s_iconst (pc := 2) (n := 0) (by decide +kernel) (by decide +kernel)) <|
  n_c (s_istore_n (pc := 3) (k := 3) (by decide +kernel)) <|
  n_c (s_iload_n (pc := 4) (k := 3) (by decide +kernel)) <|
  n_c (s_aload_n (pc := 5) (k := 0) (by decide +kernel)) <|
  n_c (s_gIc (s_getI (pc := 6) (ci := 12) (k := 46) (idx := 419) nok12 (by decide) rfl (by decide +kernel) w_1453) (gk107 hG)) <|
  n_c (s_icmp_ge (pc := 9) (off := 49) (by decide +kernel) (by decide +kernel)) <|
  n_c (s_iload_n (pc := 12) (k := 2) (by decide +kernel)) <|
  n_c (s_aload_n (pc := 13) (k := 0) (by decide +kernel)) <|
  n_c (s_gRc (s_getR (pc := 14) (ci := 12) (k := 47) (idx := 89) nok12 (by decide) rfl (by decide +kernel) w_1454) (gk107 hG) (gm107_47 hG)) <|
  n_c (s_iload_n (pc := 17) (k := 3) (by decide +kernel)) <|
  n_c (s_aldc (s_iaload (pc := 18) (by decide +kernel)) (gk133 hG) (gl133 hG)) <|
  n_c (s_icmp_ne (pc := 19) (off := 12) (by decide +kernel) (by decide +kernel)) <|
  n_c (s_aload_n (pc := 22) (k := 0) (by decide +kernel)) <|
  n_c (s_gRc (s_getR (pc := 23) (ci := 12) (k := 48) (idx := 92) nok12 (by decide) rfl (by decide +kernel) w_1455) (gk107 hG) (gm107_48 hG)) <|
  n_c (s_iload_n (pc := 26) (k := 3) (by decide +kernel)) <|
  n_c (s_aldc (s_iaload (pc := 27) (by decide +kernel)) (gk134 hG) (gl134 hG)) <|
  n_c (s_goto (pc := 28) (off := 23) (by decide +kernel) (by decide +kernel)) <|
  n_c (s_iload_n (pc := 31) (k := 2) (by decide +kernel)) <|
  n_c (s_aload_n (pc := 32) (k := 0) (by decide +kernel)) <|
  n_c (s_gRc (s_getR (pc := 33) (ci := 12) (k := 48) (idx := 92) nok12 (by decide) rfl (by decide +kernel) w_1455) (gk107 hG) (gm107_48 hG)) <|
  n_c (s_iload_n (pc := 36) (k := 3) (by decide +kernel)) <|
  n_c (s_aldc (s_iaload (pc := 37) (by decide +kernel)) (gk134 hG) (gl134 hG)) <|
  n_c (s_icmp_ne (pc := 38) (off := 12) (by decide +kernel) (by decide +kernel)) <|
  n_c (s_aload_n (pc := 41) (k := 0) (by decide +kernel)) <|
  n_c (s_gRc (s_getR (pc := 42) (ci := 12) (k := 47) (idx := 89) nok12 (by decide) rfl (by decide +kernel) w_1454) (gk107 hG) (gm107_47 hG)) <|
  n_c (s_iload_n (pc := 45) (k := 3) (by decide +kernel)) <|
  n_c (s_aldc (s_iaload (pc := 46) (by decide +kernel)) (gk133 hG) (gl133 hG)) <|
  n_c (s_goto (pc := 47) (off := 4) (by decide +kernel) (by decide +kernel)) <|
  n_c (s_iload_n (pc := 50) (k := 2) (by decide +kernel)) <|
  n_c (s_istore_n (pc := 51) (k := 2) (by decide +kernel)) <|
  n_c (s_iinc (pc := 52) (n := 1) (by decide +kernel) (by decide +kernel)) <|
  n_c (s_goto (pc := 55) (off := -51) (by decide +kernel) (by decide +kernel)) <|
  n_c (s_iload_n (pc := 58) (k := 2) (by decide +kernel)) <|
  n_c (s_iret (pc := 59) rfl (by decide +kernel)) <|
  n_e
def fX12_comesUnder_4 (N : Nat) : Nat → Int32 → Int32 → nM → Option (Int32 × nM)
  | 0, _, _, _ => none
  | n + 1, x2, x3, M =>
    if (M 107 46) ≤ x3 then
      some (x2, M)
    else
      n_chk (n_ib 16 x3) <|
      if ¬ x2 = (M 133 x3.toNatClampNeg) then
        n_chk (n_ib 16 x3) <|
        if ¬ x2 = (M 134 x3.toNatClampNeg) then
          let v1 : Int32 := (x3 + (1 : Int32))
          fX12_comesUnder_4 N n x2 v1 M
        else
          n_chk (n_ib 16 x3) <|
          let v2 : Int32 := (M 133 x3.toNatClampNeg)
          let v3 : Int32 := (x3 + (1 : Int32))
          fX12_comesUnder_4 N n v2 v3 M
      else
        n_chk (n_ib 16 x3) <|
        let v4 : Int32 := (M 134 x3.toNatClampNeg)
        let v5 : Int32 := (x3 + (1 : Int32))
        fX12_comesUnder_4 N n v4 v5 M
set_option maxRecDepth 200000 in
theorem bX12_comesUnder_4 {l : Launch} {w : nW} (N : Nat) {G : nG} (hG : n_GOK G) : ∀ (n : Nat) (x2 : Int32) (x3 : Int32) (M : nM) (r : Int32 × nM), fX12_comesUnder_4 N n x2 x3 M = some r → n_At l w 0 mX12_comesUnder 4 [(0, .ref 107), (2, .int x2), (3, .int x3)] [] (G, M) (dv_i r.1, (G, r.2)) := by
  intro n
  induction n with
  | zero => intro x2 x3 M r h; cases (show (none : Option (Int32 × nM)) = some r from h)
  | succ n ih =>
    intro x2 x3 M r h
    exact n_seg (fin := n_fin dv_i G) (K := [(4, fun lv st M => n_lC 107 lv 0 (n_lI lv 2 (fun x2 => n_lI lv 3 (fun x3 => n_pE st (fX12_comesUnder_4 N n x2 x3 M)))))]) 41 (iX12_comesUnder N hG) (n_kc (fun lv st M r h => by
      obtain ⟨e0, h1⟩ := n_lC_x h
      obtain ⟨x2, e2, h2⟩ := n_lI_x h1
      obtain ⟨x3, e3, h3⟩ := n_lI_x h2
      obtain ⟨rfl, h4⟩ := n_pE_x h3
      exact n_sub (n_qc e0 (n_qc e2 (n_qc e3 n_qe))) (ih x2 x3 M r h4)) n_ke) (by rfl) h
def fX12_comesUnder (N : Nat) (x1 : Int32) (M : nM) : Option (Int32 × nM) :=
  fX12_comesUnder_4 N N x1 (0 : Int32) M
set_option maxRecDepth 200000 in
theorem bX12_comesUnder_0 {l : Launch} {w : nW} (N : Nat) {G : nG} (hG : n_GOK G) (x1 : Int32) (M : nM) (r : Int32 × nM) (h : fX12_comesUnder N x1 M = some r) : n_At l w 0 mX12_comesUnder 0 [(0, .ref 107), (1, .int x1)] [] (G, M) (dv_i r.1, (G, r.2)) :=
  n_seg (fin := n_fin dv_i G) (K := [(4, fun lv st M => n_lC 107 lv 0 (n_lI lv 2 (fun x2 => n_lI lv 3 (fun x3 => n_pE st (fX12_comesUnder_4 N N x2 x3 M)))))]) 7 (iX12_comesUnder N hG) (n_kc (fun lv st M r h => by
      obtain ⟨e0, h1⟩ := n_lC_x h
      obtain ⟨x2, e2, h2⟩ := n_lI_x h1
      obtain ⟨x3, e3, h3⟩ := n_lI_x h2
      obtain ⟨rfl, h4⟩ := n_pE_x h3
      exact n_sub (n_qc e0 (n_qc e2 (n_qc e3 n_qe))) (bX12_comesUnder_4 N hG N x2 x3 M r h4)) n_ke) (by rfl) h
theorem eX12_comesUnder {l : Launch} {w : nW} (N : Nat) {G : nG} (hG : n_GOK G) (z1 : Int32) (M : nM) (r : Int32 × nM) (h : fX12_comesUnder N z1 M = some r) : n_Met l w 0 mX12_comesUnder [.ref 107, .int z1] (G, M) (dv_i r.1, (G, r.2)) :=
  n_entry (by decide +kernel) rfl (Nat.le_of_ble_eq_true rfl) (n_sub (lv := [(0, .ref 107), (1, .int z1)]) (n_qc rfl (n_qc rfl n_qe)) (bX12_comesUnder_0 N hG z1 M r h))
abbrev hX12_comesUnder (N : Nat) : nF := fun T as M k => n_pC 107 as (fun as => n_pI as (fun z1 as => n_pE as ((fX12_comesUnder N z1 M).bind fun p => k (dv_i p.1) p.2)))
theorem csX12_comesUnder {l : Launch} {w : nW} (N : Nat) {G : nG} (hG : n_GOK G) : n_CS l w 0 mX12_comesUnder G (hX12_comesUnder N) := fun T as M k r h => by
  obtain ⟨t0, rfl, h1⟩ := n_pC_x h
  obtain ⟨z1, t1, rfl, h2⟩ := n_pI_x h1
  obtain ⟨rfl, hE⟩ := n_pE_x h2
  obtain ⟨p, hp, hk⟩ := Option.bind_eq_some_iff.mp hE
  exact ⟨_, _, eX12_comesUnder N hG z1 M p hp, hk⟩
/-! ===== SleightHouseModel.has(II)Z ===== -/
def mX12_has : nY := (RX12, yX12_has, cX12_has, 3, some .boolean)
theorem okX12_has : n_MOK mX12_has 2 := ⟨w_2014, w_151, ⟨by decide +kernel, by decide +kernel, by decide +kernel⟩, by decide⟩
abbrev aX12_has : List (Nat × nO (Int32 × nM)) := [(0, o_iload 1 1), (1, o_iload 2 2), (2, o_ishr 3), (3, o_push (.int (1 : Int32)) 4), (4, o_iand 5), (5, o_push (.int (1 : Int32)) 6), (6, oc_ne 13 9), (9, o_push (.int (1 : Int32)) 10), (10, o_goto 14), (13, o_push (.int (0 : Int32)) 14), (14, o_zret)]
set_option maxRecDepth 200000 in
theorem iX12_has {l : Launch} {w : nW} {G : nG} : n_AllS l w 0 mX12_has G (n_fin dv_i G) (aX12_has) :=
  n_c (s_iload_n (pc := 0) (k := 1) (by decide +kernel)) <|
  n_c (s_iload_n (pc := 1) (k := 2) (by decide +kernel)) <|
  n_c (s_ishr (pc := 2) (by decide +kernel)) <|
  n_c (s_iconst (pc := 3) (n := 1) (by decide +kernel) (by decide +kernel)) <|
  n_c (s_iand (pc := 4) (by decide +kernel)) <|
  n_c (s_iconst (pc := 5) (n := 1) (by decide +kernel) (by decide +kernel)) <|
  n_c (s_icmp_ne (pc := 6) (off := 7) (by decide +kernel) (by decide +kernel)) <|
  n_c (s_iconst (pc := 9) (n := 1) (by decide +kernel) (by decide +kernel)) <|
  n_c (s_goto (pc := 10) (off := 4) (by decide +kernel) (by decide +kernel)) <|
  n_c (s_iconst (pc := 13) (n := 0) (by decide +kernel) (by decide +kernel)) <|
  n_c (s_zret (pc := 14) rfl (by decide +kernel)) <|
  n_e
def fX12_has (x1 : Int32) (x2 : Int32) (M : nM) : Option (Int32 × nM) :=
  if ¬ ((x1 >>> (x2 &&& 31)) &&& (1 : Int32)) = (1 : Int32) then
    some ((0 : Int32), M)
  else
    some ((1 : Int32), M)
set_option maxRecDepth 200000 in
theorem bX12_has_0 {l : Launch} {w : nW} {G : nG} (x1 : Int32) (x2 : Int32) (M : nM) (r : Int32 × nM) (h : fX12_has x1 x2 M = some r) : n_At l w 0 mX12_has 0 [(1, .int x1), (2, .int x2)] [] (G, M) (dv_i r.1, (G, r.2)) :=
  n_seg (fin := n_fin dv_i G) (K := []) 15 (iX12_has) n_ke (by rfl) h
theorem eX12_has {l : Launch} {w : nW} {G : nG} (z1 : Int32) (z2 : Int32) (M : nM) (r : Int32 × nM) (h : fX12_has z1 z2 M = some r) : n_Met l w 0 mX12_has [.ref 107, .int z1, .int z2] (G, M) (dv_i r.1, (G, r.2)) :=
  n_entry (by decide +kernel) rfl (Nat.le_of_ble_eq_true rfl) (n_sub (lv := [(0, .ref 107), (1, .int z1), (2, .int z2)]) (n_qc rfl (n_qc rfl n_qe)) (bX12_has_0 z1 z2 M r h))
abbrev hX12_has : nF := fun T as M k => n_pC 107 as (fun as => n_pI as (fun z1 as => n_pI as (fun z2 as => n_pE as ((fX12_has z1 z2 M).bind fun p => k (dv_i p.1) p.2))))
theorem csX12_has {l : Launch} {w : nW} {G : nG} : n_CS l w 0 mX12_has G (hX12_has) := fun T as M k r h => by
  obtain ⟨t0, rfl, h1⟩ := n_pC_x h
  obtain ⟨z1, t1, rfl, h2⟩ := n_pI_x h1
  obtain ⟨z2, t2, rfl, h3⟩ := n_pI_x h2
  obtain ⟨rfl, hE⟩ := n_pE_x h3
  obtain ⟨p, hp, hk⟩ := Option.bind_eq_some_iff.mp hE
  exact ⟨_, _, eX12_has z1 z2 M p hp, hk⟩
/-! ===== SleightHouseModel.leastSwaps()I ===== -/
def mX12_leastSwaps : nY := (RX12, yX12_leastSwaps, cX12_leastSwaps, 5, some .int)
theorem okX12_leastSwaps : n_MOK mX12_leastSwaps 0 := ⟨w_2010, w_151, ⟨by decide +kernel, by decide +kernel, by decide +kernel⟩, by decide⟩
abbrev aX12_leastSwaps (N : Nat) : List (Nat × nO (Int32 × nM)) := [(0, o_push (.int (0 : Int32)) 1), (1, o_istore 5 1 2), (2, o_push (.int (0 : Int32)) 3), (3, o_istore 5 2 4), (4, o_push (.int (0 : Int32)) 5), (5, o_istore 5 3 6), (6, o_iload 3 7), (7, o_push (.int (10 : Int32)) 9), (9, oc_ge 63 12), (12, o_iload 3 13), (13, o_istore 5 4 15), (15, o_aload 0 16), (16, o_iload 1 17), (17, o_iload 4 19), (19, o_callVc 107 2 (hX12_has) 22), (22, oi_ne 57 25), (25, o_iload 1 26), (26, o_push (.int (1 : Int32)) 27), (27, o_iload 4 29), (29, o_ishl 30), (30, o_ior 31), (31, o_istore 5 1 32), (32, o_aload 0 33), (33, o_iload 4 35), (35, o_callVc 107 1 (hX12_comesUnder N) 38), (38, o_iload 3 39), (39, oc_eq 46 42), (42, o_iload 2 43), (43, o_push (.int (1 : Int32)) 44), (44, o_iadd 45), (45, o_istore 5 2 46), (46, o_aload 0 47), (47, o_iload 4 49), (49, o_callVc 107 1 (hX12_comesUnder N) 52), (52, o_istore 5 4 54), (54, o_goto 15), (57, o_inc 5 3 (1 : Int32) 60), (60, o_goto 6), (63, o_iload 2 64), (64, o_iret)]
set_option maxRecDepth 200000 in
theorem iX12_leastSwaps {l : Launch} {w : nW} (N : Nat) {G : nG} (hG : n_GOK G) : n_AllS l w 1 mX12_leastSwaps G (n_fin dv_i G) (aX12_leastSwaps N) :=
  n_c (s_iconst (pc := 0) (n := 0) (by decide +kernel) (by decide +kernel)) <|
  n_c (s_istore_n (pc := 1) (k := 1) (by decide +kernel)) <|
  n_c (s_iconst (pc := 2) (n := 0) (by decide +kernel) (by decide +kernel)) <|
  n_c (s_istore_n (pc := 3) (k := 2) (by decide +kernel)) <|
  n_c (s_iconst (pc := 4) (n := 0) (by decide +kernel) (by decide +kernel)) <|
  n_c (s_istore_n (pc := 5) (k := 3) (by decide +kernel)) <|
  n_c (s_iload_n (pc := 6) (k := 3) (by decide +kernel)) <|
  n_c (s_bipush (pc := 7) (n := 10) (by decide +kernel) (by decide +kernel)) <|
  n_c (s_icmp_ge (pc := 9) (off := 54) (by decide +kernel) (by decide +kernel)) <|
  n_c (s_iload_n (pc := 12) (k := 3) (by decide +kernel)) <|
  n_c (s_istore (pc := 13) (by decide +kernel)) <|
  n_c (s_aload_n (pc := 15) (k := 0) (by decide +kernel)) <|
  n_c (s_iload_n (pc := 16) (k := 1) (by decide +kernel)) <|
  n_c (s_iload (pc := 17) (by decide +kernel)) <|
  n_c (s_callVc (s_callV (pc := 19) (csX12_has) (by decide) okX12_has nok12 w_2013 w_114 w_2011 (by decide +kernel)) (gk107 hG)) <|
  n_c (s_if_ne (pc := 22) (off := 35) (by decide +kernel) (by decide +kernel)) <|
  n_c (s_iload_n (pc := 25) (k := 1) (by decide +kernel)) <|
  n_c (s_iconst (pc := 26) (n := 1) (by decide +kernel) (by decide +kernel)) <|
  n_c (s_iload (pc := 27) (by decide +kernel)) <|
  n_c (s_ishl (pc := 29) (by decide +kernel)) <|
  n_c (s_ior (pc := 30) (by decide +kernel)) <|
  n_c (s_istore_n (pc := 31) (k := 1) (by decide +kernel)) <|
  n_c (s_aload_n (pc := 32) (k := 0) (by decide +kernel)) <|
  n_c (s_iload (pc := 33) (by decide +kernel)) <|
  n_c (s_callVc (s_callV (pc := 35) (csX12_comesUnder N hG) (by decide) okX12_comesUnder nok12 w_2005 w_112 w_2003 (by decide +kernel)) (gk107 hG)) <|
  n_c (s_iload_n (pc := 38) (k := 3) (by decide +kernel)) <|
  n_c (s_icmp_eq (pc := 39) (off := 7) (by decide +kernel) (by decide +kernel)) <|
  n_c (s_iload_n (pc := 42) (k := 2) (by decide +kernel)) <|
  n_c (s_iconst (pc := 43) (n := 1) (by decide +kernel) (by decide +kernel)) <|
  n_c (s_iadd (pc := 44) (by decide +kernel)) <|
  n_c (s_istore_n (pc := 45) (k := 2) (by decide +kernel)) <|
  n_c (s_aload_n (pc := 46) (k := 0) (by decide +kernel)) <|
  n_c (s_iload (pc := 47) (by decide +kernel)) <|
  n_c (s_callVc (s_callV (pc := 49) (csX12_comesUnder N hG) (by decide) okX12_comesUnder nok12 w_2005 w_112 w_2003 (by decide +kernel)) (gk107 hG)) <|
  n_c (s_istore (pc := 52) (by decide +kernel)) <|
  n_c (s_goto (pc := 54) (off := -39) (by decide +kernel) (by decide +kernel)) <|
  n_c (s_iinc (pc := 57) (n := 1) (by decide +kernel) (by decide +kernel)) <|
  n_c (s_goto (pc := 60) (off := -54) (by decide +kernel) (by decide +kernel)) <|
  n_c (s_iload_n (pc := 63) (k := 2) (by decide +kernel)) <|
  n_c (s_iret (pc := 64) rfl (by decide +kernel)) <|
  n_e
def fX12_leastSwaps_46 (N : Nat) (k6 : Int32 → Int32 → Int32 → nM → Option (Int32 × nM)) (k15 : Int32 → Int32 → Int32 → Int32 → nM → Option (Int32 × nM)) (x1 : Int32) (x2 : Int32) (x3 : Int32) (x4 : Int32) (M : nM) : Option (Int32 × nM) :=
  (fX12_comesUnder N x4 M).bind fun p1 =>
  k15 x1 x2 x3 p1.1 p1.2
set_option maxRecDepth 200000 in
theorem bX12_leastSwaps_46 {l : Launch} {w : nW} (N : Nat) {G : nG} (hG : n_GOK G) (k6 : Int32 → Int32 → Int32 → nM → Option (Int32 × nM)) (hk6 : ∀ (x1 : Int32) (x2 : Int32) (x3 : Int32) (M : nM) (r : Int32 × nM), k6 x1 x2 x3 M = some r → n_At l w 1 mX12_leastSwaps 6 [(0, .ref 107), (1, .int x1), (2, .int x2), (3, .int x3)] [] (G, M) (dv_i r.1, (G, r.2))) (k15 : Int32 → Int32 → Int32 → Int32 → nM → Option (Int32 × nM)) (hk15 : ∀ (x1 : Int32) (x2 : Int32) (x3 : Int32) (x4 : Int32) (M : nM) (r : Int32 × nM), k15 x1 x2 x3 x4 M = some r → n_At l w 1 mX12_leastSwaps 15 [(0, .ref 107), (1, .int x1), (2, .int x2), (3, .int x3), (4, .int x4)] [] (G, M) (dv_i r.1, (G, r.2))) (x1 : Int32) (x2 : Int32) (x3 : Int32) (x4 : Int32) (M : nM) (r : Int32 × nM) (h : fX12_leastSwaps_46 N k6 k15 x1 x2 x3 x4 M = some r) : n_At l w 1 mX12_leastSwaps 46 [(0, .ref 107), (1, .int x1), (2, .int x2), (3, .int x3), (4, .int x4)] [] (G, M) (dv_i r.1, (G, r.2)) :=
  n_seg (fin := n_fin dv_i G) (K := [(15, fun lv st M => n_lC 107 lv 0 (n_lI lv 1 (fun x1 => n_lI lv 2 (fun x2 => n_lI lv 3 (fun x3 => n_lI lv 4 (fun x4 => n_pE st (k15 x1 x2 x3 x4 M)))))))]) 8 (iX12_leastSwaps N hG) (n_kc (fun lv st M r h => by
      obtain ⟨e0, h1⟩ := n_lC_x h
      obtain ⟨x1, e1, h2⟩ := n_lI_x h1
      obtain ⟨x2, e2, h3⟩ := n_lI_x h2
      obtain ⟨x3, e3, h4⟩ := n_lI_x h3
      obtain ⟨x4, e4, h5⟩ := n_lI_x h4
      obtain ⟨rfl, h6⟩ := n_pE_x h5
      exact n_sub (n_qc e0 (n_qc e1 (n_qc e2 (n_qc e3 (n_qc e4 n_qe))))) (hk15 x1 x2 x3 x4 M r h6)) n_ke) (by rfl) h
def fX12_leastSwaps_15 (N : Nat) (k6 : Int32 → Int32 → Int32 → nM → Option (Int32 × nM)) : Nat → Int32 → Int32 → Int32 → Int32 → nM → Option (Int32 × nM)
  | 0, _, _, _, _, _ => none
  | n + 1, x1, x2, x3, x4, M =>
    (fX12_has x1 x4 M).bind fun p1 =>
    if ¬ p1.1 = 0 then
      let v2 : Int32 := (x3 + (1 : Int32))
      k6 x1 x2 v2 p1.2
    else
      let v3 : Int32 := (x1 ||| ((1 : Int32) <<< (x4 &&& 31)))
      (fX12_comesUnder N x4 p1.2).bind fun p4 =>
      if p4.1 = x3 then
        fX12_leastSwaps_46 N k6 (fun x1 x2 x3 x4 M => fX12_leastSwaps_15 N k6 n x1 x2 x3 x4 M) v3 x2 x3 x4 p4.2
      else
        let v5 : Int32 := (x2 + (1 : Int32))
        fX12_leastSwaps_46 N k6 (fun x1 x2 x3 x4 M => fX12_leastSwaps_15 N k6 n x1 x2 x3 x4 M) v3 v5 x3 x4 p4.2
set_option maxRecDepth 200000 in
theorem bX12_leastSwaps_15 {l : Launch} {w : nW} (N : Nat) {G : nG} (hG : n_GOK G) (k6 : Int32 → Int32 → Int32 → nM → Option (Int32 × nM)) (hk6 : ∀ (x1 : Int32) (x2 : Int32) (x3 : Int32) (M : nM) (r : Int32 × nM), k6 x1 x2 x3 M = some r → n_At l w 1 mX12_leastSwaps 6 [(0, .ref 107), (1, .int x1), (2, .int x2), (3, .int x3)] [] (G, M) (dv_i r.1, (G, r.2))) : ∀ (n : Nat) (x1 : Int32) (x2 : Int32) (x3 : Int32) (x4 : Int32) (M : nM) (r : Int32 × nM), fX12_leastSwaps_15 N k6 n x1 x2 x3 x4 M = some r → n_At l w 1 mX12_leastSwaps 15 [(0, .ref 107), (1, .int x1), (2, .int x2), (3, .int x3), (4, .int x4)] [] (G, M) (dv_i r.1, (G, r.2)) := by
  intro n
  induction n with
  | zero => intro x1 x2 x3 x4 M r h; cases (show (none : Option (Int32 × nM)) = some r from h)
  | succ n ih =>
    intro x1 x2 x3 x4 M r h
    exact n_seg (fin := n_fin dv_i G) (K := [(6, fun lv st M => n_lC 107 lv 0 (n_lI lv 1 (fun x1 => n_lI lv 2 (fun x2 => n_lI lv 3 (fun x3 => n_pE st (k6 x1 x2 x3 M)))))), (46, fun lv st M => n_lC 107 lv 0 (n_lI lv 1 (fun x1 => n_lI lv 2 (fun x2 => n_lI lv 3 (fun x3 => n_lI lv 4 (fun x4 => n_pE st (fX12_leastSwaps_46 N k6 (fun x1 x2 x3 x4 M => fX12_leastSwaps_15 N k6 n x1 x2 x3 x4 M) x1 x2 x3 x4 M)))))))]) 25 (iX12_leastSwaps N hG) (n_kc (fun lv st M r h => by
      obtain ⟨e0, h1⟩ := n_lC_x h
      obtain ⟨x1, e1, h2⟩ := n_lI_x h1
      obtain ⟨x2, e2, h3⟩ := n_lI_x h2
      obtain ⟨x3, e3, h4⟩ := n_lI_x h3
      obtain ⟨rfl, h5⟩ := n_pE_x h4
      exact n_sub (n_qc e0 (n_qc e1 (n_qc e2 (n_qc e3 n_qe)))) (hk6 x1 x2 x3 M r h5)) (n_kc (fun lv st M r h => by
      obtain ⟨e0, h1⟩ := n_lC_x h
      obtain ⟨x1, e1, h2⟩ := n_lI_x h1
      obtain ⟨x2, e2, h3⟩ := n_lI_x h2
      obtain ⟨x3, e3, h4⟩ := n_lI_x h3
      obtain ⟨x4, e4, h5⟩ := n_lI_x h4
      obtain ⟨rfl, h6⟩ := n_pE_x h5
      exact n_sub (n_qc e0 (n_qc e1 (n_qc e2 (n_qc e3 (n_qc e4 n_qe))))) (bX12_leastSwaps_46 N hG k6 hk6 (fun x1 x2 x3 x4 M => fX12_leastSwaps_15 N k6 n x1 x2 x3 x4 M) ih x1 x2 x3 x4 M r h6)) n_ke)) (by rfl) h
def fX12_leastSwaps_6 (N : Nat) : Nat → Int32 → Int32 → Int32 → nM → Option (Int32 × nM)
  | 0, _, _, _, _ => none
  | n + 1, x1, x2, x3, M =>
    if (10 : Int32) ≤ x3 then
      some (x2, M)
    else
      fX12_leastSwaps_15 N (fun x1 x2 x3 M => fX12_leastSwaps_6 N n x1 x2 x3 M) N x1 x2 x3 x3 M
set_option maxRecDepth 200000 in
theorem bX12_leastSwaps_6 {l : Launch} {w : nW} (N : Nat) {G : nG} (hG : n_GOK G) : ∀ (n : Nat) (x1 : Int32) (x2 : Int32) (x3 : Int32) (M : nM) (r : Int32 × nM), fX12_leastSwaps_6 N n x1 x2 x3 M = some r → n_At l w 1 mX12_leastSwaps 6 [(0, .ref 107), (1, .int x1), (2, .int x2), (3, .int x3)] [] (G, M) (dv_i r.1, (G, r.2)) := by
  intro n
  induction n with
  | zero => intro x1 x2 x3 M r h; cases (show (none : Option (Int32 × nM)) = some r from h)
  | succ n ih =>
    intro x1 x2 x3 M r h
    exact n_seg (fin := n_fin dv_i G) (K := [(15, fun lv st M => n_lC 107 lv 0 (n_lI lv 1 (fun x1 => n_lI lv 2 (fun x2 => n_lI lv 3 (fun x3 => n_lI lv 4 (fun x4 => n_pE st (fX12_leastSwaps_15 N (fun x1 x2 x3 M => fX12_leastSwaps_6 N n x1 x2 x3 M) N x1 x2 x3 x4 M)))))))]) 10 (iX12_leastSwaps N hG) (n_kc (fun lv st M r h => by
      obtain ⟨e0, h1⟩ := n_lC_x h
      obtain ⟨x1, e1, h2⟩ := n_lI_x h1
      obtain ⟨x2, e2, h3⟩ := n_lI_x h2
      obtain ⟨x3, e3, h4⟩ := n_lI_x h3
      obtain ⟨x4, e4, h5⟩ := n_lI_x h4
      obtain ⟨rfl, h6⟩ := n_pE_x h5
      exact n_sub (n_qc e0 (n_qc e1 (n_qc e2 (n_qc e3 (n_qc e4 n_qe))))) (bX12_leastSwaps_15 N hG (fun x1 x2 x3 M => fX12_leastSwaps_6 N n x1 x2 x3 M) ih N x1 x2 x3 x4 M r h6)) n_ke) (by rfl) h
def fX12_leastSwaps (N : Nat) (M : nM) : Option (Int32 × nM) :=
  fX12_leastSwaps_6 N N (0 : Int32) (0 : Int32) (0 : Int32) M
set_option maxRecDepth 200000 in
theorem bX12_leastSwaps_0 {l : Launch} {w : nW} (N : Nat) {G : nG} (hG : n_GOK G) (M : nM) (r : Int32 × nM) (h : fX12_leastSwaps N M = some r) : n_At l w 1 mX12_leastSwaps 0 [(0, .ref 107)] [] (G, M) (dv_i r.1, (G, r.2)) :=
  n_seg (fin := n_fin dv_i G) (K := [(6, fun lv st M => n_lC 107 lv 0 (n_lI lv 1 (fun x1 => n_lI lv 2 (fun x2 => n_lI lv 3 (fun x3 => n_pE st (fX12_leastSwaps_6 N N x1 x2 x3 M))))))]) 9 (iX12_leastSwaps N hG) (n_kc (fun lv st M r h => by
      obtain ⟨e0, h1⟩ := n_lC_x h
      obtain ⟨x1, e1, h2⟩ := n_lI_x h1
      obtain ⟨x2, e2, h3⟩ := n_lI_x h2
      obtain ⟨x3, e3, h4⟩ := n_lI_x h3
      obtain ⟨rfl, h5⟩ := n_pE_x h4
      exact n_sub (n_qc e0 (n_qc e1 (n_qc e2 (n_qc e3 n_qe)))) (bX12_leastSwaps_6 N hG N x1 x2 x3 M r h5)) n_ke) (by rfl) h
theorem eX12_leastSwaps {l : Launch} {w : nW} (N : Nat) {G : nG} (hG : n_GOK G) (M : nM) (r : Int32 × nM) (h : fX12_leastSwaps N M = some r) : n_Met l w 1 mX12_leastSwaps [.ref 107] (G, M) (dv_i r.1, (G, r.2)) :=
  n_entry (by decide +kernel) rfl (Nat.le_of_ble_eq_true rfl) (n_sub (lv := [(0, .ref 107)]) (n_qc rfl n_qe) (bX12_leastSwaps_0 N hG M r h))
abbrev hX12_leastSwaps (N : Nat) : nF := fun T as M k => n_pC 107 as (fun as => n_pE as ((fX12_leastSwaps N M).bind fun p => k (dv_i p.1) p.2))
theorem csX12_leastSwaps {l : Launch} {w : nW} (N : Nat) {G : nG} (hG : n_GOK G) : n_CS l w 1 mX12_leastSwaps G (hX12_leastSwaps N) := fun T as M k r h => by
  obtain ⟨t0, rfl, h1⟩ := n_pC_x h
  obtain ⟨rfl, hE⟩ := n_pE_x h1
  obtain ⟨p, hp, hk⟩ := Option.bind_eq_some_iff.mp hE
  exact ⟨_, _, eX12_leastSwaps N hG M p hp, hk⟩
/-! ===== SleightHouseModel.under(I)I ===== -/
def mX12_under : nY := (RX12, yX12_under, cX12_under, 2, some .int)
theorem okX12_under : n_MOK mX12_under 1 := ⟨w_2002, w_151, ⟨by decide +kernel, by decide +kernel, by decide +kernel⟩, by decide⟩
abbrev aX12_under (N : Nat) : List (Nat × nO (Int32 × nM)) := [(0, o_aload 0 1), (1, o_push (.int (0 : Int32)) 2), (2, o_pIc 107 0 5), (5, o_aload 0 6), (6, o_iload 1 7), (7, o_push (.int (-2 : Int32)) 9), (9, o_push (.int (9 : Int32)) 11), (11, o_callVc 107 3 (hX12_isIn) 14), (14, oi_ne 19 17), (17, o_push (.int (-1 : Int32)) 18), (18, o_iret), (19, o_iload 1 20), (20, oi_lt 31 23), (23, o_aload 0 24), (24, o_iload 1 25), (25, o_callVc 107 1 (hX12_comesUnder N) 28), (28, o_goto 51), (31, o_iload 1 32), (32, o_push (.int (-1 : Int32)) 33), (33, oc_ne 43 36), (36, o_aload 0 37), (37, o_callVc 107 0 (hX12_leastSwaps N) 40), (40, o_goto 51), (43, o_push (.int (1 : Int32)) 44), (44, o_aload 0 45), (45, o_callVc 107 0 (hX12_leastSwaps N) 48), (48, o_push (.int (2 : Int32)) 49), (49, o_irem 50), (50, o_isub 51), (51, o_iret)]
set_option maxRecDepth 200000 in
theorem iX12_under {l : Launch} {w : nW} (N : Nat) {G : nG} (hG : n_GOK G) : n_AllS l w 2 mX12_under G (n_fin dv_i G) (aX12_under N) :=
  n_c (s_aload_n (pc := 0) (k := 0) (by decide +kernel)) <|
  n_c (s_iconst (pc := 1) (n := 0) (by decide +kernel) (by decide +kernel)) <|
  n_c (s_pIc (s_putI (pc := 2) (ci := 12) (k := 0) (idx := 146) nok12 (by decide) rfl rfl (by decide +kernel) w_1407) (gk107 hG)) <|
  n_c (s_aload_n (pc := 5) (k := 0) (by decide +kernel)) <|
  n_c (s_iload_n (pc := 6) (k := 1) (by decide +kernel)) <|
  n_c (s_bipush (pc := 7) (n := -2) (by decide +kernel) (by decide +kernel)) <|
  n_c (s_bipush (pc := 9) (n := 9) (by decide +kernel) (by decide +kernel)) <|
  n_c (s_callVc (s_callV (pc := 11) (csX12_isIn) (by decide) okX12_isIn nok12 w_1659 w_46 w_1657 (by decide +kernel)) (gk107 hG)) <|
  n_c (s_if_ne (pc := 14) (off := 5) (by decide +kernel) (by decide +kernel)) <|
  n_c (s_iconst (pc := 17) (n := -1) (by decide +kernel) (by decide +kernel)) <|
  n_c (s_iret (pc := 18) rfl (by decide +kernel)) <|
  n_c (s_iload_n (pc := 19) (k := 1) (by decide +kernel)) <|
  n_c (s_if_lt (pc := 20) (off := 11) (by decide +kernel) (by decide +kernel)) <|
  n_c (s_aload_n (pc := 23) (k := 0) (by decide +kernel)) <|
  n_c (s_iload_n (pc := 24) (k := 1) (by decide +kernel)) <|
  n_c (s_callVc (s_callV (pc := 25) (csX12_comesUnder N hG) (by decide) okX12_comesUnder nok12 w_2005 w_112 w_2003 (by decide +kernel)) (gk107 hG)) <|
  n_c (s_goto (pc := 28) (off := 23) (by decide +kernel) (by decide +kernel)) <|
  n_c (s_iload_n (pc := 31) (k := 1) (by decide +kernel)) <|
  n_c (s_iconst (pc := 32) (n := -1) (by decide +kernel) (by decide +kernel)) <|
  n_c (s_icmp_ne (pc := 33) (off := 10) (by decide +kernel) (by decide +kernel)) <|
  n_c (s_aload_n (pc := 36) (k := 0) (by decide +kernel)) <|
  n_c (s_callVc (s_callV (pc := 37) (csX12_leastSwaps N hG) (by decide) okX12_leastSwaps nok12 w_2009 w_113 w_2007 (by decide +kernel)) (gk107 hG)) <|
  n_c (s_goto (pc := 40) (off := 11) (by decide +kernel) (by decide +kernel)) <|
  n_c (s_iconst (pc := 43) (n := 1) (by decide +kernel) (by decide +kernel)) <|
  n_c (s_aload_n (pc := 44) (k := 0) (by decide +kernel)) <|
  n_c (s_callVc (s_callV (pc := 45) (csX12_leastSwaps N hG) (by decide) okX12_leastSwaps nok12 w_2009 w_113 w_2007 (by decide +kernel)) (gk107 hG)) <|
  n_c (s_iconst (pc := 48) (n := 2) (by decide +kernel) (by decide +kernel)) <|
  n_c (s_irem (pc := 49) (by decide +kernel)) <|
  n_c (s_isub (pc := 50) (by decide +kernel)) <|
  n_c (s_iret (pc := 51) rfl (by decide +kernel)) <|
  n_e
def fX12_under (N : Nat) (x1 : Int32) (M : nM) : Option (Int32 × nM) :=
  let M1 : nM := n_up M 107 0 (0 : Int32)
  (fX12_isIn x1 (-2 : Int32) (9 : Int32) M1).bind fun p2 =>
  if ¬ p2.1 = 0 then
    if x1 < 0 then
      if ¬ x1 = (-1 : Int32) then
        (fX12_leastSwaps N p2.2).bind fun p3 =>
        if (2 : Int32) = 0 then none else
        some (((1 : Int32) - (p3.1 - p3.1 / (2 : Int32) * (2 : Int32))), p3.2)
      else
        (fX12_leastSwaps N p2.2).bind fun p4 =>
        some (p4.1, p4.2)
    else
      (fX12_comesUnder N x1 p2.2).bind fun p5 =>
      some (p5.1, p5.2)
  else
    some ((-1 : Int32), p2.2)
set_option maxRecDepth 200000 in
theorem bX12_under_0 {l : Launch} {w : nW} (N : Nat) {G : nG} (hG : n_GOK G) (x1 : Int32) (M : nM) (r : Int32 × nM) (h : fX12_under N x1 M = some r) : n_At l w 2 mX12_under 0 [(0, .ref 107), (1, .int x1)] [] (G, M) (dv_i r.1, (G, r.2)) :=
  n_seg (fin := n_fin dv_i G) (K := []) 35 (iX12_under N hG) n_ke (by rfl) h
theorem eX12_under {l : Launch} {w : nW} (N : Nat) {G : nG} (hG : n_GOK G) (z1 : Int32) (M : nM) (r : Int32 × nM) (h : fX12_under N z1 M = some r) : n_Met l w 2 mX12_under [.ref 107, .int z1] (G, M) (dv_i r.1, (G, r.2)) :=
  n_entry (by decide +kernel) rfl (Nat.le_of_ble_eq_true rfl) (n_sub (lv := [(0, .ref 107), (1, .int z1)]) (n_qc rfl (n_qc rfl n_qe)) (bX12_under_0 N hG z1 M r h))
abbrev hX12_under (N : Nat) : nF := fun T as M k => n_pC 107 as (fun as => n_pI as (fun z1 as => n_pE as ((fX12_under N z1 M).bind fun p => k (dv_i p.1) p.2)))
theorem csX12_under {l : Launch} {w : nW} (N : Nat) {G : nG} (hG : n_GOK G) : n_CS l w 2 mX12_under G (hX12_under N) := fun T as M k r h => by
  obtain ⟨t0, rfl, h1⟩ := n_pC_x h
  obtain ⟨z1, t1, rfl, h2⟩ := n_pI_x h1
  obtain ⟨rfl, hE⟩ := n_pE_x h2
  obtain ⟨p, hp, hk⟩ := Option.bind_eq_some_iff.mp hE
  exact ⟨_, _, eX12_under N hG z1 M p hp, hk⟩
/-! ===== SleightHouse.pick(I)I ===== -/
def mX11_pick : nY := (RX11, yX11_pick, cX11_pick, 2, some .int)
theorem okX11_pick : n_MOK mX11_pick 1 := ⟨w_1150, w_137, ⟨by decide +kernel, by decide +kernel, by decide +kernel⟩, by decide⟩
abbrev aX11_pick (G : nG) : List (Nat × nO (Int32 × nM)) := [(0, o_iload 1 1), (1, o_push (.int (-1 : Int32)) 2), (2, oc_ne 19 5), (5, o_aload 0 6), (6, o_gRc 1 2 9), (9, o_gRc 2 28 12), (12, o_gRc 28 31 15), (15, o_callVc 31 0 (hX7_clear G) 18), (18, o_iret), (19, o_iload 1 20), (20, o_push (.int (0 : Int32)) 21), (21, o_push (.int (2 : Int32)) 22), (22, o_call 3 (hX11_within) 25), (25, oi_eq 48 28), (28, o_aload 0 29), (29, o_gRc 1 2 32), (32, o_gRc 2 28 35), (35, o_gRc 28 31 38), (38, o_iload 1 39), (39, o_push (.int (0 : Int32)) 40), (40, o_push (.int (0 : Int32)) 41), (41, o_push (.int (0 : Int32)) 42), (42, o_callVc 31 4 (hX7_add G) 45), (45, o_goto 49), (48, o_push (.int (-1 : Int32)) 49), (49, o_iret)]
set_option maxRecDepth 200000 in
theorem iX11_pick {l : Launch} {w : nW} {G : nG} (hG : n_GOK G) : n_AllS l w 2 mX11_pick G (n_fin dv_i G) (aX11_pick G) :=
  n_c (s_iload_n (pc := 0) (k := 1) (by decide +kernel)) <|
  n_c (s_iconst (pc := 1) (n := -1) (by decide +kernel) (by decide +kernel)) <|
  n_c (s_icmp_ne (pc := 2) (off := 17) (by decide +kernel) (by decide +kernel)) <|
  n_c (s_aload_n (pc := 5) (k := 0) (by decide +kernel)) <|
  n_c (s_gRc (s_getR (pc := 6) (ci := 11) (k := 0) (idx := 10) nok11 (by decide) rfl (by decide +kernel) w_572) (gk1 hG) (gm1_0 hG)) <|
  n_c (s_gRc (s_getR (pc := 9) (ci := 1) (k := 7) (idx := 56) nok1 (by decide) rfl (by decide +kernel) w_421) (gk2 hG) (gm2_7 hG)) <|
  n_c (s_gRc (s_getR (pc := 12) (ci := 10) (k := 1) (idx := 302) nok10 (by decide) rfl (by decide +kernel) w_362) (gk28 hG) (gm28_1 hG)) <|
  n_c (s_callVc (s_callV (pc := 15) (csX7_clear) (by decide) okX7_clear nok7 w_962 w_963 w_1129 (by decide +kernel)) (gk31 hG)) <|
  n_c (s_iret (pc := 18) rfl (by decide +kernel)) <|
  n_c (s_iload_n (pc := 19) (k := 1) (by decide +kernel)) <|
  n_c (s_iconst (pc := 20) (n := 0) (by decide +kernel) (by decide +kernel)) <|
  n_c (s_iconst (pc := 21) (n := 2) (by decide +kernel) (by decide +kernel)) <|
  n_c (s_callS (pc := 22) (csX11_within) (by decide) okX11_within w_610 w_609 (by decide +kernel)) <|
  n_c (s_if_eq (pc := 25) (off := 23) (by decide +kernel) (by decide +kernel)) <|
  n_c (s_aload_n (pc := 28) (k := 0) (by decide +kernel)) <|
  n_c (s_gRc (s_getR (pc := 29) (ci := 11) (k := 0) (idx := 10) nok11 (by decide) rfl (by decide +kernel) w_572) (gk1 hG) (gm1_0 hG)) <|
  n_c (s_gRc (s_getR (pc := 32) (ci := 1) (k := 7) (idx := 56) nok1 (by decide) rfl (by decide +kernel) w_421) (gk2 hG) (gm2_7 hG)) <|
  n_c (s_gRc (s_getR (pc := 35) (ci := 10) (k := 1) (idx := 302) nok10 (by decide) rfl (by decide +kernel) w_362) (gk28 hG) (gm28_1 hG)) <|
  n_c (s_iload_n (pc := 38) (k := 1) (by decide +kernel)) <|
  n_c (s_iconst (pc := 39) (n := 0) (by decide +kernel) (by decide +kernel)) <|
  n_c (s_iconst (pc := 40) (n := 0) (by decide +kernel) (by decide +kernel)) <|
  n_c (s_iconst (pc := 41) (n := 0) (by decide +kernel) (by decide +kernel)) <|
  n_c (s_callVc (s_callV (pc := 42) (csX7_add) (by decide) okX7_add nok7 w_1030 w_1031 w_1130 (by decide +kernel)) (gk31 hG)) <|
  n_c (s_goto (pc := 45) (off := 4) (by decide +kernel) (by decide +kernel)) <|
  n_c (s_iconst (pc := 48) (n := -1) (by decide +kernel) (by decide +kernel)) <|
  n_c (s_iret (pc := 49) rfl (by decide +kernel)) <|
  n_e
def fX11_pick (G : nG) (x1 : Int32) (M : nM) : Option (Int32 × nM) :=
  if ¬ x1 = (-1 : Int32) then
    (fX11_within x1 (0 : Int32) (2 : Int32) M).bind fun p1 =>
    if p1.1 = 0 then
      some ((-1 : Int32), p1.2)
    else
      (fX7_add G 31 x1 (0 : Int32) (0 : Int32) (0 : Int32) p1.2).bind fun p2 =>
      some (p2.1, p2.2)
  else
    (fX7_clear G 31 M).bind fun p3 =>
    some (p3.1, p3.2)
set_option maxRecDepth 200000 in
theorem bX11_pick_0 {l : Launch} {w : nW} {G : nG} (hG : n_GOK G) (x1 : Int32) (M : nM) (r : Int32 × nM) (h : fX11_pick G x1 M = some r) : n_At l w 2 mX11_pick 0 [(0, .ref 1), (1, .int x1)] [] (G, M) (dv_i r.1, (G, r.2)) :=
  n_seg (fin := n_fin dv_i G) (K := []) 30 (iX11_pick hG) n_ke (by rfl) h
theorem eX11_pick {l : Launch} {w : nW} {G : nG} (hG : n_GOK G) (z1 : Int32) (M : nM) (r : Int32 × nM) (h : fX11_pick G z1 M = some r) : n_Met l w 2 mX11_pick [.ref 1, .int z1] (G, M) (dv_i r.1, (G, r.2)) :=
  n_entry (by decide +kernel) rfl (Nat.le_of_ble_eq_true rfl) (n_sub (lv := [(0, .ref 1), (1, .int z1)]) (n_qc rfl (n_qc rfl n_qe)) (bX11_pick_0 hG z1 M r h))
abbrev hX11_pick (G : nG) : nF := fun T as M k => n_pC 1 as (fun as => n_pI as (fun z1 as => n_pE as ((fX11_pick G z1 M).bind fun p => k (dv_i p.1) p.2)))
theorem csX11_pick {l : Launch} {w : nW} {G : nG} (hG : n_GOK G) : n_CS l w 2 mX11_pick G (hX11_pick G) := fun T as M k r h => by
  obtain ⟨t0, rfl, h1⟩ := n_pC_x h
  obtain ⟨z1, t1, rfl, h2⟩ := n_pI_x h1
  obtain ⟨rfl, hE⟩ := n_pE_x h2
  obtain ⟨p, hp, hk⟩ := Option.bind_eq_some_iff.mp hE
  exact ⟨_, _, eX11_pick hG z1 M p hp, hk⟩
/-! ===== SleightHouseModel.pick(I)I ===== -/
def mX12_pick : nY := (RX12, yX12_pick, cX12_pick, 2, some .int)
theorem okX12_pick : n_MOK mX12_pick 1 := ⟨w_2018, w_151, ⟨by decide +kernel, by decide +kernel, by decide +kernel⟩, by decide⟩
abbrev aX12_pick : List (Nat × nO (Int32 × nM)) := [(0, o_aload 0 1), (1, o_push (.int (0 : Int32)) 2), (2, o_pIc 107 0 5), (5, o_iload 1 6), (6, o_push (.int (-1 : Int32)) 7), (7, oc_ne 17 10), (10, o_aload 0 11), (11, o_push (.int (0 : Int32)) 12), (12, o_pIc 107 49 15), (15, o_push (.int (0 : Int32)) 16), (16, o_iret), (17, o_aload 0 18), (18, o_iload 1 19), (19, o_push (.int (0 : Int32)) 20), (20, o_push (.int (2 : Int32)) 21), (21, o_callVc 107 3 (hX12_isIn) 24), (24, oi_eq 35 27), (27, o_aload 0 28), (28, o_gIc 107 49 31), (31, o_push (.int (4 : Int32)) 32), (32, oc_ne 37 35), (35, o_push (.int (-1 : Int32)) 36), (36, o_iret), (37, o_aload 0 38), (38, o_gRc 107 135 41), (41, o_aload 0 42), (42, o_gIc 107 49 45), (45, o_iload 1 46), (46, o_iastc 135 4 47), (47, o_aload 0 48), (48, o_aload 0 49), (49, o_gIc 107 49 52), (52, o_push (.int (1 : Int32)) 53), (53, o_iadd 54), (54, o_pIc 107 49 57), (57, o_aload 0 58), (58, o_gIc 107 49 61), (61, o_iret)]
set_option maxRecDepth 200000 in
theorem iX12_pick {l : Launch} {w : nW} {G : nG} (hG : n_GOK G) : n_AllS l w 1 mX12_pick G (n_fin dv_i G) (aX12_pick) :=
  n_c (s_aload_n (pc := 0) (k := 0) (by decide +kernel)) <|
  n_c (s_iconst (pc := 1) (n := 0) (by decide +kernel) (by decide +kernel)) <|
  n_c (s_pIc (s_putI (pc := 2) (ci := 12) (k := 0) (idx := 146) nok12 (by decide) rfl rfl (by decide +kernel) w_1407) (gk107 hG)) <|
  n_c (s_iload_n (pc := 5) (k := 1) (by decide +kernel)) <|
  n_c (s_iconst (pc := 6) (n := -1) (by decide +kernel) (by decide +kernel)) <|
  n_c (s_icmp_ne (pc := 7) (off := 10) (by decide +kernel) (by decide +kernel)) <|
  n_c (s_aload_n (pc := 10) (k := 0) (by decide +kernel)) <|
  n_c (s_iconst (pc := 11) (n := 0) (by decide +kernel) (by decide +kernel)) <|
  n_c (s_pIc (s_putI (pc := 12) (ci := 12) (k := 49) (idx := 431) nok12 (by decide) rfl rfl (by decide +kernel) w_1456) (gk107 hG)) <|
  n_c (s_iconst (pc := 15) (n := 0) (by decide +kernel) (by decide +kernel)) <|
  n_c (s_iret (pc := 16) rfl (by decide +kernel)) <|
  n_c (s_aload_n (pc := 17) (k := 0) (by decide +kernel)) <|
  n_c (s_iload_n (pc := 18) (k := 1) (by decide +kernel)) <|
  n_c (s_iconst (pc := 19) (n := 0) (by decide +kernel) (by decide +kernel)) <|
  n_c (s_iconst (pc := 20) (n := 2) (by decide +kernel) (by decide +kernel)) <|
  n_c (s_callVc (s_callV (pc := 21) (csX12_isIn) (by decide) okX12_isIn nok12 w_1659 w_46 w_1657 (by decide +kernel)) (gk107 hG)) <|
  n_c (s_if_eq (pc := 24) (off := 11) (by decide +kernel) (by decide +kernel)) <|
  n_c (s_aload_n (pc := 27) (k := 0) (by decide +kernel)) <|
  n_c (s_gIc (s_getI (pc := 28) (ci := 12) (k := 49) (idx := 431) nok12 (by decide) rfl (by decide +kernel) w_1456) (gk107 hG)) <|
  n_c (s_iconst (pc := 31) (n := 4) (by decide +kernel) (by decide +kernel)) <|
  n_c (s_icmp_ne (pc := 32) (off := 5) (by decide +kernel) (by decide +kernel)) <|
  n_c (s_iconst (pc := 35) (n := -1) (by decide +kernel) (by decide +kernel)) <|
  n_c (s_iret (pc := 36) rfl (by decide +kernel)) <|
  n_c (s_aload_n (pc := 37) (k := 0) (by decide +kernel)) <|
  n_c (s_gRc (s_getR (pc := 38) (ci := 12) (k := 50) (idx := 95) nok12 (by decide) rfl (by decide +kernel) w_1457) (gk107 hG) (gm107_50 hG)) <|
  n_c (s_aload_n (pc := 41) (k := 0) (by decide +kernel)) <|
  n_c (s_gIc (s_getI (pc := 42) (ci := 12) (k := 49) (idx := 431) nok12 (by decide) rfl (by decide +kernel) w_1456) (gk107 hG)) <|
  n_c (s_iload_n (pc := 45) (k := 1) (by decide +kernel)) <|
  n_c (s_iastc (s_iastore (pc := 46) (by decide +kernel)) (gk135 hG) (gl135 hG)) <|
  n_c (s_aload_n (pc := 47) (k := 0) (by decide +kernel)) <|
  n_c (s_aload_n (pc := 48) (k := 0) (by decide +kernel)) <|
  n_c (s_gIc (s_getI (pc := 49) (ci := 12) (k := 49) (idx := 431) nok12 (by decide) rfl (by decide +kernel) w_1456) (gk107 hG)) <|
  n_c (s_iconst (pc := 52) (n := 1) (by decide +kernel) (by decide +kernel)) <|
  n_c (s_iadd (pc := 53) (by decide +kernel)) <|
  n_c (s_pIc (s_putI (pc := 54) (ci := 12) (k := 49) (idx := 431) nok12 (by decide) rfl rfl (by decide +kernel) w_1456) (gk107 hG)) <|
  n_c (s_aload_n (pc := 57) (k := 0) (by decide +kernel)) <|
  n_c (s_gIc (s_getI (pc := 58) (ci := 12) (k := 49) (idx := 431) nok12 (by decide) rfl (by decide +kernel) w_1456) (gk107 hG)) <|
  n_c (s_iret (pc := 61) rfl (by decide +kernel)) <|
  n_e
def fX12_pick (x1 : Int32) (M : nM) : Option (Int32 × nM) :=
  let M1 : nM := n_up M 107 0 (0 : Int32)
  if ¬ x1 = (-1 : Int32) then
    (fX12_isIn x1 (0 : Int32) (2 : Int32) M1).bind fun p2 =>
    if p2.1 = 0 then
      some ((-1 : Int32), p2.2)
    else
      if ¬ (p2.2 107 49) = (4 : Int32) then
        n_chk (n_ib 4 (p2.2 107 49)) <|
        let M3 : nM := n_up p2.2 135 (p2.2 107 49).toNatClampNeg x1
        let M4 : nM := n_up M3 107 49 ((M3 107 49) + (1 : Int32))
        some ((M4 107 49), M4)
      else
        some ((-1 : Int32), p2.2)
  else
    let M5 : nM := n_up M1 107 49 (0 : Int32)
    some ((0 : Int32), M5)
set_option maxRecDepth 200000 in
theorem bX12_pick_0 {l : Launch} {w : nW} {G : nG} (hG : n_GOK G) (x1 : Int32) (M : nM) (r : Int32 × nM) (h : fX12_pick x1 M = some r) : n_At l w 1 mX12_pick 0 [(0, .ref 107), (1, .int x1)] [] (G, M) (dv_i r.1, (G, r.2)) :=
  n_seg (fin := n_fin dv_i G) (K := []) 43 (iX12_pick hG) n_ke (by rfl) h
theorem eX12_pick {l : Launch} {w : nW} {G : nG} (hG : n_GOK G) (z1 : Int32) (M : nM) (r : Int32 × nM) (h : fX12_pick z1 M = some r) : n_Met l w 1 mX12_pick [.ref 107, .int z1] (G, M) (dv_i r.1, (G, r.2)) :=
  n_entry (by decide +kernel) rfl (Nat.le_of_ble_eq_true rfl) (n_sub (lv := [(0, .ref 107), (1, .int z1)]) (n_qc rfl (n_qc rfl n_qe)) (bX12_pick_0 hG z1 M r h))
abbrev hX12_pick : nF := fun T as M k => n_pC 107 as (fun as => n_pI as (fun z1 as => n_pE as ((fX12_pick z1 M).bind fun p => k (dv_i p.1) p.2)))
theorem csX12_pick {l : Launch} {w : nW} {G : nG} (hG : n_GOK G) : n_CS l w 1 mX12_pick G (hX12_pick) := fun T as M k r h => by
  obtain ⟨t0, rfl, h1⟩ := n_pC_x h
  obtain ⟨z1, t1, rfl, h2⟩ := n_pI_x h1
  obtain ⟨rfl, hE⟩ := n_pE_x h2
  obtain ⟨p, hp, hk⟩ := Option.bind_eq_some_iff.mp hE
  exact ⟨_, _, eX12_pick hG z1 M p hp, hk⟩
/-! ===== SleightHouse$Thought.afterPick(III)I ===== -/
def mX9_afterPick : nY := (RX9, yX9_afterPick, cX9_afterPick, 6, some .int)
theorem okX9_afterPick : n_MOK mX9_afterPick 3 := ⟨w_1161, w_149, ⟨by decide +kernel, by decide +kernel, by decide +kernel⟩, by decide⟩
abbrev aX9_afterPick : List (Nat × nO (Int32 × nM)) := [(0, o_iload 1 1), (1, o_push (.int (3 : Int32)) 2), (2, o_irem 3), (3, o_istore 6 3 4), (4, o_push (.int (3 : Int32)) 5), (5, o_iload 2 6), (6, o_isub 7), (7, o_iload 3 8), (8, o_isub 9), (9, o_istore 6 4 11), (11, o_iload 3 12), (12, o_iload 2 13), (13, oc_ne 20 16), (16, o_push (.int (1 : Int32)) 17), (17, o_goto 31), (20, o_iload 3 21), (21, o_iload 4 23), (23, oc_le 30 26), (26, o_push (.int (2 : Int32)) 27), (27, o_goto 31), (30, o_push (.int (0 : Int32)) 31), (31, o_istore 6 5 33), (33, o_iload 5 35), (35, o_iload 0 36), (36, o_push (.int (3 : Int32)) 37), (37, o_idiv 38), (38, o_imul 39), (39, o_iload 1 40), (40, o_push (.int (3 : Int32)) 41), (41, o_idiv 42), (42, o_iadd 43), (43, o_iret)]
set_option maxRecDepth 200000 in
theorem iX9_afterPick {l : Launch} {w : nW} {G : nG} : n_AllS l w 0 mX9_afterPick G (n_fin dv_i G) (aX9_afterPick) :=
  n_c (s_iload_n (pc := 0) (k := 1) (by decide +kernel)) <|
  n_c (s_iconst (pc := 1) (n := 3) (by decide +kernel) (by decide +kernel)) <|
  n_c (s_irem (pc := 2) (by decide +kernel)) <|
  n_c (s_istore_n (pc := 3) (k := 3) (by decide +kernel)) <|
  n_c (s_iconst (pc := 4) (n := 3) (by decide +kernel) (by decide +kernel)) <|
  n_c (s_iload_n (pc := 5) (k := 2) (by decide +kernel)) <|
  n_c (s_isub (pc := 6) (by decide +kernel)) <|
  n_c (s_iload_n (pc := 7) (k := 3) (by decide +kernel)) <|
  n_c (s_isub (pc := 8) (by decide +kernel)) <|
  n_c (s_istore (pc := 9) (by decide +kernel)) <|
  n_c (s_iload_n (pc := 11) (k := 3) (by decide +kernel)) <|
  n_c (s_iload_n (pc := 12) (k := 2) (by decide +kernel)) <|
  n_c (s_icmp_ne (pc := 13) (off := 7) (by decide +kernel) (by decide +kernel)) <|
  n_c (s_iconst (pc := 16) (n := 1) (by decide +kernel) (by decide +kernel)) <|
  n_c (s_goto (pc := 17) (off := 14) (by decide +kernel) (by decide +kernel)) <|
  n_c (s_iload_n (pc := 20) (k := 3) (by decide +kernel)) <|
  n_c (s_iload (pc := 21) (by decide +kernel)) <|
  n_c (s_icmp_le (pc := 23) (off := 7) (by decide +kernel) (by decide +kernel)) <|
  n_c (s_iconst (pc := 26) (n := 2) (by decide +kernel) (by decide +kernel)) <|
  n_c (s_goto (pc := 27) (off := 4) (by decide +kernel) (by decide +kernel)) <|
  n_c (s_iconst (pc := 30) (n := 0) (by decide +kernel) (by decide +kernel)) <|
  n_c (s_istore (pc := 31) (by decide +kernel)) <|
  n_c (s_iload (pc := 33) (by decide +kernel)) <|
  n_c (s_iload_n (pc := 35) (k := 0) (by decide +kernel)) <|
  n_c (s_iconst (pc := 36) (n := 3) (by decide +kernel) (by decide +kernel)) <|
  n_c (s_idiv (pc := 37) (by decide +kernel)) <|
  n_c (s_imul (pc := 38) (by decide +kernel)) <|
  n_c (s_iload_n (pc := 39) (k := 1) (by decide +kernel)) <|
  n_c (s_iconst (pc := 40) (n := 3) (by decide +kernel) (by decide +kernel)) <|
  n_c (s_idiv (pc := 41) (by decide +kernel)) <|
  n_c (s_iadd (pc := 42) (by decide +kernel)) <|
  n_c (s_iret (pc := 43) rfl (by decide +kernel)) <|
  n_e
def fX9_afterPick_31 (x0 : Int32) (x1 : Int32) (s0 : Int32) (M : nM) : Option (Int32 × nM) :=
  if (3 : Int32) = 0 then none else
  if (3 : Int32) = 0 then none else
  some (((s0 * (x0 / (3 : Int32))) + (x1 / (3 : Int32))), M)
set_option maxRecDepth 200000 in
theorem bX9_afterPick_31 {l : Launch} {w : nW} {G : nG} (x0 : Int32) (x1 : Int32) (s0 : Int32) (M : nM) (r : Int32 × nM) (h : fX9_afterPick_31 x0 x1 s0 M = some r) : n_At l w 0 mX9_afterPick 31 [(0, .int x0), (1, .int x1)] [.int s0] (G, M) (dv_i r.1, (G, r.2)) :=
  n_seg (fin := n_fin dv_i G) (K := []) 14 (iX9_afterPick) n_ke (by rfl) h
def fX9_afterPick (x0 : Int32) (x1 : Int32) (x2 : Int32) (M : nM) : Option (Int32 × nM) :=
  if (3 : Int32) = 0 then none else
  let v1 : Int32 := (x1 - x1 / (3 : Int32) * (3 : Int32))
  let v2 : Int32 := (((3 : Int32) - x2) - v1)
  if ¬ v1 = x2 then
    if v1 ≤ v2 then
      fX9_afterPick_31 x0 x1 (0 : Int32) M
    else
      fX9_afterPick_31 x0 x1 (2 : Int32) M
  else
    fX9_afterPick_31 x0 x1 (1 : Int32) M
set_option maxRecDepth 200000 in
theorem bX9_afterPick_0 {l : Launch} {w : nW} {G : nG} (x0 : Int32) (x1 : Int32) (x2 : Int32) (M : nM) (r : Int32 × nM) (h : fX9_afterPick x0 x1 x2 M = some r) : n_At l w 0 mX9_afterPick 0 [(0, .int x0), (1, .int x1), (2, .int x2)] [] (G, M) (dv_i r.1, (G, r.2)) :=
  n_seg (fin := n_fin dv_i G) (K := [(31, fun lv st M => n_lI lv 0 (fun x0 => n_lI lv 1 (fun x1 => n_pI st (fun s0 st => n_pE st (fX9_afterPick_31 x0 x1 s0 M)))))]) 24 (iX9_afterPick) (n_kc (fun lv st M r h => by
      obtain ⟨x0, e0, h1⟩ := n_lI_x h
      obtain ⟨x1, e1, h2⟩ := n_lI_x h1
      obtain ⟨s0, t0, rfl, h3⟩ := n_pI_x h2
      obtain ⟨rfl, h4⟩ := n_pE_x h3
      exact n_sub (n_qc e0 (n_qc e1 n_qe)) (bX9_afterPick_31 x0 x1 s0 M r h4)) n_ke) (by rfl) h
theorem eX9_afterPick {l : Launch} {w : nW} {G : nG} (z0 : Int32) (z1 : Int32) (z2 : Int32) (M : nM) (r : Int32 × nM) (h : fX9_afterPick z0 z1 z2 M = some r) : n_Met l w 0 mX9_afterPick [.int z0, .int z1, .int z2] (G, M) (dv_i r.1, (G, r.2)) :=
  n_entry (by decide +kernel) rfl (Nat.le_of_ble_eq_true rfl) (n_sub (lv := [(0, .int z0), (1, .int z1), (2, .int z2)]) (n_qc rfl (n_qc rfl (n_qc rfl n_qe))) (bX9_afterPick_0 z0 z1 z2 M r h))
abbrev hX9_afterPick : nF := fun T as M k => n_pI as (fun z0 as => n_pI as (fun z1 as => n_pI as (fun z2 as => n_pE as ((fX9_afterPick z0 z1 z2 M).bind fun p => k (dv_i p.1) p.2))))
theorem csX9_afterPick {l : Launch} {w : nW} {G : nG} : n_CS l w 0 mX9_afterPick G (hX9_afterPick) := fun T as M k r h => by
  obtain ⟨z0, t0, rfl, h1⟩ := n_pI_x h
  obtain ⟨z1, t1, rfl, h2⟩ := n_pI_x h1
  obtain ⟨z2, t2, rfl, h3⟩ := n_pI_x h2
  obtain ⟨rfl, hE⟩ := n_pE_x h3
  obtain ⟨p, hp, hk⟩ := Option.bind_eq_some_iff.mp hE
  exact ⟨_, _, eX9_afterPick z0 z1 z2 M p hp, hk⟩
/-! ===== SleightHouse$Thought.turnsTillSame(I)I ===== -/
def mX9_turnsTillSame : nY := (RX9, yX9_turnsTillSame, cX9_turnsTillSame, 5, some .int)
theorem okX9_turnsTillSame : n_MOK mX9_turnsTillSame 1 := ⟨w_1158, w_149, ⟨by decide +kernel, by decide +kernel, by decide +kernel⟩, by decide⟩
abbrev aX9_turnsTillSame (N : Nat) : List (Nat × nO (Int32 × nM)) := [(0, o_push (.int (0 : Int32)) 1), (1, o_istore 5 2 2), (2, o_iload 2 3), (3, o_iload 1 4), (4, oc_ge 26 7), (7, o_iload 2 8), (8, o_push (.int (30 : Int32)) 10), (10, oc_ge 26 13), (13, o_aload 0 14), (14, o_gRc 98 99 17), (17, o_iload 2 18), (18, o_iload 2 19), (19, o_iastc 99 256 20), (20, o_inc 5 2 (1 : Int32) 23), (23, o_goto 2), (26, o_push (.int (1 : Int32)) 27), (27, o_istore 5 2 28), (28, o_iload 2 29), (29, o_push (.int (99 : Int32)) 31), (31, oc_gt 111 34), (34, o_push (.int (1 : Int32)) 35), (35, o_istore 5 3 36), (36, o_push (.int (0 : Int32)) 37), (37, o_istore 5 4 39), (39, o_iload 4 41), (41, o_iload 1 42), (42, oc_ge 99 45), (45, o_iload 4 47), (47, o_push (.int (30 : Int32)) 49), (49, oc_ge 99 52), (52, o_aload 0 53), (53, o_gRc 98 99 56), (56, o_iload 4 58), (58, o_iload 1 59), (59, o_aload 0 60), (60, o_gRc 98 99 63), (63, o_iload 4 65), (65, o_aldc 99 256 66), (66, o_push (.int (1 : Int32)) 67), (67, o_call 3 (hX9_afterPick) 70), (70, o_iastc 99 256 71), (71, o_iload 3 72), (72, oi_eq 91 75), (75, o_aload 0 76), (76, o_gRc 98 99 79), (79, o_iload 4 81), (81, o_aldc 99 256 82), (82, o_iload 4 84), (84, oc_ne 91 87), (87, o_push (.int (1 : Int32)) 88), (88, o_goto 92), (91, o_push (.int (0 : Int32)) 92), (92, o_istore 5 3 93), (93, o_inc 5 4 (1 : Int32) 96), (96, o_goto 39), (99, o_iload 3 100), (100, oi_eq 105 103), (103, o_iload 2 104), (104, o_iret), (105, o_inc 5 2 (1 : Int32) 108), (108, o_goto 28), (111, o_push (.int (-1 : Int32)) 112), (112, o_iret)]
set_option maxRecDepth 200000 in
theorem iX9_turnsTillSame {l : Launch} {w : nW} (N : Nat) {G : nG} (hG : n_GOK G) : n_AllS l w 1 mX9_turnsTillSame G (n_fin dv_i G) (aX9_turnsTillSame N) :=
  n_c (s_iconst (pc := 0) (n := 0) (by decide +kernel) (by decide +kernel)) <|
  n_c (s_istore_n (pc := 1) (k := 2) (by decide +kernel)) <|
  n_c (s_iload_n (pc := 2) (k := 2) (by decide +kernel)) <|
  n_c (s_iload_n (pc := 3) (k := 1) (by decide +kernel)) <|
  n_c (s_icmp_ge (pc := 4) (off := 22) (by decide +kernel) (by decide +kernel)) <|
  n_c (s_iload_n (pc := 7) (k := 2) (by decide +kernel)) <|
  n_c (s_bipush (pc := 8) (n := 30) (by decide +kernel) (by decide +kernel)) <|
  n_c (s_icmp_ge (pc := 10) (off := 16) (by decide +kernel) (by decide +kernel)) <|
  n_c (s_aload_n (pc := 13) (k := 0) (by decide +kernel)) <|
  n_c (s_gRc (s_getR (pc := 14) (ci := 9) (k := 1) (idx := 9) nok9 (by decide) rfl (by decide +kernel) w_538) (gk98 hG) (gm98_1 hG)) <|
  n_c (s_iload_n (pc := 17) (k := 2) (by decide +kernel)) <|
  n_c (s_iload_n (pc := 18) (k := 2) (by decide +kernel)) <|
  n_c (s_iastc (s_iastore (pc := 19) (by decide +kernel)) (gk99 hG) (gl99 hG)) <|
  n_c (s_iinc (pc := 20) (n := 1) (by decide +kernel) (by decide +kernel)) <|
  n_c (s_goto (pc := 23) (off := -21) (by decide +kernel) (by decide +kernel)) <|
  n_c (s_iconst (pc := 26) (n := 1) (by decide +kernel) (by decide +kernel)) <|
  n_c (s_istore_n (pc := 27) (k := 2) (by decide +kernel)) <|
  n_c (s_iload_n (pc := 28) (k := 2) (by decide +kernel)) <|
  n_c (s_bipush (pc := 29) (n := 99) (by decide +kernel) (by decide +kernel)) <|
  n_c (s_icmp_gt (pc := 31) (off := 80) (by decide +kernel) (by decide +kernel)) <|
  n_c (s_iconst (pc := 34) (n := 1) (by decide +kernel) (by decide +kernel)) <|
  n_c (s_istore_n (pc := 35) (k := 3) (by decide +kernel)) <|
  n_c (s_iconst (pc := 36) (n := 0) (by decide +kernel) (by decide +kernel)) <|
  n_c (s_istore (pc := 37) (by decide +kernel)) <|
  n_c (s_iload (pc := 39) (by decide +kernel)) <|
  n_c (s_iload_n (pc := 41) (k := 1) (by decide +kernel)) <|
  n_c (s_icmp_ge (pc := 42) (off := 57) (by decide +kernel) (by decide +kernel)) <|
  n_c (s_iload (pc := 45) (by decide +kernel)) <|
  n_c (s_bipush (pc := 47) (n := 30) (by decide +kernel) (by decide +kernel)) <|
  n_c (s_icmp_ge (pc := 49) (off := 50) (by decide +kernel) (by decide +kernel)) <|
  n_c (s_aload_n (pc := 52) (k := 0) (by decide +kernel)) <|
  n_c (s_gRc (s_getR (pc := 53) (ci := 9) (k := 1) (idx := 9) nok9 (by decide) rfl (by decide +kernel) w_538) (gk98 hG) (gm98_1 hG)) <|
  n_c (s_iload (pc := 56) (by decide +kernel)) <|
  n_c (s_iload_n (pc := 58) (k := 1) (by decide +kernel)) <|
  n_c (s_aload_n (pc := 59) (k := 0) (by decide +kernel)) <|
  n_c (s_gRc (s_getR (pc := 60) (ci := 9) (k := 1) (idx := 9) nok9 (by decide) rfl (by decide +kernel) w_538) (gk98 hG) (gm98_1 hG)) <|
  n_c (s_iload (pc := 63) (by decide +kernel)) <|
  n_c (s_aldc (s_iaload (pc := 65) (by decide +kernel)) (gk99 hG) (gl99 hG)) <|
  n_c (s_iconst (pc := 66) (n := 1) (by decide +kernel) (by decide +kernel)) <|
  n_c (s_callS (pc := 67) (csX9_afterPick) (by decide) okX9_afterPick w_1160 w_1159 (by decide +kernel)) <|
  n_c (s_iastc (s_iastore (pc := 70) (by decide +kernel)) (gk99 hG) (gl99 hG)) <|
  n_c (s_iload_n (pc := 71) (k := 3) (by decide +kernel)) <|
  n_c (s_if_eq (pc := 72) (off := 19) (by decide +kernel) (by decide +kernel)) <|
  n_c (s_aload_n (pc := 75) (k := 0) (by decide +kernel)) <|
  n_c (s_gRc (s_getR (pc := 76) (ci := 9) (k := 1) (idx := 9) nok9 (by decide) rfl (by decide +kernel) w_538) (gk98 hG) (gm98_1 hG)) <|
  n_c (s_iload (pc := 79) (by decide +kernel)) <|
  n_c (s_aldc (s_iaload (pc := 81) (by decide +kernel)) (gk99 hG) (gl99 hG)) <|
  n_c (s_iload (pc := 82) (by decide +kernel)) <|
  n_c (s_icmp_ne (pc := 84) (off := 7) (by decide +kernel) (by decide +kernel)) <|
  n_c (s_iconst (pc := 87) (n := 1) (by decide +kernel) (by decide +kernel)) <|
  n_c (s_goto (pc := 88) (off := 4) (by decide +kernel) (by decide +kernel)) <|
  n_c (s_iconst (pc := 91) (n := 0) (by decide +kernel) (by decide +kernel)) <|
  n_c (s_istore_n (pc := 92) (k := 3) (by decide +kernel)) <|
  n_c (s_iinc (pc := 93) (n := 1) (by decide +kernel) (by decide +kernel)) <|
  n_c (s_goto (pc := 96) (off := -57) (by decide +kernel) (by decide +kernel)) <|
  n_c (s_iload_n (pc := 99) (k := 3) (by decide +kernel)) <|
  n_c (s_if_eq (pc := 100) (off := 5) (by decide +kernel) (by decide +kernel)) <|
  n_c (s_iload_n (pc := 103) (k := 2) (by decide +kernel)) <|
  n_c (s_iret (pc := 104) rfl (by decide +kernel)) <|
  n_c (s_iinc (pc := 105) (n := 1) (by decide +kernel) (by decide +kernel)) <|
  n_c (s_goto (pc := 108) (off := -80) (by decide +kernel) (by decide +kernel)) <|
  n_c (s_iconst (pc := 111) (n := -1) (by decide +kernel) (by decide +kernel)) <|
  n_c (s_iret (pc := 112) rfl (by decide +kernel)) <|
  n_e
def fX9_turnsTillSame_99 (N : Nat) (k28 : Int32 → Int32 → nM → Option (Int32 × nM)) (x1 : Int32) (x2 : Int32) (x3 : Int32) (M : nM) : Option (Int32 × nM) :=
  if x3 = 0 then
    let v1 : Int32 := (x2 + (1 : Int32))
    k28 x1 v1 M
  else
    some (x2, M)
set_option maxRecDepth 200000 in
theorem bX9_turnsTillSame_99 {l : Launch} {w : nW} (N : Nat) {G : nG} (hG : n_GOK G) (k28 : Int32 → Int32 → nM → Option (Int32 × nM)) (hk28 : ∀ (x1 : Int32) (x2 : Int32) (M : nM) (r : Int32 × nM), k28 x1 x2 M = some r → n_At l w 1 mX9_turnsTillSame 28 [(0, .ref 98), (1, .int x1), (2, .int x2)] [] (G, M) (dv_i r.1, (G, r.2))) (x1 : Int32) (x2 : Int32) (x3 : Int32) (M : nM) (r : Int32 × nM) (h : fX9_turnsTillSame_99 N k28 x1 x2 x3 M = some r) : n_At l w 1 mX9_turnsTillSame 99 [(0, .ref 98), (1, .int x1), (2, .int x2), (3, .int x3)] [] (G, M) (dv_i r.1, (G, r.2)) :=
  n_seg (fin := n_fin dv_i G) (K := [(28, fun lv st M => n_lC 98 lv 0 (n_lI lv 1 (fun x1 => n_lI lv 2 (fun x2 => n_pE st (k28 x1 x2 M)))))]) 9 (iX9_turnsTillSame N hG) (n_kc (fun lv st M r h => by
      obtain ⟨e0, h1⟩ := n_lC_x h
      obtain ⟨x1, e1, h2⟩ := n_lI_x h1
      obtain ⟨x2, e2, h3⟩ := n_lI_x h2
      obtain ⟨rfl, h4⟩ := n_pE_x h3
      exact n_sub (n_qc e0 (n_qc e1 (n_qc e2 n_qe))) (hk28 x1 x2 M r h4)) n_ke) (by rfl) h
def fX9_turnsTillSame_39 (N : Nat) (k28 : Int32 → Int32 → nM → Option (Int32 × nM)) : Nat → Int32 → Int32 → Int32 → Int32 → nM → Option (Int32 × nM)
  | 0, _, _, _, _, _ => none
  | n + 1, x1, x2, x3, x4, M =>
    if x1 ≤ x4 then
      fX9_turnsTillSame_99 N k28 x1 x2 x3 M
    else
      if (30 : Int32) ≤ x4 then
        fX9_turnsTillSame_99 N k28 x1 x2 x3 M
      else
        n_chk (n_ib 256 x4) <|
        (fX9_afterPick x1 (M 99 x4.toNatClampNeg) (1 : Int32) M).bind fun p1 =>
        n_chk (n_ib 256 x4) <|
        let M2 : nM := n_up p1.2 99 x4.toNatClampNeg p1.1
        if x3 = 0 then
          let v3 : Int32 := (x4 + (1 : Int32))
          fX9_turnsTillSame_39 N k28 n x1 x2 (0 : Int32) v3 M2
        else
          n_chk (n_ib 256 x4) <|
          if ¬ (M2 99 x4.toNatClampNeg) = x4 then
            let v4 : Int32 := (x4 + (1 : Int32))
            fX9_turnsTillSame_39 N k28 n x1 x2 (0 : Int32) v4 M2
          else
            let v5 : Int32 := (x4 + (1 : Int32))
            fX9_turnsTillSame_39 N k28 n x1 x2 (1 : Int32) v5 M2
set_option maxRecDepth 200000 in
theorem bX9_turnsTillSame_39 {l : Launch} {w : nW} (N : Nat) {G : nG} (hG : n_GOK G) (k28 : Int32 → Int32 → nM → Option (Int32 × nM)) (hk28 : ∀ (x1 : Int32) (x2 : Int32) (M : nM) (r : Int32 × nM), k28 x1 x2 M = some r → n_At l w 1 mX9_turnsTillSame 28 [(0, .ref 98), (1, .int x1), (2, .int x2)] [] (G, M) (dv_i r.1, (G, r.2))) : ∀ (n : Nat) (x1 : Int32) (x2 : Int32) (x3 : Int32) (x4 : Int32) (M : nM) (r : Int32 × nM), fX9_turnsTillSame_39 N k28 n x1 x2 x3 x4 M = some r → n_At l w 1 mX9_turnsTillSame 39 [(0, .ref 98), (1, .int x1), (2, .int x2), (3, .int x3), (4, .int x4)] [] (G, M) (dv_i r.1, (G, r.2)) := by
  intro n
  induction n with
  | zero => intro x1 x2 x3 x4 M r h; cases (show (none : Option (Int32 × nM)) = some r from h)
  | succ n ih =>
    intro x1 x2 x3 x4 M r h
    exact n_seg (fin := n_fin dv_i G) (K := [(39, fun lv st M => n_lC 98 lv 0 (n_lI lv 1 (fun x1 => n_lI lv 2 (fun x2 => n_lI lv 3 (fun x3 => n_lI lv 4 (fun x4 => n_pE st (fX9_turnsTillSame_39 N k28 n x1 x2 x3 x4 M))))))), (99, fun lv st M => n_lC 98 lv 0 (n_lI lv 1 (fun x1 => n_lI lv 2 (fun x2 => n_lI lv 3 (fun x3 => n_pE st (fX9_turnsTillSame_99 N k28 x1 x2 x3 M))))))]) 41 (iX9_turnsTillSame N hG) (n_kc (fun lv st M r h => by
      obtain ⟨e0, h1⟩ := n_lC_x h
      obtain ⟨x1, e1, h2⟩ := n_lI_x h1
      obtain ⟨x2, e2, h3⟩ := n_lI_x h2
      obtain ⟨x3, e3, h4⟩ := n_lI_x h3
      obtain ⟨x4, e4, h5⟩ := n_lI_x h4
      obtain ⟨rfl, h6⟩ := n_pE_x h5
      exact n_sub (n_qc e0 (n_qc e1 (n_qc e2 (n_qc e3 (n_qc e4 n_qe))))) (ih x1 x2 x3 x4 M r h6)) (n_kc (fun lv st M r h => by
      obtain ⟨e0, h1⟩ := n_lC_x h
      obtain ⟨x1, e1, h2⟩ := n_lI_x h1
      obtain ⟨x2, e2, h3⟩ := n_lI_x h2
      obtain ⟨x3, e3, h4⟩ := n_lI_x h3
      obtain ⟨rfl, h5⟩ := n_pE_x h4
      exact n_sub (n_qc e0 (n_qc e1 (n_qc e2 (n_qc e3 n_qe)))) (bX9_turnsTillSame_99 N hG k28 hk28 x1 x2 x3 M r h5)) n_ke)) (by rfl) h
def fX9_turnsTillSame_28 (N : Nat) : Nat → Int32 → Int32 → nM → Option (Int32 × nM)
  | 0, _, _, _ => none
  | n + 1, x1, x2, M =>
    if (99 : Int32) < x2 then
      some ((-1 : Int32), M)
    else
      fX9_turnsTillSame_39 N (fun x1 x2 M => fX9_turnsTillSame_28 N n x1 x2 M) N x1 x2 (1 : Int32) (0 : Int32) M
set_option maxRecDepth 200000 in
theorem bX9_turnsTillSame_28 {l : Launch} {w : nW} (N : Nat) {G : nG} (hG : n_GOK G) : ∀ (n : Nat) (x1 : Int32) (x2 : Int32) (M : nM) (r : Int32 × nM), fX9_turnsTillSame_28 N n x1 x2 M = some r → n_At l w 1 mX9_turnsTillSame 28 [(0, .ref 98), (1, .int x1), (2, .int x2)] [] (G, M) (dv_i r.1, (G, r.2)) := by
  intro n
  induction n with
  | zero => intro x1 x2 M r h; cases (show (none : Option (Int32 × nM)) = some r from h)
  | succ n ih =>
    intro x1 x2 M r h
    exact n_seg (fin := n_fin dv_i G) (K := [(39, fun lv st M => n_lC 98 lv 0 (n_lI lv 1 (fun x1 => n_lI lv 2 (fun x2 => n_lI lv 3 (fun x3 => n_lI lv 4 (fun x4 => n_pE st (fX9_turnsTillSame_39 N (fun x1 x2 M => fX9_turnsTillSame_28 N n x1 x2 M) N x1 x2 x3 x4 M)))))))]) 12 (iX9_turnsTillSame N hG) (n_kc (fun lv st M r h => by
      obtain ⟨e0, h1⟩ := n_lC_x h
      obtain ⟨x1, e1, h2⟩ := n_lI_x h1
      obtain ⟨x2, e2, h3⟩ := n_lI_x h2
      obtain ⟨x3, e3, h4⟩ := n_lI_x h3
      obtain ⟨x4, e4, h5⟩ := n_lI_x h4
      obtain ⟨rfl, h6⟩ := n_pE_x h5
      exact n_sub (n_qc e0 (n_qc e1 (n_qc e2 (n_qc e3 (n_qc e4 n_qe))))) (bX9_turnsTillSame_39 N hG (fun x1 x2 M => fX9_turnsTillSame_28 N n x1 x2 M) ih N x1 x2 x3 x4 M r h6)) n_ke) (by rfl) h
def fX9_turnsTillSame_2 (N : Nat) : Nat → Int32 → Int32 → nM → Option (Int32 × nM)
  | 0, _, _, _ => none
  | n + 1, x1, x2, M =>
    if x1 ≤ x2 then
      fX9_turnsTillSame_28 N N x1 (1 : Int32) M
    else
      if (30 : Int32) ≤ x2 then
        fX9_turnsTillSame_28 N N x1 (1 : Int32) M
      else
        n_chk (n_ib 256 x2) <|
        let M1 : nM := n_up M 99 x2.toNatClampNeg x2
        let v2 : Int32 := (x2 + (1 : Int32))
        fX9_turnsTillSame_2 N n x1 v2 M1
set_option maxRecDepth 200000 in
theorem bX9_turnsTillSame_2 {l : Launch} {w : nW} (N : Nat) {G : nG} (hG : n_GOK G) : ∀ (n : Nat) (x1 : Int32) (x2 : Int32) (M : nM) (r : Int32 × nM), fX9_turnsTillSame_2 N n x1 x2 M = some r → n_At l w 1 mX9_turnsTillSame 2 [(0, .ref 98), (1, .int x1), (2, .int x2)] [] (G, M) (dv_i r.1, (G, r.2)) := by
  intro n
  induction n with
  | zero => intro x1 x2 M r h; cases (show (none : Option (Int32 × nM)) = some r from h)
  | succ n ih =>
    intro x1 x2 M r h
    exact n_seg (fin := n_fin dv_i G) (K := [(2, fun lv st M => n_lC 98 lv 0 (n_lI lv 1 (fun x1 => n_lI lv 2 (fun x2 => n_pE st (fX9_turnsTillSame_2 N n x1 x2 M))))), (28, fun lv st M => n_lC 98 lv 0 (n_lI lv 1 (fun x1 => n_lI lv 2 (fun x2 => n_pE st (fX9_turnsTillSame_28 N N x1 x2 M)))))]) 20 (iX9_turnsTillSame N hG) (n_kc (fun lv st M r h => by
      obtain ⟨e0, h1⟩ := n_lC_x h
      obtain ⟨x1, e1, h2⟩ := n_lI_x h1
      obtain ⟨x2, e2, h3⟩ := n_lI_x h2
      obtain ⟨rfl, h4⟩ := n_pE_x h3
      exact n_sub (n_qc e0 (n_qc e1 (n_qc e2 n_qe))) (ih x1 x2 M r h4)) (n_kc (fun lv st M r h => by
      obtain ⟨e0, h1⟩ := n_lC_x h
      obtain ⟨x1, e1, h2⟩ := n_lI_x h1
      obtain ⟨x2, e2, h3⟩ := n_lI_x h2
      obtain ⟨rfl, h4⟩ := n_pE_x h3
      exact n_sub (n_qc e0 (n_qc e1 (n_qc e2 n_qe))) (bX9_turnsTillSame_28 N hG N x1 x2 M r h4)) n_ke)) (by rfl) h
def fX9_turnsTillSame (N : Nat) (x1 : Int32) (M : nM) : Option (Int32 × nM) :=
  fX9_turnsTillSame_2 N N x1 (0 : Int32) M
set_option maxRecDepth 200000 in
theorem bX9_turnsTillSame_0 {l : Launch} {w : nW} (N : Nat) {G : nG} (hG : n_GOK G) (x1 : Int32) (M : nM) (r : Int32 × nM) (h : fX9_turnsTillSame N x1 M = some r) : n_At l w 1 mX9_turnsTillSame 0 [(0, .ref 98), (1, .int x1)] [] (G, M) (dv_i r.1, (G, r.2)) :=
  n_seg (fin := n_fin dv_i G) (K := [(2, fun lv st M => n_lC 98 lv 0 (n_lI lv 1 (fun x1 => n_lI lv 2 (fun x2 => n_pE st (fX9_turnsTillSame_2 N N x1 x2 M)))))]) 5 (iX9_turnsTillSame N hG) (n_kc (fun lv st M r h => by
      obtain ⟨e0, h1⟩ := n_lC_x h
      obtain ⟨x1, e1, h2⟩ := n_lI_x h1
      obtain ⟨x2, e2, h3⟩ := n_lI_x h2
      obtain ⟨rfl, h4⟩ := n_pE_x h3
      exact n_sub (n_qc e0 (n_qc e1 (n_qc e2 n_qe))) (bX9_turnsTillSame_2 N hG N x1 x2 M r h4)) n_ke) (by rfl) h
theorem eX9_turnsTillSame {l : Launch} {w : nW} (N : Nat) {G : nG} (hG : n_GOK G) (z1 : Int32) (M : nM) (r : Int32 × nM) (h : fX9_turnsTillSame N z1 M = some r) : n_Met l w 1 mX9_turnsTillSame [.ref 98, .int z1] (G, M) (dv_i r.1, (G, r.2)) :=
  n_entry (by decide +kernel) rfl (Nat.le_of_ble_eq_true rfl) (n_sub (lv := [(0, .ref 98), (1, .int z1)]) (n_qc rfl (n_qc rfl n_qe)) (bX9_turnsTillSame_0 N hG z1 M r h))
abbrev hX9_turnsTillSame (N : Nat) : nF := fun T as M k => n_pC 98 as (fun as => n_pI as (fun z1 as => n_pE as ((fX9_turnsTillSame N z1 M).bind fun p => k (dv_i p.1) p.2)))
theorem csX9_turnsTillSame {l : Launch} {w : nW} (N : Nat) {G : nG} (hG : n_GOK G) : n_CS l w 1 mX9_turnsTillSame G (hX9_turnsTillSame N) := fun T as M k r h => by
  obtain ⟨t0, rfl, h1⟩ := n_pC_x h
  obtain ⟨z1, t1, rfl, h2⟩ := n_pI_x h1
  obtain ⟨rfl, hE⟩ := n_pE_x h2
  obtain ⟨p, hp, hk⟩ := Option.bind_eq_some_iff.mp hE
  exact ⟨_, _, eX9_turnsTillSame N hG z1 M p hp, hk⟩
/-! ===== SleightHouse$Thought.cardBehind(II)I ===== -/
def mX9_cardBehind : nY := (RX9, yX9_cardBehind, cX9_cardBehind, 5, some .int)
theorem okX9_cardBehind : n_MOK mX9_cardBehind 2 := ⟨w_1165, w_149, ⟨by decide +kernel, by decide +kernel, by decide +kernel⟩, by decide⟩
abbrev aX9_cardBehind (N : Nat) (G : nG) : List (Nat × nO (Int32 × nM)) := [(0, o_iload 2 1), (1, o_istore 5 3 2), (2, o_push (.int (0 : Int32)) 3), (3, o_istore 5 4 5), (5, o_iload 4 7), (7, o_aload 0 8), (8, o_gRc 98 28 11), (11, o_gRc 28 31 14), (14, o_gIc 31 3 17), (17, oc_ge 45 20), (20, o_iload 1 21), (21, o_iload 3 22), (22, o_aload 0 23), (23, o_gRc 98 28 26), (26, o_gRc 28 31 29), (29, o_iload 4 31), (31, o_push (.int (0 : Int32)) 32), (32, o_callVc 31 2 (hX7_cell G) 35), (35, o_call 3 (hX9_afterPick) 38), (38, o_istore 5 3 39), (39, o_inc 5 4 (1 : Int32) 42), (42, o_goto 5), (45, o_iload 3 46), (46, o_iret)]
set_option maxRecDepth 200000 in
theorem iX9_cardBehind {l : Launch} {w : nW} (N : Nat) {G : nG} (hG : n_GOK G) : n_AllS l w 1 mX9_cardBehind G (n_fin dv_i G) (aX9_cardBehind N G) :=
  n_c (s_iload_n (pc := 0) (k := 2) (by decide +kernel)) <|
  n_c (s_istore_n (pc := 1) (k := 3) (by decide +kernel)) <|
  n_c (s_iconst (pc := 2) (n := 0) (by decide +kernel) (by decide +kernel)) <|
  n_c (s_istore (pc := 3) (by decide +kernel)) <|
  n_c (s_iload (pc := 5) (by decide +kernel)) <|
  n_c (s_aload_n (pc := 7) (k := 0) (by decide +kernel)) <|
  n_c (s_gRc (s_getR (pc := 8) (ci := 9) (k := 0) (idx := 18) nok9 (by decide) rfl (by decide +kernel) w_537) (gk98 hG) (gm98_0 hG)) <|
  n_c (s_gRc (s_getR (pc := 11) (ci := 10) (k := 1) (idx := 52) nok10 (by decide) rfl (by decide +kernel) w_361) (gk28 hG) (gm28_1 hG)) <|
  n_c (s_gIc (s_getI (pc := 14) (ci := 7) (k := 3) (idx := 28) nok7 (by decide) rfl (by decide +kernel) w_304) (gk31 hG)) <|
  n_c (s_icmp_ge (pc := 17) (off := 28) (by decide +kernel) (by decide +kernel)) <|
  n_c (s_iload_n (pc := 20) (k := 1) (by decide +kernel)) <|
  n_c (s_iload_n (pc := 21) (k := 3) (by decide +kernel)) <|
  n_c (s_aload_n (pc := 22) (k := 0) (by decide +kernel)) <|
  n_c (s_gRc (s_getR (pc := 23) (ci := 9) (k := 0) (idx := 18) nok9 (by decide) rfl (by decide +kernel) w_537) (gk98 hG) (gm98_0 hG)) <|
  n_c (s_gRc (s_getR (pc := 26) (ci := 10) (k := 1) (idx := 52) nok10 (by decide) rfl (by decide +kernel) w_361) (gk28 hG) (gm28_1 hG)) <|
  n_c (s_iload (pc := 29) (by decide +kernel)) <|
  n_c (s_iconst (pc := 31) (n := 0) (by decide +kernel) (by decide +kernel)) <|
  n_c (s_callVc (s_callV (pc := 32) (csX7_cell) (by decide) okX7_cell nok7 w_786 w_787 w_1145 (by decide +kernel)) (gk31 hG)) <|
  n_c (s_callS (pc := 35) (csX9_afterPick) (by decide) okX9_afterPick w_1160 w_1159 (by decide +kernel)) <|
  n_c (s_istore_n (pc := 38) (k := 3) (by decide +kernel)) <|
  n_c (s_iinc (pc := 39) (n := 1) (by decide +kernel) (by decide +kernel)) <|
  n_c (s_goto (pc := 42) (off := -37) (by decide +kernel) (by decide +kernel)) <|
  n_c (s_iload_n (pc := 45) (k := 3) (by decide +kernel)) <|
  n_c (s_iret (pc := 46) rfl (by decide +kernel)) <|
  n_e
def fX9_cardBehind_5 (N : Nat) (G : nG) : Nat → Int32 → Int32 → Int32 → nM → Option (Int32 × nM)
  | 0, _, _, _, _ => none
  | n + 1, x1, x3, x4, M =>
    if (M 31 3) ≤ x4 then
      some (x3, M)
    else
      (fX7_cell G 31 x4 (0 : Int32) M).bind fun p1 =>
      (fX9_afterPick x1 x3 p1.1 p1.2).bind fun p2 =>
      let v3 : Int32 := (x4 + (1 : Int32))
      fX9_cardBehind_5 N G n x1 p2.1 v3 p2.2
set_option maxRecDepth 200000 in
theorem bX9_cardBehind_5 {l : Launch} {w : nW} (N : Nat) {G : nG} (hG : n_GOK G) : ∀ (n : Nat) (x1 : Int32) (x3 : Int32) (x4 : Int32) (M : nM) (r : Int32 × nM), fX9_cardBehind_5 N G n x1 x3 x4 M = some r → n_At l w 1 mX9_cardBehind 5 [(0, .ref 98), (1, .int x1), (3, .int x3), (4, .int x4)] [] (G, M) (dv_i r.1, (G, r.2)) := by
  intro n
  induction n with
  | zero => intro x1 x3 x4 M r h; cases (show (none : Option (Int32 × nM)) = some r from h)
  | succ n ih =>
    intro x1 x3 x4 M r h
    exact n_seg (fin := n_fin dv_i G) (K := [(5, fun lv st M => n_lC 98 lv 0 (n_lI lv 1 (fun x1 => n_lI lv 3 (fun x3 => n_lI lv 4 (fun x4 => n_pE st (fX9_cardBehind_5 N G n x1 x3 x4 M))))))]) 23 (iX9_cardBehind N hG) (n_kc (fun lv st M r h => by
      obtain ⟨e0, h1⟩ := n_lC_x h
      obtain ⟨x1, e1, h2⟩ := n_lI_x h1
      obtain ⟨x3, e3, h3⟩ := n_lI_x h2
      obtain ⟨x4, e4, h4⟩ := n_lI_x h3
      obtain ⟨rfl, h5⟩ := n_pE_x h4
      exact n_sub (n_qc e0 (n_qc e1 (n_qc e3 (n_qc e4 n_qe)))) (ih x1 x3 x4 M r h5)) n_ke) (by rfl) h
def fX9_cardBehind (N : Nat) (G : nG) (x1 : Int32) (x2 : Int32) (M : nM) : Option (Int32 × nM) :=
  fX9_cardBehind_5 N G N x1 x2 (0 : Int32) M
set_option maxRecDepth 200000 in
theorem bX9_cardBehind_0 {l : Launch} {w : nW} (N : Nat) {G : nG} (hG : n_GOK G) (x1 : Int32) (x2 : Int32) (M : nM) (r : Int32 × nM) (h : fX9_cardBehind N G x1 x2 M = some r) : n_At l w 1 mX9_cardBehind 0 [(0, .ref 98), (1, .int x1), (2, .int x2)] [] (G, M) (dv_i r.1, (G, r.2)) :=
  n_seg (fin := n_fin dv_i G) (K := [(5, fun lv st M => n_lC 98 lv 0 (n_lI lv 1 (fun x1 => n_lI lv 3 (fun x3 => n_lI lv 4 (fun x4 => n_pE st (fX9_cardBehind_5 N G N x1 x3 x4 M))))))]) 7 (iX9_cardBehind N hG) (n_kc (fun lv st M r h => by
      obtain ⟨e0, h1⟩ := n_lC_x h
      obtain ⟨x1, e1, h2⟩ := n_lI_x h1
      obtain ⟨x3, e3, h3⟩ := n_lI_x h2
      obtain ⟨x4, e4, h4⟩ := n_lI_x h3
      obtain ⟨rfl, h5⟩ := n_pE_x h4
      exact n_sub (n_qc e0 (n_qc e1 (n_qc e3 (n_qc e4 n_qe)))) (bX9_cardBehind_5 N hG N x1 x3 x4 M r h5)) n_ke) (by rfl) h
theorem eX9_cardBehind {l : Launch} {w : nW} (N : Nat) {G : nG} (hG : n_GOK G) (z1 : Int32) (z2 : Int32) (M : nM) (r : Int32 × nM) (h : fX9_cardBehind N G z1 z2 M = some r) : n_Met l w 1 mX9_cardBehind [.ref 98, .int z1, .int z2] (G, M) (dv_i r.1, (G, r.2)) :=
  n_entry (by decide +kernel) rfl (Nat.le_of_ble_eq_true rfl) (n_sub (lv := [(0, .ref 98), (1, .int z1), (2, .int z2)]) (n_qc rfl (n_qc rfl (n_qc rfl n_qe))) (bX9_cardBehind_0 N hG z1 z2 M r h))
abbrev hX9_cardBehind (N : Nat) (G : nG) : nF := fun T as M k => n_pC 98 as (fun as => n_pI as (fun z1 as => n_pI as (fun z2 as => n_pE as ((fX9_cardBehind N G z1 z2 M).bind fun p => k (dv_i p.1) p.2))))
theorem csX9_cardBehind {l : Launch} {w : nW} (N : Nat) {G : nG} (hG : n_GOK G) : n_CS l w 1 mX9_cardBehind G (hX9_cardBehind N G) := fun T as M k r h => by
  obtain ⟨t0, rfl, h1⟩ := n_pC_x h
  obtain ⟨z1, t1, rfl, h2⟩ := n_pI_x h1
  obtain ⟨z2, t2, rfl, h3⟩ := n_pI_x h2
  obtain ⟨rfl, hE⟩ := n_pE_x h3
  obtain ⟨p, hp, hk⟩ := Option.bind_eq_some_iff.mp hE
  exact ⟨_, _, eX9_cardBehind N hG z1 z2 M p hp, hk⟩
/-! ===== SleightHouse.card(II)I ===== -/
def mX11_card : nY := (RX11, yX11_card, cX11_card, 3, some .int)
theorem okX11_card : n_MOK mX11_card 2 := ⟨w_1154, w_137, ⟨by decide +kernel, by decide +kernel, by decide +kernel⟩, by decide⟩
abbrev aX11_card (N : Nat) (G : nG) : List (Nat × nO (Int32 × nM)) := [(0, o_iload 1 1), (1, o_push (.int (3 : Int32)) 2), (2, o_push (.int (30 : Int32)) 4), (4, o_call 3 (hX11_within) 7), (7, oi_eq 16 10), (10, o_iload 1 11), (11, o_push (.int (3 : Int32)) 12), (12, o_irem 13), (13, oi_eq 18 16), (16, o_push (.int (-1 : Int32)) 17), (17, o_iret), (18, o_iload 2 19), (19, o_push (.int (-1 : Int32)) 20), (20, oc_ne 32 23), (23, o_aload 0 24), (24, o_gRc 1 98 27), (27, o_iload 1 28), (28, o_callVc 98 1 (hX9_turnsTillSame N) 31), (31, o_iret), (32, o_iload 2 33), (33, o_push (.int (0 : Int32)) 34), (34, o_iload 1 35), (35, o_push (.int (1 : Int32)) 36), (36, o_isub 37), (37, o_call 3 (hX11_within) 40), (40, oi_eq 55 43), (43, o_aload 0 44), (44, o_gRc 1 98 47), (47, o_iload 1 48), (48, o_iload 2 49), (49, o_callVc 98 2 (hX9_cardBehind N G) 52), (52, o_goto 56), (55, o_push (.int (-1 : Int32)) 56), (56, o_iret)]
set_option maxRecDepth 200000 in
theorem iX11_card {l : Launch} {w : nW} (N : Nat) {G : nG} (hG : n_GOK G) : n_AllS l w 2 mX11_card G (n_fin dv_i G) (aX11_card N G) :=
  n_c (s_iload_n (pc := 0) (k := 1) (by decide +kernel)) <|
  n_c (s_iconst (pc := 1) (n := 3) (by decide +kernel) (by decide +kernel)) <|
  n_c (s_bipush (pc := 2) (n := 30) (by decide +kernel) (by decide +kernel)) <|
  n_c (s_callS (pc := 4) (csX11_within) (by decide) okX11_within w_610 w_609 (by decide +kernel)) <|
  n_c (s_if_eq (pc := 7) (off := 9) (by decide +kernel) (by decide +kernel)) <|
  n_c (s_iload_n (pc := 10) (k := 1) (by decide +kernel)) <|
  n_c (s_iconst (pc := 11) (n := 3) (by decide +kernel) (by decide +kernel)) <|
  n_c (s_irem (pc := 12) (by decide +kernel)) <|
  n_c (s_if_eq (pc := 13) (off := 5) (by decide +kernel) (by decide +kernel)) <|
  n_c (s_iconst (pc := 16) (n := -1) (by decide +kernel) (by decide +kernel)) <|
  n_c (s_iret (pc := 17) rfl (by decide +kernel)) <|
  n_c (s_iload_n (pc := 18) (k := 2) (by decide +kernel)) <|
  n_c (s_iconst (pc := 19) (n := -1) (by decide +kernel) (by decide +kernel)) <|
  n_c (s_icmp_ne (pc := 20) (off := 12) (by decide +kernel) (by decide +kernel)) <|
  n_c (s_aload_n (pc := 23) (k := 0) (by decide +kernel)) <|
  n_c (s_gRc (s_getR (pc := 24) (ci := 11) (k := 5) (idx := 63) nok11 (by decide) rfl (by decide +kernel) w_577) (gk1 hG) (gm1_5 hG)) <|
  n_c (s_iload_n (pc := 27) (k := 1) (by decide +kernel)) <|
  n_c (s_callVc (s_callV (pc := 28) (csX9_turnsTillSame N hG) (by decide) okX9_turnsTillSame nok9 w_1156 w_1157 w_1155 (by decide +kernel)) (gk98 hG)) <|
  n_c (s_iret (pc := 31) rfl (by decide +kernel)) <|
  n_c (s_iload_n (pc := 32) (k := 2) (by decide +kernel)) <|
  n_c (s_iconst (pc := 33) (n := 0) (by decide +kernel) (by decide +kernel)) <|
  n_c (s_iload_n (pc := 34) (k := 1) (by decide +kernel)) <|
  n_c (s_iconst (pc := 35) (n := 1) (by decide +kernel) (by decide +kernel)) <|
  n_c (s_isub (pc := 36) (by decide +kernel)) <|
  n_c (s_callS (pc := 37) (csX11_within) (by decide) okX11_within w_610 w_609 (by decide +kernel)) <|
  n_c (s_if_eq (pc := 40) (off := 15) (by decide +kernel) (by decide +kernel)) <|
  n_c (s_aload_n (pc := 43) (k := 0) (by decide +kernel)) <|
  n_c (s_gRc (s_getR (pc := 44) (ci := 11) (k := 5) (idx := 63) nok11 (by decide) rfl (by decide +kernel) w_577) (gk1 hG) (gm1_5 hG)) <|
  n_c (s_iload_n (pc := 47) (k := 1) (by decide +kernel)) <|
  n_c (s_iload_n (pc := 48) (k := 2) (by decide +kernel)) <|
  n_c (s_callVc (s_callV (pc := 49) (csX9_cardBehind N hG) (by decide) okX9_cardBehind nok9 w_1163 w_1164 w_1162 (by decide +kernel)) (gk98 hG)) <|
  n_c (s_goto (pc := 52) (off := 4) (by decide +kernel) (by decide +kernel)) <|
  n_c (s_iconst (pc := 55) (n := -1) (by decide +kernel) (by decide +kernel)) <|
  n_c (s_iret (pc := 56) rfl (by decide +kernel)) <|
  n_e
def fX11_card (N : Nat) (G : nG) (x1 : Int32) (x2 : Int32) (M : nM) : Option (Int32 × nM) :=
  (fX11_within x1 (3 : Int32) (30 : Int32) M).bind fun p1 =>
  if p1.1 = 0 then
    some ((-1 : Int32), p1.2)
  else
    if (3 : Int32) = 0 then none else
    if (x1 - x1 / (3 : Int32) * (3 : Int32)) = 0 then
      if ¬ x2 = (-1 : Int32) then
        (fX11_within x2 (0 : Int32) (x1 - (1 : Int32)) p1.2).bind fun p2 =>
        if p2.1 = 0 then
          some ((-1 : Int32), p2.2)
        else
          (fX9_cardBehind N G x1 x2 p2.2).bind fun p3 =>
          some (p3.1, p3.2)
      else
        (fX9_turnsTillSame N x1 p1.2).bind fun p4 =>
        some (p4.1, p4.2)
    else
      some ((-1 : Int32), p1.2)
set_option maxRecDepth 200000 in
theorem bX11_card_0 {l : Launch} {w : nW} (N : Nat) {G : nG} (hG : n_GOK G) (x1 : Int32) (x2 : Int32) (M : nM) (r : Int32 × nM) (h : fX11_card N G x1 x2 M = some r) : n_At l w 2 mX11_card 0 [(0, .ref 1), (1, .int x1), (2, .int x2)] [] (G, M) (dv_i r.1, (G, r.2)) :=
  n_seg (fin := n_fin dv_i G) (K := []) 40 (iX11_card N hG) n_ke (by rfl) h
theorem eX11_card {l : Launch} {w : nW} (N : Nat) {G : nG} (hG : n_GOK G) (z1 : Int32) (z2 : Int32) (M : nM) (r : Int32 × nM) (h : fX11_card N G z1 z2 M = some r) : n_Met l w 2 mX11_card [.ref 1, .int z1, .int z2] (G, M) (dv_i r.1, (G, r.2)) :=
  n_entry (by decide +kernel) rfl (Nat.le_of_ble_eq_true rfl) (n_sub (lv := [(0, .ref 1), (1, .int z1), (2, .int z2)]) (n_qc rfl (n_qc rfl (n_qc rfl n_qe))) (bX11_card_0 N hG z1 z2 M r h))
abbrev hX11_card (N : Nat) (G : nG) : nF := fun T as M k => n_pC 1 as (fun as => n_pI as (fun z1 as => n_pI as (fun z2 as => n_pE as ((fX11_card N G z1 z2 M).bind fun p => k (dv_i p.1) p.2))))
theorem csX11_card {l : Launch} {w : nW} (N : Nat) {G : nG} (hG : n_GOK G) : n_CS l w 2 mX11_card G (hX11_card N G) := fun T as M k r h => by
  obtain ⟨t0, rfl, h1⟩ := n_pC_x h
  obtain ⟨z1, t1, rfl, h2⟩ := n_pI_x h1
  obtain ⟨z2, t2, rfl, h3⟩ := n_pI_x h2
  obtain ⟨rfl, hE⟩ := n_pE_x h3
  obtain ⟨p, hp, hk⟩ := Option.bind_eq_some_iff.mp hE
  exact ⟨_, _, eX11_card N hG z1 z2 M p hp, hk⟩
/-! ===== SleightHouseModel.gathered(III)I ===== -/
def mX12_gathered : nY := (RX12, yX12_gathered, cX12_gathered, 6, some .int)
theorem okX12_gathered : n_MOK mX12_gathered 3 := ⟨w_2030, w_151, ⟨by decide +kernel, by decide +kernel, by decide +kernel⟩, by decide⟩
abbrev aX12_gathered : List (Nat × nO (Int32 × nM)) := [(0, o_iload 2 1), (1, o_push (.int (3 : Int32)) 2), (2, o_irem 3), (3, o_istore 6 4 5), (5, o_iload 4 7), (7, o_iload 3 8), (8, oc_ne 15 11), (11, o_push (.int (1 : Int32)) 12), (12, o_goto 34), (15, o_iload 4 17), (17, o_iload 3 18), (18, oi_ne 25 21), (21, o_push (.int (1 : Int32)) 22), (22, o_goto 26), (25, o_push (.int (0 : Int32)) 26), (26, oc_ne 33 29), (29, o_push (.int (0 : Int32)) 30), (30, o_goto 34), (33, o_push (.int (2 : Int32)) 34), (34, o_istore 6 5 36), (36, o_iload 5 38), (38, o_iload 1 39), (39, o_push (.int (3 : Int32)) 40), (40, o_idiv 41), (41, o_imul 42), (42, o_iload 2 43), (43, o_push (.int (3 : Int32)) 44), (44, o_idiv 45), (45, o_iadd 46), (46, o_iret)]
set_option maxRecDepth 200000 in
theorem iX12_gathered {l : Launch} {w : nW} {G : nG} : n_AllS l w 0 mX12_gathered G (n_fin dv_i G) (aX12_gathered) :=
  n_c (s_iload_n (pc := 0) (k := 2) (by decide +kernel)) <|
  n_c (s_iconst (pc := 1) (n := 3) (by decide +kernel) (by decide +kernel)) <|
  n_c (s_irem (pc := 2) (by decide +kernel)) <|
  n_c (s_istore (pc := 3) (by decide +kernel)) <|
  n_c (s_iload (pc := 5) (by decide +kernel)) <|
  n_c (s_iload_n (pc := 7) (k := 3) (by decide +kernel)) <|
  n_c (s_icmp_ne (pc := 8) (off := 7) (by decide +kernel) (by decide +kernel)) <|
  n_c (s_iconst (pc := 11) (n := 1) (by decide +kernel) (by decide +kernel)) <|
  n_c (s_goto (pc := 12) (off := 22) (by decide +kernel) (by decide +kernel)) <|
  n_c (s_iload (pc := 15) (by decide +kernel)) <|
  n_c (s_iload_n (pc := 17) (k := 3) (by decide +kernel)) <|
  n_c (s_if_ne (pc := 18) (off := 7) (by decide +kernel) (by decide +kernel)) <|
  n_c (s_iconst (pc := 21) (n := 1) (by decide +kernel) (by decide +kernel)) <|
  n_c (s_goto (pc := 22) (off := 4) (by decide +kernel) (by decide +kernel)) <|
  n_c (s_iconst (pc := 25) (n := 0) (by decide +kernel) (by decide +kernel)) <|
  n_c (s_icmp_ne (pc := 26) (off := 7) (by decide +kernel) (by decide +kernel)) <|
  n_c (s_iconst (pc := 29) (n := 0) (by decide +kernel) (by decide +kernel)) <|
  n_c (s_goto (pc := 30) (off := 4) (by decide +kernel) (by decide +kernel)) <|
  n_c (s_iconst (pc := 33) (n := 2) (by decide +kernel) (by decide +kernel)) <|
  n_c (s_istore (pc := 34) (by decide +kernel)) <|
  n_c (s_iload (pc := 36) (by decide +kernel)) <|
  n_c (s_iload_n (pc := 38) (k := 1) (by decide +kernel)) <|
  n_c (s_iconst (pc := 39) (n := 3) (by decide +kernel) (by decide +kernel)) <|
  n_c (s_idiv (pc := 40) (by decide +kernel)) <|
  n_c (s_imul (pc := 41) (by decide +kernel)) <|
  n_c (s_iload_n (pc := 42) (k := 2) (by decide +kernel)) <|
  n_c (s_iconst (pc := 43) (n := 3) (by decide +kernel) (by decide +kernel)) <|
  n_c (s_idiv (pc := 44) (by decide +kernel)) <|
  n_c (s_iadd (pc := 45) (by decide +kernel)) <|
  n_c (s_iret (pc := 46) rfl (by decide +kernel)) <|
  n_e
def fX12_gathered_34 (x1 : Int32) (x2 : Int32) (s0 : Int32) (M : nM) : Option (Int32 × nM) :=
  if (3 : Int32) = 0 then none else
  if (3 : Int32) = 0 then none else
  some (((s0 * (x1 / (3 : Int32))) + (x2 / (3 : Int32))), M)
set_option maxRecDepth 200000 in
theorem bX12_gathered_34 {l : Launch} {w : nW} {G : nG} (x1 : Int32) (x2 : Int32) (s0 : Int32) (M : nM) (r : Int32 × nM) (h : fX12_gathered_34 x1 x2 s0 M = some r) : n_At l w 0 mX12_gathered 34 [(1, .int x1), (2, .int x2)] [.int s0] (G, M) (dv_i r.1, (G, r.2)) :=
  n_seg (fin := n_fin dv_i G) (K := []) 14 (iX12_gathered) n_ke (by rfl) h
def fX12_gathered_26 (x1 : Int32) (x2 : Int32) (s0 : Int32) (s1 : Int32) (M : nM) : Option (Int32 × nM) :=
  if ¬ s1 = s0 then
    fX12_gathered_34 x1 x2 (2 : Int32) M
  else
    fX12_gathered_34 x1 x2 (0 : Int32) M
set_option maxRecDepth 200000 in
theorem bX12_gathered_26 {l : Launch} {w : nW} {G : nG} (x1 : Int32) (x2 : Int32) (s0 : Int32) (s1 : Int32) (M : nM) (r : Int32 × nM) (h : fX12_gathered_26 x1 x2 s0 s1 M = some r) : n_At l w 0 mX12_gathered 26 [(1, .int x1), (2, .int x2)] [.int s0, .int s1] (G, M) (dv_i r.1, (G, r.2)) :=
  n_seg (fin := n_fin dv_i G) (K := [(34, fun lv st M => n_lI lv 1 (fun x1 => n_lI lv 2 (fun x2 => n_pI st (fun s0 st => n_pE st (fX12_gathered_34 x1 x2 s0 M)))))]) 7 (iX12_gathered) (n_kc (fun lv st M r h => by
      obtain ⟨x1, e1, h1⟩ := n_lI_x h
      obtain ⟨x2, e2, h2⟩ := n_lI_x h1
      obtain ⟨s0, t0, rfl, h3⟩ := n_pI_x h2
      obtain ⟨rfl, h4⟩ := n_pE_x h3
      exact n_sub (n_qc e1 (n_qc e2 n_qe)) (bX12_gathered_34 x1 x2 s0 M r h4)) n_ke) (by rfl) h
def fX12_gathered (x1 : Int32) (x2 : Int32) (x3 : Int32) (M : nM) : Option (Int32 × nM) :=
  if (3 : Int32) = 0 then none else
  let v1 : Int32 := (x2 - x2 / (3 : Int32) * (3 : Int32))
  if ¬ v1 = x3 then
    if ¬ x3 = 0 then
      fX12_gathered_26 x1 x2 (0 : Int32) v1 M
    else
      fX12_gathered_26 x1 x2 (1 : Int32) v1 M
  else
    fX12_gathered_34 x1 x2 (1 : Int32) M
set_option maxRecDepth 200000 in
theorem bX12_gathered_0 {l : Launch} {w : nW} {G : nG} (x1 : Int32) (x2 : Int32) (x3 : Int32) (M : nM) (r : Int32 × nM) (h : fX12_gathered x1 x2 x3 M = some r) : n_At l w 0 mX12_gathered 0 [(1, .int x1), (2, .int x2), (3, .int x3)] [] (G, M) (dv_i r.1, (G, r.2)) :=
  n_seg (fin := n_fin dv_i G) (K := [(26, fun lv st M => n_lI lv 1 (fun x1 => n_lI lv 2 (fun x2 => n_pI st (fun s0 st => n_pI st (fun s1 st => n_pE st (fX12_gathered_26 x1 x2 s0 s1 M)))))), (34, fun lv st M => n_lI lv 1 (fun x1 => n_lI lv 2 (fun x2 => n_pI st (fun s0 st => n_pE st (fX12_gathered_34 x1 x2 s0 M)))))]) 18 (iX12_gathered) (n_kc (fun lv st M r h => by
      obtain ⟨x1, e1, h1⟩ := n_lI_x h
      obtain ⟨x2, e2, h2⟩ := n_lI_x h1
      obtain ⟨s0, t0, rfl, h3⟩ := n_pI_x h2
      obtain ⟨s1, t1, rfl, h4⟩ := n_pI_x h3
      obtain ⟨rfl, h5⟩ := n_pE_x h4
      exact n_sub (n_qc e1 (n_qc e2 n_qe)) (bX12_gathered_26 x1 x2 s0 s1 M r h5)) (n_kc (fun lv st M r h => by
      obtain ⟨x1, e1, h1⟩ := n_lI_x h
      obtain ⟨x2, e2, h2⟩ := n_lI_x h1
      obtain ⟨s0, t0, rfl, h3⟩ := n_pI_x h2
      obtain ⟨rfl, h4⟩ := n_pE_x h3
      exact n_sub (n_qc e1 (n_qc e2 n_qe)) (bX12_gathered_34 x1 x2 s0 M r h4)) n_ke)) (by rfl) h
theorem eX12_gathered {l : Launch} {w : nW} {G : nG} (z1 : Int32) (z2 : Int32) (z3 : Int32) (M : nM) (r : Int32 × nM) (h : fX12_gathered z1 z2 z3 M = some r) : n_Met l w 0 mX12_gathered [.ref 107, .int z1, .int z2, .int z3] (G, M) (dv_i r.1, (G, r.2)) :=
  n_entry (by decide +kernel) rfl (Nat.le_of_ble_eq_true rfl) (n_sub (lv := [(0, .ref 107), (1, .int z1), (2, .int z2), (3, .int z3)]) (n_qc rfl (n_qc rfl (n_qc rfl n_qe))) (bX12_gathered_0 z1 z2 z3 M r h))
abbrev hX12_gathered : nF := fun T as M k => n_pC 107 as (fun as => n_pI as (fun z1 as => n_pI as (fun z2 as => n_pI as (fun z3 as => n_pE as ((fX12_gathered z1 z2 z3 M).bind fun p => k (dv_i p.1) p.2)))))
theorem csX12_gathered {l : Launch} {w : nW} {G : nG} : n_CS l w 0 mX12_gathered G (hX12_gathered) := fun T as M k r h => by
  obtain ⟨t0, rfl, h1⟩ := n_pC_x h
  obtain ⟨z1, t1, rfl, h2⟩ := n_pI_x h1
  obtain ⟨z2, t2, rfl, h3⟩ := n_pI_x h2
  obtain ⟨z3, t3, rfl, h4⟩ := n_pI_x h3
  obtain ⟨rfl, hE⟩ := n_pE_x h4
  obtain ⟨p, hp, hk⟩ := Option.bind_eq_some_iff.mp hE
  exact ⟨_, _, eX12_gathered z1 z2 z3 M p hp, hk⟩
/-! ===== SleightHouseModel.isBack(II)Z ===== -/
def mX12_isBack : nY := (RX12, yX12_isBack, cX12_isBack, 6, some .boolean)
theorem okX12_isBack : n_MOK mX12_isBack 2 := ⟨w_2026, w_151, ⟨by decide +kernel, by decide +kernel, by decide +kernel⟩, by decide⟩
abbrev aX12_isBack (N : Nat) : List (Nat × nO (Int32 × nM)) := [(0, o_push (.int (0 : Int32)) 1), (1, o_istore 6 3 2), (2, o_iload 3 3), (3, o_iload 1 4), (4, oc_ge 49 7), (7, o_iload 3 8), (8, o_istore 6 4 10), (10, o_push (.int (0 : Int32)) 11), (11, o_istore 6 5 13), (13, o_iload 5 15), (15, o_iload 2 16), (16, oc_ge 35 19), (19, o_aload 0 20), (20, o_iload 1 21), (21, o_iload 4 23), (23, o_push (.int (1 : Int32)) 24), (24, o_callVc 107 3 (hX12_gathered) 27), (27, o_istore 6 4 29), (29, o_inc 6 5 (1 : Int32) 32), (32, o_goto 13), (35, o_iload 4 37), (37, o_iload 3 38), (38, oc_eq 43 41), (41, o_push (.int (0 : Int32)) 42), (42, o_zret), (43, o_inc 6 3 (1 : Int32) 46), (46, o_goto 2), (49, o_push (.int (1 : Int32)) 50), (50, o_zret)]
set_option maxRecDepth 200000 in
theorem iX12_isBack {l : Launch} {w : nW} (N : Nat) {G : nG} (hG : n_GOK G) : n_AllS l w 1 mX12_isBack G (n_fin dv_i G) (aX12_isBack N) :=
  n_c (s_iconst (pc := 0) (n := 0) (by decide +kernel) (by decide +kernel)) <|
  n_c (s_istore_n (pc := 1) (k := 3) (by decide +kernel)) <|
  n_c (s_iload_n (pc := 2) (k := 3) (by decide +kernel)) <|
  n_c (s_iload_n (pc := 3) (k := 1) (by decide +kernel)) <|
  n_c (s_icmp_ge (pc := 4) (off := 45) (by decide +kernel) (by decide +kernel)) <|
  n_c (s_iload_n (pc := 7) (k := 3) (by decide +kernel)) <|
  n_c (s_istore (pc := 8) (by decide +kernel)) <|
  n_c (s_iconst (pc := 10) (n := 0) (by decide +kernel) (by decide +kernel)) <|
  n_c (s_istore (pc := 11) (by decide +kernel)) <|
  n_c (s_iload (pc := 13) (by decide +kernel)) <|
  n_c (s_iload_n (pc := 15) (k := 2) (by decide +kernel)) <|
  n_c (s_icmp_ge (pc := 16) (off := 19) (by decide +kernel) (by decide +kernel)) <|
  n_c (s_aload_n (pc := 19) (k := 0) (by decide +kernel)) <|
  n_c (s_iload_n (pc := 20) (k := 1) (by decide +kernel)) <|
  n_c (s_iload (pc := 21) (by decide +kernel)) <|
  n_c (s_iconst (pc := 23) (n := 1) (by decide +kernel) (by decide +kernel)) <|
  n_c (s_callVc (s_callV (pc := 24) (csX12_gathered) (by decide) okX12_gathered nok12 w_2029 w_116 w_2027 (by decide +kernel)) (gk107 hG)) <|
  n_c (s_istore (pc := 27) (by decide +kernel)) <|
  n_c (s_iinc (pc := 29) (n := 1) (by decide +kernel) (by decide +kernel)) <|
  n_c (s_goto (pc := 32) (off := -19) (by decide +kernel) (by decide +kernel)) <|
  n_c (s_iload (pc := 35) (by decide +kernel)) <|
  n_c (s_iload_n (pc := 37) (k := 3) (by decide +kernel)) <|
  n_c (s_icmp_eq (pc := 38) (off := 5) (by decide +kernel) (by decide +kernel)) <|
  n_c (s_iconst (pc := 41) (n := 0) (by decide +kernel) (by decide +kernel)) <|
  n_c (s_zret (pc := 42) rfl (by decide +kernel)) <|
  n_c (s_iinc (pc := 43) (n := 1) (by decide +kernel) (by decide +kernel)) <|
  n_c (s_goto (pc := 46) (off := -44) (by decide +kernel) (by decide +kernel)) <|
  n_c (s_iconst (pc := 49) (n := 1) (by decide +kernel) (by decide +kernel)) <|
  n_c (s_zret (pc := 50) rfl (by decide +kernel)) <|
  n_e
def fX12_isBack_13 (N : Nat) (k2 : Int32 → Int32 → Int32 → nM → Option (Int32 × nM)) : Nat → Int32 → Int32 → Int32 → Int32 → Int32 → nM → Option (Int32 × nM)
  | 0, _, _, _, _, _, _ => none
  | n + 1, x1, x2, x3, x4, x5, M =>
    if x2 ≤ x5 then
      if x4 = x3 then
        let v1 : Int32 := (x3 + (1 : Int32))
        k2 x1 x2 v1 M
      else
        some ((0 : Int32), M)
    else
      (fX12_gathered x1 x4 (1 : Int32) M).bind fun p2 =>
      let v3 : Int32 := (x5 + (1 : Int32))
      fX12_isBack_13 N k2 n x1 x2 x3 p2.1 v3 p2.2
set_option maxRecDepth 200000 in
theorem bX12_isBack_13 {l : Launch} {w : nW} (N : Nat) {G : nG} (hG : n_GOK G) (k2 : Int32 → Int32 → Int32 → nM → Option (Int32 × nM)) (hk2 : ∀ (x1 : Int32) (x2 : Int32) (x3 : Int32) (M : nM) (r : Int32 × nM), k2 x1 x2 x3 M = some r → n_At l w 1 mX12_isBack 2 [(0, .ref 107), (1, .int x1), (2, .int x2), (3, .int x3)] [] (G, M) (dv_i r.1, (G, r.2))) : ∀ (n : Nat) (x1 : Int32) (x2 : Int32) (x3 : Int32) (x4 : Int32) (x5 : Int32) (M : nM) (r : Int32 × nM), fX12_isBack_13 N k2 n x1 x2 x3 x4 x5 M = some r → n_At l w 1 mX12_isBack 13 [(0, .ref 107), (1, .int x1), (2, .int x2), (3, .int x3), (4, .int x4), (5, .int x5)] [] (G, M) (dv_i r.1, (G, r.2)) := by
  intro n
  induction n with
  | zero => intro x1 x2 x3 x4 x5 M r h; cases (show (none : Option (Int32 × nM)) = some r from h)
  | succ n ih =>
    intro x1 x2 x3 x4 x5 M r h
    exact n_seg (fin := n_fin dv_i G) (K := [(2, fun lv st M => n_lC 107 lv 0 (n_lI lv 1 (fun x1 => n_lI lv 2 (fun x2 => n_lI lv 3 (fun x3 => n_pE st (k2 x1 x2 x3 M)))))), (13, fun lv st M => n_lC 107 lv 0 (n_lI lv 1 (fun x1 => n_lI lv 2 (fun x2 => n_lI lv 3 (fun x3 => n_lI lv 4 (fun x4 => n_lI lv 5 (fun x5 => n_pE st (fX12_isBack_13 N k2 n x1 x2 x3 x4 x5 M))))))))]) 21 (iX12_isBack N hG) (n_kc (fun lv st M r h => by
      obtain ⟨e0, h1⟩ := n_lC_x h
      obtain ⟨x1, e1, h2⟩ := n_lI_x h1
      obtain ⟨x2, e2, h3⟩ := n_lI_x h2
      obtain ⟨x3, e3, h4⟩ := n_lI_x h3
      obtain ⟨rfl, h5⟩ := n_pE_x h4
      exact n_sub (n_qc e0 (n_qc e1 (n_qc e2 (n_qc e3 n_qe)))) (hk2 x1 x2 x3 M r h5)) (n_kc (fun lv st M r h => by
      obtain ⟨e0, h1⟩ := n_lC_x h
      obtain ⟨x1, e1, h2⟩ := n_lI_x h1
      obtain ⟨x2, e2, h3⟩ := n_lI_x h2
      obtain ⟨x3, e3, h4⟩ := n_lI_x h3
      obtain ⟨x4, e4, h5⟩ := n_lI_x h4
      obtain ⟨x5, e5, h6⟩ := n_lI_x h5
      obtain ⟨rfl, h7⟩ := n_pE_x h6
      exact n_sub (n_qc e0 (n_qc e1 (n_qc e2 (n_qc e3 (n_qc e4 (n_qc e5 n_qe)))))) (ih x1 x2 x3 x4 x5 M r h7)) n_ke)) (by rfl) h
def fX12_isBack_2 (N : Nat) : Nat → Int32 → Int32 → Int32 → nM → Option (Int32 × nM)
  | 0, _, _, _, _ => none
  | n + 1, x1, x2, x3, M =>
    if x1 ≤ x3 then
      some ((1 : Int32), M)
    else
      fX12_isBack_13 N (fun x1 x2 x3 M => fX12_isBack_2 N n x1 x2 x3 M) N x1 x2 x3 x3 (0 : Int32) M
set_option maxRecDepth 200000 in
theorem bX12_isBack_2 {l : Launch} {w : nW} (N : Nat) {G : nG} (hG : n_GOK G) : ∀ (n : Nat) (x1 : Int32) (x2 : Int32) (x3 : Int32) (M : nM) (r : Int32 × nM), fX12_isBack_2 N n x1 x2 x3 M = some r → n_At l w 1 mX12_isBack 2 [(0, .ref 107), (1, .int x1), (2, .int x2), (3, .int x3)] [] (G, M) (dv_i r.1, (G, r.2)) := by
  intro n
  induction n with
  | zero => intro x1 x2 x3 M r h; cases (show (none : Option (Int32 × nM)) = some r from h)
  | succ n ih =>
    intro x1 x2 x3 M r h
    exact n_seg (fin := n_fin dv_i G) (K := [(13, fun lv st M => n_lC 107 lv 0 (n_lI lv 1 (fun x1 => n_lI lv 2 (fun x2 => n_lI lv 3 (fun x3 => n_lI lv 4 (fun x4 => n_lI lv 5 (fun x5 => n_pE st (fX12_isBack_13 N (fun x1 x2 x3 M => fX12_isBack_2 N n x1 x2 x3 M) N x1 x2 x3 x4 x5 M))))))))]) 12 (iX12_isBack N hG) (n_kc (fun lv st M r h => by
      obtain ⟨e0, h1⟩ := n_lC_x h
      obtain ⟨x1, e1, h2⟩ := n_lI_x h1
      obtain ⟨x2, e2, h3⟩ := n_lI_x h2
      obtain ⟨x3, e3, h4⟩ := n_lI_x h3
      obtain ⟨x4, e4, h5⟩ := n_lI_x h4
      obtain ⟨x5, e5, h6⟩ := n_lI_x h5
      obtain ⟨rfl, h7⟩ := n_pE_x h6
      exact n_sub (n_qc e0 (n_qc e1 (n_qc e2 (n_qc e3 (n_qc e4 (n_qc e5 n_qe)))))) (bX12_isBack_13 N hG (fun x1 x2 x3 M => fX12_isBack_2 N n x1 x2 x3 M) ih N x1 x2 x3 x4 x5 M r h7)) n_ke) (by rfl) h
def fX12_isBack (N : Nat) (x1 : Int32) (x2 : Int32) (M : nM) : Option (Int32 × nM) :=
  fX12_isBack_2 N N x1 x2 (0 : Int32) M
set_option maxRecDepth 200000 in
theorem bX12_isBack_0 {l : Launch} {w : nW} (N : Nat) {G : nG} (hG : n_GOK G) (x1 : Int32) (x2 : Int32) (M : nM) (r : Int32 × nM) (h : fX12_isBack N x1 x2 M = some r) : n_At l w 1 mX12_isBack 0 [(0, .ref 107), (1, .int x1), (2, .int x2)] [] (G, M) (dv_i r.1, (G, r.2)) :=
  n_seg (fin := n_fin dv_i G) (K := [(2, fun lv st M => n_lC 107 lv 0 (n_lI lv 1 (fun x1 => n_lI lv 2 (fun x2 => n_lI lv 3 (fun x3 => n_pE st (fX12_isBack_2 N N x1 x2 x3 M))))))]) 5 (iX12_isBack N hG) (n_kc (fun lv st M r h => by
      obtain ⟨e0, h1⟩ := n_lC_x h
      obtain ⟨x1, e1, h2⟩ := n_lI_x h1
      obtain ⟨x2, e2, h3⟩ := n_lI_x h2
      obtain ⟨x3, e3, h4⟩ := n_lI_x h3
      obtain ⟨rfl, h5⟩ := n_pE_x h4
      exact n_sub (n_qc e0 (n_qc e1 (n_qc e2 (n_qc e3 n_qe)))) (bX12_isBack_2 N hG N x1 x2 x3 M r h5)) n_ke) (by rfl) h
theorem eX12_isBack {l : Launch} {w : nW} (N : Nat) {G : nG} (hG : n_GOK G) (z1 : Int32) (z2 : Int32) (M : nM) (r : Int32 × nM) (h : fX12_isBack N z1 z2 M = some r) : n_Met l w 1 mX12_isBack [.ref 107, .int z1, .int z2] (G, M) (dv_i r.1, (G, r.2)) :=
  n_entry (by decide +kernel) rfl (Nat.le_of_ble_eq_true rfl) (n_sub (lv := [(0, .ref 107), (1, .int z1), (2, .int z2)]) (n_qc rfl (n_qc rfl (n_qc rfl n_qe))) (bX12_isBack_0 N hG z1 z2 M r h))
abbrev hX12_isBack (N : Nat) : nF := fun T as M k => n_pC 107 as (fun as => n_pI as (fun z1 as => n_pI as (fun z2 as => n_pE as ((fX12_isBack N z1 z2 M).bind fun p => k (dv_i p.1) p.2))))
theorem csX12_isBack {l : Launch} {w : nW} (N : Nat) {G : nG} (hG : n_GOK G) : n_CS l w 1 mX12_isBack G (hX12_isBack N) := fun T as M k r h => by
  obtain ⟨t0, rfl, h1⟩ := n_pC_x h
  obtain ⟨z1, t1, rfl, h2⟩ := n_pI_x h1
  obtain ⟨z2, t2, rfl, h3⟩ := n_pI_x h2
  obtain ⟨rfl, hE⟩ := n_pE_x h3
  obtain ⟨p, hp, hk⟩ := Option.bind_eq_some_iff.mp hE
  exact ⟨_, _, eX12_isBack N hG z1 z2 M p hp, hk⟩
/-! ===== SleightHouseModel.card(II)I ===== -/
def mX12_card : nY := (RX12, yX12_card, cX12_card, 5, some .int)
theorem okX12_card : n_MOK mX12_card 2 := ⟨w_2022, w_151, ⟨by decide +kernel, by decide +kernel, by decide +kernel⟩, by decide⟩
abbrev aX12_card (N : Nat) : List (Nat × nO (Int32 × nM)) := [(0, o_aload 0 1), (1, o_push (.int (0 : Int32)) 2), (2, o_pIc 107 0 5), (5, o_aload 0 6), (6, o_iload 1 7), (7, o_push (.int (3 : Int32)) 8), (8, o_push (.int (30 : Int32)) 10), (10, o_callVc 107 3 (hX12_isIn) 13), (13, oi_eq 34 16), (16, o_iload 1 17), (17, o_push (.int (3 : Int32)) 18), (18, o_irem 19), (19, oi_ne 34 22), (22, o_aload 0 23), (23, o_iload 2 24), (24, o_push (.int (-1 : Int32)) 25), (25, o_iload 1 26), (26, o_push (.int (1 : Int32)) 27), (27, o_isub 28), (28, o_callVc 107 3 (hX12_isIn) 31), (31, oi_ne 36 34), (34, o_push (.int (-1 : Int32)) 35), (35, o_iret), (36, o_iload 2 37), (37, o_push (.int (-1 : Int32)) 38), (38, oc_ne 68 41), (41, o_push (.int (1 : Int32)) 42), (42, o_istore 5 3 43), (43, o_iload 3 44), (44, o_push (.int (99 : Int32)) 46), (46, oc_gt 66 49), (49, o_aload 0 50), (50, o_iload 1 51), (51, o_iload 3 52), (52, o_callVc 107 2 (hX12_isBack N) 55), (55, oi_eq 60 58), (58, o_iload 3 59), (59, o_iret), (60, o_inc 5 3 (1 : Int32) 63), (63, o_goto 43), (66, o_push (.int (-1 : Int32)) 67), (67, o_iret), (68, o_iload 2 69), (69, o_istore 5 3 70), (70, o_push (.int (0 : Int32)) 71), (71, o_istore 5 4 73), (73, o_iload 4 75), (75, o_aload 0 76), (76, o_gIc 107 49 79), (79, oc_ge 102 82), (82, o_aload 0 83), (83, o_iload 1 84), (84, o_iload 3 85), (85, o_aload 0 86), (86, o_gRc 107 135 89), (89, o_iload 4 91), (91, o_aldc 135 4 92), (92, o_callVc 107 3 (hX12_gathered) 95), (95, o_istore 5 3 96), (96, o_inc 5 4 (1 : Int32) 99), (99, o_goto 73), (102, o_iload 3 103), (103, o_iret)]
set_option maxRecDepth 200000 in
theorem iX12_card {l : Launch} {w : nW} (N : Nat) {G : nG} (hG : n_GOK G) : n_AllS l w 2 mX12_card G (n_fin dv_i G) (aX12_card N) :=
  n_c (s_aload_n (pc := 0) (k := 0) (by decide +kernel)) <|
  n_c (s_iconst (pc := 1) (n := 0) (by decide +kernel) (by decide +kernel)) <|
  n_c (s_pIc (s_putI (pc := 2) (ci := 12) (k := 0) (idx := 146) nok12 (by decide) rfl rfl (by decide +kernel) w_1407) (gk107 hG)) <|
  n_c (s_aload_n (pc := 5) (k := 0) (by decide +kernel)) <|
  n_c (s_iload_n (pc := 6) (k := 1) (by decide +kernel)) <|
  n_c (s_iconst (pc := 7) (n := 3) (by decide +kernel) (by decide +kernel)) <|
  n_c (s_bipush (pc := 8) (n := 30) (by decide +kernel) (by decide +kernel)) <|
  n_c (s_callVc (s_callV (pc := 10) (csX12_isIn) (by decide) okX12_isIn nok12 w_1659 w_46 w_1657 (by decide +kernel)) (gk107 hG)) <|
  n_c (s_if_eq (pc := 13) (off := 21) (by decide +kernel) (by decide +kernel)) <|
  n_c (s_iload_n (pc := 16) (k := 1) (by decide +kernel)) <|
  n_c (s_iconst (pc := 17) (n := 3) (by decide +kernel) (by decide +kernel)) <|
  n_c (s_irem (pc := 18) (by decide +kernel)) <|
  n_c (s_if_ne (pc := 19) (off := 15) (by decide +kernel) (by decide +kernel)) <|
  n_c (s_aload_n (pc := 22) (k := 0) (by decide +kernel)) <|
  n_c (s_iload_n (pc := 23) (k := 2) (by decide +kernel)) <|
  n_c (s_iconst (pc := 24) (n := -1) (by decide +kernel) (by decide +kernel)) <|
  n_c (s_iload_n (pc := 25) (k := 1) (by decide +kernel)) <|
  n_c (s_iconst (pc := 26) (n := 1) (by decide +kernel) (by decide +kernel)) <|
  n_c (s_isub (pc := 27) (by decide +kernel)) <|
  n_c (s_callVc (s_callV (pc := 28) (csX12_isIn) (by decide) okX12_isIn nok12 w_1659 w_46 w_1657 (by decide +kernel)) (gk107 hG)) <|
  n_c (s_if_ne (pc := 31) (off := 5) (by decide +kernel) (by decide +kernel)) <|
  n_c (s_iconst (pc := 34) (n := -1) (by decide +kernel) (by decide +kernel)) <|
  n_c (s_iret (pc := 35) rfl (by decide +kernel)) <|
  n_c (s_iload_n (pc := 36) (k := 2) (by decide +kernel)) <|
  n_c (s_iconst (pc := 37) (n := -1) (by decide +kernel) (by decide +kernel)) <|
  n_c (s_icmp_ne (pc := 38) (off := 30) (by decide +kernel) (by decide +kernel)) <|
  n_c (s_iconst (pc := 41) (n := 1) (by decide +kernel) (by decide +kernel)) <|
  n_c (s_istore_n (pc := 42) (k := 3) (by decide +kernel)) <|
  n_c (s_iload_n (pc := 43) (k := 3) (by decide +kernel)) <|
  n_c (s_bipush (pc := 44) (n := 99) (by decide +kernel) (by decide +kernel)) <|
  n_c (s_icmp_gt (pc := 46) (off := 20) (by decide +kernel) (by decide +kernel)) <|
  n_c (s_aload_n (pc := 49) (k := 0) (by decide +kernel)) <|
  n_c (s_iload_n (pc := 50) (k := 1) (by decide +kernel)) <|
  n_c (s_iload_n (pc := 51) (k := 3) (by decide +kernel)) <|
  n_c (s_callVc (s_callV (pc := 52) (csX12_isBack N hG) (by decide) okX12_isBack nok12 w_2025 w_115 w_2023 (by decide +kernel)) (gk107 hG)) <|
  n_c (s_if_eq (pc := 55) (off := 5) (by decide +kernel) (by decide +kernel)) <|
  n_c (s_iload_n (pc := 58) (k := 3) (by decide +kernel)) <|
  n_c (s_iret (pc := 59) rfl (by decide +kernel)) <|
  n_c (s_iinc (pc := 60) (n := 1) (by decide +kernel) (by decide +kernel)) <|
  n_c (s_goto (pc := 63) (off := -20) (by decide +kernel) (by decide +kernel)) <|
  n_c (s_iconst (pc := 66) (n := -1) (by decide +kernel) (by decide +kernel)) <|
  n_c (s_iret (pc := 67) rfl (by decide +kernel)) <|
  n_c (s_iload_n (pc := 68) (k := 2) (by decide +kernel)) <|
  n_c (s_istore_n (pc := 69) (k := 3) (by decide +kernel)) <|
  n_c (s_iconst (pc := 70) (n := 0) (by decide +kernel) (by decide +kernel)) <|
  n_c (s_istore (pc := 71) (by decide +kernel)) <|
  n_c (s_iload (pc := 73) (by decide +kernel)) <|
  n_c (s_aload_n (pc := 75) (k := 0) (by decide +kernel)) <|
  n_c (s_gIc (s_getI (pc := 76) (ci := 12) (k := 49) (idx := 431) nok12 (by decide) rfl (by decide +kernel) w_1456) (gk107 hG)) <|
  n_c (s_icmp_ge (pc := 79) (off := 23) (by decide +kernel) (by decide +kernel)) <|
  n_c (s_aload_n (pc := 82) (k := 0) (by decide +kernel)) <|
  n_c (s_iload_n (pc := 83) (k := 1) (by decide +kernel)) <|
  n_c (s_iload_n (pc := 84) (k := 3) (by decide +kernel)) <|
  n_c (s_aload_n (pc := 85) (k := 0) (by decide +kernel)) <|
  n_c (s_gRc (s_getR (pc := 86) (ci := 12) (k := 50) (idx := 95) nok12 (by decide) rfl (by decide +kernel) w_1457) (gk107 hG) (gm107_50 hG)) <|
  n_c (s_iload (pc := 89) (by decide +kernel)) <|
  n_c (s_aldc (s_iaload (pc := 91) (by decide +kernel)) (gk135 hG) (gl135 hG)) <|
  n_c (s_callVc (s_callV (pc := 92) (csX12_gathered) (by decide) okX12_gathered nok12 w_2029 w_116 w_2027 (by decide +kernel)) (gk107 hG)) <|
  n_c (s_istore_n (pc := 95) (k := 3) (by decide +kernel)) <|
  n_c (s_iinc (pc := 96) (n := 1) (by decide +kernel) (by decide +kernel)) <|
  n_c (s_goto (pc := 99) (off := -26) (by decide +kernel) (by decide +kernel)) <|
  n_c (s_iload_n (pc := 102) (k := 3) (by decide +kernel)) <|
  n_c (s_iret (pc := 103) rfl (by decide +kernel)) <|
  n_e
def fX12_card_43 (N : Nat) : Nat → Int32 → Int32 → nM → Option (Int32 × nM)
  | 0, _, _, _ => none
  | n + 1, x1, x3, M =>
    if (99 : Int32) < x3 then
      some ((-1 : Int32), M)
    else
      (fX12_isBack N x1 x3 M).bind fun p1 =>
      if p1.1 = 0 then
        let v2 : Int32 := (x3 + (1 : Int32))
        fX12_card_43 N n x1 v2 p1.2
      else
        some (x3, p1.2)
set_option maxRecDepth 200000 in
theorem bX12_card_43 {l : Launch} {w : nW} (N : Nat) {G : nG} (hG : n_GOK G) : ∀ (n : Nat) (x1 : Int32) (x3 : Int32) (M : nM) (r : Int32 × nM), fX12_card_43 N n x1 x3 M = some r → n_At l w 2 mX12_card 43 [(0, .ref 107), (1, .int x1), (3, .int x3)] [] (G, M) (dv_i r.1, (G, r.2)) := by
  intro n
  induction n with
  | zero => intro x1 x3 M r h; cases (show (none : Option (Int32 × nM)) = some r from h)
  | succ n ih =>
    intro x1 x3 M r h
    exact n_seg (fin := n_fin dv_i G) (K := [(43, fun lv st M => n_lC 107 lv 0 (n_lI lv 1 (fun x1 => n_lI lv 3 (fun x3 => n_pE st (fX12_card_43 N n x1 x3 M)))))]) 17 (iX12_card N hG) (n_kc (fun lv st M r h => by
      obtain ⟨e0, h1⟩ := n_lC_x h
      obtain ⟨x1, e1, h2⟩ := n_lI_x h1
      obtain ⟨x3, e3, h3⟩ := n_lI_x h2
      obtain ⟨rfl, h4⟩ := n_pE_x h3
      exact n_sub (n_qc e0 (n_qc e1 (n_qc e3 n_qe))) (ih x1 x3 M r h4)) n_ke) (by rfl) h
def fX12_card_73 (N : Nat) : Nat → Int32 → Int32 → Int32 → nM → Option (Int32 × nM)
  | 0, _, _, _, _ => none
  | n + 1, x1, x3, x4, M =>
    if (M 107 49) ≤ x4 then
      some (x3, M)
    else
      n_chk (n_ib 4 x4) <|
      (fX12_gathered x1 x3 (M 135 x4.toNatClampNeg) M).bind fun p1 =>
      let v2 : Int32 := (x4 + (1 : Int32))
      fX12_card_73 N n x1 p1.1 v2 p1.2
set_option maxRecDepth 200000 in
theorem bX12_card_73 {l : Launch} {w : nW} (N : Nat) {G : nG} (hG : n_GOK G) : ∀ (n : Nat) (x1 : Int32) (x3 : Int32) (x4 : Int32) (M : nM) (r : Int32 × nM), fX12_card_73 N n x1 x3 x4 M = some r → n_At l w 2 mX12_card 73 [(0, .ref 107), (1, .int x1), (3, .int x3), (4, .int x4)] [] (G, M) (dv_i r.1, (G, r.2)) := by
  intro n
  induction n with
  | zero => intro x1 x3 x4 M r h; cases (show (none : Option (Int32 × nM)) = some r from h)
  | succ n ih =>
    intro x1 x3 x4 M r h
    exact n_seg (fin := n_fin dv_i G) (K := [(73, fun lv st M => n_lC 107 lv 0 (n_lI lv 1 (fun x1 => n_lI lv 3 (fun x3 => n_lI lv 4 (fun x4 => n_pE st (fX12_card_73 N n x1 x3 x4 M))))))]) 20 (iX12_card N hG) (n_kc (fun lv st M r h => by
      obtain ⟨e0, h1⟩ := n_lC_x h
      obtain ⟨x1, e1, h2⟩ := n_lI_x h1
      obtain ⟨x3, e3, h3⟩ := n_lI_x h2
      obtain ⟨x4, e4, h4⟩ := n_lI_x h3
      obtain ⟨rfl, h5⟩ := n_pE_x h4
      exact n_sub (n_qc e0 (n_qc e1 (n_qc e3 (n_qc e4 n_qe)))) (ih x1 x3 x4 M r h5)) n_ke) (by rfl) h
def fX12_card (N : Nat) (x1 : Int32) (x2 : Int32) (M : nM) : Option (Int32 × nM) :=
  let M1 : nM := n_up M 107 0 (0 : Int32)
  (fX12_isIn x1 (3 : Int32) (30 : Int32) M1).bind fun p2 =>
  if p2.1 = 0 then
    some ((-1 : Int32), p2.2)
  else
    if (3 : Int32) = 0 then none else
    if ¬ (x1 - x1 / (3 : Int32) * (3 : Int32)) = 0 then
      some ((-1 : Int32), p2.2)
    else
      (fX12_isIn x2 (-1 : Int32) (x1 - (1 : Int32)) p2.2).bind fun p3 =>
      if ¬ p3.1 = 0 then
        if ¬ x2 = (-1 : Int32) then
          fX12_card_73 N N x1 x2 (0 : Int32) p3.2
        else
          fX12_card_43 N N x1 (1 : Int32) p3.2
      else
        some ((-1 : Int32), p3.2)
set_option maxRecDepth 200000 in
theorem bX12_card_0 {l : Launch} {w : nW} (N : Nat) {G : nG} (hG : n_GOK G) (x1 : Int32) (x2 : Int32) (M : nM) (r : Int32 × nM) (h : fX12_card N x1 x2 M = some r) : n_At l w 2 mX12_card 0 [(0, .ref 107), (1, .int x1), (2, .int x2)] [] (G, M) (dv_i r.1, (G, r.2)) :=
  n_seg (fin := n_fin dv_i G) (K := [(43, fun lv st M => n_lC 107 lv 0 (n_lI lv 1 (fun x1 => n_lI lv 3 (fun x3 => n_pE st (fX12_card_43 N N x1 x3 M))))), (73, fun lv st M => n_lC 107 lv 0 (n_lI lv 1 (fun x1 => n_lI lv 3 (fun x3 => n_lI lv 4 (fun x4 => n_pE st (fX12_card_73 N N x1 x3 x4 M))))))]) 39 (iX12_card N hG) (n_kc (fun lv st M r h => by
      obtain ⟨e0, h1⟩ := n_lC_x h
      obtain ⟨x1, e1, h2⟩ := n_lI_x h1
      obtain ⟨x3, e3, h3⟩ := n_lI_x h2
      obtain ⟨rfl, h4⟩ := n_pE_x h3
      exact n_sub (n_qc e0 (n_qc e1 (n_qc e3 n_qe))) (bX12_card_43 N hG N x1 x3 M r h4)) (n_kc (fun lv st M r h => by
      obtain ⟨e0, h1⟩ := n_lC_x h
      obtain ⟨x1, e1, h2⟩ := n_lI_x h1
      obtain ⟨x3, e3, h3⟩ := n_lI_x h2
      obtain ⟨x4, e4, h4⟩ := n_lI_x h3
      obtain ⟨rfl, h5⟩ := n_pE_x h4
      exact n_sub (n_qc e0 (n_qc e1 (n_qc e3 (n_qc e4 n_qe)))) (bX12_card_73 N hG N x1 x3 x4 M r h5)) n_ke)) (by rfl) h
theorem eX12_card {l : Launch} {w : nW} (N : Nat) {G : nG} (hG : n_GOK G) (z1 : Int32) (z2 : Int32) (M : nM) (r : Int32 × nM) (h : fX12_card N z1 z2 M = some r) : n_Met l w 2 mX12_card [.ref 107, .int z1, .int z2] (G, M) (dv_i r.1, (G, r.2)) :=
  n_entry (by decide +kernel) rfl (Nat.le_of_ble_eq_true rfl) (n_sub (lv := [(0, .ref 107), (1, .int z1), (2, .int z2)]) (n_qc rfl (n_qc rfl (n_qc rfl n_qe))) (bX12_card_0 N hG z1 z2 M r h))
abbrev hX12_card (N : Nat) : nF := fun T as M k => n_pC 107 as (fun as => n_pI as (fun z1 as => n_pI as (fun z2 as => n_pE as ((fX12_card N z1 z2 M).bind fun p => k (dv_i p.1) p.2))))
theorem csX12_card {l : Launch} {w : nW} (N : Nat) {G : nG} (hG : n_GOK G) : n_CS l w 2 mX12_card G (hX12_card N) := fun T as M k r h => by
  obtain ⟨t0, rfl, h1⟩ := n_pC_x h
  obtain ⟨z1, t1, rfl, h2⟩ := n_pI_x h1
  obtain ⟨z2, t2, rfl, h3⟩ := n_pI_x h2
  obtain ⟨rfl, hE⟩ := n_pE_x h3
  obtain ⟨p, hp, hk⟩ := Option.bind_eq_some_iff.mp hE
  exact ⟨_, _, eX12_card N hG z1 z2 M p hp, hk⟩
/-! ===== SleightHouse.box(II)I ===== -/
def mX11_box : nY := (RX11, yX11_box, cX11_box, 3, some .int)
theorem okX11_box : n_MOK mX11_box 2 := ⟨w_1169, w_137, ⟨by decide +kernel, by decide +kernel, by decide +kernel⟩, by decide⟩
abbrev aX11_box (G : nG) : List (Nat × nO (Int32 × nM)) := [(0, o_iload 1 1), (1, o_push (.int (-1 : Int32)) 2), (2, oc_ne 19 5), (5, o_aload 0 6), (6, o_gRc 1 2 9), (9, o_gRc 2 28 12), (12, o_gRc 28 33 15), (15, o_callVc 33 0 (hX7_clear G) 18), (18, o_iret), (19, o_iload 1 20), (20, o_push (.int (1 : Int32)) 21), (21, o_push (.int (30 : Int32)) 23), (23, o_call 3 (hX11_within) 26), (26, oi_eq 39 29), (29, o_iload 2 30), (30, o_push (.int (1 : Int32)) 31), (31, o_push (.int (30 : Int32)) 33), (33, o_call 3 (hX11_within) 36), (36, oi_ne 41 39), (39, o_push (.int (-1 : Int32)) 40), (40, o_iret), (41, o_aload 0 42), (42, o_gRc 1 2 45), (45, o_gRc 2 28 48), (48, o_gRc 28 33 51), (51, o_iload 1 52), (52, o_iload 2 53), (53, o_mmin 56), (56, o_iload 1 57), (57, o_iload 2 58), (58, o_mmax 61), (61, o_push (.int (0 : Int32)) 62), (62, o_push (.int (0 : Int32)) 63), (63, o_callVc 33 4 (hX7_add G) 66), (66, o_iret)]
set_option maxRecDepth 200000 in
theorem iX11_box {l : Launch} {w : nW} {G : nG} (hG : n_GOK G) : n_AllS l w 2 mX11_box G (n_fin dv_i G) (aX11_box G) :=
  n_c (s_iload_n (pc := 0) (k := 1) (by decide +kernel)) <|
  n_c (s_iconst (pc := 1) (n := -1) (by decide +kernel) (by decide +kernel)) <|
  n_c (s_icmp_ne (pc := 2) (off := 17) (by decide +kernel) (by decide +kernel)) <|
  n_c (s_aload_n (pc := 5) (k := 0) (by decide +kernel)) <|
  n_c (s_gRc (s_getR (pc := 6) (ci := 11) (k := 0) (idx := 10) nok11 (by decide) rfl (by decide +kernel) w_572) (gk1 hG) (gm1_0 hG)) <|
  n_c (s_gRc (s_getR (pc := 9) (ci := 1) (k := 7) (idx := 56) nok1 (by decide) rfl (by decide +kernel) w_421) (gk2 hG) (gm2_7 hG)) <|
  n_c (s_gRc (s_getR (pc := 12) (ci := 10) (k := 2) (idx := 311) nok10 (by decide) rfl (by decide +kernel) w_365) (gk28 hG) (gm28_2 hG)) <|
  n_c (s_callVc (s_callV (pc := 15) (csX7_clear) (by decide) okX7_clear nok7 w_962 w_963 w_1129 (by decide +kernel)) (gk33 hG)) <|
  n_c (s_iret (pc := 18) rfl (by decide +kernel)) <|
  n_c (s_iload_n (pc := 19) (k := 1) (by decide +kernel)) <|
  n_c (s_iconst (pc := 20) (n := 1) (by decide +kernel) (by decide +kernel)) <|
  n_c (s_bipush (pc := 21) (n := 30) (by decide +kernel) (by decide +kernel)) <|
  n_c (s_callS (pc := 23) (csX11_within) (by decide) okX11_within w_610 w_609 (by decide +kernel)) <|
  n_c (s_if_eq (pc := 26) (off := 13) (by decide +kernel) (by decide +kernel)) <|
  n_c (s_iload_n (pc := 29) (k := 2) (by decide +kernel)) <|
  n_c (s_iconst (pc := 30) (n := 1) (by decide +kernel) (by decide +kernel)) <|
  n_c (s_bipush (pc := 31) (n := 30) (by decide +kernel) (by decide +kernel)) <|
  n_c (s_callS (pc := 33) (csX11_within) (by decide) okX11_within w_610 w_609 (by decide +kernel)) <|
  n_c (s_if_ne (pc := 36) (off := 5) (by decide +kernel) (by decide +kernel)) <|
  n_c (s_iconst (pc := 39) (n := -1) (by decide +kernel) (by decide +kernel)) <|
  n_c (s_iret (pc := 40) rfl (by decide +kernel)) <|
  n_c (s_aload_n (pc := 41) (k := 0) (by decide +kernel)) <|
  n_c (s_gRc (s_getR (pc := 42) (ci := 11) (k := 0) (idx := 10) nok11 (by decide) rfl (by decide +kernel) w_572) (gk1 hG) (gm1_0 hG)) <|
  n_c (s_gRc (s_getR (pc := 45) (ci := 1) (k := 7) (idx := 56) nok1 (by decide) rfl (by decide +kernel) w_421) (gk2 hG) (gm2_7 hG)) <|
  n_c (s_gRc (s_getR (pc := 48) (ci := 10) (k := 2) (idx := 311) nok10 (by decide) rfl (by decide +kernel) w_365) (gk28 hG) (gm28_2 hG)) <|
  n_c (s_iload_n (pc := 51) (k := 1) (by decide +kernel)) <|
  n_c (s_iload_n (pc := 52) (k := 2) (by decide +kernel)) <|
  n_c (s_mmin (pc := 53) w_1170 w_298 w_143 w_299 (by decide +kernel)) <|
  n_c (s_iload_n (pc := 56) (k := 1) (by decide +kernel)) <|
  n_c (s_iload_n (pc := 57) (k := 2) (by decide +kernel)) <|
  n_c (s_mmax (pc := 58) w_1171 w_295 w_143 w_296 (by decide +kernel)) <|
  n_c (s_iconst (pc := 61) (n := 0) (by decide +kernel) (by decide +kernel)) <|
  n_c (s_iconst (pc := 62) (n := 0) (by decide +kernel) (by decide +kernel)) <|
  n_c (s_callVc (s_callV (pc := 63) (csX7_add) (by decide) okX7_add nok7 w_1030 w_1031 w_1130 (by decide +kernel)) (gk33 hG)) <|
  n_c (s_iret (pc := 66) rfl (by decide +kernel)) <|
  n_e
def fX11_box (G : nG) (x1 : Int32) (x2 : Int32) (M : nM) : Option (Int32 × nM) :=
  if ¬ x1 = (-1 : Int32) then
    (fX11_within x1 (1 : Int32) (30 : Int32) M).bind fun p1 =>
    if p1.1 = 0 then
      some ((-1 : Int32), p1.2)
    else
      (fX11_within x2 (1 : Int32) (30 : Int32) p1.2).bind fun p2 =>
      if ¬ p2.1 = 0 then
        (fX7_add G 33 (if x2 < x1 then x2 else x1) (if x1 < x2 then x2 else x1) (0 : Int32) (0 : Int32) p2.2).bind fun p3 =>
        some (p3.1, p3.2)
      else
        some ((-1 : Int32), p2.2)
  else
    (fX7_clear G 33 M).bind fun p4 =>
    some (p4.1, p4.2)
set_option maxRecDepth 200000 in
theorem bX11_box_0 {l : Launch} {w : nW} {G : nG} (hG : n_GOK G) (x1 : Int32) (x2 : Int32) (M : nM) (r : Int32 × nM) (h : fX11_box G x1 x2 M = some r) : n_At l w 2 mX11_box 0 [(0, .ref 1), (1, .int x1), (2, .int x2)] [] (G, M) (dv_i r.1, (G, r.2)) :=
  n_seg (fin := n_fin dv_i G) (K := []) 40 (iX11_box hG) n_ke (by rfl) h
theorem eX11_box {l : Launch} {w : nW} {G : nG} (hG : n_GOK G) (z1 : Int32) (z2 : Int32) (M : nM) (r : Int32 × nM) (h : fX11_box G z1 z2 M = some r) : n_Met l w 2 mX11_box [.ref 1, .int z1, .int z2] (G, M) (dv_i r.1, (G, r.2)) :=
  n_entry (by decide +kernel) rfl (Nat.le_of_ble_eq_true rfl) (n_sub (lv := [(0, .ref 1), (1, .int z1), (2, .int z2)]) (n_qc rfl (n_qc rfl (n_qc rfl n_qe))) (bX11_box_0 hG z1 z2 M r h))
abbrev hX11_box (G : nG) : nF := fun T as M k => n_pC 1 as (fun as => n_pI as (fun z1 as => n_pI as (fun z2 as => n_pE as ((fX11_box G z1 z2 M).bind fun p => k (dv_i p.1) p.2))))
theorem csX11_box {l : Launch} {w : nW} {G : nG} (hG : n_GOK G) : n_CS l w 2 mX11_box G (hX11_box G) := fun T as M k r h => by
  obtain ⟨t0, rfl, h1⟩ := n_pC_x h
  obtain ⟨z1, t1, rfl, h2⟩ := n_pI_x h1
  obtain ⟨z2, t2, rfl, h3⟩ := n_pI_x h2
  obtain ⟨rfl, hE⟩ := n_pE_x h3
  obtain ⟨p, hp, hk⟩ := Option.bind_eq_some_iff.mp hE
  exact ⟨_, _, eX11_box hG z1 z2 M p hp, hk⟩
/-! ===== SleightHouseModel.greater(II)I ===== -/
def mX12_greater : nY := (RX12, yX12_greater, cX12_greater, 3, some .int)
theorem okX12_greater : n_MOK mX12_greater 2 := ⟨w_2038, w_151, ⟨by decide +kernel, by decide +kernel, by decide +kernel⟩, by decide⟩
abbrev aX12_greater : List (Nat × nO (Int32 × nM)) := [(0, o_iload 1 1), (1, o_iload 2 2), (2, oc_le 9 5), (5, o_iload 1 6), (6, o_goto 10), (9, o_iload 2 10), (10, o_iret)]
set_option maxRecDepth 200000 in
theorem iX12_greater {l : Launch} {w : nW} {G : nG} : n_AllS l w 0 mX12_greater G (n_fin dv_i G) (aX12_greater) :=
  n_c (s_iload_n (pc := 0) (k := 1) (by decide +kernel)) <|
  n_c (s_iload_n (pc := 1) (k := 2) (by decide +kernel)) <|
  n_c (s_icmp_le (pc := 2) (off := 7) (by decide +kernel) (by decide +kernel)) <|
  n_c (s_iload_n (pc := 5) (k := 1) (by decide +kernel)) <|
  n_c (s_goto (pc := 6) (off := 4) (by decide +kernel) (by decide +kernel)) <|
  n_c (s_iload_n (pc := 9) (k := 2) (by decide +kernel)) <|
  n_c (s_iret (pc := 10) rfl (by decide +kernel)) <|
  n_e
def fX12_greater (x1 : Int32) (x2 : Int32) (M : nM) : Option (Int32 × nM) :=
  if x1 ≤ x2 then
    some (x2, M)
  else
    some (x1, M)
set_option maxRecDepth 200000 in
theorem bX12_greater_0 {l : Launch} {w : nW} {G : nG} (x1 : Int32) (x2 : Int32) (M : nM) (r : Int32 × nM) (h : fX12_greater x1 x2 M = some r) : n_At l w 0 mX12_greater 0 [(1, .int x1), (2, .int x2)] [] (G, M) (dv_i r.1, (G, r.2)) :=
  n_seg (fin := n_fin dv_i G) (K := []) 11 (iX12_greater) n_ke (by rfl) h
theorem eX12_greater {l : Launch} {w : nW} {G : nG} (z1 : Int32) (z2 : Int32) (M : nM) (r : Int32 × nM) (h : fX12_greater z1 z2 M = some r) : n_Met l w 0 mX12_greater [.ref 107, .int z1, .int z2] (G, M) (dv_i r.1, (G, r.2)) :=
  n_entry (by decide +kernel) rfl (Nat.le_of_ble_eq_true rfl) (n_sub (lv := [(0, .ref 107), (1, .int z1), (2, .int z2)]) (n_qc rfl (n_qc rfl n_qe)) (bX12_greater_0 z1 z2 M r h))
abbrev hX12_greater : nF := fun T as M k => n_pC 107 as (fun as => n_pI as (fun z1 as => n_pI as (fun z2 as => n_pE as ((fX12_greater z1 z2 M).bind fun p => k (dv_i p.1) p.2))))
theorem csX12_greater {l : Launch} {w : nW} {G : nG} : n_CS l w 0 mX12_greater G (hX12_greater) := fun T as M k r h => by
  obtain ⟨t0, rfl, h1⟩ := n_pC_x h
  obtain ⟨z1, t1, rfl, h2⟩ := n_pI_x h1
  obtain ⟨z2, t2, rfl, h3⟩ := n_pI_x h2
  obtain ⟨rfl, hE⟩ := n_pE_x h3
  obtain ⟨p, hp, hk⟩ := Option.bind_eq_some_iff.mp hE
  exact ⟨_, _, eX12_greater z1 z2 M p hp, hk⟩
