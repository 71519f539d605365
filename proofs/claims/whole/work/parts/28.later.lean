def mX6_claim : nY := (RX6, yX6_claim, cX6_claim, 4, some .boolean)
theorem okX6_claim : n_MOK mX6_claim 1 := ⟨w_1012, w_148, ⟨by decide +kernel, by decide +kernel, by decide +kernel⟩, by decide⟩
abbrev hrX6_claim (rf : Int32 → nM → Option (Int32 × nM)) : nF := fun T as M k => n_pC 80 as (fun as => n_pI as (fun z1 as => n_pE as ((rf z1 M).bind fun p => k (dv_i p.1) p.2)))
theorem csrX6_claim {l : Launch} {w : nW} {d : Nat} {G : nG} {rf : Int32 → nM → Option (Int32 × nM)} (hr : ∀ (z1 : Int32) (M : nM) (r : Int32 × nM), rf z1 M = some r → n_Met l w d mX6_claim [.ref 80, .int z1] (G, M) (dv_i r.1, (G, r.2))) : n_CS l w d mX6_claim G (hrX6_claim rf) := fun T as M k r h => by
  obtain ⟨t0, rfl, h1⟩ := n_pC_x h
  obtain ⟨z1, t1, rfl, h2⟩ := n_pI_x h1
  obtain ⟨rfl, hE⟩ := n_pE_x h2
  obtain ⟨p, hp, hk⟩ := Option.bind_eq_some_iff.mp hE
  exact ⟨_, _, hr z1 M p hp, hk⟩
def mX6_condition : nY := (RX6, yX6_condition, cX6_condition, 5, some .boolean)
theorem okX6_condition : n_MOK mX6_condition 1 := ⟨w_1008, w_148, ⟨by decide +kernel, by decide +kernel, by decide +kernel⟩, by decide⟩
abbrev hrX6_condition (rf : Int32 → nM → Option (Int32 × nM)) : nF := fun T as M k => n_pC 80 as (fun as => n_pI as (fun z1 as => n_pE as ((rf z1 M).bind fun p => k (dv_i p.1) p.2)))
theorem csrX6_condition {l : Launch} {w : nW} {d : Nat} {G : nG} {rf : Int32 → nM → Option (Int32 × nM)} (hr : ∀ (z1 : Int32) (M : nM) (r : Int32 × nM), rf z1 M = some r → n_Met l w d mX6_condition [.ref 80, .int z1] (G, M) (dv_i r.1, (G, r.2))) : n_CS l w d mX6_condition G (hrX6_condition rf) := fun T as M k r h => by
  obtain ⟨t0, rfl, h1⟩ := n_pC_x h
  obtain ⟨z1, t1, rfl, h2⟩ := n_pI_x h1
  obtain ⟨rfl, hE⟩ := n_pE_x h2
  obtain ⟨p, hp, hk⟩ := Option.bind_eq_some_iff.mp hE
  exact ⟨_, _, hr z1 M p hp, hk⟩
/-! ===== SleightHouse$Reader.claim(I)Z ===== -/
abbrev aX6_claim (N : Nat) (r0 : Int32 → nM → Option (Int32 × nM)) (r1 : Int32 → nM → Option (Int32 × nM)) : List (Nat × nO (Int32 × nM)) := [(0, o_aload 0 1), (1, o_gRc 80 82 4), (4, o_aload 0 5), (5, o_gIc 80 6 8), (8, o_aldc 82 401 9), (9, o_istore 4 2 10), (10, o_iload 2 11), (11, o_push (.int (145 : Int32)) 14), (14, oc_eq 23 17), (17, o_iload 2 18), (18, o_push (.int (40 : Int32)) 20), (20, oc_ne 93 23), (23, o_iload 1 24), (24, o_push (.int (8 : Int32)) 26), (26, oc_lt 35 29), (29, o_aload 0 30), (30, o_push (.int (3 : Int32)) 31), (31, o_callVc 80 1 (hX6_blame) 34), (34, o_zret), (35, o_aload 0 36), (36, o_callVc 80 0 (hX6_step) 39), (39, o_iload 2 40), (40, o_push (.int (40 : Int32)) 42), (42, oc_ne 70 45), (45, o_aload 0 46), (46, o_iload 1 47), (47, o_push (.int (1 : Int32)) 48), (48, o_iadd 49), (49, o_callVc 80 1 (hrX6_condition r1) 52), (52, oi_eq 68 55), (55, o_aload 0 56), (56, o_push (.int (41 : Int32)) 58), (58, o_callVc 80 1 (hX6_expect) 61), (61, oi_eq 68 64), (64, o_push (.int (1 : Int32)) 65), (65, o_goto 69), (68, o_push (.int (0 : Int32)) 69), (69, o_zret), (70, o_aload 0 71), (71, o_iload 1 72), (72, o_push (.int (1 : Int32)) 73), (73, o_iadd 74), (74, o_callVc 80 1 (hrX6_claim r0) 77), (77, oi_ne 82 80), (80, o_push (.int (0 : Int32)) 81), (81, o_zret), (82, o_aload 0 83), (83, o_gRc 80 85 86), (86, o_push (.int (3 : Int32)) 87), (87, o_push (.int (0 : Int32)) 88), (88, o_callVc 85 2 (hX3_emit) 91), (91, o_push (.int (1 : Int32)) 92), (92, o_zret), (93, o_aload 0 94), (94, o_callVc 80 0 (hX6_sum N) 97), (97, oi_ne 102 100), (100, o_push (.int (0 : Int32)) 101), (101, o_zret), (102, o_aload 0 103), (103, o_gRc 80 82 106), (106, o_aload 0 107), (107, o_gIc 80 6 110), (110, o_aldc 82 401 111), (111, o_istore 4 3 112), (112, o_iload 3 113), (113, o_push (.int (60 : Int32)) 115), (115, oc_eq 136 118), (118, o_iload 3 119), (119, o_push (.int (61 : Int32)) 121), (121, oc_eq 136 124), (124, o_iload 3 125), (125, o_push (.int (62 : Int32)) 127), (127, oc_eq 136 130), (130, o_aload 0 131), (131, o_push (.int (1 : Int32)) 132), (132, o_callVc 80 1 (hX6_blame) 135), (135, o_zret), (136, o_aload 0 137), (137, o_callVc 80 0 (hX6_step) 140), (140, o_aload 0 141), (141, o_callVc 80 0 (hX6_sum N) 144), (144, oi_ne 149 147), (147, o_push (.int (0 : Int32)) 148), (148, o_zret), (149, o_aload 0 150), (150, o_gRc 80 85 153), (153, o_iload 3 154), (154, o_push (.int (60 : Int32)) 156), (156, oc_ne 164 159), (159, o_push (.int (7 : Int32)) 161), (161, o_goto 177), (164, o_iload 3 165), (165, o_push (.int (61 : Int32)) 167), (167, oc_ne 175 170), (170, o_push (.int (8 : Int32)) 172), (172, o_goto 177), (175, o_push (.int (9 : Int32)) 177), (177, o_push (.int (0 : Int32)) 178), (178, o_callVc 85 2 (hX3_emit) 181), (181, o_push (.int (1 : Int32)) 182), (182, o_zret)]
set_option maxRecDepth 200000 in
theorem iX6_claim {l : Launch} {w : nW} {dd : Nat} (N : Nat) (r0 : Int32 → nM → Option (Int32 × nM)) (r1 : Int32 → nM → Option (Int32 × nM)) {G : nG} (hG : n_GOK G) (hr0 : ∀ (z1 : Int32) (M : nM) (r : Int32 × nM), r0 z1 M = some r → n_Met l w (dd + 3) mX6_claim [.ref 80, .int z1] (G, M) (dv_i r.1, (G, r.2))) (hr1 : ∀ (z1 : Int32) (M : nM) (r : Int32 × nM), r1 z1 M = some r → n_Met l w (dd + 3) mX6_condition [.ref 80, .int z1] (G, M) (dv_i r.1, (G, r.2))) : n_AllS l w (dd + 4) mX6_claim G (n_fin dv_i G) (aX6_claim N r0 r1) :=
  n_c (s_aload_n (pc := 0) (k := 0) (by decide +kernel)) <|
  n_c (s_gRc (s_getR (pc := 1) (ci := 6) (k := 2) (idx := 15) nok6 (by decide) rfl (by decide +kernel) w_488) (gk80 hG) (gm80_2 hG)) <|
  n_c (s_aload_n (pc := 4) (k := 0) (by decide +kernel)) <|
  n_c (s_gIc (s_getI (pc := 5) (ci := 6) (k := 6) (idx := 29) nok6 (by decide) rfl (by decide +kernel) w_492) (gk80 hG)) <|
  n_c (s_aldc (s_iaload (pc := 8) (by decide +kernel)) (gk82 hG) (gl82 hG)) <|
  n_c (s_istore_n (pc := 9) (k := 2) (by decide +kernel)) <|
  n_c (s_iload_n (pc := 10) (k := 2) (by decide +kernel)) <|
  n_c (s_sipush (pc := 11) (n := 145) (by decide +kernel) (by decide +kernel)) <|
  n_c (s_icmp_eq (pc := 14) (off := 9) (by decide +kernel) (by decide +kernel)) <|
  n_c (s_iload_n (pc := 17) (k := 2) (by decide +kernel)) <|
  n_c (s_bipush (pc := 18) (n := 40) (by decide +kernel) (by decide +kernel)) <|
  n_c (s_icmp_ne (pc := 20) (off := 73) (by decide +kernel) (by decide +kernel)) <|
  n_c (s_iload_n (pc := 23) (k := 1) (by decide +kernel)) <|
  n_c (s_bipush (pc := 24) (n := 8) (by decide +kernel) (by decide +kernel)) <|
  n_c (s_icmp_lt (pc := 26) (off := 9) (by decide +kernel) (by decide +kernel)) <|
  n_c (s_aload_n (pc := 29) (k := 0) (by decide +kernel)) <|
  n_c (s_iconst (pc := 30) (n := 3) (by decide +kernel) (by decide +kernel)) <|
  n_c (s_callVc (s_callV (pc := 31) (csX6_blame hG) (by omega) okX6_blame nok6 w_971 w_19 w_969 (by decide +kernel)) (gk80 hG)) <|
  n_c (s_zret (pc := 34) rfl (by decide +kernel)) <|
  n_c (s_aload_n (pc := 35) (k := 0) (by decide +kernel)) <|
  n_c (s_callVc (s_callV (pc := 36) (csX6_step hG) (by omega) okX6_step nok6 w_983 w_21 w_981 (by decide +kernel)) (gk80 hG)) <|
  n_c (s_iload_n (pc := 39) (k := 2) (by decide +kernel)) <|
  n_c (s_bipush (pc := 40) (n := 40) (by decide +kernel) (by decide +kernel)) <|
  n_c (s_icmp_ne (pc := 42) (off := 28) (by decide +kernel) (by decide +kernel)) <|
  n_c (s_aload_n (pc := 45) (k := 0) (by decide +kernel)) <|
  n_c (s_iload_n (pc := 46) (k := 1) (by decide +kernel)) <|
  n_c (s_iconst (pc := 47) (n := 1) (by decide +kernel) (by decide +kernel)) <|
  n_c (s_iadd (pc := 48) (by decide +kernel)) <|
  n_c (s_callVc (s_callV (pc := 49) (csrX6_condition hr1) (by omega) okX6_condition nok6 w_1007 w_25 w_1005 (by decide +kernel)) (gk80 hG)) <|
  n_c (s_if_eq (pc := 52) (off := 16) (by decide +kernel) (by decide +kernel)) <|
  n_c (s_aload_n (pc := 55) (k := 0) (by decide +kernel)) <|
  n_c (s_bipush (pc := 56) (n := 41) (by decide +kernel) (by decide +kernel)) <|
  n_c (s_callVc (s_callV (pc := 58) (csX6_expect hG) (by omega) okX6_expect nok6 w_1015 w_27 w_1013 (by decide +kernel)) (gk80 hG)) <|
  n_c (s_if_eq (pc := 61) (off := 7) (by decide +kernel) (by decide +kernel)) <|
  n_c (s_iconst (pc := 64) (n := 1) (by decide +kernel) (by decide +kernel)) <|
  n_c (s_goto (pc := 65) (off := 4) (by decide +kernel) (by decide +kernel)) <|
  n_c (s_iconst (pc := 68) (n := 0) (by decide +kernel) (by decide +kernel)) <|
  n_c (s_zret (pc := 69) rfl (by decide +kernel)) <|
  n_c (s_aload_n (pc := 70) (k := 0) (by decide +kernel)) <|
  n_c (s_iload_n (pc := 71) (k := 1) (by decide +kernel)) <|
  n_c (s_iconst (pc := 72) (n := 1) (by decide +kernel) (by decide +kernel)) <|
  n_c (s_iadd (pc := 73) (by decide +kernel)) <|
  n_c (s_callVc (s_callV (pc := 74) (csrX6_claim hr0) (by omega) okX6_claim nok6 w_1011 w_26 w_1009 (by decide +kernel)) (gk80 hG)) <|
  n_c (s_if_ne (pc := 77) (off := 5) (by decide +kernel) (by decide +kernel)) <|
  n_c (s_iconst (pc := 80) (n := 0) (by decide +kernel) (by decide +kernel)) <|
  n_c (s_zret (pc := 81) rfl (by decide +kernel)) <|
  n_c (s_aload_n (pc := 82) (k := 0) (by decide +kernel)) <|
  n_c (s_gRc (s_getR (pc := 83) (ci := 6) (k := 7) (idx := 35) nok6 (by decide) rfl (by decide +kernel) w_493) (gk80 hG) (gm80_7 hG)) <|
  n_c (s_iconst (pc := 86) (n := 3) (by decide +kernel) (by decide +kernel)) <|
  n_c (s_iconst (pc := 87) (n := 0) (by decide +kernel) (by decide +kernel)) <|
  n_c (s_callVc (s_callV (pc := 88) (csX3_emit hG) (by omega) okX3_emit nok3 w_994 w_995 w_993 (by decide +kernel)) (gk85 hG)) <|
  n_c (s_iconst (pc := 91) (n := 1) (by decide +kernel) (by decide +kernel)) <|
  n_c (s_zret (pc := 92) rfl (by decide +kernel)) <|
  n_c (s_aload_n (pc := 93) (k := 0) (by decide +kernel)) <|
  n_c (s_callVc (s_callV (pc := 94) (csX6_sum N hG) (by omega) okX6_sum nok6 w_987 w_22 w_985 (by decide +kernel)) (gk80 hG)) <|
  n_c (s_if_ne (pc := 97) (off := 5) (by decide +kernel) (by decide +kernel)) <|
  n_c (s_iconst (pc := 100) (n := 0) (by decide +kernel) (by decide +kernel)) <|
  n_c (s_zret (pc := 101) rfl (by decide +kernel)) <|
  n_c (s_aload_n (pc := 102) (k := 0) (by decide +kernel)) <|
  n_c (s_gRc (s_getR (pc := 103) (ci := 6) (k := 2) (idx := 15) nok6 (by decide) rfl (by decide +kernel) w_488) (gk80 hG) (gm80_2 hG)) <|
  n_c (s_aload_n (pc := 106) (k := 0) (by decide +kernel)) <|
  n_c (s_gIc (s_getI (pc := 107) (ci := 6) (k := 6) (idx := 29) nok6 (by decide) rfl (by decide +kernel) w_492) (gk80 hG)) <|
  n_c (s_aldc (s_iaload (pc := 110) (by decide +kernel)) (gk82 hG) (gl82 hG)) <|
  n_c (s_istore_n (pc := 111) (k := 3) (by decide +kernel)) <|
  n_c (s_iload_n (pc := 112) (k := 3) (by decide +kernel)) <|
  n_c (s_bipush (pc := 113) (n := 60) (by decide +kernel) (by decide +kernel)) <|
  n_c (s_icmp_eq (pc := 115) (off := 21) (by decide +kernel) (by decide +kernel)) <|
  n_c (s_iload_n (pc := 118) (k := 3) (by decide +kernel)) <|
  n_c (s_bipush (pc := 119) (n := 61) (by decide +kernel) (by decide +kernel)) <|
  n_c (s_icmp_eq (pc := 121) (off := 15) (by decide +kernel) (by decide +kernel)) <|
  n_c (s_iload_n (pc := 124) (k := 3) (by decide +kernel)) <|
  n_c (s_bipush (pc := 125) (n := 62) (by decide +kernel) (by decide +kernel)) <|
  n_c (s_icmp_eq (pc := 127) (off := 9) (by decide +kernel) (by decide +kernel)) <|
  n_c (s_aload_n (pc := 130) (k := 0) (by decide +kernel)) <|
  n_c (s_iconst (pc := 131) (n := 1) (by decide +kernel) (by decide +kernel)) <|
  n_c (s_callVc (s_callV (pc := 132) (csX6_blame hG) (by omega) okX6_blame nok6 w_971 w_19 w_969 (by decide +kernel)) (gk80 hG)) <|
  n_c (s_zret (pc := 135) rfl (by decide +kernel)) <|
  n_c (s_aload_n (pc := 136) (k := 0) (by decide +kernel)) <|
  n_c (s_callVc (s_callV (pc := 137) (csX6_step hG) (by omega) okX6_step nok6 w_983 w_21 w_981 (by decide +kernel)) (gk80 hG)) <|
  n_c (s_aload_n (pc := 140) (k := 0) (by decide +kernel)) <|
  n_c (s_callVc (s_callV (pc := 141) (csX6_sum N hG) (by omega) okX6_sum nok6 w_987 w_22 w_985 (by decide +kernel)) (gk80 hG)) <|
  n_c (s_if_ne (pc := 144) (off := 5) (by decide +kernel) (by decide +kernel)) <|
  n_c (s_iconst (pc := 147) (n := 0) (by decide +kernel) (by decide +kernel)) <|
  n_c (s_zret (pc := 148) rfl (by decide +kernel)) <|
  n_c (s_aload_n (pc := 149) (k := 0) (by decide +kernel)) <|
  n_c (s_gRc (s_getR (pc := 150) (ci := 6) (k := 7) (idx := 35) nok6 (by decide) rfl (by decide +kernel) w_493) (gk80 hG) (gm80_7 hG)) <|
  n_c (s_iload_n (pc := 153) (k := 3) (by decide +kernel)) <|
  n_c (s_bipush (pc := 154) (n := 60) (by decide +kernel) (by decide +kernel)) <|
  n_c (s_icmp_ne (pc := 156) (off := 8) (by decide +kernel) (by decide +kernel)) <|
  n_c (s_bipush (pc := 159) (n := 7) (by decide +kernel) (by decide +kernel)) <|
  n_c (s_goto (pc := 161) (off := 16) (by decide +kernel) (by decide +kernel)) <|
  n_c (s_iload_n (pc := 164) (k := 3) (by decide +kernel)) <|
  n_c (s_bipush (pc := 165) (n := 61) (by decide +kernel) (by decide +kernel)) <|
  n_c (s_icmp_ne (pc := 167) (off := 8) (by decide +kernel) (by decide +kernel)) <|
  n_c (s_bipush (pc := 170) (n := 8) (by decide +kernel) (by decide +kernel)) <|
  n_c (s_goto (pc := 172) (off := 5) (by decide +kernel) (by decide +kernel)) <|
  n_c (s_bipush (pc := 175) (n := 9) (by decide +kernel) (by decide +kernel)) <|
  n_c (s_iconst (pc := 177) (n := 0) (by decide +kernel) (by decide +kernel)) <|
  n_c (s_callVc (s_callV (pc := 178) (csX3_emit hG) (by omega) okX3_emit nok3 w_994 w_995 w_993 (by decide +kernel)) (gk85 hG)) <|
  n_c (s_iconst (pc := 181) (n := 1) (by decide +kernel) (by decide +kernel)) <|
  n_c (s_zret (pc := 182) rfl (by decide +kernel)) <|
  n_e
def fX6_claim_23 (N : Nat) (r0 : Int32 → nM → Option (Int32 × nM)) (r1 : Int32 → nM → Option (Int32 × nM)) (x1 : Int32) (x2 : Int32) (M : nM) : Option (Int32 × nM) :=
  if x1 < (8 : Int32) then
    (fX6_step M).bind fun p1 =>
    if ¬ x2 = (40 : Int32) then
      (r0 (x1 + (1 : Int32)) p1.2).bind fun p2 =>
      if ¬ p2.1 = 0 then
        (fX3_emit (3 : Int32) (0 : Int32) p2.2).bind fun p3 =>
        some ((1 : Int32), p3.2)
      else
        some ((0 : Int32), p2.2)
    else
      (r1 (x1 + (1 : Int32)) p1.2).bind fun p4 =>
      if p4.1 = 0 then
        some ((0 : Int32), p4.2)
      else
        (fX6_expect (41 : Int32) p4.2).bind fun p5 =>
        if p5.1 = 0 then
          some ((0 : Int32), p5.2)
        else
          some ((1 : Int32), p5.2)
  else
    (fX6_blame (3 : Int32) M).bind fun p6 =>
    n_chk (p6.1 == 0 || p6.1 == 1) (some (p6.1, p6.2))
set_option maxRecDepth 200000 in
theorem bX6_claim_23 {l : Launch} {w : nW} {dd : Nat} (N : Nat) (r0 : Int32 → nM → Option (Int32 × nM)) (r1 : Int32 → nM → Option (Int32 × nM)) {G : nG} (hG : n_GOK G) (hr0 : ∀ (z1 : Int32) (M : nM) (r : Int32 × nM), r0 z1 M = some r → n_Met l w (dd + 3) mX6_claim [.ref 80, .int z1] (G, M) (dv_i r.1, (G, r.2))) (hr1 : ∀ (z1 : Int32) (M : nM) (r : Int32 × nM), r1 z1 M = some r → n_Met l w (dd + 3) mX6_condition [.ref 80, .int z1] (G, M) (dv_i r.1, (G, r.2))) (x1 : Int32) (x2 : Int32) (M : nM) (r : Int32 × nM) (h : fX6_claim_23 N r0 r1 x1 x2 M = some r) : n_At l w (dd + 4) mX6_claim 23 [(0, .ref 80), (1, .int x1), (2, .int x2)] [] (G, M) (dv_i r.1, (G, r.2)) :=
  n_seg (fin := n_fin dv_i G) (K := []) 47 (iX6_claim N r0 r1 hG hr0 hr1) n_ke (by rfl) h
def fX6_claim_177 (N : Nat) (r0 : Int32 → nM → Option (Int32 × nM)) (r1 : Int32 → nM → Option (Int32 × nM)) (s0 : Int32) (M : nM) : Option (Int32 × nM) :=
  (fX3_emit s0 (0 : Int32) M).bind fun p1 =>
  some ((1 : Int32), p1.2)
set_option maxRecDepth 200000 in
theorem bX6_claim_177 {l : Launch} {w : nW} {dd : Nat} (N : Nat) (r0 : Int32 → nM → Option (Int32 × nM)) (r1 : Int32 → nM → Option (Int32 × nM)) {G : nG} (hG : n_GOK G) (hr0 : ∀ (z1 : Int32) (M : nM) (r : Int32 × nM), r0 z1 M = some r → n_Met l w (dd + 3) mX6_claim [.ref 80, .int z1] (G, M) (dv_i r.1, (G, r.2))) (hr1 : ∀ (z1 : Int32) (M : nM) (r : Int32 × nM), r1 z1 M = some r → n_Met l w (dd + 3) mX6_condition [.ref 80, .int z1] (G, M) (dv_i r.1, (G, r.2))) (s0 : Int32) (M : nM) (r : Int32 × nM) (h : fX6_claim_177 N r0 r1 s0 M = some r) : n_At l w (dd + 4) mX6_claim 177 [] [.int s0, .ref 85] (G, M) (dv_i r.1, (G, r.2)) :=
  n_seg (fin := n_fin dv_i G) (K := []) 7 (iX6_claim N r0 r1 hG hr0 hr1) n_ke (by rfl) h
def fX6_claim_136 (N : Nat) (r0 : Int32 → nM → Option (Int32 × nM)) (r1 : Int32 → nM → Option (Int32 × nM)) (x3 : Int32) (M : nM) : Option (Int32 × nM) :=
  (fX6_step M).bind fun p1 =>
  (fX6_sum N p1.2).bind fun p2 =>
  if ¬ p2.1 = 0 then
    if ¬ x3 = (60 : Int32) then
      if ¬ x3 = (61 : Int32) then
        fX6_claim_177 N r0 r1 (9 : Int32) p2.2
      else
        fX6_claim_177 N r0 r1 (8 : Int32) p2.2
    else
      fX6_claim_177 N r0 r1 (7 : Int32) p2.2
  else
    some ((0 : Int32), p2.2)
set_option maxRecDepth 200000 in
theorem bX6_claim_136 {l : Launch} {w : nW} {dd : Nat} (N : Nat) (r0 : Int32 → nM → Option (Int32 × nM)) (r1 : Int32 → nM → Option (Int32 × nM)) {G : nG} (hG : n_GOK G) (hr0 : ∀ (z1 : Int32) (M : nM) (r : Int32 × nM), r0 z1 M = some r → n_Met l w (dd + 3) mX6_claim [.ref 80, .int z1] (G, M) (dv_i r.1, (G, r.2))) (hr1 : ∀ (z1 : Int32) (M : nM) (r : Int32 × nM), r1 z1 M = some r → n_Met l w (dd + 3) mX6_condition [.ref 80, .int z1] (G, M) (dv_i r.1, (G, r.2))) (x3 : Int32) (M : nM) (r : Int32 × nM) (h : fX6_claim_136 N r0 r1 x3 M = some r) : n_At l w (dd + 4) mX6_claim 136 [(0, .ref 80), (3, .int x3)] [] (G, M) (dv_i r.1, (G, r.2)) :=
  n_seg (fin := n_fin dv_i G) (K := [(177, fun lv st M => n_pI st (fun s0 st => n_pC 85 st (fun st => n_pE st (fX6_claim_177 N r0 r1 s0 M))))]) 23 (iX6_claim N r0 r1 hG hr0 hr1) (n_kc (fun lv st M r h => by
      obtain ⟨s0, t0, rfl, h1⟩ := n_pI_x h
      obtain ⟨t1, rfl, h2⟩ := n_pC_x h1
      obtain ⟨rfl, h3⟩ := n_pE_x h2
      exact n_sub n_qe (bX6_claim_177 N r0 r1 hG hr0 hr1 s0 M r h3)) n_ke) (by rfl) h
def fX6_claim (N : Nat) (r0 : Int32 → nM → Option (Int32 × nM)) (r1 : Int32 → nM → Option (Int32 × nM)) (x1 : Int32) (M : nM) : Option (Int32 × nM) :=
  n_chk (n_ib 401 (M 80 6)) <|
  let v1 : Int32 := (M 82 (M 80 6).toNatClampNeg)
  if v1 = (145 : Int32) then
    fX6_claim_23 N r0 r1 x1 v1 M
  else
    if ¬ v1 = (40 : Int32) then
      (fX6_sum N M).bind fun p2 =>
      if ¬ p2.1 = 0 then
        n_chk (n_ib 401 (p2.2 80 6)) <|
        let v3 : Int32 := (p2.2 82 (p2.2 80 6).toNatClampNeg)
        if v3 = (60 : Int32) then
          fX6_claim_136 N r0 r1 v3 p2.2
        else
          if v3 = (61 : Int32) then
            fX6_claim_136 N r0 r1 v3 p2.2
          else
            if v3 = (62 : Int32) then
              fX6_claim_136 N r0 r1 v3 p2.2
            else
              (fX6_blame (1 : Int32) p2.2).bind fun p4 =>
              n_chk (p4.1 == 0 || p4.1 == 1) (some (p4.1, p4.2))
      else
        some ((0 : Int32), p2.2)
    else
      fX6_claim_23 N r0 r1 x1 v1 M
set_option maxRecDepth 200000 in
theorem bX6_claim_0 {l : Launch} {w : nW} {dd : Nat} (N : Nat) (r0 : Int32 → nM → Option (Int32 × nM)) (r1 : Int32 → nM → Option (Int32 × nM)) {G : nG} (hG : n_GOK G) (hr0 : ∀ (z1 : Int32) (M : nM) (r : Int32 × nM), r0 z1 M = some r → n_Met l w (dd + 3) mX6_claim [.ref 80, .int z1] (G, M) (dv_i r.1, (G, r.2))) (hr1 : ∀ (z1 : Int32) (M : nM) (r : Int32 × nM), r1 z1 M = some r → n_Met l w (dd + 3) mX6_condition [.ref 80, .int z1] (G, M) (dv_i r.1, (G, r.2))) (x1 : Int32) (M : nM) (r : Int32 × nM) (h : fX6_claim N r0 r1 x1 M = some r) : n_At l w (dd + 4) mX6_claim 0 [(0, .ref 80), (1, .int x1)] [] (G, M) (dv_i r.1, (G, r.2)) :=
  n_seg (fin := n_fin dv_i G) (K := [(23, fun lv st M => n_lC 80 lv 0 (n_lI lv 1 (fun x1 => n_lI lv 2 (fun x2 => n_pE st (fX6_claim_23 N r0 r1 x1 x2 M))))), (136, fun lv st M => n_lC 80 lv 0 (n_lI lv 3 (fun x3 => n_pE st (fX6_claim_136 N r0 r1 x3 M))))]) 39 (iX6_claim N r0 r1 hG hr0 hr1) (n_kc (fun lv st M r h => by
      obtain ⟨e0, h1⟩ := n_lC_x h
      obtain ⟨x1, e1, h2⟩ := n_lI_x h1
      obtain ⟨x2, e2, h3⟩ := n_lI_x h2
      obtain ⟨rfl, h4⟩ := n_pE_x h3
      exact n_sub (n_qc e0 (n_qc e1 (n_qc e2 n_qe))) (bX6_claim_23 N r0 r1 hG hr0 hr1 x1 x2 M r h4)) (n_kc (fun lv st M r h => by
      obtain ⟨e0, h1⟩ := n_lC_x h
      obtain ⟨x3, e3, h2⟩ := n_lI_x h1
      obtain ⟨rfl, h3⟩ := n_pE_x h2
      exact n_sub (n_qc e0 (n_qc e3 n_qe)) (bX6_claim_136 N r0 r1 hG hr0 hr1 x3 M r h3)) n_ke)) (by rfl) h
theorem eX6_claim {l : Launch} {w : nW} {dd : Nat} (N : Nat) (r0 : Int32 → nM → Option (Int32 × nM)) (r1 : Int32 → nM → Option (Int32 × nM)) {G : nG} (hG : n_GOK G) (hr0 : ∀ (z1 : Int32) (M : nM) (r : Int32 × nM), r0 z1 M = some r → n_Met l w (dd + 3) mX6_claim [.ref 80, .int z1] (G, M) (dv_i r.1, (G, r.2))) (hr1 : ∀ (z1 : Int32) (M : nM) (r : Int32 × nM), r1 z1 M = some r → n_Met l w (dd + 3) mX6_condition [.ref 80, .int z1] (G, M) (dv_i r.1, (G, r.2))) (z1 : Int32) (M : nM) (r : Int32 × nM) (h : fX6_claim N r0 r1 z1 M = some r) : n_Met l w (dd + 4) mX6_claim [.ref 80, .int z1] (G, M) (dv_i r.1, (G, r.2)) :=
  n_entry (by decide +kernel) rfl (Nat.le_of_ble_eq_true rfl) (n_sub (lv := [(0, .ref 80), (1, .int z1)]) (n_qc rfl (n_qc rfl n_qe)) (bX6_claim_0 N r0 r1 hG hr0 hr1 z1 M r h))
/-! ===== SleightHouse$Reader.condition(I)Z ===== -/
abbrev aX6_condition (N : Nat) (r0 : Int32 → nM → Option (Int32 × nM)) (r1 : Int32 → nM → Option (Int32 × nM)) : List (Nat × nO (Int32 × nM)) := [(0, o_push (.int (0 : Int32)) 1), (1, o_istore 5 2 2), (2, o_push (.int (0 : Int32)) 3), (3, o_istore 5 3 4), (4, o_push (.int (0 : Int32)) 5), (5, o_istore 5 4 7), (7, o_iload 4 9), (9, o_push (.int (400 : Int32)) 12), (12, oc_ge 107 15), (15, o_aload 0 16), (16, o_iload 1 17), (17, o_callVc 80 1 (hrX6_claim r0) 20), (20, oi_ne 25 23), (23, o_push (.int (0 : Int32)) 24), (24, o_zret), (25, o_iload 3 26), (26, oi_eq 39 29), (29, o_aload 0 30), (30, o_gRc 80 85 33), (33, o_push (.int (10 : Int32)) 35), (35, o_push (.int (0 : Int32)) 36), (36, o_callVc 85 2 (hX3_emit) 39), (39, o_aload 0 40), (40, o_gRc 80 82 43), (43, o_aload 0 44), (44, o_gIc 80 6 47), (47, o_aldc 82 401 48), (48, o_push (.int (144 : Int32)) 51), (51, oc_ne 58 54), (54, o_push (.int (1 : Int32)) 55), (55, o_goto 59), (58, o_push (.int (0 : Int32)) 59), (59, o_istore 5 3 60), (60, o_iload 3 61), (61, oi_ne 97 64), (64, o_iload 2 65), (65, oi_eq 78 68), (68, o_aload 0 69), (69, o_gRc 80 85 72), (72, o_push (.int (11 : Int32)) 74), (74, o_push (.int (0 : Int32)) 75), (75, o_callVc 85 2 (hX3_emit) 78), (78, o_aload 0 79), (79, o_gRc 80 82 82), (82, o_aload 0 83), (83, o_gIc 80 6 86), (86, o_aldc 82 401 87), (87, o_push (.int (143 : Int32)) 90), (90, oc_eq 95 93), (93, o_push (.int (1 : Int32)) 94), (94, o_zret), (95, o_push (.int (1 : Int32)) 96), (96, o_istore 5 2 97), (97, o_aload 0 98), (98, o_callVc 80 0 (hX6_step) 101), (101, o_inc 5 4 (1 : Int32) 104), (104, o_goto 7), (107, o_aload 0 108), (108, o_push (.int (1 : Int32)) 109), (109, o_callVc 80 1 (hX6_blame) 112), (112, o_zret)]
set_option maxRecDepth 200000 in
theorem iX6_condition {l : Launch} {w : nW} {dd : Nat} (N : Nat) (r0 : Int32 → nM → Option (Int32 × nM)) (r1 : Int32 → nM → Option (Int32 × nM)) {G : nG} (hG : n_GOK G) (hr0 : ∀ (z1 : Int32) (M : nM) (r : Int32 × nM), r0 z1 M = some r → n_Met l w (dd + 3) mX6_claim [.ref 80, .int z1] (G, M) (dv_i r.1, (G, r.2))) (hr1 : ∀ (z1 : Int32) (M : nM) (r : Int32 × nM), r1 z1 M = some r → n_Met l w (dd + 3) mX6_condition [.ref 80, .int z1] (G, M) (dv_i r.1, (G, r.2))) : n_AllS l w (dd + 4) mX6_condition G (n_fin dv_i G) (aX6_condition N r0 r1) :=
  n_c (s_iconst (pc := 0) (n := 0) (by decide +kernel) (by decide +kernel)) <|
  n_c (s_istore_n (pc := 1) (k := 2) (by decide +kernel)) <|
  n_c (s_iconst (pc := 2) (n := 0) (by decide +kernel) (by decide +kernel)) <|
  n_c (s_istore_n (pc := 3) (k := 3) (by decide +kernel)) <|
  n_c (s_iconst (pc := 4) (n := 0) (by decide +kernel) (by decide +kernel)) <|
  n_c (s_istore (pc := 5) (by decide +kernel)) <|
  n_c (s_iload (pc := 7) (by decide +kernel)) <|
  n_c (s_sipush (pc := 9) (n := 400) (by decide +kernel) (by decide +kernel)) <|
  n_c (s_icmp_ge (pc := 12) (off := 95) (by decide +kernel) (by decide +kernel)) <|
  n_c (s_aload_n (pc := 15) (k := 0) (by decide +kernel)) <|
  n_c (s_iload_n (pc := 16) (k := 1) (by decide +kernel)) <|
  n_c (s_callVc (s_callV (pc := 17) (csrX6_claim hr0) (by omega) okX6_claim nok6 w_1011 w_26 w_1009 (by decide +kernel)) (gk80 hG)) <|
  n_c (s_if_ne (pc := 20) (off := 5) (by decide +kernel) (by decide +kernel)) <|
  n_c (s_iconst (pc := 23) (n := 0) (by decide +kernel) (by decide +kernel)) <|
  n_c (s_zret (pc := 24) rfl (by decide +kernel)) <|
  n_c (s_iload_n (pc := 25) (k := 3) (by decide +kernel)) <|
  n_c (s_if_eq (pc := 26) (off := 13) (by decide +kernel) (by decide +kernel)) <|
  n_c (s_aload_n (pc := 29) (k := 0) (by decide +kernel)) <|
  n_c (s_gRc (s_getR (pc := 30) (ci := 6) (k := 7) (idx := 35) nok6 (by decide) rfl (by decide +kernel) w_493) (gk80 hG) (gm80_7 hG)) <|
  n_c (s_bipush (pc := 33) (n := 10) (by decide +kernel) (by decide +kernel)) <|
  n_c (s_iconst (pc := 35) (n := 0) (by decide +kernel) (by decide +kernel)) <|
  n_c (s_callVc (s_callV (pc := 36) (csX3_emit hG) (by omega) okX3_emit nok3 w_994 w_995 w_993 (by decide +kernel)) (gk85 hG)) <|
  n_c (s_aload_n (pc := 39) (k := 0) (by decide +kernel)) <|
  n_c (s_gRc (s_getR (pc := 40) (ci := 6) (k := 2) (idx := 15) nok6 (by decide) rfl (by decide +kernel) w_488) (gk80 hG) (gm80_2 hG)) <|
  n_c (s_aload_n (pc := 43) (k := 0) (by decide +kernel)) <|
  n_c (s_gIc (s_getI (pc := 44) (ci := 6) (k := 6) (idx := 29) nok6 (by decide) rfl (by decide +kernel) w_492) (gk80 hG)) <|
  n_c (s_aldc (s_iaload (pc := 47) (by decide +kernel)) (gk82 hG) (gl82 hG)) <|
  n_c (s_sipush (pc := 48) (n := 144) (by decide +kernel) (by decide +kernel)) <|
  n_c (s_icmp_ne (pc := 51) (off := 7) (by decide +kernel) (by decide +kernel)) <|
  n_c (s_iconst (pc := 54) (n := 1) (by decide +kernel) (by decide +kernel)) <|
  n_c (s_goto (pc := 55) (off := 4) (by decide +kernel) (by decide +kernel)) <|
  n_c (s_iconst (pc := 58) (n := 0) (by decide +kernel) (by decide +kernel)) <|
  n_c (s_istore_n (pc := 59) (k := 3) (by decide +kernel)) <|
  n_c (s_iload_n (pc := 60) (k := 3) (by decide +kernel)) <|
  n_c (s_if_ne (pc := 61) (off := 36) (by decide +kernel) (by decide +kernel)) <|
  n_c (s_iload_n (pc := 64) (k := 2) (by decide +kernel)) <|
  n_c (s_if_eq (pc := 65) (off := 13) (by decide +kernel) (by decide +kernel)) <|
  n_c (s_aload_n (pc := 68) (k := 0) (by decide +kernel)) <|
  n_c (s_gRc (s_getR (pc := 69) (ci := 6) (k := 7) (idx := 35) nok6 (by decide) rfl (by decide +kernel) w_493) (gk80 hG) (gm80_7 hG)) <|
  n_c (s_bipush (pc := 72) (n := 11) (by decide +kernel) (by decide +kernel)) <|
  n_c (s_iconst (pc := 74) (n := 0) (by decide +kernel) (by decide +kernel)) <|
  n_c (s_callVc (s_callV (pc := 75) (csX3_emit hG) (by omega) okX3_emit nok3 w_994 w_995 w_993 (by decide +kernel)) (gk85 hG)) <|
  n_c (s_aload_n (pc := 78) (k := 0) (by decide +kernel)) <|
  n_c (s_gRc (s_getR (pc := 79) (ci := 6) (k := 2) (idx := 15) nok6 (by decide) rfl (by decide +kernel) w_488) (gk80 hG) (gm80_2 hG)) <|
  n_c (s_aload_n (pc := 82) (k := 0) (by decide +kernel)) <|
  n_c (s_gIc (s_getI (pc := 83) (ci := 6) (k := 6) (idx := 29) nok6 (by decide) rfl (by decide +kernel) w_492) (gk80 hG)) <|
  n_c (s_aldc (s_iaload (pc := 86) (by decide +kernel)) (gk82 hG) (gl82 hG)) <|
  n_c (s_sipush (pc := 87) (n := 143) (by decide +kernel) (by decide +kernel)) <|
  n_c (s_icmp_eq (pc := 90) (off := 5) (by decide +kernel) (by decide +kernel)) <|
  n_c (s_iconst (pc := 93) (n := 1) (by decide +kernel) (by decide +kernel)) <|
  n_c (s_zret (pc := 94) rfl (by decide +kernel)) <|
  n_c (s_iconst (pc := 95) (n := 1) (by decide +kernel) (by decide +kernel)) <|
  n_c (s_istore_n (pc := 96) (k := 2) (by decide +kernel)) <|
  n_c (s_aload_n (pc := 97) (k := 0) (by decide +kernel)) <|
  n_c (s_callVc (s_callV (pc := 98) (csX6_step hG) (by omega) okX6_step nok6 w_983 w_21 w_981 (by decide +kernel)) (gk80 hG)) <|
  n_c (s_iinc (pc := 101) (n := 1) (by decide +kernel) (by decide +kernel)) <|
  n_c (s_goto (pc := 104) (off := -97) (by decide +kernel) (by decide +kernel)) <|
  n_c (s_aload_n (pc := 107) (k := 0) (by decide +kernel)) <|
  n_c (s_iconst (pc := 108) (n := 1) (by decide +kernel) (by decide +kernel)) <|
  n_c (s_callVc (s_callV (pc := 109) (csX6_blame hG) (by omega) okX6_blame nok6 w_971 w_19 w_969 (by decide +kernel)) (gk80 hG)) <|
  n_c (s_zret (pc := 112) rfl (by decide +kernel)) <|
  n_e
def fX6_condition_97 (N : Nat) (r0 : Int32 → nM → Option (Int32 × nM)) (r1 : Int32 → nM → Option (Int32 × nM)) (k7 : Int32 → Int32 → Int32 → Int32 → nM → Option (Int32 × nM)) (x1 : Int32) (x2 : Int32) (x3 : Int32) (x4 : Int32) (M : nM) : Option (Int32 × nM) :=
  (fX6_step M).bind fun p1 =>
  let v2 : Int32 := (x4 + (1 : Int32))
  k7 x1 x2 x3 v2 p1.2
set_option maxRecDepth 200000 in
theorem bX6_condition_97 {l : Launch} {w : nW} {dd : Nat} (N : Nat) (r0 : Int32 → nM → Option (Int32 × nM)) (r1 : Int32 → nM → Option (Int32 × nM)) {G : nG} (hG : n_GOK G) (hr0 : ∀ (z1 : Int32) (M : nM) (r : Int32 × nM), r0 z1 M = some r → n_Met l w (dd + 3) mX6_claim [.ref 80, .int z1] (G, M) (dv_i r.1, (G, r.2))) (hr1 : ∀ (z1 : Int32) (M : nM) (r : Int32 × nM), r1 z1 M = some r → n_Met l w (dd + 3) mX6_condition [.ref 80, .int z1] (G, M) (dv_i r.1, (G, r.2))) (k7 : Int32 → Int32 → Int32 → Int32 → nM → Option (Int32 × nM)) (hk7 : ∀ (x1 : Int32) (x2 : Int32) (x3 : Int32) (x4 : Int32) (M : nM) (r : Int32 × nM), k7 x1 x2 x3 x4 M = some r → n_At l w (dd + 4) mX6_condition 7 [(0, .ref 80), (1, .int x1), (2, .int x2), (3, .int x3), (4, .int x4)] [] (G, M) (dv_i r.1, (G, r.2))) (x1 : Int32) (x2 : Int32) (x3 : Int32) (x4 : Int32) (M : nM) (r : Int32 × nM) (h : fX6_condition_97 N r0 r1 k7 x1 x2 x3 x4 M = some r) : n_At l w (dd + 4) mX6_condition 97 [(0, .ref 80), (1, .int x1), (2, .int x2), (3, .int x3), (4, .int x4)] [] (G, M) (dv_i r.1, (G, r.2)) :=
  n_seg (fin := n_fin dv_i G) (K := [(7, fun lv st M => n_lC 80 lv 0 (n_lI lv 1 (fun x1 => n_lI lv 2 (fun x2 => n_lI lv 3 (fun x3 => n_lI lv 4 (fun x4 => n_pE st (k7 x1 x2 x3 x4 M)))))))]) 7 (iX6_condition N r0 r1 hG hr0 hr1) (n_kc (fun lv st M r h => by
      obtain ⟨e0, h1⟩ := n_lC_x h
      obtain ⟨x1, e1, h2⟩ := n_lI_x h1
      obtain ⟨x2, e2, h3⟩ := n_lI_x h2
      obtain ⟨x3, e3, h4⟩ := n_lI_x h3
      obtain ⟨x4, e4, h5⟩ := n_lI_x h4
      obtain ⟨rfl, h6⟩ := n_pE_x h5
      exact n_sub (n_qc e0 (n_qc e1 (n_qc e2 (n_qc e3 (n_qc e4 n_qe))))) (hk7 x1 x2 x3 x4 M r h6)) n_ke) (by rfl) h
def fX6_condition_78 (N : Nat) (r0 : Int32 → nM → Option (Int32 × nM)) (r1 : Int32 → nM → Option (Int32 × nM)) (k7 : Int32 → Int32 → Int32 → Int32 → nM → Option (Int32 × nM)) (x1 : Int32) (x3 : Int32) (x4 : Int32) (M : nM) : Option (Int32 × nM) :=
  n_chk (n_ib 401 (M 80 6)) <|
  if (M 82 (M 80 6).toNatClampNeg) = (143 : Int32) then
    fX6_condition_97 N r0 r1 k7 x1 (1 : Int32) x3 x4 M
  else
    some ((1 : Int32), M)
set_option maxRecDepth 200000 in
theorem bX6_condition_78 {l : Launch} {w : nW} {dd : Nat} (N : Nat) (r0 : Int32 → nM → Option (Int32 × nM)) (r1 : Int32 → nM → Option (Int32 × nM)) {G : nG} (hG : n_GOK G) (hr0 : ∀ (z1 : Int32) (M : nM) (r : Int32 × nM), r0 z1 M = some r → n_Met l w (dd + 3) mX6_claim [.ref 80, .int z1] (G, M) (dv_i r.1, (G, r.2))) (hr1 : ∀ (z1 : Int32) (M : nM) (r : Int32 × nM), r1 z1 M = some r → n_Met l w (dd + 3) mX6_condition [.ref 80, .int z1] (G, M) (dv_i r.1, (G, r.2))) (k7 : Int32 → Int32 → Int32 → Int32 → nM → Option (Int32 × nM)) (hk7 : ∀ (x1 : Int32) (x2 : Int32) (x3 : Int32) (x4 : Int32) (M : nM) (r : Int32 × nM), k7 x1 x2 x3 x4 M = some r → n_At l w (dd + 4) mX6_condition 7 [(0, .ref 80), (1, .int x1), (2, .int x2), (3, .int x3), (4, .int x4)] [] (G, M) (dv_i r.1, (G, r.2))) (x1 : Int32) (x3 : Int32) (x4 : Int32) (M : nM) (r : Int32 × nM) (h : fX6_condition_78 N r0 r1 k7 x1 x3 x4 M = some r) : n_At l w (dd + 4) mX6_condition 78 [(0, .ref 80), (1, .int x1), (3, .int x3), (4, .int x4)] [] (G, M) (dv_i r.1, (G, r.2)) :=
  n_seg (fin := n_fin dv_i G) (K := [(97, fun lv st M => n_lC 80 lv 0 (n_lI lv 1 (fun x1 => n_lI lv 2 (fun x2 => n_lI lv 3 (fun x3 => n_lI lv 4 (fun x4 => n_pE st (fX6_condition_97 N r0 r1 k7 x1 x2 x3 x4 M)))))))]) 14 (iX6_condition N r0 r1 hG hr0 hr1) (n_kc (fun lv st M r h => by
      obtain ⟨e0, h1⟩ := n_lC_x h
      obtain ⟨x1, e1, h2⟩ := n_lI_x h1
      obtain ⟨x2, e2, h3⟩ := n_lI_x h2
      obtain ⟨x3, e3, h4⟩ := n_lI_x h3
      obtain ⟨x4, e4, h5⟩ := n_lI_x h4
      obtain ⟨rfl, h6⟩ := n_pE_x h5
      exact n_sub (n_qc e0 (n_qc e1 (n_qc e2 (n_qc e3 (n_qc e4 n_qe))))) (bX6_condition_97 N r0 r1 hG hr0 hr1 k7 hk7 x1 x2 x3 x4 M r h6)) n_ke) (by rfl) h
def fX6_condition_59 (N : Nat) (r0 : Int32 → nM → Option (Int32 × nM)) (r1 : Int32 → nM → Option (Int32 × nM)) (k7 : Int32 → Int32 → Int32 → Int32 → nM → Option (Int32 × nM)) (x1 : Int32) (x2 : Int32) (x4 : Int32) (s0 : Int32) (M : nM) : Option (Int32 × nM) :=
  if ¬ s0 = 0 then
    fX6_condition_97 N r0 r1 k7 x1 x2 s0 x4 M
  else
    if x2 = 0 then
      fX6_condition_78 N r0 r1 k7 x1 s0 x4 M
    else
      (fX3_emit (11 : Int32) (0 : Int32) M).bind fun p1 =>
      fX6_condition_78 N r0 r1 k7 x1 s0 x4 p1.2
set_option maxRecDepth 200000 in
theorem bX6_condition_59 {l : Launch} {w : nW} {dd : Nat} (N : Nat) (r0 : Int32 → nM → Option (Int32 × nM)) (r1 : Int32 → nM → Option (Int32 × nM)) {G : nG} (hG : n_GOK G) (hr0 : ∀ (z1 : Int32) (M : nM) (r : Int32 × nM), r0 z1 M = some r → n_Met l w (dd + 3) mX6_claim [.ref 80, .int z1] (G, M) (dv_i r.1, (G, r.2))) (hr1 : ∀ (z1 : Int32) (M : nM) (r : Int32 × nM), r1 z1 M = some r → n_Met l w (dd + 3) mX6_condition [.ref 80, .int z1] (G, M) (dv_i r.1, (G, r.2))) (k7 : Int32 → Int32 → Int32 → Int32 → nM → Option (Int32 × nM)) (hk7 : ∀ (x1 : Int32) (x2 : Int32) (x3 : Int32) (x4 : Int32) (M : nM) (r : Int32 × nM), k7 x1 x2 x3 x4 M = some r → n_At l w (dd + 4) mX6_condition 7 [(0, .ref 80), (1, .int x1), (2, .int x2), (3, .int x3), (4, .int x4)] [] (G, M) (dv_i r.1, (G, r.2))) (x1 : Int32) (x2 : Int32) (x4 : Int32) (s0 : Int32) (M : nM) (r : Int32 × nM) (h : fX6_condition_59 N r0 r1 k7 x1 x2 x4 s0 M = some r) : n_At l w (dd + 4) mX6_condition 59 [(0, .ref 80), (1, .int x1), (2, .int x2), (4, .int x4)] [.int s0] (G, M) (dv_i r.1, (G, r.2)) :=
  n_seg (fin := n_fin dv_i G) (K := [(78, fun lv st M => n_lC 80 lv 0 (n_lI lv 1 (fun x1 => n_lI lv 3 (fun x3 => n_lI lv 4 (fun x4 => n_pE st (fX6_condition_78 N r0 r1 k7 x1 x3 x4 M)))))), (97, fun lv st M => n_lC 80 lv 0 (n_lI lv 1 (fun x1 => n_lI lv 2 (fun x2 => n_lI lv 3 (fun x3 => n_lI lv 4 (fun x4 => n_pE st (fX6_condition_97 N r0 r1 k7 x1 x2 x3 x4 M)))))))]) 13 (iX6_condition N r0 r1 hG hr0 hr1) (n_kc (fun lv st M r h => by
      obtain ⟨e0, h1⟩ := n_lC_x h
      obtain ⟨x1, e1, h2⟩ := n_lI_x h1
      obtain ⟨x3, e3, h3⟩ := n_lI_x h2
      obtain ⟨x4, e4, h4⟩ := n_lI_x h3
      obtain ⟨rfl, h5⟩ := n_pE_x h4
      exact n_sub (n_qc e0 (n_qc e1 (n_qc e3 (n_qc e4 n_qe)))) (bX6_condition_78 N r0 r1 hG hr0 hr1 k7 hk7 x1 x3 x4 M r h5)) (n_kc (fun lv st M r h => by
      obtain ⟨e0, h1⟩ := n_lC_x h
      obtain ⟨x1, e1, h2⟩ := n_lI_x h1
      obtain ⟨x2, e2, h3⟩ := n_lI_x h2
      obtain ⟨x3, e3, h4⟩ := n_lI_x h3
      obtain ⟨x4, e4, h5⟩ := n_lI_x h4
      obtain ⟨rfl, h6⟩ := n_pE_x h5
      exact n_sub (n_qc e0 (n_qc e1 (n_qc e2 (n_qc e3 (n_qc e4 n_qe))))) (bX6_condition_97 N r0 r1 hG hr0 hr1 k7 hk7 x1 x2 x3 x4 M r h6)) n_ke)) (by rfl) h
def fX6_condition_39 (N : Nat) (r0 : Int32 → nM → Option (Int32 × nM)) (r1 : Int32 → nM → Option (Int32 × nM)) (k7 : Int32 → Int32 → Int32 → Int32 → nM → Option (Int32 × nM)) (x1 : Int32) (x2 : Int32) (x4 : Int32) (M : nM) : Option (Int32 × nM) :=
  n_chk (n_ib 401 (M 80 6)) <|
  if ¬ (M 82 (M 80 6).toNatClampNeg) = (144 : Int32) then
    fX6_condition_59 N r0 r1 k7 x1 x2 x4 (0 : Int32) M
  else
    fX6_condition_59 N r0 r1 k7 x1 x2 x4 (1 : Int32) M
set_option maxRecDepth 200000 in
theorem bX6_condition_39 {l : Launch} {w : nW} {dd : Nat} (N : Nat) (r0 : Int32 → nM → Option (Int32 × nM)) (r1 : Int32 → nM → Option (Int32 × nM)) {G : nG} (hG : n_GOK G) (hr0 : ∀ (z1 : Int32) (M : nM) (r : Int32 × nM), r0 z1 M = some r → n_Met l w (dd + 3) mX6_claim [.ref 80, .int z1] (G, M) (dv_i r.1, (G, r.2))) (hr1 : ∀ (z1 : Int32) (M : nM) (r : Int32 × nM), r1 z1 M = some r → n_Met l w (dd + 3) mX6_condition [.ref 80, .int z1] (G, M) (dv_i r.1, (G, r.2))) (k7 : Int32 → Int32 → Int32 → Int32 → nM → Option (Int32 × nM)) (hk7 : ∀ (x1 : Int32) (x2 : Int32) (x3 : Int32) (x4 : Int32) (M : nM) (r : Int32 × nM), k7 x1 x2 x3 x4 M = some r → n_At l w (dd + 4) mX6_condition 7 [(0, .ref 80), (1, .int x1), (2, .int x2), (3, .int x3), (4, .int x4)] [] (G, M) (dv_i r.1, (G, r.2))) (x1 : Int32) (x2 : Int32) (x4 : Int32) (M : nM) (r : Int32 × nM) (h : fX6_condition_39 N r0 r1 k7 x1 x2 x4 M = some r) : n_At l w (dd + 4) mX6_condition 39 [(0, .ref 80), (1, .int x1), (2, .int x2), (4, .int x4)] [] (G, M) (dv_i r.1, (G, r.2)) :=
  n_seg (fin := n_fin dv_i G) (K := [(59, fun lv st M => n_lC 80 lv 0 (n_lI lv 1 (fun x1 => n_lI lv 2 (fun x2 => n_lI lv 4 (fun x4 => n_pI st (fun s0 st => n_pE st (fX6_condition_59 N r0 r1 k7 x1 x2 x4 s0 M)))))))]) 13 (iX6_condition N r0 r1 hG hr0 hr1) (n_kc (fun lv st M r h => by
      obtain ⟨e0, h1⟩ := n_lC_x h
      obtain ⟨x1, e1, h2⟩ := n_lI_x h1
      obtain ⟨x2, e2, h3⟩ := n_lI_x h2
      obtain ⟨x4, e4, h4⟩ := n_lI_x h3
      obtain ⟨s0, t0, rfl, h5⟩ := n_pI_x h4
      obtain ⟨rfl, h6⟩ := n_pE_x h5
      exact n_sub (n_qc e0 (n_qc e1 (n_qc e2 (n_qc e4 n_qe)))) (bX6_condition_59 N r0 r1 hG hr0 hr1 k7 hk7 x1 x2 x4 s0 M r h6)) n_ke) (by rfl) h
def fX6_condition_7 (N : Nat) (r0 : Int32 → nM → Option (Int32 × nM)) (r1 : Int32 → nM → Option (Int32 × nM)) : Nat → Int32 → Int32 → Int32 → Int32 → nM → Option (Int32 × nM)
  | 0, _, _, _, _, _ => none
  | n + 1, x1, x2, x3, x4, M =>
    if (400 : Int32) ≤ x4 then
      (fX6_blame (1 : Int32) M).bind fun p1 =>
      n_chk (p1.1 == 0 || p1.1 == 1) (some (p1.1, p1.2))
    else
      (r0 x1 M).bind fun p2 =>
      if ¬ p2.1 = 0 then
        if x3 = 0 then
          fX6_condition_39 N r0 r1 (fun x1 x2 x3 x4 M => fX6_condition_7 N r0 r1 n x1 x2 x3 x4 M) x1 x2 x4 p2.2
        else
          (fX3_emit (10 : Int32) (0 : Int32) p2.2).bind fun p3 =>
          fX6_condition_39 N r0 r1 (fun x1 x2 x3 x4 M => fX6_condition_7 N r0 r1 n x1 x2 x3 x4 M) x1 x2 x4 p3.2
      else
        some ((0 : Int32), p2.2)
set_option maxRecDepth 200000 in
theorem bX6_condition_7 {l : Launch} {w : nW} {dd : Nat} (N : Nat) (r0 : Int32 → nM → Option (Int32 × nM)) (r1 : Int32 → nM → Option (Int32 × nM)) {G : nG} (hG : n_GOK G) (hr0 : ∀ (z1 : Int32) (M : nM) (r : Int32 × nM), r0 z1 M = some r → n_Met l w (dd + 3) mX6_claim [.ref 80, .int z1] (G, M) (dv_i r.1, (G, r.2))) (hr1 : ∀ (z1 : Int32) (M : nM) (r : Int32 × nM), r1 z1 M = some r → n_Met l w (dd + 3) mX6_condition [.ref 80, .int z1] (G, M) (dv_i r.1, (G, r.2))) : ∀ (n : Nat) (x1 : Int32) (x2 : Int32) (x3 : Int32) (x4 : Int32) (M : nM) (r : Int32 × nM), fX6_condition_7 N r0 r1 n x1 x2 x3 x4 M = some r → n_At l w (dd + 4) mX6_condition 7 [(0, .ref 80), (1, .int x1), (2, .int x2), (3, .int x3), (4, .int x4)] [] (G, M) (dv_i r.1, (G, r.2)) := by
  intro n
  induction n with
  | zero => intro x1 x2 x3 x4 M r h; cases (show (none : Option (Int32 × nM)) = some r from h)
  | succ n ih =>
    intro x1 x2 x3 x4 M r h
    exact n_seg (fin := n_fin dv_i G) (K := [(39, fun lv st M => n_lC 80 lv 0 (n_lI lv 1 (fun x1 => n_lI lv 2 (fun x2 => n_lI lv 4 (fun x4 => n_pE st (fX6_condition_39 N r0 r1 (fun x1 x2 x3 x4 M => fX6_condition_7 N r0 r1 n x1 x2 x3 x4 M) x1 x2 x4 M))))))]) 23 (iX6_condition N r0 r1 hG hr0 hr1) (n_kc (fun lv st M r h => by
      obtain ⟨e0, h1⟩ := n_lC_x h
      obtain ⟨x1, e1, h2⟩ := n_lI_x h1
      obtain ⟨x2, e2, h3⟩ := n_lI_x h2
      obtain ⟨x4, e4, h4⟩ := n_lI_x h3
      obtain ⟨rfl, h5⟩ := n_pE_x h4
      exact n_sub (n_qc e0 (n_qc e1 (n_qc e2 (n_qc e4 n_qe)))) (bX6_condition_39 N r0 r1 hG hr0 hr1 (fun x1 x2 x3 x4 M => fX6_condition_7 N r0 r1 n x1 x2 x3 x4 M) ih x1 x2 x4 M r h5)) n_ke) (by rfl) h
def fX6_condition (N : Nat) (r0 : Int32 → nM → Option (Int32 × nM)) (r1 : Int32 → nM → Option (Int32 × nM)) (x1 : Int32) (M : nM) : Option (Int32 × nM) :=
  fX6_condition_7 N r0 r1 N x1 (0 : Int32) (0 : Int32) (0 : Int32) M
set_option maxRecDepth 200000 in
theorem bX6_condition_0 {l : Launch} {w : nW} {dd : Nat} (N : Nat) (r0 : Int32 → nM → Option (Int32 × nM)) (r1 : Int32 → nM → Option (Int32 × nM)) {G : nG} (hG : n_GOK G) (hr0 : ∀ (z1 : Int32) (M : nM) (r : Int32 × nM), r0 z1 M = some r → n_Met l w (dd + 3) mX6_claim [.ref 80, .int z1] (G, M) (dv_i r.1, (G, r.2))) (hr1 : ∀ (z1 : Int32) (M : nM) (r : Int32 × nM), r1 z1 M = some r → n_Met l w (dd + 3) mX6_condition [.ref 80, .int z1] (G, M) (dv_i r.1, (G, r.2))) (x1 : Int32) (M : nM) (r : Int32 × nM) (h : fX6_condition N r0 r1 x1 M = some r) : n_At l w (dd + 4) mX6_condition 0 [(0, .ref 80), (1, .int x1)] [] (G, M) (dv_i r.1, (G, r.2)) :=
  n_seg (fin := n_fin dv_i G) (K := [(7, fun lv st M => n_lC 80 lv 0 (n_lI lv 1 (fun x1 => n_lI lv 2 (fun x2 => n_lI lv 3 (fun x3 => n_lI lv 4 (fun x4 => n_pE st (fX6_condition_7 N r0 r1 N x1 x2 x3 x4 M)))))))]) 9 (iX6_condition N r0 r1 hG hr0 hr1) (n_kc (fun lv st M r h => by
      obtain ⟨e0, h1⟩ := n_lC_x h
      obtain ⟨x1, e1, h2⟩ := n_lI_x h1
      obtain ⟨x2, e2, h3⟩ := n_lI_x h2
      obtain ⟨x3, e3, h4⟩ := n_lI_x h3
      obtain ⟨x4, e4, h5⟩ := n_lI_x h4
      obtain ⟨rfl, h6⟩ := n_pE_x h5
      exact n_sub (n_qc e0 (n_qc e1 (n_qc e2 (n_qc e3 (n_qc e4 n_qe))))) (bX6_condition_7 N r0 r1 hG hr0 hr1 N x1 x2 x3 x4 M r h6)) n_ke) (by rfl) h
theorem eX6_condition {l : Launch} {w : nW} {dd : Nat} (N : Nat) (r0 : Int32 → nM → Option (Int32 × nM)) (r1 : Int32 → nM → Option (Int32 × nM)) {G : nG} (hG : n_GOK G) (hr0 : ∀ (z1 : Int32) (M : nM) (r : Int32 × nM), r0 z1 M = some r → n_Met l w (dd + 3) mX6_claim [.ref 80, .int z1] (G, M) (dv_i r.1, (G, r.2))) (hr1 : ∀ (z1 : Int32) (M : nM) (r : Int32 × nM), r1 z1 M = some r → n_Met l w (dd + 3) mX6_condition [.ref 80, .int z1] (G, M) (dv_i r.1, (G, r.2))) (z1 : Int32) (M : nM) (r : Int32 × nM) (h : fX6_condition N r0 r1 z1 M = some r) : n_Met l w (dd + 4) mX6_condition [.ref 80, .int z1] (G, M) (dv_i r.1, (G, r.2)) :=
  n_entry (by decide +kernel) rfl (Nat.le_of_ble_eq_true rfl) (n_sub (lv := [(0, .ref 80), (1, .int z1)]) (n_qc rfl (n_qc rfl n_qe)) (bX6_condition_0 N r0 r1 hG hr0 hr1 z1 M r h))
def fX6_claim_g (N : Nat) : Nat → Nat → Int32 → nM → Option (Int32 × nM)
  | 0, _, _, _ => none
  | n + 1, 0, z1, M => fX6_claim N (fun z1 M => fX6_claim_g N n 0 z1 M) (fun z1 M => fX6_claim_g N n 1 z1 M) z1 M
  | n + 1, _, z1, M => fX6_condition N (fun z1 M => fX6_claim_g N n 0 z1 M) (fun z1 M => fX6_claim_g N n 1 z1 M) z1 M
theorem efX6_claim_g {l : Launch} {w : nW} (N : Nat) {G : nG} (hG : n_GOK G) : ∀ (n : Nat), (∀ (z1 : Int32) (M : nM) (r : Int32 × nM), fX6_claim_g N n 0 z1 M = some r → n_Met l w (n + 3) mX6_claim [.ref 80, .int z1] (G, M) (dv_i r.1, (G, r.2))) ∧ (∀ (z1 : Int32) (M : nM) (r : Int32 × nM), fX6_claim_g N n 1 z1 M = some r → n_Met l w (n + 3) mX6_condition [.ref 80, .int z1] (G, M) (dv_i r.1, (G, r.2))) := by
  intro n
  induction n with
  | zero => exact ⟨(fun z1 M r h => nomatch (show (none : Option (Int32 × nM)) = some r from h)), (fun z1 M r h => nomatch (show (none : Option (Int32 × nM)) = some r from h))⟩
  | succ n ih =>
    have ed : n + 1 + 3 = n + 4 := by omega
    rw [ed]
    exact ⟨fun z1 M r h => eX6_claim N (fun z1 M => fX6_claim_g N n 0 z1 M) (fun z1 M => fX6_claim_g N n 1 z1 M) hG ih.1 ih.2 z1 M r h, fun z1 M r h => eX6_condition N (fun z1 M => fX6_claim_g N n 0 z1 M) (fun z1 M => fX6_claim_g N n 1 z1 M) hG ih.1 ih.2 z1 M r h⟩
def fX6_claim_f (N : Nat) (z1 : Int32) (M : nM) : Option (Int32 × nM) := fX6_claim_g N 420 0 z1 M
theorem csX6_claim_f {l : Launch} {w : nW} (N : Nat) {G : nG} (hG : n_GOK G) : n_CS l w 423 mX6_claim G (hrX6_claim (fX6_claim_f N)) := csrX6_claim (fun z1 M r h => (efX6_claim_g N hG 420).1 z1 M r h)
def fX6_condition_f (N : Nat) (z1 : Int32) (M : nM) : Option (Int32 × nM) := fX6_claim_g N 420 1 z1 M
theorem csX6_condition_f {l : Launch} {w : nW} (N : Nat) {G : nG} (hG : n_GOK G) : n_CS l w 423 mX6_condition G (hrX6_condition (fX6_condition_f N)) := csrX6_condition (fun z1 M r h => (efX6_claim_g N hG 420).2 z1 M r h)
/-! ===== SleightHouse$Reader.lawLine()Z ===== -/
def mX6_lawLine : nY := (RX6, yX6_lawLine, cX6_lawLine, 1, some .boolean)
theorem okX6_lawLine : n_MOK mX6_lawLine 0 := ⟨w_976, w_148, ⟨by decide +kernel, by decide +kernel, by decide +kernel⟩, by decide⟩
abbrev aX6_lawLine (N : Nat) : List (Nat × nO (Int32 × nM)) := [(0, o_aload 0 1), (1, o_gRc 80 85 4), (4, o_aload 0 5), (5, o_gRc 80 82 8), (8, o_aload 0 9), (9, o_gIc 80 6 12), (12, o_aldc 82 401 13), (13, o_push (.int (128 : Int32)) 16), (16, o_isub 17), (17, o_callVc 85 1 (hX3_begin) 20), (20, o_aload 0 21), (21, o_callVc 80 0 (hX6_step) 24), (24, o_aload 0 25), (25, o_callVc 80 0 (hX6_sum N) 28), (28, oi_ne 33 31), (31, o_push (.int (0 : Int32)) 32), (32, o_zret), (33, o_aload 0 34), (34, o_gRc 80 85 37), (37, o_callVc 85 0 (hX3_beginWhen) 40), (40, o_aload 0 41), (41, o_gRc 80 82 44), (44, o_aload 0 45), (45, o_gIc 80 6 48), (48, o_aldc 82 401 49), (49, o_push (.int (142 : Int32)) 52), (52, oc_ne 69 55), (55, o_aload 0 56), (56, o_callVc 80 0 (hX6_step) 59), (59, o_aload 0 60), (60, o_push (.int (0 : Int32)) 61), (61, o_callVc 80 1 (hrX6_condition (fX6_condition_f N)) 64), (64, oi_ne 69 67), (67, o_push (.int (0 : Int32)) 68), (68, o_zret), (69, o_aload 0 70), (70, o_gRc 80 85 73), (73, o_callVc 85 0 (hX3_finish) 76), (76, o_aload 0 77), (77, o_push (.int (59 : Int32)) 79), (79, o_callVc 80 1 (hX6_expect) 82), (82, o_zret)]
set_option maxRecDepth 200000 in
theorem iX6_lawLine {l : Launch} {w : nW} (N : Nat) {G : nG} (hG : n_GOK G) : n_AllS l w 424 mX6_lawLine G (n_fin dv_i G) (aX6_lawLine N) :=
  n_c (s_aload_n (pc := 0) (k := 0) (by decide +kernel)) <|
  n_c (s_gRc (s_getR (pc := 1) (ci := 6) (k := 7) (idx := 35) nok6 (by decide) rfl (by decide +kernel) w_493) (gk80 hG) (gm80_7 hG)) <|
  n_c (s_aload_n (pc := 4) (k := 0) (by decide +kernel)) <|
  n_c (s_gRc (s_getR (pc := 5) (ci := 6) (k := 2) (idx := 15) nok6 (by decide) rfl (by decide +kernel) w_488) (gk80 hG) (gm80_2 hG)) <|
  n_c (s_aload_n (pc := 8) (k := 0) (by decide +kernel)) <|
  n_c (s_gIc (s_getI (pc := 9) (ci := 6) (k := 6) (idx := 29) nok6 (by decide) rfl (by decide +kernel) w_492) (gk80 hG)) <|
  n_c (s_aldc (s_iaload (pc := 12) (by decide +kernel)) (gk82 hG) (gl82 hG)) <|
  n_c (s_sipush (pc := 13) (n := 128) (by decide +kernel) (by decide +kernel)) <|
  n_c (s_isub (pc := 16) (by decide +kernel)) <|
  n_c (s_callVc (s_callV (pc := 17) (csX3_begin hG) (by decide) okX3_begin nok3 w_978 w_979 w_977 (by decide +kernel)) (gk85 hG)) <|
  n_c (s_aload_n (pc := 20) (k := 0) (by decide +kernel)) <|
  n_c (s_callVc (s_callV (pc := 21) (csX6_step hG) (by decide) okX6_step nok6 w_983 w_21 w_981 (by decide +kernel)) (gk80 hG)) <|
  n_c (s_aload_n (pc := 24) (k := 0) (by decide +kernel)) <|
  n_c (s_callVc (s_callV (pc := 25) (csX6_sum N hG) (by decide) okX6_sum nok6 w_987 w_22 w_985 (by decide +kernel)) (gk80 hG)) <|
  n_c (s_if_ne (pc := 28) (off := 5) (by decide +kernel) (by decide +kernel)) <|
  n_c (s_iconst (pc := 31) (n := 0) (by decide +kernel) (by decide +kernel)) <|
  n_c (s_zret (pc := 32) rfl (by decide +kernel)) <|
  n_c (s_aload_n (pc := 33) (k := 0) (by decide +kernel)) <|
  n_c (s_gRc (s_getR (pc := 34) (ci := 6) (k := 7) (idx := 35) nok6 (by decide) rfl (by decide +kernel) w_493) (gk80 hG) (gm80_7 hG)) <|
  n_c (s_callVc (s_callV (pc := 37) (csX3_beginWhen hG) (by decide) okX3_beginWhen nok3 w_1002 w_1003 w_1001 (by decide +kernel)) (gk85 hG)) <|
  n_c (s_aload_n (pc := 40) (k := 0) (by decide +kernel)) <|
  n_c (s_gRc (s_getR (pc := 41) (ci := 6) (k := 2) (idx := 15) nok6 (by decide) rfl (by decide +kernel) w_488) (gk80 hG) (gm80_2 hG)) <|
  n_c (s_aload_n (pc := 44) (k := 0) (by decide +kernel)) <|
  n_c (s_gIc (s_getI (pc := 45) (ci := 6) (k := 6) (idx := 29) nok6 (by decide) rfl (by decide +kernel) w_492) (gk80 hG)) <|
  n_c (s_aldc (s_iaload (pc := 48) (by decide +kernel)) (gk82 hG) (gl82 hG)) <|
  n_c (s_sipush (pc := 49) (n := 142) (by decide +kernel) (by decide +kernel)) <|
  n_c (s_icmp_ne (pc := 52) (off := 17) (by decide +kernel) (by decide +kernel)) <|
  n_c (s_aload_n (pc := 55) (k := 0) (by decide +kernel)) <|
  n_c (s_callVc (s_callV (pc := 56) (csX6_step hG) (by decide) okX6_step nok6 w_983 w_21 w_981 (by decide +kernel)) (gk80 hG)) <|
  n_c (s_aload_n (pc := 59) (k := 0) (by decide +kernel)) <|
  n_c (s_iconst (pc := 60) (n := 0) (by decide +kernel) (by decide +kernel)) <|
  n_c (s_callVc (s_callV (pc := 61) (csX6_condition_f N hG) (by decide) okX6_condition nok6 w_1007 w_25 w_1005 (by decide +kernel)) (gk80 hG)) <|
  n_c (s_if_ne (pc := 64) (off := 5) (by decide +kernel) (by decide +kernel)) <|
  n_c (s_iconst (pc := 67) (n := 0) (by decide +kernel) (by decide +kernel)) <|
  n_c (s_zret (pc := 68) rfl (by decide +kernel)) <|
  n_c (s_aload_n (pc := 69) (k := 0) (by decide +kernel)) <|
  n_c (s_gRc (s_getR (pc := 70) (ci := 6) (k := 7) (idx := 35) nok6 (by decide) rfl (by decide +kernel) w_493) (gk80 hG) (gm80_7 hG)) <|
  n_c (s_callVc (s_callV (pc := 73) (csX3_finish hG) (by decide) okX3_finish nok3 w_1018 w_1019 w_1017 (by decide +kernel)) (gk85 hG)) <|
  n_c (s_aload_n (pc := 76) (k := 0) (by decide +kernel)) <|
  n_c (s_bipush (pc := 77) (n := 59) (by decide +kernel) (by decide +kernel)) <|
  n_c (s_callVc (s_callV (pc := 79) (csX6_expect hG) (by decide) okX6_expect nok6 w_1015 w_27 w_1013 (by decide +kernel)) (gk80 hG)) <|
  n_c (s_zret (pc := 82) rfl (by decide +kernel)) <|
  n_e
def fX6_lawLine_69 (N : Nat) (M : nM) : Option (Int32 × nM) :=
  (fX3_finish M).bind fun p1 =>
  (fX6_expect (59 : Int32) p1.2).bind fun p2 =>
  n_chk (p2.1 == 0 || p2.1 == 1) (some (p2.1, p2.2))
set_option maxRecDepth 200000 in
theorem bX6_lawLine_69 {l : Launch} {w : nW} (N : Nat) {G : nG} (hG : n_GOK G) (M : nM) (r : Int32 × nM) (h : fX6_lawLine_69 N M = some r) : n_At l w 424 mX6_lawLine 69 [(0, .ref 80)] [] (G, M) (dv_i r.1, (G, r.2)) :=
  n_seg (fin := n_fin dv_i G) (K := []) 10 (iX6_lawLine N hG) n_ke (by rfl) h
def fX6_lawLine (N : Nat) (M : nM) : Option (Int32 × nM) :=
  n_chk (n_ib 401 (M 80 6)) <|
  (fX3_begin ((M 82 (M 80 6).toNatClampNeg) - (128 : Int32)) M).bind fun p1 =>
  (fX6_step p1.2).bind fun p2 =>
  (fX6_sum N p2.2).bind fun p3 =>
  if ¬ p3.1 = 0 then
    (fX3_beginWhen p3.2).bind fun p4 =>
    n_chk (n_ib 401 (p4.2 80 6)) <|
    if ¬ (p4.2 82 (p4.2 80 6).toNatClampNeg) = (142 : Int32) then
      fX6_lawLine_69 N p4.2
    else
      (fX6_step p4.2).bind fun p5 =>
      (fX6_condition_f N (0 : Int32) p5.2).bind fun p6 =>
      if ¬ p6.1 = 0 then
        fX6_lawLine_69 N p6.2
      else
        some ((0 : Int32), p6.2)
  else
    some ((0 : Int32), p3.2)
set_option maxRecDepth 200000 in
theorem bX6_lawLine_0 {l : Launch} {w : nW} (N : Nat) {G : nG} (hG : n_GOK G) (M : nM) (r : Int32 × nM) (h : fX6_lawLine N M = some r) : n_At l w 424 mX6_lawLine 0 [(0, .ref 80)] [] (G, M) (dv_i r.1, (G, r.2)) :=
  n_seg (fin := n_fin dv_i G) (K := [(69, fun lv st M => n_lC 80 lv 0 (n_pE st (fX6_lawLine_69 N M)))]) 38 (iX6_lawLine N hG) (n_kc (fun lv st M r h => by
      obtain ⟨e0, h1⟩ := n_lC_x h
      obtain ⟨rfl, h2⟩ := n_pE_x h1
      exact n_sub (n_qc e0 n_qe) (bX6_lawLine_69 N hG M r h2)) n_ke) (by rfl) h
theorem eX6_lawLine {l : Launch} {w : nW} (N : Nat) {G : nG} (hG : n_GOK G) (M : nM) (r : Int32 × nM) (h : fX6_lawLine N M = some r) : n_Met l w 424 mX6_lawLine [.ref 80] (G, M) (dv_i r.1, (G, r.2)) :=
  n_entry (by decide +kernel) rfl (Nat.le_of_ble_eq_true rfl) (n_sub (lv := [(0, .ref 80)]) (n_qc rfl n_qe) (bX6_lawLine_0 N hG M r h))
abbrev hX6_lawLine (N : Nat) : nF := fun T as M k => n_pC 80 as (fun as => n_pE as ((fX6_lawLine N M).bind fun p => k (dv_i p.1) p.2))
theorem csX6_lawLine {l : Launch} {w : nW} (N : Nat) {G : nG} (hG : n_GOK G) : n_CS l w 424 mX6_lawLine G (hX6_lawLine N) := fun T as M k r h => by
  obtain ⟨t0, rfl, h1⟩ := n_pC_x h
  obtain ⟨rfl, hE⟩ := n_pE_x h1
  obtain ⟨p, hp, hk⟩ := Option.bind_eq_some_iff.mp hE
  exact ⟨_, _, eX6_lawLine N hG M p hp, hk⟩
/-! ===== SleightHouse$Reader.customKind()I ===== -/
def mX6_customKind : nY := (RX6, yX6_customKind, cX6_customKind, 1, some .int)
theorem okX6_customKind : n_MOK mX6_customKind 0 := ⟨w_1041, w_148, ⟨by decide +kernel, by decide +kernel, by decide +kernel⟩, by decide⟩
abbrev aX6_customKind : List (Nat × nO (Int32 × nM)) := [(0, o_aload 0 1), (1, o_gRc 80 82 4), (4, o_aload 0 5), (5, o_gIc 80 6 8), (8, o_aldc 82 401 9), (9, o_sw [((137 : Int32), 64), ((150 : Int32), 60), ((151 : Int32), 62), ((152 : Int32), 66), ((153 : Int32), 68)] 70), (60, o_push (.int (0 : Int32)) 61), (61, o_iret), (62, o_push (.int (1 : Int32)) 63), (63, o_iret), (64, o_push (.int (2 : Int32)) 65), (65, o_iret), (66, o_push (.int (3 : Int32)) 67), (67, o_iret), (68, o_push (.int (4 : Int32)) 69), (69, o_iret), (70, o_push (.int (-1 : Int32)) 71), (71, o_iret)]
set_option maxRecDepth 200000 in
theorem iX6_customKind {l : Launch} {w : nW} {G : nG} (hG : n_GOK G) : n_AllS l w 0 mX6_customKind G (n_fin dv_i G) (aX6_customKind) :=
  n_c (s_aload_n (pc := 0) (k := 0) (by decide +kernel)) <|
  n_c (s_gRc (s_getR (pc := 1) (ci := 6) (k := 2) (idx := 15) nok6 (by decide) rfl (by decide +kernel) w_488) (gk80 hG) (gm80_2 hG)) <|
  n_c (s_aload_n (pc := 4) (k := 0) (by decide +kernel)) <|
  n_c (s_gIc (s_getI (pc := 5) (ci := 6) (k := 6) (idx := 29) nok6 (by decide) rfl (by decide +kernel) w_492) (gk80 hG)) <|
  n_c (s_aldc (s_iaload (pc := 8) (by decide +kernel)) (gk82 hG) (gl82 hG)) <|
  n_c (s_lsw (pc := 9) (dflt := 61) (lps := #[(137, 55), (150, 51), (151, 53), (152, 57), (153, 59)]) (len := 51) (by decide +kernel) (by decide +kernel)) <|
  n_c (s_iconst (pc := 60) (n := 0) (by decide +kernel) (by decide +kernel)) <|
  n_c (s_iret (pc := 61) rfl (by decide +kernel)) <|
  n_c (s_iconst (pc := 62) (n := 1) (by decide +kernel) (by decide +kernel)) <|
  n_c (s_iret (pc := 63) rfl (by decide +kernel)) <|
  n_c (s_iconst (pc := 64) (n := 2) (by decide +kernel) (by decide +kernel)) <|
  n_c (s_iret (pc := 65) rfl (by decide +kernel)) <|
  n_c (s_iconst (pc := 66) (n := 3) (by decide +kernel) (by decide +kernel)) <|
  n_c (s_iret (pc := 67) rfl (by decide +kernel)) <|
  n_c (s_iconst (pc := 68) (n := 4) (by decide +kernel) (by decide +kernel)) <|
  n_c (s_iret (pc := 69) rfl (by decide +kernel)) <|
  n_c (s_iconst (pc := 70) (n := -1) (by decide +kernel) (by decide +kernel)) <|
  n_c (s_iret (pc := 71) rfl (by decide +kernel)) <|
  n_e
def fX6_customKind (M : nM) : Option (Int32 × nM) :=
  n_chk (n_ib 401 (M 80 6)) <|
  if (M 82 (M 80 6).toNatClampNeg) = (137 : Int32) then
    some ((2 : Int32), M)
  else
  if (M 82 (M 80 6).toNatClampNeg) = (150 : Int32) then
    some ((0 : Int32), M)
  else
  if (M 82 (M 80 6).toNatClampNeg) = (151 : Int32) then
    some ((1 : Int32), M)
  else
  if (M 82 (M 80 6).toNatClampNeg) = (152 : Int32) then
    some ((3 : Int32), M)
  else
  if (M 82 (M 80 6).toNatClampNeg) = (153 : Int32) then
    some ((4 : Int32), M)
  else
  some ((-1 : Int32), M)
set_option maxRecDepth 200000 in
theorem bX6_customKind_0 {l : Launch} {w : nW} {G : nG} (hG : n_GOK G) (M : nM) (r : Int32 × nM) (h : fX6_customKind M = some r) : n_At l w 0 mX6_customKind 0 [(0, .ref 80)] [] (G, M) (dv_i r.1, (G, r.2)) :=
  n_seg (fin := n_fin dv_i G) (K := []) 21 (iX6_customKind hG) n_ke (by rfl) h
theorem eX6_customKind {l : Launch} {w : nW} {G : nG} (hG : n_GOK G) (M : nM) (r : Int32 × nM) (h : fX6_customKind M = some r) : n_Met l w 0 mX6_customKind [.ref 80] (G, M) (dv_i r.1, (G, r.2)) :=
  n_entry (by decide +kernel) rfl (Nat.le_of_ble_eq_true rfl) (n_sub (lv := [(0, .ref 80)]) (n_qc rfl n_qe) (bX6_customKind_0 hG M r h))
abbrev hX6_customKind : nF := fun T as M k => n_pC 80 as (fun as => n_pE as ((fX6_customKind M).bind fun p => k (dv_i p.1) p.2))
theorem csX6_customKind {l : Launch} {w : nW} {G : nG} (hG : n_GOK G) : n_CS l w 0 mX6_customKind G (hX6_customKind) := fun T as M k r h => by
  obtain ⟨t0, rfl, h1⟩ := n_pC_x h
  obtain ⟨rfl, hE⟩ := n_pE_x h1
  obtain ⟨p, hp, hk⟩ := Option.bind_eq_some_iff.mp hE
  exact ⟨_, _, eX6_customKind hG M p hp, hk⟩
/-! ===== SleightHouse$Reader.customLine()Z ===== -/
def mX6_customLine : nY := (RX6, yX6_customLine, cX6_customLine, 6, some .boolean)
theorem okX6_customLine : n_MOK mX6_customLine 0 := ⟨w_1037, w_148, ⟨by decide +kernel, by decide +kernel, by decide +kernel⟩, by decide⟩
abbrev aX6_customLine (G : nG) : List (Nat × nO (Int32 × nM)) := [(0, o_aload 0 1), (1, o_callVc 80 0 (hX6_step) 4), (4, o_aload 0 5), (5, o_push (.int (1000 : Int32)) 8), (8, o_callVc 80 1 (hX6_numberBelow) 11), (11, o_istore 6 1 12), (12, o_iload 1 13), (13, o_push (.int (-1 : Int32)) 14), (14, oc_ne 19 17), (17, o_push (.int (0 : Int32)) 18), (18, o_zret), (19, o_aload 0 20), (20, o_callVc 80 0 (hX6_customKind) 23), (23, o_istore 6 2 24), (24, o_iload 2 25), (25, o_push (.int (-1 : Int32)) 26), (26, oc_ne 35 29), (29, o_aload 0 30), (30, o_push (.int (1 : Int32)) 31), (31, o_callVc 80 1 (hX6_blame) 34), (34, o_zret), (35, o_aload 0 36), (36, o_callVc 80 0 (hX6_step) 39), (39, o_iload 2 40), (40, o_push (.int (2 : Int32)) 41), (41, oc_eq 49 44), (44, o_iload 2 45), (45, o_push (.int (3 : Int32)) 46), (46, oc_ne 53 49), (49, o_push (.int (1 : Int32)) 50), (50, o_goto 54), (53, o_push (.int (0 : Int32)) 54), (54, o_istore 6 3 55), (55, o_aload 0 56), (56, o_iload 3 57), (57, oi_eq 65 60), (60, o_push (.int (12 : Int32)) 62), (62, o_goto 72), (65, o_aload 0 66), (66, o_gRc 80 3 69), (69, o_gIc 3 6 72), (72, o_callVc 80 1 (hX6_numberBelow) 75), (75, o_istore 6 4 77), (77, o_iload 4 79), (79, o_push (.int (-1 : Int32)) 80), (80, oc_ne 85 83), (83, o_push (.int (0 : Int32)) 84), (84, o_zret), (85, o_iload 2 86), (86, o_push (.int (4 : Int32)) 87), (87, oc_ne 99 90), (90, o_aload 0 91), (91, o_push (.int (12 : Int32)) 93), (93, o_callVc 80 1 (hX6_numberBelow) 96), (96, o_goto 100), (99, o_push (.int (0 : Int32)) 100), (100, o_istore 6 5 102), (102, o_iload 5 104), (104, o_push (.int (-1 : Int32)) 105), (105, oc_eq 117 108), (108, o_aload 0 109), (109, o_push (.int (59 : Int32)) 111), (111, o_callVc 80 1 (hX6_expect) 114), (114, oi_ne 119 117), (117, o_push (.int (0 : Int32)) 118), (118, o_zret), (119, o_aload 0 120), (120, o_gRc 80 91 123), (123, o_iload 1 124), (124, o_iload 2 125), (125, o_iload 4 127), (127, o_iload 5 129), (129, o_callVc 91 4 (hX7_add G) 132), (132, o_pop 133), (133, o_push (.int (1 : Int32)) 134), (134, o_zret)]
set_option maxRecDepth 200000 in
theorem iX6_customLine {l : Launch} {w : nW} {G : nG} (hG : n_GOK G) : n_AllS l w 2 mX6_customLine G (n_fin dv_i G) (aX6_customLine G) :=
  n_c (s_aload_n (pc := 0) (k := 0) (by decide +kernel)) <|
  n_c (s_callVc (s_callV (pc := 1) (csX6_step hG) (by decide) okX6_step nok6 w_983 w_21 w_981 (by decide +kernel)) (gk80 hG)) <|
  n_c (s_aload_n (pc := 4) (k := 0) (by decide +kernel)) <|
  n_c (s_sipush (pc := 5) (n := 1000) (by decide +kernel) (by decide +kernel)) <|
  n_c (s_callVc (s_callV (pc := 8) (csX6_numberBelow hG) (by decide) okX6_numberBelow nok6 w_1027 w_29 w_1025 (by decide +kernel)) (gk80 hG)) <|
  n_c (s_istore_n (pc := 11) (k := 1) (by decide +kernel)) <|
  n_c (s_iload_n (pc := 12) (k := 1) (by decide +kernel)) <|
  n_c (s_iconst (pc := 13) (n := -1) (by decide +kernel) (by decide +kernel)) <|
  n_c (s_icmp_ne (pc := 14) (off := 5) (by decide +kernel) (by decide +kernel)) <|
  n_c (s_iconst (pc := 17) (n := 0) (by decide +kernel) (by decide +kernel)) <|
  n_c (s_zret (pc := 18) rfl (by decide +kernel)) <|
  n_c (s_aload_n (pc := 19) (k := 0) (by decide +kernel)) <|
  n_c (s_callVc (s_callV (pc := 20) (csX6_customKind hG) (by decide) okX6_customKind nok6 w_1040 w_31 w_1038 (by decide +kernel)) (gk80 hG)) <|
  n_c (s_istore_n (pc := 23) (k := 2) (by decide +kernel)) <|
  n_c (s_iload_n (pc := 24) (k := 2) (by decide +kernel)) <|
  n_c (s_iconst (pc := 25) (n := -1) (by decide +kernel) (by decide +kernel)) <|
  n_c (s_icmp_ne (pc := 26) (off := 9) (by decide +kernel) (by decide +kernel)) <|
  n_c (s_aload_n (pc := 29) (k := 0) (by decide +kernel)) <|
  n_c (s_iconst (pc := 30) (n := 1) (by decide +kernel) (by decide +kernel)) <|
  n_c (s_callVc (s_callV (pc := 31) (csX6_blame hG) (by decide) okX6_blame nok6 w_971 w_19 w_969 (by decide +kernel)) (gk80 hG)) <|
  n_c (s_zret (pc := 34) rfl (by decide +kernel)) <|
  n_c (s_aload_n (pc := 35) (k := 0) (by decide +kernel)) <|
  n_c (s_callVc (s_callV (pc := 36) (csX6_step hG) (by decide) okX6_step nok6 w_983 w_21 w_981 (by decide +kernel)) (gk80 hG)) <|
  n_c (s_iload_n (pc := 39) (k := 2) (by decide +kernel)) <|
  n_c (s_iconst (pc := 40) (n := 2) (by decide +kernel) (by decide +kernel)) <|
  n_c (s_icmp_eq (pc := 41) (off := 8) (by decide +kernel) (by decide +kernel)) <|
  n_c (s_iload_n (pc := 44) (k := 2) (by decide +kernel)) <|
  n_c (s_iconst (pc := 45) (n := 3) (by decide +kernel) (by decide +kernel)) <|
  n_c (s_icmp_ne (pc := 46) (off := 7) (by decide +kernel) (by decide +kernel)) <|
  n_c (s_iconst (pc := 49) (n := 1) (by decide +kernel) (by decide +kernel)) <|
  n_c (s_goto (pc := 50) (off := 4) (by decide +kernel) (by decide +kernel)) <|
  n_c (s_iconst (pc := 53) (n := 0) (by decide +kernel) (by decide +kernel)) <|
  n_c (s_istore_n (pc := 54) (k := 3) (by decide +kernel)) <|
  n_c (s_aload_n (pc := 55) (k := 0) (by decide +kernel)) <|
  n_c (s_iload_n (pc := 56) (k := 3) (by decide +kernel)) <|
  n_c (s_if_eq (pc := 57) (off := 8) (by decide +kernel) (by decide +kernel)) <|
  n_c (s_bipush (pc := 60) (n := 12) (by decide +kernel) (by decide +kernel)) <|
  n_c (s_goto (pc := 62) (off := 10) (by decide +kernel) (by decide +kernel)) <|
  n_c (s_aload_n (pc := 65) (k := 0) (by decide +kernel)) <|
  n_c (s_gRc (s_getR (pc := 66) (ci := 6) (k := 0) (idx := 57) nok6 (by decide) rfl (by decide +kernel) w_486) (gk80 hG) (gm80_0 hG)) <|
  n_c (s_gIc (s_getI (pc := 69) (ci := 8) (k := 6) (idx := 137) nok8 (by decide) rfl (by decide +kernel) w_204) (gk3 hG)) <|
  n_c (s_callVc (s_callV (pc := 72) (csX6_numberBelow hG) (by decide) okX6_numberBelow nok6 w_1027 w_29 w_1025 (by decide +kernel)) (gk80 hG)) <|
  n_c (s_istore (pc := 75) (by decide +kernel)) <|
  n_c (s_iload (pc := 77) (by decide +kernel)) <|
  n_c (s_iconst (pc := 79) (n := -1) (by decide +kernel) (by decide +kernel)) <|
  n_c (s_icmp_ne (pc := 80) (off := 5) (by decide +kernel) (by decide +kernel)) <|
  n_c (s_iconst (pc := 83) (n := 0) (by decide +kernel) (by decide +kernel)) <|
  n_c (s_zret (pc := 84) rfl (by decide +kernel)) <|
  n_c (s_iload_n (pc := 85) (k := 2) (by decide +kernel)) <|
  n_c (s_iconst (pc := 86) (n := 4) (by decide +kernel) (by decide +kernel)) <|
  n_c (s_icmp_ne (pc := 87) (off := 12) (by decide +kernel) (by decide +kernel)) <|
  n_c (s_aload_n (pc := 90) (k := 0) (by decide +kernel)) <|
  n_c (s_bipush (pc := 91) (n := 12) (by decide +kernel) (by decide +kernel)) <|
  n_c (s_callVc (s_callV (pc := 93) (csX6_numberBelow hG) (by decide) okX6_numberBelow nok6 w_1027 w_29 w_1025 (by decide +kernel)) (gk80 hG)) <|
  n_c (s_goto (pc := 96) (off := 4) (by decide +kernel) (by decide +kernel)) <|
  n_c (s_iconst (pc := 99) (n := 0) (by decide +kernel) (by decide +kernel)) <|
  n_c (s_istore (pc := 100) (by decide +kernel)) <|
  n_c (s_iload (pc := 102) (by decide +kernel)) <|
  n_c (s_iconst (pc := 104) (n := -1) (by decide +kernel) (by decide +kernel)) <|
  n_c (s_icmp_eq (pc := 105) (off := 12) (by decide +kernel) (by decide +kernel)) <|
  n_c (s_aload_n (pc := 108) (k := 0) (by decide +kernel)) <|
  n_c (s_bipush (pc := 109) (n := 59) (by decide +kernel) (by decide +kernel)) <|
  n_c (s_callVc (s_callV (pc := 111) (csX6_expect hG) (by decide) okX6_expect nok6 w_1015 w_27 w_1013 (by decide +kernel)) (gk80 hG)) <|
  n_c (s_if_ne (pc := 114) (off := 5) (by decide +kernel) (by decide +kernel)) <|
  n_c (s_iconst (pc := 117) (n := 0) (by decide +kernel) (by decide +kernel)) <|
  n_c (s_zret (pc := 118) rfl (by decide +kernel)) <|
  n_c (s_aload_n (pc := 119) (k := 0) (by decide +kernel)) <|
  n_c (s_gRc (s_getR (pc := 120) (ci := 6) (k := 8) (idx := 44) nok6 (by decide) rfl (by decide +kernel) w_495) (gk80 hG) (gm80_8 hG)) <|
  n_c (s_iload_n (pc := 123) (k := 1) (by decide +kernel)) <|
  n_c (s_iload_n (pc := 124) (k := 2) (by decide +kernel)) <|
  n_c (s_iload (pc := 125) (by decide +kernel)) <|
  n_c (s_iload (pc := 127) (by decide +kernel)) <|
  n_c (s_callVc (s_callV (pc := 129) (csX7_add) (by decide) okX7_add nok7 w_1030 w_1031 w_1029 (by decide +kernel)) (gk91 hG)) <|
  n_c (s_pop (pc := 132) (by decide +kernel)) <|
  n_c (s_iconst (pc := 133) (n := 1) (by decide +kernel) (by decide +kernel)) <|
  n_c (s_zret (pc := 134) rfl (by decide +kernel)) <|
  n_e
def fX6_customLine_100 (G : nG) (x1 : Int32) (x2 : Int32) (x4 : Int32) (s0 : Int32) (M : nM) : Option (Int32 × nM) :=
  if s0 = (-1 : Int32) then
    some ((0 : Int32), M)
  else
    (fX6_expect (59 : Int32) M).bind fun p1 =>
    if ¬ p1.1 = 0 then
      (fX7_add G 91 x1 x2 x4 s0 p1.2).bind fun p2 =>
      some ((1 : Int32), p2.2)
    else
      some ((0 : Int32), p1.2)
set_option maxRecDepth 200000 in
theorem bX6_customLine_100 {l : Launch} {w : nW} {G : nG} (hG : n_GOK G) (x1 : Int32) (x2 : Int32) (x4 : Int32) (s0 : Int32) (M : nM) (r : Int32 × nM) (h : fX6_customLine_100 G x1 x2 x4 s0 M = some r) : n_At l w 2 mX6_customLine 100 [(0, .ref 80), (1, .int x1), (2, .int x2), (4, .int x4)] [.int s0] (G, M) (dv_i r.1, (G, r.2)) :=
  n_seg (fin := n_fin dv_i G) (K := []) 25 (iX6_customLine hG) n_ke (by rfl) h
def fX6_customLine_72 (G : nG) (x1 : Int32) (x2 : Int32) (s0 : Int32) (M : nM) : Option (Int32 × nM) :=
  (fX6_numberBelow s0 M).bind fun p1 =>
  if ¬ p1.1 = (-1 : Int32) then
    if ¬ x2 = (4 : Int32) then
      fX6_customLine_100 G x1 x2 p1.1 (0 : Int32) p1.2
    else
      (fX6_numberBelow (12 : Int32) p1.2).bind fun p2 =>
      fX6_customLine_100 G x1 x2 p1.1 p2.1 p2.2
  else
    some ((0 : Int32), p1.2)
set_option maxRecDepth 200000 in
theorem bX6_customLine_72 {l : Launch} {w : nW} {G : nG} (hG : n_GOK G) (x1 : Int32) (x2 : Int32) (s0 : Int32) (M : nM) (r : Int32 × nM) (h : fX6_customLine_72 G x1 x2 s0 M = some r) : n_At l w 2 mX6_customLine 72 [(0, .ref 80), (1, .int x1), (2, .int x2)] [.int s0, .ref 80] (G, M) (dv_i r.1, (G, r.2)) :=
  n_seg (fin := n_fin dv_i G) (K := [(100, fun lv st M => n_lC 80 lv 0 (n_lI lv 1 (fun x1 => n_lI lv 2 (fun x2 => n_lI lv 4 (fun x4 => n_pI st (fun s0 st => n_pE st (fX6_customLine_100 G x1 x2 x4 s0 M)))))))]) 18 (iX6_customLine hG) (n_kc (fun lv st M r h => by
      obtain ⟨e0, h1⟩ := n_lC_x h
      obtain ⟨x1, e1, h2⟩ := n_lI_x h1
      obtain ⟨x2, e2, h3⟩ := n_lI_x h2
      obtain ⟨x4, e4, h4⟩ := n_lI_x h3
      obtain ⟨s0, t0, rfl, h5⟩ := n_pI_x h4
      obtain ⟨rfl, h6⟩ := n_pE_x h5
      exact n_sub (n_qc e0 (n_qc e1 (n_qc e2 (n_qc e4 n_qe)))) (bX6_customLine_100 hG x1 x2 x4 s0 M r h6)) n_ke) (by rfl) h
def fX6_customLine_54 (G : nG) (x1 : Int32) (x2 : Int32) (s0 : Int32) (M : nM) : Option (Int32 × nM) :=
  if s0 = 0 then
    fX6_customLine_72 G x1 x2 (M 3 6) M
  else
    fX6_customLine_72 G x1 x2 (12 : Int32) M
set_option maxRecDepth 200000 in
theorem bX6_customLine_54 {l : Launch} {w : nW} {G : nG} (hG : n_GOK G) (x1 : Int32) (x2 : Int32) (s0 : Int32) (M : nM) (r : Int32 × nM) (h : fX6_customLine_54 G x1 x2 s0 M = some r) : n_At l w 2 mX6_customLine 54 [(0, .ref 80), (1, .int x1), (2, .int x2)] [.int s0] (G, M) (dv_i r.1, (G, r.2)) :=
  n_seg (fin := n_fin dv_i G) (K := [(72, fun lv st M => n_lC 80 lv 0 (n_lI lv 1 (fun x1 => n_lI lv 2 (fun x2 => n_pI st (fun s0 st => n_pC 80 st (fun st => n_pE st (fX6_customLine_72 G x1 x2 s0 M)))))))]) 12 (iX6_customLine hG) (n_kc (fun lv st M r h => by
      obtain ⟨e0, h1⟩ := n_lC_x h
      obtain ⟨x1, e1, h2⟩ := n_lI_x h1
      obtain ⟨x2, e2, h3⟩ := n_lI_x h2
      obtain ⟨s0, t0, rfl, h4⟩ := n_pI_x h3
      obtain ⟨t1, rfl, h5⟩ := n_pC_x h4
      obtain ⟨rfl, h6⟩ := n_pE_x h5
      exact n_sub (n_qc e0 (n_qc e1 (n_qc e2 n_qe))) (bX6_customLine_72 hG x1 x2 s0 M r h6)) n_ke) (by rfl) h
def fX6_customLine_49 (G : nG) (x1 : Int32) (x2 : Int32) (M : nM) : Option (Int32 × nM) :=
  fX6_customLine_54 G x1 x2 (1 : Int32) M
set_option maxRecDepth 200000 in
theorem bX6_customLine_49 {l : Launch} {w : nW} {G : nG} (hG : n_GOK G) (x1 : Int32) (x2 : Int32) (M : nM) (r : Int32 × nM) (h : fX6_customLine_49 G x1 x2 M = some r) : n_At l w 2 mX6_customLine 49 [(0, .ref 80), (1, .int x1), (2, .int x2)] [] (G, M) (dv_i r.1, (G, r.2)) :=
  n_seg (fin := n_fin dv_i G) (K := [(54, fun lv st M => n_lC 80 lv 0 (n_lI lv 1 (fun x1 => n_lI lv 2 (fun x2 => n_pI st (fun s0 st => n_pE st (fX6_customLine_54 G x1 x2 s0 M))))))]) 5 (iX6_customLine hG) (n_kc (fun lv st M r h => by
      obtain ⟨e0, h1⟩ := n_lC_x h
      obtain ⟨x1, e1, h2⟩ := n_lI_x h1
      obtain ⟨x2, e2, h3⟩ := n_lI_x h2
      obtain ⟨s0, t0, rfl, h4⟩ := n_pI_x h3
      obtain ⟨rfl, h5⟩ := n_pE_x h4
      exact n_sub (n_qc e0 (n_qc e1 (n_qc e2 n_qe))) (bX6_customLine_54 hG x1 x2 s0 M r h5)) n_ke) (by rfl) h
def fX6_customLine (G : nG) (M : nM) : Option (Int32 × nM) :=
  (fX6_step M).bind fun p1 =>
  (fX6_numberBelow (1000 : Int32) p1.2).bind fun p2 =>
  if ¬ p2.1 = (-1 : Int32) then
    (fX6_customKind p2.2).bind fun p3 =>
    if ¬ p3.1 = (-1 : Int32) then
      (fX6_step p3.2).bind fun p4 =>
      if p3.1 = (2 : Int32) then
        fX6_customLine_49 G p2.1 p3.1 p4.2
      else
        if ¬ p3.1 = (3 : Int32) then
          fX6_customLine_54 G p2.1 p3.1 (0 : Int32) p4.2
        else
          fX6_customLine_49 G p2.1 p3.1 p4.2
    else
      (fX6_blame (1 : Int32) p3.2).bind fun p5 =>
      n_chk (p5.1 == 0 || p5.1 == 1) (some (p5.1, p5.2))
  else
    some ((0 : Int32), p2.2)
set_option maxRecDepth 200000 in
theorem bX6_customLine_0 {l : Launch} {w : nW} {G : nG} (hG : n_GOK G) (M : nM) (r : Int32 × nM) (h : fX6_customLine G M = some r) : n_At l w 2 mX6_customLine 0 [(0, .ref 80)] [] (G, M) (dv_i r.1, (G, r.2)) :=
  n_seg (fin := n_fin dv_i G) (K := [(49, fun lv st M => n_lC 80 lv 0 (n_lI lv 1 (fun x1 => n_lI lv 2 (fun x2 => n_pE st (fX6_customLine_49 G x1 x2 M))))), (54, fun lv st M => n_lC 80 lv 0 (n_lI lv 1 (fun x1 => n_lI lv 2 (fun x2 => n_pI st (fun s0 st => n_pE st (fX6_customLine_54 G x1 x2 s0 M))))))]) 33 (iX6_customLine hG) (n_kc (fun lv st M r h => by
      obtain ⟨e0, h1⟩ := n_lC_x h
      obtain ⟨x1, e1, h2⟩ := n_lI_x h1
      obtain ⟨x2, e2, h3⟩ := n_lI_x h2
      obtain ⟨rfl, h4⟩ := n_pE_x h3
      exact n_sub (n_qc e0 (n_qc e1 (n_qc e2 n_qe))) (bX6_customLine_49 hG x1 x2 M r h4)) (n_kc (fun lv st M r h => by
      obtain ⟨e0, h1⟩ := n_lC_x h
      obtain ⟨x1, e1, h2⟩ := n_lI_x h1
      obtain ⟨x2, e2, h3⟩ := n_lI_x h2
      obtain ⟨s0, t0, rfl, h4⟩ := n_pI_x h3
      obtain ⟨rfl, h5⟩ := n_pE_x h4
      exact n_sub (n_qc e0 (n_qc e1 (n_qc e2 n_qe))) (bX6_customLine_54 hG x1 x2 s0 M r h5)) n_ke)) (by rfl) h
theorem eX6_customLine {l : Launch} {w : nW} {G : nG} (hG : n_GOK G) (M : nM) (r : Int32 × nM) (h : fX6_customLine G M = some r) : n_Met l w 2 mX6_customLine [.ref 80] (G, M) (dv_i r.1, (G, r.2)) :=
  n_entry (by decide +kernel) rfl (Nat.le_of_ble_eq_true rfl) (n_sub (lv := [(0, .ref 80)]) (n_qc rfl n_qe) (bX6_customLine_0 hG M r h))
abbrev hX6_customLine (G : nG) : nF := fun T as M k => n_pC 80 as (fun as => n_pE as ((fX6_customLine G M).bind fun p => k (dv_i p.1) p.2))
theorem csX6_customLine {l : Launch} {w : nW} {G : nG} (hG : n_GOK G) : n_CS l w 2 mX6_customLine G (hX6_customLine G) := fun T as M k r h => by
  obtain ⟨t0, rfl, h1⟩ := n_pC_x h
  obtain ⟨rfl, hE⟩ := n_pE_x h1
  obtain ⟨p, hp, hk⟩ := Option.bind_eq_some_iff.mp hE
  exact ⟨_, _, eX6_customLine hG M p hp, hk⟩
def mX2_waysOf : nY := (RX2, yX2_waysOf, cX2_waysOf, 8, some .long)
theorem okX2_waysOf : n_MOK mX2_waysOf 2 := ⟨w_1244, w_150, ⟨by decide +kernel, by decide +kernel, by decide +kernel⟩, by decide⟩
abbrev hrX2_waysOf (rf : Int32 → Int32 → nM → Option (Int64 × nM)) : nF := fun T as M k => n_pC 101 as (fun as => n_pI as (fun z1 as => n_pI as (fun z2 as => n_pE as ((rf z1 z2 M).bind fun p => k (dv_l p.1) p.2))))
theorem csrX2_waysOf {l : Launch} {w : nW} {d : Nat} {G : nG} {rf : Int32 → Int32 → nM → Option (Int64 × nM)} (hr : ∀ (z1 : Int32) (z2 : Int32) (M : nM) (r : Int64 × nM), rf z1 z2 M = some r → n_Met l w d mX2_waysOf [.ref 101, .int z1, .int z2] (G, M) (dv_l r.1, (G, r.2))) : n_CS l w d mX2_waysOf G (hrX2_waysOf rf) := fun T as M k r h => by
  obtain ⟨t0, rfl, h1⟩ := n_pC_x h
  obtain ⟨z1, t1, rfl, h2⟩ := n_pI_x h1
  obtain ⟨z2, t2, rfl, h3⟩ := n_pI_x h2
  obtain ⟨rfl, hE⟩ := n_pE_x h3
  obtain ⟨p, hp, hk⟩ := Option.bind_eq_some_iff.mp hE
  exact ⟨_, _, hr z1 z2 M p hp, hk⟩
def mX2_waysOfKnot : nY := (RX2, yX2_waysOfKnot, cX2_waysOfKnot, 7, some .long)
theorem okX2_waysOfKnot : n_MOK mX2_waysOfKnot 2 := ⟨w_1253, w_150, ⟨by decide +kernel, by decide +kernel, by decide +kernel⟩, by decide⟩
abbrev hrX2_waysOfKnot (rf : Int32 → Int32 → nM → Option (Int64 × nM)) : nF := fun T as M k => n_pC 101 as (fun as => n_pI as (fun z1 as => n_pI as (fun z2 as => n_pE as ((rf z1 z2 M).bind fun p => k (dv_l p.1) p.2))))
theorem csrX2_waysOfKnot {l : Launch} {w : nW} {d : Nat} {G : nG} {rf : Int32 → Int32 → nM → Option (Int64 × nM)} (hr : ∀ (z1 : Int32) (z2 : Int32) (M : nM) (r : Int64 × nM), rf z1 z2 M = some r → n_Met l w d mX2_waysOfKnot [.ref 101, .int z1, .int z2] (G, M) (dv_l r.1, (G, r.2))) : n_CS l w d mX2_waysOfKnot G (hrX2_waysOfKnot rf) := fun T as M k r h => by
  obtain ⟨t0, rfl, h1⟩ := n_pC_x h
  obtain ⟨z1, t1, rfl, h2⟩ := n_pI_x h1
  obtain ⟨z2, t2, rfl, h3⟩ := n_pI_x h2
  obtain ⟨rfl, hE⟩ := n_pE_x h3
  obtain ⟨p, hp, hk⟩ := Option.bind_eq_some_iff.mp hE
  exact ⟨_, _, hr z1 z2 M p hp, hk⟩
/-! ===== SleightHouse$Kin.waysOf(II)J ===== -/
abbrev aX2_waysOf (N : Nat) (r0 : Int32 → Int32 → nM → Option (Int64 × nM)) (r1 : Int32 → Int32 → nM → Option (Int64 × nM)) : List (Nat × nO (Int64 × nM)) := [(0, o_push (.long 1) 1), (1, o_lstore 8 3 2), (2, o_iload 1 3), (3, o_istore 8 5 5), (5, o_push (.int (0 : Int32)) 6), (6, o_istore 8 6 8), (8, o_iload 6 10), (10, o_aload 0 11), (11, o_gIc 101 5 14), (14, oc_ge 72 17), (17, o_lload 3 18), (18, o_push (.long 0) 19), (19, o_lcmp 20), (20, oi_eq 72 23), (23, o_iload 5 25), (25, o_iload 6 27), (27, o_call 2 (hX4_hasBit) 30), (30, oi_eq 66 33), (33, o_aload 0 34), (34, o_iload 6 36), (36, o_iload 5 38), (38, o_callVc 101 2 (hX2_knotOf N) 41), (41, o_istore 8 7 43), (43, o_iload 5 45), (45, o_iload 7 47), (47, o_push (.int (-1 : Int32)) 48), (48, o_ixor 49), (49, o_iand 50), (50, o_istore 8 5 52), (52, o_lload 3 53), (53, o_aload 0 54), (54, o_iload 7 56), (56, o_iload 2 57), (57, o_callVc 101 2 (hrX2_waysOfKnot r1) 60), (60, o_lmul 61), (61, o_push (.long 1000000007) 64), (64, o_lrem 65), (65, o_lstore 8 3 66), (66, o_inc 8 6 (1 : Int32) 69), (69, o_goto 8), (72, o_lload 3 73), (73, o_lret)]
set_option maxRecDepth 200000 in
theorem iX2_waysOf {l : Launch} {w : nW} {dd : Nat} (N : Nat) (r0 : Int32 → Int32 → nM → Option (Int64 × nM)) (r1 : Int32 → Int32 → nM → Option (Int64 × nM)) {G : nG} (hG : n_GOK G) (hr0 : ∀ (z1 : Int32) (z2 : Int32) (M : nM) (r : Int64 × nM), r0 z1 z2 M = some r → n_Met l w (dd + 3) mX2_waysOf [.ref 101, .int z1, .int z2] (G, M) (dv_l r.1, (G, r.2))) (hr1 : ∀ (z1 : Int32) (z2 : Int32) (M : nM) (r : Int64 × nM), r1 z1 z2 M = some r → n_Met l w (dd + 3) mX2_waysOfKnot [.ref 101, .int z1, .int z2] (G, M) (dv_l r.1, (G, r.2))) : n_AllS l w (dd + 4) mX2_waysOf G (n_fin dv_l G) (aX2_waysOf N r0 r1) :=
  n_c (s_lconst (pc := 0) (n := 1) (by decide +kernel) (by decide +kernel)) <|
  n_c (s_lstore_n (pc := 1) (k := 3) (by decide +kernel)) <|
  n_c (s_iload_n (pc := 2) (k := 1) (by decide +kernel)) <|
  n_c (s_istore (pc := 3) (by decide +kernel)) <|
  n_c (s_iconst (pc := 5) (n := 0) (by decide +kernel) (by decide +kernel)) <|
  n_c (s_istore (pc := 6) (by decide +kernel)) <|
  n_c (s_iload (pc := 8) (by decide +kernel)) <|
  n_c (s_aload_n (pc := 10) (k := 0) (by decide +kernel)) <|
  n_c (s_gIc (s_getI (pc := 11) (ci := 2) (k := 5) (idx := 27) nok2 (by decide) rfl (by decide +kernel) w_558) (gk101 hG)) <|
  n_c (s_icmp_ge (pc := 14) (off := 58) (by decide +kernel) (by decide +kernel)) <|
  n_c (s_lload_n (pc := 17) (k := 3) (by decide +kernel)) <|
  n_c (s_lconst (pc := 18) (n := 0) (by decide +kernel) (by decide +kernel)) <|
  n_c (s_lcmp (pc := 19) (by decide +kernel)) <|
  n_c (s_if_eq (pc := 20) (off := 52) (by decide +kernel) (by decide +kernel)) <|
  n_c (s_iload (pc := 23) (by decide +kernel)) <|
  n_c (s_iload (pc := 25) (by decide +kernel)) <|
  n_c (s_callS (pc := 27) (csX4_hasBit) (by omega) okX4_hasBit w_675 w_1245 (by decide +kernel)) <|
  n_c (s_if_eq (pc := 30) (off := 36) (by decide +kernel) (by decide +kernel)) <|
  n_c (s_aload_n (pc := 33) (k := 0) (by decide +kernel)) <|
  n_c (s_iload (pc := 34) (by decide +kernel)) <|
  n_c (s_iload (pc := 36) (by decide +kernel)) <|
  n_c (s_callVc (s_callV (pc := 38) (csX2_knotOf N hG) (by omega) okX2_knotOf nok2 w_1248 w_38 w_1246 (by decide +kernel)) (gk101 hG)) <|
  n_c (s_istore (pc := 41) (by decide +kernel)) <|
  n_c (s_iload (pc := 43) (by decide +kernel)) <|
  n_c (s_iload (pc := 45) (by decide +kernel)) <|
  n_c (s_iconst (pc := 47) (n := -1) (by decide +kernel) (by decide +kernel)) <|
  n_c (s_ixor (pc := 48) (by decide +kernel)) <|
  n_c (s_iand (pc := 49) (by decide +kernel)) <|
  n_c (s_istore (pc := 50) (by decide +kernel)) <|
  n_c (s_lload_n (pc := 52) (k := 3) (by decide +kernel)) <|
  n_c (s_aload_n (pc := 53) (k := 0) (by decide +kernel)) <|
  n_c (s_iload (pc := 54) (by decide +kernel)) <|
  n_c (s_iload_n (pc := 56) (k := 2) (by decide +kernel)) <|
  n_c (s_callVc (s_callV (pc := 57) (csrX2_waysOfKnot hr1) (by omega) okX2_waysOfKnot nok2 w_1252 w_39 w_1250 (by decide +kernel)) (gk101 hG)) <|
  n_c (s_lmul (pc := 60) (by decide +kernel)) <|
  n_c (s_ldc2 (pc := 61) (i := 81) (by decide +kernel) w_1271) <|
  n_c (s_lrem (pc := 64) (by decide +kernel)) <|
  n_c (s_lstore_n (pc := 65) (k := 3) (by decide +kernel)) <|
  n_c (s_iinc (pc := 66) (n := 1) (by decide +kernel) (by decide +kernel)) <|
  n_c (s_goto (pc := 69) (off := -61) (by decide +kernel) (by decide +kernel)) <|
  n_c (s_lload_n (pc := 72) (k := 3) (by decide +kernel)) <|
  n_c (s_lret (pc := 73) rfl (by decide +kernel)) <|
  n_e
def fX2_waysOf_8 (N : Nat) (r0 : Int32 → Int32 → nM → Option (Int64 × nM)) (r1 : Int32 → Int32 → nM → Option (Int64 × nM)) : Nat → Int32 → Int64 → Int32 → Int32 → nM → Option (Int64 × nM)
  | 0, _, _, _, _, _ => none
  | n + 1, x2, x3, x5, x6, M =>
    if (M 101 5) ≤ x6 then
      some (x3, M)
    else
      if (lg_cmp x3 (0 : Int64)) = 0 then
        some (x3, M)
      else
        (fX4_hasBit x5 x6 M).bind fun p1 =>
        if p1.1 = 0 then
          let v2 : Int32 := (x6 + (1 : Int32))
          fX2_waysOf_8 N r0 r1 n x2 x3 x5 v2 p1.2
        else
          (fX2_knotOf N x6 x5 p1.2).bind fun p3 =>
          let v4 : Int32 := (x5 &&& (p3.1 ^^^ (-1 : Int32)))
          (r1 p3.1 x2 p3.2).bind fun p5 =>
          if (1000000007 : Int64) = 0 then none else
          let v6 : Int64 := ((x3 * p5.1) - (x3 * p5.1) / (1000000007 : Int64) * (1000000007 : Int64))
          let v7 : Int32 := (x6 + (1 : Int32))
          fX2_waysOf_8 N r0 r1 n x2 v6 v4 v7 p5.2
set_option maxRecDepth 200000 in
theorem bX2_waysOf_8 {l : Launch} {w : nW} {dd : Nat} (N : Nat) (r0 : Int32 → Int32 → nM → Option (Int64 × nM)) (r1 : Int32 → Int32 → nM → Option (Int64 × nM)) {G : nG} (hG : n_GOK G) (hr0 : ∀ (z1 : Int32) (z2 : Int32) (M : nM) (r : Int64 × nM), r0 z1 z2 M = some r → n_Met l w (dd + 3) mX2_waysOf [.ref 101, .int z1, .int z2] (G, M) (dv_l r.1, (G, r.2))) (hr1 : ∀ (z1 : Int32) (z2 : Int32) (M : nM) (r : Int64 × nM), r1 z1 z2 M = some r → n_Met l w (dd + 3) mX2_waysOfKnot [.ref 101, .int z1, .int z2] (G, M) (dv_l r.1, (G, r.2))) : ∀ (n : Nat) (x2 : Int32) (x3 : Int64) (x5 : Int32) (x6 : Int32) (M : nM) (r : Int64 × nM), fX2_waysOf_8 N r0 r1 n x2 x3 x5 x6 M = some r → n_At l w (dd + 4) mX2_waysOf 8 [(0, .ref 101), (2, .int x2), (3, .long x3), (5, .int x5), (6, .int x6)] [] (G, M) (dv_l r.1, (G, r.2)) := by
  intro n
  induction n with
  | zero => intro x2 x3 x5 x6 M r h; cases (show (none : Option (Int64 × nM)) = some r from h)
  | succ n ih =>
    intro x2 x3 x5 x6 M r h
    exact n_seg (fin := n_fin dv_l G) (K := [(8, fun lv st M => n_lC 101 lv 0 (n_lI lv 2 (fun x2 => n_lL lv 3 (fun x3 => n_lI lv 5 (fun x5 => n_lI lv 6 (fun x6 => n_pE st (fX2_waysOf_8 N r0 r1 n x2 x3 x5 x6 M)))))))]) 43 (iX2_waysOf N r0 r1 hG hr0 hr1) (n_kc (fun lv st M r h => by
      obtain ⟨e0, h1⟩ := n_lC_x h
      obtain ⟨x2, e2, h2⟩ := n_lI_x h1
      obtain ⟨x3, e3, h3⟩ := n_lL_x h2
      obtain ⟨x5, e5, h4⟩ := n_lI_x h3
      obtain ⟨x6, e6, h5⟩ := n_lI_x h4
      obtain ⟨rfl, h6⟩ := n_pE_x h5
      exact n_sub (n_qc e0 (n_qc e2 (n_qc e3 (n_qc e5 (n_qc e6 n_qe))))) (ih x2 x3 x5 x6 M r h6)) n_ke) (by rfl) h
def fX2_waysOf (N : Nat) (r0 : Int32 → Int32 → nM → Option (Int64 × nM)) (r1 : Int32 → Int32 → nM → Option (Int64 × nM)) (x1 : Int32) (x2 : Int32) (M : nM) : Option (Int64 × nM) :=
  let v1 : Int64 := (1 : Int64)
  fX2_waysOf_8 N r0 r1 N x2 v1 x1 (0 : Int32) M
set_option maxRecDepth 200000 in
theorem bX2_waysOf_0 {l : Launch} {w : nW} {dd : Nat} (N : Nat) (r0 : Int32 → Int32 → nM → Option (Int64 × nM)) (r1 : Int32 → Int32 → nM → Option (Int64 × nM)) {G : nG} (hG : n_GOK G) (hr0 : ∀ (z1 : Int32) (z2 : Int32) (M : nM) (r : Int64 × nM), r0 z1 z2 M = some r → n_Met l w (dd + 3) mX2_waysOf [.ref 101, .int z1, .int z2] (G, M) (dv_l r.1, (G, r.2))) (hr1 : ∀ (z1 : Int32) (z2 : Int32) (M : nM) (r : Int64 × nM), r1 z1 z2 M = some r → n_Met l w (dd + 3) mX2_waysOfKnot [.ref 101, .int z1, .int z2] (G, M) (dv_l r.1, (G, r.2))) (x1 : Int32) (x2 : Int32) (M : nM) (r : Int64 × nM) (h : fX2_waysOf N r0 r1 x1 x2 M = some r) : n_At l w (dd + 4) mX2_waysOf 0 [(0, .ref 101), (1, .int x1), (2, .int x2)] [] (G, M) (dv_l r.1, (G, r.2)) :=
  n_seg (fin := n_fin dv_l G) (K := [(8, fun lv st M => n_lC 101 lv 0 (n_lI lv 2 (fun x2 => n_lL lv 3 (fun x3 => n_lI lv 5 (fun x5 => n_lI lv 6 (fun x6 => n_pE st (fX2_waysOf_8 N r0 r1 N x2 x3 x5 x6 M)))))))]) 9 (iX2_waysOf N r0 r1 hG hr0 hr1) (n_kc (fun lv st M r h => by
      obtain ⟨e0, h1⟩ := n_lC_x h
      obtain ⟨x2, e2, h2⟩ := n_lI_x h1
      obtain ⟨x3, e3, h3⟩ := n_lL_x h2
      obtain ⟨x5, e5, h4⟩ := n_lI_x h3
      obtain ⟨x6, e6, h5⟩ := n_lI_x h4
      obtain ⟨rfl, h6⟩ := n_pE_x h5
      exact n_sub (n_qc e0 (n_qc e2 (n_qc e3 (n_qc e5 (n_qc e6 n_qe))))) (bX2_waysOf_8 N r0 r1 hG hr0 hr1 N x2 x3 x5 x6 M r h6)) n_ke) (by rfl) h
theorem eX2_waysOf {l : Launch} {w : nW} {dd : Nat} (N : Nat) (r0 : Int32 → Int32 → nM → Option (Int64 × nM)) (r1 : Int32 → Int32 → nM → Option (Int64 × nM)) {G : nG} (hG : n_GOK G) (hr0 : ∀ (z1 : Int32) (z2 : Int32) (M : nM) (r : Int64 × nM), r0 z1 z2 M = some r → n_Met l w (dd + 3) mX2_waysOf [.ref 101, .int z1, .int z2] (G, M) (dv_l r.1, (G, r.2))) (hr1 : ∀ (z1 : Int32) (z2 : Int32) (M : nM) (r : Int64 × nM), r1 z1 z2 M = some r → n_Met l w (dd + 3) mX2_waysOfKnot [.ref 101, .int z1, .int z2] (G, M) (dv_l r.1, (G, r.2))) (z1 : Int32) (z2 : Int32) (M : nM) (r : Int64 × nM) (h : fX2_waysOf N r0 r1 z1 z2 M = some r) : n_Met l w (dd + 4) mX2_waysOf [.ref 101, .int z1, .int z2] (G, M) (dv_l r.1, (G, r.2)) :=
  n_entry (by decide +kernel) rfl (Nat.le_of_ble_eq_true rfl) (n_sub (lv := [(0, .ref 101), (1, .int z1), (2, .int z2)]) (n_qc rfl (n_qc rfl (n_qc rfl n_qe))) (bX2_waysOf_0 N r0 r1 hG hr0 hr1 z1 z2 M r h))
/-! ===== SleightHouse$Kin.waysOfKnot(II)J ===== -/
abbrev aX2_waysOfKnot (N : Nat) (r0 : Int32 → Int32 → nM → Option (Int64 × nM)) (r1 : Int32 → Int32 → nM → Option (Int64 × nM)) : List (Nat × nO (Int64 × nM)) := [(0, o_iload 2 1), (1, o_push (.int (12 : Int32)) 3), (3, oc_lt 8 6), (6, o_push (.long 0) 7), (7, o_lret), (8, o_aload 0 9), (9, o_iload 1 10), (10, o_callVc 101 1 (hX2_mostBound N) 13), (13, o_istore 7 3 14), (14, o_push (.long 0) 15), (15, o_lstore 7 4 17), (17, o_push (.int (0 : Int32)) 18), (18, o_istore 7 6 20), (20, o_iload 6 22), (22, o_push (.int (3 : Int32)) 23), (23, oc_ge 81 26), (26, o_aload 0 27), (27, o_gRc 101 105 30), (30, o_iload 3 31), (31, o_aldc 105 12 32), (32, o_iload 6 34), (34, o_call 2 (hX4_hasBit) 37), (37, oi_eq 75 40), (40, o_aload 0 41), (41, o_gRc 101 106 44), (44, o_iload 3 45), (45, o_iload 6 47), (47, o_iastc 106 12 48), (48, o_aload 0 49), (49, o_iload 3 50), (50, o_callVc 101 1 (hX2_bondsHold N) 53), (53, oi_eq 75 56), (56, o_lload 4 58), (58, o_aload 0 59), (59, o_iload 1 60), (60, o_push (.int (1 : Int32)) 61), (61, o_iload 3 62), (62, o_ishl 63), (63, o_push (.int (-1 : Int32)) 64), (64, o_ixor 65), (65, o_iand 66), (66, o_iload 2 67), (67, o_push (.int (1 : Int32)) 68), (68, o_iadd 69), (69, o_callVc 101 2 (hrX2_waysOf r0) 72), (72, o_ladd 73), (73, o_lstore 7 4 75), (75, o_inc 7 6 (1 : Int32) 78), (78, o_goto 20), (81, o_aload 0 82), (82, o_gRc 101 106 85), (85, o_iload 3 86), (86, o_push (.int (-1 : Int32)) 87), (87, o_iastc 106 12 88), (88, o_lload 4 90), (90, o_push (.long 1000000007) 93), (93, o_lrem 94), (94, o_lret)]
set_option maxRecDepth 200000 in
theorem iX2_waysOfKnot {l : Launch} {w : nW} {dd : Nat} (N : Nat) (r0 : Int32 → Int32 → nM → Option (Int64 × nM)) (r1 : Int32 → Int32 → nM → Option (Int64 × nM)) {G : nG} (hG : n_GOK G) (hr0 : ∀ (z1 : Int32) (z2 : Int32) (M : nM) (r : Int64 × nM), r0 z1 z2 M = some r → n_Met l w (dd + 3) mX2_waysOf [.ref 101, .int z1, .int z2] (G, M) (dv_l r.1, (G, r.2))) (hr1 : ∀ (z1 : Int32) (z2 : Int32) (M : nM) (r : Int64 × nM), r1 z1 z2 M = some r → n_Met l w (dd + 3) mX2_waysOfKnot [.ref 101, .int z1, .int z2] (G, M) (dv_l r.1, (G, r.2))) : n_AllS l w (dd + 4) mX2_waysOfKnot G (n_fin dv_l G) (aX2_waysOfKnot N r0 r1) :=
  n_c (s_iload_n (pc := 0) (k := 2) (by decide +kernel)) <|
  n_c (s_bipush (pc := 1) (n := 12) (by decide +kernel) (by decide +kernel)) <|
  n_c (s_icmp_lt (pc := 3) (off := 5) (by decide +kernel) (by decide +kernel)) <|
  n_c (s_lconst (pc := 6) (n := 0) (by decide +kernel) (by decide +kernel)) <|
  n_c (s_lret (pc := 7) rfl (by decide +kernel)) <|
  n_c (s_aload_n (pc := 8) (k := 0) (by decide +kernel)) <|
  n_c (s_iload_n (pc := 9) (k := 1) (by decide +kernel)) <|
  n_c (s_callVc (s_callV (pc := 10) (csX2_mostBound N hG) (by omega) okX2_mostBound nok2 w_1256 w_40 w_1254 (by decide +kernel)) (gk101 hG)) <|
  n_c (s_istore_n (pc := 13) (k := 3) (by decide +kernel)) <|
  n_c (s_lconst (pc := 14) (n := 0) (by decide +kernel) (by decide +kernel)) <|
  n_c (s_lstore (pc := 15) (by decide +kernel)) <|
  n_c (s_iconst (pc := 17) (n := 0) (by decide +kernel) (by decide +kernel)) <|
  n_c (s_istore (pc := 18) (by decide +kernel)) <|
  n_c (s_iload (pc := 20) (by decide +kernel)) <|
  n_c (s_iconst (pc := 22) (n := 3) (by decide +kernel) (by decide +kernel)) <|
  n_c (s_icmp_ge (pc := 23) (off := 58) (by decide +kernel) (by decide +kernel)) <|
  n_c (s_aload_n (pc := 26) (k := 0) (by decide +kernel)) <|
  n_c (s_gRc (s_getR (pc := 27) (ci := 2) (k := 3) (idx := 21) nok2 (by decide) rfl (by decide +kernel) w_556) (gk101 hG) (gm101_3 hG)) <|
  n_c (s_iload_n (pc := 30) (k := 3) (by decide +kernel)) <|
  n_c (s_aldc (s_iaload (pc := 31) (by decide +kernel)) (gk105 hG) (gl105 hG)) <|
  n_c (s_iload (pc := 32) (by decide +kernel)) <|
  n_c (s_callS (pc := 34) (csX4_hasBit) (by omega) okX4_hasBit w_675 w_1245 (by decide +kernel)) <|
  n_c (s_if_eq (pc := 37) (off := 38) (by decide +kernel) (by decide +kernel)) <|
  n_c (s_aload_n (pc := 40) (k := 0) (by decide +kernel)) <|
  n_c (s_gRc (s_getR (pc := 41) (ci := 2) (k := 4) (idx := 24) nok2 (by decide) rfl (by decide +kernel) w_557) (gk101 hG) (gm101_4 hG)) <|
  n_c (s_iload_n (pc := 44) (k := 3) (by decide +kernel)) <|
  n_c (s_iload (pc := 45) (by decide +kernel)) <|
  n_c (s_iastc (s_iastore (pc := 47) (by decide +kernel)) (gk106 hG) (gl106 hG)) <|
  n_c (s_aload_n (pc := 48) (k := 0) (by decide +kernel)) <|
  n_c (s_iload_n (pc := 49) (k := 3) (by decide +kernel)) <|
  n_c (s_callVc (s_callV (pc := 50) (csX2_bondsHold N hG) (by omega) okX2_bondsHold nok2 w_1261 w_41 w_1259 (by decide +kernel)) (gk101 hG)) <|
  n_c (s_if_eq (pc := 53) (off := 22) (by decide +kernel) (by decide +kernel)) <|
  n_c (s_lload (pc := 56) (by decide +kernel)) <|
  n_c (s_aload_n (pc := 58) (k := 0) (by decide +kernel)) <|
  n_c (s_iload_n (pc := 59) (k := 1) (by decide +kernel)) <|
  n_c (s_iconst (pc := 60) (n := 1) (by decide +kernel) (by decide +kernel)) <|
  n_c (s_iload_n (pc := 61) (k := 3) (by decide +kernel)) <|
  n_c (s_ishl (pc := 62) (by decide +kernel)) <|
  n_c (s_iconst (pc := 63) (n := -1) (by decide +kernel) (by decide +kernel)) <|
  n_c (s_ixor (pc := 64) (by decide +kernel)) <|
  n_c (s_iand (pc := 65) (by decide +kernel)) <|
  n_c (s_iload_n (pc := 66) (k := 2) (by decide +kernel)) <|
  n_c (s_iconst (pc := 67) (n := 1) (by decide +kernel) (by decide +kernel)) <|
  n_c (s_iadd (pc := 68) (by decide +kernel)) <|
  n_c (s_callVc (s_callV (pc := 69) (csrX2_waysOf hr0) (by omega) okX2_waysOf nok2 w_1243 w_37 w_1241 (by decide +kernel)) (gk101 hG)) <|
  n_c (s_ladd (pc := 72) (by decide +kernel)) <|
  n_c (s_lstore (pc := 73) (by decide +kernel)) <|
  n_c (s_iinc (pc := 75) (n := 1) (by decide +kernel) (by decide +kernel)) <|
  n_c (s_goto (pc := 78) (off := -58) (by decide +kernel) (by decide +kernel)) <|
  n_c (s_aload_n (pc := 81) (k := 0) (by decide +kernel)) <|
  n_c (s_gRc (s_getR (pc := 82) (ci := 2) (k := 4) (idx := 24) nok2 (by decide) rfl (by decide +kernel) w_557) (gk101 hG) (gm101_4 hG)) <|
  n_c (s_iload_n (pc := 85) (k := 3) (by decide +kernel)) <|
  n_c (s_iconst (pc := 86) (n := -1) (by decide +kernel) (by decide +kernel)) <|
  n_c (s_iastc (s_iastore (pc := 87) (by decide +kernel)) (gk106 hG) (gl106 hG)) <|
  n_c (s_lload (pc := 88) (by decide +kernel)) <|
  n_c (s_ldc2 (pc := 90) (i := 81) (by decide +kernel) w_1271) <|
  n_c (s_lrem (pc := 93) (by decide +kernel)) <|
  n_c (s_lret (pc := 94) rfl (by decide +kernel)) <|
  n_e
def fX2_waysOfKnot_20 (N : Nat) (r0 : Int32 → Int32 → nM → Option (Int64 × nM)) (r1 : Int32 → Int32 → nM → Option (Int64 × nM)) : Nat → Int32 → Int32 → Int32 → Int64 → Int32 → nM → Option (Int64 × nM)
  | 0, _, _, _, _, _, _ => none
  | n + 1, x1, x2, x3, x4, x6, M =>
    if (3 : Int32) ≤ x6 then
      n_chk (n_ib 12 x3) <|
      let M1 : nM := n_up M 106 x3.toNatClampNeg (-1 : Int32)
      if (1000000007 : Int64) = 0 then none else
      some ((x4 - x4 / (1000000007 : Int64) * (1000000007 : Int64)), M1)
    else
      n_chk (n_ib 12 x3) <|
      (fX4_hasBit (M 105 x3.toNatClampNeg) x6 M).bind fun p2 =>
      if p2.1 = 0 then
        let v3 : Int32 := (x6 + (1 : Int32))
        fX2_waysOfKnot_20 N r0 r1 n x1 x2 x3 x4 v3 p2.2
      else
        n_chk (n_ib 12 x3) <|
        let M4 : nM := n_up p2.2 106 x3.toNatClampNeg x6
        (fX2_bondsHold N x3 M4).bind fun p5 =>
        if p5.1 = 0 then
          let v6 : Int32 := (x6 + (1 : Int32))
          fX2_waysOfKnot_20 N r0 r1 n x1 x2 x3 x4 v6 p5.2
        else
          (r0 (x1 &&& (((1 : Int32) <<< (x3 &&& 31)) ^^^ (-1 : Int32))) (x2 + (1 : Int32)) p5.2).bind fun p7 =>
          let v8 : Int64 := (x4 + p7.1)
          let v9 : Int32 := (x6 + (1 : Int32))
          fX2_waysOfKnot_20 N r0 r1 n x1 x2 x3 v8 v9 p7.2
set_option maxRecDepth 200000 in
theorem bX2_waysOfKnot_20 {l : Launch} {w : nW} {dd : Nat} (N : Nat) (r0 : Int32 → Int32 → nM → Option (Int64 × nM)) (r1 : Int32 → Int32 → nM → Option (Int64 × nM)) {G : nG} (hG : n_GOK G) (hr0 : ∀ (z1 : Int32) (z2 : Int32) (M : nM) (r : Int64 × nM), r0 z1 z2 M = some r → n_Met l w (dd + 3) mX2_waysOf [.ref 101, .int z1, .int z2] (G, M) (dv_l r.1, (G, r.2))) (hr1 : ∀ (z1 : Int32) (z2 : Int32) (M : nM) (r : Int64 × nM), r1 z1 z2 M = some r → n_Met l w (dd + 3) mX2_waysOfKnot [.ref 101, .int z1, .int z2] (G, M) (dv_l r.1, (G, r.2))) : ∀ (n : Nat) (x1 : Int32) (x2 : Int32) (x3 : Int32) (x4 : Int64) (x6 : Int32) (M : nM) (r : Int64 × nM), fX2_waysOfKnot_20 N r0 r1 n x1 x2 x3 x4 x6 M = some r → n_At l w (dd + 4) mX2_waysOfKnot 20 [(0, .ref 101), (1, .int x1), (2, .int x2), (3, .int x3), (4, .long x4), (6, .int x6)] [] (G, M) (dv_l r.1, (G, r.2)) := by
  intro n
  induction n with
  | zero => intro x1 x2 x3 x4 x6 M r h; cases (show (none : Option (Int64 × nM)) = some r from h)
  | succ n ih =>
    intro x1 x2 x3 x4 x6 M r h
    exact n_seg (fin := n_fin dv_l G) (K := [(20, fun lv st M => n_lC 101 lv 0 (n_lI lv 1 (fun x1 => n_lI lv 2 (fun x2 => n_lI lv 3 (fun x3 => n_lL lv 4 (fun x4 => n_lI lv 6 (fun x6 => n_pE st (fX2_waysOfKnot_20 N r0 r1 n x1 x2 x3 x4 x6 M))))))))]) 52 (iX2_waysOfKnot N r0 r1 hG hr0 hr1) (n_kc (fun lv st M r h => by
      obtain ⟨e0, h1⟩ := n_lC_x h
      obtain ⟨x1, e1, h2⟩ := n_lI_x h1
      obtain ⟨x2, e2, h3⟩ := n_lI_x h2
      obtain ⟨x3, e3, h4⟩ := n_lI_x h3
      obtain ⟨x4, e4, h5⟩ := n_lL_x h4
      obtain ⟨x6, e6, h6⟩ := n_lI_x h5
      obtain ⟨rfl, h7⟩ := n_pE_x h6
      exact n_sub (n_qc e0 (n_qc e1 (n_qc e2 (n_qc e3 (n_qc e4 (n_qc e6 n_qe)))))) (ih x1 x2 x3 x4 x6 M r h7)) n_ke) (by rfl) h
def fX2_waysOfKnot (N : Nat) (r0 : Int32 → Int32 → nM → Option (Int64 × nM)) (r1 : Int32 → Int32 → nM → Option (Int64 × nM)) (x1 : Int32) (x2 : Int32) (M : nM) : Option (Int64 × nM) :=
  if x2 < (12 : Int32) then
    (fX2_mostBound N x1 M).bind fun p1 =>
    let v2 : Int64 := (0 : Int64)
    fX2_waysOfKnot_20 N r0 r1 N x1 x2 p1.1 v2 (0 : Int32) p1.2
  else
    some ((0 : Int64), M)
set_option maxRecDepth 200000 in
theorem bX2_waysOfKnot_0 {l : Launch} {w : nW} {dd : Nat} (N : Nat) (r0 : Int32 → Int32 → nM → Option (Int64 × nM)) (r1 : Int32 → Int32 → nM → Option (Int64 × nM)) {G : nG} (hG : n_GOK G) (hr0 : ∀ (z1 : Int32) (z2 : Int32) (M : nM) (r : Int64 × nM), r0 z1 z2 M = some r → n_Met l w (dd + 3) mX2_waysOf [.ref 101, .int z1, .int z2] (G, M) (dv_l r.1, (G, r.2))) (hr1 : ∀ (z1 : Int32) (z2 : Int32) (M : nM) (r : Int64 × nM), r1 z1 z2 M = some r → n_Met l w (dd + 3) mX2_waysOfKnot [.ref 101, .int z1, .int z2] (G, M) (dv_l r.1, (G, r.2))) (x1 : Int32) (x2 : Int32) (M : nM) (r : Int64 × nM) (h : fX2_waysOfKnot N r0 r1 x1 x2 M = some r) : n_At l w (dd + 4) mX2_waysOfKnot 0 [(0, .ref 101), (1, .int x1), (2, .int x2)] [] (G, M) (dv_l r.1, (G, r.2)) :=
  n_seg (fin := n_fin dv_l G) (K := [(20, fun lv st M => n_lC 101 lv 0 (n_lI lv 1 (fun x1 => n_lI lv 2 (fun x2 => n_lI lv 3 (fun x3 => n_lL lv 4 (fun x4 => n_lI lv 6 (fun x6 => n_pE st (fX2_waysOfKnot_20 N r0 r1 N x1 x2 x3 x4 x6 M))))))))]) 16 (iX2_waysOfKnot N r0 r1 hG hr0 hr1) (n_kc (fun lv st M r h => by
      obtain ⟨e0, h1⟩ := n_lC_x h
      obtain ⟨x1, e1, h2⟩ := n_lI_x h1
      obtain ⟨x2, e2, h3⟩ := n_lI_x h2
      obtain ⟨x3, e3, h4⟩ := n_lI_x h3
      obtain ⟨x4, e4, h5⟩ := n_lL_x h4
      obtain ⟨x6, e6, h6⟩ := n_lI_x h5
      obtain ⟨rfl, h7⟩ := n_pE_x h6
      exact n_sub (n_qc e0 (n_qc e1 (n_qc e2 (n_qc e3 (n_qc e4 (n_qc e6 n_qe)))))) (bX2_waysOfKnot_20 N r0 r1 hG hr0 hr1 N x1 x2 x3 x4 x6 M r h7)) n_ke) (by rfl) h
theorem eX2_waysOfKnot {l : Launch} {w : nW} {dd : Nat} (N : Nat) (r0 : Int32 → Int32 → nM → Option (Int64 × nM)) (r1 : Int32 → Int32 → nM → Option (Int64 × nM)) {G : nG} (hG : n_GOK G) (hr0 : ∀ (z1 : Int32) (z2 : Int32) (M : nM) (r : Int64 × nM), r0 z1 z2 M = some r → n_Met l w (dd + 3) mX2_waysOf [.ref 101, .int z1, .int z2] (G, M) (dv_l r.1, (G, r.2))) (hr1 : ∀ (z1 : Int32) (z2 : Int32) (M : nM) (r : Int64 × nM), r1 z1 z2 M = some r → n_Met l w (dd + 3) mX2_waysOfKnot [.ref 101, .int z1, .int z2] (G, M) (dv_l r.1, (G, r.2))) (z1 : Int32) (z2 : Int32) (M : nM) (r : Int64 × nM) (h : fX2_waysOfKnot N r0 r1 z1 z2 M = some r) : n_Met l w (dd + 4) mX2_waysOfKnot [.ref 101, .int z1, .int z2] (G, M) (dv_l r.1, (G, r.2)) :=
  n_entry (by decide +kernel) rfl (Nat.le_of_ble_eq_true rfl) (n_sub (lv := [(0, .ref 101), (1, .int z1), (2, .int z2)]) (n_qc rfl (n_qc rfl (n_qc rfl n_qe))) (bX2_waysOfKnot_0 N r0 r1 hG hr0 hr1 z1 z2 M r h))
def fX2_waysOf_g (N : Nat) : Nat → Nat → Int32 → Int32 → nM → Option (Int64 × nM)
  | 0, _, _, _, _ => none
  | n + 1, 0, z1, z2, M => fX2_waysOf N (fun z1 z2 M => fX2_waysOf_g N n 0 z1 z2 M) (fun z1 z2 M => fX2_waysOf_g N n 1 z1 z2 M) z1 z2 M
  | n + 1, _, z1, z2, M => fX2_waysOfKnot N (fun z1 z2 M => fX2_waysOf_g N n 0 z1 z2 M) (fun z1 z2 M => fX2_waysOf_g N n 1 z1 z2 M) z1 z2 M
theorem efX2_waysOf_g {l : Launch} {w : nW} (N : Nat) {G : nG} (hG : n_GOK G) : ∀ (n : Nat), (∀ (z1 : Int32) (z2 : Int32) (M : nM) (r : Int64 × nM), fX2_waysOf_g N n 0 z1 z2 M = some r → n_Met l w (n + 3) mX2_waysOf [.ref 101, .int z1, .int z2] (G, M) (dv_l r.1, (G, r.2))) ∧ (∀ (z1 : Int32) (z2 : Int32) (M : nM) (r : Int64 × nM), fX2_waysOf_g N n 1 z1 z2 M = some r → n_Met l w (n + 3) mX2_waysOfKnot [.ref 101, .int z1, .int z2] (G, M) (dv_l r.1, (G, r.2))) := by
  intro n
  induction n with
  | zero => exact ⟨(fun z1 z2 M r h => nomatch (show (none : Option (Int64 × nM)) = some r from h)), (fun z1 z2 M r h => nomatch (show (none : Option (Int64 × nM)) = some r from h))⟩
  | succ n ih =>
    have ed : n + 1 + 3 = n + 4 := by omega
    rw [ed]
    exact ⟨fun z1 z2 M r h => eX2_waysOf N (fun z1 z2 M => fX2_waysOf_g N n 0 z1 z2 M) (fun z1 z2 M => fX2_waysOf_g N n 1 z1 z2 M) hG ih.1 ih.2 z1 z2 M r h, fun z1 z2 M r h => eX2_waysOfKnot N (fun z1 z2 M => fX2_waysOf_g N n 0 z1 z2 M) (fun z1 z2 M => fX2_waysOf_g N n 1 z1 z2 M) hG ih.1 ih.2 z1 z2 M r h⟩
def fX2_waysOf_f (N : Nat) (z1 : Int32) (z2 : Int32) (M : nM) : Option (Int64 × nM) := fX2_waysOf_g N 60 0 z1 z2 M
theorem csX2_waysOf_f {l : Launch} {w : nW} (N : Nat) {G : nG} (hG : n_GOK G) : n_CS l w 63 mX2_waysOf G (hrX2_waysOf (fX2_waysOf_f N)) := csrX2_waysOf (fun z1 z2 M r h => (efX2_waysOf_g N hG 60).1 z1 z2 M r h)
def fX2_waysOfKnot_f (N : Nat) (z1 : Int32) (z2 : Int32) (M : nM) : Option (Int64 × nM) := fX2_waysOf_g N 60 1 z1 z2 M
theorem csX2_waysOfKnot_f {l : Launch} {w : nW} (N : Nat) {G : nG} (hG : n_GOK G) : n_CS l w 63 mX2_waysOfKnot G (hrX2_waysOfKnot (fX2_waysOfKnot_f N)) := csrX2_waysOfKnot (fun z1 z2 M r h => (efX2_waysOf_g N hG 60).2 z1 z2 M r h)
/-! ===== SleightHouse$Kin.ways()I ===== -/
def mX2_ways : nY := (RX2, yX2_ways, cX2_ways, 1, some .int)
theorem okX2_ways : n_MOK mX2_ways 0 := ⟨w_1240, w_150, ⟨by decide +kernel, by decide +kernel, by decide +kernel⟩, by decide⟩
abbrev aX2_ways (N : Nat) : List (Nat × nO (Int32 × nM)) := [(0, o_aload 0 1), (1, o_push (.int (1 : Int32)) 2), (2, o_aload 0 3), (3, o_gIc 101 5 6), (6, o_ishl 7), (7, o_push (.int (1 : Int32)) 8), (8, o_isub 9), (9, o_push (.int (0 : Int32)) 10), (10, o_callVc 101 2 (hrX2_waysOf (fX2_waysOf_f N)) 13), (13, o_l2i 14), (14, o_iret)]
set_option maxRecDepth 200000 in
theorem iX2_ways {l : Launch} {w : nW} (N : Nat) {G : nG} (hG : n_GOK G) : n_AllS l w 64 mX2_ways G (n_fin dv_i G) (aX2_ways N) :=
  n_c (s_aload_n (pc := 0) (k := 0) (by decide +kernel)) <|
  n_c (s_iconst (pc := 1) (n := 1) (by decide +kernel) (by decide +kernel)) <|
  n_c (s_aload_n (pc := 2) (k := 0) (by decide +kernel)) <|
  n_c (s_gIc (s_getI (pc := 3) (ci := 2) (k := 5) (idx := 27) nok2 (by decide) rfl (by decide +kernel) w_558) (gk101 hG)) <|
  n_c (s_ishl (pc := 6) (by decide +kernel)) <|
  n_c (s_iconst (pc := 7) (n := 1) (by decide +kernel) (by decide +kernel)) <|
  n_c (s_isub (pc := 8) (by decide +kernel)) <|
  n_c (s_iconst (pc := 9) (n := 0) (by decide +kernel) (by decide +kernel)) <|
  n_c (s_callVc (s_callV (pc := 10) (csX2_waysOf_f N hG) (by decide) okX2_waysOf nok2 w_1243 w_37 w_1241 (by decide +kernel)) (gk101 hG)) <|
  n_c (s_l2i (pc := 13) (by decide +kernel)) <|
  n_c (s_iret (pc := 14) rfl (by decide +kernel)) <|
  n_e
def fX2_ways (N : Nat) (M : nM) : Option (Int32 × nM) :=
  (fX2_waysOf_f N (((1 : Int32) <<< ((M 101 5) &&& 31)) - (1 : Int32)) (0 : Int32) M).bind fun p1 =>
  some (p1.1.toInt32, p1.2)
set_option maxRecDepth 200000 in
theorem bX2_ways_0 {l : Launch} {w : nW} (N : Nat) {G : nG} (hG : n_GOK G) (M : nM) (r : Int32 × nM) (h : fX2_ways N M = some r) : n_At l w 64 mX2_ways 0 [(0, .ref 101)] [] (G, M) (dv_i r.1, (G, r.2)) :=
  n_seg (fin := n_fin dv_i G) (K := []) 14 (iX2_ways N hG) n_ke (by rfl) h
theorem eX2_ways {l : Launch} {w : nW} (N : Nat) {G : nG} (hG : n_GOK G) (M : nM) (r : Int32 × nM) (h : fX2_ways N M = some r) : n_Met l w 64 mX2_ways [.ref 101] (G, M) (dv_i r.1, (G, r.2)) :=
  n_entry (by decide +kernel) rfl (Nat.le_of_ble_eq_true rfl) (n_sub (lv := [(0, .ref 101)]) (n_qc rfl n_qe) (bX2_ways_0 N hG M r h))
abbrev hX2_ways (N : Nat) : nF := fun T as M k => n_pC 101 as (fun as => n_pE as ((fX2_ways N M).bind fun p => k (dv_i p.1) p.2))
theorem csX2_ways {l : Launch} {w : nW} (N : Nat) {G : nG} (hG : n_GOK G) : n_CS l w 64 mX2_ways G (hX2_ways N) := fun T as M k r h => by
  obtain ⟨t0, rfl, h1⟩ := n_pC_x h
  obtain ⟨rfl, hE⟩ := n_pE_x h1
  obtain ⟨p, hp, hk⟩ := Option.bind_eq_some_iff.mp hE
  exact ⟨_, _, eX2_ways N hG M p hp, hk⟩
/-! ===== SleightHouse$Kin.fewAndMany(I)I ===== -/
def mX2_fewAndMany : nY := (RX2, yX2_fewAndMany, cX2_fewAndMany, 6, some .int)
theorem okX2_fewAndMany : n_MOK mX2_fewAndMany 1 := ⟨w_1275, w_150, ⟨by decide +kernel, by decide +kernel, by decide +kernel⟩, by decide⟩
abbrev aX2_fewAndMany (N : Nat) : List (Nat × nO (Int32 × nM)) := [(0, o_iload 1 1), (1, oi_lt 12 4), (4, o_iload 1 5), (5, o_aload 0 6), (6, o_gIc 101 5 9), (9, oc_lt 14 12), (12, o_push (.int (-1 : Int32)) 13), (13, o_iret), (14, o_push (.int (-1 : Int32)) 15), (15, o_istore 6 2 16), (16, o_push (.int (-1 : Int32)) 17), (17, o_istore 6 3 18), (18, o_aload 0 19), (19, o_gRc 101 105 22), (22, o_iload 1 23), (23, o_aldc 105 12 24), (24, o_istore 6 4 26), (26, o_push (.int (0 : Int32)) 27), (27, o_istore 6 5 29), (29, o_iload 5 31), (31, o_push (.int (3 : Int32)) 32), (32, oc_ge 76 35), (35, o_aload 0 36), (36, o_gRc 101 105 39), (39, o_iload 1 40), (40, o_iload 4 42), (42, o_push (.int (1 : Int32)) 43), (43, o_iload 5 45), (45, o_ishl 46), (46, o_iand 47), (47, o_iastc 105 12 48), (48, o_aload 0 49), (49, o_callVc 101 0 (hX2_ways N) 52), (52, oi_eq 70 55), (55, o_iload 2 56), (56, o_push (.int (-1 : Int32)) 57), (57, oc_ne 65 60), (60, o_iload 5 62), (62, o_goto 66), (65, o_iload 2 66), (66, o_istore 6 2 67), (67, o_iload 5 69), (69, o_istore 6 3 70), (70, o_inc 6 5 (1 : Int32) 73), (73, o_goto 29), (76, o_aload 0 77), (77, o_gRc 101 105 80), (80, o_iload 1 81), (81, o_iload 4 83), (83, o_iastc 105 12 84), (84, o_iload 2 85), (85, o_push (.int (-1 : Int32)) 86), (86, oc_ne 93 89), (89, o_push (.int (-1 : Int32)) 90), (90, o_goto 99), (93, o_push (.int (10 : Int32)) 95), (95, o_iload 2 96), (96, o_imul 97), (97, o_iload 3 98), (98, o_iadd 99), (99, o_iret)]
set_option maxRecDepth 200000 in
theorem iX2_fewAndMany {l : Launch} {w : nW} (N : Nat) {G : nG} (hG : n_GOK G) : n_AllS l w 65 mX2_fewAndMany G (n_fin dv_i G) (aX2_fewAndMany N) :=
  n_c (s_iload_n (pc := 0) (k := 1) (by decide +kernel)) <|
  n_c (s_if_lt (pc := 1) (off := 11) (by decide +kernel) (by decide +kernel)) <|
  n_c (s_iload_n (pc := 4) (k := 1) (by decide +kernel)) <|
  n_c (s_aload_n (pc := 5) (k := 0) (by decide +kernel)) <|
  n_c (s_gIc (s_getI (pc := 6) (ci := 2) (k := 5) (idx := 27) nok2 (by decide) rfl (by decide +kernel) w_558) (gk101 hG)) <|
  n_c (s_icmp_lt (pc := 9) (off := 5) (by decide +kernel) (by decide +kernel)) <|
  n_c (s_iconst (pc := 12) (n := -1) (by decide +kernel) (by decide +kernel)) <|
  n_c (s_iret (pc := 13) rfl (by decide +kernel)) <|
  n_c (s_iconst (pc := 14) (n := -1) (by decide +kernel) (by decide +kernel)) <|
  n_c (s_istore_n (pc := 15) (k := 2) (by decide +kernel)) <|
  n_c (s_iconst (pc := 16) (n := -1) (by decide +kernel) (by decide +kernel)) <|
  n_c (s_istore_n (pc := 17) (k := 3) (by decide +kernel)) <|
  n_c (s_aload_n (pc := 18) (k := 0) (by decide +kernel)) <|
  n_c (s_gRc (s_getR (pc := 19) (ci := 2) (k := 3) (idx := 21) nok2 (by decide) rfl (by decide +kernel) w_556) (gk101 hG) (gm101_3 hG)) <|
  n_c (s_iload_n (pc := 22) (k := 1) (by decide +kernel)) <|
  n_c (s_aldc (s_iaload (pc := 23) (by decide +kernel)) (gk105 hG) (gl105 hG)) <|
  n_c (s_istore (pc := 24) (by decide +kernel)) <|
  n_c (s_iconst (pc := 26) (n := 0) (by decide +kernel) (by decide +kernel)) <|
  n_c (s_istore (pc := 27) (by decide +kernel)) <|
  n_c (s_iload (pc := 29) (by decide +kernel)) <|
  n_c (s_iconst (pc := 31) (n := 3) (by decide +kernel) (by decide +kernel)) <|
  n_c (s_icmp_ge (pc := 32) (off := 44) (by decide +kernel) (by decide +kernel)) <|
  n_c (s_aload_n (pc := 35) (k := 0) (by decide +kernel)) <|
  n_c (s_gRc (s_getR (pc := 36) (ci := 2) (k := 3) (idx := 21) nok2 (by decide) rfl (by decide +kernel) w_556) (gk101 hG) (gm101_3 hG)) <|
  n_c (s_iload_n (pc := 39) (k := 1) (by decide +kernel)) <|
  n_c (s_iload (pc := 40) (by decide +kernel)) <|
  n_c (s_iconst (pc := 42) (n := 1) (by decide +kernel) (by decide +kernel)) <|
  n_c (s_iload (pc := 43) (by decide +kernel)) <|
  n_c (s_ishl (pc := 45) (by decide +kernel)) <|
  n_c (s_iand (pc := 46) (by decide +kernel)) <|
  n_c (s_iastc (s_iastore (pc := 47) (by decide +kernel)) (gk105 hG) (gl105 hG)) <|
  n_c (s_aload_n (pc := 48) (k := 0) (by decide +kernel)) <|
  n_c (s_callVc (s_callV (pc := 49) (csX2_ways N hG) (by decide) okX2_ways nok2 w_1238 w_1239 w_1276 (by decide +kernel)) (gk101 hG)) <|
  n_c (s_if_eq (pc := 52) (off := 18) (by decide +kernel) (by decide +kernel)) <|
  n_c (s_iload_n (pc := 55) (k := 2) (by decide +kernel)) <|
  n_c (s_iconst (pc := 56) (n := -1) (by decide +kernel) (by decide +kernel)) <|
  n_c (s_icmp_ne (pc := 57) (off := 8) (by decide +kernel) (by decide +kernel)) <|
  n_c (s_iload (pc := 60) (by decide +kernel)) <|
  n_c (s_goto (pc := 62) (off := 4) (by decide +kernel) (by decide +kernel)) <|
  n_c (s_iload_n (pc := 65) (k := 2) (by decide +kernel)) <|
  n_c (s_istore_n (pc := 66) (k := 2) (by decide +kernel)) <|
  n_c (s_iload (pc := 67) (by decide +kernel)) <|
  n_c (s_istore_n (pc := 69) (k := 3) (by decide +kernel)) <|
  n_c (s_iinc (pc := 70) (n := 1) (by decide +kernel) (by decide +kernel)) <|
  n_c (s_goto (pc := 73) (off := -44) (by decide +kernel) (by decide +kernel)) <|
  n_c (s_aload_n (pc := 76) (k := 0) (by decide +kernel)) <|
  n_c (s_gRc (s_getR (pc := 77) (ci := 2) (k := 3) (idx := 21) nok2 (by decide) rfl (by decide +kernel) w_556) (gk101 hG) (gm101_3 hG)) <|
  n_c (s_iload_n (pc := 80) (k := 1) (by decide +kernel)) <|
  n_c (s_iload (pc := 81) (by decide +kernel)) <|
  n_c (s_iastc (s_iastore (pc := 83) (by decide +kernel)) (gk105 hG) (gl105 hG)) <|
  n_c (s_iload_n (pc := 84) (k := 2) (by decide +kernel)) <|
  n_c (s_iconst (pc := 85) (n := -1) (by decide +kernel) (by decide +kernel)) <|
  n_c (s_icmp_ne (pc := 86) (off := 7) (by decide +kernel) (by decide +kernel)) <|
  n_c (s_iconst (pc := 89) (n := -1) (by decide +kernel) (by decide +kernel)) <|
  n_c (s_goto (pc := 90) (off := 9) (by decide +kernel) (by decide +kernel)) <|
  n_c (s_bipush (pc := 93) (n := 10) (by decide +kernel) (by decide +kernel)) <|
  n_c (s_iload_n (pc := 95) (k := 2) (by decide +kernel)) <|
  n_c (s_imul (pc := 96) (by decide +kernel)) <|
  n_c (s_iload_n (pc := 97) (k := 3) (by decide +kernel)) <|
  n_c (s_iadd (pc := 98) (by decide +kernel)) <|
  n_c (s_iret (pc := 99) rfl (by decide +kernel)) <|
  n_e
def fX2_fewAndMany_29 (N : Nat) : Nat → Int32 → Int32 → Int32 → Int32 → Int32 → nM → Option (Int32 × nM)
  | 0, _, _, _, _, _, _ => none
  | n + 1, x1, x2, x3, x4, x5, M =>
    if (3 : Int32) ≤ x5 then
      n_chk (n_ib 12 x1) <|
      let M1 : nM := n_up M 105 x1.toNatClampNeg x4
      if ¬ x2 = (-1 : Int32) then
        some ((((10 : Int32) * x2) + x3), M1)
      else
        some ((-1 : Int32), M1)
    else
      n_chk (n_ib 12 x1) <|
      let M2 : nM := n_up M 105 x1.toNatClampNeg (x4 &&& ((1 : Int32) <<< (x5 &&& 31)))
      (fX2_ways N M2).bind fun p3 =>
      if p3.1 = 0 then
        let v4 : Int32 := (x5 + (1 : Int32))
        fX2_fewAndMany_29 N n x1 x2 x3 x4 v4 p3.2
      else
        if ¬ x2 = (-1 : Int32) then
          let v5 : Int32 := (x5 + (1 : Int32))
          fX2_fewAndMany_29 N n x1 x2 x5 x4 v5 p3.2
        else
          let v6 : Int32 := (x5 + (1 : Int32))
          fX2_fewAndMany_29 N n x1 x5 x5 x4 v6 p3.2
set_option maxRecDepth 200000 in
theorem bX2_fewAndMany_29 {l : Launch} {w : nW} (N : Nat) {G : nG} (hG : n_GOK G) : ∀ (n : Nat) (x1 : Int32) (x2 : Int32) (x3 : Int32) (x4 : Int32) (x5 : Int32) (M : nM) (r : Int32 × nM), fX2_fewAndMany_29 N n x1 x2 x3 x4 x5 M = some r → n_At l w 65 mX2_fewAndMany 29 [(0, .ref 101), (1, .int x1), (2, .int x2), (3, .int x3), (4, .int x4), (5, .int x5)] [] (G, M) (dv_i r.1, (G, r.2)) := by
  intro n
  induction n with
  | zero => intro x1 x2 x3 x4 x5 M r h; cases (show (none : Option (Int32 × nM)) = some r from h)
  | succ n ih =>
    intro x1 x2 x3 x4 x5 M r h
    exact n_seg (fin := n_fin dv_i G) (K := [(29, fun lv st M => n_lC 101 lv 0 (n_lI lv 1 (fun x1 => n_lI lv 2 (fun x2 => n_lI lv 3 (fun x3 => n_lI lv 4 (fun x4 => n_lI lv 5 (fun x5 => n_pE st (fX2_fewAndMany_29 N n x1 x2 x3 x4 x5 M))))))))]) 53 (iX2_fewAndMany N hG) (n_kc (fun lv st M r h => by
      obtain ⟨e0, h1⟩ := n_lC_x h
      obtain ⟨x1, e1, h2⟩ := n_lI_x h1
      obtain ⟨x2, e2, h3⟩ := n_lI_x h2
      obtain ⟨x3, e3, h4⟩ := n_lI_x h3
      obtain ⟨x4, e4, h5⟩ := n_lI_x h4
      obtain ⟨x5, e5, h6⟩ := n_lI_x h5
      obtain ⟨rfl, h7⟩ := n_pE_x h6
      exact n_sub (n_qc e0 (n_qc e1 (n_qc e2 (n_qc e3 (n_qc e4 (n_qc e5 n_qe)))))) (ih x1 x2 x3 x4 x5 M r h7)) n_ke) (by rfl) h
def fX2_fewAndMany (N : Nat) (x1 : Int32) (M : nM) : Option (Int32 × nM) :=
  if x1 < 0 then
    some ((-1 : Int32), M)
  else
    if x1 < (M 101 5) then
      n_chk (n_ib 12 x1) <|
      let v1 : Int32 := (M 105 x1.toNatClampNeg)
      fX2_fewAndMany_29 N N x1 (-1 : Int32) (-1 : Int32) v1 (0 : Int32) M
    else
      some ((-1 : Int32), M)
set_option maxRecDepth 200000 in
theorem bX2_fewAndMany_0 {l : Launch} {w : nW} (N : Nat) {G : nG} (hG : n_GOK G) (x1 : Int32) (M : nM) (r : Int32 × nM) (h : fX2_fewAndMany N x1 M = some r) : n_At l w 65 mX2_fewAndMany 0 [(0, .ref 101), (1, .int x1)] [] (G, M) (dv_i r.1, (G, r.2)) :=
  n_seg (fin := n_fin dv_i G) (K := [(29, fun lv st M => n_lC 101 lv 0 (n_lI lv 1 (fun x1 => n_lI lv 2 (fun x2 => n_lI lv 3 (fun x3 => n_lI lv 4 (fun x4 => n_lI lv 5 (fun x5 => n_pE st (fX2_fewAndMany_29 N N x1 x2 x3 x4 x5 M))))))))]) 24 (iX2_fewAndMany N hG) (n_kc (fun lv st M r h => by
      obtain ⟨e0, h1⟩ := n_lC_x h
      obtain ⟨x1, e1, h2⟩ := n_lI_x h1
      obtain ⟨x2, e2, h3⟩ := n_lI_x h2
      obtain ⟨x3, e3, h4⟩ := n_lI_x h3
      obtain ⟨x4, e4, h5⟩ := n_lI_x h4
      obtain ⟨x5, e5, h6⟩ := n_lI_x h5
      obtain ⟨rfl, h7⟩ := n_pE_x h6
      exact n_sub (n_qc e0 (n_qc e1 (n_qc e2 (n_qc e3 (n_qc e4 (n_qc e5 n_qe)))))) (bX2_fewAndMany_29 N hG N x1 x2 x3 x4 x5 M r h7)) n_ke) (by rfl) h
theorem eX2_fewAndMany {l : Launch} {w : nW} (N : Nat) {G : nG} (hG : n_GOK G) (z1 : Int32) (M : nM) (r : Int32 × nM) (h : fX2_fewAndMany N z1 M = some r) : n_Met l w 65 mX2_fewAndMany [.ref 101, .int z1] (G, M) (dv_i r.1, (G, r.2)) :=
  n_entry (by decide +kernel) rfl (Nat.le_of_ble_eq_true rfl) (n_sub (lv := [(0, .ref 101), (1, .int z1)]) (n_qc rfl (n_qc rfl n_qe)) (bX2_fewAndMany_0 N hG z1 M r h))
abbrev hX2_fewAndMany (N : Nat) : nF := fun T as M k => n_pC 101 as (fun as => n_pI as (fun z1 as => n_pE as ((fX2_fewAndMany N z1 M).bind fun p => k (dv_i p.1) p.2)))
theorem csX2_fewAndMany {l : Launch} {w : nW} (N : Nat) {G : nG} (hG : n_GOK G) : n_CS l w 65 mX2_fewAndMany G (hX2_fewAndMany N) := fun T as M k r h => by
  obtain ⟨t0, rfl, h1⟩ := n_pC_x h
  obtain ⟨z1, t1, rfl, h2⟩ := n_pI_x h1
  obtain ⟨rfl, hE⟩ := n_pE_x h2
  obtain ⟨p, hp, hk⟩ := Option.bind_eq_some_iff.mp hE
  exact ⟨_, _, eX2_fewAndMany N hG z1 M p hp, hk⟩
/-! ===== SleightHouse.heir(I)I ===== -/
def mX11_heir : nY := (RX11, yX11_heir, cX11_heir, 2, some .int)
theorem okX11_heir : n_MOK mX11_heir 1 := ⟨w_1220, w_137, ⟨by decide +kernel, by decide +kernel, by decide +kernel⟩, by decide⟩
abbrev aX11_heir (N : Nat) (G : nG) : List (Nat × nO (Int32 × nM)) := [(0, o_iload 1 1), (1, o_push (.int (-1 : Int32)) 2), (2, oc_eq 18 5), (5, o_aload 0 6), (6, o_gRc 1 2 9), (9, o_iload 1 10), (10, o_callVc 2 1 (hX1_hasPerson) 13), (13, oi_ne 18 16), (16, o_push (.int (-1 : Int32)) 17), (17, o_iret), (18, o_aload 0 19), (19, o_gRc 1 101 22), (22, o_aload 0 23), (23, o_gRc 1 2 26), (26, o_gRc 2 3 29), (29, o_gIc 3 6 32), (32, o_aload 0 33), (33, o_gRc 1 2 36), (36, o_gRc 2 26 39), (39, o_aload 0 40), (40, o_gRc 1 2 43), (43, o_gRc 2 28 46), (46, o_gRc 28 43 49), (49, o_callVc 101 3 (hX2_gather N G) 52), (52, o_iload 1 53), (53, o_push (.int (-1 : Int32)) 54), (54, oc_ne 67 57), (57, o_aload 0 58), (58, o_gRc 1 101 61), (61, o_callVc 101 0 (hX2_ways N) 64), (64, o_goto 75), (67, o_aload 0 68), (68, o_gRc 1 101 71), (71, o_iload 1 72), (72, o_callVc 101 1 (hX2_fewAndMany N) 75), (75, o_iret)]
set_option maxRecDepth 200000 in
theorem iX11_heir {l : Launch} {w : nW} (N : Nat) {G : nG} (hG : n_GOK G) : n_AllS l w 66 mX11_heir G (n_fin dv_i G) (aX11_heir N G) :=
  n_c (s_iload_n (pc := 0) (k := 1) (by decide +kernel)) <|
  n_c (s_iconst (pc := 1) (n := -1) (by decide +kernel) (by decide +kernel)) <|
  n_c (s_icmp_eq (pc := 2) (off := 16) (by decide +kernel) (by decide +kernel)) <|
  n_c (s_aload_n (pc := 5) (k := 0) (by decide +kernel)) <|
  n_c (s_gRc (s_getR (pc := 6) (ci := 11) (k := 0) (idx := 10) nok11 (by decide) rfl (by decide +kernel) w_572) (gk1 hG) (gm1_0 hG)) <|
  n_c (s_iload_n (pc := 9) (k := 1) (by decide +kernel)) <|
  n_c (s_callVc (s_callV (pc := 10) (csX1_hasPerson hG) (by decide) okX1_hasPerson nok1 w_660 w_661 w_659 (by decide +kernel)) (gk2 hG)) <|
  n_c (s_if_ne (pc := 13) (off := 5) (by decide +kernel) (by decide +kernel)) <|
  n_c (s_iconst (pc := 16) (n := -1) (by decide +kernel) (by decide +kernel)) <|
  n_c (s_iret (pc := 17) rfl (by decide +kernel)) <|
  n_c (s_aload_n (pc := 18) (k := 0) (by decide +kernel)) <|
  n_c (s_gRc (s_getR (pc := 19) (ci := 11) (k := 6) (idx := 70) nok11 (by decide) rfl (by decide +kernel) w_578) (gk1 hG) (gm1_6 hG)) <|
  n_c (s_aload_n (pc := 22) (k := 0) (by decide +kernel)) <|
  n_c (s_gRc (s_getR (pc := 23) (ci := 11) (k := 0) (idx := 10) nok11 (by decide) rfl (by decide +kernel) w_572) (gk1 hG) (gm1_0 hG)) <|
  n_c (s_gRc (s_getR (pc := 26) (ci := 1) (k := 0) (idx := 34) nok1 (by decide) rfl (by decide +kernel) w_403) (gk2 hG) (gm2_0 hG)) <|
  n_c (s_gIc (s_getI (pc := 29) (ci := 8) (k := 6) (idx := 345) nok8 (by decide) rfl (by decide +kernel) w_205) (gk3 hG)) <|
  n_c (s_aload_n (pc := 32) (k := 0) (by decide +kernel)) <|
  n_c (s_gRc (s_getR (pc := 33) (ci := 11) (k := 0) (idx := 10) nok11 (by decide) rfl (by decide +kernel) w_572) (gk1 hG) (gm1_0 hG)) <|
  n_c (s_gRc (s_getR (pc := 36) (ci := 1) (k := 6) (idx := 348) nok1 (by decide) rfl (by decide +kernel) w_420) (gk2 hG) (gm2_6 hG)) <|
  n_c (s_aload_n (pc := 39) (k := 0) (by decide +kernel)) <|
  n_c (s_gRc (s_getR (pc := 40) (ci := 11) (k := 0) (idx := 10) nok11 (by decide) rfl (by decide +kernel) w_572) (gk1 hG) (gm1_0 hG)) <|
  n_c (s_gRc (s_getR (pc := 43) (ci := 1) (k := 7) (idx := 56) nok1 (by decide) rfl (by decide +kernel) w_421) (gk2 hG) (gm2_7 hG)) <|
  n_c (s_gRc (s_getR (pc := 46) (ci := 10) (k := 7) (idx := 342) nok10 (by decide) rfl (by decide +kernel) w_379) (gk28 hG) (gm28_7 hG)) <|
  n_c (s_callVc (s_callV (pc := 49) (csX2_gather N hG) (by decide) okX2_gather nok2 w_1222 w_1223 w_1221 (by decide +kernel)) (gk101 hG)) <|
  n_c (s_iload_n (pc := 52) (k := 1) (by decide +kernel)) <|
  n_c (s_iconst (pc := 53) (n := -1) (by decide +kernel) (by decide +kernel)) <|
  n_c (s_icmp_ne (pc := 54) (off := 13) (by decide +kernel) (by decide +kernel)) <|
  n_c (s_aload_n (pc := 57) (k := 0) (by decide +kernel)) <|
  n_c (s_gRc (s_getR (pc := 58) (ci := 11) (k := 6) (idx := 70) nok11 (by decide) rfl (by decide +kernel) w_578) (gk1 hG) (gm1_6 hG)) <|
  n_c (s_callVc (s_callV (pc := 61) (csX2_ways N hG) (by decide) okX2_ways nok2 w_1238 w_1239 w_1237 (by decide +kernel)) (gk101 hG)) <|
  n_c (s_goto (pc := 64) (off := 11) (by decide +kernel) (by decide +kernel)) <|
  n_c (s_aload_n (pc := 67) (k := 0) (by decide +kernel)) <|
  n_c (s_gRc (s_getR (pc := 68) (ci := 11) (k := 6) (idx := 70) nok11 (by decide) rfl (by decide +kernel) w_578) (gk1 hG) (gm1_6 hG)) <|
  n_c (s_iload_n (pc := 71) (k := 1) (by decide +kernel)) <|
  n_c (s_callVc (s_callV (pc := 72) (csX2_fewAndMany N hG) (by decide) okX2_fewAndMany nok2 w_1273 w_1274 w_1272 (by decide +kernel)) (gk101 hG)) <|
  n_c (s_iret (pc := 75) rfl (by decide +kernel)) <|
  n_e
def fX11_heir_18 (N : Nat) (G : nG) (x1 : Int32) (M : nM) : Option (Int32 × nM) :=
  (fX2_gather N G (M 3 6) M).bind fun p1 =>
  if ¬ x1 = (-1 : Int32) then
    (fX2_fewAndMany N x1 p1.2).bind fun p2 =>
    some (p2.1, p2.2)
  else
    (fX2_ways N p1.2).bind fun p3 =>
    some (p3.1, p3.2)
set_option maxRecDepth 200000 in
theorem bX11_heir_18 {l : Launch} {w : nW} (N : Nat) {G : nG} (hG : n_GOK G) (x1 : Int32) (M : nM) (r : Int32 × nM) (h : fX11_heir_18 N G x1 M = some r) : n_At l w 66 mX11_heir 18 [(0, .ref 1), (1, .int x1)] [] (G, M) (dv_i r.1, (G, r.2)) :=
  n_seg (fin := n_fin dv_i G) (K := []) 30 (iX11_heir N hG) n_ke (by rfl) h
def fX11_heir (N : Nat) (G : nG) (x1 : Int32) (M : nM) : Option (Int32 × nM) :=
  if x1 = (-1 : Int32) then
    fX11_heir_18 N G x1 M
  else
    (fX1_hasPerson x1 M).bind fun p1 =>
    if ¬ p1.1 = 0 then
      fX11_heir_18 N G x1 p1.2
    else
      some ((-1 : Int32), p1.2)
set_option maxRecDepth 200000 in
theorem bX11_heir_0 {l : Launch} {w : nW} (N : Nat) {G : nG} (hG : n_GOK G) (x1 : Int32) (M : nM) (r : Int32 × nM) (h : fX11_heir N G x1 M = some r) : n_At l w 66 mX11_heir 0 [(0, .ref 1), (1, .int x1)] [] (G, M) (dv_i r.1, (G, r.2)) :=
  n_seg (fin := n_fin dv_i G) (K := [(18, fun lv st M => n_lC 1 lv 0 (n_lI lv 1 (fun x1 => n_pE st (fX11_heir_18 N G x1 M))))]) 13 (iX11_heir N hG) (n_kc (fun lv st M r h => by
      obtain ⟨e0, h1⟩ := n_lC_x h
      obtain ⟨x1, e1, h2⟩ := n_lI_x h1
      obtain ⟨rfl, h3⟩ := n_pE_x h2
      exact n_sub (n_qc e0 (n_qc e1 n_qe)) (bX11_heir_18 N hG x1 M r h3)) n_ke) (by rfl) h
theorem eX11_heir {l : Launch} {w : nW} (N : Nat) {G : nG} (hG : n_GOK G) (z1 : Int32) (M : nM) (r : Int32 × nM) (h : fX11_heir N G z1 M = some r) : n_Met l w 66 mX11_heir [.ref 1, .int z1] (G, M) (dv_i r.1, (G, r.2)) :=
  n_entry (by decide +kernel) rfl (Nat.le_of_ble_eq_true rfl) (n_sub (lv := [(0, .ref 1), (1, .int z1)]) (n_qc rfl (n_qc rfl n_qe)) (bX11_heir_0 N hG z1 M r h))
abbrev hX11_heir (N : Nat) (G : nG) : nF := fun T as M k => n_pC 1 as (fun as => n_pI as (fun z1 as => n_pE as ((fX11_heir N G z1 M).bind fun p => k (dv_i p.1) p.2)))
theorem csX11_heir {l : Launch} {w : nW} (N : Nat) {G : nG} (hG : n_GOK G) : n_CS l w 66 mX11_heir G (hX11_heir N G) := fun T as M k r h => by
  obtain ⟨t0, rfl, h1⟩ := n_pC_x h
  obtain ⟨z1, t1, rfl, h2⟩ := n_pI_x h1
  obtain ⟨rfl, hE⟩ := n_pE_x h2
  obtain ⟨p, hp, hk⟩ := Option.bind_eq_some_iff.mp hE
  exact ⟨_, _, eX11_heir N hG z1 M p hp, hk⟩
