/-! ===== SleightHouse$Law.valueOf(I[I[I)I ===== -/
def mX3_valueOf : nY := (RX3, yX3_valueOf, cX3_valueOf, 4, some .int)
theorem okX3_valueOf : n_MOK mX3_valueOf 3 := ⟨w_747, w_144, ⟨by decide +kernel, by decide +kernel, by decide +kernel⟩, by decide⟩
abbrev aX3_valueOf (N : Nat) : List (Nat × nO (Int32 × nM)) := [(0, o_iload 1 1), (1, oi_lt 12 4), (4, o_iload 1 5), (5, o_aload 0 6), (6, o_gIc 16 6 9), (9, oc_lt 14 12), (12, o_push (.int (0 : Int32)) 13), (13, o_iret), (14, o_aload 0 15), (15, o_aload 0 16), (16, o_gRc 16 19 19), (19, o_iload 1 20), (20, o_aldc 19 16 21), (21, o_aload 0 22), (22, o_gRc 16 20 25), (25, o_iload 1 26), (26, o_aldc 20 16 27), (27, o_aload 2 28), (28, o_aload 3 29), (29, o_callVc 16 4 (hX3_run N) 32), (32, o_iret)]
set_option maxRecDepth 200000 in
theorem iX3_valueOf {l : Launch} {w : nW} (N : Nat) {G : nG} (hG : n_GOK G) : n_AllS l w 2 mX3_valueOf G (n_fin dv_i G) (aX3_valueOf N) :=
  n_c (s_iload_n (pc := 0) (k := 1) (by decide +kernel)) <|
  n_c (s_if_lt (pc := 1) (off := 11) (by decide +kernel) (by decide +kernel)) <|
  n_c (s_iload_n (pc := 4) (k := 1) (by decide +kernel)) <|
  n_c (s_aload_n (pc := 5) (k := 0) (by decide +kernel)) <|
  n_c (s_gIc (s_getI (pc := 6) (ci := 3) (k := 6) (idx := 31) nok3 (by decide) rfl (by decide +kernel) w_331) (gk16 hG)) <|
  n_c (s_icmp_lt (pc := 9) (off := 5) (by decide +kernel) (by decide +kernel)) <|
  n_c (s_iconst (pc := 12) (n := 0) (by decide +kernel) (by decide +kernel)) <|
  n_c (s_iret (pc := 13) rfl (by decide +kernel)) <|
  n_c (s_aload_n (pc := 14) (k := 0) (by decide +kernel)) <|
  n_c (s_aload_n (pc := 15) (k := 0) (by decide +kernel)) <|
  n_c (s_gRc (s_getR (pc := 16) (ci := 3) (k := 2) (idx := 18) nok3 (by decide) rfl (by decide +kernel) w_327) (gk16 hG) (gm16_2 hG)) <|
  n_c (s_iload_n (pc := 19) (k := 1) (by decide +kernel)) <|
  n_c (s_aldc (s_iaload (pc := 20) (by decide +kernel)) (gk19 hG) (gl19 hG)) <|
  n_c (s_aload_n (pc := 21) (k := 0) (by decide +kernel)) <|
  n_c (s_gRc (s_getR (pc := 22) (ci := 3) (k := 3) (idx := 21) nok3 (by decide) rfl (by decide +kernel) w_328) (gk16 hG) (gm16_3 hG)) <|
  n_c (s_iload_n (pc := 25) (k := 1) (by decide +kernel)) <|
  n_c (s_aldc (s_iaload (pc := 26) (by decide +kernel)) (gk20 hG) (gl20 hG)) <|
  n_c (s_aload_n (pc := 27) (k := 2) (by decide +kernel)) <|
  n_c (s_aload_n (pc := 28) (k := 3) (by decide +kernel)) <|
  n_c (s_callVc (s_callV (pc := 29) (csX3_run N hG) (by decide) okX3_run nok3 w_728 w_5 w_726 (by decide +kernel)) (gk16 hG)) <|
  n_c (s_iret (pc := 32) rfl (by decide +kernel)) <|
  n_e
def fX3_valueOf (N : Nat) (x1 : Int32) (M : nM) : Option (Int32 × nM) :=
  if x1 < 0 then
    some ((0 : Int32), M)
  else
    if x1 < (M 16 6) then
      n_chk (n_ib 16 x1) <|
      n_chk (n_ib 16 x1) <|
      (fX3_run N (M 19 x1.toNatClampNeg) (M 20 x1.toNatClampNeg) M).bind fun p1 =>
      some (p1.1, p1.2)
    else
      some ((0 : Int32), M)
set_option maxRecDepth 200000 in
theorem bX3_valueOf_0 {l : Launch} {w : nW} (N : Nat) {G : nG} (hG : n_GOK G) (x1 : Int32) (M : nM) (r : Int32 × nM) (h : fX3_valueOf N x1 M = some r) : n_At l w 2 mX3_valueOf 0 [(0, .ref 16), (1, .int x1), (2, .ref 46), (3, .ref 47)] [] (G, M) (dv_i r.1, (G, r.2)) :=
  n_seg (fin := n_fin dv_i G) (K := []) 26 (iX3_valueOf N hG) n_ke (by rfl) h
theorem eX3_valueOf {l : Launch} {w : nW} (N : Nat) {G : nG} (hG : n_GOK G) (z1 : Int32) (M : nM) (r : Int32 × nM) (h : fX3_valueOf N z1 M = some r) : n_Met l w 2 mX3_valueOf [.ref 16, .int z1, .ref 46, .ref 47] (G, M) (dv_i r.1, (G, r.2)) :=
  n_entry (by decide +kernel) rfl (Nat.le_of_ble_eq_true rfl) (n_sub (lv := [(0, .ref 16), (1, .int z1), (2, .ref 46), (3, .ref 47)]) (n_qc rfl (n_qc rfl (n_qc rfl (n_qc rfl n_qe)))) (bX3_valueOf_0 N hG z1 M r h))
abbrev hX3_valueOf (N : Nat) : nF := fun T as M k => n_pC 16 as (fun as => n_pI as (fun z1 as => n_pC 46 as (fun as => n_pC 47 as (fun as => n_pE as ((fX3_valueOf N z1 M).bind fun p => k (dv_i p.1) p.2)))))
theorem csX3_valueOf {l : Launch} {w : nW} (N : Nat) {G : nG} (hG : n_GOK G) : n_CS l w 2 mX3_valueOf G (hX3_valueOf N) := fun T as M k r h => by
  obtain ⟨t0, rfl, h1⟩ := n_pC_x h
  obtain ⟨z1, t1, rfl, h2⟩ := n_pI_x h1
  obtain ⟨t2, rfl, h3⟩ := n_pC_x h2
  obtain ⟨t3, rfl, h4⟩ := n_pC_x h3
  obtain ⟨rfl, hE⟩ := n_pE_x h4
  obtain ⟨p, hp, hk⟩ := Option.bind_eq_some_iff.mp hE
  exact ⟨_, _, eX3_valueOf N hG z1 M p hp, hk⟩
/-! ===== SleightHouse$Doings.asked(LSleightHouse$Moving;IIII)I ===== -/
def mX0_asked : nY := (RX0, yX0_asked, cX0_asked, 9, some .int)
theorem okX0_asked : n_MOK mX0_asked 5 := ⟨w_716, w_146, ⟨by decide +kernel, by decide +kernel, by decide +kernel⟩, by decide⟩
abbrev aX0_asked (N : Nat) (G : nG) : List (Nat × nO (Int32 × nM)) := [(0, o_aload 0 1), (1, o_aload 1 2), (2, o_iload 3 3), (3, o_iload 4 5), (5, o_iload 5 7), (7, o_callVc 45 4 (hX0_gatherFacts N G) 10), (10, o_aload 0 11), (11, o_gRc 45 2 14), (14, o_gRc 2 16 17), (17, o_iload 2 18), (18, o_aload 0 19), (19, o_gRc 45 46 22), (22, o_aload 0 23), (23, o_gRc 45 47 26), (26, o_callVc 16 3 (hX3_lineFor N) 29), (29, o_istore 9 6 31), (31, o_iload 6 33), (33, o_push (.int (-1 : Int32)) 34), (34, oc_ne 45 37), (37, o_aload 0 38), (38, o_iload 2 39), (39, o_callVc 45 1 (hX0_withoutLaw) 42), (42, o_goto 65), (45, o_aload 0 46), (46, o_gRc 45 2 49), (49, o_gRc 2 16 52), (52, o_iload 6 54), (54, o_aload 0 55), (55, o_gRc 45 46 58), (58, o_aload 0 59), (59, o_gRc 45 47 62), (62, o_callVc 16 3 (hX3_valueOf N) 65), (65, o_istore 9 7 67), (67, o_iload 2 68), (68, o_push (.int (1 : Int32)) 69), (69, oc_ne 77 72), (72, o_push (.int (99 : Int32)) 74), (74, o_goto 80), (77, o_push (.int (1000 : Int32)) 80), (80, o_istore 9 8 82), (82, o_push (.int (0 : Int32)) 83), (83, o_iload 7 85), (85, o_iload 8 87), (87, o_mmin 90), (90, o_mmax 93), (93, o_iret)]
set_option maxRecDepth 200000 in
theorem iX0_asked {l : Launch} {w : nW} (N : Nat) {G : nG} (hG : n_GOK G) : n_AllS l w 3 mX0_asked G (n_fin dv_i G) (aX0_asked N G) :=
  n_c (s_aload_n (pc := 0) (k := 0) (by decide +kernel)) <|
  n_c (s_aload_n (pc := 1) (k := 1) (by decide +kernel)) <|
  n_c (s_iload_n (pc := 2) (k := 3) (by decide +kernel)) <|
  n_c (s_iload (pc := 3) (by decide +kernel)) <|
  n_c (s_iload (pc := 5) (by decide +kernel)) <|
  n_c (s_callVc (s_callV (pc := 7) (csX0_gatherFacts N hG) (by decide) okX0_gatherFacts nok0 w_719 w_4 w_717 (by decide +kernel)) (gk45 hG)) <|
  n_c (s_aload_n (pc := 10) (k := 0) (by decide +kernel)) <|
  n_c (s_gRc (s_getR (pc := 11) (ci := 0) (k := 0) (idx := 20) nok0 (by decide) rfl (by decide +kernel) w_446) (gk45 hG) (gm45_0 hG)) <|
  n_c (s_gRc (s_getR (pc := 14) (ci := 1) (k := 3) (idx := 52) nok1 (by decide) rfl (by decide +kernel) w_411) (gk2 hG) (gm2_3 hG)) <|
  n_c (s_iload_n (pc := 17) (k := 2) (by decide +kernel)) <|
  n_c (s_aload_n (pc := 18) (k := 0) (by decide +kernel)) <|
  n_c (s_gRc (s_getR (pc := 19) (ci := 0) (k := 1) (idx := 11) nok0 (by decide) rfl (by decide +kernel) w_447) (gk45 hG) (gm45_1 hG)) <|
  n_c (s_aload_n (pc := 22) (k := 0) (by decide +kernel)) <|
  n_c (s_gRc (s_getR (pc := 23) (ci := 0) (k := 2) (idx := 17) nok0 (by decide) rfl (by decide +kernel) w_448) (gk45 hG) (gm45_2 hG)) <|
  n_c (s_callVc (s_callV (pc := 26) (csX3_lineFor N hG) (by decide) okX3_lineFor nok3 w_723 w_724 w_722 (by decide +kernel)) (gk16 hG)) <|
  n_c (s_istore (pc := 29) (by decide +kernel)) <|
  n_c (s_iload (pc := 31) (by decide +kernel)) <|
  n_c (s_iconst (pc := 33) (n := -1) (by decide +kernel) (by decide +kernel)) <|
  n_c (s_icmp_ne (pc := 34) (off := 11) (by decide +kernel) (by decide +kernel)) <|
  n_c (s_aload_n (pc := 37) (k := 0) (by decide +kernel)) <|
  n_c (s_iload_n (pc := 38) (k := 2) (by decide +kernel)) <|
  n_c (s_callVc (s_callV (pc := 39) (csX0_withoutLaw hG) (by decide) okX0_withoutLaw nok0 w_742 w_6 w_740 (by decide +kernel)) (gk45 hG)) <|
  n_c (s_goto (pc := 42) (off := 23) (by decide +kernel) (by decide +kernel)) <|
  n_c (s_aload_n (pc := 45) (k := 0) (by decide +kernel)) <|
  n_c (s_gRc (s_getR (pc := 46) (ci := 0) (k := 0) (idx := 20) nok0 (by decide) rfl (by decide +kernel) w_446) (gk45 hG) (gm45_0 hG)) <|
  n_c (s_gRc (s_getR (pc := 49) (ci := 1) (k := 3) (idx := 52) nok1 (by decide) rfl (by decide +kernel) w_411) (gk2 hG) (gm2_3 hG)) <|
  n_c (s_iload (pc := 52) (by decide +kernel)) <|
  n_c (s_aload_n (pc := 54) (k := 0) (by decide +kernel)) <|
  n_c (s_gRc (s_getR (pc := 55) (ci := 0) (k := 1) (idx := 11) nok0 (by decide) rfl (by decide +kernel) w_447) (gk45 hG) (gm45_1 hG)) <|
  n_c (s_aload_n (pc := 58) (k := 0) (by decide +kernel)) <|
  n_c (s_gRc (s_getR (pc := 59) (ci := 0) (k := 2) (idx := 17) nok0 (by decide) rfl (by decide +kernel) w_448) (gk45 hG) (gm45_2 hG)) <|
  n_c (s_callVc (s_callV (pc := 62) (csX3_valueOf N hG) (by decide) okX3_valueOf nok3 w_745 w_746 w_744 (by decide +kernel)) (gk16 hG)) <|
  n_c (s_istore (pc := 65) (by decide +kernel)) <|
  n_c (s_iload_n (pc := 67) (k := 2) (by decide +kernel)) <|
  n_c (s_iconst (pc := 68) (n := 1) (by decide +kernel) (by decide +kernel)) <|
  n_c (s_icmp_ne (pc := 69) (off := 8) (by decide +kernel) (by decide +kernel)) <|
  n_c (s_bipush (pc := 72) (n := 99) (by decide +kernel) (by decide +kernel)) <|
  n_c (s_goto (pc := 74) (off := 6) (by decide +kernel) (by decide +kernel)) <|
  n_c (s_sipush (pc := 77) (n := 1000) (by decide +kernel) (by decide +kernel)) <|
  n_c (s_istore (pc := 80) (by decide +kernel)) <|
  n_c (s_iconst (pc := 82) (n := 0) (by decide +kernel) (by decide +kernel)) <|
  n_c (s_iload (pc := 83) (by decide +kernel)) <|
  n_c (s_iload (pc := 85) (by decide +kernel)) <|
  n_c (s_mmin (pc := 87) w_748 w_298 w_143 w_299 (by decide +kernel)) <|
  n_c (s_mmax (pc := 90) w_749 w_295 w_143 w_296 (by decide +kernel)) <|
  n_c (s_iret (pc := 93) rfl (by decide +kernel)) <|
  n_e
def fX0_asked_80 (N : Nat) (G : nG) (x7 : Int32) (s0 : Int32) (M : nM) : Option (Int32 × nM) :=
  some ((if (0 : Int32) < (if s0 < x7 then s0 else x7) then (if s0 < x7 then s0 else x7) else (0 : Int32)), M)
set_option maxRecDepth 200000 in
theorem bX0_asked_80 {l : Launch} {w : nW} (N : Nat) {G : nG} (hG : n_GOK G) (x7 : Int32) (s0 : Int32) (M : nM) (r : Int32 × nM) (h : fX0_asked_80 N G x7 s0 M = some r) : n_At l w 3 mX0_asked 80 [(7, .int x7)] [.int s0] (G, M) (dv_i r.1, (G, r.2)) :=
  n_seg (fin := n_fin dv_i G) (K := []) 10 (iX0_asked N hG) n_ke (by rfl) h
def fX0_asked_65 (N : Nat) (G : nG) (x2 : Int32) (s0 : Int32) (M : nM) : Option (Int32 × nM) :=
  if ¬ x2 = (1 : Int32) then
    fX0_asked_80 N G s0 (1000 : Int32) M
  else
    fX0_asked_80 N G s0 (99 : Int32) M
set_option maxRecDepth 200000 in
theorem bX0_asked_65 {l : Launch} {w : nW} (N : Nat) {G : nG} (hG : n_GOK G) (x2 : Int32) (s0 : Int32) (M : nM) (r : Int32 × nM) (h : fX0_asked_65 N G x2 s0 M = some r) : n_At l w 3 mX0_asked 65 [(2, .int x2)] [.int s0] (G, M) (dv_i r.1, (G, r.2)) :=
  n_seg (fin := n_fin dv_i G) (K := [(80, fun lv st M => n_lI lv 7 (fun x7 => n_pI st (fun s0 st => n_pE st (fX0_asked_80 N G x7 s0 M))))]) 10 (iX0_asked N hG) (n_kc (fun lv st M r h => by
      obtain ⟨x7, e7, h1⟩ := n_lI_x h
      obtain ⟨s0, t0, rfl, h2⟩ := n_pI_x h1
      obtain ⟨rfl, h3⟩ := n_pE_x h2
      exact n_sub (n_qc e7 n_qe) (bX0_asked_80 N hG x7 s0 M r h3)) n_ke) (by rfl) h
def fX0_asked (N : Nat) (G : nG) (x1 : Nat) (x2 : Int32) (x3 : Int32) (x4 : Int32) (x5 : Int32) (M : nM) : Option (Int32 × nM) :=
  (fX0_gatherFacts N G x1 x3 x4 x5 M).bind fun p1 =>
  (fX3_lineFor N x2 p1.2).bind fun p2 =>
  if ¬ p2.1 = (-1 : Int32) then
    (fX3_valueOf N p2.1 p2.2).bind fun p3 =>
    fX0_asked_65 N G x2 p3.1 p3.2
  else
    (fX0_withoutLaw x2 p2.2).bind fun p4 =>
    fX0_asked_65 N G x2 p4.1 p4.2
set_option maxRecDepth 200000 in
theorem bX0_asked_0 {l : Launch} {w : nW} (N : Nat) {G : nG} (hG : n_GOK G) (x1 : Nat) (x2 : Int32) (x3 : Int32) (x4 : Int32) (x5 : Int32) (M : nM) (r : Int32 × nM) (h : fX0_asked N G x1 x2 x3 x4 x5 M = some r) : n_At l w 3 mX0_asked 0 [(0, .ref 45), (1, .ref x1), (2, .int x2), (3, .int x3), (4, .int x4), (5, .int x5)] [] (G, M) (dv_i r.1, (G, r.2)) :=
  n_seg (fin := n_fin dv_i G) (K := [(65, fun lv st M => n_lI lv 2 (fun x2 => n_pI st (fun s0 st => n_pE st (fX0_asked_65 N G x2 s0 M))))]) 35 (iX0_asked N hG) (n_kc (fun lv st M r h => by
      obtain ⟨x2, e2, h1⟩ := n_lI_x h
      obtain ⟨s0, t0, rfl, h2⟩ := n_pI_x h1
      obtain ⟨rfl, h3⟩ := n_pE_x h2
      exact n_sub (n_qc e2 n_qe) (bX0_asked_65 N hG x2 s0 M r h3)) n_ke) (by rfl) h
theorem eX0_asked {l : Launch} {w : nW} (N : Nat) {G : nG} (hG : n_GOK G) (z1 : Nat) (z2 : Int32) (z3 : Int32) (z4 : Int32) (z5 : Int32) (M : nM) (r : Int32 × nM) (h : fX0_asked N G z1 z2 z3 z4 z5 M = some r) : n_Met l w 3 mX0_asked [.ref 45, .ref z1, .int z2, .int z3, .int z4, .int z5] (G, M) (dv_i r.1, (G, r.2)) :=
  n_entry (by decide +kernel) rfl (Nat.le_of_ble_eq_true rfl) (n_sub (lv := [(0, .ref 45), (1, .ref z1), (2, .int z2), (3, .int z3), (4, .int z4), (5, .int z5)]) (n_qc rfl (n_qc rfl (n_qc rfl (n_qc rfl (n_qc rfl (n_qc rfl n_qe)))))) (bX0_asked_0 N hG z1 z2 z3 z4 z5 M r h))
abbrev hX0_asked (N : Nat) (G : nG) : nF := fun T as M k => n_pC 45 as (fun as => n_pR as (fun z1 as => n_pI as (fun z2 as => n_pI as (fun z3 as => n_pI as (fun z4 as => n_pI as (fun z5 as => n_pE as ((fX0_asked N G z1 z2 z3 z4 z5 M).bind fun p => k (dv_i p.1) p.2)))))))
theorem csX0_asked {l : Launch} {w : nW} (N : Nat) {G : nG} (hG : n_GOK G) : n_CS l w 3 mX0_asked G (hX0_asked N G) := fun T as M k r h => by
  obtain ⟨t0, rfl, h1⟩ := n_pC_x h
  obtain ⟨z1, t1, rfl, h2⟩ := n_pR_x h1
  obtain ⟨z2, t2, rfl, h3⟩ := n_pI_x h2
  obtain ⟨z3, t3, rfl, h4⟩ := n_pI_x h3
  obtain ⟨z4, t4, rfl, h5⟩ := n_pI_x h4
  obtain ⟨z5, t5, rfl, h6⟩ := n_pI_x h5
  obtain ⟨rfl, hE⟩ := n_pE_x h6
  obtain ⟨p, hp, hk⟩ := Option.bind_eq_some_iff.mp hE
  exact ⟨_, _, eX0_asked N hG z1 z2 z3 z4 z5 M p hp, hk⟩
/-! ===== SleightHouse$Doings.comesToPass(LSleightHouse$Moving;I)Z ===== -/
def mX0_comesToPass : nY := (RX0, yX0_comesToPass, cX0_comesToPass, 3, some .boolean)
theorem okX0_comesToPass : n_MOK mX0_comesToPass 2 := ⟨w_753, w_146, ⟨by decide +kernel, by decide +kernel, by decide +kernel⟩, by decide⟩
abbrev aX0_comesToPass (G : nG) : List (Nat × nO (Int32 × nM)) := [(0, o_aload 1 1), (1, o_getI G 4 0 4), (4, oi_eq 20 7), (7, o_iload 2 8), (8, o_push (.int (500 : Int32)) 11), (11, oc_lt 18 14), (14, o_push (.int (1 : Int32)) 15), (15, o_goto 19), (18, o_push (.int (0 : Int32)) 19), (19, o_zret), (20, o_aload 1 21), (21, o_aload 1 22), (22, o_getI G 4 10 25), (25, o_push (.int (1664525 : Int32)) 27), (27, o_imul 28), (28, o_push (.int (1013904223 : Int32)) 30), (30, o_iadd 31), (31, o_putI G 4 10 34), (34, o_aload 1 35), (35, o_getI G 4 10 38), (38, o_push (.int (8 : Int32)) 40), (40, o_iushr 41), (41, o_push (.int (1000 : Int32)) 44), (44, o_irem 45), (45, o_iload 2 46), (46, oc_ge 53 49), (49, o_push (.int (1 : Int32)) 50), (50, o_goto 54), (53, o_push (.int (0 : Int32)) 54), (54, o_zret)]
set_option maxRecDepth 200000 in
theorem iX0_comesToPass {l : Launch} {w : nW} {G : nG} : n_AllS l w 0 mX0_comesToPass G (n_fin dv_i G) (aX0_comesToPass G) :=
  n_c (s_aload_n (pc := 0) (k := 1) (by decide +kernel)) <|
  n_c (s_getI (pc := 1) (ci := 4) (k := 0) (idx := 107) nok4 (by decide) rfl (by decide +kernel) w_229) <|
  n_c (s_if_eq (pc := 4) (off := 16) (by decide +kernel) (by decide +kernel)) <|
  n_c (s_iload_n (pc := 7) (k := 2) (by decide +kernel)) <|
  n_c (s_sipush (pc := 8) (n := 500) (by decide +kernel) (by decide +kernel)) <|
  n_c (s_icmp_lt (pc := 11) (off := 7) (by decide +kernel) (by decide +kernel)) <|
  n_c (s_iconst (pc := 14) (n := 1) (by decide +kernel) (by decide +kernel)) <|
  n_c (s_goto (pc := 15) (off := 4) (by decide +kernel) (by decide +kernel)) <|
  n_c (s_iconst (pc := 18) (n := 0) (by decide +kernel) (by decide +kernel)) <|
  n_c (s_zret (pc := 19) rfl (by decide +kernel)) <|
  n_c (s_aload_n (pc := 20) (k := 1) (by decide +kernel)) <|
  n_c (s_aload_n (pc := 21) (k := 1) (by decide +kernel)) <|
  n_c (s_getI (pc := 22) (ci := 4) (k := 10) (idx := 111) nok4 (by decide) rfl (by decide +kernel) w_259) <|
  n_c (s_ldc (pc := 25) (i := 114) (by decide +kernel) w_754) <|
  n_c (s_imul (pc := 27) (by decide +kernel)) <|
  n_c (s_ldc (pc := 28) (i := 115) (by decide +kernel) w_755) <|
  n_c (s_iadd (pc := 30) (by decide +kernel)) <|
  n_c (s_putI (pc := 31) (ci := 4) (k := 10) (idx := 111) nok4 (by decide) rfl rfl (by decide +kernel) w_259) <|
  n_c (s_aload_n (pc := 34) (k := 1) (by decide +kernel)) <|
  n_c (s_getI (pc := 35) (ci := 4) (k := 10) (idx := 111) nok4 (by decide) rfl (by decide +kernel) w_259) <|
  n_c (s_bipush (pc := 38) (n := 8) (by decide +kernel) (by decide +kernel)) <|
  n_c (s_iushr (pc := 40) (by decide +kernel)) <|
  n_c (s_sipush (pc := 41) (n := 1000) (by decide +kernel) (by decide +kernel)) <|
  n_c (s_irem (pc := 44) (by decide +kernel)) <|
  n_c (s_iload_n (pc := 45) (k := 2) (by decide +kernel)) <|
  n_c (s_icmp_ge (pc := 46) (off := 7) (by decide +kernel) (by decide +kernel)) <|
  n_c (s_iconst (pc := 49) (n := 1) (by decide +kernel) (by decide +kernel)) <|
  n_c (s_goto (pc := 50) (off := 4) (by decide +kernel) (by decide +kernel)) <|
  n_c (s_iconst (pc := 53) (n := 0) (by decide +kernel) (by decide +kernel)) <|
  n_c (s_zret (pc := 54) rfl (by decide +kernel)) <|
  n_e
def fX0_comesToPass (G : nG) (x1 : Nat) (x2 : Int32) (M : nM) : Option (Int32 × nM) :=
  n_chk (Nat.beq (n_kd G x1) 4) <|
  if (M x1 0) = 0 then
    n_chk (Nat.beq (n_kd G x1) 4) <|
    n_chk (Nat.beq (n_kd G x1) 4) <|
    let M1 : nM := n_up M x1 10 (((M x1 10) * (1664525 : Int32)) + (1013904223 : Int32))
    n_chk (Nat.beq (n_kd G x1) 4) <|
    if (1000 : Int32) = 0 then none else
    if x2 ≤ (((M1 x1 10).toUInt32 >>> ((8 : Int32).toUInt32 &&& Int32.toUInt32 31)).toInt32 - ((M1 x1 10).toUInt32 >>> ((8 : Int32).toUInt32 &&& Int32.toUInt32 31)).toInt32 / (1000 : Int32) * (1000 : Int32)) then
      some ((0 : Int32), M1)
    else
      some ((1 : Int32), M1)
  else
    if x2 < (500 : Int32) then
      some ((0 : Int32), M)
    else
      some ((1 : Int32), M)
set_option maxRecDepth 200000 in
theorem bX0_comesToPass_0 {l : Launch} {w : nW} {G : nG} (x1 : Nat) (x2 : Int32) (M : nM) (r : Int32 × nM) (h : fX0_comesToPass G x1 x2 M = some r) : n_At l w 0 mX0_comesToPass 0 [(1, .ref x1), (2, .int x2)] [] (G, M) (dv_i r.1, (G, r.2)) :=
  n_seg (fin := n_fin dv_i G) (K := []) 35 (iX0_comesToPass) n_ke (by rfl) h
theorem eX0_comesToPass {l : Launch} {w : nW} {G : nG} (z1 : Nat) (z2 : Int32) (M : nM) (r : Int32 × nM) (h : fX0_comesToPass G z1 z2 M = some r) : n_Met l w 0 mX0_comesToPass [.ref 45, .ref z1, .int z2] (G, M) (dv_i r.1, (G, r.2)) :=
  n_entry (by decide +kernel) rfl (Nat.le_of_ble_eq_true rfl) (n_sub (lv := [(0, .ref 45), (1, .ref z1), (2, .int z2)]) (n_qc rfl (n_qc rfl n_qe)) (bX0_comesToPass_0 z1 z2 M r h))
abbrev hX0_comesToPass (G : nG) : nF := fun T as M k => n_pC 45 as (fun as => n_pR as (fun z1 as => n_pI as (fun z2 as => n_pE as ((fX0_comesToPass G z1 z2 M).bind fun p => k (dv_i p.1) p.2))))
theorem csX0_comesToPass {l : Launch} {w : nW} {G : nG} : n_CS l w 0 mX0_comesToPass G (hX0_comesToPass G) := fun T as M k r h => by
  obtain ⟨t0, rfl, h1⟩ := n_pC_x h
  obtain ⟨z1, t1, rfl, h2⟩ := n_pR_x h1
  obtain ⟨z2, t2, rfl, h3⟩ := n_pI_x h2
  obtain ⟨rfl, hE⟩ := n_pE_x h3
  obtain ⟨p, hp, hk⟩ := Option.bind_eq_some_iff.mp hE
  exact ⟨_, _, eX0_comesToPass z1 z2 M p hp, hk⟩
/-! ===== SleightHouse$Doings.sleeve(LSleightHouse$Moving;III)I ===== -/
def mX0_sleeve : nY := (RX0, yX0_sleeve, cX0_sleeve, 7, some .int)
theorem okX0_sleeve : n_MOK mX0_sleeve 4 := ⟨w_759, w_146, ⟨by decide +kernel, by decide +kernel, by decide +kernel⟩, by decide⟩
abbrev aX0_sleeve (N : Nat) (G : nG) : List (Nat × nO (Int32 × nM)) := [(0, o_push (.int (0 : Int32)) 1), (1, o_istore 7 5 3), (3, o_iload 5 5), (5, o_push (.int (12 : Int32)) 7), (7, oc_ge 48 10), (10, o_iload 3 11), (11, o_iload 4 13), (13, o_iadd 14), (14, o_iload 5 16), (16, o_iadd 17), (17, o_push (.int (12 : Int32)) 19), (19, o_irem 20), (20, o_istore 7 6 22), (22, o_iload 6 24), (24, o_iload 3 25), (25, oc_eq 42 28), (28, o_aload 0 29), (29, o_aload 1 30), (30, o_iload 2 31), (31, o_iload 6 33), (33, o_callVc 45 3 (hX0_hasRoom N G) 36), (36, oi_eq 42 39), (39, o_iload 6 41), (41, o_iret), (42, o_inc 7 5 (1 : Int32) 45), (45, o_goto 3), (48, o_iload 3 49), (49, o_iret)]
set_option maxRecDepth 200000 in
theorem iX0_sleeve {l : Launch} {w : nW} (N : Nat) {G : nG} (hG : n_GOK G) : n_AllS l w 2 mX0_sleeve G (n_fin dv_i G) (aX0_sleeve N G) :=
  n_c (s_iconst (pc := 0) (n := 0) (by decide +kernel) (by decide +kernel)) <|
  n_c (s_istore (pc := 1) (by decide +kernel)) <|
  n_c (s_iload (pc := 3) (by decide +kernel)) <|
  n_c (s_bipush (pc := 5) (n := 12) (by decide +kernel) (by decide +kernel)) <|
  n_c (s_icmp_ge (pc := 7) (off := 41) (by decide +kernel) (by decide +kernel)) <|
  n_c (s_iload_n (pc := 10) (k := 3) (by decide +kernel)) <|
  n_c (s_iload (pc := 11) (by decide +kernel)) <|
  n_c (s_iadd (pc := 13) (by decide +kernel)) <|
  n_c (s_iload (pc := 14) (by decide +kernel)) <|
  n_c (s_iadd (pc := 16) (by decide +kernel)) <|
  n_c (s_bipush (pc := 17) (n := 12) (by decide +kernel) (by decide +kernel)) <|
  n_c (s_irem (pc := 19) (by decide +kernel)) <|
  n_c (s_istore (pc := 20) (by decide +kernel)) <|
  n_c (s_iload (pc := 22) (by decide +kernel)) <|
  n_c (s_iload_n (pc := 24) (k := 3) (by decide +kernel)) <|
  n_c (s_icmp_eq (pc := 25) (off := 17) (by decide +kernel) (by decide +kernel)) <|
  n_c (s_aload_n (pc := 28) (k := 0) (by decide +kernel)) <|
  n_c (s_aload_n (pc := 29) (k := 1) (by decide +kernel)) <|
  n_c (s_iload_n (pc := 30) (k := 2) (by decide +kernel)) <|
  n_c (s_iload (pc := 31) (by decide +kernel)) <|
  n_c (s_callVc (s_callV (pc := 33) (csX0_hasRoom N hG) (by decide) okX0_hasRoom nok0 w_682 w_2 w_680 (by decide +kernel)) (gk45 hG)) <|
  n_c (s_if_eq (pc := 36) (off := 6) (by decide +kernel) (by decide +kernel)) <|
  n_c (s_iload (pc := 39) (by decide +kernel)) <|
  n_c (s_iret (pc := 41) rfl (by decide +kernel)) <|
  n_c (s_iinc (pc := 42) (n := 1) (by decide +kernel) (by decide +kernel)) <|
  n_c (s_goto (pc := 45) (off := -42) (by decide +kernel) (by decide +kernel)) <|
  n_c (s_iload_n (pc := 48) (k := 3) (by decide +kernel)) <|
  n_c (s_iret (pc := 49) rfl (by decide +kernel)) <|
  n_e
def fX0_sleeve_3 (N : Nat) (G : nG) : Nat → Nat → Int32 → Int32 → Int32 → Int32 → nM → Option (Int32 × nM)
  | 0, _, _, _, _, _, _ => none
  | n + 1, x1, x2, x3, x4, x5, M =>
    if (12 : Int32) ≤ x5 then
      some (x3, M)
    else
      if (12 : Int32) = 0 then none else
      let v1 : Int32 := (((x3 + x4) + x5) - ((x3 + x4) + x5) / (12 : Int32) * (12 : Int32))
      if v1 = x3 then
        let v2 : Int32 := (x5 + (1 : Int32))
        fX0_sleeve_3 N G n x1 x2 x3 x4 v2 M
      else
        (fX0_hasRoom N G x1 x2 v1 M).bind fun p3 =>
        if p3.1 = 0 then
          let v4 : Int32 := (x5 + (1 : Int32))
          fX0_sleeve_3 N G n x1 x2 x3 x4 v4 p3.2
        else
          some (v1, p3.2)
set_option maxRecDepth 200000 in
theorem bX0_sleeve_3 {l : Launch} {w : nW} (N : Nat) {G : nG} (hG : n_GOK G) : ∀ (n : Nat) (x1 : Nat) (x2 : Int32) (x3 : Int32) (x4 : Int32) (x5 : Int32) (M : nM) (r : Int32 × nM), fX0_sleeve_3 N G n x1 x2 x3 x4 x5 M = some r → n_At l w 2 mX0_sleeve 3 [(0, .ref 45), (1, .ref x1), (2, .int x2), (3, .int x3), (4, .int x4), (5, .int x5)] [] (G, M) (dv_i r.1, (G, r.2)) := by
  intro n
  induction n with
  | zero => intro x1 x2 x3 x4 x5 M r h; cases (show (none : Option (Int32 × nM)) = some r from h)
  | succ n ih =>
    intro x1 x2 x3 x4 x5 M r h
    exact n_seg (fin := n_fin dv_i G) (K := [(3, fun lv st M => n_lC 45 lv 0 (n_lR lv 1 (fun x1 => n_lI lv 2 (fun x2 => n_lI lv 3 (fun x3 => n_lI lv 4 (fun x4 => n_lI lv 5 (fun x5 => n_pE st (fX0_sleeve_3 N G n x1 x2 x3 x4 x5 M))))))))]) 31 (iX0_sleeve N hG) (n_kc (fun lv st M r h => by
      obtain ⟨e0, h1⟩ := n_lC_x h
      obtain ⟨x1, e1, h2⟩ := n_lR_x h1
      obtain ⟨x2, e2, h3⟩ := n_lI_x h2
      obtain ⟨x3, e3, h4⟩ := n_lI_x h3
      obtain ⟨x4, e4, h5⟩ := n_lI_x h4
      obtain ⟨x5, e5, h6⟩ := n_lI_x h5
      obtain ⟨rfl, h7⟩ := n_pE_x h6
      exact n_sub (n_qc e0 (n_qc e1 (n_qc e2 (n_qc e3 (n_qc e4 (n_qc e5 n_qe)))))) (ih x1 x2 x3 x4 x5 M r h7)) n_ke) (by rfl) h
def fX0_sleeve (N : Nat) (G : nG) (x1 : Nat) (x2 : Int32) (x3 : Int32) (x4 : Int32) (M : nM) : Option (Int32 × nM) :=
  fX0_sleeve_3 N G N x1 x2 x3 x4 (0 : Int32) M
set_option maxRecDepth 200000 in
theorem bX0_sleeve_0 {l : Launch} {w : nW} (N : Nat) {G : nG} (hG : n_GOK G) (x1 : Nat) (x2 : Int32) (x3 : Int32) (x4 : Int32) (M : nM) (r : Int32 × nM) (h : fX0_sleeve N G x1 x2 x3 x4 M = some r) : n_At l w 2 mX0_sleeve 0 [(0, .ref 45), (1, .ref x1), (2, .int x2), (3, .int x3), (4, .int x4)] [] (G, M) (dv_i r.1, (G, r.2)) :=
  n_seg (fin := n_fin dv_i G) (K := [(3, fun lv st M => n_lC 45 lv 0 (n_lR lv 1 (fun x1 => n_lI lv 2 (fun x2 => n_lI lv 3 (fun x3 => n_lI lv 4 (fun x4 => n_lI lv 5 (fun x5 => n_pE st (fX0_sleeve_3 N G N x1 x2 x3 x4 x5 M))))))))]) 5 (iX0_sleeve N hG) (n_kc (fun lv st M r h => by
      obtain ⟨e0, h1⟩ := n_lC_x h
      obtain ⟨x1, e1, h2⟩ := n_lR_x h1
      obtain ⟨x2, e2, h3⟩ := n_lI_x h2
      obtain ⟨x3, e3, h4⟩ := n_lI_x h3
      obtain ⟨x4, e4, h5⟩ := n_lI_x h4
      obtain ⟨x5, e5, h6⟩ := n_lI_x h5
      obtain ⟨rfl, h7⟩ := n_pE_x h6
      exact n_sub (n_qc e0 (n_qc e1 (n_qc e2 (n_qc e3 (n_qc e4 (n_qc e5 n_qe)))))) (bX0_sleeve_3 N hG N x1 x2 x3 x4 x5 M r h7)) n_ke) (by rfl) h
theorem eX0_sleeve {l : Launch} {w : nW} (N : Nat) {G : nG} (hG : n_GOK G) (z1 : Nat) (z2 : Int32) (z3 : Int32) (z4 : Int32) (M : nM) (r : Int32 × nM) (h : fX0_sleeve N G z1 z2 z3 z4 M = some r) : n_Met l w 2 mX0_sleeve [.ref 45, .ref z1, .int z2, .int z3, .int z4] (G, M) (dv_i r.1, (G, r.2)) :=
  n_entry (by decide +kernel) rfl (Nat.le_of_ble_eq_true rfl) (n_sub (lv := [(0, .ref 45), (1, .ref z1), (2, .int z2), (3, .int z3), (4, .int z4)]) (n_qc rfl (n_qc rfl (n_qc rfl (n_qc rfl (n_qc rfl n_qe))))) (bX0_sleeve_0 N hG z1 z2 z3 z4 M r h))
abbrev hX0_sleeve (N : Nat) (G : nG) : nF := fun T as M k => n_pC 45 as (fun as => n_pR as (fun z1 as => n_pI as (fun z2 as => n_pI as (fun z3 as => n_pI as (fun z4 as => n_pE as ((fX0_sleeve N G z1 z2 z3 z4 M).bind fun p => k (dv_i p.1) p.2))))))
theorem csX0_sleeve {l : Launch} {w : nW} (N : Nat) {G : nG} (hG : n_GOK G) : n_CS l w 2 mX0_sleeve G (hX0_sleeve N G) := fun T as M k r h => by
  obtain ⟨t0, rfl, h1⟩ := n_pC_x h
  obtain ⟨z1, t1, rfl, h2⟩ := n_pR_x h1
  obtain ⟨z2, t2, rfl, h3⟩ := n_pI_x h2
  obtain ⟨z3, t3, rfl, h4⟩ := n_pI_x h3
  obtain ⟨z4, t4, rfl, h5⟩ := n_pI_x h4
  obtain ⟨rfl, hE⟩ := n_pE_x h5
  obtain ⟨p, hp, hk⟩ := Option.bind_eq_some_iff.mp hE
  exact ⟨_, _, eX0_sleeve N hG z1 z2 z3 z4 M p hp, hk⟩
/-! ===== SleightHouse$Doings.putDown(LSleightHouse$Moving;III)Z ===== -/
def mX0_putDown : nY := (RX0, yX0_putDown, cX0_putDown, 6, some .boolean)
theorem okX0_putDown : n_MOK mX0_putDown 4 := ⟨w_703, w_146, ⟨by decide +kernel, by decide +kernel, by decide +kernel⟩, by decide⟩
abbrev aX0_putDown (N : Nat) (G : nG) : List (Nat × nO (Int32 × nM)) := [(0, o_aload 1 1), (1, o_getR G 4 1 4), (4, o_iload 3 5), (5, o_iload 4 7), (7, o_iastore G 8), (8, o_aload 1 9), (9, o_getR G 4 2 12), (12, o_iload 3 13), (13, o_dup2 14), (14, o_ald G 14 15), (15, o_push (.int (1 : Int32)) 16), (16, o_iadd 17), (17, o_iastore G 18), (18, o_aload 1 19), (19, o_aload 1 20), (20, o_getI G 4 5 23), (23, o_iload 3 24), (24, o_push (.int (0 : Int32)) 25), (25, o_call 3 (hX4_withBit) 28), (28, o_putI G 4 5 31), (31, o_aload 0 32), (32, o_aload 1 33), (33, o_push (.int (0 : Int32)) 34), (34, o_iload 3 35), (35, o_iload 4 37), (37, o_callVc 45 4 (hX0_note G) 40), (40, o_aload 0 41), (41, o_aload 1 42), (42, o_push (.int (0 : Int32)) 43), (43, o_iload 2 44), (44, o_iload 3 45), (45, o_iload 4 47), (47, o_callVc 45 5 (hX0_asked N G) 50), (50, o_istore 6 5 52), (52, o_iload 5 54), (54, oi_le 67 57), (57, o_aload 0 58), (58, o_aload 1 59), (59, o_iload 5 61), (61, o_callVc 45 2 (hX0_comesToPass G) 64), (64, oi_ne 69 67), (67, o_push (.int (0 : Int32)) 68), (68, o_zret), (69, o_aload 1 70), (70, o_getR G 4 1 73), (73, o_iload 3 74), (74, o_aload 0 75), (75, o_aload 1 76), (76, o_iload 3 77), (77, o_iload 4 79), (79, o_aload 0 80), (80, o_aload 1 81), (81, o_push (.int (1 : Int32)) 82), (82, o_iload 2 83), (83, o_iload 3 84), (84, o_iload 4 86), (86, o_callVc 45 5 (hX0_asked N G) 89), (89, o_callVc 45 4 (hX0_sleeve N G) 92), (92, o_iastore G 93), (93, o_aload 1 94), (94, o_getR G 4 2 97), (97, o_iload 3 98), (98, o_dup2 99), (99, o_ald G 14 100), (100, o_push (.int (1 : Int32)) 101), (101, o_iadd 102), (102, o_iastore G 103), (103, o_aload 1 104), (104, o_getR G 4 3 107), (107, o_iload 2 108), (108, o_dup2 109), (109, o_ald G 14 110), (110, o_push (.int (1 : Int32)) 111), (111, o_iadd 112), (112, o_iastore G 113), (113, o_aload 1 114), (114, o_aload 1 115), (115, o_getI G 4 5 118), (118, o_iload 3 119), (119, o_push (.int (1 : Int32)) 120), (120, o_call 3 (hX4_withBit) 123), (123, o_putI G 4 5 126), (126, o_aload 0 127), (127, o_aload 1 128), (128, o_push (.int (1 : Int32)) 129), (129, o_iload 3 130), (130, o_iload 2 131), (131, o_callVc 45 4 (hX0_note G) 134), (134, o_push (.int (1 : Int32)) 135), (135, o_zret)]
set_option maxRecDepth 200000 in
theorem iX0_putDown {l : Launch} {w : nW} (N : Nat) {G : nG} (hG : n_GOK G) : n_AllS l w 4 mX0_putDown G (n_fin dv_i G) (aX0_putDown N G) :=
  n_c (s_aload_n (pc := 0) (k := 1) (by decide +kernel)) <|
  n_c (s_getR (pc := 1) (ci := 4) (k := 1) (idx := 36) nok4 (by decide) rfl (by decide +kernel) w_231) <|
  n_c (s_iload_n (pc := 4) (k := 3) (by decide +kernel)) <|
  n_c (s_iload (pc := 5) (by decide +kernel)) <|
  n_c (s_iastore (pc := 7) (by decide +kernel)) <|
  n_c (s_aload_n (pc := 8) (k := 1) (by decide +kernel)) <|
  n_c (s_getR (pc := 9) (ci := 4) (k := 2) (idx := 95) nok4 (by decide) rfl (by decide +kernel) w_234) <|
  n_c (s_iload_n (pc := 12) (k := 3) (by decide +kernel)) <|
  n_c (s_dup2 (pc := 13) (by decide +kernel)) <|
  n_c (s_iaload (pc := 14) (by decide +kernel)) <|
  n_c (s_iconst (pc := 15) (n := 1) (by decide +kernel) (by decide +kernel)) <|
  n_c (s_iadd (pc := 16) (by decide +kernel)) <|
  n_c (s_iastore (pc := 17) (by decide +kernel)) <|
  n_c (s_aload_n (pc := 18) (k := 1) (by decide +kernel)) <|
  n_c (s_aload_n (pc := 19) (k := 1) (by decide +kernel)) <|
  n_c (s_getI (pc := 20) (ci := 4) (k := 5) (idx := 98) nok4 (by decide) rfl (by decide +kernel) w_243) <|
  n_c (s_iload_n (pc := 23) (k := 3) (by decide +kernel)) <|
  n_c (s_iconst (pc := 24) (n := 0) (by decide +kernel) (by decide +kernel)) <|
  n_c (s_callS (pc := 25) (csX4_withBit) (by decide) okX4_withBit w_625 w_704 (by decide +kernel)) <|
  n_c (s_putI (pc := 28) (ci := 4) (k := 5) (idx := 98) nok4 (by decide) rfl rfl (by decide +kernel) w_243) <|
  n_c (s_aload_n (pc := 31) (k := 0) (by decide +kernel)) <|
  n_c (s_aload_n (pc := 32) (k := 1) (by decide +kernel)) <|
  n_c (s_iconst (pc := 33) (n := 0) (by decide +kernel) (by decide +kernel)) <|
  n_c (s_iload_n (pc := 34) (k := 3) (by decide +kernel)) <|
  n_c (s_iload (pc := 35) (by decide +kernel)) <|
  n_c (s_callVc (s_callV (pc := 37) (csX0_note hG) (by decide) okX0_note nok0 w_707 w_3 w_705 (by decide +kernel)) (gk45 hG)) <|
  n_c (s_aload_n (pc := 40) (k := 0) (by decide +kernel)) <|
  n_c (s_aload_n (pc := 41) (k := 1) (by decide +kernel)) <|
  n_c (s_iconst (pc := 42) (n := 0) (by decide +kernel) (by decide +kernel)) <|
  n_c (s_iload_n (pc := 43) (k := 2) (by decide +kernel)) <|
  n_c (s_iload_n (pc := 44) (k := 3) (by decide +kernel)) <|
  n_c (s_iload (pc := 45) (by decide +kernel)) <|
  n_c (s_callVc (s_callV (pc := 47) (csX0_asked N hG) (by decide) okX0_asked nok0 w_714 w_715 w_713 (by decide +kernel)) (gk45 hG)) <|
  n_c (s_istore (pc := 50) (by decide +kernel)) <|
  n_c (s_iload (pc := 52) (by decide +kernel)) <|
  n_c (s_if_le (pc := 54) (off := 13) (by decide +kernel) (by decide +kernel)) <|
  n_c (s_aload_n (pc := 57) (k := 0) (by decide +kernel)) <|
  n_c (s_aload_n (pc := 58) (k := 1) (by decide +kernel)) <|
  n_c (s_iload (pc := 59) (by decide +kernel)) <|
  n_c (s_callVc (s_callV (pc := 61) (csX0_comesToPass) (by decide) okX0_comesToPass nok0 w_752 w_7 w_750 (by decide +kernel)) (gk45 hG)) <|
  n_c (s_if_ne (pc := 64) (off := 5) (by decide +kernel) (by decide +kernel)) <|
  n_c (s_iconst (pc := 67) (n := 0) (by decide +kernel) (by decide +kernel)) <|
  n_c (s_zret (pc := 68) rfl (by decide +kernel)) <|
  n_c (s_aload_n (pc := 69) (k := 1) (by decide +kernel)) <|
  n_c (s_getR (pc := 70) (ci := 4) (k := 1) (idx := 36) nok4 (by decide) rfl (by decide +kernel) w_231) <|
  n_c (s_iload_n (pc := 73) (k := 3) (by decide +kernel)) <|
  n_c (s_aload_n (pc := 74) (k := 0) (by decide +kernel)) <|
  n_c (s_aload_n (pc := 75) (k := 1) (by decide +kernel)) <|
  n_c (s_iload_n (pc := 76) (k := 3) (by decide +kernel)) <|
  n_c (s_iload (pc := 77) (by decide +kernel)) <|
  n_c (s_aload_n (pc := 79) (k := 0) (by decide +kernel)) <|
  n_c (s_aload_n (pc := 80) (k := 1) (by decide +kernel)) <|
  n_c (s_iconst (pc := 81) (n := 1) (by decide +kernel) (by decide +kernel)) <|
  n_c (s_iload_n (pc := 82) (k := 2) (by decide +kernel)) <|
  n_c (s_iload_n (pc := 83) (k := 3) (by decide +kernel)) <|
  n_c (s_iload (pc := 84) (by decide +kernel)) <|
  n_c (s_callVc (s_callV (pc := 86) (csX0_asked N hG) (by decide) okX0_asked nok0 w_714 w_715 w_713 (by decide +kernel)) (gk45 hG)) <|
  n_c (s_callVc (s_callV (pc := 89) (csX0_sleeve N hG) (by decide) okX0_sleeve nok0 w_758 w_8 w_756 (by decide +kernel)) (gk45 hG)) <|
  n_c (s_iastore (pc := 92) (by decide +kernel)) <|
  n_c (s_aload_n (pc := 93) (k := 1) (by decide +kernel)) <|
  n_c (s_getR (pc := 94) (ci := 4) (k := 2) (idx := 95) nok4 (by decide) rfl (by decide +kernel) w_234) <|
  n_c (s_iload_n (pc := 97) (k := 3) (by decide +kernel)) <|
  n_c (s_dup2 (pc := 98) (by decide +kernel)) <|
  n_c (s_iaload (pc := 99) (by decide +kernel)) <|
  n_c (s_iconst (pc := 100) (n := 1) (by decide +kernel) (by decide +kernel)) <|
  n_c (s_iadd (pc := 101) (by decide +kernel)) <|
  n_c (s_iastore (pc := 102) (by decide +kernel)) <|
  n_c (s_aload_n (pc := 103) (k := 1) (by decide +kernel)) <|
  n_c (s_getR (pc := 104) (ci := 4) (k := 3) (idx := 101) nok4 (by decide) rfl (by decide +kernel) w_237) <|
  n_c (s_iload_n (pc := 107) (k := 2) (by decide +kernel)) <|
  n_c (s_dup2 (pc := 108) (by decide +kernel)) <|
  n_c (s_iaload (pc := 109) (by decide +kernel)) <|
  n_c (s_iconst (pc := 110) (n := 1) (by decide +kernel) (by decide +kernel)) <|
  n_c (s_iadd (pc := 111) (by decide +kernel)) <|
  n_c (s_iastore (pc := 112) (by decide +kernel)) <|
  n_c (s_aload_n (pc := 113) (k := 1) (by decide +kernel)) <|
  n_c (s_aload_n (pc := 114) (k := 1) (by decide +kernel)) <|
  n_c (s_getI (pc := 115) (ci := 4) (k := 5) (idx := 98) nok4 (by decide) rfl (by decide +kernel) w_243) <|
  n_c (s_iload_n (pc := 118) (k := 3) (by decide +kernel)) <|
  n_c (s_iconst (pc := 119) (n := 1) (by decide +kernel) (by decide +kernel)) <|
  n_c (s_callS (pc := 120) (csX4_withBit) (by decide) okX4_withBit w_625 w_704 (by decide +kernel)) <|
  n_c (s_putI (pc := 123) (ci := 4) (k := 5) (idx := 98) nok4 (by decide) rfl rfl (by decide +kernel) w_243) <|
  n_c (s_aload_n (pc := 126) (k := 0) (by decide +kernel)) <|
  n_c (s_aload_n (pc := 127) (k := 1) (by decide +kernel)) <|
  n_c (s_iconst (pc := 128) (n := 1) (by decide +kernel) (by decide +kernel)) <|
  n_c (s_iload_n (pc := 129) (k := 3) (by decide +kernel)) <|
  n_c (s_iload_n (pc := 130) (k := 2) (by decide +kernel)) <|
  n_c (s_callVc (s_callV (pc := 131) (csX0_note hG) (by decide) okX0_note nok0 w_707 w_3 w_705 (by decide +kernel)) (gk45 hG)) <|
  n_c (s_iconst (pc := 134) (n := 1) (by decide +kernel) (by decide +kernel)) <|
  n_c (s_zret (pc := 135) rfl (by decide +kernel)) <|
  n_e
def fX0_putDown (N : Nat) (G : nG) (x1 : Nat) (x2 : Int32) (x3 : Int32) (x4 : Int32) (M : nM) : Option (Int32 × nM) :=
  n_chk (Nat.beq (n_kd G x1) 4) <|
  n_chk (n_in G 14 (n_mr G x1 1) x3) <|
  let M1 : nM := n_up M (n_mr G x1 1) x3.toNatClampNeg x4
  n_chk (Nat.beq (n_kd G x1) 4) <|
  n_chk (n_in G 14 (n_mr G x1 2) x3) <|
  n_chk (n_in G 14 (n_mr G x1 2) x3) <|
  let M2 : nM := n_up M1 (n_mr G x1 2) x3.toNatClampNeg ((M1 (n_mr G x1 2) x3.toNatClampNeg) + (1 : Int32))
  n_chk (Nat.beq (n_kd G x1) 4) <|
  (fX4_withBit (M2 x1 5) x3 (0 : Int32) M2).bind fun p3 =>
  n_chk (Nat.beq (n_kd G x1) 4) <|
  let M4 : nM := n_up p3.2 x1 5 p3.1
  (fX0_note G x1 (0 : Int32) x3 x4 M4).bind fun p5 =>
  (fX0_asked N G x1 (0 : Int32) x2 x3 x4 p5.2).bind fun p6 =>
  if p6.1 ≤ 0 then
    some ((0 : Int32), p6.2)
  else
    (fX0_comesToPass G x1 p6.1 p6.2).bind fun p7 =>
    if ¬ p7.1 = 0 then
      n_chk (Nat.beq (n_kd G x1) 4) <|
      (fX0_asked N G x1 (1 : Int32) x2 x3 x4 p7.2).bind fun p8 =>
      (fX0_sleeve N G x1 x3 x4 p8.1 p8.2).bind fun p9 =>
      n_chk (n_in G 14 (n_mr G x1 1) x3) <|
      let M10 : nM := n_up p9.2 (n_mr G x1 1) x3.toNatClampNeg p9.1
      n_chk (Nat.beq (n_kd G x1) 4) <|
      n_chk (n_in G 14 (n_mr G x1 2) x3) <|
      n_chk (n_in G 14 (n_mr G x1 2) x3) <|
      let M11 : nM := n_up M10 (n_mr G x1 2) x3.toNatClampNeg ((M10 (n_mr G x1 2) x3.toNatClampNeg) + (1 : Int32))
      n_chk (Nat.beq (n_kd G x1) 4) <|
      n_chk (n_in G 14 (n_mr G x1 3) x2) <|
      n_chk (n_in G 14 (n_mr G x1 3) x2) <|
      let M12 : nM := n_up M11 (n_mr G x1 3) x2.toNatClampNeg ((M11 (n_mr G x1 3) x2.toNatClampNeg) + (1 : Int32))
      n_chk (Nat.beq (n_kd G x1) 4) <|
      (fX4_withBit (M12 x1 5) x3 (1 : Int32) M12).bind fun p13 =>
      n_chk (Nat.beq (n_kd G x1) 4) <|
      let M14 : nM := n_up p13.2 x1 5 p13.1
      (fX0_note G x1 (1 : Int32) x3 x2 M14).bind fun p15 =>
      some ((1 : Int32), p15.2)
    else
      some ((0 : Int32), p7.2)
set_option maxRecDepth 200000 in
theorem bX0_putDown_0 {l : Launch} {w : nW} (N : Nat) {G : nG} (hG : n_GOK G) (x1 : Nat) (x2 : Int32) (x3 : Int32) (x4 : Int32) (M : nM) (r : Int32 × nM) (h : fX0_putDown N G x1 x2 x3 x4 M = some r) : n_At l w 4 mX0_putDown 0 [(0, .ref 45), (1, .ref x1), (2, .int x2), (3, .int x3), (4, .int x4)] [] (G, M) (dv_i r.1, (G, r.2)) :=
  n_seg (fin := n_fin dv_i G) (K := []) 95 (iX0_putDown N hG) n_ke (by rfl) h
theorem eX0_putDown {l : Launch} {w : nW} (N : Nat) {G : nG} (hG : n_GOK G) (z1 : Nat) (z2 : Int32) (z3 : Int32) (z4 : Int32) (M : nM) (r : Int32 × nM) (h : fX0_putDown N G z1 z2 z3 z4 M = some r) : n_Met l w 4 mX0_putDown [.ref 45, .ref z1, .int z2, .int z3, .int z4] (G, M) (dv_i r.1, (G, r.2)) :=
  n_entry (by decide +kernel) rfl (Nat.le_of_ble_eq_true rfl) (n_sub (lv := [(0, .ref 45), (1, .ref z1), (2, .int z2), (3, .int z3), (4, .int z4)]) (n_qc rfl (n_qc rfl (n_qc rfl (n_qc rfl (n_qc rfl n_qe))))) (bX0_putDown_0 N hG z1 z2 z3 z4 M r h))
abbrev hX0_putDown (N : Nat) (G : nG) : nF := fun T as M k => n_pC 45 as (fun as => n_pR as (fun z1 as => n_pI as (fun z2 as => n_pI as (fun z3 as => n_pI as (fun z4 as => n_pE as ((fX0_putDown N G z1 z2 z3 z4 M).bind fun p => k (dv_i p.1) p.2))))))
theorem csX0_putDown {l : Launch} {w : nW} (N : Nat) {G : nG} (hG : n_GOK G) : n_CS l w 4 mX0_putDown G (hX0_putDown N G) := fun T as M k r h => by
  obtain ⟨t0, rfl, h1⟩ := n_pC_x h
  obtain ⟨z1, t1, rfl, h2⟩ := n_pR_x h1
  obtain ⟨z2, t2, rfl, h3⟩ := n_pI_x h2
  obtain ⟨z3, t3, rfl, h4⟩ := n_pI_x h3
  obtain ⟨z4, t4, rfl, h5⟩ := n_pI_x h4
  obtain ⟨rfl, hE⟩ := n_pE_x h5
  obtain ⟨p, hp, hk⟩ := Option.bind_eq_some_iff.mp hE
  exact ⟨_, _, eX0_putDown N hG z1 z2 z3 z4 M p hp, hk⟩
/-! ===== SleightHouse.puts(III)I ===== -/
def mX11_puts : nY := (RX11, yX11_puts, cX11_puts, 4, some .int)
theorem okX11_puts : n_MOK mX11_puts 3 := ⟨w_666, w_137, ⟨by decide +kernel, by decide +kernel, by decide +kernel⟩, by decide⟩
abbrev aX11_puts (N : Nat) (G : nG) : List (Nat × nO (Int32 × nM)) := [(0, o_aload 0 1), (1, o_gRc 1 45 4), (4, o_aload 0 5), (5, o_gRc 1 2 8), (8, o_gRc 2 9 11), (11, o_iload 1 12), (12, o_iload 2 13), (13, o_iload 3 14), (14, o_callVc 45 4 (hX0_canPut N G) 17), (17, oi_ne 22 20), (20, o_push (.int (-1 : Int32)) 21), (21, o_iret), (22, o_aload 0 23), (23, o_gRc 1 48 26), (26, o_aload 0 27), (27, o_gRc 1 2 30), (30, o_gRc 2 9 33), (33, o_callVc 48 1 (hX5_keep G) 36), (36, o_aload 0 37), (37, o_gRc 1 45 40), (40, o_aload 0 41), (41, o_gRc 1 2 44), (44, o_gRc 2 9 47), (47, o_iload 1 48), (48, o_iload 2 49), (49, o_iload 3 50), (50, o_callVc 45 4 (hX0_putDown N G) 53), (53, o_pop 54), (54, o_aload 0 55), (55, o_gRc 1 2 58), (58, o_gRc 2 9 61), (61, o_gRc 9 10 64), (64, o_iload 2 65), (65, o_aldc 10 16 66), (66, o_iret)]
set_option maxRecDepth 200000 in
theorem iX11_puts {l : Launch} {w : nW} (N : Nat) {G : nG} (hG : n_GOK G) : n_AllS l w 5 mX11_puts G (n_fin dv_i G) (aX11_puts N G) :=
  n_c (s_aload_n (pc := 0) (k := 0) (by decide +kernel)) <|
  n_c (s_gRc (s_getR (pc := 1) (ci := 11) (k := 1) (idx := 21) nok11 (by decide) rfl (by decide +kernel) w_573) (gk1 hG) (gm1_1 hG)) <|
  n_c (s_aload_n (pc := 4) (k := 0) (by decide +kernel)) <|
  n_c (s_gRc (s_getR (pc := 5) (ci := 11) (k := 0) (idx := 10) nok11 (by decide) rfl (by decide +kernel) w_572) (gk1 hG) (gm1_0 hG)) <|
  n_c (s_gRc (s_getR (pc := 8) (ci := 1) (k := 1) (idx := 77) nok1 (by decide) rfl (by decide +kernel) w_406) (gk2 hG) (gm2_1 hG)) <|
  n_c (s_iload_n (pc := 11) (k := 1) (by decide +kernel)) <|
  n_c (s_iload_n (pc := 12) (k := 2) (by decide +kernel)) <|
  n_c (s_iload_n (pc := 13) (k := 3) (by decide +kernel)) <|
  n_c (s_callVc (s_callV (pc := 14) (csX0_canPut N hG) (by decide) okX0_canPut nok0 w_668 w_669 w_667 (by decide +kernel)) (gk45 hG)) <|
  n_c (s_if_ne (pc := 17) (off := 5) (by decide +kernel) (by decide +kernel)) <|
  n_c (s_iconst (pc := 20) (n := -1) (by decide +kernel) (by decide +kernel)) <|
  n_c (s_iret (pc := 21) rfl (by decide +kernel)) <|
  n_c (s_aload_n (pc := 22) (k := 0) (by decide +kernel)) <|
  n_c (s_gRc (s_getR (pc := 23) (ci := 11) (k := 2) (idx := 28) nok11 (by decide) rfl (by decide +kernel) w_574) (gk1 hG) (gm1_2 hG)) <|
  n_c (s_aload_n (pc := 26) (k := 0) (by decide +kernel)) <|
  n_c (s_gRc (s_getR (pc := 27) (ci := 11) (k := 0) (idx := 10) nok11 (by decide) rfl (by decide +kernel) w_572) (gk1 hG) (gm1_0 hG)) <|
  n_c (s_gRc (s_getR (pc := 30) (ci := 1) (k := 1) (idx := 77) nok1 (by decide) rfl (by decide +kernel) w_406) (gk2 hG) (gm2_1 hG)) <|
  n_c (s_callVc (s_callV (pc := 33) (csX5_keep hG) (by decide) okX5_keep nok5 w_689 w_690 w_688 (by decide +kernel)) (gk48 hG)) <|
  n_c (s_aload_n (pc := 36) (k := 0) (by decide +kernel)) <|
  n_c (s_gRc (s_getR (pc := 37) (ci := 11) (k := 1) (idx := 21) nok11 (by decide) rfl (by decide +kernel) w_573) (gk1 hG) (gm1_1 hG)) <|
  n_c (s_aload_n (pc := 40) (k := 0) (by decide +kernel)) <|
  n_c (s_gRc (s_getR (pc := 41) (ci := 11) (k := 0) (idx := 10) nok11 (by decide) rfl (by decide +kernel) w_572) (gk1 hG) (gm1_0 hG)) <|
  n_c (s_gRc (s_getR (pc := 44) (ci := 1) (k := 1) (idx := 77) nok1 (by decide) rfl (by decide +kernel) w_406) (gk2 hG) (gm2_1 hG)) <|
  n_c (s_iload_n (pc := 47) (k := 1) (by decide +kernel)) <|
  n_c (s_iload_n (pc := 48) (k := 2) (by decide +kernel)) <|
  n_c (s_iload_n (pc := 49) (k := 3) (by decide +kernel)) <|
  n_c (s_callVc (s_callV (pc := 50) (csX0_putDown N hG) (by decide) okX0_putDown nok0 w_701 w_702 w_700 (by decide +kernel)) (gk45 hG)) <|
  n_c (s_pop (pc := 53) (by decide +kernel)) <|
  n_c (s_aload_n (pc := 54) (k := 0) (by decide +kernel)) <|
  n_c (s_gRc (s_getR (pc := 55) (ci := 11) (k := 0) (idx := 10) nok11 (by decide) rfl (by decide +kernel) w_572) (gk1 hG) (gm1_0 hG)) <|
  n_c (s_gRc (s_getR (pc := 58) (ci := 1) (k := 1) (idx := 77) nok1 (by decide) rfl (by decide +kernel) w_406) (gk2 hG) (gm2_1 hG)) <|
  n_c (s_gRc (s_getR (pc := 61) (ci := 4) (k := 1) (idx := 163) nok4 (by decide) rfl (by decide +kernel) w_232) (gk9 hG) (gm9_1 hG)) <|
  n_c (s_iload_n (pc := 64) (k := 2) (by decide +kernel)) <|
  n_c (s_aldc (s_iaload (pc := 65) (by decide +kernel)) (gk10 hG) (gl10 hG)) <|
  n_c (s_iret (pc := 66) rfl (by decide +kernel)) <|
  n_e
def fX11_puts (N : Nat) (G : nG) (x1 : Int32) (x2 : Int32) (x3 : Int32) (M : nM) : Option (Int32 × nM) :=
  (fX0_canPut N G 9 x1 x2 x3 M).bind fun p1 =>
  if ¬ p1.1 = 0 then
    (fX5_keep G p1.2).bind fun p2 =>
    (fX0_putDown N G 9 x1 x2 x3 p2.2).bind fun p3 =>
    n_chk (n_ib 16 x2) <|
    some ((p3.2 10 x2.toNatClampNeg), p3.2)
  else
    some ((-1 : Int32), p1.2)
set_option maxRecDepth 200000 in
theorem bX11_puts_0 {l : Launch} {w : nW} (N : Nat) {G : nG} (hG : n_GOK G) (x1 : Int32) (x2 : Int32) (x3 : Int32) (M : nM) (r : Int32 × nM) (h : fX11_puts N G x1 x2 x3 M = some r) : n_At l w 5 mX11_puts 0 [(0, .ref 1), (1, .int x1), (2, .int x2), (3, .int x3)] [] (G, M) (dv_i r.1, (G, r.2)) :=
  n_seg (fin := n_fin dv_i G) (K := []) 38 (iX11_puts N hG) n_ke (by rfl) h
theorem eX11_puts {l : Launch} {w : nW} (N : Nat) {G : nG} (hG : n_GOK G) (z1 : Int32) (z2 : Int32) (z3 : Int32) (M : nM) (r : Int32 × nM) (h : fX11_puts N G z1 z2 z3 M = some r) : n_Met l w 5 mX11_puts [.ref 1, .int z1, .int z2, .int z3] (G, M) (dv_i r.1, (G, r.2)) :=
  n_entry (by decide +kernel) rfl (Nat.le_of_ble_eq_true rfl) (n_sub (lv := [(0, .ref 1), (1, .int z1), (2, .int z2), (3, .int z3)]) (n_qc rfl (n_qc rfl (n_qc rfl (n_qc rfl n_qe)))) (bX11_puts_0 N hG z1 z2 z3 M r h))
abbrev hX11_puts (N : Nat) (G : nG) : nF := fun T as M k => n_pC 1 as (fun as => n_pI as (fun z1 as => n_pI as (fun z2 as => n_pI as (fun z3 as => n_pE as ((fX11_puts N G z1 z2 z3 M).bind fun p => k (dv_i p.1) p.2)))))
theorem csX11_puts {l : Launch} {w : nW} (N : Nat) {G : nG} (hG : n_GOK G) : n_CS l w 5 mX11_puts G (hX11_puts N G) := fun T as M k r h => by
  obtain ⟨t0, rfl, h1⟩ := n_pC_x h
  obtain ⟨z1, t1, rfl, h2⟩ := n_pI_x h1
  obtain ⟨z2, t2, rfl, h3⟩ := n_pI_x h2
  obtain ⟨z3, t3, rfl, h4⟩ := n_pI_x h3
  obtain ⟨rfl, hE⟩ := n_pE_x h4
  obtain ⟨p, hp, hk⟩ := Option.bind_eq_some_iff.mp hE
  exact ⟨_, _, eX11_puts N hG z1 z2 z3 M p hp, hk⟩
/-! ===== SleightHouseModel.fullOf(I)I ===== -/
def mX12_fullOf : nY := (RX12, yX12_fullOf, cX12_fullOf, 4, some .int)
theorem okX12_fullOf : n_MOK mX12_fullOf 1 := ⟨w_1852, w_151, ⟨by decide +kernel, by decide +kernel, by decide +kernel⟩, by decide⟩
abbrev aX12_fullOf (N : Nat) : List (Nat × nO (Int32 × nM)) := [(0, o_push (.int (0 : Int32)) 1), (1, o_istore 4 2 2), (2, o_push (.int (0 : Int32)) 3), (3, o_istore 4 3 4), (4, o_iload 3 5), (5, o_aload 0 6), (6, o_gIc 107 6 9), (9, oc_ge 40 12), (12, o_aload 0 13), (13, o_gRc 107 108 16), (16, o_push (.int (28 : Int32)) 18), (18, o_iload 3 19), (19, o_iadd 20), (20, o_aldc 108 100 21), (21, o_iload 1 22), (22, oc_ne 34 25), (25, o_iload 2 26), (26, o_aload 0 27), (27, o_gRc 107 112 30), (30, o_iload 3 31), (31, o_aldc 112 16 32), (32, o_iadd 33), (33, o_istore 4 2 34), (34, o_inc 4 3 (1 : Int32) 37), (37, o_goto 4), (40, o_iload 2 41), (41, o_iret)]
set_option maxRecDepth 200000 in
theorem iX12_fullOf {l : Launch} {w : nW} (N : Nat) {G : nG} (hG : n_GOK G) : n_AllS l w 0 mX12_fullOf G (n_fin dv_i G) (aX12_fullOf N) :=
  n_c (s_iconst (pc := 0) (n := 0) (by decide +kernel) (by decide +kernel)) <|
  n_c (s_istore_n (pc := 1) (k := 2) (by decide +kernel)) <|
  n_c (s_iconst (pc := 2) (n := 0) (by decide +kernel) (by decide +kernel)) <|
  n_c (s_istore_n (pc := 3) (k := 3) (by decide +kernel)) <|
  n_c (s_iload_n (pc := 4) (k := 3) (by decide +kernel)) <|
  n_c (s_aload_n (pc := 5) (k := 0) (by decide +kernel)) <|
  n_c (s_gIc (s_getI (pc := 6) (ci := 12) (k := 6) (idx := 158) nok12 (by decide) rfl (by decide +kernel) w_1413) (gk107 hG)) <|
  n_c (s_icmp_ge (pc := 9) (off := 31) (by decide +kernel) (by decide +kernel)) <|
  n_c (s_aload_n (pc := 12) (k := 0) (by decide +kernel)) <|
  n_c (s_gRc (s_getR (pc := 13) (ci := 12) (k := 1) (idx := 7) nok12 (by decide) rfl (by decide +kernel) w_1408) (gk107 hG) (gm107_1 hG)) <|
  n_c (s_bipush (pc := 16) (n := 28) (by decide +kernel) (by decide +kernel)) <|
  n_c (s_iload_n (pc := 18) (k := 3) (by decide +kernel)) <|
  n_c (s_iadd (pc := 19) (by decide +kernel)) <|
  n_c (s_aldc (s_iaload (pc := 20) (by decide +kernel)) (gk108 hG) (gl108 hG)) <|
  n_c (s_iload_n (pc := 21) (k := 1) (by decide +kernel)) <|
  n_c (s_icmp_ne (pc := 22) (off := 12) (by decide +kernel) (by decide +kernel)) <|
  n_c (s_iload_n (pc := 25) (k := 2) (by decide +kernel)) <|
  n_c (s_aload_n (pc := 26) (k := 0) (by decide +kernel)) <|
  n_c (s_gRc (s_getR (pc := 27) (ci := 12) (k := 9) (idx := 22) nok12 (by decide) rfl (by decide +kernel) w_1416) (gk107 hG) (gm107_9 hG)) <|
  n_c (s_iload_n (pc := 30) (k := 3) (by decide +kernel)) <|
  n_c (s_aldc (s_iaload (pc := 31) (by decide +kernel)) (gk112 hG) (gl112 hG)) <|
  n_c (s_iadd (pc := 32) (by decide +kernel)) <|
  n_c (s_istore_n (pc := 33) (k := 2) (by decide +kernel)) <|
  n_c (s_iinc (pc := 34) (n := 1) (by decide +kernel) (by decide +kernel)) <|
  n_c (s_goto (pc := 37) (off := -33) (by decide +kernel) (by decide +kernel)) <|
  n_c (s_iload_n (pc := 40) (k := 2) (by decide +kernel)) <|
  n_c (s_iret (pc := 41) rfl (by decide +kernel)) <|
  n_e
def fX12_fullOf_4 (N : Nat) : Nat → Int32 → Int32 → Int32 → nM → Option (Int32 × nM)
  | 0, _, _, _, _ => none
  | n + 1, x1, x2, x3, M =>
    if (M 107 6) ≤ x3 then
      some (x2, M)
    else
      n_chk (n_ib 100 ((28 : Int32) + x3)) <|
      if ¬ (M 108 ((28 : Int32) + x3).toNatClampNeg) = x1 then
        let v1 : Int32 := (x3 + (1 : Int32))
        fX12_fullOf_4 N n x1 x2 v1 M
      else
        n_chk (n_ib 16 x3) <|
        let v2 : Int32 := (x2 + (M 112 x3.toNatClampNeg))
        let v3 : Int32 := (x3 + (1 : Int32))
        fX12_fullOf_4 N n x1 v2 v3 M
set_option maxRecDepth 200000 in
theorem bX12_fullOf_4 {l : Launch} {w : nW} (N : Nat) {G : nG} (hG : n_GOK G) : ∀ (n : Nat) (x1 : Int32) (x2 : Int32) (x3 : Int32) (M : nM) (r : Int32 × nM), fX12_fullOf_4 N n x1 x2 x3 M = some r → n_At l w 0 mX12_fullOf 4 [(0, .ref 107), (1, .int x1), (2, .int x2), (3, .int x3)] [] (G, M) (dv_i r.1, (G, r.2)) := by
  intro n
  induction n with
  | zero => intro x1 x2 x3 M r h; cases (show (none : Option (Int32 × nM)) = some r from h)
  | succ n ih =>
    intro x1 x2 x3 M r h
    exact n_seg (fin := n_fin dv_i G) (K := [(4, fun lv st M => n_lC 107 lv 0 (n_lI lv 1 (fun x1 => n_lI lv 2 (fun x2 => n_lI lv 3 (fun x3 => n_pE st (fX12_fullOf_4 N n x1 x2 x3 M))))))]) 28 (iX12_fullOf N hG) (n_kc (fun lv st M r h => by
      obtain ⟨e0, h1⟩ := n_lC_x h
      obtain ⟨x1, e1, h2⟩ := n_lI_x h1
      obtain ⟨x2, e2, h3⟩ := n_lI_x h2
      obtain ⟨x3, e3, h4⟩ := n_lI_x h3
      obtain ⟨rfl, h5⟩ := n_pE_x h4
      exact n_sub (n_qc e0 (n_qc e1 (n_qc e2 (n_qc e3 n_qe)))) (ih x1 x2 x3 M r h5)) n_ke) (by rfl) h
def fX12_fullOf (N : Nat) (x1 : Int32) (M : nM) : Option (Int32 × nM) :=
  fX12_fullOf_4 N N x1 (0 : Int32) (0 : Int32) M
set_option maxRecDepth 200000 in
theorem bX12_fullOf_0 {l : Launch} {w : nW} (N : Nat) {G : nG} (hG : n_GOK G) (x1 : Int32) (M : nM) (r : Int32 × nM) (h : fX12_fullOf N x1 M = some r) : n_At l w 0 mX12_fullOf 0 [(0, .ref 107), (1, .int x1)] [] (G, M) (dv_i r.1, (G, r.2)) :=
  n_seg (fin := n_fin dv_i G) (K := [(4, fun lv st M => n_lC 107 lv 0 (n_lI lv 1 (fun x1 => n_lI lv 2 (fun x2 => n_lI lv 3 (fun x3 => n_pE st (fX12_fullOf_4 N N x1 x2 x3 M))))))]) 7 (iX12_fullOf N hG) (n_kc (fun lv st M r h => by
      obtain ⟨e0, h1⟩ := n_lC_x h
      obtain ⟨x1, e1, h2⟩ := n_lI_x h1
      obtain ⟨x2, e2, h3⟩ := n_lI_x h2
      obtain ⟨x3, e3, h4⟩ := n_lI_x h3
      obtain ⟨rfl, h5⟩ := n_pE_x h4
      exact n_sub (n_qc e0 (n_qc e1 (n_qc e2 (n_qc e3 n_qe)))) (bX12_fullOf_4 N hG N x1 x2 x3 M r h5)) n_ke) (by rfl) h
theorem eX12_fullOf {l : Launch} {w : nW} (N : Nat) {G : nG} (hG : n_GOK G) (z1 : Int32) (M : nM) (r : Int32 × nM) (h : fX12_fullOf N z1 M = some r) : n_Met l w 0 mX12_fullOf [.ref 107, .int z1] (G, M) (dv_i r.1, (G, r.2)) :=
  n_entry (by decide +kernel) rfl (Nat.le_of_ble_eq_true rfl) (n_sub (lv := [(0, .ref 107), (1, .int z1)]) (n_qc rfl (n_qc rfl n_qe)) (bX12_fullOf_0 N hG z1 M r h))
abbrev hX12_fullOf (N : Nat) : nF := fun T as M k => n_pC 107 as (fun as => n_pI as (fun z1 as => n_pE as ((fX12_fullOf N z1 M).bind fun p => k (dv_i p.1) p.2)))
theorem csX12_fullOf {l : Launch} {w : nW} (N : Nat) {G : nG} (hG : n_GOK G) : n_CS l w 0 mX12_fullOf G (hX12_fullOf N) := fun T as M k r h => by
  obtain ⟨t0, rfl, h1⟩ := n_pC_x h
  obtain ⟨z1, t1, rfl, h2⟩ := n_pI_x h1
  obtain ⟨rfl, hE⟩ := n_pE_x h2
  obtain ⟨p, hp, hk⟩ := Option.bind_eq_some_iff.mp hE
  exact ⟨_, _, eX12_fullOf N hG z1 M p hp, hk⟩
/-! ===== SleightHouseModel.roomOf(I)I ===== -/
def mX12_roomOf : nY := (RX12, yX12_roomOf, cX12_roomOf, 2, some .int)
theorem okX12_roomOf : n_MOK mX12_roomOf 1 := ⟨w_1856, w_151, ⟨by decide +kernel, by decide +kernel, by decide +kernel⟩, by decide⟩
abbrev aX12_roomOf : List (Nat × nO (Int32 × nM)) := [(0, o_aload 0 1), (1, o_gRc 107 111 4), (4, o_iload 1 5), (5, o_aldc 111 12 6), (6, o_push (.int (9 : Int32)) 8), (8, o_iadd 9), (9, o_iret)]
set_option maxRecDepth 200000 in
theorem iX12_roomOf {l : Launch} {w : nW} {G : nG} (hG : n_GOK G) : n_AllS l w 0 mX12_roomOf G (n_fin dv_i G) (aX12_roomOf) :=
  n_c (s_aload_n (pc := 0) (k := 0) (by decide +kernel)) <|
  n_c (s_gRc (s_getR (pc := 1) (ci := 12) (k := 8) (idx := 19) nok12 (by decide) rfl (by decide +kernel) w_1415) (gk107 hG) (gm107_8 hG)) <|
  n_c (s_iload_n (pc := 4) (k := 1) (by decide +kernel)) <|
  n_c (s_aldc (s_iaload (pc := 5) (by decide +kernel)) (gk111 hG) (gl111 hG)) <|
  n_c (s_bipush (pc := 6) (n := 9) (by decide +kernel) (by decide +kernel)) <|
  n_c (s_iadd (pc := 8) (by decide +kernel)) <|
  n_c (s_iret (pc := 9) rfl (by decide +kernel)) <|
  n_e
def fX12_roomOf (x1 : Int32) (M : nM) : Option (Int32 × nM) :=
  n_chk (n_ib 12 x1) <|
  some (((M 111 x1.toNatClampNeg) + (9 : Int32)), M)
set_option maxRecDepth 200000 in
theorem bX12_roomOf_0 {l : Launch} {w : nW} {G : nG} (hG : n_GOK G) (x1 : Int32) (M : nM) (r : Int32 × nM) (h : fX12_roomOf x1 M = some r) : n_At l w 0 mX12_roomOf 0 [(0, .ref 107), (1, .int x1)] [] (G, M) (dv_i r.1, (G, r.2)) :=
  n_seg (fin := n_fin dv_i G) (K := []) 10 (iX12_roomOf hG) n_ke (by rfl) h
theorem eX12_roomOf {l : Launch} {w : nW} {G : nG} (hG : n_GOK G) (z1 : Int32) (M : nM) (r : Int32 × nM) (h : fX12_roomOf z1 M = some r) : n_Met l w 0 mX12_roomOf [.ref 107, .int z1] (G, M) (dv_i r.1, (G, r.2)) :=
  n_entry (by decide +kernel) rfl (Nat.le_of_ble_eq_true rfl) (n_sub (lv := [(0, .ref 107), (1, .int z1)]) (n_qc rfl (n_qc rfl n_qe)) (bX12_roomOf_0 hG z1 M r h))
abbrev hX12_roomOf : nF := fun T as M k => n_pC 107 as (fun as => n_pI as (fun z1 as => n_pE as ((fX12_roomOf z1 M).bind fun p => k (dv_i p.1) p.2)))
theorem csX12_roomOf {l : Launch} {w : nW} {G : nG} (hG : n_GOK G) : n_CS l w 0 mX12_roomOf G (hX12_roomOf) := fun T as M k r h => by
  obtain ⟨t0, rfl, h1⟩ := n_pC_x h
  obtain ⟨z1, t1, rfl, h2⟩ := n_pI_x h1
  obtain ⟨rfl, hE⟩ := n_pE_x h2
  obtain ⟨p, hp, hk⟩ := Option.bind_eq_some_iff.mp hE
  exact ⟨_, _, eX12_roomOf hG z1 M p hp, hk⟩
/-! ===== SleightHouseModel.hasRoom(II)Z ===== -/
def mX12_hasRoom : nY := (RX12, yX12_hasRoom, cX12_hasRoom, 3, some .boolean)
theorem okX12_hasRoom : n_MOK mX12_hasRoom 2 := ⟨w_1848, w_151, ⟨by decide +kernel, by decide +kernel, by decide +kernel⟩, by decide⟩
abbrev aX12_hasRoom (N : Nat) : List (Nat × nO (Int32 × nM)) := [(0, o_aload 0 1), (1, o_iload 1 2), (2, o_callVc 107 1 (hX12_fullOf N) 5), (5, o_aload 0 6), (6, o_gRc 107 108 9), (9, o_push (.int (28 : Int32)) 11), (11, o_iload 2 12), (12, o_iadd 13), (13, o_aldc 108 100 14), (14, o_iload 1 15), (15, oc_ne 22 18), (18, o_push (.int (0 : Int32)) 19), (19, o_goto 28), (22, o_aload 0 23), (23, o_gRc 107 112 26), (26, o_iload 2 27), (27, o_aldc 112 16 28), (28, o_iadd 29), (29, o_aload 0 30), (30, o_iload 1 31), (31, o_callVc 107 1 (hX12_roomOf) 34), (34, oc_gt 41 37), (37, o_push (.int (1 : Int32)) 38), (38, o_goto 42), (41, o_push (.int (0 : Int32)) 42), (42, o_zret)]
set_option maxRecDepth 200000 in
theorem iX12_hasRoom {l : Launch} {w : nW} (N : Nat) {G : nG} (hG : n_GOK G) : n_AllS l w 1 mX12_hasRoom G (n_fin dv_i G) (aX12_hasRoom N) :=
  n_c (s_aload_n (pc := 0) (k := 0) (by decide +kernel)) <|
  n_c (s_iload_n (pc := 1) (k := 1) (by decide +kernel)) <|
  n_c (s_callVc (s_callV (pc := 2) (csX12_fullOf N hG) (by decide) okX12_fullOf nok12 w_1851 w_87 w_1849 (by decide +kernel)) (gk107 hG)) <|
  n_c (s_aload_n (pc := 5) (k := 0) (by decide +kernel)) <|
  n_c (s_gRc (s_getR (pc := 6) (ci := 12) (k := 1) (idx := 7) nok12 (by decide) rfl (by decide +kernel) w_1408) (gk107 hG) (gm107_1 hG)) <|
  n_c (s_bipush (pc := 9) (n := 28) (by decide +kernel) (by decide +kernel)) <|
  n_c (s_iload_n (pc := 11) (k := 2) (by decide +kernel)) <|
  n_c (s_iadd (pc := 12) (by decide +kernel)) <|
  n_c (s_aldc (s_iaload (pc := 13) (by decide +kernel)) (gk108 hG) (gl108 hG)) <|
  n_c (s_iload_n (pc := 14) (k := 1) (by decide +kernel)) <|
  n_c (s_icmp_ne (pc := 15) (off := 7) (by decide +kernel) (by decide +kernel)) <|
  n_c (s_iconst (pc := 18) (n := 0) (by decide +kernel) (by decide +kernel)) <|
  n_c (s_goto (pc := 19) (off := 9) (by decide +kernel) (by decide +kernel)) <|
  n_c (s_aload_n (pc := 22) (k := 0) (by decide +kernel)) <|
  n_c (s_gRc (s_getR (pc := 23) (ci := 12) (k := 9) (idx := 22) nok12 (by decide) rfl (by decide +kernel) w_1416) (gk107 hG) (gm107_9 hG)) <|
  n_c (s_iload_n (pc := 26) (k := 2) (by decide +kernel)) <|
  n_c (s_aldc (s_iaload (pc := 27) (by decide +kernel)) (gk112 hG) (gl112 hG)) <|
  n_c (s_iadd (pc := 28) (by decide +kernel)) <|
  n_c (s_aload_n (pc := 29) (k := 0) (by decide +kernel)) <|
  n_c (s_iload_n (pc := 30) (k := 1) (by decide +kernel)) <|
  n_c (s_callVc (s_callV (pc := 31) (csX12_roomOf hG) (by decide) okX12_roomOf nok12 w_1855 w_88 w_1853 (by decide +kernel)) (gk107 hG)) <|
  n_c (s_icmp_gt (pc := 34) (off := 7) (by decide +kernel) (by decide +kernel)) <|
  n_c (s_iconst (pc := 37) (n := 1) (by decide +kernel) (by decide +kernel)) <|
  n_c (s_goto (pc := 38) (off := 4) (by decide +kernel) (by decide +kernel)) <|
  n_c (s_iconst (pc := 41) (n := 0) (by decide +kernel) (by decide +kernel)) <|
  n_c (s_zret (pc := 42) rfl (by decide +kernel)) <|
  n_e
def fX12_hasRoom_28 (N : Nat) (x1 : Int32) (s0 : Int32) (s1 : Int32) (M : nM) : Option (Int32 × nM) :=
  (fX12_roomOf x1 M).bind fun p1 =>
  if p1.1 < (s1 + s0) then
    some ((0 : Int32), p1.2)
  else
    some ((1 : Int32), p1.2)
set_option maxRecDepth 200000 in
theorem bX12_hasRoom_28 {l : Launch} {w : nW} (N : Nat) {G : nG} (hG : n_GOK G) (x1 : Int32) (s0 : Int32) (s1 : Int32) (M : nM) (r : Int32 × nM) (h : fX12_hasRoom_28 N x1 s0 s1 M = some r) : n_At l w 1 mX12_hasRoom 28 [(0, .ref 107), (1, .int x1)] [.int s0, .int s1] (G, M) (dv_i r.1, (G, r.2)) :=
  n_seg (fin := n_fin dv_i G) (K := []) 13 (iX12_hasRoom N hG) n_ke (by rfl) h
def fX12_hasRoom (N : Nat) (x1 : Int32) (x2 : Int32) (M : nM) : Option (Int32 × nM) :=
  (fX12_fullOf N x1 M).bind fun p1 =>
  n_chk (n_ib 100 ((28 : Int32) + x2)) <|
  if ¬ (p1.2 108 ((28 : Int32) + x2).toNatClampNeg) = x1 then
    n_chk (n_ib 16 x2) <|
    fX12_hasRoom_28 N x1 (p1.2 112 x2.toNatClampNeg) p1.1 p1.2
  else
    fX12_hasRoom_28 N x1 (0 : Int32) p1.1 p1.2
set_option maxRecDepth 200000 in
theorem bX12_hasRoom_0 {l : Launch} {w : nW} (N : Nat) {G : nG} (hG : n_GOK G) (x1 : Int32) (x2 : Int32) (M : nM) (r : Int32 × nM) (h : fX12_hasRoom N x1 x2 M = some r) : n_At l w 1 mX12_hasRoom 0 [(0, .ref 107), (1, .int x1), (2, .int x2)] [] (G, M) (dv_i r.1, (G, r.2)) :=
  n_seg (fin := n_fin dv_i G) (K := [(28, fun lv st M => n_lC 107 lv 0 (n_lI lv 1 (fun x1 => n_pI st (fun s0 st => n_pI st (fun s1 st => n_pE st (fX12_hasRoom_28 N x1 s0 s1 M))))))]) 20 (iX12_hasRoom N hG) (n_kc (fun lv st M r h => by
      obtain ⟨e0, h1⟩ := n_lC_x h
      obtain ⟨x1, e1, h2⟩ := n_lI_x h1
      obtain ⟨s0, t0, rfl, h3⟩ := n_pI_x h2
      obtain ⟨s1, t1, rfl, h4⟩ := n_pI_x h3
      obtain ⟨rfl, h5⟩ := n_pE_x h4
      exact n_sub (n_qc e0 (n_qc e1 n_qe)) (bX12_hasRoom_28 N hG x1 s0 s1 M r h5)) n_ke) (by rfl) h
theorem eX12_hasRoom {l : Launch} {w : nW} (N : Nat) {G : nG} (hG : n_GOK G) (z1 : Int32) (z2 : Int32) (M : nM) (r : Int32 × nM) (h : fX12_hasRoom N z1 z2 M = some r) : n_Met l w 1 mX12_hasRoom [.ref 107, .int z1, .int z2] (G, M) (dv_i r.1, (G, r.2)) :=
  n_entry (by decide +kernel) rfl (Nat.le_of_ble_eq_true rfl) (n_sub (lv := [(0, .ref 107), (1, .int z1), (2, .int z2)]) (n_qc rfl (n_qc rfl (n_qc rfl n_qe))) (bX12_hasRoom_0 N hG z1 z2 M r h))
abbrev hX12_hasRoom (N : Nat) : nF := fun T as M k => n_pC 107 as (fun as => n_pI as (fun z1 as => n_pI as (fun z2 as => n_pE as ((fX12_hasRoom N z1 z2 M).bind fun p => k (dv_i p.1) p.2))))
theorem csX12_hasRoom {l : Launch} {w : nW} (N : Nat) {G : nG} (hG : n_GOK G) : n_CS l w 1 mX12_hasRoom G (hX12_hasRoom N) := fun T as M k r h => by
  obtain ⟨t0, rfl, h1⟩ := n_pC_x h
  obtain ⟨z1, t1, rfl, h2⟩ := n_pI_x h1
  obtain ⟨z2, t2, rfl, h3⟩ := n_pI_x h2
  obtain ⟨rfl, hE⟩ := n_pE_x h3
  obtain ⟨p, hp, hk⟩ := Option.bind_eq_some_iff.mp hE
  exact ⟨_, _, eX12_hasRoom N hG z1 z2 M p hp, hk⟩
/-! ===== SleightHouseModel.canPut(III)Z ===== -/
def mX12_canPut : nY := (RX12, yX12_canPut, cX12_canPut, 4, some .boolean)
theorem okX12_canPut : n_MOK mX12_canPut 3 := ⟨w_1844, w_151, ⟨by decide +kernel, by decide +kernel, by decide +kernel⟩, by decide⟩
abbrev aX12_canPut (N : Nat) : List (Nat × nO (Int32 × nM)) := [(0, o_aload 0 1), (1, o_iload 1 2), (2, o_callVc 107 1 (hX12_isPerson) 5), (5, oi_eq 24 8), (8, o_aload 0 9), (9, o_iload 2 10), (10, o_callVc 107 1 (hX12_isThing) 13), (13, oi_eq 24 16), (16, o_aload 0 17), (17, o_iload 3 18), (18, o_callVc 107 1 (hX12_isPlace) 21), (21, oi_ne 26 24), (24, o_push (.int (0 : Int32)) 25), (25, o_zret), (26, o_aload 0 27), (27, o_gRc 107 108 30), (30, o_push (.int (76 : Int32)) 32), (32, o_iload 1 33), (33, o_iadd 34), (34, o_aldc 108 100 35), (35, oi_ne 81 38), (38, o_aload 0 39), (39, o_gRc 107 108 42), (42, o_push (.int (4 : Int32)) 43), (43, o_iload 3 44), (44, o_iadd 45), (45, o_aldc 108 100 46), (46, oi_ne 81 49), (49, o_aload 0 50), (50, o_gRc 107 108 53), (53, o_push (.int (4 : Int32)) 54), (54, o_aload 0 55), (55, o_gRc 107 108 58), (58, o_push (.int (28 : Int32)) 60), (60, o_iload 2 61), (61, o_iadd 62), (62, o_aldc 108 100 63), (63, o_iadd 64), (64, o_aldc 108 100 65), (65, oi_ne 81 68), (68, o_aload 0 69), (69, o_iload 3 70), (70, o_iload 2 71), (71, o_callVc 107 2 (hX12_hasRoom N) 74), (74, oi_eq 81 77), (77, o_push (.int (1 : Int32)) 78), (78, o_goto 82), (81, o_push (.int (0 : Int32)) 82), (82, o_zret)]
set_option maxRecDepth 200000 in
theorem iX12_canPut {l : Launch} {w : nW} (N : Nat) {G : nG} (hG : n_GOK G) : n_AllS l w 2 mX12_canPut G (n_fin dv_i G) (aX12_canPut N) :=
  n_c (s_aload_n (pc := 0) (k := 0) (by decide +kernel)) <|
  n_c (s_iload_n (pc := 1) (k := 1) (by decide +kernel)) <|
  n_c (s_callVc (s_callV (pc := 2) (csX12_isPerson hG) (by decide) okX12_isPerson nok12 w_1683 w_50 w_1681 (by decide +kernel)) (gk107 hG)) <|
  n_c (s_if_eq (pc := 5) (off := 19) (by decide +kernel) (by decide +kernel)) <|
  n_c (s_aload_n (pc := 8) (k := 0) (by decide +kernel)) <|
  n_c (s_iload_n (pc := 9) (k := 2) (by decide +kernel)) <|
  n_c (s_callVc (s_callV (pc := 10) (csX12_isThing hG) (by decide) okX12_isThing nok12 w_1679 w_49 w_1677 (by decide +kernel)) (gk107 hG)) <|
  n_c (s_if_eq (pc := 13) (off := 11) (by decide +kernel) (by decide +kernel)) <|
  n_c (s_aload_n (pc := 16) (k := 0) (by decide +kernel)) <|
  n_c (s_iload_n (pc := 17) (k := 3) (by decide +kernel)) <|
  n_c (s_callVc (s_callV (pc := 18) (csX12_isPlace) (by decide) okX12_isPlace nok12 w_1663 w_47 w_1661 (by decide +kernel)) (gk107 hG)) <|
  n_c (s_if_ne (pc := 21) (off := 5) (by decide +kernel) (by decide +kernel)) <|
  n_c (s_iconst (pc := 24) (n := 0) (by decide +kernel) (by decide +kernel)) <|
  n_c (s_zret (pc := 25) rfl (by decide +kernel)) <|
  n_c (s_aload_n (pc := 26) (k := 0) (by decide +kernel)) <|
  n_c (s_gRc (s_getR (pc := 27) (ci := 12) (k := 1) (idx := 7) nok12 (by decide) rfl (by decide +kernel) w_1408) (gk107 hG) (gm107_1 hG)) <|
  n_c (s_bipush (pc := 30) (n := 76) (by decide +kernel) (by decide +kernel)) <|
  n_c (s_iload_n (pc := 32) (k := 1) (by decide +kernel)) <|
  n_c (s_iadd (pc := 33) (by decide +kernel)) <|
  n_c (s_aldc (s_iaload (pc := 34) (by decide +kernel)) (gk108 hG) (gl108 hG)) <|
  n_c (s_if_ne (pc := 35) (off := 46) (by decide +kernel) (by decide +kernel)) <|
  n_c (s_aload_n (pc := 38) (k := 0) (by decide +kernel)) <|
  n_c (s_gRc (s_getR (pc := 39) (ci := 12) (k := 1) (idx := 7) nok12 (by decide) rfl (by decide +kernel) w_1408) (gk107 hG) (gm107_1 hG)) <|
  n_c (s_iconst (pc := 42) (n := 4) (by decide +kernel) (by decide +kernel)) <|
  n_c (s_iload_n (pc := 43) (k := 3) (by decide +kernel)) <|
  n_c (s_iadd (pc := 44) (by decide +kernel)) <|
  n_c (s_aldc (s_iaload (pc := 45) (by decide +kernel)) (gk108 hG) (gl108 hG)) <|
  n_c (s_if_ne (pc := 46) (off := 35) (by decide +kernel) (by decide +kernel)) <|
  n_c (s_aload_n (pc := 49) (k := 0) (by decide +kernel)) <|
  n_c (s_gRc (s_getR (pc := 50) (ci := 12) (k := 1) (idx := 7) nok12 (by decide) rfl (by decide +kernel) w_1408) (gk107 hG) (gm107_1 hG)) <|
  n_c (s_iconst (pc := 53) (n := 4) (by decide +kernel) (by decide +kernel)) <|
  n_c (s_aload_n (pc := 54) (k := 0) (by decide +kernel)) <|
  n_c (s_gRc (s_getR (pc := 55) (ci := 12) (k := 1) (idx := 7) nok12 (by decide) rfl (by decide +kernel) w_1408) (gk107 hG) (gm107_1 hG)) <|
  n_c (s_bipush (pc := 58) (n := 28) (by decide +kernel) (by decide +kernel)) <|
  n_c (s_iload_n (pc := 60) (k := 2) (by decide +kernel)) <|
  n_c (s_iadd (pc := 61) (by decide +kernel)) <|
  n_c (s_aldc (s_iaload (pc := 62) (by decide +kernel)) (gk108 hG) (gl108 hG)) <|
  n_c (s_iadd (pc := 63) (by decide +kernel)) <|
  n_c (s_aldc (s_iaload (pc := 64) (by decide +kernel)) (gk108 hG) (gl108 hG)) <|
  n_c (s_if_ne (pc := 65) (off := 16) (by decide +kernel) (by decide +kernel)) <|
  n_c (s_aload_n (pc := 68) (k := 0) (by decide +kernel)) <|
  n_c (s_iload_n (pc := 69) (k := 3) (by decide +kernel)) <|
  n_c (s_iload_n (pc := 70) (k := 2) (by decide +kernel)) <|
  n_c (s_callVc (s_callV (pc := 71) (csX12_hasRoom N hG) (by decide) okX12_hasRoom nok12 w_1847 w_86 w_1845 (by decide +kernel)) (gk107 hG)) <|
  n_c (s_if_eq (pc := 74) (off := 7) (by decide +kernel) (by decide +kernel)) <|
  n_c (s_iconst (pc := 77) (n := 1) (by decide +kernel) (by decide +kernel)) <|
  n_c (s_goto (pc := 78) (off := 4) (by decide +kernel) (by decide +kernel)) <|
  n_c (s_iconst (pc := 81) (n := 0) (by decide +kernel) (by decide +kernel)) <|
  n_c (s_zret (pc := 82) rfl (by decide +kernel)) <|
  n_e
def fX12_canPut (N : Nat) (x1 : Int32) (x2 : Int32) (x3 : Int32) (M : nM) : Option (Int32 × nM) :=
  (fX12_isPerson x1 M).bind fun p1 =>
  if p1.1 = 0 then
    some ((0 : Int32), p1.2)
  else
    (fX12_isThing x2 p1.2).bind fun p2 =>
    if p2.1 = 0 then
      some ((0 : Int32), p2.2)
    else
      (fX12_isPlace x3 p2.2).bind fun p3 =>
      if ¬ p3.1 = 0 then
        n_chk (n_ib 100 ((76 : Int32) + x1)) <|
        if ¬ (p3.2 108 ((76 : Int32) + x1).toNatClampNeg) = 0 then
          some ((0 : Int32), p3.2)
        else
          n_chk (n_ib 100 ((4 : Int32) + x3)) <|
          if ¬ (p3.2 108 ((4 : Int32) + x3).toNatClampNeg) = 0 then
            some ((0 : Int32), p3.2)
          else
            n_chk (n_ib 100 ((28 : Int32) + x2)) <|
            n_chk (n_ib 100 ((4 : Int32) + (p3.2 108 ((28 : Int32) + x2).toNatClampNeg))) <|
            if ¬ (p3.2 108 ((4 : Int32) + (p3.2 108 ((28 : Int32) + x2).toNatClampNeg)).toNatClampNeg) = 0 then
              some ((0 : Int32), p3.2)
            else
              (fX12_hasRoom N x3 x2 p3.2).bind fun p4 =>
              if p4.1 = 0 then
                some ((0 : Int32), p4.2)
              else
                some ((1 : Int32), p4.2)
      else
        some ((0 : Int32), p3.2)
set_option maxRecDepth 200000 in
theorem bX12_canPut_0 {l : Launch} {w : nW} (N : Nat) {G : nG} (hG : n_GOK G) (x1 : Int32) (x2 : Int32) (x3 : Int32) (M : nM) (r : Int32 × nM) (h : fX12_canPut N x1 x2 x3 M = some r) : n_At l w 2 mX12_canPut 0 [(0, .ref 107), (1, .int x1), (2, .int x2), (3, .int x3)] [] (G, M) (dv_i r.1, (G, r.2)) :=
  n_seg (fin := n_fin dv_i G) (K := []) 63 (iX12_canPut N hG) n_ke (by rfl) h
theorem eX12_canPut {l : Launch} {w : nW} (N : Nat) {G : nG} (hG : n_GOK G) (z1 : Int32) (z2 : Int32) (z3 : Int32) (M : nM) (r : Int32 × nM) (h : fX12_canPut N z1 z2 z3 M = some r) : n_Met l w 2 mX12_canPut [.ref 107, .int z1, .int z2, .int z3] (G, M) (dv_i r.1, (G, r.2)) :=
  n_entry (by decide +kernel) rfl (Nat.le_of_ble_eq_true rfl) (n_sub (lv := [(0, .ref 107), (1, .int z1), (2, .int z2), (3, .int z3)]) (n_qc rfl (n_qc rfl (n_qc rfl (n_qc rfl n_qe)))) (bX12_canPut_0 N hG z1 z2 z3 M r h))
abbrev hX12_canPut (N : Nat) : nF := fun T as M k => n_pC 107 as (fun as => n_pI as (fun z1 as => n_pI as (fun z2 as => n_pI as (fun z3 as => n_pE as ((fX12_canPut N z1 z2 z3 M).bind fun p => k (dv_i p.1) p.2)))))
theorem csX12_canPut {l : Launch} {w : nW} (N : Nat) {G : nG} (hG : n_GOK G) : n_CS l w 2 mX12_canPut G (hX12_canPut N) := fun T as M k r h => by
  obtain ⟨t0, rfl, h1⟩ := n_pC_x h
  obtain ⟨z1, t1, rfl, h2⟩ := n_pI_x h1
  obtain ⟨z2, t2, rfl, h3⟩ := n_pI_x h2
  obtain ⟨z3, t3, rfl, h4⟩ := n_pI_x h3
  obtain ⟨rfl, hE⟩ := n_pE_x h4
  obtain ⟨p, hp, hk⟩ := Option.bind_eq_some_iff.mp hE
  exact ⟨_, _, eX12_canPut N hG z1 z2 z3 M p hp, hk⟩
/-! ===== SleightHouseModel.keepsAhead()V ===== -/
def mX12_keepsAhead : nY := (RX12, yX12_keepsAhead, cX12_keepsAhead, 2, none)
theorem okX12_keepsAhead : n_MOK mX12_keepsAhead 0 := ⟨w_1860, w_151, ⟨by decide +kernel, by decide +kernel, by decide +kernel⟩, by decide⟩
abbrev aX12_keepsAhead (N : Nat) : List (Nat × nO (Unit × nM)) := [(0, o_aload 0 1), (1, o_gIc 107 3 4), (4, o_push (.int (6 : Int32)) 6), (6, oc_ne 53 9), (9, o_aload 0 10), (10, o_aload 0 11), (11, o_gIc 107 3 14), (14, o_push (.int (1 : Int32)) 15), (15, o_isub 16), (16, o_pIc 107 3 19), (19, o_push (.int (0 : Int32)) 20), (20, o_istore 2 1 21), (21, o_iload 1 22), (22, o_push (.int (100 : Int32)) 24), (24, o_aload 0 25), (25, o_gIc 107 3 28), (28, o_imul 29), (29, oc_ge 53 32), (32, o_aload 0 33), (33, o_gRc 107 109 36), (36, o_iload 1 37), (37, o_aload 0 38), (38, o_gRc 107 109 41), (41, o_iload 1 42), (42, o_push (.int (100 : Int32)) 44), (44, o_iadd 45), (45, o_aldc 109 600 46), (46, o_iastc 109 600 47), (47, o_inc 2 1 (1 : Int32) 50), (50, o_goto 21), (53, o_push (.int (0 : Int32)) 54), (54, o_istore 2 1 55), (55, o_iload 1 56), (56, o_push (.int (100 : Int32)) 58), (58, oc_ge 87 61), (61, o_aload 0 62), (62, o_gRc 107 109 65), (65, o_push (.int (100 : Int32)) 67), (67, o_aload 0 68), (68, o_gIc 107 3 71), (71, o_imul 72), (72, o_iload 1 73), (73, o_iadd 74), (74, o_aload 0 75), (75, o_gRc 107 108 78), (78, o_iload 1 79), (79, o_aldc 108 100 80), (80, o_iastc 109 600 81), (81, o_inc 2 1 (1 : Int32) 84), (84, o_goto 55), (87, o_aload 0 88), (88, o_aload 0 89), (89, o_gIc 107 3 92), (92, o_push (.int (1 : Int32)) 93), (93, o_iadd 94), (94, o_pIc 107 3 97), (97, o_vret)]
set_option maxRecDepth 200000 in
theorem iX12_keepsAhead {l : Launch} {w : nW} (N : Nat) {G : nG} (hG : n_GOK G) : n_AllS l w 0 mX12_keepsAhead G (n_fin dv_v G) (aX12_keepsAhead N) :=
  n_c (s_aload_n (pc := 0) (k := 0) (by decide +kernel)) <|
  n_c (s_gIc (s_getI (pc := 1) (ci := 12) (k := 3) (idx := 149) nok12 (by decide) rfl (by decide +kernel) w_1410) (gk107 hG)) <|
  n_c (s_bipush (pc := 4) (n := 6) (by decide +kernel) (by decide +kernel)) <|
  n_c (s_icmp_ne (pc := 6) (off := 47) (by decide +kernel) (by decide +kernel)) <|
  n_c (s_aload_n (pc := 9) (k := 0) (by decide +kernel)) <|
  n_c (s_aload_n (pc := 10) (k := 0) (by decide +kernel)) <|
  n_c (s_gIc (s_getI (pc := 11) (ci := 12) (k := 3) (idx := 149) nok12 (by decide) rfl (by decide +kernel) w_1410) (gk107 hG)) <|
  n_c (s_iconst (pc := 14) (n := 1) (by decide +kernel) (by decide +kernel)) <|
  n_c (s_isub (pc := 15) (by decide +kernel)) <|
  n_c (s_pIc (s_putI (pc := 16) (ci := 12) (k := 3) (idx := 149) nok12 (by decide) rfl rfl (by decide +kernel) w_1410) (gk107 hG)) <|
  n_c (s_iconst (pc := 19) (n := 0) (by decide +kernel) (by decide +kernel)) <|
  n_c (s_istore_n (pc := 20) (k := 1) (by decide +kernel)) <|
  n_c (s_iload_n (pc := 21) (k := 1) (by decide +kernel)) <|
  n_c (s_bipush (pc := 22) (n := 100) (by decide +kernel) (by decide +kernel)) <|
  n_c (s_aload_n (pc := 24) (k := 0) (by decide +kernel)) <|
  n_c (s_gIc (s_getI (pc := 25) (ci := 12) (k := 3) (idx := 149) nok12 (by decide) rfl (by decide +kernel) w_1410) (gk107 hG)) <|
  n_c (s_imul (pc := 28) (by decide +kernel)) <|
  n_c (s_icmp_ge (pc := 29) (off := 24) (by decide +kernel) (by decide +kernel)) <|
  n_c (s_aload_n (pc := 32) (k := 0) (by decide +kernel)) <|
  n_c (s_gRc (s_getR (pc := 33) (ci := 12) (k := 2) (idx := 13) nok12 (by decide) rfl (by decide +kernel) w_1409) (gk107 hG) (gm107_2 hG)) <|
  n_c (s_iload_n (pc := 36) (k := 1) (by decide +kernel)) <|
  n_c (s_aload_n (pc := 37) (k := 0) (by decide +kernel)) <|
  n_c (s_gRc (s_getR (pc := 38) (ci := 12) (k := 2) (idx := 13) nok12 (by decide) rfl (by decide +kernel) w_1409) (gk107 hG) (gm107_2 hG)) <|
  n_c (s_iload_n (pc := 41) (k := 1) (by decide +kernel)) <|
  n_c (s_bipush (pc := 42) (n := 100) (by decide +kernel) (by decide +kernel)) <|
  n_c (s_iadd (pc := 44) (by decide +kernel)) <|
  n_c (s_aldc (s_iaload (pc := 45) (by decide +kernel)) (gk109 hG) (gl109 hG)) <|
  n_c (s_iastc (s_iastore (pc := 46) (by decide +kernel)) (gk109 hG) (gl109 hG)) <|
  n_c (s_iinc (pc := 47) (n := 1) (by decide +kernel) (by decide +kernel)) <|
  n_c (s_goto (pc := 50) (off := -29) (by decide +kernel) (by decide +kernel)) <|
  n_c (s_iconst (pc := 53) (n := 0) (by decide +kernel) (by decide +kernel)) <|
  n_c (s_istore_n (pc := 54) (k := 1) (by decide +kernel)) <|
  n_c (s_iload_n (pc := 55) (k := 1) (by decide +kernel)) <|
  n_c (s_bipush (pc := 56) (n := 100) (by decide +kernel) (by decide +kernel)) <|
  n_c (s_icmp_ge (pc := 58) (off := 29) (by decide +kernel) (by decide +kernel)) <|
  n_c (s_aload_n (pc := 61) (k := 0) (by decide +kernel)) <|
  n_c (s_gRc (s_getR (pc := 62) (ci := 12) (k := 2) (idx := 13) nok12 (by decide) rfl (by decide +kernel) w_1409) (gk107 hG) (gm107_2 hG)) <|
  n_c (s_bipush (pc := 65) (n := 100) (by decide +kernel) (by decide +kernel)) <|
  n_c (s_aload_n (pc := 67) (k := 0) (by decide +kernel)) <|
  n_c (s_gIc (s_getI (pc := 68) (ci := 12) (k := 3) (idx := 149) nok12 (by decide) rfl (by decide +kernel) w_1410) (gk107 hG)) <|
  n_c (s_imul (pc := 71) (by decide +kernel)) <|
  n_c (s_iload_n (pc := 72) (k := 1) (by decide +kernel)) <|
  n_c (s_iadd (pc := 73) (by decide +kernel)) <|
  n_c (s_aload_n (pc := 74) (k := 0) (by decide +kernel)) <|
  n_c (s_gRc (s_getR (pc := 75) (ci := 12) (k := 1) (idx := 7) nok12 (by decide) rfl (by decide +kernel) w_1408) (gk107 hG) (gm107_1 hG)) <|
  n_c (s_iload_n (pc := 78) (k := 1) (by decide +kernel)) <|
  n_c (s_aldc (s_iaload (pc := 79) (by decide +kernel)) (gk108 hG) (gl108 hG)) <|
  n_c (s_iastc (s_iastore (pc := 80) (by decide +kernel)) (gk109 hG) (gl109 hG)) <|
  n_c (s_iinc (pc := 81) (n := 1) (by decide +kernel) (by decide +kernel)) <|
  n_c (s_goto (pc := 84) (off := -29) (by decide +kernel) (by decide +kernel)) <|
  n_c (s_aload_n (pc := 87) (k := 0) (by decide +kernel)) <|
  n_c (s_aload_n (pc := 88) (k := 0) (by decide +kernel)) <|
  n_c (s_gIc (s_getI (pc := 89) (ci := 12) (k := 3) (idx := 149) nok12 (by decide) rfl (by decide +kernel) w_1410) (gk107 hG)) <|
  n_c (s_iconst (pc := 92) (n := 1) (by decide +kernel) (by decide +kernel)) <|
  n_c (s_iadd (pc := 93) (by decide +kernel)) <|
  n_c (s_pIc (s_putI (pc := 94) (ci := 12) (k := 3) (idx := 149) nok12 (by decide) rfl rfl (by decide +kernel) w_1410) (gk107 hG)) <|
  n_c (s_vret (pc := 97) rfl (by decide +kernel)) <|
  n_e
def fX12_keepsAhead_55 (N : Nat) : Nat → Int32 → nM → Option (Unit × nM)
  | 0, _, _ => none
  | n + 1, x1, M =>
    if (100 : Int32) ≤ x1 then
      let M1 : nM := n_up M 107 3 ((M 107 3) + (1 : Int32))
      some ((), M1)
    else
      n_chk (n_ib 100 x1) <|
      n_chk (n_ib 600 (((100 : Int32) * (M 107 3)) + x1)) <|
      let M2 : nM := n_up M 109 (((100 : Int32) * (M 107 3)) + x1).toNatClampNeg (M 108 x1.toNatClampNeg)
      let v3 : Int32 := (x1 + (1 : Int32))
      fX12_keepsAhead_55 N n v3 M2
set_option maxRecDepth 200000 in
theorem bX12_keepsAhead_55 {l : Launch} {w : nW} (N : Nat) {G : nG} (hG : n_GOK G) : ∀ (n : Nat) (x1 : Int32) (M : nM) (r : Unit × nM), fX12_keepsAhead_55 N n x1 M = some r → n_At l w 0 mX12_keepsAhead 55 [(0, .ref 107), (1, .int x1)] [] (G, M) (dv_v r.1, (G, r.2)) := by
  intro n
  induction n with
  | zero => intro x1 M r h; cases (show (none : Option (Unit × nM)) = some r from h)
  | succ n ih =>
    intro x1 M r h
    exact n_seg (fin := n_fin dv_v G) (K := [(55, fun lv st M => n_lC 107 lv 0 (n_lI lv 1 (fun x1 => n_pE st (fX12_keepsAhead_55 N n x1 M))))]) 28 (iX12_keepsAhead N hG) (n_kc (fun lv st M r h => by
      obtain ⟨e0, h1⟩ := n_lC_x h
      obtain ⟨x1, e1, h2⟩ := n_lI_x h1
      obtain ⟨rfl, h3⟩ := n_pE_x h2
      exact n_sub (n_qc e0 (n_qc e1 n_qe)) (ih x1 M r h3)) n_ke) (by rfl) h
def fX12_keepsAhead_21 (N : Nat) : Nat → Int32 → nM → Option (Unit × nM)
  | 0, _, _ => none
  | n + 1, x1, M =>
    if ((100 : Int32) * (M 107 3)) ≤ x1 then
      fX12_keepsAhead_55 N N (0 : Int32) M
    else
      n_chk (n_ib 600 (x1 + (100 : Int32))) <|
      n_chk (n_ib 600 x1) <|
      let M1 : nM := n_up M 109 x1.toNatClampNeg (M 109 (x1 + (100 : Int32)).toNatClampNeg)
      let v2 : Int32 := (x1 + (1 : Int32))
      fX12_keepsAhead_21 N n v2 M1
set_option maxRecDepth 200000 in
theorem bX12_keepsAhead_21 {l : Launch} {w : nW} (N : Nat) {G : nG} (hG : n_GOK G) : ∀ (n : Nat) (x1 : Int32) (M : nM) (r : Unit × nM), fX12_keepsAhead_21 N n x1 M = some r → n_At l w 0 mX12_keepsAhead 21 [(0, .ref 107), (1, .int x1)] [] (G, M) (dv_v r.1, (G, r.2)) := by
  intro n
  induction n with
  | zero => intro x1 M r h; cases (show (none : Option (Unit × nM)) = some r from h)
  | succ n ih =>
    intro x1 M r h
    exact n_seg (fin := n_fin dv_v G) (K := [(21, fun lv st M => n_lC 107 lv 0 (n_lI lv 1 (fun x1 => n_pE st (fX12_keepsAhead_21 N n x1 M)))), (55, fun lv st M => n_lC 107 lv 0 (n_lI lv 1 (fun x1 => n_pE st (fX12_keepsAhead_55 N N x1 M))))]) 23 (iX12_keepsAhead N hG) (n_kc (fun lv st M r h => by
      obtain ⟨e0, h1⟩ := n_lC_x h
      obtain ⟨x1, e1, h2⟩ := n_lI_x h1
      obtain ⟨rfl, h3⟩ := n_pE_x h2
      exact n_sub (n_qc e0 (n_qc e1 n_qe)) (ih x1 M r h3)) (n_kc (fun lv st M r h => by
      obtain ⟨e0, h1⟩ := n_lC_x h
      obtain ⟨x1, e1, h2⟩ := n_lI_x h1
      obtain ⟨rfl, h3⟩ := n_pE_x h2
      exact n_sub (n_qc e0 (n_qc e1 n_qe)) (bX12_keepsAhead_55 N hG N x1 M r h3)) n_ke)) (by rfl) h
def fX12_keepsAhead (N : Nat) (M : nM) : Option (Unit × nM) :=
  if ¬ (M 107 3) = (6 : Int32) then
    fX12_keepsAhead_55 N N (0 : Int32) M
  else
    let M1 : nM := n_up M 107 3 ((M 107 3) - (1 : Int32))
    fX12_keepsAhead_21 N N (0 : Int32) M1
set_option maxRecDepth 200000 in
theorem bX12_keepsAhead_0 {l : Launch} {w : nW} (N : Nat) {G : nG} (hG : n_GOK G) (M : nM) (r : Unit × nM) (h : fX12_keepsAhead N M = some r) : n_At l w 0 mX12_keepsAhead 0 [(0, .ref 107)] [] (G, M) (dv_v r.1, (G, r.2)) :=
  n_seg (fin := n_fin dv_v G) (K := [(21, fun lv st M => n_lC 107 lv 0 (n_lI lv 1 (fun x1 => n_pE st (fX12_keepsAhead_21 N N x1 M)))), (55, fun lv st M => n_lC 107 lv 0 (n_lI lv 1 (fun x1 => n_pE st (fX12_keepsAhead_55 N N x1 M))))]) 17 (iX12_keepsAhead N hG) (n_kc (fun lv st M r h => by
      obtain ⟨e0, h1⟩ := n_lC_x h
      obtain ⟨x1, e1, h2⟩ := n_lI_x h1
      obtain ⟨rfl, h3⟩ := n_pE_x h2
      exact n_sub (n_qc e0 (n_qc e1 n_qe)) (bX12_keepsAhead_21 N hG N x1 M r h3)) (n_kc (fun lv st M r h => by
      obtain ⟨e0, h1⟩ := n_lC_x h
      obtain ⟨x1, e1, h2⟩ := n_lI_x h1
      obtain ⟨rfl, h3⟩ := n_pE_x h2
      exact n_sub (n_qc e0 (n_qc e1 n_qe)) (bX12_keepsAhead_55 N hG N x1 M r h3)) n_ke)) (by rfl) h
theorem eX12_keepsAhead {l : Launch} {w : nW} (N : Nat) {G : nG} (hG : n_GOK G) (M : nM) (r : Unit × nM) (h : fX12_keepsAhead N M = some r) : n_Met l w 0 mX12_keepsAhead [.ref 107] (G, M) (dv_v r.1, (G, r.2)) :=
  n_entry (by decide +kernel) rfl (Nat.le_of_ble_eq_true rfl) (n_sub (lv := [(0, .ref 107)]) (n_qc rfl n_qe) (bX12_keepsAhead_0 N hG M r h))
abbrev hX12_keepsAhead (N : Nat) : nF := fun T as M k => n_pC 107 as (fun as => n_pE as ((fX12_keepsAhead N M).bind fun p => k (dv_v p.1) p.2))
theorem csX12_keepsAhead {l : Launch} {w : nW} (N : Nat) {G : nG} (hG : n_GOK G) : n_CS l w 0 mX12_keepsAhead G (hX12_keepsAhead N) := fun T as M k r h => by
  obtain ⟨t0, rfl, h1⟩ := n_pC_x h
  obtain ⟨rfl, hE⟩ := n_pE_x h1
  obtain ⟨p, hp, hk⟩ := Option.bind_eq_some_iff.mp hE
  exact ⟨_, _, eX12_keepsAhead N hG M p hp, hk⟩
/-! ===== SleightHouseModel.notes(III)V ===== -/
def mX12_notes : nY := (RX12, yX12_notes, cX12_notes, 5, none)
theorem okX12_notes : n_MOK mX12_notes 3 := ⟨w_1868, w_151, ⟨by decide +kernel, by decide +kernel, by decide +kernel⟩, by decide⟩
abbrev aX12_notes : List (Nat × nO (Unit × nM)) := [(0, o_aload 0 1), (1, o_gIc 107 5 4), (4, oi_ne 19 7), (7, o_aload 0 8), (8, o_gRc 107 108 11), (11, o_push (.int (2 : Int32)) 12), (12, o_aldc 108 100 13), (13, o_push (.int (150 : Int32)) 16), (16, oc_ne 20 19), (19, o_vret), (20, o_push (.int (4 : Int32)) 21), (21, o_aload 0 22), (22, o_gRc 107 108 25), (25, o_push (.int (2 : Int32)) 26), (26, o_aldc 108 100 27), (27, o_imul 28), (28, o_istore 5 4 30), (30, o_aload 0 31), (31, o_gRc 107 116 34), (34, o_iload 4 36), (36, o_aload 0 37), (37, o_gRc 107 108 40), (40, o_push (.int (0 : Int32)) 41), (41, o_aldc 108 100 42), (42, o_iastc 116 600 43), (43, o_aload 0 44), (44, o_gRc 107 116 47), (47, o_iload 4 49), (49, o_push (.int (1 : Int32)) 50), (50, o_iadd 51), (51, o_iload 1 52), (52, o_iastc 116 600 53), (53, o_aload 0 54), (54, o_gRc 107 116 57), (57, o_iload 4 59), (59, o_push (.int (2 : Int32)) 60), (60, o_iadd 61), (61, o_iload 2 62), (62, o_iastc 116 600 63), (63, o_aload 0 64), (64, o_gRc 107 116 67), (67, o_iload 4 69), (69, o_push (.int (3 : Int32)) 70), (70, o_iadd 71), (71, o_iload 3 72), (72, o_iastc 116 600 73), (73, o_aload 0 74), (74, o_gRc 107 108 77), (77, o_push (.int (2 : Int32)) 78), (78, o_aload 0 79), (79, o_gRc 107 108 82), (82, o_push (.int (2 : Int32)) 83), (83, o_aldc 108 100 84), (84, o_push (.int (1 : Int32)) 85), (85, o_iadd 86), (86, o_iastc 108 100 87), (87, o_vret)]
set_option maxRecDepth 200000 in
theorem iX12_notes {l : Launch} {w : nW} {G : nG} (hG : n_GOK G) : n_AllS l w 0 mX12_notes G (n_fin dv_v G) (aX12_notes) :=
  n_c (s_aload_n (pc := 0) (k := 0) (by decide +kernel)) <|
  n_c (s_gIc (s_getI (pc := 1) (ci := 12) (k := 5) (idx := 152) nok12 (by decide) rfl (by decide +kernel) w_1412) (gk107 hG)) <|
  n_c (s_if_ne (pc := 4) (off := 15) (by decide +kernel) (by decide +kernel)) <|
  n_c (s_aload_n (pc := 7) (k := 0) (by decide +kernel)) <|
  n_c (s_gRc (s_getR (pc := 8) (ci := 12) (k := 1) (idx := 7) nok12 (by decide) rfl (by decide +kernel) w_1408) (gk107 hG) (gm107_1 hG)) <|
  n_c (s_iconst (pc := 11) (n := 2) (by decide +kernel) (by decide +kernel)) <|
  n_c (s_aldc (s_iaload (pc := 12) (by decide +kernel)) (gk108 hG) (gl108 hG)) <|
  n_c (s_sipush (pc := 13) (n := 150) (by decide +kernel) (by decide +kernel)) <|
  n_c (s_icmp_ne (pc := 16) (off := 4) (by decide +kernel) (by decide +kernel)) <|
  n_c (s_vret (pc := 19) rfl (by decide +kernel)) <|
  n_c (s_iconst (pc := 20) (n := 4) (by decide +kernel) (by decide +kernel)) <|
  n_c (s_aload_n (pc := 21) (k := 0) (by decide +kernel)) <|
  n_c (s_gRc (s_getR (pc := 22) (ci := 12) (k := 1) (idx := 7) nok12 (by decide) rfl (by decide +kernel) w_1408) (gk107 hG) (gm107_1 hG)) <|
  n_c (s_iconst (pc := 25) (n := 2) (by decide +kernel) (by decide +kernel)) <|
  n_c (s_aldc (s_iaload (pc := 26) (by decide +kernel)) (gk108 hG) (gl108 hG)) <|
  n_c (s_imul (pc := 27) (by decide +kernel)) <|
  n_c (s_istore (pc := 28) (by decide +kernel)) <|
  n_c (s_aload_n (pc := 30) (k := 0) (by decide +kernel)) <|
  n_c (s_gRc (s_getR (pc := 31) (ci := 12) (k := 13) (idx := 34) nok12 (by decide) rfl (by decide +kernel) w_1420) (gk107 hG) (gm107_13 hG)) <|
  n_c (s_iload (pc := 34) (by decide +kernel)) <|
  n_c (s_aload_n (pc := 36) (k := 0) (by decide +kernel)) <|
  n_c (s_gRc (s_getR (pc := 37) (ci := 12) (k := 1) (idx := 7) nok12 (by decide) rfl (by decide +kernel) w_1408) (gk107 hG) (gm107_1 hG)) <|
  n_c (s_iconst (pc := 40) (n := 0) (by decide +kernel) (by decide +kernel)) <|
  n_c (s_aldc (s_iaload (pc := 41) (by decide +kernel)) (gk108 hG) (gl108 hG)) <|
  n_c (s_iastc (s_iastore (pc := 42) (by decide +kernel)) (gk116 hG) (gl116 hG)) <|
  n_c (s_aload_n (pc := 43) (k := 0) (by decide +kernel)) <|
  n_c (s_gRc (s_getR (pc := 44) (ci := 12) (k := 13) (idx := 34) nok12 (by decide) rfl (by decide +kernel) w_1420) (gk107 hG) (gm107_13 hG)) <|
  n_c (s_iload (pc := 47) (by decide +kernel)) <|
  n_c (s_iconst (pc := 49) (n := 1) (by decide +kernel) (by decide +kernel)) <|
  n_c (s_iadd (pc := 50) (by decide +kernel)) <|
  n_c (s_iload_n (pc := 51) (k := 1) (by decide +kernel)) <|
  n_c (s_iastc (s_iastore (pc := 52) (by decide +kernel)) (gk116 hG) (gl116 hG)) <|
  n_c (s_aload_n (pc := 53) (k := 0) (by decide +kernel)) <|
  n_c (s_gRc (s_getR (pc := 54) (ci := 12) (k := 13) (idx := 34) nok12 (by decide) rfl (by decide +kernel) w_1420) (gk107 hG) (gm107_13 hG)) <|
  n_c (s_iload (pc := 57) (by decide +kernel)) <|
  n_c (s_iconst (pc := 59) (n := 2) (by decide +kernel) (by decide +kernel)) <|
  n_c (s_iadd (pc := 60) (by decide +kernel)) <|
  n_c (s_iload_n (pc := 61) (k := 2) (by decide +kernel)) <|
  n_c (s_iastc (s_iastore (pc := 62) (by decide +kernel)) (gk116 hG) (gl116 hG)) <|
  n_c (s_aload_n (pc := 63) (k := 0) (by decide +kernel)) <|
  n_c (s_gRc (s_getR (pc := 64) (ci := 12) (k := 13) (idx := 34) nok12 (by decide) rfl (by decide +kernel) w_1420) (gk107 hG) (gm107_13 hG)) <|
  n_c (s_iload (pc := 67) (by decide +kernel)) <|
  n_c (s_iconst (pc := 69) (n := 3) (by decide +kernel) (by decide +kernel)) <|
  n_c (s_iadd (pc := 70) (by decide +kernel)) <|
  n_c (s_iload_n (pc := 71) (k := 3) (by decide +kernel)) <|
  n_c (s_iastc (s_iastore (pc := 72) (by decide +kernel)) (gk116 hG) (gl116 hG)) <|
  n_c (s_aload_n (pc := 73) (k := 0) (by decide +kernel)) <|
  n_c (s_gRc (s_getR (pc := 74) (ci := 12) (k := 1) (idx := 7) nok12 (by decide) rfl (by decide +kernel) w_1408) (gk107 hG) (gm107_1 hG)) <|
  n_c (s_iconst (pc := 77) (n := 2) (by decide +kernel) (by decide +kernel)) <|
  n_c (s_aload_n (pc := 78) (k := 0) (by decide +kernel)) <|
  n_c (s_gRc (s_getR (pc := 79) (ci := 12) (k := 1) (idx := 7) nok12 (by decide) rfl (by decide +kernel) w_1408) (gk107 hG) (gm107_1 hG)) <|
  n_c (s_iconst (pc := 82) (n := 2) (by decide +kernel) (by decide +kernel)) <|
  n_c (s_aldc (s_iaload (pc := 83) (by decide +kernel)) (gk108 hG) (gl108 hG)) <|
  n_c (s_iconst (pc := 84) (n := 1) (by decide +kernel) (by decide +kernel)) <|
  n_c (s_iadd (pc := 85) (by decide +kernel)) <|
  n_c (s_iastc (s_iastore (pc := 86) (by decide +kernel)) (gk108 hG) (gl108 hG)) <|
  n_c (s_vret (pc := 87) rfl (by decide +kernel)) <|
  n_e
def fX12_notes (x1 : Int32) (x2 : Int32) (x3 : Int32) (M : nM) : Option (Unit × nM) :=
  if ¬ (M 107 5) = 0 then
    some ((), M)
  else
    n_chk (n_ib 100 (2 : Int32)) <|
    if ¬ (M 108 (2 : Int32).toNatClampNeg) = (150 : Int32) then
      n_chk (n_ib 100 (2 : Int32)) <|
      let v1 : Int32 := ((4 : Int32) * (M 108 (2 : Int32).toNatClampNeg))
      n_chk (n_ib 100 (0 : Int32)) <|
      n_chk (n_ib 600 v1) <|
      let M2 : nM := n_up M 116 v1.toNatClampNeg (M 108 (0 : Int32).toNatClampNeg)
      n_chk (n_ib 600 (v1 + (1 : Int32))) <|
      let M3 : nM := n_up M2 116 (v1 + (1 : Int32)).toNatClampNeg x1
      n_chk (n_ib 600 (v1 + (2 : Int32))) <|
      let M4 : nM := n_up M3 116 (v1 + (2 : Int32)).toNatClampNeg x2
      n_chk (n_ib 600 (v1 + (3 : Int32))) <|
      let M5 : nM := n_up M4 116 (v1 + (3 : Int32)).toNatClampNeg x3
      n_chk (n_ib 100 (2 : Int32)) <|
      n_chk (n_ib 100 (2 : Int32)) <|
      let M6 : nM := n_up M5 108 (2 : Int32).toNatClampNeg ((M5 108 (2 : Int32).toNatClampNeg) + (1 : Int32))
      some ((), M6)
    else
      some ((), M)
set_option maxRecDepth 200000 in
theorem bX12_notes_0 {l : Launch} {w : nW} {G : nG} (hG : n_GOK G) (x1 : Int32) (x2 : Int32) (x3 : Int32) (M : nM) (r : Unit × nM) (h : fX12_notes x1 x2 x3 M = some r) : n_At l w 0 mX12_notes 0 [(0, .ref 107), (1, .int x1), (2, .int x2), (3, .int x3)] [] (G, M) (dv_v r.1, (G, r.2)) :=
  n_seg (fin := n_fin dv_v G) (K := []) 61 (iX12_notes hG) n_ke (by rfl) h
theorem eX12_notes {l : Launch} {w : nW} {G : nG} (hG : n_GOK G) (z1 : Int32) (z2 : Int32) (z3 : Int32) (M : nM) (r : Unit × nM) (h : fX12_notes z1 z2 z3 M = some r) : n_Met l w 0 mX12_notes [.ref 107, .int z1, .int z2, .int z3] (G, M) (dv_v r.1, (G, r.2)) :=
  n_entry (by decide +kernel) rfl (Nat.le_of_ble_eq_true rfl) (n_sub (lv := [(0, .ref 107), (1, .int z1), (2, .int z2), (3, .int z3)]) (n_qc rfl (n_qc rfl (n_qc rfl (n_qc rfl n_qe)))) (bX12_notes_0 hG z1 z2 z3 M r h))
abbrev hX12_notes : nF := fun T as M k => n_pC 107 as (fun as => n_pI as (fun z1 as => n_pI as (fun z2 as => n_pI as (fun z3 as => n_pE as ((fX12_notes z1 z2 z3 M).bind fun p => k (dv_v p.1) p.2)))))
theorem csX12_notes {l : Launch} {w : nW} {G : nG} (hG : n_GOK G) : n_CS l w 0 mX12_notes G (hX12_notes) := fun T as M k r h => by
  obtain ⟨t0, rfl, h1⟩ := n_pC_x h
  obtain ⟨z1, t1, rfl, h2⟩ := n_pI_x h1
  obtain ⟨z2, t2, rfl, h3⟩ := n_pI_x h2
  obtain ⟨z3, t3, rfl, h4⟩ := n_pI_x h3
  obtain ⟨rfl, hE⟩ := n_pE_x h4
  obtain ⟨p, hp, hk⟩ := Option.bind_eq_some_iff.mp hE
  exact ⟨_, _, eX12_notes hG z1 z2 z3 M p hp, hk⟩
/-! ===== SleightHouseModel.twoOf(III)I ===== -/
def mX12_twoOf : nY := (RX12, yX12_twoOf, cX12_twoOf, 4, some .int)
theorem okX12_twoOf : n_MOK mX12_twoOf 3 := ⟨w_1888, w_151, ⟨by decide +kernel, by decide +kernel, by decide +kernel⟩, by decide⟩
abbrev aX12_twoOf : List (Nat × nO (Int32 × nM)) := [(0, o_iload 1 1), (1, o_push (.int (2 : Int32)) 2), (2, oc_ne 9 5), (5, o_iload 2 6), (6, o_iload 3 7), (7, o_iadd 8), (8, o_iret), (9, o_iload 1 10), (10, o_push (.int (3 : Int32)) 11), (11, oc_ne 18 14), (14, o_iload 2 15), (15, o_iload 3 16), (16, o_isub 17), (17, o_iret), (18, o_iload 1 19), (19, o_push (.int (4 : Int32)) 20), (20, oc_ne 27 23), (23, o_iload 2 24), (24, o_iload 3 25), (25, o_imul 26), (26, o_iret), (27, o_iload 1 28), (28, o_push (.int (5 : Int32)) 29), (29, oc_ne 36 32), (32, o_iload 2 33), (33, o_iload 3 34), (34, o_idiv 35), (35, o_iret), (36, o_iload 1 37), (37, o_push (.int (6 : Int32)) 39), (39, oc_ne 53 42), (42, o_iload 2 43), (43, o_iload 3 44), (44, oc_ge 51 47), (47, o_push (.int (1 : Int32)) 48), (48, o_goto 52), (51, o_push (.int (0 : Int32)) 52), (52, o_iret), (53, o_iload 1 54), (54, o_push (.int (7 : Int32)) 56), (56, oc_ne 70 59), (59, o_iload 2 60), (60, o_iload 3 61), (61, oc_ne 68 64), (64, o_push (.int (1 : Int32)) 65), (65, o_goto 69), (68, o_push (.int (0 : Int32)) 69), (69, o_iret), (70, o_iload 1 71), (71, o_push (.int (8 : Int32)) 73), (73, oc_ne 87 76), (76, o_iload 2 77), (77, o_iload 3 78), (78, oc_le 85 81), (81, o_push (.int (1 : Int32)) 82), (82, o_goto 86), (85, o_push (.int (0 : Int32)) 86), (86, o_iret), (87, o_iload 1 88), (88, o_push (.int (10 : Int32)) 90), (90, oc_ne 99 93), (93, o_iload 2 94), (94, o_iload 3 95), (95, o_imul 96), (96, o_goto 110), (99, o_iload 2 100), (100, o_iload 3 101), (101, o_iadd 102), (102, oi_le 109 105), (105, o_push (.int (1 : Int32)) 106), (106, o_goto 110), (109, o_push (.int (0 : Int32)) 110), (110, o_iret)]
set_option maxRecDepth 200000 in
theorem iX12_twoOf {l : Launch} {w : nW} {G : nG} : n_AllS l w 0 mX12_twoOf G (n_fin dv_i G) (aX12_twoOf) :=
  n_c (s_iload_n (pc := 0) (k := 1) (by decide +kernel)) <|
  n_c (s_iconst (pc := 1) (n := 2) (by decide +kernel) (by decide +kernel)) <|
  n_c (s_icmp_ne (pc := 2) (off := 7) (by decide +kernel) (by decide +kernel)) <|
  n_c (s_iload_n (pc := 5) (k := 2) (by decide +kernel)) <|
  n_c (s_iload_n (pc := 6) (k := 3) (by decide +kernel)) <|
  n_c (s_iadd (pc := 7) (by decide +kernel)) <|
  n_c (s_iret (pc := 8) rfl (by decide +kernel)) <|
  n_c (s_iload_n (pc := 9) (k := 1) (by decide +kernel)) <|
  n_c (s_iconst (pc := 10) (n := 3) (by decide +kernel) (by decide +kernel)) <|
  n_c (s_icmp_ne (pc := 11) (off := 7) (by decide +kernel) (by decide +kernel)) <|
  n_c (s_iload_n (pc := 14) (k := 2) (by decide +kernel)) <|
  n_c (s_iload_n (pc := 15) (k := 3) (by decide +kernel)) <|
  n_c (s_isub (pc := 16) (by decide +kernel)) <|
  n_c (s_iret (pc := 17) rfl (by decide +kernel)) <|
  n_c (s_iload_n (pc := 18) (k := 1) (by decide +kernel)) <|
  n_c (s_iconst (pc := 19) (n := 4) (by decide +kernel) (by decide +kernel)) <|
  n_c (s_icmp_ne (pc := 20) (off := 7) (by decide +kernel) (by decide +kernel)) <|
  n_c (s_iload_n (pc := 23) (k := 2) (by decide +kernel)) <|
  n_c (s_iload_n (pc := 24) (k := 3) (by decide +kernel)) <|
  n_c (s_imul (pc := 25) (by decide +kernel)) <|
  n_c (s_iret (pc := 26) rfl (by decide +kernel)) <|
  n_c (s_iload_n (pc := 27) (k := 1) (by decide +kernel)) <|
  n_c (s_iconst (pc := 28) (n := 5) (by decide +kernel) (by decide +kernel)) <|
  n_c (s_icmp_ne (pc := 29) (off := 7) (by decide +kernel) (by decide +kernel)) <|
  n_c (s_iload_n (pc := 32) (k := 2) (by decide +kernel)) <|
  n_c (s_iload_n (pc := 33) (k := 3) (by decide +kernel)) <|
  n_c (s_idiv (pc := 34) (by decide +kernel)) <|
  n_c (s_iret (pc := 35) rfl (by decide +kernel)) <|
  n_c (s_iload_n (pc := 36) (k := 1) (by decide +kernel)) <|
  n_c (s_bipush (pc := 37) (n := 6) (by decide +kernel) (by decide +kernel)) <|
  n_c (s_icmp_ne (pc := 39) (off := 14) (by decide +kernel) (by decide +kernel)) <|
  n_c (s_iload_n (pc := 42) (k := 2) (by decide +kernel)) <|
  n_c (s_iload_n (pc := 43) (k := 3) (by decide +kernel)) <|
  n_c (s_icmp_ge (pc := 44) (off := 7) (by decide +kernel) (by decide +kernel)) <|
  n_c (s_iconst (pc := 47) (n := 1) (by decide +kernel) (by decide +kernel)) <|
  n_c (s_goto (pc := 48) (off := 4) (by decide +kernel) (by decide +kernel)) <|
  n_c (s_iconst (pc := 51) (n := 0) (by decide +kernel) (by decide +kernel)) <|
  n_c (s_iret (pc := 52) rfl (by decide +kernel)) <|
  n_c (s_iload_n (pc := 53) (k := 1) (by decide +kernel)) <|
  n_c (s_bipush (pc := 54) (n := 7) (by decide +kernel) (by decide +kernel)) <|
  n_c (s_icmp_ne (pc := 56) (off := 14) (by decide +kernel) (by decide +kernel)) <|
  n_c (s_iload_n (pc := 59) (k := 2) (by decide +kernel)) <|
  n_c (s_iload_n (pc := 60) (k := 3) (by decide +kernel)) <|
  n_c (s_icmp_ne (pc := 61) (off := 7) (by decide +kernel) (by decide +kernel)) <|
  n_c (s_iconst (pc := 64) (n := 1) (by decide +kernel) (by decide +kernel)) <|
  n_c (s_goto (pc := 65) (off := 4) (by decide +kernel) (by decide +kernel)) <|
  n_c (s_iconst (pc := 68) (n := 0) (by decide +kernel) (by decide +kernel)) <|
  n_c (s_iret (pc := 69) rfl (by decide +kernel)) <|
  n_c (s_iload_n (pc := 70) (k := 1) (by decide +kernel)) <|
  n_c (s_bipush (pc := 71) (n := 8) (by decide +kernel) (by decide +kernel)) <|
  n_c (s_icmp_ne (pc := 73) (off := 14) (by decide +kernel) (by decide +kernel)) <|
  n_c (s_iload_n (pc := 76) (k := 2) (by decide +kernel)) <|
  n_c (s_iload_n (pc := 77) (k := 3) (by decide +kernel)) <|
  n_c (s_icmp_le (pc := 78) (off := 7) (by decide +kernel) (by decide +kernel)) <|
  n_c (s_iconst (pc := 81) (n := 1) (by decide +kernel) (by decide +kernel)) <|
  n_c (s_goto (pc := 82) (off := 4) (by decide +kernel) (by decide +kernel)) <|
  n_c (s_iconst (pc := 85) (n := 0) (by decide +kernel) (by decide +kernel)) <|
  n_c (s_iret (pc := 86) rfl (by decide +kernel)) <|
  n_c (s_iload_n (pc := 87) (k := 1) (by decide +kernel)) <|
  n_c (s_bipush (pc := 88) (n := 10) (by decide +kernel) (by decide +kernel)) <|
  n_c (s_icmp_ne (pc := 90) (off := 9) (by decide +kernel) (by decide +kernel)) <|
  n_c (s_iload_n (pc := 93) (k := 2) (by decide +kernel)) <|
  n_c (s_iload_n (pc := 94) (k := 3) (by decide +kernel)) <|
  n_c (s_imul (pc := 95) (by decide +kernel)) <|
  n_c (s_goto (pc := 96) (off := 14) (by decide +kernel) (by decide +kernel)) <|
  n_c (s_iload_n (pc := 99) (k := 2) (by decide +kernel)) <|
  n_c (s_iload_n (pc := 100) (k := 3) (by decide +kernel)) <|
  n_c (s_iadd (pc := 101) (by decide +kernel)) <|
  n_c (s_if_le (pc := 102) (off := 7) (by decide +kernel) (by decide +kernel)) <|
  n_c (s_iconst (pc := 105) (n := 1) (by decide +kernel) (by decide +kernel)) <|
  n_c (s_goto (pc := 106) (off := 4) (by decide +kernel) (by decide +kernel)) <|
  n_c (s_iconst (pc := 109) (n := 0) (by decide +kernel) (by decide +kernel)) <|
  n_c (s_iret (pc := 110) rfl (by decide +kernel)) <|
  n_e
def fX12_twoOf (x1 : Int32) (x2 : Int32) (x3 : Int32) (M : nM) : Option (Int32 × nM) :=
  if ¬ x1 = (2 : Int32) then
    if ¬ x1 = (3 : Int32) then
      if ¬ x1 = (4 : Int32) then
        if ¬ x1 = (5 : Int32) then
          if ¬ x1 = (6 : Int32) then
            if ¬ x1 = (7 : Int32) then
              if ¬ x1 = (8 : Int32) then
                if ¬ x1 = (10 : Int32) then
                  if (x2 + x3) ≤ 0 then
                    some ((0 : Int32), M)
                  else
                    some ((1 : Int32), M)
                else
                  some ((x2 * x3), M)
              else
                if x2 ≤ x3 then
                  some ((0 : Int32), M)
                else
                  some ((1 : Int32), M)
            else
              if ¬ x2 = x3 then
                some ((0 : Int32), M)
              else
                some ((1 : Int32), M)
          else
            if x3 ≤ x2 then
              some ((0 : Int32), M)
            else
              some ((1 : Int32), M)
        else
          if x3 = 0 then none else
          some ((x2 / x3), M)
      else
        some ((x2 * x3), M)
    else
      some ((x2 - x3), M)
  else
    some ((x2 + x3), M)
set_option maxRecDepth 200000 in
theorem bX12_twoOf_0 {l : Launch} {w : nW} {G : nG} (x1 : Int32) (x2 : Int32) (x3 : Int32) (M : nM) (r : Int32 × nM) (h : fX12_twoOf x1 x2 x3 M = some r) : n_At l w 0 mX12_twoOf 0 [(1, .int x1), (2, .int x2), (3, .int x3)] [] (G, M) (dv_i r.1, (G, r.2)) :=
  n_seg (fin := n_fin dv_i G) (K := []) 81 (iX12_twoOf) n_ke (by rfl) h
theorem eX12_twoOf {l : Launch} {w : nW} {G : nG} (z1 : Int32) (z2 : Int32) (z3 : Int32) (M : nM) (r : Int32 × nM) (h : fX12_twoOf z1 z2 z3 M = some r) : n_Met l w 0 mX12_twoOf [.ref 107, .int z1, .int z2, .int z3] (G, M) (dv_i r.1, (G, r.2)) :=
  n_entry (by decide +kernel) rfl (Nat.le_of_ble_eq_true rfl) (n_sub (lv := [(0, .ref 107), (1, .int z1), (2, .int z2), (3, .int z3)]) (n_qc rfl (n_qc rfl (n_qc rfl n_qe))) (bX12_twoOf_0 z1 z2 z3 M r h))
abbrev hX12_twoOf : nF := fun T as M k => n_pC 107 as (fun as => n_pI as (fun z1 as => n_pI as (fun z2 as => n_pI as (fun z3 as => n_pE as ((fX12_twoOf z1 z2 z3 M).bind fun p => k (dv_i p.1) p.2)))))
theorem csX12_twoOf {l : Launch} {w : nW} {G : nG} : n_CS l w 0 mX12_twoOf G (hX12_twoOf) := fun T as M k r h => by
  obtain ⟨t0, rfl, h1⟩ := n_pC_x h
  obtain ⟨z1, t1, rfl, h2⟩ := n_pI_x h1
  obtain ⟨z2, t2, rfl, h3⟩ := n_pI_x h2
  obtain ⟨z3, t3, rfl, h4⟩ := n_pI_x h3
  obtain ⟨rfl, hE⟩ := n_pE_x h4
  obtain ⟨p, hp, hk⟩ := Option.bind_eq_some_iff.mp hE
  exact ⟨_, _, eX12_twoOf z1 z2 z3 M p hp, hk⟩
/-! ===== SleightHouseModel.runs(III)I ===== -/
def mX12_runs : nY := (RX12, yX12_runs, cX12_runs, 6, some .int)
theorem okX12_runs : n_MOK mX12_runs 3 := ⟨w_1884, w_151, ⟨by decide +kernel, by decide +kernel, by decide +kernel⟩, by decide⟩
abbrev aX12_runs (N : Nat) : List (Nat × nO (Int32 × nM)) := [(0, o_push (.int (0 : Int32)) 1), (1, o_istore 6 4 3), (3, o_push (.int (400 : Int32)) 6), (6, o_iload 1 7), (7, o_imul 8), (8, o_iload 2 9), (9, o_iadd 10), (10, o_istore 6 5 12), (12, o_iload 5 14), (14, o_push (.int (400 : Int32)) 17), (17, o_iload 1 18), (18, o_imul 19), (19, o_iload 3 20), (20, o_iadd 21), (21, oc_ge 176 24), (24, o_aload 0 25), (25, o_gRc 107 124 28), (28, o_iload 5 30), (30, o_aldc 124 1200 31), (31, oi_eq 45 34), (34, o_aload 0 35), (35, o_gRc 107 124 38), (38, o_iload 5 40), (40, o_aldc 124 1200 41), (41, o_push (.int (1 : Int32)) 42), (42, oc_ne 93 45), (45, o_aload 0 46), (46, o_gRc 107 132 49), (49, o_iload 4 51), (51, o_aload 0 52), (52, o_gRc 107 124 55), (55, o_iload 5 57), (57, o_aldc 124 1200 58), (58, oi_ne 71 61), (61, o_aload 0 62), (62, o_gRc 107 125 65), (65, o_iload 5 67), (67, o_aldc 125 1200 68), (68, o_goto 83), (71, o_aload 0 72), (72, o_gRc 107 131 75), (75, o_aload 0 76), (76, o_gRc 107 125 79), (79, o_iload 5 81), (81, o_aldc 125 1200 82), (82, o_aldc 131 11 83), (83, o_iastc 132 420 84), (84, o_iload 4 86), (86, o_push (.int (1 : Int32)) 87), (87, o_iadd 88), (88, o_istore 6 4 90), (90, o_goto 170), (93, o_aload 0 94), (94, o_gRc 107 124 97), (97, o_iload 5 99), (99, o_aldc 124 1200 100), (100, o_push (.int (9 : Int32)) 102), (102, oc_ne 128 105), (105, o_aload 0 106), (106, o_gRc 107 132 109), (109, o_iload 4 111), (111, o_push (.int (1 : Int32)) 112), (112, o_isub 113), (113, o_push (.int (1 : Int32)) 114), (114, o_aload 0 115), (115, o_gRc 107 132 118), (118, o_iload 4 120), (120, o_push (.int (1 : Int32)) 121), (121, o_isub 122), (122, o_aldc 132 420 123), (123, o_isub 124), (124, o_iastc 132 420 125), (125, o_goto 170), (128, o_iload 4 130), (130, o_push (.int (1 : Int32)) 131), (131, o_isub 132), (132, o_istore 6 4 134), (134, o_aload 0 135), (135, o_gRc 107 132 138), (138, o_iload 4 140), (140, o_push (.int (1 : Int32)) 141), (141, o_isub 142), (142, o_aload 0 143), (143, o_aload 0 144), (144, o_gRc 107 124 147), (147, o_iload 5 149), (149, o_aldc 124 1200 150), (150, o_aload 0 151), (151, o_gRc 107 132 154), (154, o_iload 4 156), (156, o_push (.int (1 : Int32)) 157), (157, o_isub 158), (158, o_aldc 132 420 159), (159, o_aload 0 160), (160, o_gRc 107 132 163), (163, o_iload 4 165), (165, o_aldc 132 420 166), (166, o_callVc 107 3 (hX12_twoOf) 169), (169, o_iastc 132 420 170), (170, o_inc 6 5 (1 : Int32) 173), (173, o_goto 12), (176, o_aload 0 177), (177, o_gRc 107 132 180), (180, o_push (.int (0 : Int32)) 181), (181, o_aldc 132 420 182), (182, o_iret)]
set_option maxRecDepth 200000 in
theorem iX12_runs {l : Launch} {w : nW} (N : Nat) {G : nG} (hG : n_GOK G) : n_AllS l w 1 mX12_runs G (n_fin dv_i G) (aX12_runs N) :=
  n_c (s_iconst (pc := 0) (n := 0) (by decide +kernel) (by decide +kernel)) <|
  n_c (s_istore (pc := 1) (by decide +kernel)) <|
  n_c (s_sipush (pc := 3) (n := 400) (by decide +kernel) (by decide +kernel)) <|
  n_c (s_iload_n (pc := 6) (k := 1) (by decide +kernel)) <|
  n_c (s_imul (pc := 7) (by decide +kernel)) <|
  n_c (s_iload_n (pc := 8) (k := 2) (by decide +kernel)) <|
  n_c (s_iadd (pc := 9) (by decide +kernel)) <|
  n_c (s_istore (pc := 10) (by decide +kernel)) <|
  n_c (s_iload (pc := 12) (by decide +kernel)) <|
  n_c (s_sipush (pc := 14) (n := 400) (by decide +kernel) (by decide +kernel)) <|
  n_c (s_iload_n (pc := 17) (k := 1) (by decide +kernel)) <|
  n_c (s_imul (pc := 18) (by decide +kernel)) <|
  n_c (s_iload_n (pc := 19) (k := 3) (by decide +kernel)) <|
  n_c (s_iadd (pc := 20) (by decide +kernel)) <|
  n_c (s_icmp_ge (pc := 21) (off := 155) (by decide +kernel) (by decide +kernel)) <|
  n_c (s_aload_n (pc := 24) (k := 0) (by decide +kernel)) <|
  n_c (s_gRc (s_getR (pc := 25) (ci := 12) (k := 26) (idx := 58) nok12 (by decide) rfl (by decide +kernel) w_1433) (gk107 hG) (gm107_26 hG)) <|
  n_c (s_iload (pc := 28) (by decide +kernel)) <|
  n_c (s_aldc (s_iaload (pc := 30) (by decide +kernel)) (gk124 hG) (gl124 hG)) <|
  n_c (s_if_eq (pc := 31) (off := 14) (by decide +kernel) (by decide +kernel)) <|
  n_c (s_aload_n (pc := 34) (k := 0) (by decide +kernel)) <|
  n_c (s_gRc (s_getR (pc := 35) (ci := 12) (k := 26) (idx := 58) nok12 (by decide) rfl (by decide +kernel) w_1433) (gk107 hG) (gm107_26 hG)) <|
  n_c (s_iload (pc := 38) (by decide +kernel)) <|
  n_c (s_aldc (s_iaload (pc := 40) (by decide +kernel)) (gk124 hG) (gl124 hG)) <|
  n_c (s_iconst (pc := 41) (n := 1) (by decide +kernel) (by decide +kernel)) <|
  n_c (s_icmp_ne (pc := 42) (off := 51) (by decide +kernel) (by decide +kernel)) <|
  n_c (s_aload_n (pc := 45) (k := 0) (by decide +kernel)) <|
  n_c (s_gRc (s_getR (pc := 46) (ci := 12) (k := 45) (idx := 86) nok12 (by decide) rfl (by decide +kernel) w_1452) (gk107 hG) (gm107_45 hG)) <|
  n_c (s_iload (pc := 49) (by decide +kernel)) <|
  n_c (s_aload_n (pc := 51) (k := 0) (by decide +kernel)) <|
  n_c (s_gRc (s_getR (pc := 52) (ci := 12) (k := 26) (idx := 58) nok12 (by decide) rfl (by decide +kernel) w_1433) (gk107 hG) (gm107_26 hG)) <|
  n_c (s_iload (pc := 55) (by decide +kernel)) <|
  n_c (s_aldc (s_iaload (pc := 57) (by decide +kernel)) (gk124 hG) (gl124 hG)) <|
  n_c (s_if_ne (pc := 58) (off := 13) (by decide +kernel) (by decide +kernel)) <|
  n_c (s_aload_n (pc := 61) (k := 0) (by decide +kernel)) <|
  n_c (s_gRc (s_getR (pc := 62) (ci := 12) (k := 27) (idx := 61) nok12 (by decide) rfl (by decide +kernel) w_1434) (gk107 hG) (gm107_27 hG)) <|
  n_c (s_iload (pc := 65) (by decide +kernel)) <|
  n_c (s_aldc (s_iaload (pc := 67) (by decide +kernel)) (gk125 hG) (gl125 hG)) <|
  n_c (s_goto (pc := 68) (off := 15) (by decide +kernel) (by decide +kernel)) <|
  n_c (s_aload_n (pc := 71) (k := 0) (by decide +kernel)) <|
  n_c (s_gRc (s_getR (pc := 72) (ci := 12) (k := 44) (idx := 83) nok12 (by decide) rfl (by decide +kernel) w_1451) (gk107 hG) (gm107_44 hG)) <|
  n_c (s_aload_n (pc := 75) (k := 0) (by decide +kernel)) <|
  n_c (s_gRc (s_getR (pc := 76) (ci := 12) (k := 27) (idx := 61) nok12 (by decide) rfl (by decide +kernel) w_1434) (gk107 hG) (gm107_27 hG)) <|
  n_c (s_iload (pc := 79) (by decide +kernel)) <|
  n_c (s_aldc (s_iaload (pc := 81) (by decide +kernel)) (gk125 hG) (gl125 hG)) <|
  n_c (s_aldc (s_iaload (pc := 82) (by decide +kernel)) (gk131 hG) (gl131 hG)) <|
  n_c (s_iastc (s_iastore (pc := 83) (by decide +kernel)) (gk132 hG) (gl132 hG)) <|
  n_c (s_iload (pc := 84) (by decide +kernel)) <|
  n_c (s_iconst (pc := 86) (n := 1) (by decide +kernel) (by decide +kernel)) <|
  n_c (s_iadd (pc := 87) (by decide +kernel)) <|
  n_c (s_istore (pc := 88) (by decide +kernel)) <|
  n_c (s_goto (pc := 90) (off := 80) (by decide +kernel) (by decide +kernel)) <|
  n_c (s_aload_n (pc := 93) (k := 0) (by decide +kernel)) <|
  n_c (s_gRc (s_getR (pc := 94) (ci := 12) (k := 26) (idx := 58) nok12 (by decide) rfl (by decide +kernel) w_1433) (gk107 hG) (gm107_26 hG)) <|
  n_c (s_iload (pc := 97) (by decide +kernel)) <|
  n_c (s_aldc (s_iaload (pc := 99) (by decide +kernel)) (gk124 hG) (gl124 hG)) <|
  n_c (s_bipush (pc := 100) (n := 9) (by decide +kernel) (by decide +kernel)) <|
  n_c (s_icmp_ne (pc := 102) (off := 26) (by decide +kernel) (by decide +kernel)) <|
  n_c (s_aload_n (pc := 105) (k := 0) (by decide +kernel)) <|
  n_c (s_gRc (s_getR (pc := 106) (ci := 12) (k := 45) (idx := 86) nok12 (by decide) rfl (by decide +kernel) w_1452) (gk107 hG) (gm107_45 hG)) <|
  n_c (s_iload (pc := 109) (by decide +kernel)) <|
  n_c (s_iconst (pc := 111) (n := 1) (by decide +kernel) (by decide +kernel)) <|
  n_c (s_isub (pc := 112) (by decide +kernel)) <|
  n_c (s_iconst (pc := 113) (n := 1) (by decide +kernel) (by decide +kernel)) <|
  n_c (s_aload_n (pc := 114) (k := 0) (by decide +kernel)) <|
  n_c (s_gRc (s_getR (pc := 115) (ci := 12) (k := 45) (idx := 86) nok12 (by decide) rfl (by decide +kernel) w_1452) (gk107 hG) (gm107_45 hG)) <|
  n_c (s_iload (pc := 118) (by decide +kernel)) <|
  n_c (s_iconst (pc := 120) (n := 1) (by decide +kernel) (by decide +kernel)) <|
  n_c (s_isub (pc := 121) (by decide +kernel)) <|
  n_c (s_aldc (s_iaload (pc := 122) (by decide +kernel)) (gk132 hG) (gl132 hG)) <|
  n_c (s_isub (pc := 123) (by decide +kernel)) <|
  n_c (s_iastc (s_iastore (pc := 124) (by decide +kernel)) (gk132 hG) (gl132 hG)) <|
  n_c (s_goto (pc := 125) (off := 45) (by decide +kernel) (by decide +kernel)) <|
  n_c (s_iload (pc := 128) (by decide +kernel)) <|
  n_c (s_iconst (pc := 130) (n := 1) (by decide +kernel) (by decide +kernel)) <|
  n_c (s_isub (pc := 131) (by decide +kernel)) <|
  n_c (s_istore (pc := 132) (by decide +kernel)) <|
  n_c (s_aload_n (pc := 134) (k := 0) (by decide +kernel)) <|
  n_c (s_gRc (s_getR (pc := 135) (ci := 12) (k := 45) (idx := 86) nok12 (by decide) rfl (by decide +kernel) w_1452) (gk107 hG) (gm107_45 hG)) <|
  n_c (s_iload (pc := 138) (by decide +kernel)) <|
  n_c (s_iconst (pc := 140) (n := 1) (by decide +kernel) (by decide +kernel)) <|
  n_c (s_isub (pc := 141) (by decide +kernel)) <|
  n_c (s_aload_n (pc := 142) (k := 0) (by decide +kernel)) <|
  n_c (s_aload_n (pc := 143) (k := 0) (by decide +kernel)) <|
  n_c (s_gRc (s_getR (pc := 144) (ci := 12) (k := 26) (idx := 58) nok12 (by decide) rfl (by decide +kernel) w_1433) (gk107 hG) (gm107_26 hG)) <|
  n_c (s_iload (pc := 147) (by decide +kernel)) <|
  n_c (s_aldc (s_iaload (pc := 149) (by decide +kernel)) (gk124 hG) (gl124 hG)) <|
  n_c (s_aload_n (pc := 150) (k := 0) (by decide +kernel)) <|
  n_c (s_gRc (s_getR (pc := 151) (ci := 12) (k := 45) (idx := 86) nok12 (by decide) rfl (by decide +kernel) w_1452) (gk107 hG) (gm107_45 hG)) <|
  n_c (s_iload (pc := 154) (by decide +kernel)) <|
  n_c (s_iconst (pc := 156) (n := 1) (by decide +kernel) (by decide +kernel)) <|
  n_c (s_isub (pc := 157) (by decide +kernel)) <|
  n_c (s_aldc (s_iaload (pc := 158) (by decide +kernel)) (gk132 hG) (gl132 hG)) <|
  n_c (s_aload_n (pc := 159) (k := 0) (by decide +kernel)) <|
  n_c (s_gRc (s_getR (pc := 160) (ci := 12) (k := 45) (idx := 86) nok12 (by decide) rfl (by decide +kernel) w_1452) (gk107 hG) (gm107_45 hG)) <|
  n_c (s_iload (pc := 163) (by decide +kernel)) <|
  n_c (s_aldc (s_iaload (pc := 165) (by decide +kernel)) (gk132 hG) (gl132 hG)) <|
  n_c (s_callVc (s_callV (pc := 166) (csX12_twoOf) (by decide) okX12_twoOf nok12 w_1887 w_96 w_1885 (by decide +kernel)) (gk107 hG)) <|
  n_c (s_iastc (s_iastore (pc := 169) (by decide +kernel)) (gk132 hG) (gl132 hG)) <|
  n_c (s_iinc (pc := 170) (n := 1) (by decide +kernel) (by decide +kernel)) <|
  n_c (s_goto (pc := 173) (off := -161) (by decide +kernel) (by decide +kernel)) <|
  n_c (s_aload_n (pc := 176) (k := 0) (by decide +kernel)) <|
  n_c (s_gRc (s_getR (pc := 177) (ci := 12) (k := 45) (idx := 86) nok12 (by decide) rfl (by decide +kernel) w_1452) (gk107 hG) (gm107_45 hG)) <|
  n_c (s_iconst (pc := 180) (n := 0) (by decide +kernel) (by decide +kernel)) <|
  n_c (s_aldc (s_iaload (pc := 181) (by decide +kernel)) (gk132 hG) (gl132 hG)) <|
  n_c (s_iret (pc := 182) rfl (by decide +kernel)) <|
  n_e
def fX12_runs_45 (N : Nat) (k12 : Int32 → Int32 → Int32 → Int32 → nM → Option (Int32 × nM)) (x1 : Int32) (x3 : Int32) (x4 : Int32) (x5 : Int32) (M : nM) : Option (Int32 × nM) :=
  n_chk (n_ib 1200 x5) <|
  if ¬ (M 124 x5.toNatClampNeg) = 0 then
    n_chk (n_ib 1200 x5) <|
    n_chk (n_ib 11 (M 125 x5.toNatClampNeg)) <|
    n_chk (n_ib 420 x4) <|
    let M1 : nM := n_up M 132 x4.toNatClampNeg (M 131 (M 125 x5.toNatClampNeg).toNatClampNeg)
    let v2 : Int32 := (x4 + (1 : Int32))
    let v3 : Int32 := (x5 + (1 : Int32))
    k12 x1 x3 v2 v3 M1
  else
    n_chk (n_ib 1200 x5) <|
    n_chk (n_ib 420 x4) <|
    let M4 : nM := n_up M 132 x4.toNatClampNeg (M 125 x5.toNatClampNeg)
    let v5 : Int32 := (x4 + (1 : Int32))
    let v6 : Int32 := (x5 + (1 : Int32))
    k12 x1 x3 v5 v6 M4
set_option maxRecDepth 200000 in
theorem bX12_runs_45 {l : Launch} {w : nW} (N : Nat) {G : nG} (hG : n_GOK G) (k12 : Int32 → Int32 → Int32 → Int32 → nM → Option (Int32 × nM)) (hk12 : ∀ (x1 : Int32) (x3 : Int32) (x4 : Int32) (x5 : Int32) (M : nM) (r : Int32 × nM), k12 x1 x3 x4 x5 M = some r → n_At l w 1 mX12_runs 12 [(0, .ref 107), (1, .int x1), (3, .int x3), (4, .int x4), (5, .int x5)] [] (G, M) (dv_i r.1, (G, r.2))) (x1 : Int32) (x3 : Int32) (x4 : Int32) (x5 : Int32) (M : nM) (r : Int32 × nM) (h : fX12_runs_45 N k12 x1 x3 x4 x5 M = some r) : n_At l w 1 mX12_runs 45 [(0, .ref 107), (1, .int x1), (3, .int x3), (4, .int x4), (5, .int x5)] [] (G, M) (dv_i r.1, (G, r.2)) :=
  n_seg (fin := n_fin dv_i G) (K := [(12, fun lv st M => n_lC 107 lv 0 (n_lI lv 1 (fun x1 => n_lI lv 3 (fun x3 => n_lI lv 4 (fun x4 => n_lI lv 5 (fun x5 => n_pE st (k12 x1 x3 x4 x5 M)))))))]) 39 (iX12_runs N hG) (n_kc (fun lv st M r h => by
      obtain ⟨e0, h1⟩ := n_lC_x h
      obtain ⟨x1, e1, h2⟩ := n_lI_x h1
      obtain ⟨x3, e3, h3⟩ := n_lI_x h2
      obtain ⟨x4, e4, h4⟩ := n_lI_x h3
      obtain ⟨x5, e5, h5⟩ := n_lI_x h4
      obtain ⟨rfl, h6⟩ := n_pE_x h5
      exact n_sub (n_qc e0 (n_qc e1 (n_qc e3 (n_qc e4 (n_qc e5 n_qe))))) (hk12 x1 x3 x4 x5 M r h6)) n_ke) (by rfl) h
def fX12_runs_12 (N : Nat) : Nat → Int32 → Int32 → Int32 → Int32 → nM → Option (Int32 × nM)
  | 0, _, _, _, _, _ => none
  | n + 1, x1, x3, x4, x5, M =>
    if (((400 : Int32) * x1) + x3) ≤ x5 then
      n_chk (n_ib 420 (0 : Int32)) <|
      some ((M 132 (0 : Int32).toNatClampNeg), M)
    else
      n_chk (n_ib 1200 x5) <|
      if (M 124 x5.toNatClampNeg) = 0 then
        fX12_runs_45 N (fun x1 x3 x4 x5 M => fX12_runs_12 N n x1 x3 x4 x5 M) x1 x3 x4 x5 M
      else
        n_chk (n_ib 1200 x5) <|
        if ¬ (M 124 x5.toNatClampNeg) = (1 : Int32) then
          n_chk (n_ib 1200 x5) <|
          if ¬ (M 124 x5.toNatClampNeg) = (9 : Int32) then
            let v1 : Int32 := (x4 - (1 : Int32))
            n_chk (n_ib 1200 x5) <|
            n_chk (n_ib 420 (v1 - (1 : Int32))) <|
            n_chk (n_ib 420 v1) <|
            (fX12_twoOf (M 124 x5.toNatClampNeg) (M 132 (v1 - (1 : Int32)).toNatClampNeg) (M 132 v1.toNatClampNeg) M).bind fun p2 =>
            n_chk (n_ib 420 (v1 - (1 : Int32))) <|
            let M3 : nM := n_up p2.2 132 (v1 - (1 : Int32)).toNatClampNeg p2.1
            let v4 : Int32 := (x5 + (1 : Int32))
            fX12_runs_12 N n x1 x3 v1 v4 M3
          else
            n_chk (n_ib 420 (x4 - (1 : Int32))) <|
            n_chk (n_ib 420 (x4 - (1 : Int32))) <|
            let M5 : nM := n_up M 132 (x4 - (1 : Int32)).toNatClampNeg ((1 : Int32) - (M 132 (x4 - (1 : Int32)).toNatClampNeg))
            let v6 : Int32 := (x5 + (1 : Int32))
            fX12_runs_12 N n x1 x3 x4 v6 M5
        else
          fX12_runs_45 N (fun x1 x3 x4 x5 M => fX12_runs_12 N n x1 x3 x4 x5 M) x1 x3 x4 x5 M
set_option maxRecDepth 200000 in
theorem bX12_runs_12 {l : Launch} {w : nW} (N : Nat) {G : nG} (hG : n_GOK G) : ∀ (n : Nat) (x1 : Int32) (x3 : Int32) (x4 : Int32) (x5 : Int32) (M : nM) (r : Int32 × nM), fX12_runs_12 N n x1 x3 x4 x5 M = some r → n_At l w 1 mX12_runs 12 [(0, .ref 107), (1, .int x1), (3, .int x3), (4, .int x4), (5, .int x5)] [] (G, M) (dv_i r.1, (G, r.2)) := by
  intro n
  induction n with
  | zero => intro x1 x3 x4 x5 M r h; cases (show (none : Option (Int32 × nM)) = some r from h)
  | succ n ih =>
    intro x1 x3 x4 x5 M r h
    exact n_seg (fin := n_fin dv_i G) (K := [(12, fun lv st M => n_lC 107 lv 0 (n_lI lv 1 (fun x1 => n_lI lv 3 (fun x3 => n_lI lv 4 (fun x4 => n_lI lv 5 (fun x5 => n_pE st (fX12_runs_12 N n x1 x3 x4 x5 M))))))), (45, fun lv st M => n_lC 107 lv 0 (n_lI lv 1 (fun x1 => n_lI lv 3 (fun x3 => n_lI lv 4 (fun x4 => n_lI lv 5 (fun x5 => n_pE st (fX12_runs_45 N (fun x1 x3 x4 x5 M => fX12_runs_12 N n x1 x3 x4 x5 M) x1 x3 x4 x5 M)))))))]) 77 (iX12_runs N hG) (n_kc (fun lv st M r h => by
      obtain ⟨e0, h1⟩ := n_lC_x h
      obtain ⟨x1, e1, h2⟩ := n_lI_x h1
      obtain ⟨x3, e3, h3⟩ := n_lI_x h2
      obtain ⟨x4, e4, h4⟩ := n_lI_x h3
      obtain ⟨x5, e5, h5⟩ := n_lI_x h4
      obtain ⟨rfl, h6⟩ := n_pE_x h5
      exact n_sub (n_qc e0 (n_qc e1 (n_qc e3 (n_qc e4 (n_qc e5 n_qe))))) (ih x1 x3 x4 x5 M r h6)) (n_kc (fun lv st M r h => by
      obtain ⟨e0, h1⟩ := n_lC_x h
      obtain ⟨x1, e1, h2⟩ := n_lI_x h1
      obtain ⟨x3, e3, h3⟩ := n_lI_x h2
      obtain ⟨x4, e4, h4⟩ := n_lI_x h3
      obtain ⟨x5, e5, h5⟩ := n_lI_x h4
      obtain ⟨rfl, h6⟩ := n_pE_x h5
      exact n_sub (n_qc e0 (n_qc e1 (n_qc e3 (n_qc e4 (n_qc e5 n_qe))))) (bX12_runs_45 N hG (fun x1 x3 x4 x5 M => fX12_runs_12 N n x1 x3 x4 x5 M) ih x1 x3 x4 x5 M r h6)) n_ke)) (by rfl) h
def fX12_runs (N : Nat) (x1 : Int32) (x2 : Int32) (x3 : Int32) (M : nM) : Option (Int32 × nM) :=
  let v1 : Int32 := (((400 : Int32) * x1) + x2)
  fX12_runs_12 N N x1 x3 (0 : Int32) v1 M
set_option maxRecDepth 200000 in
theorem bX12_runs_0 {l : Launch} {w : nW} (N : Nat) {G : nG} (hG : n_GOK G) (x1 : Int32) (x2 : Int32) (x3 : Int32) (M : nM) (r : Int32 × nM) (h : fX12_runs N x1 x2 x3 M = some r) : n_At l w 1 mX12_runs 0 [(0, .ref 107), (1, .int x1), (2, .int x2), (3, .int x3)] [] (G, M) (dv_i r.1, (G, r.2)) :=
  n_seg (fin := n_fin dv_i G) (K := [(12, fun lv st M => n_lC 107 lv 0 (n_lI lv 1 (fun x1 => n_lI lv 3 (fun x3 => n_lI lv 4 (fun x4 => n_lI lv 5 (fun x5 => n_pE st (fX12_runs_12 N N x1 x3 x4 x5 M)))))))]) 11 (iX12_runs N hG) (n_kc (fun lv st M r h => by
      obtain ⟨e0, h1⟩ := n_lC_x h
      obtain ⟨x1, e1, h2⟩ := n_lI_x h1
      obtain ⟨x3, e3, h3⟩ := n_lI_x h2
      obtain ⟨x4, e4, h4⟩ := n_lI_x h3
      obtain ⟨x5, e5, h5⟩ := n_lI_x h4
      obtain ⟨rfl, h6⟩ := n_pE_x h5
      exact n_sub (n_qc e0 (n_qc e1 (n_qc e3 (n_qc e4 (n_qc e5 n_qe))))) (bX12_runs_12 N hG N x1 x3 x4 x5 M r h6)) n_ke) (by rfl) h
theorem eX12_runs {l : Launch} {w : nW} (N : Nat) {G : nG} (hG : n_GOK G) (z1 : Int32) (z2 : Int32) (z3 : Int32) (M : nM) (r : Int32 × nM) (h : fX12_runs N z1 z2 z3 M = some r) : n_Met l w 1 mX12_runs [.ref 107, .int z1, .int z2, .int z3] (G, M) (dv_i r.1, (G, r.2)) :=
  n_entry (by decide +kernel) rfl (Nat.le_of_ble_eq_true rfl) (n_sub (lv := [(0, .ref 107), (1, .int z1), (2, .int z2), (3, .int z3)]) (n_qc rfl (n_qc rfl (n_qc rfl (n_qc rfl n_qe)))) (bX12_runs_0 N hG z1 z2 z3 M r h))
abbrev hX12_runs (N : Nat) : nF := fun T as M k => n_pC 107 as (fun as => n_pI as (fun z1 as => n_pI as (fun z2 as => n_pI as (fun z3 as => n_pE as ((fX12_runs N z1 z2 z3 M).bind fun p => k (dv_i p.1) p.2)))))
theorem csX12_runs {l : Launch} {w : nW} (N : Nat) {G : nG} (hG : n_GOK G) : n_CS l w 1 mX12_runs G (hX12_runs N) := fun T as M k r h => by
  obtain ⟨t0, rfl, h1⟩ := n_pC_x h
  obtain ⟨z1, t1, rfl, h2⟩ := n_pI_x h1
  obtain ⟨z2, t2, rfl, h3⟩ := n_pI_x h2
  obtain ⟨z3, t3, rfl, h4⟩ := n_pI_x h3
  obtain ⟨rfl, hE⟩ := n_pE_x h4
  obtain ⟨p, hp, hk⟩ := Option.bind_eq_some_iff.mp hE
  exact ⟨_, _, eX12_runs N hG z1 z2 z3 M p hp, hk⟩
/-! ===== SleightHouseModel.lineOf(I)I ===== -/
def mX12_lineOf : nY := (RX12, yX12_lineOf, cX12_lineOf, 3, some .int)
theorem okX12_lineOf : n_MOK mX12_lineOf 1 := ⟨w_1880, w_151, ⟨by decide +kernel, by decide +kernel, by decide +kernel⟩, by decide⟩
abbrev aX12_lineOf (N : Nat) : List (Nat × nO (Int32 × nM)) := [(0, o_push (.int (0 : Int32)) 1), (1, o_istore 3 2 2), (2, o_iload 2 3), (3, o_aload 0 4), (4, o_gRc 107 119 7), (7, o_push (.int (0 : Int32)) 8), (8, o_aldc 119 2 9), (9, oc_ge 65 12), (12, o_aload 0 13), (13, o_gRc 107 120 16), (16, o_iload 2 17), (17, o_aldc 120 48 18), (18, o_iload 1 19), (19, oc_ne 59 22), (22, o_aload 0 23), (23, o_gRc 107 122 26), (26, o_iload 2 27), (27, o_aldc 122 48 28), (28, o_aload 0 29), (29, o_gRc 107 123 32), (32, o_iload 2 33), (33, o_aldc 123 48 34), (34, oc_eq 57 37), (37, o_aload 0 38), (38, o_push (.int (0 : Int32)) 39), (39, o_aload 0 40), (40, o_gRc 107 122 43), (43, o_iload 2 44), (44, o_aldc 122 48 45), (45, o_aload 0 46), (46, o_gRc 107 123 49), (49, o_iload 2 50), (50, o_aldc 123 48 51), (51, o_callVc 107 3 (hX12_runs N) 54), (54, oi_eq 59 57), (57, o_iload 2 58), (58, o_iret), (59, o_inc 3 2 (1 : Int32) 62), (62, o_goto 2), (65, o_push (.int (-1 : Int32)) 66), (66, o_iret)]
set_option maxRecDepth 200000 in
theorem iX12_lineOf {l : Launch} {w : nW} (N : Nat) {G : nG} (hG : n_GOK G) : n_AllS l w 2 mX12_lineOf G (n_fin dv_i G) (aX12_lineOf N) :=
  n_c (s_iconst (pc := 0) (n := 0) (by decide +kernel) (by decide +kernel)) <|
  n_c (s_istore_n (pc := 1) (k := 2) (by decide +kernel)) <|
  n_c (s_iload_n (pc := 2) (k := 2) (by decide +kernel)) <|
  n_c (s_aload_n (pc := 3) (k := 0) (by decide +kernel)) <|
  n_c (s_gRc (s_getR (pc := 4) (ci := 12) (k := 21) (idx := 43) nok12 (by decide) rfl (by decide +kernel) w_1428) (gk107 hG) (gm107_21 hG)) <|
  n_c (s_iconst (pc := 7) (n := 0) (by decide +kernel) (by decide +kernel)) <|
  n_c (s_aldc (s_iaload (pc := 8) (by decide +kernel)) (gk119 hG) (gl119 hG)) <|
  n_c (s_icmp_ge (pc := 9) (off := 56) (by decide +kernel) (by decide +kernel)) <|
  n_c (s_aload_n (pc := 12) (k := 0) (by decide +kernel)) <|
  n_c (s_gRc (s_getR (pc := 13) (ci := 12) (k := 22) (idx := 46) nok12 (by decide) rfl (by decide +kernel) w_1429) (gk107 hG) (gm107_22 hG)) <|
  n_c (s_iload_n (pc := 16) (k := 2) (by decide +kernel)) <|
  n_c (s_aldc (s_iaload (pc := 17) (by decide +kernel)) (gk120 hG) (gl120 hG)) <|
  n_c (s_iload_n (pc := 18) (k := 1) (by decide +kernel)) <|
  n_c (s_icmp_ne (pc := 19) (off := 40) (by decide +kernel) (by decide +kernel)) <|
  n_c (s_aload_n (pc := 22) (k := 0) (by decide +kernel)) <|
  n_c (s_gRc (s_getR (pc := 23) (ci := 12) (k := 24) (idx := 52) nok12 (by decide) rfl (by decide +kernel) w_1431) (gk107 hG) (gm107_24 hG)) <|
  n_c (s_iload_n (pc := 26) (k := 2) (by decide +kernel)) <|
  n_c (s_aldc (s_iaload (pc := 27) (by decide +kernel)) (gk122 hG) (gl122 hG)) <|
  n_c (s_aload_n (pc := 28) (k := 0) (by decide +kernel)) <|
  n_c (s_gRc (s_getR (pc := 29) (ci := 12) (k := 25) (idx := 55) nok12 (by decide) rfl (by decide +kernel) w_1432) (gk107 hG) (gm107_25 hG)) <|
  n_c (s_iload_n (pc := 32) (k := 2) (by decide +kernel)) <|
  n_c (s_aldc (s_iaload (pc := 33) (by decide +kernel)) (gk123 hG) (gl123 hG)) <|
  n_c (s_icmp_eq (pc := 34) (off := 23) (by decide +kernel) (by decide +kernel)) <|
  n_c (s_aload_n (pc := 37) (k := 0) (by decide +kernel)) <|
  n_c (s_iconst (pc := 38) (n := 0) (by decide +kernel) (by decide +kernel)) <|
  n_c (s_aload_n (pc := 39) (k := 0) (by decide +kernel)) <|
  n_c (s_gRc (s_getR (pc := 40) (ci := 12) (k := 24) (idx := 52) nok12 (by decide) rfl (by decide +kernel) w_1431) (gk107 hG) (gm107_24 hG)) <|
  n_c (s_iload_n (pc := 43) (k := 2) (by decide +kernel)) <|
  n_c (s_aldc (s_iaload (pc := 44) (by decide +kernel)) (gk122 hG) (gl122 hG)) <|
  n_c (s_aload_n (pc := 45) (k := 0) (by decide +kernel)) <|
  n_c (s_gRc (s_getR (pc := 46) (ci := 12) (k := 25) (idx := 55) nok12 (by decide) rfl (by decide +kernel) w_1432) (gk107 hG) (gm107_25 hG)) <|
  n_c (s_iload_n (pc := 49) (k := 2) (by decide +kernel)) <|
  n_c (s_aldc (s_iaload (pc := 50) (by decide +kernel)) (gk123 hG) (gl123 hG)) <|
  n_c (s_callVc (s_callV (pc := 51) (csX12_runs N hG) (by decide) okX12_runs nok12 w_1883 w_95 w_1881 (by decide +kernel)) (gk107 hG)) <|
  n_c (s_if_eq (pc := 54) (off := 5) (by decide +kernel) (by decide +kernel)) <|
  n_c (s_iload_n (pc := 57) (k := 2) (by decide +kernel)) <|
  n_c (s_iret (pc := 58) rfl (by decide +kernel)) <|
  n_c (s_iinc (pc := 59) (n := 1) (by decide +kernel) (by decide +kernel)) <|
  n_c (s_goto (pc := 62) (off := -60) (by decide +kernel) (by decide +kernel)) <|
  n_c (s_iconst (pc := 65) (n := -1) (by decide +kernel) (by decide +kernel)) <|
  n_c (s_iret (pc := 66) rfl (by decide +kernel)) <|
  n_e
def fX12_lineOf_2 (N : Nat) : Nat → Int32 → Int32 → nM → Option (Int32 × nM)
  | 0, _, _, _ => none
  | n + 1, x1, x2, M =>
    n_chk (n_ib 2 (0 : Int32)) <|
    if (M 119 (0 : Int32).toNatClampNeg) ≤ x2 then
      some ((-1 : Int32), M)
    else
      n_chk (n_ib 48 x2) <|
      if ¬ (M 120 x2.toNatClampNeg) = x1 then
        let v1 : Int32 := (x2 + (1 : Int32))
        fX12_lineOf_2 N n x1 v1 M
      else
        n_chk (n_ib 48 x2) <|
        n_chk (n_ib 48 x2) <|
        if (M 122 x2.toNatClampNeg) = (M 123 x2.toNatClampNeg) then
          some (x2, M)
        else
          n_chk (n_ib 48 x2) <|
          n_chk (n_ib 48 x2) <|
          (fX12_runs N (0 : Int32) (M 122 x2.toNatClampNeg) (M 123 x2.toNatClampNeg) M).bind fun p2 =>
          if p2.1 = 0 then
            let v3 : Int32 := (x2 + (1 : Int32))
            fX12_lineOf_2 N n x1 v3 p2.2
          else
            some (x2, p2.2)
set_option maxRecDepth 200000 in
theorem bX12_lineOf_2 {l : Launch} {w : nW} (N : Nat) {G : nG} (hG : n_GOK G) : ∀ (n : Nat) (x1 : Int32) (x2 : Int32) (M : nM) (r : Int32 × nM), fX12_lineOf_2 N n x1 x2 M = some r → n_At l w 2 mX12_lineOf 2 [(0, .ref 107), (1, .int x1), (2, .int x2)] [] (G, M) (dv_i r.1, (G, r.2)) := by
  intro n
  induction n with
  | zero => intro x1 x2 M r h; cases (show (none : Option (Int32 × nM)) = some r from h)
  | succ n ih =>
    intro x1 x2 M r h
    exact n_seg (fin := n_fin dv_i G) (K := [(2, fun lv st M => n_lC 107 lv 0 (n_lI lv 1 (fun x1 => n_lI lv 2 (fun x2 => n_pE st (fX12_lineOf_2 N n x1 x2 M)))))]) 46 (iX12_lineOf N hG) (n_kc (fun lv st M r h => by
      obtain ⟨e0, h1⟩ := n_lC_x h
      obtain ⟨x1, e1, h2⟩ := n_lI_x h1
      obtain ⟨x2, e2, h3⟩ := n_lI_x h2
      obtain ⟨rfl, h4⟩ := n_pE_x h3
      exact n_sub (n_qc e0 (n_qc e1 (n_qc e2 n_qe))) (ih x1 x2 M r h4)) n_ke) (by rfl) h
def fX12_lineOf (N : Nat) (x1 : Int32) (M : nM) : Option (Int32 × nM) :=
  fX12_lineOf_2 N N x1 (0 : Int32) M
set_option maxRecDepth 200000 in
theorem bX12_lineOf_0 {l : Launch} {w : nW} (N : Nat) {G : nG} (hG : n_GOK G) (x1 : Int32) (M : nM) (r : Int32 × nM) (h : fX12_lineOf N x1 M = some r) : n_At l w 2 mX12_lineOf 0 [(0, .ref 107), (1, .int x1)] [] (G, M) (dv_i r.1, (G, r.2)) :=
  n_seg (fin := n_fin dv_i G) (K := [(2, fun lv st M => n_lC 107 lv 0 (n_lI lv 1 (fun x1 => n_lI lv 2 (fun x2 => n_pE st (fX12_lineOf_2 N N x1 x2 M)))))]) 5 (iX12_lineOf N hG) (n_kc (fun lv st M r h => by
      obtain ⟨e0, h1⟩ := n_lC_x h
      obtain ⟨x1, e1, h2⟩ := n_lI_x h1
      obtain ⟨x2, e2, h3⟩ := n_lI_x h2
      obtain ⟨rfl, h4⟩ := n_pE_x h3
      exact n_sub (n_qc e0 (n_qc e1 (n_qc e2 n_qe))) (bX12_lineOf_2 N hG N x1 x2 M r h4)) n_ke) (by rfl) h
theorem eX12_lineOf {l : Launch} {w : nW} (N : Nat) {G : nG} (hG : n_GOK G) (z1 : Int32) (M : nM) (r : Int32 × nM) (h : fX12_lineOf N z1 M = some r) : n_Met l w 2 mX12_lineOf [.ref 107, .int z1] (G, M) (dv_i r.1, (G, r.2)) :=
  n_entry (by decide +kernel) rfl (Nat.le_of_ble_eq_true rfl) (n_sub (lv := [(0, .ref 107), (1, .int z1)]) (n_qc rfl (n_qc rfl n_qe)) (bX12_lineOf_0 N hG z1 M r h))
abbrev hX12_lineOf (N : Nat) : nF := fun T as M k => n_pC 107 as (fun as => n_pI as (fun z1 as => n_pE as ((fX12_lineOf N z1 M).bind fun p => k (dv_i p.1) p.2)))
theorem csX12_lineOf {l : Launch} {w : nW} (N : Nat) {G : nG} (hG : n_GOK G) : n_CS l w 2 mX12_lineOf G (hX12_lineOf N) := fun T as M k r h => by
  obtain ⟨t0, rfl, h1⟩ := n_pC_x h
  obtain ⟨z1, t1, rfl, h2⟩ := n_pI_x h1
  obtain ⟨rfl, hE⟩ := n_pE_x h2
  obtain ⟨p, hp, hk⟩ := Option.bind_eq_some_iff.mp hE
  exact ⟨_, _, eX12_lineOf N hG z1 M p hp, hk⟩
