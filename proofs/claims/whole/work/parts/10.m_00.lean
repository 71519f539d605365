/-! ===== SleightHouse$Past.forget()V ===== -/
def mX5_forget : nY := (RX5, yX5_forget, cX5_forget, 1, none)
theorem okX5_forget : n_MOK mX5_forget 0 := ⟨w_604, w_147, ⟨by decide +kernel, by decide +kernel, by decide +kernel⟩, by decide⟩
abbrev aX5_forget : List (Nat × nO (Unit × nM)) := [(0, o_aload 0 1), (1, o_push (.int (0 : Int32)) 2), (2, o_pIc 48 2 5), (5, o_vret)]
set_option maxRecDepth 200000 in
theorem iX5_forget {l : Launch} {w : nW} {G : nG} (hG : n_GOK G) : n_AllS l w 0 mX5_forget G (n_fin dv_v G) (aX5_forget) :=
  n_c (s_aload_n (pc := 0) (k := 0) (by decide +kernel)) <|
  n_c (s_iconst (pc := 1) (n := 0) (by decide +kernel) (by decide +kernel)) <|
  n_c (s_pIc (s_putI (pc := 2) (ci := 5) (k := 2) (idx := 21) nok5 (by decide) rfl rfl (by decide +kernel) w_467) (gk48 hG)) <|
  n_c (s_vret (pc := 5) rfl (by decide +kernel)) <|
  n_e
def fX5_forget (M : nM) : Option (Unit × nM) :=
  let M1 : nM := n_up M 48 2 (0 : Int32)
  some ((), M1)
set_option maxRecDepth 200000 in
theorem bX5_forget_0 {l : Launch} {w : nW} {G : nG} (hG : n_GOK G) (M : nM) (r : Unit × nM) (h : fX5_forget M = some r) : n_At l w 0 mX5_forget 0 [(0, .ref 48)] [] (G, M) (dv_v r.1, (G, r.2)) :=
  n_seg (fin := n_fin dv_v G) (K := []) 7 (iX5_forget hG) n_ke (by rfl) h
theorem eX5_forget {l : Launch} {w : nW} {G : nG} (hG : n_GOK G) (M : nM) (r : Unit × nM) (h : fX5_forget M = some r) : n_Met l w 0 mX5_forget [.ref 48] (G, M) (dv_v r.1, (G, r.2)) :=
  n_entry (by decide +kernel) rfl (Nat.le_of_ble_eq_true rfl) (n_sub (lv := [(0, .ref 48)]) (n_qc rfl n_qe) (bX5_forget_0 hG M r h))
abbrev hX5_forget : nF := fun T as M k => n_pC 48 as (fun as => n_pE as ((fX5_forget M).bind fun p => k (dv_v p.1) p.2))
theorem csX5_forget {l : Launch} {w : nW} {G : nG} (hG : n_GOK G) : n_CS l w 0 mX5_forget G (hX5_forget) := fun T as M k r h => by
  obtain ⟨t0, rfl, h1⟩ := n_pC_x h
  obtain ⟨rfl, hE⟩ := n_pE_x h1
  obtain ⟨p, hp, hk⟩ := Option.bind_eq_some_iff.mp hE
  exact ⟨_, _, eX5_forget hG M p hp, hk⟩
/-! ===== SleightHouse.state(I)I ===== -/
def mX11_state : nY := (RX11, yX11_state, cX11_state, 3, some .int)
theorem okX11_state : n_MOK mX11_state 1 := ⟨w_600, w_137, ⟨by decide +kernel, by decide +kernel, by decide +kernel⟩, by decide⟩
abbrev aX11_state : List (Nat × nO (Int32 × nM)) := [(0, o_aload 0 1), (1, o_gRc 1 2 4), (4, o_gRc 2 9 7), (7, o_gIc 9 10 10), (10, o_istore 3 2 11), (11, o_aload 0 12), (12, o_gRc 1 2 15), (15, o_gRc 2 9 18), (18, o_iload 1 19), (19, o_pIc 9 10 22), (22, o_aload 0 23), (23, o_gRc 1 48 26), (26, o_callVc 48 0 (hX5_forget) 29), (29, o_iload 2 30), (30, o_iret)]
set_option maxRecDepth 200000 in
theorem iX11_state {l : Launch} {w : nW} {G : nG} (hG : n_GOK G) : n_AllS l w 1 mX11_state G (n_fin dv_i G) (aX11_state) :=
  n_c (s_aload_n (pc := 0) (k := 0) (by decide +kernel)) <|
  n_c (s_gRc (s_getR (pc := 1) (ci := 11) (k := 0) (idx := 10) nok11 (by decide) rfl (by decide +kernel) w_572) (gk1 hG) (gm1_0 hG)) <|
  n_c (s_gRc (s_getR (pc := 4) (ci := 1) (k := 1) (idx := 77) nok1 (by decide) rfl (by decide +kernel) w_406) (gk2 hG) (gm2_1 hG)) <|
  n_c (s_gIc (s_getI (pc := 7) (ci := 4) (k := 10) (idx := 80) nok4 (by decide) rfl (by decide +kernel) w_258) (gk9 hG)) <|
  n_c (s_istore_n (pc := 10) (k := 2) (by decide +kernel)) <|
  n_c (s_aload_n (pc := 11) (k := 0) (by decide +kernel)) <|
  n_c (s_gRc (s_getR (pc := 12) (ci := 11) (k := 0) (idx := 10) nok11 (by decide) rfl (by decide +kernel) w_572) (gk1 hG) (gm1_0 hG)) <|
  n_c (s_gRc (s_getR (pc := 15) (ci := 1) (k := 1) (idx := 77) nok1 (by decide) rfl (by decide +kernel) w_406) (gk2 hG) (gm2_1 hG)) <|
  n_c (s_iload_n (pc := 18) (k := 1) (by decide +kernel)) <|
  n_c (s_pIc (s_putI (pc := 19) (ci := 4) (k := 10) (idx := 80) nok4 (by decide) rfl rfl (by decide +kernel) w_258) (gk9 hG)) <|
  n_c (s_aload_n (pc := 22) (k := 0) (by decide +kernel)) <|
  n_c (s_gRc (s_getR (pc := 23) (ci := 11) (k := 2) (idx := 28) nok11 (by decide) rfl (by decide +kernel) w_574) (gk1 hG) (gm1_2 hG)) <|
  n_c (s_callVc (s_callV (pc := 26) (csX5_forget hG) (by decide) okX5_forget nok5 w_602 w_603 w_601 (by decide +kernel)) (gk48 hG)) <|
  n_c (s_iload_n (pc := 29) (k := 2) (by decide +kernel)) <|
  n_c (s_iret (pc := 30) rfl (by decide +kernel)) <|
  n_e
def fX11_state (x1 : Int32) (M : nM) : Option (Int32 × nM) :=
  let v1 : Int32 := (M 9 10)
  let M2 : nM := n_up M 9 10 x1
  (fX5_forget M2).bind fun p3 =>
  some (v1, p3.2)
set_option maxRecDepth 200000 in
theorem bX11_state_0 {l : Launch} {w : nW} {G : nG} (hG : n_GOK G) (x1 : Int32) (M : nM) (r : Int32 × nM) (h : fX11_state x1 M = some r) : n_At l w 1 mX11_state 0 [(0, .ref 1), (1, .int x1)] [] (G, M) (dv_i r.1, (G, r.2)) :=
  n_seg (fin := n_fin dv_i G) (K := []) 18 (iX11_state hG) n_ke (by rfl) h
theorem eX11_state {l : Launch} {w : nW} {G : nG} (hG : n_GOK G) (z1 : Int32) (M : nM) (r : Int32 × nM) (h : fX11_state z1 M = some r) : n_Met l w 1 mX11_state [.ref 1, .int z1] (G, M) (dv_i r.1, (G, r.2)) :=
  n_entry (by decide +kernel) rfl (Nat.le_of_ble_eq_true rfl) (n_sub (lv := [(0, .ref 1), (1, .int z1)]) (n_qc rfl (n_qc rfl n_qe)) (bX11_state_0 hG z1 M r h))
abbrev hX11_state : nF := fun T as M k => n_pC 1 as (fun as => n_pI as (fun z1 as => n_pE as ((fX11_state z1 M).bind fun p => k (dv_i p.1) p.2)))
theorem csX11_state {l : Launch} {w : nW} {G : nG} (hG : n_GOK G) : n_CS l w 1 mX11_state G (hX11_state) := fun T as M k r h => by
  obtain ⟨t0, rfl, h1⟩ := n_pC_x h
  obtain ⟨z1, t1, rfl, h2⟩ := n_pI_x h1
  obtain ⟨rfl, hE⟩ := n_pE_x h2
  obtain ⟨p, hp, hk⟩ := Option.bind_eq_some_iff.mp hE
  exact ⟨_, _, eX11_state hG z1 M p hp, hk⟩
/-! ===== SleightHouseModel.state(I)I ===== -/
def mX12_state : nY := (RX12, yX12_state, cX12_state, 3, some .int)
theorem okX12_state : n_MOK mX12_state 1 := ⟨w_1652, w_151, ⟨by decide +kernel, by decide +kernel, by decide +kernel⟩, by decide⟩
abbrev aX12_state : List (Nat × nO (Int32 × nM)) := [(0, o_aload 0 1), (1, o_push (.int (0 : Int32)) 2), (2, o_pIc 107 0 5), (5, o_aload 0 6), (6, o_gRc 107 108 9), (9, o_push (.int (1 : Int32)) 10), (10, o_aldc 108 100 11), (11, o_istore 3 2 12), (12, o_aload 0 13), (13, o_gRc 107 108 16), (16, o_push (.int (1 : Int32)) 17), (17, o_iload 1 18), (18, o_iastc 108 100 19), (19, o_aload 0 20), (20, o_push (.int (0 : Int32)) 21), (21, o_pIc 107 3 24), (24, o_iload 2 25), (25, o_iret)]
set_option maxRecDepth 200000 in
theorem iX12_state {l : Launch} {w : nW} {G : nG} (hG : n_GOK G) : n_AllS l w 0 mX12_state G (n_fin dv_i G) (aX12_state) :=
  n_c (s_aload_n (pc := 0) (k := 0) (by decide +kernel)) <|
  n_c (s_iconst (pc := 1) (n := 0) (by decide +kernel) (by decide +kernel)) <|
  n_c (s_pIc (s_putI (pc := 2) (ci := 12) (k := 0) (idx := 146) nok12 (by decide) rfl rfl (by decide +kernel) w_1407) (gk107 hG)) <|
  n_c (s_aload_n (pc := 5) (k := 0) (by decide +kernel)) <|
  n_c (s_gRc (s_getR (pc := 6) (ci := 12) (k := 1) (idx := 7) nok12 (by decide) rfl (by decide +kernel) w_1408) (gk107 hG) (gm107_1 hG)) <|
  n_c (s_iconst (pc := 9) (n := 1) (by decide +kernel) (by decide +kernel)) <|
  n_c (s_aldc (s_iaload (pc := 10) (by decide +kernel)) (gk108 hG) (gl108 hG)) <|
  n_c (s_istore_n (pc := 11) (k := 2) (by decide +kernel)) <|
  n_c (s_aload_n (pc := 12) (k := 0) (by decide +kernel)) <|
  n_c (s_gRc (s_getR (pc := 13) (ci := 12) (k := 1) (idx := 7) nok12 (by decide) rfl (by decide +kernel) w_1408) (gk107 hG) (gm107_1 hG)) <|
  n_c (s_iconst (pc := 16) (n := 1) (by decide +kernel) (by decide +kernel)) <|
  n_c (s_iload_n (pc := 17) (k := 1) (by decide +kernel)) <|
  n_c (s_iastc (s_iastore (pc := 18) (by decide +kernel)) (gk108 hG) (gl108 hG)) <|
  n_c (s_aload_n (pc := 19) (k := 0) (by decide +kernel)) <|
  n_c (s_iconst (pc := 20) (n := 0) (by decide +kernel) (by decide +kernel)) <|
  n_c (s_pIc (s_putI (pc := 21) (ci := 12) (k := 3) (idx := 149) nok12 (by decide) rfl rfl (by decide +kernel) w_1410) (gk107 hG)) <|
  n_c (s_iload_n (pc := 24) (k := 2) (by decide +kernel)) <|
  n_c (s_iret (pc := 25) rfl (by decide +kernel)) <|
  n_e
def fX12_state (x1 : Int32) (M : nM) : Option (Int32 × nM) :=
  let M1 : nM := n_up M 107 0 (0 : Int32)
  n_chk (n_ib 100 (1 : Int32)) <|
  let v2 : Int32 := (M1 108 (1 : Int32).toNatClampNeg)
  n_chk (n_ib 100 (1 : Int32)) <|
  let M3 : nM := n_up M1 108 (1 : Int32).toNatClampNeg x1
  let M4 : nM := n_up M3 107 3 (0 : Int32)
  some (v2, M4)
set_option maxRecDepth 200000 in
theorem bX12_state_0 {l : Launch} {w : nW} {G : nG} (hG : n_GOK G) (x1 : Int32) (M : nM) (r : Int32 × nM) (h : fX12_state x1 M = some r) : n_At l w 0 mX12_state 0 [(0, .ref 107), (1, .int x1)] [] (G, M) (dv_i r.1, (G, r.2)) :=
  n_seg (fin := n_fin dv_i G) (K := []) 21 (iX12_state hG) n_ke (by rfl) h
theorem eX12_state {l : Launch} {w : nW} {G : nG} (hG : n_GOK G) (z1 : Int32) (M : nM) (r : Int32 × nM) (h : fX12_state z1 M = some r) : n_Met l w 0 mX12_state [.ref 107, .int z1] (G, M) (dv_i r.1, (G, r.2)) :=
  n_entry (by decide +kernel) rfl (Nat.le_of_ble_eq_true rfl) (n_sub (lv := [(0, .ref 107), (1, .int z1)]) (n_qc rfl (n_qc rfl n_qe)) (bX12_state_0 hG z1 M r h))
abbrev hX12_state : nF := fun T as M k => n_pC 107 as (fun as => n_pI as (fun z1 as => n_pE as ((fX12_state z1 M).bind fun p => k (dv_i p.1) p.2)))
theorem csX12_state {l : Launch} {w : nW} {G : nG} (hG : n_GOK G) : n_CS l w 0 mX12_state G (hX12_state) := fun T as M k r h => by
  obtain ⟨t0, rfl, h1⟩ := n_pC_x h
  obtain ⟨z1, t1, rfl, h2⟩ := n_pI_x h1
  obtain ⟨rfl, hE⟩ := n_pE_x h2
  obtain ⟨p, hp, hk⟩ := Option.bind_eq_some_iff.mp hE
  exact ⟨_, _, eX12_state hG z1 M p hp, hk⟩
/-! ===== SleightHouse.within(III)Z ===== -/
def mX11_within : nY := (RX11, yX11_within, cX11_within, 3, some .boolean)
theorem okX11_within : n_MOK mX11_within 3 := ⟨w_611, w_137, ⟨by decide +kernel, by decide +kernel, by decide +kernel⟩, by decide⟩
abbrev aX11_within : List (Nat × nO (Int32 × nM)) := [(0, o_iload 0 1), (1, o_iload 1 2), (2, oc_lt 14 5), (5, o_iload 0 6), (6, o_iload 2 7), (7, oc_gt 14 10), (10, o_push (.int (1 : Int32)) 11), (11, o_goto 15), (14, o_push (.int (0 : Int32)) 15), (15, o_zret)]
set_option maxRecDepth 200000 in
theorem iX11_within {l : Launch} {w : nW} {G : nG} : n_AllS l w 0 mX11_within G (n_fin dv_i G) (aX11_within) :=
  n_c (s_iload_n (pc := 0) (k := 0) (by decide +kernel)) <|
  n_c (s_iload_n (pc := 1) (k := 1) (by decide +kernel)) <|
  n_c (s_icmp_lt (pc := 2) (off := 12) (by decide +kernel) (by decide +kernel)) <|
  n_c (s_iload_n (pc := 5) (k := 0) (by decide +kernel)) <|
  n_c (s_iload_n (pc := 6) (k := 2) (by decide +kernel)) <|
  n_c (s_icmp_gt (pc := 7) (off := 7) (by decide +kernel) (by decide +kernel)) <|
  n_c (s_iconst (pc := 10) (n := 1) (by decide +kernel) (by decide +kernel)) <|
  n_c (s_goto (pc := 11) (off := 4) (by decide +kernel) (by decide +kernel)) <|
  n_c (s_iconst (pc := 14) (n := 0) (by decide +kernel) (by decide +kernel)) <|
  n_c (s_zret (pc := 15) rfl (by decide +kernel)) <|
  n_e
def fX11_within (x0 : Int32) (x1 : Int32) (x2 : Int32) (M : nM) : Option (Int32 × nM) :=
  if x0 < x1 then
    some ((0 : Int32), M)
  else
    if x2 < x0 then
      some ((0 : Int32), M)
    else
      some ((1 : Int32), M)
set_option maxRecDepth 200000 in
theorem bX11_within_0 {l : Launch} {w : nW} {G : nG} (x0 : Int32) (x1 : Int32) (x2 : Int32) (M : nM) (r : Int32 × nM) (h : fX11_within x0 x1 x2 M = some r) : n_At l w 0 mX11_within 0 [(0, .int x0), (1, .int x1), (2, .int x2)] [] (G, M) (dv_i r.1, (G, r.2)) :=
  n_seg (fin := n_fin dv_i G) (K := []) 16 (iX11_within) n_ke (by rfl) h
theorem eX11_within {l : Launch} {w : nW} {G : nG} (z0 : Int32) (z1 : Int32) (z2 : Int32) (M : nM) (r : Int32 × nM) (h : fX11_within z0 z1 z2 M = some r) : n_Met l w 0 mX11_within [.int z0, .int z1, .int z2] (G, M) (dv_i r.1, (G, r.2)) :=
  n_entry (by decide +kernel) rfl (Nat.le_of_ble_eq_true rfl) (n_sub (lv := [(0, .int z0), (1, .int z1), (2, .int z2)]) (n_qc rfl (n_qc rfl (n_qc rfl n_qe))) (bX11_within_0 z0 z1 z2 M r h))
abbrev hX11_within : nF := fun T as M k => n_pI as (fun z0 as => n_pI as (fun z1 as => n_pI as (fun z2 as => n_pE as ((fX11_within z0 z1 z2 M).bind fun p => k (dv_i p.1) p.2))))
theorem csX11_within {l : Launch} {w : nW} {G : nG} : n_CS l w 0 mX11_within G (hX11_within) := fun T as M k r h => by
  obtain ⟨z0, t0, rfl, h1⟩ := n_pI_x h
  obtain ⟨z1, t1, rfl, h2⟩ := n_pI_x h1
  obtain ⟨z2, t2, rfl, h3⟩ := n_pI_x h2
  obtain ⟨rfl, hE⟩ := n_pE_x h3
  obtain ⟨p, hp, hk⟩ := Option.bind_eq_some_iff.mp hE
  exact ⟨_, _, eX11_within z0 z1 z2 M p hp, hk⟩
/-! ===== SleightHouse$House.hasPlace(I)Z ===== -/
def mX1_hasPlace : nY := (RX1, yX1_hasPlace, cX1_hasPlace, 2, some .boolean)
theorem okX1_hasPlace : n_MOK mX1_hasPlace 1 := ⟨w_615, w_138, ⟨by decide +kernel, by decide +kernel, by decide +kernel⟩, by decide⟩
abbrev aX1_hasPlace : List (Nat × nO (Int32 × nM)) := [(0, o_iload 1 1), (1, oi_lt 14 4), (4, o_iload 1 5), (5, o_push (.int (12 : Int32)) 7), (7, oc_ge 14 10), (10, o_push (.int (1 : Int32)) 11), (11, o_goto 15), (14, o_push (.int (0 : Int32)) 15), (15, o_zret)]
set_option maxRecDepth 200000 in
theorem iX1_hasPlace {l : Launch} {w : nW} {G : nG} : n_AllS l w 0 mX1_hasPlace G (n_fin dv_i G) (aX1_hasPlace) :=
  n_c (s_iload_n (pc := 0) (k := 1) (by decide +kernel)) <|
  n_c (s_if_lt (pc := 1) (off := 13) (by decide +kernel) (by decide +kernel)) <|
  n_c (s_iload_n (pc := 4) (k := 1) (by decide +kernel)) <|
  n_c (s_bipush (pc := 5) (n := 12) (by decide +kernel) (by decide +kernel)) <|
  n_c (s_icmp_ge (pc := 7) (off := 7) (by decide +kernel) (by decide +kernel)) <|
  n_c (s_iconst (pc := 10) (n := 1) (by decide +kernel) (by decide +kernel)) <|
  n_c (s_goto (pc := 11) (off := 4) (by decide +kernel) (by decide +kernel)) <|
  n_c (s_iconst (pc := 14) (n := 0) (by decide +kernel) (by decide +kernel)) <|
  n_c (s_zret (pc := 15) rfl (by decide +kernel)) <|
  n_e
def fX1_hasPlace (x1 : Int32) (M : nM) : Option (Int32 × nM) :=
  if x1 < 0 then
    some ((0 : Int32), M)
  else
    if (12 : Int32) ≤ x1 then
      some ((0 : Int32), M)
    else
      some ((1 : Int32), M)
set_option maxRecDepth 200000 in
theorem bX1_hasPlace_0 {l : Launch} {w : nW} {G : nG} (x1 : Int32) (M : nM) (r : Int32 × nM) (h : fX1_hasPlace x1 M = some r) : n_At l w 0 mX1_hasPlace 0 [(1, .int x1)] [] (G, M) (dv_i r.1, (G, r.2)) :=
  n_seg (fin := n_fin dv_i G) (K := []) 15 (iX1_hasPlace) n_ke (by rfl) h
theorem eX1_hasPlace {l : Launch} {w : nW} {G : nG} (z1 : Int32) (M : nM) (r : Int32 × nM) (h : fX1_hasPlace z1 M = some r) : n_Met l w 0 mX1_hasPlace [.ref 2, .int z1] (G, M) (dv_i r.1, (G, r.2)) :=
  n_entry (by decide +kernel) rfl (Nat.le_of_ble_eq_true rfl) (n_sub (lv := [(0, .ref 2), (1, .int z1)]) (n_qc rfl n_qe) (bX1_hasPlace_0 z1 M r h))
abbrev hX1_hasPlace : nF := fun T as M k => n_pC 2 as (fun as => n_pI as (fun z1 as => n_pE as ((fX1_hasPlace z1 M).bind fun p => k (dv_i p.1) p.2)))
theorem csX1_hasPlace {l : Launch} {w : nW} {G : nG} : n_CS l w 0 mX1_hasPlace G (hX1_hasPlace) := fun T as M k r h => by
  obtain ⟨t0, rfl, h1⟩ := n_pC_x h
  obtain ⟨z1, t1, rfl, h2⟩ := n_pI_x h1
  obtain ⟨rfl, hE⟩ := n_pE_x h2
  obtain ⟨p, hp, hk⟩ := Option.bind_eq_some_iff.mp hE
  exact ⟨_, _, eX1_hasPlace z1 M p hp, hk⟩
/-! ===== SleightHouse$Stock.addThing(II)I ===== -/
def mX8_addThing : nY := (RX8, yX8_addThing, cX8_addThing, 3, some .int)
theorem okX8_addThing : n_MOK mX8_addThing 2 := ⟨w_619, w_139, ⟨by decide +kernel, by decide +kernel, by decide +kernel⟩, by decide⟩
abbrev aX8_addThing : List (Nat × nO (Int32 × nM)) := [(0, o_aload 0 1), (1, o_gIc 3 5 4), (4, o_push (.int (16 : Int32)) 6), (6, oc_lt 11 9), (9, o_push (.int (-1 : Int32)) 10), (10, o_iret), (11, o_aload 0 12), (12, o_gRc 3 5 15), (15, o_aload 0 16), (16, o_gIc 3 5 19), (19, o_iload 1 20), (20, o_iastc 5 16 21), (21, o_aload 0 22), (22, o_gRc 3 6 25), (25, o_aload 0 26), (26, o_gIc 3 5 29), (29, o_iload 2 30), (30, o_iastc 6 16 31), (31, o_aload 0 32), (32, o_dup 33), (33, o_gIc 3 5 36), (36, o_push (.int (1 : Int32)) 37), (37, o_iadd 38), (38, o_pIc 3 5 41), (41, o_aload 0 42), (42, o_gIc 3 5 45), (45, o_push (.int (1 : Int32)) 46), (46, o_isub 47), (47, o_iret)]
set_option maxRecDepth 200000 in
theorem iX8_addThing {l : Launch} {w : nW} {G : nG} (hG : n_GOK G) : n_AllS l w 0 mX8_addThing G (n_fin dv_i G) (aX8_addThing) :=
  n_c (s_aload_n (pc := 0) (k := 0) (by decide +kernel)) <|
  n_c (s_gIc (s_getI (pc := 1) (ci := 8) (k := 5) (idx := 27) nok8 (by decide) rfl (by decide +kernel) w_197) (gk3 hG)) <|
  n_c (s_bipush (pc := 4) (n := 16) (by decide +kernel) (by decide +kernel)) <|
  n_c (s_icmp_lt (pc := 6) (off := 5) (by decide +kernel) (by decide +kernel)) <|
  n_c (s_iconst (pc := 9) (n := -1) (by decide +kernel) (by decide +kernel)) <|
  n_c (s_iret (pc := 10) rfl (by decide +kernel)) <|
  n_c (s_aload_n (pc := 11) (k := 0) (by decide +kernel)) <|
  n_c (s_gRc (s_getR (pc := 12) (ci := 8) (k := 1) (idx := 15) nok8 (by decide) rfl (by decide +kernel) w_185) (gk3 hG) (gm3_1 hG)) <|
  n_c (s_aload_n (pc := 15) (k := 0) (by decide +kernel)) <|
  n_c (s_gIc (s_getI (pc := 16) (ci := 8) (k := 5) (idx := 27) nok8 (by decide) rfl (by decide +kernel) w_197) (gk3 hG)) <|
  n_c (s_iload_n (pc := 19) (k := 1) (by decide +kernel)) <|
  n_c (s_iastc (s_iastore (pc := 20) (by decide +kernel)) (gk5 hG) (gl5 hG)) <|
  n_c (s_aload_n (pc := 21) (k := 0) (by decide +kernel)) <|
  n_c (s_gRc (s_getR (pc := 22) (ci := 8) (k := 2) (idx := 18) nok8 (by decide) rfl (by decide +kernel) w_188) (gk3 hG) (gm3_2 hG)) <|
  n_c (s_aload_n (pc := 25) (k := 0) (by decide +kernel)) <|
  n_c (s_gIc (s_getI (pc := 26) (ci := 8) (k := 5) (idx := 27) nok8 (by decide) rfl (by decide +kernel) w_197) (gk3 hG)) <|
  n_c (s_iload_n (pc := 29) (k := 2) (by decide +kernel)) <|
  n_c (s_iastc (s_iastore (pc := 30) (by decide +kernel)) (gk6 hG) (gl6 hG)) <|
  n_c (s_aload_n (pc := 31) (k := 0) (by decide +kernel)) <|
  n_c (s_dup (pc := 32) (by decide +kernel)) <|
  n_c (s_gIc (s_getI (pc := 33) (ci := 8) (k := 5) (idx := 27) nok8 (by decide) rfl (by decide +kernel) w_197) (gk3 hG)) <|
  n_c (s_iconst (pc := 36) (n := 1) (by decide +kernel) (by decide +kernel)) <|
  n_c (s_iadd (pc := 37) (by decide +kernel)) <|
  n_c (s_pIc (s_putI (pc := 38) (ci := 8) (k := 5) (idx := 27) nok8 (by decide) rfl rfl (by decide +kernel) w_197) (gk3 hG)) <|
  n_c (s_aload_n (pc := 41) (k := 0) (by decide +kernel)) <|
  n_c (s_gIc (s_getI (pc := 42) (ci := 8) (k := 5) (idx := 27) nok8 (by decide) rfl (by decide +kernel) w_197) (gk3 hG)) <|
  n_c (s_iconst (pc := 45) (n := 1) (by decide +kernel) (by decide +kernel)) <|
  n_c (s_isub (pc := 46) (by decide +kernel)) <|
  n_c (s_iret (pc := 47) rfl (by decide +kernel)) <|
  n_e
def fX8_addThing (x1 : Int32) (x2 : Int32) (M : nM) : Option (Int32 × nM) :=
  if (M 3 5) < (16 : Int32) then
    n_chk (n_ib 16 (M 3 5)) <|
    let M1 : nM := n_up M 5 (M 3 5).toNatClampNeg x1
    n_chk (n_ib 16 (M1 3 5)) <|
    let M2 : nM := n_up M1 6 (M1 3 5).toNatClampNeg x2
    let M3 : nM := n_up M2 3 5 ((M2 3 5) + (1 : Int32))
    some (((M3 3 5) - (1 : Int32)), M3)
  else
    some ((-1 : Int32), M)
set_option maxRecDepth 200000 in
theorem bX8_addThing_0 {l : Launch} {w : nW} {G : nG} (hG : n_GOK G) (x1 : Int32) (x2 : Int32) (M : nM) (r : Int32 × nM) (h : fX8_addThing x1 x2 M = some r) : n_At l w 0 mX8_addThing 0 [(0, .ref 3), (1, .int x1), (2, .int x2)] [] (G, M) (dv_i r.1, (G, r.2)) :=
  n_seg (fin := n_fin dv_i G) (K := []) 32 (iX8_addThing hG) n_ke (by rfl) h
theorem eX8_addThing {l : Launch} {w : nW} {G : nG} (hG : n_GOK G) (z1 : Int32) (z2 : Int32) (M : nM) (r : Int32 × nM) (h : fX8_addThing z1 z2 M = some r) : n_Met l w 0 mX8_addThing [.ref 3, .int z1, .int z2] (G, M) (dv_i r.1, (G, r.2)) :=
  n_entry (by decide +kernel) rfl (Nat.le_of_ble_eq_true rfl) (n_sub (lv := [(0, .ref 3), (1, .int z1), (2, .int z2)]) (n_qc rfl (n_qc rfl (n_qc rfl n_qe))) (bX8_addThing_0 hG z1 z2 M r h))
abbrev hX8_addThing : nF := fun T as M k => n_pC 3 as (fun as => n_pI as (fun z1 as => n_pI as (fun z2 as => n_pE as ((fX8_addThing z1 z2 M).bind fun p => k (dv_i p.1) p.2))))
theorem csX8_addThing {l : Launch} {w : nW} {G : nG} (hG : n_GOK G) : n_CS l w 0 mX8_addThing G (hX8_addThing) := fun T as M k r h => by
  obtain ⟨t0, rfl, h1⟩ := n_pC_x h
  obtain ⟨z1, t1, rfl, h2⟩ := n_pI_x h1
  obtain ⟨z2, t2, rfl, h3⟩ := n_pI_x h2
  obtain ⟨rfl, hE⟩ := n_pE_x h3
  obtain ⟨p, hp, hk⟩ := Option.bind_eq_some_iff.mp hE
  exact ⟨_, _, eX8_addThing hG z1 z2 M p hp, hk⟩
/-! ===== SleightHouse$Moving.withBit(IIZ)I ===== -/
def mX4_withBit : nY := (RX4, yX4_withBit, cX4_withBit, 3, some .int)
theorem okX4_withBit : n_MOK mX4_withBit 3 := ⟨w_626, w_141, ⟨by decide +kernel, by decide +kernel, by decide +kernel⟩, by decide⟩
abbrev aX4_withBit : List (Nat × nO (Int32 × nM)) := [(0, o_iload 2 1), (1, oi_eq 12 4), (4, o_iload 0 5), (5, o_push (.int (1 : Int32)) 6), (6, o_iload 1 7), (7, o_ishl 8), (8, o_ior 9), (9, o_goto 19), (12, o_iload 0 13), (13, o_push (.int (1 : Int32)) 14), (14, o_iload 1 15), (15, o_ishl 16), (16, o_push (.int (-1 : Int32)) 17), (17, o_ixor 18), (18, o_iand 19), (19, o_iret)]
set_option maxRecDepth 200000 in
theorem iX4_withBit {l : Launch} {w : nW} {G : nG} : n_AllS l w 0 mX4_withBit G (n_fin dv_i G) (aX4_withBit) :=
  n_c (s_iload_n (pc := 0) (k := 2) (by decide +kernel)) <|
  n_c (s_if_eq (pc := 1) (off := 11) (by decide +kernel) (by decide +kernel)) <|
  n_c (s_iload_n (pc := 4) (k := 0) (by decide +kernel)) <|
  n_c (s_iconst (pc := 5) (n := 1) (by decide +kernel) (by decide +kernel)) <|
  n_c (s_iload_n (pc := 6) (k := 1) (by decide +kernel)) <|
  n_c (s_ishl (pc := 7) (by decide +kernel)) <|
  n_c (s_ior (pc := 8) (by decide +kernel)) <|
  n_c (s_goto (pc := 9) (off := 10) (by decide +kernel) (by decide +kernel)) <|
  n_c (s_iload_n (pc := 12) (k := 0) (by decide +kernel)) <|
  n_c (s_iconst (pc := 13) (n := 1) (by decide +kernel) (by decide +kernel)) <|
  n_c (s_iload_n (pc := 14) (k := 1) (by decide +kernel)) <|
  n_c (s_ishl (pc := 15) (by decide +kernel)) <|
  n_c (s_iconst (pc := 16) (n := -1) (by decide +kernel) (by decide +kernel)) <|
  n_c (s_ixor (pc := 17) (by decide +kernel)) <|
  n_c (s_iand (pc := 18) (by decide +kernel)) <|
  n_c (s_iret (pc := 19) rfl (by decide +kernel)) <|
  n_e
def fX4_withBit (x0 : Int32) (x1 : Int32) (x2 : Int32) (M : nM) : Option (Int32 × nM) :=
  if x2 = 0 then
    some ((x0 &&& (((1 : Int32) <<< (x1 &&& 31)) ^^^ (-1 : Int32))), M)
  else
    some ((x0 ||| ((1 : Int32) <<< (x1 &&& 31))), M)
set_option maxRecDepth 200000 in
theorem bX4_withBit_0 {l : Launch} {w : nW} {G : nG} (x0 : Int32) (x1 : Int32) (x2 : Int32) (M : nM) (r : Int32 × nM) (h : fX4_withBit x0 x1 x2 M = some r) : n_At l w 0 mX4_withBit 0 [(0, .int x0), (1, .int x1), (2, .int x2)] [] (G, M) (dv_i r.1, (G, r.2)) :=
  n_seg (fin := n_fin dv_i G) (K := []) 20 (iX4_withBit) n_ke (by rfl) h
theorem eX4_withBit {l : Launch} {w : nW} {G : nG} (z0 : Int32) (z1 : Int32) (z2 : Int32) (M : nM) (r : Int32 × nM) (h : fX4_withBit z0 z1 z2 M = some r) : n_Met l w 0 mX4_withBit [.int z0, .int z1, .int z2] (G, M) (dv_i r.1, (G, r.2)) :=
  n_entry (by decide +kernel) rfl (Nat.le_of_ble_eq_true rfl) (n_sub (lv := [(0, .int z0), (1, .int z1), (2, .int z2)]) (n_qc rfl (n_qc rfl (n_qc rfl n_qe))) (bX4_withBit_0 z0 z1 z2 M r h))
abbrev hX4_withBit : nF := fun T as M k => n_pI as (fun z0 as => n_pI as (fun z1 as => n_pI as (fun z2 as => n_pE as ((fX4_withBit z0 z1 z2 M).bind fun p => k (dv_i p.1) p.2))))
theorem csX4_withBit {l : Launch} {w : nW} {G : nG} : n_CS l w 0 mX4_withBit G (hX4_withBit) := fun T as M k r h => by
  obtain ⟨z0, t0, rfl, h1⟩ := n_pI_x h
  obtain ⟨z1, t1, rfl, h2⟩ := n_pI_x h1
  obtain ⟨z2, t2, rfl, h3⟩ := n_pI_x h2
  obtain ⟨rfl, hE⟩ := n_pE_x h3
  obtain ⟨p, hp, hk⟩ := Option.bind_eq_some_iff.mp hE
  exact ⟨_, _, eX4_withBit z0 z1 z2 M p hp, hk⟩
/-! ===== SleightHouse$Moving.startThing(II)V ===== -/
def mX4_startThing : nY := (RX4, yX4_startThing, cX4_startThing, 3, none)
theorem okX4_startThing : n_MOK mX4_startThing 2 := ⟨w_623, w_141, ⟨by decide +kernel, by decide +kernel, by decide +kernel⟩, by decide⟩
abbrev aX4_startThing : List (Nat × nO (Unit × nM)) := [(0, o_iload 1 1), (1, oi_lt 37 4), (4, o_iload 1 5), (5, o_push (.int (16 : Int32)) 7), (7, oc_ge 37 10), (10, o_aload 0 11), (11, o_gRc 9 10 14), (14, o_iload 1 15), (15, o_iload 2 16), (16, o_iastc 10 16 17), (17, o_aload 0 18), (18, o_gRc 9 11 21), (21, o_iload 1 22), (22, o_push (.int (0 : Int32)) 23), (23, o_iastc 11 16 24), (24, o_aload 0 25), (25, o_aload 0 26), (26, o_gIc 9 5 29), (29, o_iload 1 30), (30, o_push (.int (0 : Int32)) 31), (31, o_call 3 (hX4_withBit) 34), (34, o_pIc 9 5 37), (37, o_vret)]
set_option maxRecDepth 200000 in
theorem iX4_startThing {l : Launch} {w : nW} {G : nG} (hG : n_GOK G) : n_AllS l w 1 mX4_startThing G (n_fin dv_v G) (aX4_startThing) :=
  n_c (s_iload_n (pc := 0) (k := 1) (by decide +kernel)) <|
  n_c (s_if_lt (pc := 1) (off := 36) (by decide +kernel) (by decide +kernel)) <|
  n_c (s_iload_n (pc := 4) (k := 1) (by decide +kernel)) <|
  n_c (s_bipush (pc := 5) (n := 16) (by decide +kernel) (by decide +kernel)) <|
  n_c (s_icmp_ge (pc := 7) (off := 30) (by decide +kernel) (by decide +kernel)) <|
  n_c (s_aload_n (pc := 10) (k := 0) (by decide +kernel)) <|
  n_c (s_gRc (s_getR (pc := 11) (ci := 4) (k := 1) (idx := 9) nok4 (by decide) rfl (by decide +kernel) w_230) (gk9 hG) (gm9_1 hG)) <|
  n_c (s_iload_n (pc := 14) (k := 1) (by decide +kernel)) <|
  n_c (s_iload_n (pc := 15) (k := 2) (by decide +kernel)) <|
  n_c (s_iastc (s_iastore (pc := 16) (by decide +kernel)) (gk10 hG) (gl10 hG)) <|
  n_c (s_aload_n (pc := 17) (k := 0) (by decide +kernel)) <|
  n_c (s_gRc (s_getR (pc := 18) (ci := 4) (k := 2) (idx := 15) nok4 (by decide) rfl (by decide +kernel) w_233) (gk9 hG) (gm9_2 hG)) <|
  n_c (s_iload_n (pc := 21) (k := 1) (by decide +kernel)) <|
  n_c (s_iconst (pc := 22) (n := 0) (by decide +kernel) (by decide +kernel)) <|
  n_c (s_iastc (s_iastore (pc := 23) (by decide +kernel)) (gk11 hG) (gl11 hG)) <|
  n_c (s_aload_n (pc := 24) (k := 0) (by decide +kernel)) <|
  n_c (s_aload_n (pc := 25) (k := 0) (by decide +kernel)) <|
  n_c (s_gIc (s_getI (pc := 26) (ci := 4) (k := 5) (idx := 24) nok4 (by decide) rfl (by decide +kernel) w_242) (gk9 hG)) <|
  n_c (s_iload_n (pc := 29) (k := 1) (by decide +kernel)) <|
  n_c (s_iconst (pc := 30) (n := 0) (by decide +kernel) (by decide +kernel)) <|
  n_c (s_callS (pc := 31) (csX4_withBit) (by decide) okX4_withBit w_625 w_624 (by decide +kernel)) <|
  n_c (s_pIc (s_putI (pc := 34) (ci := 4) (k := 5) (idx := 24) nok4 (by decide) rfl rfl (by decide +kernel) w_242) (gk9 hG)) <|
  n_c (s_vret (pc := 37) rfl (by decide +kernel)) <|
  n_e
def fX4_startThing (x1 : Int32) (x2 : Int32) (M : nM) : Option (Unit × nM) :=
  if x1 < 0 then
    some ((), M)
  else
    if (16 : Int32) ≤ x1 then
      some ((), M)
    else
      n_chk (n_ib 16 x1) <|
      let M1 : nM := n_up M 10 x1.toNatClampNeg x2
      n_chk (n_ib 16 x1) <|
      let M2 : nM := n_up M1 11 x1.toNatClampNeg (0 : Int32)
      (fX4_withBit (M2 9 5) x1 (0 : Int32) M2).bind fun p3 =>
      let M4 : nM := n_up p3.2 9 5 p3.1
      some ((), M4)
set_option maxRecDepth 200000 in
theorem bX4_startThing_0 {l : Launch} {w : nW} {G : nG} (hG : n_GOK G) (x1 : Int32) (x2 : Int32) (M : nM) (r : Unit × nM) (h : fX4_startThing x1 x2 M = some r) : n_At l w 1 mX4_startThing 0 [(0, .ref 9), (1, .int x1), (2, .int x2)] [] (G, M) (dv_v r.1, (G, r.2)) :=
  n_seg (fin := n_fin dv_v G) (K := []) 28 (iX4_startThing hG) n_ke (by rfl) h
theorem eX4_startThing {l : Launch} {w : nW} {G : nG} (hG : n_GOK G) (z1 : Int32) (z2 : Int32) (M : nM) (r : Unit × nM) (h : fX4_startThing z1 z2 M = some r) : n_Met l w 1 mX4_startThing [.ref 9, .int z1, .int z2] (G, M) (dv_v r.1, (G, r.2)) :=
  n_entry (by decide +kernel) rfl (Nat.le_of_ble_eq_true rfl) (n_sub (lv := [(0, .ref 9), (1, .int z1), (2, .int z2)]) (n_qc rfl (n_qc rfl (n_qc rfl n_qe))) (bX4_startThing_0 hG z1 z2 M r h))
abbrev hX4_startThing : nF := fun T as M k => n_pC 9 as (fun as => n_pI as (fun z1 as => n_pI as (fun z2 as => n_pE as ((fX4_startThing z1 z2 M).bind fun p => k (dv_v p.1) p.2))))
theorem csX4_startThing {l : Launch} {w : nW} {G : nG} (hG : n_GOK G) : n_CS l w 1 mX4_startThing G (hX4_startThing) := fun T as M k r h => by
  obtain ⟨t0, rfl, h1⟩ := n_pC_x h
  obtain ⟨z1, t1, rfl, h2⟩ := n_pI_x h1
  obtain ⟨z2, t2, rfl, h3⟩ := n_pI_x h2
  obtain ⟨rfl, hE⟩ := n_pE_x h3
  obtain ⟨p, hp, hk⟩ := Option.bind_eq_some_iff.mp hE
  exact ⟨_, _, eX4_startThing hG z1 z2 M p hp, hk⟩
/-! ===== SleightHouse.thing(III)I ===== -/
def mX11_thing : nY := (RX11, yX11_thing, cX11_thing, 5, some .int)
theorem okX11_thing : n_MOK mX11_thing 3 := ⟨w_608, w_137, ⟨by decide +kernel, by decide +kernel, by decide +kernel⟩, by decide⟩
abbrev aX11_thing : List (Nat × nO (Int32 × nM)) := [(0, o_iload 1 1), (1, o_push (.int (1 : Int32)) 2), (2, o_push (.int (9 : Int32)) 4), (4, o_call 3 (hX11_within) 7), (7, oi_eq 32 10), (10, o_iload 2 11), (11, o_push (.int (0 : Int32)) 12), (12, o_push (.int (999 : Int32)) 15), (15, o_call 3 (hX11_within) 18), (18, oi_eq 32 21), (21, o_aload 0 22), (22, o_gRc 1 2 25), (25, o_iload 3 26), (26, o_callVc 2 1 (hX1_hasPlace) 29), (29, oi_ne 34 32), (32, o_push (.int (-1 : Int32)) 33), (33, o_iret), (34, o_aload 0 35), (35, o_gRc 1 2 38), (38, o_gRc 2 3 41), (41, o_iload 1 42), (42, o_iload 2 43), (43, o_callVc 3 2 (hX8_addThing) 46), (46, o_istore 5 4 48), (48, o_iload 4 50), (50, o_push (.int (-1 : Int32)) 51), (51, oc_eq 74 54), (54, o_aload 0 55), (55, o_gRc 1 2 58), (58, o_gRc 2 9 61), (61, o_iload 4 63), (63, o_iload 3 64), (64, o_callVc 9 2 (hX4_startThing) 67), (67, o_aload 0 68), (68, o_gRc 1 48 71), (71, o_callVc 48 0 (hX5_forget) 74), (74, o_iload 4 76), (76, o_iret)]
set_option maxRecDepth 200000 in
theorem iX11_thing {l : Launch} {w : nW} {G : nG} (hG : n_GOK G) : n_AllS l w 2 mX11_thing G (n_fin dv_i G) (aX11_thing) :=
  n_c (s_iload_n (pc := 0) (k := 1) (by decide +kernel)) <|
  n_c (s_iconst (pc := 1) (n := 1) (by decide +kernel) (by decide +kernel)) <|
  n_c (s_bipush (pc := 2) (n := 9) (by decide +kernel) (by decide +kernel)) <|
  n_c (s_callS (pc := 4) (csX11_within) (by decide) okX11_within w_610 w_609 (by decide +kernel)) <|
  n_c (s_if_eq (pc := 7) (off := 25) (by decide +kernel) (by decide +kernel)) <|
  n_c (s_iload_n (pc := 10) (k := 2) (by decide +kernel)) <|
  n_c (s_iconst (pc := 11) (n := 0) (by decide +kernel) (by decide +kernel)) <|
  n_c (s_sipush (pc := 12) (n := 999) (by decide +kernel) (by decide +kernel)) <|
  n_c (s_callS (pc := 15) (csX11_within) (by decide) okX11_within w_610 w_609 (by decide +kernel)) <|
  n_c (s_if_eq (pc := 18) (off := 14) (by decide +kernel) (by decide +kernel)) <|
  n_c (s_aload_n (pc := 21) (k := 0) (by decide +kernel)) <|
  n_c (s_gRc (s_getR (pc := 22) (ci := 11) (k := 0) (idx := 10) nok11 (by decide) rfl (by decide +kernel) w_572) (gk1 hG) (gm1_0 hG)) <|
  n_c (s_iload_n (pc := 25) (k := 3) (by decide +kernel)) <|
  n_c (s_callVc (s_callV (pc := 26) (csX1_hasPlace) (by decide) okX1_hasPlace nok1 w_613 w_614 w_612 (by decide +kernel)) (gk2 hG)) <|
  n_c (s_if_ne (pc := 29) (off := 5) (by decide +kernel) (by decide +kernel)) <|
  n_c (s_iconst (pc := 32) (n := -1) (by decide +kernel) (by decide +kernel)) <|
  n_c (s_iret (pc := 33) rfl (by decide +kernel)) <|
  n_c (s_aload_n (pc := 34) (k := 0) (by decide +kernel)) <|
  n_c (s_gRc (s_getR (pc := 35) (ci := 11) (k := 0) (idx := 10) nok11 (by decide) rfl (by decide +kernel) w_572) (gk1 hG) (gm1_0 hG)) <|
  n_c (s_gRc (s_getR (pc := 38) (ci := 1) (k := 0) (idx := 34) nok1 (by decide) rfl (by decide +kernel) w_403) (gk2 hG) (gm2_0 hG)) <|
  n_c (s_iload_n (pc := 41) (k := 1) (by decide +kernel)) <|
  n_c (s_iload_n (pc := 42) (k := 2) (by decide +kernel)) <|
  n_c (s_callVc (s_callV (pc := 43) (csX8_addThing hG) (by decide) okX8_addThing nok8 w_617 w_618 w_616 (by decide +kernel)) (gk3 hG)) <|
  n_c (s_istore (pc := 46) (by decide +kernel)) <|
  n_c (s_iload (pc := 48) (by decide +kernel)) <|
  n_c (s_iconst (pc := 50) (n := -1) (by decide +kernel) (by decide +kernel)) <|
  n_c (s_icmp_eq (pc := 51) (off := 23) (by decide +kernel) (by decide +kernel)) <|
  n_c (s_aload_n (pc := 54) (k := 0) (by decide +kernel)) <|
  n_c (s_gRc (s_getR (pc := 55) (ci := 11) (k := 0) (idx := 10) nok11 (by decide) rfl (by decide +kernel) w_572) (gk1 hG) (gm1_0 hG)) <|
  n_c (s_gRc (s_getR (pc := 58) (ci := 1) (k := 1) (idx := 77) nok1 (by decide) rfl (by decide +kernel) w_406) (gk2 hG) (gm2_1 hG)) <|
  n_c (s_iload (pc := 61) (by decide +kernel)) <|
  n_c (s_iload_n (pc := 63) (k := 3) (by decide +kernel)) <|
  n_c (s_callVc (s_callV (pc := 64) (csX4_startThing hG) (by decide) okX4_startThing nok4 w_621 w_622 w_620 (by decide +kernel)) (gk9 hG)) <|
  n_c (s_aload_n (pc := 67) (k := 0) (by decide +kernel)) <|
  n_c (s_gRc (s_getR (pc := 68) (ci := 11) (k := 2) (idx := 28) nok11 (by decide) rfl (by decide +kernel) w_574) (gk1 hG) (gm1_2 hG)) <|
  n_c (s_callVc (s_callV (pc := 71) (csX5_forget hG) (by decide) okX5_forget nok5 w_602 w_603 w_601 (by decide +kernel)) (gk48 hG)) <|
  n_c (s_iload (pc := 74) (by decide +kernel)) <|
  n_c (s_iret (pc := 76) rfl (by decide +kernel)) <|
  n_e
def fX11_thing (x1 : Int32) (x2 : Int32) (x3 : Int32) (M : nM) : Option (Int32 × nM) :=
  (fX11_within x1 (1 : Int32) (9 : Int32) M).bind fun p1 =>
  if p1.1 = 0 then
    some ((-1 : Int32), p1.2)
  else
    (fX11_within x2 (0 : Int32) (999 : Int32) p1.2).bind fun p2 =>
    if p2.1 = 0 then
      some ((-1 : Int32), p2.2)
    else
      (fX1_hasPlace x3 p2.2).bind fun p3 =>
      if ¬ p3.1 = 0 then
        (fX8_addThing x1 x2 p3.2).bind fun p4 =>
        if p4.1 = (-1 : Int32) then
          some (p4.1, p4.2)
        else
          (fX4_startThing p4.1 x3 p4.2).bind fun p5 =>
          (fX5_forget p5.2).bind fun p6 =>
          some (p4.1, p6.2)
      else
        some ((-1 : Int32), p3.2)
set_option maxRecDepth 200000 in
theorem bX11_thing_0 {l : Launch} {w : nW} {G : nG} (hG : n_GOK G) (x1 : Int32) (x2 : Int32) (x3 : Int32) (M : nM) (r : Int32 × nM) (h : fX11_thing x1 x2 x3 M = some r) : n_At l w 2 mX11_thing 0 [(0, .ref 1), (1, .int x1), (2, .int x2), (3, .int x3)] [] (G, M) (dv_i r.1, (G, r.2)) :=
  n_seg (fin := n_fin dv_i G) (K := []) 47 (iX11_thing hG) n_ke (by rfl) h
theorem eX11_thing {l : Launch} {w : nW} {G : nG} (hG : n_GOK G) (z1 : Int32) (z2 : Int32) (z3 : Int32) (M : nM) (r : Int32 × nM) (h : fX11_thing z1 z2 z3 M = some r) : n_Met l w 2 mX11_thing [.ref 1, .int z1, .int z2, .int z3] (G, M) (dv_i r.1, (G, r.2)) :=
  n_entry (by decide +kernel) rfl (Nat.le_of_ble_eq_true rfl) (n_sub (lv := [(0, .ref 1), (1, .int z1), (2, .int z2), (3, .int z3)]) (n_qc rfl (n_qc rfl (n_qc rfl (n_qc rfl n_qe)))) (bX11_thing_0 hG z1 z2 z3 M r h))
abbrev hX11_thing : nF := fun T as M k => n_pC 1 as (fun as => n_pI as (fun z1 as => n_pI as (fun z2 as => n_pI as (fun z3 as => n_pE as ((fX11_thing z1 z2 z3 M).bind fun p => k (dv_i p.1) p.2)))))
theorem csX11_thing {l : Launch} {w : nW} {G : nG} (hG : n_GOK G) : n_CS l w 2 mX11_thing G (hX11_thing) := fun T as M k r h => by
  obtain ⟨t0, rfl, h1⟩ := n_pC_x h
  obtain ⟨z1, t1, rfl, h2⟩ := n_pI_x h1
  obtain ⟨z2, t2, rfl, h3⟩ := n_pI_x h2
  obtain ⟨z3, t3, rfl, h4⟩ := n_pI_x h3
  obtain ⟨rfl, hE⟩ := n_pE_x h4
  obtain ⟨p, hp, hk⟩ := Option.bind_eq_some_iff.mp hE
  exact ⟨_, _, eX11_thing hG z1 z2 z3 M p hp, hk⟩
/-! ===== SleightHouseModel.isIn(III)Z ===== -/
def mX12_isIn : nY := (RX12, yX12_isIn, cX12_isIn, 4, some .boolean)
theorem okX12_isIn : n_MOK mX12_isIn 3 := ⟨w_1660, w_151, ⟨by decide +kernel, by decide +kernel, by decide +kernel⟩, by decide⟩
abbrev aX12_isIn : List (Nat × nO (Int32 × nM)) := [(0, o_iload 1 1), (1, o_iload 2 2), (2, oc_lt 14 5), (5, o_iload 1 6), (6, o_iload 3 7), (7, oc_gt 14 10), (10, o_push (.int (1 : Int32)) 11), (11, o_goto 15), (14, o_push (.int (0 : Int32)) 15), (15, o_zret)]
set_option maxRecDepth 200000 in
theorem iX12_isIn {l : Launch} {w : nW} {G : nG} : n_AllS l w 0 mX12_isIn G (n_fin dv_i G) (aX12_isIn) :=
  n_c (s_iload_n (pc := 0) (k := 1) (by decide +kernel)) <|
  n_c (s_iload_n (pc := 1) (k := 2) (by decide +kernel)) <|
  n_c (s_icmp_lt (pc := 2) (off := 12) (by decide +kernel) (by decide +kernel)) <|
  n_c (s_iload_n (pc := 5) (k := 1) (by decide +kernel)) <|
  n_c (s_iload_n (pc := 6) (k := 3) (by decide +kernel)) <|
  n_c (s_icmp_gt (pc := 7) (off := 7) (by decide +kernel) (by decide +kernel)) <|
  n_c (s_iconst (pc := 10) (n := 1) (by decide +kernel) (by decide +kernel)) <|
  n_c (s_goto (pc := 11) (off := 4) (by decide +kernel) (by decide +kernel)) <|
  n_c (s_iconst (pc := 14) (n := 0) (by decide +kernel) (by decide +kernel)) <|
  n_c (s_zret (pc := 15) rfl (by decide +kernel)) <|
  n_e
def fX12_isIn (x1 : Int32) (x2 : Int32) (x3 : Int32) (M : nM) : Option (Int32 × nM) :=
  if x1 < x2 then
    some ((0 : Int32), M)
  else
    if x3 < x1 then
      some ((0 : Int32), M)
    else
      some ((1 : Int32), M)
set_option maxRecDepth 200000 in
theorem bX12_isIn_0 {l : Launch} {w : nW} {G : nG} (x1 : Int32) (x2 : Int32) (x3 : Int32) (M : nM) (r : Int32 × nM) (h : fX12_isIn x1 x2 x3 M = some r) : n_At l w 0 mX12_isIn 0 [(1, .int x1), (2, .int x2), (3, .int x3)] [] (G, M) (dv_i r.1, (G, r.2)) :=
  n_seg (fin := n_fin dv_i G) (K := []) 16 (iX12_isIn) n_ke (by rfl) h
theorem eX12_isIn {l : Launch} {w : nW} {G : nG} (z1 : Int32) (z2 : Int32) (z3 : Int32) (M : nM) (r : Int32 × nM) (h : fX12_isIn z1 z2 z3 M = some r) : n_Met l w 0 mX12_isIn [.ref 107, .int z1, .int z2, .int z3] (G, M) (dv_i r.1, (G, r.2)) :=
  n_entry (by decide +kernel) rfl (Nat.le_of_ble_eq_true rfl) (n_sub (lv := [(0, .ref 107), (1, .int z1), (2, .int z2), (3, .int z3)]) (n_qc rfl (n_qc rfl (n_qc rfl n_qe))) (bX12_isIn_0 z1 z2 z3 M r h))
abbrev hX12_isIn : nF := fun T as M k => n_pC 107 as (fun as => n_pI as (fun z1 as => n_pI as (fun z2 as => n_pI as (fun z3 as => n_pE as ((fX12_isIn z1 z2 z3 M).bind fun p => k (dv_i p.1) p.2)))))
theorem csX12_isIn {l : Launch} {w : nW} {G : nG} : n_CS l w 0 mX12_isIn G (hX12_isIn) := fun T as M k r h => by
  obtain ⟨t0, rfl, h1⟩ := n_pC_x h
  obtain ⟨z1, t1, rfl, h2⟩ := n_pI_x h1
  obtain ⟨z2, t2, rfl, h3⟩ := n_pI_x h2
  obtain ⟨z3, t3, rfl, h4⟩ := n_pI_x h3
  obtain ⟨rfl, hE⟩ := n_pE_x h4
  obtain ⟨p, hp, hk⟩ := Option.bind_eq_some_iff.mp hE
  exact ⟨_, _, eX12_isIn z1 z2 z3 M p hp, hk⟩
/-! ===== SleightHouseModel.isPlace(I)Z ===== -/
def mX12_isPlace : nY := (RX12, yX12_isPlace, cX12_isPlace, 2, some .boolean)
theorem okX12_isPlace : n_MOK mX12_isPlace 1 := ⟨w_1664, w_151, ⟨by decide +kernel, by decide +kernel, by decide +kernel⟩, by decide⟩
abbrev aX12_isPlace : List (Nat × nO (Int32 × nM)) := [(0, o_iload 1 1), (1, oi_lt 14 4), (4, o_iload 1 5), (5, o_push (.int (12 : Int32)) 7), (7, oc_ge 14 10), (10, o_push (.int (1 : Int32)) 11), (11, o_goto 15), (14, o_push (.int (0 : Int32)) 15), (15, o_zret)]
set_option maxRecDepth 200000 in
theorem iX12_isPlace {l : Launch} {w : nW} {G : nG} : n_AllS l w 0 mX12_isPlace G (n_fin dv_i G) (aX12_isPlace) :=
  n_c (s_iload_n (pc := 0) (k := 1) (by decide +kernel)) <|
  n_c (s_if_lt (pc := 1) (off := 13) (by decide +kernel) (by decide +kernel)) <|
  n_c (s_iload_n (pc := 4) (k := 1) (by decide +kernel)) <|
  n_c (s_bipush (pc := 5) (n := 12) (by decide +kernel) (by decide +kernel)) <|
  n_c (s_icmp_ge (pc := 7) (off := 7) (by decide +kernel) (by decide +kernel)) <|
  n_c (s_iconst (pc := 10) (n := 1) (by decide +kernel) (by decide +kernel)) <|
  n_c (s_goto (pc := 11) (off := 4) (by decide +kernel) (by decide +kernel)) <|
  n_c (s_iconst (pc := 14) (n := 0) (by decide +kernel) (by decide +kernel)) <|
  n_c (s_zret (pc := 15) rfl (by decide +kernel)) <|
  n_e
def fX12_isPlace (x1 : Int32) (M : nM) : Option (Int32 × nM) :=
  if x1 < 0 then
    some ((0 : Int32), M)
  else
    if (12 : Int32) ≤ x1 then
      some ((0 : Int32), M)
    else
      some ((1 : Int32), M)
set_option maxRecDepth 200000 in
theorem bX12_isPlace_0 {l : Launch} {w : nW} {G : nG} (x1 : Int32) (M : nM) (r : Int32 × nM) (h : fX12_isPlace x1 M = some r) : n_At l w 0 mX12_isPlace 0 [(1, .int x1)] [] (G, M) (dv_i r.1, (G, r.2)) :=
  n_seg (fin := n_fin dv_i G) (K := []) 15 (iX12_isPlace) n_ke (by rfl) h
theorem eX12_isPlace {l : Launch} {w : nW} {G : nG} (z1 : Int32) (M : nM) (r : Int32 × nM) (h : fX12_isPlace z1 M = some r) : n_Met l w 0 mX12_isPlace [.ref 107, .int z1] (G, M) (dv_i r.1, (G, r.2)) :=
  n_entry (by decide +kernel) rfl (Nat.le_of_ble_eq_true rfl) (n_sub (lv := [(0, .ref 107), (1, .int z1)]) (n_qc rfl n_qe) (bX12_isPlace_0 z1 M r h))
abbrev hX12_isPlace : nF := fun T as M k => n_pC 107 as (fun as => n_pI as (fun z1 as => n_pE as ((fX12_isPlace z1 M).bind fun p => k (dv_i p.1) p.2)))
theorem csX12_isPlace {l : Launch} {w : nW} {G : nG} : n_CS l w 0 mX12_isPlace G (hX12_isPlace) := fun T as M k r h => by
  obtain ⟨t0, rfl, h1⟩ := n_pC_x h
  obtain ⟨z1, t1, rfl, h2⟩ := n_pI_x h1
  obtain ⟨rfl, hE⟩ := n_pE_x h2
  obtain ⟨p, hp, hk⟩ := Option.bind_eq_some_iff.mp hE
  exact ⟨_, _, eX12_isPlace z1 M p hp, hk⟩
/-! ===== SleightHouseModel.thing(III)I ===== -/
def mX12_thing : nY := (RX12, yX12_thing, cX12_thing, 4, some .int)
theorem okX12_thing : n_MOK mX12_thing 3 := ⟨w_1656, w_151, ⟨by decide +kernel, by decide +kernel, by decide +kernel⟩, by decide⟩
abbrev aX12_thing : List (Nat × nO (Int32 × nM)) := [(0, o_aload 0 1), (1, o_push (.int (0 : Int32)) 2), (2, o_pIc 107 0 5), (5, o_aload 0 6), (6, o_iload 1 7), (7, o_push (.int (1 : Int32)) 8), (8, o_push (.int (9 : Int32)) 10), (10, o_callVc 107 3 (hX12_isIn) 13), (13, oi_eq 45 16), (16, o_aload 0 17), (17, o_iload 2 18), (18, o_push (.int (0 : Int32)) 19), (19, o_push (.int (999 : Int32)) 22), (22, o_callVc 107 3 (hX12_isIn) 25), (25, oi_eq 45 28), (28, o_aload 0 29), (29, o_iload 3 30), (30, o_callVc 107 1 (hX12_isPlace) 33), (33, oi_eq 45 36), (36, o_aload 0 37), (37, o_gIc 107 6 40), (40, o_push (.int (16 : Int32)) 42), (42, oc_ne 47 45), (45, o_push (.int (-1 : Int32)) 46), (46, o_iret), (47, o_aload 0 48), (48, o_gRc 107 112 51), (51, o_aload 0 52), (52, o_gIc 107 6 55), (55, o_iload 1 56), (56, o_iastc 112 16 57), (57, o_aload 0 58), (58, o_gRc 107 113 61), (61, o_aload 0 62), (62, o_gIc 107 6 65), (65, o_iload 2 66), (66, o_iastc 113 16 67), (67, o_aload 0 68), (68, o_gRc 107 108 71), (71, o_push (.int (28 : Int32)) 73), (73, o_aload 0 74), (74, o_gIc 107 6 77), (77, o_iadd 78), (78, o_iload 3 79), (79, o_iastc 108 100 80), (80, o_aload 0 81), (81, o_gRc 107 108 84), (84, o_push (.int (44 : Int32)) 86), (86, o_aload 0 87), (87, o_gIc 107 6 90), (90, o_iadd 91), (91, o_push (.int (0 : Int32)) 92), (92, o_iastc 108 100 93), (93, o_aload 0 94), (94, o_gRc 107 108 97), (97, o_push (.int (60 : Int32)) 99), (99, o_aload 0 100), (100, o_gIc 107 6 103), (103, o_iadd 104), (104, o_push (.int (0 : Int32)) 105), (105, o_iastc 108 100 106), (106, o_aload 0 107), (107, o_aload 0 108), (108, o_gIc 107 6 111), (111, o_push (.int (1 : Int32)) 112), (112, o_iadd 113), (113, o_pIc 107 6 116), (116, o_aload 0 117), (117, o_push (.int (0 : Int32)) 118), (118, o_pIc 107 3 121), (121, o_aload 0 122), (122, o_gIc 107 6 125), (125, o_push (.int (1 : Int32)) 126), (126, o_isub 127), (127, o_iret)]
set_option maxRecDepth 200000 in
theorem iX12_thing {l : Launch} {w : nW} {G : nG} (hG : n_GOK G) : n_AllS l w 1 mX12_thing G (n_fin dv_i G) (aX12_thing) :=
  n_c (s_aload_n (pc := 0) (k := 0) (by decide +kernel)) <|
  n_c (s_iconst (pc := 1) (n := 0) (by decide +kernel) (by decide +kernel)) <|
  n_c (s_pIc (s_putI (pc := 2) (ci := 12) (k := 0) (idx := 146) nok12 (by decide) rfl rfl (by decide +kernel) w_1407) (gk107 hG)) <|
  n_c (s_aload_n (pc := 5) (k := 0) (by decide +kernel)) <|
  n_c (s_iload_n (pc := 6) (k := 1) (by decide +kernel)) <|
  n_c (s_iconst (pc := 7) (n := 1) (by decide +kernel) (by decide +kernel)) <|
  n_c (s_bipush (pc := 8) (n := 9) (by decide +kernel) (by decide +kernel)) <|
  n_c (s_callVc (s_callV (pc := 10) (csX12_isIn) (by decide) okX12_isIn nok12 w_1659 w_46 w_1657 (by decide +kernel)) (gk107 hG)) <|
  n_c (s_if_eq (pc := 13) (off := 32) (by decide +kernel) (by decide +kernel)) <|
  n_c (s_aload_n (pc := 16) (k := 0) (by decide +kernel)) <|
  n_c (s_iload_n (pc := 17) (k := 2) (by decide +kernel)) <|
  n_c (s_iconst (pc := 18) (n := 0) (by decide +kernel) (by decide +kernel)) <|
  n_c (s_sipush (pc := 19) (n := 999) (by decide +kernel) (by decide +kernel)) <|
  n_c (s_callVc (s_callV (pc := 22) (csX12_isIn) (by decide) okX12_isIn nok12 w_1659 w_46 w_1657 (by decide +kernel)) (gk107 hG)) <|
  n_c (s_if_eq (pc := 25) (off := 20) (by decide +kernel) (by decide +kernel)) <|
  n_c (s_aload_n (pc := 28) (k := 0) (by decide +kernel)) <|
  n_c (s_iload_n (pc := 29) (k := 3) (by decide +kernel)) <|
  n_c (s_callVc (s_callV (pc := 30) (csX12_isPlace) (by decide) okX12_isPlace nok12 w_1663 w_47 w_1661 (by decide +kernel)) (gk107 hG)) <|
  n_c (s_if_eq (pc := 33) (off := 12) (by decide +kernel) (by decide +kernel)) <|
  n_c (s_aload_n (pc := 36) (k := 0) (by decide +kernel)) <|
  n_c (s_gIc (s_getI (pc := 37) (ci := 12) (k := 6) (idx := 158) nok12 (by decide) rfl (by decide +kernel) w_1413) (gk107 hG)) <|
  n_c (s_bipush (pc := 40) (n := 16) (by decide +kernel) (by decide +kernel)) <|
  n_c (s_icmp_ne (pc := 42) (off := 5) (by decide +kernel) (by decide +kernel)) <|
  n_c (s_iconst (pc := 45) (n := -1) (by decide +kernel) (by decide +kernel)) <|
  n_c (s_iret (pc := 46) rfl (by decide +kernel)) <|
  n_c (s_aload_n (pc := 47) (k := 0) (by decide +kernel)) <|
  n_c (s_gRc (s_getR (pc := 48) (ci := 12) (k := 9) (idx := 22) nok12 (by decide) rfl (by decide +kernel) w_1416) (gk107 hG) (gm107_9 hG)) <|
  n_c (s_aload_n (pc := 51) (k := 0) (by decide +kernel)) <|
  n_c (s_gIc (s_getI (pc := 52) (ci := 12) (k := 6) (idx := 158) nok12 (by decide) rfl (by decide +kernel) w_1413) (gk107 hG)) <|
  n_c (s_iload_n (pc := 55) (k := 1) (by decide +kernel)) <|
  n_c (s_iastc (s_iastore (pc := 56) (by decide +kernel)) (gk112 hG) (gl112 hG)) <|
  n_c (s_aload_n (pc := 57) (k := 0) (by decide +kernel)) <|
  n_c (s_gRc (s_getR (pc := 58) (ci := 12) (k := 10) (idx := 25) nok12 (by decide) rfl (by decide +kernel) w_1417) (gk107 hG) (gm107_10 hG)) <|
  n_c (s_aload_n (pc := 61) (k := 0) (by decide +kernel)) <|
  n_c (s_gIc (s_getI (pc := 62) (ci := 12) (k := 6) (idx := 158) nok12 (by decide) rfl (by decide +kernel) w_1413) (gk107 hG)) <|
  n_c (s_iload_n (pc := 65) (k := 2) (by decide +kernel)) <|
  n_c (s_iastc (s_iastore (pc := 66) (by decide +kernel)) (gk113 hG) (gl113 hG)) <|
  n_c (s_aload_n (pc := 67) (k := 0) (by decide +kernel)) <|
  n_c (s_gRc (s_getR (pc := 68) (ci := 12) (k := 1) (idx := 7) nok12 (by decide) rfl (by decide +kernel) w_1408) (gk107 hG) (gm107_1 hG)) <|
  n_c (s_bipush (pc := 71) (n := 28) (by decide +kernel) (by decide +kernel)) <|
  n_c (s_aload_n (pc := 73) (k := 0) (by decide +kernel)) <|
  n_c (s_gIc (s_getI (pc := 74) (ci := 12) (k := 6) (idx := 158) nok12 (by decide) rfl (by decide +kernel) w_1413) (gk107 hG)) <|
  n_c (s_iadd (pc := 77) (by decide +kernel)) <|
  n_c (s_iload_n (pc := 78) (k := 3) (by decide +kernel)) <|
  n_c (s_iastc (s_iastore (pc := 79) (by decide +kernel)) (gk108 hG) (gl108 hG)) <|
  n_c (s_aload_n (pc := 80) (k := 0) (by decide +kernel)) <|
  n_c (s_gRc (s_getR (pc := 81) (ci := 12) (k := 1) (idx := 7) nok12 (by decide) rfl (by decide +kernel) w_1408) (gk107 hG) (gm107_1 hG)) <|
  n_c (s_bipush (pc := 84) (n := 44) (by decide +kernel) (by decide +kernel)) <|
  n_c (s_aload_n (pc := 86) (k := 0) (by decide +kernel)) <|
  n_c (s_gIc (s_getI (pc := 87) (ci := 12) (k := 6) (idx := 158) nok12 (by decide) rfl (by decide +kernel) w_1413) (gk107 hG)) <|
  n_c (s_iadd (pc := 90) (by decide +kernel)) <|
  n_c (s_iconst (pc := 91) (n := 0) (by decide +kernel) (by decide +kernel)) <|
  n_c (s_iastc (s_iastore (pc := 92) (by decide +kernel)) (gk108 hG) (gl108 hG)) <|
  n_c (s_aload_n (pc := 93) (k := 0) (by decide +kernel)) <|
  n_c (s_gRc (s_getR (pc := 94) (ci := 12) (k := 1) (idx := 7) nok12 (by decide) rfl (by decide +kernel) w_1408) (gk107 hG) (gm107_1 hG)) <|
  n_c (s_bipush (pc := 97) (n := 60) (by decide +kernel) (by decide +kernel)) <|
  n_c (s_aload_n (pc := 99) (k := 0) (by decide +kernel)) <|
  n_c (s_gIc (s_getI (pc := 100) (ci := 12) (k := 6) (idx := 158) nok12 (by decide) rfl (by decide +kernel) w_1413) (gk107 hG)) <|
  n_c (s_iadd (pc := 103) (by decide +kernel)) <|
  n_c (s_iconst (pc := 104) (n := 0) (by decide +kernel) (by decide +kernel)) <|
  n_c (s_iastc (s_iastore (pc := 105) (by decide +kernel)) (gk108 hG) (gl108 hG)) <|
  n_c (s_aload_n (pc := 106) (k := 0) (by decide +kernel)) <|
  n_c (s_aload_n (pc := 107) (k := 0) (by decide +kernel)) <|
  n_c (s_gIc (s_getI (pc := 108) (ci := 12) (k := 6) (idx := 158) nok12 (by decide) rfl (by decide +kernel) w_1413) (gk107 hG)) <|
  n_c (s_iconst (pc := 111) (n := 1) (by decide +kernel) (by decide +kernel)) <|
  n_c (s_iadd (pc := 112) (by decide +kernel)) <|
  n_c (s_pIc (s_putI (pc := 113) (ci := 12) (k := 6) (idx := 158) nok12 (by decide) rfl rfl (by decide +kernel) w_1413) (gk107 hG)) <|
  n_c (s_aload_n (pc := 116) (k := 0) (by decide +kernel)) <|
  n_c (s_iconst (pc := 117) (n := 0) (by decide +kernel) (by decide +kernel)) <|
  n_c (s_pIc (s_putI (pc := 118) (ci := 12) (k := 3) (idx := 149) nok12 (by decide) rfl rfl (by decide +kernel) w_1410) (gk107 hG)) <|
  n_c (s_aload_n (pc := 121) (k := 0) (by decide +kernel)) <|
  n_c (s_gIc (s_getI (pc := 122) (ci := 12) (k := 6) (idx := 158) nok12 (by decide) rfl (by decide +kernel) w_1413) (gk107 hG)) <|
  n_c (s_iconst (pc := 125) (n := 1) (by decide +kernel) (by decide +kernel)) <|
  n_c (s_isub (pc := 126) (by decide +kernel)) <|
  n_c (s_iret (pc := 127) rfl (by decide +kernel)) <|
  n_e
def fX12_thing (x1 : Int32) (x2 : Int32) (x3 : Int32) (M : nM) : Option (Int32 × nM) :=
  let M1 : nM := n_up M 107 0 (0 : Int32)
  (fX12_isIn x1 (1 : Int32) (9 : Int32) M1).bind fun p2 =>
  if p2.1 = 0 then
    some ((-1 : Int32), p2.2)
  else
    (fX12_isIn x2 (0 : Int32) (999 : Int32) p2.2).bind fun p3 =>
    if p3.1 = 0 then
      some ((-1 : Int32), p3.2)
    else
      (fX12_isPlace x3 p3.2).bind fun p4 =>
      if p4.1 = 0 then
        some ((-1 : Int32), p4.2)
      else
        if ¬ (p4.2 107 6) = (16 : Int32) then
          n_chk (n_ib 16 (p4.2 107 6)) <|
          let M5 : nM := n_up p4.2 112 (p4.2 107 6).toNatClampNeg x1
          n_chk (n_ib 16 (M5 107 6)) <|
          let M6 : nM := n_up M5 113 (M5 107 6).toNatClampNeg x2
          n_chk (n_ib 100 ((28 : Int32) + (M6 107 6))) <|
          let M7 : nM := n_up M6 108 ((28 : Int32) + (M6 107 6)).toNatClampNeg x3
          n_chk (n_ib 100 ((44 : Int32) + (M7 107 6))) <|
          let M8 : nM := n_up M7 108 ((44 : Int32) + (M7 107 6)).toNatClampNeg (0 : Int32)
          n_chk (n_ib 100 ((60 : Int32) + (M8 107 6))) <|
          let M9 : nM := n_up M8 108 ((60 : Int32) + (M8 107 6)).toNatClampNeg (0 : Int32)
          let M10 : nM := n_up M9 107 6 ((M9 107 6) + (1 : Int32))
          let M11 : nM := n_up M10 107 3 (0 : Int32)
          some (((M11 107 6) - (1 : Int32)), M11)
        else
          some ((-1 : Int32), p4.2)
set_option maxRecDepth 200000 in
theorem bX12_thing_0 {l : Launch} {w : nW} {G : nG} (hG : n_GOK G) (x1 : Int32) (x2 : Int32) (x3 : Int32) (M : nM) (r : Int32 × nM) (h : fX12_thing x1 x2 x3 M = some r) : n_At l w 1 mX12_thing 0 [(0, .ref 107), (1, .int x1), (2, .int x2), (3, .int x3)] [] (G, M) (dv_i r.1, (G, r.2)) :=
  n_seg (fin := n_fin dv_i G) (K := []) 84 (iX12_thing hG) n_ke (by rfl) h
theorem eX12_thing {l : Launch} {w : nW} {G : nG} (hG : n_GOK G) (z1 : Int32) (z2 : Int32) (z3 : Int32) (M : nM) (r : Int32 × nM) (h : fX12_thing z1 z2 z3 M = some r) : n_Met l w 1 mX12_thing [.ref 107, .int z1, .int z2, .int z3] (G, M) (dv_i r.1, (G, r.2)) :=
  n_entry (by decide +kernel) rfl (Nat.le_of_ble_eq_true rfl) (n_sub (lv := [(0, .ref 107), (1, .int z1), (2, .int z2), (3, .int z3)]) (n_qc rfl (n_qc rfl (n_qc rfl (n_qc rfl n_qe)))) (bX12_thing_0 hG z1 z2 z3 M r h))
abbrev hX12_thing : nF := fun T as M k => n_pC 107 as (fun as => n_pI as (fun z1 as => n_pI as (fun z2 as => n_pI as (fun z3 as => n_pE as ((fX12_thing z1 z2 z3 M).bind fun p => k (dv_i p.1) p.2)))))
theorem csX12_thing {l : Launch} {w : nW} {G : nG} (hG : n_GOK G) : n_CS l w 1 mX12_thing G (hX12_thing) := fun T as M k r h => by
  obtain ⟨t0, rfl, h1⟩ := n_pC_x h
  obtain ⟨z1, t1, rfl, h2⟩ := n_pI_x h1
  obtain ⟨z2, t2, rfl, h3⟩ := n_pI_x h2
  obtain ⟨z3, t3, rfl, h4⟩ := n_pI_x h3
  obtain ⟨rfl, hE⟩ := n_pE_x h4
  obtain ⟨p, hp, hk⟩ := Option.bind_eq_some_iff.mp hE
  exact ⟨_, _, eX12_thing hG z1 z2 z3 M p hp, hk⟩
/-! ===== SleightHouse$Stock.addPerson(II)I ===== -/
def mX8_addPerson : nY := (RX8, yX8_addPerson, cX8_addPerson, 3, some .int)
theorem okX8_addPerson : n_MOK mX8_addPerson 2 := ⟨w_634, w_139, ⟨by decide +kernel, by decide +kernel, by decide +kernel⟩, by decide⟩
abbrev aX8_addPerson : List (Nat × nO (Int32 × nM)) := [(0, o_aload 0 1), (1, o_gIc 3 6 4), (4, o_push (.int (12 : Int32)) 6), (6, oc_lt 11 9), (9, o_push (.int (-1 : Int32)) 10), (10, o_iret), (11, o_aload 0 12), (12, o_gRc 3 7 15), (15, o_aload 0 16), (16, o_gIc 3 6 19), (19, o_iload 1 20), (20, o_iastc 7 12 21), (21, o_aload 0 22), (22, o_gRc 3 8 25), (25, o_aload 0 26), (26, o_gIc 3 6 29), (29, o_iload 2 30), (30, o_iastc 8 12 31), (31, o_aload 0 32), (32, o_dup 33), (33, o_gIc 3 6 36), (36, o_push (.int (1 : Int32)) 37), (37, o_iadd 38), (38, o_pIc 3 6 41), (41, o_aload 0 42), (42, o_gIc 3 6 45), (45, o_push (.int (1 : Int32)) 46), (46, o_isub 47), (47, o_iret)]
set_option maxRecDepth 200000 in
theorem iX8_addPerson {l : Launch} {w : nW} {G : nG} (hG : n_GOK G) : n_AllS l w 0 mX8_addPerson G (n_fin dv_i G) (aX8_addPerson) :=
  n_c (s_aload_n (pc := 0) (k := 0) (by decide +kernel)) <|
  n_c (s_gIc (s_getI (pc := 1) (ci := 8) (k := 6) (idx := 31) nok8 (by decide) rfl (by decide +kernel) w_202) (gk3 hG)) <|
  n_c (s_bipush (pc := 4) (n := 12) (by decide +kernel) (by decide +kernel)) <|
  n_c (s_icmp_lt (pc := 6) (off := 5) (by decide +kernel) (by decide +kernel)) <|
  n_c (s_iconst (pc := 9) (n := -1) (by decide +kernel) (by decide +kernel)) <|
  n_c (s_iret (pc := 10) rfl (by decide +kernel)) <|
  n_c (s_aload_n (pc := 11) (k := 0) (by decide +kernel)) <|
  n_c (s_gRc (s_getR (pc := 12) (ci := 8) (k := 3) (idx := 21) nok8 (by decide) rfl (by decide +kernel) w_191) (gk3 hG) (gm3_3 hG)) <|
  n_c (s_aload_n (pc := 15) (k := 0) (by decide +kernel)) <|
  n_c (s_gIc (s_getI (pc := 16) (ci := 8) (k := 6) (idx := 31) nok8 (by decide) rfl (by decide +kernel) w_202) (gk3 hG)) <|
  n_c (s_iload_n (pc := 19) (k := 1) (by decide +kernel)) <|
  n_c (s_iastc (s_iastore (pc := 20) (by decide +kernel)) (gk7 hG) (gl7 hG)) <|
  n_c (s_aload_n (pc := 21) (k := 0) (by decide +kernel)) <|
  n_c (s_gRc (s_getR (pc := 22) (ci := 8) (k := 4) (idx := 24) nok8 (by decide) rfl (by decide +kernel) w_194) (gk3 hG) (gm3_4 hG)) <|
  n_c (s_aload_n (pc := 25) (k := 0) (by decide +kernel)) <|
  n_c (s_gIc (s_getI (pc := 26) (ci := 8) (k := 6) (idx := 31) nok8 (by decide) rfl (by decide +kernel) w_202) (gk3 hG)) <|
  n_c (s_iload_n (pc := 29) (k := 2) (by decide +kernel)) <|
  n_c (s_iastc (s_iastore (pc := 30) (by decide +kernel)) (gk8 hG) (gl8 hG)) <|
  n_c (s_aload_n (pc := 31) (k := 0) (by decide +kernel)) <|
  n_c (s_dup (pc := 32) (by decide +kernel)) <|
  n_c (s_gIc (s_getI (pc := 33) (ci := 8) (k := 6) (idx := 31) nok8 (by decide) rfl (by decide +kernel) w_202) (gk3 hG)) <|
  n_c (s_iconst (pc := 36) (n := 1) (by decide +kernel) (by decide +kernel)) <|
  n_c (s_iadd (pc := 37) (by decide +kernel)) <|
  n_c (s_pIc (s_putI (pc := 38) (ci := 8) (k := 6) (idx := 31) nok8 (by decide) rfl rfl (by decide +kernel) w_202) (gk3 hG)) <|
  n_c (s_aload_n (pc := 41) (k := 0) (by decide +kernel)) <|
  n_c (s_gIc (s_getI (pc := 42) (ci := 8) (k := 6) (idx := 31) nok8 (by decide) rfl (by decide +kernel) w_202) (gk3 hG)) <|
  n_c (s_iconst (pc := 45) (n := 1) (by decide +kernel) (by decide +kernel)) <|
  n_c (s_isub (pc := 46) (by decide +kernel)) <|
  n_c (s_iret (pc := 47) rfl (by decide +kernel)) <|
  n_e
def fX8_addPerson (x1 : Int32) (x2 : Int32) (M : nM) : Option (Int32 × nM) :=
  if (M 3 6) < (12 : Int32) then
    n_chk (n_ib 12 (M 3 6)) <|
    let M1 : nM := n_up M 7 (M 3 6).toNatClampNeg x1
    n_chk (n_ib 12 (M1 3 6)) <|
    let M2 : nM := n_up M1 8 (M1 3 6).toNatClampNeg x2
    let M3 : nM := n_up M2 3 6 ((M2 3 6) + (1 : Int32))
    some (((M3 3 6) - (1 : Int32)), M3)
  else
    some ((-1 : Int32), M)
set_option maxRecDepth 200000 in
theorem bX8_addPerson_0 {l : Launch} {w : nW} {G : nG} (hG : n_GOK G) (x1 : Int32) (x2 : Int32) (M : nM) (r : Int32 × nM) (h : fX8_addPerson x1 x2 M = some r) : n_At l w 0 mX8_addPerson 0 [(0, .ref 3), (1, .int x1), (2, .int x2)] [] (G, M) (dv_i r.1, (G, r.2)) :=
  n_seg (fin := n_fin dv_i G) (K := []) 32 (iX8_addPerson hG) n_ke (by rfl) h
theorem eX8_addPerson {l : Launch} {w : nW} {G : nG} (hG : n_GOK G) (z1 : Int32) (z2 : Int32) (M : nM) (r : Int32 × nM) (h : fX8_addPerson z1 z2 M = some r) : n_Met l w 0 mX8_addPerson [.ref 3, .int z1, .int z2] (G, M) (dv_i r.1, (G, r.2)) :=
  n_entry (by decide +kernel) rfl (Nat.le_of_ble_eq_true rfl) (n_sub (lv := [(0, .ref 3), (1, .int z1), (2, .int z2)]) (n_qc rfl (n_qc rfl (n_qc rfl n_qe))) (bX8_addPerson_0 hG z1 z2 M r h))
abbrev hX8_addPerson : nF := fun T as M k => n_pC 3 as (fun as => n_pI as (fun z1 as => n_pI as (fun z2 as => n_pE as ((fX8_addPerson z1 z2 M).bind fun p => k (dv_i p.1) p.2))))
theorem csX8_addPerson {l : Launch} {w : nW} {G : nG} (hG : n_GOK G) : n_CS l w 0 mX8_addPerson G (hX8_addPerson) := fun T as M k r h => by
  obtain ⟨t0, rfl, h1⟩ := n_pC_x h
  obtain ⟨z1, t1, rfl, h2⟩ := n_pI_x h1
  obtain ⟨z2, t2, rfl, h3⟩ := n_pI_x h2
  obtain ⟨rfl, hE⟩ := n_pE_x h3
  obtain ⟨p, hp, hk⟩ := Option.bind_eq_some_iff.mp hE
  exact ⟨_, _, eX8_addPerson hG z1 z2 M p hp, hk⟩
/-! ===== SleightHouse$Moving.startPerson(I)V ===== -/
def mX4_startPerson : nY := (RX4, yX4_startPerson, cX4_startPerson, 2, none)
theorem okX4_startPerson : n_MOK mX4_startPerson 1 := ⟨w_638, w_141, ⟨by decide +kernel, by decide +kernel, by decide +kernel⟩, by decide⟩
abbrev aX4_startPerson : List (Nat × nO (Unit × nM)) := [(0, o_iload 1 1), (1, oi_lt 30 4), (4, o_iload 1 5), (5, o_push (.int (12 : Int32)) 7), (7, oc_ge 30 10), (10, o_aload 0 11), (11, o_gRc 9 12 14), (14, o_iload 1 15), (15, o_push (.int (0 : Int32)) 16), (16, o_iastc 12 12 17), (17, o_aload 0 18), (18, o_aload 0 19), (19, o_gIc 9 6 22), (22, o_iload 1 23), (23, o_push (.int (0 : Int32)) 24), (24, o_call 3 (hX4_withBit) 27), (27, o_pIc 9 6 30), (30, o_vret)]
set_option maxRecDepth 200000 in
theorem iX4_startPerson {l : Launch} {w : nW} {G : nG} (hG : n_GOK G) : n_AllS l w 1 mX4_startPerson G (n_fin dv_v G) (aX4_startPerson) :=
  n_c (s_iload_n (pc := 0) (k := 1) (by decide +kernel)) <|
  n_c (s_if_lt (pc := 1) (off := 29) (by decide +kernel) (by decide +kernel)) <|
  n_c (s_iload_n (pc := 4) (k := 1) (by decide +kernel)) <|
  n_c (s_bipush (pc := 5) (n := 12) (by decide +kernel) (by decide +kernel)) <|
  n_c (s_icmp_ge (pc := 7) (off := 23) (by decide +kernel) (by decide +kernel)) <|
  n_c (s_aload_n (pc := 10) (k := 0) (by decide +kernel)) <|
  n_c (s_gRc (s_getR (pc := 11) (ci := 4) (k := 3) (idx := 18) nok4 (by decide) rfl (by decide +kernel) w_236) (gk9 hG) (gm9_3 hG)) <|
  n_c (s_iload_n (pc := 14) (k := 1) (by decide +kernel)) <|
  n_c (s_iconst (pc := 15) (n := 0) (by decide +kernel) (by decide +kernel)) <|
  n_c (s_iastc (s_iastore (pc := 16) (by decide +kernel)) (gk12 hG) (gl12 hG)) <|
  n_c (s_aload_n (pc := 17) (k := 0) (by decide +kernel)) <|
  n_c (s_aload_n (pc := 18) (k := 0) (by decide +kernel)) <|
  n_c (s_gIc (s_getI (pc := 19) (ci := 4) (k := 6) (idx := 28) nok4 (by decide) rfl (by decide +kernel) w_245) (gk9 hG)) <|
  n_c (s_iload_n (pc := 22) (k := 1) (by decide +kernel)) <|
  n_c (s_iconst (pc := 23) (n := 0) (by decide +kernel) (by decide +kernel)) <|
  n_c (s_callS (pc := 24) (csX4_withBit) (by decide) okX4_withBit w_625 w_624 (by decide +kernel)) <|
  n_c (s_pIc (s_putI (pc := 27) (ci := 4) (k := 6) (idx := 28) nok4 (by decide) rfl rfl (by decide +kernel) w_245) (gk9 hG)) <|
  n_c (s_vret (pc := 30) rfl (by decide +kernel)) <|
  n_e
def fX4_startPerson (x1 : Int32) (M : nM) : Option (Unit × nM) :=
  if x1 < 0 then
    some ((), M)
  else
    if (12 : Int32) ≤ x1 then
      some ((), M)
    else
      n_chk (n_ib 12 x1) <|
      let M1 : nM := n_up M 12 x1.toNatClampNeg (0 : Int32)
      (fX4_withBit (M1 9 6) x1 (0 : Int32) M1).bind fun p2 =>
      let M3 : nM := n_up p2.2 9 6 p2.1
      some ((), M3)
set_option maxRecDepth 200000 in
theorem bX4_startPerson_0 {l : Launch} {w : nW} {G : nG} (hG : n_GOK G) (x1 : Int32) (M : nM) (r : Unit × nM) (h : fX4_startPerson x1 M = some r) : n_At l w 1 mX4_startPerson 0 [(0, .ref 9), (1, .int x1)] [] (G, M) (dv_v r.1, (G, r.2)) :=
  n_seg (fin := n_fin dv_v G) (K := []) 23 (iX4_startPerson hG) n_ke (by rfl) h
theorem eX4_startPerson {l : Launch} {w : nW} {G : nG} (hG : n_GOK G) (z1 : Int32) (M : nM) (r : Unit × nM) (h : fX4_startPerson z1 M = some r) : n_Met l w 1 mX4_startPerson [.ref 9, .int z1] (G, M) (dv_v r.1, (G, r.2)) :=
  n_entry (by decide +kernel) rfl (Nat.le_of_ble_eq_true rfl) (n_sub (lv := [(0, .ref 9), (1, .int z1)]) (n_qc rfl (n_qc rfl n_qe)) (bX4_startPerson_0 hG z1 M r h))
abbrev hX4_startPerson : nF := fun T as M k => n_pC 9 as (fun as => n_pI as (fun z1 as => n_pE as ((fX4_startPerson z1 M).bind fun p => k (dv_v p.1) p.2)))
theorem csX4_startPerson {l : Launch} {w : nW} {G : nG} (hG : n_GOK G) : n_CS l w 1 mX4_startPerson G (hX4_startPerson) := fun T as M k r h => by
  obtain ⟨t0, rfl, h1⟩ := n_pC_x h
  obtain ⟨z1, t1, rfl, h2⟩ := n_pI_x h1
  obtain ⟨rfl, hE⟩ := n_pE_x h2
  obtain ⟨p, hp, hk⟩ := Option.bind_eq_some_iff.mp hE
  exact ⟨_, _, eX4_startPerson hG z1 M p hp, hk⟩
/-! ===== SleightHouse.person(II)I ===== -/
def mX11_person : nY := (RX11, yX11_person, cX11_person, 4, some .int)
theorem okX11_person : n_MOK mX11_person 2 := ⟨w_630, w_137, ⟨by decide +kernel, by decide +kernel, by decide +kernel⟩, by decide⟩
abbrev aX11_person : List (Nat × nO (Int32 × nM)) := [(0, o_iload 1 1), (1, o_push (.int (0 : Int32)) 2), (2, o_push (.int (9 : Int32)) 4), (4, o_call 3 (hX11_within) 7), (7, oi_eq 20 10), (10, o_iload 2 11), (11, o_push (.int (0 : Int32)) 12), (12, o_push (.int (9 : Int32)) 14), (14, o_call 3 (hX11_within) 17), (17, oi_ne 22 20), (20, o_push (.int (-1 : Int32)) 21), (21, o_iret), (22, o_aload 0 23), (23, o_gRc 1 2 26), (26, o_gRc 2 3 29), (29, o_iload 1 30), (30, o_iload 2 31), (31, o_callVc 3 2 (hX8_addPerson) 34), (34, o_istore 4 3 35), (35, o_iload 3 36), (36, o_push (.int (-1 : Int32)) 37), (37, oc_eq 58 40), (40, o_aload 0 41), (41, o_gRc 1 2 44), (44, o_gRc 2 9 47), (47, o_iload 3 48), (48, o_callVc 9 1 (hX4_startPerson) 51), (51, o_aload 0 52), (52, o_gRc 1 48 55), (55, o_callVc 48 0 (hX5_forget) 58), (58, o_iload 3 59), (59, o_iret)]
set_option maxRecDepth 200000 in
theorem iX11_person {l : Launch} {w : nW} {G : nG} (hG : n_GOK G) : n_AllS l w 2 mX11_person G (n_fin dv_i G) (aX11_person) :=
  n_c (s_iload_n (pc := 0) (k := 1) (by decide +kernel)) <|
  n_c (s_iconst (pc := 1) (n := 0) (by decide +kernel) (by decide +kernel)) <|
  n_c (s_bipush (pc := 2) (n := 9) (by decide +kernel) (by decide +kernel)) <|
  n_c (s_callS (pc := 4) (csX11_within) (by decide) okX11_within w_610 w_609 (by decide +kernel)) <|
  n_c (s_if_eq (pc := 7) (off := 13) (by decide +kernel) (by decide +kernel)) <|
  n_c (s_iload_n (pc := 10) (k := 2) (by decide +kernel)) <|
  n_c (s_iconst (pc := 11) (n := 0) (by decide +kernel) (by decide +kernel)) <|
  n_c (s_bipush (pc := 12) (n := 9) (by decide +kernel) (by decide +kernel)) <|
  n_c (s_callS (pc := 14) (csX11_within) (by decide) okX11_within w_610 w_609 (by decide +kernel)) <|
  n_c (s_if_ne (pc := 17) (off := 5) (by decide +kernel) (by decide +kernel)) <|
  n_c (s_iconst (pc := 20) (n := -1) (by decide +kernel) (by decide +kernel)) <|
  n_c (s_iret (pc := 21) rfl (by decide +kernel)) <|
  n_c (s_aload_n (pc := 22) (k := 0) (by decide +kernel)) <|
  n_c (s_gRc (s_getR (pc := 23) (ci := 11) (k := 0) (idx := 10) nok11 (by decide) rfl (by decide +kernel) w_572) (gk1 hG) (gm1_0 hG)) <|
  n_c (s_gRc (s_getR (pc := 26) (ci := 1) (k := 0) (idx := 34) nok1 (by decide) rfl (by decide +kernel) w_403) (gk2 hG) (gm2_0 hG)) <|
  n_c (s_iload_n (pc := 29) (k := 1) (by decide +kernel)) <|
  n_c (s_iload_n (pc := 30) (k := 2) (by decide +kernel)) <|
  n_c (s_callVc (s_callV (pc := 31) (csX8_addPerson hG) (by decide) okX8_addPerson nok8 w_632 w_633 w_631 (by decide +kernel)) (gk3 hG)) <|
  n_c (s_istore_n (pc := 34) (k := 3) (by decide +kernel)) <|
  n_c (s_iload_n (pc := 35) (k := 3) (by decide +kernel)) <|
  n_c (s_iconst (pc := 36) (n := -1) (by decide +kernel) (by decide +kernel)) <|
  n_c (s_icmp_eq (pc := 37) (off := 21) (by decide +kernel) (by decide +kernel)) <|
  n_c (s_aload_n (pc := 40) (k := 0) (by decide +kernel)) <|
  n_c (s_gRc (s_getR (pc := 41) (ci := 11) (k := 0) (idx := 10) nok11 (by decide) rfl (by decide +kernel) w_572) (gk1 hG) (gm1_0 hG)) <|
  n_c (s_gRc (s_getR (pc := 44) (ci := 1) (k := 1) (idx := 77) nok1 (by decide) rfl (by decide +kernel) w_406) (gk2 hG) (gm2_1 hG)) <|
  n_c (s_iload_n (pc := 47) (k := 3) (by decide +kernel)) <|
  n_c (s_callVc (s_callV (pc := 48) (csX4_startPerson hG) (by decide) okX4_startPerson nok4 w_636 w_637 w_635 (by decide +kernel)) (gk9 hG)) <|
  n_c (s_aload_n (pc := 51) (k := 0) (by decide +kernel)) <|
  n_c (s_gRc (s_getR (pc := 52) (ci := 11) (k := 2) (idx := 28) nok11 (by decide) rfl (by decide +kernel) w_574) (gk1 hG) (gm1_2 hG)) <|
  n_c (s_callVc (s_callV (pc := 55) (csX5_forget hG) (by decide) okX5_forget nok5 w_602 w_603 w_601 (by decide +kernel)) (gk48 hG)) <|
  n_c (s_iload_n (pc := 58) (k := 3) (by decide +kernel)) <|
  n_c (s_iret (pc := 59) rfl (by decide +kernel)) <|
  n_e
def fX11_person (x1 : Int32) (x2 : Int32) (M : nM) : Option (Int32 × nM) :=
  (fX11_within x1 (0 : Int32) (9 : Int32) M).bind fun p1 =>
  if p1.1 = 0 then
    some ((-1 : Int32), p1.2)
  else
    (fX11_within x2 (0 : Int32) (9 : Int32) p1.2).bind fun p2 =>
    if ¬ p2.1 = 0 then
      (fX8_addPerson x1 x2 p2.2).bind fun p3 =>
      if p3.1 = (-1 : Int32) then
        some (p3.1, p3.2)
      else
        (fX4_startPerson p3.1 p3.2).bind fun p4 =>
        (fX5_forget p4.2).bind fun p5 =>
        some (p3.1, p5.2)
    else
      some ((-1 : Int32), p2.2)
set_option maxRecDepth 200000 in
theorem bX11_person_0 {l : Launch} {w : nW} {G : nG} (hG : n_GOK G) (x1 : Int32) (x2 : Int32) (M : nM) (r : Int32 × nM) (h : fX11_person x1 x2 M = some r) : n_At l w 2 mX11_person 0 [(0, .ref 1), (1, .int x1), (2, .int x2)] [] (G, M) (dv_i r.1, (G, r.2)) :=
  n_seg (fin := n_fin dv_i G) (K := []) 39 (iX11_person hG) n_ke (by rfl) h
theorem eX11_person {l : Launch} {w : nW} {G : nG} (hG : n_GOK G) (z1 : Int32) (z2 : Int32) (M : nM) (r : Int32 × nM) (h : fX11_person z1 z2 M = some r) : n_Met l w 2 mX11_person [.ref 1, .int z1, .int z2] (G, M) (dv_i r.1, (G, r.2)) :=
  n_entry (by decide +kernel) rfl (Nat.le_of_ble_eq_true rfl) (n_sub (lv := [(0, .ref 1), (1, .int z1), (2, .int z2)]) (n_qc rfl (n_qc rfl (n_qc rfl n_qe))) (bX11_person_0 hG z1 z2 M r h))
abbrev hX11_person : nF := fun T as M k => n_pC 1 as (fun as => n_pI as (fun z1 as => n_pI as (fun z2 as => n_pE as ((fX11_person z1 z2 M).bind fun p => k (dv_i p.1) p.2))))
theorem csX11_person {l : Launch} {w : nW} {G : nG} (hG : n_GOK G) : n_CS l w 2 mX11_person G (hX11_person) := fun T as M k r h => by
  obtain ⟨t0, rfl, h1⟩ := n_pC_x h
  obtain ⟨z1, t1, rfl, h2⟩ := n_pI_x h1
  obtain ⟨z2, t2, rfl, h3⟩ := n_pI_x h2
  obtain ⟨rfl, hE⟩ := n_pE_x h3
  obtain ⟨p, hp, hk⟩ := Option.bind_eq_some_iff.mp hE
  exact ⟨_, _, eX11_person hG z1 z2 M p hp, hk⟩
/-! ===== SleightHouseModel.person(II)I ===== -/
def mX12_person : nY := (RX12, yX12_person, cX12_person, 3, some .int)
theorem okX12_person : n_MOK mX12_person 2 := ⟨w_1668, w_151, ⟨by decide +kernel, by decide +kernel, by decide +kernel⟩, by decide⟩
abbrev aX12_person : List (Nat × nO (Int32 × nM)) := [(0, o_aload 0 1), (1, o_push (.int (0 : Int32)) 2), (2, o_pIc 107 0 5), (5, o_aload 0 6), (6, o_iload 1 7), (7, o_push (.int (0 : Int32)) 8), (8, o_push (.int (9 : Int32)) 10), (10, o_callVc 107 3 (hX12_isIn) 13), (13, oi_eq 36 16), (16, o_aload 0 17), (17, o_iload 2 18), (18, o_push (.int (0 : Int32)) 19), (19, o_push (.int (9 : Int32)) 21), (21, o_callVc 107 3 (hX12_isIn) 24), (24, oi_eq 36 27), (27, o_aload 0 28), (28, o_gIc 107 7 31), (31, o_push (.int (12 : Int32)) 33), (33, oc_ne 38 36), (36, o_push (.int (-1 : Int32)) 37), (37, o_iret), (38, o_aload 0 39), (39, o_gRc 107 114 42), (42, o_aload 0 43), (43, o_gIc 107 7 46), (46, o_iload 1 47), (47, o_iastc 114 12 48), (48, o_aload 0 49), (49, o_gRc 107 115 52), (52, o_aload 0 53), (53, o_gIc 107 7 56), (56, o_iload 2 57), (57, o_iastc 115 12 58), (58, o_aload 0 59), (59, o_gRc 107 108 62), (62, o_push (.int (76 : Int32)) 64), (64, o_aload 0 65), (65, o_gIc 107 7 68), (68, o_iadd 69), (69, o_push (.int (0 : Int32)) 70), (70, o_iastc 108 100 71), (71, o_aload 0 72), (72, o_gRc 107 108 75), (75, o_push (.int (88 : Int32)) 77), (77, o_aload 0 78), (78, o_gIc 107 7 81), (81, o_iadd 82), (82, o_push (.int (0 : Int32)) 83), (83, o_iastc 108 100 84), (84, o_aload 0 85), (85, o_aload 0 86), (86, o_gIc 107 7 89), (89, o_push (.int (1 : Int32)) 90), (90, o_iadd 91), (91, o_pIc 107 7 94), (94, o_aload 0 95), (95, o_push (.int (0 : Int32)) 96), (96, o_pIc 107 3 99), (99, o_aload 0 100), (100, o_gIc 107 7 103), (103, o_push (.int (1 : Int32)) 104), (104, o_isub 105), (105, o_iret)]
set_option maxRecDepth 200000 in
theorem iX12_person {l : Launch} {w : nW} {G : nG} (hG : n_GOK G) : n_AllS l w 1 mX12_person G (n_fin dv_i G) (aX12_person) :=
  n_c (s_aload_n (pc := 0) (k := 0) (by decide +kernel)) <|
  n_c (s_iconst (pc := 1) (n := 0) (by decide +kernel) (by decide +kernel)) <|
  n_c (s_pIc (s_putI (pc := 2) (ci := 12) (k := 0) (idx := 146) nok12 (by decide) rfl rfl (by decide +kernel) w_1407) (gk107 hG)) <|
  n_c (s_aload_n (pc := 5) (k := 0) (by decide +kernel)) <|
  n_c (s_iload_n (pc := 6) (k := 1) (by decide +kernel)) <|
  n_c (s_iconst (pc := 7) (n := 0) (by decide +kernel) (by decide +kernel)) <|
  n_c (s_bipush (pc := 8) (n := 9) (by decide +kernel) (by decide +kernel)) <|
  n_c (s_callVc (s_callV (pc := 10) (csX12_isIn) (by decide) okX12_isIn nok12 w_1659 w_46 w_1657 (by decide +kernel)) (gk107 hG)) <|
  n_c (s_if_eq (pc := 13) (off := 23) (by decide +kernel) (by decide +kernel)) <|
  n_c (s_aload_n (pc := 16) (k := 0) (by decide +kernel)) <|
  n_c (s_iload_n (pc := 17) (k := 2) (by decide +kernel)) <|
  n_c (s_iconst (pc := 18) (n := 0) (by decide +kernel) (by decide +kernel)) <|
  n_c (s_bipush (pc := 19) (n := 9) (by decide +kernel) (by decide +kernel)) <|
  n_c (s_callVc (s_callV (pc := 21) (csX12_isIn) (by decide) okX12_isIn nok12 w_1659 w_46 w_1657 (by decide +kernel)) (gk107 hG)) <|
  n_c (s_if_eq (pc := 24) (off := 12) (by decide +kernel) (by decide +kernel)) <|
  n_c (s_aload_n (pc := 27) (k := 0) (by decide +kernel)) <|
  n_c (s_gIc (s_getI (pc := 28) (ci := 12) (k := 7) (idx := 161) nok12 (by decide) rfl (by decide +kernel) w_1414) (gk107 hG)) <|
  n_c (s_bipush (pc := 31) (n := 12) (by decide +kernel) (by decide +kernel)) <|
  n_c (s_icmp_ne (pc := 33) (off := 5) (by decide +kernel) (by decide +kernel)) <|
  n_c (s_iconst (pc := 36) (n := -1) (by decide +kernel) (by decide +kernel)) <|
  n_c (s_iret (pc := 37) rfl (by decide +kernel)) <|
  n_c (s_aload_n (pc := 38) (k := 0) (by decide +kernel)) <|
  n_c (s_gRc (s_getR (pc := 39) (ci := 12) (k := 11) (idx := 28) nok12 (by decide) rfl (by decide +kernel) w_1418) (gk107 hG) (gm107_11 hG)) <|
  n_c (s_aload_n (pc := 42) (k := 0) (by decide +kernel)) <|
  n_c (s_gIc (s_getI (pc := 43) (ci := 12) (k := 7) (idx := 161) nok12 (by decide) rfl (by decide +kernel) w_1414) (gk107 hG)) <|
  n_c (s_iload_n (pc := 46) (k := 1) (by decide +kernel)) <|
  n_c (s_iastc (s_iastore (pc := 47) (by decide +kernel)) (gk114 hG) (gl114 hG)) <|
  n_c (s_aload_n (pc := 48) (k := 0) (by decide +kernel)) <|
  n_c (s_gRc (s_getR (pc := 49) (ci := 12) (k := 12) (idx := 31) nok12 (by decide) rfl (by decide +kernel) w_1419) (gk107 hG) (gm107_12 hG)) <|
  n_c (s_aload_n (pc := 52) (k := 0) (by decide +kernel)) <|
  n_c (s_gIc (s_getI (pc := 53) (ci := 12) (k := 7) (idx := 161) nok12 (by decide) rfl (by decide +kernel) w_1414) (gk107 hG)) <|
  n_c (s_iload_n (pc := 56) (k := 2) (by decide +kernel)) <|
  n_c (s_iastc (s_iastore (pc := 57) (by decide +kernel)) (gk115 hG) (gl115 hG)) <|
  n_c (s_aload_n (pc := 58) (k := 0) (by decide +kernel)) <|
  n_c (s_gRc (s_getR (pc := 59) (ci := 12) (k := 1) (idx := 7) nok12 (by decide) rfl (by decide +kernel) w_1408) (gk107 hG) (gm107_1 hG)) <|
  n_c (s_bipush (pc := 62) (n := 76) (by decide +kernel) (by decide +kernel)) <|
  n_c (s_aload_n (pc := 64) (k := 0) (by decide +kernel)) <|
  n_c (s_gIc (s_getI (pc := 65) (ci := 12) (k := 7) (idx := 161) nok12 (by decide) rfl (by decide +kernel) w_1414) (gk107 hG)) <|
  n_c (s_iadd (pc := 68) (by decide +kernel)) <|
  n_c (s_iconst (pc := 69) (n := 0) (by decide +kernel) (by decide +kernel)) <|
  n_c (s_iastc (s_iastore (pc := 70) (by decide +kernel)) (gk108 hG) (gl108 hG)) <|
  n_c (s_aload_n (pc := 71) (k := 0) (by decide +kernel)) <|
  n_c (s_gRc (s_getR (pc := 72) (ci := 12) (k := 1) (idx := 7) nok12 (by decide) rfl (by decide +kernel) w_1408) (gk107 hG) (gm107_1 hG)) <|
  n_c (s_bipush (pc := 75) (n := 88) (by decide +kernel) (by decide +kernel)) <|
  n_c (s_aload_n (pc := 77) (k := 0) (by decide +kernel)) <|
  n_c (s_gIc (s_getI (pc := 78) (ci := 12) (k := 7) (idx := 161) nok12 (by decide) rfl (by decide +kernel) w_1414) (gk107 hG)) <|
  n_c (s_iadd (pc := 81) (by decide +kernel)) <|
  n_c (s_iconst (pc := 82) (n := 0) (by decide +kernel) (by decide +kernel)) <|
  n_c (s_iastc (s_iastore (pc := 83) (by decide +kernel)) (gk108 hG) (gl108 hG)) <|
  n_c (s_aload_n (pc := 84) (k := 0) (by decide +kernel)) <|
  n_c (s_aload_n (pc := 85) (k := 0) (by decide +kernel)) <|
  n_c (s_gIc (s_getI (pc := 86) (ci := 12) (k := 7) (idx := 161) nok12 (by decide) rfl (by decide +kernel) w_1414) (gk107 hG)) <|
  n_c (s_iconst (pc := 89) (n := 1) (by decide +kernel) (by decide +kernel)) <|
  n_c (s_iadd (pc := 90) (by decide +kernel)) <|
  n_c (s_pIc (s_putI (pc := 91) (ci := 12) (k := 7) (idx := 161) nok12 (by decide) rfl rfl (by decide +kernel) w_1414) (gk107 hG)) <|
  n_c (s_aload_n (pc := 94) (k := 0) (by decide +kernel)) <|
  n_c (s_iconst (pc := 95) (n := 0) (by decide +kernel) (by decide +kernel)) <|
  n_c (s_pIc (s_putI (pc := 96) (ci := 12) (k := 3) (idx := 149) nok12 (by decide) rfl rfl (by decide +kernel) w_1410) (gk107 hG)) <|
  n_c (s_aload_n (pc := 99) (k := 0) (by decide +kernel)) <|
  n_c (s_gIc (s_getI (pc := 100) (ci := 12) (k := 7) (idx := 161) nok12 (by decide) rfl (by decide +kernel) w_1414) (gk107 hG)) <|
  n_c (s_iconst (pc := 103) (n := 1) (by decide +kernel) (by decide +kernel)) <|
  n_c (s_isub (pc := 104) (by decide +kernel)) <|
  n_c (s_iret (pc := 105) rfl (by decide +kernel)) <|
  n_e
def fX12_person (x1 : Int32) (x2 : Int32) (M : nM) : Option (Int32 × nM) :=
  let M1 : nM := n_up M 107 0 (0 : Int32)
  (fX12_isIn x1 (0 : Int32) (9 : Int32) M1).bind fun p2 =>
  if p2.1 = 0 then
    some ((-1 : Int32), p2.2)
  else
    (fX12_isIn x2 (0 : Int32) (9 : Int32) p2.2).bind fun p3 =>
    if p3.1 = 0 then
      some ((-1 : Int32), p3.2)
    else
      if ¬ (p3.2 107 7) = (12 : Int32) then
        n_chk (n_ib 12 (p3.2 107 7)) <|
        let M4 : nM := n_up p3.2 114 (p3.2 107 7).toNatClampNeg x1
        n_chk (n_ib 12 (M4 107 7)) <|
        let M5 : nM := n_up M4 115 (M4 107 7).toNatClampNeg x2
        n_chk (n_ib 100 ((76 : Int32) + (M5 107 7))) <|
        let M6 : nM := n_up M5 108 ((76 : Int32) + (M5 107 7)).toNatClampNeg (0 : Int32)
        n_chk (n_ib 100 ((88 : Int32) + (M6 107 7))) <|
        let M7 : nM := n_up M6 108 ((88 : Int32) + (M6 107 7)).toNatClampNeg (0 : Int32)
        let M8 : nM := n_up M7 107 7 ((M7 107 7) + (1 : Int32))
        let M9 : nM := n_up M8 107 3 (0 : Int32)
        some (((M9 107 7) - (1 : Int32)), M9)
      else
        some ((-1 : Int32), p3.2)
set_option maxRecDepth 200000 in
theorem bX12_person_0 {l : Launch} {w : nW} {G : nG} (hG : n_GOK G) (x1 : Int32) (x2 : Int32) (M : nM) (r : Int32 × nM) (h : fX12_person x1 x2 M = some r) : n_At l w 1 mX12_person 0 [(0, .ref 107), (1, .int x1), (2, .int x2)] [] (G, M) (dv_i r.1, (G, r.2)) :=
  n_seg (fin := n_fin dv_i G) (K := []) 70 (iX12_person hG) n_ke (by rfl) h
theorem eX12_person {l : Launch} {w : nW} {G : nG} (hG : n_GOK G) (z1 : Int32) (z2 : Int32) (M : nM) (r : Int32 × nM) (h : fX12_person z1 z2 M = some r) : n_Met l w 1 mX12_person [.ref 107, .int z1, .int z2] (G, M) (dv_i r.1, (G, r.2)) :=
  n_entry (by decide +kernel) rfl (Nat.le_of_ble_eq_true rfl) (n_sub (lv := [(0, .ref 107), (1, .int z1), (2, .int z2)]) (n_qc rfl (n_qc rfl (n_qc rfl n_qe))) (bX12_person_0 hG z1 z2 M r h))
abbrev hX12_person : nF := fun T as M k => n_pC 107 as (fun as => n_pI as (fun z1 as => n_pI as (fun z2 as => n_pE as ((fX12_person z1 z2 M).bind fun p => k (dv_i p.1) p.2))))
theorem csX12_person {l : Launch} {w : nW} {G : nG} (hG : n_GOK G) : n_CS l w 1 mX12_person G (hX12_person) := fun T as M k r h => by
  obtain ⟨t0, rfl, h1⟩ := n_pC_x h
  obtain ⟨z1, t1, rfl, h2⟩ := n_pI_x h1
  obtain ⟨z2, t2, rfl, h3⟩ := n_pI_x h2
  obtain ⟨rfl, hE⟩ := n_pE_x h3
  obtain ⟨p, hp, hk⟩ := Option.bind_eq_some_iff.mp hE
  exact ⟨_, _, eX12_person hG z1 z2 M p hp, hk⟩
/-! ===== SleightHouse.changeCell([IIIII)Z ===== -/
def mX11_changeCell : nY := (RX11, yX11_changeCell, cX11_changeCell, 5, some .boolean)
theorem okX11_changeCell : n_MOK mX11_changeCell 5 := ⟨w_649, w_137, ⟨by decide +kernel, by decide +kernel, by decide +kernel⟩, by decide⟩
abbrev aX11_changeCell (G : nG) : List (Nat × nO (Int32 × nM)) := [(0, o_iload 1 1), (1, oi_lt 20 4), (4, o_iload 1 5), (5, o_aload 0 6), (6, o_alen G 14 7), (7, oc_ge 20 10), (10, o_iload 2 11), (11, o_iload 3 12), (12, o_iload 4 14), (14, o_call 3 (hX11_within) 17), (17, oi_ne 22 20), (20, o_push (.int (0 : Int32)) 21), (21, o_zret), (22, o_aload 0 23), (23, o_iload 1 24), (24, o_iload 2 25), (25, o_iastore G 26), (26, o_push (.int (1 : Int32)) 27), (27, o_zret)]
set_option maxRecDepth 200000 in
theorem iX11_changeCell {l : Launch} {w : nW} {G : nG} : n_AllS l w 1 mX11_changeCell G (n_fin dv_i G) (aX11_changeCell G) :=
  n_c (s_iload_n (pc := 0) (k := 1) (by decide +kernel)) <|
  n_c (s_if_lt (pc := 1) (off := 19) (by decide +kernel) (by decide +kernel)) <|
  n_c (s_iload_n (pc := 4) (k := 1) (by decide +kernel)) <|
  n_c (s_aload_n (pc := 5) (k := 0) (by decide +kernel)) <|
  n_c (s_alenI (pc := 6) (by decide +kernel)) <|
  n_c (s_icmp_ge (pc := 7) (off := 13) (by decide +kernel) (by decide +kernel)) <|
  n_c (s_iload_n (pc := 10) (k := 2) (by decide +kernel)) <|
  n_c (s_iload_n (pc := 11) (k := 3) (by decide +kernel)) <|
  n_c (s_iload (pc := 12) (by decide +kernel)) <|
  n_c (s_callS (pc := 14) (csX11_within) (by decide) okX11_within w_610 w_609 (by decide +kernel)) <|
  n_c (s_if_ne (pc := 17) (off := 5) (by decide +kernel) (by decide +kernel)) <|
  n_c (s_iconst (pc := 20) (n := 0) (by decide +kernel) (by decide +kernel)) <|
  n_c (s_zret (pc := 21) rfl (by decide +kernel)) <|
  n_c (s_aload_n (pc := 22) (k := 0) (by decide +kernel)) <|
  n_c (s_iload_n (pc := 23) (k := 1) (by decide +kernel)) <|
  n_c (s_iload_n (pc := 24) (k := 2) (by decide +kernel)) <|
  n_c (s_iastore (pc := 25) (by decide +kernel)) <|
  n_c (s_iconst (pc := 26) (n := 1) (by decide +kernel) (by decide +kernel)) <|
  n_c (s_zret (pc := 27) rfl (by decide +kernel)) <|
  n_e
def fX11_changeCell (G : nG) (x0 : Nat) (x1 : Int32) (x2 : Int32) (x3 : Int32) (x4 : Int32) (M : nM) : Option (Int32 × nM) :=
  if x1 < 0 then
    some ((0 : Int32), M)
  else
    n_chk (Nat.beq (n_kd G x0) 14) <|
    if (Int32.ofNat (n_len G x0)) ≤ x1 then
      some ((0 : Int32), M)
    else
      (fX11_within x2 x3 x4 M).bind fun p1 =>
      if ¬ p1.1 = 0 then
        n_chk (n_in G 14 x0 x1) <|
        let M2 : nM := n_up p1.2 x0 x1.toNatClampNeg x2
        some ((1 : Int32), M2)
      else
        some ((0 : Int32), p1.2)
set_option maxRecDepth 200000 in
theorem bX11_changeCell_0 {l : Launch} {w : nW} {G : nG} (x0 : Nat) (x1 : Int32) (x2 : Int32) (x3 : Int32) (x4 : Int32) (M : nM) (r : Int32 × nM) (h : fX11_changeCell G x0 x1 x2 x3 x4 M = some r) : n_At l w 1 mX11_changeCell 0 [(0, .ref x0), (1, .int x1), (2, .int x2), (3, .int x3), (4, .int x4)] [] (G, M) (dv_i r.1, (G, r.2)) :=
  n_seg (fin := n_fin dv_i G) (K := []) 26 (iX11_changeCell) n_ke (by rfl) h
theorem eX11_changeCell {l : Launch} {w : nW} {G : nG} (z0 : Nat) (z1 : Int32) (z2 : Int32) (z3 : Int32) (z4 : Int32) (M : nM) (r : Int32 × nM) (h : fX11_changeCell G z0 z1 z2 z3 z4 M = some r) : n_Met l w 1 mX11_changeCell [.ref z0, .int z1, .int z2, .int z3, .int z4] (G, M) (dv_i r.1, (G, r.2)) :=
  n_entry (by decide +kernel) rfl (Nat.le_of_ble_eq_true rfl) (n_sub (lv := [(0, .ref z0), (1, .int z1), (2, .int z2), (3, .int z3), (4, .int z4)]) (n_qc rfl (n_qc rfl (n_qc rfl (n_qc rfl (n_qc rfl n_qe))))) (bX11_changeCell_0 z0 z1 z2 z3 z4 M r h))
abbrev hX11_changeCell (G : nG) : nF := fun T as M k => n_pR as (fun z0 as => n_pI as (fun z1 as => n_pI as (fun z2 as => n_pI as (fun z3 as => n_pI as (fun z4 as => n_pE as ((fX11_changeCell G z0 z1 z2 z3 z4 M).bind fun p => k (dv_i p.1) p.2))))))
theorem csX11_changeCell {l : Launch} {w : nW} {G : nG} : n_CS l w 1 mX11_changeCell G (hX11_changeCell G) := fun T as M k r h => by
  obtain ⟨z0, t0, rfl, h1⟩ := n_pR_x h
  obtain ⟨z1, t1, rfl, h2⟩ := n_pI_x h1
  obtain ⟨z2, t2, rfl, h3⟩ := n_pI_x h2
  obtain ⟨z3, t3, rfl, h4⟩ := n_pI_x h3
  obtain ⟨z4, t4, rfl, h5⟩ := n_pI_x h4
  obtain ⟨rfl, hE⟩ := n_pE_x h5
  obtain ⟨p, hp, hk⟩ := Option.bind_eq_some_iff.mp hE
  exact ⟨_, _, eX11_changeCell z0 z1 z2 z3 z4 M p hp, hk⟩
/-! ===== SleightHouse$House.hasThing(I)Z ===== -/
def mX1_hasThing : nY := (RX1, yX1_hasThing, cX1_hasThing, 2, some .boolean)
theorem okX1_hasThing : n_MOK mX1_hasThing 1 := ⟨w_653, w_138, ⟨by decide +kernel, by decide +kernel, by decide +kernel⟩, by decide⟩
abbrev aX1_hasThing : List (Nat × nO (Int32 × nM)) := [(0, o_iload 1 1), (1, oi_lt 19 4), (4, o_iload 1 5), (5, o_aload 0 6), (6, o_gRc 2 3 9), (9, o_gIc 3 5 12), (12, oc_ge 19 15), (15, o_push (.int (1 : Int32)) 16), (16, o_goto 20), (19, o_push (.int (0 : Int32)) 20), (20, o_zret)]
set_option maxRecDepth 200000 in
theorem iX1_hasThing {l : Launch} {w : nW} {G : nG} (hG : n_GOK G) : n_AllS l w 0 mX1_hasThing G (n_fin dv_i G) (aX1_hasThing) :=
  n_c (s_iload_n (pc := 0) (k := 1) (by decide +kernel)) <|
  n_c (s_if_lt (pc := 1) (off := 18) (by decide +kernel) (by decide +kernel)) <|
  n_c (s_iload_n (pc := 4) (k := 1) (by decide +kernel)) <|
  n_c (s_aload_n (pc := 5) (k := 0) (by decide +kernel)) <|
  n_c (s_gRc (s_getR (pc := 6) (ci := 1) (k := 0) (idx := 12) nok1 (by decide) rfl (by decide +kernel) w_402) (gk2 hG) (gm2_0 hG)) <|
  n_c (s_gIc (s_getI (pc := 9) (ci := 8) (k := 5) (idx := 59) nok8 (by decide) rfl (by decide +kernel) w_199) (gk3 hG)) <|
  n_c (s_icmp_ge (pc := 12) (off := 7) (by decide +kernel) (by decide +kernel)) <|
  n_c (s_iconst (pc := 15) (n := 1) (by decide +kernel) (by decide +kernel)) <|
  n_c (s_goto (pc := 16) (off := 4) (by decide +kernel) (by decide +kernel)) <|
  n_c (s_iconst (pc := 19) (n := 0) (by decide +kernel) (by decide +kernel)) <|
  n_c (s_zret (pc := 20) rfl (by decide +kernel)) <|
  n_e
def fX1_hasThing (x1 : Int32) (M : nM) : Option (Int32 × nM) :=
  if x1 < 0 then
    some ((0 : Int32), M)
  else
    if (M 3 5) ≤ x1 then
      some ((0 : Int32), M)
    else
      some ((1 : Int32), M)
set_option maxRecDepth 200000 in
theorem bX1_hasThing_0 {l : Launch} {w : nW} {G : nG} (hG : n_GOK G) (x1 : Int32) (M : nM) (r : Int32 × nM) (h : fX1_hasThing x1 M = some r) : n_At l w 0 mX1_hasThing 0 [(0, .ref 2), (1, .int x1)] [] (G, M) (dv_i r.1, (G, r.2)) :=
  n_seg (fin := n_fin dv_i G) (K := []) 17 (iX1_hasThing hG) n_ke (by rfl) h
theorem eX1_hasThing {l : Launch} {w : nW} {G : nG} (hG : n_GOK G) (z1 : Int32) (M : nM) (r : Int32 × nM) (h : fX1_hasThing z1 M = some r) : n_Met l w 0 mX1_hasThing [.ref 2, .int z1] (G, M) (dv_i r.1, (G, r.2)) :=
  n_entry (by decide +kernel) rfl (Nat.le_of_ble_eq_true rfl) (n_sub (lv := [(0, .ref 2), (1, .int z1)]) (n_qc rfl (n_qc rfl n_qe)) (bX1_hasThing_0 hG z1 M r h))
abbrev hX1_hasThing : nF := fun T as M k => n_pC 2 as (fun as => n_pI as (fun z1 as => n_pE as ((fX1_hasThing z1 M).bind fun p => k (dv_i p.1) p.2)))
theorem csX1_hasThing {l : Launch} {w : nW} {G : nG} (hG : n_GOK G) : n_CS l w 0 mX1_hasThing G (hX1_hasThing) := fun T as M k r h => by
  obtain ⟨t0, rfl, h1⟩ := n_pC_x h
  obtain ⟨z1, t1, rfl, h2⟩ := n_pI_x h1
  obtain ⟨rfl, hE⟩ := n_pE_x h2
  obtain ⟨p, hp, hk⟩ := Option.bind_eq_some_iff.mp hE
  exact ⟨_, _, eX1_hasThing hG z1 M p hp, hk⟩
/-! ===== SleightHouse.changeLost(II)Z ===== -/
def mX11_changeLost : nY := (RX11, yX11_changeLost, cX11_changeLost, 3, some .boolean)
theorem okX11_changeLost : n_MOK mX11_changeLost 2 := ⟨w_657, w_137, ⟨by decide +kernel, by decide +kernel, by decide +kernel⟩, by decide⟩
abbrev aX11_changeLost : List (Nat × nO (Int32 × nM)) := [(0, o_iload 2 1), (1, o_push (.int (0 : Int32)) 2), (2, o_push (.int (1 : Int32)) 3), (3, o_call 3 (hX11_within) 6), (6, oi_ne 11 9), (9, o_push (.int (0 : Int32)) 10), (10, o_zret), (11, o_aload 0 12), (12, o_gRc 1 2 15), (15, o_gRc 2 9 18), (18, o_aload 0 19), (19, o_gRc 1 2 22), (22, o_gRc 2 9 25), (25, o_gIc 9 5 28), (28, o_iload 1 29), (29, o_iload 2 30), (30, o_push (.int (1 : Int32)) 31), (31, oc_ne 38 34), (34, o_push (.int (1 : Int32)) 35), (35, o_goto 39), (38, o_push (.int (0 : Int32)) 39), (39, o_call 3 (hX4_withBit) 42), (42, o_pIc 9 5 45), (45, o_push (.int (1 : Int32)) 46), (46, o_zret)]
set_option maxRecDepth 200000 in
theorem iX11_changeLost {l : Launch} {w : nW} {G : nG} (hG : n_GOK G) : n_AllS l w 1 mX11_changeLost G (n_fin dv_i G) (aX11_changeLost) :=
  n_c (s_iload_n (pc := 0) (k := 2) (by decide +kernel)) <|
  n_c (s_iconst (pc := 1) (n := 0) (by decide +kernel) (by decide +kernel)) <|
  n_c (s_iconst (pc := 2) (n := 1) (by decide +kernel) (by decide +kernel)) <|
  n_c (s_callS (pc := 3) (csX11_within) (by decide) okX11_within w_610 w_609 (by decide +kernel)) <|
  n_c (s_if_ne (pc := 6) (off := 5) (by decide +kernel) (by decide +kernel)) <|
  n_c (s_iconst (pc := 9) (n := 0) (by decide +kernel) (by decide +kernel)) <|
  n_c (s_zret (pc := 10) rfl (by decide +kernel)) <|
  n_c (s_aload_n (pc := 11) (k := 0) (by decide +kernel)) <|
  n_c (s_gRc (s_getR (pc := 12) (ci := 11) (k := 0) (idx := 10) nok11 (by decide) rfl (by decide +kernel) w_572) (gk1 hG) (gm1_0 hG)) <|
  n_c (s_gRc (s_getR (pc := 15) (ci := 1) (k := 1) (idx := 77) nok1 (by decide) rfl (by decide +kernel) w_406) (gk2 hG) (gm2_1 hG)) <|
  n_c (s_aload_n (pc := 18) (k := 0) (by decide +kernel)) <|
  n_c (s_gRc (s_getR (pc := 19) (ci := 11) (k := 0) (idx := 10) nok11 (by decide) rfl (by decide +kernel) w_572) (gk1 hG) (gm1_0 hG)) <|
  n_c (s_gRc (s_getR (pc := 22) (ci := 1) (k := 1) (idx := 77) nok1 (by decide) rfl (by decide +kernel) w_406) (gk2 hG) (gm2_1 hG)) <|
  n_c (s_gIc (s_getI (pc := 25) (ci := 4) (k := 5) (idx := 145) nok4 (by decide) rfl (by decide +kernel) w_244) (gk9 hG)) <|
  n_c (s_iload_n (pc := 28) (k := 1) (by decide +kernel)) <|
  n_c (s_iload_n (pc := 29) (k := 2) (by decide +kernel)) <|
  n_c (s_iconst (pc := 30) (n := 1) (by decide +kernel) (by decide +kernel)) <|
  n_c (s_icmp_ne (pc := 31) (off := 7) (by decide +kernel) (by decide +kernel)) <|
  n_c (s_iconst (pc := 34) (n := 1) (by decide +kernel) (by decide +kernel)) <|
  n_c (s_goto (pc := 35) (off := 4) (by decide +kernel) (by decide +kernel)) <|
  n_c (s_iconst (pc := 38) (n := 0) (by decide +kernel) (by decide +kernel)) <|
  n_c (s_callS (pc := 39) (csX4_withBit) (by decide) okX4_withBit w_625 w_658 (by decide +kernel)) <|
  n_c (s_pIc (s_putI (pc := 42) (ci := 4) (k := 5) (idx := 145) nok4 (by decide) rfl rfl (by decide +kernel) w_244) (gk9 hG)) <|
  n_c (s_iconst (pc := 45) (n := 1) (by decide +kernel) (by decide +kernel)) <|
  n_c (s_zret (pc := 46) rfl (by decide +kernel)) <|
  n_e
def fX11_changeLost_39 (s0 : Int32) (s1 : Int32) (s2 : Int32) (M : nM) : Option (Int32 × nM) :=
  (fX4_withBit s2 s1 s0 M).bind fun p1 =>
  let M2 : nM := n_up p1.2 9 5 p1.1
  some ((1 : Int32), M2)
set_option maxRecDepth 200000 in
theorem bX11_changeLost_39 {l : Launch} {w : nW} {G : nG} (hG : n_GOK G) (s0 : Int32) (s1 : Int32) (s2 : Int32) (M : nM) (r : Int32 × nM) (h : fX11_changeLost_39 s0 s1 s2 M = some r) : n_At l w 1 mX11_changeLost 39 [] [.int s0, .int s1, .int s2, .ref 9] (G, M) (dv_i r.1, (G, r.2)) :=
  n_seg (fin := n_fin dv_i G) (K := []) 7 (iX11_changeLost hG) n_ke (by rfl) h
def fX11_changeLost (x1 : Int32) (x2 : Int32) (M : nM) : Option (Int32 × nM) :=
  (fX11_within x2 (0 : Int32) (1 : Int32) M).bind fun p1 =>
  if ¬ p1.1 = 0 then
    if ¬ x2 = (1 : Int32) then
      fX11_changeLost_39 (0 : Int32) x1 (p1.2 9 5) p1.2
    else
      fX11_changeLost_39 (1 : Int32) x1 (p1.2 9 5) p1.2
  else
    some ((0 : Int32), p1.2)
set_option maxRecDepth 200000 in
theorem bX11_changeLost_0 {l : Launch} {w : nW} {G : nG} (hG : n_GOK G) (x1 : Int32) (x2 : Int32) (M : nM) (r : Int32 × nM) (h : fX11_changeLost x1 x2 M = some r) : n_At l w 1 mX11_changeLost 0 [(0, .ref 1), (1, .int x1), (2, .int x2)] [] (G, M) (dv_i r.1, (G, r.2)) :=
  n_seg (fin := n_fin dv_i G) (K := [(39, fun lv st M => n_pI st (fun s0 st => n_pI st (fun s1 st => n_pI st (fun s2 st => n_pC 9 st (fun st => n_pE st (fX11_changeLost_39 s0 s1 s2 M))))))]) 24 (iX11_changeLost hG) (n_kc (fun lv st M r h => by
      obtain ⟨s0, t0, rfl, h1⟩ := n_pI_x h
      obtain ⟨s1, t1, rfl, h2⟩ := n_pI_x h1
      obtain ⟨s2, t2, rfl, h3⟩ := n_pI_x h2
      obtain ⟨t3, rfl, h4⟩ := n_pC_x h3
      obtain ⟨rfl, h5⟩ := n_pE_x h4
      exact n_sub n_qe (bX11_changeLost_39 hG s0 s1 s2 M r h5)) n_ke) (by rfl) h
theorem eX11_changeLost {l : Launch} {w : nW} {G : nG} (hG : n_GOK G) (z1 : Int32) (z2 : Int32) (M : nM) (r : Int32 × nM) (h : fX11_changeLost z1 z2 M = some r) : n_Met l w 1 mX11_changeLost [.ref 1, .int z1, .int z2] (G, M) (dv_i r.1, (G, r.2)) :=
  n_entry (by decide +kernel) rfl (Nat.le_of_ble_eq_true rfl) (n_sub (lv := [(0, .ref 1), (1, .int z1), (2, .int z2)]) (n_qc rfl (n_qc rfl (n_qc rfl n_qe))) (bX11_changeLost_0 hG z1 z2 M r h))
abbrev hX11_changeLost : nF := fun T as M k => n_pC 1 as (fun as => n_pI as (fun z1 as => n_pI as (fun z2 as => n_pE as ((fX11_changeLost z1 z2 M).bind fun p => k (dv_i p.1) p.2))))
theorem csX11_changeLost {l : Launch} {w : nW} {G : nG} (hG : n_GOK G) : n_CS l w 1 mX11_changeLost G (hX11_changeLost) := fun T as M k r h => by
  obtain ⟨t0, rfl, h1⟩ := n_pC_x h
  obtain ⟨z1, t1, rfl, h2⟩ := n_pI_x h1
  obtain ⟨z2, t2, rfl, h3⟩ := n_pI_x h2
  obtain ⟨rfl, hE⟩ := n_pE_x h3
  obtain ⟨p, hp, hk⟩ := Option.bind_eq_some_iff.mp hE
  exact ⟨_, _, eX11_changeLost hG z1 z2 M p hp, hk⟩
/-! ===== SleightHouse$House.hasPerson(I)Z ===== -/
def mX1_hasPerson : nY := (RX1, yX1_hasPerson, cX1_hasPerson, 2, some .boolean)
theorem okX1_hasPerson : n_MOK mX1_hasPerson 1 := ⟨w_662, w_138, ⟨by decide +kernel, by decide +kernel, by decide +kernel⟩, by decide⟩
abbrev aX1_hasPerson : List (Nat × nO (Int32 × nM)) := [(0, o_iload 1 1), (1, oi_lt 19 4), (4, o_iload 1 5), (5, o_aload 0 6), (6, o_gRc 2 3 9), (9, o_gIc 3 6 12), (12, oc_ge 19 15), (15, o_push (.int (1 : Int32)) 16), (16, o_goto 20), (19, o_push (.int (0 : Int32)) 20), (20, o_zret)]
set_option maxRecDepth 200000 in
theorem iX1_hasPerson {l : Launch} {w : nW} {G : nG} (hG : n_GOK G) : n_AllS l w 0 mX1_hasPerson G (n_fin dv_i G) (aX1_hasPerson) :=
  n_c (s_iload_n (pc := 0) (k := 1) (by decide +kernel)) <|
  n_c (s_if_lt (pc := 1) (off := 18) (by decide +kernel) (by decide +kernel)) <|
  n_c (s_iload_n (pc := 4) (k := 1) (by decide +kernel)) <|
  n_c (s_aload_n (pc := 5) (k := 0) (by decide +kernel)) <|
  n_c (s_gRc (s_getR (pc := 6) (ci := 1) (k := 0) (idx := 12) nok1 (by decide) rfl (by decide +kernel) w_402) (gk2 hG) (gm2_0 hG)) <|
  n_c (s_gIc (s_getI (pc := 9) (ci := 8) (k := 6) (idx := 63) nok8 (by decide) rfl (by decide +kernel) w_203) (gk3 hG)) <|
  n_c (s_icmp_ge (pc := 12) (off := 7) (by decide +kernel) (by decide +kernel)) <|
  n_c (s_iconst (pc := 15) (n := 1) (by decide +kernel) (by decide +kernel)) <|
  n_c (s_goto (pc := 16) (off := 4) (by decide +kernel) (by decide +kernel)) <|
  n_c (s_iconst (pc := 19) (n := 0) (by decide +kernel) (by decide +kernel)) <|
  n_c (s_zret (pc := 20) rfl (by decide +kernel)) <|
  n_e
def fX1_hasPerson (x1 : Int32) (M : nM) : Option (Int32 × nM) :=
  if x1 < 0 then
    some ((0 : Int32), M)
  else
    if (M 3 6) ≤ x1 then
      some ((0 : Int32), M)
    else
      some ((1 : Int32), M)
set_option maxRecDepth 200000 in
theorem bX1_hasPerson_0 {l : Launch} {w : nW} {G : nG} (hG : n_GOK G) (x1 : Int32) (M : nM) (r : Int32 × nM) (h : fX1_hasPerson x1 M = some r) : n_At l w 0 mX1_hasPerson 0 [(0, .ref 2), (1, .int x1)] [] (G, M) (dv_i r.1, (G, r.2)) :=
  n_seg (fin := n_fin dv_i G) (K := []) 17 (iX1_hasPerson hG) n_ke (by rfl) h
theorem eX1_hasPerson {l : Launch} {w : nW} {G : nG} (hG : n_GOK G) (z1 : Int32) (M : nM) (r : Int32 × nM) (h : fX1_hasPerson z1 M = some r) : n_Met l w 0 mX1_hasPerson [.ref 2, .int z1] (G, M) (dv_i r.1, (G, r.2)) :=
  n_entry (by decide +kernel) rfl (Nat.le_of_ble_eq_true rfl) (n_sub (lv := [(0, .ref 2), (1, .int z1)]) (n_qc rfl (n_qc rfl n_qe)) (bX1_hasPerson_0 hG z1 M r h))
abbrev hX1_hasPerson : nF := fun T as M k => n_pC 2 as (fun as => n_pI as (fun z1 as => n_pE as ((fX1_hasPerson z1 M).bind fun p => k (dv_i p.1) p.2)))
theorem csX1_hasPerson {l : Launch} {w : nW} {G : nG} (hG : n_GOK G) : n_CS l w 0 mX1_hasPerson G (hX1_hasPerson) := fun T as M k r h => by
  obtain ⟨t0, rfl, h1⟩ := n_pC_x h
  obtain ⟨z1, t1, rfl, h2⟩ := n_pI_x h1
  obtain ⟨rfl, hE⟩ := n_pE_x h2
  obtain ⟨p, hp, hk⟩ := Option.bind_eq_some_iff.mp hE
  exact ⟨_, _, eX1_hasPerson hG z1 M p hp, hk⟩
/-! ===== SleightHouse.change(III)Z ===== -/
def mX11_change : nY := (RX11, yX11_change, cX11_change, 5, some .boolean)
theorem okX11_change : n_MOK mX11_change 3 := ⟨w_646, w_137, ⟨by decide +kernel, by decide +kernel, by decide +kernel⟩, by decide⟩
abbrev aX11_change (G : nG) : List (Nat × nO (Int32 × nM)) := [(0, o_aload 0 1), (1, o_gRc 1 2 4), (4, o_gRc 2 3 7), (7, o_astore 5 4 9), (9, o_iload 1 10), (10, o_sw [((0 : Int32), 48), ((1 : Int32), 81), ((2 : Int32), 114), ((3 : Int32), 148), ((4 : Int32), 174), ((5 : Int32), 207)] 240), (48, o_aload 0 49), (49, o_gRc 1 2 52), (52, o_iload 2 53), (53, o_callVc 2 1 (hX1_hasPlace) 56), (56, oi_eq 79 59), (59, o_aload 4 61), (61, o_gRc 3 4 64), (64, o_iload 2 65), (65, o_iload 3 66), (66, o_push (.int (0 : Int32)) 67), (67, o_push (.int (99 : Int32)) 69), (69, o_call 5 (hX11_changeCell G) 72), (72, oi_eq 79 75), (75, o_push (.int (1 : Int32)) 76), (76, o_goto 80), (79, o_push (.int (0 : Int32)) 80), (80, o_zret), (81, o_aload 0 82), (82, o_gRc 1 2 85), (85, o_iload 2 86), (86, o_callVc 2 1 (hX1_hasThing) 89), (89, oi_eq 112 92), (92, o_aload 4 94), (94, o_gRc 3 5 97), (97, o_iload 2 98), (98, o_iload 3 99), (99, o_push (.int (1 : Int32)) 100), (100, o_push (.int (9 : Int32)) 102), (102, o_call 5 (hX11_changeCell G) 105), (105, oi_eq 112 108), (108, o_push (.int (1 : Int32)) 109), (109, o_goto 113), (112, o_push (.int (0 : Int32)) 113), (113, o_zret), (114, o_aload 0 115), (115, o_gRc 1 2 118), (118, o_iload 2 119), (119, o_callVc 2 1 (hX1_hasThing) 122), (122, oi_eq 146 125), (125, o_aload 4 127), (127, o_gRc 3 6 130), (130, o_iload 2 131), (131, o_iload 3 132), (132, o_push (.int (0 : Int32)) 133), (133, o_push (.int (999 : Int32)) 136), (136, o_call 5 (hX11_changeCell G) 139), (139, oi_eq 146 142), (142, o_push (.int (1 : Int32)) 143), (143, o_goto 147), (146, o_push (.int (0 : Int32)) 147), (147, o_zret), (148, o_aload 0 149), (149, o_gRc 1 2 152), (152, o_iload 2 153), (153, o_callVc 2 1 (hX1_hasThing) 156), (156, oi_eq 172 159), (159, o_aload 0 160), (160, o_iload 2 161), (161, o_iload 3 162), (162, o_callVc 1 2 (hX11_changeLost) 165), (165, oi_eq 172 168), (168, o_push (.int (1 : Int32)) 169), (169, o_goto 173), (172, o_push (.int (0 : Int32)) 173), (173, o_zret), (174, o_aload 0 175), (175, o_gRc 1 2 178), (178, o_iload 2 179), (179, o_callVc 2 1 (hX1_hasPerson) 182), (182, oi_eq 205 185), (185, o_aload 4 187), (187, o_gRc 3 7 190), (190, o_iload 2 191), (191, o_iload 3 192), (192, o_push (.int (0 : Int32)) 193), (193, o_push (.int (9 : Int32)) 195), (195, o_call 5 (hX11_changeCell G) 198), (198, oi_eq 205 201), (201, o_push (.int (1 : Int32)) 202), (202, o_goto 206), (205, o_push (.int (0 : Int32)) 206), (206, o_zret), (207, o_aload 0 208), (208, o_gRc 1 2 211), (211, o_iload 2 212), (212, o_callVc 2 1 (hX1_hasPerson) 215), (215, oi_eq 238 218), (218, o_aload 4 220), (220, o_gRc 3 8 223), (223, o_iload 2 224), (224, o_iload 3 225), (225, o_push (.int (0 : Int32)) 226), (226, o_push (.int (9 : Int32)) 228), (228, o_call 5 (hX11_changeCell G) 231), (231, oi_eq 238 234), (234, o_push (.int (1 : Int32)) 235), (235, o_goto 239), (238, o_push (.int (0 : Int32)) 239), (239, o_zret), (240, o_push (.int (0 : Int32)) 241), (241, o_zret)]
set_option maxRecDepth 200000 in
theorem iX11_change {l : Launch} {w : nW} {G : nG} (hG : n_GOK G) : n_AllS l w 2 mX11_change G (n_fin dv_i G) (aX11_change G) :=
  n_c (s_aload_n (pc := 0) (k := 0) (by decide +kernel)) <|
  n_c (s_gRc (s_getR (pc := 1) (ci := 11) (k := 0) (idx := 10) nok11 (by decide) rfl (by decide +kernel) w_572) (gk1 hG) (gm1_0 hG)) <|
  n_c (s_gRc (s_getR (pc := 4) (ci := 1) (k := 0) (idx := 34) nok1 (by decide) rfl (by decide +kernel) w_403) (gk2 hG) (gm2_0 hG)) <|
  n_c (s_astore (pc := 7) (by decide +kernel)) <|
  n_c (s_iload_n (pc := 9) (k := 1) (by decide +kernel)) <|
  n_c (s_tsw (pc := 10) (dflt := 230) (lo := 0) (hi := 5) (offs := #[38, 71, 104, 138, 164, 197]) (len := 38) (by decide +kernel) (by decide +kernel)) <|
  n_c (s_aload_n (pc := 48) (k := 0) (by decide +kernel)) <|
  n_c (s_gRc (s_getR (pc := 49) (ci := 11) (k := 0) (idx := 10) nok11 (by decide) rfl (by decide +kernel) w_572) (gk1 hG) (gm1_0 hG)) <|
  n_c (s_iload_n (pc := 52) (k := 2) (by decide +kernel)) <|
  n_c (s_callVc (s_callV (pc := 53) (csX1_hasPlace) (by decide) okX1_hasPlace nok1 w_613 w_614 w_612 (by decide +kernel)) (gk2 hG)) <|
  n_c (s_if_eq (pc := 56) (off := 23) (by decide +kernel) (by decide +kernel)) <|
  n_c (s_aload (pc := 59) (by decide +kernel)) <|
  n_c (s_gRc (s_getR (pc := 61) (ci := 8) (k := 0) (idx := 115) nok8 (by decide) rfl (by decide +kernel) w_183) (gk3 hG) (gm3_0 hG)) <|
  n_c (s_iload_n (pc := 64) (k := 2) (by decide +kernel)) <|
  n_c (s_iload_n (pc := 65) (k := 3) (by decide +kernel)) <|
  n_c (s_iconst (pc := 66) (n := 0) (by decide +kernel) (by decide +kernel)) <|
  n_c (s_bipush (pc := 67) (n := 99) (by decide +kernel) (by decide +kernel)) <|
  n_c (s_callS (pc := 69) (csX11_changeCell) (by decide) okX11_changeCell w_648 w_647 (by decide +kernel)) <|
  n_c (s_if_eq (pc := 72) (off := 7) (by decide +kernel) (by decide +kernel)) <|
  n_c (s_iconst (pc := 75) (n := 1) (by decide +kernel) (by decide +kernel)) <|
  n_c (s_goto (pc := 76) (off := 4) (by decide +kernel) (by decide +kernel)) <|
  n_c (s_iconst (pc := 79) (n := 0) (by decide +kernel) (by decide +kernel)) <|
  n_c (s_zret (pc := 80) rfl (by decide +kernel)) <|
  n_c (s_aload_n (pc := 81) (k := 0) (by decide +kernel)) <|
  n_c (s_gRc (s_getR (pc := 82) (ci := 11) (k := 0) (idx := 10) nok11 (by decide) rfl (by decide +kernel) w_572) (gk1 hG) (gm1_0 hG)) <|
  n_c (s_iload_n (pc := 85) (k := 2) (by decide +kernel)) <|
  n_c (s_callVc (s_callV (pc := 86) (csX1_hasThing hG) (by decide) okX1_hasThing nok1 w_651 w_652 w_650 (by decide +kernel)) (gk2 hG)) <|
  n_c (s_if_eq (pc := 89) (off := 23) (by decide +kernel) (by decide +kernel)) <|
  n_c (s_aload (pc := 92) (by decide +kernel)) <|
  n_c (s_gRc (s_getR (pc := 94) (ci := 8) (k := 1) (idx := 126) nok8 (by decide) rfl (by decide +kernel) w_187) (gk3 hG) (gm3_1 hG)) <|
  n_c (s_iload_n (pc := 97) (k := 2) (by decide +kernel)) <|
  n_c (s_iload_n (pc := 98) (k := 3) (by decide +kernel)) <|
  n_c (s_iconst (pc := 99) (n := 1) (by decide +kernel) (by decide +kernel)) <|
  n_c (s_bipush (pc := 100) (n := 9) (by decide +kernel) (by decide +kernel)) <|
  n_c (s_callS (pc := 102) (csX11_changeCell) (by decide) okX11_changeCell w_648 w_647 (by decide +kernel)) <|
  n_c (s_if_eq (pc := 105) (off := 7) (by decide +kernel) (by decide +kernel)) <|
  n_c (s_iconst (pc := 108) (n := 1) (by decide +kernel) (by decide +kernel)) <|
  n_c (s_goto (pc := 109) (off := 4) (by decide +kernel) (by decide +kernel)) <|
  n_c (s_iconst (pc := 112) (n := 0) (by decide +kernel) (by decide +kernel)) <|
  n_c (s_zret (pc := 113) rfl (by decide +kernel)) <|
  n_c (s_aload_n (pc := 114) (k := 0) (by decide +kernel)) <|
  n_c (s_gRc (s_getR (pc := 115) (ci := 11) (k := 0) (idx := 10) nok11 (by decide) rfl (by decide +kernel) w_572) (gk1 hG) (gm1_0 hG)) <|
  n_c (s_iload_n (pc := 118) (k := 2) (by decide +kernel)) <|
  n_c (s_callVc (s_callV (pc := 119) (csX1_hasThing hG) (by decide) okX1_hasThing nok1 w_651 w_652 w_650 (by decide +kernel)) (gk2 hG)) <|
  n_c (s_if_eq (pc := 122) (off := 24) (by decide +kernel) (by decide +kernel)) <|
  n_c (s_aload (pc := 125) (by decide +kernel)) <|
  n_c (s_gRc (s_getR (pc := 127) (ci := 8) (k := 2) (idx := 129) nok8 (by decide) rfl (by decide +kernel) w_190) (gk3 hG) (gm3_2 hG)) <|
  n_c (s_iload_n (pc := 130) (k := 2) (by decide +kernel)) <|
  n_c (s_iload_n (pc := 131) (k := 3) (by decide +kernel)) <|
  n_c (s_iconst (pc := 132) (n := 0) (by decide +kernel) (by decide +kernel)) <|
  n_c (s_sipush (pc := 133) (n := 999) (by decide +kernel) (by decide +kernel)) <|
  n_c (s_callS (pc := 136) (csX11_changeCell) (by decide) okX11_changeCell w_648 w_647 (by decide +kernel)) <|
  n_c (s_if_eq (pc := 139) (off := 7) (by decide +kernel) (by decide +kernel)) <|
  n_c (s_iconst (pc := 142) (n := 1) (by decide +kernel) (by decide +kernel)) <|
  n_c (s_goto (pc := 143) (off := 4) (by decide +kernel) (by decide +kernel)) <|
  n_c (s_iconst (pc := 146) (n := 0) (by decide +kernel) (by decide +kernel)) <|
  n_c (s_zret (pc := 147) rfl (by decide +kernel)) <|
  n_c (s_aload_n (pc := 148) (k := 0) (by decide +kernel)) <|
  n_c (s_gRc (s_getR (pc := 149) (ci := 11) (k := 0) (idx := 10) nok11 (by decide) rfl (by decide +kernel) w_572) (gk1 hG) (gm1_0 hG)) <|
  n_c (s_iload_n (pc := 152) (k := 2) (by decide +kernel)) <|
  n_c (s_callVc (s_callV (pc := 153) (csX1_hasThing hG) (by decide) okX1_hasThing nok1 w_651 w_652 w_650 (by decide +kernel)) (gk2 hG)) <|
  n_c (s_if_eq (pc := 156) (off := 16) (by decide +kernel) (by decide +kernel)) <|
  n_c (s_aload_n (pc := 159) (k := 0) (by decide +kernel)) <|
  n_c (s_iload_n (pc := 160) (k := 2) (by decide +kernel)) <|
  n_c (s_iload_n (pc := 161) (k := 3) (by decide +kernel)) <|
  n_c (s_callVc (s_callV (pc := 162) (csX11_changeLost hG) (by decide) okX11_changeLost nok11 w_656 w_1 w_654 (by decide +kernel)) (gk1 hG)) <|
  n_c (s_if_eq (pc := 165) (off := 7) (by decide +kernel) (by decide +kernel)) <|
  n_c (s_iconst (pc := 168) (n := 1) (by decide +kernel) (by decide +kernel)) <|
  n_c (s_goto (pc := 169) (off := 4) (by decide +kernel) (by decide +kernel)) <|
  n_c (s_iconst (pc := 172) (n := 0) (by decide +kernel) (by decide +kernel)) <|
  n_c (s_zret (pc := 173) rfl (by decide +kernel)) <|
  n_c (s_aload_n (pc := 174) (k := 0) (by decide +kernel)) <|
  n_c (s_gRc (s_getR (pc := 175) (ci := 11) (k := 0) (idx := 10) nok11 (by decide) rfl (by decide +kernel) w_572) (gk1 hG) (gm1_0 hG)) <|
  n_c (s_iload_n (pc := 178) (k := 2) (by decide +kernel)) <|
  n_c (s_callVc (s_callV (pc := 179) (csX1_hasPerson hG) (by decide) okX1_hasPerson nok1 w_660 w_661 w_659 (by decide +kernel)) (gk2 hG)) <|
  n_c (s_if_eq (pc := 182) (off := 23) (by decide +kernel) (by decide +kernel)) <|
  n_c (s_aload (pc := 185) (by decide +kernel)) <|
  n_c (s_gRc (s_getR (pc := 187) (ci := 8) (k := 3) (idx := 139) nok8 (by decide) rfl (by decide +kernel) w_193) (gk3 hG) (gm3_3 hG)) <|
  n_c (s_iload_n (pc := 190) (k := 2) (by decide +kernel)) <|
  n_c (s_iload_n (pc := 191) (k := 3) (by decide +kernel)) <|
  n_c (s_iconst (pc := 192) (n := 0) (by decide +kernel) (by decide +kernel)) <|
  n_c (s_bipush (pc := 193) (n := 9) (by decide +kernel) (by decide +kernel)) <|
  n_c (s_callS (pc := 195) (csX11_changeCell) (by decide) okX11_changeCell w_648 w_647 (by decide +kernel)) <|
  n_c (s_if_eq (pc := 198) (off := 7) (by decide +kernel) (by decide +kernel)) <|
  n_c (s_iconst (pc := 201) (n := 1) (by decide +kernel) (by decide +kernel)) <|
  n_c (s_goto (pc := 202) (off := 4) (by decide +kernel) (by decide +kernel)) <|
  n_c (s_iconst (pc := 205) (n := 0) (by decide +kernel) (by decide +kernel)) <|
  n_c (s_zret (pc := 206) rfl (by decide +kernel)) <|
  n_c (s_aload_n (pc := 207) (k := 0) (by decide +kernel)) <|
  n_c (s_gRc (s_getR (pc := 208) (ci := 11) (k := 0) (idx := 10) nok11 (by decide) rfl (by decide +kernel) w_572) (gk1 hG) (gm1_0 hG)) <|
  n_c (s_iload_n (pc := 211) (k := 2) (by decide +kernel)) <|
  n_c (s_callVc (s_callV (pc := 212) (csX1_hasPerson hG) (by decide) okX1_hasPerson nok1 w_660 w_661 w_659 (by decide +kernel)) (gk2 hG)) <|
  n_c (s_if_eq (pc := 215) (off := 23) (by decide +kernel) (by decide +kernel)) <|
  n_c (s_aload (pc := 218) (by decide +kernel)) <|
  n_c (s_gRc (s_getR (pc := 220) (ci := 8) (k := 4) (idx := 142) nok8 (by decide) rfl (by decide +kernel) w_196) (gk3 hG) (gm3_4 hG)) <|
  n_c (s_iload_n (pc := 223) (k := 2) (by decide +kernel)) <|
  n_c (s_iload_n (pc := 224) (k := 3) (by decide +kernel)) <|
  n_c (s_iconst (pc := 225) (n := 0) (by decide +kernel) (by decide +kernel)) <|
  n_c (s_bipush (pc := 226) (n := 9) (by decide +kernel) (by decide +kernel)) <|
  n_c (s_callS (pc := 228) (csX11_changeCell) (by decide) okX11_changeCell w_648 w_647 (by decide +kernel)) <|
  n_c (s_if_eq (pc := 231) (off := 7) (by decide +kernel) (by decide +kernel)) <|
  n_c (s_iconst (pc := 234) (n := 1) (by decide +kernel) (by decide +kernel)) <|
  n_c (s_goto (pc := 235) (off := 4) (by decide +kernel) (by decide +kernel)) <|
  n_c (s_iconst (pc := 238) (n := 0) (by decide +kernel) (by decide +kernel)) <|
  n_c (s_zret (pc := 239) rfl (by decide +kernel)) <|
  n_c (s_iconst (pc := 240) (n := 0) (by decide +kernel) (by decide +kernel)) <|
  n_c (s_zret (pc := 241) rfl (by decide +kernel)) <|
  n_e
def fX11_change (G : nG) (x1 : Int32) (x2 : Int32) (x3 : Int32) (M : nM) : Option (Int32 × nM) :=
  if x1 = (0 : Int32) then
    (fX1_hasPlace x2 M).bind fun p1 =>
    if p1.1 = 0 then
      some ((0 : Int32), p1.2)
    else
      (fX11_changeCell G 4 x2 x3 (0 : Int32) (99 : Int32) p1.2).bind fun p2 =>
      if p2.1 = 0 then
        some ((0 : Int32), p2.2)
      else
        some ((1 : Int32), p2.2)
  else
  if x1 = (1 : Int32) then
    (fX1_hasThing x2 M).bind fun p3 =>
    if p3.1 = 0 then
      some ((0 : Int32), p3.2)
    else
      (fX11_changeCell G 5 x2 x3 (1 : Int32) (9 : Int32) p3.2).bind fun p4 =>
      if p4.1 = 0 then
        some ((0 : Int32), p4.2)
      else
        some ((1 : Int32), p4.2)
  else
  if x1 = (2 : Int32) then
    (fX1_hasThing x2 M).bind fun p5 =>
    if p5.1 = 0 then
      some ((0 : Int32), p5.2)
    else
      (fX11_changeCell G 6 x2 x3 (0 : Int32) (999 : Int32) p5.2).bind fun p6 =>
      if p6.1 = 0 then
        some ((0 : Int32), p6.2)
      else
        some ((1 : Int32), p6.2)
  else
  if x1 = (3 : Int32) then
    (fX1_hasThing x2 M).bind fun p7 =>
    if p7.1 = 0 then
      some ((0 : Int32), p7.2)
    else
      (fX11_changeLost x2 x3 p7.2).bind fun p8 =>
      if p8.1 = 0 then
        some ((0 : Int32), p8.2)
      else
        some ((1 : Int32), p8.2)
  else
  if x1 = (4 : Int32) then
    (fX1_hasPerson x2 M).bind fun p9 =>
    if p9.1 = 0 then
      some ((0 : Int32), p9.2)
    else
      (fX11_changeCell G 7 x2 x3 (0 : Int32) (9 : Int32) p9.2).bind fun p10 =>
      if p10.1 = 0 then
        some ((0 : Int32), p10.2)
      else
        some ((1 : Int32), p10.2)
  else
  if x1 = (5 : Int32) then
    (fX1_hasPerson x2 M).bind fun p11 =>
    if p11.1 = 0 then
      some ((0 : Int32), p11.2)
    else
      (fX11_changeCell G 8 x2 x3 (0 : Int32) (9 : Int32) p11.2).bind fun p12 =>
      if p12.1 = 0 then
        some ((0 : Int32), p12.2)
      else
        some ((1 : Int32), p12.2)
  else
  some ((0 : Int32), M)
set_option maxRecDepth 200000 in
theorem bX11_change_0 {l : Launch} {w : nW} {G : nG} (hG : n_GOK G) (x1 : Int32) (x2 : Int32) (x3 : Int32) (M : nM) (r : Int32 × nM) (h : fX11_change G x1 x2 x3 M = some r) : n_At l w 2 mX11_change 0 [(0, .ref 1), (1, .int x1), (2, .int x2), (3, .int x3)] [] (G, M) (dv_i r.1, (G, r.2)) :=
  n_seg (fin := n_fin dv_i G) (K := []) 128 (iX11_change hG) n_ke (by rfl) h
theorem eX11_change {l : Launch} {w : nW} {G : nG} (hG : n_GOK G) (z1 : Int32) (z2 : Int32) (z3 : Int32) (M : nM) (r : Int32 × nM) (h : fX11_change G z1 z2 z3 M = some r) : n_Met l w 2 mX11_change [.ref 1, .int z1, .int z2, .int z3] (G, M) (dv_i r.1, (G, r.2)) :=
  n_entry (by decide +kernel) rfl (Nat.le_of_ble_eq_true rfl) (n_sub (lv := [(0, .ref 1), (1, .int z1), (2, .int z2), (3, .int z3)]) (n_qc rfl (n_qc rfl (n_qc rfl (n_qc rfl n_qe)))) (bX11_change_0 hG z1 z2 z3 M r h))
abbrev hX11_change (G : nG) : nF := fun T as M k => n_pC 1 as (fun as => n_pI as (fun z1 as => n_pI as (fun z2 as => n_pI as (fun z3 as => n_pE as ((fX11_change G z1 z2 z3 M).bind fun p => k (dv_i p.1) p.2)))))
theorem csX11_change {l : Launch} {w : nW} {G : nG} (hG : n_GOK G) : n_CS l w 2 mX11_change G (hX11_change G) := fun T as M k r h => by
  obtain ⟨t0, rfl, h1⟩ := n_pC_x h
  obtain ⟨z1, t1, rfl, h2⟩ := n_pI_x h1
  obtain ⟨z2, t2, rfl, h3⟩ := n_pI_x h2
  obtain ⟨z3, t3, rfl, h4⟩ := n_pI_x h3
  obtain ⟨rfl, hE⟩ := n_pE_x h4
  obtain ⟨p, hp, hk⟩ := Option.bind_eq_some_iff.mp hE
  exact ⟨_, _, eX11_change hG z1 z2 z3 M p hp, hk⟩
/-! ===== SleightHouse.set(III)Z ===== -/
def mX11_set : nY := (RX11, yX11_set, cX11_set, 5, some .boolean)
theorem okX11_set : n_MOK mX11_set 3 := ⟨w_642, w_137, ⟨by decide +kernel, by decide +kernel, by decide +kernel⟩, by decide⟩
abbrev aX11_set (G : nG) : List (Nat × nO (Int32 × nM)) := [(0, o_aload 0 1), (1, o_iload 1 2), (2, o_iload 2 3), (3, o_iload 3 4), (4, o_callVc 1 3 (hX11_change G) 7), (7, o_istore 5 4 9), (9, o_iload 4 11), (11, oi_eq 21 14), (14, o_aload 0 15), (15, o_gRc 1 48 18), (18, o_callVc 48 0 (hX5_forget) 21), (21, o_iload 4 23), (23, o_zret)]
set_option maxRecDepth 200000 in
theorem iX11_set {l : Launch} {w : nW} {G : nG} (hG : n_GOK G) : n_AllS l w 3 mX11_set G (n_fin dv_i G) (aX11_set G) :=
  n_c (s_aload_n (pc := 0) (k := 0) (by decide +kernel)) <|
  n_c (s_iload_n (pc := 1) (k := 1) (by decide +kernel)) <|
  n_c (s_iload_n (pc := 2) (k := 2) (by decide +kernel)) <|
  n_c (s_iload_n (pc := 3) (k := 3) (by decide +kernel)) <|
  n_c (s_callVc (s_callV (pc := 4) (csX11_change hG) (by decide) okX11_change nok11 w_645 w_0 w_643 (by decide +kernel)) (gk1 hG)) <|
  n_c (s_istore (pc := 7) (by decide +kernel)) <|
  n_c (s_iload (pc := 9) (by decide +kernel)) <|
  n_c (s_if_eq (pc := 11) (off := 10) (by decide +kernel) (by decide +kernel)) <|
  n_c (s_aload_n (pc := 14) (k := 0) (by decide +kernel)) <|
  n_c (s_gRc (s_getR (pc := 15) (ci := 11) (k := 2) (idx := 28) nok11 (by decide) rfl (by decide +kernel) w_574) (gk1 hG) (gm1_2 hG)) <|
  n_c (s_callVc (s_callV (pc := 18) (csX5_forget hG) (by decide) okX5_forget nok5 w_602 w_603 w_601 (by decide +kernel)) (gk48 hG)) <|
  n_c (s_iload (pc := 21) (by decide +kernel)) <|
  n_c (s_zret (pc := 23) rfl (by decide +kernel)) <|
  n_e
def fX11_set (G : nG) (x1 : Int32) (x2 : Int32) (x3 : Int32) (M : nM) : Option (Int32 × nM) :=
  (fX11_change G x1 x2 x3 M).bind fun p1 =>
  if p1.1 = 0 then
    n_chk (p1.1 == 0 || p1.1 == 1) (some (p1.1, p1.2))
  else
    (fX5_forget p1.2).bind fun p2 =>
    n_chk (p1.1 == 0 || p1.1 == 1) (some (p1.1, p2.2))
set_option maxRecDepth 200000 in
theorem bX11_set_0 {l : Launch} {w : nW} {G : nG} (hG : n_GOK G) (x1 : Int32) (x2 : Int32) (x3 : Int32) (M : nM) (r : Int32 × nM) (h : fX11_set G x1 x2 x3 M = some r) : n_At l w 3 mX11_set 0 [(0, .ref 1), (1, .int x1), (2, .int x2), (3, .int x3)] [] (G, M) (dv_i r.1, (G, r.2)) :=
  n_seg (fin := n_fin dv_i G) (K := []) 18 (iX11_set hG) n_ke (by rfl) h
theorem eX11_set {l : Launch} {w : nW} {G : nG} (hG : n_GOK G) (z1 : Int32) (z2 : Int32) (z3 : Int32) (M : nM) (r : Int32 × nM) (h : fX11_set G z1 z2 z3 M = some r) : n_Met l w 3 mX11_set [.ref 1, .int z1, .int z2, .int z3] (G, M) (dv_i r.1, (G, r.2)) :=
  n_entry (by decide +kernel) rfl (Nat.le_of_ble_eq_true rfl) (n_sub (lv := [(0, .ref 1), (1, .int z1), (2, .int z2), (3, .int z3)]) (n_qc rfl (n_qc rfl (n_qc rfl (n_qc rfl n_qe)))) (bX11_set_0 hG z1 z2 z3 M r h))
abbrev hX11_set (G : nG) : nF := fun T as M k => n_pC 1 as (fun as => n_pI as (fun z1 as => n_pI as (fun z2 as => n_pI as (fun z3 as => n_pE as ((fX11_set G z1 z2 z3 M).bind fun p => k (dv_i p.1) p.2)))))
theorem csX11_set {l : Launch} {w : nW} {G : nG} (hG : n_GOK G) : n_CS l w 3 mX11_set G (hX11_set G) := fun T as M k r h => by
  obtain ⟨t0, rfl, h1⟩ := n_pC_x h
  obtain ⟨z1, t1, rfl, h2⟩ := n_pI_x h1
  obtain ⟨z2, t2, rfl, h3⟩ := n_pI_x h2
  obtain ⟨z3, t3, rfl, h4⟩ := n_pI_x h3
  obtain ⟨rfl, hE⟩ := n_pE_x h4
  obtain ⟨p, hp, hk⟩ := Option.bind_eq_some_iff.mp hE
  exact ⟨_, _, eX11_set hG z1 z2 z3 M p hp, hk⟩
/-! ===== SleightHouseModel.isThing(I)Z ===== -/
def mX12_isThing : nY := (RX12, yX12_isThing, cX12_isThing, 2, some .boolean)
theorem okX12_isThing : n_MOK mX12_isThing 1 := ⟨w_1680, w_151, ⟨by decide +kernel, by decide +kernel, by decide +kernel⟩, by decide⟩
abbrev aX12_isThing : List (Nat × nO (Int32 × nM)) := [(0, o_iload 1 1), (1, oi_lt 16 4), (4, o_iload 1 5), (5, o_aload 0 6), (6, o_gIc 107 6 9), (9, oc_ge 16 12), (12, o_push (.int (1 : Int32)) 13), (13, o_goto 17), (16, o_push (.int (0 : Int32)) 17), (17, o_zret)]
set_option maxRecDepth 200000 in
theorem iX12_isThing {l : Launch} {w : nW} {G : nG} (hG : n_GOK G) : n_AllS l w 0 mX12_isThing G (n_fin dv_i G) (aX12_isThing) :=
  n_c (s_iload_n (pc := 0) (k := 1) (by decide +kernel)) <|
  n_c (s_if_lt (pc := 1) (off := 15) (by decide +kernel) (by decide +kernel)) <|
  n_c (s_iload_n (pc := 4) (k := 1) (by decide +kernel)) <|
  n_c (s_aload_n (pc := 5) (k := 0) (by decide +kernel)) <|
  n_c (s_gIc (s_getI (pc := 6) (ci := 12) (k := 6) (idx := 158) nok12 (by decide) rfl (by decide +kernel) w_1413) (gk107 hG)) <|
  n_c (s_icmp_ge (pc := 9) (off := 7) (by decide +kernel) (by decide +kernel)) <|
  n_c (s_iconst (pc := 12) (n := 1) (by decide +kernel) (by decide +kernel)) <|
  n_c (s_goto (pc := 13) (off := 4) (by decide +kernel) (by decide +kernel)) <|
  n_c (s_iconst (pc := 16) (n := 0) (by decide +kernel) (by decide +kernel)) <|
  n_c (s_zret (pc := 17) rfl (by decide +kernel)) <|
  n_e
def fX12_isThing (x1 : Int32) (M : nM) : Option (Int32 × nM) :=
  if x1 < 0 then
    some ((0 : Int32), M)
  else
    if (M 107 6) ≤ x1 then
      some ((0 : Int32), M)
    else
      some ((1 : Int32), M)
set_option maxRecDepth 200000 in
theorem bX12_isThing_0 {l : Launch} {w : nW} {G : nG} (hG : n_GOK G) (x1 : Int32) (M : nM) (r : Int32 × nM) (h : fX12_isThing x1 M = some r) : n_At l w 0 mX12_isThing 0 [(0, .ref 107), (1, .int x1)] [] (G, M) (dv_i r.1, (G, r.2)) :=
  n_seg (fin := n_fin dv_i G) (K := []) 16 (iX12_isThing hG) n_ke (by rfl) h
theorem eX12_isThing {l : Launch} {w : nW} {G : nG} (hG : n_GOK G) (z1 : Int32) (M : nM) (r : Int32 × nM) (h : fX12_isThing z1 M = some r) : n_Met l w 0 mX12_isThing [.ref 107, .int z1] (G, M) (dv_i r.1, (G, r.2)) :=
  n_entry (by decide +kernel) rfl (Nat.le_of_ble_eq_true rfl) (n_sub (lv := [(0, .ref 107), (1, .int z1)]) (n_qc rfl (n_qc rfl n_qe)) (bX12_isThing_0 hG z1 M r h))
abbrev hX12_isThing : nF := fun T as M k => n_pC 107 as (fun as => n_pI as (fun z1 as => n_pE as ((fX12_isThing z1 M).bind fun p => k (dv_i p.1) p.2)))
theorem csX12_isThing {l : Launch} {w : nW} {G : nG} (hG : n_GOK G) : n_CS l w 0 mX12_isThing G (hX12_isThing) := fun T as M k r h => by
  obtain ⟨t0, rfl, h1⟩ := n_pC_x h
  obtain ⟨z1, t1, rfl, h2⟩ := n_pI_x h1
  obtain ⟨rfl, hE⟩ := n_pE_x h2
  obtain ⟨p, hp, hk⟩ := Option.bind_eq_some_iff.mp hE
  exact ⟨_, _, eX12_isThing hG z1 M p hp, hk⟩
/-! ===== SleightHouseModel.isPerson(I)Z ===== -/
def mX12_isPerson : nY := (RX12, yX12_isPerson, cX12_isPerson, 2, some .boolean)
theorem okX12_isPerson : n_MOK mX12_isPerson 1 := ⟨w_1684, w_151, ⟨by decide +kernel, by decide +kernel, by decide +kernel⟩, by decide⟩
abbrev aX12_isPerson : List (Nat × nO (Int32 × nM)) := [(0, o_iload 1 1), (1, oi_lt 16 4), (4, o_iload 1 5), (5, o_aload 0 6), (6, o_gIc 107 7 9), (9, oc_ge 16 12), (12, o_push (.int (1 : Int32)) 13), (13, o_goto 17), (16, o_push (.int (0 : Int32)) 17), (17, o_zret)]
set_option maxRecDepth 200000 in
theorem iX12_isPerson {l : Launch} {w : nW} {G : nG} (hG : n_GOK G) : n_AllS l w 0 mX12_isPerson G (n_fin dv_i G) (aX12_isPerson) :=
  n_c (s_iload_n (pc := 0) (k := 1) (by decide +kernel)) <|
  n_c (s_if_lt (pc := 1) (off := 15) (by decide +kernel) (by decide +kernel)) <|
  n_c (s_iload_n (pc := 4) (k := 1) (by decide +kernel)) <|
  n_c (s_aload_n (pc := 5) (k := 0) (by decide +kernel)) <|
  n_c (s_gIc (s_getI (pc := 6) (ci := 12) (k := 7) (idx := 161) nok12 (by decide) rfl (by decide +kernel) w_1414) (gk107 hG)) <|
  n_c (s_icmp_ge (pc := 9) (off := 7) (by decide +kernel) (by decide +kernel)) <|
  n_c (s_iconst (pc := 12) (n := 1) (by decide +kernel) (by decide +kernel)) <|
  n_c (s_goto (pc := 13) (off := 4) (by decide +kernel) (by decide +kernel)) <|
  n_c (s_iconst (pc := 16) (n := 0) (by decide +kernel) (by decide +kernel)) <|
  n_c (s_zret (pc := 17) rfl (by decide +kernel)) <|
  n_e
def fX12_isPerson (x1 : Int32) (M : nM) : Option (Int32 × nM) :=
  if x1 < 0 then
    some ((0 : Int32), M)
  else
    if (M 107 7) ≤ x1 then
      some ((0 : Int32), M)
    else
      some ((1 : Int32), M)
set_option maxRecDepth 200000 in
theorem bX12_isPerson_0 {l : Launch} {w : nW} {G : nG} (hG : n_GOK G) (x1 : Int32) (M : nM) (r : Int32 × nM) (h : fX12_isPerson x1 M = some r) : n_At l w 0 mX12_isPerson 0 [(0, .ref 107), (1, .int x1)] [] (G, M) (dv_i r.1, (G, r.2)) :=
  n_seg (fin := n_fin dv_i G) (K := []) 16 (iX12_isPerson hG) n_ke (by rfl) h
theorem eX12_isPerson {l : Launch} {w : nW} {G : nG} (hG : n_GOK G) (z1 : Int32) (M : nM) (r : Int32 × nM) (h : fX12_isPerson z1 M = some r) : n_Met l w 0 mX12_isPerson [.ref 107, .int z1] (G, M) (dv_i r.1, (G, r.2)) :=
  n_entry (by decide +kernel) rfl (Nat.le_of_ble_eq_true rfl) (n_sub (lv := [(0, .ref 107), (1, .int z1)]) (n_qc rfl (n_qc rfl n_qe)) (bX12_isPerson_0 hG z1 M r h))
abbrev hX12_isPerson : nF := fun T as M k => n_pC 107 as (fun as => n_pI as (fun z1 as => n_pE as ((fX12_isPerson z1 M).bind fun p => k (dv_i p.1) p.2)))
theorem csX12_isPerson {l : Launch} {w : nW} {G : nG} (hG : n_GOK G) : n_CS l w 0 mX12_isPerson G (hX12_isPerson) := fun T as M k r h => by
  obtain ⟨t0, rfl, h1⟩ := n_pC_x h
  obtain ⟨z1, t1, rfl, h2⟩ := n_pI_x h1
  obtain ⟨rfl, hE⟩ := n_pE_x h2
  obtain ⟨p, hp, hk⟩ := Option.bind_eq_some_iff.mp hE
  exact ⟨_, _, eX12_isPerson hG z1 M p hp, hk⟩
/-! ===== SleightHouseModel.canSet(III)Z ===== -/
def mX12_canSet : nY := (RX12, yX12_canSet, cX12_canSet, 4, some .boolean)
theorem okX12_canSet : n_MOK mX12_canSet 3 := ⟨w_1676, w_151, ⟨by decide +kernel, by decide +kernel, by decide +kernel⟩, by decide⟩
abbrev aX12_canSet : List (Nat × nO (Int32 × nM)) := [(0, o_iload 1 1), (1, oi_ne 29 4), (4, o_aload 0 5), (5, o_iload 2 6), (6, o_callVc 107 1 (hX12_isPlace) 9), (9, oi_eq 27 12), (12, o_aload 0 13), (13, o_iload 3 14), (14, o_push (.int (0 : Int32)) 15), (15, o_push (.int (99 : Int32)) 17), (17, o_callVc 107 3 (hX12_isIn) 20), (20, oi_eq 27 23), (23, o_push (.int (1 : Int32)) 24), (24, o_goto 28), (27, o_push (.int (0 : Int32)) 28), (28, o_zret), (29, o_aload 0 30), (30, o_iload 1 31), (31, o_push (.int (1 : Int32)) 32), (32, o_push (.int (3 : Int32)) 33), (33, o_callVc 107 3 (hX12_isIn) 36), (36, oi_eq 93 39), (39, o_aload 0 40), (40, o_iload 2 41), (41, o_callVc 107 1 (hX12_isThing) 44), (44, oi_eq 91 47), (47, o_aload 0 48), (48, o_iload 3 49), (49, o_iload 1 50), (50, o_push (.int (1 : Int32)) 51), (51, oc_ne 58 54), (54, o_push (.int (1 : Int32)) 55), (55, o_goto 59), (58, o_push (.int (0 : Int32)) 59), (59, o_iload 1 60), (60, o_push (.int (1 : Int32)) 61), (61, oc_ne 69 64), (64, o_push (.int (9 : Int32)) 66), (66, o_goto 81), (69, o_iload 1 70), (70, o_push (.int (2 : Int32)) 71), (71, oc_ne 80 74), (74, o_push (.int (999 : Int32)) 77), (77, o_goto 81), (80, o_push (.int (1 : Int32)) 81), (81, o_callVc 107 3 (hX12_isIn) 84), (84, oi_eq 91 87), (87, o_push (.int (1 : Int32)) 88), (88, o_goto 92), (91, o_push (.int (0 : Int32)) 92), (92, o_zret), (93, o_aload 0 94), (94, o_iload 1 95), (95, o_push (.int (4 : Int32)) 96), (96, o_push (.int (5 : Int32)) 97), (97, o_callVc 107 3 (hX12_isIn) 100), (100, oi_eq 126 103), (103, o_aload 0 104), (104, o_iload 2 105), (105, o_callVc 107 1 (hX12_isPerson) 108), (108, oi_eq 126 111), (111, o_aload 0 112), (112, o_iload 3 113), (113, o_push (.int (0 : Int32)) 114), (114, o_push (.int (9 : Int32)) 116), (116, o_callVc 107 3 (hX12_isIn) 119), (119, oi_eq 126 122), (122, o_push (.int (1 : Int32)) 123), (123, o_goto 127), (126, o_push (.int (0 : Int32)) 127), (127, o_zret)]
set_option maxRecDepth 200000 in
theorem iX12_canSet {l : Launch} {w : nW} {G : nG} (hG : n_GOK G) : n_AllS l w 1 mX12_canSet G (n_fin dv_i G) (aX12_canSet) :=
  n_c (s_iload_n (pc := 0) (k := 1) (by decide +kernel)) <|
  n_c (s_if_ne (pc := 1) (off := 28) (by decide +kernel) (by decide +kernel)) <|
  n_c (s_aload_n (pc := 4) (k := 0) (by decide +kernel)) <|
  n_c (s_iload_n (pc := 5) (k := 2) (by decide +kernel)) <|
  n_c (s_callVc (s_callV (pc := 6) (csX12_isPlace) (by decide) okX12_isPlace nok12 w_1663 w_47 w_1661 (by decide +kernel)) (gk107 hG)) <|
  n_c (s_if_eq (pc := 9) (off := 18) (by decide +kernel) (by decide +kernel)) <|
  n_c (s_aload_n (pc := 12) (k := 0) (by decide +kernel)) <|
  n_c (s_iload_n (pc := 13) (k := 3) (by decide +kernel)) <|
  n_c (s_iconst (pc := 14) (n := 0) (by decide +kernel) (by decide +kernel)) <|
  n_c (s_bipush (pc := 15) (n := 99) (by decide +kernel) (by decide +kernel)) <|
  n_c (s_callVc (s_callV (pc := 17) (csX12_isIn) (by decide) okX12_isIn nok12 w_1659 w_46 w_1657 (by decide +kernel)) (gk107 hG)) <|
  n_c (s_if_eq (pc := 20) (off := 7) (by decide +kernel) (by decide +kernel)) <|
  n_c (s_iconst (pc := 23) (n := 1) (by decide +kernel) (by decide +kernel)) <|
  n_c (s_goto (pc := 24) (off := 4) (by decide +kernel) (by decide +kernel)) <|
  n_c (s_iconst (pc := 27) (n := 0) (by decide +kernel) (by decide +kernel)) <|
  n_c (s_zret (pc := 28) rfl (by decide +kernel)) <|
  n_c (s_aload_n (pc := 29) (k := 0) (by decide +kernel)) <|
  n_c (s_iload_n (pc := 30) (k := 1) (by decide +kernel)) <|
  n_c (s_iconst (pc := 31) (n := 1) (by decide +kernel) (by decide +kernel)) <|
  n_c (s_iconst (pc := 32) (n := 3) (by decide +kernel) (by decide +kernel)) <|
  n_c (s_callVc (s_callV (pc := 33) (csX12_isIn) (by decide) okX12_isIn nok12 w_1659 w_46 w_1657 (by decide +kernel)) (gk107 hG)) <|
  n_c (s_if_eq (pc := 36) (off := 57) (by decide +kernel) (by decide +kernel)) <|
  n_c (s_aload_n (pc := 39) (k := 0) (by decide +kernel)) <|
  n_c (s_iload_n (pc := 40) (k := 2) (by decide +kernel)) <|
  n_c (s_callVc (s_callV (pc := 41) (csX12_isThing hG) (by decide) okX12_isThing nok12 w_1679 w_49 w_1677 (by decide +kernel)) (gk107 hG)) <|
  n_c (s_if_eq (pc := 44) (off := 47) (by decide +kernel) (by decide +kernel)) <|
  n_c (s_aload_n (pc := 47) (k := 0) (by decide +kernel)) <|
  n_c (s_iload_n (pc := 48) (k := 3) (by decide +kernel)) <|
  n_c (s_iload_n (pc := 49) (k := 1) (by decide +kernel)) <|
  n_c (s_iconst (pc := 50) (n := 1) (by decide +kernel) (by decide +kernel)) <|
  n_c (s_icmp_ne (pc := 51) (off := 7) (by decide +kernel) (by decide +kernel)) <|
  n_c (s_iconst (pc := 54) (n := 1) (by decide +kernel) (by decide +kernel)) <|
  n_c (s_goto (pc := 55) (off := 4) (by decide +kernel) (by decide +kernel)) <|
  n_c (s_iconst (pc := 58) (n := 0) (by decide +kernel) (by decide +kernel)) <|
  n_c (s_iload_n (pc := 59) (k := 1) (by decide +kernel)) <|
  n_c (s_iconst (pc := 60) (n := 1) (by decide +kernel) (by decide +kernel)) <|
  n_c (s_icmp_ne (pc := 61) (off := 8) (by decide +kernel) (by decide +kernel)) <|
  n_c (s_bipush (pc := 64) (n := 9) (by decide +kernel) (by decide +kernel)) <|
  n_c (s_goto (pc := 66) (off := 15) (by decide +kernel) (by decide +kernel)) <|
  n_c (s_iload_n (pc := 69) (k := 1) (by decide +kernel)) <|
  n_c (s_iconst (pc := 70) (n := 2) (by decide +kernel) (by decide +kernel)) <|
  n_c (s_icmp_ne (pc := 71) (off := 9) (by decide +kernel) (by decide +kernel)) <|
  n_c (s_sipush (pc := 74) (n := 999) (by decide +kernel) (by decide +kernel)) <|
  n_c (s_goto (pc := 77) (off := 4) (by decide +kernel) (by decide +kernel)) <|
  n_c (s_iconst (pc := 80) (n := 1) (by decide +kernel) (by decide +kernel)) <|
  n_c (s_callVc (s_callV (pc := 81) (csX12_isIn) (by decide) okX12_isIn nok12 w_1659 w_46 w_1657 (by decide +kernel)) (gk107 hG)) <|
  n_c (s_if_eq (pc := 84) (off := 7) (by decide +kernel) (by decide +kernel)) <|
  n_c (s_iconst (pc := 87) (n := 1) (by decide +kernel) (by decide +kernel)) <|
  n_c (s_goto (pc := 88) (off := 4) (by decide +kernel) (by decide +kernel)) <|
  n_c (s_iconst (pc := 91) (n := 0) (by decide +kernel) (by decide +kernel)) <|
  n_c (s_zret (pc := 92) rfl (by decide +kernel)) <|
  n_c (s_aload_n (pc := 93) (k := 0) (by decide +kernel)) <|
  n_c (s_iload_n (pc := 94) (k := 1) (by decide +kernel)) <|
  n_c (s_iconst (pc := 95) (n := 4) (by decide +kernel) (by decide +kernel)) <|
  n_c (s_iconst (pc := 96) (n := 5) (by decide +kernel) (by decide +kernel)) <|
  n_c (s_callVc (s_callV (pc := 97) (csX12_isIn) (by decide) okX12_isIn nok12 w_1659 w_46 w_1657 (by decide +kernel)) (gk107 hG)) <|
  n_c (s_if_eq (pc := 100) (off := 26) (by decide +kernel) (by decide +kernel)) <|
  n_c (s_aload_n (pc := 103) (k := 0) (by decide +kernel)) <|
  n_c (s_iload_n (pc := 104) (k := 2) (by decide +kernel)) <|
  n_c (s_callVc (s_callV (pc := 105) (csX12_isPerson hG) (by decide) okX12_isPerson nok12 w_1683 w_50 w_1681 (by decide +kernel)) (gk107 hG)) <|
  n_c (s_if_eq (pc := 108) (off := 18) (by decide +kernel) (by decide +kernel)) <|
  n_c (s_aload_n (pc := 111) (k := 0) (by decide +kernel)) <|
  n_c (s_iload_n (pc := 112) (k := 3) (by decide +kernel)) <|
  n_c (s_iconst (pc := 113) (n := 0) (by decide +kernel) (by decide +kernel)) <|
  n_c (s_bipush (pc := 114) (n := 9) (by decide +kernel) (by decide +kernel)) <|
  n_c (s_callVc (s_callV (pc := 116) (csX12_isIn) (by decide) okX12_isIn nok12 w_1659 w_46 w_1657 (by decide +kernel)) (gk107 hG)) <|
  n_c (s_if_eq (pc := 119) (off := 7) (by decide +kernel) (by decide +kernel)) <|
  n_c (s_iconst (pc := 122) (n := 1) (by decide +kernel) (by decide +kernel)) <|
  n_c (s_goto (pc := 123) (off := 4) (by decide +kernel) (by decide +kernel)) <|
  n_c (s_iconst (pc := 126) (n := 0) (by decide +kernel) (by decide +kernel)) <|
  n_c (s_zret (pc := 127) rfl (by decide +kernel)) <|
  n_e
def fX12_canSet_81 (s0 : Int32) (s1 : Int32) (s2 : Int32) (M : nM) : Option (Int32 × nM) :=
  (fX12_isIn s2 s1 s0 M).bind fun p1 =>
  if p1.1 = 0 then
    some ((0 : Int32), p1.2)
  else
    some ((1 : Int32), p1.2)
set_option maxRecDepth 200000 in
theorem bX12_canSet_81 {l : Launch} {w : nW} {G : nG} (hG : n_GOK G) (s0 : Int32) (s1 : Int32) (s2 : Int32) (M : nM) (r : Int32 × nM) (h : fX12_canSet_81 s0 s1 s2 M = some r) : n_At l w 1 mX12_canSet 81 [] [.int s0, .int s1, .int s2, .ref 107] (G, M) (dv_i r.1, (G, r.2)) :=
  n_seg (fin := n_fin dv_i G) (K := []) 10 (iX12_canSet hG) n_ke (by rfl) h
def fX12_canSet_59 (x1 : Int32) (s0 : Int32) (s1 : Int32) (M : nM) : Option (Int32 × nM) :=
  if ¬ x1 = (1 : Int32) then
    if ¬ x1 = (2 : Int32) then
      fX12_canSet_81 (1 : Int32) s0 s1 M
    else
      fX12_canSet_81 (999 : Int32) s0 s1 M
  else
    fX12_canSet_81 (9 : Int32) s0 s1 M
set_option maxRecDepth 200000 in
theorem bX12_canSet_59 {l : Launch} {w : nW} {G : nG} (hG : n_GOK G) (x1 : Int32) (s0 : Int32) (s1 : Int32) (M : nM) (r : Int32 × nM) (h : fX12_canSet_59 x1 s0 s1 M = some r) : n_At l w 1 mX12_canSet 59 [(1, .int x1)] [.int s0, .int s1, .ref 107] (G, M) (dv_i r.1, (G, r.2)) :=
  n_seg (fin := n_fin dv_i G) (K := [(81, fun lv st M => n_pI st (fun s0 st => n_pI st (fun s1 st => n_pI st (fun s2 st => n_pC 107 st (fun st => n_pE st (fX12_canSet_81 s0 s1 s2 M))))))]) 14 (iX12_canSet hG) (n_kc (fun lv st M r h => by
      obtain ⟨s0, t0, rfl, h1⟩ := n_pI_x h
      obtain ⟨s1, t1, rfl, h2⟩ := n_pI_x h1
      obtain ⟨s2, t2, rfl, h3⟩ := n_pI_x h2
      obtain ⟨t3, rfl, h4⟩ := n_pC_x h3
      obtain ⟨rfl, h5⟩ := n_pE_x h4
      exact n_sub n_qe (bX12_canSet_81 hG s0 s1 s2 M r h5)) n_ke) (by rfl) h
def fX12_canSet (x1 : Int32) (x2 : Int32) (x3 : Int32) (M : nM) : Option (Int32 × nM) :=
  if ¬ x1 = 0 then
    (fX12_isIn x1 (1 : Int32) (3 : Int32) M).bind fun p1 =>
    if p1.1 = 0 then
      (fX12_isIn x1 (4 : Int32) (5 : Int32) p1.2).bind fun p2 =>
      if p2.1 = 0 then
        some ((0 : Int32), p2.2)
      else
        (fX12_isPerson x2 p2.2).bind fun p3 =>
        if p3.1 = 0 then
          some ((0 : Int32), p3.2)
        else
          (fX12_isIn x3 (0 : Int32) (9 : Int32) p3.2).bind fun p4 =>
          if p4.1 = 0 then
            some ((0 : Int32), p4.2)
          else
            some ((1 : Int32), p4.2)
    else
      (fX12_isThing x2 p1.2).bind fun p5 =>
      if p5.1 = 0 then
        some ((0 : Int32), p5.2)
      else
        if ¬ x1 = (1 : Int32) then
          fX12_canSet_59 x1 (0 : Int32) x3 p5.2
        else
          fX12_canSet_59 x1 (1 : Int32) x3 p5.2
  else
    (fX12_isPlace x2 M).bind fun p6 =>
    if p6.1 = 0 then
      some ((0 : Int32), p6.2)
    else
      (fX12_isIn x3 (0 : Int32) (99 : Int32) p6.2).bind fun p7 =>
      if p7.1 = 0 then
        some ((0 : Int32), p7.2)
      else
        some ((1 : Int32), p7.2)
set_option maxRecDepth 200000 in
theorem bX12_canSet_0 {l : Launch} {w : nW} {G : nG} (hG : n_GOK G) (x1 : Int32) (x2 : Int32) (x3 : Int32) (M : nM) (r : Int32 × nM) (h : fX12_canSet x1 x2 x3 M = some r) : n_At l w 1 mX12_canSet 0 [(0, .ref 107), (1, .int x1), (2, .int x2), (3, .int x3)] [] (G, M) (dv_i r.1, (G, r.2)) :=
  n_seg (fin := n_fin dv_i G) (K := [(59, fun lv st M => n_lI lv 1 (fun x1 => n_pI st (fun s0 st => n_pI st (fun s1 st => n_pC 107 st (fun st => n_pE st (fX12_canSet_59 x1 s0 s1 M))))))]) 67 (iX12_canSet hG) (n_kc (fun lv st M r h => by
      obtain ⟨x1, e1, h1⟩ := n_lI_x h
      obtain ⟨s0, t0, rfl, h2⟩ := n_pI_x h1
      obtain ⟨s1, t1, rfl, h3⟩ := n_pI_x h2
      obtain ⟨t2, rfl, h4⟩ := n_pC_x h3
      obtain ⟨rfl, h5⟩ := n_pE_x h4
      exact n_sub (n_qc e1 n_qe) (bX12_canSet_59 hG x1 s0 s1 M r h5)) n_ke) (by rfl) h
theorem eX12_canSet {l : Launch} {w : nW} {G : nG} (hG : n_GOK G) (z1 : Int32) (z2 : Int32) (z3 : Int32) (M : nM) (r : Int32 × nM) (h : fX12_canSet z1 z2 z3 M = some r) : n_Met l w 1 mX12_canSet [.ref 107, .int z1, .int z2, .int z3] (G, M) (dv_i r.1, (G, r.2)) :=
  n_entry (by decide +kernel) rfl (Nat.le_of_ble_eq_true rfl) (n_sub (lv := [(0, .ref 107), (1, .int z1), (2, .int z2), (3, .int z3)]) (n_qc rfl (n_qc rfl (n_qc rfl (n_qc rfl n_qe)))) (bX12_canSet_0 hG z1 z2 z3 M r h))
abbrev hX12_canSet : nF := fun T as M k => n_pC 107 as (fun as => n_pI as (fun z1 as => n_pI as (fun z2 as => n_pI as (fun z3 as => n_pE as ((fX12_canSet z1 z2 z3 M).bind fun p => k (dv_i p.1) p.2)))))
theorem csX12_canSet {l : Launch} {w : nW} {G : nG} (hG : n_GOK G) : n_CS l w 1 mX12_canSet G (hX12_canSet) := fun T as M k r h => by
  obtain ⟨t0, rfl, h1⟩ := n_pC_x h
  obtain ⟨z1, t1, rfl, h2⟩ := n_pI_x h1
  obtain ⟨z2, t2, rfl, h3⟩ := n_pI_x h2
  obtain ⟨z3, t3, rfl, h4⟩ := n_pI_x h3
  obtain ⟨rfl, hE⟩ := n_pE_x h4
  obtain ⟨p, hp, hk⟩ := Option.bind_eq_some_iff.mp hE
  exact ⟨_, _, eX12_canSet hG z1 z2 z3 M p hp, hk⟩
