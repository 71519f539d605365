/-! ===== SleightHouse$Thought.outOfRing(III)I ===== -/
def mX9_outOfRing : nY := (RX9, yX9_outOfRing, cX9_outOfRing, 6, some .int)
theorem okX9_outOfRing : n_MOK mX9_outOfRing 3 := ⟨w_1212, w_149, ⟨by decide +kernel, by decide +kernel, by decide +kernel⟩, by decide⟩
abbrev aX9_outOfRing (N : Nat) : List (Nat × nO (Int32 × nM)) := [(0, o_iload 2 1), (1, o_istore 6 3 2), (2, o_iload 0 3), (3, o_istore 6 4 5), (5, o_iload 4 7), (7, oi_le 50 10), (10, o_iload 1 11), (11, o_push (.int (1 : Int32)) 12), (12, o_isub 13), (13, o_iload 4 15), (15, o_irem 16), (16, o_istore 6 5 18), (18, o_iload 3 19), (19, o_iload 5 21), (21, oc_ne 31 24), (24, o_iload 0 25), (25, o_iload 4 27), (27, o_isub 28), (28, o_push (.int (1 : Int32)) 29), (29, o_iadd 30), (30, o_iret), (31, o_iload 3 32), (32, o_iload 5 34), (34, o_isub 35), (35, o_push (.int (1 : Int32)) 36), (36, o_isub 37), (37, o_iload 4 39), (39, o_iadd 40), (40, o_iload 4 42), (42, o_irem 43), (43, o_istore 6 3 44), (44, o_inc 6 4 (-1 : Int32) 47), (47, o_goto 5), (50, o_push (.int (-1 : Int32)) 51), (51, o_iret)]
set_option maxRecDepth 200000 in
theorem iX9_outOfRing {l : Launch} {w : nW} (N : Nat) {G : nG} : n_AllS l w 0 mX9_outOfRing G (n_fin dv_i G) (aX9_outOfRing N) :=
  n_c (s_iload_n (pc := 0) (k := 2) (by decide +kernel)) <|
  n_c (s_istore_n (pc := 1) (k := 3) (by decide +kernel)) <|
  n_c (s_iload_n (pc := 2) (k := 0) (by decide +kernel)) <|
  n_c (s_istore (pc := 3) (by decide +kernel)) <|
  n_c (s_iload (pc := 5) (by decide +kernel)) <|
  n_c (s_if_le (pc := 7) (off := 43) (by decide +kernel) (by decide +kernel)) <|
  n_c (s_iload_n (pc := 10) (k := 1) (by decide +kernel)) <|
  n_c (s_iconst (pc := 11) (n := 1) (by decide +kernel) (by decide +kernel)) <|
  n_c (s_isub (pc := 12) (by decide +kernel)) <|
  n_c (s_iload (pc := 13) (by decide +kernel)) <|
  n_c (s_irem (pc := 15) (by decide +kernel)) <|
  n_c (s_istore (pc := 16) (by decide +kernel)) <|
  n_c (s_iload_n (pc := 18) (k := 3) (by decide +kernel)) <|
  n_c (s_iload (pc := 19) (by decide +kernel)) <|
  n_c (s_icmp_ne (pc := 21) (off := 10) (by decide +kernel) (by decide +kernel)) <|
  n_c (s_iload_n (pc := 24) (k := 0) (by decide +kernel)) <|
  n_c (s_iload (pc := 25) (by decide +kernel)) <|
  n_c (s_isub (pc := 27) (by decide +kernel)) <|
  n_c (s_iconst (pc := 28) (n := 1) (by decide +kernel) (by decide +kernel)) <|
  n_c (s_iadd (pc := 29) (by decide +kernel)) <|
  n_c (s_iret (pc := 30) rfl (by decide +kernel)) <|
  n_c (s_iload_n (pc := 31) (k := 3) (by decide +kernel)) <|
  n_c (s_iload (pc := 32) (by decide +kernel)) <|
  n_c (s_isub (pc := 34) (by decide +kernel)) <|
  n_c (s_iconst (pc := 35) (n := 1) (by decide +kernel) (by decide +kernel)) <|
  n_c (s_isub (pc := 36) (by decide +kernel)) <|
  n_c (s_iload (pc := 37) (by decide +kernel)) <|
  n_c (s_iadd (pc := 39) (by decide +kernel)) <|
  n_c (s_iload (pc := 40) (by decide +kernel)) <|
  n_c (s_irem (pc := 42) (by decide +kernel)) <|
  n_c (s_istore_n (pc := 43) (k := 3) (by decide +kernel)) <|
  n_c (s_iinc (pc := 44) (n := -1) (by decide +kernel) (by decide +kernel)) <|
  n_c (s_goto (pc := 47) (off := -42) (by decide +kernel) (by decide +kernel)) <|
  n_c (s_iconst (pc := 50) (n := -1) (by decide +kernel) (by decide +kernel)) <|
  n_c (s_iret (pc := 51) rfl (by decide +kernel)) <|
  n_e
def fX9_outOfRing_5 (N : Nat) : Nat → Int32 → Int32 → Int32 → Int32 → nM → Option (Int32 × nM)
  | 0, _, _, _, _, _ => none
  | n + 1, x0, x1, x3, x4, M =>
    if x4 ≤ 0 then
      some ((-1 : Int32), M)
    else
      if x4 = 0 then none else
      let v1 : Int32 := ((x1 - (1 : Int32)) - (x1 - (1 : Int32)) / x4 * x4)
      if ¬ x3 = v1 then
        if x4 = 0 then none else
        let v2 : Int32 := ((((x3 - v1) - (1 : Int32)) + x4) - (((x3 - v1) - (1 : Int32)) + x4) / x4 * x4)
        let v3 : Int32 := (x4 + (-1 : Int32))
        fX9_outOfRing_5 N n x0 x1 v2 v3 M
      else
        some (((x0 - x4) + (1 : Int32)), M)
set_option maxRecDepth 200000 in
theorem bX9_outOfRing_5 {l : Launch} {w : nW} (N : Nat) {G : nG} : ∀ (n : Nat) (x0 : Int32) (x1 : Int32) (x3 : Int32) (x4 : Int32) (M : nM) (r : Int32 × nM), fX9_outOfRing_5 N n x0 x1 x3 x4 M = some r → n_At l w 0 mX9_outOfRing 5 [(0, .int x0), (1, .int x1), (3, .int x3), (4, .int x4)] [] (G, M) (dv_i r.1, (G, r.2)) := by
  intro n
  induction n with
  | zero => intro x0 x1 x3 x4 M r h; cases (show (none : Option (Int32 × nM)) = some r from h)
  | succ n ih =>
    intro x0 x1 x3 x4 M r h
    exact n_seg (fin := n_fin dv_i G) (K := [(5, fun lv st M => n_lI lv 0 (fun x0 => n_lI lv 1 (fun x1 => n_lI lv 3 (fun x3 => n_lI lv 4 (fun x4 => n_pE st (fX9_outOfRing_5 N n x0 x1 x3 x4 M))))))]) 34 (iX9_outOfRing N) (n_kc (fun lv st M r h => by
      obtain ⟨x0, e0, h1⟩ := n_lI_x h
      obtain ⟨x1, e1, h2⟩ := n_lI_x h1
      obtain ⟨x3, e3, h3⟩ := n_lI_x h2
      obtain ⟨x4, e4, h4⟩ := n_lI_x h3
      obtain ⟨rfl, h5⟩ := n_pE_x h4
      exact n_sub (n_qc e0 (n_qc e1 (n_qc e3 (n_qc e4 n_qe)))) (ih x0 x1 x3 x4 M r h5)) n_ke) (by rfl) h
def fX9_outOfRing (N : Nat) (x0 : Int32) (x1 : Int32) (x2 : Int32) (M : nM) : Option (Int32 × nM) :=
  fX9_outOfRing_5 N N x0 x1 x2 x0 M
set_option maxRecDepth 200000 in
theorem bX9_outOfRing_0 {l : Launch} {w : nW} (N : Nat) {G : nG} (x0 : Int32) (x1 : Int32) (x2 : Int32) (M : nM) (r : Int32 × nM) (h : fX9_outOfRing N x0 x1 x2 M = some r) : n_At l w 0 mX9_outOfRing 0 [(0, .int x0), (1, .int x1), (2, .int x2)] [] (G, M) (dv_i r.1, (G, r.2)) :=
  n_seg (fin := n_fin dv_i G) (K := [(5, fun lv st M => n_lI lv 0 (fun x0 => n_lI lv 1 (fun x1 => n_lI lv 3 (fun x3 => n_lI lv 4 (fun x4 => n_pE st (fX9_outOfRing_5 N N x0 x1 x3 x4 M))))))]) 7 (iX9_outOfRing N) (n_kc (fun lv st M r h => by
      obtain ⟨x0, e0, h1⟩ := n_lI_x h
      obtain ⟨x1, e1, h2⟩ := n_lI_x h1
      obtain ⟨x3, e3, h3⟩ := n_lI_x h2
      obtain ⟨x4, e4, h4⟩ := n_lI_x h3
      obtain ⟨rfl, h5⟩ := n_pE_x h4
      exact n_sub (n_qc e0 (n_qc e1 (n_qc e3 (n_qc e4 n_qe)))) (bX9_outOfRing_5 N N x0 x1 x3 x4 M r h5)) n_ke) (by rfl) h
theorem eX9_outOfRing {l : Launch} {w : nW} (N : Nat) {G : nG} (z0 : Int32) (z1 : Int32) (z2 : Int32) (M : nM) (r : Int32 × nM) (h : fX9_outOfRing N z0 z1 z2 M = some r) : n_Met l w 0 mX9_outOfRing [.int z0, .int z1, .int z2] (G, M) (dv_i r.1, (G, r.2)) :=
  n_entry (by decide +kernel) rfl (Nat.le_of_ble_eq_true rfl) (n_sub (lv := [(0, .int z0), (1, .int z1), (2, .int z2)]) (n_qc rfl (n_qc rfl (n_qc rfl n_qe))) (bX9_outOfRing_0 N z0 z1 z2 M r h))
abbrev hX9_outOfRing (N : Nat) : nF := fun T as M k => n_pI as (fun z0 as => n_pI as (fun z1 as => n_pI as (fun z2 as => n_pE as ((fX9_outOfRing N z0 z1 z2 M).bind fun p => k (dv_i p.1) p.2))))
theorem csX9_outOfRing {l : Launch} {w : nW} (N : Nat) {G : nG} : n_CS l w 0 mX9_outOfRing G (hX9_outOfRing N) := fun T as M k r h => by
  obtain ⟨z0, t0, rfl, h1⟩ := n_pI_x h
  obtain ⟨z1, t1, rfl, h2⟩ := n_pI_x h1
  obtain ⟨z2, t2, rfl, h3⟩ := n_pI_x h2
  obtain ⟨rfl, hE⟩ := n_pE_x h3
  obtain ⟨p, hp, hk⟩ := Option.bind_eq_some_iff.mp hE
  exact ⟨_, _, eX9_outOfRing N z0 z1 z2 M p hp, hk⟩
/-! ===== SleightHouse.ring(III)I ===== -/
def mX11_ring : nY := (RX11, yX11_ring, cX11_ring, 4, some .int)
theorem okX11_ring : n_MOK mX11_ring 3 := ⟨w_1206, w_137, ⟨by decide +kernel, by decide +kernel, by decide +kernel⟩, by decide⟩
abbrev aX11_ring (N : Nat) : List (Nat × nO (Int32 × nM)) := [(0, o_iload 1 1), (1, o_push (.int (1 : Int32)) 2), (2, o_push (.int (40 : Int32)) 4), (4, o_call 3 (hX11_within) 7), (7, oi_eq 20 10), (10, o_iload 2 11), (11, o_push (.int (1 : Int32)) 12), (12, o_push (.int (20 : Int32)) 14), (14, o_call 3 (hX11_within) 17), (17, oi_ne 22 20), (20, o_push (.int (-1 : Int32)) 21), (21, o_iret), (22, o_iload 3 23), (23, o_push (.int (-1 : Int32)) 24), (24, oc_ne 33 27), (27, o_iload 1 28), (28, o_iload 2 29), (29, o_call 2 (hX9_lastInRing N) 32), (32, o_iret), (33, o_iload 3 34), (34, o_push (.int (0 : Int32)) 35), (35, o_iload 1 36), (36, o_push (.int (1 : Int32)) 37), (37, o_isub 38), (38, o_call 3 (hX11_within) 41), (41, oi_eq 53 44), (44, o_iload 1 45), (45, o_iload 2 46), (46, o_iload 3 47), (47, o_call 3 (hX9_outOfRing N) 50), (50, o_goto 54), (53, o_push (.int (-1 : Int32)) 54), (54, o_iret)]
set_option maxRecDepth 200000 in
theorem iX11_ring {l : Launch} {w : nW} (N : Nat) {G : nG} : n_AllS l w 1 mX11_ring G (n_fin dv_i G) (aX11_ring N) :=
  n_c (s_iload_n (pc := 0) (k := 1) (by decide +kernel)) <|
  n_c (s_iconst (pc := 1) (n := 1) (by decide +kernel) (by decide +kernel)) <|
  n_c (s_bipush (pc := 2) (n := 40) (by decide +kernel) (by decide +kernel)) <|
  n_c (s_callS (pc := 4) (csX11_within) (by decide) okX11_within w_610 w_609 (by decide +kernel)) <|
  n_c (s_if_eq (pc := 7) (off := 13) (by decide +kernel) (by decide +kernel)) <|
  n_c (s_iload_n (pc := 10) (k := 2) (by decide +kernel)) <|
  n_c (s_iconst (pc := 11) (n := 1) (by decide +kernel) (by decide +kernel)) <|
  n_c (s_bipush (pc := 12) (n := 20) (by decide +kernel) (by decide +kernel)) <|
  n_c (s_callS (pc := 14) (csX11_within) (by decide) okX11_within w_610 w_609 (by decide +kernel)) <|
  n_c (s_if_ne (pc := 17) (off := 5) (by decide +kernel) (by decide +kernel)) <|
  n_c (s_iconst (pc := 20) (n := -1) (by decide +kernel) (by decide +kernel)) <|
  n_c (s_iret (pc := 21) rfl (by decide +kernel)) <|
  n_c (s_iload_n (pc := 22) (k := 3) (by decide +kernel)) <|
  n_c (s_iconst (pc := 23) (n := -1) (by decide +kernel) (by decide +kernel)) <|
  n_c (s_icmp_ne (pc := 24) (off := 9) (by decide +kernel) (by decide +kernel)) <|
  n_c (s_iload_n (pc := 27) (k := 1) (by decide +kernel)) <|
  n_c (s_iload_n (pc := 28) (k := 2) (by decide +kernel)) <|
  n_c (s_callS (pc := 29) (csX9_lastInRing N) (by decide) okX9_lastInRing w_1208 w_1207 (by decide +kernel)) <|
  n_c (s_iret (pc := 32) rfl (by decide +kernel)) <|
  n_c (s_iload_n (pc := 33) (k := 3) (by decide +kernel)) <|
  n_c (s_iconst (pc := 34) (n := 0) (by decide +kernel) (by decide +kernel)) <|
  n_c (s_iload_n (pc := 35) (k := 1) (by decide +kernel)) <|
  n_c (s_iconst (pc := 36) (n := 1) (by decide +kernel) (by decide +kernel)) <|
  n_c (s_isub (pc := 37) (by decide +kernel)) <|
  n_c (s_callS (pc := 38) (csX11_within) (by decide) okX11_within w_610 w_609 (by decide +kernel)) <|
  n_c (s_if_eq (pc := 41) (off := 12) (by decide +kernel) (by decide +kernel)) <|
  n_c (s_iload_n (pc := 44) (k := 1) (by decide +kernel)) <|
  n_c (s_iload_n (pc := 45) (k := 2) (by decide +kernel)) <|
  n_c (s_iload_n (pc := 46) (k := 3) (by decide +kernel)) <|
  n_c (s_callS (pc := 47) (csX9_outOfRing N) (by decide) okX9_outOfRing w_1211 w_1210 (by decide +kernel)) <|
  n_c (s_goto (pc := 50) (off := 4) (by decide +kernel) (by decide +kernel)) <|
  n_c (s_iconst (pc := 53) (n := -1) (by decide +kernel) (by decide +kernel)) <|
  n_c (s_iret (pc := 54) rfl (by decide +kernel)) <|
  n_e
def fX11_ring (N : Nat) (x1 : Int32) (x2 : Int32) (x3 : Int32) (M : nM) : Option (Int32 × nM) :=
  (fX11_within x1 (1 : Int32) (40 : Int32) M).bind fun p1 =>
  if p1.1 = 0 then
    some ((-1 : Int32), p1.2)
  else
    (fX11_within x2 (1 : Int32) (20 : Int32) p1.2).bind fun p2 =>
    if ¬ p2.1 = 0 then
      if ¬ x3 = (-1 : Int32) then
        (fX11_within x3 (0 : Int32) (x1 - (1 : Int32)) p2.2).bind fun p3 =>
        if p3.1 = 0 then
          some ((-1 : Int32), p3.2)
        else
          (fX9_outOfRing N x1 x2 x3 p3.2).bind fun p4 =>
          some (p4.1, p4.2)
      else
        (fX9_lastInRing N x1 x2 p2.2).bind fun p5 =>
        some (p5.1, p5.2)
    else
      some ((-1 : Int32), p2.2)
set_option maxRecDepth 200000 in
theorem bX11_ring_0 {l : Launch} {w : nW} (N : Nat) {G : nG} (x1 : Int32) (x2 : Int32) (x3 : Int32) (M : nM) (r : Int32 × nM) (h : fX11_ring N x1 x2 x3 M = some r) : n_At l w 1 mX11_ring 0 [(1, .int x1), (2, .int x2), (3, .int x3)] [] (G, M) (dv_i r.1, (G, r.2)) :=
  n_seg (fin := n_fin dv_i G) (K := []) 39 (iX11_ring N) n_ke (by rfl) h
theorem eX11_ring {l : Launch} {w : nW} (N : Nat) {G : nG} (z1 : Int32) (z2 : Int32) (z3 : Int32) (M : nM) (r : Int32 × nM) (h : fX11_ring N z1 z2 z3 M = some r) : n_Met l w 1 mX11_ring [.ref 1, .int z1, .int z2, .int z3] (G, M) (dv_i r.1, (G, r.2)) :=
  n_entry (by decide +kernel) rfl (Nat.le_of_ble_eq_true rfl) (n_sub (lv := [(0, .ref 1), (1, .int z1), (2, .int z2), (3, .int z3)]) (n_qc rfl (n_qc rfl (n_qc rfl n_qe))) (bX11_ring_0 N z1 z2 z3 M r h))
abbrev hX11_ring (N : Nat) : nF := fun T as M k => n_pC 1 as (fun as => n_pI as (fun z1 as => n_pI as (fun z2 as => n_pI as (fun z3 as => n_pE as ((fX11_ring N z1 z2 z3 M).bind fun p => k (dv_i p.1) p.2)))))
theorem csX11_ring {l : Launch} {w : nW} (N : Nat) {G : nG} : n_CS l w 1 mX11_ring G (hX11_ring N) := fun T as M k r h => by
  obtain ⟨t0, rfl, h1⟩ := n_pC_x h
  obtain ⟨z1, t1, rfl, h2⟩ := n_pI_x h1
  obtain ⟨z2, t2, rfl, h3⟩ := n_pI_x h2
  obtain ⟨z3, t3, rfl, h4⟩ := n_pI_x h3
  obtain ⟨rfl, hE⟩ := n_pE_x h4
  obtain ⟨p, hp, hk⟩ := Option.bind_eq_some_iff.mp hE
  exact ⟨_, _, eX11_ring N z1 z2 z3 M p hp, hk⟩
/-! ===== SleightHouseModel.ring(III)I ===== -/
def mX12_ring : nY := (RX12, yX12_ring, cX12_ring, 7, some .int)
theorem okX12_ring : n_MOK mX12_ring 3 := ⟨w_2070, w_151, ⟨by decide +kernel, by decide +kernel, by decide +kernel⟩, by decide⟩
abbrev aX12_ring (N : Nat) : List (Nat × nO (Int32 × nM)) := [(0, o_aload 0 1), (1, o_push (.int (0 : Int32)) 2), (2, o_pIc 107 0 5), (5, o_aload 0 6), (6, o_iload 1 7), (7, o_push (.int (1 : Int32)) 8), (8, o_push (.int (40 : Int32)) 10), (10, o_callVc 107 3 (hX12_isIn) 13), (13, oi_eq 39 16), (16, o_aload 0 17), (17, o_iload 2 18), (18, o_push (.int (1 : Int32)) 19), (19, o_push (.int (20 : Int32)) 21), (21, o_callVc 107 3 (hX12_isIn) 24), (24, oi_eq 39 27), (27, o_aload 0 28), (28, o_iload 3 29), (29, o_push (.int (-1 : Int32)) 30), (30, o_iload 1 31), (31, o_push (.int (1 : Int32)) 32), (32, o_isub 33), (33, o_callVc 107 3 (hX12_isIn) 36), (36, oi_ne 41 39), (39, o_push (.int (-1 : Int32)) 40), (40, o_iret), (41, o_push (.int (0 : Int32)) 42), (42, o_istore 7 4 44), (44, o_iload 4 46), (46, o_iload 1 47), (47, oc_ge 64 50), (50, o_aload 0 51), (51, o_gRc 107 140 54), (54, o_iload 4 56), (56, o_push (.int (0 : Int32)) 57), (57, o_iastc 140 40 58), (58, o_inc 7 4 (1 : Int32) 61), (61, o_goto 44), (64, o_iload 1 65), (65, o_push (.int (1 : Int32)) 66), (66, o_isub 67), (67, o_istore 7 4 69), (69, o_push (.int (1 : Int32)) 70), (70, o_istore 7 5 72), (72, o_iload 5 74), (74, o_iload 1 75), (75, oc_gt 146 78), (78, o_push (.int (0 : Int32)) 79), (79, o_istore 7 6 81), (81, o_iload 6 83), (83, o_iload 2 84), (84, oc_ge 123 87), (87, o_iload 4 89), (89, o_push (.int (1 : Int32)) 90), (90, o_iadd 91), (91, o_iload 1 92), (92, o_irem 93), (93, o_istore 7 4 95), (95, o_aload 0 96), (96, o_gRc 107 140 99), (99, o_iload 4 101), (101, o_aldc 140 40 102), (102, o_push (.int (1 : Int32)) 103), (103, oc_ne 117 106), (106, o_iload 4 108), (108, o_push (.int (1 : Int32)) 109), (109, o_iadd 110), (110, o_iload 1 111), (111, o_irem 112), (112, o_istore 7 4 114), (114, o_goto 95), (117, o_inc 7 6 (1 : Int32) 120), (120, o_goto 81), (123, o_aload 0 124), (124, o_gRc 107 140 127), (127, o_iload 4 129), (129, o_push (.int (1 : Int32)) 130), (130, o_iastc 140 40 131), (131, o_iload 4 133), (133, o_iload 3 134), (134, oc_ne 140 137), (137, o_iload 5 139), (139, o_iret), (140, o_inc 7 5 (1 : Int32) 143), (143, o_goto 72), (146, o_iload 4 148), (148, o_iret)]
set_option maxRecDepth 200000 in
theorem iX12_ring {l : Launch} {w : nW} (N : Nat) {G : nG} (hG : n_GOK G) : n_AllS l w 1 mX12_ring G (n_fin dv_i G) (aX12_ring N) :=
  n_c (s_aload_n (pc := 0) (k := 0) (by decide +kernel)) <|
  n_c (s_iconst (pc := 1) (n := 0) (by decide +kernel) (by decide +kernel)) <|
  n_c (s_pIc (s_putI (pc := 2) (ci := 12) (k := 0) (idx := 146) nok12 (by decide) rfl rfl (by decide +kernel) w_1407) (gk107 hG)) <|
  n_c (s_aload_n (pc := 5) (k := 0) (by decide +kernel)) <|
  n_c (s_iload_n (pc := 6) (k := 1) (by decide +kernel)) <|
  n_c (s_iconst (pc := 7) (n := 1) (by decide +kernel) (by decide +kernel)) <|
  n_c (s_bipush (pc := 8) (n := 40) (by decide +kernel) (by decide +kernel)) <|
  n_c (s_callVc (s_callV (pc := 10) (csX12_isIn) (by decide) okX12_isIn nok12 w_1659 w_46 w_1657 (by decide +kernel)) (gk107 hG)) <|
  n_c (s_if_eq (pc := 13) (off := 26) (by decide +kernel) (by decide +kernel)) <|
  n_c (s_aload_n (pc := 16) (k := 0) (by decide +kernel)) <|
  n_c (s_iload_n (pc := 17) (k := 2) (by decide +kernel)) <|
  n_c (s_iconst (pc := 18) (n := 1) (by decide +kernel) (by decide +kernel)) <|
  n_c (s_bipush (pc := 19) (n := 20) (by decide +kernel) (by decide +kernel)) <|
  n_c (s_callVc (s_callV (pc := 21) (csX12_isIn) (by decide) okX12_isIn nok12 w_1659 w_46 w_1657 (by decide +kernel)) (gk107 hG)) <|
  n_c (s_if_eq (pc := 24) (off := 15) (by decide +kernel) (by decide +kernel)) <|
  n_c (s_aload_n (pc := 27) (k := 0) (by decide +kernel)) <|
  n_c (s_iload_n (pc := 28) (k := 3) (by decide +kernel)) <|
  n_c (s_iconst (pc := 29) (n := -1) (by decide +kernel) (by decide +kernel)) <|
  n_c (s_iload_n (pc := 30) (k := 1) (by decide +kernel)) <|
  n_c (s_iconst (pc := 31) (n := 1) (by decide +kernel) (by decide +kernel)) <|
  n_c (s_isub (pc := 32) (by decide +kernel)) <|
  n_c (s_callVc (s_callV (pc := 33) (csX12_isIn) (by decide) okX12_isIn nok12 w_1659 w_46 w_1657 (by decide +kernel)) (gk107 hG)) <|
  n_c (s_if_ne (pc := 36) (off := 5) (by decide +kernel) (by decide +kernel)) <|
  n_c (s_iconst (pc := 39) (n := -1) (by decide +kernel) (by decide +kernel)) <|
  n_c (s_iret (pc := 40) rfl (by decide +kernel)) <|
  n_c (s_iconst (pc := 41) (n := 0) (by decide +kernel) (by decide +kernel)) <|
  n_c (s_istore (pc := 42) (by decide +kernel)) <|
  n_c (s_iload (pc := 44) (by decide +kernel)) <|
  n_c (s_iload_n (pc := 46) (k := 1) (by decide +kernel)) <|
  n_c (s_icmp_ge (pc := 47) (off := 17) (by decide +kernel) (by decide +kernel)) <|
  n_c (s_aload_n (pc := 50) (k := 0) (by decide +kernel)) <|
  n_c (s_gRc (s_getR (pc := 51) (ci := 12) (k := 57) (idx := 110) nok12 (by decide) rfl (by decide +kernel) w_1464) (gk107 hG) (gm107_57 hG)) <|
  n_c (s_iload (pc := 54) (by decide +kernel)) <|
  n_c (s_iconst (pc := 56) (n := 0) (by decide +kernel) (by decide +kernel)) <|
  n_c (s_iastc (s_iastore (pc := 57) (by decide +kernel)) (gk140 hG) (gl140 hG)) <|
  n_c (s_iinc (pc := 58) (n := 1) (by decide +kernel) (by decide +kernel)) <|
  n_c (s_goto (pc := 61) (off := -17) (by decide +kernel) (by decide +kernel)) <|
  n_c (s_iload_n (pc := 64) (k := 1) (by decide +kernel)) <|
  n_c (s_iconst (pc := 65) (n := 1) (by decide +kernel) (by decide +kernel)) <|
  n_c (s_isub (pc := 66) (by decide +kernel)) <|
  n_c (s_istore (pc := 67) (by decide +kernel)) <|
  n_c (s_iconst (pc := 69) (n := 1) (by decide +kernel) (by decide +kernel)) <|
  n_c (s_istore (pc := 70) (by decide +kernel)) <|
  n_c (s_iload (pc := 72) (by decide +kernel)) <|
  n_c (s_iload_n (pc := 74) (k := 1) (by decide +kernel)) <|
  n_c (s_icmp_gt (pc := 75) (off := 71) (by decide +kernel) (by decide +kernel)) <|
  n_c (s_iconst (pc := 78) (n := 0) (by decide +kernel) (by decide +kernel)) <|
  n_c (s_istore (pc := 79) (by decide +kernel)) <|
  n_c (s_iload (pc := 81) (by decide +kernel)) <|
  n_c (s_iload_n (pc := 83) (k := 2) (by decide +kernel)) <|
  n_c (s_icmp_ge (pc := 84) (off := 39) (by decide +kernel) (by decide +kernel)) <|
  n_c (s_iload (pc := 87) (by decide +kernel)) <|
  n_c (s_iconst (pc := 89) (n := 1) (by decide +kernel) (by decide +kernel)) <|
  n_c (s_iadd (pc := 90) (by decide +kernel)) <|
  n_c (s_iload_n (pc := 91) (k := 1) (by decide +kernel)) <|
  n_c (s_irem (pc := 92) (by decide +kernel)) <|
  n_c (s_istore (pc := 93) (by decide +kernel)) <|
  n_c (s_aload_n (pc := 95) (k := 0) (by decide +kernel)) <|
  n_c (s_gRc (s_getR (pc := 96) (ci := 12) (k := 57) (idx := 110) nok12 (by decide) rfl (by decide +kernel) w_1464) (gk107 hG) (gm107_57 hG)) <|
  n_c (s_iload (pc := 99) (by decide +kernel)) <|
  n_c (s_aldc (s_iaload (pc := 101) (by decide +kernel)) (gk140 hG) (gl140 hG)) <|
  n_c (s_iconst (pc := 102) (n := 1) (by decide +kernel) (by decide +kernel)) <|
  n_c (s_icmp_ne (pc := 103) (off := 14) (by decide +kernel) (by decide +kernel)) <|
  n_c (s_iload (pc := 106) (by decide +kernel)) <|
  n_c (s_iconst (pc := 108) (n := 1) (by decide +kernel) (by decide +kernel)) <|
  n_c (s_iadd (pc := 109) (by decide +kernel)) <|
  n_c (s_iload_n (pc := 110) (k := 1) (by decide +kernel)) <|
  n_c (s_irem (pc := 111) (by decide +kernel)) <|
  n_c (s_istore (pc := 112) (by decide +kernel)) <|
  n_c (s_goto (pc := 114) (off := -19) (by decide +kernel) (by decide +kernel)) <|
  n_c (s_iinc (pc := 117) (n := 1) (by decide +kernel) (by decide +kernel)) <|
  n_c (s_goto (pc := 120) (off := -39) (by decide +kernel) (by decide +kernel)) <|
  n_c (s_aload_n (pc := 123) (k := 0) (by decide +kernel)) <|
  n_c (s_gRc (s_getR (pc := 124) (ci := 12) (k := 57) (idx := 110) nok12 (by decide) rfl (by decide +kernel) w_1464) (gk107 hG) (gm107_57 hG)) <|
  n_c (s_iload (pc := 127) (by decide +kernel)) <|
  n_c (s_iconst (pc := 129) (n := 1) (by decide +kernel) (by decide +kernel)) <|
  n_c (s_iastc (s_iastore (pc := 130) (by decide +kernel)) (gk140 hG) (gl140 hG)) <|
  n_c (s_iload (pc := 131) (by decide +kernel)) <|
  n_c (s_iload_n (pc := 133) (k := 3) (by decide +kernel)) <|
  n_c (s_icmp_ne (pc := 134) (off := 6) (by decide +kernel) (by decide +kernel)) <|
  n_c (s_iload (pc := 137) (by decide +kernel)) <|
  n_c (s_iret (pc := 139) rfl (by decide +kernel)) <|
  n_c (s_iinc (pc := 140) (n := 1) (by decide +kernel) (by decide +kernel)) <|
  n_c (s_goto (pc := 143) (off := -71) (by decide +kernel) (by decide +kernel)) <|
  n_c (s_iload (pc := 146) (by decide +kernel)) <|
  n_c (s_iret (pc := 148) rfl (by decide +kernel)) <|
  n_e
def fX12_ring_95 (N : Nat) (k72 : Int32 → Int32 → Int32 → Int32 → Int32 → nM → Option (Int32 × nM)) (k81 : Int32 → Int32 → Int32 → Int32 → Int32 → Int32 → nM → Option (Int32 × nM)) : Nat → Int32 → Int32 → Int32 → Int32 → Int32 → Int32 → nM → Option (Int32 × nM)
  | 0, _, _, _, _, _, _, _ => none
  | n + 1, x1, x2, x3, x4, x5, x6, M =>
    n_chk (n_ib 40 x4) <|
    if ¬ (M 140 x4.toNatClampNeg) = (1 : Int32) then
      let v1 : Int32 := (x6 + (1 : Int32))
      k81 x1 x2 x3 x4 x5 v1 M
    else
      if x1 = 0 then none else
      let v2 : Int32 := ((x4 + (1 : Int32)) - (x4 + (1 : Int32)) / x1 * x1)
      fX12_ring_95 N k72 k81 n x1 x2 x3 v2 x5 x6 M
set_option maxRecDepth 200000 in
theorem bX12_ring_95 {l : Launch} {w : nW} (N : Nat) {G : nG} (hG : n_GOK G) (k72 : Int32 → Int32 → Int32 → Int32 → Int32 → nM → Option (Int32 × nM)) (hk72 : ∀ (x1 : Int32) (x2 : Int32) (x3 : Int32) (x4 : Int32) (x5 : Int32) (M : nM) (r : Int32 × nM), k72 x1 x2 x3 x4 x5 M = some r → n_At l w 1 mX12_ring 72 [(0, .ref 107), (1, .int x1), (2, .int x2), (3, .int x3), (4, .int x4), (5, .int x5)] [] (G, M) (dv_i r.1, (G, r.2))) (k81 : Int32 → Int32 → Int32 → Int32 → Int32 → Int32 → nM → Option (Int32 × nM)) (hk81 : ∀ (x1 : Int32) (x2 : Int32) (x3 : Int32) (x4 : Int32) (x5 : Int32) (x6 : Int32) (M : nM) (r : Int32 × nM), k81 x1 x2 x3 x4 x5 x6 M = some r → n_At l w 1 mX12_ring 81 [(0, .ref 107), (1, .int x1), (2, .int x2), (3, .int x3), (4, .int x4), (5, .int x5), (6, .int x6)] [] (G, M) (dv_i r.1, (G, r.2))) : ∀ (n : Nat) (x1 : Int32) (x2 : Int32) (x3 : Int32) (x4 : Int32) (x5 : Int32) (x6 : Int32) (M : nM) (r : Int32 × nM), fX12_ring_95 N k72 k81 n x1 x2 x3 x4 x5 x6 M = some r → n_At l w 1 mX12_ring 95 [(0, .ref 107), (1, .int x1), (2, .int x2), (3, .int x3), (4, .int x4), (5, .int x5), (6, .int x6)] [] (G, M) (dv_i r.1, (G, r.2)) := by
  intro n
  induction n with
  | zero => intro x1 x2 x3 x4 x5 x6 M r h; cases (show (none : Option (Int32 × nM)) = some r from h)
  | succ n ih =>
    intro x1 x2 x3 x4 x5 x6 M r h
    exact n_seg (fin := n_fin dv_i G) (K := [(81, fun lv st M => n_lC 107 lv 0 (n_lI lv 1 (fun x1 => n_lI lv 2 (fun x2 => n_lI lv 3 (fun x3 => n_lI lv 4 (fun x4 => n_lI lv 5 (fun x5 => n_lI lv 6 (fun x6 => n_pE st (k81 x1 x2 x3 x4 x5 x6 M))))))))), (95, fun lv st M => n_lC 107 lv 0 (n_lI lv 1 (fun x1 => n_lI lv 2 (fun x2 => n_lI lv 3 (fun x3 => n_lI lv 4 (fun x4 => n_lI lv 5 (fun x5 => n_lI lv 6 (fun x6 => n_pE st (fX12_ring_95 N k72 k81 n x1 x2 x3 x4 x5 x6 M)))))))))]) 18 (iX12_ring N hG) (n_kc (fun lv st M r h => by
      obtain ⟨e0, h1⟩ := n_lC_x h
      obtain ⟨x1, e1, h2⟩ := n_lI_x h1
      obtain ⟨x2, e2, h3⟩ := n_lI_x h2
      obtain ⟨x3, e3, h4⟩ := n_lI_x h3
      obtain ⟨x4, e4, h5⟩ := n_lI_x h4
      obtain ⟨x5, e5, h6⟩ := n_lI_x h5
      obtain ⟨x6, e6, h7⟩ := n_lI_x h6
      obtain ⟨rfl, h8⟩ := n_pE_x h7
      exact n_sub (n_qc e0 (n_qc e1 (n_qc e2 (n_qc e3 (n_qc e4 (n_qc e5 (n_qc e6 n_qe))))))) (hk81 x1 x2 x3 x4 x5 x6 M r h8)) (n_kc (fun lv st M r h => by
      obtain ⟨e0, h1⟩ := n_lC_x h
      obtain ⟨x1, e1, h2⟩ := n_lI_x h1
      obtain ⟨x2, e2, h3⟩ := n_lI_x h2
      obtain ⟨x3, e3, h4⟩ := n_lI_x h3
      obtain ⟨x4, e4, h5⟩ := n_lI_x h4
      obtain ⟨x5, e5, h6⟩ := n_lI_x h5
      obtain ⟨x6, e6, h7⟩ := n_lI_x h6
      obtain ⟨rfl, h8⟩ := n_pE_x h7
      exact n_sub (n_qc e0 (n_qc e1 (n_qc e2 (n_qc e3 (n_qc e4 (n_qc e5 (n_qc e6 n_qe))))))) (ih x1 x2 x3 x4 x5 x6 M r h8)) n_ke)) (by rfl) h
def fX12_ring_81 (N : Nat) (k72 : Int32 → Int32 → Int32 → Int32 → Int32 → nM → Option (Int32 × nM)) : Nat → Int32 → Int32 → Int32 → Int32 → Int32 → Int32 → nM → Option (Int32 × nM)
  | 0, _, _, _, _, _, _, _ => none
  | n + 1, x1, x2, x3, x4, x5, x6, M =>
    if x2 ≤ x6 then
      n_chk (n_ib 40 x4) <|
      let M1 : nM := n_up M 140 x4.toNatClampNeg (1 : Int32)
      if ¬ x4 = x3 then
        let v2 : Int32 := (x5 + (1 : Int32))
        k72 x1 x2 x3 x4 v2 M1
      else
        some (x5, M1)
    else
      if x1 = 0 then none else
      let v3 : Int32 := ((x4 + (1 : Int32)) - (x4 + (1 : Int32)) / x1 * x1)
      fX12_ring_95 N k72 (fun x1 x2 x3 x4 x5 x6 M => fX12_ring_81 N k72 n x1 x2 x3 x4 x5 x6 M) N x1 x2 x3 v3 x5 x6 M
set_option maxRecDepth 200000 in
theorem bX12_ring_81 {l : Launch} {w : nW} (N : Nat) {G : nG} (hG : n_GOK G) (k72 : Int32 → Int32 → Int32 → Int32 → Int32 → nM → Option (Int32 × nM)) (hk72 : ∀ (x1 : Int32) (x2 : Int32) (x3 : Int32) (x4 : Int32) (x5 : Int32) (M : nM) (r : Int32 × nM), k72 x1 x2 x3 x4 x5 M = some r → n_At l w 1 mX12_ring 72 [(0, .ref 107), (1, .int x1), (2, .int x2), (3, .int x3), (4, .int x4), (5, .int x5)] [] (G, M) (dv_i r.1, (G, r.2))) : ∀ (n : Nat) (x1 : Int32) (x2 : Int32) (x3 : Int32) (x4 : Int32) (x5 : Int32) (x6 : Int32) (M : nM) (r : Int32 × nM), fX12_ring_81 N k72 n x1 x2 x3 x4 x5 x6 M = some r → n_At l w 1 mX12_ring 81 [(0, .ref 107), (1, .int x1), (2, .int x2), (3, .int x3), (4, .int x4), (5, .int x5), (6, .int x6)] [] (G, M) (dv_i r.1, (G, r.2)) := by
  intro n
  induction n with
  | zero => intro x1 x2 x3 x4 x5 x6 M r h; cases (show (none : Option (Int32 × nM)) = some r from h)
  | succ n ih =>
    intro x1 x2 x3 x4 x5 x6 M r h
    exact n_seg (fin := n_fin dv_i G) (K := [(72, fun lv st M => n_lC 107 lv 0 (n_lI lv 1 (fun x1 => n_lI lv 2 (fun x2 => n_lI lv 3 (fun x3 => n_lI lv 4 (fun x4 => n_lI lv 5 (fun x5 => n_pE st (k72 x1 x2 x3 x4 x5 M)))))))), (95, fun lv st M => n_lC 107 lv 0 (n_lI lv 1 (fun x1 => n_lI lv 2 (fun x2 => n_lI lv 3 (fun x3 => n_lI lv 4 (fun x4 => n_lI lv 5 (fun x5 => n_lI lv 6 (fun x6 => n_pE st (fX12_ring_95 N k72 (fun x1 x2 x3 x4 x5 x6 M => fX12_ring_81 N k72 n x1 x2 x3 x4 x5 x6 M) N x1 x2 x3 x4 x5 x6 M)))))))))]) 24 (iX12_ring N hG) (n_kc (fun lv st M r h => by
      obtain ⟨e0, h1⟩ := n_lC_x h
      obtain ⟨x1, e1, h2⟩ := n_lI_x h1
      obtain ⟨x2, e2, h3⟩ := n_lI_x h2
      obtain ⟨x3, e3, h4⟩ := n_lI_x h3
      obtain ⟨x4, e4, h5⟩ := n_lI_x h4
      obtain ⟨x5, e5, h6⟩ := n_lI_x h5
      obtain ⟨rfl, h7⟩ := n_pE_x h6
      exact n_sub (n_qc e0 (n_qc e1 (n_qc e2 (n_qc e3 (n_qc e4 (n_qc e5 n_qe)))))) (hk72 x1 x2 x3 x4 x5 M r h7)) (n_kc (fun lv st M r h => by
      obtain ⟨e0, h1⟩ := n_lC_x h
      obtain ⟨x1, e1, h2⟩ := n_lI_x h1
      obtain ⟨x2, e2, h3⟩ := n_lI_x h2
      obtain ⟨x3, e3, h4⟩ := n_lI_x h3
      obtain ⟨x4, e4, h5⟩ := n_lI_x h4
      obtain ⟨x5, e5, h6⟩ := n_lI_x h5
      obtain ⟨x6, e6, h7⟩ := n_lI_x h6
      obtain ⟨rfl, h8⟩ := n_pE_x h7
      exact n_sub (n_qc e0 (n_qc e1 (n_qc e2 (n_qc e3 (n_qc e4 (n_qc e5 (n_qc e6 n_qe))))))) (bX12_ring_95 N hG k72 hk72 (fun x1 x2 x3 x4 x5 x6 M => fX12_ring_81 N k72 n x1 x2 x3 x4 x5 x6 M) ih N x1 x2 x3 x4 x5 x6 M r h8)) n_ke)) (by rfl) h
def fX12_ring_72 (N : Nat) : Nat → Int32 → Int32 → Int32 → Int32 → Int32 → nM → Option (Int32 × nM)
  | 0, _, _, _, _, _, _ => none
  | n + 1, x1, x2, x3, x4, x5, M =>
    if x1 < x5 then
      some (x4, M)
    else
      fX12_ring_81 N (fun x1 x2 x3 x4 x5 M => fX12_ring_72 N n x1 x2 x3 x4 x5 M) N x1 x2 x3 x4 x5 (0 : Int32) M
set_option maxRecDepth 200000 in
theorem bX12_ring_72 {l : Launch} {w : nW} (N : Nat) {G : nG} (hG : n_GOK G) : ∀ (n : Nat) (x1 : Int32) (x2 : Int32) (x3 : Int32) (x4 : Int32) (x5 : Int32) (M : nM) (r : Int32 × nM), fX12_ring_72 N n x1 x2 x3 x4 x5 M = some r → n_At l w 1 mX12_ring 72 [(0, .ref 107), (1, .int x1), (2, .int x2), (3, .int x3), (4, .int x4), (5, .int x5)] [] (G, M) (dv_i r.1, (G, r.2)) := by
  intro n
  induction n with
  | zero => intro x1 x2 x3 x4 x5 M r h; cases (show (none : Option (Int32 × nM)) = some r from h)
  | succ n ih =>
    intro x1 x2 x3 x4 x5 M r h
    exact n_seg (fin := n_fin dv_i G) (K := [(81, fun lv st M => n_lC 107 lv 0 (n_lI lv 1 (fun x1 => n_lI lv 2 (fun x2 => n_lI lv 3 (fun x3 => n_lI lv 4 (fun x4 => n_lI lv 5 (fun x5 => n_lI lv 6 (fun x6 => n_pE st (fX12_ring_81 N (fun x1 x2 x3 x4 x5 M => fX12_ring_72 N n x1 x2 x3 x4 x5 M) N x1 x2 x3 x4 x5 x6 M)))))))))]) 10 (iX12_ring N hG) (n_kc (fun lv st M r h => by
      obtain ⟨e0, h1⟩ := n_lC_x h
      obtain ⟨x1, e1, h2⟩ := n_lI_x h1
      obtain ⟨x2, e2, h3⟩ := n_lI_x h2
      obtain ⟨x3, e3, h4⟩ := n_lI_x h3
      obtain ⟨x4, e4, h5⟩ := n_lI_x h4
      obtain ⟨x5, e5, h6⟩ := n_lI_x h5
      obtain ⟨x6, e6, h7⟩ := n_lI_x h6
      obtain ⟨rfl, h8⟩ := n_pE_x h7
      exact n_sub (n_qc e0 (n_qc e1 (n_qc e2 (n_qc e3 (n_qc e4 (n_qc e5 (n_qc e6 n_qe))))))) (bX12_ring_81 N hG (fun x1 x2 x3 x4 x5 M => fX12_ring_72 N n x1 x2 x3 x4 x5 M) ih N x1 x2 x3 x4 x5 x6 M r h8)) n_ke) (by rfl) h
def fX12_ring_44 (N : Nat) : Nat → Int32 → Int32 → Int32 → Int32 → nM → Option (Int32 × nM)
  | 0, _, _, _, _, _ => none
  | n + 1, x1, x2, x3, x4, M =>
    if x1 ≤ x4 then
      let v1 : Int32 := (x1 - (1 : Int32))
      fX12_ring_72 N N x1 x2 x3 v1 (1 : Int32) M
    else
      n_chk (n_ib 40 x4) <|
      let M2 : nM := n_up M 140 x4.toNatClampNeg (0 : Int32)
      let v3 : Int32 := (x4 + (1 : Int32))
      fX12_ring_44 N n x1 x2 x3 v3 M2
set_option maxRecDepth 200000 in
theorem bX12_ring_44 {l : Launch} {w : nW} (N : Nat) {G : nG} (hG : n_GOK G) : ∀ (n : Nat) (x1 : Int32) (x2 : Int32) (x3 : Int32) (x4 : Int32) (M : nM) (r : Int32 × nM), fX12_ring_44 N n x1 x2 x3 x4 M = some r → n_At l w 1 mX12_ring 44 [(0, .ref 107), (1, .int x1), (2, .int x2), (3, .int x3), (4, .int x4)] [] (G, M) (dv_i r.1, (G, r.2)) := by
  intro n
  induction n with
  | zero => intro x1 x2 x3 x4 M r h; cases (show (none : Option (Int32 × nM)) = some r from h)
  | succ n ih =>
    intro x1 x2 x3 x4 M r h
    exact n_seg (fin := n_fin dv_i G) (K := [(44, fun lv st M => n_lC 107 lv 0 (n_lI lv 1 (fun x1 => n_lI lv 2 (fun x2 => n_lI lv 3 (fun x3 => n_lI lv 4 (fun x4 => n_pE st (fX12_ring_44 N n x1 x2 x3 x4 M))))))), (72, fun lv st M => n_lC 107 lv 0 (n_lI lv 1 (fun x1 => n_lI lv 2 (fun x2 => n_lI lv 3 (fun x3 => n_lI lv 4 (fun x4 => n_lI lv 5 (fun x5 => n_pE st (fX12_ring_72 N N x1 x2 x3 x4 x5 M))))))))]) 19 (iX12_ring N hG) (n_kc (fun lv st M r h => by
      obtain ⟨e0, h1⟩ := n_lC_x h
      obtain ⟨x1, e1, h2⟩ := n_lI_x h1
      obtain ⟨x2, e2, h3⟩ := n_lI_x h2
      obtain ⟨x3, e3, h4⟩ := n_lI_x h3
      obtain ⟨x4, e4, h5⟩ := n_lI_x h4
      obtain ⟨rfl, h6⟩ := n_pE_x h5
      exact n_sub (n_qc e0 (n_qc e1 (n_qc e2 (n_qc e3 (n_qc e4 n_qe))))) (ih x1 x2 x3 x4 M r h6)) (n_kc (fun lv st M r h => by
      obtain ⟨e0, h1⟩ := n_lC_x h
      obtain ⟨x1, e1, h2⟩ := n_lI_x h1
      obtain ⟨x2, e2, h3⟩ := n_lI_x h2
      obtain ⟨x3, e3, h4⟩ := n_lI_x h3
      obtain ⟨x4, e4, h5⟩ := n_lI_x h4
      obtain ⟨x5, e5, h6⟩ := n_lI_x h5
      obtain ⟨rfl, h7⟩ := n_pE_x h6
      exact n_sub (n_qc e0 (n_qc e1 (n_qc e2 (n_qc e3 (n_qc e4 (n_qc e5 n_qe)))))) (bX12_ring_72 N hG N x1 x2 x3 x4 x5 M r h7)) n_ke)) (by rfl) h
def fX12_ring (N : Nat) (x1 : Int32) (x2 : Int32) (x3 : Int32) (M : nM) : Option (Int32 × nM) :=
  let M1 : nM := n_up M 107 0 (0 : Int32)
  (fX12_isIn x1 (1 : Int32) (40 : Int32) M1).bind fun p2 =>
  if p2.1 = 0 then
    some ((-1 : Int32), p2.2)
  else
    (fX12_isIn x2 (1 : Int32) (20 : Int32) p2.2).bind fun p3 =>
    if p3.1 = 0 then
      some ((-1 : Int32), p3.2)
    else
      (fX12_isIn x3 (-1 : Int32) (x1 - (1 : Int32)) p3.2).bind fun p4 =>
      if ¬ p4.1 = 0 then
        fX12_ring_44 N N x1 x2 x3 (0 : Int32) p4.2
      else
        some ((-1 : Int32), p4.2)
set_option maxRecDepth 200000 in
theorem bX12_ring_0 {l : Launch} {w : nW} (N : Nat) {G : nG} (hG : n_GOK G) (x1 : Int32) (x2 : Int32) (x3 : Int32) (M : nM) (r : Int32 × nM) (h : fX12_ring N x1 x2 x3 M = some r) : n_At l w 1 mX12_ring 0 [(0, .ref 107), (1, .int x1), (2, .int x2), (3, .int x3)] [] (G, M) (dv_i r.1, (G, r.2)) :=
  n_seg (fin := n_fin dv_i G) (K := [(44, fun lv st M => n_lC 107 lv 0 (n_lI lv 1 (fun x1 => n_lI lv 2 (fun x2 => n_lI lv 3 (fun x3 => n_lI lv 4 (fun x4 => n_pE st (fX12_ring_44 N N x1 x2 x3 x4 M)))))))]) 34 (iX12_ring N hG) (n_kc (fun lv st M r h => by
      obtain ⟨e0, h1⟩ := n_lC_x h
      obtain ⟨x1, e1, h2⟩ := n_lI_x h1
      obtain ⟨x2, e2, h3⟩ := n_lI_x h2
      obtain ⟨x3, e3, h4⟩ := n_lI_x h3
      obtain ⟨x4, e4, h5⟩ := n_lI_x h4
      obtain ⟨rfl, h6⟩ := n_pE_x h5
      exact n_sub (n_qc e0 (n_qc e1 (n_qc e2 (n_qc e3 (n_qc e4 n_qe))))) (bX12_ring_44 N hG N x1 x2 x3 x4 M r h6)) n_ke) (by rfl) h
theorem eX12_ring {l : Launch} {w : nW} (N : Nat) {G : nG} (hG : n_GOK G) (z1 : Int32) (z2 : Int32) (z3 : Int32) (M : nM) (r : Int32 × nM) (h : fX12_ring N z1 z2 z3 M = some r) : n_Met l w 1 mX12_ring [.ref 107, .int z1, .int z2, .int z3] (G, M) (dv_i r.1, (G, r.2)) :=
  n_entry (by decide +kernel) rfl (Nat.le_of_ble_eq_true rfl) (n_sub (lv := [(0, .ref 107), (1, .int z1), (2, .int z2), (3, .int z3)]) (n_qc rfl (n_qc rfl (n_qc rfl (n_qc rfl n_qe)))) (bX12_ring_0 N hG z1 z2 z3 M r h))
abbrev hX12_ring (N : Nat) : nF := fun T as M k => n_pC 107 as (fun as => n_pI as (fun z1 as => n_pI as (fun z2 as => n_pI as (fun z3 as => n_pE as ((fX12_ring N z1 z2 z3 M).bind fun p => k (dv_i p.1) p.2)))))
theorem csX12_ring {l : Launch} {w : nW} (N : Nat) {G : nG} (hG : n_GOK G) : n_CS l w 1 mX12_ring G (hX12_ring N) := fun T as M k r h => by
  obtain ⟨t0, rfl, h1⟩ := n_pC_x h
  obtain ⟨z1, t1, rfl, h2⟩ := n_pI_x h1
  obtain ⟨z2, t2, rfl, h3⟩ := n_pI_x h2
  obtain ⟨z3, t3, rfl, h4⟩ := n_pI_x h3
  obtain ⟨rfl, hE⟩ := n_pE_x h4
  obtain ⟨p, hp, hk⟩ := Option.bind_eq_some_iff.mp hE
  exact ⟨_, _, eX12_ring N hG z1 z2 z3 M p hp, hk⟩
/-! ===== SleightHouse.gift(II)Z ===== -/
def mX11_gift : nY := (RX11, yX11_gift, cX11_gift, 3, some .boolean)
theorem okX11_gift : n_MOK mX11_gift 2 := ⟨w_1216, w_137, ⟨by decide +kernel, by decide +kernel, by decide +kernel⟩, by decide⟩
abbrev aX11_gift (G : nG) : List (Nat × nO (Int32 × nM)) := [(0, o_aload 0 1), (1, o_gRc 1 2 4), (4, o_gRc 2 28 7), (7, o_gRc 28 43 10), (10, o_iload 1 11), (11, o_iload 2 12), (12, o_push (.int (0 : Int32)) 13), (13, o_push (.int (2 : Int32)) 14), (14, o_call 5 (hX11_changeCell G) 17), (17, o_zret)]
set_option maxRecDepth 200000 in
theorem iX11_gift {l : Launch} {w : nW} {G : nG} (hG : n_GOK G) : n_AllS l w 2 mX11_gift G (n_fin dv_i G) (aX11_gift G) :=
  n_c (s_aload_n (pc := 0) (k := 0) (by decide +kernel)) <|
  n_c (s_gRc (s_getR (pc := 1) (ci := 11) (k := 0) (idx := 10) nok11 (by decide) rfl (by decide +kernel) w_572) (gk1 hG) (gm1_0 hG)) <|
  n_c (s_gRc (s_getR (pc := 4) (ci := 1) (k := 7) (idx := 56) nok1 (by decide) rfl (by decide +kernel) w_421) (gk2 hG) (gm2_7 hG)) <|
  n_c (s_gRc (s_getR (pc := 7) (ci := 10) (k := 7) (idx := 342) nok10 (by decide) rfl (by decide +kernel) w_379) (gk28 hG) (gm28_7 hG)) <|
  n_c (s_iload_n (pc := 10) (k := 1) (by decide +kernel)) <|
  n_c (s_iload_n (pc := 11) (k := 2) (by decide +kernel)) <|
  n_c (s_iconst (pc := 12) (n := 0) (by decide +kernel) (by decide +kernel)) <|
  n_c (s_iconst (pc := 13) (n := 2) (by decide +kernel) (by decide +kernel)) <|
  n_c (s_callS (pc := 14) (csX11_changeCell) (by decide) okX11_changeCell w_648 w_647 (by decide +kernel)) <|
  n_c (s_zret (pc := 17) rfl (by decide +kernel)) <|
  n_e
def fX11_gift (G : nG) (x1 : Int32) (x2 : Int32) (M : nM) : Option (Int32 × nM) :=
  (fX11_changeCell G 43 x1 x2 (0 : Int32) (2 : Int32) M).bind fun p1 =>
  n_chk (p1.1 == 0 || p1.1 == 1) (some (p1.1, p1.2))
set_option maxRecDepth 200000 in
theorem bX11_gift_0 {l : Launch} {w : nW} {G : nG} (hG : n_GOK G) (x1 : Int32) (x2 : Int32) (M : nM) (r : Int32 × nM) (h : fX11_gift G x1 x2 M = some r) : n_At l w 2 mX11_gift 0 [(0, .ref 1), (1, .int x1), (2, .int x2)] [] (G, M) (dv_i r.1, (G, r.2)) :=
  n_seg (fin := n_fin dv_i G) (K := []) 13 (iX11_gift hG) n_ke (by rfl) h
theorem eX11_gift {l : Launch} {w : nW} {G : nG} (hG : n_GOK G) (z1 : Int32) (z2 : Int32) (M : nM) (r : Int32 × nM) (h : fX11_gift G z1 z2 M = some r) : n_Met l w 2 mX11_gift [.ref 1, .int z1, .int z2] (G, M) (dv_i r.1, (G, r.2)) :=
  n_entry (by decide +kernel) rfl (Nat.le_of_ble_eq_true rfl) (n_sub (lv := [(0, .ref 1), (1, .int z1), (2, .int z2)]) (n_qc rfl (n_qc rfl (n_qc rfl n_qe))) (bX11_gift_0 hG z1 z2 M r h))
abbrev hX11_gift (G : nG) : nF := fun T as M k => n_pC 1 as (fun as => n_pI as (fun z1 as => n_pI as (fun z2 as => n_pE as ((fX11_gift G z1 z2 M).bind fun p => k (dv_i p.1) p.2))))
theorem csX11_gift {l : Launch} {w : nW} {G : nG} (hG : n_GOK G) : n_CS l w 2 mX11_gift G (hX11_gift G) := fun T as M k r h => by
  obtain ⟨t0, rfl, h1⟩ := n_pC_x h
  obtain ⟨z1, t1, rfl, h2⟩ := n_pI_x h1
  obtain ⟨z2, t2, rfl, h3⟩ := n_pI_x h2
  obtain ⟨rfl, hE⟩ := n_pE_x h3
  obtain ⟨p, hp, hk⟩ := Option.bind_eq_some_iff.mp hE
  exact ⟨_, _, eX11_gift hG z1 z2 M p hp, hk⟩
/-! ===== SleightHouseModel.gift(II)Z ===== -/
def mX12_gift : nY := (RX12, yX12_gift, cX12_gift, 3, some .boolean)
theorem okX12_gift : n_MOK mX12_gift 2 := ⟨w_2074, w_151, ⟨by decide +kernel, by decide +kernel, by decide +kernel⟩, by decide⟩
abbrev aX12_gift : List (Nat × nO (Int32 × nM)) := [(0, o_aload 0 1), (1, o_push (.int (0 : Int32)) 2), (2, o_pIc 107 0 5), (5, o_aload 0 6), (6, o_iload 1 7), (7, o_push (.int (0 : Int32)) 8), (8, o_push (.int (11 : Int32)) 10), (10, o_callVc 107 3 (hX12_isIn) 13), (13, oi_eq 26 16), (16, o_aload 0 17), (17, o_iload 2 18), (18, o_push (.int (0 : Int32)) 19), (19, o_push (.int (2 : Int32)) 20), (20, o_callVc 107 3 (hX12_isIn) 23), (23, oi_ne 28 26), (26, o_push (.int (0 : Int32)) 27), (27, o_zret), (28, o_aload 0 29), (29, o_gRc 107 141 32), (32, o_iload 1 33), (33, o_iload 2 34), (34, o_push (.int (2 : Int32)) 35), (35, o_isub 36), (36, o_iastc 141 12 37), (37, o_push (.int (1 : Int32)) 38), (38, o_zret)]
set_option maxRecDepth 200000 in
theorem iX12_gift {l : Launch} {w : nW} {G : nG} (hG : n_GOK G) : n_AllS l w 1 mX12_gift G (n_fin dv_i G) (aX12_gift) :=
  n_c (s_aload_n (pc := 0) (k := 0) (by decide +kernel)) <|
  n_c (s_iconst (pc := 1) (n := 0) (by decide +kernel) (by decide +kernel)) <|
  n_c (s_pIc (s_putI (pc := 2) (ci := 12) (k := 0) (idx := 146) nok12 (by decide) rfl rfl (by decide +kernel) w_1407) (gk107 hG)) <|
  n_c (s_aload_n (pc := 5) (k := 0) (by decide +kernel)) <|
  n_c (s_iload_n (pc := 6) (k := 1) (by decide +kernel)) <|
  n_c (s_iconst (pc := 7) (n := 0) (by decide +kernel) (by decide +kernel)) <|
  n_c (s_bipush (pc := 8) (n := 11) (by decide +kernel) (by decide +kernel)) <|
  n_c (s_callVc (s_callV (pc := 10) (csX12_isIn) (by decide) okX12_isIn nok12 w_1659 w_46 w_1657 (by decide +kernel)) (gk107 hG)) <|
  n_c (s_if_eq (pc := 13) (off := 13) (by decide +kernel) (by decide +kernel)) <|
  n_c (s_aload_n (pc := 16) (k := 0) (by decide +kernel)) <|
  n_c (s_iload_n (pc := 17) (k := 2) (by decide +kernel)) <|
  n_c (s_iconst (pc := 18) (n := 0) (by decide +kernel) (by decide +kernel)) <|
  n_c (s_iconst (pc := 19) (n := 2) (by decide +kernel) (by decide +kernel)) <|
  n_c (s_callVc (s_callV (pc := 20) (csX12_isIn) (by decide) okX12_isIn nok12 w_1659 w_46 w_1657 (by decide +kernel)) (gk107 hG)) <|
  n_c (s_if_ne (pc := 23) (off := 5) (by decide +kernel) (by decide +kernel)) <|
  n_c (s_iconst (pc := 26) (n := 0) (by decide +kernel) (by decide +kernel)) <|
  n_c (s_zret (pc := 27) rfl (by decide +kernel)) <|
  n_c (s_aload_n (pc := 28) (k := 0) (by decide +kernel)) <|
  n_c (s_gRc (s_getR (pc := 29) (ci := 12) (k := 58) (idx := 113) nok12 (by decide) rfl (by decide +kernel) w_1465) (gk107 hG) (gm107_58 hG)) <|
  n_c (s_iload_n (pc := 32) (k := 1) (by decide +kernel)) <|
  n_c (s_iload_n (pc := 33) (k := 2) (by decide +kernel)) <|
  n_c (s_iconst (pc := 34) (n := 2) (by decide +kernel) (by decide +kernel)) <|
  n_c (s_isub (pc := 35) (by decide +kernel)) <|
  n_c (s_iastc (s_iastore (pc := 36) (by decide +kernel)) (gk141 hG) (gl141 hG)) <|
  n_c (s_iconst (pc := 37) (n := 1) (by decide +kernel) (by decide +kernel)) <|
  n_c (s_zret (pc := 38) rfl (by decide +kernel)) <|
  n_e
def fX12_gift (x1 : Int32) (x2 : Int32) (M : nM) : Option (Int32 × nM) :=
  let M1 : nM := n_up M 107 0 (0 : Int32)
  (fX12_isIn x1 (0 : Int32) (11 : Int32) M1).bind fun p2 =>
  if p2.1 = 0 then
    some ((0 : Int32), p2.2)
  else
    (fX12_isIn x2 (0 : Int32) (2 : Int32) p2.2).bind fun p3 =>
    if ¬ p3.1 = 0 then
      n_chk (n_ib 12 x1) <|
      let M4 : nM := n_up p3.2 141 x1.toNatClampNeg (x2 - (2 : Int32))
      some ((1 : Int32), M4)
    else
      some ((0 : Int32), p3.2)
set_option maxRecDepth 200000 in
theorem bX12_gift_0 {l : Launch} {w : nW} {G : nG} (hG : n_GOK G) (x1 : Int32) (x2 : Int32) (M : nM) (r : Int32 × nM) (h : fX12_gift x1 x2 M = some r) : n_At l w 1 mX12_gift 0 [(0, .ref 107), (1, .int x1), (2, .int x2)] [] (G, M) (dv_i r.1, (G, r.2)) :=
  n_seg (fin := n_fin dv_i G) (K := []) 31 (iX12_gift hG) n_ke (by rfl) h
theorem eX12_gift {l : Launch} {w : nW} {G : nG} (hG : n_GOK G) (z1 : Int32) (z2 : Int32) (M : nM) (r : Int32 × nM) (h : fX12_gift z1 z2 M = some r) : n_Met l w 1 mX12_gift [.ref 107, .int z1, .int z2] (G, M) (dv_i r.1, (G, r.2)) :=
  n_entry (by decide +kernel) rfl (Nat.le_of_ble_eq_true rfl) (n_sub (lv := [(0, .ref 107), (1, .int z1), (2, .int z2)]) (n_qc rfl (n_qc rfl (n_qc rfl n_qe))) (bX12_gift_0 hG z1 z2 M r h))
abbrev hX12_gift : nF := fun T as M k => n_pC 107 as (fun as => n_pI as (fun z1 as => n_pI as (fun z2 as => n_pE as ((fX12_gift z1 z2 M).bind fun p => k (dv_i p.1) p.2))))
theorem csX12_gift {l : Launch} {w : nW} {G : nG} (hG : n_GOK G) : n_CS l w 1 mX12_gift G (hX12_gift) := fun T as M k r h => by
  obtain ⟨t0, rfl, h1⟩ := n_pC_x h
  obtain ⟨z1, t1, rfl, h2⟩ := n_pI_x h1
  obtain ⟨z2, t2, rfl, h3⟩ := n_pI_x h2
  obtain ⟨rfl, hE⟩ := n_pE_x h3
  obtain ⟨p, hp, hk⟩ := Option.bind_eq_some_iff.mp hE
  exact ⟨_, _, eX12_gift hG z1 z2 M p hp, hk⟩
/-! ===== SleightHouse$Kin.bind(II)V ===== -/
def mX2_bind : nY := (RX2, yX2_bind, cX2_bind, 3, none)
theorem okX2_bind : n_MOK mX2_bind 2 := ⟨w_1236, w_150, ⟨by decide +kernel, by decide +kernel, by decide +kernel⟩, by decide⟩
abbrev aX2_bind : List (Nat × nO (Unit × nM)) := [(0, o_iload 1 1), (1, o_iload 2 2), (2, oc_eq 29 5), (5, o_aload 0 6), (6, o_gRc 101 104 9), (9, o_iload 1 10), (10, o_dup2 11), (11, o_aldc 104 12 12), (12, o_push (.int (1 : Int32)) 13), (13, o_iload 2 14), (14, o_ishl 15), (15, o_ior 16), (16, o_iastc 104 12 17), (17, o_aload 0 18), (18, o_gRc 101 104 21), (21, o_iload 2 22), (22, o_dup2 23), (23, o_aldc 104 12 24), (24, o_push (.int (1 : Int32)) 25), (25, o_iload 1 26), (26, o_ishl 27), (27, o_ior 28), (28, o_iastc 104 12 29), (29, o_vret)]
set_option maxRecDepth 200000 in
theorem iX2_bind {l : Launch} {w : nW} {G : nG} (hG : n_GOK G) : n_AllS l w 0 mX2_bind G (n_fin dv_v G) (aX2_bind) :=
  n_c (s_iload_n (pc := 0) (k := 1) (by decide +kernel)) <|
  n_c (s_iload_n (pc := 1) (k := 2) (by decide +kernel)) <|
  n_c (s_icmp_eq (pc := 2) (off := 27) (by decide +kernel) (by decide +kernel)) <|
  n_c (s_aload_n (pc := 5) (k := 0) (by decide +kernel)) <|
  n_c (s_gRc (s_getR (pc := 6) (ci := 2) (k := 2) (idx := 18) nok2 (by decide) rfl (by decide +kernel) w_555) (gk101 hG) (gm101_2 hG)) <|
  n_c (s_iload_n (pc := 9) (k := 1) (by decide +kernel)) <|
  n_c (s_dup2 (pc := 10) (by decide +kernel)) <|
  n_c (s_aldc (s_iaload (pc := 11) (by decide +kernel)) (gk104 hG) (gl104 hG)) <|
  n_c (s_iconst (pc := 12) (n := 1) (by decide +kernel) (by decide +kernel)) <|
  n_c (s_iload_n (pc := 13) (k := 2) (by decide +kernel)) <|
  n_c (s_ishl (pc := 14) (by decide +kernel)) <|
  n_c (s_ior (pc := 15) (by decide +kernel)) <|
  n_c (s_iastc (s_iastore (pc := 16) (by decide +kernel)) (gk104 hG) (gl104 hG)) <|
  n_c (s_aload_n (pc := 17) (k := 0) (by decide +kernel)) <|
  n_c (s_gRc (s_getR (pc := 18) (ci := 2) (k := 2) (idx := 18) nok2 (by decide) rfl (by decide +kernel) w_555) (gk101 hG) (gm101_2 hG)) <|
  n_c (s_iload_n (pc := 21) (k := 2) (by decide +kernel)) <|
  n_c (s_dup2 (pc := 22) (by decide +kernel)) <|
  n_c (s_aldc (s_iaload (pc := 23) (by decide +kernel)) (gk104 hG) (gl104 hG)) <|
  n_c (s_iconst (pc := 24) (n := 1) (by decide +kernel) (by decide +kernel)) <|
  n_c (s_iload_n (pc := 25) (k := 1) (by decide +kernel)) <|
  n_c (s_ishl (pc := 26) (by decide +kernel)) <|
  n_c (s_ior (pc := 27) (by decide +kernel)) <|
  n_c (s_iastc (s_iastore (pc := 28) (by decide +kernel)) (gk104 hG) (gl104 hG)) <|
  n_c (s_vret (pc := 29) rfl (by decide +kernel)) <|
  n_e
def fX2_bind (x1 : Int32) (x2 : Int32) (M : nM) : Option (Unit × nM) :=
  if x1 = x2 then
    some ((), M)
  else
    n_chk (n_ib 12 x1) <|
    n_chk (n_ib 12 x1) <|
    let M1 : nM := n_up M 104 x1.toNatClampNeg ((M 104 x1.toNatClampNeg) ||| ((1 : Int32) <<< (x2 &&& 31)))
    n_chk (n_ib 12 x2) <|
    n_chk (n_ib 12 x2) <|
    let M2 : nM := n_up M1 104 x2.toNatClampNeg ((M1 104 x2.toNatClampNeg) ||| ((1 : Int32) <<< (x1 &&& 31)))
    some ((), M2)
set_option maxRecDepth 200000 in
theorem bX2_bind_0 {l : Launch} {w : nW} {G : nG} (hG : n_GOK G) (x1 : Int32) (x2 : Int32) (M : nM) (r : Unit × nM) (h : fX2_bind x1 x2 M = some r) : n_At l w 0 mX2_bind 0 [(0, .ref 101), (1, .int x1), (2, .int x2)] [] (G, M) (dv_v r.1, (G, r.2)) :=
  n_seg (fin := n_fin dv_v G) (K := []) 28 (iX2_bind hG) n_ke (by rfl) h
theorem eX2_bind {l : Launch} {w : nW} {G : nG} (hG : n_GOK G) (z1 : Int32) (z2 : Int32) (M : nM) (r : Unit × nM) (h : fX2_bind z1 z2 M = some r) : n_Met l w 0 mX2_bind [.ref 101, .int z1, .int z2] (G, M) (dv_v r.1, (G, r.2)) :=
  n_entry (by decide +kernel) rfl (Nat.le_of_ble_eq_true rfl) (n_sub (lv := [(0, .ref 101), (1, .int z1), (2, .int z2)]) (n_qc rfl (n_qc rfl (n_qc rfl n_qe))) (bX2_bind_0 hG z1 z2 M r h))
abbrev hX2_bind : nF := fun T as M k => n_pC 101 as (fun as => n_pI as (fun z1 as => n_pI as (fun z2 as => n_pE as ((fX2_bind z1 z2 M).bind fun p => k (dv_v p.1) p.2))))
theorem csX2_bind {l : Launch} {w : nW} {G : nG} (hG : n_GOK G) : n_CS l w 0 mX2_bind G (hX2_bind) := fun T as M k r h => by
  obtain ⟨t0, rfl, h1⟩ := n_pC_x h
  obtain ⟨z1, t1, rfl, h2⟩ := n_pI_x h1
  obtain ⟨z2, t2, rfl, h3⟩ := n_pI_x h2
  obtain ⟨rfl, hE⟩ := n_pE_x h3
  obtain ⟨p, hp, hk⟩ := Option.bind_eq_some_iff.mp hE
  exact ⟨_, _, eX2_bind hG z1 z2 M p hp, hk⟩
/-! ===== SleightHouse$Kin.addParent(II)V ===== -/
def mX2_addParent : nY := (RX2, yX2_addParent, cX2_addParent, 3, none)
theorem okX2_addParent : n_MOK mX2_addParent 2 := ⟨w_1232, w_150, ⟨by decide +kernel, by decide +kernel, by decide +kernel⟩, by decide⟩
abbrev aX2_addParent : List (Nat × nO (Unit × nM)) := [(0, o_iload 1 1), (1, oi_lt 24 4), (4, o_iload 1 5), (5, o_aload 0 6), (6, o_gIc 101 5 9), (9, oc_ge 24 12), (12, o_iload 2 13), (13, oi_lt 24 16), (16, o_iload 2 17), (17, o_aload 0 18), (18, o_gIc 101 5 21), (21, oc_lt 25 24), (24, o_vret), (25, o_aload 0 26), (26, o_iload 1 27), (27, o_iload 2 28), (28, o_callVc 101 2 (hX2_bind) 31), (31, o_aload 0 32), (32, o_gRc 101 102 35), (35, o_iload 1 36), (36, o_aldc 102 12 37), (37, o_push (.int (-1 : Int32)) 38), (38, oc_ne 51 41), (41, o_aload 0 42), (42, o_gRc 101 102 45), (45, o_iload 1 46), (46, o_iload 2 47), (47, o_iastc 102 12 48), (48, o_goto 79), (51, o_aload 0 52), (52, o_gRc 101 102 55), (55, o_iload 1 56), (56, o_aldc 102 12 57), (57, o_iload 2 58), (58, oc_eq 79 61), (61, o_aload 0 62), (62, o_gRc 101 103 65), (65, o_iload 1 66), (66, o_iload 2 67), (67, o_iastc 103 12 68), (68, o_aload 0 69), (69, o_aload 0 70), (70, o_gRc 101 102 73), (73, o_iload 1 74), (74, o_aldc 102 12 75), (75, o_iload 2 76), (76, o_callVc 101 2 (hX2_bind) 79), (79, o_vret)]
set_option maxRecDepth 200000 in
theorem iX2_addParent {l : Launch} {w : nW} {G : nG} (hG : n_GOK G) : n_AllS l w 1 mX2_addParent G (n_fin dv_v G) (aX2_addParent) :=
  n_c (s_iload_n (pc := 0) (k := 1) (by decide +kernel)) <|
  n_c (s_if_lt (pc := 1) (off := 23) (by decide +kernel) (by decide +kernel)) <|
  n_c (s_iload_n (pc := 4) (k := 1) (by decide +kernel)) <|
  n_c (s_aload_n (pc := 5) (k := 0) (by decide +kernel)) <|
  n_c (s_gIc (s_getI (pc := 6) (ci := 2) (k := 5) (idx := 27) nok2 (by decide) rfl (by decide +kernel) w_558) (gk101 hG)) <|
  n_c (s_icmp_ge (pc := 9) (off := 15) (by decide +kernel) (by decide +kernel)) <|
  n_c (s_iload_n (pc := 12) (k := 2) (by decide +kernel)) <|
  n_c (s_if_lt (pc := 13) (off := 11) (by decide +kernel) (by decide +kernel)) <|
  n_c (s_iload_n (pc := 16) (k := 2) (by decide +kernel)) <|
  n_c (s_aload_n (pc := 17) (k := 0) (by decide +kernel)) <|
  n_c (s_gIc (s_getI (pc := 18) (ci := 2) (k := 5) (idx := 27) nok2 (by decide) rfl (by decide +kernel) w_558) (gk101 hG)) <|
  n_c (s_icmp_lt (pc := 21) (off := 4) (by decide +kernel) (by decide +kernel)) <|
  n_c (s_vret (pc := 24) rfl (by decide +kernel)) <|
  n_c (s_aload_n (pc := 25) (k := 0) (by decide +kernel)) <|
  n_c (s_iload_n (pc := 26) (k := 1) (by decide +kernel)) <|
  n_c (s_iload_n (pc := 27) (k := 2) (by decide +kernel)) <|
  n_c (s_callVc (s_callV (pc := 28) (csX2_bind hG) (by decide) okX2_bind nok2 w_1235 w_36 w_1233 (by decide +kernel)) (gk101 hG)) <|
  n_c (s_aload_n (pc := 31) (k := 0) (by decide +kernel)) <|
  n_c (s_gRc (s_getR (pc := 32) (ci := 2) (k := 0) (idx := 9) nok2 (by decide) rfl (by decide +kernel) w_553) (gk101 hG) (gm101_0 hG)) <|
  n_c (s_iload_n (pc := 35) (k := 1) (by decide +kernel)) <|
  n_c (s_aldc (s_iaload (pc := 36) (by decide +kernel)) (gk102 hG) (gl102 hG)) <|
  n_c (s_iconst (pc := 37) (n := -1) (by decide +kernel) (by decide +kernel)) <|
  n_c (s_icmp_ne (pc := 38) (off := 13) (by decide +kernel) (by decide +kernel)) <|
  n_c (s_aload_n (pc := 41) (k := 0) (by decide +kernel)) <|
  n_c (s_gRc (s_getR (pc := 42) (ci := 2) (k := 0) (idx := 9) nok2 (by decide) rfl (by decide +kernel) w_553) (gk101 hG) (gm101_0 hG)) <|
  n_c (s_iload_n (pc := 45) (k := 1) (by decide +kernel)) <|
  n_c (s_iload_n (pc := 46) (k := 2) (by decide +kernel)) <|
  n_c (s_iastc (s_iastore (pc := 47) (by decide +kernel)) (gk102 hG) (gl102 hG)) <|
  n_c (s_goto (pc := 48) (off := 31) (by decide +kernel) (by decide +kernel)) <|
  n_c (s_aload_n (pc := 51) (k := 0) (by decide +kernel)) <|
  n_c (s_gRc (s_getR (pc := 52) (ci := 2) (k := 0) (idx := 9) nok2 (by decide) rfl (by decide +kernel) w_553) (gk101 hG) (gm101_0 hG)) <|
  n_c (s_iload_n (pc := 55) (k := 1) (by decide +kernel)) <|
  n_c (s_aldc (s_iaload (pc := 56) (by decide +kernel)) (gk102 hG) (gl102 hG)) <|
  n_c (s_iload_n (pc := 57) (k := 2) (by decide +kernel)) <|
  n_c (s_icmp_eq (pc := 58) (off := 21) (by decide +kernel) (by decide +kernel)) <|
  n_c (s_aload_n (pc := 61) (k := 0) (by decide +kernel)) <|
  n_c (s_gRc (s_getR (pc := 62) (ci := 2) (k := 1) (idx := 15) nok2 (by decide) rfl (by decide +kernel) w_554) (gk101 hG) (gm101_1 hG)) <|
  n_c (s_iload_n (pc := 65) (k := 1) (by decide +kernel)) <|
  n_c (s_iload_n (pc := 66) (k := 2) (by decide +kernel)) <|
  n_c (s_iastc (s_iastore (pc := 67) (by decide +kernel)) (gk103 hG) (gl103 hG)) <|
  n_c (s_aload_n (pc := 68) (k := 0) (by decide +kernel)) <|
  n_c (s_aload_n (pc := 69) (k := 0) (by decide +kernel)) <|
  n_c (s_gRc (s_getR (pc := 70) (ci := 2) (k := 0) (idx := 9) nok2 (by decide) rfl (by decide +kernel) w_553) (gk101 hG) (gm101_0 hG)) <|
  n_c (s_iload_n (pc := 73) (k := 1) (by decide +kernel)) <|
  n_c (s_aldc (s_iaload (pc := 74) (by decide +kernel)) (gk102 hG) (gl102 hG)) <|
  n_c (s_iload_n (pc := 75) (k := 2) (by decide +kernel)) <|
  n_c (s_callVc (s_callV (pc := 76) (csX2_bind hG) (by decide) okX2_bind nok2 w_1235 w_36 w_1233 (by decide +kernel)) (gk101 hG)) <|
  n_c (s_vret (pc := 79) rfl (by decide +kernel)) <|
  n_e
def fX2_addParent (x1 : Int32) (x2 : Int32) (M : nM) : Option (Unit × nM) :=
  if x1 < 0 then
    some ((), M)
  else
    if (M 101 5) ≤ x1 then
      some ((), M)
    else
      if x2 < 0 then
        some ((), M)
      else
        if x2 < (M 101 5) then
          (fX2_bind x1 x2 M).bind fun p1 =>
          n_chk (n_ib 12 x1) <|
          if ¬ (p1.2 102 x1.toNatClampNeg) = (-1 : Int32) then
            n_chk (n_ib 12 x1) <|
            if (p1.2 102 x1.toNatClampNeg) = x2 then
              some ((), p1.2)
            else
              n_chk (n_ib 12 x1) <|
              let M2 : nM := n_up p1.2 103 x1.toNatClampNeg x2
              n_chk (n_ib 12 x1) <|
              (fX2_bind (M2 102 x1.toNatClampNeg) x2 M2).bind fun p3 =>
              some ((), p3.2)
          else
            n_chk (n_ib 12 x1) <|
            let M4 : nM := n_up p1.2 102 x1.toNatClampNeg x2
            some ((), M4)
        else
          some ((), M)
set_option maxRecDepth 200000 in
theorem bX2_addParent_0 {l : Launch} {w : nW} {G : nG} (hG : n_GOK G) (x1 : Int32) (x2 : Int32) (M : nM) (r : Unit × nM) (h : fX2_addParent x1 x2 M = some r) : n_At l w 1 mX2_addParent 0 [(0, .ref 101), (1, .int x1), (2, .int x2)] [] (G, M) (dv_v r.1, (G, r.2)) :=
  n_seg (fin := n_fin dv_v G) (K := []) 56 (iX2_addParent hG) n_ke (by rfl) h
theorem eX2_addParent {l : Launch} {w : nW} {G : nG} (hG : n_GOK G) (z1 : Int32) (z2 : Int32) (M : nM) (r : Unit × nM) (h : fX2_addParent z1 z2 M = some r) : n_Met l w 1 mX2_addParent [.ref 101, .int z1, .int z2] (G, M) (dv_v r.1, (G, r.2)) :=
  n_entry (by decide +kernel) rfl (Nat.le_of_ble_eq_true rfl) (n_sub (lv := [(0, .ref 101), (1, .int z1), (2, .int z2)]) (n_qc rfl (n_qc rfl (n_qc rfl n_qe))) (bX2_addParent_0 hG z1 z2 M r h))
abbrev hX2_addParent : nF := fun T as M k => n_pC 101 as (fun as => n_pI as (fun z1 as => n_pI as (fun z2 as => n_pE as ((fX2_addParent z1 z2 M).bind fun p => k (dv_v p.1) p.2))))
theorem csX2_addParent {l : Launch} {w : nW} {G : nG} (hG : n_GOK G) : n_CS l w 1 mX2_addParent G (hX2_addParent) := fun T as M k r h => by
  obtain ⟨t0, rfl, h1⟩ := n_pC_x h
  obtain ⟨z1, t1, rfl, h2⟩ := n_pI_x h1
  obtain ⟨z2, t2, rfl, h3⟩ := n_pI_x h2
  obtain ⟨rfl, hE⟩ := n_pE_x h3
  obtain ⟨p, hp, hk⟩ := Option.bind_eq_some_iff.mp hE
  exact ⟨_, _, eX2_addParent hG z1 z2 M p hp, hk⟩
/-! ===== SleightHouse$Kin.gather(ILSleightHouse$Rows;[I)V ===== -/
def mX2_gather : nY := (RX2, yX2_gather, cX2_gather, 5, none)
theorem okX2_gather : n_MOK mX2_gather 3 := ⟨w_1224, w_150, ⟨by decide +kernel, by decide +kernel, by decide +kernel⟩, by decide⟩
abbrev aX2_gather (N : Nat) (G : nG) : List (Nat × nO (Unit × nM)) := [(0, o_aload 0 1), (1, o_push (.int (0 : Int32)) 2), (2, o_iload 1 3), (3, o_push (.int (12 : Int32)) 5), (5, o_mmin 8), (8, o_mmax 11), (11, o_pIc 101 5 14), (14, o_aload 0 15), (15, o_gRc 101 102 18), (18, o_push (.int (-1 : Int32)) 19), (19, o_call 2 (hJ7_fill_53178 N G) 22), (22, o_aload 0 23), (23, o_gRc 101 103 26), (26, o_push (.int (-1 : Int32)) 27), (27, o_call 2 (hJ7_fill_53178 N G) 30), (30, o_aload 0 31), (31, o_gRc 101 104 34), (34, o_push (.int (0 : Int32)) 35), (35, o_call 2 (hJ7_fill_53178 N G) 38), (38, o_aload 0 39), (39, o_gRc 101 106 42), (42, o_push (.int (-1 : Int32)) 43), (43, o_call 2 (hJ7_fill_53178 N G) 46), (46, o_push (.int (0 : Int32)) 47), (47, o_istore 5 4 49), (49, o_iload 4 51), (51, o_push (.int (12 : Int32)) 53), (53, oc_ge 102 56), (56, o_iload 4 58), (58, o_aload 3 59), (59, o_alenc 43 12 60), (60, oc_ge 102 63), (63, o_aload 0 64), (64, o_gRc 101 105 67), (67, o_iload 4 69), (69, o_aload 3 70), (70, o_iload 4 72), (72, o_aldc 43 12 73), (73, oi_ne 80 76), (76, o_push (.int (1 : Int32)) 77), (77, o_goto 95), (80, o_aload 3 81), (81, o_iload 4 83), (83, o_aldc 43 12 84), (84, o_push (.int (1 : Int32)) 85), (85, oc_ne 93 88), (88, o_push (.int (6 : Int32)) 90), (90, o_goto 95), (93, o_push (.int (7 : Int32)) 95), (95, o_iastc 105 12 96), (96, o_inc 5 4 (1 : Int32) 99), (99, o_goto 49), (102, o_push (.int (0 : Int32)) 103), (103, o_istore 5 4 105), (105, o_iload 4 107), (107, o_aload 2 108), (108, o_gIc 26 3 111), (111, oc_ge 138 114), (114, o_aload 0 115), (115, o_aload 2 116), (116, o_iload 4 118), (118, o_push (.int (0 : Int32)) 119), (119, o_callVc 26 2 (hX7_cell G) 122), (122, o_aload 2 123), (123, o_iload 4 125), (125, o_push (.int (1 : Int32)) 126), (126, o_callVc 26 2 (hX7_cell G) 129), (129, o_callVc 101 2 (hX2_addParent) 132), (132, o_inc 5 4 (1 : Int32) 135), (135, o_goto 105), (138, o_vret)]
set_option maxRecDepth 200000 in
theorem iX2_gather {l : Launch} {w : nW} (N : Nat) {G : nG} (hG : n_GOK G) : n_AllS l w 2 mX2_gather G (n_fin dv_v G) (aX2_gather N G) :=
  n_c (s_aload_n (pc := 0) (k := 0) (by decide +kernel)) <|
  n_c (s_iconst (pc := 1) (n := 0) (by decide +kernel) (by decide +kernel)) <|
  n_c (s_iload_n (pc := 2) (k := 1) (by decide +kernel)) <|
  n_c (s_bipush (pc := 3) (n := 12) (by decide +kernel) (by decide +kernel)) <|
  n_c (s_mmin (pc := 5) w_1225 w_298 w_143 w_299 (by decide +kernel)) <|
  n_c (s_mmax (pc := 8) w_1226 w_295 w_143 w_296 (by decide +kernel)) <|
  n_c (s_pIc (s_putI (pc := 11) (ci := 2) (k := 5) (idx := 27) nok2 (by decide) rfl rfl (by decide +kernel) w_558) (gk101 hG)) <|
  n_c (s_aload_n (pc := 14) (k := 0) (by decide +kernel)) <|
  n_c (s_gRc (s_getR (pc := 15) (ci := 2) (k := 0) (idx := 9) nok2 (by decide) rfl (by decide +kernel) w_553) (gk101 hG) (gm101_0 hG)) <|
  n_c (s_iconst (pc := 18) (n := -1) (by decide +kernel) (by decide +kernel)) <|
  n_c (s_callS (pc := 19) (csJ7_fill_53178 N) (by decide) okJ7_fill_53178 w_180 w_1227 (by decide +kernel)) <|
  n_c (s_aload_n (pc := 22) (k := 0) (by decide +kernel)) <|
  n_c (s_gRc (s_getR (pc := 23) (ci := 2) (k := 1) (idx := 15) nok2 (by decide) rfl (by decide +kernel) w_554) (gk101 hG) (gm101_1 hG)) <|
  n_c (s_iconst (pc := 26) (n := -1) (by decide +kernel) (by decide +kernel)) <|
  n_c (s_callS (pc := 27) (csJ7_fill_53178 N) (by decide) okJ7_fill_53178 w_180 w_1227 (by decide +kernel)) <|
  n_c (s_aload_n (pc := 30) (k := 0) (by decide +kernel)) <|
  n_c (s_gRc (s_getR (pc := 31) (ci := 2) (k := 2) (idx := 18) nok2 (by decide) rfl (by decide +kernel) w_555) (gk101 hG) (gm101_2 hG)) <|
  n_c (s_iconst (pc := 34) (n := 0) (by decide +kernel) (by decide +kernel)) <|
  n_c (s_callS (pc := 35) (csJ7_fill_53178 N) (by decide) okJ7_fill_53178 w_180 w_1227 (by decide +kernel)) <|
  n_c (s_aload_n (pc := 38) (k := 0) (by decide +kernel)) <|
  n_c (s_gRc (s_getR (pc := 39) (ci := 2) (k := 4) (idx := 24) nok2 (by decide) rfl (by decide +kernel) w_557) (gk101 hG) (gm101_4 hG)) <|
  n_c (s_iconst (pc := 42) (n := -1) (by decide +kernel) (by decide +kernel)) <|
  n_c (s_callS (pc := 43) (csJ7_fill_53178 N) (by decide) okJ7_fill_53178 w_180 w_1227 (by decide +kernel)) <|
  n_c (s_iconst (pc := 46) (n := 0) (by decide +kernel) (by decide +kernel)) <|
  n_c (s_istore (pc := 47) (by decide +kernel)) <|
  n_c (s_iload (pc := 49) (by decide +kernel)) <|
  n_c (s_bipush (pc := 51) (n := 12) (by decide +kernel) (by decide +kernel)) <|
  n_c (s_icmp_ge (pc := 53) (off := 49) (by decide +kernel) (by decide +kernel)) <|
  n_c (s_iload (pc := 56) (by decide +kernel)) <|
  n_c (s_aload_n (pc := 58) (k := 3) (by decide +kernel)) <|
  n_c (s_alenc (s_alenI (pc := 59) (by decide +kernel)) (gk43 hG) (gl43 hG)) <|
  n_c (s_icmp_ge (pc := 60) (off := 42) (by decide +kernel) (by decide +kernel)) <|
  n_c (s_aload_n (pc := 63) (k := 0) (by decide +kernel)) <|
  n_c (s_gRc (s_getR (pc := 64) (ci := 2) (k := 3) (idx := 21) nok2 (by decide) rfl (by decide +kernel) w_556) (gk101 hG) (gm101_3 hG)) <|
  n_c (s_iload (pc := 67) (by decide +kernel)) <|
  n_c (s_aload_n (pc := 69) (k := 3) (by decide +kernel)) <|
  n_c (s_iload (pc := 70) (by decide +kernel)) <|
  n_c (s_aldc (s_iaload (pc := 72) (by decide +kernel)) (gk43 hG) (gl43 hG)) <|
  n_c (s_if_ne (pc := 73) (off := 7) (by decide +kernel) (by decide +kernel)) <|
  n_c (s_iconst (pc := 76) (n := 1) (by decide +kernel) (by decide +kernel)) <|
  n_c (s_goto (pc := 77) (off := 18) (by decide +kernel) (by decide +kernel)) <|
  n_c (s_aload_n (pc := 80) (k := 3) (by decide +kernel)) <|
  n_c (s_iload (pc := 81) (by decide +kernel)) <|
  n_c (s_aldc (s_iaload (pc := 83) (by decide +kernel)) (gk43 hG) (gl43 hG)) <|
  n_c (s_iconst (pc := 84) (n := 1) (by decide +kernel) (by decide +kernel)) <|
  n_c (s_icmp_ne (pc := 85) (off := 8) (by decide +kernel) (by decide +kernel)) <|
  n_c (s_bipush (pc := 88) (n := 6) (by decide +kernel) (by decide +kernel)) <|
  n_c (s_goto (pc := 90) (off := 5) (by decide +kernel) (by decide +kernel)) <|
  n_c (s_bipush (pc := 93) (n := 7) (by decide +kernel) (by decide +kernel)) <|
  n_c (s_iastc (s_iastore (pc := 95) (by decide +kernel)) (gk105 hG) (gl105 hG)) <|
  n_c (s_iinc (pc := 96) (n := 1) (by decide +kernel) (by decide +kernel)) <|
  n_c (s_goto (pc := 99) (off := -50) (by decide +kernel) (by decide +kernel)) <|
  n_c (s_iconst (pc := 102) (n := 0) (by decide +kernel) (by decide +kernel)) <|
  n_c (s_istore (pc := 103) (by decide +kernel)) <|
  n_c (s_iload (pc := 105) (by decide +kernel)) <|
  n_c (s_aload_n (pc := 107) (k := 2) (by decide +kernel)) <|
  n_c (s_gIc (s_getI (pc := 108) (ci := 7) (k := 3) (idx := 46) nok7 (by decide) rfl (by decide +kernel) w_305) (gk26 hG)) <|
  n_c (s_icmp_ge (pc := 111) (off := 27) (by decide +kernel) (by decide +kernel)) <|
  n_c (s_aload_n (pc := 114) (k := 0) (by decide +kernel)) <|
  n_c (s_aload_n (pc := 115) (k := 2) (by decide +kernel)) <|
  n_c (s_iload (pc := 116) (by decide +kernel)) <|
  n_c (s_iconst (pc := 118) (n := 0) (by decide +kernel) (by decide +kernel)) <|
  n_c (s_callVc (s_callV (pc := 119) (csX7_cell) (by decide) okX7_cell nok7 w_786 w_787 w_1228 (by decide +kernel)) (gk26 hG)) <|
  n_c (s_aload_n (pc := 122) (k := 2) (by decide +kernel)) <|
  n_c (s_iload (pc := 123) (by decide +kernel)) <|
  n_c (s_iconst (pc := 125) (n := 1) (by decide +kernel) (by decide +kernel)) <|
  n_c (s_callVc (s_callV (pc := 126) (csX7_cell) (by decide) okX7_cell nok7 w_786 w_787 w_1228 (by decide +kernel)) (gk26 hG)) <|
  n_c (s_callVc (s_callV (pc := 129) (csX2_addParent hG) (by decide) okX2_addParent nok2 w_1231 w_35 w_1229 (by decide +kernel)) (gk101 hG)) <|
  n_c (s_iinc (pc := 132) (n := 1) (by decide +kernel) (by decide +kernel)) <|
  n_c (s_goto (pc := 135) (off := -30) (by decide +kernel) (by decide +kernel)) <|
  n_c (s_vret (pc := 138) rfl (by decide +kernel)) <|
  n_e
def fX2_gather_105 (N : Nat) (G : nG) : Nat → Int32 → nM → Option (Unit × nM)
  | 0, _, _ => none
  | n + 1, x4, M =>
    if (M 26 3) ≤ x4 then
      some ((), M)
    else
      (fX7_cell G 26 x4 (0 : Int32) M).bind fun p1 =>
      (fX7_cell G 26 x4 (1 : Int32) p1.2).bind fun p2 =>
      (fX2_addParent p1.1 p2.1 p2.2).bind fun p3 =>
      let v4 : Int32 := (x4 + (1 : Int32))
      fX2_gather_105 N G n v4 p3.2
set_option maxRecDepth 200000 in
theorem bX2_gather_105 {l : Launch} {w : nW} (N : Nat) {G : nG} (hG : n_GOK G) : ∀ (n : Nat) (x4 : Int32) (M : nM) (r : Unit × nM), fX2_gather_105 N G n x4 M = some r → n_At l w 2 mX2_gather 105 [(0, .ref 101), (2, .ref 26), (4, .int x4)] [] (G, M) (dv_v r.1, (G, r.2)) := by
  intro n
  induction n with
  | zero => intro x4 M r h; cases (show (none : Option (Unit × nM)) = some r from h)
  | succ n ih =>
    intro x4 M r h
    exact n_seg (fin := n_fin dv_v G) (K := [(105, fun lv st M => n_lC 101 lv 0 (n_lC 26 lv 2 (n_lI lv 4 (fun x4 => n_pE st (fX2_gather_105 N G n x4 M)))))]) 20 (iX2_gather N hG) (n_kc (fun lv st M r h => by
      obtain ⟨e0, h1⟩ := n_lC_x h
      obtain ⟨e2, h2⟩ := n_lC_x h1
      obtain ⟨x4, e4, h3⟩ := n_lI_x h2
      obtain ⟨rfl, h4⟩ := n_pE_x h3
      exact n_sub (n_qc e0 (n_qc e2 (n_qc e4 n_qe))) (ih x4 M r h4)) n_ke) (by rfl) h
def fX2_gather_49 (N : Nat) (G : nG) : Nat → Int32 → nM → Option (Unit × nM)
  | 0, _, _ => none
  | n + 1, x4, M =>
    if (12 : Int32) ≤ x4 then
      fX2_gather_105 N G N (0 : Int32) M
    else
      if (Int32.ofNat 12) ≤ x4 then
        fX2_gather_105 N G N (0 : Int32) M
      else
        n_chk (n_ib 12 x4) <|
        if ¬ (M 43 x4.toNatClampNeg) = 0 then
          n_chk (n_ib 12 x4) <|
          if ¬ (M 43 x4.toNatClampNeg) = (1 : Int32) then
            n_chk (n_ib 12 x4) <|
            let M1 : nM := n_up M 105 x4.toNatClampNeg (7 : Int32)
            let v2 : Int32 := (x4 + (1 : Int32))
            fX2_gather_49 N G n v2 M1
          else
            n_chk (n_ib 12 x4) <|
            let M3 : nM := n_up M 105 x4.toNatClampNeg (6 : Int32)
            let v4 : Int32 := (x4 + (1 : Int32))
            fX2_gather_49 N G n v4 M3
        else
          n_chk (n_ib 12 x4) <|
          let M5 : nM := n_up M 105 x4.toNatClampNeg (1 : Int32)
          let v6 : Int32 := (x4 + (1 : Int32))
          fX2_gather_49 N G n v6 M5
set_option maxRecDepth 200000 in
theorem bX2_gather_49 {l : Launch} {w : nW} (N : Nat) {G : nG} (hG : n_GOK G) : ∀ (n : Nat) (x4 : Int32) (M : nM) (r : Unit × nM), fX2_gather_49 N G n x4 M = some r → n_At l w 2 mX2_gather 49 [(0, .ref 101), (2, .ref 26), (3, .ref 43), (4, .int x4)] [] (G, M) (dv_v r.1, (G, r.2)) := by
  intro n
  induction n with
  | zero => intro x4 M r h; cases (show (none : Option (Unit × nM)) = some r from h)
  | succ n ih =>
    intro x4 M r h
    exact n_seg (fin := n_fin dv_v G) (K := [(49, fun lv st M => n_lC 101 lv 0 (n_lC 26 lv 2 (n_lC 43 lv 3 (n_lI lv 4 (fun x4 => n_pE st (fX2_gather_49 N G n x4 M)))))), (105, fun lv st M => n_lC 101 lv 0 (n_lC 26 lv 2 (n_lI lv 4 (fun x4 => n_pE st (fX2_gather_105 N G N x4 M)))))]) 40 (iX2_gather N hG) (n_kc (fun lv st M r h => by
      obtain ⟨e0, h1⟩ := n_lC_x h
      obtain ⟨e2, h2⟩ := n_lC_x h1
      obtain ⟨e3, h3⟩ := n_lC_x h2
      obtain ⟨x4, e4, h4⟩ := n_lI_x h3
      obtain ⟨rfl, h5⟩ := n_pE_x h4
      exact n_sub (n_qc e0 (n_qc e2 (n_qc e3 (n_qc e4 n_qe)))) (ih x4 M r h5)) (n_kc (fun lv st M r h => by
      obtain ⟨e0, h1⟩ := n_lC_x h
      obtain ⟨e2, h2⟩ := n_lC_x h1
      obtain ⟨x4, e4, h3⟩ := n_lI_x h2
      obtain ⟨rfl, h4⟩ := n_pE_x h3
      exact n_sub (n_qc e0 (n_qc e2 (n_qc e4 n_qe))) (bX2_gather_105 N hG N x4 M r h4)) n_ke)) (by rfl) h
def fX2_gather (N : Nat) (G : nG) (x1 : Int32) (M : nM) : Option (Unit × nM) :=
  let M1 : nM := n_up M 101 5 (if (0 : Int32) < (if (12 : Int32) < x1 then (12 : Int32) else x1) then (if (12 : Int32) < x1 then (12 : Int32) else x1) else (0 : Int32))
  (fJ7_fill_53178 N G 102 (-1 : Int32) M1).bind fun p2 =>
  (fJ7_fill_53178 N G 103 (-1 : Int32) p2.2).bind fun p3 =>
  (fJ7_fill_53178 N G 104 (0 : Int32) p3.2).bind fun p4 =>
  (fJ7_fill_53178 N G 106 (-1 : Int32) p4.2).bind fun p5 =>
  fX2_gather_49 N G N (0 : Int32) p5.2
set_option maxRecDepth 200000 in
theorem bX2_gather_0 {l : Launch} {w : nW} (N : Nat) {G : nG} (hG : n_GOK G) (x1 : Int32) (M : nM) (r : Unit × nM) (h : fX2_gather N G x1 M = some r) : n_At l w 2 mX2_gather 0 [(0, .ref 101), (1, .int x1), (2, .ref 26), (3, .ref 43)] [] (G, M) (dv_v r.1, (G, r.2)) :=
  n_seg (fin := n_fin dv_v G) (K := [(49, fun lv st M => n_lC 101 lv 0 (n_lC 26 lv 2 (n_lC 43 lv 3 (n_lI lv 4 (fun x4 => n_pE st (fX2_gather_49 N G N x4 M))))))]) 28 (iX2_gather N hG) (n_kc (fun lv st M r h => by
      obtain ⟨e0, h1⟩ := n_lC_x h
      obtain ⟨e2, h2⟩ := n_lC_x h1
      obtain ⟨e3, h3⟩ := n_lC_x h2
      obtain ⟨x4, e4, h4⟩ := n_lI_x h3
      obtain ⟨rfl, h5⟩ := n_pE_x h4
      exact n_sub (n_qc e0 (n_qc e2 (n_qc e3 (n_qc e4 n_qe)))) (bX2_gather_49 N hG N x4 M r h5)) n_ke) (by rfl) h
theorem eX2_gather {l : Launch} {w : nW} (N : Nat) {G : nG} (hG : n_GOK G) (z1 : Int32) (M : nM) (r : Unit × nM) (h : fX2_gather N G z1 M = some r) : n_Met l w 2 mX2_gather [.ref 101, .int z1, .ref 26, .ref 43] (G, M) (dv_v r.1, (G, r.2)) :=
  n_entry (by decide +kernel) rfl (Nat.le_of_ble_eq_true rfl) (n_sub (lv := [(0, .ref 101), (1, .int z1), (2, .ref 26), (3, .ref 43)]) (n_qc rfl (n_qc rfl (n_qc rfl (n_qc rfl n_qe)))) (bX2_gather_0 N hG z1 M r h))
abbrev hX2_gather (N : Nat) (G : nG) : nF := fun T as M k => n_pC 101 as (fun as => n_pI as (fun z1 as => n_pC 26 as (fun as => n_pC 43 as (fun as => n_pE as ((fX2_gather N G z1 M).bind fun p => k (dv_v p.1) p.2)))))
theorem csX2_gather {l : Launch} {w : nW} (N : Nat) {G : nG} (hG : n_GOK G) : n_CS l w 2 mX2_gather G (hX2_gather N G) := fun T as M k r h => by
  obtain ⟨t0, rfl, h1⟩ := n_pC_x h
  obtain ⟨z1, t1, rfl, h2⟩ := n_pI_x h1
  obtain ⟨t2, rfl, h3⟩ := n_pC_x h2
  obtain ⟨t3, rfl, h4⟩ := n_pC_x h3
  obtain ⟨rfl, hE⟩ := n_pE_x h4
  obtain ⟨p, hp, hk⟩ := Option.bind_eq_some_iff.mp hE
  exact ⟨_, _, eX2_gather N hG z1 M p hp, hk⟩
/-! ===== SleightHouse$Kin.knotOf(II)I ===== -/
def mX2_knotOf : nY := (RX2, yX2_knotOf, cX2_knotOf, 7, some .int)
theorem okX2_knotOf : n_MOK mX2_knotOf 2 := ⟨w_1249, w_150, ⟨by decide +kernel, by decide +kernel, by decide +kernel⟩, by decide⟩
abbrev aX2_knotOf (N : Nat) : List (Nat × nO (Int32 × nM)) := [(0, o_push (.int (1 : Int32)) 1), (1, o_iload 1 2), (2, o_ishl 3), (3, o_istore 7 3 4), (4, o_push (.int (0 : Int32)) 5), (5, o_istore 7 4 7), (7, o_iload 4 9), (9, o_push (.int (12 : Int32)) 11), (11, oc_ge 70 14), (14, o_iload 3 15), (15, o_istore 7 5 17), (17, o_push (.int (0 : Int32)) 18), (18, o_istore 7 6 20), (20, o_iload 6 22), (22, o_aload 0 23), (23, o_gIc 101 5 26), (26, oc_ge 56 29), (29, o_iload 3 30), (30, o_iload 6 32), (32, o_call 2 (hX4_hasBit) 35), (35, oi_eq 50 38), (38, o_iload 3 39), (39, o_aload 0 40), (40, o_gRc 101 104 43), (43, o_iload 6 45), (45, o_aldc 104 12 46), (46, o_iload 2 47), (47, o_iand 48), (48, o_ior 49), (49, o_istore 7 3 50), (50, o_inc 7 6 (1 : Int32) 53), (53, o_goto 20), (56, o_iload 3 57), (57, o_iload 5 59), (59, oc_ne 64 62), (62, o_iload 3 63), (63, o_iret), (64, o_inc 7 4 (1 : Int32) 67), (67, o_goto 7), (70, o_iload 3 71), (71, o_iret)]
set_option maxRecDepth 200000 in
theorem iX2_knotOf {l : Launch} {w : nW} (N : Nat) {G : nG} (hG : n_GOK G) : n_AllS l w 2 mX2_knotOf G (n_fin dv_i G) (aX2_knotOf N) :=
  n_c (s_iconst (pc := 0) (n := 1) (by decide +kernel) (by decide +kernel)) <|
  n_c (s_iload_n (pc := 1) (k := 1) (by decide +kernel)) <|
  n_c (s_ishl (pc := 2) (by decide +kernel)) <|
  n_c (s_istore_n (pc := 3) (k := 3) (by decide +kernel)) <|
  n_c (s_iconst (pc := 4) (n := 0) (by decide +kernel) (by decide +kernel)) <|
  n_c (s_istore (pc := 5) (by decide +kernel)) <|
  n_c (s_iload (pc := 7) (by decide +kernel)) <|
  n_c (s_bipush (pc := 9) (n := 12) (by decide +kernel) (by decide +kernel)) <|
  n_c (s_icmp_ge (pc := 11) (off := 59) (by decide +kernel) (by decide +kernel)) <|
  n_c (s_iload_n (pc := 14) (k := 3) (by decide +kernel)) <|
  n_c (s_istore (pc := 15) (by decide +kernel)) <|
  n_c (s_iconst (pc := 17) (n := 0) (by decide +kernel) (by decide +kernel)) <|
  n_c (s_istore (pc := 18) (by decide +kernel)) <|
  n_c (s_iload (pc := 20) (by decide +kernel)) <|
  n_c (s_aload_n (pc := 22) (k := 0) (by decide +kernel)) <|
  n_c (s_gIc (s_getI (pc := 23) (ci := 2) (k := 5) (idx := 27) nok2 (by decide) rfl (by decide +kernel) w_558) (gk101 hG)) <|
  n_c (s_icmp_ge (pc := 26) (off := 30) (by decide +kernel) (by decide +kernel)) <|
  n_c (s_iload_n (pc := 29) (k := 3) (by decide +kernel)) <|
  n_c (s_iload (pc := 30) (by decide +kernel)) <|
  n_c (s_callS (pc := 32) (csX4_hasBit) (by decide) okX4_hasBit w_675 w_1245 (by decide +kernel)) <|
  n_c (s_if_eq (pc := 35) (off := 15) (by decide +kernel) (by decide +kernel)) <|
  n_c (s_iload_n (pc := 38) (k := 3) (by decide +kernel)) <|
  n_c (s_aload_n (pc := 39) (k := 0) (by decide +kernel)) <|
  n_c (s_gRc (s_getR (pc := 40) (ci := 2) (k := 2) (idx := 18) nok2 (by decide) rfl (by decide +kernel) w_555) (gk101 hG) (gm101_2 hG)) <|
  n_c (s_iload (pc := 43) (by decide +kernel)) <|
  n_c (s_aldc (s_iaload (pc := 45) (by decide +kernel)) (gk104 hG) (gl104 hG)) <|
  n_c (s_iload_n (pc := 46) (k := 2) (by decide +kernel)) <|
  n_c (s_iand (pc := 47) (by decide +kernel)) <|
  n_c (s_ior (pc := 48) (by decide +kernel)) <|
  n_c (s_istore_n (pc := 49) (k := 3) (by decide +kernel)) <|
  n_c (s_iinc (pc := 50) (n := 1) (by decide +kernel) (by decide +kernel)) <|
  n_c (s_goto (pc := 53) (off := -33) (by decide +kernel) (by decide +kernel)) <|
  n_c (s_iload_n (pc := 56) (k := 3) (by decide +kernel)) <|
  n_c (s_iload (pc := 57) (by decide +kernel)) <|
  n_c (s_icmp_ne (pc := 59) (off := 5) (by decide +kernel) (by decide +kernel)) <|
  n_c (s_iload_n (pc := 62) (k := 3) (by decide +kernel)) <|
  n_c (s_iret (pc := 63) rfl (by decide +kernel)) <|
  n_c (s_iinc (pc := 64) (n := 1) (by decide +kernel) (by decide +kernel)) <|
  n_c (s_goto (pc := 67) (off := -60) (by decide +kernel) (by decide +kernel)) <|
  n_c (s_iload_n (pc := 70) (k := 3) (by decide +kernel)) <|
  n_c (s_iret (pc := 71) rfl (by decide +kernel)) <|
  n_e
def fX2_knotOf_20 (N : Nat) (k7 : Int32 → Int32 → Int32 → nM → Option (Int32 × nM)) : Nat → Int32 → Int32 → Int32 → Int32 → Int32 → nM → Option (Int32 × nM)
  | 0, _, _, _, _, _, _ => none
  | n + 1, x2, x3, x4, x5, x6, M =>
    if (M 101 5) ≤ x6 then
      if ¬ x3 = x5 then
        let v1 : Int32 := (x4 + (1 : Int32))
        k7 x2 x3 v1 M
      else
        some (x3, M)
    else
      (fX4_hasBit x3 x6 M).bind fun p2 =>
      if p2.1 = 0 then
        let v3 : Int32 := (x6 + (1 : Int32))
        fX2_knotOf_20 N k7 n x2 x3 x4 x5 v3 p2.2
      else
        n_chk (n_ib 12 x6) <|
        let v4 : Int32 := (x3 ||| ((p2.2 104 x6.toNatClampNeg) &&& x2))
        let v5 : Int32 := (x6 + (1 : Int32))
        fX2_knotOf_20 N k7 n x2 v4 x4 x5 v5 p2.2
set_option maxRecDepth 200000 in
theorem bX2_knotOf_20 {l : Launch} {w : nW} (N : Nat) {G : nG} (hG : n_GOK G) (k7 : Int32 → Int32 → Int32 → nM → Option (Int32 × nM)) (hk7 : ∀ (x2 : Int32) (x3 : Int32) (x4 : Int32) (M : nM) (r : Int32 × nM), k7 x2 x3 x4 M = some r → n_At l w 2 mX2_knotOf 7 [(0, .ref 101), (2, .int x2), (3, .int x3), (4, .int x4)] [] (G, M) (dv_i r.1, (G, r.2))) : ∀ (n : Nat) (x2 : Int32) (x3 : Int32) (x4 : Int32) (x5 : Int32) (x6 : Int32) (M : nM) (r : Int32 × nM), fX2_knotOf_20 N k7 n x2 x3 x4 x5 x6 M = some r → n_At l w 2 mX2_knotOf 20 [(0, .ref 101), (2, .int x2), (3, .int x3), (4, .int x4), (5, .int x5), (6, .int x6)] [] (G, M) (dv_i r.1, (G, r.2)) := by
  intro n
  induction n with
  | zero => intro x2 x3 x4 x5 x6 M r h; cases (show (none : Option (Int32 × nM)) = some r from h)
  | succ n ih =>
    intro x2 x3 x4 x5 x6 M r h
    exact n_seg (fin := n_fin dv_i G) (K := [(7, fun lv st M => n_lC 101 lv 0 (n_lI lv 2 (fun x2 => n_lI lv 3 (fun x3 => n_lI lv 4 (fun x4 => n_pE st (k7 x2 x3 x4 M)))))), (20, fun lv st M => n_lC 101 lv 0 (n_lI lv 2 (fun x2 => n_lI lv 3 (fun x3 => n_lI lv 4 (fun x4 => n_lI lv 5 (fun x5 => n_lI lv 6 (fun x6 => n_pE st (fX2_knotOf_20 N k7 n x2 x3 x4 x5 x6 M))))))))]) 31 (iX2_knotOf N hG) (n_kc (fun lv st M r h => by
      obtain ⟨e0, h1⟩ := n_lC_x h
      obtain ⟨x2, e2, h2⟩ := n_lI_x h1
      obtain ⟨x3, e3, h3⟩ := n_lI_x h2
      obtain ⟨x4, e4, h4⟩ := n_lI_x h3
      obtain ⟨rfl, h5⟩ := n_pE_x h4
      exact n_sub (n_qc e0 (n_qc e2 (n_qc e3 (n_qc e4 n_qe)))) (hk7 x2 x3 x4 M r h5)) (n_kc (fun lv st M r h => by
      obtain ⟨e0, h1⟩ := n_lC_x h
      obtain ⟨x2, e2, h2⟩ := n_lI_x h1
      obtain ⟨x3, e3, h3⟩ := n_lI_x h2
      obtain ⟨x4, e4, h4⟩ := n_lI_x h3
      obtain ⟨x5, e5, h5⟩ := n_lI_x h4
      obtain ⟨x6, e6, h6⟩ := n_lI_x h5
      obtain ⟨rfl, h7⟩ := n_pE_x h6
      exact n_sub (n_qc e0 (n_qc e2 (n_qc e3 (n_qc e4 (n_qc e5 (n_qc e6 n_qe)))))) (ih x2 x3 x4 x5 x6 M r h7)) n_ke)) (by rfl) h
def fX2_knotOf_7 (N : Nat) : Nat → Int32 → Int32 → Int32 → nM → Option (Int32 × nM)
  | 0, _, _, _, _ => none
  | n + 1, x2, x3, x4, M =>
    if (12 : Int32) ≤ x4 then
      some (x3, M)
    else
      fX2_knotOf_20 N (fun x2 x3 x4 M => fX2_knotOf_7 N n x2 x3 x4 M) N x2 x3 x4 x3 (0 : Int32) M
set_option maxRecDepth 200000 in
theorem bX2_knotOf_7 {l : Launch} {w : nW} (N : Nat) {G : nG} (hG : n_GOK G) : ∀ (n : Nat) (x2 : Int32) (x3 : Int32) (x4 : Int32) (M : nM) (r : Int32 × nM), fX2_knotOf_7 N n x2 x3 x4 M = some r → n_At l w 2 mX2_knotOf 7 [(0, .ref 101), (2, .int x2), (3, .int x3), (4, .int x4)] [] (G, M) (dv_i r.1, (G, r.2)) := by
  intro n
  induction n with
  | zero => intro x2 x3 x4 M r h; cases (show (none : Option (Int32 × nM)) = some r from h)
  | succ n ih =>
    intro x2 x3 x4 M r h
    exact n_seg (fin := n_fin dv_i G) (K := [(20, fun lv st M => n_lC 101 lv 0 (n_lI lv 2 (fun x2 => n_lI lv 3 (fun x3 => n_lI lv 4 (fun x4 => n_lI lv 5 (fun x5 => n_lI lv 6 (fun x6 => n_pE st (fX2_knotOf_20 N (fun x2 x3 x4 M => fX2_knotOf_7 N n x2 x3 x4 M) N x2 x3 x4 x5 x6 M))))))))]) 12 (iX2_knotOf N hG) (n_kc (fun lv st M r h => by
      obtain ⟨e0, h1⟩ := n_lC_x h
      obtain ⟨x2, e2, h2⟩ := n_lI_x h1
      obtain ⟨x3, e3, h3⟩ := n_lI_x h2
      obtain ⟨x4, e4, h4⟩ := n_lI_x h3
      obtain ⟨x5, e5, h5⟩ := n_lI_x h4
      obtain ⟨x6, e6, h6⟩ := n_lI_x h5
      obtain ⟨rfl, h7⟩ := n_pE_x h6
      exact n_sub (n_qc e0 (n_qc e2 (n_qc e3 (n_qc e4 (n_qc e5 (n_qc e6 n_qe)))))) (bX2_knotOf_20 N hG (fun x2 x3 x4 M => fX2_knotOf_7 N n x2 x3 x4 M) ih N x2 x3 x4 x5 x6 M r h7)) n_ke) (by rfl) h
def fX2_knotOf (N : Nat) (x1 : Int32) (x2 : Int32) (M : nM) : Option (Int32 × nM) :=
  let v1 : Int32 := ((1 : Int32) <<< (x1 &&& 31))
  fX2_knotOf_7 N N x2 v1 (0 : Int32) M
set_option maxRecDepth 200000 in
theorem bX2_knotOf_0 {l : Launch} {w : nW} (N : Nat) {G : nG} (hG : n_GOK G) (x1 : Int32) (x2 : Int32) (M : nM) (r : Int32 × nM) (h : fX2_knotOf N x1 x2 M = some r) : n_At l w 2 mX2_knotOf 0 [(0, .ref 101), (1, .int x1), (2, .int x2)] [] (G, M) (dv_i r.1, (G, r.2)) :=
  n_seg (fin := n_fin dv_i G) (K := [(7, fun lv st M => n_lC 101 lv 0 (n_lI lv 2 (fun x2 => n_lI lv 3 (fun x3 => n_lI lv 4 (fun x4 => n_pE st (fX2_knotOf_7 N N x2 x3 x4 M))))))]) 9 (iX2_knotOf N hG) (n_kc (fun lv st M r h => by
      obtain ⟨e0, h1⟩ := n_lC_x h
      obtain ⟨x2, e2, h2⟩ := n_lI_x h1
      obtain ⟨x3, e3, h3⟩ := n_lI_x h2
      obtain ⟨x4, e4, h4⟩ := n_lI_x h3
      obtain ⟨rfl, h5⟩ := n_pE_x h4
      exact n_sub (n_qc e0 (n_qc e2 (n_qc e3 (n_qc e4 n_qe)))) (bX2_knotOf_7 N hG N x2 x3 x4 M r h5)) n_ke) (by rfl) h
theorem eX2_knotOf {l : Launch} {w : nW} (N : Nat) {G : nG} (hG : n_GOK G) (z1 : Int32) (z2 : Int32) (M : nM) (r : Int32 × nM) (h : fX2_knotOf N z1 z2 M = some r) : n_Met l w 2 mX2_knotOf [.ref 101, .int z1, .int z2] (G, M) (dv_i r.1, (G, r.2)) :=
  n_entry (by decide +kernel) rfl (Nat.le_of_ble_eq_true rfl) (n_sub (lv := [(0, .ref 101), (1, .int z1), (2, .int z2)]) (n_qc rfl (n_qc rfl (n_qc rfl n_qe))) (bX2_knotOf_0 N hG z1 z2 M r h))
abbrev hX2_knotOf (N : Nat) : nF := fun T as M k => n_pC 101 as (fun as => n_pI as (fun z1 as => n_pI as (fun z2 as => n_pE as ((fX2_knotOf N z1 z2 M).bind fun p => k (dv_i p.1) p.2))))
theorem csX2_knotOf {l : Launch} {w : nW} (N : Nat) {G : nG} (hG : n_GOK G) : n_CS l w 2 mX2_knotOf G (hX2_knotOf N) := fun T as M k r h => by
  obtain ⟨t0, rfl, h1⟩ := n_pC_x h
  obtain ⟨z1, t1, rfl, h2⟩ := n_pI_x h1
  obtain ⟨z2, t2, rfl, h3⟩ := n_pI_x h2
  obtain ⟨rfl, hE⟩ := n_pE_x h3
  obtain ⟨p, hp, hk⟩ := Option.bind_eq_some_iff.mp hE
  exact ⟨_, _, eX2_knotOf N hG z1 z2 M p hp, hk⟩
/-! ===== SleightHouse$Kin.mostBound(I)I ===== -/
def mX2_mostBound : nY := (RX2, yX2_mostBound, cX2_mostBound, 6, some .int)
theorem okX2_mostBound : n_MOK mX2_mostBound 1 := ⟨w_1257, w_150, ⟨by decide +kernel, by decide +kernel, by decide +kernel⟩, by decide⟩
abbrev aX2_mostBound (N : Nat) : List (Nat × nO (Int32 × nM)) := [(0, o_push (.int (0 : Int32)) 1), (1, o_istore 6 2 2), (2, o_push (.int (-1 : Int32)) 3), (3, o_istore 6 3 4), (4, o_push (.int (0 : Int32)) 5), (5, o_istore 6 4 7), (7, o_iload 4 9), (9, o_aload 0 10), (10, o_gIc 101 5 13), (13, oc_ge 57 16), (16, o_aload 0 17), (17, o_gRc 101 104 20), (20, o_iload 4 22), (22, o_aldc 104 12 23), (23, o_iload 1 24), (24, o_iand 25), (25, o_call 1 (hJ6_bitCount_0f7a4) 28), (28, o_istore 6 5 30), (30, o_iload 1 31), (31, o_iload 4 33), (33, o_call 2 (hX4_hasBit) 36), (36, oi_eq 51 39), (39, o_iload 5 41), (41, o_iload 3 42), (42, oc_le 51 45), (45, o_iload 4 47), (47, o_istore 6 2 48), (48, o_iload 5 50), (50, o_istore 6 3 51), (51, o_inc 6 4 (1 : Int32) 54), (54, o_goto 7), (57, o_iload 2 58), (58, o_iret)]
set_option maxRecDepth 200000 in
theorem iX2_mostBound {l : Launch} {w : nW} (N : Nat) {G : nG} (hG : n_GOK G) : n_AllS l w 2 mX2_mostBound G (n_fin dv_i G) (aX2_mostBound N) :=
  n_c (s_iconst (pc := 0) (n := 0) (by decide +kernel) (by decide +kernel)) <|
  n_c (s_istore_n (pc := 1) (k := 2) (by decide +kernel)) <|
  n_c (s_iconst (pc := 2) (n := -1) (by decide +kernel) (by decide +kernel)) <|
  n_c (s_istore_n (pc := 3) (k := 3) (by decide +kernel)) <|
  n_c (s_iconst (pc := 4) (n := 0) (by decide +kernel) (by decide +kernel)) <|
  n_c (s_istore (pc := 5) (by decide +kernel)) <|
  n_c (s_iload (pc := 7) (by decide +kernel)) <|
  n_c (s_aload_n (pc := 9) (k := 0) (by decide +kernel)) <|
  n_c (s_gIc (s_getI (pc := 10) (ci := 2) (k := 5) (idx := 27) nok2 (by decide) rfl (by decide +kernel) w_558) (gk101 hG)) <|
  n_c (s_icmp_ge (pc := 13) (off := 44) (by decide +kernel) (by decide +kernel)) <|
  n_c (s_aload_n (pc := 16) (k := 0) (by decide +kernel)) <|
  n_c (s_gRc (s_getR (pc := 17) (ci := 2) (k := 2) (idx := 18) nok2 (by decide) rfl (by decide +kernel) w_555) (gk101 hG) (gm101_2 hG)) <|
  n_c (s_iload (pc := 20) (by decide +kernel)) <|
  n_c (s_aldc (s_iaload (pc := 22) (by decide +kernel)) (gk104 hG) (gl104 hG)) <|
  n_c (s_iload_n (pc := 23) (k := 1) (by decide +kernel)) <|
  n_c (s_iand (pc := 24) (by decide +kernel)) <|
  n_c (s_callS (pc := 25) (csJ6_bitCount_0f7a4) (by decide) okJ6_bitCount_0f7a4 w_1109 w_1258 (by decide +kernel)) <|
  n_c (s_istore (pc := 28) (by decide +kernel)) <|
  n_c (s_iload_n (pc := 30) (k := 1) (by decide +kernel)) <|
  n_c (s_iload (pc := 31) (by decide +kernel)) <|
  n_c (s_callS (pc := 33) (csX4_hasBit) (by decide) okX4_hasBit w_675 w_1245 (by decide +kernel)) <|
  n_c (s_if_eq (pc := 36) (off := 15) (by decide +kernel) (by decide +kernel)) <|
  n_c (s_iload (pc := 39) (by decide +kernel)) <|
  n_c (s_iload_n (pc := 41) (k := 3) (by decide +kernel)) <|
  n_c (s_icmp_le (pc := 42) (off := 9) (by decide +kernel) (by decide +kernel)) <|
  n_c (s_iload (pc := 45) (by decide +kernel)) <|
  n_c (s_istore_n (pc := 47) (k := 2) (by decide +kernel)) <|
  n_c (s_iload (pc := 48) (by decide +kernel)) <|
  n_c (s_istore_n (pc := 50) (k := 3) (by decide +kernel)) <|
  n_c (s_iinc (pc := 51) (n := 1) (by decide +kernel) (by decide +kernel)) <|
  n_c (s_goto (pc := 54) (off := -47) (by decide +kernel) (by decide +kernel)) <|
  n_c (s_iload_n (pc := 57) (k := 2) (by decide +kernel)) <|
  n_c (s_iret (pc := 58) rfl (by decide +kernel)) <|
  n_e
def fX2_mostBound_7 (N : Nat) : Nat → Int32 → Int32 → Int32 → Int32 → nM → Option (Int32 × nM)
  | 0, _, _, _, _, _ => none
  | n + 1, x1, x2, x3, x4, M =>
    if (M 101 5) ≤ x4 then
      some (x2, M)
    else
      n_chk (n_ib 12 x4) <|
      (fJ6_bitCount_0f7a4 ((M 104 x4.toNatClampNeg) &&& x1) M).bind fun p1 =>
      (fX4_hasBit x1 x4 p1.2).bind fun p2 =>
      if p2.1 = 0 then
        let v3 : Int32 := (x4 + (1 : Int32))
        fX2_mostBound_7 N n x1 x2 x3 v3 p2.2
      else
        if p1.1 ≤ x3 then
          let v4 : Int32 := (x4 + (1 : Int32))
          fX2_mostBound_7 N n x1 x2 x3 v4 p2.2
        else
          let v5 : Int32 := (x4 + (1 : Int32))
          fX2_mostBound_7 N n x1 x4 p1.1 v5 p2.2
set_option maxRecDepth 200000 in
theorem bX2_mostBound_7 {l : Launch} {w : nW} (N : Nat) {G : nG} (hG : n_GOK G) : ∀ (n : Nat) (x1 : Int32) (x2 : Int32) (x3 : Int32) (x4 : Int32) (M : nM) (r : Int32 × nM), fX2_mostBound_7 N n x1 x2 x3 x4 M = some r → n_At l w 2 mX2_mostBound 7 [(0, .ref 101), (1, .int x1), (2, .int x2), (3, .int x3), (4, .int x4)] [] (G, M) (dv_i r.1, (G, r.2)) := by
  intro n
  induction n with
  | zero => intro x1 x2 x3 x4 M r h; cases (show (none : Option (Int32 × nM)) = some r from h)
  | succ n ih =>
    intro x1 x2 x3 x4 M r h
    exact n_seg (fin := n_fin dv_i G) (K := [(7, fun lv st M => n_lC 101 lv 0 (n_lI lv 1 (fun x1 => n_lI lv 2 (fun x2 => n_lI lv 3 (fun x3 => n_lI lv 4 (fun x4 => n_pE st (fX2_mostBound_7 N n x1 x2 x3 x4 M)))))))]) 34 (iX2_mostBound N hG) (n_kc (fun lv st M r h => by
      obtain ⟨e0, h1⟩ := n_lC_x h
      obtain ⟨x1, e1, h2⟩ := n_lI_x h1
      obtain ⟨x2, e2, h3⟩ := n_lI_x h2
      obtain ⟨x3, e3, h4⟩ := n_lI_x h3
      obtain ⟨x4, e4, h5⟩ := n_lI_x h4
      obtain ⟨rfl, h6⟩ := n_pE_x h5
      exact n_sub (n_qc e0 (n_qc e1 (n_qc e2 (n_qc e3 (n_qc e4 n_qe))))) (ih x1 x2 x3 x4 M r h6)) n_ke) (by rfl) h
def fX2_mostBound (N : Nat) (x1 : Int32) (M : nM) : Option (Int32 × nM) :=
  fX2_mostBound_7 N N x1 (0 : Int32) (-1 : Int32) (0 : Int32) M
set_option maxRecDepth 200000 in
theorem bX2_mostBound_0 {l : Launch} {w : nW} (N : Nat) {G : nG} (hG : n_GOK G) (x1 : Int32) (M : nM) (r : Int32 × nM) (h : fX2_mostBound N x1 M = some r) : n_At l w 2 mX2_mostBound 0 [(0, .ref 101), (1, .int x1)] [] (G, M) (dv_i r.1, (G, r.2)) :=
  n_seg (fin := n_fin dv_i G) (K := [(7, fun lv st M => n_lC 101 lv 0 (n_lI lv 1 (fun x1 => n_lI lv 2 (fun x2 => n_lI lv 3 (fun x3 => n_lI lv 4 (fun x4 => n_pE st (fX2_mostBound_7 N N x1 x2 x3 x4 M)))))))]) 9 (iX2_mostBound N hG) (n_kc (fun lv st M r h => by
      obtain ⟨e0, h1⟩ := n_lC_x h
      obtain ⟨x1, e1, h2⟩ := n_lI_x h1
      obtain ⟨x2, e2, h3⟩ := n_lI_x h2
      obtain ⟨x3, e3, h4⟩ := n_lI_x h3
      obtain ⟨x4, e4, h5⟩ := n_lI_x h4
      obtain ⟨rfl, h6⟩ := n_pE_x h5
      exact n_sub (n_qc e0 (n_qc e1 (n_qc e2 (n_qc e3 (n_qc e4 n_qe))))) (bX2_mostBound_7 N hG N x1 x2 x3 x4 M r h6)) n_ke) (by rfl) h
theorem eX2_mostBound {l : Launch} {w : nW} (N : Nat) {G : nG} (hG : n_GOK G) (z1 : Int32) (M : nM) (r : Int32 × nM) (h : fX2_mostBound N z1 M = some r) : n_Met l w 2 mX2_mostBound [.ref 101, .int z1] (G, M) (dv_i r.1, (G, r.2)) :=
  n_entry (by decide +kernel) rfl (Nat.le_of_ble_eq_true rfl) (n_sub (lv := [(0, .ref 101), (1, .int z1)]) (n_qc rfl (n_qc rfl n_qe)) (bX2_mostBound_0 N hG z1 M r h))
abbrev hX2_mostBound (N : Nat) : nF := fun T as M k => n_pC 101 as (fun as => n_pI as (fun z1 as => n_pE as ((fX2_mostBound N z1 M).bind fun p => k (dv_i p.1) p.2)))
theorem csX2_mostBound {l : Launch} {w : nW} (N : Nat) {G : nG} (hG : n_GOK G) : n_CS l w 2 mX2_mostBound G (hX2_mostBound N) := fun T as M k r h => by
  obtain ⟨t0, rfl, h1⟩ := n_pC_x h
  obtain ⟨z1, t1, rfl, h2⟩ := n_pI_x h1
  obtain ⟨rfl, hE⟩ := n_pE_x h2
  obtain ⟨p, hp, hk⟩ := Option.bind_eq_some_iff.mp hE
  exact ⟨_, _, eX2_mostBound N hG z1 M p hp, hk⟩
/-! ===== SleightHouse$Kin.marksOf(I)I ===== -/
def mX2_marksOf : nY := (RX2, yX2_marksOf, cX2_marksOf, 2, some .int)
theorem okX2_marksOf : n_MOK mX2_marksOf 1 := ⟨w_1270, w_150, ⟨by decide +kernel, by decide +kernel, by decide +kernel⟩, by decide⟩
abbrev aX2_marksOf : List (Nat × nO (Int32 × nM)) := [(0, o_iload 1 1), (1, oi_lt 22 4), (4, o_iload 1 5), (5, o_aload 0 6), (6, o_gIc 101 5 9), (9, oc_ge 22 12), (12, o_aload 0 13), (13, o_gRc 101 106 16), (16, o_iload 1 17), (17, o_aldc 106 12 18), (18, o_push (.int (-1 : Int32)) 19), (19, oc_ne 24 22), (22, o_push (.int (1 : Int32)) 23), (23, o_iret), (24, o_aload 0 25), (25, o_gRc 101 106 28), (28, o_iload 1 29), (29, o_aldc 106 12 30), (30, o_iret)]
set_option maxRecDepth 200000 in
theorem iX2_marksOf {l : Launch} {w : nW} {G : nG} (hG : n_GOK G) : n_AllS l w 0 mX2_marksOf G (n_fin dv_i G) (aX2_marksOf) :=
  n_c (s_iload_n (pc := 0) (k := 1) (by decide +kernel)) <|
  n_c (s_if_lt (pc := 1) (off := 21) (by decide +kernel) (by decide +kernel)) <|
  n_c (s_iload_n (pc := 4) (k := 1) (by decide +kernel)) <|
  n_c (s_aload_n (pc := 5) (k := 0) (by decide +kernel)) <|
  n_c (s_gIc (s_getI (pc := 6) (ci := 2) (k := 5) (idx := 27) nok2 (by decide) rfl (by decide +kernel) w_558) (gk101 hG)) <|
  n_c (s_icmp_ge (pc := 9) (off := 13) (by decide +kernel) (by decide +kernel)) <|
  n_c (s_aload_n (pc := 12) (k := 0) (by decide +kernel)) <|
  n_c (s_gRc (s_getR (pc := 13) (ci := 2) (k := 4) (idx := 24) nok2 (by decide) rfl (by decide +kernel) w_557) (gk101 hG) (gm101_4 hG)) <|
  n_c (s_iload_n (pc := 16) (k := 1) (by decide +kernel)) <|
  n_c (s_aldc (s_iaload (pc := 17) (by decide +kernel)) (gk106 hG) (gl106 hG)) <|
  n_c (s_iconst (pc := 18) (n := -1) (by decide +kernel) (by decide +kernel)) <|
  n_c (s_icmp_ne (pc := 19) (off := 5) (by decide +kernel) (by decide +kernel)) <|
  n_c (s_iconst (pc := 22) (n := 1) (by decide +kernel) (by decide +kernel)) <|
  n_c (s_iret (pc := 23) rfl (by decide +kernel)) <|
  n_c (s_aload_n (pc := 24) (k := 0) (by decide +kernel)) <|
  n_c (s_gRc (s_getR (pc := 25) (ci := 2) (k := 4) (idx := 24) nok2 (by decide) rfl (by decide +kernel) w_557) (gk101 hG) (gm101_4 hG)) <|
  n_c (s_iload_n (pc := 28) (k := 1) (by decide +kernel)) <|
  n_c (s_aldc (s_iaload (pc := 29) (by decide +kernel)) (gk106 hG) (gl106 hG)) <|
  n_c (s_iret (pc := 30) rfl (by decide +kernel)) <|
  n_e
def fX2_marksOf (x1 : Int32) (M : nM) : Option (Int32 × nM) :=
  if x1 < 0 then
    some ((1 : Int32), M)
  else
    if (M 101 5) ≤ x1 then
      some ((1 : Int32), M)
    else
      n_chk (n_ib 12 x1) <|
      if ¬ (M 106 x1.toNatClampNeg) = (-1 : Int32) then
        n_chk (n_ib 12 x1) <|
        some ((M 106 x1.toNatClampNeg), M)
      else
        some ((1 : Int32), M)
set_option maxRecDepth 200000 in
theorem bX2_marksOf_0 {l : Launch} {w : nW} {G : nG} (hG : n_GOK G) (x1 : Int32) (M : nM) (r : Int32 × nM) (h : fX2_marksOf x1 M = some r) : n_At l w 0 mX2_marksOf 0 [(0, .ref 101), (1, .int x1)] [] (G, M) (dv_i r.1, (G, r.2)) :=
  n_seg (fin := n_fin dv_i G) (K := []) 26 (iX2_marksOf hG) n_ke (by rfl) h
theorem eX2_marksOf {l : Launch} {w : nW} {G : nG} (hG : n_GOK G) (z1 : Int32) (M : nM) (r : Int32 × nM) (h : fX2_marksOf z1 M = some r) : n_Met l w 0 mX2_marksOf [.ref 101, .int z1] (G, M) (dv_i r.1, (G, r.2)) :=
  n_entry (by decide +kernel) rfl (Nat.le_of_ble_eq_true rfl) (n_sub (lv := [(0, .ref 101), (1, .int z1)]) (n_qc rfl (n_qc rfl n_qe)) (bX2_marksOf_0 hG z1 M r h))
abbrev hX2_marksOf : nF := fun T as M k => n_pC 101 as (fun as => n_pI as (fun z1 as => n_pE as ((fX2_marksOf z1 M).bind fun p => k (dv_i p.1) p.2)))
theorem csX2_marksOf {l : Launch} {w : nW} {G : nG} (hG : n_GOK G) : n_CS l w 0 mX2_marksOf G (hX2_marksOf) := fun T as M k r h => by
  obtain ⟨t0, rfl, h1⟩ := n_pC_x h
  obtain ⟨z1, t1, rfl, h2⟩ := n_pI_x h1
  obtain ⟨rfl, hE⟩ := n_pE_x h2
  obtain ⟨p, hp, hk⟩ := Option.bind_eq_some_iff.mp hE
  exact ⟨_, _, eX2_marksOf hG z1 M p hp, hk⟩
/-! ===== SleightHouse$Kin.bondHolds(I)Z ===== -/
def mX2_bondHolds : nY := (RX2, yX2_bondHolds, cX2_bondHolds, 7, some .boolean)
theorem okX2_bondHolds : n_MOK mX2_bondHolds 1 := ⟨w_1266, w_150, ⟨by decide +kernel, by decide +kernel, by decide +kernel⟩, by decide⟩
abbrev aX2_bondHolds : List (Nat × nO (Int32 × nM)) := [(0, o_aload 0 1), (1, o_gRc 101 106 4), (4, o_iload 1 5), (5, o_aldc 106 12 6), (6, o_istore 7 2 7), (7, o_iload 2 8), (8, o_push (.int (-1 : Int32)) 9), (9, oc_ne 14 12), (12, o_push (.int (1 : Int32)) 13), (13, o_zret), (14, o_aload 0 15), (15, o_aload 0 16), (16, o_gRc 101 102 19), (19, o_iload 1 20), (20, o_aldc 102 12 21), (21, o_callVc 101 1 (hX2_marksOf) 24), (24, o_istore 7 3 25), (25, o_aload 0 26), (26, o_aload 0 27), (27, o_gRc 101 103 30), (30, o_iload 1 31), (31, o_aldc 103 12 32), (32, o_callVc 101 1 (hX2_marksOf) 35), (35, o_istore 7 4 37), (37, o_iload 3 38), (38, o_push (.int (2 : Int32)) 39), (39, oc_ne 46 42), (42, o_push (.int (1 : Int32)) 43), (43, o_goto 47), (46, o_push (.int (0 : Int32)) 47), (47, o_iload 4 49), (49, o_push (.int (2 : Int32)) 50), (50, oc_ne 57 53), (53, o_push (.int (1 : Int32)) 54), (54, o_goto 58), (57, o_push (.int (0 : Int32)) 58), (58, o_iadd 59), (59, o_istore 7 5 61), (61, o_iload 3 62), (62, oi_ne 69 65), (65, o_push (.int (0 : Int32)) 66), (66, o_goto 70), (69, o_push (.int (1 : Int32)) 70), (70, o_iload 4 72), (72, oi_ne 79 75), (75, o_push (.int (0 : Int32)) 76), (76, o_goto 80), (79, o_push (.int (1 : Int32)) 80), (80, o_iadd 81), (81, o_istore 7 6 83), (83, o_iload 2 84), (84, o_iload 5 86), (86, oc_lt 99 89), (89, o_iload 2 90), (90, o_iload 6 92), (92, oc_gt 99 95), (95, o_push (.int (1 : Int32)) 96), (96, o_goto 100), (99, o_push (.int (0 : Int32)) 100), (100, o_zret)]
set_option maxRecDepth 200000 in
theorem iX2_bondHolds {l : Launch} {w : nW} {G : nG} (hG : n_GOK G) : n_AllS l w 1 mX2_bondHolds G (n_fin dv_i G) (aX2_bondHolds) :=
  n_c (s_aload_n (pc := 0) (k := 0) (by decide +kernel)) <|
  n_c (s_gRc (s_getR (pc := 1) (ci := 2) (k := 4) (idx := 24) nok2 (by decide) rfl (by decide +kernel) w_557) (gk101 hG) (gm101_4 hG)) <|
  n_c (s_iload_n (pc := 4) (k := 1) (by decide +kernel)) <|
  n_c (s_aldc (s_iaload (pc := 5) (by decide +kernel)) (gk106 hG) (gl106 hG)) <|
  n_c (s_istore_n (pc := 6) (k := 2) (by decide +kernel)) <|
  n_c (s_iload_n (pc := 7) (k := 2) (by decide +kernel)) <|
  n_c (s_iconst (pc := 8) (n := -1) (by decide +kernel) (by decide +kernel)) <|
  n_c (s_icmp_ne (pc := 9) (off := 5) (by decide +kernel) (by decide +kernel)) <|
  n_c (s_iconst (pc := 12) (n := 1) (by decide +kernel) (by decide +kernel)) <|
  n_c (s_zret (pc := 13) rfl (by decide +kernel)) <|
  n_c (s_aload_n (pc := 14) (k := 0) (by decide +kernel)) <|
  n_c (s_aload_n (pc := 15) (k := 0) (by decide +kernel)) <|
  n_c (s_gRc (s_getR (pc := 16) (ci := 2) (k := 0) (idx := 9) nok2 (by decide) rfl (by decide +kernel) w_553) (gk101 hG) (gm101_0 hG)) <|
  n_c (s_iload_n (pc := 19) (k := 1) (by decide +kernel)) <|
  n_c (s_aldc (s_iaload (pc := 20) (by decide +kernel)) (gk102 hG) (gl102 hG)) <|
  n_c (s_callVc (s_callV (pc := 21) (csX2_marksOf hG) (by decide) okX2_marksOf nok2 w_1269 w_43 w_1267 (by decide +kernel)) (gk101 hG)) <|
  n_c (s_istore_n (pc := 24) (k := 3) (by decide +kernel)) <|
  n_c (s_aload_n (pc := 25) (k := 0) (by decide +kernel)) <|
  n_c (s_aload_n (pc := 26) (k := 0) (by decide +kernel)) <|
  n_c (s_gRc (s_getR (pc := 27) (ci := 2) (k := 1) (idx := 15) nok2 (by decide) rfl (by decide +kernel) w_554) (gk101 hG) (gm101_1 hG)) <|
  n_c (s_iload_n (pc := 30) (k := 1) (by decide +kernel)) <|
  n_c (s_aldc (s_iaload (pc := 31) (by decide +kernel)) (gk103 hG) (gl103 hG)) <|
  n_c (s_callVc (s_callV (pc := 32) (csX2_marksOf hG) (by decide) okX2_marksOf nok2 w_1269 w_43 w_1267 (by decide +kernel)) (gk101 hG)) <|
  n_c (s_istore (pc := 35) (by decide +kernel)) <|
  n_c (s_iload_n (pc := 37) (k := 3) (by decide +kernel)) <|
  n_c (s_iconst (pc := 38) (n := 2) (by decide +kernel) (by decide +kernel)) <|
  n_c (s_icmp_ne (pc := 39) (off := 7) (by decide +kernel) (by decide +kernel)) <|
  n_c (s_iconst (pc := 42) (n := 1) (by decide +kernel) (by decide +kernel)) <|
  n_c (s_goto (pc := 43) (off := 4) (by decide +kernel) (by decide +kernel)) <|
  n_c (s_iconst (pc := 46) (n := 0) (by decide +kernel) (by decide +kernel)) <|
  n_c (s_iload (pc := 47) (by decide +kernel)) <|
  n_c (s_iconst (pc := 49) (n := 2) (by decide +kernel) (by decide +kernel)) <|
  n_c (s_icmp_ne (pc := 50) (off := 7) (by decide +kernel) (by decide +kernel)) <|
  n_c (s_iconst (pc := 53) (n := 1) (by decide +kernel) (by decide +kernel)) <|
  n_c (s_goto (pc := 54) (off := 4) (by decide +kernel) (by decide +kernel)) <|
  n_c (s_iconst (pc := 57) (n := 0) (by decide +kernel) (by decide +kernel)) <|
  n_c (s_iadd (pc := 58) (by decide +kernel)) <|
  n_c (s_istore (pc := 59) (by decide +kernel)) <|
  n_c (s_iload_n (pc := 61) (k := 3) (by decide +kernel)) <|
  n_c (s_if_ne (pc := 62) (off := 7) (by decide +kernel) (by decide +kernel)) <|
  n_c (s_iconst (pc := 65) (n := 0) (by decide +kernel) (by decide +kernel)) <|
  n_c (s_goto (pc := 66) (off := 4) (by decide +kernel) (by decide +kernel)) <|
  n_c (s_iconst (pc := 69) (n := 1) (by decide +kernel) (by decide +kernel)) <|
  n_c (s_iload (pc := 70) (by decide +kernel)) <|
  n_c (s_if_ne (pc := 72) (off := 7) (by decide +kernel) (by decide +kernel)) <|
  n_c (s_iconst (pc := 75) (n := 0) (by decide +kernel) (by decide +kernel)) <|
  n_c (s_goto (pc := 76) (off := 4) (by decide +kernel) (by decide +kernel)) <|
  n_c (s_iconst (pc := 79) (n := 1) (by decide +kernel) (by decide +kernel)) <|
  n_c (s_iadd (pc := 80) (by decide +kernel)) <|
  n_c (s_istore (pc := 81) (by decide +kernel)) <|
  n_c (s_iload_n (pc := 83) (k := 2) (by decide +kernel)) <|
  n_c (s_iload (pc := 84) (by decide +kernel)) <|
  n_c (s_icmp_lt (pc := 86) (off := 13) (by decide +kernel) (by decide +kernel)) <|
  n_c (s_iload_n (pc := 89) (k := 2) (by decide +kernel)) <|
  n_c (s_iload (pc := 90) (by decide +kernel)) <|
  n_c (s_icmp_gt (pc := 92) (off := 7) (by decide +kernel) (by decide +kernel)) <|
  n_c (s_iconst (pc := 95) (n := 1) (by decide +kernel) (by decide +kernel)) <|
  n_c (s_goto (pc := 96) (off := 4) (by decide +kernel) (by decide +kernel)) <|
  n_c (s_iconst (pc := 99) (n := 0) (by decide +kernel) (by decide +kernel)) <|
  n_c (s_zret (pc := 100) rfl (by decide +kernel)) <|
  n_e
def fX2_bondHolds_80 (x2 : Int32) (x5 : Int32) (s0 : Int32) (s1 : Int32) (M : nM) : Option (Int32 × nM) :=
  let v1 : Int32 := (s1 + s0)
  if x2 < x5 then
    some ((0 : Int32), M)
  else
    if v1 < x2 then
      some ((0 : Int32), M)
    else
      some ((1 : Int32), M)
set_option maxRecDepth 200000 in
theorem bX2_bondHolds_80 {l : Launch} {w : nW} {G : nG} (hG : n_GOK G) (x2 : Int32) (x5 : Int32) (s0 : Int32) (s1 : Int32) (M : nM) (r : Int32 × nM) (h : fX2_bondHolds_80 x2 x5 s0 s1 M = some r) : n_At l w 1 mX2_bondHolds 80 [(2, .int x2), (5, .int x5)] [.int s0, .int s1] (G, M) (dv_i r.1, (G, r.2)) :=
  n_seg (fin := n_fin dv_i G) (K := []) 18 (iX2_bondHolds hG) n_ke (by rfl) h
def fX2_bondHolds_70 (x2 : Int32) (x4 : Int32) (x5 : Int32) (s0 : Int32) (M : nM) : Option (Int32 × nM) :=
  if ¬ x4 = 0 then
    fX2_bondHolds_80 x2 x5 (1 : Int32) s0 M
  else
    fX2_bondHolds_80 x2 x5 (0 : Int32) s0 M
set_option maxRecDepth 200000 in
theorem bX2_bondHolds_70 {l : Launch} {w : nW} {G : nG} (hG : n_GOK G) (x2 : Int32) (x4 : Int32) (x5 : Int32) (s0 : Int32) (M : nM) (r : Int32 × nM) (h : fX2_bondHolds_70 x2 x4 x5 s0 M = some r) : n_At l w 1 mX2_bondHolds 70 [(2, .int x2), (4, .int x4), (5, .int x5)] [.int s0] (G, M) (dv_i r.1, (G, r.2)) :=
  n_seg (fin := n_fin dv_i G) (K := [(80, fun lv st M => n_lI lv 2 (fun x2 => n_lI lv 5 (fun x5 => n_pI st (fun s0 st => n_pI st (fun s1 st => n_pE st (fX2_bondHolds_80 x2 x5 s0 s1 M))))))]) 8 (iX2_bondHolds hG) (n_kc (fun lv st M r h => by
      obtain ⟨x2, e2, h1⟩ := n_lI_x h
      obtain ⟨x5, e5, h2⟩ := n_lI_x h1
      obtain ⟨s0, t0, rfl, h3⟩ := n_pI_x h2
      obtain ⟨s1, t1, rfl, h4⟩ := n_pI_x h3
      obtain ⟨rfl, h5⟩ := n_pE_x h4
      exact n_sub (n_qc e2 (n_qc e5 n_qe)) (bX2_bondHolds_80 hG x2 x5 s0 s1 M r h5)) n_ke) (by rfl) h
def fX2_bondHolds_58 (x2 : Int32) (x3 : Int32) (x4 : Int32) (s0 : Int32) (s1 : Int32) (M : nM) : Option (Int32 × nM) :=
  let v1 : Int32 := (s1 + s0)
  if ¬ x3 = 0 then
    fX2_bondHolds_70 x2 x4 v1 (1 : Int32) M
  else
    fX2_bondHolds_70 x2 x4 v1 (0 : Int32) M
set_option maxRecDepth 200000 in
theorem bX2_bondHolds_58 {l : Launch} {w : nW} {G : nG} (hG : n_GOK G) (x2 : Int32) (x3 : Int32) (x4 : Int32) (s0 : Int32) (s1 : Int32) (M : nM) (r : Int32 × nM) (h : fX2_bondHolds_58 x2 x3 x4 s0 s1 M = some r) : n_At l w 1 mX2_bondHolds 58 [(2, .int x2), (3, .int x3), (4, .int x4)] [.int s0, .int s1] (G, M) (dv_i r.1, (G, r.2)) :=
  n_seg (fin := n_fin dv_i G) (K := [(70, fun lv st M => n_lI lv 2 (fun x2 => n_lI lv 4 (fun x4 => n_lI lv 5 (fun x5 => n_pI st (fun s0 st => n_pE st (fX2_bondHolds_70 x2 x4 x5 s0 M))))))]) 10 (iX2_bondHolds hG) (n_kc (fun lv st M r h => by
      obtain ⟨x2, e2, h1⟩ := n_lI_x h
      obtain ⟨x4, e4, h2⟩ := n_lI_x h1
      obtain ⟨x5, e5, h3⟩ := n_lI_x h2
      obtain ⟨s0, t0, rfl, h4⟩ := n_pI_x h3
      obtain ⟨rfl, h5⟩ := n_pE_x h4
      exact n_sub (n_qc e2 (n_qc e4 (n_qc e5 n_qe))) (bX2_bondHolds_70 hG x2 x4 x5 s0 M r h5)) n_ke) (by rfl) h
def fX2_bondHolds_47 (x2 : Int32) (x3 : Int32) (x4 : Int32) (s0 : Int32) (M : nM) : Option (Int32 × nM) :=
  if ¬ x4 = (2 : Int32) then
    fX2_bondHolds_58 x2 x3 x4 (0 : Int32) s0 M
  else
    fX2_bondHolds_58 x2 x3 x4 (1 : Int32) s0 M
set_option maxRecDepth 200000 in
theorem bX2_bondHolds_47 {l : Launch} {w : nW} {G : nG} (hG : n_GOK G) (x2 : Int32) (x3 : Int32) (x4 : Int32) (s0 : Int32) (M : nM) (r : Int32 × nM) (h : fX2_bondHolds_47 x2 x3 x4 s0 M = some r) : n_At l w 1 mX2_bondHolds 47 [(2, .int x2), (3, .int x3), (4, .int x4)] [.int s0] (G, M) (dv_i r.1, (G, r.2)) :=
  n_seg (fin := n_fin dv_i G) (K := [(58, fun lv st M => n_lI lv 2 (fun x2 => n_lI lv 3 (fun x3 => n_lI lv 4 (fun x4 => n_pI st (fun s0 st => n_pI st (fun s1 st => n_pE st (fX2_bondHolds_58 x2 x3 x4 s0 s1 M)))))))]) 9 (iX2_bondHolds hG) (n_kc (fun lv st M r h => by
      obtain ⟨x2, e2, h1⟩ := n_lI_x h
      obtain ⟨x3, e3, h2⟩ := n_lI_x h1
      obtain ⟨x4, e4, h3⟩ := n_lI_x h2
      obtain ⟨s0, t0, rfl, h4⟩ := n_pI_x h3
      obtain ⟨s1, t1, rfl, h5⟩ := n_pI_x h4
      obtain ⟨rfl, h6⟩ := n_pE_x h5
      exact n_sub (n_qc e2 (n_qc e3 (n_qc e4 n_qe))) (bX2_bondHolds_58 hG x2 x3 x4 s0 s1 M r h6)) n_ke) (by rfl) h
def fX2_bondHolds (x1 : Int32) (M : nM) : Option (Int32 × nM) :=
  n_chk (n_ib 12 x1) <|
  let v1 : Int32 := (M 106 x1.toNatClampNeg)
  if ¬ v1 = (-1 : Int32) then
    n_chk (n_ib 12 x1) <|
    (fX2_marksOf (M 102 x1.toNatClampNeg) M).bind fun p2 =>
    n_chk (n_ib 12 x1) <|
    (fX2_marksOf (p2.2 103 x1.toNatClampNeg) p2.2).bind fun p3 =>
    if ¬ p2.1 = (2 : Int32) then
      fX2_bondHolds_47 v1 p2.1 p3.1 (0 : Int32) p3.2
    else
      fX2_bondHolds_47 v1 p2.1 p3.1 (1 : Int32) p3.2
  else
    some ((1 : Int32), M)
set_option maxRecDepth 200000 in
theorem bX2_bondHolds_0 {l : Launch} {w : nW} {G : nG} (hG : n_GOK G) (x1 : Int32) (M : nM) (r : Int32 × nM) (h : fX2_bondHolds x1 M = some r) : n_At l w 1 mX2_bondHolds 0 [(0, .ref 101), (1, .int x1)] [] (G, M) (dv_i r.1, (G, r.2)) :=
  n_seg (fin := n_fin dv_i G) (K := [(47, fun lv st M => n_lI lv 2 (fun x2 => n_lI lv 3 (fun x3 => n_lI lv 4 (fun x4 => n_pI st (fun s0 st => n_pE st (fX2_bondHolds_47 x2 x3 x4 s0 M))))))]) 33 (iX2_bondHolds hG) (n_kc (fun lv st M r h => by
      obtain ⟨x2, e2, h1⟩ := n_lI_x h
      obtain ⟨x3, e3, h2⟩ := n_lI_x h1
      obtain ⟨x4, e4, h3⟩ := n_lI_x h2
      obtain ⟨s0, t0, rfl, h4⟩ := n_pI_x h3
      obtain ⟨rfl, h5⟩ := n_pE_x h4
      exact n_sub (n_qc e2 (n_qc e3 (n_qc e4 n_qe))) (bX2_bondHolds_47 hG x2 x3 x4 s0 M r h5)) n_ke) (by rfl) h
theorem eX2_bondHolds {l : Launch} {w : nW} {G : nG} (hG : n_GOK G) (z1 : Int32) (M : nM) (r : Int32 × nM) (h : fX2_bondHolds z1 M = some r) : n_Met l w 1 mX2_bondHolds [.ref 101, .int z1] (G, M) (dv_i r.1, (G, r.2)) :=
  n_entry (by decide +kernel) rfl (Nat.le_of_ble_eq_true rfl) (n_sub (lv := [(0, .ref 101), (1, .int z1)]) (n_qc rfl (n_qc rfl n_qe)) (bX2_bondHolds_0 hG z1 M r h))
abbrev hX2_bondHolds : nF := fun T as M k => n_pC 101 as (fun as => n_pI as (fun z1 as => n_pE as ((fX2_bondHolds z1 M).bind fun p => k (dv_i p.1) p.2)))
theorem csX2_bondHolds {l : Launch} {w : nW} {G : nG} (hG : n_GOK G) : n_CS l w 1 mX2_bondHolds G (hX2_bondHolds) := fun T as M k r h => by
  obtain ⟨t0, rfl, h1⟩ := n_pC_x h
  obtain ⟨z1, t1, rfl, h2⟩ := n_pI_x h1
  obtain ⟨rfl, hE⟩ := n_pE_x h2
  obtain ⟨p, hp, hk⟩ := Option.bind_eq_some_iff.mp hE
  exact ⟨_, _, eX2_bondHolds hG z1 M p hp, hk⟩
/-! ===== SleightHouse$Kin.bondsHold(I)Z ===== -/
def mX2_bondsHold : nY := (RX2, yX2_bondsHold, cX2_bondsHold, 3, some .boolean)
theorem okX2_bondsHold : n_MOK mX2_bondsHold 1 := ⟨w_1262, w_150, ⟨by decide +kernel, by decide +kernel, by decide +kernel⟩, by decide⟩
abbrev aX2_bondsHold (N : Nat) : List (Nat × nO (Int32 × nM)) := [(0, o_push (.int (0 : Int32)) 1), (1, o_istore 3 2 2), (2, o_iload 2 3), (3, o_aload 0 4), (4, o_gIc 101 5 7), (7, oc_ge 51 10), (10, o_iload 2 11), (11, o_iload 1 12), (12, oc_eq 35 15), (15, o_aload 0 16), (16, o_gRc 101 102 19), (19, o_iload 2 20), (20, o_aldc 102 12 21), (21, o_iload 1 22), (22, oc_eq 35 25), (25, o_aload 0 26), (26, o_gRc 101 103 29), (29, o_iload 2 30), (30, o_aldc 103 12 31), (31, o_iload 1 32), (32, oc_ne 45 35), (35, o_aload 0 36), (36, o_iload 2 37), (37, o_callVc 101 1 (hX2_bondHolds) 40), (40, oi_ne 45 43), (43, o_push (.int (0 : Int32)) 44), (44, o_zret), (45, o_inc 3 2 (1 : Int32) 48), (48, o_goto 2), (51, o_push (.int (1 : Int32)) 52), (52, o_zret)]
set_option maxRecDepth 200000 in
theorem iX2_bondsHold {l : Launch} {w : nW} (N : Nat) {G : nG} (hG : n_GOK G) : n_AllS l w 2 mX2_bondsHold G (n_fin dv_i G) (aX2_bondsHold N) :=
  n_c (s_iconst (pc := 0) (n := 0) (by decide +kernel) (by decide +kernel)) <|
  n_c (s_istore_n (pc := 1) (k := 2) (by decide +kernel)) <|
  n_c (s_iload_n (pc := 2) (k := 2) (by decide +kernel)) <|
  n_c (s_aload_n (pc := 3) (k := 0) (by decide +kernel)) <|
  n_c (s_gIc (s_getI (pc := 4) (ci := 2) (k := 5) (idx := 27) nok2 (by decide) rfl (by decide +kernel) w_558) (gk101 hG)) <|
  n_c (s_icmp_ge (pc := 7) (off := 44) (by decide +kernel) (by decide +kernel)) <|
  n_c (s_iload_n (pc := 10) (k := 2) (by decide +kernel)) <|
  n_c (s_iload_n (pc := 11) (k := 1) (by decide +kernel)) <|
  n_c (s_icmp_eq (pc := 12) (off := 23) (by decide +kernel) (by decide +kernel)) <|
  n_c (s_aload_n (pc := 15) (k := 0) (by decide +kernel)) <|
  n_c (s_gRc (s_getR (pc := 16) (ci := 2) (k := 0) (idx := 9) nok2 (by decide) rfl (by decide +kernel) w_553) (gk101 hG) (gm101_0 hG)) <|
  n_c (s_iload_n (pc := 19) (k := 2) (by decide +kernel)) <|
  n_c (s_aldc (s_iaload (pc := 20) (by decide +kernel)) (gk102 hG) (gl102 hG)) <|
  n_c (s_iload_n (pc := 21) (k := 1) (by decide +kernel)) <|
  n_c (s_icmp_eq (pc := 22) (off := 13) (by decide +kernel) (by decide +kernel)) <|
  n_c (s_aload_n (pc := 25) (k := 0) (by decide +kernel)) <|
  n_c (s_gRc (s_getR (pc := 26) (ci := 2) (k := 1) (idx := 15) nok2 (by decide) rfl (by decide +kernel) w_554) (gk101 hG) (gm101_1 hG)) <|
  n_c (s_iload_n (pc := 29) (k := 2) (by decide +kernel)) <|
  n_c (s_aldc (s_iaload (pc := 30) (by decide +kernel)) (gk103 hG) (gl103 hG)) <|
  n_c (s_iload_n (pc := 31) (k := 1) (by decide +kernel)) <|
  n_c (s_icmp_ne (pc := 32) (off := 13) (by decide +kernel) (by decide +kernel)) <|
  n_c (s_aload_n (pc := 35) (k := 0) (by decide +kernel)) <|
  n_c (s_iload_n (pc := 36) (k := 2) (by decide +kernel)) <|
  n_c (s_callVc (s_callV (pc := 37) (csX2_bondHolds hG) (by decide) okX2_bondHolds nok2 w_1265 w_42 w_1263 (by decide +kernel)) (gk101 hG)) <|
  n_c (s_if_ne (pc := 40) (off := 5) (by decide +kernel) (by decide +kernel)) <|
  n_c (s_iconst (pc := 43) (n := 0) (by decide +kernel) (by decide +kernel)) <|
  n_c (s_zret (pc := 44) rfl (by decide +kernel)) <|
  n_c (s_iinc (pc := 45) (n := 1) (by decide +kernel) (by decide +kernel)) <|
  n_c (s_goto (pc := 48) (off := -46) (by decide +kernel) (by decide +kernel)) <|
  n_c (s_iconst (pc := 51) (n := 1) (by decide +kernel) (by decide +kernel)) <|
  n_c (s_zret (pc := 52) rfl (by decide +kernel)) <|
  n_e
def fX2_bondsHold_35 (N : Nat) (k2 : Int32 → Int32 → nM → Option (Int32 × nM)) (x1 : Int32) (x2 : Int32) (M : nM) : Option (Int32 × nM) :=
  (fX2_bondHolds x2 M).bind fun p1 =>
  if ¬ p1.1 = 0 then
    let v2 : Int32 := (x2 + (1 : Int32))
    k2 x1 v2 p1.2
  else
    some ((0 : Int32), p1.2)
set_option maxRecDepth 200000 in
theorem bX2_bondsHold_35 {l : Launch} {w : nW} (N : Nat) {G : nG} (hG : n_GOK G) (k2 : Int32 → Int32 → nM → Option (Int32 × nM)) (hk2 : ∀ (x1 : Int32) (x2 : Int32) (M : nM) (r : Int32 × nM), k2 x1 x2 M = some r → n_At l w 2 mX2_bondsHold 2 [(0, .ref 101), (1, .int x1), (2, .int x2)] [] (G, M) (dv_i r.1, (G, r.2))) (x1 : Int32) (x2 : Int32) (M : nM) (r : Int32 × nM) (h : fX2_bondsHold_35 N k2 x1 x2 M = some r) : n_At l w 2 mX2_bondsHold 35 [(0, .ref 101), (1, .int x1), (2, .int x2)] [] (G, M) (dv_i r.1, (G, r.2)) :=
  n_seg (fin := n_fin dv_i G) (K := [(2, fun lv st M => n_lC 101 lv 0 (n_lI lv 1 (fun x1 => n_lI lv 2 (fun x2 => n_pE st (k2 x1 x2 M)))))]) 11 (iX2_bondsHold N hG) (n_kc (fun lv st M r h => by
      obtain ⟨e0, h1⟩ := n_lC_x h
      obtain ⟨x1, e1, h2⟩ := n_lI_x h1
      obtain ⟨x2, e2, h3⟩ := n_lI_x h2
      obtain ⟨rfl, h4⟩ := n_pE_x h3
      exact n_sub (n_qc e0 (n_qc e1 (n_qc e2 n_qe))) (hk2 x1 x2 M r h4)) n_ke) (by rfl) h
def fX2_bondsHold_2 (N : Nat) : Nat → Int32 → Int32 → nM → Option (Int32 × nM)
  | 0, _, _, _ => none
  | n + 1, x1, x2, M =>
    if (M 101 5) ≤ x2 then
      some ((1 : Int32), M)
    else
      if x2 = x1 then
        fX2_bondsHold_35 N (fun x1 x2 M => fX2_bondsHold_2 N n x1 x2 M) x1 x2 M
      else
        n_chk (n_ib 12 x2) <|
        if (M 102 x2.toNatClampNeg) = x1 then
          fX2_bondsHold_35 N (fun x1 x2 M => fX2_bondsHold_2 N n x1 x2 M) x1 x2 M
        else
          n_chk (n_ib 12 x2) <|
          if ¬ (M 103 x2.toNatClampNeg) = x1 then
            let v1 : Int32 := (x2 + (1 : Int32))
            fX2_bondsHold_2 N n x1 v1 M
          else
            fX2_bondsHold_35 N (fun x1 x2 M => fX2_bondsHold_2 N n x1 x2 M) x1 x2 M
set_option maxRecDepth 200000 in
theorem bX2_bondsHold_2 {l : Launch} {w : nW} (N : Nat) {G : nG} (hG : n_GOK G) : ∀ (n : Nat) (x1 : Int32) (x2 : Int32) (M : nM) (r : Int32 × nM), fX2_bondsHold_2 N n x1 x2 M = some r → n_At l w 2 mX2_bondsHold 2 [(0, .ref 101), (1, .int x1), (2, .int x2)] [] (G, M) (dv_i r.1, (G, r.2)) := by
  intro n
  induction n with
  | zero => intro x1 x2 M r h; cases (show (none : Option (Int32 × nM)) = some r from h)
  | succ n ih =>
    intro x1 x2 M r h
    exact n_seg (fin := n_fin dv_i G) (K := [(2, fun lv st M => n_lC 101 lv 0 (n_lI lv 1 (fun x1 => n_lI lv 2 (fun x2 => n_pE st (fX2_bondsHold_2 N n x1 x2 M))))), (35, fun lv st M => n_lC 101 lv 0 (n_lI lv 1 (fun x1 => n_lI lv 2 (fun x2 => n_pE st (fX2_bondsHold_35 N (fun x1 x2 M => fX2_bondsHold_2 N n x1 x2 M) x1 x2 M)))))]) 26 (iX2_bondsHold N hG) (n_kc (fun lv st M r h => by
      obtain ⟨e0, h1⟩ := n_lC_x h
      obtain ⟨x1, e1, h2⟩ := n_lI_x h1
      obtain ⟨x2, e2, h3⟩ := n_lI_x h2
      obtain ⟨rfl, h4⟩ := n_pE_x h3
      exact n_sub (n_qc e0 (n_qc e1 (n_qc e2 n_qe))) (ih x1 x2 M r h4)) (n_kc (fun lv st M r h => by
      obtain ⟨e0, h1⟩ := n_lC_x h
      obtain ⟨x1, e1, h2⟩ := n_lI_x h1
      obtain ⟨x2, e2, h3⟩ := n_lI_x h2
      obtain ⟨rfl, h4⟩ := n_pE_x h3
      exact n_sub (n_qc e0 (n_qc e1 (n_qc e2 n_qe))) (bX2_bondsHold_35 N hG (fun x1 x2 M => fX2_bondsHold_2 N n x1 x2 M) ih x1 x2 M r h4)) n_ke)) (by rfl) h
def fX2_bondsHold (N : Nat) (x1 : Int32) (M : nM) : Option (Int32 × nM) :=
  fX2_bondsHold_2 N N x1 (0 : Int32) M
set_option maxRecDepth 200000 in
theorem bX2_bondsHold_0 {l : Launch} {w : nW} (N : Nat) {G : nG} (hG : n_GOK G) (x1 : Int32) (M : nM) (r : Int32 × nM) (h : fX2_bondsHold N x1 M = some r) : n_At l w 2 mX2_bondsHold 0 [(0, .ref 101), (1, .int x1)] [] (G, M) (dv_i r.1, (G, r.2)) :=
  n_seg (fin := n_fin dv_i G) (K := [(2, fun lv st M => n_lC 101 lv 0 (n_lI lv 1 (fun x1 => n_lI lv 2 (fun x2 => n_pE st (fX2_bondsHold_2 N N x1 x2 M)))))]) 5 (iX2_bondsHold N hG) (n_kc (fun lv st M r h => by
      obtain ⟨e0, h1⟩ := n_lC_x h
      obtain ⟨x1, e1, h2⟩ := n_lI_x h1
      obtain ⟨x2, e2, h3⟩ := n_lI_x h2
      obtain ⟨rfl, h4⟩ := n_pE_x h3
      exact n_sub (n_qc e0 (n_qc e1 (n_qc e2 n_qe))) (bX2_bondsHold_2 N hG N x1 x2 M r h4)) n_ke) (by rfl) h
theorem eX2_bondsHold {l : Launch} {w : nW} (N : Nat) {G : nG} (hG : n_GOK G) (z1 : Int32) (M : nM) (r : Int32 × nM) (h : fX2_bondsHold N z1 M = some r) : n_Met l w 2 mX2_bondsHold [.ref 101, .int z1] (G, M) (dv_i r.1, (G, r.2)) :=
  n_entry (by decide +kernel) rfl (Nat.le_of_ble_eq_true rfl) (n_sub (lv := [(0, .ref 101), (1, .int z1)]) (n_qc rfl (n_qc rfl n_qe)) (bX2_bondsHold_0 N hG z1 M r h))
abbrev hX2_bondsHold (N : Nat) : nF := fun T as M k => n_pC 101 as (fun as => n_pI as (fun z1 as => n_pE as ((fX2_bondsHold N z1 M).bind fun p => k (dv_i p.1) p.2)))
theorem csX2_bondsHold {l : Launch} {w : nW} (N : Nat) {G : nG} (hG : n_GOK G) : n_CS l w 2 mX2_bondsHold G (hX2_bondsHold N) := fun T as M k r h => by
  obtain ⟨t0, rfl, h1⟩ := n_pC_x h
  obtain ⟨z1, t1, rfl, h2⟩ := n_pI_x h1
  obtain ⟨rfl, hE⟩ := n_pE_x h2
  obtain ⟨p, hp, hk⟩ := Option.bind_eq_some_iff.mp hE
  exact ⟨_, _, eX2_bondsHold N hG z1 M p hp, hk⟩
/-! ===== SleightHouseModel.canBeChild(I)Z ===== -/
def mX12_canBeChild : nY := (RX12, yX12_canBeChild, cX12_canBeChild, 5, some .boolean)
theorem okX12_canBeChild : n_MOK mX12_canBeChild 1 := ⟨w_2091, w_151, ⟨by decide +kernel, by decide +kernel, by decide +kernel⟩, by decide⟩
abbrev aX12_canBeChild (N : Nat) : List (Nat × nO (Int32 × nM)) := [(0, o_aload 0 1), (1, o_gRc 107 129 4), (4, o_iload 1 5), (5, o_aldc 129 24 6), (6, oi_ne 11 9), (9, o_push (.int (1 : Int32)) 10), (10, o_zret), (11, o_push (.int (0 : Int32)) 12), (12, o_istore 5 2 13), (13, o_push (.int (2 : Int32)) 14), (14, o_aload 0 15), (15, o_aload 0 16), (16, o_gRc 107 129 19), (19, o_iload 1 20), (20, o_aldc 129 24 21), (21, o_callVc 107 1 (hX12_onesOf N) 24), (24, o_isub 25), (25, o_istore 5 3 26), (26, o_push (.int (0 : Int32)) 27), (27, o_istore 5 4 29), (29, o_iload 4 31), (31, o_aload 0 32), (32, o_gIc 107 7 35), (35, oc_ge 91 38), (38, o_aload 0 39), (39, o_aload 0 40), (40, o_gRc 107 129 43), (43, o_iload 1 44), (44, o_aldc 129 24 45), (45, o_iload 4 47), (47, o_callVc 107 2 (hX12_has) 50), (50, oi_ne 56 53), (53, o_goto 85), (56, o_aload 0 57), (57, o_gRc 107 142 60), (60, o_iload 4 62), (62, o_aldc 142 12 63), (63, o_push (.int (2 : Int32)) 64), (64, oc_ne 71 67), (67, o_iload 2 68), (68, o_push (.int (1 : Int32)) 69), (69, o_iadd 70), (70, o_istore 5 2 71), (71, o_aload 0 72), (72, o_gRc 107 142 75), (75, o_iload 4 77), (77, o_aldc 142 12 78), (78, oi_le 85 81), (81, o_iload 3 82), (82, o_push (.int (1 : Int32)) 83), (83, o_iadd 84), (84, o_istore 5 3 85), (85, o_inc 5 4 (1 : Int32) 88), (88, o_goto 29), (91, o_aload 0 92), (92, o_aload 0 93), (93, o_gRc 107 142 96), (96, o_iload 1 97), (97, o_aldc 142 12 98), (98, o_iload 2 99), (99, o_iload 3 100), (100, o_callVc 107 3 (hX12_isIn) 103), (103, o_zret)]
set_option maxRecDepth 200000 in
theorem iX12_canBeChild {l : Launch} {w : nW} (N : Nat) {G : nG} (hG : n_GOK G) : n_AllS l w 1 mX12_canBeChild G (n_fin dv_i G) (aX12_canBeChild N) :=
  n_c (s_aload_n (pc := 0) (k := 0) (by decide +kernel)) <|
  n_c (s_gRc (s_getR (pc := 1) (ci := 12) (k := 42) (idx := 77) nok12 (by decide) rfl (by decide +kernel) w_1449) (gk107 hG) (gm107_42 hG)) <|
  n_c (s_iload_n (pc := 4) (k := 1) (by decide +kernel)) <|
  n_c (s_aldc (s_iaload (pc := 5) (by decide +kernel)) (gk129 hG) (gl129 hG)) <|
  n_c (s_if_ne (pc := 6) (off := 5) (by decide +kernel) (by decide +kernel)) <|
  n_c (s_iconst (pc := 9) (n := 1) (by decide +kernel) (by decide +kernel)) <|
  n_c (s_zret (pc := 10) rfl (by decide +kernel)) <|
  n_c (s_iconst (pc := 11) (n := 0) (by decide +kernel) (by decide +kernel)) <|
  n_c (s_istore_n (pc := 12) (k := 2) (by decide +kernel)) <|
  n_c (s_iconst (pc := 13) (n := 2) (by decide +kernel) (by decide +kernel)) <|
  n_c (s_aload_n (pc := 14) (k := 0) (by decide +kernel)) <|
  n_c (s_aload_n (pc := 15) (k := 0) (by decide +kernel)) <|
  n_c (s_gRc (s_getR (pc := 16) (ci := 12) (k := 42) (idx := 77) nok12 (by decide) rfl (by decide +kernel) w_1449) (gk107 hG) (gm107_42 hG)) <|
  n_c (s_iload_n (pc := 19) (k := 1) (by decide +kernel)) <|
  n_c (s_aldc (s_iaload (pc := 20) (by decide +kernel)) (gk129 hG) (gl129 hG)) <|
  n_c (s_callVc (s_callV (pc := 21) (csX12_onesOf N) (by decide) okX12_onesOf nok12 w_2065 w_121 w_2063 (by decide +kernel)) (gk107 hG)) <|
  n_c (s_isub (pc := 24) (by decide +kernel)) <|
  n_c (s_istore_n (pc := 25) (k := 3) (by decide +kernel)) <|
  n_c (s_iconst (pc := 26) (n := 0) (by decide +kernel) (by decide +kernel)) <|
  n_c (s_istore (pc := 27) (by decide +kernel)) <|
  n_c (s_iload (pc := 29) (by decide +kernel)) <|
  n_c (s_aload_n (pc := 31) (k := 0) (by decide +kernel)) <|
  n_c (s_gIc (s_getI (pc := 32) (ci := 12) (k := 7) (idx := 161) nok12 (by decide) rfl (by decide +kernel) w_1414) (gk107 hG)) <|
  n_c (s_icmp_ge (pc := 35) (off := 56) (by decide +kernel) (by decide +kernel)) <|
  n_c (s_aload_n (pc := 38) (k := 0) (by decide +kernel)) <|
  n_c (s_aload_n (pc := 39) (k := 0) (by decide +kernel)) <|
  n_c (s_gRc (s_getR (pc := 40) (ci := 12) (k := 42) (idx := 77) nok12 (by decide) rfl (by decide +kernel) w_1449) (gk107 hG) (gm107_42 hG)) <|
  n_c (s_iload_n (pc := 43) (k := 1) (by decide +kernel)) <|
  n_c (s_aldc (s_iaload (pc := 44) (by decide +kernel)) (gk129 hG) (gl129 hG)) <|
  n_c (s_iload (pc := 45) (by decide +kernel)) <|
  n_c (s_callVc (s_callV (pc := 47) (csX12_has) (by decide) okX12_has nok12 w_2013 w_114 w_2011 (by decide +kernel)) (gk107 hG)) <|
  n_c (s_if_ne (pc := 50) (off := 6) (by decide +kernel) (by decide +kernel)) <|
  n_c (s_goto (pc := 53) (off := 32) (by decide +kernel) (by decide +kernel)) <|
  n_c (s_aload_n (pc := 56) (k := 0) (by decide +kernel)) <|
  n_c (s_gRc (s_getR (pc := 57) (ci := 12) (k := 59) (idx := 116) nok12 (by decide) rfl (by decide +kernel) w_1466) (gk107 hG) (gm107_59 hG)) <|
  n_c (s_iload (pc := 60) (by decide +kernel)) <|
  n_c (s_aldc (s_iaload (pc := 62) (by decide +kernel)) (gk142 hG) (gl142 hG)) <|
  n_c (s_iconst (pc := 63) (n := 2) (by decide +kernel) (by decide +kernel)) <|
  n_c (s_icmp_ne (pc := 64) (off := 7) (by decide +kernel) (by decide +kernel)) <|
  n_c (s_iload_n (pc := 67) (k := 2) (by decide +kernel)) <|
  n_c (s_iconst (pc := 68) (n := 1) (by decide +kernel) (by decide +kernel)) <|
  n_c (s_iadd (pc := 69) (by decide +kernel)) <|
  n_c (s_istore_n (pc := 70) (k := 2) (by decide +kernel)) <|
  n_c (s_aload_n (pc := 71) (k := 0) (by decide +kernel)) <|
  n_c (s_gRc (s_getR (pc := 72) (ci := 12) (k := 59) (idx := 116) nok12 (by decide) rfl (by decide +kernel) w_1466) (gk107 hG) (gm107_59 hG)) <|
  n_c (s_iload (pc := 75) (by decide +kernel)) <|
  n_c (s_aldc (s_iaload (pc := 77) (by decide +kernel)) (gk142 hG) (gl142 hG)) <|
  n_c (s_if_le (pc := 78) (off := 7) (by decide +kernel) (by decide +kernel)) <|
  n_c (s_iload_n (pc := 81) (k := 3) (by decide +kernel)) <|
  n_c (s_iconst (pc := 82) (n := 1) (by decide +kernel) (by decide +kernel)) <|
  n_c (s_iadd (pc := 83) (by decide +kernel)) <|
  n_c (s_istore_n (pc := 84) (k := 3) (by decide +kernel)) <|
  n_c (s_iinc (pc := 85) (n := 1) (by decide +kernel) (by decide +kernel)) <|
  n_c (s_goto (pc := 88) (off := -59) (by decide +kernel) (by decide +kernel)) <|
  n_c (s_aload_n (pc := 91) (k := 0) (by decide +kernel)) <|
  n_c (s_aload_n (pc := 92) (k := 0) (by decide +kernel)) <|
  n_c (s_gRc (s_getR (pc := 93) (ci := 12) (k := 59) (idx := 116) nok12 (by decide) rfl (by decide +kernel) w_1466) (gk107 hG) (gm107_59 hG)) <|
  n_c (s_iload_n (pc := 96) (k := 1) (by decide +kernel)) <|
  n_c (s_aldc (s_iaload (pc := 97) (by decide +kernel)) (gk142 hG) (gl142 hG)) <|
  n_c (s_iload_n (pc := 98) (k := 2) (by decide +kernel)) <|
  n_c (s_iload_n (pc := 99) (k := 3) (by decide +kernel)) <|
  n_c (s_callVc (s_callV (pc := 100) (csX12_isIn) (by decide) okX12_isIn nok12 w_1659 w_46 w_1657 (by decide +kernel)) (gk107 hG)) <|
  n_c (s_zret (pc := 103) rfl (by decide +kernel)) <|
  n_e
def fX12_canBeChild_71 (N : Nat) (k29 : Int32 → Int32 → Int32 → Int32 → nM → Option (Int32 × nM)) (x1 : Int32) (x2 : Int32) (x3 : Int32) (x4 : Int32) (M : nM) : Option (Int32 × nM) :=
  n_chk (n_ib 12 x4) <|
  if (M 142 x4.toNatClampNeg) ≤ 0 then
    let v1 : Int32 := (x4 + (1 : Int32))
    k29 x1 x2 x3 v1 M
  else
    let v2 : Int32 := (x3 + (1 : Int32))
    let v3 : Int32 := (x4 + (1 : Int32))
    k29 x1 x2 v2 v3 M
set_option maxRecDepth 200000 in
theorem bX12_canBeChild_71 {l : Launch} {w : nW} (N : Nat) {G : nG} (hG : n_GOK G) (k29 : Int32 → Int32 → Int32 → Int32 → nM → Option (Int32 × nM)) (hk29 : ∀ (x1 : Int32) (x2 : Int32) (x3 : Int32) (x4 : Int32) (M : nM) (r : Int32 × nM), k29 x1 x2 x3 x4 M = some r → n_At l w 1 mX12_canBeChild 29 [(0, .ref 107), (1, .int x1), (2, .int x2), (3, .int x3), (4, .int x4)] [] (G, M) (dv_i r.1, (G, r.2))) (x1 : Int32) (x2 : Int32) (x3 : Int32) (x4 : Int32) (M : nM) (r : Int32 × nM) (h : fX12_canBeChild_71 N k29 x1 x2 x3 x4 M = some r) : n_At l w 1 mX12_canBeChild 71 [(0, .ref 107), (1, .int x1), (2, .int x2), (3, .int x3), (4, .int x4)] [] (G, M) (dv_i r.1, (G, r.2)) :=
  n_seg (fin := n_fin dv_i G) (K := [(29, fun lv st M => n_lC 107 lv 0 (n_lI lv 1 (fun x1 => n_lI lv 2 (fun x2 => n_lI lv 3 (fun x3 => n_lI lv 4 (fun x4 => n_pE st (k29 x1 x2 x3 x4 M)))))))]) 16 (iX12_canBeChild N hG) (n_kc (fun lv st M r h => by
      obtain ⟨e0, h1⟩ := n_lC_x h
      obtain ⟨x1, e1, h2⟩ := n_lI_x h1
      obtain ⟨x2, e2, h3⟩ := n_lI_x h2
      obtain ⟨x3, e3, h4⟩ := n_lI_x h3
      obtain ⟨x4, e4, h5⟩ := n_lI_x h4
      obtain ⟨rfl, h6⟩ := n_pE_x h5
      exact n_sub (n_qc e0 (n_qc e1 (n_qc e2 (n_qc e3 (n_qc e4 n_qe))))) (hk29 x1 x2 x3 x4 M r h6)) n_ke) (by rfl) h
def fX12_canBeChild_29 (N : Nat) : Nat → Int32 → Int32 → Int32 → Int32 → nM → Option (Int32 × nM)
  | 0, _, _, _, _, _ => none
  | n + 1, x1, x2, x3, x4, M =>
    if (M 107 7) ≤ x4 then
      n_chk (n_ib 12 x1) <|
      (fX12_isIn (M 142 x1.toNatClampNeg) x2 x3 M).bind fun p1 =>
      n_chk (p1.1 == 0 || p1.1 == 1) (some (p1.1, p1.2))
    else
      n_chk (n_ib 24 x1) <|
      (fX12_has (M 129 x1.toNatClampNeg) x4 M).bind fun p2 =>
      if ¬ p2.1 = 0 then
        n_chk (n_ib 12 x4) <|
        if ¬ (p2.2 142 x4.toNatClampNeg) = (2 : Int32) then
          fX12_canBeChild_71 N (fun x1 x2 x3 x4 M => fX12_canBeChild_29 N n x1 x2 x3 x4 M) x1 x2 x3 x4 p2.2
        else
          let v3 : Int32 := (x2 + (1 : Int32))
          fX12_canBeChild_71 N (fun x1 x2 x3 x4 M => fX12_canBeChild_29 N n x1 x2 x3 x4 M) x1 v3 x3 x4 p2.2
      else
        let v4 : Int32 := (x4 + (1 : Int32))
        fX12_canBeChild_29 N n x1 x2 x3 v4 p2.2
set_option maxRecDepth 200000 in
theorem bX12_canBeChild_29 {l : Launch} {w : nW} (N : Nat) {G : nG} (hG : n_GOK G) : ∀ (n : Nat) (x1 : Int32) (x2 : Int32) (x3 : Int32) (x4 : Int32) (M : nM) (r : Int32 × nM), fX12_canBeChild_29 N n x1 x2 x3 x4 M = some r → n_At l w 1 mX12_canBeChild 29 [(0, .ref 107), (1, .int x1), (2, .int x2), (3, .int x3), (4, .int x4)] [] (G, M) (dv_i r.1, (G, r.2)) := by
  intro n
  induction n with
  | zero => intro x1 x2 x3 x4 M r h; cases (show (none : Option (Int32 × nM)) = some r from h)
  | succ n ih =>
    intro x1 x2 x3 x4 M r h
    exact n_seg (fin := n_fin dv_i G) (K := [(29, fun lv st M => n_lC 107 lv 0 (n_lI lv 1 (fun x1 => n_lI lv 2 (fun x2 => n_lI lv 3 (fun x3 => n_lI lv 4 (fun x4 => n_pE st (fX12_canBeChild_29 N n x1 x2 x3 x4 M))))))), (71, fun lv st M => n_lC 107 lv 0 (n_lI lv 1 (fun x1 => n_lI lv 2 (fun x2 => n_lI lv 3 (fun x3 => n_lI lv 4 (fun x4 => n_pE st (fX12_canBeChild_71 N (fun x1 x2 x3 x4 M => fX12_canBeChild_29 N n x1 x2 x3 x4 M) x1 x2 x3 x4 M)))))))]) 37 (iX12_canBeChild N hG) (n_kc (fun lv st M r h => by
      obtain ⟨e0, h1⟩ := n_lC_x h
      obtain ⟨x1, e1, h2⟩ := n_lI_x h1
      obtain ⟨x2, e2, h3⟩ := n_lI_x h2
      obtain ⟨x3, e3, h4⟩ := n_lI_x h3
      obtain ⟨x4, e4, h5⟩ := n_lI_x h4
      obtain ⟨rfl, h6⟩ := n_pE_x h5
      exact n_sub (n_qc e0 (n_qc e1 (n_qc e2 (n_qc e3 (n_qc e4 n_qe))))) (ih x1 x2 x3 x4 M r h6)) (n_kc (fun lv st M r h => by
      obtain ⟨e0, h1⟩ := n_lC_x h
      obtain ⟨x1, e1, h2⟩ := n_lI_x h1
      obtain ⟨x2, e2, h3⟩ := n_lI_x h2
      obtain ⟨x3, e3, h4⟩ := n_lI_x h3
      obtain ⟨x4, e4, h5⟩ := n_lI_x h4
      obtain ⟨rfl, h6⟩ := n_pE_x h5
      exact n_sub (n_qc e0 (n_qc e1 (n_qc e2 (n_qc e3 (n_qc e4 n_qe))))) (bX12_canBeChild_71 N hG (fun x1 x2 x3 x4 M => fX12_canBeChild_29 N n x1 x2 x3 x4 M) ih x1 x2 x3 x4 M r h6)) n_ke)) (by rfl) h
def fX12_canBeChild (N : Nat) (x1 : Int32) (M : nM) : Option (Int32 × nM) :=
  n_chk (n_ib 24 x1) <|
  if ¬ (M 129 x1.toNatClampNeg) = 0 then
    n_chk (n_ib 24 x1) <|
    (fX12_onesOf N (M 129 x1.toNatClampNeg) M).bind fun p1 =>
    let v2 : Int32 := ((2 : Int32) - p1.1)
    fX12_canBeChild_29 N N x1 (0 : Int32) v2 (0 : Int32) p1.2
  else
    some ((1 : Int32), M)
set_option maxRecDepth 200000 in
theorem bX12_canBeChild_0 {l : Launch} {w : nW} (N : Nat) {G : nG} (hG : n_GOK G) (x1 : Int32) (M : nM) (r : Int32 × nM) (h : fX12_canBeChild N x1 M = some r) : n_At l w 1 mX12_canBeChild 0 [(0, .ref 107), (1, .int x1)] [] (G, M) (dv_i r.1, (G, r.2)) :=
  n_seg (fin := n_fin dv_i G) (K := [(29, fun lv st M => n_lC 107 lv 0 (n_lI lv 1 (fun x1 => n_lI lv 2 (fun x2 => n_lI lv 3 (fun x3 => n_lI lv 4 (fun x4 => n_pE st (fX12_canBeChild_29 N N x1 x2 x3 x4 M)))))))]) 23 (iX12_canBeChild N hG) (n_kc (fun lv st M r h => by
      obtain ⟨e0, h1⟩ := n_lC_x h
      obtain ⟨x1, e1, h2⟩ := n_lI_x h1
      obtain ⟨x2, e2, h3⟩ := n_lI_x h2
      obtain ⟨x3, e3, h4⟩ := n_lI_x h3
      obtain ⟨x4, e4, h5⟩ := n_lI_x h4
      obtain ⟨rfl, h6⟩ := n_pE_x h5
      exact n_sub (n_qc e0 (n_qc e1 (n_qc e2 (n_qc e3 (n_qc e4 n_qe))))) (bX12_canBeChild_29 N hG N x1 x2 x3 x4 M r h6)) n_ke) (by rfl) h
theorem eX12_canBeChild {l : Launch} {w : nW} (N : Nat) {G : nG} (hG : n_GOK G) (z1 : Int32) (M : nM) (r : Int32 × nM) (h : fX12_canBeChild N z1 M = some r) : n_Met l w 1 mX12_canBeChild [.ref 107, .int z1] (G, M) (dv_i r.1, (G, r.2)) :=
  n_entry (by decide +kernel) rfl (Nat.le_of_ble_eq_true rfl) (n_sub (lv := [(0, .ref 107), (1, .int z1)]) (n_qc rfl (n_qc rfl n_qe)) (bX12_canBeChild_0 N hG z1 M r h))
abbrev hX12_canBeChild (N : Nat) : nF := fun T as M k => n_pC 107 as (fun as => n_pI as (fun z1 as => n_pE as ((fX12_canBeChild N z1 M).bind fun p => k (dv_i p.1) p.2)))
theorem csX12_canBeChild {l : Launch} {w : nW} (N : Nat) {G : nG} (hG : n_GOK G) : n_CS l w 1 mX12_canBeChild G (hX12_canBeChild N) := fun T as M k r h => by
  obtain ⟨t0, rfl, h1⟩ := n_pC_x h
  obtain ⟨z1, t1, rfl, h2⟩ := n_pI_x h1
  obtain ⟨rfl, hE⟩ := n_pE_x h2
  obtain ⟨p, hp, hk⟩ := Option.bind_eq_some_iff.mp hE
  exact ⟨_, _, eX12_canBeChild N hG z1 M p hp, hk⟩
/-! ===== SleightHouseModel.canHave(I)Z ===== -/
def mX12_canHave : nY := (RX12, yX12_canHave, cX12_canHave, 3, some .boolean)
theorem okX12_canHave : n_MOK mX12_canHave 1 := ⟨w_2087, w_151, ⟨by decide +kernel, by decide +kernel, by decide +kernel⟩, by decide⟩
abbrev aX12_canHave (N : Nat) : List (Nat × nO (Int32 × nM)) := [(0, o_aload 0 1), (1, o_gRc 107 141 4), (4, o_iload 1 5), (5, o_aldc 141 12 6), (6, o_push (.int (-2 : Int32)) 8), (8, oc_ne 20 11), (11, o_aload 0 12), (12, o_gRc 107 142 15), (15, o_iload 1 16), (16, o_aldc 142 12 17), (17, oi_gt 39 20), (20, o_aload 0 21), (21, o_gRc 107 141 24), (24, o_iload 1 25), (25, o_aldc 141 12 26), (26, o_push (.int (-1 : Int32)) 27), (27, oc_ne 41 30), (30, o_aload 0 31), (31, o_gRc 107 142 34), (34, o_iload 1 35), (35, o_aldc 142 12 36), (36, oi_ne 41 39), (39, o_push (.int (0 : Int32)) 40), (40, o_zret), (41, o_push (.int (0 : Int32)) 42), (42, o_istore 3 2 43), (43, o_iload 2 44), (44, o_iload 1 45), (45, oc_gt 95 48), (48, o_aload 0 49), (49, o_gRc 107 129 52), (52, o_iload 2 53), (53, o_aldc 129 24 54), (54, o_push (.int (2 : Int32)) 55), (55, o_iload 1 56), (56, o_ishl 57), (57, oc_ge 89 60), (60, o_iload 2 61), (61, o_iload 1 62), (62, oc_eq 79 65), (65, o_aload 0 66), (66, o_aload 0 67), (67, o_gRc 107 129 70), (70, o_iload 2 71), (71, o_aldc 129 24 72), (72, o_iload 1 73), (73, o_callVc 107 2 (hX12_has) 76), (76, oi_eq 89 79), (79, o_aload 0 80), (80, o_iload 2 81), (81, o_callVc 107 1 (hX12_canBeChild N) 84), (84, oi_ne 89 87), (87, o_push (.int (0 : Int32)) 88), (88, o_zret), (89, o_inc 3 2 (1 : Int32) 92), (92, o_goto 43), (95, o_push (.int (1 : Int32)) 96), (96, o_zret)]
set_option maxRecDepth 200000 in
theorem iX12_canHave {l : Launch} {w : nW} (N : Nat) {G : nG} (hG : n_GOK G) : n_AllS l w 2 mX12_canHave G (n_fin dv_i G) (aX12_canHave N) :=
  n_c (s_aload_n (pc := 0) (k := 0) (by decide +kernel)) <|
  n_c (s_gRc (s_getR (pc := 1) (ci := 12) (k := 58) (idx := 113) nok12 (by decide) rfl (by decide +kernel) w_1465) (gk107 hG) (gm107_58 hG)) <|
  n_c (s_iload_n (pc := 4) (k := 1) (by decide +kernel)) <|
  n_c (s_aldc (s_iaload (pc := 5) (by decide +kernel)) (gk141 hG) (gl141 hG)) <|
  n_c (s_bipush (pc := 6) (n := -2) (by decide +kernel) (by decide +kernel)) <|
  n_c (s_icmp_ne (pc := 8) (off := 12) (by decide +kernel) (by decide +kernel)) <|
  n_c (s_aload_n (pc := 11) (k := 0) (by decide +kernel)) <|
  n_c (s_gRc (s_getR (pc := 12) (ci := 12) (k := 59) (idx := 116) nok12 (by decide) rfl (by decide +kernel) w_1466) (gk107 hG) (gm107_59 hG)) <|
  n_c (s_iload_n (pc := 15) (k := 1) (by decide +kernel)) <|
  n_c (s_aldc (s_iaload (pc := 16) (by decide +kernel)) (gk142 hG) (gl142 hG)) <|
  n_c (s_if_gt (pc := 17) (off := 22) (by decide +kernel) (by decide +kernel)) <|
  n_c (s_aload_n (pc := 20) (k := 0) (by decide +kernel)) <|
  n_c (s_gRc (s_getR (pc := 21) (ci := 12) (k := 58) (idx := 113) nok12 (by decide) rfl (by decide +kernel) w_1465) (gk107 hG) (gm107_58 hG)) <|
  n_c (s_iload_n (pc := 24) (k := 1) (by decide +kernel)) <|
  n_c (s_aldc (s_iaload (pc := 25) (by decide +kernel)) (gk141 hG) (gl141 hG)) <|
  n_c (s_iconst (pc := 26) (n := -1) (by decide +kernel) (by decide +kernel)) <|
  n_c (s_icmp_ne (pc := 27) (off := 14) (by decide +kernel) (by decide +kernel)) <|
  n_c (s_aload_n (pc := 30) (k := 0) (by decide +kernel)) <|
  n_c (s_gRc (s_getR (pc := 31) (ci := 12) (k := 59) (idx := 116) nok12 (by decide) rfl (by decide +kernel) w_1466) (gk107 hG) (gm107_59 hG)) <|
  n_c (s_iload_n (pc := 34) (k := 1) (by decide +kernel)) <|
  n_c (s_aldc (s_iaload (pc := 35) (by decide +kernel)) (gk142 hG) (gl142 hG)) <|
  n_c (s_if_ne (pc := 36) (off := 5) (by decide +kernel) (by decide +kernel)) <|
  n_c (s_iconst (pc := 39) (n := 0) (by decide +kernel) (by decide +kernel)) <|
  n_c (s_zret (pc := 40) rfl (by decide +kernel)) <|
  n_c (s_iconst (pc := 41) (n := 0) (by decide +kernel) (by decide +kernel)) <|
  n_c (s_istore_n (pc := 42) (k := 2) (by decide +kernel)) <|
  n_c (s_iload_n (pc := 43) (k := 2) (by decide +kernel)) <|
  n_c (s_iload_n (pc := 44) (k := 1) (by decide +kernel)) <|
  n_c (s_icmp_gt (pc := 45) (off := 50) (by decide +kernel) (by decide +kernel)) <|
  n_c (s_aload_n (pc := 48) (k := 0) (by decide +kernel)) <|
  n_c (s_gRc (s_getR (pc := 49) (ci := 12) (k := 42) (idx := 77) nok12 (by decide) rfl (by decide +kernel) w_1449) (gk107 hG) (gm107_42 hG)) <|
  n_c (s_iload_n (pc := 52) (k := 2) (by decide +kernel)) <|
  n_c (s_aldc (s_iaload (pc := 53) (by decide +kernel)) (gk129 hG) (gl129 hG)) <|
  n_c (s_iconst (pc := 54) (n := 2) (by decide +kernel) (by decide +kernel)) <|
  n_c (s_iload_n (pc := 55) (k := 1) (by decide +kernel)) <|
  n_c (s_ishl (pc := 56) (by decide +kernel)) <|
  n_c (s_icmp_ge (pc := 57) (off := 32) (by decide +kernel) (by decide +kernel)) <|
  n_c (s_iload_n (pc := 60) (k := 2) (by decide +kernel)) <|
  n_c (s_iload_n (pc := 61) (k := 1) (by decide +kernel)) <|
  n_c (s_icmp_eq (pc := 62) (off := 17) (by decide +kernel) (by decide +kernel)) <|
  n_c (s_aload_n (pc := 65) (k := 0) (by decide +kernel)) <|
  n_c (s_aload_n (pc := 66) (k := 0) (by decide +kernel)) <|
  n_c (s_gRc (s_getR (pc := 67) (ci := 12) (k := 42) (idx := 77) nok12 (by decide) rfl (by decide +kernel) w_1449) (gk107 hG) (gm107_42 hG)) <|
  n_c (s_iload_n (pc := 70) (k := 2) (by decide +kernel)) <|
  n_c (s_aldc (s_iaload (pc := 71) (by decide +kernel)) (gk129 hG) (gl129 hG)) <|
  n_c (s_iload_n (pc := 72) (k := 1) (by decide +kernel)) <|
  n_c (s_callVc (s_callV (pc := 73) (csX12_has) (by decide) okX12_has nok12 w_2013 w_114 w_2011 (by decide +kernel)) (gk107 hG)) <|
  n_c (s_if_eq (pc := 76) (off := 13) (by decide +kernel) (by decide +kernel)) <|
  n_c (s_aload_n (pc := 79) (k := 0) (by decide +kernel)) <|
  n_c (s_iload_n (pc := 80) (k := 2) (by decide +kernel)) <|
  n_c (s_callVc (s_callV (pc := 81) (csX12_canBeChild N hG) (by decide) okX12_canBeChild nok12 w_2090 w_124 w_2088 (by decide +kernel)) (gk107 hG)) <|
  n_c (s_if_ne (pc := 84) (off := 5) (by decide +kernel) (by decide +kernel)) <|
  n_c (s_iconst (pc := 87) (n := 0) (by decide +kernel) (by decide +kernel)) <|
  n_c (s_zret (pc := 88) rfl (by decide +kernel)) <|
  n_c (s_iinc (pc := 89) (n := 1) (by decide +kernel) (by decide +kernel)) <|
  n_c (s_goto (pc := 92) (off := -49) (by decide +kernel) (by decide +kernel)) <|
  n_c (s_iconst (pc := 95) (n := 1) (by decide +kernel) (by decide +kernel)) <|
  n_c (s_zret (pc := 96) rfl (by decide +kernel)) <|
  n_e
def fX12_canHave_79 (N : Nat) (k43 : Int32 → Int32 → nM → Option (Int32 × nM)) (x1 : Int32) (x2 : Int32) (M : nM) : Option (Int32 × nM) :=
  (fX12_canBeChild N x2 M).bind fun p1 =>
  if ¬ p1.1 = 0 then
    let v2 : Int32 := (x2 + (1 : Int32))
    k43 x1 v2 p1.2
  else
    some ((0 : Int32), p1.2)
set_option maxRecDepth 200000 in
theorem bX12_canHave_79 {l : Launch} {w : nW} (N : Nat) {G : nG} (hG : n_GOK G) (k43 : Int32 → Int32 → nM → Option (Int32 × nM)) (hk43 : ∀ (x1 : Int32) (x2 : Int32) (M : nM) (r : Int32 × nM), k43 x1 x2 M = some r → n_At l w 2 mX12_canHave 43 [(0, .ref 107), (1, .int x1), (2, .int x2)] [] (G, M) (dv_i r.1, (G, r.2))) (x1 : Int32) (x2 : Int32) (M : nM) (r : Int32 × nM) (h : fX12_canHave_79 N k43 x1 x2 M = some r) : n_At l w 2 mX12_canHave 79 [(0, .ref 107), (1, .int x1), (2, .int x2)] [] (G, M) (dv_i r.1, (G, r.2)) :=
  n_seg (fin := n_fin dv_i G) (K := [(43, fun lv st M => n_lC 107 lv 0 (n_lI lv 1 (fun x1 => n_lI lv 2 (fun x2 => n_pE st (k43 x1 x2 M)))))]) 11 (iX12_canHave N hG) (n_kc (fun lv st M r h => by
      obtain ⟨e0, h1⟩ := n_lC_x h
      obtain ⟨x1, e1, h2⟩ := n_lI_x h1
      obtain ⟨x2, e2, h3⟩ := n_lI_x h2
      obtain ⟨rfl, h4⟩ := n_pE_x h3
      exact n_sub (n_qc e0 (n_qc e1 (n_qc e2 n_qe))) (hk43 x1 x2 M r h4)) n_ke) (by rfl) h
def fX12_canHave_43 (N : Nat) : Nat → Int32 → Int32 → nM → Option (Int32 × nM)
  | 0, _, _, _ => none
  | n + 1, x1, x2, M =>
    if x1 < x2 then
      some ((1 : Int32), M)
    else
      n_chk (n_ib 24 x2) <|
      if ((2 : Int32) <<< (x1 &&& 31)) ≤ (M 129 x2.toNatClampNeg) then
        let v1 : Int32 := (x2 + (1 : Int32))
        fX12_canHave_43 N n x1 v1 M
      else
        if x2 = x1 then
          fX12_canHave_79 N (fun x1 x2 M => fX12_canHave_43 N n x1 x2 M) x1 x2 M
        else
          n_chk (n_ib 24 x2) <|
          (fX12_has (M 129 x2.toNatClampNeg) x1 M).bind fun p2 =>
          if p2.1 = 0 then
            let v3 : Int32 := (x2 + (1 : Int32))
            fX12_canHave_43 N n x1 v3 p2.2
          else
            fX12_canHave_79 N (fun x1 x2 M => fX12_canHave_43 N n x1 x2 M) x1 x2 p2.2
set_option maxRecDepth 200000 in
theorem bX12_canHave_43 {l : Launch} {w : nW} (N : Nat) {G : nG} (hG : n_GOK G) : ∀ (n : Nat) (x1 : Int32) (x2 : Int32) (M : nM) (r : Int32 × nM), fX12_canHave_43 N n x1 x2 M = some r → n_At l w 2 mX12_canHave 43 [(0, .ref 107), (1, .int x1), (2, .int x2)] [] (G, M) (dv_i r.1, (G, r.2)) := by
  intro n
  induction n with
  | zero => intro x1 x2 M r h; cases (show (none : Option (Int32 × nM)) = some r from h)
  | succ n ih =>
    intro x1 x2 M r h
    exact n_seg (fin := n_fin dv_i G) (K := [(43, fun lv st M => n_lC 107 lv 0 (n_lI lv 1 (fun x1 => n_lI lv 2 (fun x2 => n_pE st (fX12_canHave_43 N n x1 x2 M))))), (79, fun lv st M => n_lC 107 lv 0 (n_lI lv 1 (fun x1 => n_lI lv 2 (fun x2 => n_pE st (fX12_canHave_79 N (fun x1 x2 M => fX12_canHave_43 N n x1 x2 M) x1 x2 M)))))]) 31 (iX12_canHave N hG) (n_kc (fun lv st M r h => by
      obtain ⟨e0, h1⟩ := n_lC_x h
      obtain ⟨x1, e1, h2⟩ := n_lI_x h1
      obtain ⟨x2, e2, h3⟩ := n_lI_x h2
      obtain ⟨rfl, h4⟩ := n_pE_x h3
      exact n_sub (n_qc e0 (n_qc e1 (n_qc e2 n_qe))) (ih x1 x2 M r h4)) (n_kc (fun lv st M r h => by
      obtain ⟨e0, h1⟩ := n_lC_x h
      obtain ⟨x1, e1, h2⟩ := n_lI_x h1
      obtain ⟨x2, e2, h3⟩ := n_lI_x h2
      obtain ⟨rfl, h4⟩ := n_pE_x h3
      exact n_sub (n_qc e0 (n_qc e1 (n_qc e2 n_qe))) (bX12_canHave_79 N hG (fun x1 x2 M => fX12_canHave_43 N n x1 x2 M) ih x1 x2 M r h4)) n_ke)) (by rfl) h
def fX12_canHave_20 (N : Nat) (x1 : Int32) (M : nM) : Option (Int32 × nM) :=
  n_chk (n_ib 12 x1) <|
  if ¬ (M 141 x1.toNatClampNeg) = (-1 : Int32) then
    fX12_canHave_43 N N x1 (0 : Int32) M
  else
    n_chk (n_ib 12 x1) <|
    if ¬ (M 142 x1.toNatClampNeg) = 0 then
      fX12_canHave_43 N N x1 (0 : Int32) M
    else
      some ((0 : Int32), M)
set_option maxRecDepth 200000 in
theorem bX12_canHave_20 {l : Launch} {w : nW} (N : Nat) {G : nG} (hG : n_GOK G) (x1 : Int32) (M : nM) (r : Int32 × nM) (h : fX12_canHave_20 N x1 M = some r) : n_At l w 2 mX12_canHave 20 [(0, .ref 107), (1, .int x1)] [] (G, M) (dv_i r.1, (G, r.2)) :=
  n_seg (fin := n_fin dv_i G) (K := [(43, fun lv st M => n_lC 107 lv 0 (n_lI lv 1 (fun x1 => n_lI lv 2 (fun x2 => n_pE st (fX12_canHave_43 N N x1 x2 M)))))]) 20 (iX12_canHave N hG) (n_kc (fun lv st M r h => by
      obtain ⟨e0, h1⟩ := n_lC_x h
      obtain ⟨x1, e1, h2⟩ := n_lI_x h1
      obtain ⟨x2, e2, h3⟩ := n_lI_x h2
      obtain ⟨rfl, h4⟩ := n_pE_x h3
      exact n_sub (n_qc e0 (n_qc e1 (n_qc e2 n_qe))) (bX12_canHave_43 N hG N x1 x2 M r h4)) n_ke) (by rfl) h
def fX12_canHave (N : Nat) (x1 : Int32) (M : nM) : Option (Int32 × nM) :=
  n_chk (n_ib 12 x1) <|
  if ¬ (M 141 x1.toNatClampNeg) = (-2 : Int32) then
    fX12_canHave_20 N x1 M
  else
    n_chk (n_ib 12 x1) <|
    if 0 < (M 142 x1.toNatClampNeg) then
      some ((0 : Int32), M)
    else
      fX12_canHave_20 N x1 M
set_option maxRecDepth 200000 in
theorem bX12_canHave_0 {l : Launch} {w : nW} (N : Nat) {G : nG} (hG : n_GOK G) (x1 : Int32) (M : nM) (r : Int32 × nM) (h : fX12_canHave N x1 M = some r) : n_At l w 2 mX12_canHave 0 [(0, .ref 107), (1, .int x1)] [] (G, M) (dv_i r.1, (G, r.2)) :=
  n_seg (fin := n_fin dv_i G) (K := [(20, fun lv st M => n_lC 107 lv 0 (n_lI lv 1 (fun x1 => n_pE st (fX12_canHave_20 N x1 M))))]) 16 (iX12_canHave N hG) (n_kc (fun lv st M r h => by
      obtain ⟨e0, h1⟩ := n_lC_x h
      obtain ⟨x1, e1, h2⟩ := n_lI_x h1
      obtain ⟨rfl, h3⟩ := n_pE_x h2
      exact n_sub (n_qc e0 (n_qc e1 n_qe)) (bX12_canHave_20 N hG x1 M r h3)) n_ke) (by rfl) h
theorem eX12_canHave {l : Launch} {w : nW} (N : Nat) {G : nG} (hG : n_GOK G) (z1 : Int32) (M : nM) (r : Int32 × nM) (h : fX12_canHave N z1 M = some r) : n_Met l w 2 mX12_canHave [.ref 107, .int z1] (G, M) (dv_i r.1, (G, r.2)) :=
  n_entry (by decide +kernel) rfl (Nat.le_of_ble_eq_true rfl) (n_sub (lv := [(0, .ref 107), (1, .int z1)]) (n_qc rfl (n_qc rfl n_qe)) (bX12_canHave_0 N hG z1 M r h))
abbrev hX12_canHave (N : Nat) : nF := fun T as M k => n_pC 107 as (fun as => n_pI as (fun z1 as => n_pE as ((fX12_canHave N z1 M).bind fun p => k (dv_i p.1) p.2)))
theorem csX12_canHave {l : Launch} {w : nW} (N : Nat) {G : nG} (hG : n_GOK G) : n_CS l w 2 mX12_canHave G (hX12_canHave N) := fun T as M k r h => by
  obtain ⟨t0, rfl, h1⟩ := n_pC_x h
  obtain ⟨z1, t1, rfl, h2⟩ := n_pI_x h1
  obtain ⟨rfl, hE⟩ := n_pE_x h2
  obtain ⟨p, hp, hk⟩ := Option.bind_eq_some_iff.mp hE
  exact ⟨_, _, eX12_canHave N hG z1 M p hp, hk⟩
