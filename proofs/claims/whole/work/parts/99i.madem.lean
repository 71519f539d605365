/-! ===== the model's constructor against data ===== -/
theorem vyX12_init_1237 (x0 : Nat) (s0 : Nat) (s1 : Nat) (hh : nH) : fX12_init_1237 x0 s0 s1 hh = n_chk (Nat.beq (n_kd hh.1 s1) 12) (y_cR hh s1 74 s0 (fun h1 => n_chk (!decide ((2400 : Int32) < 0) && Nat.ble ((2400 : Int32).toNatClampNeg * 4) 536870912) (y_cal h1 14 (2400 : Int32).toNatClampNeg (fun a2 h3 => n_chk (Nat.beq (n_kd h3.1 x0) 12) (y_cR h3 x0 78 a2 (fun h4 => some ((), h4))))))) := rfl
def zX12_init_1237 (x0 : Nat) (s0 : Nat) (s1 : Nat) (hh : dT) : Option dT := n_chk (Nat.beq (y_k hh s1) 12) (z_cR hh s1 74 s0 (fun h1 => n_chk (!decide ((2400 : Int32) < 0) && Nat.ble ((2400 : Int32).toNatClampNeg * 4) 536870912) (z_cal h1 14 (2400 : Int32).toNatClampNeg (fun a2 h3 => n_chk (Nat.beq (y_k h3 x0) 12) (z_cR h3 x0 78 a2 (fun h4 => some h4))))))
theorem sX12_init_1237 {N : Nat} {x0 : Nat} {s0 : Nat} {s1 : Nat} {hh : nH} {t : dT} (hN : 1000 ≤ N) (Q_hh : y_Q hh t) : y_S (fX12_init_1237 x0 s0 s1 hh) (zX12_init_1237 x0 s0 s1 t) := by
  rw [vyX12_init_1237]
  unfold zX12_init_1237
  refine y_kd Q_hh ?_
  refine y_lR Q_hh (fun h1 Q_h1 => ?_)
  refine y_chk (fun z => z) ?_
  refine y_lal Q_h1 (fun h3 Q_h3 => ?_)
  refine y_kd Q_h3 ?_
  refine y_lR Q_h3 (fun h4 Q_h4 => ?_)
  exact y_some Q_h4
theorem vyX12_init_1209 (x0 : Nat) (hh : nH) : fX12_init_1209 x0 hh = n_chk (!decide ((8 : Int32) < 0) && Nat.ble ((8 : Int32).toNatClampNeg * 4) 536870912) (y_cal hh 14 (8 : Int32).toNatClampNeg (fun a1 h2 => n_chk (Nat.beq (n_kd h2.1 x0) 12) (y_cR h2 x0 69 a1 (fun h3 => n_chk (!decide ((6 : Int32) < 0) && Nat.ble ((6 : Int32).toNatClampNeg * 4) 536870912) (y_cal h3 14 (6 : Int32).toNatClampNeg (fun a4 h5 => n_chk (Nat.beq (n_kd h5.1 x0) 12) (y_cR h5 x0 71 a4 (fun h6 => n_chk (!decide ((5 : Int32) < 0) && Nat.ble ((5 : Int32).toNatClampNeg * 4) 536870912) (y_cal h6 14 (5 : Int32).toNatClampNeg (fun a7 h8 => n_chk (Nat.beq (n_kd h8.1 x0) 12) (y_cR h8 x0 73 a7 (fun h9 => n_chk (!decide ((31 : Int32) < 0) && Nat.ble ((31 : Int32).toNatClampNeg * 4) 536870912) (y_cal h9 14 (31 : Int32).toNatClampNeg (fun a10 h11 => fX12_init_1237 x0 a10 x0 h11)))))))))))))) := rfl
def zX12_init_1209 (x0 : Nat) (hh : dT) : Option dT := n_chk (!decide ((8 : Int32) < 0) && Nat.ble ((8 : Int32).toNatClampNeg * 4) 536870912) (z_cal hh 14 (8 : Int32).toNatClampNeg (fun a1 h2 => n_chk (Nat.beq (y_k h2 x0) 12) (z_cR h2 x0 69 a1 (fun h3 => n_chk (!decide ((6 : Int32) < 0) && Nat.ble ((6 : Int32).toNatClampNeg * 4) 536870912) (z_cal h3 14 (6 : Int32).toNatClampNeg (fun a4 h5 => n_chk (Nat.beq (y_k h5 x0) 12) (z_cR h5 x0 71 a4 (fun h6 => n_chk (!decide ((5 : Int32) < 0) && Nat.ble ((5 : Int32).toNatClampNeg * 4) 536870912) (z_cal h6 14 (5 : Int32).toNatClampNeg (fun a7 h8 => n_chk (Nat.beq (y_k h8 x0) 12) (z_cR h8 x0 73 a7 (fun h9 => n_chk (!decide ((31 : Int32) < 0) && Nat.ble ((31 : Int32).toNatClampNeg * 4) 536870912) (z_cal h9 14 (31 : Int32).toNatClampNeg (fun a10 h11 => zX12_init_1237 x0 a10 x0 h11))))))))))))))
theorem sX12_init_1209 {N : Nat} {x0 : Nat} {hh : nH} {t : dT} (hN : 1000 ≤ N) (Q_hh : y_Q hh t) : y_S (fX12_init_1209 x0 hh) (zX12_init_1209 x0 t) := by
  rw [vyX12_init_1209]
  unfold zX12_init_1209
  refine y_chk (fun z => z) ?_
  refine y_lal Q_hh (fun h2 Q_h2 => ?_)
  refine y_kd Q_h2 ?_
  refine y_lR Q_h2 (fun h3 Q_h3 => ?_)
  refine y_chk (fun z => z) ?_
  refine y_lal Q_h3 (fun h5 Q_h5 => ?_)
  refine y_kd Q_h5 ?_
  refine y_lR Q_h5 (fun h6 Q_h6 => ?_)
  refine y_chk (fun z => z) ?_
  refine y_lal Q_h6 (fun h8 Q_h8 => ?_)
  refine y_kd Q_h8 ?_
  refine y_lR Q_h8 (fun h9 Q_h9 => ?_)
  refine y_chk (fun z => z) ?_
  refine y_lal Q_h9 (fun h11 Q_h11 => ?_)
  exact sX12_init_1237 hN Q_h11
theorem vyX12_init_1178 (x0 : Nat) (s0 : Nat) (hh : nH) : fX12_init_1178 x0 s0 hh = n_chk (!decide ((36 : Int32) < 0) && Nat.ble ((36 : Int32).toNatClampNeg * 4) 536870912) (y_cal hh 14 (36 : Int32).toNatClampNeg (fun a1 h2 => n_chk (Nat.beq (n_kd h2.1 s0) 12) (y_cR h2 s0 63 a1 (fun h3 => n_chk (!decide ((10 : Int32) < 0) && Nat.ble ((10 : Int32).toNatClampNeg * 4) 536870912) (y_cal h3 14 (10 : Int32).toNatClampNeg (fun a4 h5 => n_chk (Nat.beq (n_kd h5.1 x0) 12) (y_cR h5 x0 66 a4 (fun h6 => n_chk (!decide ((10 : Int32) < 0) && Nat.ble ((10 : Int32).toNatClampNeg * 4) 536870912) (y_cal h6 14 (10 : Int32).toNatClampNeg (fun a7 h8 => n_chk (Nat.beq (n_kd h8.1 x0) 12) (y_cR h8 x0 67 a7 (fun h9 => n_chk (!decide ((10 : Int32) < 0) && Nat.ble ((10 : Int32).toNatClampNeg * 4) 536870912) (y_cal h9 14 (10 : Int32).toNatClampNeg (fun a10 h11 => n_chk (Nat.beq (n_kd h11.1 x0) 12) (y_cR h11 x0 68 a10 (fun h12 => fX12_init_1209 x0 h12)))))))))))))))) := rfl
def zX12_init_1178 (x0 : Nat) (s0 : Nat) (hh : dT) : Option dT := n_chk (!decide ((36 : Int32) < 0) && Nat.ble ((36 : Int32).toNatClampNeg * 4) 536870912) (z_cal hh 14 (36 : Int32).toNatClampNeg (fun a1 h2 => n_chk (Nat.beq (y_k h2 s0) 12) (z_cR h2 s0 63 a1 (fun h3 => n_chk (!decide ((10 : Int32) < 0) && Nat.ble ((10 : Int32).toNatClampNeg * 4) 536870912) (z_cal h3 14 (10 : Int32).toNatClampNeg (fun a4 h5 => n_chk (Nat.beq (y_k h5 x0) 12) (z_cR h5 x0 66 a4 (fun h6 => n_chk (!decide ((10 : Int32) < 0) && Nat.ble ((10 : Int32).toNatClampNeg * 4) 536870912) (z_cal h6 14 (10 : Int32).toNatClampNeg (fun a7 h8 => n_chk (Nat.beq (y_k h8 x0) 12) (z_cR h8 x0 67 a7 (fun h9 => n_chk (!decide ((10 : Int32) < 0) && Nat.ble ((10 : Int32).toNatClampNeg * 4) 536870912) (z_cal h9 14 (10 : Int32).toNatClampNeg (fun a10 h11 => n_chk (Nat.beq (y_k h11 x0) 12) (z_cR h11 x0 68 a10 (fun h12 => zX12_init_1209 x0 h12))))))))))))))))
theorem sX12_init_1178 {N : Nat} {x0 : Nat} {s0 : Nat} {hh : nH} {t : dT} (hN : 1000 ≤ N) (Q_hh : y_Q hh t) : y_S (fX12_init_1178 x0 s0 hh) (zX12_init_1178 x0 s0 t) := by
  rw [vyX12_init_1178]
  unfold zX12_init_1178
  refine y_chk (fun z => z) ?_
  refine y_lal Q_hh (fun h2 Q_h2 => ?_)
  refine y_kd Q_h2 ?_
  refine y_lR Q_h2 (fun h3 Q_h3 => ?_)
  refine y_chk (fun z => z) ?_
  refine y_lal Q_h3 (fun h5 Q_h5 => ?_)
  refine y_kd Q_h5 ?_
  refine y_lR Q_h5 (fun h6 Q_h6 => ?_)
  refine y_chk (fun z => z) ?_
  refine y_lal Q_h6 (fun h8 Q_h8 => ?_)
  refine y_kd Q_h8 ?_
  refine y_lR Q_h8 (fun h9 Q_h9 => ?_)
  refine y_chk (fun z => z) ?_
  refine y_lal Q_h9 (fun h11 Q_h11 => ?_)
  refine y_kd Q_h11 ?_
  refine y_lR Q_h11 (fun h12 Q_h12 => ?_)
  exact sX12_init_1209 hN Q_h12
theorem vyX12_init_1148 (x0 : Nat) (s0 : Int32) (s1 : Nat) (hh : nH) : fX12_init_1148 x0 s0 s1 hh = n_chk (!decide (s0 < 0) && Nat.ble (s0.toNatClampNeg * 4) 536870912) (y_cal hh 14 s0.toNatClampNeg (fun a1 h2 => n_chk (Nat.beq (n_kd h2.1 s1) 12) (y_cR h2 s1 56 a1 (fun h3 => n_chk (!decide ((40 : Int32) < 0) && Nat.ble ((40 : Int32).toNatClampNeg * 4) 536870912) (y_cal h3 14 (40 : Int32).toNatClampNeg (fun a4 h5 => n_chk (Nat.beq (n_kd h5.1 x0) 12) (y_cR h5 x0 57 a4 (fun h6 => n_chk (!decide ((12 : Int32) < 0) && Nat.ble ((12 : Int32).toNatClampNeg * 4) 536870912) (y_cal h6 14 (12 : Int32).toNatClampNeg (fun a7 h8 => n_chk (Nat.beq (n_kd h8.1 x0) 12) (y_cR h8 x0 58 a7 (fun h9 => n_chk (!decide ((12 : Int32) < 0) && Nat.ble ((12 : Int32).toNatClampNeg * 4) 536870912) (y_cal h9 14 (12 : Int32).toNatClampNeg (fun a10 h11 => n_chk (Nat.beq (n_kd h11.1 x0) 12) (y_cR h11 x0 59 a10 (fun h12 => fX12_init_1178 x0 x0 h12)))))))))))))))) := rfl
def zX12_init_1148 (x0 : Nat) (s0 : Int32) (s1 : Nat) (hh : dT) : Option dT := n_chk (!decide (s0 < 0) && Nat.ble (s0.toNatClampNeg * 4) 536870912) (z_cal hh 14 s0.toNatClampNeg (fun a1 h2 => n_chk (Nat.beq (y_k h2 s1) 12) (z_cR h2 s1 56 a1 (fun h3 => n_chk (!decide ((40 : Int32) < 0) && Nat.ble ((40 : Int32).toNatClampNeg * 4) 536870912) (z_cal h3 14 (40 : Int32).toNatClampNeg (fun a4 h5 => n_chk (Nat.beq (y_k h5 x0) 12) (z_cR h5 x0 57 a4 (fun h6 => n_chk (!decide ((12 : Int32) < 0) && Nat.ble ((12 : Int32).toNatClampNeg * 4) 536870912) (z_cal h6 14 (12 : Int32).toNatClampNeg (fun a7 h8 => n_chk (Nat.beq (y_k h8 x0) 12) (z_cR h8 x0 58 a7 (fun h9 => n_chk (!decide ((12 : Int32) < 0) && Nat.ble ((12 : Int32).toNatClampNeg * 4) 536870912) (z_cal h9 14 (12 : Int32).toNatClampNeg (fun a10 h11 => n_chk (Nat.beq (y_k h11 x0) 12) (z_cR h11 x0 59 a10 (fun h12 => zX12_init_1178 x0 x0 h12))))))))))))))))
theorem sX12_init_1148 {N : Nat} {x0 : Nat} {s0 : Int32} {s1 : Nat} {hh : nH} {t : dT} (hN : 1000 ≤ N) (Q_hh : y_Q hh t) : y_S (fX12_init_1148 x0 s0 s1 hh) (zX12_init_1148 x0 s0 s1 t) := by
  rw [vyX12_init_1148]
  unfold zX12_init_1148
  refine y_chk (fun z => z) ?_
  refine y_lal Q_hh (fun h2 Q_h2 => ?_)
  refine y_kd Q_h2 ?_
  refine y_lR Q_h2 (fun h3 Q_h3 => ?_)
  refine y_chk (fun z => z) ?_
  refine y_lal Q_h3 (fun h5 Q_h5 => ?_)
  refine y_kd Q_h5 ?_
  refine y_lR Q_h5 (fun h6 Q_h6 => ?_)
  refine y_chk (fun z => z) ?_
  refine y_lal Q_h6 (fun h8 Q_h8 => ?_)
  refine y_kd Q_h8 ?_
  refine y_lR Q_h8 (fun h9 Q_h9 => ?_)
  refine y_chk (fun z => z) ?_
  refine y_lal Q_h9 (fun h11 Q_h11 => ?_)
  refine y_kd Q_h11 ?_
  refine y_lR Q_h11 (fun h12 Q_h12 => ?_)
  exact sX12_init_1178 hN Q_h12
theorem vyX12_init_1118 (x0 : Nat) (s0 : Nat) (s1 : Nat) (hh : nH) : fX12_init_1118 x0 s0 s1 hh = n_chk (Nat.beq (n_kd hh.1 s1) 12) (y_cR hh s1 50 s0 (fun h1 => n_chk (!decide ((8 : Int32) < 0) && Nat.ble ((8 : Int32).toNatClampNeg * 4) 536870912) (y_cal h1 14 (8 : Int32).toNatClampNeg (fun a2 h3 => n_chk (Nat.beq (n_kd h3.1 x0) 12) (y_cR h3 x0 52 a2 (fun h4 => n_chk (!decide ((8 : Int32) < 0) && Nat.ble ((8 : Int32).toNatClampNeg * 4) 536870912) (y_cal h4 14 (8 : Int32).toNatClampNeg (fun a5 h6 => n_chk (Nat.beq (n_kd h6.1 x0) 12) (y_cR h6 x0 53 a5 (fun h7 => n_chk (!decide ((8 : Int32) < 0) && Nat.ble ((8 : Int32).toNatClampNeg * 4) 536870912) (y_cal h7 14 (8 : Int32).toNatClampNeg (fun a8 h9 => n_chk (Nat.beq (n_kd h9.1 x0) 12) (y_cR h9 x0 54 a8 (fun h10 => fX12_init_1148 x0 (10 : Int32) x0 h10)))))))))))))) := rfl
def zX12_init_1118 (x0 : Nat) (s0 : Nat) (s1 : Nat) (hh : dT) : Option dT := n_chk (Nat.beq (y_k hh s1) 12) (z_cR hh s1 50 s0 (fun h1 => n_chk (!decide ((8 : Int32) < 0) && Nat.ble ((8 : Int32).toNatClampNeg * 4) 536870912) (z_cal h1 14 (8 : Int32).toNatClampNeg (fun a2 h3 => n_chk (Nat.beq (y_k h3 x0) 12) (z_cR h3 x0 52 a2 (fun h4 => n_chk (!decide ((8 : Int32) < 0) && Nat.ble ((8 : Int32).toNatClampNeg * 4) 536870912) (z_cal h4 14 (8 : Int32).toNatClampNeg (fun a5 h6 => n_chk (Nat.beq (y_k h6 x0) 12) (z_cR h6 x0 53 a5 (fun h7 => n_chk (!decide ((8 : Int32) < 0) && Nat.ble ((8 : Int32).toNatClampNeg * 4) 536870912) (z_cal h7 14 (8 : Int32).toNatClampNeg (fun a8 h9 => n_chk (Nat.beq (y_k h9 x0) 12) (z_cR h9 x0 54 a8 (fun h10 => zX12_init_1148 x0 (10 : Int32) x0 h10))))))))))))))
theorem sX12_init_1118 {N : Nat} {x0 : Nat} {s0 : Nat} {s1 : Nat} {hh : nH} {t : dT} (hN : 1000 ≤ N) (Q_hh : y_Q hh t) : y_S (fX12_init_1118 x0 s0 s1 hh) (zX12_init_1118 x0 s0 s1 t) := by
  rw [vyX12_init_1118]
  unfold zX12_init_1118
  refine y_kd Q_hh ?_
  refine y_lR Q_hh (fun h1 Q_h1 => ?_)
  refine y_chk (fun z => z) ?_
  refine y_lal Q_h1 (fun h3 Q_h3 => ?_)
  refine y_kd Q_h3 ?_
  refine y_lR Q_h3 (fun h4 Q_h4 => ?_)
  refine y_chk (fun z => z) ?_
  refine y_lal Q_h4 (fun h6 Q_h6 => ?_)
  refine y_kd Q_h6 ?_
  refine y_lR Q_h6 (fun h7 Q_h7 => ?_)
  refine y_chk (fun z => z) ?_
  refine y_lal Q_h7 (fun h9 Q_h9 => ?_)
  refine y_kd Q_h9 ?_
  refine y_lR Q_h9 (fun h10 Q_h10 => ?_)
  exact sX12_init_1148 hN Q_h10
theorem vyX12_init_1089 (x0 : Nat) (hh : nH) : fX12_init_1089 x0 hh = n_chk (!decide ((420 : Int32) < 0) && Nat.ble ((420 : Int32).toNatClampNeg * 4) 536870912) (y_cal hh 14 (420 : Int32).toNatClampNeg (fun a1 h2 => n_chk (Nat.beq (n_kd h2.1 x0) 12) (y_cR h2 x0 45 a1 (fun h3 => n_chk (!decide ((16 : Int32) < 0) && Nat.ble ((16 : Int32).toNatClampNeg * 4) 536870912) (y_cal h3 14 (16 : Int32).toNatClampNeg (fun a4 h5 => n_chk (Nat.beq (n_kd h5.1 x0) 12) (y_cR h5 x0 47 a4 (fun h6 => n_chk (!decide ((16 : Int32) < 0) && Nat.ble ((16 : Int32).toNatClampNeg * 4) 536870912) (y_cal h6 14 (16 : Int32).toNatClampNeg (fun a7 h8 => n_chk (Nat.beq (n_kd h8.1 x0) 12) (y_cR h8 x0 48 a7 (fun h9 => n_chk (!decide ((4 : Int32) < 0) && Nat.ble ((4 : Int32).toNatClampNeg * 4) 536870912) (y_cal h9 14 (4 : Int32).toNatClampNeg (fun a10 h11 => fX12_init_1118 x0 a10 x0 h11)))))))))))))) := rfl
def zX12_init_1089 (x0 : Nat) (hh : dT) : Option dT := n_chk (!decide ((420 : Int32) < 0) && Nat.ble ((420 : Int32).toNatClampNeg * 4) 536870912) (z_cal hh 14 (420 : Int32).toNatClampNeg (fun a1 h2 => n_chk (Nat.beq (y_k h2 x0) 12) (z_cR h2 x0 45 a1 (fun h3 => n_chk (!decide ((16 : Int32) < 0) && Nat.ble ((16 : Int32).toNatClampNeg * 4) 536870912) (z_cal h3 14 (16 : Int32).toNatClampNeg (fun a4 h5 => n_chk (Nat.beq (y_k h5 x0) 12) (z_cR h5 x0 47 a4 (fun h6 => n_chk (!decide ((16 : Int32) < 0) && Nat.ble ((16 : Int32).toNatClampNeg * 4) 536870912) (z_cal h6 14 (16 : Int32).toNatClampNeg (fun a7 h8 => n_chk (Nat.beq (y_k h8 x0) 12) (z_cR h8 x0 48 a7 (fun h9 => n_chk (!decide ((4 : Int32) < 0) && Nat.ble ((4 : Int32).toNatClampNeg * 4) 536870912) (z_cal h9 14 (4 : Int32).toNatClampNeg (fun a10 h11 => zX12_init_1118 x0 a10 x0 h11))))))))))))))
theorem sX12_init_1089 {N : Nat} {x0 : Nat} {hh : nH} {t : dT} (hN : 1000 ≤ N) (Q_hh : y_Q hh t) : y_S (fX12_init_1089 x0 hh) (zX12_init_1089 x0 t) := by
  rw [vyX12_init_1089]
  unfold zX12_init_1089
  refine y_chk (fun z => z) ?_
  refine y_lal Q_hh (fun h2 Q_h2 => ?_)
  refine y_kd Q_h2 ?_
  refine y_lR Q_h2 (fun h3 Q_h3 => ?_)
  refine y_chk (fun z => z) ?_
  refine y_lal Q_h3 (fun h5 Q_h5 => ?_)
  refine y_kd Q_h5 ?_
  refine y_lR Q_h5 (fun h6 Q_h6 => ?_)
  refine y_chk (fun z => z) ?_
  refine y_lal Q_h6 (fun h8 Q_h8 => ?_)
  refine y_kd Q_h8 ?_
  refine y_lR Q_h8 (fun h9 Q_h9 => ?_)
  refine y_chk (fun z => z) ?_
  refine y_lal Q_h9 (fun h11 Q_h11 => ?_)
  exact sX12_init_1118 hN Q_h11
theorem vyX12_init_1057 (x0 : Nat) (s0 : Nat) (hh : nH) : fX12_init_1057 x0 s0 hh = n_chk (!decide ((128 : Int32) < 0) && Nat.ble ((128 : Int32).toNatClampNeg * 4) 536870912) (y_cal hh 14 (128 : Int32).toNatClampNeg (fun a1 h2 => n_chk (Nat.beq (n_kd h2.1 s0) 12) (y_cR h2 s0 40 a1 (fun h3 => n_chk (!decide ((24 : Int32) < 0) && Nat.ble ((24 : Int32).toNatClampNeg * 4) 536870912) (y_cal h3 14 (24 : Int32).toNatClampNeg (fun a4 h5 => n_chk (Nat.beq (n_kd h5.1 x0) 12) (y_cR h5 x0 42 a4 (fun h6 => n_chk (!decide ((12 : Int32) < 0) && Nat.ble ((12 : Int32).toNatClampNeg * 4) 536870912) (y_cal h6 14 (12 : Int32).toNatClampNeg (fun a7 h8 => n_chk (Nat.beq (n_kd h8.1 x0) 12) (y_cR h8 x0 43 a7 (fun h9 => n_chk (!decide ((11 : Int32) < 0) && Nat.ble ((11 : Int32).toNatClampNeg * 4) 536870912) (y_cal h9 14 (11 : Int32).toNatClampNeg (fun a10 h11 => n_chk (Nat.beq (n_kd h11.1 x0) 12) (y_cR h11 x0 44 a10 (fun h12 => fX12_init_1089 x0 h12)))))))))))))))) := rfl
def zX12_init_1057 (x0 : Nat) (s0 : Nat) (hh : dT) : Option dT := n_chk (!decide ((128 : Int32) < 0) && Nat.ble ((128 : Int32).toNatClampNeg * 4) 536870912) (z_cal hh 14 (128 : Int32).toNatClampNeg (fun a1 h2 => n_chk (Nat.beq (y_k h2 s0) 12) (z_cR h2 s0 40 a1 (fun h3 => n_chk (!decide ((24 : Int32) < 0) && Nat.ble ((24 : Int32).toNatClampNeg * 4) 536870912) (z_cal h3 14 (24 : Int32).toNatClampNeg (fun a4 h5 => n_chk (Nat.beq (y_k h5 x0) 12) (z_cR h5 x0 42 a4 (fun h6 => n_chk (!decide ((12 : Int32) < 0) && Nat.ble ((12 : Int32).toNatClampNeg * 4) 536870912) (z_cal h6 14 (12 : Int32).toNatClampNeg (fun a7 h8 => n_chk (Nat.beq (y_k h8 x0) 12) (z_cR h8 x0 43 a7 (fun h9 => n_chk (!decide ((11 : Int32) < 0) && Nat.ble ((11 : Int32).toNatClampNeg * 4) 536870912) (z_cal h9 14 (11 : Int32).toNatClampNeg (fun a10 h11 => n_chk (Nat.beq (y_k h11 x0) 12) (z_cR h11 x0 44 a10 (fun h12 => zX12_init_1089 x0 h12))))))))))))))))
theorem sX12_init_1057 {N : Nat} {x0 : Nat} {s0 : Nat} {hh : nH} {t : dT} (hN : 1000 ≤ N) (Q_hh : y_Q hh t) : y_S (fX12_init_1057 x0 s0 hh) (zX12_init_1057 x0 s0 t) := by
  rw [vyX12_init_1057]
  unfold zX12_init_1057
  refine y_chk (fun z => z) ?_
  refine y_lal Q_hh (fun h2 Q_h2 => ?_)
  refine y_kd Q_h2 ?_
  refine y_lR Q_h2 (fun h3 Q_h3 => ?_)
  refine y_chk (fun z => z) ?_
  refine y_lal Q_h3 (fun h5 Q_h5 => ?_)
  refine y_kd Q_h5 ?_
  refine y_lR Q_h5 (fun h6 Q_h6 => ?_)
  refine y_chk (fun z => z) ?_
  refine y_lal Q_h6 (fun h8 Q_h8 => ?_)
  refine y_kd Q_h8 ?_
  refine y_lR Q_h8 (fun h9 Q_h9 => ?_)
  refine y_chk (fun z => z) ?_
  refine y_lal Q_h9 (fun h11 Q_h11 => ?_)
  refine y_kd Q_h11 ?_
  refine y_lR Q_h11 (fun h12 Q_h12 => ?_)
  exact sX12_init_1089 hN Q_h12
theorem vyX12_init_1026 (x0 : Nat) (s0 : Nat) (hh : nH) : fX12_init_1026 x0 s0 hh = n_chk (!decide ((1200 : Int32) < 0) && Nat.ble ((1200 : Int32).toNatClampNeg * 4) 536870912) (y_cal hh 14 (1200 : Int32).toNatClampNeg (fun a1 h2 => n_chk (Nat.beq (n_kd h2.1 s0) 12) (y_cR h2 s0 27 a1 (fun h3 => n_chk (!decide ((40 : Int32) < 0) && Nat.ble ((40 : Int32).toNatClampNeg * 4) 536870912) (y_cal h3 14 (40 : Int32).toNatClampNeg (fun a4 h5 => n_chk (Nat.beq (n_kd h5.1 x0) 12) (y_cR h5 x0 31 a4 (fun h6 => n_chk (Nat.beq (n_kd h6.1 x0) 12) (y_cu h6 x0 36 (-1 : Int32) (fun h7 => n_chk (!decide ((128 : Int32) < 0) && Nat.ble ((128 : Int32).toNatClampNeg * 4) 536870912) (y_cal h7 14 (128 : Int32).toNatClampNeg (fun a8 h9 => n_chk (Nat.beq (n_kd h9.1 x0) 12) (y_cR h9 x0 38 a8 (fun h10 => fX12_init_1057 x0 x0 h10)))))))))))))) := rfl
def zX12_init_1026 (x0 : Nat) (s0 : Nat) (hh : dT) : Option dT := n_chk (!decide ((1200 : Int32) < 0) && Nat.ble ((1200 : Int32).toNatClampNeg * 4) 536870912) (z_cal hh 14 (1200 : Int32).toNatClampNeg (fun a1 h2 => n_chk (Nat.beq (y_k h2 s0) 12) (z_cR h2 s0 27 a1 (fun h3 => n_chk (!decide ((40 : Int32) < 0) && Nat.ble ((40 : Int32).toNatClampNeg * 4) 536870912) (z_cal h3 14 (40 : Int32).toNatClampNeg (fun a4 h5 => n_chk (Nat.beq (y_k h5 x0) 12) (z_cR h5 x0 31 a4 (fun h6 => n_chk (Nat.beq (y_k h6 x0) 12) (z_cu h6 x0 36 (-1 : Int32) (fun h7 => n_chk (!decide ((128 : Int32) < 0) && Nat.ble ((128 : Int32).toNatClampNeg * 4) 536870912) (z_cal h7 14 (128 : Int32).toNatClampNeg (fun a8 h9 => n_chk (Nat.beq (y_k h9 x0) 12) (z_cR h9 x0 38 a8 (fun h10 => zX12_init_1057 x0 x0 h10))))))))))))))
theorem sX12_init_1026 {N : Nat} {x0 : Nat} {s0 : Nat} {hh : nH} {t : dT} (hN : 1000 ≤ N) (Q_hh : y_Q hh t) : y_S (fX12_init_1026 x0 s0 hh) (zX12_init_1026 x0 s0 t) := by
  rw [vyX12_init_1026]
  unfold zX12_init_1026
  refine y_chk (fun z => z) ?_
  refine y_lal Q_hh (fun h2 Q_h2 => ?_)
  refine y_kd Q_h2 ?_
  refine y_lR Q_h2 (fun h3 Q_h3 => ?_)
  refine y_chk (fun z => z) ?_
  refine y_lal Q_h3 (fun h5 Q_h5 => ?_)
  refine y_kd Q_h5 ?_
  refine y_lR Q_h5 (fun h6 Q_h6 => ?_)
  refine y_kd Q_h6 ?_
  refine y_lu Q_h6 (fun h7 Q_h7 => ?_)
  refine y_chk (fun z => z) ?_
  refine y_lal Q_h7 (fun h9 Q_h9 => ?_)
  refine y_kd Q_h9 ?_
  refine y_lR Q_h9 (fun h10 Q_h10 => ?_)
  exact sX12_init_1057 hN Q_h10
theorem vyX12_init_995 (x0 : Nat) (s0 : Int32) (s1 : Nat) (hh : nH) : fX12_init_995 x0 s0 s1 hh = n_chk (!decide (s0 < 0) && Nat.ble (s0.toNatClampNeg * 4) 536870912) (y_cal hh 14 s0.toNatClampNeg (fun a1 h2 => n_chk (Nat.beq (n_kd h2.1 s1) 12) (y_cR h2 s1 23 a1 (fun h3 => n_chk (!decide ((48 : Int32) < 0) && Nat.ble ((48 : Int32).toNatClampNeg * 4) 536870912) (y_cal h3 14 (48 : Int32).toNatClampNeg (fun a4 h5 => n_chk (Nat.beq (n_kd h5.1 x0) 12) (y_cR h5 x0 24 a4 (fun h6 => n_chk (!decide ((48 : Int32) < 0) && Nat.ble ((48 : Int32).toNatClampNeg * 4) 536870912) (y_cal h6 14 (48 : Int32).toNatClampNeg (fun a7 h8 => n_chk (Nat.beq (n_kd h8.1 x0) 12) (y_cR h8 x0 25 a7 (fun h9 => n_chk (!decide ((1200 : Int32) < 0) && Nat.ble ((1200 : Int32).toNatClampNeg * 4) 536870912) (y_cal h9 14 (1200 : Int32).toNatClampNeg (fun a10 h11 => n_chk (Nat.beq (n_kd h11.1 x0) 12) (y_cR h11 x0 26 a10 (fun h12 => fX12_init_1026 x0 x0 h12)))))))))))))))) := rfl
def zX12_init_995 (x0 : Nat) (s0 : Int32) (s1 : Nat) (hh : dT) : Option dT := n_chk (!decide (s0 < 0) && Nat.ble (s0.toNatClampNeg * 4) 536870912) (z_cal hh 14 s0.toNatClampNeg (fun a1 h2 => n_chk (Nat.beq (y_k h2 s1) 12) (z_cR h2 s1 23 a1 (fun h3 => n_chk (!decide ((48 : Int32) < 0) && Nat.ble ((48 : Int32).toNatClampNeg * 4) 536870912) (z_cal h3 14 (48 : Int32).toNatClampNeg (fun a4 h5 => n_chk (Nat.beq (y_k h5 x0) 12) (z_cR h5 x0 24 a4 (fun h6 => n_chk (!decide ((48 : Int32) < 0) && Nat.ble ((48 : Int32).toNatClampNeg * 4) 536870912) (z_cal h6 14 (48 : Int32).toNatClampNeg (fun a7 h8 => n_chk (Nat.beq (y_k h8 x0) 12) (z_cR h8 x0 25 a7 (fun h9 => n_chk (!decide ((1200 : Int32) < 0) && Nat.ble ((1200 : Int32).toNatClampNeg * 4) 536870912) (z_cal h9 14 (1200 : Int32).toNatClampNeg (fun a10 h11 => n_chk (Nat.beq (y_k h11 x0) 12) (z_cR h11 x0 26 a10 (fun h12 => zX12_init_1026 x0 x0 h12))))))))))))))))
theorem sX12_init_995 {N : Nat} {x0 : Nat} {s0 : Int32} {s1 : Nat} {hh : nH} {t : dT} (hN : 1000 ≤ N) (Q_hh : y_Q hh t) : y_S (fX12_init_995 x0 s0 s1 hh) (zX12_init_995 x0 s0 s1 t) := by
  rw [vyX12_init_995]
  unfold zX12_init_995
  refine y_chk (fun z => z) ?_
  refine y_lal Q_hh (fun h2 Q_h2 => ?_)
  refine y_kd Q_h2 ?_
  refine y_lR Q_h2 (fun h3 Q_h3 => ?_)
  refine y_chk (fun z => z) ?_
  refine y_lal Q_h3 (fun h5 Q_h5 => ?_)
  refine y_kd Q_h5 ?_
  refine y_lR Q_h5 (fun h6 Q_h6 => ?_)
  refine y_chk (fun z => z) ?_
  refine y_lal Q_h6 (fun h8 Q_h8 => ?_)
  refine y_kd Q_h8 ?_
  refine y_lR Q_h8 (fun h9 Q_h9 => ?_)
  refine y_chk (fun z => z) ?_
  refine y_lal Q_h9 (fun h11 Q_h11 => ?_)
  refine y_kd Q_h11 ?_
  refine y_lR Q_h11 (fun h12 Q_h12 => ?_)
  exact sX12_init_1026 hN Q_h12
theorem vyX12_init_967 (x0 : Nat) (s0 : Nat) (s1 : Nat) (hh : nH) : fX12_init_967 x0 s0 s1 hh = n_chk (n_in hh.1 14 s0 (144 : Int32)) (y_cu hh s0 (144 : Int32).toNatClampNeg (32 : Int32) (fun h1 => n_chk (Nat.beq (n_kd h1.1 s1) 12) (y_cR h1 s1 20 s0 (fun h2 => n_chk (!decide ((2 : Int32) < 0) && Nat.ble ((2 : Int32).toNatClampNeg * 4) 536870912) (y_cal h2 14 (2 : Int32).toNatClampNeg (fun a3 h4 => n_chk (Nat.beq (n_kd h4.1 x0) 12) (y_cR h4 x0 21 a3 (fun h5 => n_chk (!decide ((48 : Int32) < 0) && Nat.ble ((48 : Int32).toNatClampNeg * 4) 536870912) (y_cal h5 14 (48 : Int32).toNatClampNeg (fun a6 h7 => n_chk (Nat.beq (n_kd h7.1 x0) 12) (y_cR h7 x0 22 a6 (fun h8 => fX12_init_995 x0 (48 : Int32) x0 h8)))))))))))) := rfl
def zX12_init_967 (x0 : Nat) (s0 : Nat) (s1 : Nat) (hh : dT) : Option dT := n_chk (y_in hh 14 s0 (144 : Int32)) (z_cu hh s0 (144 : Int32).toNatClampNeg (32 : Int32) (fun h1 => n_chk (Nat.beq (y_k h1 s1) 12) (z_cR h1 s1 20 s0 (fun h2 => n_chk (!decide ((2 : Int32) < 0) && Nat.ble ((2 : Int32).toNatClampNeg * 4) 536870912) (z_cal h2 14 (2 : Int32).toNatClampNeg (fun a3 h4 => n_chk (Nat.beq (y_k h4 x0) 12) (z_cR h4 x0 21 a3 (fun h5 => n_chk (!decide ((48 : Int32) < 0) && Nat.ble ((48 : Int32).toNatClampNeg * 4) 536870912) (z_cal h5 14 (48 : Int32).toNatClampNeg (fun a6 h7 => n_chk (Nat.beq (y_k h7 x0) 12) (z_cR h7 x0 22 a6 (fun h8 => zX12_init_995 x0 (48 : Int32) x0 h8))))))))))))
theorem sX12_init_967 {N : Nat} {x0 : Nat} {s0 : Nat} {s1 : Nat} {hh : nH} {t : dT} (hN : 1000 ≤ N) (Q_hh : y_Q hh t) : y_S (fX12_init_967 x0 s0 s1 hh) (zX12_init_967 x0 s0 s1 t) := by
  rw [vyX12_init_967]
  unfold zX12_init_967
  refine y_lin Q_hh ?_
  refine y_lu Q_hh (fun h1 Q_h1 => ?_)
  refine y_kd Q_h1 ?_
  refine y_lR Q_h1 (fun h2 Q_h2 => ?_)
  refine y_chk (fun z => z) ?_
  refine y_lal Q_h2 (fun h4 Q_h4 => ?_)
  refine y_kd Q_h4 ?_
  refine y_lR Q_h4 (fun h5 Q_h5 => ?_)
  refine y_chk (fun z => z) ?_
  refine y_lal Q_h5 (fun h7 Q_h7 => ?_)
  refine y_kd Q_h7 ?_
  refine y_lR Q_h7 (fun h8 Q_h8 => ?_)
  exact sX12_init_995 hN Q_h8
theorem vyX12_init_939 (x0 : Nat) (s0 : Nat) (s1 : Nat) (hh : nH) : fX12_init_939 x0 s0 s1 hh = n_chk (n_in hh.1 14 s0 (140 : Int32)) (y_cu hh s0 (140 : Int32).toNatClampNeg (100 : Int32) (fun h1 => n_chk (n_in h1.1 14 s0 (141 : Int32)) (y_cu h1 s0 (141 : Int32).toNatClampNeg (32 : Int32) (fun h2 => n_chk (n_in h2.1 14 s0 (142 : Int32)) (y_cu h2 s0 (142 : Int32).toNatClampNeg (111 : Int32) (fun h3 => n_chk (n_in h3.1 14 s0 (143 : Int32)) (y_cu h3 s0 (143 : Int32).toNatClampNeg (102 : Int32) (fun h4 => fX12_init_967 x0 s0 s1 h4)))))))) := rfl
def zX12_init_939 (x0 : Nat) (s0 : Nat) (s1 : Nat) (hh : dT) : Option dT := n_chk (y_in hh 14 s0 (140 : Int32)) (z_cu hh s0 (140 : Int32).toNatClampNeg (100 : Int32) (fun h1 => n_chk (y_in h1 14 s0 (141 : Int32)) (z_cu h1 s0 (141 : Int32).toNatClampNeg (32 : Int32) (fun h2 => n_chk (y_in h2 14 s0 (142 : Int32)) (z_cu h2 s0 (142 : Int32).toNatClampNeg (111 : Int32) (fun h3 => n_chk (y_in h3 14 s0 (143 : Int32)) (z_cu h3 s0 (143 : Int32).toNatClampNeg (102 : Int32) (fun h4 => zX12_init_967 x0 s0 s1 h4))))))))
theorem sX12_init_939 {N : Nat} {x0 : Nat} {s0 : Nat} {s1 : Nat} {hh : nH} {t : dT} (hN : 1000 ≤ N) (Q_hh : y_Q hh t) : y_S (fX12_init_939 x0 s0 s1 hh) (zX12_init_939 x0 s0 s1 t) := by
  rw [vyX12_init_939]
  unfold zX12_init_939
  refine y_lin Q_hh ?_
  refine y_lu Q_hh (fun h1 Q_h1 => ?_)
  refine y_lin Q_h1 ?_
  refine y_lu Q_h1 (fun h2 Q_h2 => ?_)
  refine y_lin Q_h2 ?_
  refine y_lu Q_h2 (fun h3 Q_h3 => ?_)
  refine y_lin Q_h3 ?_
  refine y_lu Q_h3 (fun h4 Q_h4 => ?_)
  exact sX12_init_967 hN Q_h4
theorem vyX12_init_911 (x0 : Nat) (s0 : Nat) (s1 : Nat) (hh : nH) : fX12_init_911 x0 s0 s1 hh = n_chk (n_in hh.1 14 s0 (136 : Int32)) (y_cu hh s0 (136 : Int32).toNatClampNeg (99 : Int32) (fun h1 => n_chk (n_in h1.1 14 s0 (137 : Int32)) (y_cu h1 s0 (137 : Int32).toNatClampNeg (104 : Int32) (fun h2 => n_chk (n_in h2.1 14 s0 (138 : Int32)) (y_cu h2 s0 (138 : Int32).toNatClampNeg (105 : Int32) (fun h3 => n_chk (n_in h3.1 14 s0 (139 : Int32)) (y_cu h3 s0 (139 : Int32).toNatClampNeg (108 : Int32) (fun h4 => fX12_init_939 x0 s0 s1 h4)))))))) := rfl
def zX12_init_911 (x0 : Nat) (s0 : Nat) (s1 : Nat) (hh : dT) : Option dT := n_chk (y_in hh 14 s0 (136 : Int32)) (z_cu hh s0 (136 : Int32).toNatClampNeg (99 : Int32) (fun h1 => n_chk (y_in h1 14 s0 (137 : Int32)) (z_cu h1 s0 (137 : Int32).toNatClampNeg (104 : Int32) (fun h2 => n_chk (y_in h2 14 s0 (138 : Int32)) (z_cu h2 s0 (138 : Int32).toNatClampNeg (105 : Int32) (fun h3 => n_chk (y_in h3 14 s0 (139 : Int32)) (z_cu h3 s0 (139 : Int32).toNatClampNeg (108 : Int32) (fun h4 => zX12_init_939 x0 s0 s1 h4))))))))
theorem sX12_init_911 {N : Nat} {x0 : Nat} {s0 : Nat} {s1 : Nat} {hh : nH} {t : dT} (hN : 1000 ≤ N) (Q_hh : y_Q hh t) : y_S (fX12_init_911 x0 s0 s1 hh) (zX12_init_911 x0 s0 s1 t) := by
  rw [vyX12_init_911]
  unfold zX12_init_911
  refine y_lin Q_hh ?_
  refine y_lu Q_hh (fun h1 Q_h1 => ?_)
  refine y_lin Q_h1 ?_
  refine y_lu Q_h1 (fun h2 Q_h2 => ?_)
  refine y_lin Q_h2 ?_
  refine y_lu Q_h2 (fun h3 Q_h3 => ?_)
  refine y_lin Q_h3 ?_
  refine y_lu Q_h3 (fun h4 Q_h4 => ?_)
  exact sX12_init_939 hN Q_h4
theorem vyX12_init_883 (x0 : Nat) (s0 : Nat) (s1 : Nat) (hh : nH) : fX12_init_883 x0 s0 s1 hh = n_chk (n_in hh.1 14 s0 (132 : Int32)) (y_cu hh s0 (132 : Int32).toNatClampNeg (114 : Int32) (fun h1 => n_chk (n_in h1.1 14 s0 (133 : Int32)) (y_cu h1 s0 (133 : Int32).toNatClampNeg (99 : Int32) (fun h2 => n_chk (n_in h2.1 14 s0 (134 : Int32)) (y_cu h2 s0 (134 : Int32).toNatClampNeg (104 : Int32) (fun h3 => n_chk (n_in h3.1 14 s0 (135 : Int32)) (y_cu h3 s0 (135 : Int32).toNatClampNeg (32 : Int32) (fun h4 => fX12_init_911 x0 s0 s1 h4)))))))) := rfl
def zX12_init_883 (x0 : Nat) (s0 : Nat) (s1 : Nat) (hh : dT) : Option dT := n_chk (y_in hh 14 s0 (132 : Int32)) (z_cu hh s0 (132 : Int32).toNatClampNeg (114 : Int32) (fun h1 => n_chk (y_in h1 14 s0 (133 : Int32)) (z_cu h1 s0 (133 : Int32).toNatClampNeg (99 : Int32) (fun h2 => n_chk (y_in h2 14 s0 (134 : Int32)) (z_cu h2 s0 (134 : Int32).toNatClampNeg (104 : Int32) (fun h3 => n_chk (y_in h3 14 s0 (135 : Int32)) (z_cu h3 s0 (135 : Int32).toNatClampNeg (32 : Int32) (fun h4 => zX12_init_911 x0 s0 s1 h4))))))))
theorem sX12_init_883 {N : Nat} {x0 : Nat} {s0 : Nat} {s1 : Nat} {hh : nH} {t : dT} (hN : 1000 ≤ N) (Q_hh : y_Q hh t) : y_S (fX12_init_883 x0 s0 s1 hh) (zX12_init_883 x0 s0 s1 t) := by
  rw [vyX12_init_883]
  unfold zX12_init_883
  refine y_lin Q_hh ?_
  refine y_lu Q_hh (fun h1 Q_h1 => ?_)
  refine y_lin Q_h1 ?_
  refine y_lu Q_h1 (fun h2 Q_h2 => ?_)
  refine y_lin Q_h2 ?_
  refine y_lu Q_h2 (fun h3 Q_h3 => ?_)
  refine y_lin Q_h3 ?_
  refine y_lu Q_h3 (fun h4 Q_h4 => ?_)
  exact sX12_init_911 hN Q_h4
theorem vyX12_init_855 (x0 : Nat) (s0 : Nat) (s1 : Nat) (hh : nH) : fX12_init_855 x0 s0 s1 hh = n_chk (n_in hh.1 14 s0 (128 : Int32)) (y_cu hh s0 (128 : Int32).toNatClampNeg (32 : Int32) (fun h1 => n_chk (n_in h1.1 14 s0 (129 : Int32)) (y_cu h1 s0 (129 : Int32).toNatClampNeg (115 : Int32) (fun h2 => n_chk (n_in h2.1 14 s0 (130 : Int32)) (y_cu h2 s0 (130 : Int32).toNatClampNeg (101 : Int32) (fun h3 => n_chk (n_in h3.1 14 s0 (131 : Int32)) (y_cu h3 s0 (131 : Int32).toNatClampNeg (97 : Int32) (fun h4 => fX12_init_883 x0 s0 s1 h4)))))))) := rfl
def zX12_init_855 (x0 : Nat) (s0 : Nat) (s1 : Nat) (hh : dT) : Option dT := n_chk (y_in hh 14 s0 (128 : Int32)) (z_cu hh s0 (128 : Int32).toNatClampNeg (32 : Int32) (fun h1 => n_chk (y_in h1 14 s0 (129 : Int32)) (z_cu h1 s0 (129 : Int32).toNatClampNeg (115 : Int32) (fun h2 => n_chk (y_in h2 14 s0 (130 : Int32)) (z_cu h2 s0 (130 : Int32).toNatClampNeg (101 : Int32) (fun h3 => n_chk (y_in h3 14 s0 (131 : Int32)) (z_cu h3 s0 (131 : Int32).toNatClampNeg (97 : Int32) (fun h4 => zX12_init_883 x0 s0 s1 h4))))))))
theorem sX12_init_855 {N : Nat} {x0 : Nat} {s0 : Nat} {s1 : Nat} {hh : nH} {t : dT} (hN : 1000 ≤ N) (Q_hh : y_Q hh t) : y_S (fX12_init_855 x0 s0 s1 hh) (zX12_init_855 x0 s0 s1 t) := by
  rw [vyX12_init_855]
  unfold zX12_init_855
  refine y_lin Q_hh ?_
  refine y_lu Q_hh (fun h1 Q_h1 => ?_)
  refine y_lin Q_h1 ?_
  refine y_lu Q_h1 (fun h2 Q_h2 => ?_)
  refine y_lin Q_h2 ?_
  refine y_lu Q_h2 (fun h3 Q_h3 => ?_)
  refine y_lin Q_h3 ?_
  refine y_lu Q_h3 (fun h4 Q_h4 => ?_)
  exact sX12_init_883 hN Q_h4
theorem vyX12_init_831 (x0 : Nat) (s0 : Nat) (s1 : Nat) (hh : nH) : fX12_init_831 x0 s0 s1 hh = n_chk (n_in hh.1 14 s0 (124 : Int32)) (y_cu hh s0 (124 : Int32).toNatClampNeg (111 : Int32) (fun h1 => n_chk (n_in h1.1 14 s0 (125 : Int32)) (y_cu h1 s0 (125 : Int32).toNatClampNeg (112 : Int32) (fun h2 => n_chk (n_in h2.1 14 s0 (126 : Int32)) (y_cu h2 s0 (126 : Int32).toNatClampNeg (101 : Int32) (fun h3 => n_chk (n_in h3.1 14 s0 (127 : Int32)) (y_cu h3 s0 (127 : Int32).toNatClampNeg (110 : Int32) (fun h4 => fX12_init_855 x0 s0 s1 h4)))))))) := rfl
def zX12_init_831 (x0 : Nat) (s0 : Nat) (s1 : Nat) (hh : dT) : Option dT := n_chk (y_in hh 14 s0 (124 : Int32)) (z_cu hh s0 (124 : Int32).toNatClampNeg (111 : Int32) (fun h1 => n_chk (y_in h1 14 s0 (125 : Int32)) (z_cu h1 s0 (125 : Int32).toNatClampNeg (112 : Int32) (fun h2 => n_chk (y_in h2 14 s0 (126 : Int32)) (z_cu h2 s0 (126 : Int32).toNatClampNeg (101 : Int32) (fun h3 => n_chk (y_in h3 14 s0 (127 : Int32)) (z_cu h3 s0 (127 : Int32).toNatClampNeg (110 : Int32) (fun h4 => zX12_init_855 x0 s0 s1 h4))))))))
theorem sX12_init_831 {N : Nat} {x0 : Nat} {s0 : Nat} {s1 : Nat} {hh : nH} {t : dT} (hN : 1000 ≤ N) (Q_hh : y_Q hh t) : y_S (fX12_init_831 x0 s0 s1 hh) (zX12_init_831 x0 s0 s1 t) := by
  rw [vyX12_init_831]
  unfold zX12_init_831
  refine y_lin Q_hh ?_
  refine y_lu Q_hh (fun h1 Q_h1 => ?_)
  refine y_lin Q_h1 ?_
  refine y_lu Q_h1 (fun h2 Q_h2 => ?_)
  refine y_lin Q_h2 ?_
  refine y_lu Q_h2 (fun h3 Q_h3 => ?_)
  refine y_lin Q_h3 ?_
  refine y_lu Q_h3 (fun h4 Q_h4 => ?_)
  exact sX12_init_855 hN Q_h4
theorem vyX12_init_807 (x0 : Nat) (s0 : Nat) (s1 : Nat) (hh : nH) : fX12_init_807 x0 s0 s1 hh = n_chk (n_in hh.1 14 s0 (120 : Int32)) (y_cu hh s0 (120 : Int32).toNatClampNeg (111 : Int32) (fun h1 => n_chk (n_in h1.1 14 s0 (121 : Int32)) (y_cu h1 s0 (121 : Int32).toNatClampNeg (115 : Int32) (fun h2 => n_chk (n_in h2.1 14 s0 (122 : Int32)) (y_cu h2 s0 (122 : Int32).toNatClampNeg (101 : Int32) (fun h3 => n_chk (n_in h3.1 14 s0 (123 : Int32)) (y_cu h3 s0 (123 : Int32).toNatClampNeg (32 : Int32) (fun h4 => fX12_init_831 x0 s0 s1 h4)))))))) := rfl
def zX12_init_807 (x0 : Nat) (s0 : Nat) (s1 : Nat) (hh : dT) : Option dT := n_chk (y_in hh 14 s0 (120 : Int32)) (z_cu hh s0 (120 : Int32).toNatClampNeg (111 : Int32) (fun h1 => n_chk (y_in h1 14 s0 (121 : Int32)) (z_cu h1 s0 (121 : Int32).toNatClampNeg (115 : Int32) (fun h2 => n_chk (y_in h2 14 s0 (122 : Int32)) (z_cu h2 s0 (122 : Int32).toNatClampNeg (101 : Int32) (fun h3 => n_chk (y_in h3 14 s0 (123 : Int32)) (z_cu h3 s0 (123 : Int32).toNatClampNeg (32 : Int32) (fun h4 => zX12_init_831 x0 s0 s1 h4))))))))
theorem sX12_init_807 {N : Nat} {x0 : Nat} {s0 : Nat} {s1 : Nat} {hh : nH} {t : dT} (hN : 1000 ≤ N) (Q_hh : y_Q hh t) : y_S (fX12_init_807 x0 s0 s1 hh) (zX12_init_807 x0 s0 s1 t) := by
  rw [vyX12_init_807]
  unfold zX12_init_807
  refine y_lin Q_hh ?_
  refine y_lu Q_hh (fun h1 Q_h1 => ?_)
  refine y_lin Q_h1 ?_
  refine y_lu Q_h1 (fun h2 Q_h2 => ?_)
  refine y_lin Q_h2 ?_
  refine y_lu Q_h2 (fun h3 Q_h3 => ?_)
  refine y_lin Q_h3 ?_
  refine y_lu Q_h3 (fun h4 Q_h4 => ?_)
  exact sX12_init_831 hN Q_h4
theorem vyX12_init_783 (x0 : Nat) (s0 : Nat) (s1 : Nat) (hh : nH) : fX12_init_783 x0 s0 s1 hh = n_chk (n_in hh.1 14 s0 (116 : Int32)) (y_cu hh s0 (116 : Int32).toNatClampNeg (101 : Int32) (fun h1 => n_chk (n_in h1.1 14 s0 (117 : Int32)) (y_cu h1 s0 (117 : Int32).toNatClampNeg (32 : Int32) (fun h2 => n_chk (n_in h2.1 14 s0 (118 : Int32)) (y_cu h2 s0 (118 : Int32).toNatClampNeg (108 : Int32) (fun h3 => n_chk (n_in h3.1 14 s0 (119 : Int32)) (y_cu h3 s0 (119 : Int32).toNatClampNeg (111 : Int32) (fun h4 => fX12_init_807 x0 s0 s1 h4)))))))) := rfl
def zX12_init_783 (x0 : Nat) (s0 : Nat) (s1 : Nat) (hh : dT) : Option dT := n_chk (y_in hh 14 s0 (116 : Int32)) (z_cu hh s0 (116 : Int32).toNatClampNeg (101 : Int32) (fun h1 => n_chk (y_in h1 14 s0 (117 : Int32)) (z_cu h1 s0 (117 : Int32).toNatClampNeg (32 : Int32) (fun h2 => n_chk (y_in h2 14 s0 (118 : Int32)) (z_cu h2 s0 (118 : Int32).toNatClampNeg (108 : Int32) (fun h3 => n_chk (y_in h3 14 s0 (119 : Int32)) (z_cu h3 s0 (119 : Int32).toNatClampNeg (111 : Int32) (fun h4 => zX12_init_807 x0 s0 s1 h4))))))))
theorem sX12_init_783 {N : Nat} {x0 : Nat} {s0 : Nat} {s1 : Nat} {hh : nH} {t : dT} (hN : 1000 ≤ N) (Q_hh : y_Q hh t) : y_S (fX12_init_783 x0 s0 s1 hh) (zX12_init_783 x0 s0 s1 t) := by
  rw [vyX12_init_783]
  unfold zX12_init_783
  refine y_lin Q_hh ?_
  refine y_lu Q_hh (fun h1 Q_h1 => ?_)
  refine y_lin Q_h1 ?_
  refine y_lu Q_h1 (fun h2 Q_h2 => ?_)
  refine y_lin Q_h2 ?_
  refine y_lu Q_h2 (fun h3 Q_h3 => ?_)
  refine y_lin Q_h3 ?_
  refine y_lu Q_h3 (fun h4 Q_h4 => ?_)
  exact sX12_init_807 hN Q_h4
theorem vyX12_init_759 (x0 : Nat) (s0 : Nat) (s1 : Nat) (hh : nH) : fX12_init_759 x0 s0 s1 hh = n_chk (n_in hh.1 14 s0 (112 : Int32)) (y_cu hh s0 (112 : Int32).toNatClampNeg (110 : Int32) (fun h1 => n_chk (n_in h1.1 14 s0 (113 : Int32)) (y_cu h1 s0 (113 : Int32).toNatClampNeg (32 : Int32) (fun h2 => n_chk (n_in h2.1 14 s0 (114 : Int32)) (y_cu h2 s0 (114 : Int32).toNatClampNeg (116 : Int32) (fun h3 => n_chk (n_in h3.1 14 s0 (115 : Int32)) (y_cu h3 s0 (115 : Int32).toNatClampNeg (105 : Int32) (fun h4 => fX12_init_783 x0 s0 s1 h4)))))))) := rfl
def zX12_init_759 (x0 : Nat) (s0 : Nat) (s1 : Nat) (hh : dT) : Option dT := n_chk (y_in hh 14 s0 (112 : Int32)) (z_cu hh s0 (112 : Int32).toNatClampNeg (110 : Int32) (fun h1 => n_chk (y_in h1 14 s0 (113 : Int32)) (z_cu h1 s0 (113 : Int32).toNatClampNeg (32 : Int32) (fun h2 => n_chk (y_in h2 14 s0 (114 : Int32)) (z_cu h2 s0 (114 : Int32).toNatClampNeg (116 : Int32) (fun h3 => n_chk (y_in h3 14 s0 (115 : Int32)) (z_cu h3 s0 (115 : Int32).toNatClampNeg (105 : Int32) (fun h4 => zX12_init_783 x0 s0 s1 h4))))))))
theorem sX12_init_759 {N : Nat} {x0 : Nat} {s0 : Nat} {s1 : Nat} {hh : nH} {t : dT} (hN : 1000 ≤ N) (Q_hh : y_Q hh t) : y_S (fX12_init_759 x0 s0 s1 hh) (zX12_init_759 x0 s0 s1 t) := by
  rw [vyX12_init_759]
  unfold zX12_init_759
  refine y_lin Q_hh ?_
  refine y_lu Q_hh (fun h1 Q_h1 => ?_)
  refine y_lin Q_h1 ?_
  refine y_lu Q_h1 (fun h2 Q_h2 => ?_)
  refine y_lin Q_h2 ?_
  refine y_lu Q_h2 (fun h3 Q_h3 => ?_)
  refine y_lin Q_h3 ?_
  refine y_lu Q_h3 (fun h4 Q_h4 => ?_)
  exact sX12_init_783 hN Q_h4
theorem vyX12_init_735 (x0 : Nat) (s0 : Nat) (s1 : Nat) (hh : nH) : fX12_init_735 x0 s0 s1 hh = n_chk (n_in hh.1 14 s0 (108 : Int32)) (y_cu hh s0 (108 : Int32).toNatClampNeg (116 : Int32) (fun h1 => n_chk (n_in h1.1 14 s0 (109 : Int32)) (y_cu h1 s0 (109 : Int32).toNatClampNeg (115 : Int32) (fun h2 => n_chk (n_in h2.1 14 s0 (110 : Int32)) (y_cu h2 s0 (110 : Int32).toNatClampNeg (32 : Int32) (fun h3 => n_chk (n_in h3.1 14 s0 (111 : Int32)) (y_cu h3 s0 (111 : Int32).toNatClampNeg (105 : Int32) (fun h4 => fX12_init_759 x0 s0 s1 h4)))))))) := rfl
def zX12_init_735 (x0 : Nat) (s0 : Nat) (s1 : Nat) (hh : dT) : Option dT := n_chk (y_in hh 14 s0 (108 : Int32)) (z_cu hh s0 (108 : Int32).toNatClampNeg (116 : Int32) (fun h1 => n_chk (y_in h1 14 s0 (109 : Int32)) (z_cu h1 s0 (109 : Int32).toNatClampNeg (115 : Int32) (fun h2 => n_chk (y_in h2 14 s0 (110 : Int32)) (z_cu h2 s0 (110 : Int32).toNatClampNeg (32 : Int32) (fun h3 => n_chk (y_in h3 14 s0 (111 : Int32)) (z_cu h3 s0 (111 : Int32).toNatClampNeg (105 : Int32) (fun h4 => zX12_init_759 x0 s0 s1 h4))))))))
theorem sX12_init_735 {N : Nat} {x0 : Nat} {s0 : Nat} {s1 : Nat} {hh : nH} {t : dT} (hN : 1000 ≤ N) (Q_hh : y_Q hh t) : y_S (fX12_init_735 x0 s0 s1 hh) (zX12_init_735 x0 s0 s1 t) := by
  rw [vyX12_init_735]
  unfold zX12_init_735
  refine y_lin Q_hh ?_
  refine y_lu Q_hh (fun h1 Q_h1 => ?_)
  refine y_lin Q_h1 ?_
  refine y_lu Q_h1 (fun h2 Q_h2 => ?_)
  refine y_lin Q_h2 ?_
  refine y_lu Q_h2 (fun h3 Q_h3 => ?_)
  refine y_lin Q_h3 ?_
  refine y_lu Q_h3 (fun h4 Q_h4 => ?_)
  exact sX12_init_759 hN Q_h4
theorem vyX12_init_711 (x0 : Nat) (s0 : Nat) (s1 : Nat) (hh : nH) : fX12_init_711 x0 s0 s1 hh = n_chk (n_in hh.1 14 s0 (104 : Int32)) (y_cu hh s0 (104 : Int32).toNatClampNeg (110 : Int32) (fun h1 => n_chk (n_in h1.1 14 s0 (105 : Int32)) (y_cu h1 s0 (105 : Int32).toNatClampNeg (32 : Int32) (fun h2 => n_chk (n_in h2.1 14 s0 (106 : Int32)) (y_cu h2 s0 (106 : Int32).toNatClampNeg (112 : Int32) (fun h3 => n_chk (n_in h3.1 14 s0 (107 : Int32)) (y_cu h3 s0 (107 : Int32).toNatClampNeg (117 : Int32) (fun h4 => fX12_init_735 x0 s0 s1 h4)))))))) := rfl
def zX12_init_711 (x0 : Nat) (s0 : Nat) (s1 : Nat) (hh : dT) : Option dT := n_chk (y_in hh 14 s0 (104 : Int32)) (z_cu hh s0 (104 : Int32).toNatClampNeg (110 : Int32) (fun h1 => n_chk (y_in h1 14 s0 (105 : Int32)) (z_cu h1 s0 (105 : Int32).toNatClampNeg (32 : Int32) (fun h2 => n_chk (y_in h2 14 s0 (106 : Int32)) (z_cu h2 s0 (106 : Int32).toNatClampNeg (112 : Int32) (fun h3 => n_chk (y_in h3 14 s0 (107 : Int32)) (z_cu h3 s0 (107 : Int32).toNatClampNeg (117 : Int32) (fun h4 => zX12_init_735 x0 s0 s1 h4))))))))
theorem sX12_init_711 {N : Nat} {x0 : Nat} {s0 : Nat} {s1 : Nat} {hh : nH} {t : dT} (hN : 1000 ≤ N) (Q_hh : y_Q hh t) : y_S (fX12_init_711 x0 s0 s1 hh) (zX12_init_711 x0 s0 s1 t) := by
  rw [vyX12_init_711]
  unfold zX12_init_711
  refine y_lin Q_hh ?_
  refine y_lu Q_hh (fun h1 Q_h1 => ?_)
  refine y_lin Q_h1 ?_
  refine y_lu Q_h1 (fun h2 Q_h2 => ?_)
  refine y_lin Q_h2 ?_
  refine y_lu Q_h2 (fun h3 Q_h3 => ?_)
  refine y_lin Q_h3 ?_
  refine y_lu Q_h3 (fun h4 Q_h4 => ?_)
  exact sX12_init_735 hN Q_h4
theorem vyX12_init_687 (x0 : Nat) (s0 : Nat) (s1 : Nat) (hh : nH) : fX12_init_687 x0 s0 s1 hh = n_chk (n_in hh.1 14 s0 (100 : Int32)) (y_cu hh s0 (100 : Int32).toNatClampNeg (101 : Int32) (fun h1 => n_chk (n_in h1.1 14 s0 (101 : Int32)) (y_cu h1 s0 (101 : Int32).toNatClampNeg (114 : Int32) (fun h2 => n_chk (n_in h2.1 14 s0 (102 : Int32)) (y_cu h2 s0 (102 : Int32).toNatClampNeg (115 : Int32) (fun h3 => n_chk (n_in h3.1 14 s0 (103 : Int32)) (y_cu h3 s0 (103 : Int32).toNatClampNeg (111 : Int32) (fun h4 => fX12_init_711 x0 s0 s1 h4)))))))) := rfl
def zX12_init_687 (x0 : Nat) (s0 : Nat) (s1 : Nat) (hh : dT) : Option dT := n_chk (y_in hh 14 s0 (100 : Int32)) (z_cu hh s0 (100 : Int32).toNatClampNeg (101 : Int32) (fun h1 => n_chk (y_in h1 14 s0 (101 : Int32)) (z_cu h1 s0 (101 : Int32).toNatClampNeg (114 : Int32) (fun h2 => n_chk (y_in h2 14 s0 (102 : Int32)) (z_cu h2 s0 (102 : Int32).toNatClampNeg (115 : Int32) (fun h3 => n_chk (y_in h3 14 s0 (103 : Int32)) (z_cu h3 s0 (103 : Int32).toNatClampNeg (111 : Int32) (fun h4 => zX12_init_711 x0 s0 s1 h4))))))))
theorem sX12_init_687 {N : Nat} {x0 : Nat} {s0 : Nat} {s1 : Nat} {hh : nH} {t : dT} (hN : 1000 ≤ N) (Q_hh : y_Q hh t) : y_S (fX12_init_687 x0 s0 s1 hh) (zX12_init_687 x0 s0 s1 t) := by
  rw [vyX12_init_687]
  unfold zX12_init_687
  refine y_lin Q_hh ?_
  refine y_lu Q_hh (fun h1 Q_h1 => ?_)
  refine y_lin Q_h1 ?_
  refine y_lu Q_h1 (fun h2 Q_h2 => ?_)
  refine y_lin Q_h2 ?_
  refine y_lu Q_h2 (fun h3 Q_h3 => ?_)
  refine y_lin Q_h3 ?_
  refine y_lu Q_h3 (fun h4 Q_h4 => ?_)
  exact sX12_init_711 hN Q_h4
theorem vyX12_init_663 (x0 : Nat) (s0 : Nat) (s1 : Nat) (hh : nH) : fX12_init_663 x0 s0 s1 hh = n_chk (n_in hh.1 14 s0 (96 : Int32)) (y_cu hh s0 (96 : Int32).toNatClampNeg (97 : Int32) (fun h1 => n_chk (n_in h1.1 14 s0 (97 : Int32)) (y_cu h1 s0 (97 : Int32).toNatClampNeg (116 : Int32) (fun h2 => n_chk (n_in h2.1 14 s0 (98 : Int32)) (y_cu h2 s0 (98 : Int32).toNatClampNeg (32 : Int32) (fun h3 => n_chk (n_in h3.1 14 s0 (99 : Int32)) (y_cu h3 s0 (99 : Int32).toNatClampNeg (112 : Int32) (fun h4 => fX12_init_687 x0 s0 s1 h4)))))))) := rfl
def zX12_init_663 (x0 : Nat) (s0 : Nat) (s1 : Nat) (hh : dT) : Option dT := n_chk (y_in hh 14 s0 (96 : Int32)) (z_cu hh s0 (96 : Int32).toNatClampNeg (97 : Int32) (fun h1 => n_chk (y_in h1 14 s0 (97 : Int32)) (z_cu h1 s0 (97 : Int32).toNatClampNeg (116 : Int32) (fun h2 => n_chk (y_in h2 14 s0 (98 : Int32)) (z_cu h2 s0 (98 : Int32).toNatClampNeg (32 : Int32) (fun h3 => n_chk (y_in h3 14 s0 (99 : Int32)) (z_cu h3 s0 (99 : Int32).toNatClampNeg (112 : Int32) (fun h4 => zX12_init_687 x0 s0 s1 h4))))))))
theorem sX12_init_663 {N : Nat} {x0 : Nat} {s0 : Nat} {s1 : Nat} {hh : nH} {t : dT} (hN : 1000 ≤ N) (Q_hh : y_Q hh t) : y_S (fX12_init_663 x0 s0 s1 hh) (zX12_init_663 x0 s0 s1 t) := by
  rw [vyX12_init_663]
  unfold zX12_init_663
  refine y_lin Q_hh ?_
  refine y_lu Q_hh (fun h1 Q_h1 => ?_)
  refine y_lin Q_h1 ?_
  refine y_lu Q_h1 (fun h2 Q_h2 => ?_)
  refine y_lin Q_h2 ?_
  refine y_lu Q_h2 (fun h3 Q_h3 => ?_)
  refine y_lin Q_h3 ?_
  refine y_lu Q_h3 (fun h4 Q_h4 => ?_)
  exact sX12_init_687 hN Q_h4
theorem vyX12_init_639 (x0 : Nat) (s0 : Nat) (s1 : Nat) (hh : nH) : fX12_init_639 x0 s0 s1 hh = n_chk (n_in hh.1 14 s0 (92 : Int32)) (y_cu hh s0 (92 : Int32).toNatClampNeg (111 : Int32) (fun h1 => n_chk (n_in h1.1 14 s0 (93 : Int32)) (y_cu h1 s0 (93 : Int32).toNatClampNeg (117 : Int32) (fun h2 => n_chk (n_in h2.1 14 s0 (94 : Int32)) (y_cu h2 s0 (94 : Int32).toNatClampNeg (114 : Int32) (fun h3 => n_chk (n_in h3.1 14 s0 (95 : Int32)) (y_cu h3 s0 (95 : Int32).toNatClampNeg (32 : Int32) (fun h4 => fX12_init_663 x0 s0 s1 h4)))))))) := rfl
def zX12_init_639 (x0 : Nat) (s0 : Nat) (s1 : Nat) (hh : dT) : Option dT := n_chk (y_in hh 14 s0 (92 : Int32)) (z_cu hh s0 (92 : Int32).toNatClampNeg (111 : Int32) (fun h1 => n_chk (y_in h1 14 s0 (93 : Int32)) (z_cu h1 s0 (93 : Int32).toNatClampNeg (117 : Int32) (fun h2 => n_chk (y_in h2 14 s0 (94 : Int32)) (z_cu h2 s0 (94 : Int32).toNatClampNeg (114 : Int32) (fun h3 => n_chk (y_in h3 14 s0 (95 : Int32)) (z_cu h3 s0 (95 : Int32).toNatClampNeg (32 : Int32) (fun h4 => zX12_init_663 x0 s0 s1 h4))))))))
theorem sX12_init_639 {N : Nat} {x0 : Nat} {s0 : Nat} {s1 : Nat} {hh : nH} {t : dT} (hN : 1000 ≤ N) (Q_hh : y_Q hh t) : y_S (fX12_init_639 x0 s0 s1 hh) (zX12_init_639 x0 s0 s1 t) := by
  rw [vyX12_init_639]
  unfold zX12_init_639
  refine y_lin Q_hh ?_
  refine y_lu Q_hh (fun h1 Q_h1 => ?_)
  refine y_lin Q_h1 ?_
  refine y_lu Q_h1 (fun h2 Q_h2 => ?_)
  refine y_lin Q_h2 ?_
  refine y_lu Q_h2 (fun h3 Q_h3 => ?_)
  refine y_lin Q_h3 ?_
  refine y_lu Q_h3 (fun h4 Q_h4 => ?_)
  exact sX12_init_663 hN Q_h4
theorem vyX12_init_615 (x0 : Nat) (s0 : Nat) (s1 : Nat) (hh : nH) : fX12_init_615 x0 s0 s1 hh = n_chk (n_in hh.1 14 s0 (88 : Int32)) (y_cu hh s0 (88 : Int32).toNatClampNeg (101 : Int32) (fun h1 => n_chk (n_in h1.1 14 s0 (89 : Int32)) (y_cu h1 s0 (89 : Int32).toNatClampNeg (100 : Int32) (fun h2 => n_chk (n_in h2.1 14 s0 (90 : Int32)) (y_cu h2 s0 (90 : Int32).toNatClampNeg (32 : Int32) (fun h3 => n_chk (n_in h3.1 14 s0 (91 : Int32)) (y_cu h3 s0 (91 : Int32).toNatClampNeg (104 : Int32) (fun h4 => fX12_init_639 x0 s0 s1 h4)))))))) := rfl
def zX12_init_615 (x0 : Nat) (s0 : Nat) (s1 : Nat) (hh : dT) : Option dT := n_chk (y_in hh 14 s0 (88 : Int32)) (z_cu hh s0 (88 : Int32).toNatClampNeg (101 : Int32) (fun h1 => n_chk (y_in h1 14 s0 (89 : Int32)) (z_cu h1 s0 (89 : Int32).toNatClampNeg (100 : Int32) (fun h2 => n_chk (y_in h2 14 s0 (90 : Int32)) (z_cu h2 s0 (90 : Int32).toNatClampNeg (32 : Int32) (fun h3 => n_chk (y_in h3 14 s0 (91 : Int32)) (z_cu h3 s0 (91 : Int32).toNatClampNeg (104 : Int32) (fun h4 => zX12_init_639 x0 s0 s1 h4))))))))
theorem sX12_init_615 {N : Nat} {x0 : Nat} {s0 : Nat} {s1 : Nat} {hh : nH} {t : dT} (hN : 1000 ≤ N) (Q_hh : y_Q hh t) : y_S (fX12_init_615 x0 s0 s1 hh) (zX12_init_615 x0 s0 s1 t) := by
  rw [vyX12_init_615]
  unfold zX12_init_615
  refine y_lin Q_hh ?_
  refine y_lu Q_hh (fun h1 Q_h1 => ?_)
  refine y_lin Q_h1 ?_
  refine y_lu Q_h1 (fun h2 Q_h2 => ?_)
  refine y_lin Q_h2 ?_
  refine y_lu Q_h2 (fun h3 Q_h3 => ?_)
  refine y_lin Q_h3 ?_
  refine y_lu Q_h3 (fun h4 Q_h4 => ?_)
  exact sX12_init_639 hN Q_h4
theorem vyX12_init_591 (x0 : Nat) (s0 : Nat) (s1 : Nat) (hh : nH) : fX12_init_591 x0 s0 s1 hh = n_chk (n_in hh.1 14 s0 (84 : Int32)) (y_cu hh s0 (84 : Int32).toNatClampNeg (112 : Int32) (fun h1 => n_chk (n_in h1.1 14 s0 (85 : Int32)) (y_cu h1 s0 (85 : Int32).toNatClampNeg (97 : Int32) (fun h2 => n_chk (n_in h2.1 14 s0 (86 : Int32)) (y_cu h2 s0 (86 : Int32).toNatClampNeg (108 : Int32) (fun h3 => n_chk (n_in h3.1 14 s0 (87 : Int32)) (y_cu h3 s0 (87 : Int32).toNatClampNeg (109 : Int32) (fun h4 => fX12_init_615 x0 s0 s1 h4)))))))) := rfl
def zX12_init_591 (x0 : Nat) (s0 : Nat) (s1 : Nat) (hh : dT) : Option dT := n_chk (y_in hh 14 s0 (84 : Int32)) (z_cu hh s0 (84 : Int32).toNatClampNeg (112 : Int32) (fun h1 => n_chk (y_in h1 14 s0 (85 : Int32)) (z_cu h1 s0 (85 : Int32).toNatClampNeg (97 : Int32) (fun h2 => n_chk (y_in h2 14 s0 (86 : Int32)) (z_cu h2 s0 (86 : Int32).toNatClampNeg (108 : Int32) (fun h3 => n_chk (y_in h3 14 s0 (87 : Int32)) (z_cu h3 s0 (87 : Int32).toNatClampNeg (109 : Int32) (fun h4 => zX12_init_615 x0 s0 s1 h4))))))))
theorem sX12_init_591 {N : Nat} {x0 : Nat} {s0 : Nat} {s1 : Nat} {hh : nH} {t : dT} (hN : 1000 ≤ N) (Q_hh : y_Q hh t) : y_S (fX12_init_591 x0 s0 s1 hh) (zX12_init_591 x0 s0 s1 t) := by
  rw [vyX12_init_591]
  unfold zX12_init_591
  refine y_lin Q_hh ?_
  refine y_lu Q_hh (fun h1 Q_h1 => ?_)
  refine y_lin Q_h1 ?_
  refine y_lu Q_h1 (fun h2 Q_h2 => ?_)
  refine y_lin Q_h2 ?_
  refine y_lu Q_h2 (fun h3 Q_h3 => ?_)
  refine y_lin Q_h3 ?_
  refine y_lu Q_h3 (fun h4 Q_h4 => ?_)
  exact sX12_init_615 hN Q_h4
theorem vyX12_init_567 (x0 : Nat) (s0 : Nat) (s1 : Nat) (hh : nH) : fX12_init_567 x0 s0 s1 hh = n_chk (n_in hh.1 14 s0 (80 : Int32)) (y_cu hh s0 (80 : Int32).toNatClampNeg (111 : Int32) (fun h1 => n_chk (n_in h1.1 14 s0 (81 : Int32)) (y_cu h1 s0 (81 : Int32).toNatClampNeg (115 : Int32) (fun h2 => n_chk (n_in h2.1 14 s0 (82 : Int32)) (y_cu h2 s0 (82 : Int32).toNatClampNeg (116 : Int32) (fun h3 => n_chk (n_in h3.1 14 s0 (83 : Int32)) (y_cu h3 s0 (83 : Int32).toNatClampNeg (32 : Int32) (fun h4 => fX12_init_591 x0 s0 s1 h4)))))))) := rfl
def zX12_init_567 (x0 : Nat) (s0 : Nat) (s1 : Nat) (hh : dT) : Option dT := n_chk (y_in hh 14 s0 (80 : Int32)) (z_cu hh s0 (80 : Int32).toNatClampNeg (111 : Int32) (fun h1 => n_chk (y_in h1 14 s0 (81 : Int32)) (z_cu h1 s0 (81 : Int32).toNatClampNeg (115 : Int32) (fun h2 => n_chk (y_in h2 14 s0 (82 : Int32)) (z_cu h2 s0 (82 : Int32).toNatClampNeg (116 : Int32) (fun h3 => n_chk (y_in h3 14 s0 (83 : Int32)) (z_cu h3 s0 (83 : Int32).toNatClampNeg (32 : Int32) (fun h4 => zX12_init_591 x0 s0 s1 h4))))))))
theorem sX12_init_567 {N : Nat} {x0 : Nat} {s0 : Nat} {s1 : Nat} {hh : nH} {t : dT} (hN : 1000 ≤ N) (Q_hh : y_Q hh t) : y_S (fX12_init_567 x0 s0 s1 hh) (zX12_init_567 x0 s0 s1 t) := by
  rw [vyX12_init_567]
  unfold zX12_init_567
  refine y_lin Q_hh ?_
  refine y_lu Q_hh (fun h1 Q_h1 => ?_)
  refine y_lin Q_h1 ?_
  refine y_lu Q_h1 (fun h2 Q_h2 => ?_)
  refine y_lin Q_h2 ?_
  refine y_lu Q_h2 (fun h3 Q_h3 => ?_)
  refine y_lin Q_h3 ?_
  refine y_lu Q_h3 (fun h4 Q_h4 => ?_)
  exact sX12_init_591 hN Q_h4
theorem vyX12_init_543 (x0 : Nat) (s0 : Nat) (s1 : Nat) (hh : nH) : fX12_init_543 x0 s0 s1 hh = n_chk (n_in hh.1 14 s0 (76 : Int32)) (y_cu hh s0 (76 : Int32).toNatClampNeg (101 : Int32) (fun h1 => n_chk (n_in h1.1 14 s0 (77 : Int32)) (y_cu h1 s0 (77 : Int32).toNatClampNeg (100 : Int32) (fun h2 => n_chk (n_in h2.1 14 s0 (78 : Int32)) (y_cu h2 s0 (78 : Int32).toNatClampNeg (32 : Int32) (fun h3 => n_chk (n_in h3.1 14 s0 (79 : Int32)) (y_cu h3 s0 (79 : Int32).toNatClampNeg (108 : Int32) (fun h4 => fX12_init_567 x0 s0 s1 h4)))))))) := rfl
def zX12_init_543 (x0 : Nat) (s0 : Nat) (s1 : Nat) (hh : dT) : Option dT := n_chk (y_in hh 14 s0 (76 : Int32)) (z_cu hh s0 (76 : Int32).toNatClampNeg (101 : Int32) (fun h1 => n_chk (y_in h1 14 s0 (77 : Int32)) (z_cu h1 s0 (77 : Int32).toNatClampNeg (100 : Int32) (fun h2 => n_chk (y_in h2 14 s0 (78 : Int32)) (z_cu h2 s0 (78 : Int32).toNatClampNeg (32 : Int32) (fun h3 => n_chk (y_in h3 14 s0 (79 : Int32)) (z_cu h3 s0 (79 : Int32).toNatClampNeg (108 : Int32) (fun h4 => zX12_init_567 x0 s0 s1 h4))))))))
theorem sX12_init_543 {N : Nat} {x0 : Nat} {s0 : Nat} {s1 : Nat} {hh : nH} {t : dT} (hN : 1000 ≤ N) (Q_hh : y_Q hh t) : y_S (fX12_init_543 x0 s0 s1 hh) (zX12_init_543 x0 s0 s1 t) := by
  rw [vyX12_init_543]
  unfold zX12_init_543
  refine y_lin Q_hh ?_
  refine y_lu Q_hh (fun h1 Q_h1 => ?_)
  refine y_lin Q_h1 ?_
  refine y_lu Q_h1 (fun h2 Q_h2 => ?_)
  refine y_lin Q_h2 ?_
  refine y_lu Q_h2 (fun h3 Q_h3 => ?_)
  refine y_lin Q_h3 ?_
  refine y_lu Q_h3 (fun h4 Q_h4 => ?_)
  exact sX12_init_567 hN Q_h4
theorem vyX12_init_519 (x0 : Nat) (s0 : Nat) (s1 : Nat) (hh : nH) : fX12_init_519 x0 s0 s1 hh = n_chk (n_in hh.1 14 s0 (72 : Int32)) (y_cu hh s0 (72 : Int32).toNatClampNeg (32 : Int32) (fun h1 => n_chk (n_in h1.1 14 s0 (73 : Int32)) (y_cu h1 s0 (73 : Int32).toNatClampNeg (109 : Int32) (fun h2 => n_chk (n_in h2.1 14 s0 (74 : Int32)) (y_cu h2 s0 (74 : Int32).toNatClampNeg (111 : Int32) (fun h3 => n_chk (n_in h3.1 14 s0 (75 : Int32)) (y_cu h3 s0 (75 : Int32).toNatClampNeg (118 : Int32) (fun h4 => fX12_init_543 x0 s0 s1 h4)))))))) := rfl
def zX12_init_519 (x0 : Nat) (s0 : Nat) (s1 : Nat) (hh : dT) : Option dT := n_chk (y_in hh 14 s0 (72 : Int32)) (z_cu hh s0 (72 : Int32).toNatClampNeg (32 : Int32) (fun h1 => n_chk (y_in h1 14 s0 (73 : Int32)) (z_cu h1 s0 (73 : Int32).toNatClampNeg (109 : Int32) (fun h2 => n_chk (y_in h2 14 s0 (74 : Int32)) (z_cu h2 s0 (74 : Int32).toNatClampNeg (111 : Int32) (fun h3 => n_chk (y_in h3 14 s0 (75 : Int32)) (z_cu h3 s0 (75 : Int32).toNatClampNeg (118 : Int32) (fun h4 => zX12_init_543 x0 s0 s1 h4))))))))
theorem sX12_init_519 {N : Nat} {x0 : Nat} {s0 : Nat} {s1 : Nat} {hh : nH} {t : dT} (hN : 1000 ≤ N) (Q_hh : y_Q hh t) : y_S (fX12_init_519 x0 s0 s1 hh) (zX12_init_519 x0 s0 s1 t) := by
  rw [vyX12_init_519]
  unfold zX12_init_519
  refine y_lin Q_hh ?_
  refine y_lu Q_hh (fun h1 Q_h1 => ?_)
  refine y_lin Q_h1 ?_
  refine y_lu Q_h1 (fun h2 Q_h2 => ?_)
  refine y_lin Q_h2 ?_
  refine y_lu Q_h2 (fun h3 Q_h3 => ?_)
  refine y_lin Q_h3 ?_
  refine y_lu Q_h3 (fun h4 Q_h4 => ?_)
  exact sX12_init_543 hN Q_h4
theorem vyX12_init_495 (x0 : Nat) (s0 : Nat) (s1 : Nat) (hh : nH) : fX12_init_495 x0 s0 s1 hh = n_chk (n_in hh.1 14 s0 (68 : Int32)) (y_cu hh s0 (68 : Int32).toNatClampNeg (108 : Int32) (fun h1 => n_chk (n_in h1.1 14 s0 (69 : Int32)) (y_cu h1 s0 (69 : Int32).toNatClampNeg (111 : Int32) (fun h2 => n_chk (n_in h2.1 14 s0 (70 : Int32)) (y_cu h2 s0 (70 : Int32).toNatClampNeg (99 : Int32) (fun h3 => n_chk (n_in h3.1 14 s0 (71 : Int32)) (y_cu h3 s0 (71 : Int32).toNatClampNeg (107 : Int32) (fun h4 => fX12_init_519 x0 s0 s1 h4)))))))) := rfl
def zX12_init_495 (x0 : Nat) (s0 : Nat) (s1 : Nat) (hh : dT) : Option dT := n_chk (y_in hh 14 s0 (68 : Int32)) (z_cu hh s0 (68 : Int32).toNatClampNeg (108 : Int32) (fun h1 => n_chk (y_in h1 14 s0 (69 : Int32)) (z_cu h1 s0 (69 : Int32).toNatClampNeg (111 : Int32) (fun h2 => n_chk (y_in h2 14 s0 (70 : Int32)) (z_cu h2 s0 (70 : Int32).toNatClampNeg (99 : Int32) (fun h3 => n_chk (y_in h3 14 s0 (71 : Int32)) (z_cu h3 s0 (71 : Int32).toNatClampNeg (107 : Int32) (fun h4 => zX12_init_519 x0 s0 s1 h4))))))))
theorem sX12_init_495 {N : Nat} {x0 : Nat} {s0 : Nat} {s1 : Nat} {hh : nH} {t : dT} (hN : 1000 ≤ N) (Q_hh : y_Q hh t) : y_S (fX12_init_495 x0 s0 s1 hh) (zX12_init_495 x0 s0 s1 t) := by
  rw [vyX12_init_495]
  unfold zX12_init_495
  refine y_lin Q_hh ?_
  refine y_lu Q_hh (fun h1 Q_h1 => ?_)
  refine y_lin Q_h1 ?_
  refine y_lu Q_h1 (fun h2 Q_h2 => ?_)
  refine y_lin Q_h2 ?_
  refine y_lu Q_h2 (fun h3 Q_h3 => ?_)
  refine y_lin Q_h3 ?_
  refine y_lu Q_h3 (fun h4 Q_h4 => ?_)
  exact sX12_init_519 hN Q_h4
theorem vyX12_init_471 (x0 : Nat) (s0 : Nat) (s1 : Nat) (hh : nH) : fX12_init_471 x0 s0 s1 hh = n_chk (n_in hh.1 14 s0 (64 : Int32)) (y_cu hh s0 (64 : Int32).toNatClampNeg (117 : Int32) (fun h1 => n_chk (n_in h1.1 14 s0 (65 : Int32)) (y_cu h1 s0 (65 : Int32).toNatClampNeg (108 : Int32) (fun h2 => n_chk (n_in h2.1 14 s0 (66 : Int32)) (y_cu h2 s0 (66 : Int32).toNatClampNeg (108 : Int32) (fun h3 => n_chk (n_in h3.1 14 s0 (67 : Int32)) (y_cu h3 s0 (67 : Int32).toNatClampNeg (32 : Int32) (fun h4 => fX12_init_495 x0 s0 s1 h4)))))))) := rfl
def zX12_init_471 (x0 : Nat) (s0 : Nat) (s1 : Nat) (hh : dT) : Option dT := n_chk (y_in hh 14 s0 (64 : Int32)) (z_cu hh s0 (64 : Int32).toNatClampNeg (117 : Int32) (fun h1 => n_chk (y_in h1 14 s0 (65 : Int32)) (z_cu h1 s0 (65 : Int32).toNatClampNeg (108 : Int32) (fun h2 => n_chk (y_in h2 14 s0 (66 : Int32)) (z_cu h2 s0 (66 : Int32).toNatClampNeg (108 : Int32) (fun h3 => n_chk (y_in h3 14 s0 (67 : Int32)) (z_cu h3 s0 (67 : Int32).toNatClampNeg (32 : Int32) (fun h4 => zX12_init_495 x0 s0 s1 h4))))))))
theorem sX12_init_471 {N : Nat} {x0 : Nat} {s0 : Nat} {s1 : Nat} {hh : nH} {t : dT} (hN : 1000 ≤ N) (Q_hh : y_Q hh t) : y_S (fX12_init_471 x0 s0 s1 hh) (zX12_init_471 x0 s0 s1 t) := by
  rw [vyX12_init_471]
  unfold zX12_init_471
  refine y_lin Q_hh ?_
  refine y_lu Q_hh (fun h1 Q_h1 => ?_)
  refine y_lin Q_h1 ?_
  refine y_lu Q_h1 (fun h2 Q_h2 => ?_)
  refine y_lin Q_h2 ?_
  refine y_lu Q_h2 (fun h3 Q_h3 => ?_)
  refine y_lin Q_h3 ?_
  refine y_lu Q_h3 (fun h4 Q_h4 => ?_)
  exact sX12_init_495 hN Q_h4
theorem vyX12_init_447 (x0 : Nat) (s0 : Nat) (s1 : Nat) (hh : nH) : fX12_init_447 x0 s0 s1 hh = n_chk (n_in hh.1 14 s0 (60 : Int32)) (y_cu hh s0 (60 : Int32).toNatClampNeg (99 : Int32) (fun h1 => n_chk (n_in h1.1 14 s0 (61 : Int32)) (y_cu h1 s0 (61 : Int32).toNatClampNeg (101 : Int32) (fun h2 => n_chk (n_in h2.1 14 s0 (62 : Int32)) (y_cu h2 s0 (62 : Int32).toNatClampNeg (32 : Int32) (fun h3 => n_chk (n_in h3.1 14 s0 (63 : Int32)) (y_cu h3 s0 (63 : Int32).toNatClampNeg (102 : Int32) (fun h4 => fX12_init_471 x0 s0 s1 h4)))))))) := rfl
def zX12_init_447 (x0 : Nat) (s0 : Nat) (s1 : Nat) (hh : dT) : Option dT := n_chk (y_in hh 14 s0 (60 : Int32)) (z_cu hh s0 (60 : Int32).toNatClampNeg (99 : Int32) (fun h1 => n_chk (y_in h1 14 s0 (61 : Int32)) (z_cu h1 s0 (61 : Int32).toNatClampNeg (101 : Int32) (fun h2 => n_chk (y_in h2 14 s0 (62 : Int32)) (z_cu h2 s0 (62 : Int32).toNatClampNeg (32 : Int32) (fun h3 => n_chk (y_in h3 14 s0 (63 : Int32)) (z_cu h3 s0 (63 : Int32).toNatClampNeg (102 : Int32) (fun h4 => zX12_init_471 x0 s0 s1 h4))))))))
theorem sX12_init_447 {N : Nat} {x0 : Nat} {s0 : Nat} {s1 : Nat} {hh : nH} {t : dT} (hN : 1000 ≤ N) (Q_hh : y_Q hh t) : y_S (fX12_init_447 x0 s0 s1 hh) (zX12_init_447 x0 s0 s1 t) := by
  rw [vyX12_init_447]
  unfold zX12_init_447
  refine y_lin Q_hh ?_
  refine y_lu Q_hh (fun h1 Q_h1 => ?_)
  refine y_lin Q_h1 ?_
  refine y_lu Q_h1 (fun h2 Q_h2 => ?_)
  refine y_lin Q_h2 ?_
  refine y_lu Q_h2 (fun h3 Q_h3 => ?_)
  refine y_lin Q_h3 ?_
  refine y_lu Q_h3 (fun h4 Q_h4 => ?_)
  exact sX12_init_471 hN Q_h4
theorem vyX12_init_423 (x0 : Nat) (s0 : Nat) (s1 : Nat) (hh : nH) : fX12_init_423 x0 s0 s1 hh = n_chk (n_in hh.1 14 s0 (56 : Int32)) (y_cu hh s0 (56 : Int32).toNatClampNeg (32 : Int32) (fun h1 => n_chk (n_in h1.1 14 s0 (57 : Int32)) (y_cu h1 s0 (57 : Int32).toNatClampNeg (112 : Int32) (fun h2 => n_chk (n_in h2.1 14 s0 (58 : Int32)) (y_cu h2 s0 (58 : Int32).toNatClampNeg (108 : Int32) (fun h3 => n_chk (n_in h3.1 14 s0 (59 : Int32)) (y_cu h3 s0 (59 : Int32).toNatClampNeg (97 : Int32) (fun h4 => fX12_init_447 x0 s0 s1 h4)))))))) := rfl
def zX12_init_423 (x0 : Nat) (s0 : Nat) (s1 : Nat) (hh : dT) : Option dT := n_chk (y_in hh 14 s0 (56 : Int32)) (z_cu hh s0 (56 : Int32).toNatClampNeg (32 : Int32) (fun h1 => n_chk (y_in h1 14 s0 (57 : Int32)) (z_cu h1 s0 (57 : Int32).toNatClampNeg (112 : Int32) (fun h2 => n_chk (y_in h2 14 s0 (58 : Int32)) (z_cu h2 s0 (58 : Int32).toNatClampNeg (108 : Int32) (fun h3 => n_chk (y_in h3 14 s0 (59 : Int32)) (z_cu h3 s0 (59 : Int32).toNatClampNeg (97 : Int32) (fun h4 => zX12_init_447 x0 s0 s1 h4))))))))
theorem sX12_init_423 {N : Nat} {x0 : Nat} {s0 : Nat} {s1 : Nat} {hh : nH} {t : dT} (hN : 1000 ≤ N) (Q_hh : y_Q hh t) : y_S (fX12_init_423 x0 s0 s1 hh) (zX12_init_423 x0 s0 s1 t) := by
  rw [vyX12_init_423]
  unfold zX12_init_423
  refine y_lin Q_hh ?_
  refine y_lu Q_hh (fun h1 Q_h1 => ?_)
  refine y_lin Q_h1 ?_
  refine y_lu Q_h1 (fun h2 Q_h2 => ?_)
  refine y_lin Q_h2 ?_
  refine y_lu Q_h2 (fun h3 Q_h3 => ?_)
  refine y_lin Q_h3 ?_
  refine y_lu Q_h3 (fun h4 Q_h4 => ?_)
  exact sX12_init_447 hN Q_h4
theorem vyX12_init_399 (x0 : Nat) (s0 : Nat) (s1 : Nat) (hh : nH) : fX12_init_399 x0 s0 s1 hh = n_chk (n_in hh.1 14 s0 (52 : Int32)) (y_cu hh s0 (52 : Int32).toNatClampNeg (111 : Int32) (fun h1 => n_chk (n_in h1.1 14 s0 (53 : Int32)) (y_cu h1 s0 (53 : Int32).toNatClampNeg (114 : Int32) (fun h2 => n_chk (n_in h2.1 14 s0 (54 : Int32)) (y_cu h2 s0 (54 : Int32).toNatClampNeg (116 : Int32) (fun h3 => n_chk (n_in h3.1 14 s0 (55 : Int32)) (y_cu h3 s0 (55 : Int32).toNatClampNeg (104 : Int32) (fun h4 => fX12_init_423 x0 s0 s1 h4)))))))) := rfl
def zX12_init_399 (x0 : Nat) (s0 : Nat) (s1 : Nat) (hh : dT) : Option dT := n_chk (y_in hh 14 s0 (52 : Int32)) (z_cu hh s0 (52 : Int32).toNatClampNeg (111 : Int32) (fun h1 => n_chk (y_in h1 14 s0 (53 : Int32)) (z_cu h1 s0 (53 : Int32).toNatClampNeg (114 : Int32) (fun h2 => n_chk (y_in h2 14 s0 (54 : Int32)) (z_cu h2 s0 (54 : Int32).toNatClampNeg (116 : Int32) (fun h3 => n_chk (y_in h3 14 s0 (55 : Int32)) (z_cu h3 s0 (55 : Int32).toNatClampNeg (104 : Int32) (fun h4 => zX12_init_423 x0 s0 s1 h4))))))))
theorem sX12_init_399 {N : Nat} {x0 : Nat} {s0 : Nat} {s1 : Nat} {hh : nH} {t : dT} (hN : 1000 ≤ N) (Q_hh : y_Q hh t) : y_S (fX12_init_399 x0 s0 s1 hh) (zX12_init_399 x0 s0 s1 t) := by
  rw [vyX12_init_399]
  unfold zX12_init_399
  refine y_lin Q_hh ?_
  refine y_lu Q_hh (fun h1 Q_h1 => ?_)
  refine y_lin Q_h1 ?_
  refine y_lu Q_h1 (fun h2 Q_h2 => ?_)
  refine y_lin Q_h2 ?_
  refine y_lu Q_h2 (fun h3 Q_h3 => ?_)
  refine y_lin Q_h3 ?_
  refine y_lu Q_h3 (fun h4 Q_h4 => ?_)
  exact sX12_init_423 hN Q_h4
theorem vyX12_init_375 (x0 : Nat) (s0 : Nat) (s1 : Nat) (hh : nH) : fX12_init_375 x0 s0 s1 hh = n_chk (n_in hh.1 14 s0 (48 : Int32)) (y_cu hh s0 (48 : Int32).toNatClampNeg (122 : Int32) (fun h1 => n_chk (n_in h1.1 14 s0 (49 : Int32)) (y_cu h1 s0 (49 : Int32).toNatClampNeg (101 : Int32) (fun h2 => n_chk (n_in h2.1 14 s0 (50 : Int32)) (y_cu h2 s0 (50 : Int32).toNatClampNeg (32 : Int32) (fun h3 => n_chk (n_in h3.1 14 s0 (51 : Int32)) (y_cu h3 s0 (51 : Int32).toNatClampNeg (119 : Int32) (fun h4 => fX12_init_399 x0 s0 s1 h4)))))))) := rfl
def zX12_init_375 (x0 : Nat) (s0 : Nat) (s1 : Nat) (hh : dT) : Option dT := n_chk (y_in hh 14 s0 (48 : Int32)) (z_cu hh s0 (48 : Int32).toNatClampNeg (122 : Int32) (fun h1 => n_chk (y_in h1 14 s0 (49 : Int32)) (z_cu h1 s0 (49 : Int32).toNatClampNeg (101 : Int32) (fun h2 => n_chk (y_in h2 14 s0 (50 : Int32)) (z_cu h2 s0 (50 : Int32).toNatClampNeg (32 : Int32) (fun h3 => n_chk (y_in h3 14 s0 (51 : Int32)) (z_cu h3 s0 (51 : Int32).toNatClampNeg (119 : Int32) (fun h4 => zX12_init_399 x0 s0 s1 h4))))))))
theorem sX12_init_375 {N : Nat} {x0 : Nat} {s0 : Nat} {s1 : Nat} {hh : nH} {t : dT} (hN : 1000 ≤ N) (Q_hh : y_Q hh t) : y_S (fX12_init_375 x0 s0 s1 hh) (zX12_init_375 x0 s0 s1 t) := by
  rw [vyX12_init_375]
  unfold zX12_init_375
  refine y_lin Q_hh ?_
  refine y_lu Q_hh (fun h1 Q_h1 => ?_)
  refine y_lin Q_h1 ?_
  refine y_lu Q_h1 (fun h2 Q_h2 => ?_)
  refine y_lin Q_h2 ?_
  refine y_lu Q_h2 (fun h3 Q_h3 => ?_)
  refine y_lin Q_h3 ?_
  refine y_lu Q_h3 (fun h4 Q_h4 => ?_)
  exact sX12_init_399 hN Q_h4
theorem vyX12_init_351 (x0 : Nat) (s0 : Nat) (s1 : Nat) (hh : nH) : fX12_init_351 x0 s0 s1 hh = n_chk (n_in hh.1 14 s0 (44 : Int32)) (y_cu hh s0 (44 : Int32).toNatClampNeg (115 : Int32) (fun h1 => n_chk (n_in h1.1 14 s0 (45 : Int32)) (y_cu h1 s0 (45 : Int32).toNatClampNeg (32 : Int32) (fun h2 => n_chk (n_in h2.1 14 s0 (46 : Int32)) (y_cu h2 s0 (46 : Int32).toNatClampNeg (115 : Int32) (fun h3 => n_chk (n_in h3.1 14 s0 (47 : Int32)) (y_cu h3 s0 (47 : Int32).toNatClampNeg (105 : Int32) (fun h4 => fX12_init_375 x0 s0 s1 h4)))))))) := rfl
def zX12_init_351 (x0 : Nat) (s0 : Nat) (s1 : Nat) (hh : dT) : Option dT := n_chk (y_in hh 14 s0 (44 : Int32)) (z_cu hh s0 (44 : Int32).toNatClampNeg (115 : Int32) (fun h1 => n_chk (y_in h1 14 s0 (45 : Int32)) (z_cu h1 s0 (45 : Int32).toNatClampNeg (32 : Int32) (fun h2 => n_chk (y_in h2 14 s0 (46 : Int32)) (z_cu h2 s0 (46 : Int32).toNatClampNeg (115 : Int32) (fun h3 => n_chk (y_in h3 14 s0 (47 : Int32)) (z_cu h3 s0 (47 : Int32).toNatClampNeg (105 : Int32) (fun h4 => zX12_init_375 x0 s0 s1 h4))))))))
theorem sX12_init_351 {N : Nat} {x0 : Nat} {s0 : Nat} {s1 : Nat} {hh : nH} {t : dT} (hN : 1000 ≤ N) (Q_hh : y_Q hh t) : y_S (fX12_init_351 x0 s0 s1 hh) (zX12_init_351 x0 s0 s1 t) := by
  rw [vyX12_init_351]
  unfold zX12_init_351
  refine y_lin Q_hh ?_
  refine y_lu Q_hh (fun h1 Q_h1 => ?_)
  refine y_lin Q_h1 ?_
  refine y_lu Q_h1 (fun h2 Q_h2 => ?_)
  refine y_lin Q_h2 ?_
  refine y_lu Q_h2 (fun h3 Q_h3 => ?_)
  refine y_lin Q_h3 ?_
  refine y_lu Q_h3 (fun h4 Q_h4 => ?_)
  exact sX12_init_375 hN Q_h4
theorem vyX12_init_327 (x0 : Nat) (s0 : Nat) (s1 : Nat) (hh : nH) : fX12_init_327 x0 s0 s1 hh = n_chk (n_in hh.1 14 s0 (40 : Int32)) (y_cu hh s0 (40 : Int32).toNatClampNeg (32 : Int32) (fun h1 => n_chk (n_in h1.1 14 s0 (41 : Int32)) (y_cu h1 s0 (41 : Int32).toNatClampNeg (119 : Int32) (fun h2 => n_chk (n_in h2.1 14 s0 (42 : Int32)) (y_cu h2 s0 (42 : Int32).toNatClampNeg (105 : Int32) (fun h3 => n_chk (n_in h3.1 14 s0 (43 : Int32)) (y_cu h3 s0 (43 : Int32).toNatClampNeg (116 : Int32) (fun h4 => fX12_init_351 x0 s0 s1 h4)))))))) := rfl
def zX12_init_327 (x0 : Nat) (s0 : Nat) (s1 : Nat) (hh : dT) : Option dT := n_chk (y_in hh 14 s0 (40 : Int32)) (z_cu hh s0 (40 : Int32).toNatClampNeg (32 : Int32) (fun h1 => n_chk (y_in h1 14 s0 (41 : Int32)) (z_cu h1 s0 (41 : Int32).toNatClampNeg (119 : Int32) (fun h2 => n_chk (y_in h2 14 s0 (42 : Int32)) (z_cu h2 s0 (42 : Int32).toNatClampNeg (105 : Int32) (fun h3 => n_chk (y_in h3 14 s0 (43 : Int32)) (z_cu h3 s0 (43 : Int32).toNatClampNeg (116 : Int32) (fun h4 => zX12_init_351 x0 s0 s1 h4))))))))
theorem sX12_init_327 {N : Nat} {x0 : Nat} {s0 : Nat} {s1 : Nat} {hh : nH} {t : dT} (hN : 1000 ≤ N) (Q_hh : y_Q hh t) : y_S (fX12_init_327 x0 s0 s1 hh) (zX12_init_327 x0 s0 s1 t) := by
  rw [vyX12_init_327]
  unfold zX12_init_327
  refine y_lin Q_hh ?_
  refine y_lu Q_hh (fun h1 Q_h1 => ?_)
  refine y_lin Q_h1 ?_
  refine y_lu Q_h1 (fun h2 Q_h2 => ?_)
  refine y_lin Q_h2 ?_
  refine y_lu Q_h2 (fun h3 Q_h3 => ?_)
  refine y_lin Q_h3 ?_
  refine y_lu Q_h3 (fun h4 Q_h4 => ?_)
  exact sX12_init_351 hN Q_h4
theorem vyX12_init_303 (x0 : Nat) (s0 : Nat) (s1 : Nat) (hh : nH) : fX12_init_303 x0 s0 s1 hh = n_chk (n_in hh.1 14 s0 (36 : Int32)) (y_cu hh s0 (36 : Int32).toNatClampNeg (105 : Int32) (fun h1 => n_chk (n_in h1.1 14 s0 (37 : Int32)) (y_cu h1 s0 (37 : Int32).toNatClampNeg (103 : Int32) (fun h2 => n_chk (n_in h2.1 14 s0 (38 : Int32)) (y_cu h2 s0 (38 : Int32).toNatClampNeg (104 : Int32) (fun h3 => n_chk (n_in h3.1 14 s0 (39 : Int32)) (y_cu h3 s0 (39 : Int32).toNatClampNeg (116 : Int32) (fun h4 => fX12_init_327 x0 s0 s1 h4)))))))) := rfl
def zX12_init_303 (x0 : Nat) (s0 : Nat) (s1 : Nat) (hh : dT) : Option dT := n_chk (y_in hh 14 s0 (36 : Int32)) (z_cu hh s0 (36 : Int32).toNatClampNeg (105 : Int32) (fun h1 => n_chk (y_in h1 14 s0 (37 : Int32)) (z_cu h1 s0 (37 : Int32).toNatClampNeg (103 : Int32) (fun h2 => n_chk (y_in h2 14 s0 (38 : Int32)) (z_cu h2 s0 (38 : Int32).toNatClampNeg (104 : Int32) (fun h3 => n_chk (y_in h3 14 s0 (39 : Int32)) (z_cu h3 s0 (39 : Int32).toNatClampNeg (116 : Int32) (fun h4 => zX12_init_327 x0 s0 s1 h4))))))))
theorem sX12_init_303 {N : Nat} {x0 : Nat} {s0 : Nat} {s1 : Nat} {hh : nH} {t : dT} (hN : 1000 ≤ N) (Q_hh : y_Q hh t) : y_S (fX12_init_303 x0 s0 s1 hh) (zX12_init_303 x0 s0 s1 t) := by
  rw [vyX12_init_303]
  unfold zX12_init_303
  refine y_lin Q_hh ?_
  refine y_lu Q_hh (fun h1 Q_h1 => ?_)
  refine y_lin Q_h1 ?_
  refine y_lu Q_h1 (fun h2 Q_h2 => ?_)
  refine y_lin Q_h2 ?_
  refine y_lu Q_h2 (fun h3 Q_h3 => ?_)
  refine y_lin Q_h3 ?_
  refine y_lu Q_h3 (fun h4 Q_h4 => ?_)
  exact sX12_init_327 hN Q_h4
theorem vyX12_init_279 (x0 : Nat) (s0 : Nat) (s1 : Nat) (hh : nH) : fX12_init_279 x0 s0 s1 hh = n_chk (n_in hh.1 14 s0 (32 : Int32)) (y_cu hh s0 (32 : Int32).toNatClampNeg (32 : Int32) (fun h1 => n_chk (n_in h1.1 14 s0 (33 : Int32)) (y_cu h1 s0 (33 : Int32).toNatClampNeg (115 : Int32) (fun h2 => n_chk (n_in h2.1 14 s0 (34 : Int32)) (y_cu h2 s0 (34 : Int32).toNatClampNeg (108 : Int32) (fun h3 => n_chk (n_in h3.1 14 s0 (35 : Int32)) (y_cu h3 s0 (35 : Int32).toNatClampNeg (101 : Int32) (fun h4 => fX12_init_303 x0 s0 s1 h4)))))))) := rfl
def zX12_init_279 (x0 : Nat) (s0 : Nat) (s1 : Nat) (hh : dT) : Option dT := n_chk (y_in hh 14 s0 (32 : Int32)) (z_cu hh s0 (32 : Int32).toNatClampNeg (32 : Int32) (fun h1 => n_chk (y_in h1 14 s0 (33 : Int32)) (z_cu h1 s0 (33 : Int32).toNatClampNeg (115 : Int32) (fun h2 => n_chk (y_in h2 14 s0 (34 : Int32)) (z_cu h2 s0 (34 : Int32).toNatClampNeg (108 : Int32) (fun h3 => n_chk (y_in h3 14 s0 (35 : Int32)) (z_cu h3 s0 (35 : Int32).toNatClampNeg (101 : Int32) (fun h4 => zX12_init_303 x0 s0 s1 h4))))))))
theorem sX12_init_279 {N : Nat} {x0 : Nat} {s0 : Nat} {s1 : Nat} {hh : nH} {t : dT} (hN : 1000 ≤ N) (Q_hh : y_Q hh t) : y_S (fX12_init_279 x0 s0 s1 hh) (zX12_init_279 x0 s0 s1 t) := by
  rw [vyX12_init_279]
  unfold zX12_init_279
  refine y_lin Q_hh ?_
  refine y_lu Q_hh (fun h1 Q_h1 => ?_)
  refine y_lin Q_h1 ?_
  refine y_lu Q_h1 (fun h2 Q_h2 => ?_)
  refine y_lin Q_h2 ?_
  refine y_lu Q_h2 (fun h3 Q_h3 => ?_)
  refine y_lin Q_h3 ?_
  refine y_lu Q_h3 (fun h4 Q_h4 => ?_)
  exact sX12_init_303 hN Q_h4
theorem vyX12_init_255 (x0 : Nat) (s0 : Nat) (s1 : Nat) (hh : nH) : fX12_init_255 x0 s0 s1 hh = n_chk (n_in hh.1 14 s0 (28 : Int32)) (y_cu hh s0 (28 : Int32).toNatClampNeg (32 : Int32) (fun h1 => n_chk (n_in h1.1 14 s0 (29 : Int32)) (y_cu h1 s0 (29 : Int32).toNatClampNeg (110 : Int32) (fun h2 => n_chk (n_in h2.1 14 s0 (30 : Int32)) (y_cu h2 s0 (30 : Int32).toNatClampNeg (111 : Int32) (fun h3 => n_chk (n_in h3.1 14 s0 (31 : Int32)) (y_cu h3 s0 (31 : Int32).toNatClampNeg (116 : Int32) (fun h4 => fX12_init_279 x0 s0 s1 h4)))))))) := rfl
def zX12_init_255 (x0 : Nat) (s0 : Nat) (s1 : Nat) (hh : dT) : Option dT := n_chk (y_in hh 14 s0 (28 : Int32)) (z_cu hh s0 (28 : Int32).toNatClampNeg (32 : Int32) (fun h1 => n_chk (y_in h1 14 s0 (29 : Int32)) (z_cu h1 s0 (29 : Int32).toNatClampNeg (110 : Int32) (fun h2 => n_chk (y_in h2 14 s0 (30 : Int32)) (z_cu h2 s0 (30 : Int32).toNatClampNeg (111 : Int32) (fun h3 => n_chk (y_in h3 14 s0 (31 : Int32)) (z_cu h3 s0 (31 : Int32).toNatClampNeg (116 : Int32) (fun h4 => zX12_init_279 x0 s0 s1 h4))))))))
theorem sX12_init_255 {N : Nat} {x0 : Nat} {s0 : Nat} {s1 : Nat} {hh : nH} {t : dT} (hN : 1000 ≤ N) (Q_hh : y_Q hh t) : y_S (fX12_init_255 x0 s0 s1 hh) (zX12_init_255 x0 s0 s1 t) := by
  rw [vyX12_init_255]
  unfold zX12_init_255
  refine y_lin Q_hh ?_
  refine y_lu Q_hh (fun h1 Q_h1 => ?_)
  refine y_lin Q_h1 ?_
  refine y_lu Q_h1 (fun h2 Q_h2 => ?_)
  refine y_lin Q_h2 ?_
  refine y_lu Q_h2 (fun h3 Q_h3 => ?_)
  refine y_lin Q_h3 ?_
  refine y_lu Q_h3 (fun h4 Q_h4 => ?_)
  exact sX12_init_279 hN Q_h4
theorem vyX12_init_231 (x0 : Nat) (s0 : Nat) (s1 : Nat) (hh : nH) : fX12_init_231 x0 s0 s1 hh = n_chk (n_in hh.1 14 s0 (24 : Int32)) (y_cu hh s0 (24 : Int32).toNatClampNeg (32 : Int32) (fun h1 => n_chk (n_in h1.1 14 s0 (25 : Int32)) (y_cu h1 s0 (25 : Int32).toNatClampNeg (97 : Int32) (fun h2 => n_chk (n_in h2.1 14 s0 (26 : Int32)) (y_cu h2 s0 (26 : Int32).toNatClampNeg (110 : Int32) (fun h3 => n_chk (n_in h3.1 14 s0 (27 : Int32)) (y_cu h3 s0 (27 : Int32).toNatClampNeg (100 : Int32) (fun h4 => fX12_init_255 x0 s0 s1 h4)))))))) := rfl
def zX12_init_231 (x0 : Nat) (s0 : Nat) (s1 : Nat) (hh : dT) : Option dT := n_chk (y_in hh 14 s0 (24 : Int32)) (z_cu hh s0 (24 : Int32).toNatClampNeg (32 : Int32) (fun h1 => n_chk (y_in h1 14 s0 (25 : Int32)) (z_cu h1 s0 (25 : Int32).toNatClampNeg (97 : Int32) (fun h2 => n_chk (y_in h2 14 s0 (26 : Int32)) (z_cu h2 s0 (26 : Int32).toNatClampNeg (110 : Int32) (fun h3 => n_chk (y_in h3 14 s0 (27 : Int32)) (z_cu h3 s0 (27 : Int32).toNatClampNeg (100 : Int32) (fun h4 => zX12_init_255 x0 s0 s1 h4))))))))
theorem sX12_init_231 {N : Nat} {x0 : Nat} {s0 : Nat} {s1 : Nat} {hh : nH} {t : dT} (hN : 1000 ≤ N) (Q_hh : y_Q hh t) : y_S (fX12_init_231 x0 s0 s1 hh) (zX12_init_231 x0 s0 s1 t) := by
  rw [vyX12_init_231]
  unfold zX12_init_231
  refine y_lin Q_hh ?_
  refine y_lu Q_hh (fun h1 Q_h1 => ?_)
  refine y_lin Q_h1 ?_
  refine y_lu Q_h1 (fun h2 Q_h2 => ?_)
  refine y_lin Q_h2 ?_
  refine y_lu Q_h2 (fun h3 Q_h3 => ?_)
  refine y_lin Q_h3 ?_
  refine y_lu Q_h3 (fun h4 Q_h4 => ?_)
  exact sX12_init_255 hN Q_h4
theorem vyX12_init_207 (x0 : Nat) (s0 : Nat) (s1 : Nat) (hh : nH) : fX12_init_207 x0 s0 s1 hh = n_chk (n_in hh.1 14 s0 (20 : Int32)) (y_cu hh s0 (20 : Int32).toNatClampNeg (110 : Int32) (fun h1 => n_chk (n_in h1.1 14 s0 (21 : Int32)) (y_cu h1 s0 (21 : Int32).toNatClampNeg (32 : Int32) (fun h2 => n_chk (n_in h2.1 14 s0 (22 : Int32)) (y_cu h2 s0 (22 : Int32).toNatClampNeg (111 : Int32) (fun h3 => n_chk (n_in h3.1 14 s0 (23 : Int32)) (y_cu h3 s0 (23 : Int32).toNatClampNeg (114 : Int32) (fun h4 => fX12_init_231 x0 s0 s1 h4)))))))) := rfl
def zX12_init_207 (x0 : Nat) (s0 : Nat) (s1 : Nat) (hh : dT) : Option dT := n_chk (y_in hh 14 s0 (20 : Int32)) (z_cu hh s0 (20 : Int32).toNatClampNeg (110 : Int32) (fun h1 => n_chk (y_in h1 14 s0 (21 : Int32)) (z_cu h1 s0 (21 : Int32).toNatClampNeg (32 : Int32) (fun h2 => n_chk (y_in h2 14 s0 (22 : Int32)) (z_cu h2 s0 (22 : Int32).toNatClampNeg (111 : Int32) (fun h3 => n_chk (y_in h3 14 s0 (23 : Int32)) (z_cu h3 s0 (23 : Int32).toNatClampNeg (114 : Int32) (fun h4 => zX12_init_231 x0 s0 s1 h4))))))))
theorem sX12_init_207 {N : Nat} {x0 : Nat} {s0 : Nat} {s1 : Nat} {hh : nH} {t : dT} (hN : 1000 ≤ N) (Q_hh : y_Q hh t) : y_S (fX12_init_207 x0 s0 s1 hh) (zX12_init_207 x0 s0 s1 t) := by
  rw [vyX12_init_207]
  unfold zX12_init_207
  refine y_lin Q_hh ?_
  refine y_lu Q_hh (fun h1 Q_h1 => ?_)
  refine y_lin Q_h1 ?_
  refine y_lu Q_h1 (fun h2 Q_h2 => ?_)
  refine y_lin Q_h2 ?_
  refine y_lu Q_h2 (fun h3 Q_h3 => ?_)
  refine y_lin Q_h3 ?_
  refine y_lu Q_h3 (fun h4 Q_h4 => ?_)
  exact sX12_init_231 hN Q_h4
theorem vyX12_init_183 (x0 : Nat) (s0 : Nat) (s1 : Nat) (hh : nH) : fX12_init_183 x0 s0 s1 hh = n_chk (n_in hh.1 14 s0 (16 : Int32)) (y_cu hh s0 (16 : Int32).toNatClampNeg (32 : Int32) (fun h1 => n_chk (n_in h1.1 14 s0 (17 : Int32)) (y_cu h1 s0 (17 : Int32).toNatClampNeg (119 : Int32) (fun h2 => n_chk (n_in h2.1 14 s0 (18 : Int32)) (y_cu h2 s0 (18 : Int32).toNatClampNeg (104 : Int32) (fun h3 => n_chk (n_in h3.1 14 s0 (19 : Int32)) (y_cu h3 s0 (19 : Int32).toNatClampNeg (101 : Int32) (fun h4 => fX12_init_207 x0 s0 s1 h4)))))))) := rfl
def zX12_init_183 (x0 : Nat) (s0 : Nat) (s1 : Nat) (hh : dT) : Option dT := n_chk (y_in hh 14 s0 (16 : Int32)) (z_cu hh s0 (16 : Int32).toNatClampNeg (32 : Int32) (fun h1 => n_chk (y_in h1 14 s0 (17 : Int32)) (z_cu h1 s0 (17 : Int32).toNatClampNeg (119 : Int32) (fun h2 => n_chk (y_in h2 14 s0 (18 : Int32)) (z_cu h2 s0 (18 : Int32).toNatClampNeg (104 : Int32) (fun h3 => n_chk (y_in h3 14 s0 (19 : Int32)) (z_cu h3 s0 (19 : Int32).toNatClampNeg (101 : Int32) (fun h4 => zX12_init_207 x0 s0 s1 h4))))))))
theorem sX12_init_183 {N : Nat} {x0 : Nat} {s0 : Nat} {s1 : Nat} {hh : nH} {t : dT} (hN : 1000 ≤ N) (Q_hh : y_Q hh t) : y_S (fX12_init_183 x0 s0 s1 hh) (zX12_init_183 x0 s0 s1 t) := by
  rw [vyX12_init_183]
  unfold zX12_init_183
  refine y_lin Q_hh ?_
  refine y_lu Q_hh (fun h1 Q_h1 => ?_)
  refine y_lin Q_h1 ?_
  refine y_lu Q_h1 (fun h2 Q_h2 => ?_)
  refine y_lin Q_h2 ?_
  refine y_lu Q_h2 (fun h3 Q_h3 => ?_)
  refine y_lin Q_h3 ?_
  refine y_lu Q_h3 (fun h4 Q_h4 => ?_)
  exact sX12_init_207 hN Q_h4
theorem vyX12_init_159 (x0 : Nat) (s0 : Nat) (s1 : Nat) (hh : nH) : fX12_init_159 x0 s0 s1 hh = n_chk (n_in hh.1 14 s0 (12 : Int32)) (y_cu hh s0 (12 : Int32).toNatClampNeg (105 : Int32) (fun h1 => n_chk (n_in h1.1 14 s0 (13 : Int32)) (y_cu h1 s0 (13 : Int32).toNatClampNeg (110 : Int32) (fun h2 => n_chk (n_in h2.1 14 s0 (14 : Int32)) (y_cu h2 s0 (14 : Int32).toNatClampNeg (100 : Int32) (fun h3 => n_chk (n_in h3.1 14 s0 (15 : Int32)) (y_cu h3 s0 (15 : Int32).toNatClampNeg (115 : Int32) (fun h4 => fX12_init_183 x0 s0 s1 h4)))))))) := rfl
def zX12_init_159 (x0 : Nat) (s0 : Nat) (s1 : Nat) (hh : dT) : Option dT := n_chk (y_in hh 14 s0 (12 : Int32)) (z_cu hh s0 (12 : Int32).toNatClampNeg (105 : Int32) (fun h1 => n_chk (y_in h1 14 s0 (13 : Int32)) (z_cu h1 s0 (13 : Int32).toNatClampNeg (110 : Int32) (fun h2 => n_chk (y_in h2 14 s0 (14 : Int32)) (z_cu h2 s0 (14 : Int32).toNatClampNeg (100 : Int32) (fun h3 => n_chk (y_in h3 14 s0 (15 : Int32)) (z_cu h3 s0 (15 : Int32).toNatClampNeg (115 : Int32) (fun h4 => zX12_init_183 x0 s0 s1 h4))))))))
theorem sX12_init_159 {N : Nat} {x0 : Nat} {s0 : Nat} {s1 : Nat} {hh : nH} {t : dT} (hN : 1000 ≤ N) (Q_hh : y_Q hh t) : y_S (fX12_init_159 x0 s0 s1 hh) (zX12_init_159 x0 s0 s1 t) := by
  rw [vyX12_init_159]
  unfold zX12_init_159
  refine y_lin Q_hh ?_
  refine y_lu Q_hh (fun h1 Q_h1 => ?_)
  refine y_lin Q_h1 ?_
  refine y_lu Q_h1 (fun h2 Q_h2 => ?_)
  refine y_lin Q_h2 ?_
  refine y_lu Q_h2 (fun h3 Q_h3 => ?_)
  refine y_lin Q_h3 ?_
  refine y_lu Q_h3 (fun h4 Q_h4 => ?_)
  exact sX12_init_183 hN Q_h4
theorem vyX12_init_135 (x0 : Nat) (s0 : Nat) (s1 : Nat) (hh : nH) : fX12_init_135 x0 s0 s1 hh = n_chk (n_in hh.1 14 s0 (8 : Int32)) (y_cu hh s0 (8 : Int32).toNatClampNeg (97 : Int32) (fun h1 => n_chk (n_in h1.1 14 s0 (9 : Int32)) (y_cu h1 s0 (9 : Int32).toNatClampNeg (114 : Int32) (fun h2 => n_chk (n_in h2.1 14 s0 (10 : Int32)) (y_cu h2 s0 (10 : Int32).toNatClampNeg (32 : Int32) (fun h3 => n_chk (n_in h3.1 14 s0 (11 : Int32)) (y_cu h3 s0 (11 : Int32).toNatClampNeg (102 : Int32) (fun h4 => fX12_init_159 x0 s0 s1 h4)))))))) := rfl
def zX12_init_135 (x0 : Nat) (s0 : Nat) (s1 : Nat) (hh : dT) : Option dT := n_chk (y_in hh 14 s0 (8 : Int32)) (z_cu hh s0 (8 : Int32).toNatClampNeg (97 : Int32) (fun h1 => n_chk (y_in h1 14 s0 (9 : Int32)) (z_cu h1 s0 (9 : Int32).toNatClampNeg (114 : Int32) (fun h2 => n_chk (y_in h2 14 s0 (10 : Int32)) (z_cu h2 s0 (10 : Int32).toNatClampNeg (32 : Int32) (fun h3 => n_chk (y_in h3 14 s0 (11 : Int32)) (z_cu h3 s0 (11 : Int32).toNatClampNeg (102 : Int32) (fun h4 => zX12_init_159 x0 s0 s1 h4))))))))
theorem sX12_init_135 {N : Nat} {x0 : Nat} {s0 : Nat} {s1 : Nat} {hh : nH} {t : dT} (hN : 1000 ≤ N) (Q_hh : y_Q hh t) : y_S (fX12_init_135 x0 s0 s1 hh) (zX12_init_135 x0 s0 s1 t) := by
  rw [vyX12_init_135]
  unfold zX12_init_135
  refine y_lin Q_hh ?_
  refine y_lu Q_hh (fun h1 Q_h1 => ?_)
  refine y_lin Q_h1 ?_
  refine y_lu Q_h1 (fun h2 Q_h2 => ?_)
  refine y_lin Q_h2 ?_
  refine y_lu Q_h2 (fun h3 Q_h3 => ?_)
  refine y_lin Q_h3 ?_
  refine y_lu Q_h3 (fun h4 Q_h4 => ?_)
  exact sX12_init_159 hN Q_h4
theorem vyX12_init_113 (x0 : Nat) (s0 : Nat) (s1 : Nat) (hh : nH) : fX12_init_113 x0 s0 s1 hh = n_chk (n_in hh.1 14 s0 (4 : Int32)) (y_cu hh s0 (4 : Int32).toNatClampNeg (109 : Int32) (fun h1 => n_chk (n_in h1.1 14 s0 (5 : Int32)) (y_cu h1 s0 (5 : Int32).toNatClampNeg (115 : Int32) (fun h2 => n_chk (n_in h2.1 14 s0 (6 : Int32)) (y_cu h2 s0 (6 : Int32).toNatClampNeg (32 : Int32) (fun h3 => n_chk (n_in h3.1 14 s0 (7 : Int32)) (y_cu h3 s0 (7 : Int32).toNatClampNeg (102 : Int32) (fun h4 => fX12_init_135 x0 s0 s1 h4)))))))) := rfl
def zX12_init_113 (x0 : Nat) (s0 : Nat) (s1 : Nat) (hh : dT) : Option dT := n_chk (y_in hh 14 s0 (4 : Int32)) (z_cu hh s0 (4 : Int32).toNatClampNeg (109 : Int32) (fun h1 => n_chk (y_in h1 14 s0 (5 : Int32)) (z_cu h1 s0 (5 : Int32).toNatClampNeg (115 : Int32) (fun h2 => n_chk (y_in h2 14 s0 (6 : Int32)) (z_cu h2 s0 (6 : Int32).toNatClampNeg (32 : Int32) (fun h3 => n_chk (y_in h3 14 s0 (7 : Int32)) (z_cu h3 s0 (7 : Int32).toNatClampNeg (102 : Int32) (fun h4 => zX12_init_135 x0 s0 s1 h4))))))))
theorem sX12_init_113 {N : Nat} {x0 : Nat} {s0 : Nat} {s1 : Nat} {hh : nH} {t : dT} (hN : 1000 ≤ N) (Q_hh : y_Q hh t) : y_S (fX12_init_113 x0 s0 s1 hh) (zX12_init_113 x0 s0 s1 t) := by
  rw [vyX12_init_113]
  unfold zX12_init_113
  refine y_lin Q_hh ?_
  refine y_lu Q_hh (fun h1 Q_h1 => ?_)
  refine y_lin Q_h1 ?_
  refine y_lu Q_h1 (fun h2 Q_h2 => ?_)
  refine y_lin Q_h2 ?_
  refine y_lu Q_h2 (fun h3 Q_h3 => ?_)
  refine y_lin Q_h3 ?_
  refine y_lu Q_h3 (fun h4 Q_h4 => ?_)
  exact sX12_init_135 hN Q_h4
theorem vyX12_init_91 (x0 : Nat) (s0 : Int32) (s1 : Nat) (hh : nH) : fX12_init_91 x0 s0 s1 hh = n_chk (!decide (s0 < 0) && Nat.ble (s0.toNatClampNeg * 4) 536870912) (y_cal hh 14 s0.toNatClampNeg (fun a1 h2 => n_chk (n_in h2.1 14 a1 (0 : Int32)) (y_cu h2 a1 (0 : Int32).toNatClampNeg (32 : Int32) (fun h3 => n_chk (n_in h3.1 14 a1 (1 : Int32)) (y_cu h3 a1 (1 : Int32).toNatClampNeg (112 : Int32) (fun h4 => n_chk (n_in h4.1 14 a1 (2 : Int32)) (y_cu h4 a1 (2 : Int32).toNatClampNeg (97 : Int32) (fun h5 => n_chk (n_in h5.1 14 a1 (3 : Int32)) (y_cu h5 a1 (3 : Int32).toNatClampNeg (108 : Int32) (fun h6 => fX12_init_113 x0 a1 s1 h6)))))))))) := rfl
def zX12_init_91 (x0 : Nat) (s0 : Int32) (s1 : Nat) (hh : dT) : Option dT := n_chk (!decide (s0 < 0) && Nat.ble (s0.toNatClampNeg * 4) 536870912) (z_cal hh 14 s0.toNatClampNeg (fun a1 h2 => n_chk (y_in h2 14 a1 (0 : Int32)) (z_cu h2 a1 (0 : Int32).toNatClampNeg (32 : Int32) (fun h3 => n_chk (y_in h3 14 a1 (1 : Int32)) (z_cu h3 a1 (1 : Int32).toNatClampNeg (112 : Int32) (fun h4 => n_chk (y_in h4 14 a1 (2 : Int32)) (z_cu h4 a1 (2 : Int32).toNatClampNeg (97 : Int32) (fun h5 => n_chk (y_in h5 14 a1 (3 : Int32)) (z_cu h5 a1 (3 : Int32).toNatClampNeg (108 : Int32) (fun h6 => zX12_init_113 x0 a1 s1 h6))))))))))
theorem sX12_init_91 {N : Nat} {x0 : Nat} {s0 : Int32} {s1 : Nat} {hh : nH} {t : dT} (hN : 1000 ≤ N) (Q_hh : y_Q hh t) : y_S (fX12_init_91 x0 s0 s1 hh) (zX12_init_91 x0 s0 s1 t) := by
  rw [vyX12_init_91]
  unfold zX12_init_91
  refine y_chk (fun z => z) ?_
  refine y_lal Q_hh (fun h2 Q_h2 => ?_)
  refine y_lin Q_h2 ?_
  refine y_lu Q_h2 (fun h3 Q_h3 => ?_)
  refine y_lin Q_h3 ?_
  refine y_lu Q_h3 (fun h4 Q_h4 => ?_)
  refine y_lin Q_h4 ?_
  refine y_lu Q_h4 (fun h5 Q_h5 => ?_)
  refine y_lin Q_h5 ?_
  refine y_lu Q_h5 (fun h6 Q_h6 => ?_)
  exact sX12_init_113 hN Q_h6
theorem vyX12_init_58 (x0 : Nat) (s0 : Nat) (s1 : Nat) (hh : nH) : fX12_init_58 x0 s0 s1 hh = n_chk (Nat.beq (n_kd hh.1 s1) 12) (y_cR hh s1 11 s0 (fun h1 => n_chk (!decide ((12 : Int32) < 0) && Nat.ble ((12 : Int32).toNatClampNeg * 4) 536870912) (y_cal h1 14 (12 : Int32).toNatClampNeg (fun a2 h3 => n_chk (Nat.beq (n_kd h3.1 x0) 12) (y_cR h3 x0 12 a2 (fun h4 => n_chk (!decide ((600 : Int32) < 0) && Nat.ble ((600 : Int32).toNatClampNeg * 4) 536870912) (y_cal h4 14 (600 : Int32).toNatClampNeg (fun a5 h6 => n_chk (Nat.beq (n_kd h6.1 x0) 12) (y_cR h6 x0 13 a5 (fun h7 => n_chk (!decide ((400 : Int32) < 0) && Nat.ble ((400 : Int32).toNatClampNeg * 4) 536870912) (y_cal h7 14 (400 : Int32).toNatClampNeg (fun a8 h9 => n_chk (Nat.beq (n_kd h9.1 x0) 12) (y_cR h9 x0 14 a8 (fun h10 => fX12_init_91 x0 (145 : Int32) x0 h10)))))))))))))) := rfl
def zX12_init_58 (x0 : Nat) (s0 : Nat) (s1 : Nat) (hh : dT) : Option dT := n_chk (Nat.beq (y_k hh s1) 12) (z_cR hh s1 11 s0 (fun h1 => n_chk (!decide ((12 : Int32) < 0) && Nat.ble ((12 : Int32).toNatClampNeg * 4) 536870912) (z_cal h1 14 (12 : Int32).toNatClampNeg (fun a2 h3 => n_chk (Nat.beq (y_k h3 x0) 12) (z_cR h3 x0 12 a2 (fun h4 => n_chk (!decide ((600 : Int32) < 0) && Nat.ble ((600 : Int32).toNatClampNeg * 4) 536870912) (z_cal h4 14 (600 : Int32).toNatClampNeg (fun a5 h6 => n_chk (Nat.beq (y_k h6 x0) 12) (z_cR h6 x0 13 a5 (fun h7 => n_chk (!decide ((400 : Int32) < 0) && Nat.ble ((400 : Int32).toNatClampNeg * 4) 536870912) (z_cal h7 14 (400 : Int32).toNatClampNeg (fun a8 h9 => n_chk (Nat.beq (y_k h9 x0) 12) (z_cR h9 x0 14 a8 (fun h10 => zX12_init_91 x0 (145 : Int32) x0 h10))))))))))))))
theorem sX12_init_58 {N : Nat} {x0 : Nat} {s0 : Nat} {s1 : Nat} {hh : nH} {t : dT} (hN : 1000 ≤ N) (Q_hh : y_Q hh t) : y_S (fX12_init_58 x0 s0 s1 hh) (zX12_init_58 x0 s0 s1 t) := by
  rw [vyX12_init_58]
  unfold zX12_init_58
  refine y_kd Q_hh ?_
  refine y_lR Q_hh (fun h1 Q_h1 => ?_)
  refine y_chk (fun z => z) ?_
  refine y_lal Q_h1 (fun h3 Q_h3 => ?_)
  refine y_kd Q_h3 ?_
  refine y_lR Q_h3 (fun h4 Q_h4 => ?_)
  refine y_chk (fun z => z) ?_
  refine y_lal Q_h4 (fun h6 Q_h6 => ?_)
  refine y_kd Q_h6 ?_
  refine y_lR Q_h6 (fun h7 Q_h7 => ?_)
  refine y_chk (fun z => z) ?_
  refine y_lal Q_h7 (fun h9 Q_h9 => ?_)
  refine y_kd Q_h9 ?_
  refine y_lR Q_h9 (fun h10 Q_h10 => ?_)
  exact sX12_init_91 hN Q_h10
theorem vyX12_init_29 (x0 : Nat) (hh : nH) : fX12_init_29 x0 hh = n_chk (!decide ((12 : Int32) < 0) && Nat.ble ((12 : Int32).toNatClampNeg * 4) 536870912) (y_cal hh 14 (12 : Int32).toNatClampNeg (fun a1 h2 => n_chk (Nat.beq (n_kd h2.1 x0) 12) (y_cR h2 x0 8 a1 (fun h3 => n_chk (!decide ((16 : Int32) < 0) && Nat.ble ((16 : Int32).toNatClampNeg * 4) 536870912) (y_cal h3 14 (16 : Int32).toNatClampNeg (fun a4 h5 => n_chk (Nat.beq (n_kd h5.1 x0) 12) (y_cR h5 x0 9 a4 (fun h6 => n_chk (!decide ((16 : Int32) < 0) && Nat.ble ((16 : Int32).toNatClampNeg * 4) 536870912) (y_cal h6 14 (16 : Int32).toNatClampNeg (fun a7 h8 => n_chk (Nat.beq (n_kd h8.1 x0) 12) (y_cR h8 x0 10 a7 (fun h9 => n_chk (!decide ((12 : Int32) < 0) && Nat.ble ((12 : Int32).toNatClampNeg * 4) 536870912) (y_cal h9 14 (12 : Int32).toNatClampNeg (fun a10 h11 => fX12_init_58 x0 a10 x0 h11)))))))))))))) := rfl
def zX12_init_29 (x0 : Nat) (hh : dT) : Option dT := n_chk (!decide ((12 : Int32) < 0) && Nat.ble ((12 : Int32).toNatClampNeg * 4) 536870912) (z_cal hh 14 (12 : Int32).toNatClampNeg (fun a1 h2 => n_chk (Nat.beq (y_k h2 x0) 12) (z_cR h2 x0 8 a1 (fun h3 => n_chk (!decide ((16 : Int32) < 0) && Nat.ble ((16 : Int32).toNatClampNeg * 4) 536870912) (z_cal h3 14 (16 : Int32).toNatClampNeg (fun a4 h5 => n_chk (Nat.beq (y_k h5 x0) 12) (z_cR h5 x0 9 a4 (fun h6 => n_chk (!decide ((16 : Int32) < 0) && Nat.ble ((16 : Int32).toNatClampNeg * 4) 536870912) (z_cal h6 14 (16 : Int32).toNatClampNeg (fun a7 h8 => n_chk (Nat.beq (y_k h8 x0) 12) (z_cR h8 x0 10 a7 (fun h9 => n_chk (!decide ((12 : Int32) < 0) && Nat.ble ((12 : Int32).toNatClampNeg * 4) 536870912) (z_cal h9 14 (12 : Int32).toNatClampNeg (fun a10 h11 => zX12_init_58 x0 a10 x0 h11))))))))))))))
theorem sX12_init_29 {N : Nat} {x0 : Nat} {hh : nH} {t : dT} (hN : 1000 ≤ N) (Q_hh : y_Q hh t) : y_S (fX12_init_29 x0 hh) (zX12_init_29 x0 t) := by
  rw [vyX12_init_29]
  unfold zX12_init_29
  refine y_chk (fun z => z) ?_
  refine y_lal Q_hh (fun h2 Q_h2 => ?_)
  refine y_kd Q_h2 ?_
  refine y_lR Q_h2 (fun h3 Q_h3 => ?_)
  refine y_chk (fun z => z) ?_
  refine y_lal Q_h3 (fun h5 Q_h5 => ?_)
  refine y_kd Q_h5 ?_
  refine y_lR Q_h5 (fun h6 Q_h6 => ?_)
  refine y_chk (fun z => z) ?_
  refine y_lal Q_h6 (fun h8 Q_h8 => ?_)
  refine y_kd Q_h8 ?_
  refine y_lR Q_h8 (fun h9 Q_h9 => ?_)
  refine y_chk (fun z => z) ?_
  refine y_lal Q_h9 (fun h11 Q_h11 => ?_)
  exact sX12_init_58 hN Q_h11
theorem vyX12_init (x0 : Nat) (hh : nH) : fX12_init x0 hh = n_chk (Nat.blt 0 x0 && true) (n_chk (!decide ((100 : Int32) < 0) && Nat.ble ((100 : Int32).toNatClampNeg * 4) 536870912) (y_cal hh 14 (100 : Int32).toNatClampNeg (fun a1 h2 => n_chk (Nat.beq (n_kd h2.1 x0) 12) (y_cR h2 x0 1 a1 (fun h3 => n_chk (!decide ((600 : Int32) < 0) && Nat.ble ((600 : Int32).toNatClampNeg * 4) 536870912) (y_cal h3 14 (600 : Int32).toNatClampNeg (fun a4 h5 => n_chk (Nat.beq (n_kd h5.1 x0) 12) (y_cR h5 x0 2 a4 (fun h6 => n_chk (!decide ((100 : Int32) < 0) && Nat.ble ((100 : Int32).toNatClampNeg * 4) 536870912) (y_cal h6 14 (100 : Int32).toNatClampNeg (fun a7 h8 => n_chk (Nat.beq (n_kd h8.1 x0) 12) (y_cR h8 x0 4 a7 (fun h9 => fX12_init_29 x0 h9))))))))))))) := rfl
def zX12_init (x0 : Nat) (hh : dT) : Option dT := n_chk (Nat.blt 0 x0 && true) (n_chk (!decide ((100 : Int32) < 0) && Nat.ble ((100 : Int32).toNatClampNeg * 4) 536870912) (z_cal hh 14 (100 : Int32).toNatClampNeg (fun a1 h2 => n_chk (Nat.beq (y_k h2 x0) 12) (z_cR h2 x0 1 a1 (fun h3 => n_chk (!decide ((600 : Int32) < 0) && Nat.ble ((600 : Int32).toNatClampNeg * 4) 536870912) (z_cal h3 14 (600 : Int32).toNatClampNeg (fun a4 h5 => n_chk (Nat.beq (y_k h5 x0) 12) (z_cR h5 x0 2 a4 (fun h6 => n_chk (!decide ((100 : Int32) < 0) && Nat.ble ((100 : Int32).toNatClampNeg * 4) 536870912) (z_cal h6 14 (100 : Int32).toNatClampNeg (fun a7 h8 => n_chk (Nat.beq (y_k h8 x0) 12) (z_cR h8 x0 4 a7 (fun h9 => zX12_init_29 x0 h9)))))))))))))
theorem sX12_init {N : Nat} {x0 : Nat} {hh : nH} {t : dT} (hN : 1000 ≤ N) (Q_hh : y_Q hh t) : y_S (fX12_init x0 hh) (zX12_init x0 t) := by
  rw [vyX12_init]
  unfold zX12_init
  refine y_chk (fun z => z) ?_
  refine y_chk (fun z => z) ?_
  refine y_lal Q_hh (fun h2 Q_h2 => ?_)
  refine y_kd Q_h2 ?_
  refine y_lR Q_h2 (fun h3 Q_h3 => ?_)
  refine y_chk (fun z => z) ?_
  refine y_lal Q_h3 (fun h5 Q_h5 => ?_)
  refine y_kd Q_h5 ?_
  refine y_lR Q_h5 (fun h6 Q_h6 => ?_)
  refine y_chk (fun z => z) ?_
  refine y_lal Q_h6 (fun h8 Q_h8 => ?_)
  refine y_kd Q_h8 ?_
  refine y_lR Q_h8 (fun h9 Q_h9 => ?_)
  exact sX12_init_29 hN Q_h9
