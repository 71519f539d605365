/-! ===== Math.max, Math.min ===== -/
def o_mmax {T : Type} (nx : Nat) : nO T := fun go lv st M => match st with
  | .int y :: .int x :: r => n_ck (Nat.ble (n_cs r) 8) (go nx lv (.int (if x < y then y else x) :: r) M)
  | _ => none
theorem s_mmax {l : Launch} {w : nW} {d : Nat} {μ : nY} {G : nG} {T : Type} {fin : T → nR} {pc : Nat} {idx : Nat} (w1 : Cond.methodLink μ.1 idx Lib.Math.max.name ∈ lw_good) (w2 : Cond.static Lib.Math.max.name ∈ lw_good) (w3 : Cond.initialized "java/lang/Math" ∈ lw_good) (w4 : Cond.code Lib.Math.max.name Lib.Math.max.code 2 (some .int) ∈ lw_good) (hd : decode μ.2.2.1 pc = .ok (.invokestatic idx, 3)) : n_S l w d μ G fin pc (o_mmax (pc + 3)) := by
  intro go r lv st M hg h
  unfold o_mmax at h
  split at h
  · rename_i y x rest
    obtain ⟨hb, h⟩ := n_ck_some h
    have h4 := hg _ _ _ _ h
    refine ⟨h4.1, fun p e R s m args below meth c H locs cells slots ls C hP hS hl hz hc hs => ?_⟩
    have ht := C.2.2.2.2.2.2.2.1
    have hfr := C.2.2.2.2.2.2.2.2.2.2.1
    have hlo := C.2.2.2.2.2.2.2.2.2.2.2
    have hcs2 : ((rest.map (n_tr w.1)).map fun v => v.category).sum ≤ 8 := by rw [n_cs_tr]; exact Nat.le_of_ble_eq_true hb
    exact va_mmax C.1 C.2.1 (C.2.2.2.1.trans hl.1.symm) C.2.2.2.2.1 (ht _ w1) (ht _ w2) (ht _ w3) (ht _ w4) (by omega) (by omega) (by omega) (by omega) hd (h4.2 p e R s m args below meth c H locs cells slots ls C hP hS hl hz hc hs)
  · cases h
def o_mmin {T : Type} (nx : Nat) : nO T := fun go lv st M => match st with
  | .int y :: .int x :: r => n_ck (Nat.ble (n_cs r) 8) (go nx lv (.int (if y < x then y else x) :: r) M)
  | _ => none
theorem s_mmin {l : Launch} {w : nW} {d : Nat} {μ : nY} {G : nG} {T : Type} {fin : T → nR} {pc : Nat} {idx : Nat} (w1 : Cond.methodLink μ.1 idx Lib.Math.min.name ∈ lw_good) (w2 : Cond.static Lib.Math.min.name ∈ lw_good) (w3 : Cond.initialized "java/lang/Math" ∈ lw_good) (w4 : Cond.code Lib.Math.min.name Lib.Math.min.code 2 (some .int) ∈ lw_good) (hd : decode μ.2.2.1 pc = .ok (.invokestatic idx, 3)) : n_S l w d μ G fin pc (o_mmin (pc + 3)) := by
  intro go r lv st M hg h
  unfold o_mmin at h
  split at h
  · rename_i y x rest
    obtain ⟨hb, h⟩ := n_ck_some h
    have h4 := hg _ _ _ _ h
    refine ⟨h4.1, fun p e R s m args below meth c H locs cells slots ls C hP hS hl hz hc hs => ?_⟩
    have ht := C.2.2.2.2.2.2.2.1
    have hfr := C.2.2.2.2.2.2.2.2.2.2.1
    have hlo := C.2.2.2.2.2.2.2.2.2.2.2
    have hcs2 : ((rest.map (n_tr w.1)).map fun v => v.category).sum ≤ 8 := by rw [n_cs_tr]; exact Nat.le_of_ble_eq_true hb
    exact va_mmin C.1 C.2.1 (C.2.2.2.1.trans hl.1.symm) C.2.2.2.2.1 (ht _ w1) (ht _ w2) (ht _ w3) (ht _ w4) (by omega) (by omega) (by omega) (by omega) hd (h4.2 p e R s m args below meth c H locs cells slots ls C hP hS hl hz hc hs)
  · cases h
def n_m1 : Int32 := -1
/-! ===== more words ===== -/
theorem w_44 : Cond.selects "SleightHouse$Thought" (⟨"SleightHouse$Thought", "waysAllowed", "()I"⟩ : MethodName) (⟨"SleightHouse$Thought", "waysAllowed", "()I"⟩ : MethodName) ∈ lw_good := lw_good_in 44 (by decide +kernel) (by decide +kernel)
theorem w_370 : Jvm.Cond.fieldLink "SleightHouse$Thought" (89 : Nat) "SleightHouse$Told" "clues" "LSleightHouse$Rows;" ∈ lw_good := lw_good_in 370 (by decide +kernel) (by decide +kernel)
theorem w_539 : Jvm.Cond.fieldLink "SleightHouse$Thought" (15 : Nat) "SleightHouse$Thought" "allowed" "[I" ∈ lw_good := lw_good_in 539 (by decide +kernel) (by decide +kernel)
theorem w_1106 : Jvm.Cond.code ({ cls := "SleightHouse", name := "goes", desc := "(II)I" } : Jvm.MethodName) prog_1_method_23_code (4 : Nat) (Option.some Jvm.ClassFile.FieldType.int) ∈ lw_good := lw_good_in 1106 (by decide +kernel) (by decide +kernel)
theorem w_1108 : Jvm.Cond.methodLink "SleightHouse" (274 : Nat) ({ cls := "java/lang/Integer", name := "bitCount", desc := "(I)I" } : Jvm.MethodName) ∈ lw_good := lw_good_in 1108 (by decide +kernel) (by decide +kernel)
theorem w_1109 : Jvm.Cond.static ({ cls := "java/lang/Integer", name := "bitCount", desc := "(I)I" } : Jvm.MethodName) ∈ lw_good := lw_good_in 1109 (by decide +kernel) (by decide +kernel)
theorem w_1111 : Jvm.Cond.constant "java/lang/Integer" (265 : Nat) (1431655765 : Int32) ∈ lw_good := lw_good_in 1111 (by decide +kernel) (by decide +kernel)
theorem w_1112 : Jvm.Cond.constant "java/lang/Integer" (266 : Nat) (858993459 : Int32) ∈ lw_good := lw_good_in 1112 (by decide +kernel) (by decide +kernel)
theorem w_1114 : Jvm.Cond.methodLink "SleightHouse" (279 : Nat) ({ cls := "SleightHouse$Moving", name := "sum", desc := "([I)I" } : Jvm.MethodName) ∈ lw_good := lw_good_in 1114 (by decide +kernel) (by decide +kernel)
theorem w_1115 : Jvm.Cond.static ({ cls := "SleightHouse$Moving", name := "sum", desc := "([I)I" } : Jvm.MethodName) ∈ lw_good := lw_good_in 1115 (by decide +kernel) (by decide +kernel)
theorem w_1257 : Jvm.Cond.code ({ cls := "SleightHouse$Kin", name := "mostBound", desc := "(I)I" } : Jvm.MethodName) prog_4_method_10_code (6 : Nat) (Option.some Jvm.ClassFile.FieldType.int) ∈ lw_good := lw_good_in 1257 (by decide +kernel) (by decide +kernel)
theorem w_1258 : Jvm.Cond.methodLink "SleightHouse$Kin" (91 : Nat) ({ cls := "java/lang/Integer", name := "bitCount", desc := "(I)I" } : Jvm.MethodName) ∈ lw_good := lw_good_in 1258 (by decide +kernel) (by decide +kernel)
theorem w_1324 : Jvm.Cond.code ({ cls := "SleightHouse", name := "fits", desc := "(I)I" } : Jvm.MethodName) prog_1_method_43_code (2 : Nat) (Option.some Jvm.ClassFile.FieldType.int) ∈ lw_good := lw_good_in 1324 (by decide +kernel) (by decide +kernel)
theorem w_1325 : Jvm.Cond.methodLink "SleightHouse" (384 : Nat) ({ cls := "SleightHouse$Thought", name := "waysToFit", desc := "(II)I" } : Jvm.MethodName) ∈ lw_good := lw_good_in 1325 (by decide +kernel) (by decide +kernel)
theorem w_1326 : Jvm.Cond.instanceMethod ({ cls := "SleightHouse$Thought", name := "waysToFit", desc := "(II)I" } : Jvm.MethodName) ∈ lw_good := lw_good_in 1326 (by decide +kernel) (by decide +kernel)
theorem w_1327 : Jvm.Cond.selects "SleightHouse$Thought" ({ cls := "SleightHouse$Thought", name := "waysToFit", desc := "(II)I" } : Jvm.MethodName) ({ cls := "SleightHouse$Thought", name := "waysToFit", desc := "(II)I" } : Jvm.MethodName) ∈ lw_good := lw_good_in 1327 (by decide +kernel) (by decide +kernel)
theorem w_1328 : Jvm.Cond.code ({ cls := "SleightHouse$Thought", name := "waysToFit", desc := "(II)I" } : Jvm.MethodName) prog_11_method_19_code (6 : Nat) (Option.some Jvm.ClassFile.FieldType.int) ∈ lw_good := lw_good_in 1328 (by decide +kernel) (by decide +kernel)
theorem w_1329 : Jvm.Cond.methodLink "SleightHouse$Thought" (92 : Nat) ({ cls := "SleightHouse$Thought", name := "waysAllowed", desc := "()I" } : Jvm.MethodName) ∈ lw_good := lw_good_in 1329 (by decide +kernel) (by decide +kernel)
theorem w_1331 : Jvm.Cond.instanceMethod ({ cls := "SleightHouse$Thought", name := "waysAllowed", desc := "()I" } : Jvm.MethodName) ∈ lw_good := lw_good_in 1331 (by decide +kernel) (by decide +kernel)
theorem w_1332 : Jvm.Cond.code ({ cls := "SleightHouse$Thought", name := "waysAllowed", desc := "()I" } : Jvm.MethodName) prog_11_method_20_code (6 : Nat) (Option.some Jvm.ClassFile.FieldType.int) ∈ lw_good := lw_good_in 1332 (by decide +kernel) (by decide +kernel)
theorem w_1333 : Jvm.Cond.methodLink "SleightHouse$Thought" (96 : Nat) ({ cls := "java/lang/Integer", name := "bitCount", desc := "(I)I" } : Jvm.MethodName) ∈ lw_good := lw_good_in 1333 (by decide +kernel) (by decide +kernel)
theorem w_1334 : Jvm.Cond.methodLink "SleightHouse" (387 : Nat) ({ cls := "SleightHouse$Thought", name := "surePlace", desc := "(I)I" } : Jvm.MethodName) ∈ lw_good := lw_good_in 1334 (by decide +kernel) (by decide +kernel)
theorem w_1335 : Jvm.Cond.instanceMethod ({ cls := "SleightHouse$Thought", name := "surePlace", desc := "(I)I" } : Jvm.MethodName) ∈ lw_good := lw_good_in 1335 (by decide +kernel) (by decide +kernel)
theorem w_1336 : Jvm.Cond.selects "SleightHouse$Thought" ({ cls := "SleightHouse$Thought", name := "surePlace", desc := "(I)I" } : Jvm.MethodName) ({ cls := "SleightHouse$Thought", name := "surePlace", desc := "(I)I" } : Jvm.MethodName) ∈ lw_good := lw_good_in 1336 (by decide +kernel) (by decide +kernel)
theorem w_1337 : Jvm.Cond.code ({ cls := "SleightHouse$Thought", name := "surePlace", desc := "(I)I" } : Jvm.MethodName) prog_11_method_21_code (4 : Nat) (Option.some Jvm.ClassFile.FieldType.int) ∈ lw_good := lw_good_in 1337 (by decide +kernel) (by decide +kernel)
theorem w_1338 : Jvm.Cond.methodLink "SleightHouse$Thought" (101 : Nat) ({ cls := "SleightHouse$Thought", name := "waysToFit", desc := "(II)I" } : Jvm.MethodName) ∈ lw_good := lw_good_in 1338 (by decide +kernel) (by decide +kernel)
