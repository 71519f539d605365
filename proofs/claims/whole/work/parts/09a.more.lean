/-! ===== Math.max, Math.min ===== -/
abbrev o_mmax {T : Type} (nx : Nat) : nO T := fun go lv st M => match st with
  | .int y :: .int x :: r => n_ck (Nat.ble (n_cs r) 8) (go nx lv (.int (if x < y then y else x) :: r) M)
  | _ => none
theorem s_mmax {l : Launch} {w : nW} {d : Nat} {μ : nY} {G : nG} {T : Type} {fin : T → nR} {pc : Nat} {idx : Nat} (w1 : Cond.methodLink μ.1 idx Lib.Math.max.name ∈ lw_good) (w2 : Cond.static Lib.Math.max.name ∈ lw_good) (w3 : Cond.initialized "java/lang/Math" ∈ lw_good) (w4 : Cond.code Lib.Math.max.name Lib.Math.max.code 2 (some .int) ∈ lw_good) (hd : decode μ.2.2.1 pc = .ok (.invokestatic idx, 3)) : n_S l w d μ G fin pc (o_mmax (pc + 3)) := by
  intro go r lv st M hg h
  unfold o_mmax at h
  split at h
  · rename_i y x rest
    obtain ⟨hb, h⟩ := n_ck_some h
    have h4 := hg _ _ _ _ h
    refine ⟨h4.1, fun p e R s m args below meth c H locs cells slots ls C hP hS hl hz hc hs => ?_⟩
    have ht := C.2.2.2.2.2.2.2.1
    have hfr := C.2.2.2.2.2.2.2.2.2.2.1
    have hlo := C.2.2.2.2.2.2.2.2.2.2.2
    have hcs2 : ((rest.map (n_tr w)).map fun v => v.category).sum ≤ 8 := by rw [n_cs_tr]; exact Nat.le_of_ble_eq_true hb
    exact va_mmax C.1 C.2.1 (C.2.2.2.1.trans hl.1.symm) C.2.2.2.2.1 (ht _ w1) (ht _ w2) (ht _ w3) (ht _ w4) (by omega) (by omega) (by omega) (by omega) hd (h4.2 p e R s m args below meth c H locs cells slots ls C hP hS hl hz hc hs)
  · cases h
abbrev o_mmin {T : Type} (nx : Nat) : nO T := fun go lv st M => match st with
  | .int y :: .int x :: r => n_ck (Nat.ble (n_cs r) 8) (go nx lv (.int (if y < x then y else x) :: r) M)
  | _ => none
theorem s_mmin {l : Launch} {w : nW} {d : Nat} {μ : nY} {G : nG} {T : Type} {fin : T → nR} {pc : Nat} {idx : Nat} (w1 : Cond.methodLink μ.1 idx Lib.Math.min.name ∈ lw_good) (w2 : Cond.static Lib.Math.min.name ∈ lw_good) (w3 : Cond.initialized "java/lang/Math" ∈ lw_good) (w4 : Cond.code Lib.Math.min.name Lib.Math.min.code 2 (some .int) ∈ lw_good) (hd : decode μ.2.2.1 pc = .ok (.invokestatic idx, 3)) : n_S l w d μ G fin pc (o_mmin (pc + 3)) := by
  intro go r lv st M hg h
  unfold o_mmin at h
  split at h
  · rename_i y x rest
    obtain ⟨hb, h⟩ := n_ck_some h
    have h4 := hg _ _ _ _ h
    refine ⟨h4.1, fun p e R s m args below meth c H locs cells slots ls C hP hS hl hz hc hs => ?_⟩
    have ht := C.2.2.2.2.2.2.2.1
    have hfr := C.2.2.2.2.2.2.2.2.2.2.1
    have hlo := C.2.2.2.2.2.2.2.2.2.2.2
    have hcs2 : ((rest.map (n_tr w)).map fun v => v.category).sum ≤ 8 := by rw [n_cs_tr]; exact Nat.le_of_ble_eq_true hb
    exact va_mmin C.1 C.2.1 (C.2.2.2.1.trans hl.1.symm) C.2.2.2.2.1 (ht _ w1) (ht _ w2) (ht _ w3) (ht _ w4) (by omega) (by omega) (by omega) (by omega) hd (h4.2 p e R s m args below meth c H locs cells slots ls C hP hS hl hz hc hs)
  · cases h
def n_m1 : Int32 := -1
/-! ===== more words ===== -/
theorem w_44 : Cond.selects "SleightHouse$Thought" (⟨"SleightHouse$Thought", "waysAllowed", "()I"⟩ : MethodName) (⟨"SleightHouse$Thought", "waysAllowed", "()I"⟩ : MethodName) ∈ lw_good := lw_good_in 44 (by decide +kernel) (by decide +kernel)
theorem w_163 : Jvm.Cond.code ({ cls := "SleightHouse", name := "<init>", desc := "()V" } : Jvm.MethodName) prog_1_method_1_code (1 : Nat) (Option.none : Option Jvm.ClassFile.FieldType) ∈ lw_good := lw_good_in 163 (by decide +kernel) (by decide +kernel)
theorem w_164 : Jvm.Cond.methodLink "SleightHouse" (1 : Nat) ({ cls := "java/lang/Object", name := "<init>", desc := "()V" } : Jvm.MethodName) ∈ lw_good := lw_good_in 164 (by decide +kernel) (by decide +kernel)
theorem w_165 : Jvm.Cond.instanceMethod ({ cls := "java/lang/Object", name := "<init>", desc := "()V" } : Jvm.MethodName) ∈ lw_good := lw_good_in 165 (by decide +kernel) (by decide +kernel)
theorem w_166 : Jvm.Cond.code ({ cls := "java/lang/Object", name := "<init>", desc := "()V" } : Jvm.MethodName) object_method_1_code (1 : Nat) (Option.none : Option Jvm.ClassFile.FieldType) ∈ lw_good := lw_good_in 166 (by decide +kernel) (by decide +kernel)
theorem w_167 : Jvm.Cond.classLink "SleightHouse" (7 : Nat) "SleightHouse$House" ∈ lw_good := lw_good_in 167 (by decide +kernel) (by decide +kernel)
theorem w_168 : Jvm.Cond.instantiable "SleightHouse$House" (8 : Nat) ∈ lw_good := lw_good_in 168 (by decide +kernel) (by decide +kernel)
theorem w_170 : Jvm.Cond.instanceMethod ({ cls := "SleightHouse$House", name := "<init>", desc := "()V" } : Jvm.MethodName) ∈ lw_good := lw_good_in 170 (by decide +kernel) (by decide +kernel)
theorem w_171 : Jvm.Cond.code ({ cls := "SleightHouse$House", name := "<init>", desc := "()V" } : Jvm.MethodName) prog_3_method_1_code (1 : Nat) (Option.none : Option Jvm.ClassFile.FieldType) ∈ lw_good := lw_good_in 171 (by decide +kernel) (by decide +kernel)
theorem w_172 : Jvm.Cond.methodLink "SleightHouse$House" (3 : Nat) ({ cls := "java/lang/Object", name := "<init>", desc := "()V" } : Jvm.MethodName) ∈ lw_good := lw_good_in 172 (by decide +kernel) (by decide +kernel)
theorem w_173 : Jvm.Cond.classLink "SleightHouse$House" (9 : Nat) "SleightHouse$Stock" ∈ lw_good := lw_good_in 173 (by decide +kernel) (by decide +kernel)
theorem w_174 : Jvm.Cond.instantiable "SleightHouse$Stock" (7 : Nat) ∈ lw_good := lw_good_in 174 (by decide +kernel) (by decide +kernel)
theorem w_175 : Jvm.Cond.methodLink "SleightHouse$House" (11 : Nat) ({ cls := "SleightHouse$Stock", name := "<init>", desc := "()V" } : Jvm.MethodName) ∈ lw_good := lw_good_in 175 (by decide +kernel) (by decide +kernel)
theorem w_176 : Jvm.Cond.instanceMethod ({ cls := "SleightHouse$Stock", name := "<init>", desc := "()V" } : Jvm.MethodName) ∈ lw_good := lw_good_in 176 (by decide +kernel) (by decide +kernel)
theorem w_177 : Jvm.Cond.code ({ cls := "SleightHouse$Stock", name := "<init>", desc := "()V" } : Jvm.MethodName) prog_10_method_1_code (1 : Nat) (Option.none : Option Jvm.ClassFile.FieldType) ∈ lw_good := lw_good_in 177 (by decide +kernel) (by decide +kernel)
theorem w_178 : Jvm.Cond.methodLink "SleightHouse$Stock" (3 : Nat) ({ cls := "java/lang/Object", name := "<init>", desc := "()V" } : Jvm.MethodName) ∈ lw_good := lw_good_in 178 (by decide +kernel) (by decide +kernel)
theorem w_179 : Jvm.Cond.methodLink "SleightHouse$Stock" (34 : Nat) ({ cls := "java/util/Arrays", name := "fill", desc := "([II)V" } : Jvm.MethodName) ∈ lw_good := lw_good_in 179 (by decide +kernel) (by decide +kernel)
theorem w_221 : Jvm.Cond.arrayClass Jvm.ClassFile.FieldType.int ∈ lw_good := lw_good_in 221 (by decide +kernel) (by decide +kernel)
theorem w_222 : Jvm.Cond.classLink "SleightHouse$House" (18 : Nat) "SleightHouse$Moving" ∈ lw_good := lw_good_in 222 (by decide +kernel) (by decide +kernel)
theorem w_223 : Jvm.Cond.instantiable "SleightHouse$Moving" (12 : Nat) ∈ lw_good := lw_good_in 223 (by decide +kernel) (by decide +kernel)
theorem w_224 : Jvm.Cond.methodLink "SleightHouse$House" (20 : Nat) ({ cls := "SleightHouse$Moving", name := "<init>", desc := "(Z)V" } : Jvm.MethodName) ∈ lw_good := lw_good_in 224 (by decide +kernel) (by decide +kernel)
theorem w_225 : Jvm.Cond.instanceMethod ({ cls := "SleightHouse$Moving", name := "<init>", desc := "(Z)V" } : Jvm.MethodName) ∈ lw_good := lw_good_in 225 (by decide +kernel) (by decide +kernel)
theorem w_226 : Jvm.Cond.code ({ cls := "SleightHouse$Moving", name := "<init>", desc := "(Z)V" } : Jvm.MethodName) prog_6_method_1_code (2 : Nat) (Option.none : Option Jvm.ClassFile.FieldType) ∈ lw_good := lw_good_in 226 (by decide +kernel) (by decide +kernel)
theorem w_227 : Jvm.Cond.methodLink "SleightHouse$Moving" (3 : Nat) ({ cls := "java/lang/Object", name := "<init>", desc := "()V" } : Jvm.MethodName) ∈ lw_good := lw_good_in 227 (by decide +kernel) (by decide +kernel)
theorem w_228 : Jvm.Cond.fieldLink "SleightHouse$Moving" (46 : Nat) "SleightHouse$Moving" "inThought" "Z" ∈ lw_good := lw_good_in 228 (by decide +kernel) (by decide +kernel)
theorem w_288 : Jvm.Cond.classLink "SleightHouse$House" (27 : Nat) "SleightHouse$Rows" ∈ lw_good := lw_good_in 288 (by decide +kernel) (by decide +kernel)
theorem w_289 : Jvm.Cond.instantiable "SleightHouse$Rows" (4 : Nat) ∈ lw_good := lw_good_in 289 (by decide +kernel) (by decide +kernel)
theorem w_290 : Jvm.Cond.methodLink "SleightHouse$House" (29 : Nat) ({ cls := "SleightHouse$Rows", name := "<init>", desc := "(II)V" } : Jvm.MethodName) ∈ lw_good := lw_good_in 290 (by decide +kernel) (by decide +kernel)
theorem w_291 : Jvm.Cond.instanceMethod ({ cls := "SleightHouse$Rows", name := "<init>", desc := "(II)V" } : Jvm.MethodName) ∈ lw_good := lw_good_in 291 (by decide +kernel) (by decide +kernel)
theorem w_292 : Jvm.Cond.code ({ cls := "SleightHouse$Rows", name := "<init>", desc := "(II)V" } : Jvm.MethodName) prog_9_method_1_code (3 : Nat) (Option.none : Option Jvm.ClassFile.FieldType) ∈ lw_good := lw_good_in 292 (by decide +kernel) (by decide +kernel)
theorem w_293 : Jvm.Cond.methodLink "SleightHouse$Rows" (3 : Nat) ({ cls := "java/lang/Object", name := "<init>", desc := "()V" } : Jvm.MethodName) ∈ lw_good := lw_good_in 293 (by decide +kernel) (by decide +kernel)
theorem w_294 : Jvm.Cond.methodLink "SleightHouse$Rows" (15 : Nat) ({ cls := "java/lang/Math", name := "max", desc := "(II)I" } : Jvm.MethodName) ∈ lw_good := lw_good_in 294 (by decide +kernel) (by decide +kernel)
theorem w_319 : Jvm.Cond.classLink "SleightHouse$House" (36 : Nat) "SleightHouse$Law" ∈ lw_good := lw_good_in 319 (by decide +kernel) (by decide +kernel)
theorem w_320 : Jvm.Cond.instantiable "SleightHouse$Law" (7 : Nat) ∈ lw_good := lw_good_in 320 (by decide +kernel) (by decide +kernel)
theorem w_322 : Jvm.Cond.instanceMethod ({ cls := "SleightHouse$Law", name := "<init>", desc := "()V" } : Jvm.MethodName) ∈ lw_good := lw_good_in 322 (by decide +kernel) (by decide +kernel)
theorem w_323 : Jvm.Cond.code ({ cls := "SleightHouse$Law", name := "<init>", desc := "()V" } : Jvm.MethodName) prog_5_method_1_code (1 : Nat) (Option.none : Option Jvm.ClassFile.FieldType) ∈ lw_good := lw_good_in 323 (by decide +kernel) (by decide +kernel)
theorem w_324 : Jvm.Cond.methodLink "SleightHouse$Law" (3 : Nat) ({ cls := "java/lang/Object", name := "<init>", desc := "()V" } : Jvm.MethodName) ∈ lw_good := lw_good_in 324 (by decide +kernel) (by decide +kernel)
theorem w_348 : Jvm.Cond.classLink "SleightHouse$House" (52 : Nat) "SleightHouse$Told" ∈ lw_good := lw_good_in 348 (by decide +kernel) (by decide +kernel)
theorem w_349 : Jvm.Cond.instantiable "SleightHouse$Told" (9 : Nat) ∈ lw_good := lw_good_in 349 (by decide +kernel) (by decide +kernel)
theorem w_350 : Jvm.Cond.methodLink "SleightHouse$House" (54 : Nat) ({ cls := "SleightHouse$Told", name := "<init>", desc := "()V" } : Jvm.MethodName) ∈ lw_good := lw_good_in 350 (by decide +kernel) (by decide +kernel)
theorem w_351 : Jvm.Cond.instanceMethod ({ cls := "SleightHouse$Told", name := "<init>", desc := "()V" } : Jvm.MethodName) ∈ lw_good := lw_good_in 351 (by decide +kernel) (by decide +kernel)
theorem w_352 : Jvm.Cond.code ({ cls := "SleightHouse$Told", name := "<init>", desc := "()V" } : Jvm.MethodName) prog_12_method_1_code (1 : Nat) (Option.none : Option Jvm.ClassFile.FieldType) ∈ lw_good := lw_good_in 352 (by decide +kernel) (by decide +kernel)
theorem w_353 : Jvm.Cond.methodLink "SleightHouse$Told" (3 : Nat) ({ cls := "java/lang/Object", name := "<init>", desc := "()V" } : Jvm.MethodName) ∈ lw_good := lw_good_in 353 (by decide +kernel) (by decide +kernel)
theorem w_354 : Jvm.Cond.classLink "SleightHouse$Told" (9 : Nat) "SleightHouse$Rows" ∈ lw_good := lw_good_in 354 (by decide +kernel) (by decide +kernel)
theorem w_355 : Jvm.Cond.methodLink "SleightHouse$Told" (11 : Nat) ({ cls := "SleightHouse$Rows", name := "<init>", desc := "(II)V" } : Jvm.MethodName) ∈ lw_good := lw_good_in 355 (by decide +kernel) (by decide +kernel)
theorem w_356 : Jvm.Cond.methodLink "SleightHouse$Told" (45 : Nat) ({ cls := "java/util/Arrays", name := "fill", desc := "([II)V" } : Jvm.MethodName) ∈ lw_good := lw_good_in 356 (by decide +kernel) (by decide +kernel)
theorem w_370 : Jvm.Cond.fieldLink "SleightHouse$Thought" (89 : Nat) "SleightHouse$Told" "clues" "LSleightHouse$Rows;" ∈ lw_good := lw_good_in 370 (by decide +kernel) (by decide +kernel)
theorem w_440 : Jvm.Cond.classLink "SleightHouse" (16 : Nat) "SleightHouse$Doings" ∈ lw_good := lw_good_in 440 (by decide +kernel) (by decide +kernel)
theorem w_441 : Jvm.Cond.instantiable "SleightHouse$Doings" (3 : Nat) ∈ lw_good := lw_good_in 441 (by decide +kernel) (by decide +kernel)
theorem w_442 : Jvm.Cond.methodLink "SleightHouse" (18 : Nat) ({ cls := "SleightHouse$Doings", name := "<init>", desc := "(LSleightHouse$House;)V" } : Jvm.MethodName) ∈ lw_good := lw_good_in 442 (by decide +kernel) (by decide +kernel)
theorem w_443 : Jvm.Cond.instanceMethod ({ cls := "SleightHouse$Doings", name := "<init>", desc := "(LSleightHouse$House;)V" } : Jvm.MethodName) ∈ lw_good := lw_good_in 443 (by decide +kernel) (by decide +kernel)
theorem w_444 : Jvm.Cond.code ({ cls := "SleightHouse$Doings", name := "<init>", desc := "(LSleightHouse$House;)V" } : Jvm.MethodName) prog_2_method_1_code (2 : Nat) (Option.none : Option Jvm.ClassFile.FieldType) ∈ lw_good := lw_good_in 444 (by decide +kernel) (by decide +kernel)
theorem w_445 : Jvm.Cond.methodLink "SleightHouse$Doings" (3 : Nat) ({ cls := "java/lang/Object", name := "<init>", desc := "()V" } : Jvm.MethodName) ∈ lw_good := lw_good_in 445 (by decide +kernel) (by decide +kernel)
theorem w_456 : Jvm.Cond.classLink "SleightHouse" (25 : Nat) "SleightHouse$Past" ∈ lw_good := lw_good_in 456 (by decide +kernel) (by decide +kernel)
theorem w_457 : Jvm.Cond.instantiable "SleightHouse$Past" (3 : Nat) ∈ lw_good := lw_good_in 457 (by decide +kernel) (by decide +kernel)
theorem w_458 : Jvm.Cond.methodLink "SleightHouse" (27 : Nat) ({ cls := "SleightHouse$Past", name := "<init>", desc := "()V" } : Jvm.MethodName) ∈ lw_good := lw_good_in 458 (by decide +kernel) (by decide +kernel)
theorem w_459 : Jvm.Cond.instanceMethod ({ cls := "SleightHouse$Past", name := "<init>", desc := "()V" } : Jvm.MethodName) ∈ lw_good := lw_good_in 459 (by decide +kernel) (by decide +kernel)
theorem w_460 : Jvm.Cond.code ({ cls := "SleightHouse$Past", name := "<init>", desc := "()V" } : Jvm.MethodName) prog_7_method_1_code (2 : Nat) (Option.none : Option Jvm.ClassFile.FieldType) ∈ lw_good := lw_good_in 460 (by decide +kernel) (by decide +kernel)
theorem w_461 : Jvm.Cond.methodLink "SleightHouse$Past" (3 : Nat) ({ cls := "java/lang/Object", name := "<init>", desc := "()V" } : Jvm.MethodName) ∈ lw_good := lw_good_in 461 (by decide +kernel) (by decide +kernel)
theorem w_462 : Jvm.Cond.classLink "SleightHouse$Past" (9 : Nat) "SleightHouse$Moving" ∈ lw_good := lw_good_in 462 (by decide +kernel) (by decide +kernel)
theorem w_464 : Jvm.Cond.methodLink "SleightHouse$Past" (24 : Nat) ({ cls := "SleightHouse$Moving", name := "<init>", desc := "(Z)V" } : Jvm.MethodName) ∈ lw_good := lw_good_in 464 (by decide +kernel) (by decide +kernel)
theorem w_476 : Jvm.Cond.classLink "SleightHouse" (32 : Nat) "SleightHouse$Reader" ∈ lw_good := lw_good_in 476 (by decide +kernel) (by decide +kernel)
theorem w_477 : Jvm.Cond.instantiable "SleightHouse$Reader" (12 : Nat) ∈ lw_good := lw_good_in 477 (by decide +kernel) (by decide +kernel)
theorem w_478 : Jvm.Cond.methodLink "SleightHouse" (38 : Nat) ({ cls := "SleightHouse$Reader", name := "<init>", desc := "(LSleightHouse$Stock;)V" } : Jvm.MethodName) ∈ lw_good := lw_good_in 478 (by decide +kernel) (by decide +kernel)
theorem w_479 : Jvm.Cond.instanceMethod ({ cls := "SleightHouse$Reader", name := "<init>", desc := "(LSleightHouse$Stock;)V" } : Jvm.MethodName) ∈ lw_good := lw_good_in 479 (by decide +kernel) (by decide +kernel)
theorem w_480 : Jvm.Cond.code ({ cls := "SleightHouse$Reader", name := "<init>", desc := "(LSleightHouse$Stock;)V" } : Jvm.MethodName) prog_8_method_1_code (2 : Nat) (Option.none : Option Jvm.ClassFile.FieldType) ∈ lw_good := lw_good_in 480 (by decide +kernel) (by decide +kernel)
theorem w_481 : Jvm.Cond.methodLink "SleightHouse$Reader" (3 : Nat) ({ cls := "java/lang/Object", name := "<init>", desc := "()V" } : Jvm.MethodName) ∈ lw_good := lw_good_in 481 (by decide +kernel) (by decide +kernel)
theorem w_482 : Jvm.Cond.classLink "SleightHouse$Reader" (32 : Nat) "SleightHouse$Law" ∈ lw_good := lw_good_in 482 (by decide +kernel) (by decide +kernel)
theorem w_484 : Jvm.Cond.classLink "SleightHouse$Reader" (39 : Nat) "SleightHouse$Rows" ∈ lw_good := lw_good_in 484 (by decide +kernel) (by decide +kernel)
theorem w_485 : Jvm.Cond.methodLink "SleightHouse$Reader" (41 : Nat) ({ cls := "SleightHouse$Rows", name := "<init>", desc := "(II)V" } : Jvm.MethodName) ∈ lw_good := lw_good_in 485 (by decide +kernel) (by decide +kernel)
theorem w_528 : Jvm.Cond.arrayClass Jvm.ClassFile.FieldType.byte ∈ lw_good := lw_good_in 528 (by decide +kernel) (by decide +kernel)
theorem w_529 : Jvm.Cond.classLink "SleightHouse" (45 : Nat) "SleightHouse$Moving" ∈ lw_good := lw_good_in 529 (by decide +kernel) (by decide +kernel)
theorem w_530 : Jvm.Cond.methodLink "SleightHouse" (47 : Nat) ({ cls := "SleightHouse$Moving", name := "<init>", desc := "(Z)V" } : Jvm.MethodName) ∈ lw_good := lw_good_in 530 (by decide +kernel) (by decide +kernel)
theorem w_531 : Jvm.Cond.classLink "SleightHouse" (54 : Nat) "SleightHouse$Thought" ∈ lw_good := lw_good_in 531 (by decide +kernel) (by decide +kernel)
theorem w_532 : Jvm.Cond.instantiable "SleightHouse$Thought" (3 : Nat) ∈ lw_good := lw_good_in 532 (by decide +kernel) (by decide +kernel)
theorem w_533 : Jvm.Cond.methodLink "SleightHouse" (60 : Nat) ({ cls := "SleightHouse$Thought", name := "<init>", desc := "(LSleightHouse$Told;)V" } : Jvm.MethodName) ∈ lw_good := lw_good_in 533 (by decide +kernel) (by decide +kernel)
theorem w_534 : Jvm.Cond.instanceMethod ({ cls := "SleightHouse$Thought", name := "<init>", desc := "(LSleightHouse$Told;)V" } : Jvm.MethodName) ∈ lw_good := lw_good_in 534 (by decide +kernel) (by decide +kernel)
theorem w_535 : Jvm.Cond.code ({ cls := "SleightHouse$Thought", name := "<init>", desc := "(LSleightHouse$Told;)V" } : Jvm.MethodName) prog_11_method_1_code (2 : Nat) (Option.none : Option Jvm.ClassFile.FieldType) ∈ lw_good := lw_good_in 535 (by decide +kernel) (by decide +kernel)
theorem w_536 : Jvm.Cond.methodLink "SleightHouse$Thought" (3 : Nat) ({ cls := "java/lang/Object", name := "<init>", desc := "()V" } : Jvm.MethodName) ∈ lw_good := lw_good_in 536 (by decide +kernel) (by decide +kernel)
theorem w_539 : Jvm.Cond.fieldLink "SleightHouse$Thought" (15 : Nat) "SleightHouse$Thought" "allowed" "[I" ∈ lw_good := lw_good_in 539 (by decide +kernel) (by decide +kernel)
theorem w_547 : Jvm.Cond.classLink "SleightHouse" (67 : Nat) "SleightHouse$Kin" ∈ lw_good := lw_good_in 547 (by decide +kernel) (by decide +kernel)
theorem w_548 : Jvm.Cond.instantiable "SleightHouse$Kin" (6 : Nat) ∈ lw_good := lw_good_in 548 (by decide +kernel) (by decide +kernel)
theorem w_550 : Jvm.Cond.instanceMethod ({ cls := "SleightHouse$Kin", name := "<init>", desc := "()V" } : Jvm.MethodName) ∈ lw_good := lw_good_in 550 (by decide +kernel) (by decide +kernel)
theorem w_551 : Jvm.Cond.code ({ cls := "SleightHouse$Kin", name := "<init>", desc := "()V" } : Jvm.MethodName) prog_4_method_1_code (1 : Nat) (Option.none : Option Jvm.ClassFile.FieldType) ∈ lw_good := lw_good_in 551 (by decide +kernel) (by decide +kernel)
theorem w_552 : Jvm.Cond.methodLink "SleightHouse$Kin" (3 : Nat) ({ cls := "java/lang/Object", name := "<init>", desc := "()V" } : Jvm.MethodName) ∈ lw_good := lw_good_in 552 (by decide +kernel) (by decide +kernel)
theorem w_578 : Jvm.Cond.fieldLink "SleightHouse" (70 : Nat) "SleightHouse" "kin" "LSleightHouse$Kin;" ∈ lw_good := lw_good_in 578 (by decide +kernel) (by decide +kernel)
theorem w_579 : Jvm.Cond.fieldLink "SleightHouse" (74 : Nat) "SleightHouse" "kept" "LSleightHouse$House;" ∈ lw_good := lw_good_in 579 (by decide +kernel) (by decide +kernel)
theorem w_1106 : Jvm.Cond.code ({ cls := "SleightHouse", name := "goes", desc := "(II)I" } : Jvm.MethodName) prog_1_method_23_code (4 : Nat) (Option.some Jvm.ClassFile.FieldType.int) ∈ lw_good := lw_good_in 1106 (by decide +kernel) (by decide +kernel)
theorem w_1108 : Jvm.Cond.methodLink "SleightHouse" (274 : Nat) ({ cls := "java/lang/Integer", name := "bitCount", desc := "(I)I" } : Jvm.MethodName) ∈ lw_good := lw_good_in 1108 (by decide +kernel) (by decide +kernel)
theorem w_1109 : Jvm.Cond.static ({ cls := "java/lang/Integer", name := "bitCount", desc := "(I)I" } : Jvm.MethodName) ∈ lw_good := lw_good_in 1109 (by decide +kernel) (by decide +kernel)
theorem w_1111 : Jvm.Cond.constant "java/lang/Integer" (265 : Nat) (1431655765 : Int32) ∈ lw_good := lw_good_in 1111 (by decide +kernel) (by decide +kernel)
theorem w_1112 : Jvm.Cond.constant "java/lang/Integer" (266 : Nat) (858993459 : Int32) ∈ lw_good := lw_good_in 1112 (by decide +kernel) (by decide +kernel)
theorem w_1114 : Jvm.Cond.methodLink "SleightHouse" (279 : Nat) ({ cls := "SleightHouse$Moving", name := "sum", desc := "([I)I" } : Jvm.MethodName) ∈ lw_good := lw_good_in 1114 (by decide +kernel) (by decide +kernel)
theorem w_1115 : Jvm.Cond.static ({ cls := "SleightHouse$Moving", name := "sum", desc := "([I)I" } : Jvm.MethodName) ∈ lw_good := lw_good_in 1115 (by decide +kernel) (by decide +kernel)
theorem w_1257 : Jvm.Cond.code ({ cls := "SleightHouse$Kin", name := "mostBound", desc := "(I)I" } : Jvm.MethodName) prog_4_method_10_code (6 : Nat) (Option.some Jvm.ClassFile.FieldType.int) ∈ lw_good := lw_good_in 1257 (by decide +kernel) (by decide +kernel)
theorem w_1258 : Jvm.Cond.methodLink "SleightHouse$Kin" (91 : Nat) ({ cls := "java/lang/Integer", name := "bitCount", desc := "(I)I" } : Jvm.MethodName) ∈ lw_good := lw_good_in 1258 (by decide +kernel) (by decide +kernel)
theorem w_1324 : Jvm.Cond.code ({ cls := "SleightHouse", name := "fits", desc := "(I)I" } : Jvm.MethodName) prog_1_method_43_code (2 : Nat) (Option.some Jvm.ClassFile.FieldType.int) ∈ lw_good := lw_good_in 1324 (by decide +kernel) (by decide +kernel)
theorem w_1325 : Jvm.Cond.methodLink "SleightHouse" (384 : Nat) ({ cls := "SleightHouse$Thought", name := "waysToFit", desc := "(II)I" } : Jvm.MethodName) ∈ lw_good := lw_good_in 1325 (by decide +kernel) (by decide +kernel)
theorem w_1326 : Jvm.Cond.instanceMethod ({ cls := "SleightHouse$Thought", name := "waysToFit", desc := "(II)I" } : Jvm.MethodName) ∈ lw_good := lw_good_in 1326 (by decide +kernel) (by decide +kernel)
theorem w_1327 : Jvm.Cond.selects "SleightHouse$Thought" ({ cls := "SleightHouse$Thought", name := "waysToFit", desc := "(II)I" } : Jvm.MethodName) ({ cls := "SleightHouse$Thought", name := "waysToFit", desc := "(II)I" } : Jvm.MethodName) ∈ lw_good := lw_good_in 1327 (by decide +kernel) (by decide +kernel)
theorem w_1328 : Jvm.Cond.code ({ cls := "SleightHouse$Thought", name := "waysToFit", desc := "(II)I" } : Jvm.MethodName) prog_11_method_19_code (6 : Nat) (Option.some Jvm.ClassFile.FieldType.int) ∈ lw_good := lw_good_in 1328 (by decide +kernel) (by decide +kernel)
theorem w_1329 : Jvm.Cond.methodLink "SleightHouse$Thought" (92 : Nat) ({ cls := "SleightHouse$Thought", name := "waysAllowed", desc := "()I" } : Jvm.MethodName) ∈ lw_good := lw_good_in 1329 (by decide +kernel) (by decide +kernel)
theorem w_1331 : Jvm.Cond.instanceMethod ({ cls := "SleightHouse$Thought", name := "waysAllowed", desc := "()I" } : Jvm.MethodName) ∈ lw_good := lw_good_in 1331 (by decide +kernel) (by decide +kernel)
theorem w_1332 : Jvm.Cond.code ({ cls := "SleightHouse$Thought", name := "waysAllowed", desc := "()I" } : Jvm.MethodName) prog_11_method_20_code (6 : Nat) (Option.some Jvm.ClassFile.FieldType.int) ∈ lw_good := lw_good_in 1332 (by decide +kernel) (by decide +kernel)
theorem w_1333 : Jvm.Cond.methodLink "SleightHouse$Thought" (96 : Nat) ({ cls := "java/lang/Integer", name := "bitCount", desc := "(I)I" } : Jvm.MethodName) ∈ lw_good := lw_good_in 1333 (by decide +kernel) (by decide +kernel)
theorem w_1334 : Jvm.Cond.methodLink "SleightHouse" (387 : Nat) ({ cls := "SleightHouse$Thought", name := "surePlace", desc := "(I)I" } : Jvm.MethodName) ∈ lw_good := lw_good_in 1334 (by decide +kernel) (by decide +kernel)
theorem w_1335 : Jvm.Cond.instanceMethod ({ cls := "SleightHouse$Thought", name := "surePlace", desc := "(I)I" } : Jvm.MethodName) ∈ lw_good := lw_good_in 1335 (by decide +kernel) (by decide +kernel)
theorem w_1336 : Jvm.Cond.selects "SleightHouse$Thought" ({ cls := "SleightHouse$Thought", name := "surePlace", desc := "(I)I" } : Jvm.MethodName) ({ cls := "SleightHouse$Thought", name := "surePlace", desc := "(I)I" } : Jvm.MethodName) ∈ lw_good := lw_good_in 1336 (by decide +kernel) (by decide +kernel)
theorem w_1337 : Jvm.Cond.code ({ cls := "SleightHouse$Thought", name := "surePlace", desc := "(I)I" } : Jvm.MethodName) prog_11_method_21_code (4 : Nat) (Option.some Jvm.ClassFile.FieldType.int) ∈ lw_good := lw_good_in 1337 (by decide +kernel) (by decide +kernel)
theorem w_1338 : Jvm.Cond.methodLink "SleightHouse$Thought" (101 : Nat) ({ cls := "SleightHouse$Thought", name := "waysToFit", desc := "(II)I" } : Jvm.MethodName) ∈ lw_good := lw_good_in 1338 (by decide +kernel) (by decide +kernel)
set_option maxRecDepth 200000 in
theorem w_1405 : Jvm.Cond.code ({ cls := "SleightHouseModel", name := "<init>", desc := "()V" } : Jvm.MethodName) prog_14_method_1_code (1 : Nat) (Option.none : Option Jvm.ClassFile.FieldType) ∈ lw_good := lw_good_in 1405 (by rfl) (by decide +kernel)
theorem w_1406 : Jvm.Cond.methodLink "SleightHouseModel" (1 : Nat) ({ cls := "java/lang/Object", name := "<init>", desc := "()V" } : Jvm.MethodName) ∈ lw_good := lw_good_in 1406 (by decide +kernel) (by decide +kernel)
