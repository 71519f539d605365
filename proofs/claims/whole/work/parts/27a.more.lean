/-! ===== lookupswitch ===== -/
def n_lswok (pc : Nat) (dflt : Int) (lps : List (Int × Int)) (ps : List (Int32 × Nat)) (dt : Nat) : Bool :=
  ps.all (fun q => decide ((pc : Int) + Op.lookupswitch.offset lps dflt q.1.toInt = (q.2 : Int))) && (lps.all (fun a => ps.any (fun q => q.1.toInt == a.1)) && (decide ((pc : Int) + dflt = (dt : Int)) && (lps.zip (lps.drop 1)).all (fun (a, next) => a.1 < next.1)))
theorem n_lsw_out (dflt k : Int) : ∀ (lps : List (Int × Int)), (∀ a ∈ lps, a.1 ≠ k) → Op.lookupswitch.offset lps dflt k = dflt
  | [], _ => rfl
  | (a, o) :: t, h => by
    rw [Op.lookupswitch.offset_cons, if_neg (h (a, o) List.mem_cons_self)]
    exact n_lsw_out dflt k t (fun x hx => h x (List.mem_cons_of_mem _ hx))
theorem s_lsw {l : Launch} {w : nW} {d : Nat} {μ : nY} {G : nG} {T : Type} {fin : T → nR} {pc : Nat} {dflt : Int} {lps : Array (Int × Int)} {len dt : Nat} {ps : List (Int32 × Nat)} (hd : decode μ.2.2.1 pc = .ok (.lookupswitch dflt lps, len)) (ho : n_lswok pc dflt lps.toList ps dt = true) : n_S l w d μ G fin pc (o_sw ps dt) := by
  intro go r lv st M hg h
  unfold o_sw at h
  split at h
  · rename_i x rest
    unfold n_lswok at ho
    simp only [Bool.and_eq_true, decide_eq_true_eq] at ho
    obtain ⟨ho1, ho2, ho3, ho4⟩ := ho
    rcases n_sw_some h with ⟨q, hq, hx, h2⟩ | ⟨hn, h2⟩
    · have h1 := hg _ _ _ _ h2
      refine ⟨h1.1, fun p e R s m args below meth c H locs cells slots ls C hP hS hl hz hc hs => ?_⟩
      have h3 := List.all_eq_true.mp ho1 q hq
      simp only [decide_eq_true_eq] at h3
      subst hx
      exact lv_lookup C.1 C.2.1 hd ho4 rfl h3 (h1.2 p e R s m args below meth c H locs cells slots ls C hP hS hl hz hc hs)
    · have h1 := hg _ _ _ _ h2
      refine ⟨h1.1, fun p e R s m args below meth c H locs cells slots ls C hP hS hl hz hc hs => ?_⟩
      refine lv_lookup C.1 C.2.1 hd ho4 (n_lsw_out _ _ _ (fun a ha hk => ?_)) ho3 (h1.2 p e R s m args below meth c H locs cells slots ls C hP hS hl hz hc hs)
      obtain ⟨q, hq, hq2⟩ := List.any_eq_true.mp (List.all_eq_true.mp ho2 a ha)
      simp only [beq_iff_eq] at hq2
      exact hn q hq (Int32.toInt_inj.mp (by rw [hq2, hk]))
  · cases h
/-! ===== more words ===== -/
theorem w_22 : Cond.selects "SleightHouse$Reader" (⟨"SleightHouse$Reader", "sum", "()Z"⟩ : MethodName) (⟨"SleightHouse$Reader", "sum", "()Z"⟩ : MethodName) ∈ lw_good := lw_good_in 22 (by decide +kernel) (by decide +kernel)
theorem w_25 : Cond.selects "SleightHouse$Reader" (⟨"SleightHouse$Reader", "condition", "(I)Z"⟩ : MethodName) (⟨"SleightHouse$Reader", "condition", "(I)Z"⟩ : MethodName) ∈ lw_good := lw_good_in 25 (by decide +kernel) (by decide +kernel)
theorem w_26 : Cond.selects "SleightHouse$Reader" (⟨"SleightHouse$Reader", "claim", "(I)Z"⟩ : MethodName) (⟨"SleightHouse$Reader", "claim", "(I)Z"⟩ : MethodName) ∈ lw_good := lw_good_in 26 (by decide +kernel) (by decide +kernel)
theorem w_31 : Cond.selects "SleightHouse$Reader" (⟨"SleightHouse$Reader", "customKind", "()I"⟩ : MethodName) (⟨"SleightHouse$Reader", "customKind", "()I"⟩ : MethodName) ∈ lw_good := lw_good_in 31 (by decide +kernel) (by decide +kernel)
theorem w_37 : Cond.selects "SleightHouse$Kin" (⟨"SleightHouse$Kin", "waysOf", "(II)J"⟩ : MethodName) (⟨"SleightHouse$Kin", "waysOf", "(II)J"⟩ : MethodName) ∈ lw_good := lw_good_in 37 (by decide +kernel) (by decide +kernel)
theorem w_38 : Cond.selects "SleightHouse$Kin" (⟨"SleightHouse$Kin", "knotOf", "(II)I"⟩ : MethodName) (⟨"SleightHouse$Kin", "knotOf", "(II)I"⟩ : MethodName) ∈ lw_good := lw_good_in 38 (by decide +kernel) (by decide +kernel)
theorem w_39 : Cond.selects "SleightHouse$Kin" (⟨"SleightHouse$Kin", "waysOfKnot", "(II)J"⟩ : MethodName) (⟨"SleightHouse$Kin", "waysOfKnot", "(II)J"⟩ : MethodName) ∈ lw_good := lw_good_in 39 (by decide +kernel) (by decide +kernel)
theorem w_40 : Cond.selects "SleightHouse$Kin" (⟨"SleightHouse$Kin", "mostBound", "(I)I"⟩ : MethodName) (⟨"SleightHouse$Kin", "mostBound", "(I)I"⟩ : MethodName) ∈ lw_good := lw_good_in 40 (by decide +kernel) (by decide +kernel)
theorem w_41 : Cond.selects "SleightHouse$Kin" (⟨"SleightHouse$Kin", "bondsHold", "(I)Z"⟩ : MethodName) (⟨"SleightHouse$Kin", "bondsHold", "(I)Z"⟩ : MethodName) ∈ lw_good := lw_good_in 41 (by decide +kernel) (by decide +kernel)
theorem w_976 : Jvm.Cond.code ({ cls := "SleightHouse$Reader", name := "lawLine", desc := "()Z" } : Jvm.MethodName) prog_8_method_21_code (1 : Nat) (Option.some Jvm.ClassFile.FieldType.boolean) ∈ lw_good := lw_good_in 976 (by decide +kernel) (by decide +kernel)
theorem w_977 : Jvm.Cond.methodLink "SleightHouse$Reader" (163 : Nat) ({ cls := "SleightHouse$Law", name := "begin", desc := "(I)V" } : Jvm.MethodName) ∈ lw_good := lw_good_in 977 (by decide +kernel) (by decide +kernel)
theorem w_978 : Jvm.Cond.instanceMethod ({ cls := "SleightHouse$Law", name := "begin", desc := "(I)V" } : Jvm.MethodName) ∈ lw_good := lw_good_in 978 (by decide +kernel) (by decide +kernel)
theorem w_979 : Jvm.Cond.selects "SleightHouse$Law" ({ cls := "SleightHouse$Law", name := "begin", desc := "(I)V" } : Jvm.MethodName) ({ cls := "SleightHouse$Law", name := "begin", desc := "(I)V" } : Jvm.MethodName) ∈ lw_good := lw_good_in 979 (by decide +kernel) (by decide +kernel)
theorem w_985 : Jvm.Cond.methodLink "SleightHouse$Reader" (166 : Nat) ({ cls := "SleightHouse$Reader", name := "sum", desc := "()Z" } : Jvm.MethodName) ∈ lw_good := lw_good_in 985 (by decide +kernel) (by decide +kernel)
theorem w_987 : Jvm.Cond.instanceMethod ({ cls := "SleightHouse$Reader", name := "sum", desc := "()Z" } : Jvm.MethodName) ∈ lw_good := lw_good_in 987 (by decide +kernel) (by decide +kernel)
theorem w_1001 : Jvm.Cond.methodLink "SleightHouse$Reader" (169 : Nat) ({ cls := "SleightHouse$Law", name := "beginWhen", desc := "()V" } : Jvm.MethodName) ∈ lw_good := lw_good_in 1001 (by decide +kernel) (by decide +kernel)
theorem w_1002 : Jvm.Cond.instanceMethod ({ cls := "SleightHouse$Law", name := "beginWhen", desc := "()V" } : Jvm.MethodName) ∈ lw_good := lw_good_in 1002 (by decide +kernel) (by decide +kernel)
theorem w_1003 : Jvm.Cond.selects "SleightHouse$Law" ({ cls := "SleightHouse$Law", name := "beginWhen", desc := "()V" } : Jvm.MethodName) ({ cls := "SleightHouse$Law", name := "beginWhen", desc := "()V" } : Jvm.MethodName) ∈ lw_good := lw_good_in 1003 (by decide +kernel) (by decide +kernel)
theorem w_1005 : Jvm.Cond.methodLink "SleightHouse$Reader" (172 : Nat) ({ cls := "SleightHouse$Reader", name := "condition", desc := "(I)Z" } : Jvm.MethodName) ∈ lw_good := lw_good_in 1005 (by decide +kernel) (by decide +kernel)
theorem w_1007 : Jvm.Cond.instanceMethod ({ cls := "SleightHouse$Reader", name := "condition", desc := "(I)Z" } : Jvm.MethodName) ∈ lw_good := lw_good_in 1007 (by decide +kernel) (by decide +kernel)
theorem w_1008 : Jvm.Cond.code ({ cls := "SleightHouse$Reader", name := "condition", desc := "(I)Z" } : Jvm.MethodName) prog_8_method_22_code (5 : Nat) (Option.some Jvm.ClassFile.FieldType.boolean) ∈ lw_good := lw_good_in 1008 (by decide +kernel) (by decide +kernel)
theorem w_1009 : Jvm.Cond.methodLink "SleightHouse$Reader" (178 : Nat) ({ cls := "SleightHouse$Reader", name := "claim", desc := "(I)Z" } : Jvm.MethodName) ∈ lw_good := lw_good_in 1009 (by decide +kernel) (by decide +kernel)
theorem w_1011 : Jvm.Cond.instanceMethod ({ cls := "SleightHouse$Reader", name := "claim", desc := "(I)Z" } : Jvm.MethodName) ∈ lw_good := lw_good_in 1011 (by decide +kernel) (by decide +kernel)
theorem w_1012 : Jvm.Cond.code ({ cls := "SleightHouse$Reader", name := "claim", desc := "(I)Z" } : Jvm.MethodName) prog_8_method_23_code (4 : Nat) (Option.some Jvm.ClassFile.FieldType.boolean) ∈ lw_good := lw_good_in 1012 (by decide +kernel) (by decide +kernel)
theorem w_1017 : Jvm.Cond.methodLink "SleightHouse$Reader" (175 : Nat) ({ cls := "SleightHouse$Law", name := "finish", desc := "()V" } : Jvm.MethodName) ∈ lw_good := lw_good_in 1017 (by decide +kernel) (by decide +kernel)
theorem w_1018 : Jvm.Cond.instanceMethod ({ cls := "SleightHouse$Law", name := "finish", desc := "()V" } : Jvm.MethodName) ∈ lw_good := lw_good_in 1018 (by decide +kernel) (by decide +kernel)
theorem w_1019 : Jvm.Cond.selects "SleightHouse$Law" ({ cls := "SleightHouse$Law", name := "finish", desc := "()V" } : Jvm.MethodName) ({ cls := "SleightHouse$Law", name := "finish", desc := "()V" } : Jvm.MethodName) ∈ lw_good := lw_good_in 1019 (by decide +kernel) (by decide +kernel)
theorem w_1037 : Jvm.Cond.code ({ cls := "SleightHouse$Reader", name := "customLine", desc := "()Z" } : Jvm.MethodName) prog_8_method_17_code (6 : Nat) (Option.some Jvm.ClassFile.FieldType.boolean) ∈ lw_good := lw_good_in 1037 (by decide +kernel) (by decide +kernel)
theorem w_1038 : Jvm.Cond.methodLink "SleightHouse$Reader" (149 : Nat) ({ cls := "SleightHouse$Reader", name := "customKind", desc := "()I" } : Jvm.MethodName) ∈ lw_good := lw_good_in 1038 (by decide +kernel) (by decide +kernel)
theorem w_1040 : Jvm.Cond.instanceMethod ({ cls := "SleightHouse$Reader", name := "customKind", desc := "()I" } : Jvm.MethodName) ∈ lw_good := lw_good_in 1040 (by decide +kernel) (by decide +kernel)
theorem w_1220 : Jvm.Cond.code ({ cls := "SleightHouse", name := "heir", desc := "(I)I" } : Jvm.MethodName) prog_1_method_36_code (2 : Nat) (Option.some Jvm.ClassFile.FieldType.int) ∈ lw_good := lw_good_in 1220 (by decide +kernel) (by decide +kernel)
theorem w_1221 : Jvm.Cond.methodLink "SleightHouse" (351 : Nat) ({ cls := "SleightHouse$Kin", name := "gather", desc := "(ILSleightHouse$Rows;[I)V" } : Jvm.MethodName) ∈ lw_good := lw_good_in 1221 (by decide +kernel) (by decide +kernel)
theorem w_1222 : Jvm.Cond.instanceMethod ({ cls := "SleightHouse$Kin", name := "gather", desc := "(ILSleightHouse$Rows;[I)V" } : Jvm.MethodName) ∈ lw_good := lw_good_in 1222 (by decide +kernel) (by decide +kernel)
theorem w_1223 : Jvm.Cond.selects "SleightHouse$Kin" ({ cls := "SleightHouse$Kin", name := "gather", desc := "(ILSleightHouse$Rows;[I)V" } : Jvm.MethodName) ({ cls := "SleightHouse$Kin", name := "gather", desc := "(ILSleightHouse$Rows;[I)V" } : Jvm.MethodName) ∈ lw_good := lw_good_in 1223 (by decide +kernel) (by decide +kernel)
theorem w_1237 : Jvm.Cond.methodLink "SleightHouse" (355 : Nat) ({ cls := "SleightHouse$Kin", name := "ways", desc := "()I" } : Jvm.MethodName) ∈ lw_good := lw_good_in 1237 (by decide +kernel) (by decide +kernel)
theorem w_1238 : Jvm.Cond.instanceMethod ({ cls := "SleightHouse$Kin", name := "ways", desc := "()I" } : Jvm.MethodName) ∈ lw_good := lw_good_in 1238 (by decide +kernel) (by decide +kernel)
theorem w_1239 : Jvm.Cond.selects "SleightHouse$Kin" ({ cls := "SleightHouse$Kin", name := "ways", desc := "()I" } : Jvm.MethodName) ({ cls := "SleightHouse$Kin", name := "ways", desc := "()I" } : Jvm.MethodName) ∈ lw_good := lw_good_in 1239 (by decide +kernel) (by decide +kernel)
theorem w_1240 : Jvm.Cond.code ({ cls := "SleightHouse$Kin", name := "ways", desc := "()I" } : Jvm.MethodName) prog_4_method_5_code (1 : Nat) (Option.some Jvm.ClassFile.FieldType.int) ∈ lw_good := lw_good_in 1240 (by decide +kernel) (by decide +kernel)
theorem w_1241 : Jvm.Cond.methodLink "SleightHouse$Kin" (61 : Nat) ({ cls := "SleightHouse$Kin", name := "waysOf", desc := "(II)J" } : Jvm.MethodName) ∈ lw_good := lw_good_in 1241 (by decide +kernel) (by decide +kernel)
theorem w_1243 : Jvm.Cond.instanceMethod ({ cls := "SleightHouse$Kin", name := "waysOf", desc := "(II)J" } : Jvm.MethodName) ∈ lw_good := lw_good_in 1243 (by decide +kernel) (by decide +kernel)
theorem w_1244 : Jvm.Cond.code ({ cls := "SleightHouse$Kin", name := "waysOf", desc := "(II)J" } : Jvm.MethodName) prog_4_method_7_code (8 : Nat) (Option.some Jvm.ClassFile.FieldType.long) ∈ lw_good := lw_good_in 1244 (by decide +kernel) (by decide +kernel)
theorem w_1246 : Jvm.Cond.methodLink "SleightHouse$Kin" (75 : Nat) ({ cls := "SleightHouse$Kin", name := "knotOf", desc := "(II)I" } : Jvm.MethodName) ∈ lw_good := lw_good_in 1246 (by decide +kernel) (by decide +kernel)
theorem w_1248 : Jvm.Cond.instanceMethod ({ cls := "SleightHouse$Kin", name := "knotOf", desc := "(II)I" } : Jvm.MethodName) ∈ lw_good := lw_good_in 1248 (by decide +kernel) (by decide +kernel)
theorem w_1250 : Jvm.Cond.methodLink "SleightHouse$Kin" (78 : Nat) ({ cls := "SleightHouse$Kin", name := "waysOfKnot", desc := "(II)J" } : Jvm.MethodName) ∈ lw_good := lw_good_in 1250 (by decide +kernel) (by decide +kernel)
theorem w_1252 : Jvm.Cond.instanceMethod ({ cls := "SleightHouse$Kin", name := "waysOfKnot", desc := "(II)J" } : Jvm.MethodName) ∈ lw_good := lw_good_in 1252 (by decide +kernel) (by decide +kernel)
theorem w_1253 : Jvm.Cond.code ({ cls := "SleightHouse$Kin", name := "waysOfKnot", desc := "(II)J" } : Jvm.MethodName) prog_4_method_8_code (7 : Nat) (Option.some Jvm.ClassFile.FieldType.long) ∈ lw_good := lw_good_in 1253 (by decide +kernel) (by decide +kernel)
theorem w_1254 : Jvm.Cond.methodLink "SleightHouse$Kin" (83 : Nat) ({ cls := "SleightHouse$Kin", name := "mostBound", desc := "(I)I" } : Jvm.MethodName) ∈ lw_good := lw_good_in 1254 (by decide +kernel) (by decide +kernel)
theorem w_1256 : Jvm.Cond.instanceMethod ({ cls := "SleightHouse$Kin", name := "mostBound", desc := "(I)I" } : Jvm.MethodName) ∈ lw_good := lw_good_in 1256 (by decide +kernel) (by decide +kernel)
theorem w_1259 : Jvm.Cond.methodLink "SleightHouse$Kin" (87 : Nat) ({ cls := "SleightHouse$Kin", name := "bondsHold", desc := "(I)Z" } : Jvm.MethodName) ∈ lw_good := lw_good_in 1259 (by decide +kernel) (by decide +kernel)
theorem w_1261 : Jvm.Cond.instanceMethod ({ cls := "SleightHouse$Kin", name := "bondsHold", desc := "(I)Z" } : Jvm.MethodName) ∈ lw_good := lw_good_in 1261 (by decide +kernel) (by decide +kernel)
theorem w_1271 : Jvm.Cond.constantLong "SleightHouse$Kin" (81 : Nat) (1000000007 : Int64) ∈ lw_good := lw_good_in 1271 (by decide +kernel) (by decide +kernel)
theorem w_1272 : Jvm.Cond.methodLink "SleightHouse" (358 : Nat) ({ cls := "SleightHouse$Kin", name := "fewAndMany", desc := "(I)I" } : Jvm.MethodName) ∈ lw_good := lw_good_in 1272 (by decide +kernel) (by decide +kernel)
theorem w_1273 : Jvm.Cond.instanceMethod ({ cls := "SleightHouse$Kin", name := "fewAndMany", desc := "(I)I" } : Jvm.MethodName) ∈ lw_good := lw_good_in 1273 (by decide +kernel) (by decide +kernel)
theorem w_1274 : Jvm.Cond.selects "SleightHouse$Kin" ({ cls := "SleightHouse$Kin", name := "fewAndMany", desc := "(I)I" } : Jvm.MethodName) ({ cls := "SleightHouse$Kin", name := "fewAndMany", desc := "(I)I" } : Jvm.MethodName) ∈ lw_good := lw_good_in 1274 (by decide +kernel) (by decide +kernel)
theorem w_1275 : Jvm.Cond.code ({ cls := "SleightHouse$Kin", name := "fewAndMany", desc := "(I)I" } : Jvm.MethodName) prog_4_method_6_code (6 : Nat) (Option.some Jvm.ClassFile.FieldType.int) ∈ lw_good := lw_good_in 1275 (by decide +kernel) (by decide +kernel)
theorem w_1276 : Jvm.Cond.methodLink "SleightHouse$Kin" (65 : Nat) ({ cls := "SleightHouse$Kin", name := "ways", desc := "()I" } : Jvm.MethodName) ∈ lw_good := lw_good_in 1276 (by decide +kernel) (by decide +kernel)
