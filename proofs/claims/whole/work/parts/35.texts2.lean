/-! ===== words of the texts ===== -/
theorem w_12 : Cond.selects "SleightHouse$Reader" (⟨"SleightHouse$Reader", "cut", "(I)V"⟩ : MethodName) (⟨"SleightHouse$Reader", "cut", "(I)V"⟩ : MethodName) ∈ lw_good := lw_good_in 12 (by decide +kernel) (by decide +kernel)
theorem w_13 : Cond.selects "SleightHouse$Reader" (⟨"SleightHouse$Reader", "addToken", "(III)V"⟩ : MethodName) (⟨"SleightHouse$Reader", "addToken", "(III)V"⟩ : MethodName) ∈ lw_good := lw_good_in 13 (by decide +kernel) (by decide +kernel)
theorem w_14 : Cond.selects "SleightHouse$Reader" (⟨"SleightHouse$Reader", "groupEnd", "(II)I"⟩ : MethodName) (⟨"SleightHouse$Reader", "groupEnd", "(II)I"⟩ : MethodName) ∈ lw_good := lw_good_in 14 (by decide +kernel) (by decide +kernel)
theorem w_15 : Cond.selects "SleightHouse$Reader" (⟨"SleightHouse$Reader", "wordKind", "(II)I"⟩ : MethodName) (⟨"SleightHouse$Reader", "wordKind", "(II)I"⟩ : MethodName) ∈ lw_good := lw_good_in 15 (by decide +kernel) (by decide +kernel)
theorem w_16 : Cond.selects "SleightHouse$Reader" (⟨"SleightHouse$Reader", "isWord", "(III)Z"⟩ : MethodName) (⟨"SleightHouse$Reader", "isWord", "(III)Z"⟩ : MethodName) ∈ lw_good := lw_good_in 16 (by decide +kernel) (by decide +kernel)
theorem w_17 : Cond.selects "SleightHouse$Reader" (⟨"SleightHouse$Reader", "numberOf", "(II)I"⟩ : MethodName) (⟨"SleightHouse$Reader", "numberOf", "(II)I"⟩ : MethodName) ∈ lw_good := lw_good_in 17 (by decide +kernel) (by decide +kernel)
theorem w_18 : Cond.selects "SleightHouse$Reader" (⟨"SleightHouse$Reader", "canBegin", "(I)Z"⟩ : MethodName) (⟨"SleightHouse$Reader", "canBegin", "(I)Z"⟩ : MethodName) ∈ lw_good := lw_good_in 18 (by decide +kernel) (by decide +kernel)
theorem w_20 : Cond.selects "SleightHouse$Reader" (⟨"SleightHouse$Reader", "lawLine", "()Z"⟩ : MethodName) (⟨"SleightHouse$Reader", "lawLine", "()Z"⟩ : MethodName) ∈ lw_good := lw_good_in 20 (by decide +kernel) (by decide +kernel)
theorem w_28 : Cond.selects "SleightHouse$Reader" (⟨"SleightHouse$Reader", "supperLine", "()Z"⟩ : MethodName) (⟨"SleightHouse$Reader", "supperLine", "()Z"⟩ : MethodName) ∈ lw_good := lw_good_in 28 (by decide +kernel) (by decide +kernel)
theorem w_30 : Cond.selects "SleightHouse$Reader" (⟨"SleightHouse$Reader", "customLine", "()Z"⟩ : MethodName) (⟨"SleightHouse$Reader", "customLine", "()Z"⟩ : MethodName) ∈ lw_good := lw_good_in 30 (by decide +kernel) (by decide +kernel)
theorem w_32 : Cond.selects "SleightHouse$Reader" (⟨"SleightHouse$Reader", "childLine", "()Z"⟩ : MethodName) (⟨"SleightHouse$Reader", "childLine", "()Z"⟩ : MethodName) ∈ lw_good := lw_good_in 32 (by decide +kernel) (by decide +kernel)
theorem w_153 : Jvm.Cond.initialized "java/lang/String" ∈ lw_good := lw_good_in 153 (by decide +kernel) (by decide +kernel)
theorem w_154 : Jvm.Cond.initialized "java/lang/StringLatin1" ∈ lw_good := lw_good_in 154 (by decide +kernel) (by decide +kernel)
theorem w_156 : Jvm.Cond.initialized "jdk/internal/util/Preconditions" ∈ lw_good := lw_good_in 156 (by decide +kernel) (by decide +kernel)
theorem w_494 : Jvm.Cond.fieldLink "SleightHouse" (203 : Nat) "SleightHouse$Reader" "law" "LSleightHouse$Law;" ∈ lw_good := lw_good_in 494 (by decide +kernel) (by decide +kernel)
theorem w_496 : Jvm.Cond.fieldLink "SleightHouse" (217 : Nat) "SleightHouse$Reader" "rows" "LSleightHouse$Rows;" ∈ lw_good := lw_good_in 496 (by decide +kernel) (by decide +kernel)
theorem w_820 : Jvm.Cond.code ({ cls := "SleightHouse", name := "text", desc := "(I)I" } : Jvm.MethodName) prog_1_method_16_code (3 : Nat) (Option.some Jvm.ClassFile.FieldType.int) ∈ lw_good := lw_good_in 820 (by decide +kernel) (by decide +kernel)
theorem w_821 : Jvm.Cond.methodLink "SleightHouse" (196 : Nat) ({ cls := "SleightHouse$Reader", name := "read", desc := "(I)Z" } : Jvm.MethodName) ∈ lw_good := lw_good_in 821 (by decide +kernel) (by decide +kernel)
theorem w_822 : Jvm.Cond.instanceMethod ({ cls := "SleightHouse$Reader", name := "read", desc := "(I)Z" } : Jvm.MethodName) ∈ lw_good := lw_good_in 822 (by decide +kernel) (by decide +kernel)
theorem w_823 : Jvm.Cond.selects "SleightHouse$Reader" ({ cls := "SleightHouse$Reader", name := "read", desc := "(I)Z" } : Jvm.MethodName) ({ cls := "SleightHouse$Reader", name := "read", desc := "(I)Z" } : Jvm.MethodName) ∈ lw_good := lw_good_in 823 (by decide +kernel) (by decide +kernel)
theorem w_824 : Jvm.Cond.code ({ cls := "SleightHouse$Reader", name := "read", desc := "(I)Z" } : Jvm.MethodName) prog_8_method_3_code (5 : Nat) (Option.some Jvm.ClassFile.FieldType.boolean) ∈ lw_good := lw_good_in 824 (by decide +kernel) (by decide +kernel)
theorem w_825 : Jvm.Cond.methodLink "SleightHouse$Reader" (61 : Nat) ({ cls := "SleightHouse$Reader", name := "cut", desc := "(I)V" } : Jvm.MethodName) ∈ lw_good := lw_good_in 825 (by decide +kernel) (by decide +kernel)
theorem w_827 : Jvm.Cond.instanceMethod ({ cls := "SleightHouse$Reader", name := "cut", desc := "(I)V" } : Jvm.MethodName) ∈ lw_good := lw_good_in 827 (by decide +kernel) (by decide +kernel)
theorem w_828 : Jvm.Cond.code ({ cls := "SleightHouse$Reader", name := "cut", desc := "(I)V" } : Jvm.MethodName) prog_8_method_4_code (6 : Nat) (Option.none : Option Jvm.ClassFile.FieldType) ∈ lw_good := lw_good_in 828 (by decide +kernel) (by decide +kernel)
theorem w_829 : Jvm.Cond.methodLink "SleightHouse$Reader" (91 : Nat) ({ cls := "SleightHouse$Reader", name := "groupOf", desc := "(I)I" } : Jvm.MethodName) ∈ lw_good := lw_good_in 829 (by decide +kernel) (by decide +kernel)
theorem w_830 : Jvm.Cond.static ({ cls := "SleightHouse$Reader", name := "groupOf", desc := "(I)I" } : Jvm.MethodName) ∈ lw_good := lw_good_in 830 (by decide +kernel) (by decide +kernel)
theorem w_831 : Jvm.Cond.code ({ cls := "SleightHouse$Reader", name := "groupOf", desc := "(I)I" } : Jvm.MethodName) prog_8_method_6_code (1 : Nat) (Option.some Jvm.ClassFile.FieldType.int) ∈ lw_good := lw_good_in 831 (by decide +kernel) (by decide +kernel)
theorem w_833 : Jvm.Cond.methodLink "SleightHouse$Reader" (97 : Nat) ({ cls := "java/lang/String", name := "indexOf", desc := "(I)I" } : Jvm.MethodName) ∈ lw_good := lw_good_in 833 (by decide +kernel) (by decide +kernel)
theorem w_834 : Jvm.Cond.instanceMethod ({ cls := "java/lang/String", name := "indexOf", desc := "(I)I" } : Jvm.MethodName) ∈ lw_good := lw_good_in 834 (by decide +kernel) (by decide +kernel)
theorem w_835 : Jvm.Cond.selects "java/lang/String" ({ cls := "java/lang/String", name := "indexOf", desc := "(I)I" } : Jvm.MethodName) ({ cls := "java/lang/String", name := "indexOf", desc := "(I)I" } : Jvm.MethodName) ∈ lw_good := lw_good_in 835 (by decide +kernel) (by decide +kernel)
theorem w_836 : Jvm.Cond.code ({ cls := "java/lang/String", name := "indexOf", desc := "(I)I" } : Jvm.MethodName) prog_18_method_79_code (2 : Nat) (Option.some Jvm.ClassFile.FieldType.int) ∈ lw_good := lw_good_in 836 (by decide +kernel) (by decide +kernel)
theorem w_837 : Jvm.Cond.methodLink "java/lang/String" (633 : Nat) ({ cls := "java/lang/String", name := "indexOf", desc := "(II)I" } : Jvm.MethodName) ∈ lw_good := lw_good_in 837 (by decide +kernel) (by decide +kernel)
theorem w_838 : Jvm.Cond.instanceMethod ({ cls := "java/lang/String", name := "indexOf", desc := "(II)I" } : Jvm.MethodName) ∈ lw_good := lw_good_in 838 (by decide +kernel) (by decide +kernel)
theorem w_839 : Jvm.Cond.selects "java/lang/String" ({ cls := "java/lang/String", name := "indexOf", desc := "(II)I" } : Jvm.MethodName) ({ cls := "java/lang/String", name := "indexOf", desc := "(II)I" } : Jvm.MethodName) ∈ lw_good := lw_good_in 839 (by decide +kernel) (by decide +kernel)
theorem w_840 : Jvm.Cond.code ({ cls := "java/lang/String", name := "indexOf", desc := "(II)I" } : Jvm.MethodName) prog_18_method_80_code (3 : Nat) (Option.some Jvm.ClassFile.FieldType.int) ∈ lw_good := lw_good_in 840 (by decide +kernel) (by decide +kernel)
theorem w_841 : Jvm.Cond.methodLink "java/lang/String" (492 : Nat) ({ cls := "java/lang/String", name := "isLatin1", desc := "()Z" } : Jvm.MethodName) ∈ lw_good := lw_good_in 841 (by decide +kernel) (by decide +kernel)
theorem w_842 : Jvm.Cond.instanceMethod ({ cls := "java/lang/String", name := "isLatin1", desc := "()Z" } : Jvm.MethodName) ∈ lw_good := lw_good_in 842 (by decide +kernel) (by decide +kernel)
theorem w_843 : Jvm.Cond.selects "java/lang/String" ({ cls := "java/lang/String", name := "isLatin1", desc := "()Z" } : Jvm.MethodName) ({ cls := "java/lang/String", name := "isLatin1", desc := "()Z" } : Jvm.MethodName) ∈ lw_good := lw_good_in 843 (by decide +kernel) (by decide +kernel)
theorem w_844 : Jvm.Cond.code ({ cls := "java/lang/String", name := "isLatin1", desc := "()Z" } : Jvm.MethodName) prog_18_method_154_code (1 : Nat) (Option.some Jvm.ClassFile.FieldType.boolean) ∈ lw_good := lw_good_in 844 (by decide +kernel) (by decide +kernel)
theorem w_845 : Jvm.Cond.fieldLink "java/lang/String" (38 : Nat) "java/lang/String" "COMPACT_STRINGS" "Z" ∈ lw_good := lw_good_in 845 (by decide +kernel) (by decide +kernel)
theorem w_847 : Jvm.Cond.methodLink "java/lang/String" (505 : Nat) ({ cls := "java/lang/String", name := "length", desc := "()I" } : Jvm.MethodName) ∈ lw_good := lw_good_in 847 (by decide +kernel) (by decide +kernel)
theorem w_848 : Jvm.Cond.instanceMethod ({ cls := "java/lang/String", name := "length", desc := "()I" } : Jvm.MethodName) ∈ lw_good := lw_good_in 848 (by decide +kernel) (by decide +kernel)
theorem w_849 : Jvm.Cond.selects "java/lang/String" ({ cls := "java/lang/String", name := "length", desc := "()I" } : Jvm.MethodName) ({ cls := "java/lang/String", name := "length", desc := "()I" } : Jvm.MethodName) ∈ lw_good := lw_good_in 849 (by decide +kernel) (by decide +kernel)
theorem w_850 : Jvm.Cond.code ({ cls := "java/lang/String", name := "length", desc := "()I" } : Jvm.MethodName) prog_18_method_54_code (1 : Nat) (Option.some Jvm.ClassFile.FieldType.int) ∈ lw_good := lw_good_in 850 (by decide +kernel) (by decide +kernel)
theorem w_851 : Jvm.Cond.methodLink "java/lang/String" (335 : Nat) ({ cls := "java/lang/String", name := "coder", desc := "()B" } : Jvm.MethodName) ∈ lw_good := lw_good_in 851 (by decide +kernel) (by decide +kernel)
theorem w_852 : Jvm.Cond.instanceMethod ({ cls := "java/lang/String", name := "coder", desc := "()B" } : Jvm.MethodName) ∈ lw_good := lw_good_in 852 (by decide +kernel) (by decide +kernel)
theorem w_853 : Jvm.Cond.selects "java/lang/String" ({ cls := "java/lang/String", name := "coder", desc := "()B" } : Jvm.MethodName) ({ cls := "java/lang/String", name := "coder", desc := "()B" } : Jvm.MethodName) ∈ lw_good := lw_good_in 853 (by decide +kernel) (by decide +kernel)
theorem w_854 : Jvm.Cond.code ({ cls := "java/lang/String", name := "coder", desc := "()B" } : Jvm.MethodName) prog_18_method_152_code (1 : Nat) (Option.some Jvm.ClassFile.FieldType.byte) ∈ lw_good := lw_good_in 854 (by decide +kernel) (by decide +kernel)
theorem w_855 : Jvm.Cond.methodLink "java/lang/String" (637 : Nat) ({ cls := "java/lang/StringLatin1", name := "indexOf", desc := "([BIII)I" } : Jvm.MethodName) ∈ lw_good := lw_good_in 855 (by decide +kernel) (by decide +kernel)
theorem w_856 : Jvm.Cond.static ({ cls := "java/lang/StringLatin1", name := "indexOf", desc := "([BIII)I" } : Jvm.MethodName) ∈ lw_good := lw_good_in 856 (by decide +kernel) (by decide +kernel)
theorem w_857 : Jvm.Cond.code ({ cls := "java/lang/StringLatin1", name := "indexOf", desc := "([BIII)I" } : Jvm.MethodName) prog_19_method_22_code (4 : Nat) (Option.some Jvm.ClassFile.FieldType.int) ∈ lw_good := lw_good_in 857 (by decide +kernel) (by decide +kernel)
theorem w_858 : Jvm.Cond.methodLink "java/lang/StringLatin1" (88 : Nat) ({ cls := "java/lang/StringLatin1", name := "canEncode", desc := "(I)Z" } : Jvm.MethodName) ∈ lw_good := lw_good_in 858 (by decide +kernel) (by decide +kernel)
theorem w_859 : Jvm.Cond.static ({ cls := "java/lang/StringLatin1", name := "canEncode", desc := "(I)Z" } : Jvm.MethodName) ∈ lw_good := lw_good_in 859 (by decide +kernel) (by decide +kernel)
theorem w_860 : Jvm.Cond.code ({ cls := "java/lang/StringLatin1", name := "canEncode", desc := "(I)Z" } : Jvm.MethodName) prog_19_method_4_code (1 : Nat) (Option.some Jvm.ClassFile.FieldType.boolean) ∈ lw_good := lw_good_in 860 (by decide +kernel) (by decide +kernel)
theorem w_861 : Jvm.Cond.methodLink "java/lang/StringLatin1" (92 : Nat) ({ cls := "java/lang/Math", name := "max", desc := "(II)I" } : Jvm.MethodName) ∈ lw_good := lw_good_in 861 (by decide +kernel) (by decide +kernel)
theorem w_862 : Jvm.Cond.methodLink "java/lang/StringLatin1" (38 : Nat) ({ cls := "java/lang/Math", name := "min", desc := "(II)I" } : Jvm.MethodName) ∈ lw_good := lw_good_in 862 (by decide +kernel) (by decide +kernel)
theorem w_863 : Jvm.Cond.methodLink "java/lang/StringLatin1" (95 : Nat) ({ cls := "java/lang/StringLatin1", name := "indexOfChar", desc := "([BIII)I" } : Jvm.MethodName) ∈ lw_good := lw_good_in 863 (by decide +kernel) (by decide +kernel)
theorem w_864 : Jvm.Cond.static ({ cls := "java/lang/StringLatin1", name := "indexOfChar", desc := "([BIII)I" } : Jvm.MethodName) ∈ lw_good := lw_good_in 864 (by decide +kernel) (by decide +kernel)
theorem w_865 : Jvm.Cond.code ({ cls := "java/lang/StringLatin1", name := "indexOfChar", desc := "([BIII)I" } : Jvm.MethodName) prog_19_method_23_code (6 : Nat) (Option.some Jvm.ClassFile.FieldType.int) ∈ lw_good := lw_good_in 865 (by decide +kernel) (by decide +kernel)
theorem w_884 : Jvm.Cond.fieldLink "java/lang/String" (1053 : Nat) "jdk/internal/util/Preconditions" "SIOOBE_FORMATTER" "Ljava/util/function/BiFunction;" ∈ lw_good := lw_good_in 884 (by decide +kernel) (by decide +kernel)
theorem w_915 : Jvm.Cond.methodLink "SleightHouse$Reader" (102 : Nat) ({ cls := "SleightHouse$Reader", name := "addToken", desc := "(III)V" } : Jvm.MethodName) ∈ lw_good := lw_good_in 915 (by decide +kernel) (by decide +kernel)
theorem w_917 : Jvm.Cond.instanceMethod ({ cls := "SleightHouse$Reader", name := "addToken", desc := "(III)V" } : Jvm.MethodName) ∈ lw_good := lw_good_in 917 (by decide +kernel) (by decide +kernel)
theorem w_918 : Jvm.Cond.code ({ cls := "SleightHouse$Reader", name := "addToken", desc := "(III)V" } : Jvm.MethodName) prog_8_method_5_code (4 : Nat) (Option.none : Option Jvm.ClassFile.FieldType) ∈ lw_good := lw_good_in 918 (by decide +kernel) (by decide +kernel)
theorem w_919 : Jvm.Cond.methodLink "SleightHouse$Reader" (106 : Nat) ({ cls := "SleightHouse$Reader", name := "groupEnd", desc := "(II)I" } : Jvm.MethodName) ∈ lw_good := lw_good_in 919 (by decide +kernel) (by decide +kernel)
theorem w_921 : Jvm.Cond.instanceMethod ({ cls := "SleightHouse$Reader", name := "groupEnd", desc := "(II)I" } : Jvm.MethodName) ∈ lw_good := lw_good_in 921 (by decide +kernel) (by decide +kernel)
theorem w_922 : Jvm.Cond.code ({ cls := "SleightHouse$Reader", name := "groupEnd", desc := "(II)I" } : Jvm.MethodName) prog_8_method_7_code (5 : Nat) (Option.some Jvm.ClassFile.FieldType.int) ∈ lw_good := lw_good_in 922 (by decide +kernel) (by decide +kernel)
theorem w_923 : Jvm.Cond.methodLink "SleightHouse$Reader" (110 : Nat) ({ cls := "SleightHouse$Reader", name := "wordKind", desc := "(II)I" } : Jvm.MethodName) ∈ lw_good := lw_good_in 923 (by decide +kernel) (by decide +kernel)
theorem w_925 : Jvm.Cond.instanceMethod ({ cls := "SleightHouse$Reader", name := "wordKind", desc := "(II)I" } : Jvm.MethodName) ∈ lw_good := lw_good_in 925 (by decide +kernel) (by decide +kernel)
theorem w_926 : Jvm.Cond.code ({ cls := "SleightHouse$Reader", name := "wordKind", desc := "(II)I" } : Jvm.MethodName) prog_8_method_9_code (6 : Nat) (Option.some Jvm.ClassFile.FieldType.int) ∈ lw_good := lw_good_in 926 (by decide +kernel) (by decide +kernel)
theorem w_928 : Jvm.Cond.methodLink "SleightHouse$Reader" (118 : Nat) ({ cls := "java/lang/String", name := "length", desc := "()I" } : Jvm.MethodName) ∈ lw_good := lw_good_in 928 (by decide +kernel) (by decide +kernel)
theorem w_929 : Jvm.Cond.methodLink "SleightHouse$Reader" (120 : Nat) ({ cls := "java/lang/String", name := "charAt", desc := "(I)C" } : Jvm.MethodName) ∈ lw_good := lw_good_in 929 (by decide +kernel) (by decide +kernel)
theorem w_930 : Jvm.Cond.instanceMethod ({ cls := "java/lang/String", name := "charAt", desc := "(I)C" } : Jvm.MethodName) ∈ lw_good := lw_good_in 930 (by decide +kernel) (by decide +kernel)
theorem w_931 : Jvm.Cond.selects "java/lang/String" ({ cls := "java/lang/String", name := "charAt", desc := "(I)C" } : Jvm.MethodName) ({ cls := "java/lang/String", name := "charAt", desc := "(I)C" } : Jvm.MethodName) ∈ lw_good := lw_good_in 931 (by decide +kernel) (by decide +kernel)
theorem w_932 : Jvm.Cond.code ({ cls := "java/lang/String", name := "charAt", desc := "(I)C" } : Jvm.MethodName) prog_18_method_56_code (2 : Nat) (Option.some Jvm.ClassFile.FieldType.char) ∈ lw_good := lw_good_in 932 (by decide +kernel) (by decide +kernel)
theorem w_933 : Jvm.Cond.methodLink "java/lang/String" (495 : Nat) ({ cls := "java/lang/StringLatin1", name := "charAt", desc := "([BI)C" } : Jvm.MethodName) ∈ lw_good := lw_good_in 933 (by decide +kernel) (by decide +kernel)
theorem w_934 : Jvm.Cond.static ({ cls := "java/lang/StringLatin1", name := "charAt", desc := "([BI)C" } : Jvm.MethodName) ∈ lw_good := lw_good_in 934 (by decide +kernel) (by decide +kernel)
theorem w_935 : Jvm.Cond.code ({ cls := "java/lang/StringLatin1", name := "charAt", desc := "([BI)C" } : Jvm.MethodName) prog_19_method_2_code (2 : Nat) (Option.some Jvm.ClassFile.FieldType.char) ∈ lw_good := lw_good_in 935 (by decide +kernel) (by decide +kernel)
theorem w_936 : Jvm.Cond.methodLink "java/lang/StringLatin1" (9 : Nat) ({ cls := "java/lang/String", name := "checkIndex", desc := "(II)V" } : Jvm.MethodName) ∈ lw_good := lw_good_in 936 (by decide +kernel) (by decide +kernel)
theorem w_937 : Jvm.Cond.static ({ cls := "java/lang/String", name := "checkIndex", desc := "(II)V" } : Jvm.MethodName) ∈ lw_good := lw_good_in 937 (by decide +kernel) (by decide +kernel)
theorem w_938 : Jvm.Cond.code ({ cls := "java/lang/String", name := "checkIndex", desc := "(II)V" } : Jvm.MethodName) prog_18_method_155_code (2 : Nat) (Option.none : Option Jvm.ClassFile.FieldType) ∈ lw_good := lw_good_in 938 (by decide +kernel) (by decide +kernel)
theorem w_939 : Jvm.Cond.methodLink "java/lang/String" (1059 : Nat) ({ cls := "jdk/internal/util/Preconditions", name := "checkIndex", desc := "(IILjava/util/function/BiFunction;)I" } : Jvm.MethodName) ∈ lw_good := lw_good_in 939 (by decide +kernel) (by decide +kernel)
theorem w_940 : Jvm.Cond.static ({ cls := "jdk/internal/util/Preconditions", name := "checkIndex", desc := "(IILjava/util/function/BiFunction;)I" } : Jvm.MethodName) ∈ lw_good := lw_good_in 940 (by decide +kernel) (by decide +kernel)
theorem w_941 : Jvm.Cond.code ({ cls := "jdk/internal/util/Preconditions", name := "checkIndex", desc := "(IILjava/util/function/BiFunction;)I" } : Jvm.MethodName) prog_23_method_11_code (3 : Nat) (Option.some Jvm.ClassFile.FieldType.int) ∈ lw_good := lw_good_in 941 (by decide +kernel) (by decide +kernel)
theorem w_949 : Jvm.Cond.methodLink "SleightHouse$Reader" (124 : Nat) ({ cls := "SleightHouse$Reader", name := "isWord", desc := "(III)Z" } : Jvm.MethodName) ∈ lw_good := lw_good_in 949 (by decide +kernel) (by decide +kernel)
theorem w_951 : Jvm.Cond.instanceMethod ({ cls := "SleightHouse$Reader", name := "isWord", desc := "(III)Z" } : Jvm.MethodName) ∈ lw_good := lw_good_in 951 (by decide +kernel) (by decide +kernel)
theorem w_952 : Jvm.Cond.code ({ cls := "SleightHouse$Reader", name := "isWord", desc := "(III)Z" } : Jvm.MethodName) prog_8_method_10_code (5 : Nat) (Option.some Jvm.ClassFile.FieldType.boolean) ∈ lw_good := lw_good_in 952 (by decide +kernel) (by decide +kernel)
theorem w_953 : Jvm.Cond.methodLink "SleightHouse$Reader" (113 : Nat) ({ cls := "SleightHouse$Reader", name := "numberOf", desc := "(II)I" } : Jvm.MethodName) ∈ lw_good := lw_good_in 953 (by decide +kernel) (by decide +kernel)
theorem w_955 : Jvm.Cond.instanceMethod ({ cls := "SleightHouse$Reader", name := "numberOf", desc := "(II)I" } : Jvm.MethodName) ∈ lw_good := lw_good_in 955 (by decide +kernel) (by decide +kernel)
theorem w_956 : Jvm.Cond.code ({ cls := "SleightHouse$Reader", name := "numberOf", desc := "(II)I" } : Jvm.MethodName) prog_8_method_8_code (5 : Nat) (Option.some Jvm.ClassFile.FieldType.int) ∈ lw_good := lw_good_in 956 (by decide +kernel) (by decide +kernel)
theorem w_957 : Jvm.Cond.methodLink "SleightHouse$Reader" (65 : Nat) ({ cls := "SleightHouse$Law", name := "clear", desc := "()V" } : Jvm.MethodName) ∈ lw_good := lw_good_in 957 (by decide +kernel) (by decide +kernel)
theorem w_958 : Jvm.Cond.instanceMethod ({ cls := "SleightHouse$Law", name := "clear", desc := "()V" } : Jvm.MethodName) ∈ lw_good := lw_good_in 958 (by decide +kernel) (by decide +kernel)
theorem w_959 : Jvm.Cond.selects "SleightHouse$Law" ({ cls := "SleightHouse$Law", name := "clear", desc := "()V" } : Jvm.MethodName) ({ cls := "SleightHouse$Law", name := "clear", desc := "()V" } : Jvm.MethodName) ∈ lw_good := lw_good_in 959 (by decide +kernel) (by decide +kernel)
theorem w_961 : Jvm.Cond.methodLink "SleightHouse$Reader" (68 : Nat) ({ cls := "SleightHouse$Rows", name := "clear", desc := "()I" } : Jvm.MethodName) ∈ lw_good := lw_good_in 961 (by decide +kernel) (by decide +kernel)
theorem w_965 : Jvm.Cond.methodLink "SleightHouse$Reader" (71 : Nat) ({ cls := "SleightHouse$Reader", name := "canBegin", desc := "(I)Z" } : Jvm.MethodName) ∈ lw_good := lw_good_in 965 (by decide +kernel) (by decide +kernel)
theorem w_967 : Jvm.Cond.instanceMethod ({ cls := "SleightHouse$Reader", name := "canBegin", desc := "(I)Z" } : Jvm.MethodName) ∈ lw_good := lw_good_in 967 (by decide +kernel) (by decide +kernel)
theorem w_973 : Jvm.Cond.methodLink "SleightHouse$Reader" (78 : Nat) ({ cls := "SleightHouse$Reader", name := "lawLine", desc := "()Z" } : Jvm.MethodName) ∈ lw_good := lw_good_in 973 (by decide +kernel) (by decide +kernel)
theorem w_975 : Jvm.Cond.instanceMethod ({ cls := "SleightHouse$Reader", name := "lawLine", desc := "()Z" } : Jvm.MethodName) ∈ lw_good := lw_good_in 975 (by decide +kernel) (by decide +kernel)
theorem w_1021 : Jvm.Cond.methodLink "SleightHouse$Reader" (82 : Nat) ({ cls := "SleightHouse$Reader", name := "supperLine", desc := "()Z" } : Jvm.MethodName) ∈ lw_good := lw_good_in 1021 (by decide +kernel) (by decide +kernel)
theorem w_1023 : Jvm.Cond.instanceMethod ({ cls := "SleightHouse$Reader", name := "supperLine", desc := "()Z" } : Jvm.MethodName) ∈ lw_good := lw_good_in 1023 (by decide +kernel) (by decide +kernel)
theorem w_1034 : Jvm.Cond.methodLink "SleightHouse$Reader" (85 : Nat) ({ cls := "SleightHouse$Reader", name := "customLine", desc := "()Z" } : Jvm.MethodName) ∈ lw_good := lw_good_in 1034 (by decide +kernel) (by decide +kernel)
theorem w_1036 : Jvm.Cond.instanceMethod ({ cls := "SleightHouse$Reader", name := "customLine", desc := "()Z" } : Jvm.MethodName) ∈ lw_good := lw_good_in 1036 (by decide +kernel) (by decide +kernel)
theorem w_1042 : Jvm.Cond.methodLink "SleightHouse$Reader" (88 : Nat) ({ cls := "SleightHouse$Reader", name := "childLine", desc := "()Z" } : Jvm.MethodName) ∈ lw_good := lw_good_in 1042 (by decide +kernel) (by decide +kernel)
theorem w_1044 : Jvm.Cond.instanceMethod ({ cls := "SleightHouse$Reader", name := "childLine", desc := "()Z" } : Jvm.MethodName) ∈ lw_good := lw_good_in 1044 (by decide +kernel) (by decide +kernel)
theorem w_1051 : Jvm.Cond.methodLink "SleightHouse" (204 : Nat) ({ cls := "SleightHouse$Law", name := "copyFrom", desc := "(LSleightHouse$Law;)V" } : Jvm.MethodName) ∈ lw_good := lw_good_in 1051 (by decide +kernel) (by decide +kernel)
theorem w_1056 : Jvm.Cond.methodLink "SleightHouse" (213 : Nat) ({ cls := "SleightHouse$House", name := "linesOf", desc := "(I)LSleightHouse$Rows;" } : Jvm.MethodName) ∈ lw_good := lw_good_in 1056 (by decide +kernel) (by decide +kernel)
theorem w_1057 : Jvm.Cond.instanceMethod ({ cls := "SleightHouse$House", name := "linesOf", desc := "(I)LSleightHouse$Rows;" } : Jvm.MethodName) ∈ lw_good := lw_good_in 1057 (by decide +kernel) (by decide +kernel)
theorem w_1058 : Jvm.Cond.selects "SleightHouse$House" ({ cls := "SleightHouse$House", name := "linesOf", desc := "(I)LSleightHouse$Rows;" } : Jvm.MethodName) ({ cls := "SleightHouse$House", name := "linesOf", desc := "(I)LSleightHouse$Rows;" } : Jvm.MethodName) ∈ lw_good := lw_good_in 1058 (by decide +kernel) (by decide +kernel)
theorem w_1060 : Jvm.Cond.methodLink "SleightHouse" (221 : Nat) ({ cls := "SleightHouse$Rows", name := "copyFrom", desc := "(LSleightHouse$Rows;)V" } : Jvm.MethodName) ∈ lw_good := lw_good_in 1060 (by decide +kernel) (by decide +kernel)
theorem w_2189 : Jvm.Cond.fieldLink "java/lang/String" (15 : Nat) "java/lang/String" "coder" "B" ∈ lw_good := lw_good_in 2189 (by decide +kernel) (by decide +kernel)
theorem w_2190 : Jvm.Cond.fieldLink "java/lang/String" (9 : Nat) "java/lang/String" "value" "[B" ∈ lw_good := lw_good_in 2190 (by decide +kernel) (by decide +kernel)
/-! ===== SleightHouse$Reader.groupOf(I)I ===== -/
def mX6_groupOf : nY := (RX6, yX6_groupOf, cX6_groupOf, 1, some .int)
theorem okX6_groupOf : n_MOK mX6_groupOf 1 := ⟨w_831, w_148, ⟨by decide +kernel, by decide +kernel, by decide +kernel⟩, by decide⟩
abbrev aX6_groupOf : List (Nat × nO (Int32 × nM)) := [(0, o_iload 0 1), (1, o_push (.int (97 : Int32)) 3), (3, oc_lt 12 6), (6, o_iload 0 7), (7, o_push (.int (122 : Int32)) 9), (9, oc_le 24 12), (12, o_iload 0 13), (13, o_push (.int (65 : Int32)) 15), (15, oc_lt 26 18), (18, o_iload 0 19), (19, o_push (.int (90 : Int32)) 21), (21, oc_gt 26 24), (24, o_push (.int (1 : Int32)) 25), (25, o_iret), (26, o_iload 0 27), (27, o_push (.int (48 : Int32)) 29), (29, oc_lt 40 32), (32, o_iload 0 33), (33, o_push (.int (57 : Int32)) 35), (35, oc_gt 40 38), (38, o_push (.int (2 : Int32)) 39), (39, o_iret), (40, o_iload 0 41), (41, o_push (.int (32 : Int32)) 43), (43, oc_eq 52 46), (46, o_iload 0 47), (47, o_push (.int (10 : Int32)) 49), (49, oc_ne 56 52), (52, o_push (.int (0 : Int32)) 53), (53, o_goto 57), (56, o_push (.int (3 : Int32)) 57), (57, o_iret)]
set_option maxRecDepth 200000 in
theorem iX6_groupOf {l : Launch} {w : nW} {G : nG} : n_AllS l w 0 mX6_groupOf G (n_fin dv_i G) (aX6_groupOf) :=
  n_c (s_iload_n (pc := 0) (k := 0) (by decide +kernel)) <|
  n_c (s_bipush (pc := 1) (n := 97) (by decide +kernel) (by decide +kernel)) <|
  n_c (s_icmp_lt (pc := 3) (off := 9) (by decide +kernel) (by decide +kernel)) <|
  n_c (s_iload_n (pc := 6) (k := 0) (by decide +kernel)) <|
  n_c (s_bipush (pc := 7) (n := 122) (by decide +kernel) (by decide +kernel)) <|
  n_c (s_icmp_le (pc := 9) (off := 15) (by decide +kernel) (by decide +kernel)) <|
  n_c (s_iload_n (pc := 12) (k := 0) (by decide +kernel)) <|
  n_c (s_bipush (pc := 13) (n := 65) (by decide +kernel) (by decide +kernel)) <|
  n_c (s_icmp_lt (pc := 15) (off := 11) (by decide +kernel) (by decide +kernel)) <|
  n_c (s_iload_n (pc := 18) (k := 0) (by decide +kernel)) <|
  n_c (s_bipush (pc := 19) (n := 90) (by decide +kernel) (by decide +kernel)) <|
  n_c (s_icmp_gt (pc := 21) (off := 5) (by decide +kernel) (by decide +kernel)) <|
  n_c (s_iconst (pc := 24) (n := 1) (by decide +kernel) (by decide +kernel)) <|
  n_c (s_iret (pc := 25) rfl (by decide +kernel)) <|
  n_c (s_iload_n (pc := 26) (k := 0) (by decide +kernel)) <|
  n_c (s_bipush (pc := 27) (n := 48) (by decide +kernel) (by decide +kernel)) <|
  n_c (s_icmp_lt (pc := 29) (off := 11) (by decide +kernel) (by decide +kernel)) <|
  n_c (s_iload_n (pc := 32) (k := 0) (by decide +kernel)) <|
  n_c (s_bipush (pc := 33) (n := 57) (by decide +kernel) (by decide +kernel)) <|
  n_c (s_icmp_gt (pc := 35) (off := 5) (by decide +kernel) (by decide +kernel)) <|
  n_c (s_iconst (pc := 38) (n := 2) (by decide +kernel) (by decide +kernel)) <|
  n_c (s_iret (pc := 39) rfl (by decide +kernel)) <|
  n_c (s_iload_n (pc := 40) (k := 0) (by decide +kernel)) <|
  n_c (s_bipush (pc := 41) (n := 32) (by decide +kernel) (by decide +kernel)) <|
  n_c (s_icmp_eq (pc := 43) (off := 9) (by decide +kernel) (by decide +kernel)) <|
  n_c (s_iload_n (pc := 46) (k := 0) (by decide +kernel)) <|
  n_c (s_bipush (pc := 47) (n := 10) (by decide +kernel) (by decide +kernel)) <|
  n_c (s_icmp_ne (pc := 49) (off := 7) (by decide +kernel) (by decide +kernel)) <|
  n_c (s_iconst (pc := 52) (n := 0) (by decide +kernel) (by decide +kernel)) <|
  n_c (s_goto (pc := 53) (off := 4) (by decide +kernel) (by decide +kernel)) <|
  n_c (s_iconst (pc := 56) (n := 3) (by decide +kernel) (by decide +kernel)) <|
  n_c (s_iret (pc := 57) rfl (by decide +kernel)) <|
  n_e
def fX6_groupOf_40 (x0 : Int32) (M : nM) : Option (Int32 × nM) :=
  if x0 = (32 : Int32) then
    some ((0 : Int32), M)
  else
    if ¬ x0 = (10 : Int32) then
      some ((3 : Int32), M)
    else
      some ((0 : Int32), M)
set_option maxRecDepth 200000 in
theorem bX6_groupOf_40 {l : Launch} {w : nW} {G : nG} (x0 : Int32) (M : nM) (r : Int32 × nM) (h : fX6_groupOf_40 x0 M = some r) : n_At l w 0 mX6_groupOf 40 [(0, .int x0)] [] (G, M) (dv_i r.1, (G, r.2)) :=
  n_seg (fin := n_fin dv_i G) (K := []) 17 (iX6_groupOf) n_ke (by rfl) h
def fX6_groupOf_26 (x0 : Int32) (M : nM) : Option (Int32 × nM) :=
  if x0 < (48 : Int32) then
    fX6_groupOf_40 x0 M
  else
    if (57 : Int32) < x0 then
      fX6_groupOf_40 x0 M
    else
      some ((2 : Int32), M)
set_option maxRecDepth 200000 in
theorem bX6_groupOf_26 {l : Launch} {w : nW} {G : nG} (x0 : Int32) (M : nM) (r : Int32 × nM) (h : fX6_groupOf_26 x0 M = some r) : n_At l w 0 mX6_groupOf 26 [(0, .int x0)] [] (G, M) (dv_i r.1, (G, r.2)) :=
  n_seg (fin := n_fin dv_i G) (K := [(40, fun lv st M => n_lI lv 0 (fun x0 => n_pE st (fX6_groupOf_40 x0 M)))]) 11 (iX6_groupOf) (n_kc (fun lv st M r h => by
      obtain ⟨x0, e0, h1⟩ := n_lI_x h
      obtain ⟨rfl, h2⟩ := n_pE_x h1
      exact n_sub (n_qc e0 n_qe) (bX6_groupOf_40 x0 M r h2)) n_ke) (by rfl) h
def fX6_groupOf_12 (x0 : Int32) (M : nM) : Option (Int32 × nM) :=
  if x0 < (65 : Int32) then
    fX6_groupOf_26 x0 M
  else
    if (90 : Int32) < x0 then
      fX6_groupOf_26 x0 M
    else
      some ((1 : Int32), M)
set_option maxRecDepth 200000 in
theorem bX6_groupOf_12 {l : Launch} {w : nW} {G : nG} (x0 : Int32) (M : nM) (r : Int32 × nM) (h : fX6_groupOf_12 x0 M = some r) : n_At l w 0 mX6_groupOf 12 [(0, .int x0)] [] (G, M) (dv_i r.1, (G, r.2)) :=
  n_seg (fin := n_fin dv_i G) (K := [(26, fun lv st M => n_lI lv 0 (fun x0 => n_pE st (fX6_groupOf_26 x0 M)))]) 11 (iX6_groupOf) (n_kc (fun lv st M r h => by
      obtain ⟨x0, e0, h1⟩ := n_lI_x h
      obtain ⟨rfl, h2⟩ := n_pE_x h1
      exact n_sub (n_qc e0 n_qe) (bX6_groupOf_26 x0 M r h2)) n_ke) (by rfl) h
def fX6_groupOf (x0 : Int32) (M : nM) : Option (Int32 × nM) :=
  if x0 < (97 : Int32) then
    fX6_groupOf_12 x0 M
  else
    if x0 ≤ (122 : Int32) then
      some ((1 : Int32), M)
    else
      fX6_groupOf_12 x0 M
set_option maxRecDepth 200000 in
theorem bX6_groupOf_0 {l : Launch} {w : nW} {G : nG} (x0 : Int32) (M : nM) (r : Int32 × nM) (h : fX6_groupOf x0 M = some r) : n_At l w 0 mX6_groupOf 0 [(0, .int x0)] [] (G, M) (dv_i r.1, (G, r.2)) :=
  n_seg (fin := n_fin dv_i G) (K := [(12, fun lv st M => n_lI lv 0 (fun x0 => n_pE st (fX6_groupOf_12 x0 M)))]) 11 (iX6_groupOf) (n_kc (fun lv st M r h => by
      obtain ⟨x0, e0, h1⟩ := n_lI_x h
      obtain ⟨rfl, h2⟩ := n_pE_x h1
      exact n_sub (n_qc e0 n_qe) (bX6_groupOf_12 x0 M r h2)) n_ke) (by rfl) h
theorem eX6_groupOf {l : Launch} {w : nW} {G : nG} (z0 : Int32) (M : nM) (r : Int32 × nM) (h : fX6_groupOf z0 M = some r) : n_Met l w 0 mX6_groupOf [.int z0] (G, M) (dv_i r.1, (G, r.2)) :=
  n_entry (by decide +kernel) rfl (Nat.le_of_ble_eq_true rfl) (n_sub (lv := [(0, .int z0)]) (n_qc rfl n_qe) (bX6_groupOf_0 z0 M r h))
abbrev hX6_groupOf : nF := fun T as M k => n_pI as (fun z0 as => n_pE as ((fX6_groupOf z0 M).bind fun p => k (dv_i p.1) p.2))
theorem csX6_groupOf {l : Launch} {w : nW} {G : nG} : n_CS l w 0 mX6_groupOf G (hX6_groupOf) := fun T as M k r h => by
  obtain ⟨z0, t0, rfl, h1⟩ := n_pI_x h
  obtain ⟨rfl, hE⟩ := n_pE_x h1
  obtain ⟨p, hp, hk⟩ := Option.bind_eq_some_iff.mp hE
  exact ⟨_, _, eX6_groupOf z0 M p hp, hk⟩
/-! ===== java/lang/String.isLatin1()Z ===== -/
def mJ0_isLatin1_aae02_t1 : nY := (RJ0, yJ0_isLatin1_aae02, cJ0_isLatin1_aae02, 1, some .boolean)
theorem okJ0_isLatin1_aae02_t1 : n_MOK mJ0_isLatin1_aae02_t1 0 := ⟨w_844, w_153, ⟨by decide +kernel, by decide +kernel, by decide +kernel⟩, by decide⟩
abbrev aJ0_isLatin1_aae02_t1 : List (Nat × nO (Int32 × nM)) := [(0, o_push (.int 1) 3), (3, oi_eq 17 6), (6, o_aloadS 0 7), (7, o_tco 1 10), (10, oi_ne 17 13), (13, o_push (.int (1 : Int32)) 14), (14, o_goto 18), (17, o_push (.int (0 : Int32)) 18), (18, o_zret)]
set_option maxRecDepth 200000 in
theorem iJ0_isLatin1_aae02_t1 {l : Launch} {w : nW} {G : nG} (hT : n_PS w) : n_AllS l w 0 mJ0_isLatin1_aae02_t1 G (n_fin dv_i G) (aJ0_isLatin1_aae02_t1) :=
  n_c (s_getsI (pc := 0) hT w_845 (by decide +kernel)) <|
  n_c (s_if_eq (pc := 3) (off := 14) (by decide +kernel) (by decide +kernel)) <|
  n_c (s_aloadS (pc := 6) (k := 0) (by decide +kernel)) <|
  n_c (s_tco (pc := 7) (i := 0) hT (by decide) w_2189 (by decide +kernel)) <|
  n_c (s_if_ne (pc := 10) (off := 7) (by decide +kernel) (by decide +kernel)) <|
  n_c (s_iconst (pc := 13) (n := 1) (by decide +kernel) (by decide +kernel)) <|
  n_c (s_goto (pc := 14) (off := 4) (by decide +kernel) (by decide +kernel)) <|
  n_c (s_iconst (pc := 17) (n := 0) (by decide +kernel) (by decide +kernel)) <|
  n_c (s_zret (pc := 18) rfl (by decide +kernel)) <|
  n_e
def fJ0_isLatin1_aae02_t1 (M : nM) : Option (Int32 × nM) :=
  if (1 : Int32) = 0 then
    some ((0 : Int32), M)
  else
    if ¬ (0 : Int32) = 0 then
      some ((0 : Int32), M)
    else
      some ((1 : Int32), M)
set_option maxRecDepth 200000 in
theorem bJ0_isLatin1_aae02_t1_0 {l : Launch} {w : nW} {G : nG} (hT : n_PS w) (M : nM) (r : Int32 × nM) (h : fJ0_isLatin1_aae02_t1 M = some r) : n_At l w 0 mJ0_isLatin1_aae02_t1 0 [(0, .retAddr 1)] [] (G, M) (dv_i r.1, (G, r.2)) :=
  n_seg (fin := n_fin dv_i G) (K := []) 15 (iJ0_isLatin1_aae02_t1 hT) n_ke (by rfl) h
theorem eJ0_isLatin1_aae02_t1 {l : Launch} {w : nW} {G : nG} (hT : n_PS w) (M : nM) (r : Int32 × nM) (h : fJ0_isLatin1_aae02_t1 M = some r) : n_Met l w 0 mJ0_isLatin1_aae02_t1 [.retAddr 1] (G, M) (dv_i r.1, (G, r.2)) :=
  n_entry (by decide +kernel) rfl (Nat.le_of_ble_eq_true rfl) (n_sub (lv := [(0, .retAddr 1)]) (n_qc rfl n_qe) (bJ0_isLatin1_aae02_t1_0 hT M r h))
abbrev hJ0_isLatin1_aae02_t1 : nF := fun T as M k => n_pS 1 as (fun as => n_pE as ((fJ0_isLatin1_aae02_t1 M).bind fun p => k (dv_i p.1) p.2))
theorem csJ0_isLatin1_aae02_t1 {l : Launch} {w : nW} {G : nG} (hT : n_PS w) : n_CS l w 0 mJ0_isLatin1_aae02_t1 G (hJ0_isLatin1_aae02_t1) := fun T as M k r h => by
  obtain ⟨t0, rfl, h1⟩ := n_pS_x h
  obtain ⟨rfl, hE⟩ := n_pE_x h1
  obtain ⟨p, hp, hk⟩ := Option.bind_eq_some_iff.mp hE
  exact ⟨_, _, eJ0_isLatin1_aae02_t1 hT M p hp, hk⟩
/-! ===== java/lang/String.coder()B ===== -/
def mJ0_coder_7d493_t1 : nY := (RJ0, yJ0_coder_7d493, cJ0_coder_7d493, 1, some .byte)
theorem okJ0_coder_7d493_t1 : n_MOK mJ0_coder_7d493_t1 0 := ⟨w_854, w_153, ⟨by decide +kernel, by decide +kernel, by decide +kernel⟩, by decide⟩
abbrev aJ0_coder_7d493_t1 : List (Nat × nO (Int32 × nM)) := [(0, o_push (.int 1) 3), (3, oi_eq 13 6), (6, o_aloadS 0 7), (7, o_tco 1 10), (10, o_goto 14), (13, o_push (.int (1 : Int32)) 14), (14, o_bret)]
set_option maxRecDepth 200000 in
theorem iJ0_coder_7d493_t1 {l : Launch} {w : nW} {G : nG} (hT : n_PS w) : n_AllS l w 0 mJ0_coder_7d493_t1 G (n_fin dv_i G) (aJ0_coder_7d493_t1) :=
  n_c (s_getsI (pc := 0) hT w_845 (by decide +kernel)) <|
  n_c (s_if_eq (pc := 3) (off := 10) (by decide +kernel) (by decide +kernel)) <|
  n_c (s_aloadS (pc := 6) (k := 0) (by decide +kernel)) <|
  n_c (s_tco (pc := 7) (i := 0) hT (by decide) w_2189 (by decide +kernel)) <|
  n_c (s_goto (pc := 10) (off := 4) (by decide +kernel) (by decide +kernel)) <|
  n_c (s_iconst (pc := 13) (n := 1) (by decide +kernel) (by decide +kernel)) <|
  n_c (s_bret (pc := 14) rfl (by decide +kernel)) <|
  n_e
def fJ0_coder_7d493_t1 (M : nM) : Option (Int32 × nM) :=
  if (1 : Int32) = 0 then
    n_chk ((1 : Int32).toInt8.toInt32 == (1 : Int32)) (some ((1 : Int32), M))
  else
    n_chk ((0 : Int32).toInt8.toInt32 == (0 : Int32)) (some ((0 : Int32), M))
set_option maxRecDepth 200000 in
theorem bJ0_coder_7d493_t1_0 {l : Launch} {w : nW} {G : nG} (hT : n_PS w) (M : nM) (r : Int32 × nM) (h : fJ0_coder_7d493_t1 M = some r) : n_At l w 0 mJ0_coder_7d493_t1 0 [(0, .retAddr 1)] [] (G, M) (dv_i r.1, (G, r.2)) :=
  n_seg (fin := n_fin dv_i G) (K := []) 11 (iJ0_coder_7d493_t1 hT) n_ke (by rfl) h
theorem eJ0_coder_7d493_t1 {l : Launch} {w : nW} {G : nG} (hT : n_PS w) (M : nM) (r : Int32 × nM) (h : fJ0_coder_7d493_t1 M = some r) : n_Met l w 0 mJ0_coder_7d493_t1 [.retAddr 1] (G, M) (dv_i r.1, (G, r.2)) :=
  n_entry (by decide +kernel) rfl (Nat.le_of_ble_eq_true rfl) (n_sub (lv := [(0, .retAddr 1)]) (n_qc rfl n_qe) (bJ0_coder_7d493_t1_0 hT M r h))
abbrev hJ0_coder_7d493_t1 : nF := fun T as M k => n_pS 1 as (fun as => n_pE as ((fJ0_coder_7d493_t1 M).bind fun p => k (dv_i p.1) p.2))
theorem csJ0_coder_7d493_t1 {l : Launch} {w : nW} {G : nG} (hT : n_PS w) : n_CS l w 0 mJ0_coder_7d493_t1 G (hJ0_coder_7d493_t1) := fun T as M k r h => by
  obtain ⟨t0, rfl, h1⟩ := n_pS_x h
  obtain ⟨rfl, hE⟩ := n_pE_x h1
  obtain ⟨p, hp, hk⟩ := Option.bind_eq_some_iff.mp hE
  exact ⟨_, _, eJ0_coder_7d493_t1 hT M p hp, hk⟩
/-! ===== java/lang/String.length()I ===== -/
def mJ0_length_8abf5_t1 : nY := (RJ0, yJ0_length_8abf5, cJ0_length_8abf5, 1, some .int)
theorem okJ0_length_8abf5_t1 : n_MOK mJ0_length_8abf5_t1 0 := ⟨w_850, w_153, ⟨by decide +kernel, by decide +kernel, by decide +kernel⟩, by decide⟩
abbrev aJ0_length_8abf5_t1 : List (Nat × nO (Int32 × nM)) := [(0, o_aloadS 0 1), (1, o_tva 1 11 4), (4, o_tle 11 10 5), (5, o_aloadS 0 6), (6, o_callT 1 0 (hJ0_coder_7d493_t1) 9), (9, o_ishr 10), (10, o_iret)]
set_option maxRecDepth 200000 in
theorem iJ0_length_8abf5_t1 {l : Launch} {w : nW} {G : nG} (hT : n_PS w) : n_AllS l w 1 mJ0_length_8abf5_t1 G (n_fin dv_i G) (aJ0_length_8abf5_t1) :=
  n_c (s_aloadS (pc := 0) (k := 0) (by decide +kernel)) <|
  n_c (s_tva (pc := 1) (i := 0) hT (by decide) w_2190 (by decide +kernel)) <|
  n_c (s_tle (pc := 4) (i := 0) hT (by decide) rfl (by decide +kernel)) <|
  n_c (s_aloadS (pc := 5) (k := 0) (by decide +kernel)) <|
  n_c (s_callT (pc := 6) (i := 0) hT (by decide) (csJ0_coder_7d493_t1 hT) (by decide) okJ0_coder_7d493_t1 w_852 w_853 w_851 (by decide +kernel)) <|
  n_c (s_ishr (pc := 9) (by decide +kernel)) <|
  n_c (s_iret (pc := 10) rfl (by decide +kernel)) <|
  n_e
def fJ0_length_8abf5_t1 (M : nM) : Option (Int32 × nM) :=
  (fJ0_coder_7d493_t1 M).bind fun p1 =>
  some (((Int32.ofNat 10) >>> (p1.1 &&& 31)), p1.2)
set_option maxRecDepth 200000 in
theorem bJ0_length_8abf5_t1_0 {l : Launch} {w : nW} {G : nG} (hT : n_PS w) (M : nM) (r : Int32 × nM) (h : fJ0_length_8abf5_t1 M = some r) : n_At l w 1 mJ0_length_8abf5_t1 0 [(0, .retAddr 1)] [] (G, M) (dv_i r.1, (G, r.2)) :=
  n_seg (fin := n_fin dv_i G) (K := []) 10 (iJ0_length_8abf5_t1 hT) n_ke (by rfl) h
theorem eJ0_length_8abf5_t1 {l : Launch} {w : nW} {G : nG} (hT : n_PS w) (M : nM) (r : Int32 × nM) (h : fJ0_length_8abf5_t1 M = some r) : n_Met l w 1 mJ0_length_8abf5_t1 [.retAddr 1] (G, M) (dv_i r.1, (G, r.2)) :=
  n_entry (by decide +kernel) rfl (Nat.le_of_ble_eq_true rfl) (n_sub (lv := [(0, .retAddr 1)]) (n_qc rfl n_qe) (bJ0_length_8abf5_t1_0 hT M r h))
abbrev hJ0_length_8abf5_t1 : nF := fun T as M k => n_pS 1 as (fun as => n_pE as ((fJ0_length_8abf5_t1 M).bind fun p => k (dv_i p.1) p.2))
theorem csJ0_length_8abf5_t1 {l : Launch} {w : nW} {G : nG} (hT : n_PS w) : n_CS l w 1 mJ0_length_8abf5_t1 G (hJ0_length_8abf5_t1) := fun T as M k r h => by
  obtain ⟨t0, rfl, h1⟩ := n_pS_x h
  obtain ⟨rfl, hE⟩ := n_pE_x h1
  obtain ⟨p, hp, hk⟩ := Option.bind_eq_some_iff.mp hE
  exact ⟨_, _, eJ0_length_8abf5_t1 hT M p hp, hk⟩
/-! ===== java/lang/StringLatin1.canEncode(I)Z ===== -/
def mJ1_canEncode_9a6ad : nY := (RJ1, yJ1_canEncode_9a6ad, cJ1_canEncode_9a6ad, 1, some .boolean)
theorem okJ1_canEncode_9a6ad : n_MOK mJ1_canEncode_9a6ad 1 := ⟨w_860, w_154, ⟨by decide +kernel, by decide +kernel, by decide +kernel⟩, by decide⟩
abbrev aJ1_canEncode_9a6ad : List (Nat × nO (Int32 × nM)) := [(0, o_iload 0 1), (1, oi_lt 15 4), (4, o_iload 0 5), (5, o_push (.int (255 : Int32)) 8), (8, oc_gt 15 11), (11, o_push (.int (1 : Int32)) 12), (12, o_goto 16), (15, o_push (.int (0 : Int32)) 16), (16, o_zret)]
set_option maxRecDepth 200000 in
theorem iJ1_canEncode_9a6ad {l : Launch} {w : nW} {G : nG} : n_AllS l w 0 mJ1_canEncode_9a6ad G (n_fin dv_i G) (aJ1_canEncode_9a6ad) :=
  n_c (s_iload_n (pc := 0) (k := 0) (by decide +kernel)) <|
  n_c (s_if_lt (pc := 1) (off := 14) (by decide +kernel) (by decide +kernel)) <|
  n_c (s_iload_n (pc := 4) (k := 0) (by decide +kernel)) <|
  n_c (s_sipush (pc := 5) (n := 255) (by decide +kernel) (by decide +kernel)) <|
  n_c (s_icmp_gt (pc := 8) (off := 7) (by decide +kernel) (by decide +kernel)) <|
  n_c (s_iconst (pc := 11) (n := 1) (by decide +kernel) (by decide +kernel)) <|
  n_c (s_goto (pc := 12) (off := 4) (by decide +kernel) (by decide +kernel)) <|
  n_c (s_iconst (pc := 15) (n := 0) (by decide +kernel) (by decide +kernel)) <|
  n_c (s_zret (pc := 16) rfl (by decide +kernel)) <|
  n_e
def fJ1_canEncode_9a6ad (x0 : Int32) (M : nM) : Option (Int32 × nM) :=
  if x0 < 0 then
    some ((0 : Int32), M)
  else
    if (255 : Int32) < x0 then
      some ((0 : Int32), M)
    else
      some ((1 : Int32), M)
set_option maxRecDepth 200000 in
theorem bJ1_canEncode_9a6ad_0 {l : Launch} {w : nW} {G : nG} (x0 : Int32) (M : nM) (r : Int32 × nM) (h : fJ1_canEncode_9a6ad x0 M = some r) : n_At l w 0 mJ1_canEncode_9a6ad 0 [(0, .int x0)] [] (G, M) (dv_i r.1, (G, r.2)) :=
  n_seg (fin := n_fin dv_i G) (K := []) 15 (iJ1_canEncode_9a6ad) n_ke (by rfl) h
theorem eJ1_canEncode_9a6ad {l : Launch} {w : nW} {G : nG} (z0 : Int32) (M : nM) (r : Int32 × nM) (h : fJ1_canEncode_9a6ad z0 M = some r) : n_Met l w 0 mJ1_canEncode_9a6ad [.int z0] (G, M) (dv_i r.1, (G, r.2)) :=
  n_entry (by decide +kernel) rfl (Nat.le_of_ble_eq_true rfl) (n_sub (lv := [(0, .int z0)]) (n_qc rfl n_qe) (bJ1_canEncode_9a6ad_0 z0 M r h))
abbrev hJ1_canEncode_9a6ad : nF := fun T as M k => n_pI as (fun z0 as => n_pE as ((fJ1_canEncode_9a6ad z0 M).bind fun p => k (dv_i p.1) p.2))
theorem csJ1_canEncode_9a6ad {l : Launch} {w : nW} {G : nG} : n_CS l w 0 mJ1_canEncode_9a6ad G (hJ1_canEncode_9a6ad) := fun T as M k r h => by
  obtain ⟨z0, t0, rfl, h1⟩ := n_pI_x h
  obtain ⟨rfl, hE⟩ := n_pE_x h1
  obtain ⟨p, hp, hk⟩ := Option.bind_eq_some_iff.mp hE
  exact ⟨_, _, eJ1_canEncode_9a6ad z0 M p hp, hk⟩
/-! ===== java/lang/StringLatin1.indexOfChar([BIII)I ===== -/
def mJ1_indexOfChar_4cfef_t1 : nY := (RJ1, yJ1_indexOfChar_4cfef, cJ1_indexOfChar_4cfef, 6, some .int)
theorem okJ1_indexOfChar_4cfef_t1 : n_MOK mJ1_indexOfChar_4cfef_t1 4 := ⟨w_865, w_154, ⟨by decide +kernel, by decide +kernel, by decide +kernel⟩, by decide⟩
abbrev aJ1_indexOfChar_4cfef_t1 (N : Nat) : List (Nat × nO (Int32 × nM)) := [(0, o_iload 1 1), (1, o_i2b 2), (2, o_istore 6 4 4), (4, o_iload 2 5), (5, o_istore 6 5 7), (7, o_iload 5 9), (9, o_iload 3 10), (10, oc_ge 31 13), (13, o_aloadS 0 14), (14, o_iload 5 16), (16, o_tal 11 10 n_tb1 17), (17, o_iload 4 19), (19, oc_ne 25 22), (22, o_iload 5 24), (24, o_iret), (25, o_inc 6 5 (1 : Int32) 28), (28, o_goto 7), (31, o_push (.int (-1 : Int32)) 32), (32, o_iret)]
set_option maxRecDepth 200000 in
theorem iJ1_indexOfChar_4cfef_t1 {l : Launch} {w : nW} (N : Nat) {G : nG} (hT : n_PS w) : n_AllS l w 0 mJ1_indexOfChar_4cfef_t1 G (n_fin dv_i G) (aJ1_indexOfChar_4cfef_t1 N) :=
  n_c (s_iload_n (pc := 0) (k := 1) (by decide +kernel)) <|
  n_c (s_i2b (pc := 1) (by decide +kernel)) <|
  n_c (s_istore (pc := 2) (by decide +kernel)) <|
  n_c (s_iload_n (pc := 4) (k := 2) (by decide +kernel)) <|
  n_c (s_istore (pc := 5) (by decide +kernel)) <|
  n_c (s_iload (pc := 7) (by decide +kernel)) <|
  n_c (s_iload_n (pc := 9) (k := 3) (by decide +kernel)) <|
  n_c (s_icmp_ge (pc := 10) (off := 21) (by decide +kernel) (by decide +kernel)) <|
  n_c (s_aloadS (pc := 13) (k := 0) (by decide +kernel)) <|
  n_c (s_iload (pc := 14) (by decide +kernel)) <|
  n_c (s_tal (pc := 16) (i := 0) hT (by decide) rfl rfl (by decide +kernel)) <|
  n_c (s_iload (pc := 17) (by decide +kernel)) <|
  n_c (s_icmp_ne (pc := 19) (off := 6) (by decide +kernel) (by decide +kernel)) <|
  n_c (s_iload (pc := 22) (by decide +kernel)) <|
  n_c (s_iret (pc := 24) rfl (by decide +kernel)) <|
  n_c (s_iinc (pc := 25) (n := 1) (by decide +kernel) (by decide +kernel)) <|
  n_c (s_goto (pc := 28) (off := -21) (by decide +kernel) (by decide +kernel)) <|
  n_c (s_iconst (pc := 31) (n := -1) (by decide +kernel) (by decide +kernel)) <|
  n_c (s_iret (pc := 32) rfl (by decide +kernel)) <|
  n_e
def fJ1_indexOfChar_4cfef_t1_7 (N : Nat) : Nat → Int32 → Int32 → Int32 → nM → Option (Int32 × nM)
  | 0, _, _, _, _ => none
  | n + 1, x3, x4, x5, M =>
    if x3 ≤ x5 then
      some ((-1 : Int32), M)
    else
      n_chk (n_ib 10 x5) <|
      if ¬ (n_tb1.getD x5.toNatClampNeg 0) = x4 then
        let v1 : Int32 := (x5 + (1 : Int32))
        fJ1_indexOfChar_4cfef_t1_7 N n x3 x4 v1 M
      else
        some (x5, M)
set_option maxRecDepth 200000 in
theorem bJ1_indexOfChar_4cfef_t1_7 {l : Launch} {w : nW} (N : Nat) {G : nG} (hT : n_PS w) : ∀ (n : Nat) (x3 : Int32) (x4 : Int32) (x5 : Int32) (M : nM) (r : Int32 × nM), fJ1_indexOfChar_4cfef_t1_7 N n x3 x4 x5 M = some r → n_At l w 0 mJ1_indexOfChar_4cfef_t1 7 [(0, .retAddr 11), (3, .int x3), (4, .int x4), (5, .int x5)] [] (G, M) (dv_i r.1, (G, r.2)) := by
  intro n
  induction n with
  | zero => intro x3 x4 x5 M r h; cases (show (none : Option (Int32 × nM)) = some r from h)
  | succ n ih =>
    intro x3 x4 x5 M r h
    exact n_seg (fin := n_fin dv_i G) (K := [(7, fun lv st M => n_lS 11 lv 0 (n_lI lv 3 (fun x3 => n_lI lv 4 (fun x4 => n_lI lv 5 (fun x5 => n_pE st (fJ1_indexOfChar_4cfef_t1_7 N n x3 x4 x5 M))))))]) 17 (iJ1_indexOfChar_4cfef_t1 N hT) (n_kc (fun lv st M r h => by
      obtain ⟨e0, h1⟩ := n_lS_x h
      obtain ⟨x3, e3, h2⟩ := n_lI_x h1
      obtain ⟨x4, e4, h3⟩ := n_lI_x h2
      obtain ⟨x5, e5, h4⟩ := n_lI_x h3
      obtain ⟨rfl, h5⟩ := n_pE_x h4
      exact n_sub (n_qc e0 (n_qc e3 (n_qc e4 (n_qc e5 n_qe)))) (ih x3 x4 x5 M r h5)) n_ke) (by rfl) h
def fJ1_indexOfChar_4cfef_t1 (N : Nat) (x1 : Int32) (x2 : Int32) (x3 : Int32) (M : nM) : Option (Int32 × nM) :=
  fJ1_indexOfChar_4cfef_t1_7 N N x3 x1.toInt8.toInt32 x2 M
set_option maxRecDepth 200000 in
theorem bJ1_indexOfChar_4cfef_t1_0 {l : Launch} {w : nW} (N : Nat) {G : nG} (hT : n_PS w) (x1 : Int32) (x2 : Int32) (x3 : Int32) (M : nM) (r : Int32 × nM) (h : fJ1_indexOfChar_4cfef_t1 N x1 x2 x3 M = some r) : n_At l w 0 mJ1_indexOfChar_4cfef_t1 0 [(0, .retAddr 11), (1, .int x1), (2, .int x2), (3, .int x3)] [] (G, M) (dv_i r.1, (G, r.2)) :=
  n_seg (fin := n_fin dv_i G) (K := [(7, fun lv st M => n_lS 11 lv 0 (n_lI lv 3 (fun x3 => n_lI lv 4 (fun x4 => n_lI lv 5 (fun x5 => n_pE st (fJ1_indexOfChar_4cfef_t1_7 N N x3 x4 x5 M))))))]) 8 (iJ1_indexOfChar_4cfef_t1 N hT) (n_kc (fun lv st M r h => by
      obtain ⟨e0, h1⟩ := n_lS_x h
      obtain ⟨x3, e3, h2⟩ := n_lI_x h1
      obtain ⟨x4, e4, h3⟩ := n_lI_x h2
      obtain ⟨x5, e5, h4⟩ := n_lI_x h3
      obtain ⟨rfl, h5⟩ := n_pE_x h4
      exact n_sub (n_qc e0 (n_qc e3 (n_qc e4 (n_qc e5 n_qe)))) (bJ1_indexOfChar_4cfef_t1_7 N hT N x3 x4 x5 M r h5)) n_ke) (by rfl) h
theorem eJ1_indexOfChar_4cfef_t1 {l : Launch} {w : nW} (N : Nat) {G : nG} (hT : n_PS w) (z1 : Int32) (z2 : Int32) (z3 : Int32) (M : nM) (r : Int32 × nM) (h : fJ1_indexOfChar_4cfef_t1 N z1 z2 z3 M = some r) : n_Met l w 0 mJ1_indexOfChar_4cfef_t1 [.retAddr 11, .int z1, .int z2, .int z3] (G, M) (dv_i r.1, (G, r.2)) :=
  n_entry (by decide +kernel) rfl (Nat.le_of_ble_eq_true rfl) (n_sub (lv := [(0, .retAddr 11), (1, .int z1), (2, .int z2), (3, .int z3)]) (n_qc rfl (n_qc rfl (n_qc rfl (n_qc rfl n_qe)))) (bJ1_indexOfChar_4cfef_t1_0 N hT z1 z2 z3 M r h))
abbrev hJ1_indexOfChar_4cfef_t1 (N : Nat) : nF := fun T as M k => n_pS 11 as (fun as => n_pI as (fun z1 as => n_pI as (fun z2 as => n_pI as (fun z3 as => n_pE as ((fJ1_indexOfChar_4cfef_t1 N z1 z2 z3 M).bind fun p => k (dv_i p.1) p.2)))))
theorem csJ1_indexOfChar_4cfef_t1 {l : Launch} {w : nW} (N : Nat) {G : nG} (hT : n_PS w) : n_CS l w 0 mJ1_indexOfChar_4cfef_t1 G (hJ1_indexOfChar_4cfef_t1 N) := fun T as M k r h => by
  obtain ⟨t0, rfl, h1⟩ := n_pS_x h
  obtain ⟨z1, t1, rfl, h2⟩ := n_pI_x h1
  obtain ⟨z2, t2, rfl, h3⟩ := n_pI_x h2
  obtain ⟨z3, t3, rfl, h4⟩ := n_pI_x h3
  obtain ⟨rfl, hE⟩ := n_pE_x h4
  obtain ⟨p, hp, hk⟩ := Option.bind_eq_some_iff.mp hE
  exact ⟨_, _, eJ1_indexOfChar_4cfef_t1 N hT z1 z2 z3 M p hp, hk⟩
/-! ===== java/lang/StringLatin1.indexOf([BIII)I ===== -/
def mJ1_indexOf_4cfef_t1 : nY := (RJ1, yJ1_indexOf_4cfef, cJ1_indexOf_4cfef, 4, some .int)
theorem okJ1_indexOf_4cfef_t1 : n_MOK mJ1_indexOf_4cfef_t1 4 := ⟨w_857, w_154, ⟨by decide +kernel, by decide +kernel, by decide +kernel⟩, by decide⟩
abbrev aJ1_indexOf_4cfef_t1 (N : Nat) : List (Nat × nO (Int32 × nM)) := [(0, o_iload 1 1), (1, o_call 1 (hJ1_canEncode_9a6ad) 4), (4, oi_ne 9 7), (7, o_push (.int (-1 : Int32)) 8), (8, o_iret), (9, o_iload 2 10), (10, o_push (.int (0 : Int32)) 11), (11, o_mmax 14), (14, o_istore 4 2 15), (15, o_iload 3 16), (16, o_aloadS 0 17), (17, o_tle 11 10 18), (18, o_mmin 21), (21, o_istore 4 3 22), (22, o_iload 2 23), (23, o_iload 3 24), (24, oc_lt 29 27), (27, o_push (.int (-1 : Int32)) 28), (28, o_iret), (29, o_aloadS 0 30), (30, o_iload 1 31), (31, o_iload 2 32), (32, o_iload 3 33), (33, o_call 4 (hJ1_indexOfChar_4cfef_t1 N) 36), (36, o_iret)]
set_option maxRecDepth 200000 in
theorem iJ1_indexOf_4cfef_t1 {l : Launch} {w : nW} (N : Nat) {G : nG} (hT : n_PS w) : n_AllS l w 1 mJ1_indexOf_4cfef_t1 G (n_fin dv_i G) (aJ1_indexOf_4cfef_t1 N) :=
  n_c (s_iload_n (pc := 0) (k := 1) (by decide +kernel)) <|
  n_c (s_callS (pc := 1) (csJ1_canEncode_9a6ad) (by decide) okJ1_canEncode_9a6ad w_859 w_858 (by decide +kernel)) <|
  n_c (s_if_ne (pc := 4) (off := 5) (by decide +kernel) (by decide +kernel)) <|
  n_c (s_iconst (pc := 7) (n := -1) (by decide +kernel) (by decide +kernel)) <|
  n_c (s_iret (pc := 8) rfl (by decide +kernel)) <|
  n_c (s_iload_n (pc := 9) (k := 2) (by decide +kernel)) <|
  n_c (s_iconst (pc := 10) (n := 0) (by decide +kernel) (by decide +kernel)) <|
  n_c (s_mmax (pc := 11) w_861 w_295 w_143 w_296 (by decide +kernel)) <|
  n_c (s_istore_n (pc := 14) (k := 2) (by decide +kernel)) <|
  n_c (s_iload_n (pc := 15) (k := 3) (by decide +kernel)) <|
  n_c (s_aloadS (pc := 16) (k := 0) (by decide +kernel)) <|
  n_c (s_tle (pc := 17) (i := 0) hT (by decide) rfl (by decide +kernel)) <|
  n_c (s_mmin (pc := 18) w_862 w_298 w_143 w_299 (by decide +kernel)) <|
  n_c (s_istore_n (pc := 21) (k := 3) (by decide +kernel)) <|
  n_c (s_iload_n (pc := 22) (k := 2) (by decide +kernel)) <|
  n_c (s_iload_n (pc := 23) (k := 3) (by decide +kernel)) <|
  n_c (s_icmp_lt (pc := 24) (off := 5) (by decide +kernel) (by decide +kernel)) <|
  n_c (s_iconst (pc := 27) (n := -1) (by decide +kernel) (by decide +kernel)) <|
  n_c (s_iret (pc := 28) rfl (by decide +kernel)) <|
  n_c (s_aloadS (pc := 29) (k := 0) (by decide +kernel)) <|
  n_c (s_iload_n (pc := 30) (k := 1) (by decide +kernel)) <|
  n_c (s_iload_n (pc := 31) (k := 2) (by decide +kernel)) <|
  n_c (s_iload_n (pc := 32) (k := 3) (by decide +kernel)) <|
  n_c (s_callS (pc := 33) (csJ1_indexOfChar_4cfef_t1 N hT) (by decide) okJ1_indexOfChar_4cfef_t1 w_864 w_863 (by decide +kernel)) <|
  n_c (s_iret (pc := 36) rfl (by decide +kernel)) <|
  n_e
def fJ1_indexOf_4cfef_t1 (N : Nat) (x1 : Int32) (x2 : Int32) (x3 : Int32) (M : nM) : Option (Int32 × nM) :=
  (fJ1_canEncode_9a6ad x1 M).bind fun p1 =>
  if ¬ p1.1 = 0 then
    let v2 : Int32 := (if x2 < (0 : Int32) then (0 : Int32) else x2)
    let v3 : Int32 := (if (Int32.ofNat 10) < x3 then (Int32.ofNat 10) else x3)
    if v2 < v3 then
      (fJ1_indexOfChar_4cfef_t1 N x1 v2 v3 p1.2).bind fun p4 =>
      some (p4.1, p4.2)
    else
      some ((-1 : Int32), p1.2)
  else
    some ((-1 : Int32), p1.2)
set_option maxRecDepth 200000 in
theorem bJ1_indexOf_4cfef_t1_0 {l : Launch} {w : nW} (N : Nat) {G : nG} (hT : n_PS w) (x1 : Int32) (x2 : Int32) (x3 : Int32) (M : nM) (r : Int32 × nM) (h : fJ1_indexOf_4cfef_t1 N x1 x2 x3 M = some r) : n_At l w 1 mJ1_indexOf_4cfef_t1 0 [(0, .retAddr 11), (1, .int x1), (2, .int x2), (3, .int x3)] [] (G, M) (dv_i r.1, (G, r.2)) :=
  n_seg (fin := n_fin dv_i G) (K := []) 28 (iJ1_indexOf_4cfef_t1 N hT) n_ke (by rfl) h
theorem eJ1_indexOf_4cfef_t1 {l : Launch} {w : nW} (N : Nat) {G : nG} (hT : n_PS w) (z1 : Int32) (z2 : Int32) (z3 : Int32) (M : nM) (r : Int32 × nM) (h : fJ1_indexOf_4cfef_t1 N z1 z2 z3 M = some r) : n_Met l w 1 mJ1_indexOf_4cfef_t1 [.retAddr 11, .int z1, .int z2, .int z3] (G, M) (dv_i r.1, (G, r.2)) :=
  n_entry (by decide +kernel) rfl (Nat.le_of_ble_eq_true rfl) (n_sub (lv := [(0, .retAddr 11), (1, .int z1), (2, .int z2), (3, .int z3)]) (n_qc rfl (n_qc rfl (n_qc rfl (n_qc rfl n_qe)))) (bJ1_indexOf_4cfef_t1_0 N hT z1 z2 z3 M r h))
abbrev hJ1_indexOf_4cfef_t1 (N : Nat) : nF := fun T as M k => n_pS 11 as (fun as => n_pI as (fun z1 as => n_pI as (fun z2 as => n_pI as (fun z3 as => n_pE as ((fJ1_indexOf_4cfef_t1 N z1 z2 z3 M).bind fun p => k (dv_i p.1) p.2)))))
theorem csJ1_indexOf_4cfef_t1 {l : Launch} {w : nW} (N : Nat) {G : nG} (hT : n_PS w) : n_CS l w 1 mJ1_indexOf_4cfef_t1 G (hJ1_indexOf_4cfef_t1 N) := fun T as M k r h => by
  obtain ⟨t0, rfl, h1⟩ := n_pS_x h
  obtain ⟨z1, t1, rfl, h2⟩ := n_pI_x h1
  obtain ⟨z2, t2, rfl, h3⟩ := n_pI_x h2
  obtain ⟨z3, t3, rfl, h4⟩ := n_pI_x h3
  obtain ⟨rfl, hE⟩ := n_pE_x h4
  obtain ⟨p, hp, hk⟩ := Option.bind_eq_some_iff.mp hE
  exact ⟨_, _, eJ1_indexOf_4cfef_t1 N hT z1 z2 z3 M p hp, hk⟩
/-! ===== java/lang/String.indexOf(II)I ===== -/
def mJ0_indexOf_7cf53_t1 : nY := (RJ0, yJ0_indexOf_7cf53, cJ0_indexOf_7cf53, 3, some .int)
theorem okJ0_indexOf_7cf53_t1 : n_MOK mJ0_indexOf_7cf53_t1 2 := ⟨w_840, w_153, ⟨by decide +kernel, by decide +kernel, by decide +kernel⟩, by decide⟩
abbrev aJ0_indexOf_7cf53_t1 (N : Nat) : List (Nat × nO (Int32 × nM)) := [(0, o_aloadS 0 1), (1, o_callT 1 0 (hJ0_isLatin1_aae02_t1) 4), (4, oi_eq 23 7), (7, o_aloadS 0 8), (8, o_tva 1 11 11), (11, o_iload 1 12), (12, o_iload 2 13), (13, o_aloadS 0 14), (14, o_callT 1 0 (hJ0_length_8abf5_t1) 17), (17, o_call 4 (hJ1_indexOf_4cfef_t1 N) 20), (20, o_goto 36), (23, o_aloadS 0 24), (24, o_tva 1 11 27), (27, o_iload 1 28), (28, o_iload 2 29), (29, o_aloadS 0 30), (30, o_callT 1 0 (hJ0_length_8abf5_t1) 33), (33, o_no), (36, o_iret)]
set_option maxRecDepth 200000 in
theorem iJ0_indexOf_7cf53_t1 {l : Launch} {w : nW} (N : Nat) {G : nG} (hT : n_PS w) : n_AllS l w 2 mJ0_indexOf_7cf53_t1 G (n_fin dv_i G) (aJ0_indexOf_7cf53_t1 N) :=
  n_c (s_aloadS (pc := 0) (k := 0) (by decide +kernel)) <|
  n_c (s_callT (pc := 1) (i := 0) hT (by decide) (csJ0_isLatin1_aae02_t1 hT) (by decide) okJ0_isLatin1_aae02_t1 w_842 w_843 w_841 (by decide +kernel)) <|
  n_c (s_if_eq (pc := 4) (off := 19) (by decide +kernel) (by decide +kernel)) <|
  n_c (s_aloadS (pc := 7) (k := 0) (by decide +kernel)) <|
  n_c (s_tva (pc := 8) (i := 0) hT (by decide) w_2190 (by decide +kernel)) <|
  n_c (s_iload_n (pc := 11) (k := 1) (by decide +kernel)) <|
  n_c (s_iload_n (pc := 12) (k := 2) (by decide +kernel)) <|
  n_c (s_aloadS (pc := 13) (k := 0) (by decide +kernel)) <|
  n_c (s_callT (pc := 14) (i := 0) hT (by decide) (csJ0_length_8abf5_t1 hT) (by decide) okJ0_length_8abf5_t1 w_848 w_849 w_847 (by decide +kernel)) <|
  n_c (s_callS (pc := 17) (csJ1_indexOf_4cfef_t1 N hT) (by decide) okJ1_indexOf_4cfef_t1 w_856 w_855 (by decide +kernel)) <|
  n_c (s_goto (pc := 20) (off := 16) (by decide +kernel) (by decide +kernel)) <|
  n_c (s_aloadS (pc := 23) (k := 0) (by decide +kernel)) <|
  n_c (s_tva (pc := 24) (i := 0) hT (by decide) w_2190 (by decide +kernel)) <|
  n_c (s_iload_n (pc := 27) (k := 1) (by decide +kernel)) <|
  n_c (s_iload_n (pc := 28) (k := 2) (by decide +kernel)) <|
  n_c (s_aloadS (pc := 29) (k := 0) (by decide +kernel)) <|
  n_c (s_callT (pc := 30) (i := 0) hT (by decide) (csJ0_length_8abf5_t1 hT) (by decide) okJ0_length_8abf5_t1 w_848 w_849 w_847 (by decide +kernel)) <|
  n_c (s_no (pc := 33)) <|
  n_c (s_iret (pc := 36) rfl (by decide +kernel)) <|
  n_e
def fJ0_indexOf_7cf53_t1 (N : Nat) (x1 : Int32) (x2 : Int32) (M : nM) : Option (Int32 × nM) :=
  (fJ0_isLatin1_aae02_t1 M).bind fun p1 =>
  if p1.1 = 0 then
    (fJ0_length_8abf5_t1 p1.2).bind fun p2 =>
    none
  else
    (fJ0_length_8abf5_t1 p1.2).bind fun p3 =>
    (fJ1_indexOf_4cfef_t1 N x1 x2 p3.1 p3.2).bind fun p4 =>
    some (p4.1, p4.2)
set_option maxRecDepth 200000 in
theorem bJ0_indexOf_7cf53_t1_0 {l : Launch} {w : nW} (N : Nat) {G : nG} (hT : n_PS w) (x1 : Int32) (x2 : Int32) (M : nM) (r : Int32 × nM) (h : fJ0_indexOf_7cf53_t1 N x1 x2 M = some r) : n_At l w 2 mJ0_indexOf_7cf53_t1 0 [(0, .retAddr 1), (1, .int x1), (2, .int x2)] [] (G, M) (dv_i r.1, (G, r.2)) :=
  n_seg (fin := n_fin dv_i G) (K := []) 22 (iJ0_indexOf_7cf53_t1 N hT) n_ke (by rfl) h
theorem eJ0_indexOf_7cf53_t1 {l : Launch} {w : nW} (N : Nat) {G : nG} (hT : n_PS w) (z1 : Int32) (z2 : Int32) (M : nM) (r : Int32 × nM) (h : fJ0_indexOf_7cf53_t1 N z1 z2 M = some r) : n_Met l w 2 mJ0_indexOf_7cf53_t1 [.retAddr 1, .int z1, .int z2] (G, M) (dv_i r.1, (G, r.2)) :=
  n_entry (by decide +kernel) rfl (Nat.le_of_ble_eq_true rfl) (n_sub (lv := [(0, .retAddr 1), (1, .int z1), (2, .int z2)]) (n_qc rfl (n_qc rfl (n_qc rfl n_qe))) (bJ0_indexOf_7cf53_t1_0 N hT z1 z2 M r h))
abbrev hJ0_indexOf_7cf53_t1 (N : Nat) : nF := fun T as M k => n_pS 1 as (fun as => n_pI as (fun z1 as => n_pI as (fun z2 as => n_pE as ((fJ0_indexOf_7cf53_t1 N z1 z2 M).bind fun p => k (dv_i p.1) p.2))))
theorem csJ0_indexOf_7cf53_t1 {l : Launch} {w : nW} (N : Nat) {G : nG} (hT : n_PS w) : n_CS l w 2 mJ0_indexOf_7cf53_t1 G (hJ0_indexOf_7cf53_t1 N) := fun T as M k r h => by
  obtain ⟨t0, rfl, h1⟩ := n_pS_x h
  obtain ⟨z1, t1, rfl, h2⟩ := n_pI_x h1
  obtain ⟨z2, t2, rfl, h3⟩ := n_pI_x h2
  obtain ⟨rfl, hE⟩ := n_pE_x h3
  obtain ⟨p, hp, hk⟩ := Option.bind_eq_some_iff.mp hE
  exact ⟨_, _, eJ0_indexOf_7cf53_t1 N hT z1 z2 M p hp, hk⟩
/-! ===== java/lang/String.indexOf(I)I ===== -/
def mJ0_indexOf_0f7a4_t1 : nY := (RJ0, yJ0_indexOf_0f7a4, cJ0_indexOf_0f7a4, 2, some .int)
theorem okJ0_indexOf_0f7a4_t1 : n_MOK mJ0_indexOf_0f7a4_t1 1 := ⟨w_836, w_153, ⟨by decide +kernel, by decide +kernel, by decide +kernel⟩, by decide⟩
abbrev aJ0_indexOf_0f7a4_t1 (N : Nat) : List (Nat × nO (Int32 × nM)) := [(0, o_aloadS 0 1), (1, o_iload 1 2), (2, o_push (.int (0 : Int32)) 3), (3, o_callT 1 2 (hJ0_indexOf_7cf53_t1 N) 6), (6, o_iret)]
set_option maxRecDepth 200000 in
theorem iJ0_indexOf_0f7a4_t1 {l : Launch} {w : nW} (N : Nat) {G : nG} (hT : n_PS w) : n_AllS l w 3 mJ0_indexOf_0f7a4_t1 G (n_fin dv_i G) (aJ0_indexOf_0f7a4_t1 N) :=
  n_c (s_aloadS (pc := 0) (k := 0) (by decide +kernel)) <|
  n_c (s_iload_n (pc := 1) (k := 1) (by decide +kernel)) <|
  n_c (s_iconst (pc := 2) (n := 0) (by decide +kernel) (by decide +kernel)) <|
  n_c (s_callT (pc := 3) (i := 0) hT (by decide) (csJ0_indexOf_7cf53_t1 N hT) (by decide) okJ0_indexOf_7cf53_t1 w_838 w_839 w_837 (by decide +kernel)) <|
  n_c (s_iret (pc := 6) rfl (by decide +kernel)) <|
  n_e
def fJ0_indexOf_0f7a4_t1 (N : Nat) (x1 : Int32) (M : nM) : Option (Int32 × nM) :=
  (fJ0_indexOf_7cf53_t1 N x1 (0 : Int32) M).bind fun p1 =>
  some (p1.1, p1.2)
set_option maxRecDepth 200000 in
theorem bJ0_indexOf_0f7a4_t1_0 {l : Launch} {w : nW} (N : Nat) {G : nG} (hT : n_PS w) (x1 : Int32) (M : nM) (r : Int32 × nM) (h : fJ0_indexOf_0f7a4_t1 N x1 M = some r) : n_At l w 3 mJ0_indexOf_0f7a4_t1 0 [(0, .retAddr 1), (1, .int x1)] [] (G, M) (dv_i r.1, (G, r.2)) :=
  n_seg (fin := n_fin dv_i G) (K := []) 8 (iJ0_indexOf_0f7a4_t1 N hT) n_ke (by rfl) h
theorem eJ0_indexOf_0f7a4_t1 {l : Launch} {w : nW} (N : Nat) {G : nG} (hT : n_PS w) (z1 : Int32) (M : nM) (r : Int32 × nM) (h : fJ0_indexOf_0f7a4_t1 N z1 M = some r) : n_Met l w 3 mJ0_indexOf_0f7a4_t1 [.retAddr 1, .int z1] (G, M) (dv_i r.1, (G, r.2)) :=
  n_entry (by decide +kernel) rfl (Nat.le_of_ble_eq_true rfl) (n_sub (lv := [(0, .retAddr 1), (1, .int z1)]) (n_qc rfl (n_qc rfl n_qe)) (bJ0_indexOf_0f7a4_t1_0 N hT z1 M r h))
abbrev hJ0_indexOf_0f7a4_t1 (N : Nat) : nF := fun T as M k => n_pS 1 as (fun as => n_pI as (fun z1 as => n_pE as ((fJ0_indexOf_0f7a4_t1 N z1 M).bind fun p => k (dv_i p.1) p.2)))
theorem csJ0_indexOf_0f7a4_t1 {l : Launch} {w : nW} (N : Nat) {G : nG} (hT : n_PS w) : n_CS l w 3 mJ0_indexOf_0f7a4_t1 G (hJ0_indexOf_0f7a4_t1 N) := fun T as M k r h => by
  obtain ⟨t0, rfl, h1⟩ := n_pS_x h
  obtain ⟨z1, t1, rfl, h2⟩ := n_pI_x h1
  obtain ⟨rfl, hE⟩ := n_pE_x h2
  obtain ⟨p, hp, hk⟩ := Option.bind_eq_some_iff.mp hE
  exact ⟨_, _, eJ0_indexOf_0f7a4_t1 N hT z1 M p hp, hk⟩
/-! ===== SleightHouse$Reader.addToken(III)V ===== -/
def mX6_addToken : nY := (RX6, yX6_addToken, cX6_addToken, 4, none)
theorem okX6_addToken : n_MOK mX6_addToken 3 := ⟨w_918, w_148, ⟨by decide +kernel, by decide +kernel, by decide +kernel⟩, by decide⟩
abbrev aX6_addToken : List (Nat × nO (Unit × nM)) := [(0, o_aload 0 1), (1, o_gIc 80 5 4), (4, o_push (.int (400 : Int32)) 7), (7, oc_gt 50 10), (10, o_aload 0 11), (11, o_gRc 80 82 14), (14, o_aload 0 15), (15, o_gIc 80 5 18), (18, o_iload 1 19), (19, o_iastc 82 401 20), (20, o_aload 0 21), (21, o_gRc 80 83 24), (24, o_aload 0 25), (25, o_gIc 80 5 28), (28, o_iload 2 29), (29, o_iastc 83 401 30), (30, o_aload 0 31), (31, o_gRc 80 84 34), (34, o_aload 0 35), (35, o_gIc 80 5 38), (38, o_iload 3 39), (39, o_iastc 84 401 40), (40, o_aload 0 41), (41, o_dup 42), (42, o_gIc 80 5 45), (45, o_push (.int (1 : Int32)) 46), (46, o_iadd 47), (47, o_pIc 80 5 50), (50, o_vret)]
set_option maxRecDepth 200000 in
theorem iX6_addToken {l : Launch} {w : nW} {G : nG} (hG : n_GOK G) : n_AllS l w 0 mX6_addToken G (n_fin dv_v G) (aX6_addToken) :=
  n_c (s_aload_n (pc := 0) (k := 0) (by decide +kernel)) <|
  n_c (s_gIc (s_getI (pc := 1) (ci := 6) (k := 5) (idx := 25) nok6 (by decide) rfl (by decide +kernel) w_491) (gk80 hG)) <|
  n_c (s_sipush (pc := 4) (n := 400) (by decide +kernel) (by decide +kernel)) <|
  n_c (s_icmp_gt (pc := 7) (off := 43) (by decide +kernel) (by decide +kernel)) <|
  n_c (s_aload_n (pc := 10) (k := 0) (by decide +kernel)) <|
  n_c (s_gRc (s_getR (pc := 11) (ci := 6) (k := 2) (idx := 15) nok6 (by decide) rfl (by decide +kernel) w_488) (gk80 hG) (gm80_2 hG)) <|
  n_c (s_aload_n (pc := 14) (k := 0) (by decide +kernel)) <|
  n_c (s_gIc (s_getI (pc := 15) (ci := 6) (k := 5) (idx := 25) nok6 (by decide) rfl (by decide +kernel) w_491) (gk80 hG)) <|
  n_c (s_iload_n (pc := 18) (k := 1) (by decide +kernel)) <|
  n_c (s_iastc (s_iastore (pc := 19) (by decide +kernel)) (gk82 hG) (gl82 hG)) <|
  n_c (s_aload_n (pc := 20) (k := 0) (by decide +kernel)) <|
  n_c (s_gRc (s_getR (pc := 21) (ci := 6) (k := 3) (idx := 19) nok6 (by decide) rfl (by decide +kernel) w_489) (gk80 hG) (gm80_3 hG)) <|
  n_c (s_aload_n (pc := 24) (k := 0) (by decide +kernel)) <|
  n_c (s_gIc (s_getI (pc := 25) (ci := 6) (k := 5) (idx := 25) nok6 (by decide) rfl (by decide +kernel) w_491) (gk80 hG)) <|
  n_c (s_iload_n (pc := 28) (k := 2) (by decide +kernel)) <|
  n_c (s_iastc (s_iastore (pc := 29) (by decide +kernel)) (gk83 hG) (gl83 hG)) <|
  n_c (s_aload_n (pc := 30) (k := 0) (by decide +kernel)) <|
  n_c (s_gRc (s_getR (pc := 31) (ci := 6) (k := 4) (idx := 22) nok6 (by decide) rfl (by decide +kernel) w_490) (gk80 hG) (gm80_4 hG)) <|
  n_c (s_aload_n (pc := 34) (k := 0) (by decide +kernel)) <|
  n_c (s_gIc (s_getI (pc := 35) (ci := 6) (k := 5) (idx := 25) nok6 (by decide) rfl (by decide +kernel) w_491) (gk80 hG)) <|
  n_c (s_iload_n (pc := 38) (k := 3) (by decide +kernel)) <|
  n_c (s_iastc (s_iastore (pc := 39) (by decide +kernel)) (gk84 hG) (gl84 hG)) <|
  n_c (s_aload_n (pc := 40) (k := 0) (by decide +kernel)) <|
  n_c (s_dup (pc := 41) (by decide +kernel)) <|
  n_c (s_gIc (s_getI (pc := 42) (ci := 6) (k := 5) (idx := 25) nok6 (by decide) rfl (by decide +kernel) w_491) (gk80 hG)) <|
  n_c (s_iconst (pc := 45) (n := 1) (by decide +kernel) (by decide +kernel)) <|
  n_c (s_iadd (pc := 46) (by decide +kernel)) <|
  n_c (s_pIc (s_putI (pc := 47) (ci := 6) (k := 5) (idx := 25) nok6 (by decide) rfl rfl (by decide +kernel) w_491) (gk80 hG)) <|
  n_c (s_vret (pc := 50) rfl (by decide +kernel)) <|
  n_e
def fX6_addToken (x1 : Int32) (x2 : Int32) (x3 : Int32) (M : nM) : Option (Unit × nM) :=
  if (400 : Int32) < (M 80 5) then
    some ((), M)
  else
    n_chk (n_ib 401 (M 80 5)) <|
    let M1 : nM := n_up M 82 (M 80 5).toNatClampNeg x1
    n_chk (n_ib 401 (M1 80 5)) <|
    let M2 : nM := n_up M1 83 (M1 80 5).toNatClampNeg x2
    n_chk (n_ib 401 (M2 80 5)) <|
    let M3 : nM := n_up M2 84 (M2 80 5).toNatClampNeg x3
    let M4 : nM := n_up M3 80 5 ((M3 80 5) + (1 : Int32))
    some ((), M4)
set_option maxRecDepth 200000 in
theorem bX6_addToken_0 {l : Launch} {w : nW} {G : nG} (hG : n_GOK G) (x1 : Int32) (x2 : Int32) (x3 : Int32) (M : nM) (r : Unit × nM) (h : fX6_addToken x1 x2 x3 M = some r) : n_At l w 0 mX6_addToken 0 [(0, .ref 80), (1, .int x1), (2, .int x2), (3, .int x3)] [] (G, M) (dv_v r.1, (G, r.2)) :=
  n_seg (fin := n_fin dv_v G) (K := []) 33 (iX6_addToken hG) n_ke (by rfl) h
theorem eX6_addToken {l : Launch} {w : nW} {G : nG} (hG : n_GOK G) (z1 : Int32) (z2 : Int32) (z3 : Int32) (M : nM) (r : Unit × nM) (h : fX6_addToken z1 z2 z3 M = some r) : n_Met l w 0 mX6_addToken [.ref 80, .int z1, .int z2, .int z3] (G, M) (dv_v r.1, (G, r.2)) :=
  n_entry (by decide +kernel) rfl (Nat.le_of_ble_eq_true rfl) (n_sub (lv := [(0, .ref 80), (1, .int z1), (2, .int z2), (3, .int z3)]) (n_qc rfl (n_qc rfl (n_qc rfl (n_qc rfl n_qe)))) (bX6_addToken_0 hG z1 z2 z3 M r h))
abbrev hX6_addToken : nF := fun T as M k => n_pC 80 as (fun as => n_pI as (fun z1 as => n_pI as (fun z2 as => n_pI as (fun z3 as => n_pE as ((fX6_addToken z1 z2 z3 M).bind fun p => k (dv_v p.1) p.2)))))
theorem csX6_addToken {l : Launch} {w : nW} {G : nG} (hG : n_GOK G) : n_CS l w 0 mX6_addToken G (hX6_addToken) := fun T as M k r h => by
  obtain ⟨t0, rfl, h1⟩ := n_pC_x h
  obtain ⟨z1, t1, rfl, h2⟩ := n_pI_x h1
  obtain ⟨z2, t2, rfl, h3⟩ := n_pI_x h2
  obtain ⟨z3, t3, rfl, h4⟩ := n_pI_x h3
  obtain ⟨rfl, hE⟩ := n_pE_x h4
  obtain ⟨p, hp, hk⟩ := Option.bind_eq_some_iff.mp hE
  exact ⟨_, _, eX6_addToken hG z1 z2 z3 M p hp, hk⟩
/-! ===== SleightHouse$Reader.groupEnd(II)I ===== -/
def mX6_groupEnd : nY := (RX6, yX6_groupEnd, cX6_groupEnd, 5, some .int)
theorem okX6_groupEnd : n_MOK mX6_groupEnd 2 := ⟨w_922, w_148, ⟨by decide +kernel, by decide +kernel, by decide +kernel⟩, by decide⟩
abbrev aX6_groupEnd (N : Nat) : List (Nat × nO (Int32 × nM)) := [(0, o_aload 0 1), (1, o_gRc 80 81 4), (4, o_iload 1 5), (5, o_aldc 81 400 6), (6, o_push (.int (255 : Int32)) 9), (9, o_iand 10), (10, o_call 1 (hX6_groupOf) 13), (13, o_istore 5 3 14), (14, o_iload 1 15), (15, o_push (.int (1 : Int32)) 16), (16, o_iadd 17), (17, o_istore 5 4 19), (19, o_iload 4 21), (21, o_iload 2 22), (22, oc_ge 57 25), (25, o_iload 4 27), (27, o_push (.int (400 : Int32)) 30), (30, oc_ge 57 33), (33, o_aload 0 34), (34, o_gRc 80 81 37), (37, o_iload 4 39), (39, o_aldc 81 400 40), (40, o_push (.int (255 : Int32)) 43), (43, o_iand 44), (44, o_call 1 (hX6_groupOf) 47), (47, o_iload 3 48), (48, oc_ne 57 51), (51, o_inc 5 4 (1 : Int32) 54), (54, o_goto 19), (57, o_iload 4 59), (59, o_iret)]
set_option maxRecDepth 200000 in
theorem iX6_groupEnd {l : Launch} {w : nW} (N : Nat) {G : nG} (hG : n_GOK G) : n_AllS l w 1 mX6_groupEnd G (n_fin dv_i G) (aX6_groupEnd N) :=
  n_c (s_aload_n (pc := 0) (k := 0) (by decide +kernel)) <|
  n_c (s_gRc (s_getR (pc := 1) (ci := 6) (k := 1) (idx := 9) nok6 (by decide) rfl (by decide +kernel) w_487) (gk80 hG) (gm80_1 hG)) <|
  n_c (s_iload_n (pc := 4) (k := 1) (by decide +kernel)) <|
  n_c (s_aldc (s_baload (pc := 5) (by decide +kernel)) (gk81 hG) (gl81 hG)) <|
  n_c (s_sipush (pc := 6) (n := 255) (by decide +kernel) (by decide +kernel)) <|
  n_c (s_iand (pc := 9) (by decide +kernel)) <|
  n_c (s_callS (pc := 10) (csX6_groupOf) (by decide) okX6_groupOf w_830 w_829 (by decide +kernel)) <|
  n_c (s_istore_n (pc := 13) (k := 3) (by decide +kernel)) <|
  n_c (s_iload_n (pc := 14) (k := 1) (by decide +kernel)) <|
  n_c (s_iconst (pc := 15) (n := 1) (by decide +kernel) (by decide +kernel)) <|
  n_c (s_iadd (pc := 16) (by decide +kernel)) <|
  n_c (s_istore (pc := 17) (by decide +kernel)) <|
  n_c (s_iload (pc := 19) (by decide +kernel)) <|
  n_c (s_iload_n (pc := 21) (k := 2) (by decide +kernel)) <|
  n_c (s_icmp_ge (pc := 22) (off := 35) (by decide +kernel) (by decide +kernel)) <|
  n_c (s_iload (pc := 25) (by decide +kernel)) <|
  n_c (s_sipush (pc := 27) (n := 400) (by decide +kernel) (by decide +kernel)) <|
  n_c (s_icmp_ge (pc := 30) (off := 27) (by decide +kernel) (by decide +kernel)) <|
  n_c (s_aload_n (pc := 33) (k := 0) (by decide +kernel)) <|
  n_c (s_gRc (s_getR (pc := 34) (ci := 6) (k := 1) (idx := 9) nok6 (by decide) rfl (by decide +kernel) w_487) (gk80 hG) (gm80_1 hG)) <|
  n_c (s_iload (pc := 37) (by decide +kernel)) <|
  n_c (s_aldc (s_baload (pc := 39) (by decide +kernel)) (gk81 hG) (gl81 hG)) <|
  n_c (s_sipush (pc := 40) (n := 255) (by decide +kernel) (by decide +kernel)) <|
  n_c (s_iand (pc := 43) (by decide +kernel)) <|
  n_c (s_callS (pc := 44) (csX6_groupOf) (by decide) okX6_groupOf w_830 w_829 (by decide +kernel)) <|
  n_c (s_iload_n (pc := 47) (k := 3) (by decide +kernel)) <|
  n_c (s_icmp_ne (pc := 48) (off := 9) (by decide +kernel) (by decide +kernel)) <|
  n_c (s_iinc (pc := 51) (n := 1) (by decide +kernel) (by decide +kernel)) <|
  n_c (s_goto (pc := 54) (off := -35) (by decide +kernel) (by decide +kernel)) <|
  n_c (s_iload (pc := 57) (by decide +kernel)) <|
  n_c (s_iret (pc := 59) rfl (by decide +kernel)) <|
  n_e
def fX6_groupEnd_19 (N : Nat) : Nat → Int32 → Int32 → Int32 → nM → Option (Int32 × nM)
  | 0, _, _, _, _ => none
  | n + 1, x2, x3, x4, M =>
    if x2 ≤ x4 then
      some (x4, M)
    else
      if (400 : Int32) ≤ x4 then
        some (x4, M)
      else
        n_chk (n_ib 400 x4) <|
        (fX6_groupOf ((M 81 x4.toNatClampNeg) &&& (255 : Int32)) M).bind fun p1 =>
        if ¬ p1.1 = x3 then
          some (x4, p1.2)
        else
          let v2 : Int32 := (x4 + (1 : Int32))
          fX6_groupEnd_19 N n x2 x3 v2 p1.2
set_option maxRecDepth 200000 in
theorem bX6_groupEnd_19 {l : Launch} {w : nW} (N : Nat) {G : nG} (hG : n_GOK G) : ∀ (n : Nat) (x2 : Int32) (x3 : Int32) (x4 : Int32) (M : nM) (r : Int32 × nM), fX6_groupEnd_19 N n x2 x3 x4 M = some r → n_At l w 1 mX6_groupEnd 19 [(0, .ref 80), (2, .int x2), (3, .int x3), (4, .int x4)] [] (G, M) (dv_i r.1, (G, r.2)) := by
  intro n
  induction n with
  | zero => intro x2 x3 x4 M r h; cases (show (none : Option (Int32 × nM)) = some r from h)
  | succ n ih =>
    intro x2 x3 x4 M r h
    exact n_seg (fin := n_fin dv_i G) (K := [(19, fun lv st M => n_lC 80 lv 0 (n_lI lv 2 (fun x2 => n_lI lv 3 (fun x3 => n_lI lv 4 (fun x4 => n_pE st (fX6_groupEnd_19 N n x2 x3 x4 M))))))]) 26 (iX6_groupEnd N hG) (n_kc (fun lv st M r h => by
      obtain ⟨e0, h1⟩ := n_lC_x h
      obtain ⟨x2, e2, h2⟩ := n_lI_x h1
      obtain ⟨x3, e3, h3⟩ := n_lI_x h2
      obtain ⟨x4, e4, h4⟩ := n_lI_x h3
      obtain ⟨rfl, h5⟩ := n_pE_x h4
      exact n_sub (n_qc e0 (n_qc e2 (n_qc e3 (n_qc e4 n_qe)))) (ih x2 x3 x4 M r h5)) n_ke) (by rfl) h
def fX6_groupEnd (N : Nat) (x1 : Int32) (x2 : Int32) (M : nM) : Option (Int32 × nM) :=
  n_chk (n_ib 400 x1) <|
  (fX6_groupOf ((M 81 x1.toNatClampNeg) &&& (255 : Int32)) M).bind fun p1 =>
  let v2 : Int32 := (x1 + (1 : Int32))
  fX6_groupEnd_19 N N x2 p1.1 v2 p1.2
set_option maxRecDepth 200000 in
theorem bX6_groupEnd_0 {l : Launch} {w : nW} (N : Nat) {G : nG} (hG : n_GOK G) (x1 : Int32) (x2 : Int32) (M : nM) (r : Int32 × nM) (h : fX6_groupEnd N x1 x2 M = some r) : n_At l w 1 mX6_groupEnd 0 [(0, .ref 80), (1, .int x1), (2, .int x2)] [] (G, M) (dv_i r.1, (G, r.2)) :=
  n_seg (fin := n_fin dv_i G) (K := [(19, fun lv st M => n_lC 80 lv 0 (n_lI lv 2 (fun x2 => n_lI lv 3 (fun x3 => n_lI lv 4 (fun x4 => n_pE st (fX6_groupEnd_19 N N x2 x3 x4 M))))))]) 15 (iX6_groupEnd N hG) (n_kc (fun lv st M r h => by
      obtain ⟨e0, h1⟩ := n_lC_x h
      obtain ⟨x2, e2, h2⟩ := n_lI_x h1
      obtain ⟨x3, e3, h3⟩ := n_lI_x h2
      obtain ⟨x4, e4, h4⟩ := n_lI_x h3
      obtain ⟨rfl, h5⟩ := n_pE_x h4
      exact n_sub (n_qc e0 (n_qc e2 (n_qc e3 (n_qc e4 n_qe)))) (bX6_groupEnd_19 N hG N x2 x3 x4 M r h5)) n_ke) (by rfl) h
theorem eX6_groupEnd {l : Launch} {w : nW} (N : Nat) {G : nG} (hG : n_GOK G) (z1 : Int32) (z2 : Int32) (M : nM) (r : Int32 × nM) (h : fX6_groupEnd N z1 z2 M = some r) : n_Met l w 1 mX6_groupEnd [.ref 80, .int z1, .int z2] (G, M) (dv_i r.1, (G, r.2)) :=
  n_entry (by decide +kernel) rfl (Nat.le_of_ble_eq_true rfl) (n_sub (lv := [(0, .ref 80), (1, .int z1), (2, .int z2)]) (n_qc rfl (n_qc rfl (n_qc rfl n_qe))) (bX6_groupEnd_0 N hG z1 z2 M r h))
abbrev hX6_groupEnd (N : Nat) : nF := fun T as M k => n_pC 80 as (fun as => n_pI as (fun z1 as => n_pI as (fun z2 as => n_pE as ((fX6_groupEnd N z1 z2 M).bind fun p => k (dv_i p.1) p.2))))
theorem csX6_groupEnd {l : Launch} {w : nW} (N : Nat) {G : nG} (hG : n_GOK G) : n_CS l w 1 mX6_groupEnd G (hX6_groupEnd N) := fun T as M k r h => by
  obtain ⟨t0, rfl, h1⟩ := n_pC_x h
  obtain ⟨z1, t1, rfl, h2⟩ := n_pI_x h1
  obtain ⟨z2, t2, rfl, h3⟩ := n_pI_x h2
  obtain ⟨rfl, hE⟩ := n_pE_x h3
  obtain ⟨p, hp, hk⟩ := Option.bind_eq_some_iff.mp hE
  exact ⟨_, _, eX6_groupEnd N hG z1 z2 M p hp, hk⟩
/-! ===== java/lang/String.coder()B ===== -/
def mJ0_coder_7d493_t2 : nY := (RJ0, yJ0_coder_7d493, cJ0_coder_7d493, 1, some .byte)
theorem okJ0_coder_7d493_t2 : n_MOK mJ0_coder_7d493_t2 0 := ⟨w_854, w_153, ⟨by decide +kernel, by decide +kernel, by decide +kernel⟩, by decide⟩
abbrev aJ0_coder_7d493_t2 : List (Nat × nO (Int32 × nM)) := [(0, o_push (.int 1) 3), (3, oi_eq 13 6), (6, o_aloadS 0 7), (7, o_tco 2 10), (10, o_goto 14), (13, o_push (.int (1 : Int32)) 14), (14, o_bret)]
set_option maxRecDepth 200000 in
theorem iJ0_coder_7d493_t2 {l : Launch} {w : nW} {G : nG} (hT : n_PS w) : n_AllS l w 0 mJ0_coder_7d493_t2 G (n_fin dv_i G) (aJ0_coder_7d493_t2) :=
  n_c (s_getsI (pc := 0) hT w_845 (by decide +kernel)) <|
  n_c (s_if_eq (pc := 3) (off := 10) (by decide +kernel) (by decide +kernel)) <|
  n_c (s_aloadS (pc := 6) (k := 0) (by decide +kernel)) <|
  n_c (s_tco (pc := 7) (i := 1) hT (by decide) w_2189 (by decide +kernel)) <|
  n_c (s_goto (pc := 10) (off := 4) (by decide +kernel) (by decide +kernel)) <|
  n_c (s_iconst (pc := 13) (n := 1) (by decide +kernel) (by decide +kernel)) <|
  n_c (s_bret (pc := 14) rfl (by decide +kernel)) <|
  n_e
def fJ0_coder_7d493_t2 (M : nM) : Option (Int32 × nM) :=
  if (1 : Int32) = 0 then
    n_chk ((1 : Int32).toInt8.toInt32 == (1 : Int32)) (some ((1 : Int32), M))
  else
    n_chk ((0 : Int32).toInt8.toInt32 == (0 : Int32)) (some ((0 : Int32), M))
set_option maxRecDepth 200000 in
theorem bJ0_coder_7d493_t2_0 {l : Launch} {w : nW} {G : nG} (hT : n_PS w) (M : nM) (r : Int32 × nM) (h : fJ0_coder_7d493_t2 M = some r) : n_At l w 0 mJ0_coder_7d493_t2 0 [(0, .retAddr 2)] [] (G, M) (dv_i r.1, (G, r.2)) :=
  n_seg (fin := n_fin dv_i G) (K := []) 11 (iJ0_coder_7d493_t2 hT) n_ke (by rfl) h
theorem eJ0_coder_7d493_t2 {l : Launch} {w : nW} {G : nG} (hT : n_PS w) (M : nM) (r : Int32 × nM) (h : fJ0_coder_7d493_t2 M = some r) : n_Met l w 0 mJ0_coder_7d493_t2 [.retAddr 2] (G, M) (dv_i r.1, (G, r.2)) :=
  n_entry (by decide +kernel) rfl (Nat.le_of_ble_eq_true rfl) (n_sub (lv := [(0, .retAddr 2)]) (n_qc rfl n_qe) (bJ0_coder_7d493_t2_0 hT M r h))
abbrev hJ0_coder_7d493_t2 : nF := fun T as M k => n_pS 2 as (fun as => n_pE as ((fJ0_coder_7d493_t2 M).bind fun p => k (dv_i p.1) p.2))
theorem csJ0_coder_7d493_t2 {l : Launch} {w : nW} {G : nG} (hT : n_PS w) : n_CS l w 0 mJ0_coder_7d493_t2 G (hJ0_coder_7d493_t2) := fun T as M k r h => by
  obtain ⟨t0, rfl, h1⟩ := n_pS_x h
  obtain ⟨rfl, hE⟩ := n_pE_x h1
  obtain ⟨p, hp, hk⟩ := Option.bind_eq_some_iff.mp hE
  exact ⟨_, _, eJ0_coder_7d493_t2 hT M p hp, hk⟩
/-! ===== java/lang/String.length()I ===== -/
def mJ0_length_8abf5_t2 : nY := (RJ0, yJ0_length_8abf5, cJ0_length_8abf5, 1, some .int)
theorem okJ0_length_8abf5_t2 : n_MOK mJ0_length_8abf5_t2 0 := ⟨w_850, w_153, ⟨by decide +kernel, by decide +kernel, by decide +kernel⟩, by decide⟩
abbrev aJ0_length_8abf5_t2 : List (Nat × nO (Int32 × nM)) := [(0, o_aloadS 0 1), (1, o_tva 2 12 4), (4, o_tle 12 144 5), (5, o_aloadS 0 6), (6, o_callT 2 0 (hJ0_coder_7d493_t2) 9), (9, o_ishr 10), (10, o_iret)]
set_option maxRecDepth 200000 in
theorem iJ0_length_8abf5_t2 {l : Launch} {w : nW} {G : nG} (hT : n_PS w) : n_AllS l w 1 mJ0_length_8abf5_t2 G (n_fin dv_i G) (aJ0_length_8abf5_t2) :=
  n_c (s_aloadS (pc := 0) (k := 0) (by decide +kernel)) <|
  n_c (s_tva (pc := 1) (i := 1) hT (by decide) w_2190 (by decide +kernel)) <|
  n_c (s_tle (pc := 4) (i := 1) hT (by decide) rfl (by decide +kernel)) <|
  n_c (s_aloadS (pc := 5) (k := 0) (by decide +kernel)) <|
  n_c (s_callT (pc := 6) (i := 1) hT (by decide) (csJ0_coder_7d493_t2 hT) (by decide) okJ0_coder_7d493_t2 w_852 w_853 w_851 (by decide +kernel)) <|
  n_c (s_ishr (pc := 9) (by decide +kernel)) <|
  n_c (s_iret (pc := 10) rfl (by decide +kernel)) <|
  n_e
def fJ0_length_8abf5_t2 (M : nM) : Option (Int32 × nM) :=
  (fJ0_coder_7d493_t2 M).bind fun p1 =>
  some (((Int32.ofNat 144) >>> (p1.1 &&& 31)), p1.2)
set_option maxRecDepth 200000 in
theorem bJ0_length_8abf5_t2_0 {l : Launch} {w : nW} {G : nG} (hT : n_PS w) (M : nM) (r : Int32 × nM) (h : fJ0_length_8abf5_t2 M = some r) : n_At l w 1 mJ0_length_8abf5_t2 0 [(0, .retAddr 2)] [] (G, M) (dv_i r.1, (G, r.2)) :=
  n_seg (fin := n_fin dv_i G) (K := []) 10 (iJ0_length_8abf5_t2 hT) n_ke (by rfl) h
theorem eJ0_length_8abf5_t2 {l : Launch} {w : nW} {G : nG} (hT : n_PS w) (M : nM) (r : Int32 × nM) (h : fJ0_length_8abf5_t2 M = some r) : n_Met l w 1 mJ0_length_8abf5_t2 [.retAddr 2] (G, M) (dv_i r.1, (G, r.2)) :=
  n_entry (by decide +kernel) rfl (Nat.le_of_ble_eq_true rfl) (n_sub (lv := [(0, .retAddr 2)]) (n_qc rfl n_qe) (bJ0_length_8abf5_t2_0 hT M r h))
abbrev hJ0_length_8abf5_t2 : nF := fun T as M k => n_pS 2 as (fun as => n_pE as ((fJ0_length_8abf5_t2 M).bind fun p => k (dv_i p.1) p.2))
theorem csJ0_length_8abf5_t2 {l : Launch} {w : nW} {G : nG} (hT : n_PS w) : n_CS l w 1 mJ0_length_8abf5_t2 G (hJ0_length_8abf5_t2) := fun T as M k r h => by
  obtain ⟨t0, rfl, h1⟩ := n_pS_x h
  obtain ⟨rfl, hE⟩ := n_pE_x h1
  obtain ⟨p, hp, hk⟩ := Option.bind_eq_some_iff.mp hE
  exact ⟨_, _, eJ0_length_8abf5_t2 hT M p hp, hk⟩
/-! ===== java/lang/String.isLatin1()Z ===== -/
def mJ0_isLatin1_aae02_t2 : nY := (RJ0, yJ0_isLatin1_aae02, cJ0_isLatin1_aae02, 1, some .boolean)
theorem okJ0_isLatin1_aae02_t2 : n_MOK mJ0_isLatin1_aae02_t2 0 := ⟨w_844, w_153, ⟨by decide +kernel, by decide +kernel, by decide +kernel⟩, by decide⟩
abbrev aJ0_isLatin1_aae02_t2 : List (Nat × nO (Int32 × nM)) := [(0, o_push (.int 1) 3), (3, oi_eq 17 6), (6, o_aloadS 0 7), (7, o_tco 2 10), (10, oi_ne 17 13), (13, o_push (.int (1 : Int32)) 14), (14, o_goto 18), (17, o_push (.int (0 : Int32)) 18), (18, o_zret)]
set_option maxRecDepth 200000 in
theorem iJ0_isLatin1_aae02_t2 {l : Launch} {w : nW} {G : nG} (hT : n_PS w) : n_AllS l w 0 mJ0_isLatin1_aae02_t2 G (n_fin dv_i G) (aJ0_isLatin1_aae02_t2) :=
  n_c (s_getsI (pc := 0) hT w_845 (by decide +kernel)) <|
  n_c (s_if_eq (pc := 3) (off := 14) (by decide +kernel) (by decide +kernel)) <|
  n_c (s_aloadS (pc := 6) (k := 0) (by decide +kernel)) <|
  n_c (s_tco (pc := 7) (i := 1) hT (by decide) w_2189 (by decide +kernel)) <|
  n_c (s_if_ne (pc := 10) (off := 7) (by decide +kernel) (by decide +kernel)) <|
  n_c (s_iconst (pc := 13) (n := 1) (by decide +kernel) (by decide +kernel)) <|
  n_c (s_goto (pc := 14) (off := 4) (by decide +kernel) (by decide +kernel)) <|
  n_c (s_iconst (pc := 17) (n := 0) (by decide +kernel) (by decide +kernel)) <|
  n_c (s_zret (pc := 18) rfl (by decide +kernel)) <|
  n_e
def fJ0_isLatin1_aae02_t2 (M : nM) : Option (Int32 × nM) :=
  if (1 : Int32) = 0 then
    some ((0 : Int32), M)
  else
    if ¬ (0 : Int32) = 0 then
      some ((0 : Int32), M)
    else
      some ((1 : Int32), M)
set_option maxRecDepth 200000 in
theorem bJ0_isLatin1_aae02_t2_0 {l : Launch} {w : nW} {G : nG} (hT : n_PS w) (M : nM) (r : Int32 × nM) (h : fJ0_isLatin1_aae02_t2 M = some r) : n_At l w 0 mJ0_isLatin1_aae02_t2 0 [(0, .retAddr 2)] [] (G, M) (dv_i r.1, (G, r.2)) :=
  n_seg (fin := n_fin dv_i G) (K := []) 15 (iJ0_isLatin1_aae02_t2 hT) n_ke (by rfl) h
theorem eJ0_isLatin1_aae02_t2 {l : Launch} {w : nW} {G : nG} (hT : n_PS w) (M : nM) (r : Int32 × nM) (h : fJ0_isLatin1_aae02_t2 M = some r) : n_Met l w 0 mJ0_isLatin1_aae02_t2 [.retAddr 2] (G, M) (dv_i r.1, (G, r.2)) :=
  n_entry (by decide +kernel) rfl (Nat.le_of_ble_eq_true rfl) (n_sub (lv := [(0, .retAddr 2)]) (n_qc rfl n_qe) (bJ0_isLatin1_aae02_t2_0 hT M r h))
abbrev hJ0_isLatin1_aae02_t2 : nF := fun T as M k => n_pS 2 as (fun as => n_pE as ((fJ0_isLatin1_aae02_t2 M).bind fun p => k (dv_i p.1) p.2))
theorem csJ0_isLatin1_aae02_t2 {l : Launch} {w : nW} {G : nG} (hT : n_PS w) : n_CS l w 0 mJ0_isLatin1_aae02_t2 G (hJ0_isLatin1_aae02_t2) := fun T as M k r h => by
  obtain ⟨t0, rfl, h1⟩ := n_pS_x h
  obtain ⟨rfl, hE⟩ := n_pE_x h1
  obtain ⟨p, hp, hk⟩ := Option.bind_eq_some_iff.mp hE
  exact ⟨_, _, eJ0_isLatin1_aae02_t2 hT M p hp, hk⟩
/-! ===== jdk/internal/util/Preconditions.checkIndex(IILjava/util/function/BiFunction;)I ===== -/
def mJ3_checkIndex_8e157 : nY := (RJ3, yJ3_checkIndex_8e157, cJ3_checkIndex_8e157, 3, some .int)
theorem okJ3_checkIndex_8e157 : n_MOK mJ3_checkIndex_8e157 3 := ⟨w_941, w_156, ⟨by decide +kernel, by decide +kernel, by decide +kernel⟩, by decide⟩
abbrev aJ3_checkIndex_8e157 : List (Nat × nO (Int32 × nM)) := [(0, o_iload 0 1), (1, oi_lt 9 4), (4, o_iload 0 5), (5, o_iload 1 6), (6, oc_lt 16 9), (9, o_aloadS 2 10), (10, o_iload 0 11), (11, o_iload 1 12), (12, o_no), (15, o_no), (16, o_iload 0 17), (17, o_iret)]
set_option maxRecDepth 200000 in
theorem iJ3_checkIndex_8e157 {l : Launch} {w : nW} {G : nG} : n_AllS l w 0 mJ3_checkIndex_8e157 G (n_fin dv_i G) (aJ3_checkIndex_8e157) :=
  n_c (s_iload_n (pc := 0) (k := 0) (by decide +kernel)) <|
  n_c (s_if_lt (pc := 1) (off := 8) (by decide +kernel) (by decide +kernel)) <|
  n_c (s_iload_n (pc := 4) (k := 0) (by decide +kernel)) <|
  n_c (s_iload_n (pc := 5) (k := 1) (by decide +kernel)) <|
  n_c (s_icmp_lt (pc := 6) (off := 10) (by decide +kernel) (by decide +kernel)) <|
  n_c (s_aloadS (pc := 9) (k := 2) (by decide +kernel)) <|
  n_c (s_iload_n (pc := 10) (k := 0) (by decide +kernel)) <|
  n_c (s_iload_n (pc := 11) (k := 1) (by decide +kernel)) <|
  n_c (s_no (pc := 12)) <|
  n_c (s_no (pc := 15)) <|
  n_c (s_iload_n (pc := 16) (k := 0) (by decide +kernel)) <|
  n_c (s_iret (pc := 17) rfl (by decide +kernel)) <|
  n_e
def fJ3_checkIndex_8e157_9 (x0 : Int32) (x1 : Int32) (M : nM) : Option (Int32 × nM) :=
  none
set_option maxRecDepth 200000 in
theorem bJ3_checkIndex_8e157_9 {l : Launch} {w : nW} {G : nG} (x0 : Int32) (x1 : Int32) (M : nM) (r : Int32 × nM) (h : fJ3_checkIndex_8e157_9 x0 x1 M = some r) : n_At l w 0 mJ3_checkIndex_8e157 9 [(0, .int x0), (1, .int x1), (2, .retAddr 20)] [] (G, M) (dv_i r.1, (G, r.2)) :=
  n_seg (fin := n_fin dv_i G) (K := []) 7 (iJ3_checkIndex_8e157) n_ke (by rfl) h
def fJ3_checkIndex_8e157 (x0 : Int32) (x1 : Int32) (M : nM) : Option (Int32 × nM) :=
  if x0 < 0 then
    fJ3_checkIndex_8e157_9 x0 x1 M
  else
    if x0 < x1 then
      some (x0, M)
    else
      fJ3_checkIndex_8e157_9 x0 x1 M
set_option maxRecDepth 200000 in
theorem bJ3_checkIndex_8e157_0 {l : Launch} {w : nW} {G : nG} (x0 : Int32) (x1 : Int32) (M : nM) (r : Int32 × nM) (h : fJ3_checkIndex_8e157 x0 x1 M = some r) : n_At l w 0 mJ3_checkIndex_8e157 0 [(0, .int x0), (1, .int x1), (2, .retAddr 20)] [] (G, M) (dv_i r.1, (G, r.2)) :=
  n_seg (fin := n_fin dv_i G) (K := [(9, fun lv st M => n_lI lv 0 (fun x0 => n_lI lv 1 (fun x1 => n_lS 20 lv 2 (n_pE st (fJ3_checkIndex_8e157_9 x0 x1 M)))))]) 10 (iJ3_checkIndex_8e157) (n_kc (fun lv st M r h => by
      obtain ⟨x0, e0, h1⟩ := n_lI_x h
      obtain ⟨x1, e1, h2⟩ := n_lI_x h1
      obtain ⟨e2, h3⟩ := n_lS_x h2
      obtain ⟨rfl, h4⟩ := n_pE_x h3
      exact n_sub (n_qc e0 (n_qc e1 (n_qc e2 n_qe))) (bJ3_checkIndex_8e157_9 x0 x1 M r h4)) n_ke) (by rfl) h
theorem eJ3_checkIndex_8e157 {l : Launch} {w : nW} {G : nG} (z0 : Int32) (z1 : Int32) (M : nM) (r : Int32 × nM) (h : fJ3_checkIndex_8e157 z0 z1 M = some r) : n_Met l w 0 mJ3_checkIndex_8e157 [.int z0, .int z1, .retAddr 20] (G, M) (dv_i r.1, (G, r.2)) :=
  n_entry (by decide +kernel) rfl (Nat.le_of_ble_eq_true rfl) (n_sub (lv := [(0, .int z0), (1, .int z1), (2, .retAddr 20)]) (n_qc rfl (n_qc rfl (n_qc rfl n_qe))) (bJ3_checkIndex_8e157_0 z0 z1 M r h))
abbrev hJ3_checkIndex_8e157 : nF := fun T as M k => n_pI as (fun z0 as => n_pI as (fun z1 as => n_pS 20 as (fun as => n_pE as ((fJ3_checkIndex_8e157 z0 z1 M).bind fun p => k (dv_i p.1) p.2))))
theorem csJ3_checkIndex_8e157 {l : Launch} {w : nW} {G : nG} : n_CS l w 0 mJ3_checkIndex_8e157 G (hJ3_checkIndex_8e157) := fun T as M k r h => by
  obtain ⟨z0, t0, rfl, h1⟩ := n_pI_x h
  obtain ⟨z1, t1, rfl, h2⟩ := n_pI_x h1
  obtain ⟨t2, rfl, h3⟩ := n_pS_x h2
  obtain ⟨rfl, hE⟩ := n_pE_x h3
  obtain ⟨p, hp, hk⟩ := Option.bind_eq_some_iff.mp hE
  exact ⟨_, _, eJ3_checkIndex_8e157 z0 z1 M p hp, hk⟩
/-! ===== java/lang/String.checkIndex(II)V ===== -/
def mJ0_checkIndex_df160 : nY := (RJ0, yJ0_checkIndex_df160, cJ0_checkIndex_df160, 2, none)
theorem okJ0_checkIndex_df160 : n_MOK mJ0_checkIndex_df160 2 := ⟨w_938, w_153, ⟨by decide +kernel, by decide +kernel, by decide +kernel⟩, by decide⟩
abbrev aJ0_checkIndex_df160 : List (Nat × nO (Unit × nM)) := [(0, o_iload 0 1), (1, o_iload 1 2), (2, o_push (.retAddr 20) 5), (5, o_call 3 (hJ3_checkIndex_8e157) 8), (8, o_pop 9), (9, o_vret)]
set_option maxRecDepth 200000 in
theorem iJ0_checkIndex_df160 {l : Launch} {w : nW} {G : nG} (hT : n_PS w) : n_AllS l w 1 mJ0_checkIndex_df160 G (n_fin dv_v G) (aJ0_checkIndex_df160) :=
  n_c (s_iload_n (pc := 0) (k := 0) (by decide +kernel)) <|
  n_c (s_iload_n (pc := 1) (k := 1) (by decide +kernel)) <|
  n_c (s_getsF (pc := 2) hT w_884 (by decide +kernel)) <|
  n_c (s_callS (pc := 5) (csJ3_checkIndex_8e157) (by decide) okJ3_checkIndex_8e157 w_940 w_939 (by decide +kernel)) <|
  n_c (s_pop (pc := 8) (by decide +kernel)) <|
  n_c (s_vret (pc := 9) rfl (by decide +kernel)) <|
  n_e
def fJ0_checkIndex_df160 (x0 : Int32) (x1 : Int32) (M : nM) : Option (Unit × nM) :=
  (fJ3_checkIndex_8e157 x0 x1 M).bind fun p1 =>
  some ((), p1.2)
set_option maxRecDepth 200000 in
theorem bJ0_checkIndex_df160_0 {l : Launch} {w : nW} {G : nG} (hT : n_PS w) (x0 : Int32) (x1 : Int32) (M : nM) (r : Unit × nM) (h : fJ0_checkIndex_df160 x0 x1 M = some r) : n_At l w 1 mJ0_checkIndex_df160 0 [(0, .int x0), (1, .int x1)] [] (G, M) (dv_v r.1, (G, r.2)) :=
  n_seg (fin := n_fin dv_v G) (K := []) 9 (iJ0_checkIndex_df160 hT) n_ke (by rfl) h
theorem eJ0_checkIndex_df160 {l : Launch} {w : nW} {G : nG} (hT : n_PS w) (z0 : Int32) (z1 : Int32) (M : nM) (r : Unit × nM) (h : fJ0_checkIndex_df160 z0 z1 M = some r) : n_Met l w 1 mJ0_checkIndex_df160 [.int z0, .int z1] (G, M) (dv_v r.1, (G, r.2)) :=
  n_entry (by decide +kernel) rfl (Nat.le_of_ble_eq_true rfl) (n_sub (lv := [(0, .int z0), (1, .int z1)]) (n_qc rfl (n_qc rfl n_qe)) (bJ0_checkIndex_df160_0 hT z0 z1 M r h))
abbrev hJ0_checkIndex_df160 : nF := fun T as M k => n_pI as (fun z0 as => n_pI as (fun z1 as => n_pE as ((fJ0_checkIndex_df160 z0 z1 M).bind fun p => k (dv_v p.1) p.2)))
theorem csJ0_checkIndex_df160 {l : Launch} {w : nW} {G : nG} (hT : n_PS w) : n_CS l w 1 mJ0_checkIndex_df160 G (hJ0_checkIndex_df160) := fun T as M k r h => by
  obtain ⟨z0, t0, rfl, h1⟩ := n_pI_x h
  obtain ⟨z1, t1, rfl, h2⟩ := n_pI_x h1
  obtain ⟨rfl, hE⟩ := n_pE_x h2
  obtain ⟨p, hp, hk⟩ := Option.bind_eq_some_iff.mp hE
  exact ⟨_, _, eJ0_checkIndex_df160 hT z0 z1 M p hp, hk⟩
/-! ===== java/lang/StringLatin1.charAt([BI)C ===== -/
def mJ1_charAt_3b067_t2 : nY := (RJ1, yJ1_charAt_3b067, cJ1_charAt_3b067, 2, some .char)
theorem okJ1_charAt_3b067_t2 : n_MOK mJ1_charAt_3b067_t2 2 := ⟨w_935, w_154, ⟨by decide +kernel, by decide +kernel, by decide +kernel⟩, by decide⟩
abbrev aJ1_charAt_3b067_t2 : List (Nat × nO (Int32 × nM)) := [(0, o_iload 1 1), (1, o_aloadS 0 2), (2, o_tle 12 144 3), (3, o_call 2 (hJ0_checkIndex_df160) 6), (6, o_aloadS 0 7), (7, o_iload 1 8), (8, o_tal 12 144 n_tb2 9), (9, o_push (.int (255 : Int32)) 12), (12, o_iand 13), (13, o_i2c 14), (14, o_cret)]
set_option maxRecDepth 200000 in
theorem iJ1_charAt_3b067_t2 {l : Launch} {w : nW} {G : nG} (hT : n_PS w) : n_AllS l w 2 mJ1_charAt_3b067_t2 G (n_fin dv_i G) (aJ1_charAt_3b067_t2) :=
  n_c (s_iload_n (pc := 0) (k := 1) (by decide +kernel)) <|
  n_c (s_aloadS (pc := 1) (k := 0) (by decide +kernel)) <|
  n_c (s_tle (pc := 2) (i := 1) hT (by decide) rfl (by decide +kernel)) <|
  n_c (s_callS (pc := 3) (csJ0_checkIndex_df160 hT) (by decide) okJ0_checkIndex_df160 w_937 w_936 (by decide +kernel)) <|
  n_c (s_aloadS (pc := 6) (k := 0) (by decide +kernel)) <|
  n_c (s_iload_n (pc := 7) (k := 1) (by decide +kernel)) <|
  n_c (s_tal (pc := 8) (i := 1) hT (by decide) rfl rfl (by decide +kernel)) <|
  n_c (s_sipush (pc := 9) (n := 255) (by decide +kernel) (by decide +kernel)) <|
  n_c (s_iand (pc := 12) (by decide +kernel)) <|
  n_c (s_i2c (pc := 13) (by decide +kernel)) <|
  n_c (s_cret (pc := 14) rfl (by decide +kernel)) <|
  n_e
def fJ1_charAt_3b067_t2 (x1 : Int32) (M : nM) : Option (Int32 × nM) :=
  (fJ0_checkIndex_df160 x1 (Int32.ofNat 144) M).bind fun p1 =>
  n_chk (n_ib 144 x1) <|
  n_chk ((((n_tb2.getD x1.toNatClampNeg 0) &&& (255 : Int32)).toUInt32 % 65536).toInt32.toUInt32.toUInt16.toUInt32.toInt32 == (((n_tb2.getD x1.toNatClampNeg 0) &&& (255 : Int32)).toUInt32 % 65536).toInt32) (some ((((n_tb2.getD x1.toNatClampNeg 0) &&& (255 : Int32)).toUInt32 % 65536).toInt32, p1.2))
set_option maxRecDepth 200000 in
theorem bJ1_charAt_3b067_t2_0 {l : Launch} {w : nW} {G : nG} (hT : n_PS w) (x1 : Int32) (M : nM) (r : Int32 × nM) (h : fJ1_charAt_3b067_t2 x1 M = some r) : n_At l w 2 mJ1_charAt_3b067_t2 0 [(0, .retAddr 12), (1, .int x1)] [] (G, M) (dv_i r.1, (G, r.2)) :=
  n_seg (fin := n_fin dv_i G) (K := []) 14 (iJ1_charAt_3b067_t2 hT) n_ke (by rfl) h
theorem eJ1_charAt_3b067_t2 {l : Launch} {w : nW} {G : nG} (hT : n_PS w) (z1 : Int32) (M : nM) (r : Int32 × nM) (h : fJ1_charAt_3b067_t2 z1 M = some r) : n_Met l w 2 mJ1_charAt_3b067_t2 [.retAddr 12, .int z1] (G, M) (dv_i r.1, (G, r.2)) :=
  n_entry (by decide +kernel) rfl (Nat.le_of_ble_eq_true rfl) (n_sub (lv := [(0, .retAddr 12), (1, .int z1)]) (n_qc rfl (n_qc rfl n_qe)) (bJ1_charAt_3b067_t2_0 hT z1 M r h))
abbrev hJ1_charAt_3b067_t2 : nF := fun T as M k => n_pS 12 as (fun as => n_pI as (fun z1 as => n_pE as ((fJ1_charAt_3b067_t2 z1 M).bind fun p => k (dv_i p.1) p.2)))
theorem csJ1_charAt_3b067_t2 {l : Launch} {w : nW} {G : nG} (hT : n_PS w) : n_CS l w 2 mJ1_charAt_3b067_t2 G (hJ1_charAt_3b067_t2) := fun T as M k r h => by
  obtain ⟨t0, rfl, h1⟩ := n_pS_x h
  obtain ⟨z1, t1, rfl, h2⟩ := n_pI_x h1
  obtain ⟨rfl, hE⟩ := n_pE_x h2
  obtain ⟨p, hp, hk⟩ := Option.bind_eq_some_iff.mp hE
  exact ⟨_, _, eJ1_charAt_3b067_t2 hT z1 M p hp, hk⟩
/-! ===== java/lang/String.charAt(I)C ===== -/
def mJ0_charAt_5068e_t2 : nY := (RJ0, yJ0_charAt_5068e, cJ0_charAt_5068e, 2, some .char)
theorem okJ0_charAt_5068e_t2 : n_MOK mJ0_charAt_5068e_t2 1 := ⟨w_932, w_153, ⟨by decide +kernel, by decide +kernel, by decide +kernel⟩, by decide⟩
abbrev aJ0_charAt_5068e_t2 : List (Nat × nO (Int32 × nM)) := [(0, o_aloadS 0 1), (1, o_callT 2 0 (hJ0_isLatin1_aae02_t2) 4), (4, oi_eq 16 7), (7, o_aloadS 0 8), (8, o_tva 2 12 11), (11, o_iload 1 12), (12, o_call 2 (hJ1_charAt_3b067_t2) 15), (15, o_cret), (16, o_aloadS 0 17), (17, o_tva 2 12 20), (20, o_iload 1 21), (21, o_no), (24, o_cret)]
set_option maxRecDepth 200000 in
theorem iJ0_charAt_5068e_t2 {l : Launch} {w : nW} {G : nG} (hT : n_PS w) : n_AllS l w 3 mJ0_charAt_5068e_t2 G (n_fin dv_i G) (aJ0_charAt_5068e_t2) :=
  n_c (s_aloadS (pc := 0) (k := 0) (by decide +kernel)) <|
  n_c (s_callT (pc := 1) (i := 1) hT (by decide) (csJ0_isLatin1_aae02_t2 hT) (by decide) okJ0_isLatin1_aae02_t2 w_842 w_843 w_841 (by decide +kernel)) <|
  n_c (s_if_eq (pc := 4) (off := 12) (by decide +kernel) (by decide +kernel)) <|
  n_c (s_aloadS (pc := 7) (k := 0) (by decide +kernel)) <|
  n_c (s_tva (pc := 8) (i := 1) hT (by decide) w_2190 (by decide +kernel)) <|
  n_c (s_iload_n (pc := 11) (k := 1) (by decide +kernel)) <|
  n_c (s_callS (pc := 12) (csJ1_charAt_3b067_t2 hT) (by decide) okJ1_charAt_3b067_t2 w_934 w_933 (by decide +kernel)) <|
  n_c (s_cret (pc := 15) rfl (by decide +kernel)) <|
  n_c (s_aloadS (pc := 16) (k := 0) (by decide +kernel)) <|
  n_c (s_tva (pc := 17) (i := 1) hT (by decide) w_2190 (by decide +kernel)) <|
  n_c (s_iload_n (pc := 20) (k := 1) (by decide +kernel)) <|
  n_c (s_no (pc := 21)) <|
  n_c (s_cret (pc := 24) rfl (by decide +kernel)) <|
  n_e
def fJ0_charAt_5068e_t2 (x1 : Int32) (M : nM) : Option (Int32 × nM) :=
  (fJ0_isLatin1_aae02_t2 M).bind fun p1 =>
  if p1.1 = 0 then
    none
  else
    (fJ1_charAt_3b067_t2 x1 p1.2).bind fun p2 =>
    n_chk (p2.1.toUInt32.toUInt16.toUInt32.toInt32 == p2.1) (some (p2.1, p2.2))
set_option maxRecDepth 200000 in
theorem bJ0_charAt_5068e_t2_0 {l : Launch} {w : nW} {G : nG} (hT : n_PS w) (x1 : Int32) (M : nM) (r : Int32 × nM) (h : fJ0_charAt_5068e_t2 x1 M = some r) : n_At l w 3 mJ0_charAt_5068e_t2 0 [(0, .retAddr 2), (1, .int x1)] [] (G, M) (dv_i r.1, (G, r.2)) :=
  n_seg (fin := n_fin dv_i G) (K := []) 15 (iJ0_charAt_5068e_t2 hT) n_ke (by rfl) h
theorem eJ0_charAt_5068e_t2 {l : Launch} {w : nW} {G : nG} (hT : n_PS w) (z1 : Int32) (M : nM) (r : Int32 × nM) (h : fJ0_charAt_5068e_t2 z1 M = some r) : n_Met l w 3 mJ0_charAt_5068e_t2 [.retAddr 2, .int z1] (G, M) (dv_i r.1, (G, r.2)) :=
  n_entry (by decide +kernel) rfl (Nat.le_of_ble_eq_true rfl) (n_sub (lv := [(0, .retAddr 2), (1, .int z1)]) (n_qc rfl (n_qc rfl n_qe)) (bJ0_charAt_5068e_t2_0 hT z1 M r h))
abbrev hJ0_charAt_5068e_t2 : nF := fun T as M k => n_pS 2 as (fun as => n_pI as (fun z1 as => n_pE as ((fJ0_charAt_5068e_t2 z1 M).bind fun p => k (dv_i p.1) p.2)))
theorem csJ0_charAt_5068e_t2 {l : Launch} {w : nW} {G : nG} (hT : n_PS w) : n_CS l w 3 mJ0_charAt_5068e_t2 G (hJ0_charAt_5068e_t2) := fun T as M k r h => by
  obtain ⟨t0, rfl, h1⟩ := n_pS_x h
  obtain ⟨z1, t1, rfl, h2⟩ := n_pI_x h1
  obtain ⟨rfl, hE⟩ := n_pE_x h2
  obtain ⟨p, hp, hk⟩ := Option.bind_eq_some_iff.mp hE
  exact ⟨_, _, eJ0_charAt_5068e_t2 hT z1 M p hp, hk⟩
/-! ===== SleightHouse$Reader.isWord(III)Z ===== -/
def mX6_isWord : nY := (RX6, yX6_isWord, cX6_isWord, 5, some .boolean)
theorem okX6_isWord : n_MOK mX6_isWord 3 := ⟨w_952, w_148, ⟨by decide +kernel, by decide +kernel, by decide +kernel⟩, by decide⟩
abbrev aX6_isWord (N : Nat) : List (Nat × nO (Int32 × nM)) := [(0, o_iload 1 1), (1, o_istore 5 4 3), (3, o_iload 4 5), (5, o_iload 2 6), (6, oc_ge 42 9), (9, o_push (.retAddr 2) 11), (11, o_iload 4 13), (13, o_callT 2 1 (hJ0_charAt_5068e_t2) 16), (16, o_aload 0 17), (17, o_gRc 80 81 20), (20, o_iload 3 21), (21, o_iload 4 23), (23, o_iadd 24), (24, o_iload 1 25), (25, o_isub 26), (26, o_aldc 81 400 27), (27, o_push (.int (255 : Int32)) 30), (30, o_iand 31), (31, oc_eq 36 34), (34, o_push (.int (0 : Int32)) 35), (35, o_zret), (36, o_inc 5 4 (1 : Int32) 39), (39, o_goto 3), (42, o_push (.int (1 : Int32)) 43), (43, o_zret)]
set_option maxRecDepth 200000 in
theorem iX6_isWord {l : Launch} {w : nW} (N : Nat) {G : nG} (hG : n_GOK G) (hT : n_PS w) : n_AllS l w 4 mX6_isWord G (n_fin dv_i G) (aX6_isWord N) :=
  n_c (s_iload_n (pc := 0) (k := 1) (by decide +kernel)) <|
  n_c (s_istore (pc := 1) (by decide +kernel)) <|
  n_c (s_iload (pc := 3) (by decide +kernel)) <|
  n_c (s_iload_n (pc := 5) (k := 2) (by decide +kernel)) <|
  n_c (s_icmp_ge (pc := 6) (off := 36) (by decide +kernel) (by decide +kernel)) <|
  n_c (s_ldcS2 (pc := 9) hT rfl (by decide +kernel)) <|
  n_c (s_iload (pc := 11) (by decide +kernel)) <|
  n_c (s_callT (pc := 13) (i := 1) hT (by decide) (csJ0_charAt_5068e_t2 hT) (by decide) okJ0_charAt_5068e_t2 w_930 w_931 w_929 (by decide +kernel)) <|
  n_c (s_aload_n (pc := 16) (k := 0) (by decide +kernel)) <|
  n_c (s_gRc (s_getR (pc := 17) (ci := 6) (k := 1) (idx := 9) nok6 (by decide) rfl (by decide +kernel) w_487) (gk80 hG) (gm80_1 hG)) <|
  n_c (s_iload_n (pc := 20) (k := 3) (by decide +kernel)) <|
  n_c (s_iload (pc := 21) (by decide +kernel)) <|
  n_c (s_iadd (pc := 23) (by decide +kernel)) <|
  n_c (s_iload_n (pc := 24) (k := 1) (by decide +kernel)) <|
  n_c (s_isub (pc := 25) (by decide +kernel)) <|
  n_c (s_aldc (s_baload (pc := 26) (by decide +kernel)) (gk81 hG) (gl81 hG)) <|
  n_c (s_sipush (pc := 27) (n := 255) (by decide +kernel) (by decide +kernel)) <|
  n_c (s_iand (pc := 30) (by decide +kernel)) <|
  n_c (s_icmp_eq (pc := 31) (off := 5) (by decide +kernel) (by decide +kernel)) <|
  n_c (s_iconst (pc := 34) (n := 0) (by decide +kernel) (by decide +kernel)) <|
  n_c (s_zret (pc := 35) rfl (by decide +kernel)) <|
  n_c (s_iinc (pc := 36) (n := 1) (by decide +kernel) (by decide +kernel)) <|
  n_c (s_goto (pc := 39) (off := -36) (by decide +kernel) (by decide +kernel)) <|
  n_c (s_iconst (pc := 42) (n := 1) (by decide +kernel) (by decide +kernel)) <|
  n_c (s_zret (pc := 43) rfl (by decide +kernel)) <|
  n_e
def fX6_isWord_3 (N : Nat) : Nat → Int32 → Int32 → Int32 → Int32 → nM → Option (Int32 × nM)
  | 0, _, _, _, _, _ => none
  | n + 1, x1, x2, x3, x4, M =>
    if x2 ≤ x4 then
      some ((1 : Int32), M)
    else
      (fJ0_charAt_5068e_t2 x4 M).bind fun p1 =>
      n_chk (n_ib 400 ((x3 + x4) - x1)) <|
      if p1.1 = ((p1.2 81 ((x3 + x4) - x1).toNatClampNeg) &&& (255 : Int32)) then
        let v2 : Int32 := (x4 + (1 : Int32))
        fX6_isWord_3 N n x1 x2 x3 v2 p1.2
      else
        some ((0 : Int32), p1.2)
set_option maxRecDepth 200000 in
theorem bX6_isWord_3 {l : Launch} {w : nW} (N : Nat) {G : nG} (hG : n_GOK G) (hT : n_PS w) : ∀ (n : Nat) (x1 : Int32) (x2 : Int32) (x3 : Int32) (x4 : Int32) (M : nM) (r : Int32 × nM), fX6_isWord_3 N n x1 x2 x3 x4 M = some r → n_At l w 4 mX6_isWord 3 [(0, .ref 80), (1, .int x1), (2, .int x2), (3, .int x3), (4, .int x4)] [] (G, M) (dv_i r.1, (G, r.2)) := by
  intro n
  induction n with
  | zero => intro x1 x2 x3 x4 M r h; cases (show (none : Option (Int32 × nM)) = some r from h)
  | succ n ih =>
    intro x1 x2 x3 x4 M r h
    exact n_seg (fin := n_fin dv_i G) (K := [(3, fun lv st M => n_lC 80 lv 0 (n_lI lv 1 (fun x1 => n_lI lv 2 (fun x2 => n_lI lv 3 (fun x3 => n_lI lv 4 (fun x4 => n_pE st (fX6_isWord_3 N n x1 x2 x3 x4 M)))))))]) 26 (iX6_isWord N hG hT) (n_kc (fun lv st M r h => by
      obtain ⟨e0, h1⟩ := n_lC_x h
      obtain ⟨x1, e1, h2⟩ := n_lI_x h1
      obtain ⟨x2, e2, h3⟩ := n_lI_x h2
      obtain ⟨x3, e3, h4⟩ := n_lI_x h3
      obtain ⟨x4, e4, h5⟩ := n_lI_x h4
      obtain ⟨rfl, h6⟩ := n_pE_x h5
      exact n_sub (n_qc e0 (n_qc e1 (n_qc e2 (n_qc e3 (n_qc e4 n_qe))))) (ih x1 x2 x3 x4 M r h6)) n_ke) (by rfl) h
def fX6_isWord (N : Nat) (x1 : Int32) (x2 : Int32) (x3 : Int32) (M : nM) : Option (Int32 × nM) :=
  fX6_isWord_3 N N x1 x2 x3 x1 M
set_option maxRecDepth 200000 in
theorem bX6_isWord_0 {l : Launch} {w : nW} (N : Nat) {G : nG} (hG : n_GOK G) (hT : n_PS w) (x1 : Int32) (x2 : Int32) (x3 : Int32) (M : nM) (r : Int32 × nM) (h : fX6_isWord N x1 x2 x3 M = some r) : n_At l w 4 mX6_isWord 0 [(0, .ref 80), (1, .int x1), (2, .int x2), (3, .int x3)] [] (G, M) (dv_i r.1, (G, r.2)) :=
  n_seg (fin := n_fin dv_i G) (K := [(3, fun lv st M => n_lC 80 lv 0 (n_lI lv 1 (fun x1 => n_lI lv 2 (fun x2 => n_lI lv 3 (fun x3 => n_lI lv 4 (fun x4 => n_pE st (fX6_isWord_3 N N x1 x2 x3 x4 M)))))))]) 5 (iX6_isWord N hG hT) (n_kc (fun lv st M r h => by
      obtain ⟨e0, h1⟩ := n_lC_x h
      obtain ⟨x1, e1, h2⟩ := n_lI_x h1
      obtain ⟨x2, e2, h3⟩ := n_lI_x h2
      obtain ⟨x3, e3, h4⟩ := n_lI_x h3
      obtain ⟨x4, e4, h5⟩ := n_lI_x h4
      obtain ⟨rfl, h6⟩ := n_pE_x h5
      exact n_sub (n_qc e0 (n_qc e1 (n_qc e2 (n_qc e3 (n_qc e4 n_qe))))) (bX6_isWord_3 N hG hT N x1 x2 x3 x4 M r h6)) n_ke) (by rfl) h
theorem eX6_isWord {l : Launch} {w : nW} (N : Nat) {G : nG} (hG : n_GOK G) (hT : n_PS w) (z1 : Int32) (z2 : Int32) (z3 : Int32) (M : nM) (r : Int32 × nM) (h : fX6_isWord N z1 z2 z3 M = some r) : n_Met l w 4 mX6_isWord [.ref 80, .int z1, .int z2, .int z3] (G, M) (dv_i r.1, (G, r.2)) :=
  n_entry (by decide +kernel) rfl (Nat.le_of_ble_eq_true rfl) (n_sub (lv := [(0, .ref 80), (1, .int z1), (2, .int z2), (3, .int z3)]) (n_qc rfl (n_qc rfl (n_qc rfl (n_qc rfl n_qe)))) (bX6_isWord_0 N hG hT z1 z2 z3 M r h))
abbrev hX6_isWord (N : Nat) : nF := fun T as M k => n_pC 80 as (fun as => n_pI as (fun z1 as => n_pI as (fun z2 as => n_pI as (fun z3 as => n_pE as ((fX6_isWord N z1 z2 z3 M).bind fun p => k (dv_i p.1) p.2)))))
theorem csX6_isWord {l : Launch} {w : nW} (N : Nat) {G : nG} (hG : n_GOK G) (hT : n_PS w) : n_CS l w 4 mX6_isWord G (hX6_isWord N) := fun T as M k r h => by
  obtain ⟨t0, rfl, h1⟩ := n_pC_x h
  obtain ⟨z1, t1, rfl, h2⟩ := n_pI_x h1
  obtain ⟨z2, t2, rfl, h3⟩ := n_pI_x h2
  obtain ⟨z3, t3, rfl, h4⟩ := n_pI_x h3
  obtain ⟨rfl, hE⟩ := n_pE_x h4
  obtain ⟨p, hp, hk⟩ := Option.bind_eq_some_iff.mp hE
  exact ⟨_, _, eX6_isWord N hG hT z1 z2 z3 M p hp, hk⟩
/-! ===== SleightHouse$Reader.wordKind(II)I ===== -/
def mX6_wordKind : nY := (RX6, yX6_wordKind, cX6_wordKind, 6, some .int)
theorem okX6_wordKind : n_MOK mX6_wordKind 2 := ⟨w_926, w_148, ⟨by decide +kernel, by decide +kernel, by decide +kernel⟩, by decide⟩
abbrev aX6_wordKind (N : Nat) : List (Nat × nO (Int32 × nM)) := [(0, o_push (.int (128 : Int32)) 3), (3, o_istore 6 3 4), (4, o_push (.int (0 : Int32)) 5), (5, o_istore 6 4 7), (7, o_push (.int (0 : Int32)) 8), (8, o_istore 6 5 10), (10, o_iload 5 12), (12, o_push (.retAddr 2) 14), (14, o_callT 2 0 (hJ0_length_8abf5_t2) 17), (17, oc_ge 72 20), (20, o_push (.retAddr 2) 22), (22, o_iload 5 24), (24, o_callT 2 1 (hJ0_charAt_5068e_t2) 27), (27, o_push (.int (32 : Int32)) 29), (29, oc_ne 66 32), (32, o_iload 5 34), (34, o_iload 4 36), (36, o_isub 37), (37, o_iload 2 38), (38, o_iload 1 39), (39, o_isub 40), (40, oc_ne 57 43), (43, o_aload 0 44), (44, o_iload 4 46), (46, o_iload 5 48), (48, o_iload 1 49), (49, o_callVc 80 3 (hX6_isWord N) 52), (52, oi_eq 57 55), (55, o_iload 3 56), (56, o_iret), (57, o_inc 6 3 (1 : Int32) 60), (60, o_iload 5 62), (62, o_push (.int (1 : Int32)) 63), (63, o_iadd 64), (64, o_istore 6 4 66), (66, o_inc 6 5 (1 : Int32) 69), (69, o_goto 10), (72, o_push (.int (1 : Int32)) 73), (73, o_iret)]
set_option maxRecDepth 200000 in
theorem iX6_wordKind {l : Launch} {w : nW} (N : Nat) {G : nG} (hG : n_GOK G) (hT : n_PS w) : n_AllS l w 5 mX6_wordKind G (n_fin dv_i G) (aX6_wordKind N) :=
  n_c (s_sipush (pc := 0) (n := 128) (by decide +kernel) (by decide +kernel)) <|
  n_c (s_istore_n (pc := 3) (k := 3) (by decide +kernel)) <|
  n_c (s_iconst (pc := 4) (n := 0) (by decide +kernel) (by decide +kernel)) <|
  n_c (s_istore (pc := 5) (by decide +kernel)) <|
  n_c (s_iconst (pc := 7) (n := 0) (by decide +kernel) (by decide +kernel)) <|
  n_c (s_istore (pc := 8) (by decide +kernel)) <|
  n_c (s_iload (pc := 10) (by decide +kernel)) <|
  n_c (s_ldcS2 (pc := 12) hT rfl (by decide +kernel)) <|
  n_c (s_callT (pc := 14) (i := 1) hT (by decide) (csJ0_length_8abf5_t2 hT) (by decide) okJ0_length_8abf5_t2 w_848 w_849 w_928 (by decide +kernel)) <|
  n_c (s_icmp_ge (pc := 17) (off := 55) (by decide +kernel) (by decide +kernel)) <|
  n_c (s_ldcS2 (pc := 20) hT rfl (by decide +kernel)) <|
  n_c (s_iload (pc := 22) (by decide +kernel)) <|
  n_c (s_callT (pc := 24) (i := 1) hT (by decide) (csJ0_charAt_5068e_t2 hT) (by decide) okJ0_charAt_5068e_t2 w_930 w_931 w_929 (by decide +kernel)) <|
  n_c (s_bipush (pc := 27) (n := 32) (by decide +kernel) (by decide +kernel)) <|
  n_c (s_icmp_ne (pc := 29) (off := 37) (by decide +kernel) (by decide +kernel)) <|
  n_c (s_iload (pc := 32) (by decide +kernel)) <|
  n_c (s_iload (pc := 34) (by decide +kernel)) <|
  n_c (s_isub (pc := 36) (by decide +kernel)) <|
  n_c (s_iload_n (pc := 37) (k := 2) (by decide +kernel)) <|
  n_c (s_iload_n (pc := 38) (k := 1) (by decide +kernel)) <|
  n_c (s_isub (pc := 39) (by decide +kernel)) <|
  n_c (s_icmp_ne (pc := 40) (off := 17) (by decide +kernel) (by decide +kernel)) <|
  n_c (s_aload_n (pc := 43) (k := 0) (by decide +kernel)) <|
  n_c (s_iload (pc := 44) (by decide +kernel)) <|
  n_c (s_iload (pc := 46) (by decide +kernel)) <|
  n_c (s_iload_n (pc := 48) (k := 1) (by decide +kernel)) <|
  n_c (s_callVc (s_callV (pc := 49) (csX6_isWord N hG hT) (by decide) okX6_isWord nok6 w_951 w_16 w_949 (by decide +kernel)) (gk80 hG)) <|
  n_c (s_if_eq (pc := 52) (off := 5) (by decide +kernel) (by decide +kernel)) <|
  n_c (s_iload_n (pc := 55) (k := 3) (by decide +kernel)) <|
  n_c (s_iret (pc := 56) rfl (by decide +kernel)) <|
  n_c (s_iinc (pc := 57) (n := 1) (by decide +kernel) (by decide +kernel)) <|
  n_c (s_iload (pc := 60) (by decide +kernel)) <|
  n_c (s_iconst (pc := 62) (n := 1) (by decide +kernel) (by decide +kernel)) <|
  n_c (s_iadd (pc := 63) (by decide +kernel)) <|
  n_c (s_istore (pc := 64) (by decide +kernel)) <|
  n_c (s_iinc (pc := 66) (n := 1) (by decide +kernel) (by decide +kernel)) <|
  n_c (s_goto (pc := 69) (off := -59) (by decide +kernel) (by decide +kernel)) <|
  n_c (s_iconst (pc := 72) (n := 1) (by decide +kernel) (by decide +kernel)) <|
  n_c (s_iret (pc := 73) rfl (by decide +kernel)) <|
  n_e
def fX6_wordKind_10 (N : Nat) : Nat → Int32 → Int32 → Int32 → Int32 → Int32 → nM → Option (Int32 × nM)
  | 0, _, _, _, _, _, _ => none
  | n + 1, x1, x2, x3, x4, x5, M =>
    (fJ0_length_8abf5_t2 M).bind fun p1 =>
    if p1.1 ≤ x5 then
      some ((1 : Int32), p1.2)
    else
      (fJ0_charAt_5068e_t2 x5 p1.2).bind fun p2 =>
      if ¬ p2.1 = (32 : Int32) then
        let v3 : Int32 := (x5 + (1 : Int32))
        fX6_wordKind_10 N n x1 x2 x3 x4 v3 p2.2
      else
        if ¬ (x5 - x4) = (x2 - x1) then
          let v4 : Int32 := (x3 + (1 : Int32))
          let v5 : Int32 := (x5 + (1 : Int32))
          let v6 : Int32 := (x5 + (1 : Int32))
          fX6_wordKind_10 N n x1 x2 v4 v5 v6 p2.2
        else
          (fX6_isWord N x4 x5 x1 p2.2).bind fun p7 =>
          if p7.1 = 0 then
            let v8 : Int32 := (x3 + (1 : Int32))
            let v9 : Int32 := (x5 + (1 : Int32))
            let v10 : Int32 := (x5 + (1 : Int32))
            fX6_wordKind_10 N n x1 x2 v8 v9 v10 p7.2
          else
            some (x3, p7.2)
set_option maxRecDepth 200000 in
theorem bX6_wordKind_10 {l : Launch} {w : nW} (N : Nat) {G : nG} (hG : n_GOK G) (hT : n_PS w) : ∀ (n : Nat) (x1 : Int32) (x2 : Int32) (x3 : Int32) (x4 : Int32) (x5 : Int32) (M : nM) (r : Int32 × nM), fX6_wordKind_10 N n x1 x2 x3 x4 x5 M = some r → n_At l w 5 mX6_wordKind 10 [(0, .ref 80), (1, .int x1), (2, .int x2), (3, .int x3), (4, .int x4), (5, .int x5)] [] (G, M) (dv_i r.1, (G, r.2)) := by
  intro n
  induction n with
  | zero => intro x1 x2 x3 x4 x5 M r h; cases (show (none : Option (Int32 × nM)) = some r from h)
  | succ n ih =>
    intro x1 x2 x3 x4 x5 M r h
    exact n_seg (fin := n_fin dv_i G) (K := [(10, fun lv st M => n_lC 80 lv 0 (n_lI lv 1 (fun x1 => n_lI lv 2 (fun x2 => n_lI lv 3 (fun x3 => n_lI lv 4 (fun x4 => n_lI lv 5 (fun x5 => n_pE st (fX6_wordKind_10 N n x1 x2 x3 x4 x5 M))))))))]) 45 (iX6_wordKind N hG hT) (n_kc (fun lv st M r h => by
      obtain ⟨e0, h1⟩ := n_lC_x h
      obtain ⟨x1, e1, h2⟩ := n_lI_x h1
      obtain ⟨x2, e2, h3⟩ := n_lI_x h2
      obtain ⟨x3, e3, h4⟩ := n_lI_x h3
      obtain ⟨x4, e4, h5⟩ := n_lI_x h4
      obtain ⟨x5, e5, h6⟩ := n_lI_x h5
      obtain ⟨rfl, h7⟩ := n_pE_x h6
      exact n_sub (n_qc e0 (n_qc e1 (n_qc e2 (n_qc e3 (n_qc e4 (n_qc e5 n_qe)))))) (ih x1 x2 x3 x4 x5 M r h7)) n_ke) (by rfl) h
def fX6_wordKind (N : Nat) (x1 : Int32) (x2 : Int32) (M : nM) : Option (Int32 × nM) :=
  fX6_wordKind_10 N N x1 x2 (128 : Int32) (0 : Int32) (0 : Int32) M
set_option maxRecDepth 200000 in
theorem bX6_wordKind_0 {l : Launch} {w : nW} (N : Nat) {G : nG} (hG : n_GOK G) (hT : n_PS w) (x1 : Int32) (x2 : Int32) (M : nM) (r : Int32 × nM) (h : fX6_wordKind N x1 x2 M = some r) : n_At l w 5 mX6_wordKind 0 [(0, .ref 80), (1, .int x1), (2, .int x2)] [] (G, M) (dv_i r.1, (G, r.2)) :=
  n_seg (fin := n_fin dv_i G) (K := [(10, fun lv st M => n_lC 80 lv 0 (n_lI lv 1 (fun x1 => n_lI lv 2 (fun x2 => n_lI lv 3 (fun x3 => n_lI lv 4 (fun x4 => n_lI lv 5 (fun x5 => n_pE st (fX6_wordKind_10 N N x1 x2 x3 x4 x5 M))))))))]) 9 (iX6_wordKind N hG hT) (n_kc (fun lv st M r h => by
      obtain ⟨e0, h1⟩ := n_lC_x h
      obtain ⟨x1, e1, h2⟩ := n_lI_x h1
      obtain ⟨x2, e2, h3⟩ := n_lI_x h2
      obtain ⟨x3, e3, h4⟩ := n_lI_x h3
      obtain ⟨x4, e4, h5⟩ := n_lI_x h4
      obtain ⟨x5, e5, h6⟩ := n_lI_x h5
      obtain ⟨rfl, h7⟩ := n_pE_x h6
      exact n_sub (n_qc e0 (n_qc e1 (n_qc e2 (n_qc e3 (n_qc e4 (n_qc e5 n_qe)))))) (bX6_wordKind_10 N hG hT N x1 x2 x3 x4 x5 M r h7)) n_ke) (by rfl) h
theorem eX6_wordKind {l : Launch} {w : nW} (N : Nat) {G : nG} (hG : n_GOK G) (hT : n_PS w) (z1 : Int32) (z2 : Int32) (M : nM) (r : Int32 × nM) (h : fX6_wordKind N z1 z2 M = some r) : n_Met l w 5 mX6_wordKind [.ref 80, .int z1, .int z2] (G, M) (dv_i r.1, (G, r.2)) :=
  n_entry (by decide +kernel) rfl (Nat.le_of_ble_eq_true rfl) (n_sub (lv := [(0, .ref 80), (1, .int z1), (2, .int z2)]) (n_qc rfl (n_qc rfl (n_qc rfl n_qe))) (bX6_wordKind_0 N hG hT z1 z2 M r h))
abbrev hX6_wordKind (N : Nat) : nF := fun T as M k => n_pC 80 as (fun as => n_pI as (fun z1 as => n_pI as (fun z2 as => n_pE as ((fX6_wordKind N z1 z2 M).bind fun p => k (dv_i p.1) p.2))))
theorem csX6_wordKind {l : Launch} {w : nW} (N : Nat) {G : nG} (hG : n_GOK G) (hT : n_PS w) : n_CS l w 5 mX6_wordKind G (hX6_wordKind N) := fun T as M k r h => by
  obtain ⟨t0, rfl, h1⟩ := n_pC_x h
  obtain ⟨z1, t1, rfl, h2⟩ := n_pI_x h1
  obtain ⟨z2, t2, rfl, h3⟩ := n_pI_x h2
  obtain ⟨rfl, hE⟩ := n_pE_x h3
  obtain ⟨p, hp, hk⟩ := Option.bind_eq_some_iff.mp hE
  exact ⟨_, _, eX6_wordKind N hG hT z1 z2 M p hp, hk⟩
/-! ===== SleightHouse$Reader.numberOf(II)I ===== -/
def mX6_numberOf : nY := (RX6, yX6_numberOf, cX6_numberOf, 5, some .int)
theorem okX6_numberOf : n_MOK mX6_numberOf 2 := ⟨w_956, w_148, ⟨by decide +kernel, by decide +kernel, by decide +kernel⟩, by decide⟩
abbrev aX6_numberOf (N : Nat) : List (Nat × nO (Int32 × nM)) := [(0, o_push (.int (0 : Int32)) 1), (1, o_istore 5 3 2), (2, o_iload 1 3), (3, o_istore 5 4 5), (5, o_iload 4 7), (7, o_iload 2 8), (8, oc_ge 41 11), (11, o_iload 4 13), (13, o_iload 1 14), (14, o_push (.int (4 : Int32)) 15), (15, o_iadd 16), (16, oc_ge 41 19), (19, o_iload 3 20), (20, o_push (.int (10 : Int32)) 22), (22, o_imul 23), (23, o_aload 0 24), (24, o_gRc 80 81 27), (27, o_iload 4 29), (29, o_aldc 81 400 30), (30, o_iadd 31), (31, o_push (.int (48 : Int32)) 33), (33, o_isub 34), (34, o_istore 5 3 35), (35, o_inc 5 4 (1 : Int32) 38), (38, o_goto 5), (41, o_iload 3 42), (42, o_iret)]
set_option maxRecDepth 200000 in
theorem iX6_numberOf {l : Launch} {w : nW} (N : Nat) {G : nG} (hG : n_GOK G) : n_AllS l w 0 mX6_numberOf G (n_fin dv_i G) (aX6_numberOf N) :=
  n_c (s_iconst (pc := 0) (n := 0) (by decide +kernel) (by decide +kernel)) <|
  n_c (s_istore_n (pc := 1) (k := 3) (by decide +kernel)) <|
  n_c (s_iload_n (pc := 2) (k := 1) (by decide +kernel)) <|
  n_c (s_istore (pc := 3) (by decide +kernel)) <|
  n_c (s_iload (pc := 5) (by decide +kernel)) <|
  n_c (s_iload_n (pc := 7) (k := 2) (by decide +kernel)) <|
  n_c (s_icmp_ge (pc := 8) (off := 33) (by decide +kernel) (by decide +kernel)) <|
  n_c (s_iload (pc := 11) (by decide +kernel)) <|
  n_c (s_iload_n (pc := 13) (k := 1) (by decide +kernel)) <|
  n_c (s_iconst (pc := 14) (n := 4) (by decide +kernel) (by decide +kernel)) <|
  n_c (s_iadd (pc := 15) (by decide +kernel)) <|
  n_c (s_icmp_ge (pc := 16) (off := 25) (by decide +kernel) (by decide +kernel)) <|
  n_c (s_iload_n (pc := 19) (k := 3) (by decide +kernel)) <|
  n_c (s_bipush (pc := 20) (n := 10) (by decide +kernel) (by decide +kernel)) <|
  n_c (s_imul (pc := 22) (by decide +kernel)) <|
  n_c (s_aload_n (pc := 23) (k := 0) (by decide +kernel)) <|
  n_c (s_gRc (s_getR (pc := 24) (ci := 6) (k := 1) (idx := 9) nok6 (by decide) rfl (by decide +kernel) w_487) (gk80 hG) (gm80_1 hG)) <|
  n_c (s_iload (pc := 27) (by decide +kernel)) <|
  n_c (s_aldc (s_baload (pc := 29) (by decide +kernel)) (gk81 hG) (gl81 hG)) <|
  n_c (s_iadd (pc := 30) (by decide +kernel)) <|
  n_c (s_bipush (pc := 31) (n := 48) (by decide +kernel) (by decide +kernel)) <|
  n_c (s_isub (pc := 33) (by decide +kernel)) <|
  n_c (s_istore_n (pc := 34) (k := 3) (by decide +kernel)) <|
  n_c (s_iinc (pc := 35) (n := 1) (by decide +kernel) (by decide +kernel)) <|
  n_c (s_goto (pc := 38) (off := -33) (by decide +kernel) (by decide +kernel)) <|
  n_c (s_iload_n (pc := 41) (k := 3) (by decide +kernel)) <|
  n_c (s_iret (pc := 42) rfl (by decide +kernel)) <|
  n_e
def fX6_numberOf_5 (N : Nat) : Nat → Int32 → Int32 → Int32 → Int32 → nM → Option (Int32 × nM)
  | 0, _, _, _, _, _ => none
  | n + 1, x1, x2, x3, x4, M =>
    if x2 ≤ x4 then
      some (x3, M)
    else
      if (x1 + (4 : Int32)) ≤ x4 then
        some (x3, M)
      else
        n_chk (n_ib 400 x4) <|
        let v1 : Int32 := (((x3 * (10 : Int32)) + (M 81 x4.toNatClampNeg)) - (48 : Int32))
        let v2 : Int32 := (x4 + (1 : Int32))
        fX6_numberOf_5 N n x1 x2 v1 v2 M
set_option maxRecDepth 200000 in
theorem bX6_numberOf_5 {l : Launch} {w : nW} (N : Nat) {G : nG} (hG : n_GOK G) : ∀ (n : Nat) (x1 : Int32) (x2 : Int32) (x3 : Int32) (x4 : Int32) (M : nM) (r : Int32 × nM), fX6_numberOf_5 N n x1 x2 x3 x4 M = some r → n_At l w 0 mX6_numberOf 5 [(0, .ref 80), (1, .int x1), (2, .int x2), (3, .int x3), (4, .int x4)] [] (G, M) (dv_i r.1, (G, r.2)) := by
  intro n
  induction n with
  | zero => intro x1 x2 x3 x4 M r h; cases (show (none : Option (Int32 × nM)) = some r from h)
  | succ n ih =>
    intro x1 x2 x3 x4 M r h
    exact n_seg (fin := n_fin dv_i G) (K := [(5, fun lv st M => n_lC 80 lv 0 (n_lI lv 1 (fun x1 => n_lI lv 2 (fun x2 => n_lI lv 3 (fun x3 => n_lI lv 4 (fun x4 => n_pE st (fX6_numberOf_5 N n x1 x2 x3 x4 M)))))))]) 28 (iX6_numberOf N hG) (n_kc (fun lv st M r h => by
      obtain ⟨e0, h1⟩ := n_lC_x h
      obtain ⟨x1, e1, h2⟩ := n_lI_x h1
      obtain ⟨x2, e2, h3⟩ := n_lI_x h2
      obtain ⟨x3, e3, h4⟩ := n_lI_x h3
      obtain ⟨x4, e4, h5⟩ := n_lI_x h4
      obtain ⟨rfl, h6⟩ := n_pE_x h5
      exact n_sub (n_qc e0 (n_qc e1 (n_qc e2 (n_qc e3 (n_qc e4 n_qe))))) (ih x1 x2 x3 x4 M r h6)) n_ke) (by rfl) h
def fX6_numberOf (N : Nat) (x1 : Int32) (x2 : Int32) (M : nM) : Option (Int32 × nM) :=
  fX6_numberOf_5 N N x1 x2 (0 : Int32) x1 M
set_option maxRecDepth 200000 in
theorem bX6_numberOf_0 {l : Launch} {w : nW} (N : Nat) {G : nG} (hG : n_GOK G) (x1 : Int32) (x2 : Int32) (M : nM) (r : Int32 × nM) (h : fX6_numberOf N x1 x2 M = some r) : n_At l w 0 mX6_numberOf 0 [(0, .ref 80), (1, .int x1), (2, .int x2)] [] (G, M) (dv_i r.1, (G, r.2)) :=
  n_seg (fin := n_fin dv_i G) (K := [(5, fun lv st M => n_lC 80 lv 0 (n_lI lv 1 (fun x1 => n_lI lv 2 (fun x2 => n_lI lv 3 (fun x3 => n_lI lv 4 (fun x4 => n_pE st (fX6_numberOf_5 N N x1 x2 x3 x4 M)))))))]) 7 (iX6_numberOf N hG) (n_kc (fun lv st M r h => by
      obtain ⟨e0, h1⟩ := n_lC_x h
      obtain ⟨x1, e1, h2⟩ := n_lI_x h1
      obtain ⟨x2, e2, h3⟩ := n_lI_x h2
      obtain ⟨x3, e3, h4⟩ := n_lI_x h3
      obtain ⟨x4, e4, h5⟩ := n_lI_x h4
      obtain ⟨rfl, h6⟩ := n_pE_x h5
      exact n_sub (n_qc e0 (n_qc e1 (n_qc e2 (n_qc e3 (n_qc e4 n_qe))))) (bX6_numberOf_5 N hG N x1 x2 x3 x4 M r h6)) n_ke) (by rfl) h
theorem eX6_numberOf {l : Launch} {w : nW} (N : Nat) {G : nG} (hG : n_GOK G) (z1 : Int32) (z2 : Int32) (M : nM) (r : Int32 × nM) (h : fX6_numberOf N z1 z2 M = some r) : n_Met l w 0 mX6_numberOf [.ref 80, .int z1, .int z2] (G, M) (dv_i r.1, (G, r.2)) :=
  n_entry (by decide +kernel) rfl (Nat.le_of_ble_eq_true rfl) (n_sub (lv := [(0, .ref 80), (1, .int z1), (2, .int z2)]) (n_qc rfl (n_qc rfl (n_qc rfl n_qe))) (bX6_numberOf_0 N hG z1 z2 M r h))
abbrev hX6_numberOf (N : Nat) : nF := fun T as M k => n_pC 80 as (fun as => n_pI as (fun z1 as => n_pI as (fun z2 as => n_pE as ((fX6_numberOf N z1 z2 M).bind fun p => k (dv_i p.1) p.2))))
theorem csX6_numberOf {l : Launch} {w : nW} (N : Nat) {G : nG} (hG : n_GOK G) : n_CS l w 0 mX6_numberOf G (hX6_numberOf N) := fun T as M k r h => by
  obtain ⟨t0, rfl, h1⟩ := n_pC_x h
  obtain ⟨z1, t1, rfl, h2⟩ := n_pI_x h1
  obtain ⟨z2, t2, rfl, h3⟩ := n_pI_x h2
  obtain ⟨rfl, hE⟩ := n_pE_x h3
  obtain ⟨p, hp, hk⟩ := Option.bind_eq_some_iff.mp hE
  exact ⟨_, _, eX6_numberOf N hG z1 z2 M p hp, hk⟩
/-! ===== SleightHouse$Reader.cut(I)V ===== -/
def mX6_cut : nY := (RX6, yX6_cut, cX6_cut, 6, none)
theorem okX6_cut : n_MOK mX6_cut 1 := ⟨w_828, w_148, ⟨by decide +kernel, by decide +kernel, by decide +kernel⟩, by decide⟩
abbrev aX6_cut (N : Nat) : List (Nat × nO (Unit × nM)) := [(0, o_aload 0 1), (1, o_push (.int (0 : Int32)) 2), (2, o_pIc 80 5 5), (5, o_aload 0 6), (6, o_push (.int (0 : Int32)) 7), (7, o_pIc 80 6 10), (10, o_push (.int (0 : Int32)) 11), (11, o_istore 6 2 12), (12, o_push (.int (0 : Int32)) 13), (13, o_istore 6 3 14), (14, o_iload 3 15), (15, o_iload 1 16), (16, oc_ge 169 19), (19, o_iload 3 20), (20, o_push (.int (400 : Int32)) 23), (23, oc_ge 169 26), (26, o_aload 0 27), (27, o_gRc 80 81 30), (30, o_iload 3 31), (31, o_aldc 81 400 32), (32, o_push (.int (255 : Int32)) 35), (35, o_iand 36), (36, o_call 1 (hX6_groupOf) 39), (39, o_istore 6 4 41), (41, o_iload 4 43), (43, o_push (.int (3 : Int32)) 44), (44, oc_ne 85 47), (47, o_aload 0 48), (48, o_gRc 80 81 51), (51, o_iload 3 52), (52, o_aldc 81 400 53), (53, o_push (.int (255 : Int32)) 56), (56, o_iand 57), (57, o_istore 6 5 59), (59, o_aload 0 60), (60, o_push (.retAddr 1) 62), (62, o_iload 5 64), (64, o_i2c 65), (65, o_callT 1 1 (hJ0_indexOf_0f7a4_t1 N) 68), (68, oi_lt 76 71), (71, o_iload 5 73), (73, o_goto 77), (76, o_push (.int (1 : Int32)) 77), (77, o_push (.int (0 : Int32)) 78), (78, o_iload 3 79), (79, o_callVc 80 3 (hX6_addToken) 82), (82, o_goto 160), (85, o_iload 4 87), (87, o_push (.int (1 : Int32)) 88), (88, oc_ne 116 91), (91, o_iload 2 92), (92, o_push (.int (1 : Int32)) 93), (93, oc_eq 116 96), (96, o_aload 0 97), (97, o_aload 0 98), (98, o_iload 3 99), (99, o_aload 0 100), (100, o_iload 3 101), (101, o_iload 1 102), (102, o_callVc 80 2 (hX6_groupEnd N) 105), (105, o_callVc 80 2 (hX6_wordKind N) 108), (108, o_push (.int (0 : Int32)) 109), (109, o_iload 3 110), (110, o_callVc 80 3 (hX6_addToken) 113), (113, o_goto 160), (116, o_iload 4 118), (118, o_push (.int (2 : Int32)) 119), (119, oc_ne 160 122), (122, o_iload 2 123), (123, o_push (.int (2 : Int32)) 124), (124, oc_eq 160 127), (127, o_aload 0 128), (128, o_iload 3 129), (129, o_iload 1 130), (130, o_callVc 80 2 (hX6_groupEnd N) 133), (133, o_istore 6 5 135), (135, o_aload 0 136), (136, o_iload 5 138), (138, o_iload 3 139), (139, o_isub 140), (140, o_push (.int (4 : Int32)) 141), (141, oc_le 148 144), (144, o_push (.int (1 : Int32)) 145), (145, o_goto 149), (148, o_push (.int (2 : Int32)) 149), (149, o_aload 0 150), (150, o_iload 3 151), (151, o_iload 5 153), (153, o_callVc 80 2 (hX6_numberOf N) 156), (156, o_iload 3 157), (157, o_callVc 80 3 (hX6_addToken) 160), (160, o_iload 4 162), (162, o_istore 6 2 163), (163, o_inc 6 3 (1 : Int32) 166), (166, o_goto 14), (169, o_aload 0 170), (170, o_push (.int (0 : Int32)) 171), (171, o_push (.int (0 : Int32)) 172), (172, o_iload 1 173), (173, o_callVc 80 3 (hX6_addToken) 176), (176, o_vret)]
set_option maxRecDepth 200000 in
theorem iX6_cut {l : Launch} {w : nW} (N : Nat) {G : nG} (hG : n_GOK G) (hT : n_PS w) : n_AllS l w 6 mX6_cut G (n_fin dv_v G) (aX6_cut N) :=
  n_c (s_aload_n (pc := 0) (k := 0) (by decide +kernel)) <|
  n_c (s_iconst (pc := 1) (n := 0) (by decide +kernel) (by decide +kernel)) <|
  n_c (s_pIc (s_putI (pc := 2) (ci := 6) (k := 5) (idx := 25) nok6 (by decide) rfl rfl (by decide +kernel) w_491) (gk80 hG)) <|
  n_c (s_aload_n (pc := 5) (k := 0) (by decide +kernel)) <|
  n_c (s_iconst (pc := 6) (n := 0) (by decide +kernel) (by decide +kernel)) <|
  n_c (s_pIc (s_putI (pc := 7) (ci := 6) (k := 6) (idx := 29) nok6 (by decide) rfl rfl (by decide +kernel) w_492) (gk80 hG)) <|
  n_c (s_iconst (pc := 10) (n := 0) (by decide +kernel) (by decide +kernel)) <|
  n_c (s_istore_n (pc := 11) (k := 2) (by decide +kernel)) <|
  n_c (s_iconst (pc := 12) (n := 0) (by decide +kernel) (by decide +kernel)) <|
  n_c (s_istore_n (pc := 13) (k := 3) (by decide +kernel)) <|
  n_c (s_iload_n (pc := 14) (k := 3) (by decide +kernel)) <|
  n_c (s_iload_n (pc := 15) (k := 1) (by decide +kernel)) <|
  n_c (s_icmp_ge (pc := 16) (off := 153) (by decide +kernel) (by decide +kernel)) <|
  n_c (s_iload_n (pc := 19) (k := 3) (by decide +kernel)) <|
  n_c (s_sipush (pc := 20) (n := 400) (by decide +kernel) (by decide +kernel)) <|
  n_c (s_icmp_ge (pc := 23) (off := 146) (by decide +kernel) (by decide +kernel)) <|
  n_c (s_aload_n (pc := 26) (k := 0) (by decide +kernel)) <|
  n_c (s_gRc (s_getR (pc := 27) (ci := 6) (k := 1) (idx := 9) nok6 (by decide) rfl (by decide +kernel) w_487) (gk80 hG) (gm80_1 hG)) <|
  n_c (s_iload_n (pc := 30) (k := 3) (by decide +kernel)) <|
  n_c (s_aldc (s_baload (pc := 31) (by decide +kernel)) (gk81 hG) (gl81 hG)) <|
  n_c (s_sipush (pc := 32) (n := 255) (by decide +kernel) (by decide +kernel)) <|
  n_c (s_iand (pc := 35) (by decide +kernel)) <|
  n_c (s_callS (pc := 36) (csX6_groupOf) (by decide) okX6_groupOf w_830 w_829 (by decide +kernel)) <|
  n_c (s_istore (pc := 39) (by decide +kernel)) <|
  n_c (s_iload (pc := 41) (by decide +kernel)) <|
  n_c (s_iconst (pc := 43) (n := 3) (by decide +kernel) (by decide +kernel)) <|
  n_c (s_icmp_ne (pc := 44) (off := 41) (by decide +kernel) (by decide +kernel)) <|
  n_c (s_aload_n (pc := 47) (k := 0) (by decide +kernel)) <|
  n_c (s_gRc (s_getR (pc := 48) (ci := 6) (k := 1) (idx := 9) nok6 (by decide) rfl (by decide +kernel) w_487) (gk80 hG) (gm80_1 hG)) <|
  n_c (s_iload_n (pc := 51) (k := 3) (by decide +kernel)) <|
  n_c (s_aldc (s_baload (pc := 52) (by decide +kernel)) (gk81 hG) (gl81 hG)) <|
  n_c (s_sipush (pc := 53) (n := 255) (by decide +kernel) (by decide +kernel)) <|
  n_c (s_iand (pc := 56) (by decide +kernel)) <|
  n_c (s_istore (pc := 57) (by decide +kernel)) <|
  n_c (s_aload_n (pc := 59) (k := 0) (by decide +kernel)) <|
  n_c (s_ldcS1 (pc := 60) hT rfl (by decide +kernel)) <|
  n_c (s_iload (pc := 62) (by decide +kernel)) <|
  n_c (s_i2c (pc := 64) (by decide +kernel)) <|
  n_c (s_callT (pc := 65) (i := 0) hT (by decide) (csJ0_indexOf_0f7a4_t1 N hT) (by decide) okJ0_indexOf_0f7a4_t1 w_834 w_835 w_833 (by decide +kernel)) <|
  n_c (s_if_lt (pc := 68) (off := 8) (by decide +kernel) (by decide +kernel)) <|
  n_c (s_iload (pc := 71) (by decide +kernel)) <|
  n_c (s_goto (pc := 73) (off := 4) (by decide +kernel) (by decide +kernel)) <|
  n_c (s_iconst (pc := 76) (n := 1) (by decide +kernel) (by decide +kernel)) <|
  n_c (s_iconst (pc := 77) (n := 0) (by decide +kernel) (by decide +kernel)) <|
  n_c (s_iload_n (pc := 78) (k := 3) (by decide +kernel)) <|
  n_c (s_callVc (s_callV (pc := 79) (csX6_addToken hG) (by decide) okX6_addToken nok6 w_917 w_13 w_915 (by decide +kernel)) (gk80 hG)) <|
  n_c (s_goto (pc := 82) (off := 78) (by decide +kernel) (by decide +kernel)) <|
  n_c (s_iload (pc := 85) (by decide +kernel)) <|
  n_c (s_iconst (pc := 87) (n := 1) (by decide +kernel) (by decide +kernel)) <|
  n_c (s_icmp_ne (pc := 88) (off := 28) (by decide +kernel) (by decide +kernel)) <|
  n_c (s_iload_n (pc := 91) (k := 2) (by decide +kernel)) <|
  n_c (s_iconst (pc := 92) (n := 1) (by decide +kernel) (by decide +kernel)) <|
  n_c (s_icmp_eq (pc := 93) (off := 23) (by decide +kernel) (by decide +kernel)) <|
  n_c (s_aload_n (pc := 96) (k := 0) (by decide +kernel)) <|
  n_c (s_aload_n (pc := 97) (k := 0) (by decide +kernel)) <|
  n_c (s_iload_n (pc := 98) (k := 3) (by decide +kernel)) <|
  n_c (s_aload_n (pc := 99) (k := 0) (by decide +kernel)) <|
  n_c (s_iload_n (pc := 100) (k := 3) (by decide +kernel)) <|
  n_c (s_iload_n (pc := 101) (k := 1) (by decide +kernel)) <|
  n_c (s_callVc (s_callV (pc := 102) (csX6_groupEnd N hG) (by decide) okX6_groupEnd nok6 w_921 w_14 w_919 (by decide +kernel)) (gk80 hG)) <|
  n_c (s_callVc (s_callV (pc := 105) (csX6_wordKind N hG hT) (by decide) okX6_wordKind nok6 w_925 w_15 w_923 (by decide +kernel)) (gk80 hG)) <|
  n_c (s_iconst (pc := 108) (n := 0) (by decide +kernel) (by decide +kernel)) <|
  n_c (s_iload_n (pc := 109) (k := 3) (by decide +kernel)) <|
  n_c (s_callVc (s_callV (pc := 110) (csX6_addToken hG) (by decide) okX6_addToken nok6 w_917 w_13 w_915 (by decide +kernel)) (gk80 hG)) <|
  n_c (s_goto (pc := 113) (off := 47) (by decide +kernel) (by decide +kernel)) <|
  n_c (s_iload (pc := 116) (by decide +kernel)) <|
  n_c (s_iconst (pc := 118) (n := 2) (by decide +kernel) (by decide +kernel)) <|
  n_c (s_icmp_ne (pc := 119) (off := 41) (by decide +kernel) (by decide +kernel)) <|
  n_c (s_iload_n (pc := 122) (k := 2) (by decide +kernel)) <|
  n_c (s_iconst (pc := 123) (n := 2) (by decide +kernel) (by decide +kernel)) <|
  n_c (s_icmp_eq (pc := 124) (off := 36) (by decide +kernel) (by decide +kernel)) <|
  n_c (s_aload_n (pc := 127) (k := 0) (by decide +kernel)) <|
  n_c (s_iload_n (pc := 128) (k := 3) (by decide +kernel)) <|
  n_c (s_iload_n (pc := 129) (k := 1) (by decide +kernel)) <|
  n_c (s_callVc (s_callV (pc := 130) (csX6_groupEnd N hG) (by decide) okX6_groupEnd nok6 w_921 w_14 w_919 (by decide +kernel)) (gk80 hG)) <|
  n_c (s_istore (pc := 133) (by decide +kernel)) <|
  n_c (s_aload_n (pc := 135) (k := 0) (by decide +kernel)) <|
  n_c (s_iload (pc := 136) (by decide +kernel)) <|
  n_c (s_iload_n (pc := 138) (k := 3) (by decide +kernel)) <|
  n_c (s_isub (pc := 139) (by decide +kernel)) <|
  n_c (s_iconst (pc := 140) (n := 4) (by decide +kernel) (by decide +kernel)) <|
  n_c (s_icmp_le (pc := 141) (off := 7) (by decide +kernel) (by decide +kernel)) <|
  n_c (s_iconst (pc := 144) (n := 1) (by decide +kernel) (by decide +kernel)) <|
  n_c (s_goto (pc := 145) (off := 4) (by decide +kernel) (by decide +kernel)) <|
  n_c (s_iconst (pc := 148) (n := 2) (by decide +kernel) (by decide +kernel)) <|
  n_c (s_aload_n (pc := 149) (k := 0) (by decide +kernel)) <|
  n_c (s_iload_n (pc := 150) (k := 3) (by decide +kernel)) <|
  n_c (s_iload (pc := 151) (by decide +kernel)) <|
  n_c (s_callVc (s_callV (pc := 153) (csX6_numberOf N hG) (by decide) okX6_numberOf nok6 w_955 w_17 w_953 (by decide +kernel)) (gk80 hG)) <|
  n_c (s_iload_n (pc := 156) (k := 3) (by decide +kernel)) <|
  n_c (s_callVc (s_callV (pc := 157) (csX6_addToken hG) (by decide) okX6_addToken nok6 w_917 w_13 w_915 (by decide +kernel)) (gk80 hG)) <|
  n_c (s_iload (pc := 160) (by decide +kernel)) <|
  n_c (s_istore_n (pc := 162) (k := 2) (by decide +kernel)) <|
  n_c (s_iinc (pc := 163) (n := 1) (by decide +kernel) (by decide +kernel)) <|
  n_c (s_goto (pc := 166) (off := -152) (by decide +kernel) (by decide +kernel)) <|
  n_c (s_aload_n (pc := 169) (k := 0) (by decide +kernel)) <|
  n_c (s_iconst (pc := 170) (n := 0) (by decide +kernel) (by decide +kernel)) <|
  n_c (s_iconst (pc := 171) (n := 0) (by decide +kernel) (by decide +kernel)) <|
  n_c (s_iload_n (pc := 172) (k := 1) (by decide +kernel)) <|
  n_c (s_callVc (s_callV (pc := 173) (csX6_addToken hG) (by decide) okX6_addToken nok6 w_917 w_13 w_915 (by decide +kernel)) (gk80 hG)) <|
  n_c (s_vret (pc := 176) rfl (by decide +kernel)) <|
  n_e
def fX6_cut_77 (N : Nat) (k14 : Int32 → Int32 → Int32 → nM → Option (Unit × nM)) (x1 : Int32) (x3 : Int32) (x4 : Int32) (s0 : Int32) (M : nM) : Option (Unit × nM) :=
  (fX6_addToken s0 (0 : Int32) x3 M).bind fun p1 =>
  let v2 : Int32 := (x3 + (1 : Int32))
  k14 x1 x4 v2 p1.2
set_option maxRecDepth 200000 in
theorem bX6_cut_77 {l : Launch} {w : nW} (N : Nat) {G : nG} (hG : n_GOK G) (hT : n_PS w) (k14 : Int32 → Int32 → Int32 → nM → Option (Unit × nM)) (hk14 : ∀ (x1 : Int32) (x2 : Int32) (x3 : Int32) (M : nM) (r : Unit × nM), k14 x1 x2 x3 M = some r → n_At l w 6 mX6_cut 14 [(0, .ref 80), (1, .int x1), (2, .int x2), (3, .int x3)] [] (G, M) (dv_v r.1, (G, r.2))) (x1 : Int32) (x3 : Int32) (x4 : Int32) (s0 : Int32) (M : nM) (r : Unit × nM) (h : fX6_cut_77 N k14 x1 x3 x4 s0 M = some r) : n_At l w 6 mX6_cut 77 [(0, .ref 80), (1, .int x1), (3, .int x3), (4, .int x4)] [.int s0, .ref 80] (G, M) (dv_v r.1, (G, r.2)) :=
  n_seg (fin := n_fin dv_v G) (K := [(14, fun lv st M => n_lC 80 lv 0 (n_lI lv 1 (fun x1 => n_lI lv 2 (fun x2 => n_lI lv 3 (fun x3 => n_pE st (k14 x1 x2 x3 M))))))]) 11 (iX6_cut N hG hT) (n_kc (fun lv st M r h => by
      obtain ⟨e0, h1⟩ := n_lC_x h
      obtain ⟨x1, e1, h2⟩ := n_lI_x h1
      obtain ⟨x2, e2, h3⟩ := n_lI_x h2
      obtain ⟨x3, e3, h4⟩ := n_lI_x h3
      obtain ⟨rfl, h5⟩ := n_pE_x h4
      exact n_sub (n_qc e0 (n_qc e1 (n_qc e2 (n_qc e3 n_qe)))) (hk14 x1 x2 x3 M r h5)) n_ke) (by rfl) h
def fX6_cut_149 (N : Nat) (k14 : Int32 → Int32 → Int32 → nM → Option (Unit × nM)) (x1 : Int32) (x3 : Int32) (x4 : Int32) (x5 : Int32) (s0 : Int32) (M : nM) : Option (Unit × nM) :=
  (fX6_numberOf N x3 x5 M).bind fun p1 =>
  (fX6_addToken s0 p1.1 x3 p1.2).bind fun p2 =>
  let v3 : Int32 := (x3 + (1 : Int32))
  k14 x1 x4 v3 p2.2
set_option maxRecDepth 200000 in
theorem bX6_cut_149 {l : Launch} {w : nW} (N : Nat) {G : nG} (hG : n_GOK G) (hT : n_PS w) (k14 : Int32 → Int32 → Int32 → nM → Option (Unit × nM)) (hk14 : ∀ (x1 : Int32) (x2 : Int32) (x3 : Int32) (M : nM) (r : Unit × nM), k14 x1 x2 x3 M = some r → n_At l w 6 mX6_cut 14 [(0, .ref 80), (1, .int x1), (2, .int x2), (3, .int x3)] [] (G, M) (dv_v r.1, (G, r.2))) (x1 : Int32) (x3 : Int32) (x4 : Int32) (x5 : Int32) (s0 : Int32) (M : nM) (r : Unit × nM) (h : fX6_cut_149 N k14 x1 x3 x4 x5 s0 M = some r) : n_At l w 6 mX6_cut 149 [(0, .ref 80), (1, .int x1), (3, .int x3), (4, .int x4), (5, .int x5)] [.int s0, .ref 80] (G, M) (dv_v r.1, (G, r.2)) :=
  n_seg (fin := n_fin dv_v G) (K := [(14, fun lv st M => n_lC 80 lv 0 (n_lI lv 1 (fun x1 => n_lI lv 2 (fun x2 => n_lI lv 3 (fun x3 => n_pE st (k14 x1 x2 x3 M))))))]) 13 (iX6_cut N hG hT) (n_kc (fun lv st M r h => by
      obtain ⟨e0, h1⟩ := n_lC_x h
      obtain ⟨x1, e1, h2⟩ := n_lI_x h1
      obtain ⟨x2, e2, h3⟩ := n_lI_x h2
      obtain ⟨x3, e3, h4⟩ := n_lI_x h3
      obtain ⟨rfl, h5⟩ := n_pE_x h4
      exact n_sub (n_qc e0 (n_qc e1 (n_qc e2 (n_qc e3 n_qe)))) (hk14 x1 x2 x3 M r h5)) n_ke) (by rfl) h
def fX6_cut_116 (N : Nat) (k14 : Int32 → Int32 → Int32 → nM → Option (Unit × nM)) (x1 : Int32) (x2 : Int32) (x3 : Int32) (x4 : Int32) (M : nM) : Option (Unit × nM) :=
  if ¬ x4 = (2 : Int32) then
    let v1 : Int32 := (x3 + (1 : Int32))
    k14 x1 x4 v1 M
  else
    if x2 = (2 : Int32) then
      let v2 : Int32 := (x3 + (1 : Int32))
      k14 x1 x4 v2 M
    else
      (fX6_groupEnd N x3 x1 M).bind fun p3 =>
      if (p3.1 - x3) ≤ (4 : Int32) then
        fX6_cut_149 N k14 x1 x3 x4 p3.1 (2 : Int32) p3.2
      else
        fX6_cut_149 N k14 x1 x3 x4 p3.1 (1 : Int32) p3.2
set_option maxRecDepth 200000 in
theorem bX6_cut_116 {l : Launch} {w : nW} (N : Nat) {G : nG} (hG : n_GOK G) (hT : n_PS w) (k14 : Int32 → Int32 → Int32 → nM → Option (Unit × nM)) (hk14 : ∀ (x1 : Int32) (x2 : Int32) (x3 : Int32) (M : nM) (r : Unit × nM), k14 x1 x2 x3 M = some r → n_At l w 6 mX6_cut 14 [(0, .ref 80), (1, .int x1), (2, .int x2), (3, .int x3)] [] (G, M) (dv_v r.1, (G, r.2))) (x1 : Int32) (x2 : Int32) (x3 : Int32) (x4 : Int32) (M : nM) (r : Unit × nM) (h : fX6_cut_116 N k14 x1 x2 x3 x4 M = some r) : n_At l w 6 mX6_cut 116 [(0, .ref 80), (1, .int x1), (2, .int x2), (3, .int x3), (4, .int x4)] [] (G, M) (dv_v r.1, (G, r.2)) :=
  n_seg (fin := n_fin dv_v G) (K := [(14, fun lv st M => n_lC 80 lv 0 (n_lI lv 1 (fun x1 => n_lI lv 2 (fun x2 => n_lI lv 3 (fun x3 => n_pE st (k14 x1 x2 x3 M)))))), (149, fun lv st M => n_lC 80 lv 0 (n_lI lv 1 (fun x1 => n_lI lv 3 (fun x3 => n_lI lv 4 (fun x4 => n_lI lv 5 (fun x5 => n_pI st (fun s0 st => n_pC 80 st (fun st => n_pE st (fX6_cut_149 N k14 x1 x3 x4 x5 s0 M)))))))))]) 31 (iX6_cut N hG hT) (n_kc (fun lv st M r h => by
      obtain ⟨e0, h1⟩ := n_lC_x h
      obtain ⟨x1, e1, h2⟩ := n_lI_x h1
      obtain ⟨x2, e2, h3⟩ := n_lI_x h2
      obtain ⟨x3, e3, h4⟩ := n_lI_x h3
      obtain ⟨rfl, h5⟩ := n_pE_x h4
      exact n_sub (n_qc e0 (n_qc e1 (n_qc e2 (n_qc e3 n_qe)))) (hk14 x1 x2 x3 M r h5)) (n_kc (fun lv st M r h => by
      obtain ⟨e0, h1⟩ := n_lC_x h
      obtain ⟨x1, e1, h2⟩ := n_lI_x h1
      obtain ⟨x3, e3, h3⟩ := n_lI_x h2
      obtain ⟨x4, e4, h4⟩ := n_lI_x h3
      obtain ⟨x5, e5, h5⟩ := n_lI_x h4
      obtain ⟨s0, t0, rfl, h6⟩ := n_pI_x h5
      obtain ⟨t1, rfl, h7⟩ := n_pC_x h6
      obtain ⟨rfl, h8⟩ := n_pE_x h7
      exact n_sub (n_qc e0 (n_qc e1 (n_qc e3 (n_qc e4 (n_qc e5 n_qe))))) (bX6_cut_149 N hG hT k14 hk14 x1 x3 x4 x5 s0 M r h8)) n_ke)) (by rfl) h
def fX6_cut_169 (N : Nat) (x1 : Int32) (M : nM) : Option (Unit × nM) :=
  (fX6_addToken (0 : Int32) (0 : Int32) x1 M).bind fun p1 =>
  some ((), p1.2)
set_option maxRecDepth 200000 in
theorem bX6_cut_169 {l : Launch} {w : nW} (N : Nat) {G : nG} (hG : n_GOK G) (hT : n_PS w) (x1 : Int32) (M : nM) (r : Unit × nM) (h : fX6_cut_169 N x1 M = some r) : n_At l w 6 mX6_cut 169 [(0, .ref 80), (1, .int x1)] [] (G, M) (dv_v r.1, (G, r.2)) :=
  n_seg (fin := n_fin dv_v G) (K := []) 9 (iX6_cut N hG hT) n_ke (by rfl) h
def fX6_cut_14 (N : Nat) : Nat → Int32 → Int32 → Int32 → nM → Option (Unit × nM)
  | 0, _, _, _, _ => none
  | n + 1, x1, x2, x3, M =>
    if x1 ≤ x3 then
      fX6_cut_169 N x1 M
    else
      if (400 : Int32) ≤ x3 then
        fX6_cut_169 N x1 M
      else
        n_chk (n_ib 400 x3) <|
        (fX6_groupOf ((M 81 x3.toNatClampNeg) &&& (255 : Int32)) M).bind fun p1 =>
        if ¬ p1.1 = (3 : Int32) then
          if ¬ p1.1 = (1 : Int32) then
            fX6_cut_116 N (fun x1 x2 x3 M => fX6_cut_14 N n x1 x2 x3 M) x1 x2 x3 p1.1 p1.2
          else
            if x2 = (1 : Int32) then
              fX6_cut_116 N (fun x1 x2 x3 M => fX6_cut_14 N n x1 x2 x3 M) x1 x2 x3 p1.1 p1.2
            else
              (fX6_groupEnd N x3 x1 p1.2).bind fun p2 =>
              (fX6_wordKind N x3 p2.1 p2.2).bind fun p3 =>
              (fX6_addToken p3.1 (0 : Int32) x3 p3.2).bind fun p4 =>
              let v5 : Int32 := (x3 + (1 : Int32))
              fX6_cut_14 N n x1 p1.1 v5 p4.2
        else
          n_chk (n_ib 400 x3) <|
          let v6 : Int32 := ((p1.2 81 x3.toNatClampNeg) &&& (255 : Int32))
          (fJ0_indexOf_0f7a4_t1 N (v6.toUInt32 % 65536).toInt32 p1.2).bind fun p7 =>
          if p7.1 < 0 then
            fX6_cut_77 N (fun x1 x2 x3 M => fX6_cut_14 N n x1 x2 x3 M) x1 x3 p1.1 (1 : Int32) p7.2
          else
            fX6_cut_77 N (fun x1 x2 x3 M => fX6_cut_14 N n x1 x2 x3 M) x1 x3 p1.1 v6 p7.2
set_option maxRecDepth 200000 in
theorem bX6_cut_14 {l : Launch} {w : nW} (N : Nat) {G : nG} (hG : n_GOK G) (hT : n_PS w) : ∀ (n : Nat) (x1 : Int32) (x2 : Int32) (x3 : Int32) (M : nM) (r : Unit × nM), fX6_cut_14 N n x1 x2 x3 M = some r → n_At l w 6 mX6_cut 14 [(0, .ref 80), (1, .int x1), (2, .int x2), (3, .int x3)] [] (G, M) (dv_v r.1, (G, r.2)) := by
  intro n
  induction n with
  | zero => intro x1 x2 x3 M r h; cases (show (none : Option (Unit × nM)) = some r from h)
  | succ n ih =>
    intro x1 x2 x3 M r h
    exact n_seg (fin := n_fin dv_v G) (K := [(14, fun lv st M => n_lC 80 lv 0 (n_lI lv 1 (fun x1 => n_lI lv 2 (fun x2 => n_lI lv 3 (fun x3 => n_pE st (fX6_cut_14 N n x1 x2 x3 M)))))), (77, fun lv st M => n_lC 80 lv 0 (n_lI lv 1 (fun x1 => n_lI lv 3 (fun x3 => n_lI lv 4 (fun x4 => n_pI st (fun s0 st => n_pC 80 st (fun st => n_pE st (fX6_cut_77 N (fun x1 x2 x3 M => fX6_cut_14 N n x1 x2 x3 M) x1 x3 x4 s0 M)))))))), (116, fun lv st M => n_lC 80 lv 0 (n_lI lv 1 (fun x1 => n_lI lv 2 (fun x2 => n_lI lv 3 (fun x3 => n_lI lv 4 (fun x4 => n_pE st (fX6_cut_116 N (fun x1 x2 x3 M => fX6_cut_14 N n x1 x2 x3 M) x1 x2 x3 x4 M))))))), (169, fun lv st M => n_lC 80 lv 0 (n_lI lv 1 (fun x1 => n_pE st (fX6_cut_169 N x1 M))))]) 58 (iX6_cut N hG hT) (n_kc (fun lv st M r h => by
      obtain ⟨e0, h1⟩ := n_lC_x h
      obtain ⟨x1, e1, h2⟩ := n_lI_x h1
      obtain ⟨x2, e2, h3⟩ := n_lI_x h2
      obtain ⟨x3, e3, h4⟩ := n_lI_x h3
      obtain ⟨rfl, h5⟩ := n_pE_x h4
      exact n_sub (n_qc e0 (n_qc e1 (n_qc e2 (n_qc e3 n_qe)))) (ih x1 x2 x3 M r h5)) (n_kc (fun lv st M r h => by
      obtain ⟨e0, h1⟩ := n_lC_x h
      obtain ⟨x1, e1, h2⟩ := n_lI_x h1
      obtain ⟨x3, e3, h3⟩ := n_lI_x h2
      obtain ⟨x4, e4, h4⟩ := n_lI_x h3
      obtain ⟨s0, t0, rfl, h5⟩ := n_pI_x h4
      obtain ⟨t1, rfl, h6⟩ := n_pC_x h5
      obtain ⟨rfl, h7⟩ := n_pE_x h6
      exact n_sub (n_qc e0 (n_qc e1 (n_qc e3 (n_qc e4 n_qe)))) (bX6_cut_77 N hG hT (fun x1 x2 x3 M => fX6_cut_14 N n x1 x2 x3 M) ih x1 x3 x4 s0 M r h7)) (n_kc (fun lv st M r h => by
      obtain ⟨e0, h1⟩ := n_lC_x h
      obtain ⟨x1, e1, h2⟩ := n_lI_x h1
      obtain ⟨x2, e2, h3⟩ := n_lI_x h2
      obtain ⟨x3, e3, h4⟩ := n_lI_x h3
      obtain ⟨x4, e4, h5⟩ := n_lI_x h4
      obtain ⟨rfl, h6⟩ := n_pE_x h5
      exact n_sub (n_qc e0 (n_qc e1 (n_qc e2 (n_qc e3 (n_qc e4 n_qe))))) (bX6_cut_116 N hG hT (fun x1 x2 x3 M => fX6_cut_14 N n x1 x2 x3 M) ih x1 x2 x3 x4 M r h6)) (n_kc (fun lv st M r h => by
      obtain ⟨e0, h1⟩ := n_lC_x h
      obtain ⟨x1, e1, h2⟩ := n_lI_x h1
      obtain ⟨rfl, h3⟩ := n_pE_x h2
      exact n_sub (n_qc e0 (n_qc e1 n_qe)) (bX6_cut_169 N hG hT x1 M r h3)) n_ke)))) (by rfl) h
def fX6_cut (N : Nat) (x1 : Int32) (M : nM) : Option (Unit × nM) :=
  let M1 : nM := n_up M 80 5 (0 : Int32)
  let M2 : nM := n_up M1 80 6 (0 : Int32)
  fX6_cut_14 N N x1 (0 : Int32) (0 : Int32) M2
set_option maxRecDepth 200000 in
theorem bX6_cut_0 {l : Launch} {w : nW} (N : Nat) {G : nG} (hG : n_GOK G) (hT : n_PS w) (x1 : Int32) (M : nM) (r : Unit × nM) (h : fX6_cut N x1 M = some r) : n_At l w 6 mX6_cut 0 [(0, .ref 80), (1, .int x1)] [] (G, M) (dv_v r.1, (G, r.2)) :=
  n_seg (fin := n_fin dv_v G) (K := [(14, fun lv st M => n_lC 80 lv 0 (n_lI lv 1 (fun x1 => n_lI lv 2 (fun x2 => n_lI lv 3 (fun x3 => n_pE st (fX6_cut_14 N N x1 x2 x3 M))))))]) 13 (iX6_cut N hG hT) (n_kc (fun lv st M r h => by
      obtain ⟨e0, h1⟩ := n_lC_x h
      obtain ⟨x1, e1, h2⟩ := n_lI_x h1
      obtain ⟨x2, e2, h3⟩ := n_lI_x h2
      obtain ⟨x3, e3, h4⟩ := n_lI_x h3
      obtain ⟨rfl, h5⟩ := n_pE_x h4
      exact n_sub (n_qc e0 (n_qc e1 (n_qc e2 (n_qc e3 n_qe)))) (bX6_cut_14 N hG hT N x1 x2 x3 M r h5)) n_ke) (by rfl) h
theorem eX6_cut {l : Launch} {w : nW} (N : Nat) {G : nG} (hG : n_GOK G) (hT : n_PS w) (z1 : Int32) (M : nM) (r : Unit × nM) (h : fX6_cut N z1 M = some r) : n_Met l w 6 mX6_cut [.ref 80, .int z1] (G, M) (dv_v r.1, (G, r.2)) :=
  n_entry (by decide +kernel) rfl (Nat.le_of_ble_eq_true rfl) (n_sub (lv := [(0, .ref 80), (1, .int z1)]) (n_qc rfl (n_qc rfl n_qe)) (bX6_cut_0 N hG hT z1 M r h))
abbrev hX6_cut (N : Nat) : nF := fun T as M k => n_pC 80 as (fun as => n_pI as (fun z1 as => n_pE as ((fX6_cut N z1 M).bind fun p => k (dv_v p.1) p.2)))
theorem csX6_cut {l : Launch} {w : nW} (N : Nat) {G : nG} (hG : n_GOK G) (hT : n_PS w) : n_CS l w 6 mX6_cut G (hX6_cut N) := fun T as M k r h => by
  obtain ⟨t0, rfl, h1⟩ := n_pC_x h
  obtain ⟨z1, t1, rfl, h2⟩ := n_pI_x h1
  obtain ⟨rfl, hE⟩ := n_pE_x h2
  obtain ⟨p, hp, hk⟩ := Option.bind_eq_some_iff.mp hE
  exact ⟨_, _, eX6_cut N hG hT z1 M p hp, hk⟩
/-! ===== SleightHouse$Reader.read(I)Z ===== -/
def mX6_read : nY := (RX6, yX6_read, cX6_read, 5, some .boolean)
theorem okX6_read : n_MOK mX6_read 1 := ⟨w_824, w_148, ⟨by decide +kernel, by decide +kernel, by decide +kernel⟩, by decide⟩
abbrev aX6_read (N : Nat) (G : nG) : List (Nat × nO (Int32 × nM)) := [(0, o_aload 0 1), (1, o_push (.int (0 : Int32)) 2), (2, o_pIc 80 10 5), (5, o_aload 0 6), (6, o_push (.int (-1 : Int32)) 7), (7, o_pIc 80 11 10), (10, o_aload 0 11), (11, o_gIc 80 9 14), (14, o_istore 5 2 15), (15, o_aload 0 16), (16, o_push (.int (0 : Int32)) 17), (17, o_pIc 80 9 20), (20, o_iload 1 21), (21, oi_lt 29 24), (24, o_iload 1 25), (25, o_push (.int (3 : Int32)) 26), (26, oc_le 31 29), (29, o_push (.int (0 : Int32)) 30), (30, o_zret), (31, o_aload 0 32), (32, o_iload 2 33), (33, o_callVc 80 1 (hX6_cut N) 36), (36, o_aload 0 37), (37, o_gRc 80 85 40), (40, o_callVc 85 0 (hX3_clear) 43), (43, o_aload 0 44), (44, o_gRc 80 91 47), (47, o_callVc 91 0 (hX7_clear G) 50), (50, o_pop 51), (51, o_push (.int (0 : Int32)) 52), (52, o_istore 5 3 53), (53, o_iload 3 54), (54, o_push (.int (16 : Int32)) 56), (56, oc_gt 170 59), (59, o_aload 0 60), (60, o_gRc 80 82 63), (63, o_aload 0 64), (64, o_gIc 80 6 67), (67, o_aldc 82 401 68), (68, oi_eq 170 71), (71, o_aload 0 72), (72, o_iload 1 73), (73, o_callVc 80 1 (hX6_canBegin) 76), (76, oi_ne 85 79), (79, o_aload 0 80), (80, o_push (.int (1 : Int32)) 81), (81, o_callVc 80 1 (hX6_blame) 84), (84, o_zret), (85, o_iload 3 86), (86, o_push (.int (16 : Int32)) 88), (88, oc_ne 97 91), (91, o_aload 0 92), (92, o_push (.int (3 : Int32)) 93), (93, o_callVc 80 1 (hX6_blame) 96), (96, o_zret), (97, o_iload 1 98), (98, o_sw [((0 : Int32), 124), ((1 : Int32), 133), ((2 : Int32), 142)] 151), (124, o_aload 0 125), (125, o_callVc 80 0 (hX6_lawLine N) 128), (128, o_istore 5 4 130), (130, o_goto 157), (133, o_aload 0 134), (134, o_callVc 80 0 (hX6_supperLine G) 137), (137, o_istore 5 4 139), (139, o_goto 157), (142, o_aload 0 143), (143, o_callVc 80 0 (hX6_customLine G) 146), (146, o_istore 5 4 148), (148, o_goto 157), (151, o_aload 0 152), (152, o_callVc 80 0 (hX6_childLine N G) 155), (155, o_istore 5 4 157), (157, o_iload 4 159), (159, oi_ne 164 162), (162, o_push (.int (0 : Int32)) 163), (163, o_zret), (164, o_inc 5 3 (1 : Int32) 167), (167, o_goto 53), (170, o_push (.int (1 : Int32)) 171), (171, o_zret)]
set_option maxRecDepth 200000 in
theorem iX6_read {l : Launch} {w : nW} (N : Nat) {G : nG} (hG : n_GOK G) (hT : n_PS w) : n_AllS l w 425 mX6_read G (n_fin dv_i G) (aX6_read N G) :=
  n_c (s_aload_n (pc := 0) (k := 0) (by decide +kernel)) <|
  n_c (s_iconst (pc := 1) (n := 0) (by decide +kernel) (by decide +kernel)) <|
  n_c (s_pIc (s_putI (pc := 2) (ci := 6) (k := 10) (idx := 51) nok6 (by decide) rfl rfl (by decide +kernel) w_499) (gk80 hG)) <|
  n_c (s_aload_n (pc := 5) (k := 0) (by decide +kernel)) <|
  n_c (s_iconst (pc := 6) (n := -1) (by decide +kernel) (by decide +kernel)) <|
  n_c (s_pIc (s_putI (pc := 7) (ci := 6) (k := 11) (idx := 54) nok6 (by decide) rfl rfl (by decide +kernel) w_501) (gk80 hG)) <|
  n_c (s_aload_n (pc := 10) (k := 0) (by decide +kernel)) <|
  n_c (s_gIc (s_getI (pc := 11) (ci := 6) (k := 9) (idx := 48) nok6 (by decide) rfl (by decide +kernel) w_497) (gk80 hG)) <|
  n_c (s_istore_n (pc := 14) (k := 2) (by decide +kernel)) <|
  n_c (s_aload_n (pc := 15) (k := 0) (by decide +kernel)) <|
  n_c (s_iconst (pc := 16) (n := 0) (by decide +kernel) (by decide +kernel)) <|
  n_c (s_pIc (s_putI (pc := 17) (ci := 6) (k := 9) (idx := 48) nok6 (by decide) rfl rfl (by decide +kernel) w_497) (gk80 hG)) <|
  n_c (s_iload_n (pc := 20) (k := 1) (by decide +kernel)) <|
  n_c (s_if_lt (pc := 21) (off := 8) (by decide +kernel) (by decide +kernel)) <|
  n_c (s_iload_n (pc := 24) (k := 1) (by decide +kernel)) <|
  n_c (s_iconst (pc := 25) (n := 3) (by decide +kernel) (by decide +kernel)) <|
  n_c (s_icmp_le (pc := 26) (off := 5) (by decide +kernel) (by decide +kernel)) <|
  n_c (s_iconst (pc := 29) (n := 0) (by decide +kernel) (by decide +kernel)) <|
  n_c (s_zret (pc := 30) rfl (by decide +kernel)) <|
  n_c (s_aload_n (pc := 31) (k := 0) (by decide +kernel)) <|
  n_c (s_iload_n (pc := 32) (k := 2) (by decide +kernel)) <|
  n_c (s_callVc (s_callV (pc := 33) (csX6_cut N hG hT) (by decide) okX6_cut nok6 w_827 w_12 w_825 (by decide +kernel)) (gk80 hG)) <|
  n_c (s_aload_n (pc := 36) (k := 0) (by decide +kernel)) <|
  n_c (s_gRc (s_getR (pc := 37) (ci := 6) (k := 7) (idx := 35) nok6 (by decide) rfl (by decide +kernel) w_493) (gk80 hG) (gm80_7 hG)) <|
  n_c (s_callVc (s_callV (pc := 40) (csX3_clear hG) (by decide) okX3_clear nok3 w_958 w_959 w_957 (by decide +kernel)) (gk85 hG)) <|
  n_c (s_aload_n (pc := 43) (k := 0) (by decide +kernel)) <|
  n_c (s_gRc (s_getR (pc := 44) (ci := 6) (k := 8) (idx := 44) nok6 (by decide) rfl (by decide +kernel) w_495) (gk80 hG) (gm80_8 hG)) <|
  n_c (s_callVc (s_callV (pc := 47) (csX7_clear) (by decide) okX7_clear nok7 w_962 w_963 w_961 (by decide +kernel)) (gk91 hG)) <|
  n_c (s_pop (pc := 50) (by decide +kernel)) <|
  n_c (s_iconst (pc := 51) (n := 0) (by decide +kernel) (by decide +kernel)) <|
  n_c (s_istore_n (pc := 52) (k := 3) (by decide +kernel)) <|
  n_c (s_iload_n (pc := 53) (k := 3) (by decide +kernel)) <|
  n_c (s_bipush (pc := 54) (n := 16) (by decide +kernel) (by decide +kernel)) <|
  n_c (s_icmp_gt (pc := 56) (off := 114) (by decide +kernel) (by decide +kernel)) <|
  n_c (s_aload_n (pc := 59) (k := 0) (by decide +kernel)) <|
  n_c (s_gRc (s_getR (pc := 60) (ci := 6) (k := 2) (idx := 15) nok6 (by decide) rfl (by decide +kernel) w_488) (gk80 hG) (gm80_2 hG)) <|
  n_c (s_aload_n (pc := 63) (k := 0) (by decide +kernel)) <|
  n_c (s_gIc (s_getI (pc := 64) (ci := 6) (k := 6) (idx := 29) nok6 (by decide) rfl (by decide +kernel) w_492) (gk80 hG)) <|
  n_c (s_aldc (s_iaload (pc := 67) (by decide +kernel)) (gk82 hG) (gl82 hG)) <|
  n_c (s_if_eq (pc := 68) (off := 102) (by decide +kernel) (by decide +kernel)) <|
  n_c (s_aload_n (pc := 71) (k := 0) (by decide +kernel)) <|
  n_c (s_iload_n (pc := 72) (k := 1) (by decide +kernel)) <|
  n_c (s_callVc (s_callV (pc := 73) (csX6_canBegin hG) (by decide) okX6_canBegin nok6 w_967 w_18 w_965 (by decide +kernel)) (gk80 hG)) <|
  n_c (s_if_ne (pc := 76) (off := 9) (by decide +kernel) (by decide +kernel)) <|
  n_c (s_aload_n (pc := 79) (k := 0) (by decide +kernel)) <|
  n_c (s_iconst (pc := 80) (n := 1) (by decide +kernel) (by decide +kernel)) <|
  n_c (s_callVc (s_callV (pc := 81) (csX6_blame hG) (by decide) okX6_blame nok6 w_971 w_19 w_969 (by decide +kernel)) (gk80 hG)) <|
  n_c (s_zret (pc := 84) rfl (by decide +kernel)) <|
  n_c (s_iload_n (pc := 85) (k := 3) (by decide +kernel)) <|
  n_c (s_bipush (pc := 86) (n := 16) (by decide +kernel) (by decide +kernel)) <|
  n_c (s_icmp_ne (pc := 88) (off := 9) (by decide +kernel) (by decide +kernel)) <|
  n_c (s_aload_n (pc := 91) (k := 0) (by decide +kernel)) <|
  n_c (s_iconst (pc := 92) (n := 3) (by decide +kernel) (by decide +kernel)) <|
  n_c (s_callVc (s_callV (pc := 93) (csX6_blame hG) (by decide) okX6_blame nok6 w_971 w_19 w_969 (by decide +kernel)) (gk80 hG)) <|
  n_c (s_zret (pc := 96) rfl (by decide +kernel)) <|
  n_c (s_iload_n (pc := 97) (k := 1) (by decide +kernel)) <|
  n_c (s_tsw (pc := 98) (dflt := 53) (lo := 0) (hi := 2) (offs := #[26, 35, 44]) (len := 26) (by decide +kernel) (by decide +kernel)) <|
  n_c (s_aload_n (pc := 124) (k := 0) (by decide +kernel)) <|
  n_c (s_callVc (s_callV (pc := 125) (csX6_lawLine N hG) (by decide) okX6_lawLine nok6 w_975 w_20 w_973 (by decide +kernel)) (gk80 hG)) <|
  n_c (s_istore (pc := 128) (by decide +kernel)) <|
  n_c (s_goto (pc := 130) (off := 27) (by decide +kernel) (by decide +kernel)) <|
  n_c (s_aload_n (pc := 133) (k := 0) (by decide +kernel)) <|
  n_c (s_callVc (s_callV (pc := 134) (csX6_supperLine hG) (by decide) okX6_supperLine nok6 w_1023 w_28 w_1021 (by decide +kernel)) (gk80 hG)) <|
  n_c (s_istore (pc := 137) (by decide +kernel)) <|
  n_c (s_goto (pc := 139) (off := 18) (by decide +kernel) (by decide +kernel)) <|
  n_c (s_aload_n (pc := 142) (k := 0) (by decide +kernel)) <|
  n_c (s_callVc (s_callV (pc := 143) (csX6_customLine hG) (by decide) okX6_customLine nok6 w_1036 w_30 w_1034 (by decide +kernel)) (gk80 hG)) <|
  n_c (s_istore (pc := 146) (by decide +kernel)) <|
  n_c (s_goto (pc := 148) (off := 9) (by decide +kernel) (by decide +kernel)) <|
  n_c (s_aload_n (pc := 151) (k := 0) (by decide +kernel)) <|
  n_c (s_callVc (s_callV (pc := 152) (csX6_childLine N hG) (by decide) okX6_childLine nok6 w_1044 w_32 w_1042 (by decide +kernel)) (gk80 hG)) <|
  n_c (s_istore (pc := 155) (by decide +kernel)) <|
  n_c (s_iload (pc := 157) (by decide +kernel)) <|
  n_c (s_if_ne (pc := 159) (off := 5) (by decide +kernel) (by decide +kernel)) <|
  n_c (s_iconst (pc := 162) (n := 0) (by decide +kernel) (by decide +kernel)) <|
  n_c (s_zret (pc := 163) rfl (by decide +kernel)) <|
  n_c (s_iinc (pc := 164) (n := 1) (by decide +kernel) (by decide +kernel)) <|
  n_c (s_goto (pc := 167) (off := -114) (by decide +kernel) (by decide +kernel)) <|
  n_c (s_iconst (pc := 170) (n := 1) (by decide +kernel) (by decide +kernel)) <|
  n_c (s_zret (pc := 171) rfl (by decide +kernel)) <|
  n_e
def fX6_read_157 (N : Nat) (G : nG) (k53 : Int32 → Int32 → nM → Option (Int32 × nM)) (x1 : Int32) (x3 : Int32) (x4 : Int32) (M : nM) : Option (Int32 × nM) :=
  if ¬ x4 = 0 then
    let v1 : Int32 := (x3 + (1 : Int32))
    k53 x1 v1 M
  else
    some ((0 : Int32), M)
set_option maxRecDepth 200000 in
theorem bX6_read_157 {l : Launch} {w : nW} (N : Nat) {G : nG} (hG : n_GOK G) (hT : n_PS w) (k53 : Int32 → Int32 → nM → Option (Int32 × nM)) (hk53 : ∀ (x1 : Int32) (x3 : Int32) (M : nM) (r : Int32 × nM), k53 x1 x3 M = some r → n_At l w 425 mX6_read 53 [(0, .ref 80), (1, .int x1), (3, .int x3)] [] (G, M) (dv_i r.1, (G, r.2))) (x1 : Int32) (x3 : Int32) (x4 : Int32) (M : nM) (r : Int32 × nM) (h : fX6_read_157 N G k53 x1 x3 x4 M = some r) : n_At l w 425 mX6_read 157 [(0, .ref 80), (1, .int x1), (3, .int x3), (4, .int x4)] [] (G, M) (dv_i r.1, (G, r.2)) :=
  n_seg (fin := n_fin dv_i G) (K := [(53, fun lv st M => n_lC 80 lv 0 (n_lI lv 1 (fun x1 => n_lI lv 3 (fun x3 => n_pE st (k53 x1 x3 M)))))]) 9 (iX6_read N hG hT) (n_kc (fun lv st M r h => by
      obtain ⟨e0, h1⟩ := n_lC_x h
      obtain ⟨x1, e1, h2⟩ := n_lI_x h1
      obtain ⟨x3, e3, h3⟩ := n_lI_x h2
      obtain ⟨rfl, h4⟩ := n_pE_x h3
      exact n_sub (n_qc e0 (n_qc e1 (n_qc e3 n_qe))) (hk53 x1 x3 M r h4)) n_ke) (by rfl) h
def fX6_read_53 (N : Nat) (G : nG) : Nat → Int32 → Int32 → nM → Option (Int32 × nM)
  | 0, _, _, _ => none
  | n + 1, x1, x3, M =>
    if (16 : Int32) < x3 then
      some ((1 : Int32), M)
    else
      n_chk (n_ib 401 (M 80 6)) <|
      if (M 82 (M 80 6).toNatClampNeg) = 0 then
        some ((1 : Int32), M)
      else
        (fX6_canBegin x1 M).bind fun p1 =>
        if ¬ p1.1 = 0 then
          if ¬ x3 = (16 : Int32) then
            if x1 = (0 : Int32) then
              (fX6_lawLine N p1.2).bind fun p2 =>
              fX6_read_157 N G (fun x1 x3 M => fX6_read_53 N G n x1 x3 M) x1 x3 p2.1 p2.2
            else
            if x1 = (1 : Int32) then
              (fX6_supperLine G p1.2).bind fun p3 =>
              fX6_read_157 N G (fun x1 x3 M => fX6_read_53 N G n x1 x3 M) x1 x3 p3.1 p3.2
            else
            if x1 = (2 : Int32) then
              (fX6_customLine G p1.2).bind fun p4 =>
              fX6_read_157 N G (fun x1 x3 M => fX6_read_53 N G n x1 x3 M) x1 x3 p4.1 p4.2
            else
            (fX6_childLine N G p1.2).bind fun p5 =>
            fX6_read_157 N G (fun x1 x3 M => fX6_read_53 N G n x1 x3 M) x1 x3 p5.1 p5.2
          else
            (fX6_blame (3 : Int32) p1.2).bind fun p6 =>
            n_chk (p6.1 == 0 || p6.1 == 1) (some (p6.1, p6.2))
        else
          (fX6_blame (1 : Int32) p1.2).bind fun p7 =>
          n_chk (p7.1 == 0 || p7.1 == 1) (some (p7.1, p7.2))
set_option maxRecDepth 200000 in
theorem bX6_read_53 {l : Launch} {w : nW} (N : Nat) {G : nG} (hG : n_GOK G) (hT : n_PS w) : ∀ (n : Nat) (x1 : Int32) (x3 : Int32) (M : nM) (r : Int32 × nM), fX6_read_53 N G n x1 x3 M = some r → n_At l w 425 mX6_read 53 [(0, .ref 80), (1, .int x1), (3, .int x3)] [] (G, M) (dv_i r.1, (G, r.2)) := by
  intro n
  induction n with
  | zero => intro x1 x3 M r h; cases (show (none : Option (Int32 × nM)) = some r from h)
  | succ n ih =>
    intro x1 x3 M r h
    exact n_seg (fin := n_fin dv_i G) (K := [(157, fun lv st M => n_lC 80 lv 0 (n_lI lv 1 (fun x1 => n_lI lv 3 (fun x3 => n_lI lv 4 (fun x4 => n_pE st (fX6_read_157 N G (fun x1 x3 M => fX6_read_53 N G n x1 x3 M) x1 x3 x4 M))))))]) 48 (iX6_read N hG hT) (n_kc (fun lv st M r h => by
      obtain ⟨e0, h1⟩ := n_lC_x h
      obtain ⟨x1, e1, h2⟩ := n_lI_x h1
      obtain ⟨x3, e3, h3⟩ := n_lI_x h2
      obtain ⟨x4, e4, h4⟩ := n_lI_x h3
      obtain ⟨rfl, h5⟩ := n_pE_x h4
      exact n_sub (n_qc e0 (n_qc e1 (n_qc e3 (n_qc e4 n_qe)))) (bX6_read_157 N hG hT (fun x1 x3 M => fX6_read_53 N G n x1 x3 M) ih x1 x3 x4 M r h5)) n_ke) (by rfl) h
def fX6_read (N : Nat) (G : nG) (x1 : Int32) (M : nM) : Option (Int32 × nM) :=
  let M1 : nM := n_up M 80 10 (0 : Int32)
  let M2 : nM := n_up M1 80 11 (-1 : Int32)
  let v3 : Int32 := (M2 80 9)
  let M4 : nM := n_up M2 80 9 (0 : Int32)
  if x1 < 0 then
    some ((0 : Int32), M4)
  else
    if x1 ≤ (3 : Int32) then
      (fX6_cut N v3 M4).bind fun p5 =>
      (fX3_clear p5.2).bind fun p6 =>
      (fX7_clear G 91 p6.2).bind fun p7 =>
      fX6_read_53 N G N x1 (0 : Int32) p7.2
    else
      some ((0 : Int32), M4)
set_option maxRecDepth 200000 in
theorem bX6_read_0 {l : Launch} {w : nW} (N : Nat) {G : nG} (hG : n_GOK G) (hT : n_PS w) (x1 : Int32) (M : nM) (r : Int32 × nM) (h : fX6_read N G x1 M = some r) : n_At l w 425 mX6_read 0 [(0, .ref 80), (1, .int x1)] [] (G, M) (dv_i r.1, (G, r.2)) :=
  n_seg (fin := n_fin dv_i G) (K := [(53, fun lv st M => n_lC 80 lv 0 (n_lI lv 1 (fun x1 => n_lI lv 3 (fun x3 => n_pE st (fX6_read_53 N G N x1 x3 M)))))]) 36 (iX6_read N hG hT) (n_kc (fun lv st M r h => by
      obtain ⟨e0, h1⟩ := n_lC_x h
      obtain ⟨x1, e1, h2⟩ := n_lI_x h1
      obtain ⟨x3, e3, h3⟩ := n_lI_x h2
      obtain ⟨rfl, h4⟩ := n_pE_x h3
      exact n_sub (n_qc e0 (n_qc e1 (n_qc e3 n_qe))) (bX6_read_53 N hG hT N x1 x3 M r h4)) n_ke) (by rfl) h
theorem eX6_read {l : Launch} {w : nW} (N : Nat) {G : nG} (hG : n_GOK G) (hT : n_PS w) (z1 : Int32) (M : nM) (r : Int32 × nM) (h : fX6_read N G z1 M = some r) : n_Met l w 425 mX6_read [.ref 80, .int z1] (G, M) (dv_i r.1, (G, r.2)) :=
  n_entry (by decide +kernel) rfl (Nat.le_of_ble_eq_true rfl) (n_sub (lv := [(0, .ref 80), (1, .int z1)]) (n_qc rfl (n_qc rfl n_qe)) (bX6_read_0 N hG hT z1 M r h))
abbrev hX6_read (N : Nat) (G : nG) : nF := fun T as M k => n_pC 80 as (fun as => n_pI as (fun z1 as => n_pE as ((fX6_read N G z1 M).bind fun p => k (dv_i p.1) p.2)))
theorem csX6_read {l : Launch} {w : nW} (N : Nat) {G : nG} (hG : n_GOK G) (hT : n_PS w) : n_CS l w 425 mX6_read G (hX6_read N G) := fun T as M k r h => by
  obtain ⟨t0, rfl, h1⟩ := n_pC_x h
  obtain ⟨z1, t1, rfl, h2⟩ := n_pI_x h1
  obtain ⟨rfl, hE⟩ := n_pE_x h2
  obtain ⟨p, hp, hk⟩ := Option.bind_eq_some_iff.mp hE
  exact ⟨_, _, eX6_read N hG hT z1 M p hp, hk⟩
/-! ===== SleightHouse.text(I)I ===== -/
def mX11_text : nY := (RX11, yX11_text, cX11_text, 3, some .int)
theorem okX11_text : n_MOK mX11_text 1 := ⟨w_820, w_137, ⟨by decide +kernel, by decide +kernel, by decide +kernel⟩, by decide⟩
abbrev aX11_text (N : Nat) (G : nG) : List (Nat × nO (Int32 × nM)) := [(0, o_aload 0 1), (1, o_gRc 1 80 4), (4, o_iload 1 5), (5, o_callVc 80 1 (hX6_read N G) 8), (8, oi_ne 13 11), (11, o_push (.int (-1 : Int32)) 12), (12, o_iret), (13, o_iload 1 14), (14, oi_ne 45 17), (17, o_aload 0 18), (18, o_gRc 1 2 21), (21, o_gRc 2 16 24), (24, o_aload 0 25), (25, o_gRc 1 80 28), (28, o_gRc 80 85 31), (31, o_callVc 16 1 (hX3_copyFrom G) 34), (34, o_aload 0 35), (35, o_gRc 1 2 38), (38, o_gRc 2 16 41), (41, o_gIc 16 6 44), (44, o_iret), (45, o_aload 0 46), (46, o_gRc 1 2 49), (49, o_iload 1 50), (50, o_callVc 2 1 (hX1_linesOf) 53), (53, o_astore 3 2 54), (54, o_aload 2 55), (55, o_aload 0 56), (56, o_gRc 1 80 59), (59, o_gRc 80 91 62), (62, o_callV G 7 1 (hX7_copyFrom G) 65), (65, o_iload 1 66), (66, o_push (.int (3 : Int32)) 67), (67, oc_eq 77 70), (70, o_aload 0 71), (71, o_gRc 1 48 74), (74, o_callVc 48 0 (hX5_forget) 77), (77, o_aload 2 78), (78, o_getI G 7 3 81), (81, o_iret)]
set_option maxRecDepth 200000 in
theorem iX11_text {l : Launch} {w : nW} (N : Nat) {G : nG} (hG : n_GOK G) (hT : n_PS w) : n_AllS l w 426 mX11_text G (n_fin dv_i G) (aX11_text N G) :=
  n_c (s_aload_n (pc := 0) (k := 0) (by decide +kernel)) <|
  n_c (s_gRc (s_getR (pc := 1) (ci := 11) (k := 3) (idx := 41) nok11 (by decide) rfl (by decide +kernel) w_575) (gk1 hG) (gm1_3 hG)) <|
  n_c (s_iload_n (pc := 4) (k := 1) (by decide +kernel)) <|
  n_c (s_callVc (s_callV (pc := 5) (csX6_read N hG hT) (by decide) okX6_read nok6 w_822 w_823 w_821 (by decide +kernel)) (gk80 hG)) <|
  n_c (s_if_ne (pc := 8) (off := 5) (by decide +kernel) (by decide +kernel)) <|
  n_c (s_iconst (pc := 11) (n := -1) (by decide +kernel) (by decide +kernel)) <|
  n_c (s_iret (pc := 12) rfl (by decide +kernel)) <|
  n_c (s_iload_n (pc := 13) (k := 1) (by decide +kernel)) <|
  n_c (s_if_ne (pc := 14) (off := 31) (by decide +kernel) (by decide +kernel)) <|
  n_c (s_aload_n (pc := 17) (k := 0) (by decide +kernel)) <|
  n_c (s_gRc (s_getR (pc := 18) (ci := 11) (k := 0) (idx := 10) nok11 (by decide) rfl (by decide +kernel) w_572) (gk1 hG) (gm1_0 hG)) <|
  n_c (s_gRc (s_getR (pc := 21) (ci := 1) (k := 3) (idx := 199) nok1 (by decide) rfl (by decide +kernel) w_412) (gk2 hG) (gm2_3 hG)) <|
  n_c (s_aload_n (pc := 24) (k := 0) (by decide +kernel)) <|
  n_c (s_gRc (s_getR (pc := 25) (ci := 11) (k := 3) (idx := 41) nok11 (by decide) rfl (by decide +kernel) w_575) (gk1 hG) (gm1_3 hG)) <|
  n_c (s_gRc (s_getR (pc := 28) (ci := 6) (k := 7) (idx := 203) nok6 (by decide) rfl (by decide +kernel) w_494) (gk80 hG) (gm80_7 hG)) <|
  n_c (s_callVc (s_callV (pc := 31) (csX3_copyFrom) (by decide) okX3_copyFrom nok3 w_1052 w_1053 w_1051 (by decide +kernel)) (gk16 hG)) <|
  n_c (s_aload_n (pc := 34) (k := 0) (by decide +kernel)) <|
  n_c (s_gRc (s_getR (pc := 35) (ci := 11) (k := 0) (idx := 10) nok11 (by decide) rfl (by decide +kernel) w_572) (gk1 hG) (gm1_0 hG)) <|
  n_c (s_gRc (s_getR (pc := 38) (ci := 1) (k := 3) (idx := 199) nok1 (by decide) rfl (by decide +kernel) w_412) (gk2 hG) (gm2_3 hG)) <|
  n_c (s_gIc (s_getI (pc := 41) (ci := 3) (k := 6) (idx := 210) nok3 (by decide) rfl (by decide +kernel) w_332) (gk16 hG)) <|
  n_c (s_iret (pc := 44) rfl (by decide +kernel)) <|
  n_c (s_aload_n (pc := 45) (k := 0) (by decide +kernel)) <|
  n_c (s_gRc (s_getR (pc := 46) (ci := 11) (k := 0) (idx := 10) nok11 (by decide) rfl (by decide +kernel) w_572) (gk1 hG) (gm1_0 hG)) <|
  n_c (s_iload_n (pc := 49) (k := 1) (by decide +kernel)) <|
  n_c (s_callVc (s_callV (pc := 50) (csX1_linesOf hG) (by decide) okX1_linesOf nok1 w_1057 w_1058 w_1056 (by decide +kernel)) (gk2 hG)) <|
  n_c (s_astore_n (pc := 53) (k := 2) (by decide +kernel)) <|
  n_c (s_aload_n (pc := 54) (k := 2) (by decide +kernel)) <|
  n_c (s_aload_n (pc := 55) (k := 0) (by decide +kernel)) <|
  n_c (s_gRc (s_getR (pc := 56) (ci := 11) (k := 3) (idx := 41) nok11 (by decide) rfl (by decide +kernel) w_575) (gk1 hG) (gm1_3 hG)) <|
  n_c (s_gRc (s_getR (pc := 59) (ci := 6) (k := 8) (idx := 217) nok6 (by decide) rfl (by decide +kernel) w_496) (gk80 hG) (gm80_8 hG)) <|
  n_c (s_callV (pc := 62) (csX7_copyFrom) (by decide) okX7_copyFrom nok7 w_1061 w_1062 w_1060 (by decide +kernel)) <|
  n_c (s_iload_n (pc := 65) (k := 1) (by decide +kernel)) <|
  n_c (s_iconst (pc := 66) (n := 3) (by decide +kernel) (by decide +kernel)) <|
  n_c (s_icmp_eq (pc := 67) (off := 10) (by decide +kernel) (by decide +kernel)) <|
  n_c (s_aload_n (pc := 70) (k := 0) (by decide +kernel)) <|
  n_c (s_gRc (s_getR (pc := 71) (ci := 11) (k := 2) (idx := 28) nok11 (by decide) rfl (by decide +kernel) w_574) (gk1 hG) (gm1_2 hG)) <|
  n_c (s_callVc (s_callV (pc := 74) (csX5_forget hG) (by decide) okX5_forget nok5 w_602 w_603 w_601 (by decide +kernel)) (gk48 hG)) <|
  n_c (s_aload_n (pc := 77) (k := 2) (by decide +kernel)) <|
  n_c (s_getI (pc := 78) (ci := 7) (k := 3) (idx := 226) nok7 (by decide) rfl (by decide +kernel) w_308) <|
  n_c (s_iret (pc := 81) rfl (by decide +kernel)) <|
  n_e
def fX11_text (N : Nat) (G : nG) (x1 : Int32) (M : nM) : Option (Int32 × nM) :=
  (fX6_read N G x1 M).bind fun p1 =>
  if ¬ p1.1 = 0 then
    if ¬ x1 = 0 then
      (fX1_linesOf x1 p1.2).bind fun p2 =>
      n_chk (Nat.beq (n_kd G p2.1) 7 && true) <|
      (fX7_copyFrom G p2.1 91 p2.2).bind fun p3 =>
      if x1 = (3 : Int32) then
        n_chk (Nat.beq (n_kd G p2.1) 7) <|
        some ((p3.2 p2.1 3), p3.2)
      else
        (fX5_forget p3.2).bind fun p4 =>
        n_chk (Nat.beq (n_kd G p2.1) 7) <|
        some ((p4.2 p2.1 3), p4.2)
    else
      (fX3_copyFrom G 16 85 p1.2).bind fun p5 =>
      some ((p5.2 16 6), p5.2)
  else
    some ((-1 : Int32), p1.2)
set_option maxRecDepth 200000 in
theorem bX11_text_0 {l : Launch} {w : nW} (N : Nat) {G : nG} (hG : n_GOK G) (hT : n_PS w) (x1 : Int32) (M : nM) (r : Int32 × nM) (h : fX11_text N G x1 M = some r) : n_At l w 426 mX11_text 0 [(0, .ref 1), (1, .int x1)] [] (G, M) (dv_i r.1, (G, r.2)) :=
  n_seg (fin := n_fin dv_i G) (K := []) 46 (iX11_text N hG hT) n_ke (by rfl) h
theorem eX11_text {l : Launch} {w : nW} (N : Nat) {G : nG} (hG : n_GOK G) (hT : n_PS w) (z1 : Int32) (M : nM) (r : Int32 × nM) (h : fX11_text N G z1 M = some r) : n_Met l w 426 mX11_text [.ref 1, .int z1] (G, M) (dv_i r.1, (G, r.2)) :=
  n_entry (by decide +kernel) rfl (Nat.le_of_ble_eq_true rfl) (n_sub (lv := [(0, .ref 1), (1, .int z1)]) (n_qc rfl (n_qc rfl n_qe)) (bX11_text_0 N hG hT z1 M r h))
abbrev hX11_text (N : Nat) (G : nG) : nF := fun T as M k => n_pC 1 as (fun as => n_pI as (fun z1 as => n_pE as ((fX11_text N G z1 M).bind fun p => k (dv_i p.1) p.2)))
theorem csX11_text {l : Launch} {w : nW} (N : Nat) {G : nG} (hG : n_GOK G) (hT : n_PS w) : n_CS l w 426 mX11_text G (hX11_text N G) := fun T as M k r h => by
  obtain ⟨t0, rfl, h1⟩ := n_pC_x h
  obtain ⟨z1, t1, rfl, h2⟩ := n_pI_x h1
  obtain ⟨rfl, hE⟩ := n_pE_x h2
  obtain ⟨p, hp, hk⟩ := Option.bind_eq_some_iff.mp hE
  exact ⟨_, _, eX11_text N hG hT z1 M p hp, hk⟩
