/-! WHAT THE TABLES SAY: the words, each by its place. -/
theorem xw_0 : (Cond.selects "java/lang/StringBuilder" ⟨"java/lang/AbstractStringBuilder", "ensureCapacityInternal", "(I)V"⟩ ⟨"java/lang/AbstractStringBuilder", "ensureCapacityInternal", "(I)V"⟩) ∈ xWA := xw 0 (by decide +kernel) rfl
theorem xw_1 : (Cond.selects "java/lang/StringBuilder" ⟨"java/lang/AbstractStringBuilder", "newCapacity", "(I)I"⟩ ⟨"java/lang/AbstractStringBuilder", "newCapacity", "(I)I"⟩) ∈ xWA := xw 1 (by decide +kernel) rfl
theorem xw_2 : (Cond.selects "RingKiln$Courses" ⟨"RingKiln$Courses", "addCoursesEndingWith", "(II)V"⟩ ⟨"RingKiln$Courses", "addCoursesEndingWith", "(II)V"⟩) ∈ xWA := xw 2 (by decide +kernel) rfl
theorem xw_4 : (Cond.selects "RingKiln" ⟨"RingKiln", "change", "(LRingKiln$Command;II)I"⟩ ⟨"RingKiln", "change", "(LRingKiln$Command;II)I"⟩) ∈ xWA := xw 4 (by decide +kernel) rfl
theorem xw_5 : (Cond.selects "RingKiln" ⟨"RingKiln", "carryOut", "(LRingKiln$Command;II)I"⟩ ⟨"RingKiln", "carryOut", "(LRingKiln$Command;II)I"⟩) ∈ xWA := xw 5 (by decide +kernel) rfl
theorem xw_6 : (Cond.selects "RingKiln$Kiln" ⟨"RingKiln$Kiln", "isCool", "(I)Z"⟩ ⟨"RingKiln$Kiln", "isCool", "(I)Z"⟩) ∈ xWA := xw 6 (by decide +kernel) rfl
theorem xw_7 : (Cond.selects "RingKiln$Mixer" ⟨"RingKiln$Mixer", "considerMixture", "(III[I)V"⟩ ⟨"RingKiln$Mixer", "considerMixture", "(III[I)V"⟩) ∈ xWA := xw 7 (by decide +kernel) rfl
theorem xw_8 : (Cond.selects "RingKiln$Mixer" ⟨"RingKiln$Mixer", "isBetter", "(IIII)Z"⟩ ⟨"RingKiln$Mixer", "isBetter", "(IIII)Z"⟩) ∈ xWA := xw 8 (by decide +kernel) rfl
theorem xw_9 : (Cond.selects "RingKiln$Kiln" ⟨"RingKiln$Kiln", "passOneHour", "()V"⟩ ⟨"RingKiln$Kiln", "passOneHour", "()V"⟩) ∈ xWA := xw 9 (by decide +kernel) rfl
theorem xw_10 : (Cond.selects "RingKiln$Kiln" ⟨"RingKiln$Kiln", "heatChambers", "()V"⟩ ⟨"RingKiln$Kiln", "heatChambers", "()V"⟩) ∈ xWA := xw 10 (by decide +kernel) rfl
theorem xw_11 : (Cond.selects "RingKiln$Kiln" ⟨"RingKiln$Kiln", "coolChambers", "()V"⟩ ⟨"RingKiln$Kiln", "coolChambers", "()V"⟩) ∈ xWA := xw 11 (by decide +kernel) rfl
theorem xw_12 : (Cond.selects "RingKiln$Kiln" ⟨"RingKiln$Kiln", "finishChamber", "()V"⟩ ⟨"RingKiln$Kiln", "finishChamber", "()V"⟩) ∈ xWA := xw 12 (by decide +kernel) rfl
theorem xw_13 : (Cond.selects "RingKiln$Courses" ⟨"RingKiln$Courses", "addCourseToFewest", "([II)V"⟩ ⟨"RingKiln$Courses", "addCourseToFewest", "([II)V"⟩) ∈ xWA := xw 13 (by decide +kernel) rfl
theorem xw_14 : (Cond.selects "RingKiln$Program" ⟨"RingKiln$Program", "readCommand", "()Z"⟩ ⟨"RingKiln$Program", "readCommand", "()Z"⟩) ∈ xWA := xw 14 (by decide +kernel) rfl
theorem xw_15 : (Cond.selects "RingKiln$Program" ⟨"RingKiln$Program", "followPattern", "(Ljava/lang/String;)Z"⟩ ⟨"RingKiln$Program", "followPattern", "(Ljava/lang/String;)Z"⟩) ∈ xWA := xw 15 (by decide +kernel) rfl
theorem xw_16 : (Cond.selects "RingKiln$Program" ⟨"RingKiln$Program", "readNumber", "()Z"⟩ ⟨"RingKiln$Program", "readNumber", "()Z"⟩) ∈ xWA := xw 16 (by decide +kernel) rfl
theorem xw_17 : (Cond.selects "RingKiln$Program" ⟨"RingKiln$Program", "addValue", "(I)V"⟩ ⟨"RingKiln$Program", "addValue", "(I)V"⟩) ∈ xWA := xw 17 (by decide +kernel) rfl
theorem xw_18 : (Cond.selects "RingKiln$Program" ⟨"RingKiln$Program", "readCharacter", "(C)Z"⟩ ⟨"RingKiln$Program", "readCharacter", "(C)Z"⟩) ∈ xWA := xw 18 (by decide +kernel) rfl
theorem xw_19 : (Cond.selects "RingKiln$Program" ⟨"RingKiln$Program", "keepCommand", "(LRingKiln$Command;)V"⟩ ⟨"RingKiln$Program", "keepCommand", "(LRingKiln$Command;)V"⟩) ∈ xWA := xw 19 (by decide +kernel) rfl
theorem xw_20 : (Cond.selects "RingKiln" ⟨"RingKiln", "carryOutCommands", "()I"⟩ ⟨"RingKiln", "carryOutCommands", "()I"⟩) ∈ xWA := xw 20 (by decide +kernel) rfl
theorem xw_21 : (Cond.selects "RingKiln" ⟨"RingKiln", "costByTable", "(I)I"⟩ ⟨"RingKiln", "costByTable", "(I)I"⟩) ∈ xWA := xw 21 (by decide +kernel) rfl
theorem xw_22 : (Cond.selects "RingKiln$Mixer" ⟨"RingKiln$Mixer", "extendTable", "(IIII)V"⟩ ⟨"RingKiln$Mixer", "extendTable", "(IIII)V"⟩) ∈ xWA := xw 22 (by decide +kernel) rfl
theorem xw_23 : (Cond.selects "RingKiln" ⟨"RingKiln", "costByTrying", "(I)I"⟩ ⟨"RingKiln", "costByTrying", "(I)I"⟩) ∈ xWA := xw 23 (by decide +kernel) rfl
theorem xw_24 : (Cond.selects "RingKiln$Courses" ⟨"RingKiln$Courses", "addCourseToWays", "([II)V"⟩ ⟨"RingKiln$Courses", "addCourseToWays", "([II)V"⟩) ∈ xWA := xw 24 (by decide +kernel) rfl
theorem xw_25 : (Cond.selects "RingKiln$Kiln" ⟨"RingKiln$Kiln", "rankOf", "(I)I"⟩ ⟨"RingKiln$Kiln", "rankOf", "(I)I"⟩) ∈ xWA := xw 25 (by decide +kernel) rfl
theorem xw_26 : (Cond.selects "RingKiln$Kiln" ⟨"RingKiln$Kiln", "comesBefore", "(II)Z"⟩ ⟨"RingKiln$Kiln", "comesBefore", "(II)Z"⟩) ∈ xWA := xw 26 (by decide +kernel) rfl
theorem xw_27 : (Jvm.Cond.initialized "RingKilnLaw") ∈ xWA := xw 27 (by decide +kernel) rfl
theorem xw_28 : (Jvm.Cond.initialized "RingKiln") ∈ xWA := xw 28 (by decide +kernel) rfl
theorem xw_29 : (Jvm.Cond.initialized "RingKiln$Kiln") ∈ xWA := xw 29 (by decide +kernel) rfl
theorem xw_30 : (Jvm.Cond.initialized "RingKiln$History") ∈ xWA := xw 30 (by decide +kernel) rfl
theorem xw_31 : (Jvm.Cond.initialized "RingKiln$Mixer") ∈ xWA := xw 31 (by decide +kernel) rfl
theorem xw_32 : (Jvm.Cond.initialized "RingKiln$Courses") ∈ xWA := xw 32 (by decide +kernel) rfl
theorem xw_33 : (Jvm.Cond.initialized "RingKiln$Program") ∈ xWA := xw 33 (by decide +kernel) rfl
theorem xw_34 : (Jvm.Cond.initialized "java/lang/AbstractStringBuilder") ∈ xWA := xw 34 (by decide +kernel) rfl
theorem xw_35 : (Jvm.Cond.initialized "java/lang/StringBuilder") ∈ xWA := xw 35 (by decide +kernel) rfl
theorem xw_36 : (Jvm.Cond.initialized "java/lang/String") ∈ xWA := xw 36 (by decide +kernel) rfl
theorem xw_41 : (Jvm.Cond.initialized "java/lang/IndexOutOfBoundsException") ∈ xWA := xw 41 (by decide +kernel) rfl
theorem xw_43 : (Jvm.Cond.initialized "java/lang/Enum") ∈ xWA := xw 43 (by decide +kernel) rfl
theorem xw_45 : (Jvm.Cond.initialized "java/lang/System") ∈ xWA := xw 45 (by decide +kernel) rfl
theorem xw_47 : (Jvm.Cond.initialized "java/lang/Math") ∈ xWA := xw 47 (by decide +kernel) rfl
theorem xw_49 : (Jvm.Cond.initialized "java/lang/Integer") ∈ xWA := xw 49 (by decide +kernel) rfl
theorem xw_50 : (Jvm.Cond.initialized "java/lang/IllegalArgumentException") ∈ xWA := xw 50 (by decide +kernel) rfl
theorem xw_51 : (Jvm.Cond.initialized "java/lang/IllegalStateException") ∈ xWA := xw 51 (by decide +kernel) rfl
theorem xw_52 : (Jvm.Cond.initialized "java/lang/UnsupportedOperationException") ∈ xWA := xw 52 (by decide +kernel) rfl
theorem xw_53 : (Jvm.Cond.initialized "java/util/NoSuchElementException") ∈ xWA := xw 53 (by decide +kernel) rfl
theorem xw_54 : (Jvm.Cond.initialized "java/lang/StringLatin1") ∈ xWA := xw 54 (by decide +kernel) rfl
theorem xw_57 : (Jvm.Cond.initialized "jdk/internal/util/ArraysSupport") ∈ xWA := xw 57 (by decide +kernel) rfl
theorem xw_58 : (Jvm.Cond.initialized "java/util/Arrays") ∈ xWA := xw 58 (by decide +kernel) rfl
theorem xw_59 : (Jvm.Cond.classLink "RingKilnLaw" (12 : Nat) "RingKiln") ∈ xWA := xw 59 (by decide +kernel) rfl
theorem xw_60 : (Jvm.Cond.instantiable "RingKiln" (12 : Nat)) ∈ xWA := xw 60 (by decide +kernel) rfl
theorem xw_61 : (Jvm.Cond.methodLink "RingKilnLaw" (286 : Nat) ({ cls := "RingKiln", name := "<init>", desc := "()V" } : Jvm.MethodName)) ∈ xWA := xw 61 (by decide +kernel) rfl
theorem xw_62 : (Jvm.Cond.instanceMethod ({ cls := "RingKiln", name := "<init>", desc := "()V" } : Jvm.MethodName)) ∈ xWA := xw 62 (by decide +kernel) rfl
theorem xw_63 : (Jvm.Cond.code ({ cls := "RingKiln", name := "<init>", desc := "()V" } : Jvm.MethodName) prog_1_method_1_code (1 : Nat) (Option.none : Option Jvm.ClassFile.FieldType)) ∈ xWA := xw 63 (by decide +kernel) rfl
theorem xw_64 : (Jvm.Cond.methodLink "RingKiln" (1 : Nat) ({ cls := "java/lang/Object", name := "<init>", desc := "()V" } : Jvm.MethodName)) ∈ xWA := xw 64 (by decide +kernel) rfl
theorem xw_65 : (Jvm.Cond.instanceMethod ({ cls := "java/lang/Object", name := "<init>", desc := "()V" } : Jvm.MethodName)) ∈ xWA := xw 65 (by decide +kernel) rfl
theorem xw_66 : (Jvm.Cond.code ({ cls := "java/lang/Object", name := "<init>", desc := "()V" } : Jvm.MethodName) object_method_1_code (1 : Nat) (Option.none : Option Jvm.ClassFile.FieldType)) ∈ xWA := xw 66 (by decide +kernel) rfl
theorem xw_67 : (Jvm.Cond.classLink "RingKiln" (7 : Nat) "RingKiln$Kiln") ∈ xWA := xw 67 (by decide +kernel) rfl
theorem xw_68 : (Jvm.Cond.instantiable "RingKiln$Kiln" (17 : Nat)) ∈ xWA := xw 68 (by decide +kernel) rfl
theorem xw_69 : (Jvm.Cond.methodLink "RingKiln" (9 : Nat) ({ cls := "RingKiln$Kiln", name := "<init>", desc := "()V" } : Jvm.MethodName)) ∈ xWA := xw 69 (by decide +kernel) rfl
theorem xw_70 : (Jvm.Cond.instanceMethod ({ cls := "RingKiln$Kiln", name := "<init>", desc := "()V" } : Jvm.MethodName)) ∈ xWA := xw 70 (by decide +kernel) rfl
theorem xw_71 : (Jvm.Cond.code ({ cls := "RingKiln$Kiln", name := "<init>", desc := "()V" } : Jvm.MethodName) prog_6_method_1_code (2 : Nat) (Option.none : Option Jvm.ClassFile.FieldType)) ∈ xWA := xw 71 (by decide +kernel) rfl
theorem xw_72 : (Jvm.Cond.methodLink "RingKiln$Kiln" (3 : Nat) ({ cls := "java/lang/Object", name := "<init>", desc := "()V" } : Jvm.MethodName)) ∈ xWA := xw 72 (by decide +kernel) rfl
theorem xw_73 : (Jvm.Cond.fieldLink "RingKiln$Kiln" (9 : Nat) "RingKiln$Kiln" "time" "I") ∈ xWA := xw 73 (by decide +kernel) rfl
theorem xw_75 : (Jvm.Cond.fieldLink "RingKiln$Kiln" (15 : Nat) "RingKiln$Kiln" "fire" "I") ∈ xWA := xw 75 (by decide +kernel) rfl
theorem xw_77 : (Jvm.Cond.fieldLink "RingKiln$Kiln" (18 : Nat) "RingKiln$Kiln" "heat" "I") ∈ xWA := xw 77 (by decide +kernel) rfl
theorem xw_79 : (Jvm.Cond.fieldLink "RingKiln$Kiln" (21 : Nat) "RingKiln$Kiln" "draught" "I") ∈ xWA := xw 79 (by decide +kernel) rfl
theorem xw_81 : (Jvm.Cond.fieldLink "RingKiln$Kiln" (24 : Nat) "RingKiln$Kiln" "states" "[C") ∈ xWA := xw 81 (by decide +kernel) rfl
theorem xw_83 : (Jvm.Cond.fieldLink "RingKiln$Kiln" (28 : Nat) "RingKiln$Kiln" "bricks" "[I") ∈ xWA := xw 83 (by decide +kernel) rfl
theorem xw_85 : (Jvm.Cond.fieldLink "RingKiln$Kiln" (32 : Nat) "RingKiln$Kiln" "temperatures" "[I") ∈ xWA := xw 85 (by decide +kernel) rfl
theorem xw_87 : (Jvm.Cond.fieldLink "RingKiln$Kiln" (35 : Nat) "RingKiln$Kiln" "pieces" "[I") ∈ xWA := xw 87 (by decide +kernel) rfl
theorem xw_89 : (Jvm.Cond.fieldLink "RingKiln$Kiln" (38 : Nat) "RingKiln$Kiln" "prices" "[I") ∈ xWA := xw 89 (by decide +kernel) rfl
theorem xw_91 : (Jvm.Cond.fieldLink "RingKiln$Kiln" (41 : Nat) "RingKiln$Kiln" "stock" "I") ∈ xWA := xw 91 (by decide +kernel) rfl
theorem xw_93 : (Jvm.Cond.fieldLink "RingKiln$Kiln" (44 : Nat) "RingKiln$Kiln" "walls" "I") ∈ xWA := xw 93 (by decide +kernel) rfl
theorem xw_95 : (Jvm.Cond.fieldLink "RingKiln$Kiln" (47 : Nat) "RingKiln$Kiln" "loaded" "I") ∈ xWA := xw 95 (by decide +kernel) rfl
theorem xw_97 : (Jvm.Cond.fieldLink "RingKiln$Kiln" (50 : Nat) "RingKiln$Kiln" "fired" "I") ∈ xWA := xw 97 (by decide +kernel) rfl
theorem xw_98 : (Jvm.Cond.fieldLink "RingKiln$Kiln" (53 : Nat) "RingKiln$Kiln" "used" "I") ∈ xWA := xw 98 (by decide +kernel) rfl
theorem xw_100 : (Jvm.Cond.fieldLink "RingKiln$Kiln" (56 : Nat) "RingKiln$Kiln" "paid" "I") ∈ xWA := xw 100 (by decide +kernel) rfl
theorem xw_102 : (Jvm.Cond.fieldLink "RingKiln$Kiln" (59 : Nat) "RingKiln$Kiln" "fedHeat" "I") ∈ xWA := xw 102 (by decide +kernel) rfl
theorem xw_104 : (Jvm.Cond.fieldLink "RingKiln$Kiln" (62 : Nat) "RingKiln$Kiln" "burntHeat" "I") ∈ xWA := xw 104 (by decide +kernel) rfl
theorem xw_106 : (Jvm.Cond.lays "RingKiln$Kiln" "RingKiln$Kiln" "time" "I") ∈ xWA := xw 106 (by decide +kernel) rfl
theorem xw_108 : (Jvm.Cond.lays "RingKiln$Kiln" "RingKiln$Kiln" "fire" "I") ∈ xWA := xw 108 (by decide +kernel) rfl
theorem xw_110 : (Jvm.Cond.lays "RingKiln$Kiln" "RingKiln$Kiln" "heat" "I") ∈ xWA := xw 110 (by decide +kernel) rfl
theorem xw_112 : (Jvm.Cond.lays "RingKiln$Kiln" "RingKiln$Kiln" "draught" "I") ∈ xWA := xw 112 (by decide +kernel) rfl
theorem xw_114 : (Jvm.Cond.laysFinal "RingKiln$Kiln" "RingKiln$Kiln" "states" "[C") ∈ xWA := xw 114 (by decide +kernel) rfl
theorem xw_116 : (Jvm.Cond.laysFinal "RingKiln$Kiln" "RingKiln$Kiln" "bricks" "[I") ∈ xWA := xw 116 (by decide +kernel) rfl
theorem xw_118 : (Jvm.Cond.laysFinal "RingKiln$Kiln" "RingKiln$Kiln" "temperatures" "[I") ∈ xWA := xw 118 (by decide +kernel) rfl
theorem xw_120 : (Jvm.Cond.laysFinal "RingKiln$Kiln" "RingKiln$Kiln" "pieces" "[I") ∈ xWA := xw 120 (by decide +kernel) rfl
theorem xw_122 : (Jvm.Cond.laysFinal "RingKiln$Kiln" "RingKiln$Kiln" "prices" "[I") ∈ xWA := xw 122 (by decide +kernel) rfl
theorem xw_124 : (Jvm.Cond.lays "RingKiln$Kiln" "RingKiln$Kiln" "stock" "I") ∈ xWA := xw 124 (by decide +kernel) rfl
theorem xw_126 : (Jvm.Cond.lays "RingKiln$Kiln" "RingKiln$Kiln" "walls" "I") ∈ xWA := xw 126 (by decide +kernel) rfl
theorem xw_128 : (Jvm.Cond.lays "RingKiln$Kiln" "RingKiln$Kiln" "loaded" "I") ∈ xWA := xw 128 (by decide +kernel) rfl
theorem xw_130 : (Jvm.Cond.lays "RingKiln$Kiln" "RingKiln$Kiln" "fired" "I") ∈ xWA := xw 130 (by decide +kernel) rfl
theorem xw_132 : (Jvm.Cond.lays "RingKiln$Kiln" "RingKiln$Kiln" "used" "I") ∈ xWA := xw 132 (by decide +kernel) rfl
theorem xw_134 : (Jvm.Cond.lays "RingKiln$Kiln" "RingKiln$Kiln" "paid" "I") ∈ xWA := xw 134 (by decide +kernel) rfl
theorem xw_136 : (Jvm.Cond.lays "RingKiln$Kiln" "RingKiln$Kiln" "fedHeat" "I") ∈ xWA := xw 136 (by decide +kernel) rfl
theorem xw_138 : (Jvm.Cond.lays "RingKiln$Kiln" "RingKiln$Kiln" "burntHeat" "I") ∈ xWA := xw 138 (by decide +kernel) rfl
theorem xw_141 : (Jvm.Cond.arrayClass Jvm.ClassFile.FieldType.char) ∈ xWA := xw 141 (by decide +kernel) rfl
theorem xw_142 : (Jvm.Cond.arrayClass Jvm.ClassFile.FieldType.int) ∈ xWA := xw 142 (by decide +kernel) rfl
theorem xw_143 : (Jvm.Cond.classLink "RingKiln" (29 : Nat) "RingKiln$History") ∈ xWA := xw 143 (by decide +kernel) rfl
theorem xw_144 : (Jvm.Cond.instantiable "RingKiln$History" (3 : Nat)) ∈ xWA := xw 144 (by decide +kernel) rfl
theorem xw_145 : (Jvm.Cond.methodLink "RingKiln" (31 : Nat) ({ cls := "RingKiln$History", name := "<init>", desc := "()V" } : Jvm.MethodName)) ∈ xWA := xw 145 (by decide +kernel) rfl
theorem xw_146 : (Jvm.Cond.instanceMethod ({ cls := "RingKiln$History", name := "<init>", desc := "()V" } : Jvm.MethodName)) ∈ xWA := xw 146 (by decide +kernel) rfl
theorem xw_147 : (Jvm.Cond.code ({ cls := "RingKiln$History", name := "<init>", desc := "()V" } : Jvm.MethodName) prog_5_method_1_code (2 : Nat) (Option.none : Option Jvm.ClassFile.FieldType)) ∈ xWA := xw 147 (by decide +kernel) rfl
theorem xw_148 : (Jvm.Cond.methodLink "RingKiln$History" (3 : Nat) ({ cls := "java/lang/Object", name := "<init>", desc := "()V" } : Jvm.MethodName)) ∈ xWA := xw 148 (by decide +kernel) rfl
theorem xw_149 : (Jvm.Cond.classLink "RingKiln$History" (11 : Nat) "RingKiln$Kiln") ∈ xWA := xw 149 (by decide +kernel) rfl
theorem xw_151 : (Jvm.Cond.methodLink "RingKiln$History" (24 : Nat) ({ cls := "RingKiln$Kiln", name := "<init>", desc := "()V" } : Jvm.MethodName)) ∈ xWA := xw 151 (by decide +kernel) rfl
theorem xw_152 : (Jvm.Cond.fieldLink "RingKiln$History" (13 : Nat) "RingKiln$History" "states" "[LRingKiln$Kiln;") ∈ xWA := xw 152 (by decide +kernel) rfl
theorem xw_153 : (Jvm.Cond.fieldLink "RingKiln$History" (17 : Nat) "RingKiln$History" "oldest" "I") ∈ xWA := xw 153 (by decide +kernel) rfl
theorem xw_154 : (Jvm.Cond.fieldLink "RingKiln$History" (21 : Nat) "RingKiln$History" "size" "I") ∈ xWA := xw 154 (by decide +kernel) rfl
theorem xw_155 : (Jvm.Cond.laysFinal "RingKiln$History" "RingKiln$History" "states" "[LRingKiln$Kiln;") ∈ xWA := xw 155 (by decide +kernel) rfl
theorem xw_157 : (Jvm.Cond.lays "RingKiln$History" "RingKiln$History" "oldest" "I") ∈ xWA := xw 157 (by decide +kernel) rfl
theorem xw_159 : (Jvm.Cond.lays "RingKiln$History" "RingKiln$History" "size" "I") ∈ xWA := xw 159 (by decide +kernel) rfl
theorem xw_162 : (Jvm.Cond.classLink "RingKiln" (36 : Nat) "RingKiln$Mixer") ∈ xWA := xw 162 (by decide +kernel) rfl
theorem xw_163 : (Jvm.Cond.instantiable "RingKiln$Mixer" (5 : Nat)) ∈ xWA := xw 163 (by decide +kernel) rfl
theorem xw_164 : (Jvm.Cond.methodLink "RingKiln" (38 : Nat) ({ cls := "RingKiln$Mixer", name := "<init>", desc := "()V" } : Jvm.MethodName)) ∈ xWA := xw 164 (by decide +kernel) rfl
theorem xw_165 : (Jvm.Cond.instanceMethod ({ cls := "RingKiln$Mixer", name := "<init>", desc := "()V" } : Jvm.MethodName)) ∈ xWA := xw 165 (by decide +kernel) rfl
theorem xw_166 : (Jvm.Cond.code ({ cls := "RingKiln$Mixer", name := "<init>", desc := "()V" } : Jvm.MethodName) prog_7_method_1_code (1 : Nat) (Option.none : Option Jvm.ClassFile.FieldType)) ∈ xWA := xw 166 (by decide +kernel) rfl
theorem xw_167 : (Jvm.Cond.methodLink "RingKiln$Mixer" (3 : Nat) ({ cls := "java/lang/Object", name := "<init>", desc := "()V" } : Jvm.MethodName)) ∈ xWA := xw 167 (by decide +kernel) rfl
theorem xw_168 : (Jvm.Cond.fieldLink "RingKiln$Mixer" (11 : Nat) "RingKiln$Mixer" "lowest" "[I") ∈ xWA := xw 168 (by decide +kernel) rfl
theorem xw_169 : (Jvm.Cond.fieldLink "RingKiln$Mixer" (15 : Nat) "RingKiln$Mixer" "best" "[I") ∈ xWA := xw 169 (by decide +kernel) rfl
theorem xw_172 : (Jvm.Cond.fieldLink "RingKiln$Mixer" (18 : Nat) "RingKiln$Mixer" "bestCost" "I") ∈ xWA := xw 172 (by decide +kernel) rfl
theorem xw_175 : (Jvm.Cond.fieldLink "RingKiln$Mixer" (22 : Nat) "RingKiln$Mixer" "bestHeat" "I") ∈ xWA := xw 175 (by decide +kernel) rfl
theorem xw_177 : (Jvm.Cond.fieldLink "RingKiln$Mixer" (25 : Nat) "RingKiln$Mixer" "found" "Z") ∈ xWA := xw 177 (by decide +kernel) rfl
theorem xw_178 : (Jvm.Cond.laysFinal "RingKiln$Mixer" "RingKiln$Mixer" "lowest" "[I") ∈ xWA := xw 178 (by decide +kernel) rfl
theorem xw_180 : (Jvm.Cond.laysFinal "RingKiln$Mixer" "RingKiln$Mixer" "best" "[I") ∈ xWA := xw 180 (by decide +kernel) rfl
theorem xw_182 : (Jvm.Cond.lays "RingKiln$Mixer" "RingKiln$Mixer" "bestCost" "I") ∈ xWA := xw 182 (by decide +kernel) rfl
theorem xw_184 : (Jvm.Cond.lays "RingKiln$Mixer" "RingKiln$Mixer" "bestHeat" "I") ∈ xWA := xw 184 (by decide +kernel) rfl
theorem xw_186 : (Jvm.Cond.lays "RingKiln$Mixer" "RingKiln$Mixer" "found" "Z") ∈ xWA := xw 186 (by decide +kernel) rfl
theorem xw_189 : (Jvm.Cond.classLink "RingKiln" (43 : Nat) "RingKiln$Courses") ∈ xWA := xw 189 (by decide +kernel) rfl
theorem xw_190 : (Jvm.Cond.instantiable "RingKiln$Courses" (7 : Nat)) ∈ xWA := xw 190 (by decide +kernel) rfl
theorem xw_191 : (Jvm.Cond.methodLink "RingKiln" (45 : Nat) ({ cls := "RingKiln$Courses", name := "<init>", desc := "()V" } : Jvm.MethodName)) ∈ xWA := xw 191 (by decide +kernel) rfl
theorem xw_192 : (Jvm.Cond.instanceMethod ({ cls := "RingKiln$Courses", name := "<init>", desc := "()V" } : Jvm.MethodName)) ∈ xWA := xw 192 (by decide +kernel) rfl
theorem xw_193 : (Jvm.Cond.code ({ cls := "RingKiln$Courses", name := "<init>", desc := "()V" } : Jvm.MethodName) prog_4_method_1_code (2 : Nat) (Option.none : Option Jvm.ClassFile.FieldType)) ∈ xWA := xw 193 (by decide +kernel) rfl
theorem xw_194 : (Jvm.Cond.methodLink "RingKiln$Courses" (3 : Nat) ({ cls := "java/lang/Object", name := "<init>", desc := "()V" } : Jvm.MethodName)) ∈ xWA := xw 194 (by decide +kernel) rfl
theorem xw_195 : (Jvm.Cond.classLink "RingKiln$Courses" (11 : Nat) "[[I") ∈ xWA := xw 195 (by decide +kernel) rfl
theorem xw_197 : (Jvm.Cond.classLink "RingKiln$Courses" (33 : Nat) "[[J") ∈ xWA := xw 197 (by decide +kernel) rfl
theorem xw_199 : (Jvm.Cond.methodLink "RingKiln$Courses" (38 : Nat) ({ cls := "RingKiln$Courses", name := "addCoursesEndingWith", desc := "(II)V" } : Jvm.MethodName)) ∈ xWA := xw 199 (by decide +kernel) rfl
theorem xw_201 : (Jvm.Cond.instanceMethod ({ cls := "RingKiln$Courses", name := "addCoursesEndingWith", desc := "(II)V" } : Jvm.MethodName)) ∈ xWA := xw 201 (by decide +kernel) rfl
theorem xw_202 : (Jvm.Cond.code ({ cls := "RingKiln$Courses", name := "addCoursesEndingWith", desc := "(II)V" } : Jvm.MethodName) prog_4_method_2_code (6 : Nat) (Option.none : Option Jvm.ClassFile.FieldType)) ∈ xWA := xw 202 (by decide +kernel) rfl
theorem xw_203 : (Jvm.Cond.fieldLink "RingKiln$Courses" (13 : Nat) "RingKiln$Courses" "joints" "[[I") ∈ xWA := xw 203 (by decide +kernel) rfl
theorem xw_204 : (Jvm.Cond.fieldLink "RingKiln$Courses" (16 : Nat) "RingKiln$Courses" "counts" "[I") ∈ xWA := xw 204 (by decide +kernel) rfl
theorem xw_206 : (Jvm.Cond.fieldLink "RingKiln$Courses" (20 : Nat) "RingKiln$Courses" "ways" "[J") ∈ xWA := xw 206 (by decide +kernel) rfl
theorem xw_207 : (Jvm.Cond.fieldLink "RingKiln$Courses" (24 : Nat) "RingKiln$Courses" "waysAbove" "[J") ∈ xWA := xw 207 (by decide +kernel) rfl
theorem xw_208 : (Jvm.Cond.fieldLink "RingKiln$Courses" (27 : Nat) "RingKiln$Courses" "fewest" "[I") ∈ xWA := xw 208 (by decide +kernel) rfl
theorem xw_209 : (Jvm.Cond.fieldLink "RingKiln$Courses" (30 : Nat) "RingKiln$Courses" "fewestAbove" "[I") ∈ xWA := xw 209 (by decide +kernel) rfl
theorem xw_210 : (Jvm.Cond.fieldLink "RingKiln$Courses" (35 : Nat) "RingKiln$Courses" "memory" "[[J") ∈ xWA := xw 210 (by decide +kernel) rfl
theorem xw_211 : (Jvm.Cond.laysFinal "RingKiln$Courses" "RingKiln$Courses" "joints" "[[I") ∈ xWA := xw 211 (by decide +kernel) rfl
theorem xw_213 : (Jvm.Cond.laysFinal "RingKiln$Courses" "RingKiln$Courses" "counts" "[I") ∈ xWA := xw 213 (by decide +kernel) rfl
theorem xw_215 : (Jvm.Cond.lays "RingKiln$Courses" "RingKiln$Courses" "ways" "[J") ∈ xWA := xw 215 (by decide +kernel) rfl
theorem xw_217 : (Jvm.Cond.lays "RingKiln$Courses" "RingKiln$Courses" "waysAbove" "[J") ∈ xWA := xw 217 (by decide +kernel) rfl
theorem xw_219 : (Jvm.Cond.lays "RingKiln$Courses" "RingKiln$Courses" "fewest" "[I") ∈ xWA := xw 219 (by decide +kernel) rfl
theorem xw_221 : (Jvm.Cond.lays "RingKiln$Courses" "RingKiln$Courses" "fewestAbove" "[I") ∈ xWA := xw 221 (by decide +kernel) rfl
theorem xw_223 : (Jvm.Cond.laysFinal "RingKiln$Courses" "RingKiln$Courses" "memory" "[[J") ∈ xWA := xw 223 (by decide +kernel) rfl
theorem xw_226 : (Jvm.Cond.arrayClass Jvm.ClassFile.FieldType.long) ∈ xWA := xw 226 (by decide +kernel) rfl
theorem xw_227 : (Jvm.Cond.classLink "RingKiln" (50 : Nat) "RingKiln$Program") ∈ xWA := xw 227 (by decide +kernel) rfl
theorem xw_228 : (Jvm.Cond.instantiable "RingKiln$Program" (9 : Nat)) ∈ xWA := xw 228 (by decide +kernel) rfl
theorem xw_229 : (Jvm.Cond.methodLink "RingKiln" (52 : Nat) ({ cls := "RingKiln$Program", name := "<init>", desc := "()V" } : Jvm.MethodName)) ∈ xWA := xw 229 (by decide +kernel) rfl
theorem xw_230 : (Jvm.Cond.instanceMethod ({ cls := "RingKiln$Program", name := "<init>", desc := "()V" } : Jvm.MethodName)) ∈ xWA := xw 230 (by decide +kernel) rfl
theorem xw_231 : (Jvm.Cond.code ({ cls := "RingKiln$Program", name := "<init>", desc := "()V" } : Jvm.MethodName) prog_8_method_1_code (1 : Nat) (Option.none : Option Jvm.ClassFile.FieldType)) ∈ xWA := xw 231 (by decide +kernel) rfl
theorem xw_232 : (Jvm.Cond.methodLink "RingKiln$Program" (3 : Nat) ({ cls := "java/lang/Object", name := "<init>", desc := "()V" } : Jvm.MethodName)) ∈ xWA := xw 232 (by decide +kernel) rfl
theorem xw_233 : (Jvm.Cond.classLink "RingKiln$Program" (22 : Nat) "RingKiln$Command") ∈ xWA := xw 233 (by decide +kernel) rfl
theorem xw_235 : (Jvm.Cond.fieldLink "RingKiln$Program" (9 : Nat) "RingKiln$Program" "text" "[C") ∈ xWA := xw 235 (by decide +kernel) rfl
theorem xw_236 : (Jvm.Cond.fieldLink "RingKiln$Program" (15 : Nat) "RingKiln$Program" "length" "I") ∈ xWA := xw 236 (by decide +kernel) rfl
theorem xw_237 : (Jvm.Cond.fieldLink "RingKiln$Program" (19 : Nat) "RingKiln$Program" "position" "I") ∈ xWA := xw 237 (by decide +kernel) rfl
theorem xw_239 : (Jvm.Cond.fieldLink "RingKiln$Program" (24 : Nat) "RingKiln$Program" "commands" "[LRingKiln$Command;") ∈ xWA := xw 239 (by decide +kernel) rfl
theorem xw_241 : (Jvm.Cond.fieldLink "RingKiln$Program" (28 : Nat) "RingKiln$Program" "firsts" "[I") ∈ xWA := xw 241 (by decide +kernel) rfl
theorem xw_243 : (Jvm.Cond.fieldLink "RingKiln$Program" (32 : Nat) "RingKiln$Program" "seconds" "[I") ∈ xWA := xw 243 (by decide +kernel) rfl
theorem xw_245 : (Jvm.Cond.fieldLink "RingKiln$Program" (35 : Nat) "RingKiln$Program" "count" "I") ∈ xWA := xw 245 (by decide +kernel) rfl
theorem xw_247 : (Jvm.Cond.fieldLink "RingKiln$Program" (38 : Nat) "RingKiln$Program" "values" "[I") ∈ xWA := xw 247 (by decide +kernel) rfl
theorem xw_248 : (Jvm.Cond.fieldLink "RingKiln$Program" (41 : Nat) "RingKiln$Program" "valueCount" "I") ∈ xWA := xw 248 (by decide +kernel) rfl
theorem xw_249 : (Jvm.Cond.laysFinal "RingKiln$Program" "RingKiln$Program" "text" "[C") ∈ xWA := xw 249 (by decide +kernel) rfl
theorem xw_251 : (Jvm.Cond.lays "RingKiln$Program" "RingKiln$Program" "length" "I") ∈ xWA := xw 251 (by decide +kernel) rfl
theorem xw_253 : (Jvm.Cond.lays "RingKiln$Program" "RingKiln$Program" "position" "I") ∈ xWA := xw 253 (by decide +kernel) rfl
theorem xw_255 : (Jvm.Cond.laysFinal "RingKiln$Program" "RingKiln$Program" "commands" "[LRingKiln$Command;") ∈ xWA := xw 255 (by decide +kernel) rfl
theorem xw_257 : (Jvm.Cond.laysFinal "RingKiln$Program" "RingKiln$Program" "firsts" "[I") ∈ xWA := xw 257 (by decide +kernel) rfl
theorem xw_259 : (Jvm.Cond.laysFinal "RingKiln$Program" "RingKiln$Program" "seconds" "[I") ∈ xWA := xw 259 (by decide +kernel) rfl
theorem xw_261 : (Jvm.Cond.lays "RingKiln$Program" "RingKiln$Program" "count" "I") ∈ xWA := xw 261 (by decide +kernel) rfl
theorem xw_263 : (Jvm.Cond.laysFinal "RingKiln$Program" "RingKiln$Program" "values" "[I") ∈ xWA := xw 263 (by decide +kernel) rfl
theorem xw_265 : (Jvm.Cond.lays "RingKiln$Program" "RingKiln$Program" "valueCount" "I") ∈ xWA := xw 265 (by decide +kernel) rfl
theorem xw_268 : (Jvm.Cond.classLink "RingKiln" (57 : Nat) "java/lang/StringBuilder") ∈ xWA := xw 268 (by decide +kernel) rfl
theorem xw_269 : (Jvm.Cond.instantiable "java/lang/StringBuilder" (4 : Nat)) ∈ xWA := xw 269 (by decide +kernel) rfl
theorem xw_270 : (Jvm.Cond.methodLink "RingKiln" (59 : Nat) ({ cls := "java/lang/StringBuilder", name := "<init>", desc := "()V" } : Jvm.MethodName)) ∈ xWA := xw 270 (by decide +kernel) rfl
theorem xw_271 : (Jvm.Cond.instanceMethod ({ cls := "java/lang/StringBuilder", name := "<init>", desc := "()V" } : Jvm.MethodName)) ∈ xWA := xw 271 (by decide +kernel) rfl
theorem xw_272 : (Jvm.Cond.code ({ cls := "java/lang/StringBuilder", name := "<init>", desc := "()V" } : Jvm.MethodName) prog_28_method_1_code (1 : Nat) (Option.none : Option Jvm.ClassFile.FieldType)) ∈ xWA := xw 272 (by decide +kernel) rfl
theorem xw_273 : (Jvm.Cond.methodLink "java/lang/StringBuilder" (1 : Nat) ({ cls := "java/lang/AbstractStringBuilder", name := "<init>", desc := "(I)V" } : Jvm.MethodName)) ∈ xWA := xw 273 (by decide +kernel) rfl
theorem xw_274 : (Jvm.Cond.instanceMethod ({ cls := "java/lang/AbstractStringBuilder", name := "<init>", desc := "(I)V" } : Jvm.MethodName)) ∈ xWA := xw 274 (by decide +kernel) rfl
theorem xw_275 : (Jvm.Cond.code ({ cls := "java/lang/AbstractStringBuilder", name := "<init>", desc := "(I)V" } : Jvm.MethodName) prog_12_method_2_code (2 : Nat) (Option.none : Option Jvm.ClassFile.FieldType)) ∈ xWA := xw 275 (by decide +kernel) rfl
theorem xw_276 : (Jvm.Cond.methodLink "java/lang/AbstractStringBuilder" (3 : Nat) ({ cls := "java/lang/Object", name := "<init>", desc := "()V" } : Jvm.MethodName)) ∈ xWA := xw 276 (by decide +kernel) rfl
theorem xw_277 : (Jvm.Cond.fieldLink "java/lang/AbstractStringBuilder" (18 : Nat) "java/lang/String" "COMPACT_STRINGS" "Z") ∈ xWA := xw 277 (by decide +kernel) rfl
theorem xw_279 : (Jvm.Cond.methodLink "java/lang/AbstractStringBuilder" (26 : Nat) ({ cls := "java/lang/StringUTF16", name := "newBytesFor", desc := "(I)[B" } : Jvm.MethodName)) ∈ xWA := xw 279 (by decide +kernel) rfl
theorem xw_286 : (Jvm.Cond.fieldLink "java/lang/AbstractStringBuilder" (15 : Nat) "java/lang/AbstractStringBuilder" "value" "[B") ∈ xWA := xw 286 (by decide +kernel) rfl
theorem xw_287 : (Jvm.Cond.fieldLink "java/lang/AbstractStringBuilder" (22 : Nat) "java/lang/AbstractStringBuilder" "coder" "B") ∈ xWA := xw 287 (by decide +kernel) rfl
theorem xw_288 : (Jvm.Cond.fieldLink "java/lang/AbstractStringBuilder" (73 : Nat) "java/lang/AbstractStringBuilder" "maybeLatin1" "Z") ∈ xWA := xw 288 (by decide +kernel) rfl
theorem xw_290 : (Jvm.Cond.fieldLink "java/lang/AbstractStringBuilder" (79 : Nat) "java/lang/AbstractStringBuilder" "count" "I") ∈ xWA := xw 290 (by decide +kernel) rfl
theorem xw_291 : (Jvm.Cond.lays "java/lang/StringBuilder" "java/lang/AbstractStringBuilder" "value" "[B") ∈ xWA := xw 291 (by decide +kernel) rfl
theorem xw_293 : (Jvm.Cond.lays "java/lang/StringBuilder" "java/lang/AbstractStringBuilder" "coder" "B") ∈ xWA := xw 293 (by decide +kernel) rfl
theorem xw_295 : (Jvm.Cond.lays "java/lang/StringBuilder" "java/lang/AbstractStringBuilder" "maybeLatin1" "Z") ∈ xWA := xw 295 (by decide +kernel) rfl
theorem xw_297 : (Jvm.Cond.lays "java/lang/StringBuilder" "java/lang/AbstractStringBuilder" "count" "I") ∈ xWA := xw 297 (by decide +kernel) rfl
theorem xw_299 : (Jvm.Cond.superclass "java/lang/StringBuilder" "java/lang/AbstractStringBuilder") ∈ xWA := xw 299 (by decide +kernel) rfl
theorem xw_300 : (Jvm.Cond.arrayClass Jvm.ClassFile.FieldType.byte) ∈ xWA := xw 300 (by decide +kernel) rfl
theorem xw_301 : (Jvm.Cond.fieldLink "RingKiln" (10 : Nat) "RingKiln" "kiln" "LRingKiln$Kiln;") ∈ xWA := xw 301 (by decide +kernel) rfl
theorem xw_302 : (Jvm.Cond.fieldLink "RingKiln" (16 : Nat) "RingKiln" "before" "LRingKiln$Kiln;") ∈ xWA := xw 302 (by decide +kernel) rfl
theorem xw_303 : (Jvm.Cond.fieldLink "RingKiln" (19 : Nat) "RingKiln" "forecast" "LRingKiln$Kiln;") ∈ xWA := xw 303 (by decide +kernel) rfl
theorem xw_304 : (Jvm.Cond.fieldLink "RingKiln" (22 : Nat) "RingKiln" "saved" "LRingKiln$Kiln;") ∈ xWA := xw 304 (by decide +kernel) rfl
theorem xw_305 : (Jvm.Cond.fieldLink "RingKiln" (25 : Nat) "RingKiln" "hasSaved" "Z") ∈ xWA := xw 305 (by decide +kernel) rfl
theorem xw_306 : (Jvm.Cond.fieldLink "RingKiln" (32 : Nat) "RingKiln" "history" "LRingKiln$History;") ∈ xWA := xw 306 (by decide +kernel) rfl
theorem xw_307 : (Jvm.Cond.fieldLink "RingKiln" (39 : Nat) "RingKiln" "mixer" "LRingKiln$Mixer;") ∈ xWA := xw 307 (by decide +kernel) rfl
theorem xw_308 : (Jvm.Cond.fieldLink "RingKiln" (46 : Nat) "RingKiln" "courseBook" "LRingKiln$Courses;") ∈ xWA := xw 308 (by decide +kernel) rfl
theorem xw_309 : (Jvm.Cond.fieldLink "RingKiln" (53 : Nat) "RingKiln" "program" "LRingKiln$Program;") ∈ xWA := xw 309 (by decide +kernel) rfl
theorem xw_310 : (Jvm.Cond.fieldLink "RingKiln" (60 : Nat) "RingKiln" "line" "Ljava/lang/StringBuilder;") ∈ xWA := xw 310 (by decide +kernel) rfl
theorem xw_311 : (Jvm.Cond.fieldLink "RingKiln" (64 : Nat) "RingKiln" "lastErrorPosition" "I") ∈ xWA := xw 311 (by decide +kernel) rfl
theorem xw_312 : (Jvm.Cond.fieldLink "RingKiln" (68 : Nat) "RingKiln" "lastFailedCommand" "I") ∈ xWA := xw 312 (by decide +kernel) rfl
theorem xw_313 : (Jvm.Cond.laysFinal "RingKiln" "RingKiln" "kiln" "LRingKiln$Kiln;") ∈ xWA := xw 313 (by decide +kernel) rfl
theorem xw_315 : (Jvm.Cond.laysFinal "RingKiln" "RingKiln" "before" "LRingKiln$Kiln;") ∈ xWA := xw 315 (by decide +kernel) rfl
theorem xw_317 : (Jvm.Cond.laysFinal "RingKiln" "RingKiln" "forecast" "LRingKiln$Kiln;") ∈ xWA := xw 317 (by decide +kernel) rfl
theorem xw_319 : (Jvm.Cond.laysFinal "RingKiln" "RingKiln" "saved" "LRingKiln$Kiln;") ∈ xWA := xw 319 (by decide +kernel) rfl
theorem xw_321 : (Jvm.Cond.lays "RingKiln" "RingKiln" "hasSaved" "Z") ∈ xWA := xw 321 (by decide +kernel) rfl
theorem xw_323 : (Jvm.Cond.laysFinal "RingKiln" "RingKiln" "history" "LRingKiln$History;") ∈ xWA := xw 323 (by decide +kernel) rfl
theorem xw_325 : (Jvm.Cond.laysFinal "RingKiln" "RingKiln" "mixer" "LRingKiln$Mixer;") ∈ xWA := xw 325 (by decide +kernel) rfl
theorem xw_327 : (Jvm.Cond.laysFinal "RingKiln" "RingKiln" "courseBook" "LRingKiln$Courses;") ∈ xWA := xw 327 (by decide +kernel) rfl
theorem xw_329 : (Jvm.Cond.laysFinal "RingKiln" "RingKiln" "program" "LRingKiln$Program;") ∈ xWA := xw 329 (by decide +kernel) rfl
theorem xw_331 : (Jvm.Cond.laysFinal "RingKiln" "RingKiln" "line" "Ljava/lang/StringBuilder;") ∈ xWA := xw 331 (by decide +kernel) rfl
theorem xw_333 : (Jvm.Cond.lays "RingKiln" "RingKiln" "lastErrorPosition" "I") ∈ xWA := xw 333 (by decide +kernel) rfl
theorem xw_335 : (Jvm.Cond.lays "RingKiln" "RingKiln" "lastFailedCommand" "I") ∈ xWA := xw 335 (by decide +kernel) rfl
theorem xw_338 : (Jvm.Cond.methodLink "RingKilnLaw" (114 : Nat) ({ cls := "RingKiln", name := "save", desc := "()V" } : Jvm.MethodName)) ∈ xWA := xw 338 (by decide +kernel) rfl
theorem xw_339 : (Jvm.Cond.instanceMethod ({ cls := "RingKiln", name := "save", desc := "()V" } : Jvm.MethodName)) ∈ xWA := xw 339 (by decide +kernel) rfl
theorem xw_340 : (Jvm.Cond.selects "RingKiln" ({ cls := "RingKiln", name := "save", desc := "()V" } : Jvm.MethodName) ({ cls := "RingKiln", name := "save", desc := "()V" } : Jvm.MethodName)) ∈ xWA := xw 340 (by decide +kernel) rfl
theorem xw_341 : (Jvm.Cond.code ({ cls := "RingKiln", name := "save", desc := "()V" } : Jvm.MethodName) prog_1_method_50_code (1 : Nat) (Option.none : Option Jvm.ClassFile.FieldType)) ∈ xWA := xw 341 (by decide +kernel) rfl
theorem xw_342 : (Jvm.Cond.methodLink "RingKiln" (150 : Nat) ({ cls := "RingKiln$Kiln", name := "copyFrom", desc := "(LRingKiln$Kiln;)V" } : Jvm.MethodName)) ∈ xWA := xw 342 (by decide +kernel) rfl
theorem xw_343 : (Jvm.Cond.instanceMethod ({ cls := "RingKiln$Kiln", name := "copyFrom", desc := "(LRingKiln$Kiln;)V" } : Jvm.MethodName)) ∈ xWA := xw 343 (by decide +kernel) rfl
theorem xw_344 : (Jvm.Cond.selects "RingKiln$Kiln" ({ cls := "RingKiln$Kiln", name := "copyFrom", desc := "(LRingKiln$Kiln;)V" } : Jvm.MethodName) ({ cls := "RingKiln$Kiln", name := "copyFrom", desc := "(LRingKiln$Kiln;)V" } : Jvm.MethodName)) ∈ xWA := xw 344 (by decide +kernel) rfl
theorem xw_345 : (Jvm.Cond.code ({ cls := "RingKiln$Kiln", name := "copyFrom", desc := "(LRingKiln$Kiln;)V" } : Jvm.MethodName) prog_6_method_2_code (2 : Nat) (Option.none : Option Jvm.ClassFile.FieldType)) ∈ xWA := xw 345 (by decide +kernel) rfl
theorem xw_346 : (Jvm.Cond.methodLink "RingKiln$Kiln" (65 : Nat) ({ cls := "java/lang/System", name := "arraycopy", desc := "(Ljava/lang/Object;ILjava/lang/Object;II)V" } : Jvm.MethodName)) ∈ xWA := xw 346 (by decide +kernel) rfl
theorem xw_347 : (Jvm.Cond.static ({ cls := "java/lang/System", name := "arraycopy", desc := "(Ljava/lang/Object;ILjava/lang/Object;II)V" } : Jvm.MethodName)) ∈ xWA := xw 347 (by decide +kernel) rfl
theorem xw_348 : (Jvm.Cond.native ({ cls := "java/lang/System", name := "arraycopy", desc := "(Ljava/lang/Object;ILjava/lang/Object;II)V" } : Jvm.MethodName)) ∈ xWA := xw 348 (by decide +kernel) rfl
theorem xw_349 : (Jvm.Cond.methodLink "RingKilnLaw" (287 : Nat) ({ cls := "RingKilnLaw", name := "cell", desc := "([II)I" } : Jvm.MethodName)) ∈ xWA := xw 349 (by decide +kernel) rfl
theorem xw_350 : (Jvm.Cond.static ({ cls := "RingKilnLaw", name := "cell", desc := "([II)I" } : Jvm.MethodName)) ∈ xWA := xw 350 (by decide +kernel) rfl
theorem xw_351 : (Jvm.Cond.code ({ cls := "RingKilnLaw", name := "cell", desc := "([II)I" } : Jvm.MethodName) method_2_code (2 : Nat) (Option.some Jvm.ClassFile.FieldType.int)) ∈ xWA := xw 351 (by decide +kernel) rfl
theorem xw_352 : (Jvm.Cond.constant "RingKilnLaw" (7 : Nat) (65535 : Int32)) ∈ xWA := xw 352 (by decide +kernel) rfl
theorem xw_353 : (Jvm.Cond.methodLink "RingKilnLaw" (122 : Nat) ({ cls := "RingKilnLaw", name := "load", desc := "(LRingKiln;II)I" } : Jvm.MethodName)) ∈ xWA := xw 353 (by decide +kernel) rfl
theorem xw_354 : (Jvm.Cond.static ({ cls := "RingKilnLaw", name := "load", desc := "(LRingKiln;II)I" } : Jvm.MethodName)) ∈ xWA := xw 354 (by decide +kernel) rfl
theorem xw_355 : (Jvm.Cond.codeWith ({ cls := "RingKilnLaw", name := "load", desc := "(LRingKiln;II)I" } : Jvm.MethodName) method_3_code (5 : Nat) (Option.some Jvm.ClassFile.FieldType.int) [((3 : Nat), (10 : Nat), (13 : Nat), (17 : Nat)), ((3 : Nat), (10 : Nat), (18 : Nat), (19 : Nat)), ((3 : Nat), (10 : Nat), (23 : Nat), (21 : Nat)), ((3 : Nat), (10 : Nat), (28 : Nat), (23 : Nat))]) ∈ xWA := xw 355 (by decide +kernel) rfl
theorem xw_356 : (Jvm.Cond.classLink "RingKilnLaw" (17 : Nat) "java/lang/IndexOutOfBoundsException") ∈ xWA := xw 356 (by decide +kernel) rfl
theorem xw_435 : (Jvm.Cond.classLink "RingKilnLaw" (19 : Nat) "java/lang/IllegalArgumentException") ∈ xWA := xw 435 (by decide +kernel) rfl
theorem xw_436 : (Jvm.Cond.classLink "RingKilnLaw" (21 : Nat) "java/lang/IllegalStateException") ∈ xWA := xw 436 (by decide +kernel) rfl
theorem xw_437 : (Jvm.Cond.classLink "RingKilnLaw" (23 : Nat) "java/lang/UnsupportedOperationException") ∈ xWA := xw 437 (by decide +kernel) rfl
theorem xw_438 : (Jvm.Cond.constant "RingKilnLaw" (10 : Nat) (-100000000 : Int32)) ∈ xWA := xw 438 (by decide +kernel) rfl
theorem xw_439 : (Jvm.Cond.methodLink "RingKilnLaw" (11 : Nat) ({ cls := "RingKiln", name := "load", desc := "(II)I" } : Jvm.MethodName)) ∈ xWA := xw 439 (by decide +kernel) rfl
theorem xw_440 : (Jvm.Cond.instanceMethod ({ cls := "RingKiln", name := "load", desc := "(II)I" } : Jvm.MethodName)) ∈ xWA := xw 440 (by decide +kernel) rfl
theorem xw_441 : (Jvm.Cond.selects "RingKiln" ({ cls := "RingKiln", name := "load", desc := "(II)I" } : Jvm.MethodName) ({ cls := "RingKiln", name := "load", desc := "(II)I" } : Jvm.MethodName)) ∈ xWA := xw 441 (by decide +kernel) rfl
theorem xw_442 : (Jvm.Cond.code ({ cls := "RingKiln", name := "load", desc := "(II)I" } : Jvm.MethodName) prog_1_method_2_code (3 : Nat) (Option.some Jvm.ClassFile.FieldType.int)) ∈ xWA := xw 442 (by decide +kernel) rfl
theorem xw_443 : (Jvm.Cond.fieldLink "RingKiln" (71 : Nat) "RingKiln$Command" "LOAD" "LRingKiln$Command;") ∈ xWA := xw 443 (by decide +kernel) rfl
theorem xw_445 : (Jvm.Cond.methodLink "RingKiln" (77 : Nat) ({ cls := "RingKiln", name := "change", desc := "(LRingKiln$Command;II)I" } : Jvm.MethodName)) ∈ xWA := xw 445 (by decide +kernel) rfl
theorem xw_447 : (Jvm.Cond.instanceMethod ({ cls := "RingKiln", name := "change", desc := "(LRingKiln$Command;II)I" } : Jvm.MethodName)) ∈ xWA := xw 447 (by decide +kernel) rfl
theorem xw_448 : (Jvm.Cond.code ({ cls := "RingKiln", name := "change", desc := "(LRingKiln$Command;II)I" } : Jvm.MethodName) prog_1_method_60_code (5 : Nat) (Option.some Jvm.ClassFile.FieldType.int)) ∈ xWA := xw 448 (by decide +kernel) rfl
theorem xw_449 : (Jvm.Cond.methodLink "RingKiln" (340 : Nat) ({ cls := "RingKiln", name := "carryOut", desc := "(LRingKiln$Command;II)I" } : Jvm.MethodName)) ∈ xWA := xw 449 (by decide +kernel) rfl
theorem xw_451 : (Jvm.Cond.instanceMethod ({ cls := "RingKiln", name := "carryOut", desc := "(LRingKiln$Command;II)I" } : Jvm.MethodName)) ∈ xWA := xw 451 (by decide +kernel) rfl
theorem xw_452 : (Jvm.Cond.code ({ cls := "RingKiln", name := "carryOut", desc := "(LRingKiln$Command;II)I" } : Jvm.MethodName) prog_1_method_61_code (4 : Nat) (Option.some Jvm.ClassFile.FieldType.int)) ∈ xWA := xw 452 (by decide +kernel) rfl
theorem xw_453 : (Jvm.Cond.fieldLink "RingKiln" (343 : Nat) "RingKiln$1" "$SwitchMap$RingKiln$Command" "[I") ∈ xWA := xw 453 (by decide +kernel) rfl
theorem xw_455 : (Jvm.Cond.methodLink "RingKiln" (348 : Nat) ({ cls := "RingKiln$Command", name := "ordinal", desc := "()I" } : Jvm.MethodName)) ∈ xWA := xw 455 (by decide +kernel) rfl
theorem xw_456 : (Jvm.Cond.sameMethod "RingKiln$Command" "java/lang/Enum" "ordinal" "()I") ∈ xWA := xw 456 (by decide +kernel) rfl
theorem xw_458 : (Jvm.Cond.selects "RingKiln$Command" ({ cls := "RingKiln$Command", name := "ordinal", desc := "()I" } : Jvm.MethodName) ({ cls := "java/lang/Enum", name := "ordinal", desc := "()I" } : Jvm.MethodName)) ∈ xWA := xw 458 (by decide +kernel) rfl
theorem xw_459 : (Jvm.Cond.instanceMethod ({ cls := "java/lang/Enum", name := "ordinal", desc := "()I" } : Jvm.MethodName)) ∈ xWA := xw 459 (by decide +kernel) rfl
theorem xw_460 : (Jvm.Cond.code ({ cls := "java/lang/Enum", name := "ordinal", desc := "()I" } : Jvm.MethodName) prog_18_method_2_code (1 : Nat) (Option.some Jvm.ClassFile.FieldType.int)) ∈ xWA := xw 460 (by decide +kernel) rfl
theorem xw_461 : (Jvm.Cond.methodLink "RingKiln" (351 : Nat) ({ cls := "RingKiln$Kiln", name := "fillChamber", desc := "(II)I" } : Jvm.MethodName)) ∈ xWA := xw 461 (by decide +kernel) rfl
theorem xw_462 : (Jvm.Cond.instanceMethod ({ cls := "RingKiln$Kiln", name := "fillChamber", desc := "(II)I" } : Jvm.MethodName)) ∈ xWA := xw 462 (by decide +kernel) rfl
theorem xw_463 : (Jvm.Cond.selects "RingKiln$Kiln" ({ cls := "RingKiln$Kiln", name := "fillChamber", desc := "(II)I" } : Jvm.MethodName) ({ cls := "RingKiln$Kiln", name := "fillChamber", desc := "(II)I" } : Jvm.MethodName)) ∈ xWA := xw 463 (by decide +kernel) rfl
theorem xw_464 : (Jvm.Cond.code ({ cls := "RingKiln$Kiln", name := "fillChamber", desc := "(II)I" } : Jvm.MethodName) prog_6_method_12_code (3 : Nat) (Option.some Jvm.ClassFile.FieldType.int)) ∈ xWA := xw 464 (by decide +kernel) rfl
theorem xw_466 : (Jvm.Cond.static ({ cls := "RingKiln", name := "isChamber", desc := "(I)Z" } : Jvm.MethodName)) ∈ xWA := xw 466 (by decide +kernel) rfl
theorem xw_467 : (Jvm.Cond.code ({ cls := "RingKiln", name := "isChamber", desc := "(I)Z" } : Jvm.MethodName) prog_1_method_56_code (1 : Nat) (Option.some Jvm.ClassFile.FieldType.boolean)) ∈ xWA := xw 467 (by decide +kernel) rfl
theorem xw_468 : (Jvm.Cond.methodLink "RingKiln" (312 : Nat) ({ cls := "RingKiln", name := "isOutside", desc := "(III)Z" } : Jvm.MethodName)) ∈ xWA := xw 468 (by decide +kernel) rfl
theorem xw_469 : (Jvm.Cond.static ({ cls := "RingKiln", name := "isOutside", desc := "(III)Z" } : Jvm.MethodName)) ∈ xWA := xw 469 (by decide +kernel) rfl
theorem xw_470 : (Jvm.Cond.code ({ cls := "RingKiln", name := "isOutside", desc := "(III)Z" } : Jvm.MethodName) prog_1_method_52_code (3 : Nat) (Option.some Jvm.ClassFile.FieldType.boolean)) ∈ xWA := xw 470 (by decide +kernel) rfl
theorem xw_472 : (Jvm.Cond.methodLink "RingKiln$Kiln" (96 : Nat) ({ cls := "RingKiln$Kiln", name := "isCool", desc := "(I)Z" } : Jvm.MethodName)) ∈ xWA := xw 472 (by decide +kernel) rfl
theorem xw_474 : (Jvm.Cond.instanceMethod ({ cls := "RingKiln$Kiln", name := "isCool", desc := "(I)Z" } : Jvm.MethodName)) ∈ xWA := xw 474 (by decide +kernel) rfl
theorem xw_475 : (Jvm.Cond.code ({ cls := "RingKiln$Kiln", name := "isCool", desc := "(I)Z" } : Jvm.MethodName) prog_6_method_4_code (2 : Nat) (Option.some Jvm.ClassFile.FieldType.boolean)) ∈ xWA := xw 475 (by decide +kernel) rfl
theorem xw_476 : (Jvm.Cond.methodLink "RingKiln$Kiln" (99 : Nat) ({ cls := "RingKiln$Kiln", name := "countIn", desc := "(C)I" } : Jvm.MethodName)) ∈ xWA := xw 476 (by decide +kernel) rfl
theorem xw_477 : (Jvm.Cond.instanceMethod ({ cls := "RingKiln$Kiln", name := "countIn", desc := "(C)I" } : Jvm.MethodName)) ∈ xWA := xw 477 (by decide +kernel) rfl
theorem xw_478 : (Jvm.Cond.selects "RingKiln$Kiln" ({ cls := "RingKiln$Kiln", name := "countIn", desc := "(C)I" } : Jvm.MethodName) ({ cls := "RingKiln$Kiln", name := "countIn", desc := "(C)I" } : Jvm.MethodName)) ∈ xWA := xw 478 (by decide +kernel) rfl
theorem xw_479 : (Jvm.Cond.code ({ cls := "RingKiln$Kiln", name := "countIn", desc := "(C)I" } : Jvm.MethodName) prog_6_method_5_code (7 : Nat) (Option.some Jvm.ClassFile.FieldType.int)) ∈ xWA := xw 479 (by decide +kernel) rfl
theorem xw_480 : (Jvm.Cond.methodLink "RingKiln" (354 : Nat) ({ cls := "RingKiln$Kiln", name := "emptyChamber", desc := "(I)I" } : Jvm.MethodName)) ∈ xWA := xw 480 (by decide +kernel) rfl
theorem xw_481 : (Jvm.Cond.instanceMethod ({ cls := "RingKiln$Kiln", name := "emptyChamber", desc := "(I)I" } : Jvm.MethodName)) ∈ xWA := xw 481 (by decide +kernel) rfl
theorem xw_482 : (Jvm.Cond.selects "RingKiln$Kiln" ({ cls := "RingKiln$Kiln", name := "emptyChamber", desc := "(I)I" } : Jvm.MethodName) ({ cls := "RingKiln$Kiln", name := "emptyChamber", desc := "(I)I" } : Jvm.MethodName)) ∈ xWA := xw 482 (by decide +kernel) rfl
theorem xw_483 : (Jvm.Cond.code ({ cls := "RingKiln$Kiln", name := "emptyChamber", desc := "(I)I" } : Jvm.MethodName) prog_6_method_13_code (2 : Nat) (Option.some Jvm.ClassFile.FieldType.int)) ∈ xWA := xw 483 (by decide +kernel) rfl
theorem xw_484 : (Jvm.Cond.methodLink "RingKiln" (357 : Nat) ({ cls := "RingKiln$Kiln", name := "lightFire", desc := "(I)I" } : Jvm.MethodName)) ∈ xWA := xw 484 (by decide +kernel) rfl
theorem xw_485 : (Jvm.Cond.instanceMethod ({ cls := "RingKiln$Kiln", name := "lightFire", desc := "(I)I" } : Jvm.MethodName)) ∈ xWA := xw 485 (by decide +kernel) rfl
theorem xw_486 : (Jvm.Cond.selects "RingKiln$Kiln" ({ cls := "RingKiln$Kiln", name := "lightFire", desc := "(I)I" } : Jvm.MethodName) ({ cls := "RingKiln$Kiln", name := "lightFire", desc := "(I)I" } : Jvm.MethodName)) ∈ xWA := xw 486 (by decide +kernel) rfl
theorem xw_487 : (Jvm.Cond.code ({ cls := "RingKiln$Kiln", name := "lightFire", desc := "(I)I" } : Jvm.MethodName) prog_6_method_14_code (2 : Nat) (Option.some Jvm.ClassFile.FieldType.int)) ∈ xWA := xw 487 (by decide +kernel) rfl
theorem xw_488 : (Jvm.Cond.methodLink "RingKiln$Kiln" (103 : Nat) ({ cls := "RingKiln$Kiln", name := "fireIsLit", desc := "()Z" } : Jvm.MethodName)) ∈ xWA := xw 488 (by decide +kernel) rfl
theorem xw_489 : (Jvm.Cond.instanceMethod ({ cls := "RingKiln$Kiln", name := "fireIsLit", desc := "()Z" } : Jvm.MethodName)) ∈ xWA := xw 489 (by decide +kernel) rfl
theorem xw_490 : (Jvm.Cond.selects "RingKiln$Kiln" ({ cls := "RingKiln$Kiln", name := "fireIsLit", desc := "()Z" } : Jvm.MethodName) ({ cls := "RingKiln$Kiln", name := "fireIsLit", desc := "()Z" } : Jvm.MethodName)) ∈ xWA := xw 490 (by decide +kernel) rfl
theorem xw_491 : (Jvm.Cond.code ({ cls := "RingKiln$Kiln", name := "fireIsLit", desc := "()Z" } : Jvm.MethodName) prog_6_method_3_code (1 : Nat) (Option.some Jvm.ClassFile.FieldType.boolean)) ∈ xWA := xw 491 (by decide +kernel) rfl
theorem xw_492 : (Jvm.Cond.methodLink "RingKiln" (360 : Nat) ({ cls := "RingKiln$Kiln", name := "putFireOut", desc := "()I" } : Jvm.MethodName)) ∈ xWA := xw 492 (by decide +kernel) rfl
theorem xw_493 : (Jvm.Cond.instanceMethod ({ cls := "RingKiln$Kiln", name := "putFireOut", desc := "()I" } : Jvm.MethodName)) ∈ xWA := xw 493 (by decide +kernel) rfl
theorem xw_494 : (Jvm.Cond.selects "RingKiln$Kiln" ({ cls := "RingKiln$Kiln", name := "putFireOut", desc := "()I" } : Jvm.MethodName) ({ cls := "RingKiln$Kiln", name := "putFireOut", desc := "()I" } : Jvm.MethodName)) ∈ xWA := xw 494 (by decide +kernel) rfl
theorem xw_495 : (Jvm.Cond.code ({ cls := "RingKiln$Kiln", name := "putFireOut", desc := "()I" } : Jvm.MethodName) prog_6_method_15_code (2 : Nat) (Option.some Jvm.ClassFile.FieldType.int)) ∈ xWA := xw 495 (by decide +kernel) rfl
theorem xw_496 : (Jvm.Cond.methodLink "RingKiln" (363 : Nat) ({ cls := "RingKiln$Kiln", name := "changeDraught", desc := "(I)I" } : Jvm.MethodName)) ∈ xWA := xw 496 (by decide +kernel) rfl
theorem xw_497 : (Jvm.Cond.instanceMethod ({ cls := "RingKiln$Kiln", name := "changeDraught", desc := "(I)I" } : Jvm.MethodName)) ∈ xWA := xw 497 (by decide +kernel) rfl
theorem xw_498 : (Jvm.Cond.selects "RingKiln$Kiln" ({ cls := "RingKiln$Kiln", name := "changeDraught", desc := "(I)I" } : Jvm.MethodName) ({ cls := "RingKiln$Kiln", name := "changeDraught", desc := "(I)I" } : Jvm.MethodName)) ∈ xWA := xw 498 (by decide +kernel) rfl
theorem xw_499 : (Jvm.Cond.code ({ cls := "RingKiln$Kiln", name := "changeDraught", desc := "(I)I" } : Jvm.MethodName) prog_6_method_16_code (3 : Nat) (Option.some Jvm.ClassFile.FieldType.int)) ∈ xWA := xw 499 (by decide +kernel) rfl
theorem xw_500 : (Jvm.Cond.methodLink "RingKiln" (366 : Nat) ({ cls := "RingKiln$Kiln", name := "addPieces", desc := "(II)I" } : Jvm.MethodName)) ∈ xWA := xw 500 (by decide +kernel) rfl
theorem xw_501 : (Jvm.Cond.instanceMethod ({ cls := "RingKiln$Kiln", name := "addPieces", desc := "(II)I" } : Jvm.MethodName)) ∈ xWA := xw 501 (by decide +kernel) rfl
theorem xw_502 : (Jvm.Cond.selects "RingKiln$Kiln" ({ cls := "RingKiln$Kiln", name := "addPieces", desc := "(II)I" } : Jvm.MethodName) ({ cls := "RingKiln$Kiln", name := "addPieces", desc := "(II)I" } : Jvm.MethodName)) ∈ xWA := xw 502 (by decide +kernel) rfl
theorem xw_503 : (Jvm.Cond.code ({ cls := "RingKiln$Kiln", name := "addPieces", desc := "(II)I" } : Jvm.MethodName) prog_6_method_17_code (4 : Nat) (Option.some Jvm.ClassFile.FieldType.int)) ∈ xWA := xw 503 (by decide +kernel) rfl
theorem xw_505 : (Jvm.Cond.static ({ cls := "RingKiln", name := "kindIndex", desc := "(I)I" } : Jvm.MethodName)) ∈ xWA := xw 505 (by decide +kernel) rfl
theorem xw_506 : (Jvm.Cond.code ({ cls := "RingKiln", name := "kindIndex", desc := "(I)I" } : Jvm.MethodName) prog_1_method_58_code (1 : Nat) (Option.some Jvm.ClassFile.FieldType.int)) ∈ xWA := xw 506 (by decide +kernel) rfl
theorem xw_507 : (Jvm.Cond.methodLink "RingKiln" (369 : Nat) ({ cls := "RingKiln$Kiln", name := "changePrice", desc := "(II)I" } : Jvm.MethodName)) ∈ xWA := xw 507 (by decide +kernel) rfl
theorem xw_508 : (Jvm.Cond.instanceMethod ({ cls := "RingKiln$Kiln", name := "changePrice", desc := "(II)I" } : Jvm.MethodName)) ∈ xWA := xw 508 (by decide +kernel) rfl
theorem xw_509 : (Jvm.Cond.selects "RingKiln$Kiln" ({ cls := "RingKiln$Kiln", name := "changePrice", desc := "(II)I" } : Jvm.MethodName) ({ cls := "RingKiln$Kiln", name := "changePrice", desc := "(II)I" } : Jvm.MethodName)) ∈ xWA := xw 509 (by decide +kernel) rfl
theorem xw_510 : (Jvm.Cond.code ({ cls := "RingKiln$Kiln", name := "changePrice", desc := "(II)I" } : Jvm.MethodName) prog_6_method_18_code (5 : Nat) (Option.some Jvm.ClassFile.FieldType.int)) ∈ xWA := xw 510 (by decide +kernel) rfl
theorem xw_511 : (Jvm.Cond.methodLink "RingKiln" (372 : Nat) ({ cls := "RingKiln$Kiln", name := "burnMixture", desc := "(ILRingKiln$Mixer;)I" } : Jvm.MethodName)) ∈ xWA := xw 511 (by decide +kernel) rfl
theorem xw_512 : (Jvm.Cond.instanceMethod ({ cls := "RingKiln$Kiln", name := "burnMixture", desc := "(ILRingKiln$Mixer;)I" } : Jvm.MethodName)) ∈ xWA := xw 512 (by decide +kernel) rfl
theorem xw_513 : (Jvm.Cond.selects "RingKiln$Kiln" ({ cls := "RingKiln$Kiln", name := "burnMixture", desc := "(ILRingKiln$Mixer;)I" } : Jvm.MethodName) ({ cls := "RingKiln$Kiln", name := "burnMixture", desc := "(ILRingKiln$Mixer;)I" } : Jvm.MethodName)) ∈ xWA := xw 513 (by decide +kernel) rfl
theorem xw_514 : (Jvm.Cond.code ({ cls := "RingKiln$Kiln", name := "burnMixture", desc := "(ILRingKiln$Mixer;)I" } : Jvm.MethodName) prog_6_method_19_code (4 : Nat) (Option.some Jvm.ClassFile.FieldType.int)) ∈ xWA := xw 514 (by decide +kernel) rfl
theorem xw_515 : (Jvm.Cond.methodLink "RingKiln$Kiln" (110 : Nat) ({ cls := "RingKiln$Mixer", name := "findBest", desc := "([I[II)Z" } : Jvm.MethodName)) ∈ xWA := xw 515 (by decide +kernel) rfl
theorem xw_516 : (Jvm.Cond.instanceMethod ({ cls := "RingKiln$Mixer", name := "findBest", desc := "([I[II)Z" } : Jvm.MethodName)) ∈ xWA := xw 516 (by decide +kernel) rfl
theorem xw_517 : (Jvm.Cond.selects "RingKiln$Mixer" ({ cls := "RingKiln$Mixer", name := "findBest", desc := "([I[II)Z" } : Jvm.MethodName) ({ cls := "RingKiln$Mixer", name := "findBest", desc := "([I[II)Z" } : Jvm.MethodName)) ∈ xWA := xw 517 (by decide +kernel) rfl
theorem xw_518 : (Jvm.Cond.code ({ cls := "RingKiln$Mixer", name := "findBest", desc := "([I[II)Z" } : Jvm.MethodName) prog_7_method_4_code (11 : Nat) (Option.some Jvm.ClassFile.FieldType.boolean)) ∈ xWA := xw 518 (by decide +kernel) rfl
theorem xw_521 : (Jvm.Cond.methodLink "RingKiln$Mixer" (43 : Nat) ({ cls := "RingKiln$Mixer", name := "piecesFor", desc := "(II)I" } : Jvm.MethodName)) ∈ xWA := xw 521 (by decide +kernel) rfl
theorem xw_522 : (Jvm.Cond.static ({ cls := "RingKiln$Mixer", name := "piecesFor", desc := "(II)I" } : Jvm.MethodName)) ∈ xWA := xw 522 (by decide +kernel) rfl
theorem xw_523 : (Jvm.Cond.code ({ cls := "RingKiln$Mixer", name := "piecesFor", desc := "(II)I" } : Jvm.MethodName) prog_7_method_5_code (2 : Nat) (Option.some Jvm.ClassFile.FieldType.int)) ∈ xWA := xw 523 (by decide +kernel) rfl
theorem xw_524 : (Jvm.Cond.methodLink "RingKiln$Mixer" (37 : Nat) ({ cls := "java/lang/Math", name := "min", desc := "(II)I" } : Jvm.MethodName)) ∈ xWA := xw 524 (by decide +kernel) rfl
theorem xw_525 : (Jvm.Cond.static ({ cls := "java/lang/Math", name := "min", desc := "(II)I" } : Jvm.MethodName)) ∈ xWA := xw 525 (by decide +kernel) rfl
theorem xw_526 : (Jvm.Cond.code ({ cls := "java/lang/Math", name := "min", desc := "(II)I" } : Jvm.MethodName) prog_24_method_69_code (2 : Nat) (Option.some Jvm.ClassFile.FieldType.int)) ∈ xWA := xw 526 (by decide +kernel) rfl
theorem xw_527 : (Jvm.Cond.methodLink "RingKiln$Mixer" (46 : Nat) ({ cls := "java/lang/Math", name := "max", desc := "(II)I" } : Jvm.MethodName)) ∈ xWA := xw 527 (by decide +kernel) rfl
theorem xw_528 : (Jvm.Cond.static ({ cls := "java/lang/Math", name := "max", desc := "(II)I" } : Jvm.MethodName)) ∈ xWA := xw 528 (by decide +kernel) rfl
theorem xw_529 : (Jvm.Cond.code ({ cls := "java/lang/Math", name := "max", desc := "(II)I" } : Jvm.MethodName) prog_24_method_65_code (2 : Nat) (Option.some Jvm.ClassFile.FieldType.int)) ∈ xWA := xw 529 (by decide +kernel) rfl
theorem xw_530 : (Jvm.Cond.methodLink "RingKiln$Mixer" (49 : Nat) ({ cls := "RingKiln$Mixer", name := "considerMixture", desc := "(III[I)V" } : Jvm.MethodName)) ∈ xWA := xw 530 (by decide +kernel) rfl
theorem xw_532 : (Jvm.Cond.instanceMethod ({ cls := "RingKiln$Mixer", name := "considerMixture", desc := "(III[I)V" } : Jvm.MethodName)) ∈ xWA := xw 532 (by decide +kernel) rfl
theorem xw_533 : (Jvm.Cond.code ({ cls := "RingKiln$Mixer", name := "considerMixture", desc := "(III[I)V" } : Jvm.MethodName) prog_7_method_6_code (7 : Nat) (Option.none : Option Jvm.ClassFile.FieldType)) ∈ xWA := xw 533 (by decide +kernel) rfl
theorem xw_534 : (Jvm.Cond.methodLink "RingKiln$Mixer" (53 : Nat) ({ cls := "RingKiln$Mixer", name := "isBetter", desc := "(IIII)Z" } : Jvm.MethodName)) ∈ xWA := xw 534 (by decide +kernel) rfl
theorem xw_536 : (Jvm.Cond.instanceMethod ({ cls := "RingKiln$Mixer", name := "isBetter", desc := "(IIII)Z" } : Jvm.MethodName)) ∈ xWA := xw 536 (by decide +kernel) rfl
theorem xw_537 : (Jvm.Cond.code ({ cls := "RingKiln$Mixer", name := "isBetter", desc := "(IIII)Z" } : Jvm.MethodName) prog_7_method_7_code (5 : Nat) (Option.some Jvm.ClassFile.FieldType.boolean)) ∈ xWA := xw 537 (by decide +kernel) rfl
theorem xw_538 : (Jvm.Cond.methodLink "RingKiln" (165 : Nat) ({ cls := "RingKiln$Kiln", name := "letHoursPass", desc := "(I)I" } : Jvm.MethodName)) ∈ xWA := xw 538 (by decide +kernel) rfl
theorem xw_539 : (Jvm.Cond.instanceMethod ({ cls := "RingKiln$Kiln", name := "letHoursPass", desc := "(I)I" } : Jvm.MethodName)) ∈ xWA := xw 539 (by decide +kernel) rfl
theorem xw_540 : (Jvm.Cond.selects "RingKiln$Kiln" ({ cls := "RingKiln$Kiln", name := "letHoursPass", desc := "(I)I" } : Jvm.MethodName) ({ cls := "RingKiln$Kiln", name := "letHoursPass", desc := "(I)I" } : Jvm.MethodName)) ∈ xWA := xw 540 (by decide +kernel) rfl
theorem xw_541 : (Jvm.Cond.code ({ cls := "RingKiln$Kiln", name := "letHoursPass", desc := "(I)I" } : Jvm.MethodName) prog_6_method_23_code (4 : Nat) (Option.some Jvm.ClassFile.FieldType.int)) ∈ xWA := xw 541 (by decide +kernel) rfl
theorem xw_542 : (Jvm.Cond.methodLink "RingKiln$Kiln" (131 : Nat) ({ cls := "RingKiln$Kiln", name := "passOneHour", desc := "()V" } : Jvm.MethodName)) ∈ xWA := xw 542 (by decide +kernel) rfl
theorem xw_544 : (Jvm.Cond.instanceMethod ({ cls := "RingKiln$Kiln", name := "passOneHour", desc := "()V" } : Jvm.MethodName)) ∈ xWA := xw 544 (by decide +kernel) rfl
theorem xw_545 : (Jvm.Cond.code ({ cls := "RingKiln$Kiln", name := "passOneHour", desc := "()V" } : Jvm.MethodName) prog_6_method_24_code (1 : Nat) (Option.none : Option Jvm.ClassFile.FieldType)) ∈ xWA := xw 545 (by decide +kernel) rfl
theorem xw_546 : (Jvm.Cond.methodLink "RingKiln$Kiln" (134 : Nat) ({ cls := "RingKiln$Kiln", name := "heatChambers", desc := "()V" } : Jvm.MethodName)) ∈ xWA := xw 546 (by decide +kernel) rfl
theorem xw_548 : (Jvm.Cond.instanceMethod ({ cls := "RingKiln$Kiln", name := "heatChambers", desc := "()V" } : Jvm.MethodName)) ∈ xWA := xw 548 (by decide +kernel) rfl
theorem xw_549 : (Jvm.Cond.code ({ cls := "RingKiln$Kiln", name := "heatChambers", desc := "()V" } : Jvm.MethodName) prog_6_method_25_code (2 : Nat) (Option.none : Option Jvm.ClassFile.FieldType)) ∈ xWA := xw 549 (by decide +kernel) rfl
theorem xw_550 : (Jvm.Cond.methodLink "RingKiln$Kiln" (143 : Nat) ({ cls := "java/lang/Math", name := "min", desc := "(II)I" } : Jvm.MethodName)) ∈ xWA := xw 550 (by decide +kernel) rfl
theorem xw_551 : (Jvm.Cond.methodLink "RingKiln$Kiln" (148 : Nat) ({ cls := "RingKiln$Kiln", name := "chamberAfter", desc := "(I)I" } : Jvm.MethodName)) ∈ xWA := xw 551 (by decide +kernel) rfl
theorem xw_552 : (Jvm.Cond.static ({ cls := "RingKiln$Kiln", name := "chamberAfter", desc := "(I)I" } : Jvm.MethodName)) ∈ xWA := xw 552 (by decide +kernel) rfl
theorem xw_553 : (Jvm.Cond.code ({ cls := "RingKiln$Kiln", name := "chamberAfter", desc := "(I)I" } : Jvm.MethodName) prog_6_method_28_code (1 : Nat) (Option.some Jvm.ClassFile.FieldType.int)) ∈ xWA := xw 553 (by decide +kernel) rfl
theorem xw_554 : (Jvm.Cond.methodLink "RingKiln$Kiln" (137 : Nat) ({ cls := "RingKiln$Kiln", name := "coolChambers", desc := "()V" } : Jvm.MethodName)) ∈ xWA := xw 554 (by decide +kernel) rfl
theorem xw_556 : (Jvm.Cond.instanceMethod ({ cls := "RingKiln$Kiln", name := "coolChambers", desc := "()V" } : Jvm.MethodName)) ∈ xWA := xw 556 (by decide +kernel) rfl
theorem xw_557 : (Jvm.Cond.code ({ cls := "RingKiln$Kiln", name := "coolChambers", desc := "()V" } : Jvm.MethodName) prog_6_method_26_code (4 : Nat) (Option.none : Option Jvm.ClassFile.FieldType)) ∈ xWA := xw 557 (by decide +kernel) rfl
theorem xw_558 : (Jvm.Cond.methodLink "RingKiln$Kiln" (140 : Nat) ({ cls := "RingKiln$Kiln", name := "finishChamber", desc := "()V" } : Jvm.MethodName)) ∈ xWA := xw 558 (by decide +kernel) rfl
theorem xw_560 : (Jvm.Cond.instanceMethod ({ cls := "RingKiln$Kiln", name := "finishChamber", desc := "()V" } : Jvm.MethodName)) ∈ xWA := xw 560 (by decide +kernel) rfl
theorem xw_561 : (Jvm.Cond.code ({ cls := "RingKiln$Kiln", name := "finishChamber", desc := "()V" } : Jvm.MethodName) prog_6_method_27_code (2 : Nat) (Option.none : Option Jvm.ClassFile.FieldType)) ∈ xWA := xw 561 (by decide +kernel) rfl
theorem xw_562 : (Jvm.Cond.methodLink "RingKiln" (376 : Nat) ({ cls := "RingKiln$Kiln", name := "layWall", desc := "(IILRingKiln$Courses;)I" } : Jvm.MethodName)) ∈ xWA := xw 562 (by decide +kernel) rfl
theorem xw_563 : (Jvm.Cond.instanceMethod ({ cls := "RingKiln$Kiln", name := "layWall", desc := "(IILRingKiln$Courses;)I" } : Jvm.MethodName)) ∈ xWA := xw 563 (by decide +kernel) rfl
theorem xw_564 : (Jvm.Cond.selects "RingKiln$Kiln" ({ cls := "RingKiln$Kiln", name := "layWall", desc := "(IILRingKiln$Courses;)I" } : Jvm.MethodName) ({ cls := "RingKiln$Kiln", name := "layWall", desc := "(IILRingKiln$Courses;)I" } : Jvm.MethodName)) ∈ xWA := xw 564 (by decide +kernel) rfl
theorem xw_565 : (Jvm.Cond.code ({ cls := "RingKiln$Kiln", name := "layWall", desc := "(IILRingKiln$Courses;)I" } : Jvm.MethodName) prog_6_method_20_code (5 : Nat) (Option.some Jvm.ClassFile.FieldType.int)) ∈ xWA := xw 565 (by decide +kernel) rfl
theorem xw_566 : (Jvm.Cond.methodLink "RingKiln$Kiln" (125 : Nat) ({ cls := "RingKiln$Courses", name := "leastBricks", desc := "(II)I" } : Jvm.MethodName)) ∈ xWA := xw 566 (by decide +kernel) rfl
theorem xw_567 : (Jvm.Cond.instanceMethod ({ cls := "RingKiln$Courses", name := "leastBricks", desc := "(II)I" } : Jvm.MethodName)) ∈ xWA := xw 567 (by decide +kernel) rfl
theorem xw_568 : (Jvm.Cond.selects "RingKiln$Courses" ({ cls := "RingKiln$Courses", name := "leastBricks", desc := "(II)I" } : Jvm.MethodName) ({ cls := "RingKiln$Courses", name := "leastBricks", desc := "(II)I" } : Jvm.MethodName)) ∈ xWA := xw 568 (by decide +kernel) rfl
theorem xw_569 : (Jvm.Cond.code ({ cls := "RingKiln$Courses", name := "leastBricks", desc := "(II)I" } : Jvm.MethodName) prog_4_method_8_code (6 : Nat) (Option.some Jvm.ClassFile.FieldType.int)) ∈ xWA := xw 569 (by decide +kernel) rfl
theorem xw_570 : (Jvm.Cond.methodLink "RingKiln$Courses" (56 : Nat) ({ cls := "RingKiln$Courses", name := "bricksIn", desc := "(I)I" } : Jvm.MethodName)) ∈ xWA := xw 570 (by decide +kernel) rfl
theorem xw_571 : (Jvm.Cond.static ({ cls := "RingKiln$Courses", name := "bricksIn", desc := "(I)I" } : Jvm.MethodName)) ∈ xWA := xw 571 (by decide +kernel) rfl
theorem xw_572 : (Jvm.Cond.code ({ cls := "RingKiln$Courses", name := "bricksIn", desc := "(I)I" } : Jvm.MethodName) prog_4_method_10_code (1 : Nat) (Option.some Jvm.ClassFile.FieldType.int)) ∈ xWA := xw 572 (by decide +kernel) rfl
theorem xw_573 : (Jvm.Cond.methodLink "RingKiln$Courses" (70 : Nat) ({ cls := "java/lang/Integer", name := "bitCount", desc := "(I)I" } : Jvm.MethodName)) ∈ xWA := xw 573 (by decide +kernel) rfl
theorem xw_574 : (Jvm.Cond.static ({ cls := "java/lang/Integer", name := "bitCount", desc := "(I)I" } : Jvm.MethodName)) ∈ xWA := xw 574 (by decide +kernel) rfl
theorem xw_575 : (Jvm.Cond.code ({ cls := "java/lang/Integer", name := "bitCount", desc := "(I)I" } : Jvm.MethodName) prog_23_method_49_code (1 : Nat) (Option.some Jvm.ClassFile.FieldType.int)) ∈ xWA := xw 575 (by decide +kernel) rfl
theorem xw_576 : (Jvm.Cond.constant "java/lang/Integer" (265 : Nat) (1431655765 : Int32)) ∈ xWA := xw 576 (by decide +kernel) rfl
theorem xw_577 : (Jvm.Cond.constant "java/lang/Integer" (266 : Nat) (858993459 : Int32)) ∈ xWA := xw 577 (by decide +kernel) rfl
theorem xw_578 : (Jvm.Cond.constant "java/lang/Integer" (267 : Nat) (252645135 : Int32)) ∈ xWA := xw 578 (by decide +kernel) rfl
theorem xw_579 : (Jvm.Cond.methodLink "RingKiln$Courses" (60 : Nat) ({ cls := "RingKiln$Courses", name := "addCourseToFewest", desc := "([II)V" } : Jvm.MethodName)) ∈ xWA := xw 579 (by decide +kernel) rfl
theorem xw_581 : (Jvm.Cond.instanceMethod ({ cls := "RingKiln$Courses", name := "addCourseToFewest", desc := "([II)V" } : Jvm.MethodName)) ∈ xWA := xw 581 (by decide +kernel) rfl
theorem xw_582 : (Jvm.Cond.code ({ cls := "RingKiln$Courses", name := "addCourseToFewest", desc := "([II)V" } : Jvm.MethodName) prog_4_method_9_code (6 : Nat) (Option.none : Option Jvm.ClassFile.FieldType)) ∈ xWA := xw 582 (by decide +kernel) rfl
theorem xw_583 : (Jvm.Cond.constant "RingKiln$Courses" (63 : Nat) (1000000 : Int32)) ∈ xWA := xw 583 (by decide +kernel) rfl
theorem xw_584 : (Jvm.Cond.methodLink "RingKiln$Courses" (46 : Nat) ({ cls := "RingKiln$Courses", name := "canLie", desc := "(II)Z" } : Jvm.MethodName)) ∈ xWA := xw 584 (by decide +kernel) rfl
theorem xw_585 : (Jvm.Cond.static ({ cls := "RingKiln$Courses", name := "canLie", desc := "(II)Z" } : Jvm.MethodName)) ∈ xWA := xw 585 (by decide +kernel) rfl
theorem xw_586 : (Jvm.Cond.code ({ cls := "RingKiln$Courses", name := "canLie", desc := "(II)Z" } : Jvm.MethodName) prog_4_method_3_code (2 : Nat) (Option.some Jvm.ClassFile.FieldType.boolean)) ∈ xWA := xw 586 (by decide +kernel) rfl
theorem xw_587 : (Jvm.Cond.methodLink "RingKiln$Courses" (64 : Nat) ({ cls := "java/lang/Math", name := "min", desc := "(II)I" } : Jvm.MethodName)) ∈ xWA := xw 587 (by decide +kernel) rfl
theorem xw_588 : (Jvm.Cond.methodLink "RingKiln" (118 : Nat) ({ cls := "RingKiln", name := "answerOf", desc := "(I)I" } : Jvm.MethodName)) ∈ xWA := xw 588 (by decide +kernel) rfl
theorem xw_589 : (Jvm.Cond.static ({ cls := "RingKiln", name := "answerOf", desc := "(I)I" } : Jvm.MethodName)) ∈ xWA := xw 589 (by decide +kernel) rfl
theorem xw_590 : (Jvm.Cond.code ({ cls := "RingKiln", name := "answerOf", desc := "(I)I" } : Jvm.MethodName) prog_1_method_59_code (1 : Nat) (Option.some Jvm.ClassFile.FieldType.int)) ∈ xWA := xw 590 (by decide +kernel) rfl
theorem xw_591 : (Jvm.Cond.classLink "RingKiln" (291 : Nat) "java/lang/IndexOutOfBoundsException") ∈ xWA := xw 591 (by decide +kernel) rfl
theorem xw_604 : (Jvm.Cond.classLink "RingKiln" (258 : Nat) "java/lang/IllegalArgumentException") ∈ xWA := xw 604 (by decide +kernel) rfl
theorem xw_620 : (Jvm.Cond.classLink "RingKiln" (304 : Nat) "java/lang/IllegalStateException") ∈ xWA := xw 620 (by decide +kernel) rfl
theorem xw_636 : (Jvm.Cond.classLink "RingKiln" (269 : Nat) "java/lang/UnsupportedOperationException") ∈ xWA := xw 636 (by decide +kernel) rfl
theorem xw_652 : (Jvm.Cond.classLink "RingKiln" (335 : Nat) "java/util/NoSuchElementException") ∈ xWA := xw 652 (by decide +kernel) rfl
theorem xw_668 : (Jvm.Cond.methodLink "RingKiln" (274 : Nat) ({ cls := "RingKiln$History", name := "remember", desc := "(LRingKiln$Kiln;)V" } : Jvm.MethodName)) ∈ xWA := xw 668 (by decide +kernel) rfl
theorem xw_669 : (Jvm.Cond.instanceMethod ({ cls := "RingKiln$History", name := "remember", desc := "(LRingKiln$Kiln;)V" } : Jvm.MethodName)) ∈ xWA := xw 669 (by decide +kernel) rfl
theorem xw_670 : (Jvm.Cond.selects "RingKiln$History" ({ cls := "RingKiln$History", name := "remember", desc := "(LRingKiln$Kiln;)V" } : Jvm.MethodName) ({ cls := "RingKiln$History", name := "remember", desc := "(LRingKiln$Kiln;)V" } : Jvm.MethodName)) ∈ xWA := xw 670 (by decide +kernel) rfl
theorem xw_671 : (Jvm.Cond.code ({ cls := "RingKiln$History", name := "remember", desc := "(LRingKiln$Kiln;)V" } : Jvm.MethodName) prog_5_method_2_code (2 : Nat) (Option.none : Option Jvm.ClassFile.FieldType)) ∈ xWA := xw 671 (by decide +kernel) rfl
theorem xw_672 : (Jvm.Cond.methodLink "RingKiln$History" (25 : Nat) ({ cls := "RingKiln$Kiln", name := "copyFrom", desc := "(LRingKiln$Kiln;)V" } : Jvm.MethodName)) ∈ xWA := xw 672 (by decide +kernel) rfl
theorem xw_673 : (Jvm.Cond.methodLink "RingKilnLaw" (128 : Nat) ({ cls := "RingKilnLaw", name := "light", desc := "(LRingKiln;I)I" } : Jvm.MethodName)) ∈ xWA := xw 673 (by decide +kernel) rfl
theorem xw_674 : (Jvm.Cond.static ({ cls := "RingKilnLaw", name := "light", desc := "(LRingKiln;I)I" } : Jvm.MethodName)) ∈ xWA := xw 674 (by decide +kernel) rfl
theorem xw_675 : (Jvm.Cond.codeWith ({ cls := "RingKilnLaw", name := "light", desc := "(LRingKiln;I)I" } : Jvm.MethodName) method_5_code (4 : Nat) (Option.some Jvm.ClassFile.FieldType.int) [((3 : Nat), (9 : Nat), (12 : Nat), (17 : Nat)), ((3 : Nat), (9 : Nat), (16 : Nat), (21 : Nat)), ((3 : Nat), (9 : Nat), (20 : Nat), (23 : Nat))]) ∈ xWA := xw 675 (by decide +kernel) rfl
theorem xw_676 : (Jvm.Cond.methodLink "RingKilnLaw" (29 : Nat) ({ cls := "RingKiln", name := "light", desc := "(I)I" } : Jvm.MethodName)) ∈ xWA := xw 676 (by decide +kernel) rfl
theorem xw_677 : (Jvm.Cond.instanceMethod ({ cls := "RingKiln", name := "light", desc := "(I)I" } : Jvm.MethodName)) ∈ xWA := xw 677 (by decide +kernel) rfl
theorem xw_678 : (Jvm.Cond.selects "RingKiln" ({ cls := "RingKiln", name := "light", desc := "(I)I" } : Jvm.MethodName) ({ cls := "RingKiln", name := "light", desc := "(I)I" } : Jvm.MethodName)) ∈ xWA := xw 678 (by decide +kernel) rfl
theorem xw_679 : (Jvm.Cond.code ({ cls := "RingKiln", name := "light", desc := "(I)I" } : Jvm.MethodName) prog_1_method_4_code (2 : Nat) (Option.some Jvm.ClassFile.FieldType.int)) ∈ xWA := xw 679 (by decide +kernel) rfl
theorem xw_680 : (Jvm.Cond.fieldLink "RingKiln" (84 : Nat) "RingKiln$Command" "LIGHT" "LRingKiln$Command;") ∈ xWA := xw 680 (by decide +kernel) rfl
theorem xw_682 : (Jvm.Cond.methodLink "RingKilnLaw" (138 : Nat) ({ cls := "RingKilnLaw", name := "addFuel", desc := "(LRingKiln;CI)I" } : Jvm.MethodName)) ∈ xWA := xw 682 (by decide +kernel) rfl
theorem xw_683 : (Jvm.Cond.static ({ cls := "RingKilnLaw", name := "addFuel", desc := "(LRingKiln;CI)I" } : Jvm.MethodName)) ∈ xWA := xw 683 (by decide +kernel) rfl
theorem xw_684 : (Jvm.Cond.codeWith ({ cls := "RingKilnLaw", name := "addFuel", desc := "(LRingKiln;CI)I" } : Jvm.MethodName) method_9_code (5 : Nat) (Option.some Jvm.ClassFile.FieldType.int) [((3 : Nat), (10 : Nat), (13 : Nat), (19 : Nat)), ((3 : Nat), (10 : Nat), (18 : Nat), (21 : Nat))]) ∈ xWA := xw 684 (by decide +kernel) rfl
theorem xw_685 : (Jvm.Cond.methodLink "RingKilnLaw" (42 : Nat) ({ cls := "RingKiln", name := "addFuel", desc := "(CI)I" } : Jvm.MethodName)) ∈ xWA := xw 685 (by decide +kernel) rfl
theorem xw_686 : (Jvm.Cond.instanceMethod ({ cls := "RingKiln", name := "addFuel", desc := "(CI)I" } : Jvm.MethodName)) ∈ xWA := xw 686 (by decide +kernel) rfl
theorem xw_687 : (Jvm.Cond.selects "RingKiln" ({ cls := "RingKiln", name := "addFuel", desc := "(CI)I" } : Jvm.MethodName) ({ cls := "RingKiln", name := "addFuel", desc := "(CI)I" } : Jvm.MethodName)) ∈ xWA := xw 687 (by decide +kernel) rfl
theorem xw_688 : (Jvm.Cond.code ({ cls := "RingKiln", name := "addFuel", desc := "(CI)I" } : Jvm.MethodName) prog_1_method_8_code (3 : Nat) (Option.some Jvm.ClassFile.FieldType.int)) ∈ xWA := xw 688 (by decide +kernel) rfl
theorem xw_689 : (Jvm.Cond.fieldLink "RingKiln" (96 : Nat) "RingKiln$Command" "FUEL" "LRingKiln$Command;") ∈ xWA := xw 689 (by decide +kernel) rfl
theorem xw_691 : (Jvm.Cond.methodLink "RingKilnLaw" (140 : Nat) ({ cls := "RingKilnLaw", name := "feed", desc := "(LRingKiln;I)I" } : Jvm.MethodName)) ∈ xWA := xw 691 (by decide +kernel) rfl
theorem xw_692 : (Jvm.Cond.static ({ cls := "RingKilnLaw", name := "feed", desc := "(LRingKiln;I)I" } : Jvm.MethodName)) ∈ xWA := xw 692 (by decide +kernel) rfl
theorem xw_693 : (Jvm.Cond.codeWith ({ cls := "RingKilnLaw", name := "feed", desc := "(LRingKiln;I)I" } : Jvm.MethodName) method_11_code (4 : Nat) (Option.some Jvm.ClassFile.FieldType.int) [((3 : Nat), (9 : Nat), (12 : Nat), (19 : Nat)), ((3 : Nat), (9 : Nat), (16 : Nat), (23 : Nat)), ((3 : Nat), (9 : Nat), (20 : Nat), (21 : Nat))]) ∈ xWA := xw 693 (by decide +kernel) rfl
theorem xw_694 : (Jvm.Cond.methodLink "RingKilnLaw" (49 : Nat) ({ cls := "RingKiln", name := "feed", desc := "(I)I" } : Jvm.MethodName)) ∈ xWA := xw 694 (by decide +kernel) rfl
theorem xw_695 : (Jvm.Cond.instanceMethod ({ cls := "RingKiln", name := "feed", desc := "(I)I" } : Jvm.MethodName)) ∈ xWA := xw 695 (by decide +kernel) rfl
theorem xw_696 : (Jvm.Cond.selects "RingKiln" ({ cls := "RingKiln", name := "feed", desc := "(I)I" } : Jvm.MethodName) ({ cls := "RingKiln", name := "feed", desc := "(I)I" } : Jvm.MethodName)) ∈ xWA := xw 696 (by decide +kernel) rfl
theorem xw_697 : (Jvm.Cond.code ({ cls := "RingKiln", name := "feed", desc := "(I)I" } : Jvm.MethodName) prog_1_method_10_code (2 : Nat) (Option.some Jvm.ClassFile.FieldType.int)) ∈ xWA := xw 697 (by decide +kernel) rfl
theorem xw_698 : (Jvm.Cond.fieldLink "RingKiln" (102 : Nat) "RingKiln$Command" "FEED" "LRingKiln$Command;") ∈ xWA := xw 698 (by decide +kernel) rfl
theorem xw_700 : (Jvm.Cond.methodLink "RingKilnLaw" (154 : Nat) ({ cls := "RingKilnLaw", name := "run", desc := "(LRingKiln;)I" } : Jvm.MethodName)) ∈ xWA := xw 700 (by decide +kernel) rfl
theorem xw_701 : (Jvm.Cond.static ({ cls := "RingKilnLaw", name := "run", desc := "(LRingKiln;)I" } : Jvm.MethodName)) ∈ xWA := xw 701 (by decide +kernel) rfl
theorem xw_702 : (Jvm.Cond.codeWith ({ cls := "RingKilnLaw", name := "run", desc := "(LRingKiln;)I" } : Jvm.MethodName) method_22_code (3 : Nat) (Option.some Jvm.ClassFile.FieldType.int) [((3 : Nat), (8 : Nat), (11 : Nat), (19 : Nat)), ((3 : Nat), (8 : Nat), (15 : Nat), (23 : Nat))]) ∈ xWA := xw 702 (by decide +kernel) rfl
theorem xw_703 : (Jvm.Cond.methodLink "RingKilnLaw" (88 : Nat) ({ cls := "RingKiln", name := "run", desc := "()I" } : Jvm.MethodName)) ∈ xWA := xw 703 (by decide +kernel) rfl
theorem xw_704 : (Jvm.Cond.instanceMethod ({ cls := "RingKiln", name := "run", desc := "()I" } : Jvm.MethodName)) ∈ xWA := xw 704 (by decide +kernel) rfl
theorem xw_705 : (Jvm.Cond.selects "RingKiln" ({ cls := "RingKiln", name := "run", desc := "()I" } : Jvm.MethodName) ({ cls := "RingKiln", name := "run", desc := "()I" } : Jvm.MethodName)) ∈ xWA := xw 705 (by decide +kernel) rfl
theorem xw_706 : (Jvm.Cond.code ({ cls := "RingKiln", name := "run", desc := "()I" } : Jvm.MethodName) prog_1_method_43_code (3 : Nat) (Option.some Jvm.ClassFile.FieldType.int)) ∈ xWA := xw 706 (by decide +kernel) rfl
theorem xw_707 : (Jvm.Cond.methodLink "RingKiln" (249 : Nat) ({ cls := "RingKiln$Program", name := "readText", desc := "()Z" } : Jvm.MethodName)) ∈ xWA := xw 707 (by decide +kernel) rfl
theorem xw_708 : (Jvm.Cond.instanceMethod ({ cls := "RingKiln$Program", name := "readText", desc := "()Z" } : Jvm.MethodName)) ∈ xWA := xw 708 (by decide +kernel) rfl
theorem xw_709 : (Jvm.Cond.selects "RingKiln$Program" ({ cls := "RingKiln$Program", name := "readText", desc := "()Z" } : Jvm.MethodName) ({ cls := "RingKiln$Program", name := "readText", desc := "()Z" } : Jvm.MethodName)) ∈ xWA := xw 709 (by decide +kernel) rfl
theorem xw_710 : (Jvm.Cond.code ({ cls := "RingKiln$Program", name := "readText", desc := "()Z" } : Jvm.MethodName) prog_8_method_4_code (2 : Nat) (Option.some Jvm.ClassFile.FieldType.boolean)) ∈ xWA := xw 710 (by decide +kernel) rfl
theorem xw_711 : (Jvm.Cond.methodLink "RingKiln$Program" (44 : Nat) ({ cls := "RingKiln$Program", name := "readCommand", desc := "()Z" } : Jvm.MethodName)) ∈ xWA := xw 711 (by decide +kernel) rfl
theorem xw_713 : (Jvm.Cond.instanceMethod ({ cls := "RingKiln$Program", name := "readCommand", desc := "()Z" } : Jvm.MethodName)) ∈ xWA := xw 713 (by decide +kernel) rfl
theorem xw_714 : (Jvm.Cond.code ({ cls := "RingKiln$Program", name := "readCommand", desc := "()Z" } : Jvm.MethodName) prog_8_method_5_code (7 : Nat) (Option.some Jvm.ClassFile.FieldType.boolean)) ∈ xWA := xw 714 (by decide +kernel) rfl
theorem xw_717 : (Jvm.Cond.methodLink "RingKiln$Program" (55 : Nat) ({ cls := "RingKiln$Program", name := "followPattern", desc := "(Ljava/lang/String;)Z" } : Jvm.MethodName)) ∈ xWA := xw 717 (by decide +kernel) rfl
theorem xw_719 : (Jvm.Cond.instanceMethod ({ cls := "RingKiln$Program", name := "followPattern", desc := "(Ljava/lang/String;)Z" } : Jvm.MethodName)) ∈ xWA := xw 719 (by decide +kernel) rfl
theorem xw_720 : (Jvm.Cond.code ({ cls := "RingKiln$Program", name := "followPattern", desc := "(Ljava/lang/String;)Z" } : Jvm.MethodName) prog_8_method_7_code (5 : Nat) (Option.some Jvm.ClassFile.FieldType.boolean)) ∈ xWA := xw 720 (by decide +kernel) rfl
theorem xw_721 : (Jvm.Cond.methodLink "RingKiln$Program" (69 : Nat) ({ cls := "java/lang/String", name := "length", desc := "()I" } : Jvm.MethodName)) ∈ xWA := xw 721 (by decide +kernel) rfl
theorem xw_722 : (Jvm.Cond.instanceMethod ({ cls := "java/lang/String", name := "length", desc := "()I" } : Jvm.MethodName)) ∈ xWA := xw 722 (by decide +kernel) rfl
theorem xw_723 : (Jvm.Cond.selects "java/lang/String" ({ cls := "java/lang/String", name := "length", desc := "()I" } : Jvm.MethodName) ({ cls := "java/lang/String", name := "length", desc := "()I" } : Jvm.MethodName)) ∈ xWA := xw 723 (by decide +kernel) rfl
theorem xw_724 : (Jvm.Cond.code ({ cls := "java/lang/String", name := "length", desc := "()I" } : Jvm.MethodName) prog_27_method_54_code (1 : Nat) (Option.some Jvm.ClassFile.FieldType.int)) ∈ xWA := xw 724 (by decide +kernel) rfl
theorem xw_725 : (Jvm.Cond.methodLink "java/lang/String" (335 : Nat) ({ cls := "java/lang/String", name := "coder", desc := "()B" } : Jvm.MethodName)) ∈ xWA := xw 725 (by decide +kernel) rfl
theorem xw_726 : (Jvm.Cond.instanceMethod ({ cls := "java/lang/String", name := "coder", desc := "()B" } : Jvm.MethodName)) ∈ xWA := xw 726 (by decide +kernel) rfl
theorem xw_727 : (Jvm.Cond.selects "java/lang/String" ({ cls := "java/lang/String", name := "coder", desc := "()B" } : Jvm.MethodName) ({ cls := "java/lang/String", name := "coder", desc := "()B" } : Jvm.MethodName)) ∈ xWA := xw 727 (by decide +kernel) rfl
theorem xw_728 : (Jvm.Cond.code ({ cls := "java/lang/String", name := "coder", desc := "()B" } : Jvm.MethodName) prog_27_method_152_code (1 : Nat) (Option.some Jvm.ClassFile.FieldType.byte)) ∈ xWA := xw 728 (by decide +kernel) rfl
theorem xw_729 : (Jvm.Cond.fieldLink "java/lang/String" (38 : Nat) "java/lang/String" "COMPACT_STRINGS" "Z") ∈ xWA := xw 729 (by decide +kernel) rfl
theorem xw_730 : (Jvm.Cond.methodLink "RingKiln$Program" (74 : Nat) ({ cls := "java/lang/String", name := "charAt", desc := "(I)C" } : Jvm.MethodName)) ∈ xWA := xw 730 (by decide +kernel) rfl
theorem xw_731 : (Jvm.Cond.instanceMethod ({ cls := "java/lang/String", name := "charAt", desc := "(I)C" } : Jvm.MethodName)) ∈ xWA := xw 731 (by decide +kernel) rfl
theorem xw_732 : (Jvm.Cond.selects "java/lang/String" ({ cls := "java/lang/String", name := "charAt", desc := "(I)C" } : Jvm.MethodName) ({ cls := "java/lang/String", name := "charAt", desc := "(I)C" } : Jvm.MethodName)) ∈ xWA := xw 732 (by decide +kernel) rfl
theorem xw_733 : (Jvm.Cond.code ({ cls := "java/lang/String", name := "charAt", desc := "(I)C" } : Jvm.MethodName) prog_27_method_56_code (2 : Nat) (Option.some Jvm.ClassFile.FieldType.char)) ∈ xWA := xw 733 (by decide +kernel) rfl
theorem xw_734 : (Jvm.Cond.methodLink "java/lang/String" (492 : Nat) ({ cls := "java/lang/String", name := "isLatin1", desc := "()Z" } : Jvm.MethodName)) ∈ xWA := xw 734 (by decide +kernel) rfl
theorem xw_735 : (Jvm.Cond.instanceMethod ({ cls := "java/lang/String", name := "isLatin1", desc := "()Z" } : Jvm.MethodName)) ∈ xWA := xw 735 (by decide +kernel) rfl
theorem xw_736 : (Jvm.Cond.selects "java/lang/String" ({ cls := "java/lang/String", name := "isLatin1", desc := "()Z" } : Jvm.MethodName) ({ cls := "java/lang/String", name := "isLatin1", desc := "()Z" } : Jvm.MethodName)) ∈ xWA := xw 736 (by decide +kernel) rfl
theorem xw_737 : (Jvm.Cond.code ({ cls := "java/lang/String", name := "isLatin1", desc := "()Z" } : Jvm.MethodName) prog_27_method_154_code (1 : Nat) (Option.some Jvm.ClassFile.FieldType.boolean)) ∈ xWA := xw 737 (by decide +kernel) rfl
theorem xw_738 : (Jvm.Cond.methodLink "java/lang/String" (495 : Nat) ({ cls := "java/lang/StringLatin1", name := "charAt", desc := "([BI)C" } : Jvm.MethodName)) ∈ xWA := xw 738 (by decide +kernel) rfl
theorem xw_739 : (Jvm.Cond.static ({ cls := "java/lang/StringLatin1", name := "charAt", desc := "([BI)C" } : Jvm.MethodName)) ∈ xWA := xw 739 (by decide +kernel) rfl
theorem xw_740 : (Jvm.Cond.code ({ cls := "java/lang/StringLatin1", name := "charAt", desc := "([BI)C" } : Jvm.MethodName) prog_30_method_2_code (2 : Nat) (Option.some Jvm.ClassFile.FieldType.char)) ∈ xWA := xw 740 (by decide +kernel) rfl
theorem xw_741 : (Jvm.Cond.methodLink "java/lang/StringLatin1" (9 : Nat) ({ cls := "java/lang/String", name := "checkIndex", desc := "(II)V" } : Jvm.MethodName)) ∈ xWA := xw 741 (by decide +kernel) rfl
theorem xw_742 : (Jvm.Cond.static ({ cls := "java/lang/String", name := "checkIndex", desc := "(II)V" } : Jvm.MethodName)) ∈ xWA := xw 742 (by decide +kernel) rfl
theorem xw_743 : (Jvm.Cond.code ({ cls := "java/lang/String", name := "checkIndex", desc := "(II)V" } : Jvm.MethodName) prog_27_method_155_code (2 : Nat) (Option.none : Option Jvm.ClassFile.FieldType)) ∈ xWA := xw 743 (by decide +kernel) rfl
theorem xw_744 : (Jvm.Cond.fieldLink "java/lang/String" (1053 : Nat) "jdk/internal/util/Preconditions" "SIOOBE_FORMATTER" "Ljava/util/function/BiFunction;") ∈ xWA := xw 744 (by decide +kernel) rfl
theorem xw_746 : (Jvm.Cond.methodLink "java/lang/String" (1059 : Nat) ({ cls := "jdk/internal/util/Preconditions", name := "checkIndex", desc := "(IILjava/util/function/BiFunction;)I" } : Jvm.MethodName)) ∈ xWA := xw 746 (by decide +kernel) rfl
theorem xw_749 : (Jvm.Cond.methodLink "java/lang/String" (498 : Nat) ({ cls := "java/lang/StringUTF16", name := "charAt", desc := "([BI)C" } : Jvm.MethodName)) ∈ xWA := xw 749 (by decide +kernel) rfl
theorem xw_768 : (Jvm.Cond.methodLink "RingKiln$Program" (78 : Nat) ({ cls := "RingKiln$Program", name := "readNumber", desc := "()Z" } : Jvm.MethodName)) ∈ xWA := xw 768 (by decide +kernel) rfl
theorem xw_770 : (Jvm.Cond.instanceMethod ({ cls := "RingKiln$Program", name := "readNumber", desc := "()Z" } : Jvm.MethodName)) ∈ xWA := xw 770 (by decide +kernel) rfl
theorem xw_771 : (Jvm.Cond.code ({ cls := "RingKiln$Program", name := "readNumber", desc := "()Z" } : Jvm.MethodName) prog_8_method_9_code (3 : Nat) (Option.some Jvm.ClassFile.FieldType.boolean)) ∈ xWA := xw 771 (by decide +kernel) rfl
theorem xw_772 : (Jvm.Cond.methodLink "RingKiln$Program" (85 : Nat) ({ cls := "RingKiln$Program", name := "isDigit", desc := "(C)Z" } : Jvm.MethodName)) ∈ xWA := xw 772 (by decide +kernel) rfl
theorem xw_773 : (Jvm.Cond.static ({ cls := "RingKiln$Program", name := "isDigit", desc := "(C)Z" } : Jvm.MethodName)) ∈ xWA := xw 773 (by decide +kernel) rfl
theorem xw_774 : (Jvm.Cond.code ({ cls := "RingKiln$Program", name := "isDigit", desc := "(C)Z" } : Jvm.MethodName) prog_8_method_10_code (1 : Nat) (Option.some Jvm.ClassFile.FieldType.boolean)) ∈ xWA := xw 774 (by decide +kernel) rfl
theorem xw_775 : (Jvm.Cond.methodLink "RingKiln$Program" (88 : Nat) ({ cls := "RingKiln$Program", name := "addValue", desc := "(I)V" } : Jvm.MethodName)) ∈ xWA := xw 775 (by decide +kernel) rfl
theorem xw_777 : (Jvm.Cond.instanceMethod ({ cls := "RingKiln$Program", name := "addValue", desc := "(I)V" } : Jvm.MethodName)) ∈ xWA := xw 777 (by decide +kernel) rfl
theorem xw_778 : (Jvm.Cond.code ({ cls := "RingKiln$Program", name := "addValue", desc := "(I)V" } : Jvm.MethodName) prog_8_method_11_code (2 : Nat) (Option.none : Option Jvm.ClassFile.FieldType)) ∈ xWA := xw 778 (by decide +kernel) rfl
theorem xw_779 : (Jvm.Cond.methodLink "RingKiln$Program" (81 : Nat) ({ cls := "RingKiln$Program", name := "readCharacter", desc := "(C)Z" } : Jvm.MethodName)) ∈ xWA := xw 779 (by decide +kernel) rfl
theorem xw_781 : (Jvm.Cond.instanceMethod ({ cls := "RingKiln$Program", name := "readCharacter", desc := "(C)Z" } : Jvm.MethodName)) ∈ xWA := xw 781 (by decide +kernel) rfl
theorem xw_782 : (Jvm.Cond.code ({ cls := "RingKiln$Program", name := "readCharacter", desc := "(C)Z" } : Jvm.MethodName) prog_8_method_8_code (3 : Nat) (Option.some Jvm.ClassFile.FieldType.boolean)) ∈ xWA := xw 782 (by decide +kernel) rfl
theorem xw_784 : (Jvm.Cond.methodLink "RingKiln$Program" (59 : Nat) ({ cls := "RingKiln$Program", name := "keepCommand", desc := "(LRingKiln$Command;)V" } : Jvm.MethodName)) ∈ xWA := xw 784 (by decide +kernel) rfl
theorem xw_786 : (Jvm.Cond.instanceMethod ({ cls := "RingKiln$Program", name := "keepCommand", desc := "(LRingKiln$Command;)V" } : Jvm.MethodName)) ∈ xWA := xw 786 (by decide +kernel) rfl
theorem xw_787 : (Jvm.Cond.code ({ cls := "RingKiln$Program", name := "keepCommand", desc := "(LRingKiln$Command;)V" } : Jvm.MethodName) prog_8_method_6_code (2 : Nat) (Option.none : Option Jvm.ClassFile.FieldType)) ∈ xWA := xw 787 (by decide +kernel) rfl
theorem xw_788 : (Jvm.Cond.methodLink "RingKiln$Program" (63 : Nat) ({ cls := "java/lang/Math", name := "max", desc := "(II)I" } : Jvm.MethodName)) ∈ xWA := xw 788 (by decide +kernel) rfl
theorem xw_789 : (Jvm.Cond.methodLink "RingKiln" (252 : Nat) ({ cls := "RingKiln$Program", name := "clearText", desc := "()V" } : Jvm.MethodName)) ∈ xWA := xw 789 (by decide +kernel) rfl
theorem xw_790 : (Jvm.Cond.instanceMethod ({ cls := "RingKiln$Program", name := "clearText", desc := "()V" } : Jvm.MethodName)) ∈ xWA := xw 790 (by decide +kernel) rfl
theorem xw_791 : (Jvm.Cond.selects "RingKiln$Program" ({ cls := "RingKiln$Program", name := "clearText", desc := "()V" } : Jvm.MethodName) ({ cls := "RingKiln$Program", name := "clearText", desc := "()V" } : Jvm.MethodName)) ∈ xWA := xw 791 (by decide +kernel) rfl
theorem xw_792 : (Jvm.Cond.code ({ cls := "RingKiln$Program", name := "clearText", desc := "()V" } : Jvm.MethodName) prog_8_method_3_code (1 : Nat) (Option.none : Option Jvm.ClassFile.FieldType)) ∈ xWA := xw 792 (by decide +kernel) rfl
theorem xw_794 : (Jvm.Cond.methodLink "RingKiln" (263 : Nat) ({ cls := "RingKiln", name := "carryOutCommands", desc := "()I" } : Jvm.MethodName)) ∈ xWA := xw 794 (by decide +kernel) rfl
theorem xw_796 : (Jvm.Cond.instanceMethod ({ cls := "RingKiln", name := "carryOutCommands", desc := "()I" } : Jvm.MethodName)) ∈ xWA := xw 796 (by decide +kernel) rfl
theorem xw_797 : (Jvm.Cond.code ({ cls := "RingKiln", name := "carryOutCommands", desc := "()I" } : Jvm.MethodName) prog_1_method_62_code (3 : Nat) (Option.some Jvm.ClassFile.FieldType.int)) ∈ xWA := xw 797 (by decide +kernel) rfl
theorem xw_799 : (Jvm.Cond.methodLink "RingKilnLaw" (297 : Nat) ({ cls := "RingKilnLaw", name := "failedCommand", desc := "(LRingKiln;)I" } : Jvm.MethodName)) ∈ xWA := xw 799 (by decide +kernel) rfl
theorem xw_800 : (Jvm.Cond.static ({ cls := "RingKilnLaw", name := "failedCommand", desc := "(LRingKiln;)I" } : Jvm.MethodName)) ∈ xWA := xw 800 (by decide +kernel) rfl
theorem xw_801 : (Jvm.Cond.codeWith ({ cls := "RingKilnLaw", name := "failedCommand", desc := "(LRingKiln;)I" } : Jvm.MethodName) method_23_code (3 : Nat) (Option.some Jvm.ClassFile.FieldType.int) [((4 : Nat), (9 : Nat), (12 : Nat), (55 : Nat))]) ∈ xWA := xw 801 (by decide +kernel) rfl
theorem xw_802 : (Jvm.Cond.classLink "RingKilnLaw" (55 : Nat) "java/util/NoSuchElementException") ∈ xWA := xw 802 (by decide +kernel) rfl
theorem xw_803 : (Jvm.Cond.methodLink "RingKilnLaw" (91 : Nat) ({ cls := "RingKiln", name := "failedCommand", desc := "()I" } : Jvm.MethodName)) ∈ xWA := xw 803 (by decide +kernel) rfl
theorem xw_804 : (Jvm.Cond.instanceMethod ({ cls := "RingKiln", name := "failedCommand", desc := "()I" } : Jvm.MethodName)) ∈ xWA := xw 804 (by decide +kernel) rfl
theorem xw_805 : (Jvm.Cond.selects "RingKiln" ({ cls := "RingKiln", name := "failedCommand", desc := "()I" } : Jvm.MethodName) ({ cls := "RingKiln", name := "failedCommand", desc := "()I" } : Jvm.MethodName)) ∈ xWA := xw 805 (by decide +kernel) rfl
theorem xw_806 : (Jvm.Cond.code ({ cls := "RingKiln", name := "failedCommand", desc := "()I" } : Jvm.MethodName) prog_1_method_45_code (1 : Nat) (Option.some Jvm.ClassFile.FieldType.int)) ∈ xWA := xw 806 (by decide +kernel) rfl
theorem xw_807 : (Jvm.Cond.methodLink "RingKilnLaw" (162 : Nat) ({ cls := "RingKilnLaw", name := "undo", desc := "(LRingKiln;)I" } : Jvm.MethodName)) ∈ xWA := xw 807 (by decide +kernel) rfl
theorem xw_808 : (Jvm.Cond.static ({ cls := "RingKilnLaw", name := "undo", desc := "(LRingKiln;)I" } : Jvm.MethodName)) ∈ xWA := xw 808 (by decide +kernel) rfl
theorem xw_809 : (Jvm.Cond.codeWith ({ cls := "RingKilnLaw", name := "undo", desc := "(LRingKiln;)I" } : Jvm.MethodName) method_24_code (3 : Nat) (Option.some Jvm.ClassFile.FieldType.int) [((3 : Nat), (8 : Nat), (11 : Nat), (21 : Nat))]) ∈ xWA := xw 809 (by decide +kernel) rfl
theorem xw_810 : (Jvm.Cond.methodLink "RingKilnLaw" (94 : Nat) ({ cls := "RingKiln", name := "undo", desc := "()I" } : Jvm.MethodName)) ∈ xWA := xw 810 (by decide +kernel) rfl
theorem xw_811 : (Jvm.Cond.instanceMethod ({ cls := "RingKiln", name := "undo", desc := "()I" } : Jvm.MethodName)) ∈ xWA := xw 811 (by decide +kernel) rfl
theorem xw_812 : (Jvm.Cond.selects "RingKiln" ({ cls := "RingKiln", name := "undo", desc := "()I" } : Jvm.MethodName) ({ cls := "RingKiln", name := "undo", desc := "()I" } : Jvm.MethodName)) ∈ xWA := xw 812 (by decide +kernel) rfl
theorem xw_813 : (Jvm.Cond.code ({ cls := "RingKiln", name := "undo", desc := "()I" } : Jvm.MethodName) prog_1_method_49_code (1 : Nat) (Option.some Jvm.ClassFile.FieldType.int)) ∈ xWA := xw 813 (by decide +kernel) rfl
theorem xw_814 : (Jvm.Cond.methodLink "RingKiln" (300 : Nat) ({ cls := "RingKiln$History", name := "takeBack", desc := "(LRingKiln$Kiln;)I" } : Jvm.MethodName)) ∈ xWA := xw 814 (by decide +kernel) rfl
theorem xw_815 : (Jvm.Cond.instanceMethod ({ cls := "RingKiln$History", name := "takeBack", desc := "(LRingKiln$Kiln;)I" } : Jvm.MethodName)) ∈ xWA := xw 815 (by decide +kernel) rfl
theorem xw_816 : (Jvm.Cond.selects "RingKiln$History" ({ cls := "RingKiln$History", name := "takeBack", desc := "(LRingKiln$Kiln;)I" } : Jvm.MethodName) ({ cls := "RingKiln$History", name := "takeBack", desc := "(LRingKiln$Kiln;)I" } : Jvm.MethodName)) ∈ xWA := xw 816 (by decide +kernel) rfl
theorem xw_817 : (Jvm.Cond.code ({ cls := "RingKiln$History", name := "takeBack", desc := "(LRingKiln$Kiln;)I" } : Jvm.MethodName) prog_5_method_3_code (2 : Nat) (Option.some Jvm.ClassFile.FieldType.int)) ∈ xWA := xw 817 (by decide +kernel) rfl
theorem xw_818 : (Jvm.Cond.methodLink "RingKilnLaw" (150 : Nat) ({ cls := "RingKilnLaw", name := "typed", desc := "(LRingKiln;Ljava/lang/String;)LRingKiln;" } : Jvm.MethodName)) ∈ xWA := xw 818 (by decide +kernel) rfl
theorem xw_819 : (Jvm.Cond.static ({ cls := "RingKilnLaw", name := "typed", desc := "(LRingKiln;Ljava/lang/String;)LRingKiln;" } : Jvm.MethodName)) ∈ xWA := xw 819 (by decide +kernel) rfl
theorem xw_820 : (Jvm.Cond.code ({ cls := "RingKilnLaw", name := "typed", desc := "(LRingKiln;Ljava/lang/String;)LRingKiln;" } : Jvm.MethodName) method_26_code (3 : Nat) (Option.some (Jvm.ClassFile.FieldType.object "RingKiln"))) ∈ xWA := xw 820 (by decide +kernel) rfl
theorem xw_821 : (Jvm.Cond.methodLink "RingKilnLaw" (101 : Nat) ({ cls := "java/lang/String", name := "length", desc := "()I" } : Jvm.MethodName)) ∈ xWA := xw 821 (by decide +kernel) rfl
theorem xw_822 : (Jvm.Cond.methodLink "RingKilnLaw" (106 : Nat) ({ cls := "java/lang/String", name := "charAt", desc := "(I)C" } : Jvm.MethodName)) ∈ xWA := xw 822 (by decide +kernel) rfl
theorem xw_823 : (Jvm.Cond.methodLink "RingKilnLaw" (110 : Nat) ({ cls := "RingKilnLaw", name := "put", desc := "(LRingKiln;C)Z" } : Jvm.MethodName)) ∈ xWA := xw 823 (by decide +kernel) rfl
theorem xw_824 : (Jvm.Cond.static ({ cls := "RingKilnLaw", name := "put", desc := "(LRingKiln;C)Z" } : Jvm.MethodName)) ∈ xWA := xw 824 (by decide +kernel) rfl
theorem xw_825 : (Jvm.Cond.codeWith ({ cls := "RingKilnLaw", name := "put", desc := "(LRingKiln;C)Z" } : Jvm.MethodName) method_25_code (3 : Nat) (Option.some Jvm.ClassFile.FieldType.boolean) [((0 : Nat), (6 : Nat), (9 : Nat), (21 : Nat))]) ∈ xWA := xw 825 (by decide +kernel) rfl
theorem xw_826 : (Jvm.Cond.methodLink "RingKilnLaw" (97 : Nat) ({ cls := "RingKiln", name := "append", desc := "(C)I" } : Jvm.MethodName)) ∈ xWA := xw 826 (by decide +kernel) rfl
theorem xw_827 : (Jvm.Cond.instanceMethod ({ cls := "RingKiln", name := "append", desc := "(C)I" } : Jvm.MethodName)) ∈ xWA := xw 827 (by decide +kernel) rfl
theorem xw_828 : (Jvm.Cond.selects "RingKiln" ({ cls := "RingKiln", name := "append", desc := "(C)I" } : Jvm.MethodName) ({ cls := "RingKiln", name := "append", desc := "(C)I" } : Jvm.MethodName)) ∈ xWA := xw 828 (by decide +kernel) rfl
theorem xw_829 : (Jvm.Cond.code ({ cls := "RingKiln", name := "append", desc := "(C)I" } : Jvm.MethodName) prog_1_method_42_code (2 : Nat) (Option.some Jvm.ClassFile.FieldType.int)) ∈ xWA := xw 829 (by decide +kernel) rfl
theorem xw_830 : (Jvm.Cond.methodLink "RingKiln" (246 : Nat) ({ cls := "RingKiln$Program", name := "addCharacter", desc := "(C)I" } : Jvm.MethodName)) ∈ xWA := xw 830 (by decide +kernel) rfl
theorem xw_831 : (Jvm.Cond.instanceMethod ({ cls := "RingKiln$Program", name := "addCharacter", desc := "(C)I" } : Jvm.MethodName)) ∈ xWA := xw 831 (by decide +kernel) rfl
theorem xw_832 : (Jvm.Cond.selects "RingKiln$Program" ({ cls := "RingKiln$Program", name := "addCharacter", desc := "(C)I" } : Jvm.MethodName) ({ cls := "RingKiln$Program", name := "addCharacter", desc := "(C)I" } : Jvm.MethodName)) ∈ xWA := xw 832 (by decide +kernel) rfl
theorem xw_833 : (Jvm.Cond.code ({ cls := "RingKiln$Program", name := "addCharacter", desc := "(C)I" } : Jvm.MethodName) prog_8_method_2_code (2 : Nat) (Option.some Jvm.ClassFile.FieldType.int)) ∈ xWA := xw 833 (by decide +kernel) rfl
theorem xw_834 : (Jvm.Cond.methodLink "RingKilnLaw" (159 : Nat) ({ cls := "RingKilnLaw", name := "restored", desc := "(LRingKiln;)I" } : Jvm.MethodName)) ∈ xWA := xw 834 (by decide +kernel) rfl
theorem xw_835 : (Jvm.Cond.static ({ cls := "RingKilnLaw", name := "restored", desc := "(LRingKiln;)I" } : Jvm.MethodName)) ∈ xWA := xw 835 (by decide +kernel) rfl
theorem xw_836 : (Jvm.Cond.codeWith ({ cls := "RingKilnLaw", name := "restored", desc := "(LRingKiln;)I" } : Jvm.MethodName) method_28_code (2 : Nat) (Option.some Jvm.ClassFile.FieldType.int) [((0 : Nat), (4 : Nat), (7 : Nat), (21 : Nat))]) ∈ xWA := xw 836 (by decide +kernel) rfl
theorem xw_837 : (Jvm.Cond.methodLink "RingKilnLaw" (117 : Nat) ({ cls := "RingKiln", name := "restore", desc := "()V" } : Jvm.MethodName)) ∈ xWA := xw 837 (by decide +kernel) rfl
theorem xw_838 : (Jvm.Cond.instanceMethod ({ cls := "RingKiln", name := "restore", desc := "()V" } : Jvm.MethodName)) ∈ xWA := xw 838 (by decide +kernel) rfl
theorem xw_839 : (Jvm.Cond.selects "RingKiln" ({ cls := "RingKiln", name := "restore", desc := "()V" } : Jvm.MethodName) ({ cls := "RingKiln", name := "restore", desc := "()V" } : Jvm.MethodName)) ∈ xWA := xw 839 (by decide +kernel) rfl
theorem xw_840 : (Jvm.Cond.code ({ cls := "RingKiln", name := "restore", desc := "()V" } : Jvm.MethodName) prog_1_method_51_code (1 : Nat) (Option.none : Option Jvm.ClassFile.FieldType)) ∈ xWA := xw 840 (by decide +kernel) rfl
theorem xw_842 : (Jvm.Cond.methodLink "RingKiln" (309 : Nat) ({ cls := "RingKiln$History", name := "forget", desc := "()V" } : Jvm.MethodName)) ∈ xWA := xw 842 (by decide +kernel) rfl
theorem xw_843 : (Jvm.Cond.instanceMethod ({ cls := "RingKiln$History", name := "forget", desc := "()V" } : Jvm.MethodName)) ∈ xWA := xw 843 (by decide +kernel) rfl
theorem xw_844 : (Jvm.Cond.selects "RingKiln$History" ({ cls := "RingKiln$History", name := "forget", desc := "()V" } : Jvm.MethodName) ({ cls := "RingKiln$History", name := "forget", desc := "()V" } : Jvm.MethodName)) ∈ xWA := xw 844 (by decide +kernel) rfl
theorem xw_845 : (Jvm.Cond.code ({ cls := "RingKiln$History", name := "forget", desc := "()V" } : Jvm.MethodName) prog_5_method_4_code (1 : Nat) (Option.none : Option Jvm.ClassFile.FieldType)) ∈ xWA := xw 845 (by decide +kernel) rfl
theorem xw_846 : (Jvm.Cond.methodLink "RingKilnLaw" (291 : Nat) ({ cls := "RingKilnLaw", name := "act", desc := "(LRingKiln;I)I" } : Jvm.MethodName)) ∈ xWA := xw 846 (by decide +kernel) rfl
theorem xw_847 : (Jvm.Cond.static ({ cls := "RingKilnLaw", name := "act", desc := "(LRingKiln;I)I" } : Jvm.MethodName)) ∈ xWA := xw 847 (by decide +kernel) rfl
theorem xw_848 : (Jvm.Cond.code ({ cls := "RingKilnLaw", name := "act", desc := "(LRingKiln;I)I" } : Jvm.MethodName) method_29_code (5 : Nat) (Option.some Jvm.ClassFile.FieldType.int)) ∈ xWA := xw 848 (by decide +kernel) rfl
theorem xw_850 : (Jvm.Cond.methodLink "RingKilnLaw" (125 : Nat) ({ cls := "RingKilnLaw", name := "unload", desc := "(LRingKiln;I)I" } : Jvm.MethodName)) ∈ xWA := xw 850 (by decide +kernel) rfl
theorem xw_851 : (Jvm.Cond.static ({ cls := "RingKilnLaw", name := "unload", desc := "(LRingKiln;I)I" } : Jvm.MethodName)) ∈ xWA := xw 851 (by decide +kernel) rfl
theorem xw_852 : (Jvm.Cond.codeWith ({ cls := "RingKilnLaw", name := "unload", desc := "(LRingKiln;I)I" } : Jvm.MethodName) method_4_code (4 : Nat) (Option.some Jvm.ClassFile.FieldType.int) [((3 : Nat), (9 : Nat), (12 : Nat), (17 : Nat)), ((3 : Nat), (9 : Nat), (16 : Nat), (21 : Nat)), ((3 : Nat), (9 : Nat), (20 : Nat), (23 : Nat))]) ∈ xWA := xw 852 (by decide +kernel) rfl
theorem xw_853 : (Jvm.Cond.methodLink "RingKilnLaw" (25 : Nat) ({ cls := "RingKiln", name := "unload", desc := "(I)I" } : Jvm.MethodName)) ∈ xWA := xw 853 (by decide +kernel) rfl
theorem xw_854 : (Jvm.Cond.instanceMethod ({ cls := "RingKiln", name := "unload", desc := "(I)I" } : Jvm.MethodName)) ∈ xWA := xw 854 (by decide +kernel) rfl
theorem xw_855 : (Jvm.Cond.selects "RingKiln" ({ cls := "RingKiln", name := "unload", desc := "(I)I" } : Jvm.MethodName) ({ cls := "RingKiln", name := "unload", desc := "(I)I" } : Jvm.MethodName)) ∈ xWA := xw 855 (by decide +kernel) rfl
theorem xw_856 : (Jvm.Cond.code ({ cls := "RingKiln", name := "unload", desc := "(I)I" } : Jvm.MethodName) prog_1_method_3_code (2 : Nat) (Option.some Jvm.ClassFile.FieldType.int)) ∈ xWA := xw 856 (by decide +kernel) rfl
theorem xw_857 : (Jvm.Cond.fieldLink "RingKiln" (81 : Nat) "RingKiln$Command" "TAKE" "LRingKiln$Command;") ∈ xWA := xw 857 (by decide +kernel) rfl
theorem xw_859 : (Jvm.Cond.methodLink "RingKilnLaw" (130 : Nat) ({ cls := "RingKilnLaw", name := "setDraught", desc := "(LRingKiln;I)I" } : Jvm.MethodName)) ∈ xWA := xw 859 (by decide +kernel) rfl
theorem xw_860 : (Jvm.Cond.static ({ cls := "RingKilnLaw", name := "setDraught", desc := "(LRingKiln;I)I" } : Jvm.MethodName)) ∈ xWA := xw 860 (by decide +kernel) rfl
theorem xw_861 : (Jvm.Cond.codeWith ({ cls := "RingKilnLaw", name := "setDraught", desc := "(LRingKiln;I)I" } : Jvm.MethodName) method_7_code (4 : Nat) (Option.some Jvm.ClassFile.FieldType.int) [((3 : Nat), (9 : Nat), (12 : Nat), (19 : Nat))]) ∈ xWA := xw 861 (by decide +kernel) rfl
theorem xw_862 : (Jvm.Cond.methodLink "RingKilnLaw" (36 : Nat) ({ cls := "RingKiln", name := "setDraught", desc := "(I)I" } : Jvm.MethodName)) ∈ xWA := xw 862 (by decide +kernel) rfl
theorem xw_863 : (Jvm.Cond.instanceMethod ({ cls := "RingKiln", name := "setDraught", desc := "(I)I" } : Jvm.MethodName)) ∈ xWA := xw 863 (by decide +kernel) rfl
theorem xw_864 : (Jvm.Cond.selects "RingKiln" ({ cls := "RingKiln", name := "setDraught", desc := "(I)I" } : Jvm.MethodName) ({ cls := "RingKiln", name := "setDraught", desc := "(I)I" } : Jvm.MethodName)) ∈ xWA := xw 864 (by decide +kernel) rfl
theorem xw_865 : (Jvm.Cond.code ({ cls := "RingKiln", name := "setDraught", desc := "(I)I" } : Jvm.MethodName) prog_1_method_6_code (2 : Nat) (Option.some Jvm.ClassFile.FieldType.int)) ∈ xWA := xw 865 (by decide +kernel) rfl
theorem xw_866 : (Jvm.Cond.fieldLink "RingKiln" (90 : Nat) "RingKiln$Command" "DRAUGHT" "LRingKiln$Command;") ∈ xWA := xw 866 (by decide +kernel) rfl
theorem xw_868 : (Jvm.Cond.methodLink "RingKilnLaw" (132 : Nat) ({ cls := "RingKilnLaw", name := "quench", desc := "(LRingKiln;)I" } : Jvm.MethodName)) ∈ xWA := xw 868 (by decide +kernel) rfl
theorem xw_869 : (Jvm.Cond.static ({ cls := "RingKilnLaw", name := "quench", desc := "(LRingKiln;)I" } : Jvm.MethodName)) ∈ xWA := xw 869 (by decide +kernel) rfl
theorem xw_870 : (Jvm.Cond.codeWith ({ cls := "RingKilnLaw", name := "quench", desc := "(LRingKiln;)I" } : Jvm.MethodName) method_6_code (3 : Nat) (Option.some Jvm.ClassFile.FieldType.int) [((3 : Nat), (8 : Nat), (11 : Nat), (21 : Nat))]) ∈ xWA := xw 870 (by decide +kernel) rfl
theorem xw_871 : (Jvm.Cond.methodLink "RingKilnLaw" (32 : Nat) ({ cls := "RingKiln", name := "quench", desc := "()I" } : Jvm.MethodName)) ∈ xWA := xw 871 (by decide +kernel) rfl
theorem xw_872 : (Jvm.Cond.instanceMethod ({ cls := "RingKiln", name := "quench", desc := "()I" } : Jvm.MethodName)) ∈ xWA := xw 872 (by decide +kernel) rfl
theorem xw_873 : (Jvm.Cond.selects "RingKiln" ({ cls := "RingKiln", name := "quench", desc := "()I" } : Jvm.MethodName) ({ cls := "RingKiln", name := "quench", desc := "()I" } : Jvm.MethodName)) ∈ xWA := xw 873 (by decide +kernel) rfl
theorem xw_874 : (Jvm.Cond.code ({ cls := "RingKiln", name := "quench", desc := "()I" } : Jvm.MethodName) prog_1_method_5_code (1 : Nat) (Option.some Jvm.ClassFile.FieldType.int)) ∈ xWA := xw 874 (by decide +kernel) rfl
theorem xw_875 : (Jvm.Cond.fieldLink "RingKiln" (87 : Nat) "RingKiln$Command" "OUT" "LRingKiln$Command;") ∈ xWA := xw 875 (by decide +kernel) rfl
theorem xw_877 : (Jvm.Cond.methodLink "RingKilnLaw" (135 : Nat) ({ cls := "RingKilnLaw", name := "setPrice", desc := "(LRingKiln;CI)I" } : Jvm.MethodName)) ∈ xWA := xw 877 (by decide +kernel) rfl
theorem xw_878 : (Jvm.Cond.static ({ cls := "RingKilnLaw", name := "setPrice", desc := "(LRingKiln;CI)I" } : Jvm.MethodName)) ∈ xWA := xw 878 (by decide +kernel) rfl
theorem xw_879 : (Jvm.Cond.codeWith ({ cls := "RingKilnLaw", name := "setPrice", desc := "(LRingKiln;CI)I" } : Jvm.MethodName) method_10_code (5 : Nat) (Option.some Jvm.ClassFile.FieldType.int) [((3 : Nat), (10 : Nat), (13 : Nat), (19 : Nat))]) ∈ xWA := xw 879 (by decide +kernel) rfl
theorem xw_880 : (Jvm.Cond.methodLink "RingKilnLaw" (46 : Nat) ({ cls := "RingKiln", name := "setPrice", desc := "(CI)I" } : Jvm.MethodName)) ∈ xWA := xw 880 (by decide +kernel) rfl
theorem xw_881 : (Jvm.Cond.instanceMethod ({ cls := "RingKiln", name := "setPrice", desc := "(CI)I" } : Jvm.MethodName)) ∈ xWA := xw 881 (by decide +kernel) rfl
theorem xw_882 : (Jvm.Cond.selects "RingKiln" ({ cls := "RingKiln", name := "setPrice", desc := "(CI)I" } : Jvm.MethodName) ({ cls := "RingKiln", name := "setPrice", desc := "(CI)I" } : Jvm.MethodName)) ∈ xWA := xw 882 (by decide +kernel) rfl
theorem xw_883 : (Jvm.Cond.code ({ cls := "RingKiln", name := "setPrice", desc := "(CI)I" } : Jvm.MethodName) prog_1_method_9_code (3 : Nat) (Option.some Jvm.ClassFile.FieldType.int)) ∈ xWA := xw 883 (by decide +kernel) rfl
theorem xw_884 : (Jvm.Cond.fieldLink "RingKiln" (99 : Nat) "RingKiln$Command" "PRICE" "LRingKiln$Command;") ∈ xWA := xw 884 (by decide +kernel) rfl
theorem xw_886 : (Jvm.Cond.methodLink "RingKilnLaw" (142 : Nat) ({ cls := "RingKilnLaw", name := "passHours", desc := "(LRingKiln;I)I" } : Jvm.MethodName)) ∈ xWA := xw 886 (by decide +kernel) rfl
theorem xw_887 : (Jvm.Cond.static ({ cls := "RingKilnLaw", name := "passHours", desc := "(LRingKiln;I)I" } : Jvm.MethodName)) ∈ xWA := xw 887 (by decide +kernel) rfl
theorem xw_888 : (Jvm.Cond.codeWith ({ cls := "RingKilnLaw", name := "passHours", desc := "(LRingKiln;I)I" } : Jvm.MethodName) method_8_code (4 : Nat) (Option.some Jvm.ClassFile.FieldType.int) [((3 : Nat), (9 : Nat), (12 : Nat), (19 : Nat))]) ∈ xWA := xw 888 (by decide +kernel) rfl
theorem xw_889 : (Jvm.Cond.methodLink "RingKilnLaw" (39 : Nat) ({ cls := "RingKiln", name := "passHours", desc := "(I)I" } : Jvm.MethodName)) ∈ xWA := xw 889 (by decide +kernel) rfl
theorem xw_890 : (Jvm.Cond.instanceMethod ({ cls := "RingKiln", name := "passHours", desc := "(I)I" } : Jvm.MethodName)) ∈ xWA := xw 890 (by decide +kernel) rfl
theorem xw_891 : (Jvm.Cond.selects "RingKiln" ({ cls := "RingKiln", name := "passHours", desc := "(I)I" } : Jvm.MethodName) ({ cls := "RingKiln", name := "passHours", desc := "(I)I" } : Jvm.MethodName)) ∈ xWA := xw 891 (by decide +kernel) rfl
theorem xw_892 : (Jvm.Cond.code ({ cls := "RingKiln", name := "passHours", desc := "(I)I" } : Jvm.MethodName) prog_1_method_7_code (2 : Nat) (Option.some Jvm.ClassFile.FieldType.int)) ∈ xWA := xw 892 (by decide +kernel) rfl
theorem xw_893 : (Jvm.Cond.fieldLink "RingKiln" (93 : Nat) "RingKiln$Command" "PASS" "LRingKiln$Command;") ∈ xWA := xw 893 (by decide +kernel) rfl
theorem xw_895 : (Jvm.Cond.methodLink "RingKilnLaw" (144 : Nat) ({ cls := "RingKilnLaw", name := "buildWall", desc := "(LRingKiln;II)I" } : Jvm.MethodName)) ∈ xWA := xw 895 (by decide +kernel) rfl
theorem xw_896 : (Jvm.Cond.static ({ cls := "RingKilnLaw", name := "buildWall", desc := "(LRingKiln;II)I" } : Jvm.MethodName)) ∈ xWA := xw 896 (by decide +kernel) rfl
theorem xw_897 : (Jvm.Cond.codeWith ({ cls := "RingKilnLaw", name := "buildWall", desc := "(LRingKiln;II)I" } : Jvm.MethodName) method_12_code (5 : Nat) (Option.some Jvm.ClassFile.FieldType.int) [((3 : Nat), (10 : Nat), (13 : Nat), (19 : Nat)), ((3 : Nat), (10 : Nat), (18 : Nat), (55 : Nat)), ((3 : Nat), (10 : Nat), (23 : Nat), (21 : Nat))]) ∈ xWA := xw 897 (by decide +kernel) rfl
theorem xw_898 : (Jvm.Cond.methodLink "RingKilnLaw" (52 : Nat) ({ cls := "RingKiln", name := "buildWall", desc := "(II)I" } : Jvm.MethodName)) ∈ xWA := xw 898 (by decide +kernel) rfl
theorem xw_899 : (Jvm.Cond.instanceMethod ({ cls := "RingKiln", name := "buildWall", desc := "(II)I" } : Jvm.MethodName)) ∈ xWA := xw 899 (by decide +kernel) rfl
theorem xw_900 : (Jvm.Cond.selects "RingKiln" ({ cls := "RingKiln", name := "buildWall", desc := "(II)I" } : Jvm.MethodName) ({ cls := "RingKiln", name := "buildWall", desc := "(II)I" } : Jvm.MethodName)) ∈ xWA := xw 900 (by decide +kernel) rfl
theorem xw_901 : (Jvm.Cond.code ({ cls := "RingKiln", name := "buildWall", desc := "(II)I" } : Jvm.MethodName) prog_1_method_11_code (3 : Nat) (Option.some Jvm.ClassFile.FieldType.int)) ∈ xWA := xw 901 (by decide +kernel) rfl
theorem xw_902 : (Jvm.Cond.fieldLink "RingKiln" (105 : Nat) "RingKiln$Command" "WALL" "LRingKiln$Command;") ∈ xWA := xw 902 (by decide +kernel) rfl
theorem xw_904 : (Jvm.Cond.fieldLink "RingKilnLaw" (146 : Nat) "RingKilnLaw" "PROGRAMS" "[Ljava/lang/String;") ∈ xWA := xw 904 (by decide +kernel) rfl
theorem xw_906 : (Jvm.Cond.methodLink "RingKilnLaw" (156 : Nat) ({ cls := "RingKilnLaw", name := "saved", desc := "(LRingKiln;)I" } : Jvm.MethodName)) ∈ xWA := xw 906 (by decide +kernel) rfl
theorem xw_907 : (Jvm.Cond.static ({ cls := "RingKilnLaw", name := "saved", desc := "(LRingKiln;)I" } : Jvm.MethodName)) ∈ xWA := xw 907 (by decide +kernel) rfl
theorem xw_908 : (Jvm.Cond.code ({ cls := "RingKilnLaw", name := "saved", desc := "(LRingKiln;)I" } : Jvm.MethodName) method_27_code (1 : Nat) (Option.some Jvm.ClassFile.FieldType.int)) ∈ xWA := xw 908 (by decide +kernel) rfl
theorem xw_909 : (Jvm.Cond.methodLink "RingKilnLaw" (244 : Nat) ({ cls := "RingKilnLaw", name := "digest", desc := "(LRingKiln;)J" } : Jvm.MethodName)) ∈ xWA := xw 909 (by decide +kernel) rfl
theorem xw_910 : (Jvm.Cond.static ({ cls := "RingKilnLaw", name := "digest", desc := "(LRingKiln;)J" } : Jvm.MethodName)) ∈ xWA := xw 910 (by decide +kernel) rfl
theorem xw_911 : (Jvm.Cond.code ({ cls := "RingKilnLaw", name := "digest", desc := "(LRingKiln;)J" } : Jvm.MethodName) method_30_code (4 : Nat) (Option.some Jvm.ClassFile.FieldType.long)) ∈ xWA := xw 911 (by decide +kernel) rfl
theorem xw_912 : (Jvm.Cond.constantLong "RingKilnLaw" (164 : Nat) (7 : Int64)) ∈ xWA := xw 912 (by decide +kernel) rfl
theorem xw_913 : (Jvm.Cond.methodLink "RingKilnLaw" (166 : Nat) ({ cls := "RingKiln", name := "time", desc := "()I" } : Jvm.MethodName)) ∈ xWA := xw 913 (by decide +kernel) rfl
theorem xw_914 : (Jvm.Cond.instanceMethod ({ cls := "RingKiln", name := "time", desc := "()I" } : Jvm.MethodName)) ∈ xWA := xw 914 (by decide +kernel) rfl
theorem xw_915 : (Jvm.Cond.selects "RingKiln" ({ cls := "RingKiln", name := "time", desc := "()I" } : Jvm.MethodName) ({ cls := "RingKiln", name := "time", desc := "()I" } : Jvm.MethodName)) ∈ xWA := xw 915 (by decide +kernel) rfl
theorem xw_916 : (Jvm.Cond.code ({ cls := "RingKiln", name := "time", desc := "()I" } : Jvm.MethodName) prog_1_method_12_code (1 : Nat) (Option.some Jvm.ClassFile.FieldType.int)) ∈ xWA := xw 916 (by decide +kernel) rfl
theorem xw_917 : (Jvm.Cond.constantLong "RingKilnLaw" (169 : Nat) (11 : Int64)) ∈ xWA := xw 917 (by decide +kernel) rfl
theorem xw_918 : (Jvm.Cond.methodLink "RingKilnLaw" (171 : Nat) ({ cls := "RingKiln", name := "heat", desc := "()I" } : Jvm.MethodName)) ∈ xWA := xw 918 (by decide +kernel) rfl
theorem xw_919 : (Jvm.Cond.instanceMethod ({ cls := "RingKiln", name := "heat", desc := "()I" } : Jvm.MethodName)) ∈ xWA := xw 919 (by decide +kernel) rfl
theorem xw_920 : (Jvm.Cond.selects "RingKiln" ({ cls := "RingKiln", name := "heat", desc := "()I" } : Jvm.MethodName) ({ cls := "RingKiln", name := "heat", desc := "()I" } : Jvm.MethodName)) ∈ xWA := xw 920 (by decide +kernel) rfl
theorem xw_921 : (Jvm.Cond.code ({ cls := "RingKiln", name := "heat", desc := "()I" } : Jvm.MethodName) prog_1_method_15_code (1 : Nat) (Option.some Jvm.ClassFile.FieldType.int)) ∈ xWA := xw 921 (by decide +kernel) rfl
theorem xw_922 : (Jvm.Cond.constantLong "RingKilnLaw" (174 : Nat) (13 : Int64)) ∈ xWA := xw 922 (by decide +kernel) rfl
theorem xw_923 : (Jvm.Cond.methodLink "RingKilnLaw" (176 : Nat) ({ cls := "RingKiln", name := "draught", desc := "()I" } : Jvm.MethodName)) ∈ xWA := xw 923 (by decide +kernel) rfl
theorem xw_924 : (Jvm.Cond.instanceMethod ({ cls := "RingKiln", name := "draught", desc := "()I" } : Jvm.MethodName)) ∈ xWA := xw 924 (by decide +kernel) rfl
theorem xw_925 : (Jvm.Cond.selects "RingKiln" ({ cls := "RingKiln", name := "draught", desc := "()I" } : Jvm.MethodName) ({ cls := "RingKiln", name := "draught", desc := "()I" } : Jvm.MethodName)) ∈ xWA := xw 925 (by decide +kernel) rfl
theorem xw_926 : (Jvm.Cond.code ({ cls := "RingKiln", name := "draught", desc := "()I" } : Jvm.MethodName) prog_1_method_16_code (1 : Nat) (Option.some Jvm.ClassFile.FieldType.int)) ∈ xWA := xw 926 (by decide +kernel) rfl
theorem xw_927 : (Jvm.Cond.constantLong "RingKilnLaw" (179 : Nat) (17 : Int64)) ∈ xWA := xw 927 (by decide +kernel) rfl
theorem xw_928 : (Jvm.Cond.methodLink "RingKilnLaw" (181 : Nat) ({ cls := "RingKiln", name := "stock", desc := "()I" } : Jvm.MethodName)) ∈ xWA := xw 928 (by decide +kernel) rfl
theorem xw_929 : (Jvm.Cond.instanceMethod ({ cls := "RingKiln", name := "stock", desc := "()I" } : Jvm.MethodName)) ∈ xWA := xw 929 (by decide +kernel) rfl
theorem xw_930 : (Jvm.Cond.selects "RingKiln" ({ cls := "RingKiln", name := "stock", desc := "()I" } : Jvm.MethodName) ({ cls := "RingKiln", name := "stock", desc := "()I" } : Jvm.MethodName)) ∈ xWA := xw 930 (by decide +kernel) rfl
theorem xw_931 : (Jvm.Cond.code ({ cls := "RingKiln", name := "stock", desc := "()I" } : Jvm.MethodName) prog_1_method_34_code (1 : Nat) (Option.some Jvm.ClassFile.FieldType.int)) ∈ xWA := xw 931 (by decide +kernel) rfl
theorem xw_932 : (Jvm.Cond.constantLong "RingKilnLaw" (184 : Nat) (19 : Int64)) ∈ xWA := xw 932 (by decide +kernel) rfl
theorem xw_933 : (Jvm.Cond.methodLink "RingKilnLaw" (186 : Nat) ({ cls := "RingKiln", name := "walls", desc := "()I" } : Jvm.MethodName)) ∈ xWA := xw 933 (by decide +kernel) rfl
theorem xw_934 : (Jvm.Cond.instanceMethod ({ cls := "RingKiln", name := "walls", desc := "()I" } : Jvm.MethodName)) ∈ xWA := xw 934 (by decide +kernel) rfl
theorem xw_935 : (Jvm.Cond.selects "RingKiln" ({ cls := "RingKiln", name := "walls", desc := "()I" } : Jvm.MethodName) ({ cls := "RingKiln", name := "walls", desc := "()I" } : Jvm.MethodName)) ∈ xWA := xw 935 (by decide +kernel) rfl
theorem xw_936 : (Jvm.Cond.code ({ cls := "RingKiln", name := "walls", desc := "()I" } : Jvm.MethodName) prog_1_method_35_code (1 : Nat) (Option.some Jvm.ClassFile.FieldType.int)) ∈ xWA := xw 936 (by decide +kernel) rfl
theorem xw_937 : (Jvm.Cond.constantLong "RingKilnLaw" (189 : Nat) (23 : Int64)) ∈ xWA := xw 937 (by decide +kernel) rfl
theorem xw_938 : (Jvm.Cond.methodLink "RingKilnLaw" (191 : Nat) ({ cls := "RingKiln", name := "brickTotal", desc := "()I" } : Jvm.MethodName)) ∈ xWA := xw 938 (by decide +kernel) rfl
theorem xw_939 : (Jvm.Cond.instanceMethod ({ cls := "RingKiln", name := "brickTotal", desc := "()I" } : Jvm.MethodName)) ∈ xWA := xw 939 (by decide +kernel) rfl
theorem xw_940 : (Jvm.Cond.selects "RingKiln" ({ cls := "RingKiln", name := "brickTotal", desc := "()I" } : Jvm.MethodName) ({ cls := "RingKiln", name := "brickTotal", desc := "()I" } : Jvm.MethodName)) ∈ xWA := xw 940 (by decide +kernel) rfl
theorem xw_941 : (Jvm.Cond.code ({ cls := "RingKiln", name := "brickTotal", desc := "()I" } : Jvm.MethodName) prog_1_method_36_code (1 : Nat) (Option.some Jvm.ClassFile.FieldType.int)) ∈ xWA := xw 941 (by decide +kernel) rfl
theorem xw_942 : (Jvm.Cond.methodLink "RingKiln" (213 : Nat) ({ cls := "RingKiln$Kiln", name := "bricksInSight", desc := "()I" } : Jvm.MethodName)) ∈ xWA := xw 942 (by decide +kernel) rfl
theorem xw_943 : (Jvm.Cond.instanceMethod ({ cls := "RingKiln$Kiln", name := "bricksInSight", desc := "()I" } : Jvm.MethodName)) ∈ xWA := xw 943 (by decide +kernel) rfl
theorem xw_944 : (Jvm.Cond.selects "RingKiln$Kiln" ({ cls := "RingKiln$Kiln", name := "bricksInSight", desc := "()I" } : Jvm.MethodName) ({ cls := "RingKiln$Kiln", name := "bricksInSight", desc := "()I" } : Jvm.MethodName)) ∈ xWA := xw 944 (by decide +kernel) rfl
theorem xw_945 : (Jvm.Cond.code ({ cls := "RingKiln$Kiln", name := "bricksInSight", desc := "()I" } : Jvm.MethodName) prog_6_method_6_code (6 : Nat) (Option.some Jvm.ClassFile.FieldType.int)) ∈ xWA := xw 945 (by decide +kernel) rfl
theorem xw_946 : (Jvm.Cond.constantLong "RingKilnLaw" (194 : Nat) (29 : Int64)) ∈ xWA := xw 946 (by decide +kernel) rfl
theorem xw_947 : (Jvm.Cond.methodLink "RingKilnLaw" (196 : Nat) ({ cls := "RingKiln", name := "paidTotal", desc := "()I" } : Jvm.MethodName)) ∈ xWA := xw 947 (by decide +kernel) rfl
theorem xw_948 : (Jvm.Cond.instanceMethod ({ cls := "RingKiln", name := "paidTotal", desc := "()I" } : Jvm.MethodName)) ∈ xWA := xw 948 (by decide +kernel) rfl
theorem xw_949 : (Jvm.Cond.selects "RingKiln" ({ cls := "RingKiln", name := "paidTotal", desc := "()I" } : Jvm.MethodName) ({ cls := "RingKiln", name := "paidTotal", desc := "()I" } : Jvm.MethodName)) ∈ xWA := xw 949 (by decide +kernel) rfl
theorem xw_950 : (Jvm.Cond.code ({ cls := "RingKiln", name := "paidTotal", desc := "()I" } : Jvm.MethodName) prog_1_method_38_code (1 : Nat) (Option.some Jvm.ClassFile.FieldType.int)) ∈ xWA := xw 950 (by decide +kernel) rfl
theorem xw_951 : (Jvm.Cond.methodLink "RingKilnLaw" (199 : Nat) ({ cls := "RingKilnLaw", name := "fireChamber", desc := "(LRingKiln;)I" } : Jvm.MethodName)) ∈ xWA := xw 951 (by decide +kernel) rfl
theorem xw_952 : (Jvm.Cond.static ({ cls := "RingKilnLaw", name := "fireChamber", desc := "(LRingKiln;)I" } : Jvm.MethodName)) ∈ xWA := xw 952 (by decide +kernel) rfl
theorem xw_953 : (Jvm.Cond.codeWith ({ cls := "RingKilnLaw", name := "fireChamber", desc := "(LRingKiln;)I" } : Jvm.MethodName) method_13_code (3 : Nat) (Option.some Jvm.ClassFile.FieldType.int) [((4 : Nat), (9 : Nat), (12 : Nat), (55 : Nat))]) ∈ xWA := xw 953 (by decide +kernel) rfl
theorem xw_954 : (Jvm.Cond.methodLink "RingKilnLaw" (57 : Nat) ({ cls := "RingKiln", name := "fireChamber", desc := "()I" } : Jvm.MethodName)) ∈ xWA := xw 954 (by decide +kernel) rfl
theorem xw_955 : (Jvm.Cond.instanceMethod ({ cls := "RingKiln", name := "fireChamber", desc := "()I" } : Jvm.MethodName)) ∈ xWA := xw 955 (by decide +kernel) rfl
theorem xw_956 : (Jvm.Cond.selects "RingKiln" ({ cls := "RingKiln", name := "fireChamber", desc := "()I" } : Jvm.MethodName) ({ cls := "RingKiln", name := "fireChamber", desc := "()I" } : Jvm.MethodName)) ∈ xWA := xw 956 (by decide +kernel) rfl
theorem xw_957 : (Jvm.Cond.code ({ cls := "RingKiln", name := "fireChamber", desc := "()I" } : Jvm.MethodName) prog_1_method_14_code (1 : Nat) (Option.some Jvm.ClassFile.FieldType.int)) ∈ xWA := xw 957 (by decide +kernel) rfl
theorem xw_958 : (Jvm.Cond.methodLink "RingKiln" (111 : Nat) ({ cls := "RingKiln$Kiln", name := "fireIsLit", desc := "()Z" } : Jvm.MethodName)) ∈ xWA := xw 958 (by decide +kernel) rfl
theorem xw_959 : (Jvm.Cond.constantLong "RingKilnLaw" (201 : Nat) (31 : Int64)) ∈ xWA := xw 959 (by decide +kernel) rfl
theorem xw_960 : (Jvm.Cond.methodLink "RingKilnLaw" (203 : Nat) ({ cls := "RingKiln", name := "state", desc := "(I)C" } : Jvm.MethodName)) ∈ xWA := xw 960 (by decide +kernel) rfl
theorem xw_961 : (Jvm.Cond.instanceMethod ({ cls := "RingKiln", name := "state", desc := "(I)C" } : Jvm.MethodName)) ∈ xWA := xw 961 (by decide +kernel) rfl
theorem xw_962 : (Jvm.Cond.selects "RingKiln" ({ cls := "RingKiln", name := "state", desc := "(I)C" } : Jvm.MethodName) ({ cls := "RingKiln", name := "state", desc := "(I)C" } : Jvm.MethodName)) ∈ xWA := xw 962 (by decide +kernel) rfl
theorem xw_963 : (Jvm.Cond.code ({ cls := "RingKiln", name := "state", desc := "(I)C" } : Jvm.MethodName) prog_1_method_17_code (2 : Nat) (Option.some Jvm.ClassFile.FieldType.char)) ∈ xWA := xw 963 (by decide +kernel) rfl
theorem xw_964 : (Jvm.Cond.methodLink "RingKiln" (128 : Nat) ({ cls := "RingKiln", name := "needChamber", desc := "(I)V" } : Jvm.MethodName)) ∈ xWA := xw 964 (by decide +kernel) rfl
theorem xw_965 : (Jvm.Cond.static ({ cls := "RingKiln", name := "needChamber", desc := "(I)V" } : Jvm.MethodName)) ∈ xWA := xw 965 (by decide +kernel) rfl
theorem xw_966 : (Jvm.Cond.code ({ cls := "RingKiln", name := "needChamber", desc := "(I)V" } : Jvm.MethodName) prog_1_method_55_code (1 : Nat) (Option.none : Option Jvm.ClassFile.FieldType)) ∈ xWA := xw 966 (by decide +kernel) rfl
theorem xw_967 : (Jvm.Cond.methodLink "RingKiln" (318 : Nat) ({ cls := "RingKiln", name := "isChamber", desc := "(I)Z" } : Jvm.MethodName)) ∈ xWA := xw 967 (by decide +kernel) rfl
theorem xw_968 : (Jvm.Cond.methodLink "RingKilnLaw" (206 : Nat) ({ cls := "RingKiln", name := "bricks", desc := "(I)I" } : Jvm.MethodName)) ∈ xWA := xw 968 (by decide +kernel) rfl
theorem xw_969 : (Jvm.Cond.instanceMethod ({ cls := "RingKiln", name := "bricks", desc := "(I)I" } : Jvm.MethodName)) ∈ xWA := xw 969 (by decide +kernel) rfl
theorem xw_970 : (Jvm.Cond.selects "RingKiln" ({ cls := "RingKiln", name := "bricks", desc := "(I)I" } : Jvm.MethodName) ({ cls := "RingKiln", name := "bricks", desc := "(I)I" } : Jvm.MethodName)) ∈ xWA := xw 970 (by decide +kernel) rfl
theorem xw_971 : (Jvm.Cond.code ({ cls := "RingKiln", name := "bricks", desc := "(I)I" } : Jvm.MethodName) prog_1_method_18_code (2 : Nat) (Option.some Jvm.ClassFile.FieldType.int)) ∈ xWA := xw 971 (by decide +kernel) rfl
theorem xw_972 : (Jvm.Cond.methodLink "RingKilnLaw" (209 : Nat) ({ cls := "RingKiln", name := "temperature", desc := "(I)I" } : Jvm.MethodName)) ∈ xWA := xw 972 (by decide +kernel) rfl
theorem xw_973 : (Jvm.Cond.instanceMethod ({ cls := "RingKiln", name := "temperature", desc := "(I)I" } : Jvm.MethodName)) ∈ xWA := xw 973 (by decide +kernel) rfl
theorem xw_974 : (Jvm.Cond.selects "RingKiln" ({ cls := "RingKiln", name := "temperature", desc := "(I)I" } : Jvm.MethodName) ({ cls := "RingKiln", name := "temperature", desc := "(I)I" } : Jvm.MethodName)) ∈ xWA := xw 974 (by decide +kernel) rfl
theorem xw_975 : (Jvm.Cond.code ({ cls := "RingKiln", name := "temperature", desc := "(I)I" } : Jvm.MethodName) prog_1_method_19_code (2 : Nat) (Option.some Jvm.ClassFile.FieldType.int)) ∈ xWA := xw 975 (by decide +kernel) rfl
theorem xw_976 : (Jvm.Cond.methodLink "RingKilnLaw" (212 : Nat) ({ cls := "RingKiln", name := "fuel", desc := "(C)I" } : Jvm.MethodName)) ∈ xWA := xw 976 (by decide +kernel) rfl
theorem xw_977 : (Jvm.Cond.instanceMethod ({ cls := "RingKiln", name := "fuel", desc := "(C)I" } : Jvm.MethodName)) ∈ xWA := xw 977 (by decide +kernel) rfl
theorem xw_978 : (Jvm.Cond.selects "RingKiln" ({ cls := "RingKiln", name := "fuel", desc := "(C)I" } : Jvm.MethodName) ({ cls := "RingKiln", name := "fuel", desc := "(C)I" } : Jvm.MethodName)) ∈ xWA := xw 978 (by decide +kernel) rfl
theorem xw_979 : (Jvm.Cond.code ({ cls := "RingKiln", name := "fuel", desc := "(C)I" } : Jvm.MethodName) prog_1_method_25_code (2 : Nat) (Option.some Jvm.ClassFile.FieldType.int)) ∈ xWA := xw 979 (by decide +kernel) rfl
theorem xw_980 : (Jvm.Cond.methodLink "RingKiln" (171 : Nat) ({ cls := "RingKiln", name := "neededKind", desc := "(C)I" } : Jvm.MethodName)) ∈ xWA := xw 980 (by decide +kernel) rfl
theorem xw_981 : (Jvm.Cond.static ({ cls := "RingKiln", name := "neededKind", desc := "(C)I" } : Jvm.MethodName)) ∈ xWA := xw 981 (by decide +kernel) rfl
theorem xw_982 : (Jvm.Cond.code ({ cls := "RingKiln", name := "neededKind", desc := "(C)I" } : Jvm.MethodName) prog_1_method_57_code (2 : Nat) (Option.some Jvm.ClassFile.FieldType.int)) ∈ xWA := xw 982 (by decide +kernel) rfl
theorem xw_983 : (Jvm.Cond.methodLink "RingKiln" (324 : Nat) ({ cls := "RingKiln", name := "kindIndex", desc := "(I)I" } : Jvm.MethodName)) ∈ xWA := xw 983 (by decide +kernel) rfl
theorem xw_985 : (Jvm.Cond.methodLink "RingKilnLaw" (215 : Nat) ({ cls := "RingKiln", name := "price", desc := "(C)I" } : Jvm.MethodName)) ∈ xWA := xw 985 (by decide +kernel) rfl
theorem xw_986 : (Jvm.Cond.instanceMethod ({ cls := "RingKiln", name := "price", desc := "(C)I" } : Jvm.MethodName)) ∈ xWA := xw 986 (by decide +kernel) rfl
theorem xw_987 : (Jvm.Cond.selects "RingKiln" ({ cls := "RingKiln", name := "price", desc := "(C)I" } : Jvm.MethodName) ({ cls := "RingKiln", name := "price", desc := "(C)I" } : Jvm.MethodName)) ∈ xWA := xw 987 (by decide +kernel) rfl
theorem xw_988 : (Jvm.Cond.code ({ cls := "RingKiln", name := "price", desc := "(C)I" } : Jvm.MethodName) prog_1_method_26_code (2 : Nat) (Option.some Jvm.ClassFile.FieldType.int)) ∈ xWA := xw 988 (by decide +kernel) rfl
theorem xw_989 : (Jvm.Cond.methodLink "RingKilnLaw" (266 : Nat) ({ cls := "RingKilnLaw", name := "areChambers", desc := "(LRingKiln;)Z" } : Jvm.MethodName)) ∈ xWA := xw 989 (by decide +kernel) rfl
theorem xw_990 : (Jvm.Cond.static ({ cls := "RingKilnLaw", name := "areChambers", desc := "(LRingKiln;)Z" } : Jvm.MethodName)) ∈ xWA := xw 990 (by decide +kernel) rfl
theorem xw_991 : (Jvm.Cond.code ({ cls := "RingKilnLaw", name := "areChambers", desc := "(LRingKiln;)Z" } : Jvm.MethodName) method_31_code (10 : Nat) (Option.some Jvm.ClassFile.FieldType.boolean)) ∈ xWA := xw 991 (by decide +kernel) rfl
theorem xw_992 : (Jvm.Cond.methodLink "RingKilnLaw" (218 : Nat) ({ cls := "RingKiln", name := "isLit", desc := "()Z" } : Jvm.MethodName)) ∈ xWA := xw 992 (by decide +kernel) rfl
theorem xw_993 : (Jvm.Cond.instanceMethod ({ cls := "RingKiln", name := "isLit", desc := "()Z" } : Jvm.MethodName)) ∈ xWA := xw 993 (by decide +kernel) rfl
theorem xw_994 : (Jvm.Cond.selects "RingKiln" ({ cls := "RingKiln", name := "isLit", desc := "()Z" } : Jvm.MethodName) ({ cls := "RingKiln", name := "isLit", desc := "()Z" } : Jvm.MethodName)) ∈ xWA := xw 994 (by decide +kernel) rfl
theorem xw_995 : (Jvm.Cond.code ({ cls := "RingKiln", name := "isLit", desc := "()Z" } : Jvm.MethodName) prog_1_method_13_code (1 : Nat) (Option.some Jvm.ClassFile.FieldType.boolean)) ∈ xWA := xw 995 (by decide +kernel) rfl
theorem xw_996 : (Jvm.Cond.methodLink "RingKilnLaw" (222 : Nat) ({ cls := "RingKiln", name := "isConsistent", desc := "()Z" } : Jvm.MethodName)) ∈ xWA := xw 996 (by decide +kernel) rfl
theorem xw_997 : (Jvm.Cond.instanceMethod ({ cls := "RingKiln", name := "isConsistent", desc := "()Z" } : Jvm.MethodName)) ∈ xWA := xw 997 (by decide +kernel) rfl
theorem xw_998 : (Jvm.Cond.selects "RingKiln" ({ cls := "RingKiln", name := "isConsistent", desc := "()Z" } : Jvm.MethodName) ({ cls := "RingKiln", name := "isConsistent", desc := "()Z" } : Jvm.MethodName)) ∈ xWA := xw 998 (by decide +kernel) rfl
theorem xw_999 : (Jvm.Cond.code ({ cls := "RingKiln", name := "isConsistent", desc := "()Z" } : Jvm.MethodName) prog_1_method_41_code (1 : Nat) (Option.some Jvm.ClassFile.FieldType.boolean)) ∈ xWA := xw 999 (by decide +kernel) rfl
theorem xw_1000 : (Jvm.Cond.methodLink "RingKiln" (177 : Nat) ({ cls := "RingKiln", name := "costByTable", desc := "(I)I" } : Jvm.MethodName)) ∈ xWA := xw 1000 (by decide +kernel) rfl
theorem xw_1002 : (Jvm.Cond.instanceMethod ({ cls := "RingKiln", name := "costByTable", desc := "(I)I" } : Jvm.MethodName)) ∈ xWA := xw 1002 (by decide +kernel) rfl
theorem xw_1003 : (Jvm.Cond.code ({ cls := "RingKiln", name := "costByTable", desc := "(I)I" } : Jvm.MethodName) prog_1_method_63_code (2 : Nat) (Option.some Jvm.ClassFile.FieldType.int)) ∈ xWA := xw 1003 (by decide +kernel) rfl
theorem xw_1004 : (Jvm.Cond.methodLink "RingKiln" (390 : Nat) ({ cls := "RingKiln$Mixer", name := "cheapestByTable", desc := "([I[II)I" } : Jvm.MethodName)) ∈ xWA := xw 1004 (by decide +kernel) rfl
theorem xw_1005 : (Jvm.Cond.instanceMethod ({ cls := "RingKiln$Mixer", name := "cheapestByTable", desc := "([I[II)I" } : Jvm.MethodName)) ∈ xWA := xw 1005 (by decide +kernel) rfl
theorem xw_1006 : (Jvm.Cond.selects "RingKiln$Mixer" ({ cls := "RingKiln$Mixer", name := "cheapestByTable", desc := "([I[II)I" } : Jvm.MethodName) ({ cls := "RingKiln$Mixer", name := "cheapestByTable", desc := "([I[II)I" } : Jvm.MethodName)) ∈ xWA := xw 1006 (by decide +kernel) rfl
theorem xw_1007 : (Jvm.Cond.code ({ cls := "RingKiln$Mixer", name := "cheapestByTable", desc := "([I[II)I" } : Jvm.MethodName) prog_7_method_2_code (7 : Nat) (Option.some Jvm.ClassFile.FieldType.int)) ∈ xWA := xw 1007 (by decide +kernel) rfl
theorem xw_1008 : (Jvm.Cond.constant "RingKiln$Mixer" (29 : Nat) (1000000 : Int32)) ∈ xWA := xw 1008 (by decide +kernel) rfl
theorem xw_1009 : (Jvm.Cond.methodLink "RingKiln$Mixer" (33 : Nat) ({ cls := "RingKiln$Mixer", name := "extendTable", desc := "(IIII)V" } : Jvm.MethodName)) ∈ xWA := xw 1009 (by decide +kernel) rfl
theorem xw_1011 : (Jvm.Cond.instanceMethod ({ cls := "RingKiln$Mixer", name := "extendTable", desc := "(IIII)V" } : Jvm.MethodName)) ∈ xWA := xw 1011 (by decide +kernel) rfl
theorem xw_1012 : (Jvm.Cond.code ({ cls := "RingKiln$Mixer", name := "extendTable", desc := "(IIII)V" } : Jvm.MethodName) prog_7_method_3_code (8 : Nat) (Option.none : Option Jvm.ClassFile.FieldType)) ∈ xWA := xw 1012 (by decide +kernel) rfl
theorem xw_1013 : (Jvm.Cond.methodLink "RingKiln" (180 : Nat) ({ cls := "RingKiln", name := "costByTrying", desc := "(I)I" } : Jvm.MethodName)) ∈ xWA := xw 1013 (by decide +kernel) rfl
theorem xw_1015 : (Jvm.Cond.instanceMethod ({ cls := "RingKiln", name := "costByTrying", desc := "(I)I" } : Jvm.MethodName)) ∈ xWA := xw 1015 (by decide +kernel) rfl
theorem xw_1016 : (Jvm.Cond.code ({ cls := "RingKiln", name := "costByTrying", desc := "(I)I" } : Jvm.MethodName) prog_1_method_64_code (2 : Nat) (Option.some Jvm.ClassFile.FieldType.int)) ∈ xWA := xw 1016 (by decide +kernel) rfl
theorem xw_1017 : (Jvm.Cond.methodLink "RingKiln" (183 : Nat) ({ cls := "RingKiln$Mixer", name := "findBest", desc := "([I[II)Z" } : Jvm.MethodName)) ∈ xWA := xw 1017 (by decide +kernel) rfl
theorem xw_1018 : (Jvm.Cond.methodLink "RingKiln" (196 : Nat) ({ cls := "RingKiln$Courses", name := "countByTable", desc := "(II)J" } : Jvm.MethodName)) ∈ xWA := xw 1018 (by decide +kernel) rfl
theorem xw_1019 : (Jvm.Cond.instanceMethod ({ cls := "RingKiln$Courses", name := "countByTable", desc := "(II)J" } : Jvm.MethodName)) ∈ xWA := xw 1019 (by decide +kernel) rfl
theorem xw_1020 : (Jvm.Cond.selects "RingKiln$Courses" ({ cls := "RingKiln$Courses", name := "countByTable", desc := "(II)J" } : Jvm.MethodName) ({ cls := "RingKiln$Courses", name := "countByTable", desc := "(II)J" } : Jvm.MethodName)) ∈ xWA := xw 1020 (by decide +kernel) rfl
theorem xw_1021 : (Jvm.Cond.code ({ cls := "RingKiln$Courses", name := "countByTable", desc := "(II)J" } : Jvm.MethodName) prog_4_method_4_code (7 : Nat) (Option.some Jvm.ClassFile.FieldType.long)) ∈ xWA := xw 1021 (by decide +kernel) rfl
theorem xw_1022 : (Jvm.Cond.methodLink "RingKiln$Courses" (42 : Nat) ({ cls := "RingKiln$Courses", name := "addCourseToWays", desc := "([II)V" } : Jvm.MethodName)) ∈ xWA := xw 1022 (by decide +kernel) rfl
theorem xw_1024 : (Jvm.Cond.instanceMethod ({ cls := "RingKiln$Courses", name := "addCourseToWays", desc := "([II)V" } : Jvm.MethodName)) ∈ xWA := xw 1024 (by decide +kernel) rfl
theorem xw_1025 : (Jvm.Cond.code ({ cls := "RingKiln$Courses", name := "addCourseToWays", desc := "([II)V" } : Jvm.MethodName) prog_4_method_5_code (7 : Nat) (Option.none : Option Jvm.ClassFile.FieldType)) ∈ xWA := xw 1025 (by decide +kernel) rfl
theorem xw_1026 : (Jvm.Cond.methodLink "RingKiln" (200 : Nat) ({ cls := "RingKiln$Courses", name := "countByMemory", desc := "(II)J" } : Jvm.MethodName)) ∈ xWA := xw 1026 (by decide +kernel) rfl
theorem xw_1027 : (Jvm.Cond.instanceMethod ({ cls := "RingKiln$Courses", name := "countByMemory", desc := "(II)J" } : Jvm.MethodName)) ∈ xWA := xw 1027 (by decide +kernel) rfl
theorem xw_1028 : (Jvm.Cond.selects "RingKiln$Courses" ({ cls := "RingKiln$Courses", name := "countByMemory", desc := "(II)J" } : Jvm.MethodName) ({ cls := "RingKiln$Courses", name := "countByMemory", desc := "(II)J" } : Jvm.MethodName)) ∈ xWA := xw 1028 (by decide +kernel) rfl
theorem xw_1029 : (Jvm.Cond.code ({ cls := "RingKiln$Courses", name := "countByMemory", desc := "(II)J" } : Jvm.MethodName) prog_4_method_6_code (7 : Nat) (Option.some Jvm.ClassFile.FieldType.long)) ∈ xWA := xw 1029 (by decide +kernel) rfl
theorem xw_1030 : (Jvm.Cond.constantLong "RingKiln$Courses" (50 : Nat) (-1 : Int64)) ∈ xWA := xw 1030 (by decide +kernel) rfl
theorem xw_1031 : (Jvm.Cond.methodLink "RingKiln$Courses" (52 : Nat) ({ cls := "RingKiln$Courses", name := "countAbove", desc := "([IIII[[J)J" } : Jvm.MethodName)) ∈ xWA := xw 1031 (by decide +kernel) rfl
theorem xw_1032 : (Jvm.Cond.static ({ cls := "RingKiln$Courses", name := "countAbove", desc := "([IIII[[J)J" } : Jvm.MethodName)) ∈ xWA := xw 1032 (by decide +kernel) rfl
theorem xw_1033 : (Jvm.Cond.code ({ cls := "RingKiln$Courses", name := "countAbove", desc := "([IIII[[J)J" } : Jvm.MethodName) prog_4_method_7_code (8 : Nat) (Option.some Jvm.ClassFile.FieldType.long)) ∈ xWA := xw 1033 (by decide +kernel) rfl
theorem xw_1034 : (Jvm.Cond.methodLink "RingKilnLaw" (225 : Nat) ({ cls := "RingKilnLaw", name := "hoursUntilCool", desc := "(LRingKiln;I)I" } : Jvm.MethodName)) ∈ xWA := xw 1034 (by decide +kernel) rfl
theorem xw_1035 : (Jvm.Cond.static ({ cls := "RingKilnLaw", name := "hoursUntilCool", desc := "(LRingKiln;I)I" } : Jvm.MethodName)) ∈ xWA := xw 1035 (by decide +kernel) rfl
theorem xw_1036 : (Jvm.Cond.codeWith ({ cls := "RingKilnLaw", name := "hoursUntilCool", desc := "(LRingKiln;I)I" } : Jvm.MethodName) method_16_code (4 : Nat) (Option.some Jvm.ClassFile.FieldType.int) [((4 : Nat), (10 : Nat), (13 : Nat), (17 : Nat)), ((4 : Nat), (10 : Nat), (18 : Nat), (55 : Nat))]) ∈ xWA := xw 1036 (by decide +kernel) rfl
theorem xw_1037 : (Jvm.Cond.methodLink "RingKilnLaw" (66 : Nat) ({ cls := "RingKiln", name := "hoursUntilCool", desc := "(I)I" } : Jvm.MethodName)) ∈ xWA := xw 1037 (by decide +kernel) rfl
theorem xw_1038 : (Jvm.Cond.instanceMethod ({ cls := "RingKiln", name := "hoursUntilCool", desc := "(I)I" } : Jvm.MethodName)) ∈ xWA := xw 1038 (by decide +kernel) rfl
theorem xw_1039 : (Jvm.Cond.selects "RingKiln" ({ cls := "RingKiln", name := "hoursUntilCool", desc := "(I)I" } : Jvm.MethodName) ({ cls := "RingKiln", name := "hoursUntilCool", desc := "(I)I" } : Jvm.MethodName)) ∈ xWA := xw 1039 (by decide +kernel) rfl
theorem xw_1040 : (Jvm.Cond.code ({ cls := "RingKiln", name := "hoursUntilCool", desc := "(I)I" } : Jvm.MethodName) prog_1_method_23_code (2 : Nat) (Option.some Jvm.ClassFile.FieldType.int)) ∈ xWA := xw 1040 (by decide +kernel) rfl
theorem xw_1041 : (Jvm.Cond.methodLink "RingKiln" (158 : Nat) ({ cls := "RingKiln$Kiln", name := "hoursTillCool", desc := "(I)I" } : Jvm.MethodName)) ∈ xWA := xw 1041 (by decide +kernel) rfl
theorem xw_1042 : (Jvm.Cond.instanceMethod ({ cls := "RingKiln$Kiln", name := "hoursTillCool", desc := "(I)I" } : Jvm.MethodName)) ∈ xWA := xw 1042 (by decide +kernel) rfl
theorem xw_1043 : (Jvm.Cond.selects "RingKiln$Kiln" ({ cls := "RingKiln$Kiln", name := "hoursTillCool", desc := "(I)I" } : Jvm.MethodName) ({ cls := "RingKiln$Kiln", name := "hoursTillCool", desc := "(I)I" } : Jvm.MethodName)) ∈ xWA := xw 1043 (by decide +kernel) rfl
theorem xw_1044 : (Jvm.Cond.code ({ cls := "RingKiln$Kiln", name := "hoursTillCool", desc := "(I)I" } : Jvm.MethodName) prog_6_method_22_code (3 : Nat) (Option.some Jvm.ClassFile.FieldType.int)) ∈ xWA := xw 1044 (by decide +kernel) rfl
theorem xw_1045 : (Jvm.Cond.methodLink "RingKilnLaw" (227 : Nat) ({ cls := "RingKilnLaw", name := "chamberAtRank", desc := "(LRingKiln;I)I" } : Jvm.MethodName)) ∈ xWA := xw 1045 (by decide +kernel) rfl
theorem xw_1046 : (Jvm.Cond.static ({ cls := "RingKilnLaw", name := "chamberAtRank", desc := "(LRingKiln;I)I" } : Jvm.MethodName)) ∈ xWA := xw 1046 (by decide +kernel) rfl
theorem xw_1047 : (Jvm.Cond.codeWith ({ cls := "RingKilnLaw", name := "chamberAtRank", desc := "(LRingKiln;I)I" } : Jvm.MethodName) method_14_code (4 : Nat) (Option.some Jvm.ClassFile.FieldType.int) [((4 : Nat), (10 : Nat), (13 : Nat), (55 : Nat))]) ∈ xWA := xw 1047 (by decide +kernel) rfl
theorem xw_1048 : (Jvm.Cond.methodLink "RingKilnLaw" (60 : Nat) ({ cls := "RingKiln", name := "chamberAtRank", desc := "(I)I" } : Jvm.MethodName)) ∈ xWA := xw 1048 (by decide +kernel) rfl
theorem xw_1049 : (Jvm.Cond.instanceMethod ({ cls := "RingKiln", name := "chamberAtRank", desc := "(I)I" } : Jvm.MethodName)) ∈ xWA := xw 1049 (by decide +kernel) rfl
theorem xw_1050 : (Jvm.Cond.selects "RingKiln" ({ cls := "RingKiln", name := "chamberAtRank", desc := "(I)I" } : Jvm.MethodName) ({ cls := "RingKiln", name := "chamberAtRank", desc := "(I)I" } : Jvm.MethodName)) ∈ xWA := xw 1050 (by decide +kernel) rfl
theorem xw_1051 : (Jvm.Cond.code ({ cls := "RingKiln", name := "chamberAtRank", desc := "(I)I" } : Jvm.MethodName) prog_1_method_20_code (2 : Nat) (Option.some Jvm.ClassFile.FieldType.int)) ∈ xWA := xw 1051 (by decide +kernel) rfl
theorem xw_1052 : (Jvm.Cond.methodLink "RingKiln" (143 : Nat) ({ cls := "RingKiln$Kiln", name := "chamberRanked", desc := "(I)I" } : Jvm.MethodName)) ∈ xWA := xw 1052 (by decide +kernel) rfl
theorem xw_1053 : (Jvm.Cond.instanceMethod ({ cls := "RingKiln$Kiln", name := "chamberRanked", desc := "(I)I" } : Jvm.MethodName)) ∈ xWA := xw 1053 (by decide +kernel) rfl
theorem xw_1054 : (Jvm.Cond.selects "RingKiln$Kiln" ({ cls := "RingKiln$Kiln", name := "chamberRanked", desc := "(I)I" } : Jvm.MethodName) ({ cls := "RingKiln$Kiln", name := "chamberRanked", desc := "(I)I" } : Jvm.MethodName)) ∈ xWA := xw 1054 (by decide +kernel) rfl
theorem xw_1055 : (Jvm.Cond.code ({ cls := "RingKiln$Kiln", name := "chamberRanked", desc := "(I)I" } : Jvm.MethodName) prog_6_method_8_code (3 : Nat) (Option.some Jvm.ClassFile.FieldType.int)) ∈ xWA := xw 1055 (by decide +kernel) rfl
theorem xw_1056 : (Jvm.Cond.methodLink "RingKiln$Kiln" (71 : Nat) ({ cls := "RingKiln$Kiln", name := "rankOf", desc := "(I)I" } : Jvm.MethodName)) ∈ xWA := xw 1056 (by decide +kernel) rfl
theorem xw_1058 : (Jvm.Cond.instanceMethod ({ cls := "RingKiln$Kiln", name := "rankOf", desc := "(I)I" } : Jvm.MethodName)) ∈ xWA := xw 1058 (by decide +kernel) rfl
theorem xw_1059 : (Jvm.Cond.code ({ cls := "RingKiln$Kiln", name := "rankOf", desc := "(I)I" } : Jvm.MethodName) prog_6_method_9_code (4 : Nat) (Option.some Jvm.ClassFile.FieldType.int)) ∈ xWA := xw 1059 (by decide +kernel) rfl
theorem xw_1060 : (Jvm.Cond.methodLink "RingKiln$Kiln" (75 : Nat) ({ cls := "RingKiln$Kiln", name := "comesBefore", desc := "(II)Z" } : Jvm.MethodName)) ∈ xWA := xw 1060 (by decide +kernel) rfl
theorem xw_1062 : (Jvm.Cond.instanceMethod ({ cls := "RingKiln$Kiln", name := "comesBefore", desc := "(II)Z" } : Jvm.MethodName)) ∈ xWA := xw 1062 (by decide +kernel) rfl
theorem xw_1063 : (Jvm.Cond.code ({ cls := "RingKiln$Kiln", name := "comesBefore", desc := "(II)Z" } : Jvm.MethodName) prog_6_method_10_code (3 : Nat) (Option.some Jvm.ClassFile.FieldType.boolean)) ∈ xWA := xw 1063 (by decide +kernel) rfl
theorem xw_1064 : (Jvm.Cond.methodLink "RingKilnLaw" (229 : Nat) ({ cls := "RingKiln", name := "chambersIn", desc := "(C)I" } : Jvm.MethodName)) ∈ xWA := xw 1064 (by decide +kernel) rfl
theorem xw_1065 : (Jvm.Cond.instanceMethod ({ cls := "RingKiln", name := "chambersIn", desc := "(C)I" } : Jvm.MethodName)) ∈ xWA := xw 1065 (by decide +kernel) rfl
theorem xw_1066 : (Jvm.Cond.selects "RingKiln" ({ cls := "RingKiln", name := "chambersIn", desc := "(C)I" } : Jvm.MethodName) ({ cls := "RingKiln", name := "chambersIn", desc := "(C)I" } : Jvm.MethodName)) ∈ xWA := xw 1066 (by decide +kernel) rfl
theorem xw_1067 : (Jvm.Cond.code ({ cls := "RingKiln", name := "chambersIn", desc := "(C)I" } : Jvm.MethodName) prog_1_method_21_code (3 : Nat) (Option.some Jvm.ClassFile.FieldType.int)) ∈ xWA := xw 1067 (by decide +kernel) rfl
theorem xw_1068 : (Jvm.Cond.methodLink "RingKiln" (146 : Nat) ({ cls := "RingKiln$Kiln", name := "countIn", desc := "(C)I" } : Jvm.MethodName)) ∈ xWA := xw 1068 (by decide +kernel) rfl
theorem xw_1069 : (Jvm.Cond.methodLink "RingKilnLaw" (232 : Nat) ({ cls := "RingKiln", name := "brickTotalByAccounts", desc := "()I" } : Jvm.MethodName)) ∈ xWA := xw 1069 (by decide +kernel) rfl
theorem xw_1070 : (Jvm.Cond.instanceMethod ({ cls := "RingKiln", name := "brickTotalByAccounts", desc := "()I" } : Jvm.MethodName)) ∈ xWA := xw 1070 (by decide +kernel) rfl
theorem xw_1071 : (Jvm.Cond.selects "RingKiln" ({ cls := "RingKiln", name := "brickTotalByAccounts", desc := "()I" } : Jvm.MethodName) ({ cls := "RingKiln", name := "brickTotalByAccounts", desc := "()I" } : Jvm.MethodName)) ∈ xWA := xw 1071 (by decide +kernel) rfl
theorem xw_1072 : (Jvm.Cond.code ({ cls := "RingKiln", name := "brickTotalByAccounts", desc := "()I" } : Jvm.MethodName) prog_1_method_37_code (1 : Nat) (Option.some Jvm.ClassFile.FieldType.int)) ∈ xWA := xw 1072 (by decide +kernel) rfl
theorem xw_1073 : (Jvm.Cond.methodLink "RingKilnLaw" (235 : Nat) ({ cls := "RingKiln", name := "meanTemperature", desc := "()D" } : Jvm.MethodName)) ∈ xWA := xw 1073 (by decide +kernel) rfl
theorem xw_1074 : (Jvm.Cond.instanceMethod ({ cls := "RingKiln", name := "meanTemperature", desc := "()D" } : Jvm.MethodName)) ∈ xWA := xw 1074 (by decide +kernel) rfl
theorem xw_1075 : (Jvm.Cond.selects "RingKiln" ({ cls := "RingKiln", name := "meanTemperature", desc := "()D" } : Jvm.MethodName) ({ cls := "RingKiln", name := "meanTemperature", desc := "()D" } : Jvm.MethodName)) ∈ xWA := xw 1075 (by decide +kernel) rfl
theorem xw_1076 : (Jvm.Cond.code ({ cls := "RingKiln", name := "meanTemperature", desc := "()D" } : Jvm.MethodName) prog_1_method_39_code (1 : Nat) (Option.some Jvm.ClassFile.FieldType.double)) ∈ xWA := xw 1076 (by decide +kernel) rfl
theorem xw_1077 : (Jvm.Cond.methodLink "RingKiln" (225 : Nat) ({ cls := "RingKiln$Kiln", name := "sumOfTemperatures", desc := "()I" } : Jvm.MethodName)) ∈ xWA := xw 1077 (by decide +kernel) rfl
theorem xw_1078 : (Jvm.Cond.instanceMethod ({ cls := "RingKiln$Kiln", name := "sumOfTemperatures", desc := "()I" } : Jvm.MethodName)) ∈ xWA := xw 1078 (by decide +kernel) rfl
theorem xw_1079 : (Jvm.Cond.selects "RingKiln$Kiln" ({ cls := "RingKiln$Kiln", name := "sumOfTemperatures", desc := "()I" } : Jvm.MethodName) ({ cls := "RingKiln$Kiln", name := "sumOfTemperatures", desc := "()I" } : Jvm.MethodName)) ∈ xWA := xw 1079 (by decide +kernel) rfl
theorem xw_1080 : (Jvm.Cond.code ({ cls := "RingKiln$Kiln", name := "sumOfTemperatures", desc := "()I" } : Jvm.MethodName) prog_6_method_7_code (6 : Nat) (Option.some Jvm.ClassFile.FieldType.int)) ∈ xWA := xw 1080 (by decide +kernel) rfl
theorem xw_1081 : (Jvm.Cond.constantDouble "RingKiln" (228 : Nat) (4620693217682128896 : UInt64)) ∈ xWA := xw 1081 (by decide +kernel) rfl
theorem xw_1082 : (Jvm.Cond.constantDouble "RingKilnLaw" (239 : Nat) (4620693217682128896 : UInt64)) ∈ xWA := xw 1082 (by decide +kernel) rfl
theorem xw_1083 : (Jvm.Cond.methodLink "RingKilnLaw" (241 : Nat) ({ cls := "RingKiln", name := "writeRing", desc := "()I" } : Jvm.MethodName)) ∈ xWA := xw 1083 (by decide +kernel) rfl
theorem xw_1084 : (Jvm.Cond.instanceMethod ({ cls := "RingKiln", name := "writeRing", desc := "()I" } : Jvm.MethodName)) ∈ xWA := xw 1084 (by decide +kernel) rfl
theorem xw_1085 : (Jvm.Cond.selects "RingKiln" ({ cls := "RingKiln", name := "writeRing", desc := "()I" } : Jvm.MethodName) ({ cls := "RingKiln", name := "writeRing", desc := "()I" } : Jvm.MethodName)) ∈ xWA := xw 1085 (by decide +kernel) rfl
theorem xw_1086 : (Jvm.Cond.code ({ cls := "RingKiln", name := "writeRing", desc := "()I" } : Jvm.MethodName) prog_1_method_46_code (2 : Nat) (Option.some Jvm.ClassFile.FieldType.int)) ∈ xWA := xw 1086 (by decide +kernel) rfl
theorem xw_1087 : (Jvm.Cond.methodLink "RingKiln" (277 : Nat) ({ cls := "java/lang/StringBuilder", name := "setLength", desc := "(I)V" } : Jvm.MethodName)) ∈ xWA := xw 1087 (by decide +kernel) rfl
theorem xw_1088 : (Jvm.Cond.instanceMethod ({ cls := "java/lang/StringBuilder", name := "setLength", desc := "(I)V" } : Jvm.MethodName)) ∈ xWA := xw 1088 (by decide +kernel) rfl
theorem xw_1089 : (Jvm.Cond.selects "java/lang/StringBuilder" ({ cls := "java/lang/StringBuilder", name := "setLength", desc := "(I)V" } : Jvm.MethodName) ({ cls := "java/lang/StringBuilder", name := "setLength", desc := "(I)V" } : Jvm.MethodName)) ∈ xWA := xw 1089 (by decide +kernel) rfl
theorem xw_1090 : (Jvm.Cond.code ({ cls := "java/lang/StringBuilder", name := "setLength", desc := "(I)V" } : Jvm.MethodName) prog_28_method_89_code (2 : Nat) (Option.none : Option Jvm.ClassFile.FieldType)) ∈ xWA := xw 1090 (by decide +kernel) rfl
theorem xw_1091 : (Jvm.Cond.methodLink "java/lang/StringBuilder" (333 : Nat) ({ cls := "java/lang/AbstractStringBuilder", name := "setLength", desc := "(I)V" } : Jvm.MethodName)) ∈ xWA := xw 1091 (by decide +kernel) rfl
theorem xw_1092 : (Jvm.Cond.instanceMethod ({ cls := "java/lang/AbstractStringBuilder", name := "setLength", desc := "(I)V" } : Jvm.MethodName)) ∈ xWA := xw 1092 (by decide +kernel) rfl
theorem xw_1093 : (Jvm.Cond.code ({ cls := "java/lang/AbstractStringBuilder", name := "setLength", desc := "(I)V" } : Jvm.MethodName) prog_12_method_13_code (2 : Nat) (Option.none : Option Jvm.ClassFile.FieldType)) ∈ xWA := xw 1093 (by decide +kernel) rfl
theorem xw_1096 : (Jvm.Cond.methodLink "java/lang/AbstractStringBuilder" (131 : Nat) ({ cls := "java/lang/StringIndexOutOfBoundsException", name := "<init>", desc := "(I)V" } : Jvm.MethodName)) ∈ xWA := xw 1096 (by decide +kernel) rfl
theorem xw_1113 : (Jvm.Cond.methodLink "java/lang/AbstractStringBuilder" (100 : Nat) ({ cls := "java/lang/AbstractStringBuilder", name := "ensureCapacityInternal", desc := "(I)V" } : Jvm.MethodName)) ∈ xWA := xw 1113 (by decide +kernel) rfl
theorem xw_1115 : (Jvm.Cond.instanceMethod ({ cls := "java/lang/AbstractStringBuilder", name := "ensureCapacityInternal", desc := "(I)V" } : Jvm.MethodName)) ∈ xWA := xw 1115 (by decide +kernel) rfl
theorem xw_1116 : (Jvm.Cond.code ({ cls := "java/lang/AbstractStringBuilder", name := "ensureCapacityInternal", desc := "(I)V" } : Jvm.MethodName) prog_12_method_9_code (3 : Nat) (Option.none : Option Jvm.ClassFile.FieldType)) ∈ xWA := xw 1116 (by decide +kernel) rfl
theorem xw_1117 : (Jvm.Cond.methodLink "java/lang/AbstractStringBuilder" (104 : Nat) ({ cls := "java/lang/AbstractStringBuilder", name := "newCapacity", desc := "(I)I" } : Jvm.MethodName)) ∈ xWA := xw 1117 (by decide +kernel) rfl
theorem xw_1119 : (Jvm.Cond.instanceMethod ({ cls := "java/lang/AbstractStringBuilder", name := "newCapacity", desc := "(I)I" } : Jvm.MethodName)) ∈ xWA := xw 1119 (by decide +kernel) rfl
theorem xw_1120 : (Jvm.Cond.code ({ cls := "java/lang/AbstractStringBuilder", name := "newCapacity", desc := "(I)I" } : Jvm.MethodName) prog_12_method_10_code (6 : Nat) (Option.some Jvm.ClassFile.FieldType.int)) ∈ xWA := xw 1120 (by decide +kernel) rfl
theorem xw_1121 : (Jvm.Cond.methodLink "java/lang/AbstractStringBuilder" (114 : Nat) ({ cls := "jdk/internal/util/ArraysSupport", name := "newLength", desc := "(III)I" } : Jvm.MethodName)) ∈ xWA := xw 1121 (by decide +kernel) rfl
theorem xw_1122 : (Jvm.Cond.static ({ cls := "jdk/internal/util/ArraysSupport", name := "newLength", desc := "(III)I" } : Jvm.MethodName)) ∈ xWA := xw 1122 (by decide +kernel) rfl
theorem xw_1123 : (Jvm.Cond.code ({ cls := "jdk/internal/util/ArraysSupport", name := "newLength", desc := "(III)I" } : Jvm.MethodName) prog_39_method_27_code (4 : Nat) (Option.some Jvm.ClassFile.FieldType.int)) ∈ xWA := xw 1123 (by decide +kernel) rfl
theorem xw_1124 : (Jvm.Cond.methodLink "jdk/internal/util/ArraysSupport" (194 : Nat) ({ cls := "java/lang/Math", name := "max", desc := "(II)I" } : Jvm.MethodName)) ∈ xWA := xw 1124 (by decide +kernel) rfl
theorem xw_1125 : (Jvm.Cond.constant "jdk/internal/util/ArraysSupport" (200 : Nat) (2147483639 : Int32)) ∈ xWA := xw 1125 (by decide +kernel) rfl
theorem xw_1126 : (Jvm.Cond.methodLink "jdk/internal/util/ArraysSupport" (201 : Nat) ({ cls := "jdk/internal/util/ArraysSupport", name := "hugeLength", desc := "(II)I" } : Jvm.MethodName)) ∈ xWA := xw 1126 (by decide +kernel) rfl
theorem xw_1129 : (Jvm.Cond.constant "java/lang/AbstractStringBuilder" (39 : Nat) (2147483647 : Int32)) ∈ xWA := xw 1129 (by decide +kernel) rfl
theorem xw_1130 : (Jvm.Cond.methodLink "java/lang/AbstractStringBuilder" (108 : Nat) ({ cls := "java/util/Arrays", name := "copyOf", desc := "([BI)[B" } : Jvm.MethodName)) ∈ xWA := xw 1130 (by decide +kernel) rfl
theorem xw_1131 : (Jvm.Cond.static ({ cls := "java/util/Arrays", name := "copyOf", desc := "([BI)[B" } : Jvm.MethodName)) ∈ xWA := xw 1131 (by decide +kernel) rfl
theorem xw_1132 : (Jvm.Cond.code ({ cls := "java/util/Arrays", name := "copyOf", desc := "([BI)[B" } : Jvm.MethodName) prog_37_method_121_code (3 : Nat) (Option.some (Jvm.ClassFile.FieldType.array Jvm.ClassFile.FieldType.byte))) ∈ xWA := xw 1132 (by decide +kernel) rfl
theorem xw_1133 : (Jvm.Cond.methodLink "java/util/Arrays" (310 : Nat) ({ cls := "[B", name := "clone", desc := "()Ljava/lang/Object;" } : Jvm.MethodName)) ∈ xWA := xw 1133 (by decide +kernel) rfl
theorem xw_1140 : (Jvm.Cond.methodLink "java/util/Arrays" (304 : Nat) ({ cls := "java/lang/Math", name := "min", desc := "(II)I" } : Jvm.MethodName)) ∈ xWA := xw 1140 (by decide +kernel) rfl
theorem xw_1141 : (Jvm.Cond.methodLink "java/util/Arrays" (150 : Nat) ({ cls := "java/lang/System", name := "arraycopy", desc := "(Ljava/lang/Object;ILjava/lang/Object;II)V" } : Jvm.MethodName)) ∈ xWA := xw 1141 (by decide +kernel) rfl
theorem xw_1142 : (Jvm.Cond.methodLink "java/lang/AbstractStringBuilder" (83 : Nat) ({ cls := "java/lang/AbstractStringBuilder", name := "isLatin1", desc := "()Z" } : Jvm.MethodName)) ∈ xWA := xw 1142 (by decide +kernel) rfl
theorem xw_1143 : (Jvm.Cond.instanceMethod ({ cls := "java/lang/AbstractStringBuilder", name := "isLatin1", desc := "()Z" } : Jvm.MethodName)) ∈ xWA := xw 1143 (by decide +kernel) rfl
theorem xw_1144 : (Jvm.Cond.sameMethod "java/lang/AbstractStringBuilder" "java/lang/AbstractStringBuilder" "isLatin1" "()Z") ∈ xWA := xw 1144 (by decide +kernel) rfl
theorem xw_1145 : (Jvm.Cond.selects "java/lang/StringBuilder" ({ cls := "java/lang/AbstractStringBuilder", name := "isLatin1", desc := "()Z" } : Jvm.MethodName) ({ cls := "java/lang/AbstractStringBuilder", name := "isLatin1", desc := "()Z" } : Jvm.MethodName)) ∈ xWA := xw 1145 (by decide +kernel) rfl
theorem xw_1146 : (Jvm.Cond.code ({ cls := "java/lang/AbstractStringBuilder", name := "isLatin1", desc := "()Z" } : Jvm.MethodName) prog_12_method_68_code (1 : Nat) (Option.some Jvm.ClassFile.FieldType.boolean)) ∈ xWA := xw 1146 (by decide +kernel) rfl
theorem xw_1172 : (Jvm.Cond.methodLink "java/lang/AbstractStringBuilder" (195 : Nat) ({ cls := "java/lang/AbstractStringBuilder", name := "inflate", desc := "()V" } : Jvm.MethodName)) ∈ xWA := xw 1172 (by decide +kernel) rfl
theorem xw_1198 : (Jvm.Cond.instanceMethod ({ cls := "java/lang/StringBuilder", name := "append", desc := "(I)Ljava/lang/StringBuilder;" } : Jvm.MethodName)) ∈ xWA := xw 1198 (by decide +kernel) rfl
theorem xw_1199 : (Jvm.Cond.selects "java/lang/StringBuilder" ({ cls := "java/lang/StringBuilder", name := "append", desc := "(I)Ljava/lang/StringBuilder;" } : Jvm.MethodName) ({ cls := "java/lang/StringBuilder", name := "append", desc := "(I)Ljava/lang/StringBuilder;" } : Jvm.MethodName)) ∈ xWA := xw 1199 (by decide +kernel) rfl
theorem xw_1200 : (Jvm.Cond.code ({ cls := "java/lang/StringBuilder", name := "append", desc := "(I)Ljava/lang/StringBuilder;" } : Jvm.MethodName) prog_28_method_15_code (2 : Nat) (Option.some (Jvm.ClassFile.FieldType.object "java/lang/StringBuilder"))) ∈ xWA := xw 1200 (by decide +kernel) rfl
theorem xw_1201 : (Jvm.Cond.methodLink "java/lang/StringBuilder" (53 : Nat) ({ cls := "java/lang/AbstractStringBuilder", name := "append", desc := "(I)Ljava/lang/AbstractStringBuilder;" } : Jvm.MethodName)) ∈ xWA := xw 1201 (by decide +kernel) rfl
theorem xw_1202 : (Jvm.Cond.instanceMethod ({ cls := "java/lang/AbstractStringBuilder", name := "append", desc := "(I)Ljava/lang/AbstractStringBuilder;" } : Jvm.MethodName)) ∈ xWA := xw 1202 (by decide +kernel) rfl
theorem xw_1203 : (Jvm.Cond.code ({ cls := "java/lang/AbstractStringBuilder", name := "append", desc := "(I)Ljava/lang/AbstractStringBuilder;" } : Jvm.MethodName) prog_12_method_32_code (4 : Nat) (Option.some (Jvm.ClassFile.FieldType.object "java/lang/AbstractStringBuilder"))) ∈ xWA := xw 1203 (by decide +kernel) rfl
theorem xw_1204 : (Jvm.Cond.methodLink "java/lang/AbstractStringBuilder" (245 : Nat) ({ cls := "java/lang/Integer", name := "stringSize", desc := "(I)I" } : Jvm.MethodName)) ∈ xWA := xw 1204 (by decide +kernel) rfl
theorem xw_1205 : (Jvm.Cond.static ({ cls := "java/lang/Integer", name := "stringSize", desc := "(I)I" } : Jvm.MethodName)) ∈ xWA := xw 1205 (by decide +kernel) rfl
theorem xw_1206 : (Jvm.Cond.code ({ cls := "java/lang/Integer", name := "stringSize", desc := "(I)I" } : Jvm.MethodName) prog_23_method_13_code (4 : Nat) (Option.some Jvm.ClassFile.FieldType.int)) ∈ xWA := xw 1206 (by decide +kernel) rfl
theorem xw_1207 : (Jvm.Cond.methodLink "java/lang/AbstractStringBuilder" (248 : Nat) ({ cls := "java/lang/Integer", name := "getChars", desc := "(II[B)I" } : Jvm.MethodName)) ∈ xWA := xw 1207 (by decide +kernel) rfl
theorem xw_1208 : (Jvm.Cond.static ({ cls := "java/lang/Integer", name := "getChars", desc := "(II[B)I" } : Jvm.MethodName)) ∈ xWA := xw 1208 (by decide +kernel) rfl
theorem xw_1209 : (Jvm.Cond.code ({ cls := "java/lang/Integer", name := "getChars", desc := "(II[B)I" } : Jvm.MethodName) prog_23_method_12_code (7 : Nat) (Option.some Jvm.ClassFile.FieldType.int)) ∈ xWA := xw 1209 (by decide +kernel) rfl
theorem xw_1210 : (Jvm.Cond.fieldLink "java/lang/Integer" (83 : Nat) "java/lang/Integer" "DigitOnes" "[B") ∈ xWA := xw 1210 (by decide +kernel) rfl
theorem xw_1212 : (Jvm.Cond.fieldLink "java/lang/Integer" (87 : Nat) "java/lang/Integer" "DigitTens" "[B") ∈ xWA := xw 1212 (by decide +kernel) rfl
theorem xw_1214 : (Jvm.Cond.methodLink "java/lang/AbstractStringBuilder" (251 : Nat) ({ cls := "java/lang/StringUTF16", name := "getChars", desc := "(III[B)I" } : Jvm.MethodName)) ∈ xWA := xw 1214 (by decide +kernel) rfl
theorem xw_1240 : (Jvm.Cond.instanceMethod ({ cls := "java/lang/AbstractStringBuilder", name := "length", desc := "()I" } : Jvm.MethodName)) ∈ xWA := xw 1240 (by decide +kernel) rfl
theorem xw_1241 : (Jvm.Cond.sameMethod "java/lang/AbstractStringBuilder" "java/lang/AbstractStringBuilder" "length" "()I") ∈ xWA := xw 1241 (by decide +kernel) rfl
theorem xw_1243 : (Jvm.Cond.instanceMethod ({ cls := "java/lang/StringBuilder", name := "length", desc := "()I" } : Jvm.MethodName)) ∈ xWA := xw 1243 (by decide +kernel) rfl
theorem xw_1244 : (Jvm.Cond.code ({ cls := "java/lang/StringBuilder", name := "length", desc := "()I" } : Jvm.MethodName) prog_28_method_93_code (1 : Nat) (Option.some Jvm.ClassFile.FieldType.int)) ∈ xWA := xw 1244 (by decide +kernel) rfl
theorem xw_1245 : (Jvm.Cond.methodLink "java/lang/StringBuilder" (343 : Nat) ({ cls := "java/lang/AbstractStringBuilder", name := "length", desc := "()I" } : Jvm.MethodName)) ∈ xWA := xw 1245 (by decide +kernel) rfl
theorem xw_1246 : (Jvm.Cond.code ({ cls := "java/lang/AbstractStringBuilder", name := "length", desc := "()I" } : Jvm.MethodName) prog_12_method_6_code (1 : Nat) (Option.some Jvm.ClassFile.FieldType.int)) ∈ xWA := xw 1246 (by decide +kernel) rfl
theorem xw_1275 : (Jvm.Cond.fieldLink "java/lang/String" (9 : Nat) "java/lang/String" "value" "[B") ∈ xWA := xw 1275 (by decide +kernel) rfl
theorem xw_1276 : (Jvm.Cond.fieldLink "java/lang/String" (15 : Nat) "java/lang/String" "coder" "B") ∈ xWA := xw 1276 (by decide +kernel) rfl
theorem xw_1290 : (Jvm.Cond.methodLink "java/lang/AbstractStringBuilder" (133 : Nat) ({ cls := "java/lang/StringLatin1", name := "fillNull", desc := "([BII)V" } : Jvm.MethodName)) ∈ xWA := xw 1290 (by decide +kernel) rfl
theorem xw_1312 : (Jvm.Cond.methodLink "java/lang/AbstractStringBuilder" (137 : Nat) ({ cls := "java/lang/StringUTF16", name := "fillNull", desc := "([BII)V" } : Jvm.MethodName)) ∈ xWA := xw 1312 (by decide +kernel) rfl
theorem xw_1316 : (Jvm.Cond.methodLink "RingKiln" (280 : Nat) ({ cls := "java/lang/StringBuilder", name := "append", desc := "(C)Ljava/lang/StringBuilder;" } : Jvm.MethodName)) ∈ xWA := xw 1316 (by decide +kernel) rfl
theorem xw_1317 : (Jvm.Cond.instanceMethod ({ cls := "java/lang/StringBuilder", name := "append", desc := "(C)Ljava/lang/StringBuilder;" } : Jvm.MethodName)) ∈ xWA := xw 1317 (by decide +kernel) rfl
theorem xw_1318 : (Jvm.Cond.selects "java/lang/StringBuilder" ({ cls := "java/lang/StringBuilder", name := "append", desc := "(C)Ljava/lang/StringBuilder;" } : Jvm.MethodName) ({ cls := "java/lang/StringBuilder", name := "append", desc := "(C)Ljava/lang/StringBuilder;" } : Jvm.MethodName)) ∈ xWA := xw 1318 (by decide +kernel) rfl
theorem xw_1319 : (Jvm.Cond.code ({ cls := "java/lang/StringBuilder", name := "append", desc := "(C)Ljava/lang/StringBuilder;" } : Jvm.MethodName) prog_28_method_14_code (2 : Nat) (Option.some (Jvm.ClassFile.FieldType.object "java/lang/StringBuilder"))) ∈ xWA := xw 1319 (by decide +kernel) rfl
theorem xw_1320 : (Jvm.Cond.methodLink "java/lang/StringBuilder" (50 : Nat) ({ cls := "java/lang/AbstractStringBuilder", name := "append", desc := "(C)Ljava/lang/AbstractStringBuilder;" } : Jvm.MethodName)) ∈ xWA := xw 1320 (by decide +kernel) rfl
theorem xw_1321 : (Jvm.Cond.instanceMethod ({ cls := "java/lang/AbstractStringBuilder", name := "append", desc := "(C)Ljava/lang/AbstractStringBuilder;" } : Jvm.MethodName)) ∈ xWA := xw 1321 (by decide +kernel) rfl
theorem xw_1322 : (Jvm.Cond.code ({ cls := "java/lang/AbstractStringBuilder", name := "append", desc := "(C)Ljava/lang/AbstractStringBuilder;" } : Jvm.MethodName) prog_12_method_31_code (2 : Nat) (Option.some (Jvm.ClassFile.FieldType.object "java/lang/AbstractStringBuilder"))) ∈ xWA := xw 1322 (by decide +kernel) rfl
theorem xw_1323 : (Jvm.Cond.methodLink "java/lang/AbstractStringBuilder" (191 : Nat) ({ cls := "java/lang/StringLatin1", name := "canEncode", desc := "(C)Z" } : Jvm.MethodName)) ∈ xWA := xw 1323 (by decide +kernel) rfl
theorem xw_1324 : (Jvm.Cond.static ({ cls := "java/lang/StringLatin1", name := "canEncode", desc := "(C)Z" } : Jvm.MethodName)) ∈ xWA := xw 1324 (by decide +kernel) rfl
theorem xw_1325 : (Jvm.Cond.code ({ cls := "java/lang/StringLatin1", name := "canEncode", desc := "(C)Z" } : Jvm.MethodName) prog_30_method_3_code (1 : Nat) (Option.some Jvm.ClassFile.FieldType.boolean)) ∈ xWA := xw 1325 (by decide +kernel) rfl
theorem xw_1326 : (Jvm.Cond.methodLink "java/lang/AbstractStringBuilder" (197 : Nat) ({ cls := "java/lang/StringUTF16", name := "putCharSB", desc := "([BII)V" } : Jvm.MethodName)) ∈ xWA := xw 1326 (by decide +kernel) rfl
theorem xw_1329 : (Jvm.Cond.methodLink "RingKiln" (284 : Nat) ({ cls := "RingKiln$Kiln", name := "writeChamber", desc := "(ILjava/lang/StringBuilder;)V" } : Jvm.MethodName)) ∈ xWA := xw 1329 (by decide +kernel) rfl
theorem xw_1330 : (Jvm.Cond.instanceMethod ({ cls := "RingKiln$Kiln", name := "writeChamber", desc := "(ILjava/lang/StringBuilder;)V" } : Jvm.MethodName)) ∈ xWA := xw 1330 (by decide +kernel) rfl
theorem xw_1331 : (Jvm.Cond.selects "RingKiln$Kiln" ({ cls := "RingKiln$Kiln", name := "writeChamber", desc := "(ILjava/lang/StringBuilder;)V" } : Jvm.MethodName) ({ cls := "RingKiln$Kiln", name := "writeChamber", desc := "(ILjava/lang/StringBuilder;)V" } : Jvm.MethodName)) ∈ xWA := xw 1331 (by decide +kernel) rfl
theorem xw_1332 : (Jvm.Cond.code ({ cls := "RingKiln$Kiln", name := "writeChamber", desc := "(ILjava/lang/StringBuilder;)V" } : Jvm.MethodName) prog_6_method_11_code (3 : Nat) (Option.none : Option Jvm.ClassFile.FieldType)) ∈ xWA := xw 1332 (by decide +kernel) rfl
theorem xw_1333 : (Jvm.Cond.methodLink "RingKiln$Kiln" (79 : Nat) ({ cls := "java/lang/StringBuilder", name := "append", desc := "(C)Ljava/lang/StringBuilder;" } : Jvm.MethodName)) ∈ xWA := xw 1333 (by decide +kernel) rfl
theorem xw_1334 : (Jvm.Cond.methodLink "RingKiln$Kiln" (85 : Nat) ({ cls := "java/lang/StringBuilder", name := "append", desc := "(I)Ljava/lang/StringBuilder;" } : Jvm.MethodName)) ∈ xWA := xw 1334 (by decide +kernel) rfl
theorem xw_1335 : (Jvm.Cond.methodLink "RingKiln" (288 : Nat) ({ cls := "java/lang/StringBuilder", name := "length", desc := "()I" } : Jvm.MethodName)) ∈ xWA := xw 1335 (by decide +kernel) rfl
theorem xw_1336 : (Jvm.Cond.methodLink "RingKilnLaw" (294 : Nat) ({ cls := "RingKilnLaw", name := "isFit", desc := "(LRingKiln;)Z" } : Jvm.MethodName)) ∈ xWA := xw 1336 (by decide +kernel) rfl
theorem xw_1337 : (Jvm.Cond.static ({ cls := "RingKilnLaw", name := "isFit", desc := "(LRingKiln;)Z" } : Jvm.MethodName)) ∈ xWA := xw 1337 (by decide +kernel) rfl
theorem xw_1338 : (Jvm.Cond.code ({ cls := "RingKilnLaw", name := "isFit", desc := "(LRingKiln;)Z" } : Jvm.MethodName) method_35_code (1 : Nat) (Option.some Jvm.ClassFile.FieldType.boolean)) ∈ xWA := xw 1338 (by decide +kernel) rfl
theorem xw_1339 : (Jvm.Cond.methodLink "RingKilnLaw" (275 : Nat) ({ cls := "RingKilnLaw", name := "isMixed", desc := "(LRingKiln;I)Z" } : Jvm.MethodName)) ∈ xWA := xw 1339 (by decide +kernel) rfl
theorem xw_1340 : (Jvm.Cond.static ({ cls := "RingKilnLaw", name := "isMixed", desc := "(LRingKiln;I)Z" } : Jvm.MethodName)) ∈ xWA := xw 1340 (by decide +kernel) rfl
theorem xw_1341 : (Jvm.Cond.code ({ cls := "RingKilnLaw", name := "isMixed", desc := "(LRingKiln;I)Z" } : Jvm.MethodName) method_32_code (13 : Nat) (Option.some Jvm.ClassFile.FieldType.boolean)) ∈ xWA := xw 1341 (by decide +kernel) rfl
theorem xw_1342 : (Jvm.Cond.methodLink "RingKilnLaw" (248 : Nat) ({ cls := "RingKilnLaw", name := "lowestCost", desc := "(LRingKiln;I)I" } : Jvm.MethodName)) ∈ xWA := xw 1342 (by decide +kernel) rfl
theorem xw_1343 : (Jvm.Cond.static ({ cls := "RingKilnLaw", name := "lowestCost", desc := "(LRingKiln;I)I" } : Jvm.MethodName)) ∈ xWA := xw 1343 (by decide +kernel) rfl
theorem xw_1344 : (Jvm.Cond.codeWith ({ cls := "RingKilnLaw", name := "lowestCost", desc := "(LRingKiln;I)I" } : Jvm.MethodName) method_17_code (4 : Nat) (Option.some Jvm.ClassFile.FieldType.int) [((4 : Nat), (10 : Nat), (13 : Nat), (19 : Nat)), ((4 : Nat), (10 : Nat), (18 : Nat), (23 : Nat))]) ∈ xWA := xw 1344 (by decide +kernel) rfl
theorem xw_1345 : (Jvm.Cond.methodLink "RingKilnLaw" (69 : Nat) ({ cls := "RingKiln", name := "lowestCost", desc := "(I)I" } : Jvm.MethodName)) ∈ xWA := xw 1345 (by decide +kernel) rfl
theorem xw_1346 : (Jvm.Cond.instanceMethod ({ cls := "RingKiln", name := "lowestCost", desc := "(I)I" } : Jvm.MethodName)) ∈ xWA := xw 1346 (by decide +kernel) rfl
theorem xw_1347 : (Jvm.Cond.selects "RingKiln" ({ cls := "RingKiln", name := "lowestCost", desc := "(I)I" } : Jvm.MethodName) ({ cls := "RingKiln", name := "lowestCost", desc := "(I)I" } : Jvm.MethodName)) ∈ xWA := xw 1347 (by decide +kernel) rfl
theorem xw_1348 : (Jvm.Cond.code ({ cls := "RingKiln", name := "lowestCost", desc := "(I)I" } : Jvm.MethodName) prog_1_method_27_code (2 : Nat) (Option.some Jvm.ClassFile.FieldType.int)) ∈ xWA := xw 1348 (by decide +kernel) rfl
theorem xw_1349 : (Jvm.Cond.methodLink "RingKiln" (161 : Nat) ({ cls := "RingKiln", name := "needWithin", desc := "(III)V" } : Jvm.MethodName)) ∈ xWA := xw 1349 (by decide +kernel) rfl
theorem xw_1350 : (Jvm.Cond.static ({ cls := "RingKiln", name := "needWithin", desc := "(III)V" } : Jvm.MethodName)) ∈ xWA := xw 1350 (by decide +kernel) rfl
theorem xw_1351 : (Jvm.Cond.code ({ cls := "RingKiln", name := "needWithin", desc := "(III)V" } : Jvm.MethodName) prog_1_method_53_code (3 : Nat) (Option.none : Option Jvm.ClassFile.FieldType)) ∈ xWA := xw 1351 (by decide +kernel) rfl
theorem xw_1353 : (Jvm.Cond.methodLink "RingKilnLaw" (250 : Nat) ({ cls := "RingKilnLaw", name := "lowestCostByTrying", desc := "(LRingKiln;I)I" } : Jvm.MethodName)) ∈ xWA := xw 1353 (by decide +kernel) rfl
theorem xw_1354 : (Jvm.Cond.static ({ cls := "RingKilnLaw", name := "lowestCostByTrying", desc := "(LRingKiln;I)I" } : Jvm.MethodName)) ∈ xWA := xw 1354 (by decide +kernel) rfl
theorem xw_1355 : (Jvm.Cond.codeWith ({ cls := "RingKilnLaw", name := "lowestCostByTrying", desc := "(LRingKiln;I)I" } : Jvm.MethodName) method_18_code (4 : Nat) (Option.some Jvm.ClassFile.FieldType.int) [((4 : Nat), (10 : Nat), (13 : Nat), (19 : Nat)), ((4 : Nat), (10 : Nat), (18 : Nat), (23 : Nat))]) ∈ xWA := xw 1355 (by decide +kernel) rfl
theorem xw_1356 : (Jvm.Cond.methodLink "RingKilnLaw" (72 : Nat) ({ cls := "RingKiln", name := "lowestCostByTrying", desc := "(I)I" } : Jvm.MethodName)) ∈ xWA := xw 1356 (by decide +kernel) rfl
theorem xw_1357 : (Jvm.Cond.instanceMethod ({ cls := "RingKiln", name := "lowestCostByTrying", desc := "(I)I" } : Jvm.MethodName)) ∈ xWA := xw 1357 (by decide +kernel) rfl
theorem xw_1358 : (Jvm.Cond.selects "RingKiln" ({ cls := "RingKiln", name := "lowestCostByTrying", desc := "(I)I" } : Jvm.MethodName) ({ cls := "RingKiln", name := "lowestCostByTrying", desc := "(I)I" } : Jvm.MethodName)) ∈ xWA := xw 1358 (by decide +kernel) rfl
theorem xw_1359 : (Jvm.Cond.code ({ cls := "RingKiln", name := "lowestCostByTrying", desc := "(I)I" } : Jvm.MethodName) prog_1_method_28_code (2 : Nat) (Option.some Jvm.ClassFile.FieldType.int)) ∈ xWA := xw 1359 (by decide +kernel) rfl
theorem xw_1360 : (Jvm.Cond.methodLink "RingKilnLaw" (252 : Nat) ({ cls := "RingKilnLaw", name := "piecesInMixture", desc := "(LRingKiln;CI)I" } : Jvm.MethodName)) ∈ xWA := xw 1360 (by decide +kernel) rfl
theorem xw_1361 : (Jvm.Cond.static ({ cls := "RingKilnLaw", name := "piecesInMixture", desc := "(LRingKiln;CI)I" } : Jvm.MethodName)) ∈ xWA := xw 1361 (by decide +kernel) rfl
theorem xw_1362 : (Jvm.Cond.codeWith ({ cls := "RingKilnLaw", name := "piecesInMixture", desc := "(LRingKiln;CI)I" } : Jvm.MethodName) method_19_code (5 : Nat) (Option.some Jvm.ClassFile.FieldType.int) [((4 : Nat), (11 : Nat), (14 : Nat), (19 : Nat)), ((4 : Nat), (11 : Nat), (20 : Nat), (23 : Nat))]) ∈ xWA := xw 1362 (by decide +kernel) rfl
theorem xw_1363 : (Jvm.Cond.methodLink "RingKilnLaw" (75 : Nat) ({ cls := "RingKiln", name := "piecesInMixture", desc := "(CI)I" } : Jvm.MethodName)) ∈ xWA := xw 1363 (by decide +kernel) rfl
theorem xw_1364 : (Jvm.Cond.instanceMethod ({ cls := "RingKiln", name := "piecesInMixture", desc := "(CI)I" } : Jvm.MethodName)) ∈ xWA := xw 1364 (by decide +kernel) rfl
theorem xw_1365 : (Jvm.Cond.selects "RingKiln" ({ cls := "RingKiln", name := "piecesInMixture", desc := "(CI)I" } : Jvm.MethodName) ({ cls := "RingKiln", name := "piecesInMixture", desc := "(CI)I" } : Jvm.MethodName)) ∈ xWA := xw 1365 (by decide +kernel) rfl
theorem xw_1366 : (Jvm.Cond.code ({ cls := "RingKiln", name := "piecesInMixture", desc := "(CI)I" } : Jvm.MethodName) prog_1_method_29_code (5 : Nat) (Option.some Jvm.ClassFile.FieldType.int)) ∈ xWA := xw 1366 (by decide +kernel) rfl
theorem xw_1367 : (Jvm.Cond.methodLink "RingKilnLaw" (279 : Nat) ({ cls := "RingKilnLaw", name := "areWalls", desc := "(LRingKiln;II)Z" } : Jvm.MethodName)) ∈ xWA := xw 1367 (by decide +kernel) rfl
theorem xw_1368 : (Jvm.Cond.static ({ cls := "RingKilnLaw", name := "areWalls", desc := "(LRingKiln;II)Z" } : Jvm.MethodName)) ∈ xWA := xw 1368 (by decide +kernel) rfl
theorem xw_1369 : (Jvm.Cond.code ({ cls := "RingKilnLaw", name := "areWalls", desc := "(LRingKiln;II)Z" } : Jvm.MethodName) method_33_code (11 : Nat) (Option.some Jvm.ClassFile.FieldType.boolean)) ∈ xWA := xw 1369 (by decide +kernel) rfl
theorem xw_1370 : (Jvm.Cond.methodLink "RingKilnLaw" (254 : Nat) ({ cls := "RingKiln", name := "wallCount", desc := "(II)J" } : Jvm.MethodName)) ∈ xWA := xw 1370 (by decide +kernel) rfl
theorem xw_1371 : (Jvm.Cond.instanceMethod ({ cls := "RingKiln", name := "wallCount", desc := "(II)J" } : Jvm.MethodName)) ∈ xWA := xw 1371 (by decide +kernel) rfl
theorem xw_1372 : (Jvm.Cond.selects "RingKiln" ({ cls := "RingKiln", name := "wallCount", desc := "(II)J" } : Jvm.MethodName) ({ cls := "RingKiln", name := "wallCount", desc := "(II)J" } : Jvm.MethodName)) ∈ xWA := xw 1372 (by decide +kernel) rfl
theorem xw_1373 : (Jvm.Cond.code ({ cls := "RingKiln", name := "wallCount", desc := "(II)J" } : Jvm.MethodName) prog_1_method_31_code (3 : Nat) (Option.some Jvm.ClassFile.FieldType.long)) ∈ xWA := xw 1373 (by decide +kernel) rfl
theorem xw_1374 : (Jvm.Cond.methodLink "RingKiln" (190 : Nat) ({ cls := "RingKiln", name := "needWidth", desc := "(I)V" } : Jvm.MethodName)) ∈ xWA := xw 1374 (by decide +kernel) rfl
theorem xw_1375 : (Jvm.Cond.static ({ cls := "RingKiln", name := "needWidth", desc := "(I)V" } : Jvm.MethodName)) ∈ xWA := xw 1375 (by decide +kernel) rfl
theorem xw_1376 : (Jvm.Cond.code ({ cls := "RingKiln", name := "needWidth", desc := "(I)V" } : Jvm.MethodName) prog_1_method_54_code (1 : Nat) (Option.none : Option Jvm.ClassFile.FieldType)) ∈ xWA := xw 1376 (by decide +kernel) rfl
theorem xw_1377 : (Jvm.Cond.methodLink "RingKilnLaw" (258 : Nat) ({ cls := "RingKilnLaw", name := "fewestBricks", desc := "(LRingKiln;II)I" } : Jvm.MethodName)) ∈ xWA := xw 1377 (by decide +kernel) rfl
theorem xw_1378 : (Jvm.Cond.static ({ cls := "RingKilnLaw", name := "fewestBricks", desc := "(LRingKiln;II)I" } : Jvm.MethodName)) ∈ xWA := xw 1378 (by decide +kernel) rfl
theorem xw_1379 : (Jvm.Cond.codeWith ({ cls := "RingKilnLaw", name := "fewestBricks", desc := "(LRingKiln;II)I" } : Jvm.MethodName) method_20_code (5 : Nat) (Option.some Jvm.ClassFile.FieldType.int) [((4 : Nat), (11 : Nat), (14 : Nat), (19 : Nat)), ((4 : Nat), (11 : Nat), (20 : Nat), (55 : Nat))]) ∈ xWA := xw 1379 (by decide +kernel) rfl
theorem xw_1380 : (Jvm.Cond.methodLink "RingKilnLaw" (78 : Nat) ({ cls := "RingKiln", name := "fewestBricks", desc := "(II)I" } : Jvm.MethodName)) ∈ xWA := xw 1380 (by decide +kernel) rfl
theorem xw_1381 : (Jvm.Cond.instanceMethod ({ cls := "RingKiln", name := "fewestBricks", desc := "(II)I" } : Jvm.MethodName)) ∈ xWA := xw 1381 (by decide +kernel) rfl
theorem xw_1382 : (Jvm.Cond.selects "RingKiln" ({ cls := "RingKiln", name := "fewestBricks", desc := "(II)I" } : Jvm.MethodName) ({ cls := "RingKiln", name := "fewestBricks", desc := "(II)I" } : Jvm.MethodName)) ∈ xWA := xw 1382 (by decide +kernel) rfl
theorem xw_1383 : (Jvm.Cond.code ({ cls := "RingKiln", name := "fewestBricks", desc := "(II)I" } : Jvm.MethodName) prog_1_method_33_code (3 : Nat) (Option.some Jvm.ClassFile.FieldType.int)) ∈ xWA := xw 1383 (by decide +kernel) rfl
theorem xw_1384 : (Jvm.Cond.methodLink "RingKiln" (203 : Nat) ({ cls := "RingKiln$Courses", name := "leastBricks", desc := "(II)I" } : Jvm.MethodName)) ∈ xWA := xw 1384 (by decide +kernel) rfl
theorem xw_1385 : (Jvm.Cond.methodLink "RingKilnLaw" (260 : Nat) ({ cls := "RingKiln", name := "wallCountByMemory", desc := "(II)J" } : Jvm.MethodName)) ∈ xWA := xw 1385 (by decide +kernel) rfl
theorem xw_1386 : (Jvm.Cond.instanceMethod ({ cls := "RingKiln", name := "wallCountByMemory", desc := "(II)J" } : Jvm.MethodName)) ∈ xWA := xw 1386 (by decide +kernel) rfl
theorem xw_1387 : (Jvm.Cond.selects "RingKiln" ({ cls := "RingKiln", name := "wallCountByMemory", desc := "(II)J" } : Jvm.MethodName) ({ cls := "RingKiln", name := "wallCountByMemory", desc := "(II)J" } : Jvm.MethodName)) ∈ xWA := xw 1387 (by decide +kernel) rfl
theorem xw_1388 : (Jvm.Cond.code ({ cls := "RingKiln", name := "wallCountByMemory", desc := "(II)J" } : Jvm.MethodName) prog_1_method_32_code (3 : Nat) (Option.some Jvm.ClassFile.FieldType.long)) ∈ xWA := xw 1388 (by decide +kernel) rfl
theorem xw_1389 : (Jvm.Cond.methodLink "RingKilnLaw" (263 : Nat) ({ cls := "RingKiln", name := "courseCount", desc := "(I)I" } : Jvm.MethodName)) ∈ xWA := xw 1389 (by decide +kernel) rfl
theorem xw_1390 : (Jvm.Cond.instanceMethod ({ cls := "RingKiln", name := "courseCount", desc := "(I)I" } : Jvm.MethodName)) ∈ xWA := xw 1390 (by decide +kernel) rfl
theorem xw_1391 : (Jvm.Cond.selects "RingKiln" ({ cls := "RingKiln", name := "courseCount", desc := "(I)I" } : Jvm.MethodName) ({ cls := "RingKiln", name := "courseCount", desc := "(I)I" } : Jvm.MethodName)) ∈ xWA := xw 1391 (by decide +kernel) rfl
theorem xw_1392 : (Jvm.Cond.code ({ cls := "RingKiln", name := "courseCount", desc := "(I)I" } : Jvm.MethodName) prog_1_method_30_code (2 : Nat) (Option.some Jvm.ClassFile.FieldType.int)) ∈ xWA := xw 1392 (by decide +kernel) rfl
theorem xw_1393 : (Jvm.Cond.methodLink "RingKilnLaw" (283 : Nat) ({ cls := "RingKilnLaw", name := "isForetold", desc := "(LRingKiln;)Z" } : Jvm.MethodName)) ∈ xWA := xw 1393 (by decide +kernel) rfl
theorem xw_1394 : (Jvm.Cond.static ({ cls := "RingKilnLaw", name := "isForetold", desc := "(LRingKiln;)Z" } : Jvm.MethodName)) ∈ xWA := xw 1394 (by decide +kernel) rfl
theorem xw_1395 : (Jvm.Cond.code ({ cls := "RingKilnLaw", name := "isForetold", desc := "(LRingKiln;)Z" } : Jvm.MethodName) method_34_code (7 : Nat) (Option.some Jvm.ClassFile.FieldType.boolean)) ∈ xWA := xw 1395 (by decide +kernel) rfl
theorem xw_1396 : (Jvm.Cond.methodLink "RingKilnLaw" (270 : Nat) ({ cls := "RingKilnLaw", name := "hoursUntilOut", desc := "(LRingKiln;)I" } : Jvm.MethodName)) ∈ xWA := xw 1396 (by decide +kernel) rfl
theorem xw_1397 : (Jvm.Cond.static ({ cls := "RingKilnLaw", name := "hoursUntilOut", desc := "(LRingKiln;)I" } : Jvm.MethodName)) ∈ xWA := xw 1397 (by decide +kernel) rfl
theorem xw_1398 : (Jvm.Cond.codeWith ({ cls := "RingKilnLaw", name := "hoursUntilOut", desc := "(LRingKiln;)I" } : Jvm.MethodName) method_15_code (3 : Nat) (Option.some Jvm.ClassFile.FieldType.int) [((4 : Nat), (9 : Nat), (12 : Nat), (55 : Nat))]) ∈ xWA := xw 1398 (by decide +kernel) rfl
theorem xw_1399 : (Jvm.Cond.methodLink "RingKilnLaw" (63 : Nat) ({ cls := "RingKiln", name := "hoursUntilOut", desc := "()I" } : Jvm.MethodName)) ∈ xWA := xw 1399 (by decide +kernel) rfl
theorem xw_1400 : (Jvm.Cond.instanceMethod ({ cls := "RingKiln", name := "hoursUntilOut", desc := "()I" } : Jvm.MethodName)) ∈ xWA := xw 1400 (by decide +kernel) rfl
theorem xw_1401 : (Jvm.Cond.selects "RingKiln" ({ cls := "RingKiln", name := "hoursUntilOut", desc := "()I" } : Jvm.MethodName) ({ cls := "RingKiln", name := "hoursUntilOut", desc := "()I" } : Jvm.MethodName)) ∈ xWA := xw 1401 (by decide +kernel) rfl
theorem xw_1402 : (Jvm.Cond.code ({ cls := "RingKiln", name := "hoursUntilOut", desc := "()I" } : Jvm.MethodName) prog_1_method_22_code (1 : Nat) (Option.some Jvm.ClassFile.FieldType.int)) ∈ xWA := xw 1402 (by decide +kernel) rfl
theorem xw_1403 : (Jvm.Cond.methodLink "RingKiln" (154 : Nat) ({ cls := "RingKiln$Kiln", name := "hoursTillFireIsOut", desc := "()I" } : Jvm.MethodName)) ∈ xWA := xw 1403 (by decide +kernel) rfl
theorem xw_1404 : (Jvm.Cond.instanceMethod ({ cls := "RingKiln$Kiln", name := "hoursTillFireIsOut", desc := "()I" } : Jvm.MethodName)) ∈ xWA := xw 1404 (by decide +kernel) rfl
theorem xw_1405 : (Jvm.Cond.selects "RingKiln$Kiln" ({ cls := "RingKiln$Kiln", name := "hoursTillFireIsOut", desc := "()I" } : Jvm.MethodName) ({ cls := "RingKiln$Kiln", name := "hoursTillFireIsOut", desc := "()I" } : Jvm.MethodName)) ∈ xWA := xw 1405 (by decide +kernel) rfl
theorem xw_1406 : (Jvm.Cond.code ({ cls := "RingKiln$Kiln", name := "hoursTillFireIsOut", desc := "()I" } : Jvm.MethodName) prog_6_method_21_code (2 : Nat) (Option.some Jvm.ClassFile.FieldType.int)) ∈ xWA := xw 1406 (by decide +kernel) rfl
theorem xw_1407 : (Jvm.Cond.methodLink "RingKilnLaw" (272 : Nat) ({ cls := "RingKiln", name := "firedIn", desc := "(I)I" } : Jvm.MethodName)) ∈ xWA := xw 1407 (by decide +kernel) rfl
theorem xw_1408 : (Jvm.Cond.instanceMethod ({ cls := "RingKiln", name := "firedIn", desc := "(I)I" } : Jvm.MethodName)) ∈ xWA := xw 1408 (by decide +kernel) rfl
theorem xw_1409 : (Jvm.Cond.selects "RingKiln" ({ cls := "RingKiln", name := "firedIn", desc := "(I)I" } : Jvm.MethodName) ({ cls := "RingKiln", name := "firedIn", desc := "(I)I" } : Jvm.MethodName)) ∈ xWA := xw 1409 (by decide +kernel) rfl
theorem xw_1410 : (Jvm.Cond.code ({ cls := "RingKiln", name := "firedIn", desc := "(I)I" } : Jvm.MethodName) prog_1_method_24_code (2 : Nat) (Option.some Jvm.ClassFile.FieldType.int)) ∈ xWA := xw 1410 (by decide +kernel) rfl
theorem xw_1412 : (Jvm.Cond.sameMethod "java/lang/AbstractStringBuilder" "java/lang/AbstractStringBuilder" "setLength" "(I)V") ∈ xWA := xw 1412 (by decide +kernel) rfl
theorem xw_1415 : (Jvm.Cond.sameMethod "java/lang/AbstractStringBuilder" "java/lang/AbstractStringBuilder" "ensureCapacityInternal" "(I)V") ∈ xWA := xw 1415 (by decide +kernel) rfl
theorem xw_1416 : (Jvm.Cond.sameMethod "java/lang/AbstractStringBuilder" "java/lang/AbstractStringBuilder" "newCapacity" "(I)I") ∈ xWA := xw 1416 (by decide +kernel) rfl
theorem xw_1420 : (Jvm.Cond.sameMethod "java/lang/AbstractStringBuilder" "java/lang/AbstractStringBuilder" "append" "(I)Ljava/lang/AbstractStringBuilder;") ∈ xWA := xw 1420 (by decide +kernel) rfl
theorem xw_1421 : (Jvm.Cond.sameMethod "java/lang/AbstractStringBuilder" "java/lang/AbstractStringBuilder" "append" "(C)Ljava/lang/AbstractStringBuilder;") ∈ xWA := xw 1421 (by decide +kernel) rfl
theorem xw_1422 : (Jvm.Cond.selects "java/lang/StringBuilder" ({ cls := "java/lang/StringBuilder", name := "length", desc := "()I" } : Jvm.MethodName) ({ cls := "java/lang/StringBuilder", name := "length", desc := "()I" } : Jvm.MethodName)) ∈ xWA := xw 1422 (by decide +kernel) rfl
theorem xw_1442 : (Jvm.Cond.fieldLink "java/lang/Enum" (7 : Nat) "java/lang/Enum" "ordinal" "I") ∈ xWA := xw 1442 (by decide +kernel) rfl
