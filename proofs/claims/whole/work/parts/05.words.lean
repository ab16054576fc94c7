theorem tw_0 : Cond.selects "LoanRounds" ({ cls := "LoanRounds", name := "lentWith", desc := "(I)LLoanRounds$Task;" } : MethodName) ({ cls := "LoanRounds", name := "lentWith", desc := "(I)LLoanRounds$Task;" } : MethodName) ∈ TT := tt_of (i := 0) rfl rfl
theorem tw_1 : Cond.selects "LoanRounds" ({ cls := "LoanRounds", name := "taskAt", desc := "(I)LLoanRounds$Task;" } : MethodName) ({ cls := "LoanRounds", name := "taskAt", desc := "(I)LLoanRounds$Task;" } : MethodName) ∈ TT := tt_of (i := 1) rfl rfl
theorem tw_2 : Cond.selects "LoanRounds" ({ cls := "LoanRounds", name := "liveTasks", desc := "()I" } : MethodName) ({ cls := "LoanRounds", name := "liveTasks", desc := "()I" } : MethodName) ∈ TT := tt_of (i := 2) rfl rfl
theorem tw_3 : Cond.selects "LoanRounds" ({ cls := "LoanRounds", name := "tasksThatAre", desc := "(I)I" } : MethodName) ({ cls := "LoanRounds", name := "tasksThatAre", desc := "(I)I" } : MethodName) ∈ TT := tt_of (i := 3) rfl rfl
theorem tw_4 : Cond.selects "LoanRounds" ({ cls := "LoanRounds", name := "groupAt", desc := "(I)LLoanRounds$Group;" } : MethodName) ({ cls := "LoanRounds", name := "groupAt", desc := "(I)LLoanRounds$Group;" } : MethodName) ∈ TT := tt_of (i := 4) rfl rfl
theorem tw_5 : Cond.selects "LoanRounds" ({ cls := "LoanRounds", name := "queueAt", desc := "(I)LLoanRounds$Queue;" } : MethodName) ({ cls := "LoanRounds", name := "queueAt", desc := "(I)LLoanRounds$Queue;" } : MethodName) ∈ TT := tt_of (i := 5) rfl rfl
theorem tw_6 : Cond.selects "LoanRounds" ({ cls := "LoanRounds", name := "firstOf", desc := "(LLoanRounds$Queue;)LLoanRounds$Task;" } : MethodName) ({ cls := "LoanRounds", name := "firstOf", desc := "(LLoanRounds$Queue;)LLoanRounds$Task;" } : MethodName) ∈ TT := tt_of (i := 6) rfl rfl
theorem tw_7 : Cond.selects "LoanRounds" ({ cls := "LoanRounds", name := "countOfOne", desc := "(I)I" } : MethodName) ({ cls := "LoanRounds", name := "countOfOne", desc := "(I)I" } : MethodName) ∈ TT := tt_of (i := 7) rfl rfl
theorem tw_8 : Cond.selects "LoanRounds" ({ cls := "LoanRounds", name := "lentTo", desc := "(I)I" } : MethodName) ({ cls := "LoanRounds", name := "lentTo", desc := "(I)I" } : MethodName) ∈ TT := tt_of (i := 8) rfl rfl
theorem tw_9 : Cond.selects "LoanRounds" ({ cls := "LoanRounds", name := "waitingIn", desc := "(LLoanRounds$Queue;)I" } : MethodName) ({ cls := "LoanRounds", name := "waitingIn", desc := "(LLoanRounds$Queue;)I" } : MethodName) ∈ TT := tt_of (i := 9) rfl rfl
theorem tw_10 : Cond.selects "java/lang/Throwable" ({ cls := "java/lang/Throwable", name := "fillInStackTrace", desc := "(I)Ljava/lang/Throwable;" } : MethodName) ({ cls := "java/lang/Throwable", name := "fillInStackTrace", desc := "(I)Ljava/lang/Throwable;" } : MethodName) ∈ TT := tt_of (i := 10) rfl rfl
theorem tw_11 : Cond.selects "LoanRounds" ({ cls := "LoanRounds", name := "numberUnder", desc := "(LLoanRounds$Queue;J)I" } : MethodName) ({ cls := "LoanRounds", name := "numberUnder", desc := "(LLoanRounds$Queue;J)I" } : MethodName) ∈ TT := tt_of (i := 11) rfl rfl
theorem tw_12 : Cond.selects "java/util/ArrayList" ({ cls := "java/util/ArrayList", name := "add", desc := "(Ljava/lang/Object;[Ljava/lang/Object;I)V" } : MethodName) ({ cls := "java/util/ArrayList", name := "add", desc := "(Ljava/lang/Object;[Ljava/lang/Object;I)V" } : MethodName) ∈ TT := tt_of (i := 12) rfl rfl
theorem tw_13 : Cond.selects "java/util/ArrayList" ({ cls := "java/util/ArrayList", name := "grow", desc := "()[Ljava/lang/Object;" } : MethodName) ({ cls := "java/util/ArrayList", name := "grow", desc := "()[Ljava/lang/Object;" } : MethodName) ∈ TT := tt_of (i := 13) rfl rfl
theorem tw_14 : Cond.selects "java/util/ArrayList" ({ cls := "java/util/ArrayList", name := "grow", desc := "(I)[Ljava/lang/Object;" } : MethodName) ({ cls := "java/util/ArrayList", name := "grow", desc := "(I)[Ljava/lang/Object;" } : MethodName) ∈ TT := tt_of (i := 14) rfl rfl
theorem tw_15 : Cond.selects "LoanRoundsModel" ({ cls := "LoanRoundsModel", name := "raise", desc := "(I)I" } : MethodName) ({ cls := "LoanRoundsModel", name := "raise", desc := "(I)I" } : MethodName) ∈ TT := tt_of (i := 15) rfl rfl
theorem tw_16 : Cond.selects "LoanRoundsModel" ({ cls := "LoanRoundsModel", name := "found", desc := "(IJ)I" } : MethodName) ({ cls := "LoanRoundsModel", name := "found", desc := "(IJ)I" } : MethodName) ∈ TT := tt_of (i := 16) rfl rfl
theorem tw_17 : Cond.selects "LoanRoundsModel" ({ cls := "LoanRoundsModel", name := "isLive", desc := "(I)Z" } : MethodName) ({ cls := "LoanRoundsModel", name := "isLive", desc := "(I)Z" } : MethodName) ∈ TT := tt_of (i := 17) rfl rfl
theorem tw_18 : Cond.selects "LoanRoundsModel" ({ cls := "LoanRoundsModel", name := "lives", desc := "()I" } : MethodName) ({ cls := "LoanRoundsModel", name := "lives", desc := "()I" } : MethodName) ∈ TT := tt_of (i := 18) rfl rfl
theorem tw_19 : Cond.selects "LoanRoundsModel" ({ cls := "LoanRoundsModel", name := "firstOf", desc := "(I)I" } : MethodName) ({ cls := "LoanRoundsModel", name := "firstOf", desc := "(I)I" } : MethodName) ∈ TT := tt_of (i := 19) rfl rfl
theorem tw_20 : Cond.selects "LoanRoundsModel" ({ cls := "LoanRoundsModel", name := "mayBeHad", desc := "(I)Z" } : MethodName) ({ cls := "LoanRoundsModel", name := "mayBeHad", desc := "(I)Z" } : MethodName) ∈ TT := tt_of (i := 20) rfl rfl
theorem tw_21 : Cond.selects "LoanRoundsModel" ({ cls := "LoanRoundsModel", name := "lentOf", desc := "(I)I" } : MethodName) ({ cls := "LoanRoundsModel", name := "lentOf", desc := "(I)I" } : MethodName) ∈ TT := tt_of (i := 21) rfl rfl
theorem tw_22 : Cond.selects "LoanRoundsModel" ({ cls := "LoanRoundsModel", name := "weight", desc := "(I)I" } : MethodName) ({ cls := "LoanRoundsModel", name := "weight", desc := "(I)I" } : MethodName) ∈ TT := tt_of (i := 22) rfl rfl
theorem tw_23 : Cond.selects "LoanRoundsModel" ({ cls := "LoanRoundsModel", name := "lentTo", desc := "(I)I" } : MethodName) ({ cls := "LoanRoundsModel", name := "lentTo", desc := "(I)I" } : MethodName) ∈ TT := tt_of (i := 23) rfl rfl
theorem tw_24 : Cond.selects "LoanRoundsModel" ({ cls := "LoanRoundsModel", name := "lentWith", desc := "(I)I" } : MethodName) ({ cls := "LoanRoundsModel", name := "lentWith", desc := "(I)I" } : MethodName) ∈ TT := tt_of (i := 24) rfl rfl
theorem tw_25 : Cond.selects "LoanRoundsModel" ({ cls := "LoanRoundsModel", name := "again", desc := "(I)V" } : MethodName) ({ cls := "LoanRoundsModel", name := "again", desc := "(I)V" } : MethodName) ∈ TT := tt_of (i := 25) rfl rfl
theorem tw_26 : Cond.selects "LoanRoundsModel" ({ cls := "LoanRoundsModel", name := "isTask", desc := "(I)Z" } : MethodName) ({ cls := "LoanRoundsModel", name := "isTask", desc := "(I)Z" } : MethodName) ∈ TT := tt_of (i := 26) rfl rfl
theorem tw_27 : Cond.selects "LoanRoundsModel" ({ cls := "LoanRoundsModel", name := "waitingIn", desc := "(I)I" } : MethodName) ({ cls := "LoanRoundsModel", name := "waitingIn", desc := "(I)I" } : MethodName) ∈ TT := tt_of (i := 27) rfl rfl
theorem tw_28 : Cond.selects "LoanRoundsModel" ({ cls := "LoanRoundsModel", name := "inState", desc := "(I)I" } : MethodName) ({ cls := "LoanRoundsModel", name := "inState", desc := "(I)I" } : MethodName) ∈ TT := tt_of (i := 28) rfl rfl
theorem tw_29 : (Jvm.Cond.initialized "LoanRoundsLaw") ∈ TT := tt_of (i := 29) rfl rfl
theorem tw_30 : (Jvm.Cond.initialized "LoanRounds") ∈ TT := tt_of (i := 30) rfl rfl
theorem tw_31 : (Jvm.Cond.initialized "java/util/AbstractCollection") ∈ TT := tt_of (i := 31) rfl rfl
theorem tw_32 : (Jvm.Cond.initialized "java/util/AbstractList") ∈ TT := tt_of (i := 32) rfl rfl
theorem tw_33 : (Jvm.Cond.initialized "java/util/ArrayList") ∈ TT := tt_of (i := 33) rfl rfl
theorem tw_34 : (Jvm.Cond.initialized "LoanRounds$Queue") ∈ TT := tt_of (i := 34) rfl rfl
theorem tw_35 : (Jvm.Cond.initialized "LoanRounds$Group") ∈ TT := tt_of (i := 35) rfl rfl
theorem tw_36 : (Jvm.Cond.initialized "LoanRoundsModel") ∈ TT := tt_of (i := 36) rfl rfl
theorem tw_37 : (Jvm.Cond.initialized "java/lang/Throwable") ∈ TT := tt_of (i := 37) rfl rfl
theorem tw_38 : (Jvm.Cond.initialized "java/lang/Exception") ∈ TT := tt_of (i := 38) rfl rfl
theorem tw_39 : (Jvm.Cond.initialized "java/lang/RuntimeException") ∈ TT := tt_of (i := 39) rfl rfl
theorem tw_40 : (Jvm.Cond.initialized "java/lang/IllegalArgumentException") ∈ TT := tt_of (i := 40) rfl rfl
theorem tw_41 : (Jvm.Cond.initialized "java/util/Objects") ∈ TT := tt_of (i := 41) rfl rfl
theorem tw_42 : (Jvm.Cond.initialized "jdk/internal/util/Preconditions") ∈ TT := tt_of (i := 42) rfl rfl
theorem tw_43 : (Jvm.Cond.initialized "java/lang/IllegalStateException") ∈ TT := tt_of (i := 43) rfl rfl
theorem tw_44 : (Jvm.Cond.initialized "LoanRounds$Task") ∈ TT := tt_of (i := 44) rfl rfl
theorem tw_45 : (Jvm.Cond.initialized "jdk/internal/util/ArraysSupport") ∈ TT := tt_of (i := 45) rfl rfl
theorem tw_46 : (Jvm.Cond.initialized "java/lang/Math") ∈ TT := tt_of (i := 46) rfl rfl
theorem tw_47 : (Jvm.Cond.initialized "java/util/Arrays") ∈ TT := tt_of (i := 47) rfl rfl
theorem tw_48 : (Jvm.Cond.initialized "java/lang/System") ∈ TT := tt_of (i := 48) rfl rfl
theorem tw_49 : (Jvm.Cond.initialized "java/util/NoSuchElementException") ∈ TT := tt_of (i := 49) rfl rfl
theorem tw_50 : (Jvm.Cond.classLink "LoanRoundsLaw" (8 : Nat) "LoanRounds") ∈ TT := tt_of (i := 50) rfl rfl
theorem tw_51 : (Jvm.Cond.instantiable "LoanRounds" (5 : Nat)) ∈ TT := tt_of (i := 51) rfl rfl
theorem tw_52 : (Jvm.Cond.methodLink "LoanRoundsLaw" (33 : Nat) ({ cls := "LoanRounds", name := "<init>", desc := "()V" } : Jvm.MethodName)) ∈ TT := tt_of (i := 52) rfl rfl
theorem tw_53 : (Jvm.Cond.instanceMethod ({ cls := "LoanRounds", name := "<init>", desc := "()V" } : Jvm.MethodName)) ∈ TT := tt_of (i := 53) rfl rfl
theorem tw_54 : (Jvm.Cond.code ({ cls := "LoanRounds", name := "<init>", desc := "()V" } : Jvm.MethodName) prog_1_method_1_code (2 : Nat) (Option.none : Option Jvm.ClassFile.FieldType)) ∈ TT := tt_of (i := 54) rfl rfl
theorem tw_55 : (Jvm.Cond.methodLink "LoanRounds" (1 : Nat) ({ cls := "java/lang/Object", name := "<init>", desc := "()V" } : Jvm.MethodName)) ∈ TT := tt_of (i := 55) rfl rfl
theorem tw_56 : (Jvm.Cond.instanceMethod ({ cls := "java/lang/Object", name := "<init>", desc := "()V" } : Jvm.MethodName)) ∈ TT := tt_of (i := 56) rfl rfl
theorem tw_57 : (Jvm.Cond.code ({ cls := "java/lang/Object", name := "<init>", desc := "()V" } : Jvm.MethodName) object_method_1_code (1 : Nat) (Option.none : Option Jvm.ClassFile.FieldType)) ∈ TT := tt_of (i := 57) rfl rfl
theorem tw_58 : (Jvm.Cond.classLink "LoanRounds" (9 : Nat) "LoanRounds$Queue") ∈ TT := tt_of (i := 58) rfl rfl
theorem tw_60 : (Jvm.Cond.classLink "LoanRounds" (15 : Nat) "LoanRounds$Group") ∈ TT := tt_of (i := 60) rfl rfl
theorem tw_62 : (Jvm.Cond.classLink "LoanRounds" (21 : Nat) "java/util/ArrayList") ∈ TT := tt_of (i := 62) rfl rfl
theorem tw_63 : (Jvm.Cond.instantiable "java/util/ArrayList" (3 : Nat)) ∈ TT := tt_of (i := 63) rfl rfl
theorem tw_64 : (Jvm.Cond.methodLink "LoanRounds" (23 : Nat) ({ cls := "java/util/ArrayList", name := "<init>", desc := "()V" } : Jvm.MethodName)) ∈ TT := tt_of (i := 64) rfl rfl
theorem tw_65 : (Jvm.Cond.instanceMethod ({ cls := "java/util/ArrayList", name := "<init>", desc := "()V" } : Jvm.MethodName)) ∈ TT := tt_of (i := 65) rfl rfl
theorem tw_66 : (Jvm.Cond.code ({ cls := "java/util/ArrayList", name := "<init>", desc := "()V" } : Jvm.MethodName) prog_20_method_2_code (1 : Nat) (Option.none : Option Jvm.ClassFile.FieldType)) ∈ TT := tt_of (i := 66) rfl rfl
theorem tw_67 : (Jvm.Cond.methodLink "java/util/ArrayList" (1 : Nat) ({ cls := "java/util/AbstractList", name := "<init>", desc := "()V" } : Jvm.MethodName)) ∈ TT := tt_of (i := 67) rfl rfl
theorem tw_68 : (Jvm.Cond.instanceMethod ({ cls := "java/util/AbstractList", name := "<init>", desc := "()V" } : Jvm.MethodName)) ∈ TT := tt_of (i := 68) rfl rfl
theorem tw_69 : (Jvm.Cond.code ({ cls := "java/util/AbstractList", name := "<init>", desc := "()V" } : Jvm.MethodName) prog_19_method_1_code (1 : Nat) (Option.none : Option Jvm.ClassFile.FieldType)) ∈ TT := tt_of (i := 69) rfl rfl
theorem tw_70 : (Jvm.Cond.methodLink "java/util/AbstractList" (1 : Nat) ({ cls := "java/util/AbstractCollection", name := "<init>", desc := "()V" } : Jvm.MethodName)) ∈ TT := tt_of (i := 70) rfl rfl
theorem tw_71 : (Jvm.Cond.instanceMethod ({ cls := "java/util/AbstractCollection", name := "<init>", desc := "()V" } : Jvm.MethodName)) ∈ TT := tt_of (i := 71) rfl rfl
theorem tw_72 : (Jvm.Cond.code ({ cls := "java/util/AbstractCollection", name := "<init>", desc := "()V" } : Jvm.MethodName) prog_18_method_1_code (1 : Nat) (Option.none : Option Jvm.ClassFile.FieldType)) ∈ TT := tt_of (i := 72) rfl rfl
theorem tw_73 : (Jvm.Cond.methodLink "java/util/AbstractCollection" (1 : Nat) ({ cls := "java/lang/Object", name := "<init>", desc := "()V" } : Jvm.MethodName)) ∈ TT := tt_of (i := 73) rfl rfl
theorem tw_74 : (Jvm.Cond.fieldLink "java/util/ArrayList" (39 : Nat) "java/util/ArrayList" "DEFAULTCAPACITY_EMPTY_ELEMENTDATA" "[Ljava/lang/Object;") ∈ TT := tt_of (i := 74) rfl rfl
theorem tw_76 : (Jvm.Cond.fieldLink "java/util/ArrayList" (9 : Nat) "java/util/ArrayList" "elementData" "[Ljava/lang/Object;") ∈ TT := tt_of (i := 76) rfl rfl
theorem tw_77 : (Jvm.Cond.fieldLink "java/util/ArrayList" (48 : Nat) "java/util/ArrayList" "size" "I") ∈ TT := tt_of (i := 77) rfl rfl
theorem tw_78 : (Jvm.Cond.fieldLink "java/util/AbstractList" (7 : Nat) "java/util/AbstractList" "modCount" "I") ∈ TT := tt_of (i := 78) rfl rfl
theorem tw_79 : (Jvm.Cond.fieldLink "java/util/ArrayList" (63 : Nat) "java/util/ArrayList" "modCount" "I") ∈ TT := tt_of (i := 79) rfl rfl
theorem tw_80 : (Jvm.Cond.sameField "java/util/ArrayList" "java/util/AbstractList" "modCount" "I") ∈ TT := tt_of (i := 80) rfl rfl
theorem tw_81 : (Jvm.Cond.lays "java/util/ArrayList" "java/util/ArrayList" "elementData" "[Ljava/lang/Object;") ∈ TT := tt_of (i := 81) rfl rfl
theorem tw_83 : (Jvm.Cond.lays "java/util/ArrayList" "java/util/ArrayList" "size" "I") ∈ TT := tt_of (i := 83) rfl rfl
theorem tw_85 : (Jvm.Cond.lays "java/util/ArrayList" "java/util/AbstractList" "modCount" "I") ∈ TT := tt_of (i := 85) rfl rfl
theorem tw_87 : (Jvm.Cond.superclass "java/util/ArrayList" "java/util/AbstractList") ∈ TT := tt_of (i := 87) rfl rfl
theorem tw_88 : (Jvm.Cond.instantiable "LoanRounds$Queue" (6 : Nat)) ∈ TT := tt_of (i := 88) rfl rfl
theorem tw_90 : (Jvm.Cond.instanceMethod ({ cls := "LoanRounds$Queue", name := "<init>", desc := "()V" } : Jvm.MethodName)) ∈ TT := tt_of (i := 90) rfl rfl
theorem tw_91 : (Jvm.Cond.code ({ cls := "LoanRounds$Queue", name := "<init>", desc := "()V" } : Jvm.MethodName) prog_3_method_1_code (1 : Nat) (Option.none : Option Jvm.ClassFile.FieldType)) ∈ TT := tt_of (i := 91) rfl rfl
theorem tw_92 : (Jvm.Cond.methodLink "LoanRounds$Queue" (3 : Nat) ({ cls := "java/lang/Object", name := "<init>", desc := "()V" } : Jvm.MethodName)) ∈ TT := tt_of (i := 92) rfl rfl
theorem tw_93 : (Jvm.Cond.fieldLink "LoanRounds$Queue" (9 : Nat) "LoanRounds$Queue" "loan" "I") ∈ TT := tt_of (i := 93) rfl rfl
theorem tw_94 : (Jvm.Cond.fieldLink "LoanRounds" (109 : Nat) "LoanRounds$Queue" "loan" "I") ∈ TT := tt_of (i := 94) rfl rfl
theorem tw_95 : (Jvm.Cond.fieldLink "LoanRounds$Task" (89 : Nat) "LoanRounds$Queue" "loan" "I") ∈ TT := tt_of (i := 95) rfl rfl
theorem tw_96 : (Jvm.Cond.fieldLink "LoanRounds$Queue" (15 : Nat) "LoanRounds$Queue" "most" "I") ∈ TT := tt_of (i := 96) rfl rfl
theorem tw_97 : (Jvm.Cond.fieldLink "LoanRounds$Task" (92 : Nat) "LoanRounds$Queue" "most" "I") ∈ TT := tt_of (i := 97) rfl rfl
theorem tw_98 : (Jvm.Cond.fieldLink "LoanRounds$Queue" (18 : Nat) "LoanRounds$Queue" "base" "I") ∈ TT := tt_of (i := 98) rfl rfl
theorem tw_99 : (Jvm.Cond.fieldLink "LoanRounds$Queue" (21 : Nat) "LoanRounds$Queue" "top" "I") ∈ TT := tt_of (i := 99) rfl rfl
theorem tw_100 : (Jvm.Cond.fieldLink "LoanRounds$Queue" (24 : Nat) "LoanRounds$Queue" "growth" "I") ∈ TT := tt_of (i := 100) rfl rfl
theorem tw_101 : (Jvm.Cond.fieldLink "LoanRounds$Task" (72 : Nat) "LoanRounds$Queue" "growth" "I") ∈ TT := tt_of (i := 101) rfl rfl
theorem tw_102 : (Jvm.Cond.fieldLink "LoanRounds$Queue" (27 : Nat) "LoanRounds$Queue" "memory" "I") ∈ TT := tt_of (i := 102) rfl rfl
theorem tw_103 : (Jvm.Cond.fieldLink "LoanRounds$Task" (67 : Nat) "LoanRounds$Queue" "memory" "I") ∈ TT := tt_of (i := 103) rfl rfl
theorem tw_104 : (Jvm.Cond.lays "LoanRounds$Queue" "LoanRounds$Queue" "loan" "I") ∈ TT := tt_of (i := 104) rfl rfl
theorem tw_106 : (Jvm.Cond.lays "LoanRounds$Queue" "LoanRounds$Queue" "most" "I") ∈ TT := tt_of (i := 106) rfl rfl
theorem tw_108 : (Jvm.Cond.lays "LoanRounds$Queue" "LoanRounds$Queue" "base" "I") ∈ TT := tt_of (i := 108) rfl rfl
theorem tw_110 : (Jvm.Cond.lays "LoanRounds$Queue" "LoanRounds$Queue" "top" "I") ∈ TT := tt_of (i := 110) rfl rfl
theorem tw_112 : (Jvm.Cond.lays "LoanRounds$Queue" "LoanRounds$Queue" "growth" "I") ∈ TT := tt_of (i := 112) rfl rfl
theorem tw_114 : (Jvm.Cond.lays "LoanRounds$Queue" "LoanRounds$Queue" "memory" "I") ∈ TT := tt_of (i := 114) rfl rfl
theorem tw_116 : (Jvm.Cond.superclass "LoanRounds$Queue" "java/lang/Object") ∈ TT := tt_of (i := 116) rfl rfl
theorem tw_117 : (Jvm.Cond.instantiable "LoanRounds$Group" (2 : Nat)) ∈ TT := tt_of (i := 117) rfl rfl
theorem tw_119 : (Jvm.Cond.instanceMethod ({ cls := "LoanRounds$Group", name := "<init>", desc := "()V" } : Jvm.MethodName)) ∈ TT := tt_of (i := 119) rfl rfl
theorem tw_120 : (Jvm.Cond.code ({ cls := "LoanRounds$Group", name := "<init>", desc := "()V" } : Jvm.MethodName) prog_2_method_1_code (1 : Nat) (Option.none : Option Jvm.ClassFile.FieldType)) ∈ TT := tt_of (i := 120) rfl rfl
theorem tw_121 : (Jvm.Cond.methodLink "LoanRounds$Group" (3 : Nat) ({ cls := "java/lang/Object", name := "<init>", desc := "()V" } : Jvm.MethodName)) ∈ TT := tt_of (i := 121) rfl rfl
theorem tw_122 : (Jvm.Cond.fieldLink "LoanRounds$Group" (9 : Nat) "LoanRounds$Group" "limit" "I") ∈ TT := tt_of (i := 122) rfl rfl
theorem tw_123 : (Jvm.Cond.fieldLink "LoanRounds$Task" (60 : Nat) "LoanRounds$Group" "limit" "I") ∈ TT := tt_of (i := 123) rfl rfl
theorem tw_124 : (Jvm.Cond.fieldLink "LoanRounds" (200 : Nat) "LoanRounds$Group" "limit" "I") ∈ TT := tt_of (i := 124) rfl rfl
theorem tw_125 : (Jvm.Cond.fieldLink "LoanRounds$Group" (15 : Nat) "LoanRounds$Group" "lent" "I") ∈ TT := tt_of (i := 125) rfl rfl
theorem tw_126 : (Jvm.Cond.fieldLink "LoanRounds$Task" (55 : Nat) "LoanRounds$Group" "lent" "I") ∈ TT := tt_of (i := 126) rfl rfl
theorem tw_127 : (Jvm.Cond.fieldLink "LoanRounds" (193 : Nat) "LoanRounds$Group" "lent" "I") ∈ TT := tt_of (i := 127) rfl rfl
theorem tw_128 : (Jvm.Cond.lays "LoanRounds$Group" "LoanRounds$Group" "limit" "I") ∈ TT := tt_of (i := 128) rfl rfl
theorem tw_130 : (Jvm.Cond.lays "LoanRounds$Group" "LoanRounds$Group" "lent" "I") ∈ TT := tt_of (i := 130) rfl rfl
theorem tw_132 : (Jvm.Cond.superclass "LoanRounds$Group" "java/lang/Object") ∈ TT := tt_of (i := 132) rfl rfl
theorem tw_133 : (Jvm.Cond.fieldLink "LoanRounds" (11 : Nat) "LoanRounds" "queues" "[LLoanRounds$Queue;") ∈ TT := tt_of (i := 133) rfl rfl
theorem tw_134 : (Jvm.Cond.fieldLink "LoanRounds" (17 : Nat) "LoanRounds" "groups" "[LLoanRounds$Group;") ∈ TT := tt_of (i := 134) rfl rfl
theorem tw_135 : (Jvm.Cond.fieldLink "LoanRounds" (24 : Nat) "LoanRounds" "tasks" "Ljava/util/ArrayList;") ∈ TT := tt_of (i := 135) rfl rfl
theorem tw_136 : (Jvm.Cond.fieldLink "LoanRounds" (28 : Nat) "LoanRounds" "time" "I") ∈ TT := tt_of (i := 136) rfl rfl
theorem tw_137 : (Jvm.Cond.fieldLink "LoanRounds" (32 : Nat) "LoanRounds" "tokens" "I") ∈ TT := tt_of (i := 137) rfl rfl
theorem tw_138 : (Jvm.Cond.laysFinal "LoanRounds" "LoanRounds" "queues" "[LLoanRounds$Queue;") ∈ TT := tt_of (i := 138) rfl rfl
theorem tw_140 : (Jvm.Cond.laysFinal "LoanRounds" "LoanRounds" "groups" "[LLoanRounds$Group;") ∈ TT := tt_of (i := 140) rfl rfl
theorem tw_142 : (Jvm.Cond.laysFinal "LoanRounds" "LoanRounds" "tasks" "Ljava/util/ArrayList;") ∈ TT := tt_of (i := 142) rfl rfl
theorem tw_144 : (Jvm.Cond.lays "LoanRounds" "LoanRounds" "time" "I") ∈ TT := tt_of (i := 144) rfl rfl
theorem tw_146 : (Jvm.Cond.lays "LoanRounds" "LoanRounds" "tokens" "I") ∈ TT := tt_of (i := 146) rfl rfl
theorem tw_148 : (Jvm.Cond.superclass "LoanRounds" "java/lang/Object") ∈ TT := tt_of (i := 148) rfl rfl
theorem tw_149 : (Jvm.Cond.methodLink "LoanRoundsLaw" (53 : Nat) ({ cls := "LoanRounds", name := "beat", desc := "(I)Z" } : Jvm.MethodName)) ∈ TT := tt_of (i := 149) rfl rfl
theorem tw_150 : (Jvm.Cond.instanceMethod ({ cls := "LoanRounds", name := "beat", desc := "(I)Z" } : Jvm.MethodName)) ∈ TT := tt_of (i := 150) rfl rfl
theorem tw_151 : (Jvm.Cond.selects "LoanRounds" ({ cls := "LoanRounds", name := "beat", desc := "(I)Z" } : Jvm.MethodName) ({ cls := "LoanRounds", name := "beat", desc := "(I)Z" } : Jvm.MethodName)) ∈ TT := tt_of (i := 151) rfl rfl
theorem tw_152 : (Jvm.Cond.code ({ cls := "LoanRounds", name := "beat", desc := "(I)Z" } : Jvm.MethodName) prog_1_method_4_code (3 : Nat) (Option.some Jvm.ClassFile.FieldType.boolean)) ∈ TT := tt_of (i := 152) rfl rfl
theorem tw_153 : (Jvm.Cond.methodLink "LoanRounds" (101 : Nat) ({ cls := "LoanRounds", name := "lentWith", desc := "(I)LLoanRounds$Task;" } : Jvm.MethodName)) ∈ TT := tt_of (i := 153) rfl rfl
theorem tw_155 : (Jvm.Cond.instanceMethod ({ cls := "LoanRounds", name := "lentWith", desc := "(I)LLoanRounds$Task;" } : Jvm.MethodName)) ∈ TT := tt_of (i := 155) rfl rfl
theorem tw_156 : (Jvm.Cond.code ({ cls := "LoanRounds", name := "lentWith", desc := "(I)LLoanRounds$Task;" } : Jvm.MethodName) prog_1_method_21_code (4 : Nat) (Option.some (Jvm.ClassFile.FieldType.object "LoanRounds$Task"))) ∈ TT := tt_of (i := 156) rfl rfl
theorem tw_157 : (Jvm.Cond.methodLink "LoanRounds" (66 : Nat) ({ cls := "java/util/ArrayList", name := "size", desc := "()I" } : Jvm.MethodName)) ∈ TT := tt_of (i := 157) rfl rfl
theorem tw_158 : (Jvm.Cond.instanceMethod ({ cls := "java/util/ArrayList", name := "size", desc := "()I" } : Jvm.MethodName)) ∈ TT := tt_of (i := 158) rfl rfl
theorem tw_159 : (Jvm.Cond.selects "java/util/ArrayList" ({ cls := "java/util/ArrayList", name := "size", desc := "()I" } : Jvm.MethodName) ({ cls := "java/util/ArrayList", name := "size", desc := "()I" } : Jvm.MethodName)) ∈ TT := tt_of (i := 159) rfl rfl
theorem tw_160 : (Jvm.Cond.code ({ cls := "java/util/ArrayList", name := "size", desc := "()I" } : Jvm.MethodName) prog_20_method_8_code (1 : Nat) (Option.some Jvm.ClassFile.FieldType.int)) ∈ TT := tt_of (i := 160) rfl rfl
theorem tw_161 : (Jvm.Cond.methodLink "LoanRounds" (140 : Nat) ({ cls := "java/util/ArrayList", name := "get", desc := "(I)Ljava/lang/Object;" } : Jvm.MethodName)) ∈ TT := tt_of (i := 161) rfl rfl
theorem tw_162 : (Jvm.Cond.instanceMethod ({ cls := "java/util/ArrayList", name := "get", desc := "(I)Ljava/lang/Object;" } : Jvm.MethodName)) ∈ TT := tt_of (i := 162) rfl rfl
theorem tw_163 : (Jvm.Cond.selects "java/util/ArrayList" ({ cls := "java/util/ArrayList", name := "get", desc := "(I)Ljava/lang/Object;" } : Jvm.MethodName) ({ cls := "java/util/ArrayList", name := "get", desc := "(I)Ljava/lang/Object;" } : Jvm.MethodName)) ∈ TT := tt_of (i := 163) rfl rfl
theorem tw_164 : (Jvm.Cond.code ({ cls := "java/util/ArrayList", name := "get", desc := "(I)Ljava/lang/Object;" } : Jvm.MethodName) prog_20_method_20_code (2 : Nat) (Option.some (Jvm.ClassFile.FieldType.object "java/lang/Object"))) ∈ TT := tt_of (i := 164) rfl rfl
theorem tw_165 : (Jvm.Cond.methodLink "java/util/ArrayList" (118 : Nat) ({ cls := "java/util/Objects", name := "checkIndex", desc := "(II)I" } : Jvm.MethodName)) ∈ TT := tt_of (i := 165) rfl rfl
theorem tw_166 : (Jvm.Cond.static ({ cls := "java/util/Objects", name := "checkIndex", desc := "(II)I" } : Jvm.MethodName)) ∈ TT := tt_of (i := 166) rfl rfl
theorem tw_167 : (Jvm.Cond.code ({ cls := "java/util/Objects", name := "checkIndex", desc := "(II)I" } : Jvm.MethodName) prog_25_method_17_code (2 : Nat) (Option.some Jvm.ClassFile.FieldType.int)) ∈ TT := tt_of (i := 167) rfl rfl
theorem tw_168 : (Jvm.Cond.methodLink "java/util/Objects" (105 : Nat) ({ cls := "jdk/internal/util/Preconditions", name := "checkIndex", desc := "(IILjava/util/function/BiFunction;)I" } : Jvm.MethodName)) ∈ TT := tt_of (i := 168) rfl rfl
theorem tw_169 : (Jvm.Cond.static ({ cls := "jdk/internal/util/Preconditions", name := "checkIndex", desc := "(IILjava/util/function/BiFunction;)I" } : Jvm.MethodName)) ∈ TT := tt_of (i := 169) rfl rfl
theorem tw_170 : (Jvm.Cond.code ({ cls := "jdk/internal/util/Preconditions", name := "checkIndex", desc := "(IILjava/util/function/BiFunction;)I" } : Jvm.MethodName) prog_29_method_11_code (3 : Nat) (Option.some Jvm.ClassFile.FieldType.int)) ∈ TT := tt_of (i := 170) rfl rfl
theorem tw_171 : (Jvm.Cond.methodLink "java/util/ArrayList" (123 : Nat) ({ cls := "java/util/ArrayList", name := "elementData", desc := "(I)Ljava/lang/Object;" } : Jvm.MethodName)) ∈ TT := tt_of (i := 171) rfl rfl
theorem tw_172 : (Jvm.Cond.instanceMethod ({ cls := "java/util/ArrayList", name := "elementData", desc := "(I)Ljava/lang/Object;" } : Jvm.MethodName)) ∈ TT := tt_of (i := 172) rfl rfl
theorem tw_173 : (Jvm.Cond.selects "java/util/ArrayList" ({ cls := "java/util/ArrayList", name := "elementData", desc := "(I)Ljava/lang/Object;" } : Jvm.MethodName) ({ cls := "java/util/ArrayList", name := "elementData", desc := "(I)Ljava/lang/Object;" } : Jvm.MethodName)) ∈ TT := tt_of (i := 173) rfl rfl
theorem tw_174 : (Jvm.Cond.code ({ cls := "java/util/ArrayList", name := "elementData", desc := "(I)Ljava/lang/Object;" } : Jvm.MethodName) prog_20_method_18_code (2 : Nat) (Option.some (Jvm.ClassFile.FieldType.object "java/lang/Object"))) ∈ TT := tt_of (i := 174) rfl rfl
theorem tw_175 : (Jvm.Cond.classLink "LoanRounds" (74 : Nat) "LoanRounds$Task") ∈ TT := tt_of (i := 175) rfl rfl
theorem tw_176 : (Jvm.Cond.methodLink "LoanRoundsLaw" (65 : Nat) ({ cls := "LoanRounds", name := "cancel", desc := "(I)Z" } : Jvm.MethodName)) ∈ TT := tt_of (i := 176) rfl rfl
theorem tw_177 : (Jvm.Cond.instanceMethod ({ cls := "LoanRounds", name := "cancel", desc := "(I)Z" } : Jvm.MethodName)) ∈ TT := tt_of (i := 177) rfl rfl
theorem tw_178 : (Jvm.Cond.selects "LoanRounds" ({ cls := "LoanRounds", name := "cancel", desc := "(I)Z" } : Jvm.MethodName) ({ cls := "LoanRounds", name := "cancel", desc := "(I)Z" } : Jvm.MethodName)) ∈ TT := tt_of (i := 178) rfl rfl
theorem tw_179 : (Jvm.Cond.code ({ cls := "LoanRounds", name := "cancel", desc := "(I)Z" } : Jvm.MethodName) prog_1_method_7_code (3 : Nat) (Option.some Jvm.ClassFile.FieldType.boolean)) ∈ TT := tt_of (i := 179) rfl rfl
theorem tw_180 : (Jvm.Cond.methodLink "LoanRounds" (147 : Nat) ({ cls := "LoanRounds", name := "taskAt", desc := "(I)LLoanRounds$Task;" } : Jvm.MethodName)) ∈ TT := tt_of (i := 180) rfl rfl
theorem tw_182 : (Jvm.Cond.instanceMethod ({ cls := "LoanRounds", name := "taskAt", desc := "(I)LLoanRounds$Task;" } : Jvm.MethodName)) ∈ TT := tt_of (i := 182) rfl rfl
theorem tw_183 : (Jvm.Cond.code ({ cls := "LoanRounds", name := "taskAt", desc := "(I)LLoanRounds$Task;" } : Jvm.MethodName) prog_1_method_20_code (2 : Nat) (Option.some (Jvm.ClassFile.FieldType.object "LoanRounds$Task"))) ∈ TT := tt_of (i := 183) rfl rfl
theorem tw_184 : (Jvm.Cond.methodLink "LoanRounds" (41 : Nat) ({ cls := "LoanRounds", name := "within", desc := "(III)Z" } : Jvm.MethodName)) ∈ TT := tt_of (i := 184) rfl rfl
theorem tw_185 : (Jvm.Cond.static ({ cls := "LoanRounds", name := "within", desc := "(III)Z" } : Jvm.MethodName)) ∈ TT := tt_of (i := 185) rfl rfl
theorem tw_186 : (Jvm.Cond.code ({ cls := "LoanRounds", name := "within", desc := "(III)Z" } : Jvm.MethodName) prog_1_method_15_code (3 : Nat) (Option.some Jvm.ClassFile.FieldType.boolean)) ∈ TT := tt_of (i := 186) rfl rfl
theorem tw_187 : (Jvm.Cond.methodLink "LoanRounds" (150 : Nat) ({ cls := "LoanRounds$Task", name := "isLive", desc := "()Z" } : Jvm.MethodName)) ∈ TT := tt_of (i := 187) rfl rfl
theorem tw_188 : (Jvm.Cond.instanceMethod ({ cls := "LoanRounds$Task", name := "isLive", desc := "()Z" } : Jvm.MethodName)) ∈ TT := tt_of (i := 188) rfl rfl
theorem tw_189 : (Jvm.Cond.selects "LoanRounds$Task" ({ cls := "LoanRounds$Task", name := "isLive", desc := "()Z" } : Jvm.MethodName) ({ cls := "LoanRounds$Task", name := "isLive", desc := "()Z" } : Jvm.MethodName)) ∈ TT := tt_of (i := 189) rfl rfl
theorem tw_190 : (Jvm.Cond.code ({ cls := "LoanRounds$Task", name := "isLive", desc := "()Z" } : Jvm.MethodName) prog_4_method_2_code (1 : Nat) (Option.some Jvm.ClassFile.FieldType.boolean)) ∈ TT := tt_of (i := 190) rfl rfl
theorem tw_191 : (Jvm.Cond.methodLink "LoanRounds" (154 : Nat) ({ cls := "LoanRounds$Task", name := "become", desc := "(I)V" } : Jvm.MethodName)) ∈ TT := tt_of (i := 191) rfl rfl
theorem tw_192 : (Jvm.Cond.instanceMethod ({ cls := "LoanRounds$Task", name := "become", desc := "(I)V" } : Jvm.MethodName)) ∈ TT := tt_of (i := 192) rfl rfl
theorem tw_193 : (Jvm.Cond.selects "LoanRounds$Task" ({ cls := "LoanRounds$Task", name := "become", desc := "(I)V" } : Jvm.MethodName) ({ cls := "LoanRounds$Task", name := "become", desc := "(I)V" } : Jvm.MethodName)) ∈ TT := tt_of (i := 193) rfl rfl
theorem tw_194 : (Jvm.Cond.code ({ cls := "LoanRounds$Task", name := "become", desc := "(I)V" } : Jvm.MethodName) prog_4_method_8_code (2 : Nat) (Option.none : Option Jvm.ClassFile.FieldType)) ∈ TT := tt_of (i := 194) rfl rfl
theorem tw_195 : (Jvm.Cond.methodLink "LoanRoundsLaw" (69 : Nat) ({ cls := "LoanRounds", name := "revive", desc := "(I)Z" } : Jvm.MethodName)) ∈ TT := tt_of (i := 195) rfl rfl
theorem tw_196 : (Jvm.Cond.instanceMethod ({ cls := "LoanRounds", name := "revive", desc := "(I)Z" } : Jvm.MethodName)) ∈ TT := tt_of (i := 196) rfl rfl
theorem tw_197 : (Jvm.Cond.selects "LoanRounds" ({ cls := "LoanRounds", name := "revive", desc := "(I)Z" } : Jvm.MethodName) ({ cls := "LoanRounds", name := "revive", desc := "(I)Z" } : Jvm.MethodName)) ∈ TT := tt_of (i := 197) rfl rfl
theorem tw_198 : (Jvm.Cond.code ({ cls := "LoanRounds", name := "revive", desc := "(I)Z" } : Jvm.MethodName) prog_1_method_8_code (3 : Nat) (Option.some Jvm.ClassFile.FieldType.boolean)) ∈ TT := tt_of (i := 198) rfl rfl
theorem tw_199 : (Jvm.Cond.methodLink "LoanRounds" (62 : Nat) ({ cls := "LoanRounds", name := "liveTasks", desc := "()I" } : Jvm.MethodName)) ∈ TT := tt_of (i := 199) rfl rfl
theorem tw_201 : (Jvm.Cond.instanceMethod ({ cls := "LoanRounds", name := "liveTasks", desc := "()I" } : Jvm.MethodName)) ∈ TT := tt_of (i := 201) rfl rfl
theorem tw_202 : (Jvm.Cond.code ({ cls := "LoanRounds", name := "liveTasks", desc := "()I" } : Jvm.MethodName) prog_1_method_24_code (1 : Nat) (Option.some Jvm.ClassFile.FieldType.int)) ∈ TT := tt_of (i := 202) rfl rfl
theorem tw_203 : (Jvm.Cond.methodLink "LoanRounds" (187 : Nat) ({ cls := "LoanRounds", name := "tasksThatAre", desc := "(I)I" } : Jvm.MethodName)) ∈ TT := tt_of (i := 203) rfl rfl
theorem tw_205 : (Jvm.Cond.instanceMethod ({ cls := "LoanRounds", name := "tasksThatAre", desc := "(I)I" } : Jvm.MethodName)) ∈ TT := tt_of (i := 205) rfl rfl
theorem tw_206 : (Jvm.Cond.code ({ cls := "LoanRounds", name := "tasksThatAre", desc := "(I)I" } : Jvm.MethodName) prog_1_method_25_code (4 : Nat) (Option.some Jvm.ClassFile.FieldType.int)) ∈ TT := tt_of (i := 206) rfl rfl
theorem tw_207 : (Jvm.Cond.methodLink "LoanRounds" (127 : Nat) ({ cls := "LoanRounds$Task", name := "becomeWaiting", desc := "(I)V" } : Jvm.MethodName)) ∈ TT := tt_of (i := 207) rfl rfl
theorem tw_208 : (Jvm.Cond.instanceMethod ({ cls := "LoanRounds$Task", name := "becomeWaiting", desc := "(I)V" } : Jvm.MethodName)) ∈ TT := tt_of (i := 208) rfl rfl
theorem tw_209 : (Jvm.Cond.selects "LoanRounds$Task" ({ cls := "LoanRounds$Task", name := "becomeWaiting", desc := "(I)V" } : Jvm.MethodName) ({ cls := "LoanRounds$Task", name := "becomeWaiting", desc := "(I)V" } : Jvm.MethodName)) ∈ TT := tt_of (i := 209) rfl rfl
theorem tw_210 : (Jvm.Cond.code ({ cls := "LoanRounds$Task", name := "becomeWaiting", desc := "(I)V" } : Jvm.MethodName) prog_4_method_9_code (2 : Nat) (Option.none : Option Jvm.ClassFile.FieldType)) ∈ TT := tt_of (i := 210) rfl rfl
theorem tw_211 : (Jvm.Cond.methodLink "LoanRounds$Task" (85 : Nat) ({ cls := "LoanRounds$Task", name := "become", desc := "(I)V" } : Jvm.MethodName)) ∈ TT := tt_of (i := 211) rfl rfl
theorem tw_212 : (Jvm.Cond.methodLink "LoanRoundsLaw" (73 : Nat) ({ cls := "LoanRounds", name := "set", desc := "(III)Z" } : Jvm.MethodName)) ∈ TT := tt_of (i := 212) rfl rfl
theorem tw_213 : (Jvm.Cond.instanceMethod ({ cls := "LoanRounds", name := "set", desc := "(III)Z" } : Jvm.MethodName)) ∈ TT := tt_of (i := 213) rfl rfl
theorem tw_214 : (Jvm.Cond.selects "LoanRounds" ({ cls := "LoanRounds", name := "set", desc := "(III)Z" } : Jvm.MethodName) ({ cls := "LoanRounds", name := "set", desc := "(III)Z" } : Jvm.MethodName)) ∈ TT := tt_of (i := 214) rfl rfl
theorem tw_215 : (Jvm.Cond.code ({ cls := "LoanRounds", name := "set", desc := "(III)Z" } : Jvm.MethodName) prog_1_method_9_code (5 : Nat) (Option.some Jvm.ClassFile.FieldType.boolean)) ∈ TT := tt_of (i := 215) rfl rfl
theorem tw_216 : (Jvm.Cond.methodLink "LoanRounds" (52 : Nat) ({ cls := "LoanRounds", name := "groupAt", desc := "(I)LLoanRounds$Group;" } : Jvm.MethodName)) ∈ TT := tt_of (i := 216) rfl rfl
theorem tw_218 : (Jvm.Cond.instanceMethod ({ cls := "LoanRounds", name := "groupAt", desc := "(I)LLoanRounds$Group;" } : Jvm.MethodName)) ∈ TT := tt_of (i := 218) rfl rfl
theorem tw_219 : (Jvm.Cond.code ({ cls := "LoanRounds", name := "groupAt", desc := "(I)LLoanRounds$Group;" } : Jvm.MethodName) prog_1_method_19_code (2 : Nat) (Option.some (Jvm.ClassFile.FieldType.object "LoanRounds$Group"))) ∈ TT := tt_of (i := 219) rfl rfl
theorem tw_220 : (Jvm.Cond.methodLink "LoanRounds" (157 : Nat) ({ cls := "LoanRounds", name := "changeLimit", desc := "(LLoanRounds$Group;I)Z" } : Jvm.MethodName)) ∈ TT := tt_of (i := 220) rfl rfl
theorem tw_221 : (Jvm.Cond.static ({ cls := "LoanRounds", name := "changeLimit", desc := "(LLoanRounds$Group;I)Z" } : Jvm.MethodName)) ∈ TT := tt_of (i := 221) rfl rfl
theorem tw_222 : (Jvm.Cond.code ({ cls := "LoanRounds", name := "changeLimit", desc := "(LLoanRounds$Group;I)Z" } : Jvm.MethodName) prog_1_method_17_code (2 : Nat) (Option.some Jvm.ClassFile.FieldType.boolean)) ∈ TT := tt_of (i := 222) rfl rfl
theorem tw_223 : (Jvm.Cond.methodLink "LoanRounds" (37 : Nat) ({ cls := "LoanRounds", name := "queueAt", desc := "(I)LLoanRounds$Queue;" } : Jvm.MethodName)) ∈ TT := tt_of (i := 223) rfl rfl
theorem tw_225 : (Jvm.Cond.instanceMethod ({ cls := "LoanRounds", name := "queueAt", desc := "(I)LLoanRounds$Queue;" } : Jvm.MethodName)) ∈ TT := tt_of (i := 225) rfl rfl
theorem tw_226 : (Jvm.Cond.code ({ cls := "LoanRounds", name := "queueAt", desc := "(I)LLoanRounds$Queue;" } : Jvm.MethodName) prog_1_method_18_code (2 : Nat) (Option.some (Jvm.ClassFile.FieldType.object "LoanRounds$Queue"))) ∈ TT := tt_of (i := 226) rfl rfl
theorem tw_227 : (Jvm.Cond.methodLink "LoanRounds" (161 : Nat) ({ cls := "LoanRounds$Queue", name := "change", desc := "(II)Z" } : Jvm.MethodName)) ∈ TT := tt_of (i := 227) rfl rfl
theorem tw_228 : (Jvm.Cond.instanceMethod ({ cls := "LoanRounds$Queue", name := "change", desc := "(II)Z" } : Jvm.MethodName)) ∈ TT := tt_of (i := 228) rfl rfl
theorem tw_229 : (Jvm.Cond.selects "LoanRounds$Queue" ({ cls := "LoanRounds$Queue", name := "change", desc := "(II)Z" } : Jvm.MethodName) ({ cls := "LoanRounds$Queue", name := "change", desc := "(II)Z" } : Jvm.MethodName)) ∈ TT := tt_of (i := 229) rfl rfl
theorem tw_230 : (Jvm.Cond.code ({ cls := "LoanRounds$Queue", name := "change", desc := "(II)Z" } : Jvm.MethodName) prog_3_method_2_code (3 : Nat) (Option.some Jvm.ClassFile.FieldType.boolean)) ∈ TT := tt_of (i := 230) rfl rfl
theorem tw_231 : (Jvm.Cond.methodLink "LoanRounds$Queue" (30 : Nat) ({ cls := "LoanRounds$Queue", name := "mayBe", desc := "(II)Z" } : Jvm.MethodName)) ∈ TT := tt_of (i := 231) rfl rfl
theorem tw_232 : (Jvm.Cond.static ({ cls := "LoanRounds$Queue", name := "mayBe", desc := "(II)Z" } : Jvm.MethodName)) ∈ TT := tt_of (i := 232) rfl rfl
theorem tw_233 : (Jvm.Cond.code ({ cls := "LoanRounds$Queue", name := "mayBe", desc := "(II)Z" } : Jvm.MethodName) prog_3_method_3_code (2 : Nat) (Option.some Jvm.ClassFile.FieldType.boolean)) ∈ TT := tt_of (i := 233) rfl rfl
theorem tw_235 : (Jvm.Cond.methodLink "LoanRoundsLaw" (81 : Nat) ({ cls := "LoanRounds", name := "first", desc := "(I)I" } : Jvm.MethodName)) ∈ TT := tt_of (i := 235) rfl rfl
theorem tw_236 : (Jvm.Cond.instanceMethod ({ cls := "LoanRounds", name := "first", desc := "(I)I" } : Jvm.MethodName)) ∈ TT := tt_of (i := 236) rfl rfl
theorem tw_237 : (Jvm.Cond.selects "LoanRounds" ({ cls := "LoanRounds", name := "first", desc := "(I)I" } : Jvm.MethodName) ({ cls := "LoanRounds", name := "first", desc := "(I)I" } : Jvm.MethodName)) ∈ TT := tt_of (i := 237) rfl rfl
theorem tw_238 : (Jvm.Cond.code ({ cls := "LoanRounds", name := "first", desc := "(I)I" } : Jvm.MethodName) prog_1_method_11_code (4 : Nat) (Option.some Jvm.ClassFile.FieldType.int)) ∈ TT := tt_of (i := 238) rfl rfl
theorem tw_239 : (Jvm.Cond.methodLink "LoanRounds" (89 : Nat) ({ cls := "LoanRounds", name := "firstOf", desc := "(LLoanRounds$Queue;)LLoanRounds$Task;" } : Jvm.MethodName)) ∈ TT := tt_of (i := 239) rfl rfl
theorem tw_241 : (Jvm.Cond.instanceMethod ({ cls := "LoanRounds", name := "firstOf", desc := "(LLoanRounds$Queue;)LLoanRounds$Task;" } : Jvm.MethodName)) ∈ TT := tt_of (i := 241) rfl rfl
theorem tw_242 : (Jvm.Cond.code ({ cls := "LoanRounds", name := "firstOf", desc := "(LLoanRounds$Queue;)LLoanRounds$Task;" } : Jvm.MethodName) prog_1_method_23_code (5 : Nat) (Option.some (Jvm.ClassFile.FieldType.object "LoanRounds$Task"))) ∈ TT := tt_of (i := 242) rfl rfl
theorem tw_243 : (Jvm.Cond.methodLink "LoanRounds" (210 : Nat) ({ cls := "LoanRounds$Task", name := "mayBeHad", desc := "(I)Z" } : Jvm.MethodName)) ∈ TT := tt_of (i := 243) rfl rfl
theorem tw_244 : (Jvm.Cond.instanceMethod ({ cls := "LoanRounds$Task", name := "mayBeHad", desc := "(I)Z" } : Jvm.MethodName)) ∈ TT := tt_of (i := 244) rfl rfl
theorem tw_245 : (Jvm.Cond.selects "LoanRounds$Task" ({ cls := "LoanRounds$Task", name := "mayBeHad", desc := "(I)Z" } : Jvm.MethodName) ({ cls := "LoanRounds$Task", name := "mayBeHad", desc := "(I)Z" } : Jvm.MethodName)) ∈ TT := tt_of (i := 245) rfl rfl
theorem tw_246 : (Jvm.Cond.code ({ cls := "LoanRounds$Task", name := "mayBeHad", desc := "(I)Z" } : Jvm.MethodName) prog_4_method_4_code (2 : Nat) (Option.some Jvm.ClassFile.FieldType.boolean)) ∈ TT := tt_of (i := 246) rfl rfl
theorem tw_247 : (Jvm.Cond.methodLink "LoanRounds$Task" (51 : Nat) ({ cls := "LoanRounds$Task", name := "isDue", desc := "(I)Z" } : Jvm.MethodName)) ∈ TT := tt_of (i := 247) rfl rfl
theorem tw_248 : (Jvm.Cond.instanceMethod ({ cls := "LoanRounds$Task", name := "isDue", desc := "(I)Z" } : Jvm.MethodName)) ∈ TT := tt_of (i := 248) rfl rfl
theorem tw_249 : (Jvm.Cond.selects "LoanRounds$Task" ({ cls := "LoanRounds$Task", name := "isDue", desc := "(I)Z" } : Jvm.MethodName) ({ cls := "LoanRounds$Task", name := "isDue", desc := "(I)Z" } : Jvm.MethodName)) ∈ TT := tt_of (i := 249) rfl rfl
theorem tw_250 : (Jvm.Cond.code ({ cls := "LoanRounds$Task", name := "isDue", desc := "(I)Z" } : Jvm.MethodName) prog_4_method_3_code (2 : Nat) (Option.some Jvm.ClassFile.FieldType.boolean)) ∈ TT := tt_of (i := 250) rfl rfl
theorem tw_251 : (Jvm.Cond.methodLink "LoanRounds" (213 : Nat) ({ cls := "LoanRounds$Task", name := "goesBefore", desc := "(LLoanRounds$Task;I)Z" } : Jvm.MethodName)) ∈ TT := tt_of (i := 251) rfl rfl
theorem tw_252 : (Jvm.Cond.instanceMethod ({ cls := "LoanRounds$Task", name := "goesBefore", desc := "(LLoanRounds$Task;I)Z" } : Jvm.MethodName)) ∈ TT := tt_of (i := 252) rfl rfl
theorem tw_253 : (Jvm.Cond.selects "LoanRounds$Task" ({ cls := "LoanRounds$Task", name := "goesBefore", desc := "(LLoanRounds$Task;I)Z" } : Jvm.MethodName) ({ cls := "LoanRounds$Task", name := "goesBefore", desc := "(LLoanRounds$Task;I)Z" } : Jvm.MethodName)) ∈ TT := tt_of (i := 253) rfl rfl
theorem tw_254 : (Jvm.Cond.code ({ cls := "LoanRounds$Task", name := "goesBefore", desc := "(LLoanRounds$Task;I)Z" } : Jvm.MethodName) prog_4_method_7_code (5 : Nat) (Option.some Jvm.ClassFile.FieldType.boolean)) ∈ TT := tt_of (i := 254) rfl rfl
theorem tw_255 : (Jvm.Cond.methodLink "LoanRounds$Task" (81 : Nat) ({ cls := "LoanRounds$Task", name := "weight", desc := "(I)I" } : Jvm.MethodName)) ∈ TT := tt_of (i := 255) rfl rfl
theorem tw_256 : (Jvm.Cond.instanceMethod ({ cls := "LoanRounds$Task", name := "weight", desc := "(I)I" } : Jvm.MethodName)) ∈ TT := tt_of (i := 256) rfl rfl
theorem tw_257 : (Jvm.Cond.selects "LoanRounds$Task" ({ cls := "LoanRounds$Task", name := "weight", desc := "(I)I" } : Jvm.MethodName) ({ cls := "LoanRounds$Task", name := "weight", desc := "(I)I" } : Jvm.MethodName)) ∈ TT := tt_of (i := 257) rfl rfl
theorem tw_258 : (Jvm.Cond.code ({ cls := "LoanRounds$Task", name := "weight", desc := "(I)I" } : Jvm.MethodName) prog_4_method_6_code (3 : Nat) (Option.some Jvm.ClassFile.FieldType.int)) ∈ TT := tt_of (i := 258) rfl rfl
theorem tw_259 : (Jvm.Cond.methodLink "LoanRounds$Task" (75 : Nat) ({ cls := "java/lang/Math", name := "min", desc := "(II)I" } : Jvm.MethodName)) ∈ TT := tt_of (i := 259) rfl rfl
theorem tw_260 : (Jvm.Cond.static ({ cls := "java/lang/Math", name := "min", desc := "(II)I" } : Jvm.MethodName)) ∈ TT := tt_of (i := 260) rfl rfl
theorem tw_261 : (Jvm.Cond.code ({ cls := "java/lang/Math", name := "min", desc := "(II)I" } : Jvm.MethodName) prog_13_method_69_code (2 : Nat) (Option.some Jvm.ClassFile.FieldType.int)) ∈ TT := tt_of (i := 261) rfl rfl
theorem tw_262 : (Jvm.Cond.methodLink "LoanRoundsLaw" (85 : Nat) ({ cls := "LoanRounds", name := "next", desc := "()I" } : Jvm.MethodName)) ∈ TT := tt_of (i := 262) rfl rfl
theorem tw_263 : (Jvm.Cond.instanceMethod ({ cls := "LoanRounds", name := "next", desc := "()I" } : Jvm.MethodName)) ∈ TT := tt_of (i := 263) rfl rfl
theorem tw_264 : (Jvm.Cond.selects "LoanRounds" ({ cls := "LoanRounds", name := "next", desc := "()I" } : Jvm.MethodName) ({ cls := "LoanRounds", name := "next", desc := "()I" } : Jvm.MethodName)) ∈ TT := tt_of (i := 264) rfl rfl
theorem tw_265 : (Jvm.Cond.code ({ cls := "LoanRounds", name := "next", desc := "()I" } : Jvm.MethodName) prog_1_method_12_code (4 : Nat) (Option.some Jvm.ClassFile.FieldType.int)) ∈ TT := tt_of (i := 265) rfl rfl
theorem tw_266 : (Jvm.Cond.methodLink "LoanRounds" (184 : Nat) ({ cls := "LoanRounds$Task", name := "comesAt", desc := "()I" } : Jvm.MethodName)) ∈ TT := tt_of (i := 266) rfl rfl
theorem tw_267 : (Jvm.Cond.instanceMethod ({ cls := "LoanRounds$Task", name := "comesAt", desc := "()I" } : Jvm.MethodName)) ∈ TT := tt_of (i := 267) rfl rfl
theorem tw_268 : (Jvm.Cond.selects "LoanRounds$Task" ({ cls := "LoanRounds$Task", name := "comesAt", desc := "()I" } : Jvm.MethodName) ({ cls := "LoanRounds$Task", name := "comesAt", desc := "()I" } : Jvm.MethodName)) ∈ TT := tt_of (i := 268) rfl rfl
theorem tw_269 : (Jvm.Cond.code ({ cls := "LoanRounds$Task", name := "comesAt", desc := "()I" } : Jvm.MethodName) prog_4_method_13_code (1 : Nat) (Option.some Jvm.ClassFile.FieldType.int)) ∈ TT := tt_of (i := 269) rfl rfl
theorem tw_270 : (Jvm.Cond.methodLink "LoanRoundsLaw" (89 : Nat) ({ cls := "LoanRounds", name := "count", desc := "(I)I" } : Jvm.MethodName)) ∈ TT := tt_of (i := 270) rfl rfl
theorem tw_271 : (Jvm.Cond.instanceMethod ({ cls := "LoanRounds", name := "count", desc := "(I)I" } : Jvm.MethodName)) ∈ TT := tt_of (i := 271) rfl rfl
theorem tw_272 : (Jvm.Cond.selects "LoanRounds" ({ cls := "LoanRounds", name := "count", desc := "(I)I" } : Jvm.MethodName) ({ cls := "LoanRounds", name := "count", desc := "(I)I" } : Jvm.MethodName)) ∈ TT := tt_of (i := 272) rfl rfl
theorem tw_273 : (Jvm.Cond.code ({ cls := "LoanRounds", name := "count", desc := "(I)I" } : Jvm.MethodName) prog_1_method_13_code (2 : Nat) (Option.some Jvm.ClassFile.FieldType.int)) ∈ TT := tt_of (i := 273) rfl rfl
theorem tw_274 : (Jvm.Cond.methodLink "LoanRounds" (190 : Nat) ({ cls := "LoanRounds", name := "countOfOne", desc := "(I)I" } : Jvm.MethodName)) ∈ TT := tt_of (i := 274) rfl rfl
theorem tw_276 : (Jvm.Cond.instanceMethod ({ cls := "LoanRounds", name := "countOfOne", desc := "(I)I" } : Jvm.MethodName)) ∈ TT := tt_of (i := 276) rfl rfl
theorem tw_277 : (Jvm.Cond.code ({ cls := "LoanRounds", name := "countOfOne", desc := "(I)I" } : Jvm.MethodName) prog_1_method_14_code (4 : Nat) (Option.some Jvm.ClassFile.FieldType.int)) ∈ TT := tt_of (i := 277) rfl rfl
theorem tw_278 : (Jvm.Cond.methodLink "LoanRounds" (83 : Nat) ({ cls := "LoanRounds", name := "isWorker", desc := "(I)Z" } : Jvm.MethodName)) ∈ TT := tt_of (i := 278) rfl rfl
theorem tw_279 : (Jvm.Cond.static ({ cls := "LoanRounds", name := "isWorker", desc := "(I)Z" } : Jvm.MethodName)) ∈ TT := tt_of (i := 279) rfl rfl
theorem tw_280 : (Jvm.Cond.code ({ cls := "LoanRounds", name := "isWorker", desc := "(I)Z" } : Jvm.MethodName) prog_1_method_16_code (1 : Nat) (Option.some Jvm.ClassFile.FieldType.boolean)) ∈ TT := tt_of (i := 280) rfl rfl
theorem tw_281 : (Jvm.Cond.methodLink "LoanRounds" (93 : Nat) ({ cls := "LoanRounds", name := "lentTo", desc := "(I)I" } : Jvm.MethodName)) ∈ TT := tt_of (i := 281) rfl rfl
theorem tw_283 : (Jvm.Cond.instanceMethod ({ cls := "LoanRounds", name := "lentTo", desc := "(I)I" } : Jvm.MethodName)) ∈ TT := tt_of (i := 283) rfl rfl
theorem tw_284 : (Jvm.Cond.code ({ cls := "LoanRounds", name := "lentTo", desc := "(I)I" } : Jvm.MethodName) prog_1_method_26_code (5 : Nat) (Option.some Jvm.ClassFile.FieldType.int)) ∈ TT := tt_of (i := 284) rfl rfl
theorem tw_285 : (Jvm.Cond.methodLink "LoanRounds" (196 : Nat) ({ cls := "LoanRounds", name := "waitingIn", desc := "(LLoanRounds$Queue;)I" } : Jvm.MethodName)) ∈ TT := tt_of (i := 285) rfl rfl
theorem tw_287 : (Jvm.Cond.instanceMethod ({ cls := "LoanRounds", name := "waitingIn", desc := "(LLoanRounds$Queue;)I" } : Jvm.MethodName)) ∈ TT := tt_of (i := 287) rfl rfl
theorem tw_288 : (Jvm.Cond.code ({ cls := "LoanRounds", name := "waitingIn", desc := "(LLoanRounds$Queue;)I" } : Jvm.MethodName) prog_1_method_27_code (5 : Nat) (Option.some Jvm.ClassFile.FieldType.int)) ∈ TT := tt_of (i := 288) rfl rfl
theorem tw_289 : (Jvm.Cond.methodLink "LoanRoundsLaw" (39 : Nat) ({ cls := "LoanRoundsLaw", name := "add", desc := "(LLoanRounds;IIIJI[J)I" } : Jvm.MethodName)) ∈ TT := tt_of (i := 289) rfl rfl
theorem tw_290 : (Jvm.Cond.static ({ cls := "LoanRoundsLaw", name := "add", desc := "(LLoanRounds;IIIJI[J)I" } : Jvm.MethodName)) ∈ TT := tt_of (i := 290) rfl rfl
theorem tw_292 : (Jvm.Cond.classLink "LoanRoundsLaw" (13 : Nat) "java/lang/IllegalArgumentException") ∈ TT := tt_of (i := 292) rfl rfl
theorem tw_293 : (Jvm.Cond.classLink "LoanRoundsLaw" (15 : Nat) "java/lang/IllegalStateException") ∈ TT := tt_of (i := 293) rfl rfl
theorem tw_294 : (Jvm.Cond.methodLink "LoanRoundsLaw" (7 : Nat) ({ cls := "LoanRounds", name := "add", desc := "(IIIJI)I" } : Jvm.MethodName)) ∈ TT := tt_of (i := 294) rfl rfl
theorem tw_295 : (Jvm.Cond.instanceMethod ({ cls := "LoanRounds", name := "add", desc := "(IIIJI)I" } : Jvm.MethodName)) ∈ TT := tt_of (i := 295) rfl rfl
theorem tw_296 : (Jvm.Cond.selects "LoanRounds" ({ cls := "LoanRounds", name := "add", desc := "(IIIJI)I" } : Jvm.MethodName) ({ cls := "LoanRounds", name := "add", desc := "(IIIJI)I" } : Jvm.MethodName)) ∈ TT := tt_of (i := 296) rfl rfl
theorem tw_297 : (Jvm.Cond.code ({ cls := "LoanRounds", name := "add", desc := "(IIIJI)I" } : Jvm.MethodName) prog_1_method_2_code (10 : Nat) (Option.some Jvm.ClassFile.FieldType.int)) ∈ TT := tt_of (i := 297) rfl rfl
theorem tw_298 : (Jvm.Cond.classLink "LoanRounds" (45 : Nat) "java/lang/IllegalArgumentException") ∈ TT := tt_of (i := 298) rfl rfl
theorem tw_299 : (Jvm.Cond.instantiable "java/lang/IllegalArgumentException" (6 : Nat)) ∈ TT := tt_of (i := 299) rfl rfl
theorem tw_307 : (Jvm.Cond.selects "java/lang/IllegalArgumentException" ({ cls := "java/lang/Throwable", name := "fillInStackTrace", desc := "(I)Ljava/lang/Throwable;" } : Jvm.MethodName) ({ cls := "java/lang/Throwable", name := "fillInStackTrace", desc := "(I)Ljava/lang/Throwable;" } : Jvm.MethodName)) ∈ TT := tt_of (i := 307) rfl rfl
theorem tw_308 : (Jvm.Cond.selects "java/lang/IllegalArgumentException" ({ cls := "java/lang/Throwable", name := "fillInStackTrace", desc := "()Ljava/lang/Throwable;" } : Jvm.MethodName) ({ cls := "java/lang/Throwable", name := "fillInStackTrace", desc := "()Ljava/lang/Throwable;" } : Jvm.MethodName)) ∈ TT := tt_of (i := 308) rfl rfl
theorem tw_309 : (Jvm.Cond.lays "java/lang/IllegalArgumentException" "java/lang/Throwable" "cause" "Ljava/lang/Throwable;") ∈ TT := tt_of (i := 309) rfl rfl
theorem tw_310 : (Jvm.Cond.lays "java/lang/Throwable" "java/lang/Throwable" "cause" "Ljava/lang/Throwable;") ∈ TT := tt_of (i := 310) rfl rfl
theorem tw_311 : (Jvm.Cond.lays "java/lang/IllegalArgumentException" "java/lang/Throwable" "stackTrace" "[Ljava/lang/StackTraceElement;") ∈ TT := tt_of (i := 311) rfl rfl
theorem tw_312 : (Jvm.Cond.lays "java/lang/Throwable" "java/lang/Throwable" "stackTrace" "[Ljava/lang/StackTraceElement;") ∈ TT := tt_of (i := 312) rfl rfl
theorem tw_313 : (Jvm.Cond.lays "java/lang/IllegalArgumentException" "java/lang/Throwable" "suppressedExceptions" "Ljava/util/List;") ∈ TT := tt_of (i := 313) rfl rfl
theorem tw_314 : (Jvm.Cond.lays "java/lang/Throwable" "java/lang/Throwable" "suppressedExceptions" "Ljava/util/List;") ∈ TT := tt_of (i := 314) rfl rfl
theorem tw_315 : (Jvm.Cond.lays "java/lang/IllegalArgumentException" "java/lang/Throwable" "detailMessage" "Ljava/lang/String;") ∈ TT := tt_of (i := 315) rfl rfl
theorem tw_316 : (Jvm.Cond.lays "java/lang/Throwable" "java/lang/Throwable" "detailMessage" "Ljava/lang/String;") ∈ TT := tt_of (i := 316) rfl rfl
theorem tw_317 : (Jvm.Cond.lays "java/lang/IllegalArgumentException" "java/lang/Throwable" "backtrace" "Ljava/lang/Object;") ∈ TT := tt_of (i := 317) rfl rfl
theorem tw_318 : (Jvm.Cond.lays "java/lang/Throwable" "java/lang/Throwable" "backtrace" "Ljava/lang/Object;") ∈ TT := tt_of (i := 318) rfl rfl
theorem tw_319 : (Jvm.Cond.fieldLink "java/lang/Throwable" (198 : Nat) "java/lang/Throwable" "backtrace" "Ljava/lang/Object;") ∈ TT := tt_of (i := 319) rfl rfl
theorem tw_320 : (Jvm.Cond.superclass "java/lang/Throwable" "java/lang/Object") ∈ TT := tt_of (i := 320) rfl rfl
theorem tw_321 : (Jvm.Cond.instanceMethod ({ cls := "java/lang/Throwable", name := "<init>", desc := "()V" } : Jvm.MethodName)) ∈ TT := tt_of (i := 321) rfl rfl
theorem tw_322 : (Jvm.Cond.code ({ cls := "java/lang/Throwable", name := "<init>", desc := "()V" } : Jvm.MethodName) prog_17_method_1_code (1 : Nat) (Option.none : Option Jvm.ClassFile.FieldType)) ∈ TT := tt_of (i := 322) rfl rfl
theorem tw_323 : (Jvm.Cond.methodLink "java/lang/Throwable" (1 : Nat) ({ cls := "java/lang/Object", name := "<init>", desc := "()V" } : Jvm.MethodName)) ∈ TT := tt_of (i := 323) rfl rfl
theorem tw_324 : (Jvm.Cond.fieldLink "java/lang/Throwable" (13 : Nat) "java/lang/Throwable" "UNASSIGNED_STACK" "[Ljava/lang/StackTraceElement;") ∈ TT := tt_of (i := 324) rfl rfl
theorem tw_326 : (Jvm.Cond.fieldLink "java/lang/Throwable" (20 : Nat) "java/lang/Throwable" "SUPPRESSED_SENTINEL" "Ljava/util/List;") ∈ TT := tt_of (i := 326) rfl rfl
theorem tw_328 : (Jvm.Cond.methodLink "java/lang/Throwable" (27 : Nat) ({ cls := "java/lang/Throwable", name := "fillInStackTrace", desc := "()Ljava/lang/Throwable;" } : Jvm.MethodName)) ∈ TT := tt_of (i := 328) rfl rfl
theorem tw_329 : (Jvm.Cond.instanceMethod ({ cls := "java/lang/Throwable", name := "fillInStackTrace", desc := "()Ljava/lang/Throwable;" } : Jvm.MethodName)) ∈ TT := tt_of (i := 329) rfl rfl
theorem tw_330 : (Jvm.Cond.sameMethod "java/lang/Throwable" "java/lang/Throwable" "fillInStackTrace" "()Ljava/lang/Throwable;") ∈ TT := tt_of (i := 330) rfl rfl
theorem tw_331 : (Jvm.Cond.selects "java/lang/IllegalStateException" ({ cls := "java/lang/Throwable", name := "fillInStackTrace", desc := "()Ljava/lang/Throwable;" } : Jvm.MethodName) ({ cls := "java/lang/Throwable", name := "fillInStackTrace", desc := "()Ljava/lang/Throwable;" } : Jvm.MethodName)) ∈ TT := tt_of (i := 331) rfl rfl
theorem tw_332 : (Jvm.Cond.selects "java/util/NoSuchElementException" ({ cls := "java/lang/Throwable", name := "fillInStackTrace", desc := "()Ljava/lang/Throwable;" } : Jvm.MethodName) ({ cls := "java/lang/Throwable", name := "fillInStackTrace", desc := "()Ljava/lang/Throwable;" } : Jvm.MethodName)) ∈ TT := tt_of (i := 332) rfl rfl
theorem tw_334 : (Jvm.Cond.methodLink "java/lang/Throwable" (202 : Nat) ({ cls := "java/lang/Throwable", name := "fillInStackTrace", desc := "(I)Ljava/lang/Throwable;" } : Jvm.MethodName)) ∈ TT := tt_of (i := 334) rfl rfl
theorem tw_336 : (Jvm.Cond.instanceMethod ({ cls := "java/lang/Throwable", name := "fillInStackTrace", desc := "(I)Ljava/lang/Throwable;" } : Jvm.MethodName)) ∈ TT := tt_of (i := 336) rfl rfl
theorem tw_337 : (Jvm.Cond.instantiable "java/lang/Throwable" (6 : Nat)) ∈ TT := tt_of (i := 337) rfl rfl
theorem tw_340 : (Jvm.Cond.methodLink "LoanRounds" (49 : Nat) ({ cls := "java/lang/IllegalArgumentException", name := "<init>", desc := "(Ljava/lang/String;)V" } : Jvm.MethodName)) ∈ TT := tt_of (i := 340) rfl rfl
theorem tw_341 : (Jvm.Cond.instanceMethod ({ cls := "java/lang/IllegalArgumentException", name := "<init>", desc := "(Ljava/lang/String;)V" } : Jvm.MethodName)) ∈ TT := tt_of (i := 341) rfl rfl
theorem tw_342 : (Jvm.Cond.code ({ cls := "java/lang/IllegalArgumentException", name := "<init>", desc := "(Ljava/lang/String;)V" } : Jvm.MethodName) prog_10_method_2_code (2 : Nat) (Option.none : Option Jvm.ClassFile.FieldType)) ∈ TT := tt_of (i := 342) rfl rfl
theorem tw_343 : (Jvm.Cond.methodLink "java/lang/IllegalArgumentException" (7 : Nat) ({ cls := "java/lang/RuntimeException", name := "<init>", desc := "(Ljava/lang/String;)V" } : Jvm.MethodName)) ∈ TT := tt_of (i := 343) rfl rfl
theorem tw_344 : (Jvm.Cond.instanceMethod ({ cls := "java/lang/RuntimeException", name := "<init>", desc := "(Ljava/lang/String;)V" } : Jvm.MethodName)) ∈ TT := tt_of (i := 344) rfl rfl
theorem tw_345 : (Jvm.Cond.code ({ cls := "java/lang/RuntimeException", name := "<init>", desc := "(Ljava/lang/String;)V" } : Jvm.MethodName) prog_14_method_2_code (2 : Nat) (Option.none : Option Jvm.ClassFile.FieldType)) ∈ TT := tt_of (i := 345) rfl rfl
theorem tw_346 : (Jvm.Cond.methodLink "java/lang/RuntimeException" (7 : Nat) ({ cls := "java/lang/Exception", name := "<init>", desc := "(Ljava/lang/String;)V" } : Jvm.MethodName)) ∈ TT := tt_of (i := 346) rfl rfl
theorem tw_347 : (Jvm.Cond.instanceMethod ({ cls := "java/lang/Exception", name := "<init>", desc := "(Ljava/lang/String;)V" } : Jvm.MethodName)) ∈ TT := tt_of (i := 347) rfl rfl
theorem tw_348 : (Jvm.Cond.code ({ cls := "java/lang/Exception", name := "<init>", desc := "(Ljava/lang/String;)V" } : Jvm.MethodName) prog_9_method_2_code (2 : Nat) (Option.none : Option Jvm.ClassFile.FieldType)) ∈ TT := tt_of (i := 348) rfl rfl
theorem tw_349 : (Jvm.Cond.methodLink "java/lang/Exception" (7 : Nat) ({ cls := "java/lang/Throwable", name := "<init>", desc := "(Ljava/lang/String;)V" } : Jvm.MethodName)) ∈ TT := tt_of (i := 349) rfl rfl
theorem tw_350 : (Jvm.Cond.instanceMethod ({ cls := "java/lang/Throwable", name := "<init>", desc := "(Ljava/lang/String;)V" } : Jvm.MethodName)) ∈ TT := tt_of (i := 350) rfl rfl
theorem tw_351 : (Jvm.Cond.code ({ cls := "java/lang/Throwable", name := "<init>", desc := "(Ljava/lang/String;)V" } : Jvm.MethodName) prog_17_method_2_code (2 : Nat) (Option.none : Option Jvm.ClassFile.FieldType)) ∈ TT := tt_of (i := 351) rfl rfl
theorem tw_352 : (Jvm.Cond.fieldLink "java/lang/Throwable" (198 : Nat) "java/lang/Throwable" "backtrace" "Ljava/lang/Object;") ∈ TT := tt_of (i := 352) rfl rfl
theorem tw_353 : (Jvm.Cond.fieldLink "java/lang/Throwable" (31 : Nat) "java/lang/Throwable" "detailMessage" "Ljava/lang/String;") ∈ TT := tt_of (i := 353) rfl rfl
theorem tw_354 : (Jvm.Cond.fieldLink "java/lang/Throwable" (7 : Nat) "java/lang/Throwable" "cause" "Ljava/lang/Throwable;") ∈ TT := tt_of (i := 354) rfl rfl
theorem tw_355 : (Jvm.Cond.fieldLink "java/lang/Throwable" (17 : Nat) "java/lang/Throwable" "stackTrace" "[Ljava/lang/StackTraceElement;") ∈ TT := tt_of (i := 355) rfl rfl
theorem tw_356 : (Jvm.Cond.fieldLink "java/lang/Throwable" (24 : Nat) "java/lang/Throwable" "suppressedExceptions" "Ljava/util/List;") ∈ TT := tt_of (i := 356) rfl rfl
theorem tw_361 : (Jvm.Cond.lays "java/lang/IllegalArgumentException" "java/lang/Throwable" "depth" "I") ∈ TT := tt_of (i := 361) rfl rfl
theorem tw_364 : (Jvm.Cond.superclass "java/lang/IllegalArgumentException" "java/lang/RuntimeException") ∈ TT := tt_of (i := 364) rfl rfl
theorem tw_365 : (Jvm.Cond.arrayClass Jvm.ClassFile.FieldType.byte) ∈ TT := tt_of (i := 365) rfl rfl
theorem tw_367 : (Jvm.Cond.methodLink "LoanRounds" (58 : Nat) ({ cls := "LoanRounds", name := "numberUnder", desc := "(LLoanRounds$Queue;J)I" } : Jvm.MethodName)) ∈ TT := tt_of (i := 367) rfl rfl
theorem tw_369 : (Jvm.Cond.instanceMethod ({ cls := "LoanRounds", name := "numberUnder", desc := "(LLoanRounds$Queue;J)I" } : Jvm.MethodName)) ∈ TT := tt_of (i := 369) rfl rfl
theorem tw_370 : (Jvm.Cond.code ({ cls := "LoanRounds", name := "numberUnder", desc := "(LLoanRounds$Queue;J)I" } : Jvm.MethodName) prog_1_method_22_code (6 : Nat) (Option.some Jvm.ClassFile.FieldType.int)) ∈ TT := tt_of (i := 370) rfl rfl
theorem tw_371 : (Jvm.Cond.methodLink "LoanRounds" (207 : Nat) ({ cls := "LoanRounds$Task", name := "holdsKey", desc := "(I)Z" } : Jvm.MethodName)) ∈ TT := tt_of (i := 371) rfl rfl
theorem tw_372 : (Jvm.Cond.instanceMethod ({ cls := "LoanRounds$Task", name := "holdsKey", desc := "(I)Z" } : Jvm.MethodName)) ∈ TT := tt_of (i := 372) rfl rfl
theorem tw_373 : (Jvm.Cond.selects "LoanRounds$Task" ({ cls := "LoanRounds$Task", name := "holdsKey", desc := "(I)Z" } : Jvm.MethodName) ({ cls := "LoanRounds$Task", name := "holdsKey", desc := "(I)Z" } : Jvm.MethodName)) ∈ TT := tt_of (i := 373) rfl rfl
theorem tw_374 : (Jvm.Cond.code ({ cls := "LoanRounds$Task", name := "holdsKey", desc := "(I)Z" } : Jvm.MethodName) prog_4_method_5_code (2 : Nat) (Option.some Jvm.ClassFile.FieldType.boolean)) ∈ TT := tt_of (i := 374) rfl rfl
theorem tw_375 : (Jvm.Cond.methodLink "LoanRounds$Task" (63 : Nat) ({ cls := "LoanRounds$Task", name := "isLive", desc := "()Z" } : Jvm.MethodName)) ∈ TT := tt_of (i := 375) rfl rfl
theorem tw_376 : (Jvm.Cond.classLink "LoanRounds" (69 : Nat) "java/lang/IllegalStateException") ∈ TT := tt_of (i := 376) rfl rfl
theorem tw_377 : (Jvm.Cond.instantiable "java/lang/IllegalStateException" (6 : Nat)) ∈ TT := tt_of (i := 377) rfl rfl
theorem tw_379 : (Jvm.Cond.selects "java/lang/IllegalStateException" ({ cls := "java/lang/Throwable", name := "fillInStackTrace", desc := "(I)Ljava/lang/Throwable;" } : Jvm.MethodName) ({ cls := "java/lang/Throwable", name := "fillInStackTrace", desc := "(I)Ljava/lang/Throwable;" } : Jvm.MethodName)) ∈ TT := tt_of (i := 379) rfl rfl
set_option maxRecDepth 20000 in
theorem tw_380 : (Jvm.Cond.lays "java/lang/IllegalStateException" "java/lang/Throwable" "cause" "Ljava/lang/Throwable;") ∈ TT := tt_of (i := 380) rfl rfl
set_option maxRecDepth 20000 in
theorem tw_381 : (Jvm.Cond.lays "java/lang/IllegalStateException" "java/lang/Throwable" "stackTrace" "[Ljava/lang/StackTraceElement;") ∈ TT := tt_of (i := 381) rfl rfl
set_option maxRecDepth 20000 in
theorem tw_382 : (Jvm.Cond.lays "java/lang/IllegalStateException" "java/lang/Throwable" "suppressedExceptions" "Ljava/util/List;") ∈ TT := tt_of (i := 382) rfl rfl
set_option maxRecDepth 20000 in
theorem tw_383 : (Jvm.Cond.lays "java/lang/IllegalStateException" "java/lang/Throwable" "detailMessage" "Ljava/lang/String;") ∈ TT := tt_of (i := 383) rfl rfl
set_option maxRecDepth 20000 in
theorem tw_384 : (Jvm.Cond.lays "java/lang/IllegalStateException" "java/lang/Throwable" "backtrace" "Ljava/lang/Object;") ∈ TT := tt_of (i := 384) rfl rfl
set_option maxRecDepth 20000 in
theorem tw_386 : (Jvm.Cond.methodLink "LoanRounds" (73 : Nat) ({ cls := "java/lang/IllegalStateException", name := "<init>", desc := "(Ljava/lang/String;)V" } : Jvm.MethodName)) ∈ TT := tt_of (i := 386) rfl rfl
set_option maxRecDepth 20000 in
theorem tw_387 : (Jvm.Cond.instanceMethod ({ cls := "java/lang/IllegalStateException", name := "<init>", desc := "(Ljava/lang/String;)V" } : Jvm.MethodName)) ∈ TT := tt_of (i := 387) rfl rfl
set_option maxRecDepth 20000 in
theorem tw_388 : (Jvm.Cond.code ({ cls := "java/lang/IllegalStateException", name := "<init>", desc := "(Ljava/lang/String;)V" } : Jvm.MethodName) prog_11_method_2_code (2 : Nat) (Option.none : Option Jvm.ClassFile.FieldType)) ∈ TT := tt_of (i := 388) rfl rfl
set_option maxRecDepth 20000 in
theorem tw_389 : (Jvm.Cond.methodLink "java/lang/IllegalStateException" (7 : Nat) ({ cls := "java/lang/RuntimeException", name := "<init>", desc := "(Ljava/lang/String;)V" } : Jvm.MethodName)) ∈ TT := tt_of (i := 389) rfl rfl
set_option maxRecDepth 20000 in
theorem tw_390 : (Jvm.Cond.lays "java/lang/IllegalStateException" "java/lang/Throwable" "depth" "I") ∈ TT := tt_of (i := 390) rfl rfl
set_option maxRecDepth 20000 in
theorem tw_391 : (Jvm.Cond.superclass "java/lang/IllegalStateException" "java/lang/RuntimeException") ∈ TT := tt_of (i := 391) rfl rfl
set_option maxRecDepth 20000 in
theorem tw_392 : (Jvm.Cond.instantiable "LoanRounds$Task" (12 : Nat)) ∈ TT := tt_of (i := 392) rfl rfl
set_option maxRecDepth 20000 in
theorem tw_393 : (Jvm.Cond.methodLink "LoanRounds" (76 : Nat) ({ cls := "LoanRounds$Task", name := "<init>", desc := "(ILLoanRounds$Queue;ILLoanRounds$Group;JI)V" } : Jvm.MethodName)) ∈ TT := tt_of (i := 393) rfl rfl
set_option maxRecDepth 20000 in
theorem tw_394 : (Jvm.Cond.instanceMethod ({ cls := "LoanRounds$Task", name := "<init>", desc := "(ILLoanRounds$Queue;ILLoanRounds$Group;JI)V" } : Jvm.MethodName)) ∈ TT := tt_of (i := 394) rfl rfl
set_option maxRecDepth 20000 in
theorem tw_395 : (Jvm.Cond.code ({ cls := "LoanRounds$Task", name := "<init>", desc := "(ILLoanRounds$Queue;ILLoanRounds$Group;JI)V" } : Jvm.MethodName) prog_4_method_1_code (8 : Nat) (Option.none : Option Jvm.ClassFile.FieldType)) ∈ TT := tt_of (i := 395) rfl rfl
set_option maxRecDepth 20000 in
theorem tw_396 : (Jvm.Cond.methodLink "LoanRounds$Task" (3 : Nat) ({ cls := "java/lang/Object", name := "<init>", desc := "()V" } : Jvm.MethodName)) ∈ TT := tt_of (i := 396) rfl rfl
set_option maxRecDepth 20000 in
theorem tw_397 : (Jvm.Cond.fieldLink "LoanRounds$Task" (30 : Nat) "LoanRounds$Task" "number" "I") ∈ TT := tt_of (i := 397) rfl rfl
set_option maxRecDepth 20000 in
theorem tw_398 : (Jvm.Cond.fieldLink "LoanRounds" (135 : Nat) "LoanRounds$Task" "number" "I") ∈ TT := tt_of (i := 398) rfl rfl
set_option maxRecDepth 20000 in
theorem tw_399 : (Jvm.Cond.fieldLink "LoanRounds$Task" (33 : Nat) "LoanRounds$Task" "queue" "LLoanRounds$Queue;") ∈ TT := tt_of (i := 399) rfl rfl
set_option maxRecDepth 20000 in
theorem tw_400 : (Jvm.Cond.fieldLink "LoanRounds" (105 : Nat) "LoanRounds$Task" "queue" "LLoanRounds$Queue;") ∈ TT := tt_of (i := 400) rfl rfl
set_option maxRecDepth 20000 in
theorem tw_401 : (Jvm.Cond.fieldLink "LoanRounds$Task" (37 : Nat) "LoanRounds$Task" "rank" "I") ∈ TT := tt_of (i := 401) rfl rfl
set_option maxRecDepth 20000 in
theorem tw_402 : (Jvm.Cond.fieldLink "LoanRounds$Task" (40 : Nat) "LoanRounds$Task" "group" "LLoanRounds$Group;") ∈ TT := tt_of (i := 402) rfl rfl
set_option maxRecDepth 20000 in
theorem tw_403 : (Jvm.Cond.fieldLink "LoanRounds$Task" (44 : Nat) "LoanRounds$Task" "key" "J") ∈ TT := tt_of (i := 403) rfl rfl
set_option maxRecDepth 20000 in
theorem tw_404 : (Jvm.Cond.fieldLink "LoanRounds" (203 : Nat) "LoanRounds$Task" "key" "J") ∈ TT := tt_of (i := 404) rfl rfl
set_option maxRecDepth 20000 in
theorem tw_405 : (Jvm.Cond.fieldLink "LoanRounds$Task" (9 : Nat) "LoanRounds$Task" "state" "I") ∈ TT := tt_of (i := 405) rfl rfl
set_option maxRecDepth 20000 in
theorem tw_406 : (Jvm.Cond.fieldLink "LoanRounds" (144 : Nat) "LoanRounds$Task" "state" "I") ∈ TT := tt_of (i := 406) rfl rfl
set_option maxRecDepth 20000 in
theorem tw_407 : (Jvm.Cond.fieldLink "LoanRounds$Task" (15 : Nat) "LoanRounds$Task" "tries" "I") ∈ TT := tt_of (i := 407) rfl rfl
set_option maxRecDepth 20000 in
theorem tw_408 : (Jvm.Cond.fieldLink "LoanRounds" (130 : Nat) "LoanRounds$Task" "tries" "I") ∈ TT := tt_of (i := 408) rfl rfl
set_option maxRecDepth 20000 in
theorem tw_409 : (Jvm.Cond.fieldLink "LoanRounds$Task" (48 : Nat) "LoanRounds$Task" "dueAt" "I") ∈ TT := tt_of (i := 409) rfl rfl
set_option maxRecDepth 20000 in
theorem tw_410 : (Jvm.Cond.fieldLink "LoanRounds" (167 : Nat) "LoanRounds$Task" "dueAt" "I") ∈ TT := tt_of (i := 410) rfl rfl
set_option maxRecDepth 20000 in
theorem tw_411 : (Jvm.Cond.fieldLink "LoanRounds$Task" (18 : Nat) "LoanRounds$Task" "endsAt" "I") ∈ TT := tt_of (i := 411) rfl rfl
set_option maxRecDepth 20000 in
theorem tw_412 : (Jvm.Cond.fieldLink "LoanRounds" (112 : Nat) "LoanRounds$Task" "endsAt" "I") ∈ TT := tt_of (i := 412) rfl rfl
set_option maxRecDepth 20000 in
theorem tw_413 : (Jvm.Cond.fieldLink "LoanRounds$Task" (21 : Nat) "LoanRounds$Task" "worker" "I") ∈ TT := tt_of (i := 413) rfl rfl
set_option maxRecDepth 20000 in
theorem tw_414 : (Jvm.Cond.fieldLink "LoanRounds" (170 : Nat) "LoanRounds$Task" "worker" "I") ∈ TT := tt_of (i := 414) rfl rfl
set_option maxRecDepth 20000 in
theorem tw_415 : (Jvm.Cond.fieldLink "LoanRounds$Task" (24 : Nat) "LoanRounds$Task" "token" "I") ∈ TT := tt_of (i := 415) rfl rfl
set_option maxRecDepth 20000 in
theorem tw_416 : (Jvm.Cond.fieldLink "LoanRounds" (173 : Nat) "LoanRounds$Task" "token" "I") ∈ TT := tt_of (i := 416) rfl rfl
set_option maxRecDepth 20000 in
theorem tw_417 : (Jvm.Cond.fieldLink "LoanRounds$Task" (27 : Nat) "LoanRounds$Task" "doneAt" "I") ∈ TT := tt_of (i := 417) rfl rfl
set_option maxRecDepth 20000 in
theorem tw_418 : (Jvm.Cond.laysFinal "LoanRounds$Task" "LoanRounds$Task" "number" "I") ∈ TT := tt_of (i := 418) rfl rfl
set_option maxRecDepth 20000 in
theorem tw_420 : (Jvm.Cond.laysFinal "LoanRounds$Task" "LoanRounds$Task" "queue" "LLoanRounds$Queue;") ∈ TT := tt_of (i := 420) rfl rfl
set_option maxRecDepth 20000 in
theorem tw_422 : (Jvm.Cond.laysFinal "LoanRounds$Task" "LoanRounds$Task" "rank" "I") ∈ TT := tt_of (i := 422) rfl rfl
set_option maxRecDepth 20000 in
theorem tw_424 : (Jvm.Cond.laysFinal "LoanRounds$Task" "LoanRounds$Task" "group" "LLoanRounds$Group;") ∈ TT := tt_of (i := 424) rfl rfl
set_option maxRecDepth 20000 in
theorem tw_426 : (Jvm.Cond.laysFinal "LoanRounds$Task" "LoanRounds$Task" "key" "J") ∈ TT := tt_of (i := 426) rfl rfl
set_option maxRecDepth 20000 in
theorem tw_428 : (Jvm.Cond.lays "LoanRounds$Task" "LoanRounds$Task" "state" "I") ∈ TT := tt_of (i := 428) rfl rfl
set_option maxRecDepth 20000 in
theorem tw_430 : (Jvm.Cond.lays "LoanRounds$Task" "LoanRounds$Task" "tries" "I") ∈ TT := tt_of (i := 430) rfl rfl
set_option maxRecDepth 20000 in
theorem tw_432 : (Jvm.Cond.lays "LoanRounds$Task" "LoanRounds$Task" "dueAt" "I") ∈ TT := tt_of (i := 432) rfl rfl
set_option maxRecDepth 20000 in
theorem tw_434 : (Jvm.Cond.lays "LoanRounds$Task" "LoanRounds$Task" "endsAt" "I") ∈ TT := tt_of (i := 434) rfl rfl
set_option maxRecDepth 20000 in
theorem tw_436 : (Jvm.Cond.lays "LoanRounds$Task" "LoanRounds$Task" "worker" "I") ∈ TT := tt_of (i := 436) rfl rfl
set_option maxRecDepth 20000 in
theorem tw_438 : (Jvm.Cond.lays "LoanRounds$Task" "LoanRounds$Task" "token" "I") ∈ TT := tt_of (i := 438) rfl rfl
set_option maxRecDepth 20000 in
theorem tw_440 : (Jvm.Cond.lays "LoanRounds$Task" "LoanRounds$Task" "doneAt" "I") ∈ TT := tt_of (i := 440) rfl rfl
set_option maxRecDepth 20000 in
theorem tw_442 : (Jvm.Cond.superclass "LoanRounds$Task" "java/lang/Object") ∈ TT := tt_of (i := 442) rfl rfl
set_option maxRecDepth 20000 in
theorem tw_443 : (Jvm.Cond.methodLink "LoanRounds" (79 : Nat) ({ cls := "java/util/ArrayList", name := "add", desc := "(Ljava/lang/Object;)Z" } : Jvm.MethodName)) ∈ TT := tt_of (i := 443) rfl rfl
set_option maxRecDepth 20000 in
theorem tw_444 : (Jvm.Cond.instanceMethod ({ cls := "java/util/ArrayList", name := "add", desc := "(Ljava/lang/Object;)Z" } : Jvm.MethodName)) ∈ TT := tt_of (i := 444) rfl rfl
set_option maxRecDepth 20000 in
theorem tw_445 : (Jvm.Cond.selects "java/util/ArrayList" ({ cls := "java/util/ArrayList", name := "add", desc := "(Ljava/lang/Object;)Z" } : Jvm.MethodName) ({ cls := "java/util/ArrayList", name := "add", desc := "(Ljava/lang/Object;)Z" } : Jvm.MethodName)) ∈ TT := tt_of (i := 445) rfl rfl
set_option maxRecDepth 20000 in
theorem tw_446 : (Jvm.Cond.code ({ cls := "java/util/ArrayList", name := "add", desc := "(Ljava/lang/Object;)Z" } : Jvm.MethodName) prog_20_method_25_code (2 : Nat) (Option.some Jvm.ClassFile.FieldType.boolean)) ∈ TT := tt_of (i := 446) rfl rfl
set_option maxRecDepth 20000 in
theorem tw_447 : (Jvm.Cond.methodLink "java/util/ArrayList" (131 : Nat) ({ cls := "java/util/ArrayList", name := "add", desc := "(Ljava/lang/Object;[Ljava/lang/Object;I)V" } : Jvm.MethodName)) ∈ TT := tt_of (i := 447) rfl rfl
set_option maxRecDepth 20000 in
theorem tw_449 : (Jvm.Cond.instanceMethod ({ cls := "java/util/ArrayList", name := "add", desc := "(Ljava/lang/Object;[Ljava/lang/Object;I)V" } : Jvm.MethodName)) ∈ TT := tt_of (i := 449) rfl rfl
set_option maxRecDepth 20000 in
theorem tw_450 : (Jvm.Cond.code ({ cls := "java/util/ArrayList", name := "add", desc := "(Ljava/lang/Object;[Ljava/lang/Object;I)V" } : Jvm.MethodName) prog_20_method_24_code (4 : Nat) (Option.none : Option Jvm.ClassFile.FieldType)) ∈ TT := tt_of (i := 450) rfl rfl
set_option maxRecDepth 20000 in
theorem tw_451 : (Jvm.Cond.methodLink "java/util/ArrayList" (129 : Nat) ({ cls := "java/util/ArrayList", name := "grow", desc := "()[Ljava/lang/Object;" } : Jvm.MethodName)) ∈ TT := tt_of (i := 451) rfl rfl
set_option maxRecDepth 20000 in
theorem tw_453 : (Jvm.Cond.instanceMethod ({ cls := "java/util/ArrayList", name := "grow", desc := "()[Ljava/lang/Object;" } : Jvm.MethodName)) ∈ TT := tt_of (i := 453) rfl rfl
set_option maxRecDepth 20000 in
theorem tw_454 : (Jvm.Cond.code ({ cls := "java/util/ArrayList", name := "grow", desc := "()[Ljava/lang/Object;" } : Jvm.MethodName) prog_20_method_7_code (1 : Nat) (Option.some (Jvm.ClassFile.FieldType.array (Jvm.ClassFile.FieldType.object "java/lang/Object")))) ∈ TT := tt_of (i := 454) rfl rfl
set_option maxRecDepth 20000 in
theorem tw_455 : (Jvm.Cond.methodLink "java/util/ArrayList" (69 : Nat) ({ cls := "java/util/ArrayList", name := "grow", desc := "(I)[Ljava/lang/Object;" } : Jvm.MethodName)) ∈ TT := tt_of (i := 455) rfl rfl
set_option maxRecDepth 20000 in
theorem tw_457 : (Jvm.Cond.instanceMethod ({ cls := "java/util/ArrayList", name := "grow", desc := "(I)[Ljava/lang/Object;" } : Jvm.MethodName)) ∈ TT := tt_of (i := 457) rfl rfl
set_option maxRecDepth 20000 in
theorem tw_458 : (Jvm.Cond.code ({ cls := "java/util/ArrayList", name := "grow", desc := "(I)[Ljava/lang/Object;" } : Jvm.MethodName) prog_20_method_6_code (4 : Nat) (Option.some (Jvm.ClassFile.FieldType.array (Jvm.ClassFile.FieldType.object "java/lang/Object")))) ∈ TT := tt_of (i := 458) rfl rfl
set_option maxRecDepth 20000 in
theorem tw_459 : (Jvm.Cond.methodLink "java/util/ArrayList" (73 : Nat) ({ cls := "jdk/internal/util/ArraysSupport", name := "newLength", desc := "(III)I" } : Jvm.MethodName)) ∈ TT := tt_of (i := 459) rfl rfl
set_option maxRecDepth 20000 in
theorem tw_460 : (Jvm.Cond.static ({ cls := "jdk/internal/util/ArraysSupport", name := "newLength", desc := "(III)I" } : Jvm.MethodName)) ∈ TT := tt_of (i := 460) rfl rfl
set_option maxRecDepth 20000 in
theorem tw_461 : (Jvm.Cond.code ({ cls := "jdk/internal/util/ArraysSupport", name := "newLength", desc := "(III)I" } : Jvm.MethodName) prog_28_method_27_code (4 : Nat) (Option.some Jvm.ClassFile.FieldType.int)) ∈ TT := tt_of (i := 461) rfl rfl
set_option maxRecDepth 20000 in
theorem tw_462 : (Jvm.Cond.methodLink "jdk/internal/util/ArraysSupport" (194 : Nat) ({ cls := "java/lang/Math", name := "max", desc := "(II)I" } : Jvm.MethodName)) ∈ TT := tt_of (i := 462) rfl rfl
set_option maxRecDepth 20000 in
theorem tw_463 : (Jvm.Cond.static ({ cls := "java/lang/Math", name := "max", desc := "(II)I" } : Jvm.MethodName)) ∈ TT := tt_of (i := 463) rfl rfl
set_option maxRecDepth 20000 in
theorem tw_464 : (Jvm.Cond.code ({ cls := "java/lang/Math", name := "max", desc := "(II)I" } : Jvm.MethodName) prog_13_method_65_code (2 : Nat) (Option.some Jvm.ClassFile.FieldType.int)) ∈ TT := tt_of (i := 464) rfl rfl
set_option maxRecDepth 20000 in
theorem tw_465 : (Jvm.Cond.constant "jdk/internal/util/ArraysSupport" (200 : Nat) (2147483639 : Int32)) ∈ TT := tt_of (i := 465) rfl rfl
set_option maxRecDepth 20000 in
theorem tw_466 : (Jvm.Cond.methodLink "jdk/internal/util/ArraysSupport" (201 : Nat) ({ cls := "jdk/internal/util/ArraysSupport", name := "hugeLength", desc := "(II)I" } : Jvm.MethodName)) ∈ TT := tt_of (i := 466) rfl rfl
set_option maxRecDepth 20000 in
theorem tw_467 : (Jvm.Cond.static ({ cls := "jdk/internal/util/ArraysSupport", name := "hugeLength", desc := "(II)I" } : Jvm.MethodName)) ∈ TT := tt_of (i := 467) rfl rfl
set_option maxRecDepth 20000 in
theorem tw_468 : (Jvm.Cond.code ({ cls := "jdk/internal/util/ArraysSupport", name := "hugeLength", desc := "(II)I" } : Jvm.MethodName) prog_28_method_28_code (3 : Nat) (Option.some Jvm.ClassFile.FieldType.int)) ∈ TT := tt_of (i := 468) rfl rfl
set_option maxRecDepth 20000 in
theorem tw_469 : (Jvm.Cond.methodLink "java/util/ArrayList" (66 : Nat) ({ cls := "java/util/Arrays", name := "copyOf", desc := "([Ljava/lang/Object;I)[Ljava/lang/Object;" } : Jvm.MethodName)) ∈ TT := tt_of (i := 469) rfl rfl
set_option maxRecDepth 20000 in
theorem tw_470 : (Jvm.Cond.static ({ cls := "java/util/Arrays", name := "copyOf", desc := "([Ljava/lang/Object;I)[Ljava/lang/Object;" } : Jvm.MethodName)) ∈ TT := tt_of (i := 470) rfl rfl
set_option maxRecDepth 20000 in
theorem tw_471 : (Jvm.Cond.code ({ cls := "java/util/Arrays", name := "copyOf", desc := "([Ljava/lang/Object;I)[Ljava/lang/Object;" } : Jvm.MethodName) prog_21_method_119_code (2 : Nat) (Option.some (Jvm.ClassFile.FieldType.array (Jvm.ClassFile.FieldType.object "java/lang/Object")))) ∈ TT := tt_of (i := 471) rfl rfl
set_option maxRecDepth 20000 in
theorem tw_472 : (Jvm.Cond.methodLink "java/util/Arrays" (86 : Nat) ({ cls := "java/lang/Object", name := "getClass", desc := "()Ljava/lang/Class;" } : Jvm.MethodName)) ∈ TT := tt_of (i := 472) rfl rfl
set_option maxRecDepth 20000 in
theorem tw_473 : (Jvm.Cond.instanceMethod ({ cls := "java/lang/Object", name := "getClass", desc := "()Ljava/lang/Class;" } : Jvm.MethodName)) ∈ TT := tt_of (i := 473) rfl rfl
set_option maxRecDepth 20000 in
theorem tw_474 : (Jvm.Cond.sameMethod "java/lang/Object" "java/lang/Object" "getClass" "()Ljava/lang/Class;") ∈ TT := tt_of (i := 474) rfl rfl
set_option maxRecDepth 20000 in
theorem tw_475 : (Jvm.Cond.selects "LoanRounds" ({ cls := "java/lang/Object", name := "getClass", desc := "()Ljava/lang/Class;" } : Jvm.MethodName) ({ cls := "java/lang/Object", name := "getClass", desc := "()Ljava/lang/Class;" } : Jvm.MethodName)) ∈ TT := tt_of (i := 475) rfl rfl
set_option maxRecDepth 20000 in
theorem tw_476 : (Jvm.Cond.selects "LoanRounds$Group" ({ cls := "java/lang/Object", name := "getClass", desc := "()Ljava/lang/Class;" } : Jvm.MethodName) ({ cls := "java/lang/Object", name := "getClass", desc := "()Ljava/lang/Class;" } : Jvm.MethodName)) ∈ TT := tt_of (i := 476) rfl rfl
set_option maxRecDepth 20000 in
theorem tw_477 : (Jvm.Cond.selects "LoanRounds$Queue" ({ cls := "java/lang/Object", name := "getClass", desc := "()Ljava/lang/Class;" } : Jvm.MethodName) ({ cls := "java/lang/Object", name := "getClass", desc := "()Ljava/lang/Class;" } : Jvm.MethodName)) ∈ TT := tt_of (i := 477) rfl rfl
set_option maxRecDepth 20000 in
theorem tw_478 : (Jvm.Cond.selects "LoanRounds$Task" ({ cls := "java/lang/Object", name := "getClass", desc := "()Ljava/lang/Class;" } : Jvm.MethodName) ({ cls := "java/lang/Object", name := "getClass", desc := "()Ljava/lang/Class;" } : Jvm.MethodName)) ∈ TT := tt_of (i := 478) rfl rfl
set_option maxRecDepth 20000 in
theorem tw_479 : (Jvm.Cond.selects "LoanRoundsModel" ({ cls := "java/lang/Object", name := "getClass", desc := "()Ljava/lang/Class;" } : Jvm.MethodName) ({ cls := "java/lang/Object", name := "getClass", desc := "()Ljava/lang/Class;" } : Jvm.MethodName)) ∈ TT := tt_of (i := 479) rfl rfl
set_option maxRecDepth 20000 in
theorem tw_480 : (Jvm.Cond.selects "java/lang/IllegalArgumentException" ({ cls := "java/lang/Object", name := "getClass", desc := "()Ljava/lang/Class;" } : Jvm.MethodName) ({ cls := "java/lang/Object", name := "getClass", desc := "()Ljava/lang/Class;" } : Jvm.MethodName)) ∈ TT := tt_of (i := 480) rfl rfl
set_option maxRecDepth 20000 in
theorem tw_481 : (Jvm.Cond.selects "java/lang/IllegalStateException" ({ cls := "java/lang/Object", name := "getClass", desc := "()Ljava/lang/Class;" } : Jvm.MethodName) ({ cls := "java/lang/Object", name := "getClass", desc := "()Ljava/lang/Class;" } : Jvm.MethodName)) ∈ TT := tt_of (i := 481) rfl rfl
set_option maxRecDepth 20000 in
theorem tw_482 : (Jvm.Cond.selects "java/util/ArrayList" ({ cls := "java/lang/Object", name := "getClass", desc := "()Ljava/lang/Class;" } : Jvm.MethodName) ({ cls := "java/lang/Object", name := "getClass", desc := "()Ljava/lang/Class;" } : Jvm.MethodName)) ∈ TT := tt_of (i := 482) rfl rfl
set_option maxRecDepth 20000 in
theorem tw_483 : (Jvm.Cond.selects "java/util/NoSuchElementException" ({ cls := "java/lang/Object", name := "getClass", desc := "()Ljava/lang/Class;" } : Jvm.MethodName) ({ cls := "java/lang/Object", name := "getClass", desc := "()Ljava/lang/Class;" } : Jvm.MethodName)) ∈ TT := tt_of (i := 483) rfl rfl
set_option maxRecDepth 20000 in
theorem tw_485 : (Jvm.Cond.methodLink "java/util/Arrays" (300 : Nat) ({ cls := "java/util/Arrays", name := "copyOf", desc := "([Ljava/lang/Object;ILjava/lang/Class;)[Ljava/lang/Object;" } : Jvm.MethodName)) ∈ TT := tt_of (i := 485) rfl rfl
set_option maxRecDepth 20000 in
theorem tw_486 : (Jvm.Cond.static ({ cls := "java/util/Arrays", name := "copyOf", desc := "([Ljava/lang/Object;ILjava/lang/Class;)[Ljava/lang/Object;" } : Jvm.MethodName)) ∈ TT := tt_of (i := 486) rfl rfl
set_option maxRecDepth 20000 in
theorem tw_487 : (Jvm.Cond.code ({ cls := "java/util/Arrays", name := "copyOf", desc := "([Ljava/lang/Object;ILjava/lang/Class;)[Ljava/lang/Object;" } : Jvm.MethodName) prog_21_method_120_code (4 : Nat) (Option.some (Jvm.ClassFile.FieldType.array (Jvm.ClassFile.FieldType.object "java/lang/Object")))) ∈ TT := tt_of (i := 487) rfl rfl
set_option maxRecDepth 20000 in
theorem tw_488 : (Jvm.Cond.classLink "java/util/Arrays" (110 : Nat) "[Ljava/lang/Object;") ∈ TT := tt_of (i := 488) rfl rfl
set_option maxRecDepth 20000 in
theorem tw_490 : (Jvm.Cond.classLink "java/util/Arrays" (2 : Nat) "java/lang/Object") ∈ TT := tt_of (i := 490) rfl rfl
set_option maxRecDepth 20000 in
theorem tw_491 : (Jvm.Cond.methodLink "java/util/Arrays" (304 : Nat) ({ cls := "java/lang/Math", name := "min", desc := "(II)I" } : Jvm.MethodName)) ∈ TT := tt_of (i := 491) rfl rfl
set_option maxRecDepth 20000 in
theorem tw_492 : (Jvm.Cond.methodLink "java/util/Arrays" (150 : Nat) ({ cls := "java/lang/System", name := "arraycopy", desc := "(Ljava/lang/Object;ILjava/lang/Object;II)V" } : Jvm.MethodName)) ∈ TT := tt_of (i := 492) rfl rfl
set_option maxRecDepth 20000 in
theorem tw_493 : (Jvm.Cond.static ({ cls := "java/lang/System", name := "arraycopy", desc := "(Ljava/lang/Object;ILjava/lang/Object;II)V" } : Jvm.MethodName)) ∈ TT := tt_of (i := 493) rfl rfl
set_option maxRecDepth 20000 in
theorem tw_495 : (Jvm.Cond.methodLink "java/util/ArrayList" (79 : Nat) ({ cls := "java/lang/Math", name := "max", desc := "(II)I" } : Jvm.MethodName)) ∈ TT := tt_of (i := 495) rfl rfl
set_option maxRecDepth 20000 in
theorem tw_496 : (Jvm.Cond.classLink "java/util/ArrayList" (7 : Nat) "java/lang/Object") ∈ TT := tt_of (i := 496) rfl rfl
set_option maxRecDepth 20000 in
theorem tw_497 : (Jvm.Cond.methodLink "LoanRoundsLaw" (49 : Nat) ({ cls := "LoanRoundsLaw", name := "lend", desc := "(LLoanRounds;II[J)I" } : Jvm.MethodName)) ∈ TT := tt_of (i := 497) rfl rfl
set_option maxRecDepth 20000 in
theorem tw_498 : (Jvm.Cond.static ({ cls := "LoanRoundsLaw", name := "lend", desc := "(LLoanRounds;II[J)I" } : Jvm.MethodName)) ∈ TT := tt_of (i := 498) rfl rfl
set_option maxRecDepth 20000 in
theorem tw_500 : (Jvm.Cond.methodLink "LoanRoundsLaw" (17 : Nat) ({ cls := "LoanRounds", name := "lend", desc := "(II)I" } : Jvm.MethodName)) ∈ TT := tt_of (i := 500) rfl rfl
set_option maxRecDepth 20000 in
theorem tw_501 : (Jvm.Cond.instanceMethod ({ cls := "LoanRounds", name := "lend", desc := "(II)I" } : Jvm.MethodName)) ∈ TT := tt_of (i := 501) rfl rfl
set_option maxRecDepth 20000 in
theorem tw_502 : (Jvm.Cond.selects "LoanRounds" ({ cls := "LoanRounds", name := "lend", desc := "(II)I" } : Jvm.MethodName) ({ cls := "LoanRounds", name := "lend", desc := "(II)I" } : Jvm.MethodName)) ∈ TT := tt_of (i := 502) rfl rfl
set_option maxRecDepth 20000 in
theorem tw_503 : (Jvm.Cond.code ({ cls := "LoanRounds", name := "lend", desc := "(II)I" } : Jvm.MethodName) prog_1_method_3_code (6 : Nat) (Option.some Jvm.ClassFile.FieldType.int)) ∈ TT := tt_of (i := 503) rfl rfl
set_option maxRecDepth 20000 in
theorem tw_505 : (Jvm.Cond.methodLink "LoanRounds" (97 : Nat) ({ cls := "LoanRounds$Task", name := "becomeLent", desc := "(III)V" } : Jvm.MethodName)) ∈ TT := tt_of (i := 505) rfl rfl
set_option maxRecDepth 20000 in
theorem tw_506 : (Jvm.Cond.instanceMethod ({ cls := "LoanRounds$Task", name := "becomeLent", desc := "(III)V" } : Jvm.MethodName)) ∈ TT := tt_of (i := 506) rfl rfl
set_option maxRecDepth 20000 in
theorem tw_507 : (Jvm.Cond.selects "LoanRounds$Task" ({ cls := "LoanRounds$Task", name := "becomeLent", desc := "(III)V" } : Jvm.MethodName) ({ cls := "LoanRounds$Task", name := "becomeLent", desc := "(III)V" } : Jvm.MethodName)) ∈ TT := tt_of (i := 507) rfl rfl
set_option maxRecDepth 20000 in
theorem tw_508 : (Jvm.Cond.code ({ cls := "LoanRounds$Task", name := "becomeLent", desc := "(III)V" } : Jvm.MethodName) prog_4_method_10_code (4 : Nat) (Option.none : Option Jvm.ClassFile.FieldType)) ∈ TT := tt_of (i := 508) rfl rfl
set_option maxRecDepth 20000 in
theorem tw_509 : (Jvm.Cond.methodLink "LoanRoundsLaw" (58 : Nat) ({ cls := "LoanRoundsLaw", name := "end", desc := "(LLoanRounds;II[J)I" } : Jvm.MethodName)) ∈ TT := tt_of (i := 509) rfl rfl
set_option maxRecDepth 20000 in
theorem tw_510 : (Jvm.Cond.static ({ cls := "LoanRoundsLaw", name := "end", desc := "(LLoanRounds;II[J)I" } : Jvm.MethodName)) ∈ TT := tt_of (i := 510) rfl rfl
set_option maxRecDepth 20000 in
theorem tw_512 : (Jvm.Cond.classLink "LoanRoundsLaw" (24 : Nat) "java/util/NoSuchElementException") ∈ TT := tt_of (i := 512) rfl rfl
set_option maxRecDepth 20000 in
theorem tw_513 : (Jvm.Cond.methodLink "LoanRoundsLaw" (21 : Nat) ({ cls := "LoanRounds", name := "end", desc := "(II)I" } : Jvm.MethodName)) ∈ TT := tt_of (i := 513) rfl rfl
set_option maxRecDepth 20000 in
theorem tw_514 : (Jvm.Cond.instanceMethod ({ cls := "LoanRounds", name := "end", desc := "(II)I" } : Jvm.MethodName)) ∈ TT := tt_of (i := 514) rfl rfl
set_option maxRecDepth 20000 in
theorem tw_515 : (Jvm.Cond.selects "LoanRounds" ({ cls := "LoanRounds", name := "end", desc := "(II)I" } : Jvm.MethodName) ({ cls := "LoanRounds", name := "end", desc := "(II)I" } : Jvm.MethodName)) ∈ TT := tt_of (i := 515) rfl rfl
set_option maxRecDepth 20000 in
theorem tw_516 : (Jvm.Cond.code ({ cls := "LoanRounds", name := "end", desc := "(II)I" } : Jvm.MethodName) prog_1_method_5_code (4 : Nat) (Option.some Jvm.ClassFile.FieldType.int)) ∈ TT := tt_of (i := 516) rfl rfl
set_option maxRecDepth 20000 in
theorem tw_517 : (Jvm.Cond.classLink "LoanRounds" (115 : Nat) "java/util/NoSuchElementException") ∈ TT := tt_of (i := 517) rfl rfl
set_option maxRecDepth 20000 in
theorem tw_518 : (Jvm.Cond.instantiable "java/util/NoSuchElementException" (6 : Nat)) ∈ TT := tt_of (i := 518) rfl rfl
set_option maxRecDepth 20000 in
theorem tw_520 : (Jvm.Cond.selects "java/util/NoSuchElementException" ({ cls := "java/lang/Throwable", name := "fillInStackTrace", desc := "(I)Ljava/lang/Throwable;" } : Jvm.MethodName) ({ cls := "java/lang/Throwable", name := "fillInStackTrace", desc := "(I)Ljava/lang/Throwable;" } : Jvm.MethodName)) ∈ TT := tt_of (i := 520) rfl rfl
set_option maxRecDepth 20000 in
theorem tw_521 : (Jvm.Cond.lays "java/util/NoSuchElementException" "java/lang/Throwable" "cause" "Ljava/lang/Throwable;") ∈ TT := tt_of (i := 521) rfl rfl
set_option maxRecDepth 20000 in
theorem tw_522 : (Jvm.Cond.lays "java/util/NoSuchElementException" "java/lang/Throwable" "stackTrace" "[Ljava/lang/StackTraceElement;") ∈ TT := tt_of (i := 522) rfl rfl
set_option maxRecDepth 20000 in
theorem tw_523 : (Jvm.Cond.lays "java/util/NoSuchElementException" "java/lang/Throwable" "suppressedExceptions" "Ljava/util/List;") ∈ TT := tt_of (i := 523) rfl rfl
set_option maxRecDepth 20000 in
theorem tw_524 : (Jvm.Cond.lays "java/util/NoSuchElementException" "java/lang/Throwable" "detailMessage" "Ljava/lang/String;") ∈ TT := tt_of (i := 524) rfl rfl
set_option maxRecDepth 20000 in
theorem tw_525 : (Jvm.Cond.lays "java/util/NoSuchElementException" "java/lang/Throwable" "backtrace" "Ljava/lang/Object;") ∈ TT := tt_of (i := 525) rfl rfl
set_option maxRecDepth 20000 in
theorem tw_527 : (Jvm.Cond.methodLink "LoanRounds" (119 : Nat) ({ cls := "java/util/NoSuchElementException", name := "<init>", desc := "(Ljava/lang/String;)V" } : Jvm.MethodName)) ∈ TT := tt_of (i := 527) rfl rfl
set_option maxRecDepth 20000 in
theorem tw_528 : (Jvm.Cond.instanceMethod ({ cls := "java/util/NoSuchElementException", name := "<init>", desc := "(Ljava/lang/String;)V" } : Jvm.MethodName)) ∈ TT := tt_of (i := 528) rfl rfl
set_option maxRecDepth 20000 in
theorem tw_529 : (Jvm.Cond.code ({ cls := "java/util/NoSuchElementException", name := "<init>", desc := "(Ljava/lang/String;)V" } : Jvm.MethodName) prog_24_method_4_code (2 : Nat) (Option.none : Option Jvm.ClassFile.FieldType)) ∈ TT := tt_of (i := 529) rfl rfl
set_option maxRecDepth 20000 in
theorem tw_530 : (Jvm.Cond.methodLink "java/util/NoSuchElementException" (13 : Nat) ({ cls := "java/lang/RuntimeException", name := "<init>", desc := "(Ljava/lang/String;)V" } : Jvm.MethodName)) ∈ TT := tt_of (i := 530) rfl rfl
set_option maxRecDepth 20000 in
theorem tw_531 : (Jvm.Cond.lays "java/util/NoSuchElementException" "java/lang/Throwable" "depth" "I") ∈ TT := tt_of (i := 531) rfl rfl
set_option maxRecDepth 20000 in
theorem tw_532 : (Jvm.Cond.superclass "java/util/NoSuchElementException" "java/lang/RuntimeException") ∈ TT := tt_of (i := 532) rfl rfl
set_option maxRecDepth 20000 in
theorem tw_533 : (Jvm.Cond.methodLink "LoanRounds" (120 : Nat) ({ cls := "LoanRounds$Task", name := "becomeDone", desc := "(I)V" } : Jvm.MethodName)) ∈ TT := tt_of (i := 533) rfl rfl
set_option maxRecDepth 20000 in
theorem tw_534 : (Jvm.Cond.instanceMethod ({ cls := "LoanRounds$Task", name := "becomeDone", desc := "(I)V" } : Jvm.MethodName)) ∈ TT := tt_of (i := 534) rfl rfl
set_option maxRecDepth 20000 in
theorem tw_535 : (Jvm.Cond.selects "LoanRounds$Task" ({ cls := "LoanRounds$Task", name := "becomeDone", desc := "(I)V" } : Jvm.MethodName) ({ cls := "LoanRounds$Task", name := "becomeDone", desc := "(I)V" } : Jvm.MethodName)) ∈ TT := tt_of (i := 535) rfl rfl
set_option maxRecDepth 20000 in
theorem tw_536 : (Jvm.Cond.code ({ cls := "LoanRounds$Task", name := "becomeDone", desc := "(I)V" } : Jvm.MethodName) prog_4_method_11_code (2 : Nat) (Option.none : Option Jvm.ClassFile.FieldType)) ∈ TT := tt_of (i := 536) rfl rfl
set_option maxRecDepth 20000 in
theorem tw_537 : (Jvm.Cond.methodLink "LoanRounds" (124 : Nat) ({ cls := "LoanRounds$Task", name := "tryAgain", desc := "(I)V" } : Jvm.MethodName)) ∈ TT := tt_of (i := 537) rfl rfl
set_option maxRecDepth 20000 in
theorem tw_538 : (Jvm.Cond.instanceMethod ({ cls := "LoanRounds$Task", name := "tryAgain", desc := "(I)V" } : Jvm.MethodName)) ∈ TT := tt_of (i := 538) rfl rfl
set_option maxRecDepth 20000 in
theorem tw_539 : (Jvm.Cond.selects "LoanRounds$Task" ({ cls := "LoanRounds$Task", name := "tryAgain", desc := "(I)V" } : Jvm.MethodName) ({ cls := "LoanRounds$Task", name := "tryAgain", desc := "(I)V" } : Jvm.MethodName)) ∈ TT := tt_of (i := 539) rfl rfl
set_option maxRecDepth 20000 in
theorem tw_540 : (Jvm.Cond.code ({ cls := "LoanRounds$Task", name := "tryAgain", desc := "(I)V" } : Jvm.MethodName) prog_4_method_12_code (2 : Nat) (Option.none : Option Jvm.ClassFile.FieldType)) ∈ TT := tt_of (i := 540) rfl rfl
set_option maxRecDepth 20000 in
theorem tw_541 : (Jvm.Cond.methodLink "LoanRounds$Task" (95 : Nat) ({ cls := "LoanRounds$Queue", name := "pauseAfter", desc := "(I)I" } : Jvm.MethodName)) ∈ TT := tt_of (i := 541) rfl rfl
set_option maxRecDepth 20000 in
theorem tw_542 : (Jvm.Cond.instanceMethod ({ cls := "LoanRounds$Queue", name := "pauseAfter", desc := "(I)I" } : Jvm.MethodName)) ∈ TT := tt_of (i := 542) rfl rfl
set_option maxRecDepth 20000 in
theorem tw_543 : (Jvm.Cond.selects "LoanRounds$Queue" ({ cls := "LoanRounds$Queue", name := "pauseAfter", desc := "(I)I" } : Jvm.MethodName) ({ cls := "LoanRounds$Queue", name := "pauseAfter", desc := "(I)I" } : Jvm.MethodName)) ∈ TT := tt_of (i := 543) rfl rfl
set_option maxRecDepth 20000 in
theorem tw_544 : (Jvm.Cond.code ({ cls := "LoanRounds$Queue", name := "pauseAfter", desc := "(I)I" } : Jvm.MethodName) prog_3_method_4_code (2 : Nat) (Option.some Jvm.ClassFile.FieldType.int)) ∈ TT := tt_of (i := 544) rfl rfl
set_option maxRecDepth 20000 in
theorem tw_545 : (Jvm.Cond.methodLink "LoanRounds$Queue" (38 : Nat) ({ cls := "java/lang/Math", name := "min", desc := "(II)I" } : Jvm.MethodName)) ∈ TT := tt_of (i := 545) rfl rfl
set_option maxRecDepth 20000 in
theorem tw_546 : (Jvm.Cond.methodLink "LoanRounds$Task" (98 : Nat) ({ cls := "LoanRounds$Task", name := "becomeWaiting", desc := "(I)V" } : Jvm.MethodName)) ∈ TT := tt_of (i := 546) rfl rfl
set_option maxRecDepth 20000 in
theorem tw_548 : (Jvm.Cond.methodLink "LoanRoundsLaw" (61 : Nat) ({ cls := "LoanRoundsLaw", name := "tick", desc := "(LLoanRounds;I[J)I" } : Jvm.MethodName)) ∈ TT := tt_of (i := 548) rfl rfl
set_option maxRecDepth 20000 in
theorem tw_549 : (Jvm.Cond.static ({ cls := "LoanRoundsLaw", name := "tick", desc := "(LLoanRounds;I[J)I" } : Jvm.MethodName)) ∈ TT := tt_of (i := 549) rfl rfl
set_option maxRecDepth 20000 in
theorem tw_551 : (Jvm.Cond.methodLink "LoanRoundsLaw" (26 : Nat) ({ cls := "LoanRounds", name := "tick", desc := "(I)I" } : Jvm.MethodName)) ∈ TT := tt_of (i := 551) rfl rfl
set_option maxRecDepth 20000 in
theorem tw_552 : (Jvm.Cond.instanceMethod ({ cls := "LoanRounds", name := "tick", desc := "(I)I" } : Jvm.MethodName)) ∈ TT := tt_of (i := 552) rfl rfl
set_option maxRecDepth 20000 in
theorem tw_553 : (Jvm.Cond.selects "LoanRounds" ({ cls := "LoanRounds", name := "tick", desc := "(I)I" } : Jvm.MethodName) ({ cls := "LoanRounds", name := "tick", desc := "(I)I" } : Jvm.MethodName)) ∈ TT := tt_of (i := 553) rfl rfl
set_option maxRecDepth 20000 in
theorem tw_554 : (Jvm.Cond.code ({ cls := "LoanRounds", name := "tick", desc := "(I)I" } : Jvm.MethodName) prog_1_method_6_code (6 : Nat) (Option.some Jvm.ClassFile.FieldType.int)) ∈ TT := tt_of (i := 554) rfl rfl
set_option maxRecDepth 20000 in
theorem tw_556 : (Jvm.Cond.methodLink "LoanRoundsLaw" (78 : Nat) ({ cls := "LoanRoundsLaw", name := "task", desc := "(LLoanRounds;II[J)I" } : Jvm.MethodName)) ∈ TT := tt_of (i := 556) rfl rfl
set_option maxRecDepth 20000 in
theorem tw_557 : (Jvm.Cond.static ({ cls := "LoanRoundsLaw", name := "task", desc := "(LLoanRounds;II[J)I" } : Jvm.MethodName)) ∈ TT := tt_of (i := 557) rfl rfl
set_option maxRecDepth 20000 in
theorem tw_559 : (Jvm.Cond.methodLink "LoanRoundsLaw" (30 : Nat) ({ cls := "LoanRounds", name := "task", desc := "(II)I" } : Jvm.MethodName)) ∈ TT := tt_of (i := 559) rfl rfl
set_option maxRecDepth 20000 in
theorem tw_560 : (Jvm.Cond.instanceMethod ({ cls := "LoanRounds", name := "task", desc := "(II)I" } : Jvm.MethodName)) ∈ TT := tt_of (i := 560) rfl rfl
set_option maxRecDepth 20000 in
theorem tw_561 : (Jvm.Cond.selects "LoanRounds" ({ cls := "LoanRounds", name := "task", desc := "(II)I" } : Jvm.MethodName) ({ cls := "LoanRounds", name := "task", desc := "(II)I" } : Jvm.MethodName)) ∈ TT := tt_of (i := 561) rfl rfl
set_option maxRecDepth 20000 in
theorem tw_562 : (Jvm.Cond.code ({ cls := "LoanRounds", name := "task", desc := "(II)I" } : Jvm.MethodName) prog_1_method_10_code (4 : Nat) (Option.some Jvm.ClassFile.FieldType.int)) ∈ TT := tt_of (i := 562) rfl rfl
set_option maxRecDepth 20000 in
theorem tw_564 : (Jvm.Cond.methodLink "LoanRounds" (176 : Nat) ({ cls := "LoanRounds$Task", name := "isDue", desc := "(I)Z" } : Jvm.MethodName)) ∈ TT := tt_of (i := 564) rfl rfl
set_option maxRecDepth 20000 in
theorem tw_565 : (Jvm.Cond.methodLink "LoanRounds" (179 : Nat) ({ cls := "LoanRounds$Task", name := "weight", desc := "(I)I" } : Jvm.MethodName)) ∈ TT := tt_of (i := 565) rfl rfl
set_option maxRecDepth 20000 in
theorem tw_567 : (Jvm.Cond.classLink "LoanRoundsLaw" (34 : Nat) "LoanRoundsModel") ∈ TT := tt_of (i := 567) rfl rfl
set_option maxRecDepth 20000 in
theorem tw_568 : (Jvm.Cond.instantiable "LoanRoundsModel" (15 : Nat)) ∈ TT := tt_of (i := 568) rfl rfl
set_option maxRecDepth 20000 in
theorem tw_569 : (Jvm.Cond.methodLink "LoanRoundsLaw" (36 : Nat) ({ cls := "LoanRoundsModel", name := "<init>", desc := "()V" } : Jvm.MethodName)) ∈ TT := tt_of (i := 569) rfl rfl
set_option maxRecDepth 20000 in
theorem tw_570 : (Jvm.Cond.instanceMethod ({ cls := "LoanRoundsModel", name := "<init>", desc := "()V" } : Jvm.MethodName)) ∈ TT := tt_of (i := 570) rfl rfl
set_option maxRecDepth 20000 in
theorem tw_571 : (Jvm.Cond.code ({ cls := "LoanRoundsModel", name := "<init>", desc := "()V" } : Jvm.MethodName) prog_6_method_1_code (2 : Nat) (Option.none : Option Jvm.ClassFile.FieldType)) ∈ TT := tt_of (i := 571) rfl rfl
set_option maxRecDepth 20000 in
theorem tw_572 : (Jvm.Cond.methodLink "LoanRoundsModel" (1 : Nat) ({ cls := "java/lang/Object", name := "<init>", desc := "()V" } : Jvm.MethodName)) ∈ TT := tt_of (i := 572) rfl rfl
set_option maxRecDepth 20000 in
theorem tw_573 : (Jvm.Cond.fieldLink "LoanRoundsModel" (44 : Nat) "LoanRoundsModel" "thrown" "I") ∈ TT := tt_of (i := 573) rfl rfl
set_option maxRecDepth 20000 in
theorem tw_574 : (Jvm.Cond.fieldLink "LoanRoundsModel" (55 : Nat) "LoanRoundsModel" "time" "I") ∈ TT := tt_of (i := 574) rfl rfl
set_option maxRecDepth 20000 in
theorem tw_575 : (Jvm.Cond.fieldLink "LoanRoundsModel" (48 : Nat) "LoanRoundsModel" "tasks" "I") ∈ TT := tt_of (i := 575) rfl rfl
set_option maxRecDepth 20000 in
theorem tw_576 : (Jvm.Cond.fieldLink "LoanRoundsModel" (89 : Nat) "LoanRoundsModel" "tokens" "I") ∈ TT := tt_of (i := 576) rfl rfl
set_option maxRecDepth 20000 in
theorem tw_577 : (Jvm.Cond.fieldLink "LoanRoundsModel" (7 : Nat) "LoanRoundsModel" "queue" "[I") ∈ TT := tt_of (i := 577) rfl rfl
set_option maxRecDepth 20000 in
theorem tw_578 : (Jvm.Cond.fieldLink "LoanRoundsModel" (13 : Nat) "LoanRoundsModel" "rank" "[I") ∈ TT := tt_of (i := 578) rfl rfl
set_option maxRecDepth 20000 in
theorem tw_579 : (Jvm.Cond.fieldLink "LoanRoundsModel" (16 : Nat) "LoanRoundsModel" "group" "[I") ∈ TT := tt_of (i := 579) rfl rfl
set_option maxRecDepth 20000 in
theorem tw_580 : (Jvm.Cond.fieldLink "LoanRoundsModel" (19 : Nat) "LoanRoundsModel" "key" "[J") ∈ TT := tt_of (i := 580) rfl rfl
set_option maxRecDepth 20000 in
theorem tw_581 : (Jvm.Cond.fieldLink "LoanRoundsModel" (23 : Nat) "LoanRoundsModel" "tries" "[I") ∈ TT := tt_of (i := 581) rfl rfl
set_option maxRecDepth 20000 in
theorem tw_582 : (Jvm.Cond.fieldLink "LoanRoundsModel" (26 : Nat) "LoanRoundsModel" "state" "[I") ∈ TT := tt_of (i := 582) rfl rfl
set_option maxRecDepth 20000 in
theorem tw_583 : (Jvm.Cond.fieldLink "LoanRoundsModel" (29 : Nat) "LoanRoundsModel" "when" "[I") ∈ TT := tt_of (i := 583) rfl rfl
set_option maxRecDepth 20000 in
theorem tw_584 : (Jvm.Cond.fieldLink "LoanRoundsModel" (32 : Nat) "LoanRoundsModel" "worker" "[I") ∈ TT := tt_of (i := 584) rfl rfl
set_option maxRecDepth 20000 in
theorem tw_585 : (Jvm.Cond.fieldLink "LoanRoundsModel" (35 : Nat) "LoanRoundsModel" "token" "[I") ∈ TT := tt_of (i := 585) rfl rfl
set_option maxRecDepth 20000 in
theorem tw_586 : (Jvm.Cond.fieldLink "LoanRoundsModel" (38 : Nat) "LoanRoundsModel" "told" "[I") ∈ TT := tt_of (i := 586) rfl rfl
set_option maxRecDepth 20000 in
theorem tw_587 : (Jvm.Cond.fieldLink "LoanRoundsModel" (41 : Nat) "LoanRoundsModel" "limit" "[I") ∈ TT := tt_of (i := 587) rfl rfl
set_option maxRecDepth 20000 in
theorem tw_588 : (Jvm.Cond.lays "LoanRoundsModel" "LoanRoundsModel" "thrown" "I") ∈ TT := tt_of (i := 588) rfl rfl
set_option maxRecDepth 20000 in
theorem tw_590 : (Jvm.Cond.lays "LoanRoundsModel" "LoanRoundsModel" "time" "I") ∈ TT := tt_of (i := 590) rfl rfl
set_option maxRecDepth 20000 in
theorem tw_592 : (Jvm.Cond.lays "LoanRoundsModel" "LoanRoundsModel" "tasks" "I") ∈ TT := tt_of (i := 592) rfl rfl
set_option maxRecDepth 20000 in
theorem tw_594 : (Jvm.Cond.lays "LoanRoundsModel" "LoanRoundsModel" "tokens" "I") ∈ TT := tt_of (i := 594) rfl rfl
set_option maxRecDepth 20000 in
theorem tw_596 : (Jvm.Cond.laysFinal "LoanRoundsModel" "LoanRoundsModel" "queue" "[I") ∈ TT := tt_of (i := 596) rfl rfl
set_option maxRecDepth 20000 in
theorem tw_598 : (Jvm.Cond.laysFinal "LoanRoundsModel" "LoanRoundsModel" "rank" "[I") ∈ TT := tt_of (i := 598) rfl rfl
set_option maxRecDepth 20000 in
theorem tw_600 : (Jvm.Cond.laysFinal "LoanRoundsModel" "LoanRoundsModel" "group" "[I") ∈ TT := tt_of (i := 600) rfl rfl
set_option maxRecDepth 20000 in
theorem tw_602 : (Jvm.Cond.laysFinal "LoanRoundsModel" "LoanRoundsModel" "key" "[J") ∈ TT := tt_of (i := 602) rfl rfl
set_option maxRecDepth 20000 in
theorem tw_604 : (Jvm.Cond.laysFinal "LoanRoundsModel" "LoanRoundsModel" "tries" "[I") ∈ TT := tt_of (i := 604) rfl rfl
set_option maxRecDepth 20000 in
theorem tw_606 : (Jvm.Cond.laysFinal "LoanRoundsModel" "LoanRoundsModel" "state" "[I") ∈ TT := tt_of (i := 606) rfl rfl
set_option maxRecDepth 20000 in
theorem tw_608 : (Jvm.Cond.laysFinal "LoanRoundsModel" "LoanRoundsModel" "when" "[I") ∈ TT := tt_of (i := 608) rfl rfl
set_option maxRecDepth 20000 in
theorem tw_610 : (Jvm.Cond.laysFinal "LoanRoundsModel" "LoanRoundsModel" "worker" "[I") ∈ TT := tt_of (i := 610) rfl rfl
set_option maxRecDepth 20000 in
theorem tw_612 : (Jvm.Cond.laysFinal "LoanRoundsModel" "LoanRoundsModel" "token" "[I") ∈ TT := tt_of (i := 612) rfl rfl
set_option maxRecDepth 20000 in
theorem tw_614 : (Jvm.Cond.laysFinal "LoanRoundsModel" "LoanRoundsModel" "told" "[I") ∈ TT := tt_of (i := 614) rfl rfl
set_option maxRecDepth 20000 in
theorem tw_616 : (Jvm.Cond.laysFinal "LoanRoundsModel" "LoanRoundsModel" "limit" "[I") ∈ TT := tt_of (i := 616) rfl rfl
set_option maxRecDepth 20000 in
theorem tw_618 : (Jvm.Cond.superclass "LoanRoundsModel" "java/lang/Object") ∈ TT := tt_of (i := 618) rfl rfl
set_option maxRecDepth 20000 in
theorem tw_619 : (Jvm.Cond.arrayClass Jvm.ClassFile.FieldType.int) ∈ TT := tt_of (i := 619) rfl rfl
set_option maxRecDepth 20000 in
theorem tw_620 : (Jvm.Cond.arrayClass Jvm.ClassFile.FieldType.long) ∈ TT := tt_of (i := 620) rfl rfl
set_option maxRecDepth 20000 in
theorem tw_621 : (Jvm.Cond.methodLink "LoanRoundsLaw" (45 : Nat) ({ cls := "LoanRoundsModel", name := "thrown", desc := "()I" } : Jvm.MethodName)) ∈ TT := tt_of (i := 621) rfl rfl
set_option maxRecDepth 20000 in
theorem tw_622 : (Jvm.Cond.instanceMethod ({ cls := "LoanRoundsModel", name := "thrown", desc := "()I" } : Jvm.MethodName)) ∈ TT := tt_of (i := 622) rfl rfl
set_option maxRecDepth 20000 in
theorem tw_623 : (Jvm.Cond.selects "LoanRoundsModel" ({ cls := "LoanRoundsModel", name := "thrown", desc := "()I" } : Jvm.MethodName) ({ cls := "LoanRoundsModel", name := "thrown", desc := "()I" } : Jvm.MethodName)) ∈ TT := tt_of (i := 623) rfl rfl
set_option maxRecDepth 20000 in
theorem tw_624 : (Jvm.Cond.code ({ cls := "LoanRoundsModel", name := "thrown", desc := "()I" } : Jvm.MethodName) prog_6_method_2_code (1 : Nat) (Option.some Jvm.ClassFile.FieldType.int)) ∈ TT := tt_of (i := 624) rfl rfl
set_option maxRecDepth 20000 in
theorem tw_625 : (Jvm.Cond.methodLink "LoanRoundsLaw" (44 : Nat) ({ cls := "LoanRoundsModel", name := "add", desc := "(IIIJI)I" } : Jvm.MethodName)) ∈ TT := tt_of (i := 625) rfl rfl
set_option maxRecDepth 20000 in
theorem tw_626 : (Jvm.Cond.instanceMethod ({ cls := "LoanRoundsModel", name := "add", desc := "(IIIJI)I" } : Jvm.MethodName)) ∈ TT := tt_of (i := 626) rfl rfl
set_option maxRecDepth 20000 in
theorem tw_627 : (Jvm.Cond.selects "LoanRoundsModel" ({ cls := "LoanRoundsModel", name := "add", desc := "(IIIJI)I" } : Jvm.MethodName) ({ cls := "LoanRoundsModel", name := "add", desc := "(IIIJI)I" } : Jvm.MethodName)) ∈ TT := tt_of (i := 627) rfl rfl
set_option maxRecDepth 20000 in
theorem tw_628 : (Jvm.Cond.code ({ cls := "LoanRoundsModel", name := "add", desc := "(IIIJI)I" } : Jvm.MethodName) prog_6_method_8_code (9 : Nat) (Option.some Jvm.ClassFile.FieldType.int)) ∈ TT := tt_of (i := 628) rfl rfl
set_option maxRecDepth 20000 in
theorem tw_629 : (Jvm.Cond.methodLink "LoanRoundsModel" (58 : Nat) ({ cls := "LoanRoundsModel", name := "within", desc := "(III)Z" } : Jvm.MethodName)) ∈ TT := tt_of (i := 629) rfl rfl
set_option maxRecDepth 20000 in
theorem tw_630 : (Jvm.Cond.static ({ cls := "LoanRoundsModel", name := "within", desc := "(III)Z" } : Jvm.MethodName)) ∈ TT := tt_of (i := 630) rfl rfl
set_option maxRecDepth 20000 in
theorem tw_631 : (Jvm.Cond.code ({ cls := "LoanRoundsModel", name := "within", desc := "(III)Z" } : Jvm.MethodName) prog_6_method_4_code (3 : Nat) (Option.some Jvm.ClassFile.FieldType.boolean)) ∈ TT := tt_of (i := 631) rfl rfl
set_option maxRecDepth 20000 in
theorem tw_632 : (Jvm.Cond.methodLink "LoanRoundsModel" (62 : Nat) ({ cls := "LoanRoundsModel", name := "raise", desc := "(I)I" } : Jvm.MethodName)) ∈ TT := tt_of (i := 632) rfl rfl
set_option maxRecDepth 20000 in
theorem tw_634 : (Jvm.Cond.instanceMethod ({ cls := "LoanRoundsModel", name := "raise", desc := "(I)I" } : Jvm.MethodName)) ∈ TT := tt_of (i := 634) rfl rfl
set_option maxRecDepth 20000 in
theorem tw_635 : (Jvm.Cond.code ({ cls := "LoanRoundsModel", name := "raise", desc := "(I)I" } : Jvm.MethodName) prog_6_method_3_code (2 : Nat) (Option.some Jvm.ClassFile.FieldType.int)) ∈ TT := tt_of (i := 635) rfl rfl
set_option maxRecDepth 20000 in
theorem tw_636 : (Jvm.Cond.methodLink "LoanRoundsModel" (66 : Nat) ({ cls := "LoanRoundsModel", name := "found", desc := "(IJ)I" } : Jvm.MethodName)) ∈ TT := tt_of (i := 636) rfl rfl
set_option maxRecDepth 20000 in
theorem tw_638 : (Jvm.Cond.instanceMethod ({ cls := "LoanRoundsModel", name := "found", desc := "(IJ)I" } : Jvm.MethodName)) ∈ TT := tt_of (i := 638) rfl rfl
set_option maxRecDepth 20000 in
theorem tw_639 : (Jvm.Cond.code ({ cls := "LoanRoundsModel", name := "found", desc := "(IJ)I" } : Jvm.MethodName) prog_6_method_7_code (5 : Nat) (Option.some Jvm.ClassFile.FieldType.int)) ∈ TT := tt_of (i := 639) rfl rfl
set_option maxRecDepth 20000 in
theorem tw_640 : (Jvm.Cond.methodLink "LoanRoundsModel" (51 : Nat) ({ cls := "LoanRoundsModel", name := "isLive", desc := "(I)Z" } : Jvm.MethodName)) ∈ TT := tt_of (i := 640) rfl rfl
set_option maxRecDepth 20000 in
theorem tw_642 : (Jvm.Cond.instanceMethod ({ cls := "LoanRoundsModel", name := "isLive", desc := "(I)Z" } : Jvm.MethodName)) ∈ TT := tt_of (i := 642) rfl rfl
set_option maxRecDepth 20000 in
theorem tw_643 : (Jvm.Cond.code ({ cls := "LoanRoundsModel", name := "isLive", desc := "(I)Z" } : Jvm.MethodName) prog_6_method_5_code (2 : Nat) (Option.some Jvm.ClassFile.FieldType.boolean)) ∈ TT := tt_of (i := 643) rfl rfl
set_option maxRecDepth 20000 in
theorem tw_644 : (Jvm.Cond.methodLink "LoanRoundsModel" (70 : Nat) ({ cls := "LoanRoundsModel", name := "lives", desc := "()I" } : Jvm.MethodName)) ∈ TT := tt_of (i := 644) rfl rfl
set_option maxRecDepth 20000 in
theorem tw_646 : (Jvm.Cond.instanceMethod ({ cls := "LoanRoundsModel", name := "lives", desc := "()I" } : Jvm.MethodName)) ∈ TT := tt_of (i := 646) rfl rfl
set_option maxRecDepth 20000 in
theorem tw_647 : (Jvm.Cond.code ({ cls := "LoanRoundsModel", name := "lives", desc := "()I" } : Jvm.MethodName) prog_6_method_6_code (3 : Nat) (Option.some Jvm.ClassFile.FieldType.int)) ∈ TT := tt_of (i := 647) rfl rfl
set_option maxRecDepth 20000 in
theorem tw_648 : (Jvm.Cond.methodLink "LoanRoundsLaw" (52 : Nat) ({ cls := "LoanRoundsModel", name := "lend", desc := "(II)I" } : Jvm.MethodName)) ∈ TT := tt_of (i := 648) rfl rfl
set_option maxRecDepth 20000 in
theorem tw_649 : (Jvm.Cond.instanceMethod ({ cls := "LoanRoundsModel", name := "lend", desc := "(II)I" } : Jvm.MethodName)) ∈ TT := tt_of (i := 649) rfl rfl
set_option maxRecDepth 20000 in
theorem tw_650 : (Jvm.Cond.selects "LoanRoundsModel" ({ cls := "LoanRoundsModel", name := "lend", desc := "(II)I" } : Jvm.MethodName) ({ cls := "LoanRoundsModel", name := "lend", desc := "(II)I" } : Jvm.MethodName)) ∈ TT := tt_of (i := 650) rfl rfl
set_option maxRecDepth 20000 in
theorem tw_651 : (Jvm.Cond.code ({ cls := "LoanRoundsModel", name := "lend", desc := "(II)I" } : Jvm.MethodName) prog_6_method_14_code (4 : Nat) (Option.some Jvm.ClassFile.FieldType.int)) ∈ TT := tt_of (i := 651) rfl rfl
set_option maxRecDepth 20000 in
theorem tw_652 : (Jvm.Cond.methodLink "LoanRoundsModel" (83 : Nat) ({ cls := "LoanRoundsModel", name := "firstOf", desc := "(I)I" } : Jvm.MethodName)) ∈ TT := tt_of (i := 652) rfl rfl
set_option maxRecDepth 20000 in
theorem tw_654 : (Jvm.Cond.instanceMethod ({ cls := "LoanRoundsModel", name := "firstOf", desc := "(I)I" } : Jvm.MethodName)) ∈ TT := tt_of (i := 654) rfl rfl
set_option maxRecDepth 20000 in
theorem tw_655 : (Jvm.Cond.code ({ cls := "LoanRoundsModel", name := "firstOf", desc := "(I)I" } : Jvm.MethodName) prog_6_method_13_code (4 : Nat) (Option.some Jvm.ClassFile.FieldType.int)) ∈ TT := tt_of (i := 655) rfl rfl
set_option maxRecDepth 20000 in
theorem tw_656 : (Jvm.Cond.methodLink "LoanRoundsModel" (77 : Nat) ({ cls := "LoanRoundsModel", name := "mayBeHad", desc := "(I)Z" } : Jvm.MethodName)) ∈ TT := tt_of (i := 656) rfl rfl
set_option maxRecDepth 20000 in
theorem tw_658 : (Jvm.Cond.instanceMethod ({ cls := "LoanRoundsModel", name := "mayBeHad", desc := "(I)Z" } : Jvm.MethodName)) ∈ TT := tt_of (i := 658) rfl rfl
set_option maxRecDepth 20000 in
theorem tw_659 : (Jvm.Cond.code ({ cls := "LoanRoundsModel", name := "mayBeHad", desc := "(I)Z" } : Jvm.MethodName) prog_6_method_12_code (2 : Nat) (Option.some Jvm.ClassFile.FieldType.boolean)) ∈ TT := tt_of (i := 659) rfl rfl
set_option maxRecDepth 20000 in
theorem tw_660 : (Jvm.Cond.methodLink "LoanRoundsModel" (74 : Nat) ({ cls := "LoanRoundsModel", name := "lentOf", desc := "(I)I" } : Jvm.MethodName)) ∈ TT := tt_of (i := 660) rfl rfl
set_option maxRecDepth 20000 in
theorem tw_662 : (Jvm.Cond.instanceMethod ({ cls := "LoanRoundsModel", name := "lentOf", desc := "(I)I" } : Jvm.MethodName)) ∈ TT := tt_of (i := 662) rfl rfl
set_option maxRecDepth 20000 in
theorem tw_663 : (Jvm.Cond.code ({ cls := "LoanRoundsModel", name := "lentOf", desc := "(I)I" } : Jvm.MethodName) prog_6_method_9_code (4 : Nat) (Option.some Jvm.ClassFile.FieldType.int)) ∈ TT := tt_of (i := 663) rfl rfl
set_option maxRecDepth 20000 in
theorem tw_664 : (Jvm.Cond.methodLink "LoanRoundsModel" (80 : Nat) ({ cls := "LoanRoundsModel", name := "weight", desc := "(I)I" } : Jvm.MethodName)) ∈ TT := tt_of (i := 664) rfl rfl
set_option maxRecDepth 20000 in
theorem tw_666 : (Jvm.Cond.instanceMethod ({ cls := "LoanRoundsModel", name := "weight", desc := "(I)I" } : Jvm.MethodName)) ∈ TT := tt_of (i := 666) rfl rfl
set_option maxRecDepth 20000 in
theorem tw_667 : (Jvm.Cond.code ({ cls := "LoanRoundsModel", name := "weight", desc := "(I)I" } : Jvm.MethodName) prog_6_method_11_code (4 : Nat) (Option.some Jvm.ClassFile.FieldType.int)) ∈ TT := tt_of (i := 667) rfl rfl
set_option maxRecDepth 20000 in
theorem tw_668 : (Jvm.Cond.methodLink "LoanRoundsModel" (86 : Nat) ({ cls := "LoanRoundsModel", name := "lentTo", desc := "(I)I" } : Jvm.MethodName)) ∈ TT := tt_of (i := 668) rfl rfl
set_option maxRecDepth 20000 in
theorem tw_670 : (Jvm.Cond.instanceMethod ({ cls := "LoanRoundsModel", name := "lentTo", desc := "(I)I" } : Jvm.MethodName)) ∈ TT := tt_of (i := 670) rfl rfl
set_option maxRecDepth 20000 in
theorem tw_671 : (Jvm.Cond.code ({ cls := "LoanRoundsModel", name := "lentTo", desc := "(I)I" } : Jvm.MethodName) prog_6_method_10_code (4 : Nat) (Option.some Jvm.ClassFile.FieldType.int)) ∈ TT := tt_of (i := 671) rfl rfl
set_option maxRecDepth 20000 in
theorem tw_672 : (Jvm.Cond.methodLink "LoanRoundsLaw" (57 : Nat) ({ cls := "LoanRoundsModel", name := "beat", desc := "(I)Z" } : Jvm.MethodName)) ∈ TT := tt_of (i := 672) rfl rfl
set_option maxRecDepth 20000 in
theorem tw_673 : (Jvm.Cond.instanceMethod ({ cls := "LoanRoundsModel", name := "beat", desc := "(I)Z" } : Jvm.MethodName)) ∈ TT := tt_of (i := 673) rfl rfl
set_option maxRecDepth 20000 in
theorem tw_674 : (Jvm.Cond.selects "LoanRoundsModel" ({ cls := "LoanRoundsModel", name := "beat", desc := "(I)Z" } : Jvm.MethodName) ({ cls := "LoanRoundsModel", name := "beat", desc := "(I)Z" } : Jvm.MethodName)) ∈ TT := tt_of (i := 674) rfl rfl
set_option maxRecDepth 20000 in
theorem tw_675 : (Jvm.Cond.code ({ cls := "LoanRoundsModel", name := "beat", desc := "(I)Z" } : Jvm.MethodName) prog_6_method_16_code (3 : Nat) (Option.some Jvm.ClassFile.FieldType.boolean)) ∈ TT := tt_of (i := 675) rfl rfl
set_option maxRecDepth 20000 in
theorem tw_676 : (Jvm.Cond.methodLink "LoanRoundsModel" (92 : Nat) ({ cls := "LoanRoundsModel", name := "lentWith", desc := "(I)I" } : Jvm.MethodName)) ∈ TT := tt_of (i := 676) rfl rfl
set_option maxRecDepth 20000 in
theorem tw_678 : (Jvm.Cond.instanceMethod ({ cls := "LoanRoundsModel", name := "lentWith", desc := "(I)I" } : Jvm.MethodName)) ∈ TT := tt_of (i := 678) rfl rfl
set_option maxRecDepth 20000 in
theorem tw_679 : (Jvm.Cond.code ({ cls := "LoanRoundsModel", name := "lentWith", desc := "(I)I" } : Jvm.MethodName) prog_6_method_15_code (3 : Nat) (Option.some Jvm.ClassFile.FieldType.int)) ∈ TT := tt_of (i := 679) rfl rfl
set_option maxRecDepth 20000 in
theorem tw_680 : (Jvm.Cond.methodLink "LoanRoundsLaw" (60 : Nat) ({ cls := "LoanRoundsModel", name := "end", desc := "(II)I" } : Jvm.MethodName)) ∈ TT := tt_of (i := 680) rfl rfl
set_option maxRecDepth 20000 in
theorem tw_681 : (Jvm.Cond.instanceMethod ({ cls := "LoanRoundsModel", name := "end", desc := "(II)I" } : Jvm.MethodName)) ∈ TT := tt_of (i := 681) rfl rfl
set_option maxRecDepth 20000 in
theorem tw_682 : (Jvm.Cond.selects "LoanRoundsModel" ({ cls := "LoanRoundsModel", name := "end", desc := "(II)I" } : Jvm.MethodName) ({ cls := "LoanRoundsModel", name := "end", desc := "(II)I" } : Jvm.MethodName)) ∈ TT := tt_of (i := 682) rfl rfl
set_option maxRecDepth 20000 in
theorem tw_683 : (Jvm.Cond.code ({ cls := "LoanRoundsModel", name := "end", desc := "(II)I" } : Jvm.MethodName) prog_6_method_18_code (4 : Nat) (Option.some Jvm.ClassFile.FieldType.int)) ∈ TT := tt_of (i := 683) rfl rfl
set_option maxRecDepth 20000 in
theorem tw_684 : (Jvm.Cond.methodLink "LoanRoundsModel" (95 : Nat) ({ cls := "LoanRoundsModel", name := "again", desc := "(I)V" } : Jvm.MethodName)) ∈ TT := tt_of (i := 684) rfl rfl
set_option maxRecDepth 20000 in
theorem tw_686 : (Jvm.Cond.instanceMethod ({ cls := "LoanRoundsModel", name := "again", desc := "(I)V" } : Jvm.MethodName)) ∈ TT := tt_of (i := 686) rfl rfl
set_option maxRecDepth 20000 in
theorem tw_687 : (Jvm.Cond.code ({ cls := "LoanRoundsModel", name := "again", desc := "(I)V" } : Jvm.MethodName) prog_6_method_17_code (5 : Nat) (Option.none : Option Jvm.ClassFile.FieldType)) ∈ TT := tt_of (i := 687) rfl rfl
set_option maxRecDepth 20000 in
theorem tw_688 : (Jvm.Cond.methodLink "LoanRoundsLaw" (64 : Nat) ({ cls := "LoanRoundsModel", name := "tick", desc := "(I)I" } : Jvm.MethodName)) ∈ TT := tt_of (i := 688) rfl rfl
set_option maxRecDepth 20000 in
theorem tw_689 : (Jvm.Cond.instanceMethod ({ cls := "LoanRoundsModel", name := "tick", desc := "(I)I" } : Jvm.MethodName)) ∈ TT := tt_of (i := 689) rfl rfl
set_option maxRecDepth 20000 in
theorem tw_690 : (Jvm.Cond.selects "LoanRoundsModel" ({ cls := "LoanRoundsModel", name := "tick", desc := "(I)I" } : Jvm.MethodName) ({ cls := "LoanRoundsModel", name := "tick", desc := "(I)I" } : Jvm.MethodName)) ∈ TT := tt_of (i := 690) rfl rfl
set_option maxRecDepth 20000 in
theorem tw_691 : (Jvm.Cond.code ({ cls := "LoanRoundsModel", name := "tick", desc := "(I)I" } : Jvm.MethodName) prog_6_method_19_code (5 : Nat) (Option.some Jvm.ClassFile.FieldType.int)) ∈ TT := tt_of (i := 691) rfl rfl
set_option maxRecDepth 20000 in
theorem tw_692 : (Jvm.Cond.methodLink "LoanRoundsLaw" (68 : Nat) ({ cls := "LoanRoundsModel", name := "cancel", desc := "(I)Z" } : Jvm.MethodName)) ∈ TT := tt_of (i := 692) rfl rfl
set_option maxRecDepth 20000 in
theorem tw_693 : (Jvm.Cond.instanceMethod ({ cls := "LoanRoundsModel", name := "cancel", desc := "(I)Z" } : Jvm.MethodName)) ∈ TT := tt_of (i := 693) rfl rfl
set_option maxRecDepth 20000 in
theorem tw_694 : (Jvm.Cond.selects "LoanRoundsModel" ({ cls := "LoanRoundsModel", name := "cancel", desc := "(I)Z" } : Jvm.MethodName) ({ cls := "LoanRoundsModel", name := "cancel", desc := "(I)Z" } : Jvm.MethodName)) ∈ TT := tt_of (i := 694) rfl rfl
set_option maxRecDepth 20000 in
theorem tw_695 : (Jvm.Cond.code ({ cls := "LoanRoundsModel", name := "cancel", desc := "(I)Z" } : Jvm.MethodName) prog_6_method_21_code (2 : Nat) (Option.some Jvm.ClassFile.FieldType.boolean)) ∈ TT := tt_of (i := 695) rfl rfl
set_option maxRecDepth 20000 in
theorem tw_696 : (Jvm.Cond.methodLink "LoanRoundsModel" (99 : Nat) ({ cls := "LoanRoundsModel", name := "isTask", desc := "(I)Z" } : Jvm.MethodName)) ∈ TT := tt_of (i := 696) rfl rfl
set_option maxRecDepth 20000 in
theorem tw_698 : (Jvm.Cond.instanceMethod ({ cls := "LoanRoundsModel", name := "isTask", desc := "(I)Z" } : Jvm.MethodName)) ∈ TT := tt_of (i := 698) rfl rfl
set_option maxRecDepth 20000 in
theorem tw_699 : (Jvm.Cond.code ({ cls := "LoanRoundsModel", name := "isTask", desc := "(I)Z" } : Jvm.MethodName) prog_6_method_20_code (2 : Nat) (Option.some Jvm.ClassFile.FieldType.boolean)) ∈ TT := tt_of (i := 699) rfl rfl
set_option maxRecDepth 20000 in
theorem tw_700 : (Jvm.Cond.methodLink "LoanRoundsLaw" (72 : Nat) ({ cls := "LoanRoundsModel", name := "revive", desc := "(I)Z" } : Jvm.MethodName)) ∈ TT := tt_of (i := 700) rfl rfl
set_option maxRecDepth 20000 in
theorem tw_701 : (Jvm.Cond.instanceMethod ({ cls := "LoanRoundsModel", name := "revive", desc := "(I)Z" } : Jvm.MethodName)) ∈ TT := tt_of (i := 701) rfl rfl
set_option maxRecDepth 20000 in
theorem tw_702 : (Jvm.Cond.selects "LoanRoundsModel" ({ cls := "LoanRoundsModel", name := "revive", desc := "(I)Z" } : Jvm.MethodName) ({ cls := "LoanRoundsModel", name := "revive", desc := "(I)Z" } : Jvm.MethodName)) ∈ TT := tt_of (i := 702) rfl rfl
set_option maxRecDepth 20000 in
theorem tw_703 : (Jvm.Cond.code ({ cls := "LoanRoundsModel", name := "revive", desc := "(I)Z" } : Jvm.MethodName) prog_6_method_22_code (2 : Nat) (Option.some Jvm.ClassFile.FieldType.boolean)) ∈ TT := tt_of (i := 703) rfl rfl
set_option maxRecDepth 20000 in
theorem tw_704 : (Jvm.Cond.methodLink "LoanRoundsLaw" (77 : Nat) ({ cls := "LoanRoundsModel", name := "set", desc := "(III)Z" } : Jvm.MethodName)) ∈ TT := tt_of (i := 704) rfl rfl
set_option maxRecDepth 20000 in
theorem tw_705 : (Jvm.Cond.instanceMethod ({ cls := "LoanRoundsModel", name := "set", desc := "(III)Z" } : Jvm.MethodName)) ∈ TT := tt_of (i := 705) rfl rfl
set_option maxRecDepth 20000 in
theorem tw_706 : (Jvm.Cond.selects "LoanRoundsModel" ({ cls := "LoanRoundsModel", name := "set", desc := "(III)Z" } : Jvm.MethodName) ({ cls := "LoanRoundsModel", name := "set", desc := "(III)Z" } : Jvm.MethodName)) ∈ TT := tt_of (i := 706) rfl rfl
set_option maxRecDepth 20000 in
theorem tw_707 : (Jvm.Cond.code ({ cls := "LoanRoundsModel", name := "set", desc := "(III)Z" } : Jvm.MethodName) prog_6_method_25_code (4 : Nat) (Option.some Jvm.ClassFile.FieldType.boolean)) ∈ TT := tt_of (i := 707) rfl rfl
set_option maxRecDepth 20000 in
theorem tw_708 : (Jvm.Cond.methodLink "LoanRoundsModel" (102 : Nat) ({ cls := "LoanRoundsModel", name := "least", desc := "(I)I" } : Jvm.MethodName)) ∈ TT := tt_of (i := 708) rfl rfl
set_option maxRecDepth 20000 in
theorem tw_709 : (Jvm.Cond.static ({ cls := "LoanRoundsModel", name := "least", desc := "(I)I" } : Jvm.MethodName)) ∈ TT := tt_of (i := 709) rfl rfl
set_option maxRecDepth 20000 in
theorem tw_710 : (Jvm.Cond.code ({ cls := "LoanRoundsModel", name := "least", desc := "(I)I" } : Jvm.MethodName) prog_6_method_23_code (1 : Nat) (Option.some Jvm.ClassFile.FieldType.int)) ∈ TT := tt_of (i := 710) rfl rfl
set_option maxRecDepth 20000 in
theorem tw_711 : (Jvm.Cond.methodLink "LoanRoundsModel" (105 : Nat) ({ cls := "LoanRoundsModel", name := "greatest", desc := "(I)I" } : Jvm.MethodName)) ∈ TT := tt_of (i := 711) rfl rfl
set_option maxRecDepth 20000 in
theorem tw_712 : (Jvm.Cond.static ({ cls := "LoanRoundsModel", name := "greatest", desc := "(I)I" } : Jvm.MethodName)) ∈ TT := tt_of (i := 712) rfl rfl
set_option maxRecDepth 20000 in
theorem tw_713 : (Jvm.Cond.code ({ cls := "LoanRoundsModel", name := "greatest", desc := "(I)I" } : Jvm.MethodName) prog_6_method_24_code (1 : Nat) (Option.some Jvm.ClassFile.FieldType.int)) ∈ TT := tt_of (i := 713) rfl rfl
set_option maxRecDepth 20000 in
theorem tw_714 : (Jvm.Cond.methodLink "LoanRoundsLaw" (80 : Nat) ({ cls := "LoanRoundsModel", name := "task", desc := "(II)I" } : Jvm.MethodName)) ∈ TT := tt_of (i := 714) rfl rfl
set_option maxRecDepth 20000 in
theorem tw_715 : (Jvm.Cond.instanceMethod ({ cls := "LoanRoundsModel", name := "task", desc := "(II)I" } : Jvm.MethodName)) ∈ TT := tt_of (i := 715) rfl rfl
set_option maxRecDepth 20000 in
theorem tw_716 : (Jvm.Cond.selects "LoanRoundsModel" ({ cls := "LoanRoundsModel", name := "task", desc := "(II)I" } : Jvm.MethodName) ({ cls := "LoanRoundsModel", name := "task", desc := "(II)I" } : Jvm.MethodName)) ∈ TT := tt_of (i := 716) rfl rfl
set_option maxRecDepth 20000 in
theorem tw_717 : (Jvm.Cond.code ({ cls := "LoanRoundsModel", name := "task", desc := "(II)I" } : Jvm.MethodName) prog_6_method_26_code (5 : Nat) (Option.some Jvm.ClassFile.FieldType.int)) ∈ TT := tt_of (i := 717) rfl rfl
set_option maxRecDepth 20000 in
theorem tw_718 : (Jvm.Cond.methodLink "LoanRoundsLaw" (84 : Nat) ({ cls := "LoanRoundsModel", name := "first", desc := "(I)I" } : Jvm.MethodName)) ∈ TT := tt_of (i := 718) rfl rfl
set_option maxRecDepth 20000 in
theorem tw_719 : (Jvm.Cond.instanceMethod ({ cls := "LoanRoundsModel", name := "first", desc := "(I)I" } : Jvm.MethodName)) ∈ TT := tt_of (i := 719) rfl rfl
set_option maxRecDepth 20000 in
theorem tw_720 : (Jvm.Cond.selects "LoanRoundsModel" ({ cls := "LoanRoundsModel", name := "first", desc := "(I)I" } : Jvm.MethodName) ({ cls := "LoanRoundsModel", name := "first", desc := "(I)I" } : Jvm.MethodName)) ∈ TT := tt_of (i := 720) rfl rfl
set_option maxRecDepth 20000 in
theorem tw_721 : (Jvm.Cond.code ({ cls := "LoanRoundsModel", name := "first", desc := "(I)I" } : Jvm.MethodName) prog_6_method_27_code (2 : Nat) (Option.some Jvm.ClassFile.FieldType.int)) ∈ TT := tt_of (i := 721) rfl rfl
set_option maxRecDepth 20000 in
theorem tw_722 : (Jvm.Cond.methodLink "LoanRoundsLaw" (88 : Nat) ({ cls := "LoanRoundsModel", name := "next", desc := "()I" } : Jvm.MethodName)) ∈ TT := tt_of (i := 722) rfl rfl
set_option maxRecDepth 20000 in
theorem tw_723 : (Jvm.Cond.instanceMethod ({ cls := "LoanRoundsModel", name := "next", desc := "()I" } : Jvm.MethodName)) ∈ TT := tt_of (i := 723) rfl rfl
set_option maxRecDepth 20000 in
theorem tw_724 : (Jvm.Cond.selects "LoanRoundsModel" ({ cls := "LoanRoundsModel", name := "next", desc := "()I" } : Jvm.MethodName) ({ cls := "LoanRoundsModel", name := "next", desc := "()I" } : Jvm.MethodName)) ∈ TT := tt_of (i := 724) rfl rfl
set_option maxRecDepth 20000 in
theorem tw_725 : (Jvm.Cond.code ({ cls := "LoanRoundsModel", name := "next", desc := "()I" } : Jvm.MethodName) prog_6_method_28_code (3 : Nat) (Option.some Jvm.ClassFile.FieldType.int)) ∈ TT := tt_of (i := 725) rfl rfl
set_option maxRecDepth 20000 in
theorem tw_726 : (Jvm.Cond.methodLink "LoanRoundsLaw" (92 : Nat) ({ cls := "LoanRoundsModel", name := "count", desc := "(I)I" } : Jvm.MethodName)) ∈ TT := tt_of (i := 726) rfl rfl
set_option maxRecDepth 20000 in
theorem tw_727 : (Jvm.Cond.instanceMethod ({ cls := "LoanRoundsModel", name := "count", desc := "(I)I" } : Jvm.MethodName)) ∈ TT := tt_of (i := 727) rfl rfl
set_option maxRecDepth 20000 in
theorem tw_728 : (Jvm.Cond.selects "LoanRoundsModel" ({ cls := "LoanRoundsModel", name := "count", desc := "(I)I" } : Jvm.MethodName) ({ cls := "LoanRoundsModel", name := "count", desc := "(I)I" } : Jvm.MethodName)) ∈ TT := tt_of (i := 728) rfl rfl
set_option maxRecDepth 20000 in
theorem tw_729 : (Jvm.Cond.code ({ cls := "LoanRoundsModel", name := "count", desc := "(I)I" } : Jvm.MethodName) prog_6_method_31_code (2 : Nat) (Option.some Jvm.ClassFile.FieldType.int)) ∈ TT := tt_of (i := 729) rfl rfl
set_option maxRecDepth 20000 in
theorem tw_730 : (Jvm.Cond.methodLink "LoanRoundsModel" (108 : Nat) ({ cls := "LoanRoundsModel", name := "waitingIn", desc := "(I)I" } : Jvm.MethodName)) ∈ TT := tt_of (i := 730) rfl rfl
set_option maxRecDepth 20000 in
theorem tw_732 : (Jvm.Cond.instanceMethod ({ cls := "LoanRoundsModel", name := "waitingIn", desc := "(I)I" } : Jvm.MethodName)) ∈ TT := tt_of (i := 732) rfl rfl
set_option maxRecDepth 20000 in
theorem tw_733 : (Jvm.Cond.code ({ cls := "LoanRoundsModel", name := "waitingIn", desc := "(I)I" } : Jvm.MethodName) prog_6_method_30_code (4 : Nat) (Option.some Jvm.ClassFile.FieldType.int)) ∈ TT := tt_of (i := 733) rfl rfl
set_option maxRecDepth 20000 in
theorem tw_734 : (Jvm.Cond.methodLink "LoanRoundsModel" (111 : Nat) ({ cls := "LoanRoundsModel", name := "inState", desc := "(I)I" } : Jvm.MethodName)) ∈ TT := tt_of (i := 734) rfl rfl
set_option maxRecDepth 20000 in
theorem tw_736 : (Jvm.Cond.instanceMethod ({ cls := "LoanRoundsModel", name := "inState", desc := "(I)I" } : Jvm.MethodName)) ∈ TT := tt_of (i := 736) rfl rfl
set_option maxRecDepth 20000 in
theorem tw_737 : (Jvm.Cond.code ({ cls := "LoanRoundsModel", name := "inState", desc := "(I)I" } : Jvm.MethodName) prog_6_method_29_code (4 : Nat) (Option.some Jvm.ClassFile.FieldType.int)) ∈ TT := tt_of (i := 737) rfl rfl
set_option maxRecDepth 20000 in
theorem tw_738 : (Jvm.Cond.constantLong "LoanRoundsLaw" (37 : Nat) (4294967295 : Int64)) ∈ TT := tt_of (i := 738) rfl rfl
set_option maxRecDepth 20000 in
theorem tw_739 : (Jvm.Cond.sameMethod "java/lang/Throwable" "java/lang/Throwable" "fillInStackTrace" "(I)Ljava/lang/Throwable;") ∈ TT := tt_of (i := 739) rfl rfl
set_option maxRecDepth 20000 in
theorem tw_741 : (Jvm.Cond.sameMethod "[Ljava/lang/Object;" "java/lang/Object" "getClass" "()Ljava/lang/Class;") ∈ TT := tt_of (i := 741) rfl rfl
set_option maxRecDepth 20000 in
theorem tw_742 : (Jvm.Cond.selects "[Ljava/lang/Object;" ({ cls := "java/lang/Object", name := "getClass", desc := "()Ljava/lang/Class;" } : Jvm.MethodName) ({ cls := "java/lang/Object", name := "getClass", desc := "()Ljava/lang/Class;" } : Jvm.MethodName)) ∈ TT := tt_of (i := 742) rfl rfl
theorem inT_G : ∀ w ∈ u_ws R_G F_G 2, w ∈ TT := by
  show ∀ w ∈ [u_lay R_G F_G 0, u_lay R_G F_G 1], w ∈ TT
  intro w hw
  simp only [List.mem_cons, List.not_mem_nil, or_false] at hw
  rcases hw with rfl | rfl
  · exact tw_128
  · exact tw_130
theorem inT_Q : ∀ w ∈ u_ws R_Q F_Q 6, w ∈ TT := by
  show ∀ w ∈ [u_lay R_Q F_Q 0, u_lay R_Q F_Q 1, u_lay R_Q F_Q 2, u_lay R_Q F_Q 3, u_lay R_Q F_Q 4, u_lay R_Q F_Q 5], w ∈ TT
  intro w hw
  simp only [List.mem_cons, List.not_mem_nil, or_false] at hw
  rcases hw with rfl | rfl | rfl | rfl | rfl | rfl
  · exact tw_104
  · exact tw_106
  · exact tw_108
  · exact tw_110
  · exact tw_112
  · exact tw_114
theorem inT_T : ∀ w ∈ u_ws R_T F_T 12, w ∈ TT := by
  show ∀ w ∈ [u_lay R_T F_T 0, u_lay R_T F_T 1, u_lay R_T F_T 2, u_lay R_T F_T 3, u_lay R_T F_T 4, u_lay R_T F_T 5, u_lay R_T F_T 6, u_lay R_T F_T 7, u_lay R_T F_T 8, u_lay R_T F_T 9, u_lay R_T F_T 10, u_lay R_T F_T 11], w ∈ TT
  intro w hw
  simp only [List.mem_cons, List.not_mem_nil, or_false] at hw
  rcases hw with rfl | rfl | rfl | rfl | rfl | rfl | rfl | rfl | rfl | rfl | rfl | rfl
  · exact tw_418
  · exact tw_420
  · exact tw_422
  · exact tw_424
  · exact tw_426
  · exact tw_428
  · exact tw_430
  · exact tw_432
  · exact tw_434
  · exact tw_436
  · exact tw_438
  · exact tw_440
theorem inT_X : ∀ w ∈ u_ws R_X F_X 5, w ∈ TT := by
  show ∀ w ∈ [u_lay R_X F_X 0, u_lay R_X F_X 1, u_lay R_X F_X 2, u_lay R_X F_X 3, u_lay R_X F_X 4], w ∈ TT
  intro w hw
  simp only [List.mem_cons, List.not_mem_nil, or_false] at hw
  rcases hw with rfl | rfl | rfl | rfl | rfl
  · exact tw_138
  · exact tw_140
  · exact tw_142
  · exact tw_144
  · exact tw_146
theorem inT_M : ∀ w ∈ u_ws R_M F_M 15, w ∈ TT := by
  show ∀ w ∈ [u_lay R_M F_M 0, u_lay R_M F_M 1, u_lay R_M F_M 2, u_lay R_M F_M 3, u_lay R_M F_M 4, u_lay R_M F_M 5, u_lay R_M F_M 6, u_lay R_M F_M 7, u_lay R_M F_M 8, u_lay R_M F_M 9, u_lay R_M F_M 10, u_lay R_M F_M 11, u_lay R_M F_M 12, u_lay R_M F_M 13, u_lay R_M F_M 14], w ∈ TT
  intro w hw
  simp only [List.mem_cons, List.not_mem_nil, or_false] at hw
  rcases hw with rfl | rfl | rfl | rfl | rfl | rfl | rfl | rfl | rfl | rfl | rfl | rfl | rfl | rfl | rfl
  · exact tw_588
  · exact tw_590
  · exact tw_592
  · exact tw_594
  · exact tw_596
  · exact tw_598
  · exact tw_600
  · exact tw_602
  · exact tw_604
  · exact tw_606
  · exact tw_608
  · exact tw_610
  · exact tw_612
  · exact tw_614
  · exact tw_616
theorem inT_A : ∀ w ∈ u_ws R_A F_A 3, w ∈ TT := by
  show ∀ w ∈ [u_lay R_A F_A 0, u_lay R_A F_A 1, u_lay R_A F_A 2], w ∈ TT
  intro w hw
  simp only [List.mem_cons, List.not_mem_nil, or_false] at hw
  rcases hw with rfl | rfl | rfl
  · exact tw_81
  · exact tw_83
  · exact tw_85
