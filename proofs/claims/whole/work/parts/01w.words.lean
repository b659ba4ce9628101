theorem q_0 : Cond.selects "ChairFront" ⟨"ChairFront", "isPlace", "(I)Z"⟩ ⟨"ChairFront", "isPlace", "(I)Z"⟩ ∈ WS := mW 0 (by decide +kernel) rfl
theorem q_1 : Cond.selects "ChairFront" ⟨"ChairFront", "isStretch", "(I)Z"⟩ ⟨"ChairFront", "isStretch", "(I)Z"⟩ ∈ WS := mW 1 (by decide +kernel) rfl
theorem q_2 : Cond.selects "ChairFront" ⟨"ChairFront", "chairsToTake", "(I)I"⟩ ⟨"ChairFront", "chairsToTake", "(I)I"⟩ ∈ WS := mW 2 (by decide +kernel) rfl
theorem q_3 : Cond.selects "ChairFront" ⟨"ChairFront", "addChairs", "(II)I"⟩ ⟨"ChairFront", "addChairs", "(II)I"⟩ ∈ WS := mW 3 (by decide +kernel) rfl
theorem q_4 : Cond.selects "ChairFront" ⟨"ChairFront", "takeByTide", "(I)V"⟩ ⟨"ChairFront", "takeByTide", "(I)V"⟩ ∈ WS := mW 4 (by decide +kernel) rfl
theorem q_5 : Cond.selects "ChairFront" ⟨"ChairFront", "endTicket", "(LChairFront$Ticket;)V"⟩ ⟨"ChairFront", "endTicket", "(LChairFront$Ticket;)V"⟩ ∈ WS := mW 5 (by decide +kernel) rfl
theorem q_6 : Cond.selects "ChairFront" ⟨"ChairFront", "endAllByWind", "()V"⟩ ⟨"ChairFront", "endAllByWind", "()V"⟩ ∈ WS := mW 6 (by decide +kernel) rfl
theorem q_7 : Cond.selects "ChairFront" ⟨"ChairFront", "payBackRain", "(I)V"⟩ ⟨"ChairFront", "payBackRain", "(I)V"⟩ ∈ WS := mW 7 (by decide +kernel) rfl
theorem q_8 : Cond.selects "ChairFront" ⟨"ChairFront", "wearAll", "(I)V"⟩ ⟨"ChairFront", "wearAll", "(I)V"⟩ ∈ WS := mW 8 (by decide +kernel) rfl
theorem q_9 : Cond.selects "ChairFront" ⟨"ChairFront", "breakChair", "(I)V"⟩ ⟨"ChairFront", "breakChair", "(I)V"⟩ ∈ WS := mW 9 (by decide +kernel) rfl
theorem q_10 : Cond.selects "ChairFront" ⟨"ChairFront", "passAnHour", "()V"⟩ ⟨"ChairFront", "passAnHour", "()V"⟩ ∈ WS := mW 10 (by decide +kernel) rfl
theorem q_11 : Cond.selects "ChairFront$Reader" ⟨"ChairFront$Reader", "advance", "()V"⟩ ⟨"ChairFront$Reader", "advance", "()V"⟩ ∈ WS := mW 11 (by decide +kernel) rfl
theorem q_12 : Cond.selects "ChairFront$Reader" ⟨"ChairFront$Reader", "skipBlanks", "()V"⟩ ⟨"ChairFront$Reader", "skipBlanks", "()V"⟩ ∈ WS := mW 12 (by decide +kernel) rfl
theorem q_13 : Cond.selects "ChairFront$Reader" ⟨"ChairFront$Reader", "passName", "()V"⟩ ⟨"ChairFront$Reader", "passName", "()V"⟩ ∈ WS := mW 13 (by decide +kernel) rfl
theorem q_14 : Cond.selects "ChairFront$Reader" ⟨"ChairFront$Reader", "passNumber", "()V"⟩ ⟨"ChairFront$Reader", "passNumber", "()V"⟩ ∈ WS := mW 14 (by decide +kernel) rfl
theorem q_15 : Cond.selects "ChairFront$Reader" ⟨"ChairFront$Reader", "readLine", "(LChairFront$Rules;)Z"⟩ ⟨"ChairFront$Reader", "readLine", "(LChairFront$Rules;)Z"⟩ ∈ WS := mW 15 (by decide +kernel) rfl
theorem q_16 : Cond.selects "ChairFront$Reader" ⟨"ChairFront$Reader", "isWord", "(Ljava/lang/String;)Z"⟩ ⟨"ChairFront$Reader", "isWord", "(Ljava/lang/String;)Z"⟩ ∈ WS := mW 16 (by decide +kernel) rfl
theorem q_17 : Cond.selects "ChairFront$Reader" ⟨"ChairFront$Reader", "readHold", "(LChairFront$Rules;)Z"⟩ ⟨"ChairFront$Reader", "readHold", "(LChairFront$Rules;)Z"⟩ ∈ WS := mW 17 (by decide +kernel) rfl
theorem q_18 : Cond.selects "ChairFront$Reader" ⟨"ChairFront$Reader", "refuse", "(I)Z"⟩ ⟨"ChairFront$Reader", "refuse", "(I)Z"⟩ ∈ WS := mW 18 (by decide +kernel) rfl
theorem q_19 : Cond.selects "ChairFront$Reader" ⟨"ChairFront$Reader", "readRain", "(LChairFront$Rules;)Z"⟩ ⟨"ChairFront$Reader", "readRain", "(LChairFront$Rules;)Z"⟩ ∈ WS := mW 19 (by decide +kernel) rfl
theorem q_20 : Cond.selects "ChairFront$Reader" ⟨"ChairFront$Reader", "readPart", "(II)Z"⟩ ⟨"ChairFront$Reader", "readPart", "(II)Z"⟩ ∈ WS := mW 20 (by decide +kernel) rfl
theorem q_21 : Cond.selects "ChairFront$Reader" ⟨"ChairFront$Reader", "standsNumber", "(II)Z"⟩ ⟨"ChairFront$Reader", "standsNumber", "(II)Z"⟩ ∈ WS := mW 21 (by decide +kernel) rfl
theorem q_22 : Cond.selects "ChairFront$Reader" ⟨"ChairFront$Reader", "readRent", "(LChairFront$Rules;)Z"⟩ ⟨"ChairFront$Reader", "readRent", "(LChairFront$Rules;)Z"⟩ ∈ WS := mW 22 (by decide +kernel) rfl
theorem q_23 : Cond.selects "ChairFront$BestWalk" ⟨"ChairFront$BestWalk", "addStop", "(ILChairFront$Stretch;)V"⟩ ⟨"ChairFront$BestWalk", "addStop", "(ILChairFront$Stretch;)V"⟩ ∈ WS := mW 23 (by decide +kernel) rfl
theorem q_24 : Cond.selects "ChairFront$BestWalk" ⟨"ChairFront$BestWalk", "allStops", "()I"⟩ ⟨"ChairFront$BestWalk", "allStops", "()I"⟩ ∈ WS := mW 24 (by decide +kernel) rfl
theorem q_25 : Cond.selects "ChairFront$BestWalk" ⟨"ChairFront$BestWalk", "bestNext", "(I)I"⟩ ⟨"ChairFront$BestWalk", "bestNext", "(I)I"⟩ ∈ WS := mW 25 (by decide +kernel) rfl
theorem q_26 : Cond.selects "ChairFront$BestWalk" ⟨"ChairFront$BestWalk", "findsBy", "(II)I"⟩ ⟨"ChairFront$BestWalk", "findsBy", "(II)I"⟩ ∈ WS := mW 26 (by decide +kernel) rfl
theorem q_27 : Cond.selects "ChairFront$Asks" ⟨"ChairFront$Asks", "worthOfCrowd", "(LChairFront$Stretch;)I"⟩ ⟨"ChairFront$Asks", "worthOfCrowd", "(LChairFront$Stretch;)I"⟩ ∈ WS := mW 27 (by decide +kernel) rfl
theorem q_28 : Cond.selects "ChairFront$Asks" ⟨"ChairFront$Asks", "leave", "(I)V"⟩ ⟨"ChairFront$Asks", "leave", "(I)V"⟩ ∈ WS := mW 28 (by decide +kernel) rfl
theorem q_29 : Cond.selects "ChairFront$Asks" ⟨"ChairFront$Asks", "worthOfSold", "(LChairFront$Stretch;)I"⟩ ⟨"ChairFront$Asks", "worthOfSold", "(LChairFront$Stretch;)I"⟩ ∈ WS := mW 29 (by decide +kernel) rfl
theorem q_30 : Cond.selects "ChairFront$Asks" ⟨"ChairFront$Asks", "worthLent", "(LChairFront$Stretch;)I"⟩ ⟨"ChairFront$Asks", "worthLent", "(LChairFront$Stretch;)I"⟩ ∈ WS := mW 30 (by decide +kernel) rfl
theorem q_31 : Cond.selects "ChairFront$Asks" ⟨"ChairFront$Asks", "markOfCrowd", "(LChairFront$Stretch;)I"⟩ ⟨"ChairFront$Asks", "markOfCrowd", "(LChairFront$Stretch;)I"⟩ ∈ WS := mW 31 (by decide +kernel) rfl
theorem q_32 : Cond.selects "ChairFront$Asks" ⟨"ChairFront$Asks", "markLent", "(LChairFront$Stretch;)I"⟩ ⟨"ChairFront$Asks", "markLent", "(LChairFront$Stretch;)I"⟩ ∈ WS := mW 32 (by decide +kernel) rfl
theorem q_33 : Cond.selects "ChairFront$Asks" ⟨"ChairFront$Asks", "worthOfBare", "(LChairFront$Stretch;)I"⟩ ⟨"ChairFront$Asks", "worthOfBare", "(LChairFront$Stretch;)I"⟩ ∈ WS := mW 33 (by decide +kernel) rfl
theorem q_34 : Cond.selects "ChairFront$Asks" ⟨"ChairFront$Asks", "markOfBare", "(LChairFront$Stretch;)I"⟩ ⟨"ChairFront$Asks", "markOfBare", "(LChairFront$Stretch;)I"⟩ ∈ WS := mW 34 (by decide +kernel) rfl
theorem q_35 : Cond.selects "ChairFront" ⟨"ChairFront", "allStanding", "()I"⟩ ⟨"ChairFront", "allStanding", "()I"⟩ ∈ WS := mW 35 (by decide +kernel) rfl
theorem q_36 : Cond.selects "ChairFrontModel" ⟨"ChairFrontModel", "isStretch", "(I)Z"⟩ ⟨"ChairFrontModel", "isStretch", "(I)Z"⟩ ∈ WS := mW 36 (by decide +kernel) rfl
theorem q_37 : Cond.selects "ChairFrontModel" ⟨"ChairFrontModel", "standing", "(I)I"⟩ ⟨"ChairFrontModel", "standing", "(I)I"⟩ ∈ WS := mW 37 (by decide +kernel) rfl
theorem q_38 : Cond.selects "ChairFrontModel" ⟨"ChairFrontModel", "slotOf", "(I)I"⟩ ⟨"ChairFrontModel", "slotOf", "(I)I"⟩ ∈ WS := mW 38 (by decide +kernel) rfl
theorem q_39 : Cond.selects "ChairFrontModel" ⟨"ChairFrontModel", "end", "(I)V"⟩ ⟨"ChairFrontModel", "end", "(I)V"⟩ ∈ WS := mW 39 (by decide +kernel) rfl
theorem q_40 : Cond.selects "ChairFrontModel" ⟨"ChairFrontModel", "tear", "(I)V"⟩ ⟨"ChairFrontModel", "tear", "(I)V"⟩ ∈ WS := mW 40 (by decide +kernel) rfl
theorem q_41 : Cond.selects "ChairFrontModel" ⟨"ChairFrontModel", "step", "()V"⟩ ⟨"ChairFrontModel", "step", "()V"⟩ ∈ WS := mW 41 (by decide +kernel) rfl
theorem q_42 : Cond.selects "ChairFrontModel" ⟨"ChairFrontModel", "byteAt", "(I)I"⟩ ⟨"ChairFrontModel", "byteAt", "(I)I"⟩ ∈ WS := mW 42 (by decide +kernel) rfl
theorem q_43 : Cond.selects "ChairFrontModel" ⟨"ChairFrontModel", "readLine", "()V"⟩ ⟨"ChairFrontModel", "readLine", "()V"⟩ ∈ WS := mW 43 (by decide +kernel) rfl
theorem q_44 : Cond.selects "ChairFrontModel" ⟨"ChairFrontModel", "word", "()J"⟩ ⟨"ChairFrontModel", "word", "()J"⟩ ∈ WS := mW 44 (by decide +kernel) rfl
theorem q_45 : Cond.selects "ChairFrontModel" ⟨"ChairFrontModel", "bad", "(I)V"⟩ ⟨"ChairFrontModel", "bad", "(I)V"⟩ ∈ WS := mW 45 (by decide +kernel) rfl
theorem q_46 : Cond.selects "ChairFrontModel" ⟨"ChairFrontModel", "need", "(Z)V"⟩ ⟨"ChairFrontModel", "need", "(Z)V"⟩ ∈ WS := mW 46 (by decide +kernel) rfl
theorem q_47 : Cond.selects "ChairFrontModel" ⟨"ChairFrontModel", "numberIn", "(II)I"⟩ ⟨"ChairFrontModel", "numberIn", "(II)I"⟩ ∈ WS := mW 47 (by decide +kernel) rfl
theorem q_48 : Cond.selects "ChairFrontModel" ⟨"ChairFrontModel", "next", "(I)Z"⟩ ⟨"ChairFrontModel", "next", "(I)Z"⟩ ∈ WS := mW 48 (by decide +kernel) rfl
theorem q_49 : Cond.selects "ChairFrontModel" ⟨"ChairFrontModel", "kindOf", "(I)I"⟩ ⟨"ChairFrontModel", "kindOf", "(I)I"⟩ ∈ WS := mW 49 (by decide +kernel) rfl
theorem q_50 : Cond.selects "ChairFrontModel" ⟨"ChairFrontModel", "worth", "(I)I"⟩ ⟨"ChairFrontModel", "worth", "(I)I"⟩ ∈ WS := mW 50 (by decide +kernel) rfl
theorem q_51 : Cond.selects "ChairFrontModel" ⟨"ChairFrontModel", "bareWorth", "(I)I"⟩ ⟨"ChairFrontModel", "bareWorth", "(I)I"⟩ ∈ WS := mW 51 (by decide +kernel) rfl
theorem q_52 : Cond.selects "ChairFrontModel" ⟨"ChairFrontModel", "began", "(I)V"⟩ ⟨"ChairFrontModel", "began", "(I)V"⟩ ∈ WS := mW 52 (by decide +kernel) rfl
theorem q_53 : Cond.selects "ChairFrontModel" ⟨"ChairFrontModel", "marked", "(I)I"⟩ ⟨"ChairFrontModel", "marked", "(I)I"⟩ ∈ WS := mW 53 (by decide +kernel) rfl
theorem q_54 : (Jvm.Cond.initialized "ChairFrontLaw") ∈ WS := mW 54 (by decide +kernel) rfl
theorem q_55 : (Jvm.Cond.initialized "ChairFront") ∈ WS := mW 55 (by decide +kernel) rfl
theorem q_56 : (Jvm.Cond.initialized "ChairFront$TicketBook") ∈ WS := mW 56 (by decide +kernel) rfl
theorem q_57 : (Jvm.Cond.initialized "ChairFront$Ticket") ∈ WS := mW 57 (by decide +kernel) rfl
theorem q_58 : (Jvm.Cond.initialized "ChairFront$Reader") ∈ WS := mW 58 (by decide +kernel) rfl
theorem q_59 : (Jvm.Cond.initialized "ChairFront$Tape") ∈ WS := mW 59 (by decide +kernel) rfl
theorem q_60 : (Jvm.Cond.initialized "ChairFront$Rules") ∈ WS := mW 60 (by decide +kernel) rfl
theorem q_61 : (Jvm.Cond.initialized "ChairFront$BestWalk") ∈ WS := mW 61 (by decide +kernel) rfl
theorem q_62 : (Jvm.Cond.initialized "ChairFront$Asks") ∈ WS := mW 62 (by decide +kernel) rfl
theorem q_63 : (Jvm.Cond.initialized "java/lang/Math") ∈ WS := mW 63 (by decide +kernel) rfl
theorem q_64 : (Jvm.Cond.initialized "ChairFront$Stretch") ∈ WS := mW 64 (by decide +kernel) rfl
theorem q_65 : (Jvm.Cond.initialized "ChairFrontModel") ∈ WS := mW 65 (by decide +kernel) rfl
theorem q_66 : (Jvm.Cond.initialized "java/lang/String") ∈ WS := mW 66 (by decide +kernel) rfl
theorem q_67 : (Jvm.Cond.initialized "java/lang/StringLatin1") ∈ WS := mW 67 (by decide +kernel) rfl
theorem q_68 : (Jvm.Cond.initialized "jdk/internal/util/Preconditions") ∈ WS := mW 68 (by decide +kernel) rfl
theorem q_69 : (Jvm.Cond.initialized "java/lang/StringUTF16") ∈ WS := mW 69 (by decide +kernel) rfl
theorem q_70 : (Jvm.Cond.initialized "java/lang/Integer") ∈ WS := mW 70 (by decide +kernel) rfl
theorem q_71 : (Jvm.Cond.classLink "ChairFrontLaw" (7 : Nat) "ChairFront") ∈ WS := mW 71 (by decide +kernel) rfl
theorem q_72 : (Jvm.Cond.instantiable "ChairFront" (16 : Nat)) ∈ WS := mW 72 (by decide +kernel) rfl
theorem q_73 : (Jvm.Cond.methodLink "ChairFrontLaw" (15 : Nat) ({ cls := "ChairFront", name := "<init>", desc := "(I)V" } : Jvm.MethodName)) ∈ WS := mW 73 (by decide +kernel) rfl
theorem q_74 : (Jvm.Cond.instanceMethod ({ cls := "ChairFront", name := "<init>", desc := "(I)V" } : Jvm.MethodName)) ∈ WS := mW 74 (by decide +kernel) rfl
theorem q_75 : (Jvm.Cond.code ({ cls := "ChairFront", name := "<init>", desc := "(I)V" } : Jvm.MethodName) prog_1_method_1_code (3 : Nat) (Option.none : Option Jvm.ClassFile.FieldType)) ∈ WS := mW 75 (by decide +kernel) rfl
theorem q_76 : (Jvm.Cond.methodLink "ChairFront" (1 : Nat) ({ cls := "java/lang/Object", name := "<init>", desc := "()V" } : Jvm.MethodName)) ∈ WS := mW 76 (by decide +kernel) rfl
theorem q_77 : (Jvm.Cond.instanceMethod ({ cls := "java/lang/Object", name := "<init>", desc := "()V" } : Jvm.MethodName)) ∈ WS := mW 77 (by decide +kernel) rfl
theorem q_78 : (Jvm.Cond.code ({ cls := "java/lang/Object", name := "<init>", desc := "()V" } : Jvm.MethodName) object_method_1_code (1 : Nat) (Option.none : Option Jvm.ClassFile.FieldType)) ∈ WS := mW 78 (by decide +kernel) rfl
theorem q_79 : (Jvm.Cond.classLink "ChairFront" (16 : Nat) "ChairFront$Stretch") ∈ WS := mW 79 (by decide +kernel) rfl
theorem q_81 : (Jvm.Cond.classLink "ChairFront" (22 : Nat) "ChairFront$TicketBook") ∈ WS := mW 81 (by decide +kernel) rfl
theorem q_82 : (Jvm.Cond.instantiable "ChairFront$TicketBook" (5 : Nat)) ∈ WS := mW 82 (by decide +kernel) rfl
theorem q_83 : (Jvm.Cond.methodLink "ChairFront" (24 : Nat) ({ cls := "ChairFront$TicketBook", name := "<init>", desc := "()V" } : Jvm.MethodName)) ∈ WS := mW 83 (by decide +kernel) rfl
theorem q_84 : (Jvm.Cond.instanceMethod ({ cls := "ChairFront$TicketBook", name := "<init>", desc := "()V" } : Jvm.MethodName)) ∈ WS := mW 84 (by decide +kernel) rfl
theorem q_85 : (Jvm.Cond.code ({ cls := "ChairFront$TicketBook", name := "<init>", desc := "()V" } : Jvm.MethodName) prog_9_method_1_code (2 : Nat) (Option.none : Option Jvm.ClassFile.FieldType)) ∈ WS := mW 85 (by decide +kernel) rfl
theorem q_86 : (Jvm.Cond.methodLink "ChairFront$TicketBook" (1 : Nat) ({ cls := "java/lang/Object", name := "<init>", desc := "()V" } : Jvm.MethodName)) ∈ WS := mW 86 (by decide +kernel) rfl
theorem q_87 : (Jvm.Cond.classLink "ChairFront$TicketBook" (9 : Nat) "ChairFront$Ticket") ∈ WS := mW 87 (by decide +kernel) rfl
theorem q_89 : (Jvm.Cond.instantiable "ChairFront$Ticket" (7 : Nat)) ∈ WS := mW 89 (by decide +kernel) rfl
theorem q_91 : (Jvm.Cond.instanceMethod ({ cls := "ChairFront$Ticket", name := "<init>", desc := "()V" } : Jvm.MethodName)) ∈ WS := mW 91 (by decide +kernel) rfl
theorem q_92 : (Jvm.Cond.code ({ cls := "ChairFront$Ticket", name := "<init>", desc := "()V" } : Jvm.MethodName) prog_8_method_1_code (1 : Nat) (Option.none : Option Jvm.ClassFile.FieldType)) ∈ WS := mW 92 (by decide +kernel) rfl
theorem q_93 : (Jvm.Cond.methodLink "ChairFront$Ticket" (1 : Nat) ({ cls := "java/lang/Object", name := "<init>", desc := "()V" } : Jvm.MethodName)) ∈ WS := mW 93 (by decide +kernel) rfl
theorem q_94 : (Jvm.Cond.fieldLink "ChairFront$TicketBook" (23 : Nat) "ChairFront$Ticket" "number" "I") ∈ WS := mW 94 (by decide +kernel) rfl
theorem q_95 : (Jvm.Cond.fieldLink "ChairFront" (150 : Nat) "ChairFront$Ticket" "number" "I") ∈ WS := mW 95 (by decide +kernel) rfl
theorem q_96 : (Jvm.Cond.fieldLink "ChairFront$TicketBook" (26 : Nat) "ChairFront$Ticket" "place" "I") ∈ WS := mW 96 (by decide +kernel) rfl
theorem q_97 : (Jvm.Cond.fieldLink "ChairFront" (133 : Nat) "ChairFront$Ticket" "place" "I") ∈ WS := mW 97 (by decide +kernel) rfl
theorem q_98 : (Jvm.Cond.fieldLink "ChairFront" (138 : Nat) "ChairFront$Ticket" "zone" "I") ∈ WS := mW 98 (by decide +kernel) rfl
theorem q_99 : (Jvm.Cond.fieldLink "ChairFront$TicketBook" (29 : Nat) "ChairFront$Ticket" "chairs" "I") ∈ WS := mW 99 (by decide +kernel) rfl
theorem q_100 : (Jvm.Cond.fieldLink "ChairFront" (139 : Nat) "ChairFront$Ticket" "chairs" "I") ∈ WS := mW 100 (by decide +kernel) rfl
theorem q_101 : (Jvm.Cond.fieldLink "ChairFront" (142 : Nat) "ChairFront$Ticket" "hoursLeft" "I") ∈ WS := mW 101 (by decide +kernel) rfl
theorem q_102 : (Jvm.Cond.fieldLink "ChairFront" (145 : Nat) "ChairFront$Ticket" "price" "I") ∈ WS := mW 102 (by decide +kernel) rfl
theorem q_103 : (Jvm.Cond.fieldLink "ChairFront" (146 : Nat) "ChairFront$Ticket" "paid" "I") ∈ WS := mW 103 (by decide +kernel) rfl
theorem q_119 : (Jvm.Cond.fieldLink "ChairFront$TicketBook" (11 : Nat) "ChairFront$TicketBook" "tickets" "[LChairFront$Ticket;") ∈ WS := mW 119 (by decide +kernel) rfl
theorem q_120 : (Jvm.Cond.fieldLink "ChairFront" (278 : Nat) "ChairFront$TicketBook" "tickets" "[LChairFront$Ticket;") ∈ WS := mW 120 (by decide +kernel) rfl
theorem q_121 : (Jvm.Cond.fieldLink "ChairFront$TicketBook" (16 : Nat) "ChairFront$TicketBook" "running" "I") ∈ WS := mW 121 (by decide +kernel) rfl
theorem q_122 : (Jvm.Cond.fieldLink "ChairFront" (183 : Nat) "ChairFront$TicketBook" "running" "I") ∈ WS := mW 122 (by decide +kernel) rfl
theorem q_123 : (Jvm.Cond.fieldLink "ChairFront$TicketBook" (20 : Nat) "ChairFront$TicketBook" "ever" "I") ∈ WS := mW 123 (by decide +kernel) rfl
theorem q_124 : (Jvm.Cond.fieldLink "ChairFront" (275 : Nat) "ChairFront$TicketBook" "ever" "I") ∈ WS := mW 124 (by decide +kernel) rfl
theorem q_125 : (Jvm.Cond.fieldLink "ChairFront" (149 : Nat) "ChairFront$TicketBook" "paid" "I") ∈ WS := mW 125 (by decide +kernel) rfl
theorem q_126 : (Jvm.Cond.fieldLink "ChairFront" (223 : Nat) "ChairFront$TicketBook" "back" "I") ∈ WS := mW 126 (by decide +kernel) rfl
theorem q_138 : (Jvm.Cond.classLink "ChairFront" (29 : Nat) "ChairFront$Reader") ∈ WS := mW 138 (by decide +kernel) rfl
theorem q_139 : (Jvm.Cond.instantiable "ChairFront$Reader" (9 : Nat)) ∈ WS := mW 139 (by decide +kernel) rfl
theorem q_141 : (Jvm.Cond.instanceMethod ({ cls := "ChairFront$Reader", name := "<init>", desc := "()V" } : Jvm.MethodName)) ∈ WS := mW 141 (by decide +kernel) rfl
theorem q_142 : (Jvm.Cond.code ({ cls := "ChairFront$Reader", name := "<init>", desc := "()V" } : Jvm.MethodName) prog_4_method_1_code (1 : Nat) (Option.none : Option Jvm.ClassFile.FieldType)) ∈ WS := mW 142 (by decide +kernel) rfl
theorem q_143 : (Jvm.Cond.methodLink "ChairFront$Reader" (1 : Nat) ({ cls := "java/lang/Object", name := "<init>", desc := "()V" } : Jvm.MethodName)) ∈ WS := mW 143 (by decide +kernel) rfl
theorem q_144 : (Jvm.Cond.classLink "ChairFront$Reader" (7 : Nat) "ChairFront$Tape") ∈ WS := mW 144 (by decide +kernel) rfl
theorem q_145 : (Jvm.Cond.instantiable "ChairFront$Tape" (2 : Nat)) ∈ WS := mW 145 (by decide +kernel) rfl
theorem q_147 : (Jvm.Cond.instanceMethod ({ cls := "ChairFront$Tape", name := "<init>", desc := "()V" } : Jvm.MethodName)) ∈ WS := mW 147 (by decide +kernel) rfl
theorem q_148 : (Jvm.Cond.code ({ cls := "ChairFront$Tape", name := "<init>", desc := "()V" } : Jvm.MethodName) prog_7_method_1_code (1 : Nat) (Option.none : Option Jvm.ClassFile.FieldType)) ∈ WS := mW 148 (by decide +kernel) rfl
theorem q_149 : (Jvm.Cond.methodLink "ChairFront$Tape" (1 : Nat) ({ cls := "java/lang/Object", name := "<init>", desc := "()V" } : Jvm.MethodName)) ∈ WS := mW 149 (by decide +kernel) rfl
theorem q_150 : (Jvm.Cond.fieldLink "ChairFront$Tape" (9 : Nat) "ChairFront$Tape" "bytes" "[B") ∈ WS := mW 150 (by decide +kernel) rfl
theorem q_151 : (Jvm.Cond.fieldLink "ChairFront$Tape" (13 : Nat) "ChairFront$Tape" "length" "I") ∈ WS := mW 151 (by decide +kernel) rfl
theorem q_152 : (Jvm.Cond.fieldLink "ChairFront" (199 : Nat) "ChairFront$Tape" "length" "I") ∈ WS := mW 152 (by decide +kernel) rfl
theorem q_153 : (Jvm.Cond.fieldLink "ChairFront$Reader" (144 : Nat) "ChairFront$Tape" "length" "I") ∈ WS := mW 153 (by decide +kernel) rfl
theorem q_159 : (Jvm.Cond.arrayClass Jvm.ClassFile.FieldType.byte) ∈ WS := mW 159 (by decide +kernel) rfl
theorem q_160 : (Jvm.Cond.fieldLink "ChairFront$Reader" (10 : Nat) "ChairFront$Reader" "tape" "LChairFront$Tape;") ∈ WS := mW 160 (by decide +kernel) rfl
theorem q_161 : (Jvm.Cond.fieldLink "ChairFront" (186 : Nat) "ChairFront$Reader" "tape" "LChairFront$Tape;") ∈ WS := mW 161 (by decide +kernel) rfl
theorem q_162 : (Jvm.Cond.fieldLink "ChairFront$Reader" (23 : Nat) "ChairFront$Reader" "token" "I") ∈ WS := mW 162 (by decide +kernel) rfl
theorem q_163 : (Jvm.Cond.fieldLink "ChairFront$Reader" (110 : Nat) "ChairFront$Reader" "start" "I") ∈ WS := mW 163 (by decide +kernel) rfl
theorem q_164 : (Jvm.Cond.fieldLink "ChairFront$Reader" (16 : Nat) "ChairFront$Reader" "next" "I") ∈ WS := mW 164 (by decide +kernel) rfl
theorem q_165 : (Jvm.Cond.fieldLink "ChairFront$Reader" (97 : Nat) "ChairFront$Reader" "value" "I") ∈ WS := mW 165 (by decide +kernel) rfl
theorem q_166 : (Jvm.Cond.fieldLink "ChairFront$Reader" (73 : Nat) "ChairFront$Reader" "bound" "I") ∈ WS := mW 166 (by decide +kernel) rfl
theorem q_167 : (Jvm.Cond.fieldLink "ChairFront$Reader" (76 : Nat) "ChairFront$Reader" "part" "I") ∈ WS := mW 167 (by decide +kernel) rfl
theorem q_168 : (Jvm.Cond.fieldLink "ChairFront$Reader" (107 : Nat) "ChairFront$Reader" "faultNumber" "I") ∈ WS := mW 168 (by decide +kernel) rfl
theorem q_169 : (Jvm.Cond.fieldLink "ChairFront" (209 : Nat) "ChairFront$Reader" "faultNumber" "I") ∈ WS := mW 169 (by decide +kernel) rfl
theorem q_170 : (Jvm.Cond.fieldLink "ChairFront$Reader" (113 : Nat) "ChairFront$Reader" "faultPlace" "I") ∈ WS := mW 170 (by decide +kernel) rfl
theorem q_171 : (Jvm.Cond.fieldLink "ChairFront" (216 : Nat) "ChairFront$Reader" "faultPlace" "I") ∈ WS := mW 171 (by decide +kernel) rfl
theorem q_191 : (Jvm.Cond.classLink "ChairFront" (36 : Nat) "ChairFront$Rules") ∈ WS := mW 191 (by decide +kernel) rfl
theorem q_192 : (Jvm.Cond.instantiable "ChairFront$Rules" (8 : Nat)) ∈ WS := mW 192 (by decide +kernel) rfl
theorem q_194 : (Jvm.Cond.instanceMethod ({ cls := "ChairFront$Rules", name := "<init>", desc := "()V" } : Jvm.MethodName)) ∈ WS := mW 194 (by decide +kernel) rfl
theorem q_195 : (Jvm.Cond.code ({ cls := "ChairFront$Rules", name := "<init>", desc := "()V" } : Jvm.MethodName) prog_5_method_1_code (1 : Nat) (Option.none : Option Jvm.ClassFile.FieldType)) ∈ WS := mW 195 (by decide +kernel) rfl
theorem q_196 : (Jvm.Cond.methodLink "ChairFront$Rules" (1 : Nat) ({ cls := "java/lang/Object", name := "<init>", desc := "()V" } : Jvm.MethodName)) ∈ WS := mW 196 (by decide +kernel) rfl
theorem q_197 : (Jvm.Cond.fieldLink "ChairFront$Rules" (22 : Nat) "ChairFront$Rules" "lines" "I") ∈ WS := mW 197 (by decide +kernel) rfl
theorem q_198 : (Jvm.Cond.fieldLink "ChairFront$Reader" (34 : Nat) "ChairFront$Rules" "lines" "I") ∈ WS := mW 198 (by decide +kernel) rfl
theorem q_199 : (Jvm.Cond.fieldLink "ChairFront" (219 : Nat) "ChairFront$Rules" "lines" "I") ∈ WS := mW 199 (by decide +kernel) rfl
theorem q_200 : (Jvm.Cond.fieldLink "ChairFront$Rules" (26 : Nat) "ChairFront$Rules" "hold" "I") ∈ WS := mW 200 (by decide +kernel) rfl
theorem q_201 : (Jvm.Cond.fieldLink "ChairFront$Reader" (60 : Nat) "ChairFront$Rules" "hold" "I") ∈ WS := mW 201 (by decide +kernel) rfl
theorem q_202 : (Jvm.Cond.fieldLink "ChairFront$Rules" (29 : Nat) "ChairFront$Rules" "rainLines" "I") ∈ WS := mW 202 (by decide +kernel) rfl
theorem q_203 : (Jvm.Cond.fieldLink "ChairFront$Reader" (66 : Nat) "ChairFront$Rules" "rainLines" "I") ∈ WS := mW 203 (by decide +kernel) rfl
theorem q_204 : (Jvm.Cond.fieldLink "ChairFront$Rules" (32 : Nat) "ChairFront$Rules" "rentLines" "I") ∈ WS := mW 204 (by decide +kernel) rfl
theorem q_205 : (Jvm.Cond.fieldLink "ChairFront$Reader" (83 : Nat) "ChairFront$Rules" "rentLines" "I") ∈ WS := mW 205 (by decide +kernel) rfl
theorem q_206 : (Jvm.Cond.fieldLink "ChairFront$Rules" (9 : Nat) "ChairFront$Rules" "rainFrom" "[I") ∈ WS := mW 206 (by decide +kernel) rfl
theorem q_207 : (Jvm.Cond.fieldLink "ChairFront$Rules" (13 : Nat) "ChairFront$Rules" "rainPart" "[I") ∈ WS := mW 207 (by decide +kernel) rfl
theorem q_208 : (Jvm.Cond.fieldLink "ChairFront$Rules" (16 : Nat) "ChairFront$Rules" "rentEnd" "[I") ∈ WS := mW 208 (by decide +kernel) rfl
theorem q_209 : (Jvm.Cond.fieldLink "ChairFront$Rules" (19 : Nat) "ChairFront$Rules" "rentPart" "[I") ∈ WS := mW 209 (by decide +kernel) rfl
theorem q_227 : (Jvm.Cond.arrayClass Jvm.ClassFile.FieldType.int) ∈ WS := mW 227 (by decide +kernel) rfl
theorem q_228 : (Jvm.Cond.classLink "ChairFront" (46 : Nat) "ChairFront$BestWalk") ∈ WS := mW 228 (by decide +kernel) rfl
theorem q_229 : (Jvm.Cond.instantiable "ChairFront$BestWalk" (4 : Nat)) ∈ WS := mW 229 (by decide +kernel) rfl
theorem q_231 : (Jvm.Cond.instanceMethod ({ cls := "ChairFront$BestWalk", name := "<init>", desc := "()V" } : Jvm.MethodName)) ∈ WS := mW 231 (by decide +kernel) rfl
theorem q_232 : (Jvm.Cond.code ({ cls := "ChairFront$BestWalk", name := "<init>", desc := "()V" } : Jvm.MethodName) prog_3_method_1_code (1 : Nat) (Option.none : Option Jvm.ClassFile.FieldType)) ∈ WS := mW 232 (by decide +kernel) rfl
theorem q_233 : (Jvm.Cond.methodLink "ChairFront$BestWalk" (3 : Nat) ({ cls := "java/lang/Object", name := "<init>", desc := "()V" } : Jvm.MethodName)) ∈ WS := mW 233 (by decide +kernel) rfl
theorem q_234 : (Jvm.Cond.fieldLink "ChairFront$BestWalk" (11 : Nat) "ChairFront$BestWalk" "stops" "[I") ∈ WS := mW 234 (by decide +kernel) rfl
theorem q_235 : (Jvm.Cond.fieldLink "ChairFront$BestWalk" (15 : Nat) "ChairFront$BestWalk" "found" "[I") ∈ WS := mW 235 (by decide +kernel) rfl
theorem q_236 : (Jvm.Cond.fieldLink "ChairFront$BestWalk" (18 : Nat) "ChairFront$BestWalk" "mostOfLeft" "[I") ∈ WS := mW 236 (by decide +kernel) rfl
theorem q_237 : (Jvm.Cond.fieldLink "ChairFront$BestWalk" (21 : Nat) "ChairFront$BestWalk" "length" "I") ∈ WS := mW 237 (by decide +kernel) rfl
theorem q_247 : (Jvm.Cond.classLink "ChairFront" (53 : Nat) "ChairFront$Asks") ∈ WS := mW 247 (by decide +kernel) rfl
theorem q_248 : (Jvm.Cond.instantiable "ChairFront$Asks" (2 : Nat)) ∈ WS := mW 248 (by decide +kernel) rfl
theorem q_250 : (Jvm.Cond.instanceMethod ({ cls := "ChairFront$Asks", name := "<init>", desc := "()V" } : Jvm.MethodName)) ∈ WS := mW 250 (by decide +kernel) rfl
theorem q_251 : (Jvm.Cond.code ({ cls := "ChairFront$Asks", name := "<init>", desc := "()V" } : Jvm.MethodName) prog_2_method_1_code (1 : Nat) (Option.none : Option Jvm.ClassFile.FieldType)) ∈ WS := mW 251 (by decide +kernel) rfl
theorem q_252 : (Jvm.Cond.methodLink "ChairFront$Asks" (1 : Nat) ({ cls := "java/lang/Object", name := "<init>", desc := "()V" } : Jvm.MethodName)) ∈ WS := mW 252 (by decide +kernel) rfl
theorem q_253 : (Jvm.Cond.fieldLink "ChairFront$Asks" (9 : Nat) "ChairFront$Asks" "bodies" "[I") ∈ WS := mW 253 (by decide +kernel) rfl
theorem q_254 : (Jvm.Cond.fieldLink "ChairFront" (265 : Nat) "ChairFront$Asks" "bodies" "[I") ∈ WS := mW 254 (by decide +kernel) rfl
theorem q_255 : (Jvm.Cond.fieldLink "ChairFront$Asks" (58 : Nat) "ChairFront$Asks" "traced" "I") ∈ WS := mW 255 (by decide +kernel) rfl
theorem q_256 : (Jvm.Cond.fieldLink "ChairFront" (255 : Nat) "ChairFront$Asks" "traced" "I") ∈ WS := mW 256 (by decide +kernel) rfl
theorem q_262 : (Jvm.Cond.methodLink "ChairFront" (60 : Nat) ({ cls := "java/lang/Math", name := "min", desc := "(II)I" } : Jvm.MethodName)) ∈ WS := mW 262 (by decide +kernel) rfl
theorem q_263 : (Jvm.Cond.static ({ cls := "java/lang/Math", name := "min", desc := "(II)I" } : Jvm.MethodName)) ∈ WS := mW 263 (by decide +kernel) rfl
theorem q_264 : (Jvm.Cond.code ({ cls := "java/lang/Math", name := "min", desc := "(II)I" } : Jvm.MethodName) prog_13_method_69_code (2 : Nat) (Option.some Jvm.ClassFile.FieldType.int)) ∈ WS := mW 264 (by decide +kernel) rfl
theorem q_265 : (Jvm.Cond.methodLink "ChairFront" (66 : Nat) ({ cls := "java/lang/Math", name := "max", desc := "(II)I" } : Jvm.MethodName)) ∈ WS := mW 265 (by decide +kernel) rfl
theorem q_266 : (Jvm.Cond.static ({ cls := "java/lang/Math", name := "max", desc := "(II)I" } : Jvm.MethodName)) ∈ WS := mW 266 (by decide +kernel) rfl
theorem q_267 : (Jvm.Cond.code ({ cls := "java/lang/Math", name := "max", desc := "(II)I" } : Jvm.MethodName) prog_13_method_65_code (2 : Nat) (Option.some Jvm.ClassFile.FieldType.int)) ∈ WS := mW 267 (by decide +kernel) rfl
theorem q_268 : (Jvm.Cond.instantiable "ChairFront$Stretch" (7 : Nat)) ∈ WS := mW 268 (by decide +kernel) rfl
theorem q_270 : (Jvm.Cond.instanceMethod ({ cls := "ChairFront$Stretch", name := "<init>", desc := "()V" } : Jvm.MethodName)) ∈ WS := mW 270 (by decide +kernel) rfl
theorem q_271 : (Jvm.Cond.code ({ cls := "ChairFront$Stretch", name := "<init>", desc := "()V" } : Jvm.MethodName) prog_6_method_1_code (1 : Nat) (Option.none : Option Jvm.ClassFile.FieldType)) ∈ WS := mW 271 (by decide +kernel) rfl
theorem q_272 : (Jvm.Cond.methodLink "ChairFront$Stretch" (1 : Nat) ({ cls := "java/lang/Object", name := "<init>", desc := "()V" } : Jvm.MethodName)) ∈ WS := mW 272 (by decide +kernel) rfl
theorem q_273 : (Jvm.Cond.fieldLink "ChairFront" (82 : Nat) "ChairFront$Stretch" "height" "I") ∈ WS := mW 273 (by decide +kernel) rfl
theorem q_274 : (Jvm.Cond.fieldLink "ChairFront$Asks" (49 : Nat) "ChairFront$Stretch" "height" "I") ∈ WS := mW 274 (by decide +kernel) rfl
theorem q_275 : (Jvm.Cond.fieldLink "ChairFront" (85 : Nat) "ChairFront$Stretch" "zone" "I") ∈ WS := mW 275 (by decide +kernel) rfl
theorem q_276 : (Jvm.Cond.fieldLink "ChairFront$Asks" (52 : Nat) "ChairFront$Stretch" "zone" "I") ∈ WS := mW 276 (by decide +kernel) rfl
theorem q_277 : (Jvm.Cond.fieldLink "ChairFront$Stretch" (7 : Nat) "ChairFront$Stretch" "standing" "I") ∈ WS := mW 277 (by decide +kernel) rfl
theorem q_278 : (Jvm.Cond.fieldLink "ChairFront$Asks" (45 : Nat) "ChairFront$Stretch" "standing" "I") ∈ WS := mW 278 (by decide +kernel) rfl
theorem q_279 : (Jvm.Cond.fieldLink "ChairFront" (103 : Nat) "ChairFront$Stretch" "standing" "I") ∈ WS := mW 279 (by decide +kernel) rfl
theorem q_280 : (Jvm.Cond.fieldLink "ChairFront$Stretch" (13 : Nat) "ChairFront$Stretch" "hired" "I") ∈ WS := mW 280 (by decide +kernel) rfl
theorem q_281 : (Jvm.Cond.fieldLink "ChairFront" (126 : Nat) "ChairFront$Stretch" "hired" "I") ∈ WS := mW 281 (by decide +kernel) rfl
theorem q_282 : (Jvm.Cond.fieldLink "ChairFront" (110 : Nat) "ChairFront$Stretch" "wear" "I") ∈ WS := mW 282 (by decide +kernel) rfl
theorem q_283 : (Jvm.Cond.fieldLink "ChairFront$Stretch" (20 : Nat) "ChairFront$Stretch" "unpaid" "I") ∈ WS := mW 283 (by decide +kernel) rfl
theorem q_284 : (Jvm.Cond.fieldLink "ChairFront" (113 : Nat) "ChairFront$Stretch" "unpaid" "I") ∈ WS := mW 284 (by decide +kernel) rfl
theorem q_285 : (Jvm.Cond.fieldLink "ChairFront$Asks" (55 : Nat) "ChairFront$Stretch" "unpaid" "I") ∈ WS := mW 285 (by decide +kernel) rfl
theorem q_286 : (Jvm.Cond.fieldLink "ChairFront$Stretch" (26 : Nat) "ChairFront$Stretch" "going" "I") ∈ WS := mW 286 (by decide +kernel) rfl
theorem q_287 : (Jvm.Cond.fieldLink "ChairFront" (230 : Nat) "ChairFront$Stretch" "going" "I") ∈ WS := mW 287 (by decide +kernel) rfl
theorem q_303 : (Jvm.Cond.fieldLink "ChairFront" (69 : Nat) "ChairFront" "stack" "I") ∈ WS := mW 303 (by decide +kernel) rfl
theorem q_304 : (Jvm.Cond.fieldLink "ChairFront" (272 : Nat) "ChairFront" "lost" "I") ∈ WS := mW 304 (by decide +kernel) rfl
theorem q_305 : (Jvm.Cond.fieldLink "ChairFront" (116 : Nat) "ChairFront" "broken" "I") ∈ WS := mW 305 (by decide +kernel) rfl
theorem q_306 : (Jvm.Cond.fieldLink "ChairFront" (7 : Nat) "ChairFront" "price" "I") ∈ WS := mW 306 (by decide +kernel) rfl
theorem q_307 : (Jvm.Cond.fieldLink "ChairFront" (13 : Nat) "ChairFront" "stop" "I") ∈ WS := mW 307 (by decide +kernel) rfl
theorem q_308 : (Jvm.Cond.fieldLink "ChairFront" (161 : Nat) "ChairFront" "hoursGone" "I") ∈ WS := mW 308 (by decide +kernel) rfl
theorem q_309 : (Jvm.Cond.fieldLink "ChairFront" (119 : Nat) "ChairFront" "latestWind" "I") ∈ WS := mW 309 (by decide +kernel) rfl
theorem q_310 : (Jvm.Cond.fieldLink "ChairFront" (78 : Nat) "ChairFront" "stretchCount" "I") ∈ WS := mW 310 (by decide +kernel) rfl
theorem q_311 : (Jvm.Cond.fieldLink "ChairFront" (18 : Nat) "ChairFront" "stretches" "[LChairFront$Stretch;") ∈ WS := mW 311 (by decide +kernel) rfl
theorem q_312 : (Jvm.Cond.fieldLink "ChairFront" (25 : Nat) "ChairFront" "book" "LChairFront$TicketBook;") ∈ WS := mW 312 (by decide +kernel) rfl
theorem q_313 : (Jvm.Cond.fieldLink "ChairFront" (32 : Nat) "ChairFront" "reader" "LChairFront$Reader;") ∈ WS := mW 313 (by decide +kernel) rfl
theorem q_314 : (Jvm.Cond.fieldLink "ChairFront" (39 : Nat) "ChairFront" "current" "LChairFront$Rules;") ∈ WS := mW 314 (by decide +kernel) rfl
theorem q_315 : (Jvm.Cond.fieldLink "ChairFront" (43 : Nat) "ChairFront" "draft" "LChairFront$Rules;") ∈ WS := mW 315 (by decide +kernel) rfl
theorem q_316 : (Jvm.Cond.fieldLink "ChairFront" (212 : Nat) "ChairFront" "latestFault" "I") ∈ WS := mW 316 (by decide +kernel) rfl
theorem q_317 : (Jvm.Cond.fieldLink "ChairFront" (49 : Nat) "ChairFront" "bestWalk" "LChairFront$BestWalk;") ∈ WS := mW 317 (by decide +kernel) rfl
theorem q_318 : (Jvm.Cond.fieldLink "ChairFront" (56 : Nat) "ChairFront" "asks" "LChairFront$Asks;") ∈ WS := mW 318 (by decide +kernel) rfl
theorem q_352 : (Jvm.Cond.methodLink "ChairFrontLaw" (21 : Nat) ({ cls := "ChairFront", name := "stretch", desc := "(II)I" } : Jvm.MethodName)) ∈ WS := mW 352 (by decide +kernel) rfl
theorem q_353 : (Jvm.Cond.instanceMethod ({ cls := "ChairFront", name := "stretch", desc := "(II)I" } : Jvm.MethodName)) ∈ WS := mW 353 (by decide +kernel) rfl
theorem q_354 : (Jvm.Cond.selects "ChairFront" ({ cls := "ChairFront", name := "stretch", desc := "(II)I" } : Jvm.MethodName) ({ cls := "ChairFront", name := "stretch", desc := "(II)I" } : Jvm.MethodName)) ∈ WS := mW 354 (by decide +kernel) rfl
theorem q_355 : (Jvm.Cond.code ({ cls := "ChairFront", name := "stretch", desc := "(II)I" } : Jvm.MethodName) prog_1_method_2_code (4 : Nat) (Option.some Jvm.ClassFile.FieldType.int)) ∈ WS := mW 355 (by decide +kernel) rfl
theorem q_356 : (Jvm.Cond.methodLink "ChairFront" (73 : Nat) ({ cls := "ChairFront", name := "within", desc := "(III)Z" } : Jvm.MethodName)) ∈ WS := mW 356 (by decide +kernel) rfl
theorem q_357 : (Jvm.Cond.static ({ cls := "ChairFront", name := "within", desc := "(III)Z" } : Jvm.MethodName)) ∈ WS := mW 357 (by decide +kernel) rfl
theorem q_358 : (Jvm.Cond.code ({ cls := "ChairFront", name := "within", desc := "(III)Z" } : Jvm.MethodName) prog_1_method_22_code (3 : Nat) (Option.some Jvm.ClassFile.FieldType.boolean)) ∈ WS := mW 358 (by decide +kernel) rfl
theorem q_359 : (Jvm.Cond.constant "ChairFront" (77 : Nat) (-1000001 : Int32)) ∈ WS := mW 359 (by decide +kernel) rfl
theorem q_360 : (Jvm.Cond.constant "ChairFront" (81 : Nat) (-1000003 : Int32)) ∈ WS := mW 360 (by decide +kernel) rfl
theorem q_361 : (Jvm.Cond.methodLink "ChairFrontLaw" (26 : Nat) ({ cls := "ChairFront", name := "carry", desc := "(III)I" } : Jvm.MethodName)) ∈ WS := mW 361 (by decide +kernel) rfl
theorem q_362 : (Jvm.Cond.instanceMethod ({ cls := "ChairFront", name := "carry", desc := "(III)I" } : Jvm.MethodName)) ∈ WS := mW 362 (by decide +kernel) rfl
theorem q_363 : (Jvm.Cond.selects "ChairFront" ({ cls := "ChairFront", name := "carry", desc := "(III)I" } : Jvm.MethodName) ({ cls := "ChairFront", name := "carry", desc := "(III)I" } : Jvm.MethodName)) ∈ WS := mW 363 (by decide +kernel) rfl
theorem q_364 : (Jvm.Cond.code ({ cls := "ChairFront", name := "carry", desc := "(III)I" } : Jvm.MethodName) prog_1_method_3_code (4 : Nat) (Option.some Jvm.ClassFile.FieldType.int)) ∈ WS := mW 364 (by decide +kernel) rfl
theorem q_365 : (Jvm.Cond.methodLink "ChairFront" (88 : Nat) ({ cls := "ChairFront", name := "isPlace", desc := "(I)Z" } : Jvm.MethodName)) ∈ WS := mW 365 (by decide +kernel) rfl
theorem q_367 : (Jvm.Cond.instanceMethod ({ cls := "ChairFront", name := "isPlace", desc := "(I)Z" } : Jvm.MethodName)) ∈ WS := mW 367 (by decide +kernel) rfl
theorem q_368 : (Jvm.Cond.code ({ cls := "ChairFront", name := "isPlace", desc := "(I)Z" } : Jvm.MethodName) prog_1_method_24_code (2 : Nat) (Option.some Jvm.ClassFile.FieldType.boolean)) ∈ WS := mW 368 (by decide +kernel) rfl
theorem q_369 : (Jvm.Cond.constant "ChairFront" (222 : Nat) (-1000000 : Int32)) ∈ WS := mW 369 (by decide +kernel) rfl
theorem q_370 : (Jvm.Cond.methodLink "ChairFront" (100 : Nat) ({ cls := "ChairFront", name := "isStretch", desc := "(I)Z" } : Jvm.MethodName)) ∈ WS := mW 370 (by decide +kernel) rfl
theorem q_372 : (Jvm.Cond.instanceMethod ({ cls := "ChairFront", name := "isStretch", desc := "(I)Z" } : Jvm.MethodName)) ∈ WS := mW 372 (by decide +kernel) rfl
theorem q_373 : (Jvm.Cond.code ({ cls := "ChairFront", name := "isStretch", desc := "(I)Z" } : Jvm.MethodName) prog_1_method_23_code (2 : Nat) (Option.some Jvm.ClassFile.FieldType.boolean)) ∈ WS := mW 373 (by decide +kernel) rfl
theorem q_374 : (Jvm.Cond.methodLink "ChairFront" (92 : Nat) ({ cls := "ChairFront", name := "chairsToTake", desc := "(I)I" } : Jvm.MethodName)) ∈ WS := mW 374 (by decide +kernel) rfl
theorem q_376 : (Jvm.Cond.instanceMethod ({ cls := "ChairFront", name := "chairsToTake", desc := "(I)I" } : Jvm.MethodName)) ∈ WS := mW 376 (by decide +kernel) rfl
theorem q_377 : (Jvm.Cond.code ({ cls := "ChairFront", name := "chairsToTake", desc := "(I)I" } : Jvm.MethodName) prog_1_method_25_code (2 : Nat) (Option.some Jvm.ClassFile.FieldType.int)) ∈ WS := mW 377 (by decide +kernel) rfl
theorem q_378 : (Jvm.Cond.methodLink "ChairFront" (106 : Nat) ({ cls := "ChairFront$Stretch", name := "free", desc := "()I" } : Jvm.MethodName)) ∈ WS := mW 378 (by decide +kernel) rfl
theorem q_379 : (Jvm.Cond.instanceMethod ({ cls := "ChairFront$Stretch", name := "free", desc := "()I" } : Jvm.MethodName)) ∈ WS := mW 379 (by decide +kernel) rfl
theorem q_380 : (Jvm.Cond.selects "ChairFront$Stretch" ({ cls := "ChairFront$Stretch", name := "free", desc := "()I" } : Jvm.MethodName) ({ cls := "ChairFront$Stretch", name := "free", desc := "()I" } : Jvm.MethodName)) ∈ WS := mW 380 (by decide +kernel) rfl
theorem q_381 : (Jvm.Cond.code ({ cls := "ChairFront$Stretch", name := "free", desc := "()I" } : Jvm.MethodName) prog_6_method_2_code (1 : Nat) (Option.some Jvm.ClassFile.FieldType.int)) ∈ WS := mW 381 (by decide +kernel) rfl
theorem q_382 : (Jvm.Cond.constant "ChairFront" (96 : Nat) (-1000002 : Int32)) ∈ WS := mW 382 (by decide +kernel) rfl
theorem q_383 : (Jvm.Cond.methodLink "ChairFront" (97 : Nat) ({ cls := "ChairFront", name := "addChairs", desc := "(II)I" } : Jvm.MethodName)) ∈ WS := mW 383 (by decide +kernel) rfl
theorem q_385 : (Jvm.Cond.instanceMethod ({ cls := "ChairFront", name := "addChairs", desc := "(II)I" } : Jvm.MethodName)) ∈ WS := mW 385 (by decide +kernel) rfl
theorem q_386 : (Jvm.Cond.code ({ cls := "ChairFront", name := "addChairs", desc := "(II)I" } : Jvm.MethodName) prog_1_method_26_code (3 : Nat) (Option.some Jvm.ClassFile.FieldType.int)) ∈ WS := mW 386 (by decide +kernel) rfl
theorem q_387 : (Jvm.Cond.methodLink "ChairFrontLaw" (31 : Nat) ({ cls := "ChairFront", name := "told", desc := "(II)I" } : Jvm.MethodName)) ∈ WS := mW 387 (by decide +kernel) rfl
theorem q_388 : (Jvm.Cond.instanceMethod ({ cls := "ChairFront", name := "told", desc := "(II)I" } : Jvm.MethodName)) ∈ WS := mW 388 (by decide +kernel) rfl
theorem q_389 : (Jvm.Cond.selects "ChairFront" ({ cls := "ChairFront", name := "told", desc := "(II)I" } : Jvm.MethodName) ({ cls := "ChairFront", name := "told", desc := "(II)I" } : Jvm.MethodName)) ∈ WS := mW 389 (by decide +kernel) rfl
theorem q_390 : (Jvm.Cond.code ({ cls := "ChairFront", name := "told", desc := "(II)I" } : Jvm.MethodName) prog_1_method_4_code (4 : Nat) (Option.some Jvm.ClassFile.FieldType.int)) ∈ WS := mW 390 (by decide +kernel) rfl
theorem q_391 : (Jvm.Cond.methodLink "ChairFrontLaw" (35 : Nat) ({ cls := "ChairFront", name := "rule", desc := "(II)I" } : Jvm.MethodName)) ∈ WS := mW 391 (by decide +kernel) rfl
theorem q_392 : (Jvm.Cond.instanceMethod ({ cls := "ChairFront", name := "rule", desc := "(II)I" } : Jvm.MethodName)) ∈ WS := mW 392 (by decide +kernel) rfl
theorem q_393 : (Jvm.Cond.selects "ChairFront" ({ cls := "ChairFront", name := "rule", desc := "(II)I" } : Jvm.MethodName) ({ cls := "ChairFront", name := "rule", desc := "(II)I" } : Jvm.MethodName)) ∈ WS := mW 393 (by decide +kernel) rfl
theorem q_394 : (Jvm.Cond.code ({ cls := "ChairFront", name := "rule", desc := "(II)I" } : Jvm.MethodName) prog_1_method_5_code (4 : Nat) (Option.some Jvm.ClassFile.FieldType.int)) ∈ WS := mW 394 (by decide +kernel) rfl
theorem q_395 : (Jvm.Cond.methodLink "ChairFrontLaw" (39 : Nat) ({ cls := "ChairFront", name := "mend", desc := "(I)I" } : Jvm.MethodName)) ∈ WS := mW 395 (by decide +kernel) rfl
theorem q_396 : (Jvm.Cond.instanceMethod ({ cls := "ChairFront", name := "mend", desc := "(I)I" } : Jvm.MethodName)) ∈ WS := mW 396 (by decide +kernel) rfl
theorem q_397 : (Jvm.Cond.selects "ChairFront" ({ cls := "ChairFront", name := "mend", desc := "(I)I" } : Jvm.MethodName) ({ cls := "ChairFront", name := "mend", desc := "(I)I" } : Jvm.MethodName)) ∈ WS := mW 397 (by decide +kernel) rfl
theorem q_398 : (Jvm.Cond.code ({ cls := "ChairFront", name := "mend", desc := "(I)I" } : Jvm.MethodName) prog_1_method_6_code (2 : Nat) (Option.some Jvm.ClassFile.FieldType.int)) ∈ WS := mW 398 (by decide +kernel) rfl
theorem q_399 : (Jvm.Cond.methodLink "ChairFrontLaw" (44 : Nat) ({ cls := "ChairFront", name := "hire", desc := "(III)I" } : Jvm.MethodName)) ∈ WS := mW 399 (by decide +kernel) rfl
theorem q_400 : (Jvm.Cond.instanceMethod ({ cls := "ChairFront", name := "hire", desc := "(III)I" } : Jvm.MethodName)) ∈ WS := mW 400 (by decide +kernel) rfl
theorem q_401 : (Jvm.Cond.selects "ChairFront" ({ cls := "ChairFront", name := "hire", desc := "(III)I" } : Jvm.MethodName) ({ cls := "ChairFront", name := "hire", desc := "(III)I" } : Jvm.MethodName)) ∈ WS := mW 401 (by decide +kernel) rfl
theorem q_402 : (Jvm.Cond.code ({ cls := "ChairFront", name := "hire", desc := "(III)I" } : Jvm.MethodName) prog_1_method_7_code (6 : Nat) (Option.some Jvm.ClassFile.FieldType.int)) ∈ WS := mW 402 (by decide +kernel) rfl
theorem q_403 : (Jvm.Cond.methodLink "ChairFront" (122 : Nat) ({ cls := "ChairFront$TicketBook", name := "isFull", desc := "()Z" } : Jvm.MethodName)) ∈ WS := mW 403 (by decide +kernel) rfl
theorem q_404 : (Jvm.Cond.instanceMethod ({ cls := "ChairFront$TicketBook", name := "isFull", desc := "()Z" } : Jvm.MethodName)) ∈ WS := mW 404 (by decide +kernel) rfl
theorem q_405 : (Jvm.Cond.selects "ChairFront$TicketBook" ({ cls := "ChairFront$TicketBook", name := "isFull", desc := "()Z" } : Jvm.MethodName) ({ cls := "ChairFront$TicketBook", name := "isFull", desc := "()Z" } : Jvm.MethodName)) ∈ WS := mW 405 (by decide +kernel) rfl
theorem q_406 : (Jvm.Cond.code ({ cls := "ChairFront$TicketBook", name := "isFull", desc := "()Z" } : Jvm.MethodName) prog_9_method_2_code (1 : Nat) (Option.some Jvm.ClassFile.FieldType.boolean)) ∈ WS := mW 406 (by decide +kernel) rfl
theorem q_407 : (Jvm.Cond.methodLink "ChairFront" (129 : Nat) ({ cls := "ChairFront$TicketBook", name := "open", desc := "()LChairFront$Ticket;" } : Jvm.MethodName)) ∈ WS := mW 407 (by decide +kernel) rfl
theorem q_408 : (Jvm.Cond.instanceMethod ({ cls := "ChairFront$TicketBook", name := "open", desc := "()LChairFront$Ticket;" } : Jvm.MethodName)) ∈ WS := mW 408 (by decide +kernel) rfl
theorem q_409 : (Jvm.Cond.selects "ChairFront$TicketBook" ({ cls := "ChairFront$TicketBook", name := "open", desc := "()LChairFront$Ticket;" } : Jvm.MethodName) ({ cls := "ChairFront$TicketBook", name := "open", desc := "()LChairFront$Ticket;" } : Jvm.MethodName)) ∈ WS := mW 409 (by decide +kernel) rfl
theorem q_410 : (Jvm.Cond.code ({ cls := "ChairFront$TicketBook", name := "open", desc := "()LChairFront$Ticket;" } : Jvm.MethodName) prog_9_method_3_code (2 : Nat) (Option.some (Jvm.ClassFile.FieldType.object "ChairFront$Ticket"))) ∈ WS := mW 410 (by decide +kernel) rfl
theorem q_411 : (Jvm.Cond.methodLink "ChairFrontLaw" (48 : Nat) ({ cls := "ChairFront", name := "shift", desc := "(II)I" } : Jvm.MethodName)) ∈ WS := mW 411 (by decide +kernel) rfl
theorem q_412 : (Jvm.Cond.instanceMethod ({ cls := "ChairFront", name := "shift", desc := "(II)I" } : Jvm.MethodName)) ∈ WS := mW 412 (by decide +kernel) rfl
theorem q_413 : (Jvm.Cond.selects "ChairFront" ({ cls := "ChairFront", name := "shift", desc := "(II)I" } : Jvm.MethodName) ({ cls := "ChairFront", name := "shift", desc := "(II)I" } : Jvm.MethodName)) ∈ WS := mW 413 (by decide +kernel) rfl
theorem q_414 : (Jvm.Cond.code ({ cls := "ChairFront", name := "shift", desc := "(II)I" } : Jvm.MethodName) prog_1_method_8_code (5 : Nat) (Option.some Jvm.ClassFile.FieldType.int)) ∈ WS := mW 414 (by decide +kernel) rfl
theorem q_415 : (Jvm.Cond.methodLink "ChairFront" (153 : Nat) ({ cls := "ChairFront$TicketBook", name := "find", desc := "(I)LChairFront$Ticket;" } : Jvm.MethodName)) ∈ WS := mW 415 (by decide +kernel) rfl
theorem q_416 : (Jvm.Cond.instanceMethod ({ cls := "ChairFront$TicketBook", name := "find", desc := "(I)LChairFront$Ticket;" } : Jvm.MethodName)) ∈ WS := mW 416 (by decide +kernel) rfl
theorem q_417 : (Jvm.Cond.selects "ChairFront$TicketBook" ({ cls := "ChairFront$TicketBook", name := "find", desc := "(I)LChairFront$Ticket;" } : Jvm.MethodName) ({ cls := "ChairFront$TicketBook", name := "find", desc := "(I)LChairFront$Ticket;" } : Jvm.MethodName)) ∈ WS := mW 417 (by decide +kernel) rfl
theorem q_418 : (Jvm.Cond.code ({ cls := "ChairFront$TicketBook", name := "find", desc := "(I)LChairFront$Ticket;" } : Jvm.MethodName) prog_9_method_4_code (3 : Nat) (Option.some (Jvm.ClassFile.FieldType.object "ChairFront$Ticket"))) ∈ WS := mW 418 (by decide +kernel) rfl
theorem q_419 : (Jvm.Cond.methodLink "ChairFront" (157 : Nat) ({ cls := "ChairFront$Rules", name := "holdsIn", desc := "(II)Z" } : Jvm.MethodName)) ∈ WS := mW 419 (by decide +kernel) rfl
theorem q_420 : (Jvm.Cond.instanceMethod ({ cls := "ChairFront$Rules", name := "holdsIn", desc := "(II)Z" } : Jvm.MethodName)) ∈ WS := mW 420 (by decide +kernel) rfl
theorem q_421 : (Jvm.Cond.selects "ChairFront$Rules" ({ cls := "ChairFront$Rules", name := "holdsIn", desc := "(II)Z" } : Jvm.MethodName) ({ cls := "ChairFront$Rules", name := "holdsIn", desc := "(II)Z" } : Jvm.MethodName)) ∈ WS := mW 421 (by decide +kernel) rfl
theorem q_422 : (Jvm.Cond.code ({ cls := "ChairFront$Rules", name := "holdsIn", desc := "(II)Z" } : Jvm.MethodName) prog_5_method_3_code (3 : Nat) (Option.some Jvm.ClassFile.FieldType.boolean)) ∈ WS := mW 422 (by decide +kernel) rfl
theorem q_423 : (Jvm.Cond.methodLink "ChairFrontLaw" (52 : Nat) ({ cls := "ChairFront", name := "ticket", desc := "(II)I" } : Jvm.MethodName)) ∈ WS := mW 423 (by decide +kernel) rfl
theorem q_424 : (Jvm.Cond.instanceMethod ({ cls := "ChairFront", name := "ticket", desc := "(II)I" } : Jvm.MethodName)) ∈ WS := mW 424 (by decide +kernel) rfl
theorem q_425 : (Jvm.Cond.selects "ChairFront" ({ cls := "ChairFront", name := "ticket", desc := "(II)I" } : Jvm.MethodName) ({ cls := "ChairFront", name := "ticket", desc := "(II)I" } : Jvm.MethodName)) ∈ WS := mW 425 (by decide +kernel) rfl
theorem q_426 : (Jvm.Cond.code ({ cls := "ChairFront", name := "ticket", desc := "(II)I" } : Jvm.MethodName) prog_1_method_9_code (4 : Nat) (Option.some Jvm.ClassFile.FieldType.int)) ∈ WS := mW 426 (by decide +kernel) rfl
theorem q_427 : (Jvm.Cond.methodLink "ChairFrontLaw" (56 : Nat) ({ cls := "ChairFront", name := "hour", desc := "(IIII)I" } : Jvm.MethodName)) ∈ WS := mW 427 (by decide +kernel) rfl
theorem q_428 : (Jvm.Cond.instanceMethod ({ cls := "ChairFront", name := "hour", desc := "(IIII)I" } : Jvm.MethodName)) ∈ WS := mW 428 (by decide +kernel) rfl
theorem q_429 : (Jvm.Cond.selects "ChairFront" ({ cls := "ChairFront", name := "hour", desc := "(IIII)I" } : Jvm.MethodName) ({ cls := "ChairFront", name := "hour", desc := "(IIII)I" } : Jvm.MethodName)) ∈ WS := mW 429 (by decide +kernel) rfl
theorem q_430 : (Jvm.Cond.code ({ cls := "ChairFront", name := "hour", desc := "(IIII)I" } : Jvm.MethodName) prog_1_method_10_code (5 : Nat) (Option.some Jvm.ClassFile.FieldType.int)) ∈ WS := mW 430 (by decide +kernel) rfl
theorem q_431 : (Jvm.Cond.methodLink "ChairFront" (164 : Nat) ({ cls := "ChairFront", name := "takeByTide", desc := "(I)V" } : Jvm.MethodName)) ∈ WS := mW 431 (by decide +kernel) rfl
theorem q_433 : (Jvm.Cond.instanceMethod ({ cls := "ChairFront", name := "takeByTide", desc := "(I)V" } : Jvm.MethodName)) ∈ WS := mW 433 (by decide +kernel) rfl
theorem q_434 : (Jvm.Cond.code ({ cls := "ChairFront", name := "takeByTide", desc := "(I)V" } : Jvm.MethodName) prog_1_method_28_code (4 : Nat) (Option.none : Option Jvm.ClassFile.FieldType)) ∈ WS := mW 434 (by decide +kernel) rfl
theorem q_435 : (Jvm.Cond.methodLink "ChairFront" (282 : Nat) ({ cls := "ChairFront", name := "endTicket", desc := "(LChairFront$Ticket;)V" } : Jvm.MethodName)) ∈ WS := mW 435 (by decide +kernel) rfl
theorem q_437 : (Jvm.Cond.instanceMethod ({ cls := "ChairFront", name := "endTicket", desc := "(LChairFront$Ticket;)V" } : Jvm.MethodName)) ∈ WS := mW 437 (by decide +kernel) rfl
theorem q_438 : (Jvm.Cond.code ({ cls := "ChairFront", name := "endTicket", desc := "(LChairFront$Ticket;)V" } : Jvm.MethodName) prog_1_method_34_code (2 : Nat) (Option.none : Option Jvm.ClassFile.FieldType)) ∈ WS := mW 438 (by decide +kernel) rfl
theorem q_439 : (Jvm.Cond.methodLink "ChairFront" (168 : Nat) ({ cls := "ChairFront", name := "endAllByWind", desc := "()V" } : Jvm.MethodName)) ∈ WS := mW 439 (by decide +kernel) rfl
theorem q_441 : (Jvm.Cond.instanceMethod ({ cls := "ChairFront", name := "endAllByWind", desc := "()V" } : Jvm.MethodName)) ∈ WS := mW 441 (by decide +kernel) rfl
theorem q_442 : (Jvm.Cond.code ({ cls := "ChairFront", name := "endAllByWind", desc := "()V" } : Jvm.MethodName) prog_1_method_29_code (3 : Nat) (Option.none : Option Jvm.ClassFile.FieldType)) ∈ WS := mW 442 (by decide +kernel) rfl
theorem q_443 : (Jvm.Cond.methodLink "ChairFront" (171 : Nat) ({ cls := "ChairFront", name := "payBackRain", desc := "(I)V" } : Jvm.MethodName)) ∈ WS := mW 443 (by decide +kernel) rfl
theorem q_445 : (Jvm.Cond.instanceMethod ({ cls := "ChairFront", name := "payBackRain", desc := "(I)V" } : Jvm.MethodName)) ∈ WS := mW 445 (by decide +kernel) rfl
theorem q_446 : (Jvm.Cond.code ({ cls := "ChairFront", name := "payBackRain", desc := "(I)V" } : Jvm.MethodName) prog_1_method_30_code (5 : Nat) (Option.none : Option Jvm.ClassFile.FieldType)) ∈ WS := mW 446 (by decide +kernel) rfl
theorem q_447 : (Jvm.Cond.methodLink "ChairFront" (286 : Nat) ({ cls := "ChairFront$Rules", name := "partOfRain", desc := "(I)I" } : Jvm.MethodName)) ∈ WS := mW 447 (by decide +kernel) rfl
theorem q_448 : (Jvm.Cond.instanceMethod ({ cls := "ChairFront$Rules", name := "partOfRain", desc := "(I)I" } : Jvm.MethodName)) ∈ WS := mW 448 (by decide +kernel) rfl
theorem q_449 : (Jvm.Cond.selects "ChairFront$Rules" ({ cls := "ChairFront$Rules", name := "partOfRain", desc := "(I)I" } : Jvm.MethodName) ({ cls := "ChairFront$Rules", name := "partOfRain", desc := "(I)I" } : Jvm.MethodName)) ∈ WS := mW 449 (by decide +kernel) rfl
theorem q_450 : (Jvm.Cond.code ({ cls := "ChairFront$Rules", name := "partOfRain", desc := "(I)I" } : Jvm.MethodName) prog_5_method_7_code (3 : Nat) (Option.some Jvm.ClassFile.FieldType.int)) ∈ WS := mW 450 (by decide +kernel) rfl
theorem q_451 : (Jvm.Cond.methodLink "ChairFront" (174 : Nat) ({ cls := "ChairFront", name := "wearAll", desc := "(I)V" } : Jvm.MethodName)) ∈ WS := mW 451 (by decide +kernel) rfl
theorem q_453 : (Jvm.Cond.instanceMethod ({ cls := "ChairFront", name := "wearAll", desc := "(I)V" } : Jvm.MethodName)) ∈ WS := mW 453 (by decide +kernel) rfl
theorem q_454 : (Jvm.Cond.code ({ cls := "ChairFront", name := "wearAll", desc := "(I)V" } : Jvm.MethodName) prog_1_method_31_code (6 : Nat) (Option.none : Option Jvm.ClassFile.FieldType)) ∈ WS := mW 454 (by decide +kernel) rfl
theorem q_455 : (Jvm.Cond.methodLink "ChairFront" (289 : Nat) ({ cls := "ChairFront", name := "breakChair", desc := "(I)V" } : Jvm.MethodName)) ∈ WS := mW 455 (by decide +kernel) rfl
theorem q_457 : (Jvm.Cond.instanceMethod ({ cls := "ChairFront", name := "breakChair", desc := "(I)V" } : Jvm.MethodName)) ∈ WS := mW 457 (by decide +kernel) rfl
theorem q_458 : (Jvm.Cond.code ({ cls := "ChairFront", name := "breakChair", desc := "(I)V" } : Jvm.MethodName) prog_1_method_32_code (4 : Nat) (Option.none : Option Jvm.ClassFile.FieldType)) ∈ WS := mW 458 (by decide +kernel) rfl
theorem q_459 : (Jvm.Cond.methodLink "ChairFront" (292 : Nat) ({ cls := "ChairFront$TicketBook", name := "latestAt", desc := "(I)LChairFront$Ticket;" } : Jvm.MethodName)) ∈ WS := mW 459 (by decide +kernel) rfl
theorem q_460 : (Jvm.Cond.instanceMethod ({ cls := "ChairFront$TicketBook", name := "latestAt", desc := "(I)LChairFront$Ticket;" } : Jvm.MethodName)) ∈ WS := mW 460 (by decide +kernel) rfl
theorem q_461 : (Jvm.Cond.selects "ChairFront$TicketBook" ({ cls := "ChairFront$TicketBook", name := "latestAt", desc := "(I)LChairFront$Ticket;" } : Jvm.MethodName) ({ cls := "ChairFront$TicketBook", name := "latestAt", desc := "(I)LChairFront$Ticket;" } : Jvm.MethodName)) ∈ WS := mW 461 (by decide +kernel) rfl
theorem q_462 : (Jvm.Cond.code ({ cls := "ChairFront$TicketBook", name := "latestAt", desc := "(I)LChairFront$Ticket;" } : Jvm.MethodName) prog_9_method_5_code (3 : Nat) (Option.some (Jvm.ClassFile.FieldType.object "ChairFront$Ticket"))) ∈ WS := mW 462 (by decide +kernel) rfl
theorem q_463 : (Jvm.Cond.methodLink "ChairFront" (177 : Nat) ({ cls := "ChairFront", name := "passAnHour", desc := "()V" } : Jvm.MethodName)) ∈ WS := mW 463 (by decide +kernel) rfl
theorem q_465 : (Jvm.Cond.instanceMethod ({ cls := "ChairFront", name := "passAnHour", desc := "()V" } : Jvm.MethodName)) ∈ WS := mW 465 (by decide +kernel) rfl
theorem q_466 : (Jvm.Cond.code ({ cls := "ChairFront", name := "passAnHour", desc := "()V" } : Jvm.MethodName) prog_1_method_33_code (3 : Nat) (Option.none : Option Jvm.ClassFile.FieldType)) ∈ WS := mW 466 (by decide +kernel) rfl
theorem q_467 : (Jvm.Cond.methodLink "ChairFront" (180 : Nat) ({ cls := "ChairFront$TicketBook", name := "dropEnded", desc := "()V" } : Jvm.MethodName)) ∈ WS := mW 467 (by decide +kernel) rfl
theorem q_468 : (Jvm.Cond.instanceMethod ({ cls := "ChairFront$TicketBook", name := "dropEnded", desc := "()V" } : Jvm.MethodName)) ∈ WS := mW 468 (by decide +kernel) rfl
theorem q_469 : (Jvm.Cond.selects "ChairFront$TicketBook" ({ cls := "ChairFront$TicketBook", name := "dropEnded", desc := "()V" } : Jvm.MethodName) ({ cls := "ChairFront$TicketBook", name := "dropEnded", desc := "()V" } : Jvm.MethodName)) ∈ WS := mW 469 (by decide +kernel) rfl
theorem q_470 : (Jvm.Cond.code ({ cls := "ChairFront$TicketBook", name := "dropEnded", desc := "()V" } : Jvm.MethodName) prog_9_method_6_code (4 : Nat) (Option.none : Option Jvm.ClassFile.FieldType)) ∈ WS := mW 470 (by decide +kernel) rfl
theorem q_471 : (Jvm.Cond.methodLink "ChairFrontLaw" (63 : Nat) ({ cls := "ChairFront", name := "feed", desc := "(JI)I" } : Jvm.MethodName)) ∈ WS := mW 471 (by decide +kernel) rfl
theorem q_472 : (Jvm.Cond.instanceMethod ({ cls := "ChairFront", name := "feed", desc := "(JI)I" } : Jvm.MethodName)) ∈ WS := mW 472 (by decide +kernel) rfl
theorem q_473 : (Jvm.Cond.selects "ChairFront" ({ cls := "ChairFront", name := "feed", desc := "(JI)I" } : Jvm.MethodName) ({ cls := "ChairFront", name := "feed", desc := "(JI)I" } : Jvm.MethodName)) ∈ WS := mW 473 (by decide +kernel) rfl
theorem q_474 : (Jvm.Cond.code ({ cls := "ChairFront", name := "feed", desc := "(JI)I" } : Jvm.MethodName) prog_1_method_11_code (4 : Nat) (Option.some Jvm.ClassFile.FieldType.int)) ∈ WS := mW 474 (by decide +kernel) rfl
theorem q_475 : (Jvm.Cond.methodLink "ChairFront" (190 : Nat) ({ cls := "ChairFront$Tape", name := "hasRoomFor", desc := "(I)Z" } : Jvm.MethodName)) ∈ WS := mW 475 (by decide +kernel) rfl
theorem q_476 : (Jvm.Cond.instanceMethod ({ cls := "ChairFront$Tape", name := "hasRoomFor", desc := "(I)Z" } : Jvm.MethodName)) ∈ WS := mW 476 (by decide +kernel) rfl
theorem q_477 : (Jvm.Cond.selects "ChairFront$Tape" ({ cls := "ChairFront$Tape", name := "hasRoomFor", desc := "(I)Z" } : Jvm.MethodName) ({ cls := "ChairFront$Tape", name := "hasRoomFor", desc := "(I)Z" } : Jvm.MethodName)) ∈ WS := mW 477 (by decide +kernel) rfl
theorem q_478 : (Jvm.Cond.code ({ cls := "ChairFront$Tape", name := "hasRoomFor", desc := "(I)Z" } : Jvm.MethodName) prog_7_method_2_code (2 : Nat) (Option.some Jvm.ClassFile.FieldType.boolean)) ∈ WS := mW 478 (by decide +kernel) rfl
theorem q_479 : (Jvm.Cond.methodLink "ChairFront" (195 : Nat) ({ cls := "ChairFront$Tape", name := "append", desc := "(JI)V" } : Jvm.MethodName)) ∈ WS := mW 479 (by decide +kernel) rfl
theorem q_480 : (Jvm.Cond.instanceMethod ({ cls := "ChairFront$Tape", name := "append", desc := "(JI)V" } : Jvm.MethodName)) ∈ WS := mW 480 (by decide +kernel) rfl
theorem q_481 : (Jvm.Cond.selects "ChairFront$Tape" ({ cls := "ChairFront$Tape", name := "append", desc := "(JI)V" } : Jvm.MethodName) ({ cls := "ChairFront$Tape", name := "append", desc := "(JI)V" } : Jvm.MethodName)) ∈ WS := mW 481 (by decide +kernel) rfl
theorem q_482 : (Jvm.Cond.code ({ cls := "ChairFront$Tape", name := "append", desc := "(JI)V" } : Jvm.MethodName) prog_7_method_3_code (5 : Nat) (Option.none : Option Jvm.ClassFile.FieldType)) ∈ WS := mW 482 (by decide +kernel) rfl
theorem q_483 : (Jvm.Cond.methodLink "ChairFrontLaw" (68 : Nat) ({ cls := "ChairFront", name := "rules", desc := "()I" } : Jvm.MethodName)) ∈ WS := mW 483 (by decide +kernel) rfl
theorem q_484 : (Jvm.Cond.instanceMethod ({ cls := "ChairFront", name := "rules", desc := "()I" } : Jvm.MethodName)) ∈ WS := mW 484 (by decide +kernel) rfl
theorem q_485 : (Jvm.Cond.selects "ChairFront" ({ cls := "ChairFront", name := "rules", desc := "()I" } : Jvm.MethodName) ({ cls := "ChairFront", name := "rules", desc := "()I" } : Jvm.MethodName)) ∈ WS := mW 485 (by decide +kernel) rfl
theorem q_486 : (Jvm.Cond.code ({ cls := "ChairFront", name := "rules", desc := "()I" } : Jvm.MethodName) prog_1_method_12_code (3 : Nat) (Option.some Jvm.ClassFile.FieldType.int)) ∈ WS := mW 486 (by decide +kernel) rfl
theorem q_487 : (Jvm.Cond.methodLink "ChairFront" (202 : Nat) ({ cls := "ChairFront$Rules", name := "clear", desc := "()V" } : Jvm.MethodName)) ∈ WS := mW 487 (by decide +kernel) rfl
theorem q_488 : (Jvm.Cond.instanceMethod ({ cls := "ChairFront$Rules", name := "clear", desc := "()V" } : Jvm.MethodName)) ∈ WS := mW 488 (by decide +kernel) rfl
theorem q_489 : (Jvm.Cond.selects "ChairFront$Rules" ({ cls := "ChairFront$Rules", name := "clear", desc := "()V" } : Jvm.MethodName) ({ cls := "ChairFront$Rules", name := "clear", desc := "()V" } : Jvm.MethodName)) ∈ WS := mW 489 (by decide +kernel) rfl
theorem q_490 : (Jvm.Cond.code ({ cls := "ChairFront$Rules", name := "clear", desc := "()V" } : Jvm.MethodName) prog_5_method_2_code (1 : Nat) (Option.none : Option Jvm.ClassFile.FieldType)) ∈ WS := mW 490 (by decide +kernel) rfl
theorem q_491 : (Jvm.Cond.methodLink "ChairFront" (205 : Nat) ({ cls := "ChairFront$Reader", name := "readInto", desc := "(LChairFront$Rules;)Z" } : Jvm.MethodName)) ∈ WS := mW 491 (by decide +kernel) rfl
theorem q_492 : (Jvm.Cond.instanceMethod ({ cls := "ChairFront$Reader", name := "readInto", desc := "(LChairFront$Rules;)Z" } : Jvm.MethodName)) ∈ WS := mW 492 (by decide +kernel) rfl
theorem q_493 : (Jvm.Cond.selects "ChairFront$Reader" ({ cls := "ChairFront$Reader", name := "readInto", desc := "(LChairFront$Rules;)Z" } : Jvm.MethodName) ({ cls := "ChairFront$Reader", name := "readInto", desc := "(LChairFront$Rules;)Z" } : Jvm.MethodName)) ∈ WS := mW 493 (by decide +kernel) rfl
theorem q_494 : (Jvm.Cond.code ({ cls := "ChairFront$Reader", name := "readInto", desc := "(LChairFront$Rules;)Z" } : Jvm.MethodName) prog_4_method_2_code (3 : Nat) (Option.some Jvm.ClassFile.FieldType.boolean)) ∈ WS := mW 494 (by decide +kernel) rfl
theorem q_495 : (Jvm.Cond.methodLink "ChairFront$Reader" (20 : Nat) ({ cls := "ChairFront$Reader", name := "advance", desc := "()V" } : Jvm.MethodName)) ∈ WS := mW 495 (by decide +kernel) rfl
theorem q_497 : (Jvm.Cond.instanceMethod ({ cls := "ChairFront$Reader", name := "advance", desc := "()V" } : Jvm.MethodName)) ∈ WS := mW 497 (by decide +kernel) rfl
theorem q_498 : (Jvm.Cond.code ({ cls := "ChairFront$Reader", name := "advance", desc := "()V" } : Jvm.MethodName) prog_4_method_11_code (2 : Nat) (Option.none : Option Jvm.ClassFile.FieldType)) ∈ WS := mW 498 (by decide +kernel) rfl
theorem q_499 : (Jvm.Cond.methodLink "ChairFront$Reader" (129 : Nat) ({ cls := "ChairFront$Reader", name := "skipBlanks", desc := "()V" } : Jvm.MethodName)) ∈ WS := mW 499 (by decide +kernel) rfl
theorem q_501 : (Jvm.Cond.instanceMethod ({ cls := "ChairFront$Reader", name := "skipBlanks", desc := "()V" } : Jvm.MethodName)) ∈ WS := mW 501 (by decide +kernel) rfl
theorem q_502 : (Jvm.Cond.code ({ cls := "ChairFront$Reader", name := "skipBlanks", desc := "()V" } : Jvm.MethodName) prog_4_method_12_code (1 : Nat) (Option.none : Option Jvm.ClassFile.FieldType)) ∈ WS := mW 502 (by decide +kernel) rfl
theorem q_503 : (Jvm.Cond.methodLink "ChairFront$Reader" (121 : Nat) ({ cls := "ChairFront$Tape", name := "at", desc := "(I)I" } : Jvm.MethodName)) ∈ WS := mW 503 (by decide +kernel) rfl
theorem q_504 : (Jvm.Cond.instanceMethod ({ cls := "ChairFront$Tape", name := "at", desc := "(I)I" } : Jvm.MethodName)) ∈ WS := mW 504 (by decide +kernel) rfl
theorem q_505 : (Jvm.Cond.selects "ChairFront$Tape" ({ cls := "ChairFront$Tape", name := "at", desc := "(I)I" } : Jvm.MethodName) ({ cls := "ChairFront$Tape", name := "at", desc := "(I)I" } : Jvm.MethodName)) ∈ WS := mW 505 (by decide +kernel) rfl
theorem q_506 : (Jvm.Cond.code ({ cls := "ChairFront$Tape", name := "at", desc := "(I)I" } : Jvm.MethodName) prog_7_method_4_code (2 : Nat) (Option.some Jvm.ClassFile.FieldType.int)) ∈ WS := mW 506 (by decide +kernel) rfl
theorem q_507 : (Jvm.Cond.methodLink "ChairFront$Reader" (146 : Nat) ({ cls := "ChairFront$Reader", name := "isBlank", desc := "(I)Z" } : Jvm.MethodName)) ∈ WS := mW 507 (by decide +kernel) rfl
theorem q_508 : (Jvm.Cond.static ({ cls := "ChairFront$Reader", name := "isBlank", desc := "(I)Z" } : Jvm.MethodName)) ∈ WS := mW 508 (by decide +kernel) rfl
theorem q_509 : (Jvm.Cond.code ({ cls := "ChairFront$Reader", name := "isBlank", desc := "(I)Z" } : Jvm.MethodName) prog_4_method_15_code (1 : Nat) (Option.some Jvm.ClassFile.FieldType.boolean)) ∈ WS := mW 509 (by decide +kernel) rfl
theorem q_510 : (Jvm.Cond.methodLink "ChairFront$Reader" (132 : Nat) ({ cls := "ChairFront$Reader", name := "isLetter", desc := "(I)Z" } : Jvm.MethodName)) ∈ WS := mW 510 (by decide +kernel) rfl
theorem q_511 : (Jvm.Cond.static ({ cls := "ChairFront$Reader", name := "isLetter", desc := "(I)Z" } : Jvm.MethodName)) ∈ WS := mW 511 (by decide +kernel) rfl
theorem q_512 : (Jvm.Cond.code ({ cls := "ChairFront$Reader", name := "isLetter", desc := "(I)Z" } : Jvm.MethodName) prog_4_method_16_code (1 : Nat) (Option.some Jvm.ClassFile.FieldType.boolean)) ∈ WS := mW 512 (by decide +kernel) rfl
theorem q_513 : (Jvm.Cond.methodLink "ChairFront$Reader" (135 : Nat) ({ cls := "ChairFront$Reader", name := "passName", desc := "()V" } : Jvm.MethodName)) ∈ WS := mW 513 (by decide +kernel) rfl
theorem q_515 : (Jvm.Cond.instanceMethod ({ cls := "ChairFront$Reader", name := "passName", desc := "()V" } : Jvm.MethodName)) ∈ WS := mW 515 (by decide +kernel) rfl
theorem q_516 : (Jvm.Cond.code ({ cls := "ChairFront$Reader", name := "passName", desc := "()V" } : Jvm.MethodName) prog_4_method_13_code (1 : Nat) (Option.none : Option Jvm.ClassFile.FieldType)) ∈ WS := mW 516 (by decide +kernel) rfl
theorem q_517 : (Jvm.Cond.methodLink "ChairFront$Reader" (138 : Nat) ({ cls := "ChairFront$Reader", name := "isFigure", desc := "(I)Z" } : Jvm.MethodName)) ∈ WS := mW 517 (by decide +kernel) rfl
theorem q_518 : (Jvm.Cond.static ({ cls := "ChairFront$Reader", name := "isFigure", desc := "(I)Z" } : Jvm.MethodName)) ∈ WS := mW 518 (by decide +kernel) rfl
theorem q_519 : (Jvm.Cond.code ({ cls := "ChairFront$Reader", name := "isFigure", desc := "(I)Z" } : Jvm.MethodName) prog_4_method_17_code (1 : Nat) (Option.some Jvm.ClassFile.FieldType.boolean)) ∈ WS := mW 519 (by decide +kernel) rfl
theorem q_520 : (Jvm.Cond.methodLink "ChairFront$Reader" (141 : Nat) ({ cls := "ChairFront$Reader", name := "passNumber", desc := "()V" } : Jvm.MethodName)) ∈ WS := mW 520 (by decide +kernel) rfl
theorem q_522 : (Jvm.Cond.instanceMethod ({ cls := "ChairFront$Reader", name := "passNumber", desc := "()V" } : Jvm.MethodName)) ∈ WS := mW 522 (by decide +kernel) rfl
theorem q_523 : (Jvm.Cond.code ({ cls := "ChairFront$Reader", name := "passNumber", desc := "()V" } : Jvm.MethodName) prog_4_method_14_code (1 : Nat) (Option.none : Option Jvm.ClassFile.FieldType)) ∈ WS := mW 523 (by decide +kernel) rfl
theorem q_524 : (Jvm.Cond.methodLink "ChairFront$Reader" (26 : Nat) ({ cls := "ChairFront$Reader", name := "readLine", desc := "(LChairFront$Rules;)Z" } : Jvm.MethodName)) ∈ WS := mW 524 (by decide +kernel) rfl
theorem q_526 : (Jvm.Cond.instanceMethod ({ cls := "ChairFront$Reader", name := "readLine", desc := "(LChairFront$Rules;)Z" } : Jvm.MethodName)) ∈ WS := mW 526 (by decide +kernel) rfl
theorem q_527 : (Jvm.Cond.code ({ cls := "ChairFront$Reader", name := "readLine", desc := "(LChairFront$Rules;)Z" } : Jvm.MethodName) prog_4_method_3_code (2 : Nat) (Option.some Jvm.ClassFile.FieldType.boolean)) ∈ WS := mW 527 (by decide +kernel) rfl
theorem q_529 : (Jvm.Cond.methodLink "ChairFront$Reader" (41 : Nat) ({ cls := "ChairFront$Reader", name := "isWord", desc := "(Ljava/lang/String;)Z" } : Jvm.MethodName)) ∈ WS := mW 529 (by decide +kernel) rfl
theorem q_531 : (Jvm.Cond.instanceMethod ({ cls := "ChairFront$Reader", name := "isWord", desc := "(Ljava/lang/String;)Z" } : Jvm.MethodName)) ∈ WS := mW 531 (by decide +kernel) rfl
theorem q_532 : (Jvm.Cond.code ({ cls := "ChairFront$Reader", name := "isWord", desc := "(Ljava/lang/String;)Z" } : Jvm.MethodName) prog_4_method_10_code (3 : Nat) (Option.some Jvm.ClassFile.FieldType.boolean)) ∈ WS := mW 532 (by decide +kernel) rfl
theorem q_533 : (Jvm.Cond.methodLink "ChairFront$Reader" (116 : Nat) ({ cls := "java/lang/String", name := "length", desc := "()I" } : Jvm.MethodName)) ∈ WS := mW 533 (by decide +kernel) rfl
theorem q_534 : (Jvm.Cond.instanceMethod ({ cls := "java/lang/String", name := "length", desc := "()I" } : Jvm.MethodName)) ∈ WS := mW 534 (by decide +kernel) rfl
theorem q_535 : (Jvm.Cond.selects "java/lang/String" ({ cls := "java/lang/String", name := "length", desc := "()I" } : Jvm.MethodName) ({ cls := "java/lang/String", name := "length", desc := "()I" } : Jvm.MethodName)) ∈ WS := mW 535 (by decide +kernel) rfl
theorem q_536 : (Jvm.Cond.code ({ cls := "java/lang/String", name := "length", desc := "()I" } : Jvm.MethodName) prog_14_method_54_code (1 : Nat) (Option.some Jvm.ClassFile.FieldType.int)) ∈ WS := mW 536 (by decide +kernel) rfl
theorem q_537 : (Jvm.Cond.methodLink "java/lang/String" (335 : Nat) ({ cls := "java/lang/String", name := "coder", desc := "()B" } : Jvm.MethodName)) ∈ WS := mW 537 (by decide +kernel) rfl
theorem q_538 : (Jvm.Cond.instanceMethod ({ cls := "java/lang/String", name := "coder", desc := "()B" } : Jvm.MethodName)) ∈ WS := mW 538 (by decide +kernel) rfl
theorem q_539 : (Jvm.Cond.selects "java/lang/String" ({ cls := "java/lang/String", name := "coder", desc := "()B" } : Jvm.MethodName) ({ cls := "java/lang/String", name := "coder", desc := "()B" } : Jvm.MethodName)) ∈ WS := mW 539 (by decide +kernel) rfl
theorem q_540 : (Jvm.Cond.code ({ cls := "java/lang/String", name := "coder", desc := "()B" } : Jvm.MethodName) prog_14_method_152_code (1 : Nat) (Option.some Jvm.ClassFile.FieldType.byte)) ∈ WS := mW 540 (by decide +kernel) rfl
theorem q_541 : (Jvm.Cond.fieldLink "java/lang/String" (38 : Nat) "java/lang/String" "COMPACT_STRINGS" "Z") ∈ WS := mW 541 (by decide +kernel) rfl
theorem q_543 : (Jvm.Cond.methodLink "ChairFront$Reader" (125 : Nat) ({ cls := "java/lang/String", name := "charAt", desc := "(I)C" } : Jvm.MethodName)) ∈ WS := mW 543 (by decide +kernel) rfl
theorem q_544 : (Jvm.Cond.instanceMethod ({ cls := "java/lang/String", name := "charAt", desc := "(I)C" } : Jvm.MethodName)) ∈ WS := mW 544 (by decide +kernel) rfl
theorem q_545 : (Jvm.Cond.selects "java/lang/String" ({ cls := "java/lang/String", name := "charAt", desc := "(I)C" } : Jvm.MethodName) ({ cls := "java/lang/String", name := "charAt", desc := "(I)C" } : Jvm.MethodName)) ∈ WS := mW 545 (by decide +kernel) rfl
theorem q_546 : (Jvm.Cond.code ({ cls := "java/lang/String", name := "charAt", desc := "(I)C" } : Jvm.MethodName) prog_14_method_56_code (2 : Nat) (Option.some Jvm.ClassFile.FieldType.char)) ∈ WS := mW 546 (by decide +kernel) rfl
theorem q_547 : (Jvm.Cond.methodLink "java/lang/String" (492 : Nat) ({ cls := "java/lang/String", name := "isLatin1", desc := "()Z" } : Jvm.MethodName)) ∈ WS := mW 547 (by decide +kernel) rfl
theorem q_548 : (Jvm.Cond.instanceMethod ({ cls := "java/lang/String", name := "isLatin1", desc := "()Z" } : Jvm.MethodName)) ∈ WS := mW 548 (by decide +kernel) rfl
theorem q_549 : (Jvm.Cond.selects "java/lang/String" ({ cls := "java/lang/String", name := "isLatin1", desc := "()Z" } : Jvm.MethodName) ({ cls := "java/lang/String", name := "isLatin1", desc := "()Z" } : Jvm.MethodName)) ∈ WS := mW 549 (by decide +kernel) rfl
theorem q_550 : (Jvm.Cond.code ({ cls := "java/lang/String", name := "isLatin1", desc := "()Z" } : Jvm.MethodName) prog_14_method_154_code (1 : Nat) (Option.some Jvm.ClassFile.FieldType.boolean)) ∈ WS := mW 550 (by decide +kernel) rfl
theorem q_551 : (Jvm.Cond.methodLink "java/lang/String" (495 : Nat) ({ cls := "java/lang/StringLatin1", name := "charAt", desc := "([BI)C" } : Jvm.MethodName)) ∈ WS := mW 551 (by decide +kernel) rfl
theorem q_552 : (Jvm.Cond.static ({ cls := "java/lang/StringLatin1", name := "charAt", desc := "([BI)C" } : Jvm.MethodName)) ∈ WS := mW 552 (by decide +kernel) rfl
theorem q_553 : (Jvm.Cond.code ({ cls := "java/lang/StringLatin1", name := "charAt", desc := "([BI)C" } : Jvm.MethodName) prog_15_method_2_code (2 : Nat) (Option.some Jvm.ClassFile.FieldType.char)) ∈ WS := mW 553 (by decide +kernel) rfl
theorem q_554 : (Jvm.Cond.methodLink "java/lang/StringLatin1" (9 : Nat) ({ cls := "java/lang/String", name := "checkIndex", desc := "(II)V" } : Jvm.MethodName)) ∈ WS := mW 554 (by decide +kernel) rfl
theorem q_555 : (Jvm.Cond.static ({ cls := "java/lang/String", name := "checkIndex", desc := "(II)V" } : Jvm.MethodName)) ∈ WS := mW 555 (by decide +kernel) rfl
theorem q_556 : (Jvm.Cond.code ({ cls := "java/lang/String", name := "checkIndex", desc := "(II)V" } : Jvm.MethodName) prog_14_method_155_code (2 : Nat) (Option.none : Option Jvm.ClassFile.FieldType)) ∈ WS := mW 556 (by decide +kernel) rfl
theorem q_557 : (Jvm.Cond.fieldLink "java/lang/String" (1053 : Nat) "jdk/internal/util/Preconditions" "SIOOBE_FORMATTER" "Ljava/util/function/BiFunction;") ∈ WS := mW 557 (by decide +kernel) rfl
theorem q_559 : (Jvm.Cond.methodLink "java/lang/String" (1059 : Nat) ({ cls := "jdk/internal/util/Preconditions", name := "checkIndex", desc := "(IILjava/util/function/BiFunction;)I" } : Jvm.MethodName)) ∈ WS := mW 559 (by decide +kernel) rfl
theorem q_560 : (Jvm.Cond.static ({ cls := "jdk/internal/util/Preconditions", name := "checkIndex", desc := "(IILjava/util/function/BiFunction;)I" } : Jvm.MethodName)) ∈ WS := mW 560 (by decide +kernel) rfl
theorem q_561 : (Jvm.Cond.code ({ cls := "jdk/internal/util/Preconditions", name := "checkIndex", desc := "(IILjava/util/function/BiFunction;)I" } : Jvm.MethodName) prog_17_method_11_code (3 : Nat) (Option.some Jvm.ClassFile.FieldType.int)) ∈ WS := mW 561 (by decide +kernel) rfl
theorem q_562 : (Jvm.Cond.methodLink "java/lang/String" (498 : Nat) ({ cls := "java/lang/StringUTF16", name := "charAt", desc := "([BI)C" } : Jvm.MethodName)) ∈ WS := mW 562 (by decide +kernel) rfl
theorem q_563 : (Jvm.Cond.static ({ cls := "java/lang/StringUTF16", name := "charAt", desc := "([BI)C" } : Jvm.MethodName)) ∈ WS := mW 563 (by decide +kernel) rfl
theorem q_564 : (Jvm.Cond.code ({ cls := "java/lang/StringUTF16", name := "charAt", desc := "([BI)C" } : Jvm.MethodName) prog_16_method_83_code (2 : Nat) (Option.some Jvm.ClassFile.FieldType.char)) ∈ WS := mW 564 (by decide +kernel) rfl
theorem q_565 : (Jvm.Cond.methodLink "java/lang/StringUTF16" (67 : Nat) ({ cls := "java/lang/StringUTF16", name := "checkIndex", desc := "(I[B)V" } : Jvm.MethodName)) ∈ WS := mW 565 (by decide +kernel) rfl
theorem q_566 : (Jvm.Cond.static ({ cls := "java/lang/StringUTF16", name := "checkIndex", desc := "(I[B)V" } : Jvm.MethodName)) ∈ WS := mW 566 (by decide +kernel) rfl
theorem q_567 : (Jvm.Cond.code ({ cls := "java/lang/StringUTF16", name := "checkIndex", desc := "(I[B)V" } : Jvm.MethodName) prog_16_method_91_code (2 : Nat) (Option.none : Option Jvm.ClassFile.FieldType)) ∈ WS := mW 567 (by decide +kernel) rfl
theorem q_568 : (Jvm.Cond.methodLink "java/lang/StringUTF16" (48 : Nat) ({ cls := "java/lang/StringUTF16", name := "length", desc := "([B)I" } : Jvm.MethodName)) ∈ WS := mW 568 (by decide +kernel) rfl
theorem q_569 : (Jvm.Cond.static ({ cls := "java/lang/StringUTF16", name := "length", desc := "([B)I" } : Jvm.MethodName)) ∈ WS := mW 569 (by decide +kernel) rfl
theorem q_570 : (Jvm.Cond.code ({ cls := "java/lang/StringUTF16", name := "length", desc := "([B)I" } : Jvm.MethodName) prog_16_method_6_code (1 : Nat) (Option.some Jvm.ClassFile.FieldType.int)) ∈ WS := mW 570 (by decide +kernel) rfl
theorem q_571 : (Jvm.Cond.methodLink "java/lang/StringUTF16" (414 : Nat) ({ cls := "java/lang/String", name := "checkIndex", desc := "(II)V" } : Jvm.MethodName)) ∈ WS := mW 571 (by decide +kernel) rfl
theorem q_572 : (Jvm.Cond.methodLink "java/lang/StringUTF16" (71 : Nat) ({ cls := "java/lang/StringUTF16", name := "getChar", desc := "([BI)C" } : Jvm.MethodName)) ∈ WS := mW 572 (by decide +kernel) rfl
theorem q_573 : (Jvm.Cond.static ({ cls := "java/lang/StringUTF16", name := "getChar", desc := "([BI)C" } : Jvm.MethodName)) ∈ WS := mW 573 (by decide +kernel) rfl
theorem q_574 : (Jvm.Cond.code ({ cls := "java/lang/StringUTF16", name := "getChar", desc := "([BI)C" } : Jvm.MethodName) prog_16_method_5_code (2 : Nat) (Option.some Jvm.ClassFile.FieldType.char)) ∈ WS := mW 574 (by decide +kernel) rfl
theorem q_575 : (Jvm.Cond.fieldLink "java/lang/StringUTF16" (44 : Nat) "java/lang/StringUTF16" "$assertionsDisabled" "Z") ∈ WS := mW 575 (by decide +kernel) rfl
theorem q_577 : (Jvm.Cond.fieldLink "java/lang/StringUTF16" (59 : Nat) "java/lang/StringUTF16" "HI_BYTE_SHIFT" "I") ∈ WS := mW 577 (by decide +kernel) rfl
theorem q_579 : (Jvm.Cond.fieldLink "java/lang/StringUTF16" (63 : Nat) "java/lang/StringUTF16" "LO_BYTE_SHIFT" "I") ∈ WS := mW 579 (by decide +kernel) rfl
theorem q_581 : (Jvm.Cond.methodLink "ChairFront$Reader" (45 : Nat) ({ cls := "ChairFront$Reader", name := "readHold", desc := "(LChairFront$Rules;)Z" } : Jvm.MethodName)) ∈ WS := mW 581 (by decide +kernel) rfl
theorem q_583 : (Jvm.Cond.instanceMethod ({ cls := "ChairFront$Reader", name := "readHold", desc := "(LChairFront$Rules;)Z" } : Jvm.MethodName)) ∈ WS := mW 583 (by decide +kernel) rfl
theorem q_584 : (Jvm.Cond.code ({ cls := "ChairFront$Reader", name := "readHold", desc := "(LChairFront$Rules;)Z" } : Jvm.MethodName) prog_4_method_4_code (2 : Nat) (Option.some Jvm.ClassFile.FieldType.boolean)) ∈ WS := mW 584 (by decide +kernel) rfl
theorem q_588 : (Jvm.Cond.methodLink "ChairFront$Reader" (30 : Nat) ({ cls := "ChairFront$Reader", name := "refuse", desc := "(I)Z" } : Jvm.MethodName)) ∈ WS := mW 588 (by decide +kernel) rfl
theorem q_590 : (Jvm.Cond.instanceMethod ({ cls := "ChairFront$Reader", name := "refuse", desc := "(I)Z" } : Jvm.MethodName)) ∈ WS := mW 590 (by decide +kernel) rfl
theorem q_591 : (Jvm.Cond.code ({ cls := "ChairFront$Reader", name := "refuse", desc := "(I)Z" } : Jvm.MethodName) prog_4_method_9_code (2 : Nat) (Option.some Jvm.ClassFile.FieldType.boolean)) ∈ WS := mW 591 (by decide +kernel) rfl
theorem q_593 : (Jvm.Cond.methodLink "ChairFront$Reader" (50 : Nat) ({ cls := "ChairFront$Reader", name := "readRain", desc := "(LChairFront$Rules;)Z" } : Jvm.MethodName)) ∈ WS := mW 593 (by decide +kernel) rfl
theorem q_595 : (Jvm.Cond.instanceMethod ({ cls := "ChairFront$Reader", name := "readRain", desc := "(LChairFront$Rules;)Z" } : Jvm.MethodName)) ∈ WS := mW 595 (by decide +kernel) rfl
theorem q_596 : (Jvm.Cond.code ({ cls := "ChairFront$Reader", name := "readRain", desc := "(LChairFront$Rules;)Z" } : Jvm.MethodName) prog_4_method_5_code (2 : Nat) (Option.some Jvm.ClassFile.FieldType.boolean)) ∈ WS := mW 596 (by decide +kernel) rfl
theorem q_597 : (Jvm.Cond.methodLink "ChairFront$Reader" (69 : Nat) ({ cls := "ChairFront$Reader", name := "readPart", desc := "(II)Z" } : Jvm.MethodName)) ∈ WS := mW 597 (by decide +kernel) rfl
theorem q_599 : (Jvm.Cond.instanceMethod ({ cls := "ChairFront$Reader", name := "readPart", desc := "(II)Z" } : Jvm.MethodName)) ∈ WS := mW 599 (by decide +kernel) rfl
theorem q_600 : (Jvm.Cond.code ({ cls := "ChairFront$Reader", name := "readPart", desc := "(II)Z" } : Jvm.MethodName) prog_4_method_7_code (3 : Nat) (Option.some Jvm.ClassFile.FieldType.boolean)) ∈ WS := mW 600 (by decide +kernel) rfl
theorem q_601 : (Jvm.Cond.methodLink "ChairFront$Reader" (94 : Nat) ({ cls := "ChairFront$Reader", name := "standsNumber", desc := "(II)Z" } : Jvm.MethodName)) ∈ WS := mW 601 (by decide +kernel) rfl
theorem q_603 : (Jvm.Cond.instanceMethod ({ cls := "ChairFront$Reader", name := "standsNumber", desc := "(II)Z" } : Jvm.MethodName)) ∈ WS := mW 603 (by decide +kernel) rfl
theorem q_604 : (Jvm.Cond.code ({ cls := "ChairFront$Reader", name := "standsNumber", desc := "(II)Z" } : Jvm.MethodName) prog_4_method_8_code (3 : Nat) (Option.some Jvm.ClassFile.FieldType.boolean)) ∈ WS := mW 604 (by decide +kernel) rfl
theorem q_607 : (Jvm.Cond.methodLink "ChairFront$Reader" (79 : Nat) ({ cls := "ChairFront$Rules", name := "addRain", desc := "(II)V" } : Jvm.MethodName)) ∈ WS := mW 607 (by decide +kernel) rfl
theorem q_608 : (Jvm.Cond.instanceMethod ({ cls := "ChairFront$Rules", name := "addRain", desc := "(II)V" } : Jvm.MethodName)) ∈ WS := mW 608 (by decide +kernel) rfl
theorem q_609 : (Jvm.Cond.selects "ChairFront$Rules" ({ cls := "ChairFront$Rules", name := "addRain", desc := "(II)V" } : Jvm.MethodName) ({ cls := "ChairFront$Rules", name := "addRain", desc := "(II)V" } : Jvm.MethodName)) ∈ WS := mW 609 (by decide +kernel) rfl
theorem q_610 : (Jvm.Cond.code ({ cls := "ChairFront$Rules", name := "addRain", desc := "(II)V" } : Jvm.MethodName) prog_5_method_4_code (3 : Nat) (Option.none : Option Jvm.ClassFile.FieldType)) ∈ WS := mW 610 (by decide +kernel) rfl
theorem q_612 : (Jvm.Cond.methodLink "ChairFront$Reader" (55 : Nat) ({ cls := "ChairFront$Reader", name := "readRent", desc := "(LChairFront$Rules;)Z" } : Jvm.MethodName)) ∈ WS := mW 612 (by decide +kernel) rfl
theorem q_614 : (Jvm.Cond.instanceMethod ({ cls := "ChairFront$Reader", name := "readRent", desc := "(LChairFront$Rules;)Z" } : Jvm.MethodName)) ∈ WS := mW 614 (by decide +kernel) rfl
theorem q_615 : (Jvm.Cond.code ({ cls := "ChairFront$Reader", name := "readRent", desc := "(LChairFront$Rules;)Z" } : Jvm.MethodName) prog_4_method_6_code (2 : Nat) (Option.some Jvm.ClassFile.FieldType.boolean)) ∈ WS := mW 615 (by decide +kernel) rfl
theorem q_616 : (Jvm.Cond.methodLink "ChairFront$Reader" (86 : Nat) ({ cls := "ChairFront$Rules", name := "leastNextEnd", desc := "()I" } : Jvm.MethodName)) ∈ WS := mW 616 (by decide +kernel) rfl
theorem q_617 : (Jvm.Cond.instanceMethod ({ cls := "ChairFront$Rules", name := "leastNextEnd", desc := "()I" } : Jvm.MethodName)) ∈ WS := mW 617 (by decide +kernel) rfl
theorem q_618 : (Jvm.Cond.selects "ChairFront$Rules" ({ cls := "ChairFront$Rules", name := "leastNextEnd", desc := "()I" } : Jvm.MethodName) ({ cls := "ChairFront$Rules", name := "leastNextEnd", desc := "()I" } : Jvm.MethodName)) ∈ WS := mW 618 (by decide +kernel) rfl
theorem q_619 : (Jvm.Cond.code ({ cls := "ChairFront$Rules", name := "leastNextEnd", desc := "()I" } : Jvm.MethodName) prog_5_method_6_code (1 : Nat) (Option.some Jvm.ClassFile.FieldType.int)) ∈ WS := mW 619 (by decide +kernel) rfl
theorem q_620 : (Jvm.Cond.constant "ChairFront$Reader" (90 : Nat) (99999 : Int32)) ∈ WS := mW 620 (by decide +kernel) rfl
theorem q_621 : (Jvm.Cond.methodLink "ChairFront$Reader" (91 : Nat) ({ cls := "ChairFront$Rules", name := "addRent", desc := "(II)V" } : Jvm.MethodName)) ∈ WS := mW 621 (by decide +kernel) rfl
theorem q_622 : (Jvm.Cond.instanceMethod ({ cls := "ChairFront$Rules", name := "addRent", desc := "(II)V" } : Jvm.MethodName)) ∈ WS := mW 622 (by decide +kernel) rfl
theorem q_623 : (Jvm.Cond.selects "ChairFront$Rules" ({ cls := "ChairFront$Rules", name := "addRent", desc := "(II)V" } : Jvm.MethodName) ({ cls := "ChairFront$Rules", name := "addRent", desc := "(II)V" } : Jvm.MethodName)) ∈ WS := mW 623 (by decide +kernel) rfl
theorem q_624 : (Jvm.Cond.code ({ cls := "ChairFront$Rules", name := "addRent", desc := "(II)V" } : Jvm.MethodName) prog_5_method_5_code (3 : Nat) (Option.none : Option Jvm.ClassFile.FieldType)) ∈ WS := mW 624 (by decide +kernel) rfl
theorem q_625 : (Jvm.Cond.constant "ChairFront" (215 : Nat) (-1000100 : Int32)) ∈ WS := mW 625 (by decide +kernel) rfl
theorem q_626 : (Jvm.Cond.methodLink "ChairFrontLaw" (73 : Nat) ({ cls := "ChairFront", name := "fault", desc := "()I" } : Jvm.MethodName)) ∈ WS := mW 626 (by decide +kernel) rfl
theorem q_627 : (Jvm.Cond.instanceMethod ({ cls := "ChairFront", name := "fault", desc := "()I" } : Jvm.MethodName)) ∈ WS := mW 627 (by decide +kernel) rfl
theorem q_628 : (Jvm.Cond.selects "ChairFront" ({ cls := "ChairFront", name := "fault", desc := "()I" } : Jvm.MethodName) ({ cls := "ChairFront", name := "fault", desc := "()I" } : Jvm.MethodName)) ∈ WS := mW 628 (by decide +kernel) rfl
theorem q_629 : (Jvm.Cond.code ({ cls := "ChairFront", name := "fault", desc := "()I" } : Jvm.MethodName) prog_1_method_13_code (1 : Nat) (Option.some Jvm.ClassFile.FieldType.int)) ∈ WS := mW 629 (by decide +kernel) rfl
theorem q_630 : (Jvm.Cond.methodLink "ChairFrontLaw" (77 : Nat) ({ cls := "ChairFront", name := "rent", desc := "(I)I" } : Jvm.MethodName)) ∈ WS := mW 630 (by decide +kernel) rfl
theorem q_631 : (Jvm.Cond.instanceMethod ({ cls := "ChairFront", name := "rent", desc := "(I)I" } : Jvm.MethodName)) ∈ WS := mW 631 (by decide +kernel) rfl
theorem q_632 : (Jvm.Cond.selects "ChairFront" ({ cls := "ChairFront", name := "rent", desc := "(I)I" } : Jvm.MethodName) ({ cls := "ChairFront", name := "rent", desc := "(I)I" } : Jvm.MethodName)) ∈ WS := mW 632 (by decide +kernel) rfl
theorem q_633 : (Jvm.Cond.code ({ cls := "ChairFront", name := "rent", desc := "(I)I" } : Jvm.MethodName) prog_1_method_14_code (2 : Nat) (Option.some Jvm.ClassFile.FieldType.int)) ∈ WS := mW 633 (by decide +kernel) rfl
theorem q_634 : (Jvm.Cond.methodLink "ChairFront" (226 : Nat) ({ cls := "ChairFront$Rules", name := "rentOf", desc := "(I)I" } : Jvm.MethodName)) ∈ WS := mW 634 (by decide +kernel) rfl
theorem q_635 : (Jvm.Cond.instanceMethod ({ cls := "ChairFront$Rules", name := "rentOf", desc := "(I)I" } : Jvm.MethodName)) ∈ WS := mW 635 (by decide +kernel) rfl
theorem q_636 : (Jvm.Cond.selects "ChairFront$Rules" ({ cls := "ChairFront$Rules", name := "rentOf", desc := "(I)I" } : Jvm.MethodName) ({ cls := "ChairFront$Rules", name := "rentOf", desc := "(I)I" } : Jvm.MethodName)) ∈ WS := mW 636 (by decide +kernel) rfl
theorem q_637 : (Jvm.Cond.code ({ cls := "ChairFront$Rules", name := "rentOf", desc := "(I)I" } : Jvm.MethodName) prog_5_method_8_code (6 : Nat) (Option.some Jvm.ClassFile.FieldType.int)) ∈ WS := mW 637 (by decide +kernel) rfl
theorem q_638 : (Jvm.Cond.methodLink "ChairFront$Rules" (35 : Nat) ({ cls := "java/lang/Math", name := "min", desc := "(II)I" } : Jvm.MethodName)) ∈ WS := mW 638 (by decide +kernel) rfl
theorem q_639 : (Jvm.Cond.methodLink "ChairFront$Rules" (41 : Nat) ({ cls := "java/lang/Math", name := "max", desc := "(II)I" } : Jvm.MethodName)) ∈ WS := mW 639 (by decide +kernel) rfl
theorem q_640 : (Jvm.Cond.constant "ChairFront" (229 : Nat) (1000000 : Int32)) ∈ WS := mW 640 (by decide +kernel) rfl
theorem q_641 : (Jvm.Cond.methodLink "ChairFrontLaw" (81 : Nat) ({ cls := "ChairFront", name := "unpaid", desc := "(III)I" } : Jvm.MethodName)) ∈ WS := mW 641 (by decide +kernel) rfl
theorem q_642 : (Jvm.Cond.instanceMethod ({ cls := "ChairFront", name := "unpaid", desc := "(III)I" } : Jvm.MethodName)) ∈ WS := mW 642 (by decide +kernel) rfl
theorem q_643 : (Jvm.Cond.selects "ChairFront" ({ cls := "ChairFront", name := "unpaid", desc := "(III)I" } : Jvm.MethodName) ({ cls := "ChairFront", name := "unpaid", desc := "(III)I" } : Jvm.MethodName)) ∈ WS := mW 643 (by decide +kernel) rfl
theorem q_644 : (Jvm.Cond.code ({ cls := "ChairFront", name := "unpaid", desc := "(III)I" } : Jvm.MethodName) prog_1_method_15_code (4 : Nat) (Option.some Jvm.ClassFile.FieldType.int)) ∈ WS := mW 644 (by decide +kernel) rfl
theorem q_645 : (Jvm.Cond.methodLink "ChairFrontLaw" (85 : Nat) ({ cls := "ChairFront", name := "walk", desc := "(II)I" } : Jvm.MethodName)) ∈ WS := mW 645 (by decide +kernel) rfl
theorem q_646 : (Jvm.Cond.instanceMethod ({ cls := "ChairFront", name := "walk", desc := "(II)I" } : Jvm.MethodName)) ∈ WS := mW 646 (by decide +kernel) rfl
theorem q_647 : (Jvm.Cond.selects "ChairFront" ({ cls := "ChairFront", name := "walk", desc := "(II)I" } : Jvm.MethodName) ({ cls := "ChairFront", name := "walk", desc := "(II)I" } : Jvm.MethodName)) ∈ WS := mW 647 (by decide +kernel) rfl
theorem q_648 : (Jvm.Cond.code ({ cls := "ChairFront", name := "walk", desc := "(II)I" } : Jvm.MethodName) prog_1_method_16_code (3 : Nat) (Option.some Jvm.ClassFile.FieldType.int)) ∈ WS := mW 648 (by decide +kernel) rfl
theorem q_649 : (Jvm.Cond.methodLink "ChairFront" (233 : Nat) ({ cls := "java/lang/Integer", name := "bitCount", desc := "(I)I" } : Jvm.MethodName)) ∈ WS := mW 649 (by decide +kernel) rfl
theorem q_650 : (Jvm.Cond.static ({ cls := "java/lang/Integer", name := "bitCount", desc := "(I)I" } : Jvm.MethodName)) ∈ WS := mW 650 (by decide +kernel) rfl
theorem q_651 : (Jvm.Cond.code ({ cls := "java/lang/Integer", name := "bitCount", desc := "(I)I" } : Jvm.MethodName) prog_12_method_49_code (1 : Nat) (Option.some Jvm.ClassFile.FieldType.int)) ∈ WS := mW 651 (by decide +kernel) rfl
theorem q_652 : (Jvm.Cond.constant "java/lang/Integer" (265 : Nat) (1431655765 : Int32)) ∈ WS := mW 652 (by decide +kernel) rfl
theorem q_653 : (Jvm.Cond.constant "java/lang/Integer" (266 : Nat) (858993459 : Int32)) ∈ WS := mW 653 (by decide +kernel) rfl
theorem q_654 : (Jvm.Cond.constant "java/lang/Integer" (267 : Nat) (252645135 : Int32)) ∈ WS := mW 654 (by decide +kernel) rfl
theorem q_655 : (Jvm.Cond.methodLink "ChairFront" (238 : Nat) ({ cls := "ChairFront$BestWalk", name := "plan", desc := "(I[LChairFront$Stretch;)V" } : Jvm.MethodName)) ∈ WS := mW 655 (by decide +kernel) rfl
theorem q_656 : (Jvm.Cond.instanceMethod ({ cls := "ChairFront$BestWalk", name := "plan", desc := "(I[LChairFront$Stretch;)V" } : Jvm.MethodName)) ∈ WS := mW 656 (by decide +kernel) rfl
theorem q_657 : (Jvm.Cond.selects "ChairFront$BestWalk" ({ cls := "ChairFront$BestWalk", name := "plan", desc := "(I[LChairFront$Stretch;)V" } : Jvm.MethodName) ({ cls := "ChairFront$BestWalk", name := "plan", desc := "(I[LChairFront$Stretch;)V" } : Jvm.MethodName)) ∈ WS := mW 657 (by decide +kernel) rfl
theorem q_658 : (Jvm.Cond.code ({ cls := "ChairFront$BestWalk", name := "plan", desc := "(I[LChairFront$Stretch;)V" } : Jvm.MethodName) prog_3_method_2_code (5 : Nat) (Option.none : Option Jvm.ClassFile.FieldType)) ∈ WS := mW 658 (by decide +kernel) rfl
theorem q_659 : (Jvm.Cond.methodLink "ChairFront$BestWalk" (25 : Nat) ({ cls := "ChairFront$BestWalk", name := "addStop", desc := "(ILChairFront$Stretch;)V" } : Jvm.MethodName)) ∈ WS := mW 659 (by decide +kernel) rfl
theorem q_661 : (Jvm.Cond.instanceMethod ({ cls := "ChairFront$BestWalk", name := "addStop", desc := "(ILChairFront$Stretch;)V" } : Jvm.MethodName)) ∈ WS := mW 661 (by decide +kernel) rfl
theorem q_662 : (Jvm.Cond.code ({ cls := "ChairFront$BestWalk", name := "addStop", desc := "(ILChairFront$Stretch;)V" } : Jvm.MethodName) prog_3_method_3_code (4 : Nat) (Option.none : Option Jvm.ClassFile.FieldType)) ∈ WS := mW 662 (by decide +kernel) rfl
theorem q_663 : (Jvm.Cond.methodLink "ChairFront$BestWalk" (41 : Nat) ({ cls := "ChairFront$Stretch", name := "foundAt", desc := "(I)I" } : Jvm.MethodName)) ∈ WS := mW 663 (by decide +kernel) rfl
theorem q_664 : (Jvm.Cond.instanceMethod ({ cls := "ChairFront$Stretch", name := "foundAt", desc := "(I)I" } : Jvm.MethodName)) ∈ WS := mW 664 (by decide +kernel) rfl
theorem q_665 : (Jvm.Cond.selects "ChairFront$Stretch" ({ cls := "ChairFront$Stretch", name := "foundAt", desc := "(I)I" } : Jvm.MethodName) ({ cls := "ChairFront$Stretch", name := "foundAt", desc := "(I)I" } : Jvm.MethodName)) ∈ WS := mW 665 (by decide +kernel) rfl
theorem q_666 : (Jvm.Cond.code ({ cls := "ChairFront$Stretch", name := "foundAt", desc := "(I)I" } : Jvm.MethodName) prog_6_method_5_code (2 : Nat) (Option.some Jvm.ClassFile.FieldType.int)) ∈ WS := mW 666 (by decide +kernel) rfl
theorem q_667 : (Jvm.Cond.methodLink "ChairFront$Stretch" (29 : Nat) ({ cls := "java/lang/Math", name := "max", desc := "(II)I" } : Jvm.MethodName)) ∈ WS := mW 667 (by decide +kernel) rfl
theorem q_668 : (Jvm.Cond.methodLink "ChairFront$BestWalk" (29 : Nat) ({ cls := "ChairFront$BestWalk", name := "allStops", desc := "()I" } : Jvm.MethodName)) ∈ WS := mW 668 (by decide +kernel) rfl
theorem q_670 : (Jvm.Cond.instanceMethod ({ cls := "ChairFront$BestWalk", name := "allStops", desc := "()I" } : Jvm.MethodName)) ∈ WS := mW 670 (by decide +kernel) rfl
theorem q_671 : (Jvm.Cond.code ({ cls := "ChairFront$BestWalk", name := "allStops", desc := "()I" } : Jvm.MethodName) prog_3_method_6_code (1 : Nat) (Option.some Jvm.ClassFile.FieldType.int)) ∈ WS := mW 671 (by decide +kernel) rfl
theorem q_672 : (Jvm.Cond.methodLink "ChairFront$BestWalk" (33 : Nat) ({ cls := "ChairFront$BestWalk", name := "bestNext", desc := "(I)I" } : Jvm.MethodName)) ∈ WS := mW 672 (by decide +kernel) rfl
theorem q_674 : (Jvm.Cond.instanceMethod ({ cls := "ChairFront$BestWalk", name := "bestNext", desc := "(I)I" } : Jvm.MethodName)) ∈ WS := mW 674 (by decide +kernel) rfl
theorem q_675 : (Jvm.Cond.code ({ cls := "ChairFront$BestWalk", name := "bestNext", desc := "(I)I" } : Jvm.MethodName) prog_3_method_7_code (5 : Nat) (Option.some Jvm.ClassFile.FieldType.int)) ∈ WS := mW 675 (by decide +kernel) rfl
theorem q_676 : (Jvm.Cond.methodLink "ChairFront$BestWalk" (37 : Nat) ({ cls := "ChairFront$BestWalk", name := "findsBy", desc := "(II)I" } : Jvm.MethodName)) ∈ WS := mW 676 (by decide +kernel) rfl
theorem q_678 : (Jvm.Cond.instanceMethod ({ cls := "ChairFront$BestWalk", name := "findsBy", desc := "(II)I" } : Jvm.MethodName)) ∈ WS := mW 678 (by decide +kernel) rfl
theorem q_679 : (Jvm.Cond.code ({ cls := "ChairFront$BestWalk", name := "findsBy", desc := "(II)I" } : Jvm.MethodName) prog_3_method_8_code (4 : Nat) (Option.some Jvm.ClassFile.FieldType.int)) ∈ WS := mW 679 (by decide +kernel) rfl
theorem q_680 : (Jvm.Cond.methodLink "ChairFront$BestWalk" (51 : Nat) ({ cls := "java/lang/Integer", name := "bitCount", desc := "(I)I" } : Jvm.MethodName)) ∈ WS := mW 680 (by decide +kernel) rfl
theorem q_681 : (Jvm.Cond.methodLink "ChairFront" (242 : Nat) ({ cls := "ChairFront$BestWalk", name := "finds", desc := "()I" } : Jvm.MethodName)) ∈ WS := mW 681 (by decide +kernel) rfl
theorem q_682 : (Jvm.Cond.instanceMethod ({ cls := "ChairFront$BestWalk", name := "finds", desc := "()I" } : Jvm.MethodName)) ∈ WS := mW 682 (by decide +kernel) rfl
theorem q_683 : (Jvm.Cond.selects "ChairFront$BestWalk" ({ cls := "ChairFront$BestWalk", name := "finds", desc := "()I" } : Jvm.MethodName) ({ cls := "ChairFront$BestWalk", name := "finds", desc := "()I" } : Jvm.MethodName)) ∈ WS := mW 683 (by decide +kernel) rfl
theorem q_684 : (Jvm.Cond.code ({ cls := "ChairFront$BestWalk", name := "finds", desc := "()I" } : Jvm.MethodName) prog_3_method_4_code (1 : Nat) (Option.some Jvm.ClassFile.FieldType.int)) ∈ WS := mW 684 (by decide +kernel) rfl
theorem q_685 : (Jvm.Cond.methodLink "ChairFront" (245 : Nat) ({ cls := "ChairFront$BestWalk", name := "stopAt", desc := "(I)I" } : Jvm.MethodName)) ∈ WS := mW 685 (by decide +kernel) rfl
theorem q_686 : (Jvm.Cond.instanceMethod ({ cls := "ChairFront$BestWalk", name := "stopAt", desc := "(I)I" } : Jvm.MethodName)) ∈ WS := mW 686 (by decide +kernel) rfl
theorem q_687 : (Jvm.Cond.selects "ChairFront$BestWalk" ({ cls := "ChairFront$BestWalk", name := "stopAt", desc := "(I)I" } : Jvm.MethodName) ({ cls := "ChairFront$BestWalk", name := "stopAt", desc := "(I)I" } : Jvm.MethodName)) ∈ WS := mW 687 (by decide +kernel) rfl
theorem q_688 : (Jvm.Cond.code ({ cls := "ChairFront$BestWalk", name := "stopAt", desc := "(I)I" } : Jvm.MethodName) prog_3_method_5_code (4 : Nat) (Option.some Jvm.ClassFile.FieldType.int)) ∈ WS := mW 688 (by decide +kernel) rfl
theorem q_690 : (Jvm.Cond.constant "ChairFront$BestWalk" (50 : Nat) (-1000000 : Int32)) ∈ WS := mW 690 (by decide +kernel) rfl
theorem q_691 : (Jvm.Cond.methodLink "ChairFrontLaw" (89 : Nat) ({ cls := "ChairFront", name := "kind", desc := "(I)I" } : Jvm.MethodName)) ∈ WS := mW 691 (by decide +kernel) rfl
theorem q_692 : (Jvm.Cond.instanceMethod ({ cls := "ChairFront", name := "kind", desc := "(I)I" } : Jvm.MethodName)) ∈ WS := mW 692 (by decide +kernel) rfl
theorem q_693 : (Jvm.Cond.selects "ChairFront" ({ cls := "ChairFront", name := "kind", desc := "(I)I" } : Jvm.MethodName) ({ cls := "ChairFront", name := "kind", desc := "(I)I" } : Jvm.MethodName)) ∈ WS := mW 693 (by decide +kernel) rfl
theorem q_694 : (Jvm.Cond.code ({ cls := "ChairFront", name := "kind", desc := "(I)I" } : Jvm.MethodName) prog_1_method_17_code (2 : Nat) (Option.some Jvm.ClassFile.FieldType.int)) ∈ WS := mW 694 (by decide +kernel) rfl
theorem q_695 : (Jvm.Cond.methodLink "ChairFront" (248 : Nat) ({ cls := "ChairFront$Stretch", name := "toldKind", desc := "()I" } : Jvm.MethodName)) ∈ WS := mW 695 (by decide +kernel) rfl
theorem q_696 : (Jvm.Cond.instanceMethod ({ cls := "ChairFront$Stretch", name := "toldKind", desc := "()I" } : Jvm.MethodName)) ∈ WS := mW 696 (by decide +kernel) rfl
theorem q_697 : (Jvm.Cond.selects "ChairFront$Stretch" ({ cls := "ChairFront$Stretch", name := "toldKind", desc := "()I" } : Jvm.MethodName) ({ cls := "ChairFront$Stretch", name := "toldKind", desc := "()I" } : Jvm.MethodName)) ∈ WS := mW 697 (by decide +kernel) rfl
theorem q_698 : (Jvm.Cond.code ({ cls := "ChairFront$Stretch", name := "toldKind", desc := "()I" } : Jvm.MethodName) prog_6_method_3_code (1 : Nat) (Option.some Jvm.ClassFile.FieldType.int)) ∈ WS := mW 698 (by decide +kernel) rfl
theorem q_699 : (Jvm.Cond.methodLink "ChairFront$Stretch" (16 : Nat) ({ cls := "ChairFront$Stretch", name := "free", desc := "()I" } : Jvm.MethodName)) ∈ WS := mW 699 (by decide +kernel) rfl
theorem q_700 : (Jvm.Cond.methodLink "ChairFrontLaw" (93 : Nat) ({ cls := "ChairFront", name := "as", desc := "(II)I" } : Jvm.MethodName)) ∈ WS := mW 700 (by decide +kernel) rfl
theorem q_701 : (Jvm.Cond.instanceMethod ({ cls := "ChairFront", name := "as", desc := "(II)I" } : Jvm.MethodName)) ∈ WS := mW 701 (by decide +kernel) rfl
theorem q_702 : (Jvm.Cond.selects "ChairFront" ({ cls := "ChairFront", name := "as", desc := "(II)I" } : Jvm.MethodName) ({ cls := "ChairFront", name := "as", desc := "(II)I" } : Jvm.MethodName)) ∈ WS := mW 702 (by decide +kernel) rfl
theorem q_703 : (Jvm.Cond.code ({ cls := "ChairFront", name := "as", desc := "(II)I" } : Jvm.MethodName) prog_1_method_18_code (4 : Nat) (Option.some Jvm.ClassFile.FieldType.int)) ∈ WS := mW 703 (by decide +kernel) rfl
theorem q_704 : (Jvm.Cond.methodLink "ChairFront" (251 : Nat) ({ cls := "ChairFront$Stretch", name := "isOf", desc := "(I)Z" } : Jvm.MethodName)) ∈ WS := mW 704 (by decide +kernel) rfl
theorem q_705 : (Jvm.Cond.instanceMethod ({ cls := "ChairFront$Stretch", name := "isOf", desc := "(I)Z" } : Jvm.MethodName)) ∈ WS := mW 705 (by decide +kernel) rfl
theorem q_706 : (Jvm.Cond.selects "ChairFront$Stretch" ({ cls := "ChairFront$Stretch", name := "isOf", desc := "(I)Z" } : Jvm.MethodName) ({ cls := "ChairFront$Stretch", name := "isOf", desc := "(I)Z" } : Jvm.MethodName)) ∈ WS := mW 706 (by decide +kernel) rfl
theorem q_707 : (Jvm.Cond.code ({ cls := "ChairFront$Stretch", name := "isOf", desc := "(I)Z" } : Jvm.MethodName) prog_6_method_4_code (3 : Nat) (Option.some Jvm.ClassFile.FieldType.boolean)) ∈ WS := mW 707 (by decide +kernel) rfl
theorem q_708 : (Jvm.Cond.methodLink "ChairFront$Stretch" (23 : Nat) ({ cls := "ChairFront$Stretch", name := "toldKind", desc := "()I" } : Jvm.MethodName)) ∈ WS := mW 708 (by decide +kernel) rfl
theorem q_709 : (Jvm.Cond.constant "ChairFront" (254 : Nat) (-1000004 : Int32)) ∈ WS := mW 709 (by decide +kernel) rfl
theorem q_710 : (Jvm.Cond.methodLink "ChairFrontLaw" (97 : Nat) ({ cls := "ChairFront", name := "ask", desc := "(II)I" } : Jvm.MethodName)) ∈ WS := mW 710 (by decide +kernel) rfl
theorem q_711 : (Jvm.Cond.instanceMethod ({ cls := "ChairFront", name := "ask", desc := "(II)I" } : Jvm.MethodName)) ∈ WS := mW 711 (by decide +kernel) rfl
theorem q_712 : (Jvm.Cond.selects "ChairFront" ({ cls := "ChairFront", name := "ask", desc := "(II)I" } : Jvm.MethodName) ({ cls := "ChairFront", name := "ask", desc := "(II)I" } : Jvm.MethodName)) ∈ WS := mW 712 (by decide +kernel) rfl
theorem q_713 : (Jvm.Cond.code ({ cls := "ChairFront", name := "ask", desc := "(II)I" } : Jvm.MethodName) prog_1_method_19_code (4 : Nat) (Option.some Jvm.ClassFile.FieldType.int)) ∈ WS := mW 713 (by decide +kernel) rfl
theorem q_714 : (Jvm.Cond.methodLink "ChairFront" (258 : Nat) ({ cls := "ChairFront$Asks", name := "worthOf", desc := "(LChairFront$Stretch;)I" } : Jvm.MethodName)) ∈ WS := mW 714 (by decide +kernel) rfl
theorem q_715 : (Jvm.Cond.instanceMethod ({ cls := "ChairFront$Asks", name := "worthOf", desc := "(LChairFront$Stretch;)I" } : Jvm.MethodName)) ∈ WS := mW 715 (by decide +kernel) rfl
theorem q_716 : (Jvm.Cond.selects "ChairFront$Asks" ({ cls := "ChairFront$Asks", name := "worthOf", desc := "(LChairFront$Stretch;)I" } : Jvm.MethodName) ({ cls := "ChairFront$Asks", name := "worthOf", desc := "(LChairFront$Stretch;)I" } : Jvm.MethodName)) ∈ WS := mW 716 (by decide +kernel) rfl
theorem q_717 : (Jvm.Cond.code ({ cls := "ChairFront$Asks", name := "worthOf", desc := "(LChairFront$Stretch;)I" } : Jvm.MethodName) prog_2_method_2_code (2 : Nat) (Option.some Jvm.ClassFile.FieldType.int)) ∈ WS := mW 717 (by decide +kernel) rfl
theorem q_718 : (Jvm.Cond.methodLink "ChairFront$Asks" (13 : Nat) ({ cls := "ChairFront$Stretch", name := "toldKind", desc := "()I" } : Jvm.MethodName)) ∈ WS := mW 718 (by decide +kernel) rfl
theorem q_719 : (Jvm.Cond.methodLink "ChairFront$Asks" (19 : Nat) ({ cls := "ChairFront$Asks", name := "worthOfCrowd", desc := "(LChairFront$Stretch;)I" } : Jvm.MethodName)) ∈ WS := mW 719 (by decide +kernel) rfl
theorem q_721 : (Jvm.Cond.instanceMethod ({ cls := "ChairFront$Asks", name := "worthOfCrowd", desc := "(LChairFront$Stretch;)I" } : Jvm.MethodName)) ∈ WS := mW 721 (by decide +kernel) rfl
theorem q_722 : (Jvm.Cond.code ({ cls := "ChairFront$Asks", name := "worthOfCrowd", desc := "(LChairFront$Stretch;)I" } : Jvm.MethodName) prog_2_method_6_code (3 : Nat) (Option.some Jvm.ClassFile.FieldType.int)) ∈ WS := mW 722 (by decide +kernel) rfl
theorem q_723 : (Jvm.Cond.methodLink "ChairFront$Asks" (41 : Nat) ({ cls := "ChairFront$Asks", name := "leave", desc := "(I)V" } : Jvm.MethodName)) ∈ WS := mW 723 (by decide +kernel) rfl
theorem q_725 : (Jvm.Cond.instanceMethod ({ cls := "ChairFront$Asks", name := "leave", desc := "(I)V" } : Jvm.MethodName)) ∈ WS := mW 725 (by decide +kernel) rfl
theorem q_726 : (Jvm.Cond.code ({ cls := "ChairFront$Asks", name := "leave", desc := "(I)V" } : Jvm.MethodName) prog_2_method_11_code (2 : Nat) (Option.none : Option Jvm.ClassFile.FieldType)) ∈ WS := mW 726 (by decide +kernel) rfl
theorem q_727 : (Jvm.Cond.methodLink "ChairFront$Asks" (23 : Nat) ({ cls := "ChairFront$Asks", name := "worthOfSold", desc := "(LChairFront$Stretch;)I" } : Jvm.MethodName)) ∈ WS := mW 727 (by decide +kernel) rfl
theorem q_729 : (Jvm.Cond.instanceMethod ({ cls := "ChairFront$Asks", name := "worthOfSold", desc := "(LChairFront$Stretch;)I" } : Jvm.MethodName)) ∈ WS := mW 729 (by decide +kernel) rfl
theorem q_730 : (Jvm.Cond.code ({ cls := "ChairFront$Asks", name := "worthOfSold", desc := "(LChairFront$Stretch;)I" } : Jvm.MethodName) prog_2_method_5_code (2 : Nat) (Option.some Jvm.ClassFile.FieldType.int)) ∈ WS := mW 730 (by decide +kernel) rfl
theorem q_731 : (Jvm.Cond.methodLink "ChairFront$Asks" (29 : Nat) ({ cls := "ChairFront$Asks", name := "worthLent", desc := "(LChairFront$Stretch;)I" } : Jvm.MethodName)) ∈ WS := mW 731 (by decide +kernel) rfl
theorem q_733 : (Jvm.Cond.instanceMethod ({ cls := "ChairFront$Asks", name := "worthLent", desc := "(LChairFront$Stretch;)I" } : Jvm.MethodName)) ∈ WS := mW 733 (by decide +kernel) rfl
theorem q_734 : (Jvm.Cond.code ({ cls := "ChairFront$Asks", name := "worthLent", desc := "(LChairFront$Stretch;)I" } : Jvm.MethodName) prog_2_method_4_code (2 : Nat) (Option.some Jvm.ClassFile.FieldType.int)) ∈ WS := mW 734 (by decide +kernel) rfl
theorem q_735 : (Jvm.Cond.methodLink "ChairFront$Asks" (32 : Nat) ({ cls := "ChairFront$Asks", name := "markOfCrowd", desc := "(LChairFront$Stretch;)I" } : Jvm.MethodName)) ∈ WS := mW 735 (by decide +kernel) rfl
theorem q_737 : (Jvm.Cond.instanceMethod ({ cls := "ChairFront$Asks", name := "markOfCrowd", desc := "(LChairFront$Stretch;)I" } : Jvm.MethodName)) ∈ WS := mW 737 (by decide +kernel) rfl
theorem q_738 : (Jvm.Cond.code ({ cls := "ChairFront$Asks", name := "markOfCrowd", desc := "(LChairFront$Stretch;)I" } : Jvm.MethodName) prog_2_method_9_code (2 : Nat) (Option.some Jvm.ClassFile.FieldType.int)) ∈ WS := mW 738 (by decide +kernel) rfl
theorem q_739 : (Jvm.Cond.methodLink "ChairFront$Asks" (38 : Nat) ({ cls := "ChairFront$Asks", name := "markLent", desc := "(LChairFront$Stretch;)I" } : Jvm.MethodName)) ∈ WS := mW 739 (by decide +kernel) rfl
theorem q_741 : (Jvm.Cond.instanceMethod ({ cls := "ChairFront$Asks", name := "markLent", desc := "(LChairFront$Stretch;)I" } : Jvm.MethodName)) ∈ WS := mW 741 (by decide +kernel) rfl
theorem q_742 : (Jvm.Cond.code ({ cls := "ChairFront$Asks", name := "markLent", desc := "(LChairFront$Stretch;)I" } : Jvm.MethodName) prog_2_method_8_code (2 : Nat) (Option.some Jvm.ClassFile.FieldType.int)) ∈ WS := mW 742 (by decide +kernel) rfl
theorem q_743 : (Jvm.Cond.methodLink "ChairFront$Asks" (26 : Nat) ({ cls := "ChairFront$Asks", name := "worthOfBare", desc := "(LChairFront$Stretch;)I" } : Jvm.MethodName)) ∈ WS := mW 743 (by decide +kernel) rfl
theorem q_745 : (Jvm.Cond.instanceMethod ({ cls := "ChairFront$Asks", name := "worthOfBare", desc := "(LChairFront$Stretch;)I" } : Jvm.MethodName)) ∈ WS := mW 745 (by decide +kernel) rfl
theorem q_746 : (Jvm.Cond.code ({ cls := "ChairFront$Asks", name := "worthOfBare", desc := "(LChairFront$Stretch;)I" } : Jvm.MethodName) prog_2_method_7_code (2 : Nat) (Option.some Jvm.ClassFile.FieldType.int)) ∈ WS := mW 746 (by decide +kernel) rfl
theorem q_747 : (Jvm.Cond.methodLink "ChairFront" (262 : Nat) ({ cls := "ChairFront$Asks", name := "markOf", desc := "(LChairFront$Stretch;)I" } : Jvm.MethodName)) ∈ WS := mW 747 (by decide +kernel) rfl
theorem q_748 : (Jvm.Cond.instanceMethod ({ cls := "ChairFront$Asks", name := "markOf", desc := "(LChairFront$Stretch;)I" } : Jvm.MethodName)) ∈ WS := mW 748 (by decide +kernel) rfl
theorem q_749 : (Jvm.Cond.selects "ChairFront$Asks" ({ cls := "ChairFront$Asks", name := "markOf", desc := "(LChairFront$Stretch;)I" } : Jvm.MethodName) ({ cls := "ChairFront$Asks", name := "markOf", desc := "(LChairFront$Stretch;)I" } : Jvm.MethodName)) ∈ WS := mW 749 (by decide +kernel) rfl
theorem q_750 : (Jvm.Cond.code ({ cls := "ChairFront$Asks", name := "markOf", desc := "(LChairFront$Stretch;)I" } : Jvm.MethodName) prog_2_method_3_code (2 : Nat) (Option.some Jvm.ClassFile.FieldType.int)) ∈ WS := mW 750 (by decide +kernel) rfl
theorem q_751 : (Jvm.Cond.methodLink "ChairFront$Asks" (35 : Nat) ({ cls := "ChairFront$Asks", name := "markOfBare", desc := "(LChairFront$Stretch;)I" } : Jvm.MethodName)) ∈ WS := mW 751 (by decide +kernel) rfl
theorem q_753 : (Jvm.Cond.instanceMethod ({ cls := "ChairFront$Asks", name := "markOfBare", desc := "(LChairFront$Stretch;)I" } : Jvm.MethodName)) ∈ WS := mW 753 (by decide +kernel) rfl
theorem q_754 : (Jvm.Cond.code ({ cls := "ChairFront$Asks", name := "markOfBare", desc := "(LChairFront$Stretch;)I" } : Jvm.MethodName) prog_2_method_10_code (3 : Nat) (Option.some Jvm.ClassFile.FieldType.int)) ∈ WS := mW 754 (by decide +kernel) rfl
theorem q_755 : (Jvm.Cond.methodLink "ChairFrontLaw" (101 : Nat) ({ cls := "ChairFront", name := "trace", desc := "(I)I" } : Jvm.MethodName)) ∈ WS := mW 755 (by decide +kernel) rfl
theorem q_756 : (Jvm.Cond.instanceMethod ({ cls := "ChairFront", name := "trace", desc := "(I)I" } : Jvm.MethodName)) ∈ WS := mW 756 (by decide +kernel) rfl
theorem q_757 : (Jvm.Cond.selects "ChairFront" ({ cls := "ChairFront", name := "trace", desc := "(I)I" } : Jvm.MethodName) ({ cls := "ChairFront", name := "trace", desc := "(I)I" } : Jvm.MethodName)) ∈ WS := mW 757 (by decide +kernel) rfl
theorem q_758 : (Jvm.Cond.code ({ cls := "ChairFront", name := "trace", desc := "(I)I" } : Jvm.MethodName) prog_1_method_20_code (2 : Nat) (Option.some Jvm.ClassFile.FieldType.int)) ∈ WS := mW 758 (by decide +kernel) rfl
theorem q_759 : (Jvm.Cond.methodLink "ChairFrontLaw" (105 : Nat) ({ cls := "ChairFront", name := "count", desc := "(I)I" } : Jvm.MethodName)) ∈ WS := mW 759 (by decide +kernel) rfl
theorem q_760 : (Jvm.Cond.instanceMethod ({ cls := "ChairFront", name := "count", desc := "(I)I" } : Jvm.MethodName)) ∈ WS := mW 760 (by decide +kernel) rfl
theorem q_761 : (Jvm.Cond.selects "ChairFront" ({ cls := "ChairFront", name := "count", desc := "(I)I" } : Jvm.MethodName) ({ cls := "ChairFront", name := "count", desc := "(I)I" } : Jvm.MethodName)) ∈ WS := mW 761 (by decide +kernel) rfl
theorem q_762 : (Jvm.Cond.code ({ cls := "ChairFront", name := "count", desc := "(I)I" } : Jvm.MethodName) prog_1_method_21_code (2 : Nat) (Option.some Jvm.ClassFile.FieldType.int)) ∈ WS := mW 762 (by decide +kernel) rfl
theorem q_763 : (Jvm.Cond.methodLink "ChairFront" (269 : Nat) ({ cls := "ChairFront", name := "allStanding", desc := "()I" } : Jvm.MethodName)) ∈ WS := mW 763 (by decide +kernel) rfl
theorem q_765 : (Jvm.Cond.instanceMethod ({ cls := "ChairFront", name := "allStanding", desc := "()I" } : Jvm.MethodName)) ∈ WS := mW 765 (by decide +kernel) rfl
theorem q_766 : (Jvm.Cond.code ({ cls := "ChairFront", name := "allStanding", desc := "()I" } : Jvm.MethodName) prog_1_method_27_code (3 : Nat) (Option.some Jvm.ClassFile.FieldType.int)) ∈ WS := mW 766 (by decide +kernel) rfl
theorem q_767 : (Jvm.Cond.methodLink "ChairFrontLaw" (9 : Nat) ({ cls := "ChairFrontLaw", name := "cell", desc := "([II)I" } : Jvm.MethodName)) ∈ WS := mW 767 (by decide +kernel) rfl
theorem q_768 : (Jvm.Cond.static ({ cls := "ChairFrontLaw", name := "cell", desc := "([II)I" } : Jvm.MethodName)) ∈ WS := mW 768 (by decide +kernel) rfl
theorem q_769 : (Jvm.Cond.code ({ cls := "ChairFrontLaw", name := "cell", desc := "([II)I" } : Jvm.MethodName) method_2_code (2 : Nat) (Option.some Jvm.ClassFile.FieldType.int)) ∈ WS := mW 769 (by decide +kernel) rfl
theorem q_770 : (Jvm.Cond.classLink "ChairFrontLaw" (18 : Nat) "ChairFrontModel") ∈ WS := mW 770 (by decide +kernel) rfl
theorem q_771 : (Jvm.Cond.instantiable "ChairFrontModel" (55 : Nat)) ∈ WS := mW 771 (by decide +kernel) rfl
theorem q_772 : (Jvm.Cond.methodLink "ChairFrontLaw" (20 : Nat) ({ cls := "ChairFrontModel", name := "<init>", desc := "(I)V" } : Jvm.MethodName)) ∈ WS := mW 772 (by decide +kernel) rfl
theorem q_773 : (Jvm.Cond.instanceMethod ({ cls := "ChairFrontModel", name := "<init>", desc := "(I)V" } : Jvm.MethodName)) ∈ WS := mW 773 (by decide +kernel) rfl
theorem q_774 : (Jvm.Cond.code ({ cls := "ChairFrontModel", name := "<init>", desc := "(I)V" } : Jvm.MethodName) prog_11_method_3_code (2 : Nat) (Option.none : Option Jvm.ClassFile.FieldType)) ∈ WS := mW 774 (by decide +kernel) rfl
theorem q_775 : (Jvm.Cond.methodLink "ChairFrontModel" (7 : Nat) ({ cls := "java/lang/Object", name := "<init>", desc := "()V" } : Jvm.MethodName)) ∈ WS := mW 775 (by decide +kernel) rfl
theorem q_776 : (Jvm.Cond.fieldLink "ChairFrontModel" (1 : Nat) "ChairFrontModel" "thrown" "I") ∈ WS := mW 776 (by decide +kernel) rfl
theorem q_777 : (Jvm.Cond.fieldLink "ChairFrontModel" (98 : Nat) "ChairFrontModel" "stack" "I") ∈ WS := mW 777 (by decide +kernel) rfl
theorem q_778 : (Jvm.Cond.fieldLink "ChairFrontModel" (166 : Nat) "ChairFrontModel" "lost" "I") ∈ WS := mW 778 (by decide +kernel) rfl
theorem q_779 : (Jvm.Cond.fieldLink "ChairFrontModel" (130 : Nat) "ChairFrontModel" "broken" "I") ∈ WS := mW 779 (by decide +kernel) rfl
theorem q_780 : (Jvm.Cond.fieldLink "ChairFrontModel" (13 : Nat) "ChairFrontModel" "price" "I") ∈ WS := mW 780 (by decide +kernel) rfl
theorem q_781 : (Jvm.Cond.fieldLink "ChairFrontModel" (16 : Nat) "ChairFrontModel" "stop" "I") ∈ WS := mW 781 (by decide +kernel) rfl
theorem q_782 : (Jvm.Cond.fieldLink "ChairFrontModel" (135 : Nat) "ChairFrontModel" "wind" "I") ∈ WS := mW 782 (by decide +kernel) rfl
theorem q_783 : (Jvm.Cond.fieldLink "ChairFrontModel" (163 : Nat) "ChairFrontModel" "hours" "I") ∈ WS := mW 783 (by decide +kernel) rfl
theorem q_784 : (Jvm.Cond.fieldLink "ChairFrontModel" (144 : Nat) "ChairFrontModel" "paid" "I") ∈ WS := mW 784 (by decide +kernel) rfl
theorem q_785 : (Jvm.Cond.fieldLink "ChairFrontModel" (169 : Nat) "ChairFrontModel" "back" "I") ∈ WS := mW 785 (by decide +kernel) rfl
theorem q_786 : (Jvm.Cond.fieldLink "ChairFrontModel" (101 : Nat) "ChairFrontModel" "stretches" "I") ∈ WS := mW 786 (by decide +kernel) rfl
theorem q_787 : (Jvm.Cond.fieldLink "ChairFrontModel" (19 : Nat) "ChairFrontModel" "height" "[I") ∈ WS := mW 787 (by decide +kernel) rfl
theorem q_788 : (Jvm.Cond.fieldLink "ChairFrontModel" (23 : Nat) "ChairFrontModel" "zone" "[I") ∈ WS := mW 788 (by decide +kernel) rfl
theorem q_789 : (Jvm.Cond.fieldLink "ChairFrontModel" (26 : Nat) "ChairFrontModel" "free" "[I") ∈ WS := mW 789 (by decide +kernel) rfl
theorem q_790 : (Jvm.Cond.fieldLink "ChairFrontModel" (29 : Nat) "ChairFrontModel" "hired" "[I") ∈ WS := mW 790 (by decide +kernel) rfl
theorem q_791 : (Jvm.Cond.fieldLink "ChairFrontModel" (32 : Nat) "ChairFrontModel" "wear" "[I") ∈ WS := mW 791 (by decide +kernel) rfl
theorem q_792 : (Jvm.Cond.fieldLink "ChairFrontModel" (35 : Nat) "ChairFrontModel" "unpaid" "[I") ∈ WS := mW 792 (by decide +kernel) rfl
theorem q_793 : (Jvm.Cond.fieldLink "ChairFrontModel" (38 : Nat) "ChairFrontModel" "goes" "[I") ∈ WS := mW 793 (by decide +kernel) rfl
theorem q_794 : (Jvm.Cond.fieldLink "ChairFrontModel" (138 : Nat) "ChairFrontModel" "running" "I") ∈ WS := mW 794 (by decide +kernel) rfl
theorem q_795 : (Jvm.Cond.fieldLink "ChairFrontModel" (141 : Nat) "ChairFrontModel" "ever" "I") ∈ WS := mW 795 (by decide +kernel) rfl
theorem q_796 : (Jvm.Cond.fieldLink "ChairFrontModel" (41 : Nat) "ChairFrontModel" "number" "[I") ∈ WS := mW 796 (by decide +kernel) rfl
theorem q_797 : (Jvm.Cond.fieldLink "ChairFrontModel" (44 : Nat) "ChairFrontModel" "place" "[I") ∈ WS := mW 797 (by decide +kernel) rfl
theorem q_798 : (Jvm.Cond.fieldLink "ChairFrontModel" (47 : Nat) "ChairFrontModel" "chairs" "[I") ∈ WS := mW 798 (by decide +kernel) rfl
theorem q_799 : (Jvm.Cond.fieldLink "ChairFrontModel" (50 : Nat) "ChairFrontModel" "left" "[I") ∈ WS := mW 799 (by decide +kernel) rfl
theorem q_800 : (Jvm.Cond.fieldLink "ChairFrontModel" (53 : Nat) "ChairFrontModel" "own" "[I") ∈ WS := mW 800 (by decide +kernel) rfl
theorem q_801 : (Jvm.Cond.fieldLink "ChairFrontModel" (56 : Nat) "ChairFrontModel" "cost" "[I") ∈ WS := mW 801 (by decide +kernel) rfl
theorem q_802 : (Jvm.Cond.fieldLink "ChairFrontModel" (59 : Nat) "ChairFrontModel" "home" "[I") ∈ WS := mW 802 (by decide +kernel) rfl
theorem q_803 : (Jvm.Cond.fieldLink "ChairFrontModel" (150 : Nat) "ChairFrontModel" "hold" "I") ∈ WS := mW 803 (by decide +kernel) rfl
theorem q_804 : (Jvm.Cond.fieldLink "ChairFrontModel" (172 : Nat) "ChairFrontModel" "rains" "I") ∈ WS := mW 804 (by decide +kernel) rfl
theorem q_805 : (Jvm.Cond.fieldLink "ChairFrontModel" (62 : Nat) "ChairFrontModel" "rainFrom" "[I") ∈ WS := mW 805 (by decide +kernel) rfl
theorem q_806 : (Jvm.Cond.fieldLink "ChairFrontModel" (65 : Nat) "ChairFrontModel" "rainPart" "[I") ∈ WS := mW 806 (by decide +kernel) rfl
theorem q_807 : (Jvm.Cond.fieldLink "ChairFrontModel" (264 : Nat) "ChairFrontModel" "rents" "I") ∈ WS := mW 807 (by decide +kernel) rfl
theorem q_808 : (Jvm.Cond.fieldLink "ChairFrontModel" (68 : Nat) "ChairFrontModel" "rentTo" "[I") ∈ WS := mW 808 (by decide +kernel) rfl
theorem q_809 : (Jvm.Cond.fieldLink "ChairFrontModel" (71 : Nat) "ChairFrontModel" "rentPart" "[I") ∈ WS := mW 809 (by decide +kernel) rfl
theorem q_810 : (Jvm.Cond.fieldLink "ChairFrontModel" (245 : Nat) "ChairFrontModel" "newHold" "I") ∈ WS := mW 810 (by decide +kernel) rfl
theorem q_811 : (Jvm.Cond.fieldLink "ChairFrontModel" (231 : Nat) "ChairFrontModel" "newRains" "I") ∈ WS := mW 811 (by decide +kernel) rfl
theorem q_812 : (Jvm.Cond.fieldLink "ChairFrontModel" (74 : Nat) "ChairFrontModel" "newRainFrom" "[I") ∈ WS := mW 812 (by decide +kernel) rfl
theorem q_813 : (Jvm.Cond.fieldLink "ChairFrontModel" (77 : Nat) "ChairFrontModel" "newRainPart" "[I") ∈ WS := mW 813 (by decide +kernel) rfl
theorem q_814 : (Jvm.Cond.fieldLink "ChairFrontModel" (236 : Nat) "ChairFrontModel" "newRents" "I") ∈ WS := mW 814 (by decide +kernel) rfl
theorem q_815 : (Jvm.Cond.fieldLink "ChairFrontModel" (80 : Nat) "ChairFrontModel" "newRentTo" "[I") ∈ WS := mW 815 (by decide +kernel) rfl
theorem q_816 : (Jvm.Cond.fieldLink "ChairFrontModel" (83 : Nat) "ChairFrontModel" "newRentPart" "[I") ∈ WS := mW 816 (by decide +kernel) rfl
theorem q_817 : (Jvm.Cond.fieldLink "ChairFrontModel" (86 : Nat) "ChairFrontModel" "tape" "[I") ∈ WS := mW 817 (by decide +kernel) rfl
theorem q_818 : (Jvm.Cond.fieldLink "ChairFrontModel" (180 : Nat) "ChairFrontModel" "taped" "I") ∈ WS := mW 818 (by decide +kernel) rfl
theorem q_819 : (Jvm.Cond.fieldLink "ChairFrontModel" (260 : Nat) "ChairFrontModel" "latest" "I") ∈ WS := mW 819 (by decide +kernel) rfl
theorem q_820 : (Jvm.Cond.fieldLink "ChairFrontModel" (185 : Nat) "ChairFrontModel" "size" "I") ∈ WS := mW 820 (by decide +kernel) rfl
theorem q_821 : (Jvm.Cond.fieldLink "ChairFrontModel" (188 : Nat) "ChairFrontModel" "at" "I") ∈ WS := mW 821 (by decide +kernel) rfl
theorem q_822 : (Jvm.Cond.fieldLink "ChairFrontModel" (197 : Nat) "ChairFrontModel" "sort" "I") ∈ WS := mW 822 (by decide +kernel) rfl
theorem q_823 : (Jvm.Cond.fieldLink "ChairFrontModel" (194 : Nat) "ChairFrontModel" "from" "I") ∈ WS := mW 823 (by decide +kernel) rfl
theorem q_824 : (Jvm.Cond.fieldLink "ChairFrontModel" (206 : Nat) "ChairFrontModel" "till" "I") ∈ WS := mW 824 (by decide +kernel) rfl
theorem q_825 : (Jvm.Cond.fieldLink "ChairFrontModel" (209 : Nat) "ChairFrontModel" "fault" "I") ∈ WS := mW 825 (by decide +kernel) rfl
theorem q_826 : (Jvm.Cond.fieldLink "ChairFrontModel" (212 : Nat) "ChairFrontModel" "faultAt" "I") ∈ WS := mW 826 (by decide +kernel) rfl
theorem q_827 : (Jvm.Cond.fieldLink "ChairFrontModel" (89 : Nat) "ChairFrontModel" "order" "[I") ∈ WS := mW 827 (by decide +kernel) rfl
theorem q_828 : (Jvm.Cond.fieldLink "ChairFrontModel" (92 : Nat) "ChairFrontModel" "best" "[I") ∈ WS := mW 828 (by decide +kernel) rfl
theorem q_829 : (Jvm.Cond.fieldLink "ChairFrontModel" (95 : Nat) "ChairFrontModel" "trace" "[I") ∈ WS := mW 829 (by decide +kernel) rfl
theorem q_830 : (Jvm.Cond.fieldLink "ChairFrontModel" (276 : Nat) "ChairFrontModel" "traced" "I") ∈ WS := mW 830 (by decide +kernel) rfl
theorem q_942 : (Jvm.Cond.methodLink "ChairFrontLaw" (25 : Nat) ({ cls := "ChairFrontModel", name := "stretch", desc := "(II)I" } : Jvm.MethodName)) ∈ WS := mW 942 (by decide +kernel) rfl
theorem q_943 : (Jvm.Cond.instanceMethod ({ cls := "ChairFrontModel", name := "stretch", desc := "(II)I" } : Jvm.MethodName)) ∈ WS := mW 943 (by decide +kernel) rfl
theorem q_944 : (Jvm.Cond.selects "ChairFrontModel" ({ cls := "ChairFrontModel", name := "stretch", desc := "(II)I" } : Jvm.MethodName) ({ cls := "ChairFrontModel", name := "stretch", desc := "(II)I" } : Jvm.MethodName)) ∈ WS := mW 944 (by decide +kernel) rfl
theorem q_945 : (Jvm.Cond.code ({ cls := "ChairFrontModel", name := "stretch", desc := "(II)I" } : Jvm.MethodName) prog_11_method_5_code (3 : Nat) (Option.some Jvm.ClassFile.FieldType.int)) ∈ WS := mW 945 (by decide +kernel) rfl
theorem q_946 : (Jvm.Cond.constantLong "ChairFrontModel" (108 : Nat) (500 : Int64)) ∈ WS := mW 946 (by decide +kernel) rfl
theorem q_947 : (Jvm.Cond.methodLink "ChairFrontModel" (104 : Nat) ({ cls := "ChairFrontModel", name := "in", desc := "(JJJ)Z" } : Jvm.MethodName)) ∈ WS := mW 947 (by decide +kernel) rfl
theorem q_948 : (Jvm.Cond.static ({ cls := "ChairFrontModel", name := "in", desc := "(JJJ)Z" } : Jvm.MethodName)) ∈ WS := mW 948 (by decide +kernel) rfl
theorem q_949 : (Jvm.Cond.code ({ cls := "ChairFrontModel", name := "in", desc := "(JJJ)Z" } : Jvm.MethodName) prog_11_method_2_code (6 : Nat) (Option.some Jvm.ClassFile.FieldType.boolean)) ∈ WS := mW 949 (by decide +kernel) rfl
theorem q_950 : (Jvm.Cond.constantLong "ChairFrontModel" (110 : Nat) (3 : Int64)) ∈ WS := mW 950 (by decide +kernel) rfl
theorem q_951 : (Jvm.Cond.constant "ChairFrontModel" (112 : Nat) (-1000001 : Int32)) ∈ WS := mW 951 (by decide +kernel) rfl
theorem q_952 : (Jvm.Cond.constant "ChairFrontModel" (113 : Nat) (-1000003 : Int32)) ∈ WS := mW 952 (by decide +kernel) rfl
theorem q_953 : (Jvm.Cond.methodLink "ChairFrontLaw" (30 : Nat) ({ cls := "ChairFrontModel", name := "carry", desc := "(III)I" } : Jvm.MethodName)) ∈ WS := mW 953 (by decide +kernel) rfl
theorem q_954 : (Jvm.Cond.instanceMethod ({ cls := "ChairFrontModel", name := "carry", desc := "(III)I" } : Jvm.MethodName)) ∈ WS := mW 954 (by decide +kernel) rfl
theorem q_955 : (Jvm.Cond.selects "ChairFrontModel" ({ cls := "ChairFrontModel", name := "carry", desc := "(III)I" } : Jvm.MethodName) ({ cls := "ChairFrontModel", name := "carry", desc := "(III)I" } : Jvm.MethodName)) ∈ WS := mW 955 (by decide +kernel) rfl
theorem q_956 : (Jvm.Cond.code ({ cls := "ChairFrontModel", name := "carry", desc := "(III)I" } : Jvm.MethodName) prog_11_method_7_code (4 : Nat) (Option.some Jvm.ClassFile.FieldType.int)) ∈ WS := mW 956 (by decide +kernel) rfl
theorem q_957 : (Jvm.Cond.constant "ChairFrontModel" (114 : Nat) (-1000000 : Int32)) ∈ WS := mW 957 (by decide +kernel) rfl
theorem q_958 : (Jvm.Cond.methodLink "ChairFrontModel" (115 : Nat) ({ cls := "ChairFrontModel", name := "isStretch", desc := "(I)Z" } : Jvm.MethodName)) ∈ WS := mW 958 (by decide +kernel) rfl
theorem q_960 : (Jvm.Cond.instanceMethod ({ cls := "ChairFrontModel", name := "isStretch", desc := "(I)Z" } : Jvm.MethodName)) ∈ WS := mW 960 (by decide +kernel) rfl
theorem q_961 : (Jvm.Cond.code ({ cls := "ChairFrontModel", name := "isStretch", desc := "(I)Z" } : Jvm.MethodName) prog_11_method_4_code (2 : Nat) (Option.some Jvm.ClassFile.FieldType.boolean)) ∈ WS := mW 961 (by decide +kernel) rfl
theorem q_962 : (Jvm.Cond.constantLong "ChairFrontModel" (119 : Nat) (9000 : Int64)) ∈ WS := mW 962 (by decide +kernel) rfl
theorem q_963 : (Jvm.Cond.constant "ChairFrontModel" (121 : Nat) (-1000002 : Int32)) ∈ WS := mW 963 (by decide +kernel) rfl
theorem q_964 : (Jvm.Cond.methodLink "ChairFrontModel" (122 : Nat) ({ cls := "ChairFrontModel", name := "standing", desc := "(I)I" } : Jvm.MethodName)) ∈ WS := mW 964 (by decide +kernel) rfl
theorem q_966 : (Jvm.Cond.instanceMethod ({ cls := "ChairFrontModel", name := "standing", desc := "(I)I" } : Jvm.MethodName)) ∈ WS := mW 966 (by decide +kernel) rfl
theorem q_967 : (Jvm.Cond.code ({ cls := "ChairFrontModel", name := "standing", desc := "(I)I" } : Jvm.MethodName) prog_11_method_6_code (2 : Nat) (Option.some Jvm.ClassFile.FieldType.int)) ∈ WS := mW 967 (by decide +kernel) rfl
theorem q_968 : (Jvm.Cond.methodLink "ChairFrontLaw" (34 : Nat) ({ cls := "ChairFrontModel", name := "told", desc := "(II)I" } : Jvm.MethodName)) ∈ WS := mW 968 (by decide +kernel) rfl
theorem q_969 : (Jvm.Cond.instanceMethod ({ cls := "ChairFrontModel", name := "told", desc := "(II)I" } : Jvm.MethodName)) ∈ WS := mW 969 (by decide +kernel) rfl
theorem q_970 : (Jvm.Cond.selects "ChairFrontModel" ({ cls := "ChairFrontModel", name := "told", desc := "(II)I" } : Jvm.MethodName) ({ cls := "ChairFrontModel", name := "told", desc := "(II)I" } : Jvm.MethodName)) ∈ WS := mW 970 (by decide +kernel) rfl
theorem q_971 : (Jvm.Cond.code ({ cls := "ChairFrontModel", name := "told", desc := "(II)I" } : Jvm.MethodName) prog_11_method_8_code (3 : Nat) (Option.some Jvm.ClassFile.FieldType.int)) ∈ WS := mW 971 (by decide +kernel) rfl
theorem q_972 : (Jvm.Cond.constantLong "ChairFrontModel" (126 : Nat) (5 : Int64)) ∈ WS := mW 972 (by decide +kernel) rfl
theorem q_973 : (Jvm.Cond.methodLink "ChairFrontLaw" (38 : Nat) ({ cls := "ChairFrontModel", name := "rule", desc := "(II)I" } : Jvm.MethodName)) ∈ WS := mW 973 (by decide +kernel) rfl
theorem q_974 : (Jvm.Cond.instanceMethod ({ cls := "ChairFrontModel", name := "rule", desc := "(II)I" } : Jvm.MethodName)) ∈ WS := mW 974 (by decide +kernel) rfl
theorem q_975 : (Jvm.Cond.selects "ChairFrontModel" ({ cls := "ChairFrontModel", name := "rule", desc := "(II)I" } : Jvm.MethodName) ({ cls := "ChairFrontModel", name := "rule", desc := "(II)I" } : Jvm.MethodName)) ∈ WS := mW 975 (by decide +kernel) rfl
theorem q_976 : (Jvm.Cond.code ({ cls := "ChairFrontModel", name := "rule", desc := "(II)I" } : Jvm.MethodName) prog_11_method_9_code (4 : Nat) (Option.some Jvm.ClassFile.FieldType.int)) ∈ WS := mW 976 (by decide +kernel) rfl
theorem q_977 : (Jvm.Cond.constantLong "ChairFrontModel" (128 : Nat) (100 : Int64)) ∈ WS := mW 977 (by decide +kernel) rfl
theorem q_978 : (Jvm.Cond.methodLink "ChairFrontLaw" (43 : Nat) ({ cls := "ChairFrontModel", name := "mend", desc := "(I)I" } : Jvm.MethodName)) ∈ WS := mW 978 (by decide +kernel) rfl
theorem q_979 : (Jvm.Cond.instanceMethod ({ cls := "ChairFrontModel", name := "mend", desc := "(I)I" } : Jvm.MethodName)) ∈ WS := mW 979 (by decide +kernel) rfl
theorem q_980 : (Jvm.Cond.selects "ChairFrontModel" ({ cls := "ChairFrontModel", name := "mend", desc := "(I)I" } : Jvm.MethodName) ({ cls := "ChairFrontModel", name := "mend", desc := "(I)I" } : Jvm.MethodName)) ∈ WS := mW 980 (by decide +kernel) rfl
theorem q_981 : (Jvm.Cond.code ({ cls := "ChairFrontModel", name := "mend", desc := "(I)I" } : Jvm.MethodName) prog_11_method_10_code (2 : Nat) (Option.some Jvm.ClassFile.FieldType.int)) ∈ WS := mW 981 (by decide +kernel) rfl
theorem q_982 : (Jvm.Cond.methodLink "ChairFrontLaw" (47 : Nat) ({ cls := "ChairFrontModel", name := "hire", desc := "(III)I" } : Jvm.MethodName)) ∈ WS := mW 982 (by decide +kernel) rfl
theorem q_983 : (Jvm.Cond.instanceMethod ({ cls := "ChairFrontModel", name := "hire", desc := "(III)I" } : Jvm.MethodName)) ∈ WS := mW 983 (by decide +kernel) rfl
theorem q_984 : (Jvm.Cond.selects "ChairFrontModel" ({ cls := "ChairFrontModel", name := "hire", desc := "(III)I" } : Jvm.MethodName) ({ cls := "ChairFrontModel", name := "hire", desc := "(III)I" } : Jvm.MethodName)) ∈ WS := mW 984 (by decide +kernel) rfl
theorem q_985 : (Jvm.Cond.code ({ cls := "ChairFrontModel", name := "hire", desc := "(III)I" } : Jvm.MethodName) prog_11_method_11_code (4 : Nat) (Option.some Jvm.ClassFile.FieldType.int)) ∈ WS := mW 985 (by decide +kernel) rfl
theorem q_986 : (Jvm.Cond.constantLong "ChairFrontModel" (133 : Nat) (12 : Int64)) ∈ WS := mW 986 (by decide +kernel) rfl
theorem q_987 : (Jvm.Cond.methodLink "ChairFrontLaw" (51 : Nat) ({ cls := "ChairFrontModel", name := "shift", desc := "(II)I" } : Jvm.MethodName)) ∈ WS := mW 987 (by decide +kernel) rfl
theorem q_988 : (Jvm.Cond.instanceMethod ({ cls := "ChairFrontModel", name := "shift", desc := "(II)I" } : Jvm.MethodName)) ∈ WS := mW 988 (by decide +kernel) rfl
theorem q_989 : (Jvm.Cond.selects "ChairFrontModel" ({ cls := "ChairFrontModel", name := "shift", desc := "(II)I" } : Jvm.MethodName) ({ cls := "ChairFrontModel", name := "shift", desc := "(II)I" } : Jvm.MethodName)) ∈ WS := mW 989 (by decide +kernel) rfl
theorem q_990 : (Jvm.Cond.code ({ cls := "ChairFrontModel", name := "shift", desc := "(II)I" } : Jvm.MethodName) prog_11_method_13_code (4 : Nat) (Option.some Jvm.ClassFile.FieldType.int)) ∈ WS := mW 990 (by decide +kernel) rfl
theorem q_991 : (Jvm.Cond.methodLink "ChairFrontModel" (147 : Nat) ({ cls := "ChairFrontModel", name := "slotOf", desc := "(I)I" } : Jvm.MethodName)) ∈ WS := mW 991 (by decide +kernel) rfl
theorem q_993 : (Jvm.Cond.instanceMethod ({ cls := "ChairFrontModel", name := "slotOf", desc := "(I)I" } : Jvm.MethodName)) ∈ WS := mW 993 (by decide +kernel) rfl
theorem q_994 : (Jvm.Cond.code ({ cls := "ChairFrontModel", name := "slotOf", desc := "(I)I" } : Jvm.MethodName) prog_11_method_12_code (4 : Nat) (Option.some Jvm.ClassFile.FieldType.int)) ∈ WS := mW 994 (by decide +kernel) rfl
theorem q_995 : (Jvm.Cond.methodLink "ChairFrontLaw" (55 : Nat) ({ cls := "ChairFrontModel", name := "ticket", desc := "(II)I" } : Jvm.MethodName)) ∈ WS := mW 995 (by decide +kernel) rfl
theorem q_996 : (Jvm.Cond.instanceMethod ({ cls := "ChairFrontModel", name := "ticket", desc := "(II)I" } : Jvm.MethodName)) ∈ WS := mW 996 (by decide +kernel) rfl
theorem q_997 : (Jvm.Cond.selects "ChairFrontModel" ({ cls := "ChairFrontModel", name := "ticket", desc := "(II)I" } : Jvm.MethodName) ({ cls := "ChairFrontModel", name := "ticket", desc := "(II)I" } : Jvm.MethodName)) ∈ WS := mW 997 (by decide +kernel) rfl
theorem q_998 : (Jvm.Cond.code ({ cls := "ChairFrontModel", name := "ticket", desc := "(II)I" } : Jvm.MethodName) prog_11_method_14_code (4 : Nat) (Option.some Jvm.ClassFile.FieldType.int)) ∈ WS := mW 998 (by decide +kernel) rfl
theorem q_999 : (Jvm.Cond.methodLink "ChairFrontLaw" (60 : Nat) ({ cls := "ChairFrontModel", name := "hour", desc := "(IIII)I" } : Jvm.MethodName)) ∈ WS := mW 999 (by decide +kernel) rfl
theorem q_1000 : (Jvm.Cond.instanceMethod ({ cls := "ChairFrontModel", name := "hour", desc := "(IIII)I" } : Jvm.MethodName)) ∈ WS := mW 1000 (by decide +kernel) rfl
theorem q_1001 : (Jvm.Cond.selects "ChairFrontModel" ({ cls := "ChairFrontModel", name := "hour", desc := "(IIII)I" } : Jvm.MethodName) ({ cls := "ChairFrontModel", name := "hour", desc := "(IIII)I" } : Jvm.MethodName)) ∈ WS := mW 1001 (by decide +kernel) rfl
theorem q_1002 : (Jvm.Cond.code ({ cls := "ChairFrontModel", name := "hour", desc := "(IIII)I" } : Jvm.MethodName) prog_11_method_17_code (7 : Nat) (Option.some Jvm.ClassFile.FieldType.int)) ∈ WS := mW 1002 (by decide +kernel) rfl
theorem q_1003 : (Jvm.Cond.constantLong "ChairFrontModel" (157 : Nat) (1000 : Int64)) ∈ WS := mW 1003 (by decide +kernel) rfl
theorem q_1004 : (Jvm.Cond.constantLong "ChairFrontModel" (159 : Nat) (60 : Int64)) ∈ WS := mW 1004 (by decide +kernel) rfl
theorem q_1005 : (Jvm.Cond.constantLong "ChairFrontModel" (161 : Nat) (10 : Int64)) ∈ WS := mW 1005 (by decide +kernel) rfl
theorem q_1006 : (Jvm.Cond.methodLink "ChairFrontModel" (153 : Nat) ({ cls := "ChairFrontModel", name := "end", desc := "(I)V" } : Jvm.MethodName)) ∈ WS := mW 1006 (by decide +kernel) rfl
theorem q_1008 : (Jvm.Cond.instanceMethod ({ cls := "ChairFrontModel", name := "end", desc := "(I)V" } : Jvm.MethodName)) ∈ WS := mW 1008 (by decide +kernel) rfl
theorem q_1009 : (Jvm.Cond.code ({ cls := "ChairFrontModel", name := "end", desc := "(I)V" } : Jvm.MethodName) prog_11_method_15_code (3 : Nat) (Option.none : Option Jvm.ClassFile.FieldType)) ∈ WS := mW 1009 (by decide +kernel) rfl
theorem q_1010 : (Jvm.Cond.methodLink "ChairFrontModel" (175 : Nat) ({ cls := "ChairFrontModel", name := "tear", desc := "(I)V" } : Jvm.MethodName)) ∈ WS := mW 1010 (by decide +kernel) rfl
theorem q_1012 : (Jvm.Cond.instanceMethod ({ cls := "ChairFrontModel", name := "tear", desc := "(I)V" } : Jvm.MethodName)) ∈ WS := mW 1012 (by decide +kernel) rfl
theorem q_1013 : (Jvm.Cond.code ({ cls := "ChairFrontModel", name := "tear", desc := "(I)V" } : Jvm.MethodName) prog_11_method_16_code (4 : Nat) (Option.none : Option Jvm.ClassFile.FieldType)) ∈ WS := mW 1013 (by decide +kernel) rfl
theorem q_1014 : (Jvm.Cond.methodLink "ChairFrontLaw" (67 : Nat) ({ cls := "ChairFrontModel", name := "feed", desc := "(JI)I" } : Jvm.MethodName)) ∈ WS := mW 1014 (by decide +kernel) rfl
theorem q_1015 : (Jvm.Cond.instanceMethod ({ cls := "ChairFrontModel", name := "feed", desc := "(JI)I" } : Jvm.MethodName)) ∈ WS := mW 1015 (by decide +kernel) rfl
theorem q_1016 : (Jvm.Cond.selects "ChairFrontModel" ({ cls := "ChairFrontModel", name := "feed", desc := "(JI)I" } : Jvm.MethodName) ({ cls := "ChairFrontModel", name := "feed", desc := "(JI)I" } : Jvm.MethodName)) ∈ WS := mW 1016 (by decide +kernel) rfl
theorem q_1017 : (Jvm.Cond.code ({ cls := "ChairFrontModel", name := "feed", desc := "(JI)I" } : Jvm.MethodName) prog_11_method_18_code (5 : Nat) (Option.some Jvm.ClassFile.FieldType.int)) ∈ WS := mW 1017 (by decide +kernel) rfl
theorem q_1018 : (Jvm.Cond.constantLong "ChairFrontModel" (178 : Nat) (8 : Int64)) ∈ WS := mW 1018 (by decide +kernel) rfl
theorem q_1019 : (Jvm.Cond.constantLong "ChairFrontModel" (183 : Nat) (255 : Int64)) ∈ WS := mW 1019 (by decide +kernel) rfl
theorem q_1020 : (Jvm.Cond.methodLink "ChairFrontLaw" (72 : Nat) ({ cls := "ChairFrontModel", name := "rules", desc := "()I" } : Jvm.MethodName)) ∈ WS := mW 1020 (by decide +kernel) rfl
theorem q_1021 : (Jvm.Cond.instanceMethod ({ cls := "ChairFrontModel", name := "rules", desc := "()I" } : Jvm.MethodName)) ∈ WS := mW 1021 (by decide +kernel) rfl
theorem q_1022 : (Jvm.Cond.selects "ChairFrontModel" ({ cls := "ChairFrontModel", name := "rules", desc := "()I" } : Jvm.MethodName) ({ cls := "ChairFrontModel", name := "rules", desc := "()I" } : Jvm.MethodName)) ∈ WS := mW 1022 (by decide +kernel) rfl
theorem q_1023 : (Jvm.Cond.code ({ cls := "ChairFrontModel", name := "rules", desc := "()I" } : Jvm.MethodName) prog_11_method_28_code (3 : Nat) (Option.some Jvm.ClassFile.FieldType.int)) ∈ WS := mW 1023 (by decide +kernel) rfl
theorem q_1024 : (Jvm.Cond.methodLink "ChairFrontModel" (218 : Nat) ({ cls := "ChairFrontModel", name := "step", desc := "()V" } : Jvm.MethodName)) ∈ WS := mW 1024 (by decide +kernel) rfl
theorem q_1026 : (Jvm.Cond.instanceMethod ({ cls := "ChairFrontModel", name := "step", desc := "()V" } : Jvm.MethodName)) ∈ WS := mW 1026 (by decide +kernel) rfl
theorem q_1027 : (Jvm.Cond.code ({ cls := "ChairFrontModel", name := "step", desc := "()V" } : Jvm.MethodName) prog_11_method_22_code (2 : Nat) (Option.none : Option Jvm.ClassFile.FieldType)) ∈ WS := mW 1027 (by decide +kernel) rfl
theorem q_1028 : (Jvm.Cond.methodLink "ChairFrontModel" (191 : Nat) ({ cls := "ChairFrontModel", name := "byteAt", desc := "(I)I" } : Jvm.MethodName)) ∈ WS := mW 1028 (by decide +kernel) rfl
theorem q_1030 : (Jvm.Cond.instanceMethod ({ cls := "ChairFrontModel", name := "byteAt", desc := "(I)I" } : Jvm.MethodName)) ∈ WS := mW 1030 (by decide +kernel) rfl
theorem q_1031 : (Jvm.Cond.code ({ cls := "ChairFrontModel", name := "byteAt", desc := "(I)I" } : Jvm.MethodName) prog_11_method_19_code (2 : Nat) (Option.some Jvm.ClassFile.FieldType.int)) ∈ WS := mW 1031 (by decide +kernel) rfl
theorem q_1032 : (Jvm.Cond.methodLink "ChairFrontModel" (200 : Nat) ({ cls := "ChairFrontModel", name := "isLetter", desc := "(I)Z" } : Jvm.MethodName)) ∈ WS := mW 1032 (by decide +kernel) rfl
theorem q_1033 : (Jvm.Cond.static ({ cls := "ChairFrontModel", name := "isLetter", desc := "(I)Z" } : Jvm.MethodName)) ∈ WS := mW 1033 (by decide +kernel) rfl
theorem q_1034 : (Jvm.Cond.code ({ cls := "ChairFrontModel", name := "isLetter", desc := "(I)Z" } : Jvm.MethodName) prog_11_method_20_code (1 : Nat) (Option.some Jvm.ClassFile.FieldType.boolean)) ∈ WS := mW 1034 (by decide +kernel) rfl
theorem q_1035 : (Jvm.Cond.methodLink "ChairFrontModel" (203 : Nat) ({ cls := "ChairFrontModel", name := "isFigure", desc := "(I)Z" } : Jvm.MethodName)) ∈ WS := mW 1035 (by decide +kernel) rfl
theorem q_1036 : (Jvm.Cond.static ({ cls := "ChairFrontModel", name := "isFigure", desc := "(I)Z" } : Jvm.MethodName)) ∈ WS := mW 1036 (by decide +kernel) rfl
theorem q_1037 : (Jvm.Cond.code ({ cls := "ChairFrontModel", name := "isFigure", desc := "(I)Z" } : Jvm.MethodName) prog_11_method_21_code (1 : Nat) (Option.some Jvm.ClassFile.FieldType.boolean)) ∈ WS := mW 1037 (by decide +kernel) rfl
theorem q_1038 : (Jvm.Cond.methodLink "ChairFrontModel" (257 : Nat) ({ cls := "ChairFrontModel", name := "readLine", desc := "()V" } : Jvm.MethodName)) ∈ WS := mW 1038 (by decide +kernel) rfl
theorem q_1040 : (Jvm.Cond.instanceMethod ({ cls := "ChairFrontModel", name := "readLine", desc := "()V" } : Jvm.MethodName)) ∈ WS := mW 1040 (by decide +kernel) rfl
theorem q_1041 : (Jvm.Cond.code ({ cls := "ChairFrontModel", name := "readLine", desc := "()V" } : Jvm.MethodName) prog_11_method_27_code (7 : Nat) (Option.none : Option Jvm.ClassFile.FieldType)) ∈ WS := mW 1041 (by decide +kernel) rfl
theorem q_1042 : (Jvm.Cond.methodLink "ChairFrontModel" (225 : Nat) ({ cls := "ChairFrontModel", name := "word", desc := "()J" } : Jvm.MethodName)) ∈ WS := mW 1042 (by decide +kernel) rfl
theorem q_1044 : (Jvm.Cond.instanceMethod ({ cls := "ChairFrontModel", name := "word", desc := "()J" } : Jvm.MethodName)) ∈ WS := mW 1044 (by decide +kernel) rfl
theorem q_1045 : (Jvm.Cond.code ({ cls := "ChairFrontModel", name := "word", desc := "()J" } : Jvm.MethodName) prog_11_method_25_code (4 : Nat) (Option.some Jvm.ClassFile.FieldType.long)) ∈ WS := mW 1045 (by decide +kernel) rfl
theorem q_1046 : (Jvm.Cond.constantLong "ChairFrontModel" (229 : Nat) (1918986606 : Int64)) ∈ WS := mW 1046 (by decide +kernel) rfl
theorem q_1047 : (Jvm.Cond.constantLong "ChairFrontModel" (234 : Nat) (1919250036 : Int64)) ∈ WS := mW 1047 (by decide +kernel) rfl
theorem q_1048 : (Jvm.Cond.methodLink "ChairFrontModel" (215 : Nat) ({ cls := "ChairFrontModel", name := "bad", desc := "(I)V" } : Jvm.MethodName)) ∈ WS := mW 1048 (by decide +kernel) rfl
theorem q_1050 : (Jvm.Cond.instanceMethod ({ cls := "ChairFrontModel", name := "bad", desc := "(I)V" } : Jvm.MethodName)) ∈ WS := mW 1050 (by decide +kernel) rfl
theorem q_1051 : (Jvm.Cond.code ({ cls := "ChairFrontModel", name := "bad", desc := "(I)V" } : Jvm.MethodName) prog_11_method_23_code (2 : Nat) (Option.none : Option Jvm.ClassFile.FieldType)) ∈ WS := mW 1051 (by decide +kernel) rfl
theorem q_1052 : (Jvm.Cond.constantLong "ChairFrontModel" (239 : Nat) (1752132708 : Int64)) ∈ WS := mW 1052 (by decide +kernel) rfl
theorem q_1053 : (Jvm.Cond.methodLink "ChairFrontModel" (221 : Nat) ({ cls := "ChairFrontModel", name := "need", desc := "(Z)V" } : Jvm.MethodName)) ∈ WS := mW 1053 (by decide +kernel) rfl
theorem q_1055 : (Jvm.Cond.instanceMethod ({ cls := "ChairFrontModel", name := "need", desc := "(Z)V" } : Jvm.MethodName)) ∈ WS := mW 1055 (by decide +kernel) rfl
theorem q_1056 : (Jvm.Cond.code ({ cls := "ChairFrontModel", name := "need", desc := "(Z)V" } : Jvm.MethodName) prog_11_method_24_code (2 : Nat) (Option.none : Option Jvm.ClassFile.FieldType)) ∈ WS := mW 1056 (by decide +kernel) rfl
theorem q_1057 : (Jvm.Cond.constantLong "ChairFrontModel" (241 : Nat) (2054123109 : Int64)) ∈ WS := mW 1057 (by decide +kernel) rfl
theorem q_1058 : (Jvm.Cond.constantLong "ChairFrontModel" (243 : Nat) (6385273 : Int64)) ∈ WS := mW 1058 (by decide +kernel) rfl
theorem q_1059 : (Jvm.Cond.constantLong "ChairFrontModel" (248 : Nat) (482854658917 : Int64)) ∈ WS := mW 1059 (by decide +kernel) rfl
theorem q_1060 : (Jvm.Cond.constant "ChairFrontModel" (250 : Nat) (99999 : Int32)) ∈ WS := mW 1060 (by decide +kernel) rfl
theorem q_1061 : (Jvm.Cond.methodLink "ChairFrontModel" (251 : Nat) ({ cls := "ChairFrontModel", name := "numberIn", desc := "(II)I" } : Jvm.MethodName)) ∈ WS := mW 1061 (by decide +kernel) rfl
theorem q_1063 : (Jvm.Cond.instanceMethod ({ cls := "ChairFrontModel", name := "numberIn", desc := "(II)I" } : Jvm.MethodName)) ∈ WS := mW 1063 (by decide +kernel) rfl
theorem q_1064 : (Jvm.Cond.code ({ cls := "ChairFrontModel", name := "numberIn", desc := "(II)I" } : Jvm.MethodName) prog_11_method_26_code (5 : Nat) (Option.some Jvm.ClassFile.FieldType.int)) ∈ WS := mW 1064 (by decide +kernel) rfl
theorem q_1065 : (Jvm.Cond.constantLong "ChairFrontModel" (255 : Nat) (1885434484 : Int64)) ∈ WS := mW 1065 (by decide +kernel) rfl
theorem q_1066 : (Jvm.Cond.constant "ChairFrontModel" (263 : Nat) (-1000100 : Int32)) ∈ WS := mW 1066 (by decide +kernel) rfl
theorem q_1067 : (Jvm.Cond.methodLink "ChairFrontLaw" (76 : Nat) ({ cls := "ChairFrontModel", name := "fault", desc := "()I" } : Jvm.MethodName)) ∈ WS := mW 1067 (by decide +kernel) rfl
theorem q_1068 : (Jvm.Cond.instanceMethod ({ cls := "ChairFrontModel", name := "fault", desc := "()I" } : Jvm.MethodName)) ∈ WS := mW 1068 (by decide +kernel) rfl
theorem q_1069 : (Jvm.Cond.selects "ChairFrontModel" ({ cls := "ChairFrontModel", name := "fault", desc := "()I" } : Jvm.MethodName) ({ cls := "ChairFrontModel", name := "fault", desc := "()I" } : Jvm.MethodName)) ∈ WS := mW 1069 (by decide +kernel) rfl
theorem q_1070 : (Jvm.Cond.code ({ cls := "ChairFrontModel", name := "fault", desc := "()I" } : Jvm.MethodName) prog_11_method_29_code (1 : Nat) (Option.some Jvm.ClassFile.FieldType.int)) ∈ WS := mW 1070 (by decide +kernel) rfl
theorem q_1071 : (Jvm.Cond.methodLink "ChairFrontLaw" (80 : Nat) ({ cls := "ChairFrontModel", name := "rent", desc := "(I)I" } : Jvm.MethodName)) ∈ WS := mW 1071 (by decide +kernel) rfl
theorem q_1072 : (Jvm.Cond.instanceMethod ({ cls := "ChairFrontModel", name := "rent", desc := "(I)I" } : Jvm.MethodName)) ∈ WS := mW 1072 (by decide +kernel) rfl
theorem q_1073 : (Jvm.Cond.selects "ChairFrontModel" ({ cls := "ChairFrontModel", name := "rent", desc := "(I)I" } : Jvm.MethodName) ({ cls := "ChairFrontModel", name := "rent", desc := "(I)I" } : Jvm.MethodName)) ∈ WS := mW 1073 (by decide +kernel) rfl
theorem q_1074 : (Jvm.Cond.code ({ cls := "ChairFrontModel", name := "rent", desc := "(I)I" } : Jvm.MethodName) prog_11_method_30_code (7 : Nat) (Option.some Jvm.ClassFile.FieldType.int)) ∈ WS := mW 1074 (by decide +kernel) rfl
theorem q_1075 : (Jvm.Cond.constantLong "ChairFrontModel" (267 : Nat) (1000000 : Int64)) ∈ WS := mW 1075 (by decide +kernel) rfl
theorem q_1076 : (Jvm.Cond.methodLink "ChairFrontLaw" (84 : Nat) ({ cls := "ChairFrontModel", name := "unpaid", desc := "(III)I" } : Jvm.MethodName)) ∈ WS := mW 1076 (by decide +kernel) rfl
theorem q_1077 : (Jvm.Cond.instanceMethod ({ cls := "ChairFrontModel", name := "unpaid", desc := "(III)I" } : Jvm.MethodName)) ∈ WS := mW 1077 (by decide +kernel) rfl
theorem q_1078 : (Jvm.Cond.selects "ChairFrontModel" ({ cls := "ChairFrontModel", name := "unpaid", desc := "(III)I" } : Jvm.MethodName) ({ cls := "ChairFrontModel", name := "unpaid", desc := "(III)I" } : Jvm.MethodName)) ∈ WS := mW 1078 (by decide +kernel) rfl
theorem q_1079 : (Jvm.Cond.code ({ cls := "ChairFrontModel", name := "unpaid", desc := "(III)I" } : Jvm.MethodName) prog_11_method_31_code (4 : Nat) (Option.some Jvm.ClassFile.FieldType.int)) ∈ WS := mW 1079 (by decide +kernel) rfl
theorem q_1080 : (Jvm.Cond.methodLink "ChairFrontLaw" (88 : Nat) ({ cls := "ChairFrontModel", name := "walk", desc := "(II)I" } : Jvm.MethodName)) ∈ WS := mW 1080 (by decide +kernel) rfl
theorem q_1081 : (Jvm.Cond.instanceMethod ({ cls := "ChairFrontModel", name := "walk", desc := "(II)I" } : Jvm.MethodName)) ∈ WS := mW 1081 (by decide +kernel) rfl
theorem q_1082 : (Jvm.Cond.selects "ChairFrontModel" ({ cls := "ChairFrontModel", name := "walk", desc := "(II)I" } : Jvm.MethodName) ({ cls := "ChairFrontModel", name := "walk", desc := "(II)I" } : Jvm.MethodName)) ∈ WS := mW 1082 (by decide +kernel) rfl
theorem q_1083 : (Jvm.Cond.code ({ cls := "ChairFrontModel", name := "walk", desc := "(II)I" } : Jvm.MethodName) prog_11_method_33_code (9 : Nat) (Option.some Jvm.ClassFile.FieldType.int)) ∈ WS := mW 1083 (by decide +kernel) rfl
theorem q_1084 : (Jvm.Cond.methodLink "ChairFrontModel" (269 : Nat) ({ cls := "ChairFrontModel", name := "next", desc := "(I)Z" } : Jvm.MethodName)) ∈ WS := mW 1084 (by decide +kernel) rfl
theorem q_1086 : (Jvm.Cond.instanceMethod ({ cls := "ChairFrontModel", name := "next", desc := "(I)Z" } : Jvm.MethodName)) ∈ WS := mW 1086 (by decide +kernel) rfl
theorem q_1087 : (Jvm.Cond.code ({ cls := "ChairFrontModel", name := "next", desc := "(I)Z" } : Jvm.MethodName) prog_11_method_32_code (7 : Nat) (Option.some Jvm.ClassFile.FieldType.boolean)) ∈ WS := mW 1087 (by decide +kernel) rfl
theorem q_1088 : (Jvm.Cond.methodLink "ChairFrontLaw" (92 : Nat) ({ cls := "ChairFrontModel", name := "kind", desc := "(I)I" } : Jvm.MethodName)) ∈ WS := mW 1088 (by decide +kernel) rfl
theorem q_1089 : (Jvm.Cond.instanceMethod ({ cls := "ChairFrontModel", name := "kind", desc := "(I)I" } : Jvm.MethodName)) ∈ WS := mW 1089 (by decide +kernel) rfl
theorem q_1090 : (Jvm.Cond.selects "ChairFrontModel" ({ cls := "ChairFrontModel", name := "kind", desc := "(I)I" } : Jvm.MethodName) ({ cls := "ChairFrontModel", name := "kind", desc := "(I)I" } : Jvm.MethodName)) ∈ WS := mW 1090 (by decide +kernel) rfl
theorem q_1091 : (Jvm.Cond.code ({ cls := "ChairFrontModel", name := "kind", desc := "(I)I" } : Jvm.MethodName) prog_11_method_35_code (2 : Nat) (Option.some Jvm.ClassFile.FieldType.int)) ∈ WS := mW 1091 (by decide +kernel) rfl
theorem q_1092 : (Jvm.Cond.methodLink "ChairFrontModel" (272 : Nat) ({ cls := "ChairFrontModel", name := "kindOf", desc := "(I)I" } : Jvm.MethodName)) ∈ WS := mW 1092 (by decide +kernel) rfl
theorem q_1094 : (Jvm.Cond.instanceMethod ({ cls := "ChairFrontModel", name := "kindOf", desc := "(I)I" } : Jvm.MethodName)) ∈ WS := mW 1094 (by decide +kernel) rfl
theorem q_1095 : (Jvm.Cond.code ({ cls := "ChairFrontModel", name := "kindOf", desc := "(I)I" } : Jvm.MethodName) prog_11_method_34_code (2 : Nat) (Option.some Jvm.ClassFile.FieldType.int)) ∈ WS := mW 1095 (by decide +kernel) rfl
theorem q_1096 : (Jvm.Cond.methodLink "ChairFrontLaw" (96 : Nat) ({ cls := "ChairFrontModel", name := "as", desc := "(II)I" } : Jvm.MethodName)) ∈ WS := mW 1096 (by decide +kernel) rfl
theorem q_1097 : (Jvm.Cond.instanceMethod ({ cls := "ChairFrontModel", name := "as", desc := "(II)I" } : Jvm.MethodName)) ∈ WS := mW 1097 (by decide +kernel) rfl
theorem q_1098 : (Jvm.Cond.selects "ChairFrontModel" ({ cls := "ChairFrontModel", name := "as", desc := "(II)I" } : Jvm.MethodName) ({ cls := "ChairFrontModel", name := "as", desc := "(II)I" } : Jvm.MethodName)) ∈ WS := mW 1098 (by decide +kernel) rfl
theorem q_1099 : (Jvm.Cond.code ({ cls := "ChairFrontModel", name := "as", desc := "(II)I" } : Jvm.MethodName) prog_11_method_36_code (4 : Nat) (Option.some Jvm.ClassFile.FieldType.int)) ∈ WS := mW 1099 (by decide +kernel) rfl
theorem q_1100 : (Jvm.Cond.constant "ChairFrontModel" (275 : Nat) (-1000004 : Int32)) ∈ WS := mW 1100 (by decide +kernel) rfl
theorem q_1101 : (Jvm.Cond.methodLink "ChairFrontLaw" (100 : Nat) ({ cls := "ChairFrontModel", name := "ask", desc := "(II)I" } : Jvm.MethodName)) ∈ WS := mW 1101 (by decide +kernel) rfl
theorem q_1102 : (Jvm.Cond.instanceMethod ({ cls := "ChairFrontModel", name := "ask", desc := "(II)I" } : Jvm.MethodName)) ∈ WS := mW 1102 (by decide +kernel) rfl
theorem q_1103 : (Jvm.Cond.selects "ChairFrontModel" ({ cls := "ChairFrontModel", name := "ask", desc := "(II)I" } : Jvm.MethodName) ({ cls := "ChairFrontModel", name := "ask", desc := "(II)I" } : Jvm.MethodName)) ∈ WS := mW 1103 (by decide +kernel) rfl
theorem q_1104 : (Jvm.Cond.code ({ cls := "ChairFrontModel", name := "ask", desc := "(II)I" } : Jvm.MethodName) prog_11_method_41_code (3 : Nat) (Option.some Jvm.ClassFile.FieldType.int)) ∈ WS := mW 1104 (by decide +kernel) rfl
theorem q_1105 : (Jvm.Cond.methodLink "ChairFrontModel" (288 : Nat) ({ cls := "ChairFrontModel", name := "worth", desc := "(I)I" } : Jvm.MethodName)) ∈ WS := mW 1105 (by decide +kernel) rfl
theorem q_1107 : (Jvm.Cond.instanceMethod ({ cls := "ChairFrontModel", name := "worth", desc := "(I)I" } : Jvm.MethodName)) ∈ WS := mW 1107 (by decide +kernel) rfl
theorem q_1108 : (Jvm.Cond.code ({ cls := "ChairFrontModel", name := "worth", desc := "(I)I" } : Jvm.MethodName) prog_11_method_40_code (4 : Nat) (Option.some Jvm.ClassFile.FieldType.int)) ∈ WS := mW 1108 (by decide +kernel) rfl
theorem q_1109 : (Jvm.Cond.methodLink "ChairFrontModel" (282 : Nat) ({ cls := "ChairFrontModel", name := "bareWorth", desc := "(I)I" } : Jvm.MethodName)) ∈ WS := mW 1109 (by decide +kernel) rfl
theorem q_1111 : (Jvm.Cond.instanceMethod ({ cls := "ChairFrontModel", name := "bareWorth", desc := "(I)I" } : Jvm.MethodName)) ∈ WS := mW 1111 (by decide +kernel) rfl
theorem q_1112 : (Jvm.Cond.code ({ cls := "ChairFrontModel", name := "bareWorth", desc := "(I)I" } : Jvm.MethodName) prog_11_method_38_code (2 : Nat) (Option.some Jvm.ClassFile.FieldType.int)) ∈ WS := mW 1112 (by decide +kernel) rfl
theorem q_1113 : (Jvm.Cond.methodLink "ChairFrontModel" (279 : Nat) ({ cls := "ChairFrontModel", name := "began", desc := "(I)V" } : Jvm.MethodName)) ∈ WS := mW 1113 (by decide +kernel) rfl
theorem q_1115 : (Jvm.Cond.instanceMethod ({ cls := "ChairFrontModel", name := "began", desc := "(I)V" } : Jvm.MethodName)) ∈ WS := mW 1115 (by decide +kernel) rfl
theorem q_1116 : (Jvm.Cond.code ({ cls := "ChairFrontModel", name := "began", desc := "(I)V" } : Jvm.MethodName) prog_11_method_37_code (2 : Nat) (Option.none : Option Jvm.ClassFile.FieldType)) ∈ WS := mW 1116 (by decide +kernel) rfl
theorem q_1117 : (Jvm.Cond.methodLink "ChairFrontModel" (285 : Nat) ({ cls := "ChairFrontModel", name := "marked", desc := "(I)I" } : Jvm.MethodName)) ∈ WS := mW 1117 (by decide +kernel) rfl
theorem q_1119 : (Jvm.Cond.instanceMethod ({ cls := "ChairFrontModel", name := "marked", desc := "(I)I" } : Jvm.MethodName)) ∈ WS := mW 1119 (by decide +kernel) rfl
theorem q_1120 : (Jvm.Cond.code ({ cls := "ChairFrontModel", name := "marked", desc := "(I)I" } : Jvm.MethodName) prog_11_method_39_code (3 : Nat) (Option.some Jvm.ClassFile.FieldType.int)) ∈ WS := mW 1120 (by decide +kernel) rfl
theorem q_1121 : (Jvm.Cond.methodLink "ChairFrontLaw" (104 : Nat) ({ cls := "ChairFrontModel", name := "trace", desc := "(I)I" } : Jvm.MethodName)) ∈ WS := mW 1121 (by decide +kernel) rfl
theorem q_1122 : (Jvm.Cond.instanceMethod ({ cls := "ChairFrontModel", name := "trace", desc := "(I)I" } : Jvm.MethodName)) ∈ WS := mW 1122 (by decide +kernel) rfl
theorem q_1123 : (Jvm.Cond.selects "ChairFrontModel" ({ cls := "ChairFrontModel", name := "trace", desc := "(I)I" } : Jvm.MethodName) ({ cls := "ChairFrontModel", name := "trace", desc := "(I)I" } : Jvm.MethodName)) ∈ WS := mW 1123 (by decide +kernel) rfl
theorem q_1124 : (Jvm.Cond.code ({ cls := "ChairFrontModel", name := "trace", desc := "(I)I" } : Jvm.MethodName) prog_11_method_42_code (2 : Nat) (Option.some Jvm.ClassFile.FieldType.int)) ∈ WS := mW 1124 (by decide +kernel) rfl
theorem q_1125 : (Jvm.Cond.methodLink "ChairFrontLaw" (108 : Nat) ({ cls := "ChairFrontModel", name := "count", desc := "(I)I" } : Jvm.MethodName)) ∈ WS := mW 1125 (by decide +kernel) rfl
theorem q_1126 : (Jvm.Cond.instanceMethod ({ cls := "ChairFrontModel", name := "count", desc := "(I)I" } : Jvm.MethodName)) ∈ WS := mW 1126 (by decide +kernel) rfl
theorem q_1127 : (Jvm.Cond.selects "ChairFrontModel" ({ cls := "ChairFrontModel", name := "count", desc := "(I)I" } : Jvm.MethodName) ({ cls := "ChairFrontModel", name := "count", desc := "(I)I" } : Jvm.MethodName)) ∈ WS := mW 1127 (by decide +kernel) rfl
theorem q_1128 : (Jvm.Cond.code ({ cls := "ChairFrontModel", name := "count", desc := "(I)I" } : Jvm.MethodName) prog_11_method_43_code (4 : Nat) (Option.some Jvm.ClassFile.FieldType.int)) ∈ WS := mW 1128 (by decide +kernel) rfl
theorem q_1129 : (Jvm.Cond.constantLong "ChairFrontLaw" (61 : Nat) (4294967295 : Int64)) ∈ WS := mW 1129 (by decide +kernel) rfl
theorem q_1130 : (Jvm.Cond.fieldLink "java/lang/String" (9 : Nat) "java/lang/String" "value" "[B") ∈ WS := mW 1130 (by decide +kernel) rfl
theorem q_1131 : (Jvm.Cond.fieldLink "java/lang/String" (15 : Nat) "java/lang/String" "coder" "B") ∈ WS := mW 1131 (by decide +kernel) rfl
theorem lw_0 : ∀ k, k < 2 → (lw_tbl[([257, 259] : List Nat).getD k 0]? = some (u_lay RX0 TX0 k) ∧ goodWord (u_lay RX0 TX0 k) = true) := by decide +kernel
theorem iw_0 : ∀ w ∈ u_ws RX0 TX0 2, w ∈ WS := by
  intro w hw
  unfold u_ws at hw
  obtain ⟨k, hk, rfl⟩ := List.mem_map.mp hw
  obtain ⟨h1, h2⟩ := lw_0 k (List.mem_range.mp hk)
  exact mW _ h1 h2
theorem lw_1 : ∀ k, k < 4 → (lw_tbl[([238, 240, 242, 244] : List Nat).getD k 0]? = some (u_lay RX1 TX1 k) ∧ goodWord (u_lay RX1 TX1 k) = true) := by decide +kernel
theorem iw_1 : ∀ w ∈ u_ws RX1 TX1 4, w ∈ WS := by
  intro w hw
  unfold u_ws at hw
  obtain ⟨k, hk, rfl⟩ := List.mem_map.mp hw
  obtain ⟨h1, h2⟩ := lw_1 k (List.mem_range.mp hk)
  exact mW _ h1 h2
theorem lw_2 : ∀ k, k < 9 → (lw_tbl[([172, 174, 176, 178, 180, 182, 184, 186, 188] : List Nat).getD k 0]? = some (u_lay RX2 TX2 k) ∧ goodWord (u_lay RX2 TX2 k) = true) := by decide +kernel
theorem iw_2 : ∀ w ∈ u_ws RX2 TX2 9, w ∈ WS := by
  intro w hw
  unfold u_ws at hw
  obtain ⟨k, hk, rfl⟩ := List.mem_map.mp hw
  obtain ⟨h1, h2⟩ := lw_2 k (List.mem_range.mp hk)
  exact mW _ h1 h2
theorem lw_3 : ∀ k, k < 8 → (lw_tbl[([210, 212, 214, 216, 218, 220, 222, 224] : List Nat).getD k 0]? = some (u_lay RX3 TX3 k) ∧ goodWord (u_lay RX3 TX3 k) = true) := by decide +kernel
theorem iw_3 : ∀ w ∈ u_ws RX3 TX3 8, w ∈ WS := by
  intro w hw
  unfold u_ws at hw
  obtain ⟨k, hk, rfl⟩ := List.mem_map.mp hw
  obtain ⟨h1, h2⟩ := lw_3 k (List.mem_range.mp hk)
  exact mW _ h1 h2
theorem lw_4 : ∀ k, k < 7 → (lw_tbl[([288, 290, 292, 294, 296, 298, 300] : List Nat).getD k 0]? = some (u_lay RX4 TX4 k) ∧ goodWord (u_lay RX4 TX4 k) = true) := by decide +kernel
theorem iw_4 : ∀ w ∈ u_ws RX4 TX4 7, w ∈ WS := by
  intro w hw
  unfold u_ws at hw
  obtain ⟨k, hk, rfl⟩ := List.mem_map.mp hw
  obtain ⟨h1, h2⟩ := lw_4 k (List.mem_range.mp hk)
  exact mW _ h1 h2
theorem lw_5 : ∀ k, k < 2 → (lw_tbl[([154, 156] : List Nat).getD k 0]? = some (u_lay RX5 TX5 k) ∧ goodWord (u_lay RX5 TX5 k) = true) := by decide +kernel
theorem iw_5 : ∀ w ∈ u_ws RX5 TX5 2, w ∈ WS := by
  intro w hw
  unfold u_ws at hw
  obtain ⟨k, hk, rfl⟩ := List.mem_map.mp hw
  obtain ⟨h1, h2⟩ := lw_5 k (List.mem_range.mp hk)
  exact mW _ h1 h2
theorem lw_6 : ∀ k, k < 7 → (lw_tbl[([104, 106, 108, 110, 112, 114, 116] : List Nat).getD k 0]? = some (u_lay RX6 TX6 k) ∧ goodWord (u_lay RX6 TX6 k) = true) := by decide +kernel
theorem iw_6 : ∀ w ∈ u_ws RX6 TX6 7, w ∈ WS := by
  intro w hw
  unfold u_ws at hw
  obtain ⟨k, hk, rfl⟩ := List.mem_map.mp hw
  obtain ⟨h1, h2⟩ := lw_6 k (List.mem_range.mp hk)
  exact mW _ h1 h2
theorem lw_7 : ∀ k, k < 5 → (lw_tbl[([127, 129, 131, 133, 135] : List Nat).getD k 0]? = some (u_lay RX7 TX7 k) ∧ goodWord (u_lay RX7 TX7 k) = true) := by decide +kernel
theorem iw_7 : ∀ w ∈ u_ws RX7 TX7 5, w ∈ WS := by
  intro w hw
  unfold u_ws at hw
  obtain ⟨k, hk, rfl⟩ := List.mem_map.mp hw
  obtain ⟨h1, h2⟩ := lw_7 k (List.mem_range.mp hk)
  exact mW _ h1 h2
theorem lw_8 : ∀ k, k < 16 → (lw_tbl[([319, 321, 323, 325, 327, 329, 331, 333, 335, 337, 339, 341, 343, 345, 347, 349] : List Nat).getD k 0]? = some (u_lay RX8 TX8 k) ∧ goodWord (u_lay RX8 TX8 k) = true) := by decide +kernel
theorem iw_8 : ∀ w ∈ u_ws RX8 TX8 16, w ∈ WS := by
  intro w hw
  unfold u_ws at hw
  obtain ⟨k, hk, rfl⟩ := List.mem_map.mp hw
  obtain ⟨h1, h2⟩ := lw_8 k (List.mem_range.mp hk)
  exact mW _ h1 h2
theorem lw_9 : ∀ k, k < 55 → (lw_tbl[([831, 833, 835, 837, 839, 841, 843, 845, 847, 849, 851, 853, 855, 857, 859, 861, 863, 865, 867, 869, 871, 873, 875, 877, 879, 881, 883, 885, 887, 889, 891, 893, 895, 897, 899, 901, 903, 905, 907, 909, 911, 913, 915, 917, 919, 921, 923, 925, 927, 929, 931, 933, 935, 937, 939] : List Nat).getD k 0]? = some (u_lay RX9 TX9 k) ∧ goodWord (u_lay RX9 TX9 k) = true) := by decide +kernel
theorem iw_9 : ∀ w ∈ u_ws RX9 TX9 55, w ∈ WS := by
  intro w hw
  unfold u_ws at hw
  obtain ⟨k, hk, rfl⟩ := List.mem_map.mp hw
  obtain ⟨h1, h2⟩ := lw_9 k (List.mem_range.mp hk)
  exact mW _ h1 h2
theorem q_max : Cond.code Lib.Math.max.name Lib.Math.max.code 2 (some .int) ∈ WS := mW 267 (by decide +kernel) rfl
theorem qs_max : Cond.static Lib.Math.max.name ∈ WS := mW 266 (by decide +kernel) rfl
theorem ql_max_66_265 : Cond.methodLink "ChairFront" 66 Lib.Math.max.name ∈ WS := mW 265 (by decide +kernel) rfl
theorem ql_max_41_639 : Cond.methodLink "ChairFront$Rules" 41 Lib.Math.max.name ∈ WS := mW 639 (by decide +kernel) rfl
theorem ql_max_29_667 : Cond.methodLink "ChairFront$Stretch" 29 Lib.Math.max.name ∈ WS := mW 667 (by decide +kernel) rfl
theorem q_min : Cond.code Lib.Math.min.name Lib.Math.min.code 2 (some .int) ∈ WS := mW 264 (by decide +kernel) rfl
theorem qs_min : Cond.static Lib.Math.min.name ∈ WS := mW 263 (by decide +kernel) rfl
theorem ql_min_60_262 : Cond.methodLink "ChairFront" 60 Lib.Math.min.name ∈ WS := mW 262 (by decide +kernel) rfl
theorem ql_min_35_638 : Cond.methodLink "ChairFront$Rules" 35 Lib.Math.min.name ∈ WS := mW 638 (by decide +kernel) rfl
