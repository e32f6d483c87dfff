/-! the words, by their places in the tables -/
theorem zFilt {L : List Cond} (h : ∀ w ∈ L.filter goodWord, w ∈ lw_tbl) : ∀ w ∈ L.filter goodWord, w ∈ zG := fun w hw => List.mem_filter.mpr ⟨h w hw, (List.mem_filter.mp hw).2⟩
theorem gw_1_89 : Cond.fieldLink RX1 15 (TX1 1).1 (TX1 1).2.1 (TX1 1).2.2.1 ∈ zG := zGt1 (List.mem_of_getElem? (i := 89) (by rfl)) rfl
theorem gw_1_93 : Cond.laysFinal RX1 "ReviewTable$Input" "bytes" "[I" ∈ zG := zGt1 (List.mem_of_getElem? (i := 93) (by rfl)) rfl
theorem gw_1_95 : Cond.lays RX1 "ReviewTable$Input" "length" "I" ∈ zG := zGt1 (List.mem_of_getElem? (i := 95) (by rfl)) rfl
theorem gw_1_97 : Cond.laysFinal RX1 "ReviewTable$Input" "text" "Ljava/lang/StringBuilder;" ∈ zG := zGt1 (List.mem_of_getElem? (i := 97) (by rfl)) rfl
theorem ui_X1 : ∀ w ∈ u_ws RX1 TX1 3, w ∈ zG := show ∀ w ∈ [Cond.laysFinal RX1 "ReviewTable$Input" "bytes" "[I", Cond.lays RX1 "ReviewTable$Input" "length" "I", Cond.laysFinal RX1 "ReviewTable$Input" "text" "Ljava/lang/StringBuilder;"], w ∈ zG from List.forall_mem_cons.mpr ⟨gw_1_93, List.forall_mem_cons.mpr ⟨gw_1_95, List.forall_mem_cons.mpr ⟨gw_1_97, fun _ h => nomatch h⟩⟩⟩
theorem zc_X1 : zcl2 5 RX1 TX1 3 := ⟨rfl, by decide⟩
theorem gw_1_87 : Cond.fieldLink RX1 9 (TX1 0).1 (TX1 0).2.1 (TX1 0).2.2.1 ∈ zG := zGt1 (List.mem_of_getElem? (i := 87) (by rfl)) rfl
theorem gw_2_29 : Cond.fieldLink RX3 25 (TX3 0).1 (TX3 0).2.1 (TX3 0).2.2.1 ∈ zG := zGt2 (List.mem_of_getElem? (i := 29) (by rfl)) rfl
theorem gw_2_42 : Cond.lays RX3 "ReviewTable$Parser" "code" "I" ∈ zG := zGt2 (List.mem_of_getElem? (i := 42) (by rfl)) rfl
theorem gw_2_44 : Cond.lays RX3 "ReviewTable$Parser" "codePosition" "I" ∈ zG := zGt2 (List.mem_of_getElem? (i := 44) (by rfl)) rfl
theorem gw_2_46 : Cond.laysFinal RX3 "ReviewTable$Parser" "input" "LReviewTable$Input;" ∈ zG := zGt2 (List.mem_of_getElem? (i := 46) (by rfl)) rfl
theorem gw_2_48 : Cond.laysFinal RX3 "ReviewTable$Parser" "draft" "LReviewTable$Table;" ∈ zG := zGt2 (List.mem_of_getElem? (i := 48) (by rfl)) rfl
theorem gw_2_50 : Cond.lays RX3 "ReviewTable$Parser" "kind" "I" ∈ zG := zGt2 (List.mem_of_getElem? (i := 50) (by rfl)) rfl
theorem gw_2_52 : Cond.lays RX3 "ReviewTable$Parser" "start" "I" ∈ zG := zGt2 (List.mem_of_getElem? (i := 52) (by rfl)) rfl
theorem gw_2_54 : Cond.lays RX3 "ReviewTable$Parser" "end" "I" ∈ zG := zGt2 (List.mem_of_getElem? (i := 54) (by rfl)) rfl
theorem gw_2_56 : Cond.lays RX3 "ReviewTable$Parser" "value" "I" ∈ zG := zGt2 (List.mem_of_getElem? (i := 56) (by rfl)) rfl
theorem gw_2_58 : Cond.lays RX3 "ReviewTable$Parser" "accepted" "I" ∈ zG := zGt2 (List.mem_of_getElem? (i := 58) (by rfl)) rfl
theorem ui_X3 : ∀ w ∈ u_ws RX3 TX3 9, w ∈ zG := show ∀ w ∈ [Cond.lays RX3 "ReviewTable$Parser" "code" "I", Cond.lays RX3 "ReviewTable$Parser" "codePosition" "I", Cond.laysFinal RX3 "ReviewTable$Parser" "input" "LReviewTable$Input;", Cond.laysFinal RX3 "ReviewTable$Parser" "draft" "LReviewTable$Table;", Cond.lays RX3 "ReviewTable$Parser" "kind" "I", Cond.lays RX3 "ReviewTable$Parser" "start" "I", Cond.lays RX3 "ReviewTable$Parser" "end" "I", Cond.lays RX3 "ReviewTable$Parser" "value" "I", Cond.lays RX3 "ReviewTable$Parser" "accepted" "I"], w ∈ zG from List.forall_mem_cons.mpr ⟨gw_2_42, List.forall_mem_cons.mpr ⟨gw_2_44, List.forall_mem_cons.mpr ⟨gw_2_46, List.forall_mem_cons.mpr ⟨gw_2_48, List.forall_mem_cons.mpr ⟨gw_2_50, List.forall_mem_cons.mpr ⟨gw_2_52, List.forall_mem_cons.mpr ⟨gw_2_54, List.forall_mem_cons.mpr ⟨gw_2_56, List.forall_mem_cons.mpr ⟨gw_2_58, fun _ h => nomatch h⟩⟩⟩⟩⟩⟩⟩⟩⟩
theorem zc_X3 : zcl2 6 RX3 TX3 9 := ⟨rfl, by decide⟩
theorem gw_2_38 : Cond.fieldLink RX3 120 (TX3 5).1 (TX3 5).2.1 (TX3 5).2.2.1 ∈ zG := zGt2 (List.mem_of_getElem? (i := 38) (by rfl)) rfl
theorem gw_2_31 : Cond.fieldLink RX3 29 (TX3 1).1 (TX3 1).2.1 (TX3 1).2.2.1 ∈ zG := zGt2 (List.mem_of_getElem? (i := 31) (by rfl)) rfl
theorem gw_2_40 : Cond.fieldLink RX3 147 (TX3 7).1 (TX3 7).2.1 (TX3 7).2.2.1 ∈ zG := zGt2 (List.mem_of_getElem? (i := 40) (by rfl)) rfl
theorem gw_2_39 : Cond.fieldLink RX3 32 (TX3 6).1 (TX3 6).2.1 (TX3 6).2.2.1 ∈ zG := zGt2 (List.mem_of_getElem? (i := 39) (by rfl)) rfl
theorem gw_2_33 : Cond.fieldLink RX3 12 (TX3 2).1 (TX3 2).2.1 (TX3 2).2.2.1 ∈ zG := zGt2 (List.mem_of_getElem? (i := 33) (by rfl)) rfl
theorem gw_1_88 : Cond.fieldLink RX3 170 (TX1 0).1 (TX1 0).2.1 (TX1 0).2.2.1 ∈ zG := zGt1 (List.mem_of_getElem? (i := 88) (by rfl)) rfl
theorem gw_1_91 : Cond.fieldLink RX3 186 (TX1 1).1 (TX1 1).2.1 (TX1 1).2.2.1 ∈ zG := zGt1 (List.mem_of_getElem? (i := 91) (by rfl)) rfl
theorem gw_1_172 : Cond.methodLink RX4 3 Lib.objectInit ∈ zG := zGt1 (List.mem_of_getElem? (i := 172) (by rfl)) rfl
theorem gw_1_39 : Cond.instanceMethod Lib.objectInit ∈ zG := zGt1 (List.mem_of_getElem? (i := 39) (by rfl)) rfl
theorem gw_1_40 : Cond.code Lib.objectInit ⟨#[0xb1]⟩ 1 none ∈ zG := zGt1 (List.mem_of_getElem? (i := 40) (by rfl)) rfl
theorem gw_1_180 : Cond.fieldLink RX4 9 (TX4 2).1 (TX4 2).2.1 (TX4 2).2.2.1 ∈ zG := zGt1 (List.mem_of_getElem? (i := 180) (by rfl)) rfl
theorem gw_1_203 : Cond.lays RX4 "ReviewTable$Row" "size" "I" ∈ zG := zGt1 (List.mem_of_getElem? (i := 203) (by rfl)) rfl
theorem gw_1_205 : Cond.lays RX4 "ReviewTable$Row" "state" "I" ∈ zG := zGt1 (List.mem_of_getElem? (i := 205) (by rfl)) rfl
theorem gw_1_207 : Cond.lays RX4 "ReviewTable$Row" "result" "I" ∈ zG := zGt1 (List.mem_of_getElem? (i := 207) (by rfl)) rfl
theorem gw_1_209 : Cond.lays RX4 "ReviewTable$Row" "audited" "Z" ∈ zG := zGt1 (List.mem_of_getElem? (i := 209) (by rfl)) rfl
theorem gw_1_211 : Cond.lays RX4 "ReviewTable$Row" "rightNumber" "I" ∈ zG := zGt1 (List.mem_of_getElem? (i := 211) (by rfl)) rfl
theorem gw_1_213 : Cond.lays RX4 "ReviewTable$Row" "tookBefore" "I" ∈ zG := zGt1 (List.mem_of_getElem? (i := 213) (by rfl)) rfl
theorem gw_1_215 : Cond.lays RX4 "ReviewTable$Row" "firstFinisher" "I" ∈ zG := zGt1 (List.mem_of_getElem? (i := 215) (by rfl)) rfl
theorem gw_1_217 : Cond.lays RX4 "ReviewTable$Row" "secondFinisher" "I" ∈ zG := zGt1 (List.mem_of_getElem? (i := 217) (by rfl)) rfl
theorem gw_1_219 : Cond.lays RX4 "ReviewTable$Row" "takingCount" "I" ∈ zG := zGt1 (List.mem_of_getElem? (i := 219) (by rfl)) rfl
theorem gw_1_221 : Cond.laysFinal RX4 "ReviewTable$Row" "takings" "[I" ∈ zG := zGt1 (List.mem_of_getElem? (i := 221) (by rfl)) rfl
theorem ui_X4 : ∀ w ∈ u_ws RX4 TX4 10, w ∈ zG := show ∀ w ∈ [Cond.lays RX4 "ReviewTable$Row" "size" "I", Cond.lays RX4 "ReviewTable$Row" "state" "I", Cond.lays RX4 "ReviewTable$Row" "result" "I", Cond.lays RX4 "ReviewTable$Row" "audited" "Z", Cond.lays RX4 "ReviewTable$Row" "rightNumber" "I", Cond.lays RX4 "ReviewTable$Row" "tookBefore" "I", Cond.lays RX4 "ReviewTable$Row" "firstFinisher" "I", Cond.lays RX4 "ReviewTable$Row" "secondFinisher" "I", Cond.lays RX4 "ReviewTable$Row" "takingCount" "I", Cond.laysFinal RX4 "ReviewTable$Row" "takings" "[I"], w ∈ zG from List.forall_mem_cons.mpr ⟨gw_1_203, List.forall_mem_cons.mpr ⟨gw_1_205, List.forall_mem_cons.mpr ⟨gw_1_207, List.forall_mem_cons.mpr ⟨gw_1_209, List.forall_mem_cons.mpr ⟨gw_1_211, List.forall_mem_cons.mpr ⟨gw_1_213, List.forall_mem_cons.mpr ⟨gw_1_215, List.forall_mem_cons.mpr ⟨gw_1_217, List.forall_mem_cons.mpr ⟨gw_1_219, List.forall_mem_cons.mpr ⟨gw_1_221, fun _ h => nomatch h⟩⟩⟩⟩⟩⟩⟩⟩⟩⟩
theorem zc_X4 : zcl2 7 RX4 TX4 10 := ⟨rfl, by decide⟩
theorem gw_1_186 : Cond.fieldLink RX4 15 (TX4 4).1 (TX4 4).2.1 (TX4 4).2.2.1 ∈ zG := zGt1 (List.mem_of_getElem? (i := 186) (by rfl)) rfl
theorem gw_1_192 : Cond.fieldLink RX4 18 (TX4 6).1 (TX4 6).2.1 (TX4 6).2.2.1 ∈ zG := zGt1 (List.mem_of_getElem? (i := 192) (by rfl)) rfl
theorem gw_1_195 : Cond.fieldLink RX4 21 (TX4 7).1 (TX4 7).2.1 (TX4 7).2.2.1 ∈ zG := zGt1 (List.mem_of_getElem? (i := 195) (by rfl)) rfl
theorem gw_1_85 : Cond.arrayClass (newarray.typeOf .int) ∈ zG := zGt1 (List.mem_of_getElem? (i := 85) (by rfl)) rfl
theorem gw_1_202 : Cond.fieldLink RX4 24 (TX4 9).1 (TX4 9).2.1 (TX4 9).2.2.1 ∈ zG := zGt1 (List.mem_of_getElem? (i := 202) (by rfl)) rfl
theorem gw_1_173 : Cond.fieldLink RX4 28 (TX4 0).1 (TX4 0).2.1 (TX4 0).2.2.1 ∈ zG := zGt1 (List.mem_of_getElem? (i := 173) (by rfl)) rfl
theorem gw_1_177 : Cond.fieldLink RX4 31 (TX4 1).1 (TX4 1).2.1 (TX4 1).2.2.1 ∈ zG := zGt1 (List.mem_of_getElem? (i := 177) (by rfl)) rfl
theorem gw_1_183 : Cond.fieldLink RX4 34 (TX4 3).1 (TX4 3).2.1 (TX4 3).2.2.1 ∈ zG := zGt1 (List.mem_of_getElem? (i := 183) (by rfl)) rfl
theorem gw_1_189 : Cond.fieldLink RX4 38 (TX4 5).1 (TX4 5).2.1 (TX4 5).2.2.1 ∈ zG := zGt1 (List.mem_of_getElem? (i := 189) (by rfl)) rfl
theorem gw_1_199 : Cond.fieldLink RX4 41 (TX4 8).1 (TX4 8).2.1 (TX4 8).2.2.1 ∈ zG := zGt1 (List.mem_of_getElem? (i := 199) (by rfl)) rfl
theorem gw_4_224 : Cond.methodLink RX4 44 arraycopyName ∈ zG := zGt4 (List.mem_of_getElem? (i := 224) (by rfl)) rfl
theorem gw_3_114 : Cond.native arraycopyName ∈ zG := zGt3 (List.mem_of_getElem? (i := 114) (by rfl)) rfl
theorem gw_3_113 : Cond.static arraycopyName ∈ zG := zGt3 (List.mem_of_getElem? (i := 113) (by rfl)) rfl
theorem gw_1_28 : Cond.initialized "java/lang/System" ∈ zG := zGt1 (List.mem_of_getElem? (i := 28) (by rfl)) rfl
theorem gw_5_82 : Cond.code yX4_resultAt cX4_resultAt 2 (Option.some Jvm.ClassFile.FieldType.int) ∈ zG := zGt5 (List.mem_of_getElem? (i := 82) (by rfl)) rfl
theorem gw_1_10 : Cond.initialized RX4 ∈ zG := zGt1 (List.mem_of_getElem? (i := 10) (by rfl)) rfl
theorem gw_5_79 : Cond.methodLink RX4 50 yX4_resultAt ∈ zG := zGt5 (List.mem_of_getElem? (i := 79) (by rfl)) rfl
theorem gw_5_80 : Cond.instanceMethod yX4_resultAt ∈ zG := zGt5 (List.mem_of_getElem? (i := 80) (by rfl)) rfl
theorem gw_5_81 : Cond.selects RX4 yX4_resultAt yX4_resultAt ∈ zG := zGt5 (List.mem_of_getElem? (i := 81) (by rfl)) rfl
theorem gw_5_78 : Cond.code yX4_isInWork cX4_isInWork 2 (Option.some Jvm.ClassFile.FieldType.boolean) ∈ zG := zGt5 (List.mem_of_getElem? (i := 78) (by rfl)) rfl
theorem gw_5_75 : Cond.methodLink RX4 54 yX4_isInWork ∈ zG := zGt5 (List.mem_of_getElem? (i := 75) (by rfl)) rfl
theorem gw_5_76 : Cond.instanceMethod yX4_isInWork ∈ zG := zGt5 (List.mem_of_getElem? (i := 76) (by rfl)) rfl
theorem gw_5_77 : Cond.selects RX4 yX4_isInWork yX4_isInWork ∈ zG := zGt5 (List.mem_of_getElem? (i := 77) (by rfl)) rfl
theorem gw_5_86 : Cond.code yX4_dueAt cX4_dueAt 2 (Option.some Jvm.ClassFile.FieldType.int) ∈ zG := zGt5 (List.mem_of_getElem? (i := 86) (by rfl)) rfl
theorem gw_5_83 : Cond.methodLink RX4 58 yX4_dueAt ∈ zG := zGt5 (List.mem_of_getElem? (i := 83) (by rfl)) rfl
theorem gw_5_84 : Cond.instanceMethod yX4_dueAt ∈ zG := zGt5 (List.mem_of_getElem? (i := 84) (by rfl)) rfl
theorem gw_5_85 : Cond.selects RX4 yX4_dueAt yX4_dueAt ∈ zG := zGt5 (List.mem_of_getElem? (i := 85) (by rfl)) rfl
theorem gw_5_28 : Cond.code yX4_isClosed cX4_isClosed 1 (Option.some Jvm.ClassFile.FieldType.boolean) ∈ zG := zGt5 (List.mem_of_getElem? (i := 28) (by rfl)) rfl
theorem gw_5_25 : Cond.methodLink RX4 61 yX4_isClosed ∈ zG := zGt5 (List.mem_of_getElem? (i := 25) (by rfl)) rfl
theorem gw_5_26 : Cond.instanceMethod yX4_isClosed ∈ zG := zGt5 (List.mem_of_getElem? (i := 26) (by rfl)) rfl
theorem gw_5_27 : Cond.selects RX4 yX4_isClosed yX4_isClosed ∈ zG := zGt5 (List.mem_of_getElem? (i := 27) (by rfl)) rfl
theorem gw_5_29 : Cond.methodLink RX4 65 Lib.Math.max.name ∈ zG := zGt5 (List.mem_of_getElem? (i := 29) (by rfl)) rfl
theorem gw_3_92 : Cond.static Lib.Math.max.name ∈ zG := zGt3 (List.mem_of_getElem? (i := 92) (by rfl)) rfl
theorem gw_1_27 : Cond.initialized "java/lang/Math" ∈ zG := zGt1 (List.mem_of_getElem? (i := 27) (by rfl)) rfl
theorem gw_3_93 : Cond.code Lib.Math.max.name Lib.Math.max.code 2 (some .int) ∈ zG := zGt3 (List.mem_of_getElem? (i := 93) (by rfl)) rfl
theorem gw_5_37 : Cond.code yX4_workerAt cX4_workerAt 2 (Option.some Jvm.ClassFile.FieldType.int) ∈ zG := zGt5 (List.mem_of_getElem? (i := 37) (by rfl)) rfl
theorem gw_6_105 : Cond.methodLink RX4 71 yX4_workerAt ∈ zG := zGt6 (List.mem_of_getElem? (i := 105) (by rfl)) rfl
theorem gw_5_35 : Cond.instanceMethod yX4_workerAt ∈ zG := zGt5 (List.mem_of_getElem? (i := 35) (by rfl)) rfl
theorem gw_5_36 : Cond.selects RX4 yX4_workerAt yX4_workerAt ∈ zG := zGt5 (List.mem_of_getElem? (i := 36) (by rfl)) rfl
theorem gw_6_104 : Cond.code yX4_takingBy cX4_takingBy 3 (Option.some Jvm.ClassFile.FieldType.int) ∈ zG := zGt6 (List.mem_of_getElem? (i := 104) (by rfl)) rfl
theorem gw_6_101 : Cond.methodLink RX4 74 yX4_takingBy ∈ zG := zGt6 (List.mem_of_getElem? (i := 101) (by rfl)) rfl
theorem gw_6_102 : Cond.instanceMethod yX4_takingBy ∈ zG := zGt6 (List.mem_of_getElem? (i := 102) (by rfl)) rfl
theorem gw_6_103 : Cond.selects RX4 yX4_takingBy yX4_takingBy ∈ zG := zGt6 (List.mem_of_getElem? (i := 103) (by rfl)) rfl
theorem gw_6_151 : Cond.code yX4_isLateAt cX4_isLateAt 3 (Option.some Jvm.ClassFile.FieldType.boolean) ∈ zG := zGt6 (List.mem_of_getElem? (i := 151) (by rfl)) rfl
theorem gw_6_148 : Cond.methodLink RX4 77 yX4_isLateAt ∈ zG := zGt6 (List.mem_of_getElem? (i := 148) (by rfl)) rfl
theorem gw_6_149 : Cond.instanceMethod yX4_isLateAt ∈ zG := zGt6 (List.mem_of_getElem? (i := 149) (by rfl)) rfl
theorem gw_6_150 : Cond.selects RX4 yX4_isLateAt yX4_isLateAt ∈ zG := zGt6 (List.mem_of_getElem? (i := 150) (by rfl)) rfl
theorem gw_1_238 : Cond.fieldLink RX5 27 (TX5 5).1 (TX5 5).2.1 (TX5 5).2.2.1 ∈ zG := zGt1 (List.mem_of_getElem? (i := 238) (by rfl)) rfl
theorem gw_2_8 : Cond.lays RX5 "ReviewTable$Table" "tolerance" "I" ∈ zG := zGt2 (List.mem_of_getElem? (i := 8) (by rfl)) rfl
theorem gw_2_10 : Cond.lays RX5 "ReviewTable$Table" "patience" "I" ∈ zG := zGt2 (List.mem_of_getElem? (i := 10) (by rfl)) rfl
theorem gw_2_12 : Cond.lays RX5 "ReviewTable$Table" "least" "I" ∈ zG := zGt2 (List.mem_of_getElem? (i := 12) (by rfl)) rfl
theorem gw_2_14 : Cond.lays RX5 "ReviewTable$Table" "time" "I" ∈ zG := zGt2 (List.mem_of_getElem? (i := 14) (by rfl)) rfl
theorem gw_2_16 : Cond.lays RX5 "ReviewTable$Table" "workerCount" "I" ∈ zG := zGt2 (List.mem_of_getElem? (i := 16) (by rfl)) rfl
theorem gw_2_18 : Cond.lays RX5 "ReviewTable$Table" "rowCount" "I" ∈ zG := zGt2 (List.mem_of_getElem? (i := 18) (by rfl)) rfl
theorem gw_2_20 : Cond.laysFinal RX5 "ReviewTable$Table" "workers" "[LReviewTable$Worker;" ∈ zG := zGt2 (List.mem_of_getElem? (i := 20) (by rfl)) rfl
theorem gw_2_22 : Cond.laysFinal RX5 "ReviewTable$Table" "rows" "[LReviewTable$Row;" ∈ zG := zGt2 (List.mem_of_getElem? (i := 22) (by rfl)) rfl
theorem gw_2_24 : Cond.laysFinal RX5 "ReviewTable$Table" "strikeCount" "[I" ∈ zG := zGt2 (List.mem_of_getElem? (i := 24) (by rfl)) rfl
theorem gw_2_26 : Cond.laysFinal RX5 "ReviewTable$Table" "toldApart" "[I" ∈ zG := zGt2 (List.mem_of_getElem? (i := 26) (by rfl)) rfl
theorem ui_X5 : ∀ w ∈ u_ws RX5 TX5 10, w ∈ zG := show ∀ w ∈ [Cond.lays RX5 "ReviewTable$Table" "tolerance" "I", Cond.lays RX5 "ReviewTable$Table" "patience" "I", Cond.lays RX5 "ReviewTable$Table" "least" "I", Cond.lays RX5 "ReviewTable$Table" "time" "I", Cond.lays RX5 "ReviewTable$Table" "workerCount" "I", Cond.lays RX5 "ReviewTable$Table" "rowCount" "I", Cond.laysFinal RX5 "ReviewTable$Table" "workers" "[LReviewTable$Worker;", Cond.laysFinal RX5 "ReviewTable$Table" "rows" "[LReviewTable$Row;", Cond.laysFinal RX5 "ReviewTable$Table" "strikeCount" "[I", Cond.laysFinal RX5 "ReviewTable$Table" "toldApart" "[I"], w ∈ zG from List.forall_mem_cons.mpr ⟨gw_2_8, List.forall_mem_cons.mpr ⟨gw_2_10, List.forall_mem_cons.mpr ⟨gw_2_12, List.forall_mem_cons.mpr ⟨gw_2_14, List.forall_mem_cons.mpr ⟨gw_2_16, List.forall_mem_cons.mpr ⟨gw_2_18, List.forall_mem_cons.mpr ⟨gw_2_20, List.forall_mem_cons.mpr ⟨gw_2_22, List.forall_mem_cons.mpr ⟨gw_2_24, List.forall_mem_cons.mpr ⟨gw_2_26, fun _ h => nomatch h⟩⟩⟩⟩⟩⟩⟩⟩⟩⟩
theorem zc_X5 : zcl2 8 RX5 TX5 10 := ⟨rfl, by decide⟩
theorem gw_2_3 : Cond.fieldLink RX5 38 (TX5 7).1 (TX5 7).2.1 (TX5 7).2.2.1 ∈ zG := zGt2 (List.mem_of_getElem? (i := 3) (by rfl)) rfl
theorem gw_4_186 : Cond.code yX4_begin cX4_begin 2 (Option.none : Option Jvm.ClassFile.FieldType) ∈ zG := zGt4 (List.mem_of_getElem? (i := 186) (by rfl)) rfl
theorem gw_4_183 : Cond.methodLink RX5 74 yX4_begin ∈ zG := zGt4 (List.mem_of_getElem? (i := 183) (by rfl)) rfl
theorem gw_4_184 : Cond.instanceMethod yX4_begin ∈ zG := zGt4 (List.mem_of_getElem? (i := 184) (by rfl)) rfl
theorem gw_4_185 : Cond.selects RX4 yX4_begin yX4_begin ∈ zG := zGt4 (List.mem_of_getElem? (i := 185) (by rfl)) rfl
theorem gw_4_203 : Cond.code yX5_pairIndex cX5_pairIndex 2 (Option.some Jvm.ClassFile.FieldType.int) ∈ zG := zGt4 (List.mem_of_getElem? (i := 203) (by rfl)) rfl
theorem gw_1_8 : Cond.initialized RX5 ∈ zG := zGt1 (List.mem_of_getElem? (i := 8) (by rfl)) rfl
theorem gw_4_201 : Cond.methodLink RX5 87 yX5_pairIndex ∈ zG := zGt4 (List.mem_of_getElem? (i := 201) (by rfl)) rfl
theorem gw_4_202 : Cond.static yX5_pairIndex ∈ zG := zGt4 (List.mem_of_getElem? (i := 202) (by rfl)) rfl
theorem gw_2_7 : Cond.fieldLink RX5 46 (TX5 9).1 (TX5 9).2.1 (TX5 9).2.2.1 ∈ zG := zGt2 (List.mem_of_getElem? (i := 7) (by rfl)) rfl
theorem gw_2_5 : Cond.fieldLink RX5 42 (TX5 8).1 (TX5 8).2.1 (TX5 8).2.2.1 ∈ zG := zGt2 (List.mem_of_getElem? (i := 5) (by rfl)) rfl
theorem gw_6_110 : Cond.methodLink RX5 91 Lib.Math.abs.name ∈ zG := zGt6 (List.mem_of_getElem? (i := 110) (by rfl)) rfl
theorem gw_6_111 : Cond.static Lib.Math.abs.name ∈ zG := zGt6 (List.mem_of_getElem? (i := 111) (by rfl)) rfl
theorem gw_6_112 : Cond.code Lib.Math.abs.name Lib.Math.abs.code 1 (some .int) ∈ zG := zGt6 (List.mem_of_getElem? (i := 112) (by rfl)) rfl
theorem gw_1_224 : Cond.fieldLink RX5 9 (TX5 0).1 (TX5 0).2.1 (TX5 0).2.2.1 ∈ zG := zGt1 (List.mem_of_getElem? (i := 224) (by rfl)) rfl
theorem gw_2_0 : Cond.fieldLink RX5 32 (TX5 6).1 (TX5 6).2.1 (TX5 6).2.2.1 ∈ zG := zGt2 (List.mem_of_getElem? (i := 0) (by rfl)) rfl
theorem gw_1_128 : Cond.fieldLink RX5 97 (TX7 3).1 (TX7 3).2.1 (TX7 3).2.2.1 ∈ zG := zGt1 (List.mem_of_getElem? (i := 128) (by rfl)) rfl
theorem gw_1_147 : Cond.lays RX7 "ReviewTable$Worker" "name" "Ljava/lang/String;" ∈ zG := zGt1 (List.mem_of_getElem? (i := 147) (by rfl)) rfl
theorem gw_1_149 : Cond.lays RX7 "ReviewTable$Worker" "team" "I" ∈ zG := zGt1 (List.mem_of_getElem? (i := 149) (by rfl)) rfl
theorem gw_1_151 : Cond.lays RX7 "ReviewTable$Worker" "quota" "I" ∈ zG := zGt1 (List.mem_of_getElem? (i := 151) (by rfl)) rfl
theorem gw_1_153 : Cond.lays RX7 "ReviewTable$Worker" "trust" "I" ∈ zG := zGt1 (List.mem_of_getElem? (i := 153) (by rfl)) rfl
theorem gw_1_155 : Cond.lays RX7 "ReviewTable$Worker" "inWork" "I" ∈ zG := zGt1 (List.mem_of_getElem? (i := 155) (by rfl)) rfl
theorem gw_1_157 : Cond.lays RX7 "ReviewTable$Worker" "made" "I" ∈ zG := zGt1 (List.mem_of_getElem? (i := 157) (by rfl)) rfl
theorem gw_1_159 : Cond.lays RX7 "ReviewTable$Worker" "delivered" "I" ∈ zG := zGt1 (List.mem_of_getElem? (i := 159) (by rfl)) rfl
theorem gw_1_161 : Cond.lays RX7 "ReviewTable$Worker" "finished" "I" ∈ zG := zGt1 (List.mem_of_getElem? (i := 161) (by rfl)) rfl
theorem gw_1_163 : Cond.lays RX7 "ReviewTable$Worker" "late" "I" ∈ zG := zGt1 (List.mem_of_getElem? (i := 163) (by rfl)) rfl
theorem gw_1_165 : Cond.lays RX7 "ReviewTable$Worker" "points" "I" ∈ zG := zGt1 (List.mem_of_getElem? (i := 165) (by rfl)) rfl
theorem ui_X7 : ∀ w ∈ u_ws RX7 TX7 10, w ∈ zG := show ∀ w ∈ [Cond.lays RX7 "ReviewTable$Worker" "name" "Ljava/lang/String;", Cond.lays RX7 "ReviewTable$Worker" "team" "I", Cond.lays RX7 "ReviewTable$Worker" "quota" "I", Cond.lays RX7 "ReviewTable$Worker" "trust" "I", Cond.lays RX7 "ReviewTable$Worker" "inWork" "I", Cond.lays RX7 "ReviewTable$Worker" "made" "I", Cond.lays RX7 "ReviewTable$Worker" "delivered" "I", Cond.lays RX7 "ReviewTable$Worker" "finished" "I", Cond.lays RX7 "ReviewTable$Worker" "late" "I", Cond.lays RX7 "ReviewTable$Worker" "points" "I"], w ∈ zG from List.forall_mem_cons.mpr ⟨gw_1_147, List.forall_mem_cons.mpr ⟨gw_1_149, List.forall_mem_cons.mpr ⟨gw_1_151, List.forall_mem_cons.mpr ⟨gw_1_153, List.forall_mem_cons.mpr ⟨gw_1_155, List.forall_mem_cons.mpr ⟨gw_1_157, List.forall_mem_cons.mpr ⟨gw_1_159, List.forall_mem_cons.mpr ⟨gw_1_161, List.forall_mem_cons.mpr ⟨gw_1_163, List.forall_mem_cons.mpr ⟨gw_1_165, fun _ h => nomatch h⟩⟩⟩⟩⟩⟩⟩⟩⟩⟩
theorem zc_X7 : zcl2 10 RX7 TX7 10 := ⟨rfl, by decide⟩
theorem gw_1_230 : Cond.fieldLink RX5 18 (TX5 2).1 (TX5 2).2.1 (TX5 2).2.2.1 ∈ zG := zGt1 (List.mem_of_getElem? (i := 230) (by rfl)) rfl
theorem gw_1_185 : Cond.fieldLink RX5 100 (TX4 3).1 (TX4 3).2.1 (TX4 3).2.2.1 ∈ zG := zGt1 (List.mem_of_getElem? (i := 185) (by rfl)) rfl
theorem gw_1_179 : Cond.fieldLink RX5 104 (TX4 1).1 (TX4 1).2.1 (TX4 1).2.2.1 ∈ zG := zGt1 (List.mem_of_getElem? (i := 179) (by rfl)) rfl
theorem gw_6_100 : Cond.code yX4_resultBy cX4_resultBy 3 (Option.some Jvm.ClassFile.FieldType.int) ∈ zG := zGt6 (List.mem_of_getElem? (i := 100) (by rfl)) rfl
theorem gw_6_97 : Cond.methodLink RX5 107 yX4_resultBy ∈ zG := zGt6 (List.mem_of_getElem? (i := 97) (by rfl)) rfl
theorem gw_6_98 : Cond.instanceMethod yX4_resultBy ∈ zG := zGt6 (List.mem_of_getElem? (i := 98) (by rfl)) rfl
theorem gw_6_99 : Cond.selects RX4 yX4_resultBy yX4_resultBy ∈ zG := zGt6 (List.mem_of_getElem? (i := 99) (by rfl)) rfl
theorem gw_6_109 : Cond.code yX5_agree cX5_agree 3 (Option.some Jvm.ClassFile.FieldType.boolean) ∈ zG := zGt6 (List.mem_of_getElem? (i := 109) (by rfl)) rfl
theorem gw_6_106 : Cond.methodLink RX5 110 yX5_agree ∈ zG := zGt6 (List.mem_of_getElem? (i := 106) (by rfl)) rfl
theorem gw_6_107 : Cond.instanceMethod yX5_agree ∈ zG := zGt6 (List.mem_of_getElem? (i := 107) (by rfl)) rfl
theorem gw_6_108 : Cond.selects RX5 yX5_agree yX5_agree ∈ zG := zGt6 (List.mem_of_getElem? (i := 108) (by rfl)) rfl
theorem gw_1_191 : Cond.fieldLink RX5 132 (TX4 5).1 (TX4 5).2.1 (TX4 5).2.2.1 ∈ zG := zGt1 (List.mem_of_getElem? (i := 191) (by rfl)) rfl
theorem gw_1_201 : Cond.fieldLink RX5 135 (TX4 8).1 (TX4 8).2.1 (TX4 8).2.2.1 ∈ zG := zGt1 (List.mem_of_getElem? (i := 201) (by rfl)) rfl
theorem gw_5_34 : Cond.methodLink RX5 138 yX4_workerAt ∈ zG := zGt5 (List.mem_of_getElem? (i := 34) (by rfl)) rfl
theorem gw_1_121 : Cond.fieldLink RX5 141 (TX7 1).1 (TX7 1).2.1 (TX7 1).2.2.1 ∈ zG := zGt1 (List.mem_of_getElem? (i := 121) (by rfl)) rfl
theorem gw_4_200 : Cond.code yX5_areKeptApart cX5_areKeptApart 4 (Option.some Jvm.ClassFile.FieldType.boolean) ∈ zG := zGt4 (List.mem_of_getElem? (i := 200) (by rfl)) rfl
theorem gw_5_38 : Cond.methodLink RX5 144 yX5_areKeptApart ∈ zG := zGt5 (List.mem_of_getElem? (i := 38) (by rfl)) rfl
theorem gw_4_198 : Cond.instanceMethod yX5_areKeptApart ∈ zG := zGt4 (List.mem_of_getElem? (i := 198) (by rfl)) rfl
theorem gw_4_199 : Cond.selects RX5 yX5_areKeptApart yX5_areKeptApart ∈ zG := zGt4 (List.mem_of_getElem? (i := 199) (by rfl)) rfl
theorem gw_5_24 : Cond.code yX4_missingWorkers cX4_missingWorkers 2 (Option.some Jvm.ClassFile.FieldType.int) ∈ zG := zGt5 (List.mem_of_getElem? (i := 24) (by rfl)) rfl
theorem gw_5_21 : Cond.methodLink RX5 124 yX4_missingWorkers ∈ zG := zGt5 (List.mem_of_getElem? (i := 21) (by rfl)) rfl
theorem gw_5_22 : Cond.instanceMethod yX4_missingWorkers ∈ zG := zGt5 (List.mem_of_getElem? (i := 22) (by rfl)) rfl
theorem gw_5_23 : Cond.selects RX4 yX4_missingWorkers yX4_missingWorkers ∈ zG := zGt5 (List.mem_of_getElem? (i := 23) (by rfl)) rfl
theorem gw_1_235 : Cond.fieldLink RX5 24 (TX5 4).1 (TX5 4).2.1 (TX5 4).2.2.1 ∈ zG := zGt1 (List.mem_of_getElem? (i := 235) (by rfl)) rfl
theorem gw_5_33 : Cond.code yX5_clashWith cX5_clashWith 6 (Option.some Jvm.ClassFile.FieldType.int) ∈ zG := zGt5 (List.mem_of_getElem? (i := 33) (by rfl)) rfl
theorem gw_5_30 : Cond.methodLink RX5 128 yX5_clashWith ∈ zG := zGt5 (List.mem_of_getElem? (i := 30) (by rfl)) rfl
theorem gw_5_31 : Cond.instanceMethod yX5_clashWith ∈ zG := zGt5 (List.mem_of_getElem? (i := 31) (by rfl)) rfl
theorem gw_5_32 : Cond.selects RX5 yX5_clashWith yX5_clashWith ∈ zG := zGt5 (List.mem_of_getElem? (i := 32) (by rfl)) rfl
theorem gw_1_131 : Cond.fieldLink RX5 118 (TX7 4).1 (TX7 4).2.1 (TX7 4).2.2.1 ∈ zG := zGt1 (List.mem_of_getElem? (i := 131) (by rfl)) rfl
theorem gw_1_137 : Cond.fieldLink RX5 175 (TX7 6).1 (TX7 6).2.1 (TX7 6).2.2.1 ∈ zG := zGt1 (List.mem_of_getElem? (i := 137) (by rfl)) rfl
theorem gw_7_28 : Cond.code yX4_enterResult cX4_enterResult 3 (Option.none : Option Jvm.ClassFile.FieldType) ∈ zG := zGt7 (List.mem_of_getElem? (i := 28) (by rfl)) rfl
theorem gw_7_25 : Cond.methodLink RX5 178 yX4_enterResult ∈ zG := zGt7 (List.mem_of_getElem? (i := 25) (by rfl)) rfl
theorem gw_7_26 : Cond.instanceMethod yX4_enterResult ∈ zG := zGt7 (List.mem_of_getElem? (i := 26) (by rfl)) rfl
theorem gw_7_27 : Cond.selects RX4 yX4_enterResult yX4_enterResult ∈ zG := zGt7 (List.mem_of_getElem? (i := 27) (by rfl)) rfl
theorem gw_1_140 : Cond.fieldLink RX5 212 (TX7 7).1 (TX7 7).2.1 (TX7 7).2.2.1 ∈ zG := zGt1 (List.mem_of_getElem? (i := 140) (by rfl)) rfl
theorem gw_1_146 : Cond.fieldLink RX5 215 (TX7 9).1 (TX7 9).2.1 (TX7 9).2.2.1 ∈ zG := zGt1 (List.mem_of_getElem? (i := 146) (by rfl)) rfl
theorem gw_1_194 : Cond.fieldLink RX5 197 (TX4 6).1 (TX4 6).2.1 (TX4 6).2.2.1 ∈ zG := zGt1 (List.mem_of_getElem? (i := 194) (by rfl)) rfl
theorem gw_1_197 : Cond.fieldLink RX5 203 (TX4 7).1 (TX4 7).2.1 (TX4 7).2.2.1 ∈ zG := zGt1 (List.mem_of_getElem? (i := 197) (by rfl)) rfl
theorem gw_5_45 : Cond.methodLink RX5 165 Lib.Math.min.name ∈ zG := zGt5 (List.mem_of_getElem? (i := 45) (by rfl)) rfl
theorem gw_3_110 : Cond.static Lib.Math.min.name ∈ zG := zGt3 (List.mem_of_getElem? (i := 110) (by rfl)) rfl
theorem gw_3_111 : Cond.code Lib.Math.min.name Lib.Math.min.code 2 (some .int) ∈ zG := zGt3 (List.mem_of_getElem? (i := 111) (by rfl)) rfl
theorem gw_5_66 : Cond.code yX5_riskOf cX5_riskOf 2 (Option.some Jvm.ClassFile.FieldType.int) ∈ zG := zGt5 (List.mem_of_getElem? (i := 66) (by rfl)) rfl
theorem gw_5_63 : Cond.methodLink RX5 244 yX5_riskOf ∈ zG := zGt5 (List.mem_of_getElem? (i := 63) (by rfl)) rfl
theorem gw_5_64 : Cond.instanceMethod yX5_riskOf ∈ zG := zGt5 (List.mem_of_getElem? (i := 64) (by rfl)) rfl
theorem gw_5_65 : Cond.selects RX5 yX5_riskOf yX5_riskOf ∈ zG := zGt5 (List.mem_of_getElem? (i := 65) (by rfl)) rfl
theorem gw_1_175 : Cond.fieldLink RX5 206 (TX4 0).1 (TX4 0).2.1 (TX4 0).2.2.1 ∈ zG := zGt1 (List.mem_of_getElem? (i := 175) (by rfl)) rfl
theorem gw_2_88 : Cond.methodLink RX6 3 Lib.objectInit ∈ zG := zGt2 (List.mem_of_getElem? (i := 88) (by rfl)) rfl
theorem gw_2_98 : Cond.fieldLink RX6 9 (TX6 4).1 (TX6 4).2.1 (TX6 4).2.2.1 ∈ zG := zGt2 (List.mem_of_getElem? (i := 98) (by rfl)) rfl
theorem gw_2_103 : Cond.lays RX6 "ReviewTable$Verdict" "state" "I" ∈ zG := zGt2 (List.mem_of_getElem? (i := 103) (by rfl)) rfl
theorem gw_2_105 : Cond.lays RX6 "ReviewTable$Verdict" "result" "I" ∈ zG := zGt2 (List.mem_of_getElem? (i := 105) (by rfl)) rfl
theorem gw_2_107 : Cond.lays RX6 "ReviewTable$Verdict" "earlier" "I" ∈ zG := zGt2 (List.mem_of_getElem? (i := 107) (by rfl)) rfl
theorem gw_2_109 : Cond.lays RX6 "ReviewTable$Verdict" "later" "I" ∈ zG := zGt2 (List.mem_of_getElem? (i := 109) (by rfl)) rfl
theorem gw_2_111 : Cond.laysFinal RX6 "ReviewTable$Verdict" "change" "[I" ∈ zG := zGt2 (List.mem_of_getElem? (i := 111) (by rfl)) rfl
theorem gw_2_113 : Cond.laysFinal RX6 "ReviewTable$Verdict" "results" "[I" ∈ zG := zGt2 (List.mem_of_getElem? (i := 113) (by rfl)) rfl
theorem gw_2_115 : Cond.laysFinal RX6 "ReviewTable$Verdict" "trusts" "[I" ∈ zG := zGt2 (List.mem_of_getElem? (i := 115) (by rfl)) rfl
theorem ui_X6 : ∀ w ∈ u_ws RX6 TX6 7, w ∈ zG := show ∀ w ∈ [Cond.lays RX6 "ReviewTable$Verdict" "state" "I", Cond.lays RX6 "ReviewTable$Verdict" "result" "I", Cond.lays RX6 "ReviewTable$Verdict" "earlier" "I", Cond.lays RX6 "ReviewTable$Verdict" "later" "I", Cond.laysFinal RX6 "ReviewTable$Verdict" "change" "[I", Cond.laysFinal RX6 "ReviewTable$Verdict" "results" "[I", Cond.laysFinal RX6 "ReviewTable$Verdict" "trusts" "[I"], w ∈ zG from List.forall_mem_cons.mpr ⟨gw_2_103, List.forall_mem_cons.mpr ⟨gw_2_105, List.forall_mem_cons.mpr ⟨gw_2_107, List.forall_mem_cons.mpr ⟨gw_2_109, List.forall_mem_cons.mpr ⟨gw_2_111, List.forall_mem_cons.mpr ⟨gw_2_113, List.forall_mem_cons.mpr ⟨gw_2_115, fun _ h => nomatch h⟩⟩⟩⟩⟩⟩⟩
theorem zc_X6 : zcl2 9 RX6 TX6 7 := ⟨rfl, by decide⟩
theorem gw_2_101 : Cond.fieldLink RX6 15 (TX6 5).1 (TX6 5).2.1 (TX6 5).2.2.1 ∈ zG := zGt2 (List.mem_of_getElem? (i := 101) (by rfl)) rfl
theorem gw_2_102 : Cond.fieldLink RX6 18 (TX6 6).1 (TX6 6).2.1 (TX6 6).2.2.1 ∈ zG := zGt2 (List.mem_of_getElem? (i := 102) (by rfl)) rfl
theorem gw_2_89 : Cond.fieldLink RX6 27 (TX6 0).1 (TX6 0).2.1 (TX6 0).2.2.1 ∈ zG := zGt2 (List.mem_of_getElem? (i := 89) (by rfl)) rfl
theorem gw_2_94 : Cond.fieldLink RX6 31 (TX6 2).1 (TX6 2).2.1 (TX6 2).2.2.1 ∈ zG := zGt2 (List.mem_of_getElem? (i := 94) (by rfl)) rfl
theorem gw_2_96 : Cond.fieldLink RX6 34 (TX6 3).1 (TX6 3).2.1 (TX6 3).2.2.1 ∈ zG := zGt2 (List.mem_of_getElem? (i := 96) (by rfl)) rfl
theorem gw_2_92 : Cond.fieldLink RX6 28 (TX6 1).1 (TX6 1).2.1 (TX6 1).2.2.1 ∈ zG := zGt2 (List.mem_of_getElem? (i := 92) (by rfl)) rfl
theorem gw_1_114 : Cond.methodLink RX7 1 Lib.objectInit ∈ zG := zGt1 (List.mem_of_getElem? (i := 114) (by rfl)) rfl
theorem gw_1_116 : Cond.fieldLink RX7 9 (TX7 0).1 (TX7 0).2.1 (TX7 0).2.2.1 ∈ zG := zGt1 (List.mem_of_getElem? (i := 116) (by rfl)) rfl
theorem gw_1_119 : Cond.fieldLink RX7 15 (TX7 1).1 (TX7 1).2.1 (TX7 1).2.2.1 ∈ zG := zGt1 (List.mem_of_getElem? (i := 119) (by rfl)) rfl
theorem gw_1_122 : Cond.fieldLink RX7 19 (TX7 2).1 (TX7 2).2.1 (TX7 2).2.2.1 ∈ zG := zGt1 (List.mem_of_getElem? (i := 122) (by rfl)) rfl
theorem gw_1_125 : Cond.fieldLink RX7 22 (TX7 3).1 (TX7 3).2.1 (TX7 3).2.2.1 ∈ zG := zGt1 (List.mem_of_getElem? (i := 125) (by rfl)) rfl
theorem gw_1_129 : Cond.fieldLink RX7 25 (TX7 4).1 (TX7 4).2.1 (TX7 4).2.2.1 ∈ zG := zGt1 (List.mem_of_getElem? (i := 129) (by rfl)) rfl
theorem gw_1_132 : Cond.fieldLink RX7 28 (TX7 5).1 (TX7 5).2.1 (TX7 5).2.2.1 ∈ zG := zGt1 (List.mem_of_getElem? (i := 132) (by rfl)) rfl
theorem gw_1_135 : Cond.fieldLink RX7 31 (TX7 6).1 (TX7 6).2.1 (TX7 6).2.2.1 ∈ zG := zGt1 (List.mem_of_getElem? (i := 135) (by rfl)) rfl
theorem gw_1_138 : Cond.fieldLink RX7 34 (TX7 7).1 (TX7 7).2.1 (TX7 7).2.2.1 ∈ zG := zGt1 (List.mem_of_getElem? (i := 138) (by rfl)) rfl
theorem gw_1_141 : Cond.fieldLink RX7 37 (TX7 8).1 (TX7 8).2.1 (TX7 8).2.2.1 ∈ zG := zGt1 (List.mem_of_getElem? (i := 141) (by rfl)) rfl
theorem gw_1_144 : Cond.fieldLink RX7 40 (TX7 9).1 (TX7 9).2.1 (TX7 9).2.2.1 ∈ zG := zGt1 (List.mem_of_getElem? (i := 144) (by rfl)) rfl
theorem gw_2_122 : Cond.fieldLink RX8 20 (TX8 1).1 (TX8 1).2.1 (TX8 1).2.2.1 ∈ zG := zGt2 (List.mem_of_getElem? (i := 122) (by rfl)) rfl
theorem gw_2_131 : Cond.laysFinal RX8 "ReviewTable" "parser" "LReviewTable$Parser;" ∈ zG := zGt2 (List.mem_of_getElem? (i := 131) (by rfl)) rfl
theorem gw_2_133 : Cond.laysFinal RX8 "ReviewTable" "input" "LReviewTable$Input;" ∈ zG := zGt2 (List.mem_of_getElem? (i := 133) (by rfl)) rfl
theorem gw_2_135 : Cond.laysFinal RX8 "ReviewTable" "table" "LReviewTable$Table;" ∈ zG := zGt2 (List.mem_of_getElem? (i := 135) (by rfl)) rfl
theorem gw_2_137 : Cond.laysFinal RX8 "ReviewTable" "history" "LReviewTable$History;" ∈ zG := zGt2 (List.mem_of_getElem? (i := 137) (by rfl)) rfl
theorem gw_2_139 : Cond.laysFinal RX8 "ReviewTable" "slots" "[LReviewTable$Table;" ∈ zG := zGt2 (List.mem_of_getElem? (i := 139) (by rfl)) rfl
theorem gw_2_141 : Cond.laysFinal RX8 "ReviewTable" "slotFilled" "[Z" ∈ zG := zGt2 (List.mem_of_getElem? (i := 141) (by rfl)) rfl
theorem gw_2_143 : Cond.laysFinal RX8 "ReviewTable" "verdict" "LReviewTable$Verdict;" ∈ zG := zGt2 (List.mem_of_getElem? (i := 143) (by rfl)) rfl
theorem gw_2_145 : Cond.laysFinal RX8 "ReviewTable" "output" "Ljava/lang/StringBuilder;" ∈ zG := zGt2 (List.mem_of_getElem? (i := 145) (by rfl)) rfl
theorem gw_2_147 : Cond.lays RX8 "ReviewTable" "parseCode" "I" ∈ zG := zGt2 (List.mem_of_getElem? (i := 147) (by rfl)) rfl
theorem gw_2_149 : Cond.lays RX8 "ReviewTable" "parsePosition" "I" ∈ zG := zGt2 (List.mem_of_getElem? (i := 149) (by rfl)) rfl
theorem ui_X8 : ∀ w ∈ u_ws RX8 TX8 10, w ∈ zG := show ∀ w ∈ [Cond.laysFinal RX8 "ReviewTable" "parser" "LReviewTable$Parser;", Cond.laysFinal RX8 "ReviewTable" "input" "LReviewTable$Input;", Cond.laysFinal RX8 "ReviewTable" "table" "LReviewTable$Table;", Cond.laysFinal RX8 "ReviewTable" "history" "LReviewTable$History;", Cond.laysFinal RX8 "ReviewTable" "slots" "[LReviewTable$Table;", Cond.laysFinal RX8 "ReviewTable" "slotFilled" "[Z", Cond.laysFinal RX8 "ReviewTable" "verdict" "LReviewTable$Verdict;", Cond.laysFinal RX8 "ReviewTable" "output" "Ljava/lang/StringBuilder;", Cond.lays RX8 "ReviewTable" "parseCode" "I", Cond.lays RX8 "ReviewTable" "parsePosition" "I"], w ∈ zG from List.forall_mem_cons.mpr ⟨gw_2_131, List.forall_mem_cons.mpr ⟨gw_2_133, List.forall_mem_cons.mpr ⟨gw_2_135, List.forall_mem_cons.mpr ⟨gw_2_137, List.forall_mem_cons.mpr ⟨gw_2_139, List.forall_mem_cons.mpr ⟨gw_2_141, List.forall_mem_cons.mpr ⟨gw_2_143, List.forall_mem_cons.mpr ⟨gw_2_145, List.forall_mem_cons.mpr ⟨gw_2_147, List.forall_mem_cons.mpr ⟨gw_2_149, fun _ h => nomatch h⟩⟩⟩⟩⟩⟩⟩⟩⟩⟩
theorem zc_X8 : zcl2 11 RX8 TX8 10 := ⟨rfl, by decide⟩
theorem gw_1_90 : Cond.fieldLink RX8 64 (TX1 1).1 (TX1 1).2.1 (TX1 1).2.2.1 ∈ zG := zGt1 (List.mem_of_getElem? (i := 90) (by rfl)) rfl
theorem gw_5_141 : Cond.classLink RX8 69 "java/lang/IllegalStateException" ∈ zG := zGt5 (List.mem_of_getElem? (i := 141) (by rfl)) rfl
theorem gw_1_17 : Cond.initialized "java/lang/IllegalStateException" ∈ zG := zGt1 (List.mem_of_getElem? (i := 17) (by rfl)) rfl
theorem gt_X8_73 : ∀ w ∈ (vx_atS RX8 73 "java/lang/IllegalStateException" ["java/lang/RuntimeException", "java/lang/Exception"]).filter goodWord, w ∈ zG := zFilt (by decide +kernel)
theorem gt_X8_73x : ∀ w ∈ (vx_atS RX8 73 "java/lang/IllegalStateException" ["java/lang/RuntimeException", "java/lang/Exception"]).filter (fun w => !goodWord w), w ∈ zXW := by decide +kernel
theorem gw_5_160 : Cond.code yX1_addFourBytes cX1_addFourBytes 3 (Option.none : Option Jvm.ClassFile.FieldType) ∈ zG := zGt5 (List.mem_of_getElem? (i := 160) (by rfl)) rfl
theorem gw_1_3 : Cond.initialized RX1 ∈ zG := zGt1 (List.mem_of_getElem? (i := 3) (by rfl)) rfl
theorem gw_5_157 : Cond.methodLink RX8 76 yX1_addFourBytes ∈ zG := zGt5 (List.mem_of_getElem? (i := 157) (by rfl)) rfl
theorem gw_5_158 : Cond.instanceMethod yX1_addFourBytes ∈ zG := zGt5 (List.mem_of_getElem? (i := 158) (by rfl)) rfl
theorem gw_5_159 : Cond.selects RX1 yX1_addFourBytes yX1_addFourBytes ∈ zG := zGt5 (List.mem_of_getElem? (i := 159) (by rfl)) rfl
theorem gw_2_129 : Cond.fieldLink RX8 57 (TX8 8).1 (TX8 8).2.1 (TX8 8).2.2.1 ∈ zG := zGt2 (List.mem_of_getElem? (i := 129) (by rfl)) rfl
theorem gw_2_130 : Cond.fieldLink RX8 61 (TX8 9).1 (TX8 9).2.1 (TX8 9).2.2.1 ∈ zG := zGt2 (List.mem_of_getElem? (i := 130) (by rfl)) rfl
theorem gw_2_123 : Cond.fieldLink RX8 24 (TX8 2).1 (TX8 2).2.1 (TX8 2).2.2.1 ∈ zG := zGt2 (List.mem_of_getElem? (i := 123) (by rfl)) rfl
theorem gw_1_236 : Cond.fieldLink RX8 104 (TX5 4).1 (TX5 4).2.1 (TX5 4).2.2.1 ∈ zG := zGt1 (List.mem_of_getElem? (i := 236) (by rfl)) rfl
theorem gw_2_2 : Cond.fieldLink RX8 137 (TX5 6).1 (TX5 6).2.1 (TX5 6).2.2.1 ∈ zG := zGt2 (List.mem_of_getElem? (i := 2) (by rfl)) rfl
theorem gw_1_127 : Cond.fieldLink RX8 149 (TX7 3).1 (TX7 3).2.1 (TX7 3).2.2.1 ∈ zG := zGt1 (List.mem_of_getElem? (i := 127) (by rfl)) rfl
theorem gw_5_20 : Cond.code yX5_isSuspended cX5_isSuspended 2 (Option.some Jvm.ClassFile.FieldType.boolean) ∈ zG := zGt5 (List.mem_of_getElem? (i := 20) (by rfl)) rfl
theorem gw_5_54 : Cond.methodLink RX8 271 yX5_isSuspended ∈ zG := zGt5 (List.mem_of_getElem? (i := 54) (by rfl)) rfl
theorem gw_5_18 : Cond.instanceMethod yX5_isSuspended ∈ zG := zGt5 (List.mem_of_getElem? (i := 18) (by rfl)) rfl
theorem gw_5_19 : Cond.selects RX5 yX5_isSuspended yX5_isSuspended ∈ zG := zGt5 (List.mem_of_getElem? (i := 19) (by rfl)) rfl
theorem gw_1_239 : Cond.fieldLink RX8 111 (TX5 5).1 (TX5 5).2.1 (TX5 5).2.2.1 ∈ zG := zGt1 (List.mem_of_getElem? (i := 239) (by rfl)) rfl
theorem gw_2_4 : Cond.fieldLink RX8 173 (TX5 7).1 (TX5 7).2.1 (TX5 7).2.2.1 ∈ zG := zGt2 (List.mem_of_getElem? (i := 4) (by rfl)) rfl
theorem gw_1_178 : Cond.fieldLink RX8 182 (TX4 1).1 (TX4 1).2.1 (TX4 1).2.2.1 ∈ zG := zGt1 (List.mem_of_getElem? (i := 178) (by rfl)) rfl
theorem gw_1_184 : Cond.fieldLink RX8 188 (TX4 3).1 (TX4 3).2.1 (TX4 3).2.2.1 ∈ zG := zGt1 (List.mem_of_getElem? (i := 184) (by rfl)) rfl
theorem gw_5_62 : Cond.code yX5_isRiskier cX5_isRiskier 4 (Option.some Jvm.ClassFile.FieldType.boolean) ∈ zG := zGt5 (List.mem_of_getElem? (i := 62) (by rfl)) rfl
theorem gw_5_59 : Cond.methodLink RX8 278 yX5_isRiskier ∈ zG := zGt5 (List.mem_of_getElem? (i := 59) (by rfl)) rfl
theorem gw_5_60 : Cond.instanceMethod yX5_isRiskier ∈ zG := zGt5 (List.mem_of_getElem? (i := 60) (by rfl)) rfl
theorem gw_5_61 : Cond.selects RX5 yX5_isRiskier yX5_isRiskier ∈ zG := zGt5 (List.mem_of_getElem? (i := 61) (by rfl)) rfl
theorem gw_5_74 : Cond.code yX4_leastDue cX4_leastDue 3 (Option.some Jvm.ClassFile.FieldType.int) ∈ zG := zGt5 (List.mem_of_getElem? (i := 74) (by rfl)) rfl
theorem gw_5_71 : Cond.methodLink RX8 282 yX4_leastDue ∈ zG := zGt5 (List.mem_of_getElem? (i := 71) (by rfl)) rfl
theorem gw_5_72 : Cond.instanceMethod yX4_leastDue ∈ zG := zGt5 (List.mem_of_getElem? (i := 72) (by rfl)) rfl
theorem gw_5_73 : Cond.selects RX4 yX4_leastDue yX4_leastDue ∈ zG := zGt5 (List.mem_of_getElem? (i := 73) (by rfl)) rfl
theorem gw_5_94 : Cond.code yX5_hasNobodyFor cX5_hasNobodyFor 3 (Option.some Jvm.ClassFile.FieldType.boolean) ∈ zG := zGt5 (List.mem_of_getElem? (i := 94) (by rfl)) rfl
theorem gw_5_91 : Cond.methodLink RX8 238 yX5_hasNobodyFor ∈ zG := zGt5 (List.mem_of_getElem? (i := 91) (by rfl)) rfl
theorem gw_5_92 : Cond.instanceMethod yX5_hasNobodyFor ∈ zG := zGt5 (List.mem_of_getElem? (i := 92) (by rfl)) rfl
theorem gw_5_93 : Cond.selects RX5 yX5_hasNobodyFor yX5_hasNobodyFor ∈ zG := zGt5 (List.mem_of_getElem? (i := 93) (by rfl)) rfl
theorem gw_5_99 : Cond.methodLink RX8 305 yX4_isClosed ∈ zG := zGt5 (List.mem_of_getElem? (i := 99) (by rfl)) rfl
theorem gw_1_174 : Cond.fieldLink RX8 177 (TX4 0).1 (TX4 0).2.1 (TX4 0).2.2.1 ∈ zG := zGt1 (List.mem_of_getElem? (i := 174) (by rfl)) rfl
theorem gw_1_145 : Cond.fieldLink RX8 167 (TX7 9).1 (TX7 9).2.1 (TX7 9).2.2.1 ∈ zG := zGt1 (List.mem_of_getElem? (i := 145) (by rfl)) rfl
theorem gw_2_124 : Cond.fieldLink RX8 31 (TX8 3).1 (TX8 3).2.1 (TX8 3).2.2.1 ∈ zG := zGt2 (List.mem_of_getElem? (i := 124) (by rfl)) rfl
theorem gw_2_73 : Cond.fieldLink RX8 367 (TX0 0).1 (TX0 0).2.1 (TX0 0).2.2.1 ∈ zG := zGt2 (List.mem_of_getElem? (i := 73) (by rfl)) rfl
theorem gw_2_76 : Cond.lays RX0 "ReviewTable$History" "count" "I" ∈ zG := zGt2 (List.mem_of_getElem? (i := 76) (by rfl)) rfl
theorem gw_2_78 : Cond.lays RX0 "ReviewTable$History" "next" "I" ∈ zG := zGt2 (List.mem_of_getElem? (i := 78) (by rfl)) rfl
theorem gw_2_80 : Cond.laysFinal RX0 "ReviewTable$History" "tables" "[LReviewTable$Table;" ∈ zG := zGt2 (List.mem_of_getElem? (i := 80) (by rfl)) rfl
theorem ui_X0 : ∀ w ∈ u_ws RX0 TX0 3, w ∈ zG := show ∀ w ∈ [Cond.lays RX0 "ReviewTable$History" "count" "I", Cond.lays RX0 "ReviewTable$History" "next" "I", Cond.laysFinal RX0 "ReviewTable$History" "tables" "[LReviewTable$Table;"], w ∈ zG from List.forall_mem_cons.mpr ⟨gw_2_76, List.forall_mem_cons.mpr ⟨gw_2_78, List.forall_mem_cons.mpr ⟨gw_2_80, fun _ h => nomatch h⟩⟩⟩
theorem zc_X0 : zcl2 4 RX0 TX0 3 := ⟨rfl, by decide⟩
theorem gw_5_172 : Cond.classLink RX8 338 "java/lang/IllegalArgumentException" ∈ zG := zGt5 (List.mem_of_getElem? (i := 172) (by rfl)) rfl
theorem gw_1_18 : Cond.initialized "java/lang/IllegalArgumentException" ∈ zG := zGt1 (List.mem_of_getElem? (i := 18) (by rfl)) rfl
theorem gt_X8_342 : ∀ w ∈ (vx_atS RX8 342 "java/lang/IllegalArgumentException" ["java/lang/RuntimeException", "java/lang/Exception"]).filter goodWord, w ∈ zG := zFilt (by decide +kernel)
theorem gt_X8_342x : ∀ w ∈ (vx_atS RX8 342 "java/lang/IllegalArgumentException" ["java/lang/RuntimeException", "java/lang/Exception"]).filter (fun w => !goodWord w), w ∈ zXW := by decide +kernel
theorem gw_5_171 : Cond.code yX8_requireRange cX8_requireRange 3 (Option.none : Option Jvm.ClassFile.FieldType) ∈ zG := zGt5 (List.mem_of_getElem? (i := 171) (by rfl)) rfl
theorem gw_1_1 : Cond.initialized RX8 ∈ zG := zGt1 (List.mem_of_getElem? (i := 1) (by rfl)) rfl
theorem gw_5_169 : Cond.methodLink RX8 80 yX8_requireRange ∈ zG := zGt5 (List.mem_of_getElem? (i := 169) (by rfl)) rfl
theorem gw_5_170 : Cond.static yX8_requireRange ∈ zG := zGt5 (List.mem_of_getElem? (i := 170) (by rfl)) rfl
theorem gw_5_202 : Cond.classLink RX8 201 "java/lang/IndexOutOfBoundsException" ∈ zG := zGt5 (List.mem_of_getElem? (i := 202) (by rfl)) rfl
theorem gw_1_24 : Cond.initialized "java/lang/IndexOutOfBoundsException" ∈ zG := zGt1 (List.mem_of_getElem? (i := 24) (by rfl)) rfl
theorem gt_X8_205 : ∀ w ∈ (vx_atS RX8 205 "java/lang/IndexOutOfBoundsException" ["java/lang/RuntimeException", "java/lang/Exception"]).filter goodWord, w ∈ zG := zFilt (by decide +kernel)
theorem gt_X8_205x : ∀ w ∈ (vx_atS RX8 205 "java/lang/IndexOutOfBoundsException" ["java/lang/RuntimeException", "java/lang/Exception"]).filter (fun w => !goodWord w), w ∈ zXW := by decide +kernel
theorem gw_6_163 : Cond.methodLink RX8 296 yX4_takingBy ∈ zG := zGt6 (List.mem_of_getElem? (i := 163) (by rfl)) rfl
theorem gw_5_238 : Cond.methodLink RX8 212 yX4_isInWork ∈ zG := zGt5 (List.mem_of_getElem? (i := 238) (by rfl)) rfl
theorem gw_6_196 : Cond.methodLink RX8 427 Lib.Math.min.name ∈ zG := zGt6 (List.mem_of_getElem? (i := 196) (by rfl)) rfl
theorem gw_6_197 : Cond.methodLink RX8 432 Lib.Math.max.name ∈ zG := zGt6 (List.mem_of_getElem? (i := 197) (by rfl)) rfl
theorem gw_7_215 : Cond.fieldLink RX9 3 (TX9 0).1 (TX9 0).2.1 (TX9 0).2.2.1 ∈ zG := zGt7 (List.mem_of_getElem? (i := 215) (by rfl)) rfl
theorem gw_7_237 : Cond.lays RX9 "ReviewTableModel" "thrown" "I" ∈ zG := zGt7 (List.mem_of_getElem? (i := 237) (by rfl)) rfl
theorem gw_7_239 : Cond.laysFinal RX9 "ReviewTableModel" "net" "[I" ∈ zG := zGt7 (List.mem_of_getElem? (i := 239) (by rfl)) rfl
theorem gw_8_1 : Cond.laysFinal RX9 "ReviewTableModel" "draft" "[I" ∈ zG := zGt8 (List.mem_of_getElem? (i := 1) (by rfl)) rfl
theorem gw_8_3 : Cond.lays RX9 "ReviewTableModel" "all" "[I" ∈ zG := zGt8 (List.mem_of_getElem? (i := 3) (by rfl)) rfl
theorem gw_8_5 : Cond.laysFinal RX9 "ReviewTableModel" "aside" "[I" ∈ zG := zGt8 (List.mem_of_getElem? (i := 5) (by rfl)) rfl
theorem gw_8_7 : Cond.laysFinal RX9 "ReviewTableModel" "input" "[B" ∈ zG := zGt8 (List.mem_of_getElem? (i := 7) (by rfl)) rfl
theorem gw_8_9 : Cond.lays RX9 "ReviewTableModel" "inputSize" "I" ∈ zG := zGt8 (List.mem_of_getElem? (i := 9) (by rfl)) rfl
theorem gw_8_11 : Cond.lays RX9 "ReviewTableModel" "textSize" "I" ∈ zG := zGt8 (List.mem_of_getElem? (i := 11) (by rfl)) rfl
theorem gw_8_13 : Cond.lays RX9 "ReviewTableModel" "next" "I" ∈ zG := zGt8 (List.mem_of_getElem? (i := 13) (by rfl)) rfl
theorem gw_8_15 : Cond.lays RX9 "ReviewTableModel" "start" "I" ∈ zG := zGt8 (List.mem_of_getElem? (i := 15) (by rfl)) rfl
theorem gw_8_17 : Cond.lays RX9 "ReviewTableModel" "token" "I" ∈ zG := zGt8 (List.mem_of_getElem? (i := 17) (by rfl)) rfl
theorem gw_8_19 : Cond.lays RX9 "ReviewTableModel" "value" "I" ∈ zG := zGt8 (List.mem_of_getElem? (i := 19) (by rfl)) rfl
theorem gw_8_21 : Cond.lays RX9 "ReviewTableModel" "errorFound" "I" ∈ zG := zGt8 (List.mem_of_getElem? (i := 21) (by rfl)) rfl
theorem gw_8_23 : Cond.lays RX9 "ReviewTableModel" "errorPlace" "I" ∈ zG := zGt8 (List.mem_of_getElem? (i := 23) (by rfl)) rfl
theorem gw_8_25 : Cond.laysFinal RX9 "ReviewTableModel" "holder" "[I" ∈ zG := zGt8 (List.mem_of_getElem? (i := 25) (by rfl)) rfl
theorem gw_8_27 : Cond.laysFinal RX9 "ReviewTableModel" "wasTried" "[Z" ∈ zG := zGt8 (List.mem_of_getElem? (i := 27) (by rfl)) rfl
theorem gw_8_29 : Cond.laysFinal RX9 "ReviewTableModel" "slots" "[I" ∈ zG := zGt8 (List.mem_of_getElem? (i := 29) (by rfl)) rfl
theorem gw_8_31 : Cond.laysFinal RX9 "ReviewTableModel" "isKept" "[Z" ∈ zG := zGt8 (List.mem_of_getElem? (i := 31) (by rfl)) rfl
theorem gw_8_33 : Cond.laysFinal RX9 "ReviewTableModel" "past" "[I" ∈ zG := zGt8 (List.mem_of_getElem? (i := 33) (by rfl)) rfl
theorem gw_8_35 : Cond.lays RX9 "ReviewTableModel" "remembered" "I" ∈ zG := zGt8 (List.mem_of_getElem? (i := 35) (by rfl)) rfl
theorem gw_8_37 : Cond.laysFinal RX9 "ReviewTableModel" "output" "[B" ∈ zG := zGt8 (List.mem_of_getElem? (i := 37) (by rfl)) rfl
theorem gw_8_39 : Cond.lays RX9 "ReviewTableModel" "outputSize" "I" ∈ zG := zGt8 (List.mem_of_getElem? (i := 39) (by rfl)) rfl
theorem ui_X9 : ∀ w ∈ u_ws RX9 TX9 22, w ∈ zG := show ∀ w ∈ [Cond.lays RX9 "ReviewTableModel" "thrown" "I", Cond.laysFinal RX9 "ReviewTableModel" "net" "[I", Cond.laysFinal RX9 "ReviewTableModel" "draft" "[I", Cond.lays RX9 "ReviewTableModel" "all" "[I", Cond.laysFinal RX9 "ReviewTableModel" "aside" "[I", Cond.laysFinal RX9 "ReviewTableModel" "input" "[B", Cond.lays RX9 "ReviewTableModel" "inputSize" "I", Cond.lays RX9 "ReviewTableModel" "textSize" "I", Cond.lays RX9 "ReviewTableModel" "next" "I", Cond.lays RX9 "ReviewTableModel" "start" "I", Cond.lays RX9 "ReviewTableModel" "token" "I", Cond.lays RX9 "ReviewTableModel" "value" "I", Cond.lays RX9 "ReviewTableModel" "errorFound" "I", Cond.lays RX9 "ReviewTableModel" "errorPlace" "I", Cond.laysFinal RX9 "ReviewTableModel" "holder" "[I", Cond.laysFinal RX9 "ReviewTableModel" "wasTried" "[Z", Cond.laysFinal RX9 "ReviewTableModel" "slots" "[I", Cond.laysFinal RX9 "ReviewTableModel" "isKept" "[Z", Cond.laysFinal RX9 "ReviewTableModel" "past" "[I", Cond.lays RX9 "ReviewTableModel" "remembered" "I", Cond.laysFinal RX9 "ReviewTableModel" "output" "[B", Cond.lays RX9 "ReviewTableModel" "outputSize" "I"], w ∈ zG from List.forall_mem_cons.mpr ⟨gw_7_237, List.forall_mem_cons.mpr ⟨gw_7_239, List.forall_mem_cons.mpr ⟨gw_8_1, List.forall_mem_cons.mpr ⟨gw_8_3, List.forall_mem_cons.mpr ⟨gw_8_5, List.forall_mem_cons.mpr ⟨gw_8_7, List.forall_mem_cons.mpr ⟨gw_8_9, List.forall_mem_cons.mpr ⟨gw_8_11, List.forall_mem_cons.mpr ⟨gw_8_13, List.forall_mem_cons.mpr ⟨gw_8_15, List.forall_mem_cons.mpr ⟨gw_8_17, List.forall_mem_cons.mpr ⟨gw_8_19, List.forall_mem_cons.mpr ⟨gw_8_21, List.forall_mem_cons.mpr ⟨gw_8_23, List.forall_mem_cons.mpr ⟨gw_8_25, List.forall_mem_cons.mpr ⟨gw_8_27, List.forall_mem_cons.mpr ⟨gw_8_29, List.forall_mem_cons.mpr ⟨gw_8_31, List.forall_mem_cons.mpr ⟨gw_8_33, List.forall_mem_cons.mpr ⟨gw_8_35, List.forall_mem_cons.mpr ⟨gw_8_37, List.forall_mem_cons.mpr ⟨gw_8_39, fun _ h => nomatch h⟩⟩⟩⟩⟩⟩⟩⟩⟩⟩⟩⟩⟩⟩⟩⟩⟩⟩⟩⟩⟩⟩
theorem zc_X9 : zcl2 12 RX9 TX9 22 := ⟨rfl, by decide⟩
theorem gw_8_53 : Cond.code yX9_passes3 cX9_passes3 4 (Option.some Jvm.ClassFile.FieldType.boolean) ∈ zG := zGt8 (List.mem_of_getElem? (i := 53) (by rfl)) rfl
theorem gw_1_13 : Cond.initialized RX9 ∈ zG := zGt1 (List.mem_of_getElem? (i := 13) (by rfl)) rfl
theorem gw_8_50 : Cond.methodLink RX9 7 yX9_passes3 ∈ zG := zGt8 (List.mem_of_getElem? (i := 50) (by rfl)) rfl
theorem gw_8_52 : Cond.instanceMethod yX9_passes3 ∈ zG := zGt8 (List.mem_of_getElem? (i := 52) (by rfl)) rfl
theorem gp_29 : Cond.selects RX9 yX9_passes3 yX9_passes3 ∈ zG := zGs (List.mem_of_getElem? (i := 29) (by rfl)) rfl
theorem gw_7_214 : Cond.methodLink RX9 11 Lib.objectInit ∈ zG := zGt7 (List.mem_of_getElem? (i := 214) (by rfl)) rfl
theorem gw_7_216 : Cond.fieldLink RX9 17 (TX9 1).1 (TX9 1).2.1 (TX9 1).2.2.1 ∈ zG := zGt7 (List.mem_of_getElem? (i := 216) (by rfl)) rfl
theorem gw_7_217 : Cond.fieldLink RX9 21 (TX9 2).1 (TX9 2).2.1 (TX9 2).2.2.1 ∈ zG := zGt7 (List.mem_of_getElem? (i := 217) (by rfl)) rfl
theorem gw_7_218 : Cond.fieldLink RX9 24 (TX9 3).1 (TX9 3).2.1 (TX9 3).2.2.1 ∈ zG := zGt7 (List.mem_of_getElem? (i := 218) (by rfl)) rfl
theorem gw_7_219 : Cond.fieldLink RX9 27 (TX9 4).1 (TX9 4).2.1 (TX9 4).2.2.1 ∈ zG := zGt7 (List.mem_of_getElem? (i := 219) (by rfl)) rfl
theorem gw_1_86 : Cond.arrayClass (newarray.typeOf .byte) ∈ zG := zGt1 (List.mem_of_getElem? (i := 86) (by rfl)) rfl
theorem gw_7_220 : Cond.fieldLink RX9 30 (TX9 5).1 (TX9 5).2.1 (TX9 5).2.2.1 ∈ zG := zGt7 (List.mem_of_getElem? (i := 220) (by rfl)) rfl
theorem gw_7_228 : Cond.fieldLink RX9 34 (TX9 13).1 (TX9 13).2.1 (TX9 13).2.2.1 ∈ zG := zGt7 (List.mem_of_getElem? (i := 228) (by rfl)) rfl
theorem gw_7_229 : Cond.fieldLink RX9 37 (TX9 14).1 (TX9 14).2.1 (TX9 14).2.2.1 ∈ zG := zGt7 (List.mem_of_getElem? (i := 229) (by rfl)) rfl
theorem gw_2_118 : Cond.arrayClass (newarray.typeOf .boolean) ∈ zG := zGt2 (List.mem_of_getElem? (i := 118) (by rfl)) rfl
theorem gw_7_230 : Cond.fieldLink RX9 40 (TX9 15).1 (TX9 15).2.1 (TX9 15).2.2.1 ∈ zG := zGt7 (List.mem_of_getElem? (i := 230) (by rfl)) rfl
theorem gw_7_231 : Cond.fieldLink RX9 44 (TX9 16).1 (TX9 16).2.1 (TX9 16).2.2.1 ∈ zG := zGt7 (List.mem_of_getElem? (i := 231) (by rfl)) rfl
theorem gw_7_232 : Cond.fieldLink RX9 47 (TX9 17).1 (TX9 17).2.1 (TX9 17).2.2.1 ∈ zG := zGt7 (List.mem_of_getElem? (i := 232) (by rfl)) rfl
theorem gw_7_233 : Cond.fieldLink RX9 50 (TX9 18).1 (TX9 18).2.1 (TX9 18).2.2.1 ∈ zG := zGt7 (List.mem_of_getElem? (i := 233) (by rfl)) rfl
theorem gw_7_235 : Cond.fieldLink RX9 53 (TX9 20).1 (TX9 20).2.1 (TX9 20).2.2.1 ∈ zG := zGt7 (List.mem_of_getElem? (i := 235) (by rfl)) rfl
theorem gw_8_136 : Cond.code yX9_workers cX9_workers 1 (Option.some Jvm.ClassFile.FieldType.int) ∈ zG := zGt8 (List.mem_of_getElem? (i := 136) (by rfl)) rfl
theorem gw_8_133 : Cond.methodLink RX9 56 yX9_workers ∈ zG := zGt8 (List.mem_of_getElem? (i := 133) (by rfl)) rfl
theorem gw_8_135 : Cond.instanceMethod yX9_workers ∈ zG := zGt8 (List.mem_of_getElem? (i := 135) (by rfl)) rfl
theorem gp_44 : Cond.selects RX9 yX9_workers yX9_workers ∈ zG := zGs (List.mem_of_getElem? (i := 44) (by rfl)) rfl
theorem gw_8_64 : Cond.code yX9_in cX9_in 6 (Option.some Jvm.ClassFile.FieldType.boolean) ∈ zG := zGt8 (List.mem_of_getElem? (i := 64) (by rfl)) rfl
theorem gw_8_62 : Cond.methodLink RX9 60 yX9_in ∈ zG := zGt8 (List.mem_of_getElem? (i := 62) (by rfl)) rfl
theorem gw_8_63 : Cond.static yX9_in ∈ zG := zGt8 (List.mem_of_getElem? (i := 63) (by rfl)) rfl
theorem gw_8_173 : Cond.code yX9_rows cX9_rows 1 (Option.some Jvm.ClassFile.FieldType.int) ∈ zG := zGt8 (List.mem_of_getElem? (i := 173) (by rfl)) rfl
theorem gw_8_170 : Cond.methodLink RX9 64 yX9_rows ∈ zG := zGt8 (List.mem_of_getElem? (i := 170) (by rfl)) rfl
theorem gw_8_172 : Cond.instanceMethod yX9_rows ∈ zG := zGt8 (List.mem_of_getElem? (i := 172) (by rfl)) rfl
theorem gp_51 : Cond.selects RX9 yX9_rows yX9_rows ∈ zG := zGs (List.mem_of_getElem? (i := 51) (by rfl)) rfl
theorem gw_8_81 : Cond.methodLink RX9 67 Lib.Math.min.name ∈ zG := zGt8 (List.mem_of_getElem? (i := 81) (by rfl)) rfl
theorem gw_9_53 : Cond.methodLink RX9 73 Lib.Math.max.name ∈ zG := zGt9 (List.mem_of_getElem? (i := 53) (by rfl)) rfl
theorem gw_8_239 : Cond.code yX9_ofRow cX9_ofRow 3 (Option.some Jvm.ClassFile.FieldType.int) ∈ zG := zGt8 (List.mem_of_getElem? (i := 239) (by rfl)) rfl
theorem gw_8_236 : Cond.methodLink RX9 76 yX9_ofRow ∈ zG := zGt8 (List.mem_of_getElem? (i := 236) (by rfl)) rfl
theorem gw_8_238 : Cond.instanceMethod yX9_ofRow ∈ zG := zGt8 (List.mem_of_getElem? (i := 238) (by rfl)) rfl
theorem gp_63 : Cond.selects RX9 yX9_ofRow yX9_ofRow ∈ zG := zGs (List.mem_of_getElem? (i := 63) (by rfl)) rfl
theorem gw_9_36 : Cond.code yX9_ofTaking cX9_ofTaking 4 (Option.some Jvm.ClassFile.FieldType.int) ∈ zG := zGt9 (List.mem_of_getElem? (i := 36) (by rfl)) rfl
theorem gw_9_33 : Cond.methodLink RX9 79 yX9_ofTaking ∈ zG := zGt9 (List.mem_of_getElem? (i := 33) (by rfl)) rfl
theorem gw_9_35 : Cond.instanceMethod yX9_ofTaking ∈ zG := zGt9 (List.mem_of_getElem? (i := 35) (by rfl)) rfl
theorem gp_71 : Cond.selects RX9 yX9_ofTaking yX9_ofTaking ∈ zG := zGs (List.mem_of_getElem? (i := 71) (by rfl)) rfl
theorem gw_9_32 : Cond.code yX9_manyAt cX9_manyAt 2 (Option.some Jvm.ClassFile.FieldType.int) ∈ zG := zGt9 (List.mem_of_getElem? (i := 32) (by rfl)) rfl
theorem gw_9_29 : Cond.methodLink RX9 83 yX9_manyAt ∈ zG := zGt9 (List.mem_of_getElem? (i := 29) (by rfl)) rfl
theorem gw_9_31 : Cond.instanceMethod yX9_manyAt ∈ zG := zGt9 (List.mem_of_getElem? (i := 31) (by rfl)) rfl
theorem gp_70 : Cond.selects RX9 yX9_manyAt yX9_manyAt ∈ zG := zGs (List.mem_of_getElem? (i := 70) (by rfl)) rfl
theorem gw_9_28 : Cond.code yX9_takingOf cX9_takingOf 4 (Option.some Jvm.ClassFile.FieldType.int) ∈ zG := zGt9 (List.mem_of_getElem? (i := 28) (by rfl)) rfl
theorem gw_9_25 : Cond.methodLink RX9 87 yX9_takingOf ∈ zG := zGt9 (List.mem_of_getElem? (i := 25) (by rfl)) rfl
theorem gw_9_27 : Cond.instanceMethod yX9_takingOf ∈ zG := zGt9 (List.mem_of_getElem? (i := 27) (by rfl)) rfl
theorem gp_69 : Cond.selects RX9 yX9_takingOf yX9_takingOf ∈ zG := zGs (List.mem_of_getElem? (i := 69) (by rfl)) rfl
theorem gw_9_40 : Cond.code yX9_isInWork cX9_isInWork 3 (Option.some Jvm.ClassFile.FieldType.boolean) ∈ zG := zGt9 (List.mem_of_getElem? (i := 40) (by rfl)) rfl
theorem gw_9_37 : Cond.methodLink RX9 90 yX9_isInWork ∈ zG := zGt9 (List.mem_of_getElem? (i := 37) (by rfl)) rfl
theorem gw_9_39 : Cond.instanceMethod yX9_isInWork ∈ zG := zGt9 (List.mem_of_getElem? (i := 39) (by rfl)) rfl
theorem gp_72 : Cond.selects RX9 yX9_isInWork yX9_isInWork ∈ zG := zGs (List.mem_of_getElem? (i := 72) (by rfl)) rfl
theorem gw_9_24 : Cond.code yX9_worksAt cX9_worksAt 4 (Option.some Jvm.ClassFile.FieldType.boolean) ∈ zG := zGt9 (List.mem_of_getElem? (i := 24) (by rfl)) rfl
theorem gw_9_21 : Cond.methodLink RX9 94 yX9_worksAt ∈ zG := zGt9 (List.mem_of_getElem? (i := 21) (by rfl)) rfl
theorem gw_9_23 : Cond.instanceMethod yX9_worksAt ∈ zG := zGt9 (List.mem_of_getElem? (i := 23) (by rfl)) rfl
theorem gp_68 : Cond.selects RX9 yX9_worksAt yX9_worksAt ∈ zG := zGs (List.mem_of_getElem? (i := 68) (by rfl)) rfl
theorem gw_9_170 : Cond.methodLink RX9 97 Lib.Math.abs.name ∈ zG := zGt9 (List.mem_of_getElem? (i := 170) (by rfl)) rfl
theorem gw_8_227 : Cond.code yX9_table cX9_table 2 (Option.some Jvm.ClassFile.FieldType.int) ∈ zG := zGt8 (List.mem_of_getElem? (i := 227) (by rfl)) rfl
theorem gw_8_224 : Cond.methodLink RX9 100 yX9_table ∈ zG := zGt8 (List.mem_of_getElem? (i := 224) (by rfl)) rfl
theorem gw_8_226 : Cond.instanceMethod yX9_table ∈ zG := zGt8 (List.mem_of_getElem? (i := 226) (by rfl)) rfl
theorem gp_60 : Cond.selects RX9 yX9_table yX9_table ∈ zG := zGs (List.mem_of_getElem? (i := 60) (by rfl)) rfl
theorem gw_8_197 : Cond.code yX9_strikesOf cX9_strikesOf 3 (Option.some Jvm.ClassFile.FieldType.int) ∈ zG := zGt8 (List.mem_of_getElem? (i := 197) (by rfl)) rfl
theorem gw_8_194 : Cond.methodLink RX9 103 yX9_strikesOf ∈ zG := zGt8 (List.mem_of_getElem? (i := 194) (by rfl)) rfl
theorem gw_8_196 : Cond.instanceMethod yX9_strikesOf ∈ zG := zGt8 (List.mem_of_getElem? (i := 196) (by rfl)) rfl
theorem gp_57 : Cond.selects RX9 yX9_strikesOf yX9_strikesOf ∈ zG := zGs (List.mem_of_getElem? (i := 57) (by rfl)) rfl
theorem gw_8_161 : Cond.code yX9_ofWorker cX9_ofWorker 3 (Option.some Jvm.ClassFile.FieldType.int) ∈ zG := zGt8 (List.mem_of_getElem? (i := 161) (by rfl)) rfl
theorem gw_8_158 : Cond.methodLink RX9 106 yX9_ofWorker ∈ zG := zGt8 (List.mem_of_getElem? (i := 158) (by rfl)) rfl
theorem gw_8_160 : Cond.instanceMethod yX9_ofWorker ∈ zG := zGt8 (List.mem_of_getElem? (i := 160) (by rfl)) rfl
theorem gp_48 : Cond.selects RX9 yX9_ofWorker yX9_ofWorker ∈ zG := zGs (List.mem_of_getElem? (i := 48) (by rfl)) rfl
theorem gw_8_193 : Cond.code yX9_mayNotMeet cX9_mayNotMeet 3 (Option.some Jvm.ClassFile.FieldType.boolean) ∈ zG := zGt8 (List.mem_of_getElem? (i := 193) (by rfl)) rfl
theorem gw_8_190 : Cond.methodLink RX9 109 yX9_mayNotMeet ∈ zG := zGt8 (List.mem_of_getElem? (i := 190) (by rfl)) rfl
theorem gw_8_192 : Cond.instanceMethod yX9_mayNotMeet ∈ zG := zGt8 (List.mem_of_getElem? (i := 192) (by rfl)) rfl
theorem gp_56 : Cond.selects RX9 yX9_mayNotMeet yX9_mayNotMeet ∈ zG := zGs (List.mem_of_getElem? (i := 56) (by rfl)) rfl
theorem gw_9_85 : Cond.code yX9_has cX9_has 2 (Option.some Jvm.ClassFile.FieldType.boolean) ∈ zG := zGt9 (List.mem_of_getElem? (i := 85) (by rfl)) rfl
theorem gw_9_83 : Cond.methodLink RX9 112 yX9_has ∈ zG := zGt9 (List.mem_of_getElem? (i := 83) (by rfl)) rfl
theorem gw_9_84 : Cond.static yX9_has ∈ zG := zGt9 (List.mem_of_getElem? (i := 84) (by rfl)) rfl
theorem gw_9_89 : Cond.code yX9_isTeamThere cX9_isTeamThere 4 (Option.some Jvm.ClassFile.FieldType.boolean) ∈ zG := zGt9 (List.mem_of_getElem? (i := 89) (by rfl)) rfl
theorem gw_9_86 : Cond.methodLink RX9 115 yX9_isTeamThere ∈ zG := zGt9 (List.mem_of_getElem? (i := 86) (by rfl)) rfl
theorem gw_9_88 : Cond.instanceMethod yX9_isTeamThere ∈ zG := zGt9 (List.mem_of_getElem? (i := 88) (by rfl)) rfl
theorem gp_79 : Cond.selects RX9 yX9_isTeamThere yX9_isTeamThere ∈ zG := zGs (List.mem_of_getElem? (i := 79) (by rfl)) rfl
theorem gw_9_93 : Cond.code yX9_isFoeThere cX9_isFoeThere 4 (Option.some Jvm.ClassFile.FieldType.boolean) ∈ zG := zGt9 (List.mem_of_getElem? (i := 93) (by rfl)) rfl
theorem gw_9_90 : Cond.methodLink RX9 118 yX9_isFoeThere ∈ zG := zGt9 (List.mem_of_getElem? (i := 90) (by rfl)) rfl
theorem gw_9_92 : Cond.instanceMethod yX9_isFoeThere ∈ zG := zGt9 (List.mem_of_getElem? (i := 92) (by rfl)) rfl
theorem gp_80 : Cond.selects RX9 yX9_isFoeThere yX9_isFoeThere ∈ zG := zGs (List.mem_of_getElem? (i := 80) (by rfl)) rfl
theorem gw_9_78 : Cond.code yX9_isSuspended cX9_isSuspended 2 (Option.some Jvm.ClassFile.FieldType.boolean) ∈ zG := zGt9 (List.mem_of_getElem? (i := 78) (by rfl)) rfl
theorem gw_9_75 : Cond.methodLink RX9 121 yX9_isSuspended ∈ zG := zGt9 (List.mem_of_getElem? (i := 75) (by rfl)) rfl
theorem gw_9_77 : Cond.instanceMethod yX9_isSuspended ∈ zG := zGt9 (List.mem_of_getElem? (i := 77) (by rfl)) rfl
theorem gp_77 : Cond.selects RX9 yX9_isSuspended yX9_isSuspended ∈ zG := zGs (List.mem_of_getElem? (i := 77) (by rfl)) rfl
theorem gw_9_20 : Cond.code yX9_inWork cX9_inWork 4 (Option.some Jvm.ClassFile.FieldType.int) ∈ zG := zGt9 (List.mem_of_getElem? (i := 20) (by rfl)) rfl
theorem gw_9_17 : Cond.methodLink RX9 125 yX9_inWork ∈ zG := zGt9 (List.mem_of_getElem? (i := 17) (by rfl)) rfl
theorem gw_9_19 : Cond.instanceMethod yX9_inWork ∈ zG := zGt9 (List.mem_of_getElem? (i := 19) (by rfl)) rfl
theorem gp_67 : Cond.selects RX9 yX9_inWork yX9_inWork ∈ zG := zGs (List.mem_of_getElem? (i := 67) (by rfl)) rfl
theorem gw_9_52 : Cond.code yX9_needs cX9_needs 4 (Option.some Jvm.ClassFile.FieldType.int) ∈ zG := zGt9 (List.mem_of_getElem? (i := 52) (by rfl)) rfl
theorem gw_9_49 : Cond.methodLink RX9 128 yX9_needs ∈ zG := zGt9 (List.mem_of_getElem? (i := 49) (by rfl)) rfl
theorem gw_9_51 : Cond.instanceMethod yX9_needs ∈ zG := zGt9 (List.mem_of_getElem? (i := 51) (by rfl)) rfl
theorem gp_74 : Cond.selects RX9 yX9_needs yX9_needs ∈ zG := zGs (List.mem_of_getElem? (i := 74) (by rfl)) rfl
theorem gw_9_82 : Cond.code yX9_barrierOf cX9_barrierOf 3 (Option.some Jvm.ClassFile.FieldType.int) ∈ zG := zGt9 (List.mem_of_getElem? (i := 82) (by rfl)) rfl
theorem gw_9_79 : Cond.methodLink RX9 131 yX9_barrierOf ∈ zG := zGt9 (List.mem_of_getElem? (i := 79) (by rfl)) rfl
theorem gw_9_81 : Cond.instanceMethod yX9_barrierOf ∈ zG := zGt9 (List.mem_of_getElem? (i := 81) (by rfl)) rfl
theorem gp_78 : Cond.selects RX9 yX9_barrierOf yX9_barrierOf ∈ zG := zGs (List.mem_of_getElem? (i := 78) (by rfl)) rfl
theorem gw_9_74 : Cond.code yX9_refusalOf cX9_refusalOf 3 (Option.some Jvm.ClassFile.FieldType.int) ∈ zG := zGt9 (List.mem_of_getElem? (i := 74) (by rfl)) rfl
theorem gw_9_71 : Cond.methodLink RX9 134 yX9_refusalOf ∈ zG := zGt9 (List.mem_of_getElem? (i := 71) (by rfl)) rfl
theorem gw_9_73 : Cond.instanceMethod yX9_refusalOf ∈ zG := zGt9 (List.mem_of_getElem? (i := 73) (by rfl)) rfl
theorem gp_76 : Cond.selects RX9 yX9_refusalOf yX9_refusalOf ∈ zG := zGs (List.mem_of_getElem? (i := 76) (by rfl)) rfl
theorem gw_8_181 : Cond.code yX9_put cX9_put 4 (Option.none : Option Jvm.ClassFile.FieldType) ∈ zG := zGt8 (List.mem_of_getElem? (i := 181) (by rfl)) rfl
theorem gw_8_178 : Cond.methodLink RX9 137 yX9_put ∈ zG := zGt8 (List.mem_of_getElem? (i := 178) (by rfl)) rfl
theorem gw_8_180 : Cond.instanceMethod yX9_put ∈ zG := zGt8 (List.mem_of_getElem? (i := 180) (by rfl)) rfl
theorem gp_53 : Cond.selects RX9 yX9_put yX9_put ∈ zG := zGs (List.mem_of_getElem? (i := 53) (by rfl)) rfl
theorem gw_8_165 : Cond.code yX9_add cX9_add 4 (Option.none : Option Jvm.ClassFile.FieldType) ∈ zG := zGt8 (List.mem_of_getElem? (i := 165) (by rfl)) rfl
theorem gw_8_162 : Cond.methodLink RX9 141 yX9_add ∈ zG := zGt8 (List.mem_of_getElem? (i := 162) (by rfl)) rfl
theorem gw_8_164 : Cond.instanceMethod yX9_add ∈ zG := zGt8 (List.mem_of_getElem? (i := 164) (by rfl)) rfl
theorem gp_49 : Cond.selects RX9 yX9_add yX9_add ∈ zG := zGs (List.mem_of_getElem? (i := 49) (by rfl)) rfl
theorem gw_10_14 : Cond.code yX9_trusts cX9_trusts 4 (Option.none : Option Jvm.ClassFile.FieldType) ∈ zG := zGt10 (List.mem_of_getElem? (i := 14) (by rfl)) rfl
theorem gw_10_11 : Cond.methodLink RX9 148 yX9_trusts ∈ zG := zGt10 (List.mem_of_getElem? (i := 11) (by rfl)) rfl
theorem gw_10_13 : Cond.instanceMethod yX9_trusts ∈ zG := zGt10 (List.mem_of_getElem? (i := 13) (by rfl)) rfl
theorem gp_100 : Cond.selects RX9 yX9_trusts yX9_trusts ∈ zG := zGs (List.mem_of_getElem? (i := 100) (by rfl)) rfl
theorem gw_10_83 : Cond.code yX9_dropTaking cX9_dropTaking 4 (Option.none : Option Jvm.ClassFile.FieldType) ∈ zG := zGt10 (List.mem_of_getElem? (i := 83) (by rfl)) rfl
theorem gw_10_80 : Cond.methodLink RX9 170 yX9_dropTaking ∈ zG := zGt10 (List.mem_of_getElem? (i := 80) (by rfl)) rfl
theorem gw_10_82 : Cond.instanceMethod yX9_dropTaking ∈ zG := zGt10 (List.mem_of_getElem? (i := 82) (by rfl)) rfl
theorem gp_106 : Cond.selects RX9 yX9_dropTaking yX9_dropTaking ∈ zG := zGs (List.mem_of_getElem? (i := 106) (by rfl)) rfl
theorem gw_7_221 : Cond.fieldLink RX9 182 (TX9 6).1 (TX9 6).2.1 (TX9 6).2.2.1 ∈ zG := zGt7 (List.mem_of_getElem? (i := 221) (by rfl)) rfl
theorem gw_8_49 : Cond.code yX9_passes cX9_passes 2 (Option.some Jvm.ClassFile.FieldType.boolean) ∈ zG := zGt8 (List.mem_of_getElem? (i := 49) (by rfl)) rfl
theorem gw_8_46 : Cond.methodLink RX9 185 yX9_passes ∈ zG := zGt8 (List.mem_of_getElem? (i := 46) (by rfl)) rfl
theorem gw_8_48 : Cond.instanceMethod yX9_passes ∈ zG := zGt8 (List.mem_of_getElem? (i := 48) (by rfl)) rfl
theorem gp_28 : Cond.selects RX9 yX9_passes yX9_passes ∈ zG := zGs (List.mem_of_getElem? (i := 28) (by rfl)) rfl
theorem gw_8_57 : Cond.code yX9_appendFour cX9_appendFour 3 (Option.none : Option Jvm.ClassFile.FieldType) ∈ zG := zGt8 (List.mem_of_getElem? (i := 57) (by rfl)) rfl
theorem gw_8_54 : Cond.methodLink RX9 189 yX9_appendFour ∈ zG := zGt8 (List.mem_of_getElem? (i := 54) (by rfl)) rfl
theorem gw_8_56 : Cond.instanceMethod yX9_appendFour ∈ zG := zGt8 (List.mem_of_getElem? (i := 56) (by rfl)) rfl
theorem gp_30 : Cond.selects RX9 yX9_appendFour yX9_appendFour ∈ zG := zGs (List.mem_of_getElem? (i := 30) (by rfl)) rfl
theorem gw_7_227 : Cond.fieldLink RX9 192 (TX9 12).1 (TX9 12).2.1 (TX9 12).2.2.1 ∈ zG := zGt7 (List.mem_of_getElem? (i := 227) (by rfl)) rfl
theorem gw_8_94 : Cond.code yX9_good cX9_good 1 (Option.some Jvm.ClassFile.FieldType.boolean) ∈ zG := zGt8 (List.mem_of_getElem? (i := 94) (by rfl)) rfl
theorem gw_8_91 : Cond.methodLink RX9 195 yX9_good ∈ zG := zGt8 (List.mem_of_getElem? (i := 91) (by rfl)) rfl
theorem gw_8_93 : Cond.instanceMethod yX9_good ∈ zG := zGt8 (List.mem_of_getElem? (i := 93) (by rfl)) rfl
theorem gp_35 : Cond.selects RX9 yX9_good yX9_good ∈ zG := zGs (List.mem_of_getElem? (i := 35) (by rfl)) rfl
theorem gw_7_224 : Cond.fieldLink RX9 199 (TX9 9).1 (TX9 9).2.1 (TX9 9).2.2.1 ∈ zG := zGt7 (List.mem_of_getElem? (i := 224) (by rfl)) rfl
theorem gw_7_222 : Cond.fieldLink RX9 202 (TX9 7).1 (TX9 7).2.1 (TX9 7).2.2.1 ∈ zG := zGt7 (List.mem_of_getElem? (i := 222) (by rfl)) rfl
theorem gw_7_223 : Cond.fieldLink RX9 205 (TX9 8).1 (TX9 8).2.1 (TX9 8).2.2.1 ∈ zG := zGt7 (List.mem_of_getElem? (i := 223) (by rfl)) rfl
theorem gw_8_76 : Cond.code yX9_byteAt cX9_byteAt 2 (Option.some Jvm.ClassFile.FieldType.int) ∈ zG := zGt8 (List.mem_of_getElem? (i := 76) (by rfl)) rfl
theorem gw_8_73 : Cond.methodLink RX9 208 yX9_byteAt ∈ zG := zGt8 (List.mem_of_getElem? (i := 73) (by rfl)) rfl
theorem gw_8_75 : Cond.instanceMethod yX9_byteAt ∈ zG := zGt8 (List.mem_of_getElem? (i := 75) (by rfl)) rfl
theorem gp_32 : Cond.selects RX9 yX9_byteAt yX9_byteAt ∈ zG := zGs (List.mem_of_getElem? (i := 32) (by rfl)) rfl
theorem gw_7_225 : Cond.fieldLink RX9 211 (TX9 10).1 (TX9 10).2.1 (TX9 10).2.2.1 ∈ zG := zGt7 (List.mem_of_getElem? (i := 225) (by rfl)) rfl
theorem gw_8_77 : Cond.constantLong RX9 214 (Int64.ofInt 97) ∈ zG := zGt8 (List.mem_of_getElem? (i := 77) (by rfl)) rfl
theorem gw_8_78 : Cond.constantLong RX9 216 (Int64.ofInt 122) ∈ zG := zGt8 (List.mem_of_getElem? (i := 78) (by rfl)) rfl
theorem gw_8_79 : Cond.constantLong RX9 218 (Int64.ofInt 48) ∈ zG := zGt8 (List.mem_of_getElem? (i := 79) (by rfl)) rfl
theorem gw_8_80 : Cond.constantLong RX9 220 (Int64.ofInt 57) ∈ zG := zGt8 (List.mem_of_getElem? (i := 80) (by rfl)) rfl
theorem gw_7_226 : Cond.fieldLink RX9 222 (TX9 11).1 (TX9 11).2.1 (TX9 11).2.2.1 ∈ zG := zGt7 (List.mem_of_getElem? (i := 226) (by rfl)) rfl
theorem gw_8_72 : Cond.code yX9_scan cX9_scan 2 (Option.none : Option Jvm.ClassFile.FieldType) ∈ zG := zGt8 (List.mem_of_getElem? (i := 72) (by rfl)) rfl
theorem gw_8_69 : Cond.methodLink RX9 225 yX9_scan ∈ zG := zGt8 (List.mem_of_getElem? (i := 69) (by rfl)) rfl
theorem gw_8_71 : Cond.instanceMethod yX9_scan ∈ zG := zGt8 (List.mem_of_getElem? (i := 71) (by rfl)) rfl
theorem gp_31 : Cond.selects RX9 yX9_scan yX9_scan ∈ zG := zGs (List.mem_of_getElem? (i := 31) (by rfl)) rfl
theorem gw_8_100 : Cond.code yX9_errs cX9_errs 2 (Option.none : Option Jvm.ClassFile.FieldType) ∈ zG := zGt8 (List.mem_of_getElem? (i := 100) (by rfl)) rfl
theorem gw_8_97 : Cond.methodLink RX9 237 yX9_errs ∈ zG := zGt8 (List.mem_of_getElem? (i := 97) (by rfl)) rfl
theorem gw_8_99 : Cond.instanceMethod yX9_errs ∈ zG := zGt8 (List.mem_of_getElem? (i := 99) (by rfl)) rfl
theorem gp_36 : Cond.selects RX9 yX9_errs yX9_errs ∈ zG := zGs (List.mem_of_getElem? (i := 36) (by rfl)) rfl
theorem gw_8_117 : Cond.code yX9_looks cX9_looks 3 (Option.none : Option Jvm.ClassFile.FieldType) ∈ zG := zGt8 (List.mem_of_getElem? (i := 117) (by rfl)) rfl
theorem gw_8_114 : Cond.methodLink RX9 240 yX9_looks ∈ zG := zGt8 (List.mem_of_getElem? (i := 114) (by rfl)) rfl
theorem gw_8_116 : Cond.instanceMethod yX9_looks ∈ zG := zGt8 (List.mem_of_getElem? (i := 116) (by rfl)) rfl
theorem gp_40 : Cond.selects RX9 yX9_looks yX9_looks ∈ zG := zGs (List.mem_of_getElem? (i := 40) (by rfl)) rfl
theorem gw_8_104 : Cond.code yX9_goOn cX9_goOn 1 (Option.none : Option Jvm.ClassFile.FieldType) ∈ zG := zGt8 (List.mem_of_getElem? (i := 104) (by rfl)) rfl
theorem gw_8_101 : Cond.methodLink RX9 243 yX9_goOn ∈ zG := zGt8 (List.mem_of_getElem? (i := 101) (by rfl)) rfl
theorem gw_8_103 : Cond.instanceMethod yX9_goOn ∈ zG := zGt8 (List.mem_of_getElem? (i := 103) (by rfl)) rfl
theorem gp_37 : Cond.selects RX9 yX9_goOn yX9_goOn ∈ zG := zGs (List.mem_of_getElem? (i := 37) (by rfl)) rfl
theorem gw_8_218 : Cond.constantLong RX9 321 (Int64.ofInt 6) ∈ zG := zGt8 (List.mem_of_getElem? (i := 218) (by rfl)) rfl
theorem gw_8_153 : Cond.code yX9_nameOf cX9_nameOf 5 (Option.some Jvm.ClassFile.FieldType.int) ∈ zG := zGt8 (List.mem_of_getElem? (i := 153) (by rfl)) rfl
theorem gw_8_151 : Cond.methodLink RX9 276 yX9_nameOf ∈ zG := zGt8 (List.mem_of_getElem? (i := 151) (by rfl)) rfl
theorem gw_8_152 : Cond.static yX9_nameOf ∈ zG := zGt8 (List.mem_of_getElem? (i := 152) (by rfl)) rfl
theorem gw_8_157 : Cond.code yX9_withName cX9_withName 3 (Option.some Jvm.ClassFile.FieldType.int) ∈ zG := zGt8 (List.mem_of_getElem? (i := 157) (by rfl)) rfl
theorem gw_8_154 : Cond.methodLink RX9 287 yX9_withName ∈ zG := zGt8 (List.mem_of_getElem? (i := 154) (by rfl)) rfl
theorem gw_8_156 : Cond.instanceMethod yX9_withName ∈ zG := zGt8 (List.mem_of_getElem? (i := 156) (by rfl)) rfl
theorem gp_47 : Cond.selects RX9 yX9_withName yX9_withName ∈ zG := zGs (List.mem_of_getElem? (i := 47) (by rfl)) rfl
theorem gw_8_235 : Cond.code yX9_isAudited cX9_isAudited 2 (Option.some Jvm.ClassFile.FieldType.boolean) ∈ zG := zGt8 (List.mem_of_getElem? (i := 235) (by rfl)) rfl
theorem gw_8_232 : Cond.methodLink RX9 323 yX9_isAudited ∈ zG := zGt8 (List.mem_of_getElem? (i := 232) (by rfl)) rfl
theorem gw_8_234 : Cond.instanceMethod yX9_isAudited ∈ zG := zGt8 (List.mem_of_getElem? (i := 234) (by rfl)) rfl
theorem gp_62 : Cond.selects RX9 yX9_isAudited yX9_isAudited ∈ zG := zGs (List.mem_of_getElem? (i := 62) (by rfl)) rfl
theorem gw_8_223 : Cond.constantLong RX9 326 (Int64.ofInt 10) ∈ zG := zGt8 (List.mem_of_getElem? (i := 223) (by rfl)) rfl
theorem gw_8_231 : Cond.code yX9_audited cX9_audited 3 (Option.some Jvm.ClassFile.FieldType.int) ∈ zG := zGt8 (List.mem_of_getElem? (i := 231) (by rfl)) rfl
theorem gw_8_228 : Cond.methodLink RX9 328 yX9_audited ∈ zG := zGt8 (List.mem_of_getElem? (i := 228) (by rfl)) rfl
theorem gw_8_230 : Cond.instanceMethod yX9_audited ∈ zG := zGt8 (List.mem_of_getElem? (i := 230) (by rfl)) rfl
theorem gp_61 : Cond.selects RX9 yX9_audited yX9_audited ∈ zG := zGs (List.mem_of_getElem? (i := 61) (by rfl)) rfl
theorem gw_9_3 : Cond.code yX9_manyIn cX9_manyIn 4 (Option.some Jvm.ClassFile.FieldType.int) ∈ zG := zGt9 (List.mem_of_getElem? (i := 3) (by rfl)) rfl
theorem gw_9_0 : Cond.methodLink RX9 331 yX9_manyIn ∈ zG := zGt9 (List.mem_of_getElem? (i := 0) (by rfl)) rfl
theorem gw_9_2 : Cond.instanceMethod yX9_manyIn ∈ zG := zGt9 (List.mem_of_getElem? (i := 2) (by rfl)) rfl
theorem gp_64 : Cond.selects RX9 yX9_manyIn yX9_manyIn ∈ zG := zGs (List.mem_of_getElem? (i := 64) (by rfl)) rfl
theorem gw_9_11 : Cond.code yX9_isWorker cX9_isWorker 2 (Option.some Jvm.ClassFile.FieldType.boolean) ∈ zG := zGt9 (List.mem_of_getElem? (i := 11) (by rfl)) rfl
theorem gw_9_8 : Cond.methodLink RX9 334 yX9_isWorker ∈ zG := zGt9 (List.mem_of_getElem? (i := 8) (by rfl)) rfl
theorem gw_9_10 : Cond.instanceMethod yX9_isWorker ∈ zG := zGt9 (List.mem_of_getElem? (i := 10) (by rfl)) rfl
theorem gp_65 : Cond.selects RX9 yX9_isWorker yX9_isWorker ∈ zG := zGs (List.mem_of_getElem? (i := 65) (by rfl)) rfl
theorem gw_9_12 : Cond.constantLong RX9 337 (Int64.ofInt 8) ∈ zG := zGt9 (List.mem_of_getElem? (i := 12) (by rfl)) rfl
theorem gw_9_16 : Cond.code yX9_passes2 cX9_passes2 3 (Option.some Jvm.ClassFile.FieldType.boolean) ∈ zG := zGt9 (List.mem_of_getElem? (i := 16) (by rfl)) rfl
theorem gw_9_13 : Cond.methodLink RX9 339 yX9_passes2 ∈ zG := zGt9 (List.mem_of_getElem? (i := 13) (by rfl)) rfl
theorem gw_9_15 : Cond.instanceMethod yX9_passes2 ∈ zG := zGt9 (List.mem_of_getElem? (i := 15) (by rfl)) rfl
theorem gp_66 : Cond.selects RX9 yX9_passes2 yX9_passes2 ∈ zG := zGs (List.mem_of_getElem? (i := 66) (by rfl)) rfl
theorem gw_9_48 : Cond.code yX9_isRow cX9_isRow 2 (Option.some Jvm.ClassFile.FieldType.boolean) ∈ zG := zGt9 (List.mem_of_getElem? (i := 48) (by rfl)) rfl
theorem gw_9_45 : Cond.methodLink RX9 343 yX9_isRow ∈ zG := zGt9 (List.mem_of_getElem? (i := 45) (by rfl)) rfl
theorem gw_9_47 : Cond.instanceMethod yX9_isRow ∈ zG := zGt9 (List.mem_of_getElem? (i := 47) (by rfl)) rfl
theorem gp_73 : Cond.selects RX9 yX9_isRow yX9_isRow ∈ zG := zGs (List.mem_of_getElem? (i := 73) (by rfl)) rfl
theorem gw_9_58 : Cond.constantLong RX9 346 (Int64.ofInt 2) ∈ zG := zGt9 (List.mem_of_getElem? (i := 58) (by rfl)) rfl
theorem gw_9_70 : Cond.code yX9_areThere cX9_areThere 3 (Option.some Jvm.ClassFile.FieldType.boolean) ∈ zG := zGt9 (List.mem_of_getElem? (i := 70) (by rfl)) rfl
theorem gw_9_67 : Cond.methodLink RX9 348 yX9_areThere ∈ zG := zGt9 (List.mem_of_getElem? (i := 67) (by rfl)) rfl
theorem gw_9_69 : Cond.instanceMethod yX9_areThere ∈ zG := zGt9 (List.mem_of_getElem? (i := 69) (by rfl)) rfl
theorem gp_75 : Cond.selects RX9 yX9_areThere yX9_areThere ∈ zG := zGs (List.mem_of_getElem? (i := 75) (by rfl)) rfl
theorem gw_9_101 : Cond.code yX9_canTake cX9_canTake 3 (Option.some Jvm.ClassFile.FieldType.boolean) ∈ zG := zGt9 (List.mem_of_getElem? (i := 101) (by rfl)) rfl
theorem gw_9_98 : Cond.methodLink RX9 351 yX9_canTake ∈ zG := zGt9 (List.mem_of_getElem? (i := 98) (by rfl)) rfl
theorem gw_9_100 : Cond.instanceMethod yX9_canTake ∈ zG := zGt9 (List.mem_of_getElem? (i := 100) (by rfl)) rfl
theorem gp_81 : Cond.selects RX9 yX9_canTake yX9_canTake ∈ zG := zGs (List.mem_of_getElem? (i := 81) (by rfl)) rfl
theorem gw_9_113 : Cond.code yX9_urgency cX9_urgency 2 (Option.some Jvm.ClassFile.FieldType.int) ∈ zG := zGt9 (List.mem_of_getElem? (i := 113) (by rfl)) rfl
theorem gw_9_110 : Cond.methodLink RX9 354 yX9_urgency ∈ zG := zGt9 (List.mem_of_getElem? (i := 110) (by rfl)) rfl
theorem gw_9_112 : Cond.instanceMethod yX9_urgency ∈ zG := zGt9 (List.mem_of_getElem? (i := 112) (by rfl)) rfl
theorem gp_83 : Cond.selects RX9 yX9_urgency yX9_urgency ∈ zG := zGs (List.mem_of_getElem? (i := 83) (by rfl)) rfl
theorem gw_9_109 : Cond.code yX9_nextOf cX9_nextOf 4 (Option.some Jvm.ClassFile.FieldType.int) ∈ zG := zGt9 (List.mem_of_getElem? (i := 109) (by rfl)) rfl
theorem gw_9_106 : Cond.methodLink RX9 357 yX9_nextOf ∈ zG := zGt9 (List.mem_of_getElem? (i := 106) (by rfl)) rfl
theorem gw_9_108 : Cond.instanceMethod yX9_nextOf ∈ zG := zGt9 (List.mem_of_getElem? (i := 108) (by rfl)) rfl
theorem gp_82 : Cond.selects RX9 yX9_nextOf yX9_nextOf ∈ zG := zGs (List.mem_of_getElem? (i := 82) (by rfl)) rfl
theorem gw_9_125 : Cond.code yX9_isStuckAt cX9_isStuckAt 4 (Option.some Jvm.ClassFile.FieldType.boolean) ∈ zG := zGt9 (List.mem_of_getElem? (i := 125) (by rfl)) rfl
theorem gw_9_122 : Cond.methodLink RX9 360 yX9_isStuckAt ∈ zG := zGt9 (List.mem_of_getElem? (i := 122) (by rfl)) rfl
theorem gw_9_124 : Cond.instanceMethod yX9_isStuckAt ∈ zG := zGt9 (List.mem_of_getElem? (i := 124) (by rfl)) rfl
theorem gp_84 : Cond.selects RX9 yX9_isStuckAt yX9_isStuckAt ∈ zG := zGs (List.mem_of_getElem? (i := 84) (by rfl)) rfl
theorem gw_9_133 : Cond.code yX9_canPair cX9_canPair 4 (Option.some Jvm.ClassFile.FieldType.boolean) ∈ zG := zGt9 (List.mem_of_getElem? (i := 133) (by rfl)) rfl
theorem gw_9_130 : Cond.methodLink RX9 363 yX9_canPair ∈ zG := zGt9 (List.mem_of_getElem? (i := 130) (by rfl)) rfl
theorem gw_9_132 : Cond.instanceMethod yX9_canPair ∈ zG := zGt9 (List.mem_of_getElem? (i := 132) (by rfl)) rfl
theorem gp_85 : Cond.selects RX9 yX9_canPair yX9_canPair ∈ zG := zGs (List.mem_of_getElem? (i := 85) (by rfl)) rfl
theorem gw_9_141 : Cond.code yX9_finds cX9_finds 3 (Option.some Jvm.ClassFile.FieldType.boolean) ∈ zG := zGt9 (List.mem_of_getElem? (i := 141) (by rfl)) rfl
theorem gw_9_138 : Cond.methodLink RX9 367 yX9_finds ∈ zG := zGt9 (List.mem_of_getElem? (i := 138) (by rfl)) rfl
theorem gw_9_140 : Cond.instanceMethod yX9_finds ∈ zG := zGt9 (List.mem_of_getElem? (i := 140) (by rfl)) rfl
theorem gp_86 : Cond.selects RX9 yX9_finds yX9_finds ∈ zG := zGs (List.mem_of_getElem? (i := 86) (by rfl)) rfl
theorem gw_9_149 : Cond.code yX9_areWorkers cX9_areWorkers 3 (Option.some Jvm.ClassFile.FieldType.boolean) ∈ zG := zGt9 (List.mem_of_getElem? (i := 149) (by rfl)) rfl
theorem gw_9_146 : Cond.methodLink RX9 370 yX9_areWorkers ∈ zG := zGt9 (List.mem_of_getElem? (i := 146) (by rfl)) rfl
theorem gw_9_148 : Cond.instanceMethod yX9_areWorkers ∈ zG := zGt9 (List.mem_of_getElem? (i := 148) (by rfl)) rfl
theorem gp_87 : Cond.selects RX9 yX9_areWorkers yX9_areWorkers ∈ zG := zGs (List.mem_of_getElem? (i := 87) (by rfl)) rfl
theorem gw_9_165 : Cond.code yX9_resultOf cX9_resultOf 4 (Option.some Jvm.ClassFile.FieldType.int) ∈ zG := zGt9 (List.mem_of_getElem? (i := 165) (by rfl)) rfl
theorem gw_9_162 : Cond.methodLink RX9 373 yX9_resultOf ∈ zG := zGt9 (List.mem_of_getElem? (i := 162) (by rfl)) rfl
theorem gw_9_164 : Cond.instanceMethod yX9_resultOf ∈ zG := zGt9 (List.mem_of_getElem? (i := 164) (by rfl)) rfl
theorem gp_89 : Cond.selects RX9 yX9_resultOf yX9_resultOf ∈ zG := zGs (List.mem_of_getElem? (i := 89) (by rfl)) rfl
theorem gw_9_169 : Cond.code yX9_doAgree cX9_doAgree 3 (Option.some Jvm.ClassFile.FieldType.boolean) ∈ zG := zGt9 (List.mem_of_getElem? (i := 169) (by rfl)) rfl
theorem gw_9_166 : Cond.methodLink RX9 151 yX9_doAgree ∈ zG := zGt9 (List.mem_of_getElem? (i := 166) (by rfl)) rfl
theorem gw_9_168 : Cond.instanceMethod yX9_doAgree ∈ zG := zGt9 (List.mem_of_getElem? (i := 168) (by rfl)) rfl
theorem gp_90 : Cond.selects RX9 yX9_doAgree yX9_doAgree ∈ zG := zGs (List.mem_of_getElem? (i := 90) (by rfl)) rfl
theorem gw_9_161 : Cond.code yX9_together cX9_together 8 (Option.some Jvm.ClassFile.FieldType.int) ∈ zG := zGt9 (List.mem_of_getElem? (i := 161) (by rfl)) rfl
theorem gw_9_158 : Cond.methodLink RX9 376 yX9_together ∈ zG := zGt9 (List.mem_of_getElem? (i := 158) (by rfl)) rfl
theorem gw_9_160 : Cond.instanceMethod yX9_together ∈ zG := zGt9 (List.mem_of_getElem? (i := 160) (by rfl)) rfl
theorem gp_88 : Cond.selects RX9 yX9_together yX9_together ∈ zG := zGs (List.mem_of_getElem? (i := 88) (by rfl)) rfl
theorem gw_9_198 : Cond.code yX9_riskOf cX9_riskOf 5 (Option.some Jvm.ClassFile.FieldType.int) ∈ zG := zGt9 (List.mem_of_getElem? (i := 198) (by rfl)) rfl
theorem gw_9_195 : Cond.methodLink RX9 380 yX9_riskOf ∈ zG := zGt9 (List.mem_of_getElem? (i := 195) (by rfl)) rfl
theorem gw_9_197 : Cond.instanceMethod yX9_riskOf ∈ zG := zGt9 (List.mem_of_getElem? (i := 197) (by rfl)) rfl
theorem gp_91 : Cond.selects RX9 yX9_riskOf yX9_riskOf ∈ zG := zGs (List.mem_of_getElem? (i := 91) (by rfl)) rfl
theorem gw_9_206 : Cond.code yX9_isAheadOf cX9_isAheadOf 3 (Option.some Jvm.ClassFile.FieldType.boolean) ∈ zG := zGt9 (List.mem_of_getElem? (i := 206) (by rfl)) rfl
theorem gw_9_203 : Cond.methodLink RX9 383 yX9_isAheadOf ∈ zG := zGt9 (List.mem_of_getElem? (i := 203) (by rfl)) rfl
theorem gw_9_205 : Cond.instanceMethod yX9_isAheadOf ∈ zG := zGt9 (List.mem_of_getElem? (i := 205) (by rfl)) rfl
theorem gp_92 : Cond.selects RX9 yX9_isAheadOf yX9_isAheadOf ∈ zG := zGs (List.mem_of_getElem? (i := 92) (by rfl)) rfl
theorem gw_9_215 : Cond.constantLong RX9 386 (Int64.ofInt 99) ∈ zG := zGt9 (List.mem_of_getElem? (i := 215) (by rfl)) rfl
theorem gw_10_43 : Cond.constantLong RX9 394 (Int64.ofInt 9) ∈ zG := zGt10 (List.mem_of_getElem? (i := 43) (by rfl)) rfl
theorem gw_8_201 : Cond.code yX9_putBoth cX9_putBoth 5 (Option.none : Option Jvm.ClassFile.FieldType) ∈ zG := zGt8 (List.mem_of_getElem? (i := 201) (by rfl)) rfl
theorem gw_8_198 : Cond.methodLink RX9 296 yX9_putBoth ∈ zG := zGt8 (List.mem_of_getElem? (i := 198) (by rfl)) rfl
theorem gw_8_200 : Cond.instanceMethod yX9_putBoth ∈ zG := zGt8 (List.mem_of_getElem? (i := 200) (by rfl)) rfl
theorem gp_58 : Cond.selects RX9 yX9_putBoth yX9_putBoth ∈ zG := zGs (List.mem_of_getElem? (i := 58) (by rfl)) rfl
theorem gw_10_125 : Cond.code yX9_isSlot cX9_isSlot 1 (Option.some Jvm.ClassFile.FieldType.boolean) ∈ zG := zGt10 (List.mem_of_getElem? (i := 125) (by rfl)) rfl
theorem gw_10_123 : Cond.methodLink RX9 413 yX9_isSlot ∈ zG := zGt10 (List.mem_of_getElem? (i := 123) (by rfl)) rfl
theorem gw_10_124 : Cond.static yX9_isSlot ∈ zG := zGt10 (List.mem_of_getElem? (i := 124) (by rfl)) rfl
theorem gw_7_234 : Cond.fieldLink RX9 416 (TX9 19).1 (TX9 19).2.1 (TX9 19).2.2.1 ∈ zG := zGt7 (List.mem_of_getElem? (i := 234) (by rfl)) rfl
theorem gw_7_236 : Cond.fieldLink RX9 419 (TX9 21).1 (TX9 21).2.1 (TX9 21).2.2.1 ∈ zG := zGt7 (List.mem_of_getElem? (i := 236) (by rfl)) rfl
theorem gw_10_149 : Cond.code yX9_write cX9_write 2 (Option.none : Option Jvm.ClassFile.FieldType) ∈ zG := zGt10 (List.mem_of_getElem? (i := 149) (by rfl)) rfl
theorem gw_10_146 : Cond.methodLink RX9 422 yX9_write ∈ zG := zGt10 (List.mem_of_getElem? (i := 146) (by rfl)) rfl
theorem gw_10_148 : Cond.instanceMethod yX9_write ∈ zG := zGt10 (List.mem_of_getElem? (i := 148) (by rfl)) rfl
theorem gp_109 : Cond.selects RX9 yX9_write yX9_write ∈ zG := zGs (List.mem_of_getElem? (i := 109) (by rfl)) rfl
theorem gw_10_145 : Cond.code yX9_writeGap cX9_writeGap 1 (Option.none : Option Jvm.ClassFile.FieldType) ∈ zG := zGt10 (List.mem_of_getElem? (i := 145) (by rfl)) rfl
theorem gw_10_142 : Cond.methodLink RX9 425 yX9_writeGap ∈ zG := zGt10 (List.mem_of_getElem? (i := 142) (by rfl)) rfl
theorem gw_10_144 : Cond.instanceMethod yX9_writeGap ∈ zG := zGt10 (List.mem_of_getElem? (i := 144) (by rfl)) rfl
theorem gp_108 : Cond.selects RX9 yX9_writeGap yX9_writeGap ∈ zG := zGs (List.mem_of_getElem? (i := 108) (by rfl)) rfl
theorem gw_10_153 : Cond.code yX9_writeNumber cX9_writeNumber 4 (Option.none : Option Jvm.ClassFile.FieldType) ∈ zG := zGt10 (List.mem_of_getElem? (i := 153) (by rfl)) rfl
theorem gw_10_150 : Cond.methodLink RX9 428 yX9_writeNumber ∈ zG := zGt10 (List.mem_of_getElem? (i := 150) (by rfl)) rfl
theorem gw_10_152 : Cond.instanceMethod yX9_writeNumber ∈ zG := zGt10 (List.mem_of_getElem? (i := 152) (by rfl)) rfl
theorem gp_110 : Cond.selects RX9 yX9_writeNumber yX9_writeNumber ∈ zG := zGs (List.mem_of_getElem? (i := 110) (by rfl)) rfl
theorem gw_10_161 : Cond.code yX9_writeName cX9_writeName 5 (Option.none : Option Jvm.ClassFile.FieldType) ∈ zG := zGt10 (List.mem_of_getElem? (i := 161) (by rfl)) rfl
theorem gw_10_158 : Cond.methodLink RX9 431 yX9_writeName ∈ zG := zGt10 (List.mem_of_getElem? (i := 158) (by rfl)) rfl
theorem gw_10_160 : Cond.instanceMethod yX9_writeName ∈ zG := zGt10 (List.mem_of_getElem? (i := 160) (by rfl)) rfl
theorem gp_111 : Cond.selects RX9 yX9_writeName yX9_writeName ∈ zG := zGs (List.mem_of_getElem? (i := 111) (by rfl)) rfl
theorem gw_1_61 : Cond.methodLink RJ5 3 Lib.objectInit ∈ zG := zGt1 (List.mem_of_getElem? (i := 61) (by rfl)) rfl
theorem gw_1_62 : Cond.fieldLink RJ5 18 "java/lang/String" "COMPACT_STRINGS" "Z" ∈ zG := zGt1 (List.mem_of_getElem? (i := 62) (by rfl)) rfl
theorem gw_1_71 : Cond.fieldLink RJ5 15 (TJ4 0).1 (TJ4 0).2.1 (TJ4 0).2.2.1 ∈ zG := zGt1 (List.mem_of_getElem? (i := 71) (by rfl)) rfl
theorem gw_1_76 : Cond.lays RJ4 "java/lang/AbstractStringBuilder" "value" "[B" ∈ zG := zGt1 (List.mem_of_getElem? (i := 76) (by rfl)) rfl
theorem gw_1_78 : Cond.lays RJ4 "java/lang/AbstractStringBuilder" "coder" "B" ∈ zG := zGt1 (List.mem_of_getElem? (i := 78) (by rfl)) rfl
theorem gw_1_80 : Cond.lays RJ4 "java/lang/AbstractStringBuilder" "maybeLatin1" "Z" ∈ zG := zGt1 (List.mem_of_getElem? (i := 80) (by rfl)) rfl
theorem gw_1_82 : Cond.lays RJ4 "java/lang/AbstractStringBuilder" "count" "I" ∈ zG := zGt1 (List.mem_of_getElem? (i := 82) (by rfl)) rfl
theorem ui_J4 : ∀ w ∈ u_ws RJ4 TJ4 4, w ∈ zG := show ∀ w ∈ [Cond.lays RJ4 "java/lang/AbstractStringBuilder" "value" "[B", Cond.lays RJ4 "java/lang/AbstractStringBuilder" "coder" "B", Cond.lays RJ4 "java/lang/AbstractStringBuilder" "maybeLatin1" "Z", Cond.lays RJ4 "java/lang/AbstractStringBuilder" "count" "I"], w ∈ zG from List.forall_mem_cons.mpr ⟨gw_1_76, List.forall_mem_cons.mpr ⟨gw_1_78, List.forall_mem_cons.mpr ⟨gw_1_80, List.forall_mem_cons.mpr ⟨gw_1_82, fun _ h => nomatch h⟩⟩⟩⟩
theorem zc_J4 : zcl2 1 RJ4 TJ4 4 := ⟨rfl, by decide⟩
theorem gw_1_72 : Cond.fieldLink RJ5 22 (TJ4 1).1 (TJ4 1).2.1 (TJ4 1).2.2.1 ∈ zG := zGt1 (List.mem_of_getElem? (i := 72) (by rfl)) rfl
theorem gw_1_75 : Cond.fieldLink RJ5 79 (TJ4 3).1 (TJ4 3).2.1 (TJ4 3).2.2.1 ∈ zG := zGt1 (List.mem_of_getElem? (i := 75) (by rfl)) rfl
theorem gw_3_183 : Cond.fieldLink RJ6 83 "java/lang/Integer" "DigitOnes" "[B" ∈ zG := zGt3 (List.mem_of_getElem? (i := 183) (by rfl)) rfl
theorem gw_3_185 : Cond.fieldLink RJ6 87 "java/lang/Integer" "DigitTens" "[B" ∈ zG := zGt3 (List.mem_of_getElem? (i := 185) (by rfl)) rfl
theorem gw_5_42 : Cond.constant RJ6 265 (Int32.ofInt 1431655765) ∈ zG := zGt5 (List.mem_of_getElem? (i := 42) (by rfl)) rfl
theorem gw_5_43 : Cond.constant RJ6 266 (Int32.ofInt 858993459) ∈ zG := zGt5 (List.mem_of_getElem? (i := 43) (by rfl)) rfl
theorem gw_5_44 : Cond.constant RJ6 267 (Int32.ofInt 252645135) ∈ zG := zGt5 (List.mem_of_getElem? (i := 44) (by rfl)) rfl
theorem gw_2_208 : Cond.fieldLink RJ0 38 "java/lang/String" "COMPACT_STRINGS" "Z" ∈ zG := zGt2 (List.mem_of_getElem? (i := 208) (by rfl)) rfl
theorem gw_4_77 : Cond.fieldLink RJ0 15 (TJ0 1).1 (TJ0 1).2.1 (TJ0 1).2.2.1 ∈ zG := zGt4 (List.mem_of_getElem? (i := 77) (by rfl)) rfl
theorem gw_4_78 : Cond.laysFinal RJ0 "java/lang/String" "value" "[B" ∈ zG := zGt4 (List.mem_of_getElem? (i := 78) (by rfl)) rfl
theorem gw_4_80 : Cond.laysFinal RJ0 "java/lang/String" "coder" "B" ∈ zG := zGt4 (List.mem_of_getElem? (i := 80) (by rfl)) rfl
theorem gw_4_82 : Cond.lays RJ0 "java/lang/String" "hash" "I" ∈ zG := zGt4 (List.mem_of_getElem? (i := 82) (by rfl)) rfl
theorem gw_4_84 : Cond.lays RJ0 "java/lang/String" "hashIsZero" "Z" ∈ zG := zGt4 (List.mem_of_getElem? (i := 84) (by rfl)) rfl
theorem ui_J0 : ∀ w ∈ u_ws RJ0 TJ0 4, w ∈ zG := show ∀ w ∈ [Cond.laysFinal RJ0 "java/lang/String" "value" "[B", Cond.laysFinal RJ0 "java/lang/String" "coder" "B", Cond.lays RJ0 "java/lang/String" "hash" "I", Cond.lays RJ0 "java/lang/String" "hashIsZero" "Z"], w ∈ zG from List.forall_mem_cons.mpr ⟨gw_4_78, List.forall_mem_cons.mpr ⟨gw_4_80, List.forall_mem_cons.mpr ⟨gw_4_82, List.forall_mem_cons.mpr ⟨gw_4_84, fun _ h => nomatch h⟩⟩⟩⟩
theorem zc_J0 : zcl2 0 RJ0 TJ0 4 := ⟨rfl, by decide⟩
theorem gw_1_60 : Cond.code yJ5_init_d00df cJ5_init_d00df 2 (Option.none : Option Jvm.ClassFile.FieldType) ∈ zG := zGt1 (List.mem_of_getElem? (i := 60) (by rfl)) rfl
theorem gw_1_4 : Cond.initialized RJ5 ∈ zG := zGt1 (List.mem_of_getElem? (i := 4) (by rfl)) rfl
theorem gw_1_58 : Cond.methodLink RJ4 1 yJ5_init_d00df ∈ zG := zGt1 (List.mem_of_getElem? (i := 58) (by rfl)) rfl
theorem gw_1_59 : Cond.instanceMethod yJ5_init_d00df ∈ zG := zGt1 (List.mem_of_getElem? (i := 59) (by rfl)) rfl
theorem gw_3_220 : Cond.code yJ5_length_8abf5 cJ5_length_8abf5 1 (Option.some Jvm.ClassFile.FieldType.int) ∈ zG := zGt3 (List.mem_of_getElem? (i := 220) (by rfl)) rfl
theorem gw_3_219 : Cond.methodLink RJ4 343 yJ5_length_8abf5 ∈ zG := zGt3 (List.mem_of_getElem? (i := 219) (by rfl)) rfl
theorem gw_3_214 : Cond.instanceMethod yJ5_length_8abf5 ∈ zG := zGt3 (List.mem_of_getElem? (i := 214) (by rfl)) rfl
theorem gw_3_215 : Cond.sameMethod yJ5_length_8abf5.cls yJ5_length_8abf5.cls yJ5_length_8abf5.name yJ5_length_8abf5.desc ∈ zG := zGt3 (List.mem_of_getElem? (i := 215) (by rfl)) rfl
theorem gw_1_84 : Cond.superclass RJ4 yJ5_length_8abf5.cls ∈ zG := zGt1 (List.mem_of_getElem? (i := 84) (by rfl)) rfl
theorem gw_3_109 : Cond.methodLink RJ7 304 Lib.Math.min.name ∈ zG := zGt3 (List.mem_of_getElem? (i := 109) (by rfl)) rfl
theorem gw_3_112 : Cond.methodLink RJ7 150 arraycopyName ∈ zG := zGt3 (List.mem_of_getElem? (i := 112) (by rfl)) rfl
theorem gw_3_230 : Cond.code yJ7_checkLength_df160 cJ7_checkLength_df160 2 (Option.none : Option Jvm.ClassFile.FieldType) ∈ zG := zGt3 (List.mem_of_getElem? (i := 230) (by rfl)) rfl
theorem gw_1_19 : Cond.initialized RJ7 ∈ zG := zGt1 (List.mem_of_getElem? (i := 19) (by rfl)) rfl
theorem gw_3_228 : Cond.methodLink RJ7 343 yJ7_checkLength_df160 ∈ zG := zGt3 (List.mem_of_getElem? (i := 228) (by rfl)) rfl
theorem gw_3_229 : Cond.static yJ7_checkLength_df160 ∈ zG := zGt3 (List.mem_of_getElem? (i := 229) (by rfl)) rfl
theorem gw_3_91 : Cond.methodLink RJ8 194 Lib.Math.max.name ∈ zG := zGt3 (List.mem_of_getElem? (i := 91) (by rfl)) rfl
theorem gw_3_94 : Cond.constant RJ8 200 (Int32.ofInt 2147483639) ∈ zG := zGt3 (List.mem_of_getElem? (i := 94) (by rfl)) rfl
theorem gw_1_52 : Cond.methodLink RX1 3 Lib.objectInit ∈ zG := zGt1 (List.mem_of_getElem? (i := 52) (by rfl)) rfl
theorem gw_1_53 : Cond.classLink RX1 19 RJ4 ∈ zG := zGt1 (List.mem_of_getElem? (i := 53) (by rfl)) rfl
theorem gw_1_54 : Cond.instantiable RJ4 4 ∈ zG := zGt1 (List.mem_of_getElem? (i := 54) (by rfl)) rfl
theorem gw_1_5 : Cond.initialized RJ4 ∈ zG := zGt1 (List.mem_of_getElem? (i := 5) (by rfl)) rfl
theorem gw_1_57 : Cond.code yJ4_init_da8c8 cJ4_init_da8c8 1 (Option.none : Option Jvm.ClassFile.FieldType) ∈ zG := zGt1 (List.mem_of_getElem? (i := 57) (by rfl)) rfl
theorem gw_1_55 : Cond.methodLink RX1 21 yJ4_init_da8c8 ∈ zG := zGt1 (List.mem_of_getElem? (i := 55) (by rfl)) rfl
theorem gw_1_56 : Cond.instanceMethod yJ4_init_da8c8 ∈ zG := zGt1 (List.mem_of_getElem? (i := 56) (by rfl)) rfl
theorem gw_1_92 : Cond.fieldLink RX1 22 (TX1 2).1 (TX1 2).2.1 (TX1 2).2.2.1 ∈ zG := zGt1 (List.mem_of_getElem? (i := 92) (by rfl)) rfl
theorem gw_2_37 : Cond.fieldLink RX3 45 (TX3 4).1 (TX3 4).2.1 (TX3 4).2.2.1 ∈ zG := zGt2 (List.mem_of_getElem? (i := 37) (by rfl)) rfl
theorem gw_3_10 : Cond.code yX3_fail cX3_fail 2 (Option.some Jvm.ClassFile.FieldType.boolean) ∈ zG := zGt3 (List.mem_of_getElem? (i := 10) (by rfl)) rfl
theorem gw_1_2 : Cond.initialized RX3 ∈ zG := zGt1 (List.mem_of_getElem? (i := 2) (by rfl)) rfl
theorem gw_3_7 : Cond.methodLink RX3 110 yX3_fail ∈ zG := zGt3 (List.mem_of_getElem? (i := 7) (by rfl)) rfl
theorem gw_3_9 : Cond.instanceMethod yX3_fail ∈ zG := zGt3 (List.mem_of_getElem? (i := 9) (by rfl)) rfl
theorem gp_6 : Cond.selects RX3 yX3_fail yX3_fail ∈ zG := zGs (List.mem_of_getElem? (i := 6) (by rfl)) rfl
theorem gw_2_173 : Cond.code yX3_isBlank cX3_isBlank 1 (Option.some Jvm.ClassFile.FieldType.boolean) ∈ zG := zGt2 (List.mem_of_getElem? (i := 173) (by rfl)) rfl
theorem gw_2_171 : Cond.methodLink RX3 189 yX3_isBlank ∈ zG := zGt2 (List.mem_of_getElem? (i := 171) (by rfl)) rfl
theorem gw_2_172 : Cond.static yX3_isBlank ∈ zG := zGt2 (List.mem_of_getElem? (i := 172) (by rfl)) rfl
theorem gw_2_177 : Cond.code yX3_kindAt cX3_kindAt 3 (Option.some Jvm.ClassFile.FieldType.int) ∈ zG := zGt2 (List.mem_of_getElem? (i := 177) (by rfl)) rfl
theorem gw_2_174 : Cond.methodLink RX3 192 yX3_kindAt ∈ zG := zGt2 (List.mem_of_getElem? (i := 174) (by rfl)) rfl
theorem gw_2_176 : Cond.instanceMethod yX3_kindAt ∈ zG := zGt2 (List.mem_of_getElem? (i := 176) (by rfl)) rfl
theorem gp_1 : Cond.selects RX3 yX3_kindAt yX3_kindAt ∈ zG := zGs (List.mem_of_getElem? (i := 1) (by rfl)) rfl
theorem gw_2_181 : Cond.code yX3_readDigits cX3_readDigits 2 (Option.none : Option Jvm.ClassFile.FieldType) ∈ zG := zGt2 (List.mem_of_getElem? (i := 181) (by rfl)) rfl
theorem gw_2_178 : Cond.methodLink RX3 196 yX3_readDigits ∈ zG := zGt2 (List.mem_of_getElem? (i := 178) (by rfl)) rfl
theorem gw_2_180 : Cond.instanceMethod yX3_readDigits ∈ zG := zGt2 (List.mem_of_getElem? (i := 180) (by rfl)) rfl
theorem gp_2 : Cond.selects RX3 yX3_readDigits yX3_readDigits ∈ zG := zGs (List.mem_of_getElem? (i := 2) (by rfl)) rfl
theorem gw_7_5 : Cond.code yX4_setTaking cX4_setTaking 5 (Option.none : Option Jvm.ClassFile.FieldType) ∈ zG := zGt7 (List.mem_of_getElem? (i := 5) (by rfl)) rfl
theorem gw_7_2 : Cond.methodLink RX4 81 yX4_setTaking ∈ zG := zGt7 (List.mem_of_getElem? (i := 2) (by rfl)) rfl
theorem gw_7_4 : Cond.instanceMethod yX4_setTaking ∈ zG := zGt7 (List.mem_of_getElem? (i := 4) (by rfl)) rfl
theorem gp_26 : Cond.selects RX4 yX4_setTaking yX4_setTaking ∈ zG := zGs (List.mem_of_getElem? (i := 26) (by rfl)) rfl
theorem gw_1_105 : Cond.methodLink RX5 3 Lib.objectInit ∈ zG := zGt1 (List.mem_of_getElem? (i := 105) (by rfl)) rfl
theorem gw_1_227 : Cond.fieldLink RX5 15 (TX5 1).1 (TX5 1).2.1 (TX5 1).2.2.1 ∈ zG := zGt1 (List.mem_of_getElem? (i := 227) (by rfl)) rfl
theorem gw_1_233 : Cond.fieldLink RX5 21 (TX5 3).1 (TX5 3).2.1 (TX5 3).2.2.1 ∈ zG := zGt1 (List.mem_of_getElem? (i := 233) (by rfl)) rfl
theorem gw_1_106 : Cond.classLink RX5 30 "ReviewTable$Worker" ∈ zG := zGt1 (List.mem_of_getElem? (i := 106) (by rfl)) rfl
theorem gw_1_108 : Cond.classLink RX5 36 "ReviewTable$Row" ∈ zG := zGt1 (List.mem_of_getElem? (i := 108) (by rfl)) rfl
theorem gw_1_110 : Cond.instantiable RX7 10 ∈ zG := zGt1 (List.mem_of_getElem? (i := 110) (by rfl)) rfl
theorem gw_1_9 : Cond.initialized RX7 ∈ zG := zGt1 (List.mem_of_getElem? (i := 9) (by rfl)) rfl
theorem gw_1_113 : Cond.code yX7_init cX7_init 1 (Option.none : Option Jvm.ClassFile.FieldType) ∈ zG := zGt1 (List.mem_of_getElem? (i := 113) (by rfl)) rfl
theorem gw_1_112 : Cond.instanceMethod yX7_init ∈ zG := zGt1 (List.mem_of_getElem? (i := 112) (by rfl)) rfl
theorem gw_1_168 : Cond.instantiable RX4 10 ∈ zG := zGt1 (List.mem_of_getElem? (i := 168) (by rfl)) rfl
theorem gw_1_171 : Cond.code yX4_init cX4_init 1 (Option.none : Option Jvm.ClassFile.FieldType) ∈ zG := zGt1 (List.mem_of_getElem? (i := 171) (by rfl)) rfl
theorem gw_1_170 : Cond.instanceMethod yX4_init ∈ zG := zGt1 (List.mem_of_getElem? (i := 170) (by rfl)) rfl
theorem gw_2_166 : Cond.code yJ7_fill_53178 cJ7_fill_53178 4 (Option.none : Option Jvm.ClassFile.FieldType) ∈ zG := zGt2 (List.mem_of_getElem? (i := 166) (by rfl)) rfl
theorem gw_2_164 : Cond.methodLink RX5 51 yJ7_fill_53178 ∈ zG := zGt2 (List.mem_of_getElem? (i := 164) (by rfl)) rfl
theorem gw_2_165 : Cond.static yJ7_fill_53178 ∈ zG := zGt2 (List.mem_of_getElem? (i := 165) (by rfl)) rfl
theorem gw_4_219 : Cond.code yX7_copyFrom cX7_copyFrom 2 (Option.none : Option Jvm.ClassFile.FieldType) ∈ zG := zGt4 (List.mem_of_getElem? (i := 219) (by rfl)) rfl
theorem gw_4_216 : Cond.methodLink RX5 57 yX7_copyFrom ∈ zG := zGt4 (List.mem_of_getElem? (i := 216) (by rfl)) rfl
theorem gw_4_217 : Cond.instanceMethod yX7_copyFrom ∈ zG := zGt4 (List.mem_of_getElem? (i := 217) (by rfl)) rfl
theorem gw_4_218 : Cond.selects RX7 yX7_copyFrom yX7_copyFrom ∈ zG := zGt4 (List.mem_of_getElem? (i := 218) (by rfl)) rfl
theorem gw_4_223 : Cond.code yX4_copyFrom cX4_copyFrom 2 (Option.none : Option Jvm.ClassFile.FieldType) ∈ zG := zGt4 (List.mem_of_getElem? (i := 223) (by rfl)) rfl
theorem gw_4_220 : Cond.methodLink RX5 61 yX4_copyFrom ∈ zG := zGt4 (List.mem_of_getElem? (i := 220) (by rfl)) rfl
theorem gw_4_221 : Cond.instanceMethod yX4_copyFrom ∈ zG := zGt4 (List.mem_of_getElem? (i := 221) (by rfl)) rfl
theorem gw_4_222 : Cond.selects RX4 yX4_copyFrom yX4_copyFrom ∈ zG := zGt4 (List.mem_of_getElem? (i := 222) (by rfl)) rfl
theorem gw_4_225 : Cond.methodLink RX5 64 arraycopyName ∈ zG := zGt4 (List.mem_of_getElem? (i := 225) (by rfl)) rfl
theorem gw_4_166 : Cond.code yX7_begin cX7_begin 5 (Option.none : Option Jvm.ClassFile.FieldType) ∈ zG := zGt4 (List.mem_of_getElem? (i := 166) (by rfl)) rfl
theorem gw_4_163 : Cond.methodLink RX5 70 yX7_begin ∈ zG := zGt4 (List.mem_of_getElem? (i := 163) (by rfl)) rfl
theorem gw_4_164 : Cond.instanceMethod yX7_begin ∈ zG := zGt4 (List.mem_of_getElem? (i := 164) (by rfl)) rfl
theorem gw_4_165 : Cond.selects RX7 yX7_begin yX7_begin ∈ zG := zGt4 (List.mem_of_getElem? (i := 165) (by rfl)) rfl
theorem gw_5_17 : Cond.methodLink RX5 114 yX5_isSuspended ∈ zG := zGt5 (List.mem_of_getElem? (i := 17) (by rfl)) rfl
theorem gw_1_124 : Cond.fieldLink RX5 121 (TX7 2).1 (TX7 2).2.1 (TX7 2).2.2.1 ∈ zG := zGt1 (List.mem_of_getElem? (i := 124) (by rfl)) rfl
theorem gw_5_16 : Cond.code yX5_reasonAgainst cX5_reasonAgainst 3 (Option.some Jvm.ClassFile.FieldType.int) ∈ zG := zGt5 (List.mem_of_getElem? (i := 16) (by rfl)) rfl
theorem gw_5_13 : Cond.methodLink RX5 147 yX5_reasonAgainst ∈ zG := zGt5 (List.mem_of_getElem? (i := 13) (by rfl)) rfl
theorem gw_5_14 : Cond.instanceMethod yX5_reasonAgainst ∈ zG := zGt5 (List.mem_of_getElem? (i := 14) (by rfl)) rfl
theorem gw_5_15 : Cond.selects RX5 yX5_reasonAgainst yX5_reasonAgainst ∈ zG := zGt5 (List.mem_of_getElem? (i := 15) (by rfl)) rfl
theorem gw_5_12 : Cond.code yX5_rowsFor cX5_rowsFor 4 (Option.some Jvm.ClassFile.FieldType.int) ∈ zG := zGt5 (List.mem_of_getElem? (i := 12) (by rfl)) rfl
theorem gw_5_9 : Cond.methodLink RX5 150 yX5_rowsFor ∈ zG := zGt5 (List.mem_of_getElem? (i := 9) (by rfl)) rfl
theorem gw_5_10 : Cond.instanceMethod yX5_rowsFor ∈ zG := zGt5 (List.mem_of_getElem? (i := 10) (by rfl)) rfl
theorem gw_5_11 : Cond.selects RX5 yX5_rowsFor yX5_rowsFor ∈ zG := zGt5 (List.mem_of_getElem? (i := 11) (by rfl)) rfl
theorem gw_6_36 : Cond.code yX5_urgency cX5_urgency 1 (Option.some Jvm.ClassFile.FieldType.int) ∈ zG := zGt6 (List.mem_of_getElem? (i := 36) (by rfl)) rfl
theorem gw_6_34 : Cond.methodLink RX5 153 yX5_urgency ∈ zG := zGt6 (List.mem_of_getElem? (i := 34) (by rfl)) rfl
theorem gw_6_35 : Cond.static yX5_urgency ∈ zG := zGt6 (List.mem_of_getElem? (i := 35) (by rfl)) rfl
theorem gw_6_69 : Cond.code yX5_mayBeginTogether cX5_mayBeginTogether 3 (Option.some Jvm.ClassFile.FieldType.boolean) ∈ zG := zGt6 (List.mem_of_getElem? (i := 69) (by rfl)) rfl
theorem gw_6_66 : Cond.methodLink RX5 157 yX5_mayBeginTogether ∈ zG := zGt6 (List.mem_of_getElem? (i := 66) (by rfl)) rfl
theorem gw_6_67 : Cond.instanceMethod yX5_mayBeginTogether ∈ zG := zGt6 (List.mem_of_getElem? (i := 67) (by rfl)) rfl
theorem gw_6_68 : Cond.selects RX5 yX5_mayBeginTogether yX5_mayBeginTogether ∈ zG := zGt6 (List.mem_of_getElem? (i := 68) (by rfl)) rfl
theorem gw_5_41 : Cond.code yJ6_bitCount_0f7a4 cJ6_bitCount_0f7a4 1 (Option.some Jvm.ClassFile.FieldType.int) ∈ zG := zGt5 (List.mem_of_getElem? (i := 41) (by rfl)) rfl
theorem gw_1_30 : Cond.initialized RJ6 ∈ zG := zGt1 (List.mem_of_getElem? (i := 30) (by rfl)) rfl
theorem gw_5_39 : Cond.methodLink RX5 160 yJ6_bitCount_0f7a4 ∈ zG := zGt5 (List.mem_of_getElem? (i := 39) (by rfl)) rfl
theorem gw_5_40 : Cond.static yJ6_bitCount_0f7a4 ∈ zG := zGt5 (List.mem_of_getElem? (i := 40) (by rfl)) rfl
theorem gw_7_1 : Cond.code yX4_addTaking cX4_addTaking 3 (Option.none : Option Jvm.ClassFile.FieldType) ∈ zG := zGt7 (List.mem_of_getElem? (i := 1) (by rfl)) rfl
theorem gw_6_238 : Cond.methodLink RX5 168 yX4_addTaking ∈ zG := zGt6 (List.mem_of_getElem? (i := 238) (by rfl)) rfl
theorem gw_6_239 : Cond.instanceMethod yX4_addTaking ∈ zG := zGt6 (List.mem_of_getElem? (i := 239) (by rfl)) rfl
theorem gw_7_0 : Cond.selects RX4 yX4_addTaking yX4_addTaking ∈ zG := zGt7 (List.mem_of_getElem? (i := 0) (by rfl)) rfl
theorem gw_1_134 : Cond.fieldLink RX5 172 (TX7 5).1 (TX7 5).2.1 (TX7 5).2.2.1 ∈ zG := zGt1 (List.mem_of_getElem? (i := 134) (by rfl)) rfl
theorem gw_6_175 : Cond.methodLink RX6 65 yX5_agree ∈ zG := zGt6 (List.mem_of_getElem? (i := 175) (by rfl)) rfl
theorem gw_6_179 : Cond.code yX6_finishBy cX6_finishBy 3 (Option.none : Option Jvm.ClassFile.FieldType) ∈ zG := zGt6 (List.mem_of_getElem? (i := 179) (by rfl)) rfl
theorem gw_1_12 : Cond.initialized RX6 ∈ zG := zGt1 (List.mem_of_getElem? (i := 12) (by rfl)) rfl
theorem gw_6_176 : Cond.methodLink RX6 69 yX6_finishBy ∈ zG := zGt6 (List.mem_of_getElem? (i := 176) (by rfl)) rfl
theorem gw_6_178 : Cond.instanceMethod yX6_finishBy ∈ zG := zGt6 (List.mem_of_getElem? (i := 178) (by rfl)) rfl
theorem gp_24 : Cond.selects RX6 yX6_finishBy yX6_finishBy ∈ zG := zGs (List.mem_of_getElem? (i := 24) (by rfl)) rfl
theorem gw_6_184 : Cond.methodLink RX6 73 yJ7_fill_53178 ∈ zG := zGt6 (List.mem_of_getElem? (i := 184) (by rfl)) rfl
theorem gw_6_185 : Cond.methodLink RX6 79 Lib.Math.abs.name ∈ zG := zGt6 (List.mem_of_getElem? (i := 185) (by rfl)) rfl
theorem gw_6_195 : Cond.code yX8_withinTrust cX8_withinTrust 1 (Option.some Jvm.ClassFile.FieldType.int) ∈ zG := zGt6 (List.mem_of_getElem? (i := 195) (by rfl)) rfl
theorem gw_6_194 : Cond.static yX8_withinTrust ∈ zG := zGt6 (List.mem_of_getElem? (i := 194) (by rfl)) rfl
theorem gw_1_234 : Cond.fieldLink RX8 114 (TX5 3).1 (TX5 3).2.1 (TX5 3).2.2.1 ∈ zG := zGt1 (List.mem_of_getElem? (i := 234) (by rfl)) rfl
theorem gw_1_226 : Cond.fieldLink RX8 117 (TX5 0).1 (TX5 0).2.1 (TX5 0).2.2.1 ∈ zG := zGt1 (List.mem_of_getElem? (i := 226) (by rfl)) rfl
theorem gw_1_229 : Cond.fieldLink RX8 120 (TX5 1).1 (TX5 1).2.1 (TX5 1).2.2.1 ∈ zG := zGt1 (List.mem_of_getElem? (i := 229) (by rfl)) rfl
theorem gw_1_232 : Cond.fieldLink RX8 123 (TX5 2).1 (TX5 2).2.1 (TX5 2).2.2.1 ∈ zG := zGt1 (List.mem_of_getElem? (i := 232) (by rfl)) rfl
theorem gw_5_185 : Cond.code yX5_countAudited cX5_countAudited 3 (Option.some Jvm.ClassFile.FieldType.int) ∈ zG := zGt5 (List.mem_of_getElem? (i := 185) (by rfl)) rfl
theorem gw_5_182 : Cond.methodLink RX8 126 yX5_countAudited ∈ zG := zGt5 (List.mem_of_getElem? (i := 182) (by rfl)) rfl
theorem gw_5_183 : Cond.instanceMethod yX5_countAudited ∈ zG := zGt5 (List.mem_of_getElem? (i := 183) (by rfl)) rfl
theorem gw_5_184 : Cond.selects RX5 yX5_countAudited yX5_countAudited ∈ zG := zGt5 (List.mem_of_getElem? (i := 184) (by rfl)) rfl
theorem gw_5_189 : Cond.code yX5_countInState cX5_countInState 4 (Option.some Jvm.ClassFile.FieldType.int) ∈ zG := zGt5 (List.mem_of_getElem? (i := 189) (by rfl)) rfl
theorem gw_5_186 : Cond.methodLink RX8 130 yX5_countInState ∈ zG := zGt5 (List.mem_of_getElem? (i := 186) (by rfl)) rfl
theorem gw_5_187 : Cond.instanceMethod yX5_countInState ∈ zG := zGt5 (List.mem_of_getElem? (i := 187) (by rfl)) rfl
theorem gw_5_188 : Cond.selects RX5 yX5_countInState yX5_countInState ∈ zG := zGt5 (List.mem_of_getElem? (i := 188) (by rfl)) rfl
theorem gw_5_201 : Cond.code yX8_requireWorker cX8_requireWorker 2 (Option.none : Option Jvm.ClassFile.FieldType) ∈ zG := zGt5 (List.mem_of_getElem? (i := 201) (by rfl)) rfl
theorem gw_5_198 : Cond.methodLink RX8 134 yX8_requireWorker ∈ zG := zGt5 (List.mem_of_getElem? (i := 198) (by rfl)) rfl
theorem gw_5_200 : Cond.instanceMethod yX8_requireWorker ∈ zG := zGt5 (List.mem_of_getElem? (i := 200) (by rfl)) rfl
theorem gp_20 : Cond.selects RX8 yX8_requireWorker yX8_requireWorker ∈ zG := zGs (List.mem_of_getElem? (i := 20) (by rfl)) rfl
theorem gw_1_120 : Cond.fieldLink RX8 141 (TX7 1).1 (TX7 1).2.1 (TX7 1).2.2.1 ∈ zG := zGt1 (List.mem_of_getElem? (i := 120) (by rfl)) rfl
theorem gw_1_123 : Cond.fieldLink RX8 146 (TX7 2).1 (TX7 2).2.1 (TX7 2).2.2.1 ∈ zG := zGt1 (List.mem_of_getElem? (i := 123) (by rfl)) rfl
theorem gw_1_130 : Cond.fieldLink RX8 152 (TX7 4).1 (TX7 4).2.1 (TX7 4).2.2.1 ∈ zG := zGt1 (List.mem_of_getElem? (i := 130) (by rfl)) rfl
theorem gw_1_133 : Cond.fieldLink RX8 155 (TX7 5).1 (TX7 5).2.1 (TX7 5).2.2.1 ∈ zG := zGt1 (List.mem_of_getElem? (i := 133) (by rfl)) rfl
theorem gw_1_136 : Cond.fieldLink RX8 158 (TX7 6).1 (TX7 6).2.1 (TX7 6).2.2.1 ∈ zG := zGt1 (List.mem_of_getElem? (i := 136) (by rfl)) rfl
theorem gw_1_139 : Cond.fieldLink RX8 161 (TX7 7).1 (TX7 7).2.1 (TX7 7).2.2.1 ∈ zG := zGt1 (List.mem_of_getElem? (i := 139) (by rfl)) rfl
theorem gw_1_142 : Cond.fieldLink RX8 164 (TX7 8).1 (TX7 8).2.1 (TX7 8).2.2.1 ∈ zG := zGt1 (List.mem_of_getElem? (i := 142) (by rfl)) rfl
theorem gw_5_225 : Cond.code yX8_requireRow cX8_requireRow 2 (Option.none : Option Jvm.ClassFile.FieldType) ∈ zG := zGt5 (List.mem_of_getElem? (i := 225) (by rfl)) rfl
theorem gw_5_222 : Cond.methodLink RX8 170 yX8_requireRow ∈ zG := zGt5 (List.mem_of_getElem? (i := 222) (by rfl)) rfl
theorem gw_5_224 : Cond.instanceMethod yX8_requireRow ∈ zG := zGt5 (List.mem_of_getElem? (i := 224) (by rfl)) rfl
theorem gp_21 : Cond.selects RX8 yX8_requireRow yX8_requireRow ∈ zG := zGs (List.mem_of_getElem? (i := 21) (by rfl)) rfl
theorem gw_1_181 : Cond.fieldLink RX8 185 (TX4 2).1 (TX4 2).2.1 (TX4 2).2.2.1 ∈ zG := zGt1 (List.mem_of_getElem? (i := 181) (by rfl)) rfl
theorem gw_1_200 : Cond.fieldLink RX8 192 (TX4 8).1 (TX4 8).2.1 (TX4 8).2.2.1 ∈ zG := zGt1 (List.mem_of_getElem? (i := 200) (by rfl)) rfl
theorem gw_5_227 : Cond.methodLink RX8 195 yX4_missingWorkers ∈ zG := zGt5 (List.mem_of_getElem? (i := 227) (by rfl)) rfl
theorem gw_1_190 : Cond.fieldLink RX8 198 (TX4 5).1 (TX4 5).2.1 (TX4 5).2.2.1 ∈ zG := zGt1 (List.mem_of_getElem? (i := 190) (by rfl)) rfl
theorem gw_5_236 : Cond.methodLink RX8 206 yX4_workerAt ∈ zG := zGt5 (List.mem_of_getElem? (i := 236) (by rfl)) rfl
theorem gw_5_237 : Cond.methodLink RX8 209 yX4_resultAt ∈ zG := zGt5 (List.mem_of_getElem? (i := 237) (by rfl)) rfl
theorem gw_5_239 : Cond.methodLink RX8 216 yX4_dueAt ∈ zG := zGt5 (List.mem_of_getElem? (i := 239) (by rfl)) rfl
theorem gw_1_193 : Cond.fieldLink RX8 219 (TX4 6).1 (TX4 6).2.1 (TX4 6).2.2.1 ∈ zG := zGt1 (List.mem_of_getElem? (i := 193) (by rfl)) rfl
theorem gw_1_196 : Cond.fieldLink RX8 222 (TX4 7).1 (TX4 7).2.1 (TX4 7).2.2.1 ∈ zG := zGt1 (List.mem_of_getElem? (i := 196) (by rfl)) rfl
theorem gw_6_14 : Cond.methodLink RX8 225 yX5_reasonAgainst ∈ zG := zGt6 (List.mem_of_getElem? (i := 14) (by rfl)) rfl
theorem gw_6_22 : Cond.methodLink RX8 229 yX5_rowsFor ∈ zG := zGt6 (List.mem_of_getElem? (i := 22) (by rfl)) rfl
theorem gw_6_33 : Cond.code yX5_chosenRow cX5_chosenRow 6 (Option.some Jvm.ClassFile.FieldType.int) ∈ zG := zGt6 (List.mem_of_getElem? (i := 33) (by rfl)) rfl
theorem gw_6_30 : Cond.methodLink RX8 232 yX5_chosenRow ∈ zG := zGt6 (List.mem_of_getElem? (i := 30) (by rfl)) rfl
theorem gw_6_31 : Cond.instanceMethod yX5_chosenRow ∈ zG := zGt6 (List.mem_of_getElem? (i := 31) (by rfl)) rfl
theorem gw_6_32 : Cond.selects RX5 yX5_chosenRow yX5_chosenRow ∈ zG := zGt6 (List.mem_of_getElem? (i := 32) (by rfl)) rfl
theorem gw_6_47 : Cond.code yX5_workersFor cX5_workersFor 4 (Option.some Jvm.ClassFile.FieldType.int) ∈ zG := zGt6 (List.mem_of_getElem? (i := 47) (by rfl)) rfl
theorem gw_6_44 : Cond.methodLink RX8 235 yX5_workersFor ∈ zG := zGt6 (List.mem_of_getElem? (i := 44) (by rfl)) rfl
theorem gw_6_45 : Cond.instanceMethod yX5_workersFor ∈ zG := zGt6 (List.mem_of_getElem? (i := 45) (by rfl)) rfl
theorem gw_6_46 : Cond.selects RX5 yX5_workersFor yX5_workersFor ∈ zG := zGt6 (List.mem_of_getElem? (i := 46) (by rfl)) rfl
theorem gw_6_65 : Cond.code yX5_mostTrustedPair cX5_mostTrustedPair 8 (Option.some Jvm.ClassFile.FieldType.int) ∈ zG := zGt6 (List.mem_of_getElem? (i := 65) (by rfl)) rfl
theorem gw_6_62 : Cond.methodLink RX8 241 yX5_mostTrustedPair ∈ zG := zGt6 (List.mem_of_getElem? (i := 62) (by rfl)) rfl
theorem gw_6_63 : Cond.instanceMethod yX5_mostTrustedPair ∈ zG := zGt6 (List.mem_of_getElem? (i := 63) (by rfl)) rfl
theorem gw_6_64 : Cond.selects RX5 yX5_mostTrustedPair yX5_mostTrustedPair ∈ zG := zGt6 (List.mem_of_getElem? (i := 64) (by rfl)) rfl
theorem gw_5_8 : Cond.code yX5_greatestMatching cX5_greatestMatching 6 (Option.some Jvm.ClassFile.FieldType.int) ∈ zG := zGt5 (List.mem_of_getElem? (i := 8) (by rfl)) rfl
theorem gw_5_5 : Cond.methodLink RX8 244 yX5_greatestMatching ∈ zG := zGt5 (List.mem_of_getElem? (i := 5) (by rfl)) rfl
theorem gw_5_6 : Cond.instanceMethod yX5_greatestMatching ∈ zG := zGt5 (List.mem_of_getElem? (i := 6) (by rfl)) rfl
theorem gw_5_7 : Cond.selects RX5 yX5_greatestMatching yX5_greatestMatching ∈ zG := zGt5 (List.mem_of_getElem? (i := 7) (by rfl)) rfl
theorem gw_2_6 : Cond.fieldLink RX8 247 (TX5 8).1 (TX5 8).2.1 (TX5 8).2.2.1 ∈ zG := zGt2 (List.mem_of_getElem? (i := 6) (by rfl)) rfl
theorem gw_6_77 : Cond.methodLink RX8 251 yX5_pairIndex ∈ zG := zGt6 (List.mem_of_getElem? (i := 77) (by rfl)) rfl
theorem gw_6_85 : Cond.methodLink RX8 254 yX5_areKeptApart ∈ zG := zGt6 (List.mem_of_getElem? (i := 85) (by rfl)) rfl
theorem gw_6_96 : Cond.code yX5_countCompared cX5_countCompared 8 (Option.some Jvm.ClassFile.FieldType.int) ∈ zG := zGt6 (List.mem_of_getElem? (i := 96) (by rfl)) rfl
theorem gw_6_93 : Cond.methodLink RX8 258 yX5_countCompared ∈ zG := zGt6 (List.mem_of_getElem? (i := 93) (by rfl)) rfl
theorem gw_6_94 : Cond.instanceMethod yX5_countCompared ∈ zG := zGt6 (List.mem_of_getElem? (i := 94) (by rfl)) rfl
theorem gw_6_95 : Cond.selects RX5 yX5_countCompared yX5_countCompared ∈ zG := zGt6 (List.mem_of_getElem? (i := 95) (by rfl)) rfl
theorem gw_6_127 : Cond.methodLink RX8 262 yX4_resultBy ∈ zG := zGt6 (List.mem_of_getElem? (i := 127) (by rfl)) rfl
theorem gw_1_187 : Cond.fieldLink RX8 265 (TX4 4).1 (TX4 4).2.1 (TX4 4).2.2.1 ∈ zG := zGt1 (List.mem_of_getElem? (i := 187) (by rfl)) rfl
theorem gw_6_128 : Cond.methodLink RX8 268 yX5_agree ∈ zG := zGt6 (List.mem_of_getElem? (i := 128) (by rfl)) rfl
theorem gw_6_136 : Cond.methodLink RX8 274 yX5_riskOf ∈ zG := zGt6 (List.mem_of_getElem? (i := 136) (by rfl)) rfl
theorem gw_6_147 : Cond.code yX4_countLateAt cX4_countLateAt 4 (Option.some Jvm.ClassFile.FieldType.int) ∈ zG := zGt6 (List.mem_of_getElem? (i := 147) (by rfl)) rfl
theorem gw_6_144 : Cond.methodLink RX8 285 yX4_countLateAt ∈ zG := zGt6 (List.mem_of_getElem? (i := 144) (by rfl)) rfl
theorem gw_6_145 : Cond.instanceMethod yX4_countLateAt ∈ zG := zGt6 (List.mem_of_getElem? (i := 145) (by rfl)) rfl
theorem gw_6_146 : Cond.selects RX4 yX4_countLateAt yX4_countLateAt ∈ zG := zGt6 (List.mem_of_getElem? (i := 146) (by rfl)) rfl
theorem gw_7_138 : Cond.code yX8_requireSlot cX8_requireSlot 1 (Option.none : Option Jvm.ClassFile.FieldType) ∈ zG := zGt7 (List.mem_of_getElem? (i := 138) (by rfl)) rfl
theorem gw_7_136 : Cond.methodLink RX8 362 yX8_requireSlot ∈ zG := zGt7 (List.mem_of_getElem? (i := 136) (by rfl)) rfl
theorem gw_7_137 : Cond.static yX8_requireSlot ∈ zG := zGt7 (List.mem_of_getElem? (i := 137) (by rfl)) rfl
theorem gw_2_125 : Cond.fieldLink RX8 35 (TX8 4).1 (TX8 4).2.1 (TX8 4).2.2.1 ∈ zG := zGt2 (List.mem_of_getElem? (i := 125) (by rfl)) rfl
theorem gw_4_215 : Cond.code yX5_copyFrom cX5_copyFrom 3 (Option.none : Option Jvm.ClassFile.FieldType) ∈ zG := zGt4 (List.mem_of_getElem? (i := 215) (by rfl)) rfl
theorem gw_4_227 : Cond.methodLink RX8 101 yX5_copyFrom ∈ zG := zGt4 (List.mem_of_getElem? (i := 227) (by rfl)) rfl
theorem gw_4_213 : Cond.instanceMethod yX5_copyFrom ∈ zG := zGt4 (List.mem_of_getElem? (i := 213) (by rfl)) rfl
theorem gw_4_214 : Cond.selects RX5 yX5_copyFrom yX5_copyFrom ∈ zG := zGt4 (List.mem_of_getElem? (i := 214) (by rfl)) rfl
theorem gw_2_126 : Cond.fieldLink RX8 39 (TX8 5).1 (TX8 5).2.1 (TX8 5).2.2.1 ∈ zG := zGt2 (List.mem_of_getElem? (i := 126) (by rfl)) rfl
theorem gw_10_10 : Cond.code yX9_gains cX9_gains 3 (Option.none : Option Jvm.ClassFile.FieldType) ∈ zG := zGt10 (List.mem_of_getElem? (i := 10) (by rfl)) rfl
theorem gw_10_7 : Cond.methodLink RX9 144 yX9_gains ∈ zG := zGt10 (List.mem_of_getElem? (i := 7) (by rfl)) rfl
theorem gw_10_9 : Cond.instanceMethod yX9_gains ∈ zG := zGt10 (List.mem_of_getElem? (i := 9) (by rfl)) rfl
theorem gp_99 : Cond.selects RX9 yX9_gains yX9_gains ∈ zG := zGs (List.mem_of_getElem? (i := 99) (by rfl)) rfl
theorem gw_10_6 : Cond.code yX9_finishes cX9_finishes 7 (Option.none : Option Jvm.ClassFile.FieldType) ∈ zG := zGt10 (List.mem_of_getElem? (i := 6) (by rfl)) rfl
theorem gw_10_3 : Cond.methodLink RX9 154 yX9_finishes ∈ zG := zGt10 (List.mem_of_getElem? (i := 3) (by rfl)) rfl
theorem gw_10_5 : Cond.instanceMethod yX9_finishes ∈ zG := zGt10 (List.mem_of_getElem? (i := 5) (by rfl)) rfl
theorem gp_98 : Cond.selects RX9 yX9_finishes yX9_finishes ∈ zG := zGs (List.mem_of_getElem? (i := 98) (by rfl)) rfl
theorem gw_10_22 : Cond.code yX9_farOf cX9_farOf 3 (Option.some Jvm.ClassFile.FieldType.int) ∈ zG := zGt10 (List.mem_of_getElem? (i := 22) (by rfl)) rfl
theorem gw_10_19 : Cond.methodLink RX9 157 yX9_farOf ∈ zG := zGt10 (List.mem_of_getElem? (i := 19) (by rfl)) rfl
theorem gw_10_21 : Cond.instanceMethod yX9_farOf ∈ zG := zGt10 (List.mem_of_getElem? (i := 21) (by rfl)) rfl
theorem gp_102 : Cond.selects RX9 yX9_farOf yX9_farOf ∈ zG := zGs (List.mem_of_getElem? (i := 102) (by rfl)) rfl
theorem gw_9_238 : Cond.code yX9_haveAll cX9_haveAll 5 (Option.some Jvm.ClassFile.FieldType.boolean) ∈ zG := zGt9 (List.mem_of_getElem? (i := 238) (by rfl)) rfl
theorem gw_9_235 : Cond.methodLink RX9 160 yX9_haveAll ∈ zG := zGt9 (List.mem_of_getElem? (i := 235) (by rfl)) rfl
theorem gw_9_237 : Cond.instanceMethod yX9_haveAll ∈ zG := zGt9 (List.mem_of_getElem? (i := 237) (by rfl)) rfl
theorem gp_96 : Cond.selects RX9 yX9_haveAll yX9_haveAll ∈ zG := zGs (List.mem_of_getElem? (i := 96) (by rfl)) rfl
theorem gw_10_2 : Cond.code yX9_compares cX9_compares 2 (Option.none : Option Jvm.ClassFile.FieldType) ∈ zG := zGt10 (List.mem_of_getElem? (i := 2) (by rfl)) rfl
theorem gw_9_239 : Cond.methodLink RX9 163 yX9_compares ∈ zG := zGt9 (List.mem_of_getElem? (i := 239) (by rfl)) rfl
theorem gw_10_1 : Cond.instanceMethod yX9_compares ∈ zG := zGt10 (List.mem_of_getElem? (i := 1) (by rfl)) rfl
theorem gp_97 : Cond.selects RX9 yX9_compares yX9_compares ∈ zG := zGs (List.mem_of_getElem? (i := 97) (by rfl)) rfl
theorem gw_10_18 : Cond.code yX9_decides cX9_decides 4 (Option.none : Option Jvm.ClassFile.FieldType) ∈ zG := zGt10 (List.mem_of_getElem? (i := 18) (by rfl)) rfl
theorem gw_10_15 : Cond.methodLink RX9 167 yX9_decides ∈ zG := zGt10 (List.mem_of_getElem? (i := 15) (by rfl)) rfl
theorem gw_10_17 : Cond.instanceMethod yX9_decides ∈ zG := zGt10 (List.mem_of_getElem? (i := 17) (by rfl)) rfl
theorem gp_101 : Cond.selects RX9 yX9_decides yX9_decides ∈ zG := zGs (List.mem_of_getElem? (i := 101) (by rfl)) rfl
theorem gw_9_230 : Cond.code yX9_keepAside cX9_keepAside 2 (Option.none : Option Jvm.ClassFile.FieldType) ∈ zG := zGt9 (List.mem_of_getElem? (i := 230) (by rfl)) rfl
theorem gw_9_227 : Cond.methodLink RX9 173 yX9_keepAside ∈ zG := zGt9 (List.mem_of_getElem? (i := 227) (by rfl)) rfl
theorem gw_9_229 : Cond.instanceMethod yX9_keepAside ∈ zG := zGt9 (List.mem_of_getElem? (i := 229) (by rfl)) rfl
theorem gp_94 : Cond.selects RX9 yX9_keepAside yX9_keepAside ∈ zG := zGs (List.mem_of_getElem? (i := 94) (by rfl)) rfl
theorem gw_9_234 : Cond.code yX9_doDeliver cX9_doDeliver 5 (Option.some Jvm.ClassFile.FieldType.int) ∈ zG := zGt9 (List.mem_of_getElem? (i := 234) (by rfl)) rfl
theorem gw_9_231 : Cond.methodLink RX9 176 yX9_doDeliver ∈ zG := zGt9 (List.mem_of_getElem? (i := 231) (by rfl)) rfl
theorem gw_9_233 : Cond.instanceMethod yX9_doDeliver ∈ zG := zGt9 (List.mem_of_getElem? (i := 233) (by rfl)) rfl
theorem gp_95 : Cond.selects RX9 yX9_doDeliver yX9_doDeliver ∈ zG := zGs (List.mem_of_getElem? (i := 95) (by rfl)) rfl
theorem gw_10_26 : Cond.code yX9_layBack cX9_layBack 3 (Option.some Jvm.ClassFile.FieldType.int) ∈ zG := zGt10 (List.mem_of_getElem? (i := 26) (by rfl)) rfl
theorem gw_10_23 : Cond.methodLink RX9 179 yX9_layBack ∈ zG := zGt10 (List.mem_of_getElem? (i := 23) (by rfl)) rfl
theorem gw_10_25 : Cond.instanceMethod yX9_layBack ∈ zG := zGt10 (List.mem_of_getElem? (i := 25) (by rfl)) rfl
theorem gp_103 : Cond.selects RX9 yX9_layBack yX9_layBack ∈ zG := zGs (List.mem_of_getElem? (i := 103) (by rfl)) rfl
theorem gw_9_222 : Cond.code yX9_isResult cX9_isResult 1 (Option.some Jvm.ClassFile.FieldType.boolean) ∈ zG := zGt9 (List.mem_of_getElem? (i := 222) (by rfl)) rfl
theorem gw_9_220 : Cond.methodLink RX9 388 yX9_isResult ∈ zG := zGt9 (List.mem_of_getElem? (i := 220) (by rfl)) rfl
theorem gw_9_221 : Cond.static yX9_isResult ∈ zG := zGt9 (List.mem_of_getElem? (i := 221) (by rfl)) rfl
theorem gw_9_226 : Cond.code yX9_stateWith cX9_stateWith 4 (Option.some Jvm.ClassFile.FieldType.int) ∈ zG := zGt9 (List.mem_of_getElem? (i := 226) (by rfl)) rfl
theorem gw_9_223 : Cond.methodLink RX9 391 yX9_stateWith ∈ zG := zGt9 (List.mem_of_getElem? (i := 223) (by rfl)) rfl
theorem gw_9_225 : Cond.instanceMethod yX9_stateWith ∈ zG := zGt9 (List.mem_of_getElem? (i := 225) (by rfl)) rfl
theorem gp_93 : Cond.selects RX9 yX9_stateWith yX9_stateWith ∈ zG := zGs (List.mem_of_getElem? (i := 93) (by rfl)) rfl
theorem gw_8_205 : Cond.code yX9_remember cX9_remember 2 (Option.none : Option Jvm.ClassFile.FieldType) ∈ zG := zGt8 (List.mem_of_getElem? (i := 205) (by rfl)) rfl
theorem gw_8_202 : Cond.methodLink RX9 318 yX9_remember ∈ zG := zGt8 (List.mem_of_getElem? (i := 202) (by rfl)) rfl
theorem gw_8_204 : Cond.instanceMethod yX9_remember ∈ zG := zGt8 (List.mem_of_getElem? (i := 204) (by rfl)) rfl
theorem gp_59 : Cond.selects RX9 yX9_remember yX9_remember ∈ zG := zGs (List.mem_of_getElem? (i := 59) (by rfl)) rfl
theorem gw_10_63 : Cond.code yX9_doTake cX9_doTake 4 (Option.some Jvm.ClassFile.FieldType.int) ∈ zG := zGt10 (List.mem_of_getElem? (i := 63) (by rfl)) rfl
theorem gw_10_60 : Cond.methodLink RX9 396 yX9_doTake ∈ zG := zGt10 (List.mem_of_getElem? (i := 60) (by rfl)) rfl
theorem gw_10_62 : Cond.instanceMethod yX9_doTake ∈ zG := zGt10 (List.mem_of_getElem? (i := 62) (by rfl)) rfl
theorem gp_104 : Cond.selects RX9 yX9_doTake yX9_doTake ∈ zG := zGs (List.mem_of_getElem? (i := 104) (by rfl)) rfl
theorem gw_10_79 : Cond.code yX9_leaves cX9_leaves 4 (Option.some Jvm.ClassFile.FieldType.int) ∈ zG := zGt10 (List.mem_of_getElem? (i := 79) (by rfl)) rfl
theorem gw_10_76 : Cond.methodLink RX9 399 yX9_leaves ∈ zG := zGt10 (List.mem_of_getElem? (i := 76) (by rfl)) rfl
theorem gw_10_78 : Cond.instanceMethod yX9_leaves ∈ zG := zGt10 (List.mem_of_getElem? (i := 78) (by rfl)) rfl
theorem gp_105 : Cond.selects RX9 yX9_leaves yX9_leaves ∈ zG := zGs (List.mem_of_getElem? (i := 105) (by rfl)) rfl
theorem gw_10_91 : Cond.code yX9_strikesBoth cX9_strikesBoth 4 (Option.none : Option Jvm.ClassFile.FieldType) ∈ zG := zGt10 (List.mem_of_getElem? (i := 91) (by rfl)) rfl
theorem gw_10_88 : Cond.methodLink RX9 402 yX9_strikesBoth ∈ zG := zGt10 (List.mem_of_getElem? (i := 88) (by rfl)) rfl
theorem gw_10_90 : Cond.instanceMethod yX9_strikesBoth ∈ zG := zGt10 (List.mem_of_getElem? (i := 90) (by rfl)) rfl
theorem gp_107 : Cond.selects RX9 yX9_strikesBoth yX9_strikesBoth ∈ zG := zGs (List.mem_of_getElem? (i := 107) (by rfl)) rfl
theorem gw_10_108 : Cond.constantLong RX9 405 (Int64.ofInt 24) ∈ zG := zGt10 (List.mem_of_getElem? (i := 108) (by rfl)) rfl
theorem gw_8_177 : Cond.code yX9_moreRows cX9_moreRows 6 (Option.none : Option Jvm.ClassFile.FieldType) ∈ zG := zGt8 (List.mem_of_getElem? (i := 177) (by rfl)) rfl
theorem gw_8_174 : Cond.methodLink RX9 290 yX9_moreRows ∈ zG := zGt8 (List.mem_of_getElem? (i := 174) (by rfl)) rfl
theorem gw_8_176 : Cond.instanceMethod yX9_moreRows ∈ zG := zGt8 (List.mem_of_getElem? (i := 176) (by rfl)) rfl
theorem gp_52 : Cond.selects RX9 yX9_moreRows yX9_moreRows ∈ zG := zGs (List.mem_of_getElem? (i := 52) (by rfl)) rfl
theorem gw_10_115 : Cond.code yX9_leastOf cX9_leastOf 1 (Option.some Jvm.ClassFile.FieldType.int) ∈ zG := zGt10 (List.mem_of_getElem? (i := 115) (by rfl)) rfl
theorem gw_10_113 : Cond.methodLink RX9 407 yX9_leastOf ∈ zG := zGt10 (List.mem_of_getElem? (i := 113) (by rfl)) rfl
theorem gw_10_114 : Cond.static yX9_leastOf ∈ zG := zGt10 (List.mem_of_getElem? (i := 114) (by rfl)) rfl
theorem gw_10_118 : Cond.code yX9_mostOf cX9_mostOf 1 (Option.some Jvm.ClassFile.FieldType.int) ∈ zG := zGt10 (List.mem_of_getElem? (i := 118) (by rfl)) rfl
theorem gw_10_116 : Cond.methodLink RX9 410 yX9_mostOf ∈ zG := zGt10 (List.mem_of_getElem? (i := 116) (by rfl)) rfl
theorem gw_10_117 : Cond.static yX9_mostOf ∈ zG := zGt10 (List.mem_of_getElem? (i := 117) (by rfl)) rfl
theorem gw_3_90 : Cond.code yJ8_newLength_cabcc cJ8_newLength_cabcc 4 (Option.some Jvm.ClassFile.FieldType.int) ∈ zG := zGt3 (List.mem_of_getElem? (i := 90) (by rfl)) rfl
theorem gw_1_26 : Cond.initialized RJ8 ∈ zG := zGt1 (List.mem_of_getElem? (i := 26) (by rfl)) rfl
theorem gw_3_88 : Cond.methodLink RJ5 114 yJ8_newLength_cabcc ∈ zG := zGt3 (List.mem_of_getElem? (i := 88) (by rfl)) rfl
theorem gw_3_89 : Cond.static yJ8_newLength_cabcc ∈ zG := zGt3 (List.mem_of_getElem? (i := 89) (by rfl)) rfl
theorem gw_3_98 : Cond.constant RJ5 39 (Int32.ofInt 2147483647) ∈ zG := zGt3 (List.mem_of_getElem? (i := 98) (by rfl)) rfl
theorem gw_2_207 : Cond.code yJ0_coder_7d493 cJ0_coder_7d493 1 (Option.some Jvm.ClassFile.FieldType.byte) ∈ zG := zGt2 (List.mem_of_getElem? (i := 207) (by rfl)) rfl
theorem gw_1_6 : Cond.initialized RJ0 ∈ zG := zGt1 (List.mem_of_getElem? (i := 6) (by rfl)) rfl
theorem gw_3_144 : Cond.methodLink RJ5 40 yJ0_coder_7d493 ∈ zG := zGt3 (List.mem_of_getElem? (i := 144) (by rfl)) rfl
theorem gw_2_205 : Cond.instanceMethod yJ0_coder_7d493 ∈ zG := zGt2 (List.mem_of_getElem? (i := 205) (by rfl)) rfl
theorem gw_2_206 : Cond.selects RJ0 yJ0_coder_7d493 yJ0_coder_7d493 ∈ zG := zGt2 (List.mem_of_getElem? (i := 206) (by rfl)) rfl
theorem gw_4_76 : Cond.fieldLink RJ0 9 (TJ0 0).1 (TJ0 0).2.1 (TJ0 0).2.2.1 ∈ zG := zGt4 (List.mem_of_getElem? (i := 76) (by rfl)) rfl
theorem gw_2_204 : Cond.methodLink RJ0 335 yJ0_coder_7d493 ∈ zG := zGt2 (List.mem_of_getElem? (i := 204) (by rfl)) rfl
theorem gw_3_168 : Cond.methodLink RJ0 212 arraycopyName ∈ zG := zGt3 (List.mem_of_getElem? (i := 168) (by rfl)) rfl
theorem gw_2_223 : Cond.fieldLink RJ0 1053 "jdk/internal/util/Preconditions" "SIOOBE_FORMATTER" "Ljava/util/function/BiFunction;" ∈ zG := zGt2 (List.mem_of_getElem? (i := 223) (by rfl)) rfl
theorem gw_2_227 : Cond.code yJ3_checkIndex_8e157 cJ3_checkIndex_8e157 3 (Option.some Jvm.ClassFile.FieldType.int) ∈ zG := zGt2 (List.mem_of_getElem? (i := 227) (by rfl)) rfl
theorem gw_1_23 : Cond.initialized RJ3 ∈ zG := zGt1 (List.mem_of_getElem? (i := 23) (by rfl)) rfl
theorem gw_2_225 : Cond.methodLink RJ0 1059 yJ3_checkIndex_8e157 ∈ zG := zGt2 (List.mem_of_getElem? (i := 225) (by rfl)) rfl
theorem gw_2_226 : Cond.static yJ3_checkIndex_8e157 ∈ zG := zGt2 (List.mem_of_getElem? (i := 226) (by rfl)) rfl
theorem gw_2_222 : Cond.code yJ0_checkIndex_df160 cJ0_checkIndex_df160 2 (Option.none : Option Jvm.ClassFile.FieldType) ∈ zG := zGt2 (List.mem_of_getElem? (i := 222) (by rfl)) rfl
theorem gw_2_220 : Cond.methodLink RJ1 9 yJ0_checkIndex_df160 ∈ zG := zGt2 (List.mem_of_getElem? (i := 220) (by rfl)) rfl
theorem gw_2_221 : Cond.static yJ0_checkIndex_df160 ∈ zG := zGt2 (List.mem_of_getElem? (i := 221) (by rfl)) rfl
theorem gw_2_236 : Cond.code yJ2_length_9d52b cJ2_length_9d52b 1 (Option.some Jvm.ClassFile.FieldType.int) ∈ zG := zGt2 (List.mem_of_getElem? (i := 236) (by rfl)) rfl
theorem gw_1_7 : Cond.initialized RJ2 ∈ zG := zGt1 (List.mem_of_getElem? (i := 7) (by rfl)) rfl
theorem gw_2_234 : Cond.methodLink RJ2 48 yJ2_length_9d52b ∈ zG := zGt2 (List.mem_of_getElem? (i := 234) (by rfl)) rfl
theorem gw_2_235 : Cond.static yJ2_length_9d52b ∈ zG := zGt2 (List.mem_of_getElem? (i := 235) (by rfl)) rfl
theorem gw_2_237 : Cond.methodLink RJ2 414 yJ0_checkIndex_df160 ∈ zG := zGt2 (List.mem_of_getElem? (i := 237) (by rfl)) rfl
theorem gw_3_227 : Cond.code yJ7_copyOfRangeByte_39247 cJ7_copyOfRangeByte_39247 5 (Option.some (Jvm.ClassFile.FieldType.array Jvm.ClassFile.FieldType.byte)) ∈ zG := zGt3 (List.mem_of_getElem? (i := 227) (by rfl)) rfl
theorem gw_3_225 : Cond.methodLink RJ7 339 yJ7_copyOfRangeByte_39247 ∈ zG := zGt3 (List.mem_of_getElem? (i := 225) (by rfl)) rfl
theorem gw_3_226 : Cond.static yJ7_copyOfRangeByte_39247 ∈ zG := zGt3 (List.mem_of_getElem? (i := 226) (by rfl)) rfl
theorem gw_2_68 : Cond.methodLink RX0 3 Lib.objectInit ∈ zG := zGt2 (List.mem_of_getElem? (i := 68) (by rfl)) rfl
theorem gw_2_72 : Cond.fieldLink RX0 9 (TX0 0).1 (TX0 0).2.1 (TX0 0).2.2.1 ∈ zG := zGt2 (List.mem_of_getElem? (i := 72) (by rfl)) rfl
theorem gw_2_74 : Cond.fieldLink RX0 15 (TX0 1).1 (TX0 1).2.1 (TX0 1).2.2.1 ∈ zG := zGt2 (List.mem_of_getElem? (i := 74) (by rfl)) rfl
theorem gw_2_69 : Cond.classLink RX0 18 "ReviewTable$Table" ∈ zG := zGt2 (List.mem_of_getElem? (i := 69) (by rfl)) rfl
theorem gw_2_75 : Cond.fieldLink RX0 20 (TX0 2).1 (TX0 2).2.1 (TX0 2).2.2.1 ∈ zG := zGt2 (List.mem_of_getElem? (i := 75) (by rfl)) rfl
theorem gw_1_101 : Cond.instantiable RX5 10 ∈ zG := zGt1 (List.mem_of_getElem? (i := 101) (by rfl)) rfl
theorem gw_1_104 : Cond.code yX5_init cX5_init 2 (Option.none : Option Jvm.ClassFile.FieldType) ∈ zG := zGt1 (List.mem_of_getElem? (i := 104) (by rfl)) rfl
theorem gw_2_71 : Cond.methodLink RX0 24 yX5_init ∈ zG := zGt2 (List.mem_of_getElem? (i := 71) (by rfl)) rfl
theorem gw_1_103 : Cond.instanceMethod yX5_init ∈ zG := zGt1 (List.mem_of_getElem? (i := 103) (by rfl)) rfl
theorem gw_4_212 : Cond.methodLink RX0 25 yX5_copyFrom ∈ zG := zGt4 (List.mem_of_getElem? (i := 212) (by rfl)) rfl
theorem gw_4_226 : Cond.methodLink RX0 29 Lib.Math.min.name ∈ zG := zGt4 (List.mem_of_getElem? (i := 226) (by rfl)) rfl
theorem gw_1_46 : Cond.methodLink RX3 3 Lib.objectInit ∈ zG := zGt1 (List.mem_of_getElem? (i := 46) (by rfl)) rfl
theorem gw_1_47 : Cond.classLink RX3 9 RX1 ∈ zG := zGt1 (List.mem_of_getElem? (i := 47) (by rfl)) rfl
theorem gw_1_48 : Cond.instantiable RX1 3 ∈ zG := zGt1 (List.mem_of_getElem? (i := 48) (by rfl)) rfl
theorem gw_1_51 : Cond.code yX1_init cX1_init 1 (Option.none : Option Jvm.ClassFile.FieldType) ∈ zG := zGt1 (List.mem_of_getElem? (i := 51) (by rfl)) rfl
theorem gw_1_50 : Cond.instanceMethod yX1_init ∈ zG := zGt1 (List.mem_of_getElem? (i := 50) (by rfl)) rfl
theorem gw_1_100 : Cond.classLink RX3 18 RX5 ∈ zG := zGt1 (List.mem_of_getElem? (i := 100) (by rfl)) rfl
theorem gw_1_102 : Cond.methodLink RX3 20 yX5_init ∈ zG := zGt1 (List.mem_of_getElem? (i := 102) (by rfl)) rfl
theorem gw_2_35 : Cond.fieldLink RX3 21 (TX3 3).1 (TX3 3).2.1 (TX3 3).2.2.1 ∈ zG := zGt2 (List.mem_of_getElem? (i := 35) (by rfl)) rfl
theorem gw_3_20 : Cond.code yX3_isAtNumber cX3_isAtNumber 3 (Option.some Jvm.ClassFile.FieldType.boolean) ∈ zG := zGt3 (List.mem_of_getElem? (i := 20) (by rfl)) rfl
theorem gw_3_17 : Cond.methodLink RX3 144 yX3_isAtNumber ∈ zG := zGt3 (List.mem_of_getElem? (i := 17) (by rfl)) rfl
theorem gw_3_19 : Cond.instanceMethod yX3_isAtNumber ∈ zG := zGt3 (List.mem_of_getElem? (i := 19) (by rfl)) rfl
theorem gp_8 : Cond.selects RX3 yX3_isAtNumber yX3_isAtNumber ∈ zG := zGs (List.mem_of_getElem? (i := 8) (by rfl)) rfl
theorem gw_2_41 : Cond.fieldLink RX3 68 (TX3 8).1 (TX3 8).2.1 (TX3 8).2.2.1 ∈ zG := zGt2 (List.mem_of_getElem? (i := 41) (by rfl)) rfl
theorem gw_2_170 : Cond.code yX3_nextToken cX3_nextToken 1 (Option.none : Option Jvm.ClassFile.FieldType) ∈ zG := zGt2 (List.mem_of_getElem? (i := 170) (by rfl)) rfl
theorem gw_2_167 : Cond.methodLink RX3 38 yX3_nextToken ∈ zG := zGt2 (List.mem_of_getElem? (i := 167) (by rfl)) rfl
theorem gw_2_169 : Cond.instanceMethod yX3_nextToken ∈ zG := zGt2 (List.mem_of_getElem? (i := 169) (by rfl)) rfl
theorem gp_0 : Cond.selects RX3 yX3_nextToken yX3_nextToken ∈ zG := zGs (List.mem_of_getElem? (i := 0) (by rfl)) rfl
theorem gw_2_90 : Cond.fieldLink RX5 181 (TX6 0).1 (TX6 0).2.1 (TX6 0).2.2.1 ∈ zG := zGt2 (List.mem_of_getElem? (i := 90) (by rfl)) rfl
theorem gw_2_99 : Cond.fieldLink RX5 184 (TX6 4).1 (TX6 4).2.1 (TX6 4).2.2.1 ∈ zG := zGt2 (List.mem_of_getElem? (i := 99) (by rfl)) rfl
theorem gw_7_36 : Cond.code yX7_changeTrust cX7_changeTrust 2 (Option.none : Option Jvm.ClassFile.FieldType) ∈ zG := zGt7 (List.mem_of_getElem? (i := 36) (by rfl)) rfl
theorem gw_7_33 : Cond.methodLink RX5 187 yX7_changeTrust ∈ zG := zGt7 (List.mem_of_getElem? (i := 33) (by rfl)) rfl
theorem gw_7_34 : Cond.instanceMethod yX7_changeTrust ∈ zG := zGt7 (List.mem_of_getElem? (i := 34) (by rfl)) rfl
theorem gw_7_35 : Cond.selects RX7 yX7_changeTrust yX7_changeTrust ∈ zG := zGt7 (List.mem_of_getElem? (i := 35) (by rfl)) rfl
theorem gw_2_93 : Cond.fieldLink RX5 190 (TX6 1).1 (TX6 1).2.1 (TX6 1).2.2.1 ∈ zG := zGt2 (List.mem_of_getElem? (i := 93) (by rfl)) rfl
theorem gw_1_182 : Cond.fieldLink RX5 193 (TX4 2).1 (TX4 2).2.1 (TX4 2).2.2.1 ∈ zG := zGt1 (List.mem_of_getElem? (i := 182) (by rfl)) rfl
theorem gw_2_95 : Cond.fieldLink RX5 194 (TX6 2).1 (TX6 2).2.1 (TX6 2).2.2.1 ∈ zG := zGt2 (List.mem_of_getElem? (i := 95) (by rfl)) rfl
theorem gw_2_97 : Cond.fieldLink RX5 200 (TX6 3).1 (TX6 3).2.1 (TX6 3).2.2.1 ∈ zG := zGt2 (List.mem_of_getElem? (i := 97) (by rfl)) rfl
theorem gw_7_41 : Cond.code yX5_reward cX5_reward 3 (Option.none : Option Jvm.ClassFile.FieldType) ∈ zG := zGt7 (List.mem_of_getElem? (i := 41) (by rfl)) rfl
theorem gw_7_38 : Cond.methodLink RX5 209 yX5_reward ∈ zG := zGt7 (List.mem_of_getElem? (i := 38) (by rfl)) rfl
theorem gw_7_39 : Cond.instanceMethod yX5_reward ∈ zG := zGt7 (List.mem_of_getElem? (i := 39) (by rfl)) rfl
theorem gw_7_40 : Cond.selects RX5 yX5_reward yX5_reward ∈ zG := zGt7 (List.mem_of_getElem? (i := 40) (by rfl)) rfl
theorem gw_1_143 : Cond.fieldLink RX5 235 (TX7 8).1 (TX7 8).2.1 (TX7 8).2.2.1 ∈ zG := zGt1 (List.mem_of_getElem? (i := 143) (by rfl)) rfl
theorem gw_7_78 : Cond.methodLink RX5 238 yX4_resultAt ∈ zG := zGt7 (List.mem_of_getElem? (i := 78) (by rfl)) rfl
theorem gw_1_188 : Cond.fieldLink RX5 241 (TX4 4).1 (TX4 4).2.1 (TX4 4).2.2.1 ∈ zG := zGt1 (List.mem_of_getElem? (i := 188) (by rfl)) rfl
theorem gw_1_176 : Cond.fieldLink RX6 21 (TX4 1).1 (TX4 1).2.1 (TX4 1).2.2.1 ∈ zG := zGt1 (List.mem_of_getElem? (i := 176) (by rfl)) rfl
theorem gw_1_198 : Cond.fieldLink RX6 37 (TX4 8).1 (TX4 8).2.1 (TX4 8).2.2.1 ∈ zG := zGt1 (List.mem_of_getElem? (i := 198) (by rfl)) rfl
theorem gw_6_169 : Cond.methodLink RX6 40 yX4_resultAt ∈ zG := zGt6 (List.mem_of_getElem? (i := 169) (by rfl)) rfl
theorem gw_2_1 : Cond.fieldLink RX6 44 (TX5 6).1 (TX5 6).2.1 (TX5 6).2.2.1 ∈ zG := zGt2 (List.mem_of_getElem? (i := 1) (by rfl)) rfl
theorem gw_6_170 : Cond.methodLink RX6 50 yX4_workerAt ∈ zG := zGt6 (List.mem_of_getElem? (i := 170) (by rfl)) rfl
theorem gw_1_126 : Cond.fieldLink RX6 53 (TX7 3).1 (TX7 3).2.1 (TX7 3).2.2.1 ∈ zG := zGt1 (List.mem_of_getElem? (i := 126) (by rfl)) rfl
theorem gw_6_174 : Cond.code yX6_judgePair cX6_judgePair 2 (Option.none : Option Jvm.ClassFile.FieldType) ∈ zG := zGt6 (List.mem_of_getElem? (i := 174) (by rfl)) rfl
theorem gw_6_171 : Cond.methodLink RX6 58 yX6_judgePair ∈ zG := zGt6 (List.mem_of_getElem? (i := 171) (by rfl)) rfl
theorem gw_6_173 : Cond.instanceMethod yX6_judgePair ∈ zG := zGt6 (List.mem_of_getElem? (i := 173) (by rfl)) rfl
theorem gp_23 : Cond.selects RX6 yX6_judgePair yX6_judgePair ∈ zG := zGs (List.mem_of_getElem? (i := 23) (by rfl)) rfl
theorem gw_6_183 : Cond.code yX6_judgeThird cX6_judgeThird 4 (Option.none : Option Jvm.ClassFile.FieldType) ∈ zG := zGt6 (List.mem_of_getElem? (i := 183) (by rfl)) rfl
theorem gw_6_180 : Cond.methodLink RX6 62 yX6_judgeThird ∈ zG := zGt6 (List.mem_of_getElem? (i := 180) (by rfl)) rfl
theorem gw_6_182 : Cond.instanceMethod yX6_judgeThird ∈ zG := zGt6 (List.mem_of_getElem? (i := 182) (by rfl)) rfl
theorem gp_25 : Cond.selects RX6 yX6_judgeThird yX6_judgeThird ∈ zG := zGs (List.mem_of_getElem? (i := 25) (by rfl)) rfl
theorem gw_1_38 : Cond.methodLink RX8 1 Lib.objectInit ∈ zG := zGt1 (List.mem_of_getElem? (i := 38) (by rfl)) rfl
theorem gw_1_41 : Cond.classLink RX8 7 RX3 ∈ zG := zGt1 (List.mem_of_getElem? (i := 41) (by rfl)) rfl
theorem gw_1_42 : Cond.instantiable RX3 9 ∈ zG := zGt1 (List.mem_of_getElem? (i := 42) (by rfl)) rfl
theorem gw_1_45 : Cond.code yX3_init cX3_init 1 (Option.none : Option Jvm.ClassFile.FieldType) ∈ zG := zGt1 (List.mem_of_getElem? (i := 45) (by rfl)) rfl
theorem gw_1_44 : Cond.instanceMethod yX3_init ∈ zG := zGt1 (List.mem_of_getElem? (i := 44) (by rfl)) rfl
theorem gw_2_121 : Cond.fieldLink RX8 10 (TX8 0).1 (TX8 0).2.1 (TX8 0).2.2.1 ∈ zG := zGt2 (List.mem_of_getElem? (i := 121) (by rfl)) rfl
theorem gw_2_34 : Cond.fieldLink RX8 16 (TX3 2).1 (TX3 2).2.1 (TX3 2).2.2.1 ∈ zG := zGt2 (List.mem_of_getElem? (i := 34) (by rfl)) rfl
theorem gw_2_61 : Cond.classLink RX8 21 RX5 ∈ zG := zGt2 (List.mem_of_getElem? (i := 61) (by rfl)) rfl
theorem gw_2_62 : Cond.methodLink RX8 23 yX5_init ∈ zG := zGt2 (List.mem_of_getElem? (i := 62) (by rfl)) rfl
theorem gw_2_63 : Cond.classLink RX8 28 RX0 ∈ zG := zGt2 (List.mem_of_getElem? (i := 63) (by rfl)) rfl
theorem gw_2_64 : Cond.instantiable RX0 3 ∈ zG := zGt2 (List.mem_of_getElem? (i := 64) (by rfl)) rfl
theorem gw_1_11 : Cond.initialized RX0 ∈ zG := zGt1 (List.mem_of_getElem? (i := 11) (by rfl)) rfl
theorem gw_2_67 : Cond.code yX0_init cX0_init 2 (Option.none : Option Jvm.ClassFile.FieldType) ∈ zG := zGt2 (List.mem_of_getElem? (i := 67) (by rfl)) rfl
theorem gw_2_65 : Cond.methodLink RX8 30 yX0_init ∈ zG := zGt2 (List.mem_of_getElem? (i := 65) (by rfl)) rfl
theorem gw_2_66 : Cond.instanceMethod yX0_init ∈ zG := zGt2 (List.mem_of_getElem? (i := 66) (by rfl)) rfl
theorem gw_2_83 : Cond.classLink RX8 43 RX6 ∈ zG := zGt2 (List.mem_of_getElem? (i := 83) (by rfl)) rfl
theorem gw_2_84 : Cond.instantiable RX6 7 ∈ zG := zGt2 (List.mem_of_getElem? (i := 84) (by rfl)) rfl
theorem gw_2_87 : Cond.code yX6_init cX6_init 1 (Option.none : Option Jvm.ClassFile.FieldType) ∈ zG := zGt2 (List.mem_of_getElem? (i := 87) (by rfl)) rfl
theorem gw_2_86 : Cond.instanceMethod yX6_init ∈ zG := zGt2 (List.mem_of_getElem? (i := 86) (by rfl)) rfl
theorem gw_2_127 : Cond.fieldLink RX8 46 (TX8 6).1 (TX8 6).2.1 (TX8 6).2.2.1 ∈ zG := zGt2 (List.mem_of_getElem? (i := 127) (by rfl)) rfl
theorem gw_2_119 : Cond.classLink RX8 50 RJ4 ∈ zG := zGt2 (List.mem_of_getElem? (i := 119) (by rfl)) rfl
theorem gw_2_120 : Cond.methodLink RX8 52 yJ4_init_da8c8 ∈ zG := zGt2 (List.mem_of_getElem? (i := 120) (by rfl)) rfl
theorem gw_2_128 : Cond.fieldLink RX8 53 (TX8 7).1 (TX8 7).2.1 (TX8 7).2.2.1 ∈ zG := zGt2 (List.mem_of_getElem? (i := 128) (by rfl)) rfl
theorem gw_6_162 : Cond.code yX8_requireInWork cX8_requireInWork 4 (Option.some Jvm.ClassFile.FieldType.int) ∈ zG := zGt6 (List.mem_of_getElem? (i := 162) (by rfl)) rfl
theorem gw_6_159 : Cond.methodLink RX8 288 yX8_requireInWork ∈ zG := zGt6 (List.mem_of_getElem? (i := 159) (by rfl)) rfl
theorem gw_6_161 : Cond.instanceMethod yX8_requireInWork ∈ zG := zGt6 (List.mem_of_getElem? (i := 161) (by rfl)) rfl
theorem gp_22 : Cond.selects RX8 yX8_requireInWork yX8_requireInWork ∈ zG := zGs (List.mem_of_getElem? (i := 22) (by rfl)) rfl
theorem gw_6_168 : Cond.code yX6_judge cX6_judge 7 (Option.none : Option Jvm.ClassFile.FieldType) ∈ zG := zGt6 (List.mem_of_getElem? (i := 168) (by rfl)) rfl
theorem gw_6_165 : Cond.methodLink RX8 291 yX6_judge ∈ zG := zGt6 (List.mem_of_getElem? (i := 165) (by rfl)) rfl
theorem gw_6_166 : Cond.instanceMethod yX6_judge ∈ zG := zGt6 (List.mem_of_getElem? (i := 166) (by rfl)) rfl
theorem gw_6_167 : Cond.selects RX6 yX6_judge yX6_judge ∈ zG := zGt6 (List.mem_of_getElem? (i := 167) (by rfl)) rfl
theorem gw_2_91 : Cond.fieldLink RX8 295 (TX6 0).1 (TX6 0).2.1 (TX6 0).2.2.1 ∈ zG := zGt2 (List.mem_of_getElem? (i := 91) (by rfl)) rfl
theorem gw_2_100 : Cond.fieldLink RX8 299 (TX6 4).1 (TX6 4).2.1 (TX6 4).2.2.1 ∈ zG := zGt2 (List.mem_of_getElem? (i := 100) (by rfl)) rfl
theorem gw_6_193 : Cond.methodLink RX8 302 yX8_withinTrust ∈ zG := zGt6 (List.mem_of_getElem? (i := 193) (by rfl)) rfl
theorem gw_4_211 : Cond.code yX0_remember cX0_remember 2 (Option.none : Option Jvm.ClassFile.FieldType) ∈ zG := zGt4 (List.mem_of_getElem? (i := 211) (by rfl)) rfl
theorem gw_4_208 : Cond.methodLink RX8 94 yX0_remember ∈ zG := zGt4 (List.mem_of_getElem? (i := 208) (by rfl)) rfl
theorem gw_4_209 : Cond.instanceMethod yX0_remember ∈ zG := zGt4 (List.mem_of_getElem? (i := 209) (by rfl)) rfl
theorem gw_4_210 : Cond.selects RX0 yX0_remember yX0_remember ∈ zG := zGt4 (List.mem_of_getElem? (i := 210) (by rfl)) rfl
theorem gw_6_237 : Cond.code yX5_startTaking cX5_startTaking 4 (Option.some Jvm.ClassFile.FieldType.int) ∈ zG := zGt6 (List.mem_of_getElem? (i := 237) (by rfl)) rfl
theorem gw_6_234 : Cond.methodLink RX8 310 yX5_startTaking ∈ zG := zGt6 (List.mem_of_getElem? (i := 234) (by rfl)) rfl
theorem gw_6_235 : Cond.instanceMethod yX5_startTaking ∈ zG := zGt6 (List.mem_of_getElem? (i := 235) (by rfl)) rfl
theorem gw_6_236 : Cond.selects RX5 yX5_startTaking yX5_startTaking ∈ zG := zGt6 (List.mem_of_getElem? (i := 236) (by rfl)) rfl
theorem gw_7_24 : Cond.code yX5_enterResult cX5_enterResult 5 (Option.none : Option Jvm.ClassFile.FieldType) ∈ zG := zGt7 (List.mem_of_getElem? (i := 24) (by rfl)) rfl
theorem gw_7_21 : Cond.methodLink RX8 315 yX5_enterResult ∈ zG := zGt7 (List.mem_of_getElem? (i := 21) (by rfl)) rfl
theorem gw_7_22 : Cond.instanceMethod yX5_enterResult ∈ zG := zGt7 (List.mem_of_getElem? (i := 22) (by rfl)) rfl
theorem gw_7_23 : Cond.selects RX5 yX5_enterResult yX5_enterResult ∈ zG := zGt7 (List.mem_of_getElem? (i := 23) (by rfl)) rfl
theorem gw_7_32 : Cond.code yX5_settle cX5_settle 5 (Option.none : Option Jvm.ClassFile.FieldType) ∈ zG := zGt7 (List.mem_of_getElem? (i := 32) (by rfl)) rfl
theorem gw_7_29 : Cond.methodLink RX8 318 yX5_settle ∈ zG := zGt7 (List.mem_of_getElem? (i := 29) (by rfl)) rfl
theorem gw_7_30 : Cond.instanceMethod yX5_settle ∈ zG := zGt7 (List.mem_of_getElem? (i := 30) (by rfl)) rfl
theorem gw_7_31 : Cond.selects RX5 yX5_settle yX5_settle ∈ zG := zGt7 (List.mem_of_getElem? (i := 31) (by rfl)) rfl
theorem gw_7_77 : Cond.code yX5_examine cX5_examine 4 (Option.some Jvm.ClassFile.FieldType.boolean) ∈ zG := zGt7 (List.mem_of_getElem? (i := 77) (by rfl)) rfl
theorem gw_7_74 : Cond.methodLink RX8 327 yX5_examine ∈ zG := zGt7 (List.mem_of_getElem? (i := 74) (by rfl)) rfl
theorem gw_7_75 : Cond.instanceMethod yX5_examine ∈ zG := zGt7 (List.mem_of_getElem? (i := 75) (by rfl)) rfl
theorem gw_7_76 : Cond.selects RX5 yX5_examine yX5_examine ∈ zG := zGt7 (List.mem_of_getElem? (i := 76) (by rfl)) rfl
theorem gw_4_207 : Cond.code yX5_tellApart cX5_tellApart 5 (Option.none : Option Jvm.ClassFile.FieldType) ∈ zG := zGt4 (List.mem_of_getElem? (i := 207) (by rfl)) rfl
theorem gw_7_107 : Cond.methodLink RX8 343 yX5_tellApart ∈ zG := zGt7 (List.mem_of_getElem? (i := 107) (by rfl)) rfl
theorem gw_4_205 : Cond.instanceMethod yX5_tellApart ∈ zG := zGt4 (List.mem_of_getElem? (i := 205) (by rfl)) rfl
theorem gw_4_206 : Cond.selects RX5 yX5_tellApart yX5_tellApart ∈ zG := zGt4 (List.mem_of_getElem? (i := 206) (by rfl)) rfl
theorem gw_4_176 : Cond.code yX5_hasRoomFor cX5_hasRoomFor 2 (Option.some Jvm.ClassFile.FieldType.boolean) ∈ zG := zGt4 (List.mem_of_getElem? (i := 176) (by rfl)) rfl
theorem gw_7_115 : Cond.methodLink RX8 347 yX5_hasRoomFor ∈ zG := zGt7 (List.mem_of_getElem? (i := 115) (by rfl)) rfl
theorem gw_4_174 : Cond.instanceMethod yX5_hasRoomFor ∈ zG := zGt4 (List.mem_of_getElem? (i := 174) (by rfl)) rfl
theorem gw_4_175 : Cond.selects RX5 yX5_hasRoomFor yX5_hasRoomFor ∈ zG := zGt4 (List.mem_of_getElem? (i := 175) (by rfl)) rfl
theorem gw_4_182 : Cond.code yX5_putRows cX5_putRows 4 (Option.none : Option Jvm.ClassFile.FieldType) ∈ zG := zGt4 (List.mem_of_getElem? (i := 182) (by rfl)) rfl
theorem gw_7_117 : Cond.methodLink RX8 352 yX5_putRows ∈ zG := zGt7 (List.mem_of_getElem? (i := 117) (by rfl)) rfl
theorem gw_4_180 : Cond.instanceMethod yX5_putRows ∈ zG := zGt4 (List.mem_of_getElem? (i := 180) (by rfl)) rfl
theorem gw_4_181 : Cond.selects RX5 yX5_putRows yX5_putRows ∈ zG := zGt4 (List.mem_of_getElem? (i := 181) (by rfl)) rfl
theorem gw_7_127 : Cond.code yX8_requireSetting cX8_requireSetting 2 (Option.none : Option Jvm.ClassFile.FieldType) ∈ zG := zGt7 (List.mem_of_getElem? (i := 127) (by rfl)) rfl
theorem gw_7_125 : Cond.methodLink RX8 356 yX8_requireSetting ∈ zG := zGt7 (List.mem_of_getElem? (i := 125) (by rfl)) rfl
theorem gw_7_126 : Cond.static yX8_requireSetting ∈ zG := zGt7 (List.mem_of_getElem? (i := 126) (by rfl)) rfl
theorem gw_5_181 : Cond.code yX8_property cX8_property 2 (Option.some Jvm.ClassFile.FieldType.int) ∈ zG := zGt5 (List.mem_of_getElem? (i := 181) (by rfl)) rfl
theorem gw_7_128 : Cond.methodLink RX8 359 yX8_property ∈ zG := zGt7 (List.mem_of_getElem? (i := 128) (by rfl)) rfl
theorem gw_5_179 : Cond.instanceMethod yX8_property ∈ zG := zGt5 (List.mem_of_getElem? (i := 179) (by rfl)) rfl
theorem gw_5_180 : Cond.selects RX8 yX8_property yX8_property ∈ zG := zGt5 (List.mem_of_getElem? (i := 180) (by rfl)) rfl
theorem gw_7_159 : Cond.code yX0_bringBack cX0_bringBack 2 (Option.none : Option Jvm.ClassFile.FieldType) ∈ zG := zGt7 (List.mem_of_getElem? (i := 159) (by rfl)) rfl
theorem gw_7_156 : Cond.methodLink RX8 372 yX0_bringBack ∈ zG := zGt7 (List.mem_of_getElem? (i := 156) (by rfl)) rfl
theorem gw_7_157 : Cond.instanceMethod yX0_bringBack ∈ zG := zGt7 (List.mem_of_getElem? (i := 157) (by rfl)) rfl
theorem gw_7_158 : Cond.selects RX0 yX0_bringBack yX0_bringBack ∈ zG := zGt7 (List.mem_of_getElem? (i := 158) (by rfl)) rfl
theorem gw_3_87 : Cond.code yJ5_newCapacity_0f7a4 cJ5_newCapacity_0f7a4 6 (Option.some Jvm.ClassFile.FieldType.int) ∈ zG := zGt3 (List.mem_of_getElem? (i := 87) (by rfl)) rfl
theorem gw_3_84 : Cond.methodLink RJ5 104 yJ5_newCapacity_0f7a4 ∈ zG := zGt3 (List.mem_of_getElem? (i := 84) (by rfl)) rfl
theorem gw_3_86 : Cond.instanceMethod yJ5_newCapacity_0f7a4 ∈ zG := zGt3 (List.mem_of_getElem? (i := 86) (by rfl)) rfl
theorem gx_0 : Cond.selects RJ4 yJ5_newCapacity_0f7a4 yJ5_newCapacity_0f7a4 ∈ zG := zGx (List.mem_of_getElem? (i := 0) (by rfl)) rfl
theorem gw_3_101 : Cond.code yJ7_copyOf_9075b cJ7_copyOf_9075b 3 (Option.some (Jvm.ClassFile.FieldType.array Jvm.ClassFile.FieldType.byte)) ∈ zG := zGt3 (List.mem_of_getElem? (i := 101) (by rfl)) rfl
theorem gw_3_99 : Cond.methodLink RJ5 108 yJ7_copyOf_9075b ∈ zG := zGt3 (List.mem_of_getElem? (i := 99) (by rfl)) rfl
theorem gw_3_100 : Cond.static yJ7_copyOf_9075b ∈ zG := zGt3 (List.mem_of_getElem? (i := 100) (by rfl)) rfl
theorem gw_3_83 : Cond.code yJ5_ensureCapacityInternal_d00df cJ5_ensureCapacityInternal_d00df 3 (Option.none : Option Jvm.ClassFile.FieldType) ∈ zG := zGt3 (List.mem_of_getElem? (i := 83) (by rfl)) rfl
theorem gw_3_80 : Cond.methodLink RJ5 100 yJ5_ensureCapacityInternal_d00df ∈ zG := zGt3 (List.mem_of_getElem? (i := 80) (by rfl)) rfl
theorem gw_3_82 : Cond.instanceMethod yJ5_ensureCapacityInternal_d00df ∈ zG := zGt3 (List.mem_of_getElem? (i := 82) (by rfl)) rfl
theorem gx_1 : Cond.selects RJ4 yJ5_ensureCapacityInternal_d00df yJ5_ensureCapacityInternal_d00df ∈ zG := zGx (List.mem_of_getElem? (i := 1) (by rfl)) rfl
theorem gw_1_73 : Cond.fieldLink RJ5 73 (TJ4 2).1 (TJ4 2).2.1 (TJ4 2).2.2.1 ∈ zG := zGt1 (List.mem_of_getElem? (i := 73) (by rfl)) rfl
theorem gw_7_202 : Cond.methodLink RJ5 138 Lib.Math.min.name ∈ zG := zGt7 (List.mem_of_getElem? (i := 202) (by rfl)) rfl
theorem gw_7_203 : Cond.methodLink RJ5 144 yJ0_checkIndex_df160 ∈ zG := zGt7 (List.mem_of_getElem? (i := 203) (by rfl)) rfl
theorem gw_3_119 : Cond.code yJ5_isLatin1_aae02 cJ5_isLatin1_aae02 1 (Option.some Jvm.ClassFile.FieldType.boolean) ∈ zG := zGt3 (List.mem_of_getElem? (i := 119) (by rfl)) rfl
theorem gw_3_115 : Cond.methodLink RJ5 83 yJ5_isLatin1_aae02 ∈ zG := zGt3 (List.mem_of_getElem? (i := 115) (by rfl)) rfl
theorem gw_3_116 : Cond.instanceMethod yJ5_isLatin1_aae02 ∈ zG := zGt3 (List.mem_of_getElem? (i := 116) (by rfl)) rfl
theorem gw_3_118 : Cond.selects RJ4 yJ5_isLatin1_aae02 yJ5_isLatin1_aae02 ∈ zG := zGt3 (List.mem_of_getElem? (i := 118) (by rfl)) rfl
theorem gw_4_148 : Cond.code yJ1_canEncode_fc78d cJ1_canEncode_fc78d 1 (Option.some Jvm.ClassFile.FieldType.boolean) ∈ zG := zGt4 (List.mem_of_getElem? (i := 148) (by rfl)) rfl
theorem gw_1_22 : Cond.initialized RJ1 ∈ zG := zGt1 (List.mem_of_getElem? (i := 22) (by rfl)) rfl
theorem gw_4_146 : Cond.methodLink RJ5 191 yJ1_canEncode_fc78d ∈ zG := zGt4 (List.mem_of_getElem? (i := 146) (by rfl)) rfl
theorem gw_4_147 : Cond.static yJ1_canEncode_fc78d ∈ zG := zGt4 (List.mem_of_getElem? (i := 147) (by rfl)) rfl
theorem gw_3_179 : Cond.code yJ6_stringSize_0f7a4 cJ6_stringSize_0f7a4 4 (Option.some Jvm.ClassFile.FieldType.int) ∈ zG := zGt3 (List.mem_of_getElem? (i := 179) (by rfl)) rfl
theorem gw_3_177 : Cond.methodLink RJ5 245 yJ6_stringSize_0f7a4 ∈ zG := zGt3 (List.mem_of_getElem? (i := 177) (by rfl)) rfl
theorem gw_3_178 : Cond.static yJ6_stringSize_0f7a4 ∈ zG := zGt3 (List.mem_of_getElem? (i := 178) (by rfl)) rfl
theorem gw_3_182 : Cond.code yJ6_getChars_ba4f3 cJ6_getChars_ba4f3 7 (Option.some Jvm.ClassFile.FieldType.int) ∈ zG := zGt3 (List.mem_of_getElem? (i := 182) (by rfl)) rfl
theorem gw_3_180 : Cond.methodLink RJ5 248 yJ6_getChars_ba4f3 ∈ zG := zGt3 (List.mem_of_getElem? (i := 180) (by rfl)) rfl
theorem gw_3_181 : Cond.static yJ6_getChars_ba4f3 ∈ zG := zGt3 (List.mem_of_getElem? (i := 181) (by rfl)) rfl
theorem gw_3_143 : Cond.code yJ5_inflateIfNeededFor_a7421 cJ5_inflateIfNeededFor_a7421 2 (Option.none : Option Jvm.ClassFile.FieldType) ∈ zG := zGt3 (List.mem_of_getElem? (i := 143) (by rfl)) rfl
theorem gw_3_140 : Cond.methodLink RJ5 397 yJ5_inflateIfNeededFor_a7421 ∈ zG := zGt3 (List.mem_of_getElem? (i := 140) (by rfl)) rfl
theorem gw_3_142 : Cond.instanceMethod yJ5_inflateIfNeededFor_a7421 ∈ zG := zGt3 (List.mem_of_getElem? (i := 142) (by rfl)) rfl
theorem gx_2 : Cond.selects RJ4 yJ5_inflateIfNeededFor_a7421 yJ5_inflateIfNeededFor_a7421 ∈ zG := zGx (List.mem_of_getElem? (i := 2) (by rfl)) rfl
theorem gw_3_167 : Cond.code yJ0_getBytes_840e7 cJ0_getBytes_840e7 4 (Option.none : Option Jvm.ClassFile.FieldType) ∈ zG := zGt3 (List.mem_of_getElem? (i := 167) (by rfl)) rfl
theorem gw_3_164 : Cond.methodLink RJ5 399 yJ0_getBytes_840e7 ∈ zG := zGt3 (List.mem_of_getElem? (i := 164) (by rfl)) rfl
theorem gw_3_165 : Cond.instanceMethod yJ0_getBytes_840e7 ∈ zG := zGt3 (List.mem_of_getElem? (i := 165) (by rfl)) rfl
theorem gw_3_166 : Cond.selects RJ0 yJ0_getBytes_840e7 yJ0_getBytes_840e7 ∈ zG := zGt3 (List.mem_of_getElem? (i := 166) (by rfl)) rfl
theorem gw_2_216 : Cond.code yJ0_isLatin1_aae02 cJ0_isLatin1_aae02 1 (Option.some Jvm.ClassFile.FieldType.boolean) ∈ zG := zGt2 (List.mem_of_getElem? (i := 216) (by rfl)) rfl
theorem gw_2_213 : Cond.methodLink RJ0 492 yJ0_isLatin1_aae02 ∈ zG := zGt2 (List.mem_of_getElem? (i := 213) (by rfl)) rfl
theorem gw_2_214 : Cond.instanceMethod yJ0_isLatin1_aae02 ∈ zG := zGt2 (List.mem_of_getElem? (i := 214) (by rfl)) rfl
theorem gw_2_215 : Cond.selects RJ0 yJ0_isLatin1_aae02 yJ0_isLatin1_aae02 ∈ zG := zGt2 (List.mem_of_getElem? (i := 215) (by rfl)) rfl
theorem gw_2_219 : Cond.code yJ1_charAt_3b067 cJ1_charAt_3b067 2 (Option.some Jvm.ClassFile.FieldType.char) ∈ zG := zGt2 (List.mem_of_getElem? (i := 219) (by rfl)) rfl
theorem gw_2_217 : Cond.methodLink RJ0 495 yJ1_charAt_3b067 ∈ zG := zGt2 (List.mem_of_getElem? (i := 217) (by rfl)) rfl
theorem gw_2_218 : Cond.static yJ1_charAt_3b067 ∈ zG := zGt2 (List.mem_of_getElem? (i := 218) (by rfl)) rfl
theorem gw_3_207 : Cond.methodLink RJ0 1 Lib.objectInit ∈ zG := zGt3 (List.mem_of_getElem? (i := 207) (by rfl)) rfl
theorem gw_3_212 : Cond.code yJ5_getValue_6d5f1 cJ5_getValue_6d5f1 1 (Option.some (Jvm.ClassFile.FieldType.array Jvm.ClassFile.FieldType.byte)) ∈ zG := zGt3 (List.mem_of_getElem? (i := 212) (by rfl)) rfl
theorem gw_3_208 : Cond.methodLink RJ0 552 yJ5_getValue_6d5f1 ∈ zG := zGt3 (List.mem_of_getElem? (i := 208) (by rfl)) rfl
theorem gw_3_209 : Cond.instanceMethod yJ5_getValue_6d5f1 ∈ zG := zGt3 (List.mem_of_getElem? (i := 209) (by rfl)) rfl
theorem gw_3_211 : Cond.selects RJ4 yJ5_getValue_6d5f1 yJ5_getValue_6d5f1 ∈ zG := zGt3 (List.mem_of_getElem? (i := 211) (by rfl)) rfl
theorem gw_3_218 : Cond.code yJ4_length_8abf5 cJ4_length_8abf5 1 (Option.some Jvm.ClassFile.FieldType.int) ∈ zG := zGt3 (List.mem_of_getElem? (i := 218) (by rfl)) rfl
theorem gw_3_213 : Cond.methodLink RJ0 549 yJ5_length_8abf5 ∈ zG := zGt3 (List.mem_of_getElem? (i := 213) (by rfl)) rfl
theorem gw_3_216 : Cond.selects RJ4 yJ5_length_8abf5 yJ4_length_8abf5 ∈ zG := zGt3 (List.mem_of_getElem? (i := 216) (by rfl)) rfl
theorem gw_3_217 : Cond.instanceMethod yJ4_length_8abf5 ∈ zG := zGt3 (List.mem_of_getElem? (i := 217) (by rfl)) rfl
theorem gw_3_221 : Cond.methodLink RJ0 1047 yJ5_isLatin1_aae02 ∈ zG := zGt3 (List.mem_of_getElem? (i := 221) (by rfl)) rfl
theorem gw_3_224 : Cond.code yJ7_copyOfRange_39247 cJ7_copyOfRange_39247 3 (Option.some (Jvm.ClassFile.FieldType.array Jvm.ClassFile.FieldType.byte)) ∈ zG := zGt3 (List.mem_of_getElem? (i := 224) (by rfl)) rfl
theorem gw_3_222 : Cond.methodLink RJ0 54 yJ7_copyOfRange_39247 ∈ zG := zGt3 (List.mem_of_getElem? (i := 222) (by rfl)) rfl
theorem gw_3_223 : Cond.static yJ7_copyOfRange_39247 ∈ zG := zGt3 (List.mem_of_getElem? (i := 223) (by rfl)) rfl
theorem gw_4_145 : Cond.code yJ5_append_3fe6f cJ5_append_3fe6f 2 (Option.some (Jvm.ClassFile.FieldType.object "java/lang/AbstractStringBuilder")) ∈ zG := zGt4 (List.mem_of_getElem? (i := 145) (by rfl)) rfl
theorem gw_4_143 : Cond.methodLink RJ4 50 yJ5_append_3fe6f ∈ zG := zGt4 (List.mem_of_getElem? (i := 143) (by rfl)) rfl
theorem gw_4_144 : Cond.instanceMethod yJ5_append_3fe6f ∈ zG := zGt4 (List.mem_of_getElem? (i := 144) (by rfl)) rfl
theorem gw_10_182 : Cond.sameMethod yJ5_append_3fe6f.cls yJ5_append_3fe6f.cls yJ5_append_3fe6f.name yJ5_append_3fe6f.desc ∈ zG := zGt10 (List.mem_of_getElem? (i := 182) (by rfl)) rfl
theorem gw_3_176 : Cond.code yJ5_append_c97b9 cJ5_append_c97b9 4 (Option.some (Jvm.ClassFile.FieldType.object "java/lang/AbstractStringBuilder")) ∈ zG := zGt3 (List.mem_of_getElem? (i := 176) (by rfl)) rfl
theorem gw_3_174 : Cond.methodLink RJ4 53 yJ5_append_c97b9 ∈ zG := zGt3 (List.mem_of_getElem? (i := 174) (by rfl)) rfl
theorem gw_3_175 : Cond.instanceMethod yJ5_append_c97b9 ∈ zG := zGt3 (List.mem_of_getElem? (i := 175) (by rfl)) rfl
theorem gw_10_180 : Cond.sameMethod yJ5_append_c97b9.cls yJ5_append_c97b9.cls yJ5_append_c97b9.name yJ5_append_c97b9.desc ∈ zG := zGt10 (List.mem_of_getElem? (i := 180) (by rfl)) rfl
theorem gw_7_201 : Cond.code yJ5_charAt_5068e cJ5_charAt_5068e 5 (Option.some Jvm.ClassFile.FieldType.char) ∈ zG := zGt7 (List.mem_of_getElem? (i := 201) (by rfl)) rfl
theorem gw_7_199 : Cond.methodLink RJ4 329 yJ5_charAt_5068e ∈ zG := zGt7 (List.mem_of_getElem? (i := 199) (by rfl)) rfl
theorem gw_7_200 : Cond.instanceMethod yJ5_charAt_5068e ∈ zG := zGt7 (List.mem_of_getElem? (i := 200) (by rfl)) rfl
theorem gw_10_184 : Cond.sameMethod yJ5_charAt_5068e.cls yJ5_charAt_5068e.cls yJ5_charAt_5068e.name yJ5_charAt_5068e.desc ∈ zG := zGt10 (List.mem_of_getElem? (i := 184) (by rfl)) rfl
theorem gw_3_60 : Cond.code yJ5_setLength_d00df cJ5_setLength_d00df 2 (Option.none : Option Jvm.ClassFile.FieldType) ∈ zG := zGt3 (List.mem_of_getElem? (i := 60) (by rfl)) rfl
theorem gw_3_58 : Cond.methodLink RJ4 333 yJ5_setLength_d00df ∈ zG := zGt3 (List.mem_of_getElem? (i := 58) (by rfl)) rfl
theorem gw_3_59 : Cond.instanceMethod yJ5_setLength_d00df ∈ zG := zGt3 (List.mem_of_getElem? (i := 59) (by rfl)) rfl
theorem gw_10_172 : Cond.sameMethod yJ5_setLength_d00df.cls yJ5_setLength_d00df.cls yJ5_setLength_d00df.name yJ5_setLength_d00df.desc ∈ zG := zGt10 (List.mem_of_getElem? (i := 172) (by rfl)) rfl
theorem gw_2_203 : Cond.code yJ0_length_8abf5 cJ0_length_8abf5 1 (Option.some Jvm.ClassFile.FieldType.int) ∈ zG := zGt2 (List.mem_of_getElem? (i := 203) (by rfl)) rfl
theorem gw_2_200 : Cond.methodLink RX1 26 yJ0_length_8abf5 ∈ zG := zGt2 (List.mem_of_getElem? (i := 200) (by rfl)) rfl
theorem gw_2_201 : Cond.instanceMethod yJ0_length_8abf5 ∈ zG := zGt2 (List.mem_of_getElem? (i := 201) (by rfl)) rfl
theorem gw_2_202 : Cond.selects RJ0 yJ0_length_8abf5 yJ0_length_8abf5 ∈ zG := zGt2 (List.mem_of_getElem? (i := 202) (by rfl)) rfl
theorem gw_2_212 : Cond.code yJ0_charAt_5068e cJ0_charAt_5068e 2 (Option.some Jvm.ClassFile.FieldType.char) ∈ zG := zGt2 (List.mem_of_getElem? (i := 212) (by rfl)) rfl
theorem gw_2_209 : Cond.methodLink RX1 31 yJ0_charAt_5068e ∈ zG := zGt2 (List.mem_of_getElem? (i := 209) (by rfl)) rfl
theorem gw_2_210 : Cond.instanceMethod yJ0_charAt_5068e ∈ zG := zGt2 (List.mem_of_getElem? (i := 210) (by rfl)) rfl
theorem gw_2_211 : Cond.selects RJ0 yJ0_charAt_5068e yJ0_charAt_5068e ∈ zG := zGt2 (List.mem_of_getElem? (i := 211) (by rfl)) rfl
theorem gw_10_206 : Cond.fieldLink RX3 174 "ReviewTable$Keyword" "text" "Ljava/lang/String;" ∈ zG := zGt10 (List.mem_of_getElem? (i := 206) (by rfl)) rfl
theorem gw_2_199 : Cond.code yX1_spells cX1_spells 5 (Option.some Jvm.ClassFile.FieldType.boolean) ∈ zG := zGt2 (List.mem_of_getElem? (i := 199) (by rfl)) rfl
theorem gw_2_196 : Cond.methodLink RX3 178 yX1_spells ∈ zG := zGt2 (List.mem_of_getElem? (i := 196) (by rfl)) rfl
theorem gw_2_197 : Cond.instanceMethod yX1_spells ∈ zG := zGt2 (List.mem_of_getElem? (i := 197) (by rfl)) rfl
theorem gw_2_198 : Cond.selects RX1 yX1_spells yX1_spells ∈ zG := zGt2 (List.mem_of_getElem? (i := 198) (by rfl)) rfl
theorem gw_3_43 : Cond.fieldLink RX3 182 "ReviewTable$Parser" "KEYWORDS" "[LReviewTable$Keyword;" ∈ zG := zGt3 (List.mem_of_getElem? (i := 43) (by rfl)) rfl
theorem gw_2_195 : Cond.code yX3_isAt cX3_isAt 2 (Option.some Jvm.ClassFile.FieldType.boolean) ∈ zG := zGt2 (List.mem_of_getElem? (i := 195) (by rfl)) rfl
theorem gw_2_192 : Cond.methodLink RX3 92 yX3_isAt ∈ zG := zGt2 (List.mem_of_getElem? (i := 192) (by rfl)) rfl
theorem gw_2_194 : Cond.instanceMethod yX3_isAt ∈ zG := zGt2 (List.mem_of_getElem? (i := 194) (by rfl)) rfl
theorem gp_5 : Cond.selects RX3 yX3_isAt yX3_isAt ∈ zG := zGs (List.mem_of_getElem? (i := 5) (by rfl)) rfl
theorem gw_1_117 : Cond.fieldLink RX5 77 (TX7 0).1 (TX7 0).2.1 (TX7 0).2.2.1 ∈ zG := zGt1 (List.mem_of_getElem? (i := 117) (by rfl)) rfl
theorem gw_3_49 : Cond.methodLink RX5 81 yX1_spells ∈ zG := zGt3 (List.mem_of_getElem? (i := 49) (by rfl)) rfl
theorem gw_7_57 : Cond.methodLink RX5 222 yX4_isLateAt ∈ zG := zGt7 (List.mem_of_getElem? (i := 57) (by rfl)) rfl
theorem gw_7_58 : Cond.methodLink RX5 225 yX4_isInWork ∈ zG := zGt7 (List.mem_of_getElem? (i := 58) (by rfl)) rfl
theorem gw_7_61 : Cond.code yX5_endWork cX5_endWork 2 (Option.none : Option Jvm.ClassFile.FieldType) ∈ zG := zGt7 (List.mem_of_getElem? (i := 61) (by rfl)) rfl
theorem gw_7_59 : Cond.methodLink RX5 228 yX5_endWork ∈ zG := zGt7 (List.mem_of_getElem? (i := 59) (by rfl)) rfl
theorem gw_7_60 : Cond.static yX5_endWork ∈ zG := zGt7 (List.mem_of_getElem? (i := 60) (by rfl)) rfl
theorem gw_7_65 : Cond.code yX4_moveTaking cX4_moveTaking 3 (Option.none : Option Jvm.ClassFile.FieldType) ∈ zG := zGt7 (List.mem_of_getElem? (i := 65) (by rfl)) rfl
theorem gw_7_62 : Cond.methodLink RX5 232 yX4_moveTaking ∈ zG := zGt7 (List.mem_of_getElem? (i := 62) (by rfl)) rfl
theorem gw_7_63 : Cond.instanceMethod yX4_moveTaking ∈ zG := zGt7 (List.mem_of_getElem? (i := 63) (by rfl)) rfl
theorem gw_7_64 : Cond.selects RX4 yX4_moveTaking yX4_moveTaking ∈ zG := zGt7 (List.mem_of_getElem? (i := 64) (by rfl)) rfl
theorem gw_7_56 : Cond.code yX5_dropWork cX5_dropWork 6 (Option.some Jvm.ClassFile.FieldType.int) ∈ zG := zGt7 (List.mem_of_getElem? (i := 56) (by rfl)) rfl
theorem gw_7_53 : Cond.methodLink RX5 218 yX5_dropWork ∈ zG := zGt7 (List.mem_of_getElem? (i := 53) (by rfl)) rfl
theorem gw_7_54 : Cond.instanceMethod yX5_dropWork ∈ zG := zGt7 (List.mem_of_getElem? (i := 54) (by rfl)) rfl
theorem gw_7_55 : Cond.selects RX5 yX5_dropWork yX5_dropWork ∈ zG := zGt7 (List.mem_of_getElem? (i := 55) (by rfl)) rfl
theorem gw_3_48 : Cond.code yX5_workerNamed cX5_workerNamed 5 (Option.some Jvm.ClassFile.FieldType.int) ∈ zG := zGt3 (List.mem_of_getElem? (i := 48) (by rfl)) rfl
theorem gw_5_0 : Cond.methodLink RX8 107 yX5_workerNamed ∈ zG := zGt5 (List.mem_of_getElem? (i := 0) (by rfl)) rfl
theorem gw_3_46 : Cond.instanceMethod yX5_workerNamed ∈ zG := zGt3 (List.mem_of_getElem? (i := 46) (by rfl)) rfl
theorem gw_3_47 : Cond.selects RX5 yX5_workerNamed yX5_workerNamed ∈ zG := zGt3 (List.mem_of_getElem? (i := 47) (by rfl)) rfl
theorem gw_7_90 : Cond.code yX5_giveUp cX5_giveUp 2 (Option.some Jvm.ClassFile.FieldType.int) ∈ zG := zGt7 (List.mem_of_getElem? (i := 90) (by rfl)) rfl
theorem gw_7_87 : Cond.methodLink RX8 333 yX5_giveUp ∈ zG := zGt7 (List.mem_of_getElem? (i := 87) (by rfl)) rfl
theorem gw_7_88 : Cond.instanceMethod yX5_giveUp ∈ zG := zGt7 (List.mem_of_getElem? (i := 88) (by rfl)) rfl
theorem gw_7_89 : Cond.selects RX5 yX5_giveUp yX5_giveUp ∈ zG := zGt7 (List.mem_of_getElem? (i := 89) (by rfl)) rfl
theorem gw_4_142 : Cond.code yJ4_append_cf468 cJ4_append_cf468 2 (Option.some (Jvm.ClassFile.FieldType.object "java/lang/StringBuilder")) ∈ zG := zGt4 (List.mem_of_getElem? (i := 142) (by rfl)) rfl
theorem gw_5_117 : Cond.methodLink RX8 413 yJ4_append_cf468 ∈ zG := zGt5 (List.mem_of_getElem? (i := 117) (by rfl)) rfl
theorem gw_4_140 : Cond.instanceMethod yJ4_append_cf468 ∈ zG := zGt4 (List.mem_of_getElem? (i := 140) (by rfl)) rfl
theorem gw_4_141 : Cond.selects RJ4 yJ4_append_cf468 yJ4_append_cf468 ∈ zG := zGt4 (List.mem_of_getElem? (i := 141) (by rfl)) rfl
theorem gw_3_173 : Cond.code yJ4_append_bf812 cJ4_append_bf812 2 (Option.some (Jvm.ClassFile.FieldType.object "java/lang/StringBuilder")) ∈ zG := zGt3 (List.mem_of_getElem? (i := 173) (by rfl)) rfl
theorem gw_5_122 : Cond.methodLink RX8 417 yJ4_append_bf812 ∈ zG := zGt5 (List.mem_of_getElem? (i := 122) (by rfl)) rfl
theorem gw_3_171 : Cond.instanceMethod yJ4_append_bf812 ∈ zG := zGt3 (List.mem_of_getElem? (i := 171) (by rfl)) rfl
theorem gw_3_172 : Cond.selects RJ4 yJ4_append_bf812 yJ4_append_bf812 ∈ zG := zGt3 (List.mem_of_getElem? (i := 172) (by rfl)) rfl
theorem gw_8_95 : Cond.methodLink RX9 228 yJ0_length_8abf5 ∈ zG := zGt8 (List.mem_of_getElem? (i := 95) (by rfl)) rfl
theorem gw_8_96 : Cond.methodLink RX9 233 yJ0_charAt_5068e ∈ zG := zGt8 (List.mem_of_getElem? (i := 96) (by rfl)) rfl
theorem gw_8_90 : Cond.code yX9_isWord cX9_isWord 4 (Option.some Jvm.ClassFile.FieldType.boolean) ∈ zG := zGt8 (List.mem_of_getElem? (i := 90) (by rfl)) rfl
theorem gw_8_87 : Cond.methodLink RX9 246 yX9_isWord ∈ zG := zGt8 (List.mem_of_getElem? (i := 87) (by rfl)) rfl
theorem gw_8_89 : Cond.instanceMethod yX9_isWord ∈ zG := zGt8 (List.mem_of_getElem? (i := 89) (by rfl)) rfl
theorem gp_34 : Cond.selects RX9 yX9_isWord yX9_isWord ∈ zG := zGs (List.mem_of_getElem? (i := 34) (by rfl)) rfl
theorem gw_8_113 : Cond.code yX9_number cX9_number 4 (Option.some Jvm.ClassFile.FieldType.int) ∈ zG := zGt8 (List.mem_of_getElem? (i := 113) (by rfl)) rfl
theorem gw_8_110 : Cond.methodLink RX9 250 yX9_number ∈ zG := zGt8 (List.mem_of_getElem? (i := 110) (by rfl)) rfl
theorem gw_8_112 : Cond.instanceMethod yX9_number ∈ zG := zGt8 (List.mem_of_getElem? (i := 112) (by rfl)) rfl
theorem gp_39 : Cond.selects RX9 yX9_number yX9_number ∈ zG := zGs (List.mem_of_getElem? (i := 39) (by rfl)) rfl
theorem gw_8_144 : Cond.code yX9_isKeyword cX9_isKeyword 2 (Option.some Jvm.ClassFile.FieldType.boolean) ∈ zG := zGt8 (List.mem_of_getElem? (i := 144) (by rfl)) rfl
theorem gw_8_141 : Cond.methodLink RX9 273 yX9_isKeyword ∈ zG := zGt8 (List.mem_of_getElem? (i := 141) (by rfl)) rfl
theorem gw_8_143 : Cond.instanceMethod yX9_isKeyword ∈ zG := zGt8 (List.mem_of_getElem? (i := 143) (by rfl)) rfl
theorem gp_46 : Cond.selects RX9 yX9_isKeyword yX9_isKeyword ∈ zG := zGs (List.mem_of_getElem? (i := 46) (by rfl)) rfl
theorem gw_8_109 : Cond.code yX9_numberBehind cX9_numberBehind 4 (Option.some Jvm.ClassFile.FieldType.int) ∈ zG := zGt8 (List.mem_of_getElem? (i := 109) (by rfl)) rfl
theorem gw_8_106 : Cond.methodLink RX9 280 yX9_numberBehind ∈ zG := zGt8 (List.mem_of_getElem? (i := 106) (by rfl)) rfl
theorem gw_8_108 : Cond.instanceMethod yX9_numberBehind ∈ zG := zGt8 (List.mem_of_getElem? (i := 108) (by rfl)) rfl
theorem gp_38 : Cond.selects RX9 yX9_numberBehind yX9_numberBehind ∈ zG := zGs (List.mem_of_getElem? (i := 38) (by rfl)) rfl
theorem gw_8_140 : Cond.code yX9_nameHere cX9_nameHere 1 (Option.some Jvm.ClassFile.FieldType.int) ∈ zG := zGt8 (List.mem_of_getElem? (i := 140) (by rfl)) rfl
theorem gw_8_137 : Cond.methodLink RX9 284 yX9_nameHere ∈ zG := zGt8 (List.mem_of_getElem? (i := 137) (by rfl)) rfl
theorem gw_8_139 : Cond.instanceMethod yX9_nameHere ∈ zG := zGt8 (List.mem_of_getElem? (i := 139) (by rfl)) rfl
theorem gp_45 : Cond.selects RX9 yX9_nameHere yX9_nameHere ∈ zG := zGs (List.mem_of_getElem? (i := 45) (by rfl)) rfl
theorem gw_8_189 : Cond.code yX9_told cX9_told 3 (Option.some Jvm.ClassFile.FieldType.int) ∈ zG := zGt8 (List.mem_of_getElem? (i := 189) (by rfl)) rfl
theorem gw_8_186 : Cond.methodLink RX9 293 yX9_told ∈ zG := zGt8 (List.mem_of_getElem? (i := 186) (by rfl)) rfl
theorem gw_8_188 : Cond.instanceMethod yX9_told ∈ zG := zGt8 (List.mem_of_getElem? (i := 188) (by rfl)) rfl
theorem gp_55 : Cond.selects RX9 yX9_told yX9_told ∈ zG := zGs (List.mem_of_getElem? (i := 55) (by rfl)) rfl
theorem gw_8_132 : Cond.code yX9_parseWorker cX9_parseWorker 6 (Option.none : Option Jvm.ClassFile.FieldType) ∈ zG := zGt8 (List.mem_of_getElem? (i := 132) (by rfl)) rfl
theorem gw_8_129 : Cond.methodLink RX9 300 yX9_parseWorker ∈ zG := zGt8 (List.mem_of_getElem? (i := 129) (by rfl)) rfl
theorem gw_8_131 : Cond.instanceMethod yX9_parseWorker ∈ zG := zGt8 (List.mem_of_getElem? (i := 131) (by rfl)) rfl
theorem gp_43 : Cond.selects RX9 yX9_parseWorker yX9_parseWorker ∈ zG := zGs (List.mem_of_getElem? (i := 43) (by rfl)) rfl
theorem gw_8_169 : Cond.code yX9_parseRows cX9_parseRows 3 (Option.none : Option Jvm.ClassFile.FieldType) ∈ zG := zGt8 (List.mem_of_getElem? (i := 169) (by rfl)) rfl
theorem gw_8_166 : Cond.methodLink RX9 303 yX9_parseRows ∈ zG := zGt8 (List.mem_of_getElem? (i := 166) (by rfl)) rfl
theorem gw_8_168 : Cond.instanceMethod yX9_parseRows ∈ zG := zGt8 (List.mem_of_getElem? (i := 168) (by rfl)) rfl
theorem gp_50 : Cond.selects RX9 yX9_parseRows yX9_parseRows ∈ zG := zGs (List.mem_of_getElem? (i := 50) (by rfl)) rfl
theorem gw_8_185 : Cond.code yX9_parseBar cX9_parseBar 3 (Option.none : Option Jvm.ClassFile.FieldType) ∈ zG := zGt8 (List.mem_of_getElem? (i := 185) (by rfl)) rfl
theorem gw_8_182 : Cond.methodLink RX9 306 yX9_parseBar ∈ zG := zGt8 (List.mem_of_getElem? (i := 182) (by rfl)) rfl
theorem gw_8_184 : Cond.instanceMethod yX9_parseBar ∈ zG := zGt8 (List.mem_of_getElem? (i := 184) (by rfl)) rfl
theorem gp_54 : Cond.selects RX9 yX9_parseBar yX9_parseBar ∈ zG := zGs (List.mem_of_getElem? (i := 54) (by rfl)) rfl
theorem gw_8_123 : Cond.code yX9_semicolon cX9_semicolon 1 (Option.none : Option Jvm.ClassFile.FieldType) ∈ zG := zGt8 (List.mem_of_getElem? (i := 123) (by rfl)) rfl
theorem gw_8_120 : Cond.methodLink RX9 309 yX9_semicolon ∈ zG := zGt8 (List.mem_of_getElem? (i := 120) (by rfl)) rfl
theorem gw_8_122 : Cond.instanceMethod yX9_semicolon ∈ zG := zGt8 (List.mem_of_getElem? (i := 122) (by rfl)) rfl
theorem gp_41 : Cond.selects RX9 yX9_semicolon yX9_semicolon ∈ zG := zGs (List.mem_of_getElem? (i := 41) (by rfl)) rfl
theorem gw_8_85 : Cond.code yX9_parseTable cX9_parseTable 1 (Option.none : Option Jvm.ClassFile.FieldType) ∈ zG := zGt8 (List.mem_of_getElem? (i := 85) (by rfl)) rfl
theorem gw_8_82 : Cond.methodLink RX9 312 yX9_parseTable ∈ zG := zGt8 (List.mem_of_getElem? (i := 82) (by rfl)) rfl
theorem gw_8_84 : Cond.instanceMethod yX9_parseTable ∈ zG := zGt8 (List.mem_of_getElem? (i := 84) (by rfl)) rfl
theorem gp_33 : Cond.selects RX9 yX9_parseTable yX9_parseTable ∈ zG := zGs (List.mem_of_getElem? (i := 33) (by rfl)) rfl
theorem gw_8_127 : Cond.code yX9_parseStatement cX9_parseStatement 1 (Option.none : Option Jvm.ClassFile.FieldType) ∈ zG := zGt8 (List.mem_of_getElem? (i := 127) (by rfl)) rfl
theorem gw_8_124 : Cond.methodLink RX9 315 yX9_parseStatement ∈ zG := zGt8 (List.mem_of_getElem? (i := 124) (by rfl)) rfl
theorem gw_8_126 : Cond.instanceMethod yX9_parseStatement ∈ zG := zGt8 (List.mem_of_getElem? (i := 126) (by rfl)) rfl
theorem gp_42 : Cond.selects RX9 yX9_parseStatement yX9_parseStatement ∈ zG := zGs (List.mem_of_getElem? (i := 42) (by rfl)) rfl
theorem gw_3_135 : Cond.methodLink RJ5 32 yJ0_length_8abf5 ∈ zG := zGt3 (List.mem_of_getElem? (i := 135) (by rfl)) rfl
theorem gw_3_139 : Cond.code yJ5_putStringAt_47b60 cJ5_putStringAt_47b60 3 (Option.none : Option Jvm.ClassFile.FieldType) ∈ zG := zGt3 (List.mem_of_getElem? (i := 139) (by rfl)) rfl
theorem gw_3_136 : Cond.methodLink RJ5 208 yJ5_putStringAt_47b60 ∈ zG := zGt3 (List.mem_of_getElem? (i := 136) (by rfl)) rfl
theorem gw_3_138 : Cond.instanceMethod yJ5_putStringAt_47b60 ∈ zG := zGt3 (List.mem_of_getElem? (i := 138) (by rfl)) rfl
theorem gx_3 : Cond.selects RJ4 yJ5_putStringAt_47b60 yJ5_putStringAt_47b60 ∈ zG := zGx (List.mem_of_getElem? (i := 3) (by rfl)) rfl
theorem gw_3_206 : Cond.code yJ0_init_db425 cJ0_init_db425 5 (Option.none : Option Jvm.ClassFile.FieldType) ∈ zG := zGt3 (List.mem_of_getElem? (i := 206) (by rfl)) rfl
theorem gw_3_204 : Cond.methodLink RJ0 489 yJ0_init_db425 ∈ zG := zGt3 (List.mem_of_getElem? (i := 204) (by rfl)) rfl
theorem gw_3_205 : Cond.instanceMethod yJ0_init_db425 ∈ zG := zGt3 (List.mem_of_getElem? (i := 205) (by rfl)) rfl
theorem gw_3_75 : Cond.code yJ5_append_cf1ce cJ5_append_cf1ce 3 (Option.some (Jvm.ClassFile.FieldType.object "java/lang/AbstractStringBuilder")) ∈ zG := zGt3 (List.mem_of_getElem? (i := 75) (by rfl)) rfl
theorem gw_3_73 : Cond.methodLink RJ4 29 yJ5_append_cf1ce ∈ zG := zGt3 (List.mem_of_getElem? (i := 73) (by rfl)) rfl
theorem gw_3_74 : Cond.instanceMethod yJ5_append_cf1ce ∈ zG := zGt3 (List.mem_of_getElem? (i := 74) (by rfl)) rfl
theorem gw_10_173 : Cond.sameMethod yJ5_append_cf1ce.cls yJ5_append_cf1ce.cls yJ5_append_cf1ce.name yJ5_append_cf1ce.desc ∈ zG := zGt10 (List.mem_of_getElem? (i := 173) (by rfl)) rfl
theorem gw_3_199 : Cond.classLink RJ4 18 RJ0 ∈ zG := zGt3 (List.mem_of_getElem? (i := 199) (by rfl)) rfl
theorem gw_3_200 : Cond.instantiable RJ0 4 ∈ zG := zGt3 (List.mem_of_getElem? (i := 200) (by rfl)) rfl
theorem gw_3_203 : Cond.code yJ0_init_81219 cJ0_init_81219 2 (Option.none : Option Jvm.ClassFile.FieldType) ∈ zG := zGt3 (List.mem_of_getElem? (i := 203) (by rfl)) rfl
theorem gw_3_201 : Cond.methodLink RJ4 137 yJ0_init_81219 ∈ zG := zGt3 (List.mem_of_getElem? (i := 201) (by rfl)) rfl
theorem gw_3_202 : Cond.instanceMethod yJ0_init_81219 ∈ zG := zGt3 (List.mem_of_getElem? (i := 202) (by rfl)) rfl
theorem gw_3_57 : Cond.code yJ4_setLength_d00df cJ4_setLength_d00df 2 (Option.none : Option Jvm.ClassFile.FieldType) ∈ zG := zGt3 (List.mem_of_getElem? (i := 57) (by rfl)) rfl
theorem gw_3_54 : Cond.methodLink RX1 35 yJ4_setLength_d00df ∈ zG := zGt3 (List.mem_of_getElem? (i := 54) (by rfl)) rfl
theorem gw_3_55 : Cond.instanceMethod yJ4_setLength_d00df ∈ zG := zGt3 (List.mem_of_getElem? (i := 55) (by rfl)) rfl
theorem gw_3_56 : Cond.selects RJ4 yJ4_setLength_d00df yJ4_setLength_d00df ∈ zG := zGt3 (List.mem_of_getElem? (i := 56) (by rfl)) rfl
theorem gw_4_137 : Cond.methodLink RX1 39 Lib.Math.max.name ∈ zG := zGt4 (List.mem_of_getElem? (i := 137) (by rfl)) rfl
theorem gw_4_138 : Cond.methodLink RX1 45 Lib.Math.min.name ∈ zG := zGt4 (List.mem_of_getElem? (i := 138) (by rfl)) rfl
theorem gw_4_139 : Cond.methodLink RX1 48 yJ4_append_cf468 ∈ zG := zGt4 (List.mem_of_getElem? (i := 139) (by rfl)) rfl
theorem gw_3_198 : Cond.code yJ4_toString_0e30d cJ4_toString_0e30d 1 (Option.some (Jvm.ClassFile.FieldType.object "java/lang/String")) ∈ zG := zGt3 (List.mem_of_getElem? (i := 198) (by rfl)) rfl
theorem gw_4_152 : Cond.methodLink RX1 52 yJ4_toString_0e30d ∈ zG := zGt4 (List.mem_of_getElem? (i := 152) (by rfl)) rfl
theorem gw_3_196 : Cond.instanceMethod yJ4_toString_0e30d ∈ zG := zGt3 (List.mem_of_getElem? (i := 196) (by rfl)) rfl
theorem gw_3_197 : Cond.selects RJ4 yJ4_toString_0e30d yJ4_toString_0e30d ∈ zG := zGt3 (List.mem_of_getElem? (i := 197) (by rfl)) rfl
theorem gw_3_42 : Cond.code yX3_isAtName cX3_isAtName 5 (Option.some Jvm.ClassFile.FieldType.boolean) ∈ zG := zGt3 (List.mem_of_getElem? (i := 42) (by rfl)) rfl
theorem gw_3_39 : Cond.methodLink RX3 117 yX3_isAtName ∈ zG := zGt3 (List.mem_of_getElem? (i := 39) (by rfl)) rfl
theorem gw_3_41 : Cond.instanceMethod yX3_isAtName ∈ zG := zGt3 (List.mem_of_getElem? (i := 41) (by rfl)) rfl
theorem gp_12 : Cond.selects RX3 yX3_isAtName yX3_isAtName ∈ zG := zGs (List.mem_of_getElem? (i := 12) (by rfl)) rfl
theorem gw_3_45 : Cond.methodLink RX3 123 yX5_workerNamed ∈ zG := zGt3 (List.mem_of_getElem? (i := 45) (by rfl)) rfl
theorem gw_7_52 : Cond.code yX5_letPass cX5_letPass 4 (Option.some Jvm.ClassFile.FieldType.int) ∈ zG := zGt7 (List.mem_of_getElem? (i := 52) (by rfl)) rfl
theorem gw_7_49 : Cond.methodLink RX8 322 yX5_letPass ∈ zG := zGt7 (List.mem_of_getElem? (i := 49) (by rfl)) rfl
theorem gw_7_50 : Cond.instanceMethod yX5_letPass ∈ zG := zGt7 (List.mem_of_getElem? (i := 50) (by rfl)) rfl
theorem gw_7_51 : Cond.selects RX5 yX5_letPass yX5_letPass ∈ zG := zGt7 (List.mem_of_getElem? (i := 51) (by rfl)) rfl
theorem gw_5_112 : Cond.methodLink RX8 375 yJ4_setLength_d00df ∈ zG := zGt5 (List.mem_of_getElem? (i := 112) (by rfl)) rfl
theorem gw_5_116 : Cond.code yX8_separate cX8_separate 2 (Option.none : Option Jvm.ClassFile.FieldType) ∈ zG := zGt5 (List.mem_of_getElem? (i := 116) (by rfl)) rfl
theorem gw_5_113 : Cond.methodLink RX8 378 yX8_separate ∈ zG := zGt5 (List.mem_of_getElem? (i := 113) (by rfl)) rfl
theorem gw_5_115 : Cond.instanceMethod yX8_separate ∈ zG := zGt5 (List.mem_of_getElem? (i := 115) (by rfl)) rfl
theorem gp_17 : Cond.selects RX8 yX8_separate yX8_separate ∈ zG := zGs (List.mem_of_getElem? (i := 17) (by rfl)) rfl
theorem gw_5_121 : Cond.code yX8_putRowState cX8_putRowState 2 (Option.none : Option Jvm.ClassFile.FieldType) ∈ zG := zGt5 (List.mem_of_getElem? (i := 121) (by rfl)) rfl
theorem gw_5_118 : Cond.methodLink RX8 381 yX8_putRowState ∈ zG := zGt5 (List.mem_of_getElem? (i := 118) (by rfl)) rfl
theorem gw_5_120 : Cond.instanceMethod yX8_putRowState ∈ zG := zGt5 (List.mem_of_getElem? (i := 120) (by rfl)) rfl
theorem gp_18 : Cond.selects RX8 yX8_putRowState yX8_putRowState ∈ zG := zGs (List.mem_of_getElem? (i := 18) (by rfl)) rfl
theorem gw_5_123 : Cond.methodLink RX8 385 yJ4_length_8abf5 ∈ zG := zGt5 (List.mem_of_getElem? (i := 123) (by rfl)) rfl
theorem gw_10_183 : Cond.selects RJ4 yJ4_length_8abf5 yJ4_length_8abf5 ∈ zG := zGt10 (List.mem_of_getElem? (i := 183) (by rfl)) rfl
theorem gw_1_118 : Cond.fieldLink RX8 420 (TX7 0).1 (TX7 0).2.1 (TX7 0).2.2.1 ∈ zG := zGt1 (List.mem_of_getElem? (i := 118) (by rfl)) rfl
theorem gw_3_72 : Cond.code yJ4_append_15ec4 cJ4_append_15ec4 2 (Option.some (Jvm.ClassFile.FieldType.object "java/lang/StringBuilder")) ∈ zG := zGt3 (List.mem_of_getElem? (i := 72) (by rfl)) rfl
theorem gw_5_132 : Cond.methodLink RX8 424 yJ4_append_15ec4 ∈ zG := zGt5 (List.mem_of_getElem? (i := 132) (by rfl)) rfl
theorem gw_3_70 : Cond.instanceMethod yJ4_append_15ec4 ∈ zG := zGt3 (List.mem_of_getElem? (i := 70) (by rfl)) rfl
theorem gw_3_71 : Cond.selects RJ4 yJ4_append_15ec4 yJ4_append_15ec4 ∈ zG := zGt3 (List.mem_of_getElem? (i := 71) (by rfl)) rfl
theorem gw_2_186 : Cond.fieldLink RX3 51 "ReviewTable$Keyword" "TABLE" "LReviewTable$Keyword;" ∈ zG := zGt2 (List.mem_of_getElem? (i := 186) (by rfl)) rfl
theorem gw_2_191 : Cond.code yX3_readKeyword cX3_readKeyword 2 (Option.some Jvm.ClassFile.FieldType.boolean) ∈ zG := zGt2 (List.mem_of_getElem? (i := 191) (by rfl)) rfl
theorem gw_2_188 : Cond.methodLink RX3 57 yX3_readKeyword ∈ zG := zGt2 (List.mem_of_getElem? (i := 188) (by rfl)) rfl
theorem gw_2_190 : Cond.instanceMethod yX3_readKeyword ∈ zG := zGt2 (List.mem_of_getElem? (i := 190) (by rfl)) rfl
theorem gp_4 : Cond.selects RX3 yX3_readKeyword yX3_readKeyword ∈ zG := zGs (List.mem_of_getElem? (i := 4) (by rfl)) rfl
theorem gw_3_11 : Cond.fieldLink RX3 61 "ReviewTable$Keyword" "TOLERANCE" "LReviewTable$Keyword;" ∈ zG := zGt3 (List.mem_of_getElem? (i := 11) (by rfl)) rfl
theorem gw_3_16 : Cond.code yX3_readNumber cX3_readNumber 3 (Option.some Jvm.ClassFile.FieldType.boolean) ∈ zG := zGt3 (List.mem_of_getElem? (i := 16) (by rfl)) rfl
theorem gw_3_13 : Cond.methodLink RX3 64 yX3_readNumber ∈ zG := zGt3 (List.mem_of_getElem? (i := 13) (by rfl)) rfl
theorem gw_3_15 : Cond.instanceMethod yX3_readNumber ∈ zG := zGt3 (List.mem_of_getElem? (i := 15) (by rfl)) rfl
theorem gp_7 : Cond.selects RX3 yX3_readNumber yX3_readNumber ∈ zG := zGs (List.mem_of_getElem? (i := 7) (by rfl)) rfl
theorem gw_1_225 : Cond.fieldLink RX3 71 (TX5 0).1 (TX5 0).2.1 (TX5 0).2.2.1 ∈ zG := zGt1 (List.mem_of_getElem? (i := 225) (by rfl)) rfl
theorem gw_3_21 : Cond.fieldLink RX3 74 "ReviewTable$Keyword" "PATIENCE" "LReviewTable$Keyword;" ∈ zG := zGt3 (List.mem_of_getElem? (i := 21) (by rfl)) rfl
theorem gw_1_228 : Cond.fieldLink RX3 77 (TX5 1).1 (TX5 1).2.1 (TX5 1).2.2.1 ∈ zG := zGt1 (List.mem_of_getElem? (i := 228) (by rfl)) rfl
theorem gw_3_23 : Cond.fieldLink RX3 80 "ReviewTable$Keyword" "LEAST" "LReviewTable$Keyword;" ∈ zG := zGt3 (List.mem_of_getElem? (i := 23) (by rfl)) rfl
theorem gw_1_231 : Cond.fieldLink RX3 83 (TX5 2).1 (TX5 2).2.1 (TX5 2).2.2.1 ∈ zG := zGt1 (List.mem_of_getElem? (i := 231) (by rfl)) rfl
theorem gw_3_28 : Cond.code yX3_readSemicolon cX3_readSemicolon 1 (Option.some Jvm.ClassFile.FieldType.boolean) ∈ zG := zGt3 (List.mem_of_getElem? (i := 28) (by rfl)) rfl
theorem gw_3_25 : Cond.methodLink RX3 86 yX3_readSemicolon ∈ zG := zGt3 (List.mem_of_getElem? (i := 25) (by rfl)) rfl
theorem gw_3_27 : Cond.instanceMethod yX3_readSemicolon ∈ zG := zGt3 (List.mem_of_getElem? (i := 27) (by rfl)) rfl
theorem gp_9 : Cond.selects RX3 yX3_readSemicolon yX3_readSemicolon ∈ zG := zGs (List.mem_of_getElem? (i := 9) (by rfl)) rfl
theorem gw_1_237 : Cond.fieldLink RX3 114 (TX5 4).1 (TX5 4).2.1 (TX5 4).2.2.1 ∈ zG := zGt1 (List.mem_of_getElem? (i := 237) (by rfl)) rfl
theorem gw_3_53 : Cond.code yX1_textBetween cX1_textBetween 4 (Option.some (Jvm.ClassFile.FieldType.object "java/lang/String")) ∈ zG := zGt3 (List.mem_of_getElem? (i := 53) (by rfl)) rfl
theorem gw_3_50 : Cond.methodLink RX3 127 yX1_textBetween ∈ zG := zGt3 (List.mem_of_getElem? (i := 50) (by rfl)) rfl
theorem gw_3_51 : Cond.instanceMethod yX1_textBetween ∈ zG := zGt3 (List.mem_of_getElem? (i := 51) (by rfl)) rfl
theorem gw_3_52 : Cond.selects RX1 yX1_textBetween yX1_textBetween ∈ zG := zGt3 (List.mem_of_getElem? (i := 52) (by rfl)) rfl
theorem gw_4_153 : Cond.fieldLink RX3 131 "ReviewTable$Keyword" "TEAM" "LReviewTable$Keyword;" ∈ zG := zGt4 (List.mem_of_getElem? (i := 153) (by rfl)) rfl
theorem gw_4_155 : Cond.fieldLink RX3 134 "ReviewTable$Keyword" "QUOTA" "LReviewTable$Keyword;" ∈ zG := zGt4 (List.mem_of_getElem? (i := 155) (by rfl)) rfl
theorem gw_4_157 : Cond.fieldLink RX3 137 "ReviewTable$Keyword" "TRUST" "LReviewTable$Keyword;" ∈ zG := zGt4 (List.mem_of_getElem? (i := 157) (by rfl)) rfl
theorem gw_4_162 : Cond.code yX5_putWorker cX5_putWorker 5 (Option.none : Option Jvm.ClassFile.FieldType) ∈ zG := zGt4 (List.mem_of_getElem? (i := 162) (by rfl)) rfl
theorem gw_4_159 : Cond.methodLink RX3 140 yX5_putWorker ∈ zG := zGt4 (List.mem_of_getElem? (i := 159) (by rfl)) rfl
theorem gw_4_160 : Cond.instanceMethod yX5_putWorker ∈ zG := zGt4 (List.mem_of_getElem? (i := 160) (by rfl)) rfl
theorem gw_4_161 : Cond.selects RX5 yX5_putWorker yX5_putWorker ∈ zG := zGt4 (List.mem_of_getElem? (i := 161) (by rfl)) rfl
theorem gw_4_173 : Cond.methodLink RX3 150 yX5_hasRoomFor ∈ zG := zGt4 (List.mem_of_getElem? (i := 173) (by rfl)) rfl
theorem gw_4_177 : Cond.fieldLink RX3 153 "ReviewTable$Keyword" "SIZE" "LReviewTable$Keyword;" ∈ zG := zGt4 (List.mem_of_getElem? (i := 177) (by rfl)) rfl
theorem gw_4_179 : Cond.methodLink RX3 156 yX5_putRows ∈ zG := zGt4 (List.mem_of_getElem? (i := 179) (by rfl)) rfl
theorem gw_4_196 : Cond.code yX3_readKnownName cX3_readKnownName 1 (Option.some Jvm.ClassFile.FieldType.boolean) ∈ zG := zGt4 (List.mem_of_getElem? (i := 196) (by rfl)) rfl
theorem gw_4_193 : Cond.methodLink RX3 160 yX3_readKnownName ∈ zG := zGt4 (List.mem_of_getElem? (i := 193) (by rfl)) rfl
theorem gw_4_195 : Cond.instanceMethod yX3_readKnownName ∈ zG := zGt4 (List.mem_of_getElem? (i := 195) (by rfl)) rfl
theorem gp_16 : Cond.selects RX3 yX3_readKnownName yX3_readKnownName ∈ zG := zGs (List.mem_of_getElem? (i := 16) (by rfl)) rfl
theorem gw_4_197 : Cond.methodLink RX3 163 yX5_areKeptApart ∈ zG := zGt4 (List.mem_of_getElem? (i := 197) (by rfl)) rfl
theorem gw_4_204 : Cond.methodLink RX3 166 yX5_tellApart ∈ zG := zGt4 (List.mem_of_getElem? (i := 204) (by rfl)) rfl
theorem gw_7_170 : Cond.code yX8_putTaking cX8_putTaking 3 (Option.none : Option Jvm.ClassFile.FieldType) ∈ zG := zGt7 (List.mem_of_getElem? (i := 170) (by rfl)) rfl
theorem gw_7_167 : Cond.methodLink RX8 387 yX8_putTaking ∈ zG := zGt7 (List.mem_of_getElem? (i := 167) (by rfl)) rfl
theorem gw_7_169 : Cond.instanceMethod yX8_putTaking ∈ zG := zGt7 (List.mem_of_getElem? (i := 169) (by rfl)) rfl
theorem gp_27 : Cond.selects RX8 yX8_putTaking yX8_putTaking ∈ zG := zGs (List.mem_of_getElem? (i := 27) (by rfl)) rfl
theorem gw_5_131 : Cond.code yX8_putWorker cX8_putWorker 3 (Option.none : Option Jvm.ClassFile.FieldType) ∈ zG := zGt5 (List.mem_of_getElem? (i := 131) (by rfl)) rfl
theorem gw_5_128 : Cond.methodLink RX8 391 yX8_putWorker ∈ zG := zGt5 (List.mem_of_getElem? (i := 128) (by rfl)) rfl
theorem gw_5_130 : Cond.instanceMethod yX8_putWorker ∈ zG := zGt5 (List.mem_of_getElem? (i := 130) (by rfl)) rfl
theorem gp_19 : Cond.selects RX8 yX8_putWorker yX8_putWorker ∈ zG := zGs (List.mem_of_getElem? (i := 19) (by rfl)) rfl
theorem gw_3_33 : Cond.fieldLink RX3 89 "ReviewTable$Keyword" "WORKER" "LReviewTable$Keyword;" ∈ zG := zGt3 (List.mem_of_getElem? (i := 33) (by rfl)) rfl
theorem gw_3_38 : Cond.code yX3_readWorkerStatement cX3_readWorkerStatement 5 (Option.some Jvm.ClassFile.FieldType.boolean) ∈ zG := zGt3 (List.mem_of_getElem? (i := 38) (by rfl)) rfl
theorem gw_3_35 : Cond.methodLink RX3 95 yX3_readWorkerStatement ∈ zG := zGt3 (List.mem_of_getElem? (i := 35) (by rfl)) rfl
theorem gw_3_37 : Cond.instanceMethod yX3_readWorkerStatement ∈ zG := zGt3 (List.mem_of_getElem? (i := 37) (by rfl)) rfl
theorem gp_11 : Cond.selects RX3 yX3_readWorkerStatement yX3_readWorkerStatement ∈ zG := zGs (List.mem_of_getElem? (i := 11) (by rfl)) rfl
theorem gw_4_167 : Cond.fieldLink RX3 98 "ReviewTable$Keyword" "ROWS" "LReviewTable$Keyword;" ∈ zG := zGt4 (List.mem_of_getElem? (i := 167) (by rfl)) rfl
theorem gw_4_172 : Cond.code yX3_readRowsStatement cX3_readRowsStatement 2 (Option.some Jvm.ClassFile.FieldType.boolean) ∈ zG := zGt4 (List.mem_of_getElem? (i := 172) (by rfl)) rfl
theorem gw_4_169 : Cond.methodLink RX3 101 yX3_readRowsStatement ∈ zG := zGt4 (List.mem_of_getElem? (i := 169) (by rfl)) rfl
theorem gw_4_171 : Cond.instanceMethod yX3_readRowsStatement ∈ zG := zGt4 (List.mem_of_getElem? (i := 171) (by rfl)) rfl
theorem gp_14 : Cond.selects RX3 yX3_readRowsStatement yX3_readRowsStatement ∈ zG := zGs (List.mem_of_getElem? (i := 14) (by rfl)) rfl
theorem gw_4_187 : Cond.fieldLink RX3 104 "ReviewTable$Keyword" "BAR" "LReviewTable$Keyword;" ∈ zG := zGt4 (List.mem_of_getElem? (i := 187) (by rfl)) rfl
theorem gw_4_192 : Cond.code yX3_readBarStatement cX3_readBarStatement 3 (Option.some Jvm.ClassFile.FieldType.boolean) ∈ zG := zGt4 (List.mem_of_getElem? (i := 192) (by rfl)) rfl
theorem gw_4_189 : Cond.methodLink RX3 107 yX3_readBarStatement ∈ zG := zGt4 (List.mem_of_getElem? (i := 189) (by rfl)) rfl
theorem gw_4_191 : Cond.instanceMethod yX3_readBarStatement ∈ zG := zGt4 (List.mem_of_getElem? (i := 191) (by rfl)) rfl
theorem gp_15 : Cond.selects RX3 yX3_readBarStatement yX3_readBarStatement ∈ zG := zGs (List.mem_of_getElem? (i := 15) (by rfl)) rfl
theorem gw_2_163 : Cond.code yX5_clear cX5_clear 1 (Option.none : Option Jvm.ClassFile.FieldType) ∈ zG := zGt2 (List.mem_of_getElem? (i := 163) (by rfl)) rfl
theorem gw_2_160 : Cond.methodLink RX3 35 yX5_clear ∈ zG := zGt2 (List.mem_of_getElem? (i := 160) (by rfl)) rfl
theorem gw_2_161 : Cond.instanceMethod yX5_clear ∈ zG := zGt2 (List.mem_of_getElem? (i := 161) (by rfl)) rfl
theorem gw_2_162 : Cond.selects RX5 yX5_clear yX5_clear ∈ zG := zGt2 (List.mem_of_getElem? (i := 162) (by rfl)) rfl
theorem gw_2_185 : Cond.code yX3_readTableStatement cX3_readTableStatement 1 (Option.some Jvm.ClassFile.FieldType.boolean) ∈ zG := zGt2 (List.mem_of_getElem? (i := 185) (by rfl)) rfl
theorem gw_2_182 : Cond.methodLink RX3 41 yX3_readTableStatement ∈ zG := zGt2 (List.mem_of_getElem? (i := 182) (by rfl)) rfl
theorem gw_2_184 : Cond.instanceMethod yX3_readTableStatement ∈ zG := zGt2 (List.mem_of_getElem? (i := 184) (by rfl)) rfl
theorem gp_3 : Cond.selects RX3 yX3_readTableStatement yX3_readTableStatement ∈ zG := zGs (List.mem_of_getElem? (i := 3) (by rfl)) rfl
theorem gw_3_32 : Cond.code yX3_readStatement cX3_readStatement 1 (Option.some Jvm.ClassFile.FieldType.boolean) ∈ zG := zGt3 (List.mem_of_getElem? (i := 32) (by rfl)) rfl
theorem gw_3_29 : Cond.methodLink RX3 48 yX3_readStatement ∈ zG := zGt3 (List.mem_of_getElem? (i := 29) (by rfl)) rfl
theorem gw_3_31 : Cond.instanceMethod yX3_readStatement ∈ zG := zGt3 (List.mem_of_getElem? (i := 31) (by rfl)) rfl
theorem gp_10 : Cond.selects RX3 yX3_readStatement yX3_readStatement ∈ zG := zGs (List.mem_of_getElem? (i := 10) (by rfl)) rfl
theorem gw_2_159 : Cond.code yX3_parseText cX3_parseText 2 (Option.some Jvm.ClassFile.FieldType.boolean) ∈ zG := zGt2 (List.mem_of_getElem? (i := 159) (by rfl)) rfl
theorem gw_2_156 : Cond.methodLink RX8 84 yX3_parseText ∈ zG := zGt2 (List.mem_of_getElem? (i := 156) (by rfl)) rfl
theorem gw_2_157 : Cond.instanceMethod yX3_parseText ∈ zG := zGt2 (List.mem_of_getElem? (i := 157) (by rfl)) rfl
theorem gw_2_158 : Cond.selects RX3 yX3_parseText yX3_parseText ∈ zG := zGt2 (List.mem_of_getElem? (i := 158) (by rfl)) rfl
theorem gw_2_30 : Cond.fieldLink RX8 88 (TX3 0).1 (TX3 0).2.1 (TX3 0).2.2.1 ∈ zG := zGt2 (List.mem_of_getElem? (i := 30) (by rfl)) rfl
theorem gw_2_32 : Cond.fieldLink RX8 91 (TX3 1).1 (TX3 1).2.1 (TX3 1).2.2.1 ∈ zG := zGt2 (List.mem_of_getElem? (i := 32) (by rfl)) rfl
theorem gw_2_36 : Cond.fieldLink RX8 98 (TX3 3).1 (TX3 3).2.1 (TX3 3).2.2.1 ∈ zG := zGt2 (List.mem_of_getElem? (i := 36) (by rfl)) rfl
