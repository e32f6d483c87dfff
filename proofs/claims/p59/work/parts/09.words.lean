/-! the words, by their places in the tables -/
theorem zFilt {L : List Cond} (h : ∀ w ∈ L.filter goodWord, w ∈ lw_tbl) : ∀ w ∈ L.filter goodWord, w ∈ zG := fun w hw => List.mem_filter.mpr ⟨h w hw, (List.mem_filter.mp hw).2⟩
theorem gw_1_85 : Cond.fieldLink RX1 15 (TX1 1).1 (TX1 1).2.1 (TX1 1).2.2.1 ∈ zG := zGt1 (List.mem_of_getElem? (i := 85) (by rfl)) rfl
theorem gw_1_89 : Cond.laysFinal RX1 "ReviewTable$Input" "bytes" "[I" ∈ zG := zGt1 (List.mem_of_getElem? (i := 89) (by rfl)) rfl
theorem gw_1_91 : Cond.lays RX1 "ReviewTable$Input" "length" "I" ∈ zG := zGt1 (List.mem_of_getElem? (i := 91) (by rfl)) rfl
theorem gw_1_93 : Cond.laysFinal RX1 "ReviewTable$Input" "text" "Ljava/lang/StringBuilder;" ∈ zG := zGt1 (List.mem_of_getElem? (i := 93) (by rfl)) rfl
theorem ui_X1 : ∀ w ∈ u_ws RX1 TX1 3, w ∈ zG := show ∀ w ∈ [Cond.laysFinal RX1 "ReviewTable$Input" "bytes" "[I", Cond.lays RX1 "ReviewTable$Input" "length" "I", Cond.laysFinal RX1 "ReviewTable$Input" "text" "Ljava/lang/StringBuilder;"], w ∈ zG from List.forall_mem_cons.mpr ⟨gw_1_89, List.forall_mem_cons.mpr ⟨gw_1_91, List.forall_mem_cons.mpr ⟨gw_1_93, fun _ h => nomatch h⟩⟩⟩
theorem zc_X1 : zcl2 5 RX1 TX1 3 := ⟨rfl, by decide⟩
theorem gw_1_83 : Cond.fieldLink RX1 9 (TX1 0).1 (TX1 0).2.1 (TX1 0).2.2.1 ∈ zG := zGt1 (List.mem_of_getElem? (i := 83) (by rfl)) rfl
theorem gw_2_23 : Cond.fieldLink RX3 25 (TX3 0).1 (TX3 0).2.1 (TX3 0).2.2.1 ∈ zG := zGt2 (List.mem_of_getElem? (i := 23) (by rfl)) rfl
theorem gw_2_36 : Cond.lays RX3 "ReviewTable$Parser" "code" "I" ∈ zG := zGt2 (List.mem_of_getElem? (i := 36) (by rfl)) rfl
theorem gw_2_38 : Cond.lays RX3 "ReviewTable$Parser" "codePosition" "I" ∈ zG := zGt2 (List.mem_of_getElem? (i := 38) (by rfl)) rfl
theorem gw_2_40 : Cond.laysFinal RX3 "ReviewTable$Parser" "input" "LReviewTable$Input;" ∈ zG := zGt2 (List.mem_of_getElem? (i := 40) (by rfl)) rfl
theorem gw_2_42 : Cond.laysFinal RX3 "ReviewTable$Parser" "draft" "LReviewTable$Table;" ∈ zG := zGt2 (List.mem_of_getElem? (i := 42) (by rfl)) rfl
theorem gw_2_44 : Cond.lays RX3 "ReviewTable$Parser" "kind" "I" ∈ zG := zGt2 (List.mem_of_getElem? (i := 44) (by rfl)) rfl
theorem gw_2_46 : Cond.lays RX3 "ReviewTable$Parser" "start" "I" ∈ zG := zGt2 (List.mem_of_getElem? (i := 46) (by rfl)) rfl
theorem gw_2_48 : Cond.lays RX3 "ReviewTable$Parser" "end" "I" ∈ zG := zGt2 (List.mem_of_getElem? (i := 48) (by rfl)) rfl
theorem gw_2_50 : Cond.lays RX3 "ReviewTable$Parser" "value" "I" ∈ zG := zGt2 (List.mem_of_getElem? (i := 50) (by rfl)) rfl
theorem gw_2_52 : Cond.lays RX3 "ReviewTable$Parser" "accepted" "I" ∈ zG := zGt2 (List.mem_of_getElem? (i := 52) (by rfl)) rfl
theorem ui_X3 : ∀ w ∈ u_ws RX3 TX3 9, w ∈ zG := show ∀ w ∈ [Cond.lays RX3 "ReviewTable$Parser" "code" "I", Cond.lays RX3 "ReviewTable$Parser" "codePosition" "I", Cond.laysFinal RX3 "ReviewTable$Parser" "input" "LReviewTable$Input;", Cond.laysFinal RX3 "ReviewTable$Parser" "draft" "LReviewTable$Table;", Cond.lays RX3 "ReviewTable$Parser" "kind" "I", Cond.lays RX3 "ReviewTable$Parser" "start" "I", Cond.lays RX3 "ReviewTable$Parser" "end" "I", Cond.lays RX3 "ReviewTable$Parser" "value" "I", Cond.lays RX3 "ReviewTable$Parser" "accepted" "I"], w ∈ zG from List.forall_mem_cons.mpr ⟨gw_2_36, List.forall_mem_cons.mpr ⟨gw_2_38, List.forall_mem_cons.mpr ⟨gw_2_40, List.forall_mem_cons.mpr ⟨gw_2_42, List.forall_mem_cons.mpr ⟨gw_2_44, List.forall_mem_cons.mpr ⟨gw_2_46, List.forall_mem_cons.mpr ⟨gw_2_48, List.forall_mem_cons.mpr ⟨gw_2_50, List.forall_mem_cons.mpr ⟨gw_2_52, fun _ h => nomatch h⟩⟩⟩⟩⟩⟩⟩⟩⟩
theorem zc_X3 : zcl2 6 RX3 TX3 9 := ⟨rfl, by decide⟩
theorem gw_2_32 : Cond.fieldLink RX3 120 (TX3 5).1 (TX3 5).2.1 (TX3 5).2.2.1 ∈ zG := zGt2 (List.mem_of_getElem? (i := 32) (by rfl)) rfl
theorem gw_2_25 : Cond.fieldLink RX3 29 (TX3 1).1 (TX3 1).2.1 (TX3 1).2.2.1 ∈ zG := zGt2 (List.mem_of_getElem? (i := 25) (by rfl)) rfl
theorem gw_2_34 : Cond.fieldLink RX3 147 (TX3 7).1 (TX3 7).2.1 (TX3 7).2.2.1 ∈ zG := zGt2 (List.mem_of_getElem? (i := 34) (by rfl)) rfl
theorem gw_2_33 : Cond.fieldLink RX3 32 (TX3 6).1 (TX3 6).2.1 (TX3 6).2.2.1 ∈ zG := zGt2 (List.mem_of_getElem? (i := 33) (by rfl)) rfl
theorem gw_2_27 : Cond.fieldLink RX3 12 (TX3 2).1 (TX3 2).2.1 (TX3 2).2.2.1 ∈ zG := zGt2 (List.mem_of_getElem? (i := 27) (by rfl)) rfl
theorem gw_1_84 : Cond.fieldLink RX3 170 (TX1 0).1 (TX1 0).2.1 (TX1 0).2.2.1 ∈ zG := zGt1 (List.mem_of_getElem? (i := 84) (by rfl)) rfl
theorem gw_1_87 : Cond.fieldLink RX3 186 (TX1 1).1 (TX1 1).2.1 (TX1 1).2.2.1 ∈ zG := zGt1 (List.mem_of_getElem? (i := 87) (by rfl)) rfl
theorem gw_1_167 : Cond.methodLink RX4 3 Lib.objectInit ∈ zG := zGt1 (List.mem_of_getElem? (i := 167) (by rfl)) rfl
theorem gw_1_35 : Cond.instanceMethod Lib.objectInit ∈ zG := zGt1 (List.mem_of_getElem? (i := 35) (by rfl)) rfl
theorem gw_1_36 : Cond.code Lib.objectInit ⟨#[0xb1]⟩ 1 none ∈ zG := zGt1 (List.mem_of_getElem? (i := 36) (by rfl)) rfl
theorem gw_1_175 : Cond.fieldLink RX4 9 (TX4 2).1 (TX4 2).2.1 (TX4 2).2.2.1 ∈ zG := zGt1 (List.mem_of_getElem? (i := 175) (by rfl)) rfl
theorem gw_1_197 : Cond.lays RX4 "ReviewTable$Row" "size" "I" ∈ zG := zGt1 (List.mem_of_getElem? (i := 197) (by rfl)) rfl
theorem gw_1_199 : Cond.lays RX4 "ReviewTable$Row" "state" "I" ∈ zG := zGt1 (List.mem_of_getElem? (i := 199) (by rfl)) rfl
theorem gw_1_201 : Cond.lays RX4 "ReviewTable$Row" "result" "I" ∈ zG := zGt1 (List.mem_of_getElem? (i := 201) (by rfl)) rfl
theorem gw_1_203 : Cond.lays RX4 "ReviewTable$Row" "audited" "Z" ∈ zG := zGt1 (List.mem_of_getElem? (i := 203) (by rfl)) rfl
theorem gw_1_205 : Cond.lays RX4 "ReviewTable$Row" "rightNumber" "I" ∈ zG := zGt1 (List.mem_of_getElem? (i := 205) (by rfl)) rfl
theorem gw_1_207 : Cond.lays RX4 "ReviewTable$Row" "tookBefore" "I" ∈ zG := zGt1 (List.mem_of_getElem? (i := 207) (by rfl)) rfl
theorem gw_1_209 : Cond.lays RX4 "ReviewTable$Row" "firstFinisher" "I" ∈ zG := zGt1 (List.mem_of_getElem? (i := 209) (by rfl)) rfl
theorem gw_1_211 : Cond.lays RX4 "ReviewTable$Row" "secondFinisher" "I" ∈ zG := zGt1 (List.mem_of_getElem? (i := 211) (by rfl)) rfl
theorem gw_1_213 : Cond.lays RX4 "ReviewTable$Row" "takingCount" "I" ∈ zG := zGt1 (List.mem_of_getElem? (i := 213) (by rfl)) rfl
theorem gw_1_215 : Cond.laysFinal RX4 "ReviewTable$Row" "takings" "[I" ∈ zG := zGt1 (List.mem_of_getElem? (i := 215) (by rfl)) rfl
theorem ui_X4 : ∀ w ∈ u_ws RX4 TX4 10, w ∈ zG := show ∀ w ∈ [Cond.lays RX4 "ReviewTable$Row" "size" "I", Cond.lays RX4 "ReviewTable$Row" "state" "I", Cond.lays RX4 "ReviewTable$Row" "result" "I", Cond.lays RX4 "ReviewTable$Row" "audited" "Z", Cond.lays RX4 "ReviewTable$Row" "rightNumber" "I", Cond.lays RX4 "ReviewTable$Row" "tookBefore" "I", Cond.lays RX4 "ReviewTable$Row" "firstFinisher" "I", Cond.lays RX4 "ReviewTable$Row" "secondFinisher" "I", Cond.lays RX4 "ReviewTable$Row" "takingCount" "I", Cond.laysFinal RX4 "ReviewTable$Row" "takings" "[I"], w ∈ zG from List.forall_mem_cons.mpr ⟨gw_1_197, List.forall_mem_cons.mpr ⟨gw_1_199, List.forall_mem_cons.mpr ⟨gw_1_201, List.forall_mem_cons.mpr ⟨gw_1_203, List.forall_mem_cons.mpr ⟨gw_1_205, List.forall_mem_cons.mpr ⟨gw_1_207, List.forall_mem_cons.mpr ⟨gw_1_209, List.forall_mem_cons.mpr ⟨gw_1_211, List.forall_mem_cons.mpr ⟨gw_1_213, List.forall_mem_cons.mpr ⟨gw_1_215, fun _ h => nomatch h⟩⟩⟩⟩⟩⟩⟩⟩⟩⟩
theorem zc_X4 : zcl2 7 RX4 TX4 10 := ⟨rfl, by decide⟩
theorem gw_1_181 : Cond.fieldLink RX4 15 (TX4 4).1 (TX4 4).2.1 (TX4 4).2.2.1 ∈ zG := zGt1 (List.mem_of_getElem? (i := 181) (by rfl)) rfl
theorem gw_1_186 : Cond.fieldLink RX4 18 (TX4 6).1 (TX4 6).2.1 (TX4 6).2.2.1 ∈ zG := zGt1 (List.mem_of_getElem? (i := 186) (by rfl)) rfl
theorem gw_1_189 : Cond.fieldLink RX4 21 (TX4 7).1 (TX4 7).2.1 (TX4 7).2.2.1 ∈ zG := zGt1 (List.mem_of_getElem? (i := 189) (by rfl)) rfl
theorem gw_1_81 : Cond.arrayClass (newarray.typeOf .int) ∈ zG := zGt1 (List.mem_of_getElem? (i := 81) (by rfl)) rfl
theorem gw_1_196 : Cond.fieldLink RX4 24 (TX4 9).1 (TX4 9).2.1 (TX4 9).2.2.1 ∈ zG := zGt1 (List.mem_of_getElem? (i := 196) (by rfl)) rfl
theorem gw_1_168 : Cond.fieldLink RX4 28 (TX4 0).1 (TX4 0).2.1 (TX4 0).2.2.1 ∈ zG := zGt1 (List.mem_of_getElem? (i := 168) (by rfl)) rfl
theorem gw_1_172 : Cond.fieldLink RX4 31 (TX4 1).1 (TX4 1).2.1 (TX4 1).2.2.1 ∈ zG := zGt1 (List.mem_of_getElem? (i := 172) (by rfl)) rfl
theorem gw_1_178 : Cond.fieldLink RX4 34 (TX4 3).1 (TX4 3).2.1 (TX4 3).2.2.1 ∈ zG := zGt1 (List.mem_of_getElem? (i := 178) (by rfl)) rfl
theorem gw_1_183 : Cond.fieldLink RX4 38 (TX4 5).1 (TX4 5).2.1 (TX4 5).2.2.1 ∈ zG := zGt1 (List.mem_of_getElem? (i := 183) (by rfl)) rfl
theorem gw_1_193 : Cond.fieldLink RX4 41 (TX4 8).1 (TX4 8).2.1 (TX4 8).2.2.1 ∈ zG := zGt1 (List.mem_of_getElem? (i := 193) (by rfl)) rfl
theorem gw_5_10 : Cond.methodLink RX4 44 arraycopyName ∈ zG := zGt5 (List.mem_of_getElem? (i := 10) (by rfl)) rfl
theorem gw_3_63 : Cond.native arraycopyName ∈ zG := zGt3 (List.mem_of_getElem? (i := 63) (by rfl)) rfl
theorem gw_3_62 : Cond.static arraycopyName ∈ zG := zGt3 (List.mem_of_getElem? (i := 62) (by rfl)) rfl
theorem gw_1_16 : Cond.initialized "java/lang/System" ∈ zG := zGt1 (List.mem_of_getElem? (i := 16) (by rfl)) rfl
theorem gw_5_84 : Cond.code yX4_resultAt cX4_resultAt 2 (Option.some Jvm.ClassFile.FieldType.int) ∈ zG := zGt5 (List.mem_of_getElem? (i := 84) (by rfl)) rfl
theorem gw_1_10 : Cond.initialized RX4 ∈ zG := zGt1 (List.mem_of_getElem? (i := 10) (by rfl)) rfl
theorem gw_5_89 : Cond.methodLink RX4 50 yX4_resultAt ∈ zG := zGt5 (List.mem_of_getElem? (i := 89) (by rfl)) rfl
theorem gw_5_82 : Cond.instanceMethod yX4_resultAt ∈ zG := zGt5 (List.mem_of_getElem? (i := 82) (by rfl)) rfl
theorem gw_5_83 : Cond.selects RX4 yX4_resultAt yX4_resultAt ∈ zG := zGt5 (List.mem_of_getElem? (i := 83) (by rfl)) rfl
theorem gw_5_88 : Cond.code yX4_isInWork cX4_isInWork 2 (Option.some Jvm.ClassFile.FieldType.boolean) ∈ zG := zGt5 (List.mem_of_getElem? (i := 88) (by rfl)) rfl
theorem gw_6_5 : Cond.methodLink RX4 54 yX4_isInWork ∈ zG := zGt6 (List.mem_of_getElem? (i := 5) (by rfl)) rfl
theorem gw_5_86 : Cond.instanceMethod yX4_isInWork ∈ zG := zGt5 (List.mem_of_getElem? (i := 86) (by rfl)) rfl
theorem gw_5_87 : Cond.selects RX4 yX4_isInWork yX4_isInWork ∈ zG := zGt5 (List.mem_of_getElem? (i := 87) (by rfl)) rfl
theorem gw_5_93 : Cond.code yX4_dueAt cX4_dueAt 2 (Option.some Jvm.ClassFile.FieldType.int) ∈ zG := zGt5 (List.mem_of_getElem? (i := 93) (by rfl)) rfl
theorem gw_6_6 : Cond.methodLink RX4 58 yX4_dueAt ∈ zG := zGt6 (List.mem_of_getElem? (i := 6) (by rfl)) rfl
theorem gw_5_91 : Cond.instanceMethod yX4_dueAt ∈ zG := zGt5 (List.mem_of_getElem? (i := 91) (by rfl)) rfl
theorem gw_5_92 : Cond.selects RX4 yX4_dueAt yX4_dueAt ∈ zG := zGt5 (List.mem_of_getElem? (i := 92) (by rfl)) rfl
theorem gw_5_70 : Cond.code yX4_isClosed cX4_isClosed 1 (Option.some Jvm.ClassFile.FieldType.boolean) ∈ zG := zGt5 (List.mem_of_getElem? (i := 70) (by rfl)) rfl
theorem gw_5_67 : Cond.methodLink RX4 61 yX4_isClosed ∈ zG := zGt5 (List.mem_of_getElem? (i := 67) (by rfl)) rfl
theorem gw_5_68 : Cond.instanceMethod yX4_isClosed ∈ zG := zGt5 (List.mem_of_getElem? (i := 68) (by rfl)) rfl
theorem gw_5_69 : Cond.selects RX4 yX4_isClosed yX4_isClosed ∈ zG := zGt5 (List.mem_of_getElem? (i := 69) (by rfl)) rfl
theorem gw_5_71 : Cond.methodLink RX4 65 Lib.Math.max.name ∈ zG := zGt5 (List.mem_of_getElem? (i := 71) (by rfl)) rfl
theorem gw_3_42 : Cond.static Lib.Math.max.name ∈ zG := zGt3 (List.mem_of_getElem? (i := 42) (by rfl)) rfl
theorem gw_1_14 : Cond.initialized "java/lang/Math" ∈ zG := zGt1 (List.mem_of_getElem? (i := 14) (by rfl)) rfl
theorem gw_3_43 : Cond.code Lib.Math.max.name Lib.Math.max.code 2 (some .int) ∈ zG := zGt3 (List.mem_of_getElem? (i := 43) (by rfl)) rfl
theorem gw_5_80 : Cond.code yX4_workerAt cX4_workerAt 2 (Option.some Jvm.ClassFile.FieldType.int) ∈ zG := zGt5 (List.mem_of_getElem? (i := 80) (by rfl)) rfl
theorem gw_5_175 : Cond.methodLink RX4 71 yX4_workerAt ∈ zG := zGt5 (List.mem_of_getElem? (i := 175) (by rfl)) rfl
theorem gw_5_78 : Cond.instanceMethod yX4_workerAt ∈ zG := zGt5 (List.mem_of_getElem? (i := 78) (by rfl)) rfl
theorem gw_5_79 : Cond.selects RX4 yX4_workerAt yX4_workerAt ∈ zG := zGt5 (List.mem_of_getElem? (i := 79) (by rfl)) rfl
theorem gw_6_4 : Cond.code yX4_isLateAt cX4_isLateAt 3 (Option.some Jvm.ClassFile.FieldType.boolean) ∈ zG := zGt6 (List.mem_of_getElem? (i := 4) (by rfl)) rfl
theorem gw_6_118 : Cond.methodLink RX4 77 yX4_isLateAt ∈ zG := zGt6 (List.mem_of_getElem? (i := 118) (by rfl)) rfl
theorem gw_6_2 : Cond.instanceMethod yX4_isLateAt ∈ zG := zGt6 (List.mem_of_getElem? (i := 2) (by rfl)) rfl
theorem gw_6_3 : Cond.selects RX4 yX4_isLateAt yX4_isLateAt ∈ zG := zGt6 (List.mem_of_getElem? (i := 3) (by rfl)) rfl
theorem gw_1_232 : Cond.fieldLink RX5 27 (TX5 5).1 (TX5 5).2.1 (TX5 5).2.2.1 ∈ zG := zGt1 (List.mem_of_getElem? (i := 232) (by rfl)) rfl
theorem gw_2_2 : Cond.lays RX5 "ReviewTable$Table" "tolerance" "I" ∈ zG := zGt2 (List.mem_of_getElem? (i := 2) (by rfl)) rfl
theorem gw_2_4 : Cond.lays RX5 "ReviewTable$Table" "patience" "I" ∈ zG := zGt2 (List.mem_of_getElem? (i := 4) (by rfl)) rfl
theorem gw_2_6 : Cond.lays RX5 "ReviewTable$Table" "least" "I" ∈ zG := zGt2 (List.mem_of_getElem? (i := 6) (by rfl)) rfl
theorem gw_2_8 : Cond.lays RX5 "ReviewTable$Table" "time" "I" ∈ zG := zGt2 (List.mem_of_getElem? (i := 8) (by rfl)) rfl
theorem gw_2_10 : Cond.lays RX5 "ReviewTable$Table" "workerCount" "I" ∈ zG := zGt2 (List.mem_of_getElem? (i := 10) (by rfl)) rfl
theorem gw_2_12 : Cond.lays RX5 "ReviewTable$Table" "rowCount" "I" ∈ zG := zGt2 (List.mem_of_getElem? (i := 12) (by rfl)) rfl
theorem gw_2_14 : Cond.laysFinal RX5 "ReviewTable$Table" "workers" "[LReviewTable$Worker;" ∈ zG := zGt2 (List.mem_of_getElem? (i := 14) (by rfl)) rfl
theorem gw_2_16 : Cond.laysFinal RX5 "ReviewTable$Table" "rows" "[LReviewTable$Row;" ∈ zG := zGt2 (List.mem_of_getElem? (i := 16) (by rfl)) rfl
theorem gw_2_18 : Cond.laysFinal RX5 "ReviewTable$Table" "strikeCount" "[I" ∈ zG := zGt2 (List.mem_of_getElem? (i := 18) (by rfl)) rfl
theorem gw_2_20 : Cond.laysFinal RX5 "ReviewTable$Table" "toldApart" "[I" ∈ zG := zGt2 (List.mem_of_getElem? (i := 20) (by rfl)) rfl
theorem ui_X5 : ∀ w ∈ u_ws RX5 TX5 10, w ∈ zG := show ∀ w ∈ [Cond.lays RX5 "ReviewTable$Table" "tolerance" "I", Cond.lays RX5 "ReviewTable$Table" "patience" "I", Cond.lays RX5 "ReviewTable$Table" "least" "I", Cond.lays RX5 "ReviewTable$Table" "time" "I", Cond.lays RX5 "ReviewTable$Table" "workerCount" "I", Cond.lays RX5 "ReviewTable$Table" "rowCount" "I", Cond.laysFinal RX5 "ReviewTable$Table" "workers" "[LReviewTable$Worker;", Cond.laysFinal RX5 "ReviewTable$Table" "rows" "[LReviewTable$Row;", Cond.laysFinal RX5 "ReviewTable$Table" "strikeCount" "[I", Cond.laysFinal RX5 "ReviewTable$Table" "toldApart" "[I"], w ∈ zG from List.forall_mem_cons.mpr ⟨gw_2_2, List.forall_mem_cons.mpr ⟨gw_2_4, List.forall_mem_cons.mpr ⟨gw_2_6, List.forall_mem_cons.mpr ⟨gw_2_8, List.forall_mem_cons.mpr ⟨gw_2_10, List.forall_mem_cons.mpr ⟨gw_2_12, List.forall_mem_cons.mpr ⟨gw_2_14, List.forall_mem_cons.mpr ⟨gw_2_16, List.forall_mem_cons.mpr ⟨gw_2_18, List.forall_mem_cons.mpr ⟨gw_2_20, fun _ h => nomatch h⟩⟩⟩⟩⟩⟩⟩⟩⟩⟩
theorem zc_X5 : zcl2 8 RX5 TX5 10 := ⟨rfl, by decide⟩
theorem gw_1_237 : Cond.fieldLink RX5 38 (TX5 7).1 (TX5 7).2.1 (TX5 7).2.2.1 ∈ zG := zGt1 (List.mem_of_getElem? (i := 237) (by rfl)) rfl
theorem gw_4_212 : Cond.code yX4_begin cX4_begin 2 (Option.none : Option Jvm.ClassFile.FieldType) ∈ zG := zGt4 (List.mem_of_getElem? (i := 212) (by rfl)) rfl
theorem gw_4_209 : Cond.methodLink RX5 74 yX4_begin ∈ zG := zGt4 (List.mem_of_getElem? (i := 209) (by rfl)) rfl
theorem gw_4_210 : Cond.instanceMethod yX4_begin ∈ zG := zGt4 (List.mem_of_getElem? (i := 210) (by rfl)) rfl
theorem gw_4_211 : Cond.selects RX4 yX4_begin yX4_begin ∈ zG := zGt4 (List.mem_of_getElem? (i := 211) (by rfl)) rfl
theorem gw_4_229 : Cond.code yX5_pairIndex cX5_pairIndex 2 (Option.some Jvm.ClassFile.FieldType.int) ∈ zG := zGt4 (List.mem_of_getElem? (i := 229) (by rfl)) rfl
theorem gw_1_8 : Cond.initialized RX5 ∈ zG := zGt1 (List.mem_of_getElem? (i := 8) (by rfl)) rfl
theorem gw_4_227 : Cond.methodLink RX5 87 yX5_pairIndex ∈ zG := zGt4 (List.mem_of_getElem? (i := 227) (by rfl)) rfl
theorem gw_4_228 : Cond.static yX5_pairIndex ∈ zG := zGt4 (List.mem_of_getElem? (i := 228) (by rfl)) rfl
theorem gw_2_1 : Cond.fieldLink RX5 46 (TX5 9).1 (TX5 9).2.1 (TX5 9).2.2.1 ∈ zG := zGt2 (List.mem_of_getElem? (i := 1) (by rfl)) rfl
theorem gw_1_239 : Cond.fieldLink RX5 42 (TX5 8).1 (TX5 8).2.1 (TX5 8).2.2.1 ∈ zG := zGt1 (List.mem_of_getElem? (i := 239) (by rfl)) rfl
theorem gw_5_191 : Cond.methodLink RX5 91 Lib.Math.abs.name ∈ zG := zGt5 (List.mem_of_getElem? (i := 191) (by rfl)) rfl
theorem gw_5_192 : Cond.static Lib.Math.abs.name ∈ zG := zGt5 (List.mem_of_getElem? (i := 192) (by rfl)) rfl
theorem gw_5_193 : Cond.code Lib.Math.abs.name Lib.Math.abs.code 1 (some .int) ∈ zG := zGt5 (List.mem_of_getElem? (i := 193) (by rfl)) rfl
theorem gw_1_218 : Cond.fieldLink RX5 9 (TX5 0).1 (TX5 0).2.1 (TX5 0).2.2.1 ∈ zG := zGt1 (List.mem_of_getElem? (i := 218) (by rfl)) rfl
theorem gw_1_234 : Cond.fieldLink RX5 32 (TX5 6).1 (TX5 6).2.1 (TX5 6).2.2.1 ∈ zG := zGt1 (List.mem_of_getElem? (i := 234) (by rfl)) rfl
theorem gw_1_123 : Cond.fieldLink RX5 97 (TX7 3).1 (TX7 3).2.1 (TX7 3).2.2.1 ∈ zG := zGt1 (List.mem_of_getElem? (i := 123) (by rfl)) rfl
theorem gw_1_142 : Cond.lays RX7 "ReviewTable$Worker" "name" "Ljava/lang/String;" ∈ zG := zGt1 (List.mem_of_getElem? (i := 142) (by rfl)) rfl
theorem gw_1_144 : Cond.lays RX7 "ReviewTable$Worker" "team" "I" ∈ zG := zGt1 (List.mem_of_getElem? (i := 144) (by rfl)) rfl
theorem gw_1_146 : Cond.lays RX7 "ReviewTable$Worker" "quota" "I" ∈ zG := zGt1 (List.mem_of_getElem? (i := 146) (by rfl)) rfl
theorem gw_1_148 : Cond.lays RX7 "ReviewTable$Worker" "trust" "I" ∈ zG := zGt1 (List.mem_of_getElem? (i := 148) (by rfl)) rfl
theorem gw_1_150 : Cond.lays RX7 "ReviewTable$Worker" "inWork" "I" ∈ zG := zGt1 (List.mem_of_getElem? (i := 150) (by rfl)) rfl
theorem gw_1_152 : Cond.lays RX7 "ReviewTable$Worker" "made" "I" ∈ zG := zGt1 (List.mem_of_getElem? (i := 152) (by rfl)) rfl
theorem gw_1_154 : Cond.lays RX7 "ReviewTable$Worker" "delivered" "I" ∈ zG := zGt1 (List.mem_of_getElem? (i := 154) (by rfl)) rfl
theorem gw_1_156 : Cond.lays RX7 "ReviewTable$Worker" "finished" "I" ∈ zG := zGt1 (List.mem_of_getElem? (i := 156) (by rfl)) rfl
theorem gw_1_158 : Cond.lays RX7 "ReviewTable$Worker" "late" "I" ∈ zG := zGt1 (List.mem_of_getElem? (i := 158) (by rfl)) rfl
theorem gw_1_160 : Cond.lays RX7 "ReviewTable$Worker" "points" "I" ∈ zG := zGt1 (List.mem_of_getElem? (i := 160) (by rfl)) rfl
theorem ui_X7 : ∀ w ∈ u_ws RX7 TX7 10, w ∈ zG := show ∀ w ∈ [Cond.lays RX7 "ReviewTable$Worker" "name" "Ljava/lang/String;", Cond.lays RX7 "ReviewTable$Worker" "team" "I", Cond.lays RX7 "ReviewTable$Worker" "quota" "I", Cond.lays RX7 "ReviewTable$Worker" "trust" "I", Cond.lays RX7 "ReviewTable$Worker" "inWork" "I", Cond.lays RX7 "ReviewTable$Worker" "made" "I", Cond.lays RX7 "ReviewTable$Worker" "delivered" "I", Cond.lays RX7 "ReviewTable$Worker" "finished" "I", Cond.lays RX7 "ReviewTable$Worker" "late" "I", Cond.lays RX7 "ReviewTable$Worker" "points" "I"], w ∈ zG from List.forall_mem_cons.mpr ⟨gw_1_142, List.forall_mem_cons.mpr ⟨gw_1_144, List.forall_mem_cons.mpr ⟨gw_1_146, List.forall_mem_cons.mpr ⟨gw_1_148, List.forall_mem_cons.mpr ⟨gw_1_150, List.forall_mem_cons.mpr ⟨gw_1_152, List.forall_mem_cons.mpr ⟨gw_1_154, List.forall_mem_cons.mpr ⟨gw_1_156, List.forall_mem_cons.mpr ⟨gw_1_158, List.forall_mem_cons.mpr ⟨gw_1_160, fun _ h => nomatch h⟩⟩⟩⟩⟩⟩⟩⟩⟩⟩
theorem zc_X7 : zcl2 10 RX7 TX7 10 := ⟨rfl, by decide⟩
theorem gw_1_224 : Cond.fieldLink RX5 18 (TX5 2).1 (TX5 2).2.1 (TX5 2).2.2.1 ∈ zG := zGt1 (List.mem_of_getElem? (i := 224) (by rfl)) rfl
theorem gw_1_180 : Cond.fieldLink RX5 100 (TX4 3).1 (TX4 3).2.1 (TX4 3).2.2.1 ∈ zG := zGt1 (List.mem_of_getElem? (i := 180) (by rfl)) rfl
theorem gw_1_174 : Cond.fieldLink RX5 104 (TX4 1).1 (TX4 1).2.1 (TX4 1).2.2.1 ∈ zG := zGt1 (List.mem_of_getElem? (i := 174) (by rfl)) rfl
theorem gw_1_185 : Cond.fieldLink RX5 132 (TX4 5).1 (TX4 5).2.1 (TX4 5).2.2.1 ∈ zG := zGt1 (List.mem_of_getElem? (i := 185) (by rfl)) rfl
theorem gw_1_195 : Cond.fieldLink RX5 135 (TX4 8).1 (TX4 8).2.1 (TX4 8).2.2.1 ∈ zG := zGt1 (List.mem_of_getElem? (i := 195) (by rfl)) rfl
theorem gw_5_133 : Cond.methodLink RX5 138 yX4_workerAt ∈ zG := zGt5 (List.mem_of_getElem? (i := 133) (by rfl)) rfl
theorem gw_1_116 : Cond.fieldLink RX5 141 (TX7 1).1 (TX7 1).2.1 (TX7 1).2.2.1 ∈ zG := zGt1 (List.mem_of_getElem? (i := 116) (by rfl)) rfl
theorem gw_4_226 : Cond.code yX5_areKeptApart cX5_areKeptApart 4 (Option.some Jvm.ClassFile.FieldType.boolean) ∈ zG := zGt4 (List.mem_of_getElem? (i := 226) (by rfl)) rfl
theorem gw_5_134 : Cond.methodLink RX5 144 yX5_areKeptApart ∈ zG := zGt5 (List.mem_of_getElem? (i := 134) (by rfl)) rfl
theorem gw_4_224 : Cond.instanceMethod yX5_areKeptApart ∈ zG := zGt4 (List.mem_of_getElem? (i := 224) (by rfl)) rfl
theorem gw_4_225 : Cond.selects RX5 yX5_areKeptApart yX5_areKeptApart ∈ zG := zGt4 (List.mem_of_getElem? (i := 225) (by rfl)) rfl
theorem gw_1_126 : Cond.fieldLink RX5 118 (TX7 4).1 (TX7 4).2.1 (TX7 4).2.2.1 ∈ zG := zGt1 (List.mem_of_getElem? (i := 126) (by rfl)) rfl
theorem gw_1_132 : Cond.fieldLink RX5 175 (TX7 6).1 (TX7 6).2.1 (TX7 6).2.2.1 ∈ zG := zGt1 (List.mem_of_getElem? (i := 132) (by rfl)) rfl
theorem gw_5_211 : Cond.code yX4_enterResult cX4_enterResult 3 (Option.none : Option Jvm.ClassFile.FieldType) ∈ zG := zGt5 (List.mem_of_getElem? (i := 211) (by rfl)) rfl
theorem gw_5_208 : Cond.methodLink RX5 178 yX4_enterResult ∈ zG := zGt5 (List.mem_of_getElem? (i := 208) (by rfl)) rfl
theorem gw_5_209 : Cond.instanceMethod yX4_enterResult ∈ zG := zGt5 (List.mem_of_getElem? (i := 209) (by rfl)) rfl
theorem gw_5_210 : Cond.selects RX4 yX4_enterResult yX4_enterResult ∈ zG := zGt5 (List.mem_of_getElem? (i := 210) (by rfl)) rfl
theorem gw_1_135 : Cond.fieldLink RX5 212 (TX7 7).1 (TX7 7).2.1 (TX7 7).2.2.1 ∈ zG := zGt1 (List.mem_of_getElem? (i := 135) (by rfl)) rfl
theorem gw_1_141 : Cond.fieldLink RX5 215 (TX7 9).1 (TX7 9).2.1 (TX7 9).2.2.1 ∈ zG := zGt1 (List.mem_of_getElem? (i := 141) (by rfl)) rfl
theorem gw_2_81 : Cond.methodLink RX6 3 Lib.objectInit ∈ zG := zGt2 (List.mem_of_getElem? (i := 81) (by rfl)) rfl
theorem gw_2_91 : Cond.fieldLink RX6 9 (TX6 4).1 (TX6 4).2.1 (TX6 4).2.2.1 ∈ zG := zGt2 (List.mem_of_getElem? (i := 91) (by rfl)) rfl
theorem gw_2_96 : Cond.lays RX6 "ReviewTable$Verdict" "state" "I" ∈ zG := zGt2 (List.mem_of_getElem? (i := 96) (by rfl)) rfl
theorem gw_2_98 : Cond.lays RX6 "ReviewTable$Verdict" "result" "I" ∈ zG := zGt2 (List.mem_of_getElem? (i := 98) (by rfl)) rfl
theorem gw_2_100 : Cond.lays RX6 "ReviewTable$Verdict" "earlier" "I" ∈ zG := zGt2 (List.mem_of_getElem? (i := 100) (by rfl)) rfl
theorem gw_2_102 : Cond.lays RX6 "ReviewTable$Verdict" "later" "I" ∈ zG := zGt2 (List.mem_of_getElem? (i := 102) (by rfl)) rfl
theorem gw_2_104 : Cond.laysFinal RX6 "ReviewTable$Verdict" "change" "[I" ∈ zG := zGt2 (List.mem_of_getElem? (i := 104) (by rfl)) rfl
theorem gw_2_106 : Cond.laysFinal RX6 "ReviewTable$Verdict" "results" "[I" ∈ zG := zGt2 (List.mem_of_getElem? (i := 106) (by rfl)) rfl
theorem gw_2_108 : Cond.laysFinal RX6 "ReviewTable$Verdict" "trusts" "[I" ∈ zG := zGt2 (List.mem_of_getElem? (i := 108) (by rfl)) rfl
theorem ui_X6 : ∀ w ∈ u_ws RX6 TX6 7, w ∈ zG := show ∀ w ∈ [Cond.lays RX6 "ReviewTable$Verdict" "state" "I", Cond.lays RX6 "ReviewTable$Verdict" "result" "I", Cond.lays RX6 "ReviewTable$Verdict" "earlier" "I", Cond.lays RX6 "ReviewTable$Verdict" "later" "I", Cond.laysFinal RX6 "ReviewTable$Verdict" "change" "[I", Cond.laysFinal RX6 "ReviewTable$Verdict" "results" "[I", Cond.laysFinal RX6 "ReviewTable$Verdict" "trusts" "[I"], w ∈ zG from List.forall_mem_cons.mpr ⟨gw_2_96, List.forall_mem_cons.mpr ⟨gw_2_98, List.forall_mem_cons.mpr ⟨gw_2_100, List.forall_mem_cons.mpr ⟨gw_2_102, List.forall_mem_cons.mpr ⟨gw_2_104, List.forall_mem_cons.mpr ⟨gw_2_106, List.forall_mem_cons.mpr ⟨gw_2_108, fun _ h => nomatch h⟩⟩⟩⟩⟩⟩⟩
theorem zc_X6 : zcl2 9 RX6 TX6 7 := ⟨rfl, by decide⟩
theorem gw_2_94 : Cond.fieldLink RX6 15 (TX6 5).1 (TX6 5).2.1 (TX6 5).2.2.1 ∈ zG := zGt2 (List.mem_of_getElem? (i := 94) (by rfl)) rfl
theorem gw_2_95 : Cond.fieldLink RX6 18 (TX6 6).1 (TX6 6).2.1 (TX6 6).2.2.1 ∈ zG := zGt2 (List.mem_of_getElem? (i := 95) (by rfl)) rfl
theorem gw_2_82 : Cond.fieldLink RX6 27 (TX6 0).1 (TX6 0).2.1 (TX6 0).2.2.1 ∈ zG := zGt2 (List.mem_of_getElem? (i := 82) (by rfl)) rfl
theorem gw_2_87 : Cond.fieldLink RX6 31 (TX6 2).1 (TX6 2).2.1 (TX6 2).2.2.1 ∈ zG := zGt2 (List.mem_of_getElem? (i := 87) (by rfl)) rfl
theorem gw_2_89 : Cond.fieldLink RX6 34 (TX6 3).1 (TX6 3).2.1 (TX6 3).2.2.1 ∈ zG := zGt2 (List.mem_of_getElem? (i := 89) (by rfl)) rfl
theorem gw_2_85 : Cond.fieldLink RX6 28 (TX6 1).1 (TX6 1).2.1 (TX6 1).2.2.1 ∈ zG := zGt2 (List.mem_of_getElem? (i := 85) (by rfl)) rfl
theorem gw_1_110 : Cond.methodLink RX7 1 Lib.objectInit ∈ zG := zGt1 (List.mem_of_getElem? (i := 110) (by rfl)) rfl
theorem gw_1_112 : Cond.fieldLink RX7 9 (TX7 0).1 (TX7 0).2.1 (TX7 0).2.2.1 ∈ zG := zGt1 (List.mem_of_getElem? (i := 112) (by rfl)) rfl
theorem gw_1_114 : Cond.fieldLink RX7 15 (TX7 1).1 (TX7 1).2.1 (TX7 1).2.2.1 ∈ zG := zGt1 (List.mem_of_getElem? (i := 114) (by rfl)) rfl
theorem gw_1_117 : Cond.fieldLink RX7 19 (TX7 2).1 (TX7 2).2.1 (TX7 2).2.2.1 ∈ zG := zGt1 (List.mem_of_getElem? (i := 117) (by rfl)) rfl
theorem gw_1_120 : Cond.fieldLink RX7 22 (TX7 3).1 (TX7 3).2.1 (TX7 3).2.2.1 ∈ zG := zGt1 (List.mem_of_getElem? (i := 120) (by rfl)) rfl
theorem gw_1_124 : Cond.fieldLink RX7 25 (TX7 4).1 (TX7 4).2.1 (TX7 4).2.2.1 ∈ zG := zGt1 (List.mem_of_getElem? (i := 124) (by rfl)) rfl
theorem gw_1_127 : Cond.fieldLink RX7 28 (TX7 5).1 (TX7 5).2.1 (TX7 5).2.2.1 ∈ zG := zGt1 (List.mem_of_getElem? (i := 127) (by rfl)) rfl
theorem gw_1_130 : Cond.fieldLink RX7 31 (TX7 6).1 (TX7 6).2.1 (TX7 6).2.2.1 ∈ zG := zGt1 (List.mem_of_getElem? (i := 130) (by rfl)) rfl
theorem gw_1_133 : Cond.fieldLink RX7 34 (TX7 7).1 (TX7 7).2.1 (TX7 7).2.2.1 ∈ zG := zGt1 (List.mem_of_getElem? (i := 133) (by rfl)) rfl
theorem gw_1_136 : Cond.fieldLink RX7 37 (TX7 8).1 (TX7 8).2.1 (TX7 8).2.2.1 ∈ zG := zGt1 (List.mem_of_getElem? (i := 136) (by rfl)) rfl
theorem gw_1_139 : Cond.fieldLink RX7 40 (TX7 9).1 (TX7 9).2.1 (TX7 9).2.2.1 ∈ zG := zGt1 (List.mem_of_getElem? (i := 139) (by rfl)) rfl
theorem gw_2_115 : Cond.fieldLink RX8 20 (TX8 1).1 (TX8 1).2.1 (TX8 1).2.2.1 ∈ zG := zGt2 (List.mem_of_getElem? (i := 115) (by rfl)) rfl
theorem gw_2_124 : Cond.laysFinal RX8 "ReviewTable" "parser" "LReviewTable$Parser;" ∈ zG := zGt2 (List.mem_of_getElem? (i := 124) (by rfl)) rfl
theorem gw_2_126 : Cond.laysFinal RX8 "ReviewTable" "input" "LReviewTable$Input;" ∈ zG := zGt2 (List.mem_of_getElem? (i := 126) (by rfl)) rfl
theorem gw_2_128 : Cond.laysFinal RX8 "ReviewTable" "table" "LReviewTable$Table;" ∈ zG := zGt2 (List.mem_of_getElem? (i := 128) (by rfl)) rfl
theorem gw_2_130 : Cond.laysFinal RX8 "ReviewTable" "history" "LReviewTable$History;" ∈ zG := zGt2 (List.mem_of_getElem? (i := 130) (by rfl)) rfl
theorem gw_2_132 : Cond.laysFinal RX8 "ReviewTable" "slots" "[LReviewTable$Table;" ∈ zG := zGt2 (List.mem_of_getElem? (i := 132) (by rfl)) rfl
theorem gw_2_134 : Cond.laysFinal RX8 "ReviewTable" "slotFilled" "[Z" ∈ zG := zGt2 (List.mem_of_getElem? (i := 134) (by rfl)) rfl
theorem gw_2_136 : Cond.laysFinal RX8 "ReviewTable" "verdict" "LReviewTable$Verdict;" ∈ zG := zGt2 (List.mem_of_getElem? (i := 136) (by rfl)) rfl
theorem gw_2_138 : Cond.laysFinal RX8 "ReviewTable" "output" "Ljava/lang/StringBuilder;" ∈ zG := zGt2 (List.mem_of_getElem? (i := 138) (by rfl)) rfl
theorem gw_2_140 : Cond.lays RX8 "ReviewTable" "parseCode" "I" ∈ zG := zGt2 (List.mem_of_getElem? (i := 140) (by rfl)) rfl
theorem gw_2_142 : Cond.lays RX8 "ReviewTable" "parsePosition" "I" ∈ zG := zGt2 (List.mem_of_getElem? (i := 142) (by rfl)) rfl
theorem ui_X8 : ∀ w ∈ u_ws RX8 TX8 10, w ∈ zG := show ∀ w ∈ [Cond.laysFinal RX8 "ReviewTable" "parser" "LReviewTable$Parser;", Cond.laysFinal RX8 "ReviewTable" "input" "LReviewTable$Input;", Cond.laysFinal RX8 "ReviewTable" "table" "LReviewTable$Table;", Cond.laysFinal RX8 "ReviewTable" "history" "LReviewTable$History;", Cond.laysFinal RX8 "ReviewTable" "slots" "[LReviewTable$Table;", Cond.laysFinal RX8 "ReviewTable" "slotFilled" "[Z", Cond.laysFinal RX8 "ReviewTable" "verdict" "LReviewTable$Verdict;", Cond.laysFinal RX8 "ReviewTable" "output" "Ljava/lang/StringBuilder;", Cond.lays RX8 "ReviewTable" "parseCode" "I", Cond.lays RX8 "ReviewTable" "parsePosition" "I"], w ∈ zG from List.forall_mem_cons.mpr ⟨gw_2_124, List.forall_mem_cons.mpr ⟨gw_2_126, List.forall_mem_cons.mpr ⟨gw_2_128, List.forall_mem_cons.mpr ⟨gw_2_130, List.forall_mem_cons.mpr ⟨gw_2_132, List.forall_mem_cons.mpr ⟨gw_2_134, List.forall_mem_cons.mpr ⟨gw_2_136, List.forall_mem_cons.mpr ⟨gw_2_138, List.forall_mem_cons.mpr ⟨gw_2_140, List.forall_mem_cons.mpr ⟨gw_2_142, fun _ h => nomatch h⟩⟩⟩⟩⟩⟩⟩⟩⟩⟩
theorem zc_X8 : zcl2 11 RX8 TX8 10 := ⟨rfl, by decide⟩
theorem gw_1_86 : Cond.fieldLink RX8 64 (TX1 1).1 (TX1 1).2.1 (TX1 1).2.2.1 ∈ zG := zGt1 (List.mem_of_getElem? (i := 86) (by rfl)) rfl
theorem gw_4_33 : Cond.classLink RX8 69 "java/lang/IllegalStateException" ∈ zG := zGt4 (List.mem_of_getElem? (i := 33) (by rfl)) rfl
theorem gw_1_24 : Cond.initialized "java/lang/IllegalStateException" ∈ zG := zGt1 (List.mem_of_getElem? (i := 24) (by rfl)) rfl
theorem gt_X8_73 : ∀ w ∈ (vx_atS RX8 73 "java/lang/IllegalStateException" ["java/lang/RuntimeException", "java/lang/Exception"]).filter goodWord, w ∈ zG := zFilt (by decide +kernel)
theorem gt_X8_73x : ∀ w ∈ (vx_atS RX8 73 "java/lang/IllegalStateException" ["java/lang/RuntimeException", "java/lang/Exception"]).filter (fun w => !goodWord w), w ∈ zXW := by decide +kernel
theorem gw_4_52 : Cond.code yX1_addFourBytes cX1_addFourBytes 3 (Option.none : Option Jvm.ClassFile.FieldType) ∈ zG := zGt4 (List.mem_of_getElem? (i := 52) (by rfl)) rfl
theorem gw_1_3 : Cond.initialized RX1 ∈ zG := zGt1 (List.mem_of_getElem? (i := 3) (by rfl)) rfl
theorem gw_4_49 : Cond.methodLink RX8 76 yX1_addFourBytes ∈ zG := zGt4 (List.mem_of_getElem? (i := 49) (by rfl)) rfl
theorem gw_4_50 : Cond.instanceMethod yX1_addFourBytes ∈ zG := zGt4 (List.mem_of_getElem? (i := 50) (by rfl)) rfl
theorem gw_4_51 : Cond.selects RX1 yX1_addFourBytes yX1_addFourBytes ∈ zG := zGt4 (List.mem_of_getElem? (i := 51) (by rfl)) rfl
theorem gw_2_122 : Cond.fieldLink RX8 57 (TX8 8).1 (TX8 8).2.1 (TX8 8).2.2.1 ∈ zG := zGt2 (List.mem_of_getElem? (i := 122) (by rfl)) rfl
theorem gw_2_123 : Cond.fieldLink RX8 61 (TX8 9).1 (TX8 9).2.1 (TX8 9).2.2.1 ∈ zG := zGt2 (List.mem_of_getElem? (i := 123) (by rfl)) rfl
theorem gw_2_116 : Cond.fieldLink RX8 24 (TX8 2).1 (TX8 2).2.1 (TX8 2).2.2.1 ∈ zG := zGt2 (List.mem_of_getElem? (i := 116) (by rfl)) rfl
theorem gw_1_233 : Cond.fieldLink RX8 111 (TX5 5).1 (TX5 5).2.1 (TX5 5).2.2.1 ∈ zG := zGt1 (List.mem_of_getElem? (i := 233) (by rfl)) rfl
theorem gw_1_238 : Cond.fieldLink RX8 173 (TX5 7).1 (TX5 7).2.1 (TX5 7).2.2.1 ∈ zG := zGt1 (List.mem_of_getElem? (i := 238) (by rfl)) rfl
theorem gw_6_126 : Cond.code yX4_leastDue cX4_leastDue 3 (Option.some Jvm.ClassFile.FieldType.int) ∈ zG := zGt6 (List.mem_of_getElem? (i := 126) (by rfl)) rfl
theorem gw_6_123 : Cond.methodLink RX8 282 yX4_leastDue ∈ zG := zGt6 (List.mem_of_getElem? (i := 123) (by rfl)) rfl
theorem gw_6_124 : Cond.instanceMethod yX4_leastDue ∈ zG := zGt6 (List.mem_of_getElem? (i := 124) (by rfl)) rfl
theorem gw_6_125 : Cond.selects RX4 yX4_leastDue yX4_leastDue ∈ zG := zGt6 (List.mem_of_getElem? (i := 125) (by rfl)) rfl
theorem gw_6_36 : Cond.methodLink RX8 305 yX4_isClosed ∈ zG := zGt6 (List.mem_of_getElem? (i := 36) (by rfl)) rfl
theorem gw_1_169 : Cond.fieldLink RX8 177 (TX4 0).1 (TX4 0).2.1 (TX4 0).2.2.1 ∈ zG := zGt1 (List.mem_of_getElem? (i := 169) (by rfl)) rfl
theorem gw_2_152 : Cond.classLink RX8 338 "java/lang/IllegalArgumentException" ∈ zG := zGt2 (List.mem_of_getElem? (i := 152) (by rfl)) rfl
theorem gw_1_25 : Cond.initialized "java/lang/IllegalArgumentException" ∈ zG := zGt1 (List.mem_of_getElem? (i := 25) (by rfl)) rfl
theorem gt_X8_342 : ∀ w ∈ (vx_atS RX8 342 "java/lang/IllegalArgumentException" ["java/lang/RuntimeException", "java/lang/Exception"]).filter goodWord, w ∈ zG := zFilt (by decide +kernel)
theorem gt_X8_342x : ∀ w ∈ (vx_atS RX8 342 "java/lang/IllegalArgumentException" ["java/lang/RuntimeException", "java/lang/Exception"]).filter (fun w => !goodWord w), w ∈ zXW := by decide +kernel
theorem gw_2_151 : Cond.code yX8_requireRange cX8_requireRange 3 (Option.none : Option Jvm.ClassFile.FieldType) ∈ zG := zGt2 (List.mem_of_getElem? (i := 151) (by rfl)) rfl
theorem gw_1_1 : Cond.initialized RX8 ∈ zG := zGt1 (List.mem_of_getElem? (i := 1) (by rfl)) rfl
theorem gw_2_149 : Cond.methodLink RX8 80 yX8_requireRange ∈ zG := zGt2 (List.mem_of_getElem? (i := 149) (by rfl)) rfl
theorem gw_2_150 : Cond.static yX8_requireRange ∈ zG := zGt2 (List.mem_of_getElem? (i := 150) (by rfl)) rfl
theorem gw_1_230 : Cond.fieldLink RX8 104 (TX5 4).1 (TX5 4).2.1 (TX5 4).2.2.1 ∈ zG := zGt1 (List.mem_of_getElem? (i := 230) (by rfl)) rfl
theorem gw_5_30 : Cond.classLink RX8 201 "java/lang/IndexOutOfBoundsException" ∈ zG := zGt5 (List.mem_of_getElem? (i := 30) (by rfl)) rfl
theorem gw_1_28 : Cond.initialized "java/lang/IndexOutOfBoundsException" ∈ zG := zGt1 (List.mem_of_getElem? (i := 28) (by rfl)) rfl
theorem gt_X8_205 : ∀ w ∈ (vx_atS RX8 205 "java/lang/IndexOutOfBoundsException" ["java/lang/RuntimeException", "java/lang/Exception"]).filter goodWord, w ∈ zG := zFilt (by decide +kernel)
theorem gt_X8_205x : ∀ w ∈ (vx_atS RX8 205 "java/lang/IndexOutOfBoundsException" ["java/lang/RuntimeException", "java/lang/Exception"]).filter (fun w => !goodWord w), w ∈ zXW := by decide +kernel
theorem gw_5_174 : Cond.code yX4_takingBy cX4_takingBy 3 (Option.some Jvm.ClassFile.FieldType.int) ∈ zG := zGt5 (List.mem_of_getElem? (i := 174) (by rfl)) rfl
theorem gw_5_171 : Cond.methodLink RX8 296 yX4_takingBy ∈ zG := zGt5 (List.mem_of_getElem? (i := 171) (by rfl)) rfl
theorem gw_5_172 : Cond.instanceMethod yX4_takingBy ∈ zG := zGt5 (List.mem_of_getElem? (i := 172) (by rfl)) rfl
theorem gw_5_173 : Cond.selects RX4 yX4_takingBy yX4_takingBy ∈ zG := zGt5 (List.mem_of_getElem? (i := 173) (by rfl)) rfl
theorem gw_5_85 : Cond.methodLink RX8 212 yX4_isInWork ∈ zG := zGt5 (List.mem_of_getElem? (i := 85) (by rfl)) rfl
theorem gw_5_223 : Cond.methodLink RX8 427 Lib.Math.min.name ∈ zG := zGt5 (List.mem_of_getElem? (i := 223) (by rfl)) rfl
theorem gw_3_59 : Cond.static Lib.Math.min.name ∈ zG := zGt3 (List.mem_of_getElem? (i := 59) (by rfl)) rfl
theorem gw_3_60 : Cond.code Lib.Math.min.name Lib.Math.min.code 2 (some .int) ∈ zG := zGt3 (List.mem_of_getElem? (i := 60) (by rfl)) rfl
theorem gw_5_224 : Cond.methodLink RX8 432 Lib.Math.max.name ∈ zG := zGt5 (List.mem_of_getElem? (i := 224) (by rfl)) rfl
theorem gw_1_57 : Cond.methodLink RJ5 3 Lib.objectInit ∈ zG := zGt1 (List.mem_of_getElem? (i := 57) (by rfl)) rfl
theorem gw_1_58 : Cond.fieldLink RJ5 18 "java/lang/String" "COMPACT_STRINGS" "Z" ∈ zG := zGt1 (List.mem_of_getElem? (i := 58) (by rfl)) rfl
theorem gw_1_82 : Cond.arrayClass (newarray.typeOf .byte) ∈ zG := zGt1 (List.mem_of_getElem? (i := 82) (by rfl)) rfl
theorem gw_1_67 : Cond.fieldLink RJ5 15 (TJ4 0).1 (TJ4 0).2.1 (TJ4 0).2.2.1 ∈ zG := zGt1 (List.mem_of_getElem? (i := 67) (by rfl)) rfl
theorem gw_1_72 : Cond.lays RJ4 "java/lang/AbstractStringBuilder" "value" "[B" ∈ zG := zGt1 (List.mem_of_getElem? (i := 72) (by rfl)) rfl
theorem gw_1_74 : Cond.lays RJ4 "java/lang/AbstractStringBuilder" "coder" "B" ∈ zG := zGt1 (List.mem_of_getElem? (i := 74) (by rfl)) rfl
theorem gw_1_76 : Cond.lays RJ4 "java/lang/AbstractStringBuilder" "maybeLatin1" "Z" ∈ zG := zGt1 (List.mem_of_getElem? (i := 76) (by rfl)) rfl
theorem gw_1_78 : Cond.lays RJ4 "java/lang/AbstractStringBuilder" "count" "I" ∈ zG := zGt1 (List.mem_of_getElem? (i := 78) (by rfl)) rfl
theorem ui_J4 : ∀ w ∈ u_ws RJ4 TJ4 4, w ∈ zG := show ∀ w ∈ [Cond.lays RJ4 "java/lang/AbstractStringBuilder" "value" "[B", Cond.lays RJ4 "java/lang/AbstractStringBuilder" "coder" "B", Cond.lays RJ4 "java/lang/AbstractStringBuilder" "maybeLatin1" "Z", Cond.lays RJ4 "java/lang/AbstractStringBuilder" "count" "I"], w ∈ zG from List.forall_mem_cons.mpr ⟨gw_1_72, List.forall_mem_cons.mpr ⟨gw_1_74, List.forall_mem_cons.mpr ⟨gw_1_76, List.forall_mem_cons.mpr ⟨gw_1_78, fun _ h => nomatch h⟩⟩⟩⟩
theorem zc_J4 : zcl2 1 RJ4 TJ4 4 := ⟨rfl, by decide⟩
theorem gw_1_68 : Cond.fieldLink RJ5 22 (TJ4 1).1 (TJ4 1).2.1 (TJ4 1).2.2.1 ∈ zG := zGt1 (List.mem_of_getElem? (i := 68) (by rfl)) rfl
theorem gw_1_71 : Cond.fieldLink RJ5 79 (TJ4 3).1 (TJ4 3).2.1 (TJ4 3).2.2.1 ∈ zG := zGt1 (List.mem_of_getElem? (i := 71) (by rfl)) rfl
theorem gw_3_141 : Cond.fieldLink RJ6 83 "java/lang/Integer" "DigitOnes" "[B" ∈ zG := zGt3 (List.mem_of_getElem? (i := 141) (by rfl)) rfl
theorem gw_3_143 : Cond.fieldLink RJ6 87 "java/lang/Integer" "DigitTens" "[B" ∈ zG := zGt3 (List.mem_of_getElem? (i := 143) (by rfl)) rfl
theorem gw_6_98 : Cond.constant RJ6 264 (Int32.ofInt 65536) ∈ zG := zGt6 (List.mem_of_getElem? (i := 98) (by rfl)) rfl
theorem gw_6_133 : Cond.constant RJ6 265 (Int32.ofInt 1431655765) ∈ zG := zGt6 (List.mem_of_getElem? (i := 133) (by rfl)) rfl
theorem gw_6_134 : Cond.constant RJ6 266 (Int32.ofInt 858993459) ∈ zG := zGt6 (List.mem_of_getElem? (i := 134) (by rfl)) rfl
theorem gw_6_135 : Cond.constant RJ6 267 (Int32.ofInt 252645135) ∈ zG := zGt6 (List.mem_of_getElem? (i := 135) (by rfl)) rfl
theorem gw_3_10 : Cond.fieldLink RJ0 38 "java/lang/String" "COMPACT_STRINGS" "Z" ∈ zG := zGt3 (List.mem_of_getElem? (i := 10) (by rfl)) rfl
theorem gw_3_237 : Cond.fieldLink RJ0 15 (TJ0 1).1 (TJ0 1).2.1 (TJ0 1).2.2.1 ∈ zG := zGt3 (List.mem_of_getElem? (i := 237) (by rfl)) rfl
theorem gw_3_238 : Cond.laysFinal RJ0 "java/lang/String" "value" "[B" ∈ zG := zGt3 (List.mem_of_getElem? (i := 238) (by rfl)) rfl
theorem gw_4_0 : Cond.laysFinal RJ0 "java/lang/String" "coder" "B" ∈ zG := zGt4 (List.mem_of_getElem? (i := 0) (by rfl)) rfl
theorem gw_4_2 : Cond.lays RJ0 "java/lang/String" "hash" "I" ∈ zG := zGt4 (List.mem_of_getElem? (i := 2) (by rfl)) rfl
theorem gw_4_4 : Cond.lays RJ0 "java/lang/String" "hashIsZero" "Z" ∈ zG := zGt4 (List.mem_of_getElem? (i := 4) (by rfl)) rfl
theorem ui_J0 : ∀ w ∈ u_ws RJ0 TJ0 4, w ∈ zG := show ∀ w ∈ [Cond.laysFinal RJ0 "java/lang/String" "value" "[B", Cond.laysFinal RJ0 "java/lang/String" "coder" "B", Cond.lays RJ0 "java/lang/String" "hash" "I", Cond.lays RJ0 "java/lang/String" "hashIsZero" "Z"], w ∈ zG from List.forall_mem_cons.mpr ⟨gw_3_238, List.forall_mem_cons.mpr ⟨gw_4_0, List.forall_mem_cons.mpr ⟨gw_4_2, List.forall_mem_cons.mpr ⟨gw_4_4, fun _ h => nomatch h⟩⟩⟩⟩
theorem zc_J0 : zcl2 0 RJ0 TJ0 4 := ⟨rfl, by decide⟩
theorem gw_1_56 : Cond.code yJ5_init_d00df cJ5_init_d00df 2 (Option.none : Option Jvm.ClassFile.FieldType) ∈ zG := zGt1 (List.mem_of_getElem? (i := 56) (by rfl)) rfl
theorem gw_1_4 : Cond.initialized RJ5 ∈ zG := zGt1 (List.mem_of_getElem? (i := 4) (by rfl)) rfl
theorem gw_1_54 : Cond.methodLink RJ4 1 yJ5_init_d00df ∈ zG := zGt1 (List.mem_of_getElem? (i := 54) (by rfl)) rfl
theorem gw_1_55 : Cond.instanceMethod yJ5_init_d00df ∈ zG := zGt1 (List.mem_of_getElem? (i := 55) (by rfl)) rfl
theorem gw_3_212 : Cond.code yJ5_length_8abf5 cJ5_length_8abf5 1 (Option.some Jvm.ClassFile.FieldType.int) ∈ zG := zGt3 (List.mem_of_getElem? (i := 212) (by rfl)) rfl
theorem gw_3_211 : Cond.methodLink RJ4 343 yJ5_length_8abf5 ∈ zG := zGt3 (List.mem_of_getElem? (i := 211) (by rfl)) rfl
theorem gw_3_206 : Cond.instanceMethod yJ5_length_8abf5 ∈ zG := zGt3 (List.mem_of_getElem? (i := 206) (by rfl)) rfl
theorem gw_3_207 : Cond.sameMethod yJ5_length_8abf5.cls yJ5_length_8abf5.cls yJ5_length_8abf5.name yJ5_length_8abf5.desc ∈ zG := zGt3 (List.mem_of_getElem? (i := 207) (by rfl)) rfl
theorem gw_1_80 : Cond.superclass RJ4 yJ5_length_8abf5.cls ∈ zG := zGt1 (List.mem_of_getElem? (i := 80) (by rfl)) rfl
theorem gw_3_58 : Cond.methodLink RJ7 304 Lib.Math.min.name ∈ zG := zGt3 (List.mem_of_getElem? (i := 58) (by rfl)) rfl
theorem gw_3_61 : Cond.methodLink RJ7 150 arraycopyName ∈ zG := zGt3 (List.mem_of_getElem? (i := 61) (by rfl)) rfl
theorem gw_3_222 : Cond.code yJ7_checkLength_df160 cJ7_checkLength_df160 2 (Option.none : Option Jvm.ClassFile.FieldType) ∈ zG := zGt3 (List.mem_of_getElem? (i := 222) (by rfl)) rfl
theorem gw_1_15 : Cond.initialized RJ7 ∈ zG := zGt1 (List.mem_of_getElem? (i := 15) (by rfl)) rfl
theorem gw_3_220 : Cond.methodLink RJ7 343 yJ7_checkLength_df160 ∈ zG := zGt3 (List.mem_of_getElem? (i := 220) (by rfl)) rfl
theorem gw_3_221 : Cond.static yJ7_checkLength_df160 ∈ zG := zGt3 (List.mem_of_getElem? (i := 221) (by rfl)) rfl
theorem gw_3_41 : Cond.methodLink RJ8 194 Lib.Math.max.name ∈ zG := zGt3 (List.mem_of_getElem? (i := 41) (by rfl)) rfl
theorem gw_3_44 : Cond.constant RJ8 200 (Int32.ofInt 2147483639) ∈ zG := zGt3 (List.mem_of_getElem? (i := 44) (by rfl)) rfl
theorem gw_1_48 : Cond.methodLink RX1 3 Lib.objectInit ∈ zG := zGt1 (List.mem_of_getElem? (i := 48) (by rfl)) rfl
theorem gw_1_49 : Cond.classLink RX1 19 RJ4 ∈ zG := zGt1 (List.mem_of_getElem? (i := 49) (by rfl)) rfl
theorem gw_1_50 : Cond.instantiable RJ4 4 ∈ zG := zGt1 (List.mem_of_getElem? (i := 50) (by rfl)) rfl
theorem gw_1_5 : Cond.initialized RJ4 ∈ zG := zGt1 (List.mem_of_getElem? (i := 5) (by rfl)) rfl
theorem gw_1_53 : Cond.code yJ4_init_da8c8 cJ4_init_da8c8 1 (Option.none : Option Jvm.ClassFile.FieldType) ∈ zG := zGt1 (List.mem_of_getElem? (i := 53) (by rfl)) rfl
theorem gw_1_51 : Cond.methodLink RX1 21 yJ4_init_da8c8 ∈ zG := zGt1 (List.mem_of_getElem? (i := 51) (by rfl)) rfl
theorem gw_1_52 : Cond.instanceMethod yJ4_init_da8c8 ∈ zG := zGt1 (List.mem_of_getElem? (i := 52) (by rfl)) rfl
theorem gw_1_88 : Cond.fieldLink RX1 22 (TX1 2).1 (TX1 2).2.1 (TX1 2).2.2.1 ∈ zG := zGt1 (List.mem_of_getElem? (i := 88) (by rfl)) rfl
theorem gw_2_31 : Cond.fieldLink RX3 45 (TX3 4).1 (TX3 4).2.1 (TX3 4).2.2.1 ∈ zG := zGt2 (List.mem_of_getElem? (i := 31) (by rfl)) rfl
theorem gw_4_111 : Cond.code yX3_fail cX3_fail 2 (Option.some Jvm.ClassFile.FieldType.boolean) ∈ zG := zGt4 (List.mem_of_getElem? (i := 111) (by rfl)) rfl
theorem gw_1_2 : Cond.initialized RX3 ∈ zG := zGt1 (List.mem_of_getElem? (i := 2) (by rfl)) rfl
theorem gw_4_108 : Cond.methodLink RX3 110 yX3_fail ∈ zG := zGt4 (List.mem_of_getElem? (i := 108) (by rfl)) rfl
theorem gw_4_110 : Cond.instanceMethod yX3_fail ∈ zG := zGt4 (List.mem_of_getElem? (i := 110) (by rfl)) rfl
theorem gp_7 : Cond.selects RX3 yX3_fail yX3_fail ∈ zG := zGs (List.mem_of_getElem? (i := 7) (by rfl)) rfl
theorem gw_4_79 : Cond.code yX3_isBlank cX3_isBlank 1 (Option.some Jvm.ClassFile.FieldType.boolean) ∈ zG := zGt4 (List.mem_of_getElem? (i := 79) (by rfl)) rfl
theorem gw_4_77 : Cond.methodLink RX3 189 yX3_isBlank ∈ zG := zGt4 (List.mem_of_getElem? (i := 77) (by rfl)) rfl
theorem gw_4_78 : Cond.static yX3_isBlank ∈ zG := zGt4 (List.mem_of_getElem? (i := 78) (by rfl)) rfl
theorem gw_4_83 : Cond.code yX3_kindAt cX3_kindAt 3 (Option.some Jvm.ClassFile.FieldType.int) ∈ zG := zGt4 (List.mem_of_getElem? (i := 83) (by rfl)) rfl
theorem gw_4_80 : Cond.methodLink RX3 192 yX3_kindAt ∈ zG := zGt4 (List.mem_of_getElem? (i := 80) (by rfl)) rfl
theorem gw_4_82 : Cond.instanceMethod yX3_kindAt ∈ zG := zGt4 (List.mem_of_getElem? (i := 82) (by rfl)) rfl
theorem gp_2 : Cond.selects RX3 yX3_kindAt yX3_kindAt ∈ zG := zGs (List.mem_of_getElem? (i := 2) (by rfl)) rfl
theorem gw_4_87 : Cond.code yX3_readDigits cX3_readDigits 2 (Option.none : Option Jvm.ClassFile.FieldType) ∈ zG := zGt4 (List.mem_of_getElem? (i := 87) (by rfl)) rfl
theorem gw_4_84 : Cond.methodLink RX3 196 yX3_readDigits ∈ zG := zGt4 (List.mem_of_getElem? (i := 84) (by rfl)) rfl
theorem gw_4_86 : Cond.instanceMethod yX3_readDigits ∈ zG := zGt4 (List.mem_of_getElem? (i := 86) (by rfl)) rfl
theorem gp_3 : Cond.selects RX3 yX3_readDigits yX3_readDigits ∈ zG := zGs (List.mem_of_getElem? (i := 3) (by rfl)) rfl
theorem gw_5_150 : Cond.code yX4_setTaking cX4_setTaking 5 (Option.none : Option Jvm.ClassFile.FieldType) ∈ zG := zGt5 (List.mem_of_getElem? (i := 150) (by rfl)) rfl
theorem gw_5_147 : Cond.methodLink RX4 81 yX4_setTaking ∈ zG := zGt5 (List.mem_of_getElem? (i := 147) (by rfl)) rfl
theorem gw_5_149 : Cond.instanceMethod yX4_setTaking ∈ zG := zGt5 (List.mem_of_getElem? (i := 149) (by rfl)) rfl
theorem gp_19 : Cond.selects RX4 yX4_setTaking yX4_setTaking ∈ zG := zGs (List.mem_of_getElem? (i := 19) (by rfl)) rfl
theorem gw_1_101 : Cond.methodLink RX5 3 Lib.objectInit ∈ zG := zGt1 (List.mem_of_getElem? (i := 101) (by rfl)) rfl
theorem gw_1_221 : Cond.fieldLink RX5 15 (TX5 1).1 (TX5 1).2.1 (TX5 1).2.2.1 ∈ zG := zGt1 (List.mem_of_getElem? (i := 221) (by rfl)) rfl
theorem gw_1_227 : Cond.fieldLink RX5 21 (TX5 3).1 (TX5 3).2.1 (TX5 3).2.2.1 ∈ zG := zGt1 (List.mem_of_getElem? (i := 227) (by rfl)) rfl
theorem gw_1_229 : Cond.fieldLink RX5 24 (TX5 4).1 (TX5 4).2.1 (TX5 4).2.2.1 ∈ zG := zGt1 (List.mem_of_getElem? (i := 229) (by rfl)) rfl
theorem gw_1_102 : Cond.classLink RX5 30 "ReviewTable$Worker" ∈ zG := zGt1 (List.mem_of_getElem? (i := 102) (by rfl)) rfl
theorem gw_1_104 : Cond.classLink RX5 36 "ReviewTable$Row" ∈ zG := zGt1 (List.mem_of_getElem? (i := 104) (by rfl)) rfl
theorem gw_1_106 : Cond.instantiable RX7 10 ∈ zG := zGt1 (List.mem_of_getElem? (i := 106) (by rfl)) rfl
theorem gw_1_9 : Cond.initialized RX7 ∈ zG := zGt1 (List.mem_of_getElem? (i := 9) (by rfl)) rfl
theorem gw_1_109 : Cond.code yX7_init cX7_init 1 (Option.none : Option Jvm.ClassFile.FieldType) ∈ zG := zGt1 (List.mem_of_getElem? (i := 109) (by rfl)) rfl
theorem gw_1_108 : Cond.instanceMethod yX7_init ∈ zG := zGt1 (List.mem_of_getElem? (i := 108) (by rfl)) rfl
theorem gw_1_163 : Cond.instantiable RX4 10 ∈ zG := zGt1 (List.mem_of_getElem? (i := 163) (by rfl)) rfl
theorem gw_1_166 : Cond.code yX4_init cX4_init 1 (Option.none : Option Jvm.ClassFile.FieldType) ∈ zG := zGt1 (List.mem_of_getElem? (i := 166) (by rfl)) rfl
theorem gw_1_165 : Cond.instanceMethod yX4_init ∈ zG := zGt1 (List.mem_of_getElem? (i := 165) (by rfl)) rfl
theorem gw_4_72 : Cond.code yJ7_fill_53178 cJ7_fill_53178 4 (Option.none : Option Jvm.ClassFile.FieldType) ∈ zG := zGt4 (List.mem_of_getElem? (i := 72) (by rfl)) rfl
theorem gw_4_70 : Cond.methodLink RX5 51 yJ7_fill_53178 ∈ zG := zGt4 (List.mem_of_getElem? (i := 70) (by rfl)) rfl
theorem gw_4_71 : Cond.static yJ7_fill_53178 ∈ zG := zGt4 (List.mem_of_getElem? (i := 71) (by rfl)) rfl
theorem gw_5_5 : Cond.code yX7_copyFrom cX7_copyFrom 2 (Option.none : Option Jvm.ClassFile.FieldType) ∈ zG := zGt5 (List.mem_of_getElem? (i := 5) (by rfl)) rfl
theorem gw_5_2 : Cond.methodLink RX5 57 yX7_copyFrom ∈ zG := zGt5 (List.mem_of_getElem? (i := 2) (by rfl)) rfl
theorem gw_5_3 : Cond.instanceMethod yX7_copyFrom ∈ zG := zGt5 (List.mem_of_getElem? (i := 3) (by rfl)) rfl
theorem gw_5_4 : Cond.selects RX7 yX7_copyFrom yX7_copyFrom ∈ zG := zGt5 (List.mem_of_getElem? (i := 4) (by rfl)) rfl
theorem gw_5_9 : Cond.code yX4_copyFrom cX4_copyFrom 2 (Option.none : Option Jvm.ClassFile.FieldType) ∈ zG := zGt5 (List.mem_of_getElem? (i := 9) (by rfl)) rfl
theorem gw_5_6 : Cond.methodLink RX5 61 yX4_copyFrom ∈ zG := zGt5 (List.mem_of_getElem? (i := 6) (by rfl)) rfl
theorem gw_5_7 : Cond.instanceMethod yX4_copyFrom ∈ zG := zGt5 (List.mem_of_getElem? (i := 7) (by rfl)) rfl
theorem gw_5_8 : Cond.selects RX4 yX4_copyFrom yX4_copyFrom ∈ zG := zGt5 (List.mem_of_getElem? (i := 8) (by rfl)) rfl
theorem gw_5_11 : Cond.methodLink RX5 64 arraycopyName ∈ zG := zGt5 (List.mem_of_getElem? (i := 11) (by rfl)) rfl
theorem gw_4_192 : Cond.code yX7_begin cX7_begin 5 (Option.none : Option Jvm.ClassFile.FieldType) ∈ zG := zGt4 (List.mem_of_getElem? (i := 192) (by rfl)) rfl
theorem gw_4_189 : Cond.methodLink RX5 70 yX7_begin ∈ zG := zGt4 (List.mem_of_getElem? (i := 189) (by rfl)) rfl
theorem gw_4_190 : Cond.instanceMethod yX7_begin ∈ zG := zGt4 (List.mem_of_getElem? (i := 190) (by rfl)) rfl
theorem gw_4_191 : Cond.selects RX7 yX7_begin yX7_begin ∈ zG := zGt4 (List.mem_of_getElem? (i := 191) (by rfl)) rfl
theorem gw_5_127 : Cond.code yX5_isSuspended cX5_isSuspended 2 (Option.some Jvm.ClassFile.FieldType.boolean) ∈ zG := zGt5 (List.mem_of_getElem? (i := 127) (by rfl)) rfl
theorem gw_5_124 : Cond.methodLink RX5 114 yX5_isSuspended ∈ zG := zGt5 (List.mem_of_getElem? (i := 124) (by rfl)) rfl
theorem gw_5_125 : Cond.instanceMethod yX5_isSuspended ∈ zG := zGt5 (List.mem_of_getElem? (i := 125) (by rfl)) rfl
theorem gw_5_126 : Cond.selects RX5 yX5_isSuspended yX5_isSuspended ∈ zG := zGt5 (List.mem_of_getElem? (i := 126) (by rfl)) rfl
theorem gw_1_119 : Cond.fieldLink RX5 121 (TX7 2).1 (TX7 2).2.1 (TX7 2).2.2.1 ∈ zG := zGt1 (List.mem_of_getElem? (i := 119) (by rfl)) rfl
theorem gw_5_66 : Cond.code yX4_missingWorkers cX4_missingWorkers 2 (Option.some Jvm.ClassFile.FieldType.int) ∈ zG := zGt5 (List.mem_of_getElem? (i := 66) (by rfl)) rfl
theorem gw_5_128 : Cond.methodLink RX5 124 yX4_missingWorkers ∈ zG := zGt5 (List.mem_of_getElem? (i := 128) (by rfl)) rfl
theorem gw_5_64 : Cond.instanceMethod yX4_missingWorkers ∈ zG := zGt5 (List.mem_of_getElem? (i := 64) (by rfl)) rfl
theorem gw_5_65 : Cond.selects RX4 yX4_missingWorkers yX4_missingWorkers ∈ zG := zGt5 (List.mem_of_getElem? (i := 65) (by rfl)) rfl
theorem gw_5_132 : Cond.code yX5_clashWith cX5_clashWith 6 (Option.some Jvm.ClassFile.FieldType.int) ∈ zG := zGt5 (List.mem_of_getElem? (i := 132) (by rfl)) rfl
theorem gw_5_129 : Cond.methodLink RX5 128 yX5_clashWith ∈ zG := zGt5 (List.mem_of_getElem? (i := 129) (by rfl)) rfl
theorem gw_5_130 : Cond.instanceMethod yX5_clashWith ∈ zG := zGt5 (List.mem_of_getElem? (i := 130) (by rfl)) rfl
theorem gw_5_131 : Cond.selects RX5 yX5_clashWith yX5_clashWith ∈ zG := zGt5 (List.mem_of_getElem? (i := 131) (by rfl)) rfl
theorem gw_5_123 : Cond.code yX5_reasonAgainst cX5_reasonAgainst 3 (Option.some Jvm.ClassFile.FieldType.int) ∈ zG := zGt5 (List.mem_of_getElem? (i := 123) (by rfl)) rfl
theorem gw_5_120 : Cond.methodLink RX5 147 yX5_reasonAgainst ∈ zG := zGt5 (List.mem_of_getElem? (i := 120) (by rfl)) rfl
theorem gw_5_121 : Cond.instanceMethod yX5_reasonAgainst ∈ zG := zGt5 (List.mem_of_getElem? (i := 121) (by rfl)) rfl
theorem gw_5_122 : Cond.selects RX5 yX5_reasonAgainst yX5_reasonAgainst ∈ zG := zGt5 (List.mem_of_getElem? (i := 122) (by rfl)) rfl
theorem gw_5_119 : Cond.code yX5_rowsFor cX5_rowsFor 4 (Option.some Jvm.ClassFile.FieldType.int) ∈ zG := zGt5 (List.mem_of_getElem? (i := 119) (by rfl)) rfl
theorem gw_5_116 : Cond.methodLink RX5 150 yX5_rowsFor ∈ zG := zGt5 (List.mem_of_getElem? (i := 116) (by rfl)) rfl
theorem gw_5_117 : Cond.instanceMethod yX5_rowsFor ∈ zG := zGt5 (List.mem_of_getElem? (i := 117) (by rfl)) rfl
theorem gw_5_118 : Cond.selects RX5 yX5_rowsFor yX5_rowsFor ∈ zG := zGt5 (List.mem_of_getElem? (i := 118) (by rfl)) rfl
theorem gw_5_137 : Cond.code yX5_urgency cX5_urgency 1 (Option.some Jvm.ClassFile.FieldType.int) ∈ zG := zGt5 (List.mem_of_getElem? (i := 137) (by rfl)) rfl
theorem gw_5_135 : Cond.methodLink RX5 153 yX5_urgency ∈ zG := zGt5 (List.mem_of_getElem? (i := 135) (by rfl)) rfl
theorem gw_5_136 : Cond.static yX5_urgency ∈ zG := zGt5 (List.mem_of_getElem? (i := 136) (by rfl)) rfl
theorem gw_5_146 : Cond.code yX4_addTaking cX4_addTaking 3 (Option.none : Option Jvm.ClassFile.FieldType) ∈ zG := zGt5 (List.mem_of_getElem? (i := 146) (by rfl)) rfl
theorem gw_5_143 : Cond.methodLink RX5 168 yX4_addTaking ∈ zG := zGt5 (List.mem_of_getElem? (i := 143) (by rfl)) rfl
theorem gw_5_144 : Cond.instanceMethod yX4_addTaking ∈ zG := zGt5 (List.mem_of_getElem? (i := 144) (by rfl)) rfl
theorem gw_5_145 : Cond.selects RX4 yX4_addTaking yX4_addTaking ∈ zG := zGt5 (List.mem_of_getElem? (i := 145) (by rfl)) rfl
theorem gw_1_129 : Cond.fieldLink RX5 172 (TX7 5).1 (TX7 5).2.1 (TX7 5).2.2.1 ∈ zG := zGt1 (List.mem_of_getElem? (i := 129) (by rfl)) rfl
theorem gw_5_190 : Cond.code yX5_agree cX5_agree 3 (Option.some Jvm.ClassFile.FieldType.boolean) ∈ zG := zGt5 (List.mem_of_getElem? (i := 190) (by rfl)) rfl
theorem gw_5_187 : Cond.methodLink RX6 65 yX5_agree ∈ zG := zGt5 (List.mem_of_getElem? (i := 187) (by rfl)) rfl
theorem gw_5_188 : Cond.instanceMethod yX5_agree ∈ zG := zGt5 (List.mem_of_getElem? (i := 188) (by rfl)) rfl
theorem gw_5_189 : Cond.selects RX5 yX5_agree yX5_agree ∈ zG := zGt5 (List.mem_of_getElem? (i := 189) (by rfl)) rfl
theorem gw_5_197 : Cond.code yX6_finishBy cX6_finishBy 3 (Option.none : Option Jvm.ClassFile.FieldType) ∈ zG := zGt5 (List.mem_of_getElem? (i := 197) (by rfl)) rfl
theorem gw_1_12 : Cond.initialized RX6 ∈ zG := zGt1 (List.mem_of_getElem? (i := 12) (by rfl)) rfl
theorem gw_5_194 : Cond.methodLink RX6 69 yX6_finishBy ∈ zG := zGt5 (List.mem_of_getElem? (i := 194) (by rfl)) rfl
theorem gw_5_196 : Cond.instanceMethod yX6_finishBy ∈ zG := zGt5 (List.mem_of_getElem? (i := 196) (by rfl)) rfl
theorem gp_22 : Cond.selects RX6 yX6_finishBy yX6_finishBy ∈ zG := zGs (List.mem_of_getElem? (i := 22) (by rfl)) rfl
theorem gw_5_202 : Cond.methodLink RX6 73 yJ7_fill_53178 ∈ zG := zGt5 (List.mem_of_getElem? (i := 202) (by rfl)) rfl
theorem gw_5_203 : Cond.methodLink RX6 79 Lib.Math.abs.name ∈ zG := zGt5 (List.mem_of_getElem? (i := 203) (by rfl)) rfl
theorem gw_5_222 : Cond.code yX8_withinTrust cX8_withinTrust 1 (Option.some Jvm.ClassFile.FieldType.int) ∈ zG := zGt5 (List.mem_of_getElem? (i := 222) (by rfl)) rfl
theorem gw_5_221 : Cond.static yX8_withinTrust ∈ zG := zGt5 (List.mem_of_getElem? (i := 221) (by rfl)) rfl
theorem gw_1_228 : Cond.fieldLink RX8 114 (TX5 3).1 (TX5 3).2.1 (TX5 3).2.2.1 ∈ zG := zGt1 (List.mem_of_getElem? (i := 228) (by rfl)) rfl
theorem gw_1_220 : Cond.fieldLink RX8 117 (TX5 0).1 (TX5 0).2.1 (TX5 0).2.2.1 ∈ zG := zGt1 (List.mem_of_getElem? (i := 220) (by rfl)) rfl
theorem gw_1_223 : Cond.fieldLink RX8 120 (TX5 1).1 (TX5 1).2.1 (TX5 1).2.2.1 ∈ zG := zGt1 (List.mem_of_getElem? (i := 223) (by rfl)) rfl
theorem gw_1_226 : Cond.fieldLink RX8 123 (TX5 2).1 (TX5 2).2.1 (TX5 2).2.2.1 ∈ zG := zGt1 (List.mem_of_getElem? (i := 226) (by rfl)) rfl
theorem gw_2_222 : Cond.code yX5_countAudited cX5_countAudited 3 (Option.some Jvm.ClassFile.FieldType.int) ∈ zG := zGt2 (List.mem_of_getElem? (i := 222) (by rfl)) rfl
theorem gw_2_219 : Cond.methodLink RX8 126 yX5_countAudited ∈ zG := zGt2 (List.mem_of_getElem? (i := 219) (by rfl)) rfl
theorem gw_2_220 : Cond.instanceMethod yX5_countAudited ∈ zG := zGt2 (List.mem_of_getElem? (i := 220) (by rfl)) rfl
theorem gw_2_221 : Cond.selects RX5 yX5_countAudited yX5_countAudited ∈ zG := zGt2 (List.mem_of_getElem? (i := 221) (by rfl)) rfl
theorem gw_2_226 : Cond.code yX5_countInState cX5_countInState 4 (Option.some Jvm.ClassFile.FieldType.int) ∈ zG := zGt2 (List.mem_of_getElem? (i := 226) (by rfl)) rfl
theorem gw_2_223 : Cond.methodLink RX8 130 yX5_countInState ∈ zG := zGt2 (List.mem_of_getElem? (i := 223) (by rfl)) rfl
theorem gw_2_224 : Cond.instanceMethod yX5_countInState ∈ zG := zGt2 (List.mem_of_getElem? (i := 224) (by rfl)) rfl
theorem gw_2_225 : Cond.selects RX5 yX5_countInState yX5_countInState ∈ zG := zGt2 (List.mem_of_getElem? (i := 225) (by rfl)) rfl
theorem gw_5_29 : Cond.code yX8_requireWorker cX8_requireWorker 2 (Option.none : Option Jvm.ClassFile.FieldType) ∈ zG := zGt5 (List.mem_of_getElem? (i := 29) (by rfl)) rfl
theorem gw_5_26 : Cond.methodLink RX8 134 yX8_requireWorker ∈ zG := zGt5 (List.mem_of_getElem? (i := 26) (by rfl)) rfl
theorem gw_5_28 : Cond.instanceMethod yX8_requireWorker ∈ zG := zGt5 (List.mem_of_getElem? (i := 28) (by rfl)) rfl
theorem gp_17 : Cond.selects RX8 yX8_requireWorker yX8_requireWorker ∈ zG := zGs (List.mem_of_getElem? (i := 17) (by rfl)) rfl
theorem gw_1_236 : Cond.fieldLink RX8 137 (TX5 6).1 (TX5 6).2.1 (TX5 6).2.2.1 ∈ zG := zGt1 (List.mem_of_getElem? (i := 236) (by rfl)) rfl
theorem gw_1_115 : Cond.fieldLink RX8 141 (TX7 1).1 (TX7 1).2.1 (TX7 1).2.2.1 ∈ zG := zGt1 (List.mem_of_getElem? (i := 115) (by rfl)) rfl
theorem gw_1_118 : Cond.fieldLink RX8 146 (TX7 2).1 (TX7 2).2.1 (TX7 2).2.2.1 ∈ zG := zGt1 (List.mem_of_getElem? (i := 118) (by rfl)) rfl
theorem gw_1_122 : Cond.fieldLink RX8 149 (TX7 3).1 (TX7 3).2.1 (TX7 3).2.2.1 ∈ zG := zGt1 (List.mem_of_getElem? (i := 122) (by rfl)) rfl
theorem gw_1_125 : Cond.fieldLink RX8 152 (TX7 4).1 (TX7 4).2.1 (TX7 4).2.2.1 ∈ zG := zGt1 (List.mem_of_getElem? (i := 125) (by rfl)) rfl
theorem gw_1_128 : Cond.fieldLink RX8 155 (TX7 5).1 (TX7 5).2.1 (TX7 5).2.2.1 ∈ zG := zGt1 (List.mem_of_getElem? (i := 128) (by rfl)) rfl
theorem gw_1_131 : Cond.fieldLink RX8 158 (TX7 6).1 (TX7 6).2.1 (TX7 6).2.2.1 ∈ zG := zGt1 (List.mem_of_getElem? (i := 131) (by rfl)) rfl
theorem gw_1_134 : Cond.fieldLink RX8 161 (TX7 7).1 (TX7 7).2.1 (TX7 7).2.2.1 ∈ zG := zGt1 (List.mem_of_getElem? (i := 134) (by rfl)) rfl
theorem gw_1_137 : Cond.fieldLink RX8 164 (TX7 8).1 (TX7 8).2.1 (TX7 8).2.2.1 ∈ zG := zGt1 (List.mem_of_getElem? (i := 137) (by rfl)) rfl
theorem gw_1_140 : Cond.fieldLink RX8 167 (TX7 9).1 (TX7 9).2.1 (TX7 9).2.2.1 ∈ zG := zGt1 (List.mem_of_getElem? (i := 140) (by rfl)) rfl
theorem gw_5_61 : Cond.code yX8_requireRow cX8_requireRow 2 (Option.none : Option Jvm.ClassFile.FieldType) ∈ zG := zGt5 (List.mem_of_getElem? (i := 61) (by rfl)) rfl
theorem gw_5_58 : Cond.methodLink RX8 170 yX8_requireRow ∈ zG := zGt5 (List.mem_of_getElem? (i := 58) (by rfl)) rfl
theorem gw_5_60 : Cond.instanceMethod yX8_requireRow ∈ zG := zGt5 (List.mem_of_getElem? (i := 60) (by rfl)) rfl
theorem gp_18 : Cond.selects RX8 yX8_requireRow yX8_requireRow ∈ zG := zGs (List.mem_of_getElem? (i := 18) (by rfl)) rfl
theorem gw_1_173 : Cond.fieldLink RX8 182 (TX4 1).1 (TX4 1).2.1 (TX4 1).2.2.1 ∈ zG := zGt1 (List.mem_of_getElem? (i := 173) (by rfl)) rfl
theorem gw_1_176 : Cond.fieldLink RX8 185 (TX4 2).1 (TX4 2).2.1 (TX4 2).2.2.1 ∈ zG := zGt1 (List.mem_of_getElem? (i := 176) (by rfl)) rfl
theorem gw_1_179 : Cond.fieldLink RX8 188 (TX4 3).1 (TX4 3).2.1 (TX4 3).2.2.1 ∈ zG := zGt1 (List.mem_of_getElem? (i := 179) (by rfl)) rfl
theorem gw_1_194 : Cond.fieldLink RX8 192 (TX4 8).1 (TX4 8).2.1 (TX4 8).2.2.1 ∈ zG := zGt1 (List.mem_of_getElem? (i := 194) (by rfl)) rfl
theorem gw_5_63 : Cond.methodLink RX8 195 yX4_missingWorkers ∈ zG := zGt5 (List.mem_of_getElem? (i := 63) (by rfl)) rfl
theorem gw_1_184 : Cond.fieldLink RX8 198 (TX4 5).1 (TX4 5).2.1 (TX4 5).2.2.1 ∈ zG := zGt1 (List.mem_of_getElem? (i := 184) (by rfl)) rfl
theorem gw_5_77 : Cond.methodLink RX8 206 yX4_workerAt ∈ zG := zGt5 (List.mem_of_getElem? (i := 77) (by rfl)) rfl
theorem gw_5_81 : Cond.methodLink RX8 209 yX4_resultAt ∈ zG := zGt5 (List.mem_of_getElem? (i := 81) (by rfl)) rfl
theorem gw_5_90 : Cond.methodLink RX8 216 yX4_dueAt ∈ zG := zGt5 (List.mem_of_getElem? (i := 90) (by rfl)) rfl
theorem gw_1_187 : Cond.fieldLink RX8 219 (TX4 6).1 (TX4 6).2.1 (TX4 6).2.2.1 ∈ zG := zGt1 (List.mem_of_getElem? (i := 187) (by rfl)) rfl
theorem gw_1_190 : Cond.fieldLink RX8 222 (TX4 7).1 (TX4 7).2.1 (TX4 7).2.2.1 ∈ zG := zGt1 (List.mem_of_getElem? (i := 190) (by rfl)) rfl
theorem gw_2_0 : Cond.fieldLink RX8 247 (TX5 8).1 (TX5 8).2.1 (TX5 8).2.2.1 ∈ zG := zGt2 (List.mem_of_getElem? (i := 0) (by rfl)) rfl
theorem gw_6_106 : Cond.methodLink RX8 251 yX5_pairIndex ∈ zG := zGt6 (List.mem_of_getElem? (i := 106) (by rfl)) rfl
theorem gw_5_46 : Cond.methodLink RX8 254 yX5_areKeptApart ∈ zG := zGt5 (List.mem_of_getElem? (i := 46) (by rfl)) rfl
theorem gw_6_117 : Cond.code yX4_countLateAt cX4_countLateAt 4 (Option.some Jvm.ClassFile.FieldType.int) ∈ zG := zGt6 (List.mem_of_getElem? (i := 117) (by rfl)) rfl
theorem gw_6_114 : Cond.methodLink RX8 285 yX4_countLateAt ∈ zG := zGt6 (List.mem_of_getElem? (i := 114) (by rfl)) rfl
theorem gw_6_115 : Cond.instanceMethod yX4_countLateAt ∈ zG := zGt6 (List.mem_of_getElem? (i := 115) (by rfl)) rfl
theorem gw_6_116 : Cond.selects RX4 yX4_countLateAt yX4_countLateAt ∈ zG := zGt6 (List.mem_of_getElem? (i := 116) (by rfl)) rfl
theorem gw_3_40 : Cond.code yJ8_newLength_cabcc cJ8_newLength_cabcc 4 (Option.some Jvm.ClassFile.FieldType.int) ∈ zG := zGt3 (List.mem_of_getElem? (i := 40) (by rfl)) rfl
theorem gw_1_13 : Cond.initialized RJ8 ∈ zG := zGt1 (List.mem_of_getElem? (i := 13) (by rfl)) rfl
theorem gw_3_38 : Cond.methodLink RJ5 114 yJ8_newLength_cabcc ∈ zG := zGt3 (List.mem_of_getElem? (i := 38) (by rfl)) rfl
theorem gw_3_39 : Cond.static yJ8_newLength_cabcc ∈ zG := zGt3 (List.mem_of_getElem? (i := 39) (by rfl)) rfl
theorem gw_3_12 : Cond.constant RJ5 39 (Int32.ofInt 2147483647) ∈ zG := zGt3 (List.mem_of_getElem? (i := 12) (by rfl)) rfl
theorem gw_3_9 : Cond.code yJ0_coder_7d493 cJ0_coder_7d493 1 (Option.some Jvm.ClassFile.FieldType.byte) ∈ zG := zGt3 (List.mem_of_getElem? (i := 9) (by rfl)) rfl
theorem gw_1_6 : Cond.initialized RJ0 ∈ zG := zGt1 (List.mem_of_getElem? (i := 6) (by rfl)) rfl
theorem gw_3_13 : Cond.methodLink RJ5 40 yJ0_coder_7d493 ∈ zG := zGt3 (List.mem_of_getElem? (i := 13) (by rfl)) rfl
theorem gw_3_7 : Cond.instanceMethod yJ0_coder_7d493 ∈ zG := zGt3 (List.mem_of_getElem? (i := 7) (by rfl)) rfl
theorem gw_3_8 : Cond.selects RJ0 yJ0_coder_7d493 yJ0_coder_7d493 ∈ zG := zGt3 (List.mem_of_getElem? (i := 8) (by rfl)) rfl
theorem gw_3_236 : Cond.fieldLink RJ0 9 (TJ0 0).1 (TJ0 0).2.1 (TJ0 0).2.2.1 ∈ zG := zGt3 (List.mem_of_getElem? (i := 236) (by rfl)) rfl
theorem gw_3_6 : Cond.methodLink RJ0 335 yJ0_coder_7d493 ∈ zG := zGt3 (List.mem_of_getElem? (i := 6) (by rfl)) rfl
theorem gw_3_126 : Cond.methodLink RJ0 212 arraycopyName ∈ zG := zGt3 (List.mem_of_getElem? (i := 126) (by rfl)) rfl
theorem gw_3_81 : Cond.fieldLink RJ0 1053 "jdk/internal/util/Preconditions" "SIOOBE_FORMATTER" "Ljava/util/function/BiFunction;" ∈ zG := zGt3 (List.mem_of_getElem? (i := 81) (by rfl)) rfl
theorem gw_3_179 : Cond.code yJ3_checkIndex_8e157 cJ3_checkIndex_8e157 3 (Option.some Jvm.ClassFile.FieldType.int) ∈ zG := zGt3 (List.mem_of_getElem? (i := 179) (by rfl)) rfl
theorem gw_1_17 : Cond.initialized RJ3 ∈ zG := zGt1 (List.mem_of_getElem? (i := 17) (by rfl)) rfl
theorem gw_3_177 : Cond.methodLink RJ0 1059 yJ3_checkIndex_8e157 ∈ zG := zGt3 (List.mem_of_getElem? (i := 177) (by rfl)) rfl
theorem gw_3_178 : Cond.static yJ3_checkIndex_8e157 ∈ zG := zGt3 (List.mem_of_getElem? (i := 178) (by rfl)) rfl
theorem gw_3_176 : Cond.code yJ0_checkIndex_df160 cJ0_checkIndex_df160 2 (Option.none : Option Jvm.ClassFile.FieldType) ∈ zG := zGt3 (List.mem_of_getElem? (i := 176) (by rfl)) rfl
theorem gw_4_25 : Cond.methodLink RJ1 9 yJ0_checkIndex_df160 ∈ zG := zGt4 (List.mem_of_getElem? (i := 25) (by rfl)) rfl
theorem gw_3_175 : Cond.static yJ0_checkIndex_df160 ∈ zG := zGt3 (List.mem_of_getElem? (i := 175) (by rfl)) rfl
theorem gw_3_77 : Cond.code yJ2_length_9d52b cJ2_length_9d52b 1 (Option.some Jvm.ClassFile.FieldType.int) ∈ zG := zGt3 (List.mem_of_getElem? (i := 77) (by rfl)) rfl
theorem gw_1_7 : Cond.initialized RJ2 ∈ zG := zGt1 (List.mem_of_getElem? (i := 7) (by rfl)) rfl
theorem gw_3_75 : Cond.methodLink RJ2 48 yJ2_length_9d52b ∈ zG := zGt3 (List.mem_of_getElem? (i := 75) (by rfl)) rfl
theorem gw_3_76 : Cond.static yJ2_length_9d52b ∈ zG := zGt3 (List.mem_of_getElem? (i := 76) (by rfl)) rfl
theorem gw_3_174 : Cond.methodLink RJ2 414 yJ0_checkIndex_df160 ∈ zG := zGt3 (List.mem_of_getElem? (i := 174) (by rfl)) rfl
theorem gw_3_219 : Cond.code yJ7_copyOfRangeByte_39247 cJ7_copyOfRangeByte_39247 5 (Option.some (Jvm.ClassFile.FieldType.array Jvm.ClassFile.FieldType.byte)) ∈ zG := zGt3 (List.mem_of_getElem? (i := 219) (by rfl)) rfl
theorem gw_3_217 : Cond.methodLink RJ7 339 yJ7_copyOfRangeByte_39247 ∈ zG := zGt3 (List.mem_of_getElem? (i := 217) (by rfl)) rfl
theorem gw_3_218 : Cond.static yJ7_copyOfRangeByte_39247 ∈ zG := zGt3 (List.mem_of_getElem? (i := 218) (by rfl)) rfl
theorem gw_2_62 : Cond.methodLink RX0 3 Lib.objectInit ∈ zG := zGt2 (List.mem_of_getElem? (i := 62) (by rfl)) rfl
theorem gw_2_66 : Cond.fieldLink RX0 9 (TX0 0).1 (TX0 0).2.1 (TX0 0).2.2.1 ∈ zG := zGt2 (List.mem_of_getElem? (i := 66) (by rfl)) rfl
theorem gw_2_69 : Cond.lays RX0 "ReviewTable$History" "count" "I" ∈ zG := zGt2 (List.mem_of_getElem? (i := 69) (by rfl)) rfl
theorem gw_2_71 : Cond.lays RX0 "ReviewTable$History" "next" "I" ∈ zG := zGt2 (List.mem_of_getElem? (i := 71) (by rfl)) rfl
theorem gw_2_73 : Cond.laysFinal RX0 "ReviewTable$History" "tables" "[LReviewTable$Table;" ∈ zG := zGt2 (List.mem_of_getElem? (i := 73) (by rfl)) rfl
theorem ui_X0 : ∀ w ∈ u_ws RX0 TX0 3, w ∈ zG := show ∀ w ∈ [Cond.lays RX0 "ReviewTable$History" "count" "I", Cond.lays RX0 "ReviewTable$History" "next" "I", Cond.laysFinal RX0 "ReviewTable$History" "tables" "[LReviewTable$Table;"], w ∈ zG from List.forall_mem_cons.mpr ⟨gw_2_69, List.forall_mem_cons.mpr ⟨gw_2_71, List.forall_mem_cons.mpr ⟨gw_2_73, fun _ h => nomatch h⟩⟩⟩
theorem zc_X0 : zcl2 4 RX0 TX0 3 := ⟨rfl, by decide⟩
theorem gw_2_67 : Cond.fieldLink RX0 15 (TX0 1).1 (TX0 1).2.1 (TX0 1).2.2.1 ∈ zG := zGt2 (List.mem_of_getElem? (i := 67) (by rfl)) rfl
theorem gw_2_63 : Cond.classLink RX0 18 "ReviewTable$Table" ∈ zG := zGt2 (List.mem_of_getElem? (i := 63) (by rfl)) rfl
theorem gw_2_68 : Cond.fieldLink RX0 20 (TX0 2).1 (TX0 2).2.1 (TX0 2).2.2.1 ∈ zG := zGt2 (List.mem_of_getElem? (i := 68) (by rfl)) rfl
theorem gw_1_97 : Cond.instantiable RX5 10 ∈ zG := zGt1 (List.mem_of_getElem? (i := 97) (by rfl)) rfl
theorem gw_1_100 : Cond.code yX5_init cX5_init 2 (Option.none : Option Jvm.ClassFile.FieldType) ∈ zG := zGt1 (List.mem_of_getElem? (i := 100) (by rfl)) rfl
theorem gw_2_65 : Cond.methodLink RX0 24 yX5_init ∈ zG := zGt2 (List.mem_of_getElem? (i := 65) (by rfl)) rfl
theorem gw_1_99 : Cond.instanceMethod yX5_init ∈ zG := zGt1 (List.mem_of_getElem? (i := 99) (by rfl)) rfl
theorem gw_5_1 : Cond.code yX5_copyFrom cX5_copyFrom 3 (Option.none : Option Jvm.ClassFile.FieldType) ∈ zG := zGt5 (List.mem_of_getElem? (i := 1) (by rfl)) rfl
theorem gw_4_238 : Cond.methodLink RX0 25 yX5_copyFrom ∈ zG := zGt4 (List.mem_of_getElem? (i := 238) (by rfl)) rfl
theorem gw_4_239 : Cond.instanceMethod yX5_copyFrom ∈ zG := zGt4 (List.mem_of_getElem? (i := 239) (by rfl)) rfl
theorem gw_5_0 : Cond.selects RX5 yX5_copyFrom yX5_copyFrom ∈ zG := zGt5 (List.mem_of_getElem? (i := 0) (by rfl)) rfl
theorem gw_5_12 : Cond.methodLink RX0 29 Lib.Math.min.name ∈ zG := zGt5 (List.mem_of_getElem? (i := 12) (by rfl)) rfl
theorem gw_1_42 : Cond.methodLink RX3 3 Lib.objectInit ∈ zG := zGt1 (List.mem_of_getElem? (i := 42) (by rfl)) rfl
theorem gw_1_43 : Cond.classLink RX3 9 RX1 ∈ zG := zGt1 (List.mem_of_getElem? (i := 43) (by rfl)) rfl
theorem gw_1_44 : Cond.instantiable RX1 3 ∈ zG := zGt1 (List.mem_of_getElem? (i := 44) (by rfl)) rfl
theorem gw_1_47 : Cond.code yX1_init cX1_init 1 (Option.none : Option Jvm.ClassFile.FieldType) ∈ zG := zGt1 (List.mem_of_getElem? (i := 47) (by rfl)) rfl
theorem gw_1_46 : Cond.instanceMethod yX1_init ∈ zG := zGt1 (List.mem_of_getElem? (i := 46) (by rfl)) rfl
theorem gw_1_96 : Cond.classLink RX3 18 RX5 ∈ zG := zGt1 (List.mem_of_getElem? (i := 96) (by rfl)) rfl
theorem gw_1_98 : Cond.methodLink RX3 20 yX5_init ∈ zG := zGt1 (List.mem_of_getElem? (i := 98) (by rfl)) rfl
theorem gw_2_29 : Cond.fieldLink RX3 21 (TX3 3).1 (TX3 3).2.1 (TX3 3).2.2.1 ∈ zG := zGt2 (List.mem_of_getElem? (i := 29) (by rfl)) rfl
theorem gw_4_121 : Cond.code yX3_isAtNumber cX3_isAtNumber 3 (Option.some Jvm.ClassFile.FieldType.boolean) ∈ zG := zGt4 (List.mem_of_getElem? (i := 121) (by rfl)) rfl
theorem gw_4_118 : Cond.methodLink RX3 144 yX3_isAtNumber ∈ zG := zGt4 (List.mem_of_getElem? (i := 118) (by rfl)) rfl
theorem gw_4_120 : Cond.instanceMethod yX3_isAtNumber ∈ zG := zGt4 (List.mem_of_getElem? (i := 120) (by rfl)) rfl
theorem gp_9 : Cond.selects RX3 yX3_isAtNumber yX3_isAtNumber ∈ zG := zGs (List.mem_of_getElem? (i := 9) (by rfl)) rfl
theorem gw_2_35 : Cond.fieldLink RX3 68 (TX3 8).1 (TX3 8).2.1 (TX3 8).2.2.1 ∈ zG := zGt2 (List.mem_of_getElem? (i := 35) (by rfl)) rfl
theorem gw_4_76 : Cond.code yX3_nextToken cX3_nextToken 1 (Option.none : Option Jvm.ClassFile.FieldType) ∈ zG := zGt4 (List.mem_of_getElem? (i := 76) (by rfl)) rfl
theorem gw_4_73 : Cond.methodLink RX3 38 yX3_nextToken ∈ zG := zGt4 (List.mem_of_getElem? (i := 73) (by rfl)) rfl
theorem gw_4_75 : Cond.instanceMethod yX3_nextToken ∈ zG := zGt4 (List.mem_of_getElem? (i := 75) (by rfl)) rfl
theorem gp_1 : Cond.selects RX3 yX3_nextToken yX3_nextToken ∈ zG := zGs (List.mem_of_getElem? (i := 1) (by rfl)) rfl
theorem gw_2_83 : Cond.fieldLink RX5 181 (TX6 0).1 (TX6 0).2.1 (TX6 0).2.2.1 ∈ zG := zGt2 (List.mem_of_getElem? (i := 83) (by rfl)) rfl
theorem gw_2_92 : Cond.fieldLink RX5 184 (TX6 4).1 (TX6 4).2.1 (TX6 4).2.2.1 ∈ zG := zGt2 (List.mem_of_getElem? (i := 92) (by rfl)) rfl
theorem gw_5_219 : Cond.code yX7_changeTrust cX7_changeTrust 2 (Option.none : Option Jvm.ClassFile.FieldType) ∈ zG := zGt5 (List.mem_of_getElem? (i := 219) (by rfl)) rfl
theorem gw_5_216 : Cond.methodLink RX5 187 yX7_changeTrust ∈ zG := zGt5 (List.mem_of_getElem? (i := 216) (by rfl)) rfl
theorem gw_5_217 : Cond.instanceMethod yX7_changeTrust ∈ zG := zGt5 (List.mem_of_getElem? (i := 217) (by rfl)) rfl
theorem gw_5_218 : Cond.selects RX7 yX7_changeTrust yX7_changeTrust ∈ zG := zGt5 (List.mem_of_getElem? (i := 218) (by rfl)) rfl
theorem gw_2_86 : Cond.fieldLink RX5 190 (TX6 1).1 (TX6 1).2.1 (TX6 1).2.2.1 ∈ zG := zGt2 (List.mem_of_getElem? (i := 86) (by rfl)) rfl
theorem gw_1_177 : Cond.fieldLink RX5 193 (TX4 2).1 (TX4 2).2.1 (TX4 2).2.2.1 ∈ zG := zGt1 (List.mem_of_getElem? (i := 177) (by rfl)) rfl
theorem gw_2_88 : Cond.fieldLink RX5 194 (TX6 2).1 (TX6 2).2.1 (TX6 2).2.2.1 ∈ zG := zGt2 (List.mem_of_getElem? (i := 88) (by rfl)) rfl
theorem gw_1_188 : Cond.fieldLink RX5 197 (TX4 6).1 (TX4 6).2.1 (TX4 6).2.2.1 ∈ zG := zGt1 (List.mem_of_getElem? (i := 188) (by rfl)) rfl
theorem gw_2_90 : Cond.fieldLink RX5 200 (TX6 3).1 (TX6 3).2.1 (TX6 3).2.2.1 ∈ zG := zGt2 (List.mem_of_getElem? (i := 90) (by rfl)) rfl
theorem gw_1_191 : Cond.fieldLink RX5 203 (TX4 7).1 (TX4 7).2.1 (TX4 7).2.2.1 ∈ zG := zGt1 (List.mem_of_getElem? (i := 191) (by rfl)) rfl
theorem gw_1_170 : Cond.fieldLink RX5 206 (TX4 0).1 (TX4 0).2.1 (TX4 0).2.2.1 ∈ zG := zGt1 (List.mem_of_getElem? (i := 170) (by rfl)) rfl
theorem gw_5_228 : Cond.code yX5_reward cX5_reward 3 (Option.none : Option Jvm.ClassFile.FieldType) ∈ zG := zGt5 (List.mem_of_getElem? (i := 228) (by rfl)) rfl
theorem gw_5_225 : Cond.methodLink RX5 209 yX5_reward ∈ zG := zGt5 (List.mem_of_getElem? (i := 225) (by rfl)) rfl
theorem gw_5_226 : Cond.instanceMethod yX5_reward ∈ zG := zGt5 (List.mem_of_getElem? (i := 226) (by rfl)) rfl
theorem gw_5_227 : Cond.selects RX5 yX5_reward yX5_reward ∈ zG := zGt5 (List.mem_of_getElem? (i := 227) (by rfl)) rfl
theorem gw_1_138 : Cond.fieldLink RX5 235 (TX7 8).1 (TX7 8).2.1 (TX7 8).2.2.1 ∈ zG := zGt1 (List.mem_of_getElem? (i := 138) (by rfl)) rfl
theorem gw_6_27 : Cond.methodLink RX5 238 yX4_resultAt ∈ zG := zGt6 (List.mem_of_getElem? (i := 27) (by rfl)) rfl
theorem gw_6_28 : Cond.methodLink RX5 110 yX5_agree ∈ zG := zGt6 (List.mem_of_getElem? (i := 28) (by rfl)) rfl
theorem gw_1_182 : Cond.fieldLink RX5 241 (TX4 4).1 (TX4 4).2.1 (TX4 4).2.2.1 ∈ zG := zGt1 (List.mem_of_getElem? (i := 182) (by rfl)) rfl
theorem gw_1_171 : Cond.fieldLink RX6 21 (TX4 1).1 (TX4 1).2.1 (TX4 1).2.2.1 ∈ zG := zGt1 (List.mem_of_getElem? (i := 171) (by rfl)) rfl
theorem gw_1_192 : Cond.fieldLink RX6 37 (TX4 8).1 (TX4 8).2.1 (TX4 8).2.2.1 ∈ zG := zGt1 (List.mem_of_getElem? (i := 192) (by rfl)) rfl
theorem gw_5_181 : Cond.methodLink RX6 40 yX4_resultAt ∈ zG := zGt5 (List.mem_of_getElem? (i := 181) (by rfl)) rfl
theorem gw_1_235 : Cond.fieldLink RX6 44 (TX5 6).1 (TX5 6).2.1 (TX5 6).2.2.1 ∈ zG := zGt1 (List.mem_of_getElem? (i := 235) (by rfl)) rfl
theorem gw_5_182 : Cond.methodLink RX6 50 yX4_workerAt ∈ zG := zGt5 (List.mem_of_getElem? (i := 182) (by rfl)) rfl
theorem gw_1_121 : Cond.fieldLink RX6 53 (TX7 3).1 (TX7 3).2.1 (TX7 3).2.2.1 ∈ zG := zGt1 (List.mem_of_getElem? (i := 121) (by rfl)) rfl
theorem gw_5_186 : Cond.code yX6_judgePair cX6_judgePair 2 (Option.none : Option Jvm.ClassFile.FieldType) ∈ zG := zGt5 (List.mem_of_getElem? (i := 186) (by rfl)) rfl
theorem gw_5_183 : Cond.methodLink RX6 58 yX6_judgePair ∈ zG := zGt5 (List.mem_of_getElem? (i := 183) (by rfl)) rfl
theorem gw_5_185 : Cond.instanceMethod yX6_judgePair ∈ zG := zGt5 (List.mem_of_getElem? (i := 185) (by rfl)) rfl
theorem gp_21 : Cond.selects RX6 yX6_judgePair yX6_judgePair ∈ zG := zGs (List.mem_of_getElem? (i := 21) (by rfl)) rfl
theorem gw_5_201 : Cond.code yX6_judgeThird cX6_judgeThird 4 (Option.none : Option Jvm.ClassFile.FieldType) ∈ zG := zGt5 (List.mem_of_getElem? (i := 201) (by rfl)) rfl
theorem gw_5_198 : Cond.methodLink RX6 62 yX6_judgeThird ∈ zG := zGt5 (List.mem_of_getElem? (i := 198) (by rfl)) rfl
theorem gw_5_200 : Cond.instanceMethod yX6_judgeThird ∈ zG := zGt5 (List.mem_of_getElem? (i := 200) (by rfl)) rfl
theorem gp_23 : Cond.selects RX6 yX6_judgeThird yX6_judgeThird ∈ zG := zGs (List.mem_of_getElem? (i := 23) (by rfl)) rfl
theorem gw_1_34 : Cond.methodLink RX8 1 Lib.objectInit ∈ zG := zGt1 (List.mem_of_getElem? (i := 34) (by rfl)) rfl
theorem gw_1_37 : Cond.classLink RX8 7 RX3 ∈ zG := zGt1 (List.mem_of_getElem? (i := 37) (by rfl)) rfl
theorem gw_1_38 : Cond.instantiable RX3 9 ∈ zG := zGt1 (List.mem_of_getElem? (i := 38) (by rfl)) rfl
theorem gw_1_41 : Cond.code yX3_init cX3_init 1 (Option.none : Option Jvm.ClassFile.FieldType) ∈ zG := zGt1 (List.mem_of_getElem? (i := 41) (by rfl)) rfl
theorem gw_1_40 : Cond.instanceMethod yX3_init ∈ zG := zGt1 (List.mem_of_getElem? (i := 40) (by rfl)) rfl
theorem gw_2_114 : Cond.fieldLink RX8 10 (TX8 0).1 (TX8 0).2.1 (TX8 0).2.2.1 ∈ zG := zGt2 (List.mem_of_getElem? (i := 114) (by rfl)) rfl
theorem gw_2_28 : Cond.fieldLink RX8 16 (TX3 2).1 (TX3 2).2.1 (TX3 2).2.2.1 ∈ zG := zGt2 (List.mem_of_getElem? (i := 28) (by rfl)) rfl
theorem gw_2_55 : Cond.classLink RX8 21 RX5 ∈ zG := zGt2 (List.mem_of_getElem? (i := 55) (by rfl)) rfl
theorem gw_2_56 : Cond.methodLink RX8 23 yX5_init ∈ zG := zGt2 (List.mem_of_getElem? (i := 56) (by rfl)) rfl
theorem gw_2_57 : Cond.classLink RX8 28 RX0 ∈ zG := zGt2 (List.mem_of_getElem? (i := 57) (by rfl)) rfl
theorem gw_2_58 : Cond.instantiable RX0 3 ∈ zG := zGt2 (List.mem_of_getElem? (i := 58) (by rfl)) rfl
theorem gw_1_11 : Cond.initialized RX0 ∈ zG := zGt1 (List.mem_of_getElem? (i := 11) (by rfl)) rfl
theorem gw_2_61 : Cond.code yX0_init cX0_init 2 (Option.none : Option Jvm.ClassFile.FieldType) ∈ zG := zGt2 (List.mem_of_getElem? (i := 61) (by rfl)) rfl
theorem gw_2_59 : Cond.methodLink RX8 30 yX0_init ∈ zG := zGt2 (List.mem_of_getElem? (i := 59) (by rfl)) rfl
theorem gw_2_60 : Cond.instanceMethod yX0_init ∈ zG := zGt2 (List.mem_of_getElem? (i := 60) (by rfl)) rfl
theorem gw_2_117 : Cond.fieldLink RX8 31 (TX8 3).1 (TX8 3).2.1 (TX8 3).2.2.1 ∈ zG := zGt2 (List.mem_of_getElem? (i := 117) (by rfl)) rfl
theorem gw_2_118 : Cond.fieldLink RX8 35 (TX8 4).1 (TX8 4).2.1 (TX8 4).2.2.1 ∈ zG := zGt2 (List.mem_of_getElem? (i := 118) (by rfl)) rfl
theorem gw_2_111 : Cond.arrayClass (newarray.typeOf .boolean) ∈ zG := zGt2 (List.mem_of_getElem? (i := 111) (by rfl)) rfl
theorem gw_2_119 : Cond.fieldLink RX8 39 (TX8 5).1 (TX8 5).2.1 (TX8 5).2.2.1 ∈ zG := zGt2 (List.mem_of_getElem? (i := 119) (by rfl)) rfl
theorem gw_2_76 : Cond.classLink RX8 43 RX6 ∈ zG := zGt2 (List.mem_of_getElem? (i := 76) (by rfl)) rfl
theorem gw_2_77 : Cond.instantiable RX6 7 ∈ zG := zGt2 (List.mem_of_getElem? (i := 77) (by rfl)) rfl
theorem gw_2_80 : Cond.code yX6_init cX6_init 1 (Option.none : Option Jvm.ClassFile.FieldType) ∈ zG := zGt2 (List.mem_of_getElem? (i := 80) (by rfl)) rfl
theorem gw_2_79 : Cond.instanceMethod yX6_init ∈ zG := zGt2 (List.mem_of_getElem? (i := 79) (by rfl)) rfl
theorem gw_2_120 : Cond.fieldLink RX8 46 (TX8 6).1 (TX8 6).2.1 (TX8 6).2.2.1 ∈ zG := zGt2 (List.mem_of_getElem? (i := 120) (by rfl)) rfl
theorem gw_2_112 : Cond.classLink RX8 50 RJ4 ∈ zG := zGt2 (List.mem_of_getElem? (i := 112) (by rfl)) rfl
theorem gw_2_113 : Cond.methodLink RX8 52 yJ4_init_da8c8 ∈ zG := zGt2 (List.mem_of_getElem? (i := 113) (by rfl)) rfl
theorem gw_2_121 : Cond.fieldLink RX8 53 (TX8 7).1 (TX8 7).2.1 (TX8 7).2.2.1 ∈ zG := zGt2 (List.mem_of_getElem? (i := 121) (by rfl)) rfl
theorem gw_5_170 : Cond.code yX8_requireInWork cX8_requireInWork 4 (Option.some Jvm.ClassFile.FieldType.int) ∈ zG := zGt5 (List.mem_of_getElem? (i := 170) (by rfl)) rfl
theorem gw_5_167 : Cond.methodLink RX8 288 yX8_requireInWork ∈ zG := zGt5 (List.mem_of_getElem? (i := 167) (by rfl)) rfl
theorem gw_5_169 : Cond.instanceMethod yX8_requireInWork ∈ zG := zGt5 (List.mem_of_getElem? (i := 169) (by rfl)) rfl
theorem gp_20 : Cond.selects RX8 yX8_requireInWork yX8_requireInWork ∈ zG := zGs (List.mem_of_getElem? (i := 20) (by rfl)) rfl
theorem gw_5_180 : Cond.code yX6_judge cX6_judge 7 (Option.none : Option Jvm.ClassFile.FieldType) ∈ zG := zGt5 (List.mem_of_getElem? (i := 180) (by rfl)) rfl
theorem gw_5_177 : Cond.methodLink RX8 291 yX6_judge ∈ zG := zGt5 (List.mem_of_getElem? (i := 177) (by rfl)) rfl
theorem gw_5_178 : Cond.instanceMethod yX6_judge ∈ zG := zGt5 (List.mem_of_getElem? (i := 178) (by rfl)) rfl
theorem gw_5_179 : Cond.selects RX6 yX6_judge yX6_judge ∈ zG := zGt5 (List.mem_of_getElem? (i := 179) (by rfl)) rfl
theorem gw_2_84 : Cond.fieldLink RX8 295 (TX6 0).1 (TX6 0).2.1 (TX6 0).2.2.1 ∈ zG := zGt2 (List.mem_of_getElem? (i := 84) (by rfl)) rfl
theorem gw_2_93 : Cond.fieldLink RX8 299 (TX6 4).1 (TX6 4).2.1 (TX6 4).2.2.1 ∈ zG := zGt2 (List.mem_of_getElem? (i := 93) (by rfl)) rfl
theorem gw_6_84 : Cond.methodLink RX8 302 yX8_withinTrust ∈ zG := zGt6 (List.mem_of_getElem? (i := 84) (by rfl)) rfl
theorem gw_5_115 : Cond.code yX5_chosenRow cX5_chosenRow 6 (Option.some Jvm.ClassFile.FieldType.int) ∈ zG := zGt5 (List.mem_of_getElem? (i := 115) (by rfl)) rfl
theorem gw_5_112 : Cond.methodLink RX8 232 yX5_chosenRow ∈ zG := zGt5 (List.mem_of_getElem? (i := 112) (by rfl)) rfl
theorem gw_5_113 : Cond.instanceMethod yX5_chosenRow ∈ zG := zGt5 (List.mem_of_getElem? (i := 113) (by rfl)) rfl
theorem gw_5_114 : Cond.selects RX5 yX5_chosenRow yX5_chosenRow ∈ zG := zGt5 (List.mem_of_getElem? (i := 114) (by rfl)) rfl
theorem gw_4_237 : Cond.code yX0_remember cX0_remember 2 (Option.none : Option Jvm.ClassFile.FieldType) ∈ zG := zGt4 (List.mem_of_getElem? (i := 237) (by rfl)) rfl
theorem gw_4_234 : Cond.methodLink RX8 94 yX0_remember ∈ zG := zGt4 (List.mem_of_getElem? (i := 234) (by rfl)) rfl
theorem gw_4_235 : Cond.instanceMethod yX0_remember ∈ zG := zGt4 (List.mem_of_getElem? (i := 235) (by rfl)) rfl
theorem gw_4_236 : Cond.selects RX0 yX0_remember yX0_remember ∈ zG := zGt4 (List.mem_of_getElem? (i := 236) (by rfl)) rfl
theorem gw_5_142 : Cond.code yX5_startTaking cX5_startTaking 4 (Option.some Jvm.ClassFile.FieldType.int) ∈ zG := zGt5 (List.mem_of_getElem? (i := 142) (by rfl)) rfl
theorem gw_5_139 : Cond.methodLink RX8 310 yX5_startTaking ∈ zG := zGt5 (List.mem_of_getElem? (i := 139) (by rfl)) rfl
theorem gw_5_140 : Cond.instanceMethod yX5_startTaking ∈ zG := zGt5 (List.mem_of_getElem? (i := 140) (by rfl)) rfl
theorem gw_5_141 : Cond.selects RX5 yX5_startTaking yX5_startTaking ∈ zG := zGt5 (List.mem_of_getElem? (i := 141) (by rfl)) rfl
theorem gw_5_158 : Cond.methodLink RX8 225 yX5_reasonAgainst ∈ zG := zGt5 (List.mem_of_getElem? (i := 158) (by rfl)) rfl
theorem gw_5_207 : Cond.code yX5_enterResult cX5_enterResult 5 (Option.none : Option Jvm.ClassFile.FieldType) ∈ zG := zGt5 (List.mem_of_getElem? (i := 207) (by rfl)) rfl
theorem gw_5_204 : Cond.methodLink RX8 315 yX5_enterResult ∈ zG := zGt5 (List.mem_of_getElem? (i := 204) (by rfl)) rfl
theorem gw_5_205 : Cond.instanceMethod yX5_enterResult ∈ zG := zGt5 (List.mem_of_getElem? (i := 205) (by rfl)) rfl
theorem gw_5_206 : Cond.selects RX5 yX5_enterResult yX5_enterResult ∈ zG := zGt5 (List.mem_of_getElem? (i := 206) (by rfl)) rfl
theorem gw_5_215 : Cond.code yX5_settle cX5_settle 5 (Option.none : Option Jvm.ClassFile.FieldType) ∈ zG := zGt5 (List.mem_of_getElem? (i := 215) (by rfl)) rfl
theorem gw_5_212 : Cond.methodLink RX8 318 yX5_settle ∈ zG := zGt5 (List.mem_of_getElem? (i := 212) (by rfl)) rfl
theorem gw_5_213 : Cond.instanceMethod yX5_settle ∈ zG := zGt5 (List.mem_of_getElem? (i := 213) (by rfl)) rfl
theorem gw_5_214 : Cond.selects RX5 yX5_settle yX5_settle ∈ zG := zGt5 (List.mem_of_getElem? (i := 214) (by rfl)) rfl
theorem gw_6_26 : Cond.code yX5_examine cX5_examine 4 (Option.some Jvm.ClassFile.FieldType.boolean) ∈ zG := zGt6 (List.mem_of_getElem? (i := 26) (by rfl)) rfl
theorem gw_6_23 : Cond.methodLink RX8 327 yX5_examine ∈ zG := zGt6 (List.mem_of_getElem? (i := 23) (by rfl)) rfl
theorem gw_6_24 : Cond.instanceMethod yX5_examine ∈ zG := zGt6 (List.mem_of_getElem? (i := 24) (by rfl)) rfl
theorem gw_6_25 : Cond.selects RX5 yX5_examine yX5_examine ∈ zG := zGt6 (List.mem_of_getElem? (i := 25) (by rfl)) rfl
theorem gw_6_49 : Cond.methodLink RX8 271 yX5_isSuspended ∈ zG := zGt6 (List.mem_of_getElem? (i := 49) (by rfl)) rfl
theorem gw_4_233 : Cond.code yX5_tellApart cX5_tellApart 5 (Option.none : Option Jvm.ClassFile.FieldType) ∈ zG := zGt4 (List.mem_of_getElem? (i := 233) (by rfl)) rfl
theorem gw_6_56 : Cond.methodLink RX8 343 yX5_tellApart ∈ zG := zGt6 (List.mem_of_getElem? (i := 56) (by rfl)) rfl
theorem gw_4_231 : Cond.instanceMethod yX5_tellApart ∈ zG := zGt4 (List.mem_of_getElem? (i := 231) (by rfl)) rfl
theorem gw_4_232 : Cond.selects RX5 yX5_tellApart yX5_tellApart ∈ zG := zGt4 (List.mem_of_getElem? (i := 232) (by rfl)) rfl
theorem gw_4_202 : Cond.code yX5_hasRoomFor cX5_hasRoomFor 2 (Option.some Jvm.ClassFile.FieldType.boolean) ∈ zG := zGt4 (List.mem_of_getElem? (i := 202) (by rfl)) rfl
theorem gw_5_101 : Cond.methodLink RX8 347 yX5_hasRoomFor ∈ zG := zGt5 (List.mem_of_getElem? (i := 101) (by rfl)) rfl
theorem gw_4_200 : Cond.instanceMethod yX5_hasRoomFor ∈ zG := zGt4 (List.mem_of_getElem? (i := 200) (by rfl)) rfl
theorem gw_4_201 : Cond.selects RX5 yX5_hasRoomFor yX5_hasRoomFor ∈ zG := zGt4 (List.mem_of_getElem? (i := 201) (by rfl)) rfl
theorem gw_4_208 : Cond.code yX5_putRows cX5_putRows 4 (Option.none : Option Jvm.ClassFile.FieldType) ∈ zG := zGt4 (List.mem_of_getElem? (i := 208) (by rfl)) rfl
theorem gw_5_103 : Cond.methodLink RX8 352 yX5_putRows ∈ zG := zGt5 (List.mem_of_getElem? (i := 103) (by rfl)) rfl
theorem gw_4_206 : Cond.instanceMethod yX5_putRows ∈ zG := zGt4 (List.mem_of_getElem? (i := 206) (by rfl)) rfl
theorem gw_4_207 : Cond.selects RX5 yX5_putRows yX5_putRows ∈ zG := zGt4 (List.mem_of_getElem? (i := 207) (by rfl)) rfl
theorem gw_6_63 : Cond.code yX8_requireSetting cX8_requireSetting 2 (Option.none : Option Jvm.ClassFile.FieldType) ∈ zG := zGt6 (List.mem_of_getElem? (i := 63) (by rfl)) rfl
theorem gw_6_61 : Cond.methodLink RX8 356 yX8_requireSetting ∈ zG := zGt6 (List.mem_of_getElem? (i := 61) (by rfl)) rfl
theorem gw_6_62 : Cond.static yX8_requireSetting ∈ zG := zGt6 (List.mem_of_getElem? (i := 62) (by rfl)) rfl
theorem gw_2_148 : Cond.code yX8_property cX8_property 2 (Option.some Jvm.ClassFile.FieldType.int) ∈ zG := zGt2 (List.mem_of_getElem? (i := 148) (by rfl)) rfl
theorem gw_6_64 : Cond.methodLink RX8 359 yX8_property ∈ zG := zGt6 (List.mem_of_getElem? (i := 64) (by rfl)) rfl
theorem gw_2_146 : Cond.instanceMethod yX8_property ∈ zG := zGt2 (List.mem_of_getElem? (i := 146) (by rfl)) rfl
theorem gw_2_147 : Cond.selects RX8 yX8_property yX8_property ∈ zG := zGt2 (List.mem_of_getElem? (i := 147) (by rfl)) rfl
theorem gw_3_37 : Cond.code yJ5_newCapacity_0f7a4 cJ5_newCapacity_0f7a4 6 (Option.some Jvm.ClassFile.FieldType.int) ∈ zG := zGt3 (List.mem_of_getElem? (i := 37) (by rfl)) rfl
theorem gw_3_34 : Cond.methodLink RJ5 104 yJ5_newCapacity_0f7a4 ∈ zG := zGt3 (List.mem_of_getElem? (i := 34) (by rfl)) rfl
theorem gw_3_36 : Cond.instanceMethod yJ5_newCapacity_0f7a4 ∈ zG := zGt3 (List.mem_of_getElem? (i := 36) (by rfl)) rfl
theorem gx_0 : Cond.selects RJ4 yJ5_newCapacity_0f7a4 yJ5_newCapacity_0f7a4 ∈ zG := zGx (List.mem_of_getElem? (i := 0) (by rfl)) rfl
theorem gw_3_50 : Cond.code yJ7_copyOf_9075b cJ7_copyOf_9075b 3 (Option.some (Jvm.ClassFile.FieldType.array Jvm.ClassFile.FieldType.byte)) ∈ zG := zGt3 (List.mem_of_getElem? (i := 50) (by rfl)) rfl
theorem gw_3_48 : Cond.methodLink RJ5 108 yJ7_copyOf_9075b ∈ zG := zGt3 (List.mem_of_getElem? (i := 48) (by rfl)) rfl
theorem gw_3_49 : Cond.static yJ7_copyOf_9075b ∈ zG := zGt3 (List.mem_of_getElem? (i := 49) (by rfl)) rfl
theorem gw_3_33 : Cond.code yJ5_ensureCapacityInternal_d00df cJ5_ensureCapacityInternal_d00df 3 (Option.none : Option Jvm.ClassFile.FieldType) ∈ zG := zGt3 (List.mem_of_getElem? (i := 33) (by rfl)) rfl
theorem gw_3_30 : Cond.methodLink RJ5 100 yJ5_ensureCapacityInternal_d00df ∈ zG := zGt3 (List.mem_of_getElem? (i := 30) (by rfl)) rfl
theorem gw_3_32 : Cond.instanceMethod yJ5_ensureCapacityInternal_d00df ∈ zG := zGt3 (List.mem_of_getElem? (i := 32) (by rfl)) rfl
theorem gx_1 : Cond.selects RJ4 yJ5_ensureCapacityInternal_d00df yJ5_ensureCapacityInternal_d00df ∈ zG := zGx (List.mem_of_getElem? (i := 1) (by rfl)) rfl
theorem gw_1_69 : Cond.fieldLink RJ5 73 (TJ4 2).1 (TJ4 2).2.1 (TJ4 2).2.2.1 ∈ zG := zGt1 (List.mem_of_getElem? (i := 69) (by rfl)) rfl
theorem gw_3_68 : Cond.code yJ5_isLatin1_aae02 cJ5_isLatin1_aae02 1 (Option.some Jvm.ClassFile.FieldType.boolean) ∈ zG := zGt3 (List.mem_of_getElem? (i := 68) (by rfl)) rfl
theorem gw_3_64 : Cond.methodLink RJ5 83 yJ5_isLatin1_aae02 ∈ zG := zGt3 (List.mem_of_getElem? (i := 64) (by rfl)) rfl
theorem gw_3_65 : Cond.instanceMethod yJ5_isLatin1_aae02 ∈ zG := zGt3 (List.mem_of_getElem? (i := 65) (by rfl)) rfl
theorem gw_3_67 : Cond.selects RJ4 yJ5_isLatin1_aae02 yJ5_isLatin1_aae02 ∈ zG := zGt3 (List.mem_of_getElem? (i := 67) (by rfl)) rfl
theorem gw_3_167 : Cond.code yJ1_canEncode_fc78d cJ1_canEncode_fc78d 1 (Option.some Jvm.ClassFile.FieldType.boolean) ∈ zG := zGt3 (List.mem_of_getElem? (i := 167) (by rfl)) rfl
theorem gw_1_18 : Cond.initialized RJ1 ∈ zG := zGt1 (List.mem_of_getElem? (i := 18) (by rfl)) rfl
theorem gw_3_165 : Cond.methodLink RJ5 191 yJ1_canEncode_fc78d ∈ zG := zGt3 (List.mem_of_getElem? (i := 165) (by rfl)) rfl
theorem gw_3_166 : Cond.static yJ1_canEncode_fc78d ∈ zG := zGt3 (List.mem_of_getElem? (i := 166) (by rfl)) rfl
theorem gw_3_137 : Cond.code yJ6_stringSize_0f7a4 cJ6_stringSize_0f7a4 4 (Option.some Jvm.ClassFile.FieldType.int) ∈ zG := zGt3 (List.mem_of_getElem? (i := 137) (by rfl)) rfl
theorem gw_1_20 : Cond.initialized RJ6 ∈ zG := zGt1 (List.mem_of_getElem? (i := 20) (by rfl)) rfl
theorem gw_3_135 : Cond.methodLink RJ5 245 yJ6_stringSize_0f7a4 ∈ zG := zGt3 (List.mem_of_getElem? (i := 135) (by rfl)) rfl
theorem gw_3_136 : Cond.static yJ6_stringSize_0f7a4 ∈ zG := zGt3 (List.mem_of_getElem? (i := 136) (by rfl)) rfl
theorem gw_3_140 : Cond.code yJ6_getChars_ba4f3 cJ6_getChars_ba4f3 7 (Option.some Jvm.ClassFile.FieldType.int) ∈ zG := zGt3 (List.mem_of_getElem? (i := 140) (by rfl)) rfl
theorem gw_3_138 : Cond.methodLink RJ5 248 yJ6_getChars_ba4f3 ∈ zG := zGt3 (List.mem_of_getElem? (i := 138) (by rfl)) rfl
theorem gw_3_139 : Cond.static yJ6_getChars_ba4f3 ∈ zG := zGt3 (List.mem_of_getElem? (i := 139) (by rfl)) rfl
theorem gw_3_102 : Cond.code yJ5_inflateIfNeededFor_a7421 cJ5_inflateIfNeededFor_a7421 2 (Option.none : Option Jvm.ClassFile.FieldType) ∈ zG := zGt3 (List.mem_of_getElem? (i := 102) (by rfl)) rfl
theorem gw_3_99 : Cond.methodLink RJ5 397 yJ5_inflateIfNeededFor_a7421 ∈ zG := zGt3 (List.mem_of_getElem? (i := 99) (by rfl)) rfl
theorem gw_3_101 : Cond.instanceMethod yJ5_inflateIfNeededFor_a7421 ∈ zG := zGt3 (List.mem_of_getElem? (i := 101) (by rfl)) rfl
theorem gx_2 : Cond.selects RJ4 yJ5_inflateIfNeededFor_a7421 yJ5_inflateIfNeededFor_a7421 ∈ zG := zGx (List.mem_of_getElem? (i := 2) (by rfl)) rfl
theorem gw_3_125 : Cond.code yJ0_getBytes_840e7 cJ0_getBytes_840e7 4 (Option.none : Option Jvm.ClassFile.FieldType) ∈ zG := zGt3 (List.mem_of_getElem? (i := 125) (by rfl)) rfl
theorem gw_3_122 : Cond.methodLink RJ5 399 yJ0_getBytes_840e7 ∈ zG := zGt3 (List.mem_of_getElem? (i := 122) (by rfl)) rfl
theorem gw_3_123 : Cond.instanceMethod yJ0_getBytes_840e7 ∈ zG := zGt3 (List.mem_of_getElem? (i := 123) (by rfl)) rfl
theorem gw_3_124 : Cond.selects RJ0 yJ0_getBytes_840e7 yJ0_getBytes_840e7 ∈ zG := zGt3 (List.mem_of_getElem? (i := 124) (by rfl)) rfl
theorem gw_4_21 : Cond.code yJ0_isLatin1_aae02 cJ0_isLatin1_aae02 1 (Option.some Jvm.ClassFile.FieldType.boolean) ∈ zG := zGt4 (List.mem_of_getElem? (i := 21) (by rfl)) rfl
theorem gw_4_18 : Cond.methodLink RJ0 492 yJ0_isLatin1_aae02 ∈ zG := zGt4 (List.mem_of_getElem? (i := 18) (by rfl)) rfl
theorem gw_4_19 : Cond.instanceMethod yJ0_isLatin1_aae02 ∈ zG := zGt4 (List.mem_of_getElem? (i := 19) (by rfl)) rfl
theorem gw_4_20 : Cond.selects RJ0 yJ0_isLatin1_aae02 yJ0_isLatin1_aae02 ∈ zG := zGt4 (List.mem_of_getElem? (i := 20) (by rfl)) rfl
theorem gw_4_24 : Cond.code yJ1_charAt_3b067 cJ1_charAt_3b067 2 (Option.some Jvm.ClassFile.FieldType.char) ∈ zG := zGt4 (List.mem_of_getElem? (i := 24) (by rfl)) rfl
theorem gw_4_22 : Cond.methodLink RJ0 495 yJ1_charAt_3b067 ∈ zG := zGt4 (List.mem_of_getElem? (i := 22) (by rfl)) rfl
theorem gw_4_23 : Cond.static yJ1_charAt_3b067 ∈ zG := zGt4 (List.mem_of_getElem? (i := 23) (by rfl)) rfl
theorem gw_3_199 : Cond.methodLink RJ0 1 Lib.objectInit ∈ zG := zGt3 (List.mem_of_getElem? (i := 199) (by rfl)) rfl
theorem gw_3_204 : Cond.code yJ5_getValue_6d5f1 cJ5_getValue_6d5f1 1 (Option.some (Jvm.ClassFile.FieldType.array Jvm.ClassFile.FieldType.byte)) ∈ zG := zGt3 (List.mem_of_getElem? (i := 204) (by rfl)) rfl
theorem gw_3_200 : Cond.methodLink RJ0 552 yJ5_getValue_6d5f1 ∈ zG := zGt3 (List.mem_of_getElem? (i := 200) (by rfl)) rfl
theorem gw_3_201 : Cond.instanceMethod yJ5_getValue_6d5f1 ∈ zG := zGt3 (List.mem_of_getElem? (i := 201) (by rfl)) rfl
theorem gw_3_203 : Cond.selects RJ4 yJ5_getValue_6d5f1 yJ5_getValue_6d5f1 ∈ zG := zGt3 (List.mem_of_getElem? (i := 203) (by rfl)) rfl
theorem gw_3_210 : Cond.code yJ4_length_8abf5 cJ4_length_8abf5 1 (Option.some Jvm.ClassFile.FieldType.int) ∈ zG := zGt3 (List.mem_of_getElem? (i := 210) (by rfl)) rfl
theorem gw_3_205 : Cond.methodLink RJ0 549 yJ5_length_8abf5 ∈ zG := zGt3 (List.mem_of_getElem? (i := 205) (by rfl)) rfl
theorem gw_3_208 : Cond.selects RJ4 yJ5_length_8abf5 yJ4_length_8abf5 ∈ zG := zGt3 (List.mem_of_getElem? (i := 208) (by rfl)) rfl
theorem gw_3_209 : Cond.instanceMethod yJ4_length_8abf5 ∈ zG := zGt3 (List.mem_of_getElem? (i := 209) (by rfl)) rfl
theorem gw_3_213 : Cond.methodLink RJ0 1047 yJ5_isLatin1_aae02 ∈ zG := zGt3 (List.mem_of_getElem? (i := 213) (by rfl)) rfl
theorem gw_3_216 : Cond.code yJ7_copyOfRange_39247 cJ7_copyOfRange_39247 3 (Option.some (Jvm.ClassFile.FieldType.array Jvm.ClassFile.FieldType.byte)) ∈ zG := zGt3 (List.mem_of_getElem? (i := 216) (by rfl)) rfl
theorem gw_3_214 : Cond.methodLink RJ0 54 yJ7_copyOfRange_39247 ∈ zG := zGt3 (List.mem_of_getElem? (i := 214) (by rfl)) rfl
theorem gw_3_215 : Cond.static yJ7_copyOfRange_39247 ∈ zG := zGt3 (List.mem_of_getElem? (i := 215) (by rfl)) rfl
theorem gw_3_164 : Cond.code yJ5_append_3fe6f cJ5_append_3fe6f 2 (Option.some (Jvm.ClassFile.FieldType.object "java/lang/AbstractStringBuilder")) ∈ zG := zGt3 (List.mem_of_getElem? (i := 164) (by rfl)) rfl
theorem gw_3_162 : Cond.methodLink RJ4 50 yJ5_append_3fe6f ∈ zG := zGt3 (List.mem_of_getElem? (i := 162) (by rfl)) rfl
theorem gw_3_163 : Cond.instanceMethod yJ5_append_3fe6f ∈ zG := zGt3 (List.mem_of_getElem? (i := 163) (by rfl)) rfl
theorem gw_6_148 : Cond.sameMethod yJ5_append_3fe6f.cls yJ5_append_3fe6f.cls yJ5_append_3fe6f.name yJ5_append_3fe6f.desc ∈ zG := zGt6 (List.mem_of_getElem? (i := 148) (by rfl)) rfl
theorem gw_3_134 : Cond.code yJ5_append_c97b9 cJ5_append_c97b9 4 (Option.some (Jvm.ClassFile.FieldType.object "java/lang/AbstractStringBuilder")) ∈ zG := zGt3 (List.mem_of_getElem? (i := 134) (by rfl)) rfl
theorem gw_3_132 : Cond.methodLink RJ4 53 yJ5_append_c97b9 ∈ zG := zGt3 (List.mem_of_getElem? (i := 132) (by rfl)) rfl
theorem gw_3_133 : Cond.instanceMethod yJ5_append_c97b9 ∈ zG := zGt3 (List.mem_of_getElem? (i := 133) (by rfl)) rfl
theorem gw_6_147 : Cond.sameMethod yJ5_append_c97b9.cls yJ5_append_c97b9.cls yJ5_append_c97b9.name yJ5_append_c97b9.desc ∈ zG := zGt6 (List.mem_of_getElem? (i := 147) (by rfl)) rfl
theorem gw_4_161 : Cond.code yJ5_setLength_d00df cJ5_setLength_d00df 2 (Option.none : Option Jvm.ClassFile.FieldType) ∈ zG := zGt4 (List.mem_of_getElem? (i := 161) (by rfl)) rfl
theorem gw_4_159 : Cond.methodLink RJ4 333 yJ5_setLength_d00df ∈ zG := zGt4 (List.mem_of_getElem? (i := 159) (by rfl)) rfl
theorem gw_4_160 : Cond.instanceMethod yJ5_setLength_d00df ∈ zG := zGt4 (List.mem_of_getElem? (i := 160) (by rfl)) rfl
theorem gw_6_149 : Cond.sameMethod yJ5_setLength_d00df.cls yJ5_setLength_d00df.cls yJ5_setLength_d00df.name yJ5_setLength_d00df.desc ∈ zG := zGt6 (List.mem_of_getElem? (i := 149) (by rfl)) rfl
theorem gw_3_5 : Cond.code yJ0_length_8abf5 cJ0_length_8abf5 1 (Option.some Jvm.ClassFile.FieldType.int) ∈ zG := zGt3 (List.mem_of_getElem? (i := 5) (by rfl)) rfl
theorem gw_4_106 : Cond.methodLink RX1 26 yJ0_length_8abf5 ∈ zG := zGt4 (List.mem_of_getElem? (i := 106) (by rfl)) rfl
theorem gw_3_3 : Cond.instanceMethod yJ0_length_8abf5 ∈ zG := zGt3 (List.mem_of_getElem? (i := 3) (by rfl)) rfl
theorem gw_3_4 : Cond.selects RJ0 yJ0_length_8abf5 yJ0_length_8abf5 ∈ zG := zGt3 (List.mem_of_getElem? (i := 4) (by rfl)) rfl
theorem gw_4_17 : Cond.code yJ0_charAt_5068e cJ0_charAt_5068e 2 (Option.some Jvm.ClassFile.FieldType.char) ∈ zG := zGt4 (List.mem_of_getElem? (i := 17) (by rfl)) rfl
theorem gw_4_107 : Cond.methodLink RX1 31 yJ0_charAt_5068e ∈ zG := zGt4 (List.mem_of_getElem? (i := 107) (by rfl)) rfl
theorem gw_4_15 : Cond.instanceMethod yJ0_charAt_5068e ∈ zG := zGt4 (List.mem_of_getElem? (i := 15) (by rfl)) rfl
theorem gw_4_16 : Cond.selects RJ0 yJ0_charAt_5068e yJ0_charAt_5068e ∈ zG := zGt4 (List.mem_of_getElem? (i := 16) (by rfl)) rfl
theorem gw_6_150 : Cond.fieldLink RX3 174 "ReviewTable$Keyword" "text" "Ljava/lang/String;" ∈ zG := zGt6 (List.mem_of_getElem? (i := 150) (by rfl)) rfl
theorem gw_4_105 : Cond.code yX1_spells cX1_spells 5 (Option.some Jvm.ClassFile.FieldType.boolean) ∈ zG := zGt4 (List.mem_of_getElem? (i := 105) (by rfl)) rfl
theorem gw_4_102 : Cond.methodLink RX3 178 yX1_spells ∈ zG := zGt4 (List.mem_of_getElem? (i := 102) (by rfl)) rfl
theorem gw_4_103 : Cond.instanceMethod yX1_spells ∈ zG := zGt4 (List.mem_of_getElem? (i := 103) (by rfl)) rfl
theorem gw_4_104 : Cond.selects RX1 yX1_spells yX1_spells ∈ zG := zGt4 (List.mem_of_getElem? (i := 104) (by rfl)) rfl
theorem gw_4_144 : Cond.fieldLink RX3 182 "ReviewTable$Parser" "KEYWORDS" "[LReviewTable$Keyword;" ∈ zG := zGt4 (List.mem_of_getElem? (i := 144) (by rfl)) rfl
theorem gw_4_101 : Cond.code yX3_isAt cX3_isAt 2 (Option.some Jvm.ClassFile.FieldType.boolean) ∈ zG := zGt4 (List.mem_of_getElem? (i := 101) (by rfl)) rfl
theorem gw_4_98 : Cond.methodLink RX3 92 yX3_isAt ∈ zG := zGt4 (List.mem_of_getElem? (i := 98) (by rfl)) rfl
theorem gw_4_100 : Cond.instanceMethod yX3_isAt ∈ zG := zGt4 (List.mem_of_getElem? (i := 100) (by rfl)) rfl
theorem gp_6 : Cond.selects RX3 yX3_isAt yX3_isAt ∈ zG := zGs (List.mem_of_getElem? (i := 6) (by rfl)) rfl
theorem gw_1_113 : Cond.fieldLink RX5 77 (TX7 0).1 (TX7 0).2.1 (TX7 0).2.2.1 ∈ zG := zGt1 (List.mem_of_getElem? (i := 113) (by rfl)) rfl
theorem gw_4_150 : Cond.methodLink RX5 81 yX1_spells ∈ zG := zGt4 (List.mem_of_getElem? (i := 150) (by rfl)) rfl
theorem gw_6_1 : Cond.methodLink RX5 222 yX4_isLateAt ∈ zG := zGt6 (List.mem_of_getElem? (i := 1) (by rfl)) rfl
theorem gw_6_7 : Cond.methodLink RX5 225 yX4_isInWork ∈ zG := zGt6 (List.mem_of_getElem? (i := 7) (by rfl)) rfl
theorem gw_6_10 : Cond.code yX5_endWork cX5_endWork 2 (Option.none : Option Jvm.ClassFile.FieldType) ∈ zG := zGt6 (List.mem_of_getElem? (i := 10) (by rfl)) rfl
theorem gw_6_8 : Cond.methodLink RX5 228 yX5_endWork ∈ zG := zGt6 (List.mem_of_getElem? (i := 8) (by rfl)) rfl
theorem gw_6_9 : Cond.static yX5_endWork ∈ zG := zGt6 (List.mem_of_getElem? (i := 9) (by rfl)) rfl
theorem gw_6_14 : Cond.code yX4_moveTaking cX4_moveTaking 3 (Option.none : Option Jvm.ClassFile.FieldType) ∈ zG := zGt6 (List.mem_of_getElem? (i := 14) (by rfl)) rfl
theorem gw_6_11 : Cond.methodLink RX5 232 yX4_moveTaking ∈ zG := zGt6 (List.mem_of_getElem? (i := 11) (by rfl)) rfl
theorem gw_6_12 : Cond.instanceMethod yX4_moveTaking ∈ zG := zGt6 (List.mem_of_getElem? (i := 12) (by rfl)) rfl
theorem gw_6_13 : Cond.selects RX4 yX4_moveTaking yX4_moveTaking ∈ zG := zGt6 (List.mem_of_getElem? (i := 13) (by rfl)) rfl
theorem gw_6_0 : Cond.code yX5_dropWork cX5_dropWork 6 (Option.some Jvm.ClassFile.FieldType.int) ∈ zG := zGt6 (List.mem_of_getElem? (i := 0) (by rfl)) rfl
theorem gw_5_237 : Cond.methodLink RX5 218 yX5_dropWork ∈ zG := zGt5 (List.mem_of_getElem? (i := 237) (by rfl)) rfl
theorem gw_5_238 : Cond.instanceMethod yX5_dropWork ∈ zG := zGt5 (List.mem_of_getElem? (i := 238) (by rfl)) rfl
theorem gw_5_239 : Cond.selects RX5 yX5_dropWork yX5_dropWork ∈ zG := zGt5 (List.mem_of_getElem? (i := 239) (by rfl)) rfl
theorem gw_6_41 : Cond.code yX5_giveUp cX5_giveUp 2 (Option.some Jvm.ClassFile.FieldType.int) ∈ zG := zGt6 (List.mem_of_getElem? (i := 41) (by rfl)) rfl
theorem gw_6_38 : Cond.methodLink RX8 333 yX5_giveUp ∈ zG := zGt6 (List.mem_of_getElem? (i := 38) (by rfl)) rfl
theorem gw_6_39 : Cond.instanceMethod yX5_giveUp ∈ zG := zGt6 (List.mem_of_getElem? (i := 39) (by rfl)) rfl
theorem gw_6_40 : Cond.selects RX5 yX5_giveUp yX5_giveUp ∈ zG := zGt6 (List.mem_of_getElem? (i := 40) (by rfl)) rfl
theorem gw_3_2 : Cond.methodLink RJ5 32 yJ0_length_8abf5 ∈ zG := zGt3 (List.mem_of_getElem? (i := 2) (by rfl)) rfl
theorem gw_3_98 : Cond.code yJ5_putStringAt_47b60 cJ5_putStringAt_47b60 3 (Option.none : Option Jvm.ClassFile.FieldType) ∈ zG := zGt3 (List.mem_of_getElem? (i := 98) (by rfl)) rfl
theorem gw_3_95 : Cond.methodLink RJ5 208 yJ5_putStringAt_47b60 ∈ zG := zGt3 (List.mem_of_getElem? (i := 95) (by rfl)) rfl
theorem gw_3_97 : Cond.instanceMethod yJ5_putStringAt_47b60 ∈ zG := zGt3 (List.mem_of_getElem? (i := 97) (by rfl)) rfl
theorem gx_3 : Cond.selects RJ4 yJ5_putStringAt_47b60 yJ5_putStringAt_47b60 ∈ zG := zGx (List.mem_of_getElem? (i := 3) (by rfl)) rfl
theorem gw_3_198 : Cond.code yJ0_init_db425 cJ0_init_db425 5 (Option.none : Option Jvm.ClassFile.FieldType) ∈ zG := zGt3 (List.mem_of_getElem? (i := 198) (by rfl)) rfl
theorem gw_3_196 : Cond.methodLink RJ0 489 yJ0_init_db425 ∈ zG := zGt3 (List.mem_of_getElem? (i := 196) (by rfl)) rfl
theorem gw_3_197 : Cond.instanceMethod yJ0_init_db425 ∈ zG := zGt3 (List.mem_of_getElem? (i := 197) (by rfl)) rfl
theorem gw_3_25 : Cond.code yJ5_append_cf1ce cJ5_append_cf1ce 3 (Option.some (Jvm.ClassFile.FieldType.object "java/lang/AbstractStringBuilder")) ∈ zG := zGt3 (List.mem_of_getElem? (i := 25) (by rfl)) rfl
theorem gw_3_24 : Cond.methodLink RJ4 29 yJ5_append_cf1ce ∈ zG := zGt3 (List.mem_of_getElem? (i := 24) (by rfl)) rfl
theorem gw_3_15 : Cond.instanceMethod yJ5_append_cf1ce ∈ zG := zGt3 (List.mem_of_getElem? (i := 15) (by rfl)) rfl
theorem gw_3_16 : Cond.sameMethod yJ5_append_cf1ce.cls yJ5_append_cf1ce.cls yJ5_append_cf1ce.name yJ5_append_cf1ce.desc ∈ zG := zGt3 (List.mem_of_getElem? (i := 16) (by rfl)) rfl
theorem gw_3_191 : Cond.classLink RJ4 18 RJ0 ∈ zG := zGt3 (List.mem_of_getElem? (i := 191) (by rfl)) rfl
theorem gw_3_192 : Cond.instantiable RJ0 4 ∈ zG := zGt3 (List.mem_of_getElem? (i := 192) (by rfl)) rfl
theorem gw_3_195 : Cond.code yJ0_init_81219 cJ0_init_81219 2 (Option.none : Option Jvm.ClassFile.FieldType) ∈ zG := zGt3 (List.mem_of_getElem? (i := 195) (by rfl)) rfl
theorem gw_3_193 : Cond.methodLink RJ4 137 yJ0_init_81219 ∈ zG := zGt3 (List.mem_of_getElem? (i := 193) (by rfl)) rfl
theorem gw_3_194 : Cond.instanceMethod yJ0_init_81219 ∈ zG := zGt3 (List.mem_of_getElem? (i := 194) (by rfl)) rfl
theorem gw_3_23 : Cond.code yJ4_append_15ec4 cJ4_append_15ec4 2 (Option.some (Jvm.ClassFile.FieldType.object "java/lang/StringBuilder")) ∈ zG := zGt3 (List.mem_of_getElem? (i := 23) (by rfl)) rfl
theorem gw_3_20 : Cond.methodLink RJ4 23 yJ4_append_15ec4 ∈ zG := zGt3 (List.mem_of_getElem? (i := 20) (by rfl)) rfl
theorem gw_3_21 : Cond.instanceMethod yJ4_append_15ec4 ∈ zG := zGt3 (List.mem_of_getElem? (i := 21) (by rfl)) rfl
theorem gw_3_22 : Cond.selects RJ4 yJ4_append_15ec4 yJ4_append_15ec4 ∈ zG := zGt3 (List.mem_of_getElem? (i := 22) (by rfl)) rfl
theorem gw_4_158 : Cond.code yJ4_setLength_d00df cJ4_setLength_d00df 2 (Option.none : Option Jvm.ClassFile.FieldType) ∈ zG := zGt4 (List.mem_of_getElem? (i := 158) (by rfl)) rfl
theorem gw_4_155 : Cond.methodLink RX1 35 yJ4_setLength_d00df ∈ zG := zGt4 (List.mem_of_getElem? (i := 155) (by rfl)) rfl
theorem gw_4_156 : Cond.instanceMethod yJ4_setLength_d00df ∈ zG := zGt4 (List.mem_of_getElem? (i := 156) (by rfl)) rfl
theorem gw_4_157 : Cond.selects RJ4 yJ4_setLength_d00df yJ4_setLength_d00df ∈ zG := zGt4 (List.mem_of_getElem? (i := 157) (by rfl)) rfl
theorem gw_4_175 : Cond.methodLink RX1 39 Lib.Math.max.name ∈ zG := zGt4 (List.mem_of_getElem? (i := 175) (by rfl)) rfl
theorem gw_4_176 : Cond.methodLink RX1 45 Lib.Math.min.name ∈ zG := zGt4 (List.mem_of_getElem? (i := 176) (by rfl)) rfl
theorem gw_3_161 : Cond.code yJ4_append_cf468 cJ4_append_cf468 2 (Option.some (Jvm.ClassFile.FieldType.object "java/lang/StringBuilder")) ∈ zG := zGt3 (List.mem_of_getElem? (i := 161) (by rfl)) rfl
theorem gw_4_177 : Cond.methodLink RX1 48 yJ4_append_cf468 ∈ zG := zGt4 (List.mem_of_getElem? (i := 177) (by rfl)) rfl
theorem gw_3_159 : Cond.instanceMethod yJ4_append_cf468 ∈ zG := zGt3 (List.mem_of_getElem? (i := 159) (by rfl)) rfl
theorem gw_3_160 : Cond.selects RJ4 yJ4_append_cf468 yJ4_append_cf468 ∈ zG := zGt3 (List.mem_of_getElem? (i := 160) (by rfl)) rfl
theorem gw_3_190 : Cond.code yJ4_toString_0e30d cJ4_toString_0e30d 1 (Option.some (Jvm.ClassFile.FieldType.object "java/lang/String")) ∈ zG := zGt3 (List.mem_of_getElem? (i := 190) (by rfl)) rfl
theorem gw_4_178 : Cond.methodLink RX1 52 yJ4_toString_0e30d ∈ zG := zGt4 (List.mem_of_getElem? (i := 178) (by rfl)) rfl
theorem gw_3_188 : Cond.instanceMethod yJ4_toString_0e30d ∈ zG := zGt3 (List.mem_of_getElem? (i := 188) (by rfl)) rfl
theorem gw_3_189 : Cond.selects RJ4 yJ4_toString_0e30d yJ4_toString_0e30d ∈ zG := zGt3 (List.mem_of_getElem? (i := 189) (by rfl)) rfl
theorem gw_4_143 : Cond.code yX3_isAtName cX3_isAtName 5 (Option.some Jvm.ClassFile.FieldType.boolean) ∈ zG := zGt4 (List.mem_of_getElem? (i := 143) (by rfl)) rfl
theorem gw_4_140 : Cond.methodLink RX3 117 yX3_isAtName ∈ zG := zGt4 (List.mem_of_getElem? (i := 140) (by rfl)) rfl
theorem gw_4_142 : Cond.instanceMethod yX3_isAtName ∈ zG := zGt4 (List.mem_of_getElem? (i := 142) (by rfl)) rfl
theorem gp_13 : Cond.selects RX3 yX3_isAtName yX3_isAtName ∈ zG := zGs (List.mem_of_getElem? (i := 13) (by rfl)) rfl
theorem gw_4_149 : Cond.code yX5_workerNamed cX5_workerNamed 5 (Option.some Jvm.ClassFile.FieldType.int) ∈ zG := zGt4 (List.mem_of_getElem? (i := 149) (by rfl)) rfl
theorem gw_4_146 : Cond.methodLink RX3 123 yX5_workerNamed ∈ zG := zGt4 (List.mem_of_getElem? (i := 146) (by rfl)) rfl
theorem gw_4_147 : Cond.instanceMethod yX5_workerNamed ∈ zG := zGt4 (List.mem_of_getElem? (i := 147) (by rfl)) rfl
theorem gw_4_148 : Cond.selects RX5 yX5_workerNamed yX5_workerNamed ∈ zG := zGt4 (List.mem_of_getElem? (i := 148) (by rfl)) rfl
theorem gw_5_236 : Cond.code yX5_letPass cX5_letPass 4 (Option.some Jvm.ClassFile.FieldType.int) ∈ zG := zGt5 (List.mem_of_getElem? (i := 236) (by rfl)) rfl
theorem gw_5_233 : Cond.methodLink RX8 322 yX5_letPass ∈ zG := zGt5 (List.mem_of_getElem? (i := 233) (by rfl)) rfl
theorem gw_5_234 : Cond.instanceMethod yX5_letPass ∈ zG := zGt5 (List.mem_of_getElem? (i := 234) (by rfl)) rfl
theorem gw_5_235 : Cond.selects RX5 yX5_letPass yX5_letPass ∈ zG := zGt5 (List.mem_of_getElem? (i := 235) (by rfl)) rfl
theorem gw_4_92 : Cond.fieldLink RX3 51 "ReviewTable$Keyword" "TABLE" "LReviewTable$Keyword;" ∈ zG := zGt4 (List.mem_of_getElem? (i := 92) (by rfl)) rfl
theorem gw_4_97 : Cond.code yX3_readKeyword cX3_readKeyword 2 (Option.some Jvm.ClassFile.FieldType.boolean) ∈ zG := zGt4 (List.mem_of_getElem? (i := 97) (by rfl)) rfl
theorem gw_4_94 : Cond.methodLink RX3 57 yX3_readKeyword ∈ zG := zGt4 (List.mem_of_getElem? (i := 94) (by rfl)) rfl
theorem gw_4_96 : Cond.instanceMethod yX3_readKeyword ∈ zG := zGt4 (List.mem_of_getElem? (i := 96) (by rfl)) rfl
theorem gp_5 : Cond.selects RX3 yX3_readKeyword yX3_readKeyword ∈ zG := zGs (List.mem_of_getElem? (i := 5) (by rfl)) rfl
theorem gw_4_112 : Cond.fieldLink RX3 61 "ReviewTable$Keyword" "TOLERANCE" "LReviewTable$Keyword;" ∈ zG := zGt4 (List.mem_of_getElem? (i := 112) (by rfl)) rfl
theorem gw_4_117 : Cond.code yX3_readNumber cX3_readNumber 3 (Option.some Jvm.ClassFile.FieldType.boolean) ∈ zG := zGt4 (List.mem_of_getElem? (i := 117) (by rfl)) rfl
theorem gw_4_114 : Cond.methodLink RX3 64 yX3_readNumber ∈ zG := zGt4 (List.mem_of_getElem? (i := 114) (by rfl)) rfl
theorem gw_4_116 : Cond.instanceMethod yX3_readNumber ∈ zG := zGt4 (List.mem_of_getElem? (i := 116) (by rfl)) rfl
theorem gp_8 : Cond.selects RX3 yX3_readNumber yX3_readNumber ∈ zG := zGs (List.mem_of_getElem? (i := 8) (by rfl)) rfl
theorem gw_1_219 : Cond.fieldLink RX3 71 (TX5 0).1 (TX5 0).2.1 (TX5 0).2.2.1 ∈ zG := zGt1 (List.mem_of_getElem? (i := 219) (by rfl)) rfl
theorem gw_4_122 : Cond.fieldLink RX3 74 "ReviewTable$Keyword" "PATIENCE" "LReviewTable$Keyword;" ∈ zG := zGt4 (List.mem_of_getElem? (i := 122) (by rfl)) rfl
theorem gw_1_222 : Cond.fieldLink RX3 77 (TX5 1).1 (TX5 1).2.1 (TX5 1).2.2.1 ∈ zG := zGt1 (List.mem_of_getElem? (i := 222) (by rfl)) rfl
theorem gw_4_124 : Cond.fieldLink RX3 80 "ReviewTable$Keyword" "LEAST" "LReviewTable$Keyword;" ∈ zG := zGt4 (List.mem_of_getElem? (i := 124) (by rfl)) rfl
theorem gw_1_225 : Cond.fieldLink RX3 83 (TX5 2).1 (TX5 2).2.1 (TX5 2).2.2.1 ∈ zG := zGt1 (List.mem_of_getElem? (i := 225) (by rfl)) rfl
theorem gw_4_129 : Cond.code yX3_readSemicolon cX3_readSemicolon 1 (Option.some Jvm.ClassFile.FieldType.boolean) ∈ zG := zGt4 (List.mem_of_getElem? (i := 129) (by rfl)) rfl
theorem gw_4_126 : Cond.methodLink RX3 86 yX3_readSemicolon ∈ zG := zGt4 (List.mem_of_getElem? (i := 126) (by rfl)) rfl
theorem gw_4_128 : Cond.instanceMethod yX3_readSemicolon ∈ zG := zGt4 (List.mem_of_getElem? (i := 128) (by rfl)) rfl
theorem gp_10 : Cond.selects RX3 yX3_readSemicolon yX3_readSemicolon ∈ zG := zGs (List.mem_of_getElem? (i := 10) (by rfl)) rfl
theorem gw_1_231 : Cond.fieldLink RX3 114 (TX5 4).1 (TX5 4).2.1 (TX5 4).2.2.1 ∈ zG := zGt1 (List.mem_of_getElem? (i := 231) (by rfl)) rfl
theorem gw_4_154 : Cond.code yX1_textBetween cX1_textBetween 4 (Option.some (Jvm.ClassFile.FieldType.object "java/lang/String")) ∈ zG := zGt4 (List.mem_of_getElem? (i := 154) (by rfl)) rfl
theorem gw_4_151 : Cond.methodLink RX3 127 yX1_textBetween ∈ zG := zGt4 (List.mem_of_getElem? (i := 151) (by rfl)) rfl
theorem gw_4_152 : Cond.instanceMethod yX1_textBetween ∈ zG := zGt4 (List.mem_of_getElem? (i := 152) (by rfl)) rfl
theorem gw_4_153 : Cond.selects RX1 yX1_textBetween yX1_textBetween ∈ zG := zGt4 (List.mem_of_getElem? (i := 153) (by rfl)) rfl
theorem gw_4_179 : Cond.fieldLink RX3 131 "ReviewTable$Keyword" "TEAM" "LReviewTable$Keyword;" ∈ zG := zGt4 (List.mem_of_getElem? (i := 179) (by rfl)) rfl
theorem gw_4_181 : Cond.fieldLink RX3 134 "ReviewTable$Keyword" "QUOTA" "LReviewTable$Keyword;" ∈ zG := zGt4 (List.mem_of_getElem? (i := 181) (by rfl)) rfl
theorem gw_4_183 : Cond.fieldLink RX3 137 "ReviewTable$Keyword" "TRUST" "LReviewTable$Keyword;" ∈ zG := zGt4 (List.mem_of_getElem? (i := 183) (by rfl)) rfl
theorem gw_4_188 : Cond.code yX5_putWorker cX5_putWorker 5 (Option.none : Option Jvm.ClassFile.FieldType) ∈ zG := zGt4 (List.mem_of_getElem? (i := 188) (by rfl)) rfl
theorem gw_4_185 : Cond.methodLink RX3 140 yX5_putWorker ∈ zG := zGt4 (List.mem_of_getElem? (i := 185) (by rfl)) rfl
theorem gw_4_186 : Cond.instanceMethod yX5_putWorker ∈ zG := zGt4 (List.mem_of_getElem? (i := 186) (by rfl)) rfl
theorem gw_4_187 : Cond.selects RX5 yX5_putWorker yX5_putWorker ∈ zG := zGt4 (List.mem_of_getElem? (i := 187) (by rfl)) rfl
theorem gw_4_199 : Cond.methodLink RX3 150 yX5_hasRoomFor ∈ zG := zGt4 (List.mem_of_getElem? (i := 199) (by rfl)) rfl
theorem gw_4_203 : Cond.fieldLink RX3 153 "ReviewTable$Keyword" "SIZE" "LReviewTable$Keyword;" ∈ zG := zGt4 (List.mem_of_getElem? (i := 203) (by rfl)) rfl
theorem gw_4_205 : Cond.methodLink RX3 156 yX5_putRows ∈ zG := zGt4 (List.mem_of_getElem? (i := 205) (by rfl)) rfl
theorem gw_4_222 : Cond.code yX3_readKnownName cX3_readKnownName 1 (Option.some Jvm.ClassFile.FieldType.boolean) ∈ zG := zGt4 (List.mem_of_getElem? (i := 222) (by rfl)) rfl
theorem gw_4_219 : Cond.methodLink RX3 160 yX3_readKnownName ∈ zG := zGt4 (List.mem_of_getElem? (i := 219) (by rfl)) rfl
theorem gw_4_221 : Cond.instanceMethod yX3_readKnownName ∈ zG := zGt4 (List.mem_of_getElem? (i := 221) (by rfl)) rfl
theorem gp_16 : Cond.selects RX3 yX3_readKnownName yX3_readKnownName ∈ zG := zGs (List.mem_of_getElem? (i := 16) (by rfl)) rfl
theorem gw_4_223 : Cond.methodLink RX3 163 yX5_areKeptApart ∈ zG := zGt4 (List.mem_of_getElem? (i := 223) (by rfl)) rfl
theorem gw_4_230 : Cond.methodLink RX3 166 yX5_tellApart ∈ zG := zGt4 (List.mem_of_getElem? (i := 230) (by rfl)) rfl
theorem gw_4_134 : Cond.fieldLink RX3 89 "ReviewTable$Keyword" "WORKER" "LReviewTable$Keyword;" ∈ zG := zGt4 (List.mem_of_getElem? (i := 134) (by rfl)) rfl
theorem gw_4_139 : Cond.code yX3_readWorkerStatement cX3_readWorkerStatement 5 (Option.some Jvm.ClassFile.FieldType.boolean) ∈ zG := zGt4 (List.mem_of_getElem? (i := 139) (by rfl)) rfl
theorem gw_4_136 : Cond.methodLink RX3 95 yX3_readWorkerStatement ∈ zG := zGt4 (List.mem_of_getElem? (i := 136) (by rfl)) rfl
theorem gw_4_138 : Cond.instanceMethod yX3_readWorkerStatement ∈ zG := zGt4 (List.mem_of_getElem? (i := 138) (by rfl)) rfl
theorem gp_12 : Cond.selects RX3 yX3_readWorkerStatement yX3_readWorkerStatement ∈ zG := zGs (List.mem_of_getElem? (i := 12) (by rfl)) rfl
theorem gw_4_193 : Cond.fieldLink RX3 98 "ReviewTable$Keyword" "ROWS" "LReviewTable$Keyword;" ∈ zG := zGt4 (List.mem_of_getElem? (i := 193) (by rfl)) rfl
theorem gw_4_198 : Cond.code yX3_readRowsStatement cX3_readRowsStatement 2 (Option.some Jvm.ClassFile.FieldType.boolean) ∈ zG := zGt4 (List.mem_of_getElem? (i := 198) (by rfl)) rfl
theorem gw_4_195 : Cond.methodLink RX3 101 yX3_readRowsStatement ∈ zG := zGt4 (List.mem_of_getElem? (i := 195) (by rfl)) rfl
theorem gw_4_197 : Cond.instanceMethod yX3_readRowsStatement ∈ zG := zGt4 (List.mem_of_getElem? (i := 197) (by rfl)) rfl
theorem gp_14 : Cond.selects RX3 yX3_readRowsStatement yX3_readRowsStatement ∈ zG := zGs (List.mem_of_getElem? (i := 14) (by rfl)) rfl
theorem gw_4_213 : Cond.fieldLink RX3 104 "ReviewTable$Keyword" "BAR" "LReviewTable$Keyword;" ∈ zG := zGt4 (List.mem_of_getElem? (i := 213) (by rfl)) rfl
theorem gw_4_218 : Cond.code yX3_readBarStatement cX3_readBarStatement 3 (Option.some Jvm.ClassFile.FieldType.boolean) ∈ zG := zGt4 (List.mem_of_getElem? (i := 218) (by rfl)) rfl
theorem gw_4_215 : Cond.methodLink RX3 107 yX3_readBarStatement ∈ zG := zGt4 (List.mem_of_getElem? (i := 215) (by rfl)) rfl
theorem gw_4_217 : Cond.instanceMethod yX3_readBarStatement ∈ zG := zGt4 (List.mem_of_getElem? (i := 217) (by rfl)) rfl
theorem gp_15 : Cond.selects RX3 yX3_readBarStatement yX3_readBarStatement ∈ zG := zGs (List.mem_of_getElem? (i := 15) (by rfl)) rfl
theorem gw_4_69 : Cond.code yX5_clear cX5_clear 1 (Option.none : Option Jvm.ClassFile.FieldType) ∈ zG := zGt4 (List.mem_of_getElem? (i := 69) (by rfl)) rfl
theorem gw_4_66 : Cond.methodLink RX3 35 yX5_clear ∈ zG := zGt4 (List.mem_of_getElem? (i := 66) (by rfl)) rfl
theorem gw_4_67 : Cond.instanceMethod yX5_clear ∈ zG := zGt4 (List.mem_of_getElem? (i := 67) (by rfl)) rfl
theorem gw_4_68 : Cond.selects RX5 yX5_clear yX5_clear ∈ zG := zGt4 (List.mem_of_getElem? (i := 68) (by rfl)) rfl
theorem gw_4_91 : Cond.code yX3_readTableStatement cX3_readTableStatement 1 (Option.some Jvm.ClassFile.FieldType.boolean) ∈ zG := zGt4 (List.mem_of_getElem? (i := 91) (by rfl)) rfl
theorem gw_4_88 : Cond.methodLink RX3 41 yX3_readTableStatement ∈ zG := zGt4 (List.mem_of_getElem? (i := 88) (by rfl)) rfl
theorem gw_4_90 : Cond.instanceMethod yX3_readTableStatement ∈ zG := zGt4 (List.mem_of_getElem? (i := 90) (by rfl)) rfl
theorem gp_4 : Cond.selects RX3 yX3_readTableStatement yX3_readTableStatement ∈ zG := zGs (List.mem_of_getElem? (i := 4) (by rfl)) rfl
theorem gw_4_133 : Cond.code yX3_readStatement cX3_readStatement 1 (Option.some Jvm.ClassFile.FieldType.boolean) ∈ zG := zGt4 (List.mem_of_getElem? (i := 133) (by rfl)) rfl
theorem gw_4_130 : Cond.methodLink RX3 48 yX3_readStatement ∈ zG := zGt4 (List.mem_of_getElem? (i := 130) (by rfl)) rfl
theorem gw_4_132 : Cond.instanceMethod yX3_readStatement ∈ zG := zGt4 (List.mem_of_getElem? (i := 132) (by rfl)) rfl
theorem gp_11 : Cond.selects RX3 yX3_readStatement yX3_readStatement ∈ zG := zGs (List.mem_of_getElem? (i := 11) (by rfl)) rfl
theorem gw_4_65 : Cond.code yX3_parseText cX3_parseText 2 (Option.some Jvm.ClassFile.FieldType.boolean) ∈ zG := zGt4 (List.mem_of_getElem? (i := 65) (by rfl)) rfl
theorem gw_4_62 : Cond.methodLink RX8 84 yX3_parseText ∈ zG := zGt4 (List.mem_of_getElem? (i := 62) (by rfl)) rfl
theorem gw_4_63 : Cond.instanceMethod yX3_parseText ∈ zG := zGt4 (List.mem_of_getElem? (i := 63) (by rfl)) rfl
theorem gw_4_64 : Cond.selects RX3 yX3_parseText yX3_parseText ∈ zG := zGt4 (List.mem_of_getElem? (i := 64) (by rfl)) rfl
theorem gw_2_24 : Cond.fieldLink RX8 88 (TX3 0).1 (TX3 0).2.1 (TX3 0).2.2.1 ∈ zG := zGt2 (List.mem_of_getElem? (i := 24) (by rfl)) rfl
theorem gw_2_26 : Cond.fieldLink RX8 91 (TX3 1).1 (TX3 1).2.1 (TX3 1).2.2.1 ∈ zG := zGt2 (List.mem_of_getElem? (i := 26) (by rfl)) rfl
theorem gw_2_30 : Cond.fieldLink RX8 98 (TX3 3).1 (TX3 3).2.1 (TX3 3).2.2.1 ∈ zG := zGt2 (List.mem_of_getElem? (i := 30) (by rfl)) rfl
theorem gw_5_13 : Cond.methodLink RX8 101 yX5_copyFrom ∈ zG := zGt5 (List.mem_of_getElem? (i := 13) (by rfl)) rfl
