theorem gw_1_142 : Cond.fieldLink RX4 37 (TX4 1).1 (TX4 1).2.1 (TX4 1).2.2.1 ∈ zG := zGt1 (List.mem_of_getElem? (i := 142) (by rfl)) rfl
theorem gw_1_177 : Cond.lays RX4 "ReviewTable$Row" "size" "I" ∈ zG := zGt1 (List.mem_of_getElem? (i := 177) (by rfl)) rfl
theorem gw_1_179 : Cond.lays RX4 "ReviewTable$Row" "state" "I" ∈ zG := zGt1 (List.mem_of_getElem? (i := 179) (by rfl)) rfl
theorem gw_1_181 : Cond.lays RX4 "ReviewTable$Row" "result" "I" ∈ zG := zGt1 (List.mem_of_getElem? (i := 181) (by rfl)) rfl
theorem gw_1_183 : Cond.lays RX4 "ReviewTable$Row" "audited" "Z" ∈ zG := zGt1 (List.mem_of_getElem? (i := 183) (by rfl)) rfl
theorem gw_1_185 : Cond.lays RX4 "ReviewTable$Row" "rightNumber" "I" ∈ zG := zGt1 (List.mem_of_getElem? (i := 185) (by rfl)) rfl
theorem gw_1_187 : Cond.lays RX4 "ReviewTable$Row" "tookBefore" "I" ∈ zG := zGt1 (List.mem_of_getElem? (i := 187) (by rfl)) rfl
theorem gw_1_189 : Cond.lays RX4 "ReviewTable$Row" "firstFinisher" "I" ∈ zG := zGt1 (List.mem_of_getElem? (i := 189) (by rfl)) rfl
theorem gw_1_191 : Cond.lays RX4 "ReviewTable$Row" "secondFinisher" "I" ∈ zG := zGt1 (List.mem_of_getElem? (i := 191) (by rfl)) rfl
theorem gw_1_193 : Cond.lays RX4 "ReviewTable$Row" "takingCount" "I" ∈ zG := zGt1 (List.mem_of_getElem? (i := 193) (by rfl)) rfl
theorem gw_1_195 : Cond.laysFinal RX4 "ReviewTable$Row" "workerOf" "[I" ∈ zG := zGt1 (List.mem_of_getElem? (i := 195) (by rfl)) rfl
theorem gw_1_197 : Cond.laysFinal RX4 "ReviewTable$Row" "resultOf" "[I" ∈ zG := zGt1 (List.mem_of_getElem? (i := 197) (by rfl)) rfl
theorem gw_1_199 : Cond.laysFinal RX4 "ReviewTable$Row" "dueOf" "[I" ∈ zG := zGt1 (List.mem_of_getElem? (i := 199) (by rfl)) rfl
theorem ui_X4 : ∀ w ∈ u_ws RX4 TX4 12, w ∈ zG := show ∀ w ∈ [Cond.lays RX4 "ReviewTable$Row" "size" "I", Cond.lays RX4 "ReviewTable$Row" "state" "I", Cond.lays RX4 "ReviewTable$Row" "result" "I", Cond.lays RX4 "ReviewTable$Row" "audited" "Z", Cond.lays RX4 "ReviewTable$Row" "rightNumber" "I", Cond.lays RX4 "ReviewTable$Row" "tookBefore" "I", Cond.lays RX4 "ReviewTable$Row" "firstFinisher" "I", Cond.lays RX4 "ReviewTable$Row" "secondFinisher" "I", Cond.lays RX4 "ReviewTable$Row" "takingCount" "I", Cond.laysFinal RX4 "ReviewTable$Row" "workerOf" "[I", Cond.laysFinal RX4 "ReviewTable$Row" "resultOf" "[I", Cond.laysFinal RX4 "ReviewTable$Row" "dueOf" "[I"], w ∈ zG from List.forall_mem_cons.mpr ⟨gw_1_177, List.forall_mem_cons.mpr ⟨gw_1_179, List.forall_mem_cons.mpr ⟨gw_1_181, List.forall_mem_cons.mpr ⟨gw_1_183, List.forall_mem_cons.mpr ⟨gw_1_185, List.forall_mem_cons.mpr ⟨gw_1_187, List.forall_mem_cons.mpr ⟨gw_1_189, List.forall_mem_cons.mpr ⟨gw_1_191, List.forall_mem_cons.mpr ⟨gw_1_193, List.forall_mem_cons.mpr ⟨gw_1_195, List.forall_mem_cons.mpr ⟨gw_1_197, List.forall_mem_cons.mpr ⟨gw_1_199, fun _ h => nomatch h⟩⟩⟩⟩⟩⟩⟩⟩⟩⟩⟩⟩
theorem zc_X4 : zcl2 7 RX4 TX4 12 := ⟨rfl, by decide⟩
theorem gw_1_171 : Cond.fieldLink RX4 28 (TX4 10).1 (TX4 10).2.1 (TX4 10).2.2.1 ∈ zG := zGt1 (List.mem_of_getElem? (i := 171) (by rfl)) rfl
theorem gw_5_15 : Cond.code yX4_isInWork cX4_isInWork 2 (Option.some Jvm.ClassFile.FieldType.boolean) ∈ zG := zGt5 (List.mem_of_getElem? (i := 15) (by rfl)) rfl
theorem gw_1_6 : Cond.initialized RX4 ∈ zG := zGt1 (List.mem_of_getElem? (i := 6) (by rfl)) rfl
theorem gw_5_12 : Cond.methodLink RX4 50 yX4_isInWork ∈ zG := zGt5 (List.mem_of_getElem? (i := 12) (by rfl)) rfl
theorem gw_5_13 : Cond.instanceMethod yX4_isInWork ∈ zG := zGt5 (List.mem_of_getElem? (i := 13) (by rfl)) rfl
theorem gw_5_14 : Cond.selects RX4 yX4_isInWork yX4_isInWork ∈ zG := zGt5 (List.mem_of_getElem? (i := 14) (by rfl)) rfl
theorem gw_1_175 : Cond.fieldLink RX4 31 (TX4 11).1 (TX4 11).2.1 (TX4 11).2.2.1 ∈ zG := zGt1 (List.mem_of_getElem? (i := 175) (by rfl)) rfl
theorem gw_1_164 : Cond.fieldLink RX4 47 (TX4 8).1 (TX4 8).2.1 (TX4 8).2.2.1 ∈ zG := zGt1 (List.mem_of_getElem? (i := 164) (by rfl)) rfl
theorem gw_1_167 : Cond.fieldLink RX4 24 (TX4 9).1 (TX4 9).2.1 (TX4 9).2.2.1 ∈ zG := zGt1 (List.mem_of_getElem? (i := 167) (by rfl)) rfl

