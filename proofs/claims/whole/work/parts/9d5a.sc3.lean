/-! the rows of the law -/
theorem gw_1_33 : Cond.classLink RL 8 RX8 ∈ zG := zGt1 (List.mem_of_getElem? (i := 33) (by rfl)) rfl
theorem gw_1_34 : Cond.instantiable RX8 10 ∈ zG := zGt1 (List.mem_of_getElem? (i := 34) (by rfl)) rfl
theorem gw_1_37 : Cond.code yX8_init cX8_init 2 (Option.none : Option Jvm.ClassFile.FieldType) ∈ zG := zGt1 (List.mem_of_getElem? (i := 37) (by rfl)) rfl
theorem gw_1_35 : Cond.methodLink RL 151 yX8_init ∈ zG := zGt1 (List.mem_of_getElem? (i := 35) (by rfl)) rfl
theorem gw_1_36 : Cond.instanceMethod yX8_init ∈ zG := zGt1 (List.mem_of_getElem? (i := 36) (by rfl)) rfl
theorem gw_7_209 : Cond.classLink RL 152 RX9 ∈ zG := zGt7 (List.mem_of_getElem? (i := 209) (by rfl)) rfl
theorem gw_7_210 : Cond.instantiable RX9 22 ∈ zG := zGt7 (List.mem_of_getElem? (i := 210) (by rfl)) rfl
theorem gw_7_213 : Cond.code yX9_init cX9_init 1 (Option.none : Option Jvm.ClassFile.FieldType) ∈ zG := zGt7 (List.mem_of_getElem? (i := 213) (by rfl)) rfl
theorem gw_7_211 : Cond.methodLink RL 154 yX9_init ∈ zG := zGt7 (List.mem_of_getElem? (i := 211) (by rfl)) rfl
theorem gw_7_212 : Cond.instanceMethod yX9_init ∈ zG := zGt7 (List.mem_of_getElem? (i := 212) (by rfl)) rfl
theorem gw_10_170 : Cond.arrayClass (newarray.typeOf .long) ∈ zG := zGt10 (List.mem_of_getElem? (i := 170) (by rfl)) rfl
theorem gw_10_171 : Cond.arrayClass (newarray.typeOf .double) ∈ zG := zGt10 (List.mem_of_getElem? (i := 171) (by rfl)) rfl
theorem gw_1_0 : Cond.initialized RL ∈ zG := zGt1 (List.mem_of_getElem? (i := 0) (by rfl)) rfl
theorem gw_5_133 : Cond.methodLink RL 155 yL_append ∈ zG := zGt5 (List.mem_of_getElem? (i := 133) (by rfl)) rfl
theorem gw_5_134 : Cond.static yL_append ∈ zG := zGt5 (List.mem_of_getElem? (i := 134) (by rfl)) rfl
theorem gw_5_135 : Cond.codeWith yL_append cL_append 8 (Option.some Jvm.ClassFile.FieldType.int) [(0, 16, 19, 13)] ∈ zG := zGt5 (List.mem_of_getElem? (i := 135) (by rfl)) rfl
theorem gw_8_45 : Cond.code yX9_append cX9_append 6 (Option.some Jvm.ClassFile.FieldType.int) ∈ zG := zGt8 (List.mem_of_getElem? (i := 45) (by rfl)) rfl
theorem gw_8_42 : Cond.methodLink RL 160 yX9_append ∈ zG := zGt8 (List.mem_of_getElem? (i := 42) (by rfl)) rfl
theorem gw_8_43 : Cond.instanceMethod yX9_append ∈ zG := zGt8 (List.mem_of_getElem? (i := 43) (by rfl)) rfl
theorem gw_8_44 : Cond.selects RX9 yX9_append yX9_append ∈ zG := zGt8 (List.mem_of_getElem? (i := 44) (by rfl)) rfl
theorem gw_7_208 : Cond.code yX9_thrown cX9_thrown 1 (Option.some Jvm.ClassFile.FieldType.int) ∈ zG := zGt7 (List.mem_of_getElem? (i := 208) (by rfl)) rfl
theorem gw_7_205 : Cond.methodLink RL 161 yX9_thrown ∈ zG := zGt7 (List.mem_of_getElem? (i := 205) (by rfl)) rfl
theorem gw_7_206 : Cond.instanceMethod yX9_thrown ∈ zG := zGt7 (List.mem_of_getElem? (i := 206) (by rfl)) rfl
theorem gw_7_207 : Cond.selects RX9 yX9_thrown yX9_thrown ∈ zG := zGt7 (List.mem_of_getElem? (i := 207) (by rfl)) rfl
theorem gw_5_161 : Cond.methodLink RL 164 yL_truncate ∈ zG := zGt5 (List.mem_of_getElem? (i := 161) (by rfl)) rfl
theorem gw_5_162 : Cond.static yL_truncate ∈ zG := zGt5 (List.mem_of_getElem? (i := 162) (by rfl)) rfl
theorem gw_5_163 : Cond.codeWith yL_truncate cL_truncate 3 (Option.some Jvm.ClassFile.FieldType.int) [(0, 5, 8, 19)] ∈ zG := zGt5 (List.mem_of_getElem? (i := 163) (by rfl)) rfl
theorem gw_8_61 : Cond.code yX9_truncate cX9_truncate 2 (Option.none : Option Jvm.ClassFile.FieldType) ∈ zG := zGt8 (List.mem_of_getElem? (i := 61) (by rfl)) rfl
theorem gw_8_58 : Cond.methodLink RL 167 yX9_truncate ∈ zG := zGt8 (List.mem_of_getElem? (i := 58) (by rfl)) rfl
theorem gw_8_59 : Cond.instanceMethod yX9_truncate ∈ zG := zGt8 (List.mem_of_getElem? (i := 59) (by rfl)) rfl
theorem gw_8_60 : Cond.selects RX9 yX9_truncate yX9_truncate ∈ zG := zGt8 (List.mem_of_getElem? (i := 60) (by rfl)) rfl
theorem gw_2_155 : Cond.code yX8_load cX8_load 2 (Option.some Jvm.ClassFile.FieldType.int) ∈ zG := zGt2 (List.mem_of_getElem? (i := 155) (by rfl)) rfl
theorem gw_2_152 : Cond.methodLink RL 168 yX8_load ∈ zG := zGt2 (List.mem_of_getElem? (i := 152) (by rfl)) rfl
theorem gw_2_153 : Cond.instanceMethod yX8_load ∈ zG := zGt2 (List.mem_of_getElem? (i := 153) (by rfl)) rfl
theorem gw_2_154 : Cond.selects RX8 yX8_load yX8_load ∈ zG := zGt2 (List.mem_of_getElem? (i := 154) (by rfl)) rfl
theorem gw_8_68 : Cond.code yX9_load cX9_load 2 (Option.some Jvm.ClassFile.FieldType.int) ∈ zG := zGt8 (List.mem_of_getElem? (i := 68) (by rfl)) rfl
theorem gw_8_65 : Cond.methodLink RL 171 yX9_load ∈ zG := zGt8 (List.mem_of_getElem? (i := 65) (by rfl)) rfl
theorem gw_8_66 : Cond.instanceMethod yX9_load ∈ zG := zGt8 (List.mem_of_getElem? (i := 66) (by rfl)) rfl
theorem gw_8_67 : Cond.selects RX9 yX9_load yX9_load ∈ zG := zGt8 (List.mem_of_getElem? (i := 67) (by rfl)) rfl
theorem gw_4_231 : Cond.code yX8_errorCode cX8_errorCode 1 (Option.some Jvm.ClassFile.FieldType.int) ∈ zG := zGt4 (List.mem_of_getElem? (i := 231) (by rfl)) rfl
theorem gw_4_228 : Cond.methodLink RL 172 yX8_errorCode ∈ zG := zGt4 (List.mem_of_getElem? (i := 228) (by rfl)) rfl
theorem gw_4_229 : Cond.instanceMethod yX8_errorCode ∈ zG := zGt4 (List.mem_of_getElem? (i := 229) (by rfl)) rfl
theorem gw_4_230 : Cond.selects RX8 yX8_errorCode yX8_errorCode ∈ zG := zGt4 (List.mem_of_getElem? (i := 230) (by rfl)) rfl
theorem gw_8_209 : Cond.code yX9_errorCode cX9_errorCode 1 (Option.some Jvm.ClassFile.FieldType.int) ∈ zG := zGt8 (List.mem_of_getElem? (i := 209) (by rfl)) rfl
theorem gw_8_206 : Cond.methodLink RL 175 yX9_errorCode ∈ zG := zGt8 (List.mem_of_getElem? (i := 206) (by rfl)) rfl
theorem gw_8_207 : Cond.instanceMethod yX9_errorCode ∈ zG := zGt8 (List.mem_of_getElem? (i := 207) (by rfl)) rfl
theorem gw_8_208 : Cond.selects RX9 yX9_errorCode yX9_errorCode ∈ zG := zGt8 (List.mem_of_getElem? (i := 208) (by rfl)) rfl
theorem gw_4_235 : Cond.code yX8_errorPosition cX8_errorPosition 1 (Option.some Jvm.ClassFile.FieldType.int) ∈ zG := zGt4 (List.mem_of_getElem? (i := 235) (by rfl)) rfl
theorem gw_4_232 : Cond.methodLink RL 176 yX8_errorPosition ∈ zG := zGt4 (List.mem_of_getElem? (i := 232) (by rfl)) rfl
theorem gw_4_233 : Cond.instanceMethod yX8_errorPosition ∈ zG := zGt4 (List.mem_of_getElem? (i := 233) (by rfl)) rfl
theorem gw_4_234 : Cond.selects RX8 yX8_errorPosition yX8_errorPosition ∈ zG := zGt4 (List.mem_of_getElem? (i := 234) (by rfl)) rfl
theorem gw_8_213 : Cond.code yX9_errorPosition cX9_errorPosition 1 (Option.some Jvm.ClassFile.FieldType.int) ∈ zG := zGt8 (List.mem_of_getElem? (i := 213) (by rfl)) rfl
theorem gw_8_210 : Cond.methodLink RL 179 yX9_errorPosition ∈ zG := zGt8 (List.mem_of_getElem? (i := 210) (by rfl)) rfl
theorem gw_8_211 : Cond.instanceMethod yX9_errorPosition ∈ zG := zGt8 (List.mem_of_getElem? (i := 211) (by rfl)) rfl
theorem gw_8_212 : Cond.selects RX9 yX9_errorPosition yX9_errorPosition ∈ zG := zGt8 (List.mem_of_getElem? (i := 212) (by rfl)) rfl
theorem gw_4_239 : Cond.code yX8_find cX8_find 2 (Option.some Jvm.ClassFile.FieldType.int) ∈ zG := zGt4 (List.mem_of_getElem? (i := 239) (by rfl)) rfl
theorem gw_4_236 : Cond.methodLink RL 180 yX8_find ∈ zG := zGt4 (List.mem_of_getElem? (i := 236) (by rfl)) rfl
theorem gw_4_237 : Cond.instanceMethod yX8_find ∈ zG := zGt4 (List.mem_of_getElem? (i := 237) (by rfl)) rfl
theorem gw_4_238 : Cond.selects RX8 yX8_find yX8_find ∈ zG := zGt4 (List.mem_of_getElem? (i := 238) (by rfl)) rfl
theorem gw_8_217 : Cond.code yX9_find cX9_find 3 (Option.some Jvm.ClassFile.FieldType.int) ∈ zG := zGt8 (List.mem_of_getElem? (i := 217) (by rfl)) rfl
theorem gw_8_214 : Cond.methodLink RL 183 yX9_find ∈ zG := zGt8 (List.mem_of_getElem? (i := 214) (by rfl)) rfl
theorem gw_8_215 : Cond.instanceMethod yX9_find ∈ zG := zGt8 (List.mem_of_getElem? (i := 215) (by rfl)) rfl
theorem gw_8_216 : Cond.selects RX9 yX9_find yX9_find ∈ zG := zGt8 (List.mem_of_getElem? (i := 216) (by rfl)) rfl
theorem gw_5_175 : Cond.methodLink RL 184 yL_property ∈ zG := zGt5 (List.mem_of_getElem? (i := 175) (by rfl)) rfl
theorem gw_5_176 : Cond.static yL_property ∈ zG := zGt5 (List.mem_of_getElem? (i := 176) (by rfl)) rfl
theorem gw_5_177 : Cond.codeWith yL_property cL_property 4 (Option.some Jvm.ClassFile.FieldType.int) [(0, 9, 12, 19)] ∈ zG := zGt5 (List.mem_of_getElem? (i := 177) (by rfl)) rfl
theorem gw_8_222 : Cond.code yX9_property cX9_property 2 (Option.some Jvm.ClassFile.FieldType.int) ∈ zG := zGt8 (List.mem_of_getElem? (i := 222) (by rfl)) rfl
theorem gw_8_219 : Cond.methodLink RL 187 yX9_property ∈ zG := zGt8 (List.mem_of_getElem? (i := 219) (by rfl)) rfl
theorem gw_8_220 : Cond.instanceMethod yX9_property ∈ zG := zGt8 (List.mem_of_getElem? (i := 220) (by rfl)) rfl
theorem gw_8_221 : Cond.selects RX9 yX9_property yX9_property ∈ zG := zGt8 (List.mem_of_getElem? (i := 221) (by rfl)) rfl
theorem gw_5_190 : Cond.methodLink RL 188 yL_worker ∈ zG := zGt5 (List.mem_of_getElem? (i := 190) (by rfl)) rfl
theorem gw_5_191 : Cond.static yL_worker ∈ zG := zGt5 (List.mem_of_getElem? (i := 191) (by rfl)) rfl
theorem gw_5_192 : Cond.codeWith yL_worker cL_worker 5 (Option.some Jvm.ClassFile.FieldType.int) [(0, 10, 13, 29), (0, 10, 17, 19)] ∈ zG := zGt5 (List.mem_of_getElem? (i := 192) (by rfl)) rfl
theorem gw_9_7 : Cond.code yX9_worker cX9_worker 3 (Option.some Jvm.ClassFile.FieldType.int) ∈ zG := zGt9 (List.mem_of_getElem? (i := 7) (by rfl)) rfl
theorem gw_9_4 : Cond.methodLink RL 191 yX9_worker ∈ zG := zGt9 (List.mem_of_getElem? (i := 4) (by rfl)) rfl
theorem gw_9_5 : Cond.instanceMethod yX9_worker ∈ zG := zGt9 (List.mem_of_getElem? (i := 5) (by rfl)) rfl
theorem gw_9_6 : Cond.selects RX9 yX9_worker yX9_worker ∈ zG := zGt9 (List.mem_of_getElem? (i := 6) (by rfl)) rfl
theorem gw_5_215 : Cond.methodLink RL 192 yL_row ∈ zG := zGt5 (List.mem_of_getElem? (i := 215) (by rfl)) rfl
theorem gw_5_216 : Cond.static yL_row ∈ zG := zGt5 (List.mem_of_getElem? (i := 216) (by rfl)) rfl
theorem gw_5_217 : Cond.codeWith yL_row cL_row 5 (Option.some Jvm.ClassFile.FieldType.int) [(0, 10, 13, 29), (0, 10, 17, 19)] ∈ zG := zGt5 (List.mem_of_getElem? (i := 217) (by rfl)) rfl
theorem gw_9_44 : Cond.code yX9_row cX9_row 3 (Option.some Jvm.ClassFile.FieldType.int) ∈ zG := zGt9 (List.mem_of_getElem? (i := 44) (by rfl)) rfl
theorem gw_9_41 : Cond.methodLink RL 194 yX9_row ∈ zG := zGt9 (List.mem_of_getElem? (i := 41) (by rfl)) rfl
theorem gw_9_42 : Cond.instanceMethod yX9_row ∈ zG := zGt9 (List.mem_of_getElem? (i := 42) (by rfl)) rfl
theorem gw_9_43 : Cond.selects RX9 yX9_row yX9_row ∈ zG := zGt9 (List.mem_of_getElem? (i := 43) (by rfl)) rfl
theorem gw_5_228 : Cond.methodLink RL 195 yL_taking ∈ zG := zGt5 (List.mem_of_getElem? (i := 228) (by rfl)) rfl
theorem gw_5_229 : Cond.static yL_taking ∈ zG := zGt5 (List.mem_of_getElem? (i := 229) (by rfl)) rfl
theorem gw_5_230 : Cond.codeWith yL_taking cL_taking 6 (Option.some Jvm.ClassFile.FieldType.int) [(0, 12, 15, 29), (0, 12, 19, 19)] ∈ zG := zGt5 (List.mem_of_getElem? (i := 230) (by rfl)) rfl
theorem gw_9_57 : Cond.code yX9_taking cX9_taking 5 (Option.some Jvm.ClassFile.FieldType.int) ∈ zG := zGt9 (List.mem_of_getElem? (i := 57) (by rfl)) rfl
theorem gw_9_54 : Cond.methodLink RL 198 yX9_taking ∈ zG := zGt9 (List.mem_of_getElem? (i := 54) (by rfl)) rfl
theorem gw_9_55 : Cond.instanceMethod yX9_taking ∈ zG := zGt9 (List.mem_of_getElem? (i := 55) (by rfl)) rfl
theorem gw_9_56 : Cond.selects RX9 yX9_taking yX9_taking ∈ zG := zGt9 (List.mem_of_getElem? (i := 56) (by rfl)) rfl
theorem gw_6_0 : Cond.methodLink RL 199 yL_finishers ∈ zG := zGt6 (List.mem_of_getElem? (i := 0) (by rfl)) rfl
theorem gw_6_1 : Cond.static yL_finishers ∈ zG := zGt6 (List.mem_of_getElem? (i := 1) (by rfl)) rfl
theorem gw_6_2 : Cond.codeWith yL_finishers cL_finishers 4 (Option.some Jvm.ClassFile.FieldType.int) [(0, 9, 12, 29)] ∈ zG := zGt6 (List.mem_of_getElem? (i := 2) (by rfl)) rfl
theorem gw_9_62 : Cond.code yX9_finishers cX9_finishers 2 (Option.some Jvm.ClassFile.FieldType.int) ∈ zG := zGt9 (List.mem_of_getElem? (i := 62) (by rfl)) rfl
theorem gw_9_59 : Cond.methodLink RL 201 yX9_finishers ∈ zG := zGt9 (List.mem_of_getElem? (i := 59) (by rfl)) rfl
theorem gw_9_60 : Cond.instanceMethod yX9_finishers ∈ zG := zGt9 (List.mem_of_getElem? (i := 60) (by rfl)) rfl
theorem gw_9_61 : Cond.selects RX9 yX9_finishers yX9_finishers ∈ zG := zGt9 (List.mem_of_getElem? (i := 61) (by rfl)) rfl
theorem gw_6_7 : Cond.methodLink RL 202 yL_refusal ∈ zG := zGt6 (List.mem_of_getElem? (i := 7) (by rfl)) rfl
theorem gw_6_8 : Cond.static yL_refusal ∈ zG := zGt6 (List.mem_of_getElem? (i := 8) (by rfl)) rfl
theorem gw_6_9 : Cond.codeWith yL_refusal cL_refusal 5 (Option.some Jvm.ClassFile.FieldType.int) [(0, 10, 13, 29)] ∈ zG := zGt6 (List.mem_of_getElem? (i := 9) (by rfl)) rfl
theorem gw_9_66 : Cond.code yX9_refusal cX9_refusal 3 (Option.some Jvm.ClassFile.FieldType.int) ∈ zG := zGt9 (List.mem_of_getElem? (i := 66) (by rfl)) rfl
theorem gw_9_63 : Cond.methodLink RL 204 yX9_refusal ∈ zG := zGt9 (List.mem_of_getElem? (i := 63) (by rfl)) rfl
theorem gw_9_64 : Cond.instanceMethod yX9_refusal ∈ zG := zGt9 (List.mem_of_getElem? (i := 64) (by rfl)) rfl
theorem gw_9_65 : Cond.selects RX9 yX9_refusal yX9_refusal ∈ zG := zGt9 (List.mem_of_getElem? (i := 65) (by rfl)) rfl
theorem gw_6_15 : Cond.methodLink RL 205 yL_offers ∈ zG := zGt6 (List.mem_of_getElem? (i := 15) (by rfl)) rfl
theorem gw_6_16 : Cond.static yL_offers ∈ zG := zGt6 (List.mem_of_getElem? (i := 16) (by rfl)) rfl
theorem gw_6_17 : Cond.codeWith yL_offers cL_offers 4 (Option.some Jvm.ClassFile.FieldType.int) [(0, 9, 12, 29)] ∈ zG := zGt6 (List.mem_of_getElem? (i := 17) (by rfl)) rfl
theorem gw_9_97 : Cond.code yX9_offers cX9_offers 4 (Option.some Jvm.ClassFile.FieldType.int) ∈ zG := zGt9 (List.mem_of_getElem? (i := 97) (by rfl)) rfl
theorem gw_9_94 : Cond.methodLink RL 207 yX9_offers ∈ zG := zGt9 (List.mem_of_getElem? (i := 94) (by rfl)) rfl
theorem gw_9_95 : Cond.instanceMethod yX9_offers ∈ zG := zGt9 (List.mem_of_getElem? (i := 95) (by rfl)) rfl
theorem gw_9_96 : Cond.selects RX9 yX9_offers yX9_offers ∈ zG := zGt9 (List.mem_of_getElem? (i := 96) (by rfl)) rfl
theorem gw_6_23 : Cond.methodLink RL 208 yL_nextFor ∈ zG := zGt6 (List.mem_of_getElem? (i := 23) (by rfl)) rfl
theorem gw_6_24 : Cond.static yL_nextFor ∈ zG := zGt6 (List.mem_of_getElem? (i := 24) (by rfl)) rfl
theorem gw_6_25 : Cond.codeWith yL_nextFor cL_nextFor 4 (Option.some Jvm.ClassFile.FieldType.int) [(0, 9, 12, 29)] ∈ zG := zGt6 (List.mem_of_getElem? (i := 25) (by rfl)) rfl
theorem gw_9_105 : Cond.code yX9_nextFor cX9_nextFor 2 (Option.some Jvm.ClassFile.FieldType.int) ∈ zG := zGt9 (List.mem_of_getElem? (i := 105) (by rfl)) rfl
theorem gw_9_102 : Cond.methodLink RL 210 yX9_nextFor ∈ zG := zGt9 (List.mem_of_getElem? (i := 102) (by rfl)) rfl
theorem gw_9_103 : Cond.instanceMethod yX9_nextFor ∈ zG := zGt9 (List.mem_of_getElem? (i := 103) (by rfl)) rfl
theorem gw_9_104 : Cond.selects RX9 yX9_nextFor yX9_nextFor ∈ zG := zGt9 (List.mem_of_getElem? (i := 104) (by rfl)) rfl
theorem gw_6_37 : Cond.methodLink RL 211 yL_takers ∈ zG := zGt6 (List.mem_of_getElem? (i := 37) (by rfl)) rfl
theorem gw_6_38 : Cond.static yL_takers ∈ zG := zGt6 (List.mem_of_getElem? (i := 38) (by rfl)) rfl
theorem gw_6_39 : Cond.codeWith yL_takers cL_takers 4 (Option.some Jvm.ClassFile.FieldType.int) [(0, 9, 12, 29)] ∈ zG := zGt6 (List.mem_of_getElem? (i := 39) (by rfl)) rfl
theorem gw_9_117 : Cond.code yX9_takers cX9_takers 4 (Option.some Jvm.ClassFile.FieldType.int) ∈ zG := zGt9 (List.mem_of_getElem? (i := 117) (by rfl)) rfl
theorem gw_9_114 : Cond.methodLink RL 213 yX9_takers ∈ zG := zGt9 (List.mem_of_getElem? (i := 114) (by rfl)) rfl
theorem gw_9_115 : Cond.instanceMethod yX9_takers ∈ zG := zGt9 (List.mem_of_getElem? (i := 115) (by rfl)) rfl
theorem gw_9_116 : Cond.selects RX9 yX9_takers yX9_takers ∈ zG := zGt9 (List.mem_of_getElem? (i := 116) (by rfl)) rfl
theorem gw_6_48 : Cond.methodLink RL 214 yL_isStuck ∈ zG := zGt6 (List.mem_of_getElem? (i := 48) (by rfl)) rfl
theorem gw_6_49 : Cond.static yL_isStuck ∈ zG := zGt6 (List.mem_of_getElem? (i := 49) (by rfl)) rfl
theorem gw_6_50 : Cond.codeWith yL_isStuck cL_isStuck 4 (Option.some Jvm.ClassFile.FieldType.int) [(0, 16, 19, 29)] ∈ zG := zGt6 (List.mem_of_getElem? (i := 50) (by rfl)) rfl
theorem gw_9_121 : Cond.code yX9_isStuck cX9_isStuck 2 (Option.some Jvm.ClassFile.FieldType.boolean) ∈ zG := zGt9 (List.mem_of_getElem? (i := 121) (by rfl)) rfl
theorem gw_9_118 : Cond.methodLink RL 216 yX9_isStuck ∈ zG := zGt9 (List.mem_of_getElem? (i := 118) (by rfl)) rfl
theorem gw_9_119 : Cond.instanceMethod yX9_isStuck ∈ zG := zGt9 (List.mem_of_getElem? (i := 119) (by rfl)) rfl
theorem gw_9_120 : Cond.selects RX9 yX9_isStuck yX9_isStuck ∈ zG := zGt9 (List.mem_of_getElem? (i := 120) (by rfl)) rfl
theorem gw_6_55 : Cond.methodLink RL 217 yL_bestPair ∈ zG := zGt6 (List.mem_of_getElem? (i := 55) (by rfl)) rfl
theorem gw_6_56 : Cond.static yL_bestPair ∈ zG := zGt6 (List.mem_of_getElem? (i := 56) (by rfl)) rfl
theorem gw_6_57 : Cond.codeWith yL_bestPair cL_bestPair 4 (Option.some Jvm.ClassFile.FieldType.int) [(0, 9, 12, 29)] ∈ zG := zGt6 (List.mem_of_getElem? (i := 57) (by rfl)) rfl
theorem gw_9_129 : Cond.code yX9_bestPair cX9_bestPair 7 (Option.some Jvm.ClassFile.FieldType.int) ∈ zG := zGt9 (List.mem_of_getElem? (i := 129) (by rfl)) rfl
theorem gw_9_126 : Cond.methodLink RL 219 yX9_bestPair ∈ zG := zGt9 (List.mem_of_getElem? (i := 126) (by rfl)) rfl
theorem gw_9_127 : Cond.instanceMethod yX9_bestPair ∈ zG := zGt9 (List.mem_of_getElem? (i := 127) (by rfl)) rfl
theorem gw_9_128 : Cond.selects RX9 yX9_bestPair yX9_bestPair ∈ zG := zGt9 (List.mem_of_getElem? (i := 128) (by rfl)) rfl
theorem gw_5_4 : Cond.code yX8_mostTakings cX8_mostTakings 1 (Option.some Jvm.ClassFile.FieldType.int) ∈ zG := zGt5 (List.mem_of_getElem? (i := 4) (by rfl)) rfl
theorem gw_5_1 : Cond.methodLink RL 220 yX8_mostTakings ∈ zG := zGt5 (List.mem_of_getElem? (i := 1) (by rfl)) rfl
theorem gw_5_2 : Cond.instanceMethod yX8_mostTakings ∈ zG := zGt5 (List.mem_of_getElem? (i := 2) (by rfl)) rfl
theorem gw_5_3 : Cond.selects RX8 yX8_mostTakings yX8_mostTakings ∈ zG := zGt5 (List.mem_of_getElem? (i := 3) (by rfl)) rfl
theorem gw_9_137 : Cond.code yX9_mostTakings cX9_mostTakings 4 (Option.some Jvm.ClassFile.FieldType.int) ∈ zG := zGt9 (List.mem_of_getElem? (i := 137) (by rfl)) rfl
theorem gw_9_134 : Cond.methodLink RL 223 yX9_mostTakings ∈ zG := zGt9 (List.mem_of_getElem? (i := 134) (by rfl)) rfl
theorem gw_9_135 : Cond.instanceMethod yX9_mostTakings ∈ zG := zGt9 (List.mem_of_getElem? (i := 135) (by rfl)) rfl
theorem gw_9_136 : Cond.selects RX9 yX9_mostTakings yX9_mostTakings ∈ zG := zGt9 (List.mem_of_getElem? (i := 136) (by rfl)) rfl
theorem gw_6_70 : Cond.methodLink RL 224 yL_strikes ∈ zG := zGt6 (List.mem_of_getElem? (i := 70) (by rfl)) rfl
theorem gw_6_71 : Cond.static yL_strikes ∈ zG := zGt6 (List.mem_of_getElem? (i := 71) (by rfl)) rfl
theorem gw_6_72 : Cond.codeWith yL_strikes cL_strikes 5 (Option.some Jvm.ClassFile.FieldType.int) [(0, 10, 13, 29)] ∈ zG := zGt6 (List.mem_of_getElem? (i := 72) (by rfl)) rfl
theorem gw_9_145 : Cond.code yX9_strikes cX9_strikes 3 (Option.some Jvm.ClassFile.FieldType.int) ∈ zG := zGt9 (List.mem_of_getElem? (i := 145) (by rfl)) rfl
theorem gw_9_142 : Cond.methodLink RL 226 yX9_strikes ∈ zG := zGt9 (List.mem_of_getElem? (i := 142) (by rfl)) rfl
theorem gw_9_143 : Cond.instanceMethod yX9_strikes ∈ zG := zGt9 (List.mem_of_getElem? (i := 143) (by rfl)) rfl
theorem gw_9_144 : Cond.selects RX9 yX9_strikes yX9_strikes ∈ zG := zGt9 (List.mem_of_getElem? (i := 144) (by rfl)) rfl
theorem gw_6_78 : Cond.methodLink RL 227 yL_isBarred ∈ zG := zGt6 (List.mem_of_getElem? (i := 78) (by rfl)) rfl
theorem gw_6_79 : Cond.static yL_isBarred ∈ zG := zGt6 (List.mem_of_getElem? (i := 79) (by rfl)) rfl
theorem gw_6_80 : Cond.codeWith yL_isBarred cL_isBarred 5 (Option.some Jvm.ClassFile.FieldType.int) [(0, 17, 20, 29)] ∈ zG := zGt6 (List.mem_of_getElem? (i := 80) (by rfl)) rfl
theorem gw_9_153 : Cond.code yX9_isBarred cX9_isBarred 3 (Option.some Jvm.ClassFile.FieldType.boolean) ∈ zG := zGt9 (List.mem_of_getElem? (i := 153) (by rfl)) rfl
theorem gw_9_150 : Cond.methodLink RL 229 yX9_isBarred ∈ zG := zGt9 (List.mem_of_getElem? (i := 150) (by rfl)) rfl
theorem gw_9_151 : Cond.instanceMethod yX9_isBarred ∈ zG := zGt9 (List.mem_of_getElem? (i := 151) (by rfl)) rfl
theorem gw_9_152 : Cond.selects RX9 yX9_isBarred yX9_isBarred ∈ zG := zGt9 (List.mem_of_getElem? (i := 152) (by rfl)) rfl
theorem gw_6_86 : Cond.methodLink RL 230 yL_agreeing ∈ zG := zGt6 (List.mem_of_getElem? (i := 86) (by rfl)) rfl
theorem gw_6_87 : Cond.static yL_agreeing ∈ zG := zGt6 (List.mem_of_getElem? (i := 87) (by rfl)) rfl
theorem gw_6_88 : Cond.codeWith yL_agreeing cL_agreeing 5 (Option.some Jvm.ClassFile.FieldType.int) [(0, 10, 13, 29)] ∈ zG := zGt6 (List.mem_of_getElem? (i := 88) (by rfl)) rfl
theorem gw_9_157 : Cond.code yX9_agreeing cX9_agreeing 3 (Option.some Jvm.ClassFile.FieldType.int) ∈ zG := zGt9 (List.mem_of_getElem? (i := 157) (by rfl)) rfl
theorem gw_9_154 : Cond.methodLink RL 232 yX9_agreeing ∈ zG := zGt9 (List.mem_of_getElem? (i := 154) (by rfl)) rfl
theorem gw_9_155 : Cond.instanceMethod yX9_agreeing ∈ zG := zGt9 (List.mem_of_getElem? (i := 155) (by rfl)) rfl
theorem gw_9_156 : Cond.selects RX9 yX9_agreeing yX9_agreeing ∈ zG := zGt9 (List.mem_of_getElem? (i := 156) (by rfl)) rfl
theorem gw_6_113 : Cond.methodLink RL 233 yL_differing ∈ zG := zGt6 (List.mem_of_getElem? (i := 113) (by rfl)) rfl
theorem gw_6_114 : Cond.static yL_differing ∈ zG := zGt6 (List.mem_of_getElem? (i := 114) (by rfl)) rfl
theorem gw_6_115 : Cond.codeWith yL_differing cL_differing 5 (Option.some Jvm.ClassFile.FieldType.int) [(0, 10, 13, 29)] ∈ zG := zGt6 (List.mem_of_getElem? (i := 115) (by rfl)) rfl
theorem gw_9_174 : Cond.code yX9_differing cX9_differing 3 (Option.some Jvm.ClassFile.FieldType.int) ∈ zG := zGt9 (List.mem_of_getElem? (i := 174) (by rfl)) rfl
theorem gw_9_171 : Cond.methodLink RL 235 yX9_differing ∈ zG := zGt9 (List.mem_of_getElem? (i := 171) (by rfl)) rfl
theorem gw_9_172 : Cond.instanceMethod yX9_differing ∈ zG := zGt9 (List.mem_of_getElem? (i := 172) (by rfl)) rfl
theorem gw_9_173 : Cond.selects RX9 yX9_differing yX9_differing ∈ zG := zGt9 (List.mem_of_getElem? (i := 173) (by rfl)) rfl
theorem gw_6_120 : Cond.methodLink RL 236 yL_accuracy ∈ zG := zGt6 (List.mem_of_getElem? (i := 120) (by rfl)) rfl
theorem gw_6_121 : Cond.static yL_accuracy ∈ zG := zGt6 (List.mem_of_getElem? (i := 121) (by rfl)) rfl
theorem gw_6_122 : Cond.codeWith yL_accuracy cL_accuracy 4 (Option.some Jvm.ClassFile.FieldType.int) [(0, 9, 12, 29)] ∈ zG := zGt6 (List.mem_of_getElem? (i := 122) (by rfl)) rfl
theorem gw_9_182 : Cond.code yX9_accuracy cX9_accuracy 6 (Option.some Jvm.ClassFile.FieldType.float) ∈ zG := zGt9 (List.mem_of_getElem? (i := 182) (by rfl)) rfl
theorem gw_9_179 : Cond.methodLink RL 239 yX9_accuracy ∈ zG := zGt9 (List.mem_of_getElem? (i := 179) (by rfl)) rfl
theorem gw_9_180 : Cond.instanceMethod yX9_accuracy ∈ zG := zGt9 (List.mem_of_getElem? (i := 180) (by rfl)) rfl
theorem gw_9_181 : Cond.selects RX9 yX9_accuracy yX9_accuracy ∈ zG := zGt9 (List.mem_of_getElem? (i := 181) (by rfl)) rfl
theorem gw_5_49 : Cond.code yX8_meanTrust cX8_meanTrust 3 (Option.some Jvm.ClassFile.FieldType.double) ∈ zG := zGt5 (List.mem_of_getElem? (i := 49) (by rfl)) rfl
theorem gw_5_46 : Cond.methodLink RL 240 yX8_meanTrust ∈ zG := zGt5 (List.mem_of_getElem? (i := 46) (by rfl)) rfl
theorem gw_5_47 : Cond.instanceMethod yX8_meanTrust ∈ zG := zGt5 (List.mem_of_getElem? (i := 47) (by rfl)) rfl
theorem gw_5_48 : Cond.selects RX8 yX8_meanTrust yX8_meanTrust ∈ zG := zGt5 (List.mem_of_getElem? (i := 48) (by rfl)) rfl
theorem gw_9_186 : Cond.code yX9_meanTrust cX9_meanTrust 3 (Option.some Jvm.ClassFile.FieldType.double) ∈ zG := zGt9 (List.mem_of_getElem? (i := 186) (by rfl)) rfl
theorem gw_9_183 : Cond.methodLink RL 244 yX9_meanTrust ∈ zG := zGt9 (List.mem_of_getElem? (i := 183) (by rfl)) rfl
theorem gw_9_184 : Cond.instanceMethod yX9_meanTrust ∈ zG := zGt9 (List.mem_of_getElem? (i := 184) (by rfl)) rfl
theorem gw_9_185 : Cond.selects RX9 yX9_meanTrust yX9_meanTrust ∈ zG := zGt9 (List.mem_of_getElem? (i := 185) (by rfl)) rfl
theorem gw_5_53 : Cond.code yX8_suspended cX8_suspended 3 (Option.some Jvm.ClassFile.FieldType.int) ∈ zG := zGt5 (List.mem_of_getElem? (i := 53) (by rfl)) rfl
theorem gw_5_50 : Cond.methodLink RL 245 yX8_suspended ∈ zG := zGt5 (List.mem_of_getElem? (i := 50) (by rfl)) rfl
theorem gw_5_51 : Cond.instanceMethod yX8_suspended ∈ zG := zGt5 (List.mem_of_getElem? (i := 51) (by rfl)) rfl
theorem gw_5_52 : Cond.selects RX8 yX8_suspended yX8_suspended ∈ zG := zGt5 (List.mem_of_getElem? (i := 52) (by rfl)) rfl
theorem gw_9_190 : Cond.code yX9_suspended cX9_suspended 3 (Option.some Jvm.ClassFile.FieldType.int) ∈ zG := zGt9 (List.mem_of_getElem? (i := 190) (by rfl)) rfl
theorem gw_9_187 : Cond.methodLink RL 248 yX9_suspended ∈ zG := zGt9 (List.mem_of_getElem? (i := 187) (by rfl)) rfl
theorem gw_9_188 : Cond.instanceMethod yX9_suspended ∈ zG := zGt9 (List.mem_of_getElem? (i := 188) (by rfl)) rfl
theorem gw_9_189 : Cond.selects RX9 yX9_suspended yX9_suspended ∈ zG := zGt9 (List.mem_of_getElem? (i := 189) (by rfl)) rfl
theorem gw_6_129 : Cond.methodLink RL 249 yL_risk ∈ zG := zGt6 (List.mem_of_getElem? (i := 129) (by rfl)) rfl
theorem gw_6_130 : Cond.static yL_risk ∈ zG := zGt6 (List.mem_of_getElem? (i := 130) (by rfl)) rfl
theorem gw_6_131 : Cond.codeWith yL_risk cL_risk 4 (Option.some Jvm.ClassFile.FieldType.int) [(0, 9, 12, 29)] ∈ zG := zGt6 (List.mem_of_getElem? (i := 131) (by rfl)) rfl
theorem gw_9_194 : Cond.code yX9_risk cX9_risk 2 (Option.some Jvm.ClassFile.FieldType.int) ∈ zG := zGt9 (List.mem_of_getElem? (i := 194) (by rfl)) rfl
theorem gw_9_191 : Cond.methodLink RL 251 yX9_risk ∈ zG := zGt9 (List.mem_of_getElem? (i := 191) (by rfl)) rfl
theorem gw_9_192 : Cond.instanceMethod yX9_risk ∈ zG := zGt9 (List.mem_of_getElem? (i := 192) (by rfl)) rfl
theorem gw_9_193 : Cond.selects RX9 yX9_risk yX9_risk ∈ zG := zGt9 (List.mem_of_getElem? (i := 193) (by rfl)) rfl
theorem gw_5_58 : Cond.code yX8_nextAudit cX8_nextAudit 4 (Option.some Jvm.ClassFile.FieldType.int) ∈ zG := zGt5 (List.mem_of_getElem? (i := 58) (by rfl)) rfl
theorem gw_5_55 : Cond.methodLink RL 252 yX8_nextAudit ∈ zG := zGt5 (List.mem_of_getElem? (i := 55) (by rfl)) rfl
theorem gw_5_56 : Cond.instanceMethod yX8_nextAudit ∈ zG := zGt5 (List.mem_of_getElem? (i := 56) (by rfl)) rfl
theorem gw_5_57 : Cond.selects RX8 yX8_nextAudit yX8_nextAudit ∈ zG := zGt5 (List.mem_of_getElem? (i := 57) (by rfl)) rfl
theorem gw_9_202 : Cond.code yX9_nextAudit cX9_nextAudit 3 (Option.some Jvm.ClassFile.FieldType.int) ∈ zG := zGt9 (List.mem_of_getElem? (i := 202) (by rfl)) rfl
theorem gw_9_199 : Cond.methodLink RL 255 yX9_nextAudit ∈ zG := zGt9 (List.mem_of_getElem? (i := 199) (by rfl)) rfl
theorem gw_9_200 : Cond.instanceMethod yX9_nextAudit ∈ zG := zGt9 (List.mem_of_getElem? (i := 200) (by rfl)) rfl
theorem gw_9_201 : Cond.selects RX9 yX9_nextAudit yX9_nextAudit ∈ zG := zGt9 (List.mem_of_getElem? (i := 201) (by rfl)) rfl
theorem gw_5_70 : Cond.code yX8_nextDue cX8_nextDue 4 (Option.some Jvm.ClassFile.FieldType.int) ∈ zG := zGt5 (List.mem_of_getElem? (i := 70) (by rfl)) rfl
theorem gw_5_67 : Cond.methodLink RL 256 yX8_nextDue ∈ zG := zGt5 (List.mem_of_getElem? (i := 67) (by rfl)) rfl
theorem gw_5_68 : Cond.instanceMethod yX8_nextDue ∈ zG := zGt5 (List.mem_of_getElem? (i := 68) (by rfl)) rfl
theorem gw_5_69 : Cond.selects RX8 yX8_nextDue yX8_nextDue ∈ zG := zGt5 (List.mem_of_getElem? (i := 69) (by rfl)) rfl
theorem gw_9_210 : Cond.code yX9_nextDue cX9_nextDue 5 (Option.some Jvm.ClassFile.FieldType.int) ∈ zG := zGt9 (List.mem_of_getElem? (i := 210) (by rfl)) rfl
theorem gw_9_207 : Cond.methodLink RL 259 yX9_nextDue ∈ zG := zGt9 (List.mem_of_getElem? (i := 207) (by rfl)) rfl
theorem gw_9_208 : Cond.instanceMethod yX9_nextDue ∈ zG := zGt9 (List.mem_of_getElem? (i := 208) (by rfl)) rfl
theorem gw_9_209 : Cond.selects RX9 yX9_nextDue yX9_nextDue ∈ zG := zGt9 (List.mem_of_getElem? (i := 209) (by rfl)) rfl
theorem gw_6_137 : Cond.methodLink RL 260 yL_lateIn ∈ zG := zGt6 (List.mem_of_getElem? (i := 137) (by rfl)) rfl
theorem gw_6_138 : Cond.static yL_lateIn ∈ zG := zGt6 (List.mem_of_getElem? (i := 138) (by rfl)) rfl
theorem gw_6_139 : Cond.codeWith yL_lateIn cL_lateIn 4 (Option.some Jvm.ClassFile.FieldType.int) [(0, 9, 12, 19)] ∈ zG := zGt6 (List.mem_of_getElem? (i := 139) (by rfl)) rfl
theorem gw_9_214 : Cond.code yX9_lateIn cX9_lateIn 5 (Option.some Jvm.ClassFile.FieldType.int) ∈ zG := zGt9 (List.mem_of_getElem? (i := 214) (by rfl)) rfl
theorem gw_9_211 : Cond.methodLink RL 262 yX9_lateIn ∈ zG := zGt9 (List.mem_of_getElem? (i := 211) (by rfl)) rfl
theorem gw_9_212 : Cond.instanceMethod yX9_lateIn ∈ zG := zGt9 (List.mem_of_getElem? (i := 212) (by rfl)) rfl
theorem gw_9_213 : Cond.selects RX9 yX9_lateIn yX9_lateIn ∈ zG := zGt9 (List.mem_of_getElem? (i := 213) (by rfl)) rfl
theorem gw_6_152 : Cond.methodLink RL 263 yL_stateIf ∈ zG := zGt6 (List.mem_of_getElem? (i := 152) (by rfl)) rfl
theorem gw_6_153 : Cond.static yL_stateIf ∈ zG := zGt6 (List.mem_of_getElem? (i := 153) (by rfl)) rfl
theorem gw_6_154 : Cond.codeWith yL_stateIf cL_stateIf 6 (Option.some Jvm.ClassFile.FieldType.int) [(0, 12, 15, 29), (0, 12, 19, 19), (0, 12, 23, 13)] ∈ zG := zGt6 (List.mem_of_getElem? (i := 154) (by rfl)) rfl
theorem gw_9_219 : Cond.code yX9_stateIf cX9_stateIf 5 (Option.some Jvm.ClassFile.FieldType.int) ∈ zG := zGt9 (List.mem_of_getElem? (i := 219) (by rfl)) rfl
theorem gw_9_216 : Cond.methodLink RL 265 yX9_stateIf ∈ zG := zGt9 (List.mem_of_getElem? (i := 216) (by rfl)) rfl
theorem gw_9_217 : Cond.instanceMethod yX9_stateIf ∈ zG := zGt9 (List.mem_of_getElem? (i := 217) (by rfl)) rfl
theorem gw_9_218 : Cond.selects RX9 yX9_stateIf yX9_stateIf ∈ zG := zGt9 (List.mem_of_getElem? (i := 218) (by rfl)) rfl
theorem gw_6_186 : Cond.methodLink RL 266 yL_trustIf ∈ zG := zGt6 (List.mem_of_getElem? (i := 186) (by rfl)) rfl
theorem gw_6_187 : Cond.static yL_trustIf ∈ zG := zGt6 (List.mem_of_getElem? (i := 187) (by rfl)) rfl
theorem gw_6_188 : Cond.codeWith yL_trustIf cL_trustIf 7 (Option.some Jvm.ClassFile.FieldType.int) [(0, 14, 17, 29), (0, 14, 21, 19), (0, 14, 25, 13)] ∈ zG := zGt6 (List.mem_of_getElem? (i := 188) (by rfl)) rfl
theorem gw_10_30 : Cond.code yX9_trustIf cX9_trustIf 7 (Option.some Jvm.ClassFile.FieldType.int) ∈ zG := zGt10 (List.mem_of_getElem? (i := 30) (by rfl)) rfl
theorem gw_10_27 : Cond.methodLink RL 269 yX9_trustIf ∈ zG := zGt10 (List.mem_of_getElem? (i := 27) (by rfl)) rfl
theorem gw_10_28 : Cond.instanceMethod yX9_trustIf ∈ zG := zGt10 (List.mem_of_getElem? (i := 28) (by rfl)) rfl
theorem gw_10_29 : Cond.selects RX9 yX9_trustIf yX9_trustIf ∈ zG := zGt10 (List.mem_of_getElem? (i := 29) (by rfl)) rfl
theorem gw_6_198 : Cond.methodLink RL 270 yL_finishing ∈ zG := zGt6 (List.mem_of_getElem? (i := 198) (by rfl)) rfl
theorem gw_6_199 : Cond.static yL_finishing ∈ zG := zGt6 (List.mem_of_getElem? (i := 199) (by rfl)) rfl
theorem gw_6_200 : Cond.codeWith yL_finishing cL_finishing 5 (Option.some Jvm.ClassFile.FieldType.int) [(0, 10, 13, 29), (0, 10, 17, 13)] ∈ zG := zGt6 (List.mem_of_getElem? (i := 200) (by rfl)) rfl
theorem gw_10_34 : Cond.code yX9_finishing cX9_finishing 6 (Option.some Jvm.ClassFile.FieldType.int) ∈ zG := zGt10 (List.mem_of_getElem? (i := 34) (by rfl)) rfl
theorem gw_10_31 : Cond.methodLink RL 272 yX9_finishing ∈ zG := zGt10 (List.mem_of_getElem? (i := 31) (by rfl)) rfl
theorem gw_10_32 : Cond.instanceMethod yX9_finishing ∈ zG := zGt10 (List.mem_of_getElem? (i := 32) (by rfl)) rfl
theorem gw_10_33 : Cond.selects RX9 yX9_finishing yX9_finishing ∈ zG := zGt10 (List.mem_of_getElem? (i := 33) (by rfl)) rfl
theorem gw_5_90 : Cond.code yX8_lost cX8_lost 3 (Option.some Jvm.ClassFile.FieldType.int) ∈ zG := zGt5 (List.mem_of_getElem? (i := 90) (by rfl)) rfl
theorem gw_5_87 : Cond.methodLink RL 273 yX8_lost ∈ zG := zGt5 (List.mem_of_getElem? (i := 87) (by rfl)) rfl
theorem gw_5_88 : Cond.instanceMethod yX8_lost ∈ zG := zGt5 (List.mem_of_getElem? (i := 88) (by rfl)) rfl
theorem gw_5_89 : Cond.selects RX8 yX8_lost yX8_lost ∈ zG := zGt5 (List.mem_of_getElem? (i := 89) (by rfl)) rfl
theorem gw_10_38 : Cond.code yX9_lost cX9_lost 3 (Option.some Jvm.ClassFile.FieldType.int) ∈ zG := zGt10 (List.mem_of_getElem? (i := 38) (by rfl)) rfl
theorem gw_10_35 : Cond.methodLink RL 276 yX9_lost ∈ zG := zGt10 (List.mem_of_getElem? (i := 35) (by rfl)) rfl
theorem gw_10_36 : Cond.instanceMethod yX9_lost ∈ zG := zGt10 (List.mem_of_getElem? (i := 36) (by rfl)) rfl
theorem gw_10_37 : Cond.selects RX9 yX9_lost yX9_lost ∈ zG := zGt10 (List.mem_of_getElem? (i := 37) (by rfl)) rfl
theorem gw_6_205 : Cond.methodLink RL 277 yL_finishedOf ∈ zG := zGt6 (List.mem_of_getElem? (i := 205) (by rfl)) rfl
theorem gw_6_206 : Cond.static yL_finishedOf ∈ zG := zGt6 (List.mem_of_getElem? (i := 206) (by rfl)) rfl
theorem gw_6_207 : Cond.codeWith yL_finishedOf cL_finishedOf 4 (Option.some Jvm.ClassFile.FieldType.int) [(0, 9, 12, 19)] ∈ zG := zGt6 (List.mem_of_getElem? (i := 207) (by rfl)) rfl
theorem gw_10_42 : Cond.code yX9_finishedOf cX9_finishedOf 4 (Option.some Jvm.ClassFile.FieldType.int) ∈ zG := zGt10 (List.mem_of_getElem? (i := 42) (by rfl)) rfl
theorem gw_10_39 : Cond.methodLink RL 279 yX9_finishedOf ∈ zG := zGt10 (List.mem_of_getElem? (i := 39) (by rfl)) rfl
theorem gw_10_40 : Cond.instanceMethod yX9_finishedOf ∈ zG := zGt10 (List.mem_of_getElem? (i := 40) (by rfl)) rfl
theorem gw_10_41 : Cond.selects RX9 yX9_finishedOf yX9_finishedOf ∈ zG := zGt10 (List.mem_of_getElem? (i := 41) (by rfl)) rfl
theorem gw_5_98 : Cond.code yX8_left cX8_left 3 (Option.some Jvm.ClassFile.FieldType.int) ∈ zG := zGt5 (List.mem_of_getElem? (i := 98) (by rfl)) rfl
theorem gw_5_95 : Cond.methodLink RL 280 yX8_left ∈ zG := zGt5 (List.mem_of_getElem? (i := 95) (by rfl)) rfl
theorem gw_5_96 : Cond.instanceMethod yX8_left ∈ zG := zGt5 (List.mem_of_getElem? (i := 96) (by rfl)) rfl
theorem gw_5_97 : Cond.selects RX8 yX8_left yX8_left ∈ zG := zGt5 (List.mem_of_getElem? (i := 97) (by rfl)) rfl
theorem gw_10_47 : Cond.code yX9_left cX9_left 3 (Option.some Jvm.ClassFile.FieldType.int) ∈ zG := zGt10 (List.mem_of_getElem? (i := 47) (by rfl)) rfl
theorem gw_10_44 : Cond.methodLink RL 283 yX9_left ∈ zG := zGt10 (List.mem_of_getElem? (i := 44) (by rfl)) rfl
theorem gw_10_45 : Cond.instanceMethod yX9_left ∈ zG := zGt10 (List.mem_of_getElem? (i := 45) (by rfl)) rfl
theorem gw_10_46 : Cond.selects RX9 yX9_left yX9_left ∈ zG := zGt10 (List.mem_of_getElem? (i := 46) (by rfl)) rfl
theorem gw_5_103 : Cond.code yX8_leader cX8_leader 3 (Option.some Jvm.ClassFile.FieldType.int) ∈ zG := zGt5 (List.mem_of_getElem? (i := 103) (by rfl)) rfl
theorem gw_5_100 : Cond.methodLink RL 284 yX8_leader ∈ zG := zGt5 (List.mem_of_getElem? (i := 100) (by rfl)) rfl
theorem gw_5_101 : Cond.instanceMethod yX8_leader ∈ zG := zGt5 (List.mem_of_getElem? (i := 101) (by rfl)) rfl
theorem gw_5_102 : Cond.selects RX8 yX8_leader yX8_leader ∈ zG := zGt5 (List.mem_of_getElem? (i := 102) (by rfl)) rfl
theorem gw_10_51 : Cond.code yX9_leader cX9_leader 3 (Option.some Jvm.ClassFile.FieldType.int) ∈ zG := zGt10 (List.mem_of_getElem? (i := 51) (by rfl)) rfl
theorem gw_10_48 : Cond.methodLink RL 287 yX9_leader ∈ zG := zGt10 (List.mem_of_getElem? (i := 48) (by rfl)) rfl
theorem gw_10_49 : Cond.instanceMethod yX9_leader ∈ zG := zGt10 (List.mem_of_getElem? (i := 49) (by rfl)) rfl
theorem gw_10_50 : Cond.selects RX9 yX9_leader yX9_leader ∈ zG := zGt10 (List.mem_of_getElem? (i := 50) (by rfl)) rfl
theorem gw_6_212 : Cond.methodLink RL 288 yL_place ∈ zG := zGt6 (List.mem_of_getElem? (i := 212) (by rfl)) rfl
theorem gw_6_213 : Cond.static yL_place ∈ zG := zGt6 (List.mem_of_getElem? (i := 213) (by rfl)) rfl
theorem gw_6_214 : Cond.codeWith yL_place cL_place 4 (Option.some Jvm.ClassFile.FieldType.int) [(0, 9, 12, 29)] ∈ zG := zGt6 (List.mem_of_getElem? (i := 214) (by rfl)) rfl
theorem gw_10_55 : Cond.code yX9_place cX9_place 4 (Option.some Jvm.ClassFile.FieldType.int) ∈ zG := zGt10 (List.mem_of_getElem? (i := 55) (by rfl)) rfl
theorem gw_10_52 : Cond.methodLink RL 290 yX9_place ∈ zG := zGt10 (List.mem_of_getElem? (i := 52) (by rfl)) rfl
theorem gw_10_53 : Cond.instanceMethod yX9_place ∈ zG := zGt10 (List.mem_of_getElem? (i := 53) (by rfl)) rfl
theorem gw_10_54 : Cond.selects RX9 yX9_place yX9_place ∈ zG := zGt10 (List.mem_of_getElem? (i := 54) (by rfl)) rfl
theorem gw_6_219 : Cond.methodLink RL 291 yL_partner ∈ zG := zGt6 (List.mem_of_getElem? (i := 219) (by rfl)) rfl
theorem gw_6_220 : Cond.static yL_partner ∈ zG := zGt6 (List.mem_of_getElem? (i := 220) (by rfl)) rfl
theorem gw_6_221 : Cond.codeWith yL_partner cL_partner 4 (Option.some Jvm.ClassFile.FieldType.int) [(0, 9, 12, 29)] ∈ zG := zGt6 (List.mem_of_getElem? (i := 221) (by rfl)) rfl
theorem gw_9_178 : Cond.code yX9_partner cX9_partner 6 (Option.some Jvm.ClassFile.FieldType.int) ∈ zG := zGt9 (List.mem_of_getElem? (i := 178) (by rfl)) rfl
theorem gw_9_175 : Cond.methodLink RL 293 yX9_partner ∈ zG := zGt9 (List.mem_of_getElem? (i := 175) (by rfl)) rfl
theorem gw_9_176 : Cond.instanceMethod yX9_partner ∈ zG := zGt9 (List.mem_of_getElem? (i := 176) (by rfl)) rfl
theorem gw_9_177 : Cond.selects RX9 yX9_partner yX9_partner ∈ zG := zGt9 (List.mem_of_getElem? (i := 177) (by rfl)) rfl
theorem gw_6_226 : Cond.methodLink RL 294 yL_take ∈ zG := zGt6 (List.mem_of_getElem? (i := 226) (by rfl)) rfl
theorem gw_6_227 : Cond.static yL_take ∈ zG := zGt6 (List.mem_of_getElem? (i := 227) (by rfl)) rfl
theorem gw_6_228 : Cond.codeWith yL_take cL_take 4 (Option.some Jvm.ClassFile.FieldType.int) [(0, 9, 12, 29), (0, 9, 15, 13)] ∈ zG := zGt6 (List.mem_of_getElem? (i := 228) (by rfl)) rfl
theorem gw_10_59 : Cond.code yX9_take cX9_take 5 (Option.some Jvm.ClassFile.FieldType.int) ∈ zG := zGt10 (List.mem_of_getElem? (i := 59) (by rfl)) rfl
theorem gw_10_56 : Cond.methodLink RL 296 yX9_take ∈ zG := zGt10 (List.mem_of_getElem? (i := 56) (by rfl)) rfl
theorem gw_10_57 : Cond.instanceMethod yX9_take ∈ zG := zGt10 (List.mem_of_getElem? (i := 57) (by rfl)) rfl
theorem gw_10_58 : Cond.selects RX9 yX9_take yX9_take ∈ zG := zGt10 (List.mem_of_getElem? (i := 58) (by rfl)) rfl
theorem gw_7_6 : Cond.methodLink RL 297 yL_takeRow ∈ zG := zGt7 (List.mem_of_getElem? (i := 6) (by rfl)) rfl
theorem gw_7_7 : Cond.static yL_takeRow ∈ zG := zGt7 (List.mem_of_getElem? (i := 7) (by rfl)) rfl
theorem gw_7_8 : Cond.codeWith yL_takeRow cL_takeRow 5 (Option.some Jvm.ClassFile.FieldType.int) [(0, 10, 13, 29), (0, 10, 17, 13)] ∈ zG := zGt7 (List.mem_of_getElem? (i := 8) (by rfl)) rfl
theorem gw_10_67 : Cond.code yX9_takeRow cX9_takeRow 4 (Option.some Jvm.ClassFile.FieldType.int) ∈ zG := zGt10 (List.mem_of_getElem? (i := 67) (by rfl)) rfl
theorem gw_10_64 : Cond.methodLink RL 299 yX9_takeRow ∈ zG := zGt10 (List.mem_of_getElem? (i := 64) (by rfl)) rfl
theorem gw_10_65 : Cond.instanceMethod yX9_takeRow ∈ zG := zGt10 (List.mem_of_getElem? (i := 65) (by rfl)) rfl
theorem gw_10_66 : Cond.selects RX9 yX9_takeRow yX9_takeRow ∈ zG := zGt10 (List.mem_of_getElem? (i := 66) (by rfl)) rfl
theorem gw_7_14 : Cond.methodLink RL 300 yL_deliver ∈ zG := zGt7 (List.mem_of_getElem? (i := 14) (by rfl)) rfl
theorem gw_7_15 : Cond.static yL_deliver ∈ zG := zGt7 (List.mem_of_getElem? (i := 15) (by rfl)) rfl
theorem gw_7_16 : Cond.codeWith yL_deliver cL_deliver 6 (Option.some Jvm.ClassFile.FieldType.int) [(0, 12, 15, 29), (0, 12, 19, 19), (0, 12, 23, 13)] ∈ zG := zGt7 (List.mem_of_getElem? (i := 16) (by rfl)) rfl
theorem gw_10_71 : Cond.code yX9_deliver cX9_deliver 5 (Option.some Jvm.ClassFile.FieldType.int) ∈ zG := zGt10 (List.mem_of_getElem? (i := 71) (by rfl)) rfl
theorem gw_10_68 : Cond.methodLink RL 302 yX9_deliver ∈ zG := zGt10 (List.mem_of_getElem? (i := 68) (by rfl)) rfl
theorem gw_10_69 : Cond.instanceMethod yX9_deliver ∈ zG := zGt10 (List.mem_of_getElem? (i := 69) (by rfl)) rfl
theorem gw_10_70 : Cond.selects RX9 yX9_deliver yX9_deliver ∈ zG := zGt10 (List.mem_of_getElem? (i := 70) (by rfl)) rfl
theorem gw_7_42 : Cond.methodLink RL 303 yL_pass ∈ zG := zGt7 (List.mem_of_getElem? (i := 42) (by rfl)) rfl
theorem gw_7_43 : Cond.static yL_pass ∈ zG := zGt7 (List.mem_of_getElem? (i := 43) (by rfl)) rfl
theorem gw_7_44 : Cond.codeWith yL_pass cL_pass 4 (Option.some Jvm.ClassFile.FieldType.int) [(0, 9, 12, 19)] ∈ zG := zGt7 (List.mem_of_getElem? (i := 44) (by rfl)) rfl
theorem gw_10_75 : Cond.code yX9_pass cX9_pass 4 (Option.some Jvm.ClassFile.FieldType.int) ∈ zG := zGt10 (List.mem_of_getElem? (i := 75) (by rfl)) rfl
theorem gw_10_72 : Cond.methodLink RL 305 yX9_pass ∈ zG := zGt10 (List.mem_of_getElem? (i := 72) (by rfl)) rfl
theorem gw_10_73 : Cond.instanceMethod yX9_pass ∈ zG := zGt10 (List.mem_of_getElem? (i := 73) (by rfl)) rfl
theorem gw_10_74 : Cond.selects RX9 yX9_pass yX9_pass ∈ zG := zGt10 (List.mem_of_getElem? (i := 74) (by rfl)) rfl
theorem gw_7_66 : Cond.methodLink RL 306 yL_audit ∈ zG := zGt7 (List.mem_of_getElem? (i := 66) (by rfl)) rfl
theorem gw_7_67 : Cond.static yL_audit ∈ zG := zGt7 (List.mem_of_getElem? (i := 67) (by rfl)) rfl
theorem gw_7_68 : Cond.codeWith yL_audit cL_audit 5 (Option.some Jvm.ClassFile.FieldType.int) [(0, 17, 20, 29), (0, 17, 24, 19), (0, 17, 28, 13)] ∈ zG := zGt7 (List.mem_of_getElem? (i := 68) (by rfl)) rfl
theorem gw_10_87 : Cond.code yX9_audit cX9_audit 5 (Option.some Jvm.ClassFile.FieldType.boolean) ∈ zG := zGt10 (List.mem_of_getElem? (i := 87) (by rfl)) rfl
theorem gw_10_84 : Cond.methodLink RL 308 yX9_audit ∈ zG := zGt10 (List.mem_of_getElem? (i := 84) (by rfl)) rfl
theorem gw_10_85 : Cond.instanceMethod yX9_audit ∈ zG := zGt10 (List.mem_of_getElem? (i := 85) (by rfl)) rfl
theorem gw_10_86 : Cond.selects RX9 yX9_audit yX9_audit ∈ zG := zGt10 (List.mem_of_getElem? (i := 86) (by rfl)) rfl
theorem gw_7_79 : Cond.methodLink RL 309 yL_setAside ∈ zG := zGt7 (List.mem_of_getElem? (i := 79) (by rfl)) rfl
theorem gw_7_80 : Cond.static yL_setAside ∈ zG := zGt7 (List.mem_of_getElem? (i := 80) (by rfl)) rfl
theorem gw_7_81 : Cond.codeWith yL_setAside cL_setAside 4 (Option.some Jvm.ClassFile.FieldType.int) [(0, 9, 12, 29), (0, 9, 15, 13)] ∈ zG := zGt7 (List.mem_of_getElem? (i := 81) (by rfl)) rfl
theorem gw_10_95 : Cond.code yX9_setAside cX9_setAside 5 (Option.some Jvm.ClassFile.FieldType.int) ∈ zG := zGt10 (List.mem_of_getElem? (i := 95) (by rfl)) rfl
theorem gw_10_92 : Cond.methodLink RL 311 yX9_setAside ∈ zG := zGt10 (List.mem_of_getElem? (i := 92) (by rfl)) rfl
theorem gw_10_93 : Cond.instanceMethod yX9_setAside ∈ zG := zGt10 (List.mem_of_getElem? (i := 93) (by rfl)) rfl
theorem gw_10_94 : Cond.selects RX9 yX9_setAside yX9_setAside ∈ zG := zGt10 (List.mem_of_getElem? (i := 94) (by rfl)) rfl
theorem gw_7_91 : Cond.methodLink RL 312 yL_pardon ∈ zG := zGt7 (List.mem_of_getElem? (i := 91) (by rfl)) rfl
theorem gw_7_92 : Cond.static yL_pardon ∈ zG := zGt7 (List.mem_of_getElem? (i := 92) (by rfl)) rfl
theorem gw_7_93 : Cond.codeWith yL_pardon cL_pardon 4 (Option.some Jvm.ClassFile.FieldType.int) [(0, 9, 12, 29), (0, 9, 15, 13)] ∈ zG := zGt7 (List.mem_of_getElem? (i := 93) (by rfl)) rfl
theorem gw_10_99 : Cond.code yX9_pardon cX9_pardon 4 (Option.some Jvm.ClassFile.FieldType.int) ∈ zG := zGt10 (List.mem_of_getElem? (i := 99) (by rfl)) rfl
theorem gw_10_96 : Cond.methodLink RL 314 yX9_pardon ∈ zG := zGt10 (List.mem_of_getElem? (i := 96) (by rfl)) rfl
theorem gw_10_97 : Cond.instanceMethod yX9_pardon ∈ zG := zGt10 (List.mem_of_getElem? (i := 97) (by rfl)) rfl
theorem gw_10_98 : Cond.selects RX9 yX9_pardon yX9_pardon ∈ zG := zGt10 (List.mem_of_getElem? (i := 98) (by rfl)) rfl
theorem gw_7_99 : Cond.methodLink RL 315 yL_bar ∈ zG := zGt7 (List.mem_of_getElem? (i := 99) (by rfl)) rfl
theorem gw_7_100 : Cond.static yL_bar ∈ zG := zGt7 (List.mem_of_getElem? (i := 100) (by rfl)) rfl
theorem gw_7_101 : Cond.codeWith yL_bar cL_bar 6 (Option.some Jvm.ClassFile.FieldType.int) [(0, 19, 22, 29), (0, 19, 26, 19)] ∈ zG := zGt7 (List.mem_of_getElem? (i := 101) (by rfl)) rfl
theorem gw_10_103 : Cond.code yX9_bar cX9_bar 5 (Option.some Jvm.ClassFile.FieldType.boolean) ∈ zG := zGt10 (List.mem_of_getElem? (i := 103) (by rfl)) rfl
theorem gw_10_100 : Cond.methodLink RL 318 yX9_bar ∈ zG := zGt10 (List.mem_of_getElem? (i := 100) (by rfl)) rfl
theorem gw_10_101 : Cond.instanceMethod yX9_bar ∈ zG := zGt10 (List.mem_of_getElem? (i := 101) (by rfl)) rfl
theorem gw_10_102 : Cond.selects RX9 yX9_bar yX9_bar ∈ zG := zGt10 (List.mem_of_getElem? (i := 102) (by rfl)) rfl
theorem gw_7_108 : Cond.methodLink RL 319 yL_addRows ∈ zG := zGt7 (List.mem_of_getElem? (i := 108) (by rfl)) rfl
theorem gw_7_109 : Cond.static yL_addRows ∈ zG := zGt7 (List.mem_of_getElem? (i := 109) (by rfl)) rfl
theorem gw_7_110 : Cond.codeWith yL_addRows cL_addRows 5 (Option.some Jvm.ClassFile.FieldType.int) [(0, 10, 13, 19), (0, 10, 17, 13)] ∈ zG := zGt7 (List.mem_of_getElem? (i := 110) (by rfl)) rfl
theorem gw_10_107 : Cond.code yX9_addRows cX9_addRows 5 (Option.some Jvm.ClassFile.FieldType.int) ∈ zG := zGt10 (List.mem_of_getElem? (i := 107) (by rfl)) rfl
theorem gw_10_104 : Cond.methodLink RL 321 yX9_addRows ∈ zG := zGt10 (List.mem_of_getElem? (i := 104) (by rfl)) rfl
theorem gw_10_105 : Cond.instanceMethod yX9_addRows ∈ zG := zGt10 (List.mem_of_getElem? (i := 105) (by rfl)) rfl
theorem gw_10_106 : Cond.selects RX9 yX9_addRows yX9_addRows ∈ zG := zGt10 (List.mem_of_getElem? (i := 106) (by rfl)) rfl
theorem gw_7_118 : Cond.methodLink RL 322 yL_setTable ∈ zG := zGt7 (List.mem_of_getElem? (i := 118) (by rfl)) rfl
theorem gw_7_119 : Cond.static yL_setTable ∈ zG := zGt7 (List.mem_of_getElem? (i := 119) (by rfl)) rfl
theorem gw_7_120 : Cond.codeWith yL_setTable cL_setTable 5 (Option.some Jvm.ClassFile.FieldType.int) [(0, 10, 13, 19)] ∈ zG := zGt7 (List.mem_of_getElem? (i := 120) (by rfl)) rfl
theorem gw_10_112 : Cond.code yX9_setTable cX9_setTable 4 (Option.some Jvm.ClassFile.FieldType.int) ∈ zG := zGt10 (List.mem_of_getElem? (i := 112) (by rfl)) rfl
theorem gw_10_109 : Cond.methodLink RL 324 yX9_setTable ∈ zG := zGt10 (List.mem_of_getElem? (i := 109) (by rfl)) rfl
theorem gw_10_110 : Cond.instanceMethod yX9_setTable ∈ zG := zGt10 (List.mem_of_getElem? (i := 110) (by rfl)) rfl
theorem gw_10_111 : Cond.selects RX9 yX9_setTable yX9_setTable ∈ zG := zGt10 (List.mem_of_getElem? (i := 111) (by rfl)) rfl
theorem gw_7_129 : Cond.methodLink RL 325 yL_keep ∈ zG := zGt7 (List.mem_of_getElem? (i := 129) (by rfl)) rfl
theorem gw_7_130 : Cond.static yL_keep ∈ zG := zGt7 (List.mem_of_getElem? (i := 130) (by rfl)) rfl
theorem gw_7_131 : Cond.codeWith yL_keep cL_keep 4 (Option.some Jvm.ClassFile.FieldType.int) [(0, 9, 12, 29)] ∈ zG := zGt7 (List.mem_of_getElem? (i := 131) (by rfl)) rfl
theorem gw_10_122 : Cond.code yX9_keep cX9_keep 3 (Option.some Jvm.ClassFile.FieldType.int) ∈ zG := zGt10 (List.mem_of_getElem? (i := 122) (by rfl)) rfl
theorem gw_10_119 : Cond.methodLink RL 327 yX9_keep ∈ zG := zGt10 (List.mem_of_getElem? (i := 119) (by rfl)) rfl
theorem gw_10_120 : Cond.instanceMethod yX9_keep ∈ zG := zGt10 (List.mem_of_getElem? (i := 120) (by rfl)) rfl
theorem gw_10_121 : Cond.selects RX9 yX9_keep yX9_keep ∈ zG := zGt10 (List.mem_of_getElem? (i := 121) (by rfl)) rfl
theorem gw_7_140 : Cond.methodLink RL 328 yL_restore ∈ zG := zGt7 (List.mem_of_getElem? (i := 140) (by rfl)) rfl
theorem gw_7_141 : Cond.static yL_restore ∈ zG := zGt7 (List.mem_of_getElem? (i := 141) (by rfl)) rfl
theorem gw_7_142 : Cond.codeWith yL_restore cL_restore 4 (Option.some Jvm.ClassFile.FieldType.int) [(0, 9, 12, 29), (0, 9, 15, 13)] ∈ zG := zGt7 (List.mem_of_getElem? (i := 142) (by rfl)) rfl
theorem gw_10_129 : Cond.code yX9_restore cX9_restore 3 (Option.some Jvm.ClassFile.FieldType.int) ∈ zG := zGt10 (List.mem_of_getElem? (i := 129) (by rfl)) rfl
theorem gw_10_126 : Cond.methodLink RL 330 yX9_restore ∈ zG := zGt10 (List.mem_of_getElem? (i := 126) (by rfl)) rfl
theorem gw_10_127 : Cond.instanceMethod yX9_restore ∈ zG := zGt10 (List.mem_of_getElem? (i := 127) (by rfl)) rfl
theorem gw_10_128 : Cond.selects RX9 yX9_restore yX9_restore ∈ zG := zGt10 (List.mem_of_getElem? (i := 128) (by rfl)) rfl
theorem gw_7_148 : Cond.methodLink RL 331 yL_undo ∈ zG := zGt7 (List.mem_of_getElem? (i := 148) (by rfl)) rfl
theorem gw_7_149 : Cond.static yL_undo ∈ zG := zGt7 (List.mem_of_getElem? (i := 149) (by rfl)) rfl
theorem gw_7_150 : Cond.codeWith yL_undo cL_undo 3 (Option.some Jvm.ClassFile.FieldType.int) [(0, 8, 11, 13)] ∈ zG := zGt7 (List.mem_of_getElem? (i := 150) (by rfl)) rfl
theorem gw_10_133 : Cond.code yX9_undo cX9_undo 2 (Option.some Jvm.ClassFile.FieldType.int) ∈ zG := zGt10 (List.mem_of_getElem? (i := 133) (by rfl)) rfl
theorem gw_10_130 : Cond.methodLink RL 334 yX9_undo ∈ zG := zGt10 (List.mem_of_getElem? (i := 130) (by rfl)) rfl
theorem gw_10_131 : Cond.instanceMethod yX9_undo ∈ zG := zGt10 (List.mem_of_getElem? (i := 131) (by rfl)) rfl
theorem gw_10_132 : Cond.selects RX9 yX9_undo yX9_undo ∈ zG := zGt10 (List.mem_of_getElem? (i := 132) (by rfl)) rfl
theorem gw_5_107 : Cond.code yX8_undoCount cX8_undoCount 1 (Option.some Jvm.ClassFile.FieldType.int) ∈ zG := zGt5 (List.mem_of_getElem? (i := 107) (by rfl)) rfl
theorem gw_5_104 : Cond.methodLink RL 335 yX8_undoCount ∈ zG := zGt5 (List.mem_of_getElem? (i := 104) (by rfl)) rfl
theorem gw_5_105 : Cond.instanceMethod yX8_undoCount ∈ zG := zGt5 (List.mem_of_getElem? (i := 105) (by rfl)) rfl
theorem gw_5_106 : Cond.selects RX8 yX8_undoCount yX8_undoCount ∈ zG := zGt5 (List.mem_of_getElem? (i := 106) (by rfl)) rfl
theorem gw_10_137 : Cond.code yX9_undoCount cX9_undoCount 1 (Option.some Jvm.ClassFile.FieldType.int) ∈ zG := zGt10 (List.mem_of_getElem? (i := 137) (by rfl)) rfl
theorem gw_10_134 : Cond.methodLink RL 338 yX9_undoCount ∈ zG := zGt10 (List.mem_of_getElem? (i := 134) (by rfl)) rfl
theorem gw_10_135 : Cond.instanceMethod yX9_undoCount ∈ zG := zGt10 (List.mem_of_getElem? (i := 135) (by rfl)) rfl
theorem gw_10_136 : Cond.selects RX9 yX9_undoCount yX9_undoCount ∈ zG := zGt10 (List.mem_of_getElem? (i := 136) (by rfl)) rfl
theorem gw_5_111 : Cond.code yX8_writeRows cX8_writeRows 2 (Option.some Jvm.ClassFile.FieldType.int) ∈ zG := zGt5 (List.mem_of_getElem? (i := 111) (by rfl)) rfl
theorem gw_5_108 : Cond.methodLink RL 339 yX8_writeRows ∈ zG := zGt5 (List.mem_of_getElem? (i := 108) (by rfl)) rfl
theorem gw_5_109 : Cond.instanceMethod yX8_writeRows ∈ zG := zGt5 (List.mem_of_getElem? (i := 109) (by rfl)) rfl
theorem gw_5_110 : Cond.selects RX8 yX8_writeRows yX8_writeRows ∈ zG := zGt5 (List.mem_of_getElem? (i := 110) (by rfl)) rfl
theorem gw_10_141 : Cond.code yX9_writeRows cX9_writeRows 3 (Option.some Jvm.ClassFile.FieldType.int) ∈ zG := zGt10 (List.mem_of_getElem? (i := 141) (by rfl)) rfl
theorem gw_10_138 : Cond.methodLink RL 342 yX9_writeRows ∈ zG := zGt10 (List.mem_of_getElem? (i := 138) (by rfl)) rfl
theorem gw_10_139 : Cond.instanceMethod yX9_writeRows ∈ zG := zGt10 (List.mem_of_getElem? (i := 139) (by rfl)) rfl
theorem gw_10_140 : Cond.selects RX9 yX9_writeRows yX9_writeRows ∈ zG := zGt10 (List.mem_of_getElem? (i := 140) (by rfl)) rfl
theorem gw_7_160 : Cond.methodLink RL 343 yL_writeRow ∈ zG := zGt7 (List.mem_of_getElem? (i := 160) (by rfl)) rfl
theorem gw_7_161 : Cond.static yL_writeRow ∈ zG := zGt7 (List.mem_of_getElem? (i := 161) (by rfl)) rfl
theorem gw_7_162 : Cond.codeWith yL_writeRow cL_writeRow 4 (Option.some Jvm.ClassFile.FieldType.int) [(0, 9, 12, 29)] ∈ zG := zGt7 (List.mem_of_getElem? (i := 162) (by rfl)) rfl
theorem gw_10_157 : Cond.code yX9_writeRow cX9_writeRow 3 (Option.some Jvm.ClassFile.FieldType.int) ∈ zG := zGt10 (List.mem_of_getElem? (i := 157) (by rfl)) rfl
theorem gw_10_154 : Cond.methodLink RL 345 yX9_writeRow ∈ zG := zGt10 (List.mem_of_getElem? (i := 154) (by rfl)) rfl
theorem gw_10_155 : Cond.instanceMethod yX9_writeRow ∈ zG := zGt10 (List.mem_of_getElem? (i := 155) (by rfl)) rfl
theorem gw_10_156 : Cond.selects RX9 yX9_writeRow yX9_writeRow ∈ zG := zGt10 (List.mem_of_getElem? (i := 156) (by rfl)) rfl
theorem gw_5_127 : Cond.code yX8_writeWorkers cX8_writeWorkers 2 (Option.some Jvm.ClassFile.FieldType.int) ∈ zG := zGt5 (List.mem_of_getElem? (i := 127) (by rfl)) rfl
theorem gw_5_124 : Cond.methodLink RL 346 yX8_writeWorkers ∈ zG := zGt5 (List.mem_of_getElem? (i := 124) (by rfl)) rfl
theorem gw_5_125 : Cond.instanceMethod yX8_writeWorkers ∈ zG := zGt5 (List.mem_of_getElem? (i := 125) (by rfl)) rfl
theorem gw_5_126 : Cond.selects RX8 yX8_writeWorkers yX8_writeWorkers ∈ zG := zGt5 (List.mem_of_getElem? (i := 126) (by rfl)) rfl
theorem gw_10_165 : Cond.code yX9_writeWorkers cX9_writeWorkers 2 (Option.some Jvm.ClassFile.FieldType.int) ∈ zG := zGt10 (List.mem_of_getElem? (i := 165) (by rfl)) rfl
theorem gw_10_162 : Cond.methodLink RL 349 yX9_writeWorkers ∈ zG := zGt10 (List.mem_of_getElem? (i := 162) (by rfl)) rfl
theorem gw_10_163 : Cond.instanceMethod yX9_writeWorkers ∈ zG := zGt10 (List.mem_of_getElem? (i := 163) (by rfl)) rfl
theorem gw_10_164 : Cond.selects RX9 yX9_writeWorkers yX9_writeWorkers ∈ zG := zGt10 (List.mem_of_getElem? (i := 164) (by rfl)) rfl
theorem gw_7_171 : Cond.methodLink RL 350 yL_outputByte ∈ zG := zGt7 (List.mem_of_getElem? (i := 171) (by rfl)) rfl
theorem gw_7_172 : Cond.static yL_outputByte ∈ zG := zGt7 (List.mem_of_getElem? (i := 172) (by rfl)) rfl
theorem gw_7_173 : Cond.codeWith yL_outputByte cL_outputByte 4 (Option.some Jvm.ClassFile.FieldType.int) [(0, 9, 12, 149)] ∈ zG := zGt7 (List.mem_of_getElem? (i := 173) (by rfl)) rfl
theorem gw_10_169 : Cond.code yX9_outputByte cX9_outputByte 2 (Option.some Jvm.ClassFile.FieldType.int) ∈ zG := zGt10 (List.mem_of_getElem? (i := 169) (by rfl)) rfl
theorem gw_10_166 : Cond.methodLink RL 352 yX9_outputByte ∈ zG := zGt10 (List.mem_of_getElem? (i := 166) (by rfl)) rfl
theorem gw_10_167 : Cond.instanceMethod yX9_outputByte ∈ zG := zGt10 (List.mem_of_getElem? (i := 167) (by rfl)) rfl
theorem gw_10_168 : Cond.selects RX9 yX9_outputByte yX9_outputByte ∈ zG := zGt10 (List.mem_of_getElem? (i := 168) (by rfl)) rfl
def cd_LWs : List (Nat × ZTr) := [(0, tNew 11 10 3), (3, tDup 4), (4, tCall 1 605 6861 (zNt T_X8_init) (zRcv 11) 7), (7, tAst 1 8), (8, tNew 12 22 11), (11, tDup 12), (12, tCall 1 10 6626 (zNt T_X9_init) (zRcv 12) 15), (15, tAst 2 16), (16, tC (zi 1) 17), (17, tNewA 23 19), (19, tAst 3 20), (20, tC (zi 1) 21), (21, tNewA 24 23), (23, tAst 4 25), (25, tC (zi 0) 26), (26, tIst 5 28)]
set_option maxRecDepth 100000 in
set_option maxHeartbeats 1500000 in
theorem hs_LWs {l : Launch} (hl : l.stackTraces = false) (p : Program) (e : Env) (s : State) (m : MethodId) (args : Array Value) (below : List Frame) (meth : Method) (c : Code) (D : va_G) (A : Nat → Prop) (a0 : Nat → Nat) (M0 : ZM) (K : ZRet) (KX : ZEx) (mc ms : Nat) (X : zCtx p l room_1 s m args meth c code RL (Cond.initialized RX8 :: zG) 10 (Option.some Jvm.ClassFile.FieldType.boolean) D A a0 M0 mc ms) (hNc : zNc0 s) : ∀ q ∈ cd_LWs, zSd p l e room_1 s m args below meth c 10 D A a0 M0 K KX mc ms q.1 q.2 :=
    zall_c (zs_new X (pc := 0) zc_X8 (zin ui_X8) tyX8_ok (.tail _ gw_1_33) (.tail _ gw_1_34) (.tail _ gw_1_1) (by decide +kernel) (by decide +kernel)) <|
    zall_c (zs_dup X (pc := 3) (by decide +kernel)) <|
    zall_c (zs_callI X (pc := 4) (rt := none) (fun _ ht => ⟨(zCB ht gw_1_37 gw_1_1 gw_1_35 rfl rfl (by decide +kernel) ⟨Nat.le_of_ble_eq_true rfl, Nat.le_of_ble_eq_true rfl⟩), rfl, ht _ (.tail _ gw_1_36)⟩) (M_X8_init hl) (by decide +kernel)) <|
    zall_c (zs_astore_n X (pc := 7) (q := 1) rfl (by decide) (by decide +kernel)) <|
    zall_c (zs_new X (pc := 8) zc_X9 (zin ui_X9) tyX9_ok (.tail _ gw_7_209) (.tail _ gw_7_210) (.tail _ gw_1_13) (by decide +kernel) (by decide +kernel)) <|
    zall_c (zs_dup X (pc := 11) (by decide +kernel)) <|
    zall_c (zs_callI X (pc := 12) (rt := none) (fun _ ht => ⟨(zCB ht gw_7_213 gw_1_13 gw_7_211 rfl rfl (by decide +kernel) ⟨Nat.le_of_ble_eq_true rfl, Nat.le_of_ble_eq_true rfl⟩), rfl, ht _ (.tail _ gw_7_212)⟩) (M_X9_init hl) (by decide +kernel)) <|
    zall_c (zs_astore_n X (pc := 15) (q := 2) rfl (by decide) (by decide +kernel)) <|
    zall_c (zs_iconst X (pc := 16) (by decide) (by decide +kernel)) <|
    zall_c (zs_newarray23 X (pc := 17) (.tail _ gw_10_170) (by decide +kernel)) <|
    zall_c (zs_astore_n X (pc := 19) (q := 3) rfl (by decide) (by decide +kernel)) <|
    zall_c (zs_iconst X (pc := 20) (by decide) (by decide +kernel)) <|
    zall_c (zs_newarray24 X (pc := 21) (.tail _ gw_10_171) (by decide +kernel)) <|
    zall_c (zs_astore X (pc := 23) (by decide) (by decide +kernel)) <|
    zall_c (zs_iconst X (pc := 25) (by decide) (by decide +kernel)) <|
    zall_c (zs_istore X (pc := 26) (by decide) (by decide +kernel)) <|
    zall_n
def cd_LWh : List (Nat × ZTr) := [(28, tIld 5 30), (30, tAld 0 31), (31, tLen 32), (32, tC (zi 6) 34), (34, tSub 35), (35, tIc_gt 3167 38), (38, tAld 0 39), (39, tIld 5 41), (41, tIal 20 42), (42, tC (zi 63) 44), (44, tBif zand 45), (45, tSw [(0, 284), (1, 388), (2, 424), (3, 437), (4, 450), (5, 463), (6, 476), (7, 532), (8, 600), (9, 668), (10, 748), (11, 804), (12, 872), (13, 928), (14, 984), (15, 1040), (16, 1103), (17, 1159), (18, 1172), (19, 1240), (20, 1315), (21, 1383), (22, 1451), (23, 1529), (24, 1570), (25, 1583), (26, 1639), (27, 1652), (28, 1665), (29, 1721), (30, 1801), (31, 1893), (32, 1961), (33, 1974), (34, 2030), (35, 2043), (36, 2056), (37, 2112), (38, 2168), (39, 2224), (40, 2292), (41, 2372), (42, 2428), (43, 2503), (44, 2559), (45, 2615), (46, 2718), (47, 2786), (48, 2854), (49, 2910), (50, 2966), (51, 3010), (52, 3023), (53, 3036), (54, 3092), (55, 3105)] 3161), (3161, tInc 5 6 3164), (3164, tGo 28), (3167, tC (zi 1) 3168), (3168, tRi zPz)]
set_option maxRecDepth 100000 in
set_option maxHeartbeats 1500000 in
theorem hs_LWh {l : Launch} (hl : l.stackTraces = false) (p : Program) (e : Env) (s : State) (m : MethodId) (args : Array Value) (below : List Frame) (meth : Method) (c : Code) (D : va_G) (A : Nat → Prop) (a0 : Nat → Nat) (M0 : ZM) (K : ZRet) (KX : ZEx) (mc ms : Nat) (X : zCtx p l room_1 s m args meth c code RL (Cond.initialized RX8 :: zG) 10 (Option.some Jvm.ClassFile.FieldType.boolean) D A a0 M0 mc ms) (hNc : zNc0 s) : ∀ q ∈ cd_LWh, zSd p l e room_1 s m args below meth c 10 D A a0 M0 K KX mc ms q.1 q.2 :=
    zall_c (zs_iload X (pc := 28) (by decide +kernel)) <|
    zall_c (zs_aload_n X (pc := 30) (q := 0) rfl (by decide +kernel)) <|
    zall_c (zs_len X (pc := 31) (by decide +kernel)) <|
    zall_c (zs_bipush X (pc := 32) (by decide) (by decide +kernel) (by decide +kernel)) <|
    zall_c (zs_isub X (pc := 34) (by decide +kernel)) <|
    zall_c (zs_icmp_gt X (pc := 35) (off := 3132) (by decide +kernel) (by decide)) <|
    zall_c (zs_aload_n X (pc := 38) (q := 0) rfl (by decide +kernel)) <|
    zall_c (zs_iload X (pc := 39) (by decide +kernel)) <|
    zall_c (zs_iaload20 X (pc := 41) (by decide +kernel)) <|
    zall_c (zs_bipush X (pc := 42) (by decide) (by decide +kernel) (by decide +kernel)) <|
    zall_c (zs_iand X (pc := 44) (by decide +kernel)) <|
    zall_c (zs_tablesw X (pc := 45) (df := 3116) (lo := 0) (hi := 55) (offs := #[239, 343, 379, 392, 405, 418, 431, 487, 555, 623, 703, 759, 827, 883, 939, 995, 1058, 1114, 1127, 1195, 1270, 1338, 1406, 1484, 1525, 1538, 1594, 1607, 1620, 1676, 1756, 1848, 1916, 1929, 1985, 1998, 2011, 2067, 2123, 2179, 2247, 2327, 2383, 2458, 2514, 2570, 2673, 2741, 2809, 2865, 2921, 2965, 2978, 2991, 3047, 3060]) (len := 239) (by decide +kernel) (by decide) (by decide +kernel) (by decide +kernel)) <|
    zall_c (zs_iinc X (pc := 3161) (by decide) (by decide +kernel)) <|
    zall_c (zs_goto X (pc := 3164) (off := (-3136)) (by decide +kernel) (by decide)) <|
    zall_c (zs_iconst X (pc := 3167) (by decide) (by decide +kernel)) <|
    zall_c (zs_zret X (pc := 3168) rfl zR_bool (by decide +kernel)) <|
    zall_n
def cd_LW0 : List (Nat × ZTr) := [(284, tAld 1 285), (285, tAld 0 286), (286, tIld 5 288), (288, tC (zi 1) 289), (289, tAdd 290), (290, tIal 20 291), (291, tAld 0 292), (292, tIld 5 294), (294, tC (zi 2) 295), (295, tAdd 296), (296, tIal 20 297), (297, tAld 0 298), (298, tIld 5 300), (300, tC (zi 3) 301), (301, tAdd 302), (302, tIal 20 303), (303, tAld 0 304), (304, tIld 5 306), (306, tC (zi 4) 307), (307, tAdd 308), (308, tIal 20 309), (309, tAld 0 310), (310, tIld 5 312), (312, tC (zi 5) 313), (313, tAdd 314), (314, tIal 20 315), (315, tAld 3 316), (316, tCall 7 1 6 (fun av M K _ => T_L_append av M K) zAny 319), (319, tIst 6 321), (321, tAld 2 322), (322, tAld 0 323), (323, tIld 5 325), (325, tC (zi 1) 326), (326, tAdd 327), (327, tIal 20 328), (328, tAld 0 329), (329, tIld 5 331), (331, tC (zi 2) 332), (332, tAdd 333), (333, tIal 20 334), (334, tAld 0 335), (335, tIld 5 337), (337, tC (zi 3) 338), (338, tAdd 339), (339, tIal 20 340), (340, tAld 0 341), (341, tIld 5 343), (343, tC (zi 4) 344), (344, tAdd 345), (345, tIal 20 346), (346, tAld 0 347), (347, tIld 5 349), (349, tC (zi 5) 350), (350, tAdd 351), (351, tIal 20 352), (352, tCall 6 0 0 (zNt T_X9_append) (zRcv 12) 355), (355, tIst 7 357), (357, tAld 2 358), (358, tCall 1 0 0 (zNt T_X9_thrown) (zRcv 12) 361), (361, tIld 6 363), (363, tIc_eq 368 366), (366, tC (zi 0) 367), (367, tRi zPz), (368, tIld 6 370), (370, tIf_ne 385 373), (373, tAld 3 374), (374, tC (zi 0) 375), (375, tLal 376), (376, tIld 7 378), (378, tI2l 379), (379, tLcmp 380), (380, tIf_eq 385 383), (383, tC (zi 0) 384), (384, tRi zPz), (385, tGo 3161)]
set_option maxRecDepth 100000 in
set_option maxHeartbeats 1500000 in
theorem hs_LW0 {l : Launch} (hl : l.stackTraces = false) (p : Program) (e : Env) (s : State) (m : MethodId) (args : Array Value) (below : List Frame) (meth : Method) (c : Code) (D : va_G) (A : Nat → Prop) (a0 : Nat → Nat) (M0 : ZM) (K : ZRet) (KX : ZEx) (mc ms : Nat) (X : zCtx p l room_1 s m args meth c code RL (Cond.initialized RX8 :: zG) 10 (Option.some Jvm.ClassFile.FieldType.boolean) D A a0 M0 mc ms) (hNc : zNc0 s) : ∀ q ∈ cd_LW0, zSd p l e room_1 s m args below meth c 10 D A a0 M0 K KX mc ms q.1 q.2 :=
    zall_c (zs_aload_n X (pc := 284) (q := 1) rfl (by decide +kernel)) <|
    zall_c (zs_aload_n X (pc := 285) (q := 0) rfl (by decide +kernel)) <|
    zall_c (zs_iload X (pc := 286) (by decide +kernel)) <|
    zall_c (zs_iconst X (pc := 288) (by decide) (by decide +kernel)) <|
    zall_c (zs_iadd X (pc := 289) (by decide +kernel)) <|
    zall_c (zs_iaload20 X (pc := 290) (by decide +kernel)) <|
    zall_c (zs_aload_n X (pc := 291) (q := 0) rfl (by decide +kernel)) <|
    zall_c (zs_iload X (pc := 292) (by decide +kernel)) <|
    zall_c (zs_iconst X (pc := 294) (by decide) (by decide +kernel)) <|
    zall_c (zs_iadd X (pc := 295) (by decide +kernel)) <|
    zall_c (zs_iaload20 X (pc := 296) (by decide +kernel)) <|
    zall_c (zs_aload_n X (pc := 297) (q := 0) rfl (by decide +kernel)) <|
    zall_c (zs_iload X (pc := 298) (by decide +kernel)) <|
    zall_c (zs_iconst X (pc := 300) (by decide) (by decide +kernel)) <|
    zall_c (zs_iadd X (pc := 301) (by decide +kernel)) <|
    zall_c (zs_iaload20 X (pc := 302) (by decide +kernel)) <|
    zall_c (zs_aload_n X (pc := 303) (q := 0) rfl (by decide +kernel)) <|
    zall_c (zs_iload X (pc := 304) (by decide +kernel)) <|
    zall_c (zs_iconst X (pc := 306) (by decide) (by decide +kernel)) <|
    zall_c (zs_iadd X (pc := 307) (by decide +kernel)) <|
    zall_c (zs_iaload20 X (pc := 308) (by decide +kernel)) <|
    zall_c (zs_aload_n X (pc := 309) (q := 0) rfl (by decide +kernel)) <|
    zall_c (zs_iload X (pc := 310) (by decide +kernel)) <|
    zall_c (zs_iconst X (pc := 312) (by decide) (by decide +kernel)) <|
    zall_c (zs_iadd X (pc := 313) (by decide +kernel)) <|
    zall_c (zs_iaload20 X (pc := 314) (by decide +kernel)) <|
    zall_c (zs_aload_n X (pc := 315) (q := 3) rfl (by decide +kernel)) <|
    zall_c (zs_callSW X (pc := 316) hNc (fun _ ht => zCSW ht gw_5_135 gw_1_0 gw_5_133 gw_5_134 rfl rfl (by decide +kernel) ⟨Nat.le_of_ble_eq_true rfl, Nat.le_of_ble_eq_true rfl⟩) (M_L_append hl) (by decide +kernel)) <|
    zall_c (zs_istore X (pc := 319) (by decide) (by decide +kernel)) <|
    zall_c (zs_aload_n X (pc := 321) (q := 2) rfl (by decide +kernel)) <|
    zall_c (zs_aload_n X (pc := 322) (q := 0) rfl (by decide +kernel)) <|
    zall_c (zs_iload X (pc := 323) (by decide +kernel)) <|
    zall_c (zs_iconst X (pc := 325) (by decide) (by decide +kernel)) <|
    zall_c (zs_iadd X (pc := 326) (by decide +kernel)) <|
    zall_c (zs_iaload20 X (pc := 327) (by decide +kernel)) <|
    zall_c (zs_aload_n X (pc := 328) (q := 0) rfl (by decide +kernel)) <|
    zall_c (zs_iload X (pc := 329) (by decide +kernel)) <|
    zall_c (zs_iconst X (pc := 331) (by decide) (by decide +kernel)) <|
    zall_c (zs_iadd X (pc := 332) (by decide +kernel)) <|
    zall_c (zs_iaload20 X (pc := 333) (by decide +kernel)) <|
    zall_c (zs_aload_n X (pc := 334) (q := 0) rfl (by decide +kernel)) <|
    zall_c (zs_iload X (pc := 335) (by decide +kernel)) <|
    zall_c (zs_iconst X (pc := 337) (by decide) (by decide +kernel)) <|
    zall_c (zs_iadd X (pc := 338) (by decide +kernel)) <|
    zall_c (zs_iaload20 X (pc := 339) (by decide +kernel)) <|
    zall_c (zs_aload_n X (pc := 340) (q := 0) rfl (by decide +kernel)) <|
    zall_c (zs_iload X (pc := 341) (by decide +kernel)) <|
    zall_c (zs_iconst X (pc := 343) (by decide) (by decide +kernel)) <|
    zall_c (zs_iadd X (pc := 344) (by decide +kernel)) <|
    zall_c (zs_iaload20 X (pc := 345) (by decide +kernel)) <|
    zall_c (zs_aload_n X (pc := 346) (q := 0) rfl (by decide +kernel)) <|
    zall_c (zs_iload X (pc := 347) (by decide +kernel)) <|
    zall_c (zs_iconst X (pc := 349) (by decide) (by decide +kernel)) <|
    zall_c (zs_iadd X (pc := 350) (by decide +kernel)) <|
    zall_c (zs_iaload20 X (pc := 351) (by decide +kernel)) <|
    zall_c (zs_callVt X (pc := 352) zc_X9 (fun _ ht => ⟨(zCB ht gw_8_45 gw_1_13 gw_8_42 rfl rfl (by decide +kernel) ⟨Nat.le_of_ble_eq_true rfl, Nat.le_of_ble_eq_true rfl⟩), ht _ (.tail _ gw_8_43), ht _ (.tail _ gw_8_44)⟩) (M_X9_append hl) (by decide +kernel)) <|
    zall_c (zs_istore X (pc := 355) (by decide) (by decide +kernel)) <|
    zall_c (zs_aload_n X (pc := 357) (q := 2) rfl (by decide +kernel)) <|
    zall_c (zs_callVt X (pc := 358) zc_X9 (fun _ ht => ⟨(zCB ht gw_7_208 gw_1_13 gw_7_205 rfl rfl (by decide +kernel) ⟨Nat.le_of_ble_eq_true rfl, Nat.le_of_ble_eq_true rfl⟩), ht _ (.tail _ gw_7_206), ht _ (.tail _ gw_7_207)⟩) (M_X9_thrown hl) (by decide +kernel)) <|
    zall_c (zs_iload X (pc := 361) (by decide +kernel)) <|
    zall_c (zs_icmp_eq X (pc := 363) (off := 5) (by decide +kernel) (by decide)) <|
    zall_c (zs_iconst X (pc := 366) (by decide) (by decide +kernel)) <|
    zall_c (zs_zret X (pc := 367) rfl zR_bool (by decide +kernel)) <|
    zall_c (zs_iload X (pc := 368) (by decide +kernel)) <|
    zall_c (zs_if_ne X (pc := 370) (off := 15) (by decide +kernel) (by decide)) <|
    zall_c (zs_aload_n X (pc := 373) (q := 3) rfl (by decide +kernel)) <|
    zall_c (zs_iconst X (pc := 374) (by decide) (by decide +kernel)) <|
    zall_c (zs_laload23 X (pc := 375) (by decide +kernel)) <|
    zall_c (zs_iload X (pc := 376) (by decide +kernel)) <|
    zall_c (zs_i2l X (pc := 378) (by decide +kernel)) <|
    zall_c (zs_lcmp X (pc := 379) (by decide +kernel)) <|
    zall_c (zs_if_eq X (pc := 380) (off := 5) (by decide +kernel) (by decide)) <|
    zall_c (zs_iconst X (pc := 383) (by decide) (by decide +kernel)) <|
    zall_c (zs_zret X (pc := 384) rfl zR_bool (by decide +kernel)) <|
    zall_c (zs_goto X (pc := 385) (off := 2776) (by decide +kernel) (by decide)) <|
    zall_n
def cd_LW1 : List (Nat × ZTr) := [(388, tAld 1 389), (389, tAld 0 390), (390, tIld 5 392), (392, tC (zi 1) 393), (393, tAdd 394), (394, tIal 20 395), (395, tCall 2 1 6 (fun av M K _ => T_L_truncate av M K) zAny 398), (398, tIst 6 400), (400, tAld 2 401), (401, tAld 0 402), (402, tIld 5 404), (404, tC (zi 1) 405), (405, tAdd 406), (406, tIal 20 407), (407, tCall 2 0 0 (zNt T_X9_truncate) (zRcv 12) 410), (410, tAld 2 411), (411, tCall 1 0 0 (zNt T_X9_thrown) (zRcv 12) 414), (414, tIld 6 416), (416, tIc_eq 421 419), (419, tC (zi 0) 420), (420, tRi zPz), (421, tGo 3161)]
set_option maxRecDepth 100000 in
set_option maxHeartbeats 1500000 in
theorem hs_LW1 {l : Launch} (hl : l.stackTraces = false) (p : Program) (e : Env) (s : State) (m : MethodId) (args : Array Value) (below : List Frame) (meth : Method) (c : Code) (D : va_G) (A : Nat → Prop) (a0 : Nat → Nat) (M0 : ZM) (K : ZRet) (KX : ZEx) (mc ms : Nat) (X : zCtx p l room_1 s m args meth c code RL (Cond.initialized RX8 :: zG) 10 (Option.some Jvm.ClassFile.FieldType.boolean) D A a0 M0 mc ms) (hNc : zNc0 s) : ∀ q ∈ cd_LW1, zSd p l e room_1 s m args below meth c 10 D A a0 M0 K KX mc ms q.1 q.2 :=
    zall_c (zs_aload_n X (pc := 388) (q := 1) rfl (by decide +kernel)) <|
    zall_c (zs_aload_n X (pc := 389) (q := 0) rfl (by decide +kernel)) <|
    zall_c (zs_iload X (pc := 390) (by decide +kernel)) <|
    zall_c (zs_iconst X (pc := 392) (by decide) (by decide +kernel)) <|
    zall_c (zs_iadd X (pc := 393) (by decide +kernel)) <|
    zall_c (zs_iaload20 X (pc := 394) (by decide +kernel)) <|
    zall_c (zs_callSW X (pc := 395) hNc (fun _ ht => zCSW ht gw_5_163 gw_1_0 gw_5_161 gw_5_162 rfl rfl (by decide +kernel) ⟨Nat.le_of_ble_eq_true rfl, Nat.le_of_ble_eq_true rfl⟩) (M_L_truncate hl) (by decide +kernel)) <|
    zall_c (zs_istore X (pc := 398) (by decide) (by decide +kernel)) <|
    zall_c (zs_aload_n X (pc := 400) (q := 2) rfl (by decide +kernel)) <|
    zall_c (zs_aload_n X (pc := 401) (q := 0) rfl (by decide +kernel)) <|
    zall_c (zs_iload X (pc := 402) (by decide +kernel)) <|
    zall_c (zs_iconst X (pc := 404) (by decide) (by decide +kernel)) <|
    zall_c (zs_iadd X (pc := 405) (by decide +kernel)) <|
    zall_c (zs_iaload20 X (pc := 406) (by decide +kernel)) <|
    zall_c (zs_callVt X (pc := 407) zc_X9 (fun _ ht => ⟨(zCB ht gw_8_61 gw_1_13 gw_8_58 rfl rfl (by decide +kernel) ⟨Nat.le_of_ble_eq_true rfl, Nat.le_of_ble_eq_true rfl⟩), ht _ (.tail _ gw_8_59), ht _ (.tail _ gw_8_60)⟩) (M_X9_truncate hl) (by decide +kernel)) <|
    zall_c (zs_aload_n X (pc := 410) (q := 2) rfl (by decide +kernel)) <|
    zall_c (zs_callVt X (pc := 411) zc_X9 (fun _ ht => ⟨(zCB ht gw_7_208 gw_1_13 gw_7_205 rfl rfl (by decide +kernel) ⟨Nat.le_of_ble_eq_true rfl, Nat.le_of_ble_eq_true rfl⟩), ht _ (.tail _ gw_7_206), ht _ (.tail _ gw_7_207)⟩) (M_X9_thrown hl) (by decide +kernel)) <|
    zall_c (zs_iload X (pc := 414) (by decide +kernel)) <|
    zall_c (zs_icmp_eq X (pc := 416) (off := 5) (by decide +kernel) (by decide)) <|
    zall_c (zs_iconst X (pc := 419) (by decide) (by decide +kernel)) <|
    zall_c (zs_zret X (pc := 420) rfl zR_bool (by decide +kernel)) <|
    zall_c (zs_goto X (pc := 421) (off := 2740) (by decide +kernel) (by decide)) <|
    zall_n
def cd_LW2 : List (Nat × ZTr) := [(424, tAld 1 425), (425, tCall 1 508 3810 (zNt T_X8_load) (zRcv 11) 428), (428, tAld 2 429), (429, tCall 1 0 0 (zNt T_X9_load) (zRcv 12) 432), (432, tIc_eq 3161 435), (435, tC (zi 0) 436), (436, tRi zPz)]
set_option maxRecDepth 100000 in
set_option maxHeartbeats 1500000 in
theorem hs_LW2 {l : Launch} (hl : l.stackTraces = false) (p : Program) (e : Env) (s : State) (m : MethodId) (args : Array Value) (below : List Frame) (meth : Method) (c : Code) (D : va_G) (A : Nat → Prop) (a0 : Nat → Nat) (M0 : ZM) (K : ZRet) (KX : ZEx) (mc ms : Nat) (X : zCtx p l room_1 s m args meth c code RL (Cond.initialized RX8 :: zG) 10 (Option.some Jvm.ClassFile.FieldType.boolean) D A a0 M0 mc ms) (hNc : zNc0 s) : ∀ q ∈ cd_LW2, zSd p l e room_1 s m args below meth c 10 D A a0 M0 K KX mc ms q.1 q.2 :=
    zall_c (zs_aload_n X (pc := 424) (q := 1) rfl (by decide +kernel)) <|
    zall_c (zs_callVt X (pc := 425) zc_X8 (fun _ ht => ⟨(zCB ht gw_2_155 gw_1_1 gw_2_152 rfl rfl (by decide +kernel) ⟨Nat.le_of_ble_eq_true rfl, Nat.le_of_ble_eq_true rfl⟩), ht _ (.tail _ gw_2_153), ht _ (.tail _ gw_2_154)⟩) (M_X8_load hl) (by decide +kernel)) <|
    zall_c (zs_aload_n X (pc := 428) (q := 2) rfl (by decide +kernel)) <|
    zall_c (zs_callVt X (pc := 429) zc_X9 (fun _ ht => ⟨(zCB ht gw_8_68 gw_1_13 gw_8_65 rfl rfl (by decide +kernel) ⟨Nat.le_of_ble_eq_true rfl, Nat.le_of_ble_eq_true rfl⟩), ht _ (.tail _ gw_8_66), ht _ (.tail _ gw_8_67)⟩) (M_X9_load hl) (by decide +kernel)) <|
    zall_c (zs_icmp_eq X (pc := 432) (off := 2729) (by decide +kernel) (by decide)) <|
    zall_c (zs_iconst X (pc := 435) (by decide) (by decide +kernel)) <|
    zall_c (zs_zret X (pc := 436) rfl zR_bool (by decide +kernel)) <|
    zall_n
def cd_LW3 : List (Nat × ZTr) := [(437, tAld 1 438), (438, tCall 1 0 0 (zNt T_X8_errorCode) (zRcv 11) 441), (441, tAld 2 442), (442, tCall 1 0 0 (zNt T_X9_errorCode) (zRcv 12) 445), (445, tIc_eq 3161 448), (448, tC (zi 0) 449), (449, tRi zPz)]
set_option maxRecDepth 100000 in
set_option maxHeartbeats 1500000 in
theorem hs_LW3 {l : Launch} (hl : l.stackTraces = false) (p : Program) (e : Env) (s : State) (m : MethodId) (args : Array Value) (below : List Frame) (meth : Method) (c : Code) (D : va_G) (A : Nat → Prop) (a0 : Nat → Nat) (M0 : ZM) (K : ZRet) (KX : ZEx) (mc ms : Nat) (X : zCtx p l room_1 s m args meth c code RL (Cond.initialized RX8 :: zG) 10 (Option.some Jvm.ClassFile.FieldType.boolean) D A a0 M0 mc ms) (hNc : zNc0 s) : ∀ q ∈ cd_LW3, zSd p l e room_1 s m args below meth c 10 D A a0 M0 K KX mc ms q.1 q.2 :=
    zall_c (zs_aload_n X (pc := 437) (q := 1) rfl (by decide +kernel)) <|
    zall_c (zs_callVt X (pc := 438) zc_X8 (fun _ ht => ⟨(zCB ht gw_4_231 gw_1_1 gw_4_228 rfl rfl (by decide +kernel) ⟨Nat.le_of_ble_eq_true rfl, Nat.le_of_ble_eq_true rfl⟩), ht _ (.tail _ gw_4_229), ht _ (.tail _ gw_4_230)⟩) (M_X8_errorCode hl) (by decide +kernel)) <|
    zall_c (zs_aload_n X (pc := 441) (q := 2) rfl (by decide +kernel)) <|
    zall_c (zs_callVt X (pc := 442) zc_X9 (fun _ ht => ⟨(zCB ht gw_8_209 gw_1_13 gw_8_206 rfl rfl (by decide +kernel) ⟨Nat.le_of_ble_eq_true rfl, Nat.le_of_ble_eq_true rfl⟩), ht _ (.tail _ gw_8_207), ht _ (.tail _ gw_8_208)⟩) (M_X9_errorCode hl) (by decide +kernel)) <|
    zall_c (zs_icmp_eq X (pc := 445) (off := 2716) (by decide +kernel) (by decide)) <|
    zall_c (zs_iconst X (pc := 448) (by decide) (by decide +kernel)) <|
    zall_c (zs_zret X (pc := 449) rfl zR_bool (by decide +kernel)) <|
    zall_n
def cd_LW4 : List (Nat × ZTr) := [(450, tAld 1 451), (451, tCall 1 0 0 (zNt T_X8_errorPosition) (zRcv 11) 454), (454, tAld 2 455), (455, tCall 1 0 0 (zNt T_X9_errorPosition) (zRcv 12) 458), (458, tIc_eq 3161 461), (461, tC (zi 0) 462), (462, tRi zPz)]
set_option maxRecDepth 100000 in
set_option maxHeartbeats 1500000 in
theorem hs_LW4 {l : Launch} (hl : l.stackTraces = false) (p : Program) (e : Env) (s : State) (m : MethodId) (args : Array Value) (below : List Frame) (meth : Method) (c : Code) (D : va_G) (A : Nat → Prop) (a0 : Nat → Nat) (M0 : ZM) (K : ZRet) (KX : ZEx) (mc ms : Nat) (X : zCtx p l room_1 s m args meth c code RL (Cond.initialized RX8 :: zG) 10 (Option.some Jvm.ClassFile.FieldType.boolean) D A a0 M0 mc ms) (hNc : zNc0 s) : ∀ q ∈ cd_LW4, zSd p l e room_1 s m args below meth c 10 D A a0 M0 K KX mc ms q.1 q.2 :=
    zall_c (zs_aload_n X (pc := 450) (q := 1) rfl (by decide +kernel)) <|
    zall_c (zs_callVt X (pc := 451) zc_X8 (fun _ ht => ⟨(zCB ht gw_4_235 gw_1_1 gw_4_232 rfl rfl (by decide +kernel) ⟨Nat.le_of_ble_eq_true rfl, Nat.le_of_ble_eq_true rfl⟩), ht _ (.tail _ gw_4_233), ht _ (.tail _ gw_4_234)⟩) (M_X8_errorPosition hl) (by decide +kernel)) <|
    zall_c (zs_aload_n X (pc := 454) (q := 2) rfl (by decide +kernel)) <|
    zall_c (zs_callVt X (pc := 455) zc_X9 (fun _ ht => ⟨(zCB ht gw_8_213 gw_1_13 gw_8_210 rfl rfl (by decide +kernel) ⟨Nat.le_of_ble_eq_true rfl, Nat.le_of_ble_eq_true rfl⟩), ht _ (.tail _ gw_8_211), ht _ (.tail _ gw_8_212)⟩) (M_X9_errorPosition hl) (by decide +kernel)) <|
    zall_c (zs_icmp_eq X (pc := 458) (off := 2703) (by decide +kernel) (by decide)) <|
    zall_c (zs_iconst X (pc := 461) (by decide) (by decide +kernel)) <|
    zall_c (zs_zret X (pc := 462) rfl zR_bool (by decide +kernel)) <|
    zall_n
def cd_LW5 : List (Nat × ZTr) := [(463, tAld 1 464), (464, tCall 1 0 0 (zNt T_X8_find) (zRcv 11) 467), (467, tAld 2 468), (468, tCall 1 0 0 (zNt T_X9_find) (zRcv 12) 471), (471, tIc_eq 3161 474), (474, tC (zi 0) 475), (475, tRi zPz)]
set_option maxRecDepth 100000 in
set_option maxHeartbeats 1500000 in
theorem hs_LW5 {l : Launch} (hl : l.stackTraces = false) (p : Program) (e : Env) (s : State) (m : MethodId) (args : Array Value) (below : List Frame) (meth : Method) (c : Code) (D : va_G) (A : Nat → Prop) (a0 : Nat → Nat) (M0 : ZM) (K : ZRet) (KX : ZEx) (mc ms : Nat) (X : zCtx p l room_1 s m args meth c code RL (Cond.initialized RX8 :: zG) 10 (Option.some Jvm.ClassFile.FieldType.boolean) D A a0 M0 mc ms) (hNc : zNc0 s) : ∀ q ∈ cd_LW5, zSd p l e room_1 s m args below meth c 10 D A a0 M0 K KX mc ms q.1 q.2 :=
    zall_c (zs_aload_n X (pc := 463) (q := 1) rfl (by decide +kernel)) <|
    zall_c (zs_callVt X (pc := 464) zc_X8 (fun _ ht => ⟨(zCB ht gw_4_239 gw_1_1 gw_4_236 rfl rfl (by decide +kernel) ⟨Nat.le_of_ble_eq_true rfl, Nat.le_of_ble_eq_true rfl⟩), ht _ (.tail _ gw_4_237), ht _ (.tail _ gw_4_238)⟩) (M_X8_find hl) (by decide +kernel)) <|
    zall_c (zs_aload_n X (pc := 467) (q := 2) rfl (by decide +kernel)) <|
    zall_c (zs_callVt X (pc := 468) zc_X9 (fun _ ht => ⟨(zCB ht gw_8_217 gw_1_13 gw_8_214 rfl rfl (by decide +kernel) ⟨Nat.le_of_ble_eq_true rfl, Nat.le_of_ble_eq_true rfl⟩), ht _ (.tail _ gw_8_215), ht _ (.tail _ gw_8_216)⟩) (M_X9_find hl) (by decide +kernel)) <|
    zall_c (zs_icmp_eq X (pc := 471) (off := 2690) (by decide +kernel) (by decide)) <|
    zall_c (zs_iconst X (pc := 474) (by decide) (by decide +kernel)) <|
    zall_c (zs_zret X (pc := 475) rfl zR_bool (by decide +kernel)) <|
    zall_n
def cd_LW6 : List (Nat × ZTr) := [(476, tAld 1 477), (477, tAld 0 478), (478, tIld 5 480), (480, tC (zi 1) 481), (481, tAdd 482), (482, tIal 20 483), (483, tAld 3 484), (484, tCall 3 1 6 (fun av M K _ => T_L_property av M K) zAny 487), (487, tIst 6 489), (489, tAld 2 490), (490, tAld 0 491), (491, tIld 5 493), (493, tC (zi 1) 494), (494, tAdd 495), (495, tIal 20 496), (496, tCall 2 0 0 (zNt T_X9_property) (zRcv 12) 499), (499, tIst 7 501), (501, tAld 2 502), (502, tCall 1 0 0 (zNt T_X9_thrown) (zRcv 12) 505), (505, tIld 6 507), (507, tIc_eq 512 510), (510, tC (zi 0) 511), (511, tRi zPz), (512, tIld 6 514), (514, tIf_ne 529 517), (517, tAld 3 518), (518, tC (zi 0) 519), (519, tLal 520), (520, tIld 7 522), (522, tI2l 523), (523, tLcmp 524), (524, tIf_eq 529 527), (527, tC (zi 0) 528), (528, tRi zPz), (529, tGo 3161)]
set_option maxRecDepth 100000 in
set_option maxHeartbeats 1500000 in
theorem hs_LW6 {l : Launch} (hl : l.stackTraces = false) (p : Program) (e : Env) (s : State) (m : MethodId) (args : Array Value) (below : List Frame) (meth : Method) (c : Code) (D : va_G) (A : Nat → Prop) (a0 : Nat → Nat) (M0 : ZM) (K : ZRet) (KX : ZEx) (mc ms : Nat) (X : zCtx p l room_1 s m args meth c code RL (Cond.initialized RX8 :: zG) 10 (Option.some Jvm.ClassFile.FieldType.boolean) D A a0 M0 mc ms) (hNc : zNc0 s) : ∀ q ∈ cd_LW6, zSd p l e room_1 s m args below meth c 10 D A a0 M0 K KX mc ms q.1 q.2 :=
    zall_c (zs_aload_n X (pc := 476) (q := 1) rfl (by decide +kernel)) <|
    zall_c (zs_aload_n X (pc := 477) (q := 0) rfl (by decide +kernel)) <|
    zall_c (zs_iload X (pc := 478) (by decide +kernel)) <|
    zall_c (zs_iconst X (pc := 480) (by decide) (by decide +kernel)) <|
    zall_c (zs_iadd X (pc := 481) (by decide +kernel)) <|
    zall_c (zs_iaload20 X (pc := 482) (by decide +kernel)) <|
    zall_c (zs_aload_n X (pc := 483) (q := 3) rfl (by decide +kernel)) <|
    zall_c (zs_callSW X (pc := 484) hNc (fun _ ht => zCSW ht gw_5_177 gw_1_0 gw_5_175 gw_5_176 rfl rfl (by decide +kernel) ⟨Nat.le_of_ble_eq_true rfl, Nat.le_of_ble_eq_true rfl⟩) (M_L_property hl) (by decide +kernel)) <|
    zall_c (zs_istore X (pc := 487) (by decide) (by decide +kernel)) <|
    zall_c (zs_aload_n X (pc := 489) (q := 2) rfl (by decide +kernel)) <|
    zall_c (zs_aload_n X (pc := 490) (q := 0) rfl (by decide +kernel)) <|
    zall_c (zs_iload X (pc := 491) (by decide +kernel)) <|
    zall_c (zs_iconst X (pc := 493) (by decide) (by decide +kernel)) <|
    zall_c (zs_iadd X (pc := 494) (by decide +kernel)) <|
    zall_c (zs_iaload20 X (pc := 495) (by decide +kernel)) <|
    zall_c (zs_callVt X (pc := 496) zc_X9 (fun _ ht => ⟨(zCB ht gw_8_222 gw_1_13 gw_8_219 rfl rfl (by decide +kernel) ⟨Nat.le_of_ble_eq_true rfl, Nat.le_of_ble_eq_true rfl⟩), ht _ (.tail _ gw_8_220), ht _ (.tail _ gw_8_221)⟩) (M_X9_property hl) (by decide +kernel)) <|
    zall_c (zs_istore X (pc := 499) (by decide) (by decide +kernel)) <|
    zall_c (zs_aload_n X (pc := 501) (q := 2) rfl (by decide +kernel)) <|
    zall_c (zs_callVt X (pc := 502) zc_X9 (fun _ ht => ⟨(zCB ht gw_7_208 gw_1_13 gw_7_205 rfl rfl (by decide +kernel) ⟨Nat.le_of_ble_eq_true rfl, Nat.le_of_ble_eq_true rfl⟩), ht _ (.tail _ gw_7_206), ht _ (.tail _ gw_7_207)⟩) (M_X9_thrown hl) (by decide +kernel)) <|
    zall_c (zs_iload X (pc := 505) (by decide +kernel)) <|
    zall_c (zs_icmp_eq X (pc := 507) (off := 5) (by decide +kernel) (by decide)) <|
    zall_c (zs_iconst X (pc := 510) (by decide) (by decide +kernel)) <|
    zall_c (zs_zret X (pc := 511) rfl zR_bool (by decide +kernel)) <|
    zall_c (zs_iload X (pc := 512) (by decide +kernel)) <|
    zall_c (zs_if_ne X (pc := 514) (off := 15) (by decide +kernel) (by decide)) <|
    zall_c (zs_aload_n X (pc := 517) (q := 3) rfl (by decide +kernel)) <|
    zall_c (zs_iconst X (pc := 518) (by decide) (by decide +kernel)) <|
    zall_c (zs_laload23 X (pc := 519) (by decide +kernel)) <|
    zall_c (zs_iload X (pc := 520) (by decide +kernel)) <|
    zall_c (zs_i2l X (pc := 522) (by decide +kernel)) <|
    zall_c (zs_lcmp X (pc := 523) (by decide +kernel)) <|
    zall_c (zs_if_eq X (pc := 524) (off := 5) (by decide +kernel) (by decide)) <|
    zall_c (zs_iconst X (pc := 527) (by decide) (by decide +kernel)) <|
    zall_c (zs_zret X (pc := 528) rfl zR_bool (by decide +kernel)) <|
    zall_c (zs_goto X (pc := 529) (off := 2632) (by decide +kernel) (by decide)) <|
    zall_n
def cd_LW7 : List (Nat × ZTr) := [(532, tAld 1 533), (533, tAld 0 534), (534, tIld 5 536), (536, tC (zi 1) 537), (537, tAdd 538), (538, tIal 20 539), (539, tAld 0 540), (540, tIld 5 542), (542, tC (zi 2) 543), (543, tAdd 544), (544, tIal 20 545), (545, tAld 3 546), (546, tCall 4 2 12 (fun av M K _ => T_L_worker av M K) zAny 549), (549, tIst 6 551), (551, tAld 2 552), (552, tAld 0 553), (553, tIld 5 555), (555, tC (zi 1) 556), (556, tAdd 557), (557, tIal 20 558), (558, tAld 0 559), (559, tIld 5 561), (561, tC (zi 2) 562), (562, tAdd 563), (563, tIal 20 564), (564, tCall 3 0 0 (zNt T_X9_worker) (zRcv 12) 567), (567, tIst 7 569), (569, tAld 2 570), (570, tCall 1 0 0 (zNt T_X9_thrown) (zRcv 12) 573), (573, tIld 6 575), (575, tIc_eq 580 578), (578, tC (zi 0) 579), (579, tRi zPz), (580, tIld 6 582), (582, tIf_ne 597 585), (585, tAld 3 586), (586, tC (zi 0) 587), (587, tLal 588), (588, tIld 7 590), (590, tI2l 591), (591, tLcmp 592), (592, tIf_eq 597 595), (595, tC (zi 0) 596), (596, tRi zPz), (597, tGo 3161)]
set_option maxRecDepth 100000 in
set_option maxHeartbeats 1500000 in
theorem hs_LW7 {l : Launch} (hl : l.stackTraces = false) (p : Program) (e : Env) (s : State) (m : MethodId) (args : Array Value) (below : List Frame) (meth : Method) (c : Code) (D : va_G) (A : Nat → Prop) (a0 : Nat → Nat) (M0 : ZM) (K : ZRet) (KX : ZEx) (mc ms : Nat) (X : zCtx p l room_1 s m args meth c code RL (Cond.initialized RX8 :: zG) 10 (Option.some Jvm.ClassFile.FieldType.boolean) D A a0 M0 mc ms) (hNc : zNc0 s) : ∀ q ∈ cd_LW7, zSd p l e room_1 s m args below meth c 10 D A a0 M0 K KX mc ms q.1 q.2 :=
    zall_c (zs_aload_n X (pc := 532) (q := 1) rfl (by decide +kernel)) <|
    zall_c (zs_aload_n X (pc := 533) (q := 0) rfl (by decide +kernel)) <|
    zall_c (zs_iload X (pc := 534) (by decide +kernel)) <|
    zall_c (zs_iconst X (pc := 536) (by decide) (by decide +kernel)) <|
    zall_c (zs_iadd X (pc := 537) (by decide +kernel)) <|
    zall_c (zs_iaload20 X (pc := 538) (by decide +kernel)) <|
    zall_c (zs_aload_n X (pc := 539) (q := 0) rfl (by decide +kernel)) <|
    zall_c (zs_iload X (pc := 540) (by decide +kernel)) <|
    zall_c (zs_iconst X (pc := 542) (by decide) (by decide +kernel)) <|
    zall_c (zs_iadd X (pc := 543) (by decide +kernel)) <|
    zall_c (zs_iaload20 X (pc := 544) (by decide +kernel)) <|
    zall_c (zs_aload_n X (pc := 545) (q := 3) rfl (by decide +kernel)) <|
    zall_c (zs_callSW X (pc := 546) hNc (fun _ ht => zCSW ht gw_5_192 gw_1_0 gw_5_190 gw_5_191 rfl rfl (by decide +kernel) ⟨Nat.le_of_ble_eq_true rfl, Nat.le_of_ble_eq_true rfl⟩) (M_L_worker hl) (by decide +kernel)) <|
    zall_c (zs_istore X (pc := 549) (by decide) (by decide +kernel)) <|
    zall_c (zs_aload_n X (pc := 551) (q := 2) rfl (by decide +kernel)) <|
    zall_c (zs_aload_n X (pc := 552) (q := 0) rfl (by decide +kernel)) <|
    zall_c (zs_iload X (pc := 553) (by decide +kernel)) <|
    zall_c (zs_iconst X (pc := 555) (by decide) (by decide +kernel)) <|
    zall_c (zs_iadd X (pc := 556) (by decide +kernel)) <|
    zall_c (zs_iaload20 X (pc := 557) (by decide +kernel)) <|
    zall_c (zs_aload_n X (pc := 558) (q := 0) rfl (by decide +kernel)) <|
    zall_c (zs_iload X (pc := 559) (by decide +kernel)) <|
    zall_c (zs_iconst X (pc := 561) (by decide) (by decide +kernel)) <|
    zall_c (zs_iadd X (pc := 562) (by decide +kernel)) <|
    zall_c (zs_iaload20 X (pc := 563) (by decide +kernel)) <|
    zall_c (zs_callVt X (pc := 564) zc_X9 (fun _ ht => ⟨(zCB ht gw_9_7 gw_1_13 gw_9_4 rfl rfl (by decide +kernel) ⟨Nat.le_of_ble_eq_true rfl, Nat.le_of_ble_eq_true rfl⟩), ht _ (.tail _ gw_9_5), ht _ (.tail _ gw_9_6)⟩) (M_X9_worker hl) (by decide +kernel)) <|
    zall_c (zs_istore X (pc := 567) (by decide) (by decide +kernel)) <|
    zall_c (zs_aload_n X (pc := 569) (q := 2) rfl (by decide +kernel)) <|
    zall_c (zs_callVt X (pc := 570) zc_X9 (fun _ ht => ⟨(zCB ht gw_7_208 gw_1_13 gw_7_205 rfl rfl (by decide +kernel) ⟨Nat.le_of_ble_eq_true rfl, Nat.le_of_ble_eq_true rfl⟩), ht _ (.tail _ gw_7_206), ht _ (.tail _ gw_7_207)⟩) (M_X9_thrown hl) (by decide +kernel)) <|
    zall_c (zs_iload X (pc := 573) (by decide +kernel)) <|
    zall_c (zs_icmp_eq X (pc := 575) (off := 5) (by decide +kernel) (by decide)) <|
    zall_c (zs_iconst X (pc := 578) (by decide) (by decide +kernel)) <|
    zall_c (zs_zret X (pc := 579) rfl zR_bool (by decide +kernel)) <|
    zall_c (zs_iload X (pc := 580) (by decide +kernel)) <|
    zall_c (zs_if_ne X (pc := 582) (off := 15) (by decide +kernel) (by decide)) <|
    zall_c (zs_aload_n X (pc := 585) (q := 3) rfl (by decide +kernel)) <|
    zall_c (zs_iconst X (pc := 586) (by decide) (by decide +kernel)) <|
    zall_c (zs_laload23 X (pc := 587) (by decide +kernel)) <|
    zall_c (zs_iload X (pc := 588) (by decide +kernel)) <|
    zall_c (zs_i2l X (pc := 590) (by decide +kernel)) <|
    zall_c (zs_lcmp X (pc := 591) (by decide +kernel)) <|
    zall_c (zs_if_eq X (pc := 592) (off := 5) (by decide +kernel) (by decide)) <|
    zall_c (zs_iconst X (pc := 595) (by decide) (by decide +kernel)) <|
    zall_c (zs_zret X (pc := 596) rfl zR_bool (by decide +kernel)) <|
    zall_c (zs_goto X (pc := 597) (off := 2564) (by decide +kernel) (by decide)) <|
    zall_n
def cd_LW8 : List (Nat × ZTr) := [(600, tAld 1 601), (601, tAld 0 602), (602, tIld 5 604), (604, tC (zi 1) 605), (605, tAdd 606), (606, tIal 20 607), (607, tAld 0 608), (608, tIld 5 610), (610, tC (zi 2) 611), (611, tAdd 612), (612, tIal 20 613), (613, tAld 3 614), (614, tCall 4 2 12 (fun av M K _ => T_L_row av M K) zAny 617), (617, tIst 6 619), (619, tAld 2 620), (620, tAld 0 621), (621, tIld 5 623), (623, tC (zi 1) 624), (624, tAdd 625), (625, tIal 20 626), (626, tAld 0 627), (627, tIld 5 629), (629, tC (zi 2) 630), (630, tAdd 631), (631, tIal 20 632), (632, tCall 3 0 0 (zNt T_X9_row) (zRcv 12) 635), (635, tIst 7 637), (637, tAld 2 638), (638, tCall 1 0 0 (zNt T_X9_thrown) (zRcv 12) 641), (641, tIld 6 643), (643, tIc_eq 648 646), (646, tC (zi 0) 647), (647, tRi zPz), (648, tIld 6 650), (650, tIf_ne 665 653), (653, tAld 3 654), (654, tC (zi 0) 655), (655, tLal 656), (656, tIld 7 658), (658, tI2l 659), (659, tLcmp 660), (660, tIf_eq 665 663), (663, tC (zi 0) 664), (664, tRi zPz), (665, tGo 3161)]
set_option maxRecDepth 100000 in
set_option maxHeartbeats 1500000 in
theorem hs_LW8 {l : Launch} (hl : l.stackTraces = false) (p : Program) (e : Env) (s : State) (m : MethodId) (args : Array Value) (below : List Frame) (meth : Method) (c : Code) (D : va_G) (A : Nat → Prop) (a0 : Nat → Nat) (M0 : ZM) (K : ZRet) (KX : ZEx) (mc ms : Nat) (X : zCtx p l room_1 s m args meth c code RL (Cond.initialized RX8 :: zG) 10 (Option.some Jvm.ClassFile.FieldType.boolean) D A a0 M0 mc ms) (hNc : zNc0 s) : ∀ q ∈ cd_LW8, zSd p l e room_1 s m args below meth c 10 D A a0 M0 K KX mc ms q.1 q.2 :=
    zall_c (zs_aload_n X (pc := 600) (q := 1) rfl (by decide +kernel)) <|
    zall_c (zs_aload_n X (pc := 601) (q := 0) rfl (by decide +kernel)) <|
    zall_c (zs_iload X (pc := 602) (by decide +kernel)) <|
    zall_c (zs_iconst X (pc := 604) (by decide) (by decide +kernel)) <|
    zall_c (zs_iadd X (pc := 605) (by decide +kernel)) <|
    zall_c (zs_iaload20 X (pc := 606) (by decide +kernel)) <|
    zall_c (zs_aload_n X (pc := 607) (q := 0) rfl (by decide +kernel)) <|
    zall_c (zs_iload X (pc := 608) (by decide +kernel)) <|
    zall_c (zs_iconst X (pc := 610) (by decide) (by decide +kernel)) <|
    zall_c (zs_iadd X (pc := 611) (by decide +kernel)) <|
    zall_c (zs_iaload20 X (pc := 612) (by decide +kernel)) <|
    zall_c (zs_aload_n X (pc := 613) (q := 3) rfl (by decide +kernel)) <|
    zall_c (zs_callSW X (pc := 614) hNc (fun _ ht => zCSW ht gw_5_217 gw_1_0 gw_5_215 gw_5_216 rfl rfl (by decide +kernel) ⟨Nat.le_of_ble_eq_true rfl, Nat.le_of_ble_eq_true rfl⟩) (M_L_row hl) (by decide +kernel)) <|
    zall_c (zs_istore X (pc := 617) (by decide) (by decide +kernel)) <|
    zall_c (zs_aload_n X (pc := 619) (q := 2) rfl (by decide +kernel)) <|
    zall_c (zs_aload_n X (pc := 620) (q := 0) rfl (by decide +kernel)) <|
    zall_c (zs_iload X (pc := 621) (by decide +kernel)) <|
    zall_c (zs_iconst X (pc := 623) (by decide) (by decide +kernel)) <|
    zall_c (zs_iadd X (pc := 624) (by decide +kernel)) <|
    zall_c (zs_iaload20 X (pc := 625) (by decide +kernel)) <|
    zall_c (zs_aload_n X (pc := 626) (q := 0) rfl (by decide +kernel)) <|
    zall_c (zs_iload X (pc := 627) (by decide +kernel)) <|
    zall_c (zs_iconst X (pc := 629) (by decide) (by decide +kernel)) <|
    zall_c (zs_iadd X (pc := 630) (by decide +kernel)) <|
    zall_c (zs_iaload20 X (pc := 631) (by decide +kernel)) <|
    zall_c (zs_callVt X (pc := 632) zc_X9 (fun _ ht => ⟨(zCB ht gw_9_44 gw_1_13 gw_9_41 rfl rfl (by decide +kernel) ⟨Nat.le_of_ble_eq_true rfl, Nat.le_of_ble_eq_true rfl⟩), ht _ (.tail _ gw_9_42), ht _ (.tail _ gw_9_43)⟩) (M_X9_row hl) (by decide +kernel)) <|
    zall_c (zs_istore X (pc := 635) (by decide) (by decide +kernel)) <|
    zall_c (zs_aload_n X (pc := 637) (q := 2) rfl (by decide +kernel)) <|
    zall_c (zs_callVt X (pc := 638) zc_X9 (fun _ ht => ⟨(zCB ht gw_7_208 gw_1_13 gw_7_205 rfl rfl (by decide +kernel) ⟨Nat.le_of_ble_eq_true rfl, Nat.le_of_ble_eq_true rfl⟩), ht _ (.tail _ gw_7_206), ht _ (.tail _ gw_7_207)⟩) (M_X9_thrown hl) (by decide +kernel)) <|
    zall_c (zs_iload X (pc := 641) (by decide +kernel)) <|
    zall_c (zs_icmp_eq X (pc := 643) (off := 5) (by decide +kernel) (by decide)) <|
    zall_c (zs_iconst X (pc := 646) (by decide) (by decide +kernel)) <|
    zall_c (zs_zret X (pc := 647) rfl zR_bool (by decide +kernel)) <|
    zall_c (zs_iload X (pc := 648) (by decide +kernel)) <|
    zall_c (zs_if_ne X (pc := 650) (off := 15) (by decide +kernel) (by decide)) <|
    zall_c (zs_aload_n X (pc := 653) (q := 3) rfl (by decide +kernel)) <|
    zall_c (zs_iconst X (pc := 654) (by decide) (by decide +kernel)) <|
    zall_c (zs_laload23 X (pc := 655) (by decide +kernel)) <|
    zall_c (zs_iload X (pc := 656) (by decide +kernel)) <|
    zall_c (zs_i2l X (pc := 658) (by decide +kernel)) <|
    zall_c (zs_lcmp X (pc := 659) (by decide +kernel)) <|
    zall_c (zs_if_eq X (pc := 660) (off := 5) (by decide +kernel) (by decide)) <|
    zall_c (zs_iconst X (pc := 663) (by decide) (by decide +kernel)) <|
    zall_c (zs_zret X (pc := 664) rfl zR_bool (by decide +kernel)) <|
    zall_c (zs_goto X (pc := 665) (off := 2496) (by decide +kernel) (by decide)) <|
    zall_n
def cd_LW9 : List (Nat × ZTr) := [(668, tAld 1 669), (669, tAld 0 670), (670, tIld 5 672), (672, tC (zi 1) 673), (673, tAdd 674), (674, tIal 20 675), (675, tAld 0 676), (676, tIld 5 678), (678, tC (zi 2) 679), (679, tAdd 680), (680, tIal 20 681), (681, tAld 0 682), (682, tIld 5 684), (684, tC (zi 3) 685), (685, tAdd 686), (686, tIal 20 687), (687, tAld 3 688), (688, tCall 5 3 18 (fun av M K _ => T_L_taking av M K) zAny 691), (691, tIst 6 693), (693, tAld 2 694), (694, tAld 0 695), (695, tIld 5 697), (697, tC (zi 1) 698), (698, tAdd 699), (699, tIal 20 700), (700, tAld 0 701), (701, tIld 5 703), (703, tC (zi 2) 704), (704, tAdd 705), (705, tIal 20 706), (706, tAld 0 707), (707, tIld 5 709), (709, tC (zi 3) 710), (710, tAdd 711), (711, tIal 20 712), (712, tCall 4 0 0 (zNt T_X9_taking) (zRcv 12) 715), (715, tIst 7 717), (717, tAld 2 718), (718, tCall 1 0 0 (zNt T_X9_thrown) (zRcv 12) 721), (721, tIld 6 723), (723, tIc_eq 728 726), (726, tC (zi 0) 727), (727, tRi zPz), (728, tIld 6 730), (730, tIf_ne 745 733), (733, tAld 3 734), (734, tC (zi 0) 735), (735, tLal 736), (736, tIld 7 738), (738, tI2l 739), (739, tLcmp 740), (740, tIf_eq 745 743), (743, tC (zi 0) 744), (744, tRi zPz), (745, tGo 3161)]
set_option maxRecDepth 100000 in
set_option maxHeartbeats 1500000 in
theorem hs_LW9 {l : Launch} (hl : l.stackTraces = false) (p : Program) (e : Env) (s : State) (m : MethodId) (args : Array Value) (below : List Frame) (meth : Method) (c : Code) (D : va_G) (A : Nat → Prop) (a0 : Nat → Nat) (M0 : ZM) (K : ZRet) (KX : ZEx) (mc ms : Nat) (X : zCtx p l room_1 s m args meth c code RL (Cond.initialized RX8 :: zG) 10 (Option.some Jvm.ClassFile.FieldType.boolean) D A a0 M0 mc ms) (hNc : zNc0 s) : ∀ q ∈ cd_LW9, zSd p l e room_1 s m args below meth c 10 D A a0 M0 K KX mc ms q.1 q.2 :=
    zall_c (zs_aload_n X (pc := 668) (q := 1) rfl (by decide +kernel)) <|
    zall_c (zs_aload_n X (pc := 669) (q := 0) rfl (by decide +kernel)) <|
    zall_c (zs_iload X (pc := 670) (by decide +kernel)) <|
    zall_c (zs_iconst X (pc := 672) (by decide) (by decide +kernel)) <|
    zall_c (zs_iadd X (pc := 673) (by decide +kernel)) <|
    zall_c (zs_iaload20 X (pc := 674) (by decide +kernel)) <|
    zall_c (zs_aload_n X (pc := 675) (q := 0) rfl (by decide +kernel)) <|
    zall_c (zs_iload X (pc := 676) (by decide +kernel)) <|
    zall_c (zs_iconst X (pc := 678) (by decide) (by decide +kernel)) <|
    zall_c (zs_iadd X (pc := 679) (by decide +kernel)) <|
    zall_c (zs_iaload20 X (pc := 680) (by decide +kernel)) <|
    zall_c (zs_aload_n X (pc := 681) (q := 0) rfl (by decide +kernel)) <|
    zall_c (zs_iload X (pc := 682) (by decide +kernel)) <|
    zall_c (zs_iconst X (pc := 684) (by decide) (by decide +kernel)) <|
    zall_c (zs_iadd X (pc := 685) (by decide +kernel)) <|
    zall_c (zs_iaload20 X (pc := 686) (by decide +kernel)) <|
    zall_c (zs_aload_n X (pc := 687) (q := 3) rfl (by decide +kernel)) <|
    zall_c (zs_callSW X (pc := 688) hNc (fun _ ht => zCSW ht gw_5_230 gw_1_0 gw_5_228 gw_5_229 rfl rfl (by decide +kernel) ⟨Nat.le_of_ble_eq_true rfl, Nat.le_of_ble_eq_true rfl⟩) (M_L_taking hl) (by decide +kernel)) <|
    zall_c (zs_istore X (pc := 691) (by decide) (by decide +kernel)) <|
    zall_c (zs_aload_n X (pc := 693) (q := 2) rfl (by decide +kernel)) <|
    zall_c (zs_aload_n X (pc := 694) (q := 0) rfl (by decide +kernel)) <|
    zall_c (zs_iload X (pc := 695) (by decide +kernel)) <|
    zall_c (zs_iconst X (pc := 697) (by decide) (by decide +kernel)) <|
    zall_c (zs_iadd X (pc := 698) (by decide +kernel)) <|
    zall_c (zs_iaload20 X (pc := 699) (by decide +kernel)) <|
    zall_c (zs_aload_n X (pc := 700) (q := 0) rfl (by decide +kernel)) <|
    zall_c (zs_iload X (pc := 701) (by decide +kernel)) <|
    zall_c (zs_iconst X (pc := 703) (by decide) (by decide +kernel)) <|
    zall_c (zs_iadd X (pc := 704) (by decide +kernel)) <|
    zall_c (zs_iaload20 X (pc := 705) (by decide +kernel)) <|
    zall_c (zs_aload_n X (pc := 706) (q := 0) rfl (by decide +kernel)) <|
    zall_c (zs_iload X (pc := 707) (by decide +kernel)) <|
    zall_c (zs_iconst X (pc := 709) (by decide) (by decide +kernel)) <|
    zall_c (zs_iadd X (pc := 710) (by decide +kernel)) <|
    zall_c (zs_iaload20 X (pc := 711) (by decide +kernel)) <|
    zall_c (zs_callVt X (pc := 712) zc_X9 (fun _ ht => ⟨(zCB ht gw_9_57 gw_1_13 gw_9_54 rfl rfl (by decide +kernel) ⟨Nat.le_of_ble_eq_true rfl, Nat.le_of_ble_eq_true rfl⟩), ht _ (.tail _ gw_9_55), ht _ (.tail _ gw_9_56)⟩) (M_X9_taking hl) (by decide +kernel)) <|
    zall_c (zs_istore X (pc := 715) (by decide) (by decide +kernel)) <|
    zall_c (zs_aload_n X (pc := 717) (q := 2) rfl (by decide +kernel)) <|
    zall_c (zs_callVt X (pc := 718) zc_X9 (fun _ ht => ⟨(zCB ht gw_7_208 gw_1_13 gw_7_205 rfl rfl (by decide +kernel) ⟨Nat.le_of_ble_eq_true rfl, Nat.le_of_ble_eq_true rfl⟩), ht _ (.tail _ gw_7_206), ht _ (.tail _ gw_7_207)⟩) (M_X9_thrown hl) (by decide +kernel)) <|
    zall_c (zs_iload X (pc := 721) (by decide +kernel)) <|
    zall_c (zs_icmp_eq X (pc := 723) (off := 5) (by decide +kernel) (by decide)) <|
    zall_c (zs_iconst X (pc := 726) (by decide) (by decide +kernel)) <|
    zall_c (zs_zret X (pc := 727) rfl zR_bool (by decide +kernel)) <|
    zall_c (zs_iload X (pc := 728) (by decide +kernel)) <|
    zall_c (zs_if_ne X (pc := 730) (off := 15) (by decide +kernel) (by decide)) <|
    zall_c (zs_aload_n X (pc := 733) (q := 3) rfl (by decide +kernel)) <|
    zall_c (zs_iconst X (pc := 734) (by decide) (by decide +kernel)) <|
    zall_c (zs_laload23 X (pc := 735) (by decide +kernel)) <|
    zall_c (zs_iload X (pc := 736) (by decide +kernel)) <|
    zall_c (zs_i2l X (pc := 738) (by decide +kernel)) <|
    zall_c (zs_lcmp X (pc := 739) (by decide +kernel)) <|
    zall_c (zs_if_eq X (pc := 740) (off := 5) (by decide +kernel) (by decide)) <|
    zall_c (zs_iconst X (pc := 743) (by decide) (by decide +kernel)) <|
    zall_c (zs_zret X (pc := 744) rfl zR_bool (by decide +kernel)) <|
    zall_c (zs_goto X (pc := 745) (off := 2416) (by decide +kernel) (by decide)) <|
    zall_n
def cd_LW10 : List (Nat × ZTr) := [(748, tAld 1 749), (749, tAld 0 750), (750, tIld 5 752), (752, tC (zi 1) 753), (753, tAdd 754), (754, tIal 20 755), (755, tAld 3 756), (756, tCall 3 1 6 (fun av M K _ => T_L_finishers av M K) zAny 759), (759, tIst 6 761), (761, tAld 2 762), (762, tAld 0 763), (763, tIld 5 765), (765, tC (zi 1) 766), (766, tAdd 767), (767, tIal 20 768), (768, tCall 2 0 0 (zNt T_X9_finishers) (zRcv 12) 771), (771, tIst 7 773), (773, tAld 2 774), (774, tCall 1 0 0 (zNt T_X9_thrown) (zRcv 12) 777), (777, tIld 6 779), (779, tIc_eq 784 782), (782, tC (zi 0) 783), (783, tRi zPz), (784, tIld 6 786), (786, tIf_ne 801 789), (789, tAld 3 790), (790, tC (zi 0) 791), (791, tLal 792), (792, tIld 7 794), (794, tI2l 795), (795, tLcmp 796), (796, tIf_eq 801 799), (799, tC (zi 0) 800), (800, tRi zPz), (801, tGo 3161)]
set_option maxRecDepth 100000 in
set_option maxHeartbeats 1500000 in
theorem hs_LW10 {l : Launch} (hl : l.stackTraces = false) (p : Program) (e : Env) (s : State) (m : MethodId) (args : Array Value) (below : List Frame) (meth : Method) (c : Code) (D : va_G) (A : Nat → Prop) (a0 : Nat → Nat) (M0 : ZM) (K : ZRet) (KX : ZEx) (mc ms : Nat) (X : zCtx p l room_1 s m args meth c code RL (Cond.initialized RX8 :: zG) 10 (Option.some Jvm.ClassFile.FieldType.boolean) D A a0 M0 mc ms) (hNc : zNc0 s) : ∀ q ∈ cd_LW10, zSd p l e room_1 s m args below meth c 10 D A a0 M0 K KX mc ms q.1 q.2 :=
    zall_c (zs_aload_n X (pc := 748) (q := 1) rfl (by decide +kernel)) <|
    zall_c (zs_aload_n X (pc := 749) (q := 0) rfl (by decide +kernel)) <|
    zall_c (zs_iload X (pc := 750) (by decide +kernel)) <|
    zall_c (zs_iconst X (pc := 752) (by decide) (by decide +kernel)) <|
    zall_c (zs_iadd X (pc := 753) (by decide +kernel)) <|
    zall_c (zs_iaload20 X (pc := 754) (by decide +kernel)) <|
    zall_c (zs_aload_n X (pc := 755) (q := 3) rfl (by decide +kernel)) <|
    zall_c (zs_callSW X (pc := 756) hNc (fun _ ht => zCSW ht gw_6_2 gw_1_0 gw_6_0 gw_6_1 rfl rfl (by decide +kernel) ⟨Nat.le_of_ble_eq_true rfl, Nat.le_of_ble_eq_true rfl⟩) (M_L_finishers hl) (by decide +kernel)) <|
    zall_c (zs_istore X (pc := 759) (by decide) (by decide +kernel)) <|
    zall_c (zs_aload_n X (pc := 761) (q := 2) rfl (by decide +kernel)) <|
    zall_c (zs_aload_n X (pc := 762) (q := 0) rfl (by decide +kernel)) <|
    zall_c (zs_iload X (pc := 763) (by decide +kernel)) <|
    zall_c (zs_iconst X (pc := 765) (by decide) (by decide +kernel)) <|
    zall_c (zs_iadd X (pc := 766) (by decide +kernel)) <|
    zall_c (zs_iaload20 X (pc := 767) (by decide +kernel)) <|
    zall_c (zs_callVt X (pc := 768) zc_X9 (fun _ ht => ⟨(zCB ht gw_9_62 gw_1_13 gw_9_59 rfl rfl (by decide +kernel) ⟨Nat.le_of_ble_eq_true rfl, Nat.le_of_ble_eq_true rfl⟩), ht _ (.tail _ gw_9_60), ht _ (.tail _ gw_9_61)⟩) (M_X9_finishers hl) (by decide +kernel)) <|
    zall_c (zs_istore X (pc := 771) (by decide) (by decide +kernel)) <|
    zall_c (zs_aload_n X (pc := 773) (q := 2) rfl (by decide +kernel)) <|
    zall_c (zs_callVt X (pc := 774) zc_X9 (fun _ ht => ⟨(zCB ht gw_7_208 gw_1_13 gw_7_205 rfl rfl (by decide +kernel) ⟨Nat.le_of_ble_eq_true rfl, Nat.le_of_ble_eq_true rfl⟩), ht _ (.tail _ gw_7_206), ht _ (.tail _ gw_7_207)⟩) (M_X9_thrown hl) (by decide +kernel)) <|
    zall_c (zs_iload X (pc := 777) (by decide +kernel)) <|
    zall_c (zs_icmp_eq X (pc := 779) (off := 5) (by decide +kernel) (by decide)) <|
    zall_c (zs_iconst X (pc := 782) (by decide) (by decide +kernel)) <|
    zall_c (zs_zret X (pc := 783) rfl zR_bool (by decide +kernel)) <|
    zall_c (zs_iload X (pc := 784) (by decide +kernel)) <|
    zall_c (zs_if_ne X (pc := 786) (off := 15) (by decide +kernel) (by decide)) <|
    zall_c (zs_aload_n X (pc := 789) (q := 3) rfl (by decide +kernel)) <|
    zall_c (zs_iconst X (pc := 790) (by decide) (by decide +kernel)) <|
    zall_c (zs_laload23 X (pc := 791) (by decide +kernel)) <|
    zall_c (zs_iload X (pc := 792) (by decide +kernel)) <|
    zall_c (zs_i2l X (pc := 794) (by decide +kernel)) <|
    zall_c (zs_lcmp X (pc := 795) (by decide +kernel)) <|
    zall_c (zs_if_eq X (pc := 796) (off := 5) (by decide +kernel) (by decide)) <|
    zall_c (zs_iconst X (pc := 799) (by decide) (by decide +kernel)) <|
    zall_c (zs_zret X (pc := 800) rfl zR_bool (by decide +kernel)) <|
    zall_c (zs_goto X (pc := 801) (off := 2360) (by decide +kernel) (by decide)) <|
    zall_n
def cd_LW11 : List (Nat × ZTr) := [(804, tAld 1 805), (805, tAld 0 806), (806, tIld 5 808), (808, tC (zi 1) 809), (809, tAdd 810), (810, tIal 20 811), (811, tAld 0 812), (812, tIld 5 814), (814, tC (zi 2) 815), (815, tAdd 816), (816, tIal 20 817), (817, tAld 3 818), (818, tCall 4 2 12 (fun av M K _ => T_L_refusal av M K) zAny 821), (821, tIst 6 823), (823, tAld 2 824), (824, tAld 0 825), (825, tIld 5 827), (827, tC (zi 1) 828), (828, tAdd 829), (829, tIal 20 830), (830, tAld 0 831), (831, tIld 5 833), (833, tC (zi 2) 834), (834, tAdd 835), (835, tIal 20 836), (836, tCall 3 0 0 (zNt T_X9_refusal) (zRcv 12) 839), (839, tIst 7 841), (841, tAld 2 842), (842, tCall 1 0 0 (zNt T_X9_thrown) (zRcv 12) 845), (845, tIld 6 847), (847, tIc_eq 852 850), (850, tC (zi 0) 851), (851, tRi zPz), (852, tIld 6 854), (854, tIf_ne 869 857), (857, tAld 3 858), (858, tC (zi 0) 859), (859, tLal 860), (860, tIld 7 862), (862, tI2l 863), (863, tLcmp 864), (864, tIf_eq 869 867), (867, tC (zi 0) 868), (868, tRi zPz), (869, tGo 3161)]
set_option maxRecDepth 100000 in
set_option maxHeartbeats 1500000 in
theorem hs_LW11 {l : Launch} (hl : l.stackTraces = false) (p : Program) (e : Env) (s : State) (m : MethodId) (args : Array Value) (below : List Frame) (meth : Method) (c : Code) (D : va_G) (A : Nat → Prop) (a0 : Nat → Nat) (M0 : ZM) (K : ZRet) (KX : ZEx) (mc ms : Nat) (X : zCtx p l room_1 s m args meth c code RL (Cond.initialized RX8 :: zG) 10 (Option.some Jvm.ClassFile.FieldType.boolean) D A a0 M0 mc ms) (hNc : zNc0 s) : ∀ q ∈ cd_LW11, zSd p l e room_1 s m args below meth c 10 D A a0 M0 K KX mc ms q.1 q.2 :=
    zall_c (zs_aload_n X (pc := 804) (q := 1) rfl (by decide +kernel)) <|
    zall_c (zs_aload_n X (pc := 805) (q := 0) rfl (by decide +kernel)) <|
    zall_c (zs_iload X (pc := 806) (by decide +kernel)) <|
    zall_c (zs_iconst X (pc := 808) (by decide) (by decide +kernel)) <|
    zall_c (zs_iadd X (pc := 809) (by decide +kernel)) <|
    zall_c (zs_iaload20 X (pc := 810) (by decide +kernel)) <|
    zall_c (zs_aload_n X (pc := 811) (q := 0) rfl (by decide +kernel)) <|
    zall_c (zs_iload X (pc := 812) (by decide +kernel)) <|
    zall_c (zs_iconst X (pc := 814) (by decide) (by decide +kernel)) <|
    zall_c (zs_iadd X (pc := 815) (by decide +kernel)) <|
    zall_c (zs_iaload20 X (pc := 816) (by decide +kernel)) <|
    zall_c (zs_aload_n X (pc := 817) (q := 3) rfl (by decide +kernel)) <|
    zall_c (zs_callSW X (pc := 818) hNc (fun _ ht => zCSW ht gw_6_9 gw_1_0 gw_6_7 gw_6_8 rfl rfl (by decide +kernel) ⟨Nat.le_of_ble_eq_true rfl, Nat.le_of_ble_eq_true rfl⟩) (M_L_refusal hl) (by decide +kernel)) <|
    zall_c (zs_istore X (pc := 821) (by decide) (by decide +kernel)) <|
    zall_c (zs_aload_n X (pc := 823) (q := 2) rfl (by decide +kernel)) <|
    zall_c (zs_aload_n X (pc := 824) (q := 0) rfl (by decide +kernel)) <|
    zall_c (zs_iload X (pc := 825) (by decide +kernel)) <|
    zall_c (zs_iconst X (pc := 827) (by decide) (by decide +kernel)) <|
    zall_c (zs_iadd X (pc := 828) (by decide +kernel)) <|
    zall_c (zs_iaload20 X (pc := 829) (by decide +kernel)) <|
    zall_c (zs_aload_n X (pc := 830) (q := 0) rfl (by decide +kernel)) <|
    zall_c (zs_iload X (pc := 831) (by decide +kernel)) <|
    zall_c (zs_iconst X (pc := 833) (by decide) (by decide +kernel)) <|
    zall_c (zs_iadd X (pc := 834) (by decide +kernel)) <|
    zall_c (zs_iaload20 X (pc := 835) (by decide +kernel)) <|
    zall_c (zs_callVt X (pc := 836) zc_X9 (fun _ ht => ⟨(zCB ht gw_9_66 gw_1_13 gw_9_63 rfl rfl (by decide +kernel) ⟨Nat.le_of_ble_eq_true rfl, Nat.le_of_ble_eq_true rfl⟩), ht _ (.tail _ gw_9_64), ht _ (.tail _ gw_9_65)⟩) (M_X9_refusal hl) (by decide +kernel)) <|
    zall_c (zs_istore X (pc := 839) (by decide) (by decide +kernel)) <|
    zall_c (zs_aload_n X (pc := 841) (q := 2) rfl (by decide +kernel)) <|
    zall_c (zs_callVt X (pc := 842) zc_X9 (fun _ ht => ⟨(zCB ht gw_7_208 gw_1_13 gw_7_205 rfl rfl (by decide +kernel) ⟨Nat.le_of_ble_eq_true rfl, Nat.le_of_ble_eq_true rfl⟩), ht _ (.tail _ gw_7_206), ht _ (.tail _ gw_7_207)⟩) (M_X9_thrown hl) (by decide +kernel)) <|
    zall_c (zs_iload X (pc := 845) (by decide +kernel)) <|
    zall_c (zs_icmp_eq X (pc := 847) (off := 5) (by decide +kernel) (by decide)) <|
    zall_c (zs_iconst X (pc := 850) (by decide) (by decide +kernel)) <|
    zall_c (zs_zret X (pc := 851) rfl zR_bool (by decide +kernel)) <|
    zall_c (zs_iload X (pc := 852) (by decide +kernel)) <|
    zall_c (zs_if_ne X (pc := 854) (off := 15) (by decide +kernel) (by decide)) <|
    zall_c (zs_aload_n X (pc := 857) (q := 3) rfl (by decide +kernel)) <|
    zall_c (zs_iconst X (pc := 858) (by decide) (by decide +kernel)) <|
    zall_c (zs_laload23 X (pc := 859) (by decide +kernel)) <|
    zall_c (zs_iload X (pc := 860) (by decide +kernel)) <|
    zall_c (zs_i2l X (pc := 862) (by decide +kernel)) <|
    zall_c (zs_lcmp X (pc := 863) (by decide +kernel)) <|
    zall_c (zs_if_eq X (pc := 864) (off := 5) (by decide +kernel) (by decide)) <|
    zall_c (zs_iconst X (pc := 867) (by decide) (by decide +kernel)) <|
    zall_c (zs_zret X (pc := 868) rfl zR_bool (by decide +kernel)) <|
    zall_c (zs_goto X (pc := 869) (off := 2292) (by decide +kernel) (by decide)) <|
    zall_n
