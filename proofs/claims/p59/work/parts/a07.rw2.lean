/-! the rows of the law, on -/
theorem gw_6_88 : Cond.code yX8_finishers cX8_finishers 3 (Option.some Jvm.ClassFile.FieldType.int) ∈ zG := zGt6 (List.mem_of_getElem? (i := 88) (by rfl)) rfl
theorem gw_6_85 : Cond.methodLink RL 205 yX8_finishers ∈ zG := zGt6 (List.mem_of_getElem? (i := 85) (by rfl)) rfl
theorem gw_6_86 : Cond.instanceMethod yX8_finishers ∈ zG := zGt6 (List.mem_of_getElem? (i := 86) (by rfl)) rfl
theorem gw_6_87 : Cond.selects RX8 yX8_finishers yX8_finishers ∈ zG := zGt6 (List.mem_of_getElem? (i := 87) (by rfl)) rfl
theorem gw_6_132 : Cond.code yJ6_bitCount_0f7a4 cJ6_bitCount_0f7a4 1 (Option.some Jvm.ClassFile.FieldType.int) ∈ zG := zGt6 (List.mem_of_getElem? (i := 132) (by rfl)) rfl
theorem gw_6_130 : Cond.methodLink RL 226 yJ6_bitCount_0f7a4 ∈ zG := zGt6 (List.mem_of_getElem? (i := 130) (by rfl)) rfl
theorem gw_6_131 : Cond.static yJ6_bitCount_0f7a4 ∈ zG := zGt6 (List.mem_of_getElem? (i := 131) (by rfl)) rfl
theorem gw_6_139 : Cond.code yX8_left cX8_left 3 (Option.some Jvm.ClassFile.FieldType.int) ∈ zG := zGt6 (List.mem_of_getElem? (i := 139) (by rfl)) rfl
theorem gw_6_136 : Cond.methodLink RL 229 yX8_left ∈ zG := zGt6 (List.mem_of_getElem? (i := 136) (by rfl)) rfl
theorem gw_6_137 : Cond.instanceMethod yX8_left ∈ zG := zGt6 (List.mem_of_getElem? (i := 137) (by rfl)) rfl
theorem gw_6_138 : Cond.selects RX8 yX8_left yX8_left ∈ zG := zGt6 (List.mem_of_getElem? (i := 138) (by rfl)) rfl
abbrev rm_L_holds : Room := { frames := 8, cells := 1900, slots := 11400, locals := 136 }
def cd_L_holds (T0 : ZTf) (T1 : ZTf) (T2 : ZTf) (T3 : ZTf) (T4 : ZTf) (T5 : ZTf) (T6 : ZTf) : List (Nat × ZTr) := [(0, tC (zi 4) 1), (1, tNewA 20 3), (3, tAst 1 4), (4, tC (zi 0) 5), (5, tIst 2 6), (6, tC (zi 0) 7), (7, tIst 3 8), (8, tIld 3 9), (9, tAld 0 10), (10, tC (zi 1) 11), (11, tCall 2 1 6 T0 (zRcv 11) 14), (14, tIc_ge 153 17), (17, tAld 0 18), (18, tIld 3 19), (19, tC (zi 1) 20), (20, tCall 3 2 12 T1 (zRcv 11) 23), (23, tIst 4 25), (25, tAld 1 26), (26, tIld 4 28), (28, tDup2 29), (29, tIal 20 30), (30, tC (zi 1) 31), (31, tAdd 32), (32, tIas 20 (fun _ => True) 33), (33, tIld 2 34), (34, tIld 4 36), (36, tC (zi 2) 37), (37, tIc_ge 49 40), (40, tAld 0 41), (41, tIld 3 42), (42, tC (zi 0) 43), (43, tCall 3 2 12 T1 (zRcv 11) 46), (46, tGo 50), (49, tC (zi 0) 50), (50, tAdd 51), (51, tIst 2 52), (52, tAld 0 53), (53, tIld 3 54), (54, tCall 2 1 6 T2 (zRcv 11) 57), (57, tIst 5 59), (59, tIld 5 61), (61, tCall0 1 T3 zAny 64), (64, tIld 4 66), (66, tC (zi 2) 67), (67, tIc_ne 74 70), (70, tC (zi 2) 71), (71, tGo 75), (74, tC (zi 0) 75), (75, tIc_eq 80 78), (78, tC (zi 0) 79), (79, tRi zPz), (80, tC (zi 0) 81), (81, tIst 6 83), (83, tIld 6 85), (85, tAld 0 86), (86, tIld 3 87), (87, tC (zi 4) 88), (88, tCall 3 2 12 T1 (zRcv 11) 91), (91, tIc_ge 147 94), (94, tC (zi 0) 95), (95, tIst 7 97), (97, tIld 7 99), (99, tIld 6 101), (101, tIc_ge 141 104), (104, tAld 0 105), (105, tAld 0 106), (106, tIld 3 107), (107, tIld 6 109), (109, tC (zi 0) 110), (110, tCall 4 3 18 T4 (zRcv 11) 113), (113, tC (zi 0) 114), (114, tCall 3 2 12 T5 (zRcv 11) 117), (117, tAld 0 118), (118, tAld 0 119), (119, tIld 3 120), (120, tIld 7 122), (122, tC (zi 0) 123), (123, tCall 4 3 18 T4 (zRcv 11) 126), (126, tC (zi 0) 127), (127, tCall 3 2 12 T5 (zRcv 11) 130), (130, tIc_ne 135 133), (133, tC (zi 0) 134), (134, tRi zPz), (135, tInc 7 1 138), (138, tGo 97), (141, tInc 6 1 144), (144, tGo 83), (147, tInc 3 1 150), (150, tGo 8), (153, tC (zi 0) 154), (154, tIst 3 155), (155, tIld 3 156), (156, tC (zi 4) 157), (157, tIc_ge 182 160), (160, tAld 0 161), (161, tC (zi 6) 163), (163, tIld 3 164), (164, tAdd 165), (165, tCall 2 1 6 T0 (zRcv 11) 168), (168, tAld 1 169), (169, tIld 3 170), (170, tIal 20 171), (171, tIc_eq 176 174), (174, tC (zi 0) 175), (175, tRi zPz), (176, tInc 3 1 179), (179, tGo 155), (182, tAld 0 183), (183, tCall0 1 T6 (zRcv 11) 186), (186, tIld 2 187), (187, tIc_ne 194 190), (190, tC (zi 1) 191), (191, tGo 195), (194, tC (zi 0) 195), (195, tRi zPz)]
set_option maxRecDepth 100000 in
set_option maxHeartbeats 4000000 in
theorem hs_L_holds {l : Launch} (hl : l.stackTraces = false) {T0 : ZTf} {T1 : ZTf} {T2 : ZTf} {T3 : ZTf} {T4 : ZTf} {T5 : ZTf} {T6 : ZTf} (h0 : zMet l yX8_property (Cond.code yX8_property cX8_property 2 (Option.some Jvm.ClassFile.FieldType.int) :: zG) rm_X8_property 1 6 T0) (h1 : zMet l yX8_row (Cond.code yX8_row cX8_row 4 (Option.some Jvm.ClassFile.FieldType.int) :: zG) rm_X8_row 2 12 T1) (h2 : zMet l yX8_finishers (Cond.code yX8_finishers cX8_finishers 3 (Option.some Jvm.ClassFile.FieldType.int) :: zG) rm_X8_finishers 1 6 T2) (h3 : zMet l yJ6_bitCount_0f7a4 (Cond.code yJ6_bitCount_0f7a4 cJ6_bitCount_0f7a4 1 (Option.some Jvm.ClassFile.FieldType.int) :: zG) rm_J6_bitCount_0f7a4 0 0 T3) (h4 : zMet l yX8_taking (Cond.code yX8_taking cX8_taking 5 (Option.some Jvm.ClassFile.FieldType.int) :: zG) rm_X8_taking 3 18 T4) (h5 : zMet l yX8_worker (Cond.code yX8_worker cX8_worker 4 (Option.some Jvm.ClassFile.FieldType.int) :: zG) rm_X8_worker 2 12 T5) (h6 : zMet l yX8_left (Cond.code yX8_left cX8_left 3 (Option.some Jvm.ClassFile.FieldType.int) :: zG) rm_X8_left 0 0 T6) (p : Program) (e : Env) (s : State) (m : MethodId) (args : Array Value) (below : List Frame) (meth : Method) (c : Code) (D : va_G) (A : Nat → Prop) (a0 : Nat → Nat) (M0 : ZM) (K : ZRet) (KX : ZEx) (X : zCtx p l rm_L_holds s m args meth c cL_holds RL (Cond.code yL_holds cL_holds 8 (Option.some Jvm.ClassFile.FieldType.boolean) :: zG) 8 (Option.some Jvm.ClassFile.FieldType.boolean) D A a0 M0 1900 11400) (hnm : meth.name = yL_holds.name) (hout : ∀ x ∈ c.exceptionTable.toList, False) : ∀ q ∈ cd_L_holds T0 T1 T2 T3 T4 T5 T6, zSd p l e rm_L_holds s m args below meth c 8 D A a0 M0 K KX 1900 11400 q.1 q.2 :=
    zall_c (zs_iconst X (pc := 0) (by decide) (by decide +kernel)) <|
    zall_c (zs_newarray20 X (pc := 1) (.tail _ gw_1_81) (by decide +kernel)) <|
    zall_c (zs_astore_n X (pc := 3) (q := 1) rfl (by decide) (by decide +kernel)) <|
    zall_c (zs_iconst X (pc := 4) (by decide) (by decide +kernel)) <|
    zall_c (zs_istore_n X (pc := 5) (q := 2) rfl (by decide) (by decide +kernel)) <|
    zall_c (zs_iconst X (pc := 6) (by decide) (by decide +kernel)) <|
    zall_c (zs_istore_n X (pc := 7) (q := 3) rfl (by decide) (by decide +kernel)) <|
    zall_c (zs_iload_n X (pc := 8) (q := 3) rfl (by decide +kernel)) <|
    zall_c (zs_aload_n X (pc := 9) (q := 0) rfl (by decide +kernel)) <|
    zall_c (zs_iconst X (pc := 10) (by decide) (by decide +kernel)) <|
    zall_c (zs_callV X (pc := 11) zc_X8 (fun _ ht => ⟨(zCB ht gw_2_148 gw_1_1 gw_2_145 rfl rfl (by decide +kernel) ⟨Nat.le_of_ble_eq_true rfl, Nat.le_of_ble_eq_true rfl⟩), ht _ (.tail _ gw_2_146), ht _ (.tail _ gw_2_147)⟩) h0 hout (by decide +kernel)) <|
    zall_c (zs_icmp_ge X (pc := 14) (off := 139) (by decide +kernel) (by decide)) <|
    zall_c (zs_aload_n X (pc := 17) (q := 0) rfl (by decide +kernel)) <|
    zall_c (zs_iload_n X (pc := 18) (q := 3) rfl (by decide +kernel)) <|
    zall_c (zs_iconst X (pc := 19) (by decide) (by decide +kernel)) <|
    zall_c (zs_callV X (pc := 20) zc_X8 (fun _ ht => ⟨(zCB ht gw_5_57 gw_1_1 gw_5_54 rfl rfl (by decide +kernel) ⟨Nat.le_of_ble_eq_true rfl, Nat.le_of_ble_eq_true rfl⟩), ht _ (.tail _ gw_5_55), ht _ (.tail _ gw_5_56)⟩) h1 hout (by decide +kernel)) <|
    zall_c (zs_istore X (pc := 23) (by decide) (by decide +kernel)) <|
    zall_c (zs_aload_n X (pc := 25) (q := 1) rfl (by decide +kernel)) <|
    zall_c (zs_iload X (pc := 26) (by decide +kernel)) <|
    zall_c (zs_dup2 X (pc := 28) (by decide +kernel)) <|
    zall_c (zs_iaload20 X (pc := 29) (by decide +kernel)) <|
    zall_c (zs_iconst X (pc := 30) (by decide) (by decide +kernel)) <|
    zall_c (zs_iadd X (pc := 31) (by decide +kernel)) <|
    zall_c (zs_iastore20 X (pc := 32) (by decide +kernel)) <|
    zall_c (zs_iload_n X (pc := 33) (q := 2) rfl (by decide +kernel)) <|
    zall_c (zs_iload X (pc := 34) (by decide +kernel)) <|
    zall_c (zs_iconst X (pc := 36) (by decide) (by decide +kernel)) <|
    zall_c (zs_icmp_ge X (pc := 37) (off := 12) (by decide +kernel) (by decide)) <|
    zall_c (zs_aload_n X (pc := 40) (q := 0) rfl (by decide +kernel)) <|
    zall_c (zs_iload_n X (pc := 41) (q := 3) rfl (by decide +kernel)) <|
    zall_c (zs_iconst X (pc := 42) (by decide) (by decide +kernel)) <|
    zall_c (zs_callV X (pc := 43) zc_X8 (fun _ ht => ⟨(zCB ht gw_5_57 gw_1_1 gw_5_54 rfl rfl (by decide +kernel) ⟨Nat.le_of_ble_eq_true rfl, Nat.le_of_ble_eq_true rfl⟩), ht _ (.tail _ gw_5_55), ht _ (.tail _ gw_5_56)⟩) h1 hout (by decide +kernel)) <|
    zall_c (zs_goto X (pc := 46) (off := 4) (by decide +kernel) (by decide)) <|
    zall_c (zs_iconst X (pc := 49) (by decide) (by decide +kernel)) <|
    zall_c (zs_iadd X (pc := 50) (by decide +kernel)) <|
    zall_c (zs_istore_n X (pc := 51) (q := 2) rfl (by decide) (by decide +kernel)) <|
    zall_c (zs_aload_n X (pc := 52) (q := 0) rfl (by decide +kernel)) <|
    zall_c (zs_iload_n X (pc := 53) (q := 3) rfl (by decide +kernel)) <|
    zall_c (zs_callV X (pc := 54) zc_X8 (fun _ ht => ⟨(zCB ht gw_6_88 gw_1_1 gw_6_85 rfl rfl (by decide +kernel) ⟨Nat.le_of_ble_eq_true rfl, Nat.le_of_ble_eq_true rfl⟩), ht _ (.tail _ gw_6_86), ht _ (.tail _ gw_6_87)⟩) h2 hout (by decide +kernel)) <|
    zall_c (zs_istore X (pc := 57) (by decide) (by decide +kernel)) <|
    zall_c (zs_iload X (pc := 59) (by decide +kernel)) <|
    zall_c (zs_callS0 X (pc := 61) (fun _ ht => ⟨(zCB ht gw_6_132 gw_1_20 gw_6_130 rfl rfl (by decide +kernel) ⟨Nat.le_of_ble_eq_true rfl, Nat.le_of_ble_eq_true rfl⟩), ht _ (.tail _ gw_6_131)⟩) h3 hout (by decide +kernel)) <|
    zall_c (zs_iload X (pc := 64) (by decide +kernel)) <|
    zall_c (zs_iconst X (pc := 66) (by decide) (by decide +kernel)) <|
    zall_c (zs_icmp_ne X (pc := 67) (off := 7) (by decide +kernel) (by decide)) <|
    zall_c (zs_iconst X (pc := 70) (by decide) (by decide +kernel)) <|
    zall_c (zs_goto X (pc := 71) (off := 4) (by decide +kernel) (by decide)) <|
    zall_c (zs_iconst X (pc := 74) (by decide) (by decide +kernel)) <|
    zall_c (zs_icmp_eq X (pc := 75) (off := 5) (by decide +kernel) (by decide)) <|
    zall_c (zs_iconst X (pc := 78) (by decide) (by decide +kernel)) <|
    zall_c (zs_zret X (pc := 79) rfl zR_bool (by decide +kernel)) <|
    zall_c (zs_iconst X (pc := 80) (by decide) (by decide +kernel)) <|
    zall_c (zs_istore X (pc := 81) (by decide) (by decide +kernel)) <|
    zall_c (zs_iload X (pc := 83) (by decide +kernel)) <|
    zall_c (zs_aload_n X (pc := 85) (q := 0) rfl (by decide +kernel)) <|
    zall_c (zs_iload_n X (pc := 86) (q := 3) rfl (by decide +kernel)) <|
    zall_c (zs_iconst X (pc := 87) (by decide) (by decide +kernel)) <|
    zall_c (zs_callV X (pc := 88) zc_X8 (fun _ ht => ⟨(zCB ht gw_5_57 gw_1_1 gw_5_54 rfl rfl (by decide +kernel) ⟨Nat.le_of_ble_eq_true rfl, Nat.le_of_ble_eq_true rfl⟩), ht _ (.tail _ gw_5_55), ht _ (.tail _ gw_5_56)⟩) h1 hout (by decide +kernel)) <|
    zall_c (zs_icmp_ge X (pc := 91) (off := 56) (by decide +kernel) (by decide)) <|
    zall_c (zs_iconst X (pc := 94) (by decide) (by decide +kernel)) <|
    zall_c (zs_istore X (pc := 95) (by decide) (by decide +kernel)) <|
    zall_c (zs_iload X (pc := 97) (by decide +kernel)) <|
    zall_c (zs_iload X (pc := 99) (by decide +kernel)) <|
    zall_c (zs_icmp_ge X (pc := 101) (off := 40) (by decide +kernel) (by decide)) <|
    zall_c (zs_aload_n X (pc := 104) (q := 0) rfl (by decide +kernel)) <|
    zall_c (zs_aload_n X (pc := 105) (q := 0) rfl (by decide +kernel)) <|
    zall_c (zs_iload_n X (pc := 106) (q := 3) rfl (by decide +kernel)) <|
    zall_c (zs_iload X (pc := 107) (by decide +kernel)) <|
    zall_c (zs_iconst X (pc := 109) (by decide) (by decide +kernel)) <|
    zall_c (zs_callV X (pc := 110) zc_X8 (fun _ ht => ⟨(zCB ht gw_5_75 gw_1_1 gw_5_72 rfl rfl (by decide +kernel) ⟨Nat.le_of_ble_eq_true rfl, Nat.le_of_ble_eq_true rfl⟩), ht _ (.tail _ gw_5_73), ht _ (.tail _ gw_5_74)⟩) h4 hout (by decide +kernel)) <|
    zall_c (zs_iconst X (pc := 113) (by decide) (by decide +kernel)) <|
    zall_c (zs_callV X (pc := 114) zc_X8 (fun _ ht => ⟨(zCB ht gw_5_50 gw_1_1 gw_5_47 rfl rfl (by decide +kernel) ⟨Nat.le_of_ble_eq_true rfl, Nat.le_of_ble_eq_true rfl⟩), ht _ (.tail _ gw_5_48), ht _ (.tail _ gw_5_49)⟩) h5 hout (by decide +kernel)) <|
    zall_c (zs_aload_n X (pc := 117) (q := 0) rfl (by decide +kernel)) <|
    zall_c (zs_aload_n X (pc := 118) (q := 0) rfl (by decide +kernel)) <|
    zall_c (zs_iload_n X (pc := 119) (q := 3) rfl (by decide +kernel)) <|
    zall_c (zs_iload X (pc := 120) (by decide +kernel)) <|
    zall_c (zs_iconst X (pc := 122) (by decide) (by decide +kernel)) <|
    zall_c (zs_callV X (pc := 123) zc_X8 (fun _ ht => ⟨(zCB ht gw_5_75 gw_1_1 gw_5_72 rfl rfl (by decide +kernel) ⟨Nat.le_of_ble_eq_true rfl, Nat.le_of_ble_eq_true rfl⟩), ht _ (.tail _ gw_5_73), ht _ (.tail _ gw_5_74)⟩) h4 hout (by decide +kernel)) <|
    zall_c (zs_iconst X (pc := 126) (by decide) (by decide +kernel)) <|
    zall_c (zs_callV X (pc := 127) zc_X8 (fun _ ht => ⟨(zCB ht gw_5_50 gw_1_1 gw_5_47 rfl rfl (by decide +kernel) ⟨Nat.le_of_ble_eq_true rfl, Nat.le_of_ble_eq_true rfl⟩), ht _ (.tail _ gw_5_48), ht _ (.tail _ gw_5_49)⟩) h5 hout (by decide +kernel)) <|
    zall_c (zs_icmp_ne X (pc := 130) (off := 5) (by decide +kernel) (by decide)) <|
    zall_c (zs_iconst X (pc := 133) (by decide) (by decide +kernel)) <|
    zall_c (zs_zret X (pc := 134) rfl zR_bool (by decide +kernel)) <|
    zall_c (zs_iinc X (pc := 135) (by decide) (by decide +kernel)) <|
    zall_c (zs_goto X (pc := 138) (off := (-41)) (by decide +kernel) (by decide)) <|
    zall_c (zs_iinc X (pc := 141) (by decide) (by decide +kernel)) <|
    zall_c (zs_goto X (pc := 144) (off := (-61)) (by decide +kernel) (by decide)) <|
    zall_c (zs_iinc X (pc := 147) (by decide) (by decide +kernel)) <|
    zall_c (zs_goto X (pc := 150) (off := (-142)) (by decide +kernel) (by decide)) <|
    zall_c (zs_iconst X (pc := 153) (by decide) (by decide +kernel)) <|
    zall_c (zs_istore_n X (pc := 154) (q := 3) rfl (by decide) (by decide +kernel)) <|
    zall_c (zs_iload_n X (pc := 155) (q := 3) rfl (by decide +kernel)) <|
    zall_c (zs_iconst X (pc := 156) (by decide) (by decide +kernel)) <|
    zall_c (zs_icmp_ge X (pc := 157) (off := 25) (by decide +kernel) (by decide)) <|
    zall_c (zs_aload_n X (pc := 160) (q := 0) rfl (by decide +kernel)) <|
    zall_c (zs_bipush X (pc := 161) (by decide) (by decide +kernel) (by decide +kernel)) <|
    zall_c (zs_iload_n X (pc := 163) (q := 3) rfl (by decide +kernel)) <|
    zall_c (zs_iadd X (pc := 164) (by decide +kernel)) <|
    zall_c (zs_callV X (pc := 165) zc_X8 (fun _ ht => ⟨(zCB ht gw_2_148 gw_1_1 gw_2_145 rfl rfl (by decide +kernel) ⟨Nat.le_of_ble_eq_true rfl, Nat.le_of_ble_eq_true rfl⟩), ht _ (.tail _ gw_2_146), ht _ (.tail _ gw_2_147)⟩) h0 hout (by decide +kernel)) <|
    zall_c (zs_aload_n X (pc := 168) (q := 1) rfl (by decide +kernel)) <|
    zall_c (zs_iload_n X (pc := 169) (q := 3) rfl (by decide +kernel)) <|
    zall_c (zs_iaload20 X (pc := 170) (by decide +kernel)) <|
    zall_c (zs_icmp_eq X (pc := 171) (off := 5) (by decide +kernel) (by decide)) <|
    zall_c (zs_iconst X (pc := 174) (by decide) (by decide +kernel)) <|
    zall_c (zs_zret X (pc := 175) rfl zR_bool (by decide +kernel)) <|
    zall_c (zs_iinc X (pc := 176) (by decide) (by decide +kernel)) <|
    zall_c (zs_goto X (pc := 179) (off := (-24)) (by decide +kernel) (by decide)) <|
    zall_c (zs_aload_n X (pc := 182) (q := 0) rfl (by decide +kernel)) <|
    zall_c (zs_callV0 X (pc := 183) zc_X8 (fun _ ht => ⟨(zCB ht gw_6_139 gw_1_1 gw_6_136 rfl rfl (by decide +kernel) ⟨Nat.le_of_ble_eq_true rfl, Nat.le_of_ble_eq_true rfl⟩), ht _ (.tail _ gw_6_137), ht _ (.tail _ gw_6_138)⟩) h6 hout (by decide +kernel)) <|
    zall_c (zs_iload_n X (pc := 186) (q := 2) rfl (by decide +kernel)) <|
    zall_c (zs_icmp_ne X (pc := 187) (off := 7) (by decide +kernel) (by decide)) <|
    zall_c (zs_iconst X (pc := 190) (by decide) (by decide +kernel)) <|
    zall_c (zs_goto X (pc := 191) (off := 4) (by decide +kernel) (by decide)) <|
    zall_c (zs_iconst X (pc := 194) (by decide) (by decide +kernel)) <|
    zall_c (zs_zret X (pc := 195) rfl zR_bool (by decide +kernel)) <|
    zall_n
theorem met_L_holds {l : Launch} (hl : l.stackTraces = false) {T0 : ZTf} {T1 : ZTf} {T2 : ZTf} {T3 : ZTf} {T4 : ZTf} {T5 : ZTf} {T6 : ZTf} (h0 : zMet l yX8_property (Cond.code yX8_property cX8_property 2 (Option.some Jvm.ClassFile.FieldType.int) :: zG) rm_X8_property 1 6 T0) (h1 : zMet l yX8_row (Cond.code yX8_row cX8_row 4 (Option.some Jvm.ClassFile.FieldType.int) :: zG) rm_X8_row 2 12 T1) (h2 : zMet l yX8_finishers (Cond.code yX8_finishers cX8_finishers 3 (Option.some Jvm.ClassFile.FieldType.int) :: zG) rm_X8_finishers 1 6 T2) (h3 : zMet l yJ6_bitCount_0f7a4 (Cond.code yJ6_bitCount_0f7a4 cJ6_bitCount_0f7a4 1 (Option.some Jvm.ClassFile.FieldType.int) :: zG) rm_J6_bitCount_0f7a4 0 0 T3) (h4 : zMet l yX8_taking (Cond.code yX8_taking cX8_taking 5 (Option.some Jvm.ClassFile.FieldType.int) :: zG) rm_X8_taking 3 18 T4) (h5 : zMet l yX8_worker (Cond.code yX8_worker cX8_worker 4 (Option.some Jvm.ClassFile.FieldType.int) :: zG) rm_X8_worker 2 12 T5) (h6 : zMet l yX8_left (Cond.code yX8_left cX8_left 3 (Option.some Jvm.ClassFile.FieldType.int) :: zG) rm_X8_left 0 0 T6) {T : ZTf} (bd : zBd (cd_L_holds T0 T1 T2 T3 T4 T5 T6) 8 1900 11400 T) : zMet l yL_holds (Cond.code yL_holds cL_holds 8 (Option.some Jvm.ClassFile.FieldType.boolean) :: zG) rm_L_holds 1900 11400 T := zMet_of hl (by decide +kernel) rfl rfl rfl rfl (hs_L_holds hl h0 h1 h2 h3 h4 h5 h6) bd
theorem gw_6_70 : Cond.code yL_trusts cL_trusts 3 (Option.some (Jvm.ClassFile.FieldType.array Jvm.ClassFile.FieldType.int)) ∈ zG := zGt6 (List.mem_of_getElem? (i := 70) (by rfl)) rfl
theorem gw_6_68 : Cond.methodLink RL 188 yL_trusts ∈ zG := zGt6 (List.mem_of_getElem? (i := 68) (by rfl)) rfl
theorem gw_6_69 : Cond.static yL_trusts ∈ zG := zGt6 (List.mem_of_getElem? (i := 69) (by rfl)) rfl
theorem gw_6_71 : Cond.methodLink RL 192 Lib.Math.abs.name ∈ zG := zGt6 (List.mem_of_getElem? (i := 71) (by rfl)) rfl
theorem gw_6_97 : Cond.code yJ6_numberOfTrailingZeros_0f7a4 cJ6_numberOfTrailingZeros_0f7a4 2 (Option.some Jvm.ClassFile.FieldType.int) ∈ zG := zGt6 (List.mem_of_getElem? (i := 97) (by rfl)) rfl
theorem gw_6_95 : Cond.methodLink RL 212 yJ6_numberOfTrailingZeros_0f7a4 ∈ zG := zGt6 (List.mem_of_getElem? (i := 95) (by rfl)) rfl
theorem gw_6_96 : Cond.static yJ6_numberOfTrailingZeros_0f7a4 ∈ zG := zGt6 (List.mem_of_getElem? (i := 96) (by rfl)) rfl
theorem gw_6_101 : Cond.code yJ6_numberOfLeadingZeros_0f7a4 cJ6_numberOfLeadingZeros_0f7a4 2 (Option.some Jvm.ClassFile.FieldType.int) ∈ zG := zGt6 (List.mem_of_getElem? (i := 101) (by rfl)) rfl
theorem gw_6_99 : Cond.methodLink RL 217 yJ6_numberOfLeadingZeros_0f7a4 ∈ zG := zGt6 (List.mem_of_getElem? (i := 99) (by rfl)) rfl
theorem gw_6_100 : Cond.static yJ6_numberOfLeadingZeros_0f7a4 ∈ zG := zGt6 (List.mem_of_getElem? (i := 100) (by rfl)) rfl
theorem gw_6_105 : Cond.code yX8_strikes cX8_strikes 3 (Option.some Jvm.ClassFile.FieldType.int) ∈ zG := zGt6 (List.mem_of_getElem? (i := 105) (by rfl)) rfl
theorem gw_6_102 : Cond.methodLink RL 137 yX8_strikes ∈ zG := zGt6 (List.mem_of_getElem? (i := 102) (by rfl)) rfl
theorem gw_6_103 : Cond.instanceMethod yX8_strikes ∈ zG := zGt6 (List.mem_of_getElem? (i := 103) (by rfl)) rfl
theorem gw_6_104 : Cond.selects RX8 yX8_strikes yX8_strikes ∈ zG := zGt6 (List.mem_of_getElem? (i := 104) (by rfl)) rfl
theorem gw_6_74 : Cond.code yL_capped cL_capped 1 (Option.some Jvm.ClassFile.FieldType.int) ∈ zG := zGt6 (List.mem_of_getElem? (i := 74) (by rfl)) rfl
theorem gw_6_72 : Cond.methodLink RL 195 yL_capped ∈ zG := zGt6 (List.mem_of_getElem? (i := 72) (by rfl)) rfl
theorem gw_6_73 : Cond.static yL_capped ∈ zG := zGt6 (List.mem_of_getElem? (i := 73) (by rfl)) rfl
theorem gw_6_15 : Cond.methodLink RL 169 yL_audited ∈ zG := zGt6 (List.mem_of_getElem? (i := 15) (by rfl)) rfl
theorem gw_6_16 : Cond.static yL_audited ∈ zG := zGt6 (List.mem_of_getElem? (i := 16) (by rfl)) rfl
theorem gw_6_17 : Cond.codeWith yL_audited cL_audited 4 (Option.some Jvm.ClassFile.FieldType.int) [(0, 14, 15, 113)] ∈ zG := zGt6 (List.mem_of_getElem? (i := 17) (by rfl)) rfl
theorem gw_6_91 : Cond.code yL_are cL_are 3 (Option.some Jvm.ClassFile.FieldType.boolean) ∈ zG := zGt6 (List.mem_of_getElem? (i := 91) (by rfl)) rfl
theorem gw_6_89 : Cond.methodLink RL 208 yL_are ∈ zG := zGt6 (List.mem_of_getElem? (i := 89) (by rfl)) rfl
theorem gw_6_90 : Cond.static yL_are ∈ zG := zGt6 (List.mem_of_getElem? (i := 90) (by rfl)) rfl
abbrev rm_L_audits : Room := { frames := 9, cells := 110, slots := 720, locals := 170 }
def cd_L_audits (T0 : ZTf) (T1 : ZTf) (T2 : ZTf) (T3 : ZTf) (T4 : ZTf) (T5 : ZTf) (T6 : ZTf) (T7 : ZTf) (T8 : ZTf) (T9 : List ZV → ZM → ZRet → Prop) (T10 : ZTf) : List (Nat × ZTr) := [(0, tAld 0 1), (1, tIld 1 2), (2, tC (zi 1) 3), (3, tCall 3 2 12 T0 (zRcv 11) 6), (6, tC (zi 2) 7), (7, tIc_ne 23 10), (10, tAld 0 11), (11, tIld 1 12), (12, tC (zi 3) 13), (13, tCall 3 2 12 T0 (zRcv 11) 16), (16, tIf_ne 23 19), (19, tC (zi 1) 20), (20, tGo 24), (23, tC (zi 0) 24), (24, tIst 3 25), (25, tAld 0 26), (26, tCall 1 20 120 T1 zAny 29), (29, tAst 4 31), (31, tAld 0 32), (32, tIld 1 33), (33, tC (zi 2) 34), (34, tCall 3 2 12 T0 (zRcv 11) 37), (37, tIld 2 38), (38, tSub 39), (39, tMth1 42), (42, tAld 0 43), (43, tC (zi 3) 44), (44, tCall 2 1 6 T2 (zRcv 11) 47), (47, tIc_gt 54 50), (50, tC (zi 1) 51), (51, tGo 55), (54, tC (zi 0) 55), (55, tIst 5 57), (57, tAld 0 58), (58, tIld 1 59), (59, tC (zi 2) 60), (60, tCall 3 2 12 T0 (zRcv 11) 63), (63, tIst 6 65), (65, tAld 0 66), (66, tIld 1 67), (67, tCall 2 1 6 T3 (zRcv 11) 70), (70, tIst 7 72), (72, tIld 7 74), (74, tCall0 1 T4 zAny 77), (77, tC (zi 32) 79), (79, tDiv Int.tmod 80), (80, tIst 8 82), (82, tC (zi 31) 84), (84, tIld 7 86), (86, tC (zi 1) 87), (87, tBif zor 88), (88, tCall0 1 T5 zAny 91), (91, tSub 92), (92, tIst 9 94), (94, tIld 3 95), (95, tIf_eq 109 98), (98, tAld 0 99), (99, tIld 8 101), (101, tIld 9 103), (103, tCall 3 2 12 T6 (zRcv 11) 106), (106, tGo 110), (109, tC (zi 0) 110), (110, tIst 10 112), (112, tC (zi 0) 113), (113, tIst 11 115), (115, tIld 11 117), (117, tAld 0 118), (118, tIld 1 119), (119, tC (zi 4) 120), (120, tCall 3 2 12 T0 (zRcv 11) 123), (123, tIc_ge 187 126), (126, tIld 3 127), (127, tIf_eq 187 130), (130, tAld 0 131), (131, tIld 1 132), (132, tIld 11 134), (134, tC (zi 0) 135), (135, tCall 4 3 18 T7 (zRcv 11) 138), (138, tIst 12 140), (140, tAld 4 142), (142, tIld 12 144), (144, tAld 4 146), (146, tIld 12 148), (148, tIal 20 149), (149, tAld 0 150), (150, tIld 1 151), (151, tIld 11 153), (153, tC (zi 1) 154), (154, tCall 4 3 18 T7 (zRcv 11) 157), (157, tIld 2 158), (158, tSub 159), (159, tMth1 162), (162, tAld 0 163), (163, tC (zi 3) 164), (164, tCall 2 1 6 T2 (zRcv 11) 167), (167, tIc_gt 174 170), (170, tC (zi 2) 171), (171, tGo 176), (174, tC (zi (-4)) 176), (176, tAdd 177), (177, tCall0 1 T8 zAny 180), (180, tIas 20 (fun _ => True) 181), (181, tInc 11 1 184), (184, tGo 115), (187, tAld 0 188), (188, tIld 1 189), (189, tIld 2 190), (190, tCall 3 3 18 (fun av M K _ => T9 av M K) zAny 193), (193, tIld 3 194), (194, tIf_eq 210 197), (197, tIld 5 199), (199, tIf_eq 206 202), (202, tC (zi 1) 203), (203, tGo 212), (206, tC (zi 0) 207), (207, tGo 212), (210, tC (zi (-9)) 212), (212, tIc_eq 217 215), (215, tC (zi 0) 216), (216, tRi zPz), (217, tIld 3 218), (218, tIf_ne 228 221), (221, tAld 0 222), (222, tAld 4 224), (224, tCall 2 12 72 T10 zAny 227), (227, tRi zPz), (228, tAld 0 229), (229, tAld 4 231), (231, tCall 2 12 72 T10 zAny 234), (234, tIf_eq 314 237), (237, tAld 0 238), (238, tIld 1 239), (239, tC (zi 3) 240), (240, tCall 3 2 12 T0 (zRcv 11) 243), (243, tC (zi 1) 244), (244, tIc_ne 314 247), (247, tAld 0 248), (248, tIld 1 249), (249, tC (zi 2) 250), (250, tCall 3 2 12 T0 (zRcv 11) 253), (253, tIld 5 255), (255, tIf_eq 263 258), (258, tIld 6 260), (260, tGo 264), (263, tIld 2 264), (264, tIc_ne 314 267), (267, tAld 0 268), (268, tIld 8 270), (270, tIld 9 272), (272, tCall 3 2 12 T6 (zRcv 11) 275), (275, tIld 10 277), (277, tIld 5 279), (279, tIf_eq 286 282), (282, tC (zi 0) 283), (283, tGo 287), (286, tC (zi 1) 287), (287, tAdd 288), (288, tIc_ne 314 291), (291, tAld 0 292), (292, tIld 9 294), (294, tIld 8 296), (296, tCall 3 2 12 T6 (zRcv 11) 299), (299, tAld 0 300), (300, tIld 8 302), (302, tIld 9 304), (304, tCall 3 2 12 T6 (zRcv 11) 307), (307, tIc_ne 314 310), (310, tC (zi 1) 311), (311, tGo 315), (314, tC (zi 0) 315), (315, tRi zPz)]
set_option maxRecDepth 100000 in
set_option maxHeartbeats 4000000 in
theorem hs_L_audits {l : Launch} (hl : l.stackTraces = false) {T0 : ZTf} {T1 : ZTf} {T2 : ZTf} {T3 : ZTf} {T4 : ZTf} {T5 : ZTf} {T6 : ZTf} {T7 : ZTf} {T8 : ZTf} {T9 : List ZV → ZM → ZRet → Prop} {T10 : ZTf} (h0 : zMet l yX8_row (Cond.code yX8_row cX8_row 4 (Option.some Jvm.ClassFile.FieldType.int) :: zG) rm_X8_row 2 12 T0) (h1 : zMet l yL_trusts (Cond.code yL_trusts cL_trusts 3 (Option.some (Jvm.ClassFile.FieldType.array Jvm.ClassFile.FieldType.int)) :: zG) rm_L_trusts 20 120 T1) (h2 : zMet l yX8_property (Cond.code yX8_property cX8_property 2 (Option.some Jvm.ClassFile.FieldType.int) :: zG) rm_X8_property 1 6 T2) (h3 : zMet l yX8_finishers (Cond.code yX8_finishers cX8_finishers 3 (Option.some Jvm.ClassFile.FieldType.int) :: zG) rm_X8_finishers 1 6 T3) (h4 : zMet l yJ6_numberOfTrailingZeros_0f7a4 (Cond.code yJ6_numberOfTrailingZeros_0f7a4 cJ6_numberOfTrailingZeros_0f7a4 2 (Option.some Jvm.ClassFile.FieldType.int) :: zG) rm_J6_numberOfTrailingZeros_0f7a4 0 0 T4) (h5 : zMet l yJ6_numberOfLeadingZeros_0f7a4 (Cond.code yJ6_numberOfLeadingZeros_0f7a4 cJ6_numberOfLeadingZeros_0f7a4 2 (Option.some Jvm.ClassFile.FieldType.int) :: zG) rm_J6_numberOfLeadingZeros_0f7a4 0 0 T5) (h6 : zMet l yX8_strikes (Cond.code yX8_strikes cX8_strikes 3 (Option.some Jvm.ClassFile.FieldType.int) :: zG) rm_X8_strikes 2 12 T6) (h7 : zMet l yX8_taking (Cond.code yX8_taking cX8_taking 5 (Option.some Jvm.ClassFile.FieldType.int) :: zG) rm_X8_taking 3 18 T7) (h8 : zMet l yL_capped (Cond.code yL_capped cL_capped 1 (Option.some Jvm.ClassFile.FieldType.int) :: zG) rm_L_capped 0 0 T8) (h9 : zMetW l yL_audited (Cond.codeWith yL_audited cL_audited 4 (Option.some Jvm.ClassFile.FieldType.int) [(0, 14, 15, 113)] :: zG) rm_L_audited 3 18 T9) (h10 : zMet l yL_are (Cond.code yL_are cL_are 3 (Option.some Jvm.ClassFile.FieldType.boolean) :: zG) rm_L_are 12 72 T10) (p : Program) (e : Env) (s : State) (m : MethodId) (args : Array Value) (below : List Frame) (meth : Method) (c : Code) (D : va_G) (A : Nat → Prop) (a0 : Nat → Nat) (M0 : ZM) (K : ZRet) (KX : ZEx) (X : zCtx p l rm_L_audits s m args meth c cL_audits RL (Cond.code yL_audits cL_audits 13 (Option.some Jvm.ClassFile.FieldType.boolean) :: zG) 13 (Option.some Jvm.ClassFile.FieldType.boolean) D A a0 M0 110 720) (hnm : meth.name = yL_audits.name) (hout : ∀ x ∈ c.exceptionTable.toList, False) : ∀ q ∈ cd_L_audits T0 T1 T2 T3 T4 T5 T6 T7 T8 T9 T10, zSd p l e rm_L_audits s m args below meth c 13 D A a0 M0 K KX 110 720 q.1 q.2 :=
    zall_c (zs_aload_n X (pc := 0) (q := 0) rfl (by decide +kernel)) <|
    zall_c (zs_iload_n X (pc := 1) (q := 1) rfl (by decide +kernel)) <|
    zall_c (zs_iconst X (pc := 2) (by decide) (by decide +kernel)) <|
    zall_c (zs_callV X (pc := 3) zc_X8 (fun _ ht => ⟨(zCB ht gw_5_57 gw_1_1 gw_5_54 rfl rfl (by decide +kernel) ⟨Nat.le_of_ble_eq_true rfl, Nat.le_of_ble_eq_true rfl⟩), ht _ (.tail _ gw_5_55), ht _ (.tail _ gw_5_56)⟩) h0 hout (by decide +kernel)) <|
    zall_c (zs_iconst X (pc := 6) (by decide) (by decide +kernel)) <|
    zall_c (zs_icmp_ne X (pc := 7) (off := 16) (by decide +kernel) (by decide)) <|
    zall_c (zs_aload_n X (pc := 10) (q := 0) rfl (by decide +kernel)) <|
    zall_c (zs_iload_n X (pc := 11) (q := 1) rfl (by decide +kernel)) <|
    zall_c (zs_iconst X (pc := 12) (by decide) (by decide +kernel)) <|
    zall_c (zs_callV X (pc := 13) zc_X8 (fun _ ht => ⟨(zCB ht gw_5_57 gw_1_1 gw_5_54 rfl rfl (by decide +kernel) ⟨Nat.le_of_ble_eq_true rfl, Nat.le_of_ble_eq_true rfl⟩), ht _ (.tail _ gw_5_55), ht _ (.tail _ gw_5_56)⟩) h0 hout (by decide +kernel)) <|
    zall_c (zs_if_ne X (pc := 16) (off := 7) (by decide +kernel) (by decide)) <|
    zall_c (zs_iconst X (pc := 19) (by decide) (by decide +kernel)) <|
    zall_c (zs_goto X (pc := 20) (off := 4) (by decide +kernel) (by decide)) <|
    zall_c (zs_iconst X (pc := 23) (by decide) (by decide +kernel)) <|
    zall_c (zs_istore_n X (pc := 24) (q := 3) rfl (by decide) (by decide +kernel)) <|
    zall_c (zs_aload_n X (pc := 25) (q := 0) rfl (by decide +kernel)) <|
    zall_c (zs_callS X (pc := 26) (fun _ ht => ⟨(zCB ht gw_6_70 gw_1_0 gw_6_68 rfl rfl (by decide +kernel) ⟨Nat.le_of_ble_eq_true rfl, Nat.le_of_ble_eq_true rfl⟩), ht _ (.tail _ gw_6_69)⟩) h1 hout (by decide +kernel)) <|
    zall_c (zs_astore X (pc := 29) (by decide) (by decide +kernel)) <|
    zall_c (zs_aload_n X (pc := 31) (q := 0) rfl (by decide +kernel)) <|
    zall_c (zs_iload_n X (pc := 32) (q := 1) rfl (by decide +kernel)) <|
    zall_c (zs_iconst X (pc := 33) (by decide) (by decide +kernel)) <|
    zall_c (zs_callV X (pc := 34) zc_X8 (fun _ ht => ⟨(zCB ht gw_5_57 gw_1_1 gw_5_54 rfl rfl (by decide +kernel) ⟨Nat.le_of_ble_eq_true rfl, Nat.le_of_ble_eq_true rfl⟩), ht _ (.tail _ gw_5_55), ht _ (.tail _ gw_5_56)⟩) h0 hout (by decide +kernel)) <|
    zall_c (zs_iload_n X (pc := 37) (q := 2) rfl (by decide +kernel)) <|
    zall_c (zs_isub X (pc := 38) (by decide +kernel)) <|
    zall_c (zs_mabs X (pc := 39) (.tail _ gw_6_71) (.tail _ gw_5_192) (.tail _ gw_1_14) (.tail _ gw_5_193) (Nat.le_of_ble_eq_true rfl) (Nat.le_of_ble_eq_true rfl) (by decide +kernel)) <|
    zall_c (zs_aload_n X (pc := 42) (q := 0) rfl (by decide +kernel)) <|
    zall_c (zs_iconst X (pc := 43) (by decide) (by decide +kernel)) <|
    zall_c (zs_callV X (pc := 44) zc_X8 (fun _ ht => ⟨(zCB ht gw_2_148 gw_1_1 gw_2_145 rfl rfl (by decide +kernel) ⟨Nat.le_of_ble_eq_true rfl, Nat.le_of_ble_eq_true rfl⟩), ht _ (.tail _ gw_2_146), ht _ (.tail _ gw_2_147)⟩) h2 hout (by decide +kernel)) <|
    zall_c (zs_icmp_gt X (pc := 47) (off := 7) (by decide +kernel) (by decide)) <|
    zall_c (zs_iconst X (pc := 50) (by decide) (by decide +kernel)) <|
    zall_c (zs_goto X (pc := 51) (off := 4) (by decide +kernel) (by decide)) <|
    zall_c (zs_iconst X (pc := 54) (by decide) (by decide +kernel)) <|
    zall_c (zs_istore X (pc := 55) (by decide) (by decide +kernel)) <|
    zall_c (zs_aload_n X (pc := 57) (q := 0) rfl (by decide +kernel)) <|
    zall_c (zs_iload_n X (pc := 58) (q := 1) rfl (by decide +kernel)) <|
    zall_c (zs_iconst X (pc := 59) (by decide) (by decide +kernel)) <|
    zall_c (zs_callV X (pc := 60) zc_X8 (fun _ ht => ⟨(zCB ht gw_5_57 gw_1_1 gw_5_54 rfl rfl (by decide +kernel) ⟨Nat.le_of_ble_eq_true rfl, Nat.le_of_ble_eq_true rfl⟩), ht _ (.tail _ gw_5_55), ht _ (.tail _ gw_5_56)⟩) h0 hout (by decide +kernel)) <|
    zall_c (zs_istore X (pc := 63) (by decide) (by decide +kernel)) <|
    zall_c (zs_aload_n X (pc := 65) (q := 0) rfl (by decide +kernel)) <|
    zall_c (zs_iload_n X (pc := 66) (q := 1) rfl (by decide +kernel)) <|
    zall_c (zs_callV X (pc := 67) zc_X8 (fun _ ht => ⟨(zCB ht gw_6_88 gw_1_1 gw_6_85 rfl rfl (by decide +kernel) ⟨Nat.le_of_ble_eq_true rfl, Nat.le_of_ble_eq_true rfl⟩), ht _ (.tail _ gw_6_86), ht _ (.tail _ gw_6_87)⟩) h3 hout (by decide +kernel)) <|
    zall_c (zs_istore X (pc := 70) (by decide) (by decide +kernel)) <|
    zall_c (zs_iload X (pc := 72) (by decide +kernel)) <|
    zall_c (zs_callS0 X (pc := 74) (fun _ ht => ⟨(zCB ht gw_6_97 gw_1_20 gw_6_95 rfl rfl (by decide +kernel) ⟨Nat.le_of_ble_eq_true rfl, Nat.le_of_ble_eq_true rfl⟩), ht _ (.tail _ gw_6_96)⟩) h4 hout (by decide +kernel)) <|
    zall_c (zs_bipush X (pc := 77) (by decide) (by decide +kernel) (by decide +kernel)) <|
    zall_c (zs_irem X (pc := 79) (by decide +kernel)) <|
    zall_c (zs_istore X (pc := 80) (by decide) (by decide +kernel)) <|
    zall_c (zs_bipush X (pc := 82) (by decide) (by decide +kernel) (by decide +kernel)) <|
    zall_c (zs_iload X (pc := 84) (by decide +kernel)) <|
    zall_c (zs_iconst X (pc := 86) (by decide) (by decide +kernel)) <|
    zall_c (zs_ior X (pc := 87) (by decide +kernel)) <|
    zall_c (zs_callS0 X (pc := 88) (fun _ ht => ⟨(zCB ht gw_6_101 gw_1_20 gw_6_99 rfl rfl (by decide +kernel) ⟨Nat.le_of_ble_eq_true rfl, Nat.le_of_ble_eq_true rfl⟩), ht _ (.tail _ gw_6_100)⟩) h5 hout (by decide +kernel)) <|
    zall_c (zs_isub X (pc := 91) (by decide +kernel)) <|
    zall_c (zs_istore X (pc := 92) (by decide) (by decide +kernel)) <|
    zall_c (zs_iload_n X (pc := 94) (q := 3) rfl (by decide +kernel)) <|
    zall_c (zs_if_eq X (pc := 95) (off := 14) (by decide +kernel) (by decide)) <|
    zall_c (zs_aload_n X (pc := 98) (q := 0) rfl (by decide +kernel)) <|
    zall_c (zs_iload X (pc := 99) (by decide +kernel)) <|
    zall_c (zs_iload X (pc := 101) (by decide +kernel)) <|
    zall_c (zs_callV X (pc := 103) zc_X8 (fun _ ht => ⟨(zCB ht gw_6_105 gw_1_1 gw_6_102 rfl rfl (by decide +kernel) ⟨Nat.le_of_ble_eq_true rfl, Nat.le_of_ble_eq_true rfl⟩), ht _ (.tail _ gw_6_103), ht _ (.tail _ gw_6_104)⟩) h6 hout (by decide +kernel)) <|
    zall_c (zs_goto X (pc := 106) (off := 4) (by decide +kernel) (by decide)) <|
    zall_c (zs_iconst X (pc := 109) (by decide) (by decide +kernel)) <|
    zall_c (zs_istore X (pc := 110) (by decide) (by decide +kernel)) <|
    zall_c (zs_iconst X (pc := 112) (by decide) (by decide +kernel)) <|
    zall_c (zs_istore X (pc := 113) (by decide) (by decide +kernel)) <|
    zall_c (zs_iload X (pc := 115) (by decide +kernel)) <|
    zall_c (zs_aload_n X (pc := 117) (q := 0) rfl (by decide +kernel)) <|
    zall_c (zs_iload_n X (pc := 118) (q := 1) rfl (by decide +kernel)) <|
    zall_c (zs_iconst X (pc := 119) (by decide) (by decide +kernel)) <|
    zall_c (zs_callV X (pc := 120) zc_X8 (fun _ ht => ⟨(zCB ht gw_5_57 gw_1_1 gw_5_54 rfl rfl (by decide +kernel) ⟨Nat.le_of_ble_eq_true rfl, Nat.le_of_ble_eq_true rfl⟩), ht _ (.tail _ gw_5_55), ht _ (.tail _ gw_5_56)⟩) h0 hout (by decide +kernel)) <|
    zall_c (zs_icmp_ge X (pc := 123) (off := 64) (by decide +kernel) (by decide)) <|
    zall_c (zs_iload_n X (pc := 126) (q := 3) rfl (by decide +kernel)) <|
    zall_c (zs_if_eq X (pc := 127) (off := 60) (by decide +kernel) (by decide)) <|
    zall_c (zs_aload_n X (pc := 130) (q := 0) rfl (by decide +kernel)) <|
    zall_c (zs_iload_n X (pc := 131) (q := 1) rfl (by decide +kernel)) <|
    zall_c (zs_iload X (pc := 132) (by decide +kernel)) <|
    zall_c (zs_iconst X (pc := 134) (by decide) (by decide +kernel)) <|
    zall_c (zs_callV X (pc := 135) zc_X8 (fun _ ht => ⟨(zCB ht gw_5_75 gw_1_1 gw_5_72 rfl rfl (by decide +kernel) ⟨Nat.le_of_ble_eq_true rfl, Nat.le_of_ble_eq_true rfl⟩), ht _ (.tail _ gw_5_73), ht _ (.tail _ gw_5_74)⟩) h7 hout (by decide +kernel)) <|
    zall_c (zs_istore X (pc := 138) (by decide) (by decide +kernel)) <|
    zall_c (zs_aload X (pc := 140) (by decide +kernel)) <|
    zall_c (zs_iload X (pc := 142) (by decide +kernel)) <|
    zall_c (zs_aload X (pc := 144) (by decide +kernel)) <|
    zall_c (zs_iload X (pc := 146) (by decide +kernel)) <|
    zall_c (zs_iaload20 X (pc := 148) (by decide +kernel)) <|
    zall_c (zs_aload_n X (pc := 149) (q := 0) rfl (by decide +kernel)) <|
    zall_c (zs_iload_n X (pc := 150) (q := 1) rfl (by decide +kernel)) <|
    zall_c (zs_iload X (pc := 151) (by decide +kernel)) <|
    zall_c (zs_iconst X (pc := 153) (by decide) (by decide +kernel)) <|
    zall_c (zs_callV X (pc := 154) zc_X8 (fun _ ht => ⟨(zCB ht gw_5_75 gw_1_1 gw_5_72 rfl rfl (by decide +kernel) ⟨Nat.le_of_ble_eq_true rfl, Nat.le_of_ble_eq_true rfl⟩), ht _ (.tail _ gw_5_73), ht _ (.tail _ gw_5_74)⟩) h7 hout (by decide +kernel)) <|
    zall_c (zs_iload_n X (pc := 157) (q := 2) rfl (by decide +kernel)) <|
    zall_c (zs_isub X (pc := 158) (by decide +kernel)) <|
    zall_c (zs_mabs X (pc := 159) (.tail _ gw_6_71) (.tail _ gw_5_192) (.tail _ gw_1_14) (.tail _ gw_5_193) (Nat.le_of_ble_eq_true rfl) (Nat.le_of_ble_eq_true rfl) (by decide +kernel)) <|
    zall_c (zs_aload_n X (pc := 162) (q := 0) rfl (by decide +kernel)) <|
    zall_c (zs_iconst X (pc := 163) (by decide) (by decide +kernel)) <|
    zall_c (zs_callV X (pc := 164) zc_X8 (fun _ ht => ⟨(zCB ht gw_2_148 gw_1_1 gw_2_145 rfl rfl (by decide +kernel) ⟨Nat.le_of_ble_eq_true rfl, Nat.le_of_ble_eq_true rfl⟩), ht _ (.tail _ gw_2_146), ht _ (.tail _ gw_2_147)⟩) h2 hout (by decide +kernel)) <|
    zall_c (zs_icmp_gt X (pc := 167) (off := 7) (by decide +kernel) (by decide)) <|
    zall_c (zs_iconst X (pc := 170) (by decide) (by decide +kernel)) <|
    zall_c (zs_goto X (pc := 171) (off := 5) (by decide +kernel) (by decide)) <|
    zall_c (zs_bipush X (pc := 174) (by decide) (by decide +kernel) (by decide +kernel)) <|
    zall_c (zs_iadd X (pc := 176) (by decide +kernel)) <|
    zall_c (zs_callS0 X (pc := 177) (fun _ ht => ⟨(zCB ht gw_6_74 gw_1_0 gw_6_72 rfl rfl (by decide +kernel) ⟨Nat.le_of_ble_eq_true rfl, Nat.le_of_ble_eq_true rfl⟩), ht _ (.tail _ gw_6_73)⟩) h8 hout (by decide +kernel)) <|
    zall_c (zs_iastore20 X (pc := 180) (by decide +kernel)) <|
    zall_c (zs_iinc X (pc := 181) (by decide) (by decide +kernel)) <|
    zall_c (zs_goto X (pc := 184) (off := (-69)) (by decide +kernel) (by decide)) <|
    zall_c (zs_aload_n X (pc := 187) (q := 0) rfl (by decide +kernel)) <|
    zall_c (zs_iload_n X (pc := 188) (q := 1) rfl (by decide +kernel)) <|
    zall_c (zs_iload_n X (pc := 189) (q := 2) rfl (by decide +kernel)) <|
    zall_c (zs_callSW X (pc := 190) trivial (fun _ ht => zCSW ht gw_6_17 gw_1_0 gw_6_15 gw_6_16 rfl rfl (by decide +kernel) ⟨Nat.le_of_ble_eq_true rfl, Nat.le_of_ble_eq_true rfl⟩) h9 (by decide +kernel)) <|
    zall_c (zs_iload_n X (pc := 193) (q := 3) rfl (by decide +kernel)) <|
    zall_c (zs_if_eq X (pc := 194) (off := 16) (by decide +kernel) (by decide)) <|
    zall_c (zs_iload X (pc := 197) (by decide +kernel)) <|
    zall_c (zs_if_eq X (pc := 199) (off := 7) (by decide +kernel) (by decide)) <|
    zall_c (zs_iconst X (pc := 202) (by decide) (by decide +kernel)) <|
    zall_c (zs_goto X (pc := 203) (off := 9) (by decide +kernel) (by decide)) <|
    zall_c (zs_iconst X (pc := 206) (by decide) (by decide +kernel)) <|
    zall_c (zs_goto X (pc := 207) (off := 5) (by decide +kernel) (by decide)) <|
    zall_c (zs_bipush X (pc := 210) (by decide) (by decide +kernel) (by decide +kernel)) <|
    zall_c (zs_icmp_eq X (pc := 212) (off := 5) (by decide +kernel) (by decide)) <|
    zall_c (zs_iconst X (pc := 215) (by decide) (by decide +kernel)) <|
    zall_c (zs_zret X (pc := 216) rfl zR_bool (by decide +kernel)) <|
    zall_c (zs_iload_n X (pc := 217) (q := 3) rfl (by decide +kernel)) <|
    zall_c (zs_if_ne X (pc := 218) (off := 10) (by decide +kernel) (by decide)) <|
    zall_c (zs_aload_n X (pc := 221) (q := 0) rfl (by decide +kernel)) <|
    zall_c (zs_aload X (pc := 222) (by decide +kernel)) <|
    zall_c (zs_callS X (pc := 224) (fun _ ht => ⟨(zCB ht gw_6_91 gw_1_0 gw_6_89 rfl rfl (by decide +kernel) ⟨Nat.le_of_ble_eq_true rfl, Nat.le_of_ble_eq_true rfl⟩), ht _ (.tail _ gw_6_90)⟩) h10 hout (by decide +kernel)) <|
    zall_c (zs_zret X (pc := 227) rfl zR_bool (by decide +kernel)) <|
    zall_c (zs_aload_n X (pc := 228) (q := 0) rfl (by decide +kernel)) <|
    zall_c (zs_aload X (pc := 229) (by decide +kernel)) <|
    zall_c (zs_callS X (pc := 231) (fun _ ht => ⟨(zCB ht gw_6_91 gw_1_0 gw_6_89 rfl rfl (by decide +kernel) ⟨Nat.le_of_ble_eq_true rfl, Nat.le_of_ble_eq_true rfl⟩), ht _ (.tail _ gw_6_90)⟩) h10 hout (by decide +kernel)) <|
    zall_c (zs_if_eq X (pc := 234) (off := 80) (by decide +kernel) (by decide)) <|
    zall_c (zs_aload_n X (pc := 237) (q := 0) rfl (by decide +kernel)) <|
    zall_c (zs_iload_n X (pc := 238) (q := 1) rfl (by decide +kernel)) <|
    zall_c (zs_iconst X (pc := 239) (by decide) (by decide +kernel)) <|
    zall_c (zs_callV X (pc := 240) zc_X8 (fun _ ht => ⟨(zCB ht gw_5_57 gw_1_1 gw_5_54 rfl rfl (by decide +kernel) ⟨Nat.le_of_ble_eq_true rfl, Nat.le_of_ble_eq_true rfl⟩), ht _ (.tail _ gw_5_55), ht _ (.tail _ gw_5_56)⟩) h0 hout (by decide +kernel)) <|
    zall_c (zs_iconst X (pc := 243) (by decide) (by decide +kernel)) <|
    zall_c (zs_icmp_ne X (pc := 244) (off := 70) (by decide +kernel) (by decide)) <|
    zall_c (zs_aload_n X (pc := 247) (q := 0) rfl (by decide +kernel)) <|
    zall_c (zs_iload_n X (pc := 248) (q := 1) rfl (by decide +kernel)) <|
    zall_c (zs_iconst X (pc := 249) (by decide) (by decide +kernel)) <|
    zall_c (zs_callV X (pc := 250) zc_X8 (fun _ ht => ⟨(zCB ht gw_5_57 gw_1_1 gw_5_54 rfl rfl (by decide +kernel) ⟨Nat.le_of_ble_eq_true rfl, Nat.le_of_ble_eq_true rfl⟩), ht _ (.tail _ gw_5_55), ht _ (.tail _ gw_5_56)⟩) h0 hout (by decide +kernel)) <|
    zall_c (zs_iload X (pc := 253) (by decide +kernel)) <|
    zall_c (zs_if_eq X (pc := 255) (off := 8) (by decide +kernel) (by decide)) <|
    zall_c (zs_iload X (pc := 258) (by decide +kernel)) <|
    zall_c (zs_goto X (pc := 260) (off := 4) (by decide +kernel) (by decide)) <|
    zall_c (zs_iload_n X (pc := 263) (q := 2) rfl (by decide +kernel)) <|
    zall_c (zs_icmp_ne X (pc := 264) (off := 50) (by decide +kernel) (by decide)) <|
    zall_c (zs_aload_n X (pc := 267) (q := 0) rfl (by decide +kernel)) <|
    zall_c (zs_iload X (pc := 268) (by decide +kernel)) <|
    zall_c (zs_iload X (pc := 270) (by decide +kernel)) <|
    zall_c (zs_callV X (pc := 272) zc_X8 (fun _ ht => ⟨(zCB ht gw_6_105 gw_1_1 gw_6_102 rfl rfl (by decide +kernel) ⟨Nat.le_of_ble_eq_true rfl, Nat.le_of_ble_eq_true rfl⟩), ht _ (.tail _ gw_6_103), ht _ (.tail _ gw_6_104)⟩) h6 hout (by decide +kernel)) <|
    zall_c (zs_iload X (pc := 275) (by decide +kernel)) <|
    zall_c (zs_iload X (pc := 277) (by decide +kernel)) <|
    zall_c (zs_if_eq X (pc := 279) (off := 7) (by decide +kernel) (by decide)) <|
    zall_c (zs_iconst X (pc := 282) (by decide) (by decide +kernel)) <|
    zall_c (zs_goto X (pc := 283) (off := 4) (by decide +kernel) (by decide)) <|
    zall_c (zs_iconst X (pc := 286) (by decide) (by decide +kernel)) <|
    zall_c (zs_iadd X (pc := 287) (by decide +kernel)) <|
    zall_c (zs_icmp_ne X (pc := 288) (off := 26) (by decide +kernel) (by decide)) <|
    zall_c (zs_aload_n X (pc := 291) (q := 0) rfl (by decide +kernel)) <|
    zall_c (zs_iload X (pc := 292) (by decide +kernel)) <|
    zall_c (zs_iload X (pc := 294) (by decide +kernel)) <|
    zall_c (zs_callV X (pc := 296) zc_X8 (fun _ ht => ⟨(zCB ht gw_6_105 gw_1_1 gw_6_102 rfl rfl (by decide +kernel) ⟨Nat.le_of_ble_eq_true rfl, Nat.le_of_ble_eq_true rfl⟩), ht _ (.tail _ gw_6_103), ht _ (.tail _ gw_6_104)⟩) h6 hout (by decide +kernel)) <|
    zall_c (zs_aload_n X (pc := 299) (q := 0) rfl (by decide +kernel)) <|
    zall_c (zs_iload X (pc := 300) (by decide +kernel)) <|
    zall_c (zs_iload X (pc := 302) (by decide +kernel)) <|
    zall_c (zs_callV X (pc := 304) zc_X8 (fun _ ht => ⟨(zCB ht gw_6_105 gw_1_1 gw_6_102 rfl rfl (by decide +kernel) ⟨Nat.le_of_ble_eq_true rfl, Nat.le_of_ble_eq_true rfl⟩), ht _ (.tail _ gw_6_103), ht _ (.tail _ gw_6_104)⟩) h6 hout (by decide +kernel)) <|
    zall_c (zs_icmp_ne X (pc := 307) (off := 7) (by decide +kernel) (by decide)) <|
    zall_c (zs_iconst X (pc := 310) (by decide) (by decide +kernel)) <|
    zall_c (zs_goto X (pc := 311) (off := 4) (by decide +kernel) (by decide)) <|
    zall_c (zs_iconst X (pc := 314) (by decide) (by decide +kernel)) <|
    zall_c (zs_zret X (pc := 315) rfl zR_bool (by decide +kernel)) <|
    zall_n
theorem met_L_audits {l : Launch} (hl : l.stackTraces = false) {T0 : ZTf} {T1 : ZTf} {T2 : ZTf} {T3 : ZTf} {T4 : ZTf} {T5 : ZTf} {T6 : ZTf} {T7 : ZTf} {T8 : ZTf} {T9 : List ZV → ZM → ZRet → Prop} {T10 : ZTf} (h0 : zMet l yX8_row (Cond.code yX8_row cX8_row 4 (Option.some Jvm.ClassFile.FieldType.int) :: zG) rm_X8_row 2 12 T0) (h1 : zMet l yL_trusts (Cond.code yL_trusts cL_trusts 3 (Option.some (Jvm.ClassFile.FieldType.array Jvm.ClassFile.FieldType.int)) :: zG) rm_L_trusts 20 120 T1) (h2 : zMet l yX8_property (Cond.code yX8_property cX8_property 2 (Option.some Jvm.ClassFile.FieldType.int) :: zG) rm_X8_property 1 6 T2) (h3 : zMet l yX8_finishers (Cond.code yX8_finishers cX8_finishers 3 (Option.some Jvm.ClassFile.FieldType.int) :: zG) rm_X8_finishers 1 6 T3) (h4 : zMet l yJ6_numberOfTrailingZeros_0f7a4 (Cond.code yJ6_numberOfTrailingZeros_0f7a4 cJ6_numberOfTrailingZeros_0f7a4 2 (Option.some Jvm.ClassFile.FieldType.int) :: zG) rm_J6_numberOfTrailingZeros_0f7a4 0 0 T4) (h5 : zMet l yJ6_numberOfLeadingZeros_0f7a4 (Cond.code yJ6_numberOfLeadingZeros_0f7a4 cJ6_numberOfLeadingZeros_0f7a4 2 (Option.some Jvm.ClassFile.FieldType.int) :: zG) rm_J6_numberOfLeadingZeros_0f7a4 0 0 T5) (h6 : zMet l yX8_strikes (Cond.code yX8_strikes cX8_strikes 3 (Option.some Jvm.ClassFile.FieldType.int) :: zG) rm_X8_strikes 2 12 T6) (h7 : zMet l yX8_taking (Cond.code yX8_taking cX8_taking 5 (Option.some Jvm.ClassFile.FieldType.int) :: zG) rm_X8_taking 3 18 T7) (h8 : zMet l yL_capped (Cond.code yL_capped cL_capped 1 (Option.some Jvm.ClassFile.FieldType.int) :: zG) rm_L_capped 0 0 T8) (h9 : zMetW l yL_audited (Cond.codeWith yL_audited cL_audited 4 (Option.some Jvm.ClassFile.FieldType.int) [(0, 14, 15, 113)] :: zG) rm_L_audited 3 18 T9) (h10 : zMet l yL_are (Cond.code yL_are cL_are 3 (Option.some Jvm.ClassFile.FieldType.boolean) :: zG) rm_L_are 12 72 T10) {T : ZTf} (bd : zBd (cd_L_audits T0 T1 T2 T3 T4 T5 T6 T7 T8 T9 T10) 13 110 720 T) : zMet l yL_audits (Cond.code yL_audits cL_audits 13 (Option.some Jvm.ClassFile.FieldType.boolean) :: zG) rm_L_audits 110 720 T := zMet_of hl (by decide +kernel) rfl rfl rfl rfl (hs_L_audits hl h0 h1 h2 h3 h4 h5 h6 h7 h8 h9 h10) bd
theorem gw_6_113 : Cond.code yX8_lateIn cX8_lateIn 4 (Option.some Jvm.ClassFile.FieldType.int) ∈ zG := zGt6 (List.mem_of_getElem? (i := 113) (by rfl)) rfl
theorem gw_6_110 : Cond.methodLink RL 220 yX8_lateIn ∈ zG := zGt6 (List.mem_of_getElem? (i := 110) (by rfl)) rfl
theorem gw_6_111 : Cond.instanceMethod yX8_lateIn ∈ zG := zGt6 (List.mem_of_getElem? (i := 111) (by rfl)) rfl
theorem gw_6_112 : Cond.selects RX8 yX8_lateIn yX8_lateIn ∈ zG := zGt6 (List.mem_of_getElem? (i := 112) (by rfl)) rfl
theorem gw_5_232 : Cond.code yX8_pass cX8_pass 2 (Option.some Jvm.ClassFile.FieldType.int) ∈ zG := zGt5 (List.mem_of_getElem? (i := 232) (by rfl)) rfl
theorem gw_5_229 : Cond.methodLink RL 166 yX8_pass ∈ zG := zGt5 (List.mem_of_getElem? (i := 229) (by rfl)) rfl
theorem gw_5_230 : Cond.instanceMethod yX8_pass ∈ zG := zGt5 (List.mem_of_getElem? (i := 230) (by rfl)) rfl
theorem gw_5_231 : Cond.selects RX8 yX8_pass yX8_pass ∈ zG := zGt5 (List.mem_of_getElem? (i := 231) (by rfl)) rfl
theorem gw_6_122 : Cond.code yX8_nextDue cX8_nextDue 4 (Option.some Jvm.ClassFile.FieldType.int) ∈ zG := zGt6 (List.mem_of_getElem? (i := 122) (by rfl)) rfl
theorem gw_6_119 : Cond.methodLink RL 223 yX8_nextDue ∈ zG := zGt6 (List.mem_of_getElem? (i := 119) (by rfl)) rfl
theorem gw_6_120 : Cond.instanceMethod yX8_nextDue ∈ zG := zGt6 (List.mem_of_getElem? (i := 120) (by rfl)) rfl
theorem gw_6_121 : Cond.selects RX8 yX8_nextDue yX8_nextDue ∈ zG := zGt6 (List.mem_of_getElem? (i := 121) (by rfl)) rfl
abbrev rm_L_passes : Room := { frames := 9, cells := 1400, slots := 8600, locals := 163 }
def cd_L_passes (T0 : ZTf) (T1 : ZTf) (T2 : ZTf) (T3 : ZTf) (T4 : ZTf) (T5 : ZTf) (T6 : ZTf) (T7 : ZTf) (T8 : ZTf) : List (Nat × ZTr) := [(0, tAld 0 1), (1, tCall 1 20 120 T0 zAny 4), (4, tAst 2 5), (5, tC (zi 0) 6), (6, tIst 3 7), (7, tAld 0 8), (8, tC (zi 2) 9), (9, tCall 2 1 6 T1 (zRcv 11) 12), (12, tIld 1 13), (13, tAdd 14), (14, tIst 4 16), (16, tC (zi 0) 17), (17, tIst 5 19), (19, tIld 5 21), (21, tAld 0 22), (22, tC (zi 1) 23), (23, tCall 2 1 6 T1 (zRcv 11) 26), (26, tIc_ge 112 29), (29, tC (zi 0) 30), (30, tIst 6 32), (32, tIld 6 34), (34, tAld 0 35), (35, tIld 5 37), (37, tC (zi 4) 38), (38, tCall 3 2 12 T2 (zRcv 11) 41), (41, tIc_ge 106 44), (44, tAld 0 45), (45, tIld 5 47), (47, tIld 6 49), (49, tC (zi 2) 50), (50, tCall 4 3 18 T3 (zRcv 11) 53), (53, tIst 7 55), (55, tIld 7 57), (57, tIf_lt 100 60), (60, tIld 7 62), (62, tIld 4 64), (64, tIc_lt 70 67), (67, tGo 100), (70, tInc 3 1 73), (73, tAld 2 74), (74, tAld 0 75), (75, tIld 5 77), (77, tIld 6 79), (79, tC (zi 0) 80), (80, tCall 4 3 18 T3 (zRcv 11) 83), (83, tAld 2 84), (84, tAld 0 85), (85, tIld 5 87), (87, tIld 6 89), (89, tC (zi 0) 90), (90, tCall 4 3 18 T3 (zRcv 11) 93), (93, tIal 20 94), (94, tC (zi 1) 95), (95, tSub 96), (96, tCall0 1 T4 zAny 99), (99, tIas 20 (fun _ => True) 100), (100, tInc 6 1 103), (103, tGo 32), (106, tInc 5 1 109), (109, tGo 19), (112, tAld 0 113), (113, tIld 1 114), (114, tCall 2 1 6 T5 (zRcv 11) 117), (117, tIld 3 118), (118, tIc_ne 148 121), (121, tAld 0 122), (122, tIld 1 123), (123, tCall 2 1 6 T6 (zRcv 11) 126), (126, tIld 3 127), (127, tIc_ne 148 130), (130, tAld 0 131), (131, tC (zi 2) 132), (132, tCall 2 1 6 T1 (zRcv 11) 135), (135, tIld 4 137), (137, tIc_ne 148 140), (140, tAld 0 141), (141, tAld 2 142), (142, tCall 2 12 72 T7 zAny 145), (145, tIf_ne 150 148), (148, tC (zi 0) 149), (149, tRi zPz), (150, tC (zi (-1)) 151), (151, tIst 5 153), (153, tC (zi 0) 154), (154, tIst 6 156), (156, tIld 6 158), (158, tAld 0 159), (159, tC (zi 1) 160), (160, tCall 2 1 6 T1 (zRcv 11) 163), (163, tIc_ge 244 166), (166, tC (zi 0) 167), (167, tIst 7 169), (169, tIld 7 171), (171, tAld 0 172), (172, tIld 6 174), (174, tC (zi 4) 175), (175, tCall 3 2 12 T2 (zRcv 11) 178), (178, tIc_ge 238 181), (181, tAld 0 182), (182, tIld 6 184), (184, tIld 7 186), (186, tC (zi 2) 187), (187, tCall 4 3 18 T3 (zRcv 11) 190), (190, tIst 8 192), (192, tIld 8 194), (194, tIf_lt 206 197), (197, tIld 8 199), (199, tIld 4 201), (201, tIc_ge 206 204), (204, tC (zi 0) 205), (205, tRi zPz), (206, tIld 8 208), (208, tIf_lt 228 211), (211, tIld 5 213), (213, tIf_lt 223 216), (216, tIld 8 218), (218, tIld 5 220), (220, tIc_ge 228 223), (223, tIld 8 225), (225, tGo 230), (228, tIld 5 230), (230, tIst 5 232), (232, tInc 7 1 235), (235, tGo 169), (238, tInc 6 1 241), (241, tGo 156), (244, tAld 0 245), (245, tCall0 1 T8 (zRcv 11) 248), (248, tIld 5 250), (250, tIc_ne 265 253), (253, tAld 0 254), (254, tC (zi 0) 255), (255, tCall 2 1 6 T5 (zRcv 11) 258), (258, tIf_ne 265 261), (261, tC (zi 1) 262), (262, tGo 266), (265, tC (zi 0) 266), (266, tRi zPz)]
set_option maxRecDepth 100000 in
set_option maxHeartbeats 4000000 in
theorem hs_L_passes {l : Launch} (hl : l.stackTraces = false) {T0 : ZTf} {T1 : ZTf} {T2 : ZTf} {T3 : ZTf} {T4 : ZTf} {T5 : ZTf} {T6 : ZTf} {T7 : ZTf} {T8 : ZTf} (h0 : zMet l yL_trusts (Cond.code yL_trusts cL_trusts 3 (Option.some (Jvm.ClassFile.FieldType.array Jvm.ClassFile.FieldType.int)) :: zG) rm_L_trusts 20 120 T0) (h1 : zMet l yX8_property (Cond.code yX8_property cX8_property 2 (Option.some Jvm.ClassFile.FieldType.int) :: zG) rm_X8_property 1 6 T1) (h2 : zMet l yX8_row (Cond.code yX8_row cX8_row 4 (Option.some Jvm.ClassFile.FieldType.int) :: zG) rm_X8_row 2 12 T2) (h3 : zMet l yX8_taking (Cond.code yX8_taking cX8_taking 5 (Option.some Jvm.ClassFile.FieldType.int) :: zG) rm_X8_taking 3 18 T3) (h4 : zMet l yL_capped (Cond.code yL_capped cL_capped 1 (Option.some Jvm.ClassFile.FieldType.int) :: zG) rm_L_capped 0 0 T4) (h5 : zMet l yX8_lateIn (Cond.code yX8_lateIn cX8_lateIn 4 (Option.some Jvm.ClassFile.FieldType.int) :: zG) rm_X8_lateIn 1 6 T5) (h6 : zMet l yX8_pass (Cond.code yX8_pass cX8_pass 2 (Option.some Jvm.ClassFile.FieldType.int) :: zG) rm_X8_pass 1 6 T6) (h7 : zMet l yL_are (Cond.code yL_are cL_are 3 (Option.some Jvm.ClassFile.FieldType.boolean) :: zG) rm_L_are 12 72 T7) (h8 : zMet l yX8_nextDue (Cond.code yX8_nextDue cX8_nextDue 4 (Option.some Jvm.ClassFile.FieldType.int) :: zG) rm_X8_nextDue 0 0 T8) (p : Program) (e : Env) (s : State) (m : MethodId) (args : Array Value) (below : List Frame) (meth : Method) (c : Code) (D : va_G) (A : Nat → Prop) (a0 : Nat → Nat) (M0 : ZM) (K : ZRet) (KX : ZEx) (X : zCtx p l rm_L_passes s m args meth c cL_passes RL (Cond.code yL_passes cL_passes 9 (Option.some Jvm.ClassFile.FieldType.boolean) :: zG) 9 (Option.some Jvm.ClassFile.FieldType.boolean) D A a0 M0 1400 8600) (hnm : meth.name = yL_passes.name) (hout : ∀ x ∈ c.exceptionTable.toList, False) : ∀ q ∈ cd_L_passes T0 T1 T2 T3 T4 T5 T6 T7 T8, zSd p l e rm_L_passes s m args below meth c 9 D A a0 M0 K KX 1400 8600 q.1 q.2 :=
    zall_c (zs_aload_n X (pc := 0) (q := 0) rfl (by decide +kernel)) <|
    zall_c (zs_callS X (pc := 1) (fun _ ht => ⟨(zCB ht gw_6_70 gw_1_0 gw_6_68 rfl rfl (by decide +kernel) ⟨Nat.le_of_ble_eq_true rfl, Nat.le_of_ble_eq_true rfl⟩), ht _ (.tail _ gw_6_69)⟩) h0 hout (by decide +kernel)) <|
    zall_c (zs_astore_n X (pc := 4) (q := 2) rfl (by decide) (by decide +kernel)) <|
    zall_c (zs_iconst X (pc := 5) (by decide) (by decide +kernel)) <|
    zall_c (zs_istore_n X (pc := 6) (q := 3) rfl (by decide) (by decide +kernel)) <|
    zall_c (zs_aload_n X (pc := 7) (q := 0) rfl (by decide +kernel)) <|
    zall_c (zs_iconst X (pc := 8) (by decide) (by decide +kernel)) <|
    zall_c (zs_callV X (pc := 9) zc_X8 (fun _ ht => ⟨(zCB ht gw_2_148 gw_1_1 gw_2_145 rfl rfl (by decide +kernel) ⟨Nat.le_of_ble_eq_true rfl, Nat.le_of_ble_eq_true rfl⟩), ht _ (.tail _ gw_2_146), ht _ (.tail _ gw_2_147)⟩) h1 hout (by decide +kernel)) <|
    zall_c (zs_iload_n X (pc := 12) (q := 1) rfl (by decide +kernel)) <|
    zall_c (zs_iadd X (pc := 13) (by decide +kernel)) <|
    zall_c (zs_istore X (pc := 14) (by decide) (by decide +kernel)) <|
    zall_c (zs_iconst X (pc := 16) (by decide) (by decide +kernel)) <|
    zall_c (zs_istore X (pc := 17) (by decide) (by decide +kernel)) <|
    zall_c (zs_iload X (pc := 19) (by decide +kernel)) <|
    zall_c (zs_aload_n X (pc := 21) (q := 0) rfl (by decide +kernel)) <|
    zall_c (zs_iconst X (pc := 22) (by decide) (by decide +kernel)) <|
    zall_c (zs_callV X (pc := 23) zc_X8 (fun _ ht => ⟨(zCB ht gw_2_148 gw_1_1 gw_2_145 rfl rfl (by decide +kernel) ⟨Nat.le_of_ble_eq_true rfl, Nat.le_of_ble_eq_true rfl⟩), ht _ (.tail _ gw_2_146), ht _ (.tail _ gw_2_147)⟩) h1 hout (by decide +kernel)) <|
    zall_c (zs_icmp_ge X (pc := 26) (off := 86) (by decide +kernel) (by decide)) <|
    zall_c (zs_iconst X (pc := 29) (by decide) (by decide +kernel)) <|
    zall_c (zs_istore X (pc := 30) (by decide) (by decide +kernel)) <|
    zall_c (zs_iload X (pc := 32) (by decide +kernel)) <|
    zall_c (zs_aload_n X (pc := 34) (q := 0) rfl (by decide +kernel)) <|
    zall_c (zs_iload X (pc := 35) (by decide +kernel)) <|
    zall_c (zs_iconst X (pc := 37) (by decide) (by decide +kernel)) <|
    zall_c (zs_callV X (pc := 38) zc_X8 (fun _ ht => ⟨(zCB ht gw_5_57 gw_1_1 gw_5_54 rfl rfl (by decide +kernel) ⟨Nat.le_of_ble_eq_true rfl, Nat.le_of_ble_eq_true rfl⟩), ht _ (.tail _ gw_5_55), ht _ (.tail _ gw_5_56)⟩) h2 hout (by decide +kernel)) <|
    zall_c (zs_icmp_ge X (pc := 41) (off := 65) (by decide +kernel) (by decide)) <|
    zall_c (zs_aload_n X (pc := 44) (q := 0) rfl (by decide +kernel)) <|
    zall_c (zs_iload X (pc := 45) (by decide +kernel)) <|
    zall_c (zs_iload X (pc := 47) (by decide +kernel)) <|
    zall_c (zs_iconst X (pc := 49) (by decide) (by decide +kernel)) <|
    zall_c (zs_callV X (pc := 50) zc_X8 (fun _ ht => ⟨(zCB ht gw_5_75 gw_1_1 gw_5_72 rfl rfl (by decide +kernel) ⟨Nat.le_of_ble_eq_true rfl, Nat.le_of_ble_eq_true rfl⟩), ht _ (.tail _ gw_5_73), ht _ (.tail _ gw_5_74)⟩) h3 hout (by decide +kernel)) <|
    zall_c (zs_istore X (pc := 53) (by decide) (by decide +kernel)) <|
    zall_c (zs_iload X (pc := 55) (by decide +kernel)) <|
    zall_c (zs_if_lt X (pc := 57) (off := 43) (by decide +kernel) (by decide)) <|
    zall_c (zs_iload X (pc := 60) (by decide +kernel)) <|
    zall_c (zs_iload X (pc := 62) (by decide +kernel)) <|
    zall_c (zs_icmp_lt X (pc := 64) (off := 6) (by decide +kernel) (by decide)) <|
    zall_c (zs_goto X (pc := 67) (off := 33) (by decide +kernel) (by decide)) <|
    zall_c (zs_iinc X (pc := 70) (by decide) (by decide +kernel)) <|
    zall_c (zs_aload_n X (pc := 73) (q := 2) rfl (by decide +kernel)) <|
    zall_c (zs_aload_n X (pc := 74) (q := 0) rfl (by decide +kernel)) <|
    zall_c (zs_iload X (pc := 75) (by decide +kernel)) <|
    zall_c (zs_iload X (pc := 77) (by decide +kernel)) <|
    zall_c (zs_iconst X (pc := 79) (by decide) (by decide +kernel)) <|
    zall_c (zs_callV X (pc := 80) zc_X8 (fun _ ht => ⟨(zCB ht gw_5_75 gw_1_1 gw_5_72 rfl rfl (by decide +kernel) ⟨Nat.le_of_ble_eq_true rfl, Nat.le_of_ble_eq_true rfl⟩), ht _ (.tail _ gw_5_73), ht _ (.tail _ gw_5_74)⟩) h3 hout (by decide +kernel)) <|
    zall_c (zs_aload_n X (pc := 83) (q := 2) rfl (by decide +kernel)) <|
    zall_c (zs_aload_n X (pc := 84) (q := 0) rfl (by decide +kernel)) <|
    zall_c (zs_iload X (pc := 85) (by decide +kernel)) <|
    zall_c (zs_iload X (pc := 87) (by decide +kernel)) <|
    zall_c (zs_iconst X (pc := 89) (by decide) (by decide +kernel)) <|
    zall_c (zs_callV X (pc := 90) zc_X8 (fun _ ht => ⟨(zCB ht gw_5_75 gw_1_1 gw_5_72 rfl rfl (by decide +kernel) ⟨Nat.le_of_ble_eq_true rfl, Nat.le_of_ble_eq_true rfl⟩), ht _ (.tail _ gw_5_73), ht _ (.tail _ gw_5_74)⟩) h3 hout (by decide +kernel)) <|
    zall_c (zs_iaload20 X (pc := 93) (by decide +kernel)) <|
    zall_c (zs_iconst X (pc := 94) (by decide) (by decide +kernel)) <|
    zall_c (zs_isub X (pc := 95) (by decide +kernel)) <|
    zall_c (zs_callS0 X (pc := 96) (fun _ ht => ⟨(zCB ht gw_6_74 gw_1_0 gw_6_72 rfl rfl (by decide +kernel) ⟨Nat.le_of_ble_eq_true rfl, Nat.le_of_ble_eq_true rfl⟩), ht _ (.tail _ gw_6_73)⟩) h4 hout (by decide +kernel)) <|
    zall_c (zs_iastore20 X (pc := 99) (by decide +kernel)) <|
    zall_c (zs_iinc X (pc := 100) (by decide) (by decide +kernel)) <|
    zall_c (zs_goto X (pc := 103) (off := (-71)) (by decide +kernel) (by decide)) <|
    zall_c (zs_iinc X (pc := 106) (by decide) (by decide +kernel)) <|
    zall_c (zs_goto X (pc := 109) (off := (-90)) (by decide +kernel) (by decide)) <|
    zall_c (zs_aload_n X (pc := 112) (q := 0) rfl (by decide +kernel)) <|
    zall_c (zs_iload_n X (pc := 113) (q := 1) rfl (by decide +kernel)) <|
    zall_c (zs_callV X (pc := 114) zc_X8 (fun _ ht => ⟨(zCB ht gw_6_113 gw_1_1 gw_6_110 rfl rfl (by decide +kernel) ⟨Nat.le_of_ble_eq_true rfl, Nat.le_of_ble_eq_true rfl⟩), ht _ (.tail _ gw_6_111), ht _ (.tail _ gw_6_112)⟩) h5 hout (by decide +kernel)) <|
    zall_c (zs_iload_n X (pc := 117) (q := 3) rfl (by decide +kernel)) <|
    zall_c (zs_icmp_ne X (pc := 118) (off := 30) (by decide +kernel) (by decide)) <|
    zall_c (zs_aload_n X (pc := 121) (q := 0) rfl (by decide +kernel)) <|
    zall_c (zs_iload_n X (pc := 122) (q := 1) rfl (by decide +kernel)) <|
    zall_c (zs_callV X (pc := 123) zc_X8 (fun _ ht => ⟨(zCB ht gw_5_232 gw_1_1 gw_5_229 rfl rfl (by decide +kernel) ⟨Nat.le_of_ble_eq_true rfl, Nat.le_of_ble_eq_true rfl⟩), ht _ (.tail _ gw_5_230), ht _ (.tail _ gw_5_231)⟩) h6 hout (by decide +kernel)) <|
    zall_c (zs_iload_n X (pc := 126) (q := 3) rfl (by decide +kernel)) <|
    zall_c (zs_icmp_ne X (pc := 127) (off := 21) (by decide +kernel) (by decide)) <|
    zall_c (zs_aload_n X (pc := 130) (q := 0) rfl (by decide +kernel)) <|
    zall_c (zs_iconst X (pc := 131) (by decide) (by decide +kernel)) <|
    zall_c (zs_callV X (pc := 132) zc_X8 (fun _ ht => ⟨(zCB ht gw_2_148 gw_1_1 gw_2_145 rfl rfl (by decide +kernel) ⟨Nat.le_of_ble_eq_true rfl, Nat.le_of_ble_eq_true rfl⟩), ht _ (.tail _ gw_2_146), ht _ (.tail _ gw_2_147)⟩) h1 hout (by decide +kernel)) <|
    zall_c (zs_iload X (pc := 135) (by decide +kernel)) <|
    zall_c (zs_icmp_ne X (pc := 137) (off := 11) (by decide +kernel) (by decide)) <|
    zall_c (zs_aload_n X (pc := 140) (q := 0) rfl (by decide +kernel)) <|
    zall_c (zs_aload_n X (pc := 141) (q := 2) rfl (by decide +kernel)) <|
    zall_c (zs_callS X (pc := 142) (fun _ ht => ⟨(zCB ht gw_6_91 gw_1_0 gw_6_89 rfl rfl (by decide +kernel) ⟨Nat.le_of_ble_eq_true rfl, Nat.le_of_ble_eq_true rfl⟩), ht _ (.tail _ gw_6_90)⟩) h7 hout (by decide +kernel)) <|
    zall_c (zs_if_ne X (pc := 145) (off := 5) (by decide +kernel) (by decide)) <|
    zall_c (zs_iconst X (pc := 148) (by decide) (by decide +kernel)) <|
    zall_c (zs_zret X (pc := 149) rfl zR_bool (by decide +kernel)) <|
    zall_c (zs_iconst X (pc := 150) (by decide) (by decide +kernel)) <|
    zall_c (zs_istore X (pc := 151) (by decide) (by decide +kernel)) <|
    zall_c (zs_iconst X (pc := 153) (by decide) (by decide +kernel)) <|
    zall_c (zs_istore X (pc := 154) (by decide) (by decide +kernel)) <|
    zall_c (zs_iload X (pc := 156) (by decide +kernel)) <|
    zall_c (zs_aload_n X (pc := 158) (q := 0) rfl (by decide +kernel)) <|
    zall_c (zs_iconst X (pc := 159) (by decide) (by decide +kernel)) <|
    zall_c (zs_callV X (pc := 160) zc_X8 (fun _ ht => ⟨(zCB ht gw_2_148 gw_1_1 gw_2_145 rfl rfl (by decide +kernel) ⟨Nat.le_of_ble_eq_true rfl, Nat.le_of_ble_eq_true rfl⟩), ht _ (.tail _ gw_2_146), ht _ (.tail _ gw_2_147)⟩) h1 hout (by decide +kernel)) <|
    zall_c (zs_icmp_ge X (pc := 163) (off := 81) (by decide +kernel) (by decide)) <|
    zall_c (zs_iconst X (pc := 166) (by decide) (by decide +kernel)) <|
    zall_c (zs_istore X (pc := 167) (by decide) (by decide +kernel)) <|
    zall_c (zs_iload X (pc := 169) (by decide +kernel)) <|
    zall_c (zs_aload_n X (pc := 171) (q := 0) rfl (by decide +kernel)) <|
    zall_c (zs_iload X (pc := 172) (by decide +kernel)) <|
    zall_c (zs_iconst X (pc := 174) (by decide) (by decide +kernel)) <|
    zall_c (zs_callV X (pc := 175) zc_X8 (fun _ ht => ⟨(zCB ht gw_5_57 gw_1_1 gw_5_54 rfl rfl (by decide +kernel) ⟨Nat.le_of_ble_eq_true rfl, Nat.le_of_ble_eq_true rfl⟩), ht _ (.tail _ gw_5_55), ht _ (.tail _ gw_5_56)⟩) h2 hout (by decide +kernel)) <|
    zall_c (zs_icmp_ge X (pc := 178) (off := 60) (by decide +kernel) (by decide)) <|
    zall_c (zs_aload_n X (pc := 181) (q := 0) rfl (by decide +kernel)) <|
    zall_c (zs_iload X (pc := 182) (by decide +kernel)) <|
    zall_c (zs_iload X (pc := 184) (by decide +kernel)) <|
    zall_c (zs_iconst X (pc := 186) (by decide) (by decide +kernel)) <|
    zall_c (zs_callV X (pc := 187) zc_X8 (fun _ ht => ⟨(zCB ht gw_5_75 gw_1_1 gw_5_72 rfl rfl (by decide +kernel) ⟨Nat.le_of_ble_eq_true rfl, Nat.le_of_ble_eq_true rfl⟩), ht _ (.tail _ gw_5_73), ht _ (.tail _ gw_5_74)⟩) h3 hout (by decide +kernel)) <|
    zall_c (zs_istore X (pc := 190) (by decide) (by decide +kernel)) <|
    zall_c (zs_iload X (pc := 192) (by decide +kernel)) <|
    zall_c (zs_if_lt X (pc := 194) (off := 12) (by decide +kernel) (by decide)) <|
    zall_c (zs_iload X (pc := 197) (by decide +kernel)) <|
    zall_c (zs_iload X (pc := 199) (by decide +kernel)) <|
    zall_c (zs_icmp_ge X (pc := 201) (off := 5) (by decide +kernel) (by decide)) <|
    zall_c (zs_iconst X (pc := 204) (by decide) (by decide +kernel)) <|
    zall_c (zs_zret X (pc := 205) rfl zR_bool (by decide +kernel)) <|
    zall_c (zs_iload X (pc := 206) (by decide +kernel)) <|
    zall_c (zs_if_lt X (pc := 208) (off := 20) (by decide +kernel) (by decide)) <|
    zall_c (zs_iload X (pc := 211) (by decide +kernel)) <|
    zall_c (zs_if_lt X (pc := 213) (off := 10) (by decide +kernel) (by decide)) <|
    zall_c (zs_iload X (pc := 216) (by decide +kernel)) <|
    zall_c (zs_iload X (pc := 218) (by decide +kernel)) <|
    zall_c (zs_icmp_ge X (pc := 220) (off := 8) (by decide +kernel) (by decide)) <|
    zall_c (zs_iload X (pc := 223) (by decide +kernel)) <|
    zall_c (zs_goto X (pc := 225) (off := 5) (by decide +kernel) (by decide)) <|
    zall_c (zs_iload X (pc := 228) (by decide +kernel)) <|
    zall_c (zs_istore X (pc := 230) (by decide) (by decide +kernel)) <|
    zall_c (zs_iinc X (pc := 232) (by decide) (by decide +kernel)) <|
    zall_c (zs_goto X (pc := 235) (off := (-66)) (by decide +kernel) (by decide)) <|
    zall_c (zs_iinc X (pc := 238) (by decide) (by decide +kernel)) <|
    zall_c (zs_goto X (pc := 241) (off := (-85)) (by decide +kernel) (by decide)) <|
    zall_c (zs_aload_n X (pc := 244) (q := 0) rfl (by decide +kernel)) <|
    zall_c (zs_callV0 X (pc := 245) zc_X8 (fun _ ht => ⟨(zCB ht gw_6_122 gw_1_1 gw_6_119 rfl rfl (by decide +kernel) ⟨Nat.le_of_ble_eq_true rfl, Nat.le_of_ble_eq_true rfl⟩), ht _ (.tail _ gw_6_120), ht _ (.tail _ gw_6_121)⟩) h8 hout (by decide +kernel)) <|
    zall_c (zs_iload X (pc := 248) (by decide +kernel)) <|
    zall_c (zs_icmp_ne X (pc := 250) (off := 15) (by decide +kernel) (by decide)) <|
    zall_c (zs_aload_n X (pc := 253) (q := 0) rfl (by decide +kernel)) <|
    zall_c (zs_iconst X (pc := 254) (by decide) (by decide +kernel)) <|
    zall_c (zs_callV X (pc := 255) zc_X8 (fun _ ht => ⟨(zCB ht gw_6_113 gw_1_1 gw_6_110 rfl rfl (by decide +kernel) ⟨Nat.le_of_ble_eq_true rfl, Nat.le_of_ble_eq_true rfl⟩), ht _ (.tail _ gw_6_111), ht _ (.tail _ gw_6_112)⟩) h5 hout (by decide +kernel)) <|
    zall_c (zs_if_ne X (pc := 258) (off := 7) (by decide +kernel) (by decide)) <|
    zall_c (zs_iconst X (pc := 261) (by decide) (by decide +kernel)) <|
    zall_c (zs_goto X (pc := 262) (off := 4) (by decide +kernel) (by decide)) <|
    zall_c (zs_iconst X (pc := 265) (by decide) (by decide +kernel)) <|
    zall_c (zs_zret X (pc := 266) rfl zR_bool (by decide +kernel)) <|
    zall_n
theorem met_L_passes {l : Launch} (hl : l.stackTraces = false) {T0 : ZTf} {T1 : ZTf} {T2 : ZTf} {T3 : ZTf} {T4 : ZTf} {T5 : ZTf} {T6 : ZTf} {T7 : ZTf} {T8 : ZTf} (h0 : zMet l yL_trusts (Cond.code yL_trusts cL_trusts 3 (Option.some (Jvm.ClassFile.FieldType.array Jvm.ClassFile.FieldType.int)) :: zG) rm_L_trusts 20 120 T0) (h1 : zMet l yX8_property (Cond.code yX8_property cX8_property 2 (Option.some Jvm.ClassFile.FieldType.int) :: zG) rm_X8_property 1 6 T1) (h2 : zMet l yX8_row (Cond.code yX8_row cX8_row 4 (Option.some Jvm.ClassFile.FieldType.int) :: zG) rm_X8_row 2 12 T2) (h3 : zMet l yX8_taking (Cond.code yX8_taking cX8_taking 5 (Option.some Jvm.ClassFile.FieldType.int) :: zG) rm_X8_taking 3 18 T3) (h4 : zMet l yL_capped (Cond.code yL_capped cL_capped 1 (Option.some Jvm.ClassFile.FieldType.int) :: zG) rm_L_capped 0 0 T4) (h5 : zMet l yX8_lateIn (Cond.code yX8_lateIn cX8_lateIn 4 (Option.some Jvm.ClassFile.FieldType.int) :: zG) rm_X8_lateIn 1 6 T5) (h6 : zMet l yX8_pass (Cond.code yX8_pass cX8_pass 2 (Option.some Jvm.ClassFile.FieldType.int) :: zG) rm_X8_pass 1 6 T6) (h7 : zMet l yL_are (Cond.code yL_are cL_are 3 (Option.some Jvm.ClassFile.FieldType.boolean) :: zG) rm_L_are 12 72 T7) (h8 : zMet l yX8_nextDue (Cond.code yX8_nextDue cX8_nextDue 4 (Option.some Jvm.ClassFile.FieldType.int) :: zG) rm_X8_nextDue 0 0 T8) {T : ZTf} (bd : zBd (cd_L_passes T0 T1 T2 T3 T4 T5 T6 T7 T8) 9 1400 8600 T) : zMet l yL_passes (Cond.code yL_passes cL_passes 9 (Option.some Jvm.ClassFile.FieldType.boolean) :: zG) rm_L_passes 1400 8600 T := zMet_of hl (by decide +kernel) rfl rfl rfl rfl (hs_L_passes hl h0 h1 h2 h3 h4 h5 h6 h7 h8) bd
