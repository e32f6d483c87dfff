/-! the row of law -/
theorem gw_1_29 : Cond.classLink RL 25 RX8 ∈ zG := zGt1 (List.mem_of_getElem? (i := 29) (by rfl)) rfl
theorem gw_1_30 : Cond.instantiable RX8 10 ∈ zG := zGt1 (List.mem_of_getElem? (i := 30) (by rfl)) rfl
theorem gw_1_33 : Cond.code yX8_init cX8_init 2 (Option.none : Option Jvm.ClassFile.FieldType) ∈ zG := zGt1 (List.mem_of_getElem? (i := 33) (by rfl)) rfl
theorem gw_1_31 : Cond.methodLink RL 232 yX8_init ∈ zG := zGt1 (List.mem_of_getElem? (i := 31) (by rfl)) rfl
theorem gw_1_32 : Cond.instanceMethod yX8_init ∈ zG := zGt1 (List.mem_of_getElem? (i := 32) (by rfl)) rfl
theorem gw_2_233 : Cond.code yL_load cL_load 10 (Option.some Jvm.ClassFile.FieldType.boolean) ∈ zG := zGt2 (List.mem_of_getElem? (i := 233) (by rfl)) rfl
theorem gw_2_231 : Cond.methodLink RL 233 yL_load ∈ zG := zGt2 (List.mem_of_getElem? (i := 231) (by rfl)) rfl
theorem gw_2_232 : Cond.static yL_load ∈ zG := zGt2 (List.mem_of_getElem? (i := 232) (by rfl)) rfl
theorem gw_6_67 : Cond.code yL_delivers cL_delivers 18 (Option.some Jvm.ClassFile.FieldType.boolean) ∈ zG := zGt6 (List.mem_of_getElem? (i := 67) (by rfl)) rfl
theorem gw_6_65 : Cond.methodLink RL 235 yL_delivers ∈ zG := zGt6 (List.mem_of_getElem? (i := 65) (by rfl)) rfl
theorem gw_6_66 : Cond.static yL_delivers ∈ zG := zGt6 (List.mem_of_getElem? (i := 66) (by rfl)) rfl
theorem gw_6_109 : Cond.code yL_passes cL_passes 9 (Option.some Jvm.ClassFile.FieldType.boolean) ∈ zG := zGt6 (List.mem_of_getElem? (i := 109) (by rfl)) rfl
theorem gw_6_107 : Cond.methodLink RL 239 yL_passes ∈ zG := zGt6 (List.mem_of_getElem? (i := 107) (by rfl)) rfl
theorem gw_6_108 : Cond.static yL_passes ∈ zG := zGt6 (List.mem_of_getElem? (i := 108) (by rfl)) rfl
theorem gw_6_94 : Cond.code yL_audits cL_audits 13 (Option.some Jvm.ClassFile.FieldType.boolean) ∈ zG := zGt6 (List.mem_of_getElem? (i := 94) (by rfl)) rfl
theorem gw_6_92 : Cond.methodLink RL 243 yL_audits ∈ zG := zGt6 (List.mem_of_getElem? (i := 92) (by rfl)) rfl
theorem gw_6_93 : Cond.static yL_audits ∈ zG := zGt6 (List.mem_of_getElem? (i := 93) (by rfl)) rfl
theorem gw_5_96 : Cond.code yL_act cL_act 7 (Option.some Jvm.ClassFile.FieldType.int) ∈ zG := zGt5 (List.mem_of_getElem? (i := 96) (by rfl)) rfl
theorem gw_5_94 : Cond.methodLink RL 247 yL_act ∈ zG := zGt5 (List.mem_of_getElem? (i := 94) (by rfl)) rfl
theorem gw_5_95 : Cond.static yL_act ∈ zG := zGt5 (List.mem_of_getElem? (i := 95) (by rfl)) rfl
theorem gw_6_129 : Cond.code yL_holds cL_holds 8 (Option.some Jvm.ClassFile.FieldType.boolean) ∈ zG := zGt6 (List.mem_of_getElem? (i := 129) (by rfl)) rfl
theorem gw_6_127 : Cond.methodLink RL 251 yL_holds ∈ zG := zGt6 (List.mem_of_getElem? (i := 127) (by rfl)) rfl
theorem gw_6_128 : Cond.static yL_holds ∈ zG := zGt6 (List.mem_of_getElem? (i := 128) (by rfl)) rfl
abbrev rm_L_law : Room := { frames := 16, cells := 600086, slots := 7301442, locals := 642 }
def cd_L_law (T0 : ZTf) (T1 : ZTf) (T2 : ZTf) (T3 : ZTf) (T4 : ZTf) (T5 : ZTf) (T6 : ZTf) (T7 : ZTf) (T8 : ZTf) (T9 : ZTf) : List (Nat × ZTr) := [(0, tNew 11 10 3), (3, tDup 4), (4, tCall 1 605 6861 (zNt T0) (zRcv 11) 7), (7, tAst 1 8), (8, tAld 1 9), (9, tAld 0 10), (10, tCall 2 2000 60000 T1 zAny 13), (13, tIf_ne 18 16), (16, tC (zi 0) 17), (17, tRi zPz), (18, tC (zi 50) 20), (20, tIst 2 21), (21, tIld 2 22), (22, tC (zi 250) 25), (25, tIc_ge 250 28), (28, tAld 0 29), (29, tIld 2 30), (30, tAld 1 31), (31, tC (zi 0) 32), (32, tCall 2 1 6 T2 (zRcv 11) 35), (35, tCall0 3 T3 zAny 38), (38, tIst 3 39), (39, tAld 0 40), (40, tIld 2 41), (41, tC (zi 2) 42), (42, tAdd 43), (43, tC (zi 3) 44), (44, tCall0 3 T3 zAny 47), (47, tIf_ne 62 50), (50, tAld 0 51), (51, tIld 2 52), (52, tC (zi 3) 53), (53, tAdd 54), (54, tC (zi 100) 56), (56, tCall0 3 T3 zAny 59), (59, tGo 74), (62, tC (zi 40) 64), (64, tAld 0 65), (65, tIld 2 66), (66, tC (zi 3) 67), (67, tAdd 68), (68, tC (zi 9) 70), (70, tCall0 3 T3 zAny 73), (73, tAdd 74), (74, tIst 4 76), (76, tAld 0 77), (77, tIld 2 78), (78, tC (zi 4) 79), (79, tAdd 80), (80, tC (zi 14) 82), (82, tCall0 3 T3 zAny 85), (85, tIst 5 87), (87, tAld 1 88), (88, tC (zi 1) 89), (89, tCall 2 1 6 T2 (zRcv 11) 92), (92, tIf_ne 99 95), (95, tC (zi 0) 96), (96, tGo 111), (99, tAld 0 100), (100, tIld 2 101), (101, tC (zi 1) 102), (102, tAdd 103), (103, tAld 1 104), (104, tC (zi 1) 105), (105, tCall 2 1 6 T2 (zRcv 11) 108), (108, tCall0 3 T3 zAny 111), (111, tIst 6 113), (113, tAld 1 114), (114, tIld 3 115), (115, tIld 6 117), (117, tCall 3 680 4100 T4 zAny 120), (120, tIst 7 122), (122, tC (zi 1) 123), (123, tIst 8 125), (125, tIld 5 127), (127, tC (zi 3) 128), (128, tIc_le 157 131), (131, tIld 5 133), (133, tC (zi 9) 135), (135, tIc_ge 157 138), (138, tIld 7 140), (140, tIf_lt 157 143), (143, tAld 1 144), (144, tIld 3 145), (145, tIld 7 147), (147, tIld 4 149), (149, tCall 4 160 1000 T5 zAny 152), (152, tIst 8 154), (154, tGo 230), (157, tIld 5 159), (159, tC (zi 9) 161), (161, tIc_ne 184 164), (164, tAld 1 165), (165, tC (zi 1) 166), (166, tAld 0 167), (167, tIld 2 168), (168, tC (zi 3) 169), (169, tAdd 170), (170, tC (zi 6) 172), (172, tCall0 3 T3 zAny 175), (175, tAdd 176), (176, tCall 2 1400 8600 T6 zAny 179), (179, tIst 8 181), (181, tGo 230), (184, tIld 5 186), (186, tC (zi 10) 188), (188, tIc_ne 212 191), (191, tAld 1 192), (192, tC (zi 1) 193), (193, tCall 2 1 6 T2 (zRcv 11) 196), (196, tIf_le 212 199), (199, tAld 1 200), (200, tIld 6 202), (202, tIld 4 204), (204, tCall 3 110 720 T7 zAny 207), (207, tIst 8 209), (209, tGo 230), (212, tAld 1 213), (213, tAld 0 214), (214, tIld 2 215), (215, tCall 3 710 4400 T8 zAny 218), (218, tC (zi (-9)) 220), (220, tIc_lt 227 223), (223, tC (zi 1) 224), (224, tGo 228), (227, tC (zi 0) 228), (228, tIst 8 230), (230, tIld 8 232), (232, tIf_eq 242 235), (235, tAld 1 236), (236, tCall 1 1900 11400 T9 zAny 239), (239, tIf_ne 244 242), (242, tC (zi 0) 243), (243, tRi zPz), (244, tInc 2 5 247), (247, tGo 21), (250, tC (zi 1) 251), (251, tRi zPz)]
set_option maxRecDepth 100000 in
set_option maxHeartbeats 4000000 in
theorem hs_L_law {l : Launch} (hl : l.stackTraces = false) {T0 : ZTf} {T1 : ZTf} {T2 : ZTf} {T3 : ZTf} {T4 : ZTf} {T5 : ZTf} {T6 : ZTf} {T7 : ZTf} {T8 : ZTf} {T9 : ZTf} (h0 : zMet l yX8_init (Cond.code yX8_init cX8_init 2 (Option.none : Option Jvm.ClassFile.FieldType) :: zG) rm_X8_init 605 6861 T0) (h1 : zMet l yL_load (Cond.code yL_load cL_load 10 (Option.some Jvm.ClassFile.FieldType.boolean) :: zG) rm_L_load 2000 60000 T1) (h2 : zMet l yX8_property (Cond.code yX8_property cX8_property 2 (Option.some Jvm.ClassFile.FieldType.int) :: zG) rm_X8_property 1 6 T2) (h3 : zMet l yL_draw (Cond.code yL_draw cL_draw 3 (Option.some Jvm.ClassFile.FieldType.int) :: zG) rm_L_draw 0 0 T3) (h4 : zMet l yL_inWork (Cond.code yL_inWork cL_inWork 6 (Option.some Jvm.ClassFile.FieldType.int) :: zG) rm_L_inWork 680 4100 T4) (h5 : zMet l yL_delivers (Cond.code yL_delivers cL_delivers 18 (Option.some Jvm.ClassFile.FieldType.boolean) :: zG) rm_L_delivers 160 1000 T5) (h6 : zMet l yL_passes (Cond.code yL_passes cL_passes 9 (Option.some Jvm.ClassFile.FieldType.boolean) :: zG) rm_L_passes 1400 8600 T6) (h7 : zMet l yL_audits (Cond.code yL_audits cL_audits 13 (Option.some Jvm.ClassFile.FieldType.boolean) :: zG) rm_L_audits 110 720 T7) (h8 : zMet l yL_act (Cond.code yL_act cL_act 7 (Option.some Jvm.ClassFile.FieldType.int) :: zG) rm_L_act 710 4400 T8) (h9 : zMet l yL_holds (Cond.code yL_holds cL_holds 8 (Option.some Jvm.ClassFile.FieldType.boolean) :: zG) rm_L_holds 1900 11400 T9) (p : Program) (e : Env) (s : State) (m : MethodId) (args : Array Value) (below : List Frame) (meth : Method) (c : Code) (D : va_G) (A : Nat → Prop) (a0 : Nat → Nat) (M0 : ZM) (K : ZRet) (KX : ZEx) (X : zCtx p l rm_L_law s m args meth c cL_law RL (Cond.code yL_law cL_law 9 (Option.some Jvm.ClassFile.FieldType.boolean) :: zG) 9 (Option.some Jvm.ClassFile.FieldType.boolean) D A a0 M0 600086 7301442) (hnm : meth.name = yL_law.name) (hout : ∀ x ∈ c.exceptionTable.toList, False) : ∀ q ∈ cd_L_law T0 T1 T2 T3 T4 T5 T6 T7 T8 T9, zSd p l e rm_L_law s m args below meth c 9 D A a0 M0 K KX 600086 7301442 q.1 q.2 :=
    zall_c (zs_new X (pc := 0) zc_X8 (zin ui_X8) tyX8_ok (.tail _ gw_1_29) (.tail _ gw_1_30) (.tail _ gw_1_1) (by decide +kernel) (by decide +kernel)) <|
    zall_c (zs_dup X (pc := 3) (by decide +kernel)) <|
    zall_c (zs_callI X (pc := 4) (rt := none) (fun _ ht => ⟨(zCB ht gw_1_33 gw_1_1 gw_1_31 rfl rfl (by decide +kernel) ⟨Nat.le_of_ble_eq_true rfl, Nat.le_of_ble_eq_true rfl⟩), rfl, ht _ (.tail _ gw_1_32)⟩) h0 (by decide +kernel)) <|
    zall_c (zs_astore_n X (pc := 7) (q := 1) rfl (by decide) (by decide +kernel)) <|
    zall_c (zs_aload_n X (pc := 8) (q := 1) rfl (by decide +kernel)) <|
    zall_c (zs_aload_n X (pc := 9) (q := 0) rfl (by decide +kernel)) <|
    zall_c (zs_callS X (pc := 10) (fun _ ht => ⟨(zCB ht gw_2_233 gw_1_0 gw_2_231 rfl rfl (by decide +kernel) ⟨Nat.le_of_ble_eq_true rfl, Nat.le_of_ble_eq_true rfl⟩), ht _ (.tail _ gw_2_232)⟩) h1 hout (by decide +kernel)) <|
    zall_c (zs_if_ne X (pc := 13) (off := 5) (by decide +kernel) (by decide)) <|
    zall_c (zs_iconst X (pc := 16) (by decide) (by decide +kernel)) <|
    zall_c (zs_zret X (pc := 17) rfl zR_bool (by decide +kernel)) <|
    zall_c (zs_bipush X (pc := 18) (by decide) (by decide +kernel) (by decide +kernel)) <|
    zall_c (zs_istore_n X (pc := 20) (q := 2) rfl (by decide) (by decide +kernel)) <|
    zall_c (zs_iload_n X (pc := 21) (q := 2) rfl (by decide +kernel)) <|
    zall_c (zs_sipush X (pc := 22) (by decide) (by decide +kernel) (by decide +kernel)) <|
    zall_c (zs_icmp_ge X (pc := 25) (off := 225) (by decide +kernel) (by decide)) <|
    zall_c (zs_aload_n X (pc := 28) (q := 0) rfl (by decide +kernel)) <|
    zall_c (zs_iload_n X (pc := 29) (q := 2) rfl (by decide +kernel)) <|
    zall_c (zs_aload_n X (pc := 30) (q := 1) rfl (by decide +kernel)) <|
    zall_c (zs_iconst X (pc := 31) (by decide) (by decide +kernel)) <|
    zall_c (zs_callV X (pc := 32) zc_X8 (fun _ ht => ⟨(zCB ht gw_2_148 gw_1_1 gw_2_145 rfl rfl (by decide +kernel) ⟨Nat.le_of_ble_eq_true rfl, Nat.le_of_ble_eq_true rfl⟩), ht _ (.tail _ gw_2_146), ht _ (.tail _ gw_2_147)⟩) h2 hout (by decide +kernel)) <|
    zall_c (zs_callS0 X (pc := 35) (fun _ ht => ⟨(zCB ht gw_2_229 gw_1_0 gw_2_227 rfl rfl (by decide +kernel) ⟨Nat.le_of_ble_eq_true rfl, Nat.le_of_ble_eq_true rfl⟩), ht _ (.tail _ gw_2_228)⟩) h3 hout (by decide +kernel)) <|
    zall_c (zs_istore_n X (pc := 38) (q := 3) rfl (by decide) (by decide +kernel)) <|
    zall_c (zs_aload_n X (pc := 39) (q := 0) rfl (by decide +kernel)) <|
    zall_c (zs_iload_n X (pc := 40) (q := 2) rfl (by decide +kernel)) <|
    zall_c (zs_iconst X (pc := 41) (by decide) (by decide +kernel)) <|
    zall_c (zs_iadd X (pc := 42) (by decide +kernel)) <|
    zall_c (zs_iconst X (pc := 43) (by decide) (by decide +kernel)) <|
    zall_c (zs_callS0 X (pc := 44) (fun _ ht => ⟨(zCB ht gw_2_229 gw_1_0 gw_2_227 rfl rfl (by decide +kernel) ⟨Nat.le_of_ble_eq_true rfl, Nat.le_of_ble_eq_true rfl⟩), ht _ (.tail _ gw_2_228)⟩) h3 hout (by decide +kernel)) <|
    zall_c (zs_if_ne X (pc := 47) (off := 15) (by decide +kernel) (by decide)) <|
    zall_c (zs_aload_n X (pc := 50) (q := 0) rfl (by decide +kernel)) <|
    zall_c (zs_iload_n X (pc := 51) (q := 2) rfl (by decide +kernel)) <|
    zall_c (zs_iconst X (pc := 52) (by decide) (by decide +kernel)) <|
    zall_c (zs_iadd X (pc := 53) (by decide +kernel)) <|
    zall_c (zs_bipush X (pc := 54) (by decide) (by decide +kernel) (by decide +kernel)) <|
    zall_c (zs_callS0 X (pc := 56) (fun _ ht => ⟨(zCB ht gw_2_229 gw_1_0 gw_2_227 rfl rfl (by decide +kernel) ⟨Nat.le_of_ble_eq_true rfl, Nat.le_of_ble_eq_true rfl⟩), ht _ (.tail _ gw_2_228)⟩) h3 hout (by decide +kernel)) <|
    zall_c (zs_goto X (pc := 59) (off := 15) (by decide +kernel) (by decide)) <|
    zall_c (zs_bipush X (pc := 62) (by decide) (by decide +kernel) (by decide +kernel)) <|
    zall_c (zs_aload_n X (pc := 64) (q := 0) rfl (by decide +kernel)) <|
    zall_c (zs_iload_n X (pc := 65) (q := 2) rfl (by decide +kernel)) <|
    zall_c (zs_iconst X (pc := 66) (by decide) (by decide +kernel)) <|
    zall_c (zs_iadd X (pc := 67) (by decide +kernel)) <|
    zall_c (zs_bipush X (pc := 68) (by decide) (by decide +kernel) (by decide +kernel)) <|
    zall_c (zs_callS0 X (pc := 70) (fun _ ht => ⟨(zCB ht gw_2_229 gw_1_0 gw_2_227 rfl rfl (by decide +kernel) ⟨Nat.le_of_ble_eq_true rfl, Nat.le_of_ble_eq_true rfl⟩), ht _ (.tail _ gw_2_228)⟩) h3 hout (by decide +kernel)) <|
    zall_c (zs_iadd X (pc := 73) (by decide +kernel)) <|
    zall_c (zs_istore X (pc := 74) (by decide) (by decide +kernel)) <|
    zall_c (zs_aload_n X (pc := 76) (q := 0) rfl (by decide +kernel)) <|
    zall_c (zs_iload_n X (pc := 77) (q := 2) rfl (by decide +kernel)) <|
    zall_c (zs_iconst X (pc := 78) (by decide) (by decide +kernel)) <|
    zall_c (zs_iadd X (pc := 79) (by decide +kernel)) <|
    zall_c (zs_bipush X (pc := 80) (by decide) (by decide +kernel) (by decide +kernel)) <|
    zall_c (zs_callS0 X (pc := 82) (fun _ ht => ⟨(zCB ht gw_2_229 gw_1_0 gw_2_227 rfl rfl (by decide +kernel) ⟨Nat.le_of_ble_eq_true rfl, Nat.le_of_ble_eq_true rfl⟩), ht _ (.tail _ gw_2_228)⟩) h3 hout (by decide +kernel)) <|
    zall_c (zs_istore X (pc := 85) (by decide) (by decide +kernel)) <|
    zall_c (zs_aload_n X (pc := 87) (q := 1) rfl (by decide +kernel)) <|
    zall_c (zs_iconst X (pc := 88) (by decide) (by decide +kernel)) <|
    zall_c (zs_callV X (pc := 89) zc_X8 (fun _ ht => ⟨(zCB ht gw_2_148 gw_1_1 gw_2_145 rfl rfl (by decide +kernel) ⟨Nat.le_of_ble_eq_true rfl, Nat.le_of_ble_eq_true rfl⟩), ht _ (.tail _ gw_2_146), ht _ (.tail _ gw_2_147)⟩) h2 hout (by decide +kernel)) <|
    zall_c (zs_if_ne X (pc := 92) (off := 7) (by decide +kernel) (by decide)) <|
    zall_c (zs_iconst X (pc := 95) (by decide) (by decide +kernel)) <|
    zall_c (zs_goto X (pc := 96) (off := 15) (by decide +kernel) (by decide)) <|
    zall_c (zs_aload_n X (pc := 99) (q := 0) rfl (by decide +kernel)) <|
    zall_c (zs_iload_n X (pc := 100) (q := 2) rfl (by decide +kernel)) <|
    zall_c (zs_iconst X (pc := 101) (by decide) (by decide +kernel)) <|
    zall_c (zs_iadd X (pc := 102) (by decide +kernel)) <|
    zall_c (zs_aload_n X (pc := 103) (q := 1) rfl (by decide +kernel)) <|
    zall_c (zs_iconst X (pc := 104) (by decide) (by decide +kernel)) <|
    zall_c (zs_callV X (pc := 105) zc_X8 (fun _ ht => ⟨(zCB ht gw_2_148 gw_1_1 gw_2_145 rfl rfl (by decide +kernel) ⟨Nat.le_of_ble_eq_true rfl, Nat.le_of_ble_eq_true rfl⟩), ht _ (.tail _ gw_2_146), ht _ (.tail _ gw_2_147)⟩) h2 hout (by decide +kernel)) <|
    zall_c (zs_callS0 X (pc := 108) (fun _ ht => ⟨(zCB ht gw_2_229 gw_1_0 gw_2_227 rfl rfl (by decide +kernel) ⟨Nat.le_of_ble_eq_true rfl, Nat.le_of_ble_eq_true rfl⟩), ht _ (.tail _ gw_2_228)⟩) h3 hout (by decide +kernel)) <|
    zall_c (zs_istore X (pc := 111) (by decide) (by decide +kernel)) <|
    zall_c (zs_aload_n X (pc := 113) (q := 1) rfl (by decide +kernel)) <|
    zall_c (zs_iload_n X (pc := 114) (q := 3) rfl (by decide +kernel)) <|
    zall_c (zs_iload X (pc := 115) (by decide +kernel)) <|
    zall_c (zs_callS X (pc := 117) (fun _ ht => ⟨(zCB ht gw_5_53 gw_1_0 gw_5_51 rfl rfl (by decide +kernel) ⟨Nat.le_of_ble_eq_true rfl, Nat.le_of_ble_eq_true rfl⟩), ht _ (.tail _ gw_5_52)⟩) h4 hout (by decide +kernel)) <|
    zall_c (zs_istore X (pc := 120) (by decide) (by decide +kernel)) <|
    zall_c (zs_iconst X (pc := 122) (by decide) (by decide +kernel)) <|
    zall_c (zs_istore X (pc := 123) (by decide) (by decide +kernel)) <|
    zall_c (zs_iload X (pc := 125) (by decide +kernel)) <|
    zall_c (zs_iconst X (pc := 127) (by decide) (by decide +kernel)) <|
    zall_c (zs_icmp_le X (pc := 128) (off := 29) (by decide +kernel) (by decide)) <|
    zall_c (zs_iload X (pc := 131) (by decide +kernel)) <|
    zall_c (zs_bipush X (pc := 133) (by decide) (by decide +kernel) (by decide +kernel)) <|
    zall_c (zs_icmp_ge X (pc := 135) (off := 22) (by decide +kernel) (by decide)) <|
    zall_c (zs_iload X (pc := 138) (by decide +kernel)) <|
    zall_c (zs_if_lt X (pc := 140) (off := 17) (by decide +kernel) (by decide)) <|
    zall_c (zs_aload_n X (pc := 143) (q := 1) rfl (by decide +kernel)) <|
    zall_c (zs_iload_n X (pc := 144) (q := 3) rfl (by decide +kernel)) <|
    zall_c (zs_iload X (pc := 145) (by decide +kernel)) <|
    zall_c (zs_iload X (pc := 147) (by decide +kernel)) <|
    zall_c (zs_callS X (pc := 149) (fun _ ht => ⟨(zCB ht gw_6_67 gw_1_0 gw_6_65 rfl rfl (by decide +kernel) ⟨Nat.le_of_ble_eq_true rfl, Nat.le_of_ble_eq_true rfl⟩), ht _ (.tail _ gw_6_66)⟩) h5 hout (by decide +kernel)) <|
    zall_c (zs_istore X (pc := 152) (by decide) (by decide +kernel)) <|
    zall_c (zs_goto X (pc := 154) (off := 76) (by decide +kernel) (by decide)) <|
    zall_c (zs_iload X (pc := 157) (by decide +kernel)) <|
    zall_c (zs_bipush X (pc := 159) (by decide) (by decide +kernel) (by decide +kernel)) <|
    zall_c (zs_icmp_ne X (pc := 161) (off := 23) (by decide +kernel) (by decide)) <|
    zall_c (zs_aload_n X (pc := 164) (q := 1) rfl (by decide +kernel)) <|
    zall_c (zs_iconst X (pc := 165) (by decide) (by decide +kernel)) <|
    zall_c (zs_aload_n X (pc := 166) (q := 0) rfl (by decide +kernel)) <|
    zall_c (zs_iload_n X (pc := 167) (q := 2) rfl (by decide +kernel)) <|
    zall_c (zs_iconst X (pc := 168) (by decide) (by decide +kernel)) <|
    zall_c (zs_iadd X (pc := 169) (by decide +kernel)) <|
    zall_c (zs_bipush X (pc := 170) (by decide) (by decide +kernel) (by decide +kernel)) <|
    zall_c (zs_callS0 X (pc := 172) (fun _ ht => ⟨(zCB ht gw_2_229 gw_1_0 gw_2_227 rfl rfl (by decide +kernel) ⟨Nat.le_of_ble_eq_true rfl, Nat.le_of_ble_eq_true rfl⟩), ht _ (.tail _ gw_2_228)⟩) h3 hout (by decide +kernel)) <|
    zall_c (zs_iadd X (pc := 175) (by decide +kernel)) <|
    zall_c (zs_callS X (pc := 176) (fun _ ht => ⟨(zCB ht gw_6_109 gw_1_0 gw_6_107 rfl rfl (by decide +kernel) ⟨Nat.le_of_ble_eq_true rfl, Nat.le_of_ble_eq_true rfl⟩), ht _ (.tail _ gw_6_108)⟩) h6 hout (by decide +kernel)) <|
    zall_c (zs_istore X (pc := 179) (by decide) (by decide +kernel)) <|
    zall_c (zs_goto X (pc := 181) (off := 49) (by decide +kernel) (by decide)) <|
    zall_c (zs_iload X (pc := 184) (by decide +kernel)) <|
    zall_c (zs_bipush X (pc := 186) (by decide) (by decide +kernel) (by decide +kernel)) <|
    zall_c (zs_icmp_ne X (pc := 188) (off := 24) (by decide +kernel) (by decide)) <|
    zall_c (zs_aload_n X (pc := 191) (q := 1) rfl (by decide +kernel)) <|
    zall_c (zs_iconst X (pc := 192) (by decide) (by decide +kernel)) <|
    zall_c (zs_callV X (pc := 193) zc_X8 (fun _ ht => ⟨(zCB ht gw_2_148 gw_1_1 gw_2_145 rfl rfl (by decide +kernel) ⟨Nat.le_of_ble_eq_true rfl, Nat.le_of_ble_eq_true rfl⟩), ht _ (.tail _ gw_2_146), ht _ (.tail _ gw_2_147)⟩) h2 hout (by decide +kernel)) <|
    zall_c (zs_if_le X (pc := 196) (off := 16) (by decide +kernel) (by decide)) <|
    zall_c (zs_aload_n X (pc := 199) (q := 1) rfl (by decide +kernel)) <|
    zall_c (zs_iload X (pc := 200) (by decide +kernel)) <|
    zall_c (zs_iload X (pc := 202) (by decide +kernel)) <|
    zall_c (zs_callS X (pc := 204) (fun _ ht => ⟨(zCB ht gw_6_94 gw_1_0 gw_6_92 rfl rfl (by decide +kernel) ⟨Nat.le_of_ble_eq_true rfl, Nat.le_of_ble_eq_true rfl⟩), ht _ (.tail _ gw_6_93)⟩) h7 hout (by decide +kernel)) <|
    zall_c (zs_istore X (pc := 207) (by decide) (by decide +kernel)) <|
    zall_c (zs_goto X (pc := 209) (off := 21) (by decide +kernel) (by decide)) <|
    zall_c (zs_aload_n X (pc := 212) (q := 1) rfl (by decide +kernel)) <|
    zall_c (zs_aload_n X (pc := 213) (q := 0) rfl (by decide +kernel)) <|
    zall_c (zs_iload_n X (pc := 214) (q := 2) rfl (by decide +kernel)) <|
    zall_c (zs_callS X (pc := 215) (fun _ ht => ⟨(zCB ht gw_5_96 gw_1_0 gw_5_94 rfl rfl (by decide +kernel) ⟨Nat.le_of_ble_eq_true rfl, Nat.le_of_ble_eq_true rfl⟩), ht _ (.tail _ gw_5_95)⟩) h8 hout (by decide +kernel)) <|
    zall_c (zs_bipush X (pc := 218) (by decide) (by decide +kernel) (by decide +kernel)) <|
    zall_c (zs_icmp_lt X (pc := 220) (off := 7) (by decide +kernel) (by decide)) <|
    zall_c (zs_iconst X (pc := 223) (by decide) (by decide +kernel)) <|
    zall_c (zs_goto X (pc := 224) (off := 4) (by decide +kernel) (by decide)) <|
    zall_c (zs_iconst X (pc := 227) (by decide) (by decide +kernel)) <|
    zall_c (zs_istore X (pc := 228) (by decide) (by decide +kernel)) <|
    zall_c (zs_iload X (pc := 230) (by decide +kernel)) <|
    zall_c (zs_if_eq X (pc := 232) (off := 10) (by decide +kernel) (by decide)) <|
    zall_c (zs_aload_n X (pc := 235) (q := 1) rfl (by decide +kernel)) <|
    zall_c (zs_callS X (pc := 236) (fun _ ht => ⟨(zCB ht gw_6_129 gw_1_0 gw_6_127 rfl rfl (by decide +kernel) ⟨Nat.le_of_ble_eq_true rfl, Nat.le_of_ble_eq_true rfl⟩), ht _ (.tail _ gw_6_128)⟩) h9 hout (by decide +kernel)) <|
    zall_c (zs_if_ne X (pc := 239) (off := 5) (by decide +kernel) (by decide)) <|
    zall_c (zs_iconst X (pc := 242) (by decide) (by decide +kernel)) <|
    zall_c (zs_zret X (pc := 243) rfl zR_bool (by decide +kernel)) <|
    zall_c (zs_iinc X (pc := 244) (by decide) (by decide +kernel)) <|
    zall_c (zs_goto X (pc := 247) (off := (-226)) (by decide +kernel) (by decide)) <|
    zall_c (zs_iconst X (pc := 250) (by decide) (by decide +kernel)) <|
    zall_c (zs_zret X (pc := 251) rfl zR_bool (by decide +kernel)) <|
    zall_n
theorem met_L_law {l : Launch} (hl : l.stackTraces = false) {T0 : ZTf} {T1 : ZTf} {T2 : ZTf} {T3 : ZTf} {T4 : ZTf} {T5 : ZTf} {T6 : ZTf} {T7 : ZTf} {T8 : ZTf} {T9 : ZTf} (h0 : zMet l yX8_init (Cond.code yX8_init cX8_init 2 (Option.none : Option Jvm.ClassFile.FieldType) :: zG) rm_X8_init 605 6861 T0) (h1 : zMet l yL_load (Cond.code yL_load cL_load 10 (Option.some Jvm.ClassFile.FieldType.boolean) :: zG) rm_L_load 2000 60000 T1) (h2 : zMet l yX8_property (Cond.code yX8_property cX8_property 2 (Option.some Jvm.ClassFile.FieldType.int) :: zG) rm_X8_property 1 6 T2) (h3 : zMet l yL_draw (Cond.code yL_draw cL_draw 3 (Option.some Jvm.ClassFile.FieldType.int) :: zG) rm_L_draw 0 0 T3) (h4 : zMet l yL_inWork (Cond.code yL_inWork cL_inWork 6 (Option.some Jvm.ClassFile.FieldType.int) :: zG) rm_L_inWork 680 4100 T4) (h5 : zMet l yL_delivers (Cond.code yL_delivers cL_delivers 18 (Option.some Jvm.ClassFile.FieldType.boolean) :: zG) rm_L_delivers 160 1000 T5) (h6 : zMet l yL_passes (Cond.code yL_passes cL_passes 9 (Option.some Jvm.ClassFile.FieldType.boolean) :: zG) rm_L_passes 1400 8600 T6) (h7 : zMet l yL_audits (Cond.code yL_audits cL_audits 13 (Option.some Jvm.ClassFile.FieldType.boolean) :: zG) rm_L_audits 110 720 T7) (h8 : zMet l yL_act (Cond.code yL_act cL_act 7 (Option.some Jvm.ClassFile.FieldType.int) :: zG) rm_L_act 710 4400 T8) (h9 : zMet l yL_holds (Cond.code yL_holds cL_holds 8 (Option.some Jvm.ClassFile.FieldType.boolean) :: zG) rm_L_holds 1900 11400 T9) {T : ZTf} (bd : zBd (cd_L_law T0 T1 T2 T3 T4 T5 T6 T7 T8 T9) 9 600086 7301442 T) : zMet l yL_law (Cond.code yL_law cL_law 9 (Option.some Jvm.ClassFile.FieldType.boolean) :: zG) rm_L_law 600086 7301442 T := zMet_of hl (by decide +kernel) rfl rfl rfl rfl (hs_L_law hl h0 h1 h2 h3 h4 h5 h6 h7 h8 h9) bd
