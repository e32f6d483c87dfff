abbrev rm_X5_greatestMatching : Room := { frames := 6, cells := 1, slots := 6, locals := 144 }
def cd_X5_greatestMatching (T0 : ZTf) (T1 : ZTf) : List (Nat × ZTr) := [(0, tC (zi 6) 2), (2, tNewA 20 4), (4, tAst 1 5), (5, tC (zi 0) 6), (6, tIst 2 7), (7, tIld 2 8), (8, tAld 0 9), (9, tGetI 8 4 12), (12, tIc_ge 29 15), (15, tAld 1 16), (16, tIld 2 17), (17, tAld 0 18), (18, tIld 2 19), (19, tCall0 2 T0 (zRcv 8) 22), (22, tIas 20 (fun _ => True) 23), (23, tInc 2 1 26), (26, tGo 7), (29, tAld 0 30), (30, tGetI 8 4 33), (33, tIst 2 34), (34, tC (zi 0) 35), (35, tIst 3 36), (36, tIld 3 37), (37, tC (zi 1) 38), (38, tAld 0 39), (39, tGetI 8 4 42), (42, tBif zshl 43), (43, tIc_ge 111 46), (46, tC (zi 0) 47), (47, tIst 4 49), (49, tC (zi 0) 50), (50, tIst 5 52), (52, tIld 5 54), (54, tAld 0 55), (55, tGetI 8 4 58), (58, tIc_ge 85 61), (61, tIld 3 62), (62, tC (zi 1) 63), (63, tIld 5 65), (65, tBif zshl 66), (66, tBif zand 67), (67, tIf_eq 79 70), (70, tIld 4 72), (72, tAld 1 73), (73, tIld 5 75), (75, tIal 20 76), (76, tBif zor 77), (77, tIst 4 79), (79, tInc 5 1 82), (82, tGo 52), (85, tIld 2 86), (86, tAld 0 87), (87, tGetI 8 4 90), (90, tIld 3 91), (91, tCall0 1 T1 zAny 94), (94, tSub 95), (95, tIld 4 97), (97, tCall0 1 T1 zAny 100), (100, tAdd 101), (101, tMth2 zmin 104), (104, tIst 2 105), (105, tInc 3 1 108), (108, tGo 36), (111, tIld 2 112), (112, tRi (fun _ => True))]
set_option maxRecDepth 100000 in
set_option maxHeartbeats 4000000 in
theorem hs_X5_greatestMatching {l : Launch} (hl : l.stackTraces = false) {T0 : ZTf} {T1 : ZTf} (h0 : zMet l yX5_rowsFor (Cond.code yX5_rowsFor cX5_rowsFor 4 (Option.some Jvm.ClassFile.FieldType.int) :: zG) rm_X5_rowsFor 0 0 T0) (h1 : zMet l yJ6_bitCount_0f7a4 (Cond.code yJ6_bitCount_0f7a4 cJ6_bitCount_0f7a4 1 (Option.some Jvm.ClassFile.FieldType.int) :: zG) rm_J6_bitCount_0f7a4 0 0 T1) (p : Program) (e : Env) (s : State) (m : MethodId) (args : Array Value) (below : List Frame) (meth : Method) (c : Code) (D : va_G) (A : Nat → Prop) (a0 : Nat → Nat) (M0 : ZM) (K : ZRet) (KX : ZEx) (X : zCtx p l rm_X5_greatestMatching s m args meth c cX5_greatestMatching RX5 (Cond.code yX5_greatestMatching cX5_greatestMatching 6 (Option.some Jvm.ClassFile.FieldType.int) :: zG) 6 (Option.some Jvm.ClassFile.FieldType.int) D A a0 M0 1 6) (hnm : meth.name = yX5_greatestMatching.name) (hout : ∀ x ∈ c.exceptionTable.toList, False) : ∀ q ∈ cd_X5_greatestMatching T0 T1, zSd p l e rm_X5_greatestMatching s m args below meth c 6 D A a0 M0 K KX 1 6 q.1 q.2 :=
    zall_c (zs_bipush X (pc := 0) (by decide) (by decide +kernel) (by decide +kernel)) <|
    zall_c (zs_newarray20 X (pc := 2) (.tail _ gw_1_85) (by decide +kernel)) <|
    zall_c (zs_astore_n X (pc := 4) (q := 1) rfl (by decide) (by decide +kernel)) <|
    zall_c (zs_iconst X (pc := 5) (by decide) (by decide +kernel)) <|
    zall_c (zs_istore_n X (pc := 6) (q := 2) rfl (by decide) (by decide +kernel)) <|
    zall_c (zs_iload_n X (pc := 7) (q := 2) rfl (by decide +kernel)) <|
    zall_c (zs_aload_n X (pc := 8) (q := 0) rfl (by decide +kernel)) <|
    zall_c (zs_geti X (pc := 9) zc_X5 (by decide) (zin ui_X5) (.tail _ gw_1_235) (by decide +kernel) (by decide +kernel)) <|
    zall_c (zs_icmp_ge X (pc := 12) (off := 17) (by decide +kernel) (by decide)) <|
    zall_c (zs_aload_n X (pc := 15) (q := 1) rfl (by decide +kernel)) <|
    zall_c (zs_iload_n X (pc := 16) (q := 2) rfl (by decide +kernel)) <|
    zall_c (zs_aload_n X (pc := 17) (q := 0) rfl (by decide +kernel)) <|
    zall_c (zs_iload_n X (pc := 18) (q := 2) rfl (by decide +kernel)) <|
    zall_c (zs_callV0 X (pc := 19) zc_X5 (fun _ ht => ⟨(zCB ht gw_5_12 gw_1_8 gw_5_9 rfl rfl (by decide +kernel) ⟨Nat.le_of_ble_eq_true rfl, Nat.le_of_ble_eq_true rfl⟩), ht _ (.tail _ gw_5_10), ht _ (.tail _ gw_5_11)⟩) h0 hout (by decide +kernel)) <|
    zall_c (zs_iastore20 X (pc := 22) (by decide +kernel)) <|
    zall_c (zs_iinc X (pc := 23) (by decide) (by decide +kernel)) <|
    zall_c (zs_goto X (pc := 26) (off := (-19)) (by decide +kernel) (by decide)) <|
    zall_c (zs_aload_n X (pc := 29) (q := 0) rfl (by decide +kernel)) <|
    zall_c (zs_geti X (pc := 30) zc_X5 (by decide) (zin ui_X5) (.tail _ gw_1_235) (by decide +kernel) (by decide +kernel)) <|
    zall_c (zs_istore_n X (pc := 33) (q := 2) rfl (by decide) (by decide +kernel)) <|
    zall_c (zs_iconst X (pc := 34) (by decide) (by decide +kernel)) <|
    zall_c (zs_istore_n X (pc := 35) (q := 3) rfl (by decide) (by decide +kernel)) <|
    zall_c (zs_iload_n X (pc := 36) (q := 3) rfl (by decide +kernel)) <|
    zall_c (zs_iconst X (pc := 37) (by decide) (by decide +kernel)) <|
    zall_c (zs_aload_n X (pc := 38) (q := 0) rfl (by decide +kernel)) <|
    zall_c (zs_geti X (pc := 39) zc_X5 (by decide) (zin ui_X5) (.tail _ gw_1_235) (by decide +kernel) (by decide +kernel)) <|
    zall_c (zs_ishl X (pc := 42) (by decide +kernel)) <|
    zall_c (zs_icmp_ge X (pc := 43) (off := 68) (by decide +kernel) (by decide)) <|
    zall_c (zs_iconst X (pc := 46) (by decide) (by decide +kernel)) <|
    zall_c (zs_istore X (pc := 47) (by decide) (by decide +kernel)) <|
    zall_c (zs_iconst X (pc := 49) (by decide) (by decide +kernel)) <|
    zall_c (zs_istore X (pc := 50) (by decide) (by decide +kernel)) <|
    zall_c (zs_iload X (pc := 52) (by decide +kernel)) <|
    zall_c (zs_aload_n X (pc := 54) (q := 0) rfl (by decide +kernel)) <|
    zall_c (zs_geti X (pc := 55) zc_X5 (by decide) (zin ui_X5) (.tail _ gw_1_235) (by decide +kernel) (by decide +kernel)) <|
    zall_c (zs_icmp_ge X (pc := 58) (off := 27) (by decide +kernel) (by decide)) <|
    zall_c (zs_iload_n X (pc := 61) (q := 3) rfl (by decide +kernel)) <|
    zall_c (zs_iconst X (pc := 62) (by decide) (by decide +kernel)) <|
    zall_c (zs_iload X (pc := 63) (by decide +kernel)) <|
    zall_c (zs_ishl X (pc := 65) (by decide +kernel)) <|
    zall_c (zs_iand X (pc := 66) (by decide +kernel)) <|
    zall_c (zs_if_eq X (pc := 67) (off := 12) (by decide +kernel) (by decide)) <|
    zall_c (zs_iload X (pc := 70) (by decide +kernel)) <|
    zall_c (zs_aload_n X (pc := 72) (q := 1) rfl (by decide +kernel)) <|
    zall_c (zs_iload X (pc := 73) (by decide +kernel)) <|
    zall_c (zs_iaload20 X (pc := 75) (by decide +kernel)) <|
    zall_c (zs_ior X (pc := 76) (by decide +kernel)) <|
    zall_c (zs_istore X (pc := 77) (by decide) (by decide +kernel)) <|
    zall_c (zs_iinc X (pc := 79) (by decide) (by decide +kernel)) <|
    zall_c (zs_goto X (pc := 82) (off := (-30)) (by decide +kernel) (by decide)) <|
    zall_c (zs_iload_n X (pc := 85) (q := 2) rfl (by decide +kernel)) <|
    zall_c (zs_aload_n X (pc := 86) (q := 0) rfl (by decide +kernel)) <|
    zall_c (zs_geti X (pc := 87) zc_X5 (by decide) (zin ui_X5) (.tail _ gw_1_235) (by decide +kernel) (by decide +kernel)) <|
    zall_c (zs_iload_n X (pc := 90) (q := 3) rfl (by decide +kernel)) <|
    zall_c (zs_callS0 X (pc := 91) (fun _ ht => ⟨(zCB ht gw_5_41 gw_1_30 gw_5_39 rfl rfl (by decide +kernel) ⟨Nat.le_of_ble_eq_true rfl, Nat.le_of_ble_eq_true rfl⟩), ht _ (.tail _ gw_5_40)⟩) h1 hout (by decide +kernel)) <|
    zall_c (zs_isub X (pc := 94) (by decide +kernel)) <|
    zall_c (zs_iload X (pc := 95) (by decide +kernel)) <|
    zall_c (zs_callS0 X (pc := 97) (fun _ ht => ⟨(zCB ht gw_5_41 gw_1_30 gw_5_39 rfl rfl (by decide +kernel) ⟨Nat.le_of_ble_eq_true rfl, Nat.le_of_ble_eq_true rfl⟩), ht _ (.tail _ gw_5_40)⟩) h1 hout (by decide +kernel)) <|
    zall_c (zs_iadd X (pc := 100) (by decide +kernel)) <|
    zall_c (zs_mmin X (pc := 101) (.tail _ gw_5_45) (.tail _ gw_3_110) (.tail _ gw_1_27) (.tail _ gw_3_111) (Nat.le_of_ble_eq_true rfl) (Nat.le_of_ble_eq_true rfl) (by decide +kernel)) <|
    zall_c (zs_istore_n X (pc := 104) (q := 2) rfl (by decide) (by decide +kernel)) <|
    zall_c (zs_iinc X (pc := 105) (by decide) (by decide +kernel)) <|
    zall_c (zs_goto X (pc := 108) (off := (-72)) (by decide +kernel) (by decide)) <|
    zall_c (zs_iload_n X (pc := 111) (q := 2) rfl (by decide +kernel)) <|
    zall_c (zs_iret X (pc := 112) rfl (by decide +kernel)) <|
    zall_n
theorem met_X5_greatestMatching {l : Launch} (hl : l.stackTraces = false) {T0 : ZTf} {T1 : ZTf} (h0 : zMet l yX5_rowsFor (Cond.code yX5_rowsFor cX5_rowsFor 4 (Option.some Jvm.ClassFile.FieldType.int) :: zG) rm_X5_rowsFor 0 0 T0) (h1 : zMet l yJ6_bitCount_0f7a4 (Cond.code yJ6_bitCount_0f7a4 cJ6_bitCount_0f7a4 1 (Option.some Jvm.ClassFile.FieldType.int) :: zG) rm_J6_bitCount_0f7a4 0 0 T1) {T : ZTf} (bd : zBd (cd_X5_greatestMatching T0 T1) 6 1 6 T) : zMet l yX5_greatestMatching (Cond.code yX5_greatestMatching cX5_greatestMatching 6 (Option.some Jvm.ClassFile.FieldType.int) :: zG) rm_X5_greatestMatching 1 6 T := zMet_of hl (by decide +kernel) rfl rfl rfl rfl (hs_X5_greatestMatching hl h0 h1) bd

abbrev rm_X5_startTaking : Room := { frames := 3, cells := 0, slots := 0, locals := 76 }
def cd_X5_startTaking (T0 : ZTf) : List (Nat × ZTr) := [(0, tAld 0 1), (1, tGetI 8 3 4), (4, tAld 0 5), (5, tGetI 8 1 8), (8, tAdd 9), (9, tIst 3 10), (10, tAld 0 11), (11, tGetR 8 7 14), (14, tIld 2 15), (15, tAal 31 16), (16, tIld 1 17), (17, tIld 3 18), (18, tCall0 3 T0 (zRcv 7) 21), (21, tAld 0 22), (22, tGetR 8 6 25), (25, tIld 1 26), (26, tAal 30 27), (27, tDup 28), (28, tGetI 10 4 31), (31, tC (zi 1) 32), (32, tAdd 33), (33, tPutI 10 4 (fun _ => True) 36), (36, tAld 0 37), (37, tGetR 8 6 40), (40, tIld 1 41), (41, tAal 30 42), (42, tDup 43), (43, tGetI 10 5 46), (46, tC (zi 1) 47), (47, tAdd 48), (48, tPutI 10 5 (fun _ => True) 51), (51, tIld 3 52), (52, tRi (fun _ => True))]
set_option maxRecDepth 100000 in
set_option maxHeartbeats 4000000 in
theorem hs_X5_startTaking {l : Launch} (hl : l.stackTraces = false) {T0 : ZTf} (h0 : zMet l yX4_addTaking (Cond.code yX4_addTaking cX4_addTaking 3 (Option.none : Option Jvm.ClassFile.FieldType) :: zG) rm_X4_addTaking 0 0 T0) (p : Program) (e : Env) (s : State) (m : MethodId) (args : Array Value) (below : List Frame) (meth : Method) (c : Code) (D : va_G) (A : Nat → Prop) (a0 : Nat → Nat) (M0 : ZM) (K : ZRet) (KX : ZEx) (X : zCtx p l rm_X5_startTaking s m args meth c cX5_startTaking RX5 (Cond.code yX5_startTaking cX5_startTaking 4 (Option.some Jvm.ClassFile.FieldType.int) :: zG) 4 (Option.some Jvm.ClassFile.FieldType.int) D A a0 M0 0 0) (hnm : meth.name = yX5_startTaking.name) (hout : ∀ x ∈ c.exceptionTable.toList, False) : ∀ q ∈ cd_X5_startTaking T0, zSd p l e rm_X5_startTaking s m args below meth c 4 D A a0 M0 K KX 0 0 q.1 q.2 :=
    zall_c (zs_aload_n X (pc := 0) (q := 0) rfl (by decide +kernel)) <|
    zall_c (zs_geti X (pc := 1) zc_X5 (by decide) (zin ui_X5) (.tail _ gw_1_233) (by decide +kernel) (by decide +kernel)) <|
    zall_c (zs_aload_n X (pc := 4) (q := 0) rfl (by decide +kernel)) <|
    zall_c (zs_geti X (pc := 5) zc_X5 (by decide) (zin ui_X5) (.tail _ gw_1_227) (by decide +kernel) (by decide +kernel)) <|
    zall_c (zs_iadd X (pc := 8) (by decide +kernel)) <|
    zall_c (zs_istore_n X (pc := 9) (q := 3) rfl (by decide) (by decide +kernel)) <|
    zall_c (zs_aload_n X (pc := 10) (q := 0) rfl (by decide +kernel)) <|
    zall_c (zs_getr X (pc := 11) zc_X5 (by decide) (zin ui_X5) (.tail _ gw_2_3) (by decide +kernel) (by decide +kernel)) <|
    zall_c (zs_iload_n X (pc := 14) (q := 2) rfl (by decide +kernel)) <|
    zall_c (zs_aaload X (pc := 15) (by decide) rfl (by decide +kernel)) <|
    zall_c (zs_iload_n X (pc := 16) (q := 1) rfl (by decide +kernel)) <|
    zall_c (zs_iload_n X (pc := 17) (q := 3) rfl (by decide +kernel)) <|
    zall_c (zs_callV0 X (pc := 18) zc_X4 (fun _ ht => ⟨(zCB ht gw_7_1 gw_1_10 gw_6_238 rfl rfl (by decide +kernel) ⟨Nat.le_of_ble_eq_true rfl, Nat.le_of_ble_eq_true rfl⟩), ht _ (.tail _ gw_6_239), ht _ (.tail _ gw_7_0)⟩) h0 hout (by decide +kernel)) <|
    zall_c (zs_aload_n X (pc := 21) (q := 0) rfl (by decide +kernel)) <|
    zall_c (zs_getr X (pc := 22) zc_X5 (by decide) (zin ui_X5) (.tail _ gw_2_0) (by decide +kernel) (by decide +kernel)) <|
    zall_c (zs_iload_n X (pc := 25) (q := 1) rfl (by decide +kernel)) <|
    zall_c (zs_aaload X (pc := 26) (by decide) rfl (by decide +kernel)) <|
    zall_c (zs_dup X (pc := 27) (by decide +kernel)) <|
    zall_c (zs_geti X (pc := 28) zc_X7 (by decide) (zin ui_X7) (.tail _ gw_1_131) (by decide +kernel) (by decide +kernel)) <|
    zall_c (zs_iconst X (pc := 31) (by decide) (by decide +kernel)) <|
    zall_c (zs_iadd X (pc := 32) (by decide +kernel)) <|
    zall_c (zs_puti X (pc := 33) (ty := Jvm.ClassFile.FieldType.int) zc_X7 (by decide) (zin ui_X7) tyX7_ok nmX7 (.tail _ gw_1_131) rfl (by decide +kernel) (by decide +kernel) (by decide +kernel) zP_int) <|
    zall_c (zs_aload_n X (pc := 36) (q := 0) rfl (by decide +kernel)) <|
    zall_c (zs_getr X (pc := 37) zc_X5 (by decide) (zin ui_X5) (.tail _ gw_2_0) (by decide +kernel) (by decide +kernel)) <|
    zall_c (zs_iload_n X (pc := 40) (q := 1) rfl (by decide +kernel)) <|
    zall_c (zs_aaload X (pc := 41) (by decide) rfl (by decide +kernel)) <|
    zall_c (zs_dup X (pc := 42) (by decide +kernel)) <|
    zall_c (zs_geti X (pc := 43) zc_X7 (by decide) (zin ui_X7) (.tail _ gw_1_134) (by decide +kernel) (by decide +kernel)) <|
    zall_c (zs_iconst X (pc := 46) (by decide) (by decide +kernel)) <|
    zall_c (zs_iadd X (pc := 47) (by decide +kernel)) <|
    zall_c (zs_puti X (pc := 48) (ty := Jvm.ClassFile.FieldType.int) zc_X7 (by decide) (zin ui_X7) tyX7_ok nmX7 (.tail _ gw_1_134) rfl (by decide +kernel) (by decide +kernel) (by decide +kernel) zP_int) <|
    zall_c (zs_iload_n X (pc := 51) (q := 3) rfl (by decide +kernel)) <|
    zall_c (zs_iret X (pc := 52) rfl (by decide +kernel)) <|
    zall_n
theorem met_X5_startTaking {l : Launch} (hl : l.stackTraces = false) {T0 : ZTf} (h0 : zMet l yX4_addTaking (Cond.code yX4_addTaking cX4_addTaking 3 (Option.none : Option Jvm.ClassFile.FieldType) :: zG) rm_X4_addTaking 0 0 T0) {T : ZTf} (bd : zBd (cd_X5_startTaking T0) 4 0 0 T) : zMet l yX5_startTaking (Cond.code yX5_startTaking cX5_startTaking 4 (Option.some Jvm.ClassFile.FieldType.int) :: zG) rm_X5_startTaking 0 0 T := zMet_of hl (by decide +kernel) rfl rfl rfl rfl (hs_X5_startTaking hl h0) bd

abbrev rm_X6_judgePair : Room := { frames := 2, cells := 0, slots := 0, locals := 52 }
def cd_X6_judgePair (T0 : ZTf) (T1 : ZTf) : List (Nat × ZTr) := [(0, tAld 0 1), (1, tGetR 9 5 4), (4, tC (zi 0) 5), (5, tIal 20 6), (6, tC (zi (-1)) 7), (7, tIc_eq 20 10), (10, tAld 0 11), (11, tGetR 9 5 14), (14, tC (zi 1) 15), (15, tIal 20 16), (16, tC (zi (-1)) 17), (17, tIc_ne 21 20), (20, tRv), (21, tAld 1 22), (22, tAld 0 23), (23, tGetR 9 5 26), (26, tC (zi 0) 27), (27, tIal 20 28), (28, tAld 0 29), (29, tGetR 9 5 32), (32, tC (zi 1) 33), (33, tIal 20 34), (34, tCall0 3 T0 (zRcv 8) 37), (37, tIf_eq 49 40), (40, tAld 0 41), (41, tC (zi 0) 42), (42, tC (zi 1) 43), (43, tCall0 3 T1 (zRcv 9) 46), (46, tGo 54), (49, tAld 0 50), (50, tC (zi 1) 51), (51, tPutI 9 0 (fun _ => True) 54), (54, tRv)]
set_option maxRecDepth 100000 in
set_option maxHeartbeats 4000000 in
theorem hs_X6_judgePair {l : Launch} (hl : l.stackTraces = false) {T0 : ZTf} {T1 : ZTf} (h0 : zMet l yX5_agree (Cond.code yX5_agree cX5_agree 3 (Option.some Jvm.ClassFile.FieldType.boolean) :: zG) rm_X5_agree 0 0 T0) (h1 : zMet l yX6_finishBy (Cond.code yX6_finishBy cX6_finishBy 3 (Option.none : Option Jvm.ClassFile.FieldType) :: zG) rm_X6_finishBy 0 0 T1) (p : Program) (e : Env) (s : State) (m : MethodId) (args : Array Value) (below : List Frame) (meth : Method) (c : Code) (D : va_G) (A : Nat → Prop) (a0 : Nat → Nat) (M0 : ZM) (K : ZRet) (KX : ZEx) (X : zCtx p l rm_X6_judgePair s m args meth c cX6_judgePair RX6 (Cond.code yX6_judgePair cX6_judgePair 2 (Option.none : Option Jvm.ClassFile.FieldType) :: zG) 2 (Option.none : Option Jvm.ClassFile.FieldType) D A a0 M0 0 0) (hnm : meth.name = yX6_judgePair.name) (hout : ∀ x ∈ c.exceptionTable.toList, False) : ∀ q ∈ cd_X6_judgePair T0 T1, zSd p l e rm_X6_judgePair s m args below meth c 2 D A a0 M0 K KX 0 0 q.1 q.2 :=
    zall_c (zs_aload_n X (pc := 0) (q := 0) rfl (by decide +kernel)) <|
    zall_c (zs_getr X (pc := 1) zc_X6 (by decide) (zin ui_X6) (.tail _ gw_2_101) (by decide +kernel) (by decide +kernel)) <|
    zall_c (zs_iconst X (pc := 4) (by decide) (by decide +kernel)) <|
    zall_c (zs_iaload20 X (pc := 5) (by decide +kernel)) <|
    zall_c (zs_iconst X (pc := 6) (by decide) (by decide +kernel)) <|
    zall_c (zs_icmp_eq X (pc := 7) (off := 13) (by decide +kernel) (by decide)) <|
    zall_c (zs_aload_n X (pc := 10) (q := 0) rfl (by decide +kernel)) <|
    zall_c (zs_getr X (pc := 11) zc_X6 (by decide) (zin ui_X6) (.tail _ gw_2_101) (by decide +kernel) (by decide +kernel)) <|
    zall_c (zs_iconst X (pc := 14) (by decide) (by decide +kernel)) <|
    zall_c (zs_iaload20 X (pc := 15) (by decide +kernel)) <|
    zall_c (zs_iconst X (pc := 16) (by decide) (by decide +kernel)) <|
    zall_c (zs_icmp_ne X (pc := 17) (off := 4) (by decide +kernel) (by decide)) <|
    zall_c (zs_vret X (pc := 20) rfl (by decide +kernel)) <|
    zall_c (zs_aload_n X (pc := 21) (q := 1) rfl (by decide +kernel)) <|
    zall_c (zs_aload_n X (pc := 22) (q := 0) rfl (by decide +kernel)) <|
    zall_c (zs_getr X (pc := 23) zc_X6 (by decide) (zin ui_X6) (.tail _ gw_2_101) (by decide +kernel) (by decide +kernel)) <|
    zall_c (zs_iconst X (pc := 26) (by decide) (by decide +kernel)) <|
    zall_c (zs_iaload20 X (pc := 27) (by decide +kernel)) <|
    zall_c (zs_aload_n X (pc := 28) (q := 0) rfl (by decide +kernel)) <|
    zall_c (zs_getr X (pc := 29) zc_X6 (by decide) (zin ui_X6) (.tail _ gw_2_101) (by decide +kernel) (by decide +kernel)) <|
    zall_c (zs_iconst X (pc := 32) (by decide) (by decide +kernel)) <|
    zall_c (zs_iaload20 X (pc := 33) (by decide +kernel)) <|
    zall_c (zs_callV0 X (pc := 34) zc_X5 (fun _ ht => ⟨(zCB ht gw_6_109 gw_1_8 gw_6_175 rfl rfl (by decide +kernel) ⟨Nat.le_of_ble_eq_true rfl, Nat.le_of_ble_eq_true rfl⟩), ht _ (.tail _ gw_6_107), ht _ (.tail _ gw_6_108)⟩) h0 hout (by decide +kernel)) <|
    zall_c (zs_if_eq X (pc := 37) (off := 12) (by decide +kernel) (by decide)) <|
    zall_c (zs_aload_n X (pc := 40) (q := 0) rfl (by decide +kernel)) <|
    zall_c (zs_iconst X (pc := 41) (by decide) (by decide +kernel)) <|
    zall_c (zs_iconst X (pc := 42) (by decide) (by decide +kernel)) <|
    zall_c (zs_callV0 X (pc := 43) zc_X6 (fun _ ht => ⟨(zCB ht gw_6_179 gw_1_12 gw_6_176 rfl rfl (by decide +kernel) ⟨Nat.le_of_ble_eq_true rfl, Nat.le_of_ble_eq_true rfl⟩), ht _ (.tail _ gw_6_178), ht _ (.tail _ gp_24)⟩) h1 hout (by decide +kernel)) <|
    zall_c (zs_goto X (pc := 46) (off := 8) (by decide +kernel) (by decide)) <|
    zall_c (zs_aload_n X (pc := 49) (q := 0) rfl (by decide +kernel)) <|
    zall_c (zs_iconst X (pc := 50) (by decide) (by decide +kernel)) <|
    zall_c (zs_puti X (pc := 51) (ty := Jvm.ClassFile.FieldType.int) zc_X6 (by decide) (zin ui_X6) tyX6_ok nmX6 (.tail _ gw_2_89) rfl (by decide +kernel) (by decide +kernel) (by decide +kernel) zP_int) <|
    zall_c (zs_vret X (pc := 54) rfl (by decide +kernel)) <|
    zall_n
theorem met_X6_judgePair {l : Launch} (hl : l.stackTraces = false) {T0 : ZTf} {T1 : ZTf} (h0 : zMet l yX5_agree (Cond.code yX5_agree cX5_agree 3 (Option.some Jvm.ClassFile.FieldType.boolean) :: zG) rm_X5_agree 0 0 T0) (h1 : zMet l yX6_finishBy (Cond.code yX6_finishBy cX6_finishBy 3 (Option.none : Option Jvm.ClassFile.FieldType) :: zG) rm_X6_finishBy 0 0 T1) {T : ZTf} (bd : zBd (cd_X6_judgePair T0 T1) 2 0 0 T) : zMet l yX6_judgePair (Cond.code yX6_judgePair cX6_judgePair 2 (Option.none : Option Jvm.ClassFile.FieldType) :: zG) rm_X6_judgePair 0 0 T := zMet_of hl (by decide +kernel) rfl rfl rfl rfl (hs_X6_judgePair hl h0 h1) bd

abbrev rm_X6_judgeThird : Room := { frames := 2, cells := 0, slots := 0, locals := 53 }
def cd_X6_judgeThird (T0 : ZTf) (T1 : ZTf) (T2 : ZTf) : List (Nat × ZTr) := [(0, tAld 1 1), (1, tAld 0 2), (2, tGetR 9 5 5), (5, tC (zi 0) 6), (6, tIal 20 7), (7, tAld 0 8), (8, tGetR 9 5 11), (11, tC (zi 2) 12), (12, tIal 20 13), (13, tCall0 3 T0 (zRcv 8) 16), (16, tIst 2 17), (17, tAld 1 18), (18, tAld 0 19), (19, tGetR 9 5 22), (22, tC (zi 1) 23), (23, tIal 20 24), (24, tAld 0 25), (25, tGetR 9 5 28), (28, tC (zi 2) 29), (29, tIal 20 30), (30, tCall0 3 T0 (zRcv 8) 33), (33, tIst 3 34), (34, tIld 2 35), (35, tIf_ne 58 38), (38, tIld 3 39), (39, tIf_ne 58 42), (42, tAld 0 43), (43, tC (zi 3) 44), (44, tPutI 9 0 (fun _ => True) 47), (47, tAld 0 48), (48, tGetR 9 4 51), (51, tC (zi (-1)) 52), (52, tCall0 2 T1 zAny 55), (55, tGo 140), (58, tAld 0 59), (59, tGetR 9 5 62), (62, tC (zi 0) 63), (63, tIal 20 64), (64, tAld 0 65), (65, tGetR 9 5 68), (68, tC (zi 2) 69), (69, tIal 20 70), (70, tSub 71), (71, tMth1 74), (74, tAld 0 75), (75, tGetR 9 5 78), (78, tC (zi 1) 79), (79, tIal 20 80), (80, tAld 0 81), (81, tGetR 9 5 84), (84, tC (zi 2) 85), (85, tIal 20 86), (86, tSub 87), (87, tMth1 90), (90, tIc_gt 118 93), (93, tAld 0 94), (94, tC (zi 0) 95), (95, tC (zi 2) 96), (96, tCall0 3 T2 (zRcv 9) 99), (99, tAld 0 100), (100, tGetR 9 4 103), (103, tC (zi 1) 104), (104, tIld 3 105), (105, tIf_eq 112 108), (108, tC (zi 0) 109), (109, tGo 114), (112, tC (zi (-3)) 114), (114, tIas 20 (fun _ => True) 115), (115, tGo 140), (118, tAld 0 119), (119, tC (zi 1) 120), (120, tC (zi 2) 121), (121, tCall0 3 T2 (zRcv 9) 124), (124, tAld 0 125), (125, tGetR 9 4 128), (128, tC (zi 0) 129), (129, tIld 2 130), (130, tIf_eq 137 133), (133, tC (zi 0) 134), (134, tGo 139), (137, tC (zi (-3)) 139), (139, tIas 20 (fun _ => True) 140), (140, tRv)]
set_option maxRecDepth 100000 in
set_option maxHeartbeats 4000000 in
theorem hs_X6_judgeThird {l : Launch} (hl : l.stackTraces = false) {T0 : ZTf} {T1 : ZTf} {T2 : ZTf} (h0 : zMet l yX5_agree (Cond.code yX5_agree cX5_agree 3 (Option.some Jvm.ClassFile.FieldType.boolean) :: zG) rm_X5_agree 0 0 T0) (h1 : zMet l yJ7_fill_53178 (Cond.code yJ7_fill_53178 cJ7_fill_53178 4 (Option.none : Option Jvm.ClassFile.FieldType) :: zG) rm_J7_fill_53178 0 0 T1) (h2 : zMet l yX6_finishBy (Cond.code yX6_finishBy cX6_finishBy 3 (Option.none : Option Jvm.ClassFile.FieldType) :: zG) rm_X6_finishBy 0 0 T2) (p : Program) (e : Env) (s : State) (m : MethodId) (args : Array Value) (below : List Frame) (meth : Method) (c : Code) (D : va_G) (A : Nat → Prop) (a0 : Nat → Nat) (M0 : ZM) (K : ZRet) (KX : ZEx) (X : zCtx p l rm_X6_judgeThird s m args meth c cX6_judgeThird RX6 (Cond.code yX6_judgeThird cX6_judgeThird 4 (Option.none : Option Jvm.ClassFile.FieldType) :: zG) 4 (Option.none : Option Jvm.ClassFile.FieldType) D A a0 M0 0 0) (hnm : meth.name = yX6_judgeThird.name) (hout : ∀ x ∈ c.exceptionTable.toList, False) : ∀ q ∈ cd_X6_judgeThird T0 T1 T2, zSd p l e rm_X6_judgeThird s m args below meth c 4 D A a0 M0 K KX 0 0 q.1 q.2 :=
    zall_c (zs_aload_n X (pc := 0) (q := 1) rfl (by decide +kernel)) <|
    zall_c (zs_aload_n X (pc := 1) (q := 0) rfl (by decide +kernel)) <|
    zall_c (zs_getr X (pc := 2) zc_X6 (by decide) (zin ui_X6) (.tail _ gw_2_101) (by decide +kernel) (by decide +kernel)) <|
    zall_c (zs_iconst X (pc := 5) (by decide) (by decide +kernel)) <|
    zall_c (zs_iaload20 X (pc := 6) (by decide +kernel)) <|
    zall_c (zs_aload_n X (pc := 7) (q := 0) rfl (by decide +kernel)) <|
    zall_c (zs_getr X (pc := 8) zc_X6 (by decide) (zin ui_X6) (.tail _ gw_2_101) (by decide +kernel) (by decide +kernel)) <|
    zall_c (zs_iconst X (pc := 11) (by decide) (by decide +kernel)) <|
    zall_c (zs_iaload20 X (pc := 12) (by decide +kernel)) <|
    zall_c (zs_callV0 X (pc := 13) zc_X5 (fun _ ht => ⟨(zCB ht gw_6_109 gw_1_8 gw_6_175 rfl rfl (by decide +kernel) ⟨Nat.le_of_ble_eq_true rfl, Nat.le_of_ble_eq_true rfl⟩), ht _ (.tail _ gw_6_107), ht _ (.tail _ gw_6_108)⟩) h0 hout (by decide +kernel)) <|
    zall_c (zs_istore_n X (pc := 16) (q := 2) rfl (by decide) (by decide +kernel)) <|
    zall_c (zs_aload_n X (pc := 17) (q := 1) rfl (by decide +kernel)) <|
    zall_c (zs_aload_n X (pc := 18) (q := 0) rfl (by decide +kernel)) <|
    zall_c (zs_getr X (pc := 19) zc_X6 (by decide) (zin ui_X6) (.tail _ gw_2_101) (by decide +kernel) (by decide +kernel)) <|
    zall_c (zs_iconst X (pc := 22) (by decide) (by decide +kernel)) <|
    zall_c (zs_iaload20 X (pc := 23) (by decide +kernel)) <|
    zall_c (zs_aload_n X (pc := 24) (q := 0) rfl (by decide +kernel)) <|
    zall_c (zs_getr X (pc := 25) zc_X6 (by decide) (zin ui_X6) (.tail _ gw_2_101) (by decide +kernel) (by decide +kernel)) <|
    zall_c (zs_iconst X (pc := 28) (by decide) (by decide +kernel)) <|
    zall_c (zs_iaload20 X (pc := 29) (by decide +kernel)) <|
    zall_c (zs_callV0 X (pc := 30) zc_X5 (fun _ ht => ⟨(zCB ht gw_6_109 gw_1_8 gw_6_175 rfl rfl (by decide +kernel) ⟨Nat.le_of_ble_eq_true rfl, Nat.le_of_ble_eq_true rfl⟩), ht _ (.tail _ gw_6_107), ht _ (.tail _ gw_6_108)⟩) h0 hout (by decide +kernel)) <|
    zall_c (zs_istore_n X (pc := 33) (q := 3) rfl (by decide) (by decide +kernel)) <|
    zall_c (zs_iload_n X (pc := 34) (q := 2) rfl (by decide +kernel)) <|
    zall_c (zs_if_ne X (pc := 35) (off := 23) (by decide +kernel) (by decide)) <|
    zall_c (zs_iload_n X (pc := 38) (q := 3) rfl (by decide +kernel)) <|
    zall_c (zs_if_ne X (pc := 39) (off := 19) (by decide +kernel) (by decide)) <|
    zall_c (zs_aload_n X (pc := 42) (q := 0) rfl (by decide +kernel)) <|
    zall_c (zs_iconst X (pc := 43) (by decide) (by decide +kernel)) <|
    zall_c (zs_puti X (pc := 44) (ty := Jvm.ClassFile.FieldType.int) zc_X6 (by decide) (zin ui_X6) tyX6_ok nmX6 (.tail _ gw_2_89) rfl (by decide +kernel) (by decide +kernel) (by decide +kernel) zP_int) <|
    zall_c (zs_aload_n X (pc := 47) (q := 0) rfl (by decide +kernel)) <|
    zall_c (zs_getr X (pc := 48) zc_X6 (by decide) (zin ui_X6) (.tail _ gw_2_98) (by decide +kernel) (by decide +kernel)) <|
    zall_c (zs_iconst X (pc := 51) (by decide) (by decide +kernel)) <|
    zall_c (zs_callS0 X (pc := 52) (fun _ ht => ⟨(zCB ht gw_2_166 gw_1_19 gw_6_184 rfl rfl (by decide +kernel) ⟨Nat.le_of_ble_eq_true rfl, Nat.le_of_ble_eq_true rfl⟩), ht _ (.tail _ gw_2_165)⟩) h1 hout (by decide +kernel)) <|
    zall_c (zs_goto X (pc := 55) (off := 85) (by decide +kernel) (by decide)) <|
    zall_c (zs_aload_n X (pc := 58) (q := 0) rfl (by decide +kernel)) <|
    zall_c (zs_getr X (pc := 59) zc_X6 (by decide) (zin ui_X6) (.tail _ gw_2_101) (by decide +kernel) (by decide +kernel)) <|
    zall_c (zs_iconst X (pc := 62) (by decide) (by decide +kernel)) <|
    zall_c (zs_iaload20 X (pc := 63) (by decide +kernel)) <|
    zall_c (zs_aload_n X (pc := 64) (q := 0) rfl (by decide +kernel)) <|
    zall_c (zs_getr X (pc := 65) zc_X6 (by decide) (zin ui_X6) (.tail _ gw_2_101) (by decide +kernel) (by decide +kernel)) <|
    zall_c (zs_iconst X (pc := 68) (by decide) (by decide +kernel)) <|
    zall_c (zs_iaload20 X (pc := 69) (by decide +kernel)) <|
    zall_c (zs_isub X (pc := 70) (by decide +kernel)) <|
    zall_c (zs_mabs X (pc := 71) (.tail _ gw_6_185) (.tail _ gw_6_111) (.tail _ gw_1_27) (.tail _ gw_6_112) (Nat.le_of_ble_eq_true rfl) (Nat.le_of_ble_eq_true rfl) (by decide +kernel)) <|
    zall_c (zs_aload_n X (pc := 74) (q := 0) rfl (by decide +kernel)) <|
    zall_c (zs_getr X (pc := 75) zc_X6 (by decide) (zin ui_X6) (.tail _ gw_2_101) (by decide +kernel) (by decide +kernel)) <|
    zall_c (zs_iconst X (pc := 78) (by decide) (by decide +kernel)) <|
    zall_c (zs_iaload20 X (pc := 79) (by decide +kernel)) <|
    zall_c (zs_aload_n X (pc := 80) (q := 0) rfl (by decide +kernel)) <|
    zall_c (zs_getr X (pc := 81) zc_X6 (by decide) (zin ui_X6) (.tail _ gw_2_101) (by decide +kernel) (by decide +kernel)) <|
    zall_c (zs_iconst X (pc := 84) (by decide) (by decide +kernel)) <|
    zall_c (zs_iaload20 X (pc := 85) (by decide +kernel)) <|
    zall_c (zs_isub X (pc := 86) (by decide +kernel)) <|
    zall_c (zs_mabs X (pc := 87) (.tail _ gw_6_185) (.tail _ gw_6_111) (.tail _ gw_1_27) (.tail _ gw_6_112) (Nat.le_of_ble_eq_true rfl) (Nat.le_of_ble_eq_true rfl) (by decide +kernel)) <|
    zall_c (zs_icmp_gt X (pc := 90) (off := 28) (by decide +kernel) (by decide)) <|
    zall_c (zs_aload_n X (pc := 93) (q := 0) rfl (by decide +kernel)) <|
    zall_c (zs_iconst X (pc := 94) (by decide) (by decide +kernel)) <|
    zall_c (zs_iconst X (pc := 95) (by decide) (by decide +kernel)) <|
    zall_c (zs_callV0 X (pc := 96) zc_X6 (fun _ ht => ⟨(zCB ht gw_6_179 gw_1_12 gw_6_176 rfl rfl (by decide +kernel) ⟨Nat.le_of_ble_eq_true rfl, Nat.le_of_ble_eq_true rfl⟩), ht _ (.tail _ gw_6_178), ht _ (.tail _ gp_24)⟩) h2 hout (by decide +kernel)) <|
    zall_c (zs_aload_n X (pc := 99) (q := 0) rfl (by decide +kernel)) <|
    zall_c (zs_getr X (pc := 100) zc_X6 (by decide) (zin ui_X6) (.tail _ gw_2_98) (by decide +kernel) (by decide +kernel)) <|
    zall_c (zs_iconst X (pc := 103) (by decide) (by decide +kernel)) <|
    zall_c (zs_iload_n X (pc := 104) (q := 3) rfl (by decide +kernel)) <|
    zall_c (zs_if_eq X (pc := 105) (off := 7) (by decide +kernel) (by decide)) <|
    zall_c (zs_iconst X (pc := 108) (by decide) (by decide +kernel)) <|
    zall_c (zs_goto X (pc := 109) (off := 5) (by decide +kernel) (by decide)) <|
    zall_c (zs_bipush X (pc := 112) (by decide) (by decide +kernel) (by decide +kernel)) <|
    zall_c (zs_iastore20 X (pc := 114) (by decide +kernel)) <|
    zall_c (zs_goto X (pc := 115) (off := 25) (by decide +kernel) (by decide)) <|
    zall_c (zs_aload_n X (pc := 118) (q := 0) rfl (by decide +kernel)) <|
    zall_c (zs_iconst X (pc := 119) (by decide) (by decide +kernel)) <|
    zall_c (zs_iconst X (pc := 120) (by decide) (by decide +kernel)) <|
    zall_c (zs_callV0 X (pc := 121) zc_X6 (fun _ ht => ⟨(zCB ht gw_6_179 gw_1_12 gw_6_176 rfl rfl (by decide +kernel) ⟨Nat.le_of_ble_eq_true rfl, Nat.le_of_ble_eq_true rfl⟩), ht _ (.tail _ gw_6_178), ht _ (.tail _ gp_24)⟩) h2 hout (by decide +kernel)) <|
    zall_c (zs_aload_n X (pc := 124) (q := 0) rfl (by decide +kernel)) <|
    zall_c (zs_getr X (pc := 125) zc_X6 (by decide) (zin ui_X6) (.tail _ gw_2_98) (by decide +kernel) (by decide +kernel)) <|
    zall_c (zs_iconst X (pc := 128) (by decide) (by decide +kernel)) <|
    zall_c (zs_iload_n X (pc := 129) (q := 2) rfl (by decide +kernel)) <|
    zall_c (zs_if_eq X (pc := 130) (off := 7) (by decide +kernel) (by decide)) <|
    zall_c (zs_iconst X (pc := 133) (by decide) (by decide +kernel)) <|
    zall_c (zs_goto X (pc := 134) (off := 5) (by decide +kernel) (by decide)) <|
    zall_c (zs_bipush X (pc := 137) (by decide) (by decide +kernel) (by decide +kernel)) <|
    zall_c (zs_iastore20 X (pc := 139) (by decide +kernel)) <|
    zall_c (zs_vret X (pc := 140) rfl (by decide +kernel)) <|
    zall_n
theorem met_X6_judgeThird {l : Launch} (hl : l.stackTraces = false) {T0 : ZTf} {T1 : ZTf} {T2 : ZTf} (h0 : zMet l yX5_agree (Cond.code yX5_agree cX5_agree 3 (Option.some Jvm.ClassFile.FieldType.boolean) :: zG) rm_X5_agree 0 0 T0) (h1 : zMet l yJ7_fill_53178 (Cond.code yJ7_fill_53178 cJ7_fill_53178 4 (Option.none : Option Jvm.ClassFile.FieldType) :: zG) rm_J7_fill_53178 0 0 T1) (h2 : zMet l yX6_finishBy (Cond.code yX6_finishBy cX6_finishBy 3 (Option.none : Option Jvm.ClassFile.FieldType) :: zG) rm_X6_finishBy 0 0 T2) {T : ZTf} (bd : zBd (cd_X6_judgeThird T0 T1 T2) 4 0 0 T) : zMet l yX6_judgeThird (Cond.code yX6_judgeThird cX6_judgeThird 4 (Option.none : Option Jvm.ClassFile.FieldType) :: zG) rm_X6_judgeThird 0 0 T := zMet_of hl (by decide +kernel) rfl rfl rfl rfl (hs_X6_judgeThird hl h0 h1 h2) bd

abbrev rm_X7_changeTrust : Room := { frames := 2, cells := 0, slots := 0, locals := 50 }
def cd_X7_changeTrust (T0 : ZTf) : List (Nat × ZTr) := [(0, tAld 0 1), (1, tAld 0 2), (2, tGetI 10 3 5), (5, tIld 1 6), (6, tAdd 7), (7, tCall0 1 (zNt T0) zAny 10), (10, tPutI 10 3 (fun _ => True) 13), (13, tRv)]
set_option maxRecDepth 100000 in
set_option maxHeartbeats 4000000 in
theorem hs_X7_changeTrust {l : Launch} (hl : l.stackTraces = false) {T0 : ZTf} (h0 : zMet l yX8_withinTrust (Cond.code yX8_withinTrust cX8_withinTrust 1 (Option.some Jvm.ClassFile.FieldType.int) :: zG) rm_X8_withinTrust 0 0 T0) (p : Program) (e : Env) (s : State) (m : MethodId) (args : Array Value) (below : List Frame) (meth : Method) (c : Code) (D : va_G) (A : Nat → Prop) (a0 : Nat → Nat) (M0 : ZM) (K : ZRet) (KX : ZEx) (X : zCtx p l rm_X7_changeTrust s m args meth c cX7_changeTrust RX7 (Cond.code yX7_changeTrust cX7_changeTrust 2 (Option.none : Option Jvm.ClassFile.FieldType) :: zG) 2 (Option.none : Option Jvm.ClassFile.FieldType) D A a0 M0 0 0) (hnm : meth.name = yX7_changeTrust.name) (hout : ∀ x ∈ c.exceptionTable.toList, False) : ∀ q ∈ cd_X7_changeTrust T0, zSd p l e rm_X7_changeTrust s m args below meth c 2 D A a0 M0 K KX 0 0 q.1 q.2 :=
    zall_c (zs_aload_n X (pc := 0) (q := 0) rfl (by decide +kernel)) <|
    zall_c (zs_aload_n X (pc := 1) (q := 0) rfl (by decide +kernel)) <|
    zall_c (zs_geti X (pc := 2) zc_X7 (by decide) (zin ui_X7) (.tail _ gw_1_125) (by decide +kernel) (by decide +kernel)) <|
    zall_c (zs_iload_n X (pc := 5) (q := 1) rfl (by decide +kernel)) <|
    zall_c (zs_iadd X (pc := 6) (by decide +kernel)) <|
    zall_c (zs_callSN0 X (pc := 7) (idx := 43) (host := "ReviewTable") (fun _ ht hxw => ⟨(zCN ht gw_6_195 gw_1_1 (by decide +kernel) hxw rfl rfl (by decide +kernel) ⟨Nat.le_of_ble_eq_true rfl, Nat.le_of_ble_eq_true rfl⟩), ht _ (.tail _ gw_6_194), trivial⟩) h0 (by decide +kernel)) <|
    zall_c (zs_puti X (pc := 10) (ty := Jvm.ClassFile.FieldType.int) zc_X7 (by decide) (zin ui_X7) tyX7_ok nmX7 (.tail _ gw_1_125) rfl (by decide +kernel) (by decide +kernel) (by decide +kernel) zP_int) <|
    zall_c (zs_vret X (pc := 13) rfl (by decide +kernel)) <|
    zall_n
theorem met_X7_changeTrust {l : Launch} (hl : l.stackTraces = false) {T0 : ZTf} (h0 : zMet l yX8_withinTrust (Cond.code yX8_withinTrust cX8_withinTrust 1 (Option.some Jvm.ClassFile.FieldType.int) :: zG) rm_X8_withinTrust 0 0 T0) {T : ZTf} (bd : zBd (cd_X7_changeTrust T0) 2 0 0 T) : zMet l yX7_changeTrust (Cond.code yX7_changeTrust cX7_changeTrust 2 (Option.none : Option Jvm.ClassFile.FieldType) :: zG) rm_X7_changeTrust 0 0 T := zMet_of hl (by decide +kernel) rfl rfl rfl rfl (hs_X7_changeTrust hl h0) bd

abbrev rm_X8_truncate : Room := { frames := 7, cells := 1, slots := 6, locals := 112 }
def cd_X8_truncate (T0 : ZTf) : List (Nat × ZTr) := [(0, tIld 1 1), (1, tC (zi 0) 2), (2, tAld 0 3), (3, tGetR 11 1 6), (6, tGetI 5 1 9), (9, tCall 3 1 6 T0 zAny 12), (12, tAld 0 13), (13, tGetR 11 1 16), (16, tIld 1 17), (17, tPutI 5 1 (fun _ => True) 20), (20, tRv)]
set_option maxRecDepth 100000 in
set_option maxHeartbeats 4000000 in
theorem hs_X8_truncate {l : Launch} (hl : l.stackTraces = false) {T0 : ZTf} (h0 : zMet l yX8_requireRange (Cond.code yX8_requireRange cX8_requireRange 3 (Option.none : Option Jvm.ClassFile.FieldType) :: zG) rm_X8_requireRange 1 6 T0) (p : Program) (e : Env) (s : State) (m : MethodId) (args : Array Value) (below : List Frame) (meth : Method) (c : Code) (D : va_G) (A : Nat → Prop) (a0 : Nat → Nat) (M0 : ZM) (K : ZRet) (KX : ZEx) (X : zCtx p l rm_X8_truncate s m args meth c cX8_truncate RX8 (Cond.code yX8_truncate cX8_truncate 2 (Option.none : Option Jvm.ClassFile.FieldType) :: zG) 2 (Option.none : Option Jvm.ClassFile.FieldType) D A a0 M0 1 6) (hnm : meth.name = yX8_truncate.name) (hout : ∀ x ∈ c.exceptionTable.toList, False) : ∀ q ∈ cd_X8_truncate T0, zSd p l e rm_X8_truncate s m args below meth c 2 D A a0 M0 K KX 1 6 q.1 q.2 :=
    zall_c (zs_iload_n X (pc := 0) (q := 1) rfl (by decide +kernel)) <|
    zall_c (zs_iconst X (pc := 1) (by decide) (by decide +kernel)) <|
    zall_c (zs_aload_n X (pc := 2) (q := 0) rfl (by decide +kernel)) <|
    zall_c (zs_getr X (pc := 3) zc_X8 (by decide) (zin ui_X8) (.tail _ gw_2_122) (by decide +kernel) (by decide +kernel)) <|
    zall_c (zs_geti X (pc := 6) zc_X1 (by decide) (zin ui_X1) (.tail _ gw_1_90) (by decide +kernel) (by decide +kernel)) <|
    zall_c (zs_callS X (pc := 9) (fun _ ht => ⟨(zCB ht gw_5_171 gw_1_1 gw_5_169 rfl rfl (by decide +kernel) ⟨Nat.le_of_ble_eq_true rfl, Nat.le_of_ble_eq_true rfl⟩), ht _ (.tail _ gw_5_170)⟩) h0 hout (by decide +kernel)) <|
    zall_c (zs_aload_n X (pc := 12) (q := 0) rfl (by decide +kernel)) <|
    zall_c (zs_getr X (pc := 13) zc_X8 (by decide) (zin ui_X8) (.tail _ gw_2_122) (by decide +kernel) (by decide +kernel)) <|
    zall_c (zs_iload_n X (pc := 16) (q := 1) rfl (by decide +kernel)) <|
    zall_c (zs_puti X (pc := 17) (ty := Jvm.ClassFile.FieldType.int) zc_X1 (by decide) (zin ui_X1) tyX1_ok nmX1 (.tail _ gw_1_90) rfl (by decide +kernel) (by decide +kernel) (by decide +kernel) zP_int) <|
    zall_c (zs_vret X (pc := 20) rfl (by decide +kernel)) <|
    zall_n
theorem met_X8_truncate {l : Launch} (hl : l.stackTraces = false) {T0 : ZTf} (h0 : zMet l yX8_requireRange (Cond.code yX8_requireRange cX8_requireRange 3 (Option.none : Option Jvm.ClassFile.FieldType) :: zG) rm_X8_requireRange 1 6 T0) {T : ZTf} (bd : zBd (cd_X8_truncate T0) 2 1 6 T) : zMet l yX8_truncate (Cond.code yX8_truncate cX8_truncate 2 (Option.none : Option Jvm.ClassFile.FieldType) :: zG) rm_X8_truncate 1 6 T := zMet_of hl (by decide +kernel) rfl rfl rfl rfl (hs_X8_truncate hl h0) bd

abbrev rm_X8_property : Room := { frames := 7, cells := 1, slots := 6, locals := 112 }
def cd_X8_property (T0 : ZTf) (T1 : ZTf) (T2 : ZTf) : List (Nat × ZTr) := [(0, tIld 1 1), (1, tC (zi 0) 2), (2, tC (zi 10) 4), (4, tCall 3 1 6 T0 zAny 7), (7, tIld 1 8), (8, tSw [(0, 68), (1, 76), (2, 84), (3, 92), (4, 100), (5, 108), (6, 124), (7, 124), (8, 124), (9, 124), (10, 116)] 124), (68, tAld 0 69), (69, tGetR 11 2 72), (72, tGetI 8 4 75), (75, tRi (fun _ => True)), (76, tAld 0 77), (77, tGetR 11 2 80), (80, tGetI 8 5 83), (83, tRi (fun _ => True)), (84, tAld 0 85), (85, tGetR 11 2 88), (88, tGetI 8 3 91), (91, tRi (fun _ => True)), (92, tAld 0 93), (93, tGetR 11 2 96), (96, tGetI 8 0 99), (99, tRi (fun _ => True)), (100, tAld 0 101), (101, tGetR 11 2 104), (104, tGetI 8 1 107), (107, tRi (fun _ => True)), (108, tAld 0 109), (109, tGetR 11 2 112), (112, tGetI 8 2 115), (115, tRi (fun _ => True)), (116, tAld 0 117), (117, tGetR 11 2 120), (120, tCall0 1 T1 (zRcv 8) 123), (123, tRi (fun _ => True)), (124, tAld 0 125), (125, tGetR 11 2 128), (128, tIld 1 129), (129, tC (zi 6) 131), (131, tSub 132), (132, tCall0 2 T2 (zRcv 8) 135), (135, tRi (fun _ => True))]
set_option maxRecDepth 100000 in
set_option maxHeartbeats 4000000 in
theorem hs_X8_property {l : Launch} (hl : l.stackTraces = false) {T0 : ZTf} {T1 : ZTf} {T2 : ZTf} (h0 : zMet l yX8_requireRange (Cond.code yX8_requireRange cX8_requireRange 3 (Option.none : Option Jvm.ClassFile.FieldType) :: zG) rm_X8_requireRange 1 6 T0) (h1 : zMet l yX5_countAudited (Cond.code yX5_countAudited cX5_countAudited 3 (Option.some Jvm.ClassFile.FieldType.int) :: zG) rm_X5_countAudited 0 0 T1) (h2 : zMet l yX5_countInState (Cond.code yX5_countInState cX5_countInState 4 (Option.some Jvm.ClassFile.FieldType.int) :: zG) rm_X5_countInState 0 0 T2) (p : Program) (e : Env) (s : State) (m : MethodId) (args : Array Value) (below : List Frame) (meth : Method) (c : Code) (D : va_G) (A : Nat → Prop) (a0 : Nat → Nat) (M0 : ZM) (K : ZRet) (KX : ZEx) (X : zCtx p l rm_X8_property s m args meth c cX8_property RX8 (Cond.code yX8_property cX8_property 2 (Option.some Jvm.ClassFile.FieldType.int) :: zG) 2 (Option.some Jvm.ClassFile.FieldType.int) D A a0 M0 1 6) (hnm : meth.name = yX8_property.name) (hout : ∀ x ∈ c.exceptionTable.toList, False) : ∀ q ∈ cd_X8_property T0 T1 T2, zSd p l e rm_X8_property s m args below meth c 2 D A a0 M0 K KX 1 6 q.1 q.2 :=
    zall_c (zs_iload_n X (pc := 0) (q := 1) rfl (by decide +kernel)) <|
    zall_c (zs_iconst X (pc := 1) (by decide) (by decide +kernel)) <|
    zall_c (zs_bipush X (pc := 2) (by decide) (by decide +kernel) (by decide +kernel)) <|
    zall_c (zs_callS X (pc := 4) (fun _ ht => ⟨(zCB ht gw_5_171 gw_1_1 gw_5_169 rfl rfl (by decide +kernel) ⟨Nat.le_of_ble_eq_true rfl, Nat.le_of_ble_eq_true rfl⟩), ht _ (.tail _ gw_5_170)⟩) h0 hout (by decide +kernel)) <|
    zall_c (zs_iload_n X (pc := 7) (q := 1) rfl (by decide +kernel)) <|
    zall_c (zs_tablesw X (pc := 8) (df := 116) (lo := 0) (hi := 10) (offs := #[60, 68, 76, 84, 92, 100, 116, 116, 116, 116, 108]) (len := 60) (by decide +kernel) (by decide) (by decide +kernel) (by decide +kernel)) <|
    zall_c (zs_aload_n X (pc := 68) (q := 0) rfl (by decide +kernel)) <|
    zall_c (zs_getr X (pc := 69) zc_X8 (by decide) (zin ui_X8) (.tail _ gw_2_123) (by decide +kernel) (by decide +kernel)) <|
    zall_c (zs_geti X (pc := 72) zc_X5 (by decide) (zin ui_X5) (.tail _ gw_1_236) (by decide +kernel) (by decide +kernel)) <|
    zall_c (zs_iret X (pc := 75) rfl (by decide +kernel)) <|
    zall_c (zs_aload_n X (pc := 76) (q := 0) rfl (by decide +kernel)) <|
    zall_c (zs_getr X (pc := 77) zc_X8 (by decide) (zin ui_X8) (.tail _ gw_2_123) (by decide +kernel) (by decide +kernel)) <|
    zall_c (zs_geti X (pc := 80) zc_X5 (by decide) (zin ui_X5) (.tail _ gw_1_239) (by decide +kernel) (by decide +kernel)) <|
    zall_c (zs_iret X (pc := 83) rfl (by decide +kernel)) <|
    zall_c (zs_aload_n X (pc := 84) (q := 0) rfl (by decide +kernel)) <|
    zall_c (zs_getr X (pc := 85) zc_X8 (by decide) (zin ui_X8) (.tail _ gw_2_123) (by decide +kernel) (by decide +kernel)) <|
    zall_c (zs_geti X (pc := 88) zc_X5 (by decide) (zin ui_X5) (.tail _ gw_1_234) (by decide +kernel) (by decide +kernel)) <|
    zall_c (zs_iret X (pc := 91) rfl (by decide +kernel)) <|
    zall_c (zs_aload_n X (pc := 92) (q := 0) rfl (by decide +kernel)) <|
    zall_c (zs_getr X (pc := 93) zc_X8 (by decide) (zin ui_X8) (.tail _ gw_2_123) (by decide +kernel) (by decide +kernel)) <|
    zall_c (zs_geti X (pc := 96) zc_X5 (by decide) (zin ui_X5) (.tail _ gw_1_226) (by decide +kernel) (by decide +kernel)) <|
    zall_c (zs_iret X (pc := 99) rfl (by decide +kernel)) <|
    zall_c (zs_aload_n X (pc := 100) (q := 0) rfl (by decide +kernel)) <|
    zall_c (zs_getr X (pc := 101) zc_X8 (by decide) (zin ui_X8) (.tail _ gw_2_123) (by decide +kernel) (by decide +kernel)) <|
    zall_c (zs_geti X (pc := 104) zc_X5 (by decide) (zin ui_X5) (.tail _ gw_1_229) (by decide +kernel) (by decide +kernel)) <|
    zall_c (zs_iret X (pc := 107) rfl (by decide +kernel)) <|
    zall_c (zs_aload_n X (pc := 108) (q := 0) rfl (by decide +kernel)) <|
    zall_c (zs_getr X (pc := 109) zc_X8 (by decide) (zin ui_X8) (.tail _ gw_2_123) (by decide +kernel) (by decide +kernel)) <|
    zall_c (zs_geti X (pc := 112) zc_X5 (by decide) (zin ui_X5) (.tail _ gw_1_232) (by decide +kernel) (by decide +kernel)) <|
    zall_c (zs_iret X (pc := 115) rfl (by decide +kernel)) <|
    zall_c (zs_aload_n X (pc := 116) (q := 0) rfl (by decide +kernel)) <|
    zall_c (zs_getr X (pc := 117) zc_X8 (by decide) (zin ui_X8) (.tail _ gw_2_123) (by decide +kernel) (by decide +kernel)) <|
    zall_c (zs_callV0 X (pc := 120) zc_X5 (fun _ ht => ⟨(zCB ht gw_5_185 gw_1_8 gw_5_182 rfl rfl (by decide +kernel) ⟨Nat.le_of_ble_eq_true rfl, Nat.le_of_ble_eq_true rfl⟩), ht _ (.tail _ gw_5_183), ht _ (.tail _ gw_5_184)⟩) h1 hout (by decide +kernel)) <|
    zall_c (zs_iret X (pc := 123) rfl (by decide +kernel)) <|
    zall_c (zs_aload_n X (pc := 124) (q := 0) rfl (by decide +kernel)) <|
    zall_c (zs_getr X (pc := 125) zc_X8 (by decide) (zin ui_X8) (.tail _ gw_2_123) (by decide +kernel) (by decide +kernel)) <|
    zall_c (zs_iload_n X (pc := 128) (q := 1) rfl (by decide +kernel)) <|
    zall_c (zs_bipush X (pc := 129) (by decide) (by decide +kernel) (by decide +kernel)) <|
    zall_c (zs_isub X (pc := 131) (by decide +kernel)) <|
    zall_c (zs_callV0 X (pc := 132) zc_X5 (fun _ ht => ⟨(zCB ht gw_5_189 gw_1_8 gw_5_186 rfl rfl (by decide +kernel) ⟨Nat.le_of_ble_eq_true rfl, Nat.le_of_ble_eq_true rfl⟩), ht _ (.tail _ gw_5_187), ht _ (.tail _ gw_5_188)⟩) h2 hout (by decide +kernel)) <|
    zall_c (zs_iret X (pc := 135) rfl (by decide +kernel)) <|
    zall_n
theorem met_X8_property {l : Launch} (hl : l.stackTraces = false) {T0 : ZTf} {T1 : ZTf} {T2 : ZTf} (h0 : zMet l yX8_requireRange (Cond.code yX8_requireRange cX8_requireRange 3 (Option.none : Option Jvm.ClassFile.FieldType) :: zG) rm_X8_requireRange 1 6 T0) (h1 : zMet l yX5_countAudited (Cond.code yX5_countAudited cX5_countAudited 3 (Option.some Jvm.ClassFile.FieldType.int) :: zG) rm_X5_countAudited 0 0 T1) (h2 : zMet l yX5_countInState (Cond.code yX5_countInState cX5_countInState 4 (Option.some Jvm.ClassFile.FieldType.int) :: zG) rm_X5_countInState 0 0 T2) {T : ZTf} (bd : zBd (cd_X8_property T0 T1 T2) 2 1 6 T) : zMet l yX8_property (Cond.code yX8_property cX8_property 2 (Option.some Jvm.ClassFile.FieldType.int) :: zG) rm_X8_property 1 6 T := zMet_of hl (by decide +kernel) rfl rfl rfl rfl (hs_X8_property hl h0 h1 h2) bd

abbrev rm_X8_worker : Room := { frames := 7, cells := 2, slots := 12, locals := 112 }
def cd_X8_worker (T0 : ZTf) (T1 : ZTf) : List (Nat × ZTr) := [(0, tAld 0 1), (1, tIld 1 2), (2, tCall 2 1 6 T0 (zRcv 11) 5), (5, tIld 2 6), (6, tC (zi 0) 7), (7, tC (zi 8) 9), (9, tCall 3 1 6 T1 zAny 12), (12, tAld 0 13), (13, tGetR 11 2 16), (16, tGetR 8 6 19), (19, tIld 1 20), (20, tAal 30 21), (21, tAst 3 22), (22, tIld 2 23), (23, tSw [(0, 68), (1, 73), (2, 78), (3, 83), (4, 88), (5, 93), (6, 98), (7, 103)] 108), (68, tAld 3 69), (69, tGetI 10 1 72), (72, tRi (fun _ => True)), (73, tAld 3 74), (74, tGetI 10 2 77), (77, tRi (fun _ => True)), (78, tAld 3 79), (79, tGetI 10 3 82), (82, tRi (fun _ => True)), (83, tAld 3 84), (84, tGetI 10 4 87), (87, tRi (fun _ => True)), (88, tAld 3 89), (89, tGetI 10 5 92), (92, tRi (fun _ => True)), (93, tAld 3 94), (94, tGetI 10 6 97), (97, tRi (fun _ => True)), (98, tAld 3 99), (99, tGetI 10 7 102), (102, tRi (fun _ => True)), (103, tAld 3 104), (104, tGetI 10 8 107), (107, tRi (fun _ => True)), (108, tAld 3 109), (109, tGetI 10 9 112), (112, tRi (fun _ => True))]
set_option maxRecDepth 100000 in
set_option maxHeartbeats 4000000 in
theorem hs_X8_worker {l : Launch} (hl : l.stackTraces = false) {T0 : ZTf} {T1 : ZTf} (h0 : zMet l yX8_requireWorker (Cond.code yX8_requireWorker cX8_requireWorker 2 (Option.none : Option Jvm.ClassFile.FieldType) :: zG) rm_X8_requireWorker 1 6 T0) (h1 : zMet l yX8_requireRange (Cond.code yX8_requireRange cX8_requireRange 3 (Option.none : Option Jvm.ClassFile.FieldType) :: zG) rm_X8_requireRange 1 6 T1) (p : Program) (e : Env) (s : State) (m : MethodId) (args : Array Value) (below : List Frame) (meth : Method) (c : Code) (D : va_G) (A : Nat → Prop) (a0 : Nat → Nat) (M0 : ZM) (K : ZRet) (KX : ZEx) (X : zCtx p l rm_X8_worker s m args meth c cX8_worker RX8 (Cond.code yX8_worker cX8_worker 4 (Option.some Jvm.ClassFile.FieldType.int) :: zG) 4 (Option.some Jvm.ClassFile.FieldType.int) D A a0 M0 2 12) (hnm : meth.name = yX8_worker.name) (hout : ∀ x ∈ c.exceptionTable.toList, False) : ∀ q ∈ cd_X8_worker T0 T1, zSd p l e rm_X8_worker s m args below meth c 4 D A a0 M0 K KX 2 12 q.1 q.2 :=
    zall_c (zs_aload_n X (pc := 0) (q := 0) rfl (by decide +kernel)) <|
    zall_c (zs_iload_n X (pc := 1) (q := 1) rfl (by decide +kernel)) <|
    zall_c (zs_callV X (pc := 2) zc_X8 (fun _ ht => ⟨(zCB ht gw_5_201 gw_1_1 gw_5_198 rfl rfl (by decide +kernel) ⟨Nat.le_of_ble_eq_true rfl, Nat.le_of_ble_eq_true rfl⟩), ht _ (.tail _ gw_5_200), ht _ (.tail _ gp_20)⟩) h0 hout (by decide +kernel)) <|
    zall_c (zs_iload_n X (pc := 5) (q := 2) rfl (by decide +kernel)) <|
    zall_c (zs_iconst X (pc := 6) (by decide) (by decide +kernel)) <|
    zall_c (zs_bipush X (pc := 7) (by decide) (by decide +kernel) (by decide +kernel)) <|
    zall_c (zs_callS X (pc := 9) (fun _ ht => ⟨(zCB ht gw_5_171 gw_1_1 gw_5_169 rfl rfl (by decide +kernel) ⟨Nat.le_of_ble_eq_true rfl, Nat.le_of_ble_eq_true rfl⟩), ht _ (.tail _ gw_5_170)⟩) h1 hout (by decide +kernel)) <|
    zall_c (zs_aload_n X (pc := 12) (q := 0) rfl (by decide +kernel)) <|
    zall_c (zs_getr X (pc := 13) zc_X8 (by decide) (zin ui_X8) (.tail _ gw_2_123) (by decide +kernel) (by decide +kernel)) <|
    zall_c (zs_getr X (pc := 16) zc_X5 (by decide) (zin ui_X5) (.tail _ gw_2_2) (by decide +kernel) (by decide +kernel)) <|
    zall_c (zs_iload_n X (pc := 19) (q := 1) rfl (by decide +kernel)) <|
    zall_c (zs_aaload X (pc := 20) (by decide) rfl (by decide +kernel)) <|
    zall_c (zs_astore_n X (pc := 21) (q := 3) rfl (by decide) (by decide +kernel)) <|
    zall_c (zs_iload_n X (pc := 22) (q := 2) rfl (by decide +kernel)) <|
    zall_c (zs_tablesw X (pc := 23) (df := 85) (lo := 0) (hi := 7) (offs := #[45, 50, 55, 60, 65, 70, 75, 80]) (len := 45) (by decide +kernel) (by decide) (by decide +kernel) (by decide +kernel)) <|
    zall_c (zs_aload_n X (pc := 68) (q := 3) rfl (by decide +kernel)) <|
    zall_c (zs_geti X (pc := 69) zc_X7 (by decide) (zin ui_X7) (.tail _ gw_1_120) (by decide +kernel) (by decide +kernel)) <|
    zall_c (zs_iret X (pc := 72) rfl (by decide +kernel)) <|
    zall_c (zs_aload_n X (pc := 73) (q := 3) rfl (by decide +kernel)) <|
    zall_c (zs_geti X (pc := 74) zc_X7 (by decide) (zin ui_X7) (.tail _ gw_1_123) (by decide +kernel) (by decide +kernel)) <|
    zall_c (zs_iret X (pc := 77) rfl (by decide +kernel)) <|
    zall_c (zs_aload_n X (pc := 78) (q := 3) rfl (by decide +kernel)) <|
    zall_c (zs_geti X (pc := 79) zc_X7 (by decide) (zin ui_X7) (.tail _ gw_1_127) (by decide +kernel) (by decide +kernel)) <|
    zall_c (zs_iret X (pc := 82) rfl (by decide +kernel)) <|
    zall_c (zs_aload_n X (pc := 83) (q := 3) rfl (by decide +kernel)) <|
    zall_c (zs_geti X (pc := 84) zc_X7 (by decide) (zin ui_X7) (.tail _ gw_1_130) (by decide +kernel) (by decide +kernel)) <|
    zall_c (zs_iret X (pc := 87) rfl (by decide +kernel)) <|
    zall_c (zs_aload_n X (pc := 88) (q := 3) rfl (by decide +kernel)) <|
    zall_c (zs_geti X (pc := 89) zc_X7 (by decide) (zin ui_X7) (.tail _ gw_1_133) (by decide +kernel) (by decide +kernel)) <|
    zall_c (zs_iret X (pc := 92) rfl (by decide +kernel)) <|
    zall_c (zs_aload_n X (pc := 93) (q := 3) rfl (by decide +kernel)) <|
    zall_c (zs_geti X (pc := 94) zc_X7 (by decide) (zin ui_X7) (.tail _ gw_1_136) (by decide +kernel) (by decide +kernel)) <|
    zall_c (zs_iret X (pc := 97) rfl (by decide +kernel)) <|
    zall_c (zs_aload_n X (pc := 98) (q := 3) rfl (by decide +kernel)) <|
    zall_c (zs_geti X (pc := 99) zc_X7 (by decide) (zin ui_X7) (.tail _ gw_1_139) (by decide +kernel) (by decide +kernel)) <|
    zall_c (zs_iret X (pc := 102) rfl (by decide +kernel)) <|
    zall_c (zs_aload_n X (pc := 103) (q := 3) rfl (by decide +kernel)) <|
    zall_c (zs_geti X (pc := 104) zc_X7 (by decide) (zin ui_X7) (.tail _ gw_1_142) (by decide +kernel) (by decide +kernel)) <|
    zall_c (zs_iret X (pc := 107) rfl (by decide +kernel)) <|
    zall_c (zs_aload_n X (pc := 108) (q := 3) rfl (by decide +kernel)) <|
    zall_c (zs_geti X (pc := 109) zc_X7 (by decide) (zin ui_X7) (.tail _ gw_1_145) (by decide +kernel) (by decide +kernel)) <|
    zall_c (zs_iret X (pc := 112) rfl (by decide +kernel)) <|
    zall_n
theorem met_X8_worker {l : Launch} (hl : l.stackTraces = false) {T0 : ZTf} {T1 : ZTf} (h0 : zMet l yX8_requireWorker (Cond.code yX8_requireWorker cX8_requireWorker 2 (Option.none : Option Jvm.ClassFile.FieldType) :: zG) rm_X8_requireWorker 1 6 T0) (h1 : zMet l yX8_requireRange (Cond.code yX8_requireRange cX8_requireRange 3 (Option.none : Option Jvm.ClassFile.FieldType) :: zG) rm_X8_requireRange 1 6 T1) {T : ZTf} (bd : zBd (cd_X8_worker T0 T1) 4 2 12 T) : zMet l yX8_worker (Cond.code yX8_worker cX8_worker 4 (Option.some Jvm.ClassFile.FieldType.int) :: zG) rm_X8_worker 2 12 T := zMet_of hl (by decide +kernel) rfl rfl rfl rfl (hs_X8_worker hl h0 h1) bd

abbrev rm_X8_row : Room := { frames := 7, cells := 2, slots := 12, locals := 112 }
def cd_X8_row (T0 : ZTf) (T1 : ZTf) (T2 : ZTf) : List (Nat × ZTr) := [(0, tAld 0 1), (1, tIld 1 2), (2, tCall 2 1 6 T0 (zRcv 11) 5), (5, tIld 2 6), (6, tC (zi 0) 7), (7, tC (zi 6) 9), (9, tCall 3 1 6 T1 zAny 12), (12, tAld 0 13), (13, tGetR 11 2 16), (16, tGetR 8 7 19), (19, tIld 1 20), (20, tAal 31 21), (21, tAst 3 22), (22, tIld 2 23), (23, tSw [(0, 60), (1, 65), (2, 70), (3, 75), (4, 88), (5, 93)] 98), (60, tAld 3 61), (61, tGetI 7 0 64), (64, tRi (fun _ => True)), (65, tAld 3 66), (66, tGetI 7 1 69), (69, tRi (fun _ => True)), (70, tAld 3 71), (71, tGetI 7 2 74), (74, tRi (fun _ => True)), (75, tAld 3 76), (76, tGetI 7 3 79), (79, tIf_eq 86 82), (82, tC (zi 1) 83), (83, tGo 87), (86, tC (zi 0) 87), (87, tRi (fun _ => True)), (88, tAld 3 89), (89, tGetI 7 8 92), (92, tRi (fun _ => True)), (93, tAld 3 94), (94, tCall0 1 T2 (zRcv 7) 97), (97, tRi (fun _ => True)), (98, tAld 3 99), (99, tGetI 7 5 102), (102, tRi (fun _ => True))]
set_option maxRecDepth 100000 in
set_option maxHeartbeats 4000000 in
theorem hs_X8_row {l : Launch} (hl : l.stackTraces = false) {T0 : ZTf} {T1 : ZTf} {T2 : ZTf} (h0 : zMet l yX8_requireRow (Cond.code yX8_requireRow cX8_requireRow 2 (Option.none : Option Jvm.ClassFile.FieldType) :: zG) rm_X8_requireRow 1 6 T0) (h1 : zMet l yX8_requireRange (Cond.code yX8_requireRange cX8_requireRange 3 (Option.none : Option Jvm.ClassFile.FieldType) :: zG) rm_X8_requireRange 1 6 T1) (h2 : zMet l yX4_missingWorkers (Cond.code yX4_missingWorkers cX4_missingWorkers 2 (Option.some Jvm.ClassFile.FieldType.int) :: zG) rm_X4_missingWorkers 0 0 T2) (p : Program) (e : Env) (s : State) (m : MethodId) (args : Array Value) (below : List Frame) (meth : Method) (c : Code) (D : va_G) (A : Nat → Prop) (a0 : Nat → Nat) (M0 : ZM) (K : ZRet) (KX : ZEx) (X : zCtx p l rm_X8_row s m args meth c cX8_row RX8 (Cond.code yX8_row cX8_row 4 (Option.some Jvm.ClassFile.FieldType.int) :: zG) 4 (Option.some Jvm.ClassFile.FieldType.int) D A a0 M0 2 12) (hnm : meth.name = yX8_row.name) (hout : ∀ x ∈ c.exceptionTable.toList, False) : ∀ q ∈ cd_X8_row T0 T1 T2, zSd p l e rm_X8_row s m args below meth c 4 D A a0 M0 K KX 2 12 q.1 q.2 :=
    zall_c (zs_aload_n X (pc := 0) (q := 0) rfl (by decide +kernel)) <|
    zall_c (zs_iload_n X (pc := 1) (q := 1) rfl (by decide +kernel)) <|
    zall_c (zs_callV X (pc := 2) zc_X8 (fun _ ht => ⟨(zCB ht gw_5_225 gw_1_1 gw_5_222 rfl rfl (by decide +kernel) ⟨Nat.le_of_ble_eq_true rfl, Nat.le_of_ble_eq_true rfl⟩), ht _ (.tail _ gw_5_224), ht _ (.tail _ gp_21)⟩) h0 hout (by decide +kernel)) <|
    zall_c (zs_iload_n X (pc := 5) (q := 2) rfl (by decide +kernel)) <|
    zall_c (zs_iconst X (pc := 6) (by decide) (by decide +kernel)) <|
    zall_c (zs_bipush X (pc := 7) (by decide) (by decide +kernel) (by decide +kernel)) <|
    zall_c (zs_callS X (pc := 9) (fun _ ht => ⟨(zCB ht gw_5_171 gw_1_1 gw_5_169 rfl rfl (by decide +kernel) ⟨Nat.le_of_ble_eq_true rfl, Nat.le_of_ble_eq_true rfl⟩), ht _ (.tail _ gw_5_170)⟩) h1 hout (by decide +kernel)) <|
    zall_c (zs_aload_n X (pc := 12) (q := 0) rfl (by decide +kernel)) <|
    zall_c (zs_getr X (pc := 13) zc_X8 (by decide) (zin ui_X8) (.tail _ gw_2_123) (by decide +kernel) (by decide +kernel)) <|
    zall_c (zs_getr X (pc := 16) zc_X5 (by decide) (zin ui_X5) (.tail _ gw_2_4) (by decide +kernel) (by decide +kernel)) <|
    zall_c (zs_iload_n X (pc := 19) (q := 1) rfl (by decide +kernel)) <|
    zall_c (zs_aaload X (pc := 20) (by decide) rfl (by decide +kernel)) <|
    zall_c (zs_astore_n X (pc := 21) (q := 3) rfl (by decide) (by decide +kernel)) <|
    zall_c (zs_iload_n X (pc := 22) (q := 2) rfl (by decide +kernel)) <|
    zall_c (zs_tablesw X (pc := 23) (df := 75) (lo := 0) (hi := 5) (offs := #[37, 42, 47, 52, 65, 70]) (len := 37) (by decide +kernel) (by decide) (by decide +kernel) (by decide +kernel)) <|
    zall_c (zs_aload_n X (pc := 60) (q := 3) rfl (by decide +kernel)) <|
    zall_c (zs_geti X (pc := 61) zc_X4 (by decide) (zin ui_X4) (.tail _ gw_1_174) (by decide +kernel) (by decide +kernel)) <|
    zall_c (zs_iret X (pc := 64) rfl (by decide +kernel)) <|
    zall_c (zs_aload_n X (pc := 65) (q := 3) rfl (by decide +kernel)) <|
    zall_c (zs_geti X (pc := 66) zc_X4 (by decide) (zin ui_X4) (.tail _ gw_1_178) (by decide +kernel) (by decide +kernel)) <|
    zall_c (zs_iret X (pc := 69) rfl (by decide +kernel)) <|
    zall_c (zs_aload_n X (pc := 70) (q := 3) rfl (by decide +kernel)) <|
    zall_c (zs_geti X (pc := 71) zc_X4 (by decide) (zin ui_X4) (.tail _ gw_1_181) (by decide +kernel) (by decide +kernel)) <|
    zall_c (zs_iret X (pc := 74) rfl (by decide +kernel)) <|
    zall_c (zs_aload_n X (pc := 75) (q := 3) rfl (by decide +kernel)) <|
    zall_c (zs_geti X (pc := 76) zc_X4 (by decide) (zin ui_X4) (.tail _ gw_1_184) (by decide +kernel) (by decide +kernel)) <|
    zall_c (zs_if_eq X (pc := 79) (off := 7) (by decide +kernel) (by decide)) <|
    zall_c (zs_iconst X (pc := 82) (by decide) (by decide +kernel)) <|
    zall_c (zs_goto X (pc := 83) (off := 4) (by decide +kernel) (by decide)) <|
    zall_c (zs_iconst X (pc := 86) (by decide) (by decide +kernel)) <|
    zall_c (zs_iret X (pc := 87) rfl (by decide +kernel)) <|
    zall_c (zs_aload_n X (pc := 88) (q := 3) rfl (by decide +kernel)) <|
    zall_c (zs_geti X (pc := 89) zc_X4 (by decide) (zin ui_X4) (.tail _ gw_1_200) (by decide +kernel) (by decide +kernel)) <|
    zall_c (zs_iret X (pc := 92) rfl (by decide +kernel)) <|
    zall_c (zs_aload_n X (pc := 93) (q := 3) rfl (by decide +kernel)) <|
    zall_c (zs_callV0 X (pc := 94) zc_X4 (fun _ ht => ⟨(zCB ht gw_5_24 gw_1_10 gw_5_227 rfl rfl (by decide +kernel) ⟨Nat.le_of_ble_eq_true rfl, Nat.le_of_ble_eq_true rfl⟩), ht _ (.tail _ gw_5_22), ht _ (.tail _ gw_5_23)⟩) h2 hout (by decide +kernel)) <|
    zall_c (zs_iret X (pc := 97) rfl (by decide +kernel)) <|
    zall_c (zs_aload_n X (pc := 98) (q := 3) rfl (by decide +kernel)) <|
    zall_c (zs_geti X (pc := 99) zc_X4 (by decide) (zin ui_X4) (.tail _ gw_1_190) (by decide +kernel) (by decide +kernel)) <|
    zall_c (zs_iret X (pc := 102) rfl (by decide +kernel)) <|
    zall_n
theorem met_X8_row {l : Launch} (hl : l.stackTraces = false) {T0 : ZTf} {T1 : ZTf} {T2 : ZTf} (h0 : zMet l yX8_requireRow (Cond.code yX8_requireRow cX8_requireRow 2 (Option.none : Option Jvm.ClassFile.FieldType) :: zG) rm_X8_requireRow 1 6 T0) (h1 : zMet l yX8_requireRange (Cond.code yX8_requireRange cX8_requireRange 3 (Option.none : Option Jvm.ClassFile.FieldType) :: zG) rm_X8_requireRange 1 6 T1) (h2 : zMet l yX4_missingWorkers (Cond.code yX4_missingWorkers cX4_missingWorkers 2 (Option.some Jvm.ClassFile.FieldType.int) :: zG) rm_X4_missingWorkers 0 0 T2) {T : ZTf} (bd : zBd (cd_X8_row T0 T1 T2) 4 2 12 T) : zMet l yX8_row (Cond.code yX8_row cX8_row 4 (Option.some Jvm.ClassFile.FieldType.int) :: zG) rm_X8_row 2 12 T := zMet_of hl (by decide +kernel) rfl rfl rfl rfl (hs_X8_row hl h0 h1 h2) bd

abbrev rm_X8_taking : Room := { frames := 7, cells := 3, slots := 18, locals := 112 }
def cd_X8_taking (T0 : ZTf) (T1 : ZTf) (T2 : ZTf) (T3 : ZTf) (T4 : ZTf) (T5 : ZTf) : List (Nat × ZTr) := [(0, tAld 0 1), (1, tIld 1 2), (2, tCall 2 1 6 T0 (zRcv 11) 5), (5, tAld 0 6), (6, tGetR 11 2 9), (9, tGetR 8 7 12), (12, tIld 1 13), (13, tAal 31 14), (14, tAst 4 16), (16, tIld 2 17), (17, tIf_lt 29 20), (20, tIld 2 21), (21, tAld 4 23), (23, tGetI 7 8 26), (26, tIc_lt 39 29), (29, tThr 0), (39, tIld 3 40), (40, tC (zi 0) 41), (41, tC (zi 2) 42), (42, tCall 3 1 6 T1 zAny 45), (45, tIld 3 46), (46, tSw [(0, 72), (1, 79)] 86), (72, tAld 4 74), (74, tIld 2 75), (75, tCall0 2 T2 (zRcv 7) 78), (78, tRi (fun _ => True)), (79, tAld 4 81), (81, tIld 2 82), (82, tCall0 2 T3 (zRcv 7) 85), (85, tRi (fun _ => True)), (86, tAld 4 88), (88, tIld 2 89), (89, tCall0 2 T4 (zRcv 7) 92), (92, tIf_eq 104 95), (95, tAld 4 97), (97, tIld 2 98), (98, tCall0 2 T5 (zRcv 7) 101), (101, tGo 105), (104, tC (zi (-1)) 105), (105, tRi (fun _ => True))]
set_option maxRecDepth 100000 in
set_option maxHeartbeats 4000000 in
theorem hs_X8_taking {l : Launch} (hl : l.stackTraces = false) {T0 : ZTf} {T1 : ZTf} {T2 : ZTf} {T3 : ZTf} {T4 : ZTf} {T5 : ZTf} (h0 : zMet l yX8_requireRow (Cond.code yX8_requireRow cX8_requireRow 2 (Option.none : Option Jvm.ClassFile.FieldType) :: zG) rm_X8_requireRow 1 6 T0) (h1 : zMet l yX8_requireRange (Cond.code yX8_requireRange cX8_requireRange 3 (Option.none : Option Jvm.ClassFile.FieldType) :: zG) rm_X8_requireRange 1 6 T1) (h2 : zMet l yX4_workerAt (Cond.code yX4_workerAt cX4_workerAt 2 (Option.some Jvm.ClassFile.FieldType.int) :: zG) rm_X4_workerAt 0 0 T2) (h3 : zMet l yX4_resultAt (Cond.code yX4_resultAt cX4_resultAt 2 (Option.some Jvm.ClassFile.FieldType.int) :: zG) rm_X4_resultAt 0 0 T3) (h4 : zMet l yX4_isInWork (Cond.code yX4_isInWork cX4_isInWork 2 (Option.some Jvm.ClassFile.FieldType.boolean) :: zG) rm_X4_isInWork 0 0 T4) (h5 : zMet l yX4_dueAt (Cond.code yX4_dueAt cX4_dueAt 2 (Option.some Jvm.ClassFile.FieldType.int) :: zG) rm_X4_dueAt 0 0 T5) (p : Program) (e : Env) (s : State) (m : MethodId) (args : Array Value) (below : List Frame) (meth : Method) (c : Code) (D : va_G) (A : Nat → Prop) (a0 : Nat → Nat) (M0 : ZM) (K : ZRet) (KX : ZEx) (X : zCtx p l rm_X8_taking s m args meth c cX8_taking RX8 (Cond.code yX8_taking cX8_taking 5 (Option.some Jvm.ClassFile.FieldType.int) :: zG) 5 (Option.some Jvm.ClassFile.FieldType.int) D A a0 M0 3 18) (hnm : meth.name = yX8_taking.name) (hout : ∀ x ∈ c.exceptionTable.toList, False) : ∀ q ∈ cd_X8_taking T0 T1 T2 T3 T4 T5, zSd p l e rm_X8_taking s m args below meth c 5 D A a0 M0 K KX 3 18 q.1 q.2 :=
    zall_c (zs_aload_n X (pc := 0) (q := 0) rfl (by decide +kernel)) <|
    zall_c (zs_iload_n X (pc := 1) (q := 1) rfl (by decide +kernel)) <|
    zall_c (zs_callV X (pc := 2) zc_X8 (fun _ ht => ⟨(zCB ht gw_5_225 gw_1_1 gw_5_222 rfl rfl (by decide +kernel) ⟨Nat.le_of_ble_eq_true rfl, Nat.le_of_ble_eq_true rfl⟩), ht _ (.tail _ gw_5_224), ht _ (.tail _ gp_21)⟩) h0 hout (by decide +kernel)) <|
    zall_c (zs_aload_n X (pc := 5) (q := 0) rfl (by decide +kernel)) <|
    zall_c (zs_getr X (pc := 6) zc_X8 (by decide) (zin ui_X8) (.tail _ gw_2_123) (by decide +kernel) (by decide +kernel)) <|
    zall_c (zs_getr X (pc := 9) zc_X5 (by decide) (zin ui_X5) (.tail _ gw_2_4) (by decide +kernel) (by decide +kernel)) <|
    zall_c (zs_iload_n X (pc := 12) (q := 1) rfl (by decide +kernel)) <|
    zall_c (zs_aaload X (pc := 13) (by decide) rfl (by decide +kernel)) <|
    zall_c (zs_astore X (pc := 14) (by decide) (by decide +kernel)) <|
    zall_c (zs_iload_n X (pc := 16) (q := 2) rfl (by decide +kernel)) <|
    zall_c (zs_if_lt X (pc := 17) (off := 12) (by decide +kernel) (by decide)) <|
    zall_c (zs_iload_n X (pc := 20) (q := 2) rfl (by decide +kernel)) <|
    zall_c (zs_aload X (pc := 21) (by decide +kernel)) <|
    zall_c (zs_geti X (pc := 23) zc_X4 (by decide) (zin ui_X4) (.tail _ gw_1_200) (by decide +kernel) (by decide +kernel)) <|
    zall_c (zs_icmp_lt X (pc := 26) (off := 13) (by decide +kernel) (by decide)) <|
    zall_c (zs_throw X (pc := 29) (ik := 201) (is := 203) (ic := 205) (cls := "java/lang/IndexOutOfBoundsException") (text := "no such taking") (names := ["java/lang/RuntimeException", "java/lang/Exception"]) rfl (by decide +kernel) (by decide +kernel) (.tail _ gw_5_202) (.tail _ gw_1_24) (by decide +kernel) (zin gt_X8_205) gt_X8_205x (by decide +kernel) hout (by decide) (by decide) (by decide +kernel) (by decide +kernel) (by decide +kernel) (by decide +kernel) (by decide +kernel)) <|
    zall_c (zs_iload_n X (pc := 39) (q := 3) rfl (by decide +kernel)) <|
    zall_c (zs_iconst X (pc := 40) (by decide) (by decide +kernel)) <|
    zall_c (zs_iconst X (pc := 41) (by decide) (by decide +kernel)) <|
    zall_c (zs_callS X (pc := 42) (fun _ ht => ⟨(zCB ht gw_5_171 gw_1_1 gw_5_169 rfl rfl (by decide +kernel) ⟨Nat.le_of_ble_eq_true rfl, Nat.le_of_ble_eq_true rfl⟩), ht _ (.tail _ gw_5_170)⟩) h1 hout (by decide +kernel)) <|
    zall_c (zs_iload_n X (pc := 45) (q := 3) rfl (by decide +kernel)) <|
    zall_c (zs_lookup X (pc := 46) (df := 40) (ps := #[(0, 26), (1, 33)]) (len := 26) (by decide +kernel) (by decide +kernel) (by decide) (by decide +kernel) (by decide +kernel)) <|
    zall_c (zs_aload X (pc := 72) (by decide +kernel)) <|
    zall_c (zs_iload_n X (pc := 74) (q := 2) rfl (by decide +kernel)) <|
    zall_c (zs_callV0 X (pc := 75) zc_X4 (fun _ ht => ⟨(zCB ht gw_5_37 gw_1_10 gw_5_236 rfl rfl (by decide +kernel) ⟨Nat.le_of_ble_eq_true rfl, Nat.le_of_ble_eq_true rfl⟩), ht _ (.tail _ gw_5_35), ht _ (.tail _ gw_5_36)⟩) h2 hout (by decide +kernel)) <|
    zall_c (zs_iret X (pc := 78) rfl (by decide +kernel)) <|
    zall_c (zs_aload X (pc := 79) (by decide +kernel)) <|
    zall_c (zs_iload_n X (pc := 81) (q := 2) rfl (by decide +kernel)) <|
    zall_c (zs_callV0 X (pc := 82) zc_X4 (fun _ ht => ⟨(zCB ht gw_5_82 gw_1_10 gw_5_237 rfl rfl (by decide +kernel) ⟨Nat.le_of_ble_eq_true rfl, Nat.le_of_ble_eq_true rfl⟩), ht _ (.tail _ gw_5_80), ht _ (.tail _ gw_5_81)⟩) h3 hout (by decide +kernel)) <|
    zall_c (zs_iret X (pc := 85) rfl (by decide +kernel)) <|
    zall_c (zs_aload X (pc := 86) (by decide +kernel)) <|
    zall_c (zs_iload_n X (pc := 88) (q := 2) rfl (by decide +kernel)) <|
    zall_c (zs_callV0 X (pc := 89) zc_X4 (fun _ ht => ⟨(zCB ht gw_5_78 gw_1_10 gw_5_238 rfl rfl (by decide +kernel) ⟨Nat.le_of_ble_eq_true rfl, Nat.le_of_ble_eq_true rfl⟩), ht _ (.tail _ gw_5_76), ht _ (.tail _ gw_5_77)⟩) h4 hout (by decide +kernel)) <|
    zall_c (zs_if_eq X (pc := 92) (off := 12) (by decide +kernel) (by decide)) <|
    zall_c (zs_aload X (pc := 95) (by decide +kernel)) <|
    zall_c (zs_iload_n X (pc := 97) (q := 2) rfl (by decide +kernel)) <|
    zall_c (zs_callV0 X (pc := 98) zc_X4 (fun _ ht => ⟨(zCB ht gw_5_86 gw_1_10 gw_5_239 rfl rfl (by decide +kernel) ⟨Nat.le_of_ble_eq_true rfl, Nat.le_of_ble_eq_true rfl⟩), ht _ (.tail _ gw_5_84), ht _ (.tail _ gw_5_85)⟩) h5 hout (by decide +kernel)) <|
    zall_c (zs_goto X (pc := 101) (off := 4) (by decide +kernel) (by decide)) <|
    zall_c (zs_iconst X (pc := 104) (by decide) (by decide +kernel)) <|
    zall_c (zs_iret X (pc := 105) rfl (by decide +kernel)) <|
    zall_n
theorem met_X8_taking {l : Launch} (hl : l.stackTraces = false) {T0 : ZTf} {T1 : ZTf} {T2 : ZTf} {T3 : ZTf} {T4 : ZTf} {T5 : ZTf} (h0 : zMet l yX8_requireRow (Cond.code yX8_requireRow cX8_requireRow 2 (Option.none : Option Jvm.ClassFile.FieldType) :: zG) rm_X8_requireRow 1 6 T0) (h1 : zMet l yX8_requireRange (Cond.code yX8_requireRange cX8_requireRange 3 (Option.none : Option Jvm.ClassFile.FieldType) :: zG) rm_X8_requireRange 1 6 T1) (h2 : zMet l yX4_workerAt (Cond.code yX4_workerAt cX4_workerAt 2 (Option.some Jvm.ClassFile.FieldType.int) :: zG) rm_X4_workerAt 0 0 T2) (h3 : zMet l yX4_resultAt (Cond.code yX4_resultAt cX4_resultAt 2 (Option.some Jvm.ClassFile.FieldType.int) :: zG) rm_X4_resultAt 0 0 T3) (h4 : zMet l yX4_isInWork (Cond.code yX4_isInWork cX4_isInWork 2 (Option.some Jvm.ClassFile.FieldType.boolean) :: zG) rm_X4_isInWork 0 0 T4) (h5 : zMet l yX4_dueAt (Cond.code yX4_dueAt cX4_dueAt 2 (Option.some Jvm.ClassFile.FieldType.int) :: zG) rm_X4_dueAt 0 0 T5) {T : ZTf} (bd : zBd (cd_X8_taking T0 T1 T2 T3 T4 T5) 5 3 18 T) : zMet l yX8_taking (Cond.code yX8_taking cX8_taking 5 (Option.some Jvm.ClassFile.FieldType.int) :: zG) rm_X8_taking 3 18 T := zMet_of hl (by decide +kernel) rfl rfl rfl rfl (hs_X8_taking hl h0 h1 h2 h3 h4 h5) bd

abbrev rm_X8_finishers : Room := { frames := 7, cells := 1, slots := 6, locals := 111 }
def cd_X8_finishers (T0 : ZTf) : List (Nat × ZTr) := [(0, tAld 0 1), (1, tIld 1 2), (2, tCall 2 1 6 T0 (zRcv 11) 5), (5, tAld 0 6), (6, tGetR 11 2 9), (9, tGetR 8 7 12), (12, tIld 1 13), (13, tAal 31 14), (14, tAst 2 15), (15, tAld 2 16), (16, tGetI 7 1 19), (19, tC (zi 2) 20), (20, tIc_eq 25 23), (23, tC (zi 0) 24), (24, tRi (fun _ => True)), (25, tC (zi 1) 26), (26, tAld 2 27), (27, tGetI 7 6 30), (30, tBif zshl 31), (31, tC (zi 1) 32), (32, tAld 2 33), (33, tGetI 7 7 36), (36, tBif zshl 37), (37, tBif zor 38), (38, tRi (fun _ => True))]
set_option maxRecDepth 100000 in
set_option maxHeartbeats 4000000 in
theorem hs_X8_finishers {l : Launch} (hl : l.stackTraces = false) {T0 : ZTf} (h0 : zMet l yX8_requireRow (Cond.code yX8_requireRow cX8_requireRow 2 (Option.none : Option Jvm.ClassFile.FieldType) :: zG) rm_X8_requireRow 1 6 T0) (p : Program) (e : Env) (s : State) (m : MethodId) (args : Array Value) (below : List Frame) (meth : Method) (c : Code) (D : va_G) (A : Nat → Prop) (a0 : Nat → Nat) (M0 : ZM) (K : ZRet) (KX : ZEx) (X : zCtx p l rm_X8_finishers s m args meth c cX8_finishers RX8 (Cond.code yX8_finishers cX8_finishers 3 (Option.some Jvm.ClassFile.FieldType.int) :: zG) 3 (Option.some Jvm.ClassFile.FieldType.int) D A a0 M0 1 6) (hnm : meth.name = yX8_finishers.name) (hout : ∀ x ∈ c.exceptionTable.toList, False) : ∀ q ∈ cd_X8_finishers T0, zSd p l e rm_X8_finishers s m args below meth c 3 D A a0 M0 K KX 1 6 q.1 q.2 :=
    zall_c (zs_aload_n X (pc := 0) (q := 0) rfl (by decide +kernel)) <|
    zall_c (zs_iload_n X (pc := 1) (q := 1) rfl (by decide +kernel)) <|
    zall_c (zs_callV X (pc := 2) zc_X8 (fun _ ht => ⟨(zCB ht gw_5_225 gw_1_1 gw_5_222 rfl rfl (by decide +kernel) ⟨Nat.le_of_ble_eq_true rfl, Nat.le_of_ble_eq_true rfl⟩), ht _ (.tail _ gw_5_224), ht _ (.tail _ gp_21)⟩) h0 hout (by decide +kernel)) <|
    zall_c (zs_aload_n X (pc := 5) (q := 0) rfl (by decide +kernel)) <|
    zall_c (zs_getr X (pc := 6) zc_X8 (by decide) (zin ui_X8) (.tail _ gw_2_123) (by decide +kernel) (by decide +kernel)) <|
    zall_c (zs_getr X (pc := 9) zc_X5 (by decide) (zin ui_X5) (.tail _ gw_2_4) (by decide +kernel) (by decide +kernel)) <|
    zall_c (zs_iload_n X (pc := 12) (q := 1) rfl (by decide +kernel)) <|
    zall_c (zs_aaload X (pc := 13) (by decide) rfl (by decide +kernel)) <|
    zall_c (zs_astore_n X (pc := 14) (q := 2) rfl (by decide) (by decide +kernel)) <|
    zall_c (zs_aload_n X (pc := 15) (q := 2) rfl (by decide +kernel)) <|
    zall_c (zs_geti X (pc := 16) zc_X4 (by decide) (zin ui_X4) (.tail _ gw_1_178) (by decide +kernel) (by decide +kernel)) <|
    zall_c (zs_iconst X (pc := 19) (by decide) (by decide +kernel)) <|
    zall_c (zs_icmp_eq X (pc := 20) (off := 5) (by decide +kernel) (by decide)) <|
    zall_c (zs_iconst X (pc := 23) (by decide) (by decide +kernel)) <|
    zall_c (zs_iret X (pc := 24) rfl (by decide +kernel)) <|
    zall_c (zs_iconst X (pc := 25) (by decide) (by decide +kernel)) <|
    zall_c (zs_aload_n X (pc := 26) (q := 2) rfl (by decide +kernel)) <|
    zall_c (zs_geti X (pc := 27) zc_X4 (by decide) (zin ui_X4) (.tail _ gw_1_193) (by decide +kernel) (by decide +kernel)) <|
    zall_c (zs_ishl X (pc := 30) (by decide +kernel)) <|
    zall_c (zs_iconst X (pc := 31) (by decide) (by decide +kernel)) <|
    zall_c (zs_aload_n X (pc := 32) (q := 2) rfl (by decide +kernel)) <|
    zall_c (zs_geti X (pc := 33) zc_X4 (by decide) (zin ui_X4) (.tail _ gw_1_196) (by decide +kernel) (by decide +kernel)) <|
    zall_c (zs_ishl X (pc := 36) (by decide +kernel)) <|
    zall_c (zs_ior X (pc := 37) (by decide +kernel)) <|
    zall_c (zs_iret X (pc := 38) rfl (by decide +kernel)) <|
    zall_n
theorem met_X8_finishers {l : Launch} (hl : l.stackTraces = false) {T0 : ZTf} (h0 : zMet l yX8_requireRow (Cond.code yX8_requireRow cX8_requireRow 2 (Option.none : Option Jvm.ClassFile.FieldType) :: zG) rm_X8_requireRow 1 6 T0) {T : ZTf} (bd : zBd (cd_X8_finishers T0) 3 1 6 T) : zMet l yX8_finishers (Cond.code yX8_finishers cX8_finishers 3 (Option.some Jvm.ClassFile.FieldType.int) :: zG) rm_X8_finishers 1 6 T := zMet_of hl (by decide +kernel) rfl rfl rfl rfl (hs_X8_finishers hl h0) bd

abbrev rm_X8_refusal : Room := { frames := 7, cells := 2, slots := 12, locals := 121 }
def cd_X8_refusal (T0 : ZTf) (T1 : ZTf) (T2 : ZTf) : List (Nat × ZTr) := [(0, tAld 0 1), (1, tIld 1 2), (2, tCall 2 1 6 T0 (zRcv 11) 5), (5, tAld 0 6), (6, tIld 2 7), (7, tCall 2 1 6 T1 (zRcv 11) 10), (10, tAld 0 11), (11, tGetR 11 2 14), (14, tIld 1 15), (15, tIld 2 16), (16, tCall0 3 T2 (zRcv 8) 19), (19, tRi (fun _ => True))]
set_option maxRecDepth 100000 in
set_option maxHeartbeats 4000000 in
theorem hs_X8_refusal {l : Launch} (hl : l.stackTraces = false) {T0 : ZTf} {T1 : ZTf} {T2 : ZTf} (h0 : zMet l yX8_requireWorker (Cond.code yX8_requireWorker cX8_requireWorker 2 (Option.none : Option Jvm.ClassFile.FieldType) :: zG) rm_X8_requireWorker 1 6 T0) (h1 : zMet l yX8_requireRow (Cond.code yX8_requireRow cX8_requireRow 2 (Option.none : Option Jvm.ClassFile.FieldType) :: zG) rm_X8_requireRow 1 6 T1) (h2 : zMet l yX5_reasonAgainst (Cond.code yX5_reasonAgainst cX5_reasonAgainst 3 (Option.some Jvm.ClassFile.FieldType.int) :: zG) rm_X5_reasonAgainst 0 0 T2) (p : Program) (e : Env) (s : State) (m : MethodId) (args : Array Value) (below : List Frame) (meth : Method) (c : Code) (D : va_G) (A : Nat → Prop) (a0 : Nat → Nat) (M0 : ZM) (K : ZRet) (KX : ZEx) (X : zCtx p l rm_X8_refusal s m args meth c cX8_refusal RX8 (Cond.code yX8_refusal cX8_refusal 3 (Option.some Jvm.ClassFile.FieldType.int) :: zG) 3 (Option.some Jvm.ClassFile.FieldType.int) D A a0 M0 2 12) (hnm : meth.name = yX8_refusal.name) (hout : ∀ x ∈ c.exceptionTable.toList, False) : ∀ q ∈ cd_X8_refusal T0 T1 T2, zSd p l e rm_X8_refusal s m args below meth c 3 D A a0 M0 K KX 2 12 q.1 q.2 :=
    zall_c (zs_aload_n X (pc := 0) (q := 0) rfl (by decide +kernel)) <|
    zall_c (zs_iload_n X (pc := 1) (q := 1) rfl (by decide +kernel)) <|
    zall_c (zs_callV X (pc := 2) zc_X8 (fun _ ht => ⟨(zCB ht gw_5_201 gw_1_1 gw_5_198 rfl rfl (by decide +kernel) ⟨Nat.le_of_ble_eq_true rfl, Nat.le_of_ble_eq_true rfl⟩), ht _ (.tail _ gw_5_200), ht _ (.tail _ gp_20)⟩) h0 hout (by decide +kernel)) <|
    zall_c (zs_aload_n X (pc := 5) (q := 0) rfl (by decide +kernel)) <|
    zall_c (zs_iload_n X (pc := 6) (q := 2) rfl (by decide +kernel)) <|
    zall_c (zs_callV X (pc := 7) zc_X8 (fun _ ht => ⟨(zCB ht gw_5_225 gw_1_1 gw_5_222 rfl rfl (by decide +kernel) ⟨Nat.le_of_ble_eq_true rfl, Nat.le_of_ble_eq_true rfl⟩), ht _ (.tail _ gw_5_224), ht _ (.tail _ gp_21)⟩) h1 hout (by decide +kernel)) <|
    zall_c (zs_aload_n X (pc := 10) (q := 0) rfl (by decide +kernel)) <|
    zall_c (zs_getr X (pc := 11) zc_X8 (by decide) (zin ui_X8) (.tail _ gw_2_123) (by decide +kernel) (by decide +kernel)) <|
    zall_c (zs_iload_n X (pc := 14) (q := 1) rfl (by decide +kernel)) <|
    zall_c (zs_iload_n X (pc := 15) (q := 2) rfl (by decide +kernel)) <|
    zall_c (zs_callV0 X (pc := 16) zc_X5 (fun _ ht => ⟨(zCB ht gw_5_16 gw_1_8 gw_6_14 rfl rfl (by decide +kernel) ⟨Nat.le_of_ble_eq_true rfl, Nat.le_of_ble_eq_true rfl⟩), ht _ (.tail _ gw_5_14), ht _ (.tail _ gw_5_15)⟩) h2 hout (by decide +kernel)) <|
    zall_c (zs_iret X (pc := 19) rfl (by decide +kernel)) <|
    zall_n
theorem met_X8_refusal {l : Launch} (hl : l.stackTraces = false) {T0 : ZTf} {T1 : ZTf} {T2 : ZTf} (h0 : zMet l yX8_requireWorker (Cond.code yX8_requireWorker cX8_requireWorker 2 (Option.none : Option Jvm.ClassFile.FieldType) :: zG) rm_X8_requireWorker 1 6 T0) (h1 : zMet l yX8_requireRow (Cond.code yX8_requireRow cX8_requireRow 2 (Option.none : Option Jvm.ClassFile.FieldType) :: zG) rm_X8_requireRow 1 6 T1) (h2 : zMet l yX5_reasonAgainst (Cond.code yX5_reasonAgainst cX5_reasonAgainst 3 (Option.some Jvm.ClassFile.FieldType.int) :: zG) rm_X5_reasonAgainst 0 0 T2) {T : ZTf} (bd : zBd (cd_X8_refusal T0 T1 T2) 3 2 12 T) : zMet l yX8_refusal (Cond.code yX8_refusal cX8_refusal 3 (Option.some Jvm.ClassFile.FieldType.int) :: zG) rm_X8_refusal 2 12 T := zMet_of hl (by decide +kernel) rfl rfl rfl rfl (hs_X8_refusal hl h0 h1 h2) bd

abbrev rm_X8_offers : Room := { frames := 7, cells := 1, slots := 6, locals := 144 }
def cd_X8_offers (T0 : ZTf) (T1 : ZTf) : List (Nat × ZTr) := [(0, tAld 0 1), (1, tIld 1 2), (2, tCall 2 1 6 T0 (zRcv 11) 5), (5, tAld 0 6), (6, tGetR 11 2 9), (9, tIld 1 10), (10, tCall0 2 T1 (zRcv 8) 13), (13, tRi (fun _ => True))]
set_option maxRecDepth 100000 in
set_option maxHeartbeats 4000000 in
theorem hs_X8_offers {l : Launch} (hl : l.stackTraces = false) {T0 : ZTf} {T1 : ZTf} (h0 : zMet l yX8_requireWorker (Cond.code yX8_requireWorker cX8_requireWorker 2 (Option.none : Option Jvm.ClassFile.FieldType) :: zG) rm_X8_requireWorker 1 6 T0) (h1 : zMet l yX5_rowsFor (Cond.code yX5_rowsFor cX5_rowsFor 4 (Option.some Jvm.ClassFile.FieldType.int) :: zG) rm_X5_rowsFor 0 0 T1) (p : Program) (e : Env) (s : State) (m : MethodId) (args : Array Value) (below : List Frame) (meth : Method) (c : Code) (D : va_G) (A : Nat → Prop) (a0 : Nat → Nat) (M0 : ZM) (K : ZRet) (KX : ZEx) (X : zCtx p l rm_X8_offers s m args meth c cX8_offers RX8 (Cond.code yX8_offers cX8_offers 2 (Option.some Jvm.ClassFile.FieldType.int) :: zG) 2 (Option.some Jvm.ClassFile.FieldType.int) D A a0 M0 1 6) (hnm : meth.name = yX8_offers.name) (hout : ∀ x ∈ c.exceptionTable.toList, False) : ∀ q ∈ cd_X8_offers T0 T1, zSd p l e rm_X8_offers s m args below meth c 2 D A a0 M0 K KX 1 6 q.1 q.2 :=
    zall_c (zs_aload_n X (pc := 0) (q := 0) rfl (by decide +kernel)) <|
    zall_c (zs_iload_n X (pc := 1) (q := 1) rfl (by decide +kernel)) <|
    zall_c (zs_callV X (pc := 2) zc_X8 (fun _ ht => ⟨(zCB ht gw_5_201 gw_1_1 gw_5_198 rfl rfl (by decide +kernel) ⟨Nat.le_of_ble_eq_true rfl, Nat.le_of_ble_eq_true rfl⟩), ht _ (.tail _ gw_5_200), ht _ (.tail _ gp_20)⟩) h0 hout (by decide +kernel)) <|
    zall_c (zs_aload_n X (pc := 5) (q := 0) rfl (by decide +kernel)) <|
    zall_c (zs_getr X (pc := 6) zc_X8 (by decide) (zin ui_X8) (.tail _ gw_2_123) (by decide +kernel) (by decide +kernel)) <|
    zall_c (zs_iload_n X (pc := 9) (q := 1) rfl (by decide +kernel)) <|
    zall_c (zs_callV0 X (pc := 10) zc_X5 (fun _ ht => ⟨(zCB ht gw_5_12 gw_1_8 gw_6_22 rfl rfl (by decide +kernel) ⟨Nat.le_of_ble_eq_true rfl, Nat.le_of_ble_eq_true rfl⟩), ht _ (.tail _ gw_5_10), ht _ (.tail _ gw_5_11)⟩) h1 hout (by decide +kernel)) <|
    zall_c (zs_iret X (pc := 13) rfl (by decide +kernel)) <|
    zall_n
theorem met_X8_offers {l : Launch} (hl : l.stackTraces = false) {T0 : ZTf} {T1 : ZTf} (h0 : zMet l yX8_requireWorker (Cond.code yX8_requireWorker cX8_requireWorker 2 (Option.none : Option Jvm.ClassFile.FieldType) :: zG) rm_X8_requireWorker 1 6 T0) (h1 : zMet l yX5_rowsFor (Cond.code yX5_rowsFor cX5_rowsFor 4 (Option.some Jvm.ClassFile.FieldType.int) :: zG) rm_X5_rowsFor 0 0 T1) {T : ZTf} (bd : zBd (cd_X8_offers T0 T1) 2 1 6 T) : zMet l yX8_offers (Cond.code yX8_offers cX8_offers 2 (Option.some Jvm.ClassFile.FieldType.int) :: zG) rm_X8_offers 1 6 T := zMet_of hl (by decide +kernel) rfl rfl rfl rfl (hs_X8_offers hl h0 h1) bd

abbrev rm_X8_nextFor : Room := { frames := 7, cells := 1, slots := 6, locals := 169 }
def cd_X8_nextFor (T0 : ZTf) (T1 : ZTf) : List (Nat × ZTr) := [(0, tAld 0 1), (1, tIld 1 2), (2, tCall 2 1 6 T0 (zRcv 11) 5), (5, tAld 0 6), (6, tGetR 11 2 9), (9, tIld 1 10), (10, tCall0 2 T1 (zRcv 8) 13), (13, tRi (fun _ => True))]
set_option maxRecDepth 100000 in
set_option maxHeartbeats 4000000 in
theorem hs_X8_nextFor {l : Launch} (hl : l.stackTraces = false) {T0 : ZTf} {T1 : ZTf} (h0 : zMet l yX8_requireWorker (Cond.code yX8_requireWorker cX8_requireWorker 2 (Option.none : Option Jvm.ClassFile.FieldType) :: zG) rm_X8_requireWorker 1 6 T0) (h1 : zMet l yX5_chosenRow (Cond.code yX5_chosenRow cX5_chosenRow 6 (Option.some Jvm.ClassFile.FieldType.int) :: zG) rm_X5_chosenRow 0 0 T1) (p : Program) (e : Env) (s : State) (m : MethodId) (args : Array Value) (below : List Frame) (meth : Method) (c : Code) (D : va_G) (A : Nat → Prop) (a0 : Nat → Nat) (M0 : ZM) (K : ZRet) (KX : ZEx) (X : zCtx p l rm_X8_nextFor s m args meth c cX8_nextFor RX8 (Cond.code yX8_nextFor cX8_nextFor 2 (Option.some Jvm.ClassFile.FieldType.int) :: zG) 2 (Option.some Jvm.ClassFile.FieldType.int) D A a0 M0 1 6) (hnm : meth.name = yX8_nextFor.name) (hout : ∀ x ∈ c.exceptionTable.toList, False) : ∀ q ∈ cd_X8_nextFor T0 T1, zSd p l e rm_X8_nextFor s m args below meth c 2 D A a0 M0 K KX 1 6 q.1 q.2 :=
    zall_c (zs_aload_n X (pc := 0) (q := 0) rfl (by decide +kernel)) <|
    zall_c (zs_iload_n X (pc := 1) (q := 1) rfl (by decide +kernel)) <|
    zall_c (zs_callV X (pc := 2) zc_X8 (fun _ ht => ⟨(zCB ht gw_5_201 gw_1_1 gw_5_198 rfl rfl (by decide +kernel) ⟨Nat.le_of_ble_eq_true rfl, Nat.le_of_ble_eq_true rfl⟩), ht _ (.tail _ gw_5_200), ht _ (.tail _ gp_20)⟩) h0 hout (by decide +kernel)) <|
    zall_c (zs_aload_n X (pc := 5) (q := 0) rfl (by decide +kernel)) <|
    zall_c (zs_getr X (pc := 6) zc_X8 (by decide) (zin ui_X8) (.tail _ gw_2_123) (by decide +kernel) (by decide +kernel)) <|
    zall_c (zs_iload_n X (pc := 9) (q := 1) rfl (by decide +kernel)) <|
    zall_c (zs_callV0 X (pc := 10) zc_X5 (fun _ ht => ⟨(zCB ht gw_6_33 gw_1_8 gw_6_30 rfl rfl (by decide +kernel) ⟨Nat.le_of_ble_eq_true rfl, Nat.le_of_ble_eq_true rfl⟩), ht _ (.tail _ gw_6_31), ht _ (.tail _ gw_6_32)⟩) h1 hout (by decide +kernel)) <|
    zall_c (zs_iret X (pc := 13) rfl (by decide +kernel)) <|
    zall_n
theorem met_X8_nextFor {l : Launch} (hl : l.stackTraces = false) {T0 : ZTf} {T1 : ZTf} (h0 : zMet l yX8_requireWorker (Cond.code yX8_requireWorker cX8_requireWorker 2 (Option.none : Option Jvm.ClassFile.FieldType) :: zG) rm_X8_requireWorker 1 6 T0) (h1 : zMet l yX5_chosenRow (Cond.code yX5_chosenRow cX5_chosenRow 6 (Option.some Jvm.ClassFile.FieldType.int) :: zG) rm_X5_chosenRow 0 0 T1) {T : ZTf} (bd : zBd (cd_X8_nextFor T0 T1) 2 1 6 T) : zMet l yX8_nextFor (Cond.code yX8_nextFor cX8_nextFor 2 (Option.some Jvm.ClassFile.FieldType.int) :: zG) rm_X8_nextFor 1 6 T := zMet_of hl (by decide +kernel) rfl rfl rfl rfl (hs_X8_nextFor hl h0 h1) bd

abbrev rm_X8_takers : Room := { frames := 7, cells := 1, slots := 6, locals := 144 }
def cd_X8_takers (T0 : ZTf) (T1 : ZTf) : List (Nat × ZTr) := [(0, tAld 0 1), (1, tIld 1 2), (2, tCall 2 1 6 T0 (zRcv 11) 5), (5, tAld 0 6), (6, tGetR 11 2 9), (9, tIld 1 10), (10, tCall0 2 T1 (zRcv 8) 13), (13, tRi (fun _ => True))]
set_option maxRecDepth 100000 in
set_option maxHeartbeats 4000000 in
theorem hs_X8_takers {l : Launch} (hl : l.stackTraces = false) {T0 : ZTf} {T1 : ZTf} (h0 : zMet l yX8_requireRow (Cond.code yX8_requireRow cX8_requireRow 2 (Option.none : Option Jvm.ClassFile.FieldType) :: zG) rm_X8_requireRow 1 6 T0) (h1 : zMet l yX5_workersFor (Cond.code yX5_workersFor cX5_workersFor 4 (Option.some Jvm.ClassFile.FieldType.int) :: zG) rm_X5_workersFor 0 0 T1) (p : Program) (e : Env) (s : State) (m : MethodId) (args : Array Value) (below : List Frame) (meth : Method) (c : Code) (D : va_G) (A : Nat → Prop) (a0 : Nat → Nat) (M0 : ZM) (K : ZRet) (KX : ZEx) (X : zCtx p l rm_X8_takers s m args meth c cX8_takers RX8 (Cond.code yX8_takers cX8_takers 2 (Option.some Jvm.ClassFile.FieldType.int) :: zG) 2 (Option.some Jvm.ClassFile.FieldType.int) D A a0 M0 1 6) (hnm : meth.name = yX8_takers.name) (hout : ∀ x ∈ c.exceptionTable.toList, False) : ∀ q ∈ cd_X8_takers T0 T1, zSd p l e rm_X8_takers s m args below meth c 2 D A a0 M0 K KX 1 6 q.1 q.2 :=
    zall_c (zs_aload_n X (pc := 0) (q := 0) rfl (by decide +kernel)) <|
    zall_c (zs_iload_n X (pc := 1) (q := 1) rfl (by decide +kernel)) <|
    zall_c (zs_callV X (pc := 2) zc_X8 (fun _ ht => ⟨(zCB ht gw_5_225 gw_1_1 gw_5_222 rfl rfl (by decide +kernel) ⟨Nat.le_of_ble_eq_true rfl, Nat.le_of_ble_eq_true rfl⟩), ht _ (.tail _ gw_5_224), ht _ (.tail _ gp_21)⟩) h0 hout (by decide +kernel)) <|
    zall_c (zs_aload_n X (pc := 5) (q := 0) rfl (by decide +kernel)) <|
    zall_c (zs_getr X (pc := 6) zc_X8 (by decide) (zin ui_X8) (.tail _ gw_2_123) (by decide +kernel) (by decide +kernel)) <|
    zall_c (zs_iload_n X (pc := 9) (q := 1) rfl (by decide +kernel)) <|
    zall_c (zs_callV0 X (pc := 10) zc_X5 (fun _ ht => ⟨(zCB ht gw_6_47 gw_1_8 gw_6_44 rfl rfl (by decide +kernel) ⟨Nat.le_of_ble_eq_true rfl, Nat.le_of_ble_eq_true rfl⟩), ht _ (.tail _ gw_6_45), ht _ (.tail _ gw_6_46)⟩) h1 hout (by decide +kernel)) <|
    zall_c (zs_iret X (pc := 13) rfl (by decide +kernel)) <|
    zall_n
theorem met_X8_takers {l : Launch} (hl : l.stackTraces = false) {T0 : ZTf} {T1 : ZTf} (h0 : zMet l yX8_requireRow (Cond.code yX8_requireRow cX8_requireRow 2 (Option.none : Option Jvm.ClassFile.FieldType) :: zG) rm_X8_requireRow 1 6 T0) (h1 : zMet l yX5_workersFor (Cond.code yX5_workersFor cX5_workersFor 4 (Option.some Jvm.ClassFile.FieldType.int) :: zG) rm_X5_workersFor 0 0 T1) {T : ZTf} (bd : zBd (cd_X8_takers T0 T1) 2 1 6 T) : zMet l yX8_takers (Cond.code yX8_takers cX8_takers 2 (Option.some Jvm.ClassFile.FieldType.int) :: zG) rm_X8_takers 1 6 T := zMet_of hl (by decide +kernel) rfl rfl rfl rfl (hs_X8_takers hl h0 h1) bd

abbrev rm_X8_isStuck : Room := { frames := 7, cells := 1, slots := 6, locals := 121 }
def cd_X8_isStuck (T0 : ZTf) (T1 : ZTf) : List (Nat × ZTr) := [(0, tAld 0 1), (1, tIld 1 2), (2, tCall 2 1 6 T0 (zRcv 11) 5), (5, tAld 0 6), (6, tGetR 11 2 9), (9, tIld 1 10), (10, tCall0 2 T1 (zRcv 8) 13), (13, tRi zPz)]
set_option maxRecDepth 100000 in
set_option maxHeartbeats 4000000 in
theorem hs_X8_isStuck {l : Launch} (hl : l.stackTraces = false) {T0 : ZTf} {T1 : ZTf} (h0 : zMet l yX8_requireRow (Cond.code yX8_requireRow cX8_requireRow 2 (Option.none : Option Jvm.ClassFile.FieldType) :: zG) rm_X8_requireRow 1 6 T0) (h1 : zMet l yX5_hasNobodyFor (Cond.code yX5_hasNobodyFor cX5_hasNobodyFor 3 (Option.some Jvm.ClassFile.FieldType.boolean) :: zG) rm_X5_hasNobodyFor 0 0 T1) (p : Program) (e : Env) (s : State) (m : MethodId) (args : Array Value) (below : List Frame) (meth : Method) (c : Code) (D : va_G) (A : Nat → Prop) (a0 : Nat → Nat) (M0 : ZM) (K : ZRet) (KX : ZEx) (X : zCtx p l rm_X8_isStuck s m args meth c cX8_isStuck RX8 (Cond.code yX8_isStuck cX8_isStuck 2 (Option.some Jvm.ClassFile.FieldType.boolean) :: zG) 2 (Option.some Jvm.ClassFile.FieldType.boolean) D A a0 M0 1 6) (hnm : meth.name = yX8_isStuck.name) (hout : ∀ x ∈ c.exceptionTable.toList, False) : ∀ q ∈ cd_X8_isStuck T0 T1, zSd p l e rm_X8_isStuck s m args below meth c 2 D A a0 M0 K KX 1 6 q.1 q.2 :=
    zall_c (zs_aload_n X (pc := 0) (q := 0) rfl (by decide +kernel)) <|
    zall_c (zs_iload_n X (pc := 1) (q := 1) rfl (by decide +kernel)) <|
    zall_c (zs_callV X (pc := 2) zc_X8 (fun _ ht => ⟨(zCB ht gw_5_225 gw_1_1 gw_5_222 rfl rfl (by decide +kernel) ⟨Nat.le_of_ble_eq_true rfl, Nat.le_of_ble_eq_true rfl⟩), ht _ (.tail _ gw_5_224), ht _ (.tail _ gp_21)⟩) h0 hout (by decide +kernel)) <|
    zall_c (zs_aload_n X (pc := 5) (q := 0) rfl (by decide +kernel)) <|
    zall_c (zs_getr X (pc := 6) zc_X8 (by decide) (zin ui_X8) (.tail _ gw_2_123) (by decide +kernel) (by decide +kernel)) <|
    zall_c (zs_iload_n X (pc := 9) (q := 1) rfl (by decide +kernel)) <|
    zall_c (zs_callV0 X (pc := 10) zc_X5 (fun _ ht => ⟨(zCB ht gw_5_94 gw_1_8 gw_5_91 rfl rfl (by decide +kernel) ⟨Nat.le_of_ble_eq_true rfl, Nat.le_of_ble_eq_true rfl⟩), ht _ (.tail _ gw_5_92), ht _ (.tail _ gw_5_93)⟩) h1 hout (by decide +kernel)) <|
    zall_c (zs_zret X (pc := 13) rfl zR_bool (by decide +kernel)) <|
    zall_n
theorem met_X8_isStuck {l : Launch} (hl : l.stackTraces = false) {T0 : ZTf} {T1 : ZTf} (h0 : zMet l yX8_requireRow (Cond.code yX8_requireRow cX8_requireRow 2 (Option.none : Option Jvm.ClassFile.FieldType) :: zG) rm_X8_requireRow 1 6 T0) (h1 : zMet l yX5_hasNobodyFor (Cond.code yX5_hasNobodyFor cX5_hasNobodyFor 3 (Option.some Jvm.ClassFile.FieldType.boolean) :: zG) rm_X5_hasNobodyFor 0 0 T1) {T : ZTf} (bd : zBd (cd_X8_isStuck T0 T1) 2 1 6 T) : zMet l yX8_isStuck (Cond.code yX8_isStuck cX8_isStuck 2 (Option.some Jvm.ClassFile.FieldType.boolean) :: zG) rm_X8_isStuck 1 6 T := zMet_of hl (by decide +kernel) rfl rfl rfl rfl (hs_X8_isStuck hl h0 h1) bd

abbrev rm_X8_bestPair : Room := { frames := 7, cells := 1, slots := 6, locals := 144 }
def cd_X8_bestPair (T0 : ZTf) (T1 : ZTf) (T2 : ZTf) : List (Nat × ZTr) := [(0, tAld 0 1), (1, tIld 1 2), (2, tCall 2 1 6 T0 (zRcv 11) 5), (5, tAld 0 6), (6, tGetR 11 2 9), (9, tGetR 8 7 12), (12, tIld 1 13), (13, tAal 31 14), (14, tAst 2 15), (15, tAld 2 16), (16, tGetI 7 1 19), (19, tIf_ne 29 22), (22, tAld 2 23), (23, tGetI 7 8 26), (26, tIf_le 31 29), (29, tC (zi (-1)) 30), (30, tRi (fun _ => True)), (31, tAld 0 32), (32, tGetR 11 2 35), (35, tAld 0 36), (36, tGetR 11 2 39), (39, tIld 1 40), (40, tCall0 2 T1 (zRcv 8) 43), (43, tCall0 2 T2 (zRcv 8) 46), (46, tRi (fun _ => True))]
set_option maxRecDepth 100000 in
set_option maxHeartbeats 4000000 in
theorem hs_X8_bestPair {l : Launch} (hl : l.stackTraces = false) {T0 : ZTf} {T1 : ZTf} {T2 : ZTf} (h0 : zMet l yX8_requireRow (Cond.code yX8_requireRow cX8_requireRow 2 (Option.none : Option Jvm.ClassFile.FieldType) :: zG) rm_X8_requireRow 1 6 T0) (h1 : zMet l yX5_workersFor (Cond.code yX5_workersFor cX5_workersFor 4 (Option.some Jvm.ClassFile.FieldType.int) :: zG) rm_X5_workersFor 0 0 T1) (h2 : zMet l yX5_mostTrustedPair (Cond.code yX5_mostTrustedPair cX5_mostTrustedPair 8 (Option.some Jvm.ClassFile.FieldType.int) :: zG) rm_X5_mostTrustedPair 0 0 T2) (p : Program) (e : Env) (s : State) (m : MethodId) (args : Array Value) (below : List Frame) (meth : Method) (c : Code) (D : va_G) (A : Nat → Prop) (a0 : Nat → Nat) (M0 : ZM) (K : ZRet) (KX : ZEx) (X : zCtx p l rm_X8_bestPair s m args meth c cX8_bestPair RX8 (Cond.code yX8_bestPair cX8_bestPair 3 (Option.some Jvm.ClassFile.FieldType.int) :: zG) 3 (Option.some Jvm.ClassFile.FieldType.int) D A a0 M0 1 6) (hnm : meth.name = yX8_bestPair.name) (hout : ∀ x ∈ c.exceptionTable.toList, False) : ∀ q ∈ cd_X8_bestPair T0 T1 T2, zSd p l e rm_X8_bestPair s m args below meth c 3 D A a0 M0 K KX 1 6 q.1 q.2 :=
    zall_c (zs_aload_n X (pc := 0) (q := 0) rfl (by decide +kernel)) <|
    zall_c (zs_iload_n X (pc := 1) (q := 1) rfl (by decide +kernel)) <|
    zall_c (zs_callV X (pc := 2) zc_X8 (fun _ ht => ⟨(zCB ht gw_5_225 gw_1_1 gw_5_222 rfl rfl (by decide +kernel) ⟨Nat.le_of_ble_eq_true rfl, Nat.le_of_ble_eq_true rfl⟩), ht _ (.tail _ gw_5_224), ht _ (.tail _ gp_21)⟩) h0 hout (by decide +kernel)) <|
    zall_c (zs_aload_n X (pc := 5) (q := 0) rfl (by decide +kernel)) <|
    zall_c (zs_getr X (pc := 6) zc_X8 (by decide) (zin ui_X8) (.tail _ gw_2_123) (by decide +kernel) (by decide +kernel)) <|
    zall_c (zs_getr X (pc := 9) zc_X5 (by decide) (zin ui_X5) (.tail _ gw_2_4) (by decide +kernel) (by decide +kernel)) <|
    zall_c (zs_iload_n X (pc := 12) (q := 1) rfl (by decide +kernel)) <|
    zall_c (zs_aaload X (pc := 13) (by decide) rfl (by decide +kernel)) <|
    zall_c (zs_astore_n X (pc := 14) (q := 2) rfl (by decide) (by decide +kernel)) <|
    zall_c (zs_aload_n X (pc := 15) (q := 2) rfl (by decide +kernel)) <|
    zall_c (zs_geti X (pc := 16) zc_X4 (by decide) (zin ui_X4) (.tail _ gw_1_178) (by decide +kernel) (by decide +kernel)) <|
    zall_c (zs_if_ne X (pc := 19) (off := 10) (by decide +kernel) (by decide)) <|
    zall_c (zs_aload_n X (pc := 22) (q := 2) rfl (by decide +kernel)) <|
    zall_c (zs_geti X (pc := 23) zc_X4 (by decide) (zin ui_X4) (.tail _ gw_1_200) (by decide +kernel) (by decide +kernel)) <|
    zall_c (zs_if_le X (pc := 26) (off := 5) (by decide +kernel) (by decide)) <|
    zall_c (zs_iconst X (pc := 29) (by decide) (by decide +kernel)) <|
    zall_c (zs_iret X (pc := 30) rfl (by decide +kernel)) <|
    zall_c (zs_aload_n X (pc := 31) (q := 0) rfl (by decide +kernel)) <|
    zall_c (zs_getr X (pc := 32) zc_X8 (by decide) (zin ui_X8) (.tail _ gw_2_123) (by decide +kernel) (by decide +kernel)) <|
    zall_c (zs_aload_n X (pc := 35) (q := 0) rfl (by decide +kernel)) <|
    zall_c (zs_getr X (pc := 36) zc_X8 (by decide) (zin ui_X8) (.tail _ gw_2_123) (by decide +kernel) (by decide +kernel)) <|
    zall_c (zs_iload_n X (pc := 39) (q := 1) rfl (by decide +kernel)) <|
    zall_c (zs_callV0 X (pc := 40) zc_X5 (fun _ ht => ⟨(zCB ht gw_6_47 gw_1_8 gw_6_44 rfl rfl (by decide +kernel) ⟨Nat.le_of_ble_eq_true rfl, Nat.le_of_ble_eq_true rfl⟩), ht _ (.tail _ gw_6_45), ht _ (.tail _ gw_6_46)⟩) h1 hout (by decide +kernel)) <|
    zall_c (zs_callV0 X (pc := 43) zc_X5 (fun _ ht => ⟨(zCB ht gw_6_65 gw_1_8 gw_6_62 rfl rfl (by decide +kernel) ⟨Nat.le_of_ble_eq_true rfl, Nat.le_of_ble_eq_true rfl⟩), ht _ (.tail _ gw_6_63), ht _ (.tail _ gw_6_64)⟩) h2 hout (by decide +kernel)) <|
    zall_c (zs_iret X (pc := 46) rfl (by decide +kernel)) <|
    zall_n
theorem met_X8_bestPair {l : Launch} (hl : l.stackTraces = false) {T0 : ZTf} {T1 : ZTf} {T2 : ZTf} (h0 : zMet l yX8_requireRow (Cond.code yX8_requireRow cX8_requireRow 2 (Option.none : Option Jvm.ClassFile.FieldType) :: zG) rm_X8_requireRow 1 6 T0) (h1 : zMet l yX5_workersFor (Cond.code yX5_workersFor cX5_workersFor 4 (Option.some Jvm.ClassFile.FieldType.int) :: zG) rm_X5_workersFor 0 0 T1) (h2 : zMet l yX5_mostTrustedPair (Cond.code yX5_mostTrustedPair cX5_mostTrustedPair 8 (Option.some Jvm.ClassFile.FieldType.int) :: zG) rm_X5_mostTrustedPair 0 0 T2) {T : ZTf} (bd : zBd (cd_X8_bestPair T0 T1 T2) 3 1 6 T) : zMet l yX8_bestPair (Cond.code yX8_bestPair cX8_bestPair 3 (Option.some Jvm.ClassFile.FieldType.int) :: zG) rm_X8_bestPair 1 6 T := zMet_of hl (by decide +kernel) rfl rfl rfl rfl (hs_X8_bestPair hl h0 h1 h2) bd

abbrev rm_X8_mostTakings : Room := { frames := 7, cells := 1, slots := 6, locals := 169 }
def cd_X8_mostTakings (T0 : ZTf) : List (Nat × ZTr) := [(0, tAld 0 1), (1, tGetR 11 2 4), (4, tCall 1 1 6 T0 (zRcv 8) 7), (7, tRi (fun _ => True))]
set_option maxRecDepth 100000 in
set_option maxHeartbeats 4000000 in
theorem hs_X8_mostTakings {l : Launch} (hl : l.stackTraces = false) {T0 : ZTf} (h0 : zMet l yX5_greatestMatching (Cond.code yX5_greatestMatching cX5_greatestMatching 6 (Option.some Jvm.ClassFile.FieldType.int) :: zG) rm_X5_greatestMatching 1 6 T0) (p : Program) (e : Env) (s : State) (m : MethodId) (args : Array Value) (below : List Frame) (meth : Method) (c : Code) (D : va_G) (A : Nat → Prop) (a0 : Nat → Nat) (M0 : ZM) (K : ZRet) (KX : ZEx) (X : zCtx p l rm_X8_mostTakings s m args meth c cX8_mostTakings RX8 (Cond.code yX8_mostTakings cX8_mostTakings 1 (Option.some Jvm.ClassFile.FieldType.int) :: zG) 1 (Option.some Jvm.ClassFile.FieldType.int) D A a0 M0 1 6) (hnm : meth.name = yX8_mostTakings.name) (hout : ∀ x ∈ c.exceptionTable.toList, False) : ∀ q ∈ cd_X8_mostTakings T0, zSd p l e rm_X8_mostTakings s m args below meth c 1 D A a0 M0 K KX 1 6 q.1 q.2 :=
    zall_c (zs_aload_n X (pc := 0) (q := 0) rfl (by decide +kernel)) <|
    zall_c (zs_getr X (pc := 1) zc_X8 (by decide) (zin ui_X8) (.tail _ gw_2_123) (by decide +kernel) (by decide +kernel)) <|
    zall_c (zs_callV X (pc := 4) zc_X5 (fun _ ht => ⟨(zCB ht gw_5_8 gw_1_8 gw_5_5 rfl rfl (by decide +kernel) ⟨Nat.le_of_ble_eq_true rfl, Nat.le_of_ble_eq_true rfl⟩), ht _ (.tail _ gw_5_6), ht _ (.tail _ gw_5_7)⟩) h0 hout (by decide +kernel)) <|
    zall_c (zs_iret X (pc := 7) rfl (by decide +kernel)) <|
    zall_n
theorem met_X8_mostTakings {l : Launch} (hl : l.stackTraces = false) {T0 : ZTf} (h0 : zMet l yX5_greatestMatching (Cond.code yX5_greatestMatching cX5_greatestMatching 6 (Option.some Jvm.ClassFile.FieldType.int) :: zG) rm_X5_greatestMatching 1 6 T0) {T : ZTf} (bd : zBd (cd_X8_mostTakings T0) 1 1 6 T) : zMet l yX8_mostTakings (Cond.code yX8_mostTakings cX8_mostTakings 1 (Option.some Jvm.ClassFile.FieldType.int) :: zG) rm_X8_mostTakings 1 6 T := zMet_of hl (by decide +kernel) rfl rfl rfl rfl (hs_X8_mostTakings hl h0) bd

abbrev rm_X8_strikes : Room := { frames := 7, cells := 2, slots := 12, locals := 111 }
def cd_X8_strikes (T0 : ZTf) (T1 : ZTf) : List (Nat × ZTr) := [(0, tAld 0 1), (1, tIld 1 2), (2, tCall 2 1 6 T0 (zRcv 11) 5), (5, tAld 0 6), (6, tIld 2 7), (7, tCall 2 1 6 T0 (zRcv 11) 10), (10, tAld 0 11), (11, tGetR 11 2 14), (14, tGetR 8 8 17), (17, tIld 1 18), (18, tIld 2 19), (19, tCall0 2 T1 zAny 22), (22, tIal 20 23), (23, tRi (fun _ => True))]
set_option maxRecDepth 100000 in
set_option maxHeartbeats 4000000 in
theorem hs_X8_strikes {l : Launch} (hl : l.stackTraces = false) {T0 : ZTf} {T1 : ZTf} (h0 : zMet l yX8_requireWorker (Cond.code yX8_requireWorker cX8_requireWorker 2 (Option.none : Option Jvm.ClassFile.FieldType) :: zG) rm_X8_requireWorker 1 6 T0) (h1 : zMet l yX5_pairIndex (Cond.code yX5_pairIndex cX5_pairIndex 2 (Option.some Jvm.ClassFile.FieldType.int) :: zG) rm_X5_pairIndex 0 0 T1) (p : Program) (e : Env) (s : State) (m : MethodId) (args : Array Value) (below : List Frame) (meth : Method) (c : Code) (D : va_G) (A : Nat → Prop) (a0 : Nat → Nat) (M0 : ZM) (K : ZRet) (KX : ZEx) (X : zCtx p l rm_X8_strikes s m args meth c cX8_strikes RX8 (Cond.code yX8_strikes cX8_strikes 3 (Option.some Jvm.ClassFile.FieldType.int) :: zG) 3 (Option.some Jvm.ClassFile.FieldType.int) D A a0 M0 2 12) (hnm : meth.name = yX8_strikes.name) (hout : ∀ x ∈ c.exceptionTable.toList, False) : ∀ q ∈ cd_X8_strikes T0 T1, zSd p l e rm_X8_strikes s m args below meth c 3 D A a0 M0 K KX 2 12 q.1 q.2 :=
    zall_c (zs_aload_n X (pc := 0) (q := 0) rfl (by decide +kernel)) <|
    zall_c (zs_iload_n X (pc := 1) (q := 1) rfl (by decide +kernel)) <|
    zall_c (zs_callV X (pc := 2) zc_X8 (fun _ ht => ⟨(zCB ht gw_5_201 gw_1_1 gw_5_198 rfl rfl (by decide +kernel) ⟨Nat.le_of_ble_eq_true rfl, Nat.le_of_ble_eq_true rfl⟩), ht _ (.tail _ gw_5_200), ht _ (.tail _ gp_20)⟩) h0 hout (by decide +kernel)) <|
    zall_c (zs_aload_n X (pc := 5) (q := 0) rfl (by decide +kernel)) <|
    zall_c (zs_iload_n X (pc := 6) (q := 2) rfl (by decide +kernel)) <|
    zall_c (zs_callV X (pc := 7) zc_X8 (fun _ ht => ⟨(zCB ht gw_5_201 gw_1_1 gw_5_198 rfl rfl (by decide +kernel) ⟨Nat.le_of_ble_eq_true rfl, Nat.le_of_ble_eq_true rfl⟩), ht _ (.tail _ gw_5_200), ht _ (.tail _ gp_20)⟩) h0 hout (by decide +kernel)) <|
    zall_c (zs_aload_n X (pc := 10) (q := 0) rfl (by decide +kernel)) <|
    zall_c (zs_getr X (pc := 11) zc_X8 (by decide) (zin ui_X8) (.tail _ gw_2_123) (by decide +kernel) (by decide +kernel)) <|
    zall_c (zs_getr X (pc := 14) zc_X5 (by decide) (zin ui_X5) (.tail _ gw_2_6) (by decide +kernel) (by decide +kernel)) <|
    zall_c (zs_iload_n X (pc := 17) (q := 1) rfl (by decide +kernel)) <|
    zall_c (zs_iload_n X (pc := 18) (q := 2) rfl (by decide +kernel)) <|
    zall_c (zs_callS0 X (pc := 19) (fun _ ht => ⟨(zCB ht gw_4_203 gw_1_8 gw_6_77 rfl rfl (by decide +kernel) ⟨Nat.le_of_ble_eq_true rfl, Nat.le_of_ble_eq_true rfl⟩), ht _ (.tail _ gw_4_202)⟩) h1 hout (by decide +kernel)) <|
    zall_c (zs_iaload20 X (pc := 22) (by decide +kernel)) <|
    zall_c (zs_iret X (pc := 23) rfl (by decide +kernel)) <|
    zall_n
theorem met_X8_strikes {l : Launch} (hl : l.stackTraces = false) {T0 : ZTf} {T1 : ZTf} (h0 : zMet l yX8_requireWorker (Cond.code yX8_requireWorker cX8_requireWorker 2 (Option.none : Option Jvm.ClassFile.FieldType) :: zG) rm_X8_requireWorker 1 6 T0) (h1 : zMet l yX5_pairIndex (Cond.code yX5_pairIndex cX5_pairIndex 2 (Option.some Jvm.ClassFile.FieldType.int) :: zG) rm_X5_pairIndex 0 0 T1) {T : ZTf} (bd : zBd (cd_X8_strikes T0 T1) 3 2 12 T) : zMet l yX8_strikes (Cond.code yX8_strikes cX8_strikes 3 (Option.some Jvm.ClassFile.FieldType.int) :: zG) rm_X8_strikes 2 12 T := zMet_of hl (by decide +kernel) rfl rfl rfl rfl (hs_X8_strikes hl h0 h1) bd

abbrev rm_X8_isBarred : Room := { frames := 7, cells := 2, slots := 12, locals := 111 }
def cd_X8_isBarred (T0 : ZTf) (T1 : ZTf) : List (Nat × ZTr) := [(0, tAld 0 1), (1, tIld 1 2), (2, tCall 2 1 6 T0 (zRcv 11) 5), (5, tAld 0 6), (6, tIld 2 7), (7, tCall 2 1 6 T0 (zRcv 11) 10), (10, tAld 0 11), (11, tGetR 11 2 14), (14, tIld 1 15), (15, tIld 2 16), (16, tCall0 3 T1 (zRcv 8) 19), (19, tRi zPz)]
set_option maxRecDepth 100000 in
set_option maxHeartbeats 4000000 in
theorem hs_X8_isBarred {l : Launch} (hl : l.stackTraces = false) {T0 : ZTf} {T1 : ZTf} (h0 : zMet l yX8_requireWorker (Cond.code yX8_requireWorker cX8_requireWorker 2 (Option.none : Option Jvm.ClassFile.FieldType) :: zG) rm_X8_requireWorker 1 6 T0) (h1 : zMet l yX5_areKeptApart (Cond.code yX5_areKeptApart cX5_areKeptApart 4 (Option.some Jvm.ClassFile.FieldType.boolean) :: zG) rm_X5_areKeptApart 0 0 T1) (p : Program) (e : Env) (s : State) (m : MethodId) (args : Array Value) (below : List Frame) (meth : Method) (c : Code) (D : va_G) (A : Nat → Prop) (a0 : Nat → Nat) (M0 : ZM) (K : ZRet) (KX : ZEx) (X : zCtx p l rm_X8_isBarred s m args meth c cX8_isBarred RX8 (Cond.code yX8_isBarred cX8_isBarred 3 (Option.some Jvm.ClassFile.FieldType.boolean) :: zG) 3 (Option.some Jvm.ClassFile.FieldType.boolean) D A a0 M0 2 12) (hnm : meth.name = yX8_isBarred.name) (hout : ∀ x ∈ c.exceptionTable.toList, False) : ∀ q ∈ cd_X8_isBarred T0 T1, zSd p l e rm_X8_isBarred s m args below meth c 3 D A a0 M0 K KX 2 12 q.1 q.2 :=
    zall_c (zs_aload_n X (pc := 0) (q := 0) rfl (by decide +kernel)) <|
    zall_c (zs_iload_n X (pc := 1) (q := 1) rfl (by decide +kernel)) <|
    zall_c (zs_callV X (pc := 2) zc_X8 (fun _ ht => ⟨(zCB ht gw_5_201 gw_1_1 gw_5_198 rfl rfl (by decide +kernel) ⟨Nat.le_of_ble_eq_true rfl, Nat.le_of_ble_eq_true rfl⟩), ht _ (.tail _ gw_5_200), ht _ (.tail _ gp_20)⟩) h0 hout (by decide +kernel)) <|
    zall_c (zs_aload_n X (pc := 5) (q := 0) rfl (by decide +kernel)) <|
    zall_c (zs_iload_n X (pc := 6) (q := 2) rfl (by decide +kernel)) <|
    zall_c (zs_callV X (pc := 7) zc_X8 (fun _ ht => ⟨(zCB ht gw_5_201 gw_1_1 gw_5_198 rfl rfl (by decide +kernel) ⟨Nat.le_of_ble_eq_true rfl, Nat.le_of_ble_eq_true rfl⟩), ht _ (.tail _ gw_5_200), ht _ (.tail _ gp_20)⟩) h0 hout (by decide +kernel)) <|
    zall_c (zs_aload_n X (pc := 10) (q := 0) rfl (by decide +kernel)) <|
    zall_c (zs_getr X (pc := 11) zc_X8 (by decide) (zin ui_X8) (.tail _ gw_2_123) (by decide +kernel) (by decide +kernel)) <|
    zall_c (zs_iload_n X (pc := 14) (q := 1) rfl (by decide +kernel)) <|
    zall_c (zs_iload_n X (pc := 15) (q := 2) rfl (by decide +kernel)) <|
    zall_c (zs_callV0 X (pc := 16) zc_X5 (fun _ ht => ⟨(zCB ht gw_4_200 gw_1_8 gw_6_85 rfl rfl (by decide +kernel) ⟨Nat.le_of_ble_eq_true rfl, Nat.le_of_ble_eq_true rfl⟩), ht _ (.tail _ gw_4_198), ht _ (.tail _ gw_4_199)⟩) h1 hout (by decide +kernel)) <|
    zall_c (zs_zret X (pc := 19) rfl zR_bool (by decide +kernel)) <|
    zall_n
theorem met_X8_isBarred {l : Launch} (hl : l.stackTraces = false) {T0 : ZTf} {T1 : ZTf} (h0 : zMet l yX8_requireWorker (Cond.code yX8_requireWorker cX8_requireWorker 2 (Option.none : Option Jvm.ClassFile.FieldType) :: zG) rm_X8_requireWorker 1 6 T0) (h1 : zMet l yX5_areKeptApart (Cond.code yX5_areKeptApart cX5_areKeptApart 4 (Option.some Jvm.ClassFile.FieldType.boolean) :: zG) rm_X5_areKeptApart 0 0 T1) {T : ZTf} (bd : zBd (cd_X8_isBarred T0 T1) 3 2 12 T) : zMet l yX8_isBarred (Cond.code yX8_isBarred cX8_isBarred 3 (Option.some Jvm.ClassFile.FieldType.boolean) :: zG) rm_X8_isBarred 2 12 T := zMet_of hl (by decide +kernel) rfl rfl rfl rfl (hs_X8_isBarred hl h0 h1) bd

abbrev rm_X8_agreeing : Room := { frames := 7, cells := 2, slots := 12, locals := 122 }
def cd_X8_agreeing (T0 : ZTf) (T1 : ZTf) : List (Nat × ZTr) := [(0, tAld 0 1), (1, tIld 1 2), (2, tCall 2 1 6 T0 (zRcv 11) 5), (5, tAld 0 6), (6, tIld 2 7), (7, tCall 2 1 6 T0 (zRcv 11) 10), (10, tAld 0 11), (11, tGetR 11 2 14), (14, tIld 1 15), (15, tIld 2 16), (16, tC (zi 1) 17), (17, tCall0 4 T1 (zRcv 8) 20), (20, tRi (fun _ => True))]
set_option maxRecDepth 100000 in
set_option maxHeartbeats 4000000 in
theorem hs_X8_agreeing {l : Launch} (hl : l.stackTraces = false) {T0 : ZTf} {T1 : ZTf} (h0 : zMet l yX8_requireWorker (Cond.code yX8_requireWorker cX8_requireWorker 2 (Option.none : Option Jvm.ClassFile.FieldType) :: zG) rm_X8_requireWorker 1 6 T0) (h1 : zMet l yX5_countCompared (Cond.code yX5_countCompared cX5_countCompared 8 (Option.some Jvm.ClassFile.FieldType.int) :: zG) rm_X5_countCompared 0 0 T1) (p : Program) (e : Env) (s : State) (m : MethodId) (args : Array Value) (below : List Frame) (meth : Method) (c : Code) (D : va_G) (A : Nat → Prop) (a0 : Nat → Nat) (M0 : ZM) (K : ZRet) (KX : ZEx) (X : zCtx p l rm_X8_agreeing s m args meth c cX8_agreeing RX8 (Cond.code yX8_agreeing cX8_agreeing 3 (Option.some Jvm.ClassFile.FieldType.int) :: zG) 3 (Option.some Jvm.ClassFile.FieldType.int) D A a0 M0 2 12) (hnm : meth.name = yX8_agreeing.name) (hout : ∀ x ∈ c.exceptionTable.toList, False) : ∀ q ∈ cd_X8_agreeing T0 T1, zSd p l e rm_X8_agreeing s m args below meth c 3 D A a0 M0 K KX 2 12 q.1 q.2 :=
    zall_c (zs_aload_n X (pc := 0) (q := 0) rfl (by decide +kernel)) <|
    zall_c (zs_iload_n X (pc := 1) (q := 1) rfl (by decide +kernel)) <|
    zall_c (zs_callV X (pc := 2) zc_X8 (fun _ ht => ⟨(zCB ht gw_5_201 gw_1_1 gw_5_198 rfl rfl (by decide +kernel) ⟨Nat.le_of_ble_eq_true rfl, Nat.le_of_ble_eq_true rfl⟩), ht _ (.tail _ gw_5_200), ht _ (.tail _ gp_20)⟩) h0 hout (by decide +kernel)) <|
    zall_c (zs_aload_n X (pc := 5) (q := 0) rfl (by decide +kernel)) <|
    zall_c (zs_iload_n X (pc := 6) (q := 2) rfl (by decide +kernel)) <|
    zall_c (zs_callV X (pc := 7) zc_X8 (fun _ ht => ⟨(zCB ht gw_5_201 gw_1_1 gw_5_198 rfl rfl (by decide +kernel) ⟨Nat.le_of_ble_eq_true rfl, Nat.le_of_ble_eq_true rfl⟩), ht _ (.tail _ gw_5_200), ht _ (.tail _ gp_20)⟩) h0 hout (by decide +kernel)) <|
    zall_c (zs_aload_n X (pc := 10) (q := 0) rfl (by decide +kernel)) <|
    zall_c (zs_getr X (pc := 11) zc_X8 (by decide) (zin ui_X8) (.tail _ gw_2_123) (by decide +kernel) (by decide +kernel)) <|
    zall_c (zs_iload_n X (pc := 14) (q := 1) rfl (by decide +kernel)) <|
    zall_c (zs_iload_n X (pc := 15) (q := 2) rfl (by decide +kernel)) <|
    zall_c (zs_iconst X (pc := 16) (by decide) (by decide +kernel)) <|
    zall_c (zs_callV0 X (pc := 17) zc_X5 (fun _ ht => ⟨(zCB ht gw_6_96 gw_1_8 gw_6_93 rfl rfl (by decide +kernel) ⟨Nat.le_of_ble_eq_true rfl, Nat.le_of_ble_eq_true rfl⟩), ht _ (.tail _ gw_6_94), ht _ (.tail _ gw_6_95)⟩) h1 hout (by decide +kernel)) <|
    zall_c (zs_iret X (pc := 20) rfl (by decide +kernel)) <|
    zall_n
theorem met_X8_agreeing {l : Launch} (hl : l.stackTraces = false) {T0 : ZTf} {T1 : ZTf} (h0 : zMet l yX8_requireWorker (Cond.code yX8_requireWorker cX8_requireWorker 2 (Option.none : Option Jvm.ClassFile.FieldType) :: zG) rm_X8_requireWorker 1 6 T0) (h1 : zMet l yX5_countCompared (Cond.code yX5_countCompared cX5_countCompared 8 (Option.some Jvm.ClassFile.FieldType.int) :: zG) rm_X5_countCompared 0 0 T1) {T : ZTf} (bd : zBd (cd_X8_agreeing T0 T1) 3 2 12 T) : zMet l yX8_agreeing (Cond.code yX8_agreeing cX8_agreeing 3 (Option.some Jvm.ClassFile.FieldType.int) :: zG) rm_X8_agreeing 2 12 T := zMet_of hl (by decide +kernel) rfl rfl rfl rfl (hs_X8_agreeing hl h0 h1) bd

abbrev rm_X8_differing : Room := { frames := 7, cells := 2, slots := 12, locals := 122 }
def cd_X8_differing (T0 : ZTf) (T1 : ZTf) : List (Nat × ZTr) := [(0, tAld 0 1), (1, tIld 1 2), (2, tCall 2 1 6 T0 (zRcv 11) 5), (5, tAld 0 6), (6, tIld 2 7), (7, tCall 2 1 6 T0 (zRcv 11) 10), (10, tAld 0 11), (11, tGetR 11 2 14), (14, tIld 1 15), (15, tIld 2 16), (16, tC (zi 0) 17), (17, tCall0 4 T1 (zRcv 8) 20), (20, tRi (fun _ => True))]
set_option maxRecDepth 100000 in
set_option maxHeartbeats 4000000 in
theorem hs_X8_differing {l : Launch} (hl : l.stackTraces = false) {T0 : ZTf} {T1 : ZTf} (h0 : zMet l yX8_requireWorker (Cond.code yX8_requireWorker cX8_requireWorker 2 (Option.none : Option Jvm.ClassFile.FieldType) :: zG) rm_X8_requireWorker 1 6 T0) (h1 : zMet l yX5_countCompared (Cond.code yX5_countCompared cX5_countCompared 8 (Option.some Jvm.ClassFile.FieldType.int) :: zG) rm_X5_countCompared 0 0 T1) (p : Program) (e : Env) (s : State) (m : MethodId) (args : Array Value) (below : List Frame) (meth : Method) (c : Code) (D : va_G) (A : Nat → Prop) (a0 : Nat → Nat) (M0 : ZM) (K : ZRet) (KX : ZEx) (X : zCtx p l rm_X8_differing s m args meth c cX8_differing RX8 (Cond.code yX8_differing cX8_differing 3 (Option.some Jvm.ClassFile.FieldType.int) :: zG) 3 (Option.some Jvm.ClassFile.FieldType.int) D A a0 M0 2 12) (hnm : meth.name = yX8_differing.name) (hout : ∀ x ∈ c.exceptionTable.toList, False) : ∀ q ∈ cd_X8_differing T0 T1, zSd p l e rm_X8_differing s m args below meth c 3 D A a0 M0 K KX 2 12 q.1 q.2 :=
    zall_c (zs_aload_n X (pc := 0) (q := 0) rfl (by decide +kernel)) <|
    zall_c (zs_iload_n X (pc := 1) (q := 1) rfl (by decide +kernel)) <|
    zall_c (zs_callV X (pc := 2) zc_X8 (fun _ ht => ⟨(zCB ht gw_5_201 gw_1_1 gw_5_198 rfl rfl (by decide +kernel) ⟨Nat.le_of_ble_eq_true rfl, Nat.le_of_ble_eq_true rfl⟩), ht _ (.tail _ gw_5_200), ht _ (.tail _ gp_20)⟩) h0 hout (by decide +kernel)) <|
    zall_c (zs_aload_n X (pc := 5) (q := 0) rfl (by decide +kernel)) <|
    zall_c (zs_iload_n X (pc := 6) (q := 2) rfl (by decide +kernel)) <|
    zall_c (zs_callV X (pc := 7) zc_X8 (fun _ ht => ⟨(zCB ht gw_5_201 gw_1_1 gw_5_198 rfl rfl (by decide +kernel) ⟨Nat.le_of_ble_eq_true rfl, Nat.le_of_ble_eq_true rfl⟩), ht _ (.tail _ gw_5_200), ht _ (.tail _ gp_20)⟩) h0 hout (by decide +kernel)) <|
    zall_c (zs_aload_n X (pc := 10) (q := 0) rfl (by decide +kernel)) <|
    zall_c (zs_getr X (pc := 11) zc_X8 (by decide) (zin ui_X8) (.tail _ gw_2_123) (by decide +kernel) (by decide +kernel)) <|
    zall_c (zs_iload_n X (pc := 14) (q := 1) rfl (by decide +kernel)) <|
    zall_c (zs_iload_n X (pc := 15) (q := 2) rfl (by decide +kernel)) <|
    zall_c (zs_iconst X (pc := 16) (by decide) (by decide +kernel)) <|
    zall_c (zs_callV0 X (pc := 17) zc_X5 (fun _ ht => ⟨(zCB ht gw_6_96 gw_1_8 gw_6_93 rfl rfl (by decide +kernel) ⟨Nat.le_of_ble_eq_true rfl, Nat.le_of_ble_eq_true rfl⟩), ht _ (.tail _ gw_6_94), ht _ (.tail _ gw_6_95)⟩) h1 hout (by decide +kernel)) <|
    zall_c (zs_iret X (pc := 20) rfl (by decide +kernel)) <|
    zall_n
theorem met_X8_differing {l : Launch} (hl : l.stackTraces = false) {T0 : ZTf} {T1 : ZTf} (h0 : zMet l yX8_requireWorker (Cond.code yX8_requireWorker cX8_requireWorker 2 (Option.none : Option Jvm.ClassFile.FieldType) :: zG) rm_X8_requireWorker 1 6 T0) (h1 : zMet l yX5_countCompared (Cond.code yX5_countCompared cX5_countCompared 8 (Option.some Jvm.ClassFile.FieldType.int) :: zG) rm_X5_countCompared 0 0 T1) {T : ZTf} (bd : zBd (cd_X8_differing T0 T1) 3 2 12 T) : zMet l yX8_differing (Cond.code yX8_differing cX8_differing 3 (Option.some Jvm.ClassFile.FieldType.int) :: zG) rm_X8_differing 2 12 T := zMet_of hl (by decide +kernel) rfl rfl rfl rfl (hs_X8_differing hl h0 h1) bd

abbrev rm_X8_accuracy : Room := { frames := 7, cells := 1, slots := 6, locals := 111 }
def cd_X8_accuracy (T0 : ZTf) (T1 : ZTf) (T2 : ZTf) : List (Nat × ZTr) := [(0, tAld 0 1), (1, tIld 1 2), (2, tCall 2 1 6 T0 (zRcv 11) 5), (5, tC (zi 0) 6), (6, tIst 2 7), (7, tC (zi 0) 8), (8, tIst 3 9), (9, tC (zi 0) 10), (10, tIst 4 12), (12, tIld 4 14), (14, tAld 0 15), (15, tGetR 11 2 18), (18, tGetI 8 5 21), (21, tIc_ge 87 24), (24, tAld 0 25), (25, tGetR 11 2 28), (28, tGetR 8 7 31), (31, tIld 4 33), (33, tAal 31 34), (34, tAst 5 36), (36, tAld 5 38), (38, tIld 1 39), (39, tCall0 2 T1 (zRcv 7) 42), (42, tIst 6 44), (44, tAld 5 46), (46, tGetI 7 3 49), (49, tIf_eq 81 52), (52, tIld 6 54), (54, tC (zi (-1)) 55), (55, tIc_eq 81 58), (58, tInc 2 1 61), (61, tAld 0 62), (62, tGetR 11 2 65), (65, tIld 6 67), (67, tAld 5 69), (69, tGetI 7 4 72), (72, tCall0 3 T2 (zRcv 8) 75), (75, tIf_eq 81 78), (78, tInc 3 1 81), (81, tInc 4 1 84), (84, tGo 12), (87, tIld 2 88), (88, tIf_ne 95 91), (91, tC (zf FP.fconst0) 92), (92, tGo 100), (95, tIld 3 96), (96, tI2f 97), (97, tIld 2 98), (98, tI2f 99), (99, tFdiv 100), (100, tRf)]
set_option maxRecDepth 100000 in
set_option maxHeartbeats 4000000 in
theorem hs_X8_accuracy {l : Launch} (hl : l.stackTraces = false) {T0 : ZTf} {T1 : ZTf} {T2 : ZTf} (h0 : zMet l yX8_requireWorker (Cond.code yX8_requireWorker cX8_requireWorker 2 (Option.none : Option Jvm.ClassFile.FieldType) :: zG) rm_X8_requireWorker 1 6 T0) (h1 : zMet l yX4_resultBy (Cond.code yX4_resultBy cX4_resultBy 3 (Option.some Jvm.ClassFile.FieldType.int) :: zG) rm_X4_resultBy 0 0 T1) (h2 : zMet l yX5_agree (Cond.code yX5_agree cX5_agree 3 (Option.some Jvm.ClassFile.FieldType.boolean) :: zG) rm_X5_agree 0 0 T2) (p : Program) (e : Env) (s : State) (m : MethodId) (args : Array Value) (below : List Frame) (meth : Method) (c : Code) (D : va_G) (A : Nat → Prop) (a0 : Nat → Nat) (M0 : ZM) (K : ZRet) (KX : ZEx) (X : zCtx p l rm_X8_accuracy s m args meth c cX8_accuracy RX8 (Cond.code yX8_accuracy cX8_accuracy 7 (Option.some Jvm.ClassFile.FieldType.float) :: zG) 7 (Option.some Jvm.ClassFile.FieldType.float) D A a0 M0 1 6) (hnm : meth.name = yX8_accuracy.name) (hout : ∀ x ∈ c.exceptionTable.toList, False) : ∀ q ∈ cd_X8_accuracy T0 T1 T2, zSd p l e rm_X8_accuracy s m args below meth c 7 D A a0 M0 K KX 1 6 q.1 q.2 :=
    zall_c (zs_aload_n X (pc := 0) (q := 0) rfl (by decide +kernel)) <|
    zall_c (zs_iload_n X (pc := 1) (q := 1) rfl (by decide +kernel)) <|
    zall_c (zs_callV X (pc := 2) zc_X8 (fun _ ht => ⟨(zCB ht gw_5_201 gw_1_1 gw_5_198 rfl rfl (by decide +kernel) ⟨Nat.le_of_ble_eq_true rfl, Nat.le_of_ble_eq_true rfl⟩), ht _ (.tail _ gw_5_200), ht _ (.tail _ gp_20)⟩) h0 hout (by decide +kernel)) <|
    zall_c (zs_iconst X (pc := 5) (by decide) (by decide +kernel)) <|
    zall_c (zs_istore_n X (pc := 6) (q := 2) rfl (by decide) (by decide +kernel)) <|
    zall_c (zs_iconst X (pc := 7) (by decide) (by decide +kernel)) <|
    zall_c (zs_istore_n X (pc := 8) (q := 3) rfl (by decide) (by decide +kernel)) <|
    zall_c (zs_iconst X (pc := 9) (by decide) (by decide +kernel)) <|
    zall_c (zs_istore X (pc := 10) (by decide) (by decide +kernel)) <|
    zall_c (zs_iload X (pc := 12) (by decide +kernel)) <|
    zall_c (zs_aload_n X (pc := 14) (q := 0) rfl (by decide +kernel)) <|
    zall_c (zs_getr X (pc := 15) zc_X8 (by decide) (zin ui_X8) (.tail _ gw_2_123) (by decide +kernel) (by decide +kernel)) <|
    zall_c (zs_geti X (pc := 18) zc_X5 (by decide) (zin ui_X5) (.tail _ gw_1_239) (by decide +kernel) (by decide +kernel)) <|
    zall_c (zs_icmp_ge X (pc := 21) (off := 66) (by decide +kernel) (by decide)) <|
    zall_c (zs_aload_n X (pc := 24) (q := 0) rfl (by decide +kernel)) <|
    zall_c (zs_getr X (pc := 25) zc_X8 (by decide) (zin ui_X8) (.tail _ gw_2_123) (by decide +kernel) (by decide +kernel)) <|
    zall_c (zs_getr X (pc := 28) zc_X5 (by decide) (zin ui_X5) (.tail _ gw_2_4) (by decide +kernel) (by decide +kernel)) <|
    zall_c (zs_iload X (pc := 31) (by decide +kernel)) <|
    zall_c (zs_aaload X (pc := 33) (by decide) rfl (by decide +kernel)) <|
    zall_c (zs_astore X (pc := 34) (by decide) (by decide +kernel)) <|
    zall_c (zs_aload X (pc := 36) (by decide +kernel)) <|
    zall_c (zs_iload_n X (pc := 38) (q := 1) rfl (by decide +kernel)) <|
    zall_c (zs_callV0 X (pc := 39) zc_X4 (fun _ ht => ⟨(zCB ht gw_6_100 gw_1_10 gw_6_127 rfl rfl (by decide +kernel) ⟨Nat.le_of_ble_eq_true rfl, Nat.le_of_ble_eq_true rfl⟩), ht _ (.tail _ gw_6_98), ht _ (.tail _ gw_6_99)⟩) h1 hout (by decide +kernel)) <|
    zall_c (zs_istore X (pc := 42) (by decide) (by decide +kernel)) <|
    zall_c (zs_aload X (pc := 44) (by decide +kernel)) <|
    zall_c (zs_geti X (pc := 46) zc_X4 (by decide) (zin ui_X4) (.tail _ gw_1_184) (by decide +kernel) (by decide +kernel)) <|
    zall_c (zs_if_eq X (pc := 49) (off := 32) (by decide +kernel) (by decide)) <|
    zall_c (zs_iload X (pc := 52) (by decide +kernel)) <|
    zall_c (zs_iconst X (pc := 54) (by decide) (by decide +kernel)) <|
    zall_c (zs_icmp_eq X (pc := 55) (off := 26) (by decide +kernel) (by decide)) <|
    zall_c (zs_iinc X (pc := 58) (by decide) (by decide +kernel)) <|
    zall_c (zs_aload_n X (pc := 61) (q := 0) rfl (by decide +kernel)) <|
    zall_c (zs_getr X (pc := 62) zc_X8 (by decide) (zin ui_X8) (.tail _ gw_2_123) (by decide +kernel) (by decide +kernel)) <|
    zall_c (zs_iload X (pc := 65) (by decide +kernel)) <|
    zall_c (zs_aload X (pc := 67) (by decide +kernel)) <|
    zall_c (zs_geti X (pc := 69) zc_X4 (by decide) (zin ui_X4) (.tail _ gw_1_187) (by decide +kernel) (by decide +kernel)) <|
    zall_c (zs_callV0 X (pc := 72) zc_X5 (fun _ ht => ⟨(zCB ht gw_6_109 gw_1_8 gw_6_128 rfl rfl (by decide +kernel) ⟨Nat.le_of_ble_eq_true rfl, Nat.le_of_ble_eq_true rfl⟩), ht _ (.tail _ gw_6_107), ht _ (.tail _ gw_6_108)⟩) h2 hout (by decide +kernel)) <|
    zall_c (zs_if_eq X (pc := 75) (off := 6) (by decide +kernel) (by decide)) <|
    zall_c (zs_iinc X (pc := 78) (by decide) (by decide +kernel)) <|
    zall_c (zs_iinc X (pc := 81) (by decide) (by decide +kernel)) <|
    zall_c (zs_goto X (pc := 84) (off := (-72)) (by decide +kernel) (by decide)) <|
    zall_c (zs_iload_n X (pc := 87) (q := 2) rfl (by decide +kernel)) <|
    zall_c (zs_if_ne X (pc := 88) (off := 7) (by decide +kernel) (by decide)) <|
    zall_c (zs_fconst0 X (pc := 91) (by decide +kernel)) <|
    zall_c (zs_goto X (pc := 92) (off := 8) (by decide +kernel) (by decide)) <|
    zall_c (zs_iload_n X (pc := 95) (q := 3) rfl (by decide +kernel)) <|
    zall_c (zs_i2f X (pc := 96) (by decide +kernel)) <|
    zall_c (zs_iload_n X (pc := 97) (q := 2) rfl (by decide +kernel)) <|
    zall_c (zs_i2f X (pc := 98) (by decide +kernel)) <|
    zall_c (zs_fdiv X (pc := 99) (by decide +kernel)) <|
    zall_c (zs_fret X (pc := 100) rfl (by decide +kernel)) <|
    zall_n
theorem met_X8_accuracy {l : Launch} (hl : l.stackTraces = false) {T0 : ZTf} {T1 : ZTf} {T2 : ZTf} (h0 : zMet l yX8_requireWorker (Cond.code yX8_requireWorker cX8_requireWorker 2 (Option.none : Option Jvm.ClassFile.FieldType) :: zG) rm_X8_requireWorker 1 6 T0) (h1 : zMet l yX4_resultBy (Cond.code yX4_resultBy cX4_resultBy 3 (Option.some Jvm.ClassFile.FieldType.int) :: zG) rm_X4_resultBy 0 0 T1) (h2 : zMet l yX5_agree (Cond.code yX5_agree cX5_agree 3 (Option.some Jvm.ClassFile.FieldType.boolean) :: zG) rm_X5_agree 0 0 T2) {T : ZTf} (bd : zBd (cd_X8_accuracy T0 T1 T2) 7 1 6 T) : zMet l yX8_accuracy (Cond.code yX8_accuracy cX8_accuracy 7 (Option.some Jvm.ClassFile.FieldType.float) :: zG) rm_X8_accuracy 1 6 T := zMet_of hl (by decide +kernel) rfl rfl rfl rfl (hs_X8_accuracy hl h0 h1 h2) bd

abbrev rm_X8_risk : Room := { frames := 7, cells := 1, slots := 6, locals := 111 }
def cd_X8_risk (T0 : ZTf) (T1 : ZTf) : List (Nat × ZTr) := [(0, tAld 0 1), (1, tIld 1 2), (2, tCall 2 1 6 T0 (zRcv 11) 5), (5, tAld 0 6), (6, tGetR 11 2 9), (9, tAld 0 10), (10, tGetR 11 2 13), (13, tGetR 8 7 16), (16, tIld 1 17), (17, tAal 31 18), (18, tCall0 2 T1 (zRcv 8) 21), (21, tRi (fun _ => True))]
set_option maxRecDepth 100000 in
set_option maxHeartbeats 4000000 in
theorem hs_X8_risk {l : Launch} (hl : l.stackTraces = false) {T0 : ZTf} {T1 : ZTf} (h0 : zMet l yX8_requireRow (Cond.code yX8_requireRow cX8_requireRow 2 (Option.none : Option Jvm.ClassFile.FieldType) :: zG) rm_X8_requireRow 1 6 T0) (h1 : zMet l yX5_riskOf (Cond.code yX5_riskOf cX5_riskOf 2 (Option.some Jvm.ClassFile.FieldType.int) :: zG) rm_X5_riskOf 0 0 T1) (p : Program) (e : Env) (s : State) (m : MethodId) (args : Array Value) (below : List Frame) (meth : Method) (c : Code) (D : va_G) (A : Nat → Prop) (a0 : Nat → Nat) (M0 : ZM) (K : ZRet) (KX : ZEx) (X : zCtx p l rm_X8_risk s m args meth c cX8_risk RX8 (Cond.code yX8_risk cX8_risk 2 (Option.some Jvm.ClassFile.FieldType.int) :: zG) 2 (Option.some Jvm.ClassFile.FieldType.int) D A a0 M0 1 6) (hnm : meth.name = yX8_risk.name) (hout : ∀ x ∈ c.exceptionTable.toList, False) : ∀ q ∈ cd_X8_risk T0 T1, zSd p l e rm_X8_risk s m args below meth c 2 D A a0 M0 K KX 1 6 q.1 q.2 :=
    zall_c (zs_aload_n X (pc := 0) (q := 0) rfl (by decide +kernel)) <|
    zall_c (zs_iload_n X (pc := 1) (q := 1) rfl (by decide +kernel)) <|
    zall_c (zs_callV X (pc := 2) zc_X8 (fun _ ht => ⟨(zCB ht gw_5_225 gw_1_1 gw_5_222 rfl rfl (by decide +kernel) ⟨Nat.le_of_ble_eq_true rfl, Nat.le_of_ble_eq_true rfl⟩), ht _ (.tail _ gw_5_224), ht _ (.tail _ gp_21)⟩) h0 hout (by decide +kernel)) <|
    zall_c (zs_aload_n X (pc := 5) (q := 0) rfl (by decide +kernel)) <|
    zall_c (zs_getr X (pc := 6) zc_X8 (by decide) (zin ui_X8) (.tail _ gw_2_123) (by decide +kernel) (by decide +kernel)) <|
    zall_c (zs_aload_n X (pc := 9) (q := 0) rfl (by decide +kernel)) <|
    zall_c (zs_getr X (pc := 10) zc_X8 (by decide) (zin ui_X8) (.tail _ gw_2_123) (by decide +kernel) (by decide +kernel)) <|
    zall_c (zs_getr X (pc := 13) zc_X5 (by decide) (zin ui_X5) (.tail _ gw_2_4) (by decide +kernel) (by decide +kernel)) <|
    zall_c (zs_iload_n X (pc := 16) (q := 1) rfl (by decide +kernel)) <|
    zall_c (zs_aaload X (pc := 17) (by decide) rfl (by decide +kernel)) <|
    zall_c (zs_callV0 X (pc := 18) zc_X5 (fun _ ht => ⟨(zCB ht gw_5_66 gw_1_8 gw_6_136 rfl rfl (by decide +kernel) ⟨Nat.le_of_ble_eq_true rfl, Nat.le_of_ble_eq_true rfl⟩), ht _ (.tail _ gw_5_64), ht _ (.tail _ gw_5_65)⟩) h1 hout (by decide +kernel)) <|
    zall_c (zs_iret X (pc := 21) rfl (by decide +kernel)) <|
    zall_n
theorem met_X8_risk {l : Launch} (hl : l.stackTraces = false) {T0 : ZTf} {T1 : ZTf} (h0 : zMet l yX8_requireRow (Cond.code yX8_requireRow cX8_requireRow 2 (Option.none : Option Jvm.ClassFile.FieldType) :: zG) rm_X8_requireRow 1 6 T0) (h1 : zMet l yX5_riskOf (Cond.code yX5_riskOf cX5_riskOf 2 (Option.some Jvm.ClassFile.FieldType.int) :: zG) rm_X5_riskOf 0 0 T1) {T : ZTf} (bd : zBd (cd_X8_risk T0 T1) 2 1 6 T) : zMet l yX8_risk (Cond.code yX8_risk cX8_risk 2 (Option.some Jvm.ClassFile.FieldType.int) :: zG) rm_X8_risk 1 6 T := zMet_of hl (by decide +kernel) rfl rfl rfl rfl (hs_X8_risk hl h0 h1) bd

abbrev rm_X8_lateIn : Room := { frames := 7, cells := 1, slots := 6, locals := 117 }
def cd_X8_lateIn (T0 : ZTf) (T1 : ZTf) : List (Nat × ZTr) := [(0, tIld 1 1), (1, tC (zi 0) 2), (2, tC (zi 99) 4), (4, tCall 3 1 6 T0 zAny 7), (7, tC (zi 0) 8), (8, tIst 2 9), (9, tC (zi 0) 10), (10, tIst 3 11), (11, tIld 3 12), (12, tAld 0 13), (13, tGetR 11 2 16), (16, tGetI 8 5 19), (19, tIc_ge 52 22), (22, tIld 2 23), (23, tAld 0 24), (24, tGetR 11 2 27), (27, tGetR 8 7 30), (30, tIld 3 31), (31, tAal 31 32), (32, tAld 0 33), (33, tGetR 11 2 36), (36, tGetI 8 3 39), (39, tIld 1 40), (40, tAdd 41), (41, tCall0 2 T1 (zRcv 7) 44), (44, tAdd 45), (45, tIst 2 46), (46, tInc 3 1 49), (49, tGo 11), (52, tIld 2 53), (53, tRi (fun _ => True))]
set_option maxRecDepth 100000 in
set_option maxHeartbeats 4000000 in
theorem hs_X8_lateIn {l : Launch} (hl : l.stackTraces = false) {T0 : ZTf} {T1 : ZTf} (h0 : zMet l yX8_requireRange (Cond.code yX8_requireRange cX8_requireRange 3 (Option.none : Option Jvm.ClassFile.FieldType) :: zG) rm_X8_requireRange 1 6 T0) (h1 : zMet l yX4_countLateAt (Cond.code yX4_countLateAt cX4_countLateAt 4 (Option.some Jvm.ClassFile.FieldType.int) :: zG) rm_X4_countLateAt 0 0 T1) (p : Program) (e : Env) (s : State) (m : MethodId) (args : Array Value) (below : List Frame) (meth : Method) (c : Code) (D : va_G) (A : Nat → Prop) (a0 : Nat → Nat) (M0 : ZM) (K : ZRet) (KX : ZEx) (X : zCtx p l rm_X8_lateIn s m args meth c cX8_lateIn RX8 (Cond.code yX8_lateIn cX8_lateIn 4 (Option.some Jvm.ClassFile.FieldType.int) :: zG) 4 (Option.some Jvm.ClassFile.FieldType.int) D A a0 M0 1 6) (hnm : meth.name = yX8_lateIn.name) (hout : ∀ x ∈ c.exceptionTable.toList, False) : ∀ q ∈ cd_X8_lateIn T0 T1, zSd p l e rm_X8_lateIn s m args below meth c 4 D A a0 M0 K KX 1 6 q.1 q.2 :=
    zall_c (zs_iload_n X (pc := 0) (q := 1) rfl (by decide +kernel)) <|
    zall_c (zs_iconst X (pc := 1) (by decide) (by decide +kernel)) <|
    zall_c (zs_bipush X (pc := 2) (by decide) (by decide +kernel) (by decide +kernel)) <|
    zall_c (zs_callS X (pc := 4) (fun _ ht => ⟨(zCB ht gw_5_171 gw_1_1 gw_5_169 rfl rfl (by decide +kernel) ⟨Nat.le_of_ble_eq_true rfl, Nat.le_of_ble_eq_true rfl⟩), ht _ (.tail _ gw_5_170)⟩) h0 hout (by decide +kernel)) <|
    zall_c (zs_iconst X (pc := 7) (by decide) (by decide +kernel)) <|
    zall_c (zs_istore_n X (pc := 8) (q := 2) rfl (by decide) (by decide +kernel)) <|
    zall_c (zs_iconst X (pc := 9) (by decide) (by decide +kernel)) <|
    zall_c (zs_istore_n X (pc := 10) (q := 3) rfl (by decide) (by decide +kernel)) <|
    zall_c (zs_iload_n X (pc := 11) (q := 3) rfl (by decide +kernel)) <|
    zall_c (zs_aload_n X (pc := 12) (q := 0) rfl (by decide +kernel)) <|
    zall_c (zs_getr X (pc := 13) zc_X8 (by decide) (zin ui_X8) (.tail _ gw_2_123) (by decide +kernel) (by decide +kernel)) <|
    zall_c (zs_geti X (pc := 16) zc_X5 (by decide) (zin ui_X5) (.tail _ gw_1_239) (by decide +kernel) (by decide +kernel)) <|
    zall_c (zs_icmp_ge X (pc := 19) (off := 33) (by decide +kernel) (by decide)) <|
    zall_c (zs_iload_n X (pc := 22) (q := 2) rfl (by decide +kernel)) <|
    zall_c (zs_aload_n X (pc := 23) (q := 0) rfl (by decide +kernel)) <|
    zall_c (zs_getr X (pc := 24) zc_X8 (by decide) (zin ui_X8) (.tail _ gw_2_123) (by decide +kernel) (by decide +kernel)) <|
    zall_c (zs_getr X (pc := 27) zc_X5 (by decide) (zin ui_X5) (.tail _ gw_2_4) (by decide +kernel) (by decide +kernel)) <|
    zall_c (zs_iload_n X (pc := 30) (q := 3) rfl (by decide +kernel)) <|
    zall_c (zs_aaload X (pc := 31) (by decide) rfl (by decide +kernel)) <|
    zall_c (zs_aload_n X (pc := 32) (q := 0) rfl (by decide +kernel)) <|
    zall_c (zs_getr X (pc := 33) zc_X8 (by decide) (zin ui_X8) (.tail _ gw_2_123) (by decide +kernel) (by decide +kernel)) <|
    zall_c (zs_geti X (pc := 36) zc_X5 (by decide) (zin ui_X5) (.tail _ gw_1_234) (by decide +kernel) (by decide +kernel)) <|
    zall_c (zs_iload_n X (pc := 39) (q := 1) rfl (by decide +kernel)) <|
    zall_c (zs_iadd X (pc := 40) (by decide +kernel)) <|
    zall_c (zs_callV0 X (pc := 41) zc_X4 (fun _ ht => ⟨(zCB ht gw_6_147 gw_1_10 gw_6_144 rfl rfl (by decide +kernel) ⟨Nat.le_of_ble_eq_true rfl, Nat.le_of_ble_eq_true rfl⟩), ht _ (.tail _ gw_6_145), ht _ (.tail _ gw_6_146)⟩) h1 hout (by decide +kernel)) <|
    zall_c (zs_iadd X (pc := 44) (by decide +kernel)) <|
    zall_c (zs_istore_n X (pc := 45) (q := 2) rfl (by decide) (by decide +kernel)) <|
    zall_c (zs_iinc X (pc := 46) (by decide) (by decide +kernel)) <|
    zall_c (zs_goto X (pc := 49) (off := (-38)) (by decide +kernel) (by decide)) <|
    zall_c (zs_iload_n X (pc := 52) (q := 2) rfl (by decide +kernel)) <|
    zall_c (zs_iret X (pc := 53) rfl (by decide +kernel)) <|
    zall_n
theorem met_X8_lateIn {l : Launch} (hl : l.stackTraces = false) {T0 : ZTf} {T1 : ZTf} (h0 : zMet l yX8_requireRange (Cond.code yX8_requireRange cX8_requireRange 3 (Option.none : Option Jvm.ClassFile.FieldType) :: zG) rm_X8_requireRange 1 6 T0) (h1 : zMet l yX4_countLateAt (Cond.code yX4_countLateAt cX4_countLateAt 4 (Option.some Jvm.ClassFile.FieldType.int) :: zG) rm_X4_countLateAt 0 0 T1) {T : ZTf} (bd : zBd (cd_X8_lateIn T0 T1) 4 1 6 T) : zMet l yX8_lateIn (Cond.code yX8_lateIn cX8_lateIn 4 (Option.some Jvm.ClassFile.FieldType.int) :: zG) rm_X8_lateIn 1 6 T := zMet_of hl (by decide +kernel) rfl rfl rfl rfl (hs_X8_lateIn hl h0 h1) bd

abbrev rm_X8_finishedOf : Room := { frames := 7, cells := 1, slots := 6, locals := 112 }
def cd_X8_finishedOf (T0 : ZTf) : List (Nat × ZTr) := [(0, tIld 1 1), (1, tC (zi 1) 2), (2, tC (zi 9) 4), (4, tCall 3 1 6 T0 zAny 7), (7, tC (zi 0) 8), (8, tIst 2 9), (9, tC (zi 0) 10), (10, tIst 3 11), (11, tIld 3 12), (12, tAld 0 13), (13, tGetR 11 2 16), (16, tGetI 8 5 19), (19, tIc_ge 63 22), (22, tAld 0 23), (23, tGetR 11 2 26), (26, tGetR 8 7 29), (29, tIld 3 30), (30, tAal 31 31), (31, tGetI 7 1 34), (34, tC (zi 2) 35), (35, tIc_ne 57 38), (38, tAld 0 39), (39, tGetR 11 2 42), (42, tGetR 8 7 45), (45, tIld 3 46), (46, tAal 31 47), (47, tGetI 7 0 50), (50, tIld 1 51), (51, tIc_ne 57 54), (54, tInc 2 1 57), (57, tInc 3 1 60), (60, tGo 11), (63, tIld 2 64), (64, tRi (fun _ => True))]
set_option maxRecDepth 100000 in
set_option maxHeartbeats 4000000 in
theorem hs_X8_finishedOf {l : Launch} (hl : l.stackTraces = false) {T0 : ZTf} (h0 : zMet l yX8_requireRange (Cond.code yX8_requireRange cX8_requireRange 3 (Option.none : Option Jvm.ClassFile.FieldType) :: zG) rm_X8_requireRange 1 6 T0) (p : Program) (e : Env) (s : State) (m : MethodId) (args : Array Value) (below : List Frame) (meth : Method) (c : Code) (D : va_G) (A : Nat → Prop) (a0 : Nat → Nat) (M0 : ZM) (K : ZRet) (KX : ZEx) (X : zCtx p l rm_X8_finishedOf s m args meth c cX8_finishedOf RX8 (Cond.code yX8_finishedOf cX8_finishedOf 4 (Option.some Jvm.ClassFile.FieldType.int) :: zG) 4 (Option.some Jvm.ClassFile.FieldType.int) D A a0 M0 1 6) (hnm : meth.name = yX8_finishedOf.name) (hout : ∀ x ∈ c.exceptionTable.toList, False) : ∀ q ∈ cd_X8_finishedOf T0, zSd p l e rm_X8_finishedOf s m args below meth c 4 D A a0 M0 K KX 1 6 q.1 q.2 :=
    zall_c (zs_iload_n X (pc := 0) (q := 1) rfl (by decide +kernel)) <|
    zall_c (zs_iconst X (pc := 1) (by decide) (by decide +kernel)) <|
    zall_c (zs_bipush X (pc := 2) (by decide) (by decide +kernel) (by decide +kernel)) <|
    zall_c (zs_callS X (pc := 4) (fun _ ht => ⟨(zCB ht gw_5_171 gw_1_1 gw_5_169 rfl rfl (by decide +kernel) ⟨Nat.le_of_ble_eq_true rfl, Nat.le_of_ble_eq_true rfl⟩), ht _ (.tail _ gw_5_170)⟩) h0 hout (by decide +kernel)) <|
    zall_c (zs_iconst X (pc := 7) (by decide) (by decide +kernel)) <|
    zall_c (zs_istore_n X (pc := 8) (q := 2) rfl (by decide) (by decide +kernel)) <|
    zall_c (zs_iconst X (pc := 9) (by decide) (by decide +kernel)) <|
    zall_c (zs_istore_n X (pc := 10) (q := 3) rfl (by decide) (by decide +kernel)) <|
    zall_c (zs_iload_n X (pc := 11) (q := 3) rfl (by decide +kernel)) <|
    zall_c (zs_aload_n X (pc := 12) (q := 0) rfl (by decide +kernel)) <|
    zall_c (zs_getr X (pc := 13) zc_X8 (by decide) (zin ui_X8) (.tail _ gw_2_123) (by decide +kernel) (by decide +kernel)) <|
    zall_c (zs_geti X (pc := 16) zc_X5 (by decide) (zin ui_X5) (.tail _ gw_1_239) (by decide +kernel) (by decide +kernel)) <|
    zall_c (zs_icmp_ge X (pc := 19) (off := 44) (by decide +kernel) (by decide)) <|
    zall_c (zs_aload_n X (pc := 22) (q := 0) rfl (by decide +kernel)) <|
    zall_c (zs_getr X (pc := 23) zc_X8 (by decide) (zin ui_X8) (.tail _ gw_2_123) (by decide +kernel) (by decide +kernel)) <|
    zall_c (zs_getr X (pc := 26) zc_X5 (by decide) (zin ui_X5) (.tail _ gw_2_4) (by decide +kernel) (by decide +kernel)) <|
    zall_c (zs_iload_n X (pc := 29) (q := 3) rfl (by decide +kernel)) <|
    zall_c (zs_aaload X (pc := 30) (by decide) rfl (by decide +kernel)) <|
    zall_c (zs_geti X (pc := 31) zc_X4 (by decide) (zin ui_X4) (.tail _ gw_1_178) (by decide +kernel) (by decide +kernel)) <|
    zall_c (zs_iconst X (pc := 34) (by decide) (by decide +kernel)) <|
    zall_c (zs_icmp_ne X (pc := 35) (off := 22) (by decide +kernel) (by decide)) <|
    zall_c (zs_aload_n X (pc := 38) (q := 0) rfl (by decide +kernel)) <|
    zall_c (zs_getr X (pc := 39) zc_X8 (by decide) (zin ui_X8) (.tail _ gw_2_123) (by decide +kernel) (by decide +kernel)) <|
    zall_c (zs_getr X (pc := 42) zc_X5 (by decide) (zin ui_X5) (.tail _ gw_2_4) (by decide +kernel) (by decide +kernel)) <|
    zall_c (zs_iload_n X (pc := 45) (q := 3) rfl (by decide +kernel)) <|
    zall_c (zs_aaload X (pc := 46) (by decide) rfl (by decide +kernel)) <|
    zall_c (zs_geti X (pc := 47) zc_X4 (by decide) (zin ui_X4) (.tail _ gw_1_174) (by decide +kernel) (by decide +kernel)) <|
    zall_c (zs_iload_n X (pc := 50) (q := 1) rfl (by decide +kernel)) <|
    zall_c (zs_icmp_ne X (pc := 51) (off := 6) (by decide +kernel) (by decide)) <|
    zall_c (zs_iinc X (pc := 54) (by decide) (by decide +kernel)) <|
    zall_c (zs_iinc X (pc := 57) (by decide) (by decide +kernel)) <|
    zall_c (zs_goto X (pc := 60) (off := (-49)) (by decide +kernel) (by decide)) <|
    zall_c (zs_iload_n X (pc := 63) (q := 2) rfl (by decide +kernel)) <|
    zall_c (zs_iret X (pc := 64) rfl (by decide +kernel)) <|
    zall_n
theorem met_X8_finishedOf {l : Launch} (hl : l.stackTraces = false) {T0 : ZTf} (h0 : zMet l yX8_requireRange (Cond.code yX8_requireRange cX8_requireRange 3 (Option.none : Option Jvm.ClassFile.FieldType) :: zG) rm_X8_requireRange 1 6 T0) {T : ZTf} (bd : zBd (cd_X8_finishedOf T0) 4 1 6 T) : zMet l yX8_finishedOf (Cond.code yX8_finishedOf cX8_finishedOf 4 (Option.some Jvm.ClassFile.FieldType.int) :: zG) rm_X8_finishedOf 1 6 T := zMet_of hl (by decide +kernel) rfl rfl rfl rfl (hs_X8_finishedOf hl h0) bd

abbrev rm_X8_place : Room := { frames := 7, cells := 1, slots := 6, locals := 111 }
def cd_X8_place (T0 : ZTf) : List (Nat × ZTr) := [(0, tAld 0 1), (1, tIld 1 2), (2, tCall 2 1 6 T0 (zRcv 11) 5), (5, tC (zi 0) 6), (6, tIst 2 7), (7, tC (zi 0) 8), (8, tIst 3 9), (9, tIld 3 10), (10, tAld 0 11), (11, tGetR 11 2 14), (14, tGetI 8 4 17), (17, tIc_ge 56 20), (20, tAld 0 21), (21, tGetR 11 2 24), (24, tGetR 8 6 27), (27, tIld 3 28), (28, tAal 30 29), (29, tGetI 10 9 32), (32, tAld 0 33), (33, tGetR 11 2 36), (36, tGetR 8 6 39), (39, tIld 1 40), (40, tAal 30 41), (41, tGetI 10 9 44), (44, tIc_le 50 47), (47, tInc 2 1 50), (50, tInc 3 1 53), (53, tGo 9), (56, tC (zi 1) 57), (57, tIld 2 58), (58, tAdd 59), (59, tRi (fun _ => True))]
set_option maxRecDepth 100000 in
set_option maxHeartbeats 4000000 in
theorem hs_X8_place {l : Launch} (hl : l.stackTraces = false) {T0 : ZTf} (h0 : zMet l yX8_requireWorker (Cond.code yX8_requireWorker cX8_requireWorker 2 (Option.none : Option Jvm.ClassFile.FieldType) :: zG) rm_X8_requireWorker 1 6 T0) (p : Program) (e : Env) (s : State) (m : MethodId) (args : Array Value) (below : List Frame) (meth : Method) (c : Code) (D : va_G) (A : Nat → Prop) (a0 : Nat → Nat) (M0 : ZM) (K : ZRet) (KX : ZEx) (X : zCtx p l rm_X8_place s m args meth c cX8_place RX8 (Cond.code yX8_place cX8_place 4 (Option.some Jvm.ClassFile.FieldType.int) :: zG) 4 (Option.some Jvm.ClassFile.FieldType.int) D A a0 M0 1 6) (hnm : meth.name = yX8_place.name) (hout : ∀ x ∈ c.exceptionTable.toList, False) : ∀ q ∈ cd_X8_place T0, zSd p l e rm_X8_place s m args below meth c 4 D A a0 M0 K KX 1 6 q.1 q.2 :=
    zall_c (zs_aload_n X (pc := 0) (q := 0) rfl (by decide +kernel)) <|
    zall_c (zs_iload_n X (pc := 1) (q := 1) rfl (by decide +kernel)) <|
    zall_c (zs_callV X (pc := 2) zc_X8 (fun _ ht => ⟨(zCB ht gw_5_201 gw_1_1 gw_5_198 rfl rfl (by decide +kernel) ⟨Nat.le_of_ble_eq_true rfl, Nat.le_of_ble_eq_true rfl⟩), ht _ (.tail _ gw_5_200), ht _ (.tail _ gp_20)⟩) h0 hout (by decide +kernel)) <|
    zall_c (zs_iconst X (pc := 5) (by decide) (by decide +kernel)) <|
    zall_c (zs_istore_n X (pc := 6) (q := 2) rfl (by decide) (by decide +kernel)) <|
    zall_c (zs_iconst X (pc := 7) (by decide) (by decide +kernel)) <|
    zall_c (zs_istore_n X (pc := 8) (q := 3) rfl (by decide) (by decide +kernel)) <|
    zall_c (zs_iload_n X (pc := 9) (q := 3) rfl (by decide +kernel)) <|
    zall_c (zs_aload_n X (pc := 10) (q := 0) rfl (by decide +kernel)) <|
    zall_c (zs_getr X (pc := 11) zc_X8 (by decide) (zin ui_X8) (.tail _ gw_2_123) (by decide +kernel) (by decide +kernel)) <|
    zall_c (zs_geti X (pc := 14) zc_X5 (by decide) (zin ui_X5) (.tail _ gw_1_236) (by decide +kernel) (by decide +kernel)) <|
    zall_c (zs_icmp_ge X (pc := 17) (off := 39) (by decide +kernel) (by decide)) <|
    zall_c (zs_aload_n X (pc := 20) (q := 0) rfl (by decide +kernel)) <|
    zall_c (zs_getr X (pc := 21) zc_X8 (by decide) (zin ui_X8) (.tail _ gw_2_123) (by decide +kernel) (by decide +kernel)) <|
    zall_c (zs_getr X (pc := 24) zc_X5 (by decide) (zin ui_X5) (.tail _ gw_2_2) (by decide +kernel) (by decide +kernel)) <|
    zall_c (zs_iload_n X (pc := 27) (q := 3) rfl (by decide +kernel)) <|
    zall_c (zs_aaload X (pc := 28) (by decide) rfl (by decide +kernel)) <|
    zall_c (zs_geti X (pc := 29) zc_X7 (by decide) (zin ui_X7) (.tail _ gw_1_145) (by decide +kernel) (by decide +kernel)) <|
    zall_c (zs_aload_n X (pc := 32) (q := 0) rfl (by decide +kernel)) <|
    zall_c (zs_getr X (pc := 33) zc_X8 (by decide) (zin ui_X8) (.tail _ gw_2_123) (by decide +kernel) (by decide +kernel)) <|
    zall_c (zs_getr X (pc := 36) zc_X5 (by decide) (zin ui_X5) (.tail _ gw_2_2) (by decide +kernel) (by decide +kernel)) <|
    zall_c (zs_iload_n X (pc := 39) (q := 1) rfl (by decide +kernel)) <|
    zall_c (zs_aaload X (pc := 40) (by decide) rfl (by decide +kernel)) <|
    zall_c (zs_geti X (pc := 41) zc_X7 (by decide) (zin ui_X7) (.tail _ gw_1_145) (by decide +kernel) (by decide +kernel)) <|
    zall_c (zs_icmp_le X (pc := 44) (off := 6) (by decide +kernel) (by decide)) <|
    zall_c (zs_iinc X (pc := 47) (by decide) (by decide +kernel)) <|
    zall_c (zs_iinc X (pc := 50) (by decide) (by decide +kernel)) <|
    zall_c (zs_goto X (pc := 53) (off := (-44)) (by decide +kernel) (by decide)) <|
    zall_c (zs_iconst X (pc := 56) (by decide) (by decide +kernel)) <|
    zall_c (zs_iload_n X (pc := 57) (q := 2) rfl (by decide +kernel)) <|
    zall_c (zs_iadd X (pc := 58) (by decide +kernel)) <|
    zall_c (zs_iret X (pc := 59) rfl (by decide +kernel)) <|
    zall_n
theorem met_X8_place {l : Launch} (hl : l.stackTraces = false) {T0 : ZTf} (h0 : zMet l yX8_requireWorker (Cond.code yX8_requireWorker cX8_requireWorker 2 (Option.none : Option Jvm.ClassFile.FieldType) :: zG) rm_X8_requireWorker 1 6 T0) {T : ZTf} (bd : zBd (cd_X8_place T0) 4 1 6 T) : zMet l yX8_place (Cond.code yX8_place cX8_place 4 (Option.some Jvm.ClassFile.FieldType.int) :: zG) rm_X8_place 1 6 T := zMet_of hl (by decide +kernel) rfl rfl rfl rfl (hs_X8_place hl h0) bd

abbrev rm_X8_partner : Room := { frames := 7, cells := 1, slots := 6, locals := 122 }
def cd_X8_partner (T0 : ZTf) (T1 : ZTf) : List (Nat × ZTr) := [(0, tAld 0 1), (1, tIld 1 2), (2, tCall 2 1 6 T0 (zRcv 11) 5), (5, tC (zi (-1)) 6), (6, tIst 2 7), (7, tC (zi 0) 8), (8, tIst 3 9), (9, tC (zi 0) 10), (10, tIst 4 12), (12, tIld 4 14), (14, tAld 0 15), (15, tGetR 11 2 18), (18, tGetI 8 4 21), (21, tIc_ge 55 24), (24, tAld 0 25), (25, tGetR 11 2 28), (28, tIld 1 29), (29, tIld 4 31), (31, tC (zi 1) 32), (32, tCall0 4 T1 (zRcv 8) 35), (35, tIst 5 37), (37, tIld 5 39), (39, tIld 3 40), (40, tIc_le 49 43), (43, tIld 5 45), (45, tIst 3 46), (46, tIld 4 48), (48, tIst 2 49), (49, tInc 4 1 52), (52, tGo 12), (55, tIld 2 56), (56, tRi (fun _ => True))]
set_option maxRecDepth 100000 in
set_option maxHeartbeats 4000000 in
theorem hs_X8_partner {l : Launch} (hl : l.stackTraces = false) {T0 : ZTf} {T1 : ZTf} (h0 : zMet l yX8_requireWorker (Cond.code yX8_requireWorker cX8_requireWorker 2 (Option.none : Option Jvm.ClassFile.FieldType) :: zG) rm_X8_requireWorker 1 6 T0) (h1 : zMet l yX5_countCompared (Cond.code yX5_countCompared cX5_countCompared 8 (Option.some Jvm.ClassFile.FieldType.int) :: zG) rm_X5_countCompared 0 0 T1) (p : Program) (e : Env) (s : State) (m : MethodId) (args : Array Value) (below : List Frame) (meth : Method) (c : Code) (D : va_G) (A : Nat → Prop) (a0 : Nat → Nat) (M0 : ZM) (K : ZRet) (KX : ZEx) (X : zCtx p l rm_X8_partner s m args meth c cX8_partner RX8 (Cond.code yX8_partner cX8_partner 6 (Option.some Jvm.ClassFile.FieldType.int) :: zG) 6 (Option.some Jvm.ClassFile.FieldType.int) D A a0 M0 1 6) (hnm : meth.name = yX8_partner.name) (hout : ∀ x ∈ c.exceptionTable.toList, False) : ∀ q ∈ cd_X8_partner T0 T1, zSd p l e rm_X8_partner s m args below meth c 6 D A a0 M0 K KX 1 6 q.1 q.2 :=
    zall_c (zs_aload_n X (pc := 0) (q := 0) rfl (by decide +kernel)) <|
    zall_c (zs_iload_n X (pc := 1) (q := 1) rfl (by decide +kernel)) <|
    zall_c (zs_callV X (pc := 2) zc_X8 (fun _ ht => ⟨(zCB ht gw_5_201 gw_1_1 gw_5_198 rfl rfl (by decide +kernel) ⟨Nat.le_of_ble_eq_true rfl, Nat.le_of_ble_eq_true rfl⟩), ht _ (.tail _ gw_5_200), ht _ (.tail _ gp_20)⟩) h0 hout (by decide +kernel)) <|
    zall_c (zs_iconst X (pc := 5) (by decide) (by decide +kernel)) <|
    zall_c (zs_istore_n X (pc := 6) (q := 2) rfl (by decide) (by decide +kernel)) <|
    zall_c (zs_iconst X (pc := 7) (by decide) (by decide +kernel)) <|
    zall_c (zs_istore_n X (pc := 8) (q := 3) rfl (by decide) (by decide +kernel)) <|
    zall_c (zs_iconst X (pc := 9) (by decide) (by decide +kernel)) <|
    zall_c (zs_istore X (pc := 10) (by decide) (by decide +kernel)) <|
    zall_c (zs_iload X (pc := 12) (by decide +kernel)) <|
    zall_c (zs_aload_n X (pc := 14) (q := 0) rfl (by decide +kernel)) <|
    zall_c (zs_getr X (pc := 15) zc_X8 (by decide) (zin ui_X8) (.tail _ gw_2_123) (by decide +kernel) (by decide +kernel)) <|
    zall_c (zs_geti X (pc := 18) zc_X5 (by decide) (zin ui_X5) (.tail _ gw_1_236) (by decide +kernel) (by decide +kernel)) <|
    zall_c (zs_icmp_ge X (pc := 21) (off := 34) (by decide +kernel) (by decide)) <|
    zall_c (zs_aload_n X (pc := 24) (q := 0) rfl (by decide +kernel)) <|
    zall_c (zs_getr X (pc := 25) zc_X8 (by decide) (zin ui_X8) (.tail _ gw_2_123) (by decide +kernel) (by decide +kernel)) <|
    zall_c (zs_iload_n X (pc := 28) (q := 1) rfl (by decide +kernel)) <|
    zall_c (zs_iload X (pc := 29) (by decide +kernel)) <|
    zall_c (zs_iconst X (pc := 31) (by decide) (by decide +kernel)) <|
    zall_c (zs_callV0 X (pc := 32) zc_X5 (fun _ ht => ⟨(zCB ht gw_6_96 gw_1_8 gw_6_93 rfl rfl (by decide +kernel) ⟨Nat.le_of_ble_eq_true rfl, Nat.le_of_ble_eq_true rfl⟩), ht _ (.tail _ gw_6_94), ht _ (.tail _ gw_6_95)⟩) h1 hout (by decide +kernel)) <|
    zall_c (zs_istore X (pc := 35) (by decide) (by decide +kernel)) <|
    zall_c (zs_iload X (pc := 37) (by decide +kernel)) <|
    zall_c (zs_iload_n X (pc := 39) (q := 3) rfl (by decide +kernel)) <|
    zall_c (zs_icmp_le X (pc := 40) (off := 9) (by decide +kernel) (by decide)) <|
    zall_c (zs_iload X (pc := 43) (by decide +kernel)) <|
    zall_c (zs_istore_n X (pc := 45) (q := 3) rfl (by decide) (by decide +kernel)) <|
    zall_c (zs_iload X (pc := 46) (by decide +kernel)) <|
    zall_c (zs_istore_n X (pc := 48) (q := 2) rfl (by decide) (by decide +kernel)) <|
    zall_c (zs_iinc X (pc := 49) (by decide) (by decide +kernel)) <|
    zall_c (zs_goto X (pc := 52) (off := (-40)) (by decide +kernel) (by decide)) <|
    zall_c (zs_iload_n X (pc := 55) (q := 2) rfl (by decide +kernel)) <|
    zall_c (zs_iret X (pc := 56) rfl (by decide +kernel)) <|
    zall_n
theorem met_X8_partner {l : Launch} (hl : l.stackTraces = false) {T0 : ZTf} {T1 : ZTf} (h0 : zMet l yX8_requireWorker (Cond.code yX8_requireWorker cX8_requireWorker 2 (Option.none : Option Jvm.ClassFile.FieldType) :: zG) rm_X8_requireWorker 1 6 T0) (h1 : zMet l yX5_countCompared (Cond.code yX5_countCompared cX5_countCompared 8 (Option.some Jvm.ClassFile.FieldType.int) :: zG) rm_X5_countCompared 0 0 T1) {T : ZTf} (bd : zBd (cd_X8_partner T0 T1) 6 1 6 T) : zMet l yX8_partner (Cond.code yX8_partner cX8_partner 6 (Option.some Jvm.ClassFile.FieldType.int) :: zG) rm_X8_partner 1 6 T := zMet_of hl (by decide +kernel) rfl rfl rfl rfl (hs_X8_partner hl h0 h1) bd

abbrev rm_X8_keep : Room := { frames := 7, cells := 1, slots := 6, locals := 110 }
def cd_X8_keep (T0 : ZTf) (T1 : ZTf) : List (Nat × ZTr) := [(0, tIld 1 1), (1, tCall 1 1 6 T0 zAny 4), (4, tAld 0 5), (5, tGetR 11 4 8), (8, tIld 1 9), (9, tAal 32 10), (10, tAld 0 11), (11, tGetR 11 2 14), (14, tCall0 2 T1 (zRcv 8) 17), (17, tAld 0 18), (18, tGetR 11 5 21), (21, tIld 1 22), (22, tC (zi 1) 23), (23, tIas 22 (fun x => x = 0 ∨ x = 1) 24), (24, tAld 0 25), (25, tGetR 11 2 28), (28, tGetI 8 3 31), (31, tRi (fun _ => True))]
set_option maxRecDepth 100000 in
set_option maxHeartbeats 4000000 in
theorem hs_X8_keep {l : Launch} (hl : l.stackTraces = false) {T0 : ZTf} {T1 : ZTf} (h0 : zMet l yX8_requireSlot (Cond.code yX8_requireSlot cX8_requireSlot 1 (Option.none : Option Jvm.ClassFile.FieldType) :: zG) rm_X8_requireSlot 1 6 T0) (h1 : zMet l yX5_copyFrom (Cond.code yX5_copyFrom cX5_copyFrom 3 (Option.none : Option Jvm.ClassFile.FieldType) :: zG) rm_X5_copyFrom 0 0 T1) (p : Program) (e : Env) (s : State) (m : MethodId) (args : Array Value) (below : List Frame) (meth : Method) (c : Code) (D : va_G) (A : Nat → Prop) (a0 : Nat → Nat) (M0 : ZM) (K : ZRet) (KX : ZEx) (X : zCtx p l rm_X8_keep s m args meth c cX8_keep RX8 (Cond.code yX8_keep cX8_keep 2 (Option.some Jvm.ClassFile.FieldType.int) :: zG) 2 (Option.some Jvm.ClassFile.FieldType.int) D A a0 M0 1 6) (hnm : meth.name = yX8_keep.name) (hout : ∀ x ∈ c.exceptionTable.toList, False) : ∀ q ∈ cd_X8_keep T0 T1, zSd p l e rm_X8_keep s m args below meth c 2 D A a0 M0 K KX 1 6 q.1 q.2 :=
    zall_c (zs_iload_n X (pc := 0) (q := 1) rfl (by decide +kernel)) <|
    zall_c (zs_callS X (pc := 1) (fun _ ht => ⟨(zCB ht gw_7_138 gw_1_1 gw_7_136 rfl rfl (by decide +kernel) ⟨Nat.le_of_ble_eq_true rfl, Nat.le_of_ble_eq_true rfl⟩), ht _ (.tail _ gw_7_137)⟩) h0 hout (by decide +kernel)) <|
    zall_c (zs_aload_n X (pc := 4) (q := 0) rfl (by decide +kernel)) <|
    zall_c (zs_getr X (pc := 5) zc_X8 (by decide) (zin ui_X8) (.tail _ gw_2_125) (by decide +kernel) (by decide +kernel)) <|
    zall_c (zs_iload_n X (pc := 8) (q := 1) rfl (by decide +kernel)) <|
    zall_c (zs_aaload X (pc := 9) (by decide) rfl (by decide +kernel)) <|
    zall_c (zs_aload_n X (pc := 10) (q := 0) rfl (by decide +kernel)) <|
    zall_c (zs_getr X (pc := 11) zc_X8 (by decide) (zin ui_X8) (.tail _ gw_2_123) (by decide +kernel) (by decide +kernel)) <|
    zall_c (zs_callV0 X (pc := 14) zc_X5 (fun _ ht => ⟨(zCB ht gw_4_215 gw_1_8 gw_4_227 rfl rfl (by decide +kernel) ⟨Nat.le_of_ble_eq_true rfl, Nat.le_of_ble_eq_true rfl⟩), ht _ (.tail _ gw_4_213), ht _ (.tail _ gw_4_214)⟩) h1 hout (by decide +kernel)) <|
    zall_c (zs_aload_n X (pc := 17) (q := 0) rfl (by decide +kernel)) <|
    zall_c (zs_getr X (pc := 18) zc_X8 (by decide) (zin ui_X8) (.tail _ gw_2_126) (by decide +kernel) (by decide +kernel)) <|
    zall_c (zs_iload_n X (pc := 21) (q := 1) rfl (by decide +kernel)) <|
    zall_c (zs_iconst X (pc := 22) (by decide) (by decide +kernel)) <|
    zall_c (zs_bastore22 X (pc := 23) (by decide +kernel)) <|
    zall_c (zs_aload_n X (pc := 24) (q := 0) rfl (by decide +kernel)) <|
    zall_c (zs_getr X (pc := 25) zc_X8 (by decide) (zin ui_X8) (.tail _ gw_2_123) (by decide +kernel) (by decide +kernel)) <|
    zall_c (zs_geti X (pc := 28) zc_X5 (by decide) (zin ui_X5) (.tail _ gw_1_234) (by decide +kernel) (by decide +kernel)) <|
    zall_c (zs_iret X (pc := 31) rfl (by decide +kernel)) <|
    zall_n
theorem met_X8_keep {l : Launch} (hl : l.stackTraces = false) {T0 : ZTf} {T1 : ZTf} (h0 : zMet l yX8_requireSlot (Cond.code yX8_requireSlot cX8_requireSlot 1 (Option.none : Option Jvm.ClassFile.FieldType) :: zG) rm_X8_requireSlot 1 6 T0) (h1 : zMet l yX5_copyFrom (Cond.code yX5_copyFrom cX5_copyFrom 3 (Option.none : Option Jvm.ClassFile.FieldType) :: zG) rm_X5_copyFrom 0 0 T1) {T : ZTf} (bd : zBd (cd_X8_keep T0 T1) 2 1 6 T) : zMet l yX8_keep (Cond.code yX8_keep cX8_keep 2 (Option.some Jvm.ClassFile.FieldType.int) :: zG) rm_X8_keep 1 6 T := zMet_of hl (by decide +kernel) rfl rfl rfl rfl (hs_X8_keep hl h0 h1) bd

abbrev rm_X9_finishes : Room := { frames := 3, cells := 0, slots := 0, locals := 75 }
def cd_X9_finishes (T0 : ZTf) (T1 : ZTf) (T2 : ZTf) (T3 : ZTf) : List (Nat × ZTr) := [(0, tAld 0 1), (1, tIld 1 2), (2, tIld 2 3), (3, tC (zi 0) 4), (4, tCall0 4 T0 (zRcv 12) 7), (7, tIst 4 9), (9, tAld 0 10), (10, tIld 1 11), (11, tIld 3 12), (12, tC (zi 0) 13), (13, tCall0 4 T0 (zRcv 12) 16), (16, tIst 5 18), (18, tAld 0 19), (19, tIld 5 21), (21, tC (zi 3) 22), (22, tCall0 3 T1 (zRcv 12) 25), (25, tAld 0 26), (26, tIld 4 28), (28, tC (zi 3) 29), (29, tCall0 3 T1 (zRcv 12) 32), (32, tIc_le 39 35), (35, tC (zi 1) 36), (36, tGo 40), (39, tC (zi 0) 40), (40, tIst 6 42), (42, tAld 0 43), (43, tIld 1 44), (44, tC (zi 2) 45), (45, tAld 0 46), (46, tIld 1 47), (47, tIld 6 49), (49, tIf_eq 56 52), (52, tIld 3 53), (53, tGo 57), (56, tIld 2 57), (57, tC (zi 1) 58), (58, tCall0 4 T0 (zRcv 12) 61), (61, tCall0 4 T2 (zRcv 12) 64), (64, tAld 0 65), (65, tIld 1 66), (66, tC (zi 1) 67), (67, tC (zi 2) 68), (68, tCall0 4 T2 (zRcv 12) 71), (71, tAld 0 72), (72, tIld 1 73), (73, tC (zi 5) 74), (74, tC (zi 1) 75), (75, tIld 4 77), (77, tBif zshl 78), (78, tC (zi 1) 79), (79, tIld 5 81), (81, tBif zshl 82), (82, tBif zor 83), (83, tCall0 4 T2 (zRcv 12) 86), (86, tAld 0 87), (87, tIld 4 89), (89, tIld 1 90), (90, tCall0 3 T3 (zRcv 12) 93), (93, tAld 0 94), (94, tIld 5 96), (96, tIld 1 97), (97, tCall0 3 T3 (zRcv 12) 100), (100, tRv)]
set_option maxRecDepth 100000 in
set_option maxHeartbeats 4000000 in
theorem hs_X9_finishes {l : Launch} (hl : l.stackTraces = false) {T0 : ZTf} {T1 : ZTf} {T2 : ZTf} {T3 : ZTf} (h0 : zMet l yX9_ofTaking (Cond.code yX9_ofTaking cX9_ofTaking 4 (Option.some Jvm.ClassFile.FieldType.int) :: zG) rm_X9_ofTaking 0 0 T0) (h1 : zMet l yX9_ofWorker (Cond.code yX9_ofWorker cX9_ofWorker 3 (Option.some Jvm.ClassFile.FieldType.int) :: zG) rm_X9_ofWorker 0 0 T1) (h2 : zMet l yX9_put (Cond.code yX9_put cX9_put 4 (Option.none : Option Jvm.ClassFile.FieldType) :: zG) rm_X9_put 0 0 T2) (h3 : zMet l yX9_gains (Cond.code yX9_gains cX9_gains 3 (Option.none : Option Jvm.ClassFile.FieldType) :: zG) rm_X9_gains 0 0 T3) (p : Program) (e : Env) (s : State) (m : MethodId) (args : Array Value) (below : List Frame) (meth : Method) (c : Code) (D : va_G) (A : Nat → Prop) (a0 : Nat → Nat) (M0 : ZM) (K : ZRet) (KX : ZEx) (X : zCtx p l rm_X9_finishes s m args meth c cX9_finishes RX9 (Cond.code yX9_finishes cX9_finishes 7 (Option.none : Option Jvm.ClassFile.FieldType) :: zG) 7 (Option.none : Option Jvm.ClassFile.FieldType) D A a0 M0 0 0) (hnm : meth.name = yX9_finishes.name) (hout : ∀ x ∈ c.exceptionTable.toList, False) : ∀ q ∈ cd_X9_finishes T0 T1 T2 T3, zSd p l e rm_X9_finishes s m args below meth c 7 D A a0 M0 K KX 0 0 q.1 q.2 :=
    zall_c (zs_aload_n X (pc := 0) (q := 0) rfl (by decide +kernel)) <|
    zall_c (zs_iload_n X (pc := 1) (q := 1) rfl (by decide +kernel)) <|
    zall_c (zs_iload_n X (pc := 2) (q := 2) rfl (by decide +kernel)) <|
    zall_c (zs_iconst X (pc := 3) (by decide) (by decide +kernel)) <|
    zall_c (zs_callV0 X (pc := 4) zc_X9 (fun _ ht => ⟨(zCB ht gw_9_36 gw_1_13 gw_9_33 rfl rfl (by decide +kernel) ⟨Nat.le_of_ble_eq_true rfl, Nat.le_of_ble_eq_true rfl⟩), ht _ (.tail _ gw_9_35), ht _ (.tail _ gp_71)⟩) h0 hout (by decide +kernel)) <|
    zall_c (zs_istore X (pc := 7) (by decide) (by decide +kernel)) <|
    zall_c (zs_aload_n X (pc := 9) (q := 0) rfl (by decide +kernel)) <|
    zall_c (zs_iload_n X (pc := 10) (q := 1) rfl (by decide +kernel)) <|
    zall_c (zs_iload_n X (pc := 11) (q := 3) rfl (by decide +kernel)) <|
    zall_c (zs_iconst X (pc := 12) (by decide) (by decide +kernel)) <|
    zall_c (zs_callV0 X (pc := 13) zc_X9 (fun _ ht => ⟨(zCB ht gw_9_36 gw_1_13 gw_9_33 rfl rfl (by decide +kernel) ⟨Nat.le_of_ble_eq_true rfl, Nat.le_of_ble_eq_true rfl⟩), ht _ (.tail _ gw_9_35), ht _ (.tail _ gp_71)⟩) h0 hout (by decide +kernel)) <|
    zall_c (zs_istore X (pc := 16) (by decide) (by decide +kernel)) <|
    zall_c (zs_aload_n X (pc := 18) (q := 0) rfl (by decide +kernel)) <|
    zall_c (zs_iload X (pc := 19) (by decide +kernel)) <|
    zall_c (zs_iconst X (pc := 21) (by decide) (by decide +kernel)) <|
    zall_c (zs_callV0 X (pc := 22) zc_X9 (fun _ ht => ⟨(zCB ht gw_8_161 gw_1_13 gw_8_158 rfl rfl (by decide +kernel) ⟨Nat.le_of_ble_eq_true rfl, Nat.le_of_ble_eq_true rfl⟩), ht _ (.tail _ gw_8_160), ht _ (.tail _ gp_48)⟩) h1 hout (by decide +kernel)) <|
    zall_c (zs_aload_n X (pc := 25) (q := 0) rfl (by decide +kernel)) <|
    zall_c (zs_iload X (pc := 26) (by decide +kernel)) <|
    zall_c (zs_iconst X (pc := 28) (by decide) (by decide +kernel)) <|
    zall_c (zs_callV0 X (pc := 29) zc_X9 (fun _ ht => ⟨(zCB ht gw_8_161 gw_1_13 gw_8_158 rfl rfl (by decide +kernel) ⟨Nat.le_of_ble_eq_true rfl, Nat.le_of_ble_eq_true rfl⟩), ht _ (.tail _ gw_8_160), ht _ (.tail _ gp_48)⟩) h1 hout (by decide +kernel)) <|
    zall_c (zs_icmp_le X (pc := 32) (off := 7) (by decide +kernel) (by decide)) <|
    zall_c (zs_iconst X (pc := 35) (by decide) (by decide +kernel)) <|
    zall_c (zs_goto X (pc := 36) (off := 4) (by decide +kernel) (by decide)) <|
    zall_c (zs_iconst X (pc := 39) (by decide) (by decide +kernel)) <|
    zall_c (zs_istore X (pc := 40) (by decide) (by decide +kernel)) <|
    zall_c (zs_aload_n X (pc := 42) (q := 0) rfl (by decide +kernel)) <|
    zall_c (zs_iload_n X (pc := 43) (q := 1) rfl (by decide +kernel)) <|
    zall_c (zs_iconst X (pc := 44) (by decide) (by decide +kernel)) <|
    zall_c (zs_aload_n X (pc := 45) (q := 0) rfl (by decide +kernel)) <|
    zall_c (zs_iload_n X (pc := 46) (q := 1) rfl (by decide +kernel)) <|
    zall_c (zs_iload X (pc := 47) (by decide +kernel)) <|
    zall_c (zs_if_eq X (pc := 49) (off := 7) (by decide +kernel) (by decide)) <|
    zall_c (zs_iload_n X (pc := 52) (q := 3) rfl (by decide +kernel)) <|
    zall_c (zs_goto X (pc := 53) (off := 4) (by decide +kernel) (by decide)) <|
    zall_c (zs_iload_n X (pc := 56) (q := 2) rfl (by decide +kernel)) <|
    zall_c (zs_iconst X (pc := 57) (by decide) (by decide +kernel)) <|
    zall_c (zs_callV0 X (pc := 58) zc_X9 (fun _ ht => ⟨(zCB ht gw_9_36 gw_1_13 gw_9_33 rfl rfl (by decide +kernel) ⟨Nat.le_of_ble_eq_true rfl, Nat.le_of_ble_eq_true rfl⟩), ht _ (.tail _ gw_9_35), ht _ (.tail _ gp_71)⟩) h0 hout (by decide +kernel)) <|
    zall_c (zs_callV0 X (pc := 61) zc_X9 (fun _ ht => ⟨(zCB ht gw_8_181 gw_1_13 gw_8_178 rfl rfl (by decide +kernel) ⟨Nat.le_of_ble_eq_true rfl, Nat.le_of_ble_eq_true rfl⟩), ht _ (.tail _ gw_8_180), ht _ (.tail _ gp_53)⟩) h2 hout (by decide +kernel)) <|
    zall_c (zs_aload_n X (pc := 64) (q := 0) rfl (by decide +kernel)) <|
    zall_c (zs_iload_n X (pc := 65) (q := 1) rfl (by decide +kernel)) <|
    zall_c (zs_iconst X (pc := 66) (by decide) (by decide +kernel)) <|
    zall_c (zs_iconst X (pc := 67) (by decide) (by decide +kernel)) <|
    zall_c (zs_callV0 X (pc := 68) zc_X9 (fun _ ht => ⟨(zCB ht gw_8_181 gw_1_13 gw_8_178 rfl rfl (by decide +kernel) ⟨Nat.le_of_ble_eq_true rfl, Nat.le_of_ble_eq_true rfl⟩), ht _ (.tail _ gw_8_180), ht _ (.tail _ gp_53)⟩) h2 hout (by decide +kernel)) <|
    zall_c (zs_aload_n X (pc := 71) (q := 0) rfl (by decide +kernel)) <|
    zall_c (zs_iload_n X (pc := 72) (q := 1) rfl (by decide +kernel)) <|
    zall_c (zs_iconst X (pc := 73) (by decide) (by decide +kernel)) <|
    zall_c (zs_iconst X (pc := 74) (by decide) (by decide +kernel)) <|
    zall_c (zs_iload X (pc := 75) (by decide +kernel)) <|
    zall_c (zs_ishl X (pc := 77) (by decide +kernel)) <|
    zall_c (zs_iconst X (pc := 78) (by decide) (by decide +kernel)) <|
    zall_c (zs_iload X (pc := 79) (by decide +kernel)) <|
    zall_c (zs_ishl X (pc := 81) (by decide +kernel)) <|
    zall_c (zs_ior X (pc := 82) (by decide +kernel)) <|
    zall_c (zs_callV0 X (pc := 83) zc_X9 (fun _ ht => ⟨(zCB ht gw_8_181 gw_1_13 gw_8_178 rfl rfl (by decide +kernel) ⟨Nat.le_of_ble_eq_true rfl, Nat.le_of_ble_eq_true rfl⟩), ht _ (.tail _ gw_8_180), ht _ (.tail _ gp_53)⟩) h2 hout (by decide +kernel)) <|
    zall_c (zs_aload_n X (pc := 86) (q := 0) rfl (by decide +kernel)) <|
    zall_c (zs_iload X (pc := 87) (by decide +kernel)) <|
    zall_c (zs_iload_n X (pc := 89) (q := 1) rfl (by decide +kernel)) <|
    zall_c (zs_callV0 X (pc := 90) zc_X9 (fun _ ht => ⟨(zCB ht gw_10_10 gw_1_13 gw_10_7 rfl rfl (by decide +kernel) ⟨Nat.le_of_ble_eq_true rfl, Nat.le_of_ble_eq_true rfl⟩), ht _ (.tail _ gw_10_9), ht _ (.tail _ gp_99)⟩) h3 hout (by decide +kernel)) <|
    zall_c (zs_aload_n X (pc := 93) (q := 0) rfl (by decide +kernel)) <|
    zall_c (zs_iload X (pc := 94) (by decide +kernel)) <|
    zall_c (zs_iload_n X (pc := 96) (q := 1) rfl (by decide +kernel)) <|
    zall_c (zs_callV0 X (pc := 97) zc_X9 (fun _ ht => ⟨(zCB ht gw_10_10 gw_1_13 gw_10_7 rfl rfl (by decide +kernel) ⟨Nat.le_of_ble_eq_true rfl, Nat.le_of_ble_eq_true rfl⟩), ht _ (.tail _ gw_10_9), ht _ (.tail _ gp_99)⟩) h3 hout (by decide +kernel)) <|
    zall_c (zs_vret X (pc := 100) rfl (by decide +kernel)) <|
    zall_n
theorem met_X9_finishes {l : Launch} (hl : l.stackTraces = false) {T0 : ZTf} {T1 : ZTf} {T2 : ZTf} {T3 : ZTf} (h0 : zMet l yX9_ofTaking (Cond.code yX9_ofTaking cX9_ofTaking 4 (Option.some Jvm.ClassFile.FieldType.int) :: zG) rm_X9_ofTaking 0 0 T0) (h1 : zMet l yX9_ofWorker (Cond.code yX9_ofWorker cX9_ofWorker 3 (Option.some Jvm.ClassFile.FieldType.int) :: zG) rm_X9_ofWorker 0 0 T1) (h2 : zMet l yX9_put (Cond.code yX9_put cX9_put 4 (Option.none : Option Jvm.ClassFile.FieldType) :: zG) rm_X9_put 0 0 T2) (h3 : zMet l yX9_gains (Cond.code yX9_gains cX9_gains 3 (Option.none : Option Jvm.ClassFile.FieldType) :: zG) rm_X9_gains 0 0 T3) {T : ZTf} (bd : zBd (cd_X9_finishes T0 T1 T2 T3) 7 0 0 T) : zMet l yX9_finishes (Cond.code yX9_finishes cX9_finishes 7 (Option.none : Option Jvm.ClassFile.FieldType) :: zG) rm_X9_finishes 0 0 T := zMet_of hl (by decide +kernel) rfl rfl rfl rfl (hs_X9_finishes hl h0 h1 h2 h3) bd

abbrev rm_X9_compares : Room := { frames := 4, cells := 0, slots := 0, locals := 101 }
def cd_X9_compares (T0 : ZTf) (T1 : ZTf) (T2 : ZTf) (T3 : ZTf) : List (Nat × ZTr) := [(0, tAld 0 1), (1, tAld 0 2), (2, tIld 1 3), (3, tC (zi 0) 4), (4, tC (zi 1) 5), (5, tCall0 4 T0 (zRcv 12) 8), (8, tAld 0 9), (9, tIld 1 10), (10, tC (zi 1) 11), (11, tC (zi 1) 12), (12, tCall0 4 T0 (zRcv 12) 15), (15, tCall0 3 T1 (zRcv 12) 18), (18, tIf_eq 31 21), (21, tAld 0 22), (22, tIld 1 23), (23, tC (zi 0) 24), (24, tC (zi 1) 25), (25, tCall0 4 T2 (zRcv 12) 28), (28, tGo 38), (31, tAld 0 32), (32, tIld 1 33), (33, tC (zi 1) 34), (34, tC (zi 1) 35), (35, tCall0 4 T3 (zRcv 12) 38), (38, tRv)]
set_option maxRecDepth 100000 in
set_option maxHeartbeats 4000000 in
theorem hs_X9_compares {l : Launch} (hl : l.stackTraces = false) {T0 : ZTf} {T1 : ZTf} {T2 : ZTf} {T3 : ZTf} (h0 : zMet l yX9_ofTaking (Cond.code yX9_ofTaking cX9_ofTaking 4 (Option.some Jvm.ClassFile.FieldType.int) :: zG) rm_X9_ofTaking 0 0 T0) (h1 : zMet l yX9_doAgree (Cond.code yX9_doAgree cX9_doAgree 3 (Option.some Jvm.ClassFile.FieldType.boolean) :: zG) rm_X9_doAgree 0 0 T1) (h2 : zMet l yX9_finishes (Cond.code yX9_finishes cX9_finishes 7 (Option.none : Option Jvm.ClassFile.FieldType) :: zG) rm_X9_finishes 0 0 T2) (h3 : zMet l yX9_put (Cond.code yX9_put cX9_put 4 (Option.none : Option Jvm.ClassFile.FieldType) :: zG) rm_X9_put 0 0 T3) (p : Program) (e : Env) (s : State) (m : MethodId) (args : Array Value) (below : List Frame) (meth : Method) (c : Code) (D : va_G) (A : Nat → Prop) (a0 : Nat → Nat) (M0 : ZM) (K : ZRet) (KX : ZEx) (X : zCtx p l rm_X9_compares s m args meth c cX9_compares RX9 (Cond.code yX9_compares cX9_compares 2 (Option.none : Option Jvm.ClassFile.FieldType) :: zG) 2 (Option.none : Option Jvm.ClassFile.FieldType) D A a0 M0 0 0) (hnm : meth.name = yX9_compares.name) (hout : ∀ x ∈ c.exceptionTable.toList, False) : ∀ q ∈ cd_X9_compares T0 T1 T2 T3, zSd p l e rm_X9_compares s m args below meth c 2 D A a0 M0 K KX 0 0 q.1 q.2 :=
    zall_c (zs_aload_n X (pc := 0) (q := 0) rfl (by decide +kernel)) <|
    zall_c (zs_aload_n X (pc := 1) (q := 0) rfl (by decide +kernel)) <|
    zall_c (zs_iload_n X (pc := 2) (q := 1) rfl (by decide +kernel)) <|
    zall_c (zs_iconst X (pc := 3) (by decide) (by decide +kernel)) <|
    zall_c (zs_iconst X (pc := 4) (by decide) (by decide +kernel)) <|
    zall_c (zs_callV0 X (pc := 5) zc_X9 (fun _ ht => ⟨(zCB ht gw_9_36 gw_1_13 gw_9_33 rfl rfl (by decide +kernel) ⟨Nat.le_of_ble_eq_true rfl, Nat.le_of_ble_eq_true rfl⟩), ht _ (.tail _ gw_9_35), ht _ (.tail _ gp_71)⟩) h0 hout (by decide +kernel)) <|
    zall_c (zs_aload_n X (pc := 8) (q := 0) rfl (by decide +kernel)) <|
    zall_c (zs_iload_n X (pc := 9) (q := 1) rfl (by decide +kernel)) <|
    zall_c (zs_iconst X (pc := 10) (by decide) (by decide +kernel)) <|
    zall_c (zs_iconst X (pc := 11) (by decide) (by decide +kernel)) <|
    zall_c (zs_callV0 X (pc := 12) zc_X9 (fun _ ht => ⟨(zCB ht gw_9_36 gw_1_13 gw_9_33 rfl rfl (by decide +kernel) ⟨Nat.le_of_ble_eq_true rfl, Nat.le_of_ble_eq_true rfl⟩), ht _ (.tail _ gw_9_35), ht _ (.tail _ gp_71)⟩) h0 hout (by decide +kernel)) <|
    zall_c (zs_callV0 X (pc := 15) zc_X9 (fun _ ht => ⟨(zCB ht gw_9_169 gw_1_13 gw_9_166 rfl rfl (by decide +kernel) ⟨Nat.le_of_ble_eq_true rfl, Nat.le_of_ble_eq_true rfl⟩), ht _ (.tail _ gw_9_168), ht _ (.tail _ gp_90)⟩) h1 hout (by decide +kernel)) <|
    zall_c (zs_if_eq X (pc := 18) (off := 13) (by decide +kernel) (by decide)) <|
    zall_c (zs_aload_n X (pc := 21) (q := 0) rfl (by decide +kernel)) <|
    zall_c (zs_iload_n X (pc := 22) (q := 1) rfl (by decide +kernel)) <|
    zall_c (zs_iconst X (pc := 23) (by decide) (by decide +kernel)) <|
    zall_c (zs_iconst X (pc := 24) (by decide) (by decide +kernel)) <|
    zall_c (zs_callV0 X (pc := 25) zc_X9 (fun _ ht => ⟨(zCB ht gw_10_6 gw_1_13 gw_10_3 rfl rfl (by decide +kernel) ⟨Nat.le_of_ble_eq_true rfl, Nat.le_of_ble_eq_true rfl⟩), ht _ (.tail _ gw_10_5), ht _ (.tail _ gp_98)⟩) h2 hout (by decide +kernel)) <|
    zall_c (zs_goto X (pc := 28) (off := 10) (by decide +kernel) (by decide)) <|
    zall_c (zs_aload_n X (pc := 31) (q := 0) rfl (by decide +kernel)) <|
    zall_c (zs_iload_n X (pc := 32) (q := 1) rfl (by decide +kernel)) <|
    zall_c (zs_iconst X (pc := 33) (by decide) (by decide +kernel)) <|
    zall_c (zs_iconst X (pc := 34) (by decide) (by decide +kernel)) <|
    zall_c (zs_callV0 X (pc := 35) zc_X9 (fun _ ht => ⟨(zCB ht gw_8_181 gw_1_13 gw_8_178 rfl rfl (by decide +kernel) ⟨Nat.le_of_ble_eq_true rfl, Nat.le_of_ble_eq_true rfl⟩), ht _ (.tail _ gw_8_180), ht _ (.tail _ gp_53)⟩) h3 hout (by decide +kernel)) <|
    zall_c (zs_vret X (pc := 38) rfl (by decide +kernel)) <|
    zall_n
theorem met_X9_compares {l : Launch} (hl : l.stackTraces = false) {T0 : ZTf} {T1 : ZTf} {T2 : ZTf} {T3 : ZTf} (h0 : zMet l yX9_ofTaking (Cond.code yX9_ofTaking cX9_ofTaking 4 (Option.some Jvm.ClassFile.FieldType.int) :: zG) rm_X9_ofTaking 0 0 T0) (h1 : zMet l yX9_doAgree (Cond.code yX9_doAgree cX9_doAgree 3 (Option.some Jvm.ClassFile.FieldType.boolean) :: zG) rm_X9_doAgree 0 0 T1) (h2 : zMet l yX9_finishes (Cond.code yX9_finishes cX9_finishes 7 (Option.none : Option Jvm.ClassFile.FieldType) :: zG) rm_X9_finishes 0 0 T2) (h3 : zMet l yX9_put (Cond.code yX9_put cX9_put 4 (Option.none : Option Jvm.ClassFile.FieldType) :: zG) rm_X9_put 0 0 T3) {T : ZTf} (bd : zBd (cd_X9_compares T0 T1 T2 T3) 2 0 0 T) : zMet l yX9_compares (Cond.code yX9_compares cX9_compares 2 (Option.none : Option Jvm.ClassFile.FieldType) :: zG) rm_X9_compares 0 0 T := zMet_of hl (by decide +kernel) rfl rfl rfl rfl (hs_X9_compares hl h0 h1 h2 h3) bd

abbrev rm_X9_decides : Room := { frames := 4, cells := 0, slots := 0, locals := 101 }
def cd_X9_decides (T0 : ZTf) (T1 : ZTf) (T2 : ZTf) (T3 : ZTf) (T4 : ZTf) (T5 : ZTf) : List (Nat × ZTr) := [(0, tAld 0 1), (1, tIld 1 2), (2, tC (zi 1) 3), (3, tCall0 3 T0 (zRcv 12) 6), (6, tAld 0 7), (7, tIld 1 8), (8, tC (zi 0) 9), (9, tCall0 3 T0 (zRcv 12) 12), (12, tIc_ge 19 15), (15, tC (zi 1) 16), (16, tGo 20), (19, tC (zi 0) 20), (20, tIst 2 21), (21, tAld 0 22), (22, tIld 1 23), (23, tIld 2 24), (24, tCall0 3 T0 (zRcv 12) 27), (27, tAld 0 28), (28, tC (zi 0) 29), (29, tCall0 2 T1 (zRcv 12) 32), (32, tIc_le 68 35), (35, tAld 0 36), (36, tIld 1 37), (37, tC (zi 1) 38), (38, tC (zi 3) 39), (39, tCall0 4 T2 (zRcv 12) 42), (42, tC (zi 0) 43), (43, tIst 3 44), (44, tIld 3 45), (45, tC (zi 3) 46), (46, tIc_ge 67 49), (49, tAld 0 50), (50, tAld 0 51), (51, tIld 1 52), (52, tIld 3 53), (53, tC (zi 0) 54), (54, tCall0 4 T3 (zRcv 12) 57), (57, tC (zi (-1)) 58), (58, tCall0 3 T4 (zRcv 12) 61), (61, tInc 3 1 64), (64, tGo 44), (67, tRv), (68, tAld 0 69), (69, tIld 1 70), (70, tIld 2 71), (71, tC (zi 2) 72), (72, tCall0 4 T5 (zRcv 12) 75), (75, tAld 0 76), (76, tIld 1 77), (77, tC (zi 1) 78), (78, tIld 2 79), (79, tSub 80), (80, tCall0 3 T0 (zRcv 12) 83), (83, tAld 0 84), (84, tC (zi 0) 85), (85, tCall0 2 T1 (zRcv 12) 88), (88, tIc_le 106 91), (91, tAld 0 92), (92, tAld 0 93), (93, tIld 1 94), (94, tC (zi 1) 95), (95, tIld 2 96), (96, tSub 97), (97, tC (zi 0) 98), (98, tCall0 4 T3 (zRcv 12) 101), (101, tC (zi (-3)) 103), (103, tCall0 3 T4 (zRcv 12) 106), (106, tRv)]
set_option maxRecDepth 100000 in
set_option maxHeartbeats 4000000 in
theorem hs_X9_decides {l : Launch} (hl : l.stackTraces = false) {T0 : ZTf} {T1 : ZTf} {T2 : ZTf} {T3 : ZTf} {T4 : ZTf} {T5 : ZTf} (h0 : zMet l yX9_farOf (Cond.code yX9_farOf cX9_farOf 3 (Option.some Jvm.ClassFile.FieldType.int) :: zG) rm_X9_farOf 0 0 T0) (h1 : zMet l yX9_table (Cond.code yX9_table cX9_table 2 (Option.some Jvm.ClassFile.FieldType.int) :: zG) rm_X9_table 0 0 T1) (h2 : zMet l yX9_put (Cond.code yX9_put cX9_put 4 (Option.none : Option Jvm.ClassFile.FieldType) :: zG) rm_X9_put 0 0 T2) (h3 : zMet l yX9_ofTaking (Cond.code yX9_ofTaking cX9_ofTaking 4 (Option.some Jvm.ClassFile.FieldType.int) :: zG) rm_X9_ofTaking 0 0 T3) (h4 : zMet l yX9_trusts (Cond.code yX9_trusts cX9_trusts 4 (Option.none : Option Jvm.ClassFile.FieldType) :: zG) rm_X9_trusts 0 0 T4) (h5 : zMet l yX9_finishes (Cond.code yX9_finishes cX9_finishes 7 (Option.none : Option Jvm.ClassFile.FieldType) :: zG) rm_X9_finishes 0 0 T5) (p : Program) (e : Env) (s : State) (m : MethodId) (args : Array Value) (below : List Frame) (meth : Method) (c : Code) (D : va_G) (A : Nat → Prop) (a0 : Nat → Nat) (M0 : ZM) (K : ZRet) (KX : ZEx) (X : zCtx p l rm_X9_decides s m args meth c cX9_decides RX9 (Cond.code yX9_decides cX9_decides 4 (Option.none : Option Jvm.ClassFile.FieldType) :: zG) 4 (Option.none : Option Jvm.ClassFile.FieldType) D A a0 M0 0 0) (hnm : meth.name = yX9_decides.name) (hout : ∀ x ∈ c.exceptionTable.toList, False) : ∀ q ∈ cd_X9_decides T0 T1 T2 T3 T4 T5, zSd p l e rm_X9_decides s m args below meth c 4 D A a0 M0 K KX 0 0 q.1 q.2 :=
    zall_c (zs_aload_n X (pc := 0) (q := 0) rfl (by decide +kernel)) <|
    zall_c (zs_iload_n X (pc := 1) (q := 1) rfl (by decide +kernel)) <|
    zall_c (zs_iconst X (pc := 2) (by decide) (by decide +kernel)) <|
    zall_c (zs_callV0 X (pc := 3) zc_X9 (fun _ ht => ⟨(zCB ht gw_10_22 gw_1_13 gw_10_19 rfl rfl (by decide +kernel) ⟨Nat.le_of_ble_eq_true rfl, Nat.le_of_ble_eq_true rfl⟩), ht _ (.tail _ gw_10_21), ht _ (.tail _ gp_102)⟩) h0 hout (by decide +kernel)) <|
    zall_c (zs_aload_n X (pc := 6) (q := 0) rfl (by decide +kernel)) <|
    zall_c (zs_iload_n X (pc := 7) (q := 1) rfl (by decide +kernel)) <|
    zall_c (zs_iconst X (pc := 8) (by decide) (by decide +kernel)) <|
    zall_c (zs_callV0 X (pc := 9) zc_X9 (fun _ ht => ⟨(zCB ht gw_10_22 gw_1_13 gw_10_19 rfl rfl (by decide +kernel) ⟨Nat.le_of_ble_eq_true rfl, Nat.le_of_ble_eq_true rfl⟩), ht _ (.tail _ gw_10_21), ht _ (.tail _ gp_102)⟩) h0 hout (by decide +kernel)) <|
    zall_c (zs_icmp_ge X (pc := 12) (off := 7) (by decide +kernel) (by decide)) <|
    zall_c (zs_iconst X (pc := 15) (by decide) (by decide +kernel)) <|
    zall_c (zs_goto X (pc := 16) (off := 4) (by decide +kernel) (by decide)) <|
    zall_c (zs_iconst X (pc := 19) (by decide) (by decide +kernel)) <|
    zall_c (zs_istore_n X (pc := 20) (q := 2) rfl (by decide) (by decide +kernel)) <|
    zall_c (zs_aload_n X (pc := 21) (q := 0) rfl (by decide +kernel)) <|
    zall_c (zs_iload_n X (pc := 22) (q := 1) rfl (by decide +kernel)) <|
    zall_c (zs_iload_n X (pc := 23) (q := 2) rfl (by decide +kernel)) <|
    zall_c (zs_callV0 X (pc := 24) zc_X9 (fun _ ht => ⟨(zCB ht gw_10_22 gw_1_13 gw_10_19 rfl rfl (by decide +kernel) ⟨Nat.le_of_ble_eq_true rfl, Nat.le_of_ble_eq_true rfl⟩), ht _ (.tail _ gw_10_21), ht _ (.tail _ gp_102)⟩) h0 hout (by decide +kernel)) <|
    zall_c (zs_aload_n X (pc := 27) (q := 0) rfl (by decide +kernel)) <|
    zall_c (zs_iconst X (pc := 28) (by decide) (by decide +kernel)) <|
    zall_c (zs_callV0 X (pc := 29) zc_X9 (fun _ ht => ⟨(zCB ht gw_8_227 gw_1_13 gw_8_224 rfl rfl (by decide +kernel) ⟨Nat.le_of_ble_eq_true rfl, Nat.le_of_ble_eq_true rfl⟩), ht _ (.tail _ gw_8_226), ht _ (.tail _ gp_60)⟩) h1 hout (by decide +kernel)) <|
    zall_c (zs_icmp_le X (pc := 32) (off := 36) (by decide +kernel) (by decide)) <|
    zall_c (zs_aload_n X (pc := 35) (q := 0) rfl (by decide +kernel)) <|
    zall_c (zs_iload_n X (pc := 36) (q := 1) rfl (by decide +kernel)) <|
    zall_c (zs_iconst X (pc := 37) (by decide) (by decide +kernel)) <|
    zall_c (zs_iconst X (pc := 38) (by decide) (by decide +kernel)) <|
    zall_c (zs_callV0 X (pc := 39) zc_X9 (fun _ ht => ⟨(zCB ht gw_8_181 gw_1_13 gw_8_178 rfl rfl (by decide +kernel) ⟨Nat.le_of_ble_eq_true rfl, Nat.le_of_ble_eq_true rfl⟩), ht _ (.tail _ gw_8_180), ht _ (.tail _ gp_53)⟩) h2 hout (by decide +kernel)) <|
    zall_c (zs_iconst X (pc := 42) (by decide) (by decide +kernel)) <|
    zall_c (zs_istore_n X (pc := 43) (q := 3) rfl (by decide) (by decide +kernel)) <|
    zall_c (zs_iload_n X (pc := 44) (q := 3) rfl (by decide +kernel)) <|
    zall_c (zs_iconst X (pc := 45) (by decide) (by decide +kernel)) <|
    zall_c (zs_icmp_ge X (pc := 46) (off := 21) (by decide +kernel) (by decide)) <|
    zall_c (zs_aload_n X (pc := 49) (q := 0) rfl (by decide +kernel)) <|
    zall_c (zs_aload_n X (pc := 50) (q := 0) rfl (by decide +kernel)) <|
    zall_c (zs_iload_n X (pc := 51) (q := 1) rfl (by decide +kernel)) <|
    zall_c (zs_iload_n X (pc := 52) (q := 3) rfl (by decide +kernel)) <|
    zall_c (zs_iconst X (pc := 53) (by decide) (by decide +kernel)) <|
    zall_c (zs_callV0 X (pc := 54) zc_X9 (fun _ ht => ⟨(zCB ht gw_9_36 gw_1_13 gw_9_33 rfl rfl (by decide +kernel) ⟨Nat.le_of_ble_eq_true rfl, Nat.le_of_ble_eq_true rfl⟩), ht _ (.tail _ gw_9_35), ht _ (.tail _ gp_71)⟩) h3 hout (by decide +kernel)) <|
    zall_c (zs_iconst X (pc := 57) (by decide) (by decide +kernel)) <|
    zall_c (zs_callV0 X (pc := 58) zc_X9 (fun _ ht => ⟨(zCB ht gw_10_14 gw_1_13 gw_10_11 rfl rfl (by decide +kernel) ⟨Nat.le_of_ble_eq_true rfl, Nat.le_of_ble_eq_true rfl⟩), ht _ (.tail _ gw_10_13), ht _ (.tail _ gp_100)⟩) h4 hout (by decide +kernel)) <|
    zall_c (zs_iinc X (pc := 61) (by decide) (by decide +kernel)) <|
    zall_c (zs_goto X (pc := 64) (off := (-20)) (by decide +kernel) (by decide)) <|
    zall_c (zs_vret X (pc := 67) rfl (by decide +kernel)) <|
    zall_c (zs_aload_n X (pc := 68) (q := 0) rfl (by decide +kernel)) <|
    zall_c (zs_iload_n X (pc := 69) (q := 1) rfl (by decide +kernel)) <|
    zall_c (zs_iload_n X (pc := 70) (q := 2) rfl (by decide +kernel)) <|
    zall_c (zs_iconst X (pc := 71) (by decide) (by decide +kernel)) <|
    zall_c (zs_callV0 X (pc := 72) zc_X9 (fun _ ht => ⟨(zCB ht gw_10_6 gw_1_13 gw_10_3 rfl rfl (by decide +kernel) ⟨Nat.le_of_ble_eq_true rfl, Nat.le_of_ble_eq_true rfl⟩), ht _ (.tail _ gw_10_5), ht _ (.tail _ gp_98)⟩) h5 hout (by decide +kernel)) <|
    zall_c (zs_aload_n X (pc := 75) (q := 0) rfl (by decide +kernel)) <|
    zall_c (zs_iload_n X (pc := 76) (q := 1) rfl (by decide +kernel)) <|
    zall_c (zs_iconst X (pc := 77) (by decide) (by decide +kernel)) <|
    zall_c (zs_iload_n X (pc := 78) (q := 2) rfl (by decide +kernel)) <|
    zall_c (zs_isub X (pc := 79) (by decide +kernel)) <|
    zall_c (zs_callV0 X (pc := 80) zc_X9 (fun _ ht => ⟨(zCB ht gw_10_22 gw_1_13 gw_10_19 rfl rfl (by decide +kernel) ⟨Nat.le_of_ble_eq_true rfl, Nat.le_of_ble_eq_true rfl⟩), ht _ (.tail _ gw_10_21), ht _ (.tail _ gp_102)⟩) h0 hout (by decide +kernel)) <|
    zall_c (zs_aload_n X (pc := 83) (q := 0) rfl (by decide +kernel)) <|
    zall_c (zs_iconst X (pc := 84) (by decide) (by decide +kernel)) <|
    zall_c (zs_callV0 X (pc := 85) zc_X9 (fun _ ht => ⟨(zCB ht gw_8_227 gw_1_13 gw_8_224 rfl rfl (by decide +kernel) ⟨Nat.le_of_ble_eq_true rfl, Nat.le_of_ble_eq_true rfl⟩), ht _ (.tail _ gw_8_226), ht _ (.tail _ gp_60)⟩) h1 hout (by decide +kernel)) <|
    zall_c (zs_icmp_le X (pc := 88) (off := 18) (by decide +kernel) (by decide)) <|
    zall_c (zs_aload_n X (pc := 91) (q := 0) rfl (by decide +kernel)) <|
    zall_c (zs_aload_n X (pc := 92) (q := 0) rfl (by decide +kernel)) <|
    zall_c (zs_iload_n X (pc := 93) (q := 1) rfl (by decide +kernel)) <|
    zall_c (zs_iconst X (pc := 94) (by decide) (by decide +kernel)) <|
    zall_c (zs_iload_n X (pc := 95) (q := 2) rfl (by decide +kernel)) <|
    zall_c (zs_isub X (pc := 96) (by decide +kernel)) <|
    zall_c (zs_iconst X (pc := 97) (by decide) (by decide +kernel)) <|
    zall_c (zs_callV0 X (pc := 98) zc_X9 (fun _ ht => ⟨(zCB ht gw_9_36 gw_1_13 gw_9_33 rfl rfl (by decide +kernel) ⟨Nat.le_of_ble_eq_true rfl, Nat.le_of_ble_eq_true rfl⟩), ht _ (.tail _ gw_9_35), ht _ (.tail _ gp_71)⟩) h3 hout (by decide +kernel)) <|
    zall_c (zs_bipush X (pc := 101) (by decide) (by decide +kernel) (by decide +kernel)) <|
    zall_c (zs_callV0 X (pc := 103) zc_X9 (fun _ ht => ⟨(zCB ht gw_10_14 gw_1_13 gw_10_11 rfl rfl (by decide +kernel) ⟨Nat.le_of_ble_eq_true rfl, Nat.le_of_ble_eq_true rfl⟩), ht _ (.tail _ gw_10_13), ht _ (.tail _ gp_100)⟩) h4 hout (by decide +kernel)) <|
    zall_c (zs_vret X (pc := 106) rfl (by decide +kernel)) <|
    zall_n
theorem met_X9_decides {l : Launch} (hl : l.stackTraces = false) {T0 : ZTf} {T1 : ZTf} {T2 : ZTf} {T3 : ZTf} {T4 : ZTf} {T5 : ZTf} (h0 : zMet l yX9_farOf (Cond.code yX9_farOf cX9_farOf 3 (Option.some Jvm.ClassFile.FieldType.int) :: zG) rm_X9_farOf 0 0 T0) (h1 : zMet l yX9_table (Cond.code yX9_table cX9_table 2 (Option.some Jvm.ClassFile.FieldType.int) :: zG) rm_X9_table 0 0 T1) (h2 : zMet l yX9_put (Cond.code yX9_put cX9_put 4 (Option.none : Option Jvm.ClassFile.FieldType) :: zG) rm_X9_put 0 0 T2) (h3 : zMet l yX9_ofTaking (Cond.code yX9_ofTaking cX9_ofTaking 4 (Option.some Jvm.ClassFile.FieldType.int) :: zG) rm_X9_ofTaking 0 0 T3) (h4 : zMet l yX9_trusts (Cond.code yX9_trusts cX9_trusts 4 (Option.none : Option Jvm.ClassFile.FieldType) :: zG) rm_X9_trusts 0 0 T4) (h5 : zMet l yX9_finishes (Cond.code yX9_finishes cX9_finishes 7 (Option.none : Option Jvm.ClassFile.FieldType) :: zG) rm_X9_finishes 0 0 T5) {T : ZTf} (bd : zBd (cd_X9_decides T0 T1 T2 T3 T4 T5) 4 0 0 T) : zMet l yX9_decides (Cond.code yX9_decides cX9_decides 4 (Option.none : Option Jvm.ClassFile.FieldType) :: zG) rm_X9_decides 0 0 T := zMet_of hl (by decide +kernel) rfl rfl rfl rfl (hs_X9_decides hl h0 h1 h2 h3 h4 h5) bd

abbrev rm_X9_doDeliver : Room := { frames := 5, cells := 0, slots := 0, locals := 124 }
def cd_X9_doDeliver (T0 : ZTf) (T1 : ZTf) (T2 : ZTf) (T3 : ZTf) (T4 : ZTf) (T5 : ZTf) (T6 : ZTf) : List (Nat × ZTr) := [(0, tAld 0 1), (1, tIld 1 2), (2, tIld 2 3), (3, tCall0 3 T0 (zRcv 12) 6), (6, tIst 4 8), (8, tAld 0 9), (9, tIld 2 10), (10, tC (zi 7) 12), (12, tC (zi 3) 13), (13, tIld 4 15), (15, tMul 16), (16, tAdd 17), (17, tC (zi 1) 18), (18, tAdd 19), (19, tIld 3 20), (20, tCall0 4 T1 (zRcv 12) 23), (23, tAld 0 24), (24, tIld 1 25), (25, tC (zi 5) 26), (26, tC (zi 1) 27), (27, tCall0 4 T2 (zRcv 12) 30), (30, tAld 0 31), (31, tIld 2 32), (32, tC (zi 1) 33), (33, tCall0 3 T3 (zRcv 12) 36), (36, tIf_ne 56 39), (39, tAld 0 40), (40, tIld 2 41), (41, tC (zi 2) 42), (42, tCall0 3 T4 (zRcv 12) 45), (45, tIf_eq 56 48), (48, tAld 0 49), (49, tIld 2 50), (50, tCall0 2 T5 (zRcv 12) 53), (53, tGo 80), (56, tAld 0 57), (57, tIld 2 58), (58, tC (zi 1) 59), (59, tCall0 3 T3 (zRcv 12) 62), (62, tC (zi 1) 63), (63, tIc_ne 80 66), (66, tAld 0 67), (67, tIld 2 68), (68, tC (zi 3) 69), (69, tCall0 3 T4 (zRcv 12) 72), (72, tIf_eq 80 75), (75, tAld 0 76), (76, tIld 2 77), (77, tCall0 2 T6 (zRcv 12) 80), (80, tAld 0 81), (81, tIld 2 82), (82, tC (zi 1) 83), (83, tCall0 3 T3 (zRcv 12) 86), (86, tRi (fun _ => True))]
set_option maxRecDepth 100000 in
set_option maxHeartbeats 4000000 in
theorem hs_X9_doDeliver {l : Launch} (hl : l.stackTraces = false) {T0 : ZTf} {T1 : ZTf} {T2 : ZTf} {T3 : ZTf} {T4 : ZTf} {T5 : ZTf} {T6 : ZTf} (h0 : zMet l yX9_takingOf (Cond.code yX9_takingOf cX9_takingOf 4 (Option.some Jvm.ClassFile.FieldType.int) :: zG) rm_X9_takingOf 0 0 T0) (h1 : zMet l yX9_put (Cond.code yX9_put cX9_put 4 (Option.none : Option Jvm.ClassFile.FieldType) :: zG) rm_X9_put 0 0 T1) (h2 : zMet l yX9_add (Cond.code yX9_add cX9_add 4 (Option.none : Option Jvm.ClassFile.FieldType) :: zG) rm_X9_add 0 0 T2) (h3 : zMet l yX9_ofRow (Cond.code yX9_ofRow cX9_ofRow 3 (Option.some Jvm.ClassFile.FieldType.int) :: zG) rm_X9_ofRow 0 0 T3) (h4 : zMet l yX9_haveAll (Cond.code yX9_haveAll cX9_haveAll 5 (Option.some Jvm.ClassFile.FieldType.boolean) :: zG) rm_X9_haveAll 0 0 T4) (h5 : zMet l yX9_compares (Cond.code yX9_compares cX9_compares 2 (Option.none : Option Jvm.ClassFile.FieldType) :: zG) rm_X9_compares 0 0 T5) (h6 : zMet l yX9_decides (Cond.code yX9_decides cX9_decides 4 (Option.none : Option Jvm.ClassFile.FieldType) :: zG) rm_X9_decides 0 0 T6) (p : Program) (e : Env) (s : State) (m : MethodId) (args : Array Value) (below : List Frame) (meth : Method) (c : Code) (D : va_G) (A : Nat → Prop) (a0 : Nat → Nat) (M0 : ZM) (K : ZRet) (KX : ZEx) (X : zCtx p l rm_X9_doDeliver s m args meth c cX9_doDeliver RX9 (Cond.code yX9_doDeliver cX9_doDeliver 5 (Option.some Jvm.ClassFile.FieldType.int) :: zG) 5 (Option.some Jvm.ClassFile.FieldType.int) D A a0 M0 0 0) (hnm : meth.name = yX9_doDeliver.name) (hout : ∀ x ∈ c.exceptionTable.toList, False) : ∀ q ∈ cd_X9_doDeliver T0 T1 T2 T3 T4 T5 T6, zSd p l e rm_X9_doDeliver s m args below meth c 5 D A a0 M0 K KX 0 0 q.1 q.2 :=
    zall_c (zs_aload_n X (pc := 0) (q := 0) rfl (by decide +kernel)) <|
    zall_c (zs_iload_n X (pc := 1) (q := 1) rfl (by decide +kernel)) <|
    zall_c (zs_iload_n X (pc := 2) (q := 2) rfl (by decide +kernel)) <|
    zall_c (zs_callV0 X (pc := 3) zc_X9 (fun _ ht => ⟨(zCB ht gw_9_28 gw_1_13 gw_9_25 rfl rfl (by decide +kernel) ⟨Nat.le_of_ble_eq_true rfl, Nat.le_of_ble_eq_true rfl⟩), ht _ (.tail _ gw_9_27), ht _ (.tail _ gp_69)⟩) h0 hout (by decide +kernel)) <|
    zall_c (zs_istore X (pc := 6) (by decide) (by decide +kernel)) <|
    zall_c (zs_aload_n X (pc := 8) (q := 0) rfl (by decide +kernel)) <|
    zall_c (zs_iload_n X (pc := 9) (q := 2) rfl (by decide +kernel)) <|
    zall_c (zs_bipush X (pc := 10) (by decide) (by decide +kernel) (by decide +kernel)) <|
    zall_c (zs_iconst X (pc := 12) (by decide) (by decide +kernel)) <|
    zall_c (zs_iload X (pc := 13) (by decide +kernel)) <|
    zall_c (zs_imul X (pc := 15) (by decide +kernel)) <|
    zall_c (zs_iadd X (pc := 16) (by decide +kernel)) <|
    zall_c (zs_iconst X (pc := 17) (by decide) (by decide +kernel)) <|
    zall_c (zs_iadd X (pc := 18) (by decide +kernel)) <|
    zall_c (zs_iload_n X (pc := 19) (q := 3) rfl (by decide +kernel)) <|
    zall_c (zs_callV0 X (pc := 20) zc_X9 (fun _ ht => ⟨(zCB ht gw_8_181 gw_1_13 gw_8_178 rfl rfl (by decide +kernel) ⟨Nat.le_of_ble_eq_true rfl, Nat.le_of_ble_eq_true rfl⟩), ht _ (.tail _ gw_8_180), ht _ (.tail _ gp_53)⟩) h1 hout (by decide +kernel)) <|
    zall_c (zs_aload_n X (pc := 23) (q := 0) rfl (by decide +kernel)) <|
    zall_c (zs_iload_n X (pc := 24) (q := 1) rfl (by decide +kernel)) <|
    zall_c (zs_iconst X (pc := 25) (by decide) (by decide +kernel)) <|
    zall_c (zs_iconst X (pc := 26) (by decide) (by decide +kernel)) <|
    zall_c (zs_callV0 X (pc := 27) zc_X9 (fun _ ht => ⟨(zCB ht gw_8_165 gw_1_13 gw_8_162 rfl rfl (by decide +kernel) ⟨Nat.le_of_ble_eq_true rfl, Nat.le_of_ble_eq_true rfl⟩), ht _ (.tail _ gw_8_164), ht _ (.tail _ gp_49)⟩) h2 hout (by decide +kernel)) <|
    zall_c (zs_aload_n X (pc := 30) (q := 0) rfl (by decide +kernel)) <|
    zall_c (zs_iload_n X (pc := 31) (q := 2) rfl (by decide +kernel)) <|
    zall_c (zs_iconst X (pc := 32) (by decide) (by decide +kernel)) <|
    zall_c (zs_callV0 X (pc := 33) zc_X9 (fun _ ht => ⟨(zCB ht gw_8_239 gw_1_13 gw_8_236 rfl rfl (by decide +kernel) ⟨Nat.le_of_ble_eq_true rfl, Nat.le_of_ble_eq_true rfl⟩), ht _ (.tail _ gw_8_238), ht _ (.tail _ gp_63)⟩) h3 hout (by decide +kernel)) <|
    zall_c (zs_if_ne X (pc := 36) (off := 20) (by decide +kernel) (by decide)) <|
    zall_c (zs_aload_n X (pc := 39) (q := 0) rfl (by decide +kernel)) <|
    zall_c (zs_iload_n X (pc := 40) (q := 2) rfl (by decide +kernel)) <|
    zall_c (zs_iconst X (pc := 41) (by decide) (by decide +kernel)) <|
    zall_c (zs_callV0 X (pc := 42) zc_X9 (fun _ ht => ⟨(zCB ht gw_9_238 gw_1_13 gw_9_235 rfl rfl (by decide +kernel) ⟨Nat.le_of_ble_eq_true rfl, Nat.le_of_ble_eq_true rfl⟩), ht _ (.tail _ gw_9_237), ht _ (.tail _ gp_96)⟩) h4 hout (by decide +kernel)) <|
    zall_c (zs_if_eq X (pc := 45) (off := 11) (by decide +kernel) (by decide)) <|
    zall_c (zs_aload_n X (pc := 48) (q := 0) rfl (by decide +kernel)) <|
    zall_c (zs_iload_n X (pc := 49) (q := 2) rfl (by decide +kernel)) <|
    zall_c (zs_callV0 X (pc := 50) zc_X9 (fun _ ht => ⟨(zCB ht gw_10_2 gw_1_13 gw_9_239 rfl rfl (by decide +kernel) ⟨Nat.le_of_ble_eq_true rfl, Nat.le_of_ble_eq_true rfl⟩), ht _ (.tail _ gw_10_1), ht _ (.tail _ gp_97)⟩) h5 hout (by decide +kernel)) <|
    zall_c (zs_goto X (pc := 53) (off := 27) (by decide +kernel) (by decide)) <|
    zall_c (zs_aload_n X (pc := 56) (q := 0) rfl (by decide +kernel)) <|
    zall_c (zs_iload_n X (pc := 57) (q := 2) rfl (by decide +kernel)) <|
    zall_c (zs_iconst X (pc := 58) (by decide) (by decide +kernel)) <|
    zall_c (zs_callV0 X (pc := 59) zc_X9 (fun _ ht => ⟨(zCB ht gw_8_239 gw_1_13 gw_8_236 rfl rfl (by decide +kernel) ⟨Nat.le_of_ble_eq_true rfl, Nat.le_of_ble_eq_true rfl⟩), ht _ (.tail _ gw_8_238), ht _ (.tail _ gp_63)⟩) h3 hout (by decide +kernel)) <|
    zall_c (zs_iconst X (pc := 62) (by decide) (by decide +kernel)) <|
    zall_c (zs_icmp_ne X (pc := 63) (off := 17) (by decide +kernel) (by decide)) <|
    zall_c (zs_aload_n X (pc := 66) (q := 0) rfl (by decide +kernel)) <|
    zall_c (zs_iload_n X (pc := 67) (q := 2) rfl (by decide +kernel)) <|
    zall_c (zs_iconst X (pc := 68) (by decide) (by decide +kernel)) <|
    zall_c (zs_callV0 X (pc := 69) zc_X9 (fun _ ht => ⟨(zCB ht gw_9_238 gw_1_13 gw_9_235 rfl rfl (by decide +kernel) ⟨Nat.le_of_ble_eq_true rfl, Nat.le_of_ble_eq_true rfl⟩), ht _ (.tail _ gw_9_237), ht _ (.tail _ gp_96)⟩) h4 hout (by decide +kernel)) <|
    zall_c (zs_if_eq X (pc := 72) (off := 8) (by decide +kernel) (by decide)) <|
    zall_c (zs_aload_n X (pc := 75) (q := 0) rfl (by decide +kernel)) <|
    zall_c (zs_iload_n X (pc := 76) (q := 2) rfl (by decide +kernel)) <|
    zall_c (zs_callV0 X (pc := 77) zc_X9 (fun _ ht => ⟨(zCB ht gw_10_18 gw_1_13 gw_10_15 rfl rfl (by decide +kernel) ⟨Nat.le_of_ble_eq_true rfl, Nat.le_of_ble_eq_true rfl⟩), ht _ (.tail _ gw_10_17), ht _ (.tail _ gp_101)⟩) h6 hout (by decide +kernel)) <|
    zall_c (zs_aload_n X (pc := 80) (q := 0) rfl (by decide +kernel)) <|
    zall_c (zs_iload_n X (pc := 81) (q := 2) rfl (by decide +kernel)) <|
    zall_c (zs_iconst X (pc := 82) (by decide) (by decide +kernel)) <|
    zall_c (zs_callV0 X (pc := 83) zc_X9 (fun _ ht => ⟨(zCB ht gw_8_239 gw_1_13 gw_8_236 rfl rfl (by decide +kernel) ⟨Nat.le_of_ble_eq_true rfl, Nat.le_of_ble_eq_true rfl⟩), ht _ (.tail _ gw_8_238), ht _ (.tail _ gp_63)⟩) h3 hout (by decide +kernel)) <|
    zall_c (zs_iret X (pc := 86) rfl (by decide +kernel)) <|
    zall_n
theorem met_X9_doDeliver {l : Launch} (hl : l.stackTraces = false) {T0 : ZTf} {T1 : ZTf} {T2 : ZTf} {T3 : ZTf} {T4 : ZTf} {T5 : ZTf} {T6 : ZTf} (h0 : zMet l yX9_takingOf (Cond.code yX9_takingOf cX9_takingOf 4 (Option.some Jvm.ClassFile.FieldType.int) :: zG) rm_X9_takingOf 0 0 T0) (h1 : zMet l yX9_put (Cond.code yX9_put cX9_put 4 (Option.none : Option Jvm.ClassFile.FieldType) :: zG) rm_X9_put 0 0 T1) (h2 : zMet l yX9_add (Cond.code yX9_add cX9_add 4 (Option.none : Option Jvm.ClassFile.FieldType) :: zG) rm_X9_add 0 0 T2) (h3 : zMet l yX9_ofRow (Cond.code yX9_ofRow cX9_ofRow 3 (Option.some Jvm.ClassFile.FieldType.int) :: zG) rm_X9_ofRow 0 0 T3) (h4 : zMet l yX9_haveAll (Cond.code yX9_haveAll cX9_haveAll 5 (Option.some Jvm.ClassFile.FieldType.boolean) :: zG) rm_X9_haveAll 0 0 T4) (h5 : zMet l yX9_compares (Cond.code yX9_compares cX9_compares 2 (Option.none : Option Jvm.ClassFile.FieldType) :: zG) rm_X9_compares 0 0 T5) (h6 : zMet l yX9_decides (Cond.code yX9_decides cX9_decides 4 (Option.none : Option Jvm.ClassFile.FieldType) :: zG) rm_X9_decides 0 0 T6) {T : ZTf} (bd : zBd (cd_X9_doDeliver T0 T1 T2 T3 T4 T5 T6) 5 0 0 T) : zMet l yX9_doDeliver (Cond.code yX9_doDeliver cX9_doDeliver 5 (Option.some Jvm.ClassFile.FieldType.int) :: zG) rm_X9_doDeliver 0 0 T := zMet_of hl (by decide +kernel) rfl rfl rfl rfl (hs_X9_doDeliver hl h0 h1 h2 h3 h4 h5 h6) bd

abbrev rm_X9_stateWith : Room := { frames := 6, cells := 0, slots := 0, locals := 148 }
def cd_X9_stateWith (T0 : ZTf) (T1 : ZTf) (T2 : ZTf) : List (Nat × ZTr) := [(0, tAld 0 1), (1, tCall0 1 T0 (zRcv 12) 4), (4, tAld 0 5), (5, tAld 0 6), (6, tIld 1 7), (7, tIld 2 8), (8, tIld 3 9), (9, tCall0 4 T1 (zRcv 12) 12), (12, tCall0 2 T2 (zRcv 12) 15), (15, tRi (fun _ => True))]
set_option maxRecDepth 100000 in
set_option maxHeartbeats 4000000 in
theorem hs_X9_stateWith {l : Launch} (hl : l.stackTraces = false) {T0 : ZTf} {T1 : ZTf} {T2 : ZTf} (h0 : zMet l yX9_keepAside (Cond.code yX9_keepAside cX9_keepAside 2 (Option.none : Option Jvm.ClassFile.FieldType) :: zG) rm_X9_keepAside 0 0 T0) (h1 : zMet l yX9_doDeliver (Cond.code yX9_doDeliver cX9_doDeliver 5 (Option.some Jvm.ClassFile.FieldType.int) :: zG) rm_X9_doDeliver 0 0 T1) (h2 : zMet l yX9_layBack (Cond.code yX9_layBack cX9_layBack 3 (Option.some Jvm.ClassFile.FieldType.int) :: zG) rm_X9_layBack 0 0 T2) (p : Program) (e : Env) (s : State) (m : MethodId) (args : Array Value) (below : List Frame) (meth : Method) (c : Code) (D : va_G) (A : Nat → Prop) (a0 : Nat → Nat) (M0 : ZM) (K : ZRet) (KX : ZEx) (X : zCtx p l rm_X9_stateWith s m args meth c cX9_stateWith RX9 (Cond.code yX9_stateWith cX9_stateWith 4 (Option.some Jvm.ClassFile.FieldType.int) :: zG) 4 (Option.some Jvm.ClassFile.FieldType.int) D A a0 M0 0 0) (hnm : meth.name = yX9_stateWith.name) (hout : ∀ x ∈ c.exceptionTable.toList, False) : ∀ q ∈ cd_X9_stateWith T0 T1 T2, zSd p l e rm_X9_stateWith s m args below meth c 4 D A a0 M0 K KX 0 0 q.1 q.2 :=
    zall_c (zs_aload_n X (pc := 0) (q := 0) rfl (by decide +kernel)) <|
    zall_c (zs_callV0 X (pc := 1) zc_X9 (fun _ ht => ⟨(zCB ht gw_9_230 gw_1_13 gw_9_227 rfl rfl (by decide +kernel) ⟨Nat.le_of_ble_eq_true rfl, Nat.le_of_ble_eq_true rfl⟩), ht _ (.tail _ gw_9_229), ht _ (.tail _ gp_94)⟩) h0 hout (by decide +kernel)) <|
    zall_c (zs_aload_n X (pc := 4) (q := 0) rfl (by decide +kernel)) <|
    zall_c (zs_aload_n X (pc := 5) (q := 0) rfl (by decide +kernel)) <|
    zall_c (zs_iload_n X (pc := 6) (q := 1) rfl (by decide +kernel)) <|
    zall_c (zs_iload_n X (pc := 7) (q := 2) rfl (by decide +kernel)) <|
    zall_c (zs_iload_n X (pc := 8) (q := 3) rfl (by decide +kernel)) <|
    zall_c (zs_callV0 X (pc := 9) zc_X9 (fun _ ht => ⟨(zCB ht gw_9_234 gw_1_13 gw_9_231 rfl rfl (by decide +kernel) ⟨Nat.le_of_ble_eq_true rfl, Nat.le_of_ble_eq_true rfl⟩), ht _ (.tail _ gw_9_233), ht _ (.tail _ gp_95)⟩) h1 hout (by decide +kernel)) <|
    zall_c (zs_callV0 X (pc := 12) zc_X9 (fun _ ht => ⟨(zCB ht gw_10_26 gw_1_13 gw_10_23 rfl rfl (by decide +kernel) ⟨Nat.le_of_ble_eq_true rfl, Nat.le_of_ble_eq_true rfl⟩), ht _ (.tail _ gw_10_25), ht _ (.tail _ gp_103)⟩) h2 hout (by decide +kernel)) <|
    zall_c (zs_iret X (pc := 15) rfl (by decide +kernel)) <|
    zall_n
theorem met_X9_stateWith {l : Launch} (hl : l.stackTraces = false) {T0 : ZTf} {T1 : ZTf} {T2 : ZTf} (h0 : zMet l yX9_keepAside (Cond.code yX9_keepAside cX9_keepAside 2 (Option.none : Option Jvm.ClassFile.FieldType) :: zG) rm_X9_keepAside 0 0 T0) (h1 : zMet l yX9_doDeliver (Cond.code yX9_doDeliver cX9_doDeliver 5 (Option.some Jvm.ClassFile.FieldType.int) :: zG) rm_X9_doDeliver 0 0 T1) (h2 : zMet l yX9_layBack (Cond.code yX9_layBack cX9_layBack 3 (Option.some Jvm.ClassFile.FieldType.int) :: zG) rm_X9_layBack 0 0 T2) {T : ZTf} (bd : zBd (cd_X9_stateWith T0 T1 T2) 4 0 0 T) : zMet l yX9_stateWith (Cond.code yX9_stateWith cX9_stateWith 4 (Option.some Jvm.ClassFile.FieldType.int) :: zG) rm_X9_stateWith 0 0 T := zMet_of hl (by decide +kernel) rfl rfl rfl rfl (hs_X9_stateWith hl h0 h1 h2) bd

abbrev rm_X9_stateIf : Room := { frames := 7, cells := 0, slots := 0, locals := 171 }
def cd_X9_stateIf (T0 : ZTf) (T1 : ZTf) (T2 : ZTf) (T3 : ZTf) (T4 : ZTf) : List (Nat × ZTr) := [(0, tAld 0 1), (1, tIld 1 2), (2, tIld 2 3), (3, tCall0 3 T0 (zRcv 12) 6), (6, tIst 4 8), (8, tAld 0 9), (9, tIld 4 11), (11, tIld 3 12), (12, tCall0 1 T1 zAny 15), (15, tIld 4 17), (17, tIf_eq 33 20), (20, tAld 0 21), (21, tIld 1 22), (22, tIld 2 23), (23, tCall0 3 T2 (zRcv 12) 26), (26, tIf_eq 33 29), (29, tC (zi 1) 30), (30, tGo 34), (33, tC (zi 0) 34), (34, tCall0 4 T3 (zRcv 12) 37), (37, tIf_eq 50 40), (40, tAld 0 41), (41, tIld 1 42), (42, tIld 2 43), (43, tIld 3 44), (44, tCall0 4 T4 (zRcv 12) 47), (47, tGo 51), (50, tC (zi 0) 51), (51, tRi (fun _ => True))]
set_option maxRecDepth 100000 in
set_option maxHeartbeats 4000000 in
theorem hs_X9_stateIf {l : Launch} (hl : l.stackTraces = false) {T0 : ZTf} {T1 : ZTf} {T2 : ZTf} {T3 : ZTf} {T4 : ZTf} (h0 : zMet l yX9_areThere (Cond.code yX9_areThere cX9_areThere 3 (Option.some Jvm.ClassFile.FieldType.boolean) :: zG) rm_X9_areThere 0 0 T0) (h1 : zMet l yX9_isResult (Cond.code yX9_isResult cX9_isResult 1 (Option.some Jvm.ClassFile.FieldType.boolean) :: zG) rm_X9_isResult 0 0 T1) (h2 : zMet l yX9_worksAt (Cond.code yX9_worksAt cX9_worksAt 4 (Option.some Jvm.ClassFile.FieldType.boolean) :: zG) rm_X9_worksAt 0 0 T2) (h3 : zMet l yX9_passes3 (Cond.code yX9_passes3 cX9_passes3 4 (Option.some Jvm.ClassFile.FieldType.boolean) :: zG) rm_X9_passes3 0 0 T3) (h4 : zMet l yX9_stateWith (Cond.code yX9_stateWith cX9_stateWith 4 (Option.some Jvm.ClassFile.FieldType.int) :: zG) rm_X9_stateWith 0 0 T4) (p : Program) (e : Env) (s : State) (m : MethodId) (args : Array Value) (below : List Frame) (meth : Method) (c : Code) (D : va_G) (A : Nat → Prop) (a0 : Nat → Nat) (M0 : ZM) (K : ZRet) (KX : ZEx) (X : zCtx p l rm_X9_stateIf s m args meth c cX9_stateIf RX9 (Cond.code yX9_stateIf cX9_stateIf 5 (Option.some Jvm.ClassFile.FieldType.int) :: zG) 5 (Option.some Jvm.ClassFile.FieldType.int) D A a0 M0 0 0) (hnm : meth.name = yX9_stateIf.name) (hout : ∀ x ∈ c.exceptionTable.toList, False) : ∀ q ∈ cd_X9_stateIf T0 T1 T2 T3 T4, zSd p l e rm_X9_stateIf s m args below meth c 5 D A a0 M0 K KX 0 0 q.1 q.2 :=
    zall_c (zs_aload_n X (pc := 0) (q := 0) rfl (by decide +kernel)) <|
    zall_c (zs_iload_n X (pc := 1) (q := 1) rfl (by decide +kernel)) <|
    zall_c (zs_iload_n X (pc := 2) (q := 2) rfl (by decide +kernel)) <|
    zall_c (zs_callV0 X (pc := 3) zc_X9 (fun _ ht => ⟨(zCB ht gw_9_70 gw_1_13 gw_9_67 rfl rfl (by decide +kernel) ⟨Nat.le_of_ble_eq_true rfl, Nat.le_of_ble_eq_true rfl⟩), ht _ (.tail _ gw_9_69), ht _ (.tail _ gp_75)⟩) h0 hout (by decide +kernel)) <|
    zall_c (zs_istore X (pc := 6) (by decide) (by decide +kernel)) <|
    zall_c (zs_aload_n X (pc := 8) (q := 0) rfl (by decide +kernel)) <|
    zall_c (zs_iload X (pc := 9) (by decide +kernel)) <|
    zall_c (zs_iload_n X (pc := 11) (q := 3) rfl (by decide +kernel)) <|
    zall_c (zs_callS0 X (pc := 12) (fun _ ht => ⟨(zCB ht gw_9_222 gw_1_13 gw_9_220 rfl rfl (by decide +kernel) ⟨Nat.le_of_ble_eq_true rfl, Nat.le_of_ble_eq_true rfl⟩), ht _ (.tail _ gw_9_221)⟩) h1 hout (by decide +kernel)) <|
    zall_c (zs_iload X (pc := 15) (by decide +kernel)) <|
    zall_c (zs_if_eq X (pc := 17) (off := 16) (by decide +kernel) (by decide)) <|
    zall_c (zs_aload_n X (pc := 20) (q := 0) rfl (by decide +kernel)) <|
    zall_c (zs_iload_n X (pc := 21) (q := 1) rfl (by decide +kernel)) <|
    zall_c (zs_iload_n X (pc := 22) (q := 2) rfl (by decide +kernel)) <|
    zall_c (zs_callV0 X (pc := 23) zc_X9 (fun _ ht => ⟨(zCB ht gw_9_24 gw_1_13 gw_9_21 rfl rfl (by decide +kernel) ⟨Nat.le_of_ble_eq_true rfl, Nat.le_of_ble_eq_true rfl⟩), ht _ (.tail _ gw_9_23), ht _ (.tail _ gp_68)⟩) h2 hout (by decide +kernel)) <|
    zall_c (zs_if_eq X (pc := 26) (off := 7) (by decide +kernel) (by decide)) <|
    zall_c (zs_iconst X (pc := 29) (by decide) (by decide +kernel)) <|
    zall_c (zs_goto X (pc := 30) (off := 4) (by decide +kernel) (by decide)) <|
    zall_c (zs_iconst X (pc := 33) (by decide) (by decide +kernel)) <|
    zall_c (zs_callV0 X (pc := 34) zc_X9 (fun _ ht => ⟨(zCB ht gw_8_53 gw_1_13 gw_8_50 rfl rfl (by decide +kernel) ⟨Nat.le_of_ble_eq_true rfl, Nat.le_of_ble_eq_true rfl⟩), ht _ (.tail _ gw_8_52), ht _ (.tail _ gp_29)⟩) h3 hout (by decide +kernel)) <|
    zall_c (zs_if_eq X (pc := 37) (off := 13) (by decide +kernel) (by decide)) <|
    zall_c (zs_aload_n X (pc := 40) (q := 0) rfl (by decide +kernel)) <|
    zall_c (zs_iload_n X (pc := 41) (q := 1) rfl (by decide +kernel)) <|
    zall_c (zs_iload_n X (pc := 42) (q := 2) rfl (by decide +kernel)) <|
    zall_c (zs_iload_n X (pc := 43) (q := 3) rfl (by decide +kernel)) <|
    zall_c (zs_callV0 X (pc := 44) zc_X9 (fun _ ht => ⟨(zCB ht gw_9_226 gw_1_13 gw_9_223 rfl rfl (by decide +kernel) ⟨Nat.le_of_ble_eq_true rfl, Nat.le_of_ble_eq_true rfl⟩), ht _ (.tail _ gw_9_225), ht _ (.tail _ gp_93)⟩) h4 hout (by decide +kernel)) <|
    zall_c (zs_goto X (pc := 47) (off := 4) (by decide +kernel) (by decide)) <|
    zall_c (zs_iconst X (pc := 50) (by decide) (by decide +kernel)) <|
    zall_c (zs_iret X (pc := 51) rfl (by decide +kernel)) <|
    zall_n
theorem met_X9_stateIf {l : Launch} (hl : l.stackTraces = false) {T0 : ZTf} {T1 : ZTf} {T2 : ZTf} {T3 : ZTf} {T4 : ZTf} (h0 : zMet l yX9_areThere (Cond.code yX9_areThere cX9_areThere 3 (Option.some Jvm.ClassFile.FieldType.boolean) :: zG) rm_X9_areThere 0 0 T0) (h1 : zMet l yX9_isResult (Cond.code yX9_isResult cX9_isResult 1 (Option.some Jvm.ClassFile.FieldType.boolean) :: zG) rm_X9_isResult 0 0 T1) (h2 : zMet l yX9_worksAt (Cond.code yX9_worksAt cX9_worksAt 4 (Option.some Jvm.ClassFile.FieldType.boolean) :: zG) rm_X9_worksAt 0 0 T2) (h3 : zMet l yX9_passes3 (Cond.code yX9_passes3 cX9_passes3 4 (Option.some Jvm.ClassFile.FieldType.boolean) :: zG) rm_X9_passes3 0 0 T3) (h4 : zMet l yX9_stateWith (Cond.code yX9_stateWith cX9_stateWith 4 (Option.some Jvm.ClassFile.FieldType.int) :: zG) rm_X9_stateWith 0 0 T4) {T : ZTf} (bd : zBd (cd_X9_stateIf T0 T1 T2 T3 T4) 5 0 0 T) : zMet l yX9_stateIf (Cond.code yX9_stateIf cX9_stateIf 5 (Option.some Jvm.ClassFile.FieldType.int) :: zG) rm_X9_stateIf 0 0 T := zMet_of hl (by decide +kernel) rfl rfl rfl rfl (hs_X9_stateIf hl h0 h1 h2 h3 h4) bd

abbrev rm_X9_trustIf : Room := { frames := 6, cells := 0, slots := 0, locals := 148 }
def cd_X9_trustIf (T0 : ZTf) (T1 : ZTf) (T2 : ZTf) (T3 : ZTf) (T4 : ZTf) (T5 : ZTf) (T6 : ZTf) (T7 : ZTf) (T8 : ZTf) : List (Nat × ZTr) := [(0, tAld 0 1), (1, tIld 1 2), (2, tIld 2 3), (3, tCall0 3 T0 (zRcv 12) 6), (6, tIf_eq 22 9), (9, tAld 0 10), (10, tIld 4 12), (12, tCall0 2 T1 (zRcv 12) 15), (15, tIf_eq 22 18), (18, tC (zi 1) 19), (19, tGo 23), (22, tC (zi 0) 23), (23, tIst 5 25), (25, tAld 0 26), (26, tIld 5 28), (28, tIld 3 29), (29, tCall0 1 T2 zAny 32), (32, tIld 5 34), (34, tIf_eq 50 37), (37, tAld 0 38), (38, tIld 1 39), (39, tIld 2 40), (40, tCall0 3 T3 (zRcv 12) 43), (43, tIf_eq 50 46), (46, tC (zi 1) 47), (47, tGo 51), (50, tC (zi 0) 51), (51, tCall0 4 T4 (zRcv 12) 54), (54, tIf_ne 59 57), (57, tC (zi 0) 58), (58, tRi (fun _ => True)), (59, tAld 0 60), (60, tCall0 1 T5 (zRcv 12) 63), (63, tAld 0 64), (64, tIld 1 65), (65, tIld 2 66), (66, tIld 3 67), (67, tCall0 4 T6 (zRcv 12) 70), (70, tIst 6 72), (72, tAld 0 73), (73, tAld 0 74), (74, tIld 4 76), (76, tC (zi 3) 77), (77, tCall0 3 T7 (zRcv 12) 80), (80, tCall0 2 T8 (zRcv 12) 83), (83, tRi (fun _ => True))]
set_option maxRecDepth 100000 in
set_option maxHeartbeats 4000000 in
theorem hs_X9_trustIf {l : Launch} (hl : l.stackTraces = false) {T0 : ZTf} {T1 : ZTf} {T2 : ZTf} {T3 : ZTf} {T4 : ZTf} {T5 : ZTf} {T6 : ZTf} {T7 : ZTf} {T8 : ZTf} (h0 : zMet l yX9_areThere (Cond.code yX9_areThere cX9_areThere 3 (Option.some Jvm.ClassFile.FieldType.boolean) :: zG) rm_X9_areThere 0 0 T0) (h1 : zMet l yX9_isWorker (Cond.code yX9_isWorker cX9_isWorker 2 (Option.some Jvm.ClassFile.FieldType.boolean) :: zG) rm_X9_isWorker 0 0 T1) (h2 : zMet l yX9_isResult (Cond.code yX9_isResult cX9_isResult 1 (Option.some Jvm.ClassFile.FieldType.boolean) :: zG) rm_X9_isResult 0 0 T2) (h3 : zMet l yX9_worksAt (Cond.code yX9_worksAt cX9_worksAt 4 (Option.some Jvm.ClassFile.FieldType.boolean) :: zG) rm_X9_worksAt 0 0 T3) (h4 : zMet l yX9_passes3 (Cond.code yX9_passes3 cX9_passes3 4 (Option.some Jvm.ClassFile.FieldType.boolean) :: zG) rm_X9_passes3 0 0 T4) (h5 : zMet l yX9_keepAside (Cond.code yX9_keepAside cX9_keepAside 2 (Option.none : Option Jvm.ClassFile.FieldType) :: zG) rm_X9_keepAside 0 0 T5) (h6 : zMet l yX9_doDeliver (Cond.code yX9_doDeliver cX9_doDeliver 5 (Option.some Jvm.ClassFile.FieldType.int) :: zG) rm_X9_doDeliver 0 0 T6) (h7 : zMet l yX9_ofWorker (Cond.code yX9_ofWorker cX9_ofWorker 3 (Option.some Jvm.ClassFile.FieldType.int) :: zG) rm_X9_ofWorker 0 0 T7) (h8 : zMet l yX9_layBack (Cond.code yX9_layBack cX9_layBack 3 (Option.some Jvm.ClassFile.FieldType.int) :: zG) rm_X9_layBack 0 0 T8) (p : Program) (e : Env) (s : State) (m : MethodId) (args : Array Value) (below : List Frame) (meth : Method) (c : Code) (D : va_G) (A : Nat → Prop) (a0 : Nat → Nat) (M0 : ZM) (K : ZRet) (KX : ZEx) (X : zCtx p l rm_X9_trustIf s m args meth c cX9_trustIf RX9 (Cond.code yX9_trustIf cX9_trustIf 7 (Option.some Jvm.ClassFile.FieldType.int) :: zG) 7 (Option.some Jvm.ClassFile.FieldType.int) D A a0 M0 0 0) (hnm : meth.name = yX9_trustIf.name) (hout : ∀ x ∈ c.exceptionTable.toList, False) : ∀ q ∈ cd_X9_trustIf T0 T1 T2 T3 T4 T5 T6 T7 T8, zSd p l e rm_X9_trustIf s m args below meth c 7 D A a0 M0 K KX 0 0 q.1 q.2 :=
    zall_c (zs_aload_n X (pc := 0) (q := 0) rfl (by decide +kernel)) <|
    zall_c (zs_iload_n X (pc := 1) (q := 1) rfl (by decide +kernel)) <|
    zall_c (zs_iload_n X (pc := 2) (q := 2) rfl (by decide +kernel)) <|
    zall_c (zs_callV0 X (pc := 3) zc_X9 (fun _ ht => ⟨(zCB ht gw_9_70 gw_1_13 gw_9_67 rfl rfl (by decide +kernel) ⟨Nat.le_of_ble_eq_true rfl, Nat.le_of_ble_eq_true rfl⟩), ht _ (.tail _ gw_9_69), ht _ (.tail _ gp_75)⟩) h0 hout (by decide +kernel)) <|
    zall_c (zs_if_eq X (pc := 6) (off := 16) (by decide +kernel) (by decide)) <|
    zall_c (zs_aload_n X (pc := 9) (q := 0) rfl (by decide +kernel)) <|
    zall_c (zs_iload X (pc := 10) (by decide +kernel)) <|
    zall_c (zs_callV0 X (pc := 12) zc_X9 (fun _ ht => ⟨(zCB ht gw_9_11 gw_1_13 gw_9_8 rfl rfl (by decide +kernel) ⟨Nat.le_of_ble_eq_true rfl, Nat.le_of_ble_eq_true rfl⟩), ht _ (.tail _ gw_9_10), ht _ (.tail _ gp_65)⟩) h1 hout (by decide +kernel)) <|
    zall_c (zs_if_eq X (pc := 15) (off := 7) (by decide +kernel) (by decide)) <|
    zall_c (zs_iconst X (pc := 18) (by decide) (by decide +kernel)) <|
    zall_c (zs_goto X (pc := 19) (off := 4) (by decide +kernel) (by decide)) <|
    zall_c (zs_iconst X (pc := 22) (by decide) (by decide +kernel)) <|
    zall_c (zs_istore X (pc := 23) (by decide) (by decide +kernel)) <|
    zall_c (zs_aload_n X (pc := 25) (q := 0) rfl (by decide +kernel)) <|
    zall_c (zs_iload X (pc := 26) (by decide +kernel)) <|
    zall_c (zs_iload_n X (pc := 28) (q := 3) rfl (by decide +kernel)) <|
    zall_c (zs_callS0 X (pc := 29) (fun _ ht => ⟨(zCB ht gw_9_222 gw_1_13 gw_9_220 rfl rfl (by decide +kernel) ⟨Nat.le_of_ble_eq_true rfl, Nat.le_of_ble_eq_true rfl⟩), ht _ (.tail _ gw_9_221)⟩) h2 hout (by decide +kernel)) <|
    zall_c (zs_iload X (pc := 32) (by decide +kernel)) <|
    zall_c (zs_if_eq X (pc := 34) (off := 16) (by decide +kernel) (by decide)) <|
    zall_c (zs_aload_n X (pc := 37) (q := 0) rfl (by decide +kernel)) <|
    zall_c (zs_iload_n X (pc := 38) (q := 1) rfl (by decide +kernel)) <|
    zall_c (zs_iload_n X (pc := 39) (q := 2) rfl (by decide +kernel)) <|
    zall_c (zs_callV0 X (pc := 40) zc_X9 (fun _ ht => ⟨(zCB ht gw_9_24 gw_1_13 gw_9_21 rfl rfl (by decide +kernel) ⟨Nat.le_of_ble_eq_true rfl, Nat.le_of_ble_eq_true rfl⟩), ht _ (.tail _ gw_9_23), ht _ (.tail _ gp_68)⟩) h3 hout (by decide +kernel)) <|
    zall_c (zs_if_eq X (pc := 43) (off := 7) (by decide +kernel) (by decide)) <|
    zall_c (zs_iconst X (pc := 46) (by decide) (by decide +kernel)) <|
    zall_c (zs_goto X (pc := 47) (off := 4) (by decide +kernel) (by decide)) <|
    zall_c (zs_iconst X (pc := 50) (by decide) (by decide +kernel)) <|
    zall_c (zs_callV0 X (pc := 51) zc_X9 (fun _ ht => ⟨(zCB ht gw_8_53 gw_1_13 gw_8_50 rfl rfl (by decide +kernel) ⟨Nat.le_of_ble_eq_true rfl, Nat.le_of_ble_eq_true rfl⟩), ht _ (.tail _ gw_8_52), ht _ (.tail _ gp_29)⟩) h4 hout (by decide +kernel)) <|
    zall_c (zs_if_ne X (pc := 54) (off := 5) (by decide +kernel) (by decide)) <|
    zall_c (zs_iconst X (pc := 57) (by decide) (by decide +kernel)) <|
    zall_c (zs_iret X (pc := 58) rfl (by decide +kernel)) <|
    zall_c (zs_aload_n X (pc := 59) (q := 0) rfl (by decide +kernel)) <|
    zall_c (zs_callV0 X (pc := 60) zc_X9 (fun _ ht => ⟨(zCB ht gw_9_230 gw_1_13 gw_9_227 rfl rfl (by decide +kernel) ⟨Nat.le_of_ble_eq_true rfl, Nat.le_of_ble_eq_true rfl⟩), ht _ (.tail _ gw_9_229), ht _ (.tail _ gp_94)⟩) h5 hout (by decide +kernel)) <|
    zall_c (zs_aload_n X (pc := 63) (q := 0) rfl (by decide +kernel)) <|
    zall_c (zs_iload_n X (pc := 64) (q := 1) rfl (by decide +kernel)) <|
    zall_c (zs_iload_n X (pc := 65) (q := 2) rfl (by decide +kernel)) <|
    zall_c (zs_iload_n X (pc := 66) (q := 3) rfl (by decide +kernel)) <|
    zall_c (zs_callV0 X (pc := 67) zc_X9 (fun _ ht => ⟨(zCB ht gw_9_234 gw_1_13 gw_9_231 rfl rfl (by decide +kernel) ⟨Nat.le_of_ble_eq_true rfl, Nat.le_of_ble_eq_true rfl⟩), ht _ (.tail _ gw_9_233), ht _ (.tail _ gp_95)⟩) h6 hout (by decide +kernel)) <|
    zall_c (zs_istore X (pc := 70) (by decide) (by decide +kernel)) <|
    zall_c (zs_aload_n X (pc := 72) (q := 0) rfl (by decide +kernel)) <|
    zall_c (zs_aload_n X (pc := 73) (q := 0) rfl (by decide +kernel)) <|
    zall_c (zs_iload X (pc := 74) (by decide +kernel)) <|
    zall_c (zs_iconst X (pc := 76) (by decide) (by decide +kernel)) <|
    zall_c (zs_callV0 X (pc := 77) zc_X9 (fun _ ht => ⟨(zCB ht gw_8_161 gw_1_13 gw_8_158 rfl rfl (by decide +kernel) ⟨Nat.le_of_ble_eq_true rfl, Nat.le_of_ble_eq_true rfl⟩), ht _ (.tail _ gw_8_160), ht _ (.tail _ gp_48)⟩) h7 hout (by decide +kernel)) <|
    zall_c (zs_callV0 X (pc := 80) zc_X9 (fun _ ht => ⟨(zCB ht gw_10_26 gw_1_13 gw_10_23 rfl rfl (by decide +kernel) ⟨Nat.le_of_ble_eq_true rfl, Nat.le_of_ble_eq_true rfl⟩), ht _ (.tail _ gw_10_25), ht _ (.tail _ gp_103)⟩) h8 hout (by decide +kernel)) <|
    zall_c (zs_iret X (pc := 83) rfl (by decide +kernel)) <|
    zall_n
theorem met_X9_trustIf {l : Launch} (hl : l.stackTraces = false) {T0 : ZTf} {T1 : ZTf} {T2 : ZTf} {T3 : ZTf} {T4 : ZTf} {T5 : ZTf} {T6 : ZTf} {T7 : ZTf} {T8 : ZTf} (h0 : zMet l yX9_areThere (Cond.code yX9_areThere cX9_areThere 3 (Option.some Jvm.ClassFile.FieldType.boolean) :: zG) rm_X9_areThere 0 0 T0) (h1 : zMet l yX9_isWorker (Cond.code yX9_isWorker cX9_isWorker 2 (Option.some Jvm.ClassFile.FieldType.boolean) :: zG) rm_X9_isWorker 0 0 T1) (h2 : zMet l yX9_isResult (Cond.code yX9_isResult cX9_isResult 1 (Option.some Jvm.ClassFile.FieldType.boolean) :: zG) rm_X9_isResult 0 0 T2) (h3 : zMet l yX9_worksAt (Cond.code yX9_worksAt cX9_worksAt 4 (Option.some Jvm.ClassFile.FieldType.boolean) :: zG) rm_X9_worksAt 0 0 T3) (h4 : zMet l yX9_passes3 (Cond.code yX9_passes3 cX9_passes3 4 (Option.some Jvm.ClassFile.FieldType.boolean) :: zG) rm_X9_passes3 0 0 T4) (h5 : zMet l yX9_keepAside (Cond.code yX9_keepAside cX9_keepAside 2 (Option.none : Option Jvm.ClassFile.FieldType) :: zG) rm_X9_keepAside 0 0 T5) (h6 : zMet l yX9_doDeliver (Cond.code yX9_doDeliver cX9_doDeliver 5 (Option.some Jvm.ClassFile.FieldType.int) :: zG) rm_X9_doDeliver 0 0 T6) (h7 : zMet l yX9_ofWorker (Cond.code yX9_ofWorker cX9_ofWorker 3 (Option.some Jvm.ClassFile.FieldType.int) :: zG) rm_X9_ofWorker 0 0 T7) (h8 : zMet l yX9_layBack (Cond.code yX9_layBack cX9_layBack 3 (Option.some Jvm.ClassFile.FieldType.int) :: zG) rm_X9_layBack 0 0 T8) {T : ZTf} (bd : zBd (cd_X9_trustIf T0 T1 T2 T3 T4 T5 T6 T7 T8) 7 0 0 T) : zMet l yX9_trustIf (Cond.code yX9_trustIf cX9_trustIf 7 (Option.some Jvm.ClassFile.FieldType.int) :: zG) rm_X9_trustIf 0 0 T := zMet_of hl (by decide +kernel) rfl rfl rfl rfl (hs_X9_trustIf hl h0 h1 h2 h3 h4 h5 h6 h7 h8) bd

abbrev rm_X9_finishing : Room := { frames := 7, cells := 0, slots := 0, locals := 171 }
def cd_X9_finishing (T0 : ZTf) (T1 : ZTf) (T2 : ZTf) (T3 : ZTf) : List (Nat × ZTr) := [(0, tAld 0 1), (1, tIld 1 2), (2, tIld 2 3), (3, tCall0 3 T0 (zRcv 12) 6), (6, tIst 3 7), (7, tAld 0 8), (8, tIld 3 9), (9, tIld 3 10), (10, tIf_eq 26 13), (13, tAld 0 14), (14, tIld 1 15), (15, tIld 2 16), (16, tCall0 3 T1 (zRcv 12) 19), (19, tIf_eq 26 22), (22, tC (zi 1) 23), (23, tGo 27), (26, tC (zi 0) 27), (27, tCall0 3 T2 (zRcv 12) 30), (30, tIf_ne 35 33), (33, tC (zi 0) 34), (34, tRi (fun _ => True)), (35, tC (zi 0) 36), (36, tIst 4 38), (38, tC (zi 0) 39), (39, tIst 5 41), (41, tIld 5 43), (43, tC (zi 99) 45), (45, tIc_gt 76 48), (48, tIld 4 50), (50, tAld 0 51), (51, tIld 1 52), (52, tIld 2 53), (53, tIld 5 55), (55, tCall0 4 T3 (zRcv 12) 58), (58, tC (zi 2) 59), (59, tIc_ne 66 62), (62, tC (zi 1) 63), (63, tGo 67), (66, tC (zi 0) 67), (67, tAdd 68), (68, tIst 4 70), (70, tInc 5 1 73), (73, tGo 41), (76, tIld 4 78), (78, tRi (fun _ => True))]
set_option maxRecDepth 100000 in
set_option maxHeartbeats 4000000 in
theorem hs_X9_finishing {l : Launch} (hl : l.stackTraces = false) {T0 : ZTf} {T1 : ZTf} {T2 : ZTf} {T3 : ZTf} (h0 : zMet l yX9_areThere (Cond.code yX9_areThere cX9_areThere 3 (Option.some Jvm.ClassFile.FieldType.boolean) :: zG) rm_X9_areThere 0 0 T0) (h1 : zMet l yX9_worksAt (Cond.code yX9_worksAt cX9_worksAt 4 (Option.some Jvm.ClassFile.FieldType.boolean) :: zG) rm_X9_worksAt 0 0 T1) (h2 : zMet l yX9_passes2 (Cond.code yX9_passes2 cX9_passes2 3 (Option.some Jvm.ClassFile.FieldType.boolean) :: zG) rm_X9_passes2 0 0 T2) (h3 : zMet l yX9_stateWith (Cond.code yX9_stateWith cX9_stateWith 4 (Option.some Jvm.ClassFile.FieldType.int) :: zG) rm_X9_stateWith 0 0 T3) (p : Program) (e : Env) (s : State) (m : MethodId) (args : Array Value) (below : List Frame) (meth : Method) (c : Code) (D : va_G) (A : Nat → Prop) (a0 : Nat → Nat) (M0 : ZM) (K : ZRet) (KX : ZEx) (X : zCtx p l rm_X9_finishing s m args meth c cX9_finishing RX9 (Cond.code yX9_finishing cX9_finishing 6 (Option.some Jvm.ClassFile.FieldType.int) :: zG) 6 (Option.some Jvm.ClassFile.FieldType.int) D A a0 M0 0 0) (hnm : meth.name = yX9_finishing.name) (hout : ∀ x ∈ c.exceptionTable.toList, False) : ∀ q ∈ cd_X9_finishing T0 T1 T2 T3, zSd p l e rm_X9_finishing s m args below meth c 6 D A a0 M0 K KX 0 0 q.1 q.2 :=
    zall_c (zs_aload_n X (pc := 0) (q := 0) rfl (by decide +kernel)) <|
    zall_c (zs_iload_n X (pc := 1) (q := 1) rfl (by decide +kernel)) <|
    zall_c (zs_iload_n X (pc := 2) (q := 2) rfl (by decide +kernel)) <|
    zall_c (zs_callV0 X (pc := 3) zc_X9 (fun _ ht => ⟨(zCB ht gw_9_70 gw_1_13 gw_9_67 rfl rfl (by decide +kernel) ⟨Nat.le_of_ble_eq_true rfl, Nat.le_of_ble_eq_true rfl⟩), ht _ (.tail _ gw_9_69), ht _ (.tail _ gp_75)⟩) h0 hout (by decide +kernel)) <|
    zall_c (zs_istore_n X (pc := 6) (q := 3) rfl (by decide) (by decide +kernel)) <|
    zall_c (zs_aload_n X (pc := 7) (q := 0) rfl (by decide +kernel)) <|
    zall_c (zs_iload_n X (pc := 8) (q := 3) rfl (by decide +kernel)) <|
    zall_c (zs_iload_n X (pc := 9) (q := 3) rfl (by decide +kernel)) <|
    zall_c (zs_if_eq X (pc := 10) (off := 16) (by decide +kernel) (by decide)) <|
    zall_c (zs_aload_n X (pc := 13) (q := 0) rfl (by decide +kernel)) <|
    zall_c (zs_iload_n X (pc := 14) (q := 1) rfl (by decide +kernel)) <|
    zall_c (zs_iload_n X (pc := 15) (q := 2) rfl (by decide +kernel)) <|
    zall_c (zs_callV0 X (pc := 16) zc_X9 (fun _ ht => ⟨(zCB ht gw_9_24 gw_1_13 gw_9_21 rfl rfl (by decide +kernel) ⟨Nat.le_of_ble_eq_true rfl, Nat.le_of_ble_eq_true rfl⟩), ht _ (.tail _ gw_9_23), ht _ (.tail _ gp_68)⟩) h1 hout (by decide +kernel)) <|
    zall_c (zs_if_eq X (pc := 19) (off := 7) (by decide +kernel) (by decide)) <|
    zall_c (zs_iconst X (pc := 22) (by decide) (by decide +kernel)) <|
    zall_c (zs_goto X (pc := 23) (off := 4) (by decide +kernel) (by decide)) <|
    zall_c (zs_iconst X (pc := 26) (by decide) (by decide +kernel)) <|
    zall_c (zs_callV0 X (pc := 27) zc_X9 (fun _ ht => ⟨(zCB ht gw_9_16 gw_1_13 gw_9_13 rfl rfl (by decide +kernel) ⟨Nat.le_of_ble_eq_true rfl, Nat.le_of_ble_eq_true rfl⟩), ht _ (.tail _ gw_9_15), ht _ (.tail _ gp_66)⟩) h2 hout (by decide +kernel)) <|
    zall_c (zs_if_ne X (pc := 30) (off := 5) (by decide +kernel) (by decide)) <|
    zall_c (zs_iconst X (pc := 33) (by decide) (by decide +kernel)) <|
    zall_c (zs_iret X (pc := 34) rfl (by decide +kernel)) <|
    zall_c (zs_iconst X (pc := 35) (by decide) (by decide +kernel)) <|
    zall_c (zs_istore X (pc := 36) (by decide) (by decide +kernel)) <|
    zall_c (zs_iconst X (pc := 38) (by decide) (by decide +kernel)) <|
    zall_c (zs_istore X (pc := 39) (by decide) (by decide +kernel)) <|
    zall_c (zs_iload X (pc := 41) (by decide +kernel)) <|
    zall_c (zs_bipush X (pc := 43) (by decide) (by decide +kernel) (by decide +kernel)) <|
    zall_c (zs_icmp_gt X (pc := 45) (off := 31) (by decide +kernel) (by decide)) <|
    zall_c (zs_iload X (pc := 48) (by decide +kernel)) <|
    zall_c (zs_aload_n X (pc := 50) (q := 0) rfl (by decide +kernel)) <|
    zall_c (zs_iload_n X (pc := 51) (q := 1) rfl (by decide +kernel)) <|
    zall_c (zs_iload_n X (pc := 52) (q := 2) rfl (by decide +kernel)) <|
    zall_c (zs_iload X (pc := 53) (by decide +kernel)) <|
    zall_c (zs_callV0 X (pc := 55) zc_X9 (fun _ ht => ⟨(zCB ht gw_9_226 gw_1_13 gw_9_223 rfl rfl (by decide +kernel) ⟨Nat.le_of_ble_eq_true rfl, Nat.le_of_ble_eq_true rfl⟩), ht _ (.tail _ gw_9_225), ht _ (.tail _ gp_93)⟩) h3 hout (by decide +kernel)) <|
    zall_c (zs_iconst X (pc := 58) (by decide) (by decide +kernel)) <|
    zall_c (zs_icmp_ne X (pc := 59) (off := 7) (by decide +kernel) (by decide)) <|
    zall_c (zs_iconst X (pc := 62) (by decide) (by decide +kernel)) <|
    zall_c (zs_goto X (pc := 63) (off := 4) (by decide +kernel) (by decide)) <|
    zall_c (zs_iconst X (pc := 66) (by decide) (by decide +kernel)) <|
    zall_c (zs_iadd X (pc := 67) (by decide +kernel)) <|
    zall_c (zs_istore X (pc := 68) (by decide) (by decide +kernel)) <|
    zall_c (zs_iinc X (pc := 70) (by decide) (by decide +kernel)) <|
    zall_c (zs_goto X (pc := 73) (off := (-32)) (by decide +kernel) (by decide)) <|
    zall_c (zs_iload X (pc := 76) (by decide +kernel)) <|
    zall_c (zs_iret X (pc := 78) rfl (by decide +kernel)) <|
    zall_n
theorem met_X9_finishing {l : Launch} (hl : l.stackTraces = false) {T0 : ZTf} {T1 : ZTf} {T2 : ZTf} {T3 : ZTf} (h0 : zMet l yX9_areThere (Cond.code yX9_areThere cX9_areThere 3 (Option.some Jvm.ClassFile.FieldType.boolean) :: zG) rm_X9_areThere 0 0 T0) (h1 : zMet l yX9_worksAt (Cond.code yX9_worksAt cX9_worksAt 4 (Option.some Jvm.ClassFile.FieldType.boolean) :: zG) rm_X9_worksAt 0 0 T1) (h2 : zMet l yX9_passes2 (Cond.code yX9_passes2 cX9_passes2 3 (Option.some Jvm.ClassFile.FieldType.boolean) :: zG) rm_X9_passes2 0 0 T2) (h3 : zMet l yX9_stateWith (Cond.code yX9_stateWith cX9_stateWith 4 (Option.some Jvm.ClassFile.FieldType.int) :: zG) rm_X9_stateWith 0 0 T3) {T : ZTf} (bd : zBd (cd_X9_finishing T0 T1 T2 T3) 6 0 0 T) : zMet l yX9_finishing (Cond.code yX9_finishing cX9_finishing 6 (Option.some Jvm.ClassFile.FieldType.int) :: zG) rm_X9_finishing 0 0 T := zMet_of hl (by decide +kernel) rfl rfl rfl rfl (hs_X9_finishing hl h0 h1 h2 h3) bd

abbrev rm_X9_take : Room := { frames := 9, cells := 0, slots := 0, locals := 211 }
def cd_X9_take (T0 : ZTf) (T1 : ZTf) (T2 : ZTf) (T3 : ZTf) (T4 : ZTf) : List (Nat × ZTr) := [(0, tAld 0 1), (1, tIld 1 2), (2, tCall0 2 T0 (zRcv 12) 5), (5, tIst 2 6), (6, tIld 2 7), (7, tIf_eq 18 10), (10, tAld 0 11), (11, tIld 1 12), (12, tCall0 2 T1 (zRcv 12) 15), (15, tGo 19), (18, tC (zi (-1)) 19), (19, tIst 3 20), (20, tAld 0 21), (21, tIld 2 22), (22, tIld 3 23), (23, tC (zi (-1)) 24), (24, tIc_eq 31 27), (27, tC (zi 1) 28), (28, tGo 32), (31, tC (zi 0) 32), (32, tCall0 3 T2 (zRcv 12) 35), (35, tIf_ne 40 38), (38, tC (zi 0) 39), (39, tRi (fun _ => True)), (40, tAld 0 41), (41, tCall0 1 T3 (zRcv 12) 44), (44, tAld 0 45), (45, tIld 1 46), (46, tIld 3 47), (47, tCall0 3 T4 (zRcv 12) 50), (50, tIst 4 52), (52, tIld 3 53), (53, tRi (fun _ => True))]
set_option maxRecDepth 100000 in
set_option maxHeartbeats 4000000 in
theorem hs_X9_take {l : Launch} (hl : l.stackTraces = false) {T0 : ZTf} {T1 : ZTf} {T2 : ZTf} {T3 : ZTf} {T4 : ZTf} (h0 : zMet l yX9_isWorker (Cond.code yX9_isWorker cX9_isWorker 2 (Option.some Jvm.ClassFile.FieldType.boolean) :: zG) rm_X9_isWorker 0 0 T0) (h1 : zMet l yX9_nextOf (Cond.code yX9_nextOf cX9_nextOf 4 (Option.some Jvm.ClassFile.FieldType.int) :: zG) rm_X9_nextOf 0 0 T1) (h2 : zMet l yX9_passes2 (Cond.code yX9_passes2 cX9_passes2 3 (Option.some Jvm.ClassFile.FieldType.boolean) :: zG) rm_X9_passes2 0 0 T2) (h3 : zMet l yX9_remember (Cond.code yX9_remember cX9_remember 2 (Option.none : Option Jvm.ClassFile.FieldType) :: zG) rm_X9_remember 0 0 T3) (h4 : zMet l yX9_doTake (Cond.code yX9_doTake cX9_doTake 4 (Option.some Jvm.ClassFile.FieldType.int) :: zG) rm_X9_doTake 0 0 T4) (p : Program) (e : Env) (s : State) (m : MethodId) (args : Array Value) (below : List Frame) (meth : Method) (c : Code) (D : va_G) (A : Nat → Prop) (a0 : Nat → Nat) (M0 : ZM) (K : ZRet) (KX : ZEx) (X : zCtx p l rm_X9_take s m args meth c cX9_take RX9 (Cond.code yX9_take cX9_take 5 (Option.some Jvm.ClassFile.FieldType.int) :: zG) 5 (Option.some Jvm.ClassFile.FieldType.int) D A a0 M0 0 0) (hnm : meth.name = yX9_take.name) (hout : ∀ x ∈ c.exceptionTable.toList, False) : ∀ q ∈ cd_X9_take T0 T1 T2 T3 T4, zSd p l e rm_X9_take s m args below meth c 5 D A a0 M0 K KX 0 0 q.1 q.2 :=
    zall_c (zs_aload_n X (pc := 0) (q := 0) rfl (by decide +kernel)) <|
    zall_c (zs_iload_n X (pc := 1) (q := 1) rfl (by decide +kernel)) <|
    zall_c (zs_callV0 X (pc := 2) zc_X9 (fun _ ht => ⟨(zCB ht gw_9_11 gw_1_13 gw_9_8 rfl rfl (by decide +kernel) ⟨Nat.le_of_ble_eq_true rfl, Nat.le_of_ble_eq_true rfl⟩), ht _ (.tail _ gw_9_10), ht _ (.tail _ gp_65)⟩) h0 hout (by decide +kernel)) <|
    zall_c (zs_istore_n X (pc := 5) (q := 2) rfl (by decide) (by decide +kernel)) <|
    zall_c (zs_iload_n X (pc := 6) (q := 2) rfl (by decide +kernel)) <|
    zall_c (zs_if_eq X (pc := 7) (off := 11) (by decide +kernel) (by decide)) <|
    zall_c (zs_aload_n X (pc := 10) (q := 0) rfl (by decide +kernel)) <|
    zall_c (zs_iload_n X (pc := 11) (q := 1) rfl (by decide +kernel)) <|
    zall_c (zs_callV0 X (pc := 12) zc_X9 (fun _ ht => ⟨(zCB ht gw_9_109 gw_1_13 gw_9_106 rfl rfl (by decide +kernel) ⟨Nat.le_of_ble_eq_true rfl, Nat.le_of_ble_eq_true rfl⟩), ht _ (.tail _ gw_9_108), ht _ (.tail _ gp_82)⟩) h1 hout (by decide +kernel)) <|
    zall_c (zs_goto X (pc := 15) (off := 4) (by decide +kernel) (by decide)) <|
    zall_c (zs_iconst X (pc := 18) (by decide) (by decide +kernel)) <|
    zall_c (zs_istore_n X (pc := 19) (q := 3) rfl (by decide) (by decide +kernel)) <|
    zall_c (zs_aload_n X (pc := 20) (q := 0) rfl (by decide +kernel)) <|
    zall_c (zs_iload_n X (pc := 21) (q := 2) rfl (by decide +kernel)) <|
    zall_c (zs_iload_n X (pc := 22) (q := 3) rfl (by decide +kernel)) <|
    zall_c (zs_iconst X (pc := 23) (by decide) (by decide +kernel)) <|
    zall_c (zs_icmp_eq X (pc := 24) (off := 7) (by decide +kernel) (by decide)) <|
    zall_c (zs_iconst X (pc := 27) (by decide) (by decide +kernel)) <|
    zall_c (zs_goto X (pc := 28) (off := 4) (by decide +kernel) (by decide)) <|
    zall_c (zs_iconst X (pc := 31) (by decide) (by decide +kernel)) <|
    zall_c (zs_callV0 X (pc := 32) zc_X9 (fun _ ht => ⟨(zCB ht gw_9_16 gw_1_13 gw_9_13 rfl rfl (by decide +kernel) ⟨Nat.le_of_ble_eq_true rfl, Nat.le_of_ble_eq_true rfl⟩), ht _ (.tail _ gw_9_15), ht _ (.tail _ gp_66)⟩) h2 hout (by decide +kernel)) <|
    zall_c (zs_if_ne X (pc := 35) (off := 5) (by decide +kernel) (by decide)) <|
    zall_c (zs_iconst X (pc := 38) (by decide) (by decide +kernel)) <|
    zall_c (zs_iret X (pc := 39) rfl (by decide +kernel)) <|
    zall_c (zs_aload_n X (pc := 40) (q := 0) rfl (by decide +kernel)) <|
    zall_c (zs_callV0 X (pc := 41) zc_X9 (fun _ ht => ⟨(zCB ht gw_8_205 gw_1_13 gw_8_202 rfl rfl (by decide +kernel) ⟨Nat.le_of_ble_eq_true rfl, Nat.le_of_ble_eq_true rfl⟩), ht _ (.tail _ gw_8_204), ht _ (.tail _ gp_59)⟩) h3 hout (by decide +kernel)) <|
    zall_c (zs_aload_n X (pc := 44) (q := 0) rfl (by decide +kernel)) <|
    zall_c (zs_iload_n X (pc := 45) (q := 1) rfl (by decide +kernel)) <|
    zall_c (zs_iload_n X (pc := 46) (q := 3) rfl (by decide +kernel)) <|
    zall_c (zs_callV0 X (pc := 47) zc_X9 (fun _ ht => ⟨(zCB ht gw_10_63 gw_1_13 gw_10_60 rfl rfl (by decide +kernel) ⟨Nat.le_of_ble_eq_true rfl, Nat.le_of_ble_eq_true rfl⟩), ht _ (.tail _ gw_10_62), ht _ (.tail _ gp_104)⟩) h4 hout (by decide +kernel)) <|
    zall_c (zs_istore X (pc := 50) (by decide) (by decide +kernel)) <|
    zall_c (zs_iload_n X (pc := 52) (q := 3) rfl (by decide +kernel)) <|
    zall_c (zs_iret X (pc := 53) rfl (by decide +kernel)) <|
    zall_n
theorem met_X9_take {l : Launch} (hl : l.stackTraces = false) {T0 : ZTf} {T1 : ZTf} {T2 : ZTf} {T3 : ZTf} {T4 : ZTf} (h0 : zMet l yX9_isWorker (Cond.code yX9_isWorker cX9_isWorker 2 (Option.some Jvm.ClassFile.FieldType.boolean) :: zG) rm_X9_isWorker 0 0 T0) (h1 : zMet l yX9_nextOf (Cond.code yX9_nextOf cX9_nextOf 4 (Option.some Jvm.ClassFile.FieldType.int) :: zG) rm_X9_nextOf 0 0 T1) (h2 : zMet l yX9_passes2 (Cond.code yX9_passes2 cX9_passes2 3 (Option.some Jvm.ClassFile.FieldType.boolean) :: zG) rm_X9_passes2 0 0 T2) (h3 : zMet l yX9_remember (Cond.code yX9_remember cX9_remember 2 (Option.none : Option Jvm.ClassFile.FieldType) :: zG) rm_X9_remember 0 0 T3) (h4 : zMet l yX9_doTake (Cond.code yX9_doTake cX9_doTake 4 (Option.some Jvm.ClassFile.FieldType.int) :: zG) rm_X9_doTake 0 0 T4) {T : ZTf} (bd : zBd (cd_X9_take T0 T1 T2 T3 T4) 5 0 0 T) : zMet l yX9_take (Cond.code yX9_take cX9_take 5 (Option.some Jvm.ClassFile.FieldType.int) :: zG) rm_X9_take 0 0 T := zMet_of hl (by decide +kernel) rfl rfl rfl rfl (hs_X9_take hl h0 h1 h2 h3 h4) bd

abbrev rm_X9_takeRow : Room := { frames := 8, cells := 0, slots := 0, locals := 188 }
def cd_X9_takeRow (T0 : ZTf) (T1 : ZTf) (T2 : ZTf) (T3 : ZTf) (T4 : ZTf) : List (Nat × ZTr) := [(0, tAld 0 1), (1, tIld 1 2), (2, tIld 2 3), (3, tCall0 3 T0 (zRcv 12) 6), (6, tIst 3 7), (7, tAld 0 8), (8, tIld 3 9), (9, tIld 3 10), (10, tIf_eq 26 13), (13, tAld 0 14), (14, tIld 1 15), (15, tIld 2 16), (16, tCall0 3 T1 (zRcv 12) 19), (19, tIf_eq 26 22), (22, tC (zi 1) 23), (23, tGo 27), (26, tC (zi 0) 27), (27, tCall0 3 T2 (zRcv 12) 30), (30, tIf_ne 35 33), (33, tC (zi 0) 34), (34, tRi (fun _ => True)), (35, tAld 0 36), (36, tCall0 1 T3 (zRcv 12) 39), (39, tAld 0 40), (40, tIld 1 41), (41, tIld 2 42), (42, tCall0 3 T4 (zRcv 12) 45), (45, tRi (fun _ => True))]
set_option maxRecDepth 100000 in
set_option maxHeartbeats 4000000 in
theorem hs_X9_takeRow {l : Launch} (hl : l.stackTraces = false) {T0 : ZTf} {T1 : ZTf} {T2 : ZTf} {T3 : ZTf} {T4 : ZTf} (h0 : zMet l yX9_areThere (Cond.code yX9_areThere cX9_areThere 3 (Option.some Jvm.ClassFile.FieldType.boolean) :: zG) rm_X9_areThere 0 0 T0) (h1 : zMet l yX9_canTake (Cond.code yX9_canTake cX9_canTake 3 (Option.some Jvm.ClassFile.FieldType.boolean) :: zG) rm_X9_canTake 0 0 T1) (h2 : zMet l yX9_passes2 (Cond.code yX9_passes2 cX9_passes2 3 (Option.some Jvm.ClassFile.FieldType.boolean) :: zG) rm_X9_passes2 0 0 T2) (h3 : zMet l yX9_remember (Cond.code yX9_remember cX9_remember 2 (Option.none : Option Jvm.ClassFile.FieldType) :: zG) rm_X9_remember 0 0 T3) (h4 : zMet l yX9_doTake (Cond.code yX9_doTake cX9_doTake 4 (Option.some Jvm.ClassFile.FieldType.int) :: zG) rm_X9_doTake 0 0 T4) (p : Program) (e : Env) (s : State) (m : MethodId) (args : Array Value) (below : List Frame) (meth : Method) (c : Code) (D : va_G) (A : Nat → Prop) (a0 : Nat → Nat) (M0 : ZM) (K : ZRet) (KX : ZEx) (X : zCtx p l rm_X9_takeRow s m args meth c cX9_takeRow RX9 (Cond.code yX9_takeRow cX9_takeRow 4 (Option.some Jvm.ClassFile.FieldType.int) :: zG) 4 (Option.some Jvm.ClassFile.FieldType.int) D A a0 M0 0 0) (hnm : meth.name = yX9_takeRow.name) (hout : ∀ x ∈ c.exceptionTable.toList, False) : ∀ q ∈ cd_X9_takeRow T0 T1 T2 T3 T4, zSd p l e rm_X9_takeRow s m args below meth c 4 D A a0 M0 K KX 0 0 q.1 q.2 :=
    zall_c (zs_aload_n X (pc := 0) (q := 0) rfl (by decide +kernel)) <|
    zall_c (zs_iload_n X (pc := 1) (q := 1) rfl (by decide +kernel)) <|
    zall_c (zs_iload_n X (pc := 2) (q := 2) rfl (by decide +kernel)) <|
    zall_c (zs_callV0 X (pc := 3) zc_X9 (fun _ ht => ⟨(zCB ht gw_9_70 gw_1_13 gw_9_67 rfl rfl (by decide +kernel) ⟨Nat.le_of_ble_eq_true rfl, Nat.le_of_ble_eq_true rfl⟩), ht _ (.tail _ gw_9_69), ht _ (.tail _ gp_75)⟩) h0 hout (by decide +kernel)) <|
    zall_c (zs_istore_n X (pc := 6) (q := 3) rfl (by decide) (by decide +kernel)) <|
    zall_c (zs_aload_n X (pc := 7) (q := 0) rfl (by decide +kernel)) <|
    zall_c (zs_iload_n X (pc := 8) (q := 3) rfl (by decide +kernel)) <|
    zall_c (zs_iload_n X (pc := 9) (q := 3) rfl (by decide +kernel)) <|
    zall_c (zs_if_eq X (pc := 10) (off := 16) (by decide +kernel) (by decide)) <|
    zall_c (zs_aload_n X (pc := 13) (q := 0) rfl (by decide +kernel)) <|
    zall_c (zs_iload_n X (pc := 14) (q := 1) rfl (by decide +kernel)) <|
    zall_c (zs_iload_n X (pc := 15) (q := 2) rfl (by decide +kernel)) <|
    zall_c (zs_callV0 X (pc := 16) zc_X9 (fun _ ht => ⟨(zCB ht gw_9_101 gw_1_13 gw_9_98 rfl rfl (by decide +kernel) ⟨Nat.le_of_ble_eq_true rfl, Nat.le_of_ble_eq_true rfl⟩), ht _ (.tail _ gw_9_100), ht _ (.tail _ gp_81)⟩) h1 hout (by decide +kernel)) <|
    zall_c (zs_if_eq X (pc := 19) (off := 7) (by decide +kernel) (by decide)) <|
    zall_c (zs_iconst X (pc := 22) (by decide) (by decide +kernel)) <|
    zall_c (zs_goto X (pc := 23) (off := 4) (by decide +kernel) (by decide)) <|
    zall_c (zs_iconst X (pc := 26) (by decide) (by decide +kernel)) <|
    zall_c (zs_callV0 X (pc := 27) zc_X9 (fun _ ht => ⟨(zCB ht gw_9_16 gw_1_13 gw_9_13 rfl rfl (by decide +kernel) ⟨Nat.le_of_ble_eq_true rfl, Nat.le_of_ble_eq_true rfl⟩), ht _ (.tail _ gw_9_15), ht _ (.tail _ gp_66)⟩) h2 hout (by decide +kernel)) <|
    zall_c (zs_if_ne X (pc := 30) (off := 5) (by decide +kernel) (by decide)) <|
    zall_c (zs_iconst X (pc := 33) (by decide) (by decide +kernel)) <|
    zall_c (zs_iret X (pc := 34) rfl (by decide +kernel)) <|
    zall_c (zs_aload_n X (pc := 35) (q := 0) rfl (by decide +kernel)) <|
    zall_c (zs_callV0 X (pc := 36) zc_X9 (fun _ ht => ⟨(zCB ht gw_8_205 gw_1_13 gw_8_202 rfl rfl (by decide +kernel) ⟨Nat.le_of_ble_eq_true rfl, Nat.le_of_ble_eq_true rfl⟩), ht _ (.tail _ gw_8_204), ht _ (.tail _ gp_59)⟩) h3 hout (by decide +kernel)) <|
    zall_c (zs_aload_n X (pc := 39) (q := 0) rfl (by decide +kernel)) <|
    zall_c (zs_iload_n X (pc := 40) (q := 1) rfl (by decide +kernel)) <|
    zall_c (zs_iload_n X (pc := 41) (q := 2) rfl (by decide +kernel)) <|
    zall_c (zs_callV0 X (pc := 42) zc_X9 (fun _ ht => ⟨(zCB ht gw_10_63 gw_1_13 gw_10_60 rfl rfl (by decide +kernel) ⟨Nat.le_of_ble_eq_true rfl, Nat.le_of_ble_eq_true rfl⟩), ht _ (.tail _ gw_10_62), ht _ (.tail _ gp_104)⟩) h4 hout (by decide +kernel)) <|
    zall_c (zs_iret X (pc := 45) rfl (by decide +kernel)) <|
    zall_n
theorem met_X9_takeRow {l : Launch} (hl : l.stackTraces = false) {T0 : ZTf} {T1 : ZTf} {T2 : ZTf} {T3 : ZTf} {T4 : ZTf} (h0 : zMet l yX9_areThere (Cond.code yX9_areThere cX9_areThere 3 (Option.some Jvm.ClassFile.FieldType.boolean) :: zG) rm_X9_areThere 0 0 T0) (h1 : zMet l yX9_canTake (Cond.code yX9_canTake cX9_canTake 3 (Option.some Jvm.ClassFile.FieldType.boolean) :: zG) rm_X9_canTake 0 0 T1) (h2 : zMet l yX9_passes2 (Cond.code yX9_passes2 cX9_passes2 3 (Option.some Jvm.ClassFile.FieldType.boolean) :: zG) rm_X9_passes2 0 0 T2) (h3 : zMet l yX9_remember (Cond.code yX9_remember cX9_remember 2 (Option.none : Option Jvm.ClassFile.FieldType) :: zG) rm_X9_remember 0 0 T3) (h4 : zMet l yX9_doTake (Cond.code yX9_doTake cX9_doTake 4 (Option.some Jvm.ClassFile.FieldType.int) :: zG) rm_X9_doTake 0 0 T4) {T : ZTf} (bd : zBd (cd_X9_takeRow T0 T1 T2 T3 T4) 4 0 0 T) : zMet l yX9_takeRow (Cond.code yX9_takeRow cX9_takeRow 4 (Option.some Jvm.ClassFile.FieldType.int) :: zG) rm_X9_takeRow 0 0 T := zMet_of hl (by decide +kernel) rfl rfl rfl rfl (hs_X9_takeRow hl h0 h1 h2 h3 h4) bd

abbrev rm_X9_deliver : Room := { frames := 6, cells := 0, slots := 0, locals := 148 }
def cd_X9_deliver (T0 : ZTf) (T1 : ZTf) (T2 : ZTf) (T3 : ZTf) (T4 : ZTf) (T5 : ZTf) : List (Nat × ZTr) := [(0, tAld 0 1), (1, tIld 1 2), (2, tIld 2 3), (3, tCall0 3 T0 (zRcv 12) 6), (6, tIst 4 8), (8, tAld 0 9), (9, tIld 4 11), (11, tIld 3 12), (12, tCall0 1 T1 zAny 15), (15, tIld 4 17), (17, tIf_eq 33 20), (20, tAld 0 21), (21, tIld 1 22), (22, tIld 2 23), (23, tCall0 3 T2 (zRcv 12) 26), (26, tIf_eq 33 29), (29, tC (zi 1) 30), (30, tGo 34), (33, tC (zi 0) 34), (34, tCall0 4 T3 (zRcv 12) 37), (37, tIf_ne 42 40), (40, tC (zi 0) 41), (41, tRi (fun _ => True)), (42, tAld 0 43), (43, tCall0 1 T4 (zRcv 12) 46), (46, tAld 0 47), (47, tIld 1 48), (48, tIld 2 49), (49, tIld 3 50), (50, tCall0 4 T5 (zRcv 12) 53), (53, tRi (fun _ => True))]
set_option maxRecDepth 100000 in
set_option maxHeartbeats 4000000 in
theorem hs_X9_deliver {l : Launch} (hl : l.stackTraces = false) {T0 : ZTf} {T1 : ZTf} {T2 : ZTf} {T3 : ZTf} {T4 : ZTf} {T5 : ZTf} (h0 : zMet l yX9_areThere (Cond.code yX9_areThere cX9_areThere 3 (Option.some Jvm.ClassFile.FieldType.boolean) :: zG) rm_X9_areThere 0 0 T0) (h1 : zMet l yX9_isResult (Cond.code yX9_isResult cX9_isResult 1 (Option.some Jvm.ClassFile.FieldType.boolean) :: zG) rm_X9_isResult 0 0 T1) (h2 : zMet l yX9_worksAt (Cond.code yX9_worksAt cX9_worksAt 4 (Option.some Jvm.ClassFile.FieldType.boolean) :: zG) rm_X9_worksAt 0 0 T2) (h3 : zMet l yX9_passes3 (Cond.code yX9_passes3 cX9_passes3 4 (Option.some Jvm.ClassFile.FieldType.boolean) :: zG) rm_X9_passes3 0 0 T3) (h4 : zMet l yX9_remember (Cond.code yX9_remember cX9_remember 2 (Option.none : Option Jvm.ClassFile.FieldType) :: zG) rm_X9_remember 0 0 T4) (h5 : zMet l yX9_doDeliver (Cond.code yX9_doDeliver cX9_doDeliver 5 (Option.some Jvm.ClassFile.FieldType.int) :: zG) rm_X9_doDeliver 0 0 T5) (p : Program) (e : Env) (s : State) (m : MethodId) (args : Array Value) (below : List Frame) (meth : Method) (c : Code) (D : va_G) (A : Nat → Prop) (a0 : Nat → Nat) (M0 : ZM) (K : ZRet) (KX : ZEx) (X : zCtx p l rm_X9_deliver s m args meth c cX9_deliver RX9 (Cond.code yX9_deliver cX9_deliver 5 (Option.some Jvm.ClassFile.FieldType.int) :: zG) 5 (Option.some Jvm.ClassFile.FieldType.int) D A a0 M0 0 0) (hnm : meth.name = yX9_deliver.name) (hout : ∀ x ∈ c.exceptionTable.toList, False) : ∀ q ∈ cd_X9_deliver T0 T1 T2 T3 T4 T5, zSd p l e rm_X9_deliver s m args below meth c 5 D A a0 M0 K KX 0 0 q.1 q.2 :=
    zall_c (zs_aload_n X (pc := 0) (q := 0) rfl (by decide +kernel)) <|
    zall_c (zs_iload_n X (pc := 1) (q := 1) rfl (by decide +kernel)) <|
    zall_c (zs_iload_n X (pc := 2) (q := 2) rfl (by decide +kernel)) <|
    zall_c (zs_callV0 X (pc := 3) zc_X9 (fun _ ht => ⟨(zCB ht gw_9_70 gw_1_13 gw_9_67 rfl rfl (by decide +kernel) ⟨Nat.le_of_ble_eq_true rfl, Nat.le_of_ble_eq_true rfl⟩), ht _ (.tail _ gw_9_69), ht _ (.tail _ gp_75)⟩) h0 hout (by decide +kernel)) <|
    zall_c (zs_istore X (pc := 6) (by decide) (by decide +kernel)) <|
    zall_c (zs_aload_n X (pc := 8) (q := 0) rfl (by decide +kernel)) <|
    zall_c (zs_iload X (pc := 9) (by decide +kernel)) <|
    zall_c (zs_iload_n X (pc := 11) (q := 3) rfl (by decide +kernel)) <|
    zall_c (zs_callS0 X (pc := 12) (fun _ ht => ⟨(zCB ht gw_9_222 gw_1_13 gw_9_220 rfl rfl (by decide +kernel) ⟨Nat.le_of_ble_eq_true rfl, Nat.le_of_ble_eq_true rfl⟩), ht _ (.tail _ gw_9_221)⟩) h1 hout (by decide +kernel)) <|
    zall_c (zs_iload X (pc := 15) (by decide +kernel)) <|
    zall_c (zs_if_eq X (pc := 17) (off := 16) (by decide +kernel) (by decide)) <|
    zall_c (zs_aload_n X (pc := 20) (q := 0) rfl (by decide +kernel)) <|
    zall_c (zs_iload_n X (pc := 21) (q := 1) rfl (by decide +kernel)) <|
    zall_c (zs_iload_n X (pc := 22) (q := 2) rfl (by decide +kernel)) <|
    zall_c (zs_callV0 X (pc := 23) zc_X9 (fun _ ht => ⟨(zCB ht gw_9_24 gw_1_13 gw_9_21 rfl rfl (by decide +kernel) ⟨Nat.le_of_ble_eq_true rfl, Nat.le_of_ble_eq_true rfl⟩), ht _ (.tail _ gw_9_23), ht _ (.tail _ gp_68)⟩) h2 hout (by decide +kernel)) <|
    zall_c (zs_if_eq X (pc := 26) (off := 7) (by decide +kernel) (by decide)) <|
    zall_c (zs_iconst X (pc := 29) (by decide) (by decide +kernel)) <|
    zall_c (zs_goto X (pc := 30) (off := 4) (by decide +kernel) (by decide)) <|
    zall_c (zs_iconst X (pc := 33) (by decide) (by decide +kernel)) <|
    zall_c (zs_callV0 X (pc := 34) zc_X9 (fun _ ht => ⟨(zCB ht gw_8_53 gw_1_13 gw_8_50 rfl rfl (by decide +kernel) ⟨Nat.le_of_ble_eq_true rfl, Nat.le_of_ble_eq_true rfl⟩), ht _ (.tail _ gw_8_52), ht _ (.tail _ gp_29)⟩) h3 hout (by decide +kernel)) <|
    zall_c (zs_if_ne X (pc := 37) (off := 5) (by decide +kernel) (by decide)) <|
    zall_c (zs_iconst X (pc := 40) (by decide) (by decide +kernel)) <|
    zall_c (zs_iret X (pc := 41) rfl (by decide +kernel)) <|
    zall_c (zs_aload_n X (pc := 42) (q := 0) rfl (by decide +kernel)) <|
    zall_c (zs_callV0 X (pc := 43) zc_X9 (fun _ ht => ⟨(zCB ht gw_8_205 gw_1_13 gw_8_202 rfl rfl (by decide +kernel) ⟨Nat.le_of_ble_eq_true rfl, Nat.le_of_ble_eq_true rfl⟩), ht _ (.tail _ gw_8_204), ht _ (.tail _ gp_59)⟩) h4 hout (by decide +kernel)) <|
    zall_c (zs_aload_n X (pc := 46) (q := 0) rfl (by decide +kernel)) <|
    zall_c (zs_iload_n X (pc := 47) (q := 1) rfl (by decide +kernel)) <|
    zall_c (zs_iload_n X (pc := 48) (q := 2) rfl (by decide +kernel)) <|
    zall_c (zs_iload_n X (pc := 49) (q := 3) rfl (by decide +kernel)) <|
    zall_c (zs_callV0 X (pc := 50) zc_X9 (fun _ ht => ⟨(zCB ht gw_9_234 gw_1_13 gw_9_231 rfl rfl (by decide +kernel) ⟨Nat.le_of_ble_eq_true rfl, Nat.le_of_ble_eq_true rfl⟩), ht _ (.tail _ gw_9_233), ht _ (.tail _ gp_95)⟩) h5 hout (by decide +kernel)) <|
    zall_c (zs_iret X (pc := 53) rfl (by decide +kernel)) <|
    zall_n
theorem met_X9_deliver {l : Launch} (hl : l.stackTraces = false) {T0 : ZTf} {T1 : ZTf} {T2 : ZTf} {T3 : ZTf} {T4 : ZTf} {T5 : ZTf} (h0 : zMet l yX9_areThere (Cond.code yX9_areThere cX9_areThere 3 (Option.some Jvm.ClassFile.FieldType.boolean) :: zG) rm_X9_areThere 0 0 T0) (h1 : zMet l yX9_isResult (Cond.code yX9_isResult cX9_isResult 1 (Option.some Jvm.ClassFile.FieldType.boolean) :: zG) rm_X9_isResult 0 0 T1) (h2 : zMet l yX9_worksAt (Cond.code yX9_worksAt cX9_worksAt 4 (Option.some Jvm.ClassFile.FieldType.boolean) :: zG) rm_X9_worksAt 0 0 T2) (h3 : zMet l yX9_passes3 (Cond.code yX9_passes3 cX9_passes3 4 (Option.some Jvm.ClassFile.FieldType.boolean) :: zG) rm_X9_passes3 0 0 T3) (h4 : zMet l yX9_remember (Cond.code yX9_remember cX9_remember 2 (Option.none : Option Jvm.ClassFile.FieldType) :: zG) rm_X9_remember 0 0 T4) (h5 : zMet l yX9_doDeliver (Cond.code yX9_doDeliver cX9_doDeliver 5 (Option.some Jvm.ClassFile.FieldType.int) :: zG) rm_X9_doDeliver 0 0 T5) {T : ZTf} (bd : zBd (cd_X9_deliver T0 T1 T2 T3 T4 T5) 5 0 0 T) : zMet l yX9_deliver (Cond.code yX9_deliver cX9_deliver 5 (Option.some Jvm.ClassFile.FieldType.int) :: zG) rm_X9_deliver 0 0 T := zMet_of hl (by decide +kernel) rfl rfl rfl rfl (hs_X9_deliver hl h0 h1 h2 h3 h4 h5) bd

abbrev rm_X9_pass : Room := { frames := 5, cells := 0, slots := 0, locals := 120 }
def cd_X9_pass (T0 : ZTf) (T1 : ZTf) (T2 : ZTf) (T3 : ZTf) : List (Nat × ZTr) := [(0, tAld 0 1), (1, tIld 1 2), (2, tI2l 3), (3, tC (zl 1) 4), (4, tC (zl 99) 7), (7, tCall0 3 T0 zAny 10), (10, tCall0 2 T1 (zRcv 12) 13), (13, tIf_ne 18 16), (16, tC (zi 0) 17), (17, tRi (fun _ => True)), (18, tAld 0 19), (19, tCall0 1 T2 (zRcv 12) 22), (22, tC (zi 0) 23), (23, tIst 2 24), (24, tC (zi 0) 25), (25, tIst 3 26), (26, tIld 3 27), (27, tIld 1 28), (28, tIc_ge 54 31), (31, tAld 0 32), (32, tGetR 12 1 35), (35, tC (zi 3) 36), (36, tDup2 37), (37, tIal 20 38), (38, tC (zi 1) 39), (39, tAdd 40), (40, tIas 20 (fun _ => True) 41), (41, tIld 2 42), (42, tAld 0 43), (43, tCall0 1 T3 (zRcv 12) 46), (46, tAdd 47), (47, tIst 2 48), (48, tInc 3 1 51), (51, tGo 26), (54, tIld 2 55), (55, tRi (fun _ => True))]
set_option maxRecDepth 100000 in
set_option maxHeartbeats 4000000 in
theorem hs_X9_pass {l : Launch} (hl : l.stackTraces = false) {T0 : ZTf} {T1 : ZTf} {T2 : ZTf} {T3 : ZTf} (h0 : zMet l yX9_in (Cond.code yX9_in cX9_in 6 (Option.some Jvm.ClassFile.FieldType.boolean) :: zG) rm_X9_in 0 0 T0) (h1 : zMet l yX9_passes (Cond.code yX9_passes cX9_passes 2 (Option.some Jvm.ClassFile.FieldType.boolean) :: zG) rm_X9_passes 0 0 T1) (h2 : zMet l yX9_remember (Cond.code yX9_remember cX9_remember 2 (Option.none : Option Jvm.ClassFile.FieldType) :: zG) rm_X9_remember 0 0 T2) (h3 : zMet l yX9_leaves (Cond.code yX9_leaves cX9_leaves 4 (Option.some Jvm.ClassFile.FieldType.int) :: zG) rm_X9_leaves 0 0 T3) (p : Program) (e : Env) (s : State) (m : MethodId) (args : Array Value) (below : List Frame) (meth : Method) (c : Code) (D : va_G) (A : Nat → Prop) (a0 : Nat → Nat) (M0 : ZM) (K : ZRet) (KX : ZEx) (X : zCtx p l rm_X9_pass s m args meth c cX9_pass RX9 (Cond.code yX9_pass cX9_pass 4 (Option.some Jvm.ClassFile.FieldType.int) :: zG) 4 (Option.some Jvm.ClassFile.FieldType.int) D A a0 M0 0 0) (hnm : meth.name = yX9_pass.name) (hout : ∀ x ∈ c.exceptionTable.toList, False) : ∀ q ∈ cd_X9_pass T0 T1 T2 T3, zSd p l e rm_X9_pass s m args below meth c 4 D A a0 M0 K KX 0 0 q.1 q.2 :=
    zall_c (zs_aload_n X (pc := 0) (q := 0) rfl (by decide +kernel)) <|
    zall_c (zs_iload_n X (pc := 1) (q := 1) rfl (by decide +kernel)) <|
    zall_c (zs_i2l X (pc := 2) (by decide +kernel)) <|
    zall_c (zs_lconst X (pc := 3) (q := 1) (by decide) (by decide +kernel) rfl) <|
    zall_c (zs_ldc2 X (pc := 4) (i := 386) (by decide) (by decide +kernel) (.tail _ gw_9_215)) <|
    zall_c (zs_callS0 X (pc := 7) (fun _ ht => ⟨(zCB ht gw_8_64 gw_1_13 gw_8_62 rfl rfl (by decide +kernel) ⟨Nat.le_of_ble_eq_true rfl, Nat.le_of_ble_eq_true rfl⟩), ht _ (.tail _ gw_8_63)⟩) h0 hout (by decide +kernel)) <|
    zall_c (zs_callV0 X (pc := 10) zc_X9 (fun _ ht => ⟨(zCB ht gw_8_49 gw_1_13 gw_8_46 rfl rfl (by decide +kernel) ⟨Nat.le_of_ble_eq_true rfl, Nat.le_of_ble_eq_true rfl⟩), ht _ (.tail _ gw_8_48), ht _ (.tail _ gp_28)⟩) h1 hout (by decide +kernel)) <|
    zall_c (zs_if_ne X (pc := 13) (off := 5) (by decide +kernel) (by decide)) <|
    zall_c (zs_iconst X (pc := 16) (by decide) (by decide +kernel)) <|
    zall_c (zs_iret X (pc := 17) rfl (by decide +kernel)) <|
    zall_c (zs_aload_n X (pc := 18) (q := 0) rfl (by decide +kernel)) <|
    zall_c (zs_callV0 X (pc := 19) zc_X9 (fun _ ht => ⟨(zCB ht gw_8_205 gw_1_13 gw_8_202 rfl rfl (by decide +kernel) ⟨Nat.le_of_ble_eq_true rfl, Nat.le_of_ble_eq_true rfl⟩), ht _ (.tail _ gw_8_204), ht _ (.tail _ gp_59)⟩) h2 hout (by decide +kernel)) <|
    zall_c (zs_iconst X (pc := 22) (by decide) (by decide +kernel)) <|
    zall_c (zs_istore_n X (pc := 23) (q := 2) rfl (by decide) (by decide +kernel)) <|
    zall_c (zs_iconst X (pc := 24) (by decide) (by decide +kernel)) <|
    zall_c (zs_istore_n X (pc := 25) (q := 3) rfl (by decide) (by decide +kernel)) <|
    zall_c (zs_iload_n X (pc := 26) (q := 3) rfl (by decide +kernel)) <|
    zall_c (zs_iload_n X (pc := 27) (q := 1) rfl (by decide +kernel)) <|
    zall_c (zs_icmp_ge X (pc := 28) (off := 26) (by decide +kernel) (by decide)) <|
    zall_c (zs_aload_n X (pc := 31) (q := 0) rfl (by decide +kernel)) <|
    zall_c (zs_getr X (pc := 32) zc_X9 (by decide) (zin ui_X9) (.tail _ gw_7_216) (by decide +kernel) (by decide +kernel)) <|
    zall_c (zs_iconst X (pc := 35) (by decide) (by decide +kernel)) <|
    zall_c (zs_dup2 X (pc := 36) (by decide +kernel)) <|
    zall_c (zs_iaload20 X (pc := 37) (by decide +kernel)) <|
    zall_c (zs_iconst X (pc := 38) (by decide) (by decide +kernel)) <|
    zall_c (zs_iadd X (pc := 39) (by decide +kernel)) <|
    zall_c (zs_iastore20 X (pc := 40) (by decide +kernel)) <|
    zall_c (zs_iload_n X (pc := 41) (q := 2) rfl (by decide +kernel)) <|
    zall_c (zs_aload_n X (pc := 42) (q := 0) rfl (by decide +kernel)) <|
    zall_c (zs_callV0 X (pc := 43) zc_X9 (fun _ ht => ⟨(zCB ht gw_10_79 gw_1_13 gw_10_76 rfl rfl (by decide +kernel) ⟨Nat.le_of_ble_eq_true rfl, Nat.le_of_ble_eq_true rfl⟩), ht _ (.tail _ gw_10_78), ht _ (.tail _ gp_105)⟩) h3 hout (by decide +kernel)) <|
    zall_c (zs_iadd X (pc := 46) (by decide +kernel)) <|
    zall_c (zs_istore_n X (pc := 47) (q := 2) rfl (by decide) (by decide +kernel)) <|
    zall_c (zs_iinc X (pc := 48) (by decide) (by decide +kernel)) <|
    zall_c (zs_goto X (pc := 51) (off := (-25)) (by decide +kernel) (by decide)) <|
    zall_c (zs_iload_n X (pc := 54) (q := 2) rfl (by decide +kernel)) <|
    zall_c (zs_iret X (pc := 55) rfl (by decide +kernel)) <|
    zall_n
theorem met_X9_pass {l : Launch} (hl : l.stackTraces = false) {T0 : ZTf} {T1 : ZTf} {T2 : ZTf} {T3 : ZTf} (h0 : zMet l yX9_in (Cond.code yX9_in cX9_in 6 (Option.some Jvm.ClassFile.FieldType.boolean) :: zG) rm_X9_in 0 0 T0) (h1 : zMet l yX9_passes (Cond.code yX9_passes cX9_passes 2 (Option.some Jvm.ClassFile.FieldType.boolean) :: zG) rm_X9_passes 0 0 T1) (h2 : zMet l yX9_remember (Cond.code yX9_remember cX9_remember 2 (Option.none : Option Jvm.ClassFile.FieldType) :: zG) rm_X9_remember 0 0 T2) (h3 : zMet l yX9_leaves (Cond.code yX9_leaves cX9_leaves 4 (Option.some Jvm.ClassFile.FieldType.int) :: zG) rm_X9_leaves 0 0 T3) {T : ZTf} (bd : zBd (cd_X9_pass T0 T1 T2 T3) 4 0 0 T) : zMet l yX9_pass (Cond.code yX9_pass cX9_pass 4 (Option.some Jvm.ClassFile.FieldType.int) :: zG) rm_X9_pass 0 0 T := zMet_of hl (by decide +kernel) rfl rfl rfl rfl (hs_X9_pass hl h0 h1 h2 h3) bd

abbrev rm_X9_audit : Room := { frames := 3, cells := 0, slots := 0, locals := 77 }
def cd_X9_audit (T0 : ZTf) (T1 : ZTf) (T2 : ZTf) (T3 : ZTf) (T4 : ZTf) (T5 : ZTf) (T6 : ZTf) (T7 : ZTf) (T8 : ZTf) (T9 : ZTf) (T10 : ZTf) (T11 : ZTf) : List (Nat × ZTr) := [(0, tAld 0 1), (1, tIld 1 2), (2, tCall0 2 T0 (zRcv 12) 5), (5, tIst 3 6), (6, tAld 0 7), (7, tIld 3 8), (8, tIld 2 9), (9, tCall0 1 T1 zAny 12), (12, tIld 3 13), (13, tIf_eq 38 16), (16, tAld 0 17), (17, tIld 1 18), (18, tC (zi 1) 19), (19, tCall0 3 T2 (zRcv 12) 22), (22, tC (zi 2) 23), (23, tIc_ne 38 26), (26, tAld 0 27), (27, tIld 1 28), (28, tCall0 2 T3 (zRcv 12) 31), (31, tIf_ne 38 34), (34, tC (zi 1) 35), (35, tGo 39), (38, tC (zi 0) 39), (39, tCall0 4 T4 (zRcv 12) 42), (42, tIf_ne 47 45), (45, tC (zi 0) 46), (46, tRi zPz), (47, tAld 0 48), (48, tCall0 1 T5 (zRcv 12) 51), (51, tC (zi 0) 52), (52, tIst 4 54), (54, tIld 4 56), (56, tAld 0 57), (57, tIld 1 58), (58, tCall0 2 T6 (zRcv 12) 61), (61, tIc_ge 104 64), (64, tAld 0 65), (65, tAld 0 66), (66, tIld 1 67), (67, tIld 4 69), (69, tC (zi 0) 70), (70, tCall0 4 T7 (zRcv 12) 73), (73, tAld 0 74), (74, tAld 0 75), (75, tIld 1 76), (76, tIld 4 78), (78, tC (zi 1) 79), (79, tCall0 4 T7 (zRcv 12) 82), (82, tIld 2 83), (83, tCall0 3 T8 (zRcv 12) 86), (86, tIf_eq 93 89), (89, tC (zi 2) 90), (90, tGo 95), (93, tC (zi (-4)) 95), (95, tCall0 3 T9 (zRcv 12) 98), (98, tInc 4 1 101), (101, tGo 54), (104, tAld 0 105), (105, tIld 1 106), (106, tC (zi 3) 107), (107, tIld 2 108), (108, tCall0 4 T10 (zRcv 12) 111), (111, tAld 0 112), (112, tAld 0 113), (113, tIld 1 114), (114, tC (zi 2) 115), (115, tCall0 3 T2 (zRcv 12) 118), (118, tIld 2 119), (119, tCall0 3 T8 (zRcv 12) 122), (122, tIst 4 124), (124, tIld 4 126), (126, tIf_ne 146 129), (129, tAld 0 130), (130, tAld 0 131), (131, tIld 1 132), (132, tC (zi 5) 133), (133, tCall0 3 T2 (zRcv 12) 136), (136, tCall0 2 T11 (zRcv 12) 139), (139, tAld 0 140), (140, tIld 1 141), (141, tC (zi 2) 142), (142, tIld 2 143), (143, tCall0 4 T10 (zRcv 12) 146), (146, tIld 4 148), (148, tRi zPz)]
set_option maxRecDepth 100000 in
set_option maxHeartbeats 4000000 in
theorem hs_X9_audit {l : Launch} (hl : l.stackTraces = false) {T0 : ZTf} {T1 : ZTf} {T2 : ZTf} {T3 : ZTf} {T4 : ZTf} {T5 : ZTf} {T6 : ZTf} {T7 : ZTf} {T8 : ZTf} {T9 : ZTf} {T10 : ZTf} {T11 : ZTf} (h0 : zMet l yX9_isRow (Cond.code yX9_isRow cX9_isRow 2 (Option.some Jvm.ClassFile.FieldType.boolean) :: zG) rm_X9_isRow 0 0 T0) (h1 : zMet l yX9_isResult (Cond.code yX9_isResult cX9_isResult 1 (Option.some Jvm.ClassFile.FieldType.boolean) :: zG) rm_X9_isResult 0 0 T1) (h2 : zMet l yX9_ofRow (Cond.code yX9_ofRow cX9_ofRow 3 (Option.some Jvm.ClassFile.FieldType.int) :: zG) rm_X9_ofRow 0 0 T2) (h3 : zMet l yX9_isAudited (Cond.code yX9_isAudited cX9_isAudited 2 (Option.some Jvm.ClassFile.FieldType.boolean) :: zG) rm_X9_isAudited 0 0 T3) (h4 : zMet l yX9_passes3 (Cond.code yX9_passes3 cX9_passes3 4 (Option.some Jvm.ClassFile.FieldType.boolean) :: zG) rm_X9_passes3 0 0 T4) (h5 : zMet l yX9_remember (Cond.code yX9_remember cX9_remember 2 (Option.none : Option Jvm.ClassFile.FieldType) :: zG) rm_X9_remember 0 0 T5) (h6 : zMet l yX9_manyAt (Cond.code yX9_manyAt cX9_manyAt 2 (Option.some Jvm.ClassFile.FieldType.int) :: zG) rm_X9_manyAt 0 0 T6) (h7 : zMet l yX9_ofTaking (Cond.code yX9_ofTaking cX9_ofTaking 4 (Option.some Jvm.ClassFile.FieldType.int) :: zG) rm_X9_ofTaking 0 0 T7) (h8 : zMet l yX9_doAgree (Cond.code yX9_doAgree cX9_doAgree 3 (Option.some Jvm.ClassFile.FieldType.boolean) :: zG) rm_X9_doAgree 0 0 T8) (h9 : zMet l yX9_trusts (Cond.code yX9_trusts cX9_trusts 4 (Option.none : Option Jvm.ClassFile.FieldType) :: zG) rm_X9_trusts 0 0 T9) (h10 : zMet l yX9_put (Cond.code yX9_put cX9_put 4 (Option.none : Option Jvm.ClassFile.FieldType) :: zG) rm_X9_put 0 0 T10) (h11 : zMet l yX9_strikesBoth (Cond.code yX9_strikesBoth cX9_strikesBoth 4 (Option.none : Option Jvm.ClassFile.FieldType) :: zG) rm_X9_strikesBoth 0 0 T11) (p : Program) (e : Env) (s : State) (m : MethodId) (args : Array Value) (below : List Frame) (meth : Method) (c : Code) (D : va_G) (A : Nat → Prop) (a0 : Nat → Nat) (M0 : ZM) (K : ZRet) (KX : ZEx) (X : zCtx p l rm_X9_audit s m args meth c cX9_audit RX9 (Cond.code yX9_audit cX9_audit 5 (Option.some Jvm.ClassFile.FieldType.boolean) :: zG) 5 (Option.some Jvm.ClassFile.FieldType.boolean) D A a0 M0 0 0) (hnm : meth.name = yX9_audit.name) (hout : ∀ x ∈ c.exceptionTable.toList, False) : ∀ q ∈ cd_X9_audit T0 T1 T2 T3 T4 T5 T6 T7 T8 T9 T10 T11, zSd p l e rm_X9_audit s m args below meth c 5 D A a0 M0 K KX 0 0 q.1 q.2 :=
    zall_c (zs_aload_n X (pc := 0) (q := 0) rfl (by decide +kernel)) <|
    zall_c (zs_iload_n X (pc := 1) (q := 1) rfl (by decide +kernel)) <|
    zall_c (zs_callV0 X (pc := 2) zc_X9 (fun _ ht => ⟨(zCB ht gw_9_48 gw_1_13 gw_9_45 rfl rfl (by decide +kernel) ⟨Nat.le_of_ble_eq_true rfl, Nat.le_of_ble_eq_true rfl⟩), ht _ (.tail _ gw_9_47), ht _ (.tail _ gp_73)⟩) h0 hout (by decide +kernel)) <|
    zall_c (zs_istore_n X (pc := 5) (q := 3) rfl (by decide) (by decide +kernel)) <|
    zall_c (zs_aload_n X (pc := 6) (q := 0) rfl (by decide +kernel)) <|
    zall_c (zs_iload_n X (pc := 7) (q := 3) rfl (by decide +kernel)) <|
    zall_c (zs_iload_n X (pc := 8) (q := 2) rfl (by decide +kernel)) <|
    zall_c (zs_callS0 X (pc := 9) (fun _ ht => ⟨(zCB ht gw_9_222 gw_1_13 gw_9_220 rfl rfl (by decide +kernel) ⟨Nat.le_of_ble_eq_true rfl, Nat.le_of_ble_eq_true rfl⟩), ht _ (.tail _ gw_9_221)⟩) h1 hout (by decide +kernel)) <|
    zall_c (zs_iload_n X (pc := 12) (q := 3) rfl (by decide +kernel)) <|
    zall_c (zs_if_eq X (pc := 13) (off := 25) (by decide +kernel) (by decide)) <|
    zall_c (zs_aload_n X (pc := 16) (q := 0) rfl (by decide +kernel)) <|
    zall_c (zs_iload_n X (pc := 17) (q := 1) rfl (by decide +kernel)) <|
    zall_c (zs_iconst X (pc := 18) (by decide) (by decide +kernel)) <|
    zall_c (zs_callV0 X (pc := 19) zc_X9 (fun _ ht => ⟨(zCB ht gw_8_239 gw_1_13 gw_8_236 rfl rfl (by decide +kernel) ⟨Nat.le_of_ble_eq_true rfl, Nat.le_of_ble_eq_true rfl⟩), ht _ (.tail _ gw_8_238), ht _ (.tail _ gp_63)⟩) h2 hout (by decide +kernel)) <|
    zall_c (zs_iconst X (pc := 22) (by decide) (by decide +kernel)) <|
    zall_c (zs_icmp_ne X (pc := 23) (off := 15) (by decide +kernel) (by decide)) <|
    zall_c (zs_aload_n X (pc := 26) (q := 0) rfl (by decide +kernel)) <|
    zall_c (zs_iload_n X (pc := 27) (q := 1) rfl (by decide +kernel)) <|
    zall_c (zs_callV0 X (pc := 28) zc_X9 (fun _ ht => ⟨(zCB ht gw_8_235 gw_1_13 gw_8_232 rfl rfl (by decide +kernel) ⟨Nat.le_of_ble_eq_true rfl, Nat.le_of_ble_eq_true rfl⟩), ht _ (.tail _ gw_8_234), ht _ (.tail _ gp_62)⟩) h3 hout (by decide +kernel)) <|
    zall_c (zs_if_ne X (pc := 31) (off := 7) (by decide +kernel) (by decide)) <|
    zall_c (zs_iconst X (pc := 34) (by decide) (by decide +kernel)) <|
    zall_c (zs_goto X (pc := 35) (off := 4) (by decide +kernel) (by decide)) <|
    zall_c (zs_iconst X (pc := 38) (by decide) (by decide +kernel)) <|
    zall_c (zs_callV0 X (pc := 39) zc_X9 (fun _ ht => ⟨(zCB ht gw_8_53 gw_1_13 gw_8_50 rfl rfl (by decide +kernel) ⟨Nat.le_of_ble_eq_true rfl, Nat.le_of_ble_eq_true rfl⟩), ht _ (.tail _ gw_8_52), ht _ (.tail _ gp_29)⟩) h4 hout (by decide +kernel)) <|
    zall_c (zs_if_ne X (pc := 42) (off := 5) (by decide +kernel) (by decide)) <|
    zall_c (zs_iconst X (pc := 45) (by decide) (by decide +kernel)) <|
    zall_c (zs_zret X (pc := 46) rfl zR_bool (by decide +kernel)) <|
    zall_c (zs_aload_n X (pc := 47) (q := 0) rfl (by decide +kernel)) <|
    zall_c (zs_callV0 X (pc := 48) zc_X9 (fun _ ht => ⟨(zCB ht gw_8_205 gw_1_13 gw_8_202 rfl rfl (by decide +kernel) ⟨Nat.le_of_ble_eq_true rfl, Nat.le_of_ble_eq_true rfl⟩), ht _ (.tail _ gw_8_204), ht _ (.tail _ gp_59)⟩) h5 hout (by decide +kernel)) <|
    zall_c (zs_iconst X (pc := 51) (by decide) (by decide +kernel)) <|
    zall_c (zs_istore X (pc := 52) (by decide) (by decide +kernel)) <|
    zall_c (zs_iload X (pc := 54) (by decide +kernel)) <|
    zall_c (zs_aload_n X (pc := 56) (q := 0) rfl (by decide +kernel)) <|
    zall_c (zs_iload_n X (pc := 57) (q := 1) rfl (by decide +kernel)) <|
    zall_c (zs_callV0 X (pc := 58) zc_X9 (fun _ ht => ⟨(zCB ht gw_9_32 gw_1_13 gw_9_29 rfl rfl (by decide +kernel) ⟨Nat.le_of_ble_eq_true rfl, Nat.le_of_ble_eq_true rfl⟩), ht _ (.tail _ gw_9_31), ht _ (.tail _ gp_70)⟩) h6 hout (by decide +kernel)) <|
    zall_c (zs_icmp_ge X (pc := 61) (off := 43) (by decide +kernel) (by decide)) <|
    zall_c (zs_aload_n X (pc := 64) (q := 0) rfl (by decide +kernel)) <|
    zall_c (zs_aload_n X (pc := 65) (q := 0) rfl (by decide +kernel)) <|
    zall_c (zs_iload_n X (pc := 66) (q := 1) rfl (by decide +kernel)) <|
    zall_c (zs_iload X (pc := 67) (by decide +kernel)) <|
    zall_c (zs_iconst X (pc := 69) (by decide) (by decide +kernel)) <|
    zall_c (zs_callV0 X (pc := 70) zc_X9 (fun _ ht => ⟨(zCB ht gw_9_36 gw_1_13 gw_9_33 rfl rfl (by decide +kernel) ⟨Nat.le_of_ble_eq_true rfl, Nat.le_of_ble_eq_true rfl⟩), ht _ (.tail _ gw_9_35), ht _ (.tail _ gp_71)⟩) h7 hout (by decide +kernel)) <|
    zall_c (zs_aload_n X (pc := 73) (q := 0) rfl (by decide +kernel)) <|
    zall_c (zs_aload_n X (pc := 74) (q := 0) rfl (by decide +kernel)) <|
    zall_c (zs_iload_n X (pc := 75) (q := 1) rfl (by decide +kernel)) <|
    zall_c (zs_iload X (pc := 76) (by decide +kernel)) <|
    zall_c (zs_iconst X (pc := 78) (by decide) (by decide +kernel)) <|
    zall_c (zs_callV0 X (pc := 79) zc_X9 (fun _ ht => ⟨(zCB ht gw_9_36 gw_1_13 gw_9_33 rfl rfl (by decide +kernel) ⟨Nat.le_of_ble_eq_true rfl, Nat.le_of_ble_eq_true rfl⟩), ht _ (.tail _ gw_9_35), ht _ (.tail _ gp_71)⟩) h7 hout (by decide +kernel)) <|
    zall_c (zs_iload_n X (pc := 82) (q := 2) rfl (by decide +kernel)) <|
    zall_c (zs_callV0 X (pc := 83) zc_X9 (fun _ ht => ⟨(zCB ht gw_9_169 gw_1_13 gw_9_166 rfl rfl (by decide +kernel) ⟨Nat.le_of_ble_eq_true rfl, Nat.le_of_ble_eq_true rfl⟩), ht _ (.tail _ gw_9_168), ht _ (.tail _ gp_90)⟩) h8 hout (by decide +kernel)) <|
    zall_c (zs_if_eq X (pc := 86) (off := 7) (by decide +kernel) (by decide)) <|
    zall_c (zs_iconst X (pc := 89) (by decide) (by decide +kernel)) <|
    zall_c (zs_goto X (pc := 90) (off := 5) (by decide +kernel) (by decide)) <|
    zall_c (zs_bipush X (pc := 93) (by decide) (by decide +kernel) (by decide +kernel)) <|
    zall_c (zs_callV0 X (pc := 95) zc_X9 (fun _ ht => ⟨(zCB ht gw_10_14 gw_1_13 gw_10_11 rfl rfl (by decide +kernel) ⟨Nat.le_of_ble_eq_true rfl, Nat.le_of_ble_eq_true rfl⟩), ht _ (.tail _ gw_10_13), ht _ (.tail _ gp_100)⟩) h9 hout (by decide +kernel)) <|
    zall_c (zs_iinc X (pc := 98) (by decide) (by decide +kernel)) <|
    zall_c (zs_goto X (pc := 101) (off := (-47)) (by decide +kernel) (by decide)) <|
    zall_c (zs_aload_n X (pc := 104) (q := 0) rfl (by decide +kernel)) <|
    zall_c (zs_iload_n X (pc := 105) (q := 1) rfl (by decide +kernel)) <|
    zall_c (zs_iconst X (pc := 106) (by decide) (by decide +kernel)) <|
    zall_c (zs_iload_n X (pc := 107) (q := 2) rfl (by decide +kernel)) <|
    zall_c (zs_callV0 X (pc := 108) zc_X9 (fun _ ht => ⟨(zCB ht gw_8_181 gw_1_13 gw_8_178 rfl rfl (by decide +kernel) ⟨Nat.le_of_ble_eq_true rfl, Nat.le_of_ble_eq_true rfl⟩), ht _ (.tail _ gw_8_180), ht _ (.tail _ gp_53)⟩) h10 hout (by decide +kernel)) <|
    zall_c (zs_aload_n X (pc := 111) (q := 0) rfl (by decide +kernel)) <|
    zall_c (zs_aload_n X (pc := 112) (q := 0) rfl (by decide +kernel)) <|
    zall_c (zs_iload_n X (pc := 113) (q := 1) rfl (by decide +kernel)) <|
    zall_c (zs_iconst X (pc := 114) (by decide) (by decide +kernel)) <|
    zall_c (zs_callV0 X (pc := 115) zc_X9 (fun _ ht => ⟨(zCB ht gw_8_239 gw_1_13 gw_8_236 rfl rfl (by decide +kernel) ⟨Nat.le_of_ble_eq_true rfl, Nat.le_of_ble_eq_true rfl⟩), ht _ (.tail _ gw_8_238), ht _ (.tail _ gp_63)⟩) h2 hout (by decide +kernel)) <|
    zall_c (zs_iload_n X (pc := 118) (q := 2) rfl (by decide +kernel)) <|
    zall_c (zs_callV0 X (pc := 119) zc_X9 (fun _ ht => ⟨(zCB ht gw_9_169 gw_1_13 gw_9_166 rfl rfl (by decide +kernel) ⟨Nat.le_of_ble_eq_true rfl, Nat.le_of_ble_eq_true rfl⟩), ht _ (.tail _ gw_9_168), ht _ (.tail _ gp_90)⟩) h8 hout (by decide +kernel)) <|
    zall_c (zs_istore X (pc := 122) (by decide) (by decide +kernel)) <|
    zall_c (zs_iload X (pc := 124) (by decide +kernel)) <|
    zall_c (zs_if_ne X (pc := 126) (off := 20) (by decide +kernel) (by decide)) <|
    zall_c (zs_aload_n X (pc := 129) (q := 0) rfl (by decide +kernel)) <|
    zall_c (zs_aload_n X (pc := 130) (q := 0) rfl (by decide +kernel)) <|
    zall_c (zs_iload_n X (pc := 131) (q := 1) rfl (by decide +kernel)) <|
    zall_c (zs_iconst X (pc := 132) (by decide) (by decide +kernel)) <|
    zall_c (zs_callV0 X (pc := 133) zc_X9 (fun _ ht => ⟨(zCB ht gw_8_239 gw_1_13 gw_8_236 rfl rfl (by decide +kernel) ⟨Nat.le_of_ble_eq_true rfl, Nat.le_of_ble_eq_true rfl⟩), ht _ (.tail _ gw_8_238), ht _ (.tail _ gp_63)⟩) h2 hout (by decide +kernel)) <|
    zall_c (zs_callV0 X (pc := 136) zc_X9 (fun _ ht => ⟨(zCB ht gw_10_91 gw_1_13 gw_10_88 rfl rfl (by decide +kernel) ⟨Nat.le_of_ble_eq_true rfl, Nat.le_of_ble_eq_true rfl⟩), ht _ (.tail _ gw_10_90), ht _ (.tail _ gp_107)⟩) h11 hout (by decide +kernel)) <|
    zall_c (zs_aload_n X (pc := 139) (q := 0) rfl (by decide +kernel)) <|
    zall_c (zs_iload_n X (pc := 140) (q := 1) rfl (by decide +kernel)) <|
    zall_c (zs_iconst X (pc := 141) (by decide) (by decide +kernel)) <|
    zall_c (zs_iload_n X (pc := 142) (q := 2) rfl (by decide +kernel)) <|
    zall_c (zs_callV0 X (pc := 143) zc_X9 (fun _ ht => ⟨(zCB ht gw_8_181 gw_1_13 gw_8_178 rfl rfl (by decide +kernel) ⟨Nat.le_of_ble_eq_true rfl, Nat.le_of_ble_eq_true rfl⟩), ht _ (.tail _ gw_8_180), ht _ (.tail _ gp_53)⟩) h10 hout (by decide +kernel)) <|
    zall_c (zs_iload X (pc := 146) (by decide +kernel)) <|
    zall_c (zs_zret X (pc := 148) rfl zR_bool (by decide +kernel)) <|
    zall_n
theorem met_X9_audit {l : Launch} (hl : l.stackTraces = false) {T0 : ZTf} {T1 : ZTf} {T2 : ZTf} {T3 : ZTf} {T4 : ZTf} {T5 : ZTf} {T6 : ZTf} {T7 : ZTf} {T8 : ZTf} {T9 : ZTf} {T10 : ZTf} {T11 : ZTf} (h0 : zMet l yX9_isRow (Cond.code yX9_isRow cX9_isRow 2 (Option.some Jvm.ClassFile.FieldType.boolean) :: zG) rm_X9_isRow 0 0 T0) (h1 : zMet l yX9_isResult (Cond.code yX9_isResult cX9_isResult 1 (Option.some Jvm.ClassFile.FieldType.boolean) :: zG) rm_X9_isResult 0 0 T1) (h2 : zMet l yX9_ofRow (Cond.code yX9_ofRow cX9_ofRow 3 (Option.some Jvm.ClassFile.FieldType.int) :: zG) rm_X9_ofRow 0 0 T2) (h3 : zMet l yX9_isAudited (Cond.code yX9_isAudited cX9_isAudited 2 (Option.some Jvm.ClassFile.FieldType.boolean) :: zG) rm_X9_isAudited 0 0 T3) (h4 : zMet l yX9_passes3 (Cond.code yX9_passes3 cX9_passes3 4 (Option.some Jvm.ClassFile.FieldType.boolean) :: zG) rm_X9_passes3 0 0 T4) (h5 : zMet l yX9_remember (Cond.code yX9_remember cX9_remember 2 (Option.none : Option Jvm.ClassFile.FieldType) :: zG) rm_X9_remember 0 0 T5) (h6 : zMet l yX9_manyAt (Cond.code yX9_manyAt cX9_manyAt 2 (Option.some Jvm.ClassFile.FieldType.int) :: zG) rm_X9_manyAt 0 0 T6) (h7 : zMet l yX9_ofTaking (Cond.code yX9_ofTaking cX9_ofTaking 4 (Option.some Jvm.ClassFile.FieldType.int) :: zG) rm_X9_ofTaking 0 0 T7) (h8 : zMet l yX9_doAgree (Cond.code yX9_doAgree cX9_doAgree 3 (Option.some Jvm.ClassFile.FieldType.boolean) :: zG) rm_X9_doAgree 0 0 T8) (h9 : zMet l yX9_trusts (Cond.code yX9_trusts cX9_trusts 4 (Option.none : Option Jvm.ClassFile.FieldType) :: zG) rm_X9_trusts 0 0 T9) (h10 : zMet l yX9_put (Cond.code yX9_put cX9_put 4 (Option.none : Option Jvm.ClassFile.FieldType) :: zG) rm_X9_put 0 0 T10) (h11 : zMet l yX9_strikesBoth (Cond.code yX9_strikesBoth cX9_strikesBoth 4 (Option.none : Option Jvm.ClassFile.FieldType) :: zG) rm_X9_strikesBoth 0 0 T11) {T : ZTf} (bd : zBd (cd_X9_audit T0 T1 T2 T3 T4 T5 T6 T7 T8 T9 T10 T11) 5 0 0 T) : zMet l yX9_audit (Cond.code yX9_audit cX9_audit 5 (Option.some Jvm.ClassFile.FieldType.boolean) :: zG) rm_X9_audit 0 0 T := zMet_of hl (by decide +kernel) rfl rfl rfl rfl (hs_X9_audit hl h0 h1 h2 h3 h4 h5 h6 h7 h8 h9 h10 h11) bd

abbrev rm_X9_setAside : Room := { frames := 4, cells := 0, slots := 0, locals := 97 }
def cd_X9_setAside (T0 : ZTf) (T1 : ZTf) (T2 : ZTf) (T3 : ZTf) (T4 : ZTf) (T5 : ZTf) (T6 : ZTf) (T7 : ZTf) : List (Nat × ZTr) := [(0, tAld 0 1), (1, tIld 1 2), (2, tCall0 2 T0 (zRcv 12) 5), (5, tIst 2 6), (6, tAld 0 7), (7, tIld 2 8), (8, tIld 2 9), (9, tIf_eq 26 12), (12, tAld 0 13), (13, tIld 1 14), (14, tC (zi 1) 15), (15, tCall0 3 T1 (zRcv 12) 18), (18, tC (zi 2) 19), (19, tIc_ge 26 22), (22, tC (zi 1) 23), (23, tGo 27), (26, tC (zi 0) 27), (27, tCall0 3 T2 (zRcv 12) 30), (30, tIf_ne 35 33), (33, tC (zi 0) 34), (34, tRi (fun _ => True)), (35, tAld 0 36), (36, tCall0 1 T3 (zRcv 12) 39), (39, tAld 0 40), (40, tIld 1 41), (41, tC (zi 1) 42), (42, tC (zi 3) 43), (43, tCall0 4 T4 (zRcv 12) 46), (46, tC (zi 0) 47), (47, tIst 3 48), (48, tAld 0 49), (49, tIld 1 50), (50, tCall0 2 T5 (zRcv 12) 53), (53, tC (zi 1) 54), (54, tSub 55), (55, tIst 4 57), (57, tIld 4 59), (59, tIf_lt 91 62), (62, tAld 0 63), (63, tIld 1 64), (64, tIld 4 66), (66, tCall0 3 T6 (zRcv 12) 69), (69, tIf_ne 75 72), (72, tGo 85), (75, tAld 0 76), (76, tIld 1 77), (77, tIld 4 79), (79, tCall0 3 T7 (zRcv 12) 82), (82, tInc 3 1 85), (85, tInc 4 (-1) 88), (88, tGo 57), (91, tIld 3 92), (92, tRi (fun _ => True))]
set_option maxRecDepth 100000 in
set_option maxHeartbeats 4000000 in
theorem hs_X9_setAside {l : Launch} (hl : l.stackTraces = false) {T0 : ZTf} {T1 : ZTf} {T2 : ZTf} {T3 : ZTf} {T4 : ZTf} {T5 : ZTf} {T6 : ZTf} {T7 : ZTf} (h0 : zMet l yX9_isRow (Cond.code yX9_isRow cX9_isRow 2 (Option.some Jvm.ClassFile.FieldType.boolean) :: zG) rm_X9_isRow 0 0 T0) (h1 : zMet l yX9_ofRow (Cond.code yX9_ofRow cX9_ofRow 3 (Option.some Jvm.ClassFile.FieldType.int) :: zG) rm_X9_ofRow 0 0 T1) (h2 : zMet l yX9_passes2 (Cond.code yX9_passes2 cX9_passes2 3 (Option.some Jvm.ClassFile.FieldType.boolean) :: zG) rm_X9_passes2 0 0 T2) (h3 : zMet l yX9_remember (Cond.code yX9_remember cX9_remember 2 (Option.none : Option Jvm.ClassFile.FieldType) :: zG) rm_X9_remember 0 0 T3) (h4 : zMet l yX9_put (Cond.code yX9_put cX9_put 4 (Option.none : Option Jvm.ClassFile.FieldType) :: zG) rm_X9_put 0 0 T4) (h5 : zMet l yX9_manyAt (Cond.code yX9_manyAt cX9_manyAt 2 (Option.some Jvm.ClassFile.FieldType.int) :: zG) rm_X9_manyAt 0 0 T5) (h6 : zMet l yX9_isInWork (Cond.code yX9_isInWork cX9_isInWork 3 (Option.some Jvm.ClassFile.FieldType.boolean) :: zG) rm_X9_isInWork 0 0 T6) (h7 : zMet l yX9_dropTaking (Cond.code yX9_dropTaking cX9_dropTaking 4 (Option.none : Option Jvm.ClassFile.FieldType) :: zG) rm_X9_dropTaking 0 0 T7) (p : Program) (e : Env) (s : State) (m : MethodId) (args : Array Value) (below : List Frame) (meth : Method) (c : Code) (D : va_G) (A : Nat → Prop) (a0 : Nat → Nat) (M0 : ZM) (K : ZRet) (KX : ZEx) (X : zCtx p l rm_X9_setAside s m args meth c cX9_setAside RX9 (Cond.code yX9_setAside cX9_setAside 5 (Option.some Jvm.ClassFile.FieldType.int) :: zG) 5 (Option.some Jvm.ClassFile.FieldType.int) D A a0 M0 0 0) (hnm : meth.name = yX9_setAside.name) (hout : ∀ x ∈ c.exceptionTable.toList, False) : ∀ q ∈ cd_X9_setAside T0 T1 T2 T3 T4 T5 T6 T7, zSd p l e rm_X9_setAside s m args below meth c 5 D A a0 M0 K KX 0 0 q.1 q.2 :=
    zall_c (zs_aload_n X (pc := 0) (q := 0) rfl (by decide +kernel)) <|
    zall_c (zs_iload_n X (pc := 1) (q := 1) rfl (by decide +kernel)) <|
    zall_c (zs_callV0 X (pc := 2) zc_X9 (fun _ ht => ⟨(zCB ht gw_9_48 gw_1_13 gw_9_45 rfl rfl (by decide +kernel) ⟨Nat.le_of_ble_eq_true rfl, Nat.le_of_ble_eq_true rfl⟩), ht _ (.tail _ gw_9_47), ht _ (.tail _ gp_73)⟩) h0 hout (by decide +kernel)) <|
    zall_c (zs_istore_n X (pc := 5) (q := 2) rfl (by decide) (by decide +kernel)) <|
    zall_c (zs_aload_n X (pc := 6) (q := 0) rfl (by decide +kernel)) <|
    zall_c (zs_iload_n X (pc := 7) (q := 2) rfl (by decide +kernel)) <|
    zall_c (zs_iload_n X (pc := 8) (q := 2) rfl (by decide +kernel)) <|
    zall_c (zs_if_eq X (pc := 9) (off := 17) (by decide +kernel) (by decide)) <|
    zall_c (zs_aload_n X (pc := 12) (q := 0) rfl (by decide +kernel)) <|
    zall_c (zs_iload_n X (pc := 13) (q := 1) rfl (by decide +kernel)) <|
    zall_c (zs_iconst X (pc := 14) (by decide) (by decide +kernel)) <|
    zall_c (zs_callV0 X (pc := 15) zc_X9 (fun _ ht => ⟨(zCB ht gw_8_239 gw_1_13 gw_8_236 rfl rfl (by decide +kernel) ⟨Nat.le_of_ble_eq_true rfl, Nat.le_of_ble_eq_true rfl⟩), ht _ (.tail _ gw_8_238), ht _ (.tail _ gp_63)⟩) h1 hout (by decide +kernel)) <|
    zall_c (zs_iconst X (pc := 18) (by decide) (by decide +kernel)) <|
    zall_c (zs_icmp_ge X (pc := 19) (off := 7) (by decide +kernel) (by decide)) <|
    zall_c (zs_iconst X (pc := 22) (by decide) (by decide +kernel)) <|
    zall_c (zs_goto X (pc := 23) (off := 4) (by decide +kernel) (by decide)) <|
    zall_c (zs_iconst X (pc := 26) (by decide) (by decide +kernel)) <|
    zall_c (zs_callV0 X (pc := 27) zc_X9 (fun _ ht => ⟨(zCB ht gw_9_16 gw_1_13 gw_9_13 rfl rfl (by decide +kernel) ⟨Nat.le_of_ble_eq_true rfl, Nat.le_of_ble_eq_true rfl⟩), ht _ (.tail _ gw_9_15), ht _ (.tail _ gp_66)⟩) h2 hout (by decide +kernel)) <|
    zall_c (zs_if_ne X (pc := 30) (off := 5) (by decide +kernel) (by decide)) <|
    zall_c (zs_iconst X (pc := 33) (by decide) (by decide +kernel)) <|
    zall_c (zs_iret X (pc := 34) rfl (by decide +kernel)) <|
    zall_c (zs_aload_n X (pc := 35) (q := 0) rfl (by decide +kernel)) <|
    zall_c (zs_callV0 X (pc := 36) zc_X9 (fun _ ht => ⟨(zCB ht gw_8_205 gw_1_13 gw_8_202 rfl rfl (by decide +kernel) ⟨Nat.le_of_ble_eq_true rfl, Nat.le_of_ble_eq_true rfl⟩), ht _ (.tail _ gw_8_204), ht _ (.tail _ gp_59)⟩) h3 hout (by decide +kernel)) <|
    zall_c (zs_aload_n X (pc := 39) (q := 0) rfl (by decide +kernel)) <|
    zall_c (zs_iload_n X (pc := 40) (q := 1) rfl (by decide +kernel)) <|
    zall_c (zs_iconst X (pc := 41) (by decide) (by decide +kernel)) <|
    zall_c (zs_iconst X (pc := 42) (by decide) (by decide +kernel)) <|
    zall_c (zs_callV0 X (pc := 43) zc_X9 (fun _ ht => ⟨(zCB ht gw_8_181 gw_1_13 gw_8_178 rfl rfl (by decide +kernel) ⟨Nat.le_of_ble_eq_true rfl, Nat.le_of_ble_eq_true rfl⟩), ht _ (.tail _ gw_8_180), ht _ (.tail _ gp_53)⟩) h4 hout (by decide +kernel)) <|
    zall_c (zs_iconst X (pc := 46) (by decide) (by decide +kernel)) <|
    zall_c (zs_istore_n X (pc := 47) (q := 3) rfl (by decide) (by decide +kernel)) <|
    zall_c (zs_aload_n X (pc := 48) (q := 0) rfl (by decide +kernel)) <|
    zall_c (zs_iload_n X (pc := 49) (q := 1) rfl (by decide +kernel)) <|
    zall_c (zs_callV0 X (pc := 50) zc_X9 (fun _ ht => ⟨(zCB ht gw_9_32 gw_1_13 gw_9_29 rfl rfl (by decide +kernel) ⟨Nat.le_of_ble_eq_true rfl, Nat.le_of_ble_eq_true rfl⟩), ht _ (.tail _ gw_9_31), ht _ (.tail _ gp_70)⟩) h5 hout (by decide +kernel)) <|
    zall_c (zs_iconst X (pc := 53) (by decide) (by decide +kernel)) <|
    zall_c (zs_isub X (pc := 54) (by decide +kernel)) <|
    zall_c (zs_istore X (pc := 55) (by decide) (by decide +kernel)) <|
    zall_c (zs_iload X (pc := 57) (by decide +kernel)) <|
    zall_c (zs_if_lt X (pc := 59) (off := 32) (by decide +kernel) (by decide)) <|
    zall_c (zs_aload_n X (pc := 62) (q := 0) rfl (by decide +kernel)) <|
    zall_c (zs_iload_n X (pc := 63) (q := 1) rfl (by decide +kernel)) <|
    zall_c (zs_iload X (pc := 64) (by decide +kernel)) <|
    zall_c (zs_callV0 X (pc := 66) zc_X9 (fun _ ht => ⟨(zCB ht gw_9_40 gw_1_13 gw_9_37 rfl rfl (by decide +kernel) ⟨Nat.le_of_ble_eq_true rfl, Nat.le_of_ble_eq_true rfl⟩), ht _ (.tail _ gw_9_39), ht _ (.tail _ gp_72)⟩) h6 hout (by decide +kernel)) <|
    zall_c (zs_if_ne X (pc := 69) (off := 6) (by decide +kernel) (by decide)) <|
    zall_c (zs_goto X (pc := 72) (off := 13) (by decide +kernel) (by decide)) <|
    zall_c (zs_aload_n X (pc := 75) (q := 0) rfl (by decide +kernel)) <|
    zall_c (zs_iload_n X (pc := 76) (q := 1) rfl (by decide +kernel)) <|
    zall_c (zs_iload X (pc := 77) (by decide +kernel)) <|
    zall_c (zs_callV0 X (pc := 79) zc_X9 (fun _ ht => ⟨(zCB ht gw_10_83 gw_1_13 gw_10_80 rfl rfl (by decide +kernel) ⟨Nat.le_of_ble_eq_true rfl, Nat.le_of_ble_eq_true rfl⟩), ht _ (.tail _ gw_10_82), ht _ (.tail _ gp_106)⟩) h7 hout (by decide +kernel)) <|
    zall_c (zs_iinc X (pc := 82) (by decide) (by decide +kernel)) <|
    zall_c (zs_iinc X (pc := 85) (by decide) (by decide +kernel)) <|
    zall_c (zs_goto X (pc := 88) (off := (-31)) (by decide +kernel) (by decide)) <|
    zall_c (zs_iload_n X (pc := 91) (q := 3) rfl (by decide +kernel)) <|
    zall_c (zs_iret X (pc := 92) rfl (by decide +kernel)) <|
    zall_n
theorem met_X9_setAside {l : Launch} (hl : l.stackTraces = false) {T0 : ZTf} {T1 : ZTf} {T2 : ZTf} {T3 : ZTf} {T4 : ZTf} {T5 : ZTf} {T6 : ZTf} {T7 : ZTf} (h0 : zMet l yX9_isRow (Cond.code yX9_isRow cX9_isRow 2 (Option.some Jvm.ClassFile.FieldType.boolean) :: zG) rm_X9_isRow 0 0 T0) (h1 : zMet l yX9_ofRow (Cond.code yX9_ofRow cX9_ofRow 3 (Option.some Jvm.ClassFile.FieldType.int) :: zG) rm_X9_ofRow 0 0 T1) (h2 : zMet l yX9_passes2 (Cond.code yX9_passes2 cX9_passes2 3 (Option.some Jvm.ClassFile.FieldType.boolean) :: zG) rm_X9_passes2 0 0 T2) (h3 : zMet l yX9_remember (Cond.code yX9_remember cX9_remember 2 (Option.none : Option Jvm.ClassFile.FieldType) :: zG) rm_X9_remember 0 0 T3) (h4 : zMet l yX9_put (Cond.code yX9_put cX9_put 4 (Option.none : Option Jvm.ClassFile.FieldType) :: zG) rm_X9_put 0 0 T4) (h5 : zMet l yX9_manyAt (Cond.code yX9_manyAt cX9_manyAt 2 (Option.some Jvm.ClassFile.FieldType.int) :: zG) rm_X9_manyAt 0 0 T5) (h6 : zMet l yX9_isInWork (Cond.code yX9_isInWork cX9_isInWork 3 (Option.some Jvm.ClassFile.FieldType.boolean) :: zG) rm_X9_isInWork 0 0 T6) (h7 : zMet l yX9_dropTaking (Cond.code yX9_dropTaking cX9_dropTaking 4 (Option.none : Option Jvm.ClassFile.FieldType) :: zG) rm_X9_dropTaking 0 0 T7) {T : ZTf} (bd : zBd (cd_X9_setAside T0 T1 T2 T3 T4 T5 T6 T7) 5 0 0 T) : zMet l yX9_setAside (Cond.code yX9_setAside cX9_setAside 5 (Option.some Jvm.ClassFile.FieldType.int) :: zG) rm_X9_setAside 0 0 T := zMet_of hl (by decide +kernel) rfl rfl rfl rfl (hs_X9_setAside hl h0 h1 h2 h3 h4 h5 h6 h7) bd

abbrev rm_X9_pardon : Room := { frames := 3, cells := 0, slots := 0, locals := 76 }
def cd_X9_pardon (T0 : ZTf) (T1 : ZTf) (T2 : ZTf) (T3 : ZTf) (T4 : ZTf) (T5 : ZTf) (T6 : ZTf) : List (Nat × ZTr) := [(0, tAld 0 1), (1, tIld 1 2), (2, tCall0 2 T0 (zRcv 12) 5), (5, tIst 2 6), (6, tAld 0 7), (7, tIld 2 8), (8, tIld 2 9), (9, tIf_eq 24 12), (12, tAld 0 13), (13, tIld 1 14), (14, tCall0 2 T1 (zRcv 12) 17), (17, tIf_eq 24 20), (20, tC (zi 1) 21), (21, tGo 25), (24, tC (zi 0) 25), (25, tCall0 3 T2 (zRcv 12) 28), (28, tIf_ne 33 31), (31, tC (zi 0) 32), (32, tRi (fun _ => True)), (33, tAld 0 34), (34, tCall0 1 T3 (zRcv 12) 37), (37, tAld 0 38), (38, tIld 1 39), (39, tC (zi 3) 40), (40, tCall0 3 T4 (zRcv 12) 43), (43, tIst 3 44), (44, tAld 0 45), (45, tIld 1 46), (46, tC (zi 3) 47), (47, tAld 0 48), (48, tC (zi 2) 49), (49, tCall0 2 T5 (zRcv 12) 52), (52, tIld 3 53), (53, tSub 54), (54, tCall0 4 T6 (zRcv 12) 57), (57, tIld 3 58), (58, tRi (fun _ => True))]
set_option maxRecDepth 100000 in
set_option maxHeartbeats 4000000 in
theorem hs_X9_pardon {l : Launch} (hl : l.stackTraces = false) {T0 : ZTf} {T1 : ZTf} {T2 : ZTf} {T3 : ZTf} {T4 : ZTf} {T5 : ZTf} {T6 : ZTf} (h0 : zMet l yX9_isWorker (Cond.code yX9_isWorker cX9_isWorker 2 (Option.some Jvm.ClassFile.FieldType.boolean) :: zG) rm_X9_isWorker 0 0 T0) (h1 : zMet l yX9_isSuspended (Cond.code yX9_isSuspended cX9_isSuspended 2 (Option.some Jvm.ClassFile.FieldType.boolean) :: zG) rm_X9_isSuspended 0 0 T1) (h2 : zMet l yX9_passes2 (Cond.code yX9_passes2 cX9_passes2 3 (Option.some Jvm.ClassFile.FieldType.boolean) :: zG) rm_X9_passes2 0 0 T2) (h3 : zMet l yX9_remember (Cond.code yX9_remember cX9_remember 2 (Option.none : Option Jvm.ClassFile.FieldType) :: zG) rm_X9_remember 0 0 T3) (h4 : zMet l yX9_ofWorker (Cond.code yX9_ofWorker cX9_ofWorker 3 (Option.some Jvm.ClassFile.FieldType.int) :: zG) rm_X9_ofWorker 0 0 T4) (h5 : zMet l yX9_table (Cond.code yX9_table cX9_table 2 (Option.some Jvm.ClassFile.FieldType.int) :: zG) rm_X9_table 0 0 T5) (h6 : zMet l yX9_add (Cond.code yX9_add cX9_add 4 (Option.none : Option Jvm.ClassFile.FieldType) :: zG) rm_X9_add 0 0 T6) (p : Program) (e : Env) (s : State) (m : MethodId) (args : Array Value) (below : List Frame) (meth : Method) (c : Code) (D : va_G) (A : Nat → Prop) (a0 : Nat → Nat) (M0 : ZM) (K : ZRet) (KX : ZEx) (X : zCtx p l rm_X9_pardon s m args meth c cX9_pardon RX9 (Cond.code yX9_pardon cX9_pardon 4 (Option.some Jvm.ClassFile.FieldType.int) :: zG) 4 (Option.some Jvm.ClassFile.FieldType.int) D A a0 M0 0 0) (hnm : meth.name = yX9_pardon.name) (hout : ∀ x ∈ c.exceptionTable.toList, False) : ∀ q ∈ cd_X9_pardon T0 T1 T2 T3 T4 T5 T6, zSd p l e rm_X9_pardon s m args below meth c 4 D A a0 M0 K KX 0 0 q.1 q.2 :=
    zall_c (zs_aload_n X (pc := 0) (q := 0) rfl (by decide +kernel)) <|
    zall_c (zs_iload_n X (pc := 1) (q := 1) rfl (by decide +kernel)) <|
    zall_c (zs_callV0 X (pc := 2) zc_X9 (fun _ ht => ⟨(zCB ht gw_9_11 gw_1_13 gw_9_8 rfl rfl (by decide +kernel) ⟨Nat.le_of_ble_eq_true rfl, Nat.le_of_ble_eq_true rfl⟩), ht _ (.tail _ gw_9_10), ht _ (.tail _ gp_65)⟩) h0 hout (by decide +kernel)) <|
    zall_c (zs_istore_n X (pc := 5) (q := 2) rfl (by decide) (by decide +kernel)) <|
    zall_c (zs_aload_n X (pc := 6) (q := 0) rfl (by decide +kernel)) <|
    zall_c (zs_iload_n X (pc := 7) (q := 2) rfl (by decide +kernel)) <|
    zall_c (zs_iload_n X (pc := 8) (q := 2) rfl (by decide +kernel)) <|
    zall_c (zs_if_eq X (pc := 9) (off := 15) (by decide +kernel) (by decide)) <|
    zall_c (zs_aload_n X (pc := 12) (q := 0) rfl (by decide +kernel)) <|
    zall_c (zs_iload_n X (pc := 13) (q := 1) rfl (by decide +kernel)) <|
    zall_c (zs_callV0 X (pc := 14) zc_X9 (fun _ ht => ⟨(zCB ht gw_9_78 gw_1_13 gw_9_75 rfl rfl (by decide +kernel) ⟨Nat.le_of_ble_eq_true rfl, Nat.le_of_ble_eq_true rfl⟩), ht _ (.tail _ gw_9_77), ht _ (.tail _ gp_77)⟩) h1 hout (by decide +kernel)) <|
    zall_c (zs_if_eq X (pc := 17) (off := 7) (by decide +kernel) (by decide)) <|
    zall_c (zs_iconst X (pc := 20) (by decide) (by decide +kernel)) <|
    zall_c (zs_goto X (pc := 21) (off := 4) (by decide +kernel) (by decide)) <|
    zall_c (zs_iconst X (pc := 24) (by decide) (by decide +kernel)) <|
    zall_c (zs_callV0 X (pc := 25) zc_X9 (fun _ ht => ⟨(zCB ht gw_9_16 gw_1_13 gw_9_13 rfl rfl (by decide +kernel) ⟨Nat.le_of_ble_eq_true rfl, Nat.le_of_ble_eq_true rfl⟩), ht _ (.tail _ gw_9_15), ht _ (.tail _ gp_66)⟩) h2 hout (by decide +kernel)) <|
    zall_c (zs_if_ne X (pc := 28) (off := 5) (by decide +kernel) (by decide)) <|
    zall_c (zs_iconst X (pc := 31) (by decide) (by decide +kernel)) <|
    zall_c (zs_iret X (pc := 32) rfl (by decide +kernel)) <|
    zall_c (zs_aload_n X (pc := 33) (q := 0) rfl (by decide +kernel)) <|
    zall_c (zs_callV0 X (pc := 34) zc_X9 (fun _ ht => ⟨(zCB ht gw_8_205 gw_1_13 gw_8_202 rfl rfl (by decide +kernel) ⟨Nat.le_of_ble_eq_true rfl, Nat.le_of_ble_eq_true rfl⟩), ht _ (.tail _ gw_8_204), ht _ (.tail _ gp_59)⟩) h3 hout (by decide +kernel)) <|
    zall_c (zs_aload_n X (pc := 37) (q := 0) rfl (by decide +kernel)) <|
    zall_c (zs_iload_n X (pc := 38) (q := 1) rfl (by decide +kernel)) <|
    zall_c (zs_iconst X (pc := 39) (by decide) (by decide +kernel)) <|
    zall_c (zs_callV0 X (pc := 40) zc_X9 (fun _ ht => ⟨(zCB ht gw_8_161 gw_1_13 gw_8_158 rfl rfl (by decide +kernel) ⟨Nat.le_of_ble_eq_true rfl, Nat.le_of_ble_eq_true rfl⟩), ht _ (.tail _ gw_8_160), ht _ (.tail _ gp_48)⟩) h4 hout (by decide +kernel)) <|
    zall_c (zs_istore_n X (pc := 43) (q := 3) rfl (by decide) (by decide +kernel)) <|
    zall_c (zs_aload_n X (pc := 44) (q := 0) rfl (by decide +kernel)) <|
    zall_c (zs_iload_n X (pc := 45) (q := 1) rfl (by decide +kernel)) <|
    zall_c (zs_iconst X (pc := 46) (by decide) (by decide +kernel)) <|
    zall_c (zs_aload_n X (pc := 47) (q := 0) rfl (by decide +kernel)) <|
    zall_c (zs_iconst X (pc := 48) (by decide) (by decide +kernel)) <|
    zall_c (zs_callV0 X (pc := 49) zc_X9 (fun _ ht => ⟨(zCB ht gw_8_227 gw_1_13 gw_8_224 rfl rfl (by decide +kernel) ⟨Nat.le_of_ble_eq_true rfl, Nat.le_of_ble_eq_true rfl⟩), ht _ (.tail _ gw_8_226), ht _ (.tail _ gp_60)⟩) h5 hout (by decide +kernel)) <|
    zall_c (zs_iload_n X (pc := 52) (q := 3) rfl (by decide +kernel)) <|
    zall_c (zs_isub X (pc := 53) (by decide +kernel)) <|
    zall_c (zs_callV0 X (pc := 54) zc_X9 (fun _ ht => ⟨(zCB ht gw_8_165 gw_1_13 gw_8_162 rfl rfl (by decide +kernel) ⟨Nat.le_of_ble_eq_true rfl, Nat.le_of_ble_eq_true rfl⟩), ht _ (.tail _ gw_8_164), ht _ (.tail _ gp_49)⟩) h6 hout (by decide +kernel)) <|
    zall_c (zs_iload_n X (pc := 57) (q := 3) rfl (by decide +kernel)) <|
    zall_c (zs_iret X (pc := 58) rfl (by decide +kernel)) <|
    zall_n
theorem met_X9_pardon {l : Launch} (hl : l.stackTraces = false) {T0 : ZTf} {T1 : ZTf} {T2 : ZTf} {T3 : ZTf} {T4 : ZTf} {T5 : ZTf} {T6 : ZTf} (h0 : zMet l yX9_isWorker (Cond.code yX9_isWorker cX9_isWorker 2 (Option.some Jvm.ClassFile.FieldType.boolean) :: zG) rm_X9_isWorker 0 0 T0) (h1 : zMet l yX9_isSuspended (Cond.code yX9_isSuspended cX9_isSuspended 2 (Option.some Jvm.ClassFile.FieldType.boolean) :: zG) rm_X9_isSuspended 0 0 T1) (h2 : zMet l yX9_passes2 (Cond.code yX9_passes2 cX9_passes2 3 (Option.some Jvm.ClassFile.FieldType.boolean) :: zG) rm_X9_passes2 0 0 T2) (h3 : zMet l yX9_remember (Cond.code yX9_remember cX9_remember 2 (Option.none : Option Jvm.ClassFile.FieldType) :: zG) rm_X9_remember 0 0 T3) (h4 : zMet l yX9_ofWorker (Cond.code yX9_ofWorker cX9_ofWorker 3 (Option.some Jvm.ClassFile.FieldType.int) :: zG) rm_X9_ofWorker 0 0 T4) (h5 : zMet l yX9_table (Cond.code yX9_table cX9_table 2 (Option.some Jvm.ClassFile.FieldType.int) :: zG) rm_X9_table 0 0 T5) (h6 : zMet l yX9_add (Cond.code yX9_add cX9_add 4 (Option.none : Option Jvm.ClassFile.FieldType) :: zG) rm_X9_add 0 0 T6) {T : ZTf} (bd : zBd (cd_X9_pardon T0 T1 T2 T3 T4 T5 T6) 4 0 0 T) : zMet l yX9_pardon (Cond.code yX9_pardon cX9_pardon 4 (Option.some Jvm.ClassFile.FieldType.int) :: zG) rm_X9_pardon 0 0 T := zMet_of hl (by decide +kernel) rfl rfl rfl rfl (hs_X9_pardon hl h0 h1 h2 h3 h4 h5 h6) bd

abbrev rm_X9_bar : Room := { frames := 4, cells := 0, slots := 0, locals := 98 }
def cd_X9_bar (T0 : ZTf) (T1 : ZTf) (T2 : ZTf) (T3 : ZTf) (T4 : ZTf) : List (Nat × ZTr) := [(0, tAld 0 1), (1, tAld 0 2), (2, tIld 1 3), (3, tIld 2 4), (4, tCall0 3 T0 (zRcv 12) 7), (7, tIld 1 8), (8, tIld 2 9), (9, tIc_eq 16 12), (12, tC (zi 1) 13), (13, tGo 17), (16, tC (zi 0) 17), (17, tCall0 3 T1 (zRcv 12) 20), (20, tIf_ne 25 23), (23, tC (zi 0) 24), (24, tRi zPz), (25, tAld 0 26), (26, tCall0 1 T2 (zRcv 12) 29), (29, tAld 0 30), (30, tIld 1 31), (31, tIld 2 32), (32, tCall0 3 T3 (zRcv 12) 35), (35, tIst 4 37), (37, tAld 0 38), (38, tC (zi 60) 40), (40, tIld 1 41), (41, tIld 2 42), (42, tIld 3 43), (43, tIf_eq 50 46), (46, tC (zi 1) 47), (47, tGo 51), (50, tC (zi 0) 51), (51, tCall0 5 T4 (zRcv 12) 54), (54, tAld 0 55), (55, tC (zi 96) 57), (57, tIld 1 58), (58, tIld 2 59), (59, tC (zi 0) 60), (60, tCall0 5 T4 (zRcv 12) 63), (63, tIld 4 65), (65, tRi zPz)]
set_option maxRecDepth 100000 in
set_option maxHeartbeats 4000000 in
theorem hs_X9_bar {l : Launch} (hl : l.stackTraces = false) {T0 : ZTf} {T1 : ZTf} {T2 : ZTf} {T3 : ZTf} {T4 : ZTf} (h0 : zMet l yX9_areWorkers (Cond.code yX9_areWorkers cX9_areWorkers 3 (Option.some Jvm.ClassFile.FieldType.boolean) :: zG) rm_X9_areWorkers 0 0 T0) (h1 : zMet l yX9_passes2 (Cond.code yX9_passes2 cX9_passes2 3 (Option.some Jvm.ClassFile.FieldType.boolean) :: zG) rm_X9_passes2 0 0 T1) (h2 : zMet l yX9_remember (Cond.code yX9_remember cX9_remember 2 (Option.none : Option Jvm.ClassFile.FieldType) :: zG) rm_X9_remember 0 0 T2) (h3 : zMet l yX9_mayNotMeet (Cond.code yX9_mayNotMeet cX9_mayNotMeet 3 (Option.some Jvm.ClassFile.FieldType.boolean) :: zG) rm_X9_mayNotMeet 0 0 T3) (h4 : zMet l yX9_putBoth (Cond.code yX9_putBoth cX9_putBoth 5 (Option.none : Option Jvm.ClassFile.FieldType) :: zG) rm_X9_putBoth 0 0 T4) (p : Program) (e : Env) (s : State) (m : MethodId) (args : Array Value) (below : List Frame) (meth : Method) (c : Code) (D : va_G) (A : Nat → Prop) (a0 : Nat → Nat) (M0 : ZM) (K : ZRet) (KX : ZEx) (X : zCtx p l rm_X9_bar s m args meth c cX9_bar RX9 (Cond.code yX9_bar cX9_bar 5 (Option.some Jvm.ClassFile.FieldType.boolean) :: zG) 5 (Option.some Jvm.ClassFile.FieldType.boolean) D A a0 M0 0 0) (hnm : meth.name = yX9_bar.name) (hout : ∀ x ∈ c.exceptionTable.toList, False) : ∀ q ∈ cd_X9_bar T0 T1 T2 T3 T4, zSd p l e rm_X9_bar s m args below meth c 5 D A a0 M0 K KX 0 0 q.1 q.2 :=
    zall_c (zs_aload_n X (pc := 0) (q := 0) rfl (by decide +kernel)) <|
    zall_c (zs_aload_n X (pc := 1) (q := 0) rfl (by decide +kernel)) <|
    zall_c (zs_iload_n X (pc := 2) (q := 1) rfl (by decide +kernel)) <|
    zall_c (zs_iload_n X (pc := 3) (q := 2) rfl (by decide +kernel)) <|
    zall_c (zs_callV0 X (pc := 4) zc_X9 (fun _ ht => ⟨(zCB ht gw_9_149 gw_1_13 gw_9_146 rfl rfl (by decide +kernel) ⟨Nat.le_of_ble_eq_true rfl, Nat.le_of_ble_eq_true rfl⟩), ht _ (.tail _ gw_9_148), ht _ (.tail _ gp_87)⟩) h0 hout (by decide +kernel)) <|
    zall_c (zs_iload_n X (pc := 7) (q := 1) rfl (by decide +kernel)) <|
    zall_c (zs_iload_n X (pc := 8) (q := 2) rfl (by decide +kernel)) <|
    zall_c (zs_icmp_eq X (pc := 9) (off := 7) (by decide +kernel) (by decide)) <|
    zall_c (zs_iconst X (pc := 12) (by decide) (by decide +kernel)) <|
    zall_c (zs_goto X (pc := 13) (off := 4) (by decide +kernel) (by decide)) <|
    zall_c (zs_iconst X (pc := 16) (by decide) (by decide +kernel)) <|
    zall_c (zs_callV0 X (pc := 17) zc_X9 (fun _ ht => ⟨(zCB ht gw_9_16 gw_1_13 gw_9_13 rfl rfl (by decide +kernel) ⟨Nat.le_of_ble_eq_true rfl, Nat.le_of_ble_eq_true rfl⟩), ht _ (.tail _ gw_9_15), ht _ (.tail _ gp_66)⟩) h1 hout (by decide +kernel)) <|
    zall_c (zs_if_ne X (pc := 20) (off := 5) (by decide +kernel) (by decide)) <|
    zall_c (zs_iconst X (pc := 23) (by decide) (by decide +kernel)) <|
    zall_c (zs_zret X (pc := 24) rfl zR_bool (by decide +kernel)) <|
    zall_c (zs_aload_n X (pc := 25) (q := 0) rfl (by decide +kernel)) <|
    zall_c (zs_callV0 X (pc := 26) zc_X9 (fun _ ht => ⟨(zCB ht gw_8_205 gw_1_13 gw_8_202 rfl rfl (by decide +kernel) ⟨Nat.le_of_ble_eq_true rfl, Nat.le_of_ble_eq_true rfl⟩), ht _ (.tail _ gw_8_204), ht _ (.tail _ gp_59)⟩) h2 hout (by decide +kernel)) <|
    zall_c (zs_aload_n X (pc := 29) (q := 0) rfl (by decide +kernel)) <|
    zall_c (zs_iload_n X (pc := 30) (q := 1) rfl (by decide +kernel)) <|
    zall_c (zs_iload_n X (pc := 31) (q := 2) rfl (by decide +kernel)) <|
    zall_c (zs_callV0 X (pc := 32) zc_X9 (fun _ ht => ⟨(zCB ht gw_8_193 gw_1_13 gw_8_190 rfl rfl (by decide +kernel) ⟨Nat.le_of_ble_eq_true rfl, Nat.le_of_ble_eq_true rfl⟩), ht _ (.tail _ gw_8_192), ht _ (.tail _ gp_56)⟩) h3 hout (by decide +kernel)) <|
    zall_c (zs_istore X (pc := 35) (by decide) (by decide +kernel)) <|
    zall_c (zs_aload_n X (pc := 37) (q := 0) rfl (by decide +kernel)) <|
    zall_c (zs_bipush X (pc := 38) (by decide) (by decide +kernel) (by decide +kernel)) <|
    zall_c (zs_iload_n X (pc := 40) (q := 1) rfl (by decide +kernel)) <|
    zall_c (zs_iload_n X (pc := 41) (q := 2) rfl (by decide +kernel)) <|
    zall_c (zs_iload_n X (pc := 42) (q := 3) rfl (by decide +kernel)) <|
    zall_c (zs_if_eq X (pc := 43) (off := 7) (by decide +kernel) (by decide)) <|
    zall_c (zs_iconst X (pc := 46) (by decide) (by decide +kernel)) <|
    zall_c (zs_goto X (pc := 47) (off := 4) (by decide +kernel) (by decide)) <|
    zall_c (zs_iconst X (pc := 50) (by decide) (by decide +kernel)) <|
    zall_c (zs_callV0 X (pc := 51) zc_X9 (fun _ ht => ⟨(zCB ht gw_8_201 gw_1_13 gw_8_198 rfl rfl (by decide +kernel) ⟨Nat.le_of_ble_eq_true rfl, Nat.le_of_ble_eq_true rfl⟩), ht _ (.tail _ gw_8_200), ht _ (.tail _ gp_58)⟩) h4 hout (by decide +kernel)) <|
    zall_c (zs_aload_n X (pc := 54) (q := 0) rfl (by decide +kernel)) <|
    zall_c (zs_bipush X (pc := 55) (by decide) (by decide +kernel) (by decide +kernel)) <|
    zall_c (zs_iload_n X (pc := 57) (q := 1) rfl (by decide +kernel)) <|
    zall_c (zs_iload_n X (pc := 58) (q := 2) rfl (by decide +kernel)) <|
    zall_c (zs_iconst X (pc := 59) (by decide) (by decide +kernel)) <|
    zall_c (zs_callV0 X (pc := 60) zc_X9 (fun _ ht => ⟨(zCB ht gw_8_201 gw_1_13 gw_8_198 rfl rfl (by decide +kernel) ⟨Nat.le_of_ble_eq_true rfl, Nat.le_of_ble_eq_true rfl⟩), ht _ (.tail _ gw_8_200), ht _ (.tail _ gp_58)⟩) h4 hout (by decide +kernel)) <|
    zall_c (zs_iload X (pc := 63) (by decide +kernel)) <|
    zall_c (zs_zret X (pc := 65) rfl zR_bool (by decide +kernel)) <|
    zall_n
theorem met_X9_bar {l : Launch} (hl : l.stackTraces = false) {T0 : ZTf} {T1 : ZTf} {T2 : ZTf} {T3 : ZTf} {T4 : ZTf} (h0 : zMet l yX9_areWorkers (Cond.code yX9_areWorkers cX9_areWorkers 3 (Option.some Jvm.ClassFile.FieldType.boolean) :: zG) rm_X9_areWorkers 0 0 T0) (h1 : zMet l yX9_passes2 (Cond.code yX9_passes2 cX9_passes2 3 (Option.some Jvm.ClassFile.FieldType.boolean) :: zG) rm_X9_passes2 0 0 T1) (h2 : zMet l yX9_remember (Cond.code yX9_remember cX9_remember 2 (Option.none : Option Jvm.ClassFile.FieldType) :: zG) rm_X9_remember 0 0 T2) (h3 : zMet l yX9_mayNotMeet (Cond.code yX9_mayNotMeet cX9_mayNotMeet 3 (Option.some Jvm.ClassFile.FieldType.boolean) :: zG) rm_X9_mayNotMeet 0 0 T3) (h4 : zMet l yX9_putBoth (Cond.code yX9_putBoth cX9_putBoth 5 (Option.none : Option Jvm.ClassFile.FieldType) :: zG) rm_X9_putBoth 0 0 T4) {T : ZTf} (bd : zBd (cd_X9_bar T0 T1 T2 T3 T4) 5 0 0 T) : zMet l yX9_bar (Cond.code yX9_bar cX9_bar 5 (Option.some Jvm.ClassFile.FieldType.boolean) :: zG) rm_X9_bar 0 0 T := zMet_of hl (by decide +kernel) rfl rfl rfl rfl (hs_X9_bar hl h0 h1 h2 h3 h4) bd

abbrev rm_X9_addRows : Room := { frames := 3, cells := 0, slots := 0, locals := 78 }
def cd_X9_addRows (T0 : ZTf) (T1 : ZTf) (T2 : ZTf) (T3 : ZTf) (T4 : ZTf) : List (Nat × ZTr) := [(0, tIld 1 1), (1, tI2l 2), (2, tC (zl 1) 3), (3, tC (zl 24) 6), (6, tCall0 3 T0 zAny 9), (9, tIf_eq 28 12), (12, tIld 2 13), (13, tI2l 14), (14, tC (zl 1) 15), (15, tC (zl 9) 18), (18, tCall0 3 T0 zAny 21), (21, tIf_eq 28 24), (24, tC (zi 1) 25), (25, tGo 29), (28, tC (zi 0) 29), (29, tIst 3 30), (30, tAld 0 31), (31, tIld 3 32), (32, tIld 3 33), (33, tIf_eq 51 36), (36, tAld 0 37), (37, tCall0 1 T1 (zRcv 12) 40), (40, tIld 1 41), (41, tAdd 42), (42, tC (zi 24) 44), (44, tIc_gt 51 47), (47, tC (zi 1) 48), (48, tGo 52), (51, tC (zi 0) 52), (52, tCall0 3 T2 (zRcv 12) 55), (55, tIf_ne 60 58), (58, tC (zi 0) 59), (59, tRi (fun _ => True)), (60, tAld 0 61), (61, tCall0 1 T3 (zRcv 12) 64), (64, tAld 0 65), (65, tCall0 1 T1 (zRcv 12) 68), (68, tIst 4 70), (70, tAld 0 71), (71, tIld 1 72), (72, tIld 2 73), (73, tCall0 3 T4 (zRcv 12) 76), (76, tIld 4 78), (78, tRi (fun _ => True))]
set_option maxRecDepth 100000 in
set_option maxHeartbeats 4000000 in
theorem hs_X9_addRows {l : Launch} (hl : l.stackTraces = false) {T0 : ZTf} {T1 : ZTf} {T2 : ZTf} {T3 : ZTf} {T4 : ZTf} (h0 : zMet l yX9_in (Cond.code yX9_in cX9_in 6 (Option.some Jvm.ClassFile.FieldType.boolean) :: zG) rm_X9_in 0 0 T0) (h1 : zMet l yX9_rows (Cond.code yX9_rows cX9_rows 1 (Option.some Jvm.ClassFile.FieldType.int) :: zG) rm_X9_rows 0 0 T1) (h2 : zMet l yX9_passes2 (Cond.code yX9_passes2 cX9_passes2 3 (Option.some Jvm.ClassFile.FieldType.boolean) :: zG) rm_X9_passes2 0 0 T2) (h3 : zMet l yX9_remember (Cond.code yX9_remember cX9_remember 2 (Option.none : Option Jvm.ClassFile.FieldType) :: zG) rm_X9_remember 0 0 T3) (h4 : zMet l yX9_moreRows (Cond.code yX9_moreRows cX9_moreRows 6 (Option.none : Option Jvm.ClassFile.FieldType) :: zG) rm_X9_moreRows 0 0 T4) (p : Program) (e : Env) (s : State) (m : MethodId) (args : Array Value) (below : List Frame) (meth : Method) (c : Code) (D : va_G) (A : Nat → Prop) (a0 : Nat → Nat) (M0 : ZM) (K : ZRet) (KX : ZEx) (X : zCtx p l rm_X9_addRows s m args meth c cX9_addRows RX9 (Cond.code yX9_addRows cX9_addRows 5 (Option.some Jvm.ClassFile.FieldType.int) :: zG) 5 (Option.some Jvm.ClassFile.FieldType.int) D A a0 M0 0 0) (hnm : meth.name = yX9_addRows.name) (hout : ∀ x ∈ c.exceptionTable.toList, False) : ∀ q ∈ cd_X9_addRows T0 T1 T2 T3 T4, zSd p l e rm_X9_addRows s m args below meth c 5 D A a0 M0 K KX 0 0 q.1 q.2 :=
    zall_c (zs_iload_n X (pc := 0) (q := 1) rfl (by decide +kernel)) <|
    zall_c (zs_i2l X (pc := 1) (by decide +kernel)) <|
    zall_c (zs_lconst X (pc := 2) (q := 1) (by decide) (by decide +kernel) rfl) <|
    zall_c (zs_ldc2 X (pc := 3) (i := 405) (by decide) (by decide +kernel) (.tail _ gw_10_108)) <|
    zall_c (zs_callS0 X (pc := 6) (fun _ ht => ⟨(zCB ht gw_8_64 gw_1_13 gw_8_62 rfl rfl (by decide +kernel) ⟨Nat.le_of_ble_eq_true rfl, Nat.le_of_ble_eq_true rfl⟩), ht _ (.tail _ gw_8_63)⟩) h0 hout (by decide +kernel)) <|
    zall_c (zs_if_eq X (pc := 9) (off := 19) (by decide +kernel) (by decide)) <|
    zall_c (zs_iload_n X (pc := 12) (q := 2) rfl (by decide +kernel)) <|
    zall_c (zs_i2l X (pc := 13) (by decide +kernel)) <|
    zall_c (zs_lconst X (pc := 14) (q := 1) (by decide) (by decide +kernel) rfl) <|
    zall_c (zs_ldc2 X (pc := 15) (i := 394) (by decide) (by decide +kernel) (.tail _ gw_10_43)) <|
    zall_c (zs_callS0 X (pc := 18) (fun _ ht => ⟨(zCB ht gw_8_64 gw_1_13 gw_8_62 rfl rfl (by decide +kernel) ⟨Nat.le_of_ble_eq_true rfl, Nat.le_of_ble_eq_true rfl⟩), ht _ (.tail _ gw_8_63)⟩) h0 hout (by decide +kernel)) <|
    zall_c (zs_if_eq X (pc := 21) (off := 7) (by decide +kernel) (by decide)) <|
    zall_c (zs_iconst X (pc := 24) (by decide) (by decide +kernel)) <|
    zall_c (zs_goto X (pc := 25) (off := 4) (by decide +kernel) (by decide)) <|
    zall_c (zs_iconst X (pc := 28) (by decide) (by decide +kernel)) <|
    zall_c (zs_istore_n X (pc := 29) (q := 3) rfl (by decide) (by decide +kernel)) <|
    zall_c (zs_aload_n X (pc := 30) (q := 0) rfl (by decide +kernel)) <|
    zall_c (zs_iload_n X (pc := 31) (q := 3) rfl (by decide +kernel)) <|
    zall_c (zs_iload_n X (pc := 32) (q := 3) rfl (by decide +kernel)) <|
    zall_c (zs_if_eq X (pc := 33) (off := 18) (by decide +kernel) (by decide)) <|
    zall_c (zs_aload_n X (pc := 36) (q := 0) rfl (by decide +kernel)) <|
    zall_c (zs_callV0 X (pc := 37) zc_X9 (fun _ ht => ⟨(zCB ht gw_8_173 gw_1_13 gw_8_170 rfl rfl (by decide +kernel) ⟨Nat.le_of_ble_eq_true rfl, Nat.le_of_ble_eq_true rfl⟩), ht _ (.tail _ gw_8_172), ht _ (.tail _ gp_51)⟩) h1 hout (by decide +kernel)) <|
    zall_c (zs_iload_n X (pc := 40) (q := 1) rfl (by decide +kernel)) <|
    zall_c (zs_iadd X (pc := 41) (by decide +kernel)) <|
    zall_c (zs_bipush X (pc := 42) (by decide) (by decide +kernel) (by decide +kernel)) <|
    zall_c (zs_icmp_gt X (pc := 44) (off := 7) (by decide +kernel) (by decide)) <|
    zall_c (zs_iconst X (pc := 47) (by decide) (by decide +kernel)) <|
    zall_c (zs_goto X (pc := 48) (off := 4) (by decide +kernel) (by decide)) <|
    zall_c (zs_iconst X (pc := 51) (by decide) (by decide +kernel)) <|
    zall_c (zs_callV0 X (pc := 52) zc_X9 (fun _ ht => ⟨(zCB ht gw_9_16 gw_1_13 gw_9_13 rfl rfl (by decide +kernel) ⟨Nat.le_of_ble_eq_true rfl, Nat.le_of_ble_eq_true rfl⟩), ht _ (.tail _ gw_9_15), ht _ (.tail _ gp_66)⟩) h2 hout (by decide +kernel)) <|
    zall_c (zs_if_ne X (pc := 55) (off := 5) (by decide +kernel) (by decide)) <|
    zall_c (zs_iconst X (pc := 58) (by decide) (by decide +kernel)) <|
    zall_c (zs_iret X (pc := 59) rfl (by decide +kernel)) <|
    zall_c (zs_aload_n X (pc := 60) (q := 0) rfl (by decide +kernel)) <|
    zall_c (zs_callV0 X (pc := 61) zc_X9 (fun _ ht => ⟨(zCB ht gw_8_205 gw_1_13 gw_8_202 rfl rfl (by decide +kernel) ⟨Nat.le_of_ble_eq_true rfl, Nat.le_of_ble_eq_true rfl⟩), ht _ (.tail _ gw_8_204), ht _ (.tail _ gp_59)⟩) h3 hout (by decide +kernel)) <|
    zall_c (zs_aload_n X (pc := 64) (q := 0) rfl (by decide +kernel)) <|
    zall_c (zs_callV0 X (pc := 65) zc_X9 (fun _ ht => ⟨(zCB ht gw_8_173 gw_1_13 gw_8_170 rfl rfl (by decide +kernel) ⟨Nat.le_of_ble_eq_true rfl, Nat.le_of_ble_eq_true rfl⟩), ht _ (.tail _ gw_8_172), ht _ (.tail _ gp_51)⟩) h1 hout (by decide +kernel)) <|
    zall_c (zs_istore X (pc := 68) (by decide) (by decide +kernel)) <|
    zall_c (zs_aload_n X (pc := 70) (q := 0) rfl (by decide +kernel)) <|
    zall_c (zs_iload_n X (pc := 71) (q := 1) rfl (by decide +kernel)) <|
    zall_c (zs_iload_n X (pc := 72) (q := 2) rfl (by decide +kernel)) <|
    zall_c (zs_callV0 X (pc := 73) zc_X9 (fun _ ht => ⟨(zCB ht gw_8_177 gw_1_13 gw_8_174 rfl rfl (by decide +kernel) ⟨Nat.le_of_ble_eq_true rfl, Nat.le_of_ble_eq_true rfl⟩), ht _ (.tail _ gw_8_176), ht _ (.tail _ gp_52)⟩) h4 hout (by decide +kernel)) <|
    zall_c (zs_iload X (pc := 76) (by decide +kernel)) <|
    zall_c (zs_iret X (pc := 78) rfl (by decide +kernel)) <|
    zall_n
theorem met_X9_addRows {l : Launch} (hl : l.stackTraces = false) {T0 : ZTf} {T1 : ZTf} {T2 : ZTf} {T3 : ZTf} {T4 : ZTf} (h0 : zMet l yX9_in (Cond.code yX9_in cX9_in 6 (Option.some Jvm.ClassFile.FieldType.boolean) :: zG) rm_X9_in 0 0 T0) (h1 : zMet l yX9_rows (Cond.code yX9_rows cX9_rows 1 (Option.some Jvm.ClassFile.FieldType.int) :: zG) rm_X9_rows 0 0 T1) (h2 : zMet l yX9_passes2 (Cond.code yX9_passes2 cX9_passes2 3 (Option.some Jvm.ClassFile.FieldType.boolean) :: zG) rm_X9_passes2 0 0 T2) (h3 : zMet l yX9_remember (Cond.code yX9_remember cX9_remember 2 (Option.none : Option Jvm.ClassFile.FieldType) :: zG) rm_X9_remember 0 0 T3) (h4 : zMet l yX9_moreRows (Cond.code yX9_moreRows cX9_moreRows 6 (Option.none : Option Jvm.ClassFile.FieldType) :: zG) rm_X9_moreRows 0 0 T4) {T : ZTf} (bd : zBd (cd_X9_addRows T0 T1 T2 T3 T4) 5 0 0 T) : zMet l yX9_addRows (Cond.code yX9_addRows cX9_addRows 5 (Option.some Jvm.ClassFile.FieldType.int) :: zG) rm_X9_addRows 0 0 T := zMet_of hl (by decide +kernel) rfl rfl rfl rfl (hs_X9_addRows hl h0 h1 h2 h3 h4) bd

abbrev rm_X9_setTable : Room := { frames := 3, cells := 0, slots := 0, locals := 74 }
def cd_X9_setTable (T0 : ZTf) (T1 : ZTf) (T2 : ZTf) (T3 : ZTf) (T4 : ZTf) (T5 : ZTf) : List (Nat × ZTr) := [(0, tAld 0 1), (1, tIld 1 2), (2, tI2l 3), (3, tC (zl 0) 4), (4, tC (zl 2) 7), (7, tCall0 3 T0 zAny 10), (10, tIf_eq 35 13), (13, tIld 2 14), (14, tI2l 15), (15, tIld 1 16), (16, tCall0 1 T1 zAny 19), (19, tI2l 20), (20, tIld 1 21), (21, tCall0 1 T2 zAny 24), (24, tI2l 25), (25, tCall0 3 T0 zAny 28), (28, tIf_eq 35 31), (31, tC (zi 1) 32), (32, tGo 36), (35, tC (zi 0) 36), (36, tCall0 2 T3 (zRcv 12) 39), (39, tIf_ne 44 42), (42, tC (zi 0) 43), (43, tRi (fun _ => True)), (44, tAld 0 45), (45, tCall0 1 T4 (zRcv 12) 48), (48, tAld 0 49), (49, tIld 1 50), (50, tCall0 2 T5 (zRcv 12) 53), (53, tIst 3 54), (54, tAld 0 55), (55, tGetR 12 1 58), (58, tC (zi 0) 59), (59, tIld 1 60), (60, tAdd 61), (61, tIld 2 62), (62, tIas 20 (fun _ => True) 63), (63, tIld 3 64), (64, tRi (fun _ => True))]
set_option maxRecDepth 100000 in
set_option maxHeartbeats 4000000 in
theorem hs_X9_setTable {l : Launch} (hl : l.stackTraces = false) {T0 : ZTf} {T1 : ZTf} {T2 : ZTf} {T3 : ZTf} {T4 : ZTf} {T5 : ZTf} (h0 : zMet l yX9_in (Cond.code yX9_in cX9_in 6 (Option.some Jvm.ClassFile.FieldType.boolean) :: zG) rm_X9_in 0 0 T0) (h1 : zMet l yX9_leastOf (Cond.code yX9_leastOf cX9_leastOf 1 (Option.some Jvm.ClassFile.FieldType.int) :: zG) rm_X9_leastOf 0 0 T1) (h2 : zMet l yX9_mostOf (Cond.code yX9_mostOf cX9_mostOf 1 (Option.some Jvm.ClassFile.FieldType.int) :: zG) rm_X9_mostOf 0 0 T2) (h3 : zMet l yX9_passes (Cond.code yX9_passes cX9_passes 2 (Option.some Jvm.ClassFile.FieldType.boolean) :: zG) rm_X9_passes 0 0 T3) (h4 : zMet l yX9_remember (Cond.code yX9_remember cX9_remember 2 (Option.none : Option Jvm.ClassFile.FieldType) :: zG) rm_X9_remember 0 0 T4) (h5 : zMet l yX9_table (Cond.code yX9_table cX9_table 2 (Option.some Jvm.ClassFile.FieldType.int) :: zG) rm_X9_table 0 0 T5) (p : Program) (e : Env) (s : State) (m : MethodId) (args : Array Value) (below : List Frame) (meth : Method) (c : Code) (D : va_G) (A : Nat → Prop) (a0 : Nat → Nat) (M0 : ZM) (K : ZRet) (KX : ZEx) (X : zCtx p l rm_X9_setTable s m args meth c cX9_setTable RX9 (Cond.code yX9_setTable cX9_setTable 4 (Option.some Jvm.ClassFile.FieldType.int) :: zG) 4 (Option.some Jvm.ClassFile.FieldType.int) D A a0 M0 0 0) (hnm : meth.name = yX9_setTable.name) (hout : ∀ x ∈ c.exceptionTable.toList, False) : ∀ q ∈ cd_X9_setTable T0 T1 T2 T3 T4 T5, zSd p l e rm_X9_setTable s m args below meth c 4 D A a0 M0 K KX 0 0 q.1 q.2 :=
    zall_c (zs_aload_n X (pc := 0) (q := 0) rfl (by decide +kernel)) <|
    zall_c (zs_iload_n X (pc := 1) (q := 1) rfl (by decide +kernel)) <|
    zall_c (zs_i2l X (pc := 2) (by decide +kernel)) <|
    zall_c (zs_lconst X (pc := 3) (q := 0) (by decide) (by decide +kernel) rfl) <|
    zall_c (zs_ldc2 X (pc := 4) (i := 346) (by decide) (by decide +kernel) (.tail _ gw_9_58)) <|
    zall_c (zs_callS0 X (pc := 7) (fun _ ht => ⟨(zCB ht gw_8_64 gw_1_13 gw_8_62 rfl rfl (by decide +kernel) ⟨Nat.le_of_ble_eq_true rfl, Nat.le_of_ble_eq_true rfl⟩), ht _ (.tail _ gw_8_63)⟩) h0 hout (by decide +kernel)) <|
    zall_c (zs_if_eq X (pc := 10) (off := 25) (by decide +kernel) (by decide)) <|
    zall_c (zs_iload_n X (pc := 13) (q := 2) rfl (by decide +kernel)) <|
    zall_c (zs_i2l X (pc := 14) (by decide +kernel)) <|
    zall_c (zs_iload_n X (pc := 15) (q := 1) rfl (by decide +kernel)) <|
    zall_c (zs_callS0 X (pc := 16) (fun _ ht => ⟨(zCB ht gw_10_115 gw_1_13 gw_10_113 rfl rfl (by decide +kernel) ⟨Nat.le_of_ble_eq_true rfl, Nat.le_of_ble_eq_true rfl⟩), ht _ (.tail _ gw_10_114)⟩) h1 hout (by decide +kernel)) <|
    zall_c (zs_i2l X (pc := 19) (by decide +kernel)) <|
    zall_c (zs_iload_n X (pc := 20) (q := 1) rfl (by decide +kernel)) <|
    zall_c (zs_callS0 X (pc := 21) (fun _ ht => ⟨(zCB ht gw_10_118 gw_1_13 gw_10_116 rfl rfl (by decide +kernel) ⟨Nat.le_of_ble_eq_true rfl, Nat.le_of_ble_eq_true rfl⟩), ht _ (.tail _ gw_10_117)⟩) h2 hout (by decide +kernel)) <|
    zall_c (zs_i2l X (pc := 24) (by decide +kernel)) <|
    zall_c (zs_callS0 X (pc := 25) (fun _ ht => ⟨(zCB ht gw_8_64 gw_1_13 gw_8_62 rfl rfl (by decide +kernel) ⟨Nat.le_of_ble_eq_true rfl, Nat.le_of_ble_eq_true rfl⟩), ht _ (.tail _ gw_8_63)⟩) h0 hout (by decide +kernel)) <|
    zall_c (zs_if_eq X (pc := 28) (off := 7) (by decide +kernel) (by decide)) <|
    zall_c (zs_iconst X (pc := 31) (by decide) (by decide +kernel)) <|
    zall_c (zs_goto X (pc := 32) (off := 4) (by decide +kernel) (by decide)) <|
    zall_c (zs_iconst X (pc := 35) (by decide) (by decide +kernel)) <|
    zall_c (zs_callV0 X (pc := 36) zc_X9 (fun _ ht => ⟨(zCB ht gw_8_49 gw_1_13 gw_8_46 rfl rfl (by decide +kernel) ⟨Nat.le_of_ble_eq_true rfl, Nat.le_of_ble_eq_true rfl⟩), ht _ (.tail _ gw_8_48), ht _ (.tail _ gp_28)⟩) h3 hout (by decide +kernel)) <|
    zall_c (zs_if_ne X (pc := 39) (off := 5) (by decide +kernel) (by decide)) <|
    zall_c (zs_iconst X (pc := 42) (by decide) (by decide +kernel)) <|
    zall_c (zs_iret X (pc := 43) rfl (by decide +kernel)) <|
    zall_c (zs_aload_n X (pc := 44) (q := 0) rfl (by decide +kernel)) <|
    zall_c (zs_callV0 X (pc := 45) zc_X9 (fun _ ht => ⟨(zCB ht gw_8_205 gw_1_13 gw_8_202 rfl rfl (by decide +kernel) ⟨Nat.le_of_ble_eq_true rfl, Nat.le_of_ble_eq_true rfl⟩), ht _ (.tail _ gw_8_204), ht _ (.tail _ gp_59)⟩) h4 hout (by decide +kernel)) <|
    zall_c (zs_aload_n X (pc := 48) (q := 0) rfl (by decide +kernel)) <|
    zall_c (zs_iload_n X (pc := 49) (q := 1) rfl (by decide +kernel)) <|
    zall_c (zs_callV0 X (pc := 50) zc_X9 (fun _ ht => ⟨(zCB ht gw_8_227 gw_1_13 gw_8_224 rfl rfl (by decide +kernel) ⟨Nat.le_of_ble_eq_true rfl, Nat.le_of_ble_eq_true rfl⟩), ht _ (.tail _ gw_8_226), ht _ (.tail _ gp_60)⟩) h5 hout (by decide +kernel)) <|
    zall_c (zs_istore_n X (pc := 53) (q := 3) rfl (by decide) (by decide +kernel)) <|
    zall_c (zs_aload_n X (pc := 54) (q := 0) rfl (by decide +kernel)) <|
    zall_c (zs_getr X (pc := 55) zc_X9 (by decide) (zin ui_X9) (.tail _ gw_7_216) (by decide +kernel) (by decide +kernel)) <|
    zall_c (zs_iconst X (pc := 58) (by decide) (by decide +kernel)) <|
    zall_c (zs_iload_n X (pc := 59) (q := 1) rfl (by decide +kernel)) <|
    zall_c (zs_iadd X (pc := 60) (by decide +kernel)) <|
    zall_c (zs_iload_n X (pc := 61) (q := 2) rfl (by decide +kernel)) <|
    zall_c (zs_iastore20 X (pc := 62) (by decide +kernel)) <|
    zall_c (zs_iload_n X (pc := 63) (q := 3) rfl (by decide +kernel)) <|
    zall_c (zs_iret X (pc := 64) rfl (by decide +kernel)) <|
    zall_n
theorem met_X9_setTable {l : Launch} (hl : l.stackTraces = false) {T0 : ZTf} {T1 : ZTf} {T2 : ZTf} {T3 : ZTf} {T4 : ZTf} {T5 : ZTf} (h0 : zMet l yX9_in (Cond.code yX9_in cX9_in 6 (Option.some Jvm.ClassFile.FieldType.boolean) :: zG) rm_X9_in 0 0 T0) (h1 : zMet l yX9_leastOf (Cond.code yX9_leastOf cX9_leastOf 1 (Option.some Jvm.ClassFile.FieldType.int) :: zG) rm_X9_leastOf 0 0 T1) (h2 : zMet l yX9_mostOf (Cond.code yX9_mostOf cX9_mostOf 1 (Option.some Jvm.ClassFile.FieldType.int) :: zG) rm_X9_mostOf 0 0 T2) (h3 : zMet l yX9_passes (Cond.code yX9_passes cX9_passes 2 (Option.some Jvm.ClassFile.FieldType.boolean) :: zG) rm_X9_passes 0 0 T3) (h4 : zMet l yX9_remember (Cond.code yX9_remember cX9_remember 2 (Option.none : Option Jvm.ClassFile.FieldType) :: zG) rm_X9_remember 0 0 T4) (h5 : zMet l yX9_table (Cond.code yX9_table cX9_table 2 (Option.some Jvm.ClassFile.FieldType.int) :: zG) rm_X9_table 0 0 T5) {T : ZTf} (bd : zBd (cd_X9_setTable T0 T1 T2 T3 T4 T5) 4 0 0 T) : zMet l yX9_setTable (Cond.code yX9_setTable cX9_setTable 4 (Option.some Jvm.ClassFile.FieldType.int) :: zG) rm_X9_setTable 0 0 T := zMet_of hl (by decide +kernel) rfl rfl rfl rfl (hs_X9_setTable hl h0 h1 h2 h3 h4 h5) bd

abbrev rm_X9_restore : Room := { frames := 3, cells := 0, slots := 0, locals := 75 }
def cd_X9_restore (T0 : ZTf) (T1 : ZTf) (T2 : ZTf) : List (Nat × ZTr) := [(0, tAld 0 1), (1, tIld 1 2), (2, tCall0 1 T0 zAny 5), (5, tIld 1 6), (6, tCall0 1 T0 zAny 9), (9, tIf_eq 21 12), (12, tAld 0 13), (13, tGetR 12 17 16), (16, tIld 1 17), (17, tZal 18), (18, tIf_eq 25 21), (21, tC (zi 1) 22), (22, tGo 26), (25, tC (zi 0) 26), (26, tCall0 3 T1 (zRcv 12) 29), (29, tIf_ne 34 32), (32, tC (zi 0) 33), (33, tRi (fun _ => True)), (34, tAld 0 35), (35, tCall0 1 T2 (zRcv 12) 38), (38, tC (zi 0) 39), (39, tIst 2 40), (40, tIld 2 41), (41, tC (zi 516) 44), (44, tIc_ge 71 47), (47, tAld 0 48), (48, tGetR 12 1 51), (51, tIld 2 52), (52, tAld 0 53), (53, tGetR 12 16 56), (56, tC (zi 516) 59), (59, tIld 1 60), (60, tMul 61), (61, tIld 2 62), (62, tAdd 63), (63, tIal 20 64), (64, tIas 20 (fun _ => True) 65), (65, tInc 2 1 68), (68, tGo 40), (71, tAld 0 72), (72, tGetR 12 1 75), (75, tC (zi 3) 76), (76, tIal 20 77), (77, tRi (fun _ => True))]
set_option maxRecDepth 100000 in
set_option maxHeartbeats 4000000 in
theorem hs_X9_restore {l : Launch} (hl : l.stackTraces = false) {T0 : ZTf} {T1 : ZTf} {T2 : ZTf} (h0 : zMet l yX9_isSlot (Cond.code yX9_isSlot cX9_isSlot 1 (Option.some Jvm.ClassFile.FieldType.boolean) :: zG) rm_X9_isSlot 0 0 T0) (h1 : zMet l yX9_passes2 (Cond.code yX9_passes2 cX9_passes2 3 (Option.some Jvm.ClassFile.FieldType.boolean) :: zG) rm_X9_passes2 0 0 T1) (h2 : zMet l yX9_remember (Cond.code yX9_remember cX9_remember 2 (Option.none : Option Jvm.ClassFile.FieldType) :: zG) rm_X9_remember 0 0 T2) (p : Program) (e : Env) (s : State) (m : MethodId) (args : Array Value) (below : List Frame) (meth : Method) (c : Code) (D : va_G) (A : Nat → Prop) (a0 : Nat → Nat) (M0 : ZM) (K : ZRet) (KX : ZEx) (X : zCtx p l rm_X9_restore s m args meth c cX9_restore RX9 (Cond.code yX9_restore cX9_restore 3 (Option.some Jvm.ClassFile.FieldType.int) :: zG) 3 (Option.some Jvm.ClassFile.FieldType.int) D A a0 M0 0 0) (hnm : meth.name = yX9_restore.name) (hout : ∀ x ∈ c.exceptionTable.toList, False) : ∀ q ∈ cd_X9_restore T0 T1 T2, zSd p l e rm_X9_restore s m args below meth c 3 D A a0 M0 K KX 0 0 q.1 q.2 :=
    zall_c (zs_aload_n X (pc := 0) (q := 0) rfl (by decide +kernel)) <|
    zall_c (zs_iload_n X (pc := 1) (q := 1) rfl (by decide +kernel)) <|
    zall_c (zs_callS0 X (pc := 2) (fun _ ht => ⟨(zCB ht gw_10_125 gw_1_13 gw_10_123 rfl rfl (by decide +kernel) ⟨Nat.le_of_ble_eq_true rfl, Nat.le_of_ble_eq_true rfl⟩), ht _ (.tail _ gw_10_124)⟩) h0 hout (by decide +kernel)) <|
    zall_c (zs_iload_n X (pc := 5) (q := 1) rfl (by decide +kernel)) <|
    zall_c (zs_callS0 X (pc := 6) (fun _ ht => ⟨(zCB ht gw_10_125 gw_1_13 gw_10_123 rfl rfl (by decide +kernel) ⟨Nat.le_of_ble_eq_true rfl, Nat.le_of_ble_eq_true rfl⟩), ht _ (.tail _ gw_10_124)⟩) h0 hout (by decide +kernel)) <|
    zall_c (zs_if_eq X (pc := 9) (off := 12) (by decide +kernel) (by decide)) <|
    zall_c (zs_aload_n X (pc := 12) (q := 0) rfl (by decide +kernel)) <|
    zall_c (zs_getr X (pc := 13) zc_X9 (by decide) (zin ui_X9) (.tail _ gw_7_232) (by decide +kernel) (by decide +kernel)) <|
    zall_c (zs_iload_n X (pc := 16) (q := 1) rfl (by decide +kernel)) <|
    zall_c (zs_baload22 X (pc := 17) (by decide +kernel)) <|
    zall_c (zs_if_eq X (pc := 18) (off := 7) (by decide +kernel) (by decide)) <|
    zall_c (zs_iconst X (pc := 21) (by decide) (by decide +kernel)) <|
    zall_c (zs_goto X (pc := 22) (off := 4) (by decide +kernel) (by decide)) <|
    zall_c (zs_iconst X (pc := 25) (by decide) (by decide +kernel)) <|
    zall_c (zs_callV0 X (pc := 26) zc_X9 (fun _ ht => ⟨(zCB ht gw_9_16 gw_1_13 gw_9_13 rfl rfl (by decide +kernel) ⟨Nat.le_of_ble_eq_true rfl, Nat.le_of_ble_eq_true rfl⟩), ht _ (.tail _ gw_9_15), ht _ (.tail _ gp_66)⟩) h1 hout (by decide +kernel)) <|
    zall_c (zs_if_ne X (pc := 29) (off := 5) (by decide +kernel) (by decide)) <|
    zall_c (zs_iconst X (pc := 32) (by decide) (by decide +kernel)) <|
    zall_c (zs_iret X (pc := 33) rfl (by decide +kernel)) <|
    zall_c (zs_aload_n X (pc := 34) (q := 0) rfl (by decide +kernel)) <|
    zall_c (zs_callV0 X (pc := 35) zc_X9 (fun _ ht => ⟨(zCB ht gw_8_205 gw_1_13 gw_8_202 rfl rfl (by decide +kernel) ⟨Nat.le_of_ble_eq_true rfl, Nat.le_of_ble_eq_true rfl⟩), ht _ (.tail _ gw_8_204), ht _ (.tail _ gp_59)⟩) h2 hout (by decide +kernel)) <|
    zall_c (zs_iconst X (pc := 38) (by decide) (by decide +kernel)) <|
    zall_c (zs_istore_n X (pc := 39) (q := 2) rfl (by decide) (by decide +kernel)) <|
    zall_c (zs_iload_n X (pc := 40) (q := 2) rfl (by decide +kernel)) <|
    zall_c (zs_sipush X (pc := 41) (by decide) (by decide +kernel) (by decide +kernel)) <|
    zall_c (zs_icmp_ge X (pc := 44) (off := 27) (by decide +kernel) (by decide)) <|
    zall_c (zs_aload_n X (pc := 47) (q := 0) rfl (by decide +kernel)) <|
    zall_c (zs_getr X (pc := 48) zc_X9 (by decide) (zin ui_X9) (.tail _ gw_7_216) (by decide +kernel) (by decide +kernel)) <|
    zall_c (zs_iload_n X (pc := 51) (q := 2) rfl (by decide +kernel)) <|
    zall_c (zs_aload_n X (pc := 52) (q := 0) rfl (by decide +kernel)) <|
    zall_c (zs_getr X (pc := 53) zc_X9 (by decide) (zin ui_X9) (.tail _ gw_7_231) (by decide +kernel) (by decide +kernel)) <|
    zall_c (zs_sipush X (pc := 56) (by decide) (by decide +kernel) (by decide +kernel)) <|
    zall_c (zs_iload_n X (pc := 59) (q := 1) rfl (by decide +kernel)) <|
    zall_c (zs_imul X (pc := 60) (by decide +kernel)) <|
    zall_c (zs_iload_n X (pc := 61) (q := 2) rfl (by decide +kernel)) <|
    zall_c (zs_iadd X (pc := 62) (by decide +kernel)) <|
    zall_c (zs_iaload20 X (pc := 63) (by decide +kernel)) <|
    zall_c (zs_iastore20 X (pc := 64) (by decide +kernel)) <|
    zall_c (zs_iinc X (pc := 65) (by decide) (by decide +kernel)) <|
    zall_c (zs_goto X (pc := 68) (off := (-28)) (by decide +kernel) (by decide)) <|
    zall_c (zs_aload_n X (pc := 71) (q := 0) rfl (by decide +kernel)) <|
    zall_c (zs_getr X (pc := 72) zc_X9 (by decide) (zin ui_X9) (.tail _ gw_7_216) (by decide +kernel) (by decide +kernel)) <|
    zall_c (zs_iconst X (pc := 75) (by decide) (by decide +kernel)) <|
    zall_c (zs_iaload20 X (pc := 76) (by decide +kernel)) <|
    zall_c (zs_iret X (pc := 77) rfl (by decide +kernel)) <|
    zall_n
theorem met_X9_restore {l : Launch} (hl : l.stackTraces = false) {T0 : ZTf} {T1 : ZTf} {T2 : ZTf} (h0 : zMet l yX9_isSlot (Cond.code yX9_isSlot cX9_isSlot 1 (Option.some Jvm.ClassFile.FieldType.boolean) :: zG) rm_X9_isSlot 0 0 T0) (h1 : zMet l yX9_passes2 (Cond.code yX9_passes2 cX9_passes2 3 (Option.some Jvm.ClassFile.FieldType.boolean) :: zG) rm_X9_passes2 0 0 T1) (h2 : zMet l yX9_remember (Cond.code yX9_remember cX9_remember 2 (Option.none : Option Jvm.ClassFile.FieldType) :: zG) rm_X9_remember 0 0 T2) {T : ZTf} (bd : zBd (cd_X9_restore T0 T1 T2) 3 0 0 T) : zMet l yX9_restore (Cond.code yX9_restore cX9_restore 3 (Option.some Jvm.ClassFile.FieldType.int) :: zG) rm_X9_restore 0 0 T := zMet_of hl (by decide +kernel) rfl rfl rfl rfl (hs_X9_restore hl h0 h1 h2) bd

abbrev rm_J5_newCapacity_0f7a4 : Room := { frames := 2, cells := 0, slots := 0, locals := 53 }
def cd_J5_newCapacity_0f7a4 (T0 : ZTf) : List (Nat × ZTr) := [(0, tAld 0 1), (1, tGetR 1 0 4), (4, tLen 5), (5, tIst 2 6), (6, tIld 1 7), (7, tAld 0 8), (8, tGetI 1 1 11), (11, tBif zshl 12), (12, tIst 3 13), (13, tIld 3 14), (14, tIld 2 15), (15, tSub 16), (16, tIst 4 18), (18, tIld 2 19), (19, tIld 4 21), (21, tIld 2 22), (22, tC (zi 2) 23), (23, tAld 0 24), (24, tGetI 1 1 27), (27, tBif zshl 28), (28, tAdd 29), (29, tCall0 3 T0 zAny 32), (32, tIst 5 34), (34, tIld 5 36), (36, tC (zi 2147483647) 38), (38, tIc_ne 51 41), (41, tNo), (44, tNo), (45, tNo), (47, tNo), (50, tNo), (51, tIld 5 53), (53, tAld 0 54), (54, tGetI 1 1 57), (57, tBif zshr 58), (58, tRi (fun _ => True))]
set_option maxRecDepth 100000 in
set_option maxHeartbeats 4000000 in
theorem hs_J5_newCapacity_0f7a4 {l : Launch} (hl : l.stackTraces = false) {T0 : ZTf} (h0 : zMet l yJ8_newLength_cabcc (Cond.code yJ8_newLength_cabcc cJ8_newLength_cabcc 4 (Option.some Jvm.ClassFile.FieldType.int) :: zG) rm_J8_newLength_cabcc 0 0 T0) (p : Program) (e : Env) (s : State) (m : MethodId) (args : Array Value) (below : List Frame) (meth : Method) (c : Code) (D : va_G) (A : Nat → Prop) (a0 : Nat → Nat) (M0 : ZM) (K : ZRet) (KX : ZEx) (X : zCtx p l rm_J5_newCapacity_0f7a4 s m args meth c cJ5_newCapacity_0f7a4 RJ5 (Cond.code yJ5_newCapacity_0f7a4 cJ5_newCapacity_0f7a4 6 (Option.some Jvm.ClassFile.FieldType.int) :: zG) 6 (Option.some Jvm.ClassFile.FieldType.int) D A a0 M0 0 0) (hnm : meth.name = yJ5_newCapacity_0f7a4.name) (hout : ∀ x ∈ c.exceptionTable.toList, False) : ∀ q ∈ cd_J5_newCapacity_0f7a4 T0, zSd p l e rm_J5_newCapacity_0f7a4 s m args below meth c 6 D A a0 M0 K KX 0 0 q.1 q.2 :=
    zall_c (zs_aload_n X (pc := 0) (q := 0) rfl (by decide +kernel)) <|
    zall_c (zs_getr X (pc := 1) zc_J4 (by decide) (zin ui_J4) (.tail _ gw_1_71) (by decide +kernel) (by decide +kernel)) <|
    zall_c (zs_len X (pc := 4) (by decide +kernel)) <|
    zall_c (zs_istore_n X (pc := 5) (q := 2) rfl (by decide) (by decide +kernel)) <|
    zall_c (zs_iload_n X (pc := 6) (q := 1) rfl (by decide +kernel)) <|
    zall_c (zs_aload_n X (pc := 7) (q := 0) rfl (by decide +kernel)) <|
    zall_c (zs_geti X (pc := 8) zc_J4 (by decide) (zin ui_J4) (.tail _ gw_1_72) (by decide +kernel) (by decide +kernel)) <|
    zall_c (zs_ishl X (pc := 11) (by decide +kernel)) <|
    zall_c (zs_istore_n X (pc := 12) (q := 3) rfl (by decide) (by decide +kernel)) <|
    zall_c (zs_iload_n X (pc := 13) (q := 3) rfl (by decide +kernel)) <|
    zall_c (zs_iload_n X (pc := 14) (q := 2) rfl (by decide +kernel)) <|
    zall_c (zs_isub X (pc := 15) (by decide +kernel)) <|
    zall_c (zs_istore X (pc := 16) (by decide) (by decide +kernel)) <|
    zall_c (zs_iload_n X (pc := 18) (q := 2) rfl (by decide +kernel)) <|
    zall_c (zs_iload X (pc := 19) (by decide +kernel)) <|
    zall_c (zs_iload_n X (pc := 21) (q := 2) rfl (by decide +kernel)) <|
    zall_c (zs_iconst X (pc := 22) (by decide) (by decide +kernel)) <|
    zall_c (zs_aload_n X (pc := 23) (q := 0) rfl (by decide +kernel)) <|
    zall_c (zs_geti X (pc := 24) zc_J4 (by decide) (zin ui_J4) (.tail _ gw_1_72) (by decide +kernel) (by decide +kernel)) <|
    zall_c (zs_ishl X (pc := 27) (by decide +kernel)) <|
    zall_c (zs_iadd X (pc := 28) (by decide +kernel)) <|
    zall_c (zs_callS0 X (pc := 29) (fun _ ht => ⟨(zCB ht gw_3_90 gw_1_26 gw_3_88 rfl rfl (by decide +kernel) ⟨Nat.le_of_ble_eq_true rfl, Nat.le_of_ble_eq_true rfl⟩), ht _ (.tail _ gw_3_89)⟩) h0 hout (by decide +kernel)) <|
    zall_c (zs_istore X (pc := 32) (by decide) (by decide +kernel)) <|
    zall_c (zs_iload X (pc := 34) (by decide +kernel)) <|
    zall_c (zs_ldci X (pc := 36) (i := 39) (by decide) (by decide +kernel) (.tail _ gw_3_98)) <|
    zall_c (zs_icmp_ne X (pc := 38) (off := 13) (by decide +kernel) (by decide)) <|
    zall_c (zs_no (pc := 41)) <|
    zall_c (zs_no (pc := 44)) <|
    zall_c (zs_no (pc := 45)) <|
    zall_c (zs_no (pc := 47)) <|
    zall_c (zs_no (pc := 50)) <|
    zall_c (zs_iload X (pc := 51) (by decide +kernel)) <|
    zall_c (zs_aload_n X (pc := 53) (q := 0) rfl (by decide +kernel)) <|
    zall_c (zs_geti X (pc := 54) zc_J4 (by decide) (zin ui_J4) (.tail _ gw_1_72) (by decide +kernel) (by decide +kernel)) <|
    zall_c (zs_ishr X (pc := 57) (by decide +kernel)) <|
    zall_c (zs_iret X (pc := 58) rfl (by decide +kernel)) <|
    zall_n
theorem met_J5_newCapacity_0f7a4 {l : Launch} (hl : l.stackTraces = false) {T0 : ZTf} (h0 : zMet l yJ8_newLength_cabcc (Cond.code yJ8_newLength_cabcc cJ8_newLength_cabcc 4 (Option.some Jvm.ClassFile.FieldType.int) :: zG) rm_J8_newLength_cabcc 0 0 T0) {T : ZTf} (bd : zBd (cd_J5_newCapacity_0f7a4 T0) 6 0 0 T) : zMet l yJ5_newCapacity_0f7a4 (Cond.code yJ5_newCapacity_0f7a4 cJ5_newCapacity_0f7a4 6 (Option.some Jvm.ClassFile.FieldType.int) :: zG) rm_J5_newCapacity_0f7a4 0 0 T := zMet_of hl (by decide +kernel) rfl rfl rfl rfl (hs_J5_newCapacity_0f7a4 hl h0) bd

abbrev rm_J5_inflateIfNeededFor_a7421 : Room := { frames := 2, cells := 0, slots := 0, locals := 50 }
def cd_J5_inflateIfNeededFor_a7421 (T0 : ZTf) : List (Nat × ZTr) := [(0, tC (zi 1) 3), (3, tIf_eq 21 6), (6, tAld 0 7), (7, tGetI 1 1 10), (10, tAld 1 11), (11, tCall0 1 T0 (zRcv 0) 14), (14, tIc_eq 21 17), (17, tNo), (18, tNo), (21, tRv)]
set_option maxRecDepth 100000 in
set_option maxHeartbeats 4000000 in
theorem hs_J5_inflateIfNeededFor_a7421 {l : Launch} (hl : l.stackTraces = false) {T0 : ZTf} (h0 : zMet l yJ0_coder_7d493 (Cond.code yJ0_coder_7d493 cJ0_coder_7d493 1 (Option.some Jvm.ClassFile.FieldType.byte) :: zG) rm_J0_coder_7d493 0 0 T0) (p : Program) (e : Env) (s : State) (m : MethodId) (args : Array Value) (below : List Frame) (meth : Method) (c : Code) (D : va_G) (A : Nat → Prop) (a0 : Nat → Nat) (M0 : ZM) (K : ZRet) (KX : ZEx) (X : zCtx p l rm_J5_inflateIfNeededFor_a7421 s m args meth c cJ5_inflateIfNeededFor_a7421 RJ5 (Cond.code yJ5_inflateIfNeededFor_a7421 cJ5_inflateIfNeededFor_a7421 2 (Option.none : Option Jvm.ClassFile.FieldType) :: zG) 2 (Option.none : Option Jvm.ClassFile.FieldType) D A a0 M0 0 0) (hnm : meth.name = yJ5_inflateIfNeededFor_a7421.name) (hout : ∀ x ∈ c.exceptionTable.toList, False) : ∀ q ∈ cd_J5_inflateIfNeededFor_a7421 T0, zSd p l e rm_J5_inflateIfNeededFor_a7421 s m args below meth c 2 D A a0 M0 K KX 0 0 q.1 q.2 :=
    zall_c (zs_gets X (pc := 0) (C := "java/lang/String") (n1 := "COMPACT_STRINGS") (d1 := "Z") (List.mem_of_getElem? (i := 12) rfl) (.tail _ gw_1_62) (by decide +kernel)) <|
    zall_c (zs_if_eq X (pc := 3) (off := 18) (by decide +kernel) (by decide)) <|
    zall_c (zs_aload_n X (pc := 6) (q := 0) rfl (by decide +kernel)) <|
    zall_c (zs_geti X (pc := 7) zc_J4 (by decide) (zin ui_J4) (.tail _ gw_1_72) (by decide +kernel) (by decide +kernel)) <|
    zall_c (zs_aload_n X (pc := 10) (q := 1) rfl (by decide +kernel)) <|
    zall_c (zs_callV0 X (pc := 11) zc_J0 (fun _ ht => ⟨(zCB ht gw_2_207 gw_1_6 gw_3_144 rfl rfl (by decide +kernel) ⟨Nat.le_of_ble_eq_true rfl, Nat.le_of_ble_eq_true rfl⟩), ht _ (.tail _ gw_2_205), ht _ (.tail _ gw_2_206)⟩) h0 hout (by decide +kernel)) <|
    zall_c (zs_icmp_eq X (pc := 14) (off := 7) (by decide +kernel) (by decide)) <|
    zall_c (zs_no (pc := 17)) <|
    zall_c (zs_no (pc := 18)) <|
    zall_c (zs_vret X (pc := 21) rfl (by decide +kernel)) <|
    zall_n
theorem met_J5_inflateIfNeededFor_a7421 {l : Launch} (hl : l.stackTraces = false) {T0 : ZTf} (h0 : zMet l yJ0_coder_7d493 (Cond.code yJ0_coder_7d493 cJ0_coder_7d493 1 (Option.some Jvm.ClassFile.FieldType.byte) :: zG) rm_J0_coder_7d493 0 0 T0) {T : ZTf} (bd : zBd (cd_J5_inflateIfNeededFor_a7421 T0) 2 0 0 T) : zMet l yJ5_inflateIfNeededFor_a7421 (Cond.code yJ5_inflateIfNeededFor_a7421 cJ5_inflateIfNeededFor_a7421 2 (Option.none : Option Jvm.ClassFile.FieldType) :: zG) rm_J5_inflateIfNeededFor_a7421 0 0 T := zMet_of hl (by decide +kernel) rfl rfl rfl rfl (hs_J5_inflateIfNeededFor_a7421 hl h0) bd

abbrev rm_J0_length_8abf5 : Room := { frames := 2, cells := 0, slots := 0, locals := 50 }
def cd_J0_length_8abf5 (T0 : ZTf) : List (Nat × ZTr) := [(0, tAld 0 1), (1, tGsV 4), (4, tLen 5), (5, tAld 0 6), (6, tCall0 1 T0 (zRcv 0) 9), (9, tBif zshr 10), (10, tRi (fun _ => True))]
set_option maxRecDepth 100000 in
set_option maxHeartbeats 4000000 in
theorem hs_J0_length_8abf5 {l : Launch} (hl : l.stackTraces = false) {T0 : ZTf} (h0 : zMet l yJ0_coder_7d493 (Cond.code yJ0_coder_7d493 cJ0_coder_7d493 1 (Option.some Jvm.ClassFile.FieldType.byte) :: zG) rm_J0_coder_7d493 0 0 T0) (p : Program) (e : Env) (s : State) (m : MethodId) (args : Array Value) (below : List Frame) (meth : Method) (c : Code) (D : va_G) (A : Nat → Prop) (a0 : Nat → Nat) (M0 : ZM) (K : ZRet) (KX : ZEx) (X : zCtx p l rm_J0_length_8abf5 s m args meth c cJ0_length_8abf5 RJ0 (Cond.code yJ0_length_8abf5 cJ0_length_8abf5 1 (Option.some Jvm.ClassFile.FieldType.int) :: zG) 1 (Option.some Jvm.ClassFile.FieldType.int) D A a0 M0 0 0) (hnm : meth.name = yJ0_length_8abf5.name) (hout : ∀ x ∈ c.exceptionTable.toList, False) : ∀ q ∈ cd_J0_length_8abf5 T0, zSd p l e rm_J0_length_8abf5 s m args below meth c 1 D A a0 M0 K KX 0 0 q.1 q.2 :=
    zall_c (zs_aload_n X (pc := 0) (q := 0) rfl (by decide +kernel)) <|
    zall_c (zs_gsv X (pc := 1) (zin ui_J0) (.tail _ gw_4_76) (by decide +kernel)) <|
    zall_c (zs_len X (pc := 4) (by decide +kernel)) <|
    zall_c (zs_aload_n X (pc := 5) (q := 0) rfl (by decide +kernel)) <|
    zall_c (zs_callV0 X (pc := 6) zc_J0 (fun _ ht => ⟨(zCB ht gw_2_207 gw_1_6 gw_2_204 rfl rfl (by decide +kernel) ⟨Nat.le_of_ble_eq_true rfl, Nat.le_of_ble_eq_true rfl⟩), ht _ (.tail _ gw_2_205), ht _ (.tail _ gw_2_206)⟩) h0 hout (by decide +kernel)) <|
    zall_c (zs_ishr X (pc := 9) (by decide +kernel)) <|
    zall_c (zs_iret X (pc := 10) rfl (by decide +kernel)) <|
    zall_n
theorem met_J0_length_8abf5 {l : Launch} (hl : l.stackTraces = false) {T0 : ZTf} (h0 : zMet l yJ0_coder_7d493 (Cond.code yJ0_coder_7d493 cJ0_coder_7d493 1 (Option.some Jvm.ClassFile.FieldType.byte) :: zG) rm_J0_coder_7d493 0 0 T0) {T : ZTf} (bd : zBd (cd_J0_length_8abf5 T0) 1 0 0 T) : zMet l yJ0_length_8abf5 (Cond.code yJ0_length_8abf5 cJ0_length_8abf5 1 (Option.some Jvm.ClassFile.FieldType.int) :: zG) rm_J0_length_8abf5 0 0 T := zMet_of hl (by decide +kernel) rfl rfl rfl rfl (hs_J0_length_8abf5 hl h0) bd

abbrev rm_J0_getBytes_840e7 : Room := { frames := 2, cells := 0, slots := 0, locals := 60 }
def cd_J0_getBytes_840e7 (T0 : ZTf) : List (Nat × ZTr) := [(0, tAld 0 1), (1, tCall0 1 T0 (zRcv 0) 4), (4, tIld 3 5), (5, tIc_ne 28 8), (8, tAld 0 9), (9, tGsV 12), (12, tC (zi 0) 13), (13, tAld 1 14), (14, tIld 2 15), (15, tIld 3 16), (16, tBif zshl 17), (17, tAld 0 18), (18, tGsV 21), (21, tLen 22), (22, tCpy 21 zPb 25), (25, tGo 43), (28, tNo), (29, tNo), (32, tNo), (33, tNo), (34, tNo), (35, tNo), (36, tNo), (39, tNo), (40, tNo), (43, tRv)]
set_option maxRecDepth 100000 in
set_option maxHeartbeats 4000000 in
theorem hs_J0_getBytes_840e7 {l : Launch} (hl : l.stackTraces = false) {T0 : ZTf} (h0 : zMet l yJ0_coder_7d493 (Cond.code yJ0_coder_7d493 cJ0_coder_7d493 1 (Option.some Jvm.ClassFile.FieldType.byte) :: zG) rm_J0_coder_7d493 0 0 T0) (p : Program) (e : Env) (s : State) (m : MethodId) (args : Array Value) (below : List Frame) (meth : Method) (c : Code) (D : va_G) (A : Nat → Prop) (a0 : Nat → Nat) (M0 : ZM) (K : ZRet) (KX : ZEx) (X : zCtx p l rm_J0_getBytes_840e7 s m args meth c cJ0_getBytes_840e7 RJ0 (Cond.code yJ0_getBytes_840e7 cJ0_getBytes_840e7 4 (Option.none : Option Jvm.ClassFile.FieldType) :: zG) 4 (Option.none : Option Jvm.ClassFile.FieldType) D A a0 M0 0 0) (hnm : meth.name = yJ0_getBytes_840e7.name) (hout : ∀ x ∈ c.exceptionTable.toList, False) : ∀ q ∈ cd_J0_getBytes_840e7 T0, zSd p l e rm_J0_getBytes_840e7 s m args below meth c 4 D A a0 M0 K KX 0 0 q.1 q.2 :=
    zall_c (zs_aload_n X (pc := 0) (q := 0) rfl (by decide +kernel)) <|
    zall_c (zs_callV0 X (pc := 1) zc_J0 (fun _ ht => ⟨(zCB ht gw_2_207 gw_1_6 gw_2_204 rfl rfl (by decide +kernel) ⟨Nat.le_of_ble_eq_true rfl, Nat.le_of_ble_eq_true rfl⟩), ht _ (.tail _ gw_2_205), ht _ (.tail _ gw_2_206)⟩) h0 hout (by decide +kernel)) <|
    zall_c (zs_iload_n X (pc := 4) (q := 3) rfl (by decide +kernel)) <|
    zall_c (zs_icmp_ne X (pc := 5) (off := 23) (by decide +kernel) (by decide)) <|
    zall_c (zs_aload_n X (pc := 8) (q := 0) rfl (by decide +kernel)) <|
    zall_c (zs_gsv X (pc := 9) (zin ui_J0) (.tail _ gw_4_76) (by decide +kernel)) <|
    zall_c (zs_iconst X (pc := 12) (by decide) (by decide +kernel)) <|
    zall_c (zs_aload_n X (pc := 13) (q := 1) rfl (by decide +kernel)) <|
    zall_c (zs_iload_n X (pc := 14) (q := 2) rfl (by decide +kernel)) <|
    zall_c (zs_iload_n X (pc := 15) (q := 3) rfl (by decide +kernel)) <|
    zall_c (zs_ishl X (pc := 16) (by decide +kernel)) <|
    zall_c (zs_aload_n X (pc := 17) (q := 0) rfl (by decide +kernel)) <|
    zall_c (zs_gsv X (pc := 18) (zin ui_J0) (.tail _ gw_4_76) (by decide +kernel)) <|
    zall_c (zs_len X (pc := 21) (by decide +kernel)) <|
    zall_c (zs_copy21 X (pc := 22) (.tail _ gw_3_168) (.tail _ gw_3_114) (.tail _ gw_3_113) (.tail _ gw_1_28) (Nat.le_of_ble_eq_true rfl) (by show 8 + (nativeFrameWords "java/lang/System" "arraycopy" 5 + 11) ≤ 60; decide +kernel) (by decide +kernel)) <|
    zall_c (zs_goto X (pc := 25) (off := 18) (by decide +kernel) (by decide)) <|
    zall_c (zs_no (pc := 28)) <|
    zall_c (zs_no (pc := 29)) <|
    zall_c (zs_no (pc := 32)) <|
    zall_c (zs_no (pc := 33)) <|
    zall_c (zs_no (pc := 34)) <|
    zall_c (zs_no (pc := 35)) <|
    zall_c (zs_no (pc := 36)) <|
    zall_c (zs_no (pc := 39)) <|
    zall_c (zs_no (pc := 40)) <|
    zall_c (zs_vret X (pc := 43) rfl (by decide +kernel)) <|
    zall_n
theorem met_J0_getBytes_840e7 {l : Launch} (hl : l.stackTraces = false) {T0 : ZTf} (h0 : zMet l yJ0_coder_7d493 (Cond.code yJ0_coder_7d493 cJ0_coder_7d493 1 (Option.some Jvm.ClassFile.FieldType.byte) :: zG) rm_J0_coder_7d493 0 0 T0) {T : ZTf} (bd : zBd (cd_J0_getBytes_840e7 T0) 4 0 0 T) : zMet l yJ0_getBytes_840e7 (Cond.code yJ0_getBytes_840e7 cJ0_getBytes_840e7 4 (Option.none : Option Jvm.ClassFile.FieldType) :: zG) rm_J0_getBytes_840e7 0 0 T := zMet_of hl (by decide +kernel) rfl rfl rfl rfl (hs_J0_getBytes_840e7 hl h0) bd

abbrev rm_J0_checkIndex_df160 : Room := { frames := 2, cells := 0, slots := 0, locals := 52 }
def cd_J0_checkIndex_df160 (T0 : ZTf) : List (Nat × ZTr) := [(0, tIld 0 1), (1, tIld 1 2), (2, tSio 5), (5, tCall0 3 T0 zAny 8), (8, tPop 9), (9, tRv)]
set_option maxRecDepth 100000 in
set_option maxHeartbeats 4000000 in
theorem hs_J0_checkIndex_df160 {l : Launch} (hl : l.stackTraces = false) {T0 : ZTf} (h0 : zMet l yJ3_checkIndex_8e157 (Cond.code yJ3_checkIndex_8e157 cJ3_checkIndex_8e157 3 (Option.some Jvm.ClassFile.FieldType.int) :: zG) rm_J3_checkIndex_8e157 0 0 T0) (p : Program) (e : Env) (s : State) (m : MethodId) (args : Array Value) (below : List Frame) (meth : Method) (c : Code) (D : va_G) (A : Nat → Prop) (a0 : Nat → Nat) (M0 : ZM) (K : ZRet) (KX : ZEx) (X : zCtx p l rm_J0_checkIndex_df160 s m args meth c cJ0_checkIndex_df160 RJ0 (Cond.code yJ0_checkIndex_df160 cJ0_checkIndex_df160 2 (Option.none : Option Jvm.ClassFile.FieldType) :: zG) 2 (Option.none : Option Jvm.ClassFile.FieldType) D A a0 M0 0 0) (hnm : meth.name = yJ0_checkIndex_df160.name) (hout : ∀ x ∈ c.exceptionTable.toList, False) : ∀ q ∈ cd_J0_checkIndex_df160 T0, zSd p l e rm_J0_checkIndex_df160 s m args below meth c 2 D A a0 M0 K KX 0 0 q.1 q.2 :=
    zall_c (zs_iload_n X (pc := 0) (q := 0) rfl (by decide +kernel)) <|
    zall_c (zs_iload_n X (pc := 1) (q := 1) rfl (by decide +kernel)) <|
    zall_c (zs_sio X (pc := 2) (.tail _ gw_2_223) (by decide +kernel)) <|
    zall_c (zs_callS0 X (pc := 5) (fun _ ht => ⟨(zCB ht gw_2_227 gw_1_23 gw_2_225 rfl rfl (by decide +kernel) ⟨Nat.le_of_ble_eq_true rfl, Nat.le_of_ble_eq_true rfl⟩), ht _ (.tail _ gw_2_226)⟩) h0 hout (by decide +kernel)) <|
    zall_c (zs_pop X (pc := 8) (by decide +kernel)) <|
    zall_c (zs_vret X (pc := 9) rfl (by decide +kernel)) <|
    zall_n
theorem met_J0_checkIndex_df160 {l : Launch} (hl : l.stackTraces = false) {T0 : ZTf} (h0 : zMet l yJ3_checkIndex_8e157 (Cond.code yJ3_checkIndex_8e157 cJ3_checkIndex_8e157 3 (Option.some Jvm.ClassFile.FieldType.int) :: zG) rm_J3_checkIndex_8e157 0 0 T0) {T : ZTf} (bd : zBd (cd_J0_checkIndex_df160 T0) 2 0 0 T) : zMet l yJ0_checkIndex_df160 (Cond.code yJ0_checkIndex_df160 cJ0_checkIndex_df160 2 (Option.none : Option Jvm.ClassFile.FieldType) :: zG) rm_J0_checkIndex_df160 0 0 T := zMet_of hl (by decide +kernel) rfl rfl rfl rfl (hs_J0_checkIndex_df160 hl h0) bd

abbrev rm_J1_charAt_3b067 : Room := { frames := 3, cells := 0, slots := 0, locals := 73 }
def cd_J1_charAt_3b067 (T0 : ZTf) : List (Nat × ZTr) := [(0, tIld 1 1), (1, tAld 0 2), (2, tLen 3), (3, tCall0 2 T0 zAny 6), (6, tAld 0 7), (7, tIld 1 8), (8, tIal 21 9), (9, tC (zi 255) 12), (12, tBif zand 13), (13, tUn zi2c 14), (14, tRi zPq)]
set_option maxRecDepth 100000 in
set_option maxHeartbeats 4000000 in
theorem hs_J1_charAt_3b067 {l : Launch} (hl : l.stackTraces = false) {T0 : ZTf} (h0 : zMet l yJ0_checkIndex_df160 (Cond.code yJ0_checkIndex_df160 cJ0_checkIndex_df160 2 (Option.none : Option Jvm.ClassFile.FieldType) :: zG) rm_J0_checkIndex_df160 0 0 T0) (p : Program) (e : Env) (s : State) (m : MethodId) (args : Array Value) (below : List Frame) (meth : Method) (c : Code) (D : va_G) (A : Nat → Prop) (a0 : Nat → Nat) (M0 : ZM) (K : ZRet) (KX : ZEx) (X : zCtx p l rm_J1_charAt_3b067 s m args meth c cJ1_charAt_3b067 RJ1 (Cond.code yJ1_charAt_3b067 cJ1_charAt_3b067 2 (Option.some Jvm.ClassFile.FieldType.char) :: zG) 2 (Option.some Jvm.ClassFile.FieldType.char) D A a0 M0 0 0) (hnm : meth.name = yJ1_charAt_3b067.name) (hout : ∀ x ∈ c.exceptionTable.toList, False) : ∀ q ∈ cd_J1_charAt_3b067 T0, zSd p l e rm_J1_charAt_3b067 s m args below meth c 2 D A a0 M0 K KX 0 0 q.1 q.2 :=
    zall_c (zs_iload_n X (pc := 0) (q := 1) rfl (by decide +kernel)) <|
    zall_c (zs_aload_n X (pc := 1) (q := 0) rfl (by decide +kernel)) <|
    zall_c (zs_len X (pc := 2) (by decide +kernel)) <|
    zall_c (zs_callS0 X (pc := 3) (fun _ ht => ⟨(zCB ht gw_2_222 gw_1_6 gw_2_220 rfl rfl (by decide +kernel) ⟨Nat.le_of_ble_eq_true rfl, Nat.le_of_ble_eq_true rfl⟩), ht _ (.tail _ gw_2_221)⟩) h0 hout (by decide +kernel)) <|
    zall_c (zs_aload_n X (pc := 6) (q := 0) rfl (by decide +kernel)) <|
    zall_c (zs_iload_n X (pc := 7) (q := 1) rfl (by decide +kernel)) <|
    zall_c (zs_baload21 X (pc := 8) (by decide +kernel)) <|
    zall_c (zs_sipush X (pc := 9) (by decide) (by decide +kernel) (by decide +kernel)) <|
    zall_c (zs_iand X (pc := 12) (by decide +kernel)) <|
    zall_c (zs_i2c X (pc := 13) (by decide +kernel)) <|
    zall_c (zs_zret X (pc := 14) rfl zR_char (by decide +kernel)) <|
    zall_n
theorem met_J1_charAt_3b067 {l : Launch} (hl : l.stackTraces = false) {T0 : ZTf} (h0 : zMet l yJ0_checkIndex_df160 (Cond.code yJ0_checkIndex_df160 cJ0_checkIndex_df160 2 (Option.none : Option Jvm.ClassFile.FieldType) :: zG) rm_J0_checkIndex_df160 0 0 T0) {T : ZTf} (bd : zBd (cd_J1_charAt_3b067 T0) 2 0 0 T) : zMet l yJ1_charAt_3b067 (Cond.code yJ1_charAt_3b067 cJ1_charAt_3b067 2 (Option.some Jvm.ClassFile.FieldType.char) :: zG) rm_J1_charAt_3b067 0 0 T := zMet_of hl (by decide +kernel) rfl rfl rfl rfl (hs_J1_charAt_3b067 hl h0) bd

abbrev rm_J2_checkIndex_2214a : Room := { frames := 3, cells := 0, slots := 0, locals := 73 }
def cd_J2_checkIndex_2214a (T0 : ZTf) (T1 : ZTf) : List (Nat × ZTr) := [(0, tIld 0 1), (1, tAld 1 2), (2, tCall0 1 T0 zAny 5), (5, tCall0 2 T1 zAny 8), (8, tRv)]
set_option maxRecDepth 100000 in
set_option maxHeartbeats 4000000 in
theorem hs_J2_checkIndex_2214a {l : Launch} (hl : l.stackTraces = false) {T0 : ZTf} {T1 : ZTf} (h0 : zMet l yJ2_length_9d52b (Cond.code yJ2_length_9d52b cJ2_length_9d52b 1 (Option.some Jvm.ClassFile.FieldType.int) :: zG) rm_J2_length_9d52b 0 0 T0) (h1 : zMet l yJ0_checkIndex_df160 (Cond.code yJ0_checkIndex_df160 cJ0_checkIndex_df160 2 (Option.none : Option Jvm.ClassFile.FieldType) :: zG) rm_J0_checkIndex_df160 0 0 T1) (p : Program) (e : Env) (s : State) (m : MethodId) (args : Array Value) (below : List Frame) (meth : Method) (c : Code) (D : va_G) (A : Nat → Prop) (a0 : Nat → Nat) (M0 : ZM) (K : ZRet) (KX : ZEx) (X : zCtx p l rm_J2_checkIndex_2214a s m args meth c cJ2_checkIndex_2214a RJ2 (Cond.code yJ2_checkIndex_2214a cJ2_checkIndex_2214a 2 (Option.none : Option Jvm.ClassFile.FieldType) :: zG) 2 (Option.none : Option Jvm.ClassFile.FieldType) D A a0 M0 0 0) (hnm : meth.name = yJ2_checkIndex_2214a.name) (hout : ∀ x ∈ c.exceptionTable.toList, False) : ∀ q ∈ cd_J2_checkIndex_2214a T0 T1, zSd p l e rm_J2_checkIndex_2214a s m args below meth c 2 D A a0 M0 K KX 0 0 q.1 q.2 :=
    zall_c (zs_iload_n X (pc := 0) (q := 0) rfl (by decide +kernel)) <|
    zall_c (zs_aload_n X (pc := 1) (q := 1) rfl (by decide +kernel)) <|
    zall_c (zs_callS0 X (pc := 2) (fun _ ht => ⟨(zCB ht gw_2_236 gw_1_7 gw_2_234 rfl rfl (by decide +kernel) ⟨Nat.le_of_ble_eq_true rfl, Nat.le_of_ble_eq_true rfl⟩), ht _ (.tail _ gw_2_235)⟩) h0 hout (by decide +kernel)) <|
    zall_c (zs_callS0 X (pc := 5) (fun _ ht => ⟨(zCB ht gw_2_222 gw_1_6 gw_2_237 rfl rfl (by decide +kernel) ⟨Nat.le_of_ble_eq_true rfl, Nat.le_of_ble_eq_true rfl⟩), ht _ (.tail _ gw_2_221)⟩) h1 hout (by decide +kernel)) <|
    zall_c (zs_vret X (pc := 8) rfl (by decide +kernel)) <|
    zall_n
theorem met_J2_checkIndex_2214a {l : Launch} (hl : l.stackTraces = false) {T0 : ZTf} {T1 : ZTf} (h0 : zMet l yJ2_length_9d52b (Cond.code yJ2_length_9d52b cJ2_length_9d52b 1 (Option.some Jvm.ClassFile.FieldType.int) :: zG) rm_J2_length_9d52b 0 0 T0) (h1 : zMet l yJ0_checkIndex_df160 (Cond.code yJ0_checkIndex_df160 cJ0_checkIndex_df160 2 (Option.none : Option Jvm.ClassFile.FieldType) :: zG) rm_J0_checkIndex_df160 0 0 T1) {T : ZTf} (bd : zBd (cd_J2_checkIndex_2214a T0 T1) 2 0 0 T) : zMet l yJ2_checkIndex_2214a (Cond.code yJ2_checkIndex_2214a cJ2_checkIndex_2214a 2 (Option.none : Option Jvm.ClassFile.FieldType) :: zG) rm_J2_checkIndex_2214a 0 0 T := zMet_of hl (by decide +kernel) rfl rfl rfl rfl (hs_J2_checkIndex_2214a hl h0 h1) bd

abbrev rm_J7_copyOfRange_39247 : Room := { frames := 3, cells := 1, slots := 6, locals := 84 }
def cd_J7_copyOfRange_39247 (T0 : ZTf) : List (Nat × ZTr) := [(0, tIld 1 1), (1, tIf_ne 10 4), (4, tIld 2 5), (5, tAld 0 6), (6, tLen 7), (7, tIc_eq 17 10), (10, tAld 0 11), (11, tIld 1 12), (12, tIld 2 13), (13, tCall 3 1 6 T0 zAny 16), (16, tRa), (17, tNo), (18, tNo), (21, tNo), (24, tNo)]
set_option maxRecDepth 100000 in
set_option maxHeartbeats 4000000 in
theorem hs_J7_copyOfRange_39247 {l : Launch} (hl : l.stackTraces = false) {T0 : ZTf} (h0 : zMet l yJ7_copyOfRangeByte_39247 (Cond.code yJ7_copyOfRangeByte_39247 cJ7_copyOfRangeByte_39247 5 (Option.some (Jvm.ClassFile.FieldType.array Jvm.ClassFile.FieldType.byte)) :: zG) rm_J7_copyOfRangeByte_39247 1 6 T0) (p : Program) (e : Env) (s : State) (m : MethodId) (args : Array Value) (below : List Frame) (meth : Method) (c : Code) (D : va_G) (A : Nat → Prop) (a0 : Nat → Nat) (M0 : ZM) (K : ZRet) (KX : ZEx) (X : zCtx p l rm_J7_copyOfRange_39247 s m args meth c cJ7_copyOfRange_39247 RJ7 (Cond.code yJ7_copyOfRange_39247 cJ7_copyOfRange_39247 3 (Option.some (Jvm.ClassFile.FieldType.array Jvm.ClassFile.FieldType.byte)) :: zG) 3 (Option.some (Jvm.ClassFile.FieldType.array Jvm.ClassFile.FieldType.byte)) D A a0 M0 1 6) (hnm : meth.name = yJ7_copyOfRange_39247.name) (hout : ∀ x ∈ c.exceptionTable.toList, False) : ∀ q ∈ cd_J7_copyOfRange_39247 T0, zSd p l e rm_J7_copyOfRange_39247 s m args below meth c 3 D A a0 M0 K KX 1 6 q.1 q.2 :=
    zall_c (zs_iload_n X (pc := 0) (q := 1) rfl (by decide +kernel)) <|
    zall_c (zs_if_ne X (pc := 1) (off := 9) (by decide +kernel) (by decide)) <|
    zall_c (zs_iload_n X (pc := 4) (q := 2) rfl (by decide +kernel)) <|
    zall_c (zs_aload_n X (pc := 5) (q := 0) rfl (by decide +kernel)) <|
    zall_c (zs_len X (pc := 6) (by decide +kernel)) <|
    zall_c (zs_icmp_eq X (pc := 7) (off := 10) (by decide +kernel) (by decide)) <|
    zall_c (zs_aload_n X (pc := 10) (q := 0) rfl (by decide +kernel)) <|
    zall_c (zs_iload_n X (pc := 11) (q := 1) rfl (by decide +kernel)) <|
    zall_c (zs_iload_n X (pc := 12) (q := 2) rfl (by decide +kernel)) <|
    zall_c (zs_callS X (pc := 13) (fun _ ht => ⟨(zCB ht gw_3_227 gw_1_19 gw_3_225 rfl rfl (by decide +kernel) ⟨Nat.le_of_ble_eq_true rfl, Nat.le_of_ble_eq_true rfl⟩), ht _ (.tail _ gw_3_226)⟩) h0 hout (by decide +kernel)) <|
    zall_c (zs_aret X (pc := 16) rfl (Or.inr ⟨_, rfl⟩) (by decide +kernel)) <|
    zall_c (zs_no (pc := 17)) <|
    zall_c (zs_no (pc := 18)) <|
    zall_c (zs_no (pc := 21)) <|
    zall_c (zs_no (pc := 24)) <|
    zall_n
theorem met_J7_copyOfRange_39247 {l : Launch} (hl : l.stackTraces = false) {T0 : ZTf} (h0 : zMet l yJ7_copyOfRangeByte_39247 (Cond.code yJ7_copyOfRangeByte_39247 cJ7_copyOfRangeByte_39247 5 (Option.some (Jvm.ClassFile.FieldType.array Jvm.ClassFile.FieldType.byte)) :: zG) rm_J7_copyOfRangeByte_39247 1 6 T0) {T : ZTf} (bd : zBd (cd_J7_copyOfRange_39247 T0) 3 1 6 T) : zMet l yJ7_copyOfRange_39247 (Cond.code yJ7_copyOfRange_39247 cJ7_copyOfRange_39247 3 (Option.some (Jvm.ClassFile.FieldType.array Jvm.ClassFile.FieldType.byte)) :: zG) rm_J7_copyOfRange_39247 1 6 T := zMet_of hl (by decide +kernel) rfl rfl rfl rfl (hs_J7_copyOfRange_39247 hl h0) bd

abbrev rm_X0_init : Room := { frames := 3, cells := 355, slots := 3774, locals := 71 }
def cd_X0_init (T0 : ZTf) : List (Nat × ZTr) := [(0, tAld 0 1), (1, tObj 4), (4, tAld 0 5), (5, tC (zi 0) 6), (6, tPutI 4 0 (fun _ => True) 9), (9, tAld 0 10), (10, tC (zi 0) 11), (11, tPutI 4 1 (fun _ => True) 14), (14, tAld 0 15), (15, tC (zi 6) 17), (17, tNewA 32 20), (20, tPutR 4 2 23), (23, tC (zi 0) 24), (24, tIst 1 25), (25, tIld 1 26), (26, tC (zi 6) 28), (28, tIc_ge 50 31), (31, tAld 0 32), (32, tGetR 4 2 35), (35, tIld 1 36), (36, tNew 8 10 39), (39, tDup 40), (40, tCall 1 58 618 (zNt T0) (zRcv 8) 43), (43, tAas 32 8 44), (44, tInc 1 1 47), (47, tGo 25), (50, tRv)]
set_option maxRecDepth 100000 in
set_option maxHeartbeats 4000000 in
theorem hs_X0_init {l : Launch} (hl : l.stackTraces = false) {T0 : ZTf} (h0 : zMet l yX5_init (Cond.code yX5_init cX5_init 2 (Option.none : Option Jvm.ClassFile.FieldType) :: zG) rm_X5_init 58 618 T0) (p : Program) (e : Env) (s : State) (m : MethodId) (args : Array Value) (below : List Frame) (meth : Method) (c : Code) (D : va_G) (A : Nat → Prop) (a0 : Nat → Nat) (M0 : ZM) (K : ZRet) (KX : ZEx) (X : zCtx p l rm_X0_init s m args meth c cX0_init RX0 (Cond.code yX0_init cX0_init 2 (Option.none : Option Jvm.ClassFile.FieldType) :: zG) 2 (Option.none : Option Jvm.ClassFile.FieldType) D A a0 M0 355 3774) (hnm : meth.name = yX0_init.name) (hout : ∀ x ∈ c.exceptionTable.toList, False) : ∀ q ∈ cd_X0_init T0, zSd p l e rm_X0_init s m args below meth c 2 D A a0 M0 K KX 355 3774 q.1 q.2 :=
    zall_c (zs_aload_n X (pc := 0) (q := 0) rfl (by decide +kernel)) <|
    zall_c (zs_objinit X (pc := 1) (.tail _ gw_2_68) (.tail _ gw_1_39) (.tail _ gw_1_40) (by decide) (by decide) (by decide +kernel)) <|
    zall_c (zs_aload_n X (pc := 4) (q := 0) rfl (by decide +kernel)) <|
    zall_c (zs_iconst X (pc := 5) (by decide) (by decide +kernel)) <|
    zall_c (zs_puti X (pc := 6) (ty := Jvm.ClassFile.FieldType.int) zc_X0 (by decide) (zin ui_X0) tyX0_ok nmX0 (.tail _ gw_2_72) rfl (by decide +kernel) (by decide +kernel) (by decide +kernel) zP_int) <|
    zall_c (zs_aload_n X (pc := 9) (q := 0) rfl (by decide +kernel)) <|
    zall_c (zs_iconst X (pc := 10) (by decide) (by decide +kernel)) <|
    zall_c (zs_puti X (pc := 11) (ty := Jvm.ClassFile.FieldType.int) zc_X0 (by decide) (zin ui_X0) tyX0_ok nmX0 (.tail _ gw_2_74) rfl (by decide +kernel) (by decide +kernel) (by decide +kernel) zP_int) <|
    zall_c (zs_aload_n X (pc := 14) (q := 0) rfl (by decide +kernel)) <|
    zall_c (zs_bipush X (pc := 15) (by decide) (by decide +kernel) (by decide +kernel)) <|
    zall_c (zs_anewarray X (pc := 17) (C := "ReviewTable$Table") (by decide) rfl (.tail _ gw_2_69) (by decide +kernel) (by decide +kernel)) <|
    zall_c (zs_putrF X (pc := 20) (ty := (Jvm.ClassFile.FieldType.array (Jvm.ClassFile.FieldType.object "ReviewTable$Table"))) zc_X0 (by decide) (zin ui_X0) tyX0_ok nmX0 (.tail _ gw_2_75) rfl hnm rfl (by decide +kernel) (by decide +kernel) (by decide +kernel) zP_arr) <|
    zall_c (zs_iconst X (pc := 23) (by decide) (by decide +kernel)) <|
    zall_c (zs_istore_n X (pc := 24) (q := 1) rfl (by decide) (by decide +kernel)) <|
    zall_c (zs_iload_n X (pc := 25) (q := 1) rfl (by decide +kernel)) <|
    zall_c (zs_bipush X (pc := 26) (by decide) (by decide +kernel) (by decide +kernel)) <|
    zall_c (zs_icmp_ge X (pc := 28) (off := 22) (by decide +kernel) (by decide)) <|
    zall_c (zs_aload_n X (pc := 31) (q := 0) rfl (by decide +kernel)) <|
    zall_c (zs_getr X (pc := 32) zc_X0 (by decide) (zin ui_X0) (.tail _ gw_2_75) (by decide +kernel) (by decide +kernel)) <|
    zall_c (zs_iload_n X (pc := 35) (q := 1) rfl (by decide +kernel)) <|
    zall_c (zs_new X (pc := 36) zc_X5 (zin ui_X5) tyX5_ok (.tail _ gw_2_69) (.tail _ gw_1_101) (.tail _ gw_1_8) (by decide +kernel) (by decide +kernel)) <|
    zall_c (zs_dup X (pc := 39) (by decide +kernel)) <|
    zall_c (zs_callI X (pc := 40) (rt := none) (fun _ ht => ⟨(zCB ht gw_1_104 gw_1_8 gw_2_71 rfl rfl (by decide +kernel) ⟨Nat.le_of_ble_eq_true rfl, Nat.le_of_ble_eq_true rfl⟩), rfl, ht _ (.tail _ gw_1_103)⟩) h0 (by decide +kernel)) <|
    zall_c (zs_aastore X (pc := 43) (by decide) zc_X5 rfl (by decide +kernel)) <|
    zall_c (zs_iinc X (pc := 44) (by decide) (by decide +kernel)) <|
    zall_c (zs_goto X (pc := 47) (off := (-22)) (by decide +kernel) (by decide)) <|
    zall_c (zs_vret X (pc := 50) rfl (by decide +kernel)) <|
    zall_n
theorem met_X0_init {l : Launch} (hl : l.stackTraces = false) {T0 : ZTf} (h0 : zMet l yX5_init (Cond.code yX5_init cX5_init 2 (Option.none : Option Jvm.ClassFile.FieldType) :: zG) rm_X5_init 58 618 T0) {T : ZTf} (bd : zBd (cd_X0_init T0) 2 355 3774 T) : zMet l yX0_init (Cond.code yX0_init cX0_init 2 (Option.none : Option Jvm.ClassFile.FieldType) :: zG) rm_X0_init 355 3774 T := zMet_of hl (by decide +kernel) rfl rfl rfl rfl (hs_X0_init hl h0) bd
