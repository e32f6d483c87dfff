abbrev rm_X9_load : Room := { frames := 11, cells := 0, slots := 0, locals := 243 }
def cd_X9_load (T0 : ZTf) (T1 : ZTf) (T2 : ZTf) (T3 : ZTf) (T4 : ZTf) (T5 : ZTf) (T6 : ZTf) : List (Nat × ZTr) := [(0, tAld 0 1), (1, tC (zi 0) 2), (2, tPutI 12 0 (fun _ => True) 5), (5, tAld 0 6), (6, tAld 0 7), (7, tGetI 12 6 10), (10, tPutI 12 7 (fun _ => True) 13), (13, tAld 0 14), (14, tC (zi 0) 15), (15, tPutI 12 6 (fun _ => True) 18), (18, tAld 0 19), (19, tC (zi 0) 20), (20, tPutI 12 8 (fun _ => True) 23), (23, tAld 0 24), (24, tC (zi 0) 25), (25, tPutI 12 12 (fun _ => True) 28), (28, tAld 0 29), (29, tC (zi (-1)) 30), (30, tPutI 12 13 (fun _ => True) 33), (33, tC (zi 0) 34), (34, tIst 1 35), (35, tIld 1 36), (36, tC (zi 516) 39), (39, tIc_ge 55 42), (42, tAld 0 43), (43, tGetR 12 2 46), (46, tIld 1 47), (47, tC (zi 0) 48), (48, tIas 20 (fun _ => True) 49), (49, tInc 1 1 52), (52, tGo 35), (55, tAld 0 56), (56, tAld 0 57), (57, tGetR 12 2 60), (60, tPutR 12 3 63), (63, tAld 0 64), (64, tCall0 1 T0 (zRcv 12) 67), (67, tAld 0 68), (68, tCall0 1 T1 (zRcv 12) 71), (71, tAld 0 72), (72, tCall0 1 T2 (zRcv 12) 75), (75, tAld 0 76), (76, tCall0 1 T3 (zRcv 12) 79), (79, tIf_eq 96 82), (82, tAld 0 83), (83, tGetI 12 10 86), (86, tIf_eq 96 89), (89, tAld 0 90), (90, tCall0 1 T4 (zRcv 12) 93), (93, tGo 75), (96, tAld 0 97), (97, tAld 0 98), (98, tGetR 12 1 101), (101, tPutR 12 3 104), (104, tAld 0 105), (105, tCall0 1 T3 (zRcv 12) 108), (108, tIf_ne 114 111), (111, tC (zi (-4)) 113), (113, tRi (fun _ => True)), (114, tAld 0 115), (115, tCall0 1 T5 (zRcv 12) 118), (118, tC (zi 0) 119), (119, tIst 1 120), (120, tIld 1 121), (121, tC (zi 516) 124), (124, tIc_ge 145 127), (127, tAld 0 128), (128, tGetR 12 1 131), (131, tIld 1 132), (132, tAld 0 133), (133, tGetR 12 2 136), (136, tIld 1 137), (137, tIal 20 138), (138, tIas 20 (fun _ => True) 139), (139, tInc 1 1 142), (142, tGo 120), (145, tAld 0 146), (146, tCall0 1 T6 (zRcv 12) 149), (149, tRi (fun _ => True))]
set_option maxRecDepth 100000 in
set_option maxHeartbeats 4000000 in
theorem hs_X9_load {l : Launch} (hl : l.stackTraces = false) {T0 : ZTf} {T1 : ZTf} {T2 : ZTf} {T3 : ZTf} {T4 : ZTf} {T5 : ZTf} {T6 : ZTf} (h0 : zMet l yX9_scan (Cond.code yX9_scan cX9_scan 2 (Option.none : Option Jvm.ClassFile.FieldType) :: zG) rm_X9_scan 0 0 T0) (h1 : zMet l yX9_parseTable (Cond.code yX9_parseTable cX9_parseTable 1 (Option.none : Option Jvm.ClassFile.FieldType) :: zG) rm_X9_parseTable 0 0 T1) (h2 : zMet l yX9_semicolon (Cond.code yX9_semicolon cX9_semicolon 1 (Option.none : Option Jvm.ClassFile.FieldType) :: zG) rm_X9_semicolon 0 0 T2) (h3 : zMet l yX9_good (Cond.code yX9_good cX9_good 1 (Option.some Jvm.ClassFile.FieldType.boolean) :: zG) rm_X9_good 0 0 T3) (h4 : zMet l yX9_parseStatement (Cond.code yX9_parseStatement cX9_parseStatement 1 (Option.none : Option Jvm.ClassFile.FieldType) :: zG) rm_X9_parseStatement 0 0 T4) (h5 : zMet l yX9_remember (Cond.code yX9_remember cX9_remember 2 (Option.none : Option Jvm.ClassFile.FieldType) :: zG) rm_X9_remember 0 0 T5) (h6 : zMet l yX9_workers (Cond.code yX9_workers cX9_workers 1 (Option.some Jvm.ClassFile.FieldType.int) :: zG) rm_X9_workers 0 0 T6) (p : Program) (e : Env) (s : State) (m : MethodId) (args : Array Value) (below : List Frame) (meth : Method) (c : Code) (D : va_G) (A : Nat → Prop) (a0 : Nat → Nat) (M0 : ZM) (K : ZRet) (KX : ZEx) (X : zCtx p l rm_X9_load s m args meth c cX9_load RX9 (Cond.code yX9_load cX9_load 2 (Option.some Jvm.ClassFile.FieldType.int) :: zG) 2 (Option.some Jvm.ClassFile.FieldType.int) D A a0 M0 0 0) (hnm : meth.name = yX9_load.name) (hout : ∀ x ∈ c.exceptionTable.toList, False) : ∀ q ∈ cd_X9_load T0 T1 T2 T3 T4 T5 T6, zSd p l e rm_X9_load s m args below meth c 2 D A a0 M0 K KX 0 0 q.1 q.2 :=
    zall_c (zs_aload_n X (pc := 0) (q := 0) rfl (by decide +kernel)) <|
    zall_c (zs_iconst X (pc := 1) (by decide) (by decide +kernel)) <|
    zall_c (zs_puti X (pc := 2) (ty := Jvm.ClassFile.FieldType.int) zc_X9 (by decide) (zin ui_X9) tyX9_ok nmX9 (.tail _ gw_7_215) rfl (by decide +kernel) (by decide +kernel) (by decide +kernel) zP_int) <|
    zall_c (zs_aload_n X (pc := 5) (q := 0) rfl (by decide +kernel)) <|
    zall_c (zs_aload_n X (pc := 6) (q := 0) rfl (by decide +kernel)) <|
    zall_c (zs_geti X (pc := 7) zc_X9 (by decide) (zin ui_X9) (.tail _ gw_7_221) (by decide +kernel) (by decide +kernel)) <|
    zall_c (zs_puti X (pc := 10) (ty := Jvm.ClassFile.FieldType.int) zc_X9 (by decide) (zin ui_X9) tyX9_ok nmX9 (.tail _ gw_7_222) rfl (by decide +kernel) (by decide +kernel) (by decide +kernel) zP_int) <|
    zall_c (zs_aload_n X (pc := 13) (q := 0) rfl (by decide +kernel)) <|
    zall_c (zs_iconst X (pc := 14) (by decide) (by decide +kernel)) <|
    zall_c (zs_puti X (pc := 15) (ty := Jvm.ClassFile.FieldType.int) zc_X9 (by decide) (zin ui_X9) tyX9_ok nmX9 (.tail _ gw_7_221) rfl (by decide +kernel) (by decide +kernel) (by decide +kernel) zP_int) <|
    zall_c (zs_aload_n X (pc := 18) (q := 0) rfl (by decide +kernel)) <|
    zall_c (zs_iconst X (pc := 19) (by decide) (by decide +kernel)) <|
    zall_c (zs_puti X (pc := 20) (ty := Jvm.ClassFile.FieldType.int) zc_X9 (by decide) (zin ui_X9) tyX9_ok nmX9 (.tail _ gw_7_223) rfl (by decide +kernel) (by decide +kernel) (by decide +kernel) zP_int) <|
    zall_c (zs_aload_n X (pc := 23) (q := 0) rfl (by decide +kernel)) <|
    zall_c (zs_iconst X (pc := 24) (by decide) (by decide +kernel)) <|
    zall_c (zs_puti X (pc := 25) (ty := Jvm.ClassFile.FieldType.int) zc_X9 (by decide) (zin ui_X9) tyX9_ok nmX9 (.tail _ gw_7_227) rfl (by decide +kernel) (by decide +kernel) (by decide +kernel) zP_int) <|
    zall_c (zs_aload_n X (pc := 28) (q := 0) rfl (by decide +kernel)) <|
    zall_c (zs_iconst X (pc := 29) (by decide) (by decide +kernel)) <|
    zall_c (zs_puti X (pc := 30) (ty := Jvm.ClassFile.FieldType.int) zc_X9 (by decide) (zin ui_X9) tyX9_ok nmX9 (.tail _ gw_7_228) rfl (by decide +kernel) (by decide +kernel) (by decide +kernel) zP_int) <|
    zall_c (zs_iconst X (pc := 33) (by decide) (by decide +kernel)) <|
    zall_c (zs_istore_n X (pc := 34) (q := 1) rfl (by decide) (by decide +kernel)) <|
    zall_c (zs_iload_n X (pc := 35) (q := 1) rfl (by decide +kernel)) <|
    zall_c (zs_sipush X (pc := 36) (by decide) (by decide +kernel) (by decide +kernel)) <|
    zall_c (zs_icmp_ge X (pc := 39) (off := 16) (by decide +kernel) (by decide)) <|
    zall_c (zs_aload_n X (pc := 42) (q := 0) rfl (by decide +kernel)) <|
    zall_c (zs_getr X (pc := 43) zc_X9 (by decide) (zin ui_X9) (.tail _ gw_7_217) (by decide +kernel) (by decide +kernel)) <|
    zall_c (zs_iload_n X (pc := 46) (q := 1) rfl (by decide +kernel)) <|
    zall_c (zs_iconst X (pc := 47) (by decide) (by decide +kernel)) <|
    zall_c (zs_iastore20 X (pc := 48) (by decide +kernel)) <|
    zall_c (zs_iinc X (pc := 49) (by decide) (by decide +kernel)) <|
    zall_c (zs_goto X (pc := 52) (off := (-17)) (by decide +kernel) (by decide)) <|
    zall_c (zs_aload_n X (pc := 55) (q := 0) rfl (by decide +kernel)) <|
    zall_c (zs_aload_n X (pc := 56) (q := 0) rfl (by decide +kernel)) <|
    zall_c (zs_getr X (pc := 57) zc_X9 (by decide) (zin ui_X9) (.tail _ gw_7_217) (by decide +kernel) (by decide +kernel)) <|
    zall_c (zs_putr X (pc := 60) (ty := (Jvm.ClassFile.FieldType.array Jvm.ClassFile.FieldType.int)) zc_X9 (by decide) (zin ui_X9) tyX9_ok nmX9 (.tail _ gw_7_218) rfl (by decide +kernel) (by decide +kernel) (by decide +kernel) zP_arr) <|
    zall_c (zs_aload_n X (pc := 63) (q := 0) rfl (by decide +kernel)) <|
    zall_c (zs_callV0 X (pc := 64) zc_X9 (fun _ ht => ⟨(zCB ht gw_8_72 gw_1_13 gw_8_69 rfl rfl (by decide +kernel) ⟨Nat.le_of_ble_eq_true rfl, Nat.le_of_ble_eq_true rfl⟩), ht _ (.tail _ gw_8_71), ht _ (.tail _ gp_31)⟩) h0 hout (by decide +kernel)) <|
    zall_c (zs_aload_n X (pc := 67) (q := 0) rfl (by decide +kernel)) <|
    zall_c (zs_callV0 X (pc := 68) zc_X9 (fun _ ht => ⟨(zCB ht gw_8_85 gw_1_13 gw_8_82 rfl rfl (by decide +kernel) ⟨Nat.le_of_ble_eq_true rfl, Nat.le_of_ble_eq_true rfl⟩), ht _ (.tail _ gw_8_84), ht _ (.tail _ gp_33)⟩) h1 hout (by decide +kernel)) <|
    zall_c (zs_aload_n X (pc := 71) (q := 0) rfl (by decide +kernel)) <|
    zall_c (zs_callV0 X (pc := 72) zc_X9 (fun _ ht => ⟨(zCB ht gw_8_123 gw_1_13 gw_8_120 rfl rfl (by decide +kernel) ⟨Nat.le_of_ble_eq_true rfl, Nat.le_of_ble_eq_true rfl⟩), ht _ (.tail _ gw_8_122), ht _ (.tail _ gp_41)⟩) h2 hout (by decide +kernel)) <|
    zall_c (zs_aload_n X (pc := 75) (q := 0) rfl (by decide +kernel)) <|
    zall_c (zs_callV0 X (pc := 76) zc_X9 (fun _ ht => ⟨(zCB ht gw_8_94 gw_1_13 gw_8_91 rfl rfl (by decide +kernel) ⟨Nat.le_of_ble_eq_true rfl, Nat.le_of_ble_eq_true rfl⟩), ht _ (.tail _ gw_8_93), ht _ (.tail _ gp_35)⟩) h3 hout (by decide +kernel)) <|
    zall_c (zs_if_eq X (pc := 79) (off := 17) (by decide +kernel) (by decide)) <|
    zall_c (zs_aload_n X (pc := 82) (q := 0) rfl (by decide +kernel)) <|
    zall_c (zs_geti X (pc := 83) zc_X9 (by decide) (zin ui_X9) (.tail _ gw_7_225) (by decide +kernel) (by decide +kernel)) <|
    zall_c (zs_if_eq X (pc := 86) (off := 10) (by decide +kernel) (by decide)) <|
    zall_c (zs_aload_n X (pc := 89) (q := 0) rfl (by decide +kernel)) <|
    zall_c (zs_callV0 X (pc := 90) zc_X9 (fun _ ht => ⟨(zCB ht gw_8_127 gw_1_13 gw_8_124 rfl rfl (by decide +kernel) ⟨Nat.le_of_ble_eq_true rfl, Nat.le_of_ble_eq_true rfl⟩), ht _ (.tail _ gw_8_126), ht _ (.tail _ gp_42)⟩) h4 hout (by decide +kernel)) <|
    zall_c (zs_goto X (pc := 93) (off := (-18)) (by decide +kernel) (by decide)) <|
    zall_c (zs_aload_n X (pc := 96) (q := 0) rfl (by decide +kernel)) <|
    zall_c (zs_aload_n X (pc := 97) (q := 0) rfl (by decide +kernel)) <|
    zall_c (zs_getr X (pc := 98) zc_X9 (by decide) (zin ui_X9) (.tail _ gw_7_216) (by decide +kernel) (by decide +kernel)) <|
    zall_c (zs_putr X (pc := 101) (ty := (Jvm.ClassFile.FieldType.array Jvm.ClassFile.FieldType.int)) zc_X9 (by decide) (zin ui_X9) tyX9_ok nmX9 (.tail _ gw_7_218) rfl (by decide +kernel) (by decide +kernel) (by decide +kernel) zP_arr) <|
    zall_c (zs_aload_n X (pc := 104) (q := 0) rfl (by decide +kernel)) <|
    zall_c (zs_callV0 X (pc := 105) zc_X9 (fun _ ht => ⟨(zCB ht gw_8_94 gw_1_13 gw_8_91 rfl rfl (by decide +kernel) ⟨Nat.le_of_ble_eq_true rfl, Nat.le_of_ble_eq_true rfl⟩), ht _ (.tail _ gw_8_93), ht _ (.tail _ gp_35)⟩) h3 hout (by decide +kernel)) <|
    zall_c (zs_if_ne X (pc := 108) (off := 6) (by decide +kernel) (by decide)) <|
    zall_c (zs_bipush X (pc := 111) (by decide) (by decide +kernel) (by decide +kernel)) <|
    zall_c (zs_iret X (pc := 113) rfl (by decide +kernel)) <|
    zall_c (zs_aload_n X (pc := 114) (q := 0) rfl (by decide +kernel)) <|
    zall_c (zs_callV0 X (pc := 115) zc_X9 (fun _ ht => ⟨(zCB ht gw_8_205 gw_1_13 gw_8_202 rfl rfl (by decide +kernel) ⟨Nat.le_of_ble_eq_true rfl, Nat.le_of_ble_eq_true rfl⟩), ht _ (.tail _ gw_8_204), ht _ (.tail _ gp_59)⟩) h5 hout (by decide +kernel)) <|
    zall_c (zs_iconst X (pc := 118) (by decide) (by decide +kernel)) <|
    zall_c (zs_istore_n X (pc := 119) (q := 1) rfl (by decide) (by decide +kernel)) <|
    zall_c (zs_iload_n X (pc := 120) (q := 1) rfl (by decide +kernel)) <|
    zall_c (zs_sipush X (pc := 121) (by decide) (by decide +kernel) (by decide +kernel)) <|
    zall_c (zs_icmp_ge X (pc := 124) (off := 21) (by decide +kernel) (by decide)) <|
    zall_c (zs_aload_n X (pc := 127) (q := 0) rfl (by decide +kernel)) <|
    zall_c (zs_getr X (pc := 128) zc_X9 (by decide) (zin ui_X9) (.tail _ gw_7_216) (by decide +kernel) (by decide +kernel)) <|
    zall_c (zs_iload_n X (pc := 131) (q := 1) rfl (by decide +kernel)) <|
    zall_c (zs_aload_n X (pc := 132) (q := 0) rfl (by decide +kernel)) <|
    zall_c (zs_getr X (pc := 133) zc_X9 (by decide) (zin ui_X9) (.tail _ gw_7_217) (by decide +kernel) (by decide +kernel)) <|
    zall_c (zs_iload_n X (pc := 136) (q := 1) rfl (by decide +kernel)) <|
    zall_c (zs_iaload20 X (pc := 137) (by decide +kernel)) <|
    zall_c (zs_iastore20 X (pc := 138) (by decide +kernel)) <|
    zall_c (zs_iinc X (pc := 139) (by decide) (by decide +kernel)) <|
    zall_c (zs_goto X (pc := 142) (off := (-22)) (by decide +kernel) (by decide)) <|
    zall_c (zs_aload_n X (pc := 145) (q := 0) rfl (by decide +kernel)) <|
    zall_c (zs_callV0 X (pc := 146) zc_X9 (fun _ ht => ⟨(zCB ht gw_8_136 gw_1_13 gw_8_133 rfl rfl (by decide +kernel) ⟨Nat.le_of_ble_eq_true rfl, Nat.le_of_ble_eq_true rfl⟩), ht _ (.tail _ gw_8_135), ht _ (.tail _ gp_44)⟩) h6 hout (by decide +kernel)) <|
    zall_c (zs_iret X (pc := 149) rfl (by decide +kernel)) <|
    zall_n
theorem met_X9_load {l : Launch} (hl : l.stackTraces = false) {T0 : ZTf} {T1 : ZTf} {T2 : ZTf} {T3 : ZTf} {T4 : ZTf} {T5 : ZTf} {T6 : ZTf} (h0 : zMet l yX9_scan (Cond.code yX9_scan cX9_scan 2 (Option.none : Option Jvm.ClassFile.FieldType) :: zG) rm_X9_scan 0 0 T0) (h1 : zMet l yX9_parseTable (Cond.code yX9_parseTable cX9_parseTable 1 (Option.none : Option Jvm.ClassFile.FieldType) :: zG) rm_X9_parseTable 0 0 T1) (h2 : zMet l yX9_semicolon (Cond.code yX9_semicolon cX9_semicolon 1 (Option.none : Option Jvm.ClassFile.FieldType) :: zG) rm_X9_semicolon 0 0 T2) (h3 : zMet l yX9_good (Cond.code yX9_good cX9_good 1 (Option.some Jvm.ClassFile.FieldType.boolean) :: zG) rm_X9_good 0 0 T3) (h4 : zMet l yX9_parseStatement (Cond.code yX9_parseStatement cX9_parseStatement 1 (Option.none : Option Jvm.ClassFile.FieldType) :: zG) rm_X9_parseStatement 0 0 T4) (h5 : zMet l yX9_remember (Cond.code yX9_remember cX9_remember 2 (Option.none : Option Jvm.ClassFile.FieldType) :: zG) rm_X9_remember 0 0 T5) (h6 : zMet l yX9_workers (Cond.code yX9_workers cX9_workers 1 (Option.some Jvm.ClassFile.FieldType.int) :: zG) rm_X9_workers 0 0 T6) {T : ZTf} (bd : zBd (cd_X9_load T0 T1 T2 T3 T4 T5 T6) 2 0 0 T) : zMet l yX9_load (Cond.code yX9_load cX9_load 2 (Option.some Jvm.ClassFile.FieldType.int) :: zG) rm_X9_load 0 0 T := zMet_of hl (by decide +kernel) rfl rfl rfl rfl (hs_X9_load hl h0 h1 h2 h3 h4 h5 h6) bd

abbrev rm_J5_append_cf1ce (a b : Nat) : Room := { frames := 4, cells := a, slots := b, locals := 105 }
def cd_J5_append_cf1ce (T0 : ZTf) (T1 : Nat → Nat → ZTf) (T2 : ZTf) : List (Nat × ZTr) := [(0, tAld 1 1), (1, tNn 9), (4, tNo), (5, tNo), (8, tNo), (9, tAld 1 10), (10, tCall0 1 T0 (zRcv 0) 13), (13, tIst 2 14), (14, tAld 0 15), (15, tAld 0 16), (16, tGetI 1 3 19), (19, tIld 2 20), (20, tAdd 21), (21, tEx (fun a b => tCall 2 a b (T1 a b) (zRcv 1) 24)), (24, tAld 0 25), (25, tAld 0 26), (26, tGetI 1 3 29), (29, tAld 1 30), (30, tCall0 3 T2 (zRcv 1) 33), (33, tAld 0 34), (34, tDup 35), (35, tGetI 1 3 38), (38, tIld 2 39), (39, tAdd 40), (40, tPutI 1 3 (fun _ => True) 43), (43, tAld 0 44), (44, tRa)]
set_option maxRecDepth 100000 in
set_option maxHeartbeats 4000000 in
theorem hs_J5_append_cf1ce {l : Launch} (hl : l.stackTraces = false) {a b : Nat} {T0 : ZTf} {T1 : Nat → Nat → ZTf} {T2 : ZTf} (h0 : zMet l yJ0_length_8abf5 (Cond.code yJ0_length_8abf5 cJ0_length_8abf5 1 (Option.some Jvm.ClassFile.FieldType.int) :: zG) rm_J0_length_8abf5 0 0 T0) (h1 : ∀ a b, zMet l yJ5_ensureCapacityInternal_d00df (Cond.code yJ5_ensureCapacityInternal_d00df cJ5_ensureCapacityInternal_d00df 3 (Option.none : Option Jvm.ClassFile.FieldType) :: zG) (rm_J5_ensureCapacityInternal_d00df a b) a b (T1 a b)) (h2 : zMet l yJ5_putStringAt_47b60 (Cond.code yJ5_putStringAt_47b60 cJ5_putStringAt_47b60 3 (Option.none : Option Jvm.ClassFile.FieldType) :: zG) rm_J5_putStringAt_47b60 0 0 T2) (p : Program) (e : Env) (s : State) (m : MethodId) (args : Array Value) (below : List Frame) (meth : Method) (c : Code) (D : va_G) (A : Nat → Prop) (a0 : Nat → Nat) (M0 : ZM) (K : ZRet) (KX : ZEx) (X : zCtx p l (rm_J5_append_cf1ce a b) s m args meth c cJ5_append_cf1ce RJ5 (Cond.code yJ5_append_cf1ce cJ5_append_cf1ce 3 (Option.some (Jvm.ClassFile.FieldType.object "java/lang/AbstractStringBuilder")) :: zG) 3 (Option.some (Jvm.ClassFile.FieldType.object "java/lang/AbstractStringBuilder")) D A a0 M0 a b) (hnm : meth.name = yJ5_append_cf1ce.name) (hout : ∀ x ∈ c.exceptionTable.toList, False) : ∀ q ∈ cd_J5_append_cf1ce T0 T1 T2, zSd p l e (rm_J5_append_cf1ce a b) s m args below meth c 3 D A a0 M0 K KX a b q.1 q.2 :=
    zall_c (zs_aload_n X (pc := 0) (q := 1) rfl (by decide +kernel)) <|
    zall_c (zs_ifnonnull X (pc := 1) (off := 8) (by decide +kernel) (by decide)) <|
    zall_c (zs_no (pc := 4)) <|
    zall_c (zs_no (pc := 5)) <|
    zall_c (zs_no (pc := 8)) <|
    zall_c (zs_aload_n X (pc := 9) (q := 1) rfl (by decide +kernel)) <|
    zall_c (zs_callV0 X (pc := 10) zc_J0 (fun _ ht => ⟨(zCB ht gw_2_203 gw_1_6 gw_3_135 rfl rfl (by decide +kernel) ⟨Nat.le_of_ble_eq_true rfl, Nat.le_of_ble_eq_true rfl⟩), ht _ (.tail _ gw_2_201), ht _ (.tail _ gw_2_202)⟩) h0 hout (by decide +kernel)) <|
    zall_c (zs_istore_n X (pc := 13) (q := 2) rfl (by decide) (by decide +kernel)) <|
    zall_c (zs_aload_n X (pc := 14) (q := 0) rfl (by decide +kernel)) <|
    zall_c (zs_aload_n X (pc := 15) (q := 0) rfl (by decide +kernel)) <|
    zall_c (zs_geti X (pc := 16) zc_J4 (by decide) (zin ui_J4) (.tail _ gw_1_75) (by decide +kernel) (by decide +kernel)) <|
    zall_c (zs_iload_n X (pc := 19) (q := 2) rfl (by decide +kernel)) <|
    zall_c (zs_iadd X (pc := 20) (by decide +kernel)) <|
    zall_c (zs_ex (fun a b => zs_callV X (pc := 21) zc_J4 (fun _ ht => ⟨(zCB ht gw_3_83 gw_1_4 gw_3_80 rfl rfl (by decide +kernel) ⟨Nat.le_of_ble_eq_true rfl, Nat.le_of_ble_eq_true rfl⟩), ht _ (.tail _ gw_3_82), ht _ (.tail _ gx_1)⟩) (h1 a b) hout (by decide +kernel))) <|
    zall_c (zs_aload_n X (pc := 24) (q := 0) rfl (by decide +kernel)) <|
    zall_c (zs_aload_n X (pc := 25) (q := 0) rfl (by decide +kernel)) <|
    zall_c (zs_geti X (pc := 26) zc_J4 (by decide) (zin ui_J4) (.tail _ gw_1_75) (by decide +kernel) (by decide +kernel)) <|
    zall_c (zs_aload_n X (pc := 29) (q := 1) rfl (by decide +kernel)) <|
    zall_c (zs_callV0 X (pc := 30) zc_J4 (fun _ ht => ⟨(zCB ht gw_3_139 gw_1_4 gw_3_136 rfl rfl (by decide +kernel) ⟨Nat.le_of_ble_eq_true rfl, Nat.le_of_ble_eq_true rfl⟩), ht _ (.tail _ gw_3_138), ht _ (.tail _ gx_3)⟩) h2 hout (by decide +kernel)) <|
    zall_c (zs_aload_n X (pc := 33) (q := 0) rfl (by decide +kernel)) <|
    zall_c (zs_dup X (pc := 34) (by decide +kernel)) <|
    zall_c (zs_geti X (pc := 35) zc_J4 (by decide) (zin ui_J4) (.tail _ gw_1_75) (by decide +kernel) (by decide +kernel)) <|
    zall_c (zs_iload_n X (pc := 38) (q := 2) rfl (by decide +kernel)) <|
    zall_c (zs_iadd X (pc := 39) (by decide +kernel)) <|
    zall_c (zs_puti X (pc := 40) (ty := Jvm.ClassFile.FieldType.int) zc_J4 (by decide) (zin ui_J4) tyJ4_ok nmJ4 (.tail _ gw_1_75) rfl (by decide +kernel) (by decide +kernel) (by decide +kernel) zP_int) <|
    zall_c (zs_aload_n X (pc := 43) (q := 0) rfl (by decide +kernel)) <|
    zall_c (zs_aret X (pc := 44) rfl (Or.inl ⟨_, rfl⟩) (by decide +kernel)) <|
    zall_n
theorem met_J5_append_cf1ce {l : Launch} (hl : l.stackTraces = false) {a b : Nat} {T0 : ZTf} {T1 : Nat → Nat → ZTf} {T2 : ZTf} (h0 : zMet l yJ0_length_8abf5 (Cond.code yJ0_length_8abf5 cJ0_length_8abf5 1 (Option.some Jvm.ClassFile.FieldType.int) :: zG) rm_J0_length_8abf5 0 0 T0) (h1 : ∀ a b, zMet l yJ5_ensureCapacityInternal_d00df (Cond.code yJ5_ensureCapacityInternal_d00df cJ5_ensureCapacityInternal_d00df 3 (Option.none : Option Jvm.ClassFile.FieldType) :: zG) (rm_J5_ensureCapacityInternal_d00df a b) a b (T1 a b)) (h2 : zMet l yJ5_putStringAt_47b60 (Cond.code yJ5_putStringAt_47b60 cJ5_putStringAt_47b60 3 (Option.none : Option Jvm.ClassFile.FieldType) :: zG) rm_J5_putStringAt_47b60 0 0 T2) {T : ZTf} (bd : zBd (cd_J5_append_cf1ce T0 T1 T2) 3 a b T) : zMet l yJ5_append_cf1ce (Cond.code yJ5_append_cf1ce cJ5_append_cf1ce 3 (Option.some (Jvm.ClassFile.FieldType.object "java/lang/AbstractStringBuilder")) :: zG) (rm_J5_append_cf1ce a b) a b T := zMet_of hl (by decide +kernel) rfl rfl rfl rfl (hs_J5_append_cf1ce hl h0 h1 h2) bd

abbrev rm_J0_init_81219 : Room := { frames := 5, cells := 1, slots := 6, locals := 130 }
def cd_J0_init_81219 (T0 : ZTf) : List (Nat × ZTr) := [(0, tAld 0 1), (1, tAld 1 2), (2, tC (zr none) 3), (3, tCall 3 1 6 (zNt T0) (zRcv 0) 6), (6, tRv)]
set_option maxRecDepth 100000 in
set_option maxHeartbeats 4000000 in
theorem hs_J0_init_81219 {l : Launch} (hl : l.stackTraces = false) {T0 : ZTf} (h0 : zMet l yJ0_init_db425 (Cond.code yJ0_init_db425 cJ0_init_db425 5 (Option.none : Option Jvm.ClassFile.FieldType) :: zG) rm_J0_init_db425 1 6 T0) (p : Program) (e : Env) (s : State) (m : MethodId) (args : Array Value) (below : List Frame) (meth : Method) (c : Code) (D : va_G) (A : Nat → Prop) (a0 : Nat → Nat) (M0 : ZM) (K : ZRet) (KX : ZEx) (X : zCtx p l rm_J0_init_81219 s m args meth c cJ0_init_81219 RJ0 (Cond.code yJ0_init_81219 cJ0_init_81219 2 (Option.none : Option Jvm.ClassFile.FieldType) :: zG) 2 (Option.none : Option Jvm.ClassFile.FieldType) D A a0 M0 1 6) (hnm : meth.name = yJ0_init_81219.name) (hout : ∀ x ∈ c.exceptionTable.toList, False) : ∀ q ∈ cd_J0_init_81219 T0, zSd p l e rm_J0_init_81219 s m args below meth c 2 D A a0 M0 K KX 1 6 q.1 q.2 :=
    zall_c (zs_aload_n X (pc := 0) (q := 0) rfl (by decide +kernel)) <|
    zall_c (zs_aload_n X (pc := 1) (q := 1) rfl (by decide +kernel)) <|
    zall_c (zs_anull X (pc := 2) (by decide +kernel)) <|
    zall_c (zs_callI X (pc := 3) (rt := none) (fun _ ht => ⟨(zCB ht gw_3_206 gw_1_6 gw_3_204 rfl rfl (by decide +kernel) ⟨Nat.le_of_ble_eq_true rfl, Nat.le_of_ble_eq_true rfl⟩), rfl, ht _ (.tail _ gw_3_205)⟩) h0 (by decide +kernel)) <|
    zall_c (zs_vret X (pc := 6) rfl (by decide +kernel)) <|
    zall_n
theorem met_J0_init_81219 {l : Launch} (hl : l.stackTraces = false) {T0 : ZTf} (h0 : zMet l yJ0_init_db425 (Cond.code yJ0_init_db425 cJ0_init_db425 5 (Option.none : Option Jvm.ClassFile.FieldType) :: zG) rm_J0_init_db425 1 6 T0) {T : ZTf} (bd : zBd (cd_J0_init_81219 T0) 2 1 6 T) : zMet l yJ0_init_81219 (Cond.code yJ0_init_81219 cJ0_init_81219 2 (Option.none : Option Jvm.ClassFile.FieldType) :: zG) rm_J0_init_81219 1 6 T := zMet_of hl (by decide +kernel) rfl rfl rfl rfl (hs_J0_init_81219 hl h0) bd

abbrev rm_J4_append_15ec4 (a b : Nat) : Room := { frames := 5, cells := a, slots := b, locals := 127 }
def cd_J4_append_15ec4 (T0 : Nat → Nat → ZTf) : List (Nat × ZTr) := [(0, tAld 0 1), (1, tAld 1 2), (2, tEx (fun a b => tCall 2 a b (zNt (T0 a b)) (zRcv 1) 5)), (5, tPop 6), (6, tAld 0 7), (7, tRa)]
set_option maxRecDepth 100000 in
set_option maxHeartbeats 4000000 in
theorem hs_J4_append_15ec4 {l : Launch} (hl : l.stackTraces = false) {a b : Nat} {T0 : Nat → Nat → ZTf} (h0 : ∀ a b, zMet l yJ5_append_cf1ce (Cond.code yJ5_append_cf1ce cJ5_append_cf1ce 3 (Option.some (Jvm.ClassFile.FieldType.object "java/lang/AbstractStringBuilder")) :: zG) (rm_J5_append_cf1ce a b) a b (T0 a b)) (p : Program) (e : Env) (s : State) (m : MethodId) (args : Array Value) (below : List Frame) (meth : Method) (c : Code) (D : va_G) (A : Nat → Prop) (a0 : Nat → Nat) (M0 : ZM) (K : ZRet) (KX : ZEx) (X : zCtx p l (rm_J4_append_15ec4 a b) s m args meth c cJ4_append_15ec4 RJ4 (Cond.code yJ4_append_15ec4 cJ4_append_15ec4 2 (Option.some (Jvm.ClassFile.FieldType.object "java/lang/StringBuilder")) :: zG) 2 (Option.some (Jvm.ClassFile.FieldType.object "java/lang/StringBuilder")) D A a0 M0 a b) (hnm : meth.name = yJ4_append_15ec4.name) (hout : ∀ x ∈ c.exceptionTable.toList, False) : ∀ q ∈ cd_J4_append_15ec4 T0, zSd p l e (rm_J4_append_15ec4 a b) s m args below meth c 2 D A a0 M0 K KX a b q.1 q.2 :=
    zall_c (zs_aload_n X (pc := 0) (q := 0) rfl (by decide +kernel)) <|
    zall_c (zs_aload_n X (pc := 1) (q := 1) rfl (by decide +kernel)) <|
    zall_c (zs_ex (fun a b => zs_callSU X (pc := 2) zc_J4 (fun _ ht => (zCSU ht gw_3_75 gw_1_4 gw_3_73 gw_10_173 gw_1_84 gw_3_74 rfl rfl (by decide +kernel) ⟨Nat.le_of_ble_eq_true rfl, Nat.le_of_ble_eq_true rfl⟩)) (h0 a b) (by decide +kernel))) <|
    zall_c (zs_pop X (pc := 5) (by decide +kernel)) <|
    zall_c (zs_aload_n X (pc := 6) (q := 0) rfl (by decide +kernel)) <|
    zall_c (zs_aret X (pc := 7) rfl (Or.inl ⟨_, rfl⟩) (by decide +kernel)) <|
    zall_n
theorem met_J4_append_15ec4 {l : Launch} (hl : l.stackTraces = false) {a b : Nat} {T0 : Nat → Nat → ZTf} (h0 : ∀ a b, zMet l yJ5_append_cf1ce (Cond.code yJ5_append_cf1ce cJ5_append_cf1ce 3 (Option.some (Jvm.ClassFile.FieldType.object "java/lang/AbstractStringBuilder")) :: zG) (rm_J5_append_cf1ce a b) a b (T0 a b)) {T : ZTf} (bd : zBd (cd_J4_append_15ec4 T0) 2 a b T) : zMet l yJ4_append_15ec4 (Cond.code yJ4_append_15ec4 cJ4_append_15ec4 2 (Option.some (Jvm.ClassFile.FieldType.object "java/lang/StringBuilder")) :: zG) (rm_J4_append_15ec4 a b) a b T := zMet_of hl (by decide +kernel) rfl rfl rfl rfl (hs_J4_append_15ec4 hl h0) bd

abbrev rm_J4_toString_0e30d : Room := { frames := 6, cells := 2, slots := 10, locals := 151 }
def cd_J4_toString_0e30d (T0 : ZTf) : List (Nat × ZTr) := [(0, tNew 0 4 3), (3, tDup 4), (4, tAld 0 5), (5, tCall 2 1 6 (zNt T0) (zRcv 0) 8), (8, tRa)]
set_option maxRecDepth 100000 in
set_option maxHeartbeats 4000000 in
theorem hs_J4_toString_0e30d {l : Launch} (hl : l.stackTraces = false) {T0 : ZTf} (h0 : zMet l yJ0_init_81219 (Cond.code yJ0_init_81219 cJ0_init_81219 2 (Option.none : Option Jvm.ClassFile.FieldType) :: zG) rm_J0_init_81219 1 6 T0) (p : Program) (e : Env) (s : State) (m : MethodId) (args : Array Value) (below : List Frame) (meth : Method) (c : Code) (D : va_G) (A : Nat → Prop) (a0 : Nat → Nat) (M0 : ZM) (K : ZRet) (KX : ZEx) (X : zCtx p l rm_J4_toString_0e30d s m args meth c cJ4_toString_0e30d RJ4 (Cond.code yJ4_toString_0e30d cJ4_toString_0e30d 1 (Option.some (Jvm.ClassFile.FieldType.object "java/lang/String")) :: zG) 1 (Option.some (Jvm.ClassFile.FieldType.object "java/lang/String")) D A a0 M0 2 10) (hnm : meth.name = yJ4_toString_0e30d.name) (hout : ∀ x ∈ c.exceptionTable.toList, False) : ∀ q ∈ cd_J4_toString_0e30d T0, zSd p l e rm_J4_toString_0e30d s m args below meth c 1 D A a0 M0 K KX 2 10 q.1 q.2 :=
    zall_c (zs_new X (pc := 0) zc_J0 (zin ui_J0) tyJ0_ok (.tail _ gw_3_199) (.tail _ gw_3_200) (.tail _ gw_1_6) (by decide +kernel) (by decide +kernel)) <|
    zall_c (zs_dup X (pc := 3) (by decide +kernel)) <|
    zall_c (zs_aload_n X (pc := 4) (q := 0) rfl (by decide +kernel)) <|
    zall_c (zs_callI X (pc := 5) (rt := none) (fun _ ht => ⟨(zCB ht gw_3_203 gw_1_6 gw_3_201 rfl rfl (by decide +kernel) ⟨Nat.le_of_ble_eq_true rfl, Nat.le_of_ble_eq_true rfl⟩), rfl, ht _ (.tail _ gw_3_202)⟩) h0 (by decide +kernel)) <|
    zall_c (zs_aret X (pc := 8) rfl (Or.inl ⟨_, rfl⟩) (by decide +kernel)) <|
    zall_n
theorem met_J4_toString_0e30d {l : Launch} (hl : l.stackTraces = false) {T0 : ZTf} (h0 : zMet l yJ0_init_81219 (Cond.code yJ0_init_81219 cJ0_init_81219 2 (Option.none : Option Jvm.ClassFile.FieldType) :: zG) rm_J0_init_81219 1 6 T0) {T : ZTf} (bd : zBd (cd_J4_toString_0e30d T0) 1 2 10 T) : zMet l yJ4_toString_0e30d (Cond.code yJ4_toString_0e30d cJ4_toString_0e30d 1 (Option.some (Jvm.ClassFile.FieldType.object "java/lang/String")) :: zG) rm_J4_toString_0e30d 2 10 T := zMet_of hl (by decide +kernel) rfl rfl rfl rfl (hs_J4_toString_0e30d hl h0) bd

abbrev rm_X1_textBetween : Room := { frames := 7, cells := 4, slots := 30, locals := 171 }
def cd_X1_textBetween (T0 : Nat → Nat → ZTf) (T1 : Nat → Nat → ZTf) (T2 : ZTf) : List (Nat × ZTr) := [(0, tAld 0 1), (1, tGetR 5 2 4), (4, tC (zi 0) 5), (5, tEx (fun a b => tCall 2 a b (T0 a b) (zRcv 1) 8)), (8, tC (zi 0) 9), (9, tIld 1 10), (10, tMth2 zmax 13), (13, tIst 3 14), (14, tIld 3 15), (15, tIld 2 16), (16, tAld 0 17), (17, tGetI 5 1 20), (20, tMth2 zmin 23), (23, tIc_ge 47 26), (26, tAld 0 27), (27, tGetR 5 2 30), (30, tAld 0 31), (31, tGetR 5 0 34), (34, tIld 3 35), (35, tIal 20 36), (36, tUn zi2c 37), (37, tEx (fun a b => tCall 2 a b (T1 a b) (zRcv 1) 40)), (40, tPop 41), (41, tInc 3 1 44), (44, tGo 14), (47, tAld 0 48), (48, tGetR 5 2 51), (51, tCall 1 2 10 T2 (zRcv 1) 54), (54, tRa)]
set_option maxRecDepth 100000 in
set_option maxHeartbeats 4000000 in
theorem hs_X1_textBetween {l : Launch} (hl : l.stackTraces = false) {T0 : Nat → Nat → ZTf} {T1 : Nat → Nat → ZTf} {T2 : ZTf} (h0 : ∀ a b, zMet l yJ4_setLength_d00df (Cond.code yJ4_setLength_d00df cJ4_setLength_d00df 2 (Option.none : Option Jvm.ClassFile.FieldType) :: zG) (rm_J4_setLength_d00df a b) a b (T0 a b)) (h1 : ∀ a b, zMet l yJ4_append_cf468 (Cond.code yJ4_append_cf468 cJ4_append_cf468 2 (Option.some (Jvm.ClassFile.FieldType.object "java/lang/StringBuilder")) :: zG) (rm_J4_append_cf468 a b) a b (T1 a b)) (h2 : zMet l yJ4_toString_0e30d (Cond.code yJ4_toString_0e30d cJ4_toString_0e30d 1 (Option.some (Jvm.ClassFile.FieldType.object "java/lang/String")) :: zG) rm_J4_toString_0e30d 2 10 T2) (p : Program) (e : Env) (s : State) (m : MethodId) (args : Array Value) (below : List Frame) (meth : Method) (c : Code) (D : va_G) (A : Nat → Prop) (a0 : Nat → Nat) (M0 : ZM) (K : ZRet) (KX : ZEx) (X : zCtx p l rm_X1_textBetween s m args meth c cX1_textBetween RX1 (Cond.code yX1_textBetween cX1_textBetween 4 (Option.some (Jvm.ClassFile.FieldType.object "java/lang/String")) :: zG) 4 (Option.some (Jvm.ClassFile.FieldType.object "java/lang/String")) D A a0 M0 4 30) (hnm : meth.name = yX1_textBetween.name) (hout : ∀ x ∈ c.exceptionTable.toList, False) : ∀ q ∈ cd_X1_textBetween T0 T1 T2, zSd p l e rm_X1_textBetween s m args below meth c 4 D A a0 M0 K KX 4 30 q.1 q.2 :=
    zall_c (zs_aload_n X (pc := 0) (q := 0) rfl (by decide +kernel)) <|
    zall_c (zs_getr X (pc := 1) zc_X1 (by decide) (zin ui_X1) (.tail _ gw_1_92) (by decide +kernel) (by decide +kernel)) <|
    zall_c (zs_iconst X (pc := 4) (by decide) (by decide +kernel)) <|
    zall_c (zs_ex (fun a b => zs_callV X (pc := 5) zc_J4 (fun _ ht => ⟨(zCB ht gw_3_57 gw_1_5 gw_3_54 rfl rfl (by decide +kernel) ⟨Nat.le_of_ble_eq_true rfl, Nat.le_of_ble_eq_true rfl⟩), ht _ (.tail _ gw_3_55), ht _ (.tail _ gw_3_56)⟩) (h0 a b) hout (by decide +kernel))) <|
    zall_c (zs_iconst X (pc := 8) (by decide) (by decide +kernel)) <|
    zall_c (zs_iload_n X (pc := 9) (q := 1) rfl (by decide +kernel)) <|
    zall_c (zs_mmax X (pc := 10) (.tail _ gw_4_137) (.tail _ gw_3_92) (.tail _ gw_1_27) (.tail _ gw_3_93) (Nat.le_of_ble_eq_true rfl) (Nat.le_of_ble_eq_true rfl) (by decide +kernel)) <|
    zall_c (zs_istore_n X (pc := 13) (q := 3) rfl (by decide) (by decide +kernel)) <|
    zall_c (zs_iload_n X (pc := 14) (q := 3) rfl (by decide +kernel)) <|
    zall_c (zs_iload_n X (pc := 15) (q := 2) rfl (by decide +kernel)) <|
    zall_c (zs_aload_n X (pc := 16) (q := 0) rfl (by decide +kernel)) <|
    zall_c (zs_geti X (pc := 17) zc_X1 (by decide) (zin ui_X1) (.tail _ gw_1_89) (by decide +kernel) (by decide +kernel)) <|
    zall_c (zs_mmin X (pc := 20) (.tail _ gw_4_138) (.tail _ gw_3_110) (.tail _ gw_1_27) (.tail _ gw_3_111) (Nat.le_of_ble_eq_true rfl) (Nat.le_of_ble_eq_true rfl) (by decide +kernel)) <|
    zall_c (zs_icmp_ge X (pc := 23) (off := 24) (by decide +kernel) (by decide)) <|
    zall_c (zs_aload_n X (pc := 26) (q := 0) rfl (by decide +kernel)) <|
    zall_c (zs_getr X (pc := 27) zc_X1 (by decide) (zin ui_X1) (.tail _ gw_1_92) (by decide +kernel) (by decide +kernel)) <|
    zall_c (zs_aload_n X (pc := 30) (q := 0) rfl (by decide +kernel)) <|
    zall_c (zs_getr X (pc := 31) zc_X1 (by decide) (zin ui_X1) (.tail _ gw_1_87) (by decide +kernel) (by decide +kernel)) <|
    zall_c (zs_iload_n X (pc := 34) (q := 3) rfl (by decide +kernel)) <|
    zall_c (zs_iaload20 X (pc := 35) (by decide +kernel)) <|
    zall_c (zs_i2c X (pc := 36) (by decide +kernel)) <|
    zall_c (zs_ex (fun a b => zs_callV X (pc := 37) zc_J4 (fun _ ht => ⟨(zCB ht gw_4_142 gw_1_5 gw_4_139 rfl rfl (by decide +kernel) ⟨Nat.le_of_ble_eq_true rfl, Nat.le_of_ble_eq_true rfl⟩), ht _ (.tail _ gw_4_140), ht _ (.tail _ gw_4_141)⟩) (h1 a b) hout (by decide +kernel))) <|
    zall_c (zs_pop X (pc := 40) (by decide +kernel)) <|
    zall_c (zs_iinc X (pc := 41) (by decide) (by decide +kernel)) <|
    zall_c (zs_goto X (pc := 44) (off := (-30)) (by decide +kernel) (by decide)) <|
    zall_c (zs_aload_n X (pc := 47) (q := 0) rfl (by decide +kernel)) <|
    zall_c (zs_getr X (pc := 48) zc_X1 (by decide) (zin ui_X1) (.tail _ gw_1_92) (by decide +kernel) (by decide +kernel)) <|
    zall_c (zs_callV X (pc := 51) zc_J4 (fun _ ht => ⟨(zCB ht gw_3_198 gw_1_5 gw_4_152 rfl rfl (by decide +kernel) ⟨Nat.le_of_ble_eq_true rfl, Nat.le_of_ble_eq_true rfl⟩), ht _ (.tail _ gw_3_196), ht _ (.tail _ gw_3_197)⟩) h2 hout (by decide +kernel)) <|
    zall_c (zs_aret X (pc := 54) rfl (Or.inl ⟨_, rfl⟩) (by decide +kernel)) <|
    zall_n
theorem met_X1_textBetween {l : Launch} (hl : l.stackTraces = false) {T0 : Nat → Nat → ZTf} {T1 : Nat → Nat → ZTf} {T2 : ZTf} (h0 : ∀ a b, zMet l yJ4_setLength_d00df (Cond.code yJ4_setLength_d00df cJ4_setLength_d00df 2 (Option.none : Option Jvm.ClassFile.FieldType) :: zG) (rm_J4_setLength_d00df a b) a b (T0 a b)) (h1 : ∀ a b, zMet l yJ4_append_cf468 (Cond.code yJ4_append_cf468 cJ4_append_cf468 2 (Option.some (Jvm.ClassFile.FieldType.object "java/lang/StringBuilder")) :: zG) (rm_J4_append_cf468 a b) a b (T1 a b)) (h2 : zMet l yJ4_toString_0e30d (Cond.code yJ4_toString_0e30d cJ4_toString_0e30d 1 (Option.some (Jvm.ClassFile.FieldType.object "java/lang/String")) :: zG) rm_J4_toString_0e30d 2 10 T2) {T : ZTf} (bd : zBd (cd_X1_textBetween T0 T1 T2) 4 4 30 T) : zMet l yX1_textBetween (Cond.code yX1_textBetween cX1_textBetween 4 (Option.some (Jvm.ClassFile.FieldType.object "java/lang/String")) :: zG) rm_X1_textBetween 4 30 T := zMet_of hl (by decide +kernel) rfl rfl rfl rfl (hs_X1_textBetween hl h0 h1 h2) bd

abbrev rm_X3_readKeyword : Room := { frames := 7, cells := 0, slots := 0, locals := 160 }
def cd_X3_readKeyword (T0 : ZTf) (T1 : ZTf) (T2 : ZTf) : List (Nat × ZTr) := [(0, tAld 0 1), (1, tAld 1 2), (2, tCall0 2 T0 (zRcv 6) 5), (5, tIf_ne 14 8), (8, tAld 0 9), (9, tC (zi 1) 10), (10, tCall0 2 T1 (zRcv 6) 13), (13, tRi zPz), (14, tAld 0 15), (15, tCall0 1 T2 (zRcv 6) 18), (18, tC (zi 1) 19), (19, tRi zPz)]
set_option maxRecDepth 100000 in
set_option maxHeartbeats 4000000 in
theorem hs_X3_readKeyword {l : Launch} (hl : l.stackTraces = false) {T0 : ZTf} {T1 : ZTf} {T2 : ZTf} (h0 : zMet l yX3_isAt (Cond.code yX3_isAt cX3_isAt 2 (Option.some Jvm.ClassFile.FieldType.boolean) :: zG) rm_X3_isAt 0 0 T0) (h1 : zMet l yX3_fail (Cond.code yX3_fail cX3_fail 2 (Option.some Jvm.ClassFile.FieldType.boolean) :: zG) rm_X3_fail 0 0 T1) (h2 : zMet l yX3_nextToken (Cond.code yX3_nextToken cX3_nextToken 1 (Option.none : Option Jvm.ClassFile.FieldType) :: zG) rm_X3_nextToken 0 0 T2) (p : Program) (e : Env) (s : State) (m : MethodId) (args : Array Value) (below : List Frame) (meth : Method) (c : Code) (D : va_G) (A : Nat → Prop) (a0 : Nat → Nat) (M0 : ZM) (K : ZRet) (KX : ZEx) (X : zCtx p l rm_X3_readKeyword s m args meth c cX3_readKeyword RX3 (Cond.code yX3_readKeyword cX3_readKeyword 2 (Option.some Jvm.ClassFile.FieldType.boolean) :: zG) 2 (Option.some Jvm.ClassFile.FieldType.boolean) D A a0 M0 0 0) (hnm : meth.name = yX3_readKeyword.name) (hout : ∀ x ∈ c.exceptionTable.toList, False) : ∀ q ∈ cd_X3_readKeyword T0 T1 T2, zSd p l e rm_X3_readKeyword s m args below meth c 2 D A a0 M0 K KX 0 0 q.1 q.2 :=
    zall_c (zs_aload_n X (pc := 0) (q := 0) rfl (by decide +kernel)) <|
    zall_c (zs_aload_n X (pc := 1) (q := 1) rfl (by decide +kernel)) <|
    zall_c (zs_callV0 X (pc := 2) zc_X3 (fun _ ht => ⟨(zCB ht gw_2_195 gw_1_2 gw_2_192 rfl rfl (by decide +kernel) ⟨Nat.le_of_ble_eq_true rfl, Nat.le_of_ble_eq_true rfl⟩), ht _ (.tail _ gw_2_194), ht _ (.tail _ gp_5)⟩) h0 hout (by decide +kernel)) <|
    zall_c (zs_if_ne X (pc := 5) (off := 9) (by decide +kernel) (by decide)) <|
    zall_c (zs_aload_n X (pc := 8) (q := 0) rfl (by decide +kernel)) <|
    zall_c (zs_iconst X (pc := 9) (by decide) (by decide +kernel)) <|
    zall_c (zs_callV0 X (pc := 10) zc_X3 (fun _ ht => ⟨(zCB ht gw_3_10 gw_1_2 gw_3_7 rfl rfl (by decide +kernel) ⟨Nat.le_of_ble_eq_true rfl, Nat.le_of_ble_eq_true rfl⟩), ht _ (.tail _ gw_3_9), ht _ (.tail _ gp_6)⟩) h1 hout (by decide +kernel)) <|
    zall_c (zs_zret X (pc := 13) rfl zR_bool (by decide +kernel)) <|
    zall_c (zs_aload_n X (pc := 14) (q := 0) rfl (by decide +kernel)) <|
    zall_c (zs_callV0 X (pc := 15) zc_X3 (fun _ ht => ⟨(zCB ht gw_2_170 gw_1_2 gw_2_167 rfl rfl (by decide +kernel) ⟨Nat.le_of_ble_eq_true rfl, Nat.le_of_ble_eq_true rfl⟩), ht _ (.tail _ gw_2_169), ht _ (.tail _ gp_0)⟩) h2 hout (by decide +kernel)) <|
    zall_c (zs_iconst X (pc := 18) (by decide) (by decide +kernel)) <|
    zall_c (zs_zret X (pc := 19) rfl zR_bool (by decide +kernel)) <|
    zall_n
theorem met_X3_readKeyword {l : Launch} (hl : l.stackTraces = false) {T0 : ZTf} {T1 : ZTf} {T2 : ZTf} (h0 : zMet l yX3_isAt (Cond.code yX3_isAt cX3_isAt 2 (Option.some Jvm.ClassFile.FieldType.boolean) :: zG) rm_X3_isAt 0 0 T0) (h1 : zMet l yX3_fail (Cond.code yX3_fail cX3_fail 2 (Option.some Jvm.ClassFile.FieldType.boolean) :: zG) rm_X3_fail 0 0 T1) (h2 : zMet l yX3_nextToken (Cond.code yX3_nextToken cX3_nextToken 1 (Option.none : Option Jvm.ClassFile.FieldType) :: zG) rm_X3_nextToken 0 0 T2) {T : ZTf} (bd : zBd (cd_X3_readKeyword T0 T1 T2) 2 0 0 T) : zMet l yX3_readKeyword (Cond.code yX3_readKeyword cX3_readKeyword 2 (Option.some Jvm.ClassFile.FieldType.boolean) :: zG) rm_X3_readKeyword 0 0 T := zMet_of hl (by decide +kernel) rfl rfl rfl rfl (hs_X3_readKeyword hl h0 h1 h2) bd

abbrev rm_X3_readKnownName : Room := { frames := 8, cells := 0, slots := 0, locals := 184 }
def cd_X3_readKnownName (T0 : ZTf) (T1 : ZTf) (T2 : ZTf) (T3 : ZTf) : List (Nat × ZTr) := [(0, tAld 0 1), (1, tCall0 1 T0 (zRcv 6) 4), (4, tIf_ne 13 7), (7, tAld 0 8), (8, tC (zi 1) 9), (9, tCall0 2 T1 (zRcv 6) 12), (12, tRi zPz), (13, tAld 0 14), (14, tAld 0 15), (15, tGetR 6 3 18), (18, tAld 0 19), (19, tGetR 6 2 22), (22, tAld 0 23), (23, tGetI 6 5 26), (26, tAld 0 27), (27, tGetI 6 6 30), (30, tCall0 4 T2 (zRcv 8) 33), (33, tPutI 6 8 (fun _ => True) 36), (36, tAld 0 37), (37, tGetI 6 8 40), (40, tC (zi (-1)) 41), (41, tIc_ne 50 44), (44, tAld 0 45), (45, tC (zi 3) 46), (46, tCall0 2 T1 (zRcv 6) 49), (49, tRi zPz), (50, tAld 0 51), (51, tCall0 1 T3 (zRcv 6) 54), (54, tC (zi 1) 55), (55, tRi zPz)]
set_option maxRecDepth 100000 in
set_option maxHeartbeats 4000000 in
theorem hs_X3_readKnownName {l : Launch} (hl : l.stackTraces = false) {T0 : ZTf} {T1 : ZTf} {T2 : ZTf} {T3 : ZTf} (h0 : zMet l yX3_isAtName (Cond.code yX3_isAtName cX3_isAtName 5 (Option.some Jvm.ClassFile.FieldType.boolean) :: zG) rm_X3_isAtName 0 0 T0) (h1 : zMet l yX3_fail (Cond.code yX3_fail cX3_fail 2 (Option.some Jvm.ClassFile.FieldType.boolean) :: zG) rm_X3_fail 0 0 T1) (h2 : zMet l yX5_workerNamed (Cond.code yX5_workerNamed cX5_workerNamed 5 (Option.some Jvm.ClassFile.FieldType.int) :: zG) rm_X5_workerNamed 0 0 T2) (h3 : zMet l yX3_nextToken (Cond.code yX3_nextToken cX3_nextToken 1 (Option.none : Option Jvm.ClassFile.FieldType) :: zG) rm_X3_nextToken 0 0 T3) (p : Program) (e : Env) (s : State) (m : MethodId) (args : Array Value) (below : List Frame) (meth : Method) (c : Code) (D : va_G) (A : Nat → Prop) (a0 : Nat → Nat) (M0 : ZM) (K : ZRet) (KX : ZEx) (X : zCtx p l rm_X3_readKnownName s m args meth c cX3_readKnownName RX3 (Cond.code yX3_readKnownName cX3_readKnownName 1 (Option.some Jvm.ClassFile.FieldType.boolean) :: zG) 1 (Option.some Jvm.ClassFile.FieldType.boolean) D A a0 M0 0 0) (hnm : meth.name = yX3_readKnownName.name) (hout : ∀ x ∈ c.exceptionTable.toList, False) : ∀ q ∈ cd_X3_readKnownName T0 T1 T2 T3, zSd p l e rm_X3_readKnownName s m args below meth c 1 D A a0 M0 K KX 0 0 q.1 q.2 :=
    zall_c (zs_aload_n X (pc := 0) (q := 0) rfl (by decide +kernel)) <|
    zall_c (zs_callV0 X (pc := 1) zc_X3 (fun _ ht => ⟨(zCB ht gw_3_42 gw_1_2 gw_3_39 rfl rfl (by decide +kernel) ⟨Nat.le_of_ble_eq_true rfl, Nat.le_of_ble_eq_true rfl⟩), ht _ (.tail _ gw_3_41), ht _ (.tail _ gp_12)⟩) h0 hout (by decide +kernel)) <|
    zall_c (zs_if_ne X (pc := 4) (off := 9) (by decide +kernel) (by decide)) <|
    zall_c (zs_aload_n X (pc := 7) (q := 0) rfl (by decide +kernel)) <|
    zall_c (zs_iconst X (pc := 8) (by decide) (by decide +kernel)) <|
    zall_c (zs_callV0 X (pc := 9) zc_X3 (fun _ ht => ⟨(zCB ht gw_3_10 gw_1_2 gw_3_7 rfl rfl (by decide +kernel) ⟨Nat.le_of_ble_eq_true rfl, Nat.le_of_ble_eq_true rfl⟩), ht _ (.tail _ gw_3_9), ht _ (.tail _ gp_6)⟩) h1 hout (by decide +kernel)) <|
    zall_c (zs_zret X (pc := 12) rfl zR_bool (by decide +kernel)) <|
    zall_c (zs_aload_n X (pc := 13) (q := 0) rfl (by decide +kernel)) <|
    zall_c (zs_aload_n X (pc := 14) (q := 0) rfl (by decide +kernel)) <|
    zall_c (zs_getr X (pc := 15) zc_X3 (by decide) (zin ui_X3) (.tail _ gw_2_35) (by decide +kernel) (by decide +kernel)) <|
    zall_c (zs_aload_n X (pc := 18) (q := 0) rfl (by decide +kernel)) <|
    zall_c (zs_getr X (pc := 19) zc_X3 (by decide) (zin ui_X3) (.tail _ gw_2_33) (by decide +kernel) (by decide +kernel)) <|
    zall_c (zs_aload_n X (pc := 22) (q := 0) rfl (by decide +kernel)) <|
    zall_c (zs_geti X (pc := 23) zc_X3 (by decide) (zin ui_X3) (.tail _ gw_2_38) (by decide +kernel) (by decide +kernel)) <|
    zall_c (zs_aload_n X (pc := 26) (q := 0) rfl (by decide +kernel)) <|
    zall_c (zs_geti X (pc := 27) zc_X3 (by decide) (zin ui_X3) (.tail _ gw_2_39) (by decide +kernel) (by decide +kernel)) <|
    zall_c (zs_callV0 X (pc := 30) zc_X5 (fun _ ht => ⟨(zCB ht gw_3_48 gw_1_8 gw_3_45 rfl rfl (by decide +kernel) ⟨Nat.le_of_ble_eq_true rfl, Nat.le_of_ble_eq_true rfl⟩), ht _ (.tail _ gw_3_46), ht _ (.tail _ gw_3_47)⟩) h2 hout (by decide +kernel)) <|
    zall_c (zs_puti X (pc := 33) (ty := Jvm.ClassFile.FieldType.int) zc_X3 (by decide) (zin ui_X3) tyX3_ok nmX3 (.tail _ gw_2_41) rfl (by decide +kernel) (by decide +kernel) (by decide +kernel) zP_int) <|
    zall_c (zs_aload_n X (pc := 36) (q := 0) rfl (by decide +kernel)) <|
    zall_c (zs_geti X (pc := 37) zc_X3 (by decide) (zin ui_X3) (.tail _ gw_2_41) (by decide +kernel) (by decide +kernel)) <|
    zall_c (zs_iconst X (pc := 40) (by decide) (by decide +kernel)) <|
    zall_c (zs_icmp_ne X (pc := 41) (off := 9) (by decide +kernel) (by decide)) <|
    zall_c (zs_aload_n X (pc := 44) (q := 0) rfl (by decide +kernel)) <|
    zall_c (zs_iconst X (pc := 45) (by decide) (by decide +kernel)) <|
    zall_c (zs_callV0 X (pc := 46) zc_X3 (fun _ ht => ⟨(zCB ht gw_3_10 gw_1_2 gw_3_7 rfl rfl (by decide +kernel) ⟨Nat.le_of_ble_eq_true rfl, Nat.le_of_ble_eq_true rfl⟩), ht _ (.tail _ gw_3_9), ht _ (.tail _ gp_6)⟩) h1 hout (by decide +kernel)) <|
    zall_c (zs_zret X (pc := 49) rfl zR_bool (by decide +kernel)) <|
    zall_c (zs_aload_n X (pc := 50) (q := 0) rfl (by decide +kernel)) <|
    zall_c (zs_callV0 X (pc := 51) zc_X3 (fun _ ht => ⟨(zCB ht gw_2_170 gw_1_2 gw_2_167 rfl rfl (by decide +kernel) ⟨Nat.le_of_ble_eq_true rfl, Nat.le_of_ble_eq_true rfl⟩), ht _ (.tail _ gw_2_169), ht _ (.tail _ gp_0)⟩) h3 hout (by decide +kernel)) <|
    zall_c (zs_iconst X (pc := 54) (by decide) (by decide +kernel)) <|
    zall_c (zs_zret X (pc := 55) rfl zR_bool (by decide +kernel)) <|
    zall_n
theorem met_X3_readKnownName {l : Launch} (hl : l.stackTraces = false) {T0 : ZTf} {T1 : ZTf} {T2 : ZTf} {T3 : ZTf} (h0 : zMet l yX3_isAtName (Cond.code yX3_isAtName cX3_isAtName 5 (Option.some Jvm.ClassFile.FieldType.boolean) :: zG) rm_X3_isAtName 0 0 T0) (h1 : zMet l yX3_fail (Cond.code yX3_fail cX3_fail 2 (Option.some Jvm.ClassFile.FieldType.boolean) :: zG) rm_X3_fail 0 0 T1) (h2 : zMet l yX5_workerNamed (Cond.code yX5_workerNamed cX5_workerNamed 5 (Option.some Jvm.ClassFile.FieldType.int) :: zG) rm_X5_workerNamed 0 0 T2) (h3 : zMet l yX3_nextToken (Cond.code yX3_nextToken cX3_nextToken 1 (Option.none : Option Jvm.ClassFile.FieldType) :: zG) rm_X3_nextToken 0 0 T3) {T : ZTf} (bd : zBd (cd_X3_readKnownName T0 T1 T2 T3) 1 0 0 T) : zMet l yX3_readKnownName (Cond.code yX3_readKnownName cX3_readKnownName 1 (Option.some Jvm.ClassFile.FieldType.boolean) :: zG) rm_X3_readKnownName 0 0 T := zMet_of hl (by decide +kernel) rfl rfl rfl rfl (hs_X3_readKnownName hl h0 h1 h2 h3) bd

abbrev rm_X5_letPass : Room := { frames := 5, cells := 0, slots := 0, locals := 119 }
def cd_X5_letPass (T0 : ZTf) : List (Nat × ZTr) := [(0, tAld 0 1), (1, tDup 2), (2, tGetI 8 3 5), (5, tIld 1 6), (6, tAdd 7), (7, tPutI 8 3 (fun _ => True) 10), (10, tC (zi 0) 11), (11, tIst 2 12), (12, tC (zi 0) 13), (13, tIst 3 14), (14, tIld 3 15), (15, tAld 0 16), (16, tGetI 8 5 19), (19, tIc_ge 42 22), (22, tIld 2 23), (23, tAld 0 24), (24, tAld 0 25), (25, tGetR 8 7 28), (28, tIld 3 29), (29, tAal 31 30), (30, tC (zi 1) 31), (31, tCall0 3 T0 (zRcv 8) 34), (34, tAdd 35), (35, tIst 2 36), (36, tInc 3 1 39), (39, tGo 14), (42, tIld 2 43), (43, tRi (fun _ => True))]
set_option maxRecDepth 100000 in
set_option maxHeartbeats 4000000 in
theorem hs_X5_letPass {l : Launch} (hl : l.stackTraces = false) {T0 : ZTf} (h0 : zMet l yX5_dropWork (Cond.code yX5_dropWork cX5_dropWork 6 (Option.some Jvm.ClassFile.FieldType.int) :: zG) rm_X5_dropWork 0 0 T0) (p : Program) (e : Env) (s : State) (m : MethodId) (args : Array Value) (below : List Frame) (meth : Method) (c : Code) (D : va_G) (A : Nat → Prop) (a0 : Nat → Nat) (M0 : ZM) (K : ZRet) (KX : ZEx) (X : zCtx p l rm_X5_letPass s m args meth c cX5_letPass RX5 (Cond.code yX5_letPass cX5_letPass 4 (Option.some Jvm.ClassFile.FieldType.int) :: zG) 4 (Option.some Jvm.ClassFile.FieldType.int) D A a0 M0 0 0) (hnm : meth.name = yX5_letPass.name) (hout : ∀ x ∈ c.exceptionTable.toList, False) : ∀ q ∈ cd_X5_letPass T0, zSd p l e rm_X5_letPass s m args below meth c 4 D A a0 M0 K KX 0 0 q.1 q.2 :=
    zall_c (zs_aload_n X (pc := 0) (q := 0) rfl (by decide +kernel)) <|
    zall_c (zs_dup X (pc := 1) (by decide +kernel)) <|
    zall_c (zs_geti X (pc := 2) zc_X5 (by decide) (zin ui_X5) (.tail _ gw_1_233) (by decide +kernel) (by decide +kernel)) <|
    zall_c (zs_iload_n X (pc := 5) (q := 1) rfl (by decide +kernel)) <|
    zall_c (zs_iadd X (pc := 6) (by decide +kernel)) <|
    zall_c (zs_puti X (pc := 7) (ty := Jvm.ClassFile.FieldType.int) zc_X5 (by decide) (zin ui_X5) tyX5_ok nmX5 (.tail _ gw_1_233) rfl (by decide +kernel) (by decide +kernel) (by decide +kernel) zP_int) <|
    zall_c (zs_iconst X (pc := 10) (by decide) (by decide +kernel)) <|
    zall_c (zs_istore_n X (pc := 11) (q := 2) rfl (by decide) (by decide +kernel)) <|
    zall_c (zs_iconst X (pc := 12) (by decide) (by decide +kernel)) <|
    zall_c (zs_istore_n X (pc := 13) (q := 3) rfl (by decide) (by decide +kernel)) <|
    zall_c (zs_iload_n X (pc := 14) (q := 3) rfl (by decide +kernel)) <|
    zall_c (zs_aload_n X (pc := 15) (q := 0) rfl (by decide +kernel)) <|
    zall_c (zs_geti X (pc := 16) zc_X5 (by decide) (zin ui_X5) (.tail _ gw_1_238) (by decide +kernel) (by decide +kernel)) <|
    zall_c (zs_icmp_ge X (pc := 19) (off := 23) (by decide +kernel) (by decide)) <|
    zall_c (zs_iload_n X (pc := 22) (q := 2) rfl (by decide +kernel)) <|
    zall_c (zs_aload_n X (pc := 23) (q := 0) rfl (by decide +kernel)) <|
    zall_c (zs_aload_n X (pc := 24) (q := 0) rfl (by decide +kernel)) <|
    zall_c (zs_getr X (pc := 25) zc_X5 (by decide) (zin ui_X5) (.tail _ gw_2_3) (by decide +kernel) (by decide +kernel)) <|
    zall_c (zs_iload_n X (pc := 28) (q := 3) rfl (by decide +kernel)) <|
    zall_c (zs_aaload X (pc := 29) (by decide) rfl (by decide +kernel)) <|
    zall_c (zs_iconst X (pc := 30) (by decide) (by decide +kernel)) <|
    zall_c (zs_callV0 X (pc := 31) zc_X5 (fun _ ht => ⟨(zCB ht gw_7_56 gw_1_8 gw_7_53 rfl rfl (by decide +kernel) ⟨Nat.le_of_ble_eq_true rfl, Nat.le_of_ble_eq_true rfl⟩), ht _ (.tail _ gw_7_54), ht _ (.tail _ gw_7_55)⟩) h0 hout (by decide +kernel)) <|
    zall_c (zs_iadd X (pc := 34) (by decide +kernel)) <|
    zall_c (zs_istore_n X (pc := 35) (q := 2) rfl (by decide) (by decide +kernel)) <|
    zall_c (zs_iinc X (pc := 36) (by decide) (by decide +kernel)) <|
    zall_c (zs_goto X (pc := 39) (off := (-25)) (by decide +kernel) (by decide)) <|
    zall_c (zs_iload_n X (pc := 42) (q := 2) rfl (by decide +kernel)) <|
    zall_c (zs_iret X (pc := 43) rfl (by decide +kernel)) <|
    zall_n
theorem met_X5_letPass {l : Launch} (hl : l.stackTraces = false) {T0 : ZTf} (h0 : zMet l yX5_dropWork (Cond.code yX5_dropWork cX5_dropWork 6 (Option.some Jvm.ClassFile.FieldType.int) :: zG) rm_X5_dropWork 0 0 T0) {T : ZTf} (bd : zBd (cd_X5_letPass T0) 4 0 0 T) : zMet l yX5_letPass (Cond.code yX5_letPass cX5_letPass 4 (Option.some Jvm.ClassFile.FieldType.int) :: zG) rm_X5_letPass 0 0 T := zMet_of hl (by decide +kernel) rfl rfl rfl rfl (hs_X5_letPass hl h0) bd

abbrev rm_X8_pass : Room := { frames := 7, cells := 1, slots := 6, locals := 142 }
def cd_X8_pass (T0 : ZTf) (T1 : ZTf) (T2 : ZTf) : List (Nat × ZTr) := [(0, tIld 1 1), (1, tC (zi 1) 2), (2, tC (zi 99) 4), (4, tCall 3 1 6 T0 zAny 7), (7, tAld 0 8), (8, tGetR 11 3 11), (11, tAld 0 12), (12, tGetR 11 2 15), (15, tCall0 2 T1 (zRcv 4) 18), (18, tAld 0 19), (19, tGetR 11 2 22), (22, tIld 1 23), (23, tCall0 2 T2 (zRcv 8) 26), (26, tRi (fun _ => True))]
set_option maxRecDepth 100000 in
set_option maxHeartbeats 4000000 in
theorem hs_X8_pass {l : Launch} (hl : l.stackTraces = false) {T0 : ZTf} {T1 : ZTf} {T2 : ZTf} (h0 : zMet l yX8_requireRange (Cond.code yX8_requireRange cX8_requireRange 3 (Option.none : Option Jvm.ClassFile.FieldType) :: zG) rm_X8_requireRange 1 6 T0) (h1 : zMet l yX0_remember (Cond.code yX0_remember cX0_remember 2 (Option.none : Option Jvm.ClassFile.FieldType) :: zG) rm_X0_remember 0 0 T1) (h2 : zMet l yX5_letPass (Cond.code yX5_letPass cX5_letPass 4 (Option.some Jvm.ClassFile.FieldType.int) :: zG) rm_X5_letPass 0 0 T2) (p : Program) (e : Env) (s : State) (m : MethodId) (args : Array Value) (below : List Frame) (meth : Method) (c : Code) (D : va_G) (A : Nat → Prop) (a0 : Nat → Nat) (M0 : ZM) (K : ZRet) (KX : ZEx) (X : zCtx p l rm_X8_pass s m args meth c cX8_pass RX8 (Cond.code yX8_pass cX8_pass 2 (Option.some Jvm.ClassFile.FieldType.int) :: zG) 2 (Option.some Jvm.ClassFile.FieldType.int) D A a0 M0 1 6) (hnm : meth.name = yX8_pass.name) (hout : ∀ x ∈ c.exceptionTable.toList, False) : ∀ q ∈ cd_X8_pass T0 T1 T2, zSd p l e rm_X8_pass s m args below meth c 2 D A a0 M0 K KX 1 6 q.1 q.2 :=
    zall_c (zs_iload_n X (pc := 0) (q := 1) rfl (by decide +kernel)) <|
    zall_c (zs_iconst X (pc := 1) (by decide) (by decide +kernel)) <|
    zall_c (zs_bipush X (pc := 2) (by decide) (by decide +kernel) (by decide +kernel)) <|
    zall_c (zs_callS X (pc := 4) (fun _ ht => ⟨(zCB ht gw_5_171 gw_1_1 gw_5_169 rfl rfl (by decide +kernel) ⟨Nat.le_of_ble_eq_true rfl, Nat.le_of_ble_eq_true rfl⟩), ht _ (.tail _ gw_5_170)⟩) h0 hout (by decide +kernel)) <|
    zall_c (zs_aload_n X (pc := 7) (q := 0) rfl (by decide +kernel)) <|
    zall_c (zs_getr X (pc := 8) zc_X8 (by decide) (zin ui_X8) (.tail _ gw_2_124) (by decide +kernel) (by decide +kernel)) <|
    zall_c (zs_aload_n X (pc := 11) (q := 0) rfl (by decide +kernel)) <|
    zall_c (zs_getr X (pc := 12) zc_X8 (by decide) (zin ui_X8) (.tail _ gw_2_123) (by decide +kernel) (by decide +kernel)) <|
    zall_c (zs_callV0 X (pc := 15) zc_X0 (fun _ ht => ⟨(zCB ht gw_4_211 gw_1_11 gw_4_208 rfl rfl (by decide +kernel) ⟨Nat.le_of_ble_eq_true rfl, Nat.le_of_ble_eq_true rfl⟩), ht _ (.tail _ gw_4_209), ht _ (.tail _ gw_4_210)⟩) h1 hout (by decide +kernel)) <|
    zall_c (zs_aload_n X (pc := 18) (q := 0) rfl (by decide +kernel)) <|
    zall_c (zs_getr X (pc := 19) zc_X8 (by decide) (zin ui_X8) (.tail _ gw_2_123) (by decide +kernel) (by decide +kernel)) <|
    zall_c (zs_iload_n X (pc := 22) (q := 1) rfl (by decide +kernel)) <|
    zall_c (zs_callV0 X (pc := 23) zc_X5 (fun _ ht => ⟨(zCB ht gw_7_52 gw_1_8 gw_7_49 rfl rfl (by decide +kernel) ⟨Nat.le_of_ble_eq_true rfl, Nat.le_of_ble_eq_true rfl⟩), ht _ (.tail _ gw_7_50), ht _ (.tail _ gw_7_51)⟩) h2 hout (by decide +kernel)) <|
    zall_c (zs_iret X (pc := 26) rfl (by decide +kernel)) <|
    zall_n
theorem met_X8_pass {l : Launch} (hl : l.stackTraces = false) {T0 : ZTf} {T1 : ZTf} {T2 : ZTf} (h0 : zMet l yX8_requireRange (Cond.code yX8_requireRange cX8_requireRange 3 (Option.none : Option Jvm.ClassFile.FieldType) :: zG) rm_X8_requireRange 1 6 T0) (h1 : zMet l yX0_remember (Cond.code yX0_remember cX0_remember 2 (Option.none : Option Jvm.ClassFile.FieldType) :: zG) rm_X0_remember 0 0 T1) (h2 : zMet l yX5_letPass (Cond.code yX5_letPass cX5_letPass 4 (Option.some Jvm.ClassFile.FieldType.int) :: zG) rm_X5_letPass 0 0 T2) {T : ZTf} (bd : zBd (cd_X8_pass T0 T1 T2) 2 1 6 T) : zMet l yX8_pass (Cond.code yX8_pass cX8_pass 2 (Option.some Jvm.ClassFile.FieldType.int) :: zG) rm_X8_pass 1 6 T := zMet_of hl (by decide +kernel) rfl rfl rfl rfl (hs_X8_pass hl h0 h1 h2) bd

abbrev rm_X8_writeRows : Room := { frames := 7, cells := 300, slots := 600, locals := 169 }
def cd_X8_writeRows (T0 : Nat → Nat → ZTf) (T1 : Nat → Nat → ZTf) (T2 : Nat → Nat → ZTf) (T3 : ZTf) : List (Nat × ZTr) := [(0, tAld 0 1), (1, tGetR 11 7 4), (4, tC (zi 0) 5), (5, tEx (fun a b => tCall 2 a b (T0 a b) (zRcv 1) 8)), (8, tC (zi 0) 9), (9, tIst 1 10), (10, tIld 1 11), (11, tAld 0 12), (12, tGetR 11 2 15), (15, tGetI 8 5 18), (18, tIc_ge 45 21), (21, tAld 0 22), (22, tIld 1 23), (23, tEx (fun a b => tCall 2 a b (T1 a b) (zRcv 11) 26)), (26, tAld 0 27), (27, tAld 0 28), (28, tGetR 11 2 31), (31, tGetR 8 7 34), (34, tIld 1 35), (35, tAal 31 36), (36, tEx (fun a b => tCall 2 a b (T2 a b) (zRcv 11) 39)), (39, tInc 1 1 42), (42, tGo 10), (45, tAld 0 46), (46, tGetR 11 7 49), (49, tCall0 1 T3 (zRcv 1) 52), (52, tRi (fun _ => True))]
set_option maxRecDepth 100000 in
set_option maxHeartbeats 4000000 in
theorem hs_X8_writeRows {l : Launch} (hl : l.stackTraces = false) {T0 : Nat → Nat → ZTf} {T1 : Nat → Nat → ZTf} {T2 : Nat → Nat → ZTf} {T3 : ZTf} (h0 : ∀ a b, zMet l yJ4_setLength_d00df (Cond.code yJ4_setLength_d00df cJ4_setLength_d00df 2 (Option.none : Option Jvm.ClassFile.FieldType) :: zG) (rm_J4_setLength_d00df a b) a b (T0 a b)) (h1 : ∀ a b, zMet l yX8_separate (Cond.code yX8_separate cX8_separate 2 (Option.none : Option Jvm.ClassFile.FieldType) :: zG) (rm_X8_separate a b) a b (T1 a b)) (h2 : ∀ a b, zMet l yX8_putRowState (Cond.code yX8_putRowState cX8_putRowState 2 (Option.none : Option Jvm.ClassFile.FieldType) :: zG) (rm_X8_putRowState a b) a b (T2 a b)) (h3 : zMet l yJ4_length_8abf5 (Cond.code yJ4_length_8abf5 cJ4_length_8abf5 1 (Option.some Jvm.ClassFile.FieldType.int) :: zG) rm_J4_length_8abf5 0 0 T3) (p : Program) (e : Env) (s : State) (m : MethodId) (args : Array Value) (below : List Frame) (meth : Method) (c : Code) (D : va_G) (A : Nat → Prop) (a0 : Nat → Nat) (M0 : ZM) (K : ZRet) (KX : ZEx) (X : zCtx p l rm_X8_writeRows s m args meth c cX8_writeRows RX8 (Cond.code yX8_writeRows cX8_writeRows 2 (Option.some Jvm.ClassFile.FieldType.int) :: zG) 2 (Option.some Jvm.ClassFile.FieldType.int) D A a0 M0 300 600) (hnm : meth.name = yX8_writeRows.name) (hout : ∀ x ∈ c.exceptionTable.toList, False) : ∀ q ∈ cd_X8_writeRows T0 T1 T2 T3, zSd p l e rm_X8_writeRows s m args below meth c 2 D A a0 M0 K KX 300 600 q.1 q.2 :=
    zall_c (zs_aload_n X (pc := 0) (q := 0) rfl (by decide +kernel)) <|
    zall_c (zs_getr X (pc := 1) zc_X8 (by decide) (zin ui_X8) (.tail _ gw_2_128) (by decide +kernel) (by decide +kernel)) <|
    zall_c (zs_iconst X (pc := 4) (by decide) (by decide +kernel)) <|
    zall_c (zs_ex (fun a b => zs_callV X (pc := 5) zc_J4 (fun _ ht => ⟨(zCB ht gw_3_57 gw_1_5 gw_5_112 rfl rfl (by decide +kernel) ⟨Nat.le_of_ble_eq_true rfl, Nat.le_of_ble_eq_true rfl⟩), ht _ (.tail _ gw_3_55), ht _ (.tail _ gw_3_56)⟩) (h0 a b) hout (by decide +kernel))) <|
    zall_c (zs_iconst X (pc := 8) (by decide) (by decide +kernel)) <|
    zall_c (zs_istore_n X (pc := 9) (q := 1) rfl (by decide) (by decide +kernel)) <|
    zall_c (zs_iload_n X (pc := 10) (q := 1) rfl (by decide +kernel)) <|
    zall_c (zs_aload_n X (pc := 11) (q := 0) rfl (by decide +kernel)) <|
    zall_c (zs_getr X (pc := 12) zc_X8 (by decide) (zin ui_X8) (.tail _ gw_2_123) (by decide +kernel) (by decide +kernel)) <|
    zall_c (zs_geti X (pc := 15) zc_X5 (by decide) (zin ui_X5) (.tail _ gw_1_239) (by decide +kernel) (by decide +kernel)) <|
    zall_c (zs_icmp_ge X (pc := 18) (off := 27) (by decide +kernel) (by decide)) <|
    zall_c (zs_aload_n X (pc := 21) (q := 0) rfl (by decide +kernel)) <|
    zall_c (zs_iload_n X (pc := 22) (q := 1) rfl (by decide +kernel)) <|
    zall_c (zs_ex (fun a b => zs_callV X (pc := 23) zc_X8 (fun _ ht => ⟨(zCB ht gw_5_116 gw_1_1 gw_5_113 rfl rfl (by decide +kernel) ⟨Nat.le_of_ble_eq_true rfl, Nat.le_of_ble_eq_true rfl⟩), ht _ (.tail _ gw_5_115), ht _ (.tail _ gp_17)⟩) (h1 a b) hout (by decide +kernel))) <|
    zall_c (zs_aload_n X (pc := 26) (q := 0) rfl (by decide +kernel)) <|
    zall_c (zs_aload_n X (pc := 27) (q := 0) rfl (by decide +kernel)) <|
    zall_c (zs_getr X (pc := 28) zc_X8 (by decide) (zin ui_X8) (.tail _ gw_2_123) (by decide +kernel) (by decide +kernel)) <|
    zall_c (zs_getr X (pc := 31) zc_X5 (by decide) (zin ui_X5) (.tail _ gw_2_4) (by decide +kernel) (by decide +kernel)) <|
    zall_c (zs_iload_n X (pc := 34) (q := 1) rfl (by decide +kernel)) <|
    zall_c (zs_aaload X (pc := 35) (by decide) rfl (by decide +kernel)) <|
    zall_c (zs_ex (fun a b => zs_callV X (pc := 36) zc_X8 (fun _ ht => ⟨(zCB ht gw_5_121 gw_1_1 gw_5_118 rfl rfl (by decide +kernel) ⟨Nat.le_of_ble_eq_true rfl, Nat.le_of_ble_eq_true rfl⟩), ht _ (.tail _ gw_5_120), ht _ (.tail _ gp_18)⟩) (h2 a b) hout (by decide +kernel))) <|
    zall_c (zs_iinc X (pc := 39) (by decide) (by decide +kernel)) <|
    zall_c (zs_goto X (pc := 42) (off := (-32)) (by decide +kernel) (by decide)) <|
    zall_c (zs_aload_n X (pc := 45) (q := 0) rfl (by decide +kernel)) <|
    zall_c (zs_getr X (pc := 46) zc_X8 (by decide) (zin ui_X8) (.tail _ gw_2_128) (by decide +kernel) (by decide +kernel)) <|
    zall_c (zs_callV0 X (pc := 49) zc_J4 (fun _ ht => ⟨(zCB ht gw_3_218 gw_1_5 gw_5_123 rfl rfl (by decide +kernel) ⟨Nat.le_of_ble_eq_true rfl, Nat.le_of_ble_eq_true rfl⟩), ht _ (.tail _ gw_3_217), ht _ (.tail _ gw_10_183)⟩) h3 hout (by decide +kernel)) <|
    zall_c (zs_iret X (pc := 52) rfl (by decide +kernel)) <|
    zall_n
theorem met_X8_writeRows {l : Launch} (hl : l.stackTraces = false) {T0 : Nat → Nat → ZTf} {T1 : Nat → Nat → ZTf} {T2 : Nat → Nat → ZTf} {T3 : ZTf} (h0 : ∀ a b, zMet l yJ4_setLength_d00df (Cond.code yJ4_setLength_d00df cJ4_setLength_d00df 2 (Option.none : Option Jvm.ClassFile.FieldType) :: zG) (rm_J4_setLength_d00df a b) a b (T0 a b)) (h1 : ∀ a b, zMet l yX8_separate (Cond.code yX8_separate cX8_separate 2 (Option.none : Option Jvm.ClassFile.FieldType) :: zG) (rm_X8_separate a b) a b (T1 a b)) (h2 : ∀ a b, zMet l yX8_putRowState (Cond.code yX8_putRowState cX8_putRowState 2 (Option.none : Option Jvm.ClassFile.FieldType) :: zG) (rm_X8_putRowState a b) a b (T2 a b)) (h3 : zMet l yJ4_length_8abf5 (Cond.code yJ4_length_8abf5 cJ4_length_8abf5 1 (Option.some Jvm.ClassFile.FieldType.int) :: zG) rm_J4_length_8abf5 0 0 T3) {T : ZTf} (bd : zBd (cd_X8_writeRows T0 T1 T2 T3) 2 300 600 T) : zMet l yX8_writeRows (Cond.code yX8_writeRows cX8_writeRows 2 (Option.some Jvm.ClassFile.FieldType.int) :: zG) rm_X8_writeRows 300 600 T := zMet_of hl (by decide +kernel) rfl rfl rfl rfl (hs_X8_writeRows hl h0 h1 h2 h3) bd

abbrev rm_X8_putTaking (a b : Nat) : Room := { frames := 6, cells := a, slots := b, locals := 148 }
def cd_X8_putTaking (T0 : ZTf) (T1 : Nat → Nat → ZTf) (T2 : ZTf) (T3 : Nat → Nat → ZTf) (T4 : ZTf) (T5 : Nat → Nat → ZTf) (T6 : ZTf) : List (Nat × ZTr) := [(0, tAld 0 1), (1, tGetR 11 7 4), (4, tAld 0 5), (5, tGetR 11 2 8), (8, tGetR 8 6 11), (11, tAld 1 12), (12, tIld 2 13), (13, tCall0 2 T0 (zRcv 7) 16), (16, tAal 30 17), (17, tGetR 10 0 20), (20, tEx (fun a b => tCall 2 a b (T1 a b) (zRcv 1) 23)), (23, tPop 24), (24, tAld 1 25), (25, tIld 2 26), (26, tCall0 2 T2 (zRcv 7) 29), (29, tIf_eq 58 32), (32, tAld 0 33), (33, tGetR 11 7 36), (36, tC (zi 64) 38), (38, tEx (fun a b => tCall 2 a b (T3 a b) (zRcv 1) 41)), (41, tPop 42), (42, tAld 0 43), (43, tGetR 11 7 46), (46, tAld 1 47), (47, tIld 2 48), (48, tCall0 2 T4 (zRcv 7) 51), (51, tEx (fun a b => tCall 2 a b (T5 a b) (zRcv 1) 54)), (54, tPop 55), (55, tGo 81), (58, tAld 0 59), (59, tGetR 11 7 62), (62, tC (zi 61) 64), (64, tEx (fun a b => tCall 2 a b (T3 a b) (zRcv 1) 67)), (67, tPop 68), (68, tAld 0 69), (69, tGetR 11 7 72), (72, tAld 1 73), (73, tIld 2 74), (74, tCall0 2 T6 (zRcv 7) 77), (77, tEx (fun a b => tCall 2 a b (T5 a b) (zRcv 1) 80)), (80, tPop 81), (81, tRv)]
set_option maxRecDepth 100000 in
set_option maxHeartbeats 4000000 in
theorem hs_X8_putTaking {l : Launch} (hl : l.stackTraces = false) {a b : Nat} {T0 : ZTf} {T1 : Nat → Nat → ZTf} {T2 : ZTf} {T3 : Nat → Nat → ZTf} {T4 : ZTf} {T5 : Nat → Nat → ZTf} {T6 : ZTf} (h0 : zMet l yX4_workerAt (Cond.code yX4_workerAt cX4_workerAt 2 (Option.some Jvm.ClassFile.FieldType.int) :: zG) rm_X4_workerAt 0 0 T0) (h1 : ∀ a b, zMet l yJ4_append_15ec4 (Cond.code yJ4_append_15ec4 cJ4_append_15ec4 2 (Option.some (Jvm.ClassFile.FieldType.object "java/lang/StringBuilder")) :: zG) (rm_J4_append_15ec4 a b) a b (T1 a b)) (h2 : zMet l yX4_isInWork (Cond.code yX4_isInWork cX4_isInWork 2 (Option.some Jvm.ClassFile.FieldType.boolean) :: zG) rm_X4_isInWork 0 0 T2) (h3 : ∀ a b, zMet l yJ4_append_cf468 (Cond.code yJ4_append_cf468 cJ4_append_cf468 2 (Option.some (Jvm.ClassFile.FieldType.object "java/lang/StringBuilder")) :: zG) (rm_J4_append_cf468 a b) a b (T3 a b)) (h4 : zMet l yX4_dueAt (Cond.code yX4_dueAt cX4_dueAt 2 (Option.some Jvm.ClassFile.FieldType.int) :: zG) rm_X4_dueAt 0 0 T4) (h5 : ∀ a b, zMet l yJ4_append_bf812 (Cond.code yJ4_append_bf812 cJ4_append_bf812 2 (Option.some (Jvm.ClassFile.FieldType.object "java/lang/StringBuilder")) :: zG) (rm_J4_append_bf812 a b) a b (T5 a b)) (h6 : zMet l yX4_resultAt (Cond.code yX4_resultAt cX4_resultAt 2 (Option.some Jvm.ClassFile.FieldType.int) :: zG) rm_X4_resultAt 0 0 T6) (p : Program) (e : Env) (s : State) (m : MethodId) (args : Array Value) (below : List Frame) (meth : Method) (c : Code) (D : va_G) (A : Nat → Prop) (a0 : Nat → Nat) (M0 : ZM) (K : ZRet) (KX : ZEx) (X : zCtx p l (rm_X8_putTaking a b) s m args meth c cX8_putTaking RX8 (Cond.code yX8_putTaking cX8_putTaking 3 (Option.none : Option Jvm.ClassFile.FieldType) :: zG) 3 (Option.none : Option Jvm.ClassFile.FieldType) D A a0 M0 a b) (hnm : meth.name = yX8_putTaking.name) (hout : ∀ x ∈ c.exceptionTable.toList, False) : ∀ q ∈ cd_X8_putTaking T0 T1 T2 T3 T4 T5 T6, zSd p l e (rm_X8_putTaking a b) s m args below meth c 3 D A a0 M0 K KX a b q.1 q.2 :=
    zall_c (zs_aload_n X (pc := 0) (q := 0) rfl (by decide +kernel)) <|
    zall_c (zs_getr X (pc := 1) zc_X8 (by decide) (zin ui_X8) (.tail _ gw_2_128) (by decide +kernel) (by decide +kernel)) <|
    zall_c (zs_aload_n X (pc := 4) (q := 0) rfl (by decide +kernel)) <|
    zall_c (zs_getr X (pc := 5) zc_X8 (by decide) (zin ui_X8) (.tail _ gw_2_123) (by decide +kernel) (by decide +kernel)) <|
    zall_c (zs_getr X (pc := 8) zc_X5 (by decide) (zin ui_X5) (.tail _ gw_2_2) (by decide +kernel) (by decide +kernel)) <|
    zall_c (zs_aload_n X (pc := 11) (q := 1) rfl (by decide +kernel)) <|
    zall_c (zs_iload_n X (pc := 12) (q := 2) rfl (by decide +kernel)) <|
    zall_c (zs_callV0 X (pc := 13) zc_X4 (fun _ ht => ⟨(zCB ht gw_5_37 gw_1_10 gw_5_236 rfl rfl (by decide +kernel) ⟨Nat.le_of_ble_eq_true rfl, Nat.le_of_ble_eq_true rfl⟩), ht _ (.tail _ gw_5_35), ht _ (.tail _ gw_5_36)⟩) h0 hout (by decide +kernel)) <|
    zall_c (zs_aaload X (pc := 16) (by decide) rfl (by decide +kernel)) <|
    zall_c (zs_getr X (pc := 17) zc_X7 (by decide) (zin ui_X7) (.tail _ gw_1_118) (by decide +kernel) (by decide +kernel)) <|
    zall_c (zs_ex (fun a b => zs_callV X (pc := 20) zc_J4 (fun _ ht => ⟨(zCB ht gw_3_72 gw_1_5 gw_5_132 rfl rfl (by decide +kernel) ⟨Nat.le_of_ble_eq_true rfl, Nat.le_of_ble_eq_true rfl⟩), ht _ (.tail _ gw_3_70), ht _ (.tail _ gw_3_71)⟩) (h1 a b) hout (by decide +kernel))) <|
    zall_c (zs_pop X (pc := 23) (by decide +kernel)) <|
    zall_c (zs_aload_n X (pc := 24) (q := 1) rfl (by decide +kernel)) <|
    zall_c (zs_iload_n X (pc := 25) (q := 2) rfl (by decide +kernel)) <|
    zall_c (zs_callV0 X (pc := 26) zc_X4 (fun _ ht => ⟨(zCB ht gw_5_78 gw_1_10 gw_5_238 rfl rfl (by decide +kernel) ⟨Nat.le_of_ble_eq_true rfl, Nat.le_of_ble_eq_true rfl⟩), ht _ (.tail _ gw_5_76), ht _ (.tail _ gw_5_77)⟩) h2 hout (by decide +kernel)) <|
    zall_c (zs_if_eq X (pc := 29) (off := 29) (by decide +kernel) (by decide)) <|
    zall_c (zs_aload_n X (pc := 32) (q := 0) rfl (by decide +kernel)) <|
    zall_c (zs_getr X (pc := 33) zc_X8 (by decide) (zin ui_X8) (.tail _ gw_2_128) (by decide +kernel) (by decide +kernel)) <|
    zall_c (zs_bipush X (pc := 36) (by decide) (by decide +kernel) (by decide +kernel)) <|
    zall_c (zs_ex (fun a b => zs_callV X (pc := 38) zc_J4 (fun _ ht => ⟨(zCB ht gw_4_142 gw_1_5 gw_5_117 rfl rfl (by decide +kernel) ⟨Nat.le_of_ble_eq_true rfl, Nat.le_of_ble_eq_true rfl⟩), ht _ (.tail _ gw_4_140), ht _ (.tail _ gw_4_141)⟩) (h3 a b) hout (by decide +kernel))) <|
    zall_c (zs_pop X (pc := 41) (by decide +kernel)) <|
    zall_c (zs_aload_n X (pc := 42) (q := 0) rfl (by decide +kernel)) <|
    zall_c (zs_getr X (pc := 43) zc_X8 (by decide) (zin ui_X8) (.tail _ gw_2_128) (by decide +kernel) (by decide +kernel)) <|
    zall_c (zs_aload_n X (pc := 46) (q := 1) rfl (by decide +kernel)) <|
    zall_c (zs_iload_n X (pc := 47) (q := 2) rfl (by decide +kernel)) <|
    zall_c (zs_callV0 X (pc := 48) zc_X4 (fun _ ht => ⟨(zCB ht gw_5_86 gw_1_10 gw_5_239 rfl rfl (by decide +kernel) ⟨Nat.le_of_ble_eq_true rfl, Nat.le_of_ble_eq_true rfl⟩), ht _ (.tail _ gw_5_84), ht _ (.tail _ gw_5_85)⟩) h4 hout (by decide +kernel)) <|
    zall_c (zs_ex (fun a b => zs_callV X (pc := 51) zc_J4 (fun _ ht => ⟨(zCB ht gw_3_173 gw_1_5 gw_5_122 rfl rfl (by decide +kernel) ⟨Nat.le_of_ble_eq_true rfl, Nat.le_of_ble_eq_true rfl⟩), ht _ (.tail _ gw_3_171), ht _ (.tail _ gw_3_172)⟩) (h5 a b) hout (by decide +kernel))) <|
    zall_c (zs_pop X (pc := 54) (by decide +kernel)) <|
    zall_c (zs_goto X (pc := 55) (off := 26) (by decide +kernel) (by decide)) <|
    zall_c (zs_aload_n X (pc := 58) (q := 0) rfl (by decide +kernel)) <|
    zall_c (zs_getr X (pc := 59) zc_X8 (by decide) (zin ui_X8) (.tail _ gw_2_128) (by decide +kernel) (by decide +kernel)) <|
    zall_c (zs_bipush X (pc := 62) (by decide) (by decide +kernel) (by decide +kernel)) <|
    zall_c (zs_ex (fun a b => zs_callV X (pc := 64) zc_J4 (fun _ ht => ⟨(zCB ht gw_4_142 gw_1_5 gw_5_117 rfl rfl (by decide +kernel) ⟨Nat.le_of_ble_eq_true rfl, Nat.le_of_ble_eq_true rfl⟩), ht _ (.tail _ gw_4_140), ht _ (.tail _ gw_4_141)⟩) (h3 a b) hout (by decide +kernel))) <|
    zall_c (zs_pop X (pc := 67) (by decide +kernel)) <|
    zall_c (zs_aload_n X (pc := 68) (q := 0) rfl (by decide +kernel)) <|
    zall_c (zs_getr X (pc := 69) zc_X8 (by decide) (zin ui_X8) (.tail _ gw_2_128) (by decide +kernel) (by decide +kernel)) <|
    zall_c (zs_aload_n X (pc := 72) (q := 1) rfl (by decide +kernel)) <|
    zall_c (zs_iload_n X (pc := 73) (q := 2) rfl (by decide +kernel)) <|
    zall_c (zs_callV0 X (pc := 74) zc_X4 (fun _ ht => ⟨(zCB ht gw_5_82 gw_1_10 gw_5_237 rfl rfl (by decide +kernel) ⟨Nat.le_of_ble_eq_true rfl, Nat.le_of_ble_eq_true rfl⟩), ht _ (.tail _ gw_5_80), ht _ (.tail _ gw_5_81)⟩) h6 hout (by decide +kernel)) <|
    zall_c (zs_ex (fun a b => zs_callV X (pc := 77) zc_J4 (fun _ ht => ⟨(zCB ht gw_3_173 gw_1_5 gw_5_122 rfl rfl (by decide +kernel) ⟨Nat.le_of_ble_eq_true rfl, Nat.le_of_ble_eq_true rfl⟩), ht _ (.tail _ gw_3_171), ht _ (.tail _ gw_3_172)⟩) (h5 a b) hout (by decide +kernel))) <|
    zall_c (zs_pop X (pc := 80) (by decide +kernel)) <|
    zall_c (zs_vret X (pc := 81) rfl (by decide +kernel)) <|
    zall_n
theorem met_X8_putTaking {l : Launch} (hl : l.stackTraces = false) {a b : Nat} {T0 : ZTf} {T1 : Nat → Nat → ZTf} {T2 : ZTf} {T3 : Nat → Nat → ZTf} {T4 : ZTf} {T5 : Nat → Nat → ZTf} {T6 : ZTf} (h0 : zMet l yX4_workerAt (Cond.code yX4_workerAt cX4_workerAt 2 (Option.some Jvm.ClassFile.FieldType.int) :: zG) rm_X4_workerAt 0 0 T0) (h1 : ∀ a b, zMet l yJ4_append_15ec4 (Cond.code yJ4_append_15ec4 cJ4_append_15ec4 2 (Option.some (Jvm.ClassFile.FieldType.object "java/lang/StringBuilder")) :: zG) (rm_J4_append_15ec4 a b) a b (T1 a b)) (h2 : zMet l yX4_isInWork (Cond.code yX4_isInWork cX4_isInWork 2 (Option.some Jvm.ClassFile.FieldType.boolean) :: zG) rm_X4_isInWork 0 0 T2) (h3 : ∀ a b, zMet l yJ4_append_cf468 (Cond.code yJ4_append_cf468 cJ4_append_cf468 2 (Option.some (Jvm.ClassFile.FieldType.object "java/lang/StringBuilder")) :: zG) (rm_J4_append_cf468 a b) a b (T3 a b)) (h4 : zMet l yX4_dueAt (Cond.code yX4_dueAt cX4_dueAt 2 (Option.some Jvm.ClassFile.FieldType.int) :: zG) rm_X4_dueAt 0 0 T4) (h5 : ∀ a b, zMet l yJ4_append_bf812 (Cond.code yJ4_append_bf812 cJ4_append_bf812 2 (Option.some (Jvm.ClassFile.FieldType.object "java/lang/StringBuilder")) :: zG) (rm_J4_append_bf812 a b) a b (T5 a b)) (h6 : zMet l yX4_resultAt (Cond.code yX4_resultAt cX4_resultAt 2 (Option.some Jvm.ClassFile.FieldType.int) :: zG) rm_X4_resultAt 0 0 T6) {T : ZTf} (bd : zBd (cd_X8_putTaking T0 T1 T2 T3 T4 T5 T6) 3 a b T) : zMet l yX8_putTaking (Cond.code yX8_putTaking cX8_putTaking 3 (Option.none : Option Jvm.ClassFile.FieldType) :: zG) (rm_X8_putTaking a b) a b T := zMet_of hl (by decide +kernel) rfl rfl rfl rfl (hs_X8_putTaking hl h0 h1 h2 h3 h4 h5 h6) bd

abbrev rm_X8_putWorker (a b : Nat) : Room := { frames := 6, cells := a, slots := b, locals := 148 }
def cd_X8_putWorker (T0 : Nat → Nat → ZTf) (T1 : Nat → Nat → ZTf) (T2 : Nat → Nat → ZTf) (T3 : ZTf) : List (Nat × ZTr) := [(0, tAld 0 1), (1, tGetR 11 2 4), (4, tGetR 8 6 7), (7, tIld 1 8), (8, tAal 30 9), (9, tAst 2 10), (10, tAld 0 11), (11, tGetR 11 7 14), (14, tAld 2 15), (15, tGetR 10 0 18), (18, tEx (fun a b => tCall 2 a b (T0 a b) (zRcv 1) 21)), (21, tPop 22), (22, tAld 0 23), (23, tGetR 11 7 26), (26, tC (zi 58) 28), (28, tEx (fun a b => tCall 2 a b (T1 a b) (zRcv 1) 31)), (31, tPop 32), (32, tAld 0 33), (33, tGetR 11 7 36), (36, tAld 2 37), (37, tGetI 10 3 40), (40, tEx (fun a b => tCall 2 a b (T2 a b) (zRcv 1) 43)), (43, tPop 44), (44, tAld 0 45), (45, tGetR 11 2 48), (48, tIld 1 49), (49, tCall0 2 T3 (zRcv 8) 52), (52, tIf_eq 65 55), (55, tAld 0 56), (56, tGetR 11 7 59), (59, tC (zi 33) 61), (61, tEx (fun a b => tCall 2 a b (T1 a b) (zRcv 1) 64)), (64, tPop 65), (65, tAld 0 66), (66, tGetR 11 7 69), (69, tC (zi 47) 71), (71, tEx (fun a b => tCall 2 a b (T1 a b) (zRcv 1) 74)), (74, tPop 75), (75, tAld 0 76), (76, tGetR 11 7 79), (79, tAld 2 80), (80, tGetI 10 9 83), (83, tEx (fun a b => tCall 2 a b (T2 a b) (zRcv 1) 86)), (86, tPop 87), (87, tRv)]
set_option maxRecDepth 100000 in
set_option maxHeartbeats 4000000 in
theorem hs_X8_putWorker {l : Launch} (hl : l.stackTraces = false) {a b : Nat} {T0 : Nat → Nat → ZTf} {T1 : Nat → Nat → ZTf} {T2 : Nat → Nat → ZTf} {T3 : ZTf} (h0 : ∀ a b, zMet l yJ4_append_15ec4 (Cond.code yJ4_append_15ec4 cJ4_append_15ec4 2 (Option.some (Jvm.ClassFile.FieldType.object "java/lang/StringBuilder")) :: zG) (rm_J4_append_15ec4 a b) a b (T0 a b)) (h1 : ∀ a b, zMet l yJ4_append_cf468 (Cond.code yJ4_append_cf468 cJ4_append_cf468 2 (Option.some (Jvm.ClassFile.FieldType.object "java/lang/StringBuilder")) :: zG) (rm_J4_append_cf468 a b) a b (T1 a b)) (h2 : ∀ a b, zMet l yJ4_append_bf812 (Cond.code yJ4_append_bf812 cJ4_append_bf812 2 (Option.some (Jvm.ClassFile.FieldType.object "java/lang/StringBuilder")) :: zG) (rm_J4_append_bf812 a b) a b (T2 a b)) (h3 : zMet l yX5_isSuspended (Cond.code yX5_isSuspended cX5_isSuspended 2 (Option.some Jvm.ClassFile.FieldType.boolean) :: zG) rm_X5_isSuspended 0 0 T3) (p : Program) (e : Env) (s : State) (m : MethodId) (args : Array Value) (below : List Frame) (meth : Method) (c : Code) (D : va_G) (A : Nat → Prop) (a0 : Nat → Nat) (M0 : ZM) (K : ZRet) (KX : ZEx) (X : zCtx p l (rm_X8_putWorker a b) s m args meth c cX8_putWorker RX8 (Cond.code yX8_putWorker cX8_putWorker 3 (Option.none : Option Jvm.ClassFile.FieldType) :: zG) 3 (Option.none : Option Jvm.ClassFile.FieldType) D A a0 M0 a b) (hnm : meth.name = yX8_putWorker.name) (hout : ∀ x ∈ c.exceptionTable.toList, False) : ∀ q ∈ cd_X8_putWorker T0 T1 T2 T3, zSd p l e (rm_X8_putWorker a b) s m args below meth c 3 D A a0 M0 K KX a b q.1 q.2 :=
    zall_c (zs_aload_n X (pc := 0) (q := 0) rfl (by decide +kernel)) <|
    zall_c (zs_getr X (pc := 1) zc_X8 (by decide) (zin ui_X8) (.tail _ gw_2_123) (by decide +kernel) (by decide +kernel)) <|
    zall_c (zs_getr X (pc := 4) zc_X5 (by decide) (zin ui_X5) (.tail _ gw_2_2) (by decide +kernel) (by decide +kernel)) <|
    zall_c (zs_iload_n X (pc := 7) (q := 1) rfl (by decide +kernel)) <|
    zall_c (zs_aaload X (pc := 8) (by decide) rfl (by decide +kernel)) <|
    zall_c (zs_astore_n X (pc := 9) (q := 2) rfl (by decide) (by decide +kernel)) <|
    zall_c (zs_aload_n X (pc := 10) (q := 0) rfl (by decide +kernel)) <|
    zall_c (zs_getr X (pc := 11) zc_X8 (by decide) (zin ui_X8) (.tail _ gw_2_128) (by decide +kernel) (by decide +kernel)) <|
    zall_c (zs_aload_n X (pc := 14) (q := 2) rfl (by decide +kernel)) <|
    zall_c (zs_getr X (pc := 15) zc_X7 (by decide) (zin ui_X7) (.tail _ gw_1_118) (by decide +kernel) (by decide +kernel)) <|
    zall_c (zs_ex (fun a b => zs_callV X (pc := 18) zc_J4 (fun _ ht => ⟨(zCB ht gw_3_72 gw_1_5 gw_5_132 rfl rfl (by decide +kernel) ⟨Nat.le_of_ble_eq_true rfl, Nat.le_of_ble_eq_true rfl⟩), ht _ (.tail _ gw_3_70), ht _ (.tail _ gw_3_71)⟩) (h0 a b) hout (by decide +kernel))) <|
    zall_c (zs_pop X (pc := 21) (by decide +kernel)) <|
    zall_c (zs_aload_n X (pc := 22) (q := 0) rfl (by decide +kernel)) <|
    zall_c (zs_getr X (pc := 23) zc_X8 (by decide) (zin ui_X8) (.tail _ gw_2_128) (by decide +kernel) (by decide +kernel)) <|
    zall_c (zs_bipush X (pc := 26) (by decide) (by decide +kernel) (by decide +kernel)) <|
    zall_c (zs_ex (fun a b => zs_callV X (pc := 28) zc_J4 (fun _ ht => ⟨(zCB ht gw_4_142 gw_1_5 gw_5_117 rfl rfl (by decide +kernel) ⟨Nat.le_of_ble_eq_true rfl, Nat.le_of_ble_eq_true rfl⟩), ht _ (.tail _ gw_4_140), ht _ (.tail _ gw_4_141)⟩) (h1 a b) hout (by decide +kernel))) <|
    zall_c (zs_pop X (pc := 31) (by decide +kernel)) <|
    zall_c (zs_aload_n X (pc := 32) (q := 0) rfl (by decide +kernel)) <|
    zall_c (zs_getr X (pc := 33) zc_X8 (by decide) (zin ui_X8) (.tail _ gw_2_128) (by decide +kernel) (by decide +kernel)) <|
    zall_c (zs_aload_n X (pc := 36) (q := 2) rfl (by decide +kernel)) <|
    zall_c (zs_geti X (pc := 37) zc_X7 (by decide) (zin ui_X7) (.tail _ gw_1_127) (by decide +kernel) (by decide +kernel)) <|
    zall_c (zs_ex (fun a b => zs_callV X (pc := 40) zc_J4 (fun _ ht => ⟨(zCB ht gw_3_173 gw_1_5 gw_5_122 rfl rfl (by decide +kernel) ⟨Nat.le_of_ble_eq_true rfl, Nat.le_of_ble_eq_true rfl⟩), ht _ (.tail _ gw_3_171), ht _ (.tail _ gw_3_172)⟩) (h2 a b) hout (by decide +kernel))) <|
    zall_c (zs_pop X (pc := 43) (by decide +kernel)) <|
    zall_c (zs_aload_n X (pc := 44) (q := 0) rfl (by decide +kernel)) <|
    zall_c (zs_getr X (pc := 45) zc_X8 (by decide) (zin ui_X8) (.tail _ gw_2_123) (by decide +kernel) (by decide +kernel)) <|
    zall_c (zs_iload_n X (pc := 48) (q := 1) rfl (by decide +kernel)) <|
    zall_c (zs_callV0 X (pc := 49) zc_X5 (fun _ ht => ⟨(zCB ht gw_5_20 gw_1_8 gw_5_54 rfl rfl (by decide +kernel) ⟨Nat.le_of_ble_eq_true rfl, Nat.le_of_ble_eq_true rfl⟩), ht _ (.tail _ gw_5_18), ht _ (.tail _ gw_5_19)⟩) h3 hout (by decide +kernel)) <|
    zall_c (zs_if_eq X (pc := 52) (off := 13) (by decide +kernel) (by decide)) <|
    zall_c (zs_aload_n X (pc := 55) (q := 0) rfl (by decide +kernel)) <|
    zall_c (zs_getr X (pc := 56) zc_X8 (by decide) (zin ui_X8) (.tail _ gw_2_128) (by decide +kernel) (by decide +kernel)) <|
    zall_c (zs_bipush X (pc := 59) (by decide) (by decide +kernel) (by decide +kernel)) <|
    zall_c (zs_ex (fun a b => zs_callV X (pc := 61) zc_J4 (fun _ ht => ⟨(zCB ht gw_4_142 gw_1_5 gw_5_117 rfl rfl (by decide +kernel) ⟨Nat.le_of_ble_eq_true rfl, Nat.le_of_ble_eq_true rfl⟩), ht _ (.tail _ gw_4_140), ht _ (.tail _ gw_4_141)⟩) (h1 a b) hout (by decide +kernel))) <|
    zall_c (zs_pop X (pc := 64) (by decide +kernel)) <|
    zall_c (zs_aload_n X (pc := 65) (q := 0) rfl (by decide +kernel)) <|
    zall_c (zs_getr X (pc := 66) zc_X8 (by decide) (zin ui_X8) (.tail _ gw_2_128) (by decide +kernel) (by decide +kernel)) <|
    zall_c (zs_bipush X (pc := 69) (by decide) (by decide +kernel) (by decide +kernel)) <|
    zall_c (zs_ex (fun a b => zs_callV X (pc := 71) zc_J4 (fun _ ht => ⟨(zCB ht gw_4_142 gw_1_5 gw_5_117 rfl rfl (by decide +kernel) ⟨Nat.le_of_ble_eq_true rfl, Nat.le_of_ble_eq_true rfl⟩), ht _ (.tail _ gw_4_140), ht _ (.tail _ gw_4_141)⟩) (h1 a b) hout (by decide +kernel))) <|
    zall_c (zs_pop X (pc := 74) (by decide +kernel)) <|
    zall_c (zs_aload_n X (pc := 75) (q := 0) rfl (by decide +kernel)) <|
    zall_c (zs_getr X (pc := 76) zc_X8 (by decide) (zin ui_X8) (.tail _ gw_2_128) (by decide +kernel) (by decide +kernel)) <|
    zall_c (zs_aload_n X (pc := 79) (q := 2) rfl (by decide +kernel)) <|
    zall_c (zs_geti X (pc := 80) zc_X7 (by decide) (zin ui_X7) (.tail _ gw_1_145) (by decide +kernel) (by decide +kernel)) <|
    zall_c (zs_ex (fun a b => zs_callV X (pc := 83) zc_J4 (fun _ ht => ⟨(zCB ht gw_3_173 gw_1_5 gw_5_122 rfl rfl (by decide +kernel) ⟨Nat.le_of_ble_eq_true rfl, Nat.le_of_ble_eq_true rfl⟩), ht _ (.tail _ gw_3_171), ht _ (.tail _ gw_3_172)⟩) (h2 a b) hout (by decide +kernel))) <|
    zall_c (zs_pop X (pc := 86) (by decide +kernel)) <|
    zall_c (zs_vret X (pc := 87) rfl (by decide +kernel)) <|
    zall_n
theorem met_X8_putWorker {l : Launch} (hl : l.stackTraces = false) {a b : Nat} {T0 : Nat → Nat → ZTf} {T1 : Nat → Nat → ZTf} {T2 : Nat → Nat → ZTf} {T3 : ZTf} (h0 : ∀ a b, zMet l yJ4_append_15ec4 (Cond.code yJ4_append_15ec4 cJ4_append_15ec4 2 (Option.some (Jvm.ClassFile.FieldType.object "java/lang/StringBuilder")) :: zG) (rm_J4_append_15ec4 a b) a b (T0 a b)) (h1 : ∀ a b, zMet l yJ4_append_cf468 (Cond.code yJ4_append_cf468 cJ4_append_cf468 2 (Option.some (Jvm.ClassFile.FieldType.object "java/lang/StringBuilder")) :: zG) (rm_J4_append_cf468 a b) a b (T1 a b)) (h2 : ∀ a b, zMet l yJ4_append_bf812 (Cond.code yJ4_append_bf812 cJ4_append_bf812 2 (Option.some (Jvm.ClassFile.FieldType.object "java/lang/StringBuilder")) :: zG) (rm_J4_append_bf812 a b) a b (T2 a b)) (h3 : zMet l yX5_isSuspended (Cond.code yX5_isSuspended cX5_isSuspended 2 (Option.some Jvm.ClassFile.FieldType.boolean) :: zG) rm_X5_isSuspended 0 0 T3) {T : ZTf} (bd : zBd (cd_X8_putWorker T0 T1 T2 T3) 3 a b T) : zMet l yX8_putWorker (Cond.code yX8_putWorker cX8_putWorker 3 (Option.none : Option Jvm.ClassFile.FieldType) :: zG) (rm_X8_putWorker a b) a b T := zMet_of hl (by decide +kernel) rfl rfl rfl rfl (hs_X8_putWorker hl h0 h1 h2 h3) bd

abbrev rm_X3_readTableStatement : Room := { frames := 8, cells := 0, slots := 0, locals := 181 }
def cd_X3_readTableStatement (T0 : ZTf) (T1 : ZTf) (T2 : ZTf) : List (Nat × ZTr) := [(0, tAld 0 1), (1, tC (zo 1) 4), (4, tCall0 2 T0 (zRcv 6) 7), (7, tIf_eq 30 10), (10, tAld 0 11), (11, tC (zo 2) 14), (14, tCall0 2 T0 (zRcv 6) 17), (17, tIf_eq 30 20), (20, tAld 0 21), (21, tC (zi 0) 22), (22, tC (zi 20) 24), (24, tCall0 3 T1 (zRcv 6) 27), (27, tIf_ne 32 30), (30, tC (zi 0) 31), (31, tRi zPz), (32, tAld 0 33), (33, tGetR 6 3 36), (36, tAld 0 37), (37, tGetI 6 8 40), (40, tPutI 8 0 (fun _ => True) 43), (43, tAld 0 44), (44, tC (zo 3) 47), (47, tCall0 2 T0 (zRcv 6) 50), (50, tIf_eq 63 53), (53, tAld 0 54), (54, tC (zi 1) 55), (55, tC (zi 50) 57), (57, tCall0 3 T1 (zRcv 6) 60), (60, tIf_ne 65 63), (63, tC (zi 0) 64), (64, tRi zPz), (65, tAld 0 66), (66, tGetR 6 3 69), (69, tAld 0 70), (70, tGetI 6 8 73), (73, tPutI 8 1 (fun _ => True) 76), (76, tAld 0 77), (77, tC (zo 4) 80), (80, tCall0 2 T0 (zRcv 6) 83), (83, tIf_eq 96 86), (86, tAld 0 87), (87, tC (zi 0) 88), (88, tC (zi 19) 90), (90, tCall0 3 T1 (zRcv 6) 93), (93, tIf_ne 98 96), (96, tC (zi 0) 97), (97, tRi zPz), (98, tAld 0 99), (99, tGetR 6 3 102), (102, tAld 0 103), (103, tGetI 6 8 106), (106, tPutI 8 2 (fun _ => True) 109), (109, tAld 0 110), (110, tCall0 1 T2 (zRcv 6) 113), (113, tRi zPz)]
set_option maxRecDepth 100000 in
set_option maxHeartbeats 4000000 in
theorem hs_X3_readTableStatement {l : Launch} (hl : l.stackTraces = false) {T0 : ZTf} {T1 : ZTf} {T2 : ZTf} (h0 : zMet l yX3_readKeyword (Cond.code yX3_readKeyword cX3_readKeyword 2 (Option.some Jvm.ClassFile.FieldType.boolean) :: zG) rm_X3_readKeyword 0 0 T0) (h1 : zMet l yX3_readNumber (Cond.code yX3_readNumber cX3_readNumber 3 (Option.some Jvm.ClassFile.FieldType.boolean) :: zG) rm_X3_readNumber 0 0 T1) (h2 : zMet l yX3_readSemicolon (Cond.code yX3_readSemicolon cX3_readSemicolon 1 (Option.some Jvm.ClassFile.FieldType.boolean) :: zG) rm_X3_readSemicolon 0 0 T2) (p : Program) (e : Env) (s : State) (m : MethodId) (args : Array Value) (below : List Frame) (meth : Method) (c : Code) (D : va_G) (A : Nat → Prop) (a0 : Nat → Nat) (M0 : ZM) (K : ZRet) (KX : ZEx) (X : zCtx p l rm_X3_readTableStatement s m args meth c cX3_readTableStatement RX3 (Cond.code yX3_readTableStatement cX3_readTableStatement 1 (Option.some Jvm.ClassFile.FieldType.boolean) :: zG) 1 (Option.some Jvm.ClassFile.FieldType.boolean) D A a0 M0 0 0) (hnm : meth.name = yX3_readTableStatement.name) (hout : ∀ x ∈ c.exceptionTable.toList, False) : ∀ q ∈ cd_X3_readTableStatement T0 T1 T2, zSd p l e rm_X3_readTableStatement s m args below meth c 1 D A a0 M0 K KX 0 0 q.1 q.2 :=
    zall_c (zs_aload_n X (pc := 0) (q := 0) rfl (by decide +kernel)) <|
    zall_c (zs_gets X (pc := 1) (C := "ReviewTable$Keyword") (n1 := "TABLE") (d1 := "LReviewTable$Keyword;") (List.mem_of_getElem? (i := 0) rfl) (.tail _ gw_2_186) (by decide +kernel)) <|
    zall_c (zs_callV0 X (pc := 4) zc_X3 (fun _ ht => ⟨(zCB ht gw_2_191 gw_1_2 gw_2_188 rfl rfl (by decide +kernel) ⟨Nat.le_of_ble_eq_true rfl, Nat.le_of_ble_eq_true rfl⟩), ht _ (.tail _ gw_2_190), ht _ (.tail _ gp_4)⟩) h0 hout (by decide +kernel)) <|
    zall_c (zs_if_eq X (pc := 7) (off := 23) (by decide +kernel) (by decide)) <|
    zall_c (zs_aload_n X (pc := 10) (q := 0) rfl (by decide +kernel)) <|
    zall_c (zs_gets X (pc := 11) (C := "ReviewTable$Keyword") (n1 := "TOLERANCE") (d1 := "LReviewTable$Keyword;") (List.mem_of_getElem? (i := 1) rfl) (.tail _ gw_3_11) (by decide +kernel)) <|
    zall_c (zs_callV0 X (pc := 14) zc_X3 (fun _ ht => ⟨(zCB ht gw_2_191 gw_1_2 gw_2_188 rfl rfl (by decide +kernel) ⟨Nat.le_of_ble_eq_true rfl, Nat.le_of_ble_eq_true rfl⟩), ht _ (.tail _ gw_2_190), ht _ (.tail _ gp_4)⟩) h0 hout (by decide +kernel)) <|
    zall_c (zs_if_eq X (pc := 17) (off := 13) (by decide +kernel) (by decide)) <|
    zall_c (zs_aload_n X (pc := 20) (q := 0) rfl (by decide +kernel)) <|
    zall_c (zs_iconst X (pc := 21) (by decide) (by decide +kernel)) <|
    zall_c (zs_bipush X (pc := 22) (by decide) (by decide +kernel) (by decide +kernel)) <|
    zall_c (zs_callV0 X (pc := 24) zc_X3 (fun _ ht => ⟨(zCB ht gw_3_16 gw_1_2 gw_3_13 rfl rfl (by decide +kernel) ⟨Nat.le_of_ble_eq_true rfl, Nat.le_of_ble_eq_true rfl⟩), ht _ (.tail _ gw_3_15), ht _ (.tail _ gp_7)⟩) h1 hout (by decide +kernel)) <|
    zall_c (zs_if_ne X (pc := 27) (off := 5) (by decide +kernel) (by decide)) <|
    zall_c (zs_iconst X (pc := 30) (by decide) (by decide +kernel)) <|
    zall_c (zs_zret X (pc := 31) rfl zR_bool (by decide +kernel)) <|
    zall_c (zs_aload_n X (pc := 32) (q := 0) rfl (by decide +kernel)) <|
    zall_c (zs_getr X (pc := 33) zc_X3 (by decide) (zin ui_X3) (.tail _ gw_2_35) (by decide +kernel) (by decide +kernel)) <|
    zall_c (zs_aload_n X (pc := 36) (q := 0) rfl (by decide +kernel)) <|
    zall_c (zs_geti X (pc := 37) zc_X3 (by decide) (zin ui_X3) (.tail _ gw_2_41) (by decide +kernel) (by decide +kernel)) <|
    zall_c (zs_puti X (pc := 40) (ty := Jvm.ClassFile.FieldType.int) zc_X5 (by decide) (zin ui_X5) tyX5_ok nmX5 (.tail _ gw_1_225) rfl (by decide +kernel) (by decide +kernel) (by decide +kernel) zP_int) <|
    zall_c (zs_aload_n X (pc := 43) (q := 0) rfl (by decide +kernel)) <|
    zall_c (zs_gets X (pc := 44) (C := "ReviewTable$Keyword") (n1 := "PATIENCE") (d1 := "LReviewTable$Keyword;") (List.mem_of_getElem? (i := 2) rfl) (.tail _ gw_3_21) (by decide +kernel)) <|
    zall_c (zs_callV0 X (pc := 47) zc_X3 (fun _ ht => ⟨(zCB ht gw_2_191 gw_1_2 gw_2_188 rfl rfl (by decide +kernel) ⟨Nat.le_of_ble_eq_true rfl, Nat.le_of_ble_eq_true rfl⟩), ht _ (.tail _ gw_2_190), ht _ (.tail _ gp_4)⟩) h0 hout (by decide +kernel)) <|
    zall_c (zs_if_eq X (pc := 50) (off := 13) (by decide +kernel) (by decide)) <|
    zall_c (zs_aload_n X (pc := 53) (q := 0) rfl (by decide +kernel)) <|
    zall_c (zs_iconst X (pc := 54) (by decide) (by decide +kernel)) <|
    zall_c (zs_bipush X (pc := 55) (by decide) (by decide +kernel) (by decide +kernel)) <|
    zall_c (zs_callV0 X (pc := 57) zc_X3 (fun _ ht => ⟨(zCB ht gw_3_16 gw_1_2 gw_3_13 rfl rfl (by decide +kernel) ⟨Nat.le_of_ble_eq_true rfl, Nat.le_of_ble_eq_true rfl⟩), ht _ (.tail _ gw_3_15), ht _ (.tail _ gp_7)⟩) h1 hout (by decide +kernel)) <|
    zall_c (zs_if_ne X (pc := 60) (off := 5) (by decide +kernel) (by decide)) <|
    zall_c (zs_iconst X (pc := 63) (by decide) (by decide +kernel)) <|
    zall_c (zs_zret X (pc := 64) rfl zR_bool (by decide +kernel)) <|
    zall_c (zs_aload_n X (pc := 65) (q := 0) rfl (by decide +kernel)) <|
    zall_c (zs_getr X (pc := 66) zc_X3 (by decide) (zin ui_X3) (.tail _ gw_2_35) (by decide +kernel) (by decide +kernel)) <|
    zall_c (zs_aload_n X (pc := 69) (q := 0) rfl (by decide +kernel)) <|
    zall_c (zs_geti X (pc := 70) zc_X3 (by decide) (zin ui_X3) (.tail _ gw_2_41) (by decide +kernel) (by decide +kernel)) <|
    zall_c (zs_puti X (pc := 73) (ty := Jvm.ClassFile.FieldType.int) zc_X5 (by decide) (zin ui_X5) tyX5_ok nmX5 (.tail _ gw_1_228) rfl (by decide +kernel) (by decide +kernel) (by decide +kernel) zP_int) <|
    zall_c (zs_aload_n X (pc := 76) (q := 0) rfl (by decide +kernel)) <|
    zall_c (zs_gets X (pc := 77) (C := "ReviewTable$Keyword") (n1 := "LEAST") (d1 := "LReviewTable$Keyword;") (List.mem_of_getElem? (i := 3) rfl) (.tail _ gw_3_23) (by decide +kernel)) <|
    zall_c (zs_callV0 X (pc := 80) zc_X3 (fun _ ht => ⟨(zCB ht gw_2_191 gw_1_2 gw_2_188 rfl rfl (by decide +kernel) ⟨Nat.le_of_ble_eq_true rfl, Nat.le_of_ble_eq_true rfl⟩), ht _ (.tail _ gw_2_190), ht _ (.tail _ gp_4)⟩) h0 hout (by decide +kernel)) <|
    zall_c (zs_if_eq X (pc := 83) (off := 13) (by decide +kernel) (by decide)) <|
    zall_c (zs_aload_n X (pc := 86) (q := 0) rfl (by decide +kernel)) <|
    zall_c (zs_iconst X (pc := 87) (by decide) (by decide +kernel)) <|
    zall_c (zs_bipush X (pc := 88) (by decide) (by decide +kernel) (by decide +kernel)) <|
    zall_c (zs_callV0 X (pc := 90) zc_X3 (fun _ ht => ⟨(zCB ht gw_3_16 gw_1_2 gw_3_13 rfl rfl (by decide +kernel) ⟨Nat.le_of_ble_eq_true rfl, Nat.le_of_ble_eq_true rfl⟩), ht _ (.tail _ gw_3_15), ht _ (.tail _ gp_7)⟩) h1 hout (by decide +kernel)) <|
    zall_c (zs_if_ne X (pc := 93) (off := 5) (by decide +kernel) (by decide)) <|
    zall_c (zs_iconst X (pc := 96) (by decide) (by decide +kernel)) <|
    zall_c (zs_zret X (pc := 97) rfl zR_bool (by decide +kernel)) <|
    zall_c (zs_aload_n X (pc := 98) (q := 0) rfl (by decide +kernel)) <|
    zall_c (zs_getr X (pc := 99) zc_X3 (by decide) (zin ui_X3) (.tail _ gw_2_35) (by decide +kernel) (by decide +kernel)) <|
    zall_c (zs_aload_n X (pc := 102) (q := 0) rfl (by decide +kernel)) <|
    zall_c (zs_geti X (pc := 103) zc_X3 (by decide) (zin ui_X3) (.tail _ gw_2_41) (by decide +kernel) (by decide +kernel)) <|
    zall_c (zs_puti X (pc := 106) (ty := Jvm.ClassFile.FieldType.int) zc_X5 (by decide) (zin ui_X5) tyX5_ok nmX5 (.tail _ gw_1_231) rfl (by decide +kernel) (by decide +kernel) (by decide +kernel) zP_int) <|
    zall_c (zs_aload_n X (pc := 109) (q := 0) rfl (by decide +kernel)) <|
    zall_c (zs_callV0 X (pc := 110) zc_X3 (fun _ ht => ⟨(zCB ht gw_3_28 gw_1_2 gw_3_25 rfl rfl (by decide +kernel) ⟨Nat.le_of_ble_eq_true rfl, Nat.le_of_ble_eq_true rfl⟩), ht _ (.tail _ gw_3_27), ht _ (.tail _ gp_9)⟩) h2 hout (by decide +kernel)) <|
    zall_c (zs_zret X (pc := 113) rfl zR_bool (by decide +kernel)) <|
    zall_n
theorem met_X3_readTableStatement {l : Launch} (hl : l.stackTraces = false) {T0 : ZTf} {T1 : ZTf} {T2 : ZTf} (h0 : zMet l yX3_readKeyword (Cond.code yX3_readKeyword cX3_readKeyword 2 (Option.some Jvm.ClassFile.FieldType.boolean) :: zG) rm_X3_readKeyword 0 0 T0) (h1 : zMet l yX3_readNumber (Cond.code yX3_readNumber cX3_readNumber 3 (Option.some Jvm.ClassFile.FieldType.boolean) :: zG) rm_X3_readNumber 0 0 T1) (h2 : zMet l yX3_readSemicolon (Cond.code yX3_readSemicolon cX3_readSemicolon 1 (Option.some Jvm.ClassFile.FieldType.boolean) :: zG) rm_X3_readSemicolon 0 0 T2) {T : ZTf} (bd : zBd (cd_X3_readTableStatement T0 T1 T2) 1 0 0 T) : zMet l yX3_readTableStatement (Cond.code yX3_readTableStatement cX3_readTableStatement 1 (Option.some Jvm.ClassFile.FieldType.boolean) :: zG) rm_X3_readTableStatement 0 0 T := zMet_of hl (by decide +kernel) rfl rfl rfl rfl (hs_X3_readTableStatement hl h0 h1 h2) bd

abbrev rm_X3_readWorkerStatement : Room := { frames := 8, cells := 4, slots := 30, locals := 194 }
def cd_X3_readWorkerStatement (T0 : ZTf) (T1 : ZTf) (T2 : ZTf) (T3 : ZTf) (T4 : ZTf) (T5 : ZTf) (T6 : ZTf) (T7 : ZTf) (T8 : ZTf) (T9 : ZTf) : List (Nat × ZTr) := [(0, tAld 0 1), (1, tGetR 6 3 4), (4, tGetI 8 4 7), (7, tC (zi 6) 9), (9, tIc_lt 18 12), (12, tAld 0 13), (13, tC (zi 4) 14), (14, tCall0 2 T0 (zRcv 6) 17), (17, tRi zPz), (18, tAld 0 19), (19, tCall0 1 T1 (zRcv 6) 22), (22, tAld 0 23), (23, tCall0 1 T2 (zRcv 6) 26), (26, tIf_ne 35 29), (29, tAld 0 30), (30, tC (zi 1) 31), (31, tCall0 2 T0 (zRcv 6) 34), (34, tRi zPz), (35, tAld 0 36), (36, tGetR 6 3 39), (39, tAld 0 40), (40, tGetR 6 2 43), (43, tAld 0 44), (44, tGetI 6 5 47), (47, tAld 0 48), (48, tGetI 6 6 51), (51, tCall0 4 T3 (zRcv 8) 54), (54, tC (zi (-1)) 55), (55, tIc_eq 64 58), (58, tAld 0 59), (59, tC (zi 3) 60), (60, tCall0 2 T0 (zRcv 6) 63), (63, tRi zPz), (64, tAld 0 65), (65, tGetR 6 2 68), (68, tAld 0 69), (69, tGetI 6 5 72), (72, tAld 0 73), (73, tGetI 6 6 76), (76, tCall 3 4 30 T4 (zRcv 5) 79), (79, tAst 1 80), (80, tAld 0 81), (81, tCall0 1 T1 (zRcv 6) 84), (84, tAld 0 85), (85, tC (zo 6) 88), (88, tCall0 2 T5 (zRcv 6) 91), (91, tIf_eq 103 94), (94, tAld 0 95), (95, tC (zi 0) 96), (96, tC (zi 5) 97), (97, tCall0 3 T6 (zRcv 6) 100), (100, tIf_ne 105 103), (103, tC (zi 0) 104), (104, tRi zPz), (105, tAld 0 106), (106, tGetI 6 8 109), (109, tIst 2 110), (110, tAld 0 111), (111, tC (zo 7) 114), (114, tCall0 2 T5 (zRcv 6) 117), (117, tIf_eq 129 120), (120, tAld 0 121), (121, tC (zi 1) 122), (122, tC (zi 5) 123), (123, tCall0 3 T6 (zRcv 6) 126), (126, tIf_ne 131 129), (129, tC (zi 0) 130), (130, tRi zPz), (131, tAld 0 132), (132, tGetI 6 8 135), (135, tIst 3 136), (136, tC (zi 10) 138), (138, tIst 4 140), (140, tAld 0 141), (141, tC (zo 8) 144), (144, tCall0 2 T7 (zRcv 6) 147), (147, tIf_eq 172 150), (150, tAld 0 151), (151, tCall0 1 T1 (zRcv 6) 154), (154, tAld 0 155), (155, tC (zi 0) 156), (156, tC (zi 20) 158), (158, tCall0 3 T6 (zRcv 6) 161), (161, tIf_ne 166 164), (164, tC (zi 0) 165), (165, tRi zPz), (166, tAld 0 167), (167, tGetI 6 8 170), (170, tIst 4 172), (172, tAld 0 173), (173, tGetR 6 3 176), (176, tAld 1 177), (177, tIld 2 178), (178, tIld 3 179), (179, tIld 4 181), (181, tCall0 5 T8 (zRcv 8) 184), (184, tAld 0 185), (185, tCall0 1 T9 (zRcv 6) 188), (188, tRi zPz)]
set_option maxRecDepth 100000 in
set_option maxHeartbeats 4000000 in
theorem hs_X3_readWorkerStatement {l : Launch} (hl : l.stackTraces = false) {T0 : ZTf} {T1 : ZTf} {T2 : ZTf} {T3 : ZTf} {T4 : ZTf} {T5 : ZTf} {T6 : ZTf} {T7 : ZTf} {T8 : ZTf} {T9 : ZTf} (h0 : zMet l yX3_fail (Cond.code yX3_fail cX3_fail 2 (Option.some Jvm.ClassFile.FieldType.boolean) :: zG) rm_X3_fail 0 0 T0) (h1 : zMet l yX3_nextToken (Cond.code yX3_nextToken cX3_nextToken 1 (Option.none : Option Jvm.ClassFile.FieldType) :: zG) rm_X3_nextToken 0 0 T1) (h2 : zMet l yX3_isAtName (Cond.code yX3_isAtName cX3_isAtName 5 (Option.some Jvm.ClassFile.FieldType.boolean) :: zG) rm_X3_isAtName 0 0 T2) (h3 : zMet l yX5_workerNamed (Cond.code yX5_workerNamed cX5_workerNamed 5 (Option.some Jvm.ClassFile.FieldType.int) :: zG) rm_X5_workerNamed 0 0 T3) (h4 : zMet l yX1_textBetween (Cond.code yX1_textBetween cX1_textBetween 4 (Option.some (Jvm.ClassFile.FieldType.object "java/lang/String")) :: zG) rm_X1_textBetween 4 30 T4) (h5 : zMet l yX3_readKeyword (Cond.code yX3_readKeyword cX3_readKeyword 2 (Option.some Jvm.ClassFile.FieldType.boolean) :: zG) rm_X3_readKeyword 0 0 T5) (h6 : zMet l yX3_readNumber (Cond.code yX3_readNumber cX3_readNumber 3 (Option.some Jvm.ClassFile.FieldType.boolean) :: zG) rm_X3_readNumber 0 0 T6) (h7 : zMet l yX3_isAt (Cond.code yX3_isAt cX3_isAt 2 (Option.some Jvm.ClassFile.FieldType.boolean) :: zG) rm_X3_isAt 0 0 T7) (h8 : zMet l yX5_putWorker (Cond.code yX5_putWorker cX5_putWorker 5 (Option.none : Option Jvm.ClassFile.FieldType) :: zG) rm_X5_putWorker 0 0 T8) (h9 : zMet l yX3_readSemicolon (Cond.code yX3_readSemicolon cX3_readSemicolon 1 (Option.some Jvm.ClassFile.FieldType.boolean) :: zG) rm_X3_readSemicolon 0 0 T9) (p : Program) (e : Env) (s : State) (m : MethodId) (args : Array Value) (below : List Frame) (meth : Method) (c : Code) (D : va_G) (A : Nat → Prop) (a0 : Nat → Nat) (M0 : ZM) (K : ZRet) (KX : ZEx) (X : zCtx p l rm_X3_readWorkerStatement s m args meth c cX3_readWorkerStatement RX3 (Cond.code yX3_readWorkerStatement cX3_readWorkerStatement 5 (Option.some Jvm.ClassFile.FieldType.boolean) :: zG) 5 (Option.some Jvm.ClassFile.FieldType.boolean) D A a0 M0 4 30) (hnm : meth.name = yX3_readWorkerStatement.name) (hout : ∀ x ∈ c.exceptionTable.toList, False) : ∀ q ∈ cd_X3_readWorkerStatement T0 T1 T2 T3 T4 T5 T6 T7 T8 T9, zSd p l e rm_X3_readWorkerStatement s m args below meth c 5 D A a0 M0 K KX 4 30 q.1 q.2 :=
    zall_c (zs_aload_n X (pc := 0) (q := 0) rfl (by decide +kernel)) <|
    zall_c (zs_getr X (pc := 1) zc_X3 (by decide) (zin ui_X3) (.tail _ gw_2_35) (by decide +kernel) (by decide +kernel)) <|
    zall_c (zs_geti X (pc := 4) zc_X5 (by decide) (zin ui_X5) (.tail _ gw_1_237) (by decide +kernel) (by decide +kernel)) <|
    zall_c (zs_bipush X (pc := 7) (by decide) (by decide +kernel) (by decide +kernel)) <|
    zall_c (zs_icmp_lt X (pc := 9) (off := 9) (by decide +kernel) (by decide)) <|
    zall_c (zs_aload_n X (pc := 12) (q := 0) rfl (by decide +kernel)) <|
    zall_c (zs_iconst X (pc := 13) (by decide) (by decide +kernel)) <|
    zall_c (zs_callV0 X (pc := 14) zc_X3 (fun _ ht => ⟨(zCB ht gw_3_10 gw_1_2 gw_3_7 rfl rfl (by decide +kernel) ⟨Nat.le_of_ble_eq_true rfl, Nat.le_of_ble_eq_true rfl⟩), ht _ (.tail _ gw_3_9), ht _ (.tail _ gp_6)⟩) h0 hout (by decide +kernel)) <|
    zall_c (zs_zret X (pc := 17) rfl zR_bool (by decide +kernel)) <|
    zall_c (zs_aload_n X (pc := 18) (q := 0) rfl (by decide +kernel)) <|
    zall_c (zs_callV0 X (pc := 19) zc_X3 (fun _ ht => ⟨(zCB ht gw_2_170 gw_1_2 gw_2_167 rfl rfl (by decide +kernel) ⟨Nat.le_of_ble_eq_true rfl, Nat.le_of_ble_eq_true rfl⟩), ht _ (.tail _ gw_2_169), ht _ (.tail _ gp_0)⟩) h1 hout (by decide +kernel)) <|
    zall_c (zs_aload_n X (pc := 22) (q := 0) rfl (by decide +kernel)) <|
    zall_c (zs_callV0 X (pc := 23) zc_X3 (fun _ ht => ⟨(zCB ht gw_3_42 gw_1_2 gw_3_39 rfl rfl (by decide +kernel) ⟨Nat.le_of_ble_eq_true rfl, Nat.le_of_ble_eq_true rfl⟩), ht _ (.tail _ gw_3_41), ht _ (.tail _ gp_12)⟩) h2 hout (by decide +kernel)) <|
    zall_c (zs_if_ne X (pc := 26) (off := 9) (by decide +kernel) (by decide)) <|
    zall_c (zs_aload_n X (pc := 29) (q := 0) rfl (by decide +kernel)) <|
    zall_c (zs_iconst X (pc := 30) (by decide) (by decide +kernel)) <|
    zall_c (zs_callV0 X (pc := 31) zc_X3 (fun _ ht => ⟨(zCB ht gw_3_10 gw_1_2 gw_3_7 rfl rfl (by decide +kernel) ⟨Nat.le_of_ble_eq_true rfl, Nat.le_of_ble_eq_true rfl⟩), ht _ (.tail _ gw_3_9), ht _ (.tail _ gp_6)⟩) h0 hout (by decide +kernel)) <|
    zall_c (zs_zret X (pc := 34) rfl zR_bool (by decide +kernel)) <|
    zall_c (zs_aload_n X (pc := 35) (q := 0) rfl (by decide +kernel)) <|
    zall_c (zs_getr X (pc := 36) zc_X3 (by decide) (zin ui_X3) (.tail _ gw_2_35) (by decide +kernel) (by decide +kernel)) <|
    zall_c (zs_aload_n X (pc := 39) (q := 0) rfl (by decide +kernel)) <|
    zall_c (zs_getr X (pc := 40) zc_X3 (by decide) (zin ui_X3) (.tail _ gw_2_33) (by decide +kernel) (by decide +kernel)) <|
    zall_c (zs_aload_n X (pc := 43) (q := 0) rfl (by decide +kernel)) <|
    zall_c (zs_geti X (pc := 44) zc_X3 (by decide) (zin ui_X3) (.tail _ gw_2_38) (by decide +kernel) (by decide +kernel)) <|
    zall_c (zs_aload_n X (pc := 47) (q := 0) rfl (by decide +kernel)) <|
    zall_c (zs_geti X (pc := 48) zc_X3 (by decide) (zin ui_X3) (.tail _ gw_2_39) (by decide +kernel) (by decide +kernel)) <|
    zall_c (zs_callV0 X (pc := 51) zc_X5 (fun _ ht => ⟨(zCB ht gw_3_48 gw_1_8 gw_3_45 rfl rfl (by decide +kernel) ⟨Nat.le_of_ble_eq_true rfl, Nat.le_of_ble_eq_true rfl⟩), ht _ (.tail _ gw_3_46), ht _ (.tail _ gw_3_47)⟩) h3 hout (by decide +kernel)) <|
    zall_c (zs_iconst X (pc := 54) (by decide) (by decide +kernel)) <|
    zall_c (zs_icmp_eq X (pc := 55) (off := 9) (by decide +kernel) (by decide)) <|
    zall_c (zs_aload_n X (pc := 58) (q := 0) rfl (by decide +kernel)) <|
    zall_c (zs_iconst X (pc := 59) (by decide) (by decide +kernel)) <|
    zall_c (zs_callV0 X (pc := 60) zc_X3 (fun _ ht => ⟨(zCB ht gw_3_10 gw_1_2 gw_3_7 rfl rfl (by decide +kernel) ⟨Nat.le_of_ble_eq_true rfl, Nat.le_of_ble_eq_true rfl⟩), ht _ (.tail _ gw_3_9), ht _ (.tail _ gp_6)⟩) h0 hout (by decide +kernel)) <|
    zall_c (zs_zret X (pc := 63) rfl zR_bool (by decide +kernel)) <|
    zall_c (zs_aload_n X (pc := 64) (q := 0) rfl (by decide +kernel)) <|
    zall_c (zs_getr X (pc := 65) zc_X3 (by decide) (zin ui_X3) (.tail _ gw_2_33) (by decide +kernel) (by decide +kernel)) <|
    zall_c (zs_aload_n X (pc := 68) (q := 0) rfl (by decide +kernel)) <|
    zall_c (zs_geti X (pc := 69) zc_X3 (by decide) (zin ui_X3) (.tail _ gw_2_38) (by decide +kernel) (by decide +kernel)) <|
    zall_c (zs_aload_n X (pc := 72) (q := 0) rfl (by decide +kernel)) <|
    zall_c (zs_geti X (pc := 73) zc_X3 (by decide) (zin ui_X3) (.tail _ gw_2_39) (by decide +kernel) (by decide +kernel)) <|
    zall_c (zs_callV X (pc := 76) zc_X1 (fun _ ht => ⟨(zCB ht gw_3_53 gw_1_3 gw_3_50 rfl rfl (by decide +kernel) ⟨Nat.le_of_ble_eq_true rfl, Nat.le_of_ble_eq_true rfl⟩), ht _ (.tail _ gw_3_51), ht _ (.tail _ gw_3_52)⟩) h4 hout (by decide +kernel)) <|
    zall_c (zs_astore_n X (pc := 79) (q := 1) rfl (by decide) (by decide +kernel)) <|
    zall_c (zs_aload_n X (pc := 80) (q := 0) rfl (by decide +kernel)) <|
    zall_c (zs_callV0 X (pc := 81) zc_X3 (fun _ ht => ⟨(zCB ht gw_2_170 gw_1_2 gw_2_167 rfl rfl (by decide +kernel) ⟨Nat.le_of_ble_eq_true rfl, Nat.le_of_ble_eq_true rfl⟩), ht _ (.tail _ gw_2_169), ht _ (.tail _ gp_0)⟩) h1 hout (by decide +kernel)) <|
    zall_c (zs_aload_n X (pc := 84) (q := 0) rfl (by decide +kernel)) <|
    zall_c (zs_gets X (pc := 85) (C := "ReviewTable$Keyword") (n1 := "TEAM") (d1 := "LReviewTable$Keyword;") (List.mem_of_getElem? (i := 5) rfl) (.tail _ gw_4_153) (by decide +kernel)) <|
    zall_c (zs_callV0 X (pc := 88) zc_X3 (fun _ ht => ⟨(zCB ht gw_2_191 gw_1_2 gw_2_188 rfl rfl (by decide +kernel) ⟨Nat.le_of_ble_eq_true rfl, Nat.le_of_ble_eq_true rfl⟩), ht _ (.tail _ gw_2_190), ht _ (.tail _ gp_4)⟩) h5 hout (by decide +kernel)) <|
    zall_c (zs_if_eq X (pc := 91) (off := 12) (by decide +kernel) (by decide)) <|
    zall_c (zs_aload_n X (pc := 94) (q := 0) rfl (by decide +kernel)) <|
    zall_c (zs_iconst X (pc := 95) (by decide) (by decide +kernel)) <|
    zall_c (zs_iconst X (pc := 96) (by decide) (by decide +kernel)) <|
    zall_c (zs_callV0 X (pc := 97) zc_X3 (fun _ ht => ⟨(zCB ht gw_3_16 gw_1_2 gw_3_13 rfl rfl (by decide +kernel) ⟨Nat.le_of_ble_eq_true rfl, Nat.le_of_ble_eq_true rfl⟩), ht _ (.tail _ gw_3_15), ht _ (.tail _ gp_7)⟩) h6 hout (by decide +kernel)) <|
    zall_c (zs_if_ne X (pc := 100) (off := 5) (by decide +kernel) (by decide)) <|
    zall_c (zs_iconst X (pc := 103) (by decide) (by decide +kernel)) <|
    zall_c (zs_zret X (pc := 104) rfl zR_bool (by decide +kernel)) <|
    zall_c (zs_aload_n X (pc := 105) (q := 0) rfl (by decide +kernel)) <|
    zall_c (zs_geti X (pc := 106) zc_X3 (by decide) (zin ui_X3) (.tail _ gw_2_41) (by decide +kernel) (by decide +kernel)) <|
    zall_c (zs_istore_n X (pc := 109) (q := 2) rfl (by decide) (by decide +kernel)) <|
    zall_c (zs_aload_n X (pc := 110) (q := 0) rfl (by decide +kernel)) <|
    zall_c (zs_gets X (pc := 111) (C := "ReviewTable$Keyword") (n1 := "QUOTA") (d1 := "LReviewTable$Keyword;") (List.mem_of_getElem? (i := 6) rfl) (.tail _ gw_4_155) (by decide +kernel)) <|
    zall_c (zs_callV0 X (pc := 114) zc_X3 (fun _ ht => ⟨(zCB ht gw_2_191 gw_1_2 gw_2_188 rfl rfl (by decide +kernel) ⟨Nat.le_of_ble_eq_true rfl, Nat.le_of_ble_eq_true rfl⟩), ht _ (.tail _ gw_2_190), ht _ (.tail _ gp_4)⟩) h5 hout (by decide +kernel)) <|
    zall_c (zs_if_eq X (pc := 117) (off := 12) (by decide +kernel) (by decide)) <|
    zall_c (zs_aload_n X (pc := 120) (q := 0) rfl (by decide +kernel)) <|
    zall_c (zs_iconst X (pc := 121) (by decide) (by decide +kernel)) <|
    zall_c (zs_iconst X (pc := 122) (by decide) (by decide +kernel)) <|
    zall_c (zs_callV0 X (pc := 123) zc_X3 (fun _ ht => ⟨(zCB ht gw_3_16 gw_1_2 gw_3_13 rfl rfl (by decide +kernel) ⟨Nat.le_of_ble_eq_true rfl, Nat.le_of_ble_eq_true rfl⟩), ht _ (.tail _ gw_3_15), ht _ (.tail _ gp_7)⟩) h6 hout (by decide +kernel)) <|
    zall_c (zs_if_ne X (pc := 126) (off := 5) (by decide +kernel) (by decide)) <|
    zall_c (zs_iconst X (pc := 129) (by decide) (by decide +kernel)) <|
    zall_c (zs_zret X (pc := 130) rfl zR_bool (by decide +kernel)) <|
    zall_c (zs_aload_n X (pc := 131) (q := 0) rfl (by decide +kernel)) <|
    zall_c (zs_geti X (pc := 132) zc_X3 (by decide) (zin ui_X3) (.tail _ gw_2_41) (by decide +kernel) (by decide +kernel)) <|
    zall_c (zs_istore_n X (pc := 135) (q := 3) rfl (by decide) (by decide +kernel)) <|
    zall_c (zs_bipush X (pc := 136) (by decide) (by decide +kernel) (by decide +kernel)) <|
    zall_c (zs_istore X (pc := 138) (by decide) (by decide +kernel)) <|
    zall_c (zs_aload_n X (pc := 140) (q := 0) rfl (by decide +kernel)) <|
    zall_c (zs_gets X (pc := 141) (C := "ReviewTable$Keyword") (n1 := "TRUST") (d1 := "LReviewTable$Keyword;") (List.mem_of_getElem? (i := 7) rfl) (.tail _ gw_4_157) (by decide +kernel)) <|
    zall_c (zs_callV0 X (pc := 144) zc_X3 (fun _ ht => ⟨(zCB ht gw_2_195 gw_1_2 gw_2_192 rfl rfl (by decide +kernel) ⟨Nat.le_of_ble_eq_true rfl, Nat.le_of_ble_eq_true rfl⟩), ht _ (.tail _ gw_2_194), ht _ (.tail _ gp_5)⟩) h7 hout (by decide +kernel)) <|
    zall_c (zs_if_eq X (pc := 147) (off := 25) (by decide +kernel) (by decide)) <|
    zall_c (zs_aload_n X (pc := 150) (q := 0) rfl (by decide +kernel)) <|
    zall_c (zs_callV0 X (pc := 151) zc_X3 (fun _ ht => ⟨(zCB ht gw_2_170 gw_1_2 gw_2_167 rfl rfl (by decide +kernel) ⟨Nat.le_of_ble_eq_true rfl, Nat.le_of_ble_eq_true rfl⟩), ht _ (.tail _ gw_2_169), ht _ (.tail _ gp_0)⟩) h1 hout (by decide +kernel)) <|
    zall_c (zs_aload_n X (pc := 154) (q := 0) rfl (by decide +kernel)) <|
    zall_c (zs_iconst X (pc := 155) (by decide) (by decide +kernel)) <|
    zall_c (zs_bipush X (pc := 156) (by decide) (by decide +kernel) (by decide +kernel)) <|
    zall_c (zs_callV0 X (pc := 158) zc_X3 (fun _ ht => ⟨(zCB ht gw_3_16 gw_1_2 gw_3_13 rfl rfl (by decide +kernel) ⟨Nat.le_of_ble_eq_true rfl, Nat.le_of_ble_eq_true rfl⟩), ht _ (.tail _ gw_3_15), ht _ (.tail _ gp_7)⟩) h6 hout (by decide +kernel)) <|
    zall_c (zs_if_ne X (pc := 161) (off := 5) (by decide +kernel) (by decide)) <|
    zall_c (zs_iconst X (pc := 164) (by decide) (by decide +kernel)) <|
    zall_c (zs_zret X (pc := 165) rfl zR_bool (by decide +kernel)) <|
    zall_c (zs_aload_n X (pc := 166) (q := 0) rfl (by decide +kernel)) <|
    zall_c (zs_geti X (pc := 167) zc_X3 (by decide) (zin ui_X3) (.tail _ gw_2_41) (by decide +kernel) (by decide +kernel)) <|
    zall_c (zs_istore X (pc := 170) (by decide) (by decide +kernel)) <|
    zall_c (zs_aload_n X (pc := 172) (q := 0) rfl (by decide +kernel)) <|
    zall_c (zs_getr X (pc := 173) zc_X3 (by decide) (zin ui_X3) (.tail _ gw_2_35) (by decide +kernel) (by decide +kernel)) <|
    zall_c (zs_aload_n X (pc := 176) (q := 1) rfl (by decide +kernel)) <|
    zall_c (zs_iload_n X (pc := 177) (q := 2) rfl (by decide +kernel)) <|
    zall_c (zs_iload_n X (pc := 178) (q := 3) rfl (by decide +kernel)) <|
    zall_c (zs_iload X (pc := 179) (by decide +kernel)) <|
    zall_c (zs_callV0 X (pc := 181) zc_X5 (fun _ ht => ⟨(zCB ht gw_4_162 gw_1_8 gw_4_159 rfl rfl (by decide +kernel) ⟨Nat.le_of_ble_eq_true rfl, Nat.le_of_ble_eq_true rfl⟩), ht _ (.tail _ gw_4_160), ht _ (.tail _ gw_4_161)⟩) h8 hout (by decide +kernel)) <|
    zall_c (zs_aload_n X (pc := 184) (q := 0) rfl (by decide +kernel)) <|
    zall_c (zs_callV0 X (pc := 185) zc_X3 (fun _ ht => ⟨(zCB ht gw_3_28 gw_1_2 gw_3_25 rfl rfl (by decide +kernel) ⟨Nat.le_of_ble_eq_true rfl, Nat.le_of_ble_eq_true rfl⟩), ht _ (.tail _ gw_3_27), ht _ (.tail _ gp_9)⟩) h9 hout (by decide +kernel)) <|
    zall_c (zs_zret X (pc := 188) rfl zR_bool (by decide +kernel)) <|
    zall_n
theorem met_X3_readWorkerStatement {l : Launch} (hl : l.stackTraces = false) {T0 : ZTf} {T1 : ZTf} {T2 : ZTf} {T3 : ZTf} {T4 : ZTf} {T5 : ZTf} {T6 : ZTf} {T7 : ZTf} {T8 : ZTf} {T9 : ZTf} (h0 : zMet l yX3_fail (Cond.code yX3_fail cX3_fail 2 (Option.some Jvm.ClassFile.FieldType.boolean) :: zG) rm_X3_fail 0 0 T0) (h1 : zMet l yX3_nextToken (Cond.code yX3_nextToken cX3_nextToken 1 (Option.none : Option Jvm.ClassFile.FieldType) :: zG) rm_X3_nextToken 0 0 T1) (h2 : zMet l yX3_isAtName (Cond.code yX3_isAtName cX3_isAtName 5 (Option.some Jvm.ClassFile.FieldType.boolean) :: zG) rm_X3_isAtName 0 0 T2) (h3 : zMet l yX5_workerNamed (Cond.code yX5_workerNamed cX5_workerNamed 5 (Option.some Jvm.ClassFile.FieldType.int) :: zG) rm_X5_workerNamed 0 0 T3) (h4 : zMet l yX1_textBetween (Cond.code yX1_textBetween cX1_textBetween 4 (Option.some (Jvm.ClassFile.FieldType.object "java/lang/String")) :: zG) rm_X1_textBetween 4 30 T4) (h5 : zMet l yX3_readKeyword (Cond.code yX3_readKeyword cX3_readKeyword 2 (Option.some Jvm.ClassFile.FieldType.boolean) :: zG) rm_X3_readKeyword 0 0 T5) (h6 : zMet l yX3_readNumber (Cond.code yX3_readNumber cX3_readNumber 3 (Option.some Jvm.ClassFile.FieldType.boolean) :: zG) rm_X3_readNumber 0 0 T6) (h7 : zMet l yX3_isAt (Cond.code yX3_isAt cX3_isAt 2 (Option.some Jvm.ClassFile.FieldType.boolean) :: zG) rm_X3_isAt 0 0 T7) (h8 : zMet l yX5_putWorker (Cond.code yX5_putWorker cX5_putWorker 5 (Option.none : Option Jvm.ClassFile.FieldType) :: zG) rm_X5_putWorker 0 0 T8) (h9 : zMet l yX3_readSemicolon (Cond.code yX3_readSemicolon cX3_readSemicolon 1 (Option.some Jvm.ClassFile.FieldType.boolean) :: zG) rm_X3_readSemicolon 0 0 T9) {T : ZTf} (bd : zBd (cd_X3_readWorkerStatement T0 T1 T2 T3 T4 T5 T6 T7 T8 T9) 5 4 30 T) : zMet l yX3_readWorkerStatement (Cond.code yX3_readWorkerStatement cX3_readWorkerStatement 5 (Option.some Jvm.ClassFile.FieldType.boolean) :: zG) rm_X3_readWorkerStatement 4 30 T := zMet_of hl (by decide +kernel) rfl rfl rfl rfl (hs_X3_readWorkerStatement hl h0 h1 h2 h3 h4 h5 h6 h7 h8 h9) bd

abbrev rm_X3_readRowsStatement : Room := { frames := 8, cells := 0, slots := 0, locals := 181 }
def cd_X3_readRowsStatement (T0 : ZTf) (T1 : ZTf) (T2 : ZTf) (T3 : ZTf) (T4 : ZTf) (T5 : ZTf) (T6 : ZTf) (T7 : ZTf) : List (Nat × ZTr) := [(0, tAld 0 1), (1, tCall0 1 T0 (zRcv 6) 4), (4, tAld 0 5), (5, tC (zi 1) 6), (6, tC (zi 24) 8), (8, tCall0 3 T1 (zRcv 6) 11), (11, tIf_ne 16 14), (14, tC (zi 0) 15), (15, tRi zPz), (16, tAld 0 17), (17, tGetR 6 3 20), (20, tAld 0 21), (21, tGetI 6 7 24), (24, tCall0 2 T2 (zRcv 8) 27), (27, tIf_ne 36 30), (30, tAld 0 31), (31, tC (zi 4) 32), (32, tCall0 2 T3 (zRcv 6) 35), (35, tRi zPz), (36, tAld 0 37), (37, tGetI 6 7 40), (40, tIst 1 41), (41, tAld 0 42), (42, tCall0 1 T0 (zRcv 6) 45), (45, tAld 0 46), (46, tC (zo 10) 49), (49, tCall0 2 T4 (zRcv 6) 52), (52, tIf_eq 65 55), (55, tAld 0 56), (56, tC (zi 1) 57), (57, tC (zi 9) 59), (59, tCall0 3 T5 (zRcv 6) 62), (62, tIf_ne 67 65), (65, tC (zi 0) 66), (66, tRi zPz), (67, tAld 0 68), (68, tGetR 6 3 71), (71, tIld 1 72), (72, tAld 0 73), (73, tGetI 6 8 76), (76, tCall0 3 T6 (zRcv 8) 79), (79, tAld 0 80), (80, tCall0 1 T7 (zRcv 6) 83), (83, tRi zPz)]
set_option maxRecDepth 100000 in
set_option maxHeartbeats 4000000 in
theorem hs_X3_readRowsStatement {l : Launch} (hl : l.stackTraces = false) {T0 : ZTf} {T1 : ZTf} {T2 : ZTf} {T3 : ZTf} {T4 : ZTf} {T5 : ZTf} {T6 : ZTf} {T7 : ZTf} (h0 : zMet l yX3_nextToken (Cond.code yX3_nextToken cX3_nextToken 1 (Option.none : Option Jvm.ClassFile.FieldType) :: zG) rm_X3_nextToken 0 0 T0) (h1 : zMet l yX3_isAtNumber (Cond.code yX3_isAtNumber cX3_isAtNumber 3 (Option.some Jvm.ClassFile.FieldType.boolean) :: zG) rm_X3_isAtNumber 0 0 T1) (h2 : zMet l yX5_hasRoomFor (Cond.code yX5_hasRoomFor cX5_hasRoomFor 2 (Option.some Jvm.ClassFile.FieldType.boolean) :: zG) rm_X5_hasRoomFor 0 0 T2) (h3 : zMet l yX3_fail (Cond.code yX3_fail cX3_fail 2 (Option.some Jvm.ClassFile.FieldType.boolean) :: zG) rm_X3_fail 0 0 T3) (h4 : zMet l yX3_readKeyword (Cond.code yX3_readKeyword cX3_readKeyword 2 (Option.some Jvm.ClassFile.FieldType.boolean) :: zG) rm_X3_readKeyword 0 0 T4) (h5 : zMet l yX3_readNumber (Cond.code yX3_readNumber cX3_readNumber 3 (Option.some Jvm.ClassFile.FieldType.boolean) :: zG) rm_X3_readNumber 0 0 T5) (h6 : zMet l yX5_putRows (Cond.code yX5_putRows cX5_putRows 4 (Option.none : Option Jvm.ClassFile.FieldType) :: zG) rm_X5_putRows 0 0 T6) (h7 : zMet l yX3_readSemicolon (Cond.code yX3_readSemicolon cX3_readSemicolon 1 (Option.some Jvm.ClassFile.FieldType.boolean) :: zG) rm_X3_readSemicolon 0 0 T7) (p : Program) (e : Env) (s : State) (m : MethodId) (args : Array Value) (below : List Frame) (meth : Method) (c : Code) (D : va_G) (A : Nat → Prop) (a0 : Nat → Nat) (M0 : ZM) (K : ZRet) (KX : ZEx) (X : zCtx p l rm_X3_readRowsStatement s m args meth c cX3_readRowsStatement RX3 (Cond.code yX3_readRowsStatement cX3_readRowsStatement 2 (Option.some Jvm.ClassFile.FieldType.boolean) :: zG) 2 (Option.some Jvm.ClassFile.FieldType.boolean) D A a0 M0 0 0) (hnm : meth.name = yX3_readRowsStatement.name) (hout : ∀ x ∈ c.exceptionTable.toList, False) : ∀ q ∈ cd_X3_readRowsStatement T0 T1 T2 T3 T4 T5 T6 T7, zSd p l e rm_X3_readRowsStatement s m args below meth c 2 D A a0 M0 K KX 0 0 q.1 q.2 :=
    zall_c (zs_aload_n X (pc := 0) (q := 0) rfl (by decide +kernel)) <|
    zall_c (zs_callV0 X (pc := 1) zc_X3 (fun _ ht => ⟨(zCB ht gw_2_170 gw_1_2 gw_2_167 rfl rfl (by decide +kernel) ⟨Nat.le_of_ble_eq_true rfl, Nat.le_of_ble_eq_true rfl⟩), ht _ (.tail _ gw_2_169), ht _ (.tail _ gp_0)⟩) h0 hout (by decide +kernel)) <|
    zall_c (zs_aload_n X (pc := 4) (q := 0) rfl (by decide +kernel)) <|
    zall_c (zs_iconst X (pc := 5) (by decide) (by decide +kernel)) <|
    zall_c (zs_bipush X (pc := 6) (by decide) (by decide +kernel) (by decide +kernel)) <|
    zall_c (zs_callV0 X (pc := 8) zc_X3 (fun _ ht => ⟨(zCB ht gw_3_20 gw_1_2 gw_3_17 rfl rfl (by decide +kernel) ⟨Nat.le_of_ble_eq_true rfl, Nat.le_of_ble_eq_true rfl⟩), ht _ (.tail _ gw_3_19), ht _ (.tail _ gp_8)⟩) h1 hout (by decide +kernel)) <|
    zall_c (zs_if_ne X (pc := 11) (off := 5) (by decide +kernel) (by decide)) <|
    zall_c (zs_iconst X (pc := 14) (by decide) (by decide +kernel)) <|
    zall_c (zs_zret X (pc := 15) rfl zR_bool (by decide +kernel)) <|
    zall_c (zs_aload_n X (pc := 16) (q := 0) rfl (by decide +kernel)) <|
    zall_c (zs_getr X (pc := 17) zc_X3 (by decide) (zin ui_X3) (.tail _ gw_2_35) (by decide +kernel) (by decide +kernel)) <|
    zall_c (zs_aload_n X (pc := 20) (q := 0) rfl (by decide +kernel)) <|
    zall_c (zs_geti X (pc := 21) zc_X3 (by decide) (zin ui_X3) (.tail _ gw_2_40) (by decide +kernel) (by decide +kernel)) <|
    zall_c (zs_callV0 X (pc := 24) zc_X5 (fun _ ht => ⟨(zCB ht gw_4_176 gw_1_8 gw_4_173 rfl rfl (by decide +kernel) ⟨Nat.le_of_ble_eq_true rfl, Nat.le_of_ble_eq_true rfl⟩), ht _ (.tail _ gw_4_174), ht _ (.tail _ gw_4_175)⟩) h2 hout (by decide +kernel)) <|
    zall_c (zs_if_ne X (pc := 27) (off := 9) (by decide +kernel) (by decide)) <|
    zall_c (zs_aload_n X (pc := 30) (q := 0) rfl (by decide +kernel)) <|
    zall_c (zs_iconst X (pc := 31) (by decide) (by decide +kernel)) <|
    zall_c (zs_callV0 X (pc := 32) zc_X3 (fun _ ht => ⟨(zCB ht gw_3_10 gw_1_2 gw_3_7 rfl rfl (by decide +kernel) ⟨Nat.le_of_ble_eq_true rfl, Nat.le_of_ble_eq_true rfl⟩), ht _ (.tail _ gw_3_9), ht _ (.tail _ gp_6)⟩) h3 hout (by decide +kernel)) <|
    zall_c (zs_zret X (pc := 35) rfl zR_bool (by decide +kernel)) <|
    zall_c (zs_aload_n X (pc := 36) (q := 0) rfl (by decide +kernel)) <|
    zall_c (zs_geti X (pc := 37) zc_X3 (by decide) (zin ui_X3) (.tail _ gw_2_40) (by decide +kernel) (by decide +kernel)) <|
    zall_c (zs_istore_n X (pc := 40) (q := 1) rfl (by decide) (by decide +kernel)) <|
    zall_c (zs_aload_n X (pc := 41) (q := 0) rfl (by decide +kernel)) <|
    zall_c (zs_callV0 X (pc := 42) zc_X3 (fun _ ht => ⟨(zCB ht gw_2_170 gw_1_2 gw_2_167 rfl rfl (by decide +kernel) ⟨Nat.le_of_ble_eq_true rfl, Nat.le_of_ble_eq_true rfl⟩), ht _ (.tail _ gw_2_169), ht _ (.tail _ gp_0)⟩) h0 hout (by decide +kernel)) <|
    zall_c (zs_aload_n X (pc := 45) (q := 0) rfl (by decide +kernel)) <|
    zall_c (zs_gets X (pc := 46) (C := "ReviewTable$Keyword") (n1 := "SIZE") (d1 := "LReviewTable$Keyword;") (List.mem_of_getElem? (i := 9) rfl) (.tail _ gw_4_177) (by decide +kernel)) <|
    zall_c (zs_callV0 X (pc := 49) zc_X3 (fun _ ht => ⟨(zCB ht gw_2_191 gw_1_2 gw_2_188 rfl rfl (by decide +kernel) ⟨Nat.le_of_ble_eq_true rfl, Nat.le_of_ble_eq_true rfl⟩), ht _ (.tail _ gw_2_190), ht _ (.tail _ gp_4)⟩) h4 hout (by decide +kernel)) <|
    zall_c (zs_if_eq X (pc := 52) (off := 13) (by decide +kernel) (by decide)) <|
    zall_c (zs_aload_n X (pc := 55) (q := 0) rfl (by decide +kernel)) <|
    zall_c (zs_iconst X (pc := 56) (by decide) (by decide +kernel)) <|
    zall_c (zs_bipush X (pc := 57) (by decide) (by decide +kernel) (by decide +kernel)) <|
    zall_c (zs_callV0 X (pc := 59) zc_X3 (fun _ ht => ⟨(zCB ht gw_3_16 gw_1_2 gw_3_13 rfl rfl (by decide +kernel) ⟨Nat.le_of_ble_eq_true rfl, Nat.le_of_ble_eq_true rfl⟩), ht _ (.tail _ gw_3_15), ht _ (.tail _ gp_7)⟩) h5 hout (by decide +kernel)) <|
    zall_c (zs_if_ne X (pc := 62) (off := 5) (by decide +kernel) (by decide)) <|
    zall_c (zs_iconst X (pc := 65) (by decide) (by decide +kernel)) <|
    zall_c (zs_zret X (pc := 66) rfl zR_bool (by decide +kernel)) <|
    zall_c (zs_aload_n X (pc := 67) (q := 0) rfl (by decide +kernel)) <|
    zall_c (zs_getr X (pc := 68) zc_X3 (by decide) (zin ui_X3) (.tail _ gw_2_35) (by decide +kernel) (by decide +kernel)) <|
    zall_c (zs_iload_n X (pc := 71) (q := 1) rfl (by decide +kernel)) <|
    zall_c (zs_aload_n X (pc := 72) (q := 0) rfl (by decide +kernel)) <|
    zall_c (zs_geti X (pc := 73) zc_X3 (by decide) (zin ui_X3) (.tail _ gw_2_41) (by decide +kernel) (by decide +kernel)) <|
    zall_c (zs_callV0 X (pc := 76) zc_X5 (fun _ ht => ⟨(zCB ht gw_4_182 gw_1_8 gw_4_179 rfl rfl (by decide +kernel) ⟨Nat.le_of_ble_eq_true rfl, Nat.le_of_ble_eq_true rfl⟩), ht _ (.tail _ gw_4_180), ht _ (.tail _ gw_4_181)⟩) h6 hout (by decide +kernel)) <|
    zall_c (zs_aload_n X (pc := 79) (q := 0) rfl (by decide +kernel)) <|
    zall_c (zs_callV0 X (pc := 80) zc_X3 (fun _ ht => ⟨(zCB ht gw_3_28 gw_1_2 gw_3_25 rfl rfl (by decide +kernel) ⟨Nat.le_of_ble_eq_true rfl, Nat.le_of_ble_eq_true rfl⟩), ht _ (.tail _ gw_3_27), ht _ (.tail _ gp_9)⟩) h7 hout (by decide +kernel)) <|
    zall_c (zs_zret X (pc := 83) rfl zR_bool (by decide +kernel)) <|
    zall_n
theorem met_X3_readRowsStatement {l : Launch} (hl : l.stackTraces = false) {T0 : ZTf} {T1 : ZTf} {T2 : ZTf} {T3 : ZTf} {T4 : ZTf} {T5 : ZTf} {T6 : ZTf} {T7 : ZTf} (h0 : zMet l yX3_nextToken (Cond.code yX3_nextToken cX3_nextToken 1 (Option.none : Option Jvm.ClassFile.FieldType) :: zG) rm_X3_nextToken 0 0 T0) (h1 : zMet l yX3_isAtNumber (Cond.code yX3_isAtNumber cX3_isAtNumber 3 (Option.some Jvm.ClassFile.FieldType.boolean) :: zG) rm_X3_isAtNumber 0 0 T1) (h2 : zMet l yX5_hasRoomFor (Cond.code yX5_hasRoomFor cX5_hasRoomFor 2 (Option.some Jvm.ClassFile.FieldType.boolean) :: zG) rm_X5_hasRoomFor 0 0 T2) (h3 : zMet l yX3_fail (Cond.code yX3_fail cX3_fail 2 (Option.some Jvm.ClassFile.FieldType.boolean) :: zG) rm_X3_fail 0 0 T3) (h4 : zMet l yX3_readKeyword (Cond.code yX3_readKeyword cX3_readKeyword 2 (Option.some Jvm.ClassFile.FieldType.boolean) :: zG) rm_X3_readKeyword 0 0 T4) (h5 : zMet l yX3_readNumber (Cond.code yX3_readNumber cX3_readNumber 3 (Option.some Jvm.ClassFile.FieldType.boolean) :: zG) rm_X3_readNumber 0 0 T5) (h6 : zMet l yX5_putRows (Cond.code yX5_putRows cX5_putRows 4 (Option.none : Option Jvm.ClassFile.FieldType) :: zG) rm_X5_putRows 0 0 T6) (h7 : zMet l yX3_readSemicolon (Cond.code yX3_readSemicolon cX3_readSemicolon 1 (Option.some Jvm.ClassFile.FieldType.boolean) :: zG) rm_X3_readSemicolon 0 0 T7) {T : ZTf} (bd : zBd (cd_X3_readRowsStatement T0 T1 T2 T3 T4 T5 T6 T7) 2 0 0 T) : zMet l yX3_readRowsStatement (Cond.code yX3_readRowsStatement cX3_readRowsStatement 2 (Option.some Jvm.ClassFile.FieldType.boolean) :: zG) rm_X3_readRowsStatement 0 0 T := zMet_of hl (by decide +kernel) rfl rfl rfl rfl (hs_X3_readRowsStatement hl h0 h1 h2 h3 h4 h5 h6 h7) bd

abbrev rm_X3_readBarStatement : Room := { frames := 9, cells := 0, slots := 0, locals := 204 }
def cd_X3_readBarStatement (T0 : ZTf) (T1 : ZTf) (T2 : ZTf) (T3 : ZTf) (T4 : ZTf) (T5 : ZTf) (T6 : ZTf) (T7 : ZTf) : List (Nat × ZTr) := [(0, tAld 0 1), (1, tCall0 1 T0 (zRcv 6) 4), (4, tAld 0 5), (5, tCall0 1 T1 (zRcv 6) 8), (8, tIf_ne 13 11), (11, tC (zi 0) 12), (12, tRi zPz), (13, tAld 0 14), (14, tGetI 6 8 17), (17, tIst 1 18), (18, tAld 0 19), (19, tCall0 1 T2 (zRcv 6) 22), (22, tIf_ne 31 25), (25, tAld 0 26), (26, tC (zi 1) 27), (27, tCall0 2 T3 (zRcv 6) 30), (30, tRi zPz), (31, tAld 0 32), (32, tGetR 6 3 35), (35, tAld 0 36), (36, tGetR 6 2 39), (39, tAld 0 40), (40, tGetI 6 5 43), (43, tAld 0 44), (44, tGetI 6 6 47), (47, tCall0 4 T4 (zRcv 8) 50), (50, tIst 2 51), (51, tIld 2 52), (52, tC (zi (-1)) 53), (53, tIc_eq 73 56), (56, tIld 2 57), (57, tIld 1 58), (58, tIc_eq 73 61), (61, tAld 0 62), (62, tGetR 6 3 65), (65, tIld 1 66), (66, tIld 2 67), (67, tCall0 3 T5 (zRcv 8) 70), (70, tIf_eq 79 73), (73, tAld 0 74), (74, tC (zi 3) 75), (75, tCall0 2 T3 (zRcv 6) 78), (78, tRi zPz), (79, tAld 0 80), (80, tCall0 1 T0 (zRcv 6) 83), (83, tAld 0 84), (84, tGetR 6 3 87), (87, tIld 1 88), (88, tIld 2 89), (89, tC (zi 1) 90), (90, tCall0 4 T6 (zRcv 8) 93), (93, tAld 0 94), (94, tCall0 1 T7 (zRcv 6) 97), (97, tRi zPz)]
set_option maxRecDepth 100000 in
set_option maxHeartbeats 4000000 in
theorem hs_X3_readBarStatement {l : Launch} (hl : l.stackTraces = false) {T0 : ZTf} {T1 : ZTf} {T2 : ZTf} {T3 : ZTf} {T4 : ZTf} {T5 : ZTf} {T6 : ZTf} {T7 : ZTf} (h0 : zMet l yX3_nextToken (Cond.code yX3_nextToken cX3_nextToken 1 (Option.none : Option Jvm.ClassFile.FieldType) :: zG) rm_X3_nextToken 0 0 T0) (h1 : zMet l yX3_readKnownName (Cond.code yX3_readKnownName cX3_readKnownName 1 (Option.some Jvm.ClassFile.FieldType.boolean) :: zG) rm_X3_readKnownName 0 0 T1) (h2 : zMet l yX3_isAtName (Cond.code yX3_isAtName cX3_isAtName 5 (Option.some Jvm.ClassFile.FieldType.boolean) :: zG) rm_X3_isAtName 0 0 T2) (h3 : zMet l yX3_fail (Cond.code yX3_fail cX3_fail 2 (Option.some Jvm.ClassFile.FieldType.boolean) :: zG) rm_X3_fail 0 0 T3) (h4 : zMet l yX5_workerNamed (Cond.code yX5_workerNamed cX5_workerNamed 5 (Option.some Jvm.ClassFile.FieldType.int) :: zG) rm_X5_workerNamed 0 0 T4) (h5 : zMet l yX5_areKeptApart (Cond.code yX5_areKeptApart cX5_areKeptApart 4 (Option.some Jvm.ClassFile.FieldType.boolean) :: zG) rm_X5_areKeptApart 0 0 T5) (h6 : zMet l yX5_tellApart (Cond.code yX5_tellApart cX5_tellApart 5 (Option.none : Option Jvm.ClassFile.FieldType) :: zG) rm_X5_tellApart 0 0 T6) (h7 : zMet l yX3_readSemicolon (Cond.code yX3_readSemicolon cX3_readSemicolon 1 (Option.some Jvm.ClassFile.FieldType.boolean) :: zG) rm_X3_readSemicolon 0 0 T7) (p : Program) (e : Env) (s : State) (m : MethodId) (args : Array Value) (below : List Frame) (meth : Method) (c : Code) (D : va_G) (A : Nat → Prop) (a0 : Nat → Nat) (M0 : ZM) (K : ZRet) (KX : ZEx) (X : zCtx p l rm_X3_readBarStatement s m args meth c cX3_readBarStatement RX3 (Cond.code yX3_readBarStatement cX3_readBarStatement 3 (Option.some Jvm.ClassFile.FieldType.boolean) :: zG) 3 (Option.some Jvm.ClassFile.FieldType.boolean) D A a0 M0 0 0) (hnm : meth.name = yX3_readBarStatement.name) (hout : ∀ x ∈ c.exceptionTable.toList, False) : ∀ q ∈ cd_X3_readBarStatement T0 T1 T2 T3 T4 T5 T6 T7, zSd p l e rm_X3_readBarStatement s m args below meth c 3 D A a0 M0 K KX 0 0 q.1 q.2 :=
    zall_c (zs_aload_n X (pc := 0) (q := 0) rfl (by decide +kernel)) <|
    zall_c (zs_callV0 X (pc := 1) zc_X3 (fun _ ht => ⟨(zCB ht gw_2_170 gw_1_2 gw_2_167 rfl rfl (by decide +kernel) ⟨Nat.le_of_ble_eq_true rfl, Nat.le_of_ble_eq_true rfl⟩), ht _ (.tail _ gw_2_169), ht _ (.tail _ gp_0)⟩) h0 hout (by decide +kernel)) <|
    zall_c (zs_aload_n X (pc := 4) (q := 0) rfl (by decide +kernel)) <|
    zall_c (zs_callV0 X (pc := 5) zc_X3 (fun _ ht => ⟨(zCB ht gw_4_196 gw_1_2 gw_4_193 rfl rfl (by decide +kernel) ⟨Nat.le_of_ble_eq_true rfl, Nat.le_of_ble_eq_true rfl⟩), ht _ (.tail _ gw_4_195), ht _ (.tail _ gp_16)⟩) h1 hout (by decide +kernel)) <|
    zall_c (zs_if_ne X (pc := 8) (off := 5) (by decide +kernel) (by decide)) <|
    zall_c (zs_iconst X (pc := 11) (by decide) (by decide +kernel)) <|
    zall_c (zs_zret X (pc := 12) rfl zR_bool (by decide +kernel)) <|
    zall_c (zs_aload_n X (pc := 13) (q := 0) rfl (by decide +kernel)) <|
    zall_c (zs_geti X (pc := 14) zc_X3 (by decide) (zin ui_X3) (.tail _ gw_2_41) (by decide +kernel) (by decide +kernel)) <|
    zall_c (zs_istore_n X (pc := 17) (q := 1) rfl (by decide) (by decide +kernel)) <|
    zall_c (zs_aload_n X (pc := 18) (q := 0) rfl (by decide +kernel)) <|
    zall_c (zs_callV0 X (pc := 19) zc_X3 (fun _ ht => ⟨(zCB ht gw_3_42 gw_1_2 gw_3_39 rfl rfl (by decide +kernel) ⟨Nat.le_of_ble_eq_true rfl, Nat.le_of_ble_eq_true rfl⟩), ht _ (.tail _ gw_3_41), ht _ (.tail _ gp_12)⟩) h2 hout (by decide +kernel)) <|
    zall_c (zs_if_ne X (pc := 22) (off := 9) (by decide +kernel) (by decide)) <|
    zall_c (zs_aload_n X (pc := 25) (q := 0) rfl (by decide +kernel)) <|
    zall_c (zs_iconst X (pc := 26) (by decide) (by decide +kernel)) <|
    zall_c (zs_callV0 X (pc := 27) zc_X3 (fun _ ht => ⟨(zCB ht gw_3_10 gw_1_2 gw_3_7 rfl rfl (by decide +kernel) ⟨Nat.le_of_ble_eq_true rfl, Nat.le_of_ble_eq_true rfl⟩), ht _ (.tail _ gw_3_9), ht _ (.tail _ gp_6)⟩) h3 hout (by decide +kernel)) <|
    zall_c (zs_zret X (pc := 30) rfl zR_bool (by decide +kernel)) <|
    zall_c (zs_aload_n X (pc := 31) (q := 0) rfl (by decide +kernel)) <|
    zall_c (zs_getr X (pc := 32) zc_X3 (by decide) (zin ui_X3) (.tail _ gw_2_35) (by decide +kernel) (by decide +kernel)) <|
    zall_c (zs_aload_n X (pc := 35) (q := 0) rfl (by decide +kernel)) <|
    zall_c (zs_getr X (pc := 36) zc_X3 (by decide) (zin ui_X3) (.tail _ gw_2_33) (by decide +kernel) (by decide +kernel)) <|
    zall_c (zs_aload_n X (pc := 39) (q := 0) rfl (by decide +kernel)) <|
    zall_c (zs_geti X (pc := 40) zc_X3 (by decide) (zin ui_X3) (.tail _ gw_2_38) (by decide +kernel) (by decide +kernel)) <|
    zall_c (zs_aload_n X (pc := 43) (q := 0) rfl (by decide +kernel)) <|
    zall_c (zs_geti X (pc := 44) zc_X3 (by decide) (zin ui_X3) (.tail _ gw_2_39) (by decide +kernel) (by decide +kernel)) <|
    zall_c (zs_callV0 X (pc := 47) zc_X5 (fun _ ht => ⟨(zCB ht gw_3_48 gw_1_8 gw_3_45 rfl rfl (by decide +kernel) ⟨Nat.le_of_ble_eq_true rfl, Nat.le_of_ble_eq_true rfl⟩), ht _ (.tail _ gw_3_46), ht _ (.tail _ gw_3_47)⟩) h4 hout (by decide +kernel)) <|
    zall_c (zs_istore_n X (pc := 50) (q := 2) rfl (by decide) (by decide +kernel)) <|
    zall_c (zs_iload_n X (pc := 51) (q := 2) rfl (by decide +kernel)) <|
    zall_c (zs_iconst X (pc := 52) (by decide) (by decide +kernel)) <|
    zall_c (zs_icmp_eq X (pc := 53) (off := 20) (by decide +kernel) (by decide)) <|
    zall_c (zs_iload_n X (pc := 56) (q := 2) rfl (by decide +kernel)) <|
    zall_c (zs_iload_n X (pc := 57) (q := 1) rfl (by decide +kernel)) <|
    zall_c (zs_icmp_eq X (pc := 58) (off := 15) (by decide +kernel) (by decide)) <|
    zall_c (zs_aload_n X (pc := 61) (q := 0) rfl (by decide +kernel)) <|
    zall_c (zs_getr X (pc := 62) zc_X3 (by decide) (zin ui_X3) (.tail _ gw_2_35) (by decide +kernel) (by decide +kernel)) <|
    zall_c (zs_iload_n X (pc := 65) (q := 1) rfl (by decide +kernel)) <|
    zall_c (zs_iload_n X (pc := 66) (q := 2) rfl (by decide +kernel)) <|
    zall_c (zs_callV0 X (pc := 67) zc_X5 (fun _ ht => ⟨(zCB ht gw_4_200 gw_1_8 gw_4_197 rfl rfl (by decide +kernel) ⟨Nat.le_of_ble_eq_true rfl, Nat.le_of_ble_eq_true rfl⟩), ht _ (.tail _ gw_4_198), ht _ (.tail _ gw_4_199)⟩) h5 hout (by decide +kernel)) <|
    zall_c (zs_if_eq X (pc := 70) (off := 9) (by decide +kernel) (by decide)) <|
    zall_c (zs_aload_n X (pc := 73) (q := 0) rfl (by decide +kernel)) <|
    zall_c (zs_iconst X (pc := 74) (by decide) (by decide +kernel)) <|
    zall_c (zs_callV0 X (pc := 75) zc_X3 (fun _ ht => ⟨(zCB ht gw_3_10 gw_1_2 gw_3_7 rfl rfl (by decide +kernel) ⟨Nat.le_of_ble_eq_true rfl, Nat.le_of_ble_eq_true rfl⟩), ht _ (.tail _ gw_3_9), ht _ (.tail _ gp_6)⟩) h3 hout (by decide +kernel)) <|
    zall_c (zs_zret X (pc := 78) rfl zR_bool (by decide +kernel)) <|
    zall_c (zs_aload_n X (pc := 79) (q := 0) rfl (by decide +kernel)) <|
    zall_c (zs_callV0 X (pc := 80) zc_X3 (fun _ ht => ⟨(zCB ht gw_2_170 gw_1_2 gw_2_167 rfl rfl (by decide +kernel) ⟨Nat.le_of_ble_eq_true rfl, Nat.le_of_ble_eq_true rfl⟩), ht _ (.tail _ gw_2_169), ht _ (.tail _ gp_0)⟩) h0 hout (by decide +kernel)) <|
    zall_c (zs_aload_n X (pc := 83) (q := 0) rfl (by decide +kernel)) <|
    zall_c (zs_getr X (pc := 84) zc_X3 (by decide) (zin ui_X3) (.tail _ gw_2_35) (by decide +kernel) (by decide +kernel)) <|
    zall_c (zs_iload_n X (pc := 87) (q := 1) rfl (by decide +kernel)) <|
    zall_c (zs_iload_n X (pc := 88) (q := 2) rfl (by decide +kernel)) <|
    zall_c (zs_iconst X (pc := 89) (by decide) (by decide +kernel)) <|
    zall_c (zs_callV0 X (pc := 90) zc_X5 (fun _ ht => ⟨(zCB ht gw_4_207 gw_1_8 gw_4_204 rfl rfl (by decide +kernel) ⟨Nat.le_of_ble_eq_true rfl, Nat.le_of_ble_eq_true rfl⟩), ht _ (.tail _ gw_4_205), ht _ (.tail _ gw_4_206)⟩) h6 hout (by decide +kernel)) <|
    zall_c (zs_aload_n X (pc := 93) (q := 0) rfl (by decide +kernel)) <|
    zall_c (zs_callV0 X (pc := 94) zc_X3 (fun _ ht => ⟨(zCB ht gw_3_28 gw_1_2 gw_3_25 rfl rfl (by decide +kernel) ⟨Nat.le_of_ble_eq_true rfl, Nat.le_of_ble_eq_true rfl⟩), ht _ (.tail _ gw_3_27), ht _ (.tail _ gp_9)⟩) h7 hout (by decide +kernel)) <|
    zall_c (zs_zret X (pc := 97) rfl zR_bool (by decide +kernel)) <|
    zall_n
theorem met_X3_readBarStatement {l : Launch} (hl : l.stackTraces = false) {T0 : ZTf} {T1 : ZTf} {T2 : ZTf} {T3 : ZTf} {T4 : ZTf} {T5 : ZTf} {T6 : ZTf} {T7 : ZTf} (h0 : zMet l yX3_nextToken (Cond.code yX3_nextToken cX3_nextToken 1 (Option.none : Option Jvm.ClassFile.FieldType) :: zG) rm_X3_nextToken 0 0 T0) (h1 : zMet l yX3_readKnownName (Cond.code yX3_readKnownName cX3_readKnownName 1 (Option.some Jvm.ClassFile.FieldType.boolean) :: zG) rm_X3_readKnownName 0 0 T1) (h2 : zMet l yX3_isAtName (Cond.code yX3_isAtName cX3_isAtName 5 (Option.some Jvm.ClassFile.FieldType.boolean) :: zG) rm_X3_isAtName 0 0 T2) (h3 : zMet l yX3_fail (Cond.code yX3_fail cX3_fail 2 (Option.some Jvm.ClassFile.FieldType.boolean) :: zG) rm_X3_fail 0 0 T3) (h4 : zMet l yX5_workerNamed (Cond.code yX5_workerNamed cX5_workerNamed 5 (Option.some Jvm.ClassFile.FieldType.int) :: zG) rm_X5_workerNamed 0 0 T4) (h5 : zMet l yX5_areKeptApart (Cond.code yX5_areKeptApart cX5_areKeptApart 4 (Option.some Jvm.ClassFile.FieldType.boolean) :: zG) rm_X5_areKeptApart 0 0 T5) (h6 : zMet l yX5_tellApart (Cond.code yX5_tellApart cX5_tellApart 5 (Option.none : Option Jvm.ClassFile.FieldType) :: zG) rm_X5_tellApart 0 0 T6) (h7 : zMet l yX3_readSemicolon (Cond.code yX3_readSemicolon cX3_readSemicolon 1 (Option.some Jvm.ClassFile.FieldType.boolean) :: zG) rm_X3_readSemicolon 0 0 T7) {T : ZTf} (bd : zBd (cd_X3_readBarStatement T0 T1 T2 T3 T4 T5 T6 T7) 3 0 0 T) : zMet l yX3_readBarStatement (Cond.code yX3_readBarStatement cX3_readBarStatement 3 (Option.some Jvm.ClassFile.FieldType.boolean) :: zG) rm_X3_readBarStatement 0 0 T := zMet_of hl (by decide +kernel) rfl rfl rfl rfl (hs_X3_readBarStatement hl h0 h1 h2 h3 h4 h5 h6 h7) bd

abbrev rm_X8_writeRow : Room := { frames := 7, cells := 300, slots := 600, locals := 170 }
def cd_X8_writeRow (T0 : ZTf) (T1 : Nat → Nat → ZTf) (T2 : Nat → Nat → ZTf) (T3 : Nat → Nat → ZTf) (T4 : ZTf) : List (Nat × ZTr) := [(0, tAld 0 1), (1, tIld 1 2), (2, tCall 2 1 6 T0 (zRcv 11) 5), (5, tAld 0 6), (6, tGetR 11 7 9), (9, tC (zi 0) 10), (10, tEx (fun a b => tCall 2 a b (T1 a b) (zRcv 1) 13)), (13, tC (zi 0) 14), (14, tIst 2 15), (15, tIld 2 16), (16, tAld 0 17), (17, tGetR 11 2 20), (20, tGetR 8 7 23), (23, tIld 1 24), (24, tAal 31 25), (25, tGetI 7 8 28), (28, tIc_ge 56 31), (31, tAld 0 32), (32, tIld 2 33), (33, tEx (fun a b => tCall 2 a b (T2 a b) (zRcv 11) 36)), (36, tAld 0 37), (37, tAld 0 38), (38, tGetR 11 2 41), (41, tGetR 8 7 44), (44, tIld 1 45), (45, tAal 31 46), (46, tIld 2 47), (47, tEx (fun a b => tCall 3 a b (T3 a b) (zRcv 11) 50)), (50, tInc 2 1 53), (53, tGo 15), (56, tAld 0 57), (57, tGetR 11 7 60), (60, tCall0 1 T4 (zRcv 1) 63), (63, tRi (fun _ => True))]
set_option maxRecDepth 100000 in
set_option maxHeartbeats 4000000 in
theorem hs_X8_writeRow {l : Launch} (hl : l.stackTraces = false) {T0 : ZTf} {T1 : Nat → Nat → ZTf} {T2 : Nat → Nat → ZTf} {T3 : Nat → Nat → ZTf} {T4 : ZTf} (h0 : zMet l yX8_requireRow (Cond.code yX8_requireRow cX8_requireRow 2 (Option.none : Option Jvm.ClassFile.FieldType) :: zG) rm_X8_requireRow 1 6 T0) (h1 : ∀ a b, zMet l yJ4_setLength_d00df (Cond.code yJ4_setLength_d00df cJ4_setLength_d00df 2 (Option.none : Option Jvm.ClassFile.FieldType) :: zG) (rm_J4_setLength_d00df a b) a b (T1 a b)) (h2 : ∀ a b, zMet l yX8_separate (Cond.code yX8_separate cX8_separate 2 (Option.none : Option Jvm.ClassFile.FieldType) :: zG) (rm_X8_separate a b) a b (T2 a b)) (h3 : ∀ a b, zMet l yX8_putTaking (Cond.code yX8_putTaking cX8_putTaking 3 (Option.none : Option Jvm.ClassFile.FieldType) :: zG) (rm_X8_putTaking a b) a b (T3 a b)) (h4 : zMet l yJ4_length_8abf5 (Cond.code yJ4_length_8abf5 cJ4_length_8abf5 1 (Option.some Jvm.ClassFile.FieldType.int) :: zG) rm_J4_length_8abf5 0 0 T4) (p : Program) (e : Env) (s : State) (m : MethodId) (args : Array Value) (below : List Frame) (meth : Method) (c : Code) (D : va_G) (A : Nat → Prop) (a0 : Nat → Nat) (M0 : ZM) (K : ZRet) (KX : ZEx) (X : zCtx p l rm_X8_writeRow s m args meth c cX8_writeRow RX8 (Cond.code yX8_writeRow cX8_writeRow 3 (Option.some Jvm.ClassFile.FieldType.int) :: zG) 3 (Option.some Jvm.ClassFile.FieldType.int) D A a0 M0 300 600) (hnm : meth.name = yX8_writeRow.name) (hout : ∀ x ∈ c.exceptionTable.toList, False) : ∀ q ∈ cd_X8_writeRow T0 T1 T2 T3 T4, zSd p l e rm_X8_writeRow s m args below meth c 3 D A a0 M0 K KX 300 600 q.1 q.2 :=
    zall_c (zs_aload_n X (pc := 0) (q := 0) rfl (by decide +kernel)) <|
    zall_c (zs_iload_n X (pc := 1) (q := 1) rfl (by decide +kernel)) <|
    zall_c (zs_callV X (pc := 2) zc_X8 (fun _ ht => ⟨(zCB ht gw_5_225 gw_1_1 gw_5_222 rfl rfl (by decide +kernel) ⟨Nat.le_of_ble_eq_true rfl, Nat.le_of_ble_eq_true rfl⟩), ht _ (.tail _ gw_5_224), ht _ (.tail _ gp_21)⟩) h0 hout (by decide +kernel)) <|
    zall_c (zs_aload_n X (pc := 5) (q := 0) rfl (by decide +kernel)) <|
    zall_c (zs_getr X (pc := 6) zc_X8 (by decide) (zin ui_X8) (.tail _ gw_2_128) (by decide +kernel) (by decide +kernel)) <|
    zall_c (zs_iconst X (pc := 9) (by decide) (by decide +kernel)) <|
    zall_c (zs_ex (fun a b => zs_callV X (pc := 10) zc_J4 (fun _ ht => ⟨(zCB ht gw_3_57 gw_1_5 gw_5_112 rfl rfl (by decide +kernel) ⟨Nat.le_of_ble_eq_true rfl, Nat.le_of_ble_eq_true rfl⟩), ht _ (.tail _ gw_3_55), ht _ (.tail _ gw_3_56)⟩) (h1 a b) hout (by decide +kernel))) <|
    zall_c (zs_iconst X (pc := 13) (by decide) (by decide +kernel)) <|
    zall_c (zs_istore_n X (pc := 14) (q := 2) rfl (by decide) (by decide +kernel)) <|
    zall_c (zs_iload_n X (pc := 15) (q := 2) rfl (by decide +kernel)) <|
    zall_c (zs_aload_n X (pc := 16) (q := 0) rfl (by decide +kernel)) <|
    zall_c (zs_getr X (pc := 17) zc_X8 (by decide) (zin ui_X8) (.tail _ gw_2_123) (by decide +kernel) (by decide +kernel)) <|
    zall_c (zs_getr X (pc := 20) zc_X5 (by decide) (zin ui_X5) (.tail _ gw_2_4) (by decide +kernel) (by decide +kernel)) <|
    zall_c (zs_iload_n X (pc := 23) (q := 1) rfl (by decide +kernel)) <|
    zall_c (zs_aaload X (pc := 24) (by decide) rfl (by decide +kernel)) <|
    zall_c (zs_geti X (pc := 25) zc_X4 (by decide) (zin ui_X4) (.tail _ gw_1_200) (by decide +kernel) (by decide +kernel)) <|
    zall_c (zs_icmp_ge X (pc := 28) (off := 28) (by decide +kernel) (by decide)) <|
    zall_c (zs_aload_n X (pc := 31) (q := 0) rfl (by decide +kernel)) <|
    zall_c (zs_iload_n X (pc := 32) (q := 2) rfl (by decide +kernel)) <|
    zall_c (zs_ex (fun a b => zs_callV X (pc := 33) zc_X8 (fun _ ht => ⟨(zCB ht gw_5_116 gw_1_1 gw_5_113 rfl rfl (by decide +kernel) ⟨Nat.le_of_ble_eq_true rfl, Nat.le_of_ble_eq_true rfl⟩), ht _ (.tail _ gw_5_115), ht _ (.tail _ gp_17)⟩) (h2 a b) hout (by decide +kernel))) <|
    zall_c (zs_aload_n X (pc := 36) (q := 0) rfl (by decide +kernel)) <|
    zall_c (zs_aload_n X (pc := 37) (q := 0) rfl (by decide +kernel)) <|
    zall_c (zs_getr X (pc := 38) zc_X8 (by decide) (zin ui_X8) (.tail _ gw_2_123) (by decide +kernel) (by decide +kernel)) <|
    zall_c (zs_getr X (pc := 41) zc_X5 (by decide) (zin ui_X5) (.tail _ gw_2_4) (by decide +kernel) (by decide +kernel)) <|
    zall_c (zs_iload_n X (pc := 44) (q := 1) rfl (by decide +kernel)) <|
    zall_c (zs_aaload X (pc := 45) (by decide) rfl (by decide +kernel)) <|
    zall_c (zs_iload_n X (pc := 46) (q := 2) rfl (by decide +kernel)) <|
    zall_c (zs_ex (fun a b => zs_callV X (pc := 47) zc_X8 (fun _ ht => ⟨(zCB ht gw_7_170 gw_1_1 gw_7_167 rfl rfl (by decide +kernel) ⟨Nat.le_of_ble_eq_true rfl, Nat.le_of_ble_eq_true rfl⟩), ht _ (.tail _ gw_7_169), ht _ (.tail _ gp_27)⟩) (h3 a b) hout (by decide +kernel))) <|
    zall_c (zs_iinc X (pc := 50) (by decide) (by decide +kernel)) <|
    zall_c (zs_goto X (pc := 53) (off := (-38)) (by decide +kernel) (by decide)) <|
    zall_c (zs_aload_n X (pc := 56) (q := 0) rfl (by decide +kernel)) <|
    zall_c (zs_getr X (pc := 57) zc_X8 (by decide) (zin ui_X8) (.tail _ gw_2_128) (by decide +kernel) (by decide +kernel)) <|
    zall_c (zs_callV0 X (pc := 60) zc_J4 (fun _ ht => ⟨(zCB ht gw_3_218 gw_1_5 gw_5_123 rfl rfl (by decide +kernel) ⟨Nat.le_of_ble_eq_true rfl, Nat.le_of_ble_eq_true rfl⟩), ht _ (.tail _ gw_3_217), ht _ (.tail _ gw_10_183)⟩) h4 hout (by decide +kernel)) <|
    zall_c (zs_iret X (pc := 63) rfl (by decide +kernel)) <|
    zall_n
theorem met_X8_writeRow {l : Launch} (hl : l.stackTraces = false) {T0 : ZTf} {T1 : Nat → Nat → ZTf} {T2 : Nat → Nat → ZTf} {T3 : Nat → Nat → ZTf} {T4 : ZTf} (h0 : zMet l yX8_requireRow (Cond.code yX8_requireRow cX8_requireRow 2 (Option.none : Option Jvm.ClassFile.FieldType) :: zG) rm_X8_requireRow 1 6 T0) (h1 : ∀ a b, zMet l yJ4_setLength_d00df (Cond.code yJ4_setLength_d00df cJ4_setLength_d00df 2 (Option.none : Option Jvm.ClassFile.FieldType) :: zG) (rm_J4_setLength_d00df a b) a b (T1 a b)) (h2 : ∀ a b, zMet l yX8_separate (Cond.code yX8_separate cX8_separate 2 (Option.none : Option Jvm.ClassFile.FieldType) :: zG) (rm_X8_separate a b) a b (T2 a b)) (h3 : ∀ a b, zMet l yX8_putTaking (Cond.code yX8_putTaking cX8_putTaking 3 (Option.none : Option Jvm.ClassFile.FieldType) :: zG) (rm_X8_putTaking a b) a b (T3 a b)) (h4 : zMet l yJ4_length_8abf5 (Cond.code yJ4_length_8abf5 cJ4_length_8abf5 1 (Option.some Jvm.ClassFile.FieldType.int) :: zG) rm_J4_length_8abf5 0 0 T4) {T : ZTf} (bd : zBd (cd_X8_writeRow T0 T1 T2 T3 T4) 3 300 600 T) : zMet l yX8_writeRow (Cond.code yX8_writeRow cX8_writeRow 3 (Option.some Jvm.ClassFile.FieldType.int) :: zG) rm_X8_writeRow 300 600 T := zMet_of hl (by decide +kernel) rfl rfl rfl rfl (hs_X8_writeRow hl h0 h1 h2 h3 h4) bd

abbrev rm_X8_writeWorkers : Room := { frames := 7, cells := 300, slots := 600, locals := 170 }
def cd_X8_writeWorkers (T0 : Nat → Nat → ZTf) (T1 : Nat → Nat → ZTf) (T2 : Nat → Nat → ZTf) (T3 : ZTf) : List (Nat × ZTr) := [(0, tAld 0 1), (1, tGetR 11 7 4), (4, tC (zi 0) 5), (5, tEx (fun a b => tCall 2 a b (T0 a b) (zRcv 1) 8)), (8, tC (zi 0) 9), (9, tIst 1 10), (10, tIld 1 11), (11, tAld 0 12), (12, tGetR 11 2 15), (15, tGetI 8 4 18), (18, tIc_ge 37 21), (21, tAld 0 22), (22, tIld 1 23), (23, tEx (fun a b => tCall 2 a b (T1 a b) (zRcv 11) 26)), (26, tAld 0 27), (27, tIld 1 28), (28, tEx (fun a b => tCall 2 a b (T2 a b) (zRcv 11) 31)), (31, tInc 1 1 34), (34, tGo 10), (37, tAld 0 38), (38, tGetR 11 7 41), (41, tCall0 1 T3 (zRcv 1) 44), (44, tRi (fun _ => True))]
set_option maxRecDepth 100000 in
set_option maxHeartbeats 4000000 in
theorem hs_X8_writeWorkers {l : Launch} (hl : l.stackTraces = false) {T0 : Nat → Nat → ZTf} {T1 : Nat → Nat → ZTf} {T2 : Nat → Nat → ZTf} {T3 : ZTf} (h0 : ∀ a b, zMet l yJ4_setLength_d00df (Cond.code yJ4_setLength_d00df cJ4_setLength_d00df 2 (Option.none : Option Jvm.ClassFile.FieldType) :: zG) (rm_J4_setLength_d00df a b) a b (T0 a b)) (h1 : ∀ a b, zMet l yX8_separate (Cond.code yX8_separate cX8_separate 2 (Option.none : Option Jvm.ClassFile.FieldType) :: zG) (rm_X8_separate a b) a b (T1 a b)) (h2 : ∀ a b, zMet l yX8_putWorker (Cond.code yX8_putWorker cX8_putWorker 3 (Option.none : Option Jvm.ClassFile.FieldType) :: zG) (rm_X8_putWorker a b) a b (T2 a b)) (h3 : zMet l yJ4_length_8abf5 (Cond.code yJ4_length_8abf5 cJ4_length_8abf5 1 (Option.some Jvm.ClassFile.FieldType.int) :: zG) rm_J4_length_8abf5 0 0 T3) (p : Program) (e : Env) (s : State) (m : MethodId) (args : Array Value) (below : List Frame) (meth : Method) (c : Code) (D : va_G) (A : Nat → Prop) (a0 : Nat → Nat) (M0 : ZM) (K : ZRet) (KX : ZEx) (X : zCtx p l rm_X8_writeWorkers s m args meth c cX8_writeWorkers RX8 (Cond.code yX8_writeWorkers cX8_writeWorkers 2 (Option.some Jvm.ClassFile.FieldType.int) :: zG) 2 (Option.some Jvm.ClassFile.FieldType.int) D A a0 M0 300 600) (hnm : meth.name = yX8_writeWorkers.name) (hout : ∀ x ∈ c.exceptionTable.toList, False) : ∀ q ∈ cd_X8_writeWorkers T0 T1 T2 T3, zSd p l e rm_X8_writeWorkers s m args below meth c 2 D A a0 M0 K KX 300 600 q.1 q.2 :=
    zall_c (zs_aload_n X (pc := 0) (q := 0) rfl (by decide +kernel)) <|
    zall_c (zs_getr X (pc := 1) zc_X8 (by decide) (zin ui_X8) (.tail _ gw_2_128) (by decide +kernel) (by decide +kernel)) <|
    zall_c (zs_iconst X (pc := 4) (by decide) (by decide +kernel)) <|
    zall_c (zs_ex (fun a b => zs_callV X (pc := 5) zc_J4 (fun _ ht => ⟨(zCB ht gw_3_57 gw_1_5 gw_5_112 rfl rfl (by decide +kernel) ⟨Nat.le_of_ble_eq_true rfl, Nat.le_of_ble_eq_true rfl⟩), ht _ (.tail _ gw_3_55), ht _ (.tail _ gw_3_56)⟩) (h0 a b) hout (by decide +kernel))) <|
    zall_c (zs_iconst X (pc := 8) (by decide) (by decide +kernel)) <|
    zall_c (zs_istore_n X (pc := 9) (q := 1) rfl (by decide) (by decide +kernel)) <|
    zall_c (zs_iload_n X (pc := 10) (q := 1) rfl (by decide +kernel)) <|
    zall_c (zs_aload_n X (pc := 11) (q := 0) rfl (by decide +kernel)) <|
    zall_c (zs_getr X (pc := 12) zc_X8 (by decide) (zin ui_X8) (.tail _ gw_2_123) (by decide +kernel) (by decide +kernel)) <|
    zall_c (zs_geti X (pc := 15) zc_X5 (by decide) (zin ui_X5) (.tail _ gw_1_236) (by decide +kernel) (by decide +kernel)) <|
    zall_c (zs_icmp_ge X (pc := 18) (off := 19) (by decide +kernel) (by decide)) <|
    zall_c (zs_aload_n X (pc := 21) (q := 0) rfl (by decide +kernel)) <|
    zall_c (zs_iload_n X (pc := 22) (q := 1) rfl (by decide +kernel)) <|
    zall_c (zs_ex (fun a b => zs_callV X (pc := 23) zc_X8 (fun _ ht => ⟨(zCB ht gw_5_116 gw_1_1 gw_5_113 rfl rfl (by decide +kernel) ⟨Nat.le_of_ble_eq_true rfl, Nat.le_of_ble_eq_true rfl⟩), ht _ (.tail _ gw_5_115), ht _ (.tail _ gp_17)⟩) (h1 a b) hout (by decide +kernel))) <|
    zall_c (zs_aload_n X (pc := 26) (q := 0) rfl (by decide +kernel)) <|
    zall_c (zs_iload_n X (pc := 27) (q := 1) rfl (by decide +kernel)) <|
    zall_c (zs_ex (fun a b => zs_callV X (pc := 28) zc_X8 (fun _ ht => ⟨(zCB ht gw_5_131 gw_1_1 gw_5_128 rfl rfl (by decide +kernel) ⟨Nat.le_of_ble_eq_true rfl, Nat.le_of_ble_eq_true rfl⟩), ht _ (.tail _ gw_5_130), ht _ (.tail _ gp_19)⟩) (h2 a b) hout (by decide +kernel))) <|
    zall_c (zs_iinc X (pc := 31) (by decide) (by decide +kernel)) <|
    zall_c (zs_goto X (pc := 34) (off := (-24)) (by decide +kernel) (by decide)) <|
    zall_c (zs_aload_n X (pc := 37) (q := 0) rfl (by decide +kernel)) <|
    zall_c (zs_getr X (pc := 38) zc_X8 (by decide) (zin ui_X8) (.tail _ gw_2_128) (by decide +kernel) (by decide +kernel)) <|
    zall_c (zs_callV0 X (pc := 41) zc_J4 (fun _ ht => ⟨(zCB ht gw_3_218 gw_1_5 gw_5_123 rfl rfl (by decide +kernel) ⟨Nat.le_of_ble_eq_true rfl, Nat.le_of_ble_eq_true rfl⟩), ht _ (.tail _ gw_3_217), ht _ (.tail _ gw_10_183)⟩) h3 hout (by decide +kernel)) <|
    zall_c (zs_iret X (pc := 44) rfl (by decide +kernel)) <|
    zall_n
theorem met_X8_writeWorkers {l : Launch} (hl : l.stackTraces = false) {T0 : Nat → Nat → ZTf} {T1 : Nat → Nat → ZTf} {T2 : Nat → Nat → ZTf} {T3 : ZTf} (h0 : ∀ a b, zMet l yJ4_setLength_d00df (Cond.code yJ4_setLength_d00df cJ4_setLength_d00df 2 (Option.none : Option Jvm.ClassFile.FieldType) :: zG) (rm_J4_setLength_d00df a b) a b (T0 a b)) (h1 : ∀ a b, zMet l yX8_separate (Cond.code yX8_separate cX8_separate 2 (Option.none : Option Jvm.ClassFile.FieldType) :: zG) (rm_X8_separate a b) a b (T1 a b)) (h2 : ∀ a b, zMet l yX8_putWorker (Cond.code yX8_putWorker cX8_putWorker 3 (Option.none : Option Jvm.ClassFile.FieldType) :: zG) (rm_X8_putWorker a b) a b (T2 a b)) (h3 : zMet l yJ4_length_8abf5 (Cond.code yJ4_length_8abf5 cJ4_length_8abf5 1 (Option.some Jvm.ClassFile.FieldType.int) :: zG) rm_J4_length_8abf5 0 0 T3) {T : ZTf} (bd : zBd (cd_X8_writeWorkers T0 T1 T2 T3) 2 300 600 T) : zMet l yX8_writeWorkers (Cond.code yX8_writeWorkers cX8_writeWorkers 2 (Option.some Jvm.ClassFile.FieldType.int) :: zG) rm_X8_writeWorkers 300 600 T := zMet_of hl (by decide +kernel) rfl rfl rfl rfl (hs_X8_writeWorkers hl h0 h1 h2 h3) bd

abbrev rm_X3_readStatement : Room := { frames := 10, cells := 4, slots := 30, locals := 226 }
def cd_X3_readStatement (T0 : ZTf) (T1 : ZTf) (T2 : ZTf) (T3 : ZTf) (T4 : ZTf) : List (Nat × ZTr) := [(0, tAld 0 1), (1, tC (zo 5) 4), (4, tCall0 2 T0 (zRcv 6) 7), (7, tIf_eq 15 10), (10, tAld 0 11), (11, tCall 1 4 30 T1 (zRcv 6) 14), (14, tRi zPz), (15, tAld 0 16), (16, tC (zo 9) 19), (19, tCall0 2 T0 (zRcv 6) 22), (22, tIf_eq 30 25), (25, tAld 0 26), (26, tCall0 1 T2 (zRcv 6) 29), (29, tRi zPz), (30, tAld 0 31), (31, tC (zo 11) 34), (34, tCall0 2 T0 (zRcv 6) 37), (37, tIf_eq 45 40), (40, tAld 0 41), (41, tCall0 1 T3 (zRcv 6) 44), (44, tRi zPz), (45, tAld 0 46), (46, tC (zi 1) 47), (47, tCall0 2 T4 (zRcv 6) 50), (50, tRi zPz)]
set_option maxRecDepth 100000 in
set_option maxHeartbeats 4000000 in
theorem hs_X3_readStatement {l : Launch} (hl : l.stackTraces = false) {T0 : ZTf} {T1 : ZTf} {T2 : ZTf} {T3 : ZTf} {T4 : ZTf} (h0 : zMet l yX3_isAt (Cond.code yX3_isAt cX3_isAt 2 (Option.some Jvm.ClassFile.FieldType.boolean) :: zG) rm_X3_isAt 0 0 T0) (h1 : zMet l yX3_readWorkerStatement (Cond.code yX3_readWorkerStatement cX3_readWorkerStatement 5 (Option.some Jvm.ClassFile.FieldType.boolean) :: zG) rm_X3_readWorkerStatement 4 30 T1) (h2 : zMet l yX3_readRowsStatement (Cond.code yX3_readRowsStatement cX3_readRowsStatement 2 (Option.some Jvm.ClassFile.FieldType.boolean) :: zG) rm_X3_readRowsStatement 0 0 T2) (h3 : zMet l yX3_readBarStatement (Cond.code yX3_readBarStatement cX3_readBarStatement 3 (Option.some Jvm.ClassFile.FieldType.boolean) :: zG) rm_X3_readBarStatement 0 0 T3) (h4 : zMet l yX3_fail (Cond.code yX3_fail cX3_fail 2 (Option.some Jvm.ClassFile.FieldType.boolean) :: zG) rm_X3_fail 0 0 T4) (p : Program) (e : Env) (s : State) (m : MethodId) (args : Array Value) (below : List Frame) (meth : Method) (c : Code) (D : va_G) (A : Nat → Prop) (a0 : Nat → Nat) (M0 : ZM) (K : ZRet) (KX : ZEx) (X : zCtx p l rm_X3_readStatement s m args meth c cX3_readStatement RX3 (Cond.code yX3_readStatement cX3_readStatement 1 (Option.some Jvm.ClassFile.FieldType.boolean) :: zG) 1 (Option.some Jvm.ClassFile.FieldType.boolean) D A a0 M0 4 30) (hnm : meth.name = yX3_readStatement.name) (hout : ∀ x ∈ c.exceptionTable.toList, False) : ∀ q ∈ cd_X3_readStatement T0 T1 T2 T3 T4, zSd p l e rm_X3_readStatement s m args below meth c 1 D A a0 M0 K KX 4 30 q.1 q.2 :=
    zall_c (zs_aload_n X (pc := 0) (q := 0) rfl (by decide +kernel)) <|
    zall_c (zs_gets X (pc := 1) (C := "ReviewTable$Keyword") (n1 := "WORKER") (d1 := "LReviewTable$Keyword;") (List.mem_of_getElem? (i := 4) rfl) (.tail _ gw_3_33) (by decide +kernel)) <|
    zall_c (zs_callV0 X (pc := 4) zc_X3 (fun _ ht => ⟨(zCB ht gw_2_195 gw_1_2 gw_2_192 rfl rfl (by decide +kernel) ⟨Nat.le_of_ble_eq_true rfl, Nat.le_of_ble_eq_true rfl⟩), ht _ (.tail _ gw_2_194), ht _ (.tail _ gp_5)⟩) h0 hout (by decide +kernel)) <|
    zall_c (zs_if_eq X (pc := 7) (off := 8) (by decide +kernel) (by decide)) <|
    zall_c (zs_aload_n X (pc := 10) (q := 0) rfl (by decide +kernel)) <|
    zall_c (zs_callV X (pc := 11) zc_X3 (fun _ ht => ⟨(zCB ht gw_3_38 gw_1_2 gw_3_35 rfl rfl (by decide +kernel) ⟨Nat.le_of_ble_eq_true rfl, Nat.le_of_ble_eq_true rfl⟩), ht _ (.tail _ gw_3_37), ht _ (.tail _ gp_11)⟩) h1 hout (by decide +kernel)) <|
    zall_c (zs_zret X (pc := 14) rfl zR_bool (by decide +kernel)) <|
    zall_c (zs_aload_n X (pc := 15) (q := 0) rfl (by decide +kernel)) <|
    zall_c (zs_gets X (pc := 16) (C := "ReviewTable$Keyword") (n1 := "ROWS") (d1 := "LReviewTable$Keyword;") (List.mem_of_getElem? (i := 8) rfl) (.tail _ gw_4_167) (by decide +kernel)) <|
    zall_c (zs_callV0 X (pc := 19) zc_X3 (fun _ ht => ⟨(zCB ht gw_2_195 gw_1_2 gw_2_192 rfl rfl (by decide +kernel) ⟨Nat.le_of_ble_eq_true rfl, Nat.le_of_ble_eq_true rfl⟩), ht _ (.tail _ gw_2_194), ht _ (.tail _ gp_5)⟩) h0 hout (by decide +kernel)) <|
    zall_c (zs_if_eq X (pc := 22) (off := 8) (by decide +kernel) (by decide)) <|
    zall_c (zs_aload_n X (pc := 25) (q := 0) rfl (by decide +kernel)) <|
    zall_c (zs_callV0 X (pc := 26) zc_X3 (fun _ ht => ⟨(zCB ht gw_4_172 gw_1_2 gw_4_169 rfl rfl (by decide +kernel) ⟨Nat.le_of_ble_eq_true rfl, Nat.le_of_ble_eq_true rfl⟩), ht _ (.tail _ gw_4_171), ht _ (.tail _ gp_14)⟩) h2 hout (by decide +kernel)) <|
    zall_c (zs_zret X (pc := 29) rfl zR_bool (by decide +kernel)) <|
    zall_c (zs_aload_n X (pc := 30) (q := 0) rfl (by decide +kernel)) <|
    zall_c (zs_gets X (pc := 31) (C := "ReviewTable$Keyword") (n1 := "BAR") (d1 := "LReviewTable$Keyword;") (List.mem_of_getElem? (i := 10) rfl) (.tail _ gw_4_187) (by decide +kernel)) <|
    zall_c (zs_callV0 X (pc := 34) zc_X3 (fun _ ht => ⟨(zCB ht gw_2_195 gw_1_2 gw_2_192 rfl rfl (by decide +kernel) ⟨Nat.le_of_ble_eq_true rfl, Nat.le_of_ble_eq_true rfl⟩), ht _ (.tail _ gw_2_194), ht _ (.tail _ gp_5)⟩) h0 hout (by decide +kernel)) <|
    zall_c (zs_if_eq X (pc := 37) (off := 8) (by decide +kernel) (by decide)) <|
    zall_c (zs_aload_n X (pc := 40) (q := 0) rfl (by decide +kernel)) <|
    zall_c (zs_callV0 X (pc := 41) zc_X3 (fun _ ht => ⟨(zCB ht gw_4_192 gw_1_2 gw_4_189 rfl rfl (by decide +kernel) ⟨Nat.le_of_ble_eq_true rfl, Nat.le_of_ble_eq_true rfl⟩), ht _ (.tail _ gw_4_191), ht _ (.tail _ gp_15)⟩) h3 hout (by decide +kernel)) <|
    zall_c (zs_zret X (pc := 44) rfl zR_bool (by decide +kernel)) <|
    zall_c (zs_aload_n X (pc := 45) (q := 0) rfl (by decide +kernel)) <|
    zall_c (zs_iconst X (pc := 46) (by decide) (by decide +kernel)) <|
    zall_c (zs_callV0 X (pc := 47) zc_X3 (fun _ ht => ⟨(zCB ht gw_3_10 gw_1_2 gw_3_7 rfl rfl (by decide +kernel) ⟨Nat.le_of_ble_eq_true rfl, Nat.le_of_ble_eq_true rfl⟩), ht _ (.tail _ gw_3_9), ht _ (.tail _ gp_6)⟩) h4 hout (by decide +kernel)) <|
    zall_c (zs_zret X (pc := 50) rfl zR_bool (by decide +kernel)) <|
    zall_n
theorem met_X3_readStatement {l : Launch} (hl : l.stackTraces = false) {T0 : ZTf} {T1 : ZTf} {T2 : ZTf} {T3 : ZTf} {T4 : ZTf} (h0 : zMet l yX3_isAt (Cond.code yX3_isAt cX3_isAt 2 (Option.some Jvm.ClassFile.FieldType.boolean) :: zG) rm_X3_isAt 0 0 T0) (h1 : zMet l yX3_readWorkerStatement (Cond.code yX3_readWorkerStatement cX3_readWorkerStatement 5 (Option.some Jvm.ClassFile.FieldType.boolean) :: zG) rm_X3_readWorkerStatement 4 30 T1) (h2 : zMet l yX3_readRowsStatement (Cond.code yX3_readRowsStatement cX3_readRowsStatement 2 (Option.some Jvm.ClassFile.FieldType.boolean) :: zG) rm_X3_readRowsStatement 0 0 T2) (h3 : zMet l yX3_readBarStatement (Cond.code yX3_readBarStatement cX3_readBarStatement 3 (Option.some Jvm.ClassFile.FieldType.boolean) :: zG) rm_X3_readBarStatement 0 0 T3) (h4 : zMet l yX3_fail (Cond.code yX3_fail cX3_fail 2 (Option.some Jvm.ClassFile.FieldType.boolean) :: zG) rm_X3_fail 0 0 T4) {T : ZTf} (bd : zBd (cd_X3_readStatement T0 T1 T2 T3 T4) 1 4 30 T) : zMet l yX3_readStatement (Cond.code yX3_readStatement cX3_readStatement 1 (Option.some Jvm.ClassFile.FieldType.boolean) :: zG) rm_X3_readStatement 4 30 T := zMet_of hl (by decide +kernel) rfl rfl rfl rfl (hs_X3_readStatement hl h0 h1 h2 h3 h4) bd

abbrev rm_X3_parseText : Room := { frames := 11, cells := 508, slots := 3810, locals := 246 }
def cd_X3_parseText (T0 : ZTf) (T1 : ZTf) (T2 : ZTf) (T3 : ZTf) : List (Nat × ZTr) := [(0, tAld 0 1), (1, tC (zi 0) 2), (2, tPutI 6 0 (fun _ => True) 5), (5, tAld 0 6), (6, tC (zi (-1)) 7), (7, tPutI 6 1 (fun _ => True) 10), (10, tAld 0 11), (11, tC (zi 0) 12), (12, tPutI 6 6 (fun _ => True) 15), (15, tAld 0 16), (16, tGetR 6 3 19), (19, tCall0 1 T0 (zRcv 8) 22), (22, tAld 0 23), (23, tCall0 1 T1 (zRcv 6) 26), (26, tAld 0 27), (27, tCall0 1 T2 (zRcv 6) 30), (30, tIf_ne 35 33), (33, tC (zi 0) 34), (34, tRi zPz), (35, tC (zi 0) 36), (36, tIst 1 37), (37, tIld 1 38), (38, tC (zi 500) 41), (41, tIc_ge 67 44), (44, tAld 0 45), (45, tGetI 6 4 48), (48, tC (zi 3) 49), (49, tIc_eq 67 52), (52, tAld 0 53), (53, tCall 1 4 30 T3 (zRcv 6) 56), (56, tIf_ne 61 59), (59, tC (zi 0) 60), (60, tRi zPz), (61, tInc 1 1 64), (64, tGo 37), (67, tC (zi 1) 68), (68, tRi zPz)]
set_option maxRecDepth 100000 in
set_option maxHeartbeats 4000000 in
theorem hs_X3_parseText {l : Launch} (hl : l.stackTraces = false) {T0 : ZTf} {T1 : ZTf} {T2 : ZTf} {T3 : ZTf} (h0 : zMet l yX5_clear (Cond.code yX5_clear cX5_clear 1 (Option.none : Option Jvm.ClassFile.FieldType) :: zG) rm_X5_clear 0 0 T0) (h1 : zMet l yX3_nextToken (Cond.code yX3_nextToken cX3_nextToken 1 (Option.none : Option Jvm.ClassFile.FieldType) :: zG) rm_X3_nextToken 0 0 T1) (h2 : zMet l yX3_readTableStatement (Cond.code yX3_readTableStatement cX3_readTableStatement 1 (Option.some Jvm.ClassFile.FieldType.boolean) :: zG) rm_X3_readTableStatement 0 0 T2) (h3 : zMet l yX3_readStatement (Cond.code yX3_readStatement cX3_readStatement 1 (Option.some Jvm.ClassFile.FieldType.boolean) :: zG) rm_X3_readStatement 4 30 T3) (p : Program) (e : Env) (s : State) (m : MethodId) (args : Array Value) (below : List Frame) (meth : Method) (c : Code) (D : va_G) (A : Nat → Prop) (a0 : Nat → Nat) (M0 : ZM) (K : ZRet) (KX : ZEx) (X : zCtx p l rm_X3_parseText s m args meth c cX3_parseText RX3 (Cond.code yX3_parseText cX3_parseText 2 (Option.some Jvm.ClassFile.FieldType.boolean) :: zG) 2 (Option.some Jvm.ClassFile.FieldType.boolean) D A a0 M0 508 3810) (hnm : meth.name = yX3_parseText.name) (hout : ∀ x ∈ c.exceptionTable.toList, False) : ∀ q ∈ cd_X3_parseText T0 T1 T2 T3, zSd p l e rm_X3_parseText s m args below meth c 2 D A a0 M0 K KX 508 3810 q.1 q.2 :=
    zall_c (zs_aload_n X (pc := 0) (q := 0) rfl (by decide +kernel)) <|
    zall_c (zs_iconst X (pc := 1) (by decide) (by decide +kernel)) <|
    zall_c (zs_puti X (pc := 2) (ty := Jvm.ClassFile.FieldType.int) zc_X3 (by decide) (zin ui_X3) tyX3_ok nmX3 (.tail _ gw_2_29) rfl (by decide +kernel) (by decide +kernel) (by decide +kernel) zP_int) <|
    zall_c (zs_aload_n X (pc := 5) (q := 0) rfl (by decide +kernel)) <|
    zall_c (zs_iconst X (pc := 6) (by decide) (by decide +kernel)) <|
    zall_c (zs_puti X (pc := 7) (ty := Jvm.ClassFile.FieldType.int) zc_X3 (by decide) (zin ui_X3) tyX3_ok nmX3 (.tail _ gw_2_31) rfl (by decide +kernel) (by decide +kernel) (by decide +kernel) zP_int) <|
    zall_c (zs_aload_n X (pc := 10) (q := 0) rfl (by decide +kernel)) <|
    zall_c (zs_iconst X (pc := 11) (by decide) (by decide +kernel)) <|
    zall_c (zs_puti X (pc := 12) (ty := Jvm.ClassFile.FieldType.int) zc_X3 (by decide) (zin ui_X3) tyX3_ok nmX3 (.tail _ gw_2_39) rfl (by decide +kernel) (by decide +kernel) (by decide +kernel) zP_int) <|
    zall_c (zs_aload_n X (pc := 15) (q := 0) rfl (by decide +kernel)) <|
    zall_c (zs_getr X (pc := 16) zc_X3 (by decide) (zin ui_X3) (.tail _ gw_2_35) (by decide +kernel) (by decide +kernel)) <|
    zall_c (zs_callV0 X (pc := 19) zc_X5 (fun _ ht => ⟨(zCB ht gw_2_163 gw_1_8 gw_2_160 rfl rfl (by decide +kernel) ⟨Nat.le_of_ble_eq_true rfl, Nat.le_of_ble_eq_true rfl⟩), ht _ (.tail _ gw_2_161), ht _ (.tail _ gw_2_162)⟩) h0 hout (by decide +kernel)) <|
    zall_c (zs_aload_n X (pc := 22) (q := 0) rfl (by decide +kernel)) <|
    zall_c (zs_callV0 X (pc := 23) zc_X3 (fun _ ht => ⟨(zCB ht gw_2_170 gw_1_2 gw_2_167 rfl rfl (by decide +kernel) ⟨Nat.le_of_ble_eq_true rfl, Nat.le_of_ble_eq_true rfl⟩), ht _ (.tail _ gw_2_169), ht _ (.tail _ gp_0)⟩) h1 hout (by decide +kernel)) <|
    zall_c (zs_aload_n X (pc := 26) (q := 0) rfl (by decide +kernel)) <|
    zall_c (zs_callV0 X (pc := 27) zc_X3 (fun _ ht => ⟨(zCB ht gw_2_185 gw_1_2 gw_2_182 rfl rfl (by decide +kernel) ⟨Nat.le_of_ble_eq_true rfl, Nat.le_of_ble_eq_true rfl⟩), ht _ (.tail _ gw_2_184), ht _ (.tail _ gp_3)⟩) h2 hout (by decide +kernel)) <|
    zall_c (zs_if_ne X (pc := 30) (off := 5) (by decide +kernel) (by decide)) <|
    zall_c (zs_iconst X (pc := 33) (by decide) (by decide +kernel)) <|
    zall_c (zs_zret X (pc := 34) rfl zR_bool (by decide +kernel)) <|
    zall_c (zs_iconst X (pc := 35) (by decide) (by decide +kernel)) <|
    zall_c (zs_istore_n X (pc := 36) (q := 1) rfl (by decide) (by decide +kernel)) <|
    zall_c (zs_iload_n X (pc := 37) (q := 1) rfl (by decide +kernel)) <|
    zall_c (zs_sipush X (pc := 38) (by decide) (by decide +kernel) (by decide +kernel)) <|
    zall_c (zs_icmp_ge X (pc := 41) (off := 26) (by decide +kernel) (by decide)) <|
    zall_c (zs_aload_n X (pc := 44) (q := 0) rfl (by decide +kernel)) <|
    zall_c (zs_geti X (pc := 45) zc_X3 (by decide) (zin ui_X3) (.tail _ gw_2_37) (by decide +kernel) (by decide +kernel)) <|
    zall_c (zs_iconst X (pc := 48) (by decide) (by decide +kernel)) <|
    zall_c (zs_icmp_eq X (pc := 49) (off := 18) (by decide +kernel) (by decide)) <|
    zall_c (zs_aload_n X (pc := 52) (q := 0) rfl (by decide +kernel)) <|
    zall_c (zs_callV X (pc := 53) zc_X3 (fun _ ht => ⟨(zCB ht gw_3_32 gw_1_2 gw_3_29 rfl rfl (by decide +kernel) ⟨Nat.le_of_ble_eq_true rfl, Nat.le_of_ble_eq_true rfl⟩), ht _ (.tail _ gw_3_31), ht _ (.tail _ gp_10)⟩) h3 hout (by decide +kernel)) <|
    zall_c (zs_if_ne X (pc := 56) (off := 5) (by decide +kernel) (by decide)) <|
    zall_c (zs_iconst X (pc := 59) (by decide) (by decide +kernel)) <|
    zall_c (zs_zret X (pc := 60) rfl zR_bool (by decide +kernel)) <|
    zall_c (zs_iinc X (pc := 61) (by decide) (by decide +kernel)) <|
    zall_c (zs_goto X (pc := 64) (off := (-27)) (by decide +kernel) (by decide)) <|
    zall_c (zs_iconst X (pc := 67) (by decide) (by decide +kernel)) <|
    zall_c (zs_zret X (pc := 68) rfl zR_bool (by decide +kernel)) <|
    zall_n
theorem met_X3_parseText {l : Launch} (hl : l.stackTraces = false) {T0 : ZTf} {T1 : ZTf} {T2 : ZTf} {T3 : ZTf} (h0 : zMet l yX5_clear (Cond.code yX5_clear cX5_clear 1 (Option.none : Option Jvm.ClassFile.FieldType) :: zG) rm_X5_clear 0 0 T0) (h1 : zMet l yX3_nextToken (Cond.code yX3_nextToken cX3_nextToken 1 (Option.none : Option Jvm.ClassFile.FieldType) :: zG) rm_X3_nextToken 0 0 T1) (h2 : zMet l yX3_readTableStatement (Cond.code yX3_readTableStatement cX3_readTableStatement 1 (Option.some Jvm.ClassFile.FieldType.boolean) :: zG) rm_X3_readTableStatement 0 0 T2) (h3 : zMet l yX3_readStatement (Cond.code yX3_readStatement cX3_readStatement 1 (Option.some Jvm.ClassFile.FieldType.boolean) :: zG) rm_X3_readStatement 4 30 T3) {T : ZTf} (bd : zBd (cd_X3_parseText T0 T1 T2 T3) 2 508 3810 T) : zMet l yX3_parseText (Cond.code yX3_parseText cX3_parseText 2 (Option.some Jvm.ClassFile.FieldType.boolean) :: zG) rm_X3_parseText 508 3810 T := zMet_of hl (by decide +kernel) rfl rfl rfl rfl (hs_X3_parseText hl h0 h1 h2 h3) bd

abbrev rm_X8_load : Room := { frames := 12, cells := 508, slots := 3810, locals := 267 }
def cd_X8_load (T0 : ZTf) (T1 : ZTf) (T2 : ZTf) : List (Nat × ZTr) := [(0, tAld 0 1), (1, tGetR 11 0 4), (4, tCall 1 508 3810 T0 (zRcv 6) 7), (7, tIst 1 8), (8, tAld 0 9), (9, tAld 0 10), (10, tGetR 11 0 13), (13, tGetI 6 0 16), (16, tPutI 11 8 (fun _ => True) 19), (19, tAld 0 20), (20, tAld 0 21), (21, tGetR 11 0 24), (24, tGetI 6 1 27), (27, tPutI 11 9 (fun _ => True) 30), (30, tAld 0 31), (31, tGetR 11 1 34), (34, tC (zi 0) 35), (35, tPutI 5 1 (fun _ => True) 38), (38, tIld 1 39), (39, tIf_ne 45 42), (42, tC (zi (-4)) 44), (44, tRi (fun _ => True)), (45, tAld 0 46), (46, tGetR 11 3 49), (49, tAld 0 50), (50, tGetR 11 2 53), (53, tCall0 2 T1 (zRcv 4) 56), (56, tAld 0 57), (57, tGetR 11 2 60), (60, tAld 0 61), (61, tGetR 11 0 64), (64, tGetR 6 3 67), (67, tCall0 2 T2 (zRcv 8) 70), (70, tAld 0 71), (71, tGetR 11 2 74), (74, tGetI 8 4 77), (77, tRi (fun _ => True))]
set_option maxRecDepth 100000 in
set_option maxHeartbeats 4000000 in
theorem hs_X8_load {l : Launch} (hl : l.stackTraces = false) {T0 : ZTf} {T1 : ZTf} {T2 : ZTf} (h0 : zMet l yX3_parseText (Cond.code yX3_parseText cX3_parseText 2 (Option.some Jvm.ClassFile.FieldType.boolean) :: zG) rm_X3_parseText 508 3810 T0) (h1 : zMet l yX0_remember (Cond.code yX0_remember cX0_remember 2 (Option.none : Option Jvm.ClassFile.FieldType) :: zG) rm_X0_remember 0 0 T1) (h2 : zMet l yX5_copyFrom (Cond.code yX5_copyFrom cX5_copyFrom 3 (Option.none : Option Jvm.ClassFile.FieldType) :: zG) rm_X5_copyFrom 0 0 T2) (p : Program) (e : Env) (s : State) (m : MethodId) (args : Array Value) (below : List Frame) (meth : Method) (c : Code) (D : va_G) (A : Nat → Prop) (a0 : Nat → Nat) (M0 : ZM) (K : ZRet) (KX : ZEx) (X : zCtx p l rm_X8_load s m args meth c cX8_load RX8 (Cond.code yX8_load cX8_load 2 (Option.some Jvm.ClassFile.FieldType.int) :: zG) 2 (Option.some Jvm.ClassFile.FieldType.int) D A a0 M0 508 3810) (hnm : meth.name = yX8_load.name) (hout : ∀ x ∈ c.exceptionTable.toList, False) : ∀ q ∈ cd_X8_load T0 T1 T2, zSd p l e rm_X8_load s m args below meth c 2 D A a0 M0 K KX 508 3810 q.1 q.2 :=
    zall_c (zs_aload_n X (pc := 0) (q := 0) rfl (by decide +kernel)) <|
    zall_c (zs_getr X (pc := 1) zc_X8 (by decide) (zin ui_X8) (.tail _ gw_2_121) (by decide +kernel) (by decide +kernel)) <|
    zall_c (zs_callV X (pc := 4) zc_X3 (fun _ ht => ⟨(zCB ht gw_2_159 gw_1_2 gw_2_156 rfl rfl (by decide +kernel) ⟨Nat.le_of_ble_eq_true rfl, Nat.le_of_ble_eq_true rfl⟩), ht _ (.tail _ gw_2_157), ht _ (.tail _ gw_2_158)⟩) h0 hout (by decide +kernel)) <|
    zall_c (zs_istore_n X (pc := 7) (q := 1) rfl (by decide) (by decide +kernel)) <|
    zall_c (zs_aload_n X (pc := 8) (q := 0) rfl (by decide +kernel)) <|
    zall_c (zs_aload_n X (pc := 9) (q := 0) rfl (by decide +kernel)) <|
    zall_c (zs_getr X (pc := 10) zc_X8 (by decide) (zin ui_X8) (.tail _ gw_2_121) (by decide +kernel) (by decide +kernel)) <|
    zall_c (zs_geti X (pc := 13) zc_X3 (by decide) (zin ui_X3) (.tail _ gw_2_30) (by decide +kernel) (by decide +kernel)) <|
    zall_c (zs_puti X (pc := 16) (ty := Jvm.ClassFile.FieldType.int) zc_X8 (by decide) (zin ui_X8) tyX8_ok nmX8 (.tail _ gw_2_129) rfl (by decide +kernel) (by decide +kernel) (by decide +kernel) zP_int) <|
    zall_c (zs_aload_n X (pc := 19) (q := 0) rfl (by decide +kernel)) <|
    zall_c (zs_aload_n X (pc := 20) (q := 0) rfl (by decide +kernel)) <|
    zall_c (zs_getr X (pc := 21) zc_X8 (by decide) (zin ui_X8) (.tail _ gw_2_121) (by decide +kernel) (by decide +kernel)) <|
    zall_c (zs_geti X (pc := 24) zc_X3 (by decide) (zin ui_X3) (.tail _ gw_2_32) (by decide +kernel) (by decide +kernel)) <|
    zall_c (zs_puti X (pc := 27) (ty := Jvm.ClassFile.FieldType.int) zc_X8 (by decide) (zin ui_X8) tyX8_ok nmX8 (.tail _ gw_2_130) rfl (by decide +kernel) (by decide +kernel) (by decide +kernel) zP_int) <|
    zall_c (zs_aload_n X (pc := 30) (q := 0) rfl (by decide +kernel)) <|
    zall_c (zs_getr X (pc := 31) zc_X8 (by decide) (zin ui_X8) (.tail _ gw_2_122) (by decide +kernel) (by decide +kernel)) <|
    zall_c (zs_iconst X (pc := 34) (by decide) (by decide +kernel)) <|
    zall_c (zs_puti X (pc := 35) (ty := Jvm.ClassFile.FieldType.int) zc_X1 (by decide) (zin ui_X1) tyX1_ok nmX1 (.tail _ gw_1_90) rfl (by decide +kernel) (by decide +kernel) (by decide +kernel) zP_int) <|
    zall_c (zs_iload_n X (pc := 38) (q := 1) rfl (by decide +kernel)) <|
    zall_c (zs_if_ne X (pc := 39) (off := 6) (by decide +kernel) (by decide)) <|
    zall_c (zs_bipush X (pc := 42) (by decide) (by decide +kernel) (by decide +kernel)) <|
    zall_c (zs_iret X (pc := 44) rfl (by decide +kernel)) <|
    zall_c (zs_aload_n X (pc := 45) (q := 0) rfl (by decide +kernel)) <|
    zall_c (zs_getr X (pc := 46) zc_X8 (by decide) (zin ui_X8) (.tail _ gw_2_124) (by decide +kernel) (by decide +kernel)) <|
    zall_c (zs_aload_n X (pc := 49) (q := 0) rfl (by decide +kernel)) <|
    zall_c (zs_getr X (pc := 50) zc_X8 (by decide) (zin ui_X8) (.tail _ gw_2_123) (by decide +kernel) (by decide +kernel)) <|
    zall_c (zs_callV0 X (pc := 53) zc_X0 (fun _ ht => ⟨(zCB ht gw_4_211 gw_1_11 gw_4_208 rfl rfl (by decide +kernel) ⟨Nat.le_of_ble_eq_true rfl, Nat.le_of_ble_eq_true rfl⟩), ht _ (.tail _ gw_4_209), ht _ (.tail _ gw_4_210)⟩) h1 hout (by decide +kernel)) <|
    zall_c (zs_aload_n X (pc := 56) (q := 0) rfl (by decide +kernel)) <|
    zall_c (zs_getr X (pc := 57) zc_X8 (by decide) (zin ui_X8) (.tail _ gw_2_123) (by decide +kernel) (by decide +kernel)) <|
    zall_c (zs_aload_n X (pc := 60) (q := 0) rfl (by decide +kernel)) <|
    zall_c (zs_getr X (pc := 61) zc_X8 (by decide) (zin ui_X8) (.tail _ gw_2_121) (by decide +kernel) (by decide +kernel)) <|
    zall_c (zs_getr X (pc := 64) zc_X3 (by decide) (zin ui_X3) (.tail _ gw_2_36) (by decide +kernel) (by decide +kernel)) <|
    zall_c (zs_callV0 X (pc := 67) zc_X5 (fun _ ht => ⟨(zCB ht gw_4_215 gw_1_8 gw_4_227 rfl rfl (by decide +kernel) ⟨Nat.le_of_ble_eq_true rfl, Nat.le_of_ble_eq_true rfl⟩), ht _ (.tail _ gw_4_213), ht _ (.tail _ gw_4_214)⟩) h2 hout (by decide +kernel)) <|
    zall_c (zs_aload_n X (pc := 70) (q := 0) rfl (by decide +kernel)) <|
    zall_c (zs_getr X (pc := 71) zc_X8 (by decide) (zin ui_X8) (.tail _ gw_2_123) (by decide +kernel) (by decide +kernel)) <|
    zall_c (zs_geti X (pc := 74) zc_X5 (by decide) (zin ui_X5) (.tail _ gw_1_236) (by decide +kernel) (by decide +kernel)) <|
    zall_c (zs_iret X (pc := 77) rfl (by decide +kernel)) <|
    zall_n
theorem met_X8_load {l : Launch} (hl : l.stackTraces = false) {T0 : ZTf} {T1 : ZTf} {T2 : ZTf} (h0 : zMet l yX3_parseText (Cond.code yX3_parseText cX3_parseText 2 (Option.some Jvm.ClassFile.FieldType.boolean) :: zG) rm_X3_parseText 508 3810 T0) (h1 : zMet l yX0_remember (Cond.code yX0_remember cX0_remember 2 (Option.none : Option Jvm.ClassFile.FieldType) :: zG) rm_X0_remember 0 0 T1) (h2 : zMet l yX5_copyFrom (Cond.code yX5_copyFrom cX5_copyFrom 3 (Option.none : Option Jvm.ClassFile.FieldType) :: zG) rm_X5_copyFrom 0 0 T2) {T : ZTf} (bd : zBd (cd_X8_load T0 T1 T2) 2 508 3810 T) : zMet l yX8_load (Cond.code yX8_load cX8_load 2 (Option.some Jvm.ClassFile.FieldType.int) :: zG) rm_X8_load 508 3810 T := zMet_of hl (by decide +kernel) rfl rfl rfl rfl (hs_X8_load hl h0 h1 h2) bd
