abbrev rm_X1_textBetween : Room := { frames := 7, cells := 4, slots := 30, locals := 171 }
def cd_X1_textBetween (T0 : Nat → Nat → ZTf) (T1 : Nat → Nat → ZTf) (T2 : ZTf) : List (Nat × ZTr) := [(0, tAld 0 1), (1, tGetR 5 2 4), (4, tC (zi 0) 5), (5, tEx (fun a b => tCall 2 a b (T0 a b) (zRcv 1) 8)), (8, tC (zi 0) 9), (9, tIld 1 10), (10, tMth2 zmax 13), (13, tIst 3 14), (14, tIld 3 15), (15, tIld 2 16), (16, tAld 0 17), (17, tGetI 5 1 20), (20, tMth2 zmin 23), (23, tIc_ge 47 26), (26, tAld 0 27), (27, tGetR 5 2 30), (30, tAld 0 31), (31, tGetR 5 0 34), (34, tIld 3 35), (35, tIal 20 36), (36, tUn zi2c 37), (37, tEx (fun a b => tCall 2 a b (T1 a b) (zRcv 1) 40)), (40, tPop 41), (41, tInc 3 1 44), (44, tGo 14), (47, tAld 0 48), (48, tGetR 5 2 51), (51, tCall 1 2 10 T2 (zRcv 1) 54), (54, tRa)]
set_option maxRecDepth 100000 in
set_option maxHeartbeats 4000000 in
theorem hs_X1_textBetween {l : Launch} (hl : l.stackTraces = false) {T0 : Nat → Nat → ZTf} {T1 : Nat → Nat → ZTf} {T2 : ZTf} (h0 : ∀ a b, zMet l yJ4_setLength_d00df (Cond.code yJ4_setLength_d00df cJ4_setLength_d00df 2 (Option.none : Option Jvm.ClassFile.FieldType) :: zG) (rm_J4_setLength_d00df a b) a b (T0 a b)) (h1 : ∀ a b, zMet l yJ4_append_cf468 (Cond.code yJ4_append_cf468 cJ4_append_cf468 2 (Option.some (Jvm.ClassFile.FieldType.object "java/lang/StringBuilder")) :: zG) (rm_J4_append_cf468 a b) a b (T1 a b)) (h2 : zMet l yJ4_toString_0e30d (Cond.code yJ4_toString_0e30d cJ4_toString_0e30d 1 (Option.some (Jvm.ClassFile.FieldType.object "java/lang/String")) :: zG) rm_J4_toString_0e30d 2 10 T2) (p : Program) (e : Env) (s : State) (m : MethodId) (args : Array Value) (below : List Frame) (meth : Method) (c : Code) (D : va_G) (A : Nat → Prop) (a0 : Nat → Nat) (M0 : ZM) (K : ZRet) (KX : ZEx) (X : zCtx p l rm_X1_textBetween s m args meth c cX1_textBetween RX1 (Cond.code yX1_textBetween cX1_textBetween 4 (Option.some (Jvm.ClassFile.FieldType.object "java/lang/String")) :: zG) 4 (Option.some (Jvm.ClassFile.FieldType.object "java/lang/String")) D A a0 M0 4 30) (hnm : meth.name = yX1_textBetween.name) (hout : ∀ x ∈ c.exceptionTable.toList, False) : ∀ q ∈ cd_X1_textBetween T0 T1 T2, zSd p l e rm_X1_textBetween s m args below meth c 4 D A a0 M0 K KX 4 30 q.1 q.2 :=
    zall_c (zs_aload_n X (pc := 0) (q := 0) rfl (by decide +kernel)) <|
    zall_c (zs_getr X (pc := 1) zc_X1 (by decide) (zin ui_X1) (.tail _ gw_1_88) (by decide +kernel) (by decide +kernel)) <|
    zall_c (zs_iconst X (pc := 4) (by decide) (by decide +kernel)) <|
    zall_c (zs_ex (fun a b => zs_callV X (pc := 5) zc_J4 (fun _ ht => ⟨(zCB ht gw_4_158 gw_1_5 gw_4_155 rfl rfl (by decide +kernel) ⟨Nat.le_of_ble_eq_true rfl, Nat.le_of_ble_eq_true rfl⟩), ht _ (.tail _ gw_4_156), ht _ (.tail _ gw_4_157)⟩) (h0 a b) hout (by decide +kernel))) <|
    zall_c (zs_iconst X (pc := 8) (by decide) (by decide +kernel)) <|
    zall_c (zs_iload_n X (pc := 9) (q := 1) rfl (by decide +kernel)) <|
    zall_c (zs_mmax X (pc := 10) (.tail _ gw_4_175) (.tail _ gw_3_42) (.tail _ gw_1_14) (.tail _ gw_3_43) (Nat.le_of_ble_eq_true rfl) (Nat.le_of_ble_eq_true rfl) (by decide +kernel)) <|
    zall_c (zs_istore_n X (pc := 13) (q := 3) rfl (by decide) (by decide +kernel)) <|
    zall_c (zs_iload_n X (pc := 14) (q := 3) rfl (by decide +kernel)) <|
    zall_c (zs_iload_n X (pc := 15) (q := 2) rfl (by decide +kernel)) <|
    zall_c (zs_aload_n X (pc := 16) (q := 0) rfl (by decide +kernel)) <|
    zall_c (zs_geti X (pc := 17) zc_X1 (by decide) (zin ui_X1) (.tail _ gw_1_85) (by decide +kernel) (by decide +kernel)) <|
    zall_c (zs_mmin X (pc := 20) (.tail _ gw_4_176) (.tail _ gw_3_59) (.tail _ gw_1_14) (.tail _ gw_3_60) (Nat.le_of_ble_eq_true rfl) (Nat.le_of_ble_eq_true rfl) (by decide +kernel)) <|
    zall_c (zs_icmp_ge X (pc := 23) (off := 24) (by decide +kernel) (by decide)) <|
    zall_c (zs_aload_n X (pc := 26) (q := 0) rfl (by decide +kernel)) <|
    zall_c (zs_getr X (pc := 27) zc_X1 (by decide) (zin ui_X1) (.tail _ gw_1_88) (by decide +kernel) (by decide +kernel)) <|
    zall_c (zs_aload_n X (pc := 30) (q := 0) rfl (by decide +kernel)) <|
    zall_c (zs_getr X (pc := 31) zc_X1 (by decide) (zin ui_X1) (.tail _ gw_1_83) (by decide +kernel) (by decide +kernel)) <|
    zall_c (zs_iload_n X (pc := 34) (q := 3) rfl (by decide +kernel)) <|
    zall_c (zs_iaload20 X (pc := 35) (by decide +kernel)) <|
    zall_c (zs_i2c X (pc := 36) (by decide +kernel)) <|
    zall_c (zs_ex (fun a b => zs_callV X (pc := 37) zc_J4 (fun _ ht => ⟨(zCB ht gw_3_161 gw_1_5 gw_4_177 rfl rfl (by decide +kernel) ⟨Nat.le_of_ble_eq_true rfl, Nat.le_of_ble_eq_true rfl⟩), ht _ (.tail _ gw_3_159), ht _ (.tail _ gw_3_160)⟩) (h1 a b) hout (by decide +kernel))) <|
    zall_c (zs_pop X (pc := 40) (by decide +kernel)) <|
    zall_c (zs_iinc X (pc := 41) (by decide) (by decide +kernel)) <|
    zall_c (zs_goto X (pc := 44) (off := (-30)) (by decide +kernel) (by decide)) <|
    zall_c (zs_aload_n X (pc := 47) (q := 0) rfl (by decide +kernel)) <|
    zall_c (zs_getr X (pc := 48) zc_X1 (by decide) (zin ui_X1) (.tail _ gw_1_88) (by decide +kernel) (by decide +kernel)) <|
    zall_c (zs_callV X (pc := 51) zc_J4 (fun _ ht => ⟨(zCB ht gw_3_190 gw_1_5 gw_4_178 rfl rfl (by decide +kernel) ⟨Nat.le_of_ble_eq_true rfl, Nat.le_of_ble_eq_true rfl⟩), ht _ (.tail _ gw_3_188), ht _ (.tail _ gw_3_189)⟩) h2 hout (by decide +kernel)) <|
    zall_c (zs_aret X (pc := 54) rfl (Or.inl ⟨_, rfl⟩) (by decide +kernel)) <|
    zall_n
theorem met_X1_textBetween {l : Launch} (hl : l.stackTraces = false) {T0 : Nat → Nat → ZTf} {T1 : Nat → Nat → ZTf} {T2 : ZTf} (h0 : ∀ a b, zMet l yJ4_setLength_d00df (Cond.code yJ4_setLength_d00df cJ4_setLength_d00df 2 (Option.none : Option Jvm.ClassFile.FieldType) :: zG) (rm_J4_setLength_d00df a b) a b (T0 a b)) (h1 : ∀ a b, zMet l yJ4_append_cf468 (Cond.code yJ4_append_cf468 cJ4_append_cf468 2 (Option.some (Jvm.ClassFile.FieldType.object "java/lang/StringBuilder")) :: zG) (rm_J4_append_cf468 a b) a b (T1 a b)) (h2 : zMet l yJ4_toString_0e30d (Cond.code yJ4_toString_0e30d cJ4_toString_0e30d 1 (Option.some (Jvm.ClassFile.FieldType.object "java/lang/String")) :: zG) rm_J4_toString_0e30d 2 10 T2) {T : ZTf} (bd : zBd (cd_X1_textBetween T0 T1 T2) 4 4 30 T) : zMet l yX1_textBetween (Cond.code yX1_textBetween cX1_textBetween 4 (Option.some (Jvm.ClassFile.FieldType.object "java/lang/String")) :: zG) rm_X1_textBetween 4 30 T := zMet_of hl (by decide +kernel) rfl rfl rfl rfl (hs_X1_textBetween hl h0 h1 h2) bd

abbrev rm_X3_readKeyword : Room := { frames := 7, cells := 0, slots := 0, locals := 160 }
def cd_X3_readKeyword (T0 : ZTf) (T1 : ZTf) (T2 : ZTf) : List (Nat × ZTr) := [(0, tAld 0 1), (1, tAld 1 2), (2, tCall0 2 T0 (zRcv 6) 5), (5, tIf_ne 14 8), (8, tAld 0 9), (9, tC (zi 1) 10), (10, tCall0 2 T1 (zRcv 6) 13), (13, tRi zPz), (14, tAld 0 15), (15, tCall0 1 T2 (zRcv 6) 18), (18, tC (zi 1) 19), (19, tRi zPz)]
set_option maxRecDepth 100000 in
set_option maxHeartbeats 4000000 in
theorem hs_X3_readKeyword {l : Launch} (hl : l.stackTraces = false) {T0 : ZTf} {T1 : ZTf} {T2 : ZTf} (h0 : zMet l yX3_isAt (Cond.code yX3_isAt cX3_isAt 2 (Option.some Jvm.ClassFile.FieldType.boolean) :: zG) rm_X3_isAt 0 0 T0) (h1 : zMet l yX3_fail (Cond.code yX3_fail cX3_fail 2 (Option.some Jvm.ClassFile.FieldType.boolean) :: zG) rm_X3_fail 0 0 T1) (h2 : zMet l yX3_nextToken (Cond.code yX3_nextToken cX3_nextToken 1 (Option.none : Option Jvm.ClassFile.FieldType) :: zG) rm_X3_nextToken 0 0 T2) (p : Program) (e : Env) (s : State) (m : MethodId) (args : Array Value) (below : List Frame) (meth : Method) (c : Code) (D : va_G) (A : Nat → Prop) (a0 : Nat → Nat) (M0 : ZM) (K : ZRet) (KX : ZEx) (X : zCtx p l rm_X3_readKeyword s m args meth c cX3_readKeyword RX3 (Cond.code yX3_readKeyword cX3_readKeyword 2 (Option.some Jvm.ClassFile.FieldType.boolean) :: zG) 2 (Option.some Jvm.ClassFile.FieldType.boolean) D A a0 M0 0 0) (hnm : meth.name = yX3_readKeyword.name) (hout : ∀ x ∈ c.exceptionTable.toList, False) : ∀ q ∈ cd_X3_readKeyword T0 T1 T2, zSd p l e rm_X3_readKeyword s m args below meth c 2 D A a0 M0 K KX 0 0 q.1 q.2 :=
    zall_c (zs_aload_n X (pc := 0) (q := 0) rfl (by decide +kernel)) <|
    zall_c (zs_aload_n X (pc := 1) (q := 1) rfl (by decide +kernel)) <|
    zall_c (zs_callV0 X (pc := 2) zc_X3 (fun _ ht => ⟨(zCB ht gw_4_101 gw_1_2 gw_4_98 rfl rfl (by decide +kernel) ⟨Nat.le_of_ble_eq_true rfl, Nat.le_of_ble_eq_true rfl⟩), ht _ (.tail _ gw_4_100), ht _ (.tail _ gp_6)⟩) h0 hout (by decide +kernel)) <|
    zall_c (zs_if_ne X (pc := 5) (off := 9) (by decide +kernel) (by decide)) <|
    zall_c (zs_aload_n X (pc := 8) (q := 0) rfl (by decide +kernel)) <|
    zall_c (zs_iconst X (pc := 9) (by decide) (by decide +kernel)) <|
    zall_c (zs_callV0 X (pc := 10) zc_X3 (fun _ ht => ⟨(zCB ht gw_4_111 gw_1_2 gw_4_108 rfl rfl (by decide +kernel) ⟨Nat.le_of_ble_eq_true rfl, Nat.le_of_ble_eq_true rfl⟩), ht _ (.tail _ gw_4_110), ht _ (.tail _ gp_7)⟩) h1 hout (by decide +kernel)) <|
    zall_c (zs_zret X (pc := 13) rfl zR_bool (by decide +kernel)) <|
    zall_c (zs_aload_n X (pc := 14) (q := 0) rfl (by decide +kernel)) <|
    zall_c (zs_callV0 X (pc := 15) zc_X3 (fun _ ht => ⟨(zCB ht gw_4_76 gw_1_2 gw_4_73 rfl rfl (by decide +kernel) ⟨Nat.le_of_ble_eq_true rfl, Nat.le_of_ble_eq_true rfl⟩), ht _ (.tail _ gw_4_75), ht _ (.tail _ gp_1)⟩) h2 hout (by decide +kernel)) <|
    zall_c (zs_iconst X (pc := 18) (by decide) (by decide +kernel)) <|
    zall_c (zs_zret X (pc := 19) rfl zR_bool (by decide +kernel)) <|
    zall_n
theorem met_X3_readKeyword {l : Launch} (hl : l.stackTraces = false) {T0 : ZTf} {T1 : ZTf} {T2 : ZTf} (h0 : zMet l yX3_isAt (Cond.code yX3_isAt cX3_isAt 2 (Option.some Jvm.ClassFile.FieldType.boolean) :: zG) rm_X3_isAt 0 0 T0) (h1 : zMet l yX3_fail (Cond.code yX3_fail cX3_fail 2 (Option.some Jvm.ClassFile.FieldType.boolean) :: zG) rm_X3_fail 0 0 T1) (h2 : zMet l yX3_nextToken (Cond.code yX3_nextToken cX3_nextToken 1 (Option.none : Option Jvm.ClassFile.FieldType) :: zG) rm_X3_nextToken 0 0 T2) {T : ZTf} (bd : zBd (cd_X3_readKeyword T0 T1 T2) 2 0 0 T) : zMet l yX3_readKeyword (Cond.code yX3_readKeyword cX3_readKeyword 2 (Option.some Jvm.ClassFile.FieldType.boolean) :: zG) rm_X3_readKeyword 0 0 T := zMet_of hl (by decide +kernel) rfl rfl rfl rfl (hs_X3_readKeyword hl h0 h1 h2) bd

abbrev rm_X3_readKnownName : Room := { frames := 8, cells := 0, slots := 0, locals := 184 }
def cd_X3_readKnownName (T0 : ZTf) (T1 : ZTf) (T2 : ZTf) (T3 : ZTf) : List (Nat × ZTr) := [(0, tAld 0 1), (1, tCall0 1 T0 (zRcv 6) 4), (4, tIf_ne 13 7), (7, tAld 0 8), (8, tC (zi 1) 9), (9, tCall0 2 T1 (zRcv 6) 12), (12, tRi zPz), (13, tAld 0 14), (14, tAld 0 15), (15, tGetR 6 3 18), (18, tAld 0 19), (19, tGetR 6 2 22), (22, tAld 0 23), (23, tGetI 6 5 26), (26, tAld 0 27), (27, tGetI 6 6 30), (30, tCall0 4 T2 (zRcv 8) 33), (33, tPutI 6 8 (fun _ => True) 36), (36, tAld 0 37), (37, tGetI 6 8 40), (40, tC (zi (-1)) 41), (41, tIc_ne 50 44), (44, tAld 0 45), (45, tC (zi 3) 46), (46, tCall0 2 T1 (zRcv 6) 49), (49, tRi zPz), (50, tAld 0 51), (51, tCall0 1 T3 (zRcv 6) 54), (54, tC (zi 1) 55), (55, tRi zPz)]
set_option maxRecDepth 100000 in
set_option maxHeartbeats 4000000 in
theorem hs_X3_readKnownName {l : Launch} (hl : l.stackTraces = false) {T0 : ZTf} {T1 : ZTf} {T2 : ZTf} {T3 : ZTf} (h0 : zMet l yX3_isAtName (Cond.code yX3_isAtName cX3_isAtName 5 (Option.some Jvm.ClassFile.FieldType.boolean) :: zG) rm_X3_isAtName 0 0 T0) (h1 : zMet l yX3_fail (Cond.code yX3_fail cX3_fail 2 (Option.some Jvm.ClassFile.FieldType.boolean) :: zG) rm_X3_fail 0 0 T1) (h2 : zMet l yX5_workerNamed (Cond.code yX5_workerNamed cX5_workerNamed 5 (Option.some Jvm.ClassFile.FieldType.int) :: zG) rm_X5_workerNamed 0 0 T2) (h3 : zMet l yX3_nextToken (Cond.code yX3_nextToken cX3_nextToken 1 (Option.none : Option Jvm.ClassFile.FieldType) :: zG) rm_X3_nextToken 0 0 T3) (p : Program) (e : Env) (s : State) (m : MethodId) (args : Array Value) (below : List Frame) (meth : Method) (c : Code) (D : va_G) (A : Nat → Prop) (a0 : Nat → Nat) (M0 : ZM) (K : ZRet) (KX : ZEx) (X : zCtx p l rm_X3_readKnownName s m args meth c cX3_readKnownName RX3 (Cond.code yX3_readKnownName cX3_readKnownName 1 (Option.some Jvm.ClassFile.FieldType.boolean) :: zG) 1 (Option.some Jvm.ClassFile.FieldType.boolean) D A a0 M0 0 0) (hnm : meth.name = yX3_readKnownName.name) (hout : ∀ x ∈ c.exceptionTable.toList, False) : ∀ q ∈ cd_X3_readKnownName T0 T1 T2 T3, zSd p l e rm_X3_readKnownName s m args below meth c 1 D A a0 M0 K KX 0 0 q.1 q.2 :=
    zall_c (zs_aload_n X (pc := 0) (q := 0) rfl (by decide +kernel)) <|
    zall_c (zs_callV0 X (pc := 1) zc_X3 (fun _ ht => ⟨(zCB ht gw_4_143 gw_1_2 gw_4_140 rfl rfl (by decide +kernel) ⟨Nat.le_of_ble_eq_true rfl, Nat.le_of_ble_eq_true rfl⟩), ht _ (.tail _ gw_4_142), ht _ (.tail _ gp_13)⟩) h0 hout (by decide +kernel)) <|
    zall_c (zs_if_ne X (pc := 4) (off := 9) (by decide +kernel) (by decide)) <|
    zall_c (zs_aload_n X (pc := 7) (q := 0) rfl (by decide +kernel)) <|
    zall_c (zs_iconst X (pc := 8) (by decide) (by decide +kernel)) <|
    zall_c (zs_callV0 X (pc := 9) zc_X3 (fun _ ht => ⟨(zCB ht gw_4_111 gw_1_2 gw_4_108 rfl rfl (by decide +kernel) ⟨Nat.le_of_ble_eq_true rfl, Nat.le_of_ble_eq_true rfl⟩), ht _ (.tail _ gw_4_110), ht _ (.tail _ gp_7)⟩) h1 hout (by decide +kernel)) <|
    zall_c (zs_zret X (pc := 12) rfl zR_bool (by decide +kernel)) <|
    zall_c (zs_aload_n X (pc := 13) (q := 0) rfl (by decide +kernel)) <|
    zall_c (zs_aload_n X (pc := 14) (q := 0) rfl (by decide +kernel)) <|
    zall_c (zs_getr X (pc := 15) zc_X3 (by decide) (zin ui_X3) (.tail _ gw_2_29) (by decide +kernel) (by decide +kernel)) <|
    zall_c (zs_aload_n X (pc := 18) (q := 0) rfl (by decide +kernel)) <|
    zall_c (zs_getr X (pc := 19) zc_X3 (by decide) (zin ui_X3) (.tail _ gw_2_27) (by decide +kernel) (by decide +kernel)) <|
    zall_c (zs_aload_n X (pc := 22) (q := 0) rfl (by decide +kernel)) <|
    zall_c (zs_geti X (pc := 23) zc_X3 (by decide) (zin ui_X3) (.tail _ gw_2_32) (by decide +kernel) (by decide +kernel)) <|
    zall_c (zs_aload_n X (pc := 26) (q := 0) rfl (by decide +kernel)) <|
    zall_c (zs_geti X (pc := 27) zc_X3 (by decide) (zin ui_X3) (.tail _ gw_2_33) (by decide +kernel) (by decide +kernel)) <|
    zall_c (zs_callV0 X (pc := 30) zc_X5 (fun _ ht => ⟨(zCB ht gw_4_149 gw_1_8 gw_4_146 rfl rfl (by decide +kernel) ⟨Nat.le_of_ble_eq_true rfl, Nat.le_of_ble_eq_true rfl⟩), ht _ (.tail _ gw_4_147), ht _ (.tail _ gw_4_148)⟩) h2 hout (by decide +kernel)) <|
    zall_c (zs_puti X (pc := 33) (ty := Jvm.ClassFile.FieldType.int) zc_X3 (by decide) (zin ui_X3) tyX3_ok nmX3 (.tail _ gw_2_35) rfl (by decide +kernel) (by decide +kernel) (by decide +kernel) zP_int) <|
    zall_c (zs_aload_n X (pc := 36) (q := 0) rfl (by decide +kernel)) <|
    zall_c (zs_geti X (pc := 37) zc_X3 (by decide) (zin ui_X3) (.tail _ gw_2_35) (by decide +kernel) (by decide +kernel)) <|
    zall_c (zs_iconst X (pc := 40) (by decide) (by decide +kernel)) <|
    zall_c (zs_icmp_ne X (pc := 41) (off := 9) (by decide +kernel) (by decide)) <|
    zall_c (zs_aload_n X (pc := 44) (q := 0) rfl (by decide +kernel)) <|
    zall_c (zs_iconst X (pc := 45) (by decide) (by decide +kernel)) <|
    zall_c (zs_callV0 X (pc := 46) zc_X3 (fun _ ht => ⟨(zCB ht gw_4_111 gw_1_2 gw_4_108 rfl rfl (by decide +kernel) ⟨Nat.le_of_ble_eq_true rfl, Nat.le_of_ble_eq_true rfl⟩), ht _ (.tail _ gw_4_110), ht _ (.tail _ gp_7)⟩) h1 hout (by decide +kernel)) <|
    zall_c (zs_zret X (pc := 49) rfl zR_bool (by decide +kernel)) <|
    zall_c (zs_aload_n X (pc := 50) (q := 0) rfl (by decide +kernel)) <|
    zall_c (zs_callV0 X (pc := 51) zc_X3 (fun _ ht => ⟨(zCB ht gw_4_76 gw_1_2 gw_4_73 rfl rfl (by decide +kernel) ⟨Nat.le_of_ble_eq_true rfl, Nat.le_of_ble_eq_true rfl⟩), ht _ (.tail _ gw_4_75), ht _ (.tail _ gp_1)⟩) h3 hout (by decide +kernel)) <|
    zall_c (zs_iconst X (pc := 54) (by decide) (by decide +kernel)) <|
    zall_c (zs_zret X (pc := 55) rfl zR_bool (by decide +kernel)) <|
    zall_n
theorem met_X3_readKnownName {l : Launch} (hl : l.stackTraces = false) {T0 : ZTf} {T1 : ZTf} {T2 : ZTf} {T3 : ZTf} (h0 : zMet l yX3_isAtName (Cond.code yX3_isAtName cX3_isAtName 5 (Option.some Jvm.ClassFile.FieldType.boolean) :: zG) rm_X3_isAtName 0 0 T0) (h1 : zMet l yX3_fail (Cond.code yX3_fail cX3_fail 2 (Option.some Jvm.ClassFile.FieldType.boolean) :: zG) rm_X3_fail 0 0 T1) (h2 : zMet l yX5_workerNamed (Cond.code yX5_workerNamed cX5_workerNamed 5 (Option.some Jvm.ClassFile.FieldType.int) :: zG) rm_X5_workerNamed 0 0 T2) (h3 : zMet l yX3_nextToken (Cond.code yX3_nextToken cX3_nextToken 1 (Option.none : Option Jvm.ClassFile.FieldType) :: zG) rm_X3_nextToken 0 0 T3) {T : ZTf} (bd : zBd (cd_X3_readKnownName T0 T1 T2 T3) 1 0 0 T) : zMet l yX3_readKnownName (Cond.code yX3_readKnownName cX3_readKnownName 1 (Option.some Jvm.ClassFile.FieldType.boolean) :: zG) rm_X3_readKnownName 0 0 T := zMet_of hl (by decide +kernel) rfl rfl rfl rfl (hs_X3_readKnownName hl h0 h1 h2 h3) bd

abbrev rm_X5_letPass : Room := { frames := 5, cells := 0, slots := 0, locals := 119 }
def cd_X5_letPass (T0 : ZTf) : List (Nat × ZTr) := [(0, tAld 0 1), (1, tDup 2), (2, tGetI 8 3 5), (5, tIld 1 6), (6, tAdd 7), (7, tPutI 8 3 (fun _ => True) 10), (10, tC (zi 0) 11), (11, tIst 2 12), (12, tC (zi 0) 13), (13, tIst 3 14), (14, tIld 3 15), (15, tAld 0 16), (16, tGetI 8 5 19), (19, tIc_ge 42 22), (22, tIld 2 23), (23, tAld 0 24), (24, tAld 0 25), (25, tGetR 8 7 28), (28, tIld 3 29), (29, tAal 31 30), (30, tC (zi 1) 31), (31, tCall0 3 T0 (zRcv 8) 34), (34, tAdd 35), (35, tIst 2 36), (36, tInc 3 1 39), (39, tGo 14), (42, tIld 2 43), (43, tRi (fun _ => True))]
set_option maxRecDepth 100000 in
set_option maxHeartbeats 4000000 in
theorem hs_X5_letPass {l : Launch} (hl : l.stackTraces = false) {T0 : ZTf} (h0 : zMet l yX5_dropWork (Cond.code yX5_dropWork cX5_dropWork 6 (Option.some Jvm.ClassFile.FieldType.int) :: zG) rm_X5_dropWork 0 0 T0) (p : Program) (e : Env) (s : State) (m : MethodId) (args : Array Value) (below : List Frame) (meth : Method) (c : Code) (D : va_G) (A : Nat → Prop) (a0 : Nat → Nat) (M0 : ZM) (K : ZRet) (KX : ZEx) (X : zCtx p l rm_X5_letPass s m args meth c cX5_letPass RX5 (Cond.code yX5_letPass cX5_letPass 4 (Option.some Jvm.ClassFile.FieldType.int) :: zG) 4 (Option.some Jvm.ClassFile.FieldType.int) D A a0 M0 0 0) (hnm : meth.name = yX5_letPass.name) (hout : ∀ x ∈ c.exceptionTable.toList, False) : ∀ q ∈ cd_X5_letPass T0, zSd p l e rm_X5_letPass s m args below meth c 4 D A a0 M0 K KX 0 0 q.1 q.2 :=
    zall_c (zs_aload_n X (pc := 0) (q := 0) rfl (by decide +kernel)) <|
    zall_c (zs_dup X (pc := 1) (by decide +kernel)) <|
    zall_c (zs_geti X (pc := 2) zc_X5 (by decide) (zin ui_X5) (.tail _ gw_1_227) (by decide +kernel) (by decide +kernel)) <|
    zall_c (zs_iload_n X (pc := 5) (q := 1) rfl (by decide +kernel)) <|
    zall_c (zs_iadd X (pc := 6) (by decide +kernel)) <|
    zall_c (zs_puti X (pc := 7) (ty := Jvm.ClassFile.FieldType.int) zc_X5 (by decide) (zin ui_X5) tyX5_ok nmX5 (.tail _ gw_1_227) rfl (by decide +kernel) (by decide +kernel) (by decide +kernel) zP_int) <|
    zall_c (zs_iconst X (pc := 10) (by decide) (by decide +kernel)) <|
    zall_c (zs_istore_n X (pc := 11) (q := 2) rfl (by decide) (by decide +kernel)) <|
    zall_c (zs_iconst X (pc := 12) (by decide) (by decide +kernel)) <|
    zall_c (zs_istore_n X (pc := 13) (q := 3) rfl (by decide) (by decide +kernel)) <|
    zall_c (zs_iload_n X (pc := 14) (q := 3) rfl (by decide +kernel)) <|
    zall_c (zs_aload_n X (pc := 15) (q := 0) rfl (by decide +kernel)) <|
    zall_c (zs_geti X (pc := 16) zc_X5 (by decide) (zin ui_X5) (.tail _ gw_1_232) (by decide +kernel) (by decide +kernel)) <|
    zall_c (zs_icmp_ge X (pc := 19) (off := 23) (by decide +kernel) (by decide)) <|
    zall_c (zs_iload_n X (pc := 22) (q := 2) rfl (by decide +kernel)) <|
    zall_c (zs_aload_n X (pc := 23) (q := 0) rfl (by decide +kernel)) <|
    zall_c (zs_aload_n X (pc := 24) (q := 0) rfl (by decide +kernel)) <|
    zall_c (zs_getr X (pc := 25) zc_X5 (by decide) (zin ui_X5) (.tail _ gw_1_237) (by decide +kernel) (by decide +kernel)) <|
    zall_c (zs_iload_n X (pc := 28) (q := 3) rfl (by decide +kernel)) <|
    zall_c (zs_aaload X (pc := 29) (by decide) rfl (by decide +kernel)) <|
    zall_c (zs_iconst X (pc := 30) (by decide) (by decide +kernel)) <|
    zall_c (zs_callV0 X (pc := 31) zc_X5 (fun _ ht => ⟨(zCB ht gw_6_0 gw_1_8 gw_5_237 rfl rfl (by decide +kernel) ⟨Nat.le_of_ble_eq_true rfl, Nat.le_of_ble_eq_true rfl⟩), ht _ (.tail _ gw_5_238), ht _ (.tail _ gw_5_239)⟩) h0 hout (by decide +kernel)) <|
    zall_c (zs_iadd X (pc := 34) (by decide +kernel)) <|
    zall_c (zs_istore_n X (pc := 35) (q := 2) rfl (by decide) (by decide +kernel)) <|
    zall_c (zs_iinc X (pc := 36) (by decide) (by decide +kernel)) <|
    zall_c (zs_goto X (pc := 39) (off := (-25)) (by decide +kernel) (by decide)) <|
    zall_c (zs_iload_n X (pc := 42) (q := 2) rfl (by decide +kernel)) <|
    zall_c (zs_iret X (pc := 43) rfl (by decide +kernel)) <|
    zall_n
theorem met_X5_letPass {l : Launch} (hl : l.stackTraces = false) {T0 : ZTf} (h0 : zMet l yX5_dropWork (Cond.code yX5_dropWork cX5_dropWork 6 (Option.some Jvm.ClassFile.FieldType.int) :: zG) rm_X5_dropWork 0 0 T0) {T : ZTf} (bd : zBd (cd_X5_letPass T0) 4 0 0 T) : zMet l yX5_letPass (Cond.code yX5_letPass cX5_letPass 4 (Option.some Jvm.ClassFile.FieldType.int) :: zG) rm_X5_letPass 0 0 T := zMet_of hl (by decide +kernel) rfl rfl rfl rfl (hs_X5_letPass hl h0) bd

abbrev rm_X8_pass : Room := { frames := 7, cells := 1, slots := 6, locals := 142 }
def cd_X8_pass (T0 : ZTf) (T1 : ZTf) (T2 : ZTf) : List (Nat × ZTr) := [(0, tIld 1 1), (1, tC (zi 1) 2), (2, tC (zi 99) 4), (4, tCall 3 1 6 T0 zAny 7), (7, tAld 0 8), (8, tGetR 11 3 11), (11, tAld 0 12), (12, tGetR 11 2 15), (15, tCall0 2 T1 (zRcv 4) 18), (18, tAld 0 19), (19, tGetR 11 2 22), (22, tIld 1 23), (23, tCall0 2 T2 (zRcv 8) 26), (26, tRi (fun _ => True))]
set_option maxRecDepth 100000 in
set_option maxHeartbeats 4000000 in
theorem hs_X8_pass {l : Launch} (hl : l.stackTraces = false) {T0 : ZTf} {T1 : ZTf} {T2 : ZTf} (h0 : zMet l yX8_requireRange (Cond.code yX8_requireRange cX8_requireRange 3 (Option.none : Option Jvm.ClassFile.FieldType) :: zG) rm_X8_requireRange 1 6 T0) (h1 : zMet l yX0_remember (Cond.code yX0_remember cX0_remember 2 (Option.none : Option Jvm.ClassFile.FieldType) :: zG) rm_X0_remember 0 0 T1) (h2 : zMet l yX5_letPass (Cond.code yX5_letPass cX5_letPass 4 (Option.some Jvm.ClassFile.FieldType.int) :: zG) rm_X5_letPass 0 0 T2) (p : Program) (e : Env) (s : State) (m : MethodId) (args : Array Value) (below : List Frame) (meth : Method) (c : Code) (D : va_G) (A : Nat → Prop) (a0 : Nat → Nat) (M0 : ZM) (K : ZRet) (KX : ZEx) (X : zCtx p l rm_X8_pass s m args meth c cX8_pass RX8 (Cond.code yX8_pass cX8_pass 2 (Option.some Jvm.ClassFile.FieldType.int) :: zG) 2 (Option.some Jvm.ClassFile.FieldType.int) D A a0 M0 1 6) (hnm : meth.name = yX8_pass.name) (hout : ∀ x ∈ c.exceptionTable.toList, False) : ∀ q ∈ cd_X8_pass T0 T1 T2, zSd p l e rm_X8_pass s m args below meth c 2 D A a0 M0 K KX 1 6 q.1 q.2 :=
    zall_c (zs_iload_n X (pc := 0) (q := 1) rfl (by decide +kernel)) <|
    zall_c (zs_iconst X (pc := 1) (by decide) (by decide +kernel)) <|
    zall_c (zs_bipush X (pc := 2) (by decide) (by decide +kernel) (by decide +kernel)) <|
    zall_c (zs_callS X (pc := 4) (fun _ ht => ⟨(zCB ht gw_2_151 gw_1_1 gw_2_149 rfl rfl (by decide +kernel) ⟨Nat.le_of_ble_eq_true rfl, Nat.le_of_ble_eq_true rfl⟩), ht _ (.tail _ gw_2_150)⟩) h0 hout (by decide +kernel)) <|
    zall_c (zs_aload_n X (pc := 7) (q := 0) rfl (by decide +kernel)) <|
    zall_c (zs_getr X (pc := 8) zc_X8 (by decide) (zin ui_X8) (.tail _ gw_2_117) (by decide +kernel) (by decide +kernel)) <|
    zall_c (zs_aload_n X (pc := 11) (q := 0) rfl (by decide +kernel)) <|
    zall_c (zs_getr X (pc := 12) zc_X8 (by decide) (zin ui_X8) (.tail _ gw_2_116) (by decide +kernel) (by decide +kernel)) <|
    zall_c (zs_callV0 X (pc := 15) zc_X0 (fun _ ht => ⟨(zCB ht gw_4_237 gw_1_11 gw_4_234 rfl rfl (by decide +kernel) ⟨Nat.le_of_ble_eq_true rfl, Nat.le_of_ble_eq_true rfl⟩), ht _ (.tail _ gw_4_235), ht _ (.tail _ gw_4_236)⟩) h1 hout (by decide +kernel)) <|
    zall_c (zs_aload_n X (pc := 18) (q := 0) rfl (by decide +kernel)) <|
    zall_c (zs_getr X (pc := 19) zc_X8 (by decide) (zin ui_X8) (.tail _ gw_2_116) (by decide +kernel) (by decide +kernel)) <|
    zall_c (zs_iload_n X (pc := 22) (q := 1) rfl (by decide +kernel)) <|
    zall_c (zs_callV0 X (pc := 23) zc_X5 (fun _ ht => ⟨(zCB ht gw_5_236 gw_1_8 gw_5_233 rfl rfl (by decide +kernel) ⟨Nat.le_of_ble_eq_true rfl, Nat.le_of_ble_eq_true rfl⟩), ht _ (.tail _ gw_5_234), ht _ (.tail _ gw_5_235)⟩) h2 hout (by decide +kernel)) <|
    zall_c (zs_iret X (pc := 26) rfl (by decide +kernel)) <|
    zall_n
theorem met_X8_pass {l : Launch} (hl : l.stackTraces = false) {T0 : ZTf} {T1 : ZTf} {T2 : ZTf} (h0 : zMet l yX8_requireRange (Cond.code yX8_requireRange cX8_requireRange 3 (Option.none : Option Jvm.ClassFile.FieldType) :: zG) rm_X8_requireRange 1 6 T0) (h1 : zMet l yX0_remember (Cond.code yX0_remember cX0_remember 2 (Option.none : Option Jvm.ClassFile.FieldType) :: zG) rm_X0_remember 0 0 T1) (h2 : zMet l yX5_letPass (Cond.code yX5_letPass cX5_letPass 4 (Option.some Jvm.ClassFile.FieldType.int) :: zG) rm_X5_letPass 0 0 T2) {T : ZTf} (bd : zBd (cd_X8_pass T0 T1 T2) 2 1 6 T) : zMet l yX8_pass (Cond.code yX8_pass cX8_pass 2 (Option.some Jvm.ClassFile.FieldType.int) :: zG) rm_X8_pass 1 6 T := zMet_of hl (by decide +kernel) rfl rfl rfl rfl (hs_X8_pass hl h0 h1 h2) bd

abbrev rm_X3_readTableStatement : Room := { frames := 8, cells := 0, slots := 0, locals := 181 }
def cd_X3_readTableStatement (T0 : ZTf) (T1 : ZTf) (T2 : ZTf) : List (Nat × ZTr) := [(0, tAld 0 1), (1, tC (zo 1) 4), (4, tCall0 2 T0 (zRcv 6) 7), (7, tIf_eq 30 10), (10, tAld 0 11), (11, tC (zo 2) 14), (14, tCall0 2 T0 (zRcv 6) 17), (17, tIf_eq 30 20), (20, tAld 0 21), (21, tC (zi 0) 22), (22, tC (zi 20) 24), (24, tCall0 3 T1 (zRcv 6) 27), (27, tIf_ne 32 30), (30, tC (zi 0) 31), (31, tRi zPz), (32, tAld 0 33), (33, tGetR 6 3 36), (36, tAld 0 37), (37, tGetI 6 8 40), (40, tPutI 8 0 (fun _ => True) 43), (43, tAld 0 44), (44, tC (zo 3) 47), (47, tCall0 2 T0 (zRcv 6) 50), (50, tIf_eq 63 53), (53, tAld 0 54), (54, tC (zi 1) 55), (55, tC (zi 50) 57), (57, tCall0 3 T1 (zRcv 6) 60), (60, tIf_ne 65 63), (63, tC (zi 0) 64), (64, tRi zPz), (65, tAld 0 66), (66, tGetR 6 3 69), (69, tAld 0 70), (70, tGetI 6 8 73), (73, tPutI 8 1 (fun _ => True) 76), (76, tAld 0 77), (77, tC (zo 4) 80), (80, tCall0 2 T0 (zRcv 6) 83), (83, tIf_eq 96 86), (86, tAld 0 87), (87, tC (zi 0) 88), (88, tC (zi 19) 90), (90, tCall0 3 T1 (zRcv 6) 93), (93, tIf_ne 98 96), (96, tC (zi 0) 97), (97, tRi zPz), (98, tAld 0 99), (99, tGetR 6 3 102), (102, tAld 0 103), (103, tGetI 6 8 106), (106, tPutI 8 2 (fun _ => True) 109), (109, tAld 0 110), (110, tCall0 1 T2 (zRcv 6) 113), (113, tRi zPz)]
set_option maxRecDepth 100000 in
set_option maxHeartbeats 4000000 in
theorem hs_X3_readTableStatement {l : Launch} (hl : l.stackTraces = false) {T0 : ZTf} {T1 : ZTf} {T2 : ZTf} (h0 : zMet l yX3_readKeyword (Cond.code yX3_readKeyword cX3_readKeyword 2 (Option.some Jvm.ClassFile.FieldType.boolean) :: zG) rm_X3_readKeyword 0 0 T0) (h1 : zMet l yX3_readNumber (Cond.code yX3_readNumber cX3_readNumber 3 (Option.some Jvm.ClassFile.FieldType.boolean) :: zG) rm_X3_readNumber 0 0 T1) (h2 : zMet l yX3_readSemicolon (Cond.code yX3_readSemicolon cX3_readSemicolon 1 (Option.some Jvm.ClassFile.FieldType.boolean) :: zG) rm_X3_readSemicolon 0 0 T2) (p : Program) (e : Env) (s : State) (m : MethodId) (args : Array Value) (below : List Frame) (meth : Method) (c : Code) (D : va_G) (A : Nat → Prop) (a0 : Nat → Nat) (M0 : ZM) (K : ZRet) (KX : ZEx) (X : zCtx p l rm_X3_readTableStatement s m args meth c cX3_readTableStatement RX3 (Cond.code yX3_readTableStatement cX3_readTableStatement 1 (Option.some Jvm.ClassFile.FieldType.boolean) :: zG) 1 (Option.some Jvm.ClassFile.FieldType.boolean) D A a0 M0 0 0) (hnm : meth.name = yX3_readTableStatement.name) (hout : ∀ x ∈ c.exceptionTable.toList, False) : ∀ q ∈ cd_X3_readTableStatement T0 T1 T2, zSd p l e rm_X3_readTableStatement s m args below meth c 1 D A a0 M0 K KX 0 0 q.1 q.2 :=
    zall_c (zs_aload_n X (pc := 0) (q := 0) rfl (by decide +kernel)) <|
    zall_c (zs_gets X (pc := 1) (C := "ReviewTable$Keyword") (n1 := "TABLE") (d1 := "LReviewTable$Keyword;") (List.mem_of_getElem? (i := 0) rfl) (.tail _ gw_4_92) (by decide +kernel)) <|
    zall_c (zs_callV0 X (pc := 4) zc_X3 (fun _ ht => ⟨(zCB ht gw_4_97 gw_1_2 gw_4_94 rfl rfl (by decide +kernel) ⟨Nat.le_of_ble_eq_true rfl, Nat.le_of_ble_eq_true rfl⟩), ht _ (.tail _ gw_4_96), ht _ (.tail _ gp_5)⟩) h0 hout (by decide +kernel)) <|
    zall_c (zs_if_eq X (pc := 7) (off := 23) (by decide +kernel) (by decide)) <|
    zall_c (zs_aload_n X (pc := 10) (q := 0) rfl (by decide +kernel)) <|
    zall_c (zs_gets X (pc := 11) (C := "ReviewTable$Keyword") (n1 := "TOLERANCE") (d1 := "LReviewTable$Keyword;") (List.mem_of_getElem? (i := 1) rfl) (.tail _ gw_4_112) (by decide +kernel)) <|
    zall_c (zs_callV0 X (pc := 14) zc_X3 (fun _ ht => ⟨(zCB ht gw_4_97 gw_1_2 gw_4_94 rfl rfl (by decide +kernel) ⟨Nat.le_of_ble_eq_true rfl, Nat.le_of_ble_eq_true rfl⟩), ht _ (.tail _ gw_4_96), ht _ (.tail _ gp_5)⟩) h0 hout (by decide +kernel)) <|
    zall_c (zs_if_eq X (pc := 17) (off := 13) (by decide +kernel) (by decide)) <|
    zall_c (zs_aload_n X (pc := 20) (q := 0) rfl (by decide +kernel)) <|
    zall_c (zs_iconst X (pc := 21) (by decide) (by decide +kernel)) <|
    zall_c (zs_bipush X (pc := 22) (by decide) (by decide +kernel) (by decide +kernel)) <|
    zall_c (zs_callV0 X (pc := 24) zc_X3 (fun _ ht => ⟨(zCB ht gw_4_117 gw_1_2 gw_4_114 rfl rfl (by decide +kernel) ⟨Nat.le_of_ble_eq_true rfl, Nat.le_of_ble_eq_true rfl⟩), ht _ (.tail _ gw_4_116), ht _ (.tail _ gp_8)⟩) h1 hout (by decide +kernel)) <|
    zall_c (zs_if_ne X (pc := 27) (off := 5) (by decide +kernel) (by decide)) <|
    zall_c (zs_iconst X (pc := 30) (by decide) (by decide +kernel)) <|
    zall_c (zs_zret X (pc := 31) rfl zR_bool (by decide +kernel)) <|
    zall_c (zs_aload_n X (pc := 32) (q := 0) rfl (by decide +kernel)) <|
    zall_c (zs_getr X (pc := 33) zc_X3 (by decide) (zin ui_X3) (.tail _ gw_2_29) (by decide +kernel) (by decide +kernel)) <|
    zall_c (zs_aload_n X (pc := 36) (q := 0) rfl (by decide +kernel)) <|
    zall_c (zs_geti X (pc := 37) zc_X3 (by decide) (zin ui_X3) (.tail _ gw_2_35) (by decide +kernel) (by decide +kernel)) <|
    zall_c (zs_puti X (pc := 40) (ty := Jvm.ClassFile.FieldType.int) zc_X5 (by decide) (zin ui_X5) tyX5_ok nmX5 (.tail _ gw_1_219) rfl (by decide +kernel) (by decide +kernel) (by decide +kernel) zP_int) <|
    zall_c (zs_aload_n X (pc := 43) (q := 0) rfl (by decide +kernel)) <|
    zall_c (zs_gets X (pc := 44) (C := "ReviewTable$Keyword") (n1 := "PATIENCE") (d1 := "LReviewTable$Keyword;") (List.mem_of_getElem? (i := 2) rfl) (.tail _ gw_4_122) (by decide +kernel)) <|
    zall_c (zs_callV0 X (pc := 47) zc_X3 (fun _ ht => ⟨(zCB ht gw_4_97 gw_1_2 gw_4_94 rfl rfl (by decide +kernel) ⟨Nat.le_of_ble_eq_true rfl, Nat.le_of_ble_eq_true rfl⟩), ht _ (.tail _ gw_4_96), ht _ (.tail _ gp_5)⟩) h0 hout (by decide +kernel)) <|
    zall_c (zs_if_eq X (pc := 50) (off := 13) (by decide +kernel) (by decide)) <|
    zall_c (zs_aload_n X (pc := 53) (q := 0) rfl (by decide +kernel)) <|
    zall_c (zs_iconst X (pc := 54) (by decide) (by decide +kernel)) <|
    zall_c (zs_bipush X (pc := 55) (by decide) (by decide +kernel) (by decide +kernel)) <|
    zall_c (zs_callV0 X (pc := 57) zc_X3 (fun _ ht => ⟨(zCB ht gw_4_117 gw_1_2 gw_4_114 rfl rfl (by decide +kernel) ⟨Nat.le_of_ble_eq_true rfl, Nat.le_of_ble_eq_true rfl⟩), ht _ (.tail _ gw_4_116), ht _ (.tail _ gp_8)⟩) h1 hout (by decide +kernel)) <|
    zall_c (zs_if_ne X (pc := 60) (off := 5) (by decide +kernel) (by decide)) <|
    zall_c (zs_iconst X (pc := 63) (by decide) (by decide +kernel)) <|
    zall_c (zs_zret X (pc := 64) rfl zR_bool (by decide +kernel)) <|
    zall_c (zs_aload_n X (pc := 65) (q := 0) rfl (by decide +kernel)) <|
    zall_c (zs_getr X (pc := 66) zc_X3 (by decide) (zin ui_X3) (.tail _ gw_2_29) (by decide +kernel) (by decide +kernel)) <|
    zall_c (zs_aload_n X (pc := 69) (q := 0) rfl (by decide +kernel)) <|
    zall_c (zs_geti X (pc := 70) zc_X3 (by decide) (zin ui_X3) (.tail _ gw_2_35) (by decide +kernel) (by decide +kernel)) <|
    zall_c (zs_puti X (pc := 73) (ty := Jvm.ClassFile.FieldType.int) zc_X5 (by decide) (zin ui_X5) tyX5_ok nmX5 (.tail _ gw_1_222) rfl (by decide +kernel) (by decide +kernel) (by decide +kernel) zP_int) <|
    zall_c (zs_aload_n X (pc := 76) (q := 0) rfl (by decide +kernel)) <|
    zall_c (zs_gets X (pc := 77) (C := "ReviewTable$Keyword") (n1 := "LEAST") (d1 := "LReviewTable$Keyword;") (List.mem_of_getElem? (i := 3) rfl) (.tail _ gw_4_124) (by decide +kernel)) <|
    zall_c (zs_callV0 X (pc := 80) zc_X3 (fun _ ht => ⟨(zCB ht gw_4_97 gw_1_2 gw_4_94 rfl rfl (by decide +kernel) ⟨Nat.le_of_ble_eq_true rfl, Nat.le_of_ble_eq_true rfl⟩), ht _ (.tail _ gw_4_96), ht _ (.tail _ gp_5)⟩) h0 hout (by decide +kernel)) <|
    zall_c (zs_if_eq X (pc := 83) (off := 13) (by decide +kernel) (by decide)) <|
    zall_c (zs_aload_n X (pc := 86) (q := 0) rfl (by decide +kernel)) <|
    zall_c (zs_iconst X (pc := 87) (by decide) (by decide +kernel)) <|
    zall_c (zs_bipush X (pc := 88) (by decide) (by decide +kernel) (by decide +kernel)) <|
    zall_c (zs_callV0 X (pc := 90) zc_X3 (fun _ ht => ⟨(zCB ht gw_4_117 gw_1_2 gw_4_114 rfl rfl (by decide +kernel) ⟨Nat.le_of_ble_eq_true rfl, Nat.le_of_ble_eq_true rfl⟩), ht _ (.tail _ gw_4_116), ht _ (.tail _ gp_8)⟩) h1 hout (by decide +kernel)) <|
    zall_c (zs_if_ne X (pc := 93) (off := 5) (by decide +kernel) (by decide)) <|
    zall_c (zs_iconst X (pc := 96) (by decide) (by decide +kernel)) <|
    zall_c (zs_zret X (pc := 97) rfl zR_bool (by decide +kernel)) <|
    zall_c (zs_aload_n X (pc := 98) (q := 0) rfl (by decide +kernel)) <|
    zall_c (zs_getr X (pc := 99) zc_X3 (by decide) (zin ui_X3) (.tail _ gw_2_29) (by decide +kernel) (by decide +kernel)) <|
    zall_c (zs_aload_n X (pc := 102) (q := 0) rfl (by decide +kernel)) <|
    zall_c (zs_geti X (pc := 103) zc_X3 (by decide) (zin ui_X3) (.tail _ gw_2_35) (by decide +kernel) (by decide +kernel)) <|
    zall_c (zs_puti X (pc := 106) (ty := Jvm.ClassFile.FieldType.int) zc_X5 (by decide) (zin ui_X5) tyX5_ok nmX5 (.tail _ gw_1_225) rfl (by decide +kernel) (by decide +kernel) (by decide +kernel) zP_int) <|
    zall_c (zs_aload_n X (pc := 109) (q := 0) rfl (by decide +kernel)) <|
    zall_c (zs_callV0 X (pc := 110) zc_X3 (fun _ ht => ⟨(zCB ht gw_4_129 gw_1_2 gw_4_126 rfl rfl (by decide +kernel) ⟨Nat.le_of_ble_eq_true rfl, Nat.le_of_ble_eq_true rfl⟩), ht _ (.tail _ gw_4_128), ht _ (.tail _ gp_10)⟩) h2 hout (by decide +kernel)) <|
    zall_c (zs_zret X (pc := 113) rfl zR_bool (by decide +kernel)) <|
    zall_n
theorem met_X3_readTableStatement {l : Launch} (hl : l.stackTraces = false) {T0 : ZTf} {T1 : ZTf} {T2 : ZTf} (h0 : zMet l yX3_readKeyword (Cond.code yX3_readKeyword cX3_readKeyword 2 (Option.some Jvm.ClassFile.FieldType.boolean) :: zG) rm_X3_readKeyword 0 0 T0) (h1 : zMet l yX3_readNumber (Cond.code yX3_readNumber cX3_readNumber 3 (Option.some Jvm.ClassFile.FieldType.boolean) :: zG) rm_X3_readNumber 0 0 T1) (h2 : zMet l yX3_readSemicolon (Cond.code yX3_readSemicolon cX3_readSemicolon 1 (Option.some Jvm.ClassFile.FieldType.boolean) :: zG) rm_X3_readSemicolon 0 0 T2) {T : ZTf} (bd : zBd (cd_X3_readTableStatement T0 T1 T2) 1 0 0 T) : zMet l yX3_readTableStatement (Cond.code yX3_readTableStatement cX3_readTableStatement 1 (Option.some Jvm.ClassFile.FieldType.boolean) :: zG) rm_X3_readTableStatement 0 0 T := zMet_of hl (by decide +kernel) rfl rfl rfl rfl (hs_X3_readTableStatement hl h0 h1 h2) bd

abbrev rm_X3_readWorkerStatement : Room := { frames := 8, cells := 4, slots := 30, locals := 194 }
def cd_X3_readWorkerStatement (T0 : ZTf) (T1 : ZTf) (T2 : ZTf) (T3 : ZTf) (T4 : ZTf) (T5 : ZTf) (T6 : ZTf) (T7 : ZTf) (T8 : ZTf) (T9 : ZTf) : List (Nat × ZTr) := [(0, tAld 0 1), (1, tGetR 6 3 4), (4, tGetI 8 4 7), (7, tC (zi 6) 9), (9, tIc_lt 18 12), (12, tAld 0 13), (13, tC (zi 4) 14), (14, tCall0 2 T0 (zRcv 6) 17), (17, tRi zPz), (18, tAld 0 19), (19, tCall0 1 T1 (zRcv 6) 22), (22, tAld 0 23), (23, tCall0 1 T2 (zRcv 6) 26), (26, tIf_ne 35 29), (29, tAld 0 30), (30, tC (zi 1) 31), (31, tCall0 2 T0 (zRcv 6) 34), (34, tRi zPz), (35, tAld 0 36), (36, tGetR 6 3 39), (39, tAld 0 40), (40, tGetR 6 2 43), (43, tAld 0 44), (44, tGetI 6 5 47), (47, tAld 0 48), (48, tGetI 6 6 51), (51, tCall0 4 T3 (zRcv 8) 54), (54, tC (zi (-1)) 55), (55, tIc_eq 64 58), (58, tAld 0 59), (59, tC (zi 3) 60), (60, tCall0 2 T0 (zRcv 6) 63), (63, tRi zPz), (64, tAld 0 65), (65, tGetR 6 2 68), (68, tAld 0 69), (69, tGetI 6 5 72), (72, tAld 0 73), (73, tGetI 6 6 76), (76, tCall 3 4 30 T4 (zRcv 5) 79), (79, tAst 1 80), (80, tAld 0 81), (81, tCall0 1 T1 (zRcv 6) 84), (84, tAld 0 85), (85, tC (zo 6) 88), (88, tCall0 2 T5 (zRcv 6) 91), (91, tIf_eq 103 94), (94, tAld 0 95), (95, tC (zi 0) 96), (96, tC (zi 5) 97), (97, tCall0 3 T6 (zRcv 6) 100), (100, tIf_ne 105 103), (103, tC (zi 0) 104), (104, tRi zPz), (105, tAld 0 106), (106, tGetI 6 8 109), (109, tIst 2 110), (110, tAld 0 111), (111, tC (zo 7) 114), (114, tCall0 2 T5 (zRcv 6) 117), (117, tIf_eq 129 120), (120, tAld 0 121), (121, tC (zi 1) 122), (122, tC (zi 5) 123), (123, tCall0 3 T6 (zRcv 6) 126), (126, tIf_ne 131 129), (129, tC (zi 0) 130), (130, tRi zPz), (131, tAld 0 132), (132, tGetI 6 8 135), (135, tIst 3 136), (136, tC (zi 10) 138), (138, tIst 4 140), (140, tAld 0 141), (141, tC (zo 8) 144), (144, tCall0 2 T7 (zRcv 6) 147), (147, tIf_eq 172 150), (150, tAld 0 151), (151, tCall0 1 T1 (zRcv 6) 154), (154, tAld 0 155), (155, tC (zi 0) 156), (156, tC (zi 20) 158), (158, tCall0 3 T6 (zRcv 6) 161), (161, tIf_ne 166 164), (164, tC (zi 0) 165), (165, tRi zPz), (166, tAld 0 167), (167, tGetI 6 8 170), (170, tIst 4 172), (172, tAld 0 173), (173, tGetR 6 3 176), (176, tAld 1 177), (177, tIld 2 178), (178, tIld 3 179), (179, tIld 4 181), (181, tCall0 5 T8 (zRcv 8) 184), (184, tAld 0 185), (185, tCall0 1 T9 (zRcv 6) 188), (188, tRi zPz)]
set_option maxRecDepth 100000 in
set_option maxHeartbeats 4000000 in
theorem hs_X3_readWorkerStatement {l : Launch} (hl : l.stackTraces = false) {T0 : ZTf} {T1 : ZTf} {T2 : ZTf} {T3 : ZTf} {T4 : ZTf} {T5 : ZTf} {T6 : ZTf} {T7 : ZTf} {T8 : ZTf} {T9 : ZTf} (h0 : zMet l yX3_fail (Cond.code yX3_fail cX3_fail 2 (Option.some Jvm.ClassFile.FieldType.boolean) :: zG) rm_X3_fail 0 0 T0) (h1 : zMet l yX3_nextToken (Cond.code yX3_nextToken cX3_nextToken 1 (Option.none : Option Jvm.ClassFile.FieldType) :: zG) rm_X3_nextToken 0 0 T1) (h2 : zMet l yX3_isAtName (Cond.code yX3_isAtName cX3_isAtName 5 (Option.some Jvm.ClassFile.FieldType.boolean) :: zG) rm_X3_isAtName 0 0 T2) (h3 : zMet l yX5_workerNamed (Cond.code yX5_workerNamed cX5_workerNamed 5 (Option.some Jvm.ClassFile.FieldType.int) :: zG) rm_X5_workerNamed 0 0 T3) (h4 : zMet l yX1_textBetween (Cond.code yX1_textBetween cX1_textBetween 4 (Option.some (Jvm.ClassFile.FieldType.object "java/lang/String")) :: zG) rm_X1_textBetween 4 30 T4) (h5 : zMet l yX3_readKeyword (Cond.code yX3_readKeyword cX3_readKeyword 2 (Option.some Jvm.ClassFile.FieldType.boolean) :: zG) rm_X3_readKeyword 0 0 T5) (h6 : zMet l yX3_readNumber (Cond.code yX3_readNumber cX3_readNumber 3 (Option.some Jvm.ClassFile.FieldType.boolean) :: zG) rm_X3_readNumber 0 0 T6) (h7 : zMet l yX3_isAt (Cond.code yX3_isAt cX3_isAt 2 (Option.some Jvm.ClassFile.FieldType.boolean) :: zG) rm_X3_isAt 0 0 T7) (h8 : zMet l yX5_putWorker (Cond.code yX5_putWorker cX5_putWorker 5 (Option.none : Option Jvm.ClassFile.FieldType) :: zG) rm_X5_putWorker 0 0 T8) (h9 : zMet l yX3_readSemicolon (Cond.code yX3_readSemicolon cX3_readSemicolon 1 (Option.some Jvm.ClassFile.FieldType.boolean) :: zG) rm_X3_readSemicolon 0 0 T9) (p : Program) (e : Env) (s : State) (m : MethodId) (args : Array Value) (below : List Frame) (meth : Method) (c : Code) (D : va_G) (A : Nat → Prop) (a0 : Nat → Nat) (M0 : ZM) (K : ZRet) (KX : ZEx) (X : zCtx p l rm_X3_readWorkerStatement s m args meth c cX3_readWorkerStatement RX3 (Cond.code yX3_readWorkerStatement cX3_readWorkerStatement 5 (Option.some Jvm.ClassFile.FieldType.boolean) :: zG) 5 (Option.some Jvm.ClassFile.FieldType.boolean) D A a0 M0 4 30) (hnm : meth.name = yX3_readWorkerStatement.name) (hout : ∀ x ∈ c.exceptionTable.toList, False) : ∀ q ∈ cd_X3_readWorkerStatement T0 T1 T2 T3 T4 T5 T6 T7 T8 T9, zSd p l e rm_X3_readWorkerStatement s m args below meth c 5 D A a0 M0 K KX 4 30 q.1 q.2 :=
    zall_c (zs_aload_n X (pc := 0) (q := 0) rfl (by decide +kernel)) <|
    zall_c (zs_getr X (pc := 1) zc_X3 (by decide) (zin ui_X3) (.tail _ gw_2_29) (by decide +kernel) (by decide +kernel)) <|
    zall_c (zs_geti X (pc := 4) zc_X5 (by decide) (zin ui_X5) (.tail _ gw_1_231) (by decide +kernel) (by decide +kernel)) <|
    zall_c (zs_bipush X (pc := 7) (by decide) (by decide +kernel) (by decide +kernel)) <|
    zall_c (zs_icmp_lt X (pc := 9) (off := 9) (by decide +kernel) (by decide)) <|
    zall_c (zs_aload_n X (pc := 12) (q := 0) rfl (by decide +kernel)) <|
    zall_c (zs_iconst X (pc := 13) (by decide) (by decide +kernel)) <|
    zall_c (zs_callV0 X (pc := 14) zc_X3 (fun _ ht => ⟨(zCB ht gw_4_111 gw_1_2 gw_4_108 rfl rfl (by decide +kernel) ⟨Nat.le_of_ble_eq_true rfl, Nat.le_of_ble_eq_true rfl⟩), ht _ (.tail _ gw_4_110), ht _ (.tail _ gp_7)⟩) h0 hout (by decide +kernel)) <|
    zall_c (zs_zret X (pc := 17) rfl zR_bool (by decide +kernel)) <|
    zall_c (zs_aload_n X (pc := 18) (q := 0) rfl (by decide +kernel)) <|
    zall_c (zs_callV0 X (pc := 19) zc_X3 (fun _ ht => ⟨(zCB ht gw_4_76 gw_1_2 gw_4_73 rfl rfl (by decide +kernel) ⟨Nat.le_of_ble_eq_true rfl, Nat.le_of_ble_eq_true rfl⟩), ht _ (.tail _ gw_4_75), ht _ (.tail _ gp_1)⟩) h1 hout (by decide +kernel)) <|
    zall_c (zs_aload_n X (pc := 22) (q := 0) rfl (by decide +kernel)) <|
    zall_c (zs_callV0 X (pc := 23) zc_X3 (fun _ ht => ⟨(zCB ht gw_4_143 gw_1_2 gw_4_140 rfl rfl (by decide +kernel) ⟨Nat.le_of_ble_eq_true rfl, Nat.le_of_ble_eq_true rfl⟩), ht _ (.tail _ gw_4_142), ht _ (.tail _ gp_13)⟩) h2 hout (by decide +kernel)) <|
    zall_c (zs_if_ne X (pc := 26) (off := 9) (by decide +kernel) (by decide)) <|
    zall_c (zs_aload_n X (pc := 29) (q := 0) rfl (by decide +kernel)) <|
    zall_c (zs_iconst X (pc := 30) (by decide) (by decide +kernel)) <|
    zall_c (zs_callV0 X (pc := 31) zc_X3 (fun _ ht => ⟨(zCB ht gw_4_111 gw_1_2 gw_4_108 rfl rfl (by decide +kernel) ⟨Nat.le_of_ble_eq_true rfl, Nat.le_of_ble_eq_true rfl⟩), ht _ (.tail _ gw_4_110), ht _ (.tail _ gp_7)⟩) h0 hout (by decide +kernel)) <|
    zall_c (zs_zret X (pc := 34) rfl zR_bool (by decide +kernel)) <|
    zall_c (zs_aload_n X (pc := 35) (q := 0) rfl (by decide +kernel)) <|
    zall_c (zs_getr X (pc := 36) zc_X3 (by decide) (zin ui_X3) (.tail _ gw_2_29) (by decide +kernel) (by decide +kernel)) <|
    zall_c (zs_aload_n X (pc := 39) (q := 0) rfl (by decide +kernel)) <|
    zall_c (zs_getr X (pc := 40) zc_X3 (by decide) (zin ui_X3) (.tail _ gw_2_27) (by decide +kernel) (by decide +kernel)) <|
    zall_c (zs_aload_n X (pc := 43) (q := 0) rfl (by decide +kernel)) <|
    zall_c (zs_geti X (pc := 44) zc_X3 (by decide) (zin ui_X3) (.tail _ gw_2_32) (by decide +kernel) (by decide +kernel)) <|
    zall_c (zs_aload_n X (pc := 47) (q := 0) rfl (by decide +kernel)) <|
    zall_c (zs_geti X (pc := 48) zc_X3 (by decide) (zin ui_X3) (.tail _ gw_2_33) (by decide +kernel) (by decide +kernel)) <|
    zall_c (zs_callV0 X (pc := 51) zc_X5 (fun _ ht => ⟨(zCB ht gw_4_149 gw_1_8 gw_4_146 rfl rfl (by decide +kernel) ⟨Nat.le_of_ble_eq_true rfl, Nat.le_of_ble_eq_true rfl⟩), ht _ (.tail _ gw_4_147), ht _ (.tail _ gw_4_148)⟩) h3 hout (by decide +kernel)) <|
    zall_c (zs_iconst X (pc := 54) (by decide) (by decide +kernel)) <|
    zall_c (zs_icmp_eq X (pc := 55) (off := 9) (by decide +kernel) (by decide)) <|
    zall_c (zs_aload_n X (pc := 58) (q := 0) rfl (by decide +kernel)) <|
    zall_c (zs_iconst X (pc := 59) (by decide) (by decide +kernel)) <|
    zall_c (zs_callV0 X (pc := 60) zc_X3 (fun _ ht => ⟨(zCB ht gw_4_111 gw_1_2 gw_4_108 rfl rfl (by decide +kernel) ⟨Nat.le_of_ble_eq_true rfl, Nat.le_of_ble_eq_true rfl⟩), ht _ (.tail _ gw_4_110), ht _ (.tail _ gp_7)⟩) h0 hout (by decide +kernel)) <|
    zall_c (zs_zret X (pc := 63) rfl zR_bool (by decide +kernel)) <|
    zall_c (zs_aload_n X (pc := 64) (q := 0) rfl (by decide +kernel)) <|
    zall_c (zs_getr X (pc := 65) zc_X3 (by decide) (zin ui_X3) (.tail _ gw_2_27) (by decide +kernel) (by decide +kernel)) <|
    zall_c (zs_aload_n X (pc := 68) (q := 0) rfl (by decide +kernel)) <|
    zall_c (zs_geti X (pc := 69) zc_X3 (by decide) (zin ui_X3) (.tail _ gw_2_32) (by decide +kernel) (by decide +kernel)) <|
    zall_c (zs_aload_n X (pc := 72) (q := 0) rfl (by decide +kernel)) <|
    zall_c (zs_geti X (pc := 73) zc_X3 (by decide) (zin ui_X3) (.tail _ gw_2_33) (by decide +kernel) (by decide +kernel)) <|
    zall_c (zs_callV X (pc := 76) zc_X1 (fun _ ht => ⟨(zCB ht gw_4_154 gw_1_3 gw_4_151 rfl rfl (by decide +kernel) ⟨Nat.le_of_ble_eq_true rfl, Nat.le_of_ble_eq_true rfl⟩), ht _ (.tail _ gw_4_152), ht _ (.tail _ gw_4_153)⟩) h4 hout (by decide +kernel)) <|
    zall_c (zs_astore_n X (pc := 79) (q := 1) rfl (by decide) (by decide +kernel)) <|
    zall_c (zs_aload_n X (pc := 80) (q := 0) rfl (by decide +kernel)) <|
    zall_c (zs_callV0 X (pc := 81) zc_X3 (fun _ ht => ⟨(zCB ht gw_4_76 gw_1_2 gw_4_73 rfl rfl (by decide +kernel) ⟨Nat.le_of_ble_eq_true rfl, Nat.le_of_ble_eq_true rfl⟩), ht _ (.tail _ gw_4_75), ht _ (.tail _ gp_1)⟩) h1 hout (by decide +kernel)) <|
    zall_c (zs_aload_n X (pc := 84) (q := 0) rfl (by decide +kernel)) <|
    zall_c (zs_gets X (pc := 85) (C := "ReviewTable$Keyword") (n1 := "TEAM") (d1 := "LReviewTable$Keyword;") (List.mem_of_getElem? (i := 5) rfl) (.tail _ gw_4_179) (by decide +kernel)) <|
    zall_c (zs_callV0 X (pc := 88) zc_X3 (fun _ ht => ⟨(zCB ht gw_4_97 gw_1_2 gw_4_94 rfl rfl (by decide +kernel) ⟨Nat.le_of_ble_eq_true rfl, Nat.le_of_ble_eq_true rfl⟩), ht _ (.tail _ gw_4_96), ht _ (.tail _ gp_5)⟩) h5 hout (by decide +kernel)) <|
    zall_c (zs_if_eq X (pc := 91) (off := 12) (by decide +kernel) (by decide)) <|
    zall_c (zs_aload_n X (pc := 94) (q := 0) rfl (by decide +kernel)) <|
    zall_c (zs_iconst X (pc := 95) (by decide) (by decide +kernel)) <|
    zall_c (zs_iconst X (pc := 96) (by decide) (by decide +kernel)) <|
    zall_c (zs_callV0 X (pc := 97) zc_X3 (fun _ ht => ⟨(zCB ht gw_4_117 gw_1_2 gw_4_114 rfl rfl (by decide +kernel) ⟨Nat.le_of_ble_eq_true rfl, Nat.le_of_ble_eq_true rfl⟩), ht _ (.tail _ gw_4_116), ht _ (.tail _ gp_8)⟩) h6 hout (by decide +kernel)) <|
    zall_c (zs_if_ne X (pc := 100) (off := 5) (by decide +kernel) (by decide)) <|
    zall_c (zs_iconst X (pc := 103) (by decide) (by decide +kernel)) <|
    zall_c (zs_zret X (pc := 104) rfl zR_bool (by decide +kernel)) <|
    zall_c (zs_aload_n X (pc := 105) (q := 0) rfl (by decide +kernel)) <|
    zall_c (zs_geti X (pc := 106) zc_X3 (by decide) (zin ui_X3) (.tail _ gw_2_35) (by decide +kernel) (by decide +kernel)) <|
    zall_c (zs_istore_n X (pc := 109) (q := 2) rfl (by decide) (by decide +kernel)) <|
    zall_c (zs_aload_n X (pc := 110) (q := 0) rfl (by decide +kernel)) <|
    zall_c (zs_gets X (pc := 111) (C := "ReviewTable$Keyword") (n1 := "QUOTA") (d1 := "LReviewTable$Keyword;") (List.mem_of_getElem? (i := 6) rfl) (.tail _ gw_4_181) (by decide +kernel)) <|
    zall_c (zs_callV0 X (pc := 114) zc_X3 (fun _ ht => ⟨(zCB ht gw_4_97 gw_1_2 gw_4_94 rfl rfl (by decide +kernel) ⟨Nat.le_of_ble_eq_true rfl, Nat.le_of_ble_eq_true rfl⟩), ht _ (.tail _ gw_4_96), ht _ (.tail _ gp_5)⟩) h5 hout (by decide +kernel)) <|
    zall_c (zs_if_eq X (pc := 117) (off := 12) (by decide +kernel) (by decide)) <|
    zall_c (zs_aload_n X (pc := 120) (q := 0) rfl (by decide +kernel)) <|
    zall_c (zs_iconst X (pc := 121) (by decide) (by decide +kernel)) <|
    zall_c (zs_iconst X (pc := 122) (by decide) (by decide +kernel)) <|
    zall_c (zs_callV0 X (pc := 123) zc_X3 (fun _ ht => ⟨(zCB ht gw_4_117 gw_1_2 gw_4_114 rfl rfl (by decide +kernel) ⟨Nat.le_of_ble_eq_true rfl, Nat.le_of_ble_eq_true rfl⟩), ht _ (.tail _ gw_4_116), ht _ (.tail _ gp_8)⟩) h6 hout (by decide +kernel)) <|
    zall_c (zs_if_ne X (pc := 126) (off := 5) (by decide +kernel) (by decide)) <|
    zall_c (zs_iconst X (pc := 129) (by decide) (by decide +kernel)) <|
    zall_c (zs_zret X (pc := 130) rfl zR_bool (by decide +kernel)) <|
    zall_c (zs_aload_n X (pc := 131) (q := 0) rfl (by decide +kernel)) <|
    zall_c (zs_geti X (pc := 132) zc_X3 (by decide) (zin ui_X3) (.tail _ gw_2_35) (by decide +kernel) (by decide +kernel)) <|
    zall_c (zs_istore_n X (pc := 135) (q := 3) rfl (by decide) (by decide +kernel)) <|
    zall_c (zs_bipush X (pc := 136) (by decide) (by decide +kernel) (by decide +kernel)) <|
    zall_c (zs_istore X (pc := 138) (by decide) (by decide +kernel)) <|
    zall_c (zs_aload_n X (pc := 140) (q := 0) rfl (by decide +kernel)) <|
    zall_c (zs_gets X (pc := 141) (C := "ReviewTable$Keyword") (n1 := "TRUST") (d1 := "LReviewTable$Keyword;") (List.mem_of_getElem? (i := 7) rfl) (.tail _ gw_4_183) (by decide +kernel)) <|
    zall_c (zs_callV0 X (pc := 144) zc_X3 (fun _ ht => ⟨(zCB ht gw_4_101 gw_1_2 gw_4_98 rfl rfl (by decide +kernel) ⟨Nat.le_of_ble_eq_true rfl, Nat.le_of_ble_eq_true rfl⟩), ht _ (.tail _ gw_4_100), ht _ (.tail _ gp_6)⟩) h7 hout (by decide +kernel)) <|
    zall_c (zs_if_eq X (pc := 147) (off := 25) (by decide +kernel) (by decide)) <|
    zall_c (zs_aload_n X (pc := 150) (q := 0) rfl (by decide +kernel)) <|
    zall_c (zs_callV0 X (pc := 151) zc_X3 (fun _ ht => ⟨(zCB ht gw_4_76 gw_1_2 gw_4_73 rfl rfl (by decide +kernel) ⟨Nat.le_of_ble_eq_true rfl, Nat.le_of_ble_eq_true rfl⟩), ht _ (.tail _ gw_4_75), ht _ (.tail _ gp_1)⟩) h1 hout (by decide +kernel)) <|
    zall_c (zs_aload_n X (pc := 154) (q := 0) rfl (by decide +kernel)) <|
    zall_c (zs_iconst X (pc := 155) (by decide) (by decide +kernel)) <|
    zall_c (zs_bipush X (pc := 156) (by decide) (by decide +kernel) (by decide +kernel)) <|
    zall_c (zs_callV0 X (pc := 158) zc_X3 (fun _ ht => ⟨(zCB ht gw_4_117 gw_1_2 gw_4_114 rfl rfl (by decide +kernel) ⟨Nat.le_of_ble_eq_true rfl, Nat.le_of_ble_eq_true rfl⟩), ht _ (.tail _ gw_4_116), ht _ (.tail _ gp_8)⟩) h6 hout (by decide +kernel)) <|
    zall_c (zs_if_ne X (pc := 161) (off := 5) (by decide +kernel) (by decide)) <|
    zall_c (zs_iconst X (pc := 164) (by decide) (by decide +kernel)) <|
    zall_c (zs_zret X (pc := 165) rfl zR_bool (by decide +kernel)) <|
    zall_c (zs_aload_n X (pc := 166) (q := 0) rfl (by decide +kernel)) <|
    zall_c (zs_geti X (pc := 167) zc_X3 (by decide) (zin ui_X3) (.tail _ gw_2_35) (by decide +kernel) (by decide +kernel)) <|
    zall_c (zs_istore X (pc := 170) (by decide) (by decide +kernel)) <|
    zall_c (zs_aload_n X (pc := 172) (q := 0) rfl (by decide +kernel)) <|
    zall_c (zs_getr X (pc := 173) zc_X3 (by decide) (zin ui_X3) (.tail _ gw_2_29) (by decide +kernel) (by decide +kernel)) <|
    zall_c (zs_aload_n X (pc := 176) (q := 1) rfl (by decide +kernel)) <|
    zall_c (zs_iload_n X (pc := 177) (q := 2) rfl (by decide +kernel)) <|
    zall_c (zs_iload_n X (pc := 178) (q := 3) rfl (by decide +kernel)) <|
    zall_c (zs_iload X (pc := 179) (by decide +kernel)) <|
    zall_c (zs_callV0 X (pc := 181) zc_X5 (fun _ ht => ⟨(zCB ht gw_4_188 gw_1_8 gw_4_185 rfl rfl (by decide +kernel) ⟨Nat.le_of_ble_eq_true rfl, Nat.le_of_ble_eq_true rfl⟩), ht _ (.tail _ gw_4_186), ht _ (.tail _ gw_4_187)⟩) h8 hout (by decide +kernel)) <|
    zall_c (zs_aload_n X (pc := 184) (q := 0) rfl (by decide +kernel)) <|
    zall_c (zs_callV0 X (pc := 185) zc_X3 (fun _ ht => ⟨(zCB ht gw_4_129 gw_1_2 gw_4_126 rfl rfl (by decide +kernel) ⟨Nat.le_of_ble_eq_true rfl, Nat.le_of_ble_eq_true rfl⟩), ht _ (.tail _ gw_4_128), ht _ (.tail _ gp_10)⟩) h9 hout (by decide +kernel)) <|
    zall_c (zs_zret X (pc := 188) rfl zR_bool (by decide +kernel)) <|
    zall_n
theorem met_X3_readWorkerStatement {l : Launch} (hl : l.stackTraces = false) {T0 : ZTf} {T1 : ZTf} {T2 : ZTf} {T3 : ZTf} {T4 : ZTf} {T5 : ZTf} {T6 : ZTf} {T7 : ZTf} {T8 : ZTf} {T9 : ZTf} (h0 : zMet l yX3_fail (Cond.code yX3_fail cX3_fail 2 (Option.some Jvm.ClassFile.FieldType.boolean) :: zG) rm_X3_fail 0 0 T0) (h1 : zMet l yX3_nextToken (Cond.code yX3_nextToken cX3_nextToken 1 (Option.none : Option Jvm.ClassFile.FieldType) :: zG) rm_X3_nextToken 0 0 T1) (h2 : zMet l yX3_isAtName (Cond.code yX3_isAtName cX3_isAtName 5 (Option.some Jvm.ClassFile.FieldType.boolean) :: zG) rm_X3_isAtName 0 0 T2) (h3 : zMet l yX5_workerNamed (Cond.code yX5_workerNamed cX5_workerNamed 5 (Option.some Jvm.ClassFile.FieldType.int) :: zG) rm_X5_workerNamed 0 0 T3) (h4 : zMet l yX1_textBetween (Cond.code yX1_textBetween cX1_textBetween 4 (Option.some (Jvm.ClassFile.FieldType.object "java/lang/String")) :: zG) rm_X1_textBetween 4 30 T4) (h5 : zMet l yX3_readKeyword (Cond.code yX3_readKeyword cX3_readKeyword 2 (Option.some Jvm.ClassFile.FieldType.boolean) :: zG) rm_X3_readKeyword 0 0 T5) (h6 : zMet l yX3_readNumber (Cond.code yX3_readNumber cX3_readNumber 3 (Option.some Jvm.ClassFile.FieldType.boolean) :: zG) rm_X3_readNumber 0 0 T6) (h7 : zMet l yX3_isAt (Cond.code yX3_isAt cX3_isAt 2 (Option.some Jvm.ClassFile.FieldType.boolean) :: zG) rm_X3_isAt 0 0 T7) (h8 : zMet l yX5_putWorker (Cond.code yX5_putWorker cX5_putWorker 5 (Option.none : Option Jvm.ClassFile.FieldType) :: zG) rm_X5_putWorker 0 0 T8) (h9 : zMet l yX3_readSemicolon (Cond.code yX3_readSemicolon cX3_readSemicolon 1 (Option.some Jvm.ClassFile.FieldType.boolean) :: zG) rm_X3_readSemicolon 0 0 T9) {T : ZTf} (bd : zBd (cd_X3_readWorkerStatement T0 T1 T2 T3 T4 T5 T6 T7 T8 T9) 5 4 30 T) : zMet l yX3_readWorkerStatement (Cond.code yX3_readWorkerStatement cX3_readWorkerStatement 5 (Option.some Jvm.ClassFile.FieldType.boolean) :: zG) rm_X3_readWorkerStatement 4 30 T := zMet_of hl (by decide +kernel) rfl rfl rfl rfl (hs_X3_readWorkerStatement hl h0 h1 h2 h3 h4 h5 h6 h7 h8 h9) bd

abbrev rm_X3_readRowsStatement : Room := { frames := 8, cells := 0, slots := 0, locals := 181 }
def cd_X3_readRowsStatement (T0 : ZTf) (T1 : ZTf) (T2 : ZTf) (T3 : ZTf) (T4 : ZTf) (T5 : ZTf) (T6 : ZTf) (T7 : ZTf) : List (Nat × ZTr) := [(0, tAld 0 1), (1, tCall0 1 T0 (zRcv 6) 4), (4, tAld 0 5), (5, tC (zi 1) 6), (6, tC (zi 24) 8), (8, tCall0 3 T1 (zRcv 6) 11), (11, tIf_ne 16 14), (14, tC (zi 0) 15), (15, tRi zPz), (16, tAld 0 17), (17, tGetR 6 3 20), (20, tAld 0 21), (21, tGetI 6 7 24), (24, tCall0 2 T2 (zRcv 8) 27), (27, tIf_ne 36 30), (30, tAld 0 31), (31, tC (zi 4) 32), (32, tCall0 2 T3 (zRcv 6) 35), (35, tRi zPz), (36, tAld 0 37), (37, tGetI 6 7 40), (40, tIst 1 41), (41, tAld 0 42), (42, tCall0 1 T0 (zRcv 6) 45), (45, tAld 0 46), (46, tC (zo 10) 49), (49, tCall0 2 T4 (zRcv 6) 52), (52, tIf_eq 65 55), (55, tAld 0 56), (56, tC (zi 1) 57), (57, tC (zi 9) 59), (59, tCall0 3 T5 (zRcv 6) 62), (62, tIf_ne 67 65), (65, tC (zi 0) 66), (66, tRi zPz), (67, tAld 0 68), (68, tGetR 6 3 71), (71, tIld 1 72), (72, tAld 0 73), (73, tGetI 6 8 76), (76, tCall0 3 T6 (zRcv 8) 79), (79, tAld 0 80), (80, tCall0 1 T7 (zRcv 6) 83), (83, tRi zPz)]
set_option maxRecDepth 100000 in
set_option maxHeartbeats 4000000 in
theorem hs_X3_readRowsStatement {l : Launch} (hl : l.stackTraces = false) {T0 : ZTf} {T1 : ZTf} {T2 : ZTf} {T3 : ZTf} {T4 : ZTf} {T5 : ZTf} {T6 : ZTf} {T7 : ZTf} (h0 : zMet l yX3_nextToken (Cond.code yX3_nextToken cX3_nextToken 1 (Option.none : Option Jvm.ClassFile.FieldType) :: zG) rm_X3_nextToken 0 0 T0) (h1 : zMet l yX3_isAtNumber (Cond.code yX3_isAtNumber cX3_isAtNumber 3 (Option.some Jvm.ClassFile.FieldType.boolean) :: zG) rm_X3_isAtNumber 0 0 T1) (h2 : zMet l yX5_hasRoomFor (Cond.code yX5_hasRoomFor cX5_hasRoomFor 2 (Option.some Jvm.ClassFile.FieldType.boolean) :: zG) rm_X5_hasRoomFor 0 0 T2) (h3 : zMet l yX3_fail (Cond.code yX3_fail cX3_fail 2 (Option.some Jvm.ClassFile.FieldType.boolean) :: zG) rm_X3_fail 0 0 T3) (h4 : zMet l yX3_readKeyword (Cond.code yX3_readKeyword cX3_readKeyword 2 (Option.some Jvm.ClassFile.FieldType.boolean) :: zG) rm_X3_readKeyword 0 0 T4) (h5 : zMet l yX3_readNumber (Cond.code yX3_readNumber cX3_readNumber 3 (Option.some Jvm.ClassFile.FieldType.boolean) :: zG) rm_X3_readNumber 0 0 T5) (h6 : zMet l yX5_putRows (Cond.code yX5_putRows cX5_putRows 4 (Option.none : Option Jvm.ClassFile.FieldType) :: zG) rm_X5_putRows 0 0 T6) (h7 : zMet l yX3_readSemicolon (Cond.code yX3_readSemicolon cX3_readSemicolon 1 (Option.some Jvm.ClassFile.FieldType.boolean) :: zG) rm_X3_readSemicolon 0 0 T7) (p : Program) (e : Env) (s : State) (m : MethodId) (args : Array Value) (below : List Frame) (meth : Method) (c : Code) (D : va_G) (A : Nat → Prop) (a0 : Nat → Nat) (M0 : ZM) (K : ZRet) (KX : ZEx) (X : zCtx p l rm_X3_readRowsStatement s m args meth c cX3_readRowsStatement RX3 (Cond.code yX3_readRowsStatement cX3_readRowsStatement 2 (Option.some Jvm.ClassFile.FieldType.boolean) :: zG) 2 (Option.some Jvm.ClassFile.FieldType.boolean) D A a0 M0 0 0) (hnm : meth.name = yX3_readRowsStatement.name) (hout : ∀ x ∈ c.exceptionTable.toList, False) : ∀ q ∈ cd_X3_readRowsStatement T0 T1 T2 T3 T4 T5 T6 T7, zSd p l e rm_X3_readRowsStatement s m args below meth c 2 D A a0 M0 K KX 0 0 q.1 q.2 :=
    zall_c (zs_aload_n X (pc := 0) (q := 0) rfl (by decide +kernel)) <|
    zall_c (zs_callV0 X (pc := 1) zc_X3 (fun _ ht => ⟨(zCB ht gw_4_76 gw_1_2 gw_4_73 rfl rfl (by decide +kernel) ⟨Nat.le_of_ble_eq_true rfl, Nat.le_of_ble_eq_true rfl⟩), ht _ (.tail _ gw_4_75), ht _ (.tail _ gp_1)⟩) h0 hout (by decide +kernel)) <|
    zall_c (zs_aload_n X (pc := 4) (q := 0) rfl (by decide +kernel)) <|
    zall_c (zs_iconst X (pc := 5) (by decide) (by decide +kernel)) <|
    zall_c (zs_bipush X (pc := 6) (by decide) (by decide +kernel) (by decide +kernel)) <|
    zall_c (zs_callV0 X (pc := 8) zc_X3 (fun _ ht => ⟨(zCB ht gw_4_121 gw_1_2 gw_4_118 rfl rfl (by decide +kernel) ⟨Nat.le_of_ble_eq_true rfl, Nat.le_of_ble_eq_true rfl⟩), ht _ (.tail _ gw_4_120), ht _ (.tail _ gp_9)⟩) h1 hout (by decide +kernel)) <|
    zall_c (zs_if_ne X (pc := 11) (off := 5) (by decide +kernel) (by decide)) <|
    zall_c (zs_iconst X (pc := 14) (by decide) (by decide +kernel)) <|
    zall_c (zs_zret X (pc := 15) rfl zR_bool (by decide +kernel)) <|
    zall_c (zs_aload_n X (pc := 16) (q := 0) rfl (by decide +kernel)) <|
    zall_c (zs_getr X (pc := 17) zc_X3 (by decide) (zin ui_X3) (.tail _ gw_2_29) (by decide +kernel) (by decide +kernel)) <|
    zall_c (zs_aload_n X (pc := 20) (q := 0) rfl (by decide +kernel)) <|
    zall_c (zs_geti X (pc := 21) zc_X3 (by decide) (zin ui_X3) (.tail _ gw_2_34) (by decide +kernel) (by decide +kernel)) <|
    zall_c (zs_callV0 X (pc := 24) zc_X5 (fun _ ht => ⟨(zCB ht gw_4_202 gw_1_8 gw_4_199 rfl rfl (by decide +kernel) ⟨Nat.le_of_ble_eq_true rfl, Nat.le_of_ble_eq_true rfl⟩), ht _ (.tail _ gw_4_200), ht _ (.tail _ gw_4_201)⟩) h2 hout (by decide +kernel)) <|
    zall_c (zs_if_ne X (pc := 27) (off := 9) (by decide +kernel) (by decide)) <|
    zall_c (zs_aload_n X (pc := 30) (q := 0) rfl (by decide +kernel)) <|
    zall_c (zs_iconst X (pc := 31) (by decide) (by decide +kernel)) <|
    zall_c (zs_callV0 X (pc := 32) zc_X3 (fun _ ht => ⟨(zCB ht gw_4_111 gw_1_2 gw_4_108 rfl rfl (by decide +kernel) ⟨Nat.le_of_ble_eq_true rfl, Nat.le_of_ble_eq_true rfl⟩), ht _ (.tail _ gw_4_110), ht _ (.tail _ gp_7)⟩) h3 hout (by decide +kernel)) <|
    zall_c (zs_zret X (pc := 35) rfl zR_bool (by decide +kernel)) <|
    zall_c (zs_aload_n X (pc := 36) (q := 0) rfl (by decide +kernel)) <|
    zall_c (zs_geti X (pc := 37) zc_X3 (by decide) (zin ui_X3) (.tail _ gw_2_34) (by decide +kernel) (by decide +kernel)) <|
    zall_c (zs_istore_n X (pc := 40) (q := 1) rfl (by decide) (by decide +kernel)) <|
    zall_c (zs_aload_n X (pc := 41) (q := 0) rfl (by decide +kernel)) <|
    zall_c (zs_callV0 X (pc := 42) zc_X3 (fun _ ht => ⟨(zCB ht gw_4_76 gw_1_2 gw_4_73 rfl rfl (by decide +kernel) ⟨Nat.le_of_ble_eq_true rfl, Nat.le_of_ble_eq_true rfl⟩), ht _ (.tail _ gw_4_75), ht _ (.tail _ gp_1)⟩) h0 hout (by decide +kernel)) <|
    zall_c (zs_aload_n X (pc := 45) (q := 0) rfl (by decide +kernel)) <|
    zall_c (zs_gets X (pc := 46) (C := "ReviewTable$Keyword") (n1 := "SIZE") (d1 := "LReviewTable$Keyword;") (List.mem_of_getElem? (i := 9) rfl) (.tail _ gw_4_203) (by decide +kernel)) <|
    zall_c (zs_callV0 X (pc := 49) zc_X3 (fun _ ht => ⟨(zCB ht gw_4_97 gw_1_2 gw_4_94 rfl rfl (by decide +kernel) ⟨Nat.le_of_ble_eq_true rfl, Nat.le_of_ble_eq_true rfl⟩), ht _ (.tail _ gw_4_96), ht _ (.tail _ gp_5)⟩) h4 hout (by decide +kernel)) <|
    zall_c (zs_if_eq X (pc := 52) (off := 13) (by decide +kernel) (by decide)) <|
    zall_c (zs_aload_n X (pc := 55) (q := 0) rfl (by decide +kernel)) <|
    zall_c (zs_iconst X (pc := 56) (by decide) (by decide +kernel)) <|
    zall_c (zs_bipush X (pc := 57) (by decide) (by decide +kernel) (by decide +kernel)) <|
    zall_c (zs_callV0 X (pc := 59) zc_X3 (fun _ ht => ⟨(zCB ht gw_4_117 gw_1_2 gw_4_114 rfl rfl (by decide +kernel) ⟨Nat.le_of_ble_eq_true rfl, Nat.le_of_ble_eq_true rfl⟩), ht _ (.tail _ gw_4_116), ht _ (.tail _ gp_8)⟩) h5 hout (by decide +kernel)) <|
    zall_c (zs_if_ne X (pc := 62) (off := 5) (by decide +kernel) (by decide)) <|
    zall_c (zs_iconst X (pc := 65) (by decide) (by decide +kernel)) <|
    zall_c (zs_zret X (pc := 66) rfl zR_bool (by decide +kernel)) <|
    zall_c (zs_aload_n X (pc := 67) (q := 0) rfl (by decide +kernel)) <|
    zall_c (zs_getr X (pc := 68) zc_X3 (by decide) (zin ui_X3) (.tail _ gw_2_29) (by decide +kernel) (by decide +kernel)) <|
    zall_c (zs_iload_n X (pc := 71) (q := 1) rfl (by decide +kernel)) <|
    zall_c (zs_aload_n X (pc := 72) (q := 0) rfl (by decide +kernel)) <|
    zall_c (zs_geti X (pc := 73) zc_X3 (by decide) (zin ui_X3) (.tail _ gw_2_35) (by decide +kernel) (by decide +kernel)) <|
    zall_c (zs_callV0 X (pc := 76) zc_X5 (fun _ ht => ⟨(zCB ht gw_4_208 gw_1_8 gw_4_205 rfl rfl (by decide +kernel) ⟨Nat.le_of_ble_eq_true rfl, Nat.le_of_ble_eq_true rfl⟩), ht _ (.tail _ gw_4_206), ht _ (.tail _ gw_4_207)⟩) h6 hout (by decide +kernel)) <|
    zall_c (zs_aload_n X (pc := 79) (q := 0) rfl (by decide +kernel)) <|
    zall_c (zs_callV0 X (pc := 80) zc_X3 (fun _ ht => ⟨(zCB ht gw_4_129 gw_1_2 gw_4_126 rfl rfl (by decide +kernel) ⟨Nat.le_of_ble_eq_true rfl, Nat.le_of_ble_eq_true rfl⟩), ht _ (.tail _ gw_4_128), ht _ (.tail _ gp_10)⟩) h7 hout (by decide +kernel)) <|
    zall_c (zs_zret X (pc := 83) rfl zR_bool (by decide +kernel)) <|
    zall_n
theorem met_X3_readRowsStatement {l : Launch} (hl : l.stackTraces = false) {T0 : ZTf} {T1 : ZTf} {T2 : ZTf} {T3 : ZTf} {T4 : ZTf} {T5 : ZTf} {T6 : ZTf} {T7 : ZTf} (h0 : zMet l yX3_nextToken (Cond.code yX3_nextToken cX3_nextToken 1 (Option.none : Option Jvm.ClassFile.FieldType) :: zG) rm_X3_nextToken 0 0 T0) (h1 : zMet l yX3_isAtNumber (Cond.code yX3_isAtNumber cX3_isAtNumber 3 (Option.some Jvm.ClassFile.FieldType.boolean) :: zG) rm_X3_isAtNumber 0 0 T1) (h2 : zMet l yX5_hasRoomFor (Cond.code yX5_hasRoomFor cX5_hasRoomFor 2 (Option.some Jvm.ClassFile.FieldType.boolean) :: zG) rm_X5_hasRoomFor 0 0 T2) (h3 : zMet l yX3_fail (Cond.code yX3_fail cX3_fail 2 (Option.some Jvm.ClassFile.FieldType.boolean) :: zG) rm_X3_fail 0 0 T3) (h4 : zMet l yX3_readKeyword (Cond.code yX3_readKeyword cX3_readKeyword 2 (Option.some Jvm.ClassFile.FieldType.boolean) :: zG) rm_X3_readKeyword 0 0 T4) (h5 : zMet l yX3_readNumber (Cond.code yX3_readNumber cX3_readNumber 3 (Option.some Jvm.ClassFile.FieldType.boolean) :: zG) rm_X3_readNumber 0 0 T5) (h6 : zMet l yX5_putRows (Cond.code yX5_putRows cX5_putRows 4 (Option.none : Option Jvm.ClassFile.FieldType) :: zG) rm_X5_putRows 0 0 T6) (h7 : zMet l yX3_readSemicolon (Cond.code yX3_readSemicolon cX3_readSemicolon 1 (Option.some Jvm.ClassFile.FieldType.boolean) :: zG) rm_X3_readSemicolon 0 0 T7) {T : ZTf} (bd : zBd (cd_X3_readRowsStatement T0 T1 T2 T3 T4 T5 T6 T7) 2 0 0 T) : zMet l yX3_readRowsStatement (Cond.code yX3_readRowsStatement cX3_readRowsStatement 2 (Option.some Jvm.ClassFile.FieldType.boolean) :: zG) rm_X3_readRowsStatement 0 0 T := zMet_of hl (by decide +kernel) rfl rfl rfl rfl (hs_X3_readRowsStatement hl h0 h1 h2 h3 h4 h5 h6 h7) bd

abbrev rm_X3_readBarStatement : Room := { frames := 9, cells := 0, slots := 0, locals := 204 }
def cd_X3_readBarStatement (T0 : ZTf) (T1 : ZTf) (T2 : ZTf) (T3 : ZTf) (T4 : ZTf) (T5 : ZTf) (T6 : ZTf) (T7 : ZTf) : List (Nat × ZTr) := [(0, tAld 0 1), (1, tCall0 1 T0 (zRcv 6) 4), (4, tAld 0 5), (5, tCall0 1 T1 (zRcv 6) 8), (8, tIf_ne 13 11), (11, tC (zi 0) 12), (12, tRi zPz), (13, tAld 0 14), (14, tGetI 6 8 17), (17, tIst 1 18), (18, tAld 0 19), (19, tCall0 1 T2 (zRcv 6) 22), (22, tIf_ne 31 25), (25, tAld 0 26), (26, tC (zi 1) 27), (27, tCall0 2 T3 (zRcv 6) 30), (30, tRi zPz), (31, tAld 0 32), (32, tGetR 6 3 35), (35, tAld 0 36), (36, tGetR 6 2 39), (39, tAld 0 40), (40, tGetI 6 5 43), (43, tAld 0 44), (44, tGetI 6 6 47), (47, tCall0 4 T4 (zRcv 8) 50), (50, tIst 2 51), (51, tIld 2 52), (52, tC (zi (-1)) 53), (53, tIc_eq 73 56), (56, tIld 2 57), (57, tIld 1 58), (58, tIc_eq 73 61), (61, tAld 0 62), (62, tGetR 6 3 65), (65, tIld 1 66), (66, tIld 2 67), (67, tCall0 3 T5 (zRcv 8) 70), (70, tIf_eq 79 73), (73, tAld 0 74), (74, tC (zi 3) 75), (75, tCall0 2 T3 (zRcv 6) 78), (78, tRi zPz), (79, tAld 0 80), (80, tCall0 1 T0 (zRcv 6) 83), (83, tAld 0 84), (84, tGetR 6 3 87), (87, tIld 1 88), (88, tIld 2 89), (89, tC (zi 1) 90), (90, tCall0 4 T6 (zRcv 8) 93), (93, tAld 0 94), (94, tCall0 1 T7 (zRcv 6) 97), (97, tRi zPz)]
set_option maxRecDepth 100000 in
set_option maxHeartbeats 4000000 in
theorem hs_X3_readBarStatement {l : Launch} (hl : l.stackTraces = false) {T0 : ZTf} {T1 : ZTf} {T2 : ZTf} {T3 : ZTf} {T4 : ZTf} {T5 : ZTf} {T6 : ZTf} {T7 : ZTf} (h0 : zMet l yX3_nextToken (Cond.code yX3_nextToken cX3_nextToken 1 (Option.none : Option Jvm.ClassFile.FieldType) :: zG) rm_X3_nextToken 0 0 T0) (h1 : zMet l yX3_readKnownName (Cond.code yX3_readKnownName cX3_readKnownName 1 (Option.some Jvm.ClassFile.FieldType.boolean) :: zG) rm_X3_readKnownName 0 0 T1) (h2 : zMet l yX3_isAtName (Cond.code yX3_isAtName cX3_isAtName 5 (Option.some Jvm.ClassFile.FieldType.boolean) :: zG) rm_X3_isAtName 0 0 T2) (h3 : zMet l yX3_fail (Cond.code yX3_fail cX3_fail 2 (Option.some Jvm.ClassFile.FieldType.boolean) :: zG) rm_X3_fail 0 0 T3) (h4 : zMet l yX5_workerNamed (Cond.code yX5_workerNamed cX5_workerNamed 5 (Option.some Jvm.ClassFile.FieldType.int) :: zG) rm_X5_workerNamed 0 0 T4) (h5 : zMet l yX5_areKeptApart (Cond.code yX5_areKeptApart cX5_areKeptApart 4 (Option.some Jvm.ClassFile.FieldType.boolean) :: zG) rm_X5_areKeptApart 0 0 T5) (h6 : zMet l yX5_tellApart (Cond.code yX5_tellApart cX5_tellApart 5 (Option.none : Option Jvm.ClassFile.FieldType) :: zG) rm_X5_tellApart 0 0 T6) (h7 : zMet l yX3_readSemicolon (Cond.code yX3_readSemicolon cX3_readSemicolon 1 (Option.some Jvm.ClassFile.FieldType.boolean) :: zG) rm_X3_readSemicolon 0 0 T7) (p : Program) (e : Env) (s : State) (m : MethodId) (args : Array Value) (below : List Frame) (meth : Method) (c : Code) (D : va_G) (A : Nat → Prop) (a0 : Nat → Nat) (M0 : ZM) (K : ZRet) (KX : ZEx) (X : zCtx p l rm_X3_readBarStatement s m args meth c cX3_readBarStatement RX3 (Cond.code yX3_readBarStatement cX3_readBarStatement 3 (Option.some Jvm.ClassFile.FieldType.boolean) :: zG) 3 (Option.some Jvm.ClassFile.FieldType.boolean) D A a0 M0 0 0) (hnm : meth.name = yX3_readBarStatement.name) (hout : ∀ x ∈ c.exceptionTable.toList, False) : ∀ q ∈ cd_X3_readBarStatement T0 T1 T2 T3 T4 T5 T6 T7, zSd p l e rm_X3_readBarStatement s m args below meth c 3 D A a0 M0 K KX 0 0 q.1 q.2 :=
    zall_c (zs_aload_n X (pc := 0) (q := 0) rfl (by decide +kernel)) <|
    zall_c (zs_callV0 X (pc := 1) zc_X3 (fun _ ht => ⟨(zCB ht gw_4_76 gw_1_2 gw_4_73 rfl rfl (by decide +kernel) ⟨Nat.le_of_ble_eq_true rfl, Nat.le_of_ble_eq_true rfl⟩), ht _ (.tail _ gw_4_75), ht _ (.tail _ gp_1)⟩) h0 hout (by decide +kernel)) <|
    zall_c (zs_aload_n X (pc := 4) (q := 0) rfl (by decide +kernel)) <|
    zall_c (zs_callV0 X (pc := 5) zc_X3 (fun _ ht => ⟨(zCB ht gw_4_222 gw_1_2 gw_4_219 rfl rfl (by decide +kernel) ⟨Nat.le_of_ble_eq_true rfl, Nat.le_of_ble_eq_true rfl⟩), ht _ (.tail _ gw_4_221), ht _ (.tail _ gp_16)⟩) h1 hout (by decide +kernel)) <|
    zall_c (zs_if_ne X (pc := 8) (off := 5) (by decide +kernel) (by decide)) <|
    zall_c (zs_iconst X (pc := 11) (by decide) (by decide +kernel)) <|
    zall_c (zs_zret X (pc := 12) rfl zR_bool (by decide +kernel)) <|
    zall_c (zs_aload_n X (pc := 13) (q := 0) rfl (by decide +kernel)) <|
    zall_c (zs_geti X (pc := 14) zc_X3 (by decide) (zin ui_X3) (.tail _ gw_2_35) (by decide +kernel) (by decide +kernel)) <|
    zall_c (zs_istore_n X (pc := 17) (q := 1) rfl (by decide) (by decide +kernel)) <|
    zall_c (zs_aload_n X (pc := 18) (q := 0) rfl (by decide +kernel)) <|
    zall_c (zs_callV0 X (pc := 19) zc_X3 (fun _ ht => ⟨(zCB ht gw_4_143 gw_1_2 gw_4_140 rfl rfl (by decide +kernel) ⟨Nat.le_of_ble_eq_true rfl, Nat.le_of_ble_eq_true rfl⟩), ht _ (.tail _ gw_4_142), ht _ (.tail _ gp_13)⟩) h2 hout (by decide +kernel)) <|
    zall_c (zs_if_ne X (pc := 22) (off := 9) (by decide +kernel) (by decide)) <|
    zall_c (zs_aload_n X (pc := 25) (q := 0) rfl (by decide +kernel)) <|
    zall_c (zs_iconst X (pc := 26) (by decide) (by decide +kernel)) <|
    zall_c (zs_callV0 X (pc := 27) zc_X3 (fun _ ht => ⟨(zCB ht gw_4_111 gw_1_2 gw_4_108 rfl rfl (by decide +kernel) ⟨Nat.le_of_ble_eq_true rfl, Nat.le_of_ble_eq_true rfl⟩), ht _ (.tail _ gw_4_110), ht _ (.tail _ gp_7)⟩) h3 hout (by decide +kernel)) <|
    zall_c (zs_zret X (pc := 30) rfl zR_bool (by decide +kernel)) <|
    zall_c (zs_aload_n X (pc := 31) (q := 0) rfl (by decide +kernel)) <|
    zall_c (zs_getr X (pc := 32) zc_X3 (by decide) (zin ui_X3) (.tail _ gw_2_29) (by decide +kernel) (by decide +kernel)) <|
    zall_c (zs_aload_n X (pc := 35) (q := 0) rfl (by decide +kernel)) <|
    zall_c (zs_getr X (pc := 36) zc_X3 (by decide) (zin ui_X3) (.tail _ gw_2_27) (by decide +kernel) (by decide +kernel)) <|
    zall_c (zs_aload_n X (pc := 39) (q := 0) rfl (by decide +kernel)) <|
    zall_c (zs_geti X (pc := 40) zc_X3 (by decide) (zin ui_X3) (.tail _ gw_2_32) (by decide +kernel) (by decide +kernel)) <|
    zall_c (zs_aload_n X (pc := 43) (q := 0) rfl (by decide +kernel)) <|
    zall_c (zs_geti X (pc := 44) zc_X3 (by decide) (zin ui_X3) (.tail _ gw_2_33) (by decide +kernel) (by decide +kernel)) <|
    zall_c (zs_callV0 X (pc := 47) zc_X5 (fun _ ht => ⟨(zCB ht gw_4_149 gw_1_8 gw_4_146 rfl rfl (by decide +kernel) ⟨Nat.le_of_ble_eq_true rfl, Nat.le_of_ble_eq_true rfl⟩), ht _ (.tail _ gw_4_147), ht _ (.tail _ gw_4_148)⟩) h4 hout (by decide +kernel)) <|
    zall_c (zs_istore_n X (pc := 50) (q := 2) rfl (by decide) (by decide +kernel)) <|
    zall_c (zs_iload_n X (pc := 51) (q := 2) rfl (by decide +kernel)) <|
    zall_c (zs_iconst X (pc := 52) (by decide) (by decide +kernel)) <|
    zall_c (zs_icmp_eq X (pc := 53) (off := 20) (by decide +kernel) (by decide)) <|
    zall_c (zs_iload_n X (pc := 56) (q := 2) rfl (by decide +kernel)) <|
    zall_c (zs_iload_n X (pc := 57) (q := 1) rfl (by decide +kernel)) <|
    zall_c (zs_icmp_eq X (pc := 58) (off := 15) (by decide +kernel) (by decide)) <|
    zall_c (zs_aload_n X (pc := 61) (q := 0) rfl (by decide +kernel)) <|
    zall_c (zs_getr X (pc := 62) zc_X3 (by decide) (zin ui_X3) (.tail _ gw_2_29) (by decide +kernel) (by decide +kernel)) <|
    zall_c (zs_iload_n X (pc := 65) (q := 1) rfl (by decide +kernel)) <|
    zall_c (zs_iload_n X (pc := 66) (q := 2) rfl (by decide +kernel)) <|
    zall_c (zs_callV0 X (pc := 67) zc_X5 (fun _ ht => ⟨(zCB ht gw_4_226 gw_1_8 gw_4_223 rfl rfl (by decide +kernel) ⟨Nat.le_of_ble_eq_true rfl, Nat.le_of_ble_eq_true rfl⟩), ht _ (.tail _ gw_4_224), ht _ (.tail _ gw_4_225)⟩) h5 hout (by decide +kernel)) <|
    zall_c (zs_if_eq X (pc := 70) (off := 9) (by decide +kernel) (by decide)) <|
    zall_c (zs_aload_n X (pc := 73) (q := 0) rfl (by decide +kernel)) <|
    zall_c (zs_iconst X (pc := 74) (by decide) (by decide +kernel)) <|
    zall_c (zs_callV0 X (pc := 75) zc_X3 (fun _ ht => ⟨(zCB ht gw_4_111 gw_1_2 gw_4_108 rfl rfl (by decide +kernel) ⟨Nat.le_of_ble_eq_true rfl, Nat.le_of_ble_eq_true rfl⟩), ht _ (.tail _ gw_4_110), ht _ (.tail _ gp_7)⟩) h3 hout (by decide +kernel)) <|
    zall_c (zs_zret X (pc := 78) rfl zR_bool (by decide +kernel)) <|
    zall_c (zs_aload_n X (pc := 79) (q := 0) rfl (by decide +kernel)) <|
    zall_c (zs_callV0 X (pc := 80) zc_X3 (fun _ ht => ⟨(zCB ht gw_4_76 gw_1_2 gw_4_73 rfl rfl (by decide +kernel) ⟨Nat.le_of_ble_eq_true rfl, Nat.le_of_ble_eq_true rfl⟩), ht _ (.tail _ gw_4_75), ht _ (.tail _ gp_1)⟩) h0 hout (by decide +kernel)) <|
    zall_c (zs_aload_n X (pc := 83) (q := 0) rfl (by decide +kernel)) <|
    zall_c (zs_getr X (pc := 84) zc_X3 (by decide) (zin ui_X3) (.tail _ gw_2_29) (by decide +kernel) (by decide +kernel)) <|
    zall_c (zs_iload_n X (pc := 87) (q := 1) rfl (by decide +kernel)) <|
    zall_c (zs_iload_n X (pc := 88) (q := 2) rfl (by decide +kernel)) <|
    zall_c (zs_iconst X (pc := 89) (by decide) (by decide +kernel)) <|
    zall_c (zs_callV0 X (pc := 90) zc_X5 (fun _ ht => ⟨(zCB ht gw_4_233 gw_1_8 gw_4_230 rfl rfl (by decide +kernel) ⟨Nat.le_of_ble_eq_true rfl, Nat.le_of_ble_eq_true rfl⟩), ht _ (.tail _ gw_4_231), ht _ (.tail _ gw_4_232)⟩) h6 hout (by decide +kernel)) <|
    zall_c (zs_aload_n X (pc := 93) (q := 0) rfl (by decide +kernel)) <|
    zall_c (zs_callV0 X (pc := 94) zc_X3 (fun _ ht => ⟨(zCB ht gw_4_129 gw_1_2 gw_4_126 rfl rfl (by decide +kernel) ⟨Nat.le_of_ble_eq_true rfl, Nat.le_of_ble_eq_true rfl⟩), ht _ (.tail _ gw_4_128), ht _ (.tail _ gp_10)⟩) h7 hout (by decide +kernel)) <|
    zall_c (zs_zret X (pc := 97) rfl zR_bool (by decide +kernel)) <|
    zall_n
theorem met_X3_readBarStatement {l : Launch} (hl : l.stackTraces = false) {T0 : ZTf} {T1 : ZTf} {T2 : ZTf} {T3 : ZTf} {T4 : ZTf} {T5 : ZTf} {T6 : ZTf} {T7 : ZTf} (h0 : zMet l yX3_nextToken (Cond.code yX3_nextToken cX3_nextToken 1 (Option.none : Option Jvm.ClassFile.FieldType) :: zG) rm_X3_nextToken 0 0 T0) (h1 : zMet l yX3_readKnownName (Cond.code yX3_readKnownName cX3_readKnownName 1 (Option.some Jvm.ClassFile.FieldType.boolean) :: zG) rm_X3_readKnownName 0 0 T1) (h2 : zMet l yX3_isAtName (Cond.code yX3_isAtName cX3_isAtName 5 (Option.some Jvm.ClassFile.FieldType.boolean) :: zG) rm_X3_isAtName 0 0 T2) (h3 : zMet l yX3_fail (Cond.code yX3_fail cX3_fail 2 (Option.some Jvm.ClassFile.FieldType.boolean) :: zG) rm_X3_fail 0 0 T3) (h4 : zMet l yX5_workerNamed (Cond.code yX5_workerNamed cX5_workerNamed 5 (Option.some Jvm.ClassFile.FieldType.int) :: zG) rm_X5_workerNamed 0 0 T4) (h5 : zMet l yX5_areKeptApart (Cond.code yX5_areKeptApart cX5_areKeptApart 4 (Option.some Jvm.ClassFile.FieldType.boolean) :: zG) rm_X5_areKeptApart 0 0 T5) (h6 : zMet l yX5_tellApart (Cond.code yX5_tellApart cX5_tellApart 5 (Option.none : Option Jvm.ClassFile.FieldType) :: zG) rm_X5_tellApart 0 0 T6) (h7 : zMet l yX3_readSemicolon (Cond.code yX3_readSemicolon cX3_readSemicolon 1 (Option.some Jvm.ClassFile.FieldType.boolean) :: zG) rm_X3_readSemicolon 0 0 T7) {T : ZTf} (bd : zBd (cd_X3_readBarStatement T0 T1 T2 T3 T4 T5 T6 T7) 3 0 0 T) : zMet l yX3_readBarStatement (Cond.code yX3_readBarStatement cX3_readBarStatement 3 (Option.some Jvm.ClassFile.FieldType.boolean) :: zG) rm_X3_readBarStatement 0 0 T := zMet_of hl (by decide +kernel) rfl rfl rfl rfl (hs_X3_readBarStatement hl h0 h1 h2 h3 h4 h5 h6 h7) bd

abbrev rm_X3_readStatement : Room := { frames := 10, cells := 4, slots := 30, locals := 226 }
def cd_X3_readStatement (T0 : ZTf) (T1 : ZTf) (T2 : ZTf) (T3 : ZTf) (T4 : ZTf) : List (Nat × ZTr) := [(0, tAld 0 1), (1, tC (zo 5) 4), (4, tCall0 2 T0 (zRcv 6) 7), (7, tIf_eq 15 10), (10, tAld 0 11), (11, tCall 1 4 30 T1 (zRcv 6) 14), (14, tRi zPz), (15, tAld 0 16), (16, tC (zo 9) 19), (19, tCall0 2 T0 (zRcv 6) 22), (22, tIf_eq 30 25), (25, tAld 0 26), (26, tCall0 1 T2 (zRcv 6) 29), (29, tRi zPz), (30, tAld 0 31), (31, tC (zo 11) 34), (34, tCall0 2 T0 (zRcv 6) 37), (37, tIf_eq 45 40), (40, tAld 0 41), (41, tCall0 1 T3 (zRcv 6) 44), (44, tRi zPz), (45, tAld 0 46), (46, tC (zi 1) 47), (47, tCall0 2 T4 (zRcv 6) 50), (50, tRi zPz)]
set_option maxRecDepth 100000 in
set_option maxHeartbeats 4000000 in
theorem hs_X3_readStatement {l : Launch} (hl : l.stackTraces = false) {T0 : ZTf} {T1 : ZTf} {T2 : ZTf} {T3 : ZTf} {T4 : ZTf} (h0 : zMet l yX3_isAt (Cond.code yX3_isAt cX3_isAt 2 (Option.some Jvm.ClassFile.FieldType.boolean) :: zG) rm_X3_isAt 0 0 T0) (h1 : zMet l yX3_readWorkerStatement (Cond.code yX3_readWorkerStatement cX3_readWorkerStatement 5 (Option.some Jvm.ClassFile.FieldType.boolean) :: zG) rm_X3_readWorkerStatement 4 30 T1) (h2 : zMet l yX3_readRowsStatement (Cond.code yX3_readRowsStatement cX3_readRowsStatement 2 (Option.some Jvm.ClassFile.FieldType.boolean) :: zG) rm_X3_readRowsStatement 0 0 T2) (h3 : zMet l yX3_readBarStatement (Cond.code yX3_readBarStatement cX3_readBarStatement 3 (Option.some Jvm.ClassFile.FieldType.boolean) :: zG) rm_X3_readBarStatement 0 0 T3) (h4 : zMet l yX3_fail (Cond.code yX3_fail cX3_fail 2 (Option.some Jvm.ClassFile.FieldType.boolean) :: zG) rm_X3_fail 0 0 T4) (p : Program) (e : Env) (s : State) (m : MethodId) (args : Array Value) (below : List Frame) (meth : Method) (c : Code) (D : va_G) (A : Nat → Prop) (a0 : Nat → Nat) (M0 : ZM) (K : ZRet) (KX : ZEx) (X : zCtx p l rm_X3_readStatement s m args meth c cX3_readStatement RX3 (Cond.code yX3_readStatement cX3_readStatement 1 (Option.some Jvm.ClassFile.FieldType.boolean) :: zG) 1 (Option.some Jvm.ClassFile.FieldType.boolean) D A a0 M0 4 30) (hnm : meth.name = yX3_readStatement.name) (hout : ∀ x ∈ c.exceptionTable.toList, False) : ∀ q ∈ cd_X3_readStatement T0 T1 T2 T3 T4, zSd p l e rm_X3_readStatement s m args below meth c 1 D A a0 M0 K KX 4 30 q.1 q.2 :=
    zall_c (zs_aload_n X (pc := 0) (q := 0) rfl (by decide +kernel)) <|
    zall_c (zs_gets X (pc := 1) (C := "ReviewTable$Keyword") (n1 := "WORKER") (d1 := "LReviewTable$Keyword;") (List.mem_of_getElem? (i := 4) rfl) (.tail _ gw_4_134) (by decide +kernel)) <|
    zall_c (zs_callV0 X (pc := 4) zc_X3 (fun _ ht => ⟨(zCB ht gw_4_101 gw_1_2 gw_4_98 rfl rfl (by decide +kernel) ⟨Nat.le_of_ble_eq_true rfl, Nat.le_of_ble_eq_true rfl⟩), ht _ (.tail _ gw_4_100), ht _ (.tail _ gp_6)⟩) h0 hout (by decide +kernel)) <|
    zall_c (zs_if_eq X (pc := 7) (off := 8) (by decide +kernel) (by decide)) <|
    zall_c (zs_aload_n X (pc := 10) (q := 0) rfl (by decide +kernel)) <|
    zall_c (zs_callV X (pc := 11) zc_X3 (fun _ ht => ⟨(zCB ht gw_4_139 gw_1_2 gw_4_136 rfl rfl (by decide +kernel) ⟨Nat.le_of_ble_eq_true rfl, Nat.le_of_ble_eq_true rfl⟩), ht _ (.tail _ gw_4_138), ht _ (.tail _ gp_12)⟩) h1 hout (by decide +kernel)) <|
    zall_c (zs_zret X (pc := 14) rfl zR_bool (by decide +kernel)) <|
    zall_c (zs_aload_n X (pc := 15) (q := 0) rfl (by decide +kernel)) <|
    zall_c (zs_gets X (pc := 16) (C := "ReviewTable$Keyword") (n1 := "ROWS") (d1 := "LReviewTable$Keyword;") (List.mem_of_getElem? (i := 8) rfl) (.tail _ gw_4_193) (by decide +kernel)) <|
    zall_c (zs_callV0 X (pc := 19) zc_X3 (fun _ ht => ⟨(zCB ht gw_4_101 gw_1_2 gw_4_98 rfl rfl (by decide +kernel) ⟨Nat.le_of_ble_eq_true rfl, Nat.le_of_ble_eq_true rfl⟩), ht _ (.tail _ gw_4_100), ht _ (.tail _ gp_6)⟩) h0 hout (by decide +kernel)) <|
    zall_c (zs_if_eq X (pc := 22) (off := 8) (by decide +kernel) (by decide)) <|
    zall_c (zs_aload_n X (pc := 25) (q := 0) rfl (by decide +kernel)) <|
    zall_c (zs_callV0 X (pc := 26) zc_X3 (fun _ ht => ⟨(zCB ht gw_4_198 gw_1_2 gw_4_195 rfl rfl (by decide +kernel) ⟨Nat.le_of_ble_eq_true rfl, Nat.le_of_ble_eq_true rfl⟩), ht _ (.tail _ gw_4_197), ht _ (.tail _ gp_14)⟩) h2 hout (by decide +kernel)) <|
    zall_c (zs_zret X (pc := 29) rfl zR_bool (by decide +kernel)) <|
    zall_c (zs_aload_n X (pc := 30) (q := 0) rfl (by decide +kernel)) <|
    zall_c (zs_gets X (pc := 31) (C := "ReviewTable$Keyword") (n1 := "BAR") (d1 := "LReviewTable$Keyword;") (List.mem_of_getElem? (i := 10) rfl) (.tail _ gw_4_213) (by decide +kernel)) <|
    zall_c (zs_callV0 X (pc := 34) zc_X3 (fun _ ht => ⟨(zCB ht gw_4_101 gw_1_2 gw_4_98 rfl rfl (by decide +kernel) ⟨Nat.le_of_ble_eq_true rfl, Nat.le_of_ble_eq_true rfl⟩), ht _ (.tail _ gw_4_100), ht _ (.tail _ gp_6)⟩) h0 hout (by decide +kernel)) <|
    zall_c (zs_if_eq X (pc := 37) (off := 8) (by decide +kernel) (by decide)) <|
    zall_c (zs_aload_n X (pc := 40) (q := 0) rfl (by decide +kernel)) <|
    zall_c (zs_callV0 X (pc := 41) zc_X3 (fun _ ht => ⟨(zCB ht gw_4_218 gw_1_2 gw_4_215 rfl rfl (by decide +kernel) ⟨Nat.le_of_ble_eq_true rfl, Nat.le_of_ble_eq_true rfl⟩), ht _ (.tail _ gw_4_217), ht _ (.tail _ gp_15)⟩) h3 hout (by decide +kernel)) <|
    zall_c (zs_zret X (pc := 44) rfl zR_bool (by decide +kernel)) <|
    zall_c (zs_aload_n X (pc := 45) (q := 0) rfl (by decide +kernel)) <|
    zall_c (zs_iconst X (pc := 46) (by decide) (by decide +kernel)) <|
    zall_c (zs_callV0 X (pc := 47) zc_X3 (fun _ ht => ⟨(zCB ht gw_4_111 gw_1_2 gw_4_108 rfl rfl (by decide +kernel) ⟨Nat.le_of_ble_eq_true rfl, Nat.le_of_ble_eq_true rfl⟩), ht _ (.tail _ gw_4_110), ht _ (.tail _ gp_7)⟩) h4 hout (by decide +kernel)) <|
    zall_c (zs_zret X (pc := 50) rfl zR_bool (by decide +kernel)) <|
    zall_n
theorem met_X3_readStatement {l : Launch} (hl : l.stackTraces = false) {T0 : ZTf} {T1 : ZTf} {T2 : ZTf} {T3 : ZTf} {T4 : ZTf} (h0 : zMet l yX3_isAt (Cond.code yX3_isAt cX3_isAt 2 (Option.some Jvm.ClassFile.FieldType.boolean) :: zG) rm_X3_isAt 0 0 T0) (h1 : zMet l yX3_readWorkerStatement (Cond.code yX3_readWorkerStatement cX3_readWorkerStatement 5 (Option.some Jvm.ClassFile.FieldType.boolean) :: zG) rm_X3_readWorkerStatement 4 30 T1) (h2 : zMet l yX3_readRowsStatement (Cond.code yX3_readRowsStatement cX3_readRowsStatement 2 (Option.some Jvm.ClassFile.FieldType.boolean) :: zG) rm_X3_readRowsStatement 0 0 T2) (h3 : zMet l yX3_readBarStatement (Cond.code yX3_readBarStatement cX3_readBarStatement 3 (Option.some Jvm.ClassFile.FieldType.boolean) :: zG) rm_X3_readBarStatement 0 0 T3) (h4 : zMet l yX3_fail (Cond.code yX3_fail cX3_fail 2 (Option.some Jvm.ClassFile.FieldType.boolean) :: zG) rm_X3_fail 0 0 T4) {T : ZTf} (bd : zBd (cd_X3_readStatement T0 T1 T2 T3 T4) 1 4 30 T) : zMet l yX3_readStatement (Cond.code yX3_readStatement cX3_readStatement 1 (Option.some Jvm.ClassFile.FieldType.boolean) :: zG) rm_X3_readStatement 4 30 T := zMet_of hl (by decide +kernel) rfl rfl rfl rfl (hs_X3_readStatement hl h0 h1 h2 h3 h4) bd

abbrev rm_X3_parseText : Room := { frames := 11, cells := 508, slots := 3810, locals := 246 }
def cd_X3_parseText (T0 : ZTf) (T1 : ZTf) (T2 : ZTf) (T3 : ZTf) : List (Nat × ZTr) := [(0, tAld 0 1), (1, tC (zi 0) 2), (2, tPutI 6 0 (fun _ => True) 5), (5, tAld 0 6), (6, tC (zi (-1)) 7), (7, tPutI 6 1 (fun _ => True) 10), (10, tAld 0 11), (11, tC (zi 0) 12), (12, tPutI 6 6 (fun _ => True) 15), (15, tAld 0 16), (16, tGetR 6 3 19), (19, tCall0 1 T0 (zRcv 8) 22), (22, tAld 0 23), (23, tCall0 1 T1 (zRcv 6) 26), (26, tAld 0 27), (27, tCall0 1 T2 (zRcv 6) 30), (30, tIf_ne 35 33), (33, tC (zi 0) 34), (34, tRi zPz), (35, tC (zi 0) 36), (36, tIst 1 37), (37, tIld 1 38), (38, tC (zi 500) 41), (41, tIc_ge 67 44), (44, tAld 0 45), (45, tGetI 6 4 48), (48, tC (zi 3) 49), (49, tIc_eq 67 52), (52, tAld 0 53), (53, tCall 1 4 30 T3 (zRcv 6) 56), (56, tIf_ne 61 59), (59, tC (zi 0) 60), (60, tRi zPz), (61, tInc 1 1 64), (64, tGo 37), (67, tC (zi 1) 68), (68, tRi zPz)]
set_option maxRecDepth 100000 in
set_option maxHeartbeats 4000000 in
theorem hs_X3_parseText {l : Launch} (hl : l.stackTraces = false) {T0 : ZTf} {T1 : ZTf} {T2 : ZTf} {T3 : ZTf} (h0 : zMet l yX5_clear (Cond.code yX5_clear cX5_clear 1 (Option.none : Option Jvm.ClassFile.FieldType) :: zG) rm_X5_clear 0 0 T0) (h1 : zMet l yX3_nextToken (Cond.code yX3_nextToken cX3_nextToken 1 (Option.none : Option Jvm.ClassFile.FieldType) :: zG) rm_X3_nextToken 0 0 T1) (h2 : zMet l yX3_readTableStatement (Cond.code yX3_readTableStatement cX3_readTableStatement 1 (Option.some Jvm.ClassFile.FieldType.boolean) :: zG) rm_X3_readTableStatement 0 0 T2) (h3 : zMet l yX3_readStatement (Cond.code yX3_readStatement cX3_readStatement 1 (Option.some Jvm.ClassFile.FieldType.boolean) :: zG) rm_X3_readStatement 4 30 T3) (p : Program) (e : Env) (s : State) (m : MethodId) (args : Array Value) (below : List Frame) (meth : Method) (c : Code) (D : va_G) (A : Nat → Prop) (a0 : Nat → Nat) (M0 : ZM) (K : ZRet) (KX : ZEx) (X : zCtx p l rm_X3_parseText s m args meth c cX3_parseText RX3 (Cond.code yX3_parseText cX3_parseText 2 (Option.some Jvm.ClassFile.FieldType.boolean) :: zG) 2 (Option.some Jvm.ClassFile.FieldType.boolean) D A a0 M0 508 3810) (hnm : meth.name = yX3_parseText.name) (hout : ∀ x ∈ c.exceptionTable.toList, False) : ∀ q ∈ cd_X3_parseText T0 T1 T2 T3, zSd p l e rm_X3_parseText s m args below meth c 2 D A a0 M0 K KX 508 3810 q.1 q.2 :=
    zall_c (zs_aload_n X (pc := 0) (q := 0) rfl (by decide +kernel)) <|
    zall_c (zs_iconst X (pc := 1) (by decide) (by decide +kernel)) <|
    zall_c (zs_puti X (pc := 2) (ty := Jvm.ClassFile.FieldType.int) zc_X3 (by decide) (zin ui_X3) tyX3_ok nmX3 (.tail _ gw_2_23) rfl (by decide +kernel) (by decide +kernel) (by decide +kernel) zP_int) <|
    zall_c (zs_aload_n X (pc := 5) (q := 0) rfl (by decide +kernel)) <|
    zall_c (zs_iconst X (pc := 6) (by decide) (by decide +kernel)) <|
    zall_c (zs_puti X (pc := 7) (ty := Jvm.ClassFile.FieldType.int) zc_X3 (by decide) (zin ui_X3) tyX3_ok nmX3 (.tail _ gw_2_25) rfl (by decide +kernel) (by decide +kernel) (by decide +kernel) zP_int) <|
    zall_c (zs_aload_n X (pc := 10) (q := 0) rfl (by decide +kernel)) <|
    zall_c (zs_iconst X (pc := 11) (by decide) (by decide +kernel)) <|
    zall_c (zs_puti X (pc := 12) (ty := Jvm.ClassFile.FieldType.int) zc_X3 (by decide) (zin ui_X3) tyX3_ok nmX3 (.tail _ gw_2_33) rfl (by decide +kernel) (by decide +kernel) (by decide +kernel) zP_int) <|
    zall_c (zs_aload_n X (pc := 15) (q := 0) rfl (by decide +kernel)) <|
    zall_c (zs_getr X (pc := 16) zc_X3 (by decide) (zin ui_X3) (.tail _ gw_2_29) (by decide +kernel) (by decide +kernel)) <|
    zall_c (zs_callV0 X (pc := 19) zc_X5 (fun _ ht => ⟨(zCB ht gw_4_69 gw_1_8 gw_4_66 rfl rfl (by decide +kernel) ⟨Nat.le_of_ble_eq_true rfl, Nat.le_of_ble_eq_true rfl⟩), ht _ (.tail _ gw_4_67), ht _ (.tail _ gw_4_68)⟩) h0 hout (by decide +kernel)) <|
    zall_c (zs_aload_n X (pc := 22) (q := 0) rfl (by decide +kernel)) <|
    zall_c (zs_callV0 X (pc := 23) zc_X3 (fun _ ht => ⟨(zCB ht gw_4_76 gw_1_2 gw_4_73 rfl rfl (by decide +kernel) ⟨Nat.le_of_ble_eq_true rfl, Nat.le_of_ble_eq_true rfl⟩), ht _ (.tail _ gw_4_75), ht _ (.tail _ gp_1)⟩) h1 hout (by decide +kernel)) <|
    zall_c (zs_aload_n X (pc := 26) (q := 0) rfl (by decide +kernel)) <|
    zall_c (zs_callV0 X (pc := 27) zc_X3 (fun _ ht => ⟨(zCB ht gw_4_91 gw_1_2 gw_4_88 rfl rfl (by decide +kernel) ⟨Nat.le_of_ble_eq_true rfl, Nat.le_of_ble_eq_true rfl⟩), ht _ (.tail _ gw_4_90), ht _ (.tail _ gp_4)⟩) h2 hout (by decide +kernel)) <|
    zall_c (zs_if_ne X (pc := 30) (off := 5) (by decide +kernel) (by decide)) <|
    zall_c (zs_iconst X (pc := 33) (by decide) (by decide +kernel)) <|
    zall_c (zs_zret X (pc := 34) rfl zR_bool (by decide +kernel)) <|
    zall_c (zs_iconst X (pc := 35) (by decide) (by decide +kernel)) <|
    zall_c (zs_istore_n X (pc := 36) (q := 1) rfl (by decide) (by decide +kernel)) <|
    zall_c (zs_iload_n X (pc := 37) (q := 1) rfl (by decide +kernel)) <|
    zall_c (zs_sipush X (pc := 38) (by decide) (by decide +kernel) (by decide +kernel)) <|
    zall_c (zs_icmp_ge X (pc := 41) (off := 26) (by decide +kernel) (by decide)) <|
    zall_c (zs_aload_n X (pc := 44) (q := 0) rfl (by decide +kernel)) <|
    zall_c (zs_geti X (pc := 45) zc_X3 (by decide) (zin ui_X3) (.tail _ gw_2_31) (by decide +kernel) (by decide +kernel)) <|
    zall_c (zs_iconst X (pc := 48) (by decide) (by decide +kernel)) <|
    zall_c (zs_icmp_eq X (pc := 49) (off := 18) (by decide +kernel) (by decide)) <|
    zall_c (zs_aload_n X (pc := 52) (q := 0) rfl (by decide +kernel)) <|
    zall_c (zs_callV X (pc := 53) zc_X3 (fun _ ht => ⟨(zCB ht gw_4_133 gw_1_2 gw_4_130 rfl rfl (by decide +kernel) ⟨Nat.le_of_ble_eq_true rfl, Nat.le_of_ble_eq_true rfl⟩), ht _ (.tail _ gw_4_132), ht _ (.tail _ gp_11)⟩) h3 hout (by decide +kernel)) <|
    zall_c (zs_if_ne X (pc := 56) (off := 5) (by decide +kernel) (by decide)) <|
    zall_c (zs_iconst X (pc := 59) (by decide) (by decide +kernel)) <|
    zall_c (zs_zret X (pc := 60) rfl zR_bool (by decide +kernel)) <|
    zall_c (zs_iinc X (pc := 61) (by decide) (by decide +kernel)) <|
    zall_c (zs_goto X (pc := 64) (off := (-27)) (by decide +kernel) (by decide)) <|
    zall_c (zs_iconst X (pc := 67) (by decide) (by decide +kernel)) <|
    zall_c (zs_zret X (pc := 68) rfl zR_bool (by decide +kernel)) <|
    zall_n
theorem met_X3_parseText {l : Launch} (hl : l.stackTraces = false) {T0 : ZTf} {T1 : ZTf} {T2 : ZTf} {T3 : ZTf} (h0 : zMet l yX5_clear (Cond.code yX5_clear cX5_clear 1 (Option.none : Option Jvm.ClassFile.FieldType) :: zG) rm_X5_clear 0 0 T0) (h1 : zMet l yX3_nextToken (Cond.code yX3_nextToken cX3_nextToken 1 (Option.none : Option Jvm.ClassFile.FieldType) :: zG) rm_X3_nextToken 0 0 T1) (h2 : zMet l yX3_readTableStatement (Cond.code yX3_readTableStatement cX3_readTableStatement 1 (Option.some Jvm.ClassFile.FieldType.boolean) :: zG) rm_X3_readTableStatement 0 0 T2) (h3 : zMet l yX3_readStatement (Cond.code yX3_readStatement cX3_readStatement 1 (Option.some Jvm.ClassFile.FieldType.boolean) :: zG) rm_X3_readStatement 4 30 T3) {T : ZTf} (bd : zBd (cd_X3_parseText T0 T1 T2 T3) 2 508 3810 T) : zMet l yX3_parseText (Cond.code yX3_parseText cX3_parseText 2 (Option.some Jvm.ClassFile.FieldType.boolean) :: zG) rm_X3_parseText 508 3810 T := zMet_of hl (by decide +kernel) rfl rfl rfl rfl (hs_X3_parseText hl h0 h1 h2 h3) bd

abbrev rm_X8_load : Room := { frames := 12, cells := 508, slots := 3810, locals := 267 }
def cd_X8_load (T0 : ZTf) (T1 : ZTf) (T2 : ZTf) : List (Nat × ZTr) := [(0, tAld 0 1), (1, tGetR 11 0 4), (4, tCall 1 508 3810 T0 (zRcv 6) 7), (7, tIst 1 8), (8, tAld 0 9), (9, tAld 0 10), (10, tGetR 11 0 13), (13, tGetI 6 0 16), (16, tPutI 11 8 (fun _ => True) 19), (19, tAld 0 20), (20, tAld 0 21), (21, tGetR 11 0 24), (24, tGetI 6 1 27), (27, tPutI 11 9 (fun _ => True) 30), (30, tAld 0 31), (31, tGetR 11 1 34), (34, tC (zi 0) 35), (35, tPutI 5 1 (fun _ => True) 38), (38, tIld 1 39), (39, tIf_ne 45 42), (42, tC (zi (-4)) 44), (44, tRi (fun _ => True)), (45, tAld 0 46), (46, tGetR 11 3 49), (49, tAld 0 50), (50, tGetR 11 2 53), (53, tCall0 2 T1 (zRcv 4) 56), (56, tAld 0 57), (57, tGetR 11 2 60), (60, tAld 0 61), (61, tGetR 11 0 64), (64, tGetR 6 3 67), (67, tCall0 2 T2 (zRcv 8) 70), (70, tAld 0 71), (71, tGetR 11 2 74), (74, tGetI 8 4 77), (77, tRi (fun _ => True))]
set_option maxRecDepth 100000 in
set_option maxHeartbeats 4000000 in
theorem hs_X8_load {l : Launch} (hl : l.stackTraces = false) {T0 : ZTf} {T1 : ZTf} {T2 : ZTf} (h0 : zMet l yX3_parseText (Cond.code yX3_parseText cX3_parseText 2 (Option.some Jvm.ClassFile.FieldType.boolean) :: zG) rm_X3_parseText 508 3810 T0) (h1 : zMet l yX0_remember (Cond.code yX0_remember cX0_remember 2 (Option.none : Option Jvm.ClassFile.FieldType) :: zG) rm_X0_remember 0 0 T1) (h2 : zMet l yX5_copyFrom (Cond.code yX5_copyFrom cX5_copyFrom 3 (Option.none : Option Jvm.ClassFile.FieldType) :: zG) rm_X5_copyFrom 0 0 T2) (p : Program) (e : Env) (s : State) (m : MethodId) (args : Array Value) (below : List Frame) (meth : Method) (c : Code) (D : va_G) (A : Nat → Prop) (a0 : Nat → Nat) (M0 : ZM) (K : ZRet) (KX : ZEx) (X : zCtx p l rm_X8_load s m args meth c cX8_load RX8 (Cond.code yX8_load cX8_load 2 (Option.some Jvm.ClassFile.FieldType.int) :: zG) 2 (Option.some Jvm.ClassFile.FieldType.int) D A a0 M0 508 3810) (hnm : meth.name = yX8_load.name) (hout : ∀ x ∈ c.exceptionTable.toList, False) : ∀ q ∈ cd_X8_load T0 T1 T2, zSd p l e rm_X8_load s m args below meth c 2 D A a0 M0 K KX 508 3810 q.1 q.2 :=
    zall_c (zs_aload_n X (pc := 0) (q := 0) rfl (by decide +kernel)) <|
    zall_c (zs_getr X (pc := 1) zc_X8 (by decide) (zin ui_X8) (.tail _ gw_2_114) (by decide +kernel) (by decide +kernel)) <|
    zall_c (zs_callV X (pc := 4) zc_X3 (fun _ ht => ⟨(zCB ht gw_4_65 gw_1_2 gw_4_62 rfl rfl (by decide +kernel) ⟨Nat.le_of_ble_eq_true rfl, Nat.le_of_ble_eq_true rfl⟩), ht _ (.tail _ gw_4_63), ht _ (.tail _ gw_4_64)⟩) h0 hout (by decide +kernel)) <|
    zall_c (zs_istore_n X (pc := 7) (q := 1) rfl (by decide) (by decide +kernel)) <|
    zall_c (zs_aload_n X (pc := 8) (q := 0) rfl (by decide +kernel)) <|
    zall_c (zs_aload_n X (pc := 9) (q := 0) rfl (by decide +kernel)) <|
    zall_c (zs_getr X (pc := 10) zc_X8 (by decide) (zin ui_X8) (.tail _ gw_2_114) (by decide +kernel) (by decide +kernel)) <|
    zall_c (zs_geti X (pc := 13) zc_X3 (by decide) (zin ui_X3) (.tail _ gw_2_24) (by decide +kernel) (by decide +kernel)) <|
    zall_c (zs_puti X (pc := 16) (ty := Jvm.ClassFile.FieldType.int) zc_X8 (by decide) (zin ui_X8) tyX8_ok nmX8 (.tail _ gw_2_122) rfl (by decide +kernel) (by decide +kernel) (by decide +kernel) zP_int) <|
    zall_c (zs_aload_n X (pc := 19) (q := 0) rfl (by decide +kernel)) <|
    zall_c (zs_aload_n X (pc := 20) (q := 0) rfl (by decide +kernel)) <|
    zall_c (zs_getr X (pc := 21) zc_X8 (by decide) (zin ui_X8) (.tail _ gw_2_114) (by decide +kernel) (by decide +kernel)) <|
    zall_c (zs_geti X (pc := 24) zc_X3 (by decide) (zin ui_X3) (.tail _ gw_2_26) (by decide +kernel) (by decide +kernel)) <|
    zall_c (zs_puti X (pc := 27) (ty := Jvm.ClassFile.FieldType.int) zc_X8 (by decide) (zin ui_X8) tyX8_ok nmX8 (.tail _ gw_2_123) rfl (by decide +kernel) (by decide +kernel) (by decide +kernel) zP_int) <|
    zall_c (zs_aload_n X (pc := 30) (q := 0) rfl (by decide +kernel)) <|
    zall_c (zs_getr X (pc := 31) zc_X8 (by decide) (zin ui_X8) (.tail _ gw_2_115) (by decide +kernel) (by decide +kernel)) <|
    zall_c (zs_iconst X (pc := 34) (by decide) (by decide +kernel)) <|
    zall_c (zs_puti X (pc := 35) (ty := Jvm.ClassFile.FieldType.int) zc_X1 (by decide) (zin ui_X1) tyX1_ok nmX1 (.tail _ gw_1_86) rfl (by decide +kernel) (by decide +kernel) (by decide +kernel) zP_int) <|
    zall_c (zs_iload_n X (pc := 38) (q := 1) rfl (by decide +kernel)) <|
    zall_c (zs_if_ne X (pc := 39) (off := 6) (by decide +kernel) (by decide)) <|
    zall_c (zs_bipush X (pc := 42) (by decide) (by decide +kernel) (by decide +kernel)) <|
    zall_c (zs_iret X (pc := 44) rfl (by decide +kernel)) <|
    zall_c (zs_aload_n X (pc := 45) (q := 0) rfl (by decide +kernel)) <|
    zall_c (zs_getr X (pc := 46) zc_X8 (by decide) (zin ui_X8) (.tail _ gw_2_117) (by decide +kernel) (by decide +kernel)) <|
    zall_c (zs_aload_n X (pc := 49) (q := 0) rfl (by decide +kernel)) <|
    zall_c (zs_getr X (pc := 50) zc_X8 (by decide) (zin ui_X8) (.tail _ gw_2_116) (by decide +kernel) (by decide +kernel)) <|
    zall_c (zs_callV0 X (pc := 53) zc_X0 (fun _ ht => ⟨(zCB ht gw_4_237 gw_1_11 gw_4_234 rfl rfl (by decide +kernel) ⟨Nat.le_of_ble_eq_true rfl, Nat.le_of_ble_eq_true rfl⟩), ht _ (.tail _ gw_4_235), ht _ (.tail _ gw_4_236)⟩) h1 hout (by decide +kernel)) <|
    zall_c (zs_aload_n X (pc := 56) (q := 0) rfl (by decide +kernel)) <|
    zall_c (zs_getr X (pc := 57) zc_X8 (by decide) (zin ui_X8) (.tail _ gw_2_116) (by decide +kernel) (by decide +kernel)) <|
    zall_c (zs_aload_n X (pc := 60) (q := 0) rfl (by decide +kernel)) <|
    zall_c (zs_getr X (pc := 61) zc_X8 (by decide) (zin ui_X8) (.tail _ gw_2_114) (by decide +kernel) (by decide +kernel)) <|
    zall_c (zs_getr X (pc := 64) zc_X3 (by decide) (zin ui_X3) (.tail _ gw_2_30) (by decide +kernel) (by decide +kernel)) <|
    zall_c (zs_callV0 X (pc := 67) zc_X5 (fun _ ht => ⟨(zCB ht gw_5_1 gw_1_8 gw_5_13 rfl rfl (by decide +kernel) ⟨Nat.le_of_ble_eq_true rfl, Nat.le_of_ble_eq_true rfl⟩), ht _ (.tail _ gw_4_239), ht _ (.tail _ gw_5_0)⟩) h2 hout (by decide +kernel)) <|
    zall_c (zs_aload_n X (pc := 70) (q := 0) rfl (by decide +kernel)) <|
    zall_c (zs_getr X (pc := 71) zc_X8 (by decide) (zin ui_X8) (.tail _ gw_2_116) (by decide +kernel) (by decide +kernel)) <|
    zall_c (zs_geti X (pc := 74) zc_X5 (by decide) (zin ui_X5) (.tail _ gw_1_230) (by decide +kernel) (by decide +kernel)) <|
    zall_c (zs_iret X (pc := 77) rfl (by decide +kernel)) <|
    zall_n
theorem met_X8_load {l : Launch} (hl : l.stackTraces = false) {T0 : ZTf} {T1 : ZTf} {T2 : ZTf} (h0 : zMet l yX3_parseText (Cond.code yX3_parseText cX3_parseText 2 (Option.some Jvm.ClassFile.FieldType.boolean) :: zG) rm_X3_parseText 508 3810 T0) (h1 : zMet l yX0_remember (Cond.code yX0_remember cX0_remember 2 (Option.none : Option Jvm.ClassFile.FieldType) :: zG) rm_X0_remember 0 0 T1) (h2 : zMet l yX5_copyFrom (Cond.code yX5_copyFrom cX5_copyFrom 3 (Option.none : Option Jvm.ClassFile.FieldType) :: zG) rm_X5_copyFrom 0 0 T2) {T : ZTf} (bd : zBd (cd_X8_load T0 T1 T2) 2 508 3810 T) : zMet l yX8_load (Cond.code yX8_load cX8_load 2 (Option.some Jvm.ClassFile.FieldType.int) :: zG) rm_X8_load 508 3810 T := zMet_of hl (by decide +kernel) rfl rfl rfl rfl (hs_X8_load hl h0 h1 h2) bd
