abbrev rm_X9_suspended : Room := { frames := 3, cells := 0, slots := 0, locals := 73 }
def cd_X9_suspended (T0 : ZTf) (T1 : ZTf) : List (Nat × ZTr) := [(0, tAld 0 1), (1, tC (zi 0) 2), (2, tPutI 12 0 (fun _ => True) 5), (5, tC (zi 0) 6), (6, tIst 1 7), (7, tC (zi 0) 8), (8, tIst 2 9), (9, tIld 2 10), (10, tAld 0 11), (11, tCall0 1 T0 (zRcv 12) 14), (14, tIc_ge 41 17), (17, tIld 1 18), (18, tAld 0 19), (19, tIld 2 20), (20, tCall0 2 T1 (zRcv 12) 23), (23, tIf_eq 32 26), (26, tC (zi 1) 27), (27, tIld 2 28), (28, tBif zshl 29), (29, tGo 33), (32, tC (zi 0) 33), (33, tBif zor 34), (34, tIst 1 35), (35, tInc 2 1 38), (38, tGo 9), (41, tIld 1 42), (42, tRi (fun _ => True))]
set_option maxRecDepth 100000 in
set_option maxHeartbeats 4000000 in
theorem hs_X9_suspended {l : Launch} (hl : l.stackTraces = false) {T0 : ZTf} {T1 : ZTf} (h0 : zMet l yX9_workers (Cond.code yX9_workers cX9_workers 1 (Option.some Jvm.ClassFile.FieldType.int) :: zG) rm_X9_workers 0 0 T0) (h1 : zMet l yX9_isSuspended (Cond.code yX9_isSuspended cX9_isSuspended 2 (Option.some Jvm.ClassFile.FieldType.boolean) :: zG) rm_X9_isSuspended 0 0 T1) (p : Program) (e : Env) (s : State) (m : MethodId) (args : Array Value) (below : List Frame) (meth : Method) (c : Code) (D : va_G) (A : Nat → Prop) (a0 : Nat → Nat) (M0 : ZM) (K : ZRet) (KX : ZEx) (X : zCtx p l rm_X9_suspended s m args meth c cX9_suspended RX9 (Cond.code yX9_suspended cX9_suspended 3 (Option.some Jvm.ClassFile.FieldType.int) :: zG) 3 (Option.some Jvm.ClassFile.FieldType.int) D A a0 M0 0 0) (hnm : meth.name = yX9_suspended.name) (hout : ∀ x ∈ c.exceptionTable.toList, False) : ∀ q ∈ cd_X9_suspended T0 T1, zSd p l e rm_X9_suspended s m args below meth c 3 D A a0 M0 K KX 0 0 q.1 q.2 :=
    zall_c (zs_aload_n X (pc := 0) (q := 0) rfl (by decide +kernel)) <|
    zall_c (zs_iconst X (pc := 1) (by decide) (by decide +kernel)) <|
    zall_c (zs_puti X (pc := 2) (ty := Jvm.ClassFile.FieldType.int) zc_X9 (by decide) (zin ui_X9) tyX9_ok nmX9 (.tail _ gw_7_215) rfl (by decide +kernel) (by decide +kernel) (by decide +kernel) zP_int) <|
    zall_c (zs_iconst X (pc := 5) (by decide) (by decide +kernel)) <|
    zall_c (zs_istore_n X (pc := 6) (q := 1) rfl (by decide) (by decide +kernel)) <|
    zall_c (zs_iconst X (pc := 7) (by decide) (by decide +kernel)) <|
    zall_c (zs_istore_n X (pc := 8) (q := 2) rfl (by decide) (by decide +kernel)) <|
    zall_c (zs_iload_n X (pc := 9) (q := 2) rfl (by decide +kernel)) <|
    zall_c (zs_aload_n X (pc := 10) (q := 0) rfl (by decide +kernel)) <|
    zall_c (zs_callV0 X (pc := 11) zc_X9 (fun _ ht => ⟨(zCB ht gw_8_136 gw_1_13 gw_8_133 rfl rfl (by decide +kernel) ⟨Nat.le_of_ble_eq_true rfl, Nat.le_of_ble_eq_true rfl⟩), ht _ (.tail _ gw_8_135), ht _ (.tail _ gp_44)⟩) h0 hout (by decide +kernel)) <|
    zall_c (zs_icmp_ge X (pc := 14) (off := 27) (by decide +kernel) (by decide)) <|
    zall_c (zs_iload_n X (pc := 17) (q := 1) rfl (by decide +kernel)) <|
    zall_c (zs_aload_n X (pc := 18) (q := 0) rfl (by decide +kernel)) <|
    zall_c (zs_iload_n X (pc := 19) (q := 2) rfl (by decide +kernel)) <|
    zall_c (zs_callV0 X (pc := 20) zc_X9 (fun _ ht => ⟨(zCB ht gw_9_78 gw_1_13 gw_9_75 rfl rfl (by decide +kernel) ⟨Nat.le_of_ble_eq_true rfl, Nat.le_of_ble_eq_true rfl⟩), ht _ (.tail _ gw_9_77), ht _ (.tail _ gp_77)⟩) h1 hout (by decide +kernel)) <|
    zall_c (zs_if_eq X (pc := 23) (off := 9) (by decide +kernel) (by decide)) <|
    zall_c (zs_iconst X (pc := 26) (by decide) (by decide +kernel)) <|
    zall_c (zs_iload_n X (pc := 27) (q := 2) rfl (by decide +kernel)) <|
    zall_c (zs_ishl X (pc := 28) (by decide +kernel)) <|
    zall_c (zs_goto X (pc := 29) (off := 4) (by decide +kernel) (by decide)) <|
    zall_c (zs_iconst X (pc := 32) (by decide) (by decide +kernel)) <|
    zall_c (zs_ior X (pc := 33) (by decide +kernel)) <|
    zall_c (zs_istore_n X (pc := 34) (q := 1) rfl (by decide) (by decide +kernel)) <|
    zall_c (zs_iinc X (pc := 35) (by decide) (by decide +kernel)) <|
    zall_c (zs_goto X (pc := 38) (off := (-29)) (by decide +kernel) (by decide)) <|
    zall_c (zs_iload_n X (pc := 41) (q := 1) rfl (by decide +kernel)) <|
    zall_c (zs_iret X (pc := 42) rfl (by decide +kernel)) <|
    zall_n
theorem met_X9_suspended {l : Launch} (hl : l.stackTraces = false) {T0 : ZTf} {T1 : ZTf} (h0 : zMet l yX9_workers (Cond.code yX9_workers cX9_workers 1 (Option.some Jvm.ClassFile.FieldType.int) :: zG) rm_X9_workers 0 0 T0) (h1 : zMet l yX9_isSuspended (Cond.code yX9_isSuspended cX9_isSuspended 2 (Option.some Jvm.ClassFile.FieldType.boolean) :: zG) rm_X9_isSuspended 0 0 T1) {T : ZTf} (bd : zBd (cd_X9_suspended T0 T1) 3 0 0 T) : zMet l yX9_suspended (Cond.code yX9_suspended cX9_suspended 3 (Option.some Jvm.ClassFile.FieldType.int) :: zG) rm_X9_suspended 0 0 T := zMet_of hl (by decide +kernel) rfl rfl rfl rfl (hs_X9_suspended hl h0 h1) bd

abbrev rm_X9_riskOf : Room := { frames := 2, cells := 0, slots := 0, locals := 52 }
def cd_X9_riskOf (T0 : ZTf) (T1 : ZTf) (T2 : ZTf) (T3 : ZTf) : List (Nat × ZTr) := [(0, tC (zi (-1)) 1), (1, tIst 2 2), (2, tC (zi 0) 3), (3, tIst 3 4), (4, tIld 3 5), (5, tAld 0 6), (6, tCall0 1 T0 (zRcv 12) 9), (9, tIc_ge 53 12), (12, tAld 0 13), (13, tIld 3 14), (14, tC (zi 3) 15), (15, tCall0 3 T1 (zRcv 12) 18), (18, tIst 4 20), (20, tAld 0 21), (21, tIld 1 22), (22, tC (zi 5) 23), (23, tCall0 3 T2 (zRcv 12) 26), (26, tIld 3 27), (27, tCall0 2 T3 zAny 30), (30, tIf_eq 47 33), (33, tIld 2 34), (34, tC (zi (-1)) 35), (35, tIc_eq 44 38), (38, tIld 4 40), (40, tIld 2 41), (41, tIc_ge 47 44), (44, tIld 4 46), (46, tIst 2 47), (47, tInc 3 1 50), (50, tGo 4), (53, tIld 2 54), (54, tRi (fun _ => True))]
set_option maxRecDepth 100000 in
set_option maxHeartbeats 4000000 in
theorem hs_X9_riskOf {l : Launch} (hl : l.stackTraces = false) {T0 : ZTf} {T1 : ZTf} {T2 : ZTf} {T3 : ZTf} (h0 : zMet l yX9_workers (Cond.code yX9_workers cX9_workers 1 (Option.some Jvm.ClassFile.FieldType.int) :: zG) rm_X9_workers 0 0 T0) (h1 : zMet l yX9_ofWorker (Cond.code yX9_ofWorker cX9_ofWorker 3 (Option.some Jvm.ClassFile.FieldType.int) :: zG) rm_X9_ofWorker 0 0 T1) (h2 : zMet l yX9_ofRow (Cond.code yX9_ofRow cX9_ofRow 3 (Option.some Jvm.ClassFile.FieldType.int) :: zG) rm_X9_ofRow 0 0 T2) (h3 : zMet l yX9_has (Cond.code yX9_has cX9_has 2 (Option.some Jvm.ClassFile.FieldType.boolean) :: zG) rm_X9_has 0 0 T3) (p : Program) (e : Env) (s : State) (m : MethodId) (args : Array Value) (below : List Frame) (meth : Method) (c : Code) (D : va_G) (A : Nat → Prop) (a0 : Nat → Nat) (M0 : ZM) (K : ZRet) (KX : ZEx) (X : zCtx p l rm_X9_riskOf s m args meth c cX9_riskOf RX9 (Cond.code yX9_riskOf cX9_riskOf 5 (Option.some Jvm.ClassFile.FieldType.int) :: zG) 5 (Option.some Jvm.ClassFile.FieldType.int) D A a0 M0 0 0) (hnm : meth.name = yX9_riskOf.name) (hout : ∀ x ∈ c.exceptionTable.toList, False) : ∀ q ∈ cd_X9_riskOf T0 T1 T2 T3, zSd p l e rm_X9_riskOf s m args below meth c 5 D A a0 M0 K KX 0 0 q.1 q.2 :=
    zall_c (zs_iconst X (pc := 0) (by decide) (by decide +kernel)) <|
    zall_c (zs_istore_n X (pc := 1) (q := 2) rfl (by decide) (by decide +kernel)) <|
    zall_c (zs_iconst X (pc := 2) (by decide) (by decide +kernel)) <|
    zall_c (zs_istore_n X (pc := 3) (q := 3) rfl (by decide) (by decide +kernel)) <|
    zall_c (zs_iload_n X (pc := 4) (q := 3) rfl (by decide +kernel)) <|
    zall_c (zs_aload_n X (pc := 5) (q := 0) rfl (by decide +kernel)) <|
    zall_c (zs_callV0 X (pc := 6) zc_X9 (fun _ ht => ⟨(zCB ht gw_8_136 gw_1_13 gw_8_133 rfl rfl (by decide +kernel) ⟨Nat.le_of_ble_eq_true rfl, Nat.le_of_ble_eq_true rfl⟩), ht _ (.tail _ gw_8_135), ht _ (.tail _ gp_44)⟩) h0 hout (by decide +kernel)) <|
    zall_c (zs_icmp_ge X (pc := 9) (off := 44) (by decide +kernel) (by decide)) <|
    zall_c (zs_aload_n X (pc := 12) (q := 0) rfl (by decide +kernel)) <|
    zall_c (zs_iload_n X (pc := 13) (q := 3) rfl (by decide +kernel)) <|
    zall_c (zs_iconst X (pc := 14) (by decide) (by decide +kernel)) <|
    zall_c (zs_callV0 X (pc := 15) zc_X9 (fun _ ht => ⟨(zCB ht gw_8_161 gw_1_13 gw_8_158 rfl rfl (by decide +kernel) ⟨Nat.le_of_ble_eq_true rfl, Nat.le_of_ble_eq_true rfl⟩), ht _ (.tail _ gw_8_160), ht _ (.tail _ gp_48)⟩) h1 hout (by decide +kernel)) <|
    zall_c (zs_istore X (pc := 18) (by decide) (by decide +kernel)) <|
    zall_c (zs_aload_n X (pc := 20) (q := 0) rfl (by decide +kernel)) <|
    zall_c (zs_iload_n X (pc := 21) (q := 1) rfl (by decide +kernel)) <|
    zall_c (zs_iconst X (pc := 22) (by decide) (by decide +kernel)) <|
    zall_c (zs_callV0 X (pc := 23) zc_X9 (fun _ ht => ⟨(zCB ht gw_8_239 gw_1_13 gw_8_236 rfl rfl (by decide +kernel) ⟨Nat.le_of_ble_eq_true rfl, Nat.le_of_ble_eq_true rfl⟩), ht _ (.tail _ gw_8_238), ht _ (.tail _ gp_63)⟩) h2 hout (by decide +kernel)) <|
    zall_c (zs_iload_n X (pc := 26) (q := 3) rfl (by decide +kernel)) <|
    zall_c (zs_callS0 X (pc := 27) (fun _ ht => ⟨(zCB ht gw_9_85 gw_1_13 gw_9_83 rfl rfl (by decide +kernel) ⟨Nat.le_of_ble_eq_true rfl, Nat.le_of_ble_eq_true rfl⟩), ht _ (.tail _ gw_9_84)⟩) h3 hout (by decide +kernel)) <|
    zall_c (zs_if_eq X (pc := 30) (off := 17) (by decide +kernel) (by decide)) <|
    zall_c (zs_iload_n X (pc := 33) (q := 2) rfl (by decide +kernel)) <|
    zall_c (zs_iconst X (pc := 34) (by decide) (by decide +kernel)) <|
    zall_c (zs_icmp_eq X (pc := 35) (off := 9) (by decide +kernel) (by decide)) <|
    zall_c (zs_iload X (pc := 38) (by decide +kernel)) <|
    zall_c (zs_iload_n X (pc := 40) (q := 2) rfl (by decide +kernel)) <|
    zall_c (zs_icmp_ge X (pc := 41) (off := 6) (by decide +kernel) (by decide)) <|
    zall_c (zs_iload X (pc := 44) (by decide +kernel)) <|
    zall_c (zs_istore_n X (pc := 46) (q := 2) rfl (by decide) (by decide +kernel)) <|
    zall_c (zs_iinc X (pc := 47) (by decide) (by decide +kernel)) <|
    zall_c (zs_goto X (pc := 50) (off := (-46)) (by decide +kernel) (by decide)) <|
    zall_c (zs_iload_n X (pc := 53) (q := 2) rfl (by decide +kernel)) <|
    zall_c (zs_iret X (pc := 54) rfl (by decide +kernel)) <|
    zall_n
theorem met_X9_riskOf {l : Launch} (hl : l.stackTraces = false) {T0 : ZTf} {T1 : ZTf} {T2 : ZTf} {T3 : ZTf} (h0 : zMet l yX9_workers (Cond.code yX9_workers cX9_workers 1 (Option.some Jvm.ClassFile.FieldType.int) :: zG) rm_X9_workers 0 0 T0) (h1 : zMet l yX9_ofWorker (Cond.code yX9_ofWorker cX9_ofWorker 3 (Option.some Jvm.ClassFile.FieldType.int) :: zG) rm_X9_ofWorker 0 0 T1) (h2 : zMet l yX9_ofRow (Cond.code yX9_ofRow cX9_ofRow 3 (Option.some Jvm.ClassFile.FieldType.int) :: zG) rm_X9_ofRow 0 0 T2) (h3 : zMet l yX9_has (Cond.code yX9_has cX9_has 2 (Option.some Jvm.ClassFile.FieldType.boolean) :: zG) rm_X9_has 0 0 T3) {T : ZTf} (bd : zBd (cd_X9_riskOf T0 T1 T2 T3) 5 0 0 T) : zMet l yX9_riskOf (Cond.code yX9_riskOf cX9_riskOf 5 (Option.some Jvm.ClassFile.FieldType.int) :: zG) rm_X9_riskOf 0 0 T := zMet_of hl (by decide +kernel) rfl rfl rfl rfl (hs_X9_riskOf hl h0 h1 h2 h3) bd

abbrev rm_X9_risk : Room := { frames := 3, cells := 0, slots := 0, locals := 76 }
def cd_X9_risk (T0 : ZTf) (T1 : ZTf) (T2 : ZTf) : List (Nat × ZTr) := [(0, tAld 0 1), (1, tAld 0 2), (2, tIld 1 3), (3, tCall0 2 T0 (zRcv 12) 6), (6, tCall0 2 T1 (zRcv 12) 9), (9, tIf_eq 20 12), (12, tAld 0 13), (13, tIld 1 14), (14, tCall0 2 T2 (zRcv 12) 17), (17, tGo 21), (20, tC (zi 0) 21), (21, tRi (fun _ => True))]
set_option maxRecDepth 100000 in
set_option maxHeartbeats 4000000 in
theorem hs_X9_risk {l : Launch} (hl : l.stackTraces = false) {T0 : ZTf} {T1 : ZTf} {T2 : ZTf} (h0 : zMet l yX9_isRow (Cond.code yX9_isRow cX9_isRow 2 (Option.some Jvm.ClassFile.FieldType.boolean) :: zG) rm_X9_isRow 0 0 T0) (h1 : zMet l yX9_passes (Cond.code yX9_passes cX9_passes 2 (Option.some Jvm.ClassFile.FieldType.boolean) :: zG) rm_X9_passes 0 0 T1) (h2 : zMet l yX9_riskOf (Cond.code yX9_riskOf cX9_riskOf 5 (Option.some Jvm.ClassFile.FieldType.int) :: zG) rm_X9_riskOf 0 0 T2) (p : Program) (e : Env) (s : State) (m : MethodId) (args : Array Value) (below : List Frame) (meth : Method) (c : Code) (D : va_G) (A : Nat → Prop) (a0 : Nat → Nat) (M0 : ZM) (K : ZRet) (KX : ZEx) (X : zCtx p l rm_X9_risk s m args meth c cX9_risk RX9 (Cond.code yX9_risk cX9_risk 2 (Option.some Jvm.ClassFile.FieldType.int) :: zG) 2 (Option.some Jvm.ClassFile.FieldType.int) D A a0 M0 0 0) (hnm : meth.name = yX9_risk.name) (hout : ∀ x ∈ c.exceptionTable.toList, False) : ∀ q ∈ cd_X9_risk T0 T1 T2, zSd p l e rm_X9_risk s m args below meth c 2 D A a0 M0 K KX 0 0 q.1 q.2 :=
    zall_c (zs_aload_n X (pc := 0) (q := 0) rfl (by decide +kernel)) <|
    zall_c (zs_aload_n X (pc := 1) (q := 0) rfl (by decide +kernel)) <|
    zall_c (zs_iload_n X (pc := 2) (q := 1) rfl (by decide +kernel)) <|
    zall_c (zs_callV0 X (pc := 3) zc_X9 (fun _ ht => ⟨(zCB ht gw_9_48 gw_1_13 gw_9_45 rfl rfl (by decide +kernel) ⟨Nat.le_of_ble_eq_true rfl, Nat.le_of_ble_eq_true rfl⟩), ht _ (.tail _ gw_9_47), ht _ (.tail _ gp_73)⟩) h0 hout (by decide +kernel)) <|
    zall_c (zs_callV0 X (pc := 6) zc_X9 (fun _ ht => ⟨(zCB ht gw_8_49 gw_1_13 gw_8_46 rfl rfl (by decide +kernel) ⟨Nat.le_of_ble_eq_true rfl, Nat.le_of_ble_eq_true rfl⟩), ht _ (.tail _ gw_8_48), ht _ (.tail _ gp_28)⟩) h1 hout (by decide +kernel)) <|
    zall_c (zs_if_eq X (pc := 9) (off := 11) (by decide +kernel) (by decide)) <|
    zall_c (zs_aload_n X (pc := 12) (q := 0) rfl (by decide +kernel)) <|
    zall_c (zs_iload_n X (pc := 13) (q := 1) rfl (by decide +kernel)) <|
    zall_c (zs_callV0 X (pc := 14) zc_X9 (fun _ ht => ⟨(zCB ht gw_9_198 gw_1_13 gw_9_195 rfl rfl (by decide +kernel) ⟨Nat.le_of_ble_eq_true rfl, Nat.le_of_ble_eq_true rfl⟩), ht _ (.tail _ gw_9_197), ht _ (.tail _ gp_91)⟩) h2 hout (by decide +kernel)) <|
    zall_c (zs_goto X (pc := 17) (off := 4) (by decide +kernel) (by decide)) <|
    zall_c (zs_iconst X (pc := 20) (by decide) (by decide +kernel)) <|
    zall_c (zs_iret X (pc := 21) rfl (by decide +kernel)) <|
    zall_n
theorem met_X9_risk {l : Launch} (hl : l.stackTraces = false) {T0 : ZTf} {T1 : ZTf} {T2 : ZTf} (h0 : zMet l yX9_isRow (Cond.code yX9_isRow cX9_isRow 2 (Option.some Jvm.ClassFile.FieldType.boolean) :: zG) rm_X9_isRow 0 0 T0) (h1 : zMet l yX9_passes (Cond.code yX9_passes cX9_passes 2 (Option.some Jvm.ClassFile.FieldType.boolean) :: zG) rm_X9_passes 0 0 T1) (h2 : zMet l yX9_riskOf (Cond.code yX9_riskOf cX9_riskOf 5 (Option.some Jvm.ClassFile.FieldType.int) :: zG) rm_X9_riskOf 0 0 T2) {T : ZTf} (bd : zBd (cd_X9_risk T0 T1 T2) 2 0 0 T) : zMet l yX9_risk (Cond.code yX9_risk cX9_risk 2 (Option.some Jvm.ClassFile.FieldType.int) :: zG) rm_X9_risk 0 0 T := zMet_of hl (by decide +kernel) rfl rfl rfl rfl (hs_X9_risk hl h0 h1 h2) bd

abbrev rm_X9_isAheadOf : Room := { frames := 3, cells := 0, slots := 0, locals := 76 }
def cd_X9_isAheadOf (T0 : ZTf) (T1 : ZTf) : List (Nat × ZTr) := [(0, tAld 0 1), (1, tIld 1 2), (2, tCall0 2 T0 (zRcv 12) 5), (5, tAld 0 6), (6, tIld 2 7), (7, tCall0 2 T0 (zRcv 12) 10), (10, tIc_eq 32 13), (13, tAld 0 14), (14, tIld 1 15), (15, tCall0 2 T0 (zRcv 12) 18), (18, tAld 0 19), (19, tIld 2 20), (20, tCall0 2 T0 (zRcv 12) 23), (23, tIc_ge 30 26), (26, tC (zi 1) 27), (27, tGo 31), (30, tC (zi 0) 31), (31, tRi zPz), (32, tAld 0 33), (33, tIld 1 34), (34, tC (zi 0) 35), (35, tCall0 3 T1 (zRcv 12) 38), (38, tAld 0 39), (39, tIld 2 40), (40, tC (zi 0) 41), (41, tCall0 3 T1 (zRcv 12) 44), (44, tIc_le 51 47), (47, tC (zi 1) 48), (48, tGo 52), (51, tC (zi 0) 52), (52, tRi zPz)]
set_option maxRecDepth 100000 in
set_option maxHeartbeats 4000000 in
theorem hs_X9_isAheadOf {l : Launch} (hl : l.stackTraces = false) {T0 : ZTf} {T1 : ZTf} (h0 : zMet l yX9_riskOf (Cond.code yX9_riskOf cX9_riskOf 5 (Option.some Jvm.ClassFile.FieldType.int) :: zG) rm_X9_riskOf 0 0 T0) (h1 : zMet l yX9_ofRow (Cond.code yX9_ofRow cX9_ofRow 3 (Option.some Jvm.ClassFile.FieldType.int) :: zG) rm_X9_ofRow 0 0 T1) (p : Program) (e : Env) (s : State) (m : MethodId) (args : Array Value) (below : List Frame) (meth : Method) (c : Code) (D : va_G) (A : Nat → Prop) (a0 : Nat → Nat) (M0 : ZM) (K : ZRet) (KX : ZEx) (X : zCtx p l rm_X9_isAheadOf s m args meth c cX9_isAheadOf RX9 (Cond.code yX9_isAheadOf cX9_isAheadOf 3 (Option.some Jvm.ClassFile.FieldType.boolean) :: zG) 3 (Option.some Jvm.ClassFile.FieldType.boolean) D A a0 M0 0 0) (hnm : meth.name = yX9_isAheadOf.name) (hout : ∀ x ∈ c.exceptionTable.toList, False) : ∀ q ∈ cd_X9_isAheadOf T0 T1, zSd p l e rm_X9_isAheadOf s m args below meth c 3 D A a0 M0 K KX 0 0 q.1 q.2 :=
    zall_c (zs_aload_n X (pc := 0) (q := 0) rfl (by decide +kernel)) <|
    zall_c (zs_iload_n X (pc := 1) (q := 1) rfl (by decide +kernel)) <|
    zall_c (zs_callV0 X (pc := 2) zc_X9 (fun _ ht => ⟨(zCB ht gw_9_198 gw_1_13 gw_9_195 rfl rfl (by decide +kernel) ⟨Nat.le_of_ble_eq_true rfl, Nat.le_of_ble_eq_true rfl⟩), ht _ (.tail _ gw_9_197), ht _ (.tail _ gp_91)⟩) h0 hout (by decide +kernel)) <|
    zall_c (zs_aload_n X (pc := 5) (q := 0) rfl (by decide +kernel)) <|
    zall_c (zs_iload_n X (pc := 6) (q := 2) rfl (by decide +kernel)) <|
    zall_c (zs_callV0 X (pc := 7) zc_X9 (fun _ ht => ⟨(zCB ht gw_9_198 gw_1_13 gw_9_195 rfl rfl (by decide +kernel) ⟨Nat.le_of_ble_eq_true rfl, Nat.le_of_ble_eq_true rfl⟩), ht _ (.tail _ gw_9_197), ht _ (.tail _ gp_91)⟩) h0 hout (by decide +kernel)) <|
    zall_c (zs_icmp_eq X (pc := 10) (off := 22) (by decide +kernel) (by decide)) <|
    zall_c (zs_aload_n X (pc := 13) (q := 0) rfl (by decide +kernel)) <|
    zall_c (zs_iload_n X (pc := 14) (q := 1) rfl (by decide +kernel)) <|
    zall_c (zs_callV0 X (pc := 15) zc_X9 (fun _ ht => ⟨(zCB ht gw_9_198 gw_1_13 gw_9_195 rfl rfl (by decide +kernel) ⟨Nat.le_of_ble_eq_true rfl, Nat.le_of_ble_eq_true rfl⟩), ht _ (.tail _ gw_9_197), ht _ (.tail _ gp_91)⟩) h0 hout (by decide +kernel)) <|
    zall_c (zs_aload_n X (pc := 18) (q := 0) rfl (by decide +kernel)) <|
    zall_c (zs_iload_n X (pc := 19) (q := 2) rfl (by decide +kernel)) <|
    zall_c (zs_callV0 X (pc := 20) zc_X9 (fun _ ht => ⟨(zCB ht gw_9_198 gw_1_13 gw_9_195 rfl rfl (by decide +kernel) ⟨Nat.le_of_ble_eq_true rfl, Nat.le_of_ble_eq_true rfl⟩), ht _ (.tail _ gw_9_197), ht _ (.tail _ gp_91)⟩) h0 hout (by decide +kernel)) <|
    zall_c (zs_icmp_ge X (pc := 23) (off := 7) (by decide +kernel) (by decide)) <|
    zall_c (zs_iconst X (pc := 26) (by decide) (by decide +kernel)) <|
    zall_c (zs_goto X (pc := 27) (off := 4) (by decide +kernel) (by decide)) <|
    zall_c (zs_iconst X (pc := 30) (by decide) (by decide +kernel)) <|
    zall_c (zs_zret X (pc := 31) rfl zR_bool (by decide +kernel)) <|
    zall_c (zs_aload_n X (pc := 32) (q := 0) rfl (by decide +kernel)) <|
    zall_c (zs_iload_n X (pc := 33) (q := 1) rfl (by decide +kernel)) <|
    zall_c (zs_iconst X (pc := 34) (by decide) (by decide +kernel)) <|
    zall_c (zs_callV0 X (pc := 35) zc_X9 (fun _ ht => ⟨(zCB ht gw_8_239 gw_1_13 gw_8_236 rfl rfl (by decide +kernel) ⟨Nat.le_of_ble_eq_true rfl, Nat.le_of_ble_eq_true rfl⟩), ht _ (.tail _ gw_8_238), ht _ (.tail _ gp_63)⟩) h1 hout (by decide +kernel)) <|
    zall_c (zs_aload_n X (pc := 38) (q := 0) rfl (by decide +kernel)) <|
    zall_c (zs_iload_n X (pc := 39) (q := 2) rfl (by decide +kernel)) <|
    zall_c (zs_iconst X (pc := 40) (by decide) (by decide +kernel)) <|
    zall_c (zs_callV0 X (pc := 41) zc_X9 (fun _ ht => ⟨(zCB ht gw_8_239 gw_1_13 gw_8_236 rfl rfl (by decide +kernel) ⟨Nat.le_of_ble_eq_true rfl, Nat.le_of_ble_eq_true rfl⟩), ht _ (.tail _ gw_8_238), ht _ (.tail _ gp_63)⟩) h1 hout (by decide +kernel)) <|
    zall_c (zs_icmp_le X (pc := 44) (off := 7) (by decide +kernel) (by decide)) <|
    zall_c (zs_iconst X (pc := 47) (by decide) (by decide +kernel)) <|
    zall_c (zs_goto X (pc := 48) (off := 4) (by decide +kernel) (by decide)) <|
    zall_c (zs_iconst X (pc := 51) (by decide) (by decide +kernel)) <|
    zall_c (zs_zret X (pc := 52) rfl zR_bool (by decide +kernel)) <|
    zall_n
theorem met_X9_isAheadOf {l : Launch} (hl : l.stackTraces = false) {T0 : ZTf} {T1 : ZTf} (h0 : zMet l yX9_riskOf (Cond.code yX9_riskOf cX9_riskOf 5 (Option.some Jvm.ClassFile.FieldType.int) :: zG) rm_X9_riskOf 0 0 T0) (h1 : zMet l yX9_ofRow (Cond.code yX9_ofRow cX9_ofRow 3 (Option.some Jvm.ClassFile.FieldType.int) :: zG) rm_X9_ofRow 0 0 T1) {T : ZTf} (bd : zBd (cd_X9_isAheadOf T0 T1) 3 0 0 T) : zMet l yX9_isAheadOf (Cond.code yX9_isAheadOf cX9_isAheadOf 3 (Option.some Jvm.ClassFile.FieldType.boolean) :: zG) rm_X9_isAheadOf 0 0 T := zMet_of hl (by decide +kernel) rfl rfl rfl rfl (hs_X9_isAheadOf hl h0 h1) bd

abbrev rm_X9_nextAudit : Room := { frames := 4, cells := 0, slots := 0, locals := 98 }
def cd_X9_nextAudit (T0 : ZTf) (T1 : ZTf) (T2 : ZTf) (T3 : ZTf) : List (Nat × ZTr) := [(0, tAld 0 1), (1, tC (zi 0) 2), (2, tPutI 12 0 (fun _ => True) 5), (5, tC (zi (-1)) 6), (6, tIst 1 7), (7, tC (zi 0) 8), (8, tIst 2 9), (9, tIld 2 10), (10, tAld 0 11), (11, tCall0 1 T0 (zRcv 12) 14), (14, tIc_ge 60 17), (17, tAld 0 18), (18, tIld 2 19), (19, tC (zi 1) 20), (20, tCall0 3 T1 (zRcv 12) 23), (23, tC (zi 2) 24), (24, tIc_ne 54 27), (27, tAld 0 28), (28, tIld 2 29), (29, tCall0 2 T2 (zRcv 12) 32), (32, tIf_eq 38 35), (35, tGo 54), (38, tIld 1 39), (39, tC (zi (-1)) 40), (40, tIc_eq 52 43), (43, tAld 0 44), (44, tIld 2 45), (45, tIld 1 46), (46, tCall0 3 T3 (zRcv 12) 49), (49, tIf_eq 54 52), (52, tIld 2 53), (53, tIst 1 54), (54, tInc 2 1 57), (57, tGo 9), (60, tIld 1 61), (61, tRi (fun _ => True))]
set_option maxRecDepth 100000 in
set_option maxHeartbeats 4000000 in
theorem hs_X9_nextAudit {l : Launch} (hl : l.stackTraces = false) {T0 : ZTf} {T1 : ZTf} {T2 : ZTf} {T3 : ZTf} (h0 : zMet l yX9_rows (Cond.code yX9_rows cX9_rows 1 (Option.some Jvm.ClassFile.FieldType.int) :: zG) rm_X9_rows 0 0 T0) (h1 : zMet l yX9_ofRow (Cond.code yX9_ofRow cX9_ofRow 3 (Option.some Jvm.ClassFile.FieldType.int) :: zG) rm_X9_ofRow 0 0 T1) (h2 : zMet l yX9_isAudited (Cond.code yX9_isAudited cX9_isAudited 2 (Option.some Jvm.ClassFile.FieldType.boolean) :: zG) rm_X9_isAudited 0 0 T2) (h3 : zMet l yX9_isAheadOf (Cond.code yX9_isAheadOf cX9_isAheadOf 3 (Option.some Jvm.ClassFile.FieldType.boolean) :: zG) rm_X9_isAheadOf 0 0 T3) (p : Program) (e : Env) (s : State) (m : MethodId) (args : Array Value) (below : List Frame) (meth : Method) (c : Code) (D : va_G) (A : Nat → Prop) (a0 : Nat → Nat) (M0 : ZM) (K : ZRet) (KX : ZEx) (X : zCtx p l rm_X9_nextAudit s m args meth c cX9_nextAudit RX9 (Cond.code yX9_nextAudit cX9_nextAudit 3 (Option.some Jvm.ClassFile.FieldType.int) :: zG) 3 (Option.some Jvm.ClassFile.FieldType.int) D A a0 M0 0 0) (hnm : meth.name = yX9_nextAudit.name) (hout : ∀ x ∈ c.exceptionTable.toList, False) : ∀ q ∈ cd_X9_nextAudit T0 T1 T2 T3, zSd p l e rm_X9_nextAudit s m args below meth c 3 D A a0 M0 K KX 0 0 q.1 q.2 :=
    zall_c (zs_aload_n X (pc := 0) (q := 0) rfl (by decide +kernel)) <|
    zall_c (zs_iconst X (pc := 1) (by decide) (by decide +kernel)) <|
    zall_c (zs_puti X (pc := 2) (ty := Jvm.ClassFile.FieldType.int) zc_X9 (by decide) (zin ui_X9) tyX9_ok nmX9 (.tail _ gw_7_215) rfl (by decide +kernel) (by decide +kernel) (by decide +kernel) zP_int) <|
    zall_c (zs_iconst X (pc := 5) (by decide) (by decide +kernel)) <|
    zall_c (zs_istore_n X (pc := 6) (q := 1) rfl (by decide) (by decide +kernel)) <|
    zall_c (zs_iconst X (pc := 7) (by decide) (by decide +kernel)) <|
    zall_c (zs_istore_n X (pc := 8) (q := 2) rfl (by decide) (by decide +kernel)) <|
    zall_c (zs_iload_n X (pc := 9) (q := 2) rfl (by decide +kernel)) <|
    zall_c (zs_aload_n X (pc := 10) (q := 0) rfl (by decide +kernel)) <|
    zall_c (zs_callV0 X (pc := 11) zc_X9 (fun _ ht => ⟨(zCB ht gw_8_173 gw_1_13 gw_8_170 rfl rfl (by decide +kernel) ⟨Nat.le_of_ble_eq_true rfl, Nat.le_of_ble_eq_true rfl⟩), ht _ (.tail _ gw_8_172), ht _ (.tail _ gp_51)⟩) h0 hout (by decide +kernel)) <|
    zall_c (zs_icmp_ge X (pc := 14) (off := 46) (by decide +kernel) (by decide)) <|
    zall_c (zs_aload_n X (pc := 17) (q := 0) rfl (by decide +kernel)) <|
    zall_c (zs_iload_n X (pc := 18) (q := 2) rfl (by decide +kernel)) <|
    zall_c (zs_iconst X (pc := 19) (by decide) (by decide +kernel)) <|
    zall_c (zs_callV0 X (pc := 20) zc_X9 (fun _ ht => ⟨(zCB ht gw_8_239 gw_1_13 gw_8_236 rfl rfl (by decide +kernel) ⟨Nat.le_of_ble_eq_true rfl, Nat.le_of_ble_eq_true rfl⟩), ht _ (.tail _ gw_8_238), ht _ (.tail _ gp_63)⟩) h1 hout (by decide +kernel)) <|
    zall_c (zs_iconst X (pc := 23) (by decide) (by decide +kernel)) <|
    zall_c (zs_icmp_ne X (pc := 24) (off := 30) (by decide +kernel) (by decide)) <|
    zall_c (zs_aload_n X (pc := 27) (q := 0) rfl (by decide +kernel)) <|
    zall_c (zs_iload_n X (pc := 28) (q := 2) rfl (by decide +kernel)) <|
    zall_c (zs_callV0 X (pc := 29) zc_X9 (fun _ ht => ⟨(zCB ht gw_8_235 gw_1_13 gw_8_232 rfl rfl (by decide +kernel) ⟨Nat.le_of_ble_eq_true rfl, Nat.le_of_ble_eq_true rfl⟩), ht _ (.tail _ gw_8_234), ht _ (.tail _ gp_62)⟩) h2 hout (by decide +kernel)) <|
    zall_c (zs_if_eq X (pc := 32) (off := 6) (by decide +kernel) (by decide)) <|
    zall_c (zs_goto X (pc := 35) (off := 19) (by decide +kernel) (by decide)) <|
    zall_c (zs_iload_n X (pc := 38) (q := 1) rfl (by decide +kernel)) <|
    zall_c (zs_iconst X (pc := 39) (by decide) (by decide +kernel)) <|
    zall_c (zs_icmp_eq X (pc := 40) (off := 12) (by decide +kernel) (by decide)) <|
    zall_c (zs_aload_n X (pc := 43) (q := 0) rfl (by decide +kernel)) <|
    zall_c (zs_iload_n X (pc := 44) (q := 2) rfl (by decide +kernel)) <|
    zall_c (zs_iload_n X (pc := 45) (q := 1) rfl (by decide +kernel)) <|
    zall_c (zs_callV0 X (pc := 46) zc_X9 (fun _ ht => ⟨(zCB ht gw_9_206 gw_1_13 gw_9_203 rfl rfl (by decide +kernel) ⟨Nat.le_of_ble_eq_true rfl, Nat.le_of_ble_eq_true rfl⟩), ht _ (.tail _ gw_9_205), ht _ (.tail _ gp_92)⟩) h3 hout (by decide +kernel)) <|
    zall_c (zs_if_eq X (pc := 49) (off := 5) (by decide +kernel) (by decide)) <|
    zall_c (zs_iload_n X (pc := 52) (q := 2) rfl (by decide +kernel)) <|
    zall_c (zs_istore_n X (pc := 53) (q := 1) rfl (by decide) (by decide +kernel)) <|
    zall_c (zs_iinc X (pc := 54) (by decide) (by decide +kernel)) <|
    zall_c (zs_goto X (pc := 57) (off := (-48)) (by decide +kernel) (by decide)) <|
    zall_c (zs_iload_n X (pc := 60) (q := 1) rfl (by decide +kernel)) <|
    zall_c (zs_iret X (pc := 61) rfl (by decide +kernel)) <|
    zall_n
theorem met_X9_nextAudit {l : Launch} (hl : l.stackTraces = false) {T0 : ZTf} {T1 : ZTf} {T2 : ZTf} {T3 : ZTf} (h0 : zMet l yX9_rows (Cond.code yX9_rows cX9_rows 1 (Option.some Jvm.ClassFile.FieldType.int) :: zG) rm_X9_rows 0 0 T0) (h1 : zMet l yX9_ofRow (Cond.code yX9_ofRow cX9_ofRow 3 (Option.some Jvm.ClassFile.FieldType.int) :: zG) rm_X9_ofRow 0 0 T1) (h2 : zMet l yX9_isAudited (Cond.code yX9_isAudited cX9_isAudited 2 (Option.some Jvm.ClassFile.FieldType.boolean) :: zG) rm_X9_isAudited 0 0 T2) (h3 : zMet l yX9_isAheadOf (Cond.code yX9_isAheadOf cX9_isAheadOf 3 (Option.some Jvm.ClassFile.FieldType.boolean) :: zG) rm_X9_isAheadOf 0 0 T3) {T : ZTf} (bd : zBd (cd_X9_nextAudit T0 T1 T2 T3) 3 0 0 T) : zMet l yX9_nextAudit (Cond.code yX9_nextAudit cX9_nextAudit 3 (Option.some Jvm.ClassFile.FieldType.int) :: zG) rm_X9_nextAudit 0 0 T := zMet_of hl (by decide +kernel) rfl rfl rfl rfl (hs_X9_nextAudit hl h0 h1 h2 h3) bd

abbrev rm_X9_nextDue : Room := { frames := 4, cells := 0, slots := 0, locals := 97 }
def cd_X9_nextDue (T0 : ZTf) (T1 : ZTf) (T2 : ZTf) (T3 : ZTf) : List (Nat × ZTr) := [(0, tAld 0 1), (1, tC (zi 0) 2), (2, tPutI 12 0 (fun _ => True) 5), (5, tC (zi (-1)) 6), (6, tIst 1 7), (7, tC (zi 0) 8), (8, tIst 2 9), (9, tIld 2 10), (10, tAld 0 11), (11, tCall0 1 T0 (zRcv 12) 14), (14, tIc_ge 72 17), (17, tC (zi 0) 18), (18, tIst 3 19), (19, tIld 3 20), (20, tAld 0 21), (21, tIld 2 22), (22, tCall0 2 T1 (zRcv 12) 25), (25, tIc_ge 66 28), (28, tAld 0 29), (29, tIld 2 30), (30, tIld 3 31), (31, tC (zi 2) 32), (32, tCall0 4 T2 (zRcv 12) 35), (35, tIst 4 37), (37, tAld 0 38), (38, tIld 2 39), (39, tIld 3 40), (40, tCall0 3 T3 (zRcv 12) 43), (43, tIf_eq 60 46), (46, tIld 1 47), (47, tC (zi (-1)) 48), (48, tIc_eq 57 51), (51, tIld 4 53), (53, tIld 1 54), (54, tIc_ge 60 57), (57, tIld 4 59), (59, tIst 1 60), (60, tInc 3 1 63), (63, tGo 19), (66, tInc 2 1 69), (69, tGo 9), (72, tIld 1 73), (73, tRi (fun _ => True))]
set_option maxRecDepth 100000 in
set_option maxHeartbeats 4000000 in
theorem hs_X9_nextDue {l : Launch} (hl : l.stackTraces = false) {T0 : ZTf} {T1 : ZTf} {T2 : ZTf} {T3 : ZTf} (h0 : zMet l yX9_rows (Cond.code yX9_rows cX9_rows 1 (Option.some Jvm.ClassFile.FieldType.int) :: zG) rm_X9_rows 0 0 T0) (h1 : zMet l yX9_manyAt (Cond.code yX9_manyAt cX9_manyAt 2 (Option.some Jvm.ClassFile.FieldType.int) :: zG) rm_X9_manyAt 0 0 T1) (h2 : zMet l yX9_ofTaking (Cond.code yX9_ofTaking cX9_ofTaking 4 (Option.some Jvm.ClassFile.FieldType.int) :: zG) rm_X9_ofTaking 0 0 T2) (h3 : zMet l yX9_isInWork (Cond.code yX9_isInWork cX9_isInWork 3 (Option.some Jvm.ClassFile.FieldType.boolean) :: zG) rm_X9_isInWork 0 0 T3) (p : Program) (e : Env) (s : State) (m : MethodId) (args : Array Value) (below : List Frame) (meth : Method) (c : Code) (D : va_G) (A : Nat → Prop) (a0 : Nat → Nat) (M0 : ZM) (K : ZRet) (KX : ZEx) (X : zCtx p l rm_X9_nextDue s m args meth c cX9_nextDue RX9 (Cond.code yX9_nextDue cX9_nextDue 5 (Option.some Jvm.ClassFile.FieldType.int) :: zG) 5 (Option.some Jvm.ClassFile.FieldType.int) D A a0 M0 0 0) (hnm : meth.name = yX9_nextDue.name) (hout : ∀ x ∈ c.exceptionTable.toList, False) : ∀ q ∈ cd_X9_nextDue T0 T1 T2 T3, zSd p l e rm_X9_nextDue s m args below meth c 5 D A a0 M0 K KX 0 0 q.1 q.2 :=
    zall_c (zs_aload_n X (pc := 0) (q := 0) rfl (by decide +kernel)) <|
    zall_c (zs_iconst X (pc := 1) (by decide) (by decide +kernel)) <|
    zall_c (zs_puti X (pc := 2) (ty := Jvm.ClassFile.FieldType.int) zc_X9 (by decide) (zin ui_X9) tyX9_ok nmX9 (.tail _ gw_7_215) rfl (by decide +kernel) (by decide +kernel) (by decide +kernel) zP_int) <|
    zall_c (zs_iconst X (pc := 5) (by decide) (by decide +kernel)) <|
    zall_c (zs_istore_n X (pc := 6) (q := 1) rfl (by decide) (by decide +kernel)) <|
    zall_c (zs_iconst X (pc := 7) (by decide) (by decide +kernel)) <|
    zall_c (zs_istore_n X (pc := 8) (q := 2) rfl (by decide) (by decide +kernel)) <|
    zall_c (zs_iload_n X (pc := 9) (q := 2) rfl (by decide +kernel)) <|
    zall_c (zs_aload_n X (pc := 10) (q := 0) rfl (by decide +kernel)) <|
    zall_c (zs_callV0 X (pc := 11) zc_X9 (fun _ ht => ⟨(zCB ht gw_8_173 gw_1_13 gw_8_170 rfl rfl (by decide +kernel) ⟨Nat.le_of_ble_eq_true rfl, Nat.le_of_ble_eq_true rfl⟩), ht _ (.tail _ gw_8_172), ht _ (.tail _ gp_51)⟩) h0 hout (by decide +kernel)) <|
    zall_c (zs_icmp_ge X (pc := 14) (off := 58) (by decide +kernel) (by decide)) <|
    zall_c (zs_iconst X (pc := 17) (by decide) (by decide +kernel)) <|
    zall_c (zs_istore_n X (pc := 18) (q := 3) rfl (by decide) (by decide +kernel)) <|
    zall_c (zs_iload_n X (pc := 19) (q := 3) rfl (by decide +kernel)) <|
    zall_c (zs_aload_n X (pc := 20) (q := 0) rfl (by decide +kernel)) <|
    zall_c (zs_iload_n X (pc := 21) (q := 2) rfl (by decide +kernel)) <|
    zall_c (zs_callV0 X (pc := 22) zc_X9 (fun _ ht => ⟨(zCB ht gw_9_32 gw_1_13 gw_9_29 rfl rfl (by decide +kernel) ⟨Nat.le_of_ble_eq_true rfl, Nat.le_of_ble_eq_true rfl⟩), ht _ (.tail _ gw_9_31), ht _ (.tail _ gp_70)⟩) h1 hout (by decide +kernel)) <|
    zall_c (zs_icmp_ge X (pc := 25) (off := 41) (by decide +kernel) (by decide)) <|
    zall_c (zs_aload_n X (pc := 28) (q := 0) rfl (by decide +kernel)) <|
    zall_c (zs_iload_n X (pc := 29) (q := 2) rfl (by decide +kernel)) <|
    zall_c (zs_iload_n X (pc := 30) (q := 3) rfl (by decide +kernel)) <|
    zall_c (zs_iconst X (pc := 31) (by decide) (by decide +kernel)) <|
    zall_c (zs_callV0 X (pc := 32) zc_X9 (fun _ ht => ⟨(zCB ht gw_9_36 gw_1_13 gw_9_33 rfl rfl (by decide +kernel) ⟨Nat.le_of_ble_eq_true rfl, Nat.le_of_ble_eq_true rfl⟩), ht _ (.tail _ gw_9_35), ht _ (.tail _ gp_71)⟩) h2 hout (by decide +kernel)) <|
    zall_c (zs_istore X (pc := 35) (by decide) (by decide +kernel)) <|
    zall_c (zs_aload_n X (pc := 37) (q := 0) rfl (by decide +kernel)) <|
    zall_c (zs_iload_n X (pc := 38) (q := 2) rfl (by decide +kernel)) <|
    zall_c (zs_iload_n X (pc := 39) (q := 3) rfl (by decide +kernel)) <|
    zall_c (zs_callV0 X (pc := 40) zc_X9 (fun _ ht => ⟨(zCB ht gw_9_40 gw_1_13 gw_9_37 rfl rfl (by decide +kernel) ⟨Nat.le_of_ble_eq_true rfl, Nat.le_of_ble_eq_true rfl⟩), ht _ (.tail _ gw_9_39), ht _ (.tail _ gp_72)⟩) h3 hout (by decide +kernel)) <|
    zall_c (zs_if_eq X (pc := 43) (off := 17) (by decide +kernel) (by decide)) <|
    zall_c (zs_iload_n X (pc := 46) (q := 1) rfl (by decide +kernel)) <|
    zall_c (zs_iconst X (pc := 47) (by decide) (by decide +kernel)) <|
    zall_c (zs_icmp_eq X (pc := 48) (off := 9) (by decide +kernel) (by decide)) <|
    zall_c (zs_iload X (pc := 51) (by decide +kernel)) <|
    zall_c (zs_iload_n X (pc := 53) (q := 1) rfl (by decide +kernel)) <|
    zall_c (zs_icmp_ge X (pc := 54) (off := 6) (by decide +kernel) (by decide)) <|
    zall_c (zs_iload X (pc := 57) (by decide +kernel)) <|
    zall_c (zs_istore_n X (pc := 59) (q := 1) rfl (by decide) (by decide +kernel)) <|
    zall_c (zs_iinc X (pc := 60) (by decide) (by decide +kernel)) <|
    zall_c (zs_goto X (pc := 63) (off := (-44)) (by decide +kernel) (by decide)) <|
    zall_c (zs_iinc X (pc := 66) (by decide) (by decide +kernel)) <|
    zall_c (zs_goto X (pc := 69) (off := (-60)) (by decide +kernel) (by decide)) <|
    zall_c (zs_iload_n X (pc := 72) (q := 1) rfl (by decide +kernel)) <|
    zall_c (zs_iret X (pc := 73) rfl (by decide +kernel)) <|
    zall_n
theorem met_X9_nextDue {l : Launch} (hl : l.stackTraces = false) {T0 : ZTf} {T1 : ZTf} {T2 : ZTf} {T3 : ZTf} (h0 : zMet l yX9_rows (Cond.code yX9_rows cX9_rows 1 (Option.some Jvm.ClassFile.FieldType.int) :: zG) rm_X9_rows 0 0 T0) (h1 : zMet l yX9_manyAt (Cond.code yX9_manyAt cX9_manyAt 2 (Option.some Jvm.ClassFile.FieldType.int) :: zG) rm_X9_manyAt 0 0 T1) (h2 : zMet l yX9_ofTaking (Cond.code yX9_ofTaking cX9_ofTaking 4 (Option.some Jvm.ClassFile.FieldType.int) :: zG) rm_X9_ofTaking 0 0 T2) (h3 : zMet l yX9_isInWork (Cond.code yX9_isInWork cX9_isInWork 3 (Option.some Jvm.ClassFile.FieldType.boolean) :: zG) rm_X9_isInWork 0 0 T3) {T : ZTf} (bd : zBd (cd_X9_nextDue T0 T1 T2 T3) 5 0 0 T) : zMet l yX9_nextDue (Cond.code yX9_nextDue cX9_nextDue 5 (Option.some Jvm.ClassFile.FieldType.int) :: zG) rm_X9_nextDue 0 0 T := zMet_of hl (by decide +kernel) rfl rfl rfl rfl (hs_X9_nextDue hl h0 h1 h2 h3) bd

abbrev rm_X9_lateIn : Room := { frames := 4, cells := 0, slots := 0, locals := 97 }
def cd_X9_lateIn (T0 : ZTf) (T1 : ZTf) (T2 : ZTf) (T3 : ZTf) (T4 : ZTf) (T5 : ZTf) : List (Nat × ZTr) := [(0, tAld 0 1), (1, tIld 1 2), (2, tI2l 3), (3, tC (zl 0) 4), (4, tC (zl 99) 7), (7, tCall0 3 T0 zAny 10), (10, tCall0 2 T1 (zRcv 12) 13), (13, tIf_ne 18 16), (16, tC (zi 0) 17), (17, tRi (fun _ => True)), (18, tC (zi 0) 19), (19, tIst 2 20), (20, tC (zi 0) 21), (21, tIst 3 22), (22, tIld 3 23), (23, tAld 0 24), (24, tCall0 1 T2 (zRcv 12) 27), (27, tIc_ge 92 30), (30, tC (zi 0) 31), (31, tIst 4 33), (33, tIld 4 35), (35, tAld 0 36), (36, tIld 3 37), (37, tCall0 2 T3 (zRcv 12) 40), (40, tIc_ge 86 43), (43, tIld 2 44), (44, tAld 0 45), (45, tIld 3 46), (46, tIld 4 48), (48, tCall0 3 T4 (zRcv 12) 51), (51, tIf_eq 77 54), (54, tAld 0 55), (55, tIld 3 56), (56, tIld 4 58), (58, tC (zi 2) 59), (59, tCall0 4 T5 (zRcv 12) 62), (62, tAld 0 63), (63, tGetR 12 1 66), (66, tC (zi 3) 67), (67, tIal 20 68), (68, tIld 1 69), (69, tAdd 70), (70, tIc_ge 77 73), (73, tC (zi 1) 74), (74, tGo 78), (77, tC (zi 0) 78), (78, tAdd 79), (79, tIst 2 80), (80, tInc 4 1 83), (83, tGo 33), (86, tInc 3 1 89), (89, tGo 22), (92, tIld 2 93), (93, tRi (fun _ => True))]
set_option maxRecDepth 100000 in
set_option maxHeartbeats 4000000 in
theorem hs_X9_lateIn {l : Launch} (hl : l.stackTraces = false) {T0 : ZTf} {T1 : ZTf} {T2 : ZTf} {T3 : ZTf} {T4 : ZTf} {T5 : ZTf} (h0 : zMet l yX9_in (Cond.code yX9_in cX9_in 6 (Option.some Jvm.ClassFile.FieldType.boolean) :: zG) rm_X9_in 0 0 T0) (h1 : zMet l yX9_passes (Cond.code yX9_passes cX9_passes 2 (Option.some Jvm.ClassFile.FieldType.boolean) :: zG) rm_X9_passes 0 0 T1) (h2 : zMet l yX9_rows (Cond.code yX9_rows cX9_rows 1 (Option.some Jvm.ClassFile.FieldType.int) :: zG) rm_X9_rows 0 0 T2) (h3 : zMet l yX9_manyAt (Cond.code yX9_manyAt cX9_manyAt 2 (Option.some Jvm.ClassFile.FieldType.int) :: zG) rm_X9_manyAt 0 0 T3) (h4 : zMet l yX9_isInWork (Cond.code yX9_isInWork cX9_isInWork 3 (Option.some Jvm.ClassFile.FieldType.boolean) :: zG) rm_X9_isInWork 0 0 T4) (h5 : zMet l yX9_ofTaking (Cond.code yX9_ofTaking cX9_ofTaking 4 (Option.some Jvm.ClassFile.FieldType.int) :: zG) rm_X9_ofTaking 0 0 T5) (p : Program) (e : Env) (s : State) (m : MethodId) (args : Array Value) (below : List Frame) (meth : Method) (c : Code) (D : va_G) (A : Nat → Prop) (a0 : Nat → Nat) (M0 : ZM) (K : ZRet) (KX : ZEx) (X : zCtx p l rm_X9_lateIn s m args meth c cX9_lateIn RX9 (Cond.code yX9_lateIn cX9_lateIn 5 (Option.some Jvm.ClassFile.FieldType.int) :: zG) 5 (Option.some Jvm.ClassFile.FieldType.int) D A a0 M0 0 0) (hnm : meth.name = yX9_lateIn.name) (hout : ∀ x ∈ c.exceptionTable.toList, False) : ∀ q ∈ cd_X9_lateIn T0 T1 T2 T3 T4 T5, zSd p l e rm_X9_lateIn s m args below meth c 5 D A a0 M0 K KX 0 0 q.1 q.2 :=
    zall_c (zs_aload_n X (pc := 0) (q := 0) rfl (by decide +kernel)) <|
    zall_c (zs_iload_n X (pc := 1) (q := 1) rfl (by decide +kernel)) <|
    zall_c (zs_i2l X (pc := 2) (by decide +kernel)) <|
    zall_c (zs_lconst X (pc := 3) (q := 0) (by decide) (by decide +kernel) rfl) <|
    zall_c (zs_ldc2 X (pc := 4) (i := 386) (by decide) (by decide +kernel) (.tail _ gw_9_215)) <|
    zall_c (zs_callS0 X (pc := 7) (fun _ ht => ⟨(zCB ht gw_8_64 gw_1_13 gw_8_62 rfl rfl (by decide +kernel) ⟨Nat.le_of_ble_eq_true rfl, Nat.le_of_ble_eq_true rfl⟩), ht _ (.tail _ gw_8_63)⟩) h0 hout (by decide +kernel)) <|
    zall_c (zs_callV0 X (pc := 10) zc_X9 (fun _ ht => ⟨(zCB ht gw_8_49 gw_1_13 gw_8_46 rfl rfl (by decide +kernel) ⟨Nat.le_of_ble_eq_true rfl, Nat.le_of_ble_eq_true rfl⟩), ht _ (.tail _ gw_8_48), ht _ (.tail _ gp_28)⟩) h1 hout (by decide +kernel)) <|
    zall_c (zs_if_ne X (pc := 13) (off := 5) (by decide +kernel) (by decide)) <|
    zall_c (zs_iconst X (pc := 16) (by decide) (by decide +kernel)) <|
    zall_c (zs_iret X (pc := 17) rfl (by decide +kernel)) <|
    zall_c (zs_iconst X (pc := 18) (by decide) (by decide +kernel)) <|
    zall_c (zs_istore_n X (pc := 19) (q := 2) rfl (by decide) (by decide +kernel)) <|
    zall_c (zs_iconst X (pc := 20) (by decide) (by decide +kernel)) <|
    zall_c (zs_istore_n X (pc := 21) (q := 3) rfl (by decide) (by decide +kernel)) <|
    zall_c (zs_iload_n X (pc := 22) (q := 3) rfl (by decide +kernel)) <|
    zall_c (zs_aload_n X (pc := 23) (q := 0) rfl (by decide +kernel)) <|
    zall_c (zs_callV0 X (pc := 24) zc_X9 (fun _ ht => ⟨(zCB ht gw_8_173 gw_1_13 gw_8_170 rfl rfl (by decide +kernel) ⟨Nat.le_of_ble_eq_true rfl, Nat.le_of_ble_eq_true rfl⟩), ht _ (.tail _ gw_8_172), ht _ (.tail _ gp_51)⟩) h2 hout (by decide +kernel)) <|
    zall_c (zs_icmp_ge X (pc := 27) (off := 65) (by decide +kernel) (by decide)) <|
    zall_c (zs_iconst X (pc := 30) (by decide) (by decide +kernel)) <|
    zall_c (zs_istore X (pc := 31) (by decide) (by decide +kernel)) <|
    zall_c (zs_iload X (pc := 33) (by decide +kernel)) <|
    zall_c (zs_aload_n X (pc := 35) (q := 0) rfl (by decide +kernel)) <|
    zall_c (zs_iload_n X (pc := 36) (q := 3) rfl (by decide +kernel)) <|
    zall_c (zs_callV0 X (pc := 37) zc_X9 (fun _ ht => ⟨(zCB ht gw_9_32 gw_1_13 gw_9_29 rfl rfl (by decide +kernel) ⟨Nat.le_of_ble_eq_true rfl, Nat.le_of_ble_eq_true rfl⟩), ht _ (.tail _ gw_9_31), ht _ (.tail _ gp_70)⟩) h3 hout (by decide +kernel)) <|
    zall_c (zs_icmp_ge X (pc := 40) (off := 46) (by decide +kernel) (by decide)) <|
    zall_c (zs_iload_n X (pc := 43) (q := 2) rfl (by decide +kernel)) <|
    zall_c (zs_aload_n X (pc := 44) (q := 0) rfl (by decide +kernel)) <|
    zall_c (zs_iload_n X (pc := 45) (q := 3) rfl (by decide +kernel)) <|
    zall_c (zs_iload X (pc := 46) (by decide +kernel)) <|
    zall_c (zs_callV0 X (pc := 48) zc_X9 (fun _ ht => ⟨(zCB ht gw_9_40 gw_1_13 gw_9_37 rfl rfl (by decide +kernel) ⟨Nat.le_of_ble_eq_true rfl, Nat.le_of_ble_eq_true rfl⟩), ht _ (.tail _ gw_9_39), ht _ (.tail _ gp_72)⟩) h4 hout (by decide +kernel)) <|
    zall_c (zs_if_eq X (pc := 51) (off := 26) (by decide +kernel) (by decide)) <|
    zall_c (zs_aload_n X (pc := 54) (q := 0) rfl (by decide +kernel)) <|
    zall_c (zs_iload_n X (pc := 55) (q := 3) rfl (by decide +kernel)) <|
    zall_c (zs_iload X (pc := 56) (by decide +kernel)) <|
    zall_c (zs_iconst X (pc := 58) (by decide) (by decide +kernel)) <|
    zall_c (zs_callV0 X (pc := 59) zc_X9 (fun _ ht => ⟨(zCB ht gw_9_36 gw_1_13 gw_9_33 rfl rfl (by decide +kernel) ⟨Nat.le_of_ble_eq_true rfl, Nat.le_of_ble_eq_true rfl⟩), ht _ (.tail _ gw_9_35), ht _ (.tail _ gp_71)⟩) h5 hout (by decide +kernel)) <|
    zall_c (zs_aload_n X (pc := 62) (q := 0) rfl (by decide +kernel)) <|
    zall_c (zs_getr X (pc := 63) zc_X9 (by decide) (zin ui_X9) (.tail _ gw_7_216) (by decide +kernel) (by decide +kernel)) <|
    zall_c (zs_iconst X (pc := 66) (by decide) (by decide +kernel)) <|
    zall_c (zs_iaload20 X (pc := 67) (by decide +kernel)) <|
    zall_c (zs_iload_n X (pc := 68) (q := 1) rfl (by decide +kernel)) <|
    zall_c (zs_iadd X (pc := 69) (by decide +kernel)) <|
    zall_c (zs_icmp_ge X (pc := 70) (off := 7) (by decide +kernel) (by decide)) <|
    zall_c (zs_iconst X (pc := 73) (by decide) (by decide +kernel)) <|
    zall_c (zs_goto X (pc := 74) (off := 4) (by decide +kernel) (by decide)) <|
    zall_c (zs_iconst X (pc := 77) (by decide) (by decide +kernel)) <|
    zall_c (zs_iadd X (pc := 78) (by decide +kernel)) <|
    zall_c (zs_istore_n X (pc := 79) (q := 2) rfl (by decide) (by decide +kernel)) <|
    zall_c (zs_iinc X (pc := 80) (by decide) (by decide +kernel)) <|
    zall_c (zs_goto X (pc := 83) (off := (-50)) (by decide +kernel) (by decide)) <|
    zall_c (zs_iinc X (pc := 86) (by decide) (by decide +kernel)) <|
    zall_c (zs_goto X (pc := 89) (off := (-67)) (by decide +kernel) (by decide)) <|
    zall_c (zs_iload_n X (pc := 92) (q := 2) rfl (by decide +kernel)) <|
    zall_c (zs_iret X (pc := 93) rfl (by decide +kernel)) <|
    zall_n
theorem met_X9_lateIn {l : Launch} (hl : l.stackTraces = false) {T0 : ZTf} {T1 : ZTf} {T2 : ZTf} {T3 : ZTf} {T4 : ZTf} {T5 : ZTf} (h0 : zMet l yX9_in (Cond.code yX9_in cX9_in 6 (Option.some Jvm.ClassFile.FieldType.boolean) :: zG) rm_X9_in 0 0 T0) (h1 : zMet l yX9_passes (Cond.code yX9_passes cX9_passes 2 (Option.some Jvm.ClassFile.FieldType.boolean) :: zG) rm_X9_passes 0 0 T1) (h2 : zMet l yX9_rows (Cond.code yX9_rows cX9_rows 1 (Option.some Jvm.ClassFile.FieldType.int) :: zG) rm_X9_rows 0 0 T2) (h3 : zMet l yX9_manyAt (Cond.code yX9_manyAt cX9_manyAt 2 (Option.some Jvm.ClassFile.FieldType.int) :: zG) rm_X9_manyAt 0 0 T3) (h4 : zMet l yX9_isInWork (Cond.code yX9_isInWork cX9_isInWork 3 (Option.some Jvm.ClassFile.FieldType.boolean) :: zG) rm_X9_isInWork 0 0 T4) (h5 : zMet l yX9_ofTaking (Cond.code yX9_ofTaking cX9_ofTaking 4 (Option.some Jvm.ClassFile.FieldType.int) :: zG) rm_X9_ofTaking 0 0 T5) {T : ZTf} (bd : zBd (cd_X9_lateIn T0 T1 T2 T3 T4 T5) 5 0 0 T) : zMet l yX9_lateIn (Cond.code yX9_lateIn cX9_lateIn 5 (Option.some Jvm.ClassFile.FieldType.int) :: zG) rm_X9_lateIn 0 0 T := zMet_of hl (by decide +kernel) rfl rfl rfl rfl (hs_X9_lateIn hl h0 h1 h2 h3 h4 h5) bd

abbrev rm_X9_isResult : Room := { frames := 2, cells := 0, slots := 0, locals := 55 }
def cd_X9_isResult (T0 : ZTf) : List (Nat × ZTr) := [(0, tIld 0 1), (1, tI2l 2), (2, tC (zl 0) 3), (3, tC (zl 99) 6), (6, tCall0 3 T0 zAny 9), (9, tRi zPz)]
set_option maxRecDepth 100000 in
set_option maxHeartbeats 4000000 in
theorem hs_X9_isResult {l : Launch} (hl : l.stackTraces = false) {T0 : ZTf} (h0 : zMet l yX9_in (Cond.code yX9_in cX9_in 6 (Option.some Jvm.ClassFile.FieldType.boolean) :: zG) rm_X9_in 0 0 T0) (p : Program) (e : Env) (s : State) (m : MethodId) (args : Array Value) (below : List Frame) (meth : Method) (c : Code) (D : va_G) (A : Nat → Prop) (a0 : Nat → Nat) (M0 : ZM) (K : ZRet) (KX : ZEx) (X : zCtx p l rm_X9_isResult s m args meth c cX9_isResult RX9 (Cond.code yX9_isResult cX9_isResult 1 (Option.some Jvm.ClassFile.FieldType.boolean) :: zG) 1 (Option.some Jvm.ClassFile.FieldType.boolean) D A a0 M0 0 0) (hnm : meth.name = yX9_isResult.name) (hout : ∀ x ∈ c.exceptionTable.toList, False) : ∀ q ∈ cd_X9_isResult T0, zSd p l e rm_X9_isResult s m args below meth c 1 D A a0 M0 K KX 0 0 q.1 q.2 :=
    zall_c (zs_iload_n X (pc := 0) (q := 0) rfl (by decide +kernel)) <|
    zall_c (zs_i2l X (pc := 1) (by decide +kernel)) <|
    zall_c (zs_lconst X (pc := 2) (q := 0) (by decide) (by decide +kernel) rfl) <|
    zall_c (zs_ldc2 X (pc := 3) (i := 386) (by decide) (by decide +kernel) (.tail _ gw_9_215)) <|
    zall_c (zs_callS0 X (pc := 6) (fun _ ht => ⟨(zCB ht gw_8_64 gw_1_13 gw_8_62 rfl rfl (by decide +kernel) ⟨Nat.le_of_ble_eq_true rfl, Nat.le_of_ble_eq_true rfl⟩), ht _ (.tail _ gw_8_63)⟩) h0 hout (by decide +kernel)) <|
    zall_c (zs_zret X (pc := 9) rfl zR_bool (by decide +kernel)) <|
    zall_n
theorem met_X9_isResult {l : Launch} (hl : l.stackTraces = false) {T0 : ZTf} (h0 : zMet l yX9_in (Cond.code yX9_in cX9_in 6 (Option.some Jvm.ClassFile.FieldType.boolean) :: zG) rm_X9_in 0 0 T0) {T : ZTf} (bd : zBd (cd_X9_isResult T0) 1 0 0 T) : zMet l yX9_isResult (Cond.code yX9_isResult cX9_isResult 1 (Option.some Jvm.ClassFile.FieldType.boolean) :: zG) rm_X9_isResult 0 0 T := zMet_of hl (by decide +kernel) rfl rfl rfl rfl (hs_X9_isResult hl h0) bd

abbrev rm_X9_lost : Room := { frames := 6, cells := 0, slots := 0, locals := 143 }
def cd_X9_lost (T0 : ZTf) (T1 : ZTf) (T2 : ZTf) : List (Nat × ZTr) := [(0, tAld 0 1), (1, tC (zi 0) 2), (2, tPutI 12 0 (fun _ => True) 5), (5, tC (zi 0) 6), (6, tIst 1 7), (7, tC (zi 0) 8), (8, tIst 2 9), (9, tIld 2 10), (10, tAld 0 11), (11, tCall0 1 T0 (zRcv 12) 14), (14, tIc_ge 51 17), (17, tIld 1 18), (18, tAld 0 19), (19, tIld 2 20), (20, tCall0 2 T1 (zRcv 12) 23), (23, tIf_ne 36 26), (26, tAld 0 27), (27, tIld 2 28), (28, tC (zi 1) 29), (29, tCall0 3 T2 (zRcv 12) 32), (32, tC (zi 3) 33), (33, tIc_ne 42 36), (36, tC (zi 1) 37), (37, tIld 2 38), (38, tBif zshl 39), (39, tGo 43), (42, tC (zi 0) 43), (43, tBif zor 44), (44, tIst 1 45), (45, tInc 2 1 48), (48, tGo 9), (51, tIld 1 52), (52, tRi (fun _ => True))]
set_option maxRecDepth 100000 in
set_option maxHeartbeats 4000000 in
theorem hs_X9_lost {l : Launch} (hl : l.stackTraces = false) {T0 : ZTf} {T1 : ZTf} {T2 : ZTf} (h0 : zMet l yX9_rows (Cond.code yX9_rows cX9_rows 1 (Option.some Jvm.ClassFile.FieldType.int) :: zG) rm_X9_rows 0 0 T0) (h1 : zMet l yX9_isStuckAt (Cond.code yX9_isStuckAt cX9_isStuckAt 4 (Option.some Jvm.ClassFile.FieldType.boolean) :: zG) rm_X9_isStuckAt 0 0 T1) (h2 : zMet l yX9_ofRow (Cond.code yX9_ofRow cX9_ofRow 3 (Option.some Jvm.ClassFile.FieldType.int) :: zG) rm_X9_ofRow 0 0 T2) (p : Program) (e : Env) (s : State) (m : MethodId) (args : Array Value) (below : List Frame) (meth : Method) (c : Code) (D : va_G) (A : Nat → Prop) (a0 : Nat → Nat) (M0 : ZM) (K : ZRet) (KX : ZEx) (X : zCtx p l rm_X9_lost s m args meth c cX9_lost RX9 (Cond.code yX9_lost cX9_lost 3 (Option.some Jvm.ClassFile.FieldType.int) :: zG) 3 (Option.some Jvm.ClassFile.FieldType.int) D A a0 M0 0 0) (hnm : meth.name = yX9_lost.name) (hout : ∀ x ∈ c.exceptionTable.toList, False) : ∀ q ∈ cd_X9_lost T0 T1 T2, zSd p l e rm_X9_lost s m args below meth c 3 D A a0 M0 K KX 0 0 q.1 q.2 :=
    zall_c (zs_aload_n X (pc := 0) (q := 0) rfl (by decide +kernel)) <|
    zall_c (zs_iconst X (pc := 1) (by decide) (by decide +kernel)) <|
    zall_c (zs_puti X (pc := 2) (ty := Jvm.ClassFile.FieldType.int) zc_X9 (by decide) (zin ui_X9) tyX9_ok nmX9 (.tail _ gw_7_215) rfl (by decide +kernel) (by decide +kernel) (by decide +kernel) zP_int) <|
    zall_c (zs_iconst X (pc := 5) (by decide) (by decide +kernel)) <|
    zall_c (zs_istore_n X (pc := 6) (q := 1) rfl (by decide) (by decide +kernel)) <|
    zall_c (zs_iconst X (pc := 7) (by decide) (by decide +kernel)) <|
    zall_c (zs_istore_n X (pc := 8) (q := 2) rfl (by decide) (by decide +kernel)) <|
    zall_c (zs_iload_n X (pc := 9) (q := 2) rfl (by decide +kernel)) <|
    zall_c (zs_aload_n X (pc := 10) (q := 0) rfl (by decide +kernel)) <|
    zall_c (zs_callV0 X (pc := 11) zc_X9 (fun _ ht => ⟨(zCB ht gw_8_173 gw_1_13 gw_8_170 rfl rfl (by decide +kernel) ⟨Nat.le_of_ble_eq_true rfl, Nat.le_of_ble_eq_true rfl⟩), ht _ (.tail _ gw_8_172), ht _ (.tail _ gp_51)⟩) h0 hout (by decide +kernel)) <|
    zall_c (zs_icmp_ge X (pc := 14) (off := 37) (by decide +kernel) (by decide)) <|
    zall_c (zs_iload_n X (pc := 17) (q := 1) rfl (by decide +kernel)) <|
    zall_c (zs_aload_n X (pc := 18) (q := 0) rfl (by decide +kernel)) <|
    zall_c (zs_iload_n X (pc := 19) (q := 2) rfl (by decide +kernel)) <|
    zall_c (zs_callV0 X (pc := 20) zc_X9 (fun _ ht => ⟨(zCB ht gw_9_125 gw_1_13 gw_9_122 rfl rfl (by decide +kernel) ⟨Nat.le_of_ble_eq_true rfl, Nat.le_of_ble_eq_true rfl⟩), ht _ (.tail _ gw_9_124), ht _ (.tail _ gp_84)⟩) h1 hout (by decide +kernel)) <|
    zall_c (zs_if_ne X (pc := 23) (off := 13) (by decide +kernel) (by decide)) <|
    zall_c (zs_aload_n X (pc := 26) (q := 0) rfl (by decide +kernel)) <|
    zall_c (zs_iload_n X (pc := 27) (q := 2) rfl (by decide +kernel)) <|
    zall_c (zs_iconst X (pc := 28) (by decide) (by decide +kernel)) <|
    zall_c (zs_callV0 X (pc := 29) zc_X9 (fun _ ht => ⟨(zCB ht gw_8_239 gw_1_13 gw_8_236 rfl rfl (by decide +kernel) ⟨Nat.le_of_ble_eq_true rfl, Nat.le_of_ble_eq_true rfl⟩), ht _ (.tail _ gw_8_238), ht _ (.tail _ gp_63)⟩) h2 hout (by decide +kernel)) <|
    zall_c (zs_iconst X (pc := 32) (by decide) (by decide +kernel)) <|
    zall_c (zs_icmp_ne X (pc := 33) (off := 9) (by decide +kernel) (by decide)) <|
    zall_c (zs_iconst X (pc := 36) (by decide) (by decide +kernel)) <|
    zall_c (zs_iload_n X (pc := 37) (q := 2) rfl (by decide +kernel)) <|
    zall_c (zs_ishl X (pc := 38) (by decide +kernel)) <|
    zall_c (zs_goto X (pc := 39) (off := 4) (by decide +kernel) (by decide)) <|
    zall_c (zs_iconst X (pc := 42) (by decide) (by decide +kernel)) <|
    zall_c (zs_ior X (pc := 43) (by decide +kernel)) <|
    zall_c (zs_istore_n X (pc := 44) (q := 1) rfl (by decide) (by decide +kernel)) <|
    zall_c (zs_iinc X (pc := 45) (by decide) (by decide +kernel)) <|
    zall_c (zs_goto X (pc := 48) (off := (-39)) (by decide +kernel) (by decide)) <|
    zall_c (zs_iload_n X (pc := 51) (q := 1) rfl (by decide +kernel)) <|
    zall_c (zs_iret X (pc := 52) rfl (by decide +kernel)) <|
    zall_n
theorem met_X9_lost {l : Launch} (hl : l.stackTraces = false) {T0 : ZTf} {T1 : ZTf} {T2 : ZTf} (h0 : zMet l yX9_rows (Cond.code yX9_rows cX9_rows 1 (Option.some Jvm.ClassFile.FieldType.int) :: zG) rm_X9_rows 0 0 T0) (h1 : zMet l yX9_isStuckAt (Cond.code yX9_isStuckAt cX9_isStuckAt 4 (Option.some Jvm.ClassFile.FieldType.boolean) :: zG) rm_X9_isStuckAt 0 0 T1) (h2 : zMet l yX9_ofRow (Cond.code yX9_ofRow cX9_ofRow 3 (Option.some Jvm.ClassFile.FieldType.int) :: zG) rm_X9_ofRow 0 0 T2) {T : ZTf} (bd : zBd (cd_X9_lost T0 T1 T2) 3 0 0 T) : zMet l yX9_lost (Cond.code yX9_lost cX9_lost 3 (Option.some Jvm.ClassFile.FieldType.int) :: zG) rm_X9_lost 0 0 T := zMet_of hl (by decide +kernel) rfl rfl rfl rfl (hs_X9_lost hl h0 h1 h2) bd

abbrev rm_X9_finishedOf : Room := { frames := 3, cells := 0, slots := 0, locals := 74 }
def cd_X9_finishedOf (T0 : ZTf) (T1 : ZTf) (T2 : ZTf) (T3 : ZTf) : List (Nat × ZTr) := [(0, tAld 0 1), (1, tIld 1 2), (2, tI2l 3), (3, tC (zl 1) 4), (4, tC (zl 9) 7), (7, tCall0 3 T0 zAny 10), (10, tCall0 2 T1 (zRcv 12) 13), (13, tIf_ne 18 16), (16, tC (zi 0) 17), (17, tRi (fun _ => True)), (18, tC (zi 0) 19), (19, tIst 2 20), (20, tC (zi 0) 21), (21, tIst 3 22), (22, tIld 3 23), (23, tAld 0 24), (24, tCall0 1 T2 (zRcv 12) 27), (27, tIc_ge 64 30), (30, tIld 2 31), (31, tAld 0 32), (32, tIld 3 33), (33, tC (zi 0) 34), (34, tCall0 3 T3 (zRcv 12) 37), (37, tIld 1 38), (38, tIc_ne 55 41), (41, tAld 0 42), (42, tIld 3 43), (43, tC (zi 1) 44), (44, tCall0 3 T3 (zRcv 12) 47), (47, tC (zi 2) 48), (48, tIc_ne 55 51), (51, tC (zi 1) 52), (52, tGo 56), (55, tC (zi 0) 56), (56, tAdd 57), (57, tIst 2 58), (58, tInc 3 1 61), (61, tGo 22), (64, tIld 2 65), (65, tRi (fun _ => True))]
set_option maxRecDepth 100000 in
set_option maxHeartbeats 4000000 in
theorem hs_X9_finishedOf {l : Launch} (hl : l.stackTraces = false) {T0 : ZTf} {T1 : ZTf} {T2 : ZTf} {T3 : ZTf} (h0 : zMet l yX9_in (Cond.code yX9_in cX9_in 6 (Option.some Jvm.ClassFile.FieldType.boolean) :: zG) rm_X9_in 0 0 T0) (h1 : zMet l yX9_passes (Cond.code yX9_passes cX9_passes 2 (Option.some Jvm.ClassFile.FieldType.boolean) :: zG) rm_X9_passes 0 0 T1) (h2 : zMet l yX9_rows (Cond.code yX9_rows cX9_rows 1 (Option.some Jvm.ClassFile.FieldType.int) :: zG) rm_X9_rows 0 0 T2) (h3 : zMet l yX9_ofRow (Cond.code yX9_ofRow cX9_ofRow 3 (Option.some Jvm.ClassFile.FieldType.int) :: zG) rm_X9_ofRow 0 0 T3) (p : Program) (e : Env) (s : State) (m : MethodId) (args : Array Value) (below : List Frame) (meth : Method) (c : Code) (D : va_G) (A : Nat → Prop) (a0 : Nat → Nat) (M0 : ZM) (K : ZRet) (KX : ZEx) (X : zCtx p l rm_X9_finishedOf s m args meth c cX9_finishedOf RX9 (Cond.code yX9_finishedOf cX9_finishedOf 4 (Option.some Jvm.ClassFile.FieldType.int) :: zG) 4 (Option.some Jvm.ClassFile.FieldType.int) D A a0 M0 0 0) (hnm : meth.name = yX9_finishedOf.name) (hout : ∀ x ∈ c.exceptionTable.toList, False) : ∀ q ∈ cd_X9_finishedOf T0 T1 T2 T3, zSd p l e rm_X9_finishedOf s m args below meth c 4 D A a0 M0 K KX 0 0 q.1 q.2 :=
    zall_c (zs_aload_n X (pc := 0) (q := 0) rfl (by decide +kernel)) <|
    zall_c (zs_iload_n X (pc := 1) (q := 1) rfl (by decide +kernel)) <|
    zall_c (zs_i2l X (pc := 2) (by decide +kernel)) <|
    zall_c (zs_lconst X (pc := 3) (q := 1) (by decide) (by decide +kernel) rfl) <|
    zall_c (zs_ldc2 X (pc := 4) (i := 394) (by decide) (by decide +kernel) (.tail _ gw_10_43)) <|
    zall_c (zs_callS0 X (pc := 7) (fun _ ht => ⟨(zCB ht gw_8_64 gw_1_13 gw_8_62 rfl rfl (by decide +kernel) ⟨Nat.le_of_ble_eq_true rfl, Nat.le_of_ble_eq_true rfl⟩), ht _ (.tail _ gw_8_63)⟩) h0 hout (by decide +kernel)) <|
    zall_c (zs_callV0 X (pc := 10) zc_X9 (fun _ ht => ⟨(zCB ht gw_8_49 gw_1_13 gw_8_46 rfl rfl (by decide +kernel) ⟨Nat.le_of_ble_eq_true rfl, Nat.le_of_ble_eq_true rfl⟩), ht _ (.tail _ gw_8_48), ht _ (.tail _ gp_28)⟩) h1 hout (by decide +kernel)) <|
    zall_c (zs_if_ne X (pc := 13) (off := 5) (by decide +kernel) (by decide)) <|
    zall_c (zs_iconst X (pc := 16) (by decide) (by decide +kernel)) <|
    zall_c (zs_iret X (pc := 17) rfl (by decide +kernel)) <|
    zall_c (zs_iconst X (pc := 18) (by decide) (by decide +kernel)) <|
    zall_c (zs_istore_n X (pc := 19) (q := 2) rfl (by decide) (by decide +kernel)) <|
    zall_c (zs_iconst X (pc := 20) (by decide) (by decide +kernel)) <|
    zall_c (zs_istore_n X (pc := 21) (q := 3) rfl (by decide) (by decide +kernel)) <|
    zall_c (zs_iload_n X (pc := 22) (q := 3) rfl (by decide +kernel)) <|
    zall_c (zs_aload_n X (pc := 23) (q := 0) rfl (by decide +kernel)) <|
    zall_c (zs_callV0 X (pc := 24) zc_X9 (fun _ ht => ⟨(zCB ht gw_8_173 gw_1_13 gw_8_170 rfl rfl (by decide +kernel) ⟨Nat.le_of_ble_eq_true rfl, Nat.le_of_ble_eq_true rfl⟩), ht _ (.tail _ gw_8_172), ht _ (.tail _ gp_51)⟩) h2 hout (by decide +kernel)) <|
    zall_c (zs_icmp_ge X (pc := 27) (off := 37) (by decide +kernel) (by decide)) <|
    zall_c (zs_iload_n X (pc := 30) (q := 2) rfl (by decide +kernel)) <|
    zall_c (zs_aload_n X (pc := 31) (q := 0) rfl (by decide +kernel)) <|
    zall_c (zs_iload_n X (pc := 32) (q := 3) rfl (by decide +kernel)) <|
    zall_c (zs_iconst X (pc := 33) (by decide) (by decide +kernel)) <|
    zall_c (zs_callV0 X (pc := 34) zc_X9 (fun _ ht => ⟨(zCB ht gw_8_239 gw_1_13 gw_8_236 rfl rfl (by decide +kernel) ⟨Nat.le_of_ble_eq_true rfl, Nat.le_of_ble_eq_true rfl⟩), ht _ (.tail _ gw_8_238), ht _ (.tail _ gp_63)⟩) h3 hout (by decide +kernel)) <|
    zall_c (zs_iload_n X (pc := 37) (q := 1) rfl (by decide +kernel)) <|
    zall_c (zs_icmp_ne X (pc := 38) (off := 17) (by decide +kernel) (by decide)) <|
    zall_c (zs_aload_n X (pc := 41) (q := 0) rfl (by decide +kernel)) <|
    zall_c (zs_iload_n X (pc := 42) (q := 3) rfl (by decide +kernel)) <|
    zall_c (zs_iconst X (pc := 43) (by decide) (by decide +kernel)) <|
    zall_c (zs_callV0 X (pc := 44) zc_X9 (fun _ ht => ⟨(zCB ht gw_8_239 gw_1_13 gw_8_236 rfl rfl (by decide +kernel) ⟨Nat.le_of_ble_eq_true rfl, Nat.le_of_ble_eq_true rfl⟩), ht _ (.tail _ gw_8_238), ht _ (.tail _ gp_63)⟩) h3 hout (by decide +kernel)) <|
    zall_c (zs_iconst X (pc := 47) (by decide) (by decide +kernel)) <|
    zall_c (zs_icmp_ne X (pc := 48) (off := 7) (by decide +kernel) (by decide)) <|
    zall_c (zs_iconst X (pc := 51) (by decide) (by decide +kernel)) <|
    zall_c (zs_goto X (pc := 52) (off := 4) (by decide +kernel) (by decide)) <|
    zall_c (zs_iconst X (pc := 55) (by decide) (by decide +kernel)) <|
    zall_c (zs_iadd X (pc := 56) (by decide +kernel)) <|
    zall_c (zs_istore_n X (pc := 57) (q := 2) rfl (by decide) (by decide +kernel)) <|
    zall_c (zs_iinc X (pc := 58) (by decide) (by decide +kernel)) <|
    zall_c (zs_goto X (pc := 61) (off := (-39)) (by decide +kernel) (by decide)) <|
    zall_c (zs_iload_n X (pc := 64) (q := 2) rfl (by decide +kernel)) <|
    zall_c (zs_iret X (pc := 65) rfl (by decide +kernel)) <|
    zall_n
theorem met_X9_finishedOf {l : Launch} (hl : l.stackTraces = false) {T0 : ZTf} {T1 : ZTf} {T2 : ZTf} {T3 : ZTf} (h0 : zMet l yX9_in (Cond.code yX9_in cX9_in 6 (Option.some Jvm.ClassFile.FieldType.boolean) :: zG) rm_X9_in 0 0 T0) (h1 : zMet l yX9_passes (Cond.code yX9_passes cX9_passes 2 (Option.some Jvm.ClassFile.FieldType.boolean) :: zG) rm_X9_passes 0 0 T1) (h2 : zMet l yX9_rows (Cond.code yX9_rows cX9_rows 1 (Option.some Jvm.ClassFile.FieldType.int) :: zG) rm_X9_rows 0 0 T2) (h3 : zMet l yX9_ofRow (Cond.code yX9_ofRow cX9_ofRow 3 (Option.some Jvm.ClassFile.FieldType.int) :: zG) rm_X9_ofRow 0 0 T3) {T : ZTf} (bd : zBd (cd_X9_finishedOf T0 T1 T2 T3) 4 0 0 T) : zMet l yX9_finishedOf (Cond.code yX9_finishedOf cX9_finishedOf 4 (Option.some Jvm.ClassFile.FieldType.int) :: zG) rm_X9_finishedOf 0 0 T := zMet_of hl (by decide +kernel) rfl rfl rfl rfl (hs_X9_finishedOf hl h0 h1 h2 h3) bd

abbrev rm_X9_left : Room := { frames := 2, cells := 0, slots := 0, locals := 52 }
def cd_X9_left (T0 : ZTf) (T1 : ZTf) : List (Nat × ZTr) := [(0, tAld 0 1), (1, tC (zi 0) 2), (2, tPutI 12 0 (fun _ => True) 5), (5, tC (zi 0) 6), (6, tIst 1 7), (7, tC (zi 0) 8), (8, tIst 2 9), (9, tIld 2 10), (10, tAld 0 11), (11, tCall0 1 T0 (zRcv 12) 14), (14, tIc_ge 46 17), (17, tIld 1 18), (18, tAld 0 19), (19, tIld 2 20), (20, tC (zi 1) 21), (21, tCall0 3 T1 (zRcv 12) 24), (24, tC (zi 2) 25), (25, tIc_ge 37 28), (28, tAld 0 29), (29, tIld 2 30), (30, tC (zi 0) 31), (31, tCall0 3 T1 (zRcv 12) 34), (34, tGo 38), (37, tC (zi 0) 38), (38, tAdd 39), (39, tIst 1 40), (40, tInc 2 1 43), (43, tGo 9), (46, tIld 1 47), (47, tRi (fun _ => True))]
set_option maxRecDepth 100000 in
set_option maxHeartbeats 4000000 in
theorem hs_X9_left {l : Launch} (hl : l.stackTraces = false) {T0 : ZTf} {T1 : ZTf} (h0 : zMet l yX9_rows (Cond.code yX9_rows cX9_rows 1 (Option.some Jvm.ClassFile.FieldType.int) :: zG) rm_X9_rows 0 0 T0) (h1 : zMet l yX9_ofRow (Cond.code yX9_ofRow cX9_ofRow 3 (Option.some Jvm.ClassFile.FieldType.int) :: zG) rm_X9_ofRow 0 0 T1) (p : Program) (e : Env) (s : State) (m : MethodId) (args : Array Value) (below : List Frame) (meth : Method) (c : Code) (D : va_G) (A : Nat → Prop) (a0 : Nat → Nat) (M0 : ZM) (K : ZRet) (KX : ZEx) (X : zCtx p l rm_X9_left s m args meth c cX9_left RX9 (Cond.code yX9_left cX9_left 3 (Option.some Jvm.ClassFile.FieldType.int) :: zG) 3 (Option.some Jvm.ClassFile.FieldType.int) D A a0 M0 0 0) (hnm : meth.name = yX9_left.name) (hout : ∀ x ∈ c.exceptionTable.toList, False) : ∀ q ∈ cd_X9_left T0 T1, zSd p l e rm_X9_left s m args below meth c 3 D A a0 M0 K KX 0 0 q.1 q.2 :=
    zall_c (zs_aload_n X (pc := 0) (q := 0) rfl (by decide +kernel)) <|
    zall_c (zs_iconst X (pc := 1) (by decide) (by decide +kernel)) <|
    zall_c (zs_puti X (pc := 2) (ty := Jvm.ClassFile.FieldType.int) zc_X9 (by decide) (zin ui_X9) tyX9_ok nmX9 (.tail _ gw_7_215) rfl (by decide +kernel) (by decide +kernel) (by decide +kernel) zP_int) <|
    zall_c (zs_iconst X (pc := 5) (by decide) (by decide +kernel)) <|
    zall_c (zs_istore_n X (pc := 6) (q := 1) rfl (by decide) (by decide +kernel)) <|
    zall_c (zs_iconst X (pc := 7) (by decide) (by decide +kernel)) <|
    zall_c (zs_istore_n X (pc := 8) (q := 2) rfl (by decide) (by decide +kernel)) <|
    zall_c (zs_iload_n X (pc := 9) (q := 2) rfl (by decide +kernel)) <|
    zall_c (zs_aload_n X (pc := 10) (q := 0) rfl (by decide +kernel)) <|
    zall_c (zs_callV0 X (pc := 11) zc_X9 (fun _ ht => ⟨(zCB ht gw_8_173 gw_1_13 gw_8_170 rfl rfl (by decide +kernel) ⟨Nat.le_of_ble_eq_true rfl, Nat.le_of_ble_eq_true rfl⟩), ht _ (.tail _ gw_8_172), ht _ (.tail _ gp_51)⟩) h0 hout (by decide +kernel)) <|
    zall_c (zs_icmp_ge X (pc := 14) (off := 32) (by decide +kernel) (by decide)) <|
    zall_c (zs_iload_n X (pc := 17) (q := 1) rfl (by decide +kernel)) <|
    zall_c (zs_aload_n X (pc := 18) (q := 0) rfl (by decide +kernel)) <|
    zall_c (zs_iload_n X (pc := 19) (q := 2) rfl (by decide +kernel)) <|
    zall_c (zs_iconst X (pc := 20) (by decide) (by decide +kernel)) <|
    zall_c (zs_callV0 X (pc := 21) zc_X9 (fun _ ht => ⟨(zCB ht gw_8_239 gw_1_13 gw_8_236 rfl rfl (by decide +kernel) ⟨Nat.le_of_ble_eq_true rfl, Nat.le_of_ble_eq_true rfl⟩), ht _ (.tail _ gw_8_238), ht _ (.tail _ gp_63)⟩) h1 hout (by decide +kernel)) <|
    zall_c (zs_iconst X (pc := 24) (by decide) (by decide +kernel)) <|
    zall_c (zs_icmp_ge X (pc := 25) (off := 12) (by decide +kernel) (by decide)) <|
    zall_c (zs_aload_n X (pc := 28) (q := 0) rfl (by decide +kernel)) <|
    zall_c (zs_iload_n X (pc := 29) (q := 2) rfl (by decide +kernel)) <|
    zall_c (zs_iconst X (pc := 30) (by decide) (by decide +kernel)) <|
    zall_c (zs_callV0 X (pc := 31) zc_X9 (fun _ ht => ⟨(zCB ht gw_8_239 gw_1_13 gw_8_236 rfl rfl (by decide +kernel) ⟨Nat.le_of_ble_eq_true rfl, Nat.le_of_ble_eq_true rfl⟩), ht _ (.tail _ gw_8_238), ht _ (.tail _ gp_63)⟩) h1 hout (by decide +kernel)) <|
    zall_c (zs_goto X (pc := 34) (off := 4) (by decide +kernel) (by decide)) <|
    zall_c (zs_iconst X (pc := 37) (by decide) (by decide +kernel)) <|
    zall_c (zs_iadd X (pc := 38) (by decide +kernel)) <|
    zall_c (zs_istore_n X (pc := 39) (q := 1) rfl (by decide) (by decide +kernel)) <|
    zall_c (zs_iinc X (pc := 40) (by decide) (by decide +kernel)) <|
    zall_c (zs_goto X (pc := 43) (off := (-34)) (by decide +kernel) (by decide)) <|
    zall_c (zs_iload_n X (pc := 46) (q := 1) rfl (by decide +kernel)) <|
    zall_c (zs_iret X (pc := 47) rfl (by decide +kernel)) <|
    zall_n
theorem met_X9_left {l : Launch} (hl : l.stackTraces = false) {T0 : ZTf} {T1 : ZTf} (h0 : zMet l yX9_rows (Cond.code yX9_rows cX9_rows 1 (Option.some Jvm.ClassFile.FieldType.int) :: zG) rm_X9_rows 0 0 T0) (h1 : zMet l yX9_ofRow (Cond.code yX9_ofRow cX9_ofRow 3 (Option.some Jvm.ClassFile.FieldType.int) :: zG) rm_X9_ofRow 0 0 T1) {T : ZTf} (bd : zBd (cd_X9_left T0 T1) 3 0 0 T) : zMet l yX9_left (Cond.code yX9_left cX9_left 3 (Option.some Jvm.ClassFile.FieldType.int) :: zG) rm_X9_left 0 0 T := zMet_of hl (by decide +kernel) rfl rfl rfl rfl (hs_X9_left hl h0 h1) bd

abbrev rm_X9_leader : Room := { frames := 2, cells := 0, slots := 0, locals := 52 }
def cd_X9_leader (T0 : ZTf) (T1 : ZTf) : List (Nat × ZTr) := [(0, tAld 0 1), (1, tC (zi 0) 2), (2, tPutI 12 0 (fun _ => True) 5), (5, tC (zi (-1)) 6), (6, tIst 1 7), (7, tC (zi 0) 8), (8, tIst 2 9), (9, tIld 2 10), (10, tAld 0 11), (11, tCall0 1 T0 (zRcv 12) 14), (14, tIc_ge 47 17), (17, tIld 1 18), (18, tC (zi (-1)) 19), (19, tIc_eq 39 22), (22, tAld 0 23), (23, tIld 2 24), (24, tC (zi 8) 26), (26, tCall0 3 T1 (zRcv 12) 29), (29, tAld 0 30), (30, tIld 1 31), (31, tC (zi 8) 33), (33, tCall0 3 T1 (zRcv 12) 36), (36, tIc_le 41 39), (39, tIld 2 40), (40, tIst 1 41), (41, tInc 2 1 44), (44, tGo 9), (47, tIld 1 48), (48, tRi (fun _ => True))]
set_option maxRecDepth 100000 in
set_option maxHeartbeats 4000000 in
theorem hs_X9_leader {l : Launch} (hl : l.stackTraces = false) {T0 : ZTf} {T1 : ZTf} (h0 : zMet l yX9_workers (Cond.code yX9_workers cX9_workers 1 (Option.some Jvm.ClassFile.FieldType.int) :: zG) rm_X9_workers 0 0 T0) (h1 : zMet l yX9_ofWorker (Cond.code yX9_ofWorker cX9_ofWorker 3 (Option.some Jvm.ClassFile.FieldType.int) :: zG) rm_X9_ofWorker 0 0 T1) (p : Program) (e : Env) (s : State) (m : MethodId) (args : Array Value) (below : List Frame) (meth : Method) (c : Code) (D : va_G) (A : Nat → Prop) (a0 : Nat → Nat) (M0 : ZM) (K : ZRet) (KX : ZEx) (X : zCtx p l rm_X9_leader s m args meth c cX9_leader RX9 (Cond.code yX9_leader cX9_leader 3 (Option.some Jvm.ClassFile.FieldType.int) :: zG) 3 (Option.some Jvm.ClassFile.FieldType.int) D A a0 M0 0 0) (hnm : meth.name = yX9_leader.name) (hout : ∀ x ∈ c.exceptionTable.toList, False) : ∀ q ∈ cd_X9_leader T0 T1, zSd p l e rm_X9_leader s m args below meth c 3 D A a0 M0 K KX 0 0 q.1 q.2 :=
    zall_c (zs_aload_n X (pc := 0) (q := 0) rfl (by decide +kernel)) <|
    zall_c (zs_iconst X (pc := 1) (by decide) (by decide +kernel)) <|
    zall_c (zs_puti X (pc := 2) (ty := Jvm.ClassFile.FieldType.int) zc_X9 (by decide) (zin ui_X9) tyX9_ok nmX9 (.tail _ gw_7_215) rfl (by decide +kernel) (by decide +kernel) (by decide +kernel) zP_int) <|
    zall_c (zs_iconst X (pc := 5) (by decide) (by decide +kernel)) <|
    zall_c (zs_istore_n X (pc := 6) (q := 1) rfl (by decide) (by decide +kernel)) <|
    zall_c (zs_iconst X (pc := 7) (by decide) (by decide +kernel)) <|
    zall_c (zs_istore_n X (pc := 8) (q := 2) rfl (by decide) (by decide +kernel)) <|
    zall_c (zs_iload_n X (pc := 9) (q := 2) rfl (by decide +kernel)) <|
    zall_c (zs_aload_n X (pc := 10) (q := 0) rfl (by decide +kernel)) <|
    zall_c (zs_callV0 X (pc := 11) zc_X9 (fun _ ht => ⟨(zCB ht gw_8_136 gw_1_13 gw_8_133 rfl rfl (by decide +kernel) ⟨Nat.le_of_ble_eq_true rfl, Nat.le_of_ble_eq_true rfl⟩), ht _ (.tail _ gw_8_135), ht _ (.tail _ gp_44)⟩) h0 hout (by decide +kernel)) <|
    zall_c (zs_icmp_ge X (pc := 14) (off := 33) (by decide +kernel) (by decide)) <|
    zall_c (zs_iload_n X (pc := 17) (q := 1) rfl (by decide +kernel)) <|
    zall_c (zs_iconst X (pc := 18) (by decide) (by decide +kernel)) <|
    zall_c (zs_icmp_eq X (pc := 19) (off := 20) (by decide +kernel) (by decide)) <|
    zall_c (zs_aload_n X (pc := 22) (q := 0) rfl (by decide +kernel)) <|
    zall_c (zs_iload_n X (pc := 23) (q := 2) rfl (by decide +kernel)) <|
    zall_c (zs_bipush X (pc := 24) (by decide) (by decide +kernel) (by decide +kernel)) <|
    zall_c (zs_callV0 X (pc := 26) zc_X9 (fun _ ht => ⟨(zCB ht gw_8_161 gw_1_13 gw_8_158 rfl rfl (by decide +kernel) ⟨Nat.le_of_ble_eq_true rfl, Nat.le_of_ble_eq_true rfl⟩), ht _ (.tail _ gw_8_160), ht _ (.tail _ gp_48)⟩) h1 hout (by decide +kernel)) <|
    zall_c (zs_aload_n X (pc := 29) (q := 0) rfl (by decide +kernel)) <|
    zall_c (zs_iload_n X (pc := 30) (q := 1) rfl (by decide +kernel)) <|
    zall_c (zs_bipush X (pc := 31) (by decide) (by decide +kernel) (by decide +kernel)) <|
    zall_c (zs_callV0 X (pc := 33) zc_X9 (fun _ ht => ⟨(zCB ht gw_8_161 gw_1_13 gw_8_158 rfl rfl (by decide +kernel) ⟨Nat.le_of_ble_eq_true rfl, Nat.le_of_ble_eq_true rfl⟩), ht _ (.tail _ gw_8_160), ht _ (.tail _ gp_48)⟩) h1 hout (by decide +kernel)) <|
    zall_c (zs_icmp_le X (pc := 36) (off := 5) (by decide +kernel) (by decide)) <|
    zall_c (zs_iload_n X (pc := 39) (q := 2) rfl (by decide +kernel)) <|
    zall_c (zs_istore_n X (pc := 40) (q := 1) rfl (by decide) (by decide +kernel)) <|
    zall_c (zs_iinc X (pc := 41) (by decide) (by decide +kernel)) <|
    zall_c (zs_goto X (pc := 44) (off := (-35)) (by decide +kernel) (by decide)) <|
    zall_c (zs_iload_n X (pc := 47) (q := 1) rfl (by decide +kernel)) <|
    zall_c (zs_iret X (pc := 48) rfl (by decide +kernel)) <|
    zall_n
theorem met_X9_leader {l : Launch} (hl : l.stackTraces = false) {T0 : ZTf} {T1 : ZTf} (h0 : zMet l yX9_workers (Cond.code yX9_workers cX9_workers 1 (Option.some Jvm.ClassFile.FieldType.int) :: zG) rm_X9_workers 0 0 T0) (h1 : zMet l yX9_ofWorker (Cond.code yX9_ofWorker cX9_ofWorker 3 (Option.some Jvm.ClassFile.FieldType.int) :: zG) rm_X9_ofWorker 0 0 T1) {T : ZTf} (bd : zBd (cd_X9_leader T0 T1) 3 0 0 T) : zMet l yX9_leader (Cond.code yX9_leader cX9_leader 3 (Option.some Jvm.ClassFile.FieldType.int) :: zG) rm_X9_leader 0 0 T := zMet_of hl (by decide +kernel) rfl rfl rfl rfl (hs_X9_leader hl h0 h1) bd

abbrev rm_X9_place : Room := { frames := 3, cells := 0, slots := 0, locals := 76 }
def cd_X9_place (T0 : ZTf) (T1 : ZTf) (T2 : ZTf) (T3 : ZTf) : List (Nat × ZTr) := [(0, tAld 0 1), (1, tAld 0 2), (2, tIld 1 3), (3, tCall0 2 T0 (zRcv 12) 6), (6, tCall0 2 T1 (zRcv 12) 9), (9, tIf_ne 14 12), (12, tC (zi 0) 13), (13, tRi (fun _ => True)), (14, tC (zi 1) 15), (15, tIst 2 16), (16, tC (zi 0) 17), (17, tIst 3 18), (18, tIld 3 19), (19, tAld 0 20), (20, tCall0 1 T2 (zRcv 12) 23), (23, tIc_ge 57 26), (26, tIld 2 27), (27, tAld 0 28), (28, tIld 3 29), (29, tC (zi 8) 31), (31, tCall0 3 T3 (zRcv 12) 34), (34, tAld 0 35), (35, tIld 1 36), (36, tC (zi 8) 38), (38, tCall0 3 T3 (zRcv 12) 41), (41, tIc_le 48 44), (44, tC (zi 1) 45), (45, tGo 49), (48, tC (zi 0) 49), (49, tAdd 50), (50, tIst 2 51), (51, tInc 3 1 54), (54, tGo 18), (57, tIld 2 58), (58, tRi (fun _ => True))]
set_option maxRecDepth 100000 in
set_option maxHeartbeats 4000000 in
theorem hs_X9_place {l : Launch} (hl : l.stackTraces = false) {T0 : ZTf} {T1 : ZTf} {T2 : ZTf} {T3 : ZTf} (h0 : zMet l yX9_isWorker (Cond.code yX9_isWorker cX9_isWorker 2 (Option.some Jvm.ClassFile.FieldType.boolean) :: zG) rm_X9_isWorker 0 0 T0) (h1 : zMet l yX9_passes (Cond.code yX9_passes cX9_passes 2 (Option.some Jvm.ClassFile.FieldType.boolean) :: zG) rm_X9_passes 0 0 T1) (h2 : zMet l yX9_workers (Cond.code yX9_workers cX9_workers 1 (Option.some Jvm.ClassFile.FieldType.int) :: zG) rm_X9_workers 0 0 T2) (h3 : zMet l yX9_ofWorker (Cond.code yX9_ofWorker cX9_ofWorker 3 (Option.some Jvm.ClassFile.FieldType.int) :: zG) rm_X9_ofWorker 0 0 T3) (p : Program) (e : Env) (s : State) (m : MethodId) (args : Array Value) (below : List Frame) (meth : Method) (c : Code) (D : va_G) (A : Nat → Prop) (a0 : Nat → Nat) (M0 : ZM) (K : ZRet) (KX : ZEx) (X : zCtx p l rm_X9_place s m args meth c cX9_place RX9 (Cond.code yX9_place cX9_place 4 (Option.some Jvm.ClassFile.FieldType.int) :: zG) 4 (Option.some Jvm.ClassFile.FieldType.int) D A a0 M0 0 0) (hnm : meth.name = yX9_place.name) (hout : ∀ x ∈ c.exceptionTable.toList, False) : ∀ q ∈ cd_X9_place T0 T1 T2 T3, zSd p l e rm_X9_place s m args below meth c 4 D A a0 M0 K KX 0 0 q.1 q.2 :=
    zall_c (zs_aload_n X (pc := 0) (q := 0) rfl (by decide +kernel)) <|
    zall_c (zs_aload_n X (pc := 1) (q := 0) rfl (by decide +kernel)) <|
    zall_c (zs_iload_n X (pc := 2) (q := 1) rfl (by decide +kernel)) <|
    zall_c (zs_callV0 X (pc := 3) zc_X9 (fun _ ht => ⟨(zCB ht gw_9_11 gw_1_13 gw_9_8 rfl rfl (by decide +kernel) ⟨Nat.le_of_ble_eq_true rfl, Nat.le_of_ble_eq_true rfl⟩), ht _ (.tail _ gw_9_10), ht _ (.tail _ gp_65)⟩) h0 hout (by decide +kernel)) <|
    zall_c (zs_callV0 X (pc := 6) zc_X9 (fun _ ht => ⟨(zCB ht gw_8_49 gw_1_13 gw_8_46 rfl rfl (by decide +kernel) ⟨Nat.le_of_ble_eq_true rfl, Nat.le_of_ble_eq_true rfl⟩), ht _ (.tail _ gw_8_48), ht _ (.tail _ gp_28)⟩) h1 hout (by decide +kernel)) <|
    zall_c (zs_if_ne X (pc := 9) (off := 5) (by decide +kernel) (by decide)) <|
    zall_c (zs_iconst X (pc := 12) (by decide) (by decide +kernel)) <|
    zall_c (zs_iret X (pc := 13) rfl (by decide +kernel)) <|
    zall_c (zs_iconst X (pc := 14) (by decide) (by decide +kernel)) <|
    zall_c (zs_istore_n X (pc := 15) (q := 2) rfl (by decide) (by decide +kernel)) <|
    zall_c (zs_iconst X (pc := 16) (by decide) (by decide +kernel)) <|
    zall_c (zs_istore_n X (pc := 17) (q := 3) rfl (by decide) (by decide +kernel)) <|
    zall_c (zs_iload_n X (pc := 18) (q := 3) rfl (by decide +kernel)) <|
    zall_c (zs_aload_n X (pc := 19) (q := 0) rfl (by decide +kernel)) <|
    zall_c (zs_callV0 X (pc := 20) zc_X9 (fun _ ht => ⟨(zCB ht gw_8_136 gw_1_13 gw_8_133 rfl rfl (by decide +kernel) ⟨Nat.le_of_ble_eq_true rfl, Nat.le_of_ble_eq_true rfl⟩), ht _ (.tail _ gw_8_135), ht _ (.tail _ gp_44)⟩) h2 hout (by decide +kernel)) <|
    zall_c (zs_icmp_ge X (pc := 23) (off := 34) (by decide +kernel) (by decide)) <|
    zall_c (zs_iload_n X (pc := 26) (q := 2) rfl (by decide +kernel)) <|
    zall_c (zs_aload_n X (pc := 27) (q := 0) rfl (by decide +kernel)) <|
    zall_c (zs_iload_n X (pc := 28) (q := 3) rfl (by decide +kernel)) <|
    zall_c (zs_bipush X (pc := 29) (by decide) (by decide +kernel) (by decide +kernel)) <|
    zall_c (zs_callV0 X (pc := 31) zc_X9 (fun _ ht => ⟨(zCB ht gw_8_161 gw_1_13 gw_8_158 rfl rfl (by decide +kernel) ⟨Nat.le_of_ble_eq_true rfl, Nat.le_of_ble_eq_true rfl⟩), ht _ (.tail _ gw_8_160), ht _ (.tail _ gp_48)⟩) h3 hout (by decide +kernel)) <|
    zall_c (zs_aload_n X (pc := 34) (q := 0) rfl (by decide +kernel)) <|
    zall_c (zs_iload_n X (pc := 35) (q := 1) rfl (by decide +kernel)) <|
    zall_c (zs_bipush X (pc := 36) (by decide) (by decide +kernel) (by decide +kernel)) <|
    zall_c (zs_callV0 X (pc := 38) zc_X9 (fun _ ht => ⟨(zCB ht gw_8_161 gw_1_13 gw_8_158 rfl rfl (by decide +kernel) ⟨Nat.le_of_ble_eq_true rfl, Nat.le_of_ble_eq_true rfl⟩), ht _ (.tail _ gw_8_160), ht _ (.tail _ gp_48)⟩) h3 hout (by decide +kernel)) <|
    zall_c (zs_icmp_le X (pc := 41) (off := 7) (by decide +kernel) (by decide)) <|
    zall_c (zs_iconst X (pc := 44) (by decide) (by decide +kernel)) <|
    zall_c (zs_goto X (pc := 45) (off := 4) (by decide +kernel) (by decide)) <|
    zall_c (zs_iconst X (pc := 48) (by decide) (by decide +kernel)) <|
    zall_c (zs_iadd X (pc := 49) (by decide +kernel)) <|
    zall_c (zs_istore_n X (pc := 50) (q := 2) rfl (by decide) (by decide +kernel)) <|
    zall_c (zs_iinc X (pc := 51) (by decide) (by decide +kernel)) <|
    zall_c (zs_goto X (pc := 54) (off := (-36)) (by decide +kernel) (by decide)) <|
    zall_c (zs_iload_n X (pc := 57) (q := 2) rfl (by decide +kernel)) <|
    zall_c (zs_iret X (pc := 58) rfl (by decide +kernel)) <|
    zall_n
theorem met_X9_place {l : Launch} (hl : l.stackTraces = false) {T0 : ZTf} {T1 : ZTf} {T2 : ZTf} {T3 : ZTf} (h0 : zMet l yX9_isWorker (Cond.code yX9_isWorker cX9_isWorker 2 (Option.some Jvm.ClassFile.FieldType.boolean) :: zG) rm_X9_isWorker 0 0 T0) (h1 : zMet l yX9_passes (Cond.code yX9_passes cX9_passes 2 (Option.some Jvm.ClassFile.FieldType.boolean) :: zG) rm_X9_passes 0 0 T1) (h2 : zMet l yX9_workers (Cond.code yX9_workers cX9_workers 1 (Option.some Jvm.ClassFile.FieldType.int) :: zG) rm_X9_workers 0 0 T2) (h3 : zMet l yX9_ofWorker (Cond.code yX9_ofWorker cX9_ofWorker 3 (Option.some Jvm.ClassFile.FieldType.int) :: zG) rm_X9_ofWorker 0 0 T3) {T : ZTf} (bd : zBd (cd_X9_place T0 T1 T2 T3) 4 0 0 T) : zMet l yX9_place (Cond.code yX9_place cX9_place 4 (Option.some Jvm.ClassFile.FieldType.int) :: zG) rm_X9_place 0 0 T := zMet_of hl (by decide +kernel) rfl rfl rfl rfl (hs_X9_place hl h0 h1 h2 h3) bd

abbrev rm_X9_strikesBoth : Room := { frames := 2, cells := 0, slots := 0, locals := 54 }
def cd_X9_strikesBoth (T0 : ZTf) (T1 : ZTf) (T2 : ZTf) (T3 : ZTf) : List (Nat × ZTr) := [(0, tC (zi 0) 1), (1, tIst 2 2), (2, tIld 2 3), (3, tAld 0 4), (4, tCall0 1 T0 (zRcv 12) 7), (7, tIc_ge 61 10), (10, tC (zi 0) 11), (11, tIst 3 12), (12, tIld 3 13), (13, tIld 2 14), (14, tIc_ge 55 17), (17, tIld 1 18), (18, tIld 2 19), (19, tCall0 2 T1 zAny 22), (22, tIf_eq 49 25), (25, tIld 1 26), (26, tIld 3 27), (27, tCall0 2 T1 zAny 30), (30, tIf_eq 49 33), (33, tAld 0 34), (34, tC (zi 96) 36), (36, tIld 2 37), (37, tIld 3 38), (38, tAld 0 39), (39, tIld 2 40), (40, tIld 3 41), (41, tCall0 3 T2 (zRcv 12) 44), (44, tC (zi 1) 45), (45, tAdd 46), (46, tCall0 5 T3 (zRcv 12) 49), (49, tInc 3 1 52), (52, tGo 12), (55, tInc 2 1 58), (58, tGo 2), (61, tRv)]
set_option maxRecDepth 100000 in
set_option maxHeartbeats 4000000 in
theorem hs_X9_strikesBoth {l : Launch} (hl : l.stackTraces = false) {T0 : ZTf} {T1 : ZTf} {T2 : ZTf} {T3 : ZTf} (h0 : zMet l yX9_workers (Cond.code yX9_workers cX9_workers 1 (Option.some Jvm.ClassFile.FieldType.int) :: zG) rm_X9_workers 0 0 T0) (h1 : zMet l yX9_has (Cond.code yX9_has cX9_has 2 (Option.some Jvm.ClassFile.FieldType.boolean) :: zG) rm_X9_has 0 0 T1) (h2 : zMet l yX9_strikesOf (Cond.code yX9_strikesOf cX9_strikesOf 3 (Option.some Jvm.ClassFile.FieldType.int) :: zG) rm_X9_strikesOf 0 0 T2) (h3 : zMet l yX9_putBoth (Cond.code yX9_putBoth cX9_putBoth 5 (Option.none : Option Jvm.ClassFile.FieldType) :: zG) rm_X9_putBoth 0 0 T3) (p : Program) (e : Env) (s : State) (m : MethodId) (args : Array Value) (below : List Frame) (meth : Method) (c : Code) (D : va_G) (A : Nat → Prop) (a0 : Nat → Nat) (M0 : ZM) (K : ZRet) (KX : ZEx) (X : zCtx p l rm_X9_strikesBoth s m args meth c cX9_strikesBoth RX9 (Cond.code yX9_strikesBoth cX9_strikesBoth 4 (Option.none : Option Jvm.ClassFile.FieldType) :: zG) 4 (Option.none : Option Jvm.ClassFile.FieldType) D A a0 M0 0 0) (hnm : meth.name = yX9_strikesBoth.name) (hout : ∀ x ∈ c.exceptionTable.toList, False) : ∀ q ∈ cd_X9_strikesBoth T0 T1 T2 T3, zSd p l e rm_X9_strikesBoth s m args below meth c 4 D A a0 M0 K KX 0 0 q.1 q.2 :=
    zall_c (zs_iconst X (pc := 0) (by decide) (by decide +kernel)) <|
    zall_c (zs_istore_n X (pc := 1) (q := 2) rfl (by decide) (by decide +kernel)) <|
    zall_c (zs_iload_n X (pc := 2) (q := 2) rfl (by decide +kernel)) <|
    zall_c (zs_aload_n X (pc := 3) (q := 0) rfl (by decide +kernel)) <|
    zall_c (zs_callV0 X (pc := 4) zc_X9 (fun _ ht => ⟨(zCB ht gw_8_136 gw_1_13 gw_8_133 rfl rfl (by decide +kernel) ⟨Nat.le_of_ble_eq_true rfl, Nat.le_of_ble_eq_true rfl⟩), ht _ (.tail _ gw_8_135), ht _ (.tail _ gp_44)⟩) h0 hout (by decide +kernel)) <|
    zall_c (zs_icmp_ge X (pc := 7) (off := 54) (by decide +kernel) (by decide)) <|
    zall_c (zs_iconst X (pc := 10) (by decide) (by decide +kernel)) <|
    zall_c (zs_istore_n X (pc := 11) (q := 3) rfl (by decide) (by decide +kernel)) <|
    zall_c (zs_iload_n X (pc := 12) (q := 3) rfl (by decide +kernel)) <|
    zall_c (zs_iload_n X (pc := 13) (q := 2) rfl (by decide +kernel)) <|
    zall_c (zs_icmp_ge X (pc := 14) (off := 41) (by decide +kernel) (by decide)) <|
    zall_c (zs_iload_n X (pc := 17) (q := 1) rfl (by decide +kernel)) <|
    zall_c (zs_iload_n X (pc := 18) (q := 2) rfl (by decide +kernel)) <|
    zall_c (zs_callS0 X (pc := 19) (fun _ ht => ⟨(zCB ht gw_9_85 gw_1_13 gw_9_83 rfl rfl (by decide +kernel) ⟨Nat.le_of_ble_eq_true rfl, Nat.le_of_ble_eq_true rfl⟩), ht _ (.tail _ gw_9_84)⟩) h1 hout (by decide +kernel)) <|
    zall_c (zs_if_eq X (pc := 22) (off := 27) (by decide +kernel) (by decide)) <|
    zall_c (zs_iload_n X (pc := 25) (q := 1) rfl (by decide +kernel)) <|
    zall_c (zs_iload_n X (pc := 26) (q := 3) rfl (by decide +kernel)) <|
    zall_c (zs_callS0 X (pc := 27) (fun _ ht => ⟨(zCB ht gw_9_85 gw_1_13 gw_9_83 rfl rfl (by decide +kernel) ⟨Nat.le_of_ble_eq_true rfl, Nat.le_of_ble_eq_true rfl⟩), ht _ (.tail _ gw_9_84)⟩) h1 hout (by decide +kernel)) <|
    zall_c (zs_if_eq X (pc := 30) (off := 19) (by decide +kernel) (by decide)) <|
    zall_c (zs_aload_n X (pc := 33) (q := 0) rfl (by decide +kernel)) <|
    zall_c (zs_bipush X (pc := 34) (by decide) (by decide +kernel) (by decide +kernel)) <|
    zall_c (zs_iload_n X (pc := 36) (q := 2) rfl (by decide +kernel)) <|
    zall_c (zs_iload_n X (pc := 37) (q := 3) rfl (by decide +kernel)) <|
    zall_c (zs_aload_n X (pc := 38) (q := 0) rfl (by decide +kernel)) <|
    zall_c (zs_iload_n X (pc := 39) (q := 2) rfl (by decide +kernel)) <|
    zall_c (zs_iload_n X (pc := 40) (q := 3) rfl (by decide +kernel)) <|
    zall_c (zs_callV0 X (pc := 41) zc_X9 (fun _ ht => ⟨(zCB ht gw_8_197 gw_1_13 gw_8_194 rfl rfl (by decide +kernel) ⟨Nat.le_of_ble_eq_true rfl, Nat.le_of_ble_eq_true rfl⟩), ht _ (.tail _ gw_8_196), ht _ (.tail _ gp_57)⟩) h2 hout (by decide +kernel)) <|
    zall_c (zs_iconst X (pc := 44) (by decide) (by decide +kernel)) <|
    zall_c (zs_iadd X (pc := 45) (by decide +kernel)) <|
    zall_c (zs_callV0 X (pc := 46) zc_X9 (fun _ ht => ⟨(zCB ht gw_8_201 gw_1_13 gw_8_198 rfl rfl (by decide +kernel) ⟨Nat.le_of_ble_eq_true rfl, Nat.le_of_ble_eq_true rfl⟩), ht _ (.tail _ gw_8_200), ht _ (.tail _ gp_58)⟩) h3 hout (by decide +kernel)) <|
    zall_c (zs_iinc X (pc := 49) (by decide) (by decide +kernel)) <|
    zall_c (zs_goto X (pc := 52) (off := (-40)) (by decide +kernel) (by decide)) <|
    zall_c (zs_iinc X (pc := 55) (by decide) (by decide +kernel)) <|
    zall_c (zs_goto X (pc := 58) (off := (-56)) (by decide +kernel) (by decide)) <|
    zall_c (zs_vret X (pc := 61) rfl (by decide +kernel)) <|
    zall_n
theorem met_X9_strikesBoth {l : Launch} (hl : l.stackTraces = false) {T0 : ZTf} {T1 : ZTf} {T2 : ZTf} {T3 : ZTf} (h0 : zMet l yX9_workers (Cond.code yX9_workers cX9_workers 1 (Option.some Jvm.ClassFile.FieldType.int) :: zG) rm_X9_workers 0 0 T0) (h1 : zMet l yX9_has (Cond.code yX9_has cX9_has 2 (Option.some Jvm.ClassFile.FieldType.boolean) :: zG) rm_X9_has 0 0 T1) (h2 : zMet l yX9_strikesOf (Cond.code yX9_strikesOf cX9_strikesOf 3 (Option.some Jvm.ClassFile.FieldType.int) :: zG) rm_X9_strikesOf 0 0 T2) (h3 : zMet l yX9_putBoth (Cond.code yX9_putBoth cX9_putBoth 5 (Option.none : Option Jvm.ClassFile.FieldType) :: zG) rm_X9_putBoth 0 0 T3) {T : ZTf} (bd : zBd (cd_X9_strikesBoth T0 T1 T2 T3) 4 0 0 T) : zMet l yX9_strikesBoth (Cond.code yX9_strikesBoth cX9_strikesBoth 4 (Option.none : Option Jvm.ClassFile.FieldType) :: zG) rm_X9_strikesBoth 0 0 T := zMet_of hl (by decide +kernel) rfl rfl rfl rfl (hs_X9_strikesBoth hl h0 h1 h2 h3) bd

abbrev rm_X9_leastOf : Room := { frames := 1, cells := 0, slots := 0, locals := 30 }
def cd_X9_leastOf : List (Nat × ZTr) := [(0, tIld 0 1), (1, tC (zi 1) 2), (2, tIc_ne 9 5), (5, tC (zi 1) 6), (6, tGo 10), (9, tC (zi 0) 10), (10, tRi (fun _ => True))]
set_option maxRecDepth 100000 in
set_option maxHeartbeats 4000000 in
theorem hs_X9_leastOf {l : Launch} (hl : l.stackTraces = false) (p : Program) (e : Env) (s : State) (m : MethodId) (args : Array Value) (below : List Frame) (meth : Method) (c : Code) (D : va_G) (A : Nat → Prop) (a0 : Nat → Nat) (M0 : ZM) (K : ZRet) (KX : ZEx) (X : zCtx p l rm_X9_leastOf s m args meth c cX9_leastOf RX9 (Cond.code yX9_leastOf cX9_leastOf 1 (Option.some Jvm.ClassFile.FieldType.int) :: zG) 1 (Option.some Jvm.ClassFile.FieldType.int) D A a0 M0 0 0) (hnm : meth.name = yX9_leastOf.name) (hout : ∀ x ∈ c.exceptionTable.toList, False) : ∀ q ∈ cd_X9_leastOf, zSd p l e rm_X9_leastOf s m args below meth c 1 D A a0 M0 K KX 0 0 q.1 q.2 :=
    zall_c (zs_iload_n X (pc := 0) (q := 0) rfl (by decide +kernel)) <|
    zall_c (zs_iconst X (pc := 1) (by decide) (by decide +kernel)) <|
    zall_c (zs_icmp_ne X (pc := 2) (off := 7) (by decide +kernel) (by decide)) <|
    zall_c (zs_iconst X (pc := 5) (by decide) (by decide +kernel)) <|
    zall_c (zs_goto X (pc := 6) (off := 4) (by decide +kernel) (by decide)) <|
    zall_c (zs_iconst X (pc := 9) (by decide) (by decide +kernel)) <|
    zall_c (zs_iret X (pc := 10) rfl (by decide +kernel)) <|
    zall_n
theorem met_X9_leastOf {l : Launch} (hl : l.stackTraces = false) {T : ZTf} (bd : zBd (cd_X9_leastOf) 1 0 0 T) : zMet l yX9_leastOf (Cond.code yX9_leastOf cX9_leastOf 1 (Option.some Jvm.ClassFile.FieldType.int) :: zG) rm_X9_leastOf 0 0 T := zMet_of hl (by decide +kernel) rfl rfl rfl rfl (hs_X9_leastOf hl) bd

abbrev rm_X9_mostOf : Room := { frames := 1, cells := 0, slots := 0, locals := 30 }
def cd_X9_mostOf : List (Nat × ZTr) := [(0, tIld 0 1), (1, tIf_ne 9 4), (4, tC (zi 20) 6), (6, tGo 21), (9, tIld 0 10), (10, tC (zi 1) 11), (11, tIc_ne 19 14), (14, tC (zi 50) 16), (16, tGo 21), (19, tC (zi 19) 21), (21, tRi (fun _ => True))]
set_option maxRecDepth 100000 in
set_option maxHeartbeats 4000000 in
theorem hs_X9_mostOf {l : Launch} (hl : l.stackTraces = false) (p : Program) (e : Env) (s : State) (m : MethodId) (args : Array Value) (below : List Frame) (meth : Method) (c : Code) (D : va_G) (A : Nat → Prop) (a0 : Nat → Nat) (M0 : ZM) (K : ZRet) (KX : ZEx) (X : zCtx p l rm_X9_mostOf s m args meth c cX9_mostOf RX9 (Cond.code yX9_mostOf cX9_mostOf 1 (Option.some Jvm.ClassFile.FieldType.int) :: zG) 1 (Option.some Jvm.ClassFile.FieldType.int) D A a0 M0 0 0) (hnm : meth.name = yX9_mostOf.name) (hout : ∀ x ∈ c.exceptionTable.toList, False) : ∀ q ∈ cd_X9_mostOf, zSd p l e rm_X9_mostOf s m args below meth c 1 D A a0 M0 K KX 0 0 q.1 q.2 :=
    zall_c (zs_iload_n X (pc := 0) (q := 0) rfl (by decide +kernel)) <|
    zall_c (zs_if_ne X (pc := 1) (off := 8) (by decide +kernel) (by decide)) <|
    zall_c (zs_bipush X (pc := 4) (by decide) (by decide +kernel) (by decide +kernel)) <|
    zall_c (zs_goto X (pc := 6) (off := 15) (by decide +kernel) (by decide)) <|
    zall_c (zs_iload_n X (pc := 9) (q := 0) rfl (by decide +kernel)) <|
    zall_c (zs_iconst X (pc := 10) (by decide) (by decide +kernel)) <|
    zall_c (zs_icmp_ne X (pc := 11) (off := 8) (by decide +kernel) (by decide)) <|
    zall_c (zs_bipush X (pc := 14) (by decide) (by decide +kernel) (by decide +kernel)) <|
    zall_c (zs_goto X (pc := 16) (off := 5) (by decide +kernel) (by decide)) <|
    zall_c (zs_bipush X (pc := 19) (by decide) (by decide +kernel) (by decide +kernel)) <|
    zall_c (zs_iret X (pc := 21) rfl (by decide +kernel)) <|
    zall_n
theorem met_X9_mostOf {l : Launch} (hl : l.stackTraces = false) {T : ZTf} (bd : zBd (cd_X9_mostOf) 1 0 0 T) : zMet l yX9_mostOf (Cond.code yX9_mostOf cX9_mostOf 1 (Option.some Jvm.ClassFile.FieldType.int) :: zG) rm_X9_mostOf 0 0 T := zMet_of hl (by decide +kernel) rfl rfl rfl rfl (hs_X9_mostOf hl) bd

abbrev rm_X9_isSlot : Room := { frames := 2, cells := 0, slots := 0, locals := 55 }
def cd_X9_isSlot (T0 : ZTf) : List (Nat × ZTr) := [(0, tIld 0 1), (1, tI2l 2), (2, tC (zl 0) 3), (3, tC (zl 1) 4), (4, tCall0 3 T0 zAny 7), (7, tRi zPz)]
set_option maxRecDepth 100000 in
set_option maxHeartbeats 4000000 in
theorem hs_X9_isSlot {l : Launch} (hl : l.stackTraces = false) {T0 : ZTf} (h0 : zMet l yX9_in (Cond.code yX9_in cX9_in 6 (Option.some Jvm.ClassFile.FieldType.boolean) :: zG) rm_X9_in 0 0 T0) (p : Program) (e : Env) (s : State) (m : MethodId) (args : Array Value) (below : List Frame) (meth : Method) (c : Code) (D : va_G) (A : Nat → Prop) (a0 : Nat → Nat) (M0 : ZM) (K : ZRet) (KX : ZEx) (X : zCtx p l rm_X9_isSlot s m args meth c cX9_isSlot RX9 (Cond.code yX9_isSlot cX9_isSlot 1 (Option.some Jvm.ClassFile.FieldType.boolean) :: zG) 1 (Option.some Jvm.ClassFile.FieldType.boolean) D A a0 M0 0 0) (hnm : meth.name = yX9_isSlot.name) (hout : ∀ x ∈ c.exceptionTable.toList, False) : ∀ q ∈ cd_X9_isSlot T0, zSd p l e rm_X9_isSlot s m args below meth c 1 D A a0 M0 K KX 0 0 q.1 q.2 :=
    zall_c (zs_iload_n X (pc := 0) (q := 0) rfl (by decide +kernel)) <|
    zall_c (zs_i2l X (pc := 1) (by decide +kernel)) <|
    zall_c (zs_lconst X (pc := 2) (q := 0) (by decide) (by decide +kernel) rfl) <|
    zall_c (zs_lconst X (pc := 3) (q := 1) (by decide) (by decide +kernel) rfl) <|
    zall_c (zs_callS0 X (pc := 4) (fun _ ht => ⟨(zCB ht gw_8_64 gw_1_13 gw_8_62 rfl rfl (by decide +kernel) ⟨Nat.le_of_ble_eq_true rfl, Nat.le_of_ble_eq_true rfl⟩), ht _ (.tail _ gw_8_63)⟩) h0 hout (by decide +kernel)) <|
    zall_c (zs_zret X (pc := 7) rfl zR_bool (by decide +kernel)) <|
    zall_n
theorem met_X9_isSlot {l : Launch} (hl : l.stackTraces = false) {T0 : ZTf} (h0 : zMet l yX9_in (Cond.code yX9_in cX9_in 6 (Option.some Jvm.ClassFile.FieldType.boolean) :: zG) rm_X9_in 0 0 T0) {T : ZTf} (bd : zBd (cd_X9_isSlot T0) 1 0 0 T) : zMet l yX9_isSlot (Cond.code yX9_isSlot cX9_isSlot 1 (Option.some Jvm.ClassFile.FieldType.boolean) :: zG) rm_X9_isSlot 0 0 T := zMet_of hl (by decide +kernel) rfl rfl rfl rfl (hs_X9_isSlot hl h0) bd

abbrev rm_X9_keep : Room := { frames := 3, cells := 0, slots := 0, locals := 75 }
def cd_X9_keep (T0 : ZTf) (T1 : ZTf) : List (Nat × ZTr) := [(0, tAld 0 1), (1, tIld 1 2), (2, tCall0 1 T0 zAny 5), (5, tCall0 2 T1 (zRcv 12) 8), (8, tIf_ne 13 11), (11, tC (zi 0) 12), (12, tRi (fun _ => True)), (13, tC (zi 0) 14), (14, tIst 2 15), (15, tIld 2 16), (16, tC (zi 516) 19), (19, tIc_ge 46 22), (22, tAld 0 23), (23, tGetR 12 16 26), (26, tC (zi 516) 29), (29, tIld 1 30), (30, tMul 31), (31, tIld 2 32), (32, tAdd 33), (33, tAld 0 34), (34, tGetR 12 1 37), (37, tIld 2 38), (38, tIal 20 39), (39, tIas 20 (fun _ => True) 40), (40, tInc 2 1 43), (43, tGo 15), (46, tAld 0 47), (47, tGetR 12 17 50), (50, tIld 1 51), (51, tC (zi 1) 52), (52, tIas 22 (fun x => x = 0 ∨ x = 1) 53), (53, tAld 0 54), (54, tGetR 12 1 57), (57, tC (zi 3) 58), (58, tIal 20 59), (59, tRi (fun _ => True))]
set_option maxRecDepth 100000 in
set_option maxHeartbeats 4000000 in
theorem hs_X9_keep {l : Launch} (hl : l.stackTraces = false) {T0 : ZTf} {T1 : ZTf} (h0 : zMet l yX9_isSlot (Cond.code yX9_isSlot cX9_isSlot 1 (Option.some Jvm.ClassFile.FieldType.boolean) :: zG) rm_X9_isSlot 0 0 T0) (h1 : zMet l yX9_passes (Cond.code yX9_passes cX9_passes 2 (Option.some Jvm.ClassFile.FieldType.boolean) :: zG) rm_X9_passes 0 0 T1) (p : Program) (e : Env) (s : State) (m : MethodId) (args : Array Value) (below : List Frame) (meth : Method) (c : Code) (D : va_G) (A : Nat → Prop) (a0 : Nat → Nat) (M0 : ZM) (K : ZRet) (KX : ZEx) (X : zCtx p l rm_X9_keep s m args meth c cX9_keep RX9 (Cond.code yX9_keep cX9_keep 3 (Option.some Jvm.ClassFile.FieldType.int) :: zG) 3 (Option.some Jvm.ClassFile.FieldType.int) D A a0 M0 0 0) (hnm : meth.name = yX9_keep.name) (hout : ∀ x ∈ c.exceptionTable.toList, False) : ∀ q ∈ cd_X9_keep T0 T1, zSd p l e rm_X9_keep s m args below meth c 3 D A a0 M0 K KX 0 0 q.1 q.2 :=
    zall_c (zs_aload_n X (pc := 0) (q := 0) rfl (by decide +kernel)) <|
    zall_c (zs_iload_n X (pc := 1) (q := 1) rfl (by decide +kernel)) <|
    zall_c (zs_callS0 X (pc := 2) (fun _ ht => ⟨(zCB ht gw_10_125 gw_1_13 gw_10_123 rfl rfl (by decide +kernel) ⟨Nat.le_of_ble_eq_true rfl, Nat.le_of_ble_eq_true rfl⟩), ht _ (.tail _ gw_10_124)⟩) h0 hout (by decide +kernel)) <|
    zall_c (zs_callV0 X (pc := 5) zc_X9 (fun _ ht => ⟨(zCB ht gw_8_49 gw_1_13 gw_8_46 rfl rfl (by decide +kernel) ⟨Nat.le_of_ble_eq_true rfl, Nat.le_of_ble_eq_true rfl⟩), ht _ (.tail _ gw_8_48), ht _ (.tail _ gp_28)⟩) h1 hout (by decide +kernel)) <|
    zall_c (zs_if_ne X (pc := 8) (off := 5) (by decide +kernel) (by decide)) <|
    zall_c (zs_iconst X (pc := 11) (by decide) (by decide +kernel)) <|
    zall_c (zs_iret X (pc := 12) rfl (by decide +kernel)) <|
    zall_c (zs_iconst X (pc := 13) (by decide) (by decide +kernel)) <|
    zall_c (zs_istore_n X (pc := 14) (q := 2) rfl (by decide) (by decide +kernel)) <|
    zall_c (zs_iload_n X (pc := 15) (q := 2) rfl (by decide +kernel)) <|
    zall_c (zs_sipush X (pc := 16) (by decide) (by decide +kernel) (by decide +kernel)) <|
    zall_c (zs_icmp_ge X (pc := 19) (off := 27) (by decide +kernel) (by decide)) <|
    zall_c (zs_aload_n X (pc := 22) (q := 0) rfl (by decide +kernel)) <|
    zall_c (zs_getr X (pc := 23) zc_X9 (by decide) (zin ui_X9) (.tail _ gw_7_231) (by decide +kernel) (by decide +kernel)) <|
    zall_c (zs_sipush X (pc := 26) (by decide) (by decide +kernel) (by decide +kernel)) <|
    zall_c (zs_iload_n X (pc := 29) (q := 1) rfl (by decide +kernel)) <|
    zall_c (zs_imul X (pc := 30) (by decide +kernel)) <|
    zall_c (zs_iload_n X (pc := 31) (q := 2) rfl (by decide +kernel)) <|
    zall_c (zs_iadd X (pc := 32) (by decide +kernel)) <|
    zall_c (zs_aload_n X (pc := 33) (q := 0) rfl (by decide +kernel)) <|
    zall_c (zs_getr X (pc := 34) zc_X9 (by decide) (zin ui_X9) (.tail _ gw_7_216) (by decide +kernel) (by decide +kernel)) <|
    zall_c (zs_iload_n X (pc := 37) (q := 2) rfl (by decide +kernel)) <|
    zall_c (zs_iaload20 X (pc := 38) (by decide +kernel)) <|
    zall_c (zs_iastore20 X (pc := 39) (by decide +kernel)) <|
    zall_c (zs_iinc X (pc := 40) (by decide) (by decide +kernel)) <|
    zall_c (zs_goto X (pc := 43) (off := (-28)) (by decide +kernel) (by decide)) <|
    zall_c (zs_aload_n X (pc := 46) (q := 0) rfl (by decide +kernel)) <|
    zall_c (zs_getr X (pc := 47) zc_X9 (by decide) (zin ui_X9) (.tail _ gw_7_232) (by decide +kernel) (by decide +kernel)) <|
    zall_c (zs_iload_n X (pc := 50) (q := 1) rfl (by decide +kernel)) <|
    zall_c (zs_iconst X (pc := 51) (by decide) (by decide +kernel)) <|
    zall_c (zs_bastore22 X (pc := 52) (by decide +kernel)) <|
    zall_c (zs_aload_n X (pc := 53) (q := 0) rfl (by decide +kernel)) <|
    zall_c (zs_getr X (pc := 54) zc_X9 (by decide) (zin ui_X9) (.tail _ gw_7_216) (by decide +kernel) (by decide +kernel)) <|
    zall_c (zs_iconst X (pc := 57) (by decide) (by decide +kernel)) <|
    zall_c (zs_iaload20 X (pc := 58) (by decide +kernel)) <|
    zall_c (zs_iret X (pc := 59) rfl (by decide +kernel)) <|
    zall_n
theorem met_X9_keep {l : Launch} (hl : l.stackTraces = false) {T0 : ZTf} {T1 : ZTf} (h0 : zMet l yX9_isSlot (Cond.code yX9_isSlot cX9_isSlot 1 (Option.some Jvm.ClassFile.FieldType.boolean) :: zG) rm_X9_isSlot 0 0 T0) (h1 : zMet l yX9_passes (Cond.code yX9_passes cX9_passes 2 (Option.some Jvm.ClassFile.FieldType.boolean) :: zG) rm_X9_passes 0 0 T1) {T : ZTf} (bd : zBd (cd_X9_keep T0 T1) 3 0 0 T) : zMet l yX9_keep (Cond.code yX9_keep cX9_keep 3 (Option.some Jvm.ClassFile.FieldType.int) :: zG) rm_X9_keep 0 0 T := zMet_of hl (by decide +kernel) rfl rfl rfl rfl (hs_X9_keep hl h0 h1) bd

abbrev rm_X9_remember : Room := { frames := 1, cells := 0, slots := 0, locals := 30 }
def cd_X9_remember : List (Nat × ZTr) := [(0, tAld 0 1), (1, tGetI 12 19 4), (4, tC (zi 6) 6), (6, tIc_ne 52 9), (9, tC (zi 516) 12), (12, tIst 1 13), (13, tIld 1 14), (14, tC (zi 3096) 17), (17, tIc_ge 42 20), (20, tAld 0 21), (21, tGetR 12 18 24), (24, tIld 1 25), (25, tC (zi 516) 28), (28, tSub 29), (29, tAld 0 30), (30, tGetR 12 18 33), (33, tIld 1 34), (34, tIal 20 35), (35, tIas 20 (fun _ => True) 36), (36, tInc 1 1 39), (39, tGo 13), (42, tAld 0 43), (43, tDup 44), (44, tGetI 12 19 47), (47, tC (zi 1) 48), (48, tSub 49), (49, tPutI 12 19 (fun _ => True) 52), (52, tC (zi 0) 53), (53, tIst 1 54), (54, tIld 1 55), (55, tC (zi 516) 58), (58, tIc_ge 88 61), (61, tAld 0 62), (62, tGetR 12 18 65), (65, tC (zi 516) 68), (68, tAld 0 69), (69, tGetI 12 19 72), (72, tMul 73), (73, tIld 1 74), (74, tAdd 75), (75, tAld 0 76), (76, tGetR 12 1 79), (79, tIld 1 80), (80, tIal 20 81), (81, tIas 20 (fun _ => True) 82), (82, tInc 1 1 85), (85, tGo 54), (88, tAld 0 89), (89, tDup 90), (90, tGetI 12 19 93), (93, tC (zi 1) 94), (94, tAdd 95), (95, tPutI 12 19 (fun _ => True) 98), (98, tRv)]
set_option maxRecDepth 100000 in
set_option maxHeartbeats 4000000 in
theorem hs_X9_remember {l : Launch} (hl : l.stackTraces = false) (p : Program) (e : Env) (s : State) (m : MethodId) (args : Array Value) (below : List Frame) (meth : Method) (c : Code) (D : va_G) (A : Nat → Prop) (a0 : Nat → Nat) (M0 : ZM) (K : ZRet) (KX : ZEx) (X : zCtx p l rm_X9_remember s m args meth c cX9_remember RX9 (Cond.code yX9_remember cX9_remember 2 (Option.none : Option Jvm.ClassFile.FieldType) :: zG) 2 (Option.none : Option Jvm.ClassFile.FieldType) D A a0 M0 0 0) (hnm : meth.name = yX9_remember.name) (hout : ∀ x ∈ c.exceptionTable.toList, False) : ∀ q ∈ cd_X9_remember, zSd p l e rm_X9_remember s m args below meth c 2 D A a0 M0 K KX 0 0 q.1 q.2 :=
    zall_c (zs_aload_n X (pc := 0) (q := 0) rfl (by decide +kernel)) <|
    zall_c (zs_geti X (pc := 1) zc_X9 (by decide) (zin ui_X9) (.tail _ gw_7_234) (by decide +kernel) (by decide +kernel)) <|
    zall_c (zs_bipush X (pc := 4) (by decide) (by decide +kernel) (by decide +kernel)) <|
    zall_c (zs_icmp_ne X (pc := 6) (off := 46) (by decide +kernel) (by decide)) <|
    zall_c (zs_sipush X (pc := 9) (by decide) (by decide +kernel) (by decide +kernel)) <|
    zall_c (zs_istore_n X (pc := 12) (q := 1) rfl (by decide) (by decide +kernel)) <|
    zall_c (zs_iload_n X (pc := 13) (q := 1) rfl (by decide +kernel)) <|
    zall_c (zs_sipush X (pc := 14) (by decide) (by decide +kernel) (by decide +kernel)) <|
    zall_c (zs_icmp_ge X (pc := 17) (off := 25) (by decide +kernel) (by decide)) <|
    zall_c (zs_aload_n X (pc := 20) (q := 0) rfl (by decide +kernel)) <|
    zall_c (zs_getr X (pc := 21) zc_X9 (by decide) (zin ui_X9) (.tail _ gw_7_233) (by decide +kernel) (by decide +kernel)) <|
    zall_c (zs_iload_n X (pc := 24) (q := 1) rfl (by decide +kernel)) <|
    zall_c (zs_sipush X (pc := 25) (by decide) (by decide +kernel) (by decide +kernel)) <|
    zall_c (zs_isub X (pc := 28) (by decide +kernel)) <|
    zall_c (zs_aload_n X (pc := 29) (q := 0) rfl (by decide +kernel)) <|
    zall_c (zs_getr X (pc := 30) zc_X9 (by decide) (zin ui_X9) (.tail _ gw_7_233) (by decide +kernel) (by decide +kernel)) <|
    zall_c (zs_iload_n X (pc := 33) (q := 1) rfl (by decide +kernel)) <|
    zall_c (zs_iaload20 X (pc := 34) (by decide +kernel)) <|
    zall_c (zs_iastore20 X (pc := 35) (by decide +kernel)) <|
    zall_c (zs_iinc X (pc := 36) (by decide) (by decide +kernel)) <|
    zall_c (zs_goto X (pc := 39) (off := (-26)) (by decide +kernel) (by decide)) <|
    zall_c (zs_aload_n X (pc := 42) (q := 0) rfl (by decide +kernel)) <|
    zall_c (zs_dup X (pc := 43) (by decide +kernel)) <|
    zall_c (zs_geti X (pc := 44) zc_X9 (by decide) (zin ui_X9) (.tail _ gw_7_234) (by decide +kernel) (by decide +kernel)) <|
    zall_c (zs_iconst X (pc := 47) (by decide) (by decide +kernel)) <|
    zall_c (zs_isub X (pc := 48) (by decide +kernel)) <|
    zall_c (zs_puti X (pc := 49) (ty := Jvm.ClassFile.FieldType.int) zc_X9 (by decide) (zin ui_X9) tyX9_ok nmX9 (.tail _ gw_7_234) rfl (by decide +kernel) (by decide +kernel) (by decide +kernel) zP_int) <|
    zall_c (zs_iconst X (pc := 52) (by decide) (by decide +kernel)) <|
    zall_c (zs_istore_n X (pc := 53) (q := 1) rfl (by decide) (by decide +kernel)) <|
    zall_c (zs_iload_n X (pc := 54) (q := 1) rfl (by decide +kernel)) <|
    zall_c (zs_sipush X (pc := 55) (by decide) (by decide +kernel) (by decide +kernel)) <|
    zall_c (zs_icmp_ge X (pc := 58) (off := 30) (by decide +kernel) (by decide)) <|
    zall_c (zs_aload_n X (pc := 61) (q := 0) rfl (by decide +kernel)) <|
    zall_c (zs_getr X (pc := 62) zc_X9 (by decide) (zin ui_X9) (.tail _ gw_7_233) (by decide +kernel) (by decide +kernel)) <|
    zall_c (zs_sipush X (pc := 65) (by decide) (by decide +kernel) (by decide +kernel)) <|
    zall_c (zs_aload_n X (pc := 68) (q := 0) rfl (by decide +kernel)) <|
    zall_c (zs_geti X (pc := 69) zc_X9 (by decide) (zin ui_X9) (.tail _ gw_7_234) (by decide +kernel) (by decide +kernel)) <|
    zall_c (zs_imul X (pc := 72) (by decide +kernel)) <|
    zall_c (zs_iload_n X (pc := 73) (q := 1) rfl (by decide +kernel)) <|
    zall_c (zs_iadd X (pc := 74) (by decide +kernel)) <|
    zall_c (zs_aload_n X (pc := 75) (q := 0) rfl (by decide +kernel)) <|
    zall_c (zs_getr X (pc := 76) zc_X9 (by decide) (zin ui_X9) (.tail _ gw_7_216) (by decide +kernel) (by decide +kernel)) <|
    zall_c (zs_iload_n X (pc := 79) (q := 1) rfl (by decide +kernel)) <|
    zall_c (zs_iaload20 X (pc := 80) (by decide +kernel)) <|
    zall_c (zs_iastore20 X (pc := 81) (by decide +kernel)) <|
    zall_c (zs_iinc X (pc := 82) (by decide) (by decide +kernel)) <|
    zall_c (zs_goto X (pc := 85) (off := (-31)) (by decide +kernel) (by decide)) <|
    zall_c (zs_aload_n X (pc := 88) (q := 0) rfl (by decide +kernel)) <|
    zall_c (zs_dup X (pc := 89) (by decide +kernel)) <|
    zall_c (zs_geti X (pc := 90) zc_X9 (by decide) (zin ui_X9) (.tail _ gw_7_234) (by decide +kernel) (by decide +kernel)) <|
    zall_c (zs_iconst X (pc := 93) (by decide) (by decide +kernel)) <|
    zall_c (zs_iadd X (pc := 94) (by decide +kernel)) <|
    zall_c (zs_puti X (pc := 95) (ty := Jvm.ClassFile.FieldType.int) zc_X9 (by decide) (zin ui_X9) tyX9_ok nmX9 (.tail _ gw_7_234) rfl (by decide +kernel) (by decide +kernel) (by decide +kernel) zP_int) <|
    zall_c (zs_vret X (pc := 98) rfl (by decide +kernel)) <|
    zall_n
theorem met_X9_remember {l : Launch} (hl : l.stackTraces = false) {T : ZTf} (bd : zBd (cd_X9_remember) 2 0 0 T) : zMet l yX9_remember (Cond.code yX9_remember cX9_remember 2 (Option.none : Option Jvm.ClassFile.FieldType) :: zG) rm_X9_remember 0 0 T := zMet_of hl (by decide +kernel) rfl rfl rfl rfl (hs_X9_remember hl) bd

abbrev rm_X9_undo : Room := { frames := 3, cells := 0, slots := 0, locals := 74 }
def cd_X9_undo (T0 : ZTf) : List (Nat × ZTr) := [(0, tAld 0 1), (1, tAld 0 2), (2, tGetI 12 19 5), (5, tIf_le 12 8), (8, tC (zi 1) 9), (9, tGo 13), (12, tC (zi 0) 13), (13, tCall0 2 T0 (zRcv 12) 16), (16, tIf_ne 21 19), (19, tC (zi 0) 20), (20, tRi (fun _ => True)), (21, tAld 0 22), (22, tDup 23), (23, tGetI 12 19 26), (26, tC (zi 1) 27), (27, tSub 28), (28, tPutI 12 19 (fun _ => True) 31), (31, tC (zi 0) 32), (32, tIst 1 33), (33, tIld 1 34), (34, tC (zi 516) 37), (37, tIc_ge 67 40), (40, tAld 0 41), (41, tGetR 12 1 44), (44, tIld 1 45), (45, tAld 0 46), (46, tGetR 12 18 49), (49, tC (zi 516) 52), (52, tAld 0 53), (53, tGetI 12 19 56), (56, tMul 57), (57, tIld 1 58), (58, tAdd 59), (59, tIal 20 60), (60, tIas 20 (fun _ => True) 61), (61, tInc 1 1 64), (64, tGo 33), (67, tAld 0 68), (68, tGetI 12 19 71), (71, tRi (fun _ => True))]
set_option maxRecDepth 100000 in
set_option maxHeartbeats 4000000 in
theorem hs_X9_undo {l : Launch} (hl : l.stackTraces = false) {T0 : ZTf} (h0 : zMet l yX9_passes (Cond.code yX9_passes cX9_passes 2 (Option.some Jvm.ClassFile.FieldType.boolean) :: zG) rm_X9_passes 0 0 T0) (p : Program) (e : Env) (s : State) (m : MethodId) (args : Array Value) (below : List Frame) (meth : Method) (c : Code) (D : va_G) (A : Nat → Prop) (a0 : Nat → Nat) (M0 : ZM) (K : ZRet) (KX : ZEx) (X : zCtx p l rm_X9_undo s m args meth c cX9_undo RX9 (Cond.code yX9_undo cX9_undo 2 (Option.some Jvm.ClassFile.FieldType.int) :: zG) 2 (Option.some Jvm.ClassFile.FieldType.int) D A a0 M0 0 0) (hnm : meth.name = yX9_undo.name) (hout : ∀ x ∈ c.exceptionTable.toList, False) : ∀ q ∈ cd_X9_undo T0, zSd p l e rm_X9_undo s m args below meth c 2 D A a0 M0 K KX 0 0 q.1 q.2 :=
    zall_c (zs_aload_n X (pc := 0) (q := 0) rfl (by decide +kernel)) <|
    zall_c (zs_aload_n X (pc := 1) (q := 0) rfl (by decide +kernel)) <|
    zall_c (zs_geti X (pc := 2) zc_X9 (by decide) (zin ui_X9) (.tail _ gw_7_234) (by decide +kernel) (by decide +kernel)) <|
    zall_c (zs_if_le X (pc := 5) (off := 7) (by decide +kernel) (by decide)) <|
    zall_c (zs_iconst X (pc := 8) (by decide) (by decide +kernel)) <|
    zall_c (zs_goto X (pc := 9) (off := 4) (by decide +kernel) (by decide)) <|
    zall_c (zs_iconst X (pc := 12) (by decide) (by decide +kernel)) <|
    zall_c (zs_callV0 X (pc := 13) zc_X9 (fun _ ht => ⟨(zCB ht gw_8_49 gw_1_13 gw_8_46 rfl rfl (by decide +kernel) ⟨Nat.le_of_ble_eq_true rfl, Nat.le_of_ble_eq_true rfl⟩), ht _ (.tail _ gw_8_48), ht _ (.tail _ gp_28)⟩) h0 hout (by decide +kernel)) <|
    zall_c (zs_if_ne X (pc := 16) (off := 5) (by decide +kernel) (by decide)) <|
    zall_c (zs_iconst X (pc := 19) (by decide) (by decide +kernel)) <|
    zall_c (zs_iret X (pc := 20) rfl (by decide +kernel)) <|
    zall_c (zs_aload_n X (pc := 21) (q := 0) rfl (by decide +kernel)) <|
    zall_c (zs_dup X (pc := 22) (by decide +kernel)) <|
    zall_c (zs_geti X (pc := 23) zc_X9 (by decide) (zin ui_X9) (.tail _ gw_7_234) (by decide +kernel) (by decide +kernel)) <|
    zall_c (zs_iconst X (pc := 26) (by decide) (by decide +kernel)) <|
    zall_c (zs_isub X (pc := 27) (by decide +kernel)) <|
    zall_c (zs_puti X (pc := 28) (ty := Jvm.ClassFile.FieldType.int) zc_X9 (by decide) (zin ui_X9) tyX9_ok nmX9 (.tail _ gw_7_234) rfl (by decide +kernel) (by decide +kernel) (by decide +kernel) zP_int) <|
    zall_c (zs_iconst X (pc := 31) (by decide) (by decide +kernel)) <|
    zall_c (zs_istore_n X (pc := 32) (q := 1) rfl (by decide) (by decide +kernel)) <|
    zall_c (zs_iload_n X (pc := 33) (q := 1) rfl (by decide +kernel)) <|
    zall_c (zs_sipush X (pc := 34) (by decide) (by decide +kernel) (by decide +kernel)) <|
    zall_c (zs_icmp_ge X (pc := 37) (off := 30) (by decide +kernel) (by decide)) <|
    zall_c (zs_aload_n X (pc := 40) (q := 0) rfl (by decide +kernel)) <|
    zall_c (zs_getr X (pc := 41) zc_X9 (by decide) (zin ui_X9) (.tail _ gw_7_216) (by decide +kernel) (by decide +kernel)) <|
    zall_c (zs_iload_n X (pc := 44) (q := 1) rfl (by decide +kernel)) <|
    zall_c (zs_aload_n X (pc := 45) (q := 0) rfl (by decide +kernel)) <|
    zall_c (zs_getr X (pc := 46) zc_X9 (by decide) (zin ui_X9) (.tail _ gw_7_233) (by decide +kernel) (by decide +kernel)) <|
    zall_c (zs_sipush X (pc := 49) (by decide) (by decide +kernel) (by decide +kernel)) <|
    zall_c (zs_aload_n X (pc := 52) (q := 0) rfl (by decide +kernel)) <|
    zall_c (zs_geti X (pc := 53) zc_X9 (by decide) (zin ui_X9) (.tail _ gw_7_234) (by decide +kernel) (by decide +kernel)) <|
    zall_c (zs_imul X (pc := 56) (by decide +kernel)) <|
    zall_c (zs_iload_n X (pc := 57) (q := 1) rfl (by decide +kernel)) <|
    zall_c (zs_iadd X (pc := 58) (by decide +kernel)) <|
    zall_c (zs_iaload20 X (pc := 59) (by decide +kernel)) <|
    zall_c (zs_iastore20 X (pc := 60) (by decide +kernel)) <|
    zall_c (zs_iinc X (pc := 61) (by decide) (by decide +kernel)) <|
    zall_c (zs_goto X (pc := 64) (off := (-31)) (by decide +kernel) (by decide)) <|
    zall_c (zs_aload_n X (pc := 67) (q := 0) rfl (by decide +kernel)) <|
    zall_c (zs_geti X (pc := 68) zc_X9 (by decide) (zin ui_X9) (.tail _ gw_7_234) (by decide +kernel) (by decide +kernel)) <|
    zall_c (zs_iret X (pc := 71) rfl (by decide +kernel)) <|
    zall_n
theorem met_X9_undo {l : Launch} (hl : l.stackTraces = false) {T0 : ZTf} (h0 : zMet l yX9_passes (Cond.code yX9_passes cX9_passes 2 (Option.some Jvm.ClassFile.FieldType.boolean) :: zG) rm_X9_passes 0 0 T0) {T : ZTf} (bd : zBd (cd_X9_undo T0) 2 0 0 T) : zMet l yX9_undo (Cond.code yX9_undo cX9_undo 2 (Option.some Jvm.ClassFile.FieldType.int) :: zG) rm_X9_undo 0 0 T := zMet_of hl (by decide +kernel) rfl rfl rfl rfl (hs_X9_undo hl h0) bd

abbrev rm_X9_undoCount : Room := { frames := 1, cells := 0, slots := 0, locals := 30 }
def cd_X9_undoCount : List (Nat × ZTr) := [(0, tAld 0 1), (1, tC (zi 0) 2), (2, tPutI 12 0 (fun _ => True) 5), (5, tAld 0 6), (6, tGetI 12 19 9), (9, tRi (fun _ => True))]
set_option maxRecDepth 100000 in
set_option maxHeartbeats 4000000 in
theorem hs_X9_undoCount {l : Launch} (hl : l.stackTraces = false) (p : Program) (e : Env) (s : State) (m : MethodId) (args : Array Value) (below : List Frame) (meth : Method) (c : Code) (D : va_G) (A : Nat → Prop) (a0 : Nat → Nat) (M0 : ZM) (K : ZRet) (KX : ZEx) (X : zCtx p l rm_X9_undoCount s m args meth c cX9_undoCount RX9 (Cond.code yX9_undoCount cX9_undoCount 1 (Option.some Jvm.ClassFile.FieldType.int) :: zG) 1 (Option.some Jvm.ClassFile.FieldType.int) D A a0 M0 0 0) (hnm : meth.name = yX9_undoCount.name) (hout : ∀ x ∈ c.exceptionTable.toList, False) : ∀ q ∈ cd_X9_undoCount, zSd p l e rm_X9_undoCount s m args below meth c 1 D A a0 M0 K KX 0 0 q.1 q.2 :=
    zall_c (zs_aload_n X (pc := 0) (q := 0) rfl (by decide +kernel)) <|
    zall_c (zs_iconst X (pc := 1) (by decide) (by decide +kernel)) <|
    zall_c (zs_puti X (pc := 2) (ty := Jvm.ClassFile.FieldType.int) zc_X9 (by decide) (zin ui_X9) tyX9_ok nmX9 (.tail _ gw_7_215) rfl (by decide +kernel) (by decide +kernel) (by decide +kernel) zP_int) <|
    zall_c (zs_aload_n X (pc := 5) (q := 0) rfl (by decide +kernel)) <|
    zall_c (zs_geti X (pc := 6) zc_X9 (by decide) (zin ui_X9) (.tail _ gw_7_234) (by decide +kernel) (by decide +kernel)) <|
    zall_c (zs_iret X (pc := 9) rfl (by decide +kernel)) <|
    zall_n
theorem met_X9_undoCount {l : Launch} (hl : l.stackTraces = false) {T : ZTf} (bd : zBd (cd_X9_undoCount) 1 0 0 T) : zMet l yX9_undoCount (Cond.code yX9_undoCount cX9_undoCount 1 (Option.some Jvm.ClassFile.FieldType.int) :: zG) rm_X9_undoCount 0 0 T := zMet_of hl (by decide +kernel) rfl rfl rfl rfl (hs_X9_undoCount hl) bd

abbrev rm_X9_write : Room := { frames := 1, cells := 0, slots := 0, locals := 30 }
def cd_X9_write : List (Nat × ZTr) := [(0, tAld 0 1), (1, tGetR 12 20 4), (4, tAld 0 5), (5, tGetI 12 21 8), (8, tIld 1 9), (9, tUn zi2b 10), (10, tIas 21 (fun x => -128 ≤ x ∧ x < 128) 11), (11, tAld 0 12), (12, tDup 13), (13, tGetI 12 21 16), (16, tC (zi 1) 17), (17, tAdd 18), (18, tPutI 12 21 (fun _ => True) 21), (21, tRv)]
set_option maxRecDepth 100000 in
set_option maxHeartbeats 4000000 in
theorem hs_X9_write {l : Launch} (hl : l.stackTraces = false) (p : Program) (e : Env) (s : State) (m : MethodId) (args : Array Value) (below : List Frame) (meth : Method) (c : Code) (D : va_G) (A : Nat → Prop) (a0 : Nat → Nat) (M0 : ZM) (K : ZRet) (KX : ZEx) (X : zCtx p l rm_X9_write s m args meth c cX9_write RX9 (Cond.code yX9_write cX9_write 2 (Option.none : Option Jvm.ClassFile.FieldType) :: zG) 2 (Option.none : Option Jvm.ClassFile.FieldType) D A a0 M0 0 0) (hnm : meth.name = yX9_write.name) (hout : ∀ x ∈ c.exceptionTable.toList, False) : ∀ q ∈ cd_X9_write, zSd p l e rm_X9_write s m args below meth c 2 D A a0 M0 K KX 0 0 q.1 q.2 :=
    zall_c (zs_aload_n X (pc := 0) (q := 0) rfl (by decide +kernel)) <|
    zall_c (zs_getr X (pc := 1) zc_X9 (by decide) (zin ui_X9) (.tail _ gw_7_235) (by decide +kernel) (by decide +kernel)) <|
    zall_c (zs_aload_n X (pc := 4) (q := 0) rfl (by decide +kernel)) <|
    zall_c (zs_geti X (pc := 5) zc_X9 (by decide) (zin ui_X9) (.tail _ gw_7_236) (by decide +kernel) (by decide +kernel)) <|
    zall_c (zs_iload_n X (pc := 8) (q := 1) rfl (by decide +kernel)) <|
    zall_c (zs_i2b X (pc := 9) (by decide +kernel)) <|
    zall_c (zs_bastore21 X (pc := 10) (by decide +kernel)) <|
    zall_c (zs_aload_n X (pc := 11) (q := 0) rfl (by decide +kernel)) <|
    zall_c (zs_dup X (pc := 12) (by decide +kernel)) <|
    zall_c (zs_geti X (pc := 13) zc_X9 (by decide) (zin ui_X9) (.tail _ gw_7_236) (by decide +kernel) (by decide +kernel)) <|
    zall_c (zs_iconst X (pc := 16) (by decide) (by decide +kernel)) <|
    zall_c (zs_iadd X (pc := 17) (by decide +kernel)) <|
    zall_c (zs_puti X (pc := 18) (ty := Jvm.ClassFile.FieldType.int) zc_X9 (by decide) (zin ui_X9) tyX9_ok nmX9 (.tail _ gw_7_236) rfl (by decide +kernel) (by decide +kernel) (by decide +kernel) zP_int) <|
    zall_c (zs_vret X (pc := 21) rfl (by decide +kernel)) <|
    zall_n
theorem met_X9_write {l : Launch} (hl : l.stackTraces = false) {T : ZTf} (bd : zBd (cd_X9_write) 2 0 0 T) : zMet l yX9_write (Cond.code yX9_write cX9_write 2 (Option.none : Option Jvm.ClassFile.FieldType) :: zG) rm_X9_write 0 0 T := zMet_of hl (by decide +kernel) rfl rfl rfl rfl (hs_X9_write hl) bd

abbrev rm_X9_writeGap : Room := { frames := 2, cells := 0, slots := 0, locals := 51 }
def cd_X9_writeGap (T0 : ZTf) : List (Nat × ZTr) := [(0, tAld 0 1), (1, tGetI 12 21 4), (4, tIf_le 13 7), (7, tAld 0 8), (8, tC (zi 32) 10), (10, tCall0 2 T0 (zRcv 12) 13), (13, tRv)]
set_option maxRecDepth 100000 in
set_option maxHeartbeats 4000000 in
theorem hs_X9_writeGap {l : Launch} (hl : l.stackTraces = false) {T0 : ZTf} (h0 : zMet l yX9_write (Cond.code yX9_write cX9_write 2 (Option.none : Option Jvm.ClassFile.FieldType) :: zG) rm_X9_write 0 0 T0) (p : Program) (e : Env) (s : State) (m : MethodId) (args : Array Value) (below : List Frame) (meth : Method) (c : Code) (D : va_G) (A : Nat → Prop) (a0 : Nat → Nat) (M0 : ZM) (K : ZRet) (KX : ZEx) (X : zCtx p l rm_X9_writeGap s m args meth c cX9_writeGap RX9 (Cond.code yX9_writeGap cX9_writeGap 1 (Option.none : Option Jvm.ClassFile.FieldType) :: zG) 1 (Option.none : Option Jvm.ClassFile.FieldType) D A a0 M0 0 0) (hnm : meth.name = yX9_writeGap.name) (hout : ∀ x ∈ c.exceptionTable.toList, False) : ∀ q ∈ cd_X9_writeGap T0, zSd p l e rm_X9_writeGap s m args below meth c 1 D A a0 M0 K KX 0 0 q.1 q.2 :=
    zall_c (zs_aload_n X (pc := 0) (q := 0) rfl (by decide +kernel)) <|
    zall_c (zs_geti X (pc := 1) zc_X9 (by decide) (zin ui_X9) (.tail _ gw_7_236) (by decide +kernel) (by decide +kernel)) <|
    zall_c (zs_if_le X (pc := 4) (off := 9) (by decide +kernel) (by decide)) <|
    zall_c (zs_aload_n X (pc := 7) (q := 0) rfl (by decide +kernel)) <|
    zall_c (zs_bipush X (pc := 8) (by decide) (by decide +kernel) (by decide +kernel)) <|
    zall_c (zs_callV0 X (pc := 10) zc_X9 (fun _ ht => ⟨(zCB ht gw_10_149 gw_1_13 gw_10_146 rfl rfl (by decide +kernel) ⟨Nat.le_of_ble_eq_true rfl, Nat.le_of_ble_eq_true rfl⟩), ht _ (.tail _ gw_10_148), ht _ (.tail _ gp_109)⟩) h0 hout (by decide +kernel)) <|
    zall_c (zs_vret X (pc := 13) rfl (by decide +kernel)) <|
    zall_n
theorem met_X9_writeGap {l : Launch} (hl : l.stackTraces = false) {T0 : ZTf} (h0 : zMet l yX9_write (Cond.code yX9_write cX9_write 2 (Option.none : Option Jvm.ClassFile.FieldType) :: zG) rm_X9_write 0 0 T0) {T : ZTf} (bd : zBd (cd_X9_writeGap T0) 1 0 0 T) : zMet l yX9_writeGap (Cond.code yX9_writeGap cX9_writeGap 1 (Option.none : Option Jvm.ClassFile.FieldType) :: zG) rm_X9_writeGap 0 0 T := zMet_of hl (by decide +kernel) rfl rfl rfl rfl (hs_X9_writeGap hl h0) bd

abbrev rm_X9_writeNumber : Room := { frames := 2, cells := 0, slots := 0, locals := 51 }
def cd_X9_writeNumber (T0 : ZTf) : List (Nat × ZTr) := [(0, tC (zi 1) 1), (1, tIst 2 2), (2, tIld 1 3), (3, tIld 2 4), (4, tDiv Int.tdiv 5), (5, tC (zi 10) 7), (7, tIc_lt 18 10), (10, tIld 2 11), (11, tC (zi 10) 13), (13, tMul 14), (14, tIst 2 15), (15, tGo 2), (18, tIld 2 19), (19, tIst 3 20), (20, tIld 3 21), (21, tIf_le 45 24), (24, tAld 0 25), (25, tC (zi 48) 27), (27, tIld 1 28), (28, tIld 3 29), (29, tDiv Int.tdiv 30), (30, tC (zi 10) 32), (32, tDiv Int.tmod 33), (33, tAdd 34), (34, tCall0 2 T0 (zRcv 12) 37), (37, tIld 3 38), (38, tC (zi 10) 40), (40, tDiv Int.tdiv 41), (41, tIst 3 42), (42, tGo 20), (45, tRv)]
set_option maxRecDepth 100000 in
set_option maxHeartbeats 4000000 in
theorem hs_X9_writeNumber {l : Launch} (hl : l.stackTraces = false) {T0 : ZTf} (h0 : zMet l yX9_write (Cond.code yX9_write cX9_write 2 (Option.none : Option Jvm.ClassFile.FieldType) :: zG) rm_X9_write 0 0 T0) (p : Program) (e : Env) (s : State) (m : MethodId) (args : Array Value) (below : List Frame) (meth : Method) (c : Code) (D : va_G) (A : Nat → Prop) (a0 : Nat → Nat) (M0 : ZM) (K : ZRet) (KX : ZEx) (X : zCtx p l rm_X9_writeNumber s m args meth c cX9_writeNumber RX9 (Cond.code yX9_writeNumber cX9_writeNumber 4 (Option.none : Option Jvm.ClassFile.FieldType) :: zG) 4 (Option.none : Option Jvm.ClassFile.FieldType) D A a0 M0 0 0) (hnm : meth.name = yX9_writeNumber.name) (hout : ∀ x ∈ c.exceptionTable.toList, False) : ∀ q ∈ cd_X9_writeNumber T0, zSd p l e rm_X9_writeNumber s m args below meth c 4 D A a0 M0 K KX 0 0 q.1 q.2 :=
    zall_c (zs_iconst X (pc := 0) (by decide) (by decide +kernel)) <|
    zall_c (zs_istore_n X (pc := 1) (q := 2) rfl (by decide) (by decide +kernel)) <|
    zall_c (zs_iload_n X (pc := 2) (q := 1) rfl (by decide +kernel)) <|
    zall_c (zs_iload_n X (pc := 3) (q := 2) rfl (by decide +kernel)) <|
    zall_c (zs_idiv X (pc := 4) (by decide +kernel)) <|
    zall_c (zs_bipush X (pc := 5) (by decide) (by decide +kernel) (by decide +kernel)) <|
    zall_c (zs_icmp_lt X (pc := 7) (off := 11) (by decide +kernel) (by decide)) <|
    zall_c (zs_iload_n X (pc := 10) (q := 2) rfl (by decide +kernel)) <|
    zall_c (zs_bipush X (pc := 11) (by decide) (by decide +kernel) (by decide +kernel)) <|
    zall_c (zs_imul X (pc := 13) (by decide +kernel)) <|
    zall_c (zs_istore_n X (pc := 14) (q := 2) rfl (by decide) (by decide +kernel)) <|
    zall_c (zs_goto X (pc := 15) (off := (-13)) (by decide +kernel) (by decide)) <|
    zall_c (zs_iload_n X (pc := 18) (q := 2) rfl (by decide +kernel)) <|
    zall_c (zs_istore_n X (pc := 19) (q := 3) rfl (by decide) (by decide +kernel)) <|
    zall_c (zs_iload_n X (pc := 20) (q := 3) rfl (by decide +kernel)) <|
    zall_c (zs_if_le X (pc := 21) (off := 24) (by decide +kernel) (by decide)) <|
    zall_c (zs_aload_n X (pc := 24) (q := 0) rfl (by decide +kernel)) <|
    zall_c (zs_bipush X (pc := 25) (by decide) (by decide +kernel) (by decide +kernel)) <|
    zall_c (zs_iload_n X (pc := 27) (q := 1) rfl (by decide +kernel)) <|
    zall_c (zs_iload_n X (pc := 28) (q := 3) rfl (by decide +kernel)) <|
    zall_c (zs_idiv X (pc := 29) (by decide +kernel)) <|
    zall_c (zs_bipush X (pc := 30) (by decide) (by decide +kernel) (by decide +kernel)) <|
    zall_c (zs_irem X (pc := 32) (by decide +kernel)) <|
    zall_c (zs_iadd X (pc := 33) (by decide +kernel)) <|
    zall_c (zs_callV0 X (pc := 34) zc_X9 (fun _ ht => ⟨(zCB ht gw_10_149 gw_1_13 gw_10_146 rfl rfl (by decide +kernel) ⟨Nat.le_of_ble_eq_true rfl, Nat.le_of_ble_eq_true rfl⟩), ht _ (.tail _ gw_10_148), ht _ (.tail _ gp_109)⟩) h0 hout (by decide +kernel)) <|
    zall_c (zs_iload_n X (pc := 37) (q := 3) rfl (by decide +kernel)) <|
    zall_c (zs_bipush X (pc := 38) (by decide) (by decide +kernel) (by decide +kernel)) <|
    zall_c (zs_idiv X (pc := 40) (by decide +kernel)) <|
    zall_c (zs_istore_n X (pc := 41) (q := 3) rfl (by decide) (by decide +kernel)) <|
    zall_c (zs_goto X (pc := 42) (off := (-22)) (by decide +kernel) (by decide)) <|
    zall_c (zs_vret X (pc := 45) rfl (by decide +kernel)) <|
    zall_n
theorem met_X9_writeNumber {l : Launch} (hl : l.stackTraces = false) {T0 : ZTf} (h0 : zMet l yX9_write (Cond.code yX9_write cX9_write 2 (Option.none : Option Jvm.ClassFile.FieldType) :: zG) rm_X9_write 0 0 T0) {T : ZTf} (bd : zBd (cd_X9_writeNumber T0) 4 0 0 T) : zMet l yX9_writeNumber (Cond.code yX9_writeNumber cX9_writeNumber 4 (Option.none : Option Jvm.ClassFile.FieldType) :: zG) rm_X9_writeNumber 0 0 T := zMet_of hl (by decide +kernel) rfl rfl rfl rfl (hs_X9_writeNumber hl h0) bd

abbrev rm_X9_writeName : Room := { frames := 2, cells := 0, slots := 0, locals := 52 }
def cd_X9_writeName (T0 : ZTf) (T1 : ZTf) : List (Nat × ZTr) := [(0, tAld 0 1), (1, tIld 1 2), (2, tC (zi 0) 3), (3, tCall0 3 T0 (zRcv 12) 6), (6, tIst 2 7), (7, tC (zi 1) 8), (8, tIst 3 9), (9, tIld 2 10), (10, tIld 3 11), (11, tDiv Int.tdiv 12), (12, tC (zi 27) 14), (14, tIc_lt 25 17), (17, tIld 3 18), (18, tC (zi 27) 20), (20, tMul 21), (21, tIst 3 22), (22, tGo 9), (25, tIld 3 26), (26, tIst 4 28), (28, tIld 4 30), (30, tIf_le 57 33), (33, tAld 0 34), (34, tC (zi 96) 36), (36, tIld 2 37), (37, tIld 4 39), (39, tDiv Int.tdiv 40), (40, tC (zi 27) 42), (42, tDiv Int.tmod 43), (43, tAdd 44), (44, tCall0 2 T1 (zRcv 12) 47), (47, tIld 4 49), (49, tC (zi 27) 51), (51, tDiv Int.tdiv 52), (52, tIst 4 54), (54, tGo 28), (57, tRv)]
set_option maxRecDepth 100000 in
set_option maxHeartbeats 4000000 in
theorem hs_X9_writeName {l : Launch} (hl : l.stackTraces = false) {T0 : ZTf} {T1 : ZTf} (h0 : zMet l yX9_ofWorker (Cond.code yX9_ofWorker cX9_ofWorker 3 (Option.some Jvm.ClassFile.FieldType.int) :: zG) rm_X9_ofWorker 0 0 T0) (h1 : zMet l yX9_write (Cond.code yX9_write cX9_write 2 (Option.none : Option Jvm.ClassFile.FieldType) :: zG) rm_X9_write 0 0 T1) (p : Program) (e : Env) (s : State) (m : MethodId) (args : Array Value) (below : List Frame) (meth : Method) (c : Code) (D : va_G) (A : Nat → Prop) (a0 : Nat → Nat) (M0 : ZM) (K : ZRet) (KX : ZEx) (X : zCtx p l rm_X9_writeName s m args meth c cX9_writeName RX9 (Cond.code yX9_writeName cX9_writeName 5 (Option.none : Option Jvm.ClassFile.FieldType) :: zG) 5 (Option.none : Option Jvm.ClassFile.FieldType) D A a0 M0 0 0) (hnm : meth.name = yX9_writeName.name) (hout : ∀ x ∈ c.exceptionTable.toList, False) : ∀ q ∈ cd_X9_writeName T0 T1, zSd p l e rm_X9_writeName s m args below meth c 5 D A a0 M0 K KX 0 0 q.1 q.2 :=
    zall_c (zs_aload_n X (pc := 0) (q := 0) rfl (by decide +kernel)) <|
    zall_c (zs_iload_n X (pc := 1) (q := 1) rfl (by decide +kernel)) <|
    zall_c (zs_iconst X (pc := 2) (by decide) (by decide +kernel)) <|
    zall_c (zs_callV0 X (pc := 3) zc_X9 (fun _ ht => ⟨(zCB ht gw_8_161 gw_1_13 gw_8_158 rfl rfl (by decide +kernel) ⟨Nat.le_of_ble_eq_true rfl, Nat.le_of_ble_eq_true rfl⟩), ht _ (.tail _ gw_8_160), ht _ (.tail _ gp_48)⟩) h0 hout (by decide +kernel)) <|
    zall_c (zs_istore_n X (pc := 6) (q := 2) rfl (by decide) (by decide +kernel)) <|
    zall_c (zs_iconst X (pc := 7) (by decide) (by decide +kernel)) <|
    zall_c (zs_istore_n X (pc := 8) (q := 3) rfl (by decide) (by decide +kernel)) <|
    zall_c (zs_iload_n X (pc := 9) (q := 2) rfl (by decide +kernel)) <|
    zall_c (zs_iload_n X (pc := 10) (q := 3) rfl (by decide +kernel)) <|
    zall_c (zs_idiv X (pc := 11) (by decide +kernel)) <|
    zall_c (zs_bipush X (pc := 12) (by decide) (by decide +kernel) (by decide +kernel)) <|
    zall_c (zs_icmp_lt X (pc := 14) (off := 11) (by decide +kernel) (by decide)) <|
    zall_c (zs_iload_n X (pc := 17) (q := 3) rfl (by decide +kernel)) <|
    zall_c (zs_bipush X (pc := 18) (by decide) (by decide +kernel) (by decide +kernel)) <|
    zall_c (zs_imul X (pc := 20) (by decide +kernel)) <|
    zall_c (zs_istore_n X (pc := 21) (q := 3) rfl (by decide) (by decide +kernel)) <|
    zall_c (zs_goto X (pc := 22) (off := (-13)) (by decide +kernel) (by decide)) <|
    zall_c (zs_iload_n X (pc := 25) (q := 3) rfl (by decide +kernel)) <|
    zall_c (zs_istore X (pc := 26) (by decide) (by decide +kernel)) <|
    zall_c (zs_iload X (pc := 28) (by decide +kernel)) <|
    zall_c (zs_if_le X (pc := 30) (off := 27) (by decide +kernel) (by decide)) <|
    zall_c (zs_aload_n X (pc := 33) (q := 0) rfl (by decide +kernel)) <|
    zall_c (zs_bipush X (pc := 34) (by decide) (by decide +kernel) (by decide +kernel)) <|
    zall_c (zs_iload_n X (pc := 36) (q := 2) rfl (by decide +kernel)) <|
    zall_c (zs_iload X (pc := 37) (by decide +kernel)) <|
    zall_c (zs_idiv X (pc := 39) (by decide +kernel)) <|
    zall_c (zs_bipush X (pc := 40) (by decide) (by decide +kernel) (by decide +kernel)) <|
    zall_c (zs_irem X (pc := 42) (by decide +kernel)) <|
    zall_c (zs_iadd X (pc := 43) (by decide +kernel)) <|
    zall_c (zs_callV0 X (pc := 44) zc_X9 (fun _ ht => ⟨(zCB ht gw_10_149 gw_1_13 gw_10_146 rfl rfl (by decide +kernel) ⟨Nat.le_of_ble_eq_true rfl, Nat.le_of_ble_eq_true rfl⟩), ht _ (.tail _ gw_10_148), ht _ (.tail _ gp_109)⟩) h1 hout (by decide +kernel)) <|
    zall_c (zs_iload X (pc := 47) (by decide +kernel)) <|
    zall_c (zs_bipush X (pc := 49) (by decide) (by decide +kernel) (by decide +kernel)) <|
    zall_c (zs_idiv X (pc := 51) (by decide +kernel)) <|
    zall_c (zs_istore X (pc := 52) (by decide) (by decide +kernel)) <|
    zall_c (zs_goto X (pc := 54) (off := (-26)) (by decide +kernel) (by decide)) <|
    zall_c (zs_vret X (pc := 57) rfl (by decide +kernel)) <|
    zall_n
theorem met_X9_writeName {l : Launch} (hl : l.stackTraces = false) {T0 : ZTf} {T1 : ZTf} (h0 : zMet l yX9_ofWorker (Cond.code yX9_ofWorker cX9_ofWorker 3 (Option.some Jvm.ClassFile.FieldType.int) :: zG) rm_X9_ofWorker 0 0 T0) (h1 : zMet l yX9_write (Cond.code yX9_write cX9_write 2 (Option.none : Option Jvm.ClassFile.FieldType) :: zG) rm_X9_write 0 0 T1) {T : ZTf} (bd : zBd (cd_X9_writeName T0 T1) 5 0 0 T) : zMet l yX9_writeName (Cond.code yX9_writeName cX9_writeName 5 (Option.none : Option Jvm.ClassFile.FieldType) :: zG) rm_X9_writeName 0 0 T := zMet_of hl (by decide +kernel) rfl rfl rfl rfl (hs_X9_writeName hl h0 h1) bd

abbrev rm_X9_writeRows : Room := { frames := 3, cells := 0, slots := 0, locals := 74 }
def cd_X9_writeRows (T0 : ZTf) (T1 : ZTf) (T2 : ZTf) (T3 : ZTf) (T4 : ZTf) (T5 : ZTf) : List (Nat × ZTr) := [(0, tAld 0 1), (1, tC (zi 0) 2), (2, tPutI 12 0 (fun _ => True) 5), (5, tAld 0 6), (6, tC (zi 0) 7), (7, tPutI 12 21 (fun _ => True) 10), (10, tC (zi 0) 11), (11, tIst 1 12), (12, tIld 1 13), (13, tAld 0 14), (14, tCall0 1 T0 (zRcv 12) 17), (17, tIc_ge 104 20), (20, tAld 0 21), (21, tCall0 1 T1 (zRcv 12) 24), (24, tAld 0 25), (25, tIld 1 26), (26, tC (zi 1) 27), (27, tCall0 3 T2 (zRcv 12) 30), (30, tIst 2 31), (31, tAld 0 32), (32, tIld 2 33), (33, tIf_ne 41 36), (36, tC (zi 111) 38), (38, tGo 63), (41, tIld 2 42), (42, tC (zi 1) 43), (43, tIc_ne 51 46), (46, tC (zi 100) 48), (48, tGo 63), (51, tIld 2 52), (52, tC (zi 2) 53), (53, tIc_ne 61 56), (56, tC (zi 102) 58), (58, tGo 63), (61, tC (zi 97) 63), (63, tCall0 2 T3 (zRcv 12) 66), (66, tIld 2 67), (67, tC (zi 2) 68), (68, tIc_eq 74 71), (71, tGo 98), (74, tAld 0 75), (75, tAld 0 76), (76, tIld 1 77), (77, tC (zi 2) 78), (78, tCall0 3 T2 (zRcv 12) 81), (81, tCall0 2 T4 (zRcv 12) 84), (84, tAld 0 85), (85, tIld 1 86), (86, tCall0 2 T5 (zRcv 12) 89), (89, tIf_eq 98 92), (92, tAld 0 93), (93, tC (zi 42) 95), (95, tCall0 2 T3 (zRcv 12) 98), (98, tInc 1 1 101), (101, tGo 12), (104, tAld 0 105), (105, tGetI 12 21 108), (108, tRi (fun _ => True))]
set_option maxRecDepth 100000 in
set_option maxHeartbeats 4000000 in
theorem hs_X9_writeRows {l : Launch} (hl : l.stackTraces = false) {T0 : ZTf} {T1 : ZTf} {T2 : ZTf} {T3 : ZTf} {T4 : ZTf} {T5 : ZTf} (h0 : zMet l yX9_rows (Cond.code yX9_rows cX9_rows 1 (Option.some Jvm.ClassFile.FieldType.int) :: zG) rm_X9_rows 0 0 T0) (h1 : zMet l yX9_writeGap (Cond.code yX9_writeGap cX9_writeGap 1 (Option.none : Option Jvm.ClassFile.FieldType) :: zG) rm_X9_writeGap 0 0 T1) (h2 : zMet l yX9_ofRow (Cond.code yX9_ofRow cX9_ofRow 3 (Option.some Jvm.ClassFile.FieldType.int) :: zG) rm_X9_ofRow 0 0 T2) (h3 : zMet l yX9_write (Cond.code yX9_write cX9_write 2 (Option.none : Option Jvm.ClassFile.FieldType) :: zG) rm_X9_write 0 0 T3) (h4 : zMet l yX9_writeNumber (Cond.code yX9_writeNumber cX9_writeNumber 4 (Option.none : Option Jvm.ClassFile.FieldType) :: zG) rm_X9_writeNumber 0 0 T4) (h5 : zMet l yX9_isAudited (Cond.code yX9_isAudited cX9_isAudited 2 (Option.some Jvm.ClassFile.FieldType.boolean) :: zG) rm_X9_isAudited 0 0 T5) (p : Program) (e : Env) (s : State) (m : MethodId) (args : Array Value) (below : List Frame) (meth : Method) (c : Code) (D : va_G) (A : Nat → Prop) (a0 : Nat → Nat) (M0 : ZM) (K : ZRet) (KX : ZEx) (X : zCtx p l rm_X9_writeRows s m args meth c cX9_writeRows RX9 (Cond.code yX9_writeRows cX9_writeRows 3 (Option.some Jvm.ClassFile.FieldType.int) :: zG) 3 (Option.some Jvm.ClassFile.FieldType.int) D A a0 M0 0 0) (hnm : meth.name = yX9_writeRows.name) (hout : ∀ x ∈ c.exceptionTable.toList, False) : ∀ q ∈ cd_X9_writeRows T0 T1 T2 T3 T4 T5, zSd p l e rm_X9_writeRows s m args below meth c 3 D A a0 M0 K KX 0 0 q.1 q.2 :=
    zall_c (zs_aload_n X (pc := 0) (q := 0) rfl (by decide +kernel)) <|
    zall_c (zs_iconst X (pc := 1) (by decide) (by decide +kernel)) <|
    zall_c (zs_puti X (pc := 2) (ty := Jvm.ClassFile.FieldType.int) zc_X9 (by decide) (zin ui_X9) tyX9_ok nmX9 (.tail _ gw_7_215) rfl (by decide +kernel) (by decide +kernel) (by decide +kernel) zP_int) <|
    zall_c (zs_aload_n X (pc := 5) (q := 0) rfl (by decide +kernel)) <|
    zall_c (zs_iconst X (pc := 6) (by decide) (by decide +kernel)) <|
    zall_c (zs_puti X (pc := 7) (ty := Jvm.ClassFile.FieldType.int) zc_X9 (by decide) (zin ui_X9) tyX9_ok nmX9 (.tail _ gw_7_236) rfl (by decide +kernel) (by decide +kernel) (by decide +kernel) zP_int) <|
    zall_c (zs_iconst X (pc := 10) (by decide) (by decide +kernel)) <|
    zall_c (zs_istore_n X (pc := 11) (q := 1) rfl (by decide) (by decide +kernel)) <|
    zall_c (zs_iload_n X (pc := 12) (q := 1) rfl (by decide +kernel)) <|
    zall_c (zs_aload_n X (pc := 13) (q := 0) rfl (by decide +kernel)) <|
    zall_c (zs_callV0 X (pc := 14) zc_X9 (fun _ ht => ⟨(zCB ht gw_8_173 gw_1_13 gw_8_170 rfl rfl (by decide +kernel) ⟨Nat.le_of_ble_eq_true rfl, Nat.le_of_ble_eq_true rfl⟩), ht _ (.tail _ gw_8_172), ht _ (.tail _ gp_51)⟩) h0 hout (by decide +kernel)) <|
    zall_c (zs_icmp_ge X (pc := 17) (off := 87) (by decide +kernel) (by decide)) <|
    zall_c (zs_aload_n X (pc := 20) (q := 0) rfl (by decide +kernel)) <|
    zall_c (zs_callV0 X (pc := 21) zc_X9 (fun _ ht => ⟨(zCB ht gw_10_145 gw_1_13 gw_10_142 rfl rfl (by decide +kernel) ⟨Nat.le_of_ble_eq_true rfl, Nat.le_of_ble_eq_true rfl⟩), ht _ (.tail _ gw_10_144), ht _ (.tail _ gp_108)⟩) h1 hout (by decide +kernel)) <|
    zall_c (zs_aload_n X (pc := 24) (q := 0) rfl (by decide +kernel)) <|
    zall_c (zs_iload_n X (pc := 25) (q := 1) rfl (by decide +kernel)) <|
    zall_c (zs_iconst X (pc := 26) (by decide) (by decide +kernel)) <|
    zall_c (zs_callV0 X (pc := 27) zc_X9 (fun _ ht => ⟨(zCB ht gw_8_239 gw_1_13 gw_8_236 rfl rfl (by decide +kernel) ⟨Nat.le_of_ble_eq_true rfl, Nat.le_of_ble_eq_true rfl⟩), ht _ (.tail _ gw_8_238), ht _ (.tail _ gp_63)⟩) h2 hout (by decide +kernel)) <|
    zall_c (zs_istore_n X (pc := 30) (q := 2) rfl (by decide) (by decide +kernel)) <|
    zall_c (zs_aload_n X (pc := 31) (q := 0) rfl (by decide +kernel)) <|
    zall_c (zs_iload_n X (pc := 32) (q := 2) rfl (by decide +kernel)) <|
    zall_c (zs_if_ne X (pc := 33) (off := 8) (by decide +kernel) (by decide)) <|
    zall_c (zs_bipush X (pc := 36) (by decide) (by decide +kernel) (by decide +kernel)) <|
    zall_c (zs_goto X (pc := 38) (off := 25) (by decide +kernel) (by decide)) <|
    zall_c (zs_iload_n X (pc := 41) (q := 2) rfl (by decide +kernel)) <|
    zall_c (zs_iconst X (pc := 42) (by decide) (by decide +kernel)) <|
    zall_c (zs_icmp_ne X (pc := 43) (off := 8) (by decide +kernel) (by decide)) <|
    zall_c (zs_bipush X (pc := 46) (by decide) (by decide +kernel) (by decide +kernel)) <|
    zall_c (zs_goto X (pc := 48) (off := 15) (by decide +kernel) (by decide)) <|
    zall_c (zs_iload_n X (pc := 51) (q := 2) rfl (by decide +kernel)) <|
    zall_c (zs_iconst X (pc := 52) (by decide) (by decide +kernel)) <|
    zall_c (zs_icmp_ne X (pc := 53) (off := 8) (by decide +kernel) (by decide)) <|
    zall_c (zs_bipush X (pc := 56) (by decide) (by decide +kernel) (by decide +kernel)) <|
    zall_c (zs_goto X (pc := 58) (off := 5) (by decide +kernel) (by decide)) <|
    zall_c (zs_bipush X (pc := 61) (by decide) (by decide +kernel) (by decide +kernel)) <|
    zall_c (zs_callV0 X (pc := 63) zc_X9 (fun _ ht => ⟨(zCB ht gw_10_149 gw_1_13 gw_10_146 rfl rfl (by decide +kernel) ⟨Nat.le_of_ble_eq_true rfl, Nat.le_of_ble_eq_true rfl⟩), ht _ (.tail _ gw_10_148), ht _ (.tail _ gp_109)⟩) h3 hout (by decide +kernel)) <|
    zall_c (zs_iload_n X (pc := 66) (q := 2) rfl (by decide +kernel)) <|
    zall_c (zs_iconst X (pc := 67) (by decide) (by decide +kernel)) <|
    zall_c (zs_icmp_eq X (pc := 68) (off := 6) (by decide +kernel) (by decide)) <|
    zall_c (zs_goto X (pc := 71) (off := 27) (by decide +kernel) (by decide)) <|
    zall_c (zs_aload_n X (pc := 74) (q := 0) rfl (by decide +kernel)) <|
    zall_c (zs_aload_n X (pc := 75) (q := 0) rfl (by decide +kernel)) <|
    zall_c (zs_iload_n X (pc := 76) (q := 1) rfl (by decide +kernel)) <|
    zall_c (zs_iconst X (pc := 77) (by decide) (by decide +kernel)) <|
    zall_c (zs_callV0 X (pc := 78) zc_X9 (fun _ ht => ⟨(zCB ht gw_8_239 gw_1_13 gw_8_236 rfl rfl (by decide +kernel) ⟨Nat.le_of_ble_eq_true rfl, Nat.le_of_ble_eq_true rfl⟩), ht _ (.tail _ gw_8_238), ht _ (.tail _ gp_63)⟩) h2 hout (by decide +kernel)) <|
    zall_c (zs_callV0 X (pc := 81) zc_X9 (fun _ ht => ⟨(zCB ht gw_10_153 gw_1_13 gw_10_150 rfl rfl (by decide +kernel) ⟨Nat.le_of_ble_eq_true rfl, Nat.le_of_ble_eq_true rfl⟩), ht _ (.tail _ gw_10_152), ht _ (.tail _ gp_110)⟩) h4 hout (by decide +kernel)) <|
    zall_c (zs_aload_n X (pc := 84) (q := 0) rfl (by decide +kernel)) <|
    zall_c (zs_iload_n X (pc := 85) (q := 1) rfl (by decide +kernel)) <|
    zall_c (zs_callV0 X (pc := 86) zc_X9 (fun _ ht => ⟨(zCB ht gw_8_235 gw_1_13 gw_8_232 rfl rfl (by decide +kernel) ⟨Nat.le_of_ble_eq_true rfl, Nat.le_of_ble_eq_true rfl⟩), ht _ (.tail _ gw_8_234), ht _ (.tail _ gp_62)⟩) h5 hout (by decide +kernel)) <|
    zall_c (zs_if_eq X (pc := 89) (off := 9) (by decide +kernel) (by decide)) <|
    zall_c (zs_aload_n X (pc := 92) (q := 0) rfl (by decide +kernel)) <|
    zall_c (zs_bipush X (pc := 93) (by decide) (by decide +kernel) (by decide +kernel)) <|
    zall_c (zs_callV0 X (pc := 95) zc_X9 (fun _ ht => ⟨(zCB ht gw_10_149 gw_1_13 gw_10_146 rfl rfl (by decide +kernel) ⟨Nat.le_of_ble_eq_true rfl, Nat.le_of_ble_eq_true rfl⟩), ht _ (.tail _ gw_10_148), ht _ (.tail _ gp_109)⟩) h3 hout (by decide +kernel)) <|
    zall_c (zs_iinc X (pc := 98) (by decide) (by decide +kernel)) <|
    zall_c (zs_goto X (pc := 101) (off := (-89)) (by decide +kernel) (by decide)) <|
    zall_c (zs_aload_n X (pc := 104) (q := 0) rfl (by decide +kernel)) <|
    zall_c (zs_geti X (pc := 105) zc_X9 (by decide) (zin ui_X9) (.tail _ gw_7_236) (by decide +kernel) (by decide +kernel)) <|
    zall_c (zs_iret X (pc := 108) rfl (by decide +kernel)) <|
    zall_n
theorem met_X9_writeRows {l : Launch} (hl : l.stackTraces = false) {T0 : ZTf} {T1 : ZTf} {T2 : ZTf} {T3 : ZTf} {T4 : ZTf} {T5 : ZTf} (h0 : zMet l yX9_rows (Cond.code yX9_rows cX9_rows 1 (Option.some Jvm.ClassFile.FieldType.int) :: zG) rm_X9_rows 0 0 T0) (h1 : zMet l yX9_writeGap (Cond.code yX9_writeGap cX9_writeGap 1 (Option.none : Option Jvm.ClassFile.FieldType) :: zG) rm_X9_writeGap 0 0 T1) (h2 : zMet l yX9_ofRow (Cond.code yX9_ofRow cX9_ofRow 3 (Option.some Jvm.ClassFile.FieldType.int) :: zG) rm_X9_ofRow 0 0 T2) (h3 : zMet l yX9_write (Cond.code yX9_write cX9_write 2 (Option.none : Option Jvm.ClassFile.FieldType) :: zG) rm_X9_write 0 0 T3) (h4 : zMet l yX9_writeNumber (Cond.code yX9_writeNumber cX9_writeNumber 4 (Option.none : Option Jvm.ClassFile.FieldType) :: zG) rm_X9_writeNumber 0 0 T4) (h5 : zMet l yX9_isAudited (Cond.code yX9_isAudited cX9_isAudited 2 (Option.some Jvm.ClassFile.FieldType.boolean) :: zG) rm_X9_isAudited 0 0 T5) {T : ZTf} (bd : zBd (cd_X9_writeRows T0 T1 T2 T3 T4 T5) 3 0 0 T) : zMet l yX9_writeRows (Cond.code yX9_writeRows cX9_writeRows 3 (Option.some Jvm.ClassFile.FieldType.int) :: zG) rm_X9_writeRows 0 0 T := zMet_of hl (by decide +kernel) rfl rfl rfl rfl (hs_X9_writeRows hl h0 h1 h2 h3 h4 h5) bd

abbrev rm_X9_writeRow : Room := { frames := 4, cells := 0, slots := 0, locals := 97 }
def cd_X9_writeRow (T0 : ZTf) (T1 : ZTf) (T2 : ZTf) (T3 : ZTf) (T4 : ZTf) (T5 : ZTf) (T6 : ZTf) (T7 : ZTf) (T8 : ZTf) : List (Nat × ZTr) := [(0, tAld 0 1), (1, tAld 0 2), (2, tIld 1 3), (3, tCall0 2 T0 (zRcv 12) 6), (6, tCall0 2 T1 (zRcv 12) 9), (9, tIf_ne 14 12), (12, tC (zi 0) 13), (13, tRi (fun _ => True)), (14, tAld 0 15), (15, tC (zi 0) 16), (16, tPutI 12 21 (fun _ => True) 19), (19, tC (zi 0) 20), (20, tIst 2 21), (21, tIld 2 22), (22, tAld 0 23), (23, tIld 1 24), (24, tCall0 2 T2 (zRcv 12) 27), (27, tIc_ge 95 30), (30, tAld 0 31), (31, tCall0 1 T3 (zRcv 12) 34), (34, tAld 0 35), (35, tAld 0 36), (36, tIld 1 37), (37, tIld 2 38), (38, tC (zi 0) 39), (39, tCall0 4 T4 (zRcv 12) 42), (42, tCall0 2 T5 (zRcv 12) 45), (45, tAld 0 46), (46, tAld 0 47), (47, tIld 1 48), (48, tIld 2 49), (49, tCall0 3 T6 (zRcv 12) 52), (52, tIf_eq 60 55), (55, tC (zi 64) 57), (57, tGo 62), (60, tC (zi 61) 62), (62, tCall0 2 T7 (zRcv 12) 65), (65, tAld 0 66), (66, tAld 0 67), (67, tIld 1 68), (68, tIld 2 69), (69, tAld 0 70), (70, tIld 1 71), (71, tIld 2 72), (72, tCall0 3 T6 (zRcv 12) 75), (75, tIf_eq 82 78), (78, tC (zi 2) 79), (79, tGo 83), (82, tC (zi 1) 83), (83, tCall0 4 T4 (zRcv 12) 86), (86, tCall0 2 T8 (zRcv 12) 89), (89, tInc 2 1 92), (92, tGo 21), (95, tAld 0 96), (96, tGetI 12 21 99), (99, tRi (fun _ => True))]
set_option maxRecDepth 100000 in
set_option maxHeartbeats 4000000 in
theorem hs_X9_writeRow {l : Launch} (hl : l.stackTraces = false) {T0 : ZTf} {T1 : ZTf} {T2 : ZTf} {T3 : ZTf} {T4 : ZTf} {T5 : ZTf} {T6 : ZTf} {T7 : ZTf} {T8 : ZTf} (h0 : zMet l yX9_isRow (Cond.code yX9_isRow cX9_isRow 2 (Option.some Jvm.ClassFile.FieldType.boolean) :: zG) rm_X9_isRow 0 0 T0) (h1 : zMet l yX9_passes (Cond.code yX9_passes cX9_passes 2 (Option.some Jvm.ClassFile.FieldType.boolean) :: zG) rm_X9_passes 0 0 T1) (h2 : zMet l yX9_manyAt (Cond.code yX9_manyAt cX9_manyAt 2 (Option.some Jvm.ClassFile.FieldType.int) :: zG) rm_X9_manyAt 0 0 T2) (h3 : zMet l yX9_writeGap (Cond.code yX9_writeGap cX9_writeGap 1 (Option.none : Option Jvm.ClassFile.FieldType) :: zG) rm_X9_writeGap 0 0 T3) (h4 : zMet l yX9_ofTaking (Cond.code yX9_ofTaking cX9_ofTaking 4 (Option.some Jvm.ClassFile.FieldType.int) :: zG) rm_X9_ofTaking 0 0 T4) (h5 : zMet l yX9_writeName (Cond.code yX9_writeName cX9_writeName 5 (Option.none : Option Jvm.ClassFile.FieldType) :: zG) rm_X9_writeName 0 0 T5) (h6 : zMet l yX9_isInWork (Cond.code yX9_isInWork cX9_isInWork 3 (Option.some Jvm.ClassFile.FieldType.boolean) :: zG) rm_X9_isInWork 0 0 T6) (h7 : zMet l yX9_write (Cond.code yX9_write cX9_write 2 (Option.none : Option Jvm.ClassFile.FieldType) :: zG) rm_X9_write 0 0 T7) (h8 : zMet l yX9_writeNumber (Cond.code yX9_writeNumber cX9_writeNumber 4 (Option.none : Option Jvm.ClassFile.FieldType) :: zG) rm_X9_writeNumber 0 0 T8) (p : Program) (e : Env) (s : State) (m : MethodId) (args : Array Value) (below : List Frame) (meth : Method) (c : Code) (D : va_G) (A : Nat → Prop) (a0 : Nat → Nat) (M0 : ZM) (K : ZRet) (KX : ZEx) (X : zCtx p l rm_X9_writeRow s m args meth c cX9_writeRow RX9 (Cond.code yX9_writeRow cX9_writeRow 3 (Option.some Jvm.ClassFile.FieldType.int) :: zG) 3 (Option.some Jvm.ClassFile.FieldType.int) D A a0 M0 0 0) (hnm : meth.name = yX9_writeRow.name) (hout : ∀ x ∈ c.exceptionTable.toList, False) : ∀ q ∈ cd_X9_writeRow T0 T1 T2 T3 T4 T5 T6 T7 T8, zSd p l e rm_X9_writeRow s m args below meth c 3 D A a0 M0 K KX 0 0 q.1 q.2 :=
    zall_c (zs_aload_n X (pc := 0) (q := 0) rfl (by decide +kernel)) <|
    zall_c (zs_aload_n X (pc := 1) (q := 0) rfl (by decide +kernel)) <|
    zall_c (zs_iload_n X (pc := 2) (q := 1) rfl (by decide +kernel)) <|
    zall_c (zs_callV0 X (pc := 3) zc_X9 (fun _ ht => ⟨(zCB ht gw_9_48 gw_1_13 gw_9_45 rfl rfl (by decide +kernel) ⟨Nat.le_of_ble_eq_true rfl, Nat.le_of_ble_eq_true rfl⟩), ht _ (.tail _ gw_9_47), ht _ (.tail _ gp_73)⟩) h0 hout (by decide +kernel)) <|
    zall_c (zs_callV0 X (pc := 6) zc_X9 (fun _ ht => ⟨(zCB ht gw_8_49 gw_1_13 gw_8_46 rfl rfl (by decide +kernel) ⟨Nat.le_of_ble_eq_true rfl, Nat.le_of_ble_eq_true rfl⟩), ht _ (.tail _ gw_8_48), ht _ (.tail _ gp_28)⟩) h1 hout (by decide +kernel)) <|
    zall_c (zs_if_ne X (pc := 9) (off := 5) (by decide +kernel) (by decide)) <|
    zall_c (zs_iconst X (pc := 12) (by decide) (by decide +kernel)) <|
    zall_c (zs_iret X (pc := 13) rfl (by decide +kernel)) <|
    zall_c (zs_aload_n X (pc := 14) (q := 0) rfl (by decide +kernel)) <|
    zall_c (zs_iconst X (pc := 15) (by decide) (by decide +kernel)) <|
    zall_c (zs_puti X (pc := 16) (ty := Jvm.ClassFile.FieldType.int) zc_X9 (by decide) (zin ui_X9) tyX9_ok nmX9 (.tail _ gw_7_236) rfl (by decide +kernel) (by decide +kernel) (by decide +kernel) zP_int) <|
    zall_c (zs_iconst X (pc := 19) (by decide) (by decide +kernel)) <|
    zall_c (zs_istore_n X (pc := 20) (q := 2) rfl (by decide) (by decide +kernel)) <|
    zall_c (zs_iload_n X (pc := 21) (q := 2) rfl (by decide +kernel)) <|
    zall_c (zs_aload_n X (pc := 22) (q := 0) rfl (by decide +kernel)) <|
    zall_c (zs_iload_n X (pc := 23) (q := 1) rfl (by decide +kernel)) <|
    zall_c (zs_callV0 X (pc := 24) zc_X9 (fun _ ht => ⟨(zCB ht gw_9_32 gw_1_13 gw_9_29 rfl rfl (by decide +kernel) ⟨Nat.le_of_ble_eq_true rfl, Nat.le_of_ble_eq_true rfl⟩), ht _ (.tail _ gw_9_31), ht _ (.tail _ gp_70)⟩) h2 hout (by decide +kernel)) <|
    zall_c (zs_icmp_ge X (pc := 27) (off := 68) (by decide +kernel) (by decide)) <|
    zall_c (zs_aload_n X (pc := 30) (q := 0) rfl (by decide +kernel)) <|
    zall_c (zs_callV0 X (pc := 31) zc_X9 (fun _ ht => ⟨(zCB ht gw_10_145 gw_1_13 gw_10_142 rfl rfl (by decide +kernel) ⟨Nat.le_of_ble_eq_true rfl, Nat.le_of_ble_eq_true rfl⟩), ht _ (.tail _ gw_10_144), ht _ (.tail _ gp_108)⟩) h3 hout (by decide +kernel)) <|
    zall_c (zs_aload_n X (pc := 34) (q := 0) rfl (by decide +kernel)) <|
    zall_c (zs_aload_n X (pc := 35) (q := 0) rfl (by decide +kernel)) <|
    zall_c (zs_iload_n X (pc := 36) (q := 1) rfl (by decide +kernel)) <|
    zall_c (zs_iload_n X (pc := 37) (q := 2) rfl (by decide +kernel)) <|
    zall_c (zs_iconst X (pc := 38) (by decide) (by decide +kernel)) <|
    zall_c (zs_callV0 X (pc := 39) zc_X9 (fun _ ht => ⟨(zCB ht gw_9_36 gw_1_13 gw_9_33 rfl rfl (by decide +kernel) ⟨Nat.le_of_ble_eq_true rfl, Nat.le_of_ble_eq_true rfl⟩), ht _ (.tail _ gw_9_35), ht _ (.tail _ gp_71)⟩) h4 hout (by decide +kernel)) <|
    zall_c (zs_callV0 X (pc := 42) zc_X9 (fun _ ht => ⟨(zCB ht gw_10_161 gw_1_13 gw_10_158 rfl rfl (by decide +kernel) ⟨Nat.le_of_ble_eq_true rfl, Nat.le_of_ble_eq_true rfl⟩), ht _ (.tail _ gw_10_160), ht _ (.tail _ gp_111)⟩) h5 hout (by decide +kernel)) <|
    zall_c (zs_aload_n X (pc := 45) (q := 0) rfl (by decide +kernel)) <|
    zall_c (zs_aload_n X (pc := 46) (q := 0) rfl (by decide +kernel)) <|
    zall_c (zs_iload_n X (pc := 47) (q := 1) rfl (by decide +kernel)) <|
    zall_c (zs_iload_n X (pc := 48) (q := 2) rfl (by decide +kernel)) <|
    zall_c (zs_callV0 X (pc := 49) zc_X9 (fun _ ht => ⟨(zCB ht gw_9_40 gw_1_13 gw_9_37 rfl rfl (by decide +kernel) ⟨Nat.le_of_ble_eq_true rfl, Nat.le_of_ble_eq_true rfl⟩), ht _ (.tail _ gw_9_39), ht _ (.tail _ gp_72)⟩) h6 hout (by decide +kernel)) <|
    zall_c (zs_if_eq X (pc := 52) (off := 8) (by decide +kernel) (by decide)) <|
    zall_c (zs_bipush X (pc := 55) (by decide) (by decide +kernel) (by decide +kernel)) <|
    zall_c (zs_goto X (pc := 57) (off := 5) (by decide +kernel) (by decide)) <|
    zall_c (zs_bipush X (pc := 60) (by decide) (by decide +kernel) (by decide +kernel)) <|
    zall_c (zs_callV0 X (pc := 62) zc_X9 (fun _ ht => ⟨(zCB ht gw_10_149 gw_1_13 gw_10_146 rfl rfl (by decide +kernel) ⟨Nat.le_of_ble_eq_true rfl, Nat.le_of_ble_eq_true rfl⟩), ht _ (.tail _ gw_10_148), ht _ (.tail _ gp_109)⟩) h7 hout (by decide +kernel)) <|
    zall_c (zs_aload_n X (pc := 65) (q := 0) rfl (by decide +kernel)) <|
    zall_c (zs_aload_n X (pc := 66) (q := 0) rfl (by decide +kernel)) <|
    zall_c (zs_iload_n X (pc := 67) (q := 1) rfl (by decide +kernel)) <|
    zall_c (zs_iload_n X (pc := 68) (q := 2) rfl (by decide +kernel)) <|
    zall_c (zs_aload_n X (pc := 69) (q := 0) rfl (by decide +kernel)) <|
    zall_c (zs_iload_n X (pc := 70) (q := 1) rfl (by decide +kernel)) <|
    zall_c (zs_iload_n X (pc := 71) (q := 2) rfl (by decide +kernel)) <|
    zall_c (zs_callV0 X (pc := 72) zc_X9 (fun _ ht => ⟨(zCB ht gw_9_40 gw_1_13 gw_9_37 rfl rfl (by decide +kernel) ⟨Nat.le_of_ble_eq_true rfl, Nat.le_of_ble_eq_true rfl⟩), ht _ (.tail _ gw_9_39), ht _ (.tail _ gp_72)⟩) h6 hout (by decide +kernel)) <|
    zall_c (zs_if_eq X (pc := 75) (off := 7) (by decide +kernel) (by decide)) <|
    zall_c (zs_iconst X (pc := 78) (by decide) (by decide +kernel)) <|
    zall_c (zs_goto X (pc := 79) (off := 4) (by decide +kernel) (by decide)) <|
    zall_c (zs_iconst X (pc := 82) (by decide) (by decide +kernel)) <|
    zall_c (zs_callV0 X (pc := 83) zc_X9 (fun _ ht => ⟨(zCB ht gw_9_36 gw_1_13 gw_9_33 rfl rfl (by decide +kernel) ⟨Nat.le_of_ble_eq_true rfl, Nat.le_of_ble_eq_true rfl⟩), ht _ (.tail _ gw_9_35), ht _ (.tail _ gp_71)⟩) h4 hout (by decide +kernel)) <|
    zall_c (zs_callV0 X (pc := 86) zc_X9 (fun _ ht => ⟨(zCB ht gw_10_153 gw_1_13 gw_10_150 rfl rfl (by decide +kernel) ⟨Nat.le_of_ble_eq_true rfl, Nat.le_of_ble_eq_true rfl⟩), ht _ (.tail _ gw_10_152), ht _ (.tail _ gp_110)⟩) h8 hout (by decide +kernel)) <|
    zall_c (zs_iinc X (pc := 89) (by decide) (by decide +kernel)) <|
    zall_c (zs_goto X (pc := 92) (off := (-71)) (by decide +kernel) (by decide)) <|
    zall_c (zs_aload_n X (pc := 95) (q := 0) rfl (by decide +kernel)) <|
    zall_c (zs_geti X (pc := 96) zc_X9 (by decide) (zin ui_X9) (.tail _ gw_7_236) (by decide +kernel) (by decide +kernel)) <|
    zall_c (zs_iret X (pc := 99) rfl (by decide +kernel)) <|
    zall_n
theorem met_X9_writeRow {l : Launch} (hl : l.stackTraces = false) {T0 : ZTf} {T1 : ZTf} {T2 : ZTf} {T3 : ZTf} {T4 : ZTf} {T5 : ZTf} {T6 : ZTf} {T7 : ZTf} {T8 : ZTf} (h0 : zMet l yX9_isRow (Cond.code yX9_isRow cX9_isRow 2 (Option.some Jvm.ClassFile.FieldType.boolean) :: zG) rm_X9_isRow 0 0 T0) (h1 : zMet l yX9_passes (Cond.code yX9_passes cX9_passes 2 (Option.some Jvm.ClassFile.FieldType.boolean) :: zG) rm_X9_passes 0 0 T1) (h2 : zMet l yX9_manyAt (Cond.code yX9_manyAt cX9_manyAt 2 (Option.some Jvm.ClassFile.FieldType.int) :: zG) rm_X9_manyAt 0 0 T2) (h3 : zMet l yX9_writeGap (Cond.code yX9_writeGap cX9_writeGap 1 (Option.none : Option Jvm.ClassFile.FieldType) :: zG) rm_X9_writeGap 0 0 T3) (h4 : zMet l yX9_ofTaking (Cond.code yX9_ofTaking cX9_ofTaking 4 (Option.some Jvm.ClassFile.FieldType.int) :: zG) rm_X9_ofTaking 0 0 T4) (h5 : zMet l yX9_writeName (Cond.code yX9_writeName cX9_writeName 5 (Option.none : Option Jvm.ClassFile.FieldType) :: zG) rm_X9_writeName 0 0 T5) (h6 : zMet l yX9_isInWork (Cond.code yX9_isInWork cX9_isInWork 3 (Option.some Jvm.ClassFile.FieldType.boolean) :: zG) rm_X9_isInWork 0 0 T6) (h7 : zMet l yX9_write (Cond.code yX9_write cX9_write 2 (Option.none : Option Jvm.ClassFile.FieldType) :: zG) rm_X9_write 0 0 T7) (h8 : zMet l yX9_writeNumber (Cond.code yX9_writeNumber cX9_writeNumber 4 (Option.none : Option Jvm.ClassFile.FieldType) :: zG) rm_X9_writeNumber 0 0 T8) {T : ZTf} (bd : zBd (cd_X9_writeRow T0 T1 T2 T3 T4 T5 T6 T7 T8) 3 0 0 T) : zMet l yX9_writeRow (Cond.code yX9_writeRow cX9_writeRow 3 (Option.some Jvm.ClassFile.FieldType.int) :: zG) rm_X9_writeRow 0 0 T := zMet_of hl (by decide +kernel) rfl rfl rfl rfl (hs_X9_writeRow hl h0 h1 h2 h3 h4 h5 h6 h7 h8) bd

abbrev rm_X9_writeWorkers : Room := { frames := 3, cells := 0, slots := 0, locals := 76 }
def cd_X9_writeWorkers (T0 : ZTf) (T1 : ZTf) (T2 : ZTf) (T3 : ZTf) (T4 : ZTf) (T5 : ZTf) (T6 : ZTf) : List (Nat × ZTr) := [(0, tAld 0 1), (1, tC (zi 0) 2), (2, tPutI 12 0 (fun _ => True) 5), (5, tAld 0 6), (6, tC (zi 0) 7), (7, tPutI 12 21 (fun _ => True) 10), (10, tC (zi 0) 11), (11, tIst 1 12), (12, tIld 1 13), (13, tAld 0 14), (14, tCall0 1 T0 (zRcv 12) 17), (17, tIc_ge 82 20), (20, tAld 0 21), (21, tCall0 1 T1 (zRcv 12) 24), (24, tAld 0 25), (25, tIld 1 26), (26, tCall0 2 T2 (zRcv 12) 29), (29, tAld 0 30), (30, tC (zi 58) 32), (32, tCall0 2 T3 (zRcv 12) 35), (35, tAld 0 36), (36, tAld 0 37), (37, tIld 1 38), (38, tC (zi 3) 39), (39, tCall0 3 T4 (zRcv 12) 42), (42, tCall0 2 T5 (zRcv 12) 45), (45, tAld 0 46), (46, tIld 1 47), (47, tCall0 2 T6 (zRcv 12) 50), (50, tIf_eq 59 53), (53, tAld 0 54), (54, tC (zi 33) 56), (56, tCall0 2 T3 (zRcv 12) 59), (59, tAld 0 60), (60, tC (zi 47) 62), (62, tCall0 2 T3 (zRcv 12) 65), (65, tAld 0 66), (66, tAld 0 67), (67, tIld 1 68), (68, tC (zi 8) 70), (70, tCall0 3 T4 (zRcv 12) 73), (73, tCall0 2 T5 (zRcv 12) 76), (76, tInc 1 1 79), (79, tGo 12), (82, tAld 0 83), (83, tGetI 12 21 86), (86, tRi (fun _ => True))]
set_option maxRecDepth 100000 in
set_option maxHeartbeats 4000000 in
theorem hs_X9_writeWorkers {l : Launch} (hl : l.stackTraces = false) {T0 : ZTf} {T1 : ZTf} {T2 : ZTf} {T3 : ZTf} {T4 : ZTf} {T5 : ZTf} {T6 : ZTf} (h0 : zMet l yX9_workers (Cond.code yX9_workers cX9_workers 1 (Option.some Jvm.ClassFile.FieldType.int) :: zG) rm_X9_workers 0 0 T0) (h1 : zMet l yX9_writeGap (Cond.code yX9_writeGap cX9_writeGap 1 (Option.none : Option Jvm.ClassFile.FieldType) :: zG) rm_X9_writeGap 0 0 T1) (h2 : zMet l yX9_writeName (Cond.code yX9_writeName cX9_writeName 5 (Option.none : Option Jvm.ClassFile.FieldType) :: zG) rm_X9_writeName 0 0 T2) (h3 : zMet l yX9_write (Cond.code yX9_write cX9_write 2 (Option.none : Option Jvm.ClassFile.FieldType) :: zG) rm_X9_write 0 0 T3) (h4 : zMet l yX9_ofWorker (Cond.code yX9_ofWorker cX9_ofWorker 3 (Option.some Jvm.ClassFile.FieldType.int) :: zG) rm_X9_ofWorker 0 0 T4) (h5 : zMet l yX9_writeNumber (Cond.code yX9_writeNumber cX9_writeNumber 4 (Option.none : Option Jvm.ClassFile.FieldType) :: zG) rm_X9_writeNumber 0 0 T5) (h6 : zMet l yX9_isSuspended (Cond.code yX9_isSuspended cX9_isSuspended 2 (Option.some Jvm.ClassFile.FieldType.boolean) :: zG) rm_X9_isSuspended 0 0 T6) (p : Program) (e : Env) (s : State) (m : MethodId) (args : Array Value) (below : List Frame) (meth : Method) (c : Code) (D : va_G) (A : Nat → Prop) (a0 : Nat → Nat) (M0 : ZM) (K : ZRet) (KX : ZEx) (X : zCtx p l rm_X9_writeWorkers s m args meth c cX9_writeWorkers RX9 (Cond.code yX9_writeWorkers cX9_writeWorkers 2 (Option.some Jvm.ClassFile.FieldType.int) :: zG) 2 (Option.some Jvm.ClassFile.FieldType.int) D A a0 M0 0 0) (hnm : meth.name = yX9_writeWorkers.name) (hout : ∀ x ∈ c.exceptionTable.toList, False) : ∀ q ∈ cd_X9_writeWorkers T0 T1 T2 T3 T4 T5 T6, zSd p l e rm_X9_writeWorkers s m args below meth c 2 D A a0 M0 K KX 0 0 q.1 q.2 :=
    zall_c (zs_aload_n X (pc := 0) (q := 0) rfl (by decide +kernel)) <|
    zall_c (zs_iconst X (pc := 1) (by decide) (by decide +kernel)) <|
    zall_c (zs_puti X (pc := 2) (ty := Jvm.ClassFile.FieldType.int) zc_X9 (by decide) (zin ui_X9) tyX9_ok nmX9 (.tail _ gw_7_215) rfl (by decide +kernel) (by decide +kernel) (by decide +kernel) zP_int) <|
    zall_c (zs_aload_n X (pc := 5) (q := 0) rfl (by decide +kernel)) <|
    zall_c (zs_iconst X (pc := 6) (by decide) (by decide +kernel)) <|
    zall_c (zs_puti X (pc := 7) (ty := Jvm.ClassFile.FieldType.int) zc_X9 (by decide) (zin ui_X9) tyX9_ok nmX9 (.tail _ gw_7_236) rfl (by decide +kernel) (by decide +kernel) (by decide +kernel) zP_int) <|
    zall_c (zs_iconst X (pc := 10) (by decide) (by decide +kernel)) <|
    zall_c (zs_istore_n X (pc := 11) (q := 1) rfl (by decide) (by decide +kernel)) <|
    zall_c (zs_iload_n X (pc := 12) (q := 1) rfl (by decide +kernel)) <|
    zall_c (zs_aload_n X (pc := 13) (q := 0) rfl (by decide +kernel)) <|
    zall_c (zs_callV0 X (pc := 14) zc_X9 (fun _ ht => ⟨(zCB ht gw_8_136 gw_1_13 gw_8_133 rfl rfl (by decide +kernel) ⟨Nat.le_of_ble_eq_true rfl, Nat.le_of_ble_eq_true rfl⟩), ht _ (.tail _ gw_8_135), ht _ (.tail _ gp_44)⟩) h0 hout (by decide +kernel)) <|
    zall_c (zs_icmp_ge X (pc := 17) (off := 65) (by decide +kernel) (by decide)) <|
    zall_c (zs_aload_n X (pc := 20) (q := 0) rfl (by decide +kernel)) <|
    zall_c (zs_callV0 X (pc := 21) zc_X9 (fun _ ht => ⟨(zCB ht gw_10_145 gw_1_13 gw_10_142 rfl rfl (by decide +kernel) ⟨Nat.le_of_ble_eq_true rfl, Nat.le_of_ble_eq_true rfl⟩), ht _ (.tail _ gw_10_144), ht _ (.tail _ gp_108)⟩) h1 hout (by decide +kernel)) <|
    zall_c (zs_aload_n X (pc := 24) (q := 0) rfl (by decide +kernel)) <|
    zall_c (zs_iload_n X (pc := 25) (q := 1) rfl (by decide +kernel)) <|
    zall_c (zs_callV0 X (pc := 26) zc_X9 (fun _ ht => ⟨(zCB ht gw_10_161 gw_1_13 gw_10_158 rfl rfl (by decide +kernel) ⟨Nat.le_of_ble_eq_true rfl, Nat.le_of_ble_eq_true rfl⟩), ht _ (.tail _ gw_10_160), ht _ (.tail _ gp_111)⟩) h2 hout (by decide +kernel)) <|
    zall_c (zs_aload_n X (pc := 29) (q := 0) rfl (by decide +kernel)) <|
    zall_c (zs_bipush X (pc := 30) (by decide) (by decide +kernel) (by decide +kernel)) <|
    zall_c (zs_callV0 X (pc := 32) zc_X9 (fun _ ht => ⟨(zCB ht gw_10_149 gw_1_13 gw_10_146 rfl rfl (by decide +kernel) ⟨Nat.le_of_ble_eq_true rfl, Nat.le_of_ble_eq_true rfl⟩), ht _ (.tail _ gw_10_148), ht _ (.tail _ gp_109)⟩) h3 hout (by decide +kernel)) <|
    zall_c (zs_aload_n X (pc := 35) (q := 0) rfl (by decide +kernel)) <|
    zall_c (zs_aload_n X (pc := 36) (q := 0) rfl (by decide +kernel)) <|
    zall_c (zs_iload_n X (pc := 37) (q := 1) rfl (by decide +kernel)) <|
    zall_c (zs_iconst X (pc := 38) (by decide) (by decide +kernel)) <|
    zall_c (zs_callV0 X (pc := 39) zc_X9 (fun _ ht => ⟨(zCB ht gw_8_161 gw_1_13 gw_8_158 rfl rfl (by decide +kernel) ⟨Nat.le_of_ble_eq_true rfl, Nat.le_of_ble_eq_true rfl⟩), ht _ (.tail _ gw_8_160), ht _ (.tail _ gp_48)⟩) h4 hout (by decide +kernel)) <|
    zall_c (zs_callV0 X (pc := 42) zc_X9 (fun _ ht => ⟨(zCB ht gw_10_153 gw_1_13 gw_10_150 rfl rfl (by decide +kernel) ⟨Nat.le_of_ble_eq_true rfl, Nat.le_of_ble_eq_true rfl⟩), ht _ (.tail _ gw_10_152), ht _ (.tail _ gp_110)⟩) h5 hout (by decide +kernel)) <|
    zall_c (zs_aload_n X (pc := 45) (q := 0) rfl (by decide +kernel)) <|
    zall_c (zs_iload_n X (pc := 46) (q := 1) rfl (by decide +kernel)) <|
    zall_c (zs_callV0 X (pc := 47) zc_X9 (fun _ ht => ⟨(zCB ht gw_9_78 gw_1_13 gw_9_75 rfl rfl (by decide +kernel) ⟨Nat.le_of_ble_eq_true rfl, Nat.le_of_ble_eq_true rfl⟩), ht _ (.tail _ gw_9_77), ht _ (.tail _ gp_77)⟩) h6 hout (by decide +kernel)) <|
    zall_c (zs_if_eq X (pc := 50) (off := 9) (by decide +kernel) (by decide)) <|
    zall_c (zs_aload_n X (pc := 53) (q := 0) rfl (by decide +kernel)) <|
    zall_c (zs_bipush X (pc := 54) (by decide) (by decide +kernel) (by decide +kernel)) <|
    zall_c (zs_callV0 X (pc := 56) zc_X9 (fun _ ht => ⟨(zCB ht gw_10_149 gw_1_13 gw_10_146 rfl rfl (by decide +kernel) ⟨Nat.le_of_ble_eq_true rfl, Nat.le_of_ble_eq_true rfl⟩), ht _ (.tail _ gw_10_148), ht _ (.tail _ gp_109)⟩) h3 hout (by decide +kernel)) <|
    zall_c (zs_aload_n X (pc := 59) (q := 0) rfl (by decide +kernel)) <|
    zall_c (zs_bipush X (pc := 60) (by decide) (by decide +kernel) (by decide +kernel)) <|
    zall_c (zs_callV0 X (pc := 62) zc_X9 (fun _ ht => ⟨(zCB ht gw_10_149 gw_1_13 gw_10_146 rfl rfl (by decide +kernel) ⟨Nat.le_of_ble_eq_true rfl, Nat.le_of_ble_eq_true rfl⟩), ht _ (.tail _ gw_10_148), ht _ (.tail _ gp_109)⟩) h3 hout (by decide +kernel)) <|
    zall_c (zs_aload_n X (pc := 65) (q := 0) rfl (by decide +kernel)) <|
    zall_c (zs_aload_n X (pc := 66) (q := 0) rfl (by decide +kernel)) <|
    zall_c (zs_iload_n X (pc := 67) (q := 1) rfl (by decide +kernel)) <|
    zall_c (zs_bipush X (pc := 68) (by decide) (by decide +kernel) (by decide +kernel)) <|
    zall_c (zs_callV0 X (pc := 70) zc_X9 (fun _ ht => ⟨(zCB ht gw_8_161 gw_1_13 gw_8_158 rfl rfl (by decide +kernel) ⟨Nat.le_of_ble_eq_true rfl, Nat.le_of_ble_eq_true rfl⟩), ht _ (.tail _ gw_8_160), ht _ (.tail _ gp_48)⟩) h4 hout (by decide +kernel)) <|
    zall_c (zs_callV0 X (pc := 73) zc_X9 (fun _ ht => ⟨(zCB ht gw_10_153 gw_1_13 gw_10_150 rfl rfl (by decide +kernel) ⟨Nat.le_of_ble_eq_true rfl, Nat.le_of_ble_eq_true rfl⟩), ht _ (.tail _ gw_10_152), ht _ (.tail _ gp_110)⟩) h5 hout (by decide +kernel)) <|
    zall_c (zs_iinc X (pc := 76) (by decide) (by decide +kernel)) <|
    zall_c (zs_goto X (pc := 79) (off := (-67)) (by decide +kernel) (by decide)) <|
    zall_c (zs_aload_n X (pc := 82) (q := 0) rfl (by decide +kernel)) <|
    zall_c (zs_geti X (pc := 83) zc_X9 (by decide) (zin ui_X9) (.tail _ gw_7_236) (by decide +kernel) (by decide +kernel)) <|
    zall_c (zs_iret X (pc := 86) rfl (by decide +kernel)) <|
    zall_n
theorem met_X9_writeWorkers {l : Launch} (hl : l.stackTraces = false) {T0 : ZTf} {T1 : ZTf} {T2 : ZTf} {T3 : ZTf} {T4 : ZTf} {T5 : ZTf} {T6 : ZTf} (h0 : zMet l yX9_workers (Cond.code yX9_workers cX9_workers 1 (Option.some Jvm.ClassFile.FieldType.int) :: zG) rm_X9_workers 0 0 T0) (h1 : zMet l yX9_writeGap (Cond.code yX9_writeGap cX9_writeGap 1 (Option.none : Option Jvm.ClassFile.FieldType) :: zG) rm_X9_writeGap 0 0 T1) (h2 : zMet l yX9_writeName (Cond.code yX9_writeName cX9_writeName 5 (Option.none : Option Jvm.ClassFile.FieldType) :: zG) rm_X9_writeName 0 0 T2) (h3 : zMet l yX9_write (Cond.code yX9_write cX9_write 2 (Option.none : Option Jvm.ClassFile.FieldType) :: zG) rm_X9_write 0 0 T3) (h4 : zMet l yX9_ofWorker (Cond.code yX9_ofWorker cX9_ofWorker 3 (Option.some Jvm.ClassFile.FieldType.int) :: zG) rm_X9_ofWorker 0 0 T4) (h5 : zMet l yX9_writeNumber (Cond.code yX9_writeNumber cX9_writeNumber 4 (Option.none : Option Jvm.ClassFile.FieldType) :: zG) rm_X9_writeNumber 0 0 T5) (h6 : zMet l yX9_isSuspended (Cond.code yX9_isSuspended cX9_isSuspended 2 (Option.some Jvm.ClassFile.FieldType.boolean) :: zG) rm_X9_isSuspended 0 0 T6) {T : ZTf} (bd : zBd (cd_X9_writeWorkers T0 T1 T2 T3 T4 T5 T6) 2 0 0 T) : zMet l yX9_writeWorkers (Cond.code yX9_writeWorkers cX9_writeWorkers 2 (Option.some Jvm.ClassFile.FieldType.int) :: zG) rm_X9_writeWorkers 0 0 T := zMet_of hl (by decide +kernel) rfl rfl rfl rfl (hs_X9_writeWorkers hl h0 h1 h2 h3 h4 h5 h6) bd

abbrev rm_X9_outputByte : Room := { frames := 3, cells := 0, slots := 0, locals := 74 }
def cd_X9_outputByte (T0 : ZTf) (T1 : ZTf) : List (Nat × ZTr) := [(0, tAld 0 1), (1, tIld 1 2), (2, tI2l 3), (3, tC (zl 0) 4), (4, tAld 0 5), (5, tGetI 12 21 8), (8, tC (zi 1) 9), (9, tSub 10), (10, tI2l 11), (11, tCall0 3 T0 zAny 14), (14, tCall0 2 T1 (zRcv 12) 17), (17, tIf_eq 29 20), (20, tAld 0 21), (21, tGetR 12 20 24), (24, tIld 1 25), (25, tIal 21 26), (26, tGo 30), (29, tC (zi 0) 30), (30, tRi (fun _ => True))]
set_option maxRecDepth 100000 in
set_option maxHeartbeats 4000000 in
theorem hs_X9_outputByte {l : Launch} (hl : l.stackTraces = false) {T0 : ZTf} {T1 : ZTf} (h0 : zMet l yX9_in (Cond.code yX9_in cX9_in 6 (Option.some Jvm.ClassFile.FieldType.boolean) :: zG) rm_X9_in 0 0 T0) (h1 : zMet l yX9_passes (Cond.code yX9_passes cX9_passes 2 (Option.some Jvm.ClassFile.FieldType.boolean) :: zG) rm_X9_passes 0 0 T1) (p : Program) (e : Env) (s : State) (m : MethodId) (args : Array Value) (below : List Frame) (meth : Method) (c : Code) (D : va_G) (A : Nat → Prop) (a0 : Nat → Nat) (M0 : ZM) (K : ZRet) (KX : ZEx) (X : zCtx p l rm_X9_outputByte s m args meth c cX9_outputByte RX9 (Cond.code yX9_outputByte cX9_outputByte 2 (Option.some Jvm.ClassFile.FieldType.int) :: zG) 2 (Option.some Jvm.ClassFile.FieldType.int) D A a0 M0 0 0) (hnm : meth.name = yX9_outputByte.name) (hout : ∀ x ∈ c.exceptionTable.toList, False) : ∀ q ∈ cd_X9_outputByte T0 T1, zSd p l e rm_X9_outputByte s m args below meth c 2 D A a0 M0 K KX 0 0 q.1 q.2 :=
    zall_c (zs_aload_n X (pc := 0) (q := 0) rfl (by decide +kernel)) <|
    zall_c (zs_iload_n X (pc := 1) (q := 1) rfl (by decide +kernel)) <|
    zall_c (zs_i2l X (pc := 2) (by decide +kernel)) <|
    zall_c (zs_lconst X (pc := 3) (q := 0) (by decide) (by decide +kernel) rfl) <|
    zall_c (zs_aload_n X (pc := 4) (q := 0) rfl (by decide +kernel)) <|
    zall_c (zs_geti X (pc := 5) zc_X9 (by decide) (zin ui_X9) (.tail _ gw_7_236) (by decide +kernel) (by decide +kernel)) <|
    zall_c (zs_iconst X (pc := 8) (by decide) (by decide +kernel)) <|
    zall_c (zs_isub X (pc := 9) (by decide +kernel)) <|
    zall_c (zs_i2l X (pc := 10) (by decide +kernel)) <|
    zall_c (zs_callS0 X (pc := 11) (fun _ ht => ⟨(zCB ht gw_8_64 gw_1_13 gw_8_62 rfl rfl (by decide +kernel) ⟨Nat.le_of_ble_eq_true rfl, Nat.le_of_ble_eq_true rfl⟩), ht _ (.tail _ gw_8_63)⟩) h0 hout (by decide +kernel)) <|
    zall_c (zs_callV0 X (pc := 14) zc_X9 (fun _ ht => ⟨(zCB ht gw_8_49 gw_1_13 gw_8_46 rfl rfl (by decide +kernel) ⟨Nat.le_of_ble_eq_true rfl, Nat.le_of_ble_eq_true rfl⟩), ht _ (.tail _ gw_8_48), ht _ (.tail _ gp_28)⟩) h1 hout (by decide +kernel)) <|
    zall_c (zs_if_eq X (pc := 17) (off := 12) (by decide +kernel) (by decide)) <|
    zall_c (zs_aload_n X (pc := 20) (q := 0) rfl (by decide +kernel)) <|
    zall_c (zs_getr X (pc := 21) zc_X9 (by decide) (zin ui_X9) (.tail _ gw_7_235) (by decide +kernel) (by decide +kernel)) <|
    zall_c (zs_iload_n X (pc := 24) (q := 1) rfl (by decide +kernel)) <|
    zall_c (zs_baload21 X (pc := 25) (by decide +kernel)) <|
    zall_c (zs_goto X (pc := 26) (off := 4) (by decide +kernel) (by decide)) <|
    zall_c (zs_iconst X (pc := 29) (by decide) (by decide +kernel)) <|
    zall_c (zs_iret X (pc := 30) rfl (by decide +kernel)) <|
    zall_n
theorem met_X9_outputByte {l : Launch} (hl : l.stackTraces = false) {T0 : ZTf} {T1 : ZTf} (h0 : zMet l yX9_in (Cond.code yX9_in cX9_in 6 (Option.some Jvm.ClassFile.FieldType.boolean) :: zG) rm_X9_in 0 0 T0) (h1 : zMet l yX9_passes (Cond.code yX9_passes cX9_passes 2 (Option.some Jvm.ClassFile.FieldType.boolean) :: zG) rm_X9_passes 0 0 T1) {T : ZTf} (bd : zBd (cd_X9_outputByte T0 T1) 2 0 0 T) : zMet l yX9_outputByte (Cond.code yX9_outputByte cX9_outputByte 2 (Option.some Jvm.ClassFile.FieldType.int) :: zG) rm_X9_outputByte 0 0 T := zMet_of hl (by decide +kernel) rfl rfl rfl rfl (hs_X9_outputByte hl h0 h1) bd

abbrev rm_J5_init_d00df : Room := { frames := 1, cells := 1, slots := 16, locals := 30 }
def cd_J5_init_d00df : List (Nat × ZTr) := [(0, tAld 0 1), (1, tObj 4), (4, tC (zi 1) 7), (7, tIf_eq 25 10), (10, tAld 0 11), (11, tIld 1 12), (12, tNewA 21 14), (14, tPutR 1 0 17), (17, tAld 0 18), (18, tC (zi 0) 19), (19, tPutI 1 1 zPb 22), (22, tGo 38), (25, tNo), (26, tNo), (27, tNo), (30, tNo), (33, tNo), (34, tNo), (35, tNo), (38, tRv)]
set_option maxRecDepth 100000 in
set_option maxHeartbeats 4000000 in
theorem hs_J5_init_d00df {l : Launch} (hl : l.stackTraces = false) (p : Program) (e : Env) (s : State) (m : MethodId) (args : Array Value) (below : List Frame) (meth : Method) (c : Code) (D : va_G) (A : Nat → Prop) (a0 : Nat → Nat) (M0 : ZM) (K : ZRet) (KX : ZEx) (X : zCtx p l rm_J5_init_d00df s m args meth c cJ5_init_d00df RJ5 (Cond.code yJ5_init_d00df cJ5_init_d00df 2 (Option.none : Option Jvm.ClassFile.FieldType) :: zG) 2 (Option.none : Option Jvm.ClassFile.FieldType) D A a0 M0 1 16) (hnm : meth.name = yJ5_init_d00df.name) (hout : ∀ x ∈ c.exceptionTable.toList, False) : ∀ q ∈ cd_J5_init_d00df, zSd p l e rm_J5_init_d00df s m args below meth c 2 D A a0 M0 K KX 1 16 q.1 q.2 :=
    zall_c (zs_aload_n X (pc := 0) (q := 0) rfl (by decide +kernel)) <|
    zall_c (zs_objinit X (pc := 1) (.tail _ gw_1_61) (.tail _ gw_1_39) (.tail _ gw_1_40) (by decide) (by decide) (by decide +kernel)) <|
    zall_c (zs_gets X (pc := 4) (C := "java/lang/String") (n1 := "COMPACT_STRINGS") (d1 := "Z") (List.mem_of_getElem? (i := 12) rfl) (.tail _ gw_1_62) (by decide +kernel)) <|
    zall_c (zs_if_eq X (pc := 7) (off := 18) (by decide +kernel) (by decide)) <|
    zall_c (zs_aload_n X (pc := 10) (q := 0) rfl (by decide +kernel)) <|
    zall_c (zs_iload_n X (pc := 11) (q := 1) rfl (by decide +kernel)) <|
    zall_c (zs_newarray21 X (pc := 12) (.tail _ gw_1_86) (by decide +kernel)) <|
    zall_c (zs_putr X (pc := 14) (ty := (Jvm.ClassFile.FieldType.array Jvm.ClassFile.FieldType.byte)) zc_J4 (by decide) (zin ui_J4) tyJ4_ok nmJ4 (.tail _ gw_1_71) rfl (by decide +kernel) (by decide +kernel) (by decide +kernel) zP_arr) <|
    zall_c (zs_aload_n X (pc := 17) (q := 0) rfl (by decide +kernel)) <|
    zall_c (zs_iconst X (pc := 18) (by decide) (by decide +kernel)) <|
    zall_c (zs_puti X (pc := 19) (ty := Jvm.ClassFile.FieldType.byte) zc_J4 (by decide) (zin ui_J4) tyJ4_ok nmJ4 (.tail _ gw_1_72) rfl (by decide +kernel) (by decide +kernel) (by decide +kernel) zP_byte) <|
    zall_c (zs_goto X (pc := 22) (off := 16) (by decide +kernel) (by decide)) <|
    zall_c (zs_no (pc := 25)) <|
    zall_c (zs_no (pc := 26)) <|
    zall_c (zs_no (pc := 27)) <|
    zall_c (zs_no (pc := 30)) <|
    zall_c (zs_no (pc := 33)) <|
    zall_c (zs_no (pc := 34)) <|
    zall_c (zs_no (pc := 35)) <|
    zall_c (zs_vret X (pc := 38) rfl (by decide +kernel)) <|
    zall_n
theorem met_J5_init_d00df {l : Launch} (hl : l.stackTraces = false) {T : ZTf} (bd : zBd (cd_J5_init_d00df) 2 1 16 T) : zMet l yJ5_init_d00df (Cond.code yJ5_init_d00df cJ5_init_d00df 2 (Option.none : Option Jvm.ClassFile.FieldType) :: zG) rm_J5_init_d00df 1 16 T := zMet_of hl (by decide +kernel) rfl rfl rfl rfl (hs_J5_init_d00df hl) bd

abbrev rm_J5_length_8abf5 : Room := { frames := 1, cells := 0, slots := 0, locals := 30 }
def cd_J5_length_8abf5 : List (Nat × ZTr) := [(0, tAld 0 1), (1, tGetI 1 3 4), (4, tRi (fun _ => True))]
set_option maxRecDepth 100000 in
set_option maxHeartbeats 4000000 in
theorem hs_J5_length_8abf5 {l : Launch} (hl : l.stackTraces = false) (p : Program) (e : Env) (s : State) (m : MethodId) (args : Array Value) (below : List Frame) (meth : Method) (c : Code) (D : va_G) (A : Nat → Prop) (a0 : Nat → Nat) (M0 : ZM) (K : ZRet) (KX : ZEx) (X : zCtx p l rm_J5_length_8abf5 s m args meth c cJ5_length_8abf5 RJ5 (Cond.code yJ5_length_8abf5 cJ5_length_8abf5 1 (Option.some Jvm.ClassFile.FieldType.int) :: zG) 1 (Option.some Jvm.ClassFile.FieldType.int) D A a0 M0 0 0) (hnm : meth.name = yJ5_length_8abf5.name) (hout : ∀ x ∈ c.exceptionTable.toList, False) : ∀ q ∈ cd_J5_length_8abf5, zSd p l e rm_J5_length_8abf5 s m args below meth c 1 D A a0 M0 K KX 0 0 q.1 q.2 :=
    zall_c (zs_aload_n X (pc := 0) (q := 0) rfl (by decide +kernel)) <|
    zall_c (zs_geti X (pc := 1) zc_J4 (by decide) (zin ui_J4) (.tail _ gw_1_75) (by decide +kernel) (by decide +kernel)) <|
    zall_c (zs_iret X (pc := 4) rfl (by decide +kernel)) <|
    zall_n
theorem met_J5_length_8abf5 {l : Launch} (hl : l.stackTraces = false) {T : ZTf} (bd : zBd (cd_J5_length_8abf5) 1 0 0 T) : zMet l yJ5_length_8abf5 (Cond.code yJ5_length_8abf5 cJ5_length_8abf5 1 (Option.some Jvm.ClassFile.FieldType.int) :: zG) rm_J5_length_8abf5 0 0 T := zMet_of hl (by decide +kernel) rfl rfl rfl rfl (hs_J5_length_8abf5 hl) bd

abbrev rm_J5_getValue_6d5f1 : Room := { frames := 1, cells := 0, slots := 0, locals := 30 }
def cd_J5_getValue_6d5f1 : List (Nat × ZTr) := [(0, tAld 0 1), (1, tGetR 1 0 4), (4, tRa)]
set_option maxRecDepth 100000 in
set_option maxHeartbeats 4000000 in
theorem hs_J5_getValue_6d5f1 {l : Launch} (hl : l.stackTraces = false) (p : Program) (e : Env) (s : State) (m : MethodId) (args : Array Value) (below : List Frame) (meth : Method) (c : Code) (D : va_G) (A : Nat → Prop) (a0 : Nat → Nat) (M0 : ZM) (K : ZRet) (KX : ZEx) (X : zCtx p l rm_J5_getValue_6d5f1 s m args meth c cJ5_getValue_6d5f1 RJ5 (Cond.code yJ5_getValue_6d5f1 cJ5_getValue_6d5f1 1 (Option.some (Jvm.ClassFile.FieldType.array Jvm.ClassFile.FieldType.byte)) :: zG) 1 (Option.some (Jvm.ClassFile.FieldType.array Jvm.ClassFile.FieldType.byte)) D A a0 M0 0 0) (hnm : meth.name = yJ5_getValue_6d5f1.name) (hout : ∀ x ∈ c.exceptionTable.toList, False) : ∀ q ∈ cd_J5_getValue_6d5f1, zSd p l e rm_J5_getValue_6d5f1 s m args below meth c 1 D A a0 M0 K KX 0 0 q.1 q.2 :=
    zall_c (zs_aload_n X (pc := 0) (q := 0) rfl (by decide +kernel)) <|
    zall_c (zs_getr X (pc := 1) zc_J4 (by decide) (zin ui_J4) (.tail _ gw_1_71) (by decide +kernel) (by decide +kernel)) <|
    zall_c (zs_aret X (pc := 4) rfl (Or.inr ⟨_, rfl⟩) (by decide +kernel)) <|
    zall_n
theorem met_J5_getValue_6d5f1 {l : Launch} (hl : l.stackTraces = false) {T : ZTf} (bd : zBd (cd_J5_getValue_6d5f1) 1 0 0 T) : zMet l yJ5_getValue_6d5f1 (Cond.code yJ5_getValue_6d5f1 cJ5_getValue_6d5f1 1 (Option.some (Jvm.ClassFile.FieldType.array Jvm.ClassFile.FieldType.byte)) :: zG) rm_J5_getValue_6d5f1 0 0 T := zMet_of hl (by decide +kernel) rfl rfl rfl rfl (hs_J5_getValue_6d5f1 hl) bd

abbrev rm_J5_isLatin1_aae02 : Room := { frames := 1, cells := 0, slots := 0, locals := 30 }
def cd_J5_isLatin1_aae02 : List (Nat × ZTr) := [(0, tC (zi 1) 3), (3, tIf_eq 17 6), (6, tAld 0 7), (7, tGetI 1 1 10), (10, tIf_ne 17 13), (13, tC (zi 1) 14), (14, tGo 18), (17, tC (zi 0) 18), (18, tRi zPz)]
set_option maxRecDepth 100000 in
set_option maxHeartbeats 4000000 in
theorem hs_J5_isLatin1_aae02 {l : Launch} (hl : l.stackTraces = false) (p : Program) (e : Env) (s : State) (m : MethodId) (args : Array Value) (below : List Frame) (meth : Method) (c : Code) (D : va_G) (A : Nat → Prop) (a0 : Nat → Nat) (M0 : ZM) (K : ZRet) (KX : ZEx) (X : zCtx p l rm_J5_isLatin1_aae02 s m args meth c cJ5_isLatin1_aae02 RJ5 (Cond.code yJ5_isLatin1_aae02 cJ5_isLatin1_aae02 1 (Option.some Jvm.ClassFile.FieldType.boolean) :: zG) 1 (Option.some Jvm.ClassFile.FieldType.boolean) D A a0 M0 0 0) (hnm : meth.name = yJ5_isLatin1_aae02.name) (hout : ∀ x ∈ c.exceptionTable.toList, False) : ∀ q ∈ cd_J5_isLatin1_aae02, zSd p l e rm_J5_isLatin1_aae02 s m args below meth c 1 D A a0 M0 K KX 0 0 q.1 q.2 :=
    zall_c (zs_gets X (pc := 0) (C := "java/lang/String") (n1 := "COMPACT_STRINGS") (d1 := "Z") (List.mem_of_getElem? (i := 12) rfl) (.tail _ gw_1_62) (by decide +kernel)) <|
    zall_c (zs_if_eq X (pc := 3) (off := 14) (by decide +kernel) (by decide)) <|
    zall_c (zs_aload_n X (pc := 6) (q := 0) rfl (by decide +kernel)) <|
    zall_c (zs_geti X (pc := 7) zc_J4 (by decide) (zin ui_J4) (.tail _ gw_1_72) (by decide +kernel) (by decide +kernel)) <|
    zall_c (zs_if_ne X (pc := 10) (off := 7) (by decide +kernel) (by decide)) <|
    zall_c (zs_iconst X (pc := 13) (by decide) (by decide +kernel)) <|
    zall_c (zs_goto X (pc := 14) (off := 4) (by decide +kernel) (by decide)) <|
    zall_c (zs_iconst X (pc := 17) (by decide) (by decide +kernel)) <|
    zall_c (zs_zret X (pc := 18) rfl zR_bool (by decide +kernel)) <|
    zall_n
theorem met_J5_isLatin1_aae02 {l : Launch} (hl : l.stackTraces = false) {T : ZTf} (bd : zBd (cd_J5_isLatin1_aae02) 1 0 0 T) : zMet l yJ5_isLatin1_aae02 (Cond.code yJ5_isLatin1_aae02 cJ5_isLatin1_aae02 1 (Option.some Jvm.ClassFile.FieldType.boolean) :: zG) rm_J5_isLatin1_aae02 0 0 T := zMet_of hl (by decide +kernel) rfl rfl rfl rfl (hs_J5_isLatin1_aae02 hl) bd

abbrev rm_J6_getChars_ba4f3 : Room := { frames := 1, cells := 0, slots := 0, locals := 30 }
def cd_J6_getChars_ba4f3 : List (Nat × ZTr) := [(0, tIld 1 1), (1, tIst 5 3), (3, tIld 0 4), (4, tIf_ge 11 7), (7, tC (zi 1) 8), (8, tGo 12), (11, tC (zi 0) 12), (12, tIst 6 14), (14, tIld 6 16), (16, tIf_ne 22 19), (19, tIld 0 20), (20, tNeg 21), (21, tIst 0 22), (22, tIld 0 23), (23, tC (zi (-100)) 25), (25, tIc_gt 72 28), (28, tIld 0 29), (29, tC (zi 100) 31), (31, tDiv Int.tdiv 32), (32, tIst 3 33), (33, tIld 3 34), (34, tC (zi 100) 36), (36, tMul 37), (37, tIld 0 38), (38, tSub 39), (39, tIst 4 41), (41, tIld 3 42), (42, tIst 0 43), (43, tAld 2 44), (44, tInc 5 (-1) 47), (47, tIld 5 49), (49, tC (zo 59) 52), (52, tIld 4 54), (54, tIal 21 55), (55, tIas 21 (fun x => -128 ≤ x ∧ x < 128) 56), (56, tAld 2 57), (57, tInc 5 (-1) 60), (60, tIld 5 62), (62, tC (zo 60) 65), (65, tIld 4 67), (67, tIal 21 68), (68, tIas 21 (fun x => -128 ≤ x ∧ x < 128) 69), (69, tGo 22), (72, tAld 2 73), (73, tInc 5 (-1) 76), (76, tIld 5 78), (78, tC (zo 59) 81), (81, tIld 0 82), (82, tNeg 83), (83, tIal 21 84), (84, tIas 21 (fun x => -128 ≤ x ∧ x < 128) 85), (85, tIld 0 86), (86, tC (zi (-9)) 88), (88, tIc_ge 104 91), (91, tAld 2 92), (92, tInc 5 (-1) 95), (95, tIld 5 97), (97, tC (zo 60) 100), (100, tIld 0 101), (101, tNeg 102), (102, tIal 21 103), (103, tIas 21 (fun x => -128 ≤ x ∧ x < 128) 104), (104, tIld 6 106), (106, tIf_eq 118 109), (109, tAld 2 110), (110, tInc 5 (-1) 113), (113, tIld 5 115), (115, tC (zi 45) 117), (117, tIas 21 (fun x => -128 ≤ x ∧ x < 128) 118), (118, tIld 5 120), (120, tRi (fun _ => True))]
set_option maxRecDepth 100000 in
set_option maxHeartbeats 4000000 in
theorem hs_J6_getChars_ba4f3 {l : Launch} (hl : l.stackTraces = false) (p : Program) (e : Env) (s : State) (m : MethodId) (args : Array Value) (below : List Frame) (meth : Method) (c : Code) (D : va_G) (A : Nat → Prop) (a0 : Nat → Nat) (M0 : ZM) (K : ZRet) (KX : ZEx) (X : zCtx p l rm_J6_getChars_ba4f3 s m args meth c cJ6_getChars_ba4f3 RJ6 (Cond.code yJ6_getChars_ba4f3 cJ6_getChars_ba4f3 7 (Option.some Jvm.ClassFile.FieldType.int) :: zG) 7 (Option.some Jvm.ClassFile.FieldType.int) D A a0 M0 0 0) (hnm : meth.name = yJ6_getChars_ba4f3.name) (hout : ∀ x ∈ c.exceptionTable.toList, False) : ∀ q ∈ cd_J6_getChars_ba4f3, zSd p l e rm_J6_getChars_ba4f3 s m args below meth c 7 D A a0 M0 K KX 0 0 q.1 q.2 :=
    zall_c (zs_iload_n X (pc := 0) (q := 1) rfl (by decide +kernel)) <|
    zall_c (zs_istore X (pc := 1) (by decide) (by decide +kernel)) <|
    zall_c (zs_iload_n X (pc := 3) (q := 0) rfl (by decide +kernel)) <|
    zall_c (zs_if_ge X (pc := 4) (off := 7) (by decide +kernel) (by decide)) <|
    zall_c (zs_iconst X (pc := 7) (by decide) (by decide +kernel)) <|
    zall_c (zs_goto X (pc := 8) (off := 4) (by decide +kernel) (by decide)) <|
    zall_c (zs_iconst X (pc := 11) (by decide) (by decide +kernel)) <|
    zall_c (zs_istore X (pc := 12) (by decide) (by decide +kernel)) <|
    zall_c (zs_iload X (pc := 14) (by decide +kernel)) <|
    zall_c (zs_if_ne X (pc := 16) (off := 6) (by decide +kernel) (by decide)) <|
    zall_c (zs_iload_n X (pc := 19) (q := 0) rfl (by decide +kernel)) <|
    zall_c (zs_ineg X (pc := 20) (by decide +kernel)) <|
    zall_c (zs_istore_n X (pc := 21) (q := 0) rfl (by decide) (by decide +kernel)) <|
    zall_c (zs_iload_n X (pc := 22) (q := 0) rfl (by decide +kernel)) <|
    zall_c (zs_bipush X (pc := 23) (by decide) (by decide +kernel) (by decide +kernel)) <|
    zall_c (zs_icmp_gt X (pc := 25) (off := 47) (by decide +kernel) (by decide)) <|
    zall_c (zs_iload_n X (pc := 28) (q := 0) rfl (by decide +kernel)) <|
    zall_c (zs_bipush X (pc := 29) (by decide) (by decide +kernel) (by decide +kernel)) <|
    zall_c (zs_idiv X (pc := 31) (by decide +kernel)) <|
    zall_c (zs_istore_n X (pc := 32) (q := 3) rfl (by decide) (by decide +kernel)) <|
    zall_c (zs_iload_n X (pc := 33) (q := 3) rfl (by decide +kernel)) <|
    zall_c (zs_bipush X (pc := 34) (by decide) (by decide +kernel) (by decide +kernel)) <|
    zall_c (zs_imul X (pc := 36) (by decide +kernel)) <|
    zall_c (zs_iload_n X (pc := 37) (q := 0) rfl (by decide +kernel)) <|
    zall_c (zs_isub X (pc := 38) (by decide +kernel)) <|
    zall_c (zs_istore X (pc := 39) (by decide) (by decide +kernel)) <|
    zall_c (zs_iload_n X (pc := 41) (q := 3) rfl (by decide +kernel)) <|
    zall_c (zs_istore_n X (pc := 42) (q := 0) rfl (by decide) (by decide +kernel)) <|
    zall_c (zs_aload_n X (pc := 43) (q := 2) rfl (by decide +kernel)) <|
    zall_c (zs_iinc X (pc := 44) (by decide) (by decide +kernel)) <|
    zall_c (zs_iload X (pc := 47) (by decide +kernel)) <|
    zall_c (zs_gets X (pc := 49) (C := "java/lang/Integer") (n1 := "DigitOnes") (d1 := "[B") (List.mem_of_getElem? (i := 13) rfl) (.tail _ gw_3_183) (by decide +kernel)) <|
    zall_c (zs_iload X (pc := 52) (by decide +kernel)) <|
    zall_c (zs_baload21 X (pc := 54) (by decide +kernel)) <|
    zall_c (zs_bastore21 X (pc := 55) (by decide +kernel)) <|
    zall_c (zs_aload_n X (pc := 56) (q := 2) rfl (by decide +kernel)) <|
    zall_c (zs_iinc X (pc := 57) (by decide) (by decide +kernel)) <|
    zall_c (zs_iload X (pc := 60) (by decide +kernel)) <|
    zall_c (zs_gets X (pc := 62) (C := "java/lang/Integer") (n1 := "DigitTens") (d1 := "[B") (List.mem_of_getElem? (i := 14) rfl) (.tail _ gw_3_185) (by decide +kernel)) <|
    zall_c (zs_iload X (pc := 65) (by decide +kernel)) <|
    zall_c (zs_baload21 X (pc := 67) (by decide +kernel)) <|
    zall_c (zs_bastore21 X (pc := 68) (by decide +kernel)) <|
    zall_c (zs_goto X (pc := 69) (off := (-47)) (by decide +kernel) (by decide)) <|
    zall_c (zs_aload_n X (pc := 72) (q := 2) rfl (by decide +kernel)) <|
    zall_c (zs_iinc X (pc := 73) (by decide) (by decide +kernel)) <|
    zall_c (zs_iload X (pc := 76) (by decide +kernel)) <|
    zall_c (zs_gets X (pc := 78) (C := "java/lang/Integer") (n1 := "DigitOnes") (d1 := "[B") (List.mem_of_getElem? (i := 13) rfl) (.tail _ gw_3_183) (by decide +kernel)) <|
    zall_c (zs_iload_n X (pc := 81) (q := 0) rfl (by decide +kernel)) <|
    zall_c (zs_ineg X (pc := 82) (by decide +kernel)) <|
    zall_c (zs_baload21 X (pc := 83) (by decide +kernel)) <|
    zall_c (zs_bastore21 X (pc := 84) (by decide +kernel)) <|
    zall_c (zs_iload_n X (pc := 85) (q := 0) rfl (by decide +kernel)) <|
    zall_c (zs_bipush X (pc := 86) (by decide) (by decide +kernel) (by decide +kernel)) <|
    zall_c (zs_icmp_ge X (pc := 88) (off := 16) (by decide +kernel) (by decide)) <|
    zall_c (zs_aload_n X (pc := 91) (q := 2) rfl (by decide +kernel)) <|
    zall_c (zs_iinc X (pc := 92) (by decide) (by decide +kernel)) <|
    zall_c (zs_iload X (pc := 95) (by decide +kernel)) <|
    zall_c (zs_gets X (pc := 97) (C := "java/lang/Integer") (n1 := "DigitTens") (d1 := "[B") (List.mem_of_getElem? (i := 14) rfl) (.tail _ gw_3_185) (by decide +kernel)) <|
    zall_c (zs_iload_n X (pc := 100) (q := 0) rfl (by decide +kernel)) <|
    zall_c (zs_ineg X (pc := 101) (by decide +kernel)) <|
    zall_c (zs_baload21 X (pc := 102) (by decide +kernel)) <|
    zall_c (zs_bastore21 X (pc := 103) (by decide +kernel)) <|
    zall_c (zs_iload X (pc := 104) (by decide +kernel)) <|
    zall_c (zs_if_eq X (pc := 106) (off := 12) (by decide +kernel) (by decide)) <|
    zall_c (zs_aload_n X (pc := 109) (q := 2) rfl (by decide +kernel)) <|
    zall_c (zs_iinc X (pc := 110) (by decide) (by decide +kernel)) <|
    zall_c (zs_iload X (pc := 113) (by decide +kernel)) <|
    zall_c (zs_bipush X (pc := 115) (by decide) (by decide +kernel) (by decide +kernel)) <|
    zall_c (zs_bastore21 X (pc := 117) (by decide +kernel)) <|
    zall_c (zs_iload X (pc := 118) (by decide +kernel)) <|
    zall_c (zs_iret X (pc := 120) rfl (by decide +kernel)) <|
    zall_n
theorem met_J6_getChars_ba4f3 {l : Launch} (hl : l.stackTraces = false) {T : ZTf} (bd : zBd (cd_J6_getChars_ba4f3) 7 0 0 T) : zMet l yJ6_getChars_ba4f3 (Cond.code yJ6_getChars_ba4f3 cJ6_getChars_ba4f3 7 (Option.some Jvm.ClassFile.FieldType.int) :: zG) rm_J6_getChars_ba4f3 0 0 T := zMet_of hl (by decide +kernel) rfl rfl rfl rfl (hs_J6_getChars_ba4f3 hl) bd

abbrev rm_J6_stringSize_0f7a4 : Room := { frames := 1, cells := 0, slots := 0, locals := 30 }
def cd_J6_stringSize_0f7a4 : List (Nat × ZTr) := [(0, tC (zi 1) 1), (1, tIst 1 2), (2, tIld 0 3), (3, tIf_lt 11 6), (6, tC (zi 0) 7), (7, tIst 1 8), (8, tIld 0 9), (9, tNeg 10), (10, tIst 0 11), (11, tC (zi (-10)) 13), (13, tIst 2 14), (14, tC (zi 1) 15), (15, tIst 3 16), (16, tIld 3 17), (17, tC (zi 10) 19), (19, tIc_ge 42 22), (22, tIld 0 23), (23, tIld 2 24), (24, tIc_le 31 27), (27, tIld 3 28), (28, tIld 1 29), (29, tAdd 30), (30, tRi (fun _ => True)), (31, tC (zi 10) 33), (33, tIld 2 34), (34, tMul 35), (35, tIst 2 36), (36, tInc 3 1 39), (39, tGo 16), (42, tC (zi 10) 44), (44, tIld 1 45), (45, tAdd 46), (46, tRi (fun _ => True))]
set_option maxRecDepth 100000 in
set_option maxHeartbeats 4000000 in
theorem hs_J6_stringSize_0f7a4 {l : Launch} (hl : l.stackTraces = false) (p : Program) (e : Env) (s : State) (m : MethodId) (args : Array Value) (below : List Frame) (meth : Method) (c : Code) (D : va_G) (A : Nat → Prop) (a0 : Nat → Nat) (M0 : ZM) (K : ZRet) (KX : ZEx) (X : zCtx p l rm_J6_stringSize_0f7a4 s m args meth c cJ6_stringSize_0f7a4 RJ6 (Cond.code yJ6_stringSize_0f7a4 cJ6_stringSize_0f7a4 4 (Option.some Jvm.ClassFile.FieldType.int) :: zG) 4 (Option.some Jvm.ClassFile.FieldType.int) D A a0 M0 0 0) (hnm : meth.name = yJ6_stringSize_0f7a4.name) (hout : ∀ x ∈ c.exceptionTable.toList, False) : ∀ q ∈ cd_J6_stringSize_0f7a4, zSd p l e rm_J6_stringSize_0f7a4 s m args below meth c 4 D A a0 M0 K KX 0 0 q.1 q.2 :=
    zall_c (zs_iconst X (pc := 0) (by decide) (by decide +kernel)) <|
    zall_c (zs_istore_n X (pc := 1) (q := 1) rfl (by decide) (by decide +kernel)) <|
    zall_c (zs_iload_n X (pc := 2) (q := 0) rfl (by decide +kernel)) <|
    zall_c (zs_if_lt X (pc := 3) (off := 8) (by decide +kernel) (by decide)) <|
    zall_c (zs_iconst X (pc := 6) (by decide) (by decide +kernel)) <|
    zall_c (zs_istore_n X (pc := 7) (q := 1) rfl (by decide) (by decide +kernel)) <|
    zall_c (zs_iload_n X (pc := 8) (q := 0) rfl (by decide +kernel)) <|
    zall_c (zs_ineg X (pc := 9) (by decide +kernel)) <|
    zall_c (zs_istore_n X (pc := 10) (q := 0) rfl (by decide) (by decide +kernel)) <|
    zall_c (zs_bipush X (pc := 11) (by decide) (by decide +kernel) (by decide +kernel)) <|
    zall_c (zs_istore_n X (pc := 13) (q := 2) rfl (by decide) (by decide +kernel)) <|
    zall_c (zs_iconst X (pc := 14) (by decide) (by decide +kernel)) <|
    zall_c (zs_istore_n X (pc := 15) (q := 3) rfl (by decide) (by decide +kernel)) <|
    zall_c (zs_iload_n X (pc := 16) (q := 3) rfl (by decide +kernel)) <|
    zall_c (zs_bipush X (pc := 17) (by decide) (by decide +kernel) (by decide +kernel)) <|
    zall_c (zs_icmp_ge X (pc := 19) (off := 23) (by decide +kernel) (by decide)) <|
    zall_c (zs_iload_n X (pc := 22) (q := 0) rfl (by decide +kernel)) <|
    zall_c (zs_iload_n X (pc := 23) (q := 2) rfl (by decide +kernel)) <|
    zall_c (zs_icmp_le X (pc := 24) (off := 7) (by decide +kernel) (by decide)) <|
    zall_c (zs_iload_n X (pc := 27) (q := 3) rfl (by decide +kernel)) <|
    zall_c (zs_iload_n X (pc := 28) (q := 1) rfl (by decide +kernel)) <|
    zall_c (zs_iadd X (pc := 29) (by decide +kernel)) <|
    zall_c (zs_iret X (pc := 30) rfl (by decide +kernel)) <|
    zall_c (zs_bipush X (pc := 31) (by decide) (by decide +kernel) (by decide +kernel)) <|
    zall_c (zs_iload_n X (pc := 33) (q := 2) rfl (by decide +kernel)) <|
    zall_c (zs_imul X (pc := 34) (by decide +kernel)) <|
    zall_c (zs_istore_n X (pc := 35) (q := 2) rfl (by decide) (by decide +kernel)) <|
    zall_c (zs_iinc X (pc := 36) (by decide) (by decide +kernel)) <|
    zall_c (zs_goto X (pc := 39) (off := (-23)) (by decide +kernel) (by decide)) <|
    zall_c (zs_bipush X (pc := 42) (by decide) (by decide +kernel) (by decide +kernel)) <|
    zall_c (zs_iload_n X (pc := 44) (q := 1) rfl (by decide +kernel)) <|
    zall_c (zs_iadd X (pc := 45) (by decide +kernel)) <|
    zall_c (zs_iret X (pc := 46) rfl (by decide +kernel)) <|
    zall_n
theorem met_J6_stringSize_0f7a4 {l : Launch} (hl : l.stackTraces = false) {T : ZTf} (bd : zBd (cd_J6_stringSize_0f7a4) 4 0 0 T) : zMet l yJ6_stringSize_0f7a4 (Cond.code yJ6_stringSize_0f7a4 cJ6_stringSize_0f7a4 4 (Option.some Jvm.ClassFile.FieldType.int) :: zG) rm_J6_stringSize_0f7a4 0 0 T := zMet_of hl (by decide +kernel) rfl rfl rfl rfl (hs_J6_stringSize_0f7a4 hl) bd

abbrev rm_J6_bitCount_0f7a4 : Room := { frames := 1, cells := 0, slots := 0, locals := 30 }
def cd_J6_bitCount_0f7a4 : List (Nat × ZTr) := [(0, tIld 0 1), (1, tIld 0 2), (2, tC (zi 1) 3), (3, tBif zushr 4), (4, tC (zi 1431655765) 7), (7, tBif zand 8), (8, tSub 9), (9, tIst 0 10), (10, tIld 0 11), (11, tC (zi 858993459) 14), (14, tBif zand 15), (15, tIld 0 16), (16, tC (zi 2) 17), (17, tBif zushr 18), (18, tC (zi 858993459) 21), (21, tBif zand 22), (22, tAdd 23), (23, tIst 0 24), (24, tIld 0 25), (25, tIld 0 26), (26, tC (zi 4) 27), (27, tBif zushr 28), (28, tAdd 29), (29, tC (zi 252645135) 32), (32, tBif zand 33), (33, tIst 0 34), (34, tIld 0 35), (35, tIld 0 36), (36, tC (zi 8) 38), (38, tBif zushr 39), (39, tAdd 40), (40, tIst 0 41), (41, tIld 0 42), (42, tIld 0 43), (43, tC (zi 16) 45), (45, tBif zushr 46), (46, tAdd 47), (47, tIst 0 48), (48, tIld 0 49), (49, tC (zi 63) 51), (51, tBif zand 52), (52, tRi (fun _ => True))]
set_option maxRecDepth 100000 in
set_option maxHeartbeats 4000000 in
theorem hs_J6_bitCount_0f7a4 {l : Launch} (hl : l.stackTraces = false) (p : Program) (e : Env) (s : State) (m : MethodId) (args : Array Value) (below : List Frame) (meth : Method) (c : Code) (D : va_G) (A : Nat → Prop) (a0 : Nat → Nat) (M0 : ZM) (K : ZRet) (KX : ZEx) (X : zCtx p l rm_J6_bitCount_0f7a4 s m args meth c cJ6_bitCount_0f7a4 RJ6 (Cond.code yJ6_bitCount_0f7a4 cJ6_bitCount_0f7a4 1 (Option.some Jvm.ClassFile.FieldType.int) :: zG) 1 (Option.some Jvm.ClassFile.FieldType.int) D A a0 M0 0 0) (hnm : meth.name = yJ6_bitCount_0f7a4.name) (hout : ∀ x ∈ c.exceptionTable.toList, False) : ∀ q ∈ cd_J6_bitCount_0f7a4, zSd p l e rm_J6_bitCount_0f7a4 s m args below meth c 1 D A a0 M0 K KX 0 0 q.1 q.2 :=
    zall_c (zs_iload_n X (pc := 0) (q := 0) rfl (by decide +kernel)) <|
    zall_c (zs_iload_n X (pc := 1) (q := 0) rfl (by decide +kernel)) <|
    zall_c (zs_iconst X (pc := 2) (by decide) (by decide +kernel)) <|
    zall_c (zs_iushr X (pc := 3) (by decide +kernel)) <|
    zall_c (zs_ldciw X (pc := 4) (i := 265) (by decide) (by decide +kernel) (.tail _ gw_5_42)) <|
    zall_c (zs_iand X (pc := 7) (by decide +kernel)) <|
    zall_c (zs_isub X (pc := 8) (by decide +kernel)) <|
    zall_c (zs_istore_n X (pc := 9) (q := 0) rfl (by decide) (by decide +kernel)) <|
    zall_c (zs_iload_n X (pc := 10) (q := 0) rfl (by decide +kernel)) <|
    zall_c (zs_ldciw X (pc := 11) (i := 266) (by decide) (by decide +kernel) (.tail _ gw_5_43)) <|
    zall_c (zs_iand X (pc := 14) (by decide +kernel)) <|
    zall_c (zs_iload_n X (pc := 15) (q := 0) rfl (by decide +kernel)) <|
    zall_c (zs_iconst X (pc := 16) (by decide) (by decide +kernel)) <|
    zall_c (zs_iushr X (pc := 17) (by decide +kernel)) <|
    zall_c (zs_ldciw X (pc := 18) (i := 266) (by decide) (by decide +kernel) (.tail _ gw_5_43)) <|
    zall_c (zs_iand X (pc := 21) (by decide +kernel)) <|
    zall_c (zs_iadd X (pc := 22) (by decide +kernel)) <|
    zall_c (zs_istore_n X (pc := 23) (q := 0) rfl (by decide) (by decide +kernel)) <|
    zall_c (zs_iload_n X (pc := 24) (q := 0) rfl (by decide +kernel)) <|
    zall_c (zs_iload_n X (pc := 25) (q := 0) rfl (by decide +kernel)) <|
    zall_c (zs_iconst X (pc := 26) (by decide) (by decide +kernel)) <|
    zall_c (zs_iushr X (pc := 27) (by decide +kernel)) <|
    zall_c (zs_iadd X (pc := 28) (by decide +kernel)) <|
    zall_c (zs_ldciw X (pc := 29) (i := 267) (by decide) (by decide +kernel) (.tail _ gw_5_44)) <|
    zall_c (zs_iand X (pc := 32) (by decide +kernel)) <|
    zall_c (zs_istore_n X (pc := 33) (q := 0) rfl (by decide) (by decide +kernel)) <|
    zall_c (zs_iload_n X (pc := 34) (q := 0) rfl (by decide +kernel)) <|
    zall_c (zs_iload_n X (pc := 35) (q := 0) rfl (by decide +kernel)) <|
    zall_c (zs_bipush X (pc := 36) (by decide) (by decide +kernel) (by decide +kernel)) <|
    zall_c (zs_iushr X (pc := 38) (by decide +kernel)) <|
    zall_c (zs_iadd X (pc := 39) (by decide +kernel)) <|
    zall_c (zs_istore_n X (pc := 40) (q := 0) rfl (by decide) (by decide +kernel)) <|
    zall_c (zs_iload_n X (pc := 41) (q := 0) rfl (by decide +kernel)) <|
    zall_c (zs_iload_n X (pc := 42) (q := 0) rfl (by decide +kernel)) <|
    zall_c (zs_bipush X (pc := 43) (by decide) (by decide +kernel) (by decide +kernel)) <|
    zall_c (zs_iushr X (pc := 45) (by decide +kernel)) <|
    zall_c (zs_iadd X (pc := 46) (by decide +kernel)) <|
    zall_c (zs_istore_n X (pc := 47) (q := 0) rfl (by decide) (by decide +kernel)) <|
    zall_c (zs_iload_n X (pc := 48) (q := 0) rfl (by decide +kernel)) <|
    zall_c (zs_bipush X (pc := 49) (by decide) (by decide +kernel) (by decide +kernel)) <|
    zall_c (zs_iand X (pc := 51) (by decide +kernel)) <|
    zall_c (zs_iret X (pc := 52) rfl (by decide +kernel)) <|
    zall_n
theorem met_J6_bitCount_0f7a4 {l : Launch} (hl : l.stackTraces = false) {T : ZTf} (bd : zBd (cd_J6_bitCount_0f7a4) 1 0 0 T) : zMet l yJ6_bitCount_0f7a4 (Cond.code yJ6_bitCount_0f7a4 cJ6_bitCount_0f7a4 1 (Option.some Jvm.ClassFile.FieldType.int) :: zG) rm_J6_bitCount_0f7a4 0 0 T := zMet_of hl (by decide +kernel) rfl rfl rfl rfl (hs_J6_bitCount_0f7a4 hl) bd

abbrev rm_J0_coder_7d493 : Room := { frames := 1, cells := 0, slots := 0, locals := 30 }
def cd_J0_coder_7d493 : List (Nat × ZTr) := [(0, tC (zi 1) 3), (3, tIf_eq 13 6), (6, tAld 0 7), (7, tGsC 10), (10, tGo 14), (13, tC (zi 1) 14), (14, tRi zPb)]
set_option maxRecDepth 100000 in
set_option maxHeartbeats 4000000 in
theorem hs_J0_coder_7d493 {l : Launch} (hl : l.stackTraces = false) (p : Program) (e : Env) (s : State) (m : MethodId) (args : Array Value) (below : List Frame) (meth : Method) (c : Code) (D : va_G) (A : Nat → Prop) (a0 : Nat → Nat) (M0 : ZM) (K : ZRet) (KX : ZEx) (X : zCtx p l rm_J0_coder_7d493 s m args meth c cJ0_coder_7d493 RJ0 (Cond.code yJ0_coder_7d493 cJ0_coder_7d493 1 (Option.some Jvm.ClassFile.FieldType.byte) :: zG) 1 (Option.some Jvm.ClassFile.FieldType.byte) D A a0 M0 0 0) (hnm : meth.name = yJ0_coder_7d493.name) (hout : ∀ x ∈ c.exceptionTable.toList, False) : ∀ q ∈ cd_J0_coder_7d493, zSd p l e rm_J0_coder_7d493 s m args below meth c 1 D A a0 M0 K KX 0 0 q.1 q.2 :=
    zall_c (zs_gets X (pc := 0) (C := "java/lang/String") (n1 := "COMPACT_STRINGS") (d1 := "Z") (List.mem_of_getElem? (i := 12) rfl) (.tail _ gw_2_208) (by decide +kernel)) <|
    zall_c (zs_if_eq X (pc := 3) (off := 10) (by decide +kernel) (by decide)) <|
    zall_c (zs_aload_n X (pc := 6) (q := 0) rfl (by decide +kernel)) <|
    zall_c (zs_gsc X (pc := 7) (zin ui_J0) (.tail _ gw_4_77) (by decide +kernel)) <|
    zall_c (zs_goto X (pc := 10) (off := 4) (by decide +kernel) (by decide)) <|
    zall_c (zs_iconst X (pc := 13) (by decide) (by decide +kernel)) <|
    zall_c (zs_zret X (pc := 14) rfl zR_byte (by decide +kernel)) <|
    zall_n
theorem met_J0_coder_7d493 {l : Launch} (hl : l.stackTraces = false) {T : ZTf} (bd : zBd (cd_J0_coder_7d493) 1 0 0 T) : zMet l yJ0_coder_7d493 (Cond.code yJ0_coder_7d493 cJ0_coder_7d493 1 (Option.some Jvm.ClassFile.FieldType.byte) :: zG) rm_J0_coder_7d493 0 0 T := zMet_of hl (by decide +kernel) rfl rfl rfl rfl (hs_J0_coder_7d493 hl) bd

abbrev rm_J0_isLatin1_aae02 : Room := { frames := 1, cells := 0, slots := 0, locals := 30 }
def cd_J0_isLatin1_aae02 : List (Nat × ZTr) := [(0, tC (zi 1) 3), (3, tIf_eq 17 6), (6, tAld 0 7), (7, tGsC 10), (10, tIf_ne 17 13), (13, tC (zi 1) 14), (14, tGo 18), (17, tC (zi 0) 18), (18, tRi zPz)]
set_option maxRecDepth 100000 in
set_option maxHeartbeats 4000000 in
theorem hs_J0_isLatin1_aae02 {l : Launch} (hl : l.stackTraces = false) (p : Program) (e : Env) (s : State) (m : MethodId) (args : Array Value) (below : List Frame) (meth : Method) (c : Code) (D : va_G) (A : Nat → Prop) (a0 : Nat → Nat) (M0 : ZM) (K : ZRet) (KX : ZEx) (X : zCtx p l rm_J0_isLatin1_aae02 s m args meth c cJ0_isLatin1_aae02 RJ0 (Cond.code yJ0_isLatin1_aae02 cJ0_isLatin1_aae02 1 (Option.some Jvm.ClassFile.FieldType.boolean) :: zG) 1 (Option.some Jvm.ClassFile.FieldType.boolean) D A a0 M0 0 0) (hnm : meth.name = yJ0_isLatin1_aae02.name) (hout : ∀ x ∈ c.exceptionTable.toList, False) : ∀ q ∈ cd_J0_isLatin1_aae02, zSd p l e rm_J0_isLatin1_aae02 s m args below meth c 1 D A a0 M0 K KX 0 0 q.1 q.2 :=
    zall_c (zs_gets X (pc := 0) (C := "java/lang/String") (n1 := "COMPACT_STRINGS") (d1 := "Z") (List.mem_of_getElem? (i := 12) rfl) (.tail _ gw_2_208) (by decide +kernel)) <|
    zall_c (zs_if_eq X (pc := 3) (off := 14) (by decide +kernel) (by decide)) <|
    zall_c (zs_aload_n X (pc := 6) (q := 0) rfl (by decide +kernel)) <|
    zall_c (zs_gsc X (pc := 7) (zin ui_J0) (.tail _ gw_4_77) (by decide +kernel)) <|
    zall_c (zs_if_ne X (pc := 10) (off := 7) (by decide +kernel) (by decide)) <|
    zall_c (zs_iconst X (pc := 13) (by decide) (by decide +kernel)) <|
    zall_c (zs_goto X (pc := 14) (off := 4) (by decide +kernel) (by decide)) <|
    zall_c (zs_iconst X (pc := 17) (by decide) (by decide +kernel)) <|
    zall_c (zs_zret X (pc := 18) rfl zR_bool (by decide +kernel)) <|
    zall_n
theorem met_J0_isLatin1_aae02 {l : Launch} (hl : l.stackTraces = false) {T : ZTf} (bd : zBd (cd_J0_isLatin1_aae02) 1 0 0 T) : zMet l yJ0_isLatin1_aae02 (Cond.code yJ0_isLatin1_aae02 cJ0_isLatin1_aae02 1 (Option.some Jvm.ClassFile.FieldType.boolean) :: zG) rm_J0_isLatin1_aae02 0 0 T := zMet_of hl (by decide +kernel) rfl rfl rfl rfl (hs_J0_isLatin1_aae02 hl) bd

abbrev rm_J4_init_da8c8 : Room := { frames := 2, cells := 1, slots := 16, locals := 51 }
def cd_J4_init_da8c8 (T0 : ZTf) : List (Nat × ZTr) := [(0, tAld 0 1), (1, tC (zi 16) 3), (3, tCall 2 1 16 (zNt T0) (zRcv 1) 6), (6, tRv)]
set_option maxRecDepth 100000 in
set_option maxHeartbeats 4000000 in
theorem hs_J4_init_da8c8 {l : Launch} (hl : l.stackTraces = false) {T0 : ZTf} (h0 : zMet l yJ5_init_d00df (Cond.code yJ5_init_d00df cJ5_init_d00df 2 (Option.none : Option Jvm.ClassFile.FieldType) :: zG) rm_J5_init_d00df 1 16 T0) (p : Program) (e : Env) (s : State) (m : MethodId) (args : Array Value) (below : List Frame) (meth : Method) (c : Code) (D : va_G) (A : Nat → Prop) (a0 : Nat → Nat) (M0 : ZM) (K : ZRet) (KX : ZEx) (X : zCtx p l rm_J4_init_da8c8 s m args meth c cJ4_init_da8c8 RJ4 (Cond.code yJ4_init_da8c8 cJ4_init_da8c8 1 (Option.none : Option Jvm.ClassFile.FieldType) :: zG) 1 (Option.none : Option Jvm.ClassFile.FieldType) D A a0 M0 1 16) (hnm : meth.name = yJ4_init_da8c8.name) (hout : ∀ x ∈ c.exceptionTable.toList, False) : ∀ q ∈ cd_J4_init_da8c8 T0, zSd p l e rm_J4_init_da8c8 s m args below meth c 1 D A a0 M0 K KX 1 16 q.1 q.2 :=
    zall_c (zs_aload_n X (pc := 0) (q := 0) rfl (by decide +kernel)) <|
    zall_c (zs_bipush X (pc := 1) (by decide) (by decide +kernel) (by decide +kernel)) <|
    zall_c (zs_callI X (pc := 3) (rt := none) (fun _ ht => ⟨(zCB ht gw_1_60 gw_1_4 gw_1_58 rfl rfl (by decide +kernel) ⟨Nat.le_of_ble_eq_true rfl, Nat.le_of_ble_eq_true rfl⟩), rfl, ht _ (.tail _ gw_1_59)⟩) h0 (by decide +kernel)) <|
    zall_c (zs_vret X (pc := 6) rfl (by decide +kernel)) <|
    zall_n
theorem met_J4_init_da8c8 {l : Launch} (hl : l.stackTraces = false) {T0 : ZTf} (h0 : zMet l yJ5_init_d00df (Cond.code yJ5_init_d00df cJ5_init_d00df 2 (Option.none : Option Jvm.ClassFile.FieldType) :: zG) rm_J5_init_d00df 1 16 T0) {T : ZTf} (bd : zBd (cd_J4_init_da8c8 T0) 1 1 16 T) : zMet l yJ4_init_da8c8 (Cond.code yJ4_init_da8c8 cJ4_init_da8c8 1 (Option.none : Option Jvm.ClassFile.FieldType) :: zG) rm_J4_init_da8c8 1 16 T := zMet_of hl (by decide +kernel) rfl rfl rfl rfl (hs_J4_init_da8c8 hl h0) bd

abbrev rm_J4_length_8abf5 : Room := { frames := 2, cells := 0, slots := 0, locals := 50 }
def cd_J4_length_8abf5 (T0 : ZTf) : List (Nat × ZTr) := [(0, tAld 0 1), (1, tCall 1 0 0 (zNt T0) (zRcv 1) 4), (4, tRi (fun _ => True))]
set_option maxRecDepth 100000 in
set_option maxHeartbeats 4000000 in
theorem hs_J4_length_8abf5 {l : Launch} (hl : l.stackTraces = false) {T0 : ZTf} (h0 : zMet l yJ5_length_8abf5 (Cond.code yJ5_length_8abf5 cJ5_length_8abf5 1 (Option.some Jvm.ClassFile.FieldType.int) :: zG) rm_J5_length_8abf5 0 0 T0) (p : Program) (e : Env) (s : State) (m : MethodId) (args : Array Value) (below : List Frame) (meth : Method) (c : Code) (D : va_G) (A : Nat → Prop) (a0 : Nat → Nat) (M0 : ZM) (K : ZRet) (KX : ZEx) (X : zCtx p l rm_J4_length_8abf5 s m args meth c cJ4_length_8abf5 RJ4 (Cond.code yJ4_length_8abf5 cJ4_length_8abf5 1 (Option.some Jvm.ClassFile.FieldType.int) :: zG) 1 (Option.some Jvm.ClassFile.FieldType.int) D A a0 M0 0 0) (hnm : meth.name = yJ4_length_8abf5.name) (hout : ∀ x ∈ c.exceptionTable.toList, False) : ∀ q ∈ cd_J4_length_8abf5 T0, zSd p l e rm_J4_length_8abf5 s m args below meth c 1 D A a0 M0 K KX 0 0 q.1 q.2 :=
    zall_c (zs_aload_n X (pc := 0) (q := 0) rfl (by decide +kernel)) <|
    zall_c (zs_callSU X (pc := 1) zc_J4 (fun _ ht => (zCSU ht gw_3_220 gw_1_4 gw_3_219 gw_3_215 gw_1_84 gw_3_214 rfl rfl (by decide +kernel) ⟨Nat.le_of_ble_eq_true rfl, Nat.le_of_ble_eq_true rfl⟩)) h0 (by decide +kernel)) <|
    zall_c (zs_iret X (pc := 4) rfl (by decide +kernel)) <|
    zall_n
theorem met_J4_length_8abf5 {l : Launch} (hl : l.stackTraces = false) {T0 : ZTf} (h0 : zMet l yJ5_length_8abf5 (Cond.code yJ5_length_8abf5 cJ5_length_8abf5 1 (Option.some Jvm.ClassFile.FieldType.int) :: zG) rm_J5_length_8abf5 0 0 T0) {T : ZTf} (bd : zBd (cd_J4_length_8abf5 T0) 1 0 0 T) : zMet l yJ4_length_8abf5 (Cond.code yJ4_length_8abf5 cJ4_length_8abf5 1 (Option.some Jvm.ClassFile.FieldType.int) :: zG) rm_J4_length_8abf5 0 0 T := zMet_of hl (by decide +kernel) rfl rfl rfl rfl (hs_J4_length_8abf5 hl h0) bd

abbrev rm_J1_canEncode_fc78d : Room := { frames := 1, cells := 0, slots := 0, locals := 30 }
def cd_J1_canEncode_fc78d : List (Nat × ZTr) := [(0, tIld 0 1), (1, tC (zi 255) 4), (4, tIc_gt 11 7), (7, tC (zi 1) 8), (8, tGo 12), (11, tC (zi 0) 12), (12, tRi zPz)]
set_option maxRecDepth 100000 in
set_option maxHeartbeats 4000000 in
theorem hs_J1_canEncode_fc78d {l : Launch} (hl : l.stackTraces = false) (p : Program) (e : Env) (s : State) (m : MethodId) (args : Array Value) (below : List Frame) (meth : Method) (c : Code) (D : va_G) (A : Nat → Prop) (a0 : Nat → Nat) (M0 : ZM) (K : ZRet) (KX : ZEx) (X : zCtx p l rm_J1_canEncode_fc78d s m args meth c cJ1_canEncode_fc78d RJ1 (Cond.code yJ1_canEncode_fc78d cJ1_canEncode_fc78d 1 (Option.some Jvm.ClassFile.FieldType.boolean) :: zG) 1 (Option.some Jvm.ClassFile.FieldType.boolean) D A a0 M0 0 0) (hnm : meth.name = yJ1_canEncode_fc78d.name) (hout : ∀ x ∈ c.exceptionTable.toList, False) : ∀ q ∈ cd_J1_canEncode_fc78d, zSd p l e rm_J1_canEncode_fc78d s m args below meth c 1 D A a0 M0 K KX 0 0 q.1 q.2 :=
    zall_c (zs_iload_n X (pc := 0) (q := 0) rfl (by decide +kernel)) <|
    zall_c (zs_sipush X (pc := 1) (by decide) (by decide +kernel) (by decide +kernel)) <|
    zall_c (zs_icmp_gt X (pc := 4) (off := 7) (by decide +kernel) (by decide)) <|
    zall_c (zs_iconst X (pc := 7) (by decide) (by decide +kernel)) <|
    zall_c (zs_goto X (pc := 8) (off := 4) (by decide +kernel) (by decide)) <|
    zall_c (zs_iconst X (pc := 11) (by decide) (by decide +kernel)) <|
    zall_c (zs_zret X (pc := 12) rfl zR_bool (by decide +kernel)) <|
    zall_n
theorem met_J1_canEncode_fc78d {l : Launch} (hl : l.stackTraces = false) {T : ZTf} (bd : zBd (cd_J1_canEncode_fc78d) 1 0 0 T) : zMet l yJ1_canEncode_fc78d (Cond.code yJ1_canEncode_fc78d cJ1_canEncode_fc78d 1 (Option.some Jvm.ClassFile.FieldType.boolean) :: zG) rm_J1_canEncode_fc78d 0 0 T := zMet_of hl (by decide +kernel) rfl rfl rfl rfl (hs_J1_canEncode_fc78d hl) bd

abbrev rm_J2_length_9d52b : Room := { frames := 1, cells := 0, slots := 0, locals := 30 }
def cd_J2_length_9d52b : List (Nat × ZTr) := [(0, tAld 0 1), (1, tLen 2), (2, tC (zi 1) 3), (3, tBif zshr 4), (4, tRi (fun _ => True))]
set_option maxRecDepth 100000 in
set_option maxHeartbeats 4000000 in
theorem hs_J2_length_9d52b {l : Launch} (hl : l.stackTraces = false) (p : Program) (e : Env) (s : State) (m : MethodId) (args : Array Value) (below : List Frame) (meth : Method) (c : Code) (D : va_G) (A : Nat → Prop) (a0 : Nat → Nat) (M0 : ZM) (K : ZRet) (KX : ZEx) (X : zCtx p l rm_J2_length_9d52b s m args meth c cJ2_length_9d52b RJ2 (Cond.code yJ2_length_9d52b cJ2_length_9d52b 1 (Option.some Jvm.ClassFile.FieldType.int) :: zG) 1 (Option.some Jvm.ClassFile.FieldType.int) D A a0 M0 0 0) (hnm : meth.name = yJ2_length_9d52b.name) (hout : ∀ x ∈ c.exceptionTable.toList, False) : ∀ q ∈ cd_J2_length_9d52b, zSd p l e rm_J2_length_9d52b s m args below meth c 1 D A a0 M0 K KX 0 0 q.1 q.2 :=
    zall_c (zs_aload_n X (pc := 0) (q := 0) rfl (by decide +kernel)) <|
    zall_c (zs_len X (pc := 1) (by decide +kernel)) <|
    zall_c (zs_iconst X (pc := 2) (by decide) (by decide +kernel)) <|
    zall_c (zs_ishr X (pc := 3) (by decide +kernel)) <|
    zall_c (zs_iret X (pc := 4) rfl (by decide +kernel)) <|
    zall_n
theorem met_J2_length_9d52b {l : Launch} (hl : l.stackTraces = false) {T : ZTf} (bd : zBd (cd_J2_length_9d52b) 1 0 0 T) : zMet l yJ2_length_9d52b (Cond.code yJ2_length_9d52b cJ2_length_9d52b 1 (Option.some Jvm.ClassFile.FieldType.int) :: zG) rm_J2_length_9d52b 0 0 T := zMet_of hl (by decide +kernel) rfl rfl rfl rfl (hs_J2_length_9d52b hl) bd

abbrev rm_J2_coderFromArrayLen_85cad : Room := { frames := 1, cells := 0, slots := 0, locals := 30 }
def cd_J2_coderFromArrayLen_85cad : List (Nat × ZTr) := [(0, tIld 1 1), (1, tAld 0 2), (2, tLen 3), (3, tSub 4), (4, tC (zi 31) 6), (6, tBif zushr 7), (7, tUn zi2b 8), (8, tRi zPb)]
set_option maxRecDepth 100000 in
set_option maxHeartbeats 4000000 in
theorem hs_J2_coderFromArrayLen_85cad {l : Launch} (hl : l.stackTraces = false) (p : Program) (e : Env) (s : State) (m : MethodId) (args : Array Value) (below : List Frame) (meth : Method) (c : Code) (D : va_G) (A : Nat → Prop) (a0 : Nat → Nat) (M0 : ZM) (K : ZRet) (KX : ZEx) (X : zCtx p l rm_J2_coderFromArrayLen_85cad s m args meth c cJ2_coderFromArrayLen_85cad RJ2 (Cond.code yJ2_coderFromArrayLen_85cad cJ2_coderFromArrayLen_85cad 2 (Option.some Jvm.ClassFile.FieldType.byte) :: zG) 2 (Option.some Jvm.ClassFile.FieldType.byte) D A a0 M0 0 0) (hnm : meth.name = yJ2_coderFromArrayLen_85cad.name) (hout : ∀ x ∈ c.exceptionTable.toList, False) : ∀ q ∈ cd_J2_coderFromArrayLen_85cad, zSd p l e rm_J2_coderFromArrayLen_85cad s m args below meth c 2 D A a0 M0 K KX 0 0 q.1 q.2 :=
    zall_c (zs_iload_n X (pc := 0) (q := 1) rfl (by decide +kernel)) <|
    zall_c (zs_aload_n X (pc := 1) (q := 0) rfl (by decide +kernel)) <|
    zall_c (zs_len X (pc := 2) (by decide +kernel)) <|
    zall_c (zs_isub X (pc := 3) (by decide +kernel)) <|
    zall_c (zs_bipush X (pc := 4) (by decide) (by decide +kernel) (by decide +kernel)) <|
    zall_c (zs_iushr X (pc := 6) (by decide +kernel)) <|
    zall_c (zs_i2b X (pc := 7) (by decide +kernel)) <|
    zall_c (zs_zret X (pc := 8) rfl zR_byte (by decide +kernel)) <|
    zall_n
theorem met_J2_coderFromArrayLen_85cad {l : Launch} (hl : l.stackTraces = false) {T : ZTf} (bd : zBd (cd_J2_coderFromArrayLen_85cad) 2 0 0 T) : zMet l yJ2_coderFromArrayLen_85cad (Cond.code yJ2_coderFromArrayLen_85cad cJ2_coderFromArrayLen_85cad 2 (Option.some Jvm.ClassFile.FieldType.byte) :: zG) rm_J2_coderFromArrayLen_85cad 0 0 T := zMet_of hl (by decide +kernel) rfl rfl rfl rfl (hs_J2_coderFromArrayLen_85cad hl) bd

abbrev rm_J7_fill_53178 : Room := { frames := 1, cells := 0, slots := 0, locals := 30 }
def cd_J7_fill_53178 : List (Nat × ZTr) := [(0, tC (zi 0) 1), (1, tIst 2 2), (2, tAld 0 3), (3, tLen 4), (4, tIst 3 5), (5, tIld 2 6), (6, tIld 3 7), (7, tIc_ge 20 10), (10, tAld 0 11), (11, tIld 2 12), (12, tIld 1 13), (13, tIas 20 (fun _ => True) 14), (14, tInc 2 1 17), (17, tGo 5), (20, tRv)]
set_option maxRecDepth 100000 in
set_option maxHeartbeats 4000000 in
theorem hs_J7_fill_53178 {l : Launch} (hl : l.stackTraces = false) (p : Program) (e : Env) (s : State) (m : MethodId) (args : Array Value) (below : List Frame) (meth : Method) (c : Code) (D : va_G) (A : Nat → Prop) (a0 : Nat → Nat) (M0 : ZM) (K : ZRet) (KX : ZEx) (X : zCtx p l rm_J7_fill_53178 s m args meth c cJ7_fill_53178 RJ7 (Cond.code yJ7_fill_53178 cJ7_fill_53178 4 (Option.none : Option Jvm.ClassFile.FieldType) :: zG) 4 (Option.none : Option Jvm.ClassFile.FieldType) D A a0 M0 0 0) (hnm : meth.name = yJ7_fill_53178.name) (hout : ∀ x ∈ c.exceptionTable.toList, False) : ∀ q ∈ cd_J7_fill_53178, zSd p l e rm_J7_fill_53178 s m args below meth c 4 D A a0 M0 K KX 0 0 q.1 q.2 :=
    zall_c (zs_iconst X (pc := 0) (by decide) (by decide +kernel)) <|
    zall_c (zs_istore_n X (pc := 1) (q := 2) rfl (by decide) (by decide +kernel)) <|
    zall_c (zs_aload_n X (pc := 2) (q := 0) rfl (by decide +kernel)) <|
    zall_c (zs_len X (pc := 3) (by decide +kernel)) <|
    zall_c (zs_istore_n X (pc := 4) (q := 3) rfl (by decide) (by decide +kernel)) <|
    zall_c (zs_iload_n X (pc := 5) (q := 2) rfl (by decide +kernel)) <|
    zall_c (zs_iload_n X (pc := 6) (q := 3) rfl (by decide +kernel)) <|
    zall_c (zs_icmp_ge X (pc := 7) (off := 13) (by decide +kernel) (by decide)) <|
    zall_c (zs_aload_n X (pc := 10) (q := 0) rfl (by decide +kernel)) <|
    zall_c (zs_iload_n X (pc := 11) (q := 2) rfl (by decide +kernel)) <|
    zall_c (zs_iload_n X (pc := 12) (q := 1) rfl (by decide +kernel)) <|
    zall_c (zs_iastore20 X (pc := 13) (by decide +kernel)) <|
    zall_c (zs_iinc X (pc := 14) (by decide) (by decide +kernel)) <|
    zall_c (zs_goto X (pc := 17) (off := (-12)) (by decide +kernel) (by decide)) <|
    zall_c (zs_vret X (pc := 20) rfl (by decide +kernel)) <|
    zall_n
theorem met_J7_fill_53178 {l : Launch} (hl : l.stackTraces = false) {T : ZTf} (bd : zBd (cd_J7_fill_53178) 4 0 0 T) : zMet l yJ7_fill_53178 (Cond.code yJ7_fill_53178 cJ7_fill_53178 4 (Option.none : Option Jvm.ClassFile.FieldType) :: zG) rm_J7_fill_53178 0 0 T := zMet_of hl (by decide +kernel) rfl rfl rfl rfl (hs_J7_fill_53178 hl) bd

abbrev rm_J7_copyOf_9075b (a b : Nat) : Room := { frames := 1, cells := a, slots := b, locals := 60 }
def cd_J7_copyOf_9075b : List (Nat × ZTr) := [(0, tIld 1 1), (1, tAld 0 2), (2, tLen 3), (3, tIc_ne 14 6), (6, tNo), (7, tNo), (10, tNo), (13, tNo), (14, tIld 1 15), (15, tNewA 21 17), (17, tAst 2 18), (18, tAld 0 19), (19, tC (zi 0) 20), (20, tAld 2 21), (21, tC (zi 0) 22), (22, tAld 0 23), (23, tLen 24), (24, tIld 1 25), (25, tMth2 zmin 28), (28, tCpy 21 zPb 31), (31, tAld 2 32), (32, tRa)]
set_option maxRecDepth 100000 in
set_option maxHeartbeats 4000000 in
theorem hs_J7_copyOf_9075b {l : Launch} (hl : l.stackTraces = false) {a b : Nat} (p : Program) (e : Env) (s : State) (m : MethodId) (args : Array Value) (below : List Frame) (meth : Method) (c : Code) (D : va_G) (A : Nat → Prop) (a0 : Nat → Nat) (M0 : ZM) (K : ZRet) (KX : ZEx) (X : zCtx p l (rm_J7_copyOf_9075b a b) s m args meth c cJ7_copyOf_9075b RJ7 (Cond.code yJ7_copyOf_9075b cJ7_copyOf_9075b 3 (Option.some (Jvm.ClassFile.FieldType.array Jvm.ClassFile.FieldType.byte)) :: zG) 3 (Option.some (Jvm.ClassFile.FieldType.array Jvm.ClassFile.FieldType.byte)) D A a0 M0 a b) (hnm : meth.name = yJ7_copyOf_9075b.name) (hout : ∀ x ∈ c.exceptionTable.toList, False) : ∀ q ∈ cd_J7_copyOf_9075b, zSd p l e (rm_J7_copyOf_9075b a b) s m args below meth c 3 D A a0 M0 K KX a b q.1 q.2 :=
    zall_c (zs_iload_n X (pc := 0) (q := 1) rfl (by decide +kernel)) <|
    zall_c (zs_aload_n X (pc := 1) (q := 0) rfl (by decide +kernel)) <|
    zall_c (zs_len X (pc := 2) (by decide +kernel)) <|
    zall_c (zs_icmp_ne X (pc := 3) (off := 11) (by decide +kernel) (by decide)) <|
    zall_c (zs_no (pc := 6)) <|
    zall_c (zs_no (pc := 7)) <|
    zall_c (zs_no (pc := 10)) <|
    zall_c (zs_no (pc := 13)) <|
    zall_c (zs_iload_n X (pc := 14) (q := 1) rfl (by decide +kernel)) <|
    zall_c (zs_newarray21 X (pc := 15) (.tail _ gw_1_86) (by decide +kernel)) <|
    zall_c (zs_astore_n X (pc := 17) (q := 2) rfl (by decide) (by decide +kernel)) <|
    zall_c (zs_aload_n X (pc := 18) (q := 0) rfl (by decide +kernel)) <|
    zall_c (zs_iconst X (pc := 19) (by decide) (by decide +kernel)) <|
    zall_c (zs_aload_n X (pc := 20) (q := 2) rfl (by decide +kernel)) <|
    zall_c (zs_iconst X (pc := 21) (by decide) (by decide +kernel)) <|
    zall_c (zs_aload_n X (pc := 22) (q := 0) rfl (by decide +kernel)) <|
    zall_c (zs_len X (pc := 23) (by decide +kernel)) <|
    zall_c (zs_iload_n X (pc := 24) (q := 1) rfl (by decide +kernel)) <|
    zall_c (zs_mmin X (pc := 25) (.tail _ gw_3_109) (.tail _ gw_3_110) (.tail _ gw_1_27) (.tail _ gw_3_111) (Nat.le_of_ble_eq_true rfl) (Nat.le_of_ble_eq_true rfl) (by decide +kernel)) <|
    zall_c (zs_copy21 X (pc := 28) (.tail _ gw_3_112) (.tail _ gw_3_114) (.tail _ gw_3_113) (.tail _ gw_1_28) (Nat.le_of_ble_eq_true rfl) (by show 8 + (nativeFrameWords "java/lang/System" "arraycopy" 5 + 11) ≤ 60; decide +kernel) (by decide +kernel)) <|
    zall_c (zs_aload_n X (pc := 31) (q := 2) rfl (by decide +kernel)) <|
    zall_c (zs_aret X (pc := 32) rfl (Or.inr ⟨_, rfl⟩) (by decide +kernel)) <|
    zall_n
theorem met_J7_copyOf_9075b {l : Launch} (hl : l.stackTraces = false) {a b : Nat} {T : ZTf} (bd : zBd (cd_J7_copyOf_9075b) 3 a b T) : zMet l yJ7_copyOf_9075b (Cond.code yJ7_copyOf_9075b cJ7_copyOf_9075b 3 (Option.some (Jvm.ClassFile.FieldType.array Jvm.ClassFile.FieldType.byte)) :: zG) (rm_J7_copyOf_9075b a b) a b T := zMet_of hl (by decide +kernel) rfl rfl rfl rfl (hs_J7_copyOf_9075b hl) bd

abbrev rm_J7_checkLength_df160 : Room := { frames := 1, cells := 0, slots := 0, locals := 30 }
def cd_J7_checkLength_df160 : List (Nat × ZTr) := [(0, tIld 1 1), (1, tIld 0 2), (2, tIc_ge 37 5), (5, tNo), (8, tNo), (9, tNo), (12, tNo), (13, tNo), (16, tNo), (17, tNo), (20, tNo), (23, tNo), (26, tNo), (27, tNo), (30, tNo), (33, tNo), (36, tNo), (37, tRv)]
set_option maxRecDepth 100000 in
set_option maxHeartbeats 4000000 in
theorem hs_J7_checkLength_df160 {l : Launch} (hl : l.stackTraces = false) (p : Program) (e : Env) (s : State) (m : MethodId) (args : Array Value) (below : List Frame) (meth : Method) (c : Code) (D : va_G) (A : Nat → Prop) (a0 : Nat → Nat) (M0 : ZM) (K : ZRet) (KX : ZEx) (X : zCtx p l rm_J7_checkLength_df160 s m args meth c cJ7_checkLength_df160 RJ7 (Cond.code yJ7_checkLength_df160 cJ7_checkLength_df160 2 (Option.none : Option Jvm.ClassFile.FieldType) :: zG) 2 (Option.none : Option Jvm.ClassFile.FieldType) D A a0 M0 0 0) (hnm : meth.name = yJ7_checkLength_df160.name) (hout : ∀ x ∈ c.exceptionTable.toList, False) : ∀ q ∈ cd_J7_checkLength_df160, zSd p l e rm_J7_checkLength_df160 s m args below meth c 2 D A a0 M0 K KX 0 0 q.1 q.2 :=
    zall_c (zs_iload_n X (pc := 0) (q := 1) rfl (by decide +kernel)) <|
    zall_c (zs_iload_n X (pc := 1) (q := 0) rfl (by decide +kernel)) <|
    zall_c (zs_icmp_ge X (pc := 2) (off := 35) (by decide +kernel) (by decide)) <|
    zall_c (zs_no (pc := 5)) <|
    zall_c (zs_no (pc := 8)) <|
    zall_c (zs_no (pc := 9)) <|
    zall_c (zs_no (pc := 12)) <|
    zall_c (zs_no (pc := 13)) <|
    zall_c (zs_no (pc := 16)) <|
    zall_c (zs_no (pc := 17)) <|
    zall_c (zs_no (pc := 20)) <|
    zall_c (zs_no (pc := 23)) <|
    zall_c (zs_no (pc := 26)) <|
    zall_c (zs_no (pc := 27)) <|
    zall_c (zs_no (pc := 30)) <|
    zall_c (zs_no (pc := 33)) <|
    zall_c (zs_no (pc := 36)) <|
    zall_c (zs_vret X (pc := 37) rfl (by decide +kernel)) <|
    zall_n
theorem met_J7_checkLength_df160 {l : Launch} (hl : l.stackTraces = false) {T : ZTf} (bd : zBd (cd_J7_checkLength_df160) 2 0 0 T) : zMet l yJ7_checkLength_df160 (Cond.code yJ7_checkLength_df160 cJ7_checkLength_df160 2 (Option.none : Option Jvm.ClassFile.FieldType) :: zG) rm_J7_checkLength_df160 0 0 T := zMet_of hl (by decide +kernel) rfl rfl rfl rfl (hs_J7_checkLength_df160 hl) bd

abbrev rm_J7_copyOfRangeByte_39247 : Room := { frames := 2, cells := 1, slots := 6, locals := 60 }
def cd_J7_copyOfRangeByte_39247 (T0 : ZTf) : List (Nat × ZTr) := [(0, tIld 1 1), (1, tIld 2 2), (2, tCall0 2 T0 zAny 5), (5, tIld 2 6), (6, tIld 1 7), (7, tSub 8), (8, tIst 3 9), (9, tIld 3 10), (10, tNewA 21 12), (12, tAst 4 14), (14, tAld 0 15), (15, tIld 1 16), (16, tAld 4 18), (18, tC (zi 0) 19), (19, tAld 0 20), (20, tLen 21), (21, tIld 1 22), (22, tSub 23), (23, tIld 3 24), (24, tMth2 zmin 27), (27, tCpy 21 zPb 30), (30, tAld 4 32), (32, tRa)]
set_option maxRecDepth 100000 in
set_option maxHeartbeats 4000000 in
theorem hs_J7_copyOfRangeByte_39247 {l : Launch} (hl : l.stackTraces = false) {T0 : ZTf} (h0 : zMet l yJ7_checkLength_df160 (Cond.code yJ7_checkLength_df160 cJ7_checkLength_df160 2 (Option.none : Option Jvm.ClassFile.FieldType) :: zG) rm_J7_checkLength_df160 0 0 T0) (p : Program) (e : Env) (s : State) (m : MethodId) (args : Array Value) (below : List Frame) (meth : Method) (c : Code) (D : va_G) (A : Nat → Prop) (a0 : Nat → Nat) (M0 : ZM) (K : ZRet) (KX : ZEx) (X : zCtx p l rm_J7_copyOfRangeByte_39247 s m args meth c cJ7_copyOfRangeByte_39247 RJ7 (Cond.code yJ7_copyOfRangeByte_39247 cJ7_copyOfRangeByte_39247 5 (Option.some (Jvm.ClassFile.FieldType.array Jvm.ClassFile.FieldType.byte)) :: zG) 5 (Option.some (Jvm.ClassFile.FieldType.array Jvm.ClassFile.FieldType.byte)) D A a0 M0 1 6) (hnm : meth.name = yJ7_copyOfRangeByte_39247.name) (hout : ∀ x ∈ c.exceptionTable.toList, False) : ∀ q ∈ cd_J7_copyOfRangeByte_39247 T0, zSd p l e rm_J7_copyOfRangeByte_39247 s m args below meth c 5 D A a0 M0 K KX 1 6 q.1 q.2 :=
    zall_c (zs_iload_n X (pc := 0) (q := 1) rfl (by decide +kernel)) <|
    zall_c (zs_iload_n X (pc := 1) (q := 2) rfl (by decide +kernel)) <|
    zall_c (zs_callS0 X (pc := 2) (fun _ ht => ⟨(zCB ht gw_3_230 gw_1_19 gw_3_228 rfl rfl (by decide +kernel) ⟨Nat.le_of_ble_eq_true rfl, Nat.le_of_ble_eq_true rfl⟩), ht _ (.tail _ gw_3_229)⟩) h0 hout (by decide +kernel)) <|
    zall_c (zs_iload_n X (pc := 5) (q := 2) rfl (by decide +kernel)) <|
    zall_c (zs_iload_n X (pc := 6) (q := 1) rfl (by decide +kernel)) <|
    zall_c (zs_isub X (pc := 7) (by decide +kernel)) <|
    zall_c (zs_istore_n X (pc := 8) (q := 3) rfl (by decide) (by decide +kernel)) <|
    zall_c (zs_iload_n X (pc := 9) (q := 3) rfl (by decide +kernel)) <|
    zall_c (zs_newarray21 X (pc := 10) (.tail _ gw_1_86) (by decide +kernel)) <|
    zall_c (zs_astore X (pc := 12) (by decide) (by decide +kernel)) <|
    zall_c (zs_aload_n X (pc := 14) (q := 0) rfl (by decide +kernel)) <|
    zall_c (zs_iload_n X (pc := 15) (q := 1) rfl (by decide +kernel)) <|
    zall_c (zs_aload X (pc := 16) (by decide +kernel)) <|
    zall_c (zs_iconst X (pc := 18) (by decide) (by decide +kernel)) <|
    zall_c (zs_aload_n X (pc := 19) (q := 0) rfl (by decide +kernel)) <|
    zall_c (zs_len X (pc := 20) (by decide +kernel)) <|
    zall_c (zs_iload_n X (pc := 21) (q := 1) rfl (by decide +kernel)) <|
    zall_c (zs_isub X (pc := 22) (by decide +kernel)) <|
    zall_c (zs_iload_n X (pc := 23) (q := 3) rfl (by decide +kernel)) <|
    zall_c (zs_mmin X (pc := 24) (.tail _ gw_3_109) (.tail _ gw_3_110) (.tail _ gw_1_27) (.tail _ gw_3_111) (Nat.le_of_ble_eq_true rfl) (Nat.le_of_ble_eq_true rfl) (by decide +kernel)) <|
    zall_c (zs_copy21 X (pc := 27) (.tail _ gw_3_112) (.tail _ gw_3_114) (.tail _ gw_3_113) (.tail _ gw_1_28) (Nat.le_of_ble_eq_true rfl) (by show 8 + (nativeFrameWords "java/lang/System" "arraycopy" 5 + 11) ≤ 60; decide +kernel) (by decide +kernel)) <|
    zall_c (zs_aload X (pc := 30) (by decide +kernel)) <|
    zall_c (zs_aret X (pc := 32) rfl (Or.inr ⟨_, rfl⟩) (by decide +kernel)) <|
    zall_n
theorem met_J7_copyOfRangeByte_39247 {l : Launch} (hl : l.stackTraces = false) {T0 : ZTf} (h0 : zMet l yJ7_checkLength_df160 (Cond.code yJ7_checkLength_df160 cJ7_checkLength_df160 2 (Option.none : Option Jvm.ClassFile.FieldType) :: zG) rm_J7_checkLength_df160 0 0 T0) {T : ZTf} (bd : zBd (cd_J7_copyOfRangeByte_39247 T0) 5 1 6 T) : zMet l yJ7_copyOfRangeByte_39247 (Cond.code yJ7_copyOfRangeByte_39247 cJ7_copyOfRangeByte_39247 5 (Option.some (Jvm.ClassFile.FieldType.array Jvm.ClassFile.FieldType.byte)) :: zG) rm_J7_copyOfRangeByte_39247 1 6 T := zMet_of hl (by decide +kernel) rfl rfl rfl rfl (hs_J7_copyOfRangeByte_39247 hl h0) bd

abbrev rm_J8_newLength_cabcc : Room := { frames := 1, cells := 0, slots := 0, locals := 30 }
def cd_J8_newLength_cabcc : List (Nat × ZTr) := [(0, tIld 0 1), (1, tIld 1 2), (2, tIld 2 3), (3, tMth2 zmax 6), (6, tAdd 7), (7, tIst 3 8), (8, tC (zi 0) 9), (9, tIld 3 10), (10, tIc_ge 21 13), (13, tIld 3 14), (14, tC (zi 2147483639) 16), (16, tIc_gt 21 19), (19, tIld 3 20), (20, tRi (fun _ => True)), (21, tNo), (22, tNo), (23, tNo), (26, tNo)]
set_option maxRecDepth 100000 in
set_option maxHeartbeats 4000000 in
theorem hs_J8_newLength_cabcc {l : Launch} (hl : l.stackTraces = false) (p : Program) (e : Env) (s : State) (m : MethodId) (args : Array Value) (below : List Frame) (meth : Method) (c : Code) (D : va_G) (A : Nat → Prop) (a0 : Nat → Nat) (M0 : ZM) (K : ZRet) (KX : ZEx) (X : zCtx p l rm_J8_newLength_cabcc s m args meth c cJ8_newLength_cabcc RJ8 (Cond.code yJ8_newLength_cabcc cJ8_newLength_cabcc 4 (Option.some Jvm.ClassFile.FieldType.int) :: zG) 4 (Option.some Jvm.ClassFile.FieldType.int) D A a0 M0 0 0) (hnm : meth.name = yJ8_newLength_cabcc.name) (hout : ∀ x ∈ c.exceptionTable.toList, False) : ∀ q ∈ cd_J8_newLength_cabcc, zSd p l e rm_J8_newLength_cabcc s m args below meth c 4 D A a0 M0 K KX 0 0 q.1 q.2 :=
    zall_c (zs_iload_n X (pc := 0) (q := 0) rfl (by decide +kernel)) <|
    zall_c (zs_iload_n X (pc := 1) (q := 1) rfl (by decide +kernel)) <|
    zall_c (zs_iload_n X (pc := 2) (q := 2) rfl (by decide +kernel)) <|
    zall_c (zs_mmax X (pc := 3) (.tail _ gw_3_91) (.tail _ gw_3_92) (.tail _ gw_1_27) (.tail _ gw_3_93) (Nat.le_of_ble_eq_true rfl) (Nat.le_of_ble_eq_true rfl) (by decide +kernel)) <|
    zall_c (zs_iadd X (pc := 6) (by decide +kernel)) <|
    zall_c (zs_istore_n X (pc := 7) (q := 3) rfl (by decide) (by decide +kernel)) <|
    zall_c (zs_iconst X (pc := 8) (by decide) (by decide +kernel)) <|
    zall_c (zs_iload_n X (pc := 9) (q := 3) rfl (by decide +kernel)) <|
    zall_c (zs_icmp_ge X (pc := 10) (off := 11) (by decide +kernel) (by decide)) <|
    zall_c (zs_iload_n X (pc := 13) (q := 3) rfl (by decide +kernel)) <|
    zall_c (zs_ldci X (pc := 14) (i := 200) (by decide) (by decide +kernel) (.tail _ gw_3_94)) <|
    zall_c (zs_icmp_gt X (pc := 16) (off := 5) (by decide +kernel) (by decide)) <|
    zall_c (zs_iload_n X (pc := 19) (q := 3) rfl (by decide +kernel)) <|
    zall_c (zs_iret X (pc := 20) rfl (by decide +kernel)) <|
    zall_c (zs_no (pc := 21)) <|
    zall_c (zs_no (pc := 22)) <|
    zall_c (zs_no (pc := 23)) <|
    zall_c (zs_no (pc := 26)) <|
    zall_n
theorem met_J8_newLength_cabcc {l : Launch} (hl : l.stackTraces = false) {T : ZTf} (bd : zBd (cd_J8_newLength_cabcc) 4 0 0 T) : zMet l yJ8_newLength_cabcc (Cond.code yJ8_newLength_cabcc cJ8_newLength_cabcc 4 (Option.some Jvm.ClassFile.FieldType.int) :: zG) rm_J8_newLength_cabcc 0 0 T := zMet_of hl (by decide +kernel) rfl rfl rfl rfl (hs_J8_newLength_cabcc hl) bd

abbrev rm_J3_checkIndex_8e157 : Room := { frames := 1, cells := 0, slots := 0, locals := 30 }
def cd_J3_checkIndex_8e157 : List (Nat × ZTr) := [(0, tIld 0 1), (1, tIf_lt 9 4), (4, tIld 0 5), (5, tIld 1 6), (6, tIc_lt 16 9), (9, tNo), (10, tNo), (11, tNo), (12, tNo), (15, tNo), (16, tIld 0 17), (17, tRi (fun _ => True))]
set_option maxRecDepth 100000 in
set_option maxHeartbeats 4000000 in
theorem hs_J3_checkIndex_8e157 {l : Launch} (hl : l.stackTraces = false) (p : Program) (e : Env) (s : State) (m : MethodId) (args : Array Value) (below : List Frame) (meth : Method) (c : Code) (D : va_G) (A : Nat → Prop) (a0 : Nat → Nat) (M0 : ZM) (K : ZRet) (KX : ZEx) (X : zCtx p l rm_J3_checkIndex_8e157 s m args meth c cJ3_checkIndex_8e157 RJ3 (Cond.code yJ3_checkIndex_8e157 cJ3_checkIndex_8e157 3 (Option.some Jvm.ClassFile.FieldType.int) :: zG) 3 (Option.some Jvm.ClassFile.FieldType.int) D A a0 M0 0 0) (hnm : meth.name = yJ3_checkIndex_8e157.name) (hout : ∀ x ∈ c.exceptionTable.toList, False) : ∀ q ∈ cd_J3_checkIndex_8e157, zSd p l e rm_J3_checkIndex_8e157 s m args below meth c 3 D A a0 M0 K KX 0 0 q.1 q.2 :=
    zall_c (zs_iload_n X (pc := 0) (q := 0) rfl (by decide +kernel)) <|
    zall_c (zs_if_lt X (pc := 1) (off := 8) (by decide +kernel) (by decide)) <|
    zall_c (zs_iload_n X (pc := 4) (q := 0) rfl (by decide +kernel)) <|
    zall_c (zs_iload_n X (pc := 5) (q := 1) rfl (by decide +kernel)) <|
    zall_c (zs_icmp_lt X (pc := 6) (off := 10) (by decide +kernel) (by decide)) <|
    zall_c (zs_no (pc := 9)) <|
    zall_c (zs_no (pc := 10)) <|
    zall_c (zs_no (pc := 11)) <|
    zall_c (zs_no (pc := 12)) <|
    zall_c (zs_no (pc := 15)) <|
    zall_c (zs_iload_n X (pc := 16) (q := 0) rfl (by decide +kernel)) <|
    zall_c (zs_iret X (pc := 17) rfl (by decide +kernel)) <|
    zall_n
theorem met_J3_checkIndex_8e157 {l : Launch} (hl : l.stackTraces = false) {T : ZTf} (bd : zBd (cd_J3_checkIndex_8e157) 3 0 0 T) : zMet l yJ3_checkIndex_8e157 (Cond.code yJ3_checkIndex_8e157 cJ3_checkIndex_8e157 3 (Option.some Jvm.ClassFile.FieldType.int) :: zG) rm_J3_checkIndex_8e157 0 0 T := zMet_of hl (by decide +kernel) rfl rfl rfl rfl (hs_J3_checkIndex_8e157 hl) bd

abbrev rm_X1_init : Room := { frames := 3, cells := 3, slots := 520, locals := 71 }
def cd_X1_init (T0 : ZTf) : List (Nat × ZTr) := [(0, tAld 0 1), (1, tObj 4), (4, tAld 0 5), (5, tC (zi 500) 8), (8, tNewA 20 10), (10, tPutR 5 0 13), (13, tAld 0 14), (14, tC (zi 0) 15), (15, tPutI 5 1 (fun _ => True) 18), (18, tAld 0 19), (19, tNew 1 4 22), (22, tDup 23), (23, tCall 1 1 16 (zNt T0) (zRcv 1) 26), (26, tPutR 5 2 29), (29, tRv)]
set_option maxRecDepth 100000 in
set_option maxHeartbeats 4000000 in
theorem hs_X1_init {l : Launch} (hl : l.stackTraces = false) {T0 : ZTf} (h0 : zMet l yJ4_init_da8c8 (Cond.code yJ4_init_da8c8 cJ4_init_da8c8 1 (Option.none : Option Jvm.ClassFile.FieldType) :: zG) rm_J4_init_da8c8 1 16 T0) (p : Program) (e : Env) (s : State) (m : MethodId) (args : Array Value) (below : List Frame) (meth : Method) (c : Code) (D : va_G) (A : Nat → Prop) (a0 : Nat → Nat) (M0 : ZM) (K : ZRet) (KX : ZEx) (X : zCtx p l rm_X1_init s m args meth c cX1_init RX1 (Cond.code yX1_init cX1_init 1 (Option.none : Option Jvm.ClassFile.FieldType) :: zG) 1 (Option.none : Option Jvm.ClassFile.FieldType) D A a0 M0 3 520) (hnm : meth.name = yX1_init.name) (hout : ∀ x ∈ c.exceptionTable.toList, False) : ∀ q ∈ cd_X1_init T0, zSd p l e rm_X1_init s m args below meth c 1 D A a0 M0 K KX 3 520 q.1 q.2 :=
    zall_c (zs_aload_n X (pc := 0) (q := 0) rfl (by decide +kernel)) <|
    zall_c (zs_objinit X (pc := 1) (.tail _ gw_1_52) (.tail _ gw_1_39) (.tail _ gw_1_40) (by decide) (by decide) (by decide +kernel)) <|
    zall_c (zs_aload_n X (pc := 4) (q := 0) rfl (by decide +kernel)) <|
    zall_c (zs_sipush X (pc := 5) (by decide) (by decide +kernel) (by decide +kernel)) <|
    zall_c (zs_newarray20 X (pc := 8) (.tail _ gw_1_85) (by decide +kernel)) <|
    zall_c (zs_putrF X (pc := 10) (ty := (Jvm.ClassFile.FieldType.array Jvm.ClassFile.FieldType.int)) zc_X1 (by decide) (zin ui_X1) tyX1_ok nmX1 (.tail _ gw_1_87) rfl hnm rfl (by decide +kernel) (by decide +kernel) (by decide +kernel) zP_arr) <|
    zall_c (zs_aload_n X (pc := 13) (q := 0) rfl (by decide +kernel)) <|
    zall_c (zs_iconst X (pc := 14) (by decide) (by decide +kernel)) <|
    zall_c (zs_puti X (pc := 15) (ty := Jvm.ClassFile.FieldType.int) zc_X1 (by decide) (zin ui_X1) tyX1_ok nmX1 (.tail _ gw_1_89) rfl (by decide +kernel) (by decide +kernel) (by decide +kernel) zP_int) <|
    zall_c (zs_aload_n X (pc := 18) (q := 0) rfl (by decide +kernel)) <|
    zall_c (zs_new X (pc := 19) zc_J4 (zin ui_J4) tyJ4_ok (.tail _ gw_1_53) (.tail _ gw_1_54) (.tail _ gw_1_5) (by decide +kernel) (by decide +kernel)) <|
    zall_c (zs_dup X (pc := 22) (by decide +kernel)) <|
    zall_c (zs_callI X (pc := 23) (rt := none) (fun _ ht => ⟨(zCB ht gw_1_57 gw_1_5 gw_1_55 rfl rfl (by decide +kernel) ⟨Nat.le_of_ble_eq_true rfl, Nat.le_of_ble_eq_true rfl⟩), rfl, ht _ (.tail _ gw_1_56)⟩) h0 (by decide +kernel)) <|
    zall_c (zs_putrF X (pc := 26) (ty := (Jvm.ClassFile.FieldType.object "java/lang/StringBuilder")) zc_X1 (by decide) (zin ui_X1) tyX1_ok nmX1 (.tail _ gw_1_92) rfl hnm rfl (by decide +kernel) (by decide +kernel) (by decide +kernel) zP_obj) <|
    zall_c (zs_vret X (pc := 29) rfl (by decide +kernel)) <|
    zall_n
theorem met_X1_init {l : Launch} (hl : l.stackTraces = false) {T0 : ZTf} (h0 : zMet l yJ4_init_da8c8 (Cond.code yJ4_init_da8c8 cJ4_init_da8c8 1 (Option.none : Option Jvm.ClassFile.FieldType) :: zG) rm_J4_init_da8c8 1 16 T0) {T : ZTf} (bd : zBd (cd_X1_init T0) 1 3 520 T) : zMet l yX1_init (Cond.code yX1_init cX1_init 1 (Option.none : Option Jvm.ClassFile.FieldType) :: zG) rm_X1_init 3 520 T := zMet_of hl (by decide +kernel) rfl rfl rfl rfl (hs_X1_init hl h0) bd

abbrev rm_X3_isAtNumber : Room := { frames := 2, cells := 0, slots := 0, locals := 51 }
def cd_X3_isAtNumber (T0 : ZTf) : List (Nat × ZTr) := [(0, tAld 0 1), (1, tGetI 6 4 4), (4, tC (zi 1) 5), (5, tIc_eq 14 8), (8, tAld 0 9), (9, tC (zi 1) 10), (10, tCall0 2 T0 (zRcv 6) 13), (13, tRi zPz), (14, tAld 0 15), (15, tGetI 6 7 18), (18, tIld 1 19), (19, tIc_lt 30 22), (22, tAld 0 23), (23, tGetI 6 7 26), (26, tIld 2 27), (27, tIc_le 36 30), (30, tAld 0 31), (31, tC (zi 2) 32), (32, tCall0 2 T0 (zRcv 6) 35), (35, tRi zPz), (36, tC (zi 1) 37), (37, tRi zPz)]
set_option maxRecDepth 100000 in
set_option maxHeartbeats 4000000 in
theorem hs_X3_isAtNumber {l : Launch} (hl : l.stackTraces = false) {T0 : ZTf} (h0 : zMet l yX3_fail (Cond.code yX3_fail cX3_fail 2 (Option.some Jvm.ClassFile.FieldType.boolean) :: zG) rm_X3_fail 0 0 T0) (p : Program) (e : Env) (s : State) (m : MethodId) (args : Array Value) (below : List Frame) (meth : Method) (c : Code) (D : va_G) (A : Nat → Prop) (a0 : Nat → Nat) (M0 : ZM) (K : ZRet) (KX : ZEx) (X : zCtx p l rm_X3_isAtNumber s m args meth c cX3_isAtNumber RX3 (Cond.code yX3_isAtNumber cX3_isAtNumber 3 (Option.some Jvm.ClassFile.FieldType.boolean) :: zG) 3 (Option.some Jvm.ClassFile.FieldType.boolean) D A a0 M0 0 0) (hnm : meth.name = yX3_isAtNumber.name) (hout : ∀ x ∈ c.exceptionTable.toList, False) : ∀ q ∈ cd_X3_isAtNumber T0, zSd p l e rm_X3_isAtNumber s m args below meth c 3 D A a0 M0 K KX 0 0 q.1 q.2 :=
    zall_c (zs_aload_n X (pc := 0) (q := 0) rfl (by decide +kernel)) <|
    zall_c (zs_geti X (pc := 1) zc_X3 (by decide) (zin ui_X3) (.tail _ gw_2_37) (by decide +kernel) (by decide +kernel)) <|
    zall_c (zs_iconst X (pc := 4) (by decide) (by decide +kernel)) <|
    zall_c (zs_icmp_eq X (pc := 5) (off := 9) (by decide +kernel) (by decide)) <|
    zall_c (zs_aload_n X (pc := 8) (q := 0) rfl (by decide +kernel)) <|
    zall_c (zs_iconst X (pc := 9) (by decide) (by decide +kernel)) <|
    zall_c (zs_callV0 X (pc := 10) zc_X3 (fun _ ht => ⟨(zCB ht gw_3_10 gw_1_2 gw_3_7 rfl rfl (by decide +kernel) ⟨Nat.le_of_ble_eq_true rfl, Nat.le_of_ble_eq_true rfl⟩), ht _ (.tail _ gw_3_9), ht _ (.tail _ gp_6)⟩) h0 hout (by decide +kernel)) <|
    zall_c (zs_zret X (pc := 13) rfl zR_bool (by decide +kernel)) <|
    zall_c (zs_aload_n X (pc := 14) (q := 0) rfl (by decide +kernel)) <|
    zall_c (zs_geti X (pc := 15) zc_X3 (by decide) (zin ui_X3) (.tail _ gw_2_40) (by decide +kernel) (by decide +kernel)) <|
    zall_c (zs_iload_n X (pc := 18) (q := 1) rfl (by decide +kernel)) <|
    zall_c (zs_icmp_lt X (pc := 19) (off := 11) (by decide +kernel) (by decide)) <|
    zall_c (zs_aload_n X (pc := 22) (q := 0) rfl (by decide +kernel)) <|
    zall_c (zs_geti X (pc := 23) zc_X3 (by decide) (zin ui_X3) (.tail _ gw_2_40) (by decide +kernel) (by decide +kernel)) <|
    zall_c (zs_iload_n X (pc := 26) (q := 2) rfl (by decide +kernel)) <|
    zall_c (zs_icmp_le X (pc := 27) (off := 9) (by decide +kernel) (by decide)) <|
    zall_c (zs_aload_n X (pc := 30) (q := 0) rfl (by decide +kernel)) <|
    zall_c (zs_iconst X (pc := 31) (by decide) (by decide +kernel)) <|
    zall_c (zs_callV0 X (pc := 32) zc_X3 (fun _ ht => ⟨(zCB ht gw_3_10 gw_1_2 gw_3_7 rfl rfl (by decide +kernel) ⟨Nat.le_of_ble_eq_true rfl, Nat.le_of_ble_eq_true rfl⟩), ht _ (.tail _ gw_3_9), ht _ (.tail _ gp_6)⟩) h0 hout (by decide +kernel)) <|
    zall_c (zs_zret X (pc := 35) rfl zR_bool (by decide +kernel)) <|
    zall_c (zs_iconst X (pc := 36) (by decide) (by decide +kernel)) <|
    zall_c (zs_zret X (pc := 37) rfl zR_bool (by decide +kernel)) <|
    zall_n
theorem met_X3_isAtNumber {l : Launch} (hl : l.stackTraces = false) {T0 : ZTf} (h0 : zMet l yX3_fail (Cond.code yX3_fail cX3_fail 2 (Option.some Jvm.ClassFile.FieldType.boolean) :: zG) rm_X3_fail 0 0 T0) {T : ZTf} (bd : zBd (cd_X3_isAtNumber T0) 3 0 0 T) : zMet l yX3_isAtNumber (Cond.code yX3_isAtNumber cX3_isAtNumber 3 (Option.some Jvm.ClassFile.FieldType.boolean) :: zG) rm_X3_isAtNumber 0 0 T := zMet_of hl (by decide +kernel) rfl rfl rfl rfl (hs_X3_isAtNumber hl h0) bd

abbrev rm_X3_nextToken : Room := { frames := 2, cells := 0, slots := 0, locals := 52 }
def cd_X3_nextToken (T0 : ZTf) (T1 : ZTf) (T2 : ZTf) : List (Nat × ZTr) := [(0, tAld 0 1), (1, tAld 0 2), (2, tGetI 6 6 5), (5, tPutI 6 5 (fun _ => True) 8), (8, tAld 0 9), (9, tGetI 6 5 12), (12, tAld 0 13), (13, tGetR 6 2 16), (16, tGetI 5 1 19), (19, tIc_ge 53 22), (22, tAld 0 23), (23, tGetR 6 2 26), (26, tGetR 5 0 29), (29, tAld 0 30), (30, tGetI 6 5 33), (33, tIal 20 34), (34, tCall0 1 T0 zAny 37), (37, tIf_eq 53 40), (40, tAld 0 41), (41, tDup 42), (42, tGetI 6 5 45), (45, tC (zi 1) 46), (46, tAdd 47), (47, tPutI 6 5 (fun _ => True) 50), (50, tGo 8), (53, tAld 0 54), (54, tAld 0 55), (55, tGetI 6 5 58), (58, tPutI 6 6 (fun _ => True) 61), (61, tAld 0 62), (62, tAld 0 63), (63, tAld 0 64), (64, tGetI 6 5 67), (67, tCall0 2 T1 (zRcv 6) 70), (70, tPutI 6 4 (fun _ => True) 73), (73, tAld 0 74), (74, tGetI 6 4 77), (77, tC (zi 2) 78), (78, tIc_ne 92 81), (81, tAld 0 82), (82, tAld 0 83), (83, tGetI 6 5 86), (86, tC (zi 1) 87), (87, tAdd 88), (88, tPutI 6 6 (fun _ => True) 91), (91, tRv), (92, tAld 0 93), (93, tGetI 6 6 96), (96, tAld 0 97), (97, tGetR 6 2 100), (100, tGetI 5 1 103), (103, tIc_ge 134 106), (106, tAld 0 107), (107, tAld 0 108), (108, tGetI 6 6 111), (111, tCall0 2 T1 (zRcv 6) 114), (114, tAld 0 115), (115, tGetI 6 4 118), (118, tIc_ne 134 121), (121, tAld 0 122), (122, tDup 123), (123, tGetI 6 6 126), (126, tC (zi 1) 127), (127, tAdd 128), (128, tPutI 6 6 (fun _ => True) 131), (131, tGo 92), (134, tAld 0 135), (135, tGetI 6 4 138), (138, tC (zi 1) 139), (139, tIc_ne 146 142), (142, tAld 0 143), (143, tCall0 1 T2 (zRcv 6) 146), (146, tRv)]
set_option maxRecDepth 100000 in
set_option maxHeartbeats 4000000 in
theorem hs_X3_nextToken {l : Launch} (hl : l.stackTraces = false) {T0 : ZTf} {T1 : ZTf} {T2 : ZTf} (h0 : zMet l yX3_isBlank (Cond.code yX3_isBlank cX3_isBlank 1 (Option.some Jvm.ClassFile.FieldType.boolean) :: zG) rm_X3_isBlank 0 0 T0) (h1 : zMet l yX3_kindAt (Cond.code yX3_kindAt cX3_kindAt 3 (Option.some Jvm.ClassFile.FieldType.int) :: zG) rm_X3_kindAt 0 0 T1) (h2 : zMet l yX3_readDigits (Cond.code yX3_readDigits cX3_readDigits 2 (Option.none : Option Jvm.ClassFile.FieldType) :: zG) rm_X3_readDigits 0 0 T2) (p : Program) (e : Env) (s : State) (m : MethodId) (args : Array Value) (below : List Frame) (meth : Method) (c : Code) (D : va_G) (A : Nat → Prop) (a0 : Nat → Nat) (M0 : ZM) (K : ZRet) (KX : ZEx) (X : zCtx p l rm_X3_nextToken s m args meth c cX3_nextToken RX3 (Cond.code yX3_nextToken cX3_nextToken 1 (Option.none : Option Jvm.ClassFile.FieldType) :: zG) 1 (Option.none : Option Jvm.ClassFile.FieldType) D A a0 M0 0 0) (hnm : meth.name = yX3_nextToken.name) (hout : ∀ x ∈ c.exceptionTable.toList, False) : ∀ q ∈ cd_X3_nextToken T0 T1 T2, zSd p l e rm_X3_nextToken s m args below meth c 1 D A a0 M0 K KX 0 0 q.1 q.2 :=
    zall_c (zs_aload_n X (pc := 0) (q := 0) rfl (by decide +kernel)) <|
    zall_c (zs_aload_n X (pc := 1) (q := 0) rfl (by decide +kernel)) <|
    zall_c (zs_geti X (pc := 2) zc_X3 (by decide) (zin ui_X3) (.tail _ gw_2_39) (by decide +kernel) (by decide +kernel)) <|
    zall_c (zs_puti X (pc := 5) (ty := Jvm.ClassFile.FieldType.int) zc_X3 (by decide) (zin ui_X3) tyX3_ok nmX3 (.tail _ gw_2_38) rfl (by decide +kernel) (by decide +kernel) (by decide +kernel) zP_int) <|
    zall_c (zs_aload_n X (pc := 8) (q := 0) rfl (by decide +kernel)) <|
    zall_c (zs_geti X (pc := 9) zc_X3 (by decide) (zin ui_X3) (.tail _ gw_2_38) (by decide +kernel) (by decide +kernel)) <|
    zall_c (zs_aload_n X (pc := 12) (q := 0) rfl (by decide +kernel)) <|
    zall_c (zs_getr X (pc := 13) zc_X3 (by decide) (zin ui_X3) (.tail _ gw_2_33) (by decide +kernel) (by decide +kernel)) <|
    zall_c (zs_geti X (pc := 16) zc_X1 (by decide) (zin ui_X1) (.tail _ gw_1_91) (by decide +kernel) (by decide +kernel)) <|
    zall_c (zs_icmp_ge X (pc := 19) (off := 34) (by decide +kernel) (by decide)) <|
    zall_c (zs_aload_n X (pc := 22) (q := 0) rfl (by decide +kernel)) <|
    zall_c (zs_getr X (pc := 23) zc_X3 (by decide) (zin ui_X3) (.tail _ gw_2_33) (by decide +kernel) (by decide +kernel)) <|
    zall_c (zs_getr X (pc := 26) zc_X1 (by decide) (zin ui_X1) (.tail _ gw_1_88) (by decide +kernel) (by decide +kernel)) <|
    zall_c (zs_aload_n X (pc := 29) (q := 0) rfl (by decide +kernel)) <|
    zall_c (zs_geti X (pc := 30) zc_X3 (by decide) (zin ui_X3) (.tail _ gw_2_38) (by decide +kernel) (by decide +kernel)) <|
    zall_c (zs_iaload20 X (pc := 33) (by decide +kernel)) <|
    zall_c (zs_callS0 X (pc := 34) (fun _ ht => ⟨(zCB ht gw_2_173 gw_1_2 gw_2_171 rfl rfl (by decide +kernel) ⟨Nat.le_of_ble_eq_true rfl, Nat.le_of_ble_eq_true rfl⟩), ht _ (.tail _ gw_2_172)⟩) h0 hout (by decide +kernel)) <|
    zall_c (zs_if_eq X (pc := 37) (off := 16) (by decide +kernel) (by decide)) <|
    zall_c (zs_aload_n X (pc := 40) (q := 0) rfl (by decide +kernel)) <|
    zall_c (zs_dup X (pc := 41) (by decide +kernel)) <|
    zall_c (zs_geti X (pc := 42) zc_X3 (by decide) (zin ui_X3) (.tail _ gw_2_38) (by decide +kernel) (by decide +kernel)) <|
    zall_c (zs_iconst X (pc := 45) (by decide) (by decide +kernel)) <|
    zall_c (zs_iadd X (pc := 46) (by decide +kernel)) <|
    zall_c (zs_puti X (pc := 47) (ty := Jvm.ClassFile.FieldType.int) zc_X3 (by decide) (zin ui_X3) tyX3_ok nmX3 (.tail _ gw_2_38) rfl (by decide +kernel) (by decide +kernel) (by decide +kernel) zP_int) <|
    zall_c (zs_goto X (pc := 50) (off := (-42)) (by decide +kernel) (by decide)) <|
    zall_c (zs_aload_n X (pc := 53) (q := 0) rfl (by decide +kernel)) <|
    zall_c (zs_aload_n X (pc := 54) (q := 0) rfl (by decide +kernel)) <|
    zall_c (zs_geti X (pc := 55) zc_X3 (by decide) (zin ui_X3) (.tail _ gw_2_38) (by decide +kernel) (by decide +kernel)) <|
    zall_c (zs_puti X (pc := 58) (ty := Jvm.ClassFile.FieldType.int) zc_X3 (by decide) (zin ui_X3) tyX3_ok nmX3 (.tail _ gw_2_39) rfl (by decide +kernel) (by decide +kernel) (by decide +kernel) zP_int) <|
    zall_c (zs_aload_n X (pc := 61) (q := 0) rfl (by decide +kernel)) <|
    zall_c (zs_aload_n X (pc := 62) (q := 0) rfl (by decide +kernel)) <|
    zall_c (zs_aload_n X (pc := 63) (q := 0) rfl (by decide +kernel)) <|
    zall_c (zs_geti X (pc := 64) zc_X3 (by decide) (zin ui_X3) (.tail _ gw_2_38) (by decide +kernel) (by decide +kernel)) <|
    zall_c (zs_callV0 X (pc := 67) zc_X3 (fun _ ht => ⟨(zCB ht gw_2_177 gw_1_2 gw_2_174 rfl rfl (by decide +kernel) ⟨Nat.le_of_ble_eq_true rfl, Nat.le_of_ble_eq_true rfl⟩), ht _ (.tail _ gw_2_176), ht _ (.tail _ gp_1)⟩) h1 hout (by decide +kernel)) <|
    zall_c (zs_puti X (pc := 70) (ty := Jvm.ClassFile.FieldType.int) zc_X3 (by decide) (zin ui_X3) tyX3_ok nmX3 (.tail _ gw_2_37) rfl (by decide +kernel) (by decide +kernel) (by decide +kernel) zP_int) <|
    zall_c (zs_aload_n X (pc := 73) (q := 0) rfl (by decide +kernel)) <|
    zall_c (zs_geti X (pc := 74) zc_X3 (by decide) (zin ui_X3) (.tail _ gw_2_37) (by decide +kernel) (by decide +kernel)) <|
    zall_c (zs_iconst X (pc := 77) (by decide) (by decide +kernel)) <|
    zall_c (zs_icmp_ne X (pc := 78) (off := 14) (by decide +kernel) (by decide)) <|
    zall_c (zs_aload_n X (pc := 81) (q := 0) rfl (by decide +kernel)) <|
    zall_c (zs_aload_n X (pc := 82) (q := 0) rfl (by decide +kernel)) <|
    zall_c (zs_geti X (pc := 83) zc_X3 (by decide) (zin ui_X3) (.tail _ gw_2_38) (by decide +kernel) (by decide +kernel)) <|
    zall_c (zs_iconst X (pc := 86) (by decide) (by decide +kernel)) <|
    zall_c (zs_iadd X (pc := 87) (by decide +kernel)) <|
    zall_c (zs_puti X (pc := 88) (ty := Jvm.ClassFile.FieldType.int) zc_X3 (by decide) (zin ui_X3) tyX3_ok nmX3 (.tail _ gw_2_39) rfl (by decide +kernel) (by decide +kernel) (by decide +kernel) zP_int) <|
    zall_c (zs_vret X (pc := 91) rfl (by decide +kernel)) <|
    zall_c (zs_aload_n X (pc := 92) (q := 0) rfl (by decide +kernel)) <|
    zall_c (zs_geti X (pc := 93) zc_X3 (by decide) (zin ui_X3) (.tail _ gw_2_39) (by decide +kernel) (by decide +kernel)) <|
    zall_c (zs_aload_n X (pc := 96) (q := 0) rfl (by decide +kernel)) <|
    zall_c (zs_getr X (pc := 97) zc_X3 (by decide) (zin ui_X3) (.tail _ gw_2_33) (by decide +kernel) (by decide +kernel)) <|
    zall_c (zs_geti X (pc := 100) zc_X1 (by decide) (zin ui_X1) (.tail _ gw_1_91) (by decide +kernel) (by decide +kernel)) <|
    zall_c (zs_icmp_ge X (pc := 103) (off := 31) (by decide +kernel) (by decide)) <|
    zall_c (zs_aload_n X (pc := 106) (q := 0) rfl (by decide +kernel)) <|
    zall_c (zs_aload_n X (pc := 107) (q := 0) rfl (by decide +kernel)) <|
    zall_c (zs_geti X (pc := 108) zc_X3 (by decide) (zin ui_X3) (.tail _ gw_2_39) (by decide +kernel) (by decide +kernel)) <|
    zall_c (zs_callV0 X (pc := 111) zc_X3 (fun _ ht => ⟨(zCB ht gw_2_177 gw_1_2 gw_2_174 rfl rfl (by decide +kernel) ⟨Nat.le_of_ble_eq_true rfl, Nat.le_of_ble_eq_true rfl⟩), ht _ (.tail _ gw_2_176), ht _ (.tail _ gp_1)⟩) h1 hout (by decide +kernel)) <|
    zall_c (zs_aload_n X (pc := 114) (q := 0) rfl (by decide +kernel)) <|
    zall_c (zs_geti X (pc := 115) zc_X3 (by decide) (zin ui_X3) (.tail _ gw_2_37) (by decide +kernel) (by decide +kernel)) <|
    zall_c (zs_icmp_ne X (pc := 118) (off := 16) (by decide +kernel) (by decide)) <|
    zall_c (zs_aload_n X (pc := 121) (q := 0) rfl (by decide +kernel)) <|
    zall_c (zs_dup X (pc := 122) (by decide +kernel)) <|
    zall_c (zs_geti X (pc := 123) zc_X3 (by decide) (zin ui_X3) (.tail _ gw_2_39) (by decide +kernel) (by decide +kernel)) <|
    zall_c (zs_iconst X (pc := 126) (by decide) (by decide +kernel)) <|
    zall_c (zs_iadd X (pc := 127) (by decide +kernel)) <|
    zall_c (zs_puti X (pc := 128) (ty := Jvm.ClassFile.FieldType.int) zc_X3 (by decide) (zin ui_X3) tyX3_ok nmX3 (.tail _ gw_2_39) rfl (by decide +kernel) (by decide +kernel) (by decide +kernel) zP_int) <|
    zall_c (zs_goto X (pc := 131) (off := (-39)) (by decide +kernel) (by decide)) <|
    zall_c (zs_aload_n X (pc := 134) (q := 0) rfl (by decide +kernel)) <|
    zall_c (zs_geti X (pc := 135) zc_X3 (by decide) (zin ui_X3) (.tail _ gw_2_37) (by decide +kernel) (by decide +kernel)) <|
    zall_c (zs_iconst X (pc := 138) (by decide) (by decide +kernel)) <|
    zall_c (zs_icmp_ne X (pc := 139) (off := 7) (by decide +kernel) (by decide)) <|
    zall_c (zs_aload_n X (pc := 142) (q := 0) rfl (by decide +kernel)) <|
    zall_c (zs_callV0 X (pc := 143) zc_X3 (fun _ ht => ⟨(zCB ht gw_2_181 gw_1_2 gw_2_178 rfl rfl (by decide +kernel) ⟨Nat.le_of_ble_eq_true rfl, Nat.le_of_ble_eq_true rfl⟩), ht _ (.tail _ gw_2_180), ht _ (.tail _ gp_2)⟩) h2 hout (by decide +kernel)) <|
    zall_c (zs_vret X (pc := 146) rfl (by decide +kernel)) <|
    zall_n
theorem met_X3_nextToken {l : Launch} (hl : l.stackTraces = false) {T0 : ZTf} {T1 : ZTf} {T2 : ZTf} (h0 : zMet l yX3_isBlank (Cond.code yX3_isBlank cX3_isBlank 1 (Option.some Jvm.ClassFile.FieldType.boolean) :: zG) rm_X3_isBlank 0 0 T0) (h1 : zMet l yX3_kindAt (Cond.code yX3_kindAt cX3_kindAt 3 (Option.some Jvm.ClassFile.FieldType.int) :: zG) rm_X3_kindAt 0 0 T1) (h2 : zMet l yX3_readDigits (Cond.code yX3_readDigits cX3_readDigits 2 (Option.none : Option Jvm.ClassFile.FieldType) :: zG) rm_X3_readDigits 0 0 T2) {T : ZTf} (bd : zBd (cd_X3_nextToken T0 T1 T2) 1 0 0 T) : zMet l yX3_nextToken (Cond.code yX3_nextToken cX3_nextToken 1 (Option.none : Option Jvm.ClassFile.FieldType) :: zG) rm_X3_nextToken 0 0 T := zMet_of hl (by decide +kernel) rfl rfl rfl rfl (hs_X3_nextToken hl h0 h1 h2) bd

abbrev rm_X4_addTaking : Room := { frames := 2, cells := 0, slots := 0, locals := 54 }
def cd_X4_addTaking (T0 : ZTf) : List (Nat × ZTr) := [(0, tAld 0 1), (1, tGetI 7 8 4), (4, tC (zi 3) 5), (5, tIc_lt 9 8), (8, tRv), (9, tAld 0 10), (10, tAld 0 11), (11, tGetI 7 8 14), (14, tIld 1 15), (15, tC (zi (-1)) 16), (16, tIld 2 17), (17, tCall0 5 T0 (zRcv 7) 20), (20, tAld 0 21), (21, tDup 22), (22, tGetI 7 8 25), (25, tC (zi 1) 26), (26, tAdd 27), (27, tPutI 7 8 (fun _ => True) 30), (30, tAld 0 31), (31, tDup 32), (32, tGetI 7 5 35), (35, tC (zi 1) 36), (36, tIld 1 37), (37, tBif zshl 38), (38, tBif zor 39), (39, tPutI 7 5 (fun _ => True) 42), (42, tRv)]
set_option maxRecDepth 100000 in
set_option maxHeartbeats 4000000 in
theorem hs_X4_addTaking {l : Launch} (hl : l.stackTraces = false) {T0 : ZTf} (h0 : zMet l yX4_setTaking (Cond.code yX4_setTaking cX4_setTaking 5 (Option.none : Option Jvm.ClassFile.FieldType) :: zG) rm_X4_setTaking 0 0 T0) (p : Program) (e : Env) (s : State) (m : MethodId) (args : Array Value) (below : List Frame) (meth : Method) (c : Code) (D : va_G) (A : Nat → Prop) (a0 : Nat → Nat) (M0 : ZM) (K : ZRet) (KX : ZEx) (X : zCtx p l rm_X4_addTaking s m args meth c cX4_addTaking RX4 (Cond.code yX4_addTaking cX4_addTaking 3 (Option.none : Option Jvm.ClassFile.FieldType) :: zG) 3 (Option.none : Option Jvm.ClassFile.FieldType) D A a0 M0 0 0) (hnm : meth.name = yX4_addTaking.name) (hout : ∀ x ∈ c.exceptionTable.toList, False) : ∀ q ∈ cd_X4_addTaking T0, zSd p l e rm_X4_addTaking s m args below meth c 3 D A a0 M0 K KX 0 0 q.1 q.2 :=
    zall_c (zs_aload_n X (pc := 0) (q := 0) rfl (by decide +kernel)) <|
    zall_c (zs_geti X (pc := 1) zc_X4 (by decide) (zin ui_X4) (.tail _ gw_1_199) (by decide +kernel) (by decide +kernel)) <|
    zall_c (zs_iconst X (pc := 4) (by decide) (by decide +kernel)) <|
    zall_c (zs_icmp_lt X (pc := 5) (off := 4) (by decide +kernel) (by decide)) <|
    zall_c (zs_vret X (pc := 8) rfl (by decide +kernel)) <|
    zall_c (zs_aload_n X (pc := 9) (q := 0) rfl (by decide +kernel)) <|
    zall_c (zs_aload_n X (pc := 10) (q := 0) rfl (by decide +kernel)) <|
    zall_c (zs_geti X (pc := 11) zc_X4 (by decide) (zin ui_X4) (.tail _ gw_1_199) (by decide +kernel) (by decide +kernel)) <|
    zall_c (zs_iload_n X (pc := 14) (q := 1) rfl (by decide +kernel)) <|
    zall_c (zs_iconst X (pc := 15) (by decide) (by decide +kernel)) <|
    zall_c (zs_iload_n X (pc := 16) (q := 2) rfl (by decide +kernel)) <|
    zall_c (zs_callV0 X (pc := 17) zc_X4 (fun _ ht => ⟨(zCB ht gw_7_5 gw_1_10 gw_7_2 rfl rfl (by decide +kernel) ⟨Nat.le_of_ble_eq_true rfl, Nat.le_of_ble_eq_true rfl⟩), ht _ (.tail _ gw_7_4), ht _ (.tail _ gp_26)⟩) h0 hout (by decide +kernel)) <|
    zall_c (zs_aload_n X (pc := 20) (q := 0) rfl (by decide +kernel)) <|
    zall_c (zs_dup X (pc := 21) (by decide +kernel)) <|
    zall_c (zs_geti X (pc := 22) zc_X4 (by decide) (zin ui_X4) (.tail _ gw_1_199) (by decide +kernel) (by decide +kernel)) <|
    zall_c (zs_iconst X (pc := 25) (by decide) (by decide +kernel)) <|
    zall_c (zs_iadd X (pc := 26) (by decide +kernel)) <|
    zall_c (zs_puti X (pc := 27) (ty := Jvm.ClassFile.FieldType.int) zc_X4 (by decide) (zin ui_X4) tyX4_ok nmX4 (.tail _ gw_1_199) rfl (by decide +kernel) (by decide +kernel) (by decide +kernel) zP_int) <|
    zall_c (zs_aload_n X (pc := 30) (q := 0) rfl (by decide +kernel)) <|
    zall_c (zs_dup X (pc := 31) (by decide +kernel)) <|
    zall_c (zs_geti X (pc := 32) zc_X4 (by decide) (zin ui_X4) (.tail _ gw_1_189) (by decide +kernel) (by decide +kernel)) <|
    zall_c (zs_iconst X (pc := 35) (by decide) (by decide +kernel)) <|
    zall_c (zs_iload_n X (pc := 36) (q := 1) rfl (by decide +kernel)) <|
    zall_c (zs_ishl X (pc := 37) (by decide +kernel)) <|
    zall_c (zs_ior X (pc := 38) (by decide +kernel)) <|
    zall_c (zs_puti X (pc := 39) (ty := Jvm.ClassFile.FieldType.int) zc_X4 (by decide) (zin ui_X4) tyX4_ok nmX4 (.tail _ gw_1_189) rfl (by decide +kernel) (by decide +kernel) (by decide +kernel) zP_int) <|
    zall_c (zs_vret X (pc := 42) rfl (by decide +kernel)) <|
    zall_n
theorem met_X4_addTaking {l : Launch} (hl : l.stackTraces = false) {T0 : ZTf} (h0 : zMet l yX4_setTaking (Cond.code yX4_setTaking cX4_setTaking 5 (Option.none : Option Jvm.ClassFile.FieldType) :: zG) rm_X4_setTaking 0 0 T0) {T : ZTf} (bd : zBd (cd_X4_addTaking T0) 3 0 0 T) : zMet l yX4_addTaking (Cond.code yX4_addTaking cX4_addTaking 3 (Option.none : Option Jvm.ClassFile.FieldType) :: zG) rm_X4_addTaking 0 0 T := zMet_of hl (by decide +kernel) rfl rfl rfl rfl (hs_X4_addTaking hl h0) bd

abbrev rm_X4_moveTaking : Room := { frames := 2, cells := 0, slots := 0, locals := 54 }
def cd_X4_moveTaking (T0 : ZTf) (T1 : ZTf) (T2 : ZTf) (T3 : ZTf) : List (Nat × ZTr) := [(0, tAld 0 1), (1, tIld 2 2), (2, tAld 0 3), (3, tIld 1 4), (4, tCall0 2 T0 (zRcv 7) 7), (7, tAld 0 8), (8, tIld 1 9), (9, tCall0 2 T1 (zRcv 7) 12), (12, tAld 0 13), (13, tIld 1 14), (14, tCall0 2 T2 (zRcv 7) 17), (17, tCall0 5 T3 (zRcv 7) 20), (20, tRv)]
set_option maxRecDepth 100000 in
set_option maxHeartbeats 4000000 in
theorem hs_X4_moveTaking {l : Launch} (hl : l.stackTraces = false) {T0 : ZTf} {T1 : ZTf} {T2 : ZTf} {T3 : ZTf} (h0 : zMet l yX4_workerAt (Cond.code yX4_workerAt cX4_workerAt 2 (Option.some Jvm.ClassFile.FieldType.int) :: zG) rm_X4_workerAt 0 0 T0) (h1 : zMet l yX4_resultAt (Cond.code yX4_resultAt cX4_resultAt 2 (Option.some Jvm.ClassFile.FieldType.int) :: zG) rm_X4_resultAt 0 0 T1) (h2 : zMet l yX4_dueAt (Cond.code yX4_dueAt cX4_dueAt 2 (Option.some Jvm.ClassFile.FieldType.int) :: zG) rm_X4_dueAt 0 0 T2) (h3 : zMet l yX4_setTaking (Cond.code yX4_setTaking cX4_setTaking 5 (Option.none : Option Jvm.ClassFile.FieldType) :: zG) rm_X4_setTaking 0 0 T3) (p : Program) (e : Env) (s : State) (m : MethodId) (args : Array Value) (below : List Frame) (meth : Method) (c : Code) (D : va_G) (A : Nat → Prop) (a0 : Nat → Nat) (M0 : ZM) (K : ZRet) (KX : ZEx) (X : zCtx p l rm_X4_moveTaking s m args meth c cX4_moveTaking RX4 (Cond.code yX4_moveTaking cX4_moveTaking 3 (Option.none : Option Jvm.ClassFile.FieldType) :: zG) 3 (Option.none : Option Jvm.ClassFile.FieldType) D A a0 M0 0 0) (hnm : meth.name = yX4_moveTaking.name) (hout : ∀ x ∈ c.exceptionTable.toList, False) : ∀ q ∈ cd_X4_moveTaking T0 T1 T2 T3, zSd p l e rm_X4_moveTaking s m args below meth c 3 D A a0 M0 K KX 0 0 q.1 q.2 :=
    zall_c (zs_aload_n X (pc := 0) (q := 0) rfl (by decide +kernel)) <|
    zall_c (zs_iload_n X (pc := 1) (q := 2) rfl (by decide +kernel)) <|
    zall_c (zs_aload_n X (pc := 2) (q := 0) rfl (by decide +kernel)) <|
    zall_c (zs_iload_n X (pc := 3) (q := 1) rfl (by decide +kernel)) <|
    zall_c (zs_callV0 X (pc := 4) zc_X4 (fun _ ht => ⟨(zCB ht gw_5_37 gw_1_10 gw_6_105 rfl rfl (by decide +kernel) ⟨Nat.le_of_ble_eq_true rfl, Nat.le_of_ble_eq_true rfl⟩), ht _ (.tail _ gw_5_35), ht _ (.tail _ gw_5_36)⟩) h0 hout (by decide +kernel)) <|
    zall_c (zs_aload_n X (pc := 7) (q := 0) rfl (by decide +kernel)) <|
    zall_c (zs_iload_n X (pc := 8) (q := 1) rfl (by decide +kernel)) <|
    zall_c (zs_callV0 X (pc := 9) zc_X4 (fun _ ht => ⟨(zCB ht gw_5_82 gw_1_10 gw_5_79 rfl rfl (by decide +kernel) ⟨Nat.le_of_ble_eq_true rfl, Nat.le_of_ble_eq_true rfl⟩), ht _ (.tail _ gw_5_80), ht _ (.tail _ gw_5_81)⟩) h1 hout (by decide +kernel)) <|
    zall_c (zs_aload_n X (pc := 12) (q := 0) rfl (by decide +kernel)) <|
    zall_c (zs_iload_n X (pc := 13) (q := 1) rfl (by decide +kernel)) <|
    zall_c (zs_callV0 X (pc := 14) zc_X4 (fun _ ht => ⟨(zCB ht gw_5_86 gw_1_10 gw_5_83 rfl rfl (by decide +kernel) ⟨Nat.le_of_ble_eq_true rfl, Nat.le_of_ble_eq_true rfl⟩), ht _ (.tail _ gw_5_84), ht _ (.tail _ gw_5_85)⟩) h2 hout (by decide +kernel)) <|
    zall_c (zs_callV0 X (pc := 17) zc_X4 (fun _ ht => ⟨(zCB ht gw_7_5 gw_1_10 gw_7_2 rfl rfl (by decide +kernel) ⟨Nat.le_of_ble_eq_true rfl, Nat.le_of_ble_eq_true rfl⟩), ht _ (.tail _ gw_7_4), ht _ (.tail _ gp_26)⟩) h3 hout (by decide +kernel)) <|
    zall_c (zs_vret X (pc := 20) rfl (by decide +kernel)) <|
    zall_n
theorem met_X4_moveTaking {l : Launch} (hl : l.stackTraces = false) {T0 : ZTf} {T1 : ZTf} {T2 : ZTf} {T3 : ZTf} (h0 : zMet l yX4_workerAt (Cond.code yX4_workerAt cX4_workerAt 2 (Option.some Jvm.ClassFile.FieldType.int) :: zG) rm_X4_workerAt 0 0 T0) (h1 : zMet l yX4_resultAt (Cond.code yX4_resultAt cX4_resultAt 2 (Option.some Jvm.ClassFile.FieldType.int) :: zG) rm_X4_resultAt 0 0 T1) (h2 : zMet l yX4_dueAt (Cond.code yX4_dueAt cX4_dueAt 2 (Option.some Jvm.ClassFile.FieldType.int) :: zG) rm_X4_dueAt 0 0 T2) (h3 : zMet l yX4_setTaking (Cond.code yX4_setTaking cX4_setTaking 5 (Option.none : Option Jvm.ClassFile.FieldType) :: zG) rm_X4_setTaking 0 0 T3) {T : ZTf} (bd : zBd (cd_X4_moveTaking T0 T1 T2 T3) 3 0 0 T) : zMet l yX4_moveTaking (Cond.code yX4_moveTaking cX4_moveTaking 3 (Option.none : Option Jvm.ClassFile.FieldType) :: zG) rm_X4_moveTaking 0 0 T := zMet_of hl (by decide +kernel) rfl rfl rfl rfl (hs_X4_moveTaking hl h0 h1 h2 h3) bd

abbrev rm_X5_init : Room := { frames := 2, cells := 58, slots := 618, locals := 50 }
def cd_X5_init (T0 : ZTf) (T1 : ZTf) : List (Nat × ZTr) := [(0, tAld 0 1), (1, tObj 4), (4, tAld 0 5), (5, tC (zi 0) 6), (6, tPutI 8 0 (fun _ => True) 9), (9, tAld 0 10), (10, tC (zi 10) 12), (12, tPutI 8 1 (fun _ => True) 15), (15, tAld 0 16), (16, tC (zi 5) 17), (17, tPutI 8 2 (fun _ => True) 20), (20, tAld 0 21), (21, tC (zi 0) 22), (22, tPutI 8 3 (fun _ => True) 25), (25, tAld 0 26), (26, tC (zi 0) 27), (27, tPutI 8 4 (fun _ => True) 30), (30, tAld 0 31), (31, tC (zi 0) 32), (32, tPutI 8 5 (fun _ => True) 35), (35, tAld 0 36), (36, tC (zi 6) 38), (38, tNewA 30 41), (41, tPutR 8 6 44), (44, tAld 0 45), (45, tC (zi 24) 47), (47, tNewA 31 50), (50, tPutR 8 7 53), (53, tAld 0 54), (54, tC (zi 36) 56), (56, tNewA 20 58), (58, tPutR 8 8 61), (61, tAld 0 62), (62, tC (zi 36) 64), (64, tNewA 20 66), (66, tPutR 8 9 69), (69, tC (zi 0) 70), (70, tIst 1 71), (71, tIld 1 72), (72, tC (zi 6) 74), (74, tIc_ge 96 77), (77, tAld 0 78), (78, tGetR 8 6 81), (81, tIld 1 82), (82, tNew 10 10 85), (85, tDup 86), (86, tCall0 1 (zNt T0) (zRcv 10) 89), (89, tAas 30 10 90), (90, tInc 1 1 93), (93, tGo 71), (96, tC (zi 0) 97), (97, tIst 1 98), (98, tIld 1 99), (99, tC (zi 24) 101), (101, tIc_ge 123 104), (104, tAld 0 105), (105, tGetR 8 7 108), (108, tIld 1 109), (109, tNew 7 10 112), (112, tDup 113), (113, tCall 1 1 9 (zNt T1) (zRcv 7) 116), (116, tAas 31 7 117), (117, tInc 1 1 120), (120, tGo 98), (123, tRv)]
set_option maxRecDepth 100000 in
set_option maxHeartbeats 4000000 in
theorem hs_X5_init {l : Launch} (hl : l.stackTraces = false) {T0 : ZTf} {T1 : ZTf} (h0 : zMet l yX7_init (Cond.code yX7_init cX7_init 1 (Option.none : Option Jvm.ClassFile.FieldType) :: zG) rm_X7_init 0 0 T0) (h1 : zMet l yX4_init (Cond.code yX4_init cX4_init 1 (Option.none : Option Jvm.ClassFile.FieldType) :: zG) rm_X4_init 1 9 T1) (p : Program) (e : Env) (s : State) (m : MethodId) (args : Array Value) (below : List Frame) (meth : Method) (c : Code) (D : va_G) (A : Nat → Prop) (a0 : Nat → Nat) (M0 : ZM) (K : ZRet) (KX : ZEx) (X : zCtx p l rm_X5_init s m args meth c cX5_init RX5 (Cond.code yX5_init cX5_init 2 (Option.none : Option Jvm.ClassFile.FieldType) :: zG) 2 (Option.none : Option Jvm.ClassFile.FieldType) D A a0 M0 58 618) (hnm : meth.name = yX5_init.name) (hout : ∀ x ∈ c.exceptionTable.toList, False) : ∀ q ∈ cd_X5_init T0 T1, zSd p l e rm_X5_init s m args below meth c 2 D A a0 M0 K KX 58 618 q.1 q.2 :=
    zall_c (zs_aload_n X (pc := 0) (q := 0) rfl (by decide +kernel)) <|
    zall_c (zs_objinit X (pc := 1) (.tail _ gw_1_105) (.tail _ gw_1_39) (.tail _ gw_1_40) (by decide) (by decide) (by decide +kernel)) <|
    zall_c (zs_aload_n X (pc := 4) (q := 0) rfl (by decide +kernel)) <|
    zall_c (zs_iconst X (pc := 5) (by decide) (by decide +kernel)) <|
    zall_c (zs_puti X (pc := 6) (ty := Jvm.ClassFile.FieldType.int) zc_X5 (by decide) (zin ui_X5) tyX5_ok nmX5 (.tail _ gw_1_224) rfl (by decide +kernel) (by decide +kernel) (by decide +kernel) zP_int) <|
    zall_c (zs_aload_n X (pc := 9) (q := 0) rfl (by decide +kernel)) <|
    zall_c (zs_bipush X (pc := 10) (by decide) (by decide +kernel) (by decide +kernel)) <|
    zall_c (zs_puti X (pc := 12) (ty := Jvm.ClassFile.FieldType.int) zc_X5 (by decide) (zin ui_X5) tyX5_ok nmX5 (.tail _ gw_1_227) rfl (by decide +kernel) (by decide +kernel) (by decide +kernel) zP_int) <|
    zall_c (zs_aload_n X (pc := 15) (q := 0) rfl (by decide +kernel)) <|
    zall_c (zs_iconst X (pc := 16) (by decide) (by decide +kernel)) <|
    zall_c (zs_puti X (pc := 17) (ty := Jvm.ClassFile.FieldType.int) zc_X5 (by decide) (zin ui_X5) tyX5_ok nmX5 (.tail _ gw_1_230) rfl (by decide +kernel) (by decide +kernel) (by decide +kernel) zP_int) <|
    zall_c (zs_aload_n X (pc := 20) (q := 0) rfl (by decide +kernel)) <|
    zall_c (zs_iconst X (pc := 21) (by decide) (by decide +kernel)) <|
    zall_c (zs_puti X (pc := 22) (ty := Jvm.ClassFile.FieldType.int) zc_X5 (by decide) (zin ui_X5) tyX5_ok nmX5 (.tail _ gw_1_233) rfl (by decide +kernel) (by decide +kernel) (by decide +kernel) zP_int) <|
    zall_c (zs_aload_n X (pc := 25) (q := 0) rfl (by decide +kernel)) <|
    zall_c (zs_iconst X (pc := 26) (by decide) (by decide +kernel)) <|
    zall_c (zs_puti X (pc := 27) (ty := Jvm.ClassFile.FieldType.int) zc_X5 (by decide) (zin ui_X5) tyX5_ok nmX5 (.tail _ gw_1_235) rfl (by decide +kernel) (by decide +kernel) (by decide +kernel) zP_int) <|
    zall_c (zs_aload_n X (pc := 30) (q := 0) rfl (by decide +kernel)) <|
    zall_c (zs_iconst X (pc := 31) (by decide) (by decide +kernel)) <|
    zall_c (zs_puti X (pc := 32) (ty := Jvm.ClassFile.FieldType.int) zc_X5 (by decide) (zin ui_X5) tyX5_ok nmX5 (.tail _ gw_1_238) rfl (by decide +kernel) (by decide +kernel) (by decide +kernel) zP_int) <|
    zall_c (zs_aload_n X (pc := 35) (q := 0) rfl (by decide +kernel)) <|
    zall_c (zs_bipush X (pc := 36) (by decide) (by decide +kernel) (by decide +kernel)) <|
    zall_c (zs_anewarray X (pc := 38) (C := "ReviewTable$Worker") (by decide) rfl (.tail _ gw_1_106) (by decide +kernel) (by decide +kernel)) <|
    zall_c (zs_putrF X (pc := 41) (ty := (Jvm.ClassFile.FieldType.array (Jvm.ClassFile.FieldType.object "ReviewTable$Worker"))) zc_X5 (by decide) (zin ui_X5) tyX5_ok nmX5 (.tail _ gw_2_0) rfl hnm rfl (by decide +kernel) (by decide +kernel) (by decide +kernel) zP_arr) <|
    zall_c (zs_aload_n X (pc := 44) (q := 0) rfl (by decide +kernel)) <|
    zall_c (zs_bipush X (pc := 45) (by decide) (by decide +kernel) (by decide +kernel)) <|
    zall_c (zs_anewarray X (pc := 47) (C := "ReviewTable$Row") (by decide) rfl (.tail _ gw_1_108) (by decide +kernel) (by decide +kernel)) <|
    zall_c (zs_putrF X (pc := 50) (ty := (Jvm.ClassFile.FieldType.array (Jvm.ClassFile.FieldType.object "ReviewTable$Row"))) zc_X5 (by decide) (zin ui_X5) tyX5_ok nmX5 (.tail _ gw_2_3) rfl hnm rfl (by decide +kernel) (by decide +kernel) (by decide +kernel) zP_arr) <|
    zall_c (zs_aload_n X (pc := 53) (q := 0) rfl (by decide +kernel)) <|
    zall_c (zs_bipush X (pc := 54) (by decide) (by decide +kernel) (by decide +kernel)) <|
    zall_c (zs_newarray20 X (pc := 56) (.tail _ gw_1_85) (by decide +kernel)) <|
    zall_c (zs_putrF X (pc := 58) (ty := (Jvm.ClassFile.FieldType.array Jvm.ClassFile.FieldType.int)) zc_X5 (by decide) (zin ui_X5) tyX5_ok nmX5 (.tail _ gw_2_5) rfl hnm rfl (by decide +kernel) (by decide +kernel) (by decide +kernel) zP_arr) <|
    zall_c (zs_aload_n X (pc := 61) (q := 0) rfl (by decide +kernel)) <|
    zall_c (zs_bipush X (pc := 62) (by decide) (by decide +kernel) (by decide +kernel)) <|
    zall_c (zs_newarray20 X (pc := 64) (.tail _ gw_1_85) (by decide +kernel)) <|
    zall_c (zs_putrF X (pc := 66) (ty := (Jvm.ClassFile.FieldType.array Jvm.ClassFile.FieldType.int)) zc_X5 (by decide) (zin ui_X5) tyX5_ok nmX5 (.tail _ gw_2_7) rfl hnm rfl (by decide +kernel) (by decide +kernel) (by decide +kernel) zP_arr) <|
    zall_c (zs_iconst X (pc := 69) (by decide) (by decide +kernel)) <|
    zall_c (zs_istore_n X (pc := 70) (q := 1) rfl (by decide) (by decide +kernel)) <|
    zall_c (zs_iload_n X (pc := 71) (q := 1) rfl (by decide +kernel)) <|
    zall_c (zs_bipush X (pc := 72) (by decide) (by decide +kernel) (by decide +kernel)) <|
    zall_c (zs_icmp_ge X (pc := 74) (off := 22) (by decide +kernel) (by decide)) <|
    zall_c (zs_aload_n X (pc := 77) (q := 0) rfl (by decide +kernel)) <|
    zall_c (zs_getr X (pc := 78) zc_X5 (by decide) (zin ui_X5) (.tail _ gw_2_0) (by decide +kernel) (by decide +kernel)) <|
    zall_c (zs_iload_n X (pc := 81) (q := 1) rfl (by decide +kernel)) <|
    zall_c (zs_new X (pc := 82) zc_X7 (zin ui_X7) tyX7_ok (.tail _ gw_1_106) (.tail _ gw_1_110) (.tail _ gw_1_9) (by decide +kernel) (by decide +kernel)) <|
    zall_c (zs_dup X (pc := 85) (by decide +kernel)) <|
    zall_c (zs_callIN0 X (pc := 86) (rt := none) (idx := 49) (host := "ReviewTable") (fun _ ht hxw => ⟨(zCN ht gw_1_113 gw_1_9 (by decide +kernel) hxw rfl rfl (by decide +kernel) ⟨Nat.le_of_ble_eq_true rfl, Nat.le_of_ble_eq_true rfl⟩), rfl, ht _ (.tail _ gw_1_112)⟩) h0 (by decide +kernel)) <|
    zall_c (zs_aastore X (pc := 89) (by decide) zc_X7 rfl (by decide +kernel)) <|
    zall_c (zs_iinc X (pc := 90) (by decide) (by decide +kernel)) <|
    zall_c (zs_goto X (pc := 93) (off := (-22)) (by decide +kernel) (by decide)) <|
    zall_c (zs_iconst X (pc := 96) (by decide) (by decide +kernel)) <|
    zall_c (zs_istore_n X (pc := 97) (q := 1) rfl (by decide) (by decide +kernel)) <|
    zall_c (zs_iload_n X (pc := 98) (q := 1) rfl (by decide +kernel)) <|
    zall_c (zs_bipush X (pc := 99) (by decide) (by decide +kernel) (by decide +kernel)) <|
    zall_c (zs_icmp_ge X (pc := 101) (off := 22) (by decide +kernel) (by decide)) <|
    zall_c (zs_aload_n X (pc := 104) (q := 0) rfl (by decide +kernel)) <|
    zall_c (zs_getr X (pc := 105) zc_X5 (by decide) (zin ui_X5) (.tail _ gw_2_3) (by decide +kernel) (by decide +kernel)) <|
    zall_c (zs_iload_n X (pc := 108) (q := 1) rfl (by decide +kernel)) <|
    zall_c (zs_new X (pc := 109) zc_X4 (zin ui_X4) tyX4_ok (.tail _ gw_1_108) (.tail _ gw_1_168) (.tail _ gw_1_10) (by decide +kernel) (by decide +kernel)) <|
    zall_c (zs_dup X (pc := 112) (by decide +kernel)) <|
    zall_c (zs_callIN X (pc := 113) (rt := none) (idx := 50) (host := "ReviewTable") (fun _ ht hxw => ⟨(zCN ht gw_1_171 gw_1_10 (by decide +kernel) hxw rfl rfl (by decide +kernel) ⟨Nat.le_of_ble_eq_true rfl, Nat.le_of_ble_eq_true rfl⟩), rfl, ht _ (.tail _ gw_1_170)⟩) h1 (by decide +kernel)) <|
    zall_c (zs_aastore X (pc := 116) (by decide) zc_X4 rfl (by decide +kernel)) <|
    zall_c (zs_iinc X (pc := 117) (by decide) (by decide +kernel)) <|
    zall_c (zs_goto X (pc := 120) (off := (-22)) (by decide +kernel) (by decide)) <|
    zall_c (zs_vret X (pc := 123) rfl (by decide +kernel)) <|
    zall_n
theorem met_X5_init {l : Launch} (hl : l.stackTraces = false) {T0 : ZTf} {T1 : ZTf} (h0 : zMet l yX7_init (Cond.code yX7_init cX7_init 1 (Option.none : Option Jvm.ClassFile.FieldType) :: zG) rm_X7_init 0 0 T0) (h1 : zMet l yX4_init (Cond.code yX4_init cX4_init 1 (Option.none : Option Jvm.ClassFile.FieldType) :: zG) rm_X4_init 1 9 T1) {T : ZTf} (bd : zBd (cd_X5_init T0 T1) 2 58 618 T) : zMet l yX5_init (Cond.code yX5_init cX5_init 2 (Option.none : Option Jvm.ClassFile.FieldType) :: zG) rm_X5_init 58 618 T := zMet_of hl (by decide +kernel) rfl rfl rfl rfl (hs_X5_init hl h0 h1) bd

abbrev rm_X5_clear : Room := { frames := 2, cells := 0, slots := 0, locals := 53 }
def cd_X5_clear (T0 : ZTf) : List (Nat × ZTr) := [(0, tAld 0 1), (1, tC (zi 0) 2), (2, tPutI 8 3 (fun _ => True) 5), (5, tAld 0 6), (6, tC (zi 0) 7), (7, tPutI 8 4 (fun _ => True) 10), (10, tAld 0 11), (11, tC (zi 0) 12), (12, tPutI 8 5 (fun _ => True) 15), (15, tAld 0 16), (16, tGetR 8 8 19), (19, tC (zi 0) 20), (20, tCall0 2 T0 zAny 23), (23, tAld 0 24), (24, tGetR 8 9 27), (27, tC (zi 0) 28), (28, tCall0 2 T0 zAny 31), (31, tRv)]
set_option maxRecDepth 100000 in
set_option maxHeartbeats 4000000 in
theorem hs_X5_clear {l : Launch} (hl : l.stackTraces = false) {T0 : ZTf} (h0 : zMet l yJ7_fill_53178 (Cond.code yJ7_fill_53178 cJ7_fill_53178 4 (Option.none : Option Jvm.ClassFile.FieldType) :: zG) rm_J7_fill_53178 0 0 T0) (p : Program) (e : Env) (s : State) (m : MethodId) (args : Array Value) (below : List Frame) (meth : Method) (c : Code) (D : va_G) (A : Nat → Prop) (a0 : Nat → Nat) (M0 : ZM) (K : ZRet) (KX : ZEx) (X : zCtx p l rm_X5_clear s m args meth c cX5_clear RX5 (Cond.code yX5_clear cX5_clear 1 (Option.none : Option Jvm.ClassFile.FieldType) :: zG) 1 (Option.none : Option Jvm.ClassFile.FieldType) D A a0 M0 0 0) (hnm : meth.name = yX5_clear.name) (hout : ∀ x ∈ c.exceptionTable.toList, False) : ∀ q ∈ cd_X5_clear T0, zSd p l e rm_X5_clear s m args below meth c 1 D A a0 M0 K KX 0 0 q.1 q.2 :=
    zall_c (zs_aload_n X (pc := 0) (q := 0) rfl (by decide +kernel)) <|
    zall_c (zs_iconst X (pc := 1) (by decide) (by decide +kernel)) <|
    zall_c (zs_puti X (pc := 2) (ty := Jvm.ClassFile.FieldType.int) zc_X5 (by decide) (zin ui_X5) tyX5_ok nmX5 (.tail _ gw_1_233) rfl (by decide +kernel) (by decide +kernel) (by decide +kernel) zP_int) <|
    zall_c (zs_aload_n X (pc := 5) (q := 0) rfl (by decide +kernel)) <|
    zall_c (zs_iconst X (pc := 6) (by decide) (by decide +kernel)) <|
    zall_c (zs_puti X (pc := 7) (ty := Jvm.ClassFile.FieldType.int) zc_X5 (by decide) (zin ui_X5) tyX5_ok nmX5 (.tail _ gw_1_235) rfl (by decide +kernel) (by decide +kernel) (by decide +kernel) zP_int) <|
    zall_c (zs_aload_n X (pc := 10) (q := 0) rfl (by decide +kernel)) <|
    zall_c (zs_iconst X (pc := 11) (by decide) (by decide +kernel)) <|
    zall_c (zs_puti X (pc := 12) (ty := Jvm.ClassFile.FieldType.int) zc_X5 (by decide) (zin ui_X5) tyX5_ok nmX5 (.tail _ gw_1_238) rfl (by decide +kernel) (by decide +kernel) (by decide +kernel) zP_int) <|
    zall_c (zs_aload_n X (pc := 15) (q := 0) rfl (by decide +kernel)) <|
    zall_c (zs_getr X (pc := 16) zc_X5 (by decide) (zin ui_X5) (.tail _ gw_2_5) (by decide +kernel) (by decide +kernel)) <|
    zall_c (zs_iconst X (pc := 19) (by decide) (by decide +kernel)) <|
    zall_c (zs_callS0 X (pc := 20) (fun _ ht => ⟨(zCB ht gw_2_166 gw_1_19 gw_2_164 rfl rfl (by decide +kernel) ⟨Nat.le_of_ble_eq_true rfl, Nat.le_of_ble_eq_true rfl⟩), ht _ (.tail _ gw_2_165)⟩) h0 hout (by decide +kernel)) <|
    zall_c (zs_aload_n X (pc := 23) (q := 0) rfl (by decide +kernel)) <|
    zall_c (zs_getr X (pc := 24) zc_X5 (by decide) (zin ui_X5) (.tail _ gw_2_7) (by decide +kernel) (by decide +kernel)) <|
    zall_c (zs_iconst X (pc := 27) (by decide) (by decide +kernel)) <|
    zall_c (zs_callS0 X (pc := 28) (fun _ ht => ⟨(zCB ht gw_2_166 gw_1_19 gw_2_164 rfl rfl (by decide +kernel) ⟨Nat.le_of_ble_eq_true rfl, Nat.le_of_ble_eq_true rfl⟩), ht _ (.tail _ gw_2_165)⟩) h0 hout (by decide +kernel)) <|
    zall_c (zs_vret X (pc := 31) rfl (by decide +kernel)) <|
    zall_n
theorem met_X5_clear {l : Launch} (hl : l.stackTraces = false) {T0 : ZTf} (h0 : zMet l yJ7_fill_53178 (Cond.code yJ7_fill_53178 cJ7_fill_53178 4 (Option.none : Option Jvm.ClassFile.FieldType) :: zG) rm_J7_fill_53178 0 0 T0) {T : ZTf} (bd : zBd (cd_X5_clear T0) 1 0 0 T) : zMet l yX5_clear (Cond.code yX5_clear cX5_clear 1 (Option.none : Option Jvm.ClassFile.FieldType) :: zG) rm_X5_clear 0 0 T := zMet_of hl (by decide +kernel) rfl rfl rfl rfl (hs_X5_clear hl h0) bd

abbrev rm_X5_copyFrom : Room := { frames := 2, cells := 0, slots := 0, locals := 81 }
def cd_X5_copyFrom (T0 : ZTf) (T1 : ZTf) : List (Nat × ZTr) := [(0, tAld 0 1), (1, tAld 1 2), (2, tGetI 8 0 5), (5, tPutI 8 0 (fun _ => True) 8), (8, tAld 0 9), (9, tAld 1 10), (10, tGetI 8 1 13), (13, tPutI 8 1 (fun _ => True) 16), (16, tAld 0 17), (17, tAld 1 18), (18, tGetI 8 2 21), (21, tPutI 8 2 (fun _ => True) 24), (24, tAld 0 25), (25, tAld 1 26), (26, tGetI 8 3 29), (29, tPutI 8 3 (fun _ => True) 32), (32, tAld 0 33), (33, tAld 1 34), (34, tGetI 8 4 37), (37, tPutI 8 4 (fun _ => True) 40), (40, tAld 0 41), (41, tAld 1 42), (42, tGetI 8 5 45), (45, tPutI 8 5 (fun _ => True) 48), (48, tC (zi 0) 49), (49, tIst 2 50), (50, tIld 2 51), (51, tAld 0 52), (52, tGetI 8 4 55), (55, tIc_ge 79 58), (58, tAld 0 59), (59, tGetR 8 6 62), (62, tIld 2 63), (63, tAal 30 64), (64, tAld 1 65), (65, tGetR 8 6 68), (68, tIld 2 69), (69, tAal 30 70), (70, tCall0 2 T0 (zRcv 10) 73), (73, tInc 2 1 76), (76, tGo 50), (79, tC (zi 0) 80), (80, tIst 2 81), (81, tIld 2 82), (82, tAld 0 83), (83, tGetI 8 5 86), (86, tIc_ge 110 89), (89, tAld 0 90), (90, tGetR 8 7 93), (93, tIld 2 94), (94, tAal 31 95), (95, tAld 1 96), (96, tGetR 8 7 99), (99, tIld 2 100), (100, tAal 31 101), (101, tCall0 2 T1 (zRcv 7) 104), (104, tInc 2 1 107), (107, tGo 81), (110, tAld 1 111), (111, tGetR 8 8 114), (114, tC (zi 0) 115), (115, tAld 0 116), (116, tGetR 8 8 119), (119, tC (zi 0) 120), (120, tAld 0 121), (121, tGetR 8 8 124), (124, tLen 125), (125, tCpy 20 (fun _ => True) 128), (128, tAld 1 129), (129, tGetR 8 9 132), (132, tC (zi 0) 133), (133, tAld 0 134), (134, tGetR 8 9 137), (137, tC (zi 0) 138), (138, tAld 0 139), (139, tGetR 8 9 142), (142, tLen 143), (143, tCpy 20 (fun _ => True) 146), (146, tRv)]
set_option maxRecDepth 100000 in
set_option maxHeartbeats 4000000 in
theorem hs_X5_copyFrom {l : Launch} (hl : l.stackTraces = false) {T0 : ZTf} {T1 : ZTf} (h0 : zMet l yX7_copyFrom (Cond.code yX7_copyFrom cX7_copyFrom 2 (Option.none : Option Jvm.ClassFile.FieldType) :: zG) rm_X7_copyFrom 0 0 T0) (h1 : zMet l yX4_copyFrom (Cond.code yX4_copyFrom cX4_copyFrom 2 (Option.none : Option Jvm.ClassFile.FieldType) :: zG) rm_X4_copyFrom 0 0 T1) (p : Program) (e : Env) (s : State) (m : MethodId) (args : Array Value) (below : List Frame) (meth : Method) (c : Code) (D : va_G) (A : Nat → Prop) (a0 : Nat → Nat) (M0 : ZM) (K : ZRet) (KX : ZEx) (X : zCtx p l rm_X5_copyFrom s m args meth c cX5_copyFrom RX5 (Cond.code yX5_copyFrom cX5_copyFrom 3 (Option.none : Option Jvm.ClassFile.FieldType) :: zG) 3 (Option.none : Option Jvm.ClassFile.FieldType) D A a0 M0 0 0) (hnm : meth.name = yX5_copyFrom.name) (hout : ∀ x ∈ c.exceptionTable.toList, False) : ∀ q ∈ cd_X5_copyFrom T0 T1, zSd p l e rm_X5_copyFrom s m args below meth c 3 D A a0 M0 K KX 0 0 q.1 q.2 :=
    zall_c (zs_aload_n X (pc := 0) (q := 0) rfl (by decide +kernel)) <|
    zall_c (zs_aload_n X (pc := 1) (q := 1) rfl (by decide +kernel)) <|
    zall_c (zs_geti X (pc := 2) zc_X5 (by decide) (zin ui_X5) (.tail _ gw_1_224) (by decide +kernel) (by decide +kernel)) <|
    zall_c (zs_puti X (pc := 5) (ty := Jvm.ClassFile.FieldType.int) zc_X5 (by decide) (zin ui_X5) tyX5_ok nmX5 (.tail _ gw_1_224) rfl (by decide +kernel) (by decide +kernel) (by decide +kernel) zP_int) <|
    zall_c (zs_aload_n X (pc := 8) (q := 0) rfl (by decide +kernel)) <|
    zall_c (zs_aload_n X (pc := 9) (q := 1) rfl (by decide +kernel)) <|
    zall_c (zs_geti X (pc := 10) zc_X5 (by decide) (zin ui_X5) (.tail _ gw_1_227) (by decide +kernel) (by decide +kernel)) <|
    zall_c (zs_puti X (pc := 13) (ty := Jvm.ClassFile.FieldType.int) zc_X5 (by decide) (zin ui_X5) tyX5_ok nmX5 (.tail _ gw_1_227) rfl (by decide +kernel) (by decide +kernel) (by decide +kernel) zP_int) <|
    zall_c (zs_aload_n X (pc := 16) (q := 0) rfl (by decide +kernel)) <|
    zall_c (zs_aload_n X (pc := 17) (q := 1) rfl (by decide +kernel)) <|
    zall_c (zs_geti X (pc := 18) zc_X5 (by decide) (zin ui_X5) (.tail _ gw_1_230) (by decide +kernel) (by decide +kernel)) <|
    zall_c (zs_puti X (pc := 21) (ty := Jvm.ClassFile.FieldType.int) zc_X5 (by decide) (zin ui_X5) tyX5_ok nmX5 (.tail _ gw_1_230) rfl (by decide +kernel) (by decide +kernel) (by decide +kernel) zP_int) <|
    zall_c (zs_aload_n X (pc := 24) (q := 0) rfl (by decide +kernel)) <|
    zall_c (zs_aload_n X (pc := 25) (q := 1) rfl (by decide +kernel)) <|
    zall_c (zs_geti X (pc := 26) zc_X5 (by decide) (zin ui_X5) (.tail _ gw_1_233) (by decide +kernel) (by decide +kernel)) <|
    zall_c (zs_puti X (pc := 29) (ty := Jvm.ClassFile.FieldType.int) zc_X5 (by decide) (zin ui_X5) tyX5_ok nmX5 (.tail _ gw_1_233) rfl (by decide +kernel) (by decide +kernel) (by decide +kernel) zP_int) <|
    zall_c (zs_aload_n X (pc := 32) (q := 0) rfl (by decide +kernel)) <|
    zall_c (zs_aload_n X (pc := 33) (q := 1) rfl (by decide +kernel)) <|
    zall_c (zs_geti X (pc := 34) zc_X5 (by decide) (zin ui_X5) (.tail _ gw_1_235) (by decide +kernel) (by decide +kernel)) <|
    zall_c (zs_puti X (pc := 37) (ty := Jvm.ClassFile.FieldType.int) zc_X5 (by decide) (zin ui_X5) tyX5_ok nmX5 (.tail _ gw_1_235) rfl (by decide +kernel) (by decide +kernel) (by decide +kernel) zP_int) <|
    zall_c (zs_aload_n X (pc := 40) (q := 0) rfl (by decide +kernel)) <|
    zall_c (zs_aload_n X (pc := 41) (q := 1) rfl (by decide +kernel)) <|
    zall_c (zs_geti X (pc := 42) zc_X5 (by decide) (zin ui_X5) (.tail _ gw_1_238) (by decide +kernel) (by decide +kernel)) <|
    zall_c (zs_puti X (pc := 45) (ty := Jvm.ClassFile.FieldType.int) zc_X5 (by decide) (zin ui_X5) tyX5_ok nmX5 (.tail _ gw_1_238) rfl (by decide +kernel) (by decide +kernel) (by decide +kernel) zP_int) <|
    zall_c (zs_iconst X (pc := 48) (by decide) (by decide +kernel)) <|
    zall_c (zs_istore_n X (pc := 49) (q := 2) rfl (by decide) (by decide +kernel)) <|
    zall_c (zs_iload_n X (pc := 50) (q := 2) rfl (by decide +kernel)) <|
    zall_c (zs_aload_n X (pc := 51) (q := 0) rfl (by decide +kernel)) <|
    zall_c (zs_geti X (pc := 52) zc_X5 (by decide) (zin ui_X5) (.tail _ gw_1_235) (by decide +kernel) (by decide +kernel)) <|
    zall_c (zs_icmp_ge X (pc := 55) (off := 24) (by decide +kernel) (by decide)) <|
    zall_c (zs_aload_n X (pc := 58) (q := 0) rfl (by decide +kernel)) <|
    zall_c (zs_getr X (pc := 59) zc_X5 (by decide) (zin ui_X5) (.tail _ gw_2_0) (by decide +kernel) (by decide +kernel)) <|
    zall_c (zs_iload_n X (pc := 62) (q := 2) rfl (by decide +kernel)) <|
    zall_c (zs_aaload X (pc := 63) (by decide) rfl (by decide +kernel)) <|
    zall_c (zs_aload_n X (pc := 64) (q := 1) rfl (by decide +kernel)) <|
    zall_c (zs_getr X (pc := 65) zc_X5 (by decide) (zin ui_X5) (.tail _ gw_2_0) (by decide +kernel) (by decide +kernel)) <|
    zall_c (zs_iload_n X (pc := 68) (q := 2) rfl (by decide +kernel)) <|
    zall_c (zs_aaload X (pc := 69) (by decide) rfl (by decide +kernel)) <|
    zall_c (zs_callV0 X (pc := 70) zc_X7 (fun _ ht => ⟨(zCB ht gw_4_219 gw_1_9 gw_4_216 rfl rfl (by decide +kernel) ⟨Nat.le_of_ble_eq_true rfl, Nat.le_of_ble_eq_true rfl⟩), ht _ (.tail _ gw_4_217), ht _ (.tail _ gw_4_218)⟩) h0 hout (by decide +kernel)) <|
    zall_c (zs_iinc X (pc := 73) (by decide) (by decide +kernel)) <|
    zall_c (zs_goto X (pc := 76) (off := (-26)) (by decide +kernel) (by decide)) <|
    zall_c (zs_iconst X (pc := 79) (by decide) (by decide +kernel)) <|
    zall_c (zs_istore_n X (pc := 80) (q := 2) rfl (by decide) (by decide +kernel)) <|
    zall_c (zs_iload_n X (pc := 81) (q := 2) rfl (by decide +kernel)) <|
    zall_c (zs_aload_n X (pc := 82) (q := 0) rfl (by decide +kernel)) <|
    zall_c (zs_geti X (pc := 83) zc_X5 (by decide) (zin ui_X5) (.tail _ gw_1_238) (by decide +kernel) (by decide +kernel)) <|
    zall_c (zs_icmp_ge X (pc := 86) (off := 24) (by decide +kernel) (by decide)) <|
    zall_c (zs_aload_n X (pc := 89) (q := 0) rfl (by decide +kernel)) <|
    zall_c (zs_getr X (pc := 90) zc_X5 (by decide) (zin ui_X5) (.tail _ gw_2_3) (by decide +kernel) (by decide +kernel)) <|
    zall_c (zs_iload_n X (pc := 93) (q := 2) rfl (by decide +kernel)) <|
    zall_c (zs_aaload X (pc := 94) (by decide) rfl (by decide +kernel)) <|
    zall_c (zs_aload_n X (pc := 95) (q := 1) rfl (by decide +kernel)) <|
    zall_c (zs_getr X (pc := 96) zc_X5 (by decide) (zin ui_X5) (.tail _ gw_2_3) (by decide +kernel) (by decide +kernel)) <|
    zall_c (zs_iload_n X (pc := 99) (q := 2) rfl (by decide +kernel)) <|
    zall_c (zs_aaload X (pc := 100) (by decide) rfl (by decide +kernel)) <|
    zall_c (zs_callV0 X (pc := 101) zc_X4 (fun _ ht => ⟨(zCB ht gw_4_223 gw_1_10 gw_4_220 rfl rfl (by decide +kernel) ⟨Nat.le_of_ble_eq_true rfl, Nat.le_of_ble_eq_true rfl⟩), ht _ (.tail _ gw_4_221), ht _ (.tail _ gw_4_222)⟩) h1 hout (by decide +kernel)) <|
    zall_c (zs_iinc X (pc := 104) (by decide) (by decide +kernel)) <|
    zall_c (zs_goto X (pc := 107) (off := (-26)) (by decide +kernel) (by decide)) <|
    zall_c (zs_aload_n X (pc := 110) (q := 1) rfl (by decide +kernel)) <|
    zall_c (zs_getr X (pc := 111) zc_X5 (by decide) (zin ui_X5) (.tail _ gw_2_5) (by decide +kernel) (by decide +kernel)) <|
    zall_c (zs_iconst X (pc := 114) (by decide) (by decide +kernel)) <|
    zall_c (zs_aload_n X (pc := 115) (q := 0) rfl (by decide +kernel)) <|
    zall_c (zs_getr X (pc := 116) zc_X5 (by decide) (zin ui_X5) (.tail _ gw_2_5) (by decide +kernel) (by decide +kernel)) <|
    zall_c (zs_iconst X (pc := 119) (by decide) (by decide +kernel)) <|
    zall_c (zs_aload_n X (pc := 120) (q := 0) rfl (by decide +kernel)) <|
    zall_c (zs_getr X (pc := 121) zc_X5 (by decide) (zin ui_X5) (.tail _ gw_2_5) (by decide +kernel) (by decide +kernel)) <|
    zall_c (zs_len X (pc := 124) (by decide +kernel)) <|
    zall_c (zs_copy20 X (pc := 125) (.tail _ gw_4_225) (.tail _ gw_3_114) (.tail _ gw_3_113) (.tail _ gw_1_28) (Nat.le_of_ble_eq_true rfl) (by show 8 + (nativeFrameWords "java/lang/System" "arraycopy" 5 + 11) ≤ 81; decide +kernel) (by decide +kernel)) <|
    zall_c (zs_aload_n X (pc := 128) (q := 1) rfl (by decide +kernel)) <|
    zall_c (zs_getr X (pc := 129) zc_X5 (by decide) (zin ui_X5) (.tail _ gw_2_7) (by decide +kernel) (by decide +kernel)) <|
    zall_c (zs_iconst X (pc := 132) (by decide) (by decide +kernel)) <|
    zall_c (zs_aload_n X (pc := 133) (q := 0) rfl (by decide +kernel)) <|
    zall_c (zs_getr X (pc := 134) zc_X5 (by decide) (zin ui_X5) (.tail _ gw_2_7) (by decide +kernel) (by decide +kernel)) <|
    zall_c (zs_iconst X (pc := 137) (by decide) (by decide +kernel)) <|
    zall_c (zs_aload_n X (pc := 138) (q := 0) rfl (by decide +kernel)) <|
    zall_c (zs_getr X (pc := 139) zc_X5 (by decide) (zin ui_X5) (.tail _ gw_2_7) (by decide +kernel) (by decide +kernel)) <|
    zall_c (zs_len X (pc := 142) (by decide +kernel)) <|
    zall_c (zs_copy20 X (pc := 143) (.tail _ gw_4_225) (.tail _ gw_3_114) (.tail _ gw_3_113) (.tail _ gw_1_28) (Nat.le_of_ble_eq_true rfl) (by show 8 + (nativeFrameWords "java/lang/System" "arraycopy" 5 + 11) ≤ 81; decide +kernel) (by decide +kernel)) <|
    zall_c (zs_vret X (pc := 146) rfl (by decide +kernel)) <|
    zall_n
theorem met_X5_copyFrom {l : Launch} (hl : l.stackTraces = false) {T0 : ZTf} {T1 : ZTf} (h0 : zMet l yX7_copyFrom (Cond.code yX7_copyFrom cX7_copyFrom 2 (Option.none : Option Jvm.ClassFile.FieldType) :: zG) rm_X7_copyFrom 0 0 T0) (h1 : zMet l yX4_copyFrom (Cond.code yX4_copyFrom cX4_copyFrom 2 (Option.none : Option Jvm.ClassFile.FieldType) :: zG) rm_X4_copyFrom 0 0 T1) {T : ZTf} (bd : zBd (cd_X5_copyFrom T0 T1) 3 0 0 T) : zMet l yX5_copyFrom (Cond.code yX5_copyFrom cX5_copyFrom 3 (Option.none : Option Jvm.ClassFile.FieldType) :: zG) rm_X5_copyFrom 0 0 T := zMet_of hl (by decide +kernel) rfl rfl rfl rfl (hs_X5_copyFrom hl h0 h1) bd

abbrev rm_X5_putWorker : Room := { frames := 2, cells := 0, slots := 0, locals := 54 }
def cd_X5_putWorker (T0 : ZTf) : List (Nat × ZTr) := [(0, tAld 0 1), (1, tGetI 8 4 4), (4, tC (zi 6) 6), (6, tIc_lt 10 9), (9, tRv), (10, tAld 0 11), (11, tGetR 8 6 14), (14, tAld 0 15), (15, tGetI 8 4 18), (18, tAal 30 19), (19, tAld 1 20), (20, tIld 2 21), (21, tIld 3 22), (22, tIld 4 24), (24, tCall0 5 T0 (zRcv 10) 27), (27, tAld 0 28), (28, tDup 29), (29, tGetI 8 4 32), (32, tC (zi 1) 33), (33, tAdd 34), (34, tPutI 8 4 (fun _ => True) 37), (37, tRv)]
set_option maxRecDepth 100000 in
set_option maxHeartbeats 4000000 in
theorem hs_X5_putWorker {l : Launch} (hl : l.stackTraces = false) {T0 : ZTf} (h0 : zMet l yX7_begin (Cond.code yX7_begin cX7_begin 5 (Option.none : Option Jvm.ClassFile.FieldType) :: zG) rm_X7_begin 0 0 T0) (p : Program) (e : Env) (s : State) (m : MethodId) (args : Array Value) (below : List Frame) (meth : Method) (c : Code) (D : va_G) (A : Nat → Prop) (a0 : Nat → Nat) (M0 : ZM) (K : ZRet) (KX : ZEx) (X : zCtx p l rm_X5_putWorker s m args meth c cX5_putWorker RX5 (Cond.code yX5_putWorker cX5_putWorker 5 (Option.none : Option Jvm.ClassFile.FieldType) :: zG) 5 (Option.none : Option Jvm.ClassFile.FieldType) D A a0 M0 0 0) (hnm : meth.name = yX5_putWorker.name) (hout : ∀ x ∈ c.exceptionTable.toList, False) : ∀ q ∈ cd_X5_putWorker T0, zSd p l e rm_X5_putWorker s m args below meth c 5 D A a0 M0 K KX 0 0 q.1 q.2 :=
    zall_c (zs_aload_n X (pc := 0) (q := 0) rfl (by decide +kernel)) <|
    zall_c (zs_geti X (pc := 1) zc_X5 (by decide) (zin ui_X5) (.tail _ gw_1_235) (by decide +kernel) (by decide +kernel)) <|
    zall_c (zs_bipush X (pc := 4) (by decide) (by decide +kernel) (by decide +kernel)) <|
    zall_c (zs_icmp_lt X (pc := 6) (off := 4) (by decide +kernel) (by decide)) <|
    zall_c (zs_vret X (pc := 9) rfl (by decide +kernel)) <|
    zall_c (zs_aload_n X (pc := 10) (q := 0) rfl (by decide +kernel)) <|
    zall_c (zs_getr X (pc := 11) zc_X5 (by decide) (zin ui_X5) (.tail _ gw_2_0) (by decide +kernel) (by decide +kernel)) <|
    zall_c (zs_aload_n X (pc := 14) (q := 0) rfl (by decide +kernel)) <|
    zall_c (zs_geti X (pc := 15) zc_X5 (by decide) (zin ui_X5) (.tail _ gw_1_235) (by decide +kernel) (by decide +kernel)) <|
    zall_c (zs_aaload X (pc := 18) (by decide) rfl (by decide +kernel)) <|
    zall_c (zs_aload_n X (pc := 19) (q := 1) rfl (by decide +kernel)) <|
    zall_c (zs_iload_n X (pc := 20) (q := 2) rfl (by decide +kernel)) <|
    zall_c (zs_iload_n X (pc := 21) (q := 3) rfl (by decide +kernel)) <|
    zall_c (zs_iload X (pc := 22) (by decide +kernel)) <|
    zall_c (zs_callV0 X (pc := 24) zc_X7 (fun _ ht => ⟨(zCB ht gw_4_166 gw_1_9 gw_4_163 rfl rfl (by decide +kernel) ⟨Nat.le_of_ble_eq_true rfl, Nat.le_of_ble_eq_true rfl⟩), ht _ (.tail _ gw_4_164), ht _ (.tail _ gw_4_165)⟩) h0 hout (by decide +kernel)) <|
    zall_c (zs_aload_n X (pc := 27) (q := 0) rfl (by decide +kernel)) <|
    zall_c (zs_dup X (pc := 28) (by decide +kernel)) <|
    zall_c (zs_geti X (pc := 29) zc_X5 (by decide) (zin ui_X5) (.tail _ gw_1_235) (by decide +kernel) (by decide +kernel)) <|
    zall_c (zs_iconst X (pc := 32) (by decide) (by decide +kernel)) <|
    zall_c (zs_iadd X (pc := 33) (by decide +kernel)) <|
    zall_c (zs_puti X (pc := 34) (ty := Jvm.ClassFile.FieldType.int) zc_X5 (by decide) (zin ui_X5) tyX5_ok nmX5 (.tail _ gw_1_235) rfl (by decide +kernel) (by decide +kernel) (by decide +kernel) zP_int) <|
    zall_c (zs_vret X (pc := 37) rfl (by decide +kernel)) <|
    zall_n
theorem met_X5_putWorker {l : Launch} (hl : l.stackTraces = false) {T0 : ZTf} (h0 : zMet l yX7_begin (Cond.code yX7_begin cX7_begin 5 (Option.none : Option Jvm.ClassFile.FieldType) :: zG) rm_X7_begin 0 0 T0) {T : ZTf} (bd : zBd (cd_X5_putWorker T0) 5 0 0 T) : zMet l yX5_putWorker (Cond.code yX5_putWorker cX5_putWorker 5 (Option.none : Option Jvm.ClassFile.FieldType) :: zG) rm_X5_putWorker 0 0 T := zMet_of hl (by decide +kernel) rfl rfl rfl rfl (hs_X5_putWorker hl h0) bd

abbrev rm_X5_reasonAgainst : Room := { frames := 4, cells := 0, slots := 0, locals := 99 }
def cd_X5_reasonAgainst (T0 : ZTf) (T1 : ZTf) (T2 : ZTf) : List (Nat × ZTr) := [(0, tAld 0 1), (1, tIld 1 2), (2, tCall0 2 T0 (zRcv 8) 5), (5, tIf_eq 10 8), (8, tC (zi 1) 9), (9, tRi (fun _ => True)), (10, tAld 0 11), (11, tGetR 8 6 14), (14, tIld 1 15), (15, tAal 30 16), (16, tGetI 10 4 19), (19, tAld 0 20), (20, tGetR 8 6 23), (23, tIld 1 24), (24, tAal 30 25), (25, tGetI 10 2 28), (28, tIc_lt 33 31), (31, tC (zi 2) 32), (32, tRi (fun _ => True)), (33, tAld 0 34), (34, tGetR 8 7 37), (37, tIld 2 38), (38, tAal 31 39), (39, tCall0 1 T1 (zRcv 7) 42), (42, tIf_ne 47 45), (45, tC (zi 3) 46), (46, tRi (fun _ => True)), (47, tAld 0 48), (48, tIld 1 49), (49, tAld 0 50), (50, tGetR 8 7 53), (53, tIld 2 54), (54, tAal 31 55), (55, tCall0 3 T2 (zRcv 8) 58), (58, tRi (fun _ => True))]
set_option maxRecDepth 100000 in
set_option maxHeartbeats 4000000 in
theorem hs_X5_reasonAgainst {l : Launch} (hl : l.stackTraces = false) {T0 : ZTf} {T1 : ZTf} {T2 : ZTf} (h0 : zMet l yX5_isSuspended (Cond.code yX5_isSuspended cX5_isSuspended 2 (Option.some Jvm.ClassFile.FieldType.boolean) :: zG) rm_X5_isSuspended 0 0 T0) (h1 : zMet l yX4_missingWorkers (Cond.code yX4_missingWorkers cX4_missingWorkers 2 (Option.some Jvm.ClassFile.FieldType.int) :: zG) rm_X4_missingWorkers 0 0 T1) (h2 : zMet l yX5_clashWith (Cond.code yX5_clashWith cX5_clashWith 6 (Option.some Jvm.ClassFile.FieldType.int) :: zG) rm_X5_clashWith 0 0 T2) (p : Program) (e : Env) (s : State) (m : MethodId) (args : Array Value) (below : List Frame) (meth : Method) (c : Code) (D : va_G) (A : Nat → Prop) (a0 : Nat → Nat) (M0 : ZM) (K : ZRet) (KX : ZEx) (X : zCtx p l rm_X5_reasonAgainst s m args meth c cX5_reasonAgainst RX5 (Cond.code yX5_reasonAgainst cX5_reasonAgainst 3 (Option.some Jvm.ClassFile.FieldType.int) :: zG) 3 (Option.some Jvm.ClassFile.FieldType.int) D A a0 M0 0 0) (hnm : meth.name = yX5_reasonAgainst.name) (hout : ∀ x ∈ c.exceptionTable.toList, False) : ∀ q ∈ cd_X5_reasonAgainst T0 T1 T2, zSd p l e rm_X5_reasonAgainst s m args below meth c 3 D A a0 M0 K KX 0 0 q.1 q.2 :=
    zall_c (zs_aload_n X (pc := 0) (q := 0) rfl (by decide +kernel)) <|
    zall_c (zs_iload_n X (pc := 1) (q := 1) rfl (by decide +kernel)) <|
    zall_c (zs_callV0 X (pc := 2) zc_X5 (fun _ ht => ⟨(zCB ht gw_5_20 gw_1_8 gw_5_17 rfl rfl (by decide +kernel) ⟨Nat.le_of_ble_eq_true rfl, Nat.le_of_ble_eq_true rfl⟩), ht _ (.tail _ gw_5_18), ht _ (.tail _ gw_5_19)⟩) h0 hout (by decide +kernel)) <|
    zall_c (zs_if_eq X (pc := 5) (off := 5) (by decide +kernel) (by decide)) <|
    zall_c (zs_iconst X (pc := 8) (by decide) (by decide +kernel)) <|
    zall_c (zs_iret X (pc := 9) rfl (by decide +kernel)) <|
    zall_c (zs_aload_n X (pc := 10) (q := 0) rfl (by decide +kernel)) <|
    zall_c (zs_getr X (pc := 11) zc_X5 (by decide) (zin ui_X5) (.tail _ gw_2_0) (by decide +kernel) (by decide +kernel)) <|
    zall_c (zs_iload_n X (pc := 14) (q := 1) rfl (by decide +kernel)) <|
    zall_c (zs_aaload X (pc := 15) (by decide) rfl (by decide +kernel)) <|
    zall_c (zs_geti X (pc := 16) zc_X7 (by decide) (zin ui_X7) (.tail _ gw_1_131) (by decide +kernel) (by decide +kernel)) <|
    zall_c (zs_aload_n X (pc := 19) (q := 0) rfl (by decide +kernel)) <|
    zall_c (zs_getr X (pc := 20) zc_X5 (by decide) (zin ui_X5) (.tail _ gw_2_0) (by decide +kernel) (by decide +kernel)) <|
    zall_c (zs_iload_n X (pc := 23) (q := 1) rfl (by decide +kernel)) <|
    zall_c (zs_aaload X (pc := 24) (by decide) rfl (by decide +kernel)) <|
    zall_c (zs_geti X (pc := 25) zc_X7 (by decide) (zin ui_X7) (.tail _ gw_1_124) (by decide +kernel) (by decide +kernel)) <|
    zall_c (zs_icmp_lt X (pc := 28) (off := 5) (by decide +kernel) (by decide)) <|
    zall_c (zs_iconst X (pc := 31) (by decide) (by decide +kernel)) <|
    zall_c (zs_iret X (pc := 32) rfl (by decide +kernel)) <|
    zall_c (zs_aload_n X (pc := 33) (q := 0) rfl (by decide +kernel)) <|
    zall_c (zs_getr X (pc := 34) zc_X5 (by decide) (zin ui_X5) (.tail _ gw_2_3) (by decide +kernel) (by decide +kernel)) <|
    zall_c (zs_iload_n X (pc := 37) (q := 2) rfl (by decide +kernel)) <|
    zall_c (zs_aaload X (pc := 38) (by decide) rfl (by decide +kernel)) <|
    zall_c (zs_callV0 X (pc := 39) zc_X4 (fun _ ht => ⟨(zCB ht gw_5_24 gw_1_10 gw_5_21 rfl rfl (by decide +kernel) ⟨Nat.le_of_ble_eq_true rfl, Nat.le_of_ble_eq_true rfl⟩), ht _ (.tail _ gw_5_22), ht _ (.tail _ gw_5_23)⟩) h1 hout (by decide +kernel)) <|
    zall_c (zs_if_ne X (pc := 42) (off := 5) (by decide +kernel) (by decide)) <|
    zall_c (zs_iconst X (pc := 45) (by decide) (by decide +kernel)) <|
    zall_c (zs_iret X (pc := 46) rfl (by decide +kernel)) <|
    zall_c (zs_aload_n X (pc := 47) (q := 0) rfl (by decide +kernel)) <|
    zall_c (zs_iload_n X (pc := 48) (q := 1) rfl (by decide +kernel)) <|
    zall_c (zs_aload_n X (pc := 49) (q := 0) rfl (by decide +kernel)) <|
    zall_c (zs_getr X (pc := 50) zc_X5 (by decide) (zin ui_X5) (.tail _ gw_2_3) (by decide +kernel) (by decide +kernel)) <|
    zall_c (zs_iload_n X (pc := 53) (q := 2) rfl (by decide +kernel)) <|
    zall_c (zs_aaload X (pc := 54) (by decide) rfl (by decide +kernel)) <|
    zall_c (zs_callV0 X (pc := 55) zc_X5 (fun _ ht => ⟨(zCB ht gw_5_33 gw_1_8 gw_5_30 rfl rfl (by decide +kernel) ⟨Nat.le_of_ble_eq_true rfl, Nat.le_of_ble_eq_true rfl⟩), ht _ (.tail _ gw_5_31), ht _ (.tail _ gw_5_32)⟩) h2 hout (by decide +kernel)) <|
    zall_c (zs_iret X (pc := 58) rfl (by decide +kernel)) <|
    zall_n
theorem met_X5_reasonAgainst {l : Launch} (hl : l.stackTraces = false) {T0 : ZTf} {T1 : ZTf} {T2 : ZTf} (h0 : zMet l yX5_isSuspended (Cond.code yX5_isSuspended cX5_isSuspended 2 (Option.some Jvm.ClassFile.FieldType.boolean) :: zG) rm_X5_isSuspended 0 0 T0) (h1 : zMet l yX4_missingWorkers (Cond.code yX4_missingWorkers cX4_missingWorkers 2 (Option.some Jvm.ClassFile.FieldType.int) :: zG) rm_X4_missingWorkers 0 0 T1) (h2 : zMet l yX5_clashWith (Cond.code yX5_clashWith cX5_clashWith 6 (Option.some Jvm.ClassFile.FieldType.int) :: zG) rm_X5_clashWith 0 0 T2) {T : ZTf} (bd : zBd (cd_X5_reasonAgainst T0 T1 T2) 3 0 0 T) : zMet l yX5_reasonAgainst (Cond.code yX5_reasonAgainst cX5_reasonAgainst 3 (Option.some Jvm.ClassFile.FieldType.int) :: zG) rm_X5_reasonAgainst 0 0 T := zMet_of hl (by decide +kernel) rfl rfl rfl rfl (hs_X5_reasonAgainst hl h0 h1 h2) bd

abbrev rm_X5_rowsFor : Room := { frames := 5, cells := 0, slots := 0, locals := 121 }
def cd_X5_rowsFor (T0 : ZTf) : List (Nat × ZTr) := [(0, tC (zi 0) 1), (1, tIst 2 2), (2, tC (zi 0) 3), (3, tIst 3 4), (4, tIld 3 5), (5, tAld 0 6), (6, tGetI 8 5 9), (9, tIc_ge 33 12), (12, tAld 0 13), (13, tIld 1 14), (14, tIld 3 15), (15, tCall0 3 T0 (zRcv 8) 18), (18, tIf_ne 27 21), (21, tIld 2 22), (22, tC (zi 1) 23), (23, tIld 3 24), (24, tBif zshl 25), (25, tBif zor 26), (26, tIst 2 27), (27, tInc 3 1 30), (30, tGo 4), (33, tIld 2 34), (34, tRi (fun _ => True))]
set_option maxRecDepth 100000 in
set_option maxHeartbeats 4000000 in
theorem hs_X5_rowsFor {l : Launch} (hl : l.stackTraces = false) {T0 : ZTf} (h0 : zMet l yX5_reasonAgainst (Cond.code yX5_reasonAgainst cX5_reasonAgainst 3 (Option.some Jvm.ClassFile.FieldType.int) :: zG) rm_X5_reasonAgainst 0 0 T0) (p : Program) (e : Env) (s : State) (m : MethodId) (args : Array Value) (below : List Frame) (meth : Method) (c : Code) (D : va_G) (A : Nat → Prop) (a0 : Nat → Nat) (M0 : ZM) (K : ZRet) (KX : ZEx) (X : zCtx p l rm_X5_rowsFor s m args meth c cX5_rowsFor RX5 (Cond.code yX5_rowsFor cX5_rowsFor 4 (Option.some Jvm.ClassFile.FieldType.int) :: zG) 4 (Option.some Jvm.ClassFile.FieldType.int) D A a0 M0 0 0) (hnm : meth.name = yX5_rowsFor.name) (hout : ∀ x ∈ c.exceptionTable.toList, False) : ∀ q ∈ cd_X5_rowsFor T0, zSd p l e rm_X5_rowsFor s m args below meth c 4 D A a0 M0 K KX 0 0 q.1 q.2 :=
    zall_c (zs_iconst X (pc := 0) (by decide) (by decide +kernel)) <|
    zall_c (zs_istore_n X (pc := 1) (q := 2) rfl (by decide) (by decide +kernel)) <|
    zall_c (zs_iconst X (pc := 2) (by decide) (by decide +kernel)) <|
    zall_c (zs_istore_n X (pc := 3) (q := 3) rfl (by decide) (by decide +kernel)) <|
    zall_c (zs_iload_n X (pc := 4) (q := 3) rfl (by decide +kernel)) <|
    zall_c (zs_aload_n X (pc := 5) (q := 0) rfl (by decide +kernel)) <|
    zall_c (zs_geti X (pc := 6) zc_X5 (by decide) (zin ui_X5) (.tail _ gw_1_238) (by decide +kernel) (by decide +kernel)) <|
    zall_c (zs_icmp_ge X (pc := 9) (off := 24) (by decide +kernel) (by decide)) <|
    zall_c (zs_aload_n X (pc := 12) (q := 0) rfl (by decide +kernel)) <|
    zall_c (zs_iload_n X (pc := 13) (q := 1) rfl (by decide +kernel)) <|
    zall_c (zs_iload_n X (pc := 14) (q := 3) rfl (by decide +kernel)) <|
    zall_c (zs_callV0 X (pc := 15) zc_X5 (fun _ ht => ⟨(zCB ht gw_5_16 gw_1_8 gw_5_13 rfl rfl (by decide +kernel) ⟨Nat.le_of_ble_eq_true rfl, Nat.le_of_ble_eq_true rfl⟩), ht _ (.tail _ gw_5_14), ht _ (.tail _ gw_5_15)⟩) h0 hout (by decide +kernel)) <|
    zall_c (zs_if_ne X (pc := 18) (off := 9) (by decide +kernel) (by decide)) <|
    zall_c (zs_iload_n X (pc := 21) (q := 2) rfl (by decide +kernel)) <|
    zall_c (zs_iconst X (pc := 22) (by decide) (by decide +kernel)) <|
    zall_c (zs_iload_n X (pc := 23) (q := 3) rfl (by decide +kernel)) <|
    zall_c (zs_ishl X (pc := 24) (by decide +kernel)) <|
    zall_c (zs_ior X (pc := 25) (by decide +kernel)) <|
    zall_c (zs_istore_n X (pc := 26) (q := 2) rfl (by decide) (by decide +kernel)) <|
    zall_c (zs_iinc X (pc := 27) (by decide) (by decide +kernel)) <|
    zall_c (zs_goto X (pc := 30) (off := (-26)) (by decide +kernel) (by decide)) <|
    zall_c (zs_iload_n X (pc := 33) (q := 2) rfl (by decide +kernel)) <|
    zall_c (zs_iret X (pc := 34) rfl (by decide +kernel)) <|
    zall_n
theorem met_X5_rowsFor {l : Launch} (hl : l.stackTraces = false) {T0 : ZTf} (h0 : zMet l yX5_reasonAgainst (Cond.code yX5_reasonAgainst cX5_reasonAgainst 3 (Option.some Jvm.ClassFile.FieldType.int) :: zG) rm_X5_reasonAgainst 0 0 T0) {T : ZTf} (bd : zBd (cd_X5_rowsFor T0) 4 0 0 T) : zMet l yX5_rowsFor (Cond.code yX5_rowsFor cX5_rowsFor 4 (Option.some Jvm.ClassFile.FieldType.int) :: zG) rm_X5_rowsFor 0 0 T := zMet_of hl (by decide +kernel) rfl rfl rfl rfl (hs_X5_rowsFor hl h0) bd

abbrev rm_X5_workersFor : Room := { frames := 5, cells := 0, slots := 0, locals := 121 }
def cd_X5_workersFor (T0 : ZTf) : List (Nat × ZTr) := [(0, tC (zi 0) 1), (1, tIst 2 2), (2, tC (zi 0) 3), (3, tIst 3 4), (4, tIld 3 5), (5, tAld 0 6), (6, tGetI 8 4 9), (9, tIc_ge 33 12), (12, tAld 0 13), (13, tIld 3 14), (14, tIld 1 15), (15, tCall0 3 T0 (zRcv 8) 18), (18, tIf_ne 27 21), (21, tIld 2 22), (22, tC (zi 1) 23), (23, tIld 3 24), (24, tBif zshl 25), (25, tBif zor 26), (26, tIst 2 27), (27, tInc 3 1 30), (30, tGo 4), (33, tIld 2 34), (34, tRi (fun _ => True))]
set_option maxRecDepth 100000 in
set_option maxHeartbeats 4000000 in
theorem hs_X5_workersFor {l : Launch} (hl : l.stackTraces = false) {T0 : ZTf} (h0 : zMet l yX5_reasonAgainst (Cond.code yX5_reasonAgainst cX5_reasonAgainst 3 (Option.some Jvm.ClassFile.FieldType.int) :: zG) rm_X5_reasonAgainst 0 0 T0) (p : Program) (e : Env) (s : State) (m : MethodId) (args : Array Value) (below : List Frame) (meth : Method) (c : Code) (D : va_G) (A : Nat → Prop) (a0 : Nat → Nat) (M0 : ZM) (K : ZRet) (KX : ZEx) (X : zCtx p l rm_X5_workersFor s m args meth c cX5_workersFor RX5 (Cond.code yX5_workersFor cX5_workersFor 4 (Option.some Jvm.ClassFile.FieldType.int) :: zG) 4 (Option.some Jvm.ClassFile.FieldType.int) D A a0 M0 0 0) (hnm : meth.name = yX5_workersFor.name) (hout : ∀ x ∈ c.exceptionTable.toList, False) : ∀ q ∈ cd_X5_workersFor T0, zSd p l e rm_X5_workersFor s m args below meth c 4 D A a0 M0 K KX 0 0 q.1 q.2 :=
    zall_c (zs_iconst X (pc := 0) (by decide) (by decide +kernel)) <|
    zall_c (zs_istore_n X (pc := 1) (q := 2) rfl (by decide) (by decide +kernel)) <|
    zall_c (zs_iconst X (pc := 2) (by decide) (by decide +kernel)) <|
    zall_c (zs_istore_n X (pc := 3) (q := 3) rfl (by decide) (by decide +kernel)) <|
    zall_c (zs_iload_n X (pc := 4) (q := 3) rfl (by decide +kernel)) <|
    zall_c (zs_aload_n X (pc := 5) (q := 0) rfl (by decide +kernel)) <|
    zall_c (zs_geti X (pc := 6) zc_X5 (by decide) (zin ui_X5) (.tail _ gw_1_235) (by decide +kernel) (by decide +kernel)) <|
    zall_c (zs_icmp_ge X (pc := 9) (off := 24) (by decide +kernel) (by decide)) <|
    zall_c (zs_aload_n X (pc := 12) (q := 0) rfl (by decide +kernel)) <|
    zall_c (zs_iload_n X (pc := 13) (q := 3) rfl (by decide +kernel)) <|
    zall_c (zs_iload_n X (pc := 14) (q := 1) rfl (by decide +kernel)) <|
    zall_c (zs_callV0 X (pc := 15) zc_X5 (fun _ ht => ⟨(zCB ht gw_5_16 gw_1_8 gw_5_13 rfl rfl (by decide +kernel) ⟨Nat.le_of_ble_eq_true rfl, Nat.le_of_ble_eq_true rfl⟩), ht _ (.tail _ gw_5_14), ht _ (.tail _ gw_5_15)⟩) h0 hout (by decide +kernel)) <|
    zall_c (zs_if_ne X (pc := 18) (off := 9) (by decide +kernel) (by decide)) <|
    zall_c (zs_iload_n X (pc := 21) (q := 2) rfl (by decide +kernel)) <|
    zall_c (zs_iconst X (pc := 22) (by decide) (by decide +kernel)) <|
    zall_c (zs_iload_n X (pc := 23) (q := 3) rfl (by decide +kernel)) <|
    zall_c (zs_ishl X (pc := 24) (by decide +kernel)) <|
    zall_c (zs_ior X (pc := 25) (by decide +kernel)) <|
    zall_c (zs_istore_n X (pc := 26) (q := 2) rfl (by decide) (by decide +kernel)) <|
    zall_c (zs_iinc X (pc := 27) (by decide) (by decide +kernel)) <|
    zall_c (zs_goto X (pc := 30) (off := (-26)) (by decide +kernel) (by decide)) <|
    zall_c (zs_iload_n X (pc := 33) (q := 2) rfl (by decide +kernel)) <|
    zall_c (zs_iret X (pc := 34) rfl (by decide +kernel)) <|
    zall_n
theorem met_X5_workersFor {l : Launch} (hl : l.stackTraces = false) {T0 : ZTf} (h0 : zMet l yX5_reasonAgainst (Cond.code yX5_reasonAgainst cX5_reasonAgainst 3 (Option.some Jvm.ClassFile.FieldType.int) :: zG) rm_X5_reasonAgainst 0 0 T0) {T : ZTf} (bd : zBd (cd_X5_workersFor T0) 4 0 0 T) : zMet l yX5_workersFor (Cond.code yX5_workersFor cX5_workersFor 4 (Option.some Jvm.ClassFile.FieldType.int) :: zG) rm_X5_workersFor 0 0 T := zMet_of hl (by decide +kernel) rfl rfl rfl rfl (hs_X5_workersFor hl h0) bd

abbrev rm_X5_chosenRow : Room := { frames := 6, cells := 0, slots := 0, locals := 144 }
def cd_X5_chosenRow (T0 : ZTf) (T1 : ZTf) : List (Nat × ZTr) := [(0, tAld 0 1), (1, tIld 1 2), (2, tCall0 2 T0 (zRcv 8) 5), (5, tIst 2 6), (6, tC (zi (-1)) 7), (7, tIst 3 8), (8, tC (zi 0) 9), (9, tIst 4 11), (11, tIld 4 13), (13, tAld 0 14), (14, tGetI 8 5 17), (17, tIc_ge 77 20), (20, tIld 2 21), (21, tC (zi 1) 22), (22, tIld 4 24), (24, tBif zshl 25), (25, tBif zand 26), (26, tIf_eq 33 29), (29, tC (zi 1) 30), (30, tGo 34), (33, tC (zi 0) 34), (34, tIst 5 36), (36, tIld 5 38), (38, tIf_eq 71 41), (41, tIld 3 42), (42, tC (zi (-1)) 43), (43, tIc_eq 68 46), (46, tAld 0 47), (47, tGetR 8 7 50), (50, tIld 4 52), (52, tAal 31 53), (53, tCall0 1 T1 zAny 56), (56, tAld 0 57), (57, tGetR 8 7 60), (60, tIld 3 61), (61, tAal 31 62), (62, tCall0 1 T1 zAny 65), (65, tIc_le 71 68), (68, tIld 4 70), (70, tIst 3 71), (71, tInc 4 1 74), (74, tGo 11), (77, tIld 3 78), (78, tRi (fun _ => True))]
set_option maxRecDepth 100000 in
set_option maxHeartbeats 4000000 in
theorem hs_X5_chosenRow {l : Launch} (hl : l.stackTraces = false) {T0 : ZTf} {T1 : ZTf} (h0 : zMet l yX5_rowsFor (Cond.code yX5_rowsFor cX5_rowsFor 4 (Option.some Jvm.ClassFile.FieldType.int) :: zG) rm_X5_rowsFor 0 0 T0) (h1 : zMet l yX5_urgency (Cond.code yX5_urgency cX5_urgency 1 (Option.some Jvm.ClassFile.FieldType.int) :: zG) rm_X5_urgency 0 0 T1) (p : Program) (e : Env) (s : State) (m : MethodId) (args : Array Value) (below : List Frame) (meth : Method) (c : Code) (D : va_G) (A : Nat → Prop) (a0 : Nat → Nat) (M0 : ZM) (K : ZRet) (KX : ZEx) (X : zCtx p l rm_X5_chosenRow s m args meth c cX5_chosenRow RX5 (Cond.code yX5_chosenRow cX5_chosenRow 6 (Option.some Jvm.ClassFile.FieldType.int) :: zG) 6 (Option.some Jvm.ClassFile.FieldType.int) D A a0 M0 0 0) (hnm : meth.name = yX5_chosenRow.name) (hout : ∀ x ∈ c.exceptionTable.toList, False) : ∀ q ∈ cd_X5_chosenRow T0 T1, zSd p l e rm_X5_chosenRow s m args below meth c 6 D A a0 M0 K KX 0 0 q.1 q.2 :=
    zall_c (zs_aload_n X (pc := 0) (q := 0) rfl (by decide +kernel)) <|
    zall_c (zs_iload_n X (pc := 1) (q := 1) rfl (by decide +kernel)) <|
    zall_c (zs_callV0 X (pc := 2) zc_X5 (fun _ ht => ⟨(zCB ht gw_5_12 gw_1_8 gw_5_9 rfl rfl (by decide +kernel) ⟨Nat.le_of_ble_eq_true rfl, Nat.le_of_ble_eq_true rfl⟩), ht _ (.tail _ gw_5_10), ht _ (.tail _ gw_5_11)⟩) h0 hout (by decide +kernel)) <|
    zall_c (zs_istore_n X (pc := 5) (q := 2) rfl (by decide) (by decide +kernel)) <|
    zall_c (zs_iconst X (pc := 6) (by decide) (by decide +kernel)) <|
    zall_c (zs_istore_n X (pc := 7) (q := 3) rfl (by decide) (by decide +kernel)) <|
    zall_c (zs_iconst X (pc := 8) (by decide) (by decide +kernel)) <|
    zall_c (zs_istore X (pc := 9) (by decide) (by decide +kernel)) <|
    zall_c (zs_iload X (pc := 11) (by decide +kernel)) <|
    zall_c (zs_aload_n X (pc := 13) (q := 0) rfl (by decide +kernel)) <|
    zall_c (zs_geti X (pc := 14) zc_X5 (by decide) (zin ui_X5) (.tail _ gw_1_238) (by decide +kernel) (by decide +kernel)) <|
    zall_c (zs_icmp_ge X (pc := 17) (off := 60) (by decide +kernel) (by decide)) <|
    zall_c (zs_iload_n X (pc := 20) (q := 2) rfl (by decide +kernel)) <|
    zall_c (zs_iconst X (pc := 21) (by decide) (by decide +kernel)) <|
    zall_c (zs_iload X (pc := 22) (by decide +kernel)) <|
    zall_c (zs_ishl X (pc := 24) (by decide +kernel)) <|
    zall_c (zs_iand X (pc := 25) (by decide +kernel)) <|
    zall_c (zs_if_eq X (pc := 26) (off := 7) (by decide +kernel) (by decide)) <|
    zall_c (zs_iconst X (pc := 29) (by decide) (by decide +kernel)) <|
    zall_c (zs_goto X (pc := 30) (off := 4) (by decide +kernel) (by decide)) <|
    zall_c (zs_iconst X (pc := 33) (by decide) (by decide +kernel)) <|
    zall_c (zs_istore X (pc := 34) (by decide) (by decide +kernel)) <|
    zall_c (zs_iload X (pc := 36) (by decide +kernel)) <|
    zall_c (zs_if_eq X (pc := 38) (off := 33) (by decide +kernel) (by decide)) <|
    zall_c (zs_iload_n X (pc := 41) (q := 3) rfl (by decide +kernel)) <|
    zall_c (zs_iconst X (pc := 42) (by decide) (by decide +kernel)) <|
    zall_c (zs_icmp_eq X (pc := 43) (off := 25) (by decide +kernel) (by decide)) <|
    zall_c (zs_aload_n X (pc := 46) (q := 0) rfl (by decide +kernel)) <|
    zall_c (zs_getr X (pc := 47) zc_X5 (by decide) (zin ui_X5) (.tail _ gw_2_3) (by decide +kernel) (by decide +kernel)) <|
    zall_c (zs_iload X (pc := 50) (by decide +kernel)) <|
    zall_c (zs_aaload X (pc := 52) (by decide) rfl (by decide +kernel)) <|
    zall_c (zs_callS0 X (pc := 53) (fun _ ht => ⟨(zCB ht gw_6_36 gw_1_8 gw_6_34 rfl rfl (by decide +kernel) ⟨Nat.le_of_ble_eq_true rfl, Nat.le_of_ble_eq_true rfl⟩), ht _ (.tail _ gw_6_35)⟩) h1 hout (by decide +kernel)) <|
    zall_c (zs_aload_n X (pc := 56) (q := 0) rfl (by decide +kernel)) <|
    zall_c (zs_getr X (pc := 57) zc_X5 (by decide) (zin ui_X5) (.tail _ gw_2_3) (by decide +kernel) (by decide +kernel)) <|
    zall_c (zs_iload_n X (pc := 60) (q := 3) rfl (by decide +kernel)) <|
    zall_c (zs_aaload X (pc := 61) (by decide) rfl (by decide +kernel)) <|
    zall_c (zs_callS0 X (pc := 62) (fun _ ht => ⟨(zCB ht gw_6_36 gw_1_8 gw_6_34 rfl rfl (by decide +kernel) ⟨Nat.le_of_ble_eq_true rfl, Nat.le_of_ble_eq_true rfl⟩), ht _ (.tail _ gw_6_35)⟩) h1 hout (by decide +kernel)) <|
    zall_c (zs_icmp_le X (pc := 65) (off := 6) (by decide +kernel) (by decide)) <|
    zall_c (zs_iload X (pc := 68) (by decide +kernel)) <|
    zall_c (zs_istore_n X (pc := 70) (q := 3) rfl (by decide) (by decide +kernel)) <|
    zall_c (zs_iinc X (pc := 71) (by decide) (by decide +kernel)) <|
    zall_c (zs_goto X (pc := 74) (off := (-63)) (by decide +kernel) (by decide)) <|
    zall_c (zs_iload_n X (pc := 77) (q := 3) rfl (by decide +kernel)) <|
    zall_c (zs_iret X (pc := 78) rfl (by decide +kernel)) <|
    zall_n
theorem met_X5_chosenRow {l : Launch} (hl : l.stackTraces = false) {T0 : ZTf} {T1 : ZTf} (h0 : zMet l yX5_rowsFor (Cond.code yX5_rowsFor cX5_rowsFor 4 (Option.some Jvm.ClassFile.FieldType.int) :: zG) rm_X5_rowsFor 0 0 T0) (h1 : zMet l yX5_urgency (Cond.code yX5_urgency cX5_urgency 1 (Option.some Jvm.ClassFile.FieldType.int) :: zG) rm_X5_urgency 0 0 T1) {T : ZTf} (bd : zBd (cd_X5_chosenRow T0 T1) 6 0 0 T) : zMet l yX5_chosenRow (Cond.code yX5_chosenRow cX5_chosenRow 6 (Option.some Jvm.ClassFile.FieldType.int) :: zG) rm_X5_chosenRow 0 0 T := zMet_of hl (by decide +kernel) rfl rfl rfl rfl (hs_X5_chosenRow hl h0 h1) bd

abbrev rm_X5_mostTrustedPair : Room := { frames := 4, cells := 0, slots := 0, locals := 96 }
def cd_X5_mostTrustedPair (T0 : ZTf) : List (Nat × ZTr) := [(0, tC (zi (-1)) 1), (1, tIst 2 2), (2, tC (zi (-1)) 3), (3, tIst 3 4), (4, tC (zi 0) 5), (5, tIst 4 7), (7, tIld 4 9), (9, tAld 0 10), (10, tGetI 8 4 13), (13, tIc_ge 125 16), (16, tIld 4 18), (18, tC (zi 1) 19), (19, tAdd 20), (20, tIst 5 22), (22, tIld 5 24), (24, tAld 0 25), (25, tGetI 8 4 28), (28, tIc_ge 119 31), (31, tIld 1 32), (32, tC (zi 1) 33), (33, tIld 4 35), (35, tBif zshl 36), (36, tBif zand 37), (37, tIf_eq 53 40), (40, tIld 1 41), (41, tC (zi 1) 42), (42, tIld 5 44), (44, tBif zshl 45), (45, tBif zand 46), (46, tIf_eq 53 49), (49, tC (zi 1) 50), (50, tGo 54), (53, tC (zi 0) 54), (54, tIst 6 56), (56, tAld 0 57), (57, tGetR 8 6 60), (60, tIld 4 62), (62, tAal 30 63), (63, tGetI 10 3 66), (66, tAld 0 67), (67, tGetR 8 6 70), (70, tIld 5 72), (72, tAal 30 73), (73, tGetI 10 3 76), (76, tAdd 77), (77, tIst 7 79), (79, tIld 6 81), (81, tIf_eq 113 84), (84, tIld 7 86), (86, tIld 3 87), (87, tIc_le 113 90), (90, tAld 0 91), (91, tIld 4 93), (93, tIld 5 95), (95, tCall0 3 T0 (zRcv 8) 98), (98, tIf_eq 113 101), (101, tIld 7 103), (103, tIst 3 104), (104, tC (zi 8) 106), (106, tIld 4 108), (108, tMul 109), (109, tIld 5 111), (111, tAdd 112), (112, tIst 2 113), (113, tInc 5 1 116), (116, tGo 22), (119, tInc 4 1 122), (122, tGo 7), (125, tIld 2 126), (126, tRi (fun _ => True))]
set_option maxRecDepth 100000 in
set_option maxHeartbeats 4000000 in
theorem hs_X5_mostTrustedPair {l : Launch} (hl : l.stackTraces = false) {T0 : ZTf} (h0 : zMet l yX5_mayBeginTogether (Cond.code yX5_mayBeginTogether cX5_mayBeginTogether 3 (Option.some Jvm.ClassFile.FieldType.boolean) :: zG) rm_X5_mayBeginTogether 0 0 T0) (p : Program) (e : Env) (s : State) (m : MethodId) (args : Array Value) (below : List Frame) (meth : Method) (c : Code) (D : va_G) (A : Nat → Prop) (a0 : Nat → Nat) (M0 : ZM) (K : ZRet) (KX : ZEx) (X : zCtx p l rm_X5_mostTrustedPair s m args meth c cX5_mostTrustedPair RX5 (Cond.code yX5_mostTrustedPair cX5_mostTrustedPair 8 (Option.some Jvm.ClassFile.FieldType.int) :: zG) 8 (Option.some Jvm.ClassFile.FieldType.int) D A a0 M0 0 0) (hnm : meth.name = yX5_mostTrustedPair.name) (hout : ∀ x ∈ c.exceptionTable.toList, False) : ∀ q ∈ cd_X5_mostTrustedPair T0, zSd p l e rm_X5_mostTrustedPair s m args below meth c 8 D A a0 M0 K KX 0 0 q.1 q.2 :=
    zall_c (zs_iconst X (pc := 0) (by decide) (by decide +kernel)) <|
    zall_c (zs_istore_n X (pc := 1) (q := 2) rfl (by decide) (by decide +kernel)) <|
    zall_c (zs_iconst X (pc := 2) (by decide) (by decide +kernel)) <|
    zall_c (zs_istore_n X (pc := 3) (q := 3) rfl (by decide) (by decide +kernel)) <|
    zall_c (zs_iconst X (pc := 4) (by decide) (by decide +kernel)) <|
    zall_c (zs_istore X (pc := 5) (by decide) (by decide +kernel)) <|
    zall_c (zs_iload X (pc := 7) (by decide +kernel)) <|
    zall_c (zs_aload_n X (pc := 9) (q := 0) rfl (by decide +kernel)) <|
    zall_c (zs_geti X (pc := 10) zc_X5 (by decide) (zin ui_X5) (.tail _ gw_1_235) (by decide +kernel) (by decide +kernel)) <|
    zall_c (zs_icmp_ge X (pc := 13) (off := 112) (by decide +kernel) (by decide)) <|
    zall_c (zs_iload X (pc := 16) (by decide +kernel)) <|
    zall_c (zs_iconst X (pc := 18) (by decide) (by decide +kernel)) <|
    zall_c (zs_iadd X (pc := 19) (by decide +kernel)) <|
    zall_c (zs_istore X (pc := 20) (by decide) (by decide +kernel)) <|
    zall_c (zs_iload X (pc := 22) (by decide +kernel)) <|
    zall_c (zs_aload_n X (pc := 24) (q := 0) rfl (by decide +kernel)) <|
    zall_c (zs_geti X (pc := 25) zc_X5 (by decide) (zin ui_X5) (.tail _ gw_1_235) (by decide +kernel) (by decide +kernel)) <|
    zall_c (zs_icmp_ge X (pc := 28) (off := 91) (by decide +kernel) (by decide)) <|
    zall_c (zs_iload_n X (pc := 31) (q := 1) rfl (by decide +kernel)) <|
    zall_c (zs_iconst X (pc := 32) (by decide) (by decide +kernel)) <|
    zall_c (zs_iload X (pc := 33) (by decide +kernel)) <|
    zall_c (zs_ishl X (pc := 35) (by decide +kernel)) <|
    zall_c (zs_iand X (pc := 36) (by decide +kernel)) <|
    zall_c (zs_if_eq X (pc := 37) (off := 16) (by decide +kernel) (by decide)) <|
    zall_c (zs_iload_n X (pc := 40) (q := 1) rfl (by decide +kernel)) <|
    zall_c (zs_iconst X (pc := 41) (by decide) (by decide +kernel)) <|
    zall_c (zs_iload X (pc := 42) (by decide +kernel)) <|
    zall_c (zs_ishl X (pc := 44) (by decide +kernel)) <|
    zall_c (zs_iand X (pc := 45) (by decide +kernel)) <|
    zall_c (zs_if_eq X (pc := 46) (off := 7) (by decide +kernel) (by decide)) <|
    zall_c (zs_iconst X (pc := 49) (by decide) (by decide +kernel)) <|
    zall_c (zs_goto X (pc := 50) (off := 4) (by decide +kernel) (by decide)) <|
    zall_c (zs_iconst X (pc := 53) (by decide) (by decide +kernel)) <|
    zall_c (zs_istore X (pc := 54) (by decide) (by decide +kernel)) <|
    zall_c (zs_aload_n X (pc := 56) (q := 0) rfl (by decide +kernel)) <|
    zall_c (zs_getr X (pc := 57) zc_X5 (by decide) (zin ui_X5) (.tail _ gw_2_0) (by decide +kernel) (by decide +kernel)) <|
    zall_c (zs_iload X (pc := 60) (by decide +kernel)) <|
    zall_c (zs_aaload X (pc := 62) (by decide) rfl (by decide +kernel)) <|
    zall_c (zs_geti X (pc := 63) zc_X7 (by decide) (zin ui_X7) (.tail _ gw_1_128) (by decide +kernel) (by decide +kernel)) <|
    zall_c (zs_aload_n X (pc := 66) (q := 0) rfl (by decide +kernel)) <|
    zall_c (zs_getr X (pc := 67) zc_X5 (by decide) (zin ui_X5) (.tail _ gw_2_0) (by decide +kernel) (by decide +kernel)) <|
    zall_c (zs_iload X (pc := 70) (by decide +kernel)) <|
    zall_c (zs_aaload X (pc := 72) (by decide) rfl (by decide +kernel)) <|
    zall_c (zs_geti X (pc := 73) zc_X7 (by decide) (zin ui_X7) (.tail _ gw_1_128) (by decide +kernel) (by decide +kernel)) <|
    zall_c (zs_iadd X (pc := 76) (by decide +kernel)) <|
    zall_c (zs_istore X (pc := 77) (by decide) (by decide +kernel)) <|
    zall_c (zs_iload X (pc := 79) (by decide +kernel)) <|
    zall_c (zs_if_eq X (pc := 81) (off := 32) (by decide +kernel) (by decide)) <|
    zall_c (zs_iload X (pc := 84) (by decide +kernel)) <|
    zall_c (zs_iload_n X (pc := 86) (q := 3) rfl (by decide +kernel)) <|
    zall_c (zs_icmp_le X (pc := 87) (off := 26) (by decide +kernel) (by decide)) <|
    zall_c (zs_aload_n X (pc := 90) (q := 0) rfl (by decide +kernel)) <|
    zall_c (zs_iload X (pc := 91) (by decide +kernel)) <|
    zall_c (zs_iload X (pc := 93) (by decide +kernel)) <|
    zall_c (zs_callV0 X (pc := 95) zc_X5 (fun _ ht => ⟨(zCB ht gw_6_69 gw_1_8 gw_6_66 rfl rfl (by decide +kernel) ⟨Nat.le_of_ble_eq_true rfl, Nat.le_of_ble_eq_true rfl⟩), ht _ (.tail _ gw_6_67), ht _ (.tail _ gw_6_68)⟩) h0 hout (by decide +kernel)) <|
    zall_c (zs_if_eq X (pc := 98) (off := 15) (by decide +kernel) (by decide)) <|
    zall_c (zs_iload X (pc := 101) (by decide +kernel)) <|
    zall_c (zs_istore_n X (pc := 103) (q := 3) rfl (by decide) (by decide +kernel)) <|
    zall_c (zs_bipush X (pc := 104) (by decide) (by decide +kernel) (by decide +kernel)) <|
    zall_c (zs_iload X (pc := 106) (by decide +kernel)) <|
    zall_c (zs_imul X (pc := 108) (by decide +kernel)) <|
    zall_c (zs_iload X (pc := 109) (by decide +kernel)) <|
    zall_c (zs_iadd X (pc := 111) (by decide +kernel)) <|
    zall_c (zs_istore_n X (pc := 112) (q := 2) rfl (by decide) (by decide +kernel)) <|
    zall_c (zs_iinc X (pc := 113) (by decide) (by decide +kernel)) <|
    zall_c (zs_goto X (pc := 116) (off := (-94)) (by decide +kernel) (by decide)) <|
    zall_c (zs_iinc X (pc := 119) (by decide) (by decide +kernel)) <|
    zall_c (zs_goto X (pc := 122) (off := (-115)) (by decide +kernel) (by decide)) <|
    zall_c (zs_iload_n X (pc := 125) (q := 2) rfl (by decide +kernel)) <|
    zall_c (zs_iret X (pc := 126) rfl (by decide +kernel)) <|
    zall_n
theorem met_X5_mostTrustedPair {l : Launch} (hl : l.stackTraces = false) {T0 : ZTf} (h0 : zMet l yX5_mayBeginTogether (Cond.code yX5_mayBeginTogether cX5_mayBeginTogether 3 (Option.some Jvm.ClassFile.FieldType.boolean) :: zG) rm_X5_mayBeginTogether 0 0 T0) {T : ZTf} (bd : zBd (cd_X5_mostTrustedPair T0) 8 0 0 T) : zMet l yX5_mostTrustedPair (Cond.code yX5_mostTrustedPair cX5_mostTrustedPair 8 (Option.some Jvm.ClassFile.FieldType.int) :: zG) rm_X5_mostTrustedPair 0 0 T := zMet_of hl (by decide +kernel) rfl rfl rfl rfl (hs_X5_mostTrustedPair hl h0) bd
