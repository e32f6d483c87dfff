abbrev rm_X9_isTeamThere : Room := { frames := 3, cells := 0, slots := 0, locals := 75 }
def cd_X9_isTeamThere (T0 : ZTf) (T1 : ZTf) (T2 : ZTf) : List (Nat × ZTr) := [(0, tC (zi 0) 1), (1, tIst 3 2), (2, tIld 3 3), (3, tAld 0 4), (4, tIld 2 5), (5, tCall0 2 T0 (zRcv 12) 8), (8, tIc_ge 40 11), (11, tAld 0 12), (12, tAld 0 13), (13, tIld 2 14), (14, tIld 3 15), (15, tC (zi 0) 16), (16, tCall0 4 T1 (zRcv 12) 19), (19, tC (zi 1) 20), (20, tCall0 3 T2 (zRcv 12) 23), (23, tAld 0 24), (24, tIld 1 25), (25, tC (zi 1) 26), (26, tCall0 3 T2 (zRcv 12) 29), (29, tIc_ne 34 32), (32, tC (zi 1) 33), (33, tRi zPz), (34, tInc 3 1 37), (37, tGo 2), (40, tC (zi 0) 41), (41, tRi zPz)]
set_option maxRecDepth 100000 in
set_option maxHeartbeats 4000000 in
theorem hs_X9_isTeamThere {l : Launch} (hl : l.stackTraces = false) {T0 : ZTf} {T1 : ZTf} {T2 : ZTf} (h0 : zMet l yX9_manyAt (Cond.code yX9_manyAt cX9_manyAt 2 (Option.some Jvm.ClassFile.FieldType.int) :: zG) rm_X9_manyAt 0 0 T0) (h1 : zMet l yX9_ofTaking (Cond.code yX9_ofTaking cX9_ofTaking 4 (Option.some Jvm.ClassFile.FieldType.int) :: zG) rm_X9_ofTaking 0 0 T1) (h2 : zMet l yX9_ofWorker (Cond.code yX9_ofWorker cX9_ofWorker 3 (Option.some Jvm.ClassFile.FieldType.int) :: zG) rm_X9_ofWorker 0 0 T2) (p : Program) (e : Env) (s : State) (m : MethodId) (args : Array Value) (below : List Frame) (meth : Method) (c : Code) (D : va_G) (A : Nat → Prop) (a0 : Nat → Nat) (M0 : ZM) (K : ZRet) (KX : ZEx) (X : zCtx p l rm_X9_isTeamThere s m args meth c cX9_isTeamThere RX9 (Cond.code yX9_isTeamThere cX9_isTeamThere 4 (Option.some Jvm.ClassFile.FieldType.boolean) :: zG) 4 (Option.some Jvm.ClassFile.FieldType.boolean) D A a0 M0 0 0) (hnm : meth.name = yX9_isTeamThere.name) (hout : ∀ x ∈ c.exceptionTable.toList, False) : ∀ q ∈ cd_X9_isTeamThere T0 T1 T2, zSd p l e rm_X9_isTeamThere s m args below meth c 4 D A a0 M0 K KX 0 0 q.1 q.2 :=
    zall_c (zs_iconst X (pc := 0) (by decide) (by decide +kernel)) <|
    zall_c (zs_istore_n X (pc := 1) (q := 3) rfl (by decide) (by decide +kernel)) <|
    zall_c (zs_iload_n X (pc := 2) (q := 3) rfl (by decide +kernel)) <|
    zall_c (zs_aload_n X (pc := 3) (q := 0) rfl (by decide +kernel)) <|
    zall_c (zs_iload_n X (pc := 4) (q := 2) rfl (by decide +kernel)) <|
    zall_c (zs_callV0 X (pc := 5) zc_X9 (fun _ ht => ⟨(zCB ht gw_9_32 gw_1_13 gw_9_29 rfl rfl (by decide +kernel) ⟨Nat.le_of_ble_eq_true rfl, Nat.le_of_ble_eq_true rfl⟩), ht _ (.tail _ gw_9_31), ht _ (.tail _ gp_70)⟩) h0 hout (by decide +kernel)) <|
    zall_c (zs_icmp_ge X (pc := 8) (off := 32) (by decide +kernel) (by decide)) <|
    zall_c (zs_aload_n X (pc := 11) (q := 0) rfl (by decide +kernel)) <|
    zall_c (zs_aload_n X (pc := 12) (q := 0) rfl (by decide +kernel)) <|
    zall_c (zs_iload_n X (pc := 13) (q := 2) rfl (by decide +kernel)) <|
    zall_c (zs_iload_n X (pc := 14) (q := 3) rfl (by decide +kernel)) <|
    zall_c (zs_iconst X (pc := 15) (by decide) (by decide +kernel)) <|
    zall_c (zs_callV0 X (pc := 16) zc_X9 (fun _ ht => ⟨(zCB ht gw_9_36 gw_1_13 gw_9_33 rfl rfl (by decide +kernel) ⟨Nat.le_of_ble_eq_true rfl, Nat.le_of_ble_eq_true rfl⟩), ht _ (.tail _ gw_9_35), ht _ (.tail _ gp_71)⟩) h1 hout (by decide +kernel)) <|
    zall_c (zs_iconst X (pc := 19) (by decide) (by decide +kernel)) <|
    zall_c (zs_callV0 X (pc := 20) zc_X9 (fun _ ht => ⟨(zCB ht gw_8_161 gw_1_13 gw_8_158 rfl rfl (by decide +kernel) ⟨Nat.le_of_ble_eq_true rfl, Nat.le_of_ble_eq_true rfl⟩), ht _ (.tail _ gw_8_160), ht _ (.tail _ gp_48)⟩) h2 hout (by decide +kernel)) <|
    zall_c (zs_aload_n X (pc := 23) (q := 0) rfl (by decide +kernel)) <|
    zall_c (zs_iload_n X (pc := 24) (q := 1) rfl (by decide +kernel)) <|
    zall_c (zs_iconst X (pc := 25) (by decide) (by decide +kernel)) <|
    zall_c (zs_callV0 X (pc := 26) zc_X9 (fun _ ht => ⟨(zCB ht gw_8_161 gw_1_13 gw_8_158 rfl rfl (by decide +kernel) ⟨Nat.le_of_ble_eq_true rfl, Nat.le_of_ble_eq_true rfl⟩), ht _ (.tail _ gw_8_160), ht _ (.tail _ gp_48)⟩) h2 hout (by decide +kernel)) <|
    zall_c (zs_icmp_ne X (pc := 29) (off := 5) (by decide +kernel) (by decide)) <|
    zall_c (zs_iconst X (pc := 32) (by decide) (by decide +kernel)) <|
    zall_c (zs_zret X (pc := 33) rfl zR_bool (by decide +kernel)) <|
    zall_c (zs_iinc X (pc := 34) (by decide) (by decide +kernel)) <|
    zall_c (zs_goto X (pc := 37) (off := (-35)) (by decide +kernel) (by decide)) <|
    zall_c (zs_iconst X (pc := 40) (by decide) (by decide +kernel)) <|
    zall_c (zs_zret X (pc := 41) rfl zR_bool (by decide +kernel)) <|
    zall_n
theorem met_X9_isTeamThere {l : Launch} (hl : l.stackTraces = false) {T0 : ZTf} {T1 : ZTf} {T2 : ZTf} (h0 : zMet l yX9_manyAt (Cond.code yX9_manyAt cX9_manyAt 2 (Option.some Jvm.ClassFile.FieldType.int) :: zG) rm_X9_manyAt 0 0 T0) (h1 : zMet l yX9_ofTaking (Cond.code yX9_ofTaking cX9_ofTaking 4 (Option.some Jvm.ClassFile.FieldType.int) :: zG) rm_X9_ofTaking 0 0 T1) (h2 : zMet l yX9_ofWorker (Cond.code yX9_ofWorker cX9_ofWorker 3 (Option.some Jvm.ClassFile.FieldType.int) :: zG) rm_X9_ofWorker 0 0 T2) {T : ZTf} (bd : zBd (cd_X9_isTeamThere T0 T1 T2) 4 0 0 T) : zMet l yX9_isTeamThere (Cond.code yX9_isTeamThere cX9_isTeamThere 4 (Option.some Jvm.ClassFile.FieldType.boolean) :: zG) rm_X9_isTeamThere 0 0 T := zMet_of hl (by decide +kernel) rfl rfl rfl rfl (hs_X9_isTeamThere hl h0 h1 h2) bd

abbrev rm_X9_isFoeThere : Room := { frames := 3, cells := 0, slots := 0, locals := 75 }
def cd_X9_isFoeThere (T0 : ZTf) (T1 : ZTf) (T2 : ZTf) : List (Nat × ZTr) := [(0, tC (zi 0) 1), (1, tIst 3 2), (2, tIld 3 3), (3, tAld 0 4), (4, tIld 2 5), (5, tCall0 2 T0 (zRcv 12) 8), (8, tIc_ge 34 11), (11, tAld 0 12), (12, tIld 1 13), (13, tAld 0 14), (14, tIld 2 15), (15, tIld 3 16), (16, tC (zi 0) 17), (17, tCall0 4 T1 (zRcv 12) 20), (20, tCall0 3 T2 (zRcv 12) 23), (23, tIf_eq 28 26), (26, tC (zi 1) 27), (27, tRi zPz), (28, tInc 3 1 31), (31, tGo 2), (34, tC (zi 0) 35), (35, tRi zPz)]
set_option maxRecDepth 100000 in
set_option maxHeartbeats 4000000 in
theorem hs_X9_isFoeThere {l : Launch} (hl : l.stackTraces = false) {T0 : ZTf} {T1 : ZTf} {T2 : ZTf} (h0 : zMet l yX9_manyAt (Cond.code yX9_manyAt cX9_manyAt 2 (Option.some Jvm.ClassFile.FieldType.int) :: zG) rm_X9_manyAt 0 0 T0) (h1 : zMet l yX9_ofTaking (Cond.code yX9_ofTaking cX9_ofTaking 4 (Option.some Jvm.ClassFile.FieldType.int) :: zG) rm_X9_ofTaking 0 0 T1) (h2 : zMet l yX9_mayNotMeet (Cond.code yX9_mayNotMeet cX9_mayNotMeet 3 (Option.some Jvm.ClassFile.FieldType.boolean) :: zG) rm_X9_mayNotMeet 0 0 T2) (p : Program) (e : Env) (s : State) (m : MethodId) (args : Array Value) (below : List Frame) (meth : Method) (c : Code) (D : va_G) (A : Nat → Prop) (a0 : Nat → Nat) (M0 : ZM) (K : ZRet) (KX : ZEx) (X : zCtx p l rm_X9_isFoeThere s m args meth c cX9_isFoeThere RX9 (Cond.code yX9_isFoeThere cX9_isFoeThere 4 (Option.some Jvm.ClassFile.FieldType.boolean) :: zG) 4 (Option.some Jvm.ClassFile.FieldType.boolean) D A a0 M0 0 0) (hnm : meth.name = yX9_isFoeThere.name) (hout : ∀ x ∈ c.exceptionTable.toList, False) : ∀ q ∈ cd_X9_isFoeThere T0 T1 T2, zSd p l e rm_X9_isFoeThere s m args below meth c 4 D A a0 M0 K KX 0 0 q.1 q.2 :=
    zall_c (zs_iconst X (pc := 0) (by decide) (by decide +kernel)) <|
    zall_c (zs_istore_n X (pc := 1) (q := 3) rfl (by decide) (by decide +kernel)) <|
    zall_c (zs_iload_n X (pc := 2) (q := 3) rfl (by decide +kernel)) <|
    zall_c (zs_aload_n X (pc := 3) (q := 0) rfl (by decide +kernel)) <|
    zall_c (zs_iload_n X (pc := 4) (q := 2) rfl (by decide +kernel)) <|
    zall_c (zs_callV0 X (pc := 5) zc_X9 (fun _ ht => ⟨(zCB ht gw_9_32 gw_1_13 gw_9_29 rfl rfl (by decide +kernel) ⟨Nat.le_of_ble_eq_true rfl, Nat.le_of_ble_eq_true rfl⟩), ht _ (.tail _ gw_9_31), ht _ (.tail _ gp_70)⟩) h0 hout (by decide +kernel)) <|
    zall_c (zs_icmp_ge X (pc := 8) (off := 26) (by decide +kernel) (by decide)) <|
    zall_c (zs_aload_n X (pc := 11) (q := 0) rfl (by decide +kernel)) <|
    zall_c (zs_iload_n X (pc := 12) (q := 1) rfl (by decide +kernel)) <|
    zall_c (zs_aload_n X (pc := 13) (q := 0) rfl (by decide +kernel)) <|
    zall_c (zs_iload_n X (pc := 14) (q := 2) rfl (by decide +kernel)) <|
    zall_c (zs_iload_n X (pc := 15) (q := 3) rfl (by decide +kernel)) <|
    zall_c (zs_iconst X (pc := 16) (by decide) (by decide +kernel)) <|
    zall_c (zs_callV0 X (pc := 17) zc_X9 (fun _ ht => ⟨(zCB ht gw_9_36 gw_1_13 gw_9_33 rfl rfl (by decide +kernel) ⟨Nat.le_of_ble_eq_true rfl, Nat.le_of_ble_eq_true rfl⟩), ht _ (.tail _ gw_9_35), ht _ (.tail _ gp_71)⟩) h1 hout (by decide +kernel)) <|
    zall_c (zs_callV0 X (pc := 20) zc_X9 (fun _ ht => ⟨(zCB ht gw_8_193 gw_1_13 gw_8_190 rfl rfl (by decide +kernel) ⟨Nat.le_of_ble_eq_true rfl, Nat.le_of_ble_eq_true rfl⟩), ht _ (.tail _ gw_8_192), ht _ (.tail _ gp_56)⟩) h2 hout (by decide +kernel)) <|
    zall_c (zs_if_eq X (pc := 23) (off := 5) (by decide +kernel) (by decide)) <|
    zall_c (zs_iconst X (pc := 26) (by decide) (by decide +kernel)) <|
    zall_c (zs_zret X (pc := 27) rfl zR_bool (by decide +kernel)) <|
    zall_c (zs_iinc X (pc := 28) (by decide) (by decide +kernel)) <|
    zall_c (zs_goto X (pc := 31) (off := (-29)) (by decide +kernel) (by decide)) <|
    zall_c (zs_iconst X (pc := 34) (by decide) (by decide +kernel)) <|
    zall_c (zs_zret X (pc := 35) rfl zR_bool (by decide +kernel)) <|
    zall_n
theorem met_X9_isFoeThere {l : Launch} (hl : l.stackTraces = false) {T0 : ZTf} {T1 : ZTf} {T2 : ZTf} (h0 : zMet l yX9_manyAt (Cond.code yX9_manyAt cX9_manyAt 2 (Option.some Jvm.ClassFile.FieldType.int) :: zG) rm_X9_manyAt 0 0 T0) (h1 : zMet l yX9_ofTaking (Cond.code yX9_ofTaking cX9_ofTaking 4 (Option.some Jvm.ClassFile.FieldType.int) :: zG) rm_X9_ofTaking 0 0 T1) (h2 : zMet l yX9_mayNotMeet (Cond.code yX9_mayNotMeet cX9_mayNotMeet 3 (Option.some Jvm.ClassFile.FieldType.boolean) :: zG) rm_X9_mayNotMeet 0 0 T2) {T : ZTf} (bd : zBd (cd_X9_isFoeThere T0 T1 T2) 4 0 0 T) : zMet l yX9_isFoeThere (Cond.code yX9_isFoeThere cX9_isFoeThere 4 (Option.some Jvm.ClassFile.FieldType.boolean) :: zG) rm_X9_isFoeThere 0 0 T := zMet_of hl (by decide +kernel) rfl rfl rfl rfl (hs_X9_isFoeThere hl h0 h1 h2) bd

abbrev rm_X9_barrierOf : Room := { frames := 4, cells := 0, slots := 0, locals := 98 }
def cd_X9_barrierOf (T0 : ZTf) (T1 : ZTf) (T2 : ZTf) (T3 : ZTf) : List (Nat × ZTr) := [(0, tAld 0 1), (1, tIld 2 2), (2, tC (zi 4) 3), (3, tCall0 3 T0 (zRcv 12) 6), (6, tIld 1 7), (7, tCall0 2 T1 zAny 10), (10, tIf_eq 15 13), (13, tC (zi 4) 14), (14, tRi (fun _ => True)), (15, tAld 0 16), (16, tIld 1 17), (17, tIld 2 18), (18, tCall0 3 T2 (zRcv 12) 21), (21, tIf_eq 26 24), (24, tC (zi 5) 25), (25, tRi (fun _ => True)), (26, tAld 0 27), (27, tIld 1 28), (28, tIld 2 29), (29, tCall0 3 T3 (zRcv 12) 32), (32, tIf_eq 40 35), (35, tC (zi 6) 37), (37, tGo 41), (40, tC (zi 0) 41), (41, tRi (fun _ => True))]
set_option maxRecDepth 100000 in
set_option maxHeartbeats 4000000 in
theorem hs_X9_barrierOf {l : Launch} (hl : l.stackTraces = false) {T0 : ZTf} {T1 : ZTf} {T2 : ZTf} {T3 : ZTf} (h0 : zMet l yX9_ofRow (Cond.code yX9_ofRow cX9_ofRow 3 (Option.some Jvm.ClassFile.FieldType.int) :: zG) rm_X9_ofRow 0 0 T0) (h1 : zMet l yX9_has (Cond.code yX9_has cX9_has 2 (Option.some Jvm.ClassFile.FieldType.boolean) :: zG) rm_X9_has 0 0 T1) (h2 : zMet l yX9_isTeamThere (Cond.code yX9_isTeamThere cX9_isTeamThere 4 (Option.some Jvm.ClassFile.FieldType.boolean) :: zG) rm_X9_isTeamThere 0 0 T2) (h3 : zMet l yX9_isFoeThere (Cond.code yX9_isFoeThere cX9_isFoeThere 4 (Option.some Jvm.ClassFile.FieldType.boolean) :: zG) rm_X9_isFoeThere 0 0 T3) (p : Program) (e : Env) (s : State) (m : MethodId) (args : Array Value) (below : List Frame) (meth : Method) (c : Code) (D : va_G) (A : Nat → Prop) (a0 : Nat → Nat) (M0 : ZM) (K : ZRet) (KX : ZEx) (X : zCtx p l rm_X9_barrierOf s m args meth c cX9_barrierOf RX9 (Cond.code yX9_barrierOf cX9_barrierOf 3 (Option.some Jvm.ClassFile.FieldType.int) :: zG) 3 (Option.some Jvm.ClassFile.FieldType.int) D A a0 M0 0 0) (hnm : meth.name = yX9_barrierOf.name) (hout : ∀ x ∈ c.exceptionTable.toList, False) : ∀ q ∈ cd_X9_barrierOf T0 T1 T2 T3, zSd p l e rm_X9_barrierOf s m args below meth c 3 D A a0 M0 K KX 0 0 q.1 q.2 :=
    zall_c (zs_aload_n X (pc := 0) (q := 0) rfl (by decide +kernel)) <|
    zall_c (zs_iload_n X (pc := 1) (q := 2) rfl (by decide +kernel)) <|
    zall_c (zs_iconst X (pc := 2) (by decide) (by decide +kernel)) <|
    zall_c (zs_callV0 X (pc := 3) zc_X9 (fun _ ht => ⟨(zCB ht gw_8_239 gw_1_13 gw_8_236 rfl rfl (by decide +kernel) ⟨Nat.le_of_ble_eq_true rfl, Nat.le_of_ble_eq_true rfl⟩), ht _ (.tail _ gw_8_238), ht _ (.tail _ gp_63)⟩) h0 hout (by decide +kernel)) <|
    zall_c (zs_iload_n X (pc := 6) (q := 1) rfl (by decide +kernel)) <|
    zall_c (zs_callS0 X (pc := 7) (fun _ ht => ⟨(zCB ht gw_9_85 gw_1_13 gw_9_83 rfl rfl (by decide +kernel) ⟨Nat.le_of_ble_eq_true rfl, Nat.le_of_ble_eq_true rfl⟩), ht _ (.tail _ gw_9_84)⟩) h1 hout (by decide +kernel)) <|
    zall_c (zs_if_eq X (pc := 10) (off := 5) (by decide +kernel) (by decide)) <|
    zall_c (zs_iconst X (pc := 13) (by decide) (by decide +kernel)) <|
    zall_c (zs_iret X (pc := 14) rfl (by decide +kernel)) <|
    zall_c (zs_aload_n X (pc := 15) (q := 0) rfl (by decide +kernel)) <|
    zall_c (zs_iload_n X (pc := 16) (q := 1) rfl (by decide +kernel)) <|
    zall_c (zs_iload_n X (pc := 17) (q := 2) rfl (by decide +kernel)) <|
    zall_c (zs_callV0 X (pc := 18) zc_X9 (fun _ ht => ⟨(zCB ht gw_9_89 gw_1_13 gw_9_86 rfl rfl (by decide +kernel) ⟨Nat.le_of_ble_eq_true rfl, Nat.le_of_ble_eq_true rfl⟩), ht _ (.tail _ gw_9_88), ht _ (.tail _ gp_79)⟩) h2 hout (by decide +kernel)) <|
    zall_c (zs_if_eq X (pc := 21) (off := 5) (by decide +kernel) (by decide)) <|
    zall_c (zs_iconst X (pc := 24) (by decide) (by decide +kernel)) <|
    zall_c (zs_iret X (pc := 25) rfl (by decide +kernel)) <|
    zall_c (zs_aload_n X (pc := 26) (q := 0) rfl (by decide +kernel)) <|
    zall_c (zs_iload_n X (pc := 27) (q := 1) rfl (by decide +kernel)) <|
    zall_c (zs_iload_n X (pc := 28) (q := 2) rfl (by decide +kernel)) <|
    zall_c (zs_callV0 X (pc := 29) zc_X9 (fun _ ht => ⟨(zCB ht gw_9_93 gw_1_13 gw_9_90 rfl rfl (by decide +kernel) ⟨Nat.le_of_ble_eq_true rfl, Nat.le_of_ble_eq_true rfl⟩), ht _ (.tail _ gw_9_92), ht _ (.tail _ gp_80)⟩) h3 hout (by decide +kernel)) <|
    zall_c (zs_if_eq X (pc := 32) (off := 8) (by decide +kernel) (by decide)) <|
    zall_c (zs_bipush X (pc := 35) (by decide) (by decide +kernel) (by decide +kernel)) <|
    zall_c (zs_goto X (pc := 37) (off := 4) (by decide +kernel) (by decide)) <|
    zall_c (zs_iconst X (pc := 40) (by decide) (by decide +kernel)) <|
    zall_c (zs_iret X (pc := 41) rfl (by decide +kernel)) <|
    zall_n
theorem met_X9_barrierOf {l : Launch} (hl : l.stackTraces = false) {T0 : ZTf} {T1 : ZTf} {T2 : ZTf} {T3 : ZTf} (h0 : zMet l yX9_ofRow (Cond.code yX9_ofRow cX9_ofRow 3 (Option.some Jvm.ClassFile.FieldType.int) :: zG) rm_X9_ofRow 0 0 T0) (h1 : zMet l yX9_has (Cond.code yX9_has cX9_has 2 (Option.some Jvm.ClassFile.FieldType.boolean) :: zG) rm_X9_has 0 0 T1) (h2 : zMet l yX9_isTeamThere (Cond.code yX9_isTeamThere cX9_isTeamThere 4 (Option.some Jvm.ClassFile.FieldType.boolean) :: zG) rm_X9_isTeamThere 0 0 T2) (h3 : zMet l yX9_isFoeThere (Cond.code yX9_isFoeThere cX9_isFoeThere 4 (Option.some Jvm.ClassFile.FieldType.boolean) :: zG) rm_X9_isFoeThere 0 0 T3) {T : ZTf} (bd : zBd (cd_X9_barrierOf T0 T1 T2 T3) 3 0 0 T) : zMet l yX9_barrierOf (Cond.code yX9_barrierOf cX9_barrierOf 3 (Option.some Jvm.ClassFile.FieldType.int) :: zG) rm_X9_barrierOf 0 0 T := zMet_of hl (by decide +kernel) rfl rfl rfl rfl (hs_X9_barrierOf hl h0 h1 h2 h3) bd

abbrev rm_X9_refusalOf : Room := { frames := 6, cells := 0, slots := 0, locals := 144 }
def cd_X9_refusalOf (T0 : ZTf) (T1 : ZTf) (T2 : ZTf) (T3 : ZTf) (T4 : ZTf) : List (Nat × ZTr) := [(0, tAld 0 1), (1, tIld 1 2), (2, tCall0 2 T0 (zRcv 12) 5), (5, tIf_eq 10 8), (8, tC (zi 1) 9), (9, tRi (fun _ => True)), (10, tAld 0 11), (11, tIld 1 12), (12, tCall0 2 T1 (zRcv 12) 15), (15, tAld 0 16), (16, tIld 1 17), (17, tC (zi 2) 18), (18, tCall0 3 T2 (zRcv 12) 21), (21, tIc_lt 26 24), (24, tC (zi 2) 25), (25, tRi (fun _ => True)), (26, tAld 0 27), (27, tIld 2 28), (28, tCall0 2 T3 (zRcv 12) 31), (31, tIf_ne 38 34), (34, tC (zi 3) 35), (35, tGo 44), (38, tAld 0 39), (39, tIld 1 40), (40, tIld 2 41), (41, tCall0 3 T4 (zRcv 12) 44), (44, tRi (fun _ => True))]
set_option maxRecDepth 100000 in
set_option maxHeartbeats 4000000 in
theorem hs_X9_refusalOf {l : Launch} (hl : l.stackTraces = false) {T0 : ZTf} {T1 : ZTf} {T2 : ZTf} {T3 : ZTf} {T4 : ZTf} (h0 : zMet l yX9_isSuspended (Cond.code yX9_isSuspended cX9_isSuspended 2 (Option.some Jvm.ClassFile.FieldType.boolean) :: zG) rm_X9_isSuspended 0 0 T0) (h1 : zMet l yX9_inWork (Cond.code yX9_inWork cX9_inWork 4 (Option.some Jvm.ClassFile.FieldType.int) :: zG) rm_X9_inWork 0 0 T1) (h2 : zMet l yX9_ofWorker (Cond.code yX9_ofWorker cX9_ofWorker 3 (Option.some Jvm.ClassFile.FieldType.int) :: zG) rm_X9_ofWorker 0 0 T2) (h3 : zMet l yX9_needs (Cond.code yX9_needs cX9_needs 4 (Option.some Jvm.ClassFile.FieldType.int) :: zG) rm_X9_needs 0 0 T3) (h4 : zMet l yX9_barrierOf (Cond.code yX9_barrierOf cX9_barrierOf 3 (Option.some Jvm.ClassFile.FieldType.int) :: zG) rm_X9_barrierOf 0 0 T4) (p : Program) (e : Env) (s : State) (m : MethodId) (args : Array Value) (below : List Frame) (meth : Method) (c : Code) (D : va_G) (A : Nat → Prop) (a0 : Nat → Nat) (M0 : ZM) (K : ZRet) (KX : ZEx) (X : zCtx p l rm_X9_refusalOf s m args meth c cX9_refusalOf RX9 (Cond.code yX9_refusalOf cX9_refusalOf 3 (Option.some Jvm.ClassFile.FieldType.int) :: zG) 3 (Option.some Jvm.ClassFile.FieldType.int) D A a0 M0 0 0) (hnm : meth.name = yX9_refusalOf.name) (hout : ∀ x ∈ c.exceptionTable.toList, False) : ∀ q ∈ cd_X9_refusalOf T0 T1 T2 T3 T4, zSd p l e rm_X9_refusalOf s m args below meth c 3 D A a0 M0 K KX 0 0 q.1 q.2 :=
    zall_c (zs_aload_n X (pc := 0) (q := 0) rfl (by decide +kernel)) <|
    zall_c (zs_iload_n X (pc := 1) (q := 1) rfl (by decide +kernel)) <|
    zall_c (zs_callV0 X (pc := 2) zc_X9 (fun _ ht => ⟨(zCB ht gw_9_78 gw_1_13 gw_9_75 rfl rfl (by decide +kernel) ⟨Nat.le_of_ble_eq_true rfl, Nat.le_of_ble_eq_true rfl⟩), ht _ (.tail _ gw_9_77), ht _ (.tail _ gp_77)⟩) h0 hout (by decide +kernel)) <|
    zall_c (zs_if_eq X (pc := 5) (off := 5) (by decide +kernel) (by decide)) <|
    zall_c (zs_iconst X (pc := 8) (by decide) (by decide +kernel)) <|
    zall_c (zs_iret X (pc := 9) rfl (by decide +kernel)) <|
    zall_c (zs_aload_n X (pc := 10) (q := 0) rfl (by decide +kernel)) <|
    zall_c (zs_iload_n X (pc := 11) (q := 1) rfl (by decide +kernel)) <|
    zall_c (zs_callV0 X (pc := 12) zc_X9 (fun _ ht => ⟨(zCB ht gw_9_20 gw_1_13 gw_9_17 rfl rfl (by decide +kernel) ⟨Nat.le_of_ble_eq_true rfl, Nat.le_of_ble_eq_true rfl⟩), ht _ (.tail _ gw_9_19), ht _ (.tail _ gp_67)⟩) h1 hout (by decide +kernel)) <|
    zall_c (zs_aload_n X (pc := 15) (q := 0) rfl (by decide +kernel)) <|
    zall_c (zs_iload_n X (pc := 16) (q := 1) rfl (by decide +kernel)) <|
    zall_c (zs_iconst X (pc := 17) (by decide) (by decide +kernel)) <|
    zall_c (zs_callV0 X (pc := 18) zc_X9 (fun _ ht => ⟨(zCB ht gw_8_161 gw_1_13 gw_8_158 rfl rfl (by decide +kernel) ⟨Nat.le_of_ble_eq_true rfl, Nat.le_of_ble_eq_true rfl⟩), ht _ (.tail _ gw_8_160), ht _ (.tail _ gp_48)⟩) h2 hout (by decide +kernel)) <|
    zall_c (zs_icmp_lt X (pc := 21) (off := 5) (by decide +kernel) (by decide)) <|
    zall_c (zs_iconst X (pc := 24) (by decide) (by decide +kernel)) <|
    zall_c (zs_iret X (pc := 25) rfl (by decide +kernel)) <|
    zall_c (zs_aload_n X (pc := 26) (q := 0) rfl (by decide +kernel)) <|
    zall_c (zs_iload_n X (pc := 27) (q := 2) rfl (by decide +kernel)) <|
    zall_c (zs_callV0 X (pc := 28) zc_X9 (fun _ ht => ⟨(zCB ht gw_9_52 gw_1_13 gw_9_49 rfl rfl (by decide +kernel) ⟨Nat.le_of_ble_eq_true rfl, Nat.le_of_ble_eq_true rfl⟩), ht _ (.tail _ gw_9_51), ht _ (.tail _ gp_74)⟩) h3 hout (by decide +kernel)) <|
    zall_c (zs_if_ne X (pc := 31) (off := 7) (by decide +kernel) (by decide)) <|
    zall_c (zs_iconst X (pc := 34) (by decide) (by decide +kernel)) <|
    zall_c (zs_goto X (pc := 35) (off := 9) (by decide +kernel) (by decide)) <|
    zall_c (zs_aload_n X (pc := 38) (q := 0) rfl (by decide +kernel)) <|
    zall_c (zs_iload_n X (pc := 39) (q := 1) rfl (by decide +kernel)) <|
    zall_c (zs_iload_n X (pc := 40) (q := 2) rfl (by decide +kernel)) <|
    zall_c (zs_callV0 X (pc := 41) zc_X9 (fun _ ht => ⟨(zCB ht gw_9_82 gw_1_13 gw_9_79 rfl rfl (by decide +kernel) ⟨Nat.le_of_ble_eq_true rfl, Nat.le_of_ble_eq_true rfl⟩), ht _ (.tail _ gw_9_81), ht _ (.tail _ gp_78)⟩) h4 hout (by decide +kernel)) <|
    zall_c (zs_iret X (pc := 44) rfl (by decide +kernel)) <|
    zall_n
theorem met_X9_refusalOf {l : Launch} (hl : l.stackTraces = false) {T0 : ZTf} {T1 : ZTf} {T2 : ZTf} {T3 : ZTf} {T4 : ZTf} (h0 : zMet l yX9_isSuspended (Cond.code yX9_isSuspended cX9_isSuspended 2 (Option.some Jvm.ClassFile.FieldType.boolean) :: zG) rm_X9_isSuspended 0 0 T0) (h1 : zMet l yX9_inWork (Cond.code yX9_inWork cX9_inWork 4 (Option.some Jvm.ClassFile.FieldType.int) :: zG) rm_X9_inWork 0 0 T1) (h2 : zMet l yX9_ofWorker (Cond.code yX9_ofWorker cX9_ofWorker 3 (Option.some Jvm.ClassFile.FieldType.int) :: zG) rm_X9_ofWorker 0 0 T2) (h3 : zMet l yX9_needs (Cond.code yX9_needs cX9_needs 4 (Option.some Jvm.ClassFile.FieldType.int) :: zG) rm_X9_needs 0 0 T3) (h4 : zMet l yX9_barrierOf (Cond.code yX9_barrierOf cX9_barrierOf 3 (Option.some Jvm.ClassFile.FieldType.int) :: zG) rm_X9_barrierOf 0 0 T4) {T : ZTf} (bd : zBd (cd_X9_refusalOf T0 T1 T2 T3 T4) 3 0 0 T) : zMet l yX9_refusalOf (Cond.code yX9_refusalOf cX9_refusalOf 3 (Option.some Jvm.ClassFile.FieldType.int) :: zG) rm_X9_refusalOf 0 0 T := zMet_of hl (by decide +kernel) rfl rfl rfl rfl (hs_X9_refusalOf hl h0 h1 h2 h3 h4) bd

abbrev rm_X9_canTake : Room := { frames := 7, cells := 0, slots := 0, locals := 166 }
def cd_X9_canTake (T0 : ZTf) : List (Nat × ZTr) := [(0, tAld 0 1), (1, tIld 1 2), (2, tIld 2 3), (3, tCall0 3 T0 (zRcv 12) 6), (6, tIf_ne 13 9), (9, tC (zi 1) 10), (10, tGo 14), (13, tC (zi 0) 14), (14, tRi zPz)]
set_option maxRecDepth 100000 in
set_option maxHeartbeats 4000000 in
theorem hs_X9_canTake {l : Launch} (hl : l.stackTraces = false) {T0 : ZTf} (h0 : zMet l yX9_refusalOf (Cond.code yX9_refusalOf cX9_refusalOf 3 (Option.some Jvm.ClassFile.FieldType.int) :: zG) rm_X9_refusalOf 0 0 T0) (p : Program) (e : Env) (s : State) (m : MethodId) (args : Array Value) (below : List Frame) (meth : Method) (c : Code) (D : va_G) (A : Nat → Prop) (a0 : Nat → Nat) (M0 : ZM) (K : ZRet) (KX : ZEx) (X : zCtx p l rm_X9_canTake s m args meth c cX9_canTake RX9 (Cond.code yX9_canTake cX9_canTake 3 (Option.some Jvm.ClassFile.FieldType.boolean) :: zG) 3 (Option.some Jvm.ClassFile.FieldType.boolean) D A a0 M0 0 0) (hnm : meth.name = yX9_canTake.name) (hout : ∀ x ∈ c.exceptionTable.toList, False) : ∀ q ∈ cd_X9_canTake T0, zSd p l e rm_X9_canTake s m args below meth c 3 D A a0 M0 K KX 0 0 q.1 q.2 :=
    zall_c (zs_aload_n X (pc := 0) (q := 0) rfl (by decide +kernel)) <|
    zall_c (zs_iload_n X (pc := 1) (q := 1) rfl (by decide +kernel)) <|
    zall_c (zs_iload_n X (pc := 2) (q := 2) rfl (by decide +kernel)) <|
    zall_c (zs_callV0 X (pc := 3) zc_X9 (fun _ ht => ⟨(zCB ht gw_9_74 gw_1_13 gw_9_71 rfl rfl (by decide +kernel) ⟨Nat.le_of_ble_eq_true rfl, Nat.le_of_ble_eq_true rfl⟩), ht _ (.tail _ gw_9_73), ht _ (.tail _ gp_76)⟩) h0 hout (by decide +kernel)) <|
    zall_c (zs_if_ne X (pc := 6) (off := 7) (by decide +kernel) (by decide)) <|
    zall_c (zs_iconst X (pc := 9) (by decide) (by decide +kernel)) <|
    zall_c (zs_goto X (pc := 10) (off := 4) (by decide +kernel) (by decide)) <|
    zall_c (zs_iconst X (pc := 13) (by decide) (by decide +kernel)) <|
    zall_c (zs_zret X (pc := 14) rfl zR_bool (by decide +kernel)) <|
    zall_n
theorem met_X9_canTake {l : Launch} (hl : l.stackTraces = false) {T0 : ZTf} (h0 : zMet l yX9_refusalOf (Cond.code yX9_refusalOf cX9_refusalOf 3 (Option.some Jvm.ClassFile.FieldType.int) :: zG) rm_X9_refusalOf 0 0 T0) {T : ZTf} (bd : zBd (cd_X9_canTake T0) 3 0 0 T) : zMet l yX9_canTake (Cond.code yX9_canTake cX9_canTake 3 (Option.some Jvm.ClassFile.FieldType.boolean) :: zG) rm_X9_canTake 0 0 T := zMet_of hl (by decide +kernel) rfl rfl rfl rfl (hs_X9_canTake hl h0) bd

abbrev rm_X9_isStuckAt : Room := { frames := 5, cells := 0, slots := 0, locals := 120 }
def cd_X9_isStuckAt (T0 : ZTf) (T1 : ZTf) (T2 : ZTf) : List (Nat × ZTr) := [(0, tAld 0 1), (1, tIld 1 2), (2, tCall0 2 T0 (zRcv 12) 5), (5, tIf_le 12 8), (8, tC (zi 1) 9), (9, tGo 13), (12, tC (zi 0) 13), (13, tIst 2 14), (14, tC (zi 0) 15), (15, tIst 3 16), (16, tIld 3 17), (17, tAld 0 18), (18, tCall0 1 T1 (zRcv 12) 21), (21, tIc_ge 49 24), (24, tIld 2 25), (25, tIf_eq 41 28), (28, tAld 0 29), (29, tIld 3 30), (30, tIld 1 31), (31, tCall0 3 T2 (zRcv 12) 34), (34, tIf_le 41 37), (37, tC (zi 1) 38), (38, tGo 42), (41, tC (zi 0) 42), (42, tIst 2 43), (43, tInc 3 1 46), (46, tGo 16), (49, tIld 2 50), (50, tRi zPz)]
set_option maxRecDepth 100000 in
set_option maxHeartbeats 4000000 in
theorem hs_X9_isStuckAt {l : Launch} (hl : l.stackTraces = false) {T0 : ZTf} {T1 : ZTf} {T2 : ZTf} (h0 : zMet l yX9_needs (Cond.code yX9_needs cX9_needs 4 (Option.some Jvm.ClassFile.FieldType.int) :: zG) rm_X9_needs 0 0 T0) (h1 : zMet l yX9_workers (Cond.code yX9_workers cX9_workers 1 (Option.some Jvm.ClassFile.FieldType.int) :: zG) rm_X9_workers 0 0 T1) (h2 : zMet l yX9_barrierOf (Cond.code yX9_barrierOf cX9_barrierOf 3 (Option.some Jvm.ClassFile.FieldType.int) :: zG) rm_X9_barrierOf 0 0 T2) (p : Program) (e : Env) (s : State) (m : MethodId) (args : Array Value) (below : List Frame) (meth : Method) (c : Code) (D : va_G) (A : Nat → Prop) (a0 : Nat → Nat) (M0 : ZM) (K : ZRet) (KX : ZEx) (X : zCtx p l rm_X9_isStuckAt s m args meth c cX9_isStuckAt RX9 (Cond.code yX9_isStuckAt cX9_isStuckAt 4 (Option.some Jvm.ClassFile.FieldType.boolean) :: zG) 4 (Option.some Jvm.ClassFile.FieldType.boolean) D A a0 M0 0 0) (hnm : meth.name = yX9_isStuckAt.name) (hout : ∀ x ∈ c.exceptionTable.toList, False) : ∀ q ∈ cd_X9_isStuckAt T0 T1 T2, zSd p l e rm_X9_isStuckAt s m args below meth c 4 D A a0 M0 K KX 0 0 q.1 q.2 :=
    zall_c (zs_aload_n X (pc := 0) (q := 0) rfl (by decide +kernel)) <|
    zall_c (zs_iload_n X (pc := 1) (q := 1) rfl (by decide +kernel)) <|
    zall_c (zs_callV0 X (pc := 2) zc_X9 (fun _ ht => ⟨(zCB ht gw_9_52 gw_1_13 gw_9_49 rfl rfl (by decide +kernel) ⟨Nat.le_of_ble_eq_true rfl, Nat.le_of_ble_eq_true rfl⟩), ht _ (.tail _ gw_9_51), ht _ (.tail _ gp_74)⟩) h0 hout (by decide +kernel)) <|
    zall_c (zs_if_le X (pc := 5) (off := 7) (by decide +kernel) (by decide)) <|
    zall_c (zs_iconst X (pc := 8) (by decide) (by decide +kernel)) <|
    zall_c (zs_goto X (pc := 9) (off := 4) (by decide +kernel) (by decide)) <|
    zall_c (zs_iconst X (pc := 12) (by decide) (by decide +kernel)) <|
    zall_c (zs_istore_n X (pc := 13) (q := 2) rfl (by decide) (by decide +kernel)) <|
    zall_c (zs_iconst X (pc := 14) (by decide) (by decide +kernel)) <|
    zall_c (zs_istore_n X (pc := 15) (q := 3) rfl (by decide) (by decide +kernel)) <|
    zall_c (zs_iload_n X (pc := 16) (q := 3) rfl (by decide +kernel)) <|
    zall_c (zs_aload_n X (pc := 17) (q := 0) rfl (by decide +kernel)) <|
    zall_c (zs_callV0 X (pc := 18) zc_X9 (fun _ ht => ⟨(zCB ht gw_8_136 gw_1_13 gw_8_133 rfl rfl (by decide +kernel) ⟨Nat.le_of_ble_eq_true rfl, Nat.le_of_ble_eq_true rfl⟩), ht _ (.tail _ gw_8_135), ht _ (.tail _ gp_44)⟩) h1 hout (by decide +kernel)) <|
    zall_c (zs_icmp_ge X (pc := 21) (off := 28) (by decide +kernel) (by decide)) <|
    zall_c (zs_iload_n X (pc := 24) (q := 2) rfl (by decide +kernel)) <|
    zall_c (zs_if_eq X (pc := 25) (off := 16) (by decide +kernel) (by decide)) <|
    zall_c (zs_aload_n X (pc := 28) (q := 0) rfl (by decide +kernel)) <|
    zall_c (zs_iload_n X (pc := 29) (q := 3) rfl (by decide +kernel)) <|
    zall_c (zs_iload_n X (pc := 30) (q := 1) rfl (by decide +kernel)) <|
    zall_c (zs_callV0 X (pc := 31) zc_X9 (fun _ ht => ⟨(zCB ht gw_9_82 gw_1_13 gw_9_79 rfl rfl (by decide +kernel) ⟨Nat.le_of_ble_eq_true rfl, Nat.le_of_ble_eq_true rfl⟩), ht _ (.tail _ gw_9_81), ht _ (.tail _ gp_78)⟩) h2 hout (by decide +kernel)) <|
    zall_c (zs_if_le X (pc := 34) (off := 7) (by decide +kernel) (by decide)) <|
    zall_c (zs_iconst X (pc := 37) (by decide) (by decide +kernel)) <|
    zall_c (zs_goto X (pc := 38) (off := 4) (by decide +kernel) (by decide)) <|
    zall_c (zs_iconst X (pc := 41) (by decide) (by decide +kernel)) <|
    zall_c (zs_istore_n X (pc := 42) (q := 2) rfl (by decide) (by decide +kernel)) <|
    zall_c (zs_iinc X (pc := 43) (by decide) (by decide +kernel)) <|
    zall_c (zs_goto X (pc := 46) (off := (-30)) (by decide +kernel) (by decide)) <|
    zall_c (zs_iload_n X (pc := 49) (q := 2) rfl (by decide +kernel)) <|
    zall_c (zs_zret X (pc := 50) rfl zR_bool (by decide +kernel)) <|
    zall_n
theorem met_X9_isStuckAt {l : Launch} (hl : l.stackTraces = false) {T0 : ZTf} {T1 : ZTf} {T2 : ZTf} (h0 : zMet l yX9_needs (Cond.code yX9_needs cX9_needs 4 (Option.some Jvm.ClassFile.FieldType.int) :: zG) rm_X9_needs 0 0 T0) (h1 : zMet l yX9_workers (Cond.code yX9_workers cX9_workers 1 (Option.some Jvm.ClassFile.FieldType.int) :: zG) rm_X9_workers 0 0 T1) (h2 : zMet l yX9_barrierOf (Cond.code yX9_barrierOf cX9_barrierOf 3 (Option.some Jvm.ClassFile.FieldType.int) :: zG) rm_X9_barrierOf 0 0 T2) {T : ZTf} (bd : zBd (cd_X9_isStuckAt T0 T1 T2) 4 0 0 T) : zMet l yX9_isStuckAt (Cond.code yX9_isStuckAt cX9_isStuckAt 4 (Option.some Jvm.ClassFile.FieldType.boolean) :: zG) rm_X9_isStuckAt 0 0 T := zMet_of hl (by decide +kernel) rfl rfl rfl rfl (hs_X9_isStuckAt hl h0 h1 h2) bd

abbrev rm_X9_doTake : Room := { frames := 3, cells := 0, slots := 0, locals := 73 }
def cd_X9_doTake (T0 : ZTf) (T1 : ZTf) (T2 : ZTf) (T3 : ZTf) (T4 : ZTf) : List (Nat × ZTr) := [(0, tAld 0 1), (1, tIld 2 2), (2, tCall0 2 T0 (zRcv 12) 5), (5, tIst 3 6), (6, tAld 0 7), (7, tIld 2 8), (8, tC (zi 6) 10), (10, tIld 3 11), (11, tC (zi 1) 12), (12, tAdd 13), (13, tCall0 4 T1 (zRcv 12) 16), (16, tAld 0 17), (17, tIld 2 18), (18, tC (zi 7) 20), (20, tC (zi 3) 21), (21, tIld 3 22), (22, tMul 23), (23, tAdd 24), (24, tC (zi 0) 25), (25, tAdd 26), (26, tIld 1 27), (27, tCall0 4 T1 (zRcv 12) 30), (30, tAld 0 31), (31, tIld 2 32), (32, tC (zi 7) 34), (34, tC (zi 3) 35), (35, tIld 3 36), (36, tMul 37), (37, tAdd 38), (38, tC (zi 1) 39), (39, tAdd 40), (40, tC (zi (-1)) 41), (41, tCall0 4 T1 (zRcv 12) 44), (44, tAld 0 45), (45, tIld 2 46), (46, tC (zi 7) 48), (48, tC (zi 3) 49), (49, tIld 3 50), (50, tMul 51), (51, tAdd 52), (52, tC (zi 2) 53), (53, tAdd 54), (54, tAld 0 55), (55, tGetR 12 3 58), (58, tC (zi 3) 59), (59, tIal 20 60), (60, tAld 0 61), (61, tC (zi 1) 62), (62, tCall0 2 T2 (zRcv 12) 65), (65, tAdd 66), (66, tCall0 4 T1 (zRcv 12) 69), (69, tAld 0 70), (70, tIld 2 71), (71, tC (zi 4) 72), (72, tAld 0 73), (73, tIld 2 74), (74, tC (zi 4) 75), (75, tCall0 3 T3 (zRcv 12) 78), (78, tC (zi 1) 79), (79, tIld 1 80), (80, tBif zshl 81), (81, tBif zor 82), (82, tCall0 4 T1 (zRcv 12) 85), (85, tAld 0 86), (86, tIld 1 87), (87, tC (zi 4) 88), (88, tC (zi 1) 89), (89, tCall0 4 T4 (zRcv 12) 92), (92, tAld 0 93), (93, tGetR 12 3 96), (96, tC (zi 3) 97), (97, tIal 20 98), (98, tAld 0 99), (99, tC (zi 1) 100), (100, tCall0 2 T2 (zRcv 12) 103), (103, tAdd 104), (104, tRi (fun _ => True))]
set_option maxRecDepth 100000 in
set_option maxHeartbeats 4000000 in
theorem hs_X9_doTake {l : Launch} (hl : l.stackTraces = false) {T0 : ZTf} {T1 : ZTf} {T2 : ZTf} {T3 : ZTf} {T4 : ZTf} (h0 : zMet l yX9_manyAt (Cond.code yX9_manyAt cX9_manyAt 2 (Option.some Jvm.ClassFile.FieldType.int) :: zG) rm_X9_manyAt 0 0 T0) (h1 : zMet l yX9_put (Cond.code yX9_put cX9_put 4 (Option.none : Option Jvm.ClassFile.FieldType) :: zG) rm_X9_put 0 0 T1) (h2 : zMet l yX9_table (Cond.code yX9_table cX9_table 2 (Option.some Jvm.ClassFile.FieldType.int) :: zG) rm_X9_table 0 0 T2) (h3 : zMet l yX9_ofRow (Cond.code yX9_ofRow cX9_ofRow 3 (Option.some Jvm.ClassFile.FieldType.int) :: zG) rm_X9_ofRow 0 0 T3) (h4 : zMet l yX9_add (Cond.code yX9_add cX9_add 4 (Option.none : Option Jvm.ClassFile.FieldType) :: zG) rm_X9_add 0 0 T4) (p : Program) (e : Env) (s : State) (m : MethodId) (args : Array Value) (below : List Frame) (meth : Method) (c : Code) (D : va_G) (A : Nat → Prop) (a0 : Nat → Nat) (M0 : ZM) (K : ZRet) (KX : ZEx) (X : zCtx p l rm_X9_doTake s m args meth c cX9_doTake RX9 (Cond.code yX9_doTake cX9_doTake 4 (Option.some Jvm.ClassFile.FieldType.int) :: zG) 4 (Option.some Jvm.ClassFile.FieldType.int) D A a0 M0 0 0) (hnm : meth.name = yX9_doTake.name) (hout : ∀ x ∈ c.exceptionTable.toList, False) : ∀ q ∈ cd_X9_doTake T0 T1 T2 T3 T4, zSd p l e rm_X9_doTake s m args below meth c 4 D A a0 M0 K KX 0 0 q.1 q.2 :=
    zall_c (zs_aload_n X (pc := 0) (q := 0) rfl (by decide +kernel)) <|
    zall_c (zs_iload_n X (pc := 1) (q := 2) rfl (by decide +kernel)) <|
    zall_c (zs_callV0 X (pc := 2) zc_X9 (fun _ ht => ⟨(zCB ht gw_9_32 gw_1_13 gw_9_29 rfl rfl (by decide +kernel) ⟨Nat.le_of_ble_eq_true rfl, Nat.le_of_ble_eq_true rfl⟩), ht _ (.tail _ gw_9_31), ht _ (.tail _ gp_70)⟩) h0 hout (by decide +kernel)) <|
    zall_c (zs_istore_n X (pc := 5) (q := 3) rfl (by decide) (by decide +kernel)) <|
    zall_c (zs_aload_n X (pc := 6) (q := 0) rfl (by decide +kernel)) <|
    zall_c (zs_iload_n X (pc := 7) (q := 2) rfl (by decide +kernel)) <|
    zall_c (zs_bipush X (pc := 8) (by decide) (by decide +kernel) (by decide +kernel)) <|
    zall_c (zs_iload_n X (pc := 10) (q := 3) rfl (by decide +kernel)) <|
    zall_c (zs_iconst X (pc := 11) (by decide) (by decide +kernel)) <|
    zall_c (zs_iadd X (pc := 12) (by decide +kernel)) <|
    zall_c (zs_callV0 X (pc := 13) zc_X9 (fun _ ht => ⟨(zCB ht gw_8_181 gw_1_13 gw_8_178 rfl rfl (by decide +kernel) ⟨Nat.le_of_ble_eq_true rfl, Nat.le_of_ble_eq_true rfl⟩), ht _ (.tail _ gw_8_180), ht _ (.tail _ gp_53)⟩) h1 hout (by decide +kernel)) <|
    zall_c (zs_aload_n X (pc := 16) (q := 0) rfl (by decide +kernel)) <|
    zall_c (zs_iload_n X (pc := 17) (q := 2) rfl (by decide +kernel)) <|
    zall_c (zs_bipush X (pc := 18) (by decide) (by decide +kernel) (by decide +kernel)) <|
    zall_c (zs_iconst X (pc := 20) (by decide) (by decide +kernel)) <|
    zall_c (zs_iload_n X (pc := 21) (q := 3) rfl (by decide +kernel)) <|
    zall_c (zs_imul X (pc := 22) (by decide +kernel)) <|
    zall_c (zs_iadd X (pc := 23) (by decide +kernel)) <|
    zall_c (zs_iconst X (pc := 24) (by decide) (by decide +kernel)) <|
    zall_c (zs_iadd X (pc := 25) (by decide +kernel)) <|
    zall_c (zs_iload_n X (pc := 26) (q := 1) rfl (by decide +kernel)) <|
    zall_c (zs_callV0 X (pc := 27) zc_X9 (fun _ ht => ⟨(zCB ht gw_8_181 gw_1_13 gw_8_178 rfl rfl (by decide +kernel) ⟨Nat.le_of_ble_eq_true rfl, Nat.le_of_ble_eq_true rfl⟩), ht _ (.tail _ gw_8_180), ht _ (.tail _ gp_53)⟩) h1 hout (by decide +kernel)) <|
    zall_c (zs_aload_n X (pc := 30) (q := 0) rfl (by decide +kernel)) <|
    zall_c (zs_iload_n X (pc := 31) (q := 2) rfl (by decide +kernel)) <|
    zall_c (zs_bipush X (pc := 32) (by decide) (by decide +kernel) (by decide +kernel)) <|
    zall_c (zs_iconst X (pc := 34) (by decide) (by decide +kernel)) <|
    zall_c (zs_iload_n X (pc := 35) (q := 3) rfl (by decide +kernel)) <|
    zall_c (zs_imul X (pc := 36) (by decide +kernel)) <|
    zall_c (zs_iadd X (pc := 37) (by decide +kernel)) <|
    zall_c (zs_iconst X (pc := 38) (by decide) (by decide +kernel)) <|
    zall_c (zs_iadd X (pc := 39) (by decide +kernel)) <|
    zall_c (zs_iconst X (pc := 40) (by decide) (by decide +kernel)) <|
    zall_c (zs_callV0 X (pc := 41) zc_X9 (fun _ ht => ⟨(zCB ht gw_8_181 gw_1_13 gw_8_178 rfl rfl (by decide +kernel) ⟨Nat.le_of_ble_eq_true rfl, Nat.le_of_ble_eq_true rfl⟩), ht _ (.tail _ gw_8_180), ht _ (.tail _ gp_53)⟩) h1 hout (by decide +kernel)) <|
    zall_c (zs_aload_n X (pc := 44) (q := 0) rfl (by decide +kernel)) <|
    zall_c (zs_iload_n X (pc := 45) (q := 2) rfl (by decide +kernel)) <|
    zall_c (zs_bipush X (pc := 46) (by decide) (by decide +kernel) (by decide +kernel)) <|
    zall_c (zs_iconst X (pc := 48) (by decide) (by decide +kernel)) <|
    zall_c (zs_iload_n X (pc := 49) (q := 3) rfl (by decide +kernel)) <|
    zall_c (zs_imul X (pc := 50) (by decide +kernel)) <|
    zall_c (zs_iadd X (pc := 51) (by decide +kernel)) <|
    zall_c (zs_iconst X (pc := 52) (by decide) (by decide +kernel)) <|
    zall_c (zs_iadd X (pc := 53) (by decide +kernel)) <|
    zall_c (zs_aload_n X (pc := 54) (q := 0) rfl (by decide +kernel)) <|
    zall_c (zs_getr X (pc := 55) zc_X9 (by decide) (zin ui_X9) (.tail _ gw_7_218) (by decide +kernel) (by decide +kernel)) <|
    zall_c (zs_iconst X (pc := 58) (by decide) (by decide +kernel)) <|
    zall_c (zs_iaload20 X (pc := 59) (by decide +kernel)) <|
    zall_c (zs_aload_n X (pc := 60) (q := 0) rfl (by decide +kernel)) <|
    zall_c (zs_iconst X (pc := 61) (by decide) (by decide +kernel)) <|
    zall_c (zs_callV0 X (pc := 62) zc_X9 (fun _ ht => ⟨(zCB ht gw_8_227 gw_1_13 gw_8_224 rfl rfl (by decide +kernel) ⟨Nat.le_of_ble_eq_true rfl, Nat.le_of_ble_eq_true rfl⟩), ht _ (.tail _ gw_8_226), ht _ (.tail _ gp_60)⟩) h2 hout (by decide +kernel)) <|
    zall_c (zs_iadd X (pc := 65) (by decide +kernel)) <|
    zall_c (zs_callV0 X (pc := 66) zc_X9 (fun _ ht => ⟨(zCB ht gw_8_181 gw_1_13 gw_8_178 rfl rfl (by decide +kernel) ⟨Nat.le_of_ble_eq_true rfl, Nat.le_of_ble_eq_true rfl⟩), ht _ (.tail _ gw_8_180), ht _ (.tail _ gp_53)⟩) h1 hout (by decide +kernel)) <|
    zall_c (zs_aload_n X (pc := 69) (q := 0) rfl (by decide +kernel)) <|
    zall_c (zs_iload_n X (pc := 70) (q := 2) rfl (by decide +kernel)) <|
    zall_c (zs_iconst X (pc := 71) (by decide) (by decide +kernel)) <|
    zall_c (zs_aload_n X (pc := 72) (q := 0) rfl (by decide +kernel)) <|
    zall_c (zs_iload_n X (pc := 73) (q := 2) rfl (by decide +kernel)) <|
    zall_c (zs_iconst X (pc := 74) (by decide) (by decide +kernel)) <|
    zall_c (zs_callV0 X (pc := 75) zc_X9 (fun _ ht => ⟨(zCB ht gw_8_239 gw_1_13 gw_8_236 rfl rfl (by decide +kernel) ⟨Nat.le_of_ble_eq_true rfl, Nat.le_of_ble_eq_true rfl⟩), ht _ (.tail _ gw_8_238), ht _ (.tail _ gp_63)⟩) h3 hout (by decide +kernel)) <|
    zall_c (zs_iconst X (pc := 78) (by decide) (by decide +kernel)) <|
    zall_c (zs_iload_n X (pc := 79) (q := 1) rfl (by decide +kernel)) <|
    zall_c (zs_ishl X (pc := 80) (by decide +kernel)) <|
    zall_c (zs_ior X (pc := 81) (by decide +kernel)) <|
    zall_c (zs_callV0 X (pc := 82) zc_X9 (fun _ ht => ⟨(zCB ht gw_8_181 gw_1_13 gw_8_178 rfl rfl (by decide +kernel) ⟨Nat.le_of_ble_eq_true rfl, Nat.le_of_ble_eq_true rfl⟩), ht _ (.tail _ gw_8_180), ht _ (.tail _ gp_53)⟩) h1 hout (by decide +kernel)) <|
    zall_c (zs_aload_n X (pc := 85) (q := 0) rfl (by decide +kernel)) <|
    zall_c (zs_iload_n X (pc := 86) (q := 1) rfl (by decide +kernel)) <|
    zall_c (zs_iconst X (pc := 87) (by decide) (by decide +kernel)) <|
    zall_c (zs_iconst X (pc := 88) (by decide) (by decide +kernel)) <|
    zall_c (zs_callV0 X (pc := 89) zc_X9 (fun _ ht => ⟨(zCB ht gw_8_165 gw_1_13 gw_8_162 rfl rfl (by decide +kernel) ⟨Nat.le_of_ble_eq_true rfl, Nat.le_of_ble_eq_true rfl⟩), ht _ (.tail _ gw_8_164), ht _ (.tail _ gp_49)⟩) h4 hout (by decide +kernel)) <|
    zall_c (zs_aload_n X (pc := 92) (q := 0) rfl (by decide +kernel)) <|
    zall_c (zs_getr X (pc := 93) zc_X9 (by decide) (zin ui_X9) (.tail _ gw_7_218) (by decide +kernel) (by decide +kernel)) <|
    zall_c (zs_iconst X (pc := 96) (by decide) (by decide +kernel)) <|
    zall_c (zs_iaload20 X (pc := 97) (by decide +kernel)) <|
    zall_c (zs_aload_n X (pc := 98) (q := 0) rfl (by decide +kernel)) <|
    zall_c (zs_iconst X (pc := 99) (by decide) (by decide +kernel)) <|
    zall_c (zs_callV0 X (pc := 100) zc_X9 (fun _ ht => ⟨(zCB ht gw_8_227 gw_1_13 gw_8_224 rfl rfl (by decide +kernel) ⟨Nat.le_of_ble_eq_true rfl, Nat.le_of_ble_eq_true rfl⟩), ht _ (.tail _ gw_8_226), ht _ (.tail _ gp_60)⟩) h2 hout (by decide +kernel)) <|
    zall_c (zs_iadd X (pc := 103) (by decide +kernel)) <|
    zall_c (zs_iret X (pc := 104) rfl (by decide +kernel)) <|
    zall_n
theorem met_X9_doTake {l : Launch} (hl : l.stackTraces = false) {T0 : ZTf} {T1 : ZTf} {T2 : ZTf} {T3 : ZTf} {T4 : ZTf} (h0 : zMet l yX9_manyAt (Cond.code yX9_manyAt cX9_manyAt 2 (Option.some Jvm.ClassFile.FieldType.int) :: zG) rm_X9_manyAt 0 0 T0) (h1 : zMet l yX9_put (Cond.code yX9_put cX9_put 4 (Option.none : Option Jvm.ClassFile.FieldType) :: zG) rm_X9_put 0 0 T1) (h2 : zMet l yX9_table (Cond.code yX9_table cX9_table 2 (Option.some Jvm.ClassFile.FieldType.int) :: zG) rm_X9_table 0 0 T2) (h3 : zMet l yX9_ofRow (Cond.code yX9_ofRow cX9_ofRow 3 (Option.some Jvm.ClassFile.FieldType.int) :: zG) rm_X9_ofRow 0 0 T3) (h4 : zMet l yX9_add (Cond.code yX9_add cX9_add 4 (Option.none : Option Jvm.ClassFile.FieldType) :: zG) rm_X9_add 0 0 T4) {T : ZTf} (bd : zBd (cd_X9_doTake T0 T1 T2 T3 T4) 4 0 0 T) : zMet l yX9_doTake (Cond.code yX9_doTake cX9_doTake 4 (Option.some Jvm.ClassFile.FieldType.int) :: zG) rm_X9_doTake 0 0 T := zMet_of hl (by decide +kernel) rfl rfl rfl rfl (hs_X9_doTake hl h0 h1 h2 h3 h4) bd

abbrev rm_X9_dropTaking : Room := { frames := 3, cells := 0, slots := 0, locals := 73 }
def cd_X9_dropTaking (T0 : ZTf) (T1 : ZTf) (T2 : ZTf) : List (Nat × ZTr) := [(0, tAld 0 1), (1, tIld 1 2), (2, tC (zi 6) 4), (4, tAld 0 5), (5, tIld 1 6), (6, tCall0 2 T0 (zRcv 12) 9), (9, tC (zi 1) 10), (10, tSub 11), (11, tCall0 4 T1 (zRcv 12) 14), (14, tC (zi 3) 15), (15, tIld 2 16), (16, tMul 17), (17, tIst 3 18), (18, tIld 3 19), (19, tC (zi 3) 20), (20, tAld 0 21), (21, tIld 1 22), (22, tCall0 2 T0 (zRcv 12) 25), (25, tMul 26), (26, tIc_ge 55 29), (29, tAld 0 30), (30, tIld 1 31), (31, tC (zi 7) 33), (33, tIld 3 34), (34, tAdd 35), (35, tAld 0 36), (36, tIld 1 37), (37, tC (zi 7) 39), (39, tIld 3 40), (40, tAdd 41), (41, tC (zi 3) 42), (42, tAdd 43), (43, tCall0 3 T2 (zRcv 12) 46), (46, tCall0 4 T1 (zRcv 12) 49), (49, tInc 3 1 52), (52, tGo 18), (55, tRv)]
set_option maxRecDepth 100000 in
set_option maxHeartbeats 4000000 in
theorem hs_X9_dropTaking {l : Launch} (hl : l.stackTraces = false) {T0 : ZTf} {T1 : ZTf} {T2 : ZTf} (h0 : zMet l yX9_manyAt (Cond.code yX9_manyAt cX9_manyAt 2 (Option.some Jvm.ClassFile.FieldType.int) :: zG) rm_X9_manyAt 0 0 T0) (h1 : zMet l yX9_put (Cond.code yX9_put cX9_put 4 (Option.none : Option Jvm.ClassFile.FieldType) :: zG) rm_X9_put 0 0 T1) (h2 : zMet l yX9_ofRow (Cond.code yX9_ofRow cX9_ofRow 3 (Option.some Jvm.ClassFile.FieldType.int) :: zG) rm_X9_ofRow 0 0 T2) (p : Program) (e : Env) (s : State) (m : MethodId) (args : Array Value) (below : List Frame) (meth : Method) (c : Code) (D : va_G) (A : Nat → Prop) (a0 : Nat → Nat) (M0 : ZM) (K : ZRet) (KX : ZEx) (X : zCtx p l rm_X9_dropTaking s m args meth c cX9_dropTaking RX9 (Cond.code yX9_dropTaking cX9_dropTaking 4 (Option.none : Option Jvm.ClassFile.FieldType) :: zG) 4 (Option.none : Option Jvm.ClassFile.FieldType) D A a0 M0 0 0) (hnm : meth.name = yX9_dropTaking.name) (hout : ∀ x ∈ c.exceptionTable.toList, False) : ∀ q ∈ cd_X9_dropTaking T0 T1 T2, zSd p l e rm_X9_dropTaking s m args below meth c 4 D A a0 M0 K KX 0 0 q.1 q.2 :=
    zall_c (zs_aload_n X (pc := 0) (q := 0) rfl (by decide +kernel)) <|
    zall_c (zs_iload_n X (pc := 1) (q := 1) rfl (by decide +kernel)) <|
    zall_c (zs_bipush X (pc := 2) (by decide) (by decide +kernel) (by decide +kernel)) <|
    zall_c (zs_aload_n X (pc := 4) (q := 0) rfl (by decide +kernel)) <|
    zall_c (zs_iload_n X (pc := 5) (q := 1) rfl (by decide +kernel)) <|
    zall_c (zs_callV0 X (pc := 6) zc_X9 (fun _ ht => ⟨(zCB ht gw_9_32 gw_1_13 gw_9_29 rfl rfl (by decide +kernel) ⟨Nat.le_of_ble_eq_true rfl, Nat.le_of_ble_eq_true rfl⟩), ht _ (.tail _ gw_9_31), ht _ (.tail _ gp_70)⟩) h0 hout (by decide +kernel)) <|
    zall_c (zs_iconst X (pc := 9) (by decide) (by decide +kernel)) <|
    zall_c (zs_isub X (pc := 10) (by decide +kernel)) <|
    zall_c (zs_callV0 X (pc := 11) zc_X9 (fun _ ht => ⟨(zCB ht gw_8_181 gw_1_13 gw_8_178 rfl rfl (by decide +kernel) ⟨Nat.le_of_ble_eq_true rfl, Nat.le_of_ble_eq_true rfl⟩), ht _ (.tail _ gw_8_180), ht _ (.tail _ gp_53)⟩) h1 hout (by decide +kernel)) <|
    zall_c (zs_iconst X (pc := 14) (by decide) (by decide +kernel)) <|
    zall_c (zs_iload_n X (pc := 15) (q := 2) rfl (by decide +kernel)) <|
    zall_c (zs_imul X (pc := 16) (by decide +kernel)) <|
    zall_c (zs_istore_n X (pc := 17) (q := 3) rfl (by decide) (by decide +kernel)) <|
    zall_c (zs_iload_n X (pc := 18) (q := 3) rfl (by decide +kernel)) <|
    zall_c (zs_iconst X (pc := 19) (by decide) (by decide +kernel)) <|
    zall_c (zs_aload_n X (pc := 20) (q := 0) rfl (by decide +kernel)) <|
    zall_c (zs_iload_n X (pc := 21) (q := 1) rfl (by decide +kernel)) <|
    zall_c (zs_callV0 X (pc := 22) zc_X9 (fun _ ht => ⟨(zCB ht gw_9_32 gw_1_13 gw_9_29 rfl rfl (by decide +kernel) ⟨Nat.le_of_ble_eq_true rfl, Nat.le_of_ble_eq_true rfl⟩), ht _ (.tail _ gw_9_31), ht _ (.tail _ gp_70)⟩) h0 hout (by decide +kernel)) <|
    zall_c (zs_imul X (pc := 25) (by decide +kernel)) <|
    zall_c (zs_icmp_ge X (pc := 26) (off := 29) (by decide +kernel) (by decide)) <|
    zall_c (zs_aload_n X (pc := 29) (q := 0) rfl (by decide +kernel)) <|
    zall_c (zs_iload_n X (pc := 30) (q := 1) rfl (by decide +kernel)) <|
    zall_c (zs_bipush X (pc := 31) (by decide) (by decide +kernel) (by decide +kernel)) <|
    zall_c (zs_iload_n X (pc := 33) (q := 3) rfl (by decide +kernel)) <|
    zall_c (zs_iadd X (pc := 34) (by decide +kernel)) <|
    zall_c (zs_aload_n X (pc := 35) (q := 0) rfl (by decide +kernel)) <|
    zall_c (zs_iload_n X (pc := 36) (q := 1) rfl (by decide +kernel)) <|
    zall_c (zs_bipush X (pc := 37) (by decide) (by decide +kernel) (by decide +kernel)) <|
    zall_c (zs_iload_n X (pc := 39) (q := 3) rfl (by decide +kernel)) <|
    zall_c (zs_iadd X (pc := 40) (by decide +kernel)) <|
    zall_c (zs_iconst X (pc := 41) (by decide) (by decide +kernel)) <|
    zall_c (zs_iadd X (pc := 42) (by decide +kernel)) <|
    zall_c (zs_callV0 X (pc := 43) zc_X9 (fun _ ht => ⟨(zCB ht gw_8_239 gw_1_13 gw_8_236 rfl rfl (by decide +kernel) ⟨Nat.le_of_ble_eq_true rfl, Nat.le_of_ble_eq_true rfl⟩), ht _ (.tail _ gw_8_238), ht _ (.tail _ gp_63)⟩) h2 hout (by decide +kernel)) <|
    zall_c (zs_callV0 X (pc := 46) zc_X9 (fun _ ht => ⟨(zCB ht gw_8_181 gw_1_13 gw_8_178 rfl rfl (by decide +kernel) ⟨Nat.le_of_ble_eq_true rfl, Nat.le_of_ble_eq_true rfl⟩), ht _ (.tail _ gw_8_180), ht _ (.tail _ gp_53)⟩) h1 hout (by decide +kernel)) <|
    zall_c (zs_iinc X (pc := 49) (by decide) (by decide +kernel)) <|
    zall_c (zs_goto X (pc := 52) (off := (-34)) (by decide +kernel) (by decide)) <|
    zall_c (zs_vret X (pc := 55) rfl (by decide +kernel)) <|
    zall_n
theorem met_X9_dropTaking {l : Launch} (hl : l.stackTraces = false) {T0 : ZTf} {T1 : ZTf} {T2 : ZTf} (h0 : zMet l yX9_manyAt (Cond.code yX9_manyAt cX9_manyAt 2 (Option.some Jvm.ClassFile.FieldType.int) :: zG) rm_X9_manyAt 0 0 T0) (h1 : zMet l yX9_put (Cond.code yX9_put cX9_put 4 (Option.none : Option Jvm.ClassFile.FieldType) :: zG) rm_X9_put 0 0 T1) (h2 : zMet l yX9_ofRow (Cond.code yX9_ofRow cX9_ofRow 3 (Option.some Jvm.ClassFile.FieldType.int) :: zG) rm_X9_ofRow 0 0 T2) {T : ZTf} (bd : zBd (cd_X9_dropTaking T0 T1 T2) 4 0 0 T) : zMet l yX9_dropTaking (Cond.code yX9_dropTaking cX9_dropTaking 4 (Option.none : Option Jvm.ClassFile.FieldType) :: zG) rm_X9_dropTaking 0 0 T := zMet_of hl (by decide +kernel) rfl rfl rfl rfl (hs_X9_dropTaking hl h0 h1 h2) bd

abbrev rm_X9_gains : Room := { frames := 2, cells := 0, slots := 0, locals := 53 }
def cd_X9_gains (T0 : ZTf) (T1 : ZTf) (T2 : ZTf) : List (Nat × ZTr) := [(0, tAld 0 1), (1, tIld 1 2), (2, tC (zi 1) 3), (3, tCall0 3 T0 (zRcv 12) 6), (6, tAld 0 7), (7, tIld 1 8), (8, tC (zi 6) 10), (10, tC (zi 1) 11), (11, tCall0 4 T1 (zRcv 12) 14), (14, tAld 0 15), (15, tIld 1 16), (16, tC (zi 8) 18), (18, tAld 0 19), (19, tIld 2 20), (20, tC (zi 0) 21), (21, tCall0 3 T2 (zRcv 12) 24), (24, tCall0 4 T1 (zRcv 12) 27), (27, tRv)]
set_option maxRecDepth 100000 in
set_option maxHeartbeats 4000000 in
theorem hs_X9_gains {l : Launch} (hl : l.stackTraces = false) {T0 : ZTf} {T1 : ZTf} {T2 : ZTf} (h0 : zMet l yX9_trusts (Cond.code yX9_trusts cX9_trusts 4 (Option.none : Option Jvm.ClassFile.FieldType) :: zG) rm_X9_trusts 0 0 T0) (h1 : zMet l yX9_add (Cond.code yX9_add cX9_add 4 (Option.none : Option Jvm.ClassFile.FieldType) :: zG) rm_X9_add 0 0 T1) (h2 : zMet l yX9_ofRow (Cond.code yX9_ofRow cX9_ofRow 3 (Option.some Jvm.ClassFile.FieldType.int) :: zG) rm_X9_ofRow 0 0 T2) (p : Program) (e : Env) (s : State) (m : MethodId) (args : Array Value) (below : List Frame) (meth : Method) (c : Code) (D : va_G) (A : Nat → Prop) (a0 : Nat → Nat) (M0 : ZM) (K : ZRet) (KX : ZEx) (X : zCtx p l rm_X9_gains s m args meth c cX9_gains RX9 (Cond.code yX9_gains cX9_gains 3 (Option.none : Option Jvm.ClassFile.FieldType) :: zG) 3 (Option.none : Option Jvm.ClassFile.FieldType) D A a0 M0 0 0) (hnm : meth.name = yX9_gains.name) (hout : ∀ x ∈ c.exceptionTable.toList, False) : ∀ q ∈ cd_X9_gains T0 T1 T2, zSd p l e rm_X9_gains s m args below meth c 3 D A a0 M0 K KX 0 0 q.1 q.2 :=
    zall_c (zs_aload_n X (pc := 0) (q := 0) rfl (by decide +kernel)) <|
    zall_c (zs_iload_n X (pc := 1) (q := 1) rfl (by decide +kernel)) <|
    zall_c (zs_iconst X (pc := 2) (by decide) (by decide +kernel)) <|
    zall_c (zs_callV0 X (pc := 3) zc_X9 (fun _ ht => ⟨(zCB ht gw_10_14 gw_1_13 gw_10_11 rfl rfl (by decide +kernel) ⟨Nat.le_of_ble_eq_true rfl, Nat.le_of_ble_eq_true rfl⟩), ht _ (.tail _ gw_10_13), ht _ (.tail _ gp_100)⟩) h0 hout (by decide +kernel)) <|
    zall_c (zs_aload_n X (pc := 6) (q := 0) rfl (by decide +kernel)) <|
    zall_c (zs_iload_n X (pc := 7) (q := 1) rfl (by decide +kernel)) <|
    zall_c (zs_bipush X (pc := 8) (by decide) (by decide +kernel) (by decide +kernel)) <|
    zall_c (zs_iconst X (pc := 10) (by decide) (by decide +kernel)) <|
    zall_c (zs_callV0 X (pc := 11) zc_X9 (fun _ ht => ⟨(zCB ht gw_8_165 gw_1_13 gw_8_162 rfl rfl (by decide +kernel) ⟨Nat.le_of_ble_eq_true rfl, Nat.le_of_ble_eq_true rfl⟩), ht _ (.tail _ gw_8_164), ht _ (.tail _ gp_49)⟩) h1 hout (by decide +kernel)) <|
    zall_c (zs_aload_n X (pc := 14) (q := 0) rfl (by decide +kernel)) <|
    zall_c (zs_iload_n X (pc := 15) (q := 1) rfl (by decide +kernel)) <|
    zall_c (zs_bipush X (pc := 16) (by decide) (by decide +kernel) (by decide +kernel)) <|
    zall_c (zs_aload_n X (pc := 18) (q := 0) rfl (by decide +kernel)) <|
    zall_c (zs_iload_n X (pc := 19) (q := 2) rfl (by decide +kernel)) <|
    zall_c (zs_iconst X (pc := 20) (by decide) (by decide +kernel)) <|
    zall_c (zs_callV0 X (pc := 21) zc_X9 (fun _ ht => ⟨(zCB ht gw_8_239 gw_1_13 gw_8_236 rfl rfl (by decide +kernel) ⟨Nat.le_of_ble_eq_true rfl, Nat.le_of_ble_eq_true rfl⟩), ht _ (.tail _ gw_8_238), ht _ (.tail _ gp_63)⟩) h2 hout (by decide +kernel)) <|
    zall_c (zs_callV0 X (pc := 24) zc_X9 (fun _ ht => ⟨(zCB ht gw_8_165 gw_1_13 gw_8_162 rfl rfl (by decide +kernel) ⟨Nat.le_of_ble_eq_true rfl, Nat.le_of_ble_eq_true rfl⟩), ht _ (.tail _ gw_8_164), ht _ (.tail _ gp_49)⟩) h1 hout (by decide +kernel)) <|
    zall_c (zs_vret X (pc := 27) rfl (by decide +kernel)) <|
    zall_n
theorem met_X9_gains {l : Launch} (hl : l.stackTraces = false) {T0 : ZTf} {T1 : ZTf} {T2 : ZTf} (h0 : zMet l yX9_trusts (Cond.code yX9_trusts cX9_trusts 4 (Option.none : Option Jvm.ClassFile.FieldType) :: zG) rm_X9_trusts 0 0 T0) (h1 : zMet l yX9_add (Cond.code yX9_add cX9_add 4 (Option.none : Option Jvm.ClassFile.FieldType) :: zG) rm_X9_add 0 0 T1) (h2 : zMet l yX9_ofRow (Cond.code yX9_ofRow cX9_ofRow 3 (Option.some Jvm.ClassFile.FieldType.int) :: zG) rm_X9_ofRow 0 0 T2) {T : ZTf} (bd : zBd (cd_X9_gains T0 T1 T2) 3 0 0 T) : zMet l yX9_gains (Cond.code yX9_gains cX9_gains 3 (Option.none : Option Jvm.ClassFile.FieldType) :: zG) rm_X9_gains 0 0 T := zMet_of hl (by decide +kernel) rfl rfl rfl rfl (hs_X9_gains hl h0 h1 h2) bd

abbrev rm_X9_farOf : Room := { frames := 3, cells := 0, slots := 0, locals := 75 }
def cd_X9_farOf (T0 : ZTf) : List (Nat × ZTr) := [(0, tAld 0 1), (1, tIld 1 2), (2, tIld 2 3), (3, tC (zi 1) 4), (4, tCall0 4 T0 (zRcv 12) 7), (7, tAld 0 8), (8, tIld 1 9), (9, tC (zi 2) 10), (10, tC (zi 1) 11), (11, tCall0 4 T0 (zRcv 12) 14), (14, tSub 15), (15, tMth1 18), (18, tRi (fun _ => True))]
set_option maxRecDepth 100000 in
set_option maxHeartbeats 4000000 in
theorem hs_X9_farOf {l : Launch} (hl : l.stackTraces = false) {T0 : ZTf} (h0 : zMet l yX9_ofTaking (Cond.code yX9_ofTaking cX9_ofTaking 4 (Option.some Jvm.ClassFile.FieldType.int) :: zG) rm_X9_ofTaking 0 0 T0) (p : Program) (e : Env) (s : State) (m : MethodId) (args : Array Value) (below : List Frame) (meth : Method) (c : Code) (D : va_G) (A : Nat → Prop) (a0 : Nat → Nat) (M0 : ZM) (K : ZRet) (KX : ZEx) (X : zCtx p l rm_X9_farOf s m args meth c cX9_farOf RX9 (Cond.code yX9_farOf cX9_farOf 3 (Option.some Jvm.ClassFile.FieldType.int) :: zG) 3 (Option.some Jvm.ClassFile.FieldType.int) D A a0 M0 0 0) (hnm : meth.name = yX9_farOf.name) (hout : ∀ x ∈ c.exceptionTable.toList, False) : ∀ q ∈ cd_X9_farOf T0, zSd p l e rm_X9_farOf s m args below meth c 3 D A a0 M0 K KX 0 0 q.1 q.2 :=
    zall_c (zs_aload_n X (pc := 0) (q := 0) rfl (by decide +kernel)) <|
    zall_c (zs_iload_n X (pc := 1) (q := 1) rfl (by decide +kernel)) <|
    zall_c (zs_iload_n X (pc := 2) (q := 2) rfl (by decide +kernel)) <|
    zall_c (zs_iconst X (pc := 3) (by decide) (by decide +kernel)) <|
    zall_c (zs_callV0 X (pc := 4) zc_X9 (fun _ ht => ⟨(zCB ht gw_9_36 gw_1_13 gw_9_33 rfl rfl (by decide +kernel) ⟨Nat.le_of_ble_eq_true rfl, Nat.le_of_ble_eq_true rfl⟩), ht _ (.tail _ gw_9_35), ht _ (.tail _ gp_71)⟩) h0 hout (by decide +kernel)) <|
    zall_c (zs_aload_n X (pc := 7) (q := 0) rfl (by decide +kernel)) <|
    zall_c (zs_iload_n X (pc := 8) (q := 1) rfl (by decide +kernel)) <|
    zall_c (zs_iconst X (pc := 9) (by decide) (by decide +kernel)) <|
    zall_c (zs_iconst X (pc := 10) (by decide) (by decide +kernel)) <|
    zall_c (zs_callV0 X (pc := 11) zc_X9 (fun _ ht => ⟨(zCB ht gw_9_36 gw_1_13 gw_9_33 rfl rfl (by decide +kernel) ⟨Nat.le_of_ble_eq_true rfl, Nat.le_of_ble_eq_true rfl⟩), ht _ (.tail _ gw_9_35), ht _ (.tail _ gp_71)⟩) h0 hout (by decide +kernel)) <|
    zall_c (zs_isub X (pc := 14) (by decide +kernel)) <|
    zall_c (zs_mabs X (pc := 15) (.tail _ gw_9_170) (.tail _ gw_6_111) (.tail _ gw_1_27) (.tail _ gw_6_112) (Nat.le_of_ble_eq_true rfl) (Nat.le_of_ble_eq_true rfl) (by decide +kernel)) <|
    zall_c (zs_iret X (pc := 18) rfl (by decide +kernel)) <|
    zall_n
theorem met_X9_farOf {l : Launch} (hl : l.stackTraces = false) {T0 : ZTf} (h0 : zMet l yX9_ofTaking (Cond.code yX9_ofTaking cX9_ofTaking 4 (Option.some Jvm.ClassFile.FieldType.int) :: zG) rm_X9_ofTaking 0 0 T0) {T : ZTf} (bd : zBd (cd_X9_farOf T0) 3 0 0 T) : zMet l yX9_farOf (Cond.code yX9_farOf cX9_farOf 3 (Option.some Jvm.ClassFile.FieldType.int) :: zG) rm_X9_farOf 0 0 T := zMet_of hl (by decide +kernel) rfl rfl rfl rfl (hs_X9_farOf hl h0) bd

abbrev rm_X9_haveAll : Room := { frames := 4, cells := 0, slots := 0, locals := 97 }
def cd_X9_haveAll (T0 : ZTf) (T1 : ZTf) : List (Nat × ZTr) := [(0, tAld 0 1), (1, tIld 1 2), (2, tCall0 2 T0 (zRcv 12) 5), (5, tIld 2 6), (6, tIc_ne 13 9), (9, tC (zi 1) 10), (10, tGo 14), (13, tC (zi 0) 14), (14, tIst 3 15), (15, tC (zi 0) 16), (16, tIst 4 18), (18, tIld 4 20), (20, tAld 0 21), (21, tIld 1 22), (22, tCall0 2 T0 (zRcv 12) 25), (25, tIc_ge 54 28), (28, tIld 3 29), (29, tIf_eq 46 32), (32, tAld 0 33), (33, tIld 1 34), (34, tIld 4 36), (36, tCall0 3 T1 (zRcv 12) 39), (39, tIf_ne 46 42), (42, tC (zi 1) 43), (43, tGo 47), (46, tC (zi 0) 47), (47, tIst 3 48), (48, tInc 4 1 51), (51, tGo 18), (54, tIld 3 55), (55, tRi zPz)]
set_option maxRecDepth 100000 in
set_option maxHeartbeats 4000000 in
theorem hs_X9_haveAll {l : Launch} (hl : l.stackTraces = false) {T0 : ZTf} {T1 : ZTf} (h0 : zMet l yX9_manyAt (Cond.code yX9_manyAt cX9_manyAt 2 (Option.some Jvm.ClassFile.FieldType.int) :: zG) rm_X9_manyAt 0 0 T0) (h1 : zMet l yX9_isInWork (Cond.code yX9_isInWork cX9_isInWork 3 (Option.some Jvm.ClassFile.FieldType.boolean) :: zG) rm_X9_isInWork 0 0 T1) (p : Program) (e : Env) (s : State) (m : MethodId) (args : Array Value) (below : List Frame) (meth : Method) (c : Code) (D : va_G) (A : Nat → Prop) (a0 : Nat → Nat) (M0 : ZM) (K : ZRet) (KX : ZEx) (X : zCtx p l rm_X9_haveAll s m args meth c cX9_haveAll RX9 (Cond.code yX9_haveAll cX9_haveAll 5 (Option.some Jvm.ClassFile.FieldType.boolean) :: zG) 5 (Option.some Jvm.ClassFile.FieldType.boolean) D A a0 M0 0 0) (hnm : meth.name = yX9_haveAll.name) (hout : ∀ x ∈ c.exceptionTable.toList, False) : ∀ q ∈ cd_X9_haveAll T0 T1, zSd p l e rm_X9_haveAll s m args below meth c 5 D A a0 M0 K KX 0 0 q.1 q.2 :=
    zall_c (zs_aload_n X (pc := 0) (q := 0) rfl (by decide +kernel)) <|
    zall_c (zs_iload_n X (pc := 1) (q := 1) rfl (by decide +kernel)) <|
    zall_c (zs_callV0 X (pc := 2) zc_X9 (fun _ ht => ⟨(zCB ht gw_9_32 gw_1_13 gw_9_29 rfl rfl (by decide +kernel) ⟨Nat.le_of_ble_eq_true rfl, Nat.le_of_ble_eq_true rfl⟩), ht _ (.tail _ gw_9_31), ht _ (.tail _ gp_70)⟩) h0 hout (by decide +kernel)) <|
    zall_c (zs_iload_n X (pc := 5) (q := 2) rfl (by decide +kernel)) <|
    zall_c (zs_icmp_ne X (pc := 6) (off := 7) (by decide +kernel) (by decide)) <|
    zall_c (zs_iconst X (pc := 9) (by decide) (by decide +kernel)) <|
    zall_c (zs_goto X (pc := 10) (off := 4) (by decide +kernel) (by decide)) <|
    zall_c (zs_iconst X (pc := 13) (by decide) (by decide +kernel)) <|
    zall_c (zs_istore_n X (pc := 14) (q := 3) rfl (by decide) (by decide +kernel)) <|
    zall_c (zs_iconst X (pc := 15) (by decide) (by decide +kernel)) <|
    zall_c (zs_istore X (pc := 16) (by decide) (by decide +kernel)) <|
    zall_c (zs_iload X (pc := 18) (by decide +kernel)) <|
    zall_c (zs_aload_n X (pc := 20) (q := 0) rfl (by decide +kernel)) <|
    zall_c (zs_iload_n X (pc := 21) (q := 1) rfl (by decide +kernel)) <|
    zall_c (zs_callV0 X (pc := 22) zc_X9 (fun _ ht => ⟨(zCB ht gw_9_32 gw_1_13 gw_9_29 rfl rfl (by decide +kernel) ⟨Nat.le_of_ble_eq_true rfl, Nat.le_of_ble_eq_true rfl⟩), ht _ (.tail _ gw_9_31), ht _ (.tail _ gp_70)⟩) h0 hout (by decide +kernel)) <|
    zall_c (zs_icmp_ge X (pc := 25) (off := 29) (by decide +kernel) (by decide)) <|
    zall_c (zs_iload_n X (pc := 28) (q := 3) rfl (by decide +kernel)) <|
    zall_c (zs_if_eq X (pc := 29) (off := 17) (by decide +kernel) (by decide)) <|
    zall_c (zs_aload_n X (pc := 32) (q := 0) rfl (by decide +kernel)) <|
    zall_c (zs_iload_n X (pc := 33) (q := 1) rfl (by decide +kernel)) <|
    zall_c (zs_iload X (pc := 34) (by decide +kernel)) <|
    zall_c (zs_callV0 X (pc := 36) zc_X9 (fun _ ht => ⟨(zCB ht gw_9_40 gw_1_13 gw_9_37 rfl rfl (by decide +kernel) ⟨Nat.le_of_ble_eq_true rfl, Nat.le_of_ble_eq_true rfl⟩), ht _ (.tail _ gw_9_39), ht _ (.tail _ gp_72)⟩) h1 hout (by decide +kernel)) <|
    zall_c (zs_if_ne X (pc := 39) (off := 7) (by decide +kernel) (by decide)) <|
    zall_c (zs_iconst X (pc := 42) (by decide) (by decide +kernel)) <|
    zall_c (zs_goto X (pc := 43) (off := 4) (by decide +kernel) (by decide)) <|
    zall_c (zs_iconst X (pc := 46) (by decide) (by decide +kernel)) <|
    zall_c (zs_istore_n X (pc := 47) (q := 3) rfl (by decide) (by decide +kernel)) <|
    zall_c (zs_iinc X (pc := 48) (by decide) (by decide +kernel)) <|
    zall_c (zs_goto X (pc := 51) (off := (-33)) (by decide +kernel) (by decide)) <|
    zall_c (zs_iload_n X (pc := 54) (q := 3) rfl (by decide +kernel)) <|
    zall_c (zs_zret X (pc := 55) rfl zR_bool (by decide +kernel)) <|
    zall_n
theorem met_X9_haveAll {l : Launch} (hl : l.stackTraces = false) {T0 : ZTf} {T1 : ZTf} (h0 : zMet l yX9_manyAt (Cond.code yX9_manyAt cX9_manyAt 2 (Option.some Jvm.ClassFile.FieldType.int) :: zG) rm_X9_manyAt 0 0 T0) (h1 : zMet l yX9_isInWork (Cond.code yX9_isInWork cX9_isInWork 3 (Option.some Jvm.ClassFile.FieldType.boolean) :: zG) rm_X9_isInWork 0 0 T1) {T : ZTf} (bd : zBd (cd_X9_haveAll T0 T1) 5 0 0 T) : zMet l yX9_haveAll (Cond.code yX9_haveAll cX9_haveAll 5 (Option.some Jvm.ClassFile.FieldType.boolean) :: zG) rm_X9_haveAll 0 0 T := zMet_of hl (by decide +kernel) rfl rfl rfl rfl (hs_X9_haveAll hl h0 h1) bd

abbrev rm_X9_leaves : Room := { frames := 4, cells := 0, slots := 0, locals := 97 }
def cd_X9_leaves (T0 : ZTf) (T1 : ZTf) (T2 : ZTf) (T3 : ZTf) (T4 : ZTf) (T5 : ZTf) (T6 : ZTf) : List (Nat × ZTr) := [(0, tC (zi 0) 1), (1, tIst 1 2), (2, tC (zi 0) 3), (3, tIst 2 4), (4, tIld 2 5), (5, tAld 0 6), (6, tCall0 1 T0 (zRcv 12) 9), (9, tIc_ge 98 12), (12, tC (zi 0) 13), (13, tIst 3 14), (14, tIld 3 15), (15, tAld 0 16), (16, tIld 2 17), (17, tCall0 2 T1 (zRcv 12) 20), (20, tIc_ge 92 23), (23, tAld 0 24), (24, tIld 2 25), (25, tIld 3 26), (26, tCall0 3 T2 (zRcv 12) 29), (29, tIf_eq 48 32), (32, tAld 0 33), (33, tIld 2 34), (34, tIld 3 35), (35, tC (zi 2) 36), (36, tCall0 4 T3 (zRcv 12) 39), (39, tAld 0 40), (40, tGetR 12 3 43), (43, tC (zi 3) 44), (44, tIal 20 45), (45, tIc_lt 54 48), (48, tInc 3 1 51), (51, tGo 14), (54, tAld 0 55), (55, tAld 0 56), (56, tIld 2 57), (57, tIld 3 58), (58, tC (zi 0) 59), (59, tCall0 4 T3 (zRcv 12) 62), (62, tC (zi (-1)) 63), (63, tCall0 3 T4 (zRcv 12) 66), (66, tAld 0 67), (67, tAld 0 68), (68, tIld 2 69), (69, tIld 3 70), (70, tC (zi 0) 71), (71, tCall0 4 T3 (zRcv 12) 74), (74, tC (zi 7) 76), (76, tC (zi 1) 77), (77, tCall0 4 T5 (zRcv 12) 80), (80, tAld 0 81), (81, tIld 2 82), (82, tIld 3 83), (83, tCall0 3 T6 (zRcv 12) 86), (86, tInc 1 1 89), (89, tGo 14), (92, tInc 2 1 95), (95, tGo 4), (98, tIld 1 99), (99, tRi (fun _ => True))]
set_option maxRecDepth 100000 in
set_option maxHeartbeats 4000000 in
theorem hs_X9_leaves {l : Launch} (hl : l.stackTraces = false) {T0 : ZTf} {T1 : ZTf} {T2 : ZTf} {T3 : ZTf} {T4 : ZTf} {T5 : ZTf} {T6 : ZTf} (h0 : zMet l yX9_rows (Cond.code yX9_rows cX9_rows 1 (Option.some Jvm.ClassFile.FieldType.int) :: zG) rm_X9_rows 0 0 T0) (h1 : zMet l yX9_manyAt (Cond.code yX9_manyAt cX9_manyAt 2 (Option.some Jvm.ClassFile.FieldType.int) :: zG) rm_X9_manyAt 0 0 T1) (h2 : zMet l yX9_isInWork (Cond.code yX9_isInWork cX9_isInWork 3 (Option.some Jvm.ClassFile.FieldType.boolean) :: zG) rm_X9_isInWork 0 0 T2) (h3 : zMet l yX9_ofTaking (Cond.code yX9_ofTaking cX9_ofTaking 4 (Option.some Jvm.ClassFile.FieldType.int) :: zG) rm_X9_ofTaking 0 0 T3) (h4 : zMet l yX9_trusts (Cond.code yX9_trusts cX9_trusts 4 (Option.none : Option Jvm.ClassFile.FieldType) :: zG) rm_X9_trusts 0 0 T4) (h5 : zMet l yX9_add (Cond.code yX9_add cX9_add 4 (Option.none : Option Jvm.ClassFile.FieldType) :: zG) rm_X9_add 0 0 T5) (h6 : zMet l yX9_dropTaking (Cond.code yX9_dropTaking cX9_dropTaking 4 (Option.none : Option Jvm.ClassFile.FieldType) :: zG) rm_X9_dropTaking 0 0 T6) (p : Program) (e : Env) (s : State) (m : MethodId) (args : Array Value) (below : List Frame) (meth : Method) (c : Code) (D : va_G) (A : Nat → Prop) (a0 : Nat → Nat) (M0 : ZM) (K : ZRet) (KX : ZEx) (X : zCtx p l rm_X9_leaves s m args meth c cX9_leaves RX9 (Cond.code yX9_leaves cX9_leaves 4 (Option.some Jvm.ClassFile.FieldType.int) :: zG) 4 (Option.some Jvm.ClassFile.FieldType.int) D A a0 M0 0 0) (hnm : meth.name = yX9_leaves.name) (hout : ∀ x ∈ c.exceptionTable.toList, False) : ∀ q ∈ cd_X9_leaves T0 T1 T2 T3 T4 T5 T6, zSd p l e rm_X9_leaves s m args below meth c 4 D A a0 M0 K KX 0 0 q.1 q.2 :=
    zall_c (zs_iconst X (pc := 0) (by decide) (by decide +kernel)) <|
    zall_c (zs_istore_n X (pc := 1) (q := 1) rfl (by decide) (by decide +kernel)) <|
    zall_c (zs_iconst X (pc := 2) (by decide) (by decide +kernel)) <|
    zall_c (zs_istore_n X (pc := 3) (q := 2) rfl (by decide) (by decide +kernel)) <|
    zall_c (zs_iload_n X (pc := 4) (q := 2) rfl (by decide +kernel)) <|
    zall_c (zs_aload_n X (pc := 5) (q := 0) rfl (by decide +kernel)) <|
    zall_c (zs_callV0 X (pc := 6) zc_X9 (fun _ ht => ⟨(zCB ht gw_8_173 gw_1_13 gw_8_170 rfl rfl (by decide +kernel) ⟨Nat.le_of_ble_eq_true rfl, Nat.le_of_ble_eq_true rfl⟩), ht _ (.tail _ gw_8_172), ht _ (.tail _ gp_51)⟩) h0 hout (by decide +kernel)) <|
    zall_c (zs_icmp_ge X (pc := 9) (off := 89) (by decide +kernel) (by decide)) <|
    zall_c (zs_iconst X (pc := 12) (by decide) (by decide +kernel)) <|
    zall_c (zs_istore_n X (pc := 13) (q := 3) rfl (by decide) (by decide +kernel)) <|
    zall_c (zs_iload_n X (pc := 14) (q := 3) rfl (by decide +kernel)) <|
    zall_c (zs_aload_n X (pc := 15) (q := 0) rfl (by decide +kernel)) <|
    zall_c (zs_iload_n X (pc := 16) (q := 2) rfl (by decide +kernel)) <|
    zall_c (zs_callV0 X (pc := 17) zc_X9 (fun _ ht => ⟨(zCB ht gw_9_32 gw_1_13 gw_9_29 rfl rfl (by decide +kernel) ⟨Nat.le_of_ble_eq_true rfl, Nat.le_of_ble_eq_true rfl⟩), ht _ (.tail _ gw_9_31), ht _ (.tail _ gp_70)⟩) h1 hout (by decide +kernel)) <|
    zall_c (zs_icmp_ge X (pc := 20) (off := 72) (by decide +kernel) (by decide)) <|
    zall_c (zs_aload_n X (pc := 23) (q := 0) rfl (by decide +kernel)) <|
    zall_c (zs_iload_n X (pc := 24) (q := 2) rfl (by decide +kernel)) <|
    zall_c (zs_iload_n X (pc := 25) (q := 3) rfl (by decide +kernel)) <|
    zall_c (zs_callV0 X (pc := 26) zc_X9 (fun _ ht => ⟨(zCB ht gw_9_40 gw_1_13 gw_9_37 rfl rfl (by decide +kernel) ⟨Nat.le_of_ble_eq_true rfl, Nat.le_of_ble_eq_true rfl⟩), ht _ (.tail _ gw_9_39), ht _ (.tail _ gp_72)⟩) h2 hout (by decide +kernel)) <|
    zall_c (zs_if_eq X (pc := 29) (off := 19) (by decide +kernel) (by decide)) <|
    zall_c (zs_aload_n X (pc := 32) (q := 0) rfl (by decide +kernel)) <|
    zall_c (zs_iload_n X (pc := 33) (q := 2) rfl (by decide +kernel)) <|
    zall_c (zs_iload_n X (pc := 34) (q := 3) rfl (by decide +kernel)) <|
    zall_c (zs_iconst X (pc := 35) (by decide) (by decide +kernel)) <|
    zall_c (zs_callV0 X (pc := 36) zc_X9 (fun _ ht => ⟨(zCB ht gw_9_36 gw_1_13 gw_9_33 rfl rfl (by decide +kernel) ⟨Nat.le_of_ble_eq_true rfl, Nat.le_of_ble_eq_true rfl⟩), ht _ (.tail _ gw_9_35), ht _ (.tail _ gp_71)⟩) h3 hout (by decide +kernel)) <|
    zall_c (zs_aload_n X (pc := 39) (q := 0) rfl (by decide +kernel)) <|
    zall_c (zs_getr X (pc := 40) zc_X9 (by decide) (zin ui_X9) (.tail _ gw_7_218) (by decide +kernel) (by decide +kernel)) <|
    zall_c (zs_iconst X (pc := 43) (by decide) (by decide +kernel)) <|
    zall_c (zs_iaload20 X (pc := 44) (by decide +kernel)) <|
    zall_c (zs_icmp_lt X (pc := 45) (off := 9) (by decide +kernel) (by decide)) <|
    zall_c (zs_iinc X (pc := 48) (by decide) (by decide +kernel)) <|
    zall_c (zs_goto X (pc := 51) (off := (-37)) (by decide +kernel) (by decide)) <|
    zall_c (zs_aload_n X (pc := 54) (q := 0) rfl (by decide +kernel)) <|
    zall_c (zs_aload_n X (pc := 55) (q := 0) rfl (by decide +kernel)) <|
    zall_c (zs_iload_n X (pc := 56) (q := 2) rfl (by decide +kernel)) <|
    zall_c (zs_iload_n X (pc := 57) (q := 3) rfl (by decide +kernel)) <|
    zall_c (zs_iconst X (pc := 58) (by decide) (by decide +kernel)) <|
    zall_c (zs_callV0 X (pc := 59) zc_X9 (fun _ ht => ⟨(zCB ht gw_9_36 gw_1_13 gw_9_33 rfl rfl (by decide +kernel) ⟨Nat.le_of_ble_eq_true rfl, Nat.le_of_ble_eq_true rfl⟩), ht _ (.tail _ gw_9_35), ht _ (.tail _ gp_71)⟩) h3 hout (by decide +kernel)) <|
    zall_c (zs_iconst X (pc := 62) (by decide) (by decide +kernel)) <|
    zall_c (zs_callV0 X (pc := 63) zc_X9 (fun _ ht => ⟨(zCB ht gw_10_14 gw_1_13 gw_10_11 rfl rfl (by decide +kernel) ⟨Nat.le_of_ble_eq_true rfl, Nat.le_of_ble_eq_true rfl⟩), ht _ (.tail _ gw_10_13), ht _ (.tail _ gp_100)⟩) h4 hout (by decide +kernel)) <|
    zall_c (zs_aload_n X (pc := 66) (q := 0) rfl (by decide +kernel)) <|
    zall_c (zs_aload_n X (pc := 67) (q := 0) rfl (by decide +kernel)) <|
    zall_c (zs_iload_n X (pc := 68) (q := 2) rfl (by decide +kernel)) <|
    zall_c (zs_iload_n X (pc := 69) (q := 3) rfl (by decide +kernel)) <|
    zall_c (zs_iconst X (pc := 70) (by decide) (by decide +kernel)) <|
    zall_c (zs_callV0 X (pc := 71) zc_X9 (fun _ ht => ⟨(zCB ht gw_9_36 gw_1_13 gw_9_33 rfl rfl (by decide +kernel) ⟨Nat.le_of_ble_eq_true rfl, Nat.le_of_ble_eq_true rfl⟩), ht _ (.tail _ gw_9_35), ht _ (.tail _ gp_71)⟩) h3 hout (by decide +kernel)) <|
    zall_c (zs_bipush X (pc := 74) (by decide) (by decide +kernel) (by decide +kernel)) <|
    zall_c (zs_iconst X (pc := 76) (by decide) (by decide +kernel)) <|
    zall_c (zs_callV0 X (pc := 77) zc_X9 (fun _ ht => ⟨(zCB ht gw_8_165 gw_1_13 gw_8_162 rfl rfl (by decide +kernel) ⟨Nat.le_of_ble_eq_true rfl, Nat.le_of_ble_eq_true rfl⟩), ht _ (.tail _ gw_8_164), ht _ (.tail _ gp_49)⟩) h5 hout (by decide +kernel)) <|
    zall_c (zs_aload_n X (pc := 80) (q := 0) rfl (by decide +kernel)) <|
    zall_c (zs_iload_n X (pc := 81) (q := 2) rfl (by decide +kernel)) <|
    zall_c (zs_iload_n X (pc := 82) (q := 3) rfl (by decide +kernel)) <|
    zall_c (zs_callV0 X (pc := 83) zc_X9 (fun _ ht => ⟨(zCB ht gw_10_83 gw_1_13 gw_10_80 rfl rfl (by decide +kernel) ⟨Nat.le_of_ble_eq_true rfl, Nat.le_of_ble_eq_true rfl⟩), ht _ (.tail _ gw_10_82), ht _ (.tail _ gp_106)⟩) h6 hout (by decide +kernel)) <|
    zall_c (zs_iinc X (pc := 86) (by decide) (by decide +kernel)) <|
    zall_c (zs_goto X (pc := 89) (off := (-75)) (by decide +kernel) (by decide)) <|
    zall_c (zs_iinc X (pc := 92) (by decide) (by decide +kernel)) <|
    zall_c (zs_goto X (pc := 95) (off := (-91)) (by decide +kernel) (by decide)) <|
    zall_c (zs_iload_n X (pc := 98) (q := 1) rfl (by decide +kernel)) <|
    zall_c (zs_iret X (pc := 99) rfl (by decide +kernel)) <|
    zall_n
theorem met_X9_leaves {l : Launch} (hl : l.stackTraces = false) {T0 : ZTf} {T1 : ZTf} {T2 : ZTf} {T3 : ZTf} {T4 : ZTf} {T5 : ZTf} {T6 : ZTf} (h0 : zMet l yX9_rows (Cond.code yX9_rows cX9_rows 1 (Option.some Jvm.ClassFile.FieldType.int) :: zG) rm_X9_rows 0 0 T0) (h1 : zMet l yX9_manyAt (Cond.code yX9_manyAt cX9_manyAt 2 (Option.some Jvm.ClassFile.FieldType.int) :: zG) rm_X9_manyAt 0 0 T1) (h2 : zMet l yX9_isInWork (Cond.code yX9_isInWork cX9_isInWork 3 (Option.some Jvm.ClassFile.FieldType.boolean) :: zG) rm_X9_isInWork 0 0 T2) (h3 : zMet l yX9_ofTaking (Cond.code yX9_ofTaking cX9_ofTaking 4 (Option.some Jvm.ClassFile.FieldType.int) :: zG) rm_X9_ofTaking 0 0 T3) (h4 : zMet l yX9_trusts (Cond.code yX9_trusts cX9_trusts 4 (Option.none : Option Jvm.ClassFile.FieldType) :: zG) rm_X9_trusts 0 0 T4) (h5 : zMet l yX9_add (Cond.code yX9_add cX9_add 4 (Option.none : Option Jvm.ClassFile.FieldType) :: zG) rm_X9_add 0 0 T5) (h6 : zMet l yX9_dropTaking (Cond.code yX9_dropTaking cX9_dropTaking 4 (Option.none : Option Jvm.ClassFile.FieldType) :: zG) rm_X9_dropTaking 0 0 T6) {T : ZTf} (bd : zBd (cd_X9_leaves T0 T1 T2 T3 T4 T5 T6) 4 0 0 T) : zMet l yX9_leaves (Cond.code yX9_leaves cX9_leaves 4 (Option.some Jvm.ClassFile.FieldType.int) :: zG) rm_X9_leaves 0 0 T := zMet_of hl (by decide +kernel) rfl rfl rfl rfl (hs_X9_leaves hl h0 h1 h2 h3 h4 h5 h6) bd

abbrev rm_X9_keepAside : Room := { frames := 1, cells := 0, slots := 0, locals := 30 }
def cd_X9_keepAside : List (Nat × ZTr) := [(0, tC (zi 0) 1), (1, tIst 1 2), (2, tIld 1 3), (3, tC (zi 516) 6), (6, tIc_ge 27 9), (9, tAld 0 10), (10, tGetR 12 4 13), (13, tIld 1 14), (14, tAld 0 15), (15, tGetR 12 1 18), (18, tIld 1 19), (19, tIal 20 20), (20, tIas 20 (fun _ => True) 21), (21, tInc 1 1 24), (24, tGo 2), (27, tRv)]
set_option maxRecDepth 100000 in
set_option maxHeartbeats 4000000 in
theorem hs_X9_keepAside {l : Launch} (hl : l.stackTraces = false) (p : Program) (e : Env) (s : State) (m : MethodId) (args : Array Value) (below : List Frame) (meth : Method) (c : Code) (D : va_G) (A : Nat → Prop) (a0 : Nat → Nat) (M0 : ZM) (K : ZRet) (KX : ZEx) (X : zCtx p l rm_X9_keepAside s m args meth c cX9_keepAside RX9 (Cond.code yX9_keepAside cX9_keepAside 2 (Option.none : Option Jvm.ClassFile.FieldType) :: zG) 2 (Option.none : Option Jvm.ClassFile.FieldType) D A a0 M0 0 0) (hnm : meth.name = yX9_keepAside.name) (hout : ∀ x ∈ c.exceptionTable.toList, False) : ∀ q ∈ cd_X9_keepAside, zSd p l e rm_X9_keepAside s m args below meth c 2 D A a0 M0 K KX 0 0 q.1 q.2 :=
    zall_c (zs_iconst X (pc := 0) (by decide) (by decide +kernel)) <|
    zall_c (zs_istore_n X (pc := 1) (q := 1) rfl (by decide) (by decide +kernel)) <|
    zall_c (zs_iload_n X (pc := 2) (q := 1) rfl (by decide +kernel)) <|
    zall_c (zs_sipush X (pc := 3) (by decide) (by decide +kernel) (by decide +kernel)) <|
    zall_c (zs_icmp_ge X (pc := 6) (off := 21) (by decide +kernel) (by decide)) <|
    zall_c (zs_aload_n X (pc := 9) (q := 0) rfl (by decide +kernel)) <|
    zall_c (zs_getr X (pc := 10) zc_X9 (by decide) (zin ui_X9) (.tail _ gw_7_219) (by decide +kernel) (by decide +kernel)) <|
    zall_c (zs_iload_n X (pc := 13) (q := 1) rfl (by decide +kernel)) <|
    zall_c (zs_aload_n X (pc := 14) (q := 0) rfl (by decide +kernel)) <|
    zall_c (zs_getr X (pc := 15) zc_X9 (by decide) (zin ui_X9) (.tail _ gw_7_216) (by decide +kernel) (by decide +kernel)) <|
    zall_c (zs_iload_n X (pc := 18) (q := 1) rfl (by decide +kernel)) <|
    zall_c (zs_iaload20 X (pc := 19) (by decide +kernel)) <|
    zall_c (zs_iastore20 X (pc := 20) (by decide +kernel)) <|
    zall_c (zs_iinc X (pc := 21) (by decide) (by decide +kernel)) <|
    zall_c (zs_goto X (pc := 24) (off := (-22)) (by decide +kernel) (by decide)) <|
    zall_c (zs_vret X (pc := 27) rfl (by decide +kernel)) <|
    zall_n
theorem met_X9_keepAside {l : Launch} (hl : l.stackTraces = false) {T : ZTf} (bd : zBd (cd_X9_keepAside) 2 0 0 T) : zMet l yX9_keepAside (Cond.code yX9_keepAside cX9_keepAside 2 (Option.none : Option Jvm.ClassFile.FieldType) :: zG) rm_X9_keepAside 0 0 T := zMet_of hl (by decide +kernel) rfl rfl rfl rfl (hs_X9_keepAside hl) bd

abbrev rm_X9_layBack : Room := { frames := 1, cells := 0, slots := 0, locals := 30 }
def cd_X9_layBack : List (Nat × ZTr) := [(0, tC (zi 0) 1), (1, tIst 2 2), (2, tIld 2 3), (3, tC (zi 516) 6), (6, tIc_ge 27 9), (9, tAld 0 10), (10, tGetR 12 1 13), (13, tIld 2 14), (14, tAld 0 15), (15, tGetR 12 4 18), (18, tIld 2 19), (19, tIal 20 20), (20, tIas 20 (fun _ => True) 21), (21, tInc 2 1 24), (24, tGo 2), (27, tIld 1 28), (28, tRi (fun _ => True))]
set_option maxRecDepth 100000 in
set_option maxHeartbeats 4000000 in
theorem hs_X9_layBack {l : Launch} (hl : l.stackTraces = false) (p : Program) (e : Env) (s : State) (m : MethodId) (args : Array Value) (below : List Frame) (meth : Method) (c : Code) (D : va_G) (A : Nat → Prop) (a0 : Nat → Nat) (M0 : ZM) (K : ZRet) (KX : ZEx) (X : zCtx p l rm_X9_layBack s m args meth c cX9_layBack RX9 (Cond.code yX9_layBack cX9_layBack 3 (Option.some Jvm.ClassFile.FieldType.int) :: zG) 3 (Option.some Jvm.ClassFile.FieldType.int) D A a0 M0 0 0) (hnm : meth.name = yX9_layBack.name) (hout : ∀ x ∈ c.exceptionTable.toList, False) : ∀ q ∈ cd_X9_layBack, zSd p l e rm_X9_layBack s m args below meth c 3 D A a0 M0 K KX 0 0 q.1 q.2 :=
    zall_c (zs_iconst X (pc := 0) (by decide) (by decide +kernel)) <|
    zall_c (zs_istore_n X (pc := 1) (q := 2) rfl (by decide) (by decide +kernel)) <|
    zall_c (zs_iload_n X (pc := 2) (q := 2) rfl (by decide +kernel)) <|
    zall_c (zs_sipush X (pc := 3) (by decide) (by decide +kernel) (by decide +kernel)) <|
    zall_c (zs_icmp_ge X (pc := 6) (off := 21) (by decide +kernel) (by decide)) <|
    zall_c (zs_aload_n X (pc := 9) (q := 0) rfl (by decide +kernel)) <|
    zall_c (zs_getr X (pc := 10) zc_X9 (by decide) (zin ui_X9) (.tail _ gw_7_216) (by decide +kernel) (by decide +kernel)) <|
    zall_c (zs_iload_n X (pc := 13) (q := 2) rfl (by decide +kernel)) <|
    zall_c (zs_aload_n X (pc := 14) (q := 0) rfl (by decide +kernel)) <|
    zall_c (zs_getr X (pc := 15) zc_X9 (by decide) (zin ui_X9) (.tail _ gw_7_219) (by decide +kernel) (by decide +kernel)) <|
    zall_c (zs_iload_n X (pc := 18) (q := 2) rfl (by decide +kernel)) <|
    zall_c (zs_iaload20 X (pc := 19) (by decide +kernel)) <|
    zall_c (zs_iastore20 X (pc := 20) (by decide +kernel)) <|
    zall_c (zs_iinc X (pc := 21) (by decide) (by decide +kernel)) <|
    zall_c (zs_goto X (pc := 24) (off := (-22)) (by decide +kernel) (by decide)) <|
    zall_c (zs_iload_n X (pc := 27) (q := 1) rfl (by decide +kernel)) <|
    zall_c (zs_iret X (pc := 28) rfl (by decide +kernel)) <|
    zall_n
theorem met_X9_layBack {l : Launch} (hl : l.stackTraces = false) {T : ZTf} (bd : zBd (cd_X9_layBack) 3 0 0 T) : zMet l yX9_layBack (Cond.code yX9_layBack cX9_layBack 3 (Option.some Jvm.ClassFile.FieldType.int) :: zG) rm_X9_layBack 0 0 T := zMet_of hl (by decide +kernel) rfl rfl rfl rfl (hs_X9_layBack hl) bd

abbrev rm_X9_appendFour : Room := { frames := 1, cells := 0, slots := 0, locals := 30 }
def cd_X9_appendFour : List (Nat × ZTr) := [(0, tC (zi 24) 2), (2, tIst 2 3), (3, tIld 2 4), (4, tIf_lt 36 7), (7, tAld 0 8), (8, tGetR 12 5 11), (11, tAld 0 12), (12, tGetI 12 6 15), (15, tIld 1 16), (16, tIld 2 17), (17, tBif zshr 18), (18, tUn zi2b 19), (19, tIas 21 (fun x => -128 ≤ x ∧ x < 128) 20), (20, tAld 0 21), (21, tDup 22), (22, tGetI 12 6 25), (25, tC (zi 1) 26), (26, tAdd 27), (27, tPutI 12 6 (fun _ => True) 30), (30, tInc 2 (-8) 33), (33, tGo 3), (36, tRv)]
set_option maxRecDepth 100000 in
set_option maxHeartbeats 4000000 in
theorem hs_X9_appendFour {l : Launch} (hl : l.stackTraces = false) (p : Program) (e : Env) (s : State) (m : MethodId) (args : Array Value) (below : List Frame) (meth : Method) (c : Code) (D : va_G) (A : Nat → Prop) (a0 : Nat → Nat) (M0 : ZM) (K : ZRet) (KX : ZEx) (X : zCtx p l rm_X9_appendFour s m args meth c cX9_appendFour RX9 (Cond.code yX9_appendFour cX9_appendFour 3 (Option.none : Option Jvm.ClassFile.FieldType) :: zG) 3 (Option.none : Option Jvm.ClassFile.FieldType) D A a0 M0 0 0) (hnm : meth.name = yX9_appendFour.name) (hout : ∀ x ∈ c.exceptionTable.toList, False) : ∀ q ∈ cd_X9_appendFour, zSd p l e rm_X9_appendFour s m args below meth c 3 D A a0 M0 K KX 0 0 q.1 q.2 :=
    zall_c (zs_bipush X (pc := 0) (by decide) (by decide +kernel) (by decide +kernel)) <|
    zall_c (zs_istore_n X (pc := 2) (q := 2) rfl (by decide) (by decide +kernel)) <|
    zall_c (zs_iload_n X (pc := 3) (q := 2) rfl (by decide +kernel)) <|
    zall_c (zs_if_lt X (pc := 4) (off := 32) (by decide +kernel) (by decide)) <|
    zall_c (zs_aload_n X (pc := 7) (q := 0) rfl (by decide +kernel)) <|
    zall_c (zs_getr X (pc := 8) zc_X9 (by decide) (zin ui_X9) (.tail _ gw_7_220) (by decide +kernel) (by decide +kernel)) <|
    zall_c (zs_aload_n X (pc := 11) (q := 0) rfl (by decide +kernel)) <|
    zall_c (zs_geti X (pc := 12) zc_X9 (by decide) (zin ui_X9) (.tail _ gw_7_221) (by decide +kernel) (by decide +kernel)) <|
    zall_c (zs_iload_n X (pc := 15) (q := 1) rfl (by decide +kernel)) <|
    zall_c (zs_iload_n X (pc := 16) (q := 2) rfl (by decide +kernel)) <|
    zall_c (zs_ishr X (pc := 17) (by decide +kernel)) <|
    zall_c (zs_i2b X (pc := 18) (by decide +kernel)) <|
    zall_c (zs_bastore21 X (pc := 19) (by decide +kernel)) <|
    zall_c (zs_aload_n X (pc := 20) (q := 0) rfl (by decide +kernel)) <|
    zall_c (zs_dup X (pc := 21) (by decide +kernel)) <|
    zall_c (zs_geti X (pc := 22) zc_X9 (by decide) (zin ui_X9) (.tail _ gw_7_221) (by decide +kernel) (by decide +kernel)) <|
    zall_c (zs_iconst X (pc := 25) (by decide) (by decide +kernel)) <|
    zall_c (zs_iadd X (pc := 26) (by decide +kernel)) <|
    zall_c (zs_puti X (pc := 27) (ty := Jvm.ClassFile.FieldType.int) zc_X9 (by decide) (zin ui_X9) tyX9_ok nmX9 (.tail _ gw_7_221) rfl (by decide +kernel) (by decide +kernel) (by decide +kernel) zP_int) <|
    zall_c (zs_iinc X (pc := 30) (by decide) (by decide +kernel)) <|
    zall_c (zs_goto X (pc := 33) (off := (-30)) (by decide +kernel) (by decide)) <|
    zall_c (zs_vret X (pc := 36) rfl (by decide +kernel)) <|
    zall_n
theorem met_X9_appendFour {l : Launch} (hl : l.stackTraces = false) {T : ZTf} (bd : zBd (cd_X9_appendFour) 3 0 0 T) : zMet l yX9_appendFour (Cond.code yX9_appendFour cX9_appendFour 3 (Option.none : Option Jvm.ClassFile.FieldType) :: zG) rm_X9_appendFour 0 0 T := zMet_of hl (by decide +kernel) rfl rfl rfl rfl (hs_X9_appendFour hl) bd

abbrev rm_X9_append : Room := { frames := 3, cells := 0, slots := 0, locals := 74 }
def cd_X9_append (T0 : ZTf) (T1 : ZTf) : List (Nat × ZTr) := [(0, tAld 0 1), (1, tAld 0 2), (2, tGetI 12 6 5), (5, tC (zi 20) 7), (7, tAdd 8), (8, tC (zi 500) 11), (11, tIc_gt 18 14), (14, tC (zi 1) 15), (15, tGo 19), (18, tC (zi 0) 19), (19, tCall0 2 T0 (zRcv 12) 22), (22, tIf_ne 27 25), (25, tC (zi 0) 26), (26, tRi (fun _ => True)), (27, tAld 0 28), (28, tIld 1 29), (29, tCall0 2 T1 (zRcv 12) 32), (32, tAld 0 33), (33, tIld 2 34), (34, tCall0 2 T1 (zRcv 12) 37), (37, tAld 0 38), (38, tIld 3 39), (39, tCall0 2 T1 (zRcv 12) 42), (42, tAld 0 43), (43, tIld 4 45), (45, tCall0 2 T1 (zRcv 12) 48), (48, tAld 0 49), (49, tIld 5 51), (51, tCall0 2 T1 (zRcv 12) 54), (54, tAld 0 55), (55, tGetI 12 6 58), (58, tRi (fun _ => True))]
set_option maxRecDepth 100000 in
set_option maxHeartbeats 4000000 in
theorem hs_X9_append {l : Launch} (hl : l.stackTraces = false) {T0 : ZTf} {T1 : ZTf} (h0 : zMet l yX9_passes (Cond.code yX9_passes cX9_passes 2 (Option.some Jvm.ClassFile.FieldType.boolean) :: zG) rm_X9_passes 0 0 T0) (h1 : zMet l yX9_appendFour (Cond.code yX9_appendFour cX9_appendFour 3 (Option.none : Option Jvm.ClassFile.FieldType) :: zG) rm_X9_appendFour 0 0 T1) (p : Program) (e : Env) (s : State) (m : MethodId) (args : Array Value) (below : List Frame) (meth : Method) (c : Code) (D : va_G) (A : Nat → Prop) (a0 : Nat → Nat) (M0 : ZM) (K : ZRet) (KX : ZEx) (X : zCtx p l rm_X9_append s m args meth c cX9_append RX9 (Cond.code yX9_append cX9_append 6 (Option.some Jvm.ClassFile.FieldType.int) :: zG) 6 (Option.some Jvm.ClassFile.FieldType.int) D A a0 M0 0 0) (hnm : meth.name = yX9_append.name) (hout : ∀ x ∈ c.exceptionTable.toList, False) : ∀ q ∈ cd_X9_append T0 T1, zSd p l e rm_X9_append s m args below meth c 6 D A a0 M0 K KX 0 0 q.1 q.2 :=
    zall_c (zs_aload_n X (pc := 0) (q := 0) rfl (by decide +kernel)) <|
    zall_c (zs_aload_n X (pc := 1) (q := 0) rfl (by decide +kernel)) <|
    zall_c (zs_geti X (pc := 2) zc_X9 (by decide) (zin ui_X9) (.tail _ gw_7_221) (by decide +kernel) (by decide +kernel)) <|
    zall_c (zs_bipush X (pc := 5) (by decide) (by decide +kernel) (by decide +kernel)) <|
    zall_c (zs_iadd X (pc := 7) (by decide +kernel)) <|
    zall_c (zs_sipush X (pc := 8) (by decide) (by decide +kernel) (by decide +kernel)) <|
    zall_c (zs_icmp_gt X (pc := 11) (off := 7) (by decide +kernel) (by decide)) <|
    zall_c (zs_iconst X (pc := 14) (by decide) (by decide +kernel)) <|
    zall_c (zs_goto X (pc := 15) (off := 4) (by decide +kernel) (by decide)) <|
    zall_c (zs_iconst X (pc := 18) (by decide) (by decide +kernel)) <|
    zall_c (zs_callV0 X (pc := 19) zc_X9 (fun _ ht => ⟨(zCB ht gw_8_49 gw_1_13 gw_8_46 rfl rfl (by decide +kernel) ⟨Nat.le_of_ble_eq_true rfl, Nat.le_of_ble_eq_true rfl⟩), ht _ (.tail _ gw_8_48), ht _ (.tail _ gp_28)⟩) h0 hout (by decide +kernel)) <|
    zall_c (zs_if_ne X (pc := 22) (off := 5) (by decide +kernel) (by decide)) <|
    zall_c (zs_iconst X (pc := 25) (by decide) (by decide +kernel)) <|
    zall_c (zs_iret X (pc := 26) rfl (by decide +kernel)) <|
    zall_c (zs_aload_n X (pc := 27) (q := 0) rfl (by decide +kernel)) <|
    zall_c (zs_iload_n X (pc := 28) (q := 1) rfl (by decide +kernel)) <|
    zall_c (zs_callV0 X (pc := 29) zc_X9 (fun _ ht => ⟨(zCB ht gw_8_57 gw_1_13 gw_8_54 rfl rfl (by decide +kernel) ⟨Nat.le_of_ble_eq_true rfl, Nat.le_of_ble_eq_true rfl⟩), ht _ (.tail _ gw_8_56), ht _ (.tail _ gp_30)⟩) h1 hout (by decide +kernel)) <|
    zall_c (zs_aload_n X (pc := 32) (q := 0) rfl (by decide +kernel)) <|
    zall_c (zs_iload_n X (pc := 33) (q := 2) rfl (by decide +kernel)) <|
    zall_c (zs_callV0 X (pc := 34) zc_X9 (fun _ ht => ⟨(zCB ht gw_8_57 gw_1_13 gw_8_54 rfl rfl (by decide +kernel) ⟨Nat.le_of_ble_eq_true rfl, Nat.le_of_ble_eq_true rfl⟩), ht _ (.tail _ gw_8_56), ht _ (.tail _ gp_30)⟩) h1 hout (by decide +kernel)) <|
    zall_c (zs_aload_n X (pc := 37) (q := 0) rfl (by decide +kernel)) <|
    zall_c (zs_iload_n X (pc := 38) (q := 3) rfl (by decide +kernel)) <|
    zall_c (zs_callV0 X (pc := 39) zc_X9 (fun _ ht => ⟨(zCB ht gw_8_57 gw_1_13 gw_8_54 rfl rfl (by decide +kernel) ⟨Nat.le_of_ble_eq_true rfl, Nat.le_of_ble_eq_true rfl⟩), ht _ (.tail _ gw_8_56), ht _ (.tail _ gp_30)⟩) h1 hout (by decide +kernel)) <|
    zall_c (zs_aload_n X (pc := 42) (q := 0) rfl (by decide +kernel)) <|
    zall_c (zs_iload X (pc := 43) (by decide +kernel)) <|
    zall_c (zs_callV0 X (pc := 45) zc_X9 (fun _ ht => ⟨(zCB ht gw_8_57 gw_1_13 gw_8_54 rfl rfl (by decide +kernel) ⟨Nat.le_of_ble_eq_true rfl, Nat.le_of_ble_eq_true rfl⟩), ht _ (.tail _ gw_8_56), ht _ (.tail _ gp_30)⟩) h1 hout (by decide +kernel)) <|
    zall_c (zs_aload_n X (pc := 48) (q := 0) rfl (by decide +kernel)) <|
    zall_c (zs_iload X (pc := 49) (by decide +kernel)) <|
    zall_c (zs_callV0 X (pc := 51) zc_X9 (fun _ ht => ⟨(zCB ht gw_8_57 gw_1_13 gw_8_54 rfl rfl (by decide +kernel) ⟨Nat.le_of_ble_eq_true rfl, Nat.le_of_ble_eq_true rfl⟩), ht _ (.tail _ gw_8_56), ht _ (.tail _ gp_30)⟩) h1 hout (by decide +kernel)) <|
    zall_c (zs_aload_n X (pc := 54) (q := 0) rfl (by decide +kernel)) <|
    zall_c (zs_geti X (pc := 55) zc_X9 (by decide) (zin ui_X9) (.tail _ gw_7_221) (by decide +kernel) (by decide +kernel)) <|
    zall_c (zs_iret X (pc := 58) rfl (by decide +kernel)) <|
    zall_n
theorem met_X9_append {l : Launch} (hl : l.stackTraces = false) {T0 : ZTf} {T1 : ZTf} (h0 : zMet l yX9_passes (Cond.code yX9_passes cX9_passes 2 (Option.some Jvm.ClassFile.FieldType.boolean) :: zG) rm_X9_passes 0 0 T0) (h1 : zMet l yX9_appendFour (Cond.code yX9_appendFour cX9_appendFour 3 (Option.none : Option Jvm.ClassFile.FieldType) :: zG) rm_X9_appendFour 0 0 T1) {T : ZTf} (bd : zBd (cd_X9_append T0 T1) 6 0 0 T) : zMet l yX9_append (Cond.code yX9_append cX9_append 6 (Option.some Jvm.ClassFile.FieldType.int) :: zG) rm_X9_append 0 0 T := zMet_of hl (by decide +kernel) rfl rfl rfl rfl (hs_X9_append hl h0 h1) bd

abbrev rm_X9_truncate : Room := { frames := 3, cells := 0, slots := 0, locals := 74 }
def cd_X9_truncate (T0 : ZTf) (T1 : ZTf) : List (Nat × ZTr) := [(0, tAld 0 1), (1, tIld 1 2), (2, tI2l 3), (3, tC (zl 0) 4), (4, tAld 0 5), (5, tGetI 12 6 8), (8, tI2l 9), (9, tCall0 3 T0 zAny 12), (12, tCall0 2 T1 (zRcv 12) 15), (15, tIf_eq 23 18), (18, tAld 0 19), (19, tIld 1 20), (20, tPutI 12 6 (fun _ => True) 23), (23, tRv)]
set_option maxRecDepth 100000 in
set_option maxHeartbeats 4000000 in
theorem hs_X9_truncate {l : Launch} (hl : l.stackTraces = false) {T0 : ZTf} {T1 : ZTf} (h0 : zMet l yX9_in (Cond.code yX9_in cX9_in 6 (Option.some Jvm.ClassFile.FieldType.boolean) :: zG) rm_X9_in 0 0 T0) (h1 : zMet l yX9_passes (Cond.code yX9_passes cX9_passes 2 (Option.some Jvm.ClassFile.FieldType.boolean) :: zG) rm_X9_passes 0 0 T1) (p : Program) (e : Env) (s : State) (m : MethodId) (args : Array Value) (below : List Frame) (meth : Method) (c : Code) (D : va_G) (A : Nat → Prop) (a0 : Nat → Nat) (M0 : ZM) (K : ZRet) (KX : ZEx) (X : zCtx p l rm_X9_truncate s m args meth c cX9_truncate RX9 (Cond.code yX9_truncate cX9_truncate 2 (Option.none : Option Jvm.ClassFile.FieldType) :: zG) 2 (Option.none : Option Jvm.ClassFile.FieldType) D A a0 M0 0 0) (hnm : meth.name = yX9_truncate.name) (hout : ∀ x ∈ c.exceptionTable.toList, False) : ∀ q ∈ cd_X9_truncate T0 T1, zSd p l e rm_X9_truncate s m args below meth c 2 D A a0 M0 K KX 0 0 q.1 q.2 :=
    zall_c (zs_aload_n X (pc := 0) (q := 0) rfl (by decide +kernel)) <|
    zall_c (zs_iload_n X (pc := 1) (q := 1) rfl (by decide +kernel)) <|
    zall_c (zs_i2l X (pc := 2) (by decide +kernel)) <|
    zall_c (zs_lconst X (pc := 3) (q := 0) (by decide) (by decide +kernel) rfl) <|
    zall_c (zs_aload_n X (pc := 4) (q := 0) rfl (by decide +kernel)) <|
    zall_c (zs_geti X (pc := 5) zc_X9 (by decide) (zin ui_X9) (.tail _ gw_7_221) (by decide +kernel) (by decide +kernel)) <|
    zall_c (zs_i2l X (pc := 8) (by decide +kernel)) <|
    zall_c (zs_callS0 X (pc := 9) (fun _ ht => ⟨(zCB ht gw_8_64 gw_1_13 gw_8_62 rfl rfl (by decide +kernel) ⟨Nat.le_of_ble_eq_true rfl, Nat.le_of_ble_eq_true rfl⟩), ht _ (.tail _ gw_8_63)⟩) h0 hout (by decide +kernel)) <|
    zall_c (zs_callV0 X (pc := 12) zc_X9 (fun _ ht => ⟨(zCB ht gw_8_49 gw_1_13 gw_8_46 rfl rfl (by decide +kernel) ⟨Nat.le_of_ble_eq_true rfl, Nat.le_of_ble_eq_true rfl⟩), ht _ (.tail _ gw_8_48), ht _ (.tail _ gp_28)⟩) h1 hout (by decide +kernel)) <|
    zall_c (zs_if_eq X (pc := 15) (off := 8) (by decide +kernel) (by decide)) <|
    zall_c (zs_aload_n X (pc := 18) (q := 0) rfl (by decide +kernel)) <|
    zall_c (zs_iload_n X (pc := 19) (q := 1) rfl (by decide +kernel)) <|
    zall_c (zs_puti X (pc := 20) (ty := Jvm.ClassFile.FieldType.int) zc_X9 (by decide) (zin ui_X9) tyX9_ok nmX9 (.tail _ gw_7_221) rfl (by decide +kernel) (by decide +kernel) (by decide +kernel) zP_int) <|
    zall_c (zs_vret X (pc := 23) rfl (by decide +kernel)) <|
    zall_n
theorem met_X9_truncate {l : Launch} (hl : l.stackTraces = false) {T0 : ZTf} {T1 : ZTf} (h0 : zMet l yX9_in (Cond.code yX9_in cX9_in 6 (Option.some Jvm.ClassFile.FieldType.boolean) :: zG) rm_X9_in 0 0 T0) (h1 : zMet l yX9_passes (Cond.code yX9_passes cX9_passes 2 (Option.some Jvm.ClassFile.FieldType.boolean) :: zG) rm_X9_passes 0 0 T1) {T : ZTf} (bd : zBd (cd_X9_truncate T0 T1) 2 0 0 T) : zMet l yX9_truncate (Cond.code yX9_truncate cX9_truncate 2 (Option.none : Option Jvm.ClassFile.FieldType) :: zG) rm_X9_truncate 0 0 T := zMet_of hl (by decide +kernel) rfl rfl rfl rfl (hs_X9_truncate hl h0 h1) bd

abbrev rm_X9_good : Room := { frames := 1, cells := 0, slots := 0, locals := 30 }
def cd_X9_good : List (Nat × ZTr) := [(0, tAld 0 1), (1, tGetI 12 12 4), (4, tIf_ne 11 7), (7, tC (zi 1) 8), (8, tGo 12), (11, tC (zi 0) 12), (12, tRi zPz)]
set_option maxRecDepth 100000 in
set_option maxHeartbeats 4000000 in
theorem hs_X9_good {l : Launch} (hl : l.stackTraces = false) (p : Program) (e : Env) (s : State) (m : MethodId) (args : Array Value) (below : List Frame) (meth : Method) (c : Code) (D : va_G) (A : Nat → Prop) (a0 : Nat → Nat) (M0 : ZM) (K : ZRet) (KX : ZEx) (X : zCtx p l rm_X9_good s m args meth c cX9_good RX9 (Cond.code yX9_good cX9_good 1 (Option.some Jvm.ClassFile.FieldType.boolean) :: zG) 1 (Option.some Jvm.ClassFile.FieldType.boolean) D A a0 M0 0 0) (hnm : meth.name = yX9_good.name) (hout : ∀ x ∈ c.exceptionTable.toList, False) : ∀ q ∈ cd_X9_good, zSd p l e rm_X9_good s m args below meth c 1 D A a0 M0 K KX 0 0 q.1 q.2 :=
    zall_c (zs_aload_n X (pc := 0) (q := 0) rfl (by decide +kernel)) <|
    zall_c (zs_geti X (pc := 1) zc_X9 (by decide) (zin ui_X9) (.tail _ gw_7_227) (by decide +kernel) (by decide +kernel)) <|
    zall_c (zs_if_ne X (pc := 4) (off := 7) (by decide +kernel) (by decide)) <|
    zall_c (zs_iconst X (pc := 7) (by decide) (by decide +kernel)) <|
    zall_c (zs_goto X (pc := 8) (off := 4) (by decide +kernel) (by decide)) <|
    zall_c (zs_iconst X (pc := 11) (by decide) (by decide +kernel)) <|
    zall_c (zs_zret X (pc := 12) rfl zR_bool (by decide +kernel)) <|
    zall_n
theorem met_X9_good {l : Launch} (hl : l.stackTraces = false) {T : ZTf} (bd : zBd (cd_X9_good) 1 0 0 T) : zMet l yX9_good (Cond.code yX9_good cX9_good 1 (Option.some Jvm.ClassFile.FieldType.boolean) :: zG) rm_X9_good 0 0 T := zMet_of hl (by decide +kernel) rfl rfl rfl rfl (hs_X9_good hl) bd

abbrev rm_X9_errs : Room := { frames := 2, cells := 0, slots := 0, locals := 50 }
def cd_X9_errs (T0 : ZTf) : List (Nat × ZTr) := [(0, tAld 0 1), (1, tCall0 1 T0 (zRcv 12) 4), (4, tIf_ne 8 7), (7, tRv), (8, tAld 0 9), (9, tIld 1 10), (10, tPutI 12 12 (fun _ => True) 13), (13, tAld 0 14), (14, tAld 0 15), (15, tGetI 12 9 18), (18, tPutI 12 13 (fun _ => True) 21), (21, tRv)]
set_option maxRecDepth 100000 in
set_option maxHeartbeats 4000000 in
theorem hs_X9_errs {l : Launch} (hl : l.stackTraces = false) {T0 : ZTf} (h0 : zMet l yX9_good (Cond.code yX9_good cX9_good 1 (Option.some Jvm.ClassFile.FieldType.boolean) :: zG) rm_X9_good 0 0 T0) (p : Program) (e : Env) (s : State) (m : MethodId) (args : Array Value) (below : List Frame) (meth : Method) (c : Code) (D : va_G) (A : Nat → Prop) (a0 : Nat → Nat) (M0 : ZM) (K : ZRet) (KX : ZEx) (X : zCtx p l rm_X9_errs s m args meth c cX9_errs RX9 (Cond.code yX9_errs cX9_errs 2 (Option.none : Option Jvm.ClassFile.FieldType) :: zG) 2 (Option.none : Option Jvm.ClassFile.FieldType) D A a0 M0 0 0) (hnm : meth.name = yX9_errs.name) (hout : ∀ x ∈ c.exceptionTable.toList, False) : ∀ q ∈ cd_X9_errs T0, zSd p l e rm_X9_errs s m args below meth c 2 D A a0 M0 K KX 0 0 q.1 q.2 :=
    zall_c (zs_aload_n X (pc := 0) (q := 0) rfl (by decide +kernel)) <|
    zall_c (zs_callV0 X (pc := 1) zc_X9 (fun _ ht => ⟨(zCB ht gw_8_94 gw_1_13 gw_8_91 rfl rfl (by decide +kernel) ⟨Nat.le_of_ble_eq_true rfl, Nat.le_of_ble_eq_true rfl⟩), ht _ (.tail _ gw_8_93), ht _ (.tail _ gp_35)⟩) h0 hout (by decide +kernel)) <|
    zall_c (zs_if_ne X (pc := 4) (off := 4) (by decide +kernel) (by decide)) <|
    zall_c (zs_vret X (pc := 7) rfl (by decide +kernel)) <|
    zall_c (zs_aload_n X (pc := 8) (q := 0) rfl (by decide +kernel)) <|
    zall_c (zs_iload_n X (pc := 9) (q := 1) rfl (by decide +kernel)) <|
    zall_c (zs_puti X (pc := 10) (ty := Jvm.ClassFile.FieldType.int) zc_X9 (by decide) (zin ui_X9) tyX9_ok nmX9 (.tail _ gw_7_227) rfl (by decide +kernel) (by decide +kernel) (by decide +kernel) zP_int) <|
    zall_c (zs_aload_n X (pc := 13) (q := 0) rfl (by decide +kernel)) <|
    zall_c (zs_aload_n X (pc := 14) (q := 0) rfl (by decide +kernel)) <|
    zall_c (zs_geti X (pc := 15) zc_X9 (by decide) (zin ui_X9) (.tail _ gw_7_224) (by decide +kernel) (by decide +kernel)) <|
    zall_c (zs_puti X (pc := 18) (ty := Jvm.ClassFile.FieldType.int) zc_X9 (by decide) (zin ui_X9) tyX9_ok nmX9 (.tail _ gw_7_228) rfl (by decide +kernel) (by decide +kernel) (by decide +kernel) zP_int) <|
    zall_c (zs_vret X (pc := 21) rfl (by decide +kernel)) <|
    zall_n
theorem met_X9_errs {l : Launch} (hl : l.stackTraces = false) {T0 : ZTf} (h0 : zMet l yX9_good (Cond.code yX9_good cX9_good 1 (Option.some Jvm.ClassFile.FieldType.boolean) :: zG) rm_X9_good 0 0 T0) {T : ZTf} (bd : zBd (cd_X9_errs T0) 2 0 0 T) : zMet l yX9_errs (Cond.code yX9_errs cX9_errs 2 (Option.none : Option Jvm.ClassFile.FieldType) :: zG) rm_X9_errs 0 0 T := zMet_of hl (by decide +kernel) rfl rfl rfl rfl (hs_X9_errs hl h0) bd

abbrev rm_X9_byteAt : Room := { frames := 1, cells := 0, slots := 0, locals := 30 }
def cd_X9_byteAt : List (Nat × ZTr) := [(0, tIld 1 1), (1, tAld 0 2), (2, tGetI 12 7 5), (5, tIc_ge 21 8), (8, tAld 0 9), (9, tGetR 12 5 12), (12, tIld 1 13), (13, tIal 21 14), (14, tC (zi 255) 17), (17, tBif zand 18), (18, tGo 22), (21, tC (zi (-1)) 22), (22, tRi (fun _ => True))]
set_option maxRecDepth 100000 in
set_option maxHeartbeats 4000000 in
theorem hs_X9_byteAt {l : Launch} (hl : l.stackTraces = false) (p : Program) (e : Env) (s : State) (m : MethodId) (args : Array Value) (below : List Frame) (meth : Method) (c : Code) (D : va_G) (A : Nat → Prop) (a0 : Nat → Nat) (M0 : ZM) (K : ZRet) (KX : ZEx) (X : zCtx p l rm_X9_byteAt s m args meth c cX9_byteAt RX9 (Cond.code yX9_byteAt cX9_byteAt 2 (Option.some Jvm.ClassFile.FieldType.int) :: zG) 2 (Option.some Jvm.ClassFile.FieldType.int) D A a0 M0 0 0) (hnm : meth.name = yX9_byteAt.name) (hout : ∀ x ∈ c.exceptionTable.toList, False) : ∀ q ∈ cd_X9_byteAt, zSd p l e rm_X9_byteAt s m args below meth c 2 D A a0 M0 K KX 0 0 q.1 q.2 :=
    zall_c (zs_iload_n X (pc := 0) (q := 1) rfl (by decide +kernel)) <|
    zall_c (zs_aload_n X (pc := 1) (q := 0) rfl (by decide +kernel)) <|
    zall_c (zs_geti X (pc := 2) zc_X9 (by decide) (zin ui_X9) (.tail _ gw_7_222) (by decide +kernel) (by decide +kernel)) <|
    zall_c (zs_icmp_ge X (pc := 5) (off := 16) (by decide +kernel) (by decide)) <|
    zall_c (zs_aload_n X (pc := 8) (q := 0) rfl (by decide +kernel)) <|
    zall_c (zs_getr X (pc := 9) zc_X9 (by decide) (zin ui_X9) (.tail _ gw_7_220) (by decide +kernel) (by decide +kernel)) <|
    zall_c (zs_iload_n X (pc := 12) (q := 1) rfl (by decide +kernel)) <|
    zall_c (zs_baload21 X (pc := 13) (by decide +kernel)) <|
    zall_c (zs_sipush X (pc := 14) (by decide) (by decide +kernel) (by decide +kernel)) <|
    zall_c (zs_iand X (pc := 17) (by decide +kernel)) <|
    zall_c (zs_goto X (pc := 18) (off := 4) (by decide +kernel) (by decide)) <|
    zall_c (zs_iconst X (pc := 21) (by decide) (by decide +kernel)) <|
    zall_c (zs_iret X (pc := 22) rfl (by decide +kernel)) <|
    zall_n
theorem met_X9_byteAt {l : Launch} (hl : l.stackTraces = false) {T : ZTf} (bd : zBd (cd_X9_byteAt) 2 0 0 T) : zMet l yX9_byteAt (Cond.code yX9_byteAt cX9_byteAt 2 (Option.some Jvm.ClassFile.FieldType.int) :: zG) rm_X9_byteAt 0 0 T := zMet_of hl (by decide +kernel) rfl rfl rfl rfl (hs_X9_byteAt hl) bd

abbrev rm_X9_scan : Room := { frames := 2, cells := 0, slots := 0, locals := 55 }
def cd_X9_scan (T0 : ZTf) (T1 : ZTf) : List (Nat × ZTr) := [(0, tAld 0 1), (1, tAld 0 2), (2, tGetI 12 8 5), (5, tCall0 2 T0 (zRcv 12) 8), (8, tC (zi 32) 10), (10, tIc_eq 26 13), (13, tAld 0 14), (14, tAld 0 15), (15, tGetI 12 8 18), (18, tCall0 2 T0 (zRcv 12) 21), (21, tC (zi 10) 23), (23, tIc_ne 39 26), (26, tAld 0 27), (27, tDup 28), (28, tGetI 12 8 31), (31, tC (zi 1) 32), (32, tAdd 33), (33, tPutI 12 8 (fun _ => True) 36), (36, tGo 0), (39, tAld 0 40), (40, tAld 0 41), (41, tGetI 12 8 44), (44, tPutI 12 9 (fun _ => True) 47), (47, tAld 0 48), (48, tAld 0 49), (49, tGetI 12 8 52), (52, tCall0 2 T0 (zRcv 12) 55), (55, tIst 1 56), (56, tIld 1 57), (57, tC (zi (-1)) 58), (58, tIc_ne 69 61), (61, tAld 0 62), (62, tC (zi 0) 63), (63, tPutI 12 10 (fun _ => True) 66), (66, tGo 235), (69, tIld 1 70), (70, tI2l 71), (71, tC (zl 97) 74), (74, tC (zl 122) 77), (77, tCall0 3 T1 zAny 80), (80, tIf_eq 125 83), (83, tAld 0 84), (84, tAld 0 85), (85, tGetI 12 8 88), (88, tCall0 2 T0 (zRcv 12) 91), (91, tI2l 92), (92, tC (zl 97) 95), (95, tC (zl 122) 98), (98, tCall0 3 T1 zAny 101), (101, tIf_eq 117 104), (104, tAld 0 105), (105, tDup 106), (106, tGetI 12 8 109), (109, tC (zi 1) 110), (110, tAdd 111), (111, tPutI 12 8 (fun _ => True) 114), (114, tGo 83), (117, tAld 0 118), (118, tC (zi 1) 119), (119, tPutI 12 10 (fun _ => True) 122), (122, tGo 235), (125, tIld 1 126), (126, tI2l 127), (127, tC (zl 48) 130), (130, tC (zl 57) 133), (133, tCall0 3 T1 zAny 136), (136, tIf_eq 215 139), (139, tAld 0 140), (140, tC (zi 0) 141), (141, tPutI 12 11 (fun _ => True) 144), (144, tAld 0 145), (145, tAld 0 146), (146, tGetI 12 8 149), (149, tCall0 2 T0 (zRcv 12) 152), (152, tI2l 153), (153, tC (zl 48) 156), (156, tC (zl 57) 159), (159, tCall0 3 T1 zAny 162), (162, tIf_eq 207 165), (165, tAld 0 166), (166, tC (zi 9999) 169), (169, tC (zi 10) 171), (171, tAld 0 172), (172, tGetI 12 11 175), (175, tMul 176), (176, tAld 0 177), (177, tAld 0 178), (178, tGetI 12 8 181), (181, tCall0 2 T0 (zRcv 12) 184), (184, tAdd 185), (185, tC (zi 48) 187), (187, tSub 188), (188, tMth2 zmin 191), (191, tPutI 12 11 (fun _ => True) 194), (194, tAld 0 195), (195, tDup 196), (196, tGetI 12 8 199), (199, tC (zi 1) 200), (200, tAdd 201), (201, tPutI 12 8 (fun _ => True) 204), (204, tGo 144), (207, tAld 0 208), (208, tC (zi 2) 209), (209, tPutI 12 10 (fun _ => True) 212), (212, tGo 235), (215, tAld 0 216), (216, tC (zi 3) 217), (217, tPutI 12 10 (fun _ => True) 220), (220, tAld 0 221), (221, tIld 1 222), (222, tPutI 12 11 (fun _ => True) 225), (225, tAld 0 226), (226, tDup 227), (227, tGetI 12 8 230), (230, tC (zi 1) 231), (231, tAdd 232), (232, tPutI 12 8 (fun _ => True) 235), (235, tRv)]
set_option maxRecDepth 100000 in
set_option maxHeartbeats 4000000 in
theorem hs_X9_scan {l : Launch} (hl : l.stackTraces = false) {T0 : ZTf} {T1 : ZTf} (h0 : zMet l yX9_byteAt (Cond.code yX9_byteAt cX9_byteAt 2 (Option.some Jvm.ClassFile.FieldType.int) :: zG) rm_X9_byteAt 0 0 T0) (h1 : zMet l yX9_in (Cond.code yX9_in cX9_in 6 (Option.some Jvm.ClassFile.FieldType.boolean) :: zG) rm_X9_in 0 0 T1) (p : Program) (e : Env) (s : State) (m : MethodId) (args : Array Value) (below : List Frame) (meth : Method) (c : Code) (D : va_G) (A : Nat → Prop) (a0 : Nat → Nat) (M0 : ZM) (K : ZRet) (KX : ZEx) (X : zCtx p l rm_X9_scan s m args meth c cX9_scan RX9 (Cond.code yX9_scan cX9_scan 2 (Option.none : Option Jvm.ClassFile.FieldType) :: zG) 2 (Option.none : Option Jvm.ClassFile.FieldType) D A a0 M0 0 0) (hnm : meth.name = yX9_scan.name) (hout : ∀ x ∈ c.exceptionTable.toList, False) : ∀ q ∈ cd_X9_scan T0 T1, zSd p l e rm_X9_scan s m args below meth c 2 D A a0 M0 K KX 0 0 q.1 q.2 :=
    zall_c (zs_aload_n X (pc := 0) (q := 0) rfl (by decide +kernel)) <|
    zall_c (zs_aload_n X (pc := 1) (q := 0) rfl (by decide +kernel)) <|
    zall_c (zs_geti X (pc := 2) zc_X9 (by decide) (zin ui_X9) (.tail _ gw_7_223) (by decide +kernel) (by decide +kernel)) <|
    zall_c (zs_callV0 X (pc := 5) zc_X9 (fun _ ht => ⟨(zCB ht gw_8_76 gw_1_13 gw_8_73 rfl rfl (by decide +kernel) ⟨Nat.le_of_ble_eq_true rfl, Nat.le_of_ble_eq_true rfl⟩), ht _ (.tail _ gw_8_75), ht _ (.tail _ gp_32)⟩) h0 hout (by decide +kernel)) <|
    zall_c (zs_bipush X (pc := 8) (by decide) (by decide +kernel) (by decide +kernel)) <|
    zall_c (zs_icmp_eq X (pc := 10) (off := 16) (by decide +kernel) (by decide)) <|
    zall_c (zs_aload_n X (pc := 13) (q := 0) rfl (by decide +kernel)) <|
    zall_c (zs_aload_n X (pc := 14) (q := 0) rfl (by decide +kernel)) <|
    zall_c (zs_geti X (pc := 15) zc_X9 (by decide) (zin ui_X9) (.tail _ gw_7_223) (by decide +kernel) (by decide +kernel)) <|
    zall_c (zs_callV0 X (pc := 18) zc_X9 (fun _ ht => ⟨(zCB ht gw_8_76 gw_1_13 gw_8_73 rfl rfl (by decide +kernel) ⟨Nat.le_of_ble_eq_true rfl, Nat.le_of_ble_eq_true rfl⟩), ht _ (.tail _ gw_8_75), ht _ (.tail _ gp_32)⟩) h0 hout (by decide +kernel)) <|
    zall_c (zs_bipush X (pc := 21) (by decide) (by decide +kernel) (by decide +kernel)) <|
    zall_c (zs_icmp_ne X (pc := 23) (off := 16) (by decide +kernel) (by decide)) <|
    zall_c (zs_aload_n X (pc := 26) (q := 0) rfl (by decide +kernel)) <|
    zall_c (zs_dup X (pc := 27) (by decide +kernel)) <|
    zall_c (zs_geti X (pc := 28) zc_X9 (by decide) (zin ui_X9) (.tail _ gw_7_223) (by decide +kernel) (by decide +kernel)) <|
    zall_c (zs_iconst X (pc := 31) (by decide) (by decide +kernel)) <|
    zall_c (zs_iadd X (pc := 32) (by decide +kernel)) <|
    zall_c (zs_puti X (pc := 33) (ty := Jvm.ClassFile.FieldType.int) zc_X9 (by decide) (zin ui_X9) tyX9_ok nmX9 (.tail _ gw_7_223) rfl (by decide +kernel) (by decide +kernel) (by decide +kernel) zP_int) <|
    zall_c (zs_goto X (pc := 36) (off := (-36)) (by decide +kernel) (by decide)) <|
    zall_c (zs_aload_n X (pc := 39) (q := 0) rfl (by decide +kernel)) <|
    zall_c (zs_aload_n X (pc := 40) (q := 0) rfl (by decide +kernel)) <|
    zall_c (zs_geti X (pc := 41) zc_X9 (by decide) (zin ui_X9) (.tail _ gw_7_223) (by decide +kernel) (by decide +kernel)) <|
    zall_c (zs_puti X (pc := 44) (ty := Jvm.ClassFile.FieldType.int) zc_X9 (by decide) (zin ui_X9) tyX9_ok nmX9 (.tail _ gw_7_224) rfl (by decide +kernel) (by decide +kernel) (by decide +kernel) zP_int) <|
    zall_c (zs_aload_n X (pc := 47) (q := 0) rfl (by decide +kernel)) <|
    zall_c (zs_aload_n X (pc := 48) (q := 0) rfl (by decide +kernel)) <|
    zall_c (zs_geti X (pc := 49) zc_X9 (by decide) (zin ui_X9) (.tail _ gw_7_223) (by decide +kernel) (by decide +kernel)) <|
    zall_c (zs_callV0 X (pc := 52) zc_X9 (fun _ ht => ⟨(zCB ht gw_8_76 gw_1_13 gw_8_73 rfl rfl (by decide +kernel) ⟨Nat.le_of_ble_eq_true rfl, Nat.le_of_ble_eq_true rfl⟩), ht _ (.tail _ gw_8_75), ht _ (.tail _ gp_32)⟩) h0 hout (by decide +kernel)) <|
    zall_c (zs_istore_n X (pc := 55) (q := 1) rfl (by decide) (by decide +kernel)) <|
    zall_c (zs_iload_n X (pc := 56) (q := 1) rfl (by decide +kernel)) <|
    zall_c (zs_iconst X (pc := 57) (by decide) (by decide +kernel)) <|
    zall_c (zs_icmp_ne X (pc := 58) (off := 11) (by decide +kernel) (by decide)) <|
    zall_c (zs_aload_n X (pc := 61) (q := 0) rfl (by decide +kernel)) <|
    zall_c (zs_iconst X (pc := 62) (by decide) (by decide +kernel)) <|
    zall_c (zs_puti X (pc := 63) (ty := Jvm.ClassFile.FieldType.int) zc_X9 (by decide) (zin ui_X9) tyX9_ok nmX9 (.tail _ gw_7_225) rfl (by decide +kernel) (by decide +kernel) (by decide +kernel) zP_int) <|
    zall_c (zs_goto X (pc := 66) (off := 169) (by decide +kernel) (by decide)) <|
    zall_c (zs_iload_n X (pc := 69) (q := 1) rfl (by decide +kernel)) <|
    zall_c (zs_i2l X (pc := 70) (by decide +kernel)) <|
    zall_c (zs_ldc2 X (pc := 71) (i := 214) (by decide) (by decide +kernel) (.tail _ gw_8_77)) <|
    zall_c (zs_ldc2 X (pc := 74) (i := 216) (by decide) (by decide +kernel) (.tail _ gw_8_78)) <|
    zall_c (zs_callS0 X (pc := 77) (fun _ ht => ⟨(zCB ht gw_8_64 gw_1_13 gw_8_62 rfl rfl (by decide +kernel) ⟨Nat.le_of_ble_eq_true rfl, Nat.le_of_ble_eq_true rfl⟩), ht _ (.tail _ gw_8_63)⟩) h1 hout (by decide +kernel)) <|
    zall_c (zs_if_eq X (pc := 80) (off := 45) (by decide +kernel) (by decide)) <|
    zall_c (zs_aload_n X (pc := 83) (q := 0) rfl (by decide +kernel)) <|
    zall_c (zs_aload_n X (pc := 84) (q := 0) rfl (by decide +kernel)) <|
    zall_c (zs_geti X (pc := 85) zc_X9 (by decide) (zin ui_X9) (.tail _ gw_7_223) (by decide +kernel) (by decide +kernel)) <|
    zall_c (zs_callV0 X (pc := 88) zc_X9 (fun _ ht => ⟨(zCB ht gw_8_76 gw_1_13 gw_8_73 rfl rfl (by decide +kernel) ⟨Nat.le_of_ble_eq_true rfl, Nat.le_of_ble_eq_true rfl⟩), ht _ (.tail _ gw_8_75), ht _ (.tail _ gp_32)⟩) h0 hout (by decide +kernel)) <|
    zall_c (zs_i2l X (pc := 91) (by decide +kernel)) <|
    zall_c (zs_ldc2 X (pc := 92) (i := 214) (by decide) (by decide +kernel) (.tail _ gw_8_77)) <|
    zall_c (zs_ldc2 X (pc := 95) (i := 216) (by decide) (by decide +kernel) (.tail _ gw_8_78)) <|
    zall_c (zs_callS0 X (pc := 98) (fun _ ht => ⟨(zCB ht gw_8_64 gw_1_13 gw_8_62 rfl rfl (by decide +kernel) ⟨Nat.le_of_ble_eq_true rfl, Nat.le_of_ble_eq_true rfl⟩), ht _ (.tail _ gw_8_63)⟩) h1 hout (by decide +kernel)) <|
    zall_c (zs_if_eq X (pc := 101) (off := 16) (by decide +kernel) (by decide)) <|
    zall_c (zs_aload_n X (pc := 104) (q := 0) rfl (by decide +kernel)) <|
    zall_c (zs_dup X (pc := 105) (by decide +kernel)) <|
    zall_c (zs_geti X (pc := 106) zc_X9 (by decide) (zin ui_X9) (.tail _ gw_7_223) (by decide +kernel) (by decide +kernel)) <|
    zall_c (zs_iconst X (pc := 109) (by decide) (by decide +kernel)) <|
    zall_c (zs_iadd X (pc := 110) (by decide +kernel)) <|
    zall_c (zs_puti X (pc := 111) (ty := Jvm.ClassFile.FieldType.int) zc_X9 (by decide) (zin ui_X9) tyX9_ok nmX9 (.tail _ gw_7_223) rfl (by decide +kernel) (by decide +kernel) (by decide +kernel) zP_int) <|
    zall_c (zs_goto X (pc := 114) (off := (-31)) (by decide +kernel) (by decide)) <|
    zall_c (zs_aload_n X (pc := 117) (q := 0) rfl (by decide +kernel)) <|
    zall_c (zs_iconst X (pc := 118) (by decide) (by decide +kernel)) <|
    zall_c (zs_puti X (pc := 119) (ty := Jvm.ClassFile.FieldType.int) zc_X9 (by decide) (zin ui_X9) tyX9_ok nmX9 (.tail _ gw_7_225) rfl (by decide +kernel) (by decide +kernel) (by decide +kernel) zP_int) <|
    zall_c (zs_goto X (pc := 122) (off := 113) (by decide +kernel) (by decide)) <|
    zall_c (zs_iload_n X (pc := 125) (q := 1) rfl (by decide +kernel)) <|
    zall_c (zs_i2l X (pc := 126) (by decide +kernel)) <|
    zall_c (zs_ldc2 X (pc := 127) (i := 218) (by decide) (by decide +kernel) (.tail _ gw_8_79)) <|
    zall_c (zs_ldc2 X (pc := 130) (i := 220) (by decide) (by decide +kernel) (.tail _ gw_8_80)) <|
    zall_c (zs_callS0 X (pc := 133) (fun _ ht => ⟨(zCB ht gw_8_64 gw_1_13 gw_8_62 rfl rfl (by decide +kernel) ⟨Nat.le_of_ble_eq_true rfl, Nat.le_of_ble_eq_true rfl⟩), ht _ (.tail _ gw_8_63)⟩) h1 hout (by decide +kernel)) <|
    zall_c (zs_if_eq X (pc := 136) (off := 79) (by decide +kernel) (by decide)) <|
    zall_c (zs_aload_n X (pc := 139) (q := 0) rfl (by decide +kernel)) <|
    zall_c (zs_iconst X (pc := 140) (by decide) (by decide +kernel)) <|
    zall_c (zs_puti X (pc := 141) (ty := Jvm.ClassFile.FieldType.int) zc_X9 (by decide) (zin ui_X9) tyX9_ok nmX9 (.tail _ gw_7_226) rfl (by decide +kernel) (by decide +kernel) (by decide +kernel) zP_int) <|
    zall_c (zs_aload_n X (pc := 144) (q := 0) rfl (by decide +kernel)) <|
    zall_c (zs_aload_n X (pc := 145) (q := 0) rfl (by decide +kernel)) <|
    zall_c (zs_geti X (pc := 146) zc_X9 (by decide) (zin ui_X9) (.tail _ gw_7_223) (by decide +kernel) (by decide +kernel)) <|
    zall_c (zs_callV0 X (pc := 149) zc_X9 (fun _ ht => ⟨(zCB ht gw_8_76 gw_1_13 gw_8_73 rfl rfl (by decide +kernel) ⟨Nat.le_of_ble_eq_true rfl, Nat.le_of_ble_eq_true rfl⟩), ht _ (.tail _ gw_8_75), ht _ (.tail _ gp_32)⟩) h0 hout (by decide +kernel)) <|
    zall_c (zs_i2l X (pc := 152) (by decide +kernel)) <|
    zall_c (zs_ldc2 X (pc := 153) (i := 218) (by decide) (by decide +kernel) (.tail _ gw_8_79)) <|
    zall_c (zs_ldc2 X (pc := 156) (i := 220) (by decide) (by decide +kernel) (.tail _ gw_8_80)) <|
    zall_c (zs_callS0 X (pc := 159) (fun _ ht => ⟨(zCB ht gw_8_64 gw_1_13 gw_8_62 rfl rfl (by decide +kernel) ⟨Nat.le_of_ble_eq_true rfl, Nat.le_of_ble_eq_true rfl⟩), ht _ (.tail _ gw_8_63)⟩) h1 hout (by decide +kernel)) <|
    zall_c (zs_if_eq X (pc := 162) (off := 45) (by decide +kernel) (by decide)) <|
    zall_c (zs_aload_n X (pc := 165) (q := 0) rfl (by decide +kernel)) <|
    zall_c (zs_sipush X (pc := 166) (by decide) (by decide +kernel) (by decide +kernel)) <|
    zall_c (zs_bipush X (pc := 169) (by decide) (by decide +kernel) (by decide +kernel)) <|
    zall_c (zs_aload_n X (pc := 171) (q := 0) rfl (by decide +kernel)) <|
    zall_c (zs_geti X (pc := 172) zc_X9 (by decide) (zin ui_X9) (.tail _ gw_7_226) (by decide +kernel) (by decide +kernel)) <|
    zall_c (zs_imul X (pc := 175) (by decide +kernel)) <|
    zall_c (zs_aload_n X (pc := 176) (q := 0) rfl (by decide +kernel)) <|
    zall_c (zs_aload_n X (pc := 177) (q := 0) rfl (by decide +kernel)) <|
    zall_c (zs_geti X (pc := 178) zc_X9 (by decide) (zin ui_X9) (.tail _ gw_7_223) (by decide +kernel) (by decide +kernel)) <|
    zall_c (zs_callV0 X (pc := 181) zc_X9 (fun _ ht => ⟨(zCB ht gw_8_76 gw_1_13 gw_8_73 rfl rfl (by decide +kernel) ⟨Nat.le_of_ble_eq_true rfl, Nat.le_of_ble_eq_true rfl⟩), ht _ (.tail _ gw_8_75), ht _ (.tail _ gp_32)⟩) h0 hout (by decide +kernel)) <|
    zall_c (zs_iadd X (pc := 184) (by decide +kernel)) <|
    zall_c (zs_bipush X (pc := 185) (by decide) (by decide +kernel) (by decide +kernel)) <|
    zall_c (zs_isub X (pc := 187) (by decide +kernel)) <|
    zall_c (zs_mmin X (pc := 188) (.tail _ gw_8_81) (.tail _ gw_3_110) (.tail _ gw_1_27) (.tail _ gw_3_111) (Nat.le_of_ble_eq_true rfl) (Nat.le_of_ble_eq_true rfl) (by decide +kernel)) <|
    zall_c (zs_puti X (pc := 191) (ty := Jvm.ClassFile.FieldType.int) zc_X9 (by decide) (zin ui_X9) tyX9_ok nmX9 (.tail _ gw_7_226) rfl (by decide +kernel) (by decide +kernel) (by decide +kernel) zP_int) <|
    zall_c (zs_aload_n X (pc := 194) (q := 0) rfl (by decide +kernel)) <|
    zall_c (zs_dup X (pc := 195) (by decide +kernel)) <|
    zall_c (zs_geti X (pc := 196) zc_X9 (by decide) (zin ui_X9) (.tail _ gw_7_223) (by decide +kernel) (by decide +kernel)) <|
    zall_c (zs_iconst X (pc := 199) (by decide) (by decide +kernel)) <|
    zall_c (zs_iadd X (pc := 200) (by decide +kernel)) <|
    zall_c (zs_puti X (pc := 201) (ty := Jvm.ClassFile.FieldType.int) zc_X9 (by decide) (zin ui_X9) tyX9_ok nmX9 (.tail _ gw_7_223) rfl (by decide +kernel) (by decide +kernel) (by decide +kernel) zP_int) <|
    zall_c (zs_goto X (pc := 204) (off := (-60)) (by decide +kernel) (by decide)) <|
    zall_c (zs_aload_n X (pc := 207) (q := 0) rfl (by decide +kernel)) <|
    zall_c (zs_iconst X (pc := 208) (by decide) (by decide +kernel)) <|
    zall_c (zs_puti X (pc := 209) (ty := Jvm.ClassFile.FieldType.int) zc_X9 (by decide) (zin ui_X9) tyX9_ok nmX9 (.tail _ gw_7_225) rfl (by decide +kernel) (by decide +kernel) (by decide +kernel) zP_int) <|
    zall_c (zs_goto X (pc := 212) (off := 23) (by decide +kernel) (by decide)) <|
    zall_c (zs_aload_n X (pc := 215) (q := 0) rfl (by decide +kernel)) <|
    zall_c (zs_iconst X (pc := 216) (by decide) (by decide +kernel)) <|
    zall_c (zs_puti X (pc := 217) (ty := Jvm.ClassFile.FieldType.int) zc_X9 (by decide) (zin ui_X9) tyX9_ok nmX9 (.tail _ gw_7_225) rfl (by decide +kernel) (by decide +kernel) (by decide +kernel) zP_int) <|
    zall_c (zs_aload_n X (pc := 220) (q := 0) rfl (by decide +kernel)) <|
    zall_c (zs_iload_n X (pc := 221) (q := 1) rfl (by decide +kernel)) <|
    zall_c (zs_puti X (pc := 222) (ty := Jvm.ClassFile.FieldType.int) zc_X9 (by decide) (zin ui_X9) tyX9_ok nmX9 (.tail _ gw_7_226) rfl (by decide +kernel) (by decide +kernel) (by decide +kernel) zP_int) <|
    zall_c (zs_aload_n X (pc := 225) (q := 0) rfl (by decide +kernel)) <|
    zall_c (zs_dup X (pc := 226) (by decide +kernel)) <|
    zall_c (zs_geti X (pc := 227) zc_X9 (by decide) (zin ui_X9) (.tail _ gw_7_223) (by decide +kernel) (by decide +kernel)) <|
    zall_c (zs_iconst X (pc := 230) (by decide) (by decide +kernel)) <|
    zall_c (zs_iadd X (pc := 231) (by decide +kernel)) <|
    zall_c (zs_puti X (pc := 232) (ty := Jvm.ClassFile.FieldType.int) zc_X9 (by decide) (zin ui_X9) tyX9_ok nmX9 (.tail _ gw_7_223) rfl (by decide +kernel) (by decide +kernel) (by decide +kernel) zP_int) <|
    zall_c (zs_vret X (pc := 235) rfl (by decide +kernel)) <|
    zall_n
theorem met_X9_scan {l : Launch} (hl : l.stackTraces = false) {T0 : ZTf} {T1 : ZTf} (h0 : zMet l yX9_byteAt (Cond.code yX9_byteAt cX9_byteAt 2 (Option.some Jvm.ClassFile.FieldType.int) :: zG) rm_X9_byteAt 0 0 T0) (h1 : zMet l yX9_in (Cond.code yX9_in cX9_in 6 (Option.some Jvm.ClassFile.FieldType.boolean) :: zG) rm_X9_in 0 0 T1) {T : ZTf} (bd : zBd (cd_X9_scan T0 T1) 2 0 0 T) : zMet l yX9_scan (Cond.code yX9_scan cX9_scan 2 (Option.none : Option Jvm.ClassFile.FieldType) :: zG) rm_X9_scan 0 0 T := zMet_of hl (by decide +kernel) rfl rfl rfl rfl (hs_X9_scan hl h0 h1) bd

abbrev rm_X9_goOn : Room := { frames := 3, cells := 0, slots := 0, locals := 76 }
def cd_X9_goOn (T0 : ZTf) (T1 : ZTf) : List (Nat × ZTr) := [(0, tAld 0 1), (1, tCall0 1 T0 (zRcv 12) 4), (4, tIf_eq 11 7), (7, tAld 0 8), (8, tCall0 1 T1 (zRcv 12) 11), (11, tRv)]
set_option maxRecDepth 100000 in
set_option maxHeartbeats 4000000 in
theorem hs_X9_goOn {l : Launch} (hl : l.stackTraces = false) {T0 : ZTf} {T1 : ZTf} (h0 : zMet l yX9_good (Cond.code yX9_good cX9_good 1 (Option.some Jvm.ClassFile.FieldType.boolean) :: zG) rm_X9_good 0 0 T0) (h1 : zMet l yX9_scan (Cond.code yX9_scan cX9_scan 2 (Option.none : Option Jvm.ClassFile.FieldType) :: zG) rm_X9_scan 0 0 T1) (p : Program) (e : Env) (s : State) (m : MethodId) (args : Array Value) (below : List Frame) (meth : Method) (c : Code) (D : va_G) (A : Nat → Prop) (a0 : Nat → Nat) (M0 : ZM) (K : ZRet) (KX : ZEx) (X : zCtx p l rm_X9_goOn s m args meth c cX9_goOn RX9 (Cond.code yX9_goOn cX9_goOn 1 (Option.none : Option Jvm.ClassFile.FieldType) :: zG) 1 (Option.none : Option Jvm.ClassFile.FieldType) D A a0 M0 0 0) (hnm : meth.name = yX9_goOn.name) (hout : ∀ x ∈ c.exceptionTable.toList, False) : ∀ q ∈ cd_X9_goOn T0 T1, zSd p l e rm_X9_goOn s m args below meth c 1 D A a0 M0 K KX 0 0 q.1 q.2 :=
    zall_c (zs_aload_n X (pc := 0) (q := 0) rfl (by decide +kernel)) <|
    zall_c (zs_callV0 X (pc := 1) zc_X9 (fun _ ht => ⟨(zCB ht gw_8_94 gw_1_13 gw_8_91 rfl rfl (by decide +kernel) ⟨Nat.le_of_ble_eq_true rfl, Nat.le_of_ble_eq_true rfl⟩), ht _ (.tail _ gw_8_93), ht _ (.tail _ gp_35)⟩) h0 hout (by decide +kernel)) <|
    zall_c (zs_if_eq X (pc := 4) (off := 7) (by decide +kernel) (by decide)) <|
    zall_c (zs_aload_n X (pc := 7) (q := 0) rfl (by decide +kernel)) <|
    zall_c (zs_callV0 X (pc := 8) zc_X9 (fun _ ht => ⟨(zCB ht gw_8_72 gw_1_13 gw_8_69 rfl rfl (by decide +kernel) ⟨Nat.le_of_ble_eq_true rfl, Nat.le_of_ble_eq_true rfl⟩), ht _ (.tail _ gw_8_71), ht _ (.tail _ gp_31)⟩) h1 hout (by decide +kernel)) <|
    zall_c (zs_vret X (pc := 11) rfl (by decide +kernel)) <|
    zall_n
theorem met_X9_goOn {l : Launch} (hl : l.stackTraces = false) {T0 : ZTf} {T1 : ZTf} (h0 : zMet l yX9_good (Cond.code yX9_good cX9_good 1 (Option.some Jvm.ClassFile.FieldType.boolean) :: zG) rm_X9_good 0 0 T0) (h1 : zMet l yX9_scan (Cond.code yX9_scan cX9_scan 2 (Option.none : Option Jvm.ClassFile.FieldType) :: zG) rm_X9_scan 0 0 T1) {T : ZTf} (bd : zBd (cd_X9_goOn T0 T1) 1 0 0 T) : zMet l yX9_goOn (Cond.code yX9_goOn cX9_goOn 1 (Option.none : Option Jvm.ClassFile.FieldType) :: zG) rm_X9_goOn 0 0 T := zMet_of hl (by decide +kernel) rfl rfl rfl rfl (hs_X9_goOn hl h0 h1) bd

abbrev rm_X9_looks : Room := { frames := 3, cells := 0, slots := 0, locals := 71 }
def cd_X9_looks (T0 : ZTf) (T1 : ZTf) (T2 : ZTf) : List (Nat × ZTr) := [(0, tAld 0 1), (1, tCall0 1 T0 (zRcv 12) 4), (4, tIf_eq 20 7), (7, tAld 0 8), (8, tGetI 12 10 11), (11, tC (zi 2) 12), (12, tIc_eq 20 15), (15, tAld 0 16), (16, tC (zi 1) 17), (17, tCall0 2 T1 (zRcv 12) 20), (20, tAld 0 21), (21, tCall0 1 T0 (zRcv 12) 24), (24, tIf_eq 47 27), (27, tAld 0 28), (28, tGetI 12 11 31), (31, tI2l 32), (32, tIld 1 33), (33, tI2l 34), (34, tIld 2 35), (35, tI2l 36), (36, tCall0 3 T2 zAny 39), (39, tIf_ne 47 42), (42, tAld 0 43), (43, tC (zi 2) 44), (44, tCall0 2 T1 (zRcv 12) 47), (47, tRv)]
set_option maxRecDepth 100000 in
set_option maxHeartbeats 4000000 in
theorem hs_X9_looks {l : Launch} (hl : l.stackTraces = false) {T0 : ZTf} {T1 : ZTf} {T2 : ZTf} (h0 : zMet l yX9_good (Cond.code yX9_good cX9_good 1 (Option.some Jvm.ClassFile.FieldType.boolean) :: zG) rm_X9_good 0 0 T0) (h1 : zMet l yX9_errs (Cond.code yX9_errs cX9_errs 2 (Option.none : Option Jvm.ClassFile.FieldType) :: zG) rm_X9_errs 0 0 T1) (h2 : zMet l yX9_in (Cond.code yX9_in cX9_in 6 (Option.some Jvm.ClassFile.FieldType.boolean) :: zG) rm_X9_in 0 0 T2) (p : Program) (e : Env) (s : State) (m : MethodId) (args : Array Value) (below : List Frame) (meth : Method) (c : Code) (D : va_G) (A : Nat → Prop) (a0 : Nat → Nat) (M0 : ZM) (K : ZRet) (KX : ZEx) (X : zCtx p l rm_X9_looks s m args meth c cX9_looks RX9 (Cond.code yX9_looks cX9_looks 3 (Option.none : Option Jvm.ClassFile.FieldType) :: zG) 3 (Option.none : Option Jvm.ClassFile.FieldType) D A a0 M0 0 0) (hnm : meth.name = yX9_looks.name) (hout : ∀ x ∈ c.exceptionTable.toList, False) : ∀ q ∈ cd_X9_looks T0 T1 T2, zSd p l e rm_X9_looks s m args below meth c 3 D A a0 M0 K KX 0 0 q.1 q.2 :=
    zall_c (zs_aload_n X (pc := 0) (q := 0) rfl (by decide +kernel)) <|
    zall_c (zs_callV0 X (pc := 1) zc_X9 (fun _ ht => ⟨(zCB ht gw_8_94 gw_1_13 gw_8_91 rfl rfl (by decide +kernel) ⟨Nat.le_of_ble_eq_true rfl, Nat.le_of_ble_eq_true rfl⟩), ht _ (.tail _ gw_8_93), ht _ (.tail _ gp_35)⟩) h0 hout (by decide +kernel)) <|
    zall_c (zs_if_eq X (pc := 4) (off := 16) (by decide +kernel) (by decide)) <|
    zall_c (zs_aload_n X (pc := 7) (q := 0) rfl (by decide +kernel)) <|
    zall_c (zs_geti X (pc := 8) zc_X9 (by decide) (zin ui_X9) (.tail _ gw_7_225) (by decide +kernel) (by decide +kernel)) <|
    zall_c (zs_iconst X (pc := 11) (by decide) (by decide +kernel)) <|
    zall_c (zs_icmp_eq X (pc := 12) (off := 8) (by decide +kernel) (by decide)) <|
    zall_c (zs_aload_n X (pc := 15) (q := 0) rfl (by decide +kernel)) <|
    zall_c (zs_iconst X (pc := 16) (by decide) (by decide +kernel)) <|
    zall_c (zs_callV0 X (pc := 17) zc_X9 (fun _ ht => ⟨(zCB ht gw_8_100 gw_1_13 gw_8_97 rfl rfl (by decide +kernel) ⟨Nat.le_of_ble_eq_true rfl, Nat.le_of_ble_eq_true rfl⟩), ht _ (.tail _ gw_8_99), ht _ (.tail _ gp_36)⟩) h1 hout (by decide +kernel)) <|
    zall_c (zs_aload_n X (pc := 20) (q := 0) rfl (by decide +kernel)) <|
    zall_c (zs_callV0 X (pc := 21) zc_X9 (fun _ ht => ⟨(zCB ht gw_8_94 gw_1_13 gw_8_91 rfl rfl (by decide +kernel) ⟨Nat.le_of_ble_eq_true rfl, Nat.le_of_ble_eq_true rfl⟩), ht _ (.tail _ gw_8_93), ht _ (.tail _ gp_35)⟩) h0 hout (by decide +kernel)) <|
    zall_c (zs_if_eq X (pc := 24) (off := 23) (by decide +kernel) (by decide)) <|
    zall_c (zs_aload_n X (pc := 27) (q := 0) rfl (by decide +kernel)) <|
    zall_c (zs_geti X (pc := 28) zc_X9 (by decide) (zin ui_X9) (.tail _ gw_7_226) (by decide +kernel) (by decide +kernel)) <|
    zall_c (zs_i2l X (pc := 31) (by decide +kernel)) <|
    zall_c (zs_iload_n X (pc := 32) (q := 1) rfl (by decide +kernel)) <|
    zall_c (zs_i2l X (pc := 33) (by decide +kernel)) <|
    zall_c (zs_iload_n X (pc := 34) (q := 2) rfl (by decide +kernel)) <|
    zall_c (zs_i2l X (pc := 35) (by decide +kernel)) <|
    zall_c (zs_callS0 X (pc := 36) (fun _ ht => ⟨(zCB ht gw_8_64 gw_1_13 gw_8_62 rfl rfl (by decide +kernel) ⟨Nat.le_of_ble_eq_true rfl, Nat.le_of_ble_eq_true rfl⟩), ht _ (.tail _ gw_8_63)⟩) h2 hout (by decide +kernel)) <|
    zall_c (zs_if_ne X (pc := 39) (off := 8) (by decide +kernel) (by decide)) <|
    zall_c (zs_aload_n X (pc := 42) (q := 0) rfl (by decide +kernel)) <|
    zall_c (zs_iconst X (pc := 43) (by decide) (by decide +kernel)) <|
    zall_c (zs_callV0 X (pc := 44) zc_X9 (fun _ ht => ⟨(zCB ht gw_8_100 gw_1_13 gw_8_97 rfl rfl (by decide +kernel) ⟨Nat.le_of_ble_eq_true rfl, Nat.le_of_ble_eq_true rfl⟩), ht _ (.tail _ gw_8_99), ht _ (.tail _ gp_36)⟩) h1 hout (by decide +kernel)) <|
    zall_c (zs_vret X (pc := 47) rfl (by decide +kernel)) <|
    zall_n
theorem met_X9_looks {l : Launch} (hl : l.stackTraces = false) {T0 : ZTf} {T1 : ZTf} {T2 : ZTf} (h0 : zMet l yX9_good (Cond.code yX9_good cX9_good 1 (Option.some Jvm.ClassFile.FieldType.boolean) :: zG) rm_X9_good 0 0 T0) (h1 : zMet l yX9_errs (Cond.code yX9_errs cX9_errs 2 (Option.none : Option Jvm.ClassFile.FieldType) :: zG) rm_X9_errs 0 0 T1) (h2 : zMet l yX9_in (Cond.code yX9_in cX9_in 6 (Option.some Jvm.ClassFile.FieldType.boolean) :: zG) rm_X9_in 0 0 T2) {T : ZTf} (bd : zBd (cd_X9_looks T0 T1 T2) 3 0 0 T) : zMet l yX9_looks (Cond.code yX9_looks cX9_looks 3 (Option.none : Option Jvm.ClassFile.FieldType) :: zG) rm_X9_looks 0 0 T := zMet_of hl (by decide +kernel) rfl rfl rfl rfl (hs_X9_looks hl h0 h1 h2) bd

abbrev rm_X9_number : Room := { frames := 4, cells := 0, slots := 0, locals := 96 }
def cd_X9_number (T0 : ZTf) (T1 : ZTf) (T2 : ZTf) : List (Nat × ZTr) := [(0, tAld 0 1), (1, tIld 1 2), (2, tIld 2 3), (3, tCall0 3 T0 (zRcv 12) 6), (6, tAld 0 7), (7, tCall0 1 T1 (zRcv 12) 10), (10, tIf_eq 20 13), (13, tAld 0 14), (14, tGetI 12 11 17), (17, tGo 21), (20, tIld 1 21), (21, tIst 3 22), (22, tAld 0 23), (23, tCall0 1 T2 (zRcv 12) 26), (26, tIld 3 27), (27, tRi (fun _ => True))]
set_option maxRecDepth 100000 in
set_option maxHeartbeats 4000000 in
theorem hs_X9_number {l : Launch} (hl : l.stackTraces = false) {T0 : ZTf} {T1 : ZTf} {T2 : ZTf} (h0 : zMet l yX9_looks (Cond.code yX9_looks cX9_looks 3 (Option.none : Option Jvm.ClassFile.FieldType) :: zG) rm_X9_looks 0 0 T0) (h1 : zMet l yX9_good (Cond.code yX9_good cX9_good 1 (Option.some Jvm.ClassFile.FieldType.boolean) :: zG) rm_X9_good 0 0 T1) (h2 : zMet l yX9_goOn (Cond.code yX9_goOn cX9_goOn 1 (Option.none : Option Jvm.ClassFile.FieldType) :: zG) rm_X9_goOn 0 0 T2) (p : Program) (e : Env) (s : State) (m : MethodId) (args : Array Value) (below : List Frame) (meth : Method) (c : Code) (D : va_G) (A : Nat → Prop) (a0 : Nat → Nat) (M0 : ZM) (K : ZRet) (KX : ZEx) (X : zCtx p l rm_X9_number s m args meth c cX9_number RX9 (Cond.code yX9_number cX9_number 4 (Option.some Jvm.ClassFile.FieldType.int) :: zG) 4 (Option.some Jvm.ClassFile.FieldType.int) D A a0 M0 0 0) (hnm : meth.name = yX9_number.name) (hout : ∀ x ∈ c.exceptionTable.toList, False) : ∀ q ∈ cd_X9_number T0 T1 T2, zSd p l e rm_X9_number s m args below meth c 4 D A a0 M0 K KX 0 0 q.1 q.2 :=
    zall_c (zs_aload_n X (pc := 0) (q := 0) rfl (by decide +kernel)) <|
    zall_c (zs_iload_n X (pc := 1) (q := 1) rfl (by decide +kernel)) <|
    zall_c (zs_iload_n X (pc := 2) (q := 2) rfl (by decide +kernel)) <|
    zall_c (zs_callV0 X (pc := 3) zc_X9 (fun _ ht => ⟨(zCB ht gw_8_117 gw_1_13 gw_8_114 rfl rfl (by decide +kernel) ⟨Nat.le_of_ble_eq_true rfl, Nat.le_of_ble_eq_true rfl⟩), ht _ (.tail _ gw_8_116), ht _ (.tail _ gp_40)⟩) h0 hout (by decide +kernel)) <|
    zall_c (zs_aload_n X (pc := 6) (q := 0) rfl (by decide +kernel)) <|
    zall_c (zs_callV0 X (pc := 7) zc_X9 (fun _ ht => ⟨(zCB ht gw_8_94 gw_1_13 gw_8_91 rfl rfl (by decide +kernel) ⟨Nat.le_of_ble_eq_true rfl, Nat.le_of_ble_eq_true rfl⟩), ht _ (.tail _ gw_8_93), ht _ (.tail _ gp_35)⟩) h1 hout (by decide +kernel)) <|
    zall_c (zs_if_eq X (pc := 10) (off := 10) (by decide +kernel) (by decide)) <|
    zall_c (zs_aload_n X (pc := 13) (q := 0) rfl (by decide +kernel)) <|
    zall_c (zs_geti X (pc := 14) zc_X9 (by decide) (zin ui_X9) (.tail _ gw_7_226) (by decide +kernel) (by decide +kernel)) <|
    zall_c (zs_goto X (pc := 17) (off := 4) (by decide +kernel) (by decide)) <|
    zall_c (zs_iload_n X (pc := 20) (q := 1) rfl (by decide +kernel)) <|
    zall_c (zs_istore_n X (pc := 21) (q := 3) rfl (by decide) (by decide +kernel)) <|
    zall_c (zs_aload_n X (pc := 22) (q := 0) rfl (by decide +kernel)) <|
    zall_c (zs_callV0 X (pc := 23) zc_X9 (fun _ ht => ⟨(zCB ht gw_8_104 gw_1_13 gw_8_101 rfl rfl (by decide +kernel) ⟨Nat.le_of_ble_eq_true rfl, Nat.le_of_ble_eq_true rfl⟩), ht _ (.tail _ gw_8_103), ht _ (.tail _ gp_37)⟩) h2 hout (by decide +kernel)) <|
    zall_c (zs_iload_n X (pc := 26) (q := 3) rfl (by decide +kernel)) <|
    zall_c (zs_iret X (pc := 27) rfl (by decide +kernel)) <|
    zall_n
theorem met_X9_number {l : Launch} (hl : l.stackTraces = false) {T0 : ZTf} {T1 : ZTf} {T2 : ZTf} (h0 : zMet l yX9_looks (Cond.code yX9_looks cX9_looks 3 (Option.none : Option Jvm.ClassFile.FieldType) :: zG) rm_X9_looks 0 0 T0) (h1 : zMet l yX9_good (Cond.code yX9_good cX9_good 1 (Option.some Jvm.ClassFile.FieldType.boolean) :: zG) rm_X9_good 0 0 T1) (h2 : zMet l yX9_goOn (Cond.code yX9_goOn cX9_goOn 1 (Option.none : Option Jvm.ClassFile.FieldType) :: zG) rm_X9_goOn 0 0 T2) {T : ZTf} (bd : zBd (cd_X9_number T0 T1 T2) 4 0 0 T) : zMet l yX9_number (Cond.code yX9_number cX9_number 4 (Option.some Jvm.ClassFile.FieldType.int) :: zG) rm_X9_number 0 0 T := zMet_of hl (by decide +kernel) rfl rfl rfl rfl (hs_X9_number hl h0 h1 h2) bd

abbrev rm_X9_semicolon : Room := { frames := 4, cells := 0, slots := 0, locals := 96 }
def cd_X9_semicolon (T0 : ZTf) (T1 : ZTf) (T2 : ZTf) : List (Nat × ZTr) := [(0, tAld 0 1), (1, tCall0 1 T0 (zRcv 12) 4), (4, tIf_eq 29 7), (7, tAld 0 8), (8, tGetI 12 10 11), (11, tC (zi 3) 12), (12, tIc_ne 24 15), (15, tAld 0 16), (16, tGetI 12 11 19), (19, tC (zi 59) 21), (21, tIc_eq 29 24), (24, tAld 0 25), (25, tC (zi 1) 26), (26, tCall0 2 T1 (zRcv 12) 29), (29, tAld 0 30), (30, tCall0 1 T2 (zRcv 12) 33), (33, tRv)]
set_option maxRecDepth 100000 in
set_option maxHeartbeats 4000000 in
theorem hs_X9_semicolon {l : Launch} (hl : l.stackTraces = false) {T0 : ZTf} {T1 : ZTf} {T2 : ZTf} (h0 : zMet l yX9_good (Cond.code yX9_good cX9_good 1 (Option.some Jvm.ClassFile.FieldType.boolean) :: zG) rm_X9_good 0 0 T0) (h1 : zMet l yX9_errs (Cond.code yX9_errs cX9_errs 2 (Option.none : Option Jvm.ClassFile.FieldType) :: zG) rm_X9_errs 0 0 T1) (h2 : zMet l yX9_goOn (Cond.code yX9_goOn cX9_goOn 1 (Option.none : Option Jvm.ClassFile.FieldType) :: zG) rm_X9_goOn 0 0 T2) (p : Program) (e : Env) (s : State) (m : MethodId) (args : Array Value) (below : List Frame) (meth : Method) (c : Code) (D : va_G) (A : Nat → Prop) (a0 : Nat → Nat) (M0 : ZM) (K : ZRet) (KX : ZEx) (X : zCtx p l rm_X9_semicolon s m args meth c cX9_semicolon RX9 (Cond.code yX9_semicolon cX9_semicolon 1 (Option.none : Option Jvm.ClassFile.FieldType) :: zG) 1 (Option.none : Option Jvm.ClassFile.FieldType) D A a0 M0 0 0) (hnm : meth.name = yX9_semicolon.name) (hout : ∀ x ∈ c.exceptionTable.toList, False) : ∀ q ∈ cd_X9_semicolon T0 T1 T2, zSd p l e rm_X9_semicolon s m args below meth c 1 D A a0 M0 K KX 0 0 q.1 q.2 :=
    zall_c (zs_aload_n X (pc := 0) (q := 0) rfl (by decide +kernel)) <|
    zall_c (zs_callV0 X (pc := 1) zc_X9 (fun _ ht => ⟨(zCB ht gw_8_94 gw_1_13 gw_8_91 rfl rfl (by decide +kernel) ⟨Nat.le_of_ble_eq_true rfl, Nat.le_of_ble_eq_true rfl⟩), ht _ (.tail _ gw_8_93), ht _ (.tail _ gp_35)⟩) h0 hout (by decide +kernel)) <|
    zall_c (zs_if_eq X (pc := 4) (off := 25) (by decide +kernel) (by decide)) <|
    zall_c (zs_aload_n X (pc := 7) (q := 0) rfl (by decide +kernel)) <|
    zall_c (zs_geti X (pc := 8) zc_X9 (by decide) (zin ui_X9) (.tail _ gw_7_225) (by decide +kernel) (by decide +kernel)) <|
    zall_c (zs_iconst X (pc := 11) (by decide) (by decide +kernel)) <|
    zall_c (zs_icmp_ne X (pc := 12) (off := 12) (by decide +kernel) (by decide)) <|
    zall_c (zs_aload_n X (pc := 15) (q := 0) rfl (by decide +kernel)) <|
    zall_c (zs_geti X (pc := 16) zc_X9 (by decide) (zin ui_X9) (.tail _ gw_7_226) (by decide +kernel) (by decide +kernel)) <|
    zall_c (zs_bipush X (pc := 19) (by decide) (by decide +kernel) (by decide +kernel)) <|
    zall_c (zs_icmp_eq X (pc := 21) (off := 8) (by decide +kernel) (by decide)) <|
    zall_c (zs_aload_n X (pc := 24) (q := 0) rfl (by decide +kernel)) <|
    zall_c (zs_iconst X (pc := 25) (by decide) (by decide +kernel)) <|
    zall_c (zs_callV0 X (pc := 26) zc_X9 (fun _ ht => ⟨(zCB ht gw_8_100 gw_1_13 gw_8_97 rfl rfl (by decide +kernel) ⟨Nat.le_of_ble_eq_true rfl, Nat.le_of_ble_eq_true rfl⟩), ht _ (.tail _ gw_8_99), ht _ (.tail _ gp_36)⟩) h1 hout (by decide +kernel)) <|
    zall_c (zs_aload_n X (pc := 29) (q := 0) rfl (by decide +kernel)) <|
    zall_c (zs_callV0 X (pc := 30) zc_X9 (fun _ ht => ⟨(zCB ht gw_8_104 gw_1_13 gw_8_101 rfl rfl (by decide +kernel) ⟨Nat.le_of_ble_eq_true rfl, Nat.le_of_ble_eq_true rfl⟩), ht _ (.tail _ gw_8_103), ht _ (.tail _ gp_37)⟩) h2 hout (by decide +kernel)) <|
    zall_c (zs_vret X (pc := 33) rfl (by decide +kernel)) <|
    zall_n
theorem met_X9_semicolon {l : Launch} (hl : l.stackTraces = false) {T0 : ZTf} {T1 : ZTf} {T2 : ZTf} (h0 : zMet l yX9_good (Cond.code yX9_good cX9_good 1 (Option.some Jvm.ClassFile.FieldType.boolean) :: zG) rm_X9_good 0 0 T0) (h1 : zMet l yX9_errs (Cond.code yX9_errs cX9_errs 2 (Option.none : Option Jvm.ClassFile.FieldType) :: zG) rm_X9_errs 0 0 T1) (h2 : zMet l yX9_goOn (Cond.code yX9_goOn cX9_goOn 1 (Option.none : Option Jvm.ClassFile.FieldType) :: zG) rm_X9_goOn 0 0 T2) {T : ZTf} (bd : zBd (cd_X9_semicolon T0 T1 T2) 1 0 0 T) : zMet l yX9_semicolon (Cond.code yX9_semicolon cX9_semicolon 1 (Option.none : Option Jvm.ClassFile.FieldType) :: zG) rm_X9_semicolon 0 0 T := zMet_of hl (by decide +kernel) rfl rfl rfl rfl (hs_X9_semicolon hl h0 h1 h2) bd

abbrev rm_X9_nameOf : Room := { frames := 1, cells := 0, slots := 0, locals := 30 }
def cd_X9_nameOf : List (Nat × ZTr) := [(0, tC (zi 0) 1), (1, tIst 3 2), (2, tIld 1 3), (3, tIst 4 5), (5, tIld 4 7), (7, tIld 2 8), (8, tIc_ge 30 11), (11, tC (zi 27) 13), (13, tIld 3 14), (14, tMul 15), (15, tAld 0 16), (16, tIld 4 18), (18, tIal 21 19), (19, tAdd 20), (20, tC (zi 96) 22), (22, tSub 23), (23, tIst 3 24), (24, tInc 4 1 27), (27, tGo 5), (30, tIld 3 31), (31, tRi (fun _ => True))]
set_option maxRecDepth 100000 in
set_option maxHeartbeats 4000000 in
theorem hs_X9_nameOf {l : Launch} (hl : l.stackTraces = false) (p : Program) (e : Env) (s : State) (m : MethodId) (args : Array Value) (below : List Frame) (meth : Method) (c : Code) (D : va_G) (A : Nat → Prop) (a0 : Nat → Nat) (M0 : ZM) (K : ZRet) (KX : ZEx) (X : zCtx p l rm_X9_nameOf s m args meth c cX9_nameOf RX9 (Cond.code yX9_nameOf cX9_nameOf 5 (Option.some Jvm.ClassFile.FieldType.int) :: zG) 5 (Option.some Jvm.ClassFile.FieldType.int) D A a0 M0 0 0) (hnm : meth.name = yX9_nameOf.name) (hout : ∀ x ∈ c.exceptionTable.toList, False) : ∀ q ∈ cd_X9_nameOf, zSd p l e rm_X9_nameOf s m args below meth c 5 D A a0 M0 K KX 0 0 q.1 q.2 :=
    zall_c (zs_iconst X (pc := 0) (by decide) (by decide +kernel)) <|
    zall_c (zs_istore_n X (pc := 1) (q := 3) rfl (by decide) (by decide +kernel)) <|
    zall_c (zs_iload_n X (pc := 2) (q := 1) rfl (by decide +kernel)) <|
    zall_c (zs_istore X (pc := 3) (by decide) (by decide +kernel)) <|
    zall_c (zs_iload X (pc := 5) (by decide +kernel)) <|
    zall_c (zs_iload_n X (pc := 7) (q := 2) rfl (by decide +kernel)) <|
    zall_c (zs_icmp_ge X (pc := 8) (off := 22) (by decide +kernel) (by decide)) <|
    zall_c (zs_bipush X (pc := 11) (by decide) (by decide +kernel) (by decide +kernel)) <|
    zall_c (zs_iload_n X (pc := 13) (q := 3) rfl (by decide +kernel)) <|
    zall_c (zs_imul X (pc := 14) (by decide +kernel)) <|
    zall_c (zs_aload_n X (pc := 15) (q := 0) rfl (by decide +kernel)) <|
    zall_c (zs_iload X (pc := 16) (by decide +kernel)) <|
    zall_c (zs_baload21 X (pc := 18) (by decide +kernel)) <|
    zall_c (zs_iadd X (pc := 19) (by decide +kernel)) <|
    zall_c (zs_bipush X (pc := 20) (by decide) (by decide +kernel) (by decide +kernel)) <|
    zall_c (zs_isub X (pc := 22) (by decide +kernel)) <|
    zall_c (zs_istore_n X (pc := 23) (q := 3) rfl (by decide) (by decide +kernel)) <|
    zall_c (zs_iinc X (pc := 24) (by decide) (by decide +kernel)) <|
    zall_c (zs_goto X (pc := 27) (off := (-22)) (by decide +kernel) (by decide)) <|
    zall_c (zs_iload_n X (pc := 30) (q := 3) rfl (by decide +kernel)) <|
    zall_c (zs_iret X (pc := 31) rfl (by decide +kernel)) <|
    zall_n
theorem met_X9_nameOf {l : Launch} (hl : l.stackTraces = false) {T : ZTf} (bd : zBd (cd_X9_nameOf) 5 0 0 T) : zMet l yX9_nameOf (Cond.code yX9_nameOf cX9_nameOf 5 (Option.some Jvm.ClassFile.FieldType.int) :: zG) rm_X9_nameOf 0 0 T := zMet_of hl (by decide +kernel) rfl rfl rfl rfl (hs_X9_nameOf hl) bd

abbrev rm_X9_withName : Room := { frames := 2, cells := 0, slots := 0, locals := 52 }
def cd_X9_withName (T0 : ZTf) (T1 : ZTf) : List (Nat × ZTr) := [(0, tC (zi 0) 1), (1, tIst 2 2), (2, tIld 2 3), (3, tAld 0 4), (4, tCall0 1 T0 (zRcv 12) 7), (7, tIc_ge 28 10), (10, tAld 0 11), (11, tIld 2 12), (12, tC (zi 0) 13), (13, tCall0 3 T1 (zRcv 12) 16), (16, tIld 1 17), (17, tIc_ne 22 20), (20, tIld 2 21), (21, tRi (fun _ => True)), (22, tInc 2 1 25), (25, tGo 2), (28, tC (zi (-1)) 29), (29, tRi (fun _ => True))]
set_option maxRecDepth 100000 in
set_option maxHeartbeats 4000000 in
theorem hs_X9_withName {l : Launch} (hl : l.stackTraces = false) {T0 : ZTf} {T1 : ZTf} (h0 : zMet l yX9_workers (Cond.code yX9_workers cX9_workers 1 (Option.some Jvm.ClassFile.FieldType.int) :: zG) rm_X9_workers 0 0 T0) (h1 : zMet l yX9_ofWorker (Cond.code yX9_ofWorker cX9_ofWorker 3 (Option.some Jvm.ClassFile.FieldType.int) :: zG) rm_X9_ofWorker 0 0 T1) (p : Program) (e : Env) (s : State) (m : MethodId) (args : Array Value) (below : List Frame) (meth : Method) (c : Code) (D : va_G) (A : Nat → Prop) (a0 : Nat → Nat) (M0 : ZM) (K : ZRet) (KX : ZEx) (X : zCtx p l rm_X9_withName s m args meth c cX9_withName RX9 (Cond.code yX9_withName cX9_withName 3 (Option.some Jvm.ClassFile.FieldType.int) :: zG) 3 (Option.some Jvm.ClassFile.FieldType.int) D A a0 M0 0 0) (hnm : meth.name = yX9_withName.name) (hout : ∀ x ∈ c.exceptionTable.toList, False) : ∀ q ∈ cd_X9_withName T0 T1, zSd p l e rm_X9_withName s m args below meth c 3 D A a0 M0 K KX 0 0 q.1 q.2 :=
    zall_c (zs_iconst X (pc := 0) (by decide) (by decide +kernel)) <|
    zall_c (zs_istore_n X (pc := 1) (q := 2) rfl (by decide) (by decide +kernel)) <|
    zall_c (zs_iload_n X (pc := 2) (q := 2) rfl (by decide +kernel)) <|
    zall_c (zs_aload_n X (pc := 3) (q := 0) rfl (by decide +kernel)) <|
    zall_c (zs_callV0 X (pc := 4) zc_X9 (fun _ ht => ⟨(zCB ht gw_8_136 gw_1_13 gw_8_133 rfl rfl (by decide +kernel) ⟨Nat.le_of_ble_eq_true rfl, Nat.le_of_ble_eq_true rfl⟩), ht _ (.tail _ gw_8_135), ht _ (.tail _ gp_44)⟩) h0 hout (by decide +kernel)) <|
    zall_c (zs_icmp_ge X (pc := 7) (off := 21) (by decide +kernel) (by decide)) <|
    zall_c (zs_aload_n X (pc := 10) (q := 0) rfl (by decide +kernel)) <|
    zall_c (zs_iload_n X (pc := 11) (q := 2) rfl (by decide +kernel)) <|
    zall_c (zs_iconst X (pc := 12) (by decide) (by decide +kernel)) <|
    zall_c (zs_callV0 X (pc := 13) zc_X9 (fun _ ht => ⟨(zCB ht gw_8_161 gw_1_13 gw_8_158 rfl rfl (by decide +kernel) ⟨Nat.le_of_ble_eq_true rfl, Nat.le_of_ble_eq_true rfl⟩), ht _ (.tail _ gw_8_160), ht _ (.tail _ gp_48)⟩) h1 hout (by decide +kernel)) <|
    zall_c (zs_iload_n X (pc := 16) (q := 1) rfl (by decide +kernel)) <|
    zall_c (zs_icmp_ne X (pc := 17) (off := 5) (by decide +kernel) (by decide)) <|
    zall_c (zs_iload_n X (pc := 20) (q := 2) rfl (by decide +kernel)) <|
    zall_c (zs_iret X (pc := 21) rfl (by decide +kernel)) <|
    zall_c (zs_iinc X (pc := 22) (by decide) (by decide +kernel)) <|
    zall_c (zs_goto X (pc := 25) (off := (-23)) (by decide +kernel) (by decide)) <|
    zall_c (zs_iconst X (pc := 28) (by decide) (by decide +kernel)) <|
    zall_c (zs_iret X (pc := 29) rfl (by decide +kernel)) <|
    zall_n
theorem met_X9_withName {l : Launch} (hl : l.stackTraces = false) {T0 : ZTf} {T1 : ZTf} (h0 : zMet l yX9_workers (Cond.code yX9_workers cX9_workers 1 (Option.some Jvm.ClassFile.FieldType.int) :: zG) rm_X9_workers 0 0 T0) (h1 : zMet l yX9_ofWorker (Cond.code yX9_ofWorker cX9_ofWorker 3 (Option.some Jvm.ClassFile.FieldType.int) :: zG) rm_X9_ofWorker 0 0 T1) {T : ZTf} (bd : zBd (cd_X9_withName T0 T1) 3 0 0 T) : zMet l yX9_withName (Cond.code yX9_withName cX9_withName 3 (Option.some Jvm.ClassFile.FieldType.int) :: zG) rm_X9_withName 0 0 T := zMet_of hl (by decide +kernel) rfl rfl rfl rfl (hs_X9_withName hl h0 h1) bd

abbrev rm_X9_moreRows : Room := { frames := 2, cells := 0, slots := 0, locals := 53 }
def cd_X9_moreRows (T0 : ZTf) (T1 : ZTf) : List (Nat × ZTr) := [(0, tC (zi 0) 1), (1, tIst 3 2), (2, tIld 3 3), (3, tIld 1 4), (4, tIc_ge 78 7), (7, tAld 0 8), (8, tCall0 1 T0 (zRcv 12) 11), (11, tIst 4 13), (13, tAld 0 14), (14, tGetR 12 3 17), (17, tC (zi 5) 18), (18, tDup2 19), (19, tIal 20 20), (20, tC (zi 1) 21), (21, tAdd 22), (22, tIas 20 (fun _ => True) 23), (23, tC (zi 0) 24), (24, tIst 5 26), (26, tIld 5 28), (28, tC (zi 16) 30), (30, tIc_ge 48 33), (33, tAld 0 34), (34, tIld 4 36), (36, tIld 5 38), (38, tC (zi 0) 39), (39, tCall0 4 T1 (zRcv 12) 42), (42, tInc 5 1 45), (45, tGo 26), (48, tAld 0 49), (49, tIld 4 51), (51, tC (zi 0) 52), (52, tIld 2 53), (53, tCall0 4 T1 (zRcv 12) 56), (56, tAld 0 57), (57, tIld 4 59), (59, tC (zi 2) 60), (60, tC (zi (-1)) 61), (61, tCall0 4 T1 (zRcv 12) 64), (64, tAld 0 65), (65, tIld 4 67), (67, tC (zi 3) 68), (68, tC (zi (-1)) 69), (69, tCall0 4 T1 (zRcv 12) 72), (72, tInc 3 1 75), (75, tGo 2), (78, tRv)]
set_option maxRecDepth 100000 in
set_option maxHeartbeats 4000000 in
theorem hs_X9_moreRows {l : Launch} (hl : l.stackTraces = false) {T0 : ZTf} {T1 : ZTf} (h0 : zMet l yX9_rows (Cond.code yX9_rows cX9_rows 1 (Option.some Jvm.ClassFile.FieldType.int) :: zG) rm_X9_rows 0 0 T0) (h1 : zMet l yX9_put (Cond.code yX9_put cX9_put 4 (Option.none : Option Jvm.ClassFile.FieldType) :: zG) rm_X9_put 0 0 T1) (p : Program) (e : Env) (s : State) (m : MethodId) (args : Array Value) (below : List Frame) (meth : Method) (c : Code) (D : va_G) (A : Nat → Prop) (a0 : Nat → Nat) (M0 : ZM) (K : ZRet) (KX : ZEx) (X : zCtx p l rm_X9_moreRows s m args meth c cX9_moreRows RX9 (Cond.code yX9_moreRows cX9_moreRows 6 (Option.none : Option Jvm.ClassFile.FieldType) :: zG) 6 (Option.none : Option Jvm.ClassFile.FieldType) D A a0 M0 0 0) (hnm : meth.name = yX9_moreRows.name) (hout : ∀ x ∈ c.exceptionTable.toList, False) : ∀ q ∈ cd_X9_moreRows T0 T1, zSd p l e rm_X9_moreRows s m args below meth c 6 D A a0 M0 K KX 0 0 q.1 q.2 :=
    zall_c (zs_iconst X (pc := 0) (by decide) (by decide +kernel)) <|
    zall_c (zs_istore_n X (pc := 1) (q := 3) rfl (by decide) (by decide +kernel)) <|
    zall_c (zs_iload_n X (pc := 2) (q := 3) rfl (by decide +kernel)) <|
    zall_c (zs_iload_n X (pc := 3) (q := 1) rfl (by decide +kernel)) <|
    zall_c (zs_icmp_ge X (pc := 4) (off := 74) (by decide +kernel) (by decide)) <|
    zall_c (zs_aload_n X (pc := 7) (q := 0) rfl (by decide +kernel)) <|
    zall_c (zs_callV0 X (pc := 8) zc_X9 (fun _ ht => ⟨(zCB ht gw_8_173 gw_1_13 gw_8_170 rfl rfl (by decide +kernel) ⟨Nat.le_of_ble_eq_true rfl, Nat.le_of_ble_eq_true rfl⟩), ht _ (.tail _ gw_8_172), ht _ (.tail _ gp_51)⟩) h0 hout (by decide +kernel)) <|
    zall_c (zs_istore X (pc := 11) (by decide) (by decide +kernel)) <|
    zall_c (zs_aload_n X (pc := 13) (q := 0) rfl (by decide +kernel)) <|
    zall_c (zs_getr X (pc := 14) zc_X9 (by decide) (zin ui_X9) (.tail _ gw_7_218) (by decide +kernel) (by decide +kernel)) <|
    zall_c (zs_iconst X (pc := 17) (by decide) (by decide +kernel)) <|
    zall_c (zs_dup2 X (pc := 18) (by decide +kernel)) <|
    zall_c (zs_iaload20 X (pc := 19) (by decide +kernel)) <|
    zall_c (zs_iconst X (pc := 20) (by decide) (by decide +kernel)) <|
    zall_c (zs_iadd X (pc := 21) (by decide +kernel)) <|
    zall_c (zs_iastore20 X (pc := 22) (by decide +kernel)) <|
    zall_c (zs_iconst X (pc := 23) (by decide) (by decide +kernel)) <|
    zall_c (zs_istore X (pc := 24) (by decide) (by decide +kernel)) <|
    zall_c (zs_iload X (pc := 26) (by decide +kernel)) <|
    zall_c (zs_bipush X (pc := 28) (by decide) (by decide +kernel) (by decide +kernel)) <|
    zall_c (zs_icmp_ge X (pc := 30) (off := 18) (by decide +kernel) (by decide)) <|
    zall_c (zs_aload_n X (pc := 33) (q := 0) rfl (by decide +kernel)) <|
    zall_c (zs_iload X (pc := 34) (by decide +kernel)) <|
    zall_c (zs_iload X (pc := 36) (by decide +kernel)) <|
    zall_c (zs_iconst X (pc := 38) (by decide) (by decide +kernel)) <|
    zall_c (zs_callV0 X (pc := 39) zc_X9 (fun _ ht => ⟨(zCB ht gw_8_181 gw_1_13 gw_8_178 rfl rfl (by decide +kernel) ⟨Nat.le_of_ble_eq_true rfl, Nat.le_of_ble_eq_true rfl⟩), ht _ (.tail _ gw_8_180), ht _ (.tail _ gp_53)⟩) h1 hout (by decide +kernel)) <|
    zall_c (zs_iinc X (pc := 42) (by decide) (by decide +kernel)) <|
    zall_c (zs_goto X (pc := 45) (off := (-19)) (by decide +kernel) (by decide)) <|
    zall_c (zs_aload_n X (pc := 48) (q := 0) rfl (by decide +kernel)) <|
    zall_c (zs_iload X (pc := 49) (by decide +kernel)) <|
    zall_c (zs_iconst X (pc := 51) (by decide) (by decide +kernel)) <|
    zall_c (zs_iload_n X (pc := 52) (q := 2) rfl (by decide +kernel)) <|
    zall_c (zs_callV0 X (pc := 53) zc_X9 (fun _ ht => ⟨(zCB ht gw_8_181 gw_1_13 gw_8_178 rfl rfl (by decide +kernel) ⟨Nat.le_of_ble_eq_true rfl, Nat.le_of_ble_eq_true rfl⟩), ht _ (.tail _ gw_8_180), ht _ (.tail _ gp_53)⟩) h1 hout (by decide +kernel)) <|
    zall_c (zs_aload_n X (pc := 56) (q := 0) rfl (by decide +kernel)) <|
    zall_c (zs_iload X (pc := 57) (by decide +kernel)) <|
    zall_c (zs_iconst X (pc := 59) (by decide) (by decide +kernel)) <|
    zall_c (zs_iconst X (pc := 60) (by decide) (by decide +kernel)) <|
    zall_c (zs_callV0 X (pc := 61) zc_X9 (fun _ ht => ⟨(zCB ht gw_8_181 gw_1_13 gw_8_178 rfl rfl (by decide +kernel) ⟨Nat.le_of_ble_eq_true rfl, Nat.le_of_ble_eq_true rfl⟩), ht _ (.tail _ gw_8_180), ht _ (.tail _ gp_53)⟩) h1 hout (by decide +kernel)) <|
    zall_c (zs_aload_n X (pc := 64) (q := 0) rfl (by decide +kernel)) <|
    zall_c (zs_iload X (pc := 65) (by decide +kernel)) <|
    zall_c (zs_iconst X (pc := 67) (by decide) (by decide +kernel)) <|
    zall_c (zs_iconst X (pc := 68) (by decide) (by decide +kernel)) <|
    zall_c (zs_callV0 X (pc := 69) zc_X9 (fun _ ht => ⟨(zCB ht gw_8_181 gw_1_13 gw_8_178 rfl rfl (by decide +kernel) ⟨Nat.le_of_ble_eq_true rfl, Nat.le_of_ble_eq_true rfl⟩), ht _ (.tail _ gw_8_180), ht _ (.tail _ gp_53)⟩) h1 hout (by decide +kernel)) <|
    zall_c (zs_iinc X (pc := 72) (by decide) (by decide +kernel)) <|
    zall_c (zs_goto X (pc := 75) (off := (-73)) (by decide +kernel) (by decide)) <|
    zall_c (zs_vret X (pc := 78) rfl (by decide +kernel)) <|
    zall_n
theorem met_X9_moreRows {l : Launch} (hl : l.stackTraces = false) {T0 : ZTf} {T1 : ZTf} (h0 : zMet l yX9_rows (Cond.code yX9_rows cX9_rows 1 (Option.some Jvm.ClassFile.FieldType.int) :: zG) rm_X9_rows 0 0 T0) (h1 : zMet l yX9_put (Cond.code yX9_put cX9_put 4 (Option.none : Option Jvm.ClassFile.FieldType) :: zG) rm_X9_put 0 0 T1) {T : ZTf} (bd : zBd (cd_X9_moreRows T0 T1) 6 0 0 T) : zMet l yX9_moreRows (Cond.code yX9_moreRows cX9_moreRows 6 (Option.none : Option Jvm.ClassFile.FieldType) :: zG) rm_X9_moreRows 0 0 T := zMet_of hl (by decide +kernel) rfl rfl rfl rfl (hs_X9_moreRows hl h0 h1) bd

abbrev rm_X9_errorCode : Room := { frames := 1, cells := 0, slots := 0, locals := 30 }
def cd_X9_errorCode : List (Nat × ZTr) := [(0, tAld 0 1), (1, tC (zi 0) 2), (2, tPutI 12 0 (fun _ => True) 5), (5, tAld 0 6), (6, tGetI 12 12 9), (9, tRi (fun _ => True))]
set_option maxRecDepth 100000 in
set_option maxHeartbeats 4000000 in
theorem hs_X9_errorCode {l : Launch} (hl : l.stackTraces = false) (p : Program) (e : Env) (s : State) (m : MethodId) (args : Array Value) (below : List Frame) (meth : Method) (c : Code) (D : va_G) (A : Nat → Prop) (a0 : Nat → Nat) (M0 : ZM) (K : ZRet) (KX : ZEx) (X : zCtx p l rm_X9_errorCode s m args meth c cX9_errorCode RX9 (Cond.code yX9_errorCode cX9_errorCode 1 (Option.some Jvm.ClassFile.FieldType.int) :: zG) 1 (Option.some Jvm.ClassFile.FieldType.int) D A a0 M0 0 0) (hnm : meth.name = yX9_errorCode.name) (hout : ∀ x ∈ c.exceptionTable.toList, False) : ∀ q ∈ cd_X9_errorCode, zSd p l e rm_X9_errorCode s m args below meth c 1 D A a0 M0 K KX 0 0 q.1 q.2 :=
    zall_c (zs_aload_n X (pc := 0) (q := 0) rfl (by decide +kernel)) <|
    zall_c (zs_iconst X (pc := 1) (by decide) (by decide +kernel)) <|
    zall_c (zs_puti X (pc := 2) (ty := Jvm.ClassFile.FieldType.int) zc_X9 (by decide) (zin ui_X9) tyX9_ok nmX9 (.tail _ gw_7_215) rfl (by decide +kernel) (by decide +kernel) (by decide +kernel) zP_int) <|
    zall_c (zs_aload_n X (pc := 5) (q := 0) rfl (by decide +kernel)) <|
    zall_c (zs_geti X (pc := 6) zc_X9 (by decide) (zin ui_X9) (.tail _ gw_7_227) (by decide +kernel) (by decide +kernel)) <|
    zall_c (zs_iret X (pc := 9) rfl (by decide +kernel)) <|
    zall_n
theorem met_X9_errorCode {l : Launch} (hl : l.stackTraces = false) {T : ZTf} (bd : zBd (cd_X9_errorCode) 1 0 0 T) : zMet l yX9_errorCode (Cond.code yX9_errorCode cX9_errorCode 1 (Option.some Jvm.ClassFile.FieldType.int) :: zG) rm_X9_errorCode 0 0 T := zMet_of hl (by decide +kernel) rfl rfl rfl rfl (hs_X9_errorCode hl) bd

abbrev rm_X9_errorPosition : Room := { frames := 1, cells := 0, slots := 0, locals := 30 }
def cd_X9_errorPosition : List (Nat × ZTr) := [(0, tAld 0 1), (1, tC (zi 0) 2), (2, tPutI 12 0 (fun _ => True) 5), (5, tAld 0 6), (6, tGetI 12 13 9), (9, tRi (fun _ => True))]
set_option maxRecDepth 100000 in
set_option maxHeartbeats 4000000 in
theorem hs_X9_errorPosition {l : Launch} (hl : l.stackTraces = false) (p : Program) (e : Env) (s : State) (m : MethodId) (args : Array Value) (below : List Frame) (meth : Method) (c : Code) (D : va_G) (A : Nat → Prop) (a0 : Nat → Nat) (M0 : ZM) (K : ZRet) (KX : ZEx) (X : zCtx p l rm_X9_errorPosition s m args meth c cX9_errorPosition RX9 (Cond.code yX9_errorPosition cX9_errorPosition 1 (Option.some Jvm.ClassFile.FieldType.int) :: zG) 1 (Option.some Jvm.ClassFile.FieldType.int) D A a0 M0 0 0) (hnm : meth.name = yX9_errorPosition.name) (hout : ∀ x ∈ c.exceptionTable.toList, False) : ∀ q ∈ cd_X9_errorPosition, zSd p l e rm_X9_errorPosition s m args below meth c 1 D A a0 M0 K KX 0 0 q.1 q.2 :=
    zall_c (zs_aload_n X (pc := 0) (q := 0) rfl (by decide +kernel)) <|
    zall_c (zs_iconst X (pc := 1) (by decide) (by decide +kernel)) <|
    zall_c (zs_puti X (pc := 2) (ty := Jvm.ClassFile.FieldType.int) zc_X9 (by decide) (zin ui_X9) tyX9_ok nmX9 (.tail _ gw_7_215) rfl (by decide +kernel) (by decide +kernel) (by decide +kernel) zP_int) <|
    zall_c (zs_aload_n X (pc := 5) (q := 0) rfl (by decide +kernel)) <|
    zall_c (zs_geti X (pc := 6) zc_X9 (by decide) (zin ui_X9) (.tail _ gw_7_228) (by decide +kernel) (by decide +kernel)) <|
    zall_c (zs_iret X (pc := 9) rfl (by decide +kernel)) <|
    zall_n
theorem met_X9_errorPosition {l : Launch} (hl : l.stackTraces = false) {T : ZTf} (bd : zBd (cd_X9_errorPosition) 1 0 0 T) : zMet l yX9_errorPosition (Cond.code yX9_errorPosition cX9_errorPosition 1 (Option.some Jvm.ClassFile.FieldType.int) :: zG) rm_X9_errorPosition 0 0 T := zMet_of hl (by decide +kernel) rfl rfl rfl rfl (hs_X9_errorPosition hl) bd

abbrev rm_X9_find : Room := { frames := 3, cells := 0, slots := 0, locals := 74 }
def cd_X9_find (T0 : ZTf) (T1 : ZTf) (T2 : ZTf) : List (Nat × ZTr) := [(0, tAld 0 1), (1, tC (zi 0) 2), (2, tPutI 12 0 (fun _ => True) 5), (5, tAld 0 6), (6, tGetI 12 6 9), (9, tI2l 10), (10, tC (zl 1) 11), (11, tC (zl 6) 14), (14, tCall0 3 T0 zAny 17), (17, tIst 1 18), (18, tC (zi 0) 19), (19, tIst 2 20), (20, tIld 2 21), (21, tAld 0 22), (22, tGetI 12 6 25), (25, tIc_ge 55 28), (28, tIld 1 29), (29, tIf_eq 55 32), (32, tAld 0 33), (33, tGetR 12 5 36), (36, tIld 2 37), (37, tIal 21 38), (38, tI2l 39), (39, tC (zl 97) 42), (42, tC (zl 122) 45), (45, tCall0 3 T0 zAny 48), (48, tIst 1 49), (49, tInc 2 1 52), (52, tGo 20), (55, tIld 1 56), (56, tIf_eq 74 59), (59, tAld 0 60), (60, tGetR 12 5 63), (63, tC (zi 0) 64), (64, tAld 0 65), (65, tGetI 12 6 68), (68, tCall0 3 T1 zAny 71), (71, tGo 75), (74, tC (zi (-1)) 75), (75, tIst 2 76), (76, tAld 0 77), (77, tC (zi 0) 78), (78, tPutI 12 6 (fun _ => True) 81), (81, tIld 1 82), (82, tIf_eq 93 85), (85, tAld 0 86), (86, tIld 2 87), (87, tCall0 2 T2 (zRcv 12) 90), (90, tGo 94), (93, tC (zi (-1)) 94), (94, tRi (fun _ => True))]
set_option maxRecDepth 100000 in
set_option maxHeartbeats 4000000 in
theorem hs_X9_find {l : Launch} (hl : l.stackTraces = false) {T0 : ZTf} {T1 : ZTf} {T2 : ZTf} (h0 : zMet l yX9_in (Cond.code yX9_in cX9_in 6 (Option.some Jvm.ClassFile.FieldType.boolean) :: zG) rm_X9_in 0 0 T0) (h1 : zMet l yX9_nameOf (Cond.code yX9_nameOf cX9_nameOf 5 (Option.some Jvm.ClassFile.FieldType.int) :: zG) rm_X9_nameOf 0 0 T1) (h2 : zMet l yX9_withName (Cond.code yX9_withName cX9_withName 3 (Option.some Jvm.ClassFile.FieldType.int) :: zG) rm_X9_withName 0 0 T2) (p : Program) (e : Env) (s : State) (m : MethodId) (args : Array Value) (below : List Frame) (meth : Method) (c : Code) (D : va_G) (A : Nat → Prop) (a0 : Nat → Nat) (M0 : ZM) (K : ZRet) (KX : ZEx) (X : zCtx p l rm_X9_find s m args meth c cX9_find RX9 (Cond.code yX9_find cX9_find 3 (Option.some Jvm.ClassFile.FieldType.int) :: zG) 3 (Option.some Jvm.ClassFile.FieldType.int) D A a0 M0 0 0) (hnm : meth.name = yX9_find.name) (hout : ∀ x ∈ c.exceptionTable.toList, False) : ∀ q ∈ cd_X9_find T0 T1 T2, zSd p l e rm_X9_find s m args below meth c 3 D A a0 M0 K KX 0 0 q.1 q.2 :=
    zall_c (zs_aload_n X (pc := 0) (q := 0) rfl (by decide +kernel)) <|
    zall_c (zs_iconst X (pc := 1) (by decide) (by decide +kernel)) <|
    zall_c (zs_puti X (pc := 2) (ty := Jvm.ClassFile.FieldType.int) zc_X9 (by decide) (zin ui_X9) tyX9_ok nmX9 (.tail _ gw_7_215) rfl (by decide +kernel) (by decide +kernel) (by decide +kernel) zP_int) <|
    zall_c (zs_aload_n X (pc := 5) (q := 0) rfl (by decide +kernel)) <|
    zall_c (zs_geti X (pc := 6) zc_X9 (by decide) (zin ui_X9) (.tail _ gw_7_221) (by decide +kernel) (by decide +kernel)) <|
    zall_c (zs_i2l X (pc := 9) (by decide +kernel)) <|
    zall_c (zs_lconst X (pc := 10) (q := 1) (by decide) (by decide +kernel) rfl) <|
    zall_c (zs_ldc2 X (pc := 11) (i := 321) (by decide) (by decide +kernel) (.tail _ gw_8_218)) <|
    zall_c (zs_callS0 X (pc := 14) (fun _ ht => ⟨(zCB ht gw_8_64 gw_1_13 gw_8_62 rfl rfl (by decide +kernel) ⟨Nat.le_of_ble_eq_true rfl, Nat.le_of_ble_eq_true rfl⟩), ht _ (.tail _ gw_8_63)⟩) h0 hout (by decide +kernel)) <|
    zall_c (zs_istore_n X (pc := 17) (q := 1) rfl (by decide) (by decide +kernel)) <|
    zall_c (zs_iconst X (pc := 18) (by decide) (by decide +kernel)) <|
    zall_c (zs_istore_n X (pc := 19) (q := 2) rfl (by decide) (by decide +kernel)) <|
    zall_c (zs_iload_n X (pc := 20) (q := 2) rfl (by decide +kernel)) <|
    zall_c (zs_aload_n X (pc := 21) (q := 0) rfl (by decide +kernel)) <|
    zall_c (zs_geti X (pc := 22) zc_X9 (by decide) (zin ui_X9) (.tail _ gw_7_221) (by decide +kernel) (by decide +kernel)) <|
    zall_c (zs_icmp_ge X (pc := 25) (off := 30) (by decide +kernel) (by decide)) <|
    zall_c (zs_iload_n X (pc := 28) (q := 1) rfl (by decide +kernel)) <|
    zall_c (zs_if_eq X (pc := 29) (off := 26) (by decide +kernel) (by decide)) <|
    zall_c (zs_aload_n X (pc := 32) (q := 0) rfl (by decide +kernel)) <|
    zall_c (zs_getr X (pc := 33) zc_X9 (by decide) (zin ui_X9) (.tail _ gw_7_220) (by decide +kernel) (by decide +kernel)) <|
    zall_c (zs_iload_n X (pc := 36) (q := 2) rfl (by decide +kernel)) <|
    zall_c (zs_baload21 X (pc := 37) (by decide +kernel)) <|
    zall_c (zs_i2l X (pc := 38) (by decide +kernel)) <|
    zall_c (zs_ldc2 X (pc := 39) (i := 214) (by decide) (by decide +kernel) (.tail _ gw_8_77)) <|
    zall_c (zs_ldc2 X (pc := 42) (i := 216) (by decide) (by decide +kernel) (.tail _ gw_8_78)) <|
    zall_c (zs_callS0 X (pc := 45) (fun _ ht => ⟨(zCB ht gw_8_64 gw_1_13 gw_8_62 rfl rfl (by decide +kernel) ⟨Nat.le_of_ble_eq_true rfl, Nat.le_of_ble_eq_true rfl⟩), ht _ (.tail _ gw_8_63)⟩) h0 hout (by decide +kernel)) <|
    zall_c (zs_istore_n X (pc := 48) (q := 1) rfl (by decide) (by decide +kernel)) <|
    zall_c (zs_iinc X (pc := 49) (by decide) (by decide +kernel)) <|
    zall_c (zs_goto X (pc := 52) (off := (-32)) (by decide +kernel) (by decide)) <|
    zall_c (zs_iload_n X (pc := 55) (q := 1) rfl (by decide +kernel)) <|
    zall_c (zs_if_eq X (pc := 56) (off := 18) (by decide +kernel) (by decide)) <|
    zall_c (zs_aload_n X (pc := 59) (q := 0) rfl (by decide +kernel)) <|
    zall_c (zs_getr X (pc := 60) zc_X9 (by decide) (zin ui_X9) (.tail _ gw_7_220) (by decide +kernel) (by decide +kernel)) <|
    zall_c (zs_iconst X (pc := 63) (by decide) (by decide +kernel)) <|
    zall_c (zs_aload_n X (pc := 64) (q := 0) rfl (by decide +kernel)) <|
    zall_c (zs_geti X (pc := 65) zc_X9 (by decide) (zin ui_X9) (.tail _ gw_7_221) (by decide +kernel) (by decide +kernel)) <|
    zall_c (zs_callS0 X (pc := 68) (fun _ ht => ⟨(zCB ht gw_8_153 gw_1_13 gw_8_151 rfl rfl (by decide +kernel) ⟨Nat.le_of_ble_eq_true rfl, Nat.le_of_ble_eq_true rfl⟩), ht _ (.tail _ gw_8_152)⟩) h1 hout (by decide +kernel)) <|
    zall_c (zs_goto X (pc := 71) (off := 4) (by decide +kernel) (by decide)) <|
    zall_c (zs_iconst X (pc := 74) (by decide) (by decide +kernel)) <|
    zall_c (zs_istore_n X (pc := 75) (q := 2) rfl (by decide) (by decide +kernel)) <|
    zall_c (zs_aload_n X (pc := 76) (q := 0) rfl (by decide +kernel)) <|
    zall_c (zs_iconst X (pc := 77) (by decide) (by decide +kernel)) <|
    zall_c (zs_puti X (pc := 78) (ty := Jvm.ClassFile.FieldType.int) zc_X9 (by decide) (zin ui_X9) tyX9_ok nmX9 (.tail _ gw_7_221) rfl (by decide +kernel) (by decide +kernel) (by decide +kernel) zP_int) <|
    zall_c (zs_iload_n X (pc := 81) (q := 1) rfl (by decide +kernel)) <|
    zall_c (zs_if_eq X (pc := 82) (off := 11) (by decide +kernel) (by decide)) <|
    zall_c (zs_aload_n X (pc := 85) (q := 0) rfl (by decide +kernel)) <|
    zall_c (zs_iload_n X (pc := 86) (q := 2) rfl (by decide +kernel)) <|
    zall_c (zs_callV0 X (pc := 87) zc_X9 (fun _ ht => ⟨(zCB ht gw_8_157 gw_1_13 gw_8_154 rfl rfl (by decide +kernel) ⟨Nat.le_of_ble_eq_true rfl, Nat.le_of_ble_eq_true rfl⟩), ht _ (.tail _ gw_8_156), ht _ (.tail _ gp_47)⟩) h2 hout (by decide +kernel)) <|
    zall_c (zs_goto X (pc := 90) (off := 4) (by decide +kernel) (by decide)) <|
    zall_c (zs_iconst X (pc := 93) (by decide) (by decide +kernel)) <|
    zall_c (zs_iret X (pc := 94) rfl (by decide +kernel)) <|
    zall_n
theorem met_X9_find {l : Launch} (hl : l.stackTraces = false) {T0 : ZTf} {T1 : ZTf} {T2 : ZTf} (h0 : zMet l yX9_in (Cond.code yX9_in cX9_in 6 (Option.some Jvm.ClassFile.FieldType.boolean) :: zG) rm_X9_in 0 0 T0) (h1 : zMet l yX9_nameOf (Cond.code yX9_nameOf cX9_nameOf 5 (Option.some Jvm.ClassFile.FieldType.int) :: zG) rm_X9_nameOf 0 0 T1) (h2 : zMet l yX9_withName (Cond.code yX9_withName cX9_withName 3 (Option.some Jvm.ClassFile.FieldType.int) :: zG) rm_X9_withName 0 0 T2) {T : ZTf} (bd : zBd (cd_X9_find T0 T1 T2) 3 0 0 T) : zMet l yX9_find (Cond.code yX9_find cX9_find 3 (Option.some Jvm.ClassFile.FieldType.int) :: zG) rm_X9_find 0 0 T := zMet_of hl (by decide +kernel) rfl rfl rfl rfl (hs_X9_find hl h0 h1 h2) bd

abbrev rm_X9_manyIn : Room := { frames := 2, cells := 0, slots := 0, locals := 52 }
def cd_X9_manyIn (T0 : ZTf) (T1 : ZTf) : List (Nat × ZTr) := [(0, tC (zi 0) 1), (1, tIst 2 2), (2, tC (zi 0) 3), (3, tIst 3 4), (4, tIld 3 5), (5, tAld 0 6), (6, tCall0 1 T0 (zRcv 12) 9), (9, tIc_ge 36 12), (12, tIld 2 13), (13, tAld 0 14), (14, tIld 3 15), (15, tC (zi 1) 16), (16, tCall0 3 T1 (zRcv 12) 19), (19, tIld 1 20), (20, tIc_ne 27 23), (23, tC (zi 1) 24), (24, tGo 28), (27, tC (zi 0) 28), (28, tAdd 29), (29, tIst 2 30), (30, tInc 3 1 33), (33, tGo 4), (36, tIld 2 37), (37, tRi (fun _ => True))]
set_option maxRecDepth 100000 in
set_option maxHeartbeats 4000000 in
theorem hs_X9_manyIn {l : Launch} (hl : l.stackTraces = false) {T0 : ZTf} {T1 : ZTf} (h0 : zMet l yX9_rows (Cond.code yX9_rows cX9_rows 1 (Option.some Jvm.ClassFile.FieldType.int) :: zG) rm_X9_rows 0 0 T0) (h1 : zMet l yX9_ofRow (Cond.code yX9_ofRow cX9_ofRow 3 (Option.some Jvm.ClassFile.FieldType.int) :: zG) rm_X9_ofRow 0 0 T1) (p : Program) (e : Env) (s : State) (m : MethodId) (args : Array Value) (below : List Frame) (meth : Method) (c : Code) (D : va_G) (A : Nat → Prop) (a0 : Nat → Nat) (M0 : ZM) (K : ZRet) (KX : ZEx) (X : zCtx p l rm_X9_manyIn s m args meth c cX9_manyIn RX9 (Cond.code yX9_manyIn cX9_manyIn 4 (Option.some Jvm.ClassFile.FieldType.int) :: zG) 4 (Option.some Jvm.ClassFile.FieldType.int) D A a0 M0 0 0) (hnm : meth.name = yX9_manyIn.name) (hout : ∀ x ∈ c.exceptionTable.toList, False) : ∀ q ∈ cd_X9_manyIn T0 T1, zSd p l e rm_X9_manyIn s m args below meth c 4 D A a0 M0 K KX 0 0 q.1 q.2 :=
    zall_c (zs_iconst X (pc := 0) (by decide) (by decide +kernel)) <|
    zall_c (zs_istore_n X (pc := 1) (q := 2) rfl (by decide) (by decide +kernel)) <|
    zall_c (zs_iconst X (pc := 2) (by decide) (by decide +kernel)) <|
    zall_c (zs_istore_n X (pc := 3) (q := 3) rfl (by decide) (by decide +kernel)) <|
    zall_c (zs_iload_n X (pc := 4) (q := 3) rfl (by decide +kernel)) <|
    zall_c (zs_aload_n X (pc := 5) (q := 0) rfl (by decide +kernel)) <|
    zall_c (zs_callV0 X (pc := 6) zc_X9 (fun _ ht => ⟨(zCB ht gw_8_173 gw_1_13 gw_8_170 rfl rfl (by decide +kernel) ⟨Nat.le_of_ble_eq_true rfl, Nat.le_of_ble_eq_true rfl⟩), ht _ (.tail _ gw_8_172), ht _ (.tail _ gp_51)⟩) h0 hout (by decide +kernel)) <|
    zall_c (zs_icmp_ge X (pc := 9) (off := 27) (by decide +kernel) (by decide)) <|
    zall_c (zs_iload_n X (pc := 12) (q := 2) rfl (by decide +kernel)) <|
    zall_c (zs_aload_n X (pc := 13) (q := 0) rfl (by decide +kernel)) <|
    zall_c (zs_iload_n X (pc := 14) (q := 3) rfl (by decide +kernel)) <|
    zall_c (zs_iconst X (pc := 15) (by decide) (by decide +kernel)) <|
    zall_c (zs_callV0 X (pc := 16) zc_X9 (fun _ ht => ⟨(zCB ht gw_8_239 gw_1_13 gw_8_236 rfl rfl (by decide +kernel) ⟨Nat.le_of_ble_eq_true rfl, Nat.le_of_ble_eq_true rfl⟩), ht _ (.tail _ gw_8_238), ht _ (.tail _ gp_63)⟩) h1 hout (by decide +kernel)) <|
    zall_c (zs_iload_n X (pc := 19) (q := 1) rfl (by decide +kernel)) <|
    zall_c (zs_icmp_ne X (pc := 20) (off := 7) (by decide +kernel) (by decide)) <|
    zall_c (zs_iconst X (pc := 23) (by decide) (by decide +kernel)) <|
    zall_c (zs_goto X (pc := 24) (off := 4) (by decide +kernel) (by decide)) <|
    zall_c (zs_iconst X (pc := 27) (by decide) (by decide +kernel)) <|
    zall_c (zs_iadd X (pc := 28) (by decide +kernel)) <|
    zall_c (zs_istore_n X (pc := 29) (q := 2) rfl (by decide) (by decide +kernel)) <|
    zall_c (zs_iinc X (pc := 30) (by decide) (by decide +kernel)) <|
    zall_c (zs_goto X (pc := 33) (off := (-29)) (by decide +kernel) (by decide)) <|
    zall_c (zs_iload_n X (pc := 36) (q := 2) rfl (by decide +kernel)) <|
    zall_c (zs_iret X (pc := 37) rfl (by decide +kernel)) <|
    zall_n
theorem met_X9_manyIn {l : Launch} (hl : l.stackTraces = false) {T0 : ZTf} {T1 : ZTf} (h0 : zMet l yX9_rows (Cond.code yX9_rows cX9_rows 1 (Option.some Jvm.ClassFile.FieldType.int) :: zG) rm_X9_rows 0 0 T0) (h1 : zMet l yX9_ofRow (Cond.code yX9_ofRow cX9_ofRow 3 (Option.some Jvm.ClassFile.FieldType.int) :: zG) rm_X9_ofRow 0 0 T1) {T : ZTf} (bd : zBd (cd_X9_manyIn T0 T1) 4 0 0 T) : zMet l yX9_manyIn (Cond.code yX9_manyIn cX9_manyIn 4 (Option.some Jvm.ClassFile.FieldType.int) :: zG) rm_X9_manyIn 0 0 T := zMet_of hl (by decide +kernel) rfl rfl rfl rfl (hs_X9_manyIn hl h0 h1) bd

abbrev rm_X9_isAudited : Room := { frames := 2, cells := 0, slots := 0, locals := 52 }
def cd_X9_isAudited (T0 : ZTf) : List (Nat × ZTr) := [(0, tAld 0 1), (1, tIld 1 2), (2, tC (zi 3) 3), (3, tCall0 3 T0 (zRcv 12) 6), (6, tC (zi (-1)) 7), (7, tIc_eq 14 10), (10, tC (zi 1) 11), (11, tGo 15), (14, tC (zi 0) 15), (15, tRi zPz)]
set_option maxRecDepth 100000 in
set_option maxHeartbeats 4000000 in
theorem hs_X9_isAudited {l : Launch} (hl : l.stackTraces = false) {T0 : ZTf} (h0 : zMet l yX9_ofRow (Cond.code yX9_ofRow cX9_ofRow 3 (Option.some Jvm.ClassFile.FieldType.int) :: zG) rm_X9_ofRow 0 0 T0) (p : Program) (e : Env) (s : State) (m : MethodId) (args : Array Value) (below : List Frame) (meth : Method) (c : Code) (D : va_G) (A : Nat → Prop) (a0 : Nat → Nat) (M0 : ZM) (K : ZRet) (KX : ZEx) (X : zCtx p l rm_X9_isAudited s m args meth c cX9_isAudited RX9 (Cond.code yX9_isAudited cX9_isAudited 2 (Option.some Jvm.ClassFile.FieldType.boolean) :: zG) 2 (Option.some Jvm.ClassFile.FieldType.boolean) D A a0 M0 0 0) (hnm : meth.name = yX9_isAudited.name) (hout : ∀ x ∈ c.exceptionTable.toList, False) : ∀ q ∈ cd_X9_isAudited T0, zSd p l e rm_X9_isAudited s m args below meth c 2 D A a0 M0 K KX 0 0 q.1 q.2 :=
    zall_c (zs_aload_n X (pc := 0) (q := 0) rfl (by decide +kernel)) <|
    zall_c (zs_iload_n X (pc := 1) (q := 1) rfl (by decide +kernel)) <|
    zall_c (zs_iconst X (pc := 2) (by decide) (by decide +kernel)) <|
    zall_c (zs_callV0 X (pc := 3) zc_X9 (fun _ ht => ⟨(zCB ht gw_8_239 gw_1_13 gw_8_236 rfl rfl (by decide +kernel) ⟨Nat.le_of_ble_eq_true rfl, Nat.le_of_ble_eq_true rfl⟩), ht _ (.tail _ gw_8_238), ht _ (.tail _ gp_63)⟩) h0 hout (by decide +kernel)) <|
    zall_c (zs_iconst X (pc := 6) (by decide) (by decide +kernel)) <|
    zall_c (zs_icmp_eq X (pc := 7) (off := 7) (by decide +kernel) (by decide)) <|
    zall_c (zs_iconst X (pc := 10) (by decide) (by decide +kernel)) <|
    zall_c (zs_goto X (pc := 11) (off := 4) (by decide +kernel) (by decide)) <|
    zall_c (zs_iconst X (pc := 14) (by decide) (by decide +kernel)) <|
    zall_c (zs_zret X (pc := 15) rfl zR_bool (by decide +kernel)) <|
    zall_n
theorem met_X9_isAudited {l : Launch} (hl : l.stackTraces = false) {T0 : ZTf} (h0 : zMet l yX9_ofRow (Cond.code yX9_ofRow cX9_ofRow 3 (Option.some Jvm.ClassFile.FieldType.int) :: zG) rm_X9_ofRow 0 0 T0) {T : ZTf} (bd : zBd (cd_X9_isAudited T0) 2 0 0 T) : zMet l yX9_isAudited (Cond.code yX9_isAudited cX9_isAudited 2 (Option.some Jvm.ClassFile.FieldType.boolean) :: zG) rm_X9_isAudited 0 0 T := zMet_of hl (by decide +kernel) rfl rfl rfl rfl (hs_X9_isAudited hl h0) bd

abbrev rm_X9_audited : Room := { frames := 3, cells := 0, slots := 0, locals := 73 }
def cd_X9_audited (T0 : ZTf) (T1 : ZTf) : List (Nat × ZTr) := [(0, tC (zi 0) 1), (1, tIst 1 2), (2, tC (zi 0) 3), (3, tIst 2 4), (4, tIld 2 5), (5, tAld 0 6), (6, tCall0 1 T0 (zRcv 12) 9), (9, tIc_ge 34 12), (12, tIld 1 13), (13, tAld 0 14), (14, tIld 2 15), (15, tCall0 2 T1 (zRcv 12) 18), (18, tIf_eq 25 21), (21, tC (zi 1) 22), (22, tGo 26), (25, tC (zi 0) 26), (26, tAdd 27), (27, tIst 1 28), (28, tInc 2 1 31), (31, tGo 4), (34, tIld 1 35), (35, tRi (fun _ => True))]
set_option maxRecDepth 100000 in
set_option maxHeartbeats 4000000 in
theorem hs_X9_audited {l : Launch} (hl : l.stackTraces = false) {T0 : ZTf} {T1 : ZTf} (h0 : zMet l yX9_rows (Cond.code yX9_rows cX9_rows 1 (Option.some Jvm.ClassFile.FieldType.int) :: zG) rm_X9_rows 0 0 T0) (h1 : zMet l yX9_isAudited (Cond.code yX9_isAudited cX9_isAudited 2 (Option.some Jvm.ClassFile.FieldType.boolean) :: zG) rm_X9_isAudited 0 0 T1) (p : Program) (e : Env) (s : State) (m : MethodId) (args : Array Value) (below : List Frame) (meth : Method) (c : Code) (D : va_G) (A : Nat → Prop) (a0 : Nat → Nat) (M0 : ZM) (K : ZRet) (KX : ZEx) (X : zCtx p l rm_X9_audited s m args meth c cX9_audited RX9 (Cond.code yX9_audited cX9_audited 3 (Option.some Jvm.ClassFile.FieldType.int) :: zG) 3 (Option.some Jvm.ClassFile.FieldType.int) D A a0 M0 0 0) (hnm : meth.name = yX9_audited.name) (hout : ∀ x ∈ c.exceptionTable.toList, False) : ∀ q ∈ cd_X9_audited T0 T1, zSd p l e rm_X9_audited s m args below meth c 3 D A a0 M0 K KX 0 0 q.1 q.2 :=
    zall_c (zs_iconst X (pc := 0) (by decide) (by decide +kernel)) <|
    zall_c (zs_istore_n X (pc := 1) (q := 1) rfl (by decide) (by decide +kernel)) <|
    zall_c (zs_iconst X (pc := 2) (by decide) (by decide +kernel)) <|
    zall_c (zs_istore_n X (pc := 3) (q := 2) rfl (by decide) (by decide +kernel)) <|
    zall_c (zs_iload_n X (pc := 4) (q := 2) rfl (by decide +kernel)) <|
    zall_c (zs_aload_n X (pc := 5) (q := 0) rfl (by decide +kernel)) <|
    zall_c (zs_callV0 X (pc := 6) zc_X9 (fun _ ht => ⟨(zCB ht gw_8_173 gw_1_13 gw_8_170 rfl rfl (by decide +kernel) ⟨Nat.le_of_ble_eq_true rfl, Nat.le_of_ble_eq_true rfl⟩), ht _ (.tail _ gw_8_172), ht _ (.tail _ gp_51)⟩) h0 hout (by decide +kernel)) <|
    zall_c (zs_icmp_ge X (pc := 9) (off := 25) (by decide +kernel) (by decide)) <|
    zall_c (zs_iload_n X (pc := 12) (q := 1) rfl (by decide +kernel)) <|
    zall_c (zs_aload_n X (pc := 13) (q := 0) rfl (by decide +kernel)) <|
    zall_c (zs_iload_n X (pc := 14) (q := 2) rfl (by decide +kernel)) <|
    zall_c (zs_callV0 X (pc := 15) zc_X9 (fun _ ht => ⟨(zCB ht gw_8_235 gw_1_13 gw_8_232 rfl rfl (by decide +kernel) ⟨Nat.le_of_ble_eq_true rfl, Nat.le_of_ble_eq_true rfl⟩), ht _ (.tail _ gw_8_234), ht _ (.tail _ gp_62)⟩) h1 hout (by decide +kernel)) <|
    zall_c (zs_if_eq X (pc := 18) (off := 7) (by decide +kernel) (by decide)) <|
    zall_c (zs_iconst X (pc := 21) (by decide) (by decide +kernel)) <|
    zall_c (zs_goto X (pc := 22) (off := 4) (by decide +kernel) (by decide)) <|
    zall_c (zs_iconst X (pc := 25) (by decide) (by decide +kernel)) <|
    zall_c (zs_iadd X (pc := 26) (by decide +kernel)) <|
    zall_c (zs_istore_n X (pc := 27) (q := 1) rfl (by decide) (by decide +kernel)) <|
    zall_c (zs_iinc X (pc := 28) (by decide) (by decide +kernel)) <|
    zall_c (zs_goto X (pc := 31) (off := (-27)) (by decide +kernel) (by decide)) <|
    zall_c (zs_iload_n X (pc := 34) (q := 1) rfl (by decide +kernel)) <|
    zall_c (zs_iret X (pc := 35) rfl (by decide +kernel)) <|
    zall_n
theorem met_X9_audited {l : Launch} (hl : l.stackTraces = false) {T0 : ZTf} {T1 : ZTf} (h0 : zMet l yX9_rows (Cond.code yX9_rows cX9_rows 1 (Option.some Jvm.ClassFile.FieldType.int) :: zG) rm_X9_rows 0 0 T0) (h1 : zMet l yX9_isAudited (Cond.code yX9_isAudited cX9_isAudited 2 (Option.some Jvm.ClassFile.FieldType.boolean) :: zG) rm_X9_isAudited 0 0 T1) {T : ZTf} (bd : zBd (cd_X9_audited T0 T1) 3 0 0 T) : zMet l yX9_audited (Cond.code yX9_audited cX9_audited 3 (Option.some Jvm.ClassFile.FieldType.int) :: zG) rm_X9_audited 0 0 T := zMet_of hl (by decide +kernel) rfl rfl rfl rfl (hs_X9_audited hl h0 h1) bd

abbrev rm_X9_property : Room := { frames := 4, cells := 0, slots := 0, locals := 95 }
def cd_X9_property (T0 : ZTf) (T1 : ZTf) (T2 : ZTf) (T3 : ZTf) (T4 : ZTf) (T5 : ZTf) (T6 : ZTf) : List (Nat × ZTr) := [(0, tAld 0 1), (1, tIld 1 2), (2, tI2l 3), (3, tC (zl 0) 4), (4, tC (zl 10) 7), (7, tCall0 3 T0 zAny 10), (10, tCall0 2 T1 (zRcv 12) 13), (13, tIf_ne 18 16), (16, tC (zi 0) 17), (17, tRi (fun _ => True)), (18, tIld 1 19), (19, tSw [(0, 76), (1, 81), (2, 86), (3, 93), (4, 93), (5, 93), (6, 106), (7, 106), (8, 106), (9, 106), (10, 101)] 106), (76, tAld 0 77), (77, tCall0 1 T2 (zRcv 12) 80), (80, tRi (fun _ => True)), (81, tAld 0 82), (82, tCall0 1 T3 (zRcv 12) 85), (85, tRi (fun _ => True)), (86, tAld 0 87), (87, tGetR 12 1 90), (90, tC (zi 3) 91), (91, tIal 20 92), (92, tRi (fun _ => True)), (93, tAld 0 94), (94, tIld 1 95), (95, tC (zi 3) 96), (96, tSub 97), (97, tCall0 2 T4 (zRcv 12) 100), (100, tRi (fun _ => True)), (101, tAld 0 102), (102, tCall0 1 T5 (zRcv 12) 105), (105, tRi (fun _ => True)), (106, tAld 0 107), (107, tIld 1 108), (108, tC (zi 6) 110), (110, tSub 111), (111, tCall0 2 T6 (zRcv 12) 114), (114, tRi (fun _ => True))]
set_option maxRecDepth 100000 in
set_option maxHeartbeats 4000000 in
theorem hs_X9_property {l : Launch} (hl : l.stackTraces = false) {T0 : ZTf} {T1 : ZTf} {T2 : ZTf} {T3 : ZTf} {T4 : ZTf} {T5 : ZTf} {T6 : ZTf} (h0 : zMet l yX9_in (Cond.code yX9_in cX9_in 6 (Option.some Jvm.ClassFile.FieldType.boolean) :: zG) rm_X9_in 0 0 T0) (h1 : zMet l yX9_passes (Cond.code yX9_passes cX9_passes 2 (Option.some Jvm.ClassFile.FieldType.boolean) :: zG) rm_X9_passes 0 0 T1) (h2 : zMet l yX9_workers (Cond.code yX9_workers cX9_workers 1 (Option.some Jvm.ClassFile.FieldType.int) :: zG) rm_X9_workers 0 0 T2) (h3 : zMet l yX9_rows (Cond.code yX9_rows cX9_rows 1 (Option.some Jvm.ClassFile.FieldType.int) :: zG) rm_X9_rows 0 0 T3) (h4 : zMet l yX9_table (Cond.code yX9_table cX9_table 2 (Option.some Jvm.ClassFile.FieldType.int) :: zG) rm_X9_table 0 0 T4) (h5 : zMet l yX9_audited (Cond.code yX9_audited cX9_audited 3 (Option.some Jvm.ClassFile.FieldType.int) :: zG) rm_X9_audited 0 0 T5) (h6 : zMet l yX9_manyIn (Cond.code yX9_manyIn cX9_manyIn 4 (Option.some Jvm.ClassFile.FieldType.int) :: zG) rm_X9_manyIn 0 0 T6) (p : Program) (e : Env) (s : State) (m : MethodId) (args : Array Value) (below : List Frame) (meth : Method) (c : Code) (D : va_G) (A : Nat → Prop) (a0 : Nat → Nat) (M0 : ZM) (K : ZRet) (KX : ZEx) (X : zCtx p l rm_X9_property s m args meth c cX9_property RX9 (Cond.code yX9_property cX9_property 2 (Option.some Jvm.ClassFile.FieldType.int) :: zG) 2 (Option.some Jvm.ClassFile.FieldType.int) D A a0 M0 0 0) (hnm : meth.name = yX9_property.name) (hout : ∀ x ∈ c.exceptionTable.toList, False) : ∀ q ∈ cd_X9_property T0 T1 T2 T3 T4 T5 T6, zSd p l e rm_X9_property s m args below meth c 2 D A a0 M0 K KX 0 0 q.1 q.2 :=
    zall_c (zs_aload_n X (pc := 0) (q := 0) rfl (by decide +kernel)) <|
    zall_c (zs_iload_n X (pc := 1) (q := 1) rfl (by decide +kernel)) <|
    zall_c (zs_i2l X (pc := 2) (by decide +kernel)) <|
    zall_c (zs_lconst X (pc := 3) (q := 0) (by decide) (by decide +kernel) rfl) <|
    zall_c (zs_ldc2 X (pc := 4) (i := 326) (by decide) (by decide +kernel) (.tail _ gw_8_223)) <|
    zall_c (zs_callS0 X (pc := 7) (fun _ ht => ⟨(zCB ht gw_8_64 gw_1_13 gw_8_62 rfl rfl (by decide +kernel) ⟨Nat.le_of_ble_eq_true rfl, Nat.le_of_ble_eq_true rfl⟩), ht _ (.tail _ gw_8_63)⟩) h0 hout (by decide +kernel)) <|
    zall_c (zs_callV0 X (pc := 10) zc_X9 (fun _ ht => ⟨(zCB ht gw_8_49 gw_1_13 gw_8_46 rfl rfl (by decide +kernel) ⟨Nat.le_of_ble_eq_true rfl, Nat.le_of_ble_eq_true rfl⟩), ht _ (.tail _ gw_8_48), ht _ (.tail _ gp_28)⟩) h1 hout (by decide +kernel)) <|
    zall_c (zs_if_ne X (pc := 13) (off := 5) (by decide +kernel) (by decide)) <|
    zall_c (zs_iconst X (pc := 16) (by decide) (by decide +kernel)) <|
    zall_c (zs_iret X (pc := 17) rfl (by decide +kernel)) <|
    zall_c (zs_iload_n X (pc := 18) (q := 1) rfl (by decide +kernel)) <|
    zall_c (zs_tablesw X (pc := 19) (df := 87) (lo := 0) (hi := 10) (offs := #[57, 62, 67, 74, 74, 74, 87, 87, 87, 87, 82]) (len := 57) (by decide +kernel) (by decide) (by decide +kernel) (by decide +kernel)) <|
    zall_c (zs_aload_n X (pc := 76) (q := 0) rfl (by decide +kernel)) <|
    zall_c (zs_callV0 X (pc := 77) zc_X9 (fun _ ht => ⟨(zCB ht gw_8_136 gw_1_13 gw_8_133 rfl rfl (by decide +kernel) ⟨Nat.le_of_ble_eq_true rfl, Nat.le_of_ble_eq_true rfl⟩), ht _ (.tail _ gw_8_135), ht _ (.tail _ gp_44)⟩) h2 hout (by decide +kernel)) <|
    zall_c (zs_iret X (pc := 80) rfl (by decide +kernel)) <|
    zall_c (zs_aload_n X (pc := 81) (q := 0) rfl (by decide +kernel)) <|
    zall_c (zs_callV0 X (pc := 82) zc_X9 (fun _ ht => ⟨(zCB ht gw_8_173 gw_1_13 gw_8_170 rfl rfl (by decide +kernel) ⟨Nat.le_of_ble_eq_true rfl, Nat.le_of_ble_eq_true rfl⟩), ht _ (.tail _ gw_8_172), ht _ (.tail _ gp_51)⟩) h3 hout (by decide +kernel)) <|
    zall_c (zs_iret X (pc := 85) rfl (by decide +kernel)) <|
    zall_c (zs_aload_n X (pc := 86) (q := 0) rfl (by decide +kernel)) <|
    zall_c (zs_getr X (pc := 87) zc_X9 (by decide) (zin ui_X9) (.tail _ gw_7_216) (by decide +kernel) (by decide +kernel)) <|
    zall_c (zs_iconst X (pc := 90) (by decide) (by decide +kernel)) <|
    zall_c (zs_iaload20 X (pc := 91) (by decide +kernel)) <|
    zall_c (zs_iret X (pc := 92) rfl (by decide +kernel)) <|
    zall_c (zs_aload_n X (pc := 93) (q := 0) rfl (by decide +kernel)) <|
    zall_c (zs_iload_n X (pc := 94) (q := 1) rfl (by decide +kernel)) <|
    zall_c (zs_iconst X (pc := 95) (by decide) (by decide +kernel)) <|
    zall_c (zs_isub X (pc := 96) (by decide +kernel)) <|
    zall_c (zs_callV0 X (pc := 97) zc_X9 (fun _ ht => ⟨(zCB ht gw_8_227 gw_1_13 gw_8_224 rfl rfl (by decide +kernel) ⟨Nat.le_of_ble_eq_true rfl, Nat.le_of_ble_eq_true rfl⟩), ht _ (.tail _ gw_8_226), ht _ (.tail _ gp_60)⟩) h4 hout (by decide +kernel)) <|
    zall_c (zs_iret X (pc := 100) rfl (by decide +kernel)) <|
    zall_c (zs_aload_n X (pc := 101) (q := 0) rfl (by decide +kernel)) <|
    zall_c (zs_callV0 X (pc := 102) zc_X9 (fun _ ht => ⟨(zCB ht gw_8_231 gw_1_13 gw_8_228 rfl rfl (by decide +kernel) ⟨Nat.le_of_ble_eq_true rfl, Nat.le_of_ble_eq_true rfl⟩), ht _ (.tail _ gw_8_230), ht _ (.tail _ gp_61)⟩) h5 hout (by decide +kernel)) <|
    zall_c (zs_iret X (pc := 105) rfl (by decide +kernel)) <|
    zall_c (zs_aload_n X (pc := 106) (q := 0) rfl (by decide +kernel)) <|
    zall_c (zs_iload_n X (pc := 107) (q := 1) rfl (by decide +kernel)) <|
    zall_c (zs_bipush X (pc := 108) (by decide) (by decide +kernel) (by decide +kernel)) <|
    zall_c (zs_isub X (pc := 110) (by decide +kernel)) <|
    zall_c (zs_callV0 X (pc := 111) zc_X9 (fun _ ht => ⟨(zCB ht gw_9_3 gw_1_13 gw_9_0 rfl rfl (by decide +kernel) ⟨Nat.le_of_ble_eq_true rfl, Nat.le_of_ble_eq_true rfl⟩), ht _ (.tail _ gw_9_2), ht _ (.tail _ gp_64)⟩) h6 hout (by decide +kernel)) <|
    zall_c (zs_iret X (pc := 114) rfl (by decide +kernel)) <|
    zall_n
theorem met_X9_property {l : Launch} (hl : l.stackTraces = false) {T0 : ZTf} {T1 : ZTf} {T2 : ZTf} {T3 : ZTf} {T4 : ZTf} {T5 : ZTf} {T6 : ZTf} (h0 : zMet l yX9_in (Cond.code yX9_in cX9_in 6 (Option.some Jvm.ClassFile.FieldType.boolean) :: zG) rm_X9_in 0 0 T0) (h1 : zMet l yX9_passes (Cond.code yX9_passes cX9_passes 2 (Option.some Jvm.ClassFile.FieldType.boolean) :: zG) rm_X9_passes 0 0 T1) (h2 : zMet l yX9_workers (Cond.code yX9_workers cX9_workers 1 (Option.some Jvm.ClassFile.FieldType.int) :: zG) rm_X9_workers 0 0 T2) (h3 : zMet l yX9_rows (Cond.code yX9_rows cX9_rows 1 (Option.some Jvm.ClassFile.FieldType.int) :: zG) rm_X9_rows 0 0 T3) (h4 : zMet l yX9_table (Cond.code yX9_table cX9_table 2 (Option.some Jvm.ClassFile.FieldType.int) :: zG) rm_X9_table 0 0 T4) (h5 : zMet l yX9_audited (Cond.code yX9_audited cX9_audited 3 (Option.some Jvm.ClassFile.FieldType.int) :: zG) rm_X9_audited 0 0 T5) (h6 : zMet l yX9_manyIn (Cond.code yX9_manyIn cX9_manyIn 4 (Option.some Jvm.ClassFile.FieldType.int) :: zG) rm_X9_manyIn 0 0 T6) {T : ZTf} (bd : zBd (cd_X9_property T0 T1 T2 T3 T4 T5 T6) 2 0 0 T) : zMet l yX9_property (Cond.code yX9_property cX9_property 2 (Option.some Jvm.ClassFile.FieldType.int) :: zG) rm_X9_property 0 0 T := zMet_of hl (by decide +kernel) rfl rfl rfl rfl (hs_X9_property hl h0 h1 h2 h3 h4 h5 h6) bd

abbrev rm_X9_worker : Room := { frames := 6, cells := 0, slots := 0, locals := 144 }
def cd_X9_worker (T0 : ZTf) (T1 : ZTf) (T2 : ZTf) (T3 : ZTf) (T4 : ZTf) : List (Nat × ZTr) := [(0, tAld 0 1), (1, tAld 0 2), (2, tIld 1 3), (3, tCall0 2 T0 (zRcv 12) 6), (6, tIld 2 7), (7, tI2l 8), (8, tC (zl 0) 9), (9, tC (zl 8) 12), (12, tCall0 3 T1 zAny 15), (15, tCall0 3 T2 (zRcv 12) 18), (18, tIf_ne 23 21), (21, tC (zi 0) 22), (22, tRi (fun _ => True)), (23, tIld 2 24), (24, tSw [(0, 72), (1, 79), (2, 86), (3, 93), (4, 99), (5, 106), (6, 113), (7, 121)] 129), (72, tAld 0 73), (73, tIld 1 74), (74, tC (zi 1) 75), (75, tCall0 3 T3 (zRcv 12) 78), (78, tRi (fun _ => True)), (79, tAld 0 80), (80, tIld 1 81), (81, tC (zi 2) 82), (82, tCall0 3 T3 (zRcv 12) 85), (85, tRi (fun _ => True)), (86, tAld 0 87), (87, tIld 1 88), (88, tC (zi 3) 89), (89, tCall0 3 T3 (zRcv 12) 92), (92, tRi (fun _ => True)), (93, tAld 0 94), (94, tIld 1 95), (95, tCall0 2 T4 (zRcv 12) 98), (98, tRi (fun _ => True)), (99, tAld 0 100), (100, tIld 1 101), (101, tC (zi 4) 102), (102, tCall0 3 T3 (zRcv 12) 105), (105, tRi (fun _ => True)), (106, tAld 0 107), (107, tIld 1 108), (108, tC (zi 5) 109), (109, tCall0 3 T3 (zRcv 12) 112), (112, tRi (fun _ => True)), (113, tAld 0 114), (114, tIld 1 115), (115, tC (zi 6) 117), (117, tCall0 3 T3 (zRcv 12) 120), (120, tRi (fun _ => True)), (121, tAld 0 122), (122, tIld 1 123), (123, tC (zi 7) 125), (125, tCall0 3 T3 (zRcv 12) 128), (128, tRi (fun _ => True)), (129, tAld 0 130), (130, tIld 1 131), (131, tC (zi 8) 133), (133, tCall0 3 T3 (zRcv 12) 136), (136, tRi (fun _ => True))]
set_option maxRecDepth 100000 in
set_option maxHeartbeats 4000000 in
theorem hs_X9_worker {l : Launch} (hl : l.stackTraces = false) {T0 : ZTf} {T1 : ZTf} {T2 : ZTf} {T3 : ZTf} {T4 : ZTf} (h0 : zMet l yX9_isWorker (Cond.code yX9_isWorker cX9_isWorker 2 (Option.some Jvm.ClassFile.FieldType.boolean) :: zG) rm_X9_isWorker 0 0 T0) (h1 : zMet l yX9_in (Cond.code yX9_in cX9_in 6 (Option.some Jvm.ClassFile.FieldType.boolean) :: zG) rm_X9_in 0 0 T1) (h2 : zMet l yX9_passes2 (Cond.code yX9_passes2 cX9_passes2 3 (Option.some Jvm.ClassFile.FieldType.boolean) :: zG) rm_X9_passes2 0 0 T2) (h3 : zMet l yX9_ofWorker (Cond.code yX9_ofWorker cX9_ofWorker 3 (Option.some Jvm.ClassFile.FieldType.int) :: zG) rm_X9_ofWorker 0 0 T3) (h4 : zMet l yX9_inWork (Cond.code yX9_inWork cX9_inWork 4 (Option.some Jvm.ClassFile.FieldType.int) :: zG) rm_X9_inWork 0 0 T4) (p : Program) (e : Env) (s : State) (m : MethodId) (args : Array Value) (below : List Frame) (meth : Method) (c : Code) (D : va_G) (A : Nat → Prop) (a0 : Nat → Nat) (M0 : ZM) (K : ZRet) (KX : ZEx) (X : zCtx p l rm_X9_worker s m args meth c cX9_worker RX9 (Cond.code yX9_worker cX9_worker 3 (Option.some Jvm.ClassFile.FieldType.int) :: zG) 3 (Option.some Jvm.ClassFile.FieldType.int) D A a0 M0 0 0) (hnm : meth.name = yX9_worker.name) (hout : ∀ x ∈ c.exceptionTable.toList, False) : ∀ q ∈ cd_X9_worker T0 T1 T2 T3 T4, zSd p l e rm_X9_worker s m args below meth c 3 D A a0 M0 K KX 0 0 q.1 q.2 :=
    zall_c (zs_aload_n X (pc := 0) (q := 0) rfl (by decide +kernel)) <|
    zall_c (zs_aload_n X (pc := 1) (q := 0) rfl (by decide +kernel)) <|
    zall_c (zs_iload_n X (pc := 2) (q := 1) rfl (by decide +kernel)) <|
    zall_c (zs_callV0 X (pc := 3) zc_X9 (fun _ ht => ⟨(zCB ht gw_9_11 gw_1_13 gw_9_8 rfl rfl (by decide +kernel) ⟨Nat.le_of_ble_eq_true rfl, Nat.le_of_ble_eq_true rfl⟩), ht _ (.tail _ gw_9_10), ht _ (.tail _ gp_65)⟩) h0 hout (by decide +kernel)) <|
    zall_c (zs_iload_n X (pc := 6) (q := 2) rfl (by decide +kernel)) <|
    zall_c (zs_i2l X (pc := 7) (by decide +kernel)) <|
    zall_c (zs_lconst X (pc := 8) (q := 0) (by decide) (by decide +kernel) rfl) <|
    zall_c (zs_ldc2 X (pc := 9) (i := 337) (by decide) (by decide +kernel) (.tail _ gw_9_12)) <|
    zall_c (zs_callS0 X (pc := 12) (fun _ ht => ⟨(zCB ht gw_8_64 gw_1_13 gw_8_62 rfl rfl (by decide +kernel) ⟨Nat.le_of_ble_eq_true rfl, Nat.le_of_ble_eq_true rfl⟩), ht _ (.tail _ gw_8_63)⟩) h1 hout (by decide +kernel)) <|
    zall_c (zs_callV0 X (pc := 15) zc_X9 (fun _ ht => ⟨(zCB ht gw_9_16 gw_1_13 gw_9_13 rfl rfl (by decide +kernel) ⟨Nat.le_of_ble_eq_true rfl, Nat.le_of_ble_eq_true rfl⟩), ht _ (.tail _ gw_9_15), ht _ (.tail _ gp_66)⟩) h2 hout (by decide +kernel)) <|
    zall_c (zs_if_ne X (pc := 18) (off := 5) (by decide +kernel) (by decide)) <|
    zall_c (zs_iconst X (pc := 21) (by decide) (by decide +kernel)) <|
    zall_c (zs_iret X (pc := 22) rfl (by decide +kernel)) <|
    zall_c (zs_iload_n X (pc := 23) (q := 2) rfl (by decide +kernel)) <|
    zall_c (zs_tablesw X (pc := 24) (df := 105) (lo := 0) (hi := 7) (offs := #[48, 55, 62, 69, 75, 82, 89, 97]) (len := 48) (by decide +kernel) (by decide) (by decide +kernel) (by decide +kernel)) <|
    zall_c (zs_aload_n X (pc := 72) (q := 0) rfl (by decide +kernel)) <|
    zall_c (zs_iload_n X (pc := 73) (q := 1) rfl (by decide +kernel)) <|
    zall_c (zs_iconst X (pc := 74) (by decide) (by decide +kernel)) <|
    zall_c (zs_callV0 X (pc := 75) zc_X9 (fun _ ht => ⟨(zCB ht gw_8_161 gw_1_13 gw_8_158 rfl rfl (by decide +kernel) ⟨Nat.le_of_ble_eq_true rfl, Nat.le_of_ble_eq_true rfl⟩), ht _ (.tail _ gw_8_160), ht _ (.tail _ gp_48)⟩) h3 hout (by decide +kernel)) <|
    zall_c (zs_iret X (pc := 78) rfl (by decide +kernel)) <|
    zall_c (zs_aload_n X (pc := 79) (q := 0) rfl (by decide +kernel)) <|
    zall_c (zs_iload_n X (pc := 80) (q := 1) rfl (by decide +kernel)) <|
    zall_c (zs_iconst X (pc := 81) (by decide) (by decide +kernel)) <|
    zall_c (zs_callV0 X (pc := 82) zc_X9 (fun _ ht => ⟨(zCB ht gw_8_161 gw_1_13 gw_8_158 rfl rfl (by decide +kernel) ⟨Nat.le_of_ble_eq_true rfl, Nat.le_of_ble_eq_true rfl⟩), ht _ (.tail _ gw_8_160), ht _ (.tail _ gp_48)⟩) h3 hout (by decide +kernel)) <|
    zall_c (zs_iret X (pc := 85) rfl (by decide +kernel)) <|
    zall_c (zs_aload_n X (pc := 86) (q := 0) rfl (by decide +kernel)) <|
    zall_c (zs_iload_n X (pc := 87) (q := 1) rfl (by decide +kernel)) <|
    zall_c (zs_iconst X (pc := 88) (by decide) (by decide +kernel)) <|
    zall_c (zs_callV0 X (pc := 89) zc_X9 (fun _ ht => ⟨(zCB ht gw_8_161 gw_1_13 gw_8_158 rfl rfl (by decide +kernel) ⟨Nat.le_of_ble_eq_true rfl, Nat.le_of_ble_eq_true rfl⟩), ht _ (.tail _ gw_8_160), ht _ (.tail _ gp_48)⟩) h3 hout (by decide +kernel)) <|
    zall_c (zs_iret X (pc := 92) rfl (by decide +kernel)) <|
    zall_c (zs_aload_n X (pc := 93) (q := 0) rfl (by decide +kernel)) <|
    zall_c (zs_iload_n X (pc := 94) (q := 1) rfl (by decide +kernel)) <|
    zall_c (zs_callV0 X (pc := 95) zc_X9 (fun _ ht => ⟨(zCB ht gw_9_20 gw_1_13 gw_9_17 rfl rfl (by decide +kernel) ⟨Nat.le_of_ble_eq_true rfl, Nat.le_of_ble_eq_true rfl⟩), ht _ (.tail _ gw_9_19), ht _ (.tail _ gp_67)⟩) h4 hout (by decide +kernel)) <|
    zall_c (zs_iret X (pc := 98) rfl (by decide +kernel)) <|
    zall_c (zs_aload_n X (pc := 99) (q := 0) rfl (by decide +kernel)) <|
    zall_c (zs_iload_n X (pc := 100) (q := 1) rfl (by decide +kernel)) <|
    zall_c (zs_iconst X (pc := 101) (by decide) (by decide +kernel)) <|
    zall_c (zs_callV0 X (pc := 102) zc_X9 (fun _ ht => ⟨(zCB ht gw_8_161 gw_1_13 gw_8_158 rfl rfl (by decide +kernel) ⟨Nat.le_of_ble_eq_true rfl, Nat.le_of_ble_eq_true rfl⟩), ht _ (.tail _ gw_8_160), ht _ (.tail _ gp_48)⟩) h3 hout (by decide +kernel)) <|
    zall_c (zs_iret X (pc := 105) rfl (by decide +kernel)) <|
    zall_c (zs_aload_n X (pc := 106) (q := 0) rfl (by decide +kernel)) <|
    zall_c (zs_iload_n X (pc := 107) (q := 1) rfl (by decide +kernel)) <|
    zall_c (zs_iconst X (pc := 108) (by decide) (by decide +kernel)) <|
    zall_c (zs_callV0 X (pc := 109) zc_X9 (fun _ ht => ⟨(zCB ht gw_8_161 gw_1_13 gw_8_158 rfl rfl (by decide +kernel) ⟨Nat.le_of_ble_eq_true rfl, Nat.le_of_ble_eq_true rfl⟩), ht _ (.tail _ gw_8_160), ht _ (.tail _ gp_48)⟩) h3 hout (by decide +kernel)) <|
    zall_c (zs_iret X (pc := 112) rfl (by decide +kernel)) <|
    zall_c (zs_aload_n X (pc := 113) (q := 0) rfl (by decide +kernel)) <|
    zall_c (zs_iload_n X (pc := 114) (q := 1) rfl (by decide +kernel)) <|
    zall_c (zs_bipush X (pc := 115) (by decide) (by decide +kernel) (by decide +kernel)) <|
    zall_c (zs_callV0 X (pc := 117) zc_X9 (fun _ ht => ⟨(zCB ht gw_8_161 gw_1_13 gw_8_158 rfl rfl (by decide +kernel) ⟨Nat.le_of_ble_eq_true rfl, Nat.le_of_ble_eq_true rfl⟩), ht _ (.tail _ gw_8_160), ht _ (.tail _ gp_48)⟩) h3 hout (by decide +kernel)) <|
    zall_c (zs_iret X (pc := 120) rfl (by decide +kernel)) <|
    zall_c (zs_aload_n X (pc := 121) (q := 0) rfl (by decide +kernel)) <|
    zall_c (zs_iload_n X (pc := 122) (q := 1) rfl (by decide +kernel)) <|
    zall_c (zs_bipush X (pc := 123) (by decide) (by decide +kernel) (by decide +kernel)) <|
    zall_c (zs_callV0 X (pc := 125) zc_X9 (fun _ ht => ⟨(zCB ht gw_8_161 gw_1_13 gw_8_158 rfl rfl (by decide +kernel) ⟨Nat.le_of_ble_eq_true rfl, Nat.le_of_ble_eq_true rfl⟩), ht _ (.tail _ gw_8_160), ht _ (.tail _ gp_48)⟩) h3 hout (by decide +kernel)) <|
    zall_c (zs_iret X (pc := 128) rfl (by decide +kernel)) <|
    zall_c (zs_aload_n X (pc := 129) (q := 0) rfl (by decide +kernel)) <|
    zall_c (zs_iload_n X (pc := 130) (q := 1) rfl (by decide +kernel)) <|
    zall_c (zs_bipush X (pc := 131) (by decide) (by decide +kernel) (by decide +kernel)) <|
    zall_c (zs_callV0 X (pc := 133) zc_X9 (fun _ ht => ⟨(zCB ht gw_8_161 gw_1_13 gw_8_158 rfl rfl (by decide +kernel) ⟨Nat.le_of_ble_eq_true rfl, Nat.le_of_ble_eq_true rfl⟩), ht _ (.tail _ gw_8_160), ht _ (.tail _ gp_48)⟩) h3 hout (by decide +kernel)) <|
    zall_c (zs_iret X (pc := 136) rfl (by decide +kernel)) <|
    zall_n
theorem met_X9_worker {l : Launch} (hl : l.stackTraces = false) {T0 : ZTf} {T1 : ZTf} {T2 : ZTf} {T3 : ZTf} {T4 : ZTf} (h0 : zMet l yX9_isWorker (Cond.code yX9_isWorker cX9_isWorker 2 (Option.some Jvm.ClassFile.FieldType.boolean) :: zG) rm_X9_isWorker 0 0 T0) (h1 : zMet l yX9_in (Cond.code yX9_in cX9_in 6 (Option.some Jvm.ClassFile.FieldType.boolean) :: zG) rm_X9_in 0 0 T1) (h2 : zMet l yX9_passes2 (Cond.code yX9_passes2 cX9_passes2 3 (Option.some Jvm.ClassFile.FieldType.boolean) :: zG) rm_X9_passes2 0 0 T2) (h3 : zMet l yX9_ofWorker (Cond.code yX9_ofWorker cX9_ofWorker 3 (Option.some Jvm.ClassFile.FieldType.int) :: zG) rm_X9_ofWorker 0 0 T3) (h4 : zMet l yX9_inWork (Cond.code yX9_inWork cX9_inWork 4 (Option.some Jvm.ClassFile.FieldType.int) :: zG) rm_X9_inWork 0 0 T4) {T : ZTf} (bd : zBd (cd_X9_worker T0 T1 T2 T3 T4) 3 0 0 T) : zMet l yX9_worker (Cond.code yX9_worker cX9_worker 3 (Option.some Jvm.ClassFile.FieldType.int) :: zG) rm_X9_worker 0 0 T := zMet_of hl (by decide +kernel) rfl rfl rfl rfl (hs_X9_worker hl h0 h1 h2 h3 h4) bd

abbrev rm_X9_row : Room := { frames := 4, cells := 0, slots := 0, locals := 96 }
def cd_X9_row (T0 : ZTf) (T1 : ZTf) (T2 : ZTf) (T3 : ZTf) (T4 : ZTf) (T5 : ZTf) (T6 : ZTf) : List (Nat × ZTr) := [(0, tAld 0 1), (1, tAld 0 2), (2, tIld 1 3), (3, tCall0 2 T0 (zRcv 12) 6), (6, tIld 2 7), (7, tI2l 8), (8, tC (zl 0) 9), (9, tC (zl 6) 12), (12, tCall0 3 T1 zAny 15), (15, tCall0 3 T2 (zRcv 12) 18), (18, tIf_ne 23 21), (21, tC (zi 0) 22), (22, tRi (fun _ => True)), (23, tIld 2 24), (24, tSw [(0, 64), (1, 71), (2, 78), (3, 99), (4, 113), (5, 119)] 125), (64, tAld 0 65), (65, tIld 1 66), (66, tC (zi 0) 67), (67, tCall0 3 T3 (zRcv 12) 70), (70, tRi (fun _ => True)), (71, tAld 0 72), (72, tIld 1 73), (73, tC (zi 1) 74), (74, tCall0 3 T3 (zRcv 12) 77), (77, tRi (fun _ => True)), (78, tAld 0 79), (79, tIld 1 80), (80, tC (zi 1) 81), (81, tCall0 3 T3 (zRcv 12) 84), (84, tC (zi 2) 85), (85, tIc_ne 97 88), (88, tAld 0 89), (89, tIld 1 90), (90, tC (zi 2) 91), (91, tCall0 3 T3 (zRcv 12) 94), (94, tGo 98), (97, tC (zi (-1)) 98), (98, tRi (fun _ => True)), (99, tAld 0 100), (100, tIld 1 101), (101, tCall0 2 T4 (zRcv 12) 104), (104, tIf_eq 111 107), (107, tC (zi 1) 108), (108, tGo 112), (111, tC (zi 0) 112), (112, tRi (fun _ => True)), (113, tAld 0 114), (114, tIld 1 115), (115, tCall0 2 T5 (zRcv 12) 118), (118, tRi (fun _ => True)), (119, tAld 0 120), (120, tIld 1 121), (121, tCall0 2 T6 (zRcv 12) 124), (124, tRi (fun _ => True)), (125, tAld 0 126), (126, tIld 1 127), (127, tC (zi 4) 128), (128, tCall0 3 T3 (zRcv 12) 131), (131, tRi (fun _ => True))]
set_option maxRecDepth 100000 in
set_option maxHeartbeats 4000000 in
theorem hs_X9_row {l : Launch} (hl : l.stackTraces = false) {T0 : ZTf} {T1 : ZTf} {T2 : ZTf} {T3 : ZTf} {T4 : ZTf} {T5 : ZTf} {T6 : ZTf} (h0 : zMet l yX9_isRow (Cond.code yX9_isRow cX9_isRow 2 (Option.some Jvm.ClassFile.FieldType.boolean) :: zG) rm_X9_isRow 0 0 T0) (h1 : zMet l yX9_in (Cond.code yX9_in cX9_in 6 (Option.some Jvm.ClassFile.FieldType.boolean) :: zG) rm_X9_in 0 0 T1) (h2 : zMet l yX9_passes2 (Cond.code yX9_passes2 cX9_passes2 3 (Option.some Jvm.ClassFile.FieldType.boolean) :: zG) rm_X9_passes2 0 0 T2) (h3 : zMet l yX9_ofRow (Cond.code yX9_ofRow cX9_ofRow 3 (Option.some Jvm.ClassFile.FieldType.int) :: zG) rm_X9_ofRow 0 0 T3) (h4 : zMet l yX9_isAudited (Cond.code yX9_isAudited cX9_isAudited 2 (Option.some Jvm.ClassFile.FieldType.boolean) :: zG) rm_X9_isAudited 0 0 T4) (h5 : zMet l yX9_manyAt (Cond.code yX9_manyAt cX9_manyAt 2 (Option.some Jvm.ClassFile.FieldType.int) :: zG) rm_X9_manyAt 0 0 T5) (h6 : zMet l yX9_needs (Cond.code yX9_needs cX9_needs 4 (Option.some Jvm.ClassFile.FieldType.int) :: zG) rm_X9_needs 0 0 T6) (p : Program) (e : Env) (s : State) (m : MethodId) (args : Array Value) (below : List Frame) (meth : Method) (c : Code) (D : va_G) (A : Nat → Prop) (a0 : Nat → Nat) (M0 : ZM) (K : ZRet) (KX : ZEx) (X : zCtx p l rm_X9_row s m args meth c cX9_row RX9 (Cond.code yX9_row cX9_row 3 (Option.some Jvm.ClassFile.FieldType.int) :: zG) 3 (Option.some Jvm.ClassFile.FieldType.int) D A a0 M0 0 0) (hnm : meth.name = yX9_row.name) (hout : ∀ x ∈ c.exceptionTable.toList, False) : ∀ q ∈ cd_X9_row T0 T1 T2 T3 T4 T5 T6, zSd p l e rm_X9_row s m args below meth c 3 D A a0 M0 K KX 0 0 q.1 q.2 :=
    zall_c (zs_aload_n X (pc := 0) (q := 0) rfl (by decide +kernel)) <|
    zall_c (zs_aload_n X (pc := 1) (q := 0) rfl (by decide +kernel)) <|
    zall_c (zs_iload_n X (pc := 2) (q := 1) rfl (by decide +kernel)) <|
    zall_c (zs_callV0 X (pc := 3) zc_X9 (fun _ ht => ⟨(zCB ht gw_9_48 gw_1_13 gw_9_45 rfl rfl (by decide +kernel) ⟨Nat.le_of_ble_eq_true rfl, Nat.le_of_ble_eq_true rfl⟩), ht _ (.tail _ gw_9_47), ht _ (.tail _ gp_73)⟩) h0 hout (by decide +kernel)) <|
    zall_c (zs_iload_n X (pc := 6) (q := 2) rfl (by decide +kernel)) <|
    zall_c (zs_i2l X (pc := 7) (by decide +kernel)) <|
    zall_c (zs_lconst X (pc := 8) (q := 0) (by decide) (by decide +kernel) rfl) <|
    zall_c (zs_ldc2 X (pc := 9) (i := 321) (by decide) (by decide +kernel) (.tail _ gw_8_218)) <|
    zall_c (zs_callS0 X (pc := 12) (fun _ ht => ⟨(zCB ht gw_8_64 gw_1_13 gw_8_62 rfl rfl (by decide +kernel) ⟨Nat.le_of_ble_eq_true rfl, Nat.le_of_ble_eq_true rfl⟩), ht _ (.tail _ gw_8_63)⟩) h1 hout (by decide +kernel)) <|
    zall_c (zs_callV0 X (pc := 15) zc_X9 (fun _ ht => ⟨(zCB ht gw_9_16 gw_1_13 gw_9_13 rfl rfl (by decide +kernel) ⟨Nat.le_of_ble_eq_true rfl, Nat.le_of_ble_eq_true rfl⟩), ht _ (.tail _ gw_9_15), ht _ (.tail _ gp_66)⟩) h2 hout (by decide +kernel)) <|
    zall_c (zs_if_ne X (pc := 18) (off := 5) (by decide +kernel) (by decide)) <|
    zall_c (zs_iconst X (pc := 21) (by decide) (by decide +kernel)) <|
    zall_c (zs_iret X (pc := 22) rfl (by decide +kernel)) <|
    zall_c (zs_iload_n X (pc := 23) (q := 2) rfl (by decide +kernel)) <|
    zall_c (zs_tablesw X (pc := 24) (df := 101) (lo := 0) (hi := 5) (offs := #[40, 47, 54, 75, 89, 95]) (len := 40) (by decide +kernel) (by decide) (by decide +kernel) (by decide +kernel)) <|
    zall_c (zs_aload_n X (pc := 64) (q := 0) rfl (by decide +kernel)) <|
    zall_c (zs_iload_n X (pc := 65) (q := 1) rfl (by decide +kernel)) <|
    zall_c (zs_iconst X (pc := 66) (by decide) (by decide +kernel)) <|
    zall_c (zs_callV0 X (pc := 67) zc_X9 (fun _ ht => ⟨(zCB ht gw_8_239 gw_1_13 gw_8_236 rfl rfl (by decide +kernel) ⟨Nat.le_of_ble_eq_true rfl, Nat.le_of_ble_eq_true rfl⟩), ht _ (.tail _ gw_8_238), ht _ (.tail _ gp_63)⟩) h3 hout (by decide +kernel)) <|
    zall_c (zs_iret X (pc := 70) rfl (by decide +kernel)) <|
    zall_c (zs_aload_n X (pc := 71) (q := 0) rfl (by decide +kernel)) <|
    zall_c (zs_iload_n X (pc := 72) (q := 1) rfl (by decide +kernel)) <|
    zall_c (zs_iconst X (pc := 73) (by decide) (by decide +kernel)) <|
    zall_c (zs_callV0 X (pc := 74) zc_X9 (fun _ ht => ⟨(zCB ht gw_8_239 gw_1_13 gw_8_236 rfl rfl (by decide +kernel) ⟨Nat.le_of_ble_eq_true rfl, Nat.le_of_ble_eq_true rfl⟩), ht _ (.tail _ gw_8_238), ht _ (.tail _ gp_63)⟩) h3 hout (by decide +kernel)) <|
    zall_c (zs_iret X (pc := 77) rfl (by decide +kernel)) <|
    zall_c (zs_aload_n X (pc := 78) (q := 0) rfl (by decide +kernel)) <|
    zall_c (zs_iload_n X (pc := 79) (q := 1) rfl (by decide +kernel)) <|
    zall_c (zs_iconst X (pc := 80) (by decide) (by decide +kernel)) <|
    zall_c (zs_callV0 X (pc := 81) zc_X9 (fun _ ht => ⟨(zCB ht gw_8_239 gw_1_13 gw_8_236 rfl rfl (by decide +kernel) ⟨Nat.le_of_ble_eq_true rfl, Nat.le_of_ble_eq_true rfl⟩), ht _ (.tail _ gw_8_238), ht _ (.tail _ gp_63)⟩) h3 hout (by decide +kernel)) <|
    zall_c (zs_iconst X (pc := 84) (by decide) (by decide +kernel)) <|
    zall_c (zs_icmp_ne X (pc := 85) (off := 12) (by decide +kernel) (by decide)) <|
    zall_c (zs_aload_n X (pc := 88) (q := 0) rfl (by decide +kernel)) <|
    zall_c (zs_iload_n X (pc := 89) (q := 1) rfl (by decide +kernel)) <|
    zall_c (zs_iconst X (pc := 90) (by decide) (by decide +kernel)) <|
    zall_c (zs_callV0 X (pc := 91) zc_X9 (fun _ ht => ⟨(zCB ht gw_8_239 gw_1_13 gw_8_236 rfl rfl (by decide +kernel) ⟨Nat.le_of_ble_eq_true rfl, Nat.le_of_ble_eq_true rfl⟩), ht _ (.tail _ gw_8_238), ht _ (.tail _ gp_63)⟩) h3 hout (by decide +kernel)) <|
    zall_c (zs_goto X (pc := 94) (off := 4) (by decide +kernel) (by decide)) <|
    zall_c (zs_iconst X (pc := 97) (by decide) (by decide +kernel)) <|
    zall_c (zs_iret X (pc := 98) rfl (by decide +kernel)) <|
    zall_c (zs_aload_n X (pc := 99) (q := 0) rfl (by decide +kernel)) <|
    zall_c (zs_iload_n X (pc := 100) (q := 1) rfl (by decide +kernel)) <|
    zall_c (zs_callV0 X (pc := 101) zc_X9 (fun _ ht => ⟨(zCB ht gw_8_235 gw_1_13 gw_8_232 rfl rfl (by decide +kernel) ⟨Nat.le_of_ble_eq_true rfl, Nat.le_of_ble_eq_true rfl⟩), ht _ (.tail _ gw_8_234), ht _ (.tail _ gp_62)⟩) h4 hout (by decide +kernel)) <|
    zall_c (zs_if_eq X (pc := 104) (off := 7) (by decide +kernel) (by decide)) <|
    zall_c (zs_iconst X (pc := 107) (by decide) (by decide +kernel)) <|
    zall_c (zs_goto X (pc := 108) (off := 4) (by decide +kernel) (by decide)) <|
    zall_c (zs_iconst X (pc := 111) (by decide) (by decide +kernel)) <|
    zall_c (zs_iret X (pc := 112) rfl (by decide +kernel)) <|
    zall_c (zs_aload_n X (pc := 113) (q := 0) rfl (by decide +kernel)) <|
    zall_c (zs_iload_n X (pc := 114) (q := 1) rfl (by decide +kernel)) <|
    zall_c (zs_callV0 X (pc := 115) zc_X9 (fun _ ht => ⟨(zCB ht gw_9_32 gw_1_13 gw_9_29 rfl rfl (by decide +kernel) ⟨Nat.le_of_ble_eq_true rfl, Nat.le_of_ble_eq_true rfl⟩), ht _ (.tail _ gw_9_31), ht _ (.tail _ gp_70)⟩) h5 hout (by decide +kernel)) <|
    zall_c (zs_iret X (pc := 118) rfl (by decide +kernel)) <|
    zall_c (zs_aload_n X (pc := 119) (q := 0) rfl (by decide +kernel)) <|
    zall_c (zs_iload_n X (pc := 120) (q := 1) rfl (by decide +kernel)) <|
    zall_c (zs_callV0 X (pc := 121) zc_X9 (fun _ ht => ⟨(zCB ht gw_9_52 gw_1_13 gw_9_49 rfl rfl (by decide +kernel) ⟨Nat.le_of_ble_eq_true rfl, Nat.le_of_ble_eq_true rfl⟩), ht _ (.tail _ gw_9_51), ht _ (.tail _ gp_74)⟩) h6 hout (by decide +kernel)) <|
    zall_c (zs_iret X (pc := 124) rfl (by decide +kernel)) <|
    zall_c (zs_aload_n X (pc := 125) (q := 0) rfl (by decide +kernel)) <|
    zall_c (zs_iload_n X (pc := 126) (q := 1) rfl (by decide +kernel)) <|
    zall_c (zs_iconst X (pc := 127) (by decide) (by decide +kernel)) <|
    zall_c (zs_callV0 X (pc := 128) zc_X9 (fun _ ht => ⟨(zCB ht gw_8_239 gw_1_13 gw_8_236 rfl rfl (by decide +kernel) ⟨Nat.le_of_ble_eq_true rfl, Nat.le_of_ble_eq_true rfl⟩), ht _ (.tail _ gw_8_238), ht _ (.tail _ gp_63)⟩) h3 hout (by decide +kernel)) <|
    zall_c (zs_iret X (pc := 131) rfl (by decide +kernel)) <|
    zall_n
theorem met_X9_row {l : Launch} (hl : l.stackTraces = false) {T0 : ZTf} {T1 : ZTf} {T2 : ZTf} {T3 : ZTf} {T4 : ZTf} {T5 : ZTf} {T6 : ZTf} (h0 : zMet l yX9_isRow (Cond.code yX9_isRow cX9_isRow 2 (Option.some Jvm.ClassFile.FieldType.boolean) :: zG) rm_X9_isRow 0 0 T0) (h1 : zMet l yX9_in (Cond.code yX9_in cX9_in 6 (Option.some Jvm.ClassFile.FieldType.boolean) :: zG) rm_X9_in 0 0 T1) (h2 : zMet l yX9_passes2 (Cond.code yX9_passes2 cX9_passes2 3 (Option.some Jvm.ClassFile.FieldType.boolean) :: zG) rm_X9_passes2 0 0 T2) (h3 : zMet l yX9_ofRow (Cond.code yX9_ofRow cX9_ofRow 3 (Option.some Jvm.ClassFile.FieldType.int) :: zG) rm_X9_ofRow 0 0 T3) (h4 : zMet l yX9_isAudited (Cond.code yX9_isAudited cX9_isAudited 2 (Option.some Jvm.ClassFile.FieldType.boolean) :: zG) rm_X9_isAudited 0 0 T4) (h5 : zMet l yX9_manyAt (Cond.code yX9_manyAt cX9_manyAt 2 (Option.some Jvm.ClassFile.FieldType.int) :: zG) rm_X9_manyAt 0 0 T5) (h6 : zMet l yX9_needs (Cond.code yX9_needs cX9_needs 4 (Option.some Jvm.ClassFile.FieldType.int) :: zG) rm_X9_needs 0 0 T6) {T : ZTf} (bd : zBd (cd_X9_row T0 T1 T2 T3 T4 T5 T6) 3 0 0 T) : zMet l yX9_row (Cond.code yX9_row cX9_row 3 (Option.some Jvm.ClassFile.FieldType.int) :: zG) rm_X9_row 0 0 T := zMet_of hl (by decide +kernel) rfl rfl rfl rfl (hs_X9_row hl h0 h1 h2 h3 h4 h5 h6) bd

abbrev rm_X9_taking : Room := { frames := 4, cells := 0, slots := 0, locals := 97 }
def cd_X9_taking (T0 : ZTf) (T1 : ZTf) (T2 : ZTf) (T3 : ZTf) (T4 : ZTf) (T5 : ZTf) : List (Nat × ZTr) := [(0, tAld 0 1), (1, tIld 1 2), (2, tCall0 2 T0 (zRcv 12) 5), (5, tIf_eq 29 8), (8, tIld 2 9), (9, tI2l 10), (10, tC (zl 0) 11), (11, tAld 0 12), (12, tIld 1 13), (13, tCall0 2 T1 (zRcv 12) 16), (16, tC (zi 1) 17), (17, tSub 18), (18, tI2l 19), (19, tCall0 3 T2 zAny 22), (22, tIf_eq 29 25), (25, tC (zi 1) 26), (26, tGo 30), (29, tC (zi 0) 30), (30, tIst 4 32), (32, tAld 0 33), (33, tIld 4 35), (35, tIld 3 36), (36, tI2l 37), (37, tC (zl 0) 38), (38, tC (zl 2) 41), (41, tCall0 3 T2 zAny 44), (44, tCall0 3 T3 (zRcv 12) 47), (47, tIf_ne 52 50), (50, tC (zi 0) 51), (51, tRi (fun _ => True)), (52, tIld 3 53), (53, tSw [(0, 80), (1, 88)] 96), (80, tAld 0 81), (81, tIld 1 82), (82, tIld 2 83), (83, tC (zi 0) 84), (84, tCall0 4 T4 (zRcv 12) 87), (87, tRi (fun _ => True)), (88, tAld 0 89), (89, tIld 1 90), (90, tIld 2 91), (91, tC (zi 1) 92), (92, tCall0 4 T4 (zRcv 12) 95), (95, tRi (fun _ => True)), (96, tAld 0 97), (97, tIld 1 98), (98, tIld 2 99), (99, tCall0 3 T5 (zRcv 12) 102), (102, tIf_eq 115 105), (105, tAld 0 106), (106, tIld 1 107), (107, tIld 2 108), (108, tC (zi 2) 109), (109, tCall0 4 T4 (zRcv 12) 112), (112, tGo 116), (115, tC (zi (-1)) 116), (116, tRi (fun _ => True))]
set_option maxRecDepth 100000 in
set_option maxHeartbeats 4000000 in
theorem hs_X9_taking {l : Launch} (hl : l.stackTraces = false) {T0 : ZTf} {T1 : ZTf} {T2 : ZTf} {T3 : ZTf} {T4 : ZTf} {T5 : ZTf} (h0 : zMet l yX9_isRow (Cond.code yX9_isRow cX9_isRow 2 (Option.some Jvm.ClassFile.FieldType.boolean) :: zG) rm_X9_isRow 0 0 T0) (h1 : zMet l yX9_manyAt (Cond.code yX9_manyAt cX9_manyAt 2 (Option.some Jvm.ClassFile.FieldType.int) :: zG) rm_X9_manyAt 0 0 T1) (h2 : zMet l yX9_in (Cond.code yX9_in cX9_in 6 (Option.some Jvm.ClassFile.FieldType.boolean) :: zG) rm_X9_in 0 0 T2) (h3 : zMet l yX9_passes2 (Cond.code yX9_passes2 cX9_passes2 3 (Option.some Jvm.ClassFile.FieldType.boolean) :: zG) rm_X9_passes2 0 0 T3) (h4 : zMet l yX9_ofTaking (Cond.code yX9_ofTaking cX9_ofTaking 4 (Option.some Jvm.ClassFile.FieldType.int) :: zG) rm_X9_ofTaking 0 0 T4) (h5 : zMet l yX9_isInWork (Cond.code yX9_isInWork cX9_isInWork 3 (Option.some Jvm.ClassFile.FieldType.boolean) :: zG) rm_X9_isInWork 0 0 T5) (p : Program) (e : Env) (s : State) (m : MethodId) (args : Array Value) (below : List Frame) (meth : Method) (c : Code) (D : va_G) (A : Nat → Prop) (a0 : Nat → Nat) (M0 : ZM) (K : ZRet) (KX : ZEx) (X : zCtx p l rm_X9_taking s m args meth c cX9_taking RX9 (Cond.code yX9_taking cX9_taking 5 (Option.some Jvm.ClassFile.FieldType.int) :: zG) 5 (Option.some Jvm.ClassFile.FieldType.int) D A a0 M0 0 0) (hnm : meth.name = yX9_taking.name) (hout : ∀ x ∈ c.exceptionTable.toList, False) : ∀ q ∈ cd_X9_taking T0 T1 T2 T3 T4 T5, zSd p l e rm_X9_taking s m args below meth c 5 D A a0 M0 K KX 0 0 q.1 q.2 :=
    zall_c (zs_aload_n X (pc := 0) (q := 0) rfl (by decide +kernel)) <|
    zall_c (zs_iload_n X (pc := 1) (q := 1) rfl (by decide +kernel)) <|
    zall_c (zs_callV0 X (pc := 2) zc_X9 (fun _ ht => ⟨(zCB ht gw_9_48 gw_1_13 gw_9_45 rfl rfl (by decide +kernel) ⟨Nat.le_of_ble_eq_true rfl, Nat.le_of_ble_eq_true rfl⟩), ht _ (.tail _ gw_9_47), ht _ (.tail _ gp_73)⟩) h0 hout (by decide +kernel)) <|
    zall_c (zs_if_eq X (pc := 5) (off := 24) (by decide +kernel) (by decide)) <|
    zall_c (zs_iload_n X (pc := 8) (q := 2) rfl (by decide +kernel)) <|
    zall_c (zs_i2l X (pc := 9) (by decide +kernel)) <|
    zall_c (zs_lconst X (pc := 10) (q := 0) (by decide) (by decide +kernel) rfl) <|
    zall_c (zs_aload_n X (pc := 11) (q := 0) rfl (by decide +kernel)) <|
    zall_c (zs_iload_n X (pc := 12) (q := 1) rfl (by decide +kernel)) <|
    zall_c (zs_callV0 X (pc := 13) zc_X9 (fun _ ht => ⟨(zCB ht gw_9_32 gw_1_13 gw_9_29 rfl rfl (by decide +kernel) ⟨Nat.le_of_ble_eq_true rfl, Nat.le_of_ble_eq_true rfl⟩), ht _ (.tail _ gw_9_31), ht _ (.tail _ gp_70)⟩) h1 hout (by decide +kernel)) <|
    zall_c (zs_iconst X (pc := 16) (by decide) (by decide +kernel)) <|
    zall_c (zs_isub X (pc := 17) (by decide +kernel)) <|
    zall_c (zs_i2l X (pc := 18) (by decide +kernel)) <|
    zall_c (zs_callS0 X (pc := 19) (fun _ ht => ⟨(zCB ht gw_8_64 gw_1_13 gw_8_62 rfl rfl (by decide +kernel) ⟨Nat.le_of_ble_eq_true rfl, Nat.le_of_ble_eq_true rfl⟩), ht _ (.tail _ gw_8_63)⟩) h2 hout (by decide +kernel)) <|
    zall_c (zs_if_eq X (pc := 22) (off := 7) (by decide +kernel) (by decide)) <|
    zall_c (zs_iconst X (pc := 25) (by decide) (by decide +kernel)) <|
    zall_c (zs_goto X (pc := 26) (off := 4) (by decide +kernel) (by decide)) <|
    zall_c (zs_iconst X (pc := 29) (by decide) (by decide +kernel)) <|
    zall_c (zs_istore X (pc := 30) (by decide) (by decide +kernel)) <|
    zall_c (zs_aload_n X (pc := 32) (q := 0) rfl (by decide +kernel)) <|
    zall_c (zs_iload X (pc := 33) (by decide +kernel)) <|
    zall_c (zs_iload_n X (pc := 35) (q := 3) rfl (by decide +kernel)) <|
    zall_c (zs_i2l X (pc := 36) (by decide +kernel)) <|
    zall_c (zs_lconst X (pc := 37) (q := 0) (by decide) (by decide +kernel) rfl) <|
    zall_c (zs_ldc2 X (pc := 38) (i := 346) (by decide) (by decide +kernel) (.tail _ gw_9_58)) <|
    zall_c (zs_callS0 X (pc := 41) (fun _ ht => ⟨(zCB ht gw_8_64 gw_1_13 gw_8_62 rfl rfl (by decide +kernel) ⟨Nat.le_of_ble_eq_true rfl, Nat.le_of_ble_eq_true rfl⟩), ht _ (.tail _ gw_8_63)⟩) h2 hout (by decide +kernel)) <|
    zall_c (zs_callV0 X (pc := 44) zc_X9 (fun _ ht => ⟨(zCB ht gw_9_16 gw_1_13 gw_9_13 rfl rfl (by decide +kernel) ⟨Nat.le_of_ble_eq_true rfl, Nat.le_of_ble_eq_true rfl⟩), ht _ (.tail _ gw_9_15), ht _ (.tail _ gp_66)⟩) h3 hout (by decide +kernel)) <|
    zall_c (zs_if_ne X (pc := 47) (off := 5) (by decide +kernel) (by decide)) <|
    zall_c (zs_iconst X (pc := 50) (by decide) (by decide +kernel)) <|
    zall_c (zs_iret X (pc := 51) rfl (by decide +kernel)) <|
    zall_c (zs_iload_n X (pc := 52) (q := 3) rfl (by decide +kernel)) <|
    zall_c (zs_lookup X (pc := 53) (df := 43) (ps := #[(0, 27), (1, 35)]) (len := 27) (by decide +kernel) (by decide +kernel) (by decide) (by decide +kernel) (by decide +kernel)) <|
    zall_c (zs_aload_n X (pc := 80) (q := 0) rfl (by decide +kernel)) <|
    zall_c (zs_iload_n X (pc := 81) (q := 1) rfl (by decide +kernel)) <|
    zall_c (zs_iload_n X (pc := 82) (q := 2) rfl (by decide +kernel)) <|
    zall_c (zs_iconst X (pc := 83) (by decide) (by decide +kernel)) <|
    zall_c (zs_callV0 X (pc := 84) zc_X9 (fun _ ht => ⟨(zCB ht gw_9_36 gw_1_13 gw_9_33 rfl rfl (by decide +kernel) ⟨Nat.le_of_ble_eq_true rfl, Nat.le_of_ble_eq_true rfl⟩), ht _ (.tail _ gw_9_35), ht _ (.tail _ gp_71)⟩) h4 hout (by decide +kernel)) <|
    zall_c (zs_iret X (pc := 87) rfl (by decide +kernel)) <|
    zall_c (zs_aload_n X (pc := 88) (q := 0) rfl (by decide +kernel)) <|
    zall_c (zs_iload_n X (pc := 89) (q := 1) rfl (by decide +kernel)) <|
    zall_c (zs_iload_n X (pc := 90) (q := 2) rfl (by decide +kernel)) <|
    zall_c (zs_iconst X (pc := 91) (by decide) (by decide +kernel)) <|
    zall_c (zs_callV0 X (pc := 92) zc_X9 (fun _ ht => ⟨(zCB ht gw_9_36 gw_1_13 gw_9_33 rfl rfl (by decide +kernel) ⟨Nat.le_of_ble_eq_true rfl, Nat.le_of_ble_eq_true rfl⟩), ht _ (.tail _ gw_9_35), ht _ (.tail _ gp_71)⟩) h4 hout (by decide +kernel)) <|
    zall_c (zs_iret X (pc := 95) rfl (by decide +kernel)) <|
    zall_c (zs_aload_n X (pc := 96) (q := 0) rfl (by decide +kernel)) <|
    zall_c (zs_iload_n X (pc := 97) (q := 1) rfl (by decide +kernel)) <|
    zall_c (zs_iload_n X (pc := 98) (q := 2) rfl (by decide +kernel)) <|
    zall_c (zs_callV0 X (pc := 99) zc_X9 (fun _ ht => ⟨(zCB ht gw_9_40 gw_1_13 gw_9_37 rfl rfl (by decide +kernel) ⟨Nat.le_of_ble_eq_true rfl, Nat.le_of_ble_eq_true rfl⟩), ht _ (.tail _ gw_9_39), ht _ (.tail _ gp_72)⟩) h5 hout (by decide +kernel)) <|
    zall_c (zs_if_eq X (pc := 102) (off := 13) (by decide +kernel) (by decide)) <|
    zall_c (zs_aload_n X (pc := 105) (q := 0) rfl (by decide +kernel)) <|
    zall_c (zs_iload_n X (pc := 106) (q := 1) rfl (by decide +kernel)) <|
    zall_c (zs_iload_n X (pc := 107) (q := 2) rfl (by decide +kernel)) <|
    zall_c (zs_iconst X (pc := 108) (by decide) (by decide +kernel)) <|
    zall_c (zs_callV0 X (pc := 109) zc_X9 (fun _ ht => ⟨(zCB ht gw_9_36 gw_1_13 gw_9_33 rfl rfl (by decide +kernel) ⟨Nat.le_of_ble_eq_true rfl, Nat.le_of_ble_eq_true rfl⟩), ht _ (.tail _ gw_9_35), ht _ (.tail _ gp_71)⟩) h4 hout (by decide +kernel)) <|
    zall_c (zs_goto X (pc := 112) (off := 4) (by decide +kernel) (by decide)) <|
    zall_c (zs_iconst X (pc := 115) (by decide) (by decide +kernel)) <|
    zall_c (zs_iret X (pc := 116) rfl (by decide +kernel)) <|
    zall_n
theorem met_X9_taking {l : Launch} (hl : l.stackTraces = false) {T0 : ZTf} {T1 : ZTf} {T2 : ZTf} {T3 : ZTf} {T4 : ZTf} {T5 : ZTf} (h0 : zMet l yX9_isRow (Cond.code yX9_isRow cX9_isRow 2 (Option.some Jvm.ClassFile.FieldType.boolean) :: zG) rm_X9_isRow 0 0 T0) (h1 : zMet l yX9_manyAt (Cond.code yX9_manyAt cX9_manyAt 2 (Option.some Jvm.ClassFile.FieldType.int) :: zG) rm_X9_manyAt 0 0 T1) (h2 : zMet l yX9_in (Cond.code yX9_in cX9_in 6 (Option.some Jvm.ClassFile.FieldType.boolean) :: zG) rm_X9_in 0 0 T2) (h3 : zMet l yX9_passes2 (Cond.code yX9_passes2 cX9_passes2 3 (Option.some Jvm.ClassFile.FieldType.boolean) :: zG) rm_X9_passes2 0 0 T3) (h4 : zMet l yX9_ofTaking (Cond.code yX9_ofTaking cX9_ofTaking 4 (Option.some Jvm.ClassFile.FieldType.int) :: zG) rm_X9_ofTaking 0 0 T4) (h5 : zMet l yX9_isInWork (Cond.code yX9_isInWork cX9_isInWork 3 (Option.some Jvm.ClassFile.FieldType.boolean) :: zG) rm_X9_isInWork 0 0 T5) {T : ZTf} (bd : zBd (cd_X9_taking T0 T1 T2 T3 T4 T5) 5 0 0 T) : zMet l yX9_taking (Cond.code yX9_taking cX9_taking 5 (Option.some Jvm.ClassFile.FieldType.int) :: zG) rm_X9_taking 0 0 T := zMet_of hl (by decide +kernel) rfl rfl rfl rfl (hs_X9_taking hl h0 h1 h2 h3 h4 h5) bd

abbrev rm_X9_finishers : Room := { frames := 3, cells := 0, slots := 0, locals := 76 }
def cd_X9_finishers (T0 : ZTf) (T1 : ZTf) (T2 : ZTf) : List (Nat × ZTr) := [(0, tAld 0 1), (1, tAld 0 2), (2, tIld 1 3), (3, tCall0 2 T0 (zRcv 12) 6), (6, tCall0 2 T1 (zRcv 12) 9), (9, tIf_eq 21 12), (12, tAld 0 13), (13, tIld 1 14), (14, tC (zi 5) 15), (15, tCall0 3 T2 (zRcv 12) 18), (18, tGo 22), (21, tC (zi 0) 22), (22, tRi (fun _ => True))]
set_option maxRecDepth 100000 in
set_option maxHeartbeats 4000000 in
theorem hs_X9_finishers {l : Launch} (hl : l.stackTraces = false) {T0 : ZTf} {T1 : ZTf} {T2 : ZTf} (h0 : zMet l yX9_isRow (Cond.code yX9_isRow cX9_isRow 2 (Option.some Jvm.ClassFile.FieldType.boolean) :: zG) rm_X9_isRow 0 0 T0) (h1 : zMet l yX9_passes (Cond.code yX9_passes cX9_passes 2 (Option.some Jvm.ClassFile.FieldType.boolean) :: zG) rm_X9_passes 0 0 T1) (h2 : zMet l yX9_ofRow (Cond.code yX9_ofRow cX9_ofRow 3 (Option.some Jvm.ClassFile.FieldType.int) :: zG) rm_X9_ofRow 0 0 T2) (p : Program) (e : Env) (s : State) (m : MethodId) (args : Array Value) (below : List Frame) (meth : Method) (c : Code) (D : va_G) (A : Nat → Prop) (a0 : Nat → Nat) (M0 : ZM) (K : ZRet) (KX : ZEx) (X : zCtx p l rm_X9_finishers s m args meth c cX9_finishers RX9 (Cond.code yX9_finishers cX9_finishers 2 (Option.some Jvm.ClassFile.FieldType.int) :: zG) 2 (Option.some Jvm.ClassFile.FieldType.int) D A a0 M0 0 0) (hnm : meth.name = yX9_finishers.name) (hout : ∀ x ∈ c.exceptionTable.toList, False) : ∀ q ∈ cd_X9_finishers T0 T1 T2, zSd p l e rm_X9_finishers s m args below meth c 2 D A a0 M0 K KX 0 0 q.1 q.2 :=
    zall_c (zs_aload_n X (pc := 0) (q := 0) rfl (by decide +kernel)) <|
    zall_c (zs_aload_n X (pc := 1) (q := 0) rfl (by decide +kernel)) <|
    zall_c (zs_iload_n X (pc := 2) (q := 1) rfl (by decide +kernel)) <|
    zall_c (zs_callV0 X (pc := 3) zc_X9 (fun _ ht => ⟨(zCB ht gw_9_48 gw_1_13 gw_9_45 rfl rfl (by decide +kernel) ⟨Nat.le_of_ble_eq_true rfl, Nat.le_of_ble_eq_true rfl⟩), ht _ (.tail _ gw_9_47), ht _ (.tail _ gp_73)⟩) h0 hout (by decide +kernel)) <|
    zall_c (zs_callV0 X (pc := 6) zc_X9 (fun _ ht => ⟨(zCB ht gw_8_49 gw_1_13 gw_8_46 rfl rfl (by decide +kernel) ⟨Nat.le_of_ble_eq_true rfl, Nat.le_of_ble_eq_true rfl⟩), ht _ (.tail _ gw_8_48), ht _ (.tail _ gp_28)⟩) h1 hout (by decide +kernel)) <|
    zall_c (zs_if_eq X (pc := 9) (off := 12) (by decide +kernel) (by decide)) <|
    zall_c (zs_aload_n X (pc := 12) (q := 0) rfl (by decide +kernel)) <|
    zall_c (zs_iload_n X (pc := 13) (q := 1) rfl (by decide +kernel)) <|
    zall_c (zs_iconst X (pc := 14) (by decide) (by decide +kernel)) <|
    zall_c (zs_callV0 X (pc := 15) zc_X9 (fun _ ht => ⟨(zCB ht gw_8_239 gw_1_13 gw_8_236 rfl rfl (by decide +kernel) ⟨Nat.le_of_ble_eq_true rfl, Nat.le_of_ble_eq_true rfl⟩), ht _ (.tail _ gw_8_238), ht _ (.tail _ gp_63)⟩) h2 hout (by decide +kernel)) <|
    zall_c (zs_goto X (pc := 18) (off := 4) (by decide +kernel) (by decide)) <|
    zall_c (zs_iconst X (pc := 21) (by decide) (by decide +kernel)) <|
    zall_c (zs_iret X (pc := 22) rfl (by decide +kernel)) <|
    zall_n
theorem met_X9_finishers {l : Launch} (hl : l.stackTraces = false) {T0 : ZTf} {T1 : ZTf} {T2 : ZTf} (h0 : zMet l yX9_isRow (Cond.code yX9_isRow cX9_isRow 2 (Option.some Jvm.ClassFile.FieldType.boolean) :: zG) rm_X9_isRow 0 0 T0) (h1 : zMet l yX9_passes (Cond.code yX9_passes cX9_passes 2 (Option.some Jvm.ClassFile.FieldType.boolean) :: zG) rm_X9_passes 0 0 T1) (h2 : zMet l yX9_ofRow (Cond.code yX9_ofRow cX9_ofRow 3 (Option.some Jvm.ClassFile.FieldType.int) :: zG) rm_X9_ofRow 0 0 T2) {T : ZTf} (bd : zBd (cd_X9_finishers T0 T1 T2) 2 0 0 T) : zMet l yX9_finishers (Cond.code yX9_finishers cX9_finishers 2 (Option.some Jvm.ClassFile.FieldType.int) :: zG) rm_X9_finishers 0 0 T := zMet_of hl (by decide +kernel) rfl rfl rfl rfl (hs_X9_finishers hl h0 h1 h2) bd

abbrev rm_X9_areThere : Room := { frames := 3, cells := 0, slots := 0, locals := 76 }
def cd_X9_areThere (T0 : ZTf) (T1 : ZTf) : List (Nat × ZTr) := [(0, tAld 0 1), (1, tIld 1 2), (2, tCall0 2 T0 (zRcv 12) 5), (5, tIf_eq 20 8), (8, tAld 0 9), (9, tIld 2 10), (10, tCall0 2 T1 (zRcv 12) 13), (13, tIf_eq 20 16), (16, tC (zi 1) 17), (17, tGo 21), (20, tC (zi 0) 21), (21, tRi zPz)]
set_option maxRecDepth 100000 in
set_option maxHeartbeats 4000000 in
theorem hs_X9_areThere {l : Launch} (hl : l.stackTraces = false) {T0 : ZTf} {T1 : ZTf} (h0 : zMet l yX9_isWorker (Cond.code yX9_isWorker cX9_isWorker 2 (Option.some Jvm.ClassFile.FieldType.boolean) :: zG) rm_X9_isWorker 0 0 T0) (h1 : zMet l yX9_isRow (Cond.code yX9_isRow cX9_isRow 2 (Option.some Jvm.ClassFile.FieldType.boolean) :: zG) rm_X9_isRow 0 0 T1) (p : Program) (e : Env) (s : State) (m : MethodId) (args : Array Value) (below : List Frame) (meth : Method) (c : Code) (D : va_G) (A : Nat → Prop) (a0 : Nat → Nat) (M0 : ZM) (K : ZRet) (KX : ZEx) (X : zCtx p l rm_X9_areThere s m args meth c cX9_areThere RX9 (Cond.code yX9_areThere cX9_areThere 3 (Option.some Jvm.ClassFile.FieldType.boolean) :: zG) 3 (Option.some Jvm.ClassFile.FieldType.boolean) D A a0 M0 0 0) (hnm : meth.name = yX9_areThere.name) (hout : ∀ x ∈ c.exceptionTable.toList, False) : ∀ q ∈ cd_X9_areThere T0 T1, zSd p l e rm_X9_areThere s m args below meth c 3 D A a0 M0 K KX 0 0 q.1 q.2 :=
    zall_c (zs_aload_n X (pc := 0) (q := 0) rfl (by decide +kernel)) <|
    zall_c (zs_iload_n X (pc := 1) (q := 1) rfl (by decide +kernel)) <|
    zall_c (zs_callV0 X (pc := 2) zc_X9 (fun _ ht => ⟨(zCB ht gw_9_11 gw_1_13 gw_9_8 rfl rfl (by decide +kernel) ⟨Nat.le_of_ble_eq_true rfl, Nat.le_of_ble_eq_true rfl⟩), ht _ (.tail _ gw_9_10), ht _ (.tail _ gp_65)⟩) h0 hout (by decide +kernel)) <|
    zall_c (zs_if_eq X (pc := 5) (off := 15) (by decide +kernel) (by decide)) <|
    zall_c (zs_aload_n X (pc := 8) (q := 0) rfl (by decide +kernel)) <|
    zall_c (zs_iload_n X (pc := 9) (q := 2) rfl (by decide +kernel)) <|
    zall_c (zs_callV0 X (pc := 10) zc_X9 (fun _ ht => ⟨(zCB ht gw_9_48 gw_1_13 gw_9_45 rfl rfl (by decide +kernel) ⟨Nat.le_of_ble_eq_true rfl, Nat.le_of_ble_eq_true rfl⟩), ht _ (.tail _ gw_9_47), ht _ (.tail _ gp_73)⟩) h1 hout (by decide +kernel)) <|
    zall_c (zs_if_eq X (pc := 13) (off := 7) (by decide +kernel) (by decide)) <|
    zall_c (zs_iconst X (pc := 16) (by decide) (by decide +kernel)) <|
    zall_c (zs_goto X (pc := 17) (off := 4) (by decide +kernel) (by decide)) <|
    zall_c (zs_iconst X (pc := 20) (by decide) (by decide +kernel)) <|
    zall_c (zs_zret X (pc := 21) rfl zR_bool (by decide +kernel)) <|
    zall_n
theorem met_X9_areThere {l : Launch} (hl : l.stackTraces = false) {T0 : ZTf} {T1 : ZTf} (h0 : zMet l yX9_isWorker (Cond.code yX9_isWorker cX9_isWorker 2 (Option.some Jvm.ClassFile.FieldType.boolean) :: zG) rm_X9_isWorker 0 0 T0) (h1 : zMet l yX9_isRow (Cond.code yX9_isRow cX9_isRow 2 (Option.some Jvm.ClassFile.FieldType.boolean) :: zG) rm_X9_isRow 0 0 T1) {T : ZTf} (bd : zBd (cd_X9_areThere T0 T1) 3 0 0 T) : zMet l yX9_areThere (Cond.code yX9_areThere cX9_areThere 3 (Option.some Jvm.ClassFile.FieldType.boolean) :: zG) rm_X9_areThere 0 0 T := zMet_of hl (by decide +kernel) rfl rfl rfl rfl (hs_X9_areThere hl h0 h1) bd

abbrev rm_X9_refusal : Room := { frames := 7, cells := 0, slots := 0, locals := 166 }
def cd_X9_refusal (T0 : ZTf) (T1 : ZTf) (T2 : ZTf) : List (Nat × ZTr) := [(0, tAld 0 1), (1, tAld 0 2), (2, tIld 1 3), (3, tIld 2 4), (4, tCall0 3 T0 (zRcv 12) 7), (7, tCall0 2 T1 (zRcv 12) 10), (10, tIf_eq 22 13), (13, tAld 0 14), (14, tIld 1 15), (15, tIld 2 16), (16, tCall0 3 T2 (zRcv 12) 19), (19, tGo 23), (22, tC (zi 0) 23), (23, tRi (fun _ => True))]
set_option maxRecDepth 100000 in
set_option maxHeartbeats 4000000 in
theorem hs_X9_refusal {l : Launch} (hl : l.stackTraces = false) {T0 : ZTf} {T1 : ZTf} {T2 : ZTf} (h0 : zMet l yX9_areThere (Cond.code yX9_areThere cX9_areThere 3 (Option.some Jvm.ClassFile.FieldType.boolean) :: zG) rm_X9_areThere 0 0 T0) (h1 : zMet l yX9_passes (Cond.code yX9_passes cX9_passes 2 (Option.some Jvm.ClassFile.FieldType.boolean) :: zG) rm_X9_passes 0 0 T1) (h2 : zMet l yX9_refusalOf (Cond.code yX9_refusalOf cX9_refusalOf 3 (Option.some Jvm.ClassFile.FieldType.int) :: zG) rm_X9_refusalOf 0 0 T2) (p : Program) (e : Env) (s : State) (m : MethodId) (args : Array Value) (below : List Frame) (meth : Method) (c : Code) (D : va_G) (A : Nat → Prop) (a0 : Nat → Nat) (M0 : ZM) (K : ZRet) (KX : ZEx) (X : zCtx p l rm_X9_refusal s m args meth c cX9_refusal RX9 (Cond.code yX9_refusal cX9_refusal 3 (Option.some Jvm.ClassFile.FieldType.int) :: zG) 3 (Option.some Jvm.ClassFile.FieldType.int) D A a0 M0 0 0) (hnm : meth.name = yX9_refusal.name) (hout : ∀ x ∈ c.exceptionTable.toList, False) : ∀ q ∈ cd_X9_refusal T0 T1 T2, zSd p l e rm_X9_refusal s m args below meth c 3 D A a0 M0 K KX 0 0 q.1 q.2 :=
    zall_c (zs_aload_n X (pc := 0) (q := 0) rfl (by decide +kernel)) <|
    zall_c (zs_aload_n X (pc := 1) (q := 0) rfl (by decide +kernel)) <|
    zall_c (zs_iload_n X (pc := 2) (q := 1) rfl (by decide +kernel)) <|
    zall_c (zs_iload_n X (pc := 3) (q := 2) rfl (by decide +kernel)) <|
    zall_c (zs_callV0 X (pc := 4) zc_X9 (fun _ ht => ⟨(zCB ht gw_9_70 gw_1_13 gw_9_67 rfl rfl (by decide +kernel) ⟨Nat.le_of_ble_eq_true rfl, Nat.le_of_ble_eq_true rfl⟩), ht _ (.tail _ gw_9_69), ht _ (.tail _ gp_75)⟩) h0 hout (by decide +kernel)) <|
    zall_c (zs_callV0 X (pc := 7) zc_X9 (fun _ ht => ⟨(zCB ht gw_8_49 gw_1_13 gw_8_46 rfl rfl (by decide +kernel) ⟨Nat.le_of_ble_eq_true rfl, Nat.le_of_ble_eq_true rfl⟩), ht _ (.tail _ gw_8_48), ht _ (.tail _ gp_28)⟩) h1 hout (by decide +kernel)) <|
    zall_c (zs_if_eq X (pc := 10) (off := 12) (by decide +kernel) (by decide)) <|
    zall_c (zs_aload_n X (pc := 13) (q := 0) rfl (by decide +kernel)) <|
    zall_c (zs_iload_n X (pc := 14) (q := 1) rfl (by decide +kernel)) <|
    zall_c (zs_iload_n X (pc := 15) (q := 2) rfl (by decide +kernel)) <|
    zall_c (zs_callV0 X (pc := 16) zc_X9 (fun _ ht => ⟨(zCB ht gw_9_74 gw_1_13 gw_9_71 rfl rfl (by decide +kernel) ⟨Nat.le_of_ble_eq_true rfl, Nat.le_of_ble_eq_true rfl⟩), ht _ (.tail _ gw_9_73), ht _ (.tail _ gp_76)⟩) h2 hout (by decide +kernel)) <|
    zall_c (zs_goto X (pc := 19) (off := 4) (by decide +kernel) (by decide)) <|
    zall_c (zs_iconst X (pc := 22) (by decide) (by decide +kernel)) <|
    zall_c (zs_iret X (pc := 23) rfl (by decide +kernel)) <|
    zall_n
theorem met_X9_refusal {l : Launch} (hl : l.stackTraces = false) {T0 : ZTf} {T1 : ZTf} {T2 : ZTf} (h0 : zMet l yX9_areThere (Cond.code yX9_areThere cX9_areThere 3 (Option.some Jvm.ClassFile.FieldType.boolean) :: zG) rm_X9_areThere 0 0 T0) (h1 : zMet l yX9_passes (Cond.code yX9_passes cX9_passes 2 (Option.some Jvm.ClassFile.FieldType.boolean) :: zG) rm_X9_passes 0 0 T1) (h2 : zMet l yX9_refusalOf (Cond.code yX9_refusalOf cX9_refusalOf 3 (Option.some Jvm.ClassFile.FieldType.int) :: zG) rm_X9_refusalOf 0 0 T2) {T : ZTf} (bd : zBd (cd_X9_refusal T0 T1 T2) 3 0 0 T) : zMet l yX9_refusal (Cond.code yX9_refusal cX9_refusal 3 (Option.some Jvm.ClassFile.FieldType.int) :: zG) rm_X9_refusal 0 0 T := zMet_of hl (by decide +kernel) rfl rfl rfl rfl (hs_X9_refusal hl h0 h1 h2) bd

abbrev rm_X9_offers : Room := { frames := 8, cells := 0, slots := 0, locals := 188 }
def cd_X9_offers (T0 : ZTf) (T1 : ZTf) (T2 : ZTf) (T3 : ZTf) : List (Nat × ZTr) := [(0, tAld 0 1), (1, tAld 0 2), (2, tIld 1 3), (3, tCall0 2 T0 (zRcv 12) 6), (6, tCall0 2 T1 (zRcv 12) 9), (9, tIf_ne 14 12), (12, tC (zi 0) 13), (13, tRi (fun _ => True)), (14, tC (zi 0) 15), (15, tIst 2 16), (16, tC (zi 0) 17), (17, tIst 3 18), (18, tIld 3 19), (19, tAld 0 20), (20, tCall0 1 T2 (zRcv 12) 23), (23, tIc_ge 51 26), (26, tIld 2 27), (27, tAld 0 28), (28, tIld 1 29), (29, tIld 3 30), (30, tCall0 3 T3 (zRcv 12) 33), (33, tIf_eq 42 36), (36, tC (zi 1) 37), (37, tIld 3 38), (38, tBif zshl 39), (39, tGo 43), (42, tC (zi 0) 43), (43, tBif zor 44), (44, tIst 2 45), (45, tInc 3 1 48), (48, tGo 18), (51, tIld 2 52), (52, tRi (fun _ => True))]
set_option maxRecDepth 100000 in
set_option maxHeartbeats 4000000 in
theorem hs_X9_offers {l : Launch} (hl : l.stackTraces = false) {T0 : ZTf} {T1 : ZTf} {T2 : ZTf} {T3 : ZTf} (h0 : zMet l yX9_isWorker (Cond.code yX9_isWorker cX9_isWorker 2 (Option.some Jvm.ClassFile.FieldType.boolean) :: zG) rm_X9_isWorker 0 0 T0) (h1 : zMet l yX9_passes (Cond.code yX9_passes cX9_passes 2 (Option.some Jvm.ClassFile.FieldType.boolean) :: zG) rm_X9_passes 0 0 T1) (h2 : zMet l yX9_rows (Cond.code yX9_rows cX9_rows 1 (Option.some Jvm.ClassFile.FieldType.int) :: zG) rm_X9_rows 0 0 T2) (h3 : zMet l yX9_canTake (Cond.code yX9_canTake cX9_canTake 3 (Option.some Jvm.ClassFile.FieldType.boolean) :: zG) rm_X9_canTake 0 0 T3) (p : Program) (e : Env) (s : State) (m : MethodId) (args : Array Value) (below : List Frame) (meth : Method) (c : Code) (D : va_G) (A : Nat → Prop) (a0 : Nat → Nat) (M0 : ZM) (K : ZRet) (KX : ZEx) (X : zCtx p l rm_X9_offers s m args meth c cX9_offers RX9 (Cond.code yX9_offers cX9_offers 4 (Option.some Jvm.ClassFile.FieldType.int) :: zG) 4 (Option.some Jvm.ClassFile.FieldType.int) D A a0 M0 0 0) (hnm : meth.name = yX9_offers.name) (hout : ∀ x ∈ c.exceptionTable.toList, False) : ∀ q ∈ cd_X9_offers T0 T1 T2 T3, zSd p l e rm_X9_offers s m args below meth c 4 D A a0 M0 K KX 0 0 q.1 q.2 :=
    zall_c (zs_aload_n X (pc := 0) (q := 0) rfl (by decide +kernel)) <|
    zall_c (zs_aload_n X (pc := 1) (q := 0) rfl (by decide +kernel)) <|
    zall_c (zs_iload_n X (pc := 2) (q := 1) rfl (by decide +kernel)) <|
    zall_c (zs_callV0 X (pc := 3) zc_X9 (fun _ ht => ⟨(zCB ht gw_9_11 gw_1_13 gw_9_8 rfl rfl (by decide +kernel) ⟨Nat.le_of_ble_eq_true rfl, Nat.le_of_ble_eq_true rfl⟩), ht _ (.tail _ gw_9_10), ht _ (.tail _ gp_65)⟩) h0 hout (by decide +kernel)) <|
    zall_c (zs_callV0 X (pc := 6) zc_X9 (fun _ ht => ⟨(zCB ht gw_8_49 gw_1_13 gw_8_46 rfl rfl (by decide +kernel) ⟨Nat.le_of_ble_eq_true rfl, Nat.le_of_ble_eq_true rfl⟩), ht _ (.tail _ gw_8_48), ht _ (.tail _ gp_28)⟩) h1 hout (by decide +kernel)) <|
    zall_c (zs_if_ne X (pc := 9) (off := 5) (by decide +kernel) (by decide)) <|
    zall_c (zs_iconst X (pc := 12) (by decide) (by decide +kernel)) <|
    zall_c (zs_iret X (pc := 13) rfl (by decide +kernel)) <|
    zall_c (zs_iconst X (pc := 14) (by decide) (by decide +kernel)) <|
    zall_c (zs_istore_n X (pc := 15) (q := 2) rfl (by decide) (by decide +kernel)) <|
    zall_c (zs_iconst X (pc := 16) (by decide) (by decide +kernel)) <|
    zall_c (zs_istore_n X (pc := 17) (q := 3) rfl (by decide) (by decide +kernel)) <|
    zall_c (zs_iload_n X (pc := 18) (q := 3) rfl (by decide +kernel)) <|
    zall_c (zs_aload_n X (pc := 19) (q := 0) rfl (by decide +kernel)) <|
    zall_c (zs_callV0 X (pc := 20) zc_X9 (fun _ ht => ⟨(zCB ht gw_8_173 gw_1_13 gw_8_170 rfl rfl (by decide +kernel) ⟨Nat.le_of_ble_eq_true rfl, Nat.le_of_ble_eq_true rfl⟩), ht _ (.tail _ gw_8_172), ht _ (.tail _ gp_51)⟩) h2 hout (by decide +kernel)) <|
    zall_c (zs_icmp_ge X (pc := 23) (off := 28) (by decide +kernel) (by decide)) <|
    zall_c (zs_iload_n X (pc := 26) (q := 2) rfl (by decide +kernel)) <|
    zall_c (zs_aload_n X (pc := 27) (q := 0) rfl (by decide +kernel)) <|
    zall_c (zs_iload_n X (pc := 28) (q := 1) rfl (by decide +kernel)) <|
    zall_c (zs_iload_n X (pc := 29) (q := 3) rfl (by decide +kernel)) <|
    zall_c (zs_callV0 X (pc := 30) zc_X9 (fun _ ht => ⟨(zCB ht gw_9_101 gw_1_13 gw_9_98 rfl rfl (by decide +kernel) ⟨Nat.le_of_ble_eq_true rfl, Nat.le_of_ble_eq_true rfl⟩), ht _ (.tail _ gw_9_100), ht _ (.tail _ gp_81)⟩) h3 hout (by decide +kernel)) <|
    zall_c (zs_if_eq X (pc := 33) (off := 9) (by decide +kernel) (by decide)) <|
    zall_c (zs_iconst X (pc := 36) (by decide) (by decide +kernel)) <|
    zall_c (zs_iload_n X (pc := 37) (q := 3) rfl (by decide +kernel)) <|
    zall_c (zs_ishl X (pc := 38) (by decide +kernel)) <|
    zall_c (zs_goto X (pc := 39) (off := 4) (by decide +kernel) (by decide)) <|
    zall_c (zs_iconst X (pc := 42) (by decide) (by decide +kernel)) <|
    zall_c (zs_ior X (pc := 43) (by decide +kernel)) <|
    zall_c (zs_istore_n X (pc := 44) (q := 2) rfl (by decide) (by decide +kernel)) <|
    zall_c (zs_iinc X (pc := 45) (by decide) (by decide +kernel)) <|
    zall_c (zs_goto X (pc := 48) (off := (-30)) (by decide +kernel) (by decide)) <|
    zall_c (zs_iload_n X (pc := 51) (q := 2) rfl (by decide +kernel)) <|
    zall_c (zs_iret X (pc := 52) rfl (by decide +kernel)) <|
    zall_n
theorem met_X9_offers {l : Launch} (hl : l.stackTraces = false) {T0 : ZTf} {T1 : ZTf} {T2 : ZTf} {T3 : ZTf} (h0 : zMet l yX9_isWorker (Cond.code yX9_isWorker cX9_isWorker 2 (Option.some Jvm.ClassFile.FieldType.boolean) :: zG) rm_X9_isWorker 0 0 T0) (h1 : zMet l yX9_passes (Cond.code yX9_passes cX9_passes 2 (Option.some Jvm.ClassFile.FieldType.boolean) :: zG) rm_X9_passes 0 0 T1) (h2 : zMet l yX9_rows (Cond.code yX9_rows cX9_rows 1 (Option.some Jvm.ClassFile.FieldType.int) :: zG) rm_X9_rows 0 0 T2) (h3 : zMet l yX9_canTake (Cond.code yX9_canTake cX9_canTake 3 (Option.some Jvm.ClassFile.FieldType.boolean) :: zG) rm_X9_canTake 0 0 T3) {T : ZTf} (bd : zBd (cd_X9_offers T0 T1 T2 T3) 4 0 0 T) : zMet l yX9_offers (Cond.code yX9_offers cX9_offers 4 (Option.some Jvm.ClassFile.FieldType.int) :: zG) rm_X9_offers 0 0 T := zMet_of hl (by decide +kernel) rfl rfl rfl rfl (hs_X9_offers hl h0 h1 h2 h3) bd

abbrev rm_X9_urgency : Room := { frames := 3, cells := 0, slots := 0, locals := 73 }
def cd_X9_urgency (T0 : ZTf) (T1 : ZTf) : List (Nat × ZTr) := [(0, tAld 0 1), (1, tIld 1 2), (2, tC (zi 1) 3), (3, tCall0 3 T0 (zRcv 12) 6), (6, tC (zi 1) 7), (7, tIc_ne 14 10), (10, tC (zi 2) 11), (11, tGo 27), (14, tAld 0 15), (15, tIld 1 16), (16, tCall0 2 T1 (zRcv 12) 19), (19, tIf_le 26 22), (22, tC (zi 1) 23), (23, tGo 27), (26, tC (zi 0) 27), (27, tRi (fun _ => True))]
set_option maxRecDepth 100000 in
set_option maxHeartbeats 4000000 in
theorem hs_X9_urgency {l : Launch} (hl : l.stackTraces = false) {T0 : ZTf} {T1 : ZTf} (h0 : zMet l yX9_ofRow (Cond.code yX9_ofRow cX9_ofRow 3 (Option.some Jvm.ClassFile.FieldType.int) :: zG) rm_X9_ofRow 0 0 T0) (h1 : zMet l yX9_manyAt (Cond.code yX9_manyAt cX9_manyAt 2 (Option.some Jvm.ClassFile.FieldType.int) :: zG) rm_X9_manyAt 0 0 T1) (p : Program) (e : Env) (s : State) (m : MethodId) (args : Array Value) (below : List Frame) (meth : Method) (c : Code) (D : va_G) (A : Nat → Prop) (a0 : Nat → Nat) (M0 : ZM) (K : ZRet) (KX : ZEx) (X : zCtx p l rm_X9_urgency s m args meth c cX9_urgency RX9 (Cond.code yX9_urgency cX9_urgency 2 (Option.some Jvm.ClassFile.FieldType.int) :: zG) 2 (Option.some Jvm.ClassFile.FieldType.int) D A a0 M0 0 0) (hnm : meth.name = yX9_urgency.name) (hout : ∀ x ∈ c.exceptionTable.toList, False) : ∀ q ∈ cd_X9_urgency T0 T1, zSd p l e rm_X9_urgency s m args below meth c 2 D A a0 M0 K KX 0 0 q.1 q.2 :=
    zall_c (zs_aload_n X (pc := 0) (q := 0) rfl (by decide +kernel)) <|
    zall_c (zs_iload_n X (pc := 1) (q := 1) rfl (by decide +kernel)) <|
    zall_c (zs_iconst X (pc := 2) (by decide) (by decide +kernel)) <|
    zall_c (zs_callV0 X (pc := 3) zc_X9 (fun _ ht => ⟨(zCB ht gw_8_239 gw_1_13 gw_8_236 rfl rfl (by decide +kernel) ⟨Nat.le_of_ble_eq_true rfl, Nat.le_of_ble_eq_true rfl⟩), ht _ (.tail _ gw_8_238), ht _ (.tail _ gp_63)⟩) h0 hout (by decide +kernel)) <|
    zall_c (zs_iconst X (pc := 6) (by decide) (by decide +kernel)) <|
    zall_c (zs_icmp_ne X (pc := 7) (off := 7) (by decide +kernel) (by decide)) <|
    zall_c (zs_iconst X (pc := 10) (by decide) (by decide +kernel)) <|
    zall_c (zs_goto X (pc := 11) (off := 16) (by decide +kernel) (by decide)) <|
    zall_c (zs_aload_n X (pc := 14) (q := 0) rfl (by decide +kernel)) <|
    zall_c (zs_iload_n X (pc := 15) (q := 1) rfl (by decide +kernel)) <|
    zall_c (zs_callV0 X (pc := 16) zc_X9 (fun _ ht => ⟨(zCB ht gw_9_32 gw_1_13 gw_9_29 rfl rfl (by decide +kernel) ⟨Nat.le_of_ble_eq_true rfl, Nat.le_of_ble_eq_true rfl⟩), ht _ (.tail _ gw_9_31), ht _ (.tail _ gp_70)⟩) h1 hout (by decide +kernel)) <|
    zall_c (zs_if_le X (pc := 19) (off := 7) (by decide +kernel) (by decide)) <|
    zall_c (zs_iconst X (pc := 22) (by decide) (by decide +kernel)) <|
    zall_c (zs_goto X (pc := 23) (off := 4) (by decide +kernel) (by decide)) <|
    zall_c (zs_iconst X (pc := 26) (by decide) (by decide +kernel)) <|
    zall_c (zs_iret X (pc := 27) rfl (by decide +kernel)) <|
    zall_n
theorem met_X9_urgency {l : Launch} (hl : l.stackTraces = false) {T0 : ZTf} {T1 : ZTf} (h0 : zMet l yX9_ofRow (Cond.code yX9_ofRow cX9_ofRow 3 (Option.some Jvm.ClassFile.FieldType.int) :: zG) rm_X9_ofRow 0 0 T0) (h1 : zMet l yX9_manyAt (Cond.code yX9_manyAt cX9_manyAt 2 (Option.some Jvm.ClassFile.FieldType.int) :: zG) rm_X9_manyAt 0 0 T1) {T : ZTf} (bd : zBd (cd_X9_urgency T0 T1) 2 0 0 T) : zMet l yX9_urgency (Cond.code yX9_urgency cX9_urgency 2 (Option.some Jvm.ClassFile.FieldType.int) :: zG) rm_X9_urgency 0 0 T := zMet_of hl (by decide +kernel) rfl rfl rfl rfl (hs_X9_urgency hl h0 h1) bd

abbrev rm_X9_nextOf : Room := { frames := 8, cells := 0, slots := 0, locals := 188 }
def cd_X9_nextOf (T0 : ZTf) (T1 : ZTf) (T2 : ZTf) : List (Nat × ZTr) := [(0, tC (zi (-1)) 1), (1, tIst 2 2), (2, tC (zi 0) 3), (3, tIst 3 4), (4, tIld 3 5), (5, tAld 0 6), (6, tCall0 1 T0 (zRcv 12) 9), (9, tIc_ge 47 12), (12, tAld 0 13), (13, tIld 1 14), (14, tIld 3 15), (15, tCall0 3 T1 (zRcv 12) 18), (18, tIf_eq 41 21), (21, tIld 2 22), (22, tC (zi (-1)) 23), (23, tIc_eq 39 26), (26, tAld 0 27), (27, tIld 3 28), (28, tCall0 2 T2 (zRcv 12) 31), (31, tAld 0 32), (32, tIld 2 33), (33, tCall0 2 T2 (zRcv 12) 36), (36, tIc_le 41 39), (39, tIld 3 40), (40, tIst 2 41), (41, tInc 3 1 44), (44, tGo 4), (47, tIld 2 48), (48, tRi (fun _ => True))]
set_option maxRecDepth 100000 in
set_option maxHeartbeats 4000000 in
theorem hs_X9_nextOf {l : Launch} (hl : l.stackTraces = false) {T0 : ZTf} {T1 : ZTf} {T2 : ZTf} (h0 : zMet l yX9_rows (Cond.code yX9_rows cX9_rows 1 (Option.some Jvm.ClassFile.FieldType.int) :: zG) rm_X9_rows 0 0 T0) (h1 : zMet l yX9_canTake (Cond.code yX9_canTake cX9_canTake 3 (Option.some Jvm.ClassFile.FieldType.boolean) :: zG) rm_X9_canTake 0 0 T1) (h2 : zMet l yX9_urgency (Cond.code yX9_urgency cX9_urgency 2 (Option.some Jvm.ClassFile.FieldType.int) :: zG) rm_X9_urgency 0 0 T2) (p : Program) (e : Env) (s : State) (m : MethodId) (args : Array Value) (below : List Frame) (meth : Method) (c : Code) (D : va_G) (A : Nat → Prop) (a0 : Nat → Nat) (M0 : ZM) (K : ZRet) (KX : ZEx) (X : zCtx p l rm_X9_nextOf s m args meth c cX9_nextOf RX9 (Cond.code yX9_nextOf cX9_nextOf 4 (Option.some Jvm.ClassFile.FieldType.int) :: zG) 4 (Option.some Jvm.ClassFile.FieldType.int) D A a0 M0 0 0) (hnm : meth.name = yX9_nextOf.name) (hout : ∀ x ∈ c.exceptionTable.toList, False) : ∀ q ∈ cd_X9_nextOf T0 T1 T2, zSd p l e rm_X9_nextOf s m args below meth c 4 D A a0 M0 K KX 0 0 q.1 q.2 :=
    zall_c (zs_iconst X (pc := 0) (by decide) (by decide +kernel)) <|
    zall_c (zs_istore_n X (pc := 1) (q := 2) rfl (by decide) (by decide +kernel)) <|
    zall_c (zs_iconst X (pc := 2) (by decide) (by decide +kernel)) <|
    zall_c (zs_istore_n X (pc := 3) (q := 3) rfl (by decide) (by decide +kernel)) <|
    zall_c (zs_iload_n X (pc := 4) (q := 3) rfl (by decide +kernel)) <|
    zall_c (zs_aload_n X (pc := 5) (q := 0) rfl (by decide +kernel)) <|
    zall_c (zs_callV0 X (pc := 6) zc_X9 (fun _ ht => ⟨(zCB ht gw_8_173 gw_1_13 gw_8_170 rfl rfl (by decide +kernel) ⟨Nat.le_of_ble_eq_true rfl, Nat.le_of_ble_eq_true rfl⟩), ht _ (.tail _ gw_8_172), ht _ (.tail _ gp_51)⟩) h0 hout (by decide +kernel)) <|
    zall_c (zs_icmp_ge X (pc := 9) (off := 38) (by decide +kernel) (by decide)) <|
    zall_c (zs_aload_n X (pc := 12) (q := 0) rfl (by decide +kernel)) <|
    zall_c (zs_iload_n X (pc := 13) (q := 1) rfl (by decide +kernel)) <|
    zall_c (zs_iload_n X (pc := 14) (q := 3) rfl (by decide +kernel)) <|
    zall_c (zs_callV0 X (pc := 15) zc_X9 (fun _ ht => ⟨(zCB ht gw_9_101 gw_1_13 gw_9_98 rfl rfl (by decide +kernel) ⟨Nat.le_of_ble_eq_true rfl, Nat.le_of_ble_eq_true rfl⟩), ht _ (.tail _ gw_9_100), ht _ (.tail _ gp_81)⟩) h1 hout (by decide +kernel)) <|
    zall_c (zs_if_eq X (pc := 18) (off := 23) (by decide +kernel) (by decide)) <|
    zall_c (zs_iload_n X (pc := 21) (q := 2) rfl (by decide +kernel)) <|
    zall_c (zs_iconst X (pc := 22) (by decide) (by decide +kernel)) <|
    zall_c (zs_icmp_eq X (pc := 23) (off := 16) (by decide +kernel) (by decide)) <|
    zall_c (zs_aload_n X (pc := 26) (q := 0) rfl (by decide +kernel)) <|
    zall_c (zs_iload_n X (pc := 27) (q := 3) rfl (by decide +kernel)) <|
    zall_c (zs_callV0 X (pc := 28) zc_X9 (fun _ ht => ⟨(zCB ht gw_9_113 gw_1_13 gw_9_110 rfl rfl (by decide +kernel) ⟨Nat.le_of_ble_eq_true rfl, Nat.le_of_ble_eq_true rfl⟩), ht _ (.tail _ gw_9_112), ht _ (.tail _ gp_83)⟩) h2 hout (by decide +kernel)) <|
    zall_c (zs_aload_n X (pc := 31) (q := 0) rfl (by decide +kernel)) <|
    zall_c (zs_iload_n X (pc := 32) (q := 2) rfl (by decide +kernel)) <|
    zall_c (zs_callV0 X (pc := 33) zc_X9 (fun _ ht => ⟨(zCB ht gw_9_113 gw_1_13 gw_9_110 rfl rfl (by decide +kernel) ⟨Nat.le_of_ble_eq_true rfl, Nat.le_of_ble_eq_true rfl⟩), ht _ (.tail _ gw_9_112), ht _ (.tail _ gp_83)⟩) h2 hout (by decide +kernel)) <|
    zall_c (zs_icmp_le X (pc := 36) (off := 5) (by decide +kernel) (by decide)) <|
    zall_c (zs_iload_n X (pc := 39) (q := 3) rfl (by decide +kernel)) <|
    zall_c (zs_istore_n X (pc := 40) (q := 2) rfl (by decide) (by decide +kernel)) <|
    zall_c (zs_iinc X (pc := 41) (by decide) (by decide +kernel)) <|
    zall_c (zs_goto X (pc := 44) (off := (-40)) (by decide +kernel) (by decide)) <|
    zall_c (zs_iload_n X (pc := 47) (q := 2) rfl (by decide +kernel)) <|
    zall_c (zs_iret X (pc := 48) rfl (by decide +kernel)) <|
    zall_n
theorem met_X9_nextOf {l : Launch} (hl : l.stackTraces = false) {T0 : ZTf} {T1 : ZTf} {T2 : ZTf} (h0 : zMet l yX9_rows (Cond.code yX9_rows cX9_rows 1 (Option.some Jvm.ClassFile.FieldType.int) :: zG) rm_X9_rows 0 0 T0) (h1 : zMet l yX9_canTake (Cond.code yX9_canTake cX9_canTake 3 (Option.some Jvm.ClassFile.FieldType.boolean) :: zG) rm_X9_canTake 0 0 T1) (h2 : zMet l yX9_urgency (Cond.code yX9_urgency cX9_urgency 2 (Option.some Jvm.ClassFile.FieldType.int) :: zG) rm_X9_urgency 0 0 T2) {T : ZTf} (bd : zBd (cd_X9_nextOf T0 T1 T2) 4 0 0 T) : zMet l yX9_nextOf (Cond.code yX9_nextOf cX9_nextOf 4 (Option.some Jvm.ClassFile.FieldType.int) :: zG) rm_X9_nextOf 0 0 T := zMet_of hl (by decide +kernel) rfl rfl rfl rfl (hs_X9_nextOf hl h0 h1 h2) bd

abbrev rm_X9_nextFor : Room := { frames := 9, cells := 0, slots := 0, locals := 211 }
def cd_X9_nextFor (T0 : ZTf) (T1 : ZTf) (T2 : ZTf) : List (Nat × ZTr) := [(0, tAld 0 1), (1, tAld 0 2), (2, tIld 1 3), (3, tCall0 2 T0 (zRcv 12) 6), (6, tCall0 2 T1 (zRcv 12) 9), (9, tIf_eq 20 12), (12, tAld 0 13), (13, tIld 1 14), (14, tCall0 2 T2 (zRcv 12) 17), (17, tGo 21), (20, tC (zi 0) 21), (21, tRi (fun _ => True))]
set_option maxRecDepth 100000 in
set_option maxHeartbeats 4000000 in
theorem hs_X9_nextFor {l : Launch} (hl : l.stackTraces = false) {T0 : ZTf} {T1 : ZTf} {T2 : ZTf} (h0 : zMet l yX9_isWorker (Cond.code yX9_isWorker cX9_isWorker 2 (Option.some Jvm.ClassFile.FieldType.boolean) :: zG) rm_X9_isWorker 0 0 T0) (h1 : zMet l yX9_passes (Cond.code yX9_passes cX9_passes 2 (Option.some Jvm.ClassFile.FieldType.boolean) :: zG) rm_X9_passes 0 0 T1) (h2 : zMet l yX9_nextOf (Cond.code yX9_nextOf cX9_nextOf 4 (Option.some Jvm.ClassFile.FieldType.int) :: zG) rm_X9_nextOf 0 0 T2) (p : Program) (e : Env) (s : State) (m : MethodId) (args : Array Value) (below : List Frame) (meth : Method) (c : Code) (D : va_G) (A : Nat → Prop) (a0 : Nat → Nat) (M0 : ZM) (K : ZRet) (KX : ZEx) (X : zCtx p l rm_X9_nextFor s m args meth c cX9_nextFor RX9 (Cond.code yX9_nextFor cX9_nextFor 2 (Option.some Jvm.ClassFile.FieldType.int) :: zG) 2 (Option.some Jvm.ClassFile.FieldType.int) D A a0 M0 0 0) (hnm : meth.name = yX9_nextFor.name) (hout : ∀ x ∈ c.exceptionTable.toList, False) : ∀ q ∈ cd_X9_nextFor T0 T1 T2, zSd p l e rm_X9_nextFor s m args below meth c 2 D A a0 M0 K KX 0 0 q.1 q.2 :=
    zall_c (zs_aload_n X (pc := 0) (q := 0) rfl (by decide +kernel)) <|
    zall_c (zs_aload_n X (pc := 1) (q := 0) rfl (by decide +kernel)) <|
    zall_c (zs_iload_n X (pc := 2) (q := 1) rfl (by decide +kernel)) <|
    zall_c (zs_callV0 X (pc := 3) zc_X9 (fun _ ht => ⟨(zCB ht gw_9_11 gw_1_13 gw_9_8 rfl rfl (by decide +kernel) ⟨Nat.le_of_ble_eq_true rfl, Nat.le_of_ble_eq_true rfl⟩), ht _ (.tail _ gw_9_10), ht _ (.tail _ gp_65)⟩) h0 hout (by decide +kernel)) <|
    zall_c (zs_callV0 X (pc := 6) zc_X9 (fun _ ht => ⟨(zCB ht gw_8_49 gw_1_13 gw_8_46 rfl rfl (by decide +kernel) ⟨Nat.le_of_ble_eq_true rfl, Nat.le_of_ble_eq_true rfl⟩), ht _ (.tail _ gw_8_48), ht _ (.tail _ gp_28)⟩) h1 hout (by decide +kernel)) <|
    zall_c (zs_if_eq X (pc := 9) (off := 11) (by decide +kernel) (by decide)) <|
    zall_c (zs_aload_n X (pc := 12) (q := 0) rfl (by decide +kernel)) <|
    zall_c (zs_iload_n X (pc := 13) (q := 1) rfl (by decide +kernel)) <|
    zall_c (zs_callV0 X (pc := 14) zc_X9 (fun _ ht => ⟨(zCB ht gw_9_109 gw_1_13 gw_9_106 rfl rfl (by decide +kernel) ⟨Nat.le_of_ble_eq_true rfl, Nat.le_of_ble_eq_true rfl⟩), ht _ (.tail _ gw_9_108), ht _ (.tail _ gp_82)⟩) h2 hout (by decide +kernel)) <|
    zall_c (zs_goto X (pc := 17) (off := 4) (by decide +kernel) (by decide)) <|
    zall_c (zs_iconst X (pc := 20) (by decide) (by decide +kernel)) <|
    zall_c (zs_iret X (pc := 21) rfl (by decide +kernel)) <|
    zall_n
theorem met_X9_nextFor {l : Launch} (hl : l.stackTraces = false) {T0 : ZTf} {T1 : ZTf} {T2 : ZTf} (h0 : zMet l yX9_isWorker (Cond.code yX9_isWorker cX9_isWorker 2 (Option.some Jvm.ClassFile.FieldType.boolean) :: zG) rm_X9_isWorker 0 0 T0) (h1 : zMet l yX9_passes (Cond.code yX9_passes cX9_passes 2 (Option.some Jvm.ClassFile.FieldType.boolean) :: zG) rm_X9_passes 0 0 T1) (h2 : zMet l yX9_nextOf (Cond.code yX9_nextOf cX9_nextOf 4 (Option.some Jvm.ClassFile.FieldType.int) :: zG) rm_X9_nextOf 0 0 T2) {T : ZTf} (bd : zBd (cd_X9_nextFor T0 T1 T2) 2 0 0 T) : zMet l yX9_nextFor (Cond.code yX9_nextFor cX9_nextFor 2 (Option.some Jvm.ClassFile.FieldType.int) :: zG) rm_X9_nextFor 0 0 T := zMet_of hl (by decide +kernel) rfl rfl rfl rfl (hs_X9_nextFor hl h0 h1 h2) bd

abbrev rm_X9_takers : Room := { frames := 8, cells := 0, slots := 0, locals := 188 }
def cd_X9_takers (T0 : ZTf) (T1 : ZTf) (T2 : ZTf) (T3 : ZTf) : List (Nat × ZTr) := [(0, tAld 0 1), (1, tAld 0 2), (2, tIld 1 3), (3, tCall0 2 T0 (zRcv 12) 6), (6, tCall0 2 T1 (zRcv 12) 9), (9, tIf_ne 14 12), (12, tC (zi 0) 13), (13, tRi (fun _ => True)), (14, tC (zi 0) 15), (15, tIst 2 16), (16, tC (zi 0) 17), (17, tIst 3 18), (18, tIld 3 19), (19, tAld 0 20), (20, tCall0 1 T2 (zRcv 12) 23), (23, tIc_ge 51 26), (26, tIld 2 27), (27, tAld 0 28), (28, tIld 3 29), (29, tIld 1 30), (30, tCall0 3 T3 (zRcv 12) 33), (33, tIf_eq 42 36), (36, tC (zi 1) 37), (37, tIld 3 38), (38, tBif zshl 39), (39, tGo 43), (42, tC (zi 0) 43), (43, tBif zor 44), (44, tIst 2 45), (45, tInc 3 1 48), (48, tGo 18), (51, tIld 2 52), (52, tRi (fun _ => True))]
set_option maxRecDepth 100000 in
set_option maxHeartbeats 4000000 in
theorem hs_X9_takers {l : Launch} (hl : l.stackTraces = false) {T0 : ZTf} {T1 : ZTf} {T2 : ZTf} {T3 : ZTf} (h0 : zMet l yX9_isRow (Cond.code yX9_isRow cX9_isRow 2 (Option.some Jvm.ClassFile.FieldType.boolean) :: zG) rm_X9_isRow 0 0 T0) (h1 : zMet l yX9_passes (Cond.code yX9_passes cX9_passes 2 (Option.some Jvm.ClassFile.FieldType.boolean) :: zG) rm_X9_passes 0 0 T1) (h2 : zMet l yX9_workers (Cond.code yX9_workers cX9_workers 1 (Option.some Jvm.ClassFile.FieldType.int) :: zG) rm_X9_workers 0 0 T2) (h3 : zMet l yX9_canTake (Cond.code yX9_canTake cX9_canTake 3 (Option.some Jvm.ClassFile.FieldType.boolean) :: zG) rm_X9_canTake 0 0 T3) (p : Program) (e : Env) (s : State) (m : MethodId) (args : Array Value) (below : List Frame) (meth : Method) (c : Code) (D : va_G) (A : Nat → Prop) (a0 : Nat → Nat) (M0 : ZM) (K : ZRet) (KX : ZEx) (X : zCtx p l rm_X9_takers s m args meth c cX9_takers RX9 (Cond.code yX9_takers cX9_takers 4 (Option.some Jvm.ClassFile.FieldType.int) :: zG) 4 (Option.some Jvm.ClassFile.FieldType.int) D A a0 M0 0 0) (hnm : meth.name = yX9_takers.name) (hout : ∀ x ∈ c.exceptionTable.toList, False) : ∀ q ∈ cd_X9_takers T0 T1 T2 T3, zSd p l e rm_X9_takers s m args below meth c 4 D A a0 M0 K KX 0 0 q.1 q.2 :=
    zall_c (zs_aload_n X (pc := 0) (q := 0) rfl (by decide +kernel)) <|
    zall_c (zs_aload_n X (pc := 1) (q := 0) rfl (by decide +kernel)) <|
    zall_c (zs_iload_n X (pc := 2) (q := 1) rfl (by decide +kernel)) <|
    zall_c (zs_callV0 X (pc := 3) zc_X9 (fun _ ht => ⟨(zCB ht gw_9_48 gw_1_13 gw_9_45 rfl rfl (by decide +kernel) ⟨Nat.le_of_ble_eq_true rfl, Nat.le_of_ble_eq_true rfl⟩), ht _ (.tail _ gw_9_47), ht _ (.tail _ gp_73)⟩) h0 hout (by decide +kernel)) <|
    zall_c (zs_callV0 X (pc := 6) zc_X9 (fun _ ht => ⟨(zCB ht gw_8_49 gw_1_13 gw_8_46 rfl rfl (by decide +kernel) ⟨Nat.le_of_ble_eq_true rfl, Nat.le_of_ble_eq_true rfl⟩), ht _ (.tail _ gw_8_48), ht _ (.tail _ gp_28)⟩) h1 hout (by decide +kernel)) <|
    zall_c (zs_if_ne X (pc := 9) (off := 5) (by decide +kernel) (by decide)) <|
    zall_c (zs_iconst X (pc := 12) (by decide) (by decide +kernel)) <|
    zall_c (zs_iret X (pc := 13) rfl (by decide +kernel)) <|
    zall_c (zs_iconst X (pc := 14) (by decide) (by decide +kernel)) <|
    zall_c (zs_istore_n X (pc := 15) (q := 2) rfl (by decide) (by decide +kernel)) <|
    zall_c (zs_iconst X (pc := 16) (by decide) (by decide +kernel)) <|
    zall_c (zs_istore_n X (pc := 17) (q := 3) rfl (by decide) (by decide +kernel)) <|
    zall_c (zs_iload_n X (pc := 18) (q := 3) rfl (by decide +kernel)) <|
    zall_c (zs_aload_n X (pc := 19) (q := 0) rfl (by decide +kernel)) <|
    zall_c (zs_callV0 X (pc := 20) zc_X9 (fun _ ht => ⟨(zCB ht gw_8_136 gw_1_13 gw_8_133 rfl rfl (by decide +kernel) ⟨Nat.le_of_ble_eq_true rfl, Nat.le_of_ble_eq_true rfl⟩), ht _ (.tail _ gw_8_135), ht _ (.tail _ gp_44)⟩) h2 hout (by decide +kernel)) <|
    zall_c (zs_icmp_ge X (pc := 23) (off := 28) (by decide +kernel) (by decide)) <|
    zall_c (zs_iload_n X (pc := 26) (q := 2) rfl (by decide +kernel)) <|
    zall_c (zs_aload_n X (pc := 27) (q := 0) rfl (by decide +kernel)) <|
    zall_c (zs_iload_n X (pc := 28) (q := 3) rfl (by decide +kernel)) <|
    zall_c (zs_iload_n X (pc := 29) (q := 1) rfl (by decide +kernel)) <|
    zall_c (zs_callV0 X (pc := 30) zc_X9 (fun _ ht => ⟨(zCB ht gw_9_101 gw_1_13 gw_9_98 rfl rfl (by decide +kernel) ⟨Nat.le_of_ble_eq_true rfl, Nat.le_of_ble_eq_true rfl⟩), ht _ (.tail _ gw_9_100), ht _ (.tail _ gp_81)⟩) h3 hout (by decide +kernel)) <|
    zall_c (zs_if_eq X (pc := 33) (off := 9) (by decide +kernel) (by decide)) <|
    zall_c (zs_iconst X (pc := 36) (by decide) (by decide +kernel)) <|
    zall_c (zs_iload_n X (pc := 37) (q := 3) rfl (by decide +kernel)) <|
    zall_c (zs_ishl X (pc := 38) (by decide +kernel)) <|
    zall_c (zs_goto X (pc := 39) (off := 4) (by decide +kernel) (by decide)) <|
    zall_c (zs_iconst X (pc := 42) (by decide) (by decide +kernel)) <|
    zall_c (zs_ior X (pc := 43) (by decide +kernel)) <|
    zall_c (zs_istore_n X (pc := 44) (q := 2) rfl (by decide) (by decide +kernel)) <|
    zall_c (zs_iinc X (pc := 45) (by decide) (by decide +kernel)) <|
    zall_c (zs_goto X (pc := 48) (off := (-30)) (by decide +kernel) (by decide)) <|
    zall_c (zs_iload_n X (pc := 51) (q := 2) rfl (by decide +kernel)) <|
    zall_c (zs_iret X (pc := 52) rfl (by decide +kernel)) <|
    zall_n
theorem met_X9_takers {l : Launch} (hl : l.stackTraces = false) {T0 : ZTf} {T1 : ZTf} {T2 : ZTf} {T3 : ZTf} (h0 : zMet l yX9_isRow (Cond.code yX9_isRow cX9_isRow 2 (Option.some Jvm.ClassFile.FieldType.boolean) :: zG) rm_X9_isRow 0 0 T0) (h1 : zMet l yX9_passes (Cond.code yX9_passes cX9_passes 2 (Option.some Jvm.ClassFile.FieldType.boolean) :: zG) rm_X9_passes 0 0 T1) (h2 : zMet l yX9_workers (Cond.code yX9_workers cX9_workers 1 (Option.some Jvm.ClassFile.FieldType.int) :: zG) rm_X9_workers 0 0 T2) (h3 : zMet l yX9_canTake (Cond.code yX9_canTake cX9_canTake 3 (Option.some Jvm.ClassFile.FieldType.boolean) :: zG) rm_X9_canTake 0 0 T3) {T : ZTf} (bd : zBd (cd_X9_takers T0 T1 T2 T3) 4 0 0 T) : zMet l yX9_takers (Cond.code yX9_takers cX9_takers 4 (Option.some Jvm.ClassFile.FieldType.int) :: zG) rm_X9_takers 0 0 T := zMet_of hl (by decide +kernel) rfl rfl rfl rfl (hs_X9_takers hl h0 h1 h2 h3) bd

abbrev rm_X9_isStuck : Room := { frames := 6, cells := 0, slots := 0, locals := 143 }
def cd_X9_isStuck (T0 : ZTf) (T1 : ZTf) (T2 : ZTf) : List (Nat × ZTr) := [(0, tAld 0 1), (1, tAld 0 2), (2, tIld 1 3), (3, tCall0 2 T0 (zRcv 12) 6), (6, tCall0 2 T1 (zRcv 12) 9), (9, tIf_eq 24 12), (12, tAld 0 13), (13, tIld 1 14), (14, tCall0 2 T2 (zRcv 12) 17), (17, tIf_eq 24 20), (20, tC (zi 1) 21), (21, tGo 25), (24, tC (zi 0) 25), (25, tRi zPz)]
set_option maxRecDepth 100000 in
set_option maxHeartbeats 4000000 in
theorem hs_X9_isStuck {l : Launch} (hl : l.stackTraces = false) {T0 : ZTf} {T1 : ZTf} {T2 : ZTf} (h0 : zMet l yX9_isRow (Cond.code yX9_isRow cX9_isRow 2 (Option.some Jvm.ClassFile.FieldType.boolean) :: zG) rm_X9_isRow 0 0 T0) (h1 : zMet l yX9_passes (Cond.code yX9_passes cX9_passes 2 (Option.some Jvm.ClassFile.FieldType.boolean) :: zG) rm_X9_passes 0 0 T1) (h2 : zMet l yX9_isStuckAt (Cond.code yX9_isStuckAt cX9_isStuckAt 4 (Option.some Jvm.ClassFile.FieldType.boolean) :: zG) rm_X9_isStuckAt 0 0 T2) (p : Program) (e : Env) (s : State) (m : MethodId) (args : Array Value) (below : List Frame) (meth : Method) (c : Code) (D : va_G) (A : Nat → Prop) (a0 : Nat → Nat) (M0 : ZM) (K : ZRet) (KX : ZEx) (X : zCtx p l rm_X9_isStuck s m args meth c cX9_isStuck RX9 (Cond.code yX9_isStuck cX9_isStuck 2 (Option.some Jvm.ClassFile.FieldType.boolean) :: zG) 2 (Option.some Jvm.ClassFile.FieldType.boolean) D A a0 M0 0 0) (hnm : meth.name = yX9_isStuck.name) (hout : ∀ x ∈ c.exceptionTable.toList, False) : ∀ q ∈ cd_X9_isStuck T0 T1 T2, zSd p l e rm_X9_isStuck s m args below meth c 2 D A a0 M0 K KX 0 0 q.1 q.2 :=
    zall_c (zs_aload_n X (pc := 0) (q := 0) rfl (by decide +kernel)) <|
    zall_c (zs_aload_n X (pc := 1) (q := 0) rfl (by decide +kernel)) <|
    zall_c (zs_iload_n X (pc := 2) (q := 1) rfl (by decide +kernel)) <|
    zall_c (zs_callV0 X (pc := 3) zc_X9 (fun _ ht => ⟨(zCB ht gw_9_48 gw_1_13 gw_9_45 rfl rfl (by decide +kernel) ⟨Nat.le_of_ble_eq_true rfl, Nat.le_of_ble_eq_true rfl⟩), ht _ (.tail _ gw_9_47), ht _ (.tail _ gp_73)⟩) h0 hout (by decide +kernel)) <|
    zall_c (zs_callV0 X (pc := 6) zc_X9 (fun _ ht => ⟨(zCB ht gw_8_49 gw_1_13 gw_8_46 rfl rfl (by decide +kernel) ⟨Nat.le_of_ble_eq_true rfl, Nat.le_of_ble_eq_true rfl⟩), ht _ (.tail _ gw_8_48), ht _ (.tail _ gp_28)⟩) h1 hout (by decide +kernel)) <|
    zall_c (zs_if_eq X (pc := 9) (off := 15) (by decide +kernel) (by decide)) <|
    zall_c (zs_aload_n X (pc := 12) (q := 0) rfl (by decide +kernel)) <|
    zall_c (zs_iload_n X (pc := 13) (q := 1) rfl (by decide +kernel)) <|
    zall_c (zs_callV0 X (pc := 14) zc_X9 (fun _ ht => ⟨(zCB ht gw_9_125 gw_1_13 gw_9_122 rfl rfl (by decide +kernel) ⟨Nat.le_of_ble_eq_true rfl, Nat.le_of_ble_eq_true rfl⟩), ht _ (.tail _ gw_9_124), ht _ (.tail _ gp_84)⟩) h2 hout (by decide +kernel)) <|
    zall_c (zs_if_eq X (pc := 17) (off := 7) (by decide +kernel) (by decide)) <|
    zall_c (zs_iconst X (pc := 20) (by decide) (by decide +kernel)) <|
    zall_c (zs_goto X (pc := 21) (off := 4) (by decide +kernel) (by decide)) <|
    zall_c (zs_iconst X (pc := 24) (by decide) (by decide +kernel)) <|
    zall_c (zs_zret X (pc := 25) rfl zR_bool (by decide +kernel)) <|
    zall_n
theorem met_X9_isStuck {l : Launch} (hl : l.stackTraces = false) {T0 : ZTf} {T1 : ZTf} {T2 : ZTf} (h0 : zMet l yX9_isRow (Cond.code yX9_isRow cX9_isRow 2 (Option.some Jvm.ClassFile.FieldType.boolean) :: zG) rm_X9_isRow 0 0 T0) (h1 : zMet l yX9_passes (Cond.code yX9_passes cX9_passes 2 (Option.some Jvm.ClassFile.FieldType.boolean) :: zG) rm_X9_passes 0 0 T1) (h2 : zMet l yX9_isStuckAt (Cond.code yX9_isStuckAt cX9_isStuckAt 4 (Option.some Jvm.ClassFile.FieldType.boolean) :: zG) rm_X9_isStuckAt 0 0 T2) {T : ZTf} (bd : zBd (cd_X9_isStuck T0 T1 T2) 2 0 0 T) : zMet l yX9_isStuck (Cond.code yX9_isStuck cX9_isStuck 2 (Option.some Jvm.ClassFile.FieldType.boolean) :: zG) rm_X9_isStuck 0 0 T := zMet_of hl (by decide +kernel) rfl rfl rfl rfl (hs_X9_isStuck hl h0 h1 h2) bd

abbrev rm_X9_canPair : Room := { frames := 8, cells := 0, slots := 0, locals := 188 }
def cd_X9_canPair (T0 : ZTf) (T1 : ZTf) (T2 : ZTf) : List (Nat × ZTr) := [(0, tAld 0 1), (1, tIld 1 2), (2, tIld 3 3), (3, tCall0 3 T0 (zRcv 12) 6), (6, tIf_eq 46 9), (9, tAld 0 10), (10, tIld 2 11), (11, tIld 3 12), (12, tCall0 3 T0 (zRcv 12) 15), (15, tIf_eq 46 18), (18, tAld 0 19), (19, tIld 1 20), (20, tC (zi 1) 21), (21, tCall0 3 T1 (zRcv 12) 24), (24, tAld 0 25), (25, tIld 2 26), (26, tC (zi 1) 27), (27, tCall0 3 T1 (zRcv 12) 30), (30, tIc_eq 46 33), (33, tAld 0 34), (34, tIld 1 35), (35, tIld 2 36), (36, tCall0 3 T2 (zRcv 12) 39), (39, tIf_ne 46 42), (42, tC (zi 1) 43), (43, tGo 47), (46, tC (zi 0) 47), (47, tRi zPz)]
set_option maxRecDepth 100000 in
set_option maxHeartbeats 4000000 in
theorem hs_X9_canPair {l : Launch} (hl : l.stackTraces = false) {T0 : ZTf} {T1 : ZTf} {T2 : ZTf} (h0 : zMet l yX9_canTake (Cond.code yX9_canTake cX9_canTake 3 (Option.some Jvm.ClassFile.FieldType.boolean) :: zG) rm_X9_canTake 0 0 T0) (h1 : zMet l yX9_ofWorker (Cond.code yX9_ofWorker cX9_ofWorker 3 (Option.some Jvm.ClassFile.FieldType.int) :: zG) rm_X9_ofWorker 0 0 T1) (h2 : zMet l yX9_mayNotMeet (Cond.code yX9_mayNotMeet cX9_mayNotMeet 3 (Option.some Jvm.ClassFile.FieldType.boolean) :: zG) rm_X9_mayNotMeet 0 0 T2) (p : Program) (e : Env) (s : State) (m : MethodId) (args : Array Value) (below : List Frame) (meth : Method) (c : Code) (D : va_G) (A : Nat → Prop) (a0 : Nat → Nat) (M0 : ZM) (K : ZRet) (KX : ZEx) (X : zCtx p l rm_X9_canPair s m args meth c cX9_canPair RX9 (Cond.code yX9_canPair cX9_canPair 4 (Option.some Jvm.ClassFile.FieldType.boolean) :: zG) 4 (Option.some Jvm.ClassFile.FieldType.boolean) D A a0 M0 0 0) (hnm : meth.name = yX9_canPair.name) (hout : ∀ x ∈ c.exceptionTable.toList, False) : ∀ q ∈ cd_X9_canPair T0 T1 T2, zSd p l e rm_X9_canPair s m args below meth c 4 D A a0 M0 K KX 0 0 q.1 q.2 :=
    zall_c (zs_aload_n X (pc := 0) (q := 0) rfl (by decide +kernel)) <|
    zall_c (zs_iload_n X (pc := 1) (q := 1) rfl (by decide +kernel)) <|
    zall_c (zs_iload_n X (pc := 2) (q := 3) rfl (by decide +kernel)) <|
    zall_c (zs_callV0 X (pc := 3) zc_X9 (fun _ ht => ⟨(zCB ht gw_9_101 gw_1_13 gw_9_98 rfl rfl (by decide +kernel) ⟨Nat.le_of_ble_eq_true rfl, Nat.le_of_ble_eq_true rfl⟩), ht _ (.tail _ gw_9_100), ht _ (.tail _ gp_81)⟩) h0 hout (by decide +kernel)) <|
    zall_c (zs_if_eq X (pc := 6) (off := 40) (by decide +kernel) (by decide)) <|
    zall_c (zs_aload_n X (pc := 9) (q := 0) rfl (by decide +kernel)) <|
    zall_c (zs_iload_n X (pc := 10) (q := 2) rfl (by decide +kernel)) <|
    zall_c (zs_iload_n X (pc := 11) (q := 3) rfl (by decide +kernel)) <|
    zall_c (zs_callV0 X (pc := 12) zc_X9 (fun _ ht => ⟨(zCB ht gw_9_101 gw_1_13 gw_9_98 rfl rfl (by decide +kernel) ⟨Nat.le_of_ble_eq_true rfl, Nat.le_of_ble_eq_true rfl⟩), ht _ (.tail _ gw_9_100), ht _ (.tail _ gp_81)⟩) h0 hout (by decide +kernel)) <|
    zall_c (zs_if_eq X (pc := 15) (off := 31) (by decide +kernel) (by decide)) <|
    zall_c (zs_aload_n X (pc := 18) (q := 0) rfl (by decide +kernel)) <|
    zall_c (zs_iload_n X (pc := 19) (q := 1) rfl (by decide +kernel)) <|
    zall_c (zs_iconst X (pc := 20) (by decide) (by decide +kernel)) <|
    zall_c (zs_callV0 X (pc := 21) zc_X9 (fun _ ht => ⟨(zCB ht gw_8_161 gw_1_13 gw_8_158 rfl rfl (by decide +kernel) ⟨Nat.le_of_ble_eq_true rfl, Nat.le_of_ble_eq_true rfl⟩), ht _ (.tail _ gw_8_160), ht _ (.tail _ gp_48)⟩) h1 hout (by decide +kernel)) <|
    zall_c (zs_aload_n X (pc := 24) (q := 0) rfl (by decide +kernel)) <|
    zall_c (zs_iload_n X (pc := 25) (q := 2) rfl (by decide +kernel)) <|
    zall_c (zs_iconst X (pc := 26) (by decide) (by decide +kernel)) <|
    zall_c (zs_callV0 X (pc := 27) zc_X9 (fun _ ht => ⟨(zCB ht gw_8_161 gw_1_13 gw_8_158 rfl rfl (by decide +kernel) ⟨Nat.le_of_ble_eq_true rfl, Nat.le_of_ble_eq_true rfl⟩), ht _ (.tail _ gw_8_160), ht _ (.tail _ gp_48)⟩) h1 hout (by decide +kernel)) <|
    zall_c (zs_icmp_eq X (pc := 30) (off := 16) (by decide +kernel) (by decide)) <|
    zall_c (zs_aload_n X (pc := 33) (q := 0) rfl (by decide +kernel)) <|
    zall_c (zs_iload_n X (pc := 34) (q := 1) rfl (by decide +kernel)) <|
    zall_c (zs_iload_n X (pc := 35) (q := 2) rfl (by decide +kernel)) <|
    zall_c (zs_callV0 X (pc := 36) zc_X9 (fun _ ht => ⟨(zCB ht gw_8_193 gw_1_13 gw_8_190 rfl rfl (by decide +kernel) ⟨Nat.le_of_ble_eq_true rfl, Nat.le_of_ble_eq_true rfl⟩), ht _ (.tail _ gw_8_192), ht _ (.tail _ gp_56)⟩) h2 hout (by decide +kernel)) <|
    zall_c (zs_if_ne X (pc := 39) (off := 7) (by decide +kernel) (by decide)) <|
    zall_c (zs_iconst X (pc := 42) (by decide) (by decide +kernel)) <|
    zall_c (zs_goto X (pc := 43) (off := 4) (by decide +kernel) (by decide)) <|
    zall_c (zs_iconst X (pc := 46) (by decide) (by decide +kernel)) <|
    zall_c (zs_zret X (pc := 47) rfl zR_bool (by decide +kernel)) <|
    zall_n
theorem met_X9_canPair {l : Launch} (hl : l.stackTraces = false) {T0 : ZTf} {T1 : ZTf} {T2 : ZTf} (h0 : zMet l yX9_canTake (Cond.code yX9_canTake cX9_canTake 3 (Option.some Jvm.ClassFile.FieldType.boolean) :: zG) rm_X9_canTake 0 0 T0) (h1 : zMet l yX9_ofWorker (Cond.code yX9_ofWorker cX9_ofWorker 3 (Option.some Jvm.ClassFile.FieldType.int) :: zG) rm_X9_ofWorker 0 0 T1) (h2 : zMet l yX9_mayNotMeet (Cond.code yX9_mayNotMeet cX9_mayNotMeet 3 (Option.some Jvm.ClassFile.FieldType.boolean) :: zG) rm_X9_mayNotMeet 0 0 T2) {T : ZTf} (bd : zBd (cd_X9_canPair T0 T1 T2) 4 0 0 T) : zMet l yX9_canPair (Cond.code yX9_canPair cX9_canPair 4 (Option.some Jvm.ClassFile.FieldType.boolean) :: zG) rm_X9_canPair 0 0 T := zMet_of hl (by decide +kernel) rfl rfl rfl rfl (hs_X9_canPair hl h0 h1 h2) bd

abbrev rm_X9_bestPair : Room := { frames := 9, cells := 0, slots := 0, locals := 211 }
def cd_X9_bestPair (T0 : ZTf) (T1 : ZTf) (T2 : ZTf) (T3 : ZTf) (T4 : ZTf) (T5 : ZTf) (T6 : ZTf) : List (Nat × ZTr) := [(0, tAld 0 1), (1, tAld 0 2), (2, tIld 1 3), (3, tCall0 2 T0 (zRcv 12) 6), (6, tCall0 2 T1 (zRcv 12) 9), (9, tIf_eq 29 12), (12, tAld 0 13), (13, tIld 1 14), (14, tC (zi 1) 15), (15, tCall0 3 T2 (zRcv 12) 18), (18, tIf_ne 29 21), (21, tAld 0 22), (22, tIld 1 23), (23, tCall0 2 T3 (zRcv 12) 26), (26, tIf_le 42 29), (29, tAld 0 30), (30, tGetI 12 0 33), (33, tIf_le 40 36), (36, tC (zi 0) 37), (37, tGo 41), (40, tC (zi (-1)) 41), (41, tRi (fun _ => True)), (42, tC (zi (-1)) 43), (43, tIst 2 44), (44, tC (zi (-1)) 45), (45, tIst 3 46), (46, tC (zi 0) 47), (47, tIst 4 49), (49, tIld 4 51), (51, tAld 0 52), (52, tCall0 1 T4 (zRcv 12) 55), (55, tIc_ge 135 58), (58, tIld 4 60), (60, tC (zi 1) 61), (61, tAdd 62), (62, tIst 5 64), (64, tIld 5 66), (66, tAld 0 67), (67, tCall0 1 T4 (zRcv 12) 70), (70, tIc_ge 129 73), (73, tAld 0 74), (74, tIld 4 76), (76, tC (zi 3) 77), (77, tCall0 3 T5 (zRcv 12) 80), (80, tAld 0 81), (81, tIld 5 83), (83, tC (zi 3) 84), (84, tCall0 3 T5 (zRcv 12) 87), (87, tAdd 88), (88, tIst 6 90), (90, tAld 0 91), (91, tIld 4 93), (93, tIld 5 95), (95, tIld 1 96), (96, tCall0 4 T6 (zRcv 12) 99), (99, tIf_eq 123 102), (102, tIld 6 104), (104, tIld 3 105), (105, tIc_gt 111 108), (108, tGo 123), (111, tC (zi 8) 113), (113, tIld 4 115), (115, tMul 116), (116, tIld 5 118), (118, tAdd 119), (119, tIst 2 120), (120, tIld 6 122), (122, tIst 3 123), (123, tInc 5 1 126), (126, tGo 64), (129, tInc 4 1 132), (132, tGo 49), (135, tIld 2 136), (136, tRi (fun _ => True))]
set_option maxRecDepth 100000 in
set_option maxHeartbeats 4000000 in
theorem hs_X9_bestPair {l : Launch} (hl : l.stackTraces = false) {T0 : ZTf} {T1 : ZTf} {T2 : ZTf} {T3 : ZTf} {T4 : ZTf} {T5 : ZTf} {T6 : ZTf} (h0 : zMet l yX9_isRow (Cond.code yX9_isRow cX9_isRow 2 (Option.some Jvm.ClassFile.FieldType.boolean) :: zG) rm_X9_isRow 0 0 T0) (h1 : zMet l yX9_passes (Cond.code yX9_passes cX9_passes 2 (Option.some Jvm.ClassFile.FieldType.boolean) :: zG) rm_X9_passes 0 0 T1) (h2 : zMet l yX9_ofRow (Cond.code yX9_ofRow cX9_ofRow 3 (Option.some Jvm.ClassFile.FieldType.int) :: zG) rm_X9_ofRow 0 0 T2) (h3 : zMet l yX9_manyAt (Cond.code yX9_manyAt cX9_manyAt 2 (Option.some Jvm.ClassFile.FieldType.int) :: zG) rm_X9_manyAt 0 0 T3) (h4 : zMet l yX9_workers (Cond.code yX9_workers cX9_workers 1 (Option.some Jvm.ClassFile.FieldType.int) :: zG) rm_X9_workers 0 0 T4) (h5 : zMet l yX9_ofWorker (Cond.code yX9_ofWorker cX9_ofWorker 3 (Option.some Jvm.ClassFile.FieldType.int) :: zG) rm_X9_ofWorker 0 0 T5) (h6 : zMet l yX9_canPair (Cond.code yX9_canPair cX9_canPair 4 (Option.some Jvm.ClassFile.FieldType.boolean) :: zG) rm_X9_canPair 0 0 T6) (p : Program) (e : Env) (s : State) (m : MethodId) (args : Array Value) (below : List Frame) (meth : Method) (c : Code) (D : va_G) (A : Nat → Prop) (a0 : Nat → Nat) (M0 : ZM) (K : ZRet) (KX : ZEx) (X : zCtx p l rm_X9_bestPair s m args meth c cX9_bestPair RX9 (Cond.code yX9_bestPair cX9_bestPair 7 (Option.some Jvm.ClassFile.FieldType.int) :: zG) 7 (Option.some Jvm.ClassFile.FieldType.int) D A a0 M0 0 0) (hnm : meth.name = yX9_bestPair.name) (hout : ∀ x ∈ c.exceptionTable.toList, False) : ∀ q ∈ cd_X9_bestPair T0 T1 T2 T3 T4 T5 T6, zSd p l e rm_X9_bestPair s m args below meth c 7 D A a0 M0 K KX 0 0 q.1 q.2 :=
    zall_c (zs_aload_n X (pc := 0) (q := 0) rfl (by decide +kernel)) <|
    zall_c (zs_aload_n X (pc := 1) (q := 0) rfl (by decide +kernel)) <|
    zall_c (zs_iload_n X (pc := 2) (q := 1) rfl (by decide +kernel)) <|
    zall_c (zs_callV0 X (pc := 3) zc_X9 (fun _ ht => ⟨(zCB ht gw_9_48 gw_1_13 gw_9_45 rfl rfl (by decide +kernel) ⟨Nat.le_of_ble_eq_true rfl, Nat.le_of_ble_eq_true rfl⟩), ht _ (.tail _ gw_9_47), ht _ (.tail _ gp_73)⟩) h0 hout (by decide +kernel)) <|
    zall_c (zs_callV0 X (pc := 6) zc_X9 (fun _ ht => ⟨(zCB ht gw_8_49 gw_1_13 gw_8_46 rfl rfl (by decide +kernel) ⟨Nat.le_of_ble_eq_true rfl, Nat.le_of_ble_eq_true rfl⟩), ht _ (.tail _ gw_8_48), ht _ (.tail _ gp_28)⟩) h1 hout (by decide +kernel)) <|
    zall_c (zs_if_eq X (pc := 9) (off := 20) (by decide +kernel) (by decide)) <|
    zall_c (zs_aload_n X (pc := 12) (q := 0) rfl (by decide +kernel)) <|
    zall_c (zs_iload_n X (pc := 13) (q := 1) rfl (by decide +kernel)) <|
    zall_c (zs_iconst X (pc := 14) (by decide) (by decide +kernel)) <|
    zall_c (zs_callV0 X (pc := 15) zc_X9 (fun _ ht => ⟨(zCB ht gw_8_239 gw_1_13 gw_8_236 rfl rfl (by decide +kernel) ⟨Nat.le_of_ble_eq_true rfl, Nat.le_of_ble_eq_true rfl⟩), ht _ (.tail _ gw_8_238), ht _ (.tail _ gp_63)⟩) h2 hout (by decide +kernel)) <|
    zall_c (zs_if_ne X (pc := 18) (off := 11) (by decide +kernel) (by decide)) <|
    zall_c (zs_aload_n X (pc := 21) (q := 0) rfl (by decide +kernel)) <|
    zall_c (zs_iload_n X (pc := 22) (q := 1) rfl (by decide +kernel)) <|
    zall_c (zs_callV0 X (pc := 23) zc_X9 (fun _ ht => ⟨(zCB ht gw_9_32 gw_1_13 gw_9_29 rfl rfl (by decide +kernel) ⟨Nat.le_of_ble_eq_true rfl, Nat.le_of_ble_eq_true rfl⟩), ht _ (.tail _ gw_9_31), ht _ (.tail _ gp_70)⟩) h3 hout (by decide +kernel)) <|
    zall_c (zs_if_le X (pc := 26) (off := 16) (by decide +kernel) (by decide)) <|
    zall_c (zs_aload_n X (pc := 29) (q := 0) rfl (by decide +kernel)) <|
    zall_c (zs_geti X (pc := 30) zc_X9 (by decide) (zin ui_X9) (.tail _ gw_7_215) (by decide +kernel) (by decide +kernel)) <|
    zall_c (zs_if_le X (pc := 33) (off := 7) (by decide +kernel) (by decide)) <|
    zall_c (zs_iconst X (pc := 36) (by decide) (by decide +kernel)) <|
    zall_c (zs_goto X (pc := 37) (off := 4) (by decide +kernel) (by decide)) <|
    zall_c (zs_iconst X (pc := 40) (by decide) (by decide +kernel)) <|
    zall_c (zs_iret X (pc := 41) rfl (by decide +kernel)) <|
    zall_c (zs_iconst X (pc := 42) (by decide) (by decide +kernel)) <|
    zall_c (zs_istore_n X (pc := 43) (q := 2) rfl (by decide) (by decide +kernel)) <|
    zall_c (zs_iconst X (pc := 44) (by decide) (by decide +kernel)) <|
    zall_c (zs_istore_n X (pc := 45) (q := 3) rfl (by decide) (by decide +kernel)) <|
    zall_c (zs_iconst X (pc := 46) (by decide) (by decide +kernel)) <|
    zall_c (zs_istore X (pc := 47) (by decide) (by decide +kernel)) <|
    zall_c (zs_iload X (pc := 49) (by decide +kernel)) <|
    zall_c (zs_aload_n X (pc := 51) (q := 0) rfl (by decide +kernel)) <|
    zall_c (zs_callV0 X (pc := 52) zc_X9 (fun _ ht => ⟨(zCB ht gw_8_136 gw_1_13 gw_8_133 rfl rfl (by decide +kernel) ⟨Nat.le_of_ble_eq_true rfl, Nat.le_of_ble_eq_true rfl⟩), ht _ (.tail _ gw_8_135), ht _ (.tail _ gp_44)⟩) h4 hout (by decide +kernel)) <|
    zall_c (zs_icmp_ge X (pc := 55) (off := 80) (by decide +kernel) (by decide)) <|
    zall_c (zs_iload X (pc := 58) (by decide +kernel)) <|
    zall_c (zs_iconst X (pc := 60) (by decide) (by decide +kernel)) <|
    zall_c (zs_iadd X (pc := 61) (by decide +kernel)) <|
    zall_c (zs_istore X (pc := 62) (by decide) (by decide +kernel)) <|
    zall_c (zs_iload X (pc := 64) (by decide +kernel)) <|
    zall_c (zs_aload_n X (pc := 66) (q := 0) rfl (by decide +kernel)) <|
    zall_c (zs_callV0 X (pc := 67) zc_X9 (fun _ ht => ⟨(zCB ht gw_8_136 gw_1_13 gw_8_133 rfl rfl (by decide +kernel) ⟨Nat.le_of_ble_eq_true rfl, Nat.le_of_ble_eq_true rfl⟩), ht _ (.tail _ gw_8_135), ht _ (.tail _ gp_44)⟩) h4 hout (by decide +kernel)) <|
    zall_c (zs_icmp_ge X (pc := 70) (off := 59) (by decide +kernel) (by decide)) <|
    zall_c (zs_aload_n X (pc := 73) (q := 0) rfl (by decide +kernel)) <|
    zall_c (zs_iload X (pc := 74) (by decide +kernel)) <|
    zall_c (zs_iconst X (pc := 76) (by decide) (by decide +kernel)) <|
    zall_c (zs_callV0 X (pc := 77) zc_X9 (fun _ ht => ⟨(zCB ht gw_8_161 gw_1_13 gw_8_158 rfl rfl (by decide +kernel) ⟨Nat.le_of_ble_eq_true rfl, Nat.le_of_ble_eq_true rfl⟩), ht _ (.tail _ gw_8_160), ht _ (.tail _ gp_48)⟩) h5 hout (by decide +kernel)) <|
    zall_c (zs_aload_n X (pc := 80) (q := 0) rfl (by decide +kernel)) <|
    zall_c (zs_iload X (pc := 81) (by decide +kernel)) <|
    zall_c (zs_iconst X (pc := 83) (by decide) (by decide +kernel)) <|
    zall_c (zs_callV0 X (pc := 84) zc_X9 (fun _ ht => ⟨(zCB ht gw_8_161 gw_1_13 gw_8_158 rfl rfl (by decide +kernel) ⟨Nat.le_of_ble_eq_true rfl, Nat.le_of_ble_eq_true rfl⟩), ht _ (.tail _ gw_8_160), ht _ (.tail _ gp_48)⟩) h5 hout (by decide +kernel)) <|
    zall_c (zs_iadd X (pc := 87) (by decide +kernel)) <|
    zall_c (zs_istore X (pc := 88) (by decide) (by decide +kernel)) <|
    zall_c (zs_aload_n X (pc := 90) (q := 0) rfl (by decide +kernel)) <|
    zall_c (zs_iload X (pc := 91) (by decide +kernel)) <|
    zall_c (zs_iload X (pc := 93) (by decide +kernel)) <|
    zall_c (zs_iload_n X (pc := 95) (q := 1) rfl (by decide +kernel)) <|
    zall_c (zs_callV0 X (pc := 96) zc_X9 (fun _ ht => ⟨(zCB ht gw_9_133 gw_1_13 gw_9_130 rfl rfl (by decide +kernel) ⟨Nat.le_of_ble_eq_true rfl, Nat.le_of_ble_eq_true rfl⟩), ht _ (.tail _ gw_9_132), ht _ (.tail _ gp_85)⟩) h6 hout (by decide +kernel)) <|
    zall_c (zs_if_eq X (pc := 99) (off := 24) (by decide +kernel) (by decide)) <|
    zall_c (zs_iload X (pc := 102) (by decide +kernel)) <|
    zall_c (zs_iload_n X (pc := 104) (q := 3) rfl (by decide +kernel)) <|
    zall_c (zs_icmp_gt X (pc := 105) (off := 6) (by decide +kernel) (by decide)) <|
    zall_c (zs_goto X (pc := 108) (off := 15) (by decide +kernel) (by decide)) <|
    zall_c (zs_bipush X (pc := 111) (by decide) (by decide +kernel) (by decide +kernel)) <|
    zall_c (zs_iload X (pc := 113) (by decide +kernel)) <|
    zall_c (zs_imul X (pc := 115) (by decide +kernel)) <|
    zall_c (zs_iload X (pc := 116) (by decide +kernel)) <|
    zall_c (zs_iadd X (pc := 118) (by decide +kernel)) <|
    zall_c (zs_istore_n X (pc := 119) (q := 2) rfl (by decide) (by decide +kernel)) <|
    zall_c (zs_iload X (pc := 120) (by decide +kernel)) <|
    zall_c (zs_istore_n X (pc := 122) (q := 3) rfl (by decide) (by decide +kernel)) <|
    zall_c (zs_iinc X (pc := 123) (by decide) (by decide +kernel)) <|
    zall_c (zs_goto X (pc := 126) (off := (-62)) (by decide +kernel) (by decide)) <|
    zall_c (zs_iinc X (pc := 129) (by decide) (by decide +kernel)) <|
    zall_c (zs_goto X (pc := 132) (off := (-83)) (by decide +kernel) (by decide)) <|
    zall_c (zs_iload_n X (pc := 135) (q := 2) rfl (by decide +kernel)) <|
    zall_c (zs_iret X (pc := 136) rfl (by decide +kernel)) <|
    zall_n
theorem met_X9_bestPair {l : Launch} (hl : l.stackTraces = false) {T0 : ZTf} {T1 : ZTf} {T2 : ZTf} {T3 : ZTf} {T4 : ZTf} {T5 : ZTf} {T6 : ZTf} (h0 : zMet l yX9_isRow (Cond.code yX9_isRow cX9_isRow 2 (Option.some Jvm.ClassFile.FieldType.boolean) :: zG) rm_X9_isRow 0 0 T0) (h1 : zMet l yX9_passes (Cond.code yX9_passes cX9_passes 2 (Option.some Jvm.ClassFile.FieldType.boolean) :: zG) rm_X9_passes 0 0 T1) (h2 : zMet l yX9_ofRow (Cond.code yX9_ofRow cX9_ofRow 3 (Option.some Jvm.ClassFile.FieldType.int) :: zG) rm_X9_ofRow 0 0 T2) (h3 : zMet l yX9_manyAt (Cond.code yX9_manyAt cX9_manyAt 2 (Option.some Jvm.ClassFile.FieldType.int) :: zG) rm_X9_manyAt 0 0 T3) (h4 : zMet l yX9_workers (Cond.code yX9_workers cX9_workers 1 (Option.some Jvm.ClassFile.FieldType.int) :: zG) rm_X9_workers 0 0 T4) (h5 : zMet l yX9_ofWorker (Cond.code yX9_ofWorker cX9_ofWorker 3 (Option.some Jvm.ClassFile.FieldType.int) :: zG) rm_X9_ofWorker 0 0 T5) (h6 : zMet l yX9_canPair (Cond.code yX9_canPair cX9_canPair 4 (Option.some Jvm.ClassFile.FieldType.boolean) :: zG) rm_X9_canPair 0 0 T6) {T : ZTf} (bd : zBd (cd_X9_bestPair T0 T1 T2 T3 T4 T5 T6) 7 0 0 T) : zMet l yX9_bestPair (Cond.code yX9_bestPair cX9_bestPair 7 (Option.some Jvm.ClassFile.FieldType.int) :: zG) rm_X9_bestPair 0 0 T := zMet_of hl (by decide +kernel) rfl rfl rfl rfl (hs_X9_bestPair hl h0 h1 h2 h3 h4 h5 h6) bd

abbrev rm_X9_finds (d : Nat) : Room := { frames := d + 8, cells := 0, slots := 0, locals := d * 22 + 188 }
def cd_X9_finds (T0 : ZTf) (T1 : ZTf) (T2 : ZTf) : List (Nat × ZTr) := [(0, tC (zi 0) 1), (1, tIst 2 2), (2, tIld 2 3), (3, tAld 0 4), (4, tCall0 1 T0 (zRcv 12) 7), (7, tIc_ge 76 10), (10, tAld 0 11), (11, tGetR 12 15 14), (14, tIld 2 15), (15, tZal 16), (16, tIf_ne 70 19), (19, tAld 0 20), (20, tIld 1 21), (21, tIld 2 22), (22, tCall0 3 T1 (zRcv 12) 25), (25, tIf_ne 31 28), (28, tGo 70), (31, tAld 0 32), (32, tGetR 12 15 35), (35, tIld 2 36), (36, tC (zi 1) 37), (37, tIas 22 (fun x => x = 0 ∨ x = 1) 38), (38, tAld 0 39), (39, tGetR 12 14 42), (42, tIld 2 43), (43, tIal 20 44), (44, tC (zi (-1)) 45), (45, tIc_eq 61 48), (48, tAld 0 49), (49, tAld 0 50), (50, tGetR 12 14 53), (53, tIld 2 54), (54, tIal 20 55), (55, tCall0 2 T2 (zRcv 12) 58), (58, tIf_eq 70 61), (61, tAld 0 62), (62, tGetR 12 14 65), (65, tIld 2 66), (66, tIld 1 67), (67, tIas 20 (fun _ => True) 68), (68, tC (zi 1) 69), (69, tRi zPz), (70, tInc 2 1 73), (73, tGo 2), (76, tC (zi 0) 77), (77, tRi zPz)]
set_option maxRecDepth 100000 in
set_option maxHeartbeats 4000000 in
theorem hs_X9_finds {l : Launch} (hl : l.stackTraces = false) {d : Nat} {T0 : ZTf} {T1 : ZTf} {T2 : ZTf} (h0 : zMet l yX9_rows (Cond.code yX9_rows cX9_rows 1 (Option.some Jvm.ClassFile.FieldType.int) :: zG) rm_X9_rows 0 0 T0) (h1 : zMet l yX9_canTake (Cond.code yX9_canTake cX9_canTake 3 (Option.some Jvm.ClassFile.FieldType.boolean) :: zG) rm_X9_canTake 0 0 T1) (h2 : zMet l yX9_finds (Cond.code yX9_finds cX9_finds 3 (Option.some Jvm.ClassFile.FieldType.boolean) :: zG) (rm_X9_finds d) 0 0 T2) (p : Program) (e : Env) (s : State) (m : MethodId) (args : Array Value) (below : List Frame) (meth : Method) (c : Code) (D : va_G) (A : Nat → Prop) (a0 : Nat → Nat) (M0 : ZM) (K : ZRet) (KX : ZEx) (X : zCtx p l (rm_X9_finds (d + 1)) s m args meth c cX9_finds RX9 (Cond.code yX9_finds cX9_finds 3 (Option.some Jvm.ClassFile.FieldType.boolean) :: zG) 3 (Option.some Jvm.ClassFile.FieldType.boolean) D A a0 M0 0 0) (hnm : meth.name = yX9_finds.name) (hout : ∀ x ∈ c.exceptionTable.toList, False) : ∀ q ∈ cd_X9_finds T0 T1 T2, zSd p l e (rm_X9_finds (d + 1)) s m args below meth c 3 D A a0 M0 K KX 0 0 q.1 q.2 :=
    zall_c (zs_iconst X (pc := 0) (by decide) (by decide +kernel)) <|
    zall_c (zs_istore_n X (pc := 1) (q := 2) rfl (by decide) (by decide +kernel)) <|
    zall_c (zs_iload_n X (pc := 2) (q := 2) rfl (by decide +kernel)) <|
    zall_c (zs_aload_n X (pc := 3) (q := 0) rfl (by decide +kernel)) <|
    zall_c (zs_callV0 X (pc := 4) zc_X9 (fun _ ht => ⟨(zCB ht gw_8_173 gw_1_13 gw_8_170 rfl rfl (by decide +kernel) ⟨Nat.le_of_ble_eq_true rfl, Nat.le_of_ble_eq_true rfl⟩), ht _ (.tail _ gw_8_172), ht _ (.tail _ gp_51)⟩) h0 hout (by decide +kernel)) <|
    zall_c (zs_icmp_ge X (pc := 7) (off := 69) (by decide +kernel) (by decide)) <|
    zall_c (zs_aload_n X (pc := 10) (q := 0) rfl (by decide +kernel)) <|
    zall_c (zs_getr X (pc := 11) zc_X9 (by decide) (zin ui_X9) (.tail _ gw_7_230) (by decide +kernel) (by decide +kernel)) <|
    zall_c (zs_iload_n X (pc := 14) (q := 2) rfl (by decide +kernel)) <|
    zall_c (zs_baload22 X (pc := 15) (by decide +kernel)) <|
    zall_c (zs_if_ne X (pc := 16) (off := 54) (by decide +kernel) (by decide)) <|
    zall_c (zs_aload_n X (pc := 19) (q := 0) rfl (by decide +kernel)) <|
    zall_c (zs_iload_n X (pc := 20) (q := 1) rfl (by decide +kernel)) <|
    zall_c (zs_iload_n X (pc := 21) (q := 2) rfl (by decide +kernel)) <|
    zall_c (zs_callV0 X (pc := 22) zc_X9 (fun _ ht => ⟨(zCB ht gw_9_101 gw_1_13 gw_9_98 rfl rfl (by decide +kernel) ⟨Nat.le_of_ble_eq_true rfl, Nat.le_of_ble_eq_true rfl⟩), ht _ (.tail _ gw_9_100), ht _ (.tail _ gp_81)⟩) h1 hout (by decide +kernel)) <|
    zall_c (zs_if_ne X (pc := 25) (off := 6) (by decide +kernel) (by decide)) <|
    zall_c (zs_goto X (pc := 28) (off := 42) (by decide +kernel) (by decide)) <|
    zall_c (zs_aload_n X (pc := 31) (q := 0) rfl (by decide +kernel)) <|
    zall_c (zs_getr X (pc := 32) zc_X9 (by decide) (zin ui_X9) (.tail _ gw_7_230) (by decide +kernel) (by decide +kernel)) <|
    zall_c (zs_iload_n X (pc := 35) (q := 2) rfl (by decide +kernel)) <|
    zall_c (zs_iconst X (pc := 36) (by decide) (by decide +kernel)) <|
    zall_c (zs_bastore22 X (pc := 37) (by decide +kernel)) <|
    zall_c (zs_aload_n X (pc := 38) (q := 0) rfl (by decide +kernel)) <|
    zall_c (zs_getr X (pc := 39) zc_X9 (by decide) (zin ui_X9) (.tail _ gw_7_229) (by decide +kernel) (by decide +kernel)) <|
    zall_c (zs_iload_n X (pc := 42) (q := 2) rfl (by decide +kernel)) <|
    zall_c (zs_iaload20 X (pc := 43) (by decide +kernel)) <|
    zall_c (zs_iconst X (pc := 44) (by decide) (by decide +kernel)) <|
    zall_c (zs_icmp_eq X (pc := 45) (off := 16) (by decide +kernel) (by decide)) <|
    zall_c (zs_aload_n X (pc := 48) (q := 0) rfl (by decide +kernel)) <|
    zall_c (zs_aload_n X (pc := 49) (q := 0) rfl (by decide +kernel)) <|
    zall_c (zs_getr X (pc := 50) zc_X9 (by decide) (zin ui_X9) (.tail _ gw_7_229) (by decide +kernel) (by decide +kernel)) <|
    zall_c (zs_iload_n X (pc := 53) (q := 2) rfl (by decide +kernel)) <|
    zall_c (zs_iaload20 X (pc := 54) (by decide +kernel)) <|
    zall_c (zs_callV0 X (pc := 55) zc_X9 (fun _ ht => ⟨(zCB ht gw_9_141 gw_1_13 gw_9_138 rfl rfl (by decide +kernel) ⟨by show d + 8 + 1 ≤ d + 1 + 8; omega, by show 8 + (3 + 11) + (d * 22 + 188) ≤ (d + 1) * 22 + 188; omega⟩), ht _ (.tail _ gw_9_140), ht _ (.tail _ gp_86)⟩) h2 hout (by decide +kernel)) <|
    zall_c (zs_if_eq X (pc := 58) (off := 12) (by decide +kernel) (by decide)) <|
    zall_c (zs_aload_n X (pc := 61) (q := 0) rfl (by decide +kernel)) <|
    zall_c (zs_getr X (pc := 62) zc_X9 (by decide) (zin ui_X9) (.tail _ gw_7_229) (by decide +kernel) (by decide +kernel)) <|
    zall_c (zs_iload_n X (pc := 65) (q := 2) rfl (by decide +kernel)) <|
    zall_c (zs_iload_n X (pc := 66) (q := 1) rfl (by decide +kernel)) <|
    zall_c (zs_iastore20 X (pc := 67) (by decide +kernel)) <|
    zall_c (zs_iconst X (pc := 68) (by decide) (by decide +kernel)) <|
    zall_c (zs_zret X (pc := 69) rfl zR_bool (by decide +kernel)) <|
    zall_c (zs_iinc X (pc := 70) (by decide) (by decide +kernel)) <|
    zall_c (zs_goto X (pc := 73) (off := (-71)) (by decide +kernel) (by decide)) <|
    zall_c (zs_iconst X (pc := 76) (by decide) (by decide +kernel)) <|
    zall_c (zs_zret X (pc := 77) rfl zR_bool (by decide +kernel)) <|
    zall_n
theorem met_X9_finds {l : Launch} (hl : l.stackTraces = false) {d : Nat} {T0 : ZTf} {T1 : ZTf} {T2 : ZTf} (h0 : zMet l yX9_rows (Cond.code yX9_rows cX9_rows 1 (Option.some Jvm.ClassFile.FieldType.int) :: zG) rm_X9_rows 0 0 T0) (h1 : zMet l yX9_canTake (Cond.code yX9_canTake cX9_canTake 3 (Option.some Jvm.ClassFile.FieldType.boolean) :: zG) rm_X9_canTake 0 0 T1) (h2 : zMet l yX9_finds (Cond.code yX9_finds cX9_finds 3 (Option.some Jvm.ClassFile.FieldType.boolean) :: zG) (rm_X9_finds d) 0 0 T2) {T : ZTf} (bd : zBd (cd_X9_finds T0 T1 T2) 3 0 0 T) : zMet l yX9_finds (Cond.code yX9_finds cX9_finds 3 (Option.some Jvm.ClassFile.FieldType.boolean) :: zG) (rm_X9_finds (d + 1)) 0 0 T := zMet_of hl (by decide +kernel) rfl rfl rfl rfl (hs_X9_finds hl h0 h1 h2) bd

abbrev rm_X9_mostTakings : Room := { frames := 39, cells := 0, slots := 0, locals := 870 }
def cd_X9_mostTakings (T0 : ZTf) (T1 : ZTf) : List (Nat × ZTr) := [(0, tAld 0 1), (1, tC (zi 0) 2), (2, tPutI 12 0 (fun _ => True) 5), (5, tC (zi 0) 6), (6, tIst 1 7), (7, tIld 1 8), (8, tC (zi 24) 10), (10, tIc_ge 26 13), (13, tAld 0 14), (14, tGetR 12 14 17), (17, tIld 1 18), (18, tC (zi (-1)) 19), (19, tIas 20 (fun _ => True) 20), (20, tInc 1 1 23), (23, tGo 7), (26, tC (zi 0) 27), (27, tIst 1 28), (28, tC (zi 0) 29), (29, tIst 2 30), (30, tIld 2 31), (31, tAld 0 32), (32, tCall0 1 T0 (zRcv 12) 35), (35, tIc_ge 81 38), (38, tC (zi 0) 39), (39, tIst 3 40), (40, tIld 3 41), (41, tC (zi 24) 43), (43, tIc_ge 59 46), (46, tAld 0 47), (47, tGetR 12 15 50), (50, tIld 3 51), (51, tC (zi 0) 52), (52, tIas 22 (fun x => x = 0 ∨ x = 1) 53), (53, tInc 3 1 56), (56, tGo 40), (59, tIld 1 60), (60, tAld 0 61), (61, tIld 2 62), (62, tCall0 2 T1 (zRcv 12) 65), (65, tIf_eq 72 68), (68, tC (zi 1) 69), (69, tGo 73), (72, tC (zi 0) 73), (73, tAdd 74), (74, tIst 1 75), (75, tInc 2 1 78), (78, tGo 30), (81, tIld 1 82), (82, tRi (fun _ => True))]
set_option maxRecDepth 100000 in
set_option maxHeartbeats 4000000 in
theorem hs_X9_mostTakings {l : Launch} (hl : l.stackTraces = false) {T0 : ZTf} {T1 : ZTf} (h0 : zMet l yX9_workers (Cond.code yX9_workers cX9_workers 1 (Option.some Jvm.ClassFile.FieldType.int) :: zG) rm_X9_workers 0 0 T0) (h1 : zMet l yX9_finds (Cond.code yX9_finds cX9_finds 3 (Option.some Jvm.ClassFile.FieldType.boolean) :: zG) (rm_X9_finds 30) 0 0 T1) (p : Program) (e : Env) (s : State) (m : MethodId) (args : Array Value) (below : List Frame) (meth : Method) (c : Code) (D : va_G) (A : Nat → Prop) (a0 : Nat → Nat) (M0 : ZM) (K : ZRet) (KX : ZEx) (X : zCtx p l rm_X9_mostTakings s m args meth c cX9_mostTakings RX9 (Cond.code yX9_mostTakings cX9_mostTakings 4 (Option.some Jvm.ClassFile.FieldType.int) :: zG) 4 (Option.some Jvm.ClassFile.FieldType.int) D A a0 M0 0 0) (hnm : meth.name = yX9_mostTakings.name) (hout : ∀ x ∈ c.exceptionTable.toList, False) : ∀ q ∈ cd_X9_mostTakings T0 T1, zSd p l e rm_X9_mostTakings s m args below meth c 4 D A a0 M0 K KX 0 0 q.1 q.2 :=
    zall_c (zs_aload_n X (pc := 0) (q := 0) rfl (by decide +kernel)) <|
    zall_c (zs_iconst X (pc := 1) (by decide) (by decide +kernel)) <|
    zall_c (zs_puti X (pc := 2) (ty := Jvm.ClassFile.FieldType.int) zc_X9 (by decide) (zin ui_X9) tyX9_ok nmX9 (.tail _ gw_7_215) rfl (by decide +kernel) (by decide +kernel) (by decide +kernel) zP_int) <|
    zall_c (zs_iconst X (pc := 5) (by decide) (by decide +kernel)) <|
    zall_c (zs_istore_n X (pc := 6) (q := 1) rfl (by decide) (by decide +kernel)) <|
    zall_c (zs_iload_n X (pc := 7) (q := 1) rfl (by decide +kernel)) <|
    zall_c (zs_bipush X (pc := 8) (by decide) (by decide +kernel) (by decide +kernel)) <|
    zall_c (zs_icmp_ge X (pc := 10) (off := 16) (by decide +kernel) (by decide)) <|
    zall_c (zs_aload_n X (pc := 13) (q := 0) rfl (by decide +kernel)) <|
    zall_c (zs_getr X (pc := 14) zc_X9 (by decide) (zin ui_X9) (.tail _ gw_7_229) (by decide +kernel) (by decide +kernel)) <|
    zall_c (zs_iload_n X (pc := 17) (q := 1) rfl (by decide +kernel)) <|
    zall_c (zs_iconst X (pc := 18) (by decide) (by decide +kernel)) <|
    zall_c (zs_iastore20 X (pc := 19) (by decide +kernel)) <|
    zall_c (zs_iinc X (pc := 20) (by decide) (by decide +kernel)) <|
    zall_c (zs_goto X (pc := 23) (off := (-16)) (by decide +kernel) (by decide)) <|
    zall_c (zs_iconst X (pc := 26) (by decide) (by decide +kernel)) <|
    zall_c (zs_istore_n X (pc := 27) (q := 1) rfl (by decide) (by decide +kernel)) <|
    zall_c (zs_iconst X (pc := 28) (by decide) (by decide +kernel)) <|
    zall_c (zs_istore_n X (pc := 29) (q := 2) rfl (by decide) (by decide +kernel)) <|
    zall_c (zs_iload_n X (pc := 30) (q := 2) rfl (by decide +kernel)) <|
    zall_c (zs_aload_n X (pc := 31) (q := 0) rfl (by decide +kernel)) <|
    zall_c (zs_callV0 X (pc := 32) zc_X9 (fun _ ht => ⟨(zCB ht gw_8_136 gw_1_13 gw_8_133 rfl rfl (by decide +kernel) ⟨Nat.le_of_ble_eq_true rfl, Nat.le_of_ble_eq_true rfl⟩), ht _ (.tail _ gw_8_135), ht _ (.tail _ gp_44)⟩) h0 hout (by decide +kernel)) <|
    zall_c (zs_icmp_ge X (pc := 35) (off := 46) (by decide +kernel) (by decide)) <|
    zall_c (zs_iconst X (pc := 38) (by decide) (by decide +kernel)) <|
    zall_c (zs_istore_n X (pc := 39) (q := 3) rfl (by decide) (by decide +kernel)) <|
    zall_c (zs_iload_n X (pc := 40) (q := 3) rfl (by decide +kernel)) <|
    zall_c (zs_bipush X (pc := 41) (by decide) (by decide +kernel) (by decide +kernel)) <|
    zall_c (zs_icmp_ge X (pc := 43) (off := 16) (by decide +kernel) (by decide)) <|
    zall_c (zs_aload_n X (pc := 46) (q := 0) rfl (by decide +kernel)) <|
    zall_c (zs_getr X (pc := 47) zc_X9 (by decide) (zin ui_X9) (.tail _ gw_7_230) (by decide +kernel) (by decide +kernel)) <|
    zall_c (zs_iload_n X (pc := 50) (q := 3) rfl (by decide +kernel)) <|
    zall_c (zs_iconst X (pc := 51) (by decide) (by decide +kernel)) <|
    zall_c (zs_bastore22 X (pc := 52) (by decide +kernel)) <|
    zall_c (zs_iinc X (pc := 53) (by decide) (by decide +kernel)) <|
    zall_c (zs_goto X (pc := 56) (off := (-16)) (by decide +kernel) (by decide)) <|
    zall_c (zs_iload_n X (pc := 59) (q := 1) rfl (by decide +kernel)) <|
    zall_c (zs_aload_n X (pc := 60) (q := 0) rfl (by decide +kernel)) <|
    zall_c (zs_iload_n X (pc := 61) (q := 2) rfl (by decide +kernel)) <|
    zall_c (zs_callV0 X (pc := 62) zc_X9 (fun _ ht => ⟨(zCB ht gw_9_141 gw_1_13 gw_9_138 rfl rfl (by decide +kernel) ⟨Nat.le_of_ble_eq_true rfl, Nat.le_of_ble_eq_true rfl⟩), ht _ (.tail _ gw_9_140), ht _ (.tail _ gp_86)⟩) h1 hout (by decide +kernel)) <|
    zall_c (zs_if_eq X (pc := 65) (off := 7) (by decide +kernel) (by decide)) <|
    zall_c (zs_iconst X (pc := 68) (by decide) (by decide +kernel)) <|
    zall_c (zs_goto X (pc := 69) (off := 4) (by decide +kernel) (by decide)) <|
    zall_c (zs_iconst X (pc := 72) (by decide) (by decide +kernel)) <|
    zall_c (zs_iadd X (pc := 73) (by decide +kernel)) <|
    zall_c (zs_istore_n X (pc := 74) (q := 1) rfl (by decide) (by decide +kernel)) <|
    zall_c (zs_iinc X (pc := 75) (by decide) (by decide +kernel)) <|
    zall_c (zs_goto X (pc := 78) (off := (-48)) (by decide +kernel) (by decide)) <|
    zall_c (zs_iload_n X (pc := 81) (q := 1) rfl (by decide +kernel)) <|
    zall_c (zs_iret X (pc := 82) rfl (by decide +kernel)) <|
    zall_n
theorem met_X9_mostTakings {l : Launch} (hl : l.stackTraces = false) {T0 : ZTf} {T1 : ZTf} (h0 : zMet l yX9_workers (Cond.code yX9_workers cX9_workers 1 (Option.some Jvm.ClassFile.FieldType.int) :: zG) rm_X9_workers 0 0 T0) (h1 : zMet l yX9_finds (Cond.code yX9_finds cX9_finds 3 (Option.some Jvm.ClassFile.FieldType.boolean) :: zG) (rm_X9_finds 30) 0 0 T1) {T : ZTf} (bd : zBd (cd_X9_mostTakings T0 T1) 4 0 0 T) : zMet l yX9_mostTakings (Cond.code yX9_mostTakings cX9_mostTakings 4 (Option.some Jvm.ClassFile.FieldType.int) :: zG) rm_X9_mostTakings 0 0 T := zMet_of hl (by decide +kernel) rfl rfl rfl rfl (hs_X9_mostTakings hl h0 h1) bd

abbrev rm_X9_areWorkers : Room := { frames := 3, cells := 0, slots := 0, locals := 76 }
def cd_X9_areWorkers (T0 : ZTf) : List (Nat × ZTr) := [(0, tAld 0 1), (1, tIld 1 2), (2, tCall0 2 T0 (zRcv 12) 5), (5, tIf_eq 20 8), (8, tAld 0 9), (9, tIld 2 10), (10, tCall0 2 T0 (zRcv 12) 13), (13, tIf_eq 20 16), (16, tC (zi 1) 17), (17, tGo 21), (20, tC (zi 0) 21), (21, tRi zPz)]
set_option maxRecDepth 100000 in
set_option maxHeartbeats 4000000 in
theorem hs_X9_areWorkers {l : Launch} (hl : l.stackTraces = false) {T0 : ZTf} (h0 : zMet l yX9_isWorker (Cond.code yX9_isWorker cX9_isWorker 2 (Option.some Jvm.ClassFile.FieldType.boolean) :: zG) rm_X9_isWorker 0 0 T0) (p : Program) (e : Env) (s : State) (m : MethodId) (args : Array Value) (below : List Frame) (meth : Method) (c : Code) (D : va_G) (A : Nat → Prop) (a0 : Nat → Nat) (M0 : ZM) (K : ZRet) (KX : ZEx) (X : zCtx p l rm_X9_areWorkers s m args meth c cX9_areWorkers RX9 (Cond.code yX9_areWorkers cX9_areWorkers 3 (Option.some Jvm.ClassFile.FieldType.boolean) :: zG) 3 (Option.some Jvm.ClassFile.FieldType.boolean) D A a0 M0 0 0) (hnm : meth.name = yX9_areWorkers.name) (hout : ∀ x ∈ c.exceptionTable.toList, False) : ∀ q ∈ cd_X9_areWorkers T0, zSd p l e rm_X9_areWorkers s m args below meth c 3 D A a0 M0 K KX 0 0 q.1 q.2 :=
    zall_c (zs_aload_n X (pc := 0) (q := 0) rfl (by decide +kernel)) <|
    zall_c (zs_iload_n X (pc := 1) (q := 1) rfl (by decide +kernel)) <|
    zall_c (zs_callV0 X (pc := 2) zc_X9 (fun _ ht => ⟨(zCB ht gw_9_11 gw_1_13 gw_9_8 rfl rfl (by decide +kernel) ⟨Nat.le_of_ble_eq_true rfl, Nat.le_of_ble_eq_true rfl⟩), ht _ (.tail _ gw_9_10), ht _ (.tail _ gp_65)⟩) h0 hout (by decide +kernel)) <|
    zall_c (zs_if_eq X (pc := 5) (off := 15) (by decide +kernel) (by decide)) <|
    zall_c (zs_aload_n X (pc := 8) (q := 0) rfl (by decide +kernel)) <|
    zall_c (zs_iload_n X (pc := 9) (q := 2) rfl (by decide +kernel)) <|
    zall_c (zs_callV0 X (pc := 10) zc_X9 (fun _ ht => ⟨(zCB ht gw_9_11 gw_1_13 gw_9_8 rfl rfl (by decide +kernel) ⟨Nat.le_of_ble_eq_true rfl, Nat.le_of_ble_eq_true rfl⟩), ht _ (.tail _ gw_9_10), ht _ (.tail _ gp_65)⟩) h0 hout (by decide +kernel)) <|
    zall_c (zs_if_eq X (pc := 13) (off := 7) (by decide +kernel) (by decide)) <|
    zall_c (zs_iconst X (pc := 16) (by decide) (by decide +kernel)) <|
    zall_c (zs_goto X (pc := 17) (off := 4) (by decide +kernel) (by decide)) <|
    zall_c (zs_iconst X (pc := 20) (by decide) (by decide +kernel)) <|
    zall_c (zs_zret X (pc := 21) rfl zR_bool (by decide +kernel)) <|
    zall_n
theorem met_X9_areWorkers {l : Launch} (hl : l.stackTraces = false) {T0 : ZTf} (h0 : zMet l yX9_isWorker (Cond.code yX9_isWorker cX9_isWorker 2 (Option.some Jvm.ClassFile.FieldType.boolean) :: zG) rm_X9_isWorker 0 0 T0) {T : ZTf} (bd : zBd (cd_X9_areWorkers T0) 3 0 0 T) : zMet l yX9_areWorkers (Cond.code yX9_areWorkers cX9_areWorkers 3 (Option.some Jvm.ClassFile.FieldType.boolean) :: zG) rm_X9_areWorkers 0 0 T := zMet_of hl (by decide +kernel) rfl rfl rfl rfl (hs_X9_areWorkers hl h0) bd

abbrev rm_X9_strikes : Room := { frames := 4, cells := 0, slots := 0, locals := 98 }
def cd_X9_strikes (T0 : ZTf) (T1 : ZTf) (T2 : ZTf) : List (Nat × ZTr) := [(0, tAld 0 1), (1, tAld 0 2), (2, tIld 1 3), (3, tIld 2 4), (4, tCall0 3 T0 (zRcv 12) 7), (7, tCall0 2 T1 (zRcv 12) 10), (10, tIf_eq 22 13), (13, tAld 0 14), (14, tIld 1 15), (15, tIld 2 16), (16, tCall0 3 T2 (zRcv 12) 19), (19, tGo 23), (22, tC (zi 0) 23), (23, tRi (fun _ => True))]
set_option maxRecDepth 100000 in
set_option maxHeartbeats 4000000 in
theorem hs_X9_strikes {l : Launch} (hl : l.stackTraces = false) {T0 : ZTf} {T1 : ZTf} {T2 : ZTf} (h0 : zMet l yX9_areWorkers (Cond.code yX9_areWorkers cX9_areWorkers 3 (Option.some Jvm.ClassFile.FieldType.boolean) :: zG) rm_X9_areWorkers 0 0 T0) (h1 : zMet l yX9_passes (Cond.code yX9_passes cX9_passes 2 (Option.some Jvm.ClassFile.FieldType.boolean) :: zG) rm_X9_passes 0 0 T1) (h2 : zMet l yX9_strikesOf (Cond.code yX9_strikesOf cX9_strikesOf 3 (Option.some Jvm.ClassFile.FieldType.int) :: zG) rm_X9_strikesOf 0 0 T2) (p : Program) (e : Env) (s : State) (m : MethodId) (args : Array Value) (below : List Frame) (meth : Method) (c : Code) (D : va_G) (A : Nat → Prop) (a0 : Nat → Nat) (M0 : ZM) (K : ZRet) (KX : ZEx) (X : zCtx p l rm_X9_strikes s m args meth c cX9_strikes RX9 (Cond.code yX9_strikes cX9_strikes 3 (Option.some Jvm.ClassFile.FieldType.int) :: zG) 3 (Option.some Jvm.ClassFile.FieldType.int) D A a0 M0 0 0) (hnm : meth.name = yX9_strikes.name) (hout : ∀ x ∈ c.exceptionTable.toList, False) : ∀ q ∈ cd_X9_strikes T0 T1 T2, zSd p l e rm_X9_strikes s m args below meth c 3 D A a0 M0 K KX 0 0 q.1 q.2 :=
    zall_c (zs_aload_n X (pc := 0) (q := 0) rfl (by decide +kernel)) <|
    zall_c (zs_aload_n X (pc := 1) (q := 0) rfl (by decide +kernel)) <|
    zall_c (zs_iload_n X (pc := 2) (q := 1) rfl (by decide +kernel)) <|
    zall_c (zs_iload_n X (pc := 3) (q := 2) rfl (by decide +kernel)) <|
    zall_c (zs_callV0 X (pc := 4) zc_X9 (fun _ ht => ⟨(zCB ht gw_9_149 gw_1_13 gw_9_146 rfl rfl (by decide +kernel) ⟨Nat.le_of_ble_eq_true rfl, Nat.le_of_ble_eq_true rfl⟩), ht _ (.tail _ gw_9_148), ht _ (.tail _ gp_87)⟩) h0 hout (by decide +kernel)) <|
    zall_c (zs_callV0 X (pc := 7) zc_X9 (fun _ ht => ⟨(zCB ht gw_8_49 gw_1_13 gw_8_46 rfl rfl (by decide +kernel) ⟨Nat.le_of_ble_eq_true rfl, Nat.le_of_ble_eq_true rfl⟩), ht _ (.tail _ gw_8_48), ht _ (.tail _ gp_28)⟩) h1 hout (by decide +kernel)) <|
    zall_c (zs_if_eq X (pc := 10) (off := 12) (by decide +kernel) (by decide)) <|
    zall_c (zs_aload_n X (pc := 13) (q := 0) rfl (by decide +kernel)) <|
    zall_c (zs_iload_n X (pc := 14) (q := 1) rfl (by decide +kernel)) <|
    zall_c (zs_iload_n X (pc := 15) (q := 2) rfl (by decide +kernel)) <|
    zall_c (zs_callV0 X (pc := 16) zc_X9 (fun _ ht => ⟨(zCB ht gw_8_197 gw_1_13 gw_8_194 rfl rfl (by decide +kernel) ⟨Nat.le_of_ble_eq_true rfl, Nat.le_of_ble_eq_true rfl⟩), ht _ (.tail _ gw_8_196), ht _ (.tail _ gp_57)⟩) h2 hout (by decide +kernel)) <|
    zall_c (zs_goto X (pc := 19) (off := 4) (by decide +kernel) (by decide)) <|
    zall_c (zs_iconst X (pc := 22) (by decide) (by decide +kernel)) <|
    zall_c (zs_iret X (pc := 23) rfl (by decide +kernel)) <|
    zall_n
theorem met_X9_strikes {l : Launch} (hl : l.stackTraces = false) {T0 : ZTf} {T1 : ZTf} {T2 : ZTf} (h0 : zMet l yX9_areWorkers (Cond.code yX9_areWorkers cX9_areWorkers 3 (Option.some Jvm.ClassFile.FieldType.boolean) :: zG) rm_X9_areWorkers 0 0 T0) (h1 : zMet l yX9_passes (Cond.code yX9_passes cX9_passes 2 (Option.some Jvm.ClassFile.FieldType.boolean) :: zG) rm_X9_passes 0 0 T1) (h2 : zMet l yX9_strikesOf (Cond.code yX9_strikesOf cX9_strikesOf 3 (Option.some Jvm.ClassFile.FieldType.int) :: zG) rm_X9_strikesOf 0 0 T2) {T : ZTf} (bd : zBd (cd_X9_strikes T0 T1 T2) 3 0 0 T) : zMet l yX9_strikes (Cond.code yX9_strikes cX9_strikes 3 (Option.some Jvm.ClassFile.FieldType.int) :: zG) rm_X9_strikes 0 0 T := zMet_of hl (by decide +kernel) rfl rfl rfl rfl (hs_X9_strikes hl h0 h1 h2) bd

abbrev rm_X9_isBarred : Room := { frames := 4, cells := 0, slots := 0, locals := 98 }
def cd_X9_isBarred (T0 : ZTf) (T1 : ZTf) (T2 : ZTf) : List (Nat × ZTr) := [(0, tAld 0 1), (1, tAld 0 2), (2, tIld 1 3), (3, tIld 2 4), (4, tCall0 3 T0 (zRcv 12) 7), (7, tCall0 2 T1 (zRcv 12) 10), (10, tIf_eq 26 13), (13, tAld 0 14), (14, tIld 1 15), (15, tIld 2 16), (16, tCall0 3 T2 (zRcv 12) 19), (19, tIf_eq 26 22), (22, tC (zi 1) 23), (23, tGo 27), (26, tC (zi 0) 27), (27, tRi zPz)]
set_option maxRecDepth 100000 in
set_option maxHeartbeats 4000000 in
theorem hs_X9_isBarred {l : Launch} (hl : l.stackTraces = false) {T0 : ZTf} {T1 : ZTf} {T2 : ZTf} (h0 : zMet l yX9_areWorkers (Cond.code yX9_areWorkers cX9_areWorkers 3 (Option.some Jvm.ClassFile.FieldType.boolean) :: zG) rm_X9_areWorkers 0 0 T0) (h1 : zMet l yX9_passes (Cond.code yX9_passes cX9_passes 2 (Option.some Jvm.ClassFile.FieldType.boolean) :: zG) rm_X9_passes 0 0 T1) (h2 : zMet l yX9_mayNotMeet (Cond.code yX9_mayNotMeet cX9_mayNotMeet 3 (Option.some Jvm.ClassFile.FieldType.boolean) :: zG) rm_X9_mayNotMeet 0 0 T2) (p : Program) (e : Env) (s : State) (m : MethodId) (args : Array Value) (below : List Frame) (meth : Method) (c : Code) (D : va_G) (A : Nat → Prop) (a0 : Nat → Nat) (M0 : ZM) (K : ZRet) (KX : ZEx) (X : zCtx p l rm_X9_isBarred s m args meth c cX9_isBarred RX9 (Cond.code yX9_isBarred cX9_isBarred 3 (Option.some Jvm.ClassFile.FieldType.boolean) :: zG) 3 (Option.some Jvm.ClassFile.FieldType.boolean) D A a0 M0 0 0) (hnm : meth.name = yX9_isBarred.name) (hout : ∀ x ∈ c.exceptionTable.toList, False) : ∀ q ∈ cd_X9_isBarred T0 T1 T2, zSd p l e rm_X9_isBarred s m args below meth c 3 D A a0 M0 K KX 0 0 q.1 q.2 :=
    zall_c (zs_aload_n X (pc := 0) (q := 0) rfl (by decide +kernel)) <|
    zall_c (zs_aload_n X (pc := 1) (q := 0) rfl (by decide +kernel)) <|
    zall_c (zs_iload_n X (pc := 2) (q := 1) rfl (by decide +kernel)) <|
    zall_c (zs_iload_n X (pc := 3) (q := 2) rfl (by decide +kernel)) <|
    zall_c (zs_callV0 X (pc := 4) zc_X9 (fun _ ht => ⟨(zCB ht gw_9_149 gw_1_13 gw_9_146 rfl rfl (by decide +kernel) ⟨Nat.le_of_ble_eq_true rfl, Nat.le_of_ble_eq_true rfl⟩), ht _ (.tail _ gw_9_148), ht _ (.tail _ gp_87)⟩) h0 hout (by decide +kernel)) <|
    zall_c (zs_callV0 X (pc := 7) zc_X9 (fun _ ht => ⟨(zCB ht gw_8_49 gw_1_13 gw_8_46 rfl rfl (by decide +kernel) ⟨Nat.le_of_ble_eq_true rfl, Nat.le_of_ble_eq_true rfl⟩), ht _ (.tail _ gw_8_48), ht _ (.tail _ gp_28)⟩) h1 hout (by decide +kernel)) <|
    zall_c (zs_if_eq X (pc := 10) (off := 16) (by decide +kernel) (by decide)) <|
    zall_c (zs_aload_n X (pc := 13) (q := 0) rfl (by decide +kernel)) <|
    zall_c (zs_iload_n X (pc := 14) (q := 1) rfl (by decide +kernel)) <|
    zall_c (zs_iload_n X (pc := 15) (q := 2) rfl (by decide +kernel)) <|
    zall_c (zs_callV0 X (pc := 16) zc_X9 (fun _ ht => ⟨(zCB ht gw_8_193 gw_1_13 gw_8_190 rfl rfl (by decide +kernel) ⟨Nat.le_of_ble_eq_true rfl, Nat.le_of_ble_eq_true rfl⟩), ht _ (.tail _ gw_8_192), ht _ (.tail _ gp_56)⟩) h2 hout (by decide +kernel)) <|
    zall_c (zs_if_eq X (pc := 19) (off := 7) (by decide +kernel) (by decide)) <|
    zall_c (zs_iconst X (pc := 22) (by decide) (by decide +kernel)) <|
    zall_c (zs_goto X (pc := 23) (off := 4) (by decide +kernel) (by decide)) <|
    zall_c (zs_iconst X (pc := 26) (by decide) (by decide +kernel)) <|
    zall_c (zs_zret X (pc := 27) rfl zR_bool (by decide +kernel)) <|
    zall_n
theorem met_X9_isBarred {l : Launch} (hl : l.stackTraces = false) {T0 : ZTf} {T1 : ZTf} {T2 : ZTf} (h0 : zMet l yX9_areWorkers (Cond.code yX9_areWorkers cX9_areWorkers 3 (Option.some Jvm.ClassFile.FieldType.boolean) :: zG) rm_X9_areWorkers 0 0 T0) (h1 : zMet l yX9_passes (Cond.code yX9_passes cX9_passes 2 (Option.some Jvm.ClassFile.FieldType.boolean) :: zG) rm_X9_passes 0 0 T1) (h2 : zMet l yX9_mayNotMeet (Cond.code yX9_mayNotMeet cX9_mayNotMeet 3 (Option.some Jvm.ClassFile.FieldType.boolean) :: zG) rm_X9_mayNotMeet 0 0 T2) {T : ZTf} (bd : zBd (cd_X9_isBarred T0 T1 T2) 3 0 0 T) : zMet l yX9_isBarred (Cond.code yX9_isBarred cX9_isBarred 3 (Option.some Jvm.ClassFile.FieldType.boolean) :: zG) rm_X9_isBarred 0 0 T := zMet_of hl (by decide +kernel) rfl rfl rfl rfl (hs_X9_isBarred hl h0 h1 h2) bd

abbrev rm_X9_together : Room := { frames := 5, cells := 0, slots := 0, locals := 121 }
def cd_X9_together (T0 : ZTf) (T1 : ZTf) (T2 : ZTf) : List (Nat × ZTr) := [(0, tC (zi 0) 1), (1, tIst 4 3), (3, tC (zi 0) 4), (4, tIst 5 6), (6, tIld 5 8), (8, tAld 0 9), (9, tCall0 1 T0 (zRcv 12) 12), (12, tIc_ge 78 15), (15, tIld 1 16), (16, tIld 2 17), (17, tIc_eq 78 20), (20, tAld 0 21), (21, tIld 1 22), (22, tIld 5 24), (24, tCall0 3 T1 (zRcv 12) 27), (27, tIst 6 29), (29, tAld 0 30), (30, tIld 2 31), (31, tIld 5 33), (33, tCall0 3 T1 (zRcv 12) 36), (36, tIst 7 38), (38, tIld 4 40), (40, tIld 6 42), (42, tC (zi (-1)) 43), (43, tIc_eq 68 46), (46, tIld 7 48), (48, tC (zi (-1)) 49), (49, tIc_eq 68 52), (52, tAld 0 53), (53, tIld 6 55), (55, tIld 7 57), (57, tCall0 3 T2 (zRcv 12) 60), (60, tIld 3 61), (61, tIc_ne 68 64), (64, tC (zi 1) 65), (65, tGo 69), (68, tC (zi 0) 69), (69, tAdd 70), (70, tIst 4 72), (72, tInc 5 1 75), (75, tGo 6), (78, tIld 4 80), (80, tRi (fun _ => True))]
set_option maxRecDepth 100000 in
set_option maxHeartbeats 4000000 in
theorem hs_X9_together {l : Launch} (hl : l.stackTraces = false) {T0 : ZTf} {T1 : ZTf} {T2 : ZTf} (h0 : zMet l yX9_rows (Cond.code yX9_rows cX9_rows 1 (Option.some Jvm.ClassFile.FieldType.int) :: zG) rm_X9_rows 0 0 T0) (h1 : zMet l yX9_resultOf (Cond.code yX9_resultOf cX9_resultOf 4 (Option.some Jvm.ClassFile.FieldType.int) :: zG) rm_X9_resultOf 0 0 T1) (h2 : zMet l yX9_doAgree (Cond.code yX9_doAgree cX9_doAgree 3 (Option.some Jvm.ClassFile.FieldType.boolean) :: zG) rm_X9_doAgree 0 0 T2) (p : Program) (e : Env) (s : State) (m : MethodId) (args : Array Value) (below : List Frame) (meth : Method) (c : Code) (D : va_G) (A : Nat → Prop) (a0 : Nat → Nat) (M0 : ZM) (K : ZRet) (KX : ZEx) (X : zCtx p l rm_X9_together s m args meth c cX9_together RX9 (Cond.code yX9_together cX9_together 8 (Option.some Jvm.ClassFile.FieldType.int) :: zG) 8 (Option.some Jvm.ClassFile.FieldType.int) D A a0 M0 0 0) (hnm : meth.name = yX9_together.name) (hout : ∀ x ∈ c.exceptionTable.toList, False) : ∀ q ∈ cd_X9_together T0 T1 T2, zSd p l e rm_X9_together s m args below meth c 8 D A a0 M0 K KX 0 0 q.1 q.2 :=
    zall_c (zs_iconst X (pc := 0) (by decide) (by decide +kernel)) <|
    zall_c (zs_istore X (pc := 1) (by decide) (by decide +kernel)) <|
    zall_c (zs_iconst X (pc := 3) (by decide) (by decide +kernel)) <|
    zall_c (zs_istore X (pc := 4) (by decide) (by decide +kernel)) <|
    zall_c (zs_iload X (pc := 6) (by decide +kernel)) <|
    zall_c (zs_aload_n X (pc := 8) (q := 0) rfl (by decide +kernel)) <|
    zall_c (zs_callV0 X (pc := 9) zc_X9 (fun _ ht => ⟨(zCB ht gw_8_173 gw_1_13 gw_8_170 rfl rfl (by decide +kernel) ⟨Nat.le_of_ble_eq_true rfl, Nat.le_of_ble_eq_true rfl⟩), ht _ (.tail _ gw_8_172), ht _ (.tail _ gp_51)⟩) h0 hout (by decide +kernel)) <|
    zall_c (zs_icmp_ge X (pc := 12) (off := 66) (by decide +kernel) (by decide)) <|
    zall_c (zs_iload_n X (pc := 15) (q := 1) rfl (by decide +kernel)) <|
    zall_c (zs_iload_n X (pc := 16) (q := 2) rfl (by decide +kernel)) <|
    zall_c (zs_icmp_eq X (pc := 17) (off := 61) (by decide +kernel) (by decide)) <|
    zall_c (zs_aload_n X (pc := 20) (q := 0) rfl (by decide +kernel)) <|
    zall_c (zs_iload_n X (pc := 21) (q := 1) rfl (by decide +kernel)) <|
    zall_c (zs_iload X (pc := 22) (by decide +kernel)) <|
    zall_c (zs_callV0 X (pc := 24) zc_X9 (fun _ ht => ⟨(zCB ht gw_9_165 gw_1_13 gw_9_162 rfl rfl (by decide +kernel) ⟨Nat.le_of_ble_eq_true rfl, Nat.le_of_ble_eq_true rfl⟩), ht _ (.tail _ gw_9_164), ht _ (.tail _ gp_89)⟩) h1 hout (by decide +kernel)) <|
    zall_c (zs_istore X (pc := 27) (by decide) (by decide +kernel)) <|
    zall_c (zs_aload_n X (pc := 29) (q := 0) rfl (by decide +kernel)) <|
    zall_c (zs_iload_n X (pc := 30) (q := 2) rfl (by decide +kernel)) <|
    zall_c (zs_iload X (pc := 31) (by decide +kernel)) <|
    zall_c (zs_callV0 X (pc := 33) zc_X9 (fun _ ht => ⟨(zCB ht gw_9_165 gw_1_13 gw_9_162 rfl rfl (by decide +kernel) ⟨Nat.le_of_ble_eq_true rfl, Nat.le_of_ble_eq_true rfl⟩), ht _ (.tail _ gw_9_164), ht _ (.tail _ gp_89)⟩) h1 hout (by decide +kernel)) <|
    zall_c (zs_istore X (pc := 36) (by decide) (by decide +kernel)) <|
    zall_c (zs_iload X (pc := 38) (by decide +kernel)) <|
    zall_c (zs_iload X (pc := 40) (by decide +kernel)) <|
    zall_c (zs_iconst X (pc := 42) (by decide) (by decide +kernel)) <|
    zall_c (zs_icmp_eq X (pc := 43) (off := 25) (by decide +kernel) (by decide)) <|
    zall_c (zs_iload X (pc := 46) (by decide +kernel)) <|
    zall_c (zs_iconst X (pc := 48) (by decide) (by decide +kernel)) <|
    zall_c (zs_icmp_eq X (pc := 49) (off := 19) (by decide +kernel) (by decide)) <|
    zall_c (zs_aload_n X (pc := 52) (q := 0) rfl (by decide +kernel)) <|
    zall_c (zs_iload X (pc := 53) (by decide +kernel)) <|
    zall_c (zs_iload X (pc := 55) (by decide +kernel)) <|
    zall_c (zs_callV0 X (pc := 57) zc_X9 (fun _ ht => ⟨(zCB ht gw_9_169 gw_1_13 gw_9_166 rfl rfl (by decide +kernel) ⟨Nat.le_of_ble_eq_true rfl, Nat.le_of_ble_eq_true rfl⟩), ht _ (.tail _ gw_9_168), ht _ (.tail _ gp_90)⟩) h2 hout (by decide +kernel)) <|
    zall_c (zs_iload_n X (pc := 60) (q := 3) rfl (by decide +kernel)) <|
    zall_c (zs_icmp_ne X (pc := 61) (off := 7) (by decide +kernel) (by decide)) <|
    zall_c (zs_iconst X (pc := 64) (by decide) (by decide +kernel)) <|
    zall_c (zs_goto X (pc := 65) (off := 4) (by decide +kernel) (by decide)) <|
    zall_c (zs_iconst X (pc := 68) (by decide) (by decide +kernel)) <|
    zall_c (zs_iadd X (pc := 69) (by decide +kernel)) <|
    zall_c (zs_istore X (pc := 70) (by decide) (by decide +kernel)) <|
    zall_c (zs_iinc X (pc := 72) (by decide) (by decide +kernel)) <|
    zall_c (zs_goto X (pc := 75) (off := (-69)) (by decide +kernel) (by decide)) <|
    zall_c (zs_iload X (pc := 78) (by decide +kernel)) <|
    zall_c (zs_iret X (pc := 80) rfl (by decide +kernel)) <|
    zall_n
theorem met_X9_together {l : Launch} (hl : l.stackTraces = false) {T0 : ZTf} {T1 : ZTf} {T2 : ZTf} (h0 : zMet l yX9_rows (Cond.code yX9_rows cX9_rows 1 (Option.some Jvm.ClassFile.FieldType.int) :: zG) rm_X9_rows 0 0 T0) (h1 : zMet l yX9_resultOf (Cond.code yX9_resultOf cX9_resultOf 4 (Option.some Jvm.ClassFile.FieldType.int) :: zG) rm_X9_resultOf 0 0 T1) (h2 : zMet l yX9_doAgree (Cond.code yX9_doAgree cX9_doAgree 3 (Option.some Jvm.ClassFile.FieldType.boolean) :: zG) rm_X9_doAgree 0 0 T2) {T : ZTf} (bd : zBd (cd_X9_together T0 T1 T2) 8 0 0 T) : zMet l yX9_together (Cond.code yX9_together cX9_together 8 (Option.some Jvm.ClassFile.FieldType.int) :: zG) rm_X9_together 0 0 T := zMet_of hl (by decide +kernel) rfl rfl rfl rfl (hs_X9_together hl h0 h1 h2) bd

abbrev rm_X9_agreeing : Room := { frames := 6, cells := 0, slots := 0, locals := 148 }
def cd_X9_agreeing (T0 : ZTf) (T1 : ZTf) (T2 : ZTf) : List (Nat × ZTr) := [(0, tAld 0 1), (1, tAld 0 2), (2, tIld 1 3), (3, tIld 2 4), (4, tCall0 3 T0 (zRcv 12) 7), (7, tCall0 2 T1 (zRcv 12) 10), (10, tIf_eq 23 13), (13, tAld 0 14), (14, tIld 1 15), (15, tIld 2 16), (16, tC (zi 1) 17), (17, tCall0 4 T2 (zRcv 12) 20), (20, tGo 24), (23, tC (zi 0) 24), (24, tRi (fun _ => True))]
set_option maxRecDepth 100000 in
set_option maxHeartbeats 4000000 in
theorem hs_X9_agreeing {l : Launch} (hl : l.stackTraces = false) {T0 : ZTf} {T1 : ZTf} {T2 : ZTf} (h0 : zMet l yX9_areWorkers (Cond.code yX9_areWorkers cX9_areWorkers 3 (Option.some Jvm.ClassFile.FieldType.boolean) :: zG) rm_X9_areWorkers 0 0 T0) (h1 : zMet l yX9_passes (Cond.code yX9_passes cX9_passes 2 (Option.some Jvm.ClassFile.FieldType.boolean) :: zG) rm_X9_passes 0 0 T1) (h2 : zMet l yX9_together (Cond.code yX9_together cX9_together 8 (Option.some Jvm.ClassFile.FieldType.int) :: zG) rm_X9_together 0 0 T2) (p : Program) (e : Env) (s : State) (m : MethodId) (args : Array Value) (below : List Frame) (meth : Method) (c : Code) (D : va_G) (A : Nat → Prop) (a0 : Nat → Nat) (M0 : ZM) (K : ZRet) (KX : ZEx) (X : zCtx p l rm_X9_agreeing s m args meth c cX9_agreeing RX9 (Cond.code yX9_agreeing cX9_agreeing 3 (Option.some Jvm.ClassFile.FieldType.int) :: zG) 3 (Option.some Jvm.ClassFile.FieldType.int) D A a0 M0 0 0) (hnm : meth.name = yX9_agreeing.name) (hout : ∀ x ∈ c.exceptionTable.toList, False) : ∀ q ∈ cd_X9_agreeing T0 T1 T2, zSd p l e rm_X9_agreeing s m args below meth c 3 D A a0 M0 K KX 0 0 q.1 q.2 :=
    zall_c (zs_aload_n X (pc := 0) (q := 0) rfl (by decide +kernel)) <|
    zall_c (zs_aload_n X (pc := 1) (q := 0) rfl (by decide +kernel)) <|
    zall_c (zs_iload_n X (pc := 2) (q := 1) rfl (by decide +kernel)) <|
    zall_c (zs_iload_n X (pc := 3) (q := 2) rfl (by decide +kernel)) <|
    zall_c (zs_callV0 X (pc := 4) zc_X9 (fun _ ht => ⟨(zCB ht gw_9_149 gw_1_13 gw_9_146 rfl rfl (by decide +kernel) ⟨Nat.le_of_ble_eq_true rfl, Nat.le_of_ble_eq_true rfl⟩), ht _ (.tail _ gw_9_148), ht _ (.tail _ gp_87)⟩) h0 hout (by decide +kernel)) <|
    zall_c (zs_callV0 X (pc := 7) zc_X9 (fun _ ht => ⟨(zCB ht gw_8_49 gw_1_13 gw_8_46 rfl rfl (by decide +kernel) ⟨Nat.le_of_ble_eq_true rfl, Nat.le_of_ble_eq_true rfl⟩), ht _ (.tail _ gw_8_48), ht _ (.tail _ gp_28)⟩) h1 hout (by decide +kernel)) <|
    zall_c (zs_if_eq X (pc := 10) (off := 13) (by decide +kernel) (by decide)) <|
    zall_c (zs_aload_n X (pc := 13) (q := 0) rfl (by decide +kernel)) <|
    zall_c (zs_iload_n X (pc := 14) (q := 1) rfl (by decide +kernel)) <|
    zall_c (zs_iload_n X (pc := 15) (q := 2) rfl (by decide +kernel)) <|
    zall_c (zs_iconst X (pc := 16) (by decide) (by decide +kernel)) <|
    zall_c (zs_callV0 X (pc := 17) zc_X9 (fun _ ht => ⟨(zCB ht gw_9_161 gw_1_13 gw_9_158 rfl rfl (by decide +kernel) ⟨Nat.le_of_ble_eq_true rfl, Nat.le_of_ble_eq_true rfl⟩), ht _ (.tail _ gw_9_160), ht _ (.tail _ gp_88)⟩) h2 hout (by decide +kernel)) <|
    zall_c (zs_goto X (pc := 20) (off := 4) (by decide +kernel) (by decide)) <|
    zall_c (zs_iconst X (pc := 23) (by decide) (by decide +kernel)) <|
    zall_c (zs_iret X (pc := 24) rfl (by decide +kernel)) <|
    zall_n
theorem met_X9_agreeing {l : Launch} (hl : l.stackTraces = false) {T0 : ZTf} {T1 : ZTf} {T2 : ZTf} (h0 : zMet l yX9_areWorkers (Cond.code yX9_areWorkers cX9_areWorkers 3 (Option.some Jvm.ClassFile.FieldType.boolean) :: zG) rm_X9_areWorkers 0 0 T0) (h1 : zMet l yX9_passes (Cond.code yX9_passes cX9_passes 2 (Option.some Jvm.ClassFile.FieldType.boolean) :: zG) rm_X9_passes 0 0 T1) (h2 : zMet l yX9_together (Cond.code yX9_together cX9_together 8 (Option.some Jvm.ClassFile.FieldType.int) :: zG) rm_X9_together 0 0 T2) {T : ZTf} (bd : zBd (cd_X9_agreeing T0 T1 T2) 3 0 0 T) : zMet l yX9_agreeing (Cond.code yX9_agreeing cX9_agreeing 3 (Option.some Jvm.ClassFile.FieldType.int) :: zG) rm_X9_agreeing 0 0 T := zMet_of hl (by decide +kernel) rfl rfl rfl rfl (hs_X9_agreeing hl h0 h1 h2) bd

abbrev rm_X9_differing : Room := { frames := 6, cells := 0, slots := 0, locals := 148 }
def cd_X9_differing (T0 : ZTf) (T1 : ZTf) (T2 : ZTf) : List (Nat × ZTr) := [(0, tAld 0 1), (1, tAld 0 2), (2, tIld 1 3), (3, tIld 2 4), (4, tCall0 3 T0 (zRcv 12) 7), (7, tCall0 2 T1 (zRcv 12) 10), (10, tIf_eq 23 13), (13, tAld 0 14), (14, tIld 1 15), (15, tIld 2 16), (16, tC (zi 0) 17), (17, tCall0 4 T2 (zRcv 12) 20), (20, tGo 24), (23, tC (zi 0) 24), (24, tRi (fun _ => True))]
set_option maxRecDepth 100000 in
set_option maxHeartbeats 4000000 in
theorem hs_X9_differing {l : Launch} (hl : l.stackTraces = false) {T0 : ZTf} {T1 : ZTf} {T2 : ZTf} (h0 : zMet l yX9_areWorkers (Cond.code yX9_areWorkers cX9_areWorkers 3 (Option.some Jvm.ClassFile.FieldType.boolean) :: zG) rm_X9_areWorkers 0 0 T0) (h1 : zMet l yX9_passes (Cond.code yX9_passes cX9_passes 2 (Option.some Jvm.ClassFile.FieldType.boolean) :: zG) rm_X9_passes 0 0 T1) (h2 : zMet l yX9_together (Cond.code yX9_together cX9_together 8 (Option.some Jvm.ClassFile.FieldType.int) :: zG) rm_X9_together 0 0 T2) (p : Program) (e : Env) (s : State) (m : MethodId) (args : Array Value) (below : List Frame) (meth : Method) (c : Code) (D : va_G) (A : Nat → Prop) (a0 : Nat → Nat) (M0 : ZM) (K : ZRet) (KX : ZEx) (X : zCtx p l rm_X9_differing s m args meth c cX9_differing RX9 (Cond.code yX9_differing cX9_differing 3 (Option.some Jvm.ClassFile.FieldType.int) :: zG) 3 (Option.some Jvm.ClassFile.FieldType.int) D A a0 M0 0 0) (hnm : meth.name = yX9_differing.name) (hout : ∀ x ∈ c.exceptionTable.toList, False) : ∀ q ∈ cd_X9_differing T0 T1 T2, zSd p l e rm_X9_differing s m args below meth c 3 D A a0 M0 K KX 0 0 q.1 q.2 :=
    zall_c (zs_aload_n X (pc := 0) (q := 0) rfl (by decide +kernel)) <|
    zall_c (zs_aload_n X (pc := 1) (q := 0) rfl (by decide +kernel)) <|
    zall_c (zs_iload_n X (pc := 2) (q := 1) rfl (by decide +kernel)) <|
    zall_c (zs_iload_n X (pc := 3) (q := 2) rfl (by decide +kernel)) <|
    zall_c (zs_callV0 X (pc := 4) zc_X9 (fun _ ht => ⟨(zCB ht gw_9_149 gw_1_13 gw_9_146 rfl rfl (by decide +kernel) ⟨Nat.le_of_ble_eq_true rfl, Nat.le_of_ble_eq_true rfl⟩), ht _ (.tail _ gw_9_148), ht _ (.tail _ gp_87)⟩) h0 hout (by decide +kernel)) <|
    zall_c (zs_callV0 X (pc := 7) zc_X9 (fun _ ht => ⟨(zCB ht gw_8_49 gw_1_13 gw_8_46 rfl rfl (by decide +kernel) ⟨Nat.le_of_ble_eq_true rfl, Nat.le_of_ble_eq_true rfl⟩), ht _ (.tail _ gw_8_48), ht _ (.tail _ gp_28)⟩) h1 hout (by decide +kernel)) <|
    zall_c (zs_if_eq X (pc := 10) (off := 13) (by decide +kernel) (by decide)) <|
    zall_c (zs_aload_n X (pc := 13) (q := 0) rfl (by decide +kernel)) <|
    zall_c (zs_iload_n X (pc := 14) (q := 1) rfl (by decide +kernel)) <|
    zall_c (zs_iload_n X (pc := 15) (q := 2) rfl (by decide +kernel)) <|
    zall_c (zs_iconst X (pc := 16) (by decide) (by decide +kernel)) <|
    zall_c (zs_callV0 X (pc := 17) zc_X9 (fun _ ht => ⟨(zCB ht gw_9_161 gw_1_13 gw_9_158 rfl rfl (by decide +kernel) ⟨Nat.le_of_ble_eq_true rfl, Nat.le_of_ble_eq_true rfl⟩), ht _ (.tail _ gw_9_160), ht _ (.tail _ gp_88)⟩) h2 hout (by decide +kernel)) <|
    zall_c (zs_goto X (pc := 20) (off := 4) (by decide +kernel) (by decide)) <|
    zall_c (zs_iconst X (pc := 23) (by decide) (by decide +kernel)) <|
    zall_c (zs_iret X (pc := 24) rfl (by decide +kernel)) <|
    zall_n
theorem met_X9_differing {l : Launch} (hl : l.stackTraces = false) {T0 : ZTf} {T1 : ZTf} {T2 : ZTf} (h0 : zMet l yX9_areWorkers (Cond.code yX9_areWorkers cX9_areWorkers 3 (Option.some Jvm.ClassFile.FieldType.boolean) :: zG) rm_X9_areWorkers 0 0 T0) (h1 : zMet l yX9_passes (Cond.code yX9_passes cX9_passes 2 (Option.some Jvm.ClassFile.FieldType.boolean) :: zG) rm_X9_passes 0 0 T1) (h2 : zMet l yX9_together (Cond.code yX9_together cX9_together 8 (Option.some Jvm.ClassFile.FieldType.int) :: zG) rm_X9_together 0 0 T2) {T : ZTf} (bd : zBd (cd_X9_differing T0 T1 T2) 3 0 0 T) : zMet l yX9_differing (Cond.code yX9_differing cX9_differing 3 (Option.some Jvm.ClassFile.FieldType.int) :: zG) rm_X9_differing 0 0 T := zMet_of hl (by decide +kernel) rfl rfl rfl rfl (hs_X9_differing hl h0 h1 h2) bd

abbrev rm_X9_partner : Room := { frames := 6, cells := 0, slots := 0, locals := 148 }
def cd_X9_partner (T0 : ZTf) (T1 : ZTf) (T2 : ZTf) (T3 : ZTf) : List (Nat × ZTr) := [(0, tAld 0 1), (1, tAld 0 2), (2, tIld 1 3), (3, tCall0 2 T0 (zRcv 12) 6), (6, tCall0 2 T1 (zRcv 12) 9), (9, tIf_ne 14 12), (12, tC (zi 0) 13), (13, tRi (fun _ => True)), (14, tC (zi (-1)) 15), (15, tIst 2 16), (16, tC (zi 0) 17), (17, tIst 3 18), (18, tC (zi 0) 19), (19, tIst 4 21), (21, tIld 4 23), (23, tAld 0 24), (24, tCall0 1 T2 (zRcv 12) 27), (27, tIc_ge 61 30), (30, tAld 0 31), (31, tIld 1 32), (32, tIld 4 34), (34, tC (zi 1) 35), (35, tCall0 4 T3 (zRcv 12) 38), (38, tIst 5 40), (40, tIld 5 42), (42, tIld 3 43), (43, tIc_gt 49 46), (46, tGo 55), (49, tIld 4 51), (51, tIst 2 52), (52, tIld 5 54), (54, tIst 3 55), (55, tInc 4 1 58), (58, tGo 21), (61, tIld 2 62), (62, tRi (fun _ => True))]
set_option maxRecDepth 100000 in
set_option maxHeartbeats 4000000 in
theorem hs_X9_partner {l : Launch} (hl : l.stackTraces = false) {T0 : ZTf} {T1 : ZTf} {T2 : ZTf} {T3 : ZTf} (h0 : zMet l yX9_isWorker (Cond.code yX9_isWorker cX9_isWorker 2 (Option.some Jvm.ClassFile.FieldType.boolean) :: zG) rm_X9_isWorker 0 0 T0) (h1 : zMet l yX9_passes (Cond.code yX9_passes cX9_passes 2 (Option.some Jvm.ClassFile.FieldType.boolean) :: zG) rm_X9_passes 0 0 T1) (h2 : zMet l yX9_workers (Cond.code yX9_workers cX9_workers 1 (Option.some Jvm.ClassFile.FieldType.int) :: zG) rm_X9_workers 0 0 T2) (h3 : zMet l yX9_together (Cond.code yX9_together cX9_together 8 (Option.some Jvm.ClassFile.FieldType.int) :: zG) rm_X9_together 0 0 T3) (p : Program) (e : Env) (s : State) (m : MethodId) (args : Array Value) (below : List Frame) (meth : Method) (c : Code) (D : va_G) (A : Nat → Prop) (a0 : Nat → Nat) (M0 : ZM) (K : ZRet) (KX : ZEx) (X : zCtx p l rm_X9_partner s m args meth c cX9_partner RX9 (Cond.code yX9_partner cX9_partner 6 (Option.some Jvm.ClassFile.FieldType.int) :: zG) 6 (Option.some Jvm.ClassFile.FieldType.int) D A a0 M0 0 0) (hnm : meth.name = yX9_partner.name) (hout : ∀ x ∈ c.exceptionTable.toList, False) : ∀ q ∈ cd_X9_partner T0 T1 T2 T3, zSd p l e rm_X9_partner s m args below meth c 6 D A a0 M0 K KX 0 0 q.1 q.2 :=
    zall_c (zs_aload_n X (pc := 0) (q := 0) rfl (by decide +kernel)) <|
    zall_c (zs_aload_n X (pc := 1) (q := 0) rfl (by decide +kernel)) <|
    zall_c (zs_iload_n X (pc := 2) (q := 1) rfl (by decide +kernel)) <|
    zall_c (zs_callV0 X (pc := 3) zc_X9 (fun _ ht => ⟨(zCB ht gw_9_11 gw_1_13 gw_9_8 rfl rfl (by decide +kernel) ⟨Nat.le_of_ble_eq_true rfl, Nat.le_of_ble_eq_true rfl⟩), ht _ (.tail _ gw_9_10), ht _ (.tail _ gp_65)⟩) h0 hout (by decide +kernel)) <|
    zall_c (zs_callV0 X (pc := 6) zc_X9 (fun _ ht => ⟨(zCB ht gw_8_49 gw_1_13 gw_8_46 rfl rfl (by decide +kernel) ⟨Nat.le_of_ble_eq_true rfl, Nat.le_of_ble_eq_true rfl⟩), ht _ (.tail _ gw_8_48), ht _ (.tail _ gp_28)⟩) h1 hout (by decide +kernel)) <|
    zall_c (zs_if_ne X (pc := 9) (off := 5) (by decide +kernel) (by decide)) <|
    zall_c (zs_iconst X (pc := 12) (by decide) (by decide +kernel)) <|
    zall_c (zs_iret X (pc := 13) rfl (by decide +kernel)) <|
    zall_c (zs_iconst X (pc := 14) (by decide) (by decide +kernel)) <|
    zall_c (zs_istore_n X (pc := 15) (q := 2) rfl (by decide) (by decide +kernel)) <|
    zall_c (zs_iconst X (pc := 16) (by decide) (by decide +kernel)) <|
    zall_c (zs_istore_n X (pc := 17) (q := 3) rfl (by decide) (by decide +kernel)) <|
    zall_c (zs_iconst X (pc := 18) (by decide) (by decide +kernel)) <|
    zall_c (zs_istore X (pc := 19) (by decide) (by decide +kernel)) <|
    zall_c (zs_iload X (pc := 21) (by decide +kernel)) <|
    zall_c (zs_aload_n X (pc := 23) (q := 0) rfl (by decide +kernel)) <|
    zall_c (zs_callV0 X (pc := 24) zc_X9 (fun _ ht => ⟨(zCB ht gw_8_136 gw_1_13 gw_8_133 rfl rfl (by decide +kernel) ⟨Nat.le_of_ble_eq_true rfl, Nat.le_of_ble_eq_true rfl⟩), ht _ (.tail _ gw_8_135), ht _ (.tail _ gp_44)⟩) h2 hout (by decide +kernel)) <|
    zall_c (zs_icmp_ge X (pc := 27) (off := 34) (by decide +kernel) (by decide)) <|
    zall_c (zs_aload_n X (pc := 30) (q := 0) rfl (by decide +kernel)) <|
    zall_c (zs_iload_n X (pc := 31) (q := 1) rfl (by decide +kernel)) <|
    zall_c (zs_iload X (pc := 32) (by decide +kernel)) <|
    zall_c (zs_iconst X (pc := 34) (by decide) (by decide +kernel)) <|
    zall_c (zs_callV0 X (pc := 35) zc_X9 (fun _ ht => ⟨(zCB ht gw_9_161 gw_1_13 gw_9_158 rfl rfl (by decide +kernel) ⟨Nat.le_of_ble_eq_true rfl, Nat.le_of_ble_eq_true rfl⟩), ht _ (.tail _ gw_9_160), ht _ (.tail _ gp_88)⟩) h3 hout (by decide +kernel)) <|
    zall_c (zs_istore X (pc := 38) (by decide) (by decide +kernel)) <|
    zall_c (zs_iload X (pc := 40) (by decide +kernel)) <|
    zall_c (zs_iload_n X (pc := 42) (q := 3) rfl (by decide +kernel)) <|
    zall_c (zs_icmp_gt X (pc := 43) (off := 6) (by decide +kernel) (by decide)) <|
    zall_c (zs_goto X (pc := 46) (off := 9) (by decide +kernel) (by decide)) <|
    zall_c (zs_iload X (pc := 49) (by decide +kernel)) <|
    zall_c (zs_istore_n X (pc := 51) (q := 2) rfl (by decide) (by decide +kernel)) <|
    zall_c (zs_iload X (pc := 52) (by decide +kernel)) <|
    zall_c (zs_istore_n X (pc := 54) (q := 3) rfl (by decide) (by decide +kernel)) <|
    zall_c (zs_iinc X (pc := 55) (by decide) (by decide +kernel)) <|
    zall_c (zs_goto X (pc := 58) (off := (-37)) (by decide +kernel) (by decide)) <|
    zall_c (zs_iload_n X (pc := 61) (q := 2) rfl (by decide +kernel)) <|
    zall_c (zs_iret X (pc := 62) rfl (by decide +kernel)) <|
    zall_n
theorem met_X9_partner {l : Launch} (hl : l.stackTraces = false) {T0 : ZTf} {T1 : ZTf} {T2 : ZTf} {T3 : ZTf} (h0 : zMet l yX9_isWorker (Cond.code yX9_isWorker cX9_isWorker 2 (Option.some Jvm.ClassFile.FieldType.boolean) :: zG) rm_X9_isWorker 0 0 T0) (h1 : zMet l yX9_passes (Cond.code yX9_passes cX9_passes 2 (Option.some Jvm.ClassFile.FieldType.boolean) :: zG) rm_X9_passes 0 0 T1) (h2 : zMet l yX9_workers (Cond.code yX9_workers cX9_workers 1 (Option.some Jvm.ClassFile.FieldType.int) :: zG) rm_X9_workers 0 0 T2) (h3 : zMet l yX9_together (Cond.code yX9_together cX9_together 8 (Option.some Jvm.ClassFile.FieldType.int) :: zG) rm_X9_together 0 0 T3) {T : ZTf} (bd : zBd (cd_X9_partner T0 T1 T2 T3) 6 0 0 T) : zMet l yX9_partner (Cond.code yX9_partner cX9_partner 6 (Option.some Jvm.ClassFile.FieldType.int) :: zG) rm_X9_partner 0 0 T := zMet_of hl (by decide +kernel) rfl rfl rfl rfl (hs_X9_partner hl h0 h1 h2 h3) bd

abbrev rm_X9_accuracy : Room := { frames := 5, cells := 0, slots := 0, locals := 121 }
def cd_X9_accuracy (T0 : ZTf) (T1 : ZTf) (T2 : ZTf) (T3 : ZTf) (T4 : ZTf) (T5 : ZTf) (T6 : ZTf) : List (Nat × ZTr) := [(0, tAld 0 1), (1, tAld 0 2), (2, tIld 1 3), (3, tCall0 2 T0 (zRcv 12) 6), (6, tCall0 2 T1 (zRcv 12) 9), (9, tIf_ne 14 12), (12, tC (zf FP.fconst0) 13), (13, tRf), (14, tC (zi 0) 15), (15, tIst 2 16), (16, tC (zi 0) 17), (17, tIst 3 18), (18, tC (zi 0) 19), (19, tIst 4 21), (21, tIld 4 23), (23, tAld 0 24), (24, tCall0 1 T2 (zRcv 12) 27), (27, tIc_ge 90 30), (30, tAld 0 31), (31, tIld 1 32), (32, tIld 4 34), (34, tCall0 3 T3 (zRcv 12) 37), (37, tIst 5 39), (39, tAld 0 40), (40, tIld 4 42), (42, tCall0 2 T4 (zRcv 12) 45), (45, tIf_eq 84 48), (48, tIld 5 50), (50, tC (zi (-1)) 51), (51, tIc_ne 57 54), (54, tGo 84), (57, tInc 3 1 60), (60, tIld 2 61), (61, tAld 0 62), (62, tIld 5 64), (64, tAld 0 65), (65, tIld 4 67), (67, tC (zi 3) 68), (68, tCall0 3 T5 (zRcv 12) 71), (71, tCall0 3 T6 (zRcv 12) 74), (74, tIf_eq 81 77), (77, tC (zi 1) 78), (78, tGo 82), (81, tC (zi 0) 82), (82, tAdd 83), (83, tIst 2 84), (84, tInc 4 1 87), (87, tGo 21), (90, tIld 3 91), (91, tIf_ne 98 94), (94, tC (zf FP.fconst0) 95), (95, tGo 103), (98, tIld 2 99), (99, tI2f 100), (100, tIld 3 101), (101, tI2f 102), (102, tFdiv 103), (103, tRf)]
set_option maxRecDepth 100000 in
set_option maxHeartbeats 4000000 in
theorem hs_X9_accuracy {l : Launch} (hl : l.stackTraces = false) {T0 : ZTf} {T1 : ZTf} {T2 : ZTf} {T3 : ZTf} {T4 : ZTf} {T5 : ZTf} {T6 : ZTf} (h0 : zMet l yX9_isWorker (Cond.code yX9_isWorker cX9_isWorker 2 (Option.some Jvm.ClassFile.FieldType.boolean) :: zG) rm_X9_isWorker 0 0 T0) (h1 : zMet l yX9_passes (Cond.code yX9_passes cX9_passes 2 (Option.some Jvm.ClassFile.FieldType.boolean) :: zG) rm_X9_passes 0 0 T1) (h2 : zMet l yX9_rows (Cond.code yX9_rows cX9_rows 1 (Option.some Jvm.ClassFile.FieldType.int) :: zG) rm_X9_rows 0 0 T2) (h3 : zMet l yX9_resultOf (Cond.code yX9_resultOf cX9_resultOf 4 (Option.some Jvm.ClassFile.FieldType.int) :: zG) rm_X9_resultOf 0 0 T3) (h4 : zMet l yX9_isAudited (Cond.code yX9_isAudited cX9_isAudited 2 (Option.some Jvm.ClassFile.FieldType.boolean) :: zG) rm_X9_isAudited 0 0 T4) (h5 : zMet l yX9_ofRow (Cond.code yX9_ofRow cX9_ofRow 3 (Option.some Jvm.ClassFile.FieldType.int) :: zG) rm_X9_ofRow 0 0 T5) (h6 : zMet l yX9_doAgree (Cond.code yX9_doAgree cX9_doAgree 3 (Option.some Jvm.ClassFile.FieldType.boolean) :: zG) rm_X9_doAgree 0 0 T6) (p : Program) (e : Env) (s : State) (m : MethodId) (args : Array Value) (below : List Frame) (meth : Method) (c : Code) (D : va_G) (A : Nat → Prop) (a0 : Nat → Nat) (M0 : ZM) (K : ZRet) (KX : ZEx) (X : zCtx p l rm_X9_accuracy s m args meth c cX9_accuracy RX9 (Cond.code yX9_accuracy cX9_accuracy 6 (Option.some Jvm.ClassFile.FieldType.float) :: zG) 6 (Option.some Jvm.ClassFile.FieldType.float) D A a0 M0 0 0) (hnm : meth.name = yX9_accuracy.name) (hout : ∀ x ∈ c.exceptionTable.toList, False) : ∀ q ∈ cd_X9_accuracy T0 T1 T2 T3 T4 T5 T6, zSd p l e rm_X9_accuracy s m args below meth c 6 D A a0 M0 K KX 0 0 q.1 q.2 :=
    zall_c (zs_aload_n X (pc := 0) (q := 0) rfl (by decide +kernel)) <|
    zall_c (zs_aload_n X (pc := 1) (q := 0) rfl (by decide +kernel)) <|
    zall_c (zs_iload_n X (pc := 2) (q := 1) rfl (by decide +kernel)) <|
    zall_c (zs_callV0 X (pc := 3) zc_X9 (fun _ ht => ⟨(zCB ht gw_9_11 gw_1_13 gw_9_8 rfl rfl (by decide +kernel) ⟨Nat.le_of_ble_eq_true rfl, Nat.le_of_ble_eq_true rfl⟩), ht _ (.tail _ gw_9_10), ht _ (.tail _ gp_65)⟩) h0 hout (by decide +kernel)) <|
    zall_c (zs_callV0 X (pc := 6) zc_X9 (fun _ ht => ⟨(zCB ht gw_8_49 gw_1_13 gw_8_46 rfl rfl (by decide +kernel) ⟨Nat.le_of_ble_eq_true rfl, Nat.le_of_ble_eq_true rfl⟩), ht _ (.tail _ gw_8_48), ht _ (.tail _ gp_28)⟩) h1 hout (by decide +kernel)) <|
    zall_c (zs_if_ne X (pc := 9) (off := 5) (by decide +kernel) (by decide)) <|
    zall_c (zs_fconst0 X (pc := 12) (by decide +kernel)) <|
    zall_c (zs_fret X (pc := 13) rfl (by decide +kernel)) <|
    zall_c (zs_iconst X (pc := 14) (by decide) (by decide +kernel)) <|
    zall_c (zs_istore_n X (pc := 15) (q := 2) rfl (by decide) (by decide +kernel)) <|
    zall_c (zs_iconst X (pc := 16) (by decide) (by decide +kernel)) <|
    zall_c (zs_istore_n X (pc := 17) (q := 3) rfl (by decide) (by decide +kernel)) <|
    zall_c (zs_iconst X (pc := 18) (by decide) (by decide +kernel)) <|
    zall_c (zs_istore X (pc := 19) (by decide) (by decide +kernel)) <|
    zall_c (zs_iload X (pc := 21) (by decide +kernel)) <|
    zall_c (zs_aload_n X (pc := 23) (q := 0) rfl (by decide +kernel)) <|
    zall_c (zs_callV0 X (pc := 24) zc_X9 (fun _ ht => ⟨(zCB ht gw_8_173 gw_1_13 gw_8_170 rfl rfl (by decide +kernel) ⟨Nat.le_of_ble_eq_true rfl, Nat.le_of_ble_eq_true rfl⟩), ht _ (.tail _ gw_8_172), ht _ (.tail _ gp_51)⟩) h2 hout (by decide +kernel)) <|
    zall_c (zs_icmp_ge X (pc := 27) (off := 63) (by decide +kernel) (by decide)) <|
    zall_c (zs_aload_n X (pc := 30) (q := 0) rfl (by decide +kernel)) <|
    zall_c (zs_iload_n X (pc := 31) (q := 1) rfl (by decide +kernel)) <|
    zall_c (zs_iload X (pc := 32) (by decide +kernel)) <|
    zall_c (zs_callV0 X (pc := 34) zc_X9 (fun _ ht => ⟨(zCB ht gw_9_165 gw_1_13 gw_9_162 rfl rfl (by decide +kernel) ⟨Nat.le_of_ble_eq_true rfl, Nat.le_of_ble_eq_true rfl⟩), ht _ (.tail _ gw_9_164), ht _ (.tail _ gp_89)⟩) h3 hout (by decide +kernel)) <|
    zall_c (zs_istore X (pc := 37) (by decide) (by decide +kernel)) <|
    zall_c (zs_aload_n X (pc := 39) (q := 0) rfl (by decide +kernel)) <|
    zall_c (zs_iload X (pc := 40) (by decide +kernel)) <|
    zall_c (zs_callV0 X (pc := 42) zc_X9 (fun _ ht => ⟨(zCB ht gw_8_235 gw_1_13 gw_8_232 rfl rfl (by decide +kernel) ⟨Nat.le_of_ble_eq_true rfl, Nat.le_of_ble_eq_true rfl⟩), ht _ (.tail _ gw_8_234), ht _ (.tail _ gp_62)⟩) h4 hout (by decide +kernel)) <|
    zall_c (zs_if_eq X (pc := 45) (off := 39) (by decide +kernel) (by decide)) <|
    zall_c (zs_iload X (pc := 48) (by decide +kernel)) <|
    zall_c (zs_iconst X (pc := 50) (by decide) (by decide +kernel)) <|
    zall_c (zs_icmp_ne X (pc := 51) (off := 6) (by decide +kernel) (by decide)) <|
    zall_c (zs_goto X (pc := 54) (off := 30) (by decide +kernel) (by decide)) <|
    zall_c (zs_iinc X (pc := 57) (by decide) (by decide +kernel)) <|
    zall_c (zs_iload_n X (pc := 60) (q := 2) rfl (by decide +kernel)) <|
    zall_c (zs_aload_n X (pc := 61) (q := 0) rfl (by decide +kernel)) <|
    zall_c (zs_iload X (pc := 62) (by decide +kernel)) <|
    zall_c (zs_aload_n X (pc := 64) (q := 0) rfl (by decide +kernel)) <|
    zall_c (zs_iload X (pc := 65) (by decide +kernel)) <|
    zall_c (zs_iconst X (pc := 67) (by decide) (by decide +kernel)) <|
    zall_c (zs_callV0 X (pc := 68) zc_X9 (fun _ ht => ⟨(zCB ht gw_8_239 gw_1_13 gw_8_236 rfl rfl (by decide +kernel) ⟨Nat.le_of_ble_eq_true rfl, Nat.le_of_ble_eq_true rfl⟩), ht _ (.tail _ gw_8_238), ht _ (.tail _ gp_63)⟩) h5 hout (by decide +kernel)) <|
    zall_c (zs_callV0 X (pc := 71) zc_X9 (fun _ ht => ⟨(zCB ht gw_9_169 gw_1_13 gw_9_166 rfl rfl (by decide +kernel) ⟨Nat.le_of_ble_eq_true rfl, Nat.le_of_ble_eq_true rfl⟩), ht _ (.tail _ gw_9_168), ht _ (.tail _ gp_90)⟩) h6 hout (by decide +kernel)) <|
    zall_c (zs_if_eq X (pc := 74) (off := 7) (by decide +kernel) (by decide)) <|
    zall_c (zs_iconst X (pc := 77) (by decide) (by decide +kernel)) <|
    zall_c (zs_goto X (pc := 78) (off := 4) (by decide +kernel) (by decide)) <|
    zall_c (zs_iconst X (pc := 81) (by decide) (by decide +kernel)) <|
    zall_c (zs_iadd X (pc := 82) (by decide +kernel)) <|
    zall_c (zs_istore_n X (pc := 83) (q := 2) rfl (by decide) (by decide +kernel)) <|
    zall_c (zs_iinc X (pc := 84) (by decide) (by decide +kernel)) <|
    zall_c (zs_goto X (pc := 87) (off := (-66)) (by decide +kernel) (by decide)) <|
    zall_c (zs_iload_n X (pc := 90) (q := 3) rfl (by decide +kernel)) <|
    zall_c (zs_if_ne X (pc := 91) (off := 7) (by decide +kernel) (by decide)) <|
    zall_c (zs_fconst0 X (pc := 94) (by decide +kernel)) <|
    zall_c (zs_goto X (pc := 95) (off := 8) (by decide +kernel) (by decide)) <|
    zall_c (zs_iload_n X (pc := 98) (q := 2) rfl (by decide +kernel)) <|
    zall_c (zs_i2f X (pc := 99) (by decide +kernel)) <|
    zall_c (zs_iload_n X (pc := 100) (q := 3) rfl (by decide +kernel)) <|
    zall_c (zs_i2f X (pc := 101) (by decide +kernel)) <|
    zall_c (zs_fdiv X (pc := 102) (by decide +kernel)) <|
    zall_c (zs_fret X (pc := 103) rfl (by decide +kernel)) <|
    zall_n
theorem met_X9_accuracy {l : Launch} (hl : l.stackTraces = false) {T0 : ZTf} {T1 : ZTf} {T2 : ZTf} {T3 : ZTf} {T4 : ZTf} {T5 : ZTf} {T6 : ZTf} (h0 : zMet l yX9_isWorker (Cond.code yX9_isWorker cX9_isWorker 2 (Option.some Jvm.ClassFile.FieldType.boolean) :: zG) rm_X9_isWorker 0 0 T0) (h1 : zMet l yX9_passes (Cond.code yX9_passes cX9_passes 2 (Option.some Jvm.ClassFile.FieldType.boolean) :: zG) rm_X9_passes 0 0 T1) (h2 : zMet l yX9_rows (Cond.code yX9_rows cX9_rows 1 (Option.some Jvm.ClassFile.FieldType.int) :: zG) rm_X9_rows 0 0 T2) (h3 : zMet l yX9_resultOf (Cond.code yX9_resultOf cX9_resultOf 4 (Option.some Jvm.ClassFile.FieldType.int) :: zG) rm_X9_resultOf 0 0 T3) (h4 : zMet l yX9_isAudited (Cond.code yX9_isAudited cX9_isAudited 2 (Option.some Jvm.ClassFile.FieldType.boolean) :: zG) rm_X9_isAudited 0 0 T4) (h5 : zMet l yX9_ofRow (Cond.code yX9_ofRow cX9_ofRow 3 (Option.some Jvm.ClassFile.FieldType.int) :: zG) rm_X9_ofRow 0 0 T5) (h6 : zMet l yX9_doAgree (Cond.code yX9_doAgree cX9_doAgree 3 (Option.some Jvm.ClassFile.FieldType.boolean) :: zG) rm_X9_doAgree 0 0 T6) {T : ZTf} (bd : zBd (cd_X9_accuracy T0 T1 T2 T3 T4 T5 T6) 6 0 0 T) : zMet l yX9_accuracy (Cond.code yX9_accuracy cX9_accuracy 6 (Option.some Jvm.ClassFile.FieldType.float) :: zG) rm_X9_accuracy 0 0 T := zMet_of hl (by decide +kernel) rfl rfl rfl rfl (hs_X9_accuracy hl h0 h1 h2 h3 h4 h5 h6) bd

abbrev rm_X9_meanTrust : Room := { frames := 2, cells := 0, slots := 0, locals := 52 }
def cd_X9_meanTrust (T0 : ZTf) (T1 : ZTf) : List (Nat × ZTr) := [(0, tAld 0 1), (1, tC (zi 0) 2), (2, tPutI 12 0 (fun _ => True) 5), (5, tC (zi 0) 6), (6, tIst 1 7), (7, tC (zi 0) 8), (8, tIst 2 9), (9, tIld 2 10), (10, tAld 0 11), (11, tCall0 1 T0 (zRcv 12) 14), (14, tIc_ge 32 17), (17, tIld 1 18), (18, tAld 0 19), (19, tIld 2 20), (20, tC (zi 3) 21), (21, tCall0 3 T1 (zRcv 12) 24), (24, tAdd 25), (25, tIst 1 26), (26, tInc 2 1 29), (29, tGo 9), (32, tAld 0 33), (33, tCall0 1 T0 (zRcv 12) 36), (36, tIf_ne 43 39), (39, tC (zd FP.dconst0) 40), (40, tGo 51), (43, tIld 1 44), (44, tI2d 45), (45, tAld 0 46), (46, tCall0 1 T0 (zRcv 12) 49), (49, tI2d 50), (50, tDdiv 51), (51, tRd)]
set_option maxRecDepth 100000 in
set_option maxHeartbeats 4000000 in
theorem hs_X9_meanTrust {l : Launch} (hl : l.stackTraces = false) {T0 : ZTf} {T1 : ZTf} (h0 : zMet l yX9_workers (Cond.code yX9_workers cX9_workers 1 (Option.some Jvm.ClassFile.FieldType.int) :: zG) rm_X9_workers 0 0 T0) (h1 : zMet l yX9_ofWorker (Cond.code yX9_ofWorker cX9_ofWorker 3 (Option.some Jvm.ClassFile.FieldType.int) :: zG) rm_X9_ofWorker 0 0 T1) (p : Program) (e : Env) (s : State) (m : MethodId) (args : Array Value) (below : List Frame) (meth : Method) (c : Code) (D : va_G) (A : Nat → Prop) (a0 : Nat → Nat) (M0 : ZM) (K : ZRet) (KX : ZEx) (X : zCtx p l rm_X9_meanTrust s m args meth c cX9_meanTrust RX9 (Cond.code yX9_meanTrust cX9_meanTrust 3 (Option.some Jvm.ClassFile.FieldType.double) :: zG) 3 (Option.some Jvm.ClassFile.FieldType.double) D A a0 M0 0 0) (hnm : meth.name = yX9_meanTrust.name) (hout : ∀ x ∈ c.exceptionTable.toList, False) : ∀ q ∈ cd_X9_meanTrust T0 T1, zSd p l e rm_X9_meanTrust s m args below meth c 3 D A a0 M0 K KX 0 0 q.1 q.2 :=
    zall_c (zs_aload_n X (pc := 0) (q := 0) rfl (by decide +kernel)) <|
    zall_c (zs_iconst X (pc := 1) (by decide) (by decide +kernel)) <|
    zall_c (zs_puti X (pc := 2) (ty := Jvm.ClassFile.FieldType.int) zc_X9 (by decide) (zin ui_X9) tyX9_ok nmX9 (.tail _ gw_7_215) rfl (by decide +kernel) (by decide +kernel) (by decide +kernel) zP_int) <|
    zall_c (zs_iconst X (pc := 5) (by decide) (by decide +kernel)) <|
    zall_c (zs_istore_n X (pc := 6) (q := 1) rfl (by decide) (by decide +kernel)) <|
    zall_c (zs_iconst X (pc := 7) (by decide) (by decide +kernel)) <|
    zall_c (zs_istore_n X (pc := 8) (q := 2) rfl (by decide) (by decide +kernel)) <|
    zall_c (zs_iload_n X (pc := 9) (q := 2) rfl (by decide +kernel)) <|
    zall_c (zs_aload_n X (pc := 10) (q := 0) rfl (by decide +kernel)) <|
    zall_c (zs_callV0 X (pc := 11) zc_X9 (fun _ ht => ⟨(zCB ht gw_8_136 gw_1_13 gw_8_133 rfl rfl (by decide +kernel) ⟨Nat.le_of_ble_eq_true rfl, Nat.le_of_ble_eq_true rfl⟩), ht _ (.tail _ gw_8_135), ht _ (.tail _ gp_44)⟩) h0 hout (by decide +kernel)) <|
    zall_c (zs_icmp_ge X (pc := 14) (off := 18) (by decide +kernel) (by decide)) <|
    zall_c (zs_iload_n X (pc := 17) (q := 1) rfl (by decide +kernel)) <|
    zall_c (zs_aload_n X (pc := 18) (q := 0) rfl (by decide +kernel)) <|
    zall_c (zs_iload_n X (pc := 19) (q := 2) rfl (by decide +kernel)) <|
    zall_c (zs_iconst X (pc := 20) (by decide) (by decide +kernel)) <|
    zall_c (zs_callV0 X (pc := 21) zc_X9 (fun _ ht => ⟨(zCB ht gw_8_161 gw_1_13 gw_8_158 rfl rfl (by decide +kernel) ⟨Nat.le_of_ble_eq_true rfl, Nat.le_of_ble_eq_true rfl⟩), ht _ (.tail _ gw_8_160), ht _ (.tail _ gp_48)⟩) h1 hout (by decide +kernel)) <|
    zall_c (zs_iadd X (pc := 24) (by decide +kernel)) <|
    zall_c (zs_istore_n X (pc := 25) (q := 1) rfl (by decide) (by decide +kernel)) <|
    zall_c (zs_iinc X (pc := 26) (by decide) (by decide +kernel)) <|
    zall_c (zs_goto X (pc := 29) (off := (-20)) (by decide +kernel) (by decide)) <|
    zall_c (zs_aload_n X (pc := 32) (q := 0) rfl (by decide +kernel)) <|
    zall_c (zs_callV0 X (pc := 33) zc_X9 (fun _ ht => ⟨(zCB ht gw_8_136 gw_1_13 gw_8_133 rfl rfl (by decide +kernel) ⟨Nat.le_of_ble_eq_true rfl, Nat.le_of_ble_eq_true rfl⟩), ht _ (.tail _ gw_8_135), ht _ (.tail _ gp_44)⟩) h0 hout (by decide +kernel)) <|
    zall_c (zs_if_ne X (pc := 36) (off := 7) (by decide +kernel) (by decide)) <|
    zall_c (zs_dconst0 X (pc := 39) (by decide +kernel)) <|
    zall_c (zs_goto X (pc := 40) (off := 11) (by decide +kernel) (by decide)) <|
    zall_c (zs_iload_n X (pc := 43) (q := 1) rfl (by decide +kernel)) <|
    zall_c (zs_i2d X (pc := 44) (by decide +kernel)) <|
    zall_c (zs_aload_n X (pc := 45) (q := 0) rfl (by decide +kernel)) <|
    zall_c (zs_callV0 X (pc := 46) zc_X9 (fun _ ht => ⟨(zCB ht gw_8_136 gw_1_13 gw_8_133 rfl rfl (by decide +kernel) ⟨Nat.le_of_ble_eq_true rfl, Nat.le_of_ble_eq_true rfl⟩), ht _ (.tail _ gw_8_135), ht _ (.tail _ gp_44)⟩) h0 hout (by decide +kernel)) <|
    zall_c (zs_i2d X (pc := 49) (by decide +kernel)) <|
    zall_c (zs_ddiv X (pc := 50) (by decide +kernel)) <|
    zall_c (zs_dret X (pc := 51) rfl (by decide +kernel)) <|
    zall_n
theorem met_X9_meanTrust {l : Launch} (hl : l.stackTraces = false) {T0 : ZTf} {T1 : ZTf} (h0 : zMet l yX9_workers (Cond.code yX9_workers cX9_workers 1 (Option.some Jvm.ClassFile.FieldType.int) :: zG) rm_X9_workers 0 0 T0) (h1 : zMet l yX9_ofWorker (Cond.code yX9_ofWorker cX9_ofWorker 3 (Option.some Jvm.ClassFile.FieldType.int) :: zG) rm_X9_ofWorker 0 0 T1) {T : ZTf} (bd : zBd (cd_X9_meanTrust T0 T1) 3 0 0 T) : zMet l yX9_meanTrust (Cond.code yX9_meanTrust cX9_meanTrust 3 (Option.some Jvm.ClassFile.FieldType.double) :: zG) rm_X9_meanTrust 0 0 T := zMet_of hl (by decide +kernel) rfl rfl rfl rfl (hs_X9_meanTrust hl h0 h1) bd
