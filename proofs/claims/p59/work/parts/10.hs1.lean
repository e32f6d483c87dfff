abbrev rm_X1_addFourBytes : Room := { frames := 1, cells := 0, slots := 0, locals := 30 }
def cd_X1_addFourBytes : List (Nat × ZTr) := [(0, tAld 0 1), (1, tGetI 5 1 4), (4, tC (zi 4) 5), (5, tAdd 6), (6, tC (zi 500) 9), (9, tIc_le 13 12), (12, tRv), (13, tC (zi 24) 15), (15, tIst 2 16), (16, tIld 2 17), (17, tIf_lt 52 20), (20, tAld 0 21), (21, tGetR 5 0 24), (24, tAld 0 25), (25, tGetI 5 1 28), (28, tIld 1 29), (29, tIld 2 30), (30, tBif zushr 31), (31, tC (zi 255) 34), (34, tBif zand 35), (35, tIas 20 (fun _ => True) 36), (36, tAld 0 37), (37, tDup 38), (38, tGetI 5 1 41), (41, tC (zi 1) 42), (42, tAdd 43), (43, tPutI 5 1 (fun _ => True) 46), (46, tInc 2 (-8) 49), (49, tGo 16), (52, tRv)]
set_option maxRecDepth 100000 in
set_option maxHeartbeats 4000000 in
theorem hs_X1_addFourBytes {l : Launch} (hl : l.stackTraces = false) (p : Program) (e : Env) (s : State) (m : MethodId) (args : Array Value) (below : List Frame) (meth : Method) (c : Code) (D : va_G) (A : Nat → Prop) (a0 : Nat → Nat) (M0 : ZM) (K : ZRet) (KX : ZEx) (X : zCtx p l rm_X1_addFourBytes s m args meth c cX1_addFourBytes RX1 (Cond.code yX1_addFourBytes cX1_addFourBytes 3 (Option.none : Option Jvm.ClassFile.FieldType) :: zG) 3 (Option.none : Option Jvm.ClassFile.FieldType) D A a0 M0 0 0) (hnm : meth.name = yX1_addFourBytes.name) (hout : ∀ x ∈ c.exceptionTable.toList, False) : ∀ q ∈ cd_X1_addFourBytes, zSd p l e rm_X1_addFourBytes s m args below meth c 3 D A a0 M0 K KX 0 0 q.1 q.2 :=
    zall_c (zs_aload_n X (pc := 0) (q := 0) rfl (by decide +kernel)) <|
    zall_c (zs_geti X (pc := 1) zc_X1 (by decide) (zin ui_X1) (.tail _ gw_1_85) (by decide +kernel) (by decide +kernel)) <|
    zall_c (zs_iconst X (pc := 4) (by decide) (by decide +kernel)) <|
    zall_c (zs_iadd X (pc := 5) (by decide +kernel)) <|
    zall_c (zs_sipush X (pc := 6) (by decide) (by decide +kernel) (by decide +kernel)) <|
    zall_c (zs_icmp_le X (pc := 9) (off := 4) (by decide +kernel) (by decide)) <|
    zall_c (zs_vret X (pc := 12) rfl (by decide +kernel)) <|
    zall_c (zs_bipush X (pc := 13) (by decide) (by decide +kernel) (by decide +kernel)) <|
    zall_c (zs_istore_n X (pc := 15) (q := 2) rfl (by decide) (by decide +kernel)) <|
    zall_c (zs_iload_n X (pc := 16) (q := 2) rfl (by decide +kernel)) <|
    zall_c (zs_if_lt X (pc := 17) (off := 35) (by decide +kernel) (by decide)) <|
    zall_c (zs_aload_n X (pc := 20) (q := 0) rfl (by decide +kernel)) <|
    zall_c (zs_getr X (pc := 21) zc_X1 (by decide) (zin ui_X1) (.tail _ gw_1_83) (by decide +kernel) (by decide +kernel)) <|
    zall_c (zs_aload_n X (pc := 24) (q := 0) rfl (by decide +kernel)) <|
    zall_c (zs_geti X (pc := 25) zc_X1 (by decide) (zin ui_X1) (.tail _ gw_1_85) (by decide +kernel) (by decide +kernel)) <|
    zall_c (zs_iload_n X (pc := 28) (q := 1) rfl (by decide +kernel)) <|
    zall_c (zs_iload_n X (pc := 29) (q := 2) rfl (by decide +kernel)) <|
    zall_c (zs_iushr X (pc := 30) (by decide +kernel)) <|
    zall_c (zs_sipush X (pc := 31) (by decide) (by decide +kernel) (by decide +kernel)) <|
    zall_c (zs_iand X (pc := 34) (by decide +kernel)) <|
    zall_c (zs_iastore20 X (pc := 35) (by decide +kernel)) <|
    zall_c (zs_aload_n X (pc := 36) (q := 0) rfl (by decide +kernel)) <|
    zall_c (zs_dup X (pc := 37) (by decide +kernel)) <|
    zall_c (zs_geti X (pc := 38) zc_X1 (by decide) (zin ui_X1) (.tail _ gw_1_85) (by decide +kernel) (by decide +kernel)) <|
    zall_c (zs_iconst X (pc := 41) (by decide) (by decide +kernel)) <|
    zall_c (zs_iadd X (pc := 42) (by decide +kernel)) <|
    zall_c (zs_puti X (pc := 43) (ty := Jvm.ClassFile.FieldType.int) zc_X1 (by decide) (zin ui_X1) tyX1_ok nmX1 (.tail _ gw_1_85) rfl (by decide +kernel) (by decide +kernel) (by decide +kernel) zP_int) <|
    zall_c (zs_iinc X (pc := 46) (by decide) (by decide +kernel)) <|
    zall_c (zs_goto X (pc := 49) (off := (-33)) (by decide +kernel) (by decide)) <|
    zall_c (zs_vret X (pc := 52) rfl (by decide +kernel)) <|
    zall_n
theorem met_X1_addFourBytes {l : Launch} (hl : l.stackTraces = false) {T : ZTf} (bd : zBd (cd_X1_addFourBytes) 3 0 0 T) : zMet l yX1_addFourBytes (Cond.code yX1_addFourBytes cX1_addFourBytes 3 (Option.none : Option Jvm.ClassFile.FieldType) :: zG) rm_X1_addFourBytes 0 0 T := zMet_of hl (by decide +kernel) rfl rfl rfl rfl (hs_X1_addFourBytes hl) bd

abbrev rm_X3_fail : Room := { frames := 1, cells := 0, slots := 0, locals := 30 }
def cd_X3_fail : List (Nat × ZTr) := [(0, tAld 0 1), (1, tIld 1 2), (2, tPutI 6 0 (fun _ => True) 5), (5, tAld 0 6), (6, tAld 0 7), (7, tGetI 6 5 10), (10, tPutI 6 1 (fun _ => True) 13), (13, tC (zi 0) 14), (14, tRi zPz)]
set_option maxRecDepth 100000 in
set_option maxHeartbeats 4000000 in
theorem hs_X3_fail {l : Launch} (hl : l.stackTraces = false) (p : Program) (e : Env) (s : State) (m : MethodId) (args : Array Value) (below : List Frame) (meth : Method) (c : Code) (D : va_G) (A : Nat → Prop) (a0 : Nat → Nat) (M0 : ZM) (K : ZRet) (KX : ZEx) (X : zCtx p l rm_X3_fail s m args meth c cX3_fail RX3 (Cond.code yX3_fail cX3_fail 2 (Option.some Jvm.ClassFile.FieldType.boolean) :: zG) 2 (Option.some Jvm.ClassFile.FieldType.boolean) D A a0 M0 0 0) (hnm : meth.name = yX3_fail.name) (hout : ∀ x ∈ c.exceptionTable.toList, False) : ∀ q ∈ cd_X3_fail, zSd p l e rm_X3_fail s m args below meth c 2 D A a0 M0 K KX 0 0 q.1 q.2 :=
    zall_c (zs_aload_n X (pc := 0) (q := 0) rfl (by decide +kernel)) <|
    zall_c (zs_iload_n X (pc := 1) (q := 1) rfl (by decide +kernel)) <|
    zall_c (zs_puti X (pc := 2) (ty := Jvm.ClassFile.FieldType.int) zc_X3 (by decide) (zin ui_X3) tyX3_ok nmX3 (.tail _ gw_2_23) rfl (by decide +kernel) (by decide +kernel) (by decide +kernel) zP_int) <|
    zall_c (zs_aload_n X (pc := 5) (q := 0) rfl (by decide +kernel)) <|
    zall_c (zs_aload_n X (pc := 6) (q := 0) rfl (by decide +kernel)) <|
    zall_c (zs_geti X (pc := 7) zc_X3 (by decide) (zin ui_X3) (.tail _ gw_2_32) (by decide +kernel) (by decide +kernel)) <|
    zall_c (zs_puti X (pc := 10) (ty := Jvm.ClassFile.FieldType.int) zc_X3 (by decide) (zin ui_X3) tyX3_ok nmX3 (.tail _ gw_2_25) rfl (by decide +kernel) (by decide +kernel) (by decide +kernel) zP_int) <|
    zall_c (zs_iconst X (pc := 13) (by decide) (by decide +kernel)) <|
    zall_c (zs_zret X (pc := 14) rfl zR_bool (by decide +kernel)) <|
    zall_n
theorem met_X3_fail {l : Launch} (hl : l.stackTraces = false) {T : ZTf} (bd : zBd (cd_X3_fail) 2 0 0 T) : zMet l yX3_fail (Cond.code yX3_fail cX3_fail 2 (Option.some Jvm.ClassFile.FieldType.boolean) :: zG) rm_X3_fail 0 0 T := zMet_of hl (by decide +kernel) rfl rfl rfl rfl (hs_X3_fail hl) bd

abbrev rm_X3_readDigits : Room := { frames := 1, cells := 0, slots := 0, locals := 30 }
def cd_X3_readDigits : List (Nat × ZTr) := [(0, tAld 0 1), (1, tC (zi 0) 2), (2, tPutI 6 7 (fun _ => True) 5), (5, tAld 0 6), (6, tGetI 6 5 9), (9, tIst 1 10), (10, tIld 1 11), (11, tAld 0 12), (12, tGetI 6 6 15), (15, tIc_ge 58 18), (18, tAld 0 19), (19, tGetI 6 7 22), (22, tC (zi 1000) 25), (25, tIc_ge 58 28), (28, tAld 0 29), (29, tAld 0 30), (30, tGetI 6 7 33), (33, tC (zi 10) 35), (35, tMul 36), (36, tAld 0 37), (37, tGetR 6 2 40), (40, tGetR 5 0 43), (43, tIld 1 44), (44, tIal 20 45), (45, tAdd 46), (46, tC (zi 48) 48), (48, tSub 49), (49, tPutI 6 7 (fun _ => True) 52), (52, tInc 1 1 55), (55, tGo 10), (58, tRv)]
set_option maxRecDepth 100000 in
set_option maxHeartbeats 4000000 in
theorem hs_X3_readDigits {l : Launch} (hl : l.stackTraces = false) (p : Program) (e : Env) (s : State) (m : MethodId) (args : Array Value) (below : List Frame) (meth : Method) (c : Code) (D : va_G) (A : Nat → Prop) (a0 : Nat → Nat) (M0 : ZM) (K : ZRet) (KX : ZEx) (X : zCtx p l rm_X3_readDigits s m args meth c cX3_readDigits RX3 (Cond.code yX3_readDigits cX3_readDigits 2 (Option.none : Option Jvm.ClassFile.FieldType) :: zG) 2 (Option.none : Option Jvm.ClassFile.FieldType) D A a0 M0 0 0) (hnm : meth.name = yX3_readDigits.name) (hout : ∀ x ∈ c.exceptionTable.toList, False) : ∀ q ∈ cd_X3_readDigits, zSd p l e rm_X3_readDigits s m args below meth c 2 D A a0 M0 K KX 0 0 q.1 q.2 :=
    zall_c (zs_aload_n X (pc := 0) (q := 0) rfl (by decide +kernel)) <|
    zall_c (zs_iconst X (pc := 1) (by decide) (by decide +kernel)) <|
    zall_c (zs_puti X (pc := 2) (ty := Jvm.ClassFile.FieldType.int) zc_X3 (by decide) (zin ui_X3) tyX3_ok nmX3 (.tail _ gw_2_34) rfl (by decide +kernel) (by decide +kernel) (by decide +kernel) zP_int) <|
    zall_c (zs_aload_n X (pc := 5) (q := 0) rfl (by decide +kernel)) <|
    zall_c (zs_geti X (pc := 6) zc_X3 (by decide) (zin ui_X3) (.tail _ gw_2_32) (by decide +kernel) (by decide +kernel)) <|
    zall_c (zs_istore_n X (pc := 9) (q := 1) rfl (by decide) (by decide +kernel)) <|
    zall_c (zs_iload_n X (pc := 10) (q := 1) rfl (by decide +kernel)) <|
    zall_c (zs_aload_n X (pc := 11) (q := 0) rfl (by decide +kernel)) <|
    zall_c (zs_geti X (pc := 12) zc_X3 (by decide) (zin ui_X3) (.tail _ gw_2_33) (by decide +kernel) (by decide +kernel)) <|
    zall_c (zs_icmp_ge X (pc := 15) (off := 43) (by decide +kernel) (by decide)) <|
    zall_c (zs_aload_n X (pc := 18) (q := 0) rfl (by decide +kernel)) <|
    zall_c (zs_geti X (pc := 19) zc_X3 (by decide) (zin ui_X3) (.tail _ gw_2_34) (by decide +kernel) (by decide +kernel)) <|
    zall_c (zs_sipush X (pc := 22) (by decide) (by decide +kernel) (by decide +kernel)) <|
    zall_c (zs_icmp_ge X (pc := 25) (off := 33) (by decide +kernel) (by decide)) <|
    zall_c (zs_aload_n X (pc := 28) (q := 0) rfl (by decide +kernel)) <|
    zall_c (zs_aload_n X (pc := 29) (q := 0) rfl (by decide +kernel)) <|
    zall_c (zs_geti X (pc := 30) zc_X3 (by decide) (zin ui_X3) (.tail _ gw_2_34) (by decide +kernel) (by decide +kernel)) <|
    zall_c (zs_bipush X (pc := 33) (by decide) (by decide +kernel) (by decide +kernel)) <|
    zall_c (zs_imul X (pc := 35) (by decide +kernel)) <|
    zall_c (zs_aload_n X (pc := 36) (q := 0) rfl (by decide +kernel)) <|
    zall_c (zs_getr X (pc := 37) zc_X3 (by decide) (zin ui_X3) (.tail _ gw_2_27) (by decide +kernel) (by decide +kernel)) <|
    zall_c (zs_getr X (pc := 40) zc_X1 (by decide) (zin ui_X1) (.tail _ gw_1_84) (by decide +kernel) (by decide +kernel)) <|
    zall_c (zs_iload_n X (pc := 43) (q := 1) rfl (by decide +kernel)) <|
    zall_c (zs_iaload20 X (pc := 44) (by decide +kernel)) <|
    zall_c (zs_iadd X (pc := 45) (by decide +kernel)) <|
    zall_c (zs_bipush X (pc := 46) (by decide) (by decide +kernel) (by decide +kernel)) <|
    zall_c (zs_isub X (pc := 48) (by decide +kernel)) <|
    zall_c (zs_puti X (pc := 49) (ty := Jvm.ClassFile.FieldType.int) zc_X3 (by decide) (zin ui_X3) tyX3_ok nmX3 (.tail _ gw_2_34) rfl (by decide +kernel) (by decide +kernel) (by decide +kernel) zP_int) <|
    zall_c (zs_iinc X (pc := 52) (by decide) (by decide +kernel)) <|
    zall_c (zs_goto X (pc := 55) (off := (-45)) (by decide +kernel) (by decide)) <|
    zall_c (zs_vret X (pc := 58) rfl (by decide +kernel)) <|
    zall_n
theorem met_X3_readDigits {l : Launch} (hl : l.stackTraces = false) {T : ZTf} (bd : zBd (cd_X3_readDigits) 2 0 0 T) : zMet l yX3_readDigits (Cond.code yX3_readDigits cX3_readDigits 2 (Option.none : Option Jvm.ClassFile.FieldType) :: zG) rm_X3_readDigits 0 0 T := zMet_of hl (by decide +kernel) rfl rfl rfl rfl (hs_X3_readDigits hl) bd

abbrev rm_X3_kindAt : Room := { frames := 1, cells := 0, slots := 0, locals := 30 }
def cd_X3_kindAt : List (Nat × ZTr) := [(0, tIld 1 1), (1, tAld 0 2), (2, tGetR 6 2 5), (5, tGetI 5 1 8), (8, tIc_lt 13 11), (11, tC (zi 3) 12), (12, tRi (fun _ => True)), (13, tAld 0 14), (14, tGetR 6 2 17), (17, tGetR 5 0 20), (20, tIld 1 21), (21, tIal 20 22), (22, tIst 2 23), (23, tIld 2 24), (24, tC (zi 97) 26), (26, tIc_lt 37 29), (29, tIld 2 30), (30, tC (zi 122) 32), (32, tIc_gt 37 35), (35, tC (zi 0) 36), (36, tRi (fun _ => True)), (37, tIld 2 38), (38, tC (zi 48) 40), (40, tIc_lt 53 43), (43, tIld 2 44), (44, tC (zi 57) 46), (46, tIc_gt 53 49), (49, tC (zi 1) 50), (50, tGo 54), (53, tC (zi 2) 54), (54, tRi (fun _ => True))]
set_option maxRecDepth 100000 in
set_option maxHeartbeats 4000000 in
theorem hs_X3_kindAt {l : Launch} (hl : l.stackTraces = false) (p : Program) (e : Env) (s : State) (m : MethodId) (args : Array Value) (below : List Frame) (meth : Method) (c : Code) (D : va_G) (A : Nat → Prop) (a0 : Nat → Nat) (M0 : ZM) (K : ZRet) (KX : ZEx) (X : zCtx p l rm_X3_kindAt s m args meth c cX3_kindAt RX3 (Cond.code yX3_kindAt cX3_kindAt 3 (Option.some Jvm.ClassFile.FieldType.int) :: zG) 3 (Option.some Jvm.ClassFile.FieldType.int) D A a0 M0 0 0) (hnm : meth.name = yX3_kindAt.name) (hout : ∀ x ∈ c.exceptionTable.toList, False) : ∀ q ∈ cd_X3_kindAt, zSd p l e rm_X3_kindAt s m args below meth c 3 D A a0 M0 K KX 0 0 q.1 q.2 :=
    zall_c (zs_iload_n X (pc := 0) (q := 1) rfl (by decide +kernel)) <|
    zall_c (zs_aload_n X (pc := 1) (q := 0) rfl (by decide +kernel)) <|
    zall_c (zs_getr X (pc := 2) zc_X3 (by decide) (zin ui_X3) (.tail _ gw_2_27) (by decide +kernel) (by decide +kernel)) <|
    zall_c (zs_geti X (pc := 5) zc_X1 (by decide) (zin ui_X1) (.tail _ gw_1_87) (by decide +kernel) (by decide +kernel)) <|
    zall_c (zs_icmp_lt X (pc := 8) (off := 5) (by decide +kernel) (by decide)) <|
    zall_c (zs_iconst X (pc := 11) (by decide) (by decide +kernel)) <|
    zall_c (zs_iret X (pc := 12) rfl (by decide +kernel)) <|
    zall_c (zs_aload_n X (pc := 13) (q := 0) rfl (by decide +kernel)) <|
    zall_c (zs_getr X (pc := 14) zc_X3 (by decide) (zin ui_X3) (.tail _ gw_2_27) (by decide +kernel) (by decide +kernel)) <|
    zall_c (zs_getr X (pc := 17) zc_X1 (by decide) (zin ui_X1) (.tail _ gw_1_84) (by decide +kernel) (by decide +kernel)) <|
    zall_c (zs_iload_n X (pc := 20) (q := 1) rfl (by decide +kernel)) <|
    zall_c (zs_iaload20 X (pc := 21) (by decide +kernel)) <|
    zall_c (zs_istore_n X (pc := 22) (q := 2) rfl (by decide) (by decide +kernel)) <|
    zall_c (zs_iload_n X (pc := 23) (q := 2) rfl (by decide +kernel)) <|
    zall_c (zs_bipush X (pc := 24) (by decide) (by decide +kernel) (by decide +kernel)) <|
    zall_c (zs_icmp_lt X (pc := 26) (off := 11) (by decide +kernel) (by decide)) <|
    zall_c (zs_iload_n X (pc := 29) (q := 2) rfl (by decide +kernel)) <|
    zall_c (zs_bipush X (pc := 30) (by decide) (by decide +kernel) (by decide +kernel)) <|
    zall_c (zs_icmp_gt X (pc := 32) (off := 5) (by decide +kernel) (by decide)) <|
    zall_c (zs_iconst X (pc := 35) (by decide) (by decide +kernel)) <|
    zall_c (zs_iret X (pc := 36) rfl (by decide +kernel)) <|
    zall_c (zs_iload_n X (pc := 37) (q := 2) rfl (by decide +kernel)) <|
    zall_c (zs_bipush X (pc := 38) (by decide) (by decide +kernel) (by decide +kernel)) <|
    zall_c (zs_icmp_lt X (pc := 40) (off := 13) (by decide +kernel) (by decide)) <|
    zall_c (zs_iload_n X (pc := 43) (q := 2) rfl (by decide +kernel)) <|
    zall_c (zs_bipush X (pc := 44) (by decide) (by decide +kernel) (by decide +kernel)) <|
    zall_c (zs_icmp_gt X (pc := 46) (off := 7) (by decide +kernel) (by decide)) <|
    zall_c (zs_iconst X (pc := 49) (by decide) (by decide +kernel)) <|
    zall_c (zs_goto X (pc := 50) (off := 4) (by decide +kernel) (by decide)) <|
    zall_c (zs_iconst X (pc := 53) (by decide) (by decide +kernel)) <|
    zall_c (zs_iret X (pc := 54) rfl (by decide +kernel)) <|
    zall_n
theorem met_X3_kindAt {l : Launch} (hl : l.stackTraces = false) {T : ZTf} (bd : zBd (cd_X3_kindAt) 3 0 0 T) : zMet l yX3_kindAt (Cond.code yX3_kindAt cX3_kindAt 3 (Option.some Jvm.ClassFile.FieldType.int) :: zG) rm_X3_kindAt 0 0 T := zMet_of hl (by decide +kernel) rfl rfl rfl rfl (hs_X3_kindAt hl) bd

abbrev rm_X3_isBlank : Room := { frames := 1, cells := 0, slots := 0, locals := 30 }
def cd_X3_isBlank : List (Nat × ZTr) := [(0, tIld 0 1), (1, tC (zi 32) 3), (3, tIc_eq 12 6), (6, tIld 0 7), (7, tC (zi 10) 9), (9, tIc_ne 16 12), (12, tC (zi 1) 13), (13, tGo 17), (16, tC (zi 0) 17), (17, tRi zPz)]
set_option maxRecDepth 100000 in
set_option maxHeartbeats 4000000 in
theorem hs_X3_isBlank {l : Launch} (hl : l.stackTraces = false) (p : Program) (e : Env) (s : State) (m : MethodId) (args : Array Value) (below : List Frame) (meth : Method) (c : Code) (D : va_G) (A : Nat → Prop) (a0 : Nat → Nat) (M0 : ZM) (K : ZRet) (KX : ZEx) (X : zCtx p l rm_X3_isBlank s m args meth c cX3_isBlank RX3 (Cond.code yX3_isBlank cX3_isBlank 1 (Option.some Jvm.ClassFile.FieldType.boolean) :: zG) 1 (Option.some Jvm.ClassFile.FieldType.boolean) D A a0 M0 0 0) (hnm : meth.name = yX3_isBlank.name) (hout : ∀ x ∈ c.exceptionTable.toList, False) : ∀ q ∈ cd_X3_isBlank, zSd p l e rm_X3_isBlank s m args below meth c 1 D A a0 M0 K KX 0 0 q.1 q.2 :=
    zall_c (zs_iload_n X (pc := 0) (q := 0) rfl (by decide +kernel)) <|
    zall_c (zs_bipush X (pc := 1) (by decide) (by decide +kernel) (by decide +kernel)) <|
    zall_c (zs_icmp_eq X (pc := 3) (off := 9) (by decide +kernel) (by decide)) <|
    zall_c (zs_iload_n X (pc := 6) (q := 0) rfl (by decide +kernel)) <|
    zall_c (zs_bipush X (pc := 7) (by decide) (by decide +kernel) (by decide +kernel)) <|
    zall_c (zs_icmp_ne X (pc := 9) (off := 7) (by decide +kernel) (by decide)) <|
    zall_c (zs_iconst X (pc := 12) (by decide) (by decide +kernel)) <|
    zall_c (zs_goto X (pc := 13) (off := 4) (by decide +kernel) (by decide)) <|
    zall_c (zs_iconst X (pc := 16) (by decide) (by decide +kernel)) <|
    zall_c (zs_zret X (pc := 17) rfl zR_bool (by decide +kernel)) <|
    zall_n
theorem met_X3_isBlank {l : Launch} (hl : l.stackTraces = false) {T : ZTf} (bd : zBd (cd_X3_isBlank) 1 0 0 T) : zMet l yX3_isBlank (Cond.code yX3_isBlank cX3_isBlank 1 (Option.some Jvm.ClassFile.FieldType.boolean) :: zG) rm_X3_isBlank 0 0 T := zMet_of hl (by decide +kernel) rfl rfl rfl rfl (hs_X3_isBlank hl) bd

abbrev rm_X4_init : Room := { frames := 1, cells := 1, slots := 9, locals := 30 }
def cd_X4_init : List (Nat × ZTr) := [(0, tAld 0 1), (1, tObj 4), (4, tAld 0 5), (5, tC (zi (-1)) 6), (6, tPutI 7 2 (fun _ => True) 9), (9, tAld 0 10), (10, tC (zi (-1)) 11), (11, tPutI 7 4 (fun _ => True) 14), (14, tAld 0 15), (15, tC (zi (-1)) 16), (16, tPutI 7 6 (fun _ => True) 19), (19, tAld 0 20), (20, tC (zi (-1)) 21), (21, tPutI 7 7 (fun _ => True) 24), (24, tAld 0 25), (25, tC (zi 9) 27), (27, tNewA 20 29), (29, tPutR 7 9 32), (32, tRv)]
set_option maxRecDepth 100000 in
set_option maxHeartbeats 4000000 in
theorem hs_X4_init {l : Launch} (hl : l.stackTraces = false) (p : Program) (e : Env) (s : State) (m : MethodId) (args : Array Value) (below : List Frame) (meth : Method) (c : Code) (D : va_G) (A : Nat → Prop) (a0 : Nat → Nat) (M0 : ZM) (K : ZRet) (KX : ZEx) (X : zCtx p l rm_X4_init s m args meth c cX4_init RX4 (Cond.code yX4_init cX4_init 1 (Option.none : Option Jvm.ClassFile.FieldType) :: zG) 1 (Option.none : Option Jvm.ClassFile.FieldType) D A a0 M0 1 9) (hnm : meth.name = yX4_init.name) (hout : ∀ x ∈ c.exceptionTable.toList, False) : ∀ q ∈ cd_X4_init, zSd p l e rm_X4_init s m args below meth c 1 D A a0 M0 K KX 1 9 q.1 q.2 :=
    zall_c (zs_aload_n X (pc := 0) (q := 0) rfl (by decide +kernel)) <|
    zall_c (zs_objinit X (pc := 1) (.tail _ gw_1_167) (.tail _ gw_1_35) (.tail _ gw_1_36) (by decide) (by decide) (by decide +kernel)) <|
    zall_c (zs_aload_n X (pc := 4) (q := 0) rfl (by decide +kernel)) <|
    zall_c (zs_iconst X (pc := 5) (by decide) (by decide +kernel)) <|
    zall_c (zs_puti X (pc := 6) (ty := Jvm.ClassFile.FieldType.int) zc_X4 (by decide) (zin ui_X4) tyX4_ok nmX4 (.tail _ gw_1_175) rfl (by decide +kernel) (by decide +kernel) (by decide +kernel) zP_int) <|
    zall_c (zs_aload_n X (pc := 9) (q := 0) rfl (by decide +kernel)) <|
    zall_c (zs_iconst X (pc := 10) (by decide) (by decide +kernel)) <|
    zall_c (zs_puti X (pc := 11) (ty := Jvm.ClassFile.FieldType.int) zc_X4 (by decide) (zin ui_X4) tyX4_ok nmX4 (.tail _ gw_1_181) rfl (by decide +kernel) (by decide +kernel) (by decide +kernel) zP_int) <|
    zall_c (zs_aload_n X (pc := 14) (q := 0) rfl (by decide +kernel)) <|
    zall_c (zs_iconst X (pc := 15) (by decide) (by decide +kernel)) <|
    zall_c (zs_puti X (pc := 16) (ty := Jvm.ClassFile.FieldType.int) zc_X4 (by decide) (zin ui_X4) tyX4_ok nmX4 (.tail _ gw_1_186) rfl (by decide +kernel) (by decide +kernel) (by decide +kernel) zP_int) <|
    zall_c (zs_aload_n X (pc := 19) (q := 0) rfl (by decide +kernel)) <|
    zall_c (zs_iconst X (pc := 20) (by decide) (by decide +kernel)) <|
    zall_c (zs_puti X (pc := 21) (ty := Jvm.ClassFile.FieldType.int) zc_X4 (by decide) (zin ui_X4) tyX4_ok nmX4 (.tail _ gw_1_189) rfl (by decide +kernel) (by decide +kernel) (by decide +kernel) zP_int) <|
    zall_c (zs_aload_n X (pc := 24) (q := 0) rfl (by decide +kernel)) <|
    zall_c (zs_bipush X (pc := 25) (by decide) (by decide +kernel) (by decide +kernel)) <|
    zall_c (zs_newarray20 X (pc := 27) (.tail _ gw_1_81) (by decide +kernel)) <|
    zall_c (zs_putrF X (pc := 29) (ty := (Jvm.ClassFile.FieldType.array Jvm.ClassFile.FieldType.int)) zc_X4 (by decide) (zin ui_X4) tyX4_ok nmX4 (.tail _ gw_1_196) rfl hnm rfl (by decide +kernel) (by decide +kernel) (by decide +kernel) zP_arr) <|
    zall_c (zs_vret X (pc := 32) rfl (by decide +kernel)) <|
    zall_n
theorem met_X4_init {l : Launch} (hl : l.stackTraces = false) {T : ZTf} (bd : zBd (cd_X4_init) 1 1 9 T) : zMet l yX4_init (Cond.code yX4_init cX4_init 1 (Option.none : Option Jvm.ClassFile.FieldType) :: zG) rm_X4_init 1 9 T := zMet_of hl (by decide +kernel) rfl rfl rfl rfl (hs_X4_init hl) bd

abbrev rm_X4_begin : Room := { frames := 1, cells := 0, slots := 0, locals := 30 }
def cd_X4_begin : List (Nat × ZTr) := [(0, tAld 0 1), (1, tIld 1 2), (2, tPutI 7 0 (fun _ => True) 5), (5, tAld 0 6), (6, tC (zi 0) 7), (7, tPutI 7 1 (fun _ => True) 10), (10, tAld 0 11), (11, tC (zi (-1)) 12), (12, tPutI 7 2 (fun _ => True) 15), (15, tAld 0 16), (16, tC (zi 0) 17), (17, tPutI 7 3 zPz 20), (20, tAld 0 21), (21, tC (zi (-1)) 22), (22, tPutI 7 4 (fun _ => True) 25), (25, tAld 0 26), (26, tC (zi 0) 27), (27, tPutI 7 5 (fun _ => True) 30), (30, tAld 0 31), (31, tC (zi (-1)) 32), (32, tPutI 7 6 (fun _ => True) 35), (35, tAld 0 36), (36, tC (zi (-1)) 37), (37, tPutI 7 7 (fun _ => True) 40), (40, tAld 0 41), (41, tC (zi 0) 42), (42, tPutI 7 8 (fun _ => True) 45), (45, tRv)]
set_option maxRecDepth 100000 in
set_option maxHeartbeats 4000000 in
theorem hs_X4_begin {l : Launch} (hl : l.stackTraces = false) (p : Program) (e : Env) (s : State) (m : MethodId) (args : Array Value) (below : List Frame) (meth : Method) (c : Code) (D : va_G) (A : Nat → Prop) (a0 : Nat → Nat) (M0 : ZM) (K : ZRet) (KX : ZEx) (X : zCtx p l rm_X4_begin s m args meth c cX4_begin RX4 (Cond.code yX4_begin cX4_begin 2 (Option.none : Option Jvm.ClassFile.FieldType) :: zG) 2 (Option.none : Option Jvm.ClassFile.FieldType) D A a0 M0 0 0) (hnm : meth.name = yX4_begin.name) (hout : ∀ x ∈ c.exceptionTable.toList, False) : ∀ q ∈ cd_X4_begin, zSd p l e rm_X4_begin s m args below meth c 2 D A a0 M0 K KX 0 0 q.1 q.2 :=
    zall_c (zs_aload_n X (pc := 0) (q := 0) rfl (by decide +kernel)) <|
    zall_c (zs_iload_n X (pc := 1) (q := 1) rfl (by decide +kernel)) <|
    zall_c (zs_puti X (pc := 2) (ty := Jvm.ClassFile.FieldType.int) zc_X4 (by decide) (zin ui_X4) tyX4_ok nmX4 (.tail _ gw_1_168) rfl (by decide +kernel) (by decide +kernel) (by decide +kernel) zP_int) <|
    zall_c (zs_aload_n X (pc := 5) (q := 0) rfl (by decide +kernel)) <|
    zall_c (zs_iconst X (pc := 6) (by decide) (by decide +kernel)) <|
    zall_c (zs_puti X (pc := 7) (ty := Jvm.ClassFile.FieldType.int) zc_X4 (by decide) (zin ui_X4) tyX4_ok nmX4 (.tail _ gw_1_172) rfl (by decide +kernel) (by decide +kernel) (by decide +kernel) zP_int) <|
    zall_c (zs_aload_n X (pc := 10) (q := 0) rfl (by decide +kernel)) <|
    zall_c (zs_iconst X (pc := 11) (by decide) (by decide +kernel)) <|
    zall_c (zs_puti X (pc := 12) (ty := Jvm.ClassFile.FieldType.int) zc_X4 (by decide) (zin ui_X4) tyX4_ok nmX4 (.tail _ gw_1_175) rfl (by decide +kernel) (by decide +kernel) (by decide +kernel) zP_int) <|
    zall_c (zs_aload_n X (pc := 15) (q := 0) rfl (by decide +kernel)) <|
    zall_c (zs_iconst X (pc := 16) (by decide) (by decide +kernel)) <|
    zall_c (zs_puti X (pc := 17) (ty := Jvm.ClassFile.FieldType.boolean) zc_X4 (by decide) (zin ui_X4) tyX4_ok nmX4 (.tail _ gw_1_178) rfl (by decide +kernel) (by decide +kernel) (by decide +kernel) zP_bool) <|
    zall_c (zs_aload_n X (pc := 20) (q := 0) rfl (by decide +kernel)) <|
    zall_c (zs_iconst X (pc := 21) (by decide) (by decide +kernel)) <|
    zall_c (zs_puti X (pc := 22) (ty := Jvm.ClassFile.FieldType.int) zc_X4 (by decide) (zin ui_X4) tyX4_ok nmX4 (.tail _ gw_1_181) rfl (by decide +kernel) (by decide +kernel) (by decide +kernel) zP_int) <|
    zall_c (zs_aload_n X (pc := 25) (q := 0) rfl (by decide +kernel)) <|
    zall_c (zs_iconst X (pc := 26) (by decide) (by decide +kernel)) <|
    zall_c (zs_puti X (pc := 27) (ty := Jvm.ClassFile.FieldType.int) zc_X4 (by decide) (zin ui_X4) tyX4_ok nmX4 (.tail _ gw_1_183) rfl (by decide +kernel) (by decide +kernel) (by decide +kernel) zP_int) <|
    zall_c (zs_aload_n X (pc := 30) (q := 0) rfl (by decide +kernel)) <|
    zall_c (zs_iconst X (pc := 31) (by decide) (by decide +kernel)) <|
    zall_c (zs_puti X (pc := 32) (ty := Jvm.ClassFile.FieldType.int) zc_X4 (by decide) (zin ui_X4) tyX4_ok nmX4 (.tail _ gw_1_186) rfl (by decide +kernel) (by decide +kernel) (by decide +kernel) zP_int) <|
    zall_c (zs_aload_n X (pc := 35) (q := 0) rfl (by decide +kernel)) <|
    zall_c (zs_iconst X (pc := 36) (by decide) (by decide +kernel)) <|
    zall_c (zs_puti X (pc := 37) (ty := Jvm.ClassFile.FieldType.int) zc_X4 (by decide) (zin ui_X4) tyX4_ok nmX4 (.tail _ gw_1_189) rfl (by decide +kernel) (by decide +kernel) (by decide +kernel) zP_int) <|
    zall_c (zs_aload_n X (pc := 40) (q := 0) rfl (by decide +kernel)) <|
    zall_c (zs_iconst X (pc := 41) (by decide) (by decide +kernel)) <|
    zall_c (zs_puti X (pc := 42) (ty := Jvm.ClassFile.FieldType.int) zc_X4 (by decide) (zin ui_X4) tyX4_ok nmX4 (.tail _ gw_1_193) rfl (by decide +kernel) (by decide +kernel) (by decide +kernel) zP_int) <|
    zall_c (zs_vret X (pc := 45) rfl (by decide +kernel)) <|
    zall_n
theorem met_X4_begin {l : Launch} (hl : l.stackTraces = false) {T : ZTf} (bd : zBd (cd_X4_begin) 2 0 0 T) : zMet l yX4_begin (Cond.code yX4_begin cX4_begin 2 (Option.none : Option Jvm.ClassFile.FieldType) :: zG) rm_X4_begin 0 0 T := zMet_of hl (by decide +kernel) rfl rfl rfl rfl (hs_X4_begin hl) bd

abbrev rm_X4_copyFrom : Room := { frames := 1, cells := 0, slots := 0, locals := 60 }
def cd_X4_copyFrom : List (Nat × ZTr) := [(0, tAld 0 1), (1, tAld 1 2), (2, tGetI 7 0 5), (5, tPutI 7 0 (fun _ => True) 8), (8, tAld 0 9), (9, tAld 1 10), (10, tGetI 7 1 13), (13, tPutI 7 1 (fun _ => True) 16), (16, tAld 0 17), (17, tAld 1 18), (18, tGetI 7 2 21), (21, tPutI 7 2 (fun _ => True) 24), (24, tAld 0 25), (25, tAld 1 26), (26, tGetI 7 3 29), (29, tPutI 7 3 zPz 32), (32, tAld 0 33), (33, tAld 1 34), (34, tGetI 7 4 37), (37, tPutI 7 4 (fun _ => True) 40), (40, tAld 0 41), (41, tAld 1 42), (42, tGetI 7 5 45), (45, tPutI 7 5 (fun _ => True) 48), (48, tAld 0 49), (49, tAld 1 50), (50, tGetI 7 6 53), (53, tPutI 7 6 (fun _ => True) 56), (56, tAld 0 57), (57, tAld 1 58), (58, tGetI 7 7 61), (61, tPutI 7 7 (fun _ => True) 64), (64, tAld 0 65), (65, tAld 1 66), (66, tGetI 7 8 69), (69, tPutI 7 8 (fun _ => True) 72), (72, tAld 1 73), (73, tGetR 7 9 76), (76, tC (zi 0) 77), (77, tAld 0 78), (78, tGetR 7 9 81), (81, tC (zi 0) 82), (82, tAld 0 83), (83, tGetR 7 9 86), (86, tLen 87), (87, tCpy 20 (fun _ => True) 90), (90, tRv)]
set_option maxRecDepth 100000 in
set_option maxHeartbeats 4000000 in
theorem hs_X4_copyFrom {l : Launch} (hl : l.stackTraces = false) (p : Program) (e : Env) (s : State) (m : MethodId) (args : Array Value) (below : List Frame) (meth : Method) (c : Code) (D : va_G) (A : Nat → Prop) (a0 : Nat → Nat) (M0 : ZM) (K : ZRet) (KX : ZEx) (X : zCtx p l rm_X4_copyFrom s m args meth c cX4_copyFrom RX4 (Cond.code yX4_copyFrom cX4_copyFrom 2 (Option.none : Option Jvm.ClassFile.FieldType) :: zG) 2 (Option.none : Option Jvm.ClassFile.FieldType) D A a0 M0 0 0) (hnm : meth.name = yX4_copyFrom.name) (hout : ∀ x ∈ c.exceptionTable.toList, False) : ∀ q ∈ cd_X4_copyFrom, zSd p l e rm_X4_copyFrom s m args below meth c 2 D A a0 M0 K KX 0 0 q.1 q.2 :=
    zall_c (zs_aload_n X (pc := 0) (q := 0) rfl (by decide +kernel)) <|
    zall_c (zs_aload_n X (pc := 1) (q := 1) rfl (by decide +kernel)) <|
    zall_c (zs_geti X (pc := 2) zc_X4 (by decide) (zin ui_X4) (.tail _ gw_1_168) (by decide +kernel) (by decide +kernel)) <|
    zall_c (zs_puti X (pc := 5) (ty := Jvm.ClassFile.FieldType.int) zc_X4 (by decide) (zin ui_X4) tyX4_ok nmX4 (.tail _ gw_1_168) rfl (by decide +kernel) (by decide +kernel) (by decide +kernel) zP_int) <|
    zall_c (zs_aload_n X (pc := 8) (q := 0) rfl (by decide +kernel)) <|
    zall_c (zs_aload_n X (pc := 9) (q := 1) rfl (by decide +kernel)) <|
    zall_c (zs_geti X (pc := 10) zc_X4 (by decide) (zin ui_X4) (.tail _ gw_1_172) (by decide +kernel) (by decide +kernel)) <|
    zall_c (zs_puti X (pc := 13) (ty := Jvm.ClassFile.FieldType.int) zc_X4 (by decide) (zin ui_X4) tyX4_ok nmX4 (.tail _ gw_1_172) rfl (by decide +kernel) (by decide +kernel) (by decide +kernel) zP_int) <|
    zall_c (zs_aload_n X (pc := 16) (q := 0) rfl (by decide +kernel)) <|
    zall_c (zs_aload_n X (pc := 17) (q := 1) rfl (by decide +kernel)) <|
    zall_c (zs_geti X (pc := 18) zc_X4 (by decide) (zin ui_X4) (.tail _ gw_1_175) (by decide +kernel) (by decide +kernel)) <|
    zall_c (zs_puti X (pc := 21) (ty := Jvm.ClassFile.FieldType.int) zc_X4 (by decide) (zin ui_X4) tyX4_ok nmX4 (.tail _ gw_1_175) rfl (by decide +kernel) (by decide +kernel) (by decide +kernel) zP_int) <|
    zall_c (zs_aload_n X (pc := 24) (q := 0) rfl (by decide +kernel)) <|
    zall_c (zs_aload_n X (pc := 25) (q := 1) rfl (by decide +kernel)) <|
    zall_c (zs_geti X (pc := 26) zc_X4 (by decide) (zin ui_X4) (.tail _ gw_1_178) (by decide +kernel) (by decide +kernel)) <|
    zall_c (zs_puti X (pc := 29) (ty := Jvm.ClassFile.FieldType.boolean) zc_X4 (by decide) (zin ui_X4) tyX4_ok nmX4 (.tail _ gw_1_178) rfl (by decide +kernel) (by decide +kernel) (by decide +kernel) zP_bool) <|
    zall_c (zs_aload_n X (pc := 32) (q := 0) rfl (by decide +kernel)) <|
    zall_c (zs_aload_n X (pc := 33) (q := 1) rfl (by decide +kernel)) <|
    zall_c (zs_geti X (pc := 34) zc_X4 (by decide) (zin ui_X4) (.tail _ gw_1_181) (by decide +kernel) (by decide +kernel)) <|
    zall_c (zs_puti X (pc := 37) (ty := Jvm.ClassFile.FieldType.int) zc_X4 (by decide) (zin ui_X4) tyX4_ok nmX4 (.tail _ gw_1_181) rfl (by decide +kernel) (by decide +kernel) (by decide +kernel) zP_int) <|
    zall_c (zs_aload_n X (pc := 40) (q := 0) rfl (by decide +kernel)) <|
    zall_c (zs_aload_n X (pc := 41) (q := 1) rfl (by decide +kernel)) <|
    zall_c (zs_geti X (pc := 42) zc_X4 (by decide) (zin ui_X4) (.tail _ gw_1_183) (by decide +kernel) (by decide +kernel)) <|
    zall_c (zs_puti X (pc := 45) (ty := Jvm.ClassFile.FieldType.int) zc_X4 (by decide) (zin ui_X4) tyX4_ok nmX4 (.tail _ gw_1_183) rfl (by decide +kernel) (by decide +kernel) (by decide +kernel) zP_int) <|
    zall_c (zs_aload_n X (pc := 48) (q := 0) rfl (by decide +kernel)) <|
    zall_c (zs_aload_n X (pc := 49) (q := 1) rfl (by decide +kernel)) <|
    zall_c (zs_geti X (pc := 50) zc_X4 (by decide) (zin ui_X4) (.tail _ gw_1_186) (by decide +kernel) (by decide +kernel)) <|
    zall_c (zs_puti X (pc := 53) (ty := Jvm.ClassFile.FieldType.int) zc_X4 (by decide) (zin ui_X4) tyX4_ok nmX4 (.tail _ gw_1_186) rfl (by decide +kernel) (by decide +kernel) (by decide +kernel) zP_int) <|
    zall_c (zs_aload_n X (pc := 56) (q := 0) rfl (by decide +kernel)) <|
    zall_c (zs_aload_n X (pc := 57) (q := 1) rfl (by decide +kernel)) <|
    zall_c (zs_geti X (pc := 58) zc_X4 (by decide) (zin ui_X4) (.tail _ gw_1_189) (by decide +kernel) (by decide +kernel)) <|
    zall_c (zs_puti X (pc := 61) (ty := Jvm.ClassFile.FieldType.int) zc_X4 (by decide) (zin ui_X4) tyX4_ok nmX4 (.tail _ gw_1_189) rfl (by decide +kernel) (by decide +kernel) (by decide +kernel) zP_int) <|
    zall_c (zs_aload_n X (pc := 64) (q := 0) rfl (by decide +kernel)) <|
    zall_c (zs_aload_n X (pc := 65) (q := 1) rfl (by decide +kernel)) <|
    zall_c (zs_geti X (pc := 66) zc_X4 (by decide) (zin ui_X4) (.tail _ gw_1_193) (by decide +kernel) (by decide +kernel)) <|
    zall_c (zs_puti X (pc := 69) (ty := Jvm.ClassFile.FieldType.int) zc_X4 (by decide) (zin ui_X4) tyX4_ok nmX4 (.tail _ gw_1_193) rfl (by decide +kernel) (by decide +kernel) (by decide +kernel) zP_int) <|
    zall_c (zs_aload_n X (pc := 72) (q := 1) rfl (by decide +kernel)) <|
    zall_c (zs_getr X (pc := 73) zc_X4 (by decide) (zin ui_X4) (.tail _ gw_1_196) (by decide +kernel) (by decide +kernel)) <|
    zall_c (zs_iconst X (pc := 76) (by decide) (by decide +kernel)) <|
    zall_c (zs_aload_n X (pc := 77) (q := 0) rfl (by decide +kernel)) <|
    zall_c (zs_getr X (pc := 78) zc_X4 (by decide) (zin ui_X4) (.tail _ gw_1_196) (by decide +kernel) (by decide +kernel)) <|
    zall_c (zs_iconst X (pc := 81) (by decide) (by decide +kernel)) <|
    zall_c (zs_aload_n X (pc := 82) (q := 0) rfl (by decide +kernel)) <|
    zall_c (zs_getr X (pc := 83) zc_X4 (by decide) (zin ui_X4) (.tail _ gw_1_196) (by decide +kernel) (by decide +kernel)) <|
    zall_c (zs_len X (pc := 86) (by decide +kernel)) <|
    zall_c (zs_copy20 X (pc := 87) (.tail _ gw_5_10) (.tail _ gw_3_63) (.tail _ gw_3_62) (.tail _ gw_1_16) (Nat.le_of_ble_eq_true rfl) (by show 8 + (nativeFrameWords "java/lang/System" "arraycopy" 5 + 11) ≤ 60; decide +kernel) (by decide +kernel)) <|
    zall_c (zs_vret X (pc := 90) rfl (by decide +kernel)) <|
    zall_n
theorem met_X4_copyFrom {l : Launch} (hl : l.stackTraces = false) {T : ZTf} (bd : zBd (cd_X4_copyFrom) 2 0 0 T) : zMet l yX4_copyFrom (Cond.code yX4_copyFrom cX4_copyFrom 2 (Option.none : Option Jvm.ClassFile.FieldType) :: zG) rm_X4_copyFrom 0 0 T := zMet_of hl (by decide +kernel) rfl rfl rfl rfl (hs_X4_copyFrom hl) bd

abbrev rm_X4_isClosed : Room := { frames := 1, cells := 0, slots := 0, locals := 30 }
def cd_X4_isClosed : List (Nat × ZTr) := [(0, tAld 0 1), (1, tGetI 7 1 4), (4, tC (zi 2) 5), (5, tIc_eq 16 8), (8, tAld 0 9), (9, tGetI 7 1 12), (12, tC (zi 3) 13), (13, tIc_ne 20 16), (16, tC (zi 1) 17), (17, tGo 21), (20, tC (zi 0) 21), (21, tRi zPz)]
set_option maxRecDepth 100000 in
set_option maxHeartbeats 4000000 in
theorem hs_X4_isClosed {l : Launch} (hl : l.stackTraces = false) (p : Program) (e : Env) (s : State) (m : MethodId) (args : Array Value) (below : List Frame) (meth : Method) (c : Code) (D : va_G) (A : Nat → Prop) (a0 : Nat → Nat) (M0 : ZM) (K : ZRet) (KX : ZEx) (X : zCtx p l rm_X4_isClosed s m args meth c cX4_isClosed RX4 (Cond.code yX4_isClosed cX4_isClosed 1 (Option.some Jvm.ClassFile.FieldType.boolean) :: zG) 1 (Option.some Jvm.ClassFile.FieldType.boolean) D A a0 M0 0 0) (hnm : meth.name = yX4_isClosed.name) (hout : ∀ x ∈ c.exceptionTable.toList, False) : ∀ q ∈ cd_X4_isClosed, zSd p l e rm_X4_isClosed s m args below meth c 1 D A a0 M0 K KX 0 0 q.1 q.2 :=
    zall_c (zs_aload_n X (pc := 0) (q := 0) rfl (by decide +kernel)) <|
    zall_c (zs_geti X (pc := 1) zc_X4 (by decide) (zin ui_X4) (.tail _ gw_1_172) (by decide +kernel) (by decide +kernel)) <|
    zall_c (zs_iconst X (pc := 4) (by decide) (by decide +kernel)) <|
    zall_c (zs_icmp_eq X (pc := 5) (off := 11) (by decide +kernel) (by decide)) <|
    zall_c (zs_aload_n X (pc := 8) (q := 0) rfl (by decide +kernel)) <|
    zall_c (zs_geti X (pc := 9) zc_X4 (by decide) (zin ui_X4) (.tail _ gw_1_172) (by decide +kernel) (by decide +kernel)) <|
    zall_c (zs_iconst X (pc := 12) (by decide) (by decide +kernel)) <|
    zall_c (zs_icmp_ne X (pc := 13) (off := 7) (by decide +kernel) (by decide)) <|
    zall_c (zs_iconst X (pc := 16) (by decide) (by decide +kernel)) <|
    zall_c (zs_goto X (pc := 17) (off := 4) (by decide +kernel) (by decide)) <|
    zall_c (zs_iconst X (pc := 20) (by decide) (by decide +kernel)) <|
    zall_c (zs_zret X (pc := 21) rfl zR_bool (by decide +kernel)) <|
    zall_n
theorem met_X4_isClosed {l : Launch} (hl : l.stackTraces = false) {T : ZTf} (bd : zBd (cd_X4_isClosed) 1 0 0 T) : zMet l yX4_isClosed (Cond.code yX4_isClosed cX4_isClosed 1 (Option.some Jvm.ClassFile.FieldType.boolean) :: zG) rm_X4_isClosed 0 0 T := zMet_of hl (by decide +kernel) rfl rfl rfl rfl (hs_X4_isClosed hl) bd

abbrev rm_X4_workerAt : Room := { frames := 1, cells := 0, slots := 0, locals := 30 }
def cd_X4_workerAt : List (Nat × ZTr) := [(0, tAld 0 1), (1, tGetR 7 9 4), (4, tIld 1 5), (5, tC (zi 3) 6), (6, tMul 7), (7, tC (zi 0) 8), (8, tAdd 9), (9, tIal 20 10), (10, tRi (fun _ => True))]
set_option maxRecDepth 100000 in
set_option maxHeartbeats 4000000 in
theorem hs_X4_workerAt {l : Launch} (hl : l.stackTraces = false) (p : Program) (e : Env) (s : State) (m : MethodId) (args : Array Value) (below : List Frame) (meth : Method) (c : Code) (D : va_G) (A : Nat → Prop) (a0 : Nat → Nat) (M0 : ZM) (K : ZRet) (KX : ZEx) (X : zCtx p l rm_X4_workerAt s m args meth c cX4_workerAt RX4 (Cond.code yX4_workerAt cX4_workerAt 2 (Option.some Jvm.ClassFile.FieldType.int) :: zG) 2 (Option.some Jvm.ClassFile.FieldType.int) D A a0 M0 0 0) (hnm : meth.name = yX4_workerAt.name) (hout : ∀ x ∈ c.exceptionTable.toList, False) : ∀ q ∈ cd_X4_workerAt, zSd p l e rm_X4_workerAt s m args below meth c 2 D A a0 M0 K KX 0 0 q.1 q.2 :=
    zall_c (zs_aload_n X (pc := 0) (q := 0) rfl (by decide +kernel)) <|
    zall_c (zs_getr X (pc := 1) zc_X4 (by decide) (zin ui_X4) (.tail _ gw_1_196) (by decide +kernel) (by decide +kernel)) <|
    zall_c (zs_iload_n X (pc := 4) (q := 1) rfl (by decide +kernel)) <|
    zall_c (zs_iconst X (pc := 5) (by decide) (by decide +kernel)) <|
    zall_c (zs_imul X (pc := 6) (by decide +kernel)) <|
    zall_c (zs_iconst X (pc := 7) (by decide) (by decide +kernel)) <|
    zall_c (zs_iadd X (pc := 8) (by decide +kernel)) <|
    zall_c (zs_iaload20 X (pc := 9) (by decide +kernel)) <|
    zall_c (zs_iret X (pc := 10) rfl (by decide +kernel)) <|
    zall_n
theorem met_X4_workerAt {l : Launch} (hl : l.stackTraces = false) {T : ZTf} (bd : zBd (cd_X4_workerAt) 2 0 0 T) : zMet l yX4_workerAt (Cond.code yX4_workerAt cX4_workerAt 2 (Option.some Jvm.ClassFile.FieldType.int) :: zG) rm_X4_workerAt 0 0 T := zMet_of hl (by decide +kernel) rfl rfl rfl rfl (hs_X4_workerAt hl) bd

abbrev rm_X4_resultAt : Room := { frames := 1, cells := 0, slots := 0, locals := 30 }
def cd_X4_resultAt : List (Nat × ZTr) := [(0, tAld 0 1), (1, tGetR 7 9 4), (4, tIld 1 5), (5, tC (zi 3) 6), (6, tMul 7), (7, tC (zi 1) 8), (8, tAdd 9), (9, tIal 20 10), (10, tRi (fun _ => True))]
set_option maxRecDepth 100000 in
set_option maxHeartbeats 4000000 in
theorem hs_X4_resultAt {l : Launch} (hl : l.stackTraces = false) (p : Program) (e : Env) (s : State) (m : MethodId) (args : Array Value) (below : List Frame) (meth : Method) (c : Code) (D : va_G) (A : Nat → Prop) (a0 : Nat → Nat) (M0 : ZM) (K : ZRet) (KX : ZEx) (X : zCtx p l rm_X4_resultAt s m args meth c cX4_resultAt RX4 (Cond.code yX4_resultAt cX4_resultAt 2 (Option.some Jvm.ClassFile.FieldType.int) :: zG) 2 (Option.some Jvm.ClassFile.FieldType.int) D A a0 M0 0 0) (hnm : meth.name = yX4_resultAt.name) (hout : ∀ x ∈ c.exceptionTable.toList, False) : ∀ q ∈ cd_X4_resultAt, zSd p l e rm_X4_resultAt s m args below meth c 2 D A a0 M0 K KX 0 0 q.1 q.2 :=
    zall_c (zs_aload_n X (pc := 0) (q := 0) rfl (by decide +kernel)) <|
    zall_c (zs_getr X (pc := 1) zc_X4 (by decide) (zin ui_X4) (.tail _ gw_1_196) (by decide +kernel) (by decide +kernel)) <|
    zall_c (zs_iload_n X (pc := 4) (q := 1) rfl (by decide +kernel)) <|
    zall_c (zs_iconst X (pc := 5) (by decide) (by decide +kernel)) <|
    zall_c (zs_imul X (pc := 6) (by decide +kernel)) <|
    zall_c (zs_iconst X (pc := 7) (by decide) (by decide +kernel)) <|
    zall_c (zs_iadd X (pc := 8) (by decide +kernel)) <|
    zall_c (zs_iaload20 X (pc := 9) (by decide +kernel)) <|
    zall_c (zs_iret X (pc := 10) rfl (by decide +kernel)) <|
    zall_n
theorem met_X4_resultAt {l : Launch} (hl : l.stackTraces = false) {T : ZTf} (bd : zBd (cd_X4_resultAt) 2 0 0 T) : zMet l yX4_resultAt (Cond.code yX4_resultAt cX4_resultAt 2 (Option.some Jvm.ClassFile.FieldType.int) :: zG) rm_X4_resultAt 0 0 T := zMet_of hl (by decide +kernel) rfl rfl rfl rfl (hs_X4_resultAt hl) bd

abbrev rm_X4_dueAt : Room := { frames := 1, cells := 0, slots := 0, locals := 30 }
def cd_X4_dueAt : List (Nat × ZTr) := [(0, tAld 0 1), (1, tGetR 7 9 4), (4, tIld 1 5), (5, tC (zi 3) 6), (6, tMul 7), (7, tC (zi 2) 8), (8, tAdd 9), (9, tIal 20 10), (10, tRi (fun _ => True))]
set_option maxRecDepth 100000 in
set_option maxHeartbeats 4000000 in
theorem hs_X4_dueAt {l : Launch} (hl : l.stackTraces = false) (p : Program) (e : Env) (s : State) (m : MethodId) (args : Array Value) (below : List Frame) (meth : Method) (c : Code) (D : va_G) (A : Nat → Prop) (a0 : Nat → Nat) (M0 : ZM) (K : ZRet) (KX : ZEx) (X : zCtx p l rm_X4_dueAt s m args meth c cX4_dueAt RX4 (Cond.code yX4_dueAt cX4_dueAt 2 (Option.some Jvm.ClassFile.FieldType.int) :: zG) 2 (Option.some Jvm.ClassFile.FieldType.int) D A a0 M0 0 0) (hnm : meth.name = yX4_dueAt.name) (hout : ∀ x ∈ c.exceptionTable.toList, False) : ∀ q ∈ cd_X4_dueAt, zSd p l e rm_X4_dueAt s m args below meth c 2 D A a0 M0 K KX 0 0 q.1 q.2 :=
    zall_c (zs_aload_n X (pc := 0) (q := 0) rfl (by decide +kernel)) <|
    zall_c (zs_getr X (pc := 1) zc_X4 (by decide) (zin ui_X4) (.tail _ gw_1_196) (by decide +kernel) (by decide +kernel)) <|
    zall_c (zs_iload_n X (pc := 4) (q := 1) rfl (by decide +kernel)) <|
    zall_c (zs_iconst X (pc := 5) (by decide) (by decide +kernel)) <|
    zall_c (zs_imul X (pc := 6) (by decide +kernel)) <|
    zall_c (zs_iconst X (pc := 7) (by decide) (by decide +kernel)) <|
    zall_c (zs_iadd X (pc := 8) (by decide +kernel)) <|
    zall_c (zs_iaload20 X (pc := 9) (by decide +kernel)) <|
    zall_c (zs_iret X (pc := 10) rfl (by decide +kernel)) <|
    zall_n
theorem met_X4_dueAt {l : Launch} (hl : l.stackTraces = false) {T : ZTf} (bd : zBd (cd_X4_dueAt) 2 0 0 T) : zMet l yX4_dueAt (Cond.code yX4_dueAt cX4_dueAt 2 (Option.some Jvm.ClassFile.FieldType.int) :: zG) rm_X4_dueAt 0 0 T := zMet_of hl (by decide +kernel) rfl rfl rfl rfl (hs_X4_dueAt hl) bd

abbrev rm_X4_isInWork : Room := { frames := 2, cells := 0, slots := 0, locals := 51 }
def cd_X4_isInWork (T0 : ZTf) : List (Nat × ZTr) := [(0, tAld 0 1), (1, tIld 1 2), (2, tCall0 2 T0 (zRcv 7) 5), (5, tC (zi (-1)) 6), (6, tIc_ne 13 9), (9, tC (zi 1) 10), (10, tGo 14), (13, tC (zi 0) 14), (14, tRi zPz)]
set_option maxRecDepth 100000 in
set_option maxHeartbeats 4000000 in
theorem hs_X4_isInWork {l : Launch} (hl : l.stackTraces = false) {T0 : ZTf} (h0 : zMet l yX4_resultAt (Cond.code yX4_resultAt cX4_resultAt 2 (Option.some Jvm.ClassFile.FieldType.int) :: zG) rm_X4_resultAt 0 0 T0) (p : Program) (e : Env) (s : State) (m : MethodId) (args : Array Value) (below : List Frame) (meth : Method) (c : Code) (D : va_G) (A : Nat → Prop) (a0 : Nat → Nat) (M0 : ZM) (K : ZRet) (KX : ZEx) (X : zCtx p l rm_X4_isInWork s m args meth c cX4_isInWork RX4 (Cond.code yX4_isInWork cX4_isInWork 2 (Option.some Jvm.ClassFile.FieldType.boolean) :: zG) 2 (Option.some Jvm.ClassFile.FieldType.boolean) D A a0 M0 0 0) (hnm : meth.name = yX4_isInWork.name) (hout : ∀ x ∈ c.exceptionTable.toList, False) : ∀ q ∈ cd_X4_isInWork T0, zSd p l e rm_X4_isInWork s m args below meth c 2 D A a0 M0 K KX 0 0 q.1 q.2 :=
    zall_c (zs_aload_n X (pc := 0) (q := 0) rfl (by decide +kernel)) <|
    zall_c (zs_iload_n X (pc := 1) (q := 1) rfl (by decide +kernel)) <|
    zall_c (zs_callV0 X (pc := 2) zc_X4 (fun _ ht => ⟨(zCB ht gw_5_84 gw_1_10 gw_5_89 rfl rfl (by decide +kernel) ⟨Nat.le_of_ble_eq_true rfl, Nat.le_of_ble_eq_true rfl⟩), ht _ (.tail _ gw_5_82), ht _ (.tail _ gw_5_83)⟩) h0 hout (by decide +kernel)) <|
    zall_c (zs_iconst X (pc := 5) (by decide) (by decide +kernel)) <|
    zall_c (zs_icmp_ne X (pc := 6) (off := 7) (by decide +kernel) (by decide)) <|
    zall_c (zs_iconst X (pc := 9) (by decide) (by decide +kernel)) <|
    zall_c (zs_goto X (pc := 10) (off := 4) (by decide +kernel) (by decide)) <|
    zall_c (zs_iconst X (pc := 13) (by decide) (by decide +kernel)) <|
    zall_c (zs_zret X (pc := 14) rfl zR_bool (by decide +kernel)) <|
    zall_n
theorem met_X4_isInWork {l : Launch} (hl : l.stackTraces = false) {T0 : ZTf} (h0 : zMet l yX4_resultAt (Cond.code yX4_resultAt cX4_resultAt 2 (Option.some Jvm.ClassFile.FieldType.int) :: zG) rm_X4_resultAt 0 0 T0) {T : ZTf} (bd : zBd (cd_X4_isInWork T0) 2 0 0 T) : zMet l yX4_isInWork (Cond.code yX4_isInWork cX4_isInWork 2 (Option.some Jvm.ClassFile.FieldType.boolean) :: zG) rm_X4_isInWork 0 0 T := zMet_of hl (by decide +kernel) rfl rfl rfl rfl (hs_X4_isInWork hl h0) bd

abbrev rm_X4_isLateAt : Room := { frames := 3, cells := 0, slots := 0, locals := 72 }
def cd_X4_isLateAt (T0 : ZTf) (T1 : ZTf) : List (Nat × ZTr) := [(0, tAld 0 1), (1, tIld 1 2), (2, tCall0 2 T0 (zRcv 7) 5), (5, tIf_eq 21 8), (8, tAld 0 9), (9, tIld 1 10), (10, tCall0 2 T1 (zRcv 7) 13), (13, tIld 2 14), (14, tIc_ge 21 17), (17, tC (zi 1) 18), (18, tGo 22), (21, tC (zi 0) 22), (22, tRi zPz)]
set_option maxRecDepth 100000 in
set_option maxHeartbeats 4000000 in
theorem hs_X4_isLateAt {l : Launch} (hl : l.stackTraces = false) {T0 : ZTf} {T1 : ZTf} (h0 : zMet l yX4_isInWork (Cond.code yX4_isInWork cX4_isInWork 2 (Option.some Jvm.ClassFile.FieldType.boolean) :: zG) rm_X4_isInWork 0 0 T0) (h1 : zMet l yX4_dueAt (Cond.code yX4_dueAt cX4_dueAt 2 (Option.some Jvm.ClassFile.FieldType.int) :: zG) rm_X4_dueAt 0 0 T1) (p : Program) (e : Env) (s : State) (m : MethodId) (args : Array Value) (below : List Frame) (meth : Method) (c : Code) (D : va_G) (A : Nat → Prop) (a0 : Nat → Nat) (M0 : ZM) (K : ZRet) (KX : ZEx) (X : zCtx p l rm_X4_isLateAt s m args meth c cX4_isLateAt RX4 (Cond.code yX4_isLateAt cX4_isLateAt 3 (Option.some Jvm.ClassFile.FieldType.boolean) :: zG) 3 (Option.some Jvm.ClassFile.FieldType.boolean) D A a0 M0 0 0) (hnm : meth.name = yX4_isLateAt.name) (hout : ∀ x ∈ c.exceptionTable.toList, False) : ∀ q ∈ cd_X4_isLateAt T0 T1, zSd p l e rm_X4_isLateAt s m args below meth c 3 D A a0 M0 K KX 0 0 q.1 q.2 :=
    zall_c (zs_aload_n X (pc := 0) (q := 0) rfl (by decide +kernel)) <|
    zall_c (zs_iload_n X (pc := 1) (q := 1) rfl (by decide +kernel)) <|
    zall_c (zs_callV0 X (pc := 2) zc_X4 (fun _ ht => ⟨(zCB ht gw_5_88 gw_1_10 gw_6_5 rfl rfl (by decide +kernel) ⟨Nat.le_of_ble_eq_true rfl, Nat.le_of_ble_eq_true rfl⟩), ht _ (.tail _ gw_5_86), ht _ (.tail _ gw_5_87)⟩) h0 hout (by decide +kernel)) <|
    zall_c (zs_if_eq X (pc := 5) (off := 16) (by decide +kernel) (by decide)) <|
    zall_c (zs_aload_n X (pc := 8) (q := 0) rfl (by decide +kernel)) <|
    zall_c (zs_iload_n X (pc := 9) (q := 1) rfl (by decide +kernel)) <|
    zall_c (zs_callV0 X (pc := 10) zc_X4 (fun _ ht => ⟨(zCB ht gw_5_93 gw_1_10 gw_6_6 rfl rfl (by decide +kernel) ⟨Nat.le_of_ble_eq_true rfl, Nat.le_of_ble_eq_true rfl⟩), ht _ (.tail _ gw_5_91), ht _ (.tail _ gw_5_92)⟩) h1 hout (by decide +kernel)) <|
    zall_c (zs_iload_n X (pc := 13) (q := 2) rfl (by decide +kernel)) <|
    zall_c (zs_icmp_ge X (pc := 14) (off := 7) (by decide +kernel) (by decide)) <|
    zall_c (zs_iconst X (pc := 17) (by decide) (by decide +kernel)) <|
    zall_c (zs_goto X (pc := 18) (off := 4) (by decide +kernel) (by decide)) <|
    zall_c (zs_iconst X (pc := 21) (by decide) (by decide +kernel)) <|
    zall_c (zs_zret X (pc := 22) rfl zR_bool (by decide +kernel)) <|
    zall_n
theorem met_X4_isLateAt {l : Launch} (hl : l.stackTraces = false) {T0 : ZTf} {T1 : ZTf} (h0 : zMet l yX4_isInWork (Cond.code yX4_isInWork cX4_isInWork 2 (Option.some Jvm.ClassFile.FieldType.boolean) :: zG) rm_X4_isInWork 0 0 T0) (h1 : zMet l yX4_dueAt (Cond.code yX4_dueAt cX4_dueAt 2 (Option.some Jvm.ClassFile.FieldType.int) :: zG) rm_X4_dueAt 0 0 T1) {T : ZTf} (bd : zBd (cd_X4_isLateAt T0 T1) 3 0 0 T) : zMet l yX4_isLateAt (Cond.code yX4_isLateAt cX4_isLateAt 3 (Option.some Jvm.ClassFile.FieldType.boolean) :: zG) rm_X4_isLateAt 0 0 T := zMet_of hl (by decide +kernel) rfl rfl rfl rfl (hs_X4_isLateAt hl h0 h1) bd

abbrev rm_X4_missingWorkers : Room := { frames := 2, cells := 0, slots := 0, locals := 50 }
def cd_X4_missingWorkers (T0 : ZTf) : List (Nat × ZTr) := [(0, tAld 0 1), (1, tCall0 1 T0 (zRcv 7) 4), (4, tIf_eq 9 7), (7, tC (zi 0) 8), (8, tRi (fun _ => True)), (9, tAld 0 10), (10, tGetI 7 1 13), (13, tC (zi 1) 14), (14, tIc_ne 21 17), (17, tC (zi 3) 18), (18, tGo 22), (21, tC (zi 2) 22), (22, tIst 1 23), (23, tC (zi 0) 24), (24, tIld 1 25), (25, tAld 0 26), (26, tGetI 7 8 29), (29, tSub 30), (30, tMth2 zmax 33), (33, tRi (fun _ => True))]
set_option maxRecDepth 100000 in
set_option maxHeartbeats 4000000 in
theorem hs_X4_missingWorkers {l : Launch} (hl : l.stackTraces = false) {T0 : ZTf} (h0 : zMet l yX4_isClosed (Cond.code yX4_isClosed cX4_isClosed 1 (Option.some Jvm.ClassFile.FieldType.boolean) :: zG) rm_X4_isClosed 0 0 T0) (p : Program) (e : Env) (s : State) (m : MethodId) (args : Array Value) (below : List Frame) (meth : Method) (c : Code) (D : va_G) (A : Nat → Prop) (a0 : Nat → Nat) (M0 : ZM) (K : ZRet) (KX : ZEx) (X : zCtx p l rm_X4_missingWorkers s m args meth c cX4_missingWorkers RX4 (Cond.code yX4_missingWorkers cX4_missingWorkers 2 (Option.some Jvm.ClassFile.FieldType.int) :: zG) 2 (Option.some Jvm.ClassFile.FieldType.int) D A a0 M0 0 0) (hnm : meth.name = yX4_missingWorkers.name) (hout : ∀ x ∈ c.exceptionTable.toList, False) : ∀ q ∈ cd_X4_missingWorkers T0, zSd p l e rm_X4_missingWorkers s m args below meth c 2 D A a0 M0 K KX 0 0 q.1 q.2 :=
    zall_c (zs_aload_n X (pc := 0) (q := 0) rfl (by decide +kernel)) <|
    zall_c (zs_callV0 X (pc := 1) zc_X4 (fun _ ht => ⟨(zCB ht gw_5_70 gw_1_10 gw_5_67 rfl rfl (by decide +kernel) ⟨Nat.le_of_ble_eq_true rfl, Nat.le_of_ble_eq_true rfl⟩), ht _ (.tail _ gw_5_68), ht _ (.tail _ gw_5_69)⟩) h0 hout (by decide +kernel)) <|
    zall_c (zs_if_eq X (pc := 4) (off := 5) (by decide +kernel) (by decide)) <|
    zall_c (zs_iconst X (pc := 7) (by decide) (by decide +kernel)) <|
    zall_c (zs_iret X (pc := 8) rfl (by decide +kernel)) <|
    zall_c (zs_aload_n X (pc := 9) (q := 0) rfl (by decide +kernel)) <|
    zall_c (zs_geti X (pc := 10) zc_X4 (by decide) (zin ui_X4) (.tail _ gw_1_172) (by decide +kernel) (by decide +kernel)) <|
    zall_c (zs_iconst X (pc := 13) (by decide) (by decide +kernel)) <|
    zall_c (zs_icmp_ne X (pc := 14) (off := 7) (by decide +kernel) (by decide)) <|
    zall_c (zs_iconst X (pc := 17) (by decide) (by decide +kernel)) <|
    zall_c (zs_goto X (pc := 18) (off := 4) (by decide +kernel) (by decide)) <|
    zall_c (zs_iconst X (pc := 21) (by decide) (by decide +kernel)) <|
    zall_c (zs_istore_n X (pc := 22) (q := 1) rfl (by decide) (by decide +kernel)) <|
    zall_c (zs_iconst X (pc := 23) (by decide) (by decide +kernel)) <|
    zall_c (zs_iload_n X (pc := 24) (q := 1) rfl (by decide +kernel)) <|
    zall_c (zs_aload_n X (pc := 25) (q := 0) rfl (by decide +kernel)) <|
    zall_c (zs_geti X (pc := 26) zc_X4 (by decide) (zin ui_X4) (.tail _ gw_1_193) (by decide +kernel) (by decide +kernel)) <|
    zall_c (zs_isub X (pc := 29) (by decide +kernel)) <|
    zall_c (zs_mmax X (pc := 30) (.tail _ gw_5_71) (.tail _ gw_3_42) (.tail _ gw_1_14) (.tail _ gw_3_43) (Nat.le_of_ble_eq_true rfl) (Nat.le_of_ble_eq_true rfl) (by decide +kernel)) <|
    zall_c (zs_iret X (pc := 33) rfl (by decide +kernel)) <|
    zall_n
theorem met_X4_missingWorkers {l : Launch} (hl : l.stackTraces = false) {T0 : ZTf} (h0 : zMet l yX4_isClosed (Cond.code yX4_isClosed cX4_isClosed 1 (Option.some Jvm.ClassFile.FieldType.boolean) :: zG) rm_X4_isClosed 0 0 T0) {T : ZTf} (bd : zBd (cd_X4_missingWorkers T0) 2 0 0 T) : zMet l yX4_missingWorkers (Cond.code yX4_missingWorkers cX4_missingWorkers 2 (Option.some Jvm.ClassFile.FieldType.int) :: zG) rm_X4_missingWorkers 0 0 T := zMet_of hl (by decide +kernel) rfl rfl rfl rfl (hs_X4_missingWorkers hl h0) bd

abbrev rm_X4_takingBy : Room := { frames := 2, cells := 0, slots := 0, locals := 51 }
def cd_X4_takingBy (T0 : ZTf) : List (Nat × ZTr) := [(0, tC (zi 0) 1), (1, tIst 2 2), (2, tIld 2 3), (3, tAld 0 4), (4, tGetI 7 8 7), (7, tIc_ge 27 10), (10, tAld 0 11), (11, tIld 2 12), (12, tCall0 2 T0 (zRcv 7) 15), (15, tIld 1 16), (16, tIc_ne 21 19), (19, tIld 2 20), (20, tRi (fun _ => True)), (21, tInc 2 1 24), (24, tGo 2), (27, tC (zi (-1)) 28), (28, tRi (fun _ => True))]
set_option maxRecDepth 100000 in
set_option maxHeartbeats 4000000 in
theorem hs_X4_takingBy {l : Launch} (hl : l.stackTraces = false) {T0 : ZTf} (h0 : zMet l yX4_workerAt (Cond.code yX4_workerAt cX4_workerAt 2 (Option.some Jvm.ClassFile.FieldType.int) :: zG) rm_X4_workerAt 0 0 T0) (p : Program) (e : Env) (s : State) (m : MethodId) (args : Array Value) (below : List Frame) (meth : Method) (c : Code) (D : va_G) (A : Nat → Prop) (a0 : Nat → Nat) (M0 : ZM) (K : ZRet) (KX : ZEx) (X : zCtx p l rm_X4_takingBy s m args meth c cX4_takingBy RX4 (Cond.code yX4_takingBy cX4_takingBy 3 (Option.some Jvm.ClassFile.FieldType.int) :: zG) 3 (Option.some Jvm.ClassFile.FieldType.int) D A a0 M0 0 0) (hnm : meth.name = yX4_takingBy.name) (hout : ∀ x ∈ c.exceptionTable.toList, False) : ∀ q ∈ cd_X4_takingBy T0, zSd p l e rm_X4_takingBy s m args below meth c 3 D A a0 M0 K KX 0 0 q.1 q.2 :=
    zall_c (zs_iconst X (pc := 0) (by decide) (by decide +kernel)) <|
    zall_c (zs_istore_n X (pc := 1) (q := 2) rfl (by decide) (by decide +kernel)) <|
    zall_c (zs_iload_n X (pc := 2) (q := 2) rfl (by decide +kernel)) <|
    zall_c (zs_aload_n X (pc := 3) (q := 0) rfl (by decide +kernel)) <|
    zall_c (zs_geti X (pc := 4) zc_X4 (by decide) (zin ui_X4) (.tail _ gw_1_193) (by decide +kernel) (by decide +kernel)) <|
    zall_c (zs_icmp_ge X (pc := 7) (off := 20) (by decide +kernel) (by decide)) <|
    zall_c (zs_aload_n X (pc := 10) (q := 0) rfl (by decide +kernel)) <|
    zall_c (zs_iload_n X (pc := 11) (q := 2) rfl (by decide +kernel)) <|
    zall_c (zs_callV0 X (pc := 12) zc_X4 (fun _ ht => ⟨(zCB ht gw_5_80 gw_1_10 gw_5_175 rfl rfl (by decide +kernel) ⟨Nat.le_of_ble_eq_true rfl, Nat.le_of_ble_eq_true rfl⟩), ht _ (.tail _ gw_5_78), ht _ (.tail _ gw_5_79)⟩) h0 hout (by decide +kernel)) <|
    zall_c (zs_iload_n X (pc := 15) (q := 1) rfl (by decide +kernel)) <|
    zall_c (zs_icmp_ne X (pc := 16) (off := 5) (by decide +kernel) (by decide)) <|
    zall_c (zs_iload_n X (pc := 19) (q := 2) rfl (by decide +kernel)) <|
    zall_c (zs_iret X (pc := 20) rfl (by decide +kernel)) <|
    zall_c (zs_iinc X (pc := 21) (by decide) (by decide +kernel)) <|
    zall_c (zs_goto X (pc := 24) (off := (-22)) (by decide +kernel) (by decide)) <|
    zall_c (zs_iconst X (pc := 27) (by decide) (by decide +kernel)) <|
    zall_c (zs_iret X (pc := 28) rfl (by decide +kernel)) <|
    zall_n
theorem met_X4_takingBy {l : Launch} (hl : l.stackTraces = false) {T0 : ZTf} (h0 : zMet l yX4_workerAt (Cond.code yX4_workerAt cX4_workerAt 2 (Option.some Jvm.ClassFile.FieldType.int) :: zG) rm_X4_workerAt 0 0 T0) {T : ZTf} (bd : zBd (cd_X4_takingBy T0) 3 0 0 T) : zMet l yX4_takingBy (Cond.code yX4_takingBy cX4_takingBy 3 (Option.some Jvm.ClassFile.FieldType.int) :: zG) rm_X4_takingBy 0 0 T := zMet_of hl (by decide +kernel) rfl rfl rfl rfl (hs_X4_takingBy hl h0) bd

abbrev rm_X4_leastDue : Room := { frames := 3, cells := 0, slots := 0, locals := 72 }
def cd_X4_leastDue (T0 : ZTf) (T1 : ZTf) : List (Nat × ZTr) := [(0, tC (zi (-1)) 1), (1, tIst 1 2), (2, tC (zi 0) 3), (3, tIst 2 4), (4, tIld 2 5), (5, tAld 0 6), (6, tGetI 7 8 9), (9, tIc_ge 46 12), (12, tAld 0 13), (13, tIld 2 14), (14, tCall0 2 T0 (zRcv 7) 17), (17, tIf_eq 40 20), (20, tIld 1 21), (21, tC (zi (-1)) 22), (22, tIc_eq 34 25), (25, tAld 0 26), (26, tIld 2 27), (27, tCall0 2 T1 (zRcv 7) 30), (30, tIld 1 31), (31, tIc_ge 40 34), (34, tAld 0 35), (35, tIld 2 36), (36, tCall0 2 T1 (zRcv 7) 39), (39, tIst 1 40), (40, tInc 2 1 43), (43, tGo 4), (46, tIld 1 47), (47, tRi (fun _ => True))]
set_option maxRecDepth 100000 in
set_option maxHeartbeats 4000000 in
theorem hs_X4_leastDue {l : Launch} (hl : l.stackTraces = false) {T0 : ZTf} {T1 : ZTf} (h0 : zMet l yX4_isInWork (Cond.code yX4_isInWork cX4_isInWork 2 (Option.some Jvm.ClassFile.FieldType.boolean) :: zG) rm_X4_isInWork 0 0 T0) (h1 : zMet l yX4_dueAt (Cond.code yX4_dueAt cX4_dueAt 2 (Option.some Jvm.ClassFile.FieldType.int) :: zG) rm_X4_dueAt 0 0 T1) (p : Program) (e : Env) (s : State) (m : MethodId) (args : Array Value) (below : List Frame) (meth : Method) (c : Code) (D : va_G) (A : Nat → Prop) (a0 : Nat → Nat) (M0 : ZM) (K : ZRet) (KX : ZEx) (X : zCtx p l rm_X4_leastDue s m args meth c cX4_leastDue RX4 (Cond.code yX4_leastDue cX4_leastDue 3 (Option.some Jvm.ClassFile.FieldType.int) :: zG) 3 (Option.some Jvm.ClassFile.FieldType.int) D A a0 M0 0 0) (hnm : meth.name = yX4_leastDue.name) (hout : ∀ x ∈ c.exceptionTable.toList, False) : ∀ q ∈ cd_X4_leastDue T0 T1, zSd p l e rm_X4_leastDue s m args below meth c 3 D A a0 M0 K KX 0 0 q.1 q.2 :=
    zall_c (zs_iconst X (pc := 0) (by decide) (by decide +kernel)) <|
    zall_c (zs_istore_n X (pc := 1) (q := 1) rfl (by decide) (by decide +kernel)) <|
    zall_c (zs_iconst X (pc := 2) (by decide) (by decide +kernel)) <|
    zall_c (zs_istore_n X (pc := 3) (q := 2) rfl (by decide) (by decide +kernel)) <|
    zall_c (zs_iload_n X (pc := 4) (q := 2) rfl (by decide +kernel)) <|
    zall_c (zs_aload_n X (pc := 5) (q := 0) rfl (by decide +kernel)) <|
    zall_c (zs_geti X (pc := 6) zc_X4 (by decide) (zin ui_X4) (.tail _ gw_1_193) (by decide +kernel) (by decide +kernel)) <|
    zall_c (zs_icmp_ge X (pc := 9) (off := 37) (by decide +kernel) (by decide)) <|
    zall_c (zs_aload_n X (pc := 12) (q := 0) rfl (by decide +kernel)) <|
    zall_c (zs_iload_n X (pc := 13) (q := 2) rfl (by decide +kernel)) <|
    zall_c (zs_callV0 X (pc := 14) zc_X4 (fun _ ht => ⟨(zCB ht gw_5_88 gw_1_10 gw_6_5 rfl rfl (by decide +kernel) ⟨Nat.le_of_ble_eq_true rfl, Nat.le_of_ble_eq_true rfl⟩), ht _ (.tail _ gw_5_86), ht _ (.tail _ gw_5_87)⟩) h0 hout (by decide +kernel)) <|
    zall_c (zs_if_eq X (pc := 17) (off := 23) (by decide +kernel) (by decide)) <|
    zall_c (zs_iload_n X (pc := 20) (q := 1) rfl (by decide +kernel)) <|
    zall_c (zs_iconst X (pc := 21) (by decide) (by decide +kernel)) <|
    zall_c (zs_icmp_eq X (pc := 22) (off := 12) (by decide +kernel) (by decide)) <|
    zall_c (zs_aload_n X (pc := 25) (q := 0) rfl (by decide +kernel)) <|
    zall_c (zs_iload_n X (pc := 26) (q := 2) rfl (by decide +kernel)) <|
    zall_c (zs_callV0 X (pc := 27) zc_X4 (fun _ ht => ⟨(zCB ht gw_5_93 gw_1_10 gw_6_6 rfl rfl (by decide +kernel) ⟨Nat.le_of_ble_eq_true rfl, Nat.le_of_ble_eq_true rfl⟩), ht _ (.tail _ gw_5_91), ht _ (.tail _ gw_5_92)⟩) h1 hout (by decide +kernel)) <|
    zall_c (zs_iload_n X (pc := 30) (q := 1) rfl (by decide +kernel)) <|
    zall_c (zs_icmp_ge X (pc := 31) (off := 9) (by decide +kernel) (by decide)) <|
    zall_c (zs_aload_n X (pc := 34) (q := 0) rfl (by decide +kernel)) <|
    zall_c (zs_iload_n X (pc := 35) (q := 2) rfl (by decide +kernel)) <|
    zall_c (zs_callV0 X (pc := 36) zc_X4 (fun _ ht => ⟨(zCB ht gw_5_93 gw_1_10 gw_6_6 rfl rfl (by decide +kernel) ⟨Nat.le_of_ble_eq_true rfl, Nat.le_of_ble_eq_true rfl⟩), ht _ (.tail _ gw_5_91), ht _ (.tail _ gw_5_92)⟩) h1 hout (by decide +kernel)) <|
    zall_c (zs_istore_n X (pc := 39) (q := 1) rfl (by decide) (by decide +kernel)) <|
    zall_c (zs_iinc X (pc := 40) (by decide) (by decide +kernel)) <|
    zall_c (zs_goto X (pc := 43) (off := (-39)) (by decide +kernel) (by decide)) <|
    zall_c (zs_iload_n X (pc := 46) (q := 1) rfl (by decide +kernel)) <|
    zall_c (zs_iret X (pc := 47) rfl (by decide +kernel)) <|
    zall_n
theorem met_X4_leastDue {l : Launch} (hl : l.stackTraces = false) {T0 : ZTf} {T1 : ZTf} (h0 : zMet l yX4_isInWork (Cond.code yX4_isInWork cX4_isInWork 2 (Option.some Jvm.ClassFile.FieldType.boolean) :: zG) rm_X4_isInWork 0 0 T0) (h1 : zMet l yX4_dueAt (Cond.code yX4_dueAt cX4_dueAt 2 (Option.some Jvm.ClassFile.FieldType.int) :: zG) rm_X4_dueAt 0 0 T1) {T : ZTf} (bd : zBd (cd_X4_leastDue T0 T1) 3 0 0 T) : zMet l yX4_leastDue (Cond.code yX4_leastDue cX4_leastDue 3 (Option.some Jvm.ClassFile.FieldType.int) :: zG) rm_X4_leastDue 0 0 T := zMet_of hl (by decide +kernel) rfl rfl rfl rfl (hs_X4_leastDue hl h0 h1) bd

abbrev rm_X4_countLateAt : Room := { frames := 4, cells := 0, slots := 0, locals := 94 }
def cd_X4_countLateAt (T0 : ZTf) : List (Nat × ZTr) := [(0, tC (zi 0) 1), (1, tIst 2 2), (2, tC (zi 0) 3), (3, tIst 3 4), (4, tIld 3 5), (5, tAld 0 6), (6, tGetI 7 8 9), (9, tIc_ge 30 12), (12, tAld 0 13), (13, tIld 3 14), (14, tIld 1 15), (15, tCall0 3 T0 (zRcv 7) 18), (18, tIf_eq 24 21), (21, tInc 2 1 24), (24, tInc 3 1 27), (27, tGo 4), (30, tIld 2 31), (31, tRi (fun _ => True))]
set_option maxRecDepth 100000 in
set_option maxHeartbeats 4000000 in
theorem hs_X4_countLateAt {l : Launch} (hl : l.stackTraces = false) {T0 : ZTf} (h0 : zMet l yX4_isLateAt (Cond.code yX4_isLateAt cX4_isLateAt 3 (Option.some Jvm.ClassFile.FieldType.boolean) :: zG) rm_X4_isLateAt 0 0 T0) (p : Program) (e : Env) (s : State) (m : MethodId) (args : Array Value) (below : List Frame) (meth : Method) (c : Code) (D : va_G) (A : Nat → Prop) (a0 : Nat → Nat) (M0 : ZM) (K : ZRet) (KX : ZEx) (X : zCtx p l rm_X4_countLateAt s m args meth c cX4_countLateAt RX4 (Cond.code yX4_countLateAt cX4_countLateAt 4 (Option.some Jvm.ClassFile.FieldType.int) :: zG) 4 (Option.some Jvm.ClassFile.FieldType.int) D A a0 M0 0 0) (hnm : meth.name = yX4_countLateAt.name) (hout : ∀ x ∈ c.exceptionTable.toList, False) : ∀ q ∈ cd_X4_countLateAt T0, zSd p l e rm_X4_countLateAt s m args below meth c 4 D A a0 M0 K KX 0 0 q.1 q.2 :=
    zall_c (zs_iconst X (pc := 0) (by decide) (by decide +kernel)) <|
    zall_c (zs_istore_n X (pc := 1) (q := 2) rfl (by decide) (by decide +kernel)) <|
    zall_c (zs_iconst X (pc := 2) (by decide) (by decide +kernel)) <|
    zall_c (zs_istore_n X (pc := 3) (q := 3) rfl (by decide) (by decide +kernel)) <|
    zall_c (zs_iload_n X (pc := 4) (q := 3) rfl (by decide +kernel)) <|
    zall_c (zs_aload_n X (pc := 5) (q := 0) rfl (by decide +kernel)) <|
    zall_c (zs_geti X (pc := 6) zc_X4 (by decide) (zin ui_X4) (.tail _ gw_1_193) (by decide +kernel) (by decide +kernel)) <|
    zall_c (zs_icmp_ge X (pc := 9) (off := 21) (by decide +kernel) (by decide)) <|
    zall_c (zs_aload_n X (pc := 12) (q := 0) rfl (by decide +kernel)) <|
    zall_c (zs_iload_n X (pc := 13) (q := 3) rfl (by decide +kernel)) <|
    zall_c (zs_iload_n X (pc := 14) (q := 1) rfl (by decide +kernel)) <|
    zall_c (zs_callV0 X (pc := 15) zc_X4 (fun _ ht => ⟨(zCB ht gw_6_4 gw_1_10 gw_6_118 rfl rfl (by decide +kernel) ⟨Nat.le_of_ble_eq_true rfl, Nat.le_of_ble_eq_true rfl⟩), ht _ (.tail _ gw_6_2), ht _ (.tail _ gw_6_3)⟩) h0 hout (by decide +kernel)) <|
    zall_c (zs_if_eq X (pc := 18) (off := 6) (by decide +kernel) (by decide)) <|
    zall_c (zs_iinc X (pc := 21) (by decide) (by decide +kernel)) <|
    zall_c (zs_iinc X (pc := 24) (by decide) (by decide +kernel)) <|
    zall_c (zs_goto X (pc := 27) (off := (-23)) (by decide +kernel) (by decide)) <|
    zall_c (zs_iload_n X (pc := 30) (q := 2) rfl (by decide +kernel)) <|
    zall_c (zs_iret X (pc := 31) rfl (by decide +kernel)) <|
    zall_n
theorem met_X4_countLateAt {l : Launch} (hl : l.stackTraces = false) {T0 : ZTf} (h0 : zMet l yX4_isLateAt (Cond.code yX4_isLateAt cX4_isLateAt 3 (Option.some Jvm.ClassFile.FieldType.boolean) :: zG) rm_X4_isLateAt 0 0 T0) {T : ZTf} (bd : zBd (cd_X4_countLateAt T0) 4 0 0 T) : zMet l yX4_countLateAt (Cond.code yX4_countLateAt cX4_countLateAt 4 (Option.some Jvm.ClassFile.FieldType.int) :: zG) rm_X4_countLateAt 0 0 T := zMet_of hl (by decide +kernel) rfl rfl rfl rfl (hs_X4_countLateAt hl h0) bd

abbrev rm_X4_enterResult : Room := { frames := 1, cells := 0, slots := 0, locals := 30 }
def cd_X4_enterResult : List (Nat × ZTr) := [(0, tAld 0 1), (1, tGetR 7 9 4), (4, tIld 1 5), (5, tC (zi 3) 6), (6, tMul 7), (7, tC (zi 1) 8), (8, tAdd 9), (9, tIld 2 10), (10, tIas 20 (fun _ => True) 11), (11, tRv)]
set_option maxRecDepth 100000 in
set_option maxHeartbeats 4000000 in
theorem hs_X4_enterResult {l : Launch} (hl : l.stackTraces = false) (p : Program) (e : Env) (s : State) (m : MethodId) (args : Array Value) (below : List Frame) (meth : Method) (c : Code) (D : va_G) (A : Nat → Prop) (a0 : Nat → Nat) (M0 : ZM) (K : ZRet) (KX : ZEx) (X : zCtx p l rm_X4_enterResult s m args meth c cX4_enterResult RX4 (Cond.code yX4_enterResult cX4_enterResult 3 (Option.none : Option Jvm.ClassFile.FieldType) :: zG) 3 (Option.none : Option Jvm.ClassFile.FieldType) D A a0 M0 0 0) (hnm : meth.name = yX4_enterResult.name) (hout : ∀ x ∈ c.exceptionTable.toList, False) : ∀ q ∈ cd_X4_enterResult, zSd p l e rm_X4_enterResult s m args below meth c 3 D A a0 M0 K KX 0 0 q.1 q.2 :=
    zall_c (zs_aload_n X (pc := 0) (q := 0) rfl (by decide +kernel)) <|
    zall_c (zs_getr X (pc := 1) zc_X4 (by decide) (zin ui_X4) (.tail _ gw_1_196) (by decide +kernel) (by decide +kernel)) <|
    zall_c (zs_iload_n X (pc := 4) (q := 1) rfl (by decide +kernel)) <|
    zall_c (zs_iconst X (pc := 5) (by decide) (by decide +kernel)) <|
    zall_c (zs_imul X (pc := 6) (by decide +kernel)) <|
    zall_c (zs_iconst X (pc := 7) (by decide) (by decide +kernel)) <|
    zall_c (zs_iadd X (pc := 8) (by decide +kernel)) <|
    zall_c (zs_iload_n X (pc := 9) (q := 2) rfl (by decide +kernel)) <|
    zall_c (zs_iastore20 X (pc := 10) (by decide +kernel)) <|
    zall_c (zs_vret X (pc := 11) rfl (by decide +kernel)) <|
    zall_n
theorem met_X4_enterResult {l : Launch} (hl : l.stackTraces = false) {T : ZTf} (bd : zBd (cd_X4_enterResult) 3 0 0 T) : zMet l yX4_enterResult (Cond.code yX4_enterResult cX4_enterResult 3 (Option.none : Option Jvm.ClassFile.FieldType) :: zG) rm_X4_enterResult 0 0 T := zMet_of hl (by decide +kernel) rfl rfl rfl rfl (hs_X4_enterResult hl) bd

abbrev rm_X4_setTaking : Room := { frames := 1, cells := 0, slots := 0, locals := 30 }
def cd_X4_setTaking : List (Nat × ZTr) := [(0, tAld 0 1), (1, tGetR 7 9 4), (4, tIld 1 5), (5, tC (zi 3) 6), (6, tMul 7), (7, tC (zi 0) 8), (8, tAdd 9), (9, tIld 2 10), (10, tIas 20 (fun _ => True) 11), (11, tAld 0 12), (12, tGetR 7 9 15), (15, tIld 1 16), (16, tC (zi 3) 17), (17, tMul 18), (18, tC (zi 1) 19), (19, tAdd 20), (20, tIld 3 21), (21, tIas 20 (fun _ => True) 22), (22, tAld 0 23), (23, tGetR 7 9 26), (26, tIld 1 27), (27, tC (zi 3) 28), (28, tMul 29), (29, tC (zi 2) 30), (30, tAdd 31), (31, tIld 4 33), (33, tIas 20 (fun _ => True) 34), (34, tRv)]
set_option maxRecDepth 100000 in
set_option maxHeartbeats 4000000 in
theorem hs_X4_setTaking {l : Launch} (hl : l.stackTraces = false) (p : Program) (e : Env) (s : State) (m : MethodId) (args : Array Value) (below : List Frame) (meth : Method) (c : Code) (D : va_G) (A : Nat → Prop) (a0 : Nat → Nat) (M0 : ZM) (K : ZRet) (KX : ZEx) (X : zCtx p l rm_X4_setTaking s m args meth c cX4_setTaking RX4 (Cond.code yX4_setTaking cX4_setTaking 5 (Option.none : Option Jvm.ClassFile.FieldType) :: zG) 5 (Option.none : Option Jvm.ClassFile.FieldType) D A a0 M0 0 0) (hnm : meth.name = yX4_setTaking.name) (hout : ∀ x ∈ c.exceptionTable.toList, False) : ∀ q ∈ cd_X4_setTaking, zSd p l e rm_X4_setTaking s m args below meth c 5 D A a0 M0 K KX 0 0 q.1 q.2 :=
    zall_c (zs_aload_n X (pc := 0) (q := 0) rfl (by decide +kernel)) <|
    zall_c (zs_getr X (pc := 1) zc_X4 (by decide) (zin ui_X4) (.tail _ gw_1_196) (by decide +kernel) (by decide +kernel)) <|
    zall_c (zs_iload_n X (pc := 4) (q := 1) rfl (by decide +kernel)) <|
    zall_c (zs_iconst X (pc := 5) (by decide) (by decide +kernel)) <|
    zall_c (zs_imul X (pc := 6) (by decide +kernel)) <|
    zall_c (zs_iconst X (pc := 7) (by decide) (by decide +kernel)) <|
    zall_c (zs_iadd X (pc := 8) (by decide +kernel)) <|
    zall_c (zs_iload_n X (pc := 9) (q := 2) rfl (by decide +kernel)) <|
    zall_c (zs_iastore20 X (pc := 10) (by decide +kernel)) <|
    zall_c (zs_aload_n X (pc := 11) (q := 0) rfl (by decide +kernel)) <|
    zall_c (zs_getr X (pc := 12) zc_X4 (by decide) (zin ui_X4) (.tail _ gw_1_196) (by decide +kernel) (by decide +kernel)) <|
    zall_c (zs_iload_n X (pc := 15) (q := 1) rfl (by decide +kernel)) <|
    zall_c (zs_iconst X (pc := 16) (by decide) (by decide +kernel)) <|
    zall_c (zs_imul X (pc := 17) (by decide +kernel)) <|
    zall_c (zs_iconst X (pc := 18) (by decide) (by decide +kernel)) <|
    zall_c (zs_iadd X (pc := 19) (by decide +kernel)) <|
    zall_c (zs_iload_n X (pc := 20) (q := 3) rfl (by decide +kernel)) <|
    zall_c (zs_iastore20 X (pc := 21) (by decide +kernel)) <|
    zall_c (zs_aload_n X (pc := 22) (q := 0) rfl (by decide +kernel)) <|
    zall_c (zs_getr X (pc := 23) zc_X4 (by decide) (zin ui_X4) (.tail _ gw_1_196) (by decide +kernel) (by decide +kernel)) <|
    zall_c (zs_iload_n X (pc := 26) (q := 1) rfl (by decide +kernel)) <|
    zall_c (zs_iconst X (pc := 27) (by decide) (by decide +kernel)) <|
    zall_c (zs_imul X (pc := 28) (by decide +kernel)) <|
    zall_c (zs_iconst X (pc := 29) (by decide) (by decide +kernel)) <|
    zall_c (zs_iadd X (pc := 30) (by decide +kernel)) <|
    zall_c (zs_iload X (pc := 31) (by decide +kernel)) <|
    zall_c (zs_iastore20 X (pc := 33) (by decide +kernel)) <|
    zall_c (zs_vret X (pc := 34) rfl (by decide +kernel)) <|
    zall_n
theorem met_X4_setTaking {l : Launch} (hl : l.stackTraces = false) {T : ZTf} (bd : zBd (cd_X4_setTaking) 5 0 0 T) : zMet l yX4_setTaking (Cond.code yX4_setTaking cX4_setTaking 5 (Option.none : Option Jvm.ClassFile.FieldType) :: zG) rm_X4_setTaking 0 0 T := zMet_of hl (by decide +kernel) rfl rfl rfl rfl (hs_X4_setTaking hl) bd

abbrev rm_X5_hasRoomFor : Room := { frames := 1, cells := 0, slots := 0, locals := 30 }
def cd_X5_hasRoomFor : List (Nat × ZTr) := [(0, tIld 1 1), (1, tC (zi 24) 3), (3, tAld 0 4), (4, tGetI 8 5 7), (7, tSub 8), (8, tIc_gt 15 11), (11, tC (zi 1) 12), (12, tGo 16), (15, tC (zi 0) 16), (16, tRi zPz)]
set_option maxRecDepth 100000 in
set_option maxHeartbeats 4000000 in
theorem hs_X5_hasRoomFor {l : Launch} (hl : l.stackTraces = false) (p : Program) (e : Env) (s : State) (m : MethodId) (args : Array Value) (below : List Frame) (meth : Method) (c : Code) (D : va_G) (A : Nat → Prop) (a0 : Nat → Nat) (M0 : ZM) (K : ZRet) (KX : ZEx) (X : zCtx p l rm_X5_hasRoomFor s m args meth c cX5_hasRoomFor RX5 (Cond.code yX5_hasRoomFor cX5_hasRoomFor 2 (Option.some Jvm.ClassFile.FieldType.boolean) :: zG) 2 (Option.some Jvm.ClassFile.FieldType.boolean) D A a0 M0 0 0) (hnm : meth.name = yX5_hasRoomFor.name) (hout : ∀ x ∈ c.exceptionTable.toList, False) : ∀ q ∈ cd_X5_hasRoomFor, zSd p l e rm_X5_hasRoomFor s m args below meth c 2 D A a0 M0 K KX 0 0 q.1 q.2 :=
    zall_c (zs_iload_n X (pc := 0) (q := 1) rfl (by decide +kernel)) <|
    zall_c (zs_bipush X (pc := 1) (by decide) (by decide +kernel) (by decide +kernel)) <|
    zall_c (zs_aload_n X (pc := 3) (q := 0) rfl (by decide +kernel)) <|
    zall_c (zs_geti X (pc := 4) zc_X5 (by decide) (zin ui_X5) (.tail _ gw_1_232) (by decide +kernel) (by decide +kernel)) <|
    zall_c (zs_isub X (pc := 7) (by decide +kernel)) <|
    zall_c (zs_icmp_gt X (pc := 8) (off := 7) (by decide +kernel) (by decide)) <|
    zall_c (zs_iconst X (pc := 11) (by decide) (by decide +kernel)) <|
    zall_c (zs_goto X (pc := 12) (off := 4) (by decide +kernel) (by decide)) <|
    zall_c (zs_iconst X (pc := 15) (by decide) (by decide +kernel)) <|
    zall_c (zs_zret X (pc := 16) rfl zR_bool (by decide +kernel)) <|
    zall_n
theorem met_X5_hasRoomFor {l : Launch} (hl : l.stackTraces = false) {T : ZTf} (bd : zBd (cd_X5_hasRoomFor) 2 0 0 T) : zMet l yX5_hasRoomFor (Cond.code yX5_hasRoomFor cX5_hasRoomFor 2 (Option.some Jvm.ClassFile.FieldType.boolean) :: zG) rm_X5_hasRoomFor 0 0 T := zMet_of hl (by decide +kernel) rfl rfl rfl rfl (hs_X5_hasRoomFor hl) bd

abbrev rm_X5_putRows : Room := { frames := 2, cells := 0, slots := 0, locals := 51 }
def cd_X5_putRows (T0 : ZTf) : List (Nat × ZTr) := [(0, tC (zi 0) 1), (1, tIst 3 2), (2, tIld 3 3), (3, tIld 1 4), (4, tIc_ge 45 7), (7, tAld 0 8), (8, tGetI 8 5 11), (11, tC (zi 24) 13), (13, tIc_ge 45 16), (16, tAld 0 17), (17, tGetR 8 7 20), (20, tAld 0 21), (21, tGetI 8 5 24), (24, tAal 31 25), (25, tIld 2 26), (26, tCall0 2 T0 (zRcv 7) 29), (29, tAld 0 30), (30, tDup 31), (31, tGetI 8 5 34), (34, tC (zi 1) 35), (35, tAdd 36), (36, tPutI 8 5 (fun _ => True) 39), (39, tInc 3 1 42), (42, tGo 2), (45, tRv)]
set_option maxRecDepth 100000 in
set_option maxHeartbeats 4000000 in
theorem hs_X5_putRows {l : Launch} (hl : l.stackTraces = false) {T0 : ZTf} (h0 : zMet l yX4_begin (Cond.code yX4_begin cX4_begin 2 (Option.none : Option Jvm.ClassFile.FieldType) :: zG) rm_X4_begin 0 0 T0) (p : Program) (e : Env) (s : State) (m : MethodId) (args : Array Value) (below : List Frame) (meth : Method) (c : Code) (D : va_G) (A : Nat → Prop) (a0 : Nat → Nat) (M0 : ZM) (K : ZRet) (KX : ZEx) (X : zCtx p l rm_X5_putRows s m args meth c cX5_putRows RX5 (Cond.code yX5_putRows cX5_putRows 4 (Option.none : Option Jvm.ClassFile.FieldType) :: zG) 4 (Option.none : Option Jvm.ClassFile.FieldType) D A a0 M0 0 0) (hnm : meth.name = yX5_putRows.name) (hout : ∀ x ∈ c.exceptionTable.toList, False) : ∀ q ∈ cd_X5_putRows T0, zSd p l e rm_X5_putRows s m args below meth c 4 D A a0 M0 K KX 0 0 q.1 q.2 :=
    zall_c (zs_iconst X (pc := 0) (by decide) (by decide +kernel)) <|
    zall_c (zs_istore_n X (pc := 1) (q := 3) rfl (by decide) (by decide +kernel)) <|
    zall_c (zs_iload_n X (pc := 2) (q := 3) rfl (by decide +kernel)) <|
    zall_c (zs_iload_n X (pc := 3) (q := 1) rfl (by decide +kernel)) <|
    zall_c (zs_icmp_ge X (pc := 4) (off := 41) (by decide +kernel) (by decide)) <|
    zall_c (zs_aload_n X (pc := 7) (q := 0) rfl (by decide +kernel)) <|
    zall_c (zs_geti X (pc := 8) zc_X5 (by decide) (zin ui_X5) (.tail _ gw_1_232) (by decide +kernel) (by decide +kernel)) <|
    zall_c (zs_bipush X (pc := 11) (by decide) (by decide +kernel) (by decide +kernel)) <|
    zall_c (zs_icmp_ge X (pc := 13) (off := 32) (by decide +kernel) (by decide)) <|
    zall_c (zs_aload_n X (pc := 16) (q := 0) rfl (by decide +kernel)) <|
    zall_c (zs_getr X (pc := 17) zc_X5 (by decide) (zin ui_X5) (.tail _ gw_1_237) (by decide +kernel) (by decide +kernel)) <|
    zall_c (zs_aload_n X (pc := 20) (q := 0) rfl (by decide +kernel)) <|
    zall_c (zs_geti X (pc := 21) zc_X5 (by decide) (zin ui_X5) (.tail _ gw_1_232) (by decide +kernel) (by decide +kernel)) <|
    zall_c (zs_aaload X (pc := 24) (by decide) rfl (by decide +kernel)) <|
    zall_c (zs_iload_n X (pc := 25) (q := 2) rfl (by decide +kernel)) <|
    zall_c (zs_callV0 X (pc := 26) zc_X4 (fun _ ht => ⟨(zCB ht gw_4_212 gw_1_10 gw_4_209 rfl rfl (by decide +kernel) ⟨Nat.le_of_ble_eq_true rfl, Nat.le_of_ble_eq_true rfl⟩), ht _ (.tail _ gw_4_210), ht _ (.tail _ gw_4_211)⟩) h0 hout (by decide +kernel)) <|
    zall_c (zs_aload_n X (pc := 29) (q := 0) rfl (by decide +kernel)) <|
    zall_c (zs_dup X (pc := 30) (by decide +kernel)) <|
    zall_c (zs_geti X (pc := 31) zc_X5 (by decide) (zin ui_X5) (.tail _ gw_1_232) (by decide +kernel) (by decide +kernel)) <|
    zall_c (zs_iconst X (pc := 34) (by decide) (by decide +kernel)) <|
    zall_c (zs_iadd X (pc := 35) (by decide +kernel)) <|
    zall_c (zs_puti X (pc := 36) (ty := Jvm.ClassFile.FieldType.int) zc_X5 (by decide) (zin ui_X5) tyX5_ok nmX5 (.tail _ gw_1_232) rfl (by decide +kernel) (by decide +kernel) (by decide +kernel) zP_int) <|
    zall_c (zs_iinc X (pc := 39) (by decide) (by decide +kernel)) <|
    zall_c (zs_goto X (pc := 42) (off := (-40)) (by decide +kernel) (by decide)) <|
    zall_c (zs_vret X (pc := 45) rfl (by decide +kernel)) <|
    zall_n
theorem met_X5_putRows {l : Launch} (hl : l.stackTraces = false) {T0 : ZTf} (h0 : zMet l yX4_begin (Cond.code yX4_begin cX4_begin 2 (Option.none : Option Jvm.ClassFile.FieldType) :: zG) rm_X4_begin 0 0 T0) {T : ZTf} (bd : zBd (cd_X5_putRows T0) 4 0 0 T) : zMet l yX5_putRows (Cond.code yX5_putRows cX5_putRows 4 (Option.none : Option Jvm.ClassFile.FieldType) :: zG) rm_X5_putRows 0 0 T := zMet_of hl (by decide +kernel) rfl rfl rfl rfl (hs_X5_putRows hl h0) bd

abbrev rm_X5_pairIndex : Room := { frames := 1, cells := 0, slots := 0, locals := 30 }
def cd_X5_pairIndex : List (Nat × ZTr) := [(0, tIld 0 1), (1, tIld 1 2), (2, tIc_ge 14 5), (5, tIld 0 6), (6, tC (zi 6) 8), (8, tMul 9), (9, tIld 1 10), (10, tAdd 11), (11, tGo 20), (14, tIld 1 15), (15, tC (zi 6) 17), (17, tMul 18), (18, tIld 0 19), (19, tAdd 20), (20, tRi (fun _ => True))]
set_option maxRecDepth 100000 in
set_option maxHeartbeats 4000000 in
theorem hs_X5_pairIndex {l : Launch} (hl : l.stackTraces = false) (p : Program) (e : Env) (s : State) (m : MethodId) (args : Array Value) (below : List Frame) (meth : Method) (c : Code) (D : va_G) (A : Nat → Prop) (a0 : Nat → Nat) (M0 : ZM) (K : ZRet) (KX : ZEx) (X : zCtx p l rm_X5_pairIndex s m args meth c cX5_pairIndex RX5 (Cond.code yX5_pairIndex cX5_pairIndex 2 (Option.some Jvm.ClassFile.FieldType.int) :: zG) 2 (Option.some Jvm.ClassFile.FieldType.int) D A a0 M0 0 0) (hnm : meth.name = yX5_pairIndex.name) (hout : ∀ x ∈ c.exceptionTable.toList, False) : ∀ q ∈ cd_X5_pairIndex, zSd p l e rm_X5_pairIndex s m args below meth c 2 D A a0 M0 K KX 0 0 q.1 q.2 :=
    zall_c (zs_iload_n X (pc := 0) (q := 0) rfl (by decide +kernel)) <|
    zall_c (zs_iload_n X (pc := 1) (q := 1) rfl (by decide +kernel)) <|
    zall_c (zs_icmp_ge X (pc := 2) (off := 12) (by decide +kernel) (by decide)) <|
    zall_c (zs_iload_n X (pc := 5) (q := 0) rfl (by decide +kernel)) <|
    zall_c (zs_bipush X (pc := 6) (by decide) (by decide +kernel) (by decide +kernel)) <|
    zall_c (zs_imul X (pc := 8) (by decide +kernel)) <|
    zall_c (zs_iload_n X (pc := 9) (q := 1) rfl (by decide +kernel)) <|
    zall_c (zs_iadd X (pc := 10) (by decide +kernel)) <|
    zall_c (zs_goto X (pc := 11) (off := 9) (by decide +kernel) (by decide)) <|
    zall_c (zs_iload_n X (pc := 14) (q := 1) rfl (by decide +kernel)) <|
    zall_c (zs_bipush X (pc := 15) (by decide) (by decide +kernel) (by decide +kernel)) <|
    zall_c (zs_imul X (pc := 17) (by decide +kernel)) <|
    zall_c (zs_iload_n X (pc := 18) (q := 0) rfl (by decide +kernel)) <|
    zall_c (zs_iadd X (pc := 19) (by decide +kernel)) <|
    zall_c (zs_iret X (pc := 20) rfl (by decide +kernel)) <|
    zall_n
theorem met_X5_pairIndex {l : Launch} (hl : l.stackTraces = false) {T : ZTf} (bd : zBd (cd_X5_pairIndex) 2 0 0 T) : zMet l yX5_pairIndex (Cond.code yX5_pairIndex cX5_pairIndex 2 (Option.some Jvm.ClassFile.FieldType.int) :: zG) rm_X5_pairIndex 0 0 T := zMet_of hl (by decide +kernel) rfl rfl rfl rfl (hs_X5_pairIndex hl) bd

abbrev rm_X5_tellApart : Room := { frames := 2, cells := 0, slots := 0, locals := 51 }
def cd_X5_tellApart (T0 : ZTf) : List (Nat × ZTr) := [(0, tIld 1 1), (1, tIld 2 2), (2, tCall0 2 T0 zAny 5), (5, tIst 4 7), (7, tAld 0 8), (8, tGetR 8 9 11), (11, tIld 4 13), (13, tIld 3 14), (14, tIf_eq 21 17), (17, tC (zi 1) 18), (18, tGo 22), (21, tC (zi 0) 22), (22, tIas 20 (fun _ => True) 23), (23, tAld 0 24), (24, tGetR 8 8 27), (27, tIld 4 29), (29, tC (zi 0) 30), (30, tIas 20 (fun _ => True) 31), (31, tRv)]
set_option maxRecDepth 100000 in
set_option maxHeartbeats 4000000 in
theorem hs_X5_tellApart {l : Launch} (hl : l.stackTraces = false) {T0 : ZTf} (h0 : zMet l yX5_pairIndex (Cond.code yX5_pairIndex cX5_pairIndex 2 (Option.some Jvm.ClassFile.FieldType.int) :: zG) rm_X5_pairIndex 0 0 T0) (p : Program) (e : Env) (s : State) (m : MethodId) (args : Array Value) (below : List Frame) (meth : Method) (c : Code) (D : va_G) (A : Nat → Prop) (a0 : Nat → Nat) (M0 : ZM) (K : ZRet) (KX : ZEx) (X : zCtx p l rm_X5_tellApart s m args meth c cX5_tellApart RX5 (Cond.code yX5_tellApart cX5_tellApart 5 (Option.none : Option Jvm.ClassFile.FieldType) :: zG) 5 (Option.none : Option Jvm.ClassFile.FieldType) D A a0 M0 0 0) (hnm : meth.name = yX5_tellApart.name) (hout : ∀ x ∈ c.exceptionTable.toList, False) : ∀ q ∈ cd_X5_tellApart T0, zSd p l e rm_X5_tellApart s m args below meth c 5 D A a0 M0 K KX 0 0 q.1 q.2 :=
    zall_c (zs_iload_n X (pc := 0) (q := 1) rfl (by decide +kernel)) <|
    zall_c (zs_iload_n X (pc := 1) (q := 2) rfl (by decide +kernel)) <|
    zall_c (zs_callS0 X (pc := 2) (fun _ ht => ⟨(zCB ht gw_4_229 gw_1_8 gw_4_227 rfl rfl (by decide +kernel) ⟨Nat.le_of_ble_eq_true rfl, Nat.le_of_ble_eq_true rfl⟩), ht _ (.tail _ gw_4_228)⟩) h0 hout (by decide +kernel)) <|
    zall_c (zs_istore X (pc := 5) (by decide) (by decide +kernel)) <|
    zall_c (zs_aload_n X (pc := 7) (q := 0) rfl (by decide +kernel)) <|
    zall_c (zs_getr X (pc := 8) zc_X5 (by decide) (zin ui_X5) (.tail _ gw_2_1) (by decide +kernel) (by decide +kernel)) <|
    zall_c (zs_iload X (pc := 11) (by decide +kernel)) <|
    zall_c (zs_iload_n X (pc := 13) (q := 3) rfl (by decide +kernel)) <|
    zall_c (zs_if_eq X (pc := 14) (off := 7) (by decide +kernel) (by decide)) <|
    zall_c (zs_iconst X (pc := 17) (by decide) (by decide +kernel)) <|
    zall_c (zs_goto X (pc := 18) (off := 4) (by decide +kernel) (by decide)) <|
    zall_c (zs_iconst X (pc := 21) (by decide) (by decide +kernel)) <|
    zall_c (zs_iastore20 X (pc := 22) (by decide +kernel)) <|
    zall_c (zs_aload_n X (pc := 23) (q := 0) rfl (by decide +kernel)) <|
    zall_c (zs_getr X (pc := 24) zc_X5 (by decide) (zin ui_X5) (.tail _ gw_1_239) (by decide +kernel) (by decide +kernel)) <|
    zall_c (zs_iload X (pc := 27) (by decide +kernel)) <|
    zall_c (zs_iconst X (pc := 29) (by decide) (by decide +kernel)) <|
    zall_c (zs_iastore20 X (pc := 30) (by decide +kernel)) <|
    zall_c (zs_vret X (pc := 31) rfl (by decide +kernel)) <|
    zall_n
theorem met_X5_tellApart {l : Launch} (hl : l.stackTraces = false) {T0 : ZTf} (h0 : zMet l yX5_pairIndex (Cond.code yX5_pairIndex cX5_pairIndex 2 (Option.some Jvm.ClassFile.FieldType.int) :: zG) rm_X5_pairIndex 0 0 T0) {T : ZTf} (bd : zBd (cd_X5_tellApart T0) 5 0 0 T) : zMet l yX5_tellApart (Cond.code yX5_tellApart cX5_tellApart 5 (Option.none : Option Jvm.ClassFile.FieldType) :: zG) rm_X5_tellApart 0 0 T := zMet_of hl (by decide +kernel) rfl rfl rfl rfl (hs_X5_tellApart hl h0) bd

abbrev rm_X5_areKeptApart : Room := { frames := 2, cells := 0, slots := 0, locals := 51 }
def cd_X5_areKeptApart (T0 : ZTf) : List (Nat × ZTr) := [(0, tIld 1 1), (1, tIld 2 2), (2, tCall0 2 T0 zAny 5), (5, tIst 3 6), (6, tAld 0 7), (7, tGetR 8 9 10), (10, tIld 3 11), (11, tIal 20 12), (12, tIf_ne 25 15), (15, tAld 0 16), (16, tGetR 8 8 19), (19, tIld 3 20), (20, tIal 20 21), (21, tC (zi 2) 22), (22, tIc_lt 29 25), (25, tC (zi 1) 26), (26, tGo 30), (29, tC (zi 0) 30), (30, tRi zPz)]
set_option maxRecDepth 100000 in
set_option maxHeartbeats 4000000 in
theorem hs_X5_areKeptApart {l : Launch} (hl : l.stackTraces = false) {T0 : ZTf} (h0 : zMet l yX5_pairIndex (Cond.code yX5_pairIndex cX5_pairIndex 2 (Option.some Jvm.ClassFile.FieldType.int) :: zG) rm_X5_pairIndex 0 0 T0) (p : Program) (e : Env) (s : State) (m : MethodId) (args : Array Value) (below : List Frame) (meth : Method) (c : Code) (D : va_G) (A : Nat → Prop) (a0 : Nat → Nat) (M0 : ZM) (K : ZRet) (KX : ZEx) (X : zCtx p l rm_X5_areKeptApart s m args meth c cX5_areKeptApart RX5 (Cond.code yX5_areKeptApart cX5_areKeptApart 4 (Option.some Jvm.ClassFile.FieldType.boolean) :: zG) 4 (Option.some Jvm.ClassFile.FieldType.boolean) D A a0 M0 0 0) (hnm : meth.name = yX5_areKeptApart.name) (hout : ∀ x ∈ c.exceptionTable.toList, False) : ∀ q ∈ cd_X5_areKeptApart T0, zSd p l e rm_X5_areKeptApart s m args below meth c 4 D A a0 M0 K KX 0 0 q.1 q.2 :=
    zall_c (zs_iload_n X (pc := 0) (q := 1) rfl (by decide +kernel)) <|
    zall_c (zs_iload_n X (pc := 1) (q := 2) rfl (by decide +kernel)) <|
    zall_c (zs_callS0 X (pc := 2) (fun _ ht => ⟨(zCB ht gw_4_229 gw_1_8 gw_4_227 rfl rfl (by decide +kernel) ⟨Nat.le_of_ble_eq_true rfl, Nat.le_of_ble_eq_true rfl⟩), ht _ (.tail _ gw_4_228)⟩) h0 hout (by decide +kernel)) <|
    zall_c (zs_istore_n X (pc := 5) (q := 3) rfl (by decide) (by decide +kernel)) <|
    zall_c (zs_aload_n X (pc := 6) (q := 0) rfl (by decide +kernel)) <|
    zall_c (zs_getr X (pc := 7) zc_X5 (by decide) (zin ui_X5) (.tail _ gw_2_1) (by decide +kernel) (by decide +kernel)) <|
    zall_c (zs_iload_n X (pc := 10) (q := 3) rfl (by decide +kernel)) <|
    zall_c (zs_iaload20 X (pc := 11) (by decide +kernel)) <|
    zall_c (zs_if_ne X (pc := 12) (off := 13) (by decide +kernel) (by decide)) <|
    zall_c (zs_aload_n X (pc := 15) (q := 0) rfl (by decide +kernel)) <|
    zall_c (zs_getr X (pc := 16) zc_X5 (by decide) (zin ui_X5) (.tail _ gw_1_239) (by decide +kernel) (by decide +kernel)) <|
    zall_c (zs_iload_n X (pc := 19) (q := 3) rfl (by decide +kernel)) <|
    zall_c (zs_iaload20 X (pc := 20) (by decide +kernel)) <|
    zall_c (zs_iconst X (pc := 21) (by decide) (by decide +kernel)) <|
    zall_c (zs_icmp_lt X (pc := 22) (off := 7) (by decide +kernel) (by decide)) <|
    zall_c (zs_iconst X (pc := 25) (by decide) (by decide +kernel)) <|
    zall_c (zs_goto X (pc := 26) (off := 4) (by decide +kernel) (by decide)) <|
    zall_c (zs_iconst X (pc := 29) (by decide) (by decide +kernel)) <|
    zall_c (zs_zret X (pc := 30) rfl zR_bool (by decide +kernel)) <|
    zall_n
theorem met_X5_areKeptApart {l : Launch} (hl : l.stackTraces = false) {T0 : ZTf} (h0 : zMet l yX5_pairIndex (Cond.code yX5_pairIndex cX5_pairIndex 2 (Option.some Jvm.ClassFile.FieldType.int) :: zG) rm_X5_pairIndex 0 0 T0) {T : ZTf} (bd : zBd (cd_X5_areKeptApart T0) 4 0 0 T) : zMet l yX5_areKeptApart (Cond.code yX5_areKeptApart cX5_areKeptApart 4 (Option.some Jvm.ClassFile.FieldType.boolean) :: zG) rm_X5_areKeptApart 0 0 T := zMet_of hl (by decide +kernel) rfl rfl rfl rfl (hs_X5_areKeptApart hl h0) bd

abbrev rm_X5_agree : Room := { frames := 1, cells := 0, slots := 0, locals := 30 }
def cd_X5_agree : List (Nat × ZTr) := [(0, tIld 1 1), (1, tIld 2 2), (2, tSub 3), (3, tMth1 6), (6, tAld 0 7), (7, tGetI 8 0 10), (10, tIc_gt 17 13), (13, tC (zi 1) 14), (14, tGo 18), (17, tC (zi 0) 18), (18, tRi zPz)]
set_option maxRecDepth 100000 in
set_option maxHeartbeats 4000000 in
theorem hs_X5_agree {l : Launch} (hl : l.stackTraces = false) (p : Program) (e : Env) (s : State) (m : MethodId) (args : Array Value) (below : List Frame) (meth : Method) (c : Code) (D : va_G) (A : Nat → Prop) (a0 : Nat → Nat) (M0 : ZM) (K : ZRet) (KX : ZEx) (X : zCtx p l rm_X5_agree s m args meth c cX5_agree RX5 (Cond.code yX5_agree cX5_agree 3 (Option.some Jvm.ClassFile.FieldType.boolean) :: zG) 3 (Option.some Jvm.ClassFile.FieldType.boolean) D A a0 M0 0 0) (hnm : meth.name = yX5_agree.name) (hout : ∀ x ∈ c.exceptionTable.toList, False) : ∀ q ∈ cd_X5_agree, zSd p l e rm_X5_agree s m args below meth c 3 D A a0 M0 K KX 0 0 q.1 q.2 :=
    zall_c (zs_iload_n X (pc := 0) (q := 1) rfl (by decide +kernel)) <|
    zall_c (zs_iload_n X (pc := 1) (q := 2) rfl (by decide +kernel)) <|
    zall_c (zs_isub X (pc := 2) (by decide +kernel)) <|
    zall_c (zs_mabs X (pc := 3) (.tail _ gw_5_191) (.tail _ gw_5_192) (.tail _ gw_1_14) (.tail _ gw_5_193) (Nat.le_of_ble_eq_true rfl) (Nat.le_of_ble_eq_true rfl) (by decide +kernel)) <|
    zall_c (zs_aload_n X (pc := 6) (q := 0) rfl (by decide +kernel)) <|
    zall_c (zs_geti X (pc := 7) zc_X5 (by decide) (zin ui_X5) (.tail _ gw_1_218) (by decide +kernel) (by decide +kernel)) <|
    zall_c (zs_icmp_gt X (pc := 10) (off := 7) (by decide +kernel) (by decide)) <|
    zall_c (zs_iconst X (pc := 13) (by decide) (by decide +kernel)) <|
    zall_c (zs_goto X (pc := 14) (off := 4) (by decide +kernel) (by decide)) <|
    zall_c (zs_iconst X (pc := 17) (by decide) (by decide +kernel)) <|
    zall_c (zs_zret X (pc := 18) rfl zR_bool (by decide +kernel)) <|
    zall_n
theorem met_X5_agree {l : Launch} (hl : l.stackTraces = false) {T : ZTf} (bd : zBd (cd_X5_agree) 3 0 0 T) : zMet l yX5_agree (Cond.code yX5_agree cX5_agree 3 (Option.some Jvm.ClassFile.FieldType.boolean) :: zG) rm_X5_agree 0 0 T := zMet_of hl (by decide +kernel) rfl rfl rfl rfl (hs_X5_agree hl) bd

abbrev rm_X5_isSuspended : Room := { frames := 1, cells := 0, slots := 0, locals := 30 }
def cd_X5_isSuspended : List (Nat × ZTr) := [(0, tAld 0 1), (1, tGetR 8 6 4), (4, tIld 1 5), (5, tAal 30 6), (6, tGetI 10 3 9), (9, tAld 0 10), (10, tGetI 8 2 13), (13, tIc_ge 20 16), (16, tC (zi 1) 17), (17, tGo 21), (20, tC (zi 0) 21), (21, tRi zPz)]
set_option maxRecDepth 100000 in
set_option maxHeartbeats 4000000 in
theorem hs_X5_isSuspended {l : Launch} (hl : l.stackTraces = false) (p : Program) (e : Env) (s : State) (m : MethodId) (args : Array Value) (below : List Frame) (meth : Method) (c : Code) (D : va_G) (A : Nat → Prop) (a0 : Nat → Nat) (M0 : ZM) (K : ZRet) (KX : ZEx) (X : zCtx p l rm_X5_isSuspended s m args meth c cX5_isSuspended RX5 (Cond.code yX5_isSuspended cX5_isSuspended 2 (Option.some Jvm.ClassFile.FieldType.boolean) :: zG) 2 (Option.some Jvm.ClassFile.FieldType.boolean) D A a0 M0 0 0) (hnm : meth.name = yX5_isSuspended.name) (hout : ∀ x ∈ c.exceptionTable.toList, False) : ∀ q ∈ cd_X5_isSuspended, zSd p l e rm_X5_isSuspended s m args below meth c 2 D A a0 M0 K KX 0 0 q.1 q.2 :=
    zall_c (zs_aload_n X (pc := 0) (q := 0) rfl (by decide +kernel)) <|
    zall_c (zs_getr X (pc := 1) zc_X5 (by decide) (zin ui_X5) (.tail _ gw_1_234) (by decide +kernel) (by decide +kernel)) <|
    zall_c (zs_iload_n X (pc := 4) (q := 1) rfl (by decide +kernel)) <|
    zall_c (zs_aaload X (pc := 5) (by decide) rfl (by decide +kernel)) <|
    zall_c (zs_geti X (pc := 6) zc_X7 (by decide) (zin ui_X7) (.tail _ gw_1_123) (by decide +kernel) (by decide +kernel)) <|
    zall_c (zs_aload_n X (pc := 9) (q := 0) rfl (by decide +kernel)) <|
    zall_c (zs_geti X (pc := 10) zc_X5 (by decide) (zin ui_X5) (.tail _ gw_1_224) (by decide +kernel) (by decide +kernel)) <|
    zall_c (zs_icmp_ge X (pc := 13) (off := 7) (by decide +kernel) (by decide)) <|
    zall_c (zs_iconst X (pc := 16) (by decide) (by decide +kernel)) <|
    zall_c (zs_goto X (pc := 17) (off := 4) (by decide +kernel) (by decide)) <|
    zall_c (zs_iconst X (pc := 20) (by decide) (by decide +kernel)) <|
    zall_c (zs_zret X (pc := 21) rfl zR_bool (by decide +kernel)) <|
    zall_n
theorem met_X5_isSuspended {l : Launch} (hl : l.stackTraces = false) {T : ZTf} (bd : zBd (cd_X5_isSuspended) 2 0 0 T) : zMet l yX5_isSuspended (Cond.code yX5_isSuspended cX5_isSuspended 2 (Option.some Jvm.ClassFile.FieldType.boolean) :: zG) rm_X5_isSuspended 0 0 T := zMet_of hl (by decide +kernel) rfl rfl rfl rfl (hs_X5_isSuspended hl) bd

abbrev rm_X5_countAudited : Room := { frames := 1, cells := 0, slots := 0, locals := 30 }
def cd_X5_countAudited : List (Nat × ZTr) := [(0, tC (zi 0) 1), (1, tIst 1 2), (2, tC (zi 0) 3), (3, tIst 2 4), (4, tIld 2 5), (5, tAld 0 6), (6, tGetI 8 5 9), (9, tIc_ge 33 12), (12, tAld 0 13), (13, tGetR 8 7 16), (16, tIld 2 17), (17, tAal 31 18), (18, tGetI 7 3 21), (21, tIf_eq 27 24), (24, tInc 1 1 27), (27, tInc 2 1 30), (30, tGo 4), (33, tIld 1 34), (34, tRi (fun _ => True))]
set_option maxRecDepth 100000 in
set_option maxHeartbeats 4000000 in
theorem hs_X5_countAudited {l : Launch} (hl : l.stackTraces = false) (p : Program) (e : Env) (s : State) (m : MethodId) (args : Array Value) (below : List Frame) (meth : Method) (c : Code) (D : va_G) (A : Nat → Prop) (a0 : Nat → Nat) (M0 : ZM) (K : ZRet) (KX : ZEx) (X : zCtx p l rm_X5_countAudited s m args meth c cX5_countAudited RX5 (Cond.code yX5_countAudited cX5_countAudited 3 (Option.some Jvm.ClassFile.FieldType.int) :: zG) 3 (Option.some Jvm.ClassFile.FieldType.int) D A a0 M0 0 0) (hnm : meth.name = yX5_countAudited.name) (hout : ∀ x ∈ c.exceptionTable.toList, False) : ∀ q ∈ cd_X5_countAudited, zSd p l e rm_X5_countAudited s m args below meth c 3 D A a0 M0 K KX 0 0 q.1 q.2 :=
    zall_c (zs_iconst X (pc := 0) (by decide) (by decide +kernel)) <|
    zall_c (zs_istore_n X (pc := 1) (q := 1) rfl (by decide) (by decide +kernel)) <|
    zall_c (zs_iconst X (pc := 2) (by decide) (by decide +kernel)) <|
    zall_c (zs_istore_n X (pc := 3) (q := 2) rfl (by decide) (by decide +kernel)) <|
    zall_c (zs_iload_n X (pc := 4) (q := 2) rfl (by decide +kernel)) <|
    zall_c (zs_aload_n X (pc := 5) (q := 0) rfl (by decide +kernel)) <|
    zall_c (zs_geti X (pc := 6) zc_X5 (by decide) (zin ui_X5) (.tail _ gw_1_232) (by decide +kernel) (by decide +kernel)) <|
    zall_c (zs_icmp_ge X (pc := 9) (off := 24) (by decide +kernel) (by decide)) <|
    zall_c (zs_aload_n X (pc := 12) (q := 0) rfl (by decide +kernel)) <|
    zall_c (zs_getr X (pc := 13) zc_X5 (by decide) (zin ui_X5) (.tail _ gw_1_237) (by decide +kernel) (by decide +kernel)) <|
    zall_c (zs_iload_n X (pc := 16) (q := 2) rfl (by decide +kernel)) <|
    zall_c (zs_aaload X (pc := 17) (by decide) rfl (by decide +kernel)) <|
    zall_c (zs_geti X (pc := 18) zc_X4 (by decide) (zin ui_X4) (.tail _ gw_1_180) (by decide +kernel) (by decide +kernel)) <|
    zall_c (zs_if_eq X (pc := 21) (off := 6) (by decide +kernel) (by decide)) <|
    zall_c (zs_iinc X (pc := 24) (by decide) (by decide +kernel)) <|
    zall_c (zs_iinc X (pc := 27) (by decide) (by decide +kernel)) <|
    zall_c (zs_goto X (pc := 30) (off := (-26)) (by decide +kernel) (by decide)) <|
    zall_c (zs_iload_n X (pc := 33) (q := 1) rfl (by decide +kernel)) <|
    zall_c (zs_iret X (pc := 34) rfl (by decide +kernel)) <|
    zall_n
theorem met_X5_countAudited {l : Launch} (hl : l.stackTraces = false) {T : ZTf} (bd : zBd (cd_X5_countAudited) 3 0 0 T) : zMet l yX5_countAudited (Cond.code yX5_countAudited cX5_countAudited 3 (Option.some Jvm.ClassFile.FieldType.int) :: zG) rm_X5_countAudited 0 0 T := zMet_of hl (by decide +kernel) rfl rfl rfl rfl (hs_X5_countAudited hl) bd

abbrev rm_X5_countInState : Room := { frames := 1, cells := 0, slots := 0, locals := 30 }
def cd_X5_countInState : List (Nat × ZTr) := [(0, tC (zi 0) 1), (1, tIst 2 2), (2, tC (zi 0) 3), (3, tIst 3 4), (4, tIld 3 5), (5, tAld 0 6), (6, tGetI 8 5 9), (9, tIc_ge 34 12), (12, tAld 0 13), (13, tGetR 8 7 16), (16, tIld 3 17), (17, tAal 31 18), (18, tGetI 7 1 21), (21, tIld 1 22), (22, tIc_ne 28 25), (25, tInc 2 1 28), (28, tInc 3 1 31), (31, tGo 4), (34, tIld 2 35), (35, tRi (fun _ => True))]
set_option maxRecDepth 100000 in
set_option maxHeartbeats 4000000 in
theorem hs_X5_countInState {l : Launch} (hl : l.stackTraces = false) (p : Program) (e : Env) (s : State) (m : MethodId) (args : Array Value) (below : List Frame) (meth : Method) (c : Code) (D : va_G) (A : Nat → Prop) (a0 : Nat → Nat) (M0 : ZM) (K : ZRet) (KX : ZEx) (X : zCtx p l rm_X5_countInState s m args meth c cX5_countInState RX5 (Cond.code yX5_countInState cX5_countInState 4 (Option.some Jvm.ClassFile.FieldType.int) :: zG) 4 (Option.some Jvm.ClassFile.FieldType.int) D A a0 M0 0 0) (hnm : meth.name = yX5_countInState.name) (hout : ∀ x ∈ c.exceptionTable.toList, False) : ∀ q ∈ cd_X5_countInState, zSd p l e rm_X5_countInState s m args below meth c 4 D A a0 M0 K KX 0 0 q.1 q.2 :=
    zall_c (zs_iconst X (pc := 0) (by decide) (by decide +kernel)) <|
    zall_c (zs_istore_n X (pc := 1) (q := 2) rfl (by decide) (by decide +kernel)) <|
    zall_c (zs_iconst X (pc := 2) (by decide) (by decide +kernel)) <|
    zall_c (zs_istore_n X (pc := 3) (q := 3) rfl (by decide) (by decide +kernel)) <|
    zall_c (zs_iload_n X (pc := 4) (q := 3) rfl (by decide +kernel)) <|
    zall_c (zs_aload_n X (pc := 5) (q := 0) rfl (by decide +kernel)) <|
    zall_c (zs_geti X (pc := 6) zc_X5 (by decide) (zin ui_X5) (.tail _ gw_1_232) (by decide +kernel) (by decide +kernel)) <|
    zall_c (zs_icmp_ge X (pc := 9) (off := 25) (by decide +kernel) (by decide)) <|
    zall_c (zs_aload_n X (pc := 12) (q := 0) rfl (by decide +kernel)) <|
    zall_c (zs_getr X (pc := 13) zc_X5 (by decide) (zin ui_X5) (.tail _ gw_1_237) (by decide +kernel) (by decide +kernel)) <|
    zall_c (zs_iload_n X (pc := 16) (q := 3) rfl (by decide +kernel)) <|
    zall_c (zs_aaload X (pc := 17) (by decide) rfl (by decide +kernel)) <|
    zall_c (zs_geti X (pc := 18) zc_X4 (by decide) (zin ui_X4) (.tail _ gw_1_174) (by decide +kernel) (by decide +kernel)) <|
    zall_c (zs_iload_n X (pc := 21) (q := 1) rfl (by decide +kernel)) <|
    zall_c (zs_icmp_ne X (pc := 22) (off := 6) (by decide +kernel) (by decide)) <|
    zall_c (zs_iinc X (pc := 25) (by decide) (by decide +kernel)) <|
    zall_c (zs_iinc X (pc := 28) (by decide) (by decide +kernel)) <|
    zall_c (zs_goto X (pc := 31) (off := (-27)) (by decide +kernel) (by decide)) <|
    zall_c (zs_iload_n X (pc := 34) (q := 2) rfl (by decide +kernel)) <|
    zall_c (zs_iret X (pc := 35) rfl (by decide +kernel)) <|
    zall_n
theorem met_X5_countInState {l : Launch} (hl : l.stackTraces = false) {T : ZTf} (bd : zBd (cd_X5_countInState) 4 0 0 T) : zMet l yX5_countInState (Cond.code yX5_countInState cX5_countInState 4 (Option.some Jvm.ClassFile.FieldType.int) :: zG) rm_X5_countInState 0 0 T := zMet_of hl (by decide +kernel) rfl rfl rfl rfl (hs_X5_countInState hl) bd

abbrev rm_X5_clashWith : Room := { frames := 3, cells := 0, slots := 0, locals := 74 }
def cd_X5_clashWith (T0 : ZTf) (T1 : ZTf) : List (Nat × ZTr) := [(0, tAld 2 1), (1, tGetI 7 5 4), (4, tC (zi 1) 5), (5, tIld 1 6), (6, tBif zshl 7), (7, tBif zand 8), (8, tIf_eq 13 11), (11, tC (zi 4) 12), (12, tRi (fun _ => True)), (13, tC (zi 0) 14), (14, tIst 3 15), (15, tC (zi 0) 16), (16, tIst 4 18), (18, tIld 4 20), (20, tAld 2 21), (21, tGetI 7 8 24), (24, tIc_ge 78 27), (27, tAld 2 28), (28, tIld 4 30), (30, tCall0 2 T0 (zRcv 7) 33), (33, tIst 5 35), (35, tAld 0 36), (36, tGetR 8 6 39), (39, tIld 5 41), (41, tAal 30 42), (42, tGetI 10 1 45), (45, tAld 0 46), (46, tGetR 8 6 49), (49, tIld 1 50), (50, tAal 30 51), (51, tGetI 10 1 54), (54, tIc_ne 59 57), (57, tC (zi 5) 58), (58, tRi (fun _ => True)), (59, tAld 0 60), (60, tIld 1 61), (61, tIld 5 63), (63, tCall0 3 T1 (zRcv 8) 66), (66, tIf_eq 72 69), (69, tC (zi 6) 71), (71, tIst 3 72), (72, tInc 4 1 75), (75, tGo 18), (78, tIld 3 79), (79, tRi (fun _ => True))]
set_option maxRecDepth 100000 in
set_option maxHeartbeats 4000000 in
theorem hs_X5_clashWith {l : Launch} (hl : l.stackTraces = false) {T0 : ZTf} {T1 : ZTf} (h0 : zMet l yX4_workerAt (Cond.code yX4_workerAt cX4_workerAt 2 (Option.some Jvm.ClassFile.FieldType.int) :: zG) rm_X4_workerAt 0 0 T0) (h1 : zMet l yX5_areKeptApart (Cond.code yX5_areKeptApart cX5_areKeptApart 4 (Option.some Jvm.ClassFile.FieldType.boolean) :: zG) rm_X5_areKeptApart 0 0 T1) (p : Program) (e : Env) (s : State) (m : MethodId) (args : Array Value) (below : List Frame) (meth : Method) (c : Code) (D : va_G) (A : Nat → Prop) (a0 : Nat → Nat) (M0 : ZM) (K : ZRet) (KX : ZEx) (X : zCtx p l rm_X5_clashWith s m args meth c cX5_clashWith RX5 (Cond.code yX5_clashWith cX5_clashWith 6 (Option.some Jvm.ClassFile.FieldType.int) :: zG) 6 (Option.some Jvm.ClassFile.FieldType.int) D A a0 M0 0 0) (hnm : meth.name = yX5_clashWith.name) (hout : ∀ x ∈ c.exceptionTable.toList, False) : ∀ q ∈ cd_X5_clashWith T0 T1, zSd p l e rm_X5_clashWith s m args below meth c 6 D A a0 M0 K KX 0 0 q.1 q.2 :=
    zall_c (zs_aload_n X (pc := 0) (q := 2) rfl (by decide +kernel)) <|
    zall_c (zs_geti X (pc := 1) zc_X4 (by decide) (zin ui_X4) (.tail _ gw_1_185) (by decide +kernel) (by decide +kernel)) <|
    zall_c (zs_iconst X (pc := 4) (by decide) (by decide +kernel)) <|
    zall_c (zs_iload_n X (pc := 5) (q := 1) rfl (by decide +kernel)) <|
    zall_c (zs_ishl X (pc := 6) (by decide +kernel)) <|
    zall_c (zs_iand X (pc := 7) (by decide +kernel)) <|
    zall_c (zs_if_eq X (pc := 8) (off := 5) (by decide +kernel) (by decide)) <|
    zall_c (zs_iconst X (pc := 11) (by decide) (by decide +kernel)) <|
    zall_c (zs_iret X (pc := 12) rfl (by decide +kernel)) <|
    zall_c (zs_iconst X (pc := 13) (by decide) (by decide +kernel)) <|
    zall_c (zs_istore_n X (pc := 14) (q := 3) rfl (by decide) (by decide +kernel)) <|
    zall_c (zs_iconst X (pc := 15) (by decide) (by decide +kernel)) <|
    zall_c (zs_istore X (pc := 16) (by decide) (by decide +kernel)) <|
    zall_c (zs_iload X (pc := 18) (by decide +kernel)) <|
    zall_c (zs_aload_n X (pc := 20) (q := 2) rfl (by decide +kernel)) <|
    zall_c (zs_geti X (pc := 21) zc_X4 (by decide) (zin ui_X4) (.tail _ gw_1_195) (by decide +kernel) (by decide +kernel)) <|
    zall_c (zs_icmp_ge X (pc := 24) (off := 54) (by decide +kernel) (by decide)) <|
    zall_c (zs_aload_n X (pc := 27) (q := 2) rfl (by decide +kernel)) <|
    zall_c (zs_iload X (pc := 28) (by decide +kernel)) <|
    zall_c (zs_callV0 X (pc := 30) zc_X4 (fun _ ht => ⟨(zCB ht gw_5_80 gw_1_10 gw_5_133 rfl rfl (by decide +kernel) ⟨Nat.le_of_ble_eq_true rfl, Nat.le_of_ble_eq_true rfl⟩), ht _ (.tail _ gw_5_78), ht _ (.tail _ gw_5_79)⟩) h0 hout (by decide +kernel)) <|
    zall_c (zs_istore X (pc := 33) (by decide) (by decide +kernel)) <|
    zall_c (zs_aload_n X (pc := 35) (q := 0) rfl (by decide +kernel)) <|
    zall_c (zs_getr X (pc := 36) zc_X5 (by decide) (zin ui_X5) (.tail _ gw_1_234) (by decide +kernel) (by decide +kernel)) <|
    zall_c (zs_iload X (pc := 39) (by decide +kernel)) <|
    zall_c (zs_aaload X (pc := 41) (by decide) rfl (by decide +kernel)) <|
    zall_c (zs_geti X (pc := 42) zc_X7 (by decide) (zin ui_X7) (.tail _ gw_1_116) (by decide +kernel) (by decide +kernel)) <|
    zall_c (zs_aload_n X (pc := 45) (q := 0) rfl (by decide +kernel)) <|
    zall_c (zs_getr X (pc := 46) zc_X5 (by decide) (zin ui_X5) (.tail _ gw_1_234) (by decide +kernel) (by decide +kernel)) <|
    zall_c (zs_iload_n X (pc := 49) (q := 1) rfl (by decide +kernel)) <|
    zall_c (zs_aaload X (pc := 50) (by decide) rfl (by decide +kernel)) <|
    zall_c (zs_geti X (pc := 51) zc_X7 (by decide) (zin ui_X7) (.tail _ gw_1_116) (by decide +kernel) (by decide +kernel)) <|
    zall_c (zs_icmp_ne X (pc := 54) (off := 5) (by decide +kernel) (by decide)) <|
    zall_c (zs_iconst X (pc := 57) (by decide) (by decide +kernel)) <|
    zall_c (zs_iret X (pc := 58) rfl (by decide +kernel)) <|
    zall_c (zs_aload_n X (pc := 59) (q := 0) rfl (by decide +kernel)) <|
    zall_c (zs_iload_n X (pc := 60) (q := 1) rfl (by decide +kernel)) <|
    zall_c (zs_iload X (pc := 61) (by decide +kernel)) <|
    zall_c (zs_callV0 X (pc := 63) zc_X5 (fun _ ht => ⟨(zCB ht gw_4_226 gw_1_8 gw_5_134 rfl rfl (by decide +kernel) ⟨Nat.le_of_ble_eq_true rfl, Nat.le_of_ble_eq_true rfl⟩), ht _ (.tail _ gw_4_224), ht _ (.tail _ gw_4_225)⟩) h1 hout (by decide +kernel)) <|
    zall_c (zs_if_eq X (pc := 66) (off := 6) (by decide +kernel) (by decide)) <|
    zall_c (zs_bipush X (pc := 69) (by decide) (by decide +kernel) (by decide +kernel)) <|
    zall_c (zs_istore_n X (pc := 71) (q := 3) rfl (by decide) (by decide +kernel)) <|
    zall_c (zs_iinc X (pc := 72) (by decide) (by decide +kernel)) <|
    zall_c (zs_goto X (pc := 75) (off := (-57)) (by decide +kernel) (by decide)) <|
    zall_c (zs_iload_n X (pc := 78) (q := 3) rfl (by decide +kernel)) <|
    zall_c (zs_iret X (pc := 79) rfl (by decide +kernel)) <|
    zall_n
theorem met_X5_clashWith {l : Launch} (hl : l.stackTraces = false) {T0 : ZTf} {T1 : ZTf} (h0 : zMet l yX4_workerAt (Cond.code yX4_workerAt cX4_workerAt 2 (Option.some Jvm.ClassFile.FieldType.int) :: zG) rm_X4_workerAt 0 0 T0) (h1 : zMet l yX5_areKeptApart (Cond.code yX5_areKeptApart cX5_areKeptApart 4 (Option.some Jvm.ClassFile.FieldType.boolean) :: zG) rm_X5_areKeptApart 0 0 T1) {T : ZTf} (bd : zBd (cd_X5_clashWith T0 T1) 6 0 0 T) : zMet l yX5_clashWith (Cond.code yX5_clashWith cX5_clashWith 6 (Option.some Jvm.ClassFile.FieldType.int) :: zG) rm_X5_clashWith 0 0 T := zMet_of hl (by decide +kernel) rfl rfl rfl rfl (hs_X5_clashWith hl h0 h1) bd

abbrev rm_X5_urgency : Room := { frames := 1, cells := 0, slots := 0, locals := 30 }
def cd_X5_urgency : List (Nat × ZTr) := [(0, tAld 0 1), (1, tGetI 7 1 4), (4, tC (zi 1) 5), (5, tIc_ne 10 8), (8, tC (zi 2) 9), (9, tRi (fun _ => True)), (10, tAld 0 11), (11, tGetI 7 8 14), (14, tIf_le 21 17), (17, tC (zi 1) 18), (18, tGo 22), (21, tC (zi 0) 22), (22, tRi (fun _ => True))]
set_option maxRecDepth 100000 in
set_option maxHeartbeats 4000000 in
theorem hs_X5_urgency {l : Launch} (hl : l.stackTraces = false) (p : Program) (e : Env) (s : State) (m : MethodId) (args : Array Value) (below : List Frame) (meth : Method) (c : Code) (D : va_G) (A : Nat → Prop) (a0 : Nat → Nat) (M0 : ZM) (K : ZRet) (KX : ZEx) (X : zCtx p l rm_X5_urgency s m args meth c cX5_urgency RX5 (Cond.code yX5_urgency cX5_urgency 1 (Option.some Jvm.ClassFile.FieldType.int) :: zG) 1 (Option.some Jvm.ClassFile.FieldType.int) D A a0 M0 0 0) (hnm : meth.name = yX5_urgency.name) (hout : ∀ x ∈ c.exceptionTable.toList, False) : ∀ q ∈ cd_X5_urgency, zSd p l e rm_X5_urgency s m args below meth c 1 D A a0 M0 K KX 0 0 q.1 q.2 :=
    zall_c (zs_aload_n X (pc := 0) (q := 0) rfl (by decide +kernel)) <|
    zall_c (zs_geti X (pc := 1) zc_X4 (by decide) (zin ui_X4) (.tail _ gw_1_174) (by decide +kernel) (by decide +kernel)) <|
    zall_c (zs_iconst X (pc := 4) (by decide) (by decide +kernel)) <|
    zall_c (zs_icmp_ne X (pc := 5) (off := 5) (by decide +kernel) (by decide)) <|
    zall_c (zs_iconst X (pc := 8) (by decide) (by decide +kernel)) <|
    zall_c (zs_iret X (pc := 9) rfl (by decide +kernel)) <|
    zall_c (zs_aload_n X (pc := 10) (q := 0) rfl (by decide +kernel)) <|
    zall_c (zs_geti X (pc := 11) zc_X4 (by decide) (zin ui_X4) (.tail _ gw_1_195) (by decide +kernel) (by decide +kernel)) <|
    zall_c (zs_if_le X (pc := 14) (off := 7) (by decide +kernel) (by decide)) <|
    zall_c (zs_iconst X (pc := 17) (by decide) (by decide +kernel)) <|
    zall_c (zs_goto X (pc := 18) (off := 4) (by decide +kernel) (by decide)) <|
    zall_c (zs_iconst X (pc := 21) (by decide) (by decide +kernel)) <|
    zall_c (zs_iret X (pc := 22) rfl (by decide +kernel)) <|
    zall_n
theorem met_X5_urgency {l : Launch} (hl : l.stackTraces = false) {T : ZTf} (bd : zBd (cd_X5_urgency) 1 0 0 T) : zMet l yX5_urgency (Cond.code yX5_urgency cX5_urgency 1 (Option.some Jvm.ClassFile.FieldType.int) :: zG) rm_X5_urgency 0 0 T := zMet_of hl (by decide +kernel) rfl rfl rfl rfl (hs_X5_urgency hl) bd

abbrev rm_X5_enterResult : Room := { frames := 2, cells := 0, slots := 0, locals := 52 }
def cd_X5_enterResult (T0 : ZTf) (T1 : ZTf) : List (Nat × ZTr) := [(0, tAld 0 1), (1, tGetR 8 6 4), (4, tAld 0 5), (5, tGetR 8 7 8), (8, tIld 1 9), (9, tAal 31 10), (10, tIld 2 11), (11, tCall0 2 T0 (zRcv 7) 14), (14, tAal 30 15), (15, tAst 4 17), (17, tAld 4 19), (19, tDup 20), (20, tGetI 10 4 23), (23, tC (zi 1) 24), (24, tSub 25), (25, tPutI 10 4 (fun _ => True) 28), (28, tAld 4 30), (30, tDup 31), (31, tGetI 10 6 34), (34, tC (zi 1) 35), (35, tAdd 36), (36, tPutI 10 6 (fun _ => True) 39), (39, tAld 0 40), (40, tGetR 8 7 43), (43, tIld 1 44), (44, tAal 31 45), (45, tIld 2 46), (46, tIld 3 47), (47, tCall0 3 T1 (zRcv 7) 50), (50, tRv)]
set_option maxRecDepth 100000 in
set_option maxHeartbeats 4000000 in
theorem hs_X5_enterResult {l : Launch} (hl : l.stackTraces = false) {T0 : ZTf} {T1 : ZTf} (h0 : zMet l yX4_workerAt (Cond.code yX4_workerAt cX4_workerAt 2 (Option.some Jvm.ClassFile.FieldType.int) :: zG) rm_X4_workerAt 0 0 T0) (h1 : zMet l yX4_enterResult (Cond.code yX4_enterResult cX4_enterResult 3 (Option.none : Option Jvm.ClassFile.FieldType) :: zG) rm_X4_enterResult 0 0 T1) (p : Program) (e : Env) (s : State) (m : MethodId) (args : Array Value) (below : List Frame) (meth : Method) (c : Code) (D : va_G) (A : Nat → Prop) (a0 : Nat → Nat) (M0 : ZM) (K : ZRet) (KX : ZEx) (X : zCtx p l rm_X5_enterResult s m args meth c cX5_enterResult RX5 (Cond.code yX5_enterResult cX5_enterResult 5 (Option.none : Option Jvm.ClassFile.FieldType) :: zG) 5 (Option.none : Option Jvm.ClassFile.FieldType) D A a0 M0 0 0) (hnm : meth.name = yX5_enterResult.name) (hout : ∀ x ∈ c.exceptionTable.toList, False) : ∀ q ∈ cd_X5_enterResult T0 T1, zSd p l e rm_X5_enterResult s m args below meth c 5 D A a0 M0 K KX 0 0 q.1 q.2 :=
    zall_c (zs_aload_n X (pc := 0) (q := 0) rfl (by decide +kernel)) <|
    zall_c (zs_getr X (pc := 1) zc_X5 (by decide) (zin ui_X5) (.tail _ gw_1_234) (by decide +kernel) (by decide +kernel)) <|
    zall_c (zs_aload_n X (pc := 4) (q := 0) rfl (by decide +kernel)) <|
    zall_c (zs_getr X (pc := 5) zc_X5 (by decide) (zin ui_X5) (.tail _ gw_1_237) (by decide +kernel) (by decide +kernel)) <|
    zall_c (zs_iload_n X (pc := 8) (q := 1) rfl (by decide +kernel)) <|
    zall_c (zs_aaload X (pc := 9) (by decide) rfl (by decide +kernel)) <|
    zall_c (zs_iload_n X (pc := 10) (q := 2) rfl (by decide +kernel)) <|
    zall_c (zs_callV0 X (pc := 11) zc_X4 (fun _ ht => ⟨(zCB ht gw_5_80 gw_1_10 gw_5_133 rfl rfl (by decide +kernel) ⟨Nat.le_of_ble_eq_true rfl, Nat.le_of_ble_eq_true rfl⟩), ht _ (.tail _ gw_5_78), ht _ (.tail _ gw_5_79)⟩) h0 hout (by decide +kernel)) <|
    zall_c (zs_aaload X (pc := 14) (by decide) rfl (by decide +kernel)) <|
    zall_c (zs_astore X (pc := 15) (by decide) (by decide +kernel)) <|
    zall_c (zs_aload X (pc := 17) (by decide +kernel)) <|
    zall_c (zs_dup X (pc := 19) (by decide +kernel)) <|
    zall_c (zs_geti X (pc := 20) zc_X7 (by decide) (zin ui_X7) (.tail _ gw_1_126) (by decide +kernel) (by decide +kernel)) <|
    zall_c (zs_iconst X (pc := 23) (by decide) (by decide +kernel)) <|
    zall_c (zs_isub X (pc := 24) (by decide +kernel)) <|
    zall_c (zs_puti X (pc := 25) (ty := Jvm.ClassFile.FieldType.int) zc_X7 (by decide) (zin ui_X7) tyX7_ok nmX7 (.tail _ gw_1_126) rfl (by decide +kernel) (by decide +kernel) (by decide +kernel) zP_int) <|
    zall_c (zs_aload X (pc := 28) (by decide +kernel)) <|
    zall_c (zs_dup X (pc := 30) (by decide +kernel)) <|
    zall_c (zs_geti X (pc := 31) zc_X7 (by decide) (zin ui_X7) (.tail _ gw_1_132) (by decide +kernel) (by decide +kernel)) <|
    zall_c (zs_iconst X (pc := 34) (by decide) (by decide +kernel)) <|
    zall_c (zs_iadd X (pc := 35) (by decide +kernel)) <|
    zall_c (zs_puti X (pc := 36) (ty := Jvm.ClassFile.FieldType.int) zc_X7 (by decide) (zin ui_X7) tyX7_ok nmX7 (.tail _ gw_1_132) rfl (by decide +kernel) (by decide +kernel) (by decide +kernel) zP_int) <|
    zall_c (zs_aload_n X (pc := 39) (q := 0) rfl (by decide +kernel)) <|
    zall_c (zs_getr X (pc := 40) zc_X5 (by decide) (zin ui_X5) (.tail _ gw_1_237) (by decide +kernel) (by decide +kernel)) <|
    zall_c (zs_iload_n X (pc := 43) (q := 1) rfl (by decide +kernel)) <|
    zall_c (zs_aaload X (pc := 44) (by decide) rfl (by decide +kernel)) <|
    zall_c (zs_iload_n X (pc := 45) (q := 2) rfl (by decide +kernel)) <|
    zall_c (zs_iload_n X (pc := 46) (q := 3) rfl (by decide +kernel)) <|
    zall_c (zs_callV0 X (pc := 47) zc_X4 (fun _ ht => ⟨(zCB ht gw_5_211 gw_1_10 gw_5_208 rfl rfl (by decide +kernel) ⟨Nat.le_of_ble_eq_true rfl, Nat.le_of_ble_eq_true rfl⟩), ht _ (.tail _ gw_5_209), ht _ (.tail _ gw_5_210)⟩) h1 hout (by decide +kernel)) <|
    zall_c (zs_vret X (pc := 50) rfl (by decide +kernel)) <|
    zall_n
theorem met_X5_enterResult {l : Launch} (hl : l.stackTraces = false) {T0 : ZTf} {T1 : ZTf} (h0 : zMet l yX4_workerAt (Cond.code yX4_workerAt cX4_workerAt 2 (Option.some Jvm.ClassFile.FieldType.int) :: zG) rm_X4_workerAt 0 0 T0) (h1 : zMet l yX4_enterResult (Cond.code yX4_enterResult cX4_enterResult 3 (Option.none : Option Jvm.ClassFile.FieldType) :: zG) rm_X4_enterResult 0 0 T1) {T : ZTf} (bd : zBd (cd_X5_enterResult T0 T1) 5 0 0 T) : zMet l yX5_enterResult (Cond.code yX5_enterResult cX5_enterResult 5 (Option.none : Option Jvm.ClassFile.FieldType) :: zG) rm_X5_enterResult 0 0 T := zMet_of hl (by decide +kernel) rfl rfl rfl rfl (hs_X5_enterResult hl h0 h1) bd

abbrev rm_X5_reward : Room := { frames := 1, cells := 0, slots := 0, locals := 30 }
def cd_X5_reward : List (Nat × ZTr) := [(0, tAld 0 1), (1, tGetR 8 6 4), (4, tIld 1 5), (5, tAal 30 6), (6, tDup 7), (7, tGetI 10 7 10), (10, tC (zi 1) 11), (11, tAdd 12), (12, tPutI 10 7 (fun _ => True) 15), (15, tAld 0 16), (16, tGetR 8 6 19), (19, tIld 1 20), (20, tAal 30 21), (21, tDup 22), (22, tGetI 10 9 25), (25, tIld 2 26), (26, tAdd 27), (27, tPutI 10 9 (fun _ => True) 30), (30, tRv)]
set_option maxRecDepth 100000 in
set_option maxHeartbeats 4000000 in
theorem hs_X5_reward {l : Launch} (hl : l.stackTraces = false) (p : Program) (e : Env) (s : State) (m : MethodId) (args : Array Value) (below : List Frame) (meth : Method) (c : Code) (D : va_G) (A : Nat → Prop) (a0 : Nat → Nat) (M0 : ZM) (K : ZRet) (KX : ZEx) (X : zCtx p l rm_X5_reward s m args meth c cX5_reward RX5 (Cond.code yX5_reward cX5_reward 3 (Option.none : Option Jvm.ClassFile.FieldType) :: zG) 3 (Option.none : Option Jvm.ClassFile.FieldType) D A a0 M0 0 0) (hnm : meth.name = yX5_reward.name) (hout : ∀ x ∈ c.exceptionTable.toList, False) : ∀ q ∈ cd_X5_reward, zSd p l e rm_X5_reward s m args below meth c 3 D A a0 M0 K KX 0 0 q.1 q.2 :=
    zall_c (zs_aload_n X (pc := 0) (q := 0) rfl (by decide +kernel)) <|
    zall_c (zs_getr X (pc := 1) zc_X5 (by decide) (zin ui_X5) (.tail _ gw_1_234) (by decide +kernel) (by decide +kernel)) <|
    zall_c (zs_iload_n X (pc := 4) (q := 1) rfl (by decide +kernel)) <|
    zall_c (zs_aaload X (pc := 5) (by decide) rfl (by decide +kernel)) <|
    zall_c (zs_dup X (pc := 6) (by decide +kernel)) <|
    zall_c (zs_geti X (pc := 7) zc_X7 (by decide) (zin ui_X7) (.tail _ gw_1_135) (by decide +kernel) (by decide +kernel)) <|
    zall_c (zs_iconst X (pc := 10) (by decide) (by decide +kernel)) <|
    zall_c (zs_iadd X (pc := 11) (by decide +kernel)) <|
    zall_c (zs_puti X (pc := 12) (ty := Jvm.ClassFile.FieldType.int) zc_X7 (by decide) (zin ui_X7) tyX7_ok nmX7 (.tail _ gw_1_135) rfl (by decide +kernel) (by decide +kernel) (by decide +kernel) zP_int) <|
    zall_c (zs_aload_n X (pc := 15) (q := 0) rfl (by decide +kernel)) <|
    zall_c (zs_getr X (pc := 16) zc_X5 (by decide) (zin ui_X5) (.tail _ gw_1_234) (by decide +kernel) (by decide +kernel)) <|
    zall_c (zs_iload_n X (pc := 19) (q := 1) rfl (by decide +kernel)) <|
    zall_c (zs_aaload X (pc := 20) (by decide) rfl (by decide +kernel)) <|
    zall_c (zs_dup X (pc := 21) (by decide +kernel)) <|
    zall_c (zs_geti X (pc := 22) zc_X7 (by decide) (zin ui_X7) (.tail _ gw_1_141) (by decide +kernel) (by decide +kernel)) <|
    zall_c (zs_iload_n X (pc := 25) (q := 2) rfl (by decide +kernel)) <|
    zall_c (zs_iadd X (pc := 26) (by decide +kernel)) <|
    zall_c (zs_puti X (pc := 27) (ty := Jvm.ClassFile.FieldType.int) zc_X7 (by decide) (zin ui_X7) tyX7_ok nmX7 (.tail _ gw_1_141) rfl (by decide +kernel) (by decide +kernel) (by decide +kernel) zP_int) <|
    zall_c (zs_vret X (pc := 30) rfl (by decide +kernel)) <|
    zall_n
theorem met_X5_reward {l : Launch} (hl : l.stackTraces = false) {T : ZTf} (bd : zBd (cd_X5_reward) 3 0 0 T) : zMet l yX5_reward (Cond.code yX5_reward cX5_reward 3 (Option.none : Option Jvm.ClassFile.FieldType) :: zG) rm_X5_reward 0 0 T := zMet_of hl (by decide +kernel) rfl rfl rfl rfl (hs_X5_reward hl) bd

abbrev rm_X6_init : Room := { frames := 1, cells := 3, slots := 9, locals := 30 }
def cd_X6_init : List (Nat × ZTr) := [(0, tAld 0 1), (1, tObj 4), (4, tAld 0 5), (5, tC (zi 3) 6), (6, tNewA 20 8), (8, tPutR 9 4 11), (11, tAld 0 12), (12, tC (zi 3) 13), (13, tNewA 20 15), (15, tPutR 9 5 18), (18, tAld 0 19), (19, tC (zi 3) 20), (20, tNewA 20 22), (22, tPutR 9 6 25), (25, tRv)]
set_option maxRecDepth 100000 in
set_option maxHeartbeats 4000000 in
theorem hs_X6_init {l : Launch} (hl : l.stackTraces = false) (p : Program) (e : Env) (s : State) (m : MethodId) (args : Array Value) (below : List Frame) (meth : Method) (c : Code) (D : va_G) (A : Nat → Prop) (a0 : Nat → Nat) (M0 : ZM) (K : ZRet) (KX : ZEx) (X : zCtx p l rm_X6_init s m args meth c cX6_init RX6 (Cond.code yX6_init cX6_init 1 (Option.none : Option Jvm.ClassFile.FieldType) :: zG) 1 (Option.none : Option Jvm.ClassFile.FieldType) D A a0 M0 3 9) (hnm : meth.name = yX6_init.name) (hout : ∀ x ∈ c.exceptionTable.toList, False) : ∀ q ∈ cd_X6_init, zSd p l e rm_X6_init s m args below meth c 1 D A a0 M0 K KX 3 9 q.1 q.2 :=
    zall_c (zs_aload_n X (pc := 0) (q := 0) rfl (by decide +kernel)) <|
    zall_c (zs_objinit X (pc := 1) (.tail _ gw_2_81) (.tail _ gw_1_35) (.tail _ gw_1_36) (by decide) (by decide) (by decide +kernel)) <|
    zall_c (zs_aload_n X (pc := 4) (q := 0) rfl (by decide +kernel)) <|
    zall_c (zs_iconst X (pc := 5) (by decide) (by decide +kernel)) <|
    zall_c (zs_newarray20 X (pc := 6) (.tail _ gw_1_81) (by decide +kernel)) <|
    zall_c (zs_putrF X (pc := 8) (ty := (Jvm.ClassFile.FieldType.array Jvm.ClassFile.FieldType.int)) zc_X6 (by decide) (zin ui_X6) tyX6_ok nmX6 (.tail _ gw_2_91) rfl hnm rfl (by decide +kernel) (by decide +kernel) (by decide +kernel) zP_arr) <|
    zall_c (zs_aload_n X (pc := 11) (q := 0) rfl (by decide +kernel)) <|
    zall_c (zs_iconst X (pc := 12) (by decide) (by decide +kernel)) <|
    zall_c (zs_newarray20 X (pc := 13) (.tail _ gw_1_81) (by decide +kernel)) <|
    zall_c (zs_putrF X (pc := 15) (ty := (Jvm.ClassFile.FieldType.array Jvm.ClassFile.FieldType.int)) zc_X6 (by decide) (zin ui_X6) tyX6_ok nmX6 (.tail _ gw_2_94) rfl hnm rfl (by decide +kernel) (by decide +kernel) (by decide +kernel) zP_arr) <|
    zall_c (zs_aload_n X (pc := 18) (q := 0) rfl (by decide +kernel)) <|
    zall_c (zs_iconst X (pc := 19) (by decide) (by decide +kernel)) <|
    zall_c (zs_newarray20 X (pc := 20) (.tail _ gw_1_81) (by decide +kernel)) <|
    zall_c (zs_putrF X (pc := 22) (ty := (Jvm.ClassFile.FieldType.array Jvm.ClassFile.FieldType.int)) zc_X6 (by decide) (zin ui_X6) tyX6_ok nmX6 (.tail _ gw_2_95) rfl hnm rfl (by decide +kernel) (by decide +kernel) (by decide +kernel) zP_arr) <|
    zall_c (zs_vret X (pc := 25) rfl (by decide +kernel)) <|
    zall_n
theorem met_X6_init {l : Launch} (hl : l.stackTraces = false) {T : ZTf} (bd : zBd (cd_X6_init) 1 3 9 T) : zMet l yX6_init (Cond.code yX6_init cX6_init 1 (Option.none : Option Jvm.ClassFile.FieldType) :: zG) rm_X6_init 3 9 T := zMet_of hl (by decide +kernel) rfl rfl rfl rfl (hs_X6_init hl) bd

abbrev rm_X6_finishBy : Room := { frames := 1, cells := 0, slots := 0, locals := 30 }
def cd_X6_finishBy : List (Nat × ZTr) := [(0, tAld 0 1), (1, tC (zi 2) 2), (2, tPutI 9 0 (fun _ => True) 5), (5, tAld 0 6), (6, tIld 1 7), (7, tPutI 9 2 (fun _ => True) 10), (10, tAld 0 11), (11, tIld 2 12), (12, tPutI 9 3 (fun _ => True) 15), (15, tAld 0 16), (16, tAld 0 17), (17, tGetR 9 6 20), (20, tIld 2 21), (21, tIal 20 22), (22, tAld 0 23), (23, tGetR 9 6 26), (26, tIld 1 27), (27, tIal 20 28), (28, tIc_le 40 31), (31, tAld 0 32), (32, tGetR 9 5 35), (35, tIld 2 36), (36, tIal 20 37), (37, tGo 46), (40, tAld 0 41), (41, tGetR 9 5 44), (44, tIld 1 45), (45, tIal 20 46), (46, tPutI 9 1 (fun _ => True) 49), (49, tAld 0 50), (50, tGetR 9 4 53), (53, tIld 1 54), (54, tC (zi 1) 55), (55, tIas 20 (fun _ => True) 56), (56, tAld 0 57), (57, tGetR 9 4 60), (60, tIld 2 61), (61, tC (zi 1) 62), (62, tIas 20 (fun _ => True) 63), (63, tRv)]
set_option maxRecDepth 100000 in
set_option maxHeartbeats 4000000 in
theorem hs_X6_finishBy {l : Launch} (hl : l.stackTraces = false) (p : Program) (e : Env) (s : State) (m : MethodId) (args : Array Value) (below : List Frame) (meth : Method) (c : Code) (D : va_G) (A : Nat → Prop) (a0 : Nat → Nat) (M0 : ZM) (K : ZRet) (KX : ZEx) (X : zCtx p l rm_X6_finishBy s m args meth c cX6_finishBy RX6 (Cond.code yX6_finishBy cX6_finishBy 3 (Option.none : Option Jvm.ClassFile.FieldType) :: zG) 3 (Option.none : Option Jvm.ClassFile.FieldType) D A a0 M0 0 0) (hnm : meth.name = yX6_finishBy.name) (hout : ∀ x ∈ c.exceptionTable.toList, False) : ∀ q ∈ cd_X6_finishBy, zSd p l e rm_X6_finishBy s m args below meth c 3 D A a0 M0 K KX 0 0 q.1 q.2 :=
    zall_c (zs_aload_n X (pc := 0) (q := 0) rfl (by decide +kernel)) <|
    zall_c (zs_iconst X (pc := 1) (by decide) (by decide +kernel)) <|
    zall_c (zs_puti X (pc := 2) (ty := Jvm.ClassFile.FieldType.int) zc_X6 (by decide) (zin ui_X6) tyX6_ok nmX6 (.tail _ gw_2_82) rfl (by decide +kernel) (by decide +kernel) (by decide +kernel) zP_int) <|
    zall_c (zs_aload_n X (pc := 5) (q := 0) rfl (by decide +kernel)) <|
    zall_c (zs_iload_n X (pc := 6) (q := 1) rfl (by decide +kernel)) <|
    zall_c (zs_puti X (pc := 7) (ty := Jvm.ClassFile.FieldType.int) zc_X6 (by decide) (zin ui_X6) tyX6_ok nmX6 (.tail _ gw_2_87) rfl (by decide +kernel) (by decide +kernel) (by decide +kernel) zP_int) <|
    zall_c (zs_aload_n X (pc := 10) (q := 0) rfl (by decide +kernel)) <|
    zall_c (zs_iload_n X (pc := 11) (q := 2) rfl (by decide +kernel)) <|
    zall_c (zs_puti X (pc := 12) (ty := Jvm.ClassFile.FieldType.int) zc_X6 (by decide) (zin ui_X6) tyX6_ok nmX6 (.tail _ gw_2_89) rfl (by decide +kernel) (by decide +kernel) (by decide +kernel) zP_int) <|
    zall_c (zs_aload_n X (pc := 15) (q := 0) rfl (by decide +kernel)) <|
    zall_c (zs_aload_n X (pc := 16) (q := 0) rfl (by decide +kernel)) <|
    zall_c (zs_getr X (pc := 17) zc_X6 (by decide) (zin ui_X6) (.tail _ gw_2_95) (by decide +kernel) (by decide +kernel)) <|
    zall_c (zs_iload_n X (pc := 20) (q := 2) rfl (by decide +kernel)) <|
    zall_c (zs_iaload20 X (pc := 21) (by decide +kernel)) <|
    zall_c (zs_aload_n X (pc := 22) (q := 0) rfl (by decide +kernel)) <|
    zall_c (zs_getr X (pc := 23) zc_X6 (by decide) (zin ui_X6) (.tail _ gw_2_95) (by decide +kernel) (by decide +kernel)) <|
    zall_c (zs_iload_n X (pc := 26) (q := 1) rfl (by decide +kernel)) <|
    zall_c (zs_iaload20 X (pc := 27) (by decide +kernel)) <|
    zall_c (zs_icmp_le X (pc := 28) (off := 12) (by decide +kernel) (by decide)) <|
    zall_c (zs_aload_n X (pc := 31) (q := 0) rfl (by decide +kernel)) <|
    zall_c (zs_getr X (pc := 32) zc_X6 (by decide) (zin ui_X6) (.tail _ gw_2_94) (by decide +kernel) (by decide +kernel)) <|
    zall_c (zs_iload_n X (pc := 35) (q := 2) rfl (by decide +kernel)) <|
    zall_c (zs_iaload20 X (pc := 36) (by decide +kernel)) <|
    zall_c (zs_goto X (pc := 37) (off := 9) (by decide +kernel) (by decide)) <|
    zall_c (zs_aload_n X (pc := 40) (q := 0) rfl (by decide +kernel)) <|
    zall_c (zs_getr X (pc := 41) zc_X6 (by decide) (zin ui_X6) (.tail _ gw_2_94) (by decide +kernel) (by decide +kernel)) <|
    zall_c (zs_iload_n X (pc := 44) (q := 1) rfl (by decide +kernel)) <|
    zall_c (zs_iaload20 X (pc := 45) (by decide +kernel)) <|
    zall_c (zs_puti X (pc := 46) (ty := Jvm.ClassFile.FieldType.int) zc_X6 (by decide) (zin ui_X6) tyX6_ok nmX6 (.tail _ gw_2_85) rfl (by decide +kernel) (by decide +kernel) (by decide +kernel) zP_int) <|
    zall_c (zs_aload_n X (pc := 49) (q := 0) rfl (by decide +kernel)) <|
    zall_c (zs_getr X (pc := 50) zc_X6 (by decide) (zin ui_X6) (.tail _ gw_2_91) (by decide +kernel) (by decide +kernel)) <|
    zall_c (zs_iload_n X (pc := 53) (q := 1) rfl (by decide +kernel)) <|
    zall_c (zs_iconst X (pc := 54) (by decide) (by decide +kernel)) <|
    zall_c (zs_iastore20 X (pc := 55) (by decide +kernel)) <|
    zall_c (zs_aload_n X (pc := 56) (q := 0) rfl (by decide +kernel)) <|
    zall_c (zs_getr X (pc := 57) zc_X6 (by decide) (zin ui_X6) (.tail _ gw_2_91) (by decide +kernel) (by decide +kernel)) <|
    zall_c (zs_iload_n X (pc := 60) (q := 2) rfl (by decide +kernel)) <|
    zall_c (zs_iconst X (pc := 61) (by decide) (by decide +kernel)) <|
    zall_c (zs_iastore20 X (pc := 62) (by decide +kernel)) <|
    zall_c (zs_vret X (pc := 63) rfl (by decide +kernel)) <|
    zall_n
theorem met_X6_finishBy {l : Launch} (hl : l.stackTraces = false) {T : ZTf} (bd : zBd (cd_X6_finishBy) 3 0 0 T) : zMet l yX6_finishBy (Cond.code yX6_finishBy cX6_finishBy 3 (Option.none : Option Jvm.ClassFile.FieldType) :: zG) rm_X6_finishBy 0 0 T := zMet_of hl (by decide +kernel) rfl rfl rfl rfl (hs_X6_finishBy hl) bd

abbrev rm_X7_init : Room := { frames := 1, cells := 0, slots := 0, locals := 30 }
def cd_X7_init : List (Nat × ZTr) := [(0, tAld 0 1), (1, tObj 4), (4, tAld 0 5), (5, tC (zo 57) 7), (7, tPutR 10 0 10), (10, tRv)]
set_option maxRecDepth 100000 in
set_option maxHeartbeats 4000000 in
theorem hs_X7_init {l : Launch} (hl : l.stackTraces = false) (p : Program) (e : Env) (s : State) (m : MethodId) (args : Array Value) (below : List Frame) (meth : Method) (c : Code) (D : va_G) (A : Nat → Prop) (a0 : Nat → Nat) (M0 : ZM) (K : ZRet) (KX : ZEx) (X : zCtx p l rm_X7_init s m args meth c cX7_init RX7 (Cond.code yX7_init cX7_init 1 (Option.none : Option Jvm.ClassFile.FieldType) :: zG) 1 (Option.none : Option Jvm.ClassFile.FieldType) D A a0 M0 0 0) (hnm : meth.name = yX7_init.name) (hout : ∀ x ∈ c.exceptionTable.toList, False) : ∀ q ∈ cd_X7_init, zSd p l e rm_X7_init s m args below meth c 1 D A a0 M0 K KX 0 0 q.1 q.2 :=
    zall_c (zs_aload_n X (pc := 0) (q := 0) rfl (by decide +kernel)) <|
    zall_c (zs_objinit X (pc := 1) (.tail _ gw_1_110) (.tail _ gw_1_35) (.tail _ gw_1_36) (by decide) (by decide) (by decide +kernel)) <|
    zall_c (zs_aload_n X (pc := 4) (q := 0) rfl (by decide +kernel)) <|
    zall_c (zs_ldcs X (pc := 5) (idx := 7) (tx := "") (by decide +kernel) (by decide +kernel)) <|
    zall_c (zs_putr X (pc := 7) (ty := (Jvm.ClassFile.FieldType.object "java/lang/String")) zc_X7 (by decide) (zin ui_X7) tyX7_ok nmX7 (.tail _ gw_1_112) rfl (by decide +kernel) (by decide +kernel) (by decide +kernel) zP_obj) <|
    zall_c (zs_vret X (pc := 10) rfl (by decide +kernel)) <|
    zall_n
theorem met_X7_init {l : Launch} (hl : l.stackTraces = false) {T : ZTf} (bd : zBd (cd_X7_init) 1 0 0 T) : zMet l yX7_init (Cond.code yX7_init cX7_init 1 (Option.none : Option Jvm.ClassFile.FieldType) :: zG) rm_X7_init 0 0 T := zMet_of hl (by decide +kernel) rfl rfl rfl rfl (hs_X7_init hl) bd

abbrev rm_X7_begin : Room := { frames := 1, cells := 0, slots := 0, locals := 30 }
def cd_X7_begin : List (Nat × ZTr) := [(0, tAld 0 1), (1, tAld 1 2), (2, tPutR 10 0 5), (5, tAld 0 6), (6, tIld 2 7), (7, tPutI 10 1 (fun _ => True) 10), (10, tAld 0 11), (11, tIld 3 12), (12, tPutI 10 2 (fun _ => True) 15), (15, tAld 0 16), (16, tIld 4 18), (18, tPutI 10 3 (fun _ => True) 21), (21, tAld 0 22), (22, tC (zi 0) 23), (23, tPutI 10 4 (fun _ => True) 26), (26, tAld 0 27), (27, tC (zi 0) 28), (28, tPutI 10 5 (fun _ => True) 31), (31, tAld 0 32), (32, tC (zi 0) 33), (33, tPutI 10 6 (fun _ => True) 36), (36, tAld 0 37), (37, tC (zi 0) 38), (38, tPutI 10 7 (fun _ => True) 41), (41, tAld 0 42), (42, tC (zi 0) 43), (43, tPutI 10 8 (fun _ => True) 46), (46, tAld 0 47), (47, tC (zi 0) 48), (48, tPutI 10 9 (fun _ => True) 51), (51, tRv)]
set_option maxRecDepth 100000 in
set_option maxHeartbeats 4000000 in
theorem hs_X7_begin {l : Launch} (hl : l.stackTraces = false) (p : Program) (e : Env) (s : State) (m : MethodId) (args : Array Value) (below : List Frame) (meth : Method) (c : Code) (D : va_G) (A : Nat → Prop) (a0 : Nat → Nat) (M0 : ZM) (K : ZRet) (KX : ZEx) (X : zCtx p l rm_X7_begin s m args meth c cX7_begin RX7 (Cond.code yX7_begin cX7_begin 5 (Option.none : Option Jvm.ClassFile.FieldType) :: zG) 5 (Option.none : Option Jvm.ClassFile.FieldType) D A a0 M0 0 0) (hnm : meth.name = yX7_begin.name) (hout : ∀ x ∈ c.exceptionTable.toList, False) : ∀ q ∈ cd_X7_begin, zSd p l e rm_X7_begin s m args below meth c 5 D A a0 M0 K KX 0 0 q.1 q.2 :=
    zall_c (zs_aload_n X (pc := 0) (q := 0) rfl (by decide +kernel)) <|
    zall_c (zs_aload_n X (pc := 1) (q := 1) rfl (by decide +kernel)) <|
    zall_c (zs_putr X (pc := 2) (ty := (Jvm.ClassFile.FieldType.object "java/lang/String")) zc_X7 (by decide) (zin ui_X7) tyX7_ok nmX7 (.tail _ gw_1_112) rfl (by decide +kernel) (by decide +kernel) (by decide +kernel) zP_obj) <|
    zall_c (zs_aload_n X (pc := 5) (q := 0) rfl (by decide +kernel)) <|
    zall_c (zs_iload_n X (pc := 6) (q := 2) rfl (by decide +kernel)) <|
    zall_c (zs_puti X (pc := 7) (ty := Jvm.ClassFile.FieldType.int) zc_X7 (by decide) (zin ui_X7) tyX7_ok nmX7 (.tail _ gw_1_114) rfl (by decide +kernel) (by decide +kernel) (by decide +kernel) zP_int) <|
    zall_c (zs_aload_n X (pc := 10) (q := 0) rfl (by decide +kernel)) <|
    zall_c (zs_iload_n X (pc := 11) (q := 3) rfl (by decide +kernel)) <|
    zall_c (zs_puti X (pc := 12) (ty := Jvm.ClassFile.FieldType.int) zc_X7 (by decide) (zin ui_X7) tyX7_ok nmX7 (.tail _ gw_1_117) rfl (by decide +kernel) (by decide +kernel) (by decide +kernel) zP_int) <|
    zall_c (zs_aload_n X (pc := 15) (q := 0) rfl (by decide +kernel)) <|
    zall_c (zs_iload X (pc := 16) (by decide +kernel)) <|
    zall_c (zs_puti X (pc := 18) (ty := Jvm.ClassFile.FieldType.int) zc_X7 (by decide) (zin ui_X7) tyX7_ok nmX7 (.tail _ gw_1_120) rfl (by decide +kernel) (by decide +kernel) (by decide +kernel) zP_int) <|
    zall_c (zs_aload_n X (pc := 21) (q := 0) rfl (by decide +kernel)) <|
    zall_c (zs_iconst X (pc := 22) (by decide) (by decide +kernel)) <|
    zall_c (zs_puti X (pc := 23) (ty := Jvm.ClassFile.FieldType.int) zc_X7 (by decide) (zin ui_X7) tyX7_ok nmX7 (.tail _ gw_1_124) rfl (by decide +kernel) (by decide +kernel) (by decide +kernel) zP_int) <|
    zall_c (zs_aload_n X (pc := 26) (q := 0) rfl (by decide +kernel)) <|
    zall_c (zs_iconst X (pc := 27) (by decide) (by decide +kernel)) <|
    zall_c (zs_puti X (pc := 28) (ty := Jvm.ClassFile.FieldType.int) zc_X7 (by decide) (zin ui_X7) tyX7_ok nmX7 (.tail _ gw_1_127) rfl (by decide +kernel) (by decide +kernel) (by decide +kernel) zP_int) <|
    zall_c (zs_aload_n X (pc := 31) (q := 0) rfl (by decide +kernel)) <|
    zall_c (zs_iconst X (pc := 32) (by decide) (by decide +kernel)) <|
    zall_c (zs_puti X (pc := 33) (ty := Jvm.ClassFile.FieldType.int) zc_X7 (by decide) (zin ui_X7) tyX7_ok nmX7 (.tail _ gw_1_130) rfl (by decide +kernel) (by decide +kernel) (by decide +kernel) zP_int) <|
    zall_c (zs_aload_n X (pc := 36) (q := 0) rfl (by decide +kernel)) <|
    zall_c (zs_iconst X (pc := 37) (by decide) (by decide +kernel)) <|
    zall_c (zs_puti X (pc := 38) (ty := Jvm.ClassFile.FieldType.int) zc_X7 (by decide) (zin ui_X7) tyX7_ok nmX7 (.tail _ gw_1_133) rfl (by decide +kernel) (by decide +kernel) (by decide +kernel) zP_int) <|
    zall_c (zs_aload_n X (pc := 41) (q := 0) rfl (by decide +kernel)) <|
    zall_c (zs_iconst X (pc := 42) (by decide) (by decide +kernel)) <|
    zall_c (zs_puti X (pc := 43) (ty := Jvm.ClassFile.FieldType.int) zc_X7 (by decide) (zin ui_X7) tyX7_ok nmX7 (.tail _ gw_1_136) rfl (by decide +kernel) (by decide +kernel) (by decide +kernel) zP_int) <|
    zall_c (zs_aload_n X (pc := 46) (q := 0) rfl (by decide +kernel)) <|
    zall_c (zs_iconst X (pc := 47) (by decide) (by decide +kernel)) <|
    zall_c (zs_puti X (pc := 48) (ty := Jvm.ClassFile.FieldType.int) zc_X7 (by decide) (zin ui_X7) tyX7_ok nmX7 (.tail _ gw_1_139) rfl (by decide +kernel) (by decide +kernel) (by decide +kernel) zP_int) <|
    zall_c (zs_vret X (pc := 51) rfl (by decide +kernel)) <|
    zall_n
theorem met_X7_begin {l : Launch} (hl : l.stackTraces = false) {T : ZTf} (bd : zBd (cd_X7_begin) 5 0 0 T) : zMet l yX7_begin (Cond.code yX7_begin cX7_begin 5 (Option.none : Option Jvm.ClassFile.FieldType) :: zG) rm_X7_begin 0 0 T := zMet_of hl (by decide +kernel) rfl rfl rfl rfl (hs_X7_begin hl) bd

abbrev rm_X7_copyFrom : Room := { frames := 1, cells := 0, slots := 0, locals := 30 }
def cd_X7_copyFrom : List (Nat × ZTr) := [(0, tAld 0 1), (1, tAld 1 2), (2, tGetR 10 0 5), (5, tPutR 10 0 8), (8, tAld 0 9), (9, tAld 1 10), (10, tGetI 10 1 13), (13, tPutI 10 1 (fun _ => True) 16), (16, tAld 0 17), (17, tAld 1 18), (18, tGetI 10 2 21), (21, tPutI 10 2 (fun _ => True) 24), (24, tAld 0 25), (25, tAld 1 26), (26, tGetI 10 3 29), (29, tPutI 10 3 (fun _ => True) 32), (32, tAld 0 33), (33, tAld 1 34), (34, tGetI 10 4 37), (37, tPutI 10 4 (fun _ => True) 40), (40, tAld 0 41), (41, tAld 1 42), (42, tGetI 10 5 45), (45, tPutI 10 5 (fun _ => True) 48), (48, tAld 0 49), (49, tAld 1 50), (50, tGetI 10 6 53), (53, tPutI 10 6 (fun _ => True) 56), (56, tAld 0 57), (57, tAld 1 58), (58, tGetI 10 7 61), (61, tPutI 10 7 (fun _ => True) 64), (64, tAld 0 65), (65, tAld 1 66), (66, tGetI 10 8 69), (69, tPutI 10 8 (fun _ => True) 72), (72, tAld 0 73), (73, tAld 1 74), (74, tGetI 10 9 77), (77, tPutI 10 9 (fun _ => True) 80), (80, tRv)]
set_option maxRecDepth 100000 in
set_option maxHeartbeats 4000000 in
theorem hs_X7_copyFrom {l : Launch} (hl : l.stackTraces = false) (p : Program) (e : Env) (s : State) (m : MethodId) (args : Array Value) (below : List Frame) (meth : Method) (c : Code) (D : va_G) (A : Nat → Prop) (a0 : Nat → Nat) (M0 : ZM) (K : ZRet) (KX : ZEx) (X : zCtx p l rm_X7_copyFrom s m args meth c cX7_copyFrom RX7 (Cond.code yX7_copyFrom cX7_copyFrom 2 (Option.none : Option Jvm.ClassFile.FieldType) :: zG) 2 (Option.none : Option Jvm.ClassFile.FieldType) D A a0 M0 0 0) (hnm : meth.name = yX7_copyFrom.name) (hout : ∀ x ∈ c.exceptionTable.toList, False) : ∀ q ∈ cd_X7_copyFrom, zSd p l e rm_X7_copyFrom s m args below meth c 2 D A a0 M0 K KX 0 0 q.1 q.2 :=
    zall_c (zs_aload_n X (pc := 0) (q := 0) rfl (by decide +kernel)) <|
    zall_c (zs_aload_n X (pc := 1) (q := 1) rfl (by decide +kernel)) <|
    zall_c (zs_getr X (pc := 2) zc_X7 (by decide) (zin ui_X7) (.tail _ gw_1_112) (by decide +kernel) (by decide +kernel)) <|
    zall_c (zs_putr X (pc := 5) (ty := (Jvm.ClassFile.FieldType.object "java/lang/String")) zc_X7 (by decide) (zin ui_X7) tyX7_ok nmX7 (.tail _ gw_1_112) rfl (by decide +kernel) (by decide +kernel) (by decide +kernel) zP_obj) <|
    zall_c (zs_aload_n X (pc := 8) (q := 0) rfl (by decide +kernel)) <|
    zall_c (zs_aload_n X (pc := 9) (q := 1) rfl (by decide +kernel)) <|
    zall_c (zs_geti X (pc := 10) zc_X7 (by decide) (zin ui_X7) (.tail _ gw_1_114) (by decide +kernel) (by decide +kernel)) <|
    zall_c (zs_puti X (pc := 13) (ty := Jvm.ClassFile.FieldType.int) zc_X7 (by decide) (zin ui_X7) tyX7_ok nmX7 (.tail _ gw_1_114) rfl (by decide +kernel) (by decide +kernel) (by decide +kernel) zP_int) <|
    zall_c (zs_aload_n X (pc := 16) (q := 0) rfl (by decide +kernel)) <|
    zall_c (zs_aload_n X (pc := 17) (q := 1) rfl (by decide +kernel)) <|
    zall_c (zs_geti X (pc := 18) zc_X7 (by decide) (zin ui_X7) (.tail _ gw_1_117) (by decide +kernel) (by decide +kernel)) <|
    zall_c (zs_puti X (pc := 21) (ty := Jvm.ClassFile.FieldType.int) zc_X7 (by decide) (zin ui_X7) tyX7_ok nmX7 (.tail _ gw_1_117) rfl (by decide +kernel) (by decide +kernel) (by decide +kernel) zP_int) <|
    zall_c (zs_aload_n X (pc := 24) (q := 0) rfl (by decide +kernel)) <|
    zall_c (zs_aload_n X (pc := 25) (q := 1) rfl (by decide +kernel)) <|
    zall_c (zs_geti X (pc := 26) zc_X7 (by decide) (zin ui_X7) (.tail _ gw_1_120) (by decide +kernel) (by decide +kernel)) <|
    zall_c (zs_puti X (pc := 29) (ty := Jvm.ClassFile.FieldType.int) zc_X7 (by decide) (zin ui_X7) tyX7_ok nmX7 (.tail _ gw_1_120) rfl (by decide +kernel) (by decide +kernel) (by decide +kernel) zP_int) <|
    zall_c (zs_aload_n X (pc := 32) (q := 0) rfl (by decide +kernel)) <|
    zall_c (zs_aload_n X (pc := 33) (q := 1) rfl (by decide +kernel)) <|
    zall_c (zs_geti X (pc := 34) zc_X7 (by decide) (zin ui_X7) (.tail _ gw_1_124) (by decide +kernel) (by decide +kernel)) <|
    zall_c (zs_puti X (pc := 37) (ty := Jvm.ClassFile.FieldType.int) zc_X7 (by decide) (zin ui_X7) tyX7_ok nmX7 (.tail _ gw_1_124) rfl (by decide +kernel) (by decide +kernel) (by decide +kernel) zP_int) <|
    zall_c (zs_aload_n X (pc := 40) (q := 0) rfl (by decide +kernel)) <|
    zall_c (zs_aload_n X (pc := 41) (q := 1) rfl (by decide +kernel)) <|
    zall_c (zs_geti X (pc := 42) zc_X7 (by decide) (zin ui_X7) (.tail _ gw_1_127) (by decide +kernel) (by decide +kernel)) <|
    zall_c (zs_puti X (pc := 45) (ty := Jvm.ClassFile.FieldType.int) zc_X7 (by decide) (zin ui_X7) tyX7_ok nmX7 (.tail _ gw_1_127) rfl (by decide +kernel) (by decide +kernel) (by decide +kernel) zP_int) <|
    zall_c (zs_aload_n X (pc := 48) (q := 0) rfl (by decide +kernel)) <|
    zall_c (zs_aload_n X (pc := 49) (q := 1) rfl (by decide +kernel)) <|
    zall_c (zs_geti X (pc := 50) zc_X7 (by decide) (zin ui_X7) (.tail _ gw_1_130) (by decide +kernel) (by decide +kernel)) <|
    zall_c (zs_puti X (pc := 53) (ty := Jvm.ClassFile.FieldType.int) zc_X7 (by decide) (zin ui_X7) tyX7_ok nmX7 (.tail _ gw_1_130) rfl (by decide +kernel) (by decide +kernel) (by decide +kernel) zP_int) <|
    zall_c (zs_aload_n X (pc := 56) (q := 0) rfl (by decide +kernel)) <|
    zall_c (zs_aload_n X (pc := 57) (q := 1) rfl (by decide +kernel)) <|
    zall_c (zs_geti X (pc := 58) zc_X7 (by decide) (zin ui_X7) (.tail _ gw_1_133) (by decide +kernel) (by decide +kernel)) <|
    zall_c (zs_puti X (pc := 61) (ty := Jvm.ClassFile.FieldType.int) zc_X7 (by decide) (zin ui_X7) tyX7_ok nmX7 (.tail _ gw_1_133) rfl (by decide +kernel) (by decide +kernel) (by decide +kernel) zP_int) <|
    zall_c (zs_aload_n X (pc := 64) (q := 0) rfl (by decide +kernel)) <|
    zall_c (zs_aload_n X (pc := 65) (q := 1) rfl (by decide +kernel)) <|
    zall_c (zs_geti X (pc := 66) zc_X7 (by decide) (zin ui_X7) (.tail _ gw_1_136) (by decide +kernel) (by decide +kernel)) <|
    zall_c (zs_puti X (pc := 69) (ty := Jvm.ClassFile.FieldType.int) zc_X7 (by decide) (zin ui_X7) tyX7_ok nmX7 (.tail _ gw_1_136) rfl (by decide +kernel) (by decide +kernel) (by decide +kernel) zP_int) <|
    zall_c (zs_aload_n X (pc := 72) (q := 0) rfl (by decide +kernel)) <|
    zall_c (zs_aload_n X (pc := 73) (q := 1) rfl (by decide +kernel)) <|
    zall_c (zs_geti X (pc := 74) zc_X7 (by decide) (zin ui_X7) (.tail _ gw_1_139) (by decide +kernel) (by decide +kernel)) <|
    zall_c (zs_puti X (pc := 77) (ty := Jvm.ClassFile.FieldType.int) zc_X7 (by decide) (zin ui_X7) tyX7_ok nmX7 (.tail _ gw_1_139) rfl (by decide +kernel) (by decide +kernel) (by decide +kernel) zP_int) <|
    zall_c (zs_vret X (pc := 80) rfl (by decide +kernel)) <|
    zall_n
theorem met_X7_copyFrom {l : Launch} (hl : l.stackTraces = false) {T : ZTf} (bd : zBd (cd_X7_copyFrom) 2 0 0 T) : zMet l yX7_copyFrom (Cond.code yX7_copyFrom cX7_copyFrom 2 (Option.none : Option Jvm.ClassFile.FieldType) :: zG) rm_X7_copyFrom 0 0 T := zMet_of hl (by decide +kernel) rfl rfl rfl rfl (hs_X7_copyFrom hl) bd

abbrev rm_X8_append : Room := { frames := 6, cells := 1, slots := 6, locals := 90 }
def cd_X8_append (T0 : ZTf) : List (Nat × ZTr) := [(0, tAld 0 1), (1, tGetR 11 1 4), (4, tGetI 5 1 7), (7, tC (zi 20) 9), (9, tAdd 10), (10, tC (zi 500) 13), (13, tIc_le 26 16), (16, tThr 2), (26, tAld 0 27), (27, tGetR 11 1 30), (30, tIld 1 31), (31, tCall0 2 T0 (zRcv 5) 34), (34, tAld 0 35), (35, tGetR 11 1 38), (38, tIld 2 39), (39, tCall0 2 T0 (zRcv 5) 42), (42, tAld 0 43), (43, tGetR 11 1 46), (46, tIld 3 47), (47, tCall0 2 T0 (zRcv 5) 50), (50, tAld 0 51), (51, tGetR 11 1 54), (54, tIld 4 56), (56, tCall0 2 T0 (zRcv 5) 59), (59, tAld 0 60), (60, tGetR 11 1 63), (63, tIld 5 65), (65, tCall0 2 T0 (zRcv 5) 68), (68, tAld 0 69), (69, tGetR 11 1 72), (72, tGetI 5 1 75), (75, tRi (fun _ => True))]
set_option maxRecDepth 100000 in
set_option maxHeartbeats 4000000 in
theorem hs_X8_append {l : Launch} (hl : l.stackTraces = false) {T0 : ZTf} (h0 : zMet l yX1_addFourBytes (Cond.code yX1_addFourBytes cX1_addFourBytes 3 (Option.none : Option Jvm.ClassFile.FieldType) :: zG) rm_X1_addFourBytes 0 0 T0) (p : Program) (e : Env) (s : State) (m : MethodId) (args : Array Value) (below : List Frame) (meth : Method) (c : Code) (D : va_G) (A : Nat → Prop) (a0 : Nat → Nat) (M0 : ZM) (K : ZRet) (KX : ZEx) (X : zCtx p l rm_X8_append s m args meth c cX8_append RX8 (Cond.code yX8_append cX8_append 6 (Option.some Jvm.ClassFile.FieldType.int) :: zG) 6 (Option.some Jvm.ClassFile.FieldType.int) D A a0 M0 1 6) (hnm : meth.name = yX8_append.name) (hout : ∀ x ∈ c.exceptionTable.toList, False) : ∀ q ∈ cd_X8_append T0, zSd p l e rm_X8_append s m args below meth c 6 D A a0 M0 K KX 1 6 q.1 q.2 :=
    zall_c (zs_aload_n X (pc := 0) (q := 0) rfl (by decide +kernel)) <|
    zall_c (zs_getr X (pc := 1) zc_X8 (by decide) (zin ui_X8) (.tail _ gw_2_115) (by decide +kernel) (by decide +kernel)) <|
    zall_c (zs_geti X (pc := 4) zc_X1 (by decide) (zin ui_X1) (.tail _ gw_1_86) (by decide +kernel) (by decide +kernel)) <|
    zall_c (zs_bipush X (pc := 7) (by decide) (by decide +kernel) (by decide +kernel)) <|
    zall_c (zs_iadd X (pc := 9) (by decide +kernel)) <|
    zall_c (zs_sipush X (pc := 10) (by decide) (by decide +kernel) (by decide +kernel)) <|
    zall_c (zs_icmp_le X (pc := 13) (off := 13) (by decide +kernel) (by decide)) <|
    zall_c (zs_throw X (pc := 16) (ik := 69) (is := 71) (ic := 73) (cls := "java/lang/IllegalStateException") (text := "the input buffer is full") (names := ["java/lang/RuntimeException", "java/lang/Exception"]) rfl (by decide +kernel) (by decide +kernel) (.tail _ gw_4_33) (.tail _ gw_1_24) (by decide +kernel) (zin gt_X8_73) gt_X8_73x (by decide +kernel) hout (by decide) (by decide) (by decide +kernel) (by decide +kernel) (by decide +kernel) (by decide +kernel) (by decide +kernel)) <|
    zall_c (zs_aload_n X (pc := 26) (q := 0) rfl (by decide +kernel)) <|
    zall_c (zs_getr X (pc := 27) zc_X8 (by decide) (zin ui_X8) (.tail _ gw_2_115) (by decide +kernel) (by decide +kernel)) <|
    zall_c (zs_iload_n X (pc := 30) (q := 1) rfl (by decide +kernel)) <|
    zall_c (zs_callV0 X (pc := 31) zc_X1 (fun _ ht => ⟨(zCB ht gw_4_52 gw_1_3 gw_4_49 rfl rfl (by decide +kernel) ⟨Nat.le_of_ble_eq_true rfl, Nat.le_of_ble_eq_true rfl⟩), ht _ (.tail _ gw_4_50), ht _ (.tail _ gw_4_51)⟩) h0 hout (by decide +kernel)) <|
    zall_c (zs_aload_n X (pc := 34) (q := 0) rfl (by decide +kernel)) <|
    zall_c (zs_getr X (pc := 35) zc_X8 (by decide) (zin ui_X8) (.tail _ gw_2_115) (by decide +kernel) (by decide +kernel)) <|
    zall_c (zs_iload_n X (pc := 38) (q := 2) rfl (by decide +kernel)) <|
    zall_c (zs_callV0 X (pc := 39) zc_X1 (fun _ ht => ⟨(zCB ht gw_4_52 gw_1_3 gw_4_49 rfl rfl (by decide +kernel) ⟨Nat.le_of_ble_eq_true rfl, Nat.le_of_ble_eq_true rfl⟩), ht _ (.tail _ gw_4_50), ht _ (.tail _ gw_4_51)⟩) h0 hout (by decide +kernel)) <|
    zall_c (zs_aload_n X (pc := 42) (q := 0) rfl (by decide +kernel)) <|
    zall_c (zs_getr X (pc := 43) zc_X8 (by decide) (zin ui_X8) (.tail _ gw_2_115) (by decide +kernel) (by decide +kernel)) <|
    zall_c (zs_iload_n X (pc := 46) (q := 3) rfl (by decide +kernel)) <|
    zall_c (zs_callV0 X (pc := 47) zc_X1 (fun _ ht => ⟨(zCB ht gw_4_52 gw_1_3 gw_4_49 rfl rfl (by decide +kernel) ⟨Nat.le_of_ble_eq_true rfl, Nat.le_of_ble_eq_true rfl⟩), ht _ (.tail _ gw_4_50), ht _ (.tail _ gw_4_51)⟩) h0 hout (by decide +kernel)) <|
    zall_c (zs_aload_n X (pc := 50) (q := 0) rfl (by decide +kernel)) <|
    zall_c (zs_getr X (pc := 51) zc_X8 (by decide) (zin ui_X8) (.tail _ gw_2_115) (by decide +kernel) (by decide +kernel)) <|
    zall_c (zs_iload X (pc := 54) (by decide +kernel)) <|
    zall_c (zs_callV0 X (pc := 56) zc_X1 (fun _ ht => ⟨(zCB ht gw_4_52 gw_1_3 gw_4_49 rfl rfl (by decide +kernel) ⟨Nat.le_of_ble_eq_true rfl, Nat.le_of_ble_eq_true rfl⟩), ht _ (.tail _ gw_4_50), ht _ (.tail _ gw_4_51)⟩) h0 hout (by decide +kernel)) <|
    zall_c (zs_aload_n X (pc := 59) (q := 0) rfl (by decide +kernel)) <|
    zall_c (zs_getr X (pc := 60) zc_X8 (by decide) (zin ui_X8) (.tail _ gw_2_115) (by decide +kernel) (by decide +kernel)) <|
    zall_c (zs_iload X (pc := 63) (by decide +kernel)) <|
    zall_c (zs_callV0 X (pc := 65) zc_X1 (fun _ ht => ⟨(zCB ht gw_4_52 gw_1_3 gw_4_49 rfl rfl (by decide +kernel) ⟨Nat.le_of_ble_eq_true rfl, Nat.le_of_ble_eq_true rfl⟩), ht _ (.tail _ gw_4_50), ht _ (.tail _ gw_4_51)⟩) h0 hout (by decide +kernel)) <|
    zall_c (zs_aload_n X (pc := 68) (q := 0) rfl (by decide +kernel)) <|
    zall_c (zs_getr X (pc := 69) zc_X8 (by decide) (zin ui_X8) (.tail _ gw_2_115) (by decide +kernel) (by decide +kernel)) <|
    zall_c (zs_geti X (pc := 72) zc_X1 (by decide) (zin ui_X1) (.tail _ gw_1_86) (by decide +kernel) (by decide +kernel)) <|
    zall_c (zs_iret X (pc := 75) rfl (by decide +kernel)) <|
    zall_n
theorem met_X8_append {l : Launch} (hl : l.stackTraces = false) {T0 : ZTf} (h0 : zMet l yX1_addFourBytes (Cond.code yX1_addFourBytes cX1_addFourBytes 3 (Option.none : Option Jvm.ClassFile.FieldType) :: zG) rm_X1_addFourBytes 0 0 T0) {T : ZTf} (bd : zBd (cd_X8_append T0) 6 1 6 T) : zMet l yX8_append (Cond.code yX8_append cX8_append 6 (Option.some Jvm.ClassFile.FieldType.int) :: zG) rm_X8_append 1 6 T := zMet_of hl (by decide +kernel) rfl rfl rfl rfl (hs_X8_append hl h0) bd

abbrev rm_X8_errorCode : Room := { frames := 1, cells := 0, slots := 0, locals := 30 }
def cd_X8_errorCode : List (Nat × ZTr) := [(0, tAld 0 1), (1, tGetI 11 8 4), (4, tRi (fun _ => True))]
set_option maxRecDepth 100000 in
set_option maxHeartbeats 4000000 in
theorem hs_X8_errorCode {l : Launch} (hl : l.stackTraces = false) (p : Program) (e : Env) (s : State) (m : MethodId) (args : Array Value) (below : List Frame) (meth : Method) (c : Code) (D : va_G) (A : Nat → Prop) (a0 : Nat → Nat) (M0 : ZM) (K : ZRet) (KX : ZEx) (X : zCtx p l rm_X8_errorCode s m args meth c cX8_errorCode RX8 (Cond.code yX8_errorCode cX8_errorCode 1 (Option.some Jvm.ClassFile.FieldType.int) :: zG) 1 (Option.some Jvm.ClassFile.FieldType.int) D A a0 M0 0 0) (hnm : meth.name = yX8_errorCode.name) (hout : ∀ x ∈ c.exceptionTable.toList, False) : ∀ q ∈ cd_X8_errorCode, zSd p l e rm_X8_errorCode s m args below meth c 1 D A a0 M0 K KX 0 0 q.1 q.2 :=
    zall_c (zs_aload_n X (pc := 0) (q := 0) rfl (by decide +kernel)) <|
    zall_c (zs_geti X (pc := 1) zc_X8 (by decide) (zin ui_X8) (.tail _ gw_2_122) (by decide +kernel) (by decide +kernel)) <|
    zall_c (zs_iret X (pc := 4) rfl (by decide +kernel)) <|
    zall_n
theorem met_X8_errorCode {l : Launch} (hl : l.stackTraces = false) {T : ZTf} (bd : zBd (cd_X8_errorCode) 1 0 0 T) : zMet l yX8_errorCode (Cond.code yX8_errorCode cX8_errorCode 1 (Option.some Jvm.ClassFile.FieldType.int) :: zG) rm_X8_errorCode 0 0 T := zMet_of hl (by decide +kernel) rfl rfl rfl rfl (hs_X8_errorCode hl) bd

abbrev rm_X8_errorPosition : Room := { frames := 1, cells := 0, slots := 0, locals := 30 }
def cd_X8_errorPosition : List (Nat × ZTr) := [(0, tAld 0 1), (1, tGetI 11 9 4), (4, tRi (fun _ => True))]
set_option maxRecDepth 100000 in
set_option maxHeartbeats 4000000 in
theorem hs_X8_errorPosition {l : Launch} (hl : l.stackTraces = false) (p : Program) (e : Env) (s : State) (m : MethodId) (args : Array Value) (below : List Frame) (meth : Method) (c : Code) (D : va_G) (A : Nat → Prop) (a0 : Nat → Nat) (M0 : ZM) (K : ZRet) (KX : ZEx) (X : zCtx p l rm_X8_errorPosition s m args meth c cX8_errorPosition RX8 (Cond.code yX8_errorPosition cX8_errorPosition 1 (Option.some Jvm.ClassFile.FieldType.int) :: zG) 1 (Option.some Jvm.ClassFile.FieldType.int) D A a0 M0 0 0) (hnm : meth.name = yX8_errorPosition.name) (hout : ∀ x ∈ c.exceptionTable.toList, False) : ∀ q ∈ cd_X8_errorPosition, zSd p l e rm_X8_errorPosition s m args below meth c 1 D A a0 M0 K KX 0 0 q.1 q.2 :=
    zall_c (zs_aload_n X (pc := 0) (q := 0) rfl (by decide +kernel)) <|
    zall_c (zs_geti X (pc := 1) zc_X8 (by decide) (zin ui_X8) (.tail _ gw_2_123) (by decide +kernel) (by decide +kernel)) <|
    zall_c (zs_iret X (pc := 4) rfl (by decide +kernel)) <|
    zall_n
theorem met_X8_errorPosition {l : Launch} (hl : l.stackTraces = false) {T : ZTf} (bd : zBd (cd_X8_errorPosition) 1 0 0 T) : zMet l yX8_errorPosition (Cond.code yX8_errorPosition cX8_errorPosition 1 (Option.some Jvm.ClassFile.FieldType.int) :: zG) rm_X8_errorPosition 0 0 T := zMet_of hl (by decide +kernel) rfl rfl rfl rfl (hs_X8_errorPosition hl) bd

abbrev rm_X8_nextDue : Room := { frames := 4, cells := 0, slots := 0, locals := 94 }
def cd_X8_nextDue (T0 : ZTf) : List (Nat × ZTr) := [(0, tC (zi (-1)) 1), (1, tIst 1 2), (2, tC (zi 0) 3), (3, tIst 2 4), (4, tIld 2 5), (5, tAld 0 6), (6, tGetR 11 2 9), (9, tGetI 8 5 12), (12, tIc_ge 51 15), (15, tAld 0 16), (16, tGetR 11 2 19), (19, tGetR 8 7 22), (22, tIld 2 23), (23, tAal 31 24), (24, tCall0 1 T0 (zRcv 7) 27), (27, tIst 3 28), (28, tIld 3 29), (29, tC (zi (-1)) 30), (30, tIc_eq 45 33), (33, tIld 1 34), (34, tC (zi (-1)) 35), (35, tIc_eq 43 38), (38, tIld 3 39), (39, tIld 1 40), (40, tIc_ge 45 43), (43, tIld 3 44), (44, tIst 1 45), (45, tInc 2 1 48), (48, tGo 4), (51, tIld 1 52), (52, tRi (fun _ => True))]
set_option maxRecDepth 100000 in
set_option maxHeartbeats 4000000 in
theorem hs_X8_nextDue {l : Launch} (hl : l.stackTraces = false) {T0 : ZTf} (h0 : zMet l yX4_leastDue (Cond.code yX4_leastDue cX4_leastDue 3 (Option.some Jvm.ClassFile.FieldType.int) :: zG) rm_X4_leastDue 0 0 T0) (p : Program) (e : Env) (s : State) (m : MethodId) (args : Array Value) (below : List Frame) (meth : Method) (c : Code) (D : va_G) (A : Nat → Prop) (a0 : Nat → Nat) (M0 : ZM) (K : ZRet) (KX : ZEx) (X : zCtx p l rm_X8_nextDue s m args meth c cX8_nextDue RX8 (Cond.code yX8_nextDue cX8_nextDue 4 (Option.some Jvm.ClassFile.FieldType.int) :: zG) 4 (Option.some Jvm.ClassFile.FieldType.int) D A a0 M0 0 0) (hnm : meth.name = yX8_nextDue.name) (hout : ∀ x ∈ c.exceptionTable.toList, False) : ∀ q ∈ cd_X8_nextDue T0, zSd p l e rm_X8_nextDue s m args below meth c 4 D A a0 M0 K KX 0 0 q.1 q.2 :=
    zall_c (zs_iconst X (pc := 0) (by decide) (by decide +kernel)) <|
    zall_c (zs_istore_n X (pc := 1) (q := 1) rfl (by decide) (by decide +kernel)) <|
    zall_c (zs_iconst X (pc := 2) (by decide) (by decide +kernel)) <|
    zall_c (zs_istore_n X (pc := 3) (q := 2) rfl (by decide) (by decide +kernel)) <|
    zall_c (zs_iload_n X (pc := 4) (q := 2) rfl (by decide +kernel)) <|
    zall_c (zs_aload_n X (pc := 5) (q := 0) rfl (by decide +kernel)) <|
    zall_c (zs_getr X (pc := 6) zc_X8 (by decide) (zin ui_X8) (.tail _ gw_2_116) (by decide +kernel) (by decide +kernel)) <|
    zall_c (zs_geti X (pc := 9) zc_X5 (by decide) (zin ui_X5) (.tail _ gw_1_233) (by decide +kernel) (by decide +kernel)) <|
    zall_c (zs_icmp_ge X (pc := 12) (off := 39) (by decide +kernel) (by decide)) <|
    zall_c (zs_aload_n X (pc := 15) (q := 0) rfl (by decide +kernel)) <|
    zall_c (zs_getr X (pc := 16) zc_X8 (by decide) (zin ui_X8) (.tail _ gw_2_116) (by decide +kernel) (by decide +kernel)) <|
    zall_c (zs_getr X (pc := 19) zc_X5 (by decide) (zin ui_X5) (.tail _ gw_1_238) (by decide +kernel) (by decide +kernel)) <|
    zall_c (zs_iload_n X (pc := 22) (q := 2) rfl (by decide +kernel)) <|
    zall_c (zs_aaload X (pc := 23) (by decide) rfl (by decide +kernel)) <|
    zall_c (zs_callV0 X (pc := 24) zc_X4 (fun _ ht => ⟨(zCB ht gw_6_126 gw_1_10 gw_6_123 rfl rfl (by decide +kernel) ⟨Nat.le_of_ble_eq_true rfl, Nat.le_of_ble_eq_true rfl⟩), ht _ (.tail _ gw_6_124), ht _ (.tail _ gw_6_125)⟩) h0 hout (by decide +kernel)) <|
    zall_c (zs_istore_n X (pc := 27) (q := 3) rfl (by decide) (by decide +kernel)) <|
    zall_c (zs_iload_n X (pc := 28) (q := 3) rfl (by decide +kernel)) <|
    zall_c (zs_iconst X (pc := 29) (by decide) (by decide +kernel)) <|
    zall_c (zs_icmp_eq X (pc := 30) (off := 15) (by decide +kernel) (by decide)) <|
    zall_c (zs_iload_n X (pc := 33) (q := 1) rfl (by decide +kernel)) <|
    zall_c (zs_iconst X (pc := 34) (by decide) (by decide +kernel)) <|
    zall_c (zs_icmp_eq X (pc := 35) (off := 8) (by decide +kernel) (by decide)) <|
    zall_c (zs_iload_n X (pc := 38) (q := 3) rfl (by decide +kernel)) <|
    zall_c (zs_iload_n X (pc := 39) (q := 1) rfl (by decide +kernel)) <|
    zall_c (zs_icmp_ge X (pc := 40) (off := 5) (by decide +kernel) (by decide)) <|
    zall_c (zs_iload_n X (pc := 43) (q := 3) rfl (by decide +kernel)) <|
    zall_c (zs_istore_n X (pc := 44) (q := 1) rfl (by decide) (by decide +kernel)) <|
    zall_c (zs_iinc X (pc := 45) (by decide) (by decide +kernel)) <|
    zall_c (zs_goto X (pc := 48) (off := (-44)) (by decide +kernel) (by decide)) <|
    zall_c (zs_iload_n X (pc := 51) (q := 1) rfl (by decide +kernel)) <|
    zall_c (zs_iret X (pc := 52) rfl (by decide +kernel)) <|
    zall_n
theorem met_X8_nextDue {l : Launch} (hl : l.stackTraces = false) {T0 : ZTf} (h0 : zMet l yX4_leastDue (Cond.code yX4_leastDue cX4_leastDue 3 (Option.some Jvm.ClassFile.FieldType.int) :: zG) rm_X4_leastDue 0 0 T0) {T : ZTf} (bd : zBd (cd_X8_nextDue T0) 4 0 0 T) : zMet l yX8_nextDue (Cond.code yX8_nextDue cX8_nextDue 4 (Option.some Jvm.ClassFile.FieldType.int) :: zG) rm_X8_nextDue 0 0 T := zMet_of hl (by decide +kernel) rfl rfl rfl rfl (hs_X8_nextDue hl h0) bd

abbrev rm_X8_left : Room := { frames := 2, cells := 0, slots := 0, locals := 50 }
def cd_X8_left (T0 : ZTf) : List (Nat × ZTr) := [(0, tC (zi 0) 1), (1, tIst 1 2), (2, tC (zi 0) 3), (3, tIst 2 4), (4, tIld 2 5), (5, tAld 0 6), (6, tGetR 11 2 9), (9, tGetI 8 5 12), (12, tIc_ge 51 15), (15, tAld 0 16), (16, tGetR 11 2 19), (19, tGetR 8 7 22), (22, tIld 2 23), (23, tAal 31 24), (24, tCall0 1 T0 (zRcv 7) 27), (27, tIf_ne 45 30), (30, tIld 1 31), (31, tAld 0 32), (32, tGetR 11 2 35), (35, tGetR 8 7 38), (38, tIld 2 39), (39, tAal 31 40), (40, tGetI 7 0 43), (43, tAdd 44), (44, tIst 1 45), (45, tInc 2 1 48), (48, tGo 4), (51, tIld 1 52), (52, tRi (fun _ => True))]
set_option maxRecDepth 100000 in
set_option maxHeartbeats 4000000 in
theorem hs_X8_left {l : Launch} (hl : l.stackTraces = false) {T0 : ZTf} (h0 : zMet l yX4_isClosed (Cond.code yX4_isClosed cX4_isClosed 1 (Option.some Jvm.ClassFile.FieldType.boolean) :: zG) rm_X4_isClosed 0 0 T0) (p : Program) (e : Env) (s : State) (m : MethodId) (args : Array Value) (below : List Frame) (meth : Method) (c : Code) (D : va_G) (A : Nat → Prop) (a0 : Nat → Nat) (M0 : ZM) (K : ZRet) (KX : ZEx) (X : zCtx p l rm_X8_left s m args meth c cX8_left RX8 (Cond.code yX8_left cX8_left 3 (Option.some Jvm.ClassFile.FieldType.int) :: zG) 3 (Option.some Jvm.ClassFile.FieldType.int) D A a0 M0 0 0) (hnm : meth.name = yX8_left.name) (hout : ∀ x ∈ c.exceptionTable.toList, False) : ∀ q ∈ cd_X8_left T0, zSd p l e rm_X8_left s m args below meth c 3 D A a0 M0 K KX 0 0 q.1 q.2 :=
    zall_c (zs_iconst X (pc := 0) (by decide) (by decide +kernel)) <|
    zall_c (zs_istore_n X (pc := 1) (q := 1) rfl (by decide) (by decide +kernel)) <|
    zall_c (zs_iconst X (pc := 2) (by decide) (by decide +kernel)) <|
    zall_c (zs_istore_n X (pc := 3) (q := 2) rfl (by decide) (by decide +kernel)) <|
    zall_c (zs_iload_n X (pc := 4) (q := 2) rfl (by decide +kernel)) <|
    zall_c (zs_aload_n X (pc := 5) (q := 0) rfl (by decide +kernel)) <|
    zall_c (zs_getr X (pc := 6) zc_X8 (by decide) (zin ui_X8) (.tail _ gw_2_116) (by decide +kernel) (by decide +kernel)) <|
    zall_c (zs_geti X (pc := 9) zc_X5 (by decide) (zin ui_X5) (.tail _ gw_1_233) (by decide +kernel) (by decide +kernel)) <|
    zall_c (zs_icmp_ge X (pc := 12) (off := 39) (by decide +kernel) (by decide)) <|
    zall_c (zs_aload_n X (pc := 15) (q := 0) rfl (by decide +kernel)) <|
    zall_c (zs_getr X (pc := 16) zc_X8 (by decide) (zin ui_X8) (.tail _ gw_2_116) (by decide +kernel) (by decide +kernel)) <|
    zall_c (zs_getr X (pc := 19) zc_X5 (by decide) (zin ui_X5) (.tail _ gw_1_238) (by decide +kernel) (by decide +kernel)) <|
    zall_c (zs_iload_n X (pc := 22) (q := 2) rfl (by decide +kernel)) <|
    zall_c (zs_aaload X (pc := 23) (by decide) rfl (by decide +kernel)) <|
    zall_c (zs_callV0 X (pc := 24) zc_X4 (fun _ ht => ⟨(zCB ht gw_5_70 gw_1_10 gw_6_36 rfl rfl (by decide +kernel) ⟨Nat.le_of_ble_eq_true rfl, Nat.le_of_ble_eq_true rfl⟩), ht _ (.tail _ gw_5_68), ht _ (.tail _ gw_5_69)⟩) h0 hout (by decide +kernel)) <|
    zall_c (zs_if_ne X (pc := 27) (off := 18) (by decide +kernel) (by decide)) <|
    zall_c (zs_iload_n X (pc := 30) (q := 1) rfl (by decide +kernel)) <|
    zall_c (zs_aload_n X (pc := 31) (q := 0) rfl (by decide +kernel)) <|
    zall_c (zs_getr X (pc := 32) zc_X8 (by decide) (zin ui_X8) (.tail _ gw_2_116) (by decide +kernel) (by decide +kernel)) <|
    zall_c (zs_getr X (pc := 35) zc_X5 (by decide) (zin ui_X5) (.tail _ gw_1_238) (by decide +kernel) (by decide +kernel)) <|
    zall_c (zs_iload_n X (pc := 38) (q := 2) rfl (by decide +kernel)) <|
    zall_c (zs_aaload X (pc := 39) (by decide) rfl (by decide +kernel)) <|
    zall_c (zs_geti X (pc := 40) zc_X4 (by decide) (zin ui_X4) (.tail _ gw_1_169) (by decide +kernel) (by decide +kernel)) <|
    zall_c (zs_iadd X (pc := 43) (by decide +kernel)) <|
    zall_c (zs_istore_n X (pc := 44) (q := 1) rfl (by decide) (by decide +kernel)) <|
    zall_c (zs_iinc X (pc := 45) (by decide) (by decide +kernel)) <|
    zall_c (zs_goto X (pc := 48) (off := (-44)) (by decide +kernel) (by decide)) <|
    zall_c (zs_iload_n X (pc := 51) (q := 1) rfl (by decide +kernel)) <|
    zall_c (zs_iret X (pc := 52) rfl (by decide +kernel)) <|
    zall_n
theorem met_X8_left {l : Launch} (hl : l.stackTraces = false) {T0 : ZTf} (h0 : zMet l yX4_isClosed (Cond.code yX4_isClosed cX4_isClosed 1 (Option.some Jvm.ClassFile.FieldType.boolean) :: zG) rm_X4_isClosed 0 0 T0) {T : ZTf} (bd : zBd (cd_X8_left T0) 3 0 0 T) : zMet l yX8_left (Cond.code yX8_left cX8_left 3 (Option.some Jvm.ClassFile.FieldType.int) :: zG) rm_X8_left 0 0 T := zMet_of hl (by decide +kernel) rfl rfl rfl rfl (hs_X8_left hl h0) bd

abbrev rm_X8_requireRange : Room := { frames := 6, cells := 1, slots := 6, locals := 90 }
def cd_X8_requireRange : List (Nat × ZTr) := [(0, tIld 0 1), (1, tIld 1 2), (2, tIc_lt 10 5), (5, tIld 0 6), (6, tIld 2 7), (7, tIc_le 21 10), (10, tThr 1), (21, tRv)]
set_option maxRecDepth 100000 in
set_option maxHeartbeats 4000000 in
theorem hs_X8_requireRange {l : Launch} (hl : l.stackTraces = false) (p : Program) (e : Env) (s : State) (m : MethodId) (args : Array Value) (below : List Frame) (meth : Method) (c : Code) (D : va_G) (A : Nat → Prop) (a0 : Nat → Nat) (M0 : ZM) (K : ZRet) (KX : ZEx) (X : zCtx p l rm_X8_requireRange s m args meth c cX8_requireRange RX8 (Cond.code yX8_requireRange cX8_requireRange 3 (Option.none : Option Jvm.ClassFile.FieldType) :: zG) 3 (Option.none : Option Jvm.ClassFile.FieldType) D A a0 M0 1 6) (hnm : meth.name = yX8_requireRange.name) (hout : ∀ x ∈ c.exceptionTable.toList, False) : ∀ q ∈ cd_X8_requireRange, zSd p l e rm_X8_requireRange s m args below meth c 3 D A a0 M0 K KX 1 6 q.1 q.2 :=
    zall_c (zs_iload_n X (pc := 0) (q := 0) rfl (by decide +kernel)) <|
    zall_c (zs_iload_n X (pc := 1) (q := 1) rfl (by decide +kernel)) <|
    zall_c (zs_icmp_lt X (pc := 2) (off := 8) (by decide +kernel) (by decide)) <|
    zall_c (zs_iload_n X (pc := 5) (q := 0) rfl (by decide +kernel)) <|
    zall_c (zs_iload_n X (pc := 6) (q := 2) rfl (by decide +kernel)) <|
    zall_c (zs_icmp_le X (pc := 7) (off := 14) (by decide +kernel) (by decide)) <|
    zall_c (zs_throww X (pc := 10) (ik := 338) (is := 403) (ic := 342) (cls := "java/lang/IllegalArgumentException") (text := "a value is out of range") (names := ["java/lang/RuntimeException", "java/lang/Exception"]) rfl (by decide +kernel) (by decide +kernel) (.tail _ gw_2_152) (.tail _ gw_1_25) (by decide +kernel) (zin gt_X8_342) gt_X8_342x (by decide +kernel) hout (by decide) (by decide) (by decide +kernel) (by decide +kernel) (by decide +kernel) (by decide +kernel) (by decide +kernel)) <|
    zall_c (zs_vret X (pc := 21) rfl (by decide +kernel)) <|
    zall_n
theorem met_X8_requireRange {l : Launch} (hl : l.stackTraces = false) {T : ZTf} (bd : zBd (cd_X8_requireRange) 3 1 6 T) : zMet l yX8_requireRange (Cond.code yX8_requireRange cX8_requireRange 3 (Option.none : Option Jvm.ClassFile.FieldType) :: zG) rm_X8_requireRange 1 6 T := zMet_of hl (by decide +kernel) rfl rfl rfl rfl (hs_X8_requireRange hl) bd

abbrev rm_X8_requireSetting : Room := { frames := 7, cells := 3, slots := 18, locals := 112 }
def cd_X8_requireSetting (T0 : ZTf) : List (Nat × ZTr) := [(0, tIld 0 1), (1, tSw [(0, 28), (1, 38)] 48), (28, tIld 1 29), (29, tC (zi 0) 30), (30, tC (zi 20) 32), (32, tCall 3 1 6 T0 zAny 35), (35, tGo 55), (38, tIld 1 39), (39, tC (zi 1) 40), (40, tC (zi 50) 42), (42, tCall 3 1 6 T0 zAny 45), (45, tGo 55), (48, tIld 1 49), (49, tC (zi 0) 50), (50, tC (zi 19) 52), (52, tCall 3 1 6 T0 zAny 55), (55, tRv)]
set_option maxRecDepth 100000 in
set_option maxHeartbeats 4000000 in
theorem hs_X8_requireSetting {l : Launch} (hl : l.stackTraces = false) {T0 : ZTf} (h0 : zMet l yX8_requireRange (Cond.code yX8_requireRange cX8_requireRange 3 (Option.none : Option Jvm.ClassFile.FieldType) :: zG) rm_X8_requireRange 1 6 T0) (p : Program) (e : Env) (s : State) (m : MethodId) (args : Array Value) (below : List Frame) (meth : Method) (c : Code) (D : va_G) (A : Nat → Prop) (a0 : Nat → Nat) (M0 : ZM) (K : ZRet) (KX : ZEx) (X : zCtx p l rm_X8_requireSetting s m args meth c cX8_requireSetting RX8 (Cond.code yX8_requireSetting cX8_requireSetting 2 (Option.none : Option Jvm.ClassFile.FieldType) :: zG) 2 (Option.none : Option Jvm.ClassFile.FieldType) D A a0 M0 3 18) (hnm : meth.name = yX8_requireSetting.name) (hout : ∀ x ∈ c.exceptionTable.toList, False) : ∀ q ∈ cd_X8_requireSetting T0, zSd p l e rm_X8_requireSetting s m args below meth c 2 D A a0 M0 K KX 3 18 q.1 q.2 :=
    zall_c (zs_iload_n X (pc := 0) (q := 0) rfl (by decide +kernel)) <|
    zall_c (zs_lookup X (pc := 1) (df := 47) (ps := #[(0, 27), (1, 37)]) (len := 27) (by decide +kernel) (by decide +kernel) (by decide) (by decide +kernel) (by decide +kernel)) <|
    zall_c (zs_iload_n X (pc := 28) (q := 1) rfl (by decide +kernel)) <|
    zall_c (zs_iconst X (pc := 29) (by decide) (by decide +kernel)) <|
    zall_c (zs_bipush X (pc := 30) (by decide) (by decide +kernel) (by decide +kernel)) <|
    zall_c (zs_callS X (pc := 32) (fun _ ht => ⟨(zCB ht gw_2_151 gw_1_1 gw_2_149 rfl rfl (by decide +kernel) ⟨Nat.le_of_ble_eq_true rfl, Nat.le_of_ble_eq_true rfl⟩), ht _ (.tail _ gw_2_150)⟩) h0 hout (by decide +kernel)) <|
    zall_c (zs_goto X (pc := 35) (off := 20) (by decide +kernel) (by decide)) <|
    zall_c (zs_iload_n X (pc := 38) (q := 1) rfl (by decide +kernel)) <|
    zall_c (zs_iconst X (pc := 39) (by decide) (by decide +kernel)) <|
    zall_c (zs_bipush X (pc := 40) (by decide) (by decide +kernel) (by decide +kernel)) <|
    zall_c (zs_callS X (pc := 42) (fun _ ht => ⟨(zCB ht gw_2_151 gw_1_1 gw_2_149 rfl rfl (by decide +kernel) ⟨Nat.le_of_ble_eq_true rfl, Nat.le_of_ble_eq_true rfl⟩), ht _ (.tail _ gw_2_150)⟩) h0 hout (by decide +kernel)) <|
    zall_c (zs_goto X (pc := 45) (off := 10) (by decide +kernel) (by decide)) <|
    zall_c (zs_iload_n X (pc := 48) (q := 1) rfl (by decide +kernel)) <|
    zall_c (zs_iconst X (pc := 49) (by decide) (by decide +kernel)) <|
    zall_c (zs_bipush X (pc := 50) (by decide) (by decide +kernel) (by decide +kernel)) <|
    zall_c (zs_callS X (pc := 52) (fun _ ht => ⟨(zCB ht gw_2_151 gw_1_1 gw_2_149 rfl rfl (by decide +kernel) ⟨Nat.le_of_ble_eq_true rfl, Nat.le_of_ble_eq_true rfl⟩), ht _ (.tail _ gw_2_150)⟩) h0 hout (by decide +kernel)) <|
    zall_c (zs_vret X (pc := 55) rfl (by decide +kernel)) <|
    zall_n
theorem met_X8_requireSetting {l : Launch} (hl : l.stackTraces = false) {T0 : ZTf} (h0 : zMet l yX8_requireRange (Cond.code yX8_requireRange cX8_requireRange 3 (Option.none : Option Jvm.ClassFile.FieldType) :: zG) rm_X8_requireRange 1 6 T0) {T : ZTf} (bd : zBd (cd_X8_requireSetting T0) 2 3 18 T) : zMet l yX8_requireSetting (Cond.code yX8_requireSetting cX8_requireSetting 2 (Option.none : Option Jvm.ClassFile.FieldType) :: zG) rm_X8_requireSetting 3 18 T := zMet_of hl (by decide +kernel) rfl rfl rfl rfl (hs_X8_requireSetting hl h0) bd

abbrev rm_X8_requireWorker : Room := { frames := 6, cells := 1, slots := 6, locals := 90 }
def cd_X8_requireWorker : List (Nat × ZTr) := [(0, tIld 1 1), (1, tIf_lt 15 4), (4, tIld 1 5), (5, tAld 0 6), (6, tGetR 11 2 9), (9, tGetI 8 4 12), (12, tIc_lt 26 15), (15, tThr 0), (26, tRv)]
set_option maxRecDepth 100000 in
set_option maxHeartbeats 4000000 in
theorem hs_X8_requireWorker {l : Launch} (hl : l.stackTraces = false) (p : Program) (e : Env) (s : State) (m : MethodId) (args : Array Value) (below : List Frame) (meth : Method) (c : Code) (D : va_G) (A : Nat → Prop) (a0 : Nat → Nat) (M0 : ZM) (K : ZRet) (KX : ZEx) (X : zCtx p l rm_X8_requireWorker s m args meth c cX8_requireWorker RX8 (Cond.code yX8_requireWorker cX8_requireWorker 2 (Option.none : Option Jvm.ClassFile.FieldType) :: zG) 2 (Option.none : Option Jvm.ClassFile.FieldType) D A a0 M0 1 6) (hnm : meth.name = yX8_requireWorker.name) (hout : ∀ x ∈ c.exceptionTable.toList, False) : ∀ q ∈ cd_X8_requireWorker, zSd p l e rm_X8_requireWorker s m args below meth c 2 D A a0 M0 K KX 1 6 q.1 q.2 :=
    zall_c (zs_iload_n X (pc := 0) (q := 1) rfl (by decide +kernel)) <|
    zall_c (zs_if_lt X (pc := 1) (off := 14) (by decide +kernel) (by decide)) <|
    zall_c (zs_iload_n X (pc := 4) (q := 1) rfl (by decide +kernel)) <|
    zall_c (zs_aload_n X (pc := 5) (q := 0) rfl (by decide +kernel)) <|
    zall_c (zs_getr X (pc := 6) zc_X8 (by decide) (zin ui_X8) (.tail _ gw_2_116) (by decide +kernel) (by decide +kernel)) <|
    zall_c (zs_geti X (pc := 9) zc_X5 (by decide) (zin ui_X5) (.tail _ gw_1_230) (by decide +kernel) (by decide +kernel)) <|
    zall_c (zs_icmp_lt X (pc := 12) (off := 14) (by decide +kernel) (by decide)) <|
    zall_c (zs_throww X (pc := 15) (ik := 201) (is := 407) (ic := 205) (cls := "java/lang/IndexOutOfBoundsException") (text := "no such worker") (names := ["java/lang/RuntimeException", "java/lang/Exception"]) rfl (by decide +kernel) (by decide +kernel) (.tail _ gw_5_30) (.tail _ gw_1_28) (by decide +kernel) (zin gt_X8_205) gt_X8_205x (by decide +kernel) hout (by decide) (by decide) (by decide +kernel) (by decide +kernel) (by decide +kernel) (by decide +kernel) (by decide +kernel)) <|
    zall_c (zs_vret X (pc := 26) rfl (by decide +kernel)) <|
    zall_n
theorem met_X8_requireWorker {l : Launch} (hl : l.stackTraces = false) {T : ZTf} (bd : zBd (cd_X8_requireWorker) 2 1 6 T) : zMet l yX8_requireWorker (Cond.code yX8_requireWorker cX8_requireWorker 2 (Option.none : Option Jvm.ClassFile.FieldType) :: zG) rm_X8_requireWorker 1 6 T := zMet_of hl (by decide +kernel) rfl rfl rfl rfl (hs_X8_requireWorker hl) bd

abbrev rm_X8_requireRow : Room := { frames := 6, cells := 1, slots := 6, locals := 90 }
def cd_X8_requireRow : List (Nat × ZTr) := [(0, tIld 1 1), (1, tIf_lt 15 4), (4, tIld 1 5), (5, tAld 0 6), (6, tGetR 11 2 9), (9, tGetI 8 5 12), (12, tIc_lt 26 15), (15, tThr 0), (26, tRv)]
set_option maxRecDepth 100000 in
set_option maxHeartbeats 4000000 in
theorem hs_X8_requireRow {l : Launch} (hl : l.stackTraces = false) (p : Program) (e : Env) (s : State) (m : MethodId) (args : Array Value) (below : List Frame) (meth : Method) (c : Code) (D : va_G) (A : Nat → Prop) (a0 : Nat → Nat) (M0 : ZM) (K : ZRet) (KX : ZEx) (X : zCtx p l rm_X8_requireRow s m args meth c cX8_requireRow RX8 (Cond.code yX8_requireRow cX8_requireRow 2 (Option.none : Option Jvm.ClassFile.FieldType) :: zG) 2 (Option.none : Option Jvm.ClassFile.FieldType) D A a0 M0 1 6) (hnm : meth.name = yX8_requireRow.name) (hout : ∀ x ∈ c.exceptionTable.toList, False) : ∀ q ∈ cd_X8_requireRow, zSd p l e rm_X8_requireRow s m args below meth c 2 D A a0 M0 K KX 1 6 q.1 q.2 :=
    zall_c (zs_iload_n X (pc := 0) (q := 1) rfl (by decide +kernel)) <|
    zall_c (zs_if_lt X (pc := 1) (off := 14) (by decide +kernel) (by decide)) <|
    zall_c (zs_iload_n X (pc := 4) (q := 1) rfl (by decide +kernel)) <|
    zall_c (zs_aload_n X (pc := 5) (q := 0) rfl (by decide +kernel)) <|
    zall_c (zs_getr X (pc := 6) zc_X8 (by decide) (zin ui_X8) (.tail _ gw_2_116) (by decide +kernel) (by decide +kernel)) <|
    zall_c (zs_geti X (pc := 9) zc_X5 (by decide) (zin ui_X5) (.tail _ gw_1_233) (by decide +kernel) (by decide +kernel)) <|
    zall_c (zs_icmp_lt X (pc := 12) (off := 14) (by decide +kernel) (by decide)) <|
    zall_c (zs_throww X (pc := 15) (ik := 201) (is := 409) (ic := 205) (cls := "java/lang/IndexOutOfBoundsException") (text := "no such row") (names := ["java/lang/RuntimeException", "java/lang/Exception"]) rfl (by decide +kernel) (by decide +kernel) (.tail _ gw_5_30) (.tail _ gw_1_28) (by decide +kernel) (zin gt_X8_205) gt_X8_205x (by decide +kernel) hout (by decide) (by decide) (by decide +kernel) (by decide +kernel) (by decide +kernel) (by decide +kernel) (by decide +kernel)) <|
    zall_c (zs_vret X (pc := 26) rfl (by decide +kernel)) <|
    zall_n
theorem met_X8_requireRow {l : Launch} (hl : l.stackTraces = false) {T : ZTf} (bd : zBd (cd_X8_requireRow) 2 1 6 T) : zMet l yX8_requireRow (Cond.code yX8_requireRow cX8_requireRow 2 (Option.none : Option Jvm.ClassFile.FieldType) :: zG) rm_X8_requireRow 1 6 T := zMet_of hl (by decide +kernel) rfl rfl rfl rfl (hs_X8_requireRow hl) bd

abbrev rm_X8_requireInWork : Room := { frames := 6, cells := 1, slots := 6, locals := 90 }
def cd_X8_requireInWork (T0 : ZTf) (T1 : ZTf) : List (Nat × ZTr) := [(0, tAld 0 1), (1, tGetR 11 2 4), (4, tGetR 8 7 7), (7, tIld 2 8), (8, tAal 31 9), (9, tIld 1 10), (10, tCall0 2 T0 (zRcv 7) 13), (13, tIst 3 14), (14, tIld 3 15), (15, tC (zi (-1)) 16), (16, tIc_eq 35 19), (19, tAld 0 20), (20, tGetR 11 2 23), (23, tGetR 8 7 26), (26, tIld 2 27), (27, tAal 31 28), (28, tIld 3 29), (29, tCall0 2 T1 (zRcv 7) 32), (32, tIf_ne 46 35), (35, tThr 2), (46, tIld 3 47), (47, tRi (fun _ => True))]
set_option maxRecDepth 100000 in
set_option maxHeartbeats 4000000 in
theorem hs_X8_requireInWork {l : Launch} (hl : l.stackTraces = false) {T0 : ZTf} {T1 : ZTf} (h0 : zMet l yX4_takingBy (Cond.code yX4_takingBy cX4_takingBy 3 (Option.some Jvm.ClassFile.FieldType.int) :: zG) rm_X4_takingBy 0 0 T0) (h1 : zMet l yX4_isInWork (Cond.code yX4_isInWork cX4_isInWork 2 (Option.some Jvm.ClassFile.FieldType.boolean) :: zG) rm_X4_isInWork 0 0 T1) (p : Program) (e : Env) (s : State) (m : MethodId) (args : Array Value) (below : List Frame) (meth : Method) (c : Code) (D : va_G) (A : Nat → Prop) (a0 : Nat → Nat) (M0 : ZM) (K : ZRet) (KX : ZEx) (X : zCtx p l rm_X8_requireInWork s m args meth c cX8_requireInWork RX8 (Cond.code yX8_requireInWork cX8_requireInWork 4 (Option.some Jvm.ClassFile.FieldType.int) :: zG) 4 (Option.some Jvm.ClassFile.FieldType.int) D A a0 M0 1 6) (hnm : meth.name = yX8_requireInWork.name) (hout : ∀ x ∈ c.exceptionTable.toList, False) : ∀ q ∈ cd_X8_requireInWork T0 T1, zSd p l e rm_X8_requireInWork s m args below meth c 4 D A a0 M0 K KX 1 6 q.1 q.2 :=
    zall_c (zs_aload_n X (pc := 0) (q := 0) rfl (by decide +kernel)) <|
    zall_c (zs_getr X (pc := 1) zc_X8 (by decide) (zin ui_X8) (.tail _ gw_2_116) (by decide +kernel) (by decide +kernel)) <|
    zall_c (zs_getr X (pc := 4) zc_X5 (by decide) (zin ui_X5) (.tail _ gw_1_238) (by decide +kernel) (by decide +kernel)) <|
    zall_c (zs_iload_n X (pc := 7) (q := 2) rfl (by decide +kernel)) <|
    zall_c (zs_aaload X (pc := 8) (by decide) rfl (by decide +kernel)) <|
    zall_c (zs_iload_n X (pc := 9) (q := 1) rfl (by decide +kernel)) <|
    zall_c (zs_callV0 X (pc := 10) zc_X4 (fun _ ht => ⟨(zCB ht gw_5_174 gw_1_10 gw_5_171 rfl rfl (by decide +kernel) ⟨Nat.le_of_ble_eq_true rfl, Nat.le_of_ble_eq_true rfl⟩), ht _ (.tail _ gw_5_172), ht _ (.tail _ gw_5_173)⟩) h0 hout (by decide +kernel)) <|
    zall_c (zs_istore_n X (pc := 13) (q := 3) rfl (by decide) (by decide +kernel)) <|
    zall_c (zs_iload_n X (pc := 14) (q := 3) rfl (by decide +kernel)) <|
    zall_c (zs_iconst X (pc := 15) (by decide) (by decide +kernel)) <|
    zall_c (zs_icmp_eq X (pc := 16) (off := 19) (by decide +kernel) (by decide)) <|
    zall_c (zs_aload_n X (pc := 19) (q := 0) rfl (by decide +kernel)) <|
    zall_c (zs_getr X (pc := 20) zc_X8 (by decide) (zin ui_X8) (.tail _ gw_2_116) (by decide +kernel) (by decide +kernel)) <|
    zall_c (zs_getr X (pc := 23) zc_X5 (by decide) (zin ui_X5) (.tail _ gw_1_238) (by decide +kernel) (by decide +kernel)) <|
    zall_c (zs_iload_n X (pc := 26) (q := 2) rfl (by decide +kernel)) <|
    zall_c (zs_aaload X (pc := 27) (by decide) rfl (by decide +kernel)) <|
    zall_c (zs_iload_n X (pc := 28) (q := 3) rfl (by decide +kernel)) <|
    zall_c (zs_callV0 X (pc := 29) zc_X4 (fun _ ht => ⟨(zCB ht gw_5_88 gw_1_10 gw_5_85 rfl rfl (by decide +kernel) ⟨Nat.le_of_ble_eq_true rfl, Nat.le_of_ble_eq_true rfl⟩), ht _ (.tail _ gw_5_86), ht _ (.tail _ gw_5_87)⟩) h1 hout (by decide +kernel)) <|
    zall_c (zs_if_ne X (pc := 32) (off := 14) (by decide +kernel) (by decide)) <|
    zall_c (zs_throww X (pc := 35) (ik := 69) (is := 411) (ic := 73) (cls := "java/lang/IllegalStateException") (text := "the worker has not this row in work") (names := ["java/lang/RuntimeException", "java/lang/Exception"]) rfl (by decide +kernel) (by decide +kernel) (.tail _ gw_4_33) (.tail _ gw_1_24) (by decide +kernel) (zin gt_X8_73) gt_X8_73x (by decide +kernel) hout (by decide) (by decide) (by decide +kernel) (by decide +kernel) (by decide +kernel) (by decide +kernel) (by decide +kernel)) <|
    zall_c (zs_iload_n X (pc := 46) (q := 3) rfl (by decide +kernel)) <|
    zall_c (zs_iret X (pc := 47) rfl (by decide +kernel)) <|
    zall_n
theorem met_X8_requireInWork {l : Launch} (hl : l.stackTraces = false) {T0 : ZTf} {T1 : ZTf} (h0 : zMet l yX4_takingBy (Cond.code yX4_takingBy cX4_takingBy 3 (Option.some Jvm.ClassFile.FieldType.int) :: zG) rm_X4_takingBy 0 0 T0) (h1 : zMet l yX4_isInWork (Cond.code yX4_isInWork cX4_isInWork 2 (Option.some Jvm.ClassFile.FieldType.boolean) :: zG) rm_X4_isInWork 0 0 T1) {T : ZTf} (bd : zBd (cd_X8_requireInWork T0 T1) 4 1 6 T) : zMet l yX8_requireInWork (Cond.code yX8_requireInWork cX8_requireInWork 4 (Option.some Jvm.ClassFile.FieldType.int) :: zG) rm_X8_requireInWork 1 6 T := zMet_of hl (by decide +kernel) rfl rfl rfl rfl (hs_X8_requireInWork hl h0 h1) bd

abbrev rm_X8_withinTrust : Room := { frames := 1, cells := 0, slots := 0, locals := 30 }
def cd_X8_withinTrust : List (Nat × ZTr) := [(0, tC (zi 0) 1), (1, tC (zi 20) 3), (3, tIld 0 4), (4, tMth2 zmin 7), (7, tMth2 zmax 10), (10, tRi (fun _ => True))]
set_option maxRecDepth 100000 in
set_option maxHeartbeats 4000000 in
theorem hs_X8_withinTrust {l : Launch} (hl : l.stackTraces = false) (p : Program) (e : Env) (s : State) (m : MethodId) (args : Array Value) (below : List Frame) (meth : Method) (c : Code) (D : va_G) (A : Nat → Prop) (a0 : Nat → Nat) (M0 : ZM) (K : ZRet) (KX : ZEx) (X : zCtx p l rm_X8_withinTrust s m args meth c cX8_withinTrust RX8 (Cond.code yX8_withinTrust cX8_withinTrust 1 (Option.some Jvm.ClassFile.FieldType.int) :: zG) 1 (Option.some Jvm.ClassFile.FieldType.int) D A a0 M0 0 0) (hnm : meth.name = yX8_withinTrust.name) (hout : ∀ x ∈ c.exceptionTable.toList, False) : ∀ q ∈ cd_X8_withinTrust, zSd p l e rm_X8_withinTrust s m args below meth c 1 D A a0 M0 K KX 0 0 q.1 q.2 :=
    zall_c (zs_iconst X (pc := 0) (by decide) (by decide +kernel)) <|
    zall_c (zs_bipush X (pc := 1) (by decide) (by decide +kernel) (by decide +kernel)) <|
    zall_c (zs_iload_n X (pc := 3) (q := 0) rfl (by decide +kernel)) <|
    zall_c (zs_mmin X (pc := 4) (.tail _ gw_5_223) (.tail _ gw_3_59) (.tail _ gw_1_14) (.tail _ gw_3_60) (Nat.le_of_ble_eq_true rfl) (Nat.le_of_ble_eq_true rfl) (by decide +kernel)) <|
    zall_c (zs_mmax X (pc := 7) (.tail _ gw_5_224) (.tail _ gw_3_42) (.tail _ gw_1_14) (.tail _ gw_3_43) (Nat.le_of_ble_eq_true rfl) (Nat.le_of_ble_eq_true rfl) (by decide +kernel)) <|
    zall_c (zs_iret X (pc := 10) rfl (by decide +kernel)) <|
    zall_n
theorem met_X8_withinTrust {l : Launch} (hl : l.stackTraces = false) {T : ZTf} (bd : zBd (cd_X8_withinTrust) 1 0 0 T) : zMet l yX8_withinTrust (Cond.code yX8_withinTrust cX8_withinTrust 1 (Option.some Jvm.ClassFile.FieldType.int) :: zG) rm_X8_withinTrust 0 0 T := zMet_of hl (by decide +kernel) rfl rfl rfl rfl (hs_X8_withinTrust hl) bd

abbrev rm_J5_init_d00df : Room := { frames := 1, cells := 1, slots := 16, locals := 30 }
def cd_J5_init_d00df : List (Nat × ZTr) := [(0, tAld 0 1), (1, tObj 4), (4, tC (zi 1) 7), (7, tIf_eq 25 10), (10, tAld 0 11), (11, tIld 1 12), (12, tNewA 21 14), (14, tPutR 1 0 17), (17, tAld 0 18), (18, tC (zi 0) 19), (19, tPutI 1 1 zPb 22), (22, tGo 38), (25, tNo), (38, tRv)]
set_option maxRecDepth 100000 in
set_option maxHeartbeats 4000000 in
theorem hs_J5_init_d00df {l : Launch} (hl : l.stackTraces = false) (p : Program) (e : Env) (s : State) (m : MethodId) (args : Array Value) (below : List Frame) (meth : Method) (c : Code) (D : va_G) (A : Nat → Prop) (a0 : Nat → Nat) (M0 : ZM) (K : ZRet) (KX : ZEx) (X : zCtx p l rm_J5_init_d00df s m args meth c cJ5_init_d00df RJ5 (Cond.code yJ5_init_d00df cJ5_init_d00df 2 (Option.none : Option Jvm.ClassFile.FieldType) :: zG) 2 (Option.none : Option Jvm.ClassFile.FieldType) D A a0 M0 1 16) (hnm : meth.name = yJ5_init_d00df.name) (hout : ∀ x ∈ c.exceptionTable.toList, False) : ∀ q ∈ cd_J5_init_d00df, zSd p l e rm_J5_init_d00df s m args below meth c 2 D A a0 M0 K KX 1 16 q.1 q.2 :=
    zall_c (zs_aload_n X (pc := 0) (q := 0) rfl (by decide +kernel)) <|
    zall_c (zs_objinit X (pc := 1) (.tail _ gw_1_57) (.tail _ gw_1_35) (.tail _ gw_1_36) (by decide) (by decide) (by decide +kernel)) <|
    zall_c (zs_gets X (pc := 4) (C := "java/lang/String") (n1 := "COMPACT_STRINGS") (d1 := "Z") (List.mem_of_getElem? (i := 12) rfl) (.tail _ gw_1_58) (by decide +kernel)) <|
    zall_c (zs_if_eq X (pc := 7) (off := 18) (by decide +kernel) (by decide)) <|
    zall_c (zs_aload_n X (pc := 10) (q := 0) rfl (by decide +kernel)) <|
    zall_c (zs_iload_n X (pc := 11) (q := 1) rfl (by decide +kernel)) <|
    zall_c (zs_newarray21 X (pc := 12) (.tail _ gw_1_82) (by decide +kernel)) <|
    zall_c (zs_putr X (pc := 14) (ty := (Jvm.ClassFile.FieldType.array Jvm.ClassFile.FieldType.byte)) zc_J4 (by decide) (zin ui_J4) tyJ4_ok nmJ4 (.tail _ gw_1_67) rfl (by decide +kernel) (by decide +kernel) (by decide +kernel) zP_arr) <|
    zall_c (zs_aload_n X (pc := 17) (q := 0) rfl (by decide +kernel)) <|
    zall_c (zs_iconst X (pc := 18) (by decide) (by decide +kernel)) <|
    zall_c (zs_puti X (pc := 19) (ty := Jvm.ClassFile.FieldType.byte) zc_J4 (by decide) (zin ui_J4) tyJ4_ok nmJ4 (.tail _ gw_1_68) rfl (by decide +kernel) (by decide +kernel) (by decide +kernel) zP_byte) <|
    zall_c (zs_goto X (pc := 22) (off := 16) (by decide +kernel) (by decide)) <|
    zall_c (zs_no (pc := 25)) <|
    zall_c (zs_vret X (pc := 38) rfl (by decide +kernel)) <|
    zall_n
theorem met_J5_init_d00df {l : Launch} (hl : l.stackTraces = false) {T : ZTf} (bd : zBd (cd_J5_init_d00df) 2 1 16 T) : zMet l yJ5_init_d00df (Cond.code yJ5_init_d00df cJ5_init_d00df 2 (Option.none : Option Jvm.ClassFile.FieldType) :: zG) rm_J5_init_d00df 1 16 T := zMet_of hl (by decide +kernel) rfl rfl rfl rfl (hs_J5_init_d00df hl) bd

abbrev rm_J5_length_8abf5 : Room := { frames := 1, cells := 0, slots := 0, locals := 30 }
def cd_J5_length_8abf5 : List (Nat × ZTr) := [(0, tAld 0 1), (1, tGetI 1 3 4), (4, tRi (fun _ => True))]
set_option maxRecDepth 100000 in
set_option maxHeartbeats 4000000 in
theorem hs_J5_length_8abf5 {l : Launch} (hl : l.stackTraces = false) (p : Program) (e : Env) (s : State) (m : MethodId) (args : Array Value) (below : List Frame) (meth : Method) (c : Code) (D : va_G) (A : Nat → Prop) (a0 : Nat → Nat) (M0 : ZM) (K : ZRet) (KX : ZEx) (X : zCtx p l rm_J5_length_8abf5 s m args meth c cJ5_length_8abf5 RJ5 (Cond.code yJ5_length_8abf5 cJ5_length_8abf5 1 (Option.some Jvm.ClassFile.FieldType.int) :: zG) 1 (Option.some Jvm.ClassFile.FieldType.int) D A a0 M0 0 0) (hnm : meth.name = yJ5_length_8abf5.name) (hout : ∀ x ∈ c.exceptionTable.toList, False) : ∀ q ∈ cd_J5_length_8abf5, zSd p l e rm_J5_length_8abf5 s m args below meth c 1 D A a0 M0 K KX 0 0 q.1 q.2 :=
    zall_c (zs_aload_n X (pc := 0) (q := 0) rfl (by decide +kernel)) <|
    zall_c (zs_geti X (pc := 1) zc_J4 (by decide) (zin ui_J4) (.tail _ gw_1_71) (by decide +kernel) (by decide +kernel)) <|
    zall_c (zs_iret X (pc := 4) rfl (by decide +kernel)) <|
    zall_n
theorem met_J5_length_8abf5 {l : Launch} (hl : l.stackTraces = false) {T : ZTf} (bd : zBd (cd_J5_length_8abf5) 1 0 0 T) : zMet l yJ5_length_8abf5 (Cond.code yJ5_length_8abf5 cJ5_length_8abf5 1 (Option.some Jvm.ClassFile.FieldType.int) :: zG) rm_J5_length_8abf5 0 0 T := zMet_of hl (by decide +kernel) rfl rfl rfl rfl (hs_J5_length_8abf5 hl) bd

abbrev rm_J5_getValue_6d5f1 : Room := { frames := 1, cells := 0, slots := 0, locals := 30 }
def cd_J5_getValue_6d5f1 : List (Nat × ZTr) := [(0, tAld 0 1), (1, tGetR 1 0 4), (4, tRa)]
set_option maxRecDepth 100000 in
set_option maxHeartbeats 4000000 in
theorem hs_J5_getValue_6d5f1 {l : Launch} (hl : l.stackTraces = false) (p : Program) (e : Env) (s : State) (m : MethodId) (args : Array Value) (below : List Frame) (meth : Method) (c : Code) (D : va_G) (A : Nat → Prop) (a0 : Nat → Nat) (M0 : ZM) (K : ZRet) (KX : ZEx) (X : zCtx p l rm_J5_getValue_6d5f1 s m args meth c cJ5_getValue_6d5f1 RJ5 (Cond.code yJ5_getValue_6d5f1 cJ5_getValue_6d5f1 1 (Option.some (Jvm.ClassFile.FieldType.array Jvm.ClassFile.FieldType.byte)) :: zG) 1 (Option.some (Jvm.ClassFile.FieldType.array Jvm.ClassFile.FieldType.byte)) D A a0 M0 0 0) (hnm : meth.name = yJ5_getValue_6d5f1.name) (hout : ∀ x ∈ c.exceptionTable.toList, False) : ∀ q ∈ cd_J5_getValue_6d5f1, zSd p l e rm_J5_getValue_6d5f1 s m args below meth c 1 D A a0 M0 K KX 0 0 q.1 q.2 :=
    zall_c (zs_aload_n X (pc := 0) (q := 0) rfl (by decide +kernel)) <|
    zall_c (zs_getr X (pc := 1) zc_J4 (by decide) (zin ui_J4) (.tail _ gw_1_67) (by decide +kernel) (by decide +kernel)) <|
    zall_c (zs_aret X (pc := 4) rfl (Or.inr ⟨_, rfl⟩) (by decide +kernel)) <|
    zall_n
theorem met_J5_getValue_6d5f1 {l : Launch} (hl : l.stackTraces = false) {T : ZTf} (bd : zBd (cd_J5_getValue_6d5f1) 1 0 0 T) : zMet l yJ5_getValue_6d5f1 (Cond.code yJ5_getValue_6d5f1 cJ5_getValue_6d5f1 1 (Option.some (Jvm.ClassFile.FieldType.array Jvm.ClassFile.FieldType.byte)) :: zG) rm_J5_getValue_6d5f1 0 0 T := zMet_of hl (by decide +kernel) rfl rfl rfl rfl (hs_J5_getValue_6d5f1 hl) bd

abbrev rm_J5_isLatin1_aae02 : Room := { frames := 1, cells := 0, slots := 0, locals := 30 }
def cd_J5_isLatin1_aae02 : List (Nat × ZTr) := [(0, tC (zi 1) 3), (3, tIf_eq 17 6), (6, tAld 0 7), (7, tGetI 1 1 10), (10, tIf_ne 17 13), (13, tC (zi 1) 14), (14, tGo 18), (17, tC (zi 0) 18), (18, tRi zPz)]
set_option maxRecDepth 100000 in
set_option maxHeartbeats 4000000 in
theorem hs_J5_isLatin1_aae02 {l : Launch} (hl : l.stackTraces = false) (p : Program) (e : Env) (s : State) (m : MethodId) (args : Array Value) (below : List Frame) (meth : Method) (c : Code) (D : va_G) (A : Nat → Prop) (a0 : Nat → Nat) (M0 : ZM) (K : ZRet) (KX : ZEx) (X : zCtx p l rm_J5_isLatin1_aae02 s m args meth c cJ5_isLatin1_aae02 RJ5 (Cond.code yJ5_isLatin1_aae02 cJ5_isLatin1_aae02 1 (Option.some Jvm.ClassFile.FieldType.boolean) :: zG) 1 (Option.some Jvm.ClassFile.FieldType.boolean) D A a0 M0 0 0) (hnm : meth.name = yJ5_isLatin1_aae02.name) (hout : ∀ x ∈ c.exceptionTable.toList, False) : ∀ q ∈ cd_J5_isLatin1_aae02, zSd p l e rm_J5_isLatin1_aae02 s m args below meth c 1 D A a0 M0 K KX 0 0 q.1 q.2 :=
    zall_c (zs_gets X (pc := 0) (C := "java/lang/String") (n1 := "COMPACT_STRINGS") (d1 := "Z") (List.mem_of_getElem? (i := 12) rfl) (.tail _ gw_1_58) (by decide +kernel)) <|
    zall_c (zs_if_eq X (pc := 3) (off := 14) (by decide +kernel) (by decide)) <|
    zall_c (zs_aload_n X (pc := 6) (q := 0) rfl (by decide +kernel)) <|
    zall_c (zs_geti X (pc := 7) zc_J4 (by decide) (zin ui_J4) (.tail _ gw_1_68) (by decide +kernel) (by decide +kernel)) <|
    zall_c (zs_if_ne X (pc := 10) (off := 7) (by decide +kernel) (by decide)) <|
    zall_c (zs_iconst X (pc := 13) (by decide) (by decide +kernel)) <|
    zall_c (zs_goto X (pc := 14) (off := 4) (by decide +kernel) (by decide)) <|
    zall_c (zs_iconst X (pc := 17) (by decide) (by decide +kernel)) <|
    zall_c (zs_zret X (pc := 18) rfl zR_bool (by decide +kernel)) <|
    zall_n
theorem met_J5_isLatin1_aae02 {l : Launch} (hl : l.stackTraces = false) {T : ZTf} (bd : zBd (cd_J5_isLatin1_aae02) 1 0 0 T) : zMet l yJ5_isLatin1_aae02 (Cond.code yJ5_isLatin1_aae02 cJ5_isLatin1_aae02 1 (Option.some Jvm.ClassFile.FieldType.boolean) :: zG) rm_J5_isLatin1_aae02 0 0 T := zMet_of hl (by decide +kernel) rfl rfl rfl rfl (hs_J5_isLatin1_aae02 hl) bd

abbrev rm_J6_getChars_ba4f3 : Room := { frames := 1, cells := 0, slots := 0, locals := 30 }
def cd_J6_getChars_ba4f3 : List (Nat × ZTr) := [(0, tIld 1 1), (1, tIst 5 3), (3, tIld 0 4), (4, tIf_ge 11 7), (7, tC (zi 1) 8), (8, tGo 12), (11, tC (zi 0) 12), (12, tIst 6 14), (14, tIld 6 16), (16, tIf_ne 22 19), (19, tIld 0 20), (20, tNeg 21), (21, tIst 0 22), (22, tIld 0 23), (23, tC (zi (-100)) 25), (25, tIc_gt 72 28), (28, tIld 0 29), (29, tC (zi 100) 31), (31, tDiv Int.tdiv 32), (32, tIst 3 33), (33, tIld 3 34), (34, tC (zi 100) 36), (36, tMul 37), (37, tIld 0 38), (38, tSub 39), (39, tIst 4 41), (41, tIld 3 42), (42, tIst 0 43), (43, tAld 2 44), (44, tInc 5 (-1) 47), (47, tIld 5 49), (49, tC (zo 59) 52), (52, tIld 4 54), (54, tIal 21 55), (55, tIas 21 (fun x => -128 ≤ x ∧ x < 128) 56), (56, tAld 2 57), (57, tInc 5 (-1) 60), (60, tIld 5 62), (62, tC (zo 60) 65), (65, tIld 4 67), (67, tIal 21 68), (68, tIas 21 (fun x => -128 ≤ x ∧ x < 128) 69), (69, tGo 22), (72, tAld 2 73), (73, tInc 5 (-1) 76), (76, tIld 5 78), (78, tC (zo 59) 81), (81, tIld 0 82), (82, tNeg 83), (83, tIal 21 84), (84, tIas 21 (fun x => -128 ≤ x ∧ x < 128) 85), (85, tIld 0 86), (86, tC (zi (-9)) 88), (88, tIc_ge 104 91), (91, tAld 2 92), (92, tInc 5 (-1) 95), (95, tIld 5 97), (97, tC (zo 60) 100), (100, tIld 0 101), (101, tNeg 102), (102, tIal 21 103), (103, tIas 21 (fun x => -128 ≤ x ∧ x < 128) 104), (104, tIld 6 106), (106, tIf_eq 118 109), (109, tAld 2 110), (110, tInc 5 (-1) 113), (113, tIld 5 115), (115, tC (zi 45) 117), (117, tIas 21 (fun x => -128 ≤ x ∧ x < 128) 118), (118, tIld 5 120), (120, tRi (fun _ => True))]
set_option maxRecDepth 100000 in
set_option maxHeartbeats 4000000 in
theorem hs_J6_getChars_ba4f3 {l : Launch} (hl : l.stackTraces = false) (p : Program) (e : Env) (s : State) (m : MethodId) (args : Array Value) (below : List Frame) (meth : Method) (c : Code) (D : va_G) (A : Nat → Prop) (a0 : Nat → Nat) (M0 : ZM) (K : ZRet) (KX : ZEx) (X : zCtx p l rm_J6_getChars_ba4f3 s m args meth c cJ6_getChars_ba4f3 RJ6 (Cond.code yJ6_getChars_ba4f3 cJ6_getChars_ba4f3 7 (Option.some Jvm.ClassFile.FieldType.int) :: zG) 7 (Option.some Jvm.ClassFile.FieldType.int) D A a0 M0 0 0) (hnm : meth.name = yJ6_getChars_ba4f3.name) (hout : ∀ x ∈ c.exceptionTable.toList, False) : ∀ q ∈ cd_J6_getChars_ba4f3, zSd p l e rm_J6_getChars_ba4f3 s m args below meth c 7 D A a0 M0 K KX 0 0 q.1 q.2 :=
    zall_c (zs_iload_n X (pc := 0) (q := 1) rfl (by decide +kernel)) <|
    zall_c (zs_istore X (pc := 1) (by decide) (by decide +kernel)) <|
    zall_c (zs_iload_n X (pc := 3) (q := 0) rfl (by decide +kernel)) <|
    zall_c (zs_if_ge X (pc := 4) (off := 7) (by decide +kernel) (by decide)) <|
    zall_c (zs_iconst X (pc := 7) (by decide) (by decide +kernel)) <|
    zall_c (zs_goto X (pc := 8) (off := 4) (by decide +kernel) (by decide)) <|
    zall_c (zs_iconst X (pc := 11) (by decide) (by decide +kernel)) <|
    zall_c (zs_istore X (pc := 12) (by decide) (by decide +kernel)) <|
    zall_c (zs_iload X (pc := 14) (by decide +kernel)) <|
    zall_c (zs_if_ne X (pc := 16) (off := 6) (by decide +kernel) (by decide)) <|
    zall_c (zs_iload_n X (pc := 19) (q := 0) rfl (by decide +kernel)) <|
    zall_c (zs_ineg X (pc := 20) (by decide +kernel)) <|
    zall_c (zs_istore_n X (pc := 21) (q := 0) rfl (by decide) (by decide +kernel)) <|
    zall_c (zs_iload_n X (pc := 22) (q := 0) rfl (by decide +kernel)) <|
    zall_c (zs_bipush X (pc := 23) (by decide) (by decide +kernel) (by decide +kernel)) <|
    zall_c (zs_icmp_gt X (pc := 25) (off := 47) (by decide +kernel) (by decide)) <|
    zall_c (zs_iload_n X (pc := 28) (q := 0) rfl (by decide +kernel)) <|
    zall_c (zs_bipush X (pc := 29) (by decide) (by decide +kernel) (by decide +kernel)) <|
    zall_c (zs_idiv X (pc := 31) (by decide +kernel)) <|
    zall_c (zs_istore_n X (pc := 32) (q := 3) rfl (by decide) (by decide +kernel)) <|
    zall_c (zs_iload_n X (pc := 33) (q := 3) rfl (by decide +kernel)) <|
    zall_c (zs_bipush X (pc := 34) (by decide) (by decide +kernel) (by decide +kernel)) <|
    zall_c (zs_imul X (pc := 36) (by decide +kernel)) <|
    zall_c (zs_iload_n X (pc := 37) (q := 0) rfl (by decide +kernel)) <|
    zall_c (zs_isub X (pc := 38) (by decide +kernel)) <|
    zall_c (zs_istore X (pc := 39) (by decide) (by decide +kernel)) <|
    zall_c (zs_iload_n X (pc := 41) (q := 3) rfl (by decide +kernel)) <|
    zall_c (zs_istore_n X (pc := 42) (q := 0) rfl (by decide) (by decide +kernel)) <|
    zall_c (zs_aload_n X (pc := 43) (q := 2) rfl (by decide +kernel)) <|
    zall_c (zs_iinc X (pc := 44) (by decide) (by decide +kernel)) <|
    zall_c (zs_iload X (pc := 47) (by decide +kernel)) <|
    zall_c (zs_gets X (pc := 49) (C := "java/lang/Integer") (n1 := "DigitOnes") (d1 := "[B") (List.mem_of_getElem? (i := 13) rfl) (.tail _ gw_3_141) (by decide +kernel)) <|
    zall_c (zs_iload X (pc := 52) (by decide +kernel)) <|
    zall_c (zs_baload21 X (pc := 54) (by decide +kernel)) <|
    zall_c (zs_bastore21 X (pc := 55) (by decide +kernel)) <|
    zall_c (zs_aload_n X (pc := 56) (q := 2) rfl (by decide +kernel)) <|
    zall_c (zs_iinc X (pc := 57) (by decide) (by decide +kernel)) <|
    zall_c (zs_iload X (pc := 60) (by decide +kernel)) <|
    zall_c (zs_gets X (pc := 62) (C := "java/lang/Integer") (n1 := "DigitTens") (d1 := "[B") (List.mem_of_getElem? (i := 14) rfl) (.tail _ gw_3_143) (by decide +kernel)) <|
    zall_c (zs_iload X (pc := 65) (by decide +kernel)) <|
    zall_c (zs_baload21 X (pc := 67) (by decide +kernel)) <|
    zall_c (zs_bastore21 X (pc := 68) (by decide +kernel)) <|
    zall_c (zs_goto X (pc := 69) (off := (-47)) (by decide +kernel) (by decide)) <|
    zall_c (zs_aload_n X (pc := 72) (q := 2) rfl (by decide +kernel)) <|
    zall_c (zs_iinc X (pc := 73) (by decide) (by decide +kernel)) <|
    zall_c (zs_iload X (pc := 76) (by decide +kernel)) <|
    zall_c (zs_gets X (pc := 78) (C := "java/lang/Integer") (n1 := "DigitOnes") (d1 := "[B") (List.mem_of_getElem? (i := 13) rfl) (.tail _ gw_3_141) (by decide +kernel)) <|
    zall_c (zs_iload_n X (pc := 81) (q := 0) rfl (by decide +kernel)) <|
    zall_c (zs_ineg X (pc := 82) (by decide +kernel)) <|
    zall_c (zs_baload21 X (pc := 83) (by decide +kernel)) <|
    zall_c (zs_bastore21 X (pc := 84) (by decide +kernel)) <|
    zall_c (zs_iload_n X (pc := 85) (q := 0) rfl (by decide +kernel)) <|
    zall_c (zs_bipush X (pc := 86) (by decide) (by decide +kernel) (by decide +kernel)) <|
    zall_c (zs_icmp_ge X (pc := 88) (off := 16) (by decide +kernel) (by decide)) <|
    zall_c (zs_aload_n X (pc := 91) (q := 2) rfl (by decide +kernel)) <|
    zall_c (zs_iinc X (pc := 92) (by decide) (by decide +kernel)) <|
    zall_c (zs_iload X (pc := 95) (by decide +kernel)) <|
    zall_c (zs_gets X (pc := 97) (C := "java/lang/Integer") (n1 := "DigitTens") (d1 := "[B") (List.mem_of_getElem? (i := 14) rfl) (.tail _ gw_3_143) (by decide +kernel)) <|
    zall_c (zs_iload_n X (pc := 100) (q := 0) rfl (by decide +kernel)) <|
    zall_c (zs_ineg X (pc := 101) (by decide +kernel)) <|
    zall_c (zs_baload21 X (pc := 102) (by decide +kernel)) <|
    zall_c (zs_bastore21 X (pc := 103) (by decide +kernel)) <|
    zall_c (zs_iload X (pc := 104) (by decide +kernel)) <|
    zall_c (zs_if_eq X (pc := 106) (off := 12) (by decide +kernel) (by decide)) <|
    zall_c (zs_aload_n X (pc := 109) (q := 2) rfl (by decide +kernel)) <|
    zall_c (zs_iinc X (pc := 110) (by decide) (by decide +kernel)) <|
    zall_c (zs_iload X (pc := 113) (by decide +kernel)) <|
    zall_c (zs_bipush X (pc := 115) (by decide) (by decide +kernel) (by decide +kernel)) <|
    zall_c (zs_bastore21 X (pc := 117) (by decide +kernel)) <|
    zall_c (zs_iload X (pc := 118) (by decide +kernel)) <|
    zall_c (zs_iret X (pc := 120) rfl (by decide +kernel)) <|
    zall_n
theorem met_J6_getChars_ba4f3 {l : Launch} (hl : l.stackTraces = false) {T : ZTf} (bd : zBd (cd_J6_getChars_ba4f3) 7 0 0 T) : zMet l yJ6_getChars_ba4f3 (Cond.code yJ6_getChars_ba4f3 cJ6_getChars_ba4f3 7 (Option.some Jvm.ClassFile.FieldType.int) :: zG) rm_J6_getChars_ba4f3 0 0 T := zMet_of hl (by decide +kernel) rfl rfl rfl rfl (hs_J6_getChars_ba4f3 hl) bd

abbrev rm_J6_stringSize_0f7a4 : Room := { frames := 1, cells := 0, slots := 0, locals := 30 }
def cd_J6_stringSize_0f7a4 : List (Nat × ZTr) := [(0, tC (zi 1) 1), (1, tIst 1 2), (2, tIld 0 3), (3, tIf_lt 11 6), (6, tC (zi 0) 7), (7, tIst 1 8), (8, tIld 0 9), (9, tNeg 10), (10, tIst 0 11), (11, tC (zi (-10)) 13), (13, tIst 2 14), (14, tC (zi 1) 15), (15, tIst 3 16), (16, tIld 3 17), (17, tC (zi 10) 19), (19, tIc_ge 42 22), (22, tIld 0 23), (23, tIld 2 24), (24, tIc_le 31 27), (27, tIld 3 28), (28, tIld 1 29), (29, tAdd 30), (30, tRi (fun _ => True)), (31, tC (zi 10) 33), (33, tIld 2 34), (34, tMul 35), (35, tIst 2 36), (36, tInc 3 1 39), (39, tGo 16), (42, tC (zi 10) 44), (44, tIld 1 45), (45, tAdd 46), (46, tRi (fun _ => True))]
set_option maxRecDepth 100000 in
set_option maxHeartbeats 4000000 in
theorem hs_J6_stringSize_0f7a4 {l : Launch} (hl : l.stackTraces = false) (p : Program) (e : Env) (s : State) (m : MethodId) (args : Array Value) (below : List Frame) (meth : Method) (c : Code) (D : va_G) (A : Nat → Prop) (a0 : Nat → Nat) (M0 : ZM) (K : ZRet) (KX : ZEx) (X : zCtx p l rm_J6_stringSize_0f7a4 s m args meth c cJ6_stringSize_0f7a4 RJ6 (Cond.code yJ6_stringSize_0f7a4 cJ6_stringSize_0f7a4 4 (Option.some Jvm.ClassFile.FieldType.int) :: zG) 4 (Option.some Jvm.ClassFile.FieldType.int) D A a0 M0 0 0) (hnm : meth.name = yJ6_stringSize_0f7a4.name) (hout : ∀ x ∈ c.exceptionTable.toList, False) : ∀ q ∈ cd_J6_stringSize_0f7a4, zSd p l e rm_J6_stringSize_0f7a4 s m args below meth c 4 D A a0 M0 K KX 0 0 q.1 q.2 :=
    zall_c (zs_iconst X (pc := 0) (by decide) (by decide +kernel)) <|
    zall_c (zs_istore_n X (pc := 1) (q := 1) rfl (by decide) (by decide +kernel)) <|
    zall_c (zs_iload_n X (pc := 2) (q := 0) rfl (by decide +kernel)) <|
    zall_c (zs_if_lt X (pc := 3) (off := 8) (by decide +kernel) (by decide)) <|
    zall_c (zs_iconst X (pc := 6) (by decide) (by decide +kernel)) <|
    zall_c (zs_istore_n X (pc := 7) (q := 1) rfl (by decide) (by decide +kernel)) <|
    zall_c (zs_iload_n X (pc := 8) (q := 0) rfl (by decide +kernel)) <|
    zall_c (zs_ineg X (pc := 9) (by decide +kernel)) <|
    zall_c (zs_istore_n X (pc := 10) (q := 0) rfl (by decide) (by decide +kernel)) <|
    zall_c (zs_bipush X (pc := 11) (by decide) (by decide +kernel) (by decide +kernel)) <|
    zall_c (zs_istore_n X (pc := 13) (q := 2) rfl (by decide) (by decide +kernel)) <|
    zall_c (zs_iconst X (pc := 14) (by decide) (by decide +kernel)) <|
    zall_c (zs_istore_n X (pc := 15) (q := 3) rfl (by decide) (by decide +kernel)) <|
    zall_c (zs_iload_n X (pc := 16) (q := 3) rfl (by decide +kernel)) <|
    zall_c (zs_bipush X (pc := 17) (by decide) (by decide +kernel) (by decide +kernel)) <|
    zall_c (zs_icmp_ge X (pc := 19) (off := 23) (by decide +kernel) (by decide)) <|
    zall_c (zs_iload_n X (pc := 22) (q := 0) rfl (by decide +kernel)) <|
    zall_c (zs_iload_n X (pc := 23) (q := 2) rfl (by decide +kernel)) <|
    zall_c (zs_icmp_le X (pc := 24) (off := 7) (by decide +kernel) (by decide)) <|
    zall_c (zs_iload_n X (pc := 27) (q := 3) rfl (by decide +kernel)) <|
    zall_c (zs_iload_n X (pc := 28) (q := 1) rfl (by decide +kernel)) <|
    zall_c (zs_iadd X (pc := 29) (by decide +kernel)) <|
    zall_c (zs_iret X (pc := 30) rfl (by decide +kernel)) <|
    zall_c (zs_bipush X (pc := 31) (by decide) (by decide +kernel) (by decide +kernel)) <|
    zall_c (zs_iload_n X (pc := 33) (q := 2) rfl (by decide +kernel)) <|
    zall_c (zs_imul X (pc := 34) (by decide +kernel)) <|
    zall_c (zs_istore_n X (pc := 35) (q := 2) rfl (by decide) (by decide +kernel)) <|
    zall_c (zs_iinc X (pc := 36) (by decide) (by decide +kernel)) <|
    zall_c (zs_goto X (pc := 39) (off := (-23)) (by decide +kernel) (by decide)) <|
    zall_c (zs_bipush X (pc := 42) (by decide) (by decide +kernel) (by decide +kernel)) <|
    zall_c (zs_iload_n X (pc := 44) (q := 1) rfl (by decide +kernel)) <|
    zall_c (zs_iadd X (pc := 45) (by decide +kernel)) <|
    zall_c (zs_iret X (pc := 46) rfl (by decide +kernel)) <|
    zall_n
theorem met_J6_stringSize_0f7a4 {l : Launch} (hl : l.stackTraces = false) {T : ZTf} (bd : zBd (cd_J6_stringSize_0f7a4) 4 0 0 T) : zMet l yJ6_stringSize_0f7a4 (Cond.code yJ6_stringSize_0f7a4 cJ6_stringSize_0f7a4 4 (Option.some Jvm.ClassFile.FieldType.int) :: zG) rm_J6_stringSize_0f7a4 0 0 T := zMet_of hl (by decide +kernel) rfl rfl rfl rfl (hs_J6_stringSize_0f7a4 hl) bd

abbrev rm_J6_numberOfLeadingZeros_0f7a4 : Room := { frames := 1, cells := 0, slots := 0, locals := 30 }
def cd_J6_numberOfLeadingZeros_0f7a4 : List (Nat × ZTr) := [(0, tIld 0 1), (1, tIf_gt 15 4), (4, tIld 0 5), (5, tIf_ne 13 8), (8, tC (zi 32) 10), (10, tGo 14), (13, tC (zi 0) 14), (14, tRi (fun _ => True)), (15, tC (zi 31) 17), (17, tIst 1 18), (18, tIld 0 19), (19, tC (zi 65536) 22), (22, tIc_lt 33 25), (25, tInc 1 (-16) 28), (28, tIld 0 29), (29, tC (zi 16) 31), (31, tBif zushr 32), (32, tIst 0 33), (33, tIld 0 34), (34, tC (zi 256) 37), (37, tIc_lt 48 40), (40, tInc 1 (-8) 43), (43, tIld 0 44), (44, tC (zi 8) 46), (46, tBif zushr 47), (47, tIst 0 48), (48, tIld 0 49), (49, tC (zi 16) 51), (51, tIc_lt 61 54), (54, tInc 1 (-4) 57), (57, tIld 0 58), (58, tC (zi 4) 59), (59, tBif zushr 60), (60, tIst 0 61), (61, tIld 0 62), (62, tC (zi 4) 63), (63, tIc_lt 73 66), (66, tInc 1 (-2) 69), (69, tIld 0 70), (70, tC (zi 2) 71), (71, tBif zushr 72), (72, tIst 0 73), (73, tIld 1 74), (74, tIld 0 75), (75, tC (zi 1) 76), (76, tBif zushr 77), (77, tSub 78), (78, tRi (fun _ => True))]
set_option maxRecDepth 100000 in
set_option maxHeartbeats 4000000 in
theorem hs_J6_numberOfLeadingZeros_0f7a4 {l : Launch} (hl : l.stackTraces = false) (p : Program) (e : Env) (s : State) (m : MethodId) (args : Array Value) (below : List Frame) (meth : Method) (c : Code) (D : va_G) (A : Nat → Prop) (a0 : Nat → Nat) (M0 : ZM) (K : ZRet) (KX : ZEx) (X : zCtx p l rm_J6_numberOfLeadingZeros_0f7a4 s m args meth c cJ6_numberOfLeadingZeros_0f7a4 RJ6 (Cond.code yJ6_numberOfLeadingZeros_0f7a4 cJ6_numberOfLeadingZeros_0f7a4 2 (Option.some Jvm.ClassFile.FieldType.int) :: zG) 2 (Option.some Jvm.ClassFile.FieldType.int) D A a0 M0 0 0) (hnm : meth.name = yJ6_numberOfLeadingZeros_0f7a4.name) (hout : ∀ x ∈ c.exceptionTable.toList, False) : ∀ q ∈ cd_J6_numberOfLeadingZeros_0f7a4, zSd p l e rm_J6_numberOfLeadingZeros_0f7a4 s m args below meth c 2 D A a0 M0 K KX 0 0 q.1 q.2 :=
    zall_c (zs_iload_n X (pc := 0) (q := 0) rfl (by decide +kernel)) <|
    zall_c (zs_if_gt X (pc := 1) (off := 14) (by decide +kernel) (by decide)) <|
    zall_c (zs_iload_n X (pc := 4) (q := 0) rfl (by decide +kernel)) <|
    zall_c (zs_if_ne X (pc := 5) (off := 8) (by decide +kernel) (by decide)) <|
    zall_c (zs_bipush X (pc := 8) (by decide) (by decide +kernel) (by decide +kernel)) <|
    zall_c (zs_goto X (pc := 10) (off := 4) (by decide +kernel) (by decide)) <|
    zall_c (zs_iconst X (pc := 13) (by decide) (by decide +kernel)) <|
    zall_c (zs_iret X (pc := 14) rfl (by decide +kernel)) <|
    zall_c (zs_bipush X (pc := 15) (by decide) (by decide +kernel) (by decide +kernel)) <|
    zall_c (zs_istore_n X (pc := 17) (q := 1) rfl (by decide) (by decide +kernel)) <|
    zall_c (zs_iload_n X (pc := 18) (q := 0) rfl (by decide +kernel)) <|
    zall_c (zs_ldciw X (pc := 19) (i := 264) (by decide) (by decide +kernel) (.tail _ gw_6_98)) <|
    zall_c (zs_icmp_lt X (pc := 22) (off := 11) (by decide +kernel) (by decide)) <|
    zall_c (zs_iinc X (pc := 25) (by decide) (by decide +kernel)) <|
    zall_c (zs_iload_n X (pc := 28) (q := 0) rfl (by decide +kernel)) <|
    zall_c (zs_bipush X (pc := 29) (by decide) (by decide +kernel) (by decide +kernel)) <|
    zall_c (zs_iushr X (pc := 31) (by decide +kernel)) <|
    zall_c (zs_istore_n X (pc := 32) (q := 0) rfl (by decide) (by decide +kernel)) <|
    zall_c (zs_iload_n X (pc := 33) (q := 0) rfl (by decide +kernel)) <|
    zall_c (zs_sipush X (pc := 34) (by decide) (by decide +kernel) (by decide +kernel)) <|
    zall_c (zs_icmp_lt X (pc := 37) (off := 11) (by decide +kernel) (by decide)) <|
    zall_c (zs_iinc X (pc := 40) (by decide) (by decide +kernel)) <|
    zall_c (zs_iload_n X (pc := 43) (q := 0) rfl (by decide +kernel)) <|
    zall_c (zs_bipush X (pc := 44) (by decide) (by decide +kernel) (by decide +kernel)) <|
    zall_c (zs_iushr X (pc := 46) (by decide +kernel)) <|
    zall_c (zs_istore_n X (pc := 47) (q := 0) rfl (by decide) (by decide +kernel)) <|
    zall_c (zs_iload_n X (pc := 48) (q := 0) rfl (by decide +kernel)) <|
    zall_c (zs_bipush X (pc := 49) (by decide) (by decide +kernel) (by decide +kernel)) <|
    zall_c (zs_icmp_lt X (pc := 51) (off := 10) (by decide +kernel) (by decide)) <|
    zall_c (zs_iinc X (pc := 54) (by decide) (by decide +kernel)) <|
    zall_c (zs_iload_n X (pc := 57) (q := 0) rfl (by decide +kernel)) <|
    zall_c (zs_iconst X (pc := 58) (by decide) (by decide +kernel)) <|
    zall_c (zs_iushr X (pc := 59) (by decide +kernel)) <|
    zall_c (zs_istore_n X (pc := 60) (q := 0) rfl (by decide) (by decide +kernel)) <|
    zall_c (zs_iload_n X (pc := 61) (q := 0) rfl (by decide +kernel)) <|
    zall_c (zs_iconst X (pc := 62) (by decide) (by decide +kernel)) <|
    zall_c (zs_icmp_lt X (pc := 63) (off := 10) (by decide +kernel) (by decide)) <|
    zall_c (zs_iinc X (pc := 66) (by decide) (by decide +kernel)) <|
    zall_c (zs_iload_n X (pc := 69) (q := 0) rfl (by decide +kernel)) <|
    zall_c (zs_iconst X (pc := 70) (by decide) (by decide +kernel)) <|
    zall_c (zs_iushr X (pc := 71) (by decide +kernel)) <|
    zall_c (zs_istore_n X (pc := 72) (q := 0) rfl (by decide) (by decide +kernel)) <|
    zall_c (zs_iload_n X (pc := 73) (q := 1) rfl (by decide +kernel)) <|
    zall_c (zs_iload_n X (pc := 74) (q := 0) rfl (by decide +kernel)) <|
    zall_c (zs_iconst X (pc := 75) (by decide) (by decide +kernel)) <|
    zall_c (zs_iushr X (pc := 76) (by decide +kernel)) <|
    zall_c (zs_isub X (pc := 77) (by decide +kernel)) <|
    zall_c (zs_iret X (pc := 78) rfl (by decide +kernel)) <|
    zall_n
theorem met_J6_numberOfLeadingZeros_0f7a4 {l : Launch} (hl : l.stackTraces = false) {T : ZTf} (bd : zBd (cd_J6_numberOfLeadingZeros_0f7a4) 2 0 0 T) : zMet l yJ6_numberOfLeadingZeros_0f7a4 (Cond.code yJ6_numberOfLeadingZeros_0f7a4 cJ6_numberOfLeadingZeros_0f7a4 2 (Option.some Jvm.ClassFile.FieldType.int) :: zG) rm_J6_numberOfLeadingZeros_0f7a4 0 0 T := zMet_of hl (by decide +kernel) rfl rfl rfl rfl (hs_J6_numberOfLeadingZeros_0f7a4 hl) bd

abbrev rm_J6_numberOfTrailingZeros_0f7a4 : Room := { frames := 1, cells := 0, slots := 0, locals := 30 }
def cd_J6_numberOfTrailingZeros_0f7a4 : List (Nat × ZTr) := [(0, tIld 0 1), (1, tC (zi (-1)) 2), (2, tBif zxor 3), (3, tIld 0 4), (4, tC (zi 1) 5), (5, tSub 6), (6, tBif zand 7), (7, tIst 0 8), (8, tIld 0 9), (9, tIf_gt 17 12), (12, tIld 0 13), (13, tC (zi 32) 15), (15, tBif zand 16), (16, tRi (fun _ => True)), (17, tC (zi 1) 18), (18, tIst 1 19), (19, tIld 0 20), (20, tC (zi 65536) 23), (23, tIc_le 34 26), (26, tInc 1 16 29), (29, tIld 0 30), (30, tC (zi 16) 32), (32, tBif zushr 33), (33, tIst 0 34), (34, tIld 0 35), (35, tC (zi 256) 38), (38, tIc_le 49 41), (41, tInc 1 8 44), (44, tIld 0 45), (45, tC (zi 8) 47), (47, tBif zushr 48), (48, tIst 0 49), (49, tIld 0 50), (50, tC (zi 16) 52), (52, tIc_le 62 55), (55, tInc 1 4 58), (58, tIld 0 59), (59, tC (zi 4) 60), (60, tBif zushr 61), (61, tIst 0 62), (62, tIld 0 63), (63, tC (zi 4) 64), (64, tIc_le 74 67), (67, tInc 1 2 70), (70, tIld 0 71), (71, tC (zi 2) 72), (72, tBif zushr 73), (73, tIst 0 74), (74, tIld 1 75), (75, tIld 0 76), (76, tC (zi 1) 77), (77, tBif zushr 78), (78, tAdd 79), (79, tRi (fun _ => True))]
set_option maxRecDepth 100000 in
set_option maxHeartbeats 4000000 in
theorem hs_J6_numberOfTrailingZeros_0f7a4 {l : Launch} (hl : l.stackTraces = false) (p : Program) (e : Env) (s : State) (m : MethodId) (args : Array Value) (below : List Frame) (meth : Method) (c : Code) (D : va_G) (A : Nat → Prop) (a0 : Nat → Nat) (M0 : ZM) (K : ZRet) (KX : ZEx) (X : zCtx p l rm_J6_numberOfTrailingZeros_0f7a4 s m args meth c cJ6_numberOfTrailingZeros_0f7a4 RJ6 (Cond.code yJ6_numberOfTrailingZeros_0f7a4 cJ6_numberOfTrailingZeros_0f7a4 2 (Option.some Jvm.ClassFile.FieldType.int) :: zG) 2 (Option.some Jvm.ClassFile.FieldType.int) D A a0 M0 0 0) (hnm : meth.name = yJ6_numberOfTrailingZeros_0f7a4.name) (hout : ∀ x ∈ c.exceptionTable.toList, False) : ∀ q ∈ cd_J6_numberOfTrailingZeros_0f7a4, zSd p l e rm_J6_numberOfTrailingZeros_0f7a4 s m args below meth c 2 D A a0 M0 K KX 0 0 q.1 q.2 :=
    zall_c (zs_iload_n X (pc := 0) (q := 0) rfl (by decide +kernel)) <|
    zall_c (zs_iconst X (pc := 1) (by decide) (by decide +kernel)) <|
    zall_c (zs_ixor X (pc := 2) (by decide +kernel)) <|
    zall_c (zs_iload_n X (pc := 3) (q := 0) rfl (by decide +kernel)) <|
    zall_c (zs_iconst X (pc := 4) (by decide) (by decide +kernel)) <|
    zall_c (zs_isub X (pc := 5) (by decide +kernel)) <|
    zall_c (zs_iand X (pc := 6) (by decide +kernel)) <|
    zall_c (zs_istore_n X (pc := 7) (q := 0) rfl (by decide) (by decide +kernel)) <|
    zall_c (zs_iload_n X (pc := 8) (q := 0) rfl (by decide +kernel)) <|
    zall_c (zs_if_gt X (pc := 9) (off := 8) (by decide +kernel) (by decide)) <|
    zall_c (zs_iload_n X (pc := 12) (q := 0) rfl (by decide +kernel)) <|
    zall_c (zs_bipush X (pc := 13) (by decide) (by decide +kernel) (by decide +kernel)) <|
    zall_c (zs_iand X (pc := 15) (by decide +kernel)) <|
    zall_c (zs_iret X (pc := 16) rfl (by decide +kernel)) <|
    zall_c (zs_iconst X (pc := 17) (by decide) (by decide +kernel)) <|
    zall_c (zs_istore_n X (pc := 18) (q := 1) rfl (by decide) (by decide +kernel)) <|
    zall_c (zs_iload_n X (pc := 19) (q := 0) rfl (by decide +kernel)) <|
    zall_c (zs_ldciw X (pc := 20) (i := 264) (by decide) (by decide +kernel) (.tail _ gw_6_98)) <|
    zall_c (zs_icmp_le X (pc := 23) (off := 11) (by decide +kernel) (by decide)) <|
    zall_c (zs_iinc X (pc := 26) (by decide) (by decide +kernel)) <|
    zall_c (zs_iload_n X (pc := 29) (q := 0) rfl (by decide +kernel)) <|
    zall_c (zs_bipush X (pc := 30) (by decide) (by decide +kernel) (by decide +kernel)) <|
    zall_c (zs_iushr X (pc := 32) (by decide +kernel)) <|
    zall_c (zs_istore_n X (pc := 33) (q := 0) rfl (by decide) (by decide +kernel)) <|
    zall_c (zs_iload_n X (pc := 34) (q := 0) rfl (by decide +kernel)) <|
    zall_c (zs_sipush X (pc := 35) (by decide) (by decide +kernel) (by decide +kernel)) <|
    zall_c (zs_icmp_le X (pc := 38) (off := 11) (by decide +kernel) (by decide)) <|
    zall_c (zs_iinc X (pc := 41) (by decide) (by decide +kernel)) <|
    zall_c (zs_iload_n X (pc := 44) (q := 0) rfl (by decide +kernel)) <|
    zall_c (zs_bipush X (pc := 45) (by decide) (by decide +kernel) (by decide +kernel)) <|
    zall_c (zs_iushr X (pc := 47) (by decide +kernel)) <|
    zall_c (zs_istore_n X (pc := 48) (q := 0) rfl (by decide) (by decide +kernel)) <|
    zall_c (zs_iload_n X (pc := 49) (q := 0) rfl (by decide +kernel)) <|
    zall_c (zs_bipush X (pc := 50) (by decide) (by decide +kernel) (by decide +kernel)) <|
    zall_c (zs_icmp_le X (pc := 52) (off := 10) (by decide +kernel) (by decide)) <|
    zall_c (zs_iinc X (pc := 55) (by decide) (by decide +kernel)) <|
    zall_c (zs_iload_n X (pc := 58) (q := 0) rfl (by decide +kernel)) <|
    zall_c (zs_iconst X (pc := 59) (by decide) (by decide +kernel)) <|
    zall_c (zs_iushr X (pc := 60) (by decide +kernel)) <|
    zall_c (zs_istore_n X (pc := 61) (q := 0) rfl (by decide) (by decide +kernel)) <|
    zall_c (zs_iload_n X (pc := 62) (q := 0) rfl (by decide +kernel)) <|
    zall_c (zs_iconst X (pc := 63) (by decide) (by decide +kernel)) <|
    zall_c (zs_icmp_le X (pc := 64) (off := 10) (by decide +kernel) (by decide)) <|
    zall_c (zs_iinc X (pc := 67) (by decide) (by decide +kernel)) <|
    zall_c (zs_iload_n X (pc := 70) (q := 0) rfl (by decide +kernel)) <|
    zall_c (zs_iconst X (pc := 71) (by decide) (by decide +kernel)) <|
    zall_c (zs_iushr X (pc := 72) (by decide +kernel)) <|
    zall_c (zs_istore_n X (pc := 73) (q := 0) rfl (by decide) (by decide +kernel)) <|
    zall_c (zs_iload_n X (pc := 74) (q := 1) rfl (by decide +kernel)) <|
    zall_c (zs_iload_n X (pc := 75) (q := 0) rfl (by decide +kernel)) <|
    zall_c (zs_iconst X (pc := 76) (by decide) (by decide +kernel)) <|
    zall_c (zs_iushr X (pc := 77) (by decide +kernel)) <|
    zall_c (zs_iadd X (pc := 78) (by decide +kernel)) <|
    zall_c (zs_iret X (pc := 79) rfl (by decide +kernel)) <|
    zall_n
theorem met_J6_numberOfTrailingZeros_0f7a4 {l : Launch} (hl : l.stackTraces = false) {T : ZTf} (bd : zBd (cd_J6_numberOfTrailingZeros_0f7a4) 2 0 0 T) : zMet l yJ6_numberOfTrailingZeros_0f7a4 (Cond.code yJ6_numberOfTrailingZeros_0f7a4 cJ6_numberOfTrailingZeros_0f7a4 2 (Option.some Jvm.ClassFile.FieldType.int) :: zG) rm_J6_numberOfTrailingZeros_0f7a4 0 0 T := zMet_of hl (by decide +kernel) rfl rfl rfl rfl (hs_J6_numberOfTrailingZeros_0f7a4 hl) bd

abbrev rm_J6_bitCount_0f7a4 : Room := { frames := 1, cells := 0, slots := 0, locals := 30 }
def cd_J6_bitCount_0f7a4 : List (Nat × ZTr) := [(0, tIld 0 1), (1, tIld 0 2), (2, tC (zi 1) 3), (3, tBif zushr 4), (4, tC (zi 1431655765) 7), (7, tBif zand 8), (8, tSub 9), (9, tIst 0 10), (10, tIld 0 11), (11, tC (zi 858993459) 14), (14, tBif zand 15), (15, tIld 0 16), (16, tC (zi 2) 17), (17, tBif zushr 18), (18, tC (zi 858993459) 21), (21, tBif zand 22), (22, tAdd 23), (23, tIst 0 24), (24, tIld 0 25), (25, tIld 0 26), (26, tC (zi 4) 27), (27, tBif zushr 28), (28, tAdd 29), (29, tC (zi 252645135) 32), (32, tBif zand 33), (33, tIst 0 34), (34, tIld 0 35), (35, tIld 0 36), (36, tC (zi 8) 38), (38, tBif zushr 39), (39, tAdd 40), (40, tIst 0 41), (41, tIld 0 42), (42, tIld 0 43), (43, tC (zi 16) 45), (45, tBif zushr 46), (46, tAdd 47), (47, tIst 0 48), (48, tIld 0 49), (49, tC (zi 63) 51), (51, tBif zand 52), (52, tRi (fun _ => True))]
set_option maxRecDepth 100000 in
set_option maxHeartbeats 4000000 in
theorem hs_J6_bitCount_0f7a4 {l : Launch} (hl : l.stackTraces = false) (p : Program) (e : Env) (s : State) (m : MethodId) (args : Array Value) (below : List Frame) (meth : Method) (c : Code) (D : va_G) (A : Nat → Prop) (a0 : Nat → Nat) (M0 : ZM) (K : ZRet) (KX : ZEx) (X : zCtx p l rm_J6_bitCount_0f7a4 s m args meth c cJ6_bitCount_0f7a4 RJ6 (Cond.code yJ6_bitCount_0f7a4 cJ6_bitCount_0f7a4 1 (Option.some Jvm.ClassFile.FieldType.int) :: zG) 1 (Option.some Jvm.ClassFile.FieldType.int) D A a0 M0 0 0) (hnm : meth.name = yJ6_bitCount_0f7a4.name) (hout : ∀ x ∈ c.exceptionTable.toList, False) : ∀ q ∈ cd_J6_bitCount_0f7a4, zSd p l e rm_J6_bitCount_0f7a4 s m args below meth c 1 D A a0 M0 K KX 0 0 q.1 q.2 :=
    zall_c (zs_iload_n X (pc := 0) (q := 0) rfl (by decide +kernel)) <|
    zall_c (zs_iload_n X (pc := 1) (q := 0) rfl (by decide +kernel)) <|
    zall_c (zs_iconst X (pc := 2) (by decide) (by decide +kernel)) <|
    zall_c (zs_iushr X (pc := 3) (by decide +kernel)) <|
    zall_c (zs_ldciw X (pc := 4) (i := 265) (by decide) (by decide +kernel) (.tail _ gw_6_133)) <|
    zall_c (zs_iand X (pc := 7) (by decide +kernel)) <|
    zall_c (zs_isub X (pc := 8) (by decide +kernel)) <|
    zall_c (zs_istore_n X (pc := 9) (q := 0) rfl (by decide) (by decide +kernel)) <|
    zall_c (zs_iload_n X (pc := 10) (q := 0) rfl (by decide +kernel)) <|
    zall_c (zs_ldciw X (pc := 11) (i := 266) (by decide) (by decide +kernel) (.tail _ gw_6_134)) <|
    zall_c (zs_iand X (pc := 14) (by decide +kernel)) <|
    zall_c (zs_iload_n X (pc := 15) (q := 0) rfl (by decide +kernel)) <|
    zall_c (zs_iconst X (pc := 16) (by decide) (by decide +kernel)) <|
    zall_c (zs_iushr X (pc := 17) (by decide +kernel)) <|
    zall_c (zs_ldciw X (pc := 18) (i := 266) (by decide) (by decide +kernel) (.tail _ gw_6_134)) <|
    zall_c (zs_iand X (pc := 21) (by decide +kernel)) <|
    zall_c (zs_iadd X (pc := 22) (by decide +kernel)) <|
    zall_c (zs_istore_n X (pc := 23) (q := 0) rfl (by decide) (by decide +kernel)) <|
    zall_c (zs_iload_n X (pc := 24) (q := 0) rfl (by decide +kernel)) <|
    zall_c (zs_iload_n X (pc := 25) (q := 0) rfl (by decide +kernel)) <|
    zall_c (zs_iconst X (pc := 26) (by decide) (by decide +kernel)) <|
    zall_c (zs_iushr X (pc := 27) (by decide +kernel)) <|
    zall_c (zs_iadd X (pc := 28) (by decide +kernel)) <|
    zall_c (zs_ldciw X (pc := 29) (i := 267) (by decide) (by decide +kernel) (.tail _ gw_6_135)) <|
    zall_c (zs_iand X (pc := 32) (by decide +kernel)) <|
    zall_c (zs_istore_n X (pc := 33) (q := 0) rfl (by decide) (by decide +kernel)) <|
    zall_c (zs_iload_n X (pc := 34) (q := 0) rfl (by decide +kernel)) <|
    zall_c (zs_iload_n X (pc := 35) (q := 0) rfl (by decide +kernel)) <|
    zall_c (zs_bipush X (pc := 36) (by decide) (by decide +kernel) (by decide +kernel)) <|
    zall_c (zs_iushr X (pc := 38) (by decide +kernel)) <|
    zall_c (zs_iadd X (pc := 39) (by decide +kernel)) <|
    zall_c (zs_istore_n X (pc := 40) (q := 0) rfl (by decide) (by decide +kernel)) <|
    zall_c (zs_iload_n X (pc := 41) (q := 0) rfl (by decide +kernel)) <|
    zall_c (zs_iload_n X (pc := 42) (q := 0) rfl (by decide +kernel)) <|
    zall_c (zs_bipush X (pc := 43) (by decide) (by decide +kernel) (by decide +kernel)) <|
    zall_c (zs_iushr X (pc := 45) (by decide +kernel)) <|
    zall_c (zs_iadd X (pc := 46) (by decide +kernel)) <|
    zall_c (zs_istore_n X (pc := 47) (q := 0) rfl (by decide) (by decide +kernel)) <|
    zall_c (zs_iload_n X (pc := 48) (q := 0) rfl (by decide +kernel)) <|
    zall_c (zs_bipush X (pc := 49) (by decide) (by decide +kernel) (by decide +kernel)) <|
    zall_c (zs_iand X (pc := 51) (by decide +kernel)) <|
    zall_c (zs_iret X (pc := 52) rfl (by decide +kernel)) <|
    zall_n
theorem met_J6_bitCount_0f7a4 {l : Launch} (hl : l.stackTraces = false) {T : ZTf} (bd : zBd (cd_J6_bitCount_0f7a4) 1 0 0 T) : zMet l yJ6_bitCount_0f7a4 (Cond.code yJ6_bitCount_0f7a4 cJ6_bitCount_0f7a4 1 (Option.some Jvm.ClassFile.FieldType.int) :: zG) rm_J6_bitCount_0f7a4 0 0 T := zMet_of hl (by decide +kernel) rfl rfl rfl rfl (hs_J6_bitCount_0f7a4 hl) bd

abbrev rm_J0_coder_7d493 : Room := { frames := 1, cells := 0, slots := 0, locals := 30 }
def cd_J0_coder_7d493 : List (Nat × ZTr) := [(0, tC (zi 1) 3), (3, tIf_eq 13 6), (6, tAld 0 7), (7, tGsC 10), (10, tGo 14), (13, tC (zi 1) 14), (14, tRi zPb)]
set_option maxRecDepth 100000 in
set_option maxHeartbeats 4000000 in
theorem hs_J0_coder_7d493 {l : Launch} (hl : l.stackTraces = false) (p : Program) (e : Env) (s : State) (m : MethodId) (args : Array Value) (below : List Frame) (meth : Method) (c : Code) (D : va_G) (A : Nat → Prop) (a0 : Nat → Nat) (M0 : ZM) (K : ZRet) (KX : ZEx) (X : zCtx p l rm_J0_coder_7d493 s m args meth c cJ0_coder_7d493 RJ0 (Cond.code yJ0_coder_7d493 cJ0_coder_7d493 1 (Option.some Jvm.ClassFile.FieldType.byte) :: zG) 1 (Option.some Jvm.ClassFile.FieldType.byte) D A a0 M0 0 0) (hnm : meth.name = yJ0_coder_7d493.name) (hout : ∀ x ∈ c.exceptionTable.toList, False) : ∀ q ∈ cd_J0_coder_7d493, zSd p l e rm_J0_coder_7d493 s m args below meth c 1 D A a0 M0 K KX 0 0 q.1 q.2 :=
    zall_c (zs_gets X (pc := 0) (C := "java/lang/String") (n1 := "COMPACT_STRINGS") (d1 := "Z") (List.mem_of_getElem? (i := 12) rfl) (.tail _ gw_3_10) (by decide +kernel)) <|
    zall_c (zs_if_eq X (pc := 3) (off := 10) (by decide +kernel) (by decide)) <|
    zall_c (zs_aload_n X (pc := 6) (q := 0) rfl (by decide +kernel)) <|
    zall_c (zs_gsc X (pc := 7) (zin ui_J0) (.tail _ gw_3_237) (by decide +kernel)) <|
    zall_c (zs_goto X (pc := 10) (off := 4) (by decide +kernel) (by decide)) <|
    zall_c (zs_iconst X (pc := 13) (by decide) (by decide +kernel)) <|
    zall_c (zs_zret X (pc := 14) rfl zR_byte (by decide +kernel)) <|
    zall_n
theorem met_J0_coder_7d493 {l : Launch} (hl : l.stackTraces = false) {T : ZTf} (bd : zBd (cd_J0_coder_7d493) 1 0 0 T) : zMet l yJ0_coder_7d493 (Cond.code yJ0_coder_7d493 cJ0_coder_7d493 1 (Option.some Jvm.ClassFile.FieldType.byte) :: zG) rm_J0_coder_7d493 0 0 T := zMet_of hl (by decide +kernel) rfl rfl rfl rfl (hs_J0_coder_7d493 hl) bd

abbrev rm_J0_isLatin1_aae02 : Room := { frames := 1, cells := 0, slots := 0, locals := 30 }
def cd_J0_isLatin1_aae02 : List (Nat × ZTr) := [(0, tC (zi 1) 3), (3, tIf_eq 17 6), (6, tAld 0 7), (7, tGsC 10), (10, tIf_ne 17 13), (13, tC (zi 1) 14), (14, tGo 18), (17, tC (zi 0) 18), (18, tRi zPz)]
set_option maxRecDepth 100000 in
set_option maxHeartbeats 4000000 in
theorem hs_J0_isLatin1_aae02 {l : Launch} (hl : l.stackTraces = false) (p : Program) (e : Env) (s : State) (m : MethodId) (args : Array Value) (below : List Frame) (meth : Method) (c : Code) (D : va_G) (A : Nat → Prop) (a0 : Nat → Nat) (M0 : ZM) (K : ZRet) (KX : ZEx) (X : zCtx p l rm_J0_isLatin1_aae02 s m args meth c cJ0_isLatin1_aae02 RJ0 (Cond.code yJ0_isLatin1_aae02 cJ0_isLatin1_aae02 1 (Option.some Jvm.ClassFile.FieldType.boolean) :: zG) 1 (Option.some Jvm.ClassFile.FieldType.boolean) D A a0 M0 0 0) (hnm : meth.name = yJ0_isLatin1_aae02.name) (hout : ∀ x ∈ c.exceptionTable.toList, False) : ∀ q ∈ cd_J0_isLatin1_aae02, zSd p l e rm_J0_isLatin1_aae02 s m args below meth c 1 D A a0 M0 K KX 0 0 q.1 q.2 :=
    zall_c (zs_gets X (pc := 0) (C := "java/lang/String") (n1 := "COMPACT_STRINGS") (d1 := "Z") (List.mem_of_getElem? (i := 12) rfl) (.tail _ gw_3_10) (by decide +kernel)) <|
    zall_c (zs_if_eq X (pc := 3) (off := 14) (by decide +kernel) (by decide)) <|
    zall_c (zs_aload_n X (pc := 6) (q := 0) rfl (by decide +kernel)) <|
    zall_c (zs_gsc X (pc := 7) (zin ui_J0) (.tail _ gw_3_237) (by decide +kernel)) <|
    zall_c (zs_if_ne X (pc := 10) (off := 7) (by decide +kernel) (by decide)) <|
    zall_c (zs_iconst X (pc := 13) (by decide) (by decide +kernel)) <|
    zall_c (zs_goto X (pc := 14) (off := 4) (by decide +kernel) (by decide)) <|
    zall_c (zs_iconst X (pc := 17) (by decide) (by decide +kernel)) <|
    zall_c (zs_zret X (pc := 18) rfl zR_bool (by decide +kernel)) <|
    zall_n
theorem met_J0_isLatin1_aae02 {l : Launch} (hl : l.stackTraces = false) {T : ZTf} (bd : zBd (cd_J0_isLatin1_aae02) 1 0 0 T) : zMet l yJ0_isLatin1_aae02 (Cond.code yJ0_isLatin1_aae02 cJ0_isLatin1_aae02 1 (Option.some Jvm.ClassFile.FieldType.boolean) :: zG) rm_J0_isLatin1_aae02 0 0 T := zMet_of hl (by decide +kernel) rfl rfl rfl rfl (hs_J0_isLatin1_aae02 hl) bd

abbrev rm_J4_init_da8c8 : Room := { frames := 2, cells := 1, slots := 16, locals := 51 }
def cd_J4_init_da8c8 (T0 : ZTf) : List (Nat × ZTr) := [(0, tAld 0 1), (1, tC (zi 16) 3), (3, tCall 2 1 16 (zNt T0) (zRcv 1) 6), (6, tRv)]
set_option maxRecDepth 100000 in
set_option maxHeartbeats 4000000 in
theorem hs_J4_init_da8c8 {l : Launch} (hl : l.stackTraces = false) {T0 : ZTf} (h0 : zMet l yJ5_init_d00df (Cond.code yJ5_init_d00df cJ5_init_d00df 2 (Option.none : Option Jvm.ClassFile.FieldType) :: zG) rm_J5_init_d00df 1 16 T0) (p : Program) (e : Env) (s : State) (m : MethodId) (args : Array Value) (below : List Frame) (meth : Method) (c : Code) (D : va_G) (A : Nat → Prop) (a0 : Nat → Nat) (M0 : ZM) (K : ZRet) (KX : ZEx) (X : zCtx p l rm_J4_init_da8c8 s m args meth c cJ4_init_da8c8 RJ4 (Cond.code yJ4_init_da8c8 cJ4_init_da8c8 1 (Option.none : Option Jvm.ClassFile.FieldType) :: zG) 1 (Option.none : Option Jvm.ClassFile.FieldType) D A a0 M0 1 16) (hnm : meth.name = yJ4_init_da8c8.name) (hout : ∀ x ∈ c.exceptionTable.toList, False) : ∀ q ∈ cd_J4_init_da8c8 T0, zSd p l e rm_J4_init_da8c8 s m args below meth c 1 D A a0 M0 K KX 1 16 q.1 q.2 :=
    zall_c (zs_aload_n X (pc := 0) (q := 0) rfl (by decide +kernel)) <|
    zall_c (zs_bipush X (pc := 1) (by decide) (by decide +kernel) (by decide +kernel)) <|
    zall_c (zs_callI X (pc := 3) (rt := none) (fun _ ht => ⟨(zCB ht gw_1_56 gw_1_4 gw_1_54 rfl rfl (by decide +kernel) ⟨Nat.le_of_ble_eq_true rfl, Nat.le_of_ble_eq_true rfl⟩), rfl, ht _ (.tail _ gw_1_55)⟩) h0 (by decide +kernel)) <|
    zall_c (zs_vret X (pc := 6) rfl (by decide +kernel)) <|
    zall_n
theorem met_J4_init_da8c8 {l : Launch} (hl : l.stackTraces = false) {T0 : ZTf} (h0 : zMet l yJ5_init_d00df (Cond.code yJ5_init_d00df cJ5_init_d00df 2 (Option.none : Option Jvm.ClassFile.FieldType) :: zG) rm_J5_init_d00df 1 16 T0) {T : ZTf} (bd : zBd (cd_J4_init_da8c8 T0) 1 1 16 T) : zMet l yJ4_init_da8c8 (Cond.code yJ4_init_da8c8 cJ4_init_da8c8 1 (Option.none : Option Jvm.ClassFile.FieldType) :: zG) rm_J4_init_da8c8 1 16 T := zMet_of hl (by decide +kernel) rfl rfl rfl rfl (hs_J4_init_da8c8 hl h0) bd

abbrev rm_J4_length_8abf5 : Room := { frames := 2, cells := 0, slots := 0, locals := 50 }
def cd_J4_length_8abf5 (T0 : ZTf) : List (Nat × ZTr) := [(0, tAld 0 1), (1, tCall 1 0 0 (zNt T0) (zRcv 1) 4), (4, tRi (fun _ => True))]
set_option maxRecDepth 100000 in
set_option maxHeartbeats 4000000 in
theorem hs_J4_length_8abf5 {l : Launch} (hl : l.stackTraces = false) {T0 : ZTf} (h0 : zMet l yJ5_length_8abf5 (Cond.code yJ5_length_8abf5 cJ5_length_8abf5 1 (Option.some Jvm.ClassFile.FieldType.int) :: zG) rm_J5_length_8abf5 0 0 T0) (p : Program) (e : Env) (s : State) (m : MethodId) (args : Array Value) (below : List Frame) (meth : Method) (c : Code) (D : va_G) (A : Nat → Prop) (a0 : Nat → Nat) (M0 : ZM) (K : ZRet) (KX : ZEx) (X : zCtx p l rm_J4_length_8abf5 s m args meth c cJ4_length_8abf5 RJ4 (Cond.code yJ4_length_8abf5 cJ4_length_8abf5 1 (Option.some Jvm.ClassFile.FieldType.int) :: zG) 1 (Option.some Jvm.ClassFile.FieldType.int) D A a0 M0 0 0) (hnm : meth.name = yJ4_length_8abf5.name) (hout : ∀ x ∈ c.exceptionTable.toList, False) : ∀ q ∈ cd_J4_length_8abf5 T0, zSd p l e rm_J4_length_8abf5 s m args below meth c 1 D A a0 M0 K KX 0 0 q.1 q.2 :=
    zall_c (zs_aload_n X (pc := 0) (q := 0) rfl (by decide +kernel)) <|
    zall_c (zs_callSU X (pc := 1) zc_J4 (fun _ ht => (zCSU ht gw_3_212 gw_1_4 gw_3_211 gw_3_207 gw_1_80 gw_3_206 rfl rfl (by decide +kernel) ⟨Nat.le_of_ble_eq_true rfl, Nat.le_of_ble_eq_true rfl⟩)) h0 (by decide +kernel)) <|
    zall_c (zs_iret X (pc := 4) rfl (by decide +kernel)) <|
    zall_n
theorem met_J4_length_8abf5 {l : Launch} (hl : l.stackTraces = false) {T0 : ZTf} (h0 : zMet l yJ5_length_8abf5 (Cond.code yJ5_length_8abf5 cJ5_length_8abf5 1 (Option.some Jvm.ClassFile.FieldType.int) :: zG) rm_J5_length_8abf5 0 0 T0) {T : ZTf} (bd : zBd (cd_J4_length_8abf5 T0) 1 0 0 T) : zMet l yJ4_length_8abf5 (Cond.code yJ4_length_8abf5 cJ4_length_8abf5 1 (Option.some Jvm.ClassFile.FieldType.int) :: zG) rm_J4_length_8abf5 0 0 T := zMet_of hl (by decide +kernel) rfl rfl rfl rfl (hs_J4_length_8abf5 hl h0) bd

abbrev rm_J1_canEncode_fc78d : Room := { frames := 1, cells := 0, slots := 0, locals := 30 }
def cd_J1_canEncode_fc78d : List (Nat × ZTr) := [(0, tIld 0 1), (1, tC (zi 255) 4), (4, tIc_gt 11 7), (7, tC (zi 1) 8), (8, tGo 12), (11, tC (zi 0) 12), (12, tRi zPz)]
set_option maxRecDepth 100000 in
set_option maxHeartbeats 4000000 in
theorem hs_J1_canEncode_fc78d {l : Launch} (hl : l.stackTraces = false) (p : Program) (e : Env) (s : State) (m : MethodId) (args : Array Value) (below : List Frame) (meth : Method) (c : Code) (D : va_G) (A : Nat → Prop) (a0 : Nat → Nat) (M0 : ZM) (K : ZRet) (KX : ZEx) (X : zCtx p l rm_J1_canEncode_fc78d s m args meth c cJ1_canEncode_fc78d RJ1 (Cond.code yJ1_canEncode_fc78d cJ1_canEncode_fc78d 1 (Option.some Jvm.ClassFile.FieldType.boolean) :: zG) 1 (Option.some Jvm.ClassFile.FieldType.boolean) D A a0 M0 0 0) (hnm : meth.name = yJ1_canEncode_fc78d.name) (hout : ∀ x ∈ c.exceptionTable.toList, False) : ∀ q ∈ cd_J1_canEncode_fc78d, zSd p l e rm_J1_canEncode_fc78d s m args below meth c 1 D A a0 M0 K KX 0 0 q.1 q.2 :=
    zall_c (zs_iload_n X (pc := 0) (q := 0) rfl (by decide +kernel)) <|
    zall_c (zs_sipush X (pc := 1) (by decide) (by decide +kernel) (by decide +kernel)) <|
    zall_c (zs_icmp_gt X (pc := 4) (off := 7) (by decide +kernel) (by decide)) <|
    zall_c (zs_iconst X (pc := 7) (by decide) (by decide +kernel)) <|
    zall_c (zs_goto X (pc := 8) (off := 4) (by decide +kernel) (by decide)) <|
    zall_c (zs_iconst X (pc := 11) (by decide) (by decide +kernel)) <|
    zall_c (zs_zret X (pc := 12) rfl zR_bool (by decide +kernel)) <|
    zall_n
theorem met_J1_canEncode_fc78d {l : Launch} (hl : l.stackTraces = false) {T : ZTf} (bd : zBd (cd_J1_canEncode_fc78d) 1 0 0 T) : zMet l yJ1_canEncode_fc78d (Cond.code yJ1_canEncode_fc78d cJ1_canEncode_fc78d 1 (Option.some Jvm.ClassFile.FieldType.boolean) :: zG) rm_J1_canEncode_fc78d 0 0 T := zMet_of hl (by decide +kernel) rfl rfl rfl rfl (hs_J1_canEncode_fc78d hl) bd

abbrev rm_J2_length_9d52b : Room := { frames := 1, cells := 0, slots := 0, locals := 30 }
def cd_J2_length_9d52b : List (Nat × ZTr) := [(0, tAld 0 1), (1, tLen 2), (2, tC (zi 1) 3), (3, tBif zshr 4), (4, tRi (fun _ => True))]
set_option maxRecDepth 100000 in
set_option maxHeartbeats 4000000 in
theorem hs_J2_length_9d52b {l : Launch} (hl : l.stackTraces = false) (p : Program) (e : Env) (s : State) (m : MethodId) (args : Array Value) (below : List Frame) (meth : Method) (c : Code) (D : va_G) (A : Nat → Prop) (a0 : Nat → Nat) (M0 : ZM) (K : ZRet) (KX : ZEx) (X : zCtx p l rm_J2_length_9d52b s m args meth c cJ2_length_9d52b RJ2 (Cond.code yJ2_length_9d52b cJ2_length_9d52b 1 (Option.some Jvm.ClassFile.FieldType.int) :: zG) 1 (Option.some Jvm.ClassFile.FieldType.int) D A a0 M0 0 0) (hnm : meth.name = yJ2_length_9d52b.name) (hout : ∀ x ∈ c.exceptionTable.toList, False) : ∀ q ∈ cd_J2_length_9d52b, zSd p l e rm_J2_length_9d52b s m args below meth c 1 D A a0 M0 K KX 0 0 q.1 q.2 :=
    zall_c (zs_aload_n X (pc := 0) (q := 0) rfl (by decide +kernel)) <|
    zall_c (zs_len X (pc := 1) (by decide +kernel)) <|
    zall_c (zs_iconst X (pc := 2) (by decide) (by decide +kernel)) <|
    zall_c (zs_ishr X (pc := 3) (by decide +kernel)) <|
    zall_c (zs_iret X (pc := 4) rfl (by decide +kernel)) <|
    zall_n
theorem met_J2_length_9d52b {l : Launch} (hl : l.stackTraces = false) {T : ZTf} (bd : zBd (cd_J2_length_9d52b) 1 0 0 T) : zMet l yJ2_length_9d52b (Cond.code yJ2_length_9d52b cJ2_length_9d52b 1 (Option.some Jvm.ClassFile.FieldType.int) :: zG) rm_J2_length_9d52b 0 0 T := zMet_of hl (by decide +kernel) rfl rfl rfl rfl (hs_J2_length_9d52b hl) bd

abbrev rm_J2_coderFromArrayLen_85cad : Room := { frames := 1, cells := 0, slots := 0, locals := 30 }
def cd_J2_coderFromArrayLen_85cad : List (Nat × ZTr) := [(0, tIld 1 1), (1, tAld 0 2), (2, tLen 3), (3, tSub 4), (4, tC (zi 31) 6), (6, tBif zushr 7), (7, tUn zi2b 8), (8, tRi zPb)]
set_option maxRecDepth 100000 in
set_option maxHeartbeats 4000000 in
theorem hs_J2_coderFromArrayLen_85cad {l : Launch} (hl : l.stackTraces = false) (p : Program) (e : Env) (s : State) (m : MethodId) (args : Array Value) (below : List Frame) (meth : Method) (c : Code) (D : va_G) (A : Nat → Prop) (a0 : Nat → Nat) (M0 : ZM) (K : ZRet) (KX : ZEx) (X : zCtx p l rm_J2_coderFromArrayLen_85cad s m args meth c cJ2_coderFromArrayLen_85cad RJ2 (Cond.code yJ2_coderFromArrayLen_85cad cJ2_coderFromArrayLen_85cad 2 (Option.some Jvm.ClassFile.FieldType.byte) :: zG) 2 (Option.some Jvm.ClassFile.FieldType.byte) D A a0 M0 0 0) (hnm : meth.name = yJ2_coderFromArrayLen_85cad.name) (hout : ∀ x ∈ c.exceptionTable.toList, False) : ∀ q ∈ cd_J2_coderFromArrayLen_85cad, zSd p l e rm_J2_coderFromArrayLen_85cad s m args below meth c 2 D A a0 M0 K KX 0 0 q.1 q.2 :=
    zall_c (zs_iload_n X (pc := 0) (q := 1) rfl (by decide +kernel)) <|
    zall_c (zs_aload_n X (pc := 1) (q := 0) rfl (by decide +kernel)) <|
    zall_c (zs_len X (pc := 2) (by decide +kernel)) <|
    zall_c (zs_isub X (pc := 3) (by decide +kernel)) <|
    zall_c (zs_bipush X (pc := 4) (by decide) (by decide +kernel) (by decide +kernel)) <|
    zall_c (zs_iushr X (pc := 6) (by decide +kernel)) <|
    zall_c (zs_i2b X (pc := 7) (by decide +kernel)) <|
    zall_c (zs_zret X (pc := 8) rfl zR_byte (by decide +kernel)) <|
    zall_n
theorem met_J2_coderFromArrayLen_85cad {l : Launch} (hl : l.stackTraces = false) {T : ZTf} (bd : zBd (cd_J2_coderFromArrayLen_85cad) 2 0 0 T) : zMet l yJ2_coderFromArrayLen_85cad (Cond.code yJ2_coderFromArrayLen_85cad cJ2_coderFromArrayLen_85cad 2 (Option.some Jvm.ClassFile.FieldType.byte) :: zG) rm_J2_coderFromArrayLen_85cad 0 0 T := zMet_of hl (by decide +kernel) rfl rfl rfl rfl (hs_J2_coderFromArrayLen_85cad hl) bd

abbrev rm_J7_fill_53178 : Room := { frames := 1, cells := 0, slots := 0, locals := 30 }
def cd_J7_fill_53178 : List (Nat × ZTr) := [(0, tC (zi 0) 1), (1, tIst 2 2), (2, tAld 0 3), (3, tLen 4), (4, tIst 3 5), (5, tIld 2 6), (6, tIld 3 7), (7, tIc_ge 20 10), (10, tAld 0 11), (11, tIld 2 12), (12, tIld 1 13), (13, tIas 20 (fun _ => True) 14), (14, tInc 2 1 17), (17, tGo 5), (20, tRv)]
set_option maxRecDepth 100000 in
set_option maxHeartbeats 4000000 in
theorem hs_J7_fill_53178 {l : Launch} (hl : l.stackTraces = false) (p : Program) (e : Env) (s : State) (m : MethodId) (args : Array Value) (below : List Frame) (meth : Method) (c : Code) (D : va_G) (A : Nat → Prop) (a0 : Nat → Nat) (M0 : ZM) (K : ZRet) (KX : ZEx) (X : zCtx p l rm_J7_fill_53178 s m args meth c cJ7_fill_53178 RJ7 (Cond.code yJ7_fill_53178 cJ7_fill_53178 4 (Option.none : Option Jvm.ClassFile.FieldType) :: zG) 4 (Option.none : Option Jvm.ClassFile.FieldType) D A a0 M0 0 0) (hnm : meth.name = yJ7_fill_53178.name) (hout : ∀ x ∈ c.exceptionTable.toList, False) : ∀ q ∈ cd_J7_fill_53178, zSd p l e rm_J7_fill_53178 s m args below meth c 4 D A a0 M0 K KX 0 0 q.1 q.2 :=
    zall_c (zs_iconst X (pc := 0) (by decide) (by decide +kernel)) <|
    zall_c (zs_istore_n X (pc := 1) (q := 2) rfl (by decide) (by decide +kernel)) <|
    zall_c (zs_aload_n X (pc := 2) (q := 0) rfl (by decide +kernel)) <|
    zall_c (zs_len X (pc := 3) (by decide +kernel)) <|
    zall_c (zs_istore_n X (pc := 4) (q := 3) rfl (by decide) (by decide +kernel)) <|
    zall_c (zs_iload_n X (pc := 5) (q := 2) rfl (by decide +kernel)) <|
    zall_c (zs_iload_n X (pc := 6) (q := 3) rfl (by decide +kernel)) <|
    zall_c (zs_icmp_ge X (pc := 7) (off := 13) (by decide +kernel) (by decide)) <|
    zall_c (zs_aload_n X (pc := 10) (q := 0) rfl (by decide +kernel)) <|
    zall_c (zs_iload_n X (pc := 11) (q := 2) rfl (by decide +kernel)) <|
    zall_c (zs_iload_n X (pc := 12) (q := 1) rfl (by decide +kernel)) <|
    zall_c (zs_iastore20 X (pc := 13) (by decide +kernel)) <|
    zall_c (zs_iinc X (pc := 14) (by decide) (by decide +kernel)) <|
    zall_c (zs_goto X (pc := 17) (off := (-12)) (by decide +kernel) (by decide)) <|
    zall_c (zs_vret X (pc := 20) rfl (by decide +kernel)) <|
    zall_n
theorem met_J7_fill_53178 {l : Launch} (hl : l.stackTraces = false) {T : ZTf} (bd : zBd (cd_J7_fill_53178) 4 0 0 T) : zMet l yJ7_fill_53178 (Cond.code yJ7_fill_53178 cJ7_fill_53178 4 (Option.none : Option Jvm.ClassFile.FieldType) :: zG) rm_J7_fill_53178 0 0 T := zMet_of hl (by decide +kernel) rfl rfl rfl rfl (hs_J7_fill_53178 hl) bd

abbrev rm_J7_copyOf_9075b (a b : Nat) : Room := { frames := 1, cells := a, slots := b, locals := 60 }
def cd_J7_copyOf_9075b : List (Nat × ZTr) := [(0, tIld 1 1), (1, tAld 0 2), (2, tLen 3), (3, tIc_ne 14 6), (6, tNo), (14, tIld 1 15), (15, tNewA 21 17), (17, tAst 2 18), (18, tAld 0 19), (19, tC (zi 0) 20), (20, tAld 2 21), (21, tC (zi 0) 22), (22, tAld 0 23), (23, tLen 24), (24, tIld 1 25), (25, tMth2 zmin 28), (28, tCpy 21 zPb 31), (31, tAld 2 32), (32, tRa)]
set_option maxRecDepth 100000 in
set_option maxHeartbeats 4000000 in
theorem hs_J7_copyOf_9075b {l : Launch} (hl : l.stackTraces = false) {a b : Nat} (p : Program) (e : Env) (s : State) (m : MethodId) (args : Array Value) (below : List Frame) (meth : Method) (c : Code) (D : va_G) (A : Nat → Prop) (a0 : Nat → Nat) (M0 : ZM) (K : ZRet) (KX : ZEx) (X : zCtx p l (rm_J7_copyOf_9075b a b) s m args meth c cJ7_copyOf_9075b RJ7 (Cond.code yJ7_copyOf_9075b cJ7_copyOf_9075b 3 (Option.some (Jvm.ClassFile.FieldType.array Jvm.ClassFile.FieldType.byte)) :: zG) 3 (Option.some (Jvm.ClassFile.FieldType.array Jvm.ClassFile.FieldType.byte)) D A a0 M0 a b) (hnm : meth.name = yJ7_copyOf_9075b.name) (hout : ∀ x ∈ c.exceptionTable.toList, False) : ∀ q ∈ cd_J7_copyOf_9075b, zSd p l e (rm_J7_copyOf_9075b a b) s m args below meth c 3 D A a0 M0 K KX a b q.1 q.2 :=
    zall_c (zs_iload_n X (pc := 0) (q := 1) rfl (by decide +kernel)) <|
    zall_c (zs_aload_n X (pc := 1) (q := 0) rfl (by decide +kernel)) <|
    zall_c (zs_len X (pc := 2) (by decide +kernel)) <|
    zall_c (zs_icmp_ne X (pc := 3) (off := 11) (by decide +kernel) (by decide)) <|
    zall_c (zs_no (pc := 6)) <|
    zall_c (zs_iload_n X (pc := 14) (q := 1) rfl (by decide +kernel)) <|
    zall_c (zs_newarray21 X (pc := 15) (.tail _ gw_1_82) (by decide +kernel)) <|
    zall_c (zs_astore_n X (pc := 17) (q := 2) rfl (by decide) (by decide +kernel)) <|
    zall_c (zs_aload_n X (pc := 18) (q := 0) rfl (by decide +kernel)) <|
    zall_c (zs_iconst X (pc := 19) (by decide) (by decide +kernel)) <|
    zall_c (zs_aload_n X (pc := 20) (q := 2) rfl (by decide +kernel)) <|
    zall_c (zs_iconst X (pc := 21) (by decide) (by decide +kernel)) <|
    zall_c (zs_aload_n X (pc := 22) (q := 0) rfl (by decide +kernel)) <|
    zall_c (zs_len X (pc := 23) (by decide +kernel)) <|
    zall_c (zs_iload_n X (pc := 24) (q := 1) rfl (by decide +kernel)) <|
    zall_c (zs_mmin X (pc := 25) (.tail _ gw_3_58) (.tail _ gw_3_59) (.tail _ gw_1_14) (.tail _ gw_3_60) (Nat.le_of_ble_eq_true rfl) (Nat.le_of_ble_eq_true rfl) (by decide +kernel)) <|
    zall_c (zs_copy21 X (pc := 28) (.tail _ gw_3_61) (.tail _ gw_3_63) (.tail _ gw_3_62) (.tail _ gw_1_16) (Nat.le_of_ble_eq_true rfl) (by show 8 + (nativeFrameWords "java/lang/System" "arraycopy" 5 + 11) ≤ 60; decide +kernel) (by decide +kernel)) <|
    zall_c (zs_aload_n X (pc := 31) (q := 2) rfl (by decide +kernel)) <|
    zall_c (zs_aret X (pc := 32) rfl (Or.inr ⟨_, rfl⟩) (by decide +kernel)) <|
    zall_n
theorem met_J7_copyOf_9075b {l : Launch} (hl : l.stackTraces = false) {a b : Nat} {T : ZTf} (bd : zBd (cd_J7_copyOf_9075b) 3 a b T) : zMet l yJ7_copyOf_9075b (Cond.code yJ7_copyOf_9075b cJ7_copyOf_9075b 3 (Option.some (Jvm.ClassFile.FieldType.array Jvm.ClassFile.FieldType.byte)) :: zG) (rm_J7_copyOf_9075b a b) a b T := zMet_of hl (by decide +kernel) rfl rfl rfl rfl (hs_J7_copyOf_9075b hl) bd

abbrev rm_J7_checkLength_df160 : Room := { frames := 1, cells := 0, slots := 0, locals := 30 }
def cd_J7_checkLength_df160 : List (Nat × ZTr) := [(0, tIld 1 1), (1, tIld 0 2), (2, tIc_ge 37 5), (5, tNo), (37, tRv)]
set_option maxRecDepth 100000 in
set_option maxHeartbeats 4000000 in
theorem hs_J7_checkLength_df160 {l : Launch} (hl : l.stackTraces = false) (p : Program) (e : Env) (s : State) (m : MethodId) (args : Array Value) (below : List Frame) (meth : Method) (c : Code) (D : va_G) (A : Nat → Prop) (a0 : Nat → Nat) (M0 : ZM) (K : ZRet) (KX : ZEx) (X : zCtx p l rm_J7_checkLength_df160 s m args meth c cJ7_checkLength_df160 RJ7 (Cond.code yJ7_checkLength_df160 cJ7_checkLength_df160 2 (Option.none : Option Jvm.ClassFile.FieldType) :: zG) 2 (Option.none : Option Jvm.ClassFile.FieldType) D A a0 M0 0 0) (hnm : meth.name = yJ7_checkLength_df160.name) (hout : ∀ x ∈ c.exceptionTable.toList, False) : ∀ q ∈ cd_J7_checkLength_df160, zSd p l e rm_J7_checkLength_df160 s m args below meth c 2 D A a0 M0 K KX 0 0 q.1 q.2 :=
    zall_c (zs_iload_n X (pc := 0) (q := 1) rfl (by decide +kernel)) <|
    zall_c (zs_iload_n X (pc := 1) (q := 0) rfl (by decide +kernel)) <|
    zall_c (zs_icmp_ge X (pc := 2) (off := 35) (by decide +kernel) (by decide)) <|
    zall_c (zs_no (pc := 5)) <|
    zall_c (zs_vret X (pc := 37) rfl (by decide +kernel)) <|
    zall_n
theorem met_J7_checkLength_df160 {l : Launch} (hl : l.stackTraces = false) {T : ZTf} (bd : zBd (cd_J7_checkLength_df160) 2 0 0 T) : zMet l yJ7_checkLength_df160 (Cond.code yJ7_checkLength_df160 cJ7_checkLength_df160 2 (Option.none : Option Jvm.ClassFile.FieldType) :: zG) rm_J7_checkLength_df160 0 0 T := zMet_of hl (by decide +kernel) rfl rfl rfl rfl (hs_J7_checkLength_df160 hl) bd

abbrev rm_J7_copyOfRangeByte_39247 : Room := { frames := 2, cells := 1, slots := 6, locals := 60 }
def cd_J7_copyOfRangeByte_39247 (T0 : ZTf) : List (Nat × ZTr) := [(0, tIld 1 1), (1, tIld 2 2), (2, tCall0 2 T0 zAny 5), (5, tIld 2 6), (6, tIld 1 7), (7, tSub 8), (8, tIst 3 9), (9, tIld 3 10), (10, tNewA 21 12), (12, tAst 4 14), (14, tAld 0 15), (15, tIld 1 16), (16, tAld 4 18), (18, tC (zi 0) 19), (19, tAld 0 20), (20, tLen 21), (21, tIld 1 22), (22, tSub 23), (23, tIld 3 24), (24, tMth2 zmin 27), (27, tCpy 21 zPb 30), (30, tAld 4 32), (32, tRa)]
set_option maxRecDepth 100000 in
set_option maxHeartbeats 4000000 in
theorem hs_J7_copyOfRangeByte_39247 {l : Launch} (hl : l.stackTraces = false) {T0 : ZTf} (h0 : zMet l yJ7_checkLength_df160 (Cond.code yJ7_checkLength_df160 cJ7_checkLength_df160 2 (Option.none : Option Jvm.ClassFile.FieldType) :: zG) rm_J7_checkLength_df160 0 0 T0) (p : Program) (e : Env) (s : State) (m : MethodId) (args : Array Value) (below : List Frame) (meth : Method) (c : Code) (D : va_G) (A : Nat → Prop) (a0 : Nat → Nat) (M0 : ZM) (K : ZRet) (KX : ZEx) (X : zCtx p l rm_J7_copyOfRangeByte_39247 s m args meth c cJ7_copyOfRangeByte_39247 RJ7 (Cond.code yJ7_copyOfRangeByte_39247 cJ7_copyOfRangeByte_39247 5 (Option.some (Jvm.ClassFile.FieldType.array Jvm.ClassFile.FieldType.byte)) :: zG) 5 (Option.some (Jvm.ClassFile.FieldType.array Jvm.ClassFile.FieldType.byte)) D A a0 M0 1 6) (hnm : meth.name = yJ7_copyOfRangeByte_39247.name) (hout : ∀ x ∈ c.exceptionTable.toList, False) : ∀ q ∈ cd_J7_copyOfRangeByte_39247 T0, zSd p l e rm_J7_copyOfRangeByte_39247 s m args below meth c 5 D A a0 M0 K KX 1 6 q.1 q.2 :=
    zall_c (zs_iload_n X (pc := 0) (q := 1) rfl (by decide +kernel)) <|
    zall_c (zs_iload_n X (pc := 1) (q := 2) rfl (by decide +kernel)) <|
    zall_c (zs_callS0 X (pc := 2) (fun _ ht => ⟨(zCB ht gw_3_222 gw_1_15 gw_3_220 rfl rfl (by decide +kernel) ⟨Nat.le_of_ble_eq_true rfl, Nat.le_of_ble_eq_true rfl⟩), ht _ (.tail _ gw_3_221)⟩) h0 hout (by decide +kernel)) <|
    zall_c (zs_iload_n X (pc := 5) (q := 2) rfl (by decide +kernel)) <|
    zall_c (zs_iload_n X (pc := 6) (q := 1) rfl (by decide +kernel)) <|
    zall_c (zs_isub X (pc := 7) (by decide +kernel)) <|
    zall_c (zs_istore_n X (pc := 8) (q := 3) rfl (by decide) (by decide +kernel)) <|
    zall_c (zs_iload_n X (pc := 9) (q := 3) rfl (by decide +kernel)) <|
    zall_c (zs_newarray21 X (pc := 10) (.tail _ gw_1_82) (by decide +kernel)) <|
    zall_c (zs_astore X (pc := 12) (by decide) (by decide +kernel)) <|
    zall_c (zs_aload_n X (pc := 14) (q := 0) rfl (by decide +kernel)) <|
    zall_c (zs_iload_n X (pc := 15) (q := 1) rfl (by decide +kernel)) <|
    zall_c (zs_aload X (pc := 16) (by decide +kernel)) <|
    zall_c (zs_iconst X (pc := 18) (by decide) (by decide +kernel)) <|
    zall_c (zs_aload_n X (pc := 19) (q := 0) rfl (by decide +kernel)) <|
    zall_c (zs_len X (pc := 20) (by decide +kernel)) <|
    zall_c (zs_iload_n X (pc := 21) (q := 1) rfl (by decide +kernel)) <|
    zall_c (zs_isub X (pc := 22) (by decide +kernel)) <|
    zall_c (zs_iload_n X (pc := 23) (q := 3) rfl (by decide +kernel)) <|
    zall_c (zs_mmin X (pc := 24) (.tail _ gw_3_58) (.tail _ gw_3_59) (.tail _ gw_1_14) (.tail _ gw_3_60) (Nat.le_of_ble_eq_true rfl) (Nat.le_of_ble_eq_true rfl) (by decide +kernel)) <|
    zall_c (zs_copy21 X (pc := 27) (.tail _ gw_3_61) (.tail _ gw_3_63) (.tail _ gw_3_62) (.tail _ gw_1_16) (Nat.le_of_ble_eq_true rfl) (by show 8 + (nativeFrameWords "java/lang/System" "arraycopy" 5 + 11) ≤ 60; decide +kernel) (by decide +kernel)) <|
    zall_c (zs_aload X (pc := 30) (by decide +kernel)) <|
    zall_c (zs_aret X (pc := 32) rfl (Or.inr ⟨_, rfl⟩) (by decide +kernel)) <|
    zall_n
theorem met_J7_copyOfRangeByte_39247 {l : Launch} (hl : l.stackTraces = false) {T0 : ZTf} (h0 : zMet l yJ7_checkLength_df160 (Cond.code yJ7_checkLength_df160 cJ7_checkLength_df160 2 (Option.none : Option Jvm.ClassFile.FieldType) :: zG) rm_J7_checkLength_df160 0 0 T0) {T : ZTf} (bd : zBd (cd_J7_copyOfRangeByte_39247 T0) 5 1 6 T) : zMet l yJ7_copyOfRangeByte_39247 (Cond.code yJ7_copyOfRangeByte_39247 cJ7_copyOfRangeByte_39247 5 (Option.some (Jvm.ClassFile.FieldType.array Jvm.ClassFile.FieldType.byte)) :: zG) rm_J7_copyOfRangeByte_39247 1 6 T := zMet_of hl (by decide +kernel) rfl rfl rfl rfl (hs_J7_copyOfRangeByte_39247 hl h0) bd

abbrev rm_J8_newLength_cabcc : Room := { frames := 1, cells := 0, slots := 0, locals := 30 }
def cd_J8_newLength_cabcc : List (Nat × ZTr) := [(0, tIld 0 1), (1, tIld 1 2), (2, tIld 2 3), (3, tMth2 zmax 6), (6, tAdd 7), (7, tIst 3 8), (8, tC (zi 0) 9), (9, tIld 3 10), (10, tIc_ge 21 13), (13, tIld 3 14), (14, tC (zi 2147483639) 16), (16, tIc_gt 21 19), (19, tIld 3 20), (20, tRi (fun _ => True)), (21, tNo)]
set_option maxRecDepth 100000 in
set_option maxHeartbeats 4000000 in
theorem hs_J8_newLength_cabcc {l : Launch} (hl : l.stackTraces = false) (p : Program) (e : Env) (s : State) (m : MethodId) (args : Array Value) (below : List Frame) (meth : Method) (c : Code) (D : va_G) (A : Nat → Prop) (a0 : Nat → Nat) (M0 : ZM) (K : ZRet) (KX : ZEx) (X : zCtx p l rm_J8_newLength_cabcc s m args meth c cJ8_newLength_cabcc RJ8 (Cond.code yJ8_newLength_cabcc cJ8_newLength_cabcc 4 (Option.some Jvm.ClassFile.FieldType.int) :: zG) 4 (Option.some Jvm.ClassFile.FieldType.int) D A a0 M0 0 0) (hnm : meth.name = yJ8_newLength_cabcc.name) (hout : ∀ x ∈ c.exceptionTable.toList, False) : ∀ q ∈ cd_J8_newLength_cabcc, zSd p l e rm_J8_newLength_cabcc s m args below meth c 4 D A a0 M0 K KX 0 0 q.1 q.2 :=
    zall_c (zs_iload_n X (pc := 0) (q := 0) rfl (by decide +kernel)) <|
    zall_c (zs_iload_n X (pc := 1) (q := 1) rfl (by decide +kernel)) <|
    zall_c (zs_iload_n X (pc := 2) (q := 2) rfl (by decide +kernel)) <|
    zall_c (zs_mmax X (pc := 3) (.tail _ gw_3_41) (.tail _ gw_3_42) (.tail _ gw_1_14) (.tail _ gw_3_43) (Nat.le_of_ble_eq_true rfl) (Nat.le_of_ble_eq_true rfl) (by decide +kernel)) <|
    zall_c (zs_iadd X (pc := 6) (by decide +kernel)) <|
    zall_c (zs_istore_n X (pc := 7) (q := 3) rfl (by decide) (by decide +kernel)) <|
    zall_c (zs_iconst X (pc := 8) (by decide) (by decide +kernel)) <|
    zall_c (zs_iload_n X (pc := 9) (q := 3) rfl (by decide +kernel)) <|
    zall_c (zs_icmp_ge X (pc := 10) (off := 11) (by decide +kernel) (by decide)) <|
    zall_c (zs_iload_n X (pc := 13) (q := 3) rfl (by decide +kernel)) <|
    zall_c (zs_ldci X (pc := 14) (i := 200) (by decide) (by decide +kernel) (.tail _ gw_3_44)) <|
    zall_c (zs_icmp_gt X (pc := 16) (off := 5) (by decide +kernel) (by decide)) <|
    zall_c (zs_iload_n X (pc := 19) (q := 3) rfl (by decide +kernel)) <|
    zall_c (zs_iret X (pc := 20) rfl (by decide +kernel)) <|
    zall_c (zs_no (pc := 21)) <|
    zall_n
theorem met_J8_newLength_cabcc {l : Launch} (hl : l.stackTraces = false) {T : ZTf} (bd : zBd (cd_J8_newLength_cabcc) 4 0 0 T) : zMet l yJ8_newLength_cabcc (Cond.code yJ8_newLength_cabcc cJ8_newLength_cabcc 4 (Option.some Jvm.ClassFile.FieldType.int) :: zG) rm_J8_newLength_cabcc 0 0 T := zMet_of hl (by decide +kernel) rfl rfl rfl rfl (hs_J8_newLength_cabcc hl) bd

abbrev rm_J3_checkIndex_8e157 : Room := { frames := 1, cells := 0, slots := 0, locals := 30 }
def cd_J3_checkIndex_8e157 : List (Nat × ZTr) := [(0, tIld 0 1), (1, tIf_lt 9 4), (4, tIld 0 5), (5, tIld 1 6), (6, tIc_lt 16 9), (9, tNo), (16, tIld 0 17), (17, tRi (fun _ => True))]
set_option maxRecDepth 100000 in
set_option maxHeartbeats 4000000 in
theorem hs_J3_checkIndex_8e157 {l : Launch} (hl : l.stackTraces = false) (p : Program) (e : Env) (s : State) (m : MethodId) (args : Array Value) (below : List Frame) (meth : Method) (c : Code) (D : va_G) (A : Nat → Prop) (a0 : Nat → Nat) (M0 : ZM) (K : ZRet) (KX : ZEx) (X : zCtx p l rm_J3_checkIndex_8e157 s m args meth c cJ3_checkIndex_8e157 RJ3 (Cond.code yJ3_checkIndex_8e157 cJ3_checkIndex_8e157 3 (Option.some Jvm.ClassFile.FieldType.int) :: zG) 3 (Option.some Jvm.ClassFile.FieldType.int) D A a0 M0 0 0) (hnm : meth.name = yJ3_checkIndex_8e157.name) (hout : ∀ x ∈ c.exceptionTable.toList, False) : ∀ q ∈ cd_J3_checkIndex_8e157, zSd p l e rm_J3_checkIndex_8e157 s m args below meth c 3 D A a0 M0 K KX 0 0 q.1 q.2 :=
    zall_c (zs_iload_n X (pc := 0) (q := 0) rfl (by decide +kernel)) <|
    zall_c (zs_if_lt X (pc := 1) (off := 8) (by decide +kernel) (by decide)) <|
    zall_c (zs_iload_n X (pc := 4) (q := 0) rfl (by decide +kernel)) <|
    zall_c (zs_iload_n X (pc := 5) (q := 1) rfl (by decide +kernel)) <|
    zall_c (zs_icmp_lt X (pc := 6) (off := 10) (by decide +kernel) (by decide)) <|
    zall_c (zs_no (pc := 9)) <|
    zall_c (zs_iload_n X (pc := 16) (q := 0) rfl (by decide +kernel)) <|
    zall_c (zs_iret X (pc := 17) rfl (by decide +kernel)) <|
    zall_n
theorem met_J3_checkIndex_8e157 {l : Launch} (hl : l.stackTraces = false) {T : ZTf} (bd : zBd (cd_J3_checkIndex_8e157) 3 0 0 T) : zMet l yJ3_checkIndex_8e157 (Cond.code yJ3_checkIndex_8e157 cJ3_checkIndex_8e157 3 (Option.some Jvm.ClassFile.FieldType.int) :: zG) rm_J3_checkIndex_8e157 0 0 T := zMet_of hl (by decide +kernel) rfl rfl rfl rfl (hs_J3_checkIndex_8e157 hl) bd

abbrev rm_X1_init : Room := { frames := 3, cells := 3, slots := 520, locals := 71 }
def cd_X1_init (T0 : ZTf) : List (Nat × ZTr) := [(0, tAld 0 1), (1, tObj 4), (4, tAld 0 5), (5, tC (zi 500) 8), (8, tNewA 20 10), (10, tPutR 5 0 13), (13, tAld 0 14), (14, tC (zi 0) 15), (15, tPutI 5 1 (fun _ => True) 18), (18, tAld 0 19), (19, tNew 1 4 22), (22, tDup 23), (23, tCall 1 1 16 (zNt T0) (zRcv 1) 26), (26, tPutR 5 2 29), (29, tRv)]
set_option maxRecDepth 100000 in
set_option maxHeartbeats 4000000 in
theorem hs_X1_init {l : Launch} (hl : l.stackTraces = false) {T0 : ZTf} (h0 : zMet l yJ4_init_da8c8 (Cond.code yJ4_init_da8c8 cJ4_init_da8c8 1 (Option.none : Option Jvm.ClassFile.FieldType) :: zG) rm_J4_init_da8c8 1 16 T0) (p : Program) (e : Env) (s : State) (m : MethodId) (args : Array Value) (below : List Frame) (meth : Method) (c : Code) (D : va_G) (A : Nat → Prop) (a0 : Nat → Nat) (M0 : ZM) (K : ZRet) (KX : ZEx) (X : zCtx p l rm_X1_init s m args meth c cX1_init RX1 (Cond.code yX1_init cX1_init 1 (Option.none : Option Jvm.ClassFile.FieldType) :: zG) 1 (Option.none : Option Jvm.ClassFile.FieldType) D A a0 M0 3 520) (hnm : meth.name = yX1_init.name) (hout : ∀ x ∈ c.exceptionTable.toList, False) : ∀ q ∈ cd_X1_init T0, zSd p l e rm_X1_init s m args below meth c 1 D A a0 M0 K KX 3 520 q.1 q.2 :=
    zall_c (zs_aload_n X (pc := 0) (q := 0) rfl (by decide +kernel)) <|
    zall_c (zs_objinit X (pc := 1) (.tail _ gw_1_48) (.tail _ gw_1_35) (.tail _ gw_1_36) (by decide) (by decide) (by decide +kernel)) <|
    zall_c (zs_aload_n X (pc := 4) (q := 0) rfl (by decide +kernel)) <|
    zall_c (zs_sipush X (pc := 5) (by decide) (by decide +kernel) (by decide +kernel)) <|
    zall_c (zs_newarray20 X (pc := 8) (.tail _ gw_1_81) (by decide +kernel)) <|
    zall_c (zs_putrF X (pc := 10) (ty := (Jvm.ClassFile.FieldType.array Jvm.ClassFile.FieldType.int)) zc_X1 (by decide) (zin ui_X1) tyX1_ok nmX1 (.tail _ gw_1_83) rfl hnm rfl (by decide +kernel) (by decide +kernel) (by decide +kernel) zP_arr) <|
    zall_c (zs_aload_n X (pc := 13) (q := 0) rfl (by decide +kernel)) <|
    zall_c (zs_iconst X (pc := 14) (by decide) (by decide +kernel)) <|
    zall_c (zs_puti X (pc := 15) (ty := Jvm.ClassFile.FieldType.int) zc_X1 (by decide) (zin ui_X1) tyX1_ok nmX1 (.tail _ gw_1_85) rfl (by decide +kernel) (by decide +kernel) (by decide +kernel) zP_int) <|
    zall_c (zs_aload_n X (pc := 18) (q := 0) rfl (by decide +kernel)) <|
    zall_c (zs_new X (pc := 19) zc_J4 (zin ui_J4) tyJ4_ok (.tail _ gw_1_49) (.tail _ gw_1_50) (.tail _ gw_1_5) (by decide +kernel) (by decide +kernel)) <|
    zall_c (zs_dup X (pc := 22) (by decide +kernel)) <|
    zall_c (zs_callI X (pc := 23) (rt := none) (fun _ ht => ⟨(zCB ht gw_1_53 gw_1_5 gw_1_51 rfl rfl (by decide +kernel) ⟨Nat.le_of_ble_eq_true rfl, Nat.le_of_ble_eq_true rfl⟩), rfl, ht _ (.tail _ gw_1_52)⟩) h0 (by decide +kernel)) <|
    zall_c (zs_putrF X (pc := 26) (ty := (Jvm.ClassFile.FieldType.object "java/lang/StringBuilder")) zc_X1 (by decide) (zin ui_X1) tyX1_ok nmX1 (.tail _ gw_1_88) rfl hnm rfl (by decide +kernel) (by decide +kernel) (by decide +kernel) zP_obj) <|
    zall_c (zs_vret X (pc := 29) rfl (by decide +kernel)) <|
    zall_n
theorem met_X1_init {l : Launch} (hl : l.stackTraces = false) {T0 : ZTf} (h0 : zMet l yJ4_init_da8c8 (Cond.code yJ4_init_da8c8 cJ4_init_da8c8 1 (Option.none : Option Jvm.ClassFile.FieldType) :: zG) rm_J4_init_da8c8 1 16 T0) {T : ZTf} (bd : zBd (cd_X1_init T0) 1 3 520 T) : zMet l yX1_init (Cond.code yX1_init cX1_init 1 (Option.none : Option Jvm.ClassFile.FieldType) :: zG) rm_X1_init 3 520 T := zMet_of hl (by decide +kernel) rfl rfl rfl rfl (hs_X1_init hl h0) bd

abbrev rm_X3_isAtNumber : Room := { frames := 2, cells := 0, slots := 0, locals := 51 }
def cd_X3_isAtNumber (T0 : ZTf) : List (Nat × ZTr) := [(0, tAld 0 1), (1, tGetI 6 4 4), (4, tC (zi 1) 5), (5, tIc_eq 14 8), (8, tAld 0 9), (9, tC (zi 1) 10), (10, tCall0 2 T0 (zRcv 6) 13), (13, tRi zPz), (14, tAld 0 15), (15, tGetI 6 7 18), (18, tIld 1 19), (19, tIc_lt 30 22), (22, tAld 0 23), (23, tGetI 6 7 26), (26, tIld 2 27), (27, tIc_le 36 30), (30, tAld 0 31), (31, tC (zi 2) 32), (32, tCall0 2 T0 (zRcv 6) 35), (35, tRi zPz), (36, tC (zi 1) 37), (37, tRi zPz)]
set_option maxRecDepth 100000 in
set_option maxHeartbeats 4000000 in
theorem hs_X3_isAtNumber {l : Launch} (hl : l.stackTraces = false) {T0 : ZTf} (h0 : zMet l yX3_fail (Cond.code yX3_fail cX3_fail 2 (Option.some Jvm.ClassFile.FieldType.boolean) :: zG) rm_X3_fail 0 0 T0) (p : Program) (e : Env) (s : State) (m : MethodId) (args : Array Value) (below : List Frame) (meth : Method) (c : Code) (D : va_G) (A : Nat → Prop) (a0 : Nat → Nat) (M0 : ZM) (K : ZRet) (KX : ZEx) (X : zCtx p l rm_X3_isAtNumber s m args meth c cX3_isAtNumber RX3 (Cond.code yX3_isAtNumber cX3_isAtNumber 3 (Option.some Jvm.ClassFile.FieldType.boolean) :: zG) 3 (Option.some Jvm.ClassFile.FieldType.boolean) D A a0 M0 0 0) (hnm : meth.name = yX3_isAtNumber.name) (hout : ∀ x ∈ c.exceptionTable.toList, False) : ∀ q ∈ cd_X3_isAtNumber T0, zSd p l e rm_X3_isAtNumber s m args below meth c 3 D A a0 M0 K KX 0 0 q.1 q.2 :=
    zall_c (zs_aload_n X (pc := 0) (q := 0) rfl (by decide +kernel)) <|
    zall_c (zs_geti X (pc := 1) zc_X3 (by decide) (zin ui_X3) (.tail _ gw_2_31) (by decide +kernel) (by decide +kernel)) <|
    zall_c (zs_iconst X (pc := 4) (by decide) (by decide +kernel)) <|
    zall_c (zs_icmp_eq X (pc := 5) (off := 9) (by decide +kernel) (by decide)) <|
    zall_c (zs_aload_n X (pc := 8) (q := 0) rfl (by decide +kernel)) <|
    zall_c (zs_iconst X (pc := 9) (by decide) (by decide +kernel)) <|
    zall_c (zs_callV0 X (pc := 10) zc_X3 (fun _ ht => ⟨(zCB ht gw_4_111 gw_1_2 gw_4_108 rfl rfl (by decide +kernel) ⟨Nat.le_of_ble_eq_true rfl, Nat.le_of_ble_eq_true rfl⟩), ht _ (.tail _ gw_4_110), ht _ (.tail _ gp_7)⟩) h0 hout (by decide +kernel)) <|
    zall_c (zs_zret X (pc := 13) rfl zR_bool (by decide +kernel)) <|
    zall_c (zs_aload_n X (pc := 14) (q := 0) rfl (by decide +kernel)) <|
    zall_c (zs_geti X (pc := 15) zc_X3 (by decide) (zin ui_X3) (.tail _ gw_2_34) (by decide +kernel) (by decide +kernel)) <|
    zall_c (zs_iload_n X (pc := 18) (q := 1) rfl (by decide +kernel)) <|
    zall_c (zs_icmp_lt X (pc := 19) (off := 11) (by decide +kernel) (by decide)) <|
    zall_c (zs_aload_n X (pc := 22) (q := 0) rfl (by decide +kernel)) <|
    zall_c (zs_geti X (pc := 23) zc_X3 (by decide) (zin ui_X3) (.tail _ gw_2_34) (by decide +kernel) (by decide +kernel)) <|
    zall_c (zs_iload_n X (pc := 26) (q := 2) rfl (by decide +kernel)) <|
    zall_c (zs_icmp_le X (pc := 27) (off := 9) (by decide +kernel) (by decide)) <|
    zall_c (zs_aload_n X (pc := 30) (q := 0) rfl (by decide +kernel)) <|
    zall_c (zs_iconst X (pc := 31) (by decide) (by decide +kernel)) <|
    zall_c (zs_callV0 X (pc := 32) zc_X3 (fun _ ht => ⟨(zCB ht gw_4_111 gw_1_2 gw_4_108 rfl rfl (by decide +kernel) ⟨Nat.le_of_ble_eq_true rfl, Nat.le_of_ble_eq_true rfl⟩), ht _ (.tail _ gw_4_110), ht _ (.tail _ gp_7)⟩) h0 hout (by decide +kernel)) <|
    zall_c (zs_zret X (pc := 35) rfl zR_bool (by decide +kernel)) <|
    zall_c (zs_iconst X (pc := 36) (by decide) (by decide +kernel)) <|
    zall_c (zs_zret X (pc := 37) rfl zR_bool (by decide +kernel)) <|
    zall_n
theorem met_X3_isAtNumber {l : Launch} (hl : l.stackTraces = false) {T0 : ZTf} (h0 : zMet l yX3_fail (Cond.code yX3_fail cX3_fail 2 (Option.some Jvm.ClassFile.FieldType.boolean) :: zG) rm_X3_fail 0 0 T0) {T : ZTf} (bd : zBd (cd_X3_isAtNumber T0) 3 0 0 T) : zMet l yX3_isAtNumber (Cond.code yX3_isAtNumber cX3_isAtNumber 3 (Option.some Jvm.ClassFile.FieldType.boolean) :: zG) rm_X3_isAtNumber 0 0 T := zMet_of hl (by decide +kernel) rfl rfl rfl rfl (hs_X3_isAtNumber hl h0) bd

abbrev rm_X3_nextToken : Room := { frames := 2, cells := 0, slots := 0, locals := 52 }
def cd_X3_nextToken (T0 : ZTf) (T1 : ZTf) (T2 : ZTf) : List (Nat × ZTr) := [(0, tAld 0 1), (1, tAld 0 2), (2, tGetI 6 6 5), (5, tPutI 6 5 (fun _ => True) 8), (8, tAld 0 9), (9, tGetI 6 5 12), (12, tAld 0 13), (13, tGetR 6 2 16), (16, tGetI 5 1 19), (19, tIc_ge 53 22), (22, tAld 0 23), (23, tGetR 6 2 26), (26, tGetR 5 0 29), (29, tAld 0 30), (30, tGetI 6 5 33), (33, tIal 20 34), (34, tCall0 1 T0 zAny 37), (37, tIf_eq 53 40), (40, tAld 0 41), (41, tDup 42), (42, tGetI 6 5 45), (45, tC (zi 1) 46), (46, tAdd 47), (47, tPutI 6 5 (fun _ => True) 50), (50, tGo 8), (53, tAld 0 54), (54, tAld 0 55), (55, tGetI 6 5 58), (58, tPutI 6 6 (fun _ => True) 61), (61, tAld 0 62), (62, tAld 0 63), (63, tAld 0 64), (64, tGetI 6 5 67), (67, tCall0 2 T1 (zRcv 6) 70), (70, tPutI 6 4 (fun _ => True) 73), (73, tAld 0 74), (74, tGetI 6 4 77), (77, tC (zi 2) 78), (78, tIc_ne 92 81), (81, tAld 0 82), (82, tAld 0 83), (83, tGetI 6 5 86), (86, tC (zi 1) 87), (87, tAdd 88), (88, tPutI 6 6 (fun _ => True) 91), (91, tRv), (92, tAld 0 93), (93, tGetI 6 6 96), (96, tAld 0 97), (97, tGetR 6 2 100), (100, tGetI 5 1 103), (103, tIc_ge 134 106), (106, tAld 0 107), (107, tAld 0 108), (108, tGetI 6 6 111), (111, tCall0 2 T1 (zRcv 6) 114), (114, tAld 0 115), (115, tGetI 6 4 118), (118, tIc_ne 134 121), (121, tAld 0 122), (122, tDup 123), (123, tGetI 6 6 126), (126, tC (zi 1) 127), (127, tAdd 128), (128, tPutI 6 6 (fun _ => True) 131), (131, tGo 92), (134, tAld 0 135), (135, tGetI 6 4 138), (138, tC (zi 1) 139), (139, tIc_ne 146 142), (142, tAld 0 143), (143, tCall0 1 T2 (zRcv 6) 146), (146, tRv)]
set_option maxRecDepth 100000 in
set_option maxHeartbeats 4000000 in
theorem hs_X3_nextToken {l : Launch} (hl : l.stackTraces = false) {T0 : ZTf} {T1 : ZTf} {T2 : ZTf} (h0 : zMet l yX3_isBlank (Cond.code yX3_isBlank cX3_isBlank 1 (Option.some Jvm.ClassFile.FieldType.boolean) :: zG) rm_X3_isBlank 0 0 T0) (h1 : zMet l yX3_kindAt (Cond.code yX3_kindAt cX3_kindAt 3 (Option.some Jvm.ClassFile.FieldType.int) :: zG) rm_X3_kindAt 0 0 T1) (h2 : zMet l yX3_readDigits (Cond.code yX3_readDigits cX3_readDigits 2 (Option.none : Option Jvm.ClassFile.FieldType) :: zG) rm_X3_readDigits 0 0 T2) (p : Program) (e : Env) (s : State) (m : MethodId) (args : Array Value) (below : List Frame) (meth : Method) (c : Code) (D : va_G) (A : Nat → Prop) (a0 : Nat → Nat) (M0 : ZM) (K : ZRet) (KX : ZEx) (X : zCtx p l rm_X3_nextToken s m args meth c cX3_nextToken RX3 (Cond.code yX3_nextToken cX3_nextToken 1 (Option.none : Option Jvm.ClassFile.FieldType) :: zG) 1 (Option.none : Option Jvm.ClassFile.FieldType) D A a0 M0 0 0) (hnm : meth.name = yX3_nextToken.name) (hout : ∀ x ∈ c.exceptionTable.toList, False) : ∀ q ∈ cd_X3_nextToken T0 T1 T2, zSd p l e rm_X3_nextToken s m args below meth c 1 D A a0 M0 K KX 0 0 q.1 q.2 :=
    zall_c (zs_aload_n X (pc := 0) (q := 0) rfl (by decide +kernel)) <|
    zall_c (zs_aload_n X (pc := 1) (q := 0) rfl (by decide +kernel)) <|
    zall_c (zs_geti X (pc := 2) zc_X3 (by decide) (zin ui_X3) (.tail _ gw_2_33) (by decide +kernel) (by decide +kernel)) <|
    zall_c (zs_puti X (pc := 5) (ty := Jvm.ClassFile.FieldType.int) zc_X3 (by decide) (zin ui_X3) tyX3_ok nmX3 (.tail _ gw_2_32) rfl (by decide +kernel) (by decide +kernel) (by decide +kernel) zP_int) <|
    zall_c (zs_aload_n X (pc := 8) (q := 0) rfl (by decide +kernel)) <|
    zall_c (zs_geti X (pc := 9) zc_X3 (by decide) (zin ui_X3) (.tail _ gw_2_32) (by decide +kernel) (by decide +kernel)) <|
    zall_c (zs_aload_n X (pc := 12) (q := 0) rfl (by decide +kernel)) <|
    zall_c (zs_getr X (pc := 13) zc_X3 (by decide) (zin ui_X3) (.tail _ gw_2_27) (by decide +kernel) (by decide +kernel)) <|
    zall_c (zs_geti X (pc := 16) zc_X1 (by decide) (zin ui_X1) (.tail _ gw_1_87) (by decide +kernel) (by decide +kernel)) <|
    zall_c (zs_icmp_ge X (pc := 19) (off := 34) (by decide +kernel) (by decide)) <|
    zall_c (zs_aload_n X (pc := 22) (q := 0) rfl (by decide +kernel)) <|
    zall_c (zs_getr X (pc := 23) zc_X3 (by decide) (zin ui_X3) (.tail _ gw_2_27) (by decide +kernel) (by decide +kernel)) <|
    zall_c (zs_getr X (pc := 26) zc_X1 (by decide) (zin ui_X1) (.tail _ gw_1_84) (by decide +kernel) (by decide +kernel)) <|
    zall_c (zs_aload_n X (pc := 29) (q := 0) rfl (by decide +kernel)) <|
    zall_c (zs_geti X (pc := 30) zc_X3 (by decide) (zin ui_X3) (.tail _ gw_2_32) (by decide +kernel) (by decide +kernel)) <|
    zall_c (zs_iaload20 X (pc := 33) (by decide +kernel)) <|
    zall_c (zs_callS0 X (pc := 34) (fun _ ht => ⟨(zCB ht gw_4_79 gw_1_2 gw_4_77 rfl rfl (by decide +kernel) ⟨Nat.le_of_ble_eq_true rfl, Nat.le_of_ble_eq_true rfl⟩), ht _ (.tail _ gw_4_78)⟩) h0 hout (by decide +kernel)) <|
    zall_c (zs_if_eq X (pc := 37) (off := 16) (by decide +kernel) (by decide)) <|
    zall_c (zs_aload_n X (pc := 40) (q := 0) rfl (by decide +kernel)) <|
    zall_c (zs_dup X (pc := 41) (by decide +kernel)) <|
    zall_c (zs_geti X (pc := 42) zc_X3 (by decide) (zin ui_X3) (.tail _ gw_2_32) (by decide +kernel) (by decide +kernel)) <|
    zall_c (zs_iconst X (pc := 45) (by decide) (by decide +kernel)) <|
    zall_c (zs_iadd X (pc := 46) (by decide +kernel)) <|
    zall_c (zs_puti X (pc := 47) (ty := Jvm.ClassFile.FieldType.int) zc_X3 (by decide) (zin ui_X3) tyX3_ok nmX3 (.tail _ gw_2_32) rfl (by decide +kernel) (by decide +kernel) (by decide +kernel) zP_int) <|
    zall_c (zs_goto X (pc := 50) (off := (-42)) (by decide +kernel) (by decide)) <|
    zall_c (zs_aload_n X (pc := 53) (q := 0) rfl (by decide +kernel)) <|
    zall_c (zs_aload_n X (pc := 54) (q := 0) rfl (by decide +kernel)) <|
    zall_c (zs_geti X (pc := 55) zc_X3 (by decide) (zin ui_X3) (.tail _ gw_2_32) (by decide +kernel) (by decide +kernel)) <|
    zall_c (zs_puti X (pc := 58) (ty := Jvm.ClassFile.FieldType.int) zc_X3 (by decide) (zin ui_X3) tyX3_ok nmX3 (.tail _ gw_2_33) rfl (by decide +kernel) (by decide +kernel) (by decide +kernel) zP_int) <|
    zall_c (zs_aload_n X (pc := 61) (q := 0) rfl (by decide +kernel)) <|
    zall_c (zs_aload_n X (pc := 62) (q := 0) rfl (by decide +kernel)) <|
    zall_c (zs_aload_n X (pc := 63) (q := 0) rfl (by decide +kernel)) <|
    zall_c (zs_geti X (pc := 64) zc_X3 (by decide) (zin ui_X3) (.tail _ gw_2_32) (by decide +kernel) (by decide +kernel)) <|
    zall_c (zs_callV0 X (pc := 67) zc_X3 (fun _ ht => ⟨(zCB ht gw_4_83 gw_1_2 gw_4_80 rfl rfl (by decide +kernel) ⟨Nat.le_of_ble_eq_true rfl, Nat.le_of_ble_eq_true rfl⟩), ht _ (.tail _ gw_4_82), ht _ (.tail _ gp_2)⟩) h1 hout (by decide +kernel)) <|
    zall_c (zs_puti X (pc := 70) (ty := Jvm.ClassFile.FieldType.int) zc_X3 (by decide) (zin ui_X3) tyX3_ok nmX3 (.tail _ gw_2_31) rfl (by decide +kernel) (by decide +kernel) (by decide +kernel) zP_int) <|
    zall_c (zs_aload_n X (pc := 73) (q := 0) rfl (by decide +kernel)) <|
    zall_c (zs_geti X (pc := 74) zc_X3 (by decide) (zin ui_X3) (.tail _ gw_2_31) (by decide +kernel) (by decide +kernel)) <|
    zall_c (zs_iconst X (pc := 77) (by decide) (by decide +kernel)) <|
    zall_c (zs_icmp_ne X (pc := 78) (off := 14) (by decide +kernel) (by decide)) <|
    zall_c (zs_aload_n X (pc := 81) (q := 0) rfl (by decide +kernel)) <|
    zall_c (zs_aload_n X (pc := 82) (q := 0) rfl (by decide +kernel)) <|
    zall_c (zs_geti X (pc := 83) zc_X3 (by decide) (zin ui_X3) (.tail _ gw_2_32) (by decide +kernel) (by decide +kernel)) <|
    zall_c (zs_iconst X (pc := 86) (by decide) (by decide +kernel)) <|
    zall_c (zs_iadd X (pc := 87) (by decide +kernel)) <|
    zall_c (zs_puti X (pc := 88) (ty := Jvm.ClassFile.FieldType.int) zc_X3 (by decide) (zin ui_X3) tyX3_ok nmX3 (.tail _ gw_2_33) rfl (by decide +kernel) (by decide +kernel) (by decide +kernel) zP_int) <|
    zall_c (zs_vret X (pc := 91) rfl (by decide +kernel)) <|
    zall_c (zs_aload_n X (pc := 92) (q := 0) rfl (by decide +kernel)) <|
    zall_c (zs_geti X (pc := 93) zc_X3 (by decide) (zin ui_X3) (.tail _ gw_2_33) (by decide +kernel) (by decide +kernel)) <|
    zall_c (zs_aload_n X (pc := 96) (q := 0) rfl (by decide +kernel)) <|
    zall_c (zs_getr X (pc := 97) zc_X3 (by decide) (zin ui_X3) (.tail _ gw_2_27) (by decide +kernel) (by decide +kernel)) <|
    zall_c (zs_geti X (pc := 100) zc_X1 (by decide) (zin ui_X1) (.tail _ gw_1_87) (by decide +kernel) (by decide +kernel)) <|
    zall_c (zs_icmp_ge X (pc := 103) (off := 31) (by decide +kernel) (by decide)) <|
    zall_c (zs_aload_n X (pc := 106) (q := 0) rfl (by decide +kernel)) <|
    zall_c (zs_aload_n X (pc := 107) (q := 0) rfl (by decide +kernel)) <|
    zall_c (zs_geti X (pc := 108) zc_X3 (by decide) (zin ui_X3) (.tail _ gw_2_33) (by decide +kernel) (by decide +kernel)) <|
    zall_c (zs_callV0 X (pc := 111) zc_X3 (fun _ ht => ⟨(zCB ht gw_4_83 gw_1_2 gw_4_80 rfl rfl (by decide +kernel) ⟨Nat.le_of_ble_eq_true rfl, Nat.le_of_ble_eq_true rfl⟩), ht _ (.tail _ gw_4_82), ht _ (.tail _ gp_2)⟩) h1 hout (by decide +kernel)) <|
    zall_c (zs_aload_n X (pc := 114) (q := 0) rfl (by decide +kernel)) <|
    zall_c (zs_geti X (pc := 115) zc_X3 (by decide) (zin ui_X3) (.tail _ gw_2_31) (by decide +kernel) (by decide +kernel)) <|
    zall_c (zs_icmp_ne X (pc := 118) (off := 16) (by decide +kernel) (by decide)) <|
    zall_c (zs_aload_n X (pc := 121) (q := 0) rfl (by decide +kernel)) <|
    zall_c (zs_dup X (pc := 122) (by decide +kernel)) <|
    zall_c (zs_geti X (pc := 123) zc_X3 (by decide) (zin ui_X3) (.tail _ gw_2_33) (by decide +kernel) (by decide +kernel)) <|
    zall_c (zs_iconst X (pc := 126) (by decide) (by decide +kernel)) <|
    zall_c (zs_iadd X (pc := 127) (by decide +kernel)) <|
    zall_c (zs_puti X (pc := 128) (ty := Jvm.ClassFile.FieldType.int) zc_X3 (by decide) (zin ui_X3) tyX3_ok nmX3 (.tail _ gw_2_33) rfl (by decide +kernel) (by decide +kernel) (by decide +kernel) zP_int) <|
    zall_c (zs_goto X (pc := 131) (off := (-39)) (by decide +kernel) (by decide)) <|
    zall_c (zs_aload_n X (pc := 134) (q := 0) rfl (by decide +kernel)) <|
    zall_c (zs_geti X (pc := 135) zc_X3 (by decide) (zin ui_X3) (.tail _ gw_2_31) (by decide +kernel) (by decide +kernel)) <|
    zall_c (zs_iconst X (pc := 138) (by decide) (by decide +kernel)) <|
    zall_c (zs_icmp_ne X (pc := 139) (off := 7) (by decide +kernel) (by decide)) <|
    zall_c (zs_aload_n X (pc := 142) (q := 0) rfl (by decide +kernel)) <|
    zall_c (zs_callV0 X (pc := 143) zc_X3 (fun _ ht => ⟨(zCB ht gw_4_87 gw_1_2 gw_4_84 rfl rfl (by decide +kernel) ⟨Nat.le_of_ble_eq_true rfl, Nat.le_of_ble_eq_true rfl⟩), ht _ (.tail _ gw_4_86), ht _ (.tail _ gp_3)⟩) h2 hout (by decide +kernel)) <|
    zall_c (zs_vret X (pc := 146) rfl (by decide +kernel)) <|
    zall_n
theorem met_X3_nextToken {l : Launch} (hl : l.stackTraces = false) {T0 : ZTf} {T1 : ZTf} {T2 : ZTf} (h0 : zMet l yX3_isBlank (Cond.code yX3_isBlank cX3_isBlank 1 (Option.some Jvm.ClassFile.FieldType.boolean) :: zG) rm_X3_isBlank 0 0 T0) (h1 : zMet l yX3_kindAt (Cond.code yX3_kindAt cX3_kindAt 3 (Option.some Jvm.ClassFile.FieldType.int) :: zG) rm_X3_kindAt 0 0 T1) (h2 : zMet l yX3_readDigits (Cond.code yX3_readDigits cX3_readDigits 2 (Option.none : Option Jvm.ClassFile.FieldType) :: zG) rm_X3_readDigits 0 0 T2) {T : ZTf} (bd : zBd (cd_X3_nextToken T0 T1 T2) 1 0 0 T) : zMet l yX3_nextToken (Cond.code yX3_nextToken cX3_nextToken 1 (Option.none : Option Jvm.ClassFile.FieldType) :: zG) rm_X3_nextToken 0 0 T := zMet_of hl (by decide +kernel) rfl rfl rfl rfl (hs_X3_nextToken hl h0 h1 h2) bd

abbrev rm_X4_addTaking : Room := { frames := 2, cells := 0, slots := 0, locals := 54 }
def cd_X4_addTaking (T0 : ZTf) : List (Nat × ZTr) := [(0, tAld 0 1), (1, tGetI 7 8 4), (4, tC (zi 3) 5), (5, tIc_lt 9 8), (8, tRv), (9, tAld 0 10), (10, tAld 0 11), (11, tGetI 7 8 14), (14, tIld 1 15), (15, tC (zi (-1)) 16), (16, tIld 2 17), (17, tCall0 5 T0 (zRcv 7) 20), (20, tAld 0 21), (21, tDup 22), (22, tGetI 7 8 25), (25, tC (zi 1) 26), (26, tAdd 27), (27, tPutI 7 8 (fun _ => True) 30), (30, tAld 0 31), (31, tDup 32), (32, tGetI 7 5 35), (35, tC (zi 1) 36), (36, tIld 1 37), (37, tBif zshl 38), (38, tBif zor 39), (39, tPutI 7 5 (fun _ => True) 42), (42, tRv)]
set_option maxRecDepth 100000 in
set_option maxHeartbeats 4000000 in
theorem hs_X4_addTaking {l : Launch} (hl : l.stackTraces = false) {T0 : ZTf} (h0 : zMet l yX4_setTaking (Cond.code yX4_setTaking cX4_setTaking 5 (Option.none : Option Jvm.ClassFile.FieldType) :: zG) rm_X4_setTaking 0 0 T0) (p : Program) (e : Env) (s : State) (m : MethodId) (args : Array Value) (below : List Frame) (meth : Method) (c : Code) (D : va_G) (A : Nat → Prop) (a0 : Nat → Nat) (M0 : ZM) (K : ZRet) (KX : ZEx) (X : zCtx p l rm_X4_addTaking s m args meth c cX4_addTaking RX4 (Cond.code yX4_addTaking cX4_addTaking 3 (Option.none : Option Jvm.ClassFile.FieldType) :: zG) 3 (Option.none : Option Jvm.ClassFile.FieldType) D A a0 M0 0 0) (hnm : meth.name = yX4_addTaking.name) (hout : ∀ x ∈ c.exceptionTable.toList, False) : ∀ q ∈ cd_X4_addTaking T0, zSd p l e rm_X4_addTaking s m args below meth c 3 D A a0 M0 K KX 0 0 q.1 q.2 :=
    zall_c (zs_aload_n X (pc := 0) (q := 0) rfl (by decide +kernel)) <|
    zall_c (zs_geti X (pc := 1) zc_X4 (by decide) (zin ui_X4) (.tail _ gw_1_193) (by decide +kernel) (by decide +kernel)) <|
    zall_c (zs_iconst X (pc := 4) (by decide) (by decide +kernel)) <|
    zall_c (zs_icmp_lt X (pc := 5) (off := 4) (by decide +kernel) (by decide)) <|
    zall_c (zs_vret X (pc := 8) rfl (by decide +kernel)) <|
    zall_c (zs_aload_n X (pc := 9) (q := 0) rfl (by decide +kernel)) <|
    zall_c (zs_aload_n X (pc := 10) (q := 0) rfl (by decide +kernel)) <|
    zall_c (zs_geti X (pc := 11) zc_X4 (by decide) (zin ui_X4) (.tail _ gw_1_193) (by decide +kernel) (by decide +kernel)) <|
    zall_c (zs_iload_n X (pc := 14) (q := 1) rfl (by decide +kernel)) <|
    zall_c (zs_iconst X (pc := 15) (by decide) (by decide +kernel)) <|
    zall_c (zs_iload_n X (pc := 16) (q := 2) rfl (by decide +kernel)) <|
    zall_c (zs_callV0 X (pc := 17) zc_X4 (fun _ ht => ⟨(zCB ht gw_5_150 gw_1_10 gw_5_147 rfl rfl (by decide +kernel) ⟨Nat.le_of_ble_eq_true rfl, Nat.le_of_ble_eq_true rfl⟩), ht _ (.tail _ gw_5_149), ht _ (.tail _ gp_19)⟩) h0 hout (by decide +kernel)) <|
    zall_c (zs_aload_n X (pc := 20) (q := 0) rfl (by decide +kernel)) <|
    zall_c (zs_dup X (pc := 21) (by decide +kernel)) <|
    zall_c (zs_geti X (pc := 22) zc_X4 (by decide) (zin ui_X4) (.tail _ gw_1_193) (by decide +kernel) (by decide +kernel)) <|
    zall_c (zs_iconst X (pc := 25) (by decide) (by decide +kernel)) <|
    zall_c (zs_iadd X (pc := 26) (by decide +kernel)) <|
    zall_c (zs_puti X (pc := 27) (ty := Jvm.ClassFile.FieldType.int) zc_X4 (by decide) (zin ui_X4) tyX4_ok nmX4 (.tail _ gw_1_193) rfl (by decide +kernel) (by decide +kernel) (by decide +kernel) zP_int) <|
    zall_c (zs_aload_n X (pc := 30) (q := 0) rfl (by decide +kernel)) <|
    zall_c (zs_dup X (pc := 31) (by decide +kernel)) <|
    zall_c (zs_geti X (pc := 32) zc_X4 (by decide) (zin ui_X4) (.tail _ gw_1_183) (by decide +kernel) (by decide +kernel)) <|
    zall_c (zs_iconst X (pc := 35) (by decide) (by decide +kernel)) <|
    zall_c (zs_iload_n X (pc := 36) (q := 1) rfl (by decide +kernel)) <|
    zall_c (zs_ishl X (pc := 37) (by decide +kernel)) <|
    zall_c (zs_ior X (pc := 38) (by decide +kernel)) <|
    zall_c (zs_puti X (pc := 39) (ty := Jvm.ClassFile.FieldType.int) zc_X4 (by decide) (zin ui_X4) tyX4_ok nmX4 (.tail _ gw_1_183) rfl (by decide +kernel) (by decide +kernel) (by decide +kernel) zP_int) <|
    zall_c (zs_vret X (pc := 42) rfl (by decide +kernel)) <|
    zall_n
theorem met_X4_addTaking {l : Launch} (hl : l.stackTraces = false) {T0 : ZTf} (h0 : zMet l yX4_setTaking (Cond.code yX4_setTaking cX4_setTaking 5 (Option.none : Option Jvm.ClassFile.FieldType) :: zG) rm_X4_setTaking 0 0 T0) {T : ZTf} (bd : zBd (cd_X4_addTaking T0) 3 0 0 T) : zMet l yX4_addTaking (Cond.code yX4_addTaking cX4_addTaking 3 (Option.none : Option Jvm.ClassFile.FieldType) :: zG) rm_X4_addTaking 0 0 T := zMet_of hl (by decide +kernel) rfl rfl rfl rfl (hs_X4_addTaking hl h0) bd

abbrev rm_X4_moveTaking : Room := { frames := 2, cells := 0, slots := 0, locals := 54 }
def cd_X4_moveTaking (T0 : ZTf) (T1 : ZTf) (T2 : ZTf) (T3 : ZTf) : List (Nat × ZTr) := [(0, tAld 0 1), (1, tIld 2 2), (2, tAld 0 3), (3, tIld 1 4), (4, tCall0 2 T0 (zRcv 7) 7), (7, tAld 0 8), (8, tIld 1 9), (9, tCall0 2 T1 (zRcv 7) 12), (12, tAld 0 13), (13, tIld 1 14), (14, tCall0 2 T2 (zRcv 7) 17), (17, tCall0 5 T3 (zRcv 7) 20), (20, tRv)]
set_option maxRecDepth 100000 in
set_option maxHeartbeats 4000000 in
theorem hs_X4_moveTaking {l : Launch} (hl : l.stackTraces = false) {T0 : ZTf} {T1 : ZTf} {T2 : ZTf} {T3 : ZTf} (h0 : zMet l yX4_workerAt (Cond.code yX4_workerAt cX4_workerAt 2 (Option.some Jvm.ClassFile.FieldType.int) :: zG) rm_X4_workerAt 0 0 T0) (h1 : zMet l yX4_resultAt (Cond.code yX4_resultAt cX4_resultAt 2 (Option.some Jvm.ClassFile.FieldType.int) :: zG) rm_X4_resultAt 0 0 T1) (h2 : zMet l yX4_dueAt (Cond.code yX4_dueAt cX4_dueAt 2 (Option.some Jvm.ClassFile.FieldType.int) :: zG) rm_X4_dueAt 0 0 T2) (h3 : zMet l yX4_setTaking (Cond.code yX4_setTaking cX4_setTaking 5 (Option.none : Option Jvm.ClassFile.FieldType) :: zG) rm_X4_setTaking 0 0 T3) (p : Program) (e : Env) (s : State) (m : MethodId) (args : Array Value) (below : List Frame) (meth : Method) (c : Code) (D : va_G) (A : Nat → Prop) (a0 : Nat → Nat) (M0 : ZM) (K : ZRet) (KX : ZEx) (X : zCtx p l rm_X4_moveTaking s m args meth c cX4_moveTaking RX4 (Cond.code yX4_moveTaking cX4_moveTaking 3 (Option.none : Option Jvm.ClassFile.FieldType) :: zG) 3 (Option.none : Option Jvm.ClassFile.FieldType) D A a0 M0 0 0) (hnm : meth.name = yX4_moveTaking.name) (hout : ∀ x ∈ c.exceptionTable.toList, False) : ∀ q ∈ cd_X4_moveTaking T0 T1 T2 T3, zSd p l e rm_X4_moveTaking s m args below meth c 3 D A a0 M0 K KX 0 0 q.1 q.2 :=
    zall_c (zs_aload_n X (pc := 0) (q := 0) rfl (by decide +kernel)) <|
    zall_c (zs_iload_n X (pc := 1) (q := 2) rfl (by decide +kernel)) <|
    zall_c (zs_aload_n X (pc := 2) (q := 0) rfl (by decide +kernel)) <|
    zall_c (zs_iload_n X (pc := 3) (q := 1) rfl (by decide +kernel)) <|
    zall_c (zs_callV0 X (pc := 4) zc_X4 (fun _ ht => ⟨(zCB ht gw_5_80 gw_1_10 gw_5_175 rfl rfl (by decide +kernel) ⟨Nat.le_of_ble_eq_true rfl, Nat.le_of_ble_eq_true rfl⟩), ht _ (.tail _ gw_5_78), ht _ (.tail _ gw_5_79)⟩) h0 hout (by decide +kernel)) <|
    zall_c (zs_aload_n X (pc := 7) (q := 0) rfl (by decide +kernel)) <|
    zall_c (zs_iload_n X (pc := 8) (q := 1) rfl (by decide +kernel)) <|
    zall_c (zs_callV0 X (pc := 9) zc_X4 (fun _ ht => ⟨(zCB ht gw_5_84 gw_1_10 gw_5_89 rfl rfl (by decide +kernel) ⟨Nat.le_of_ble_eq_true rfl, Nat.le_of_ble_eq_true rfl⟩), ht _ (.tail _ gw_5_82), ht _ (.tail _ gw_5_83)⟩) h1 hout (by decide +kernel)) <|
    zall_c (zs_aload_n X (pc := 12) (q := 0) rfl (by decide +kernel)) <|
    zall_c (zs_iload_n X (pc := 13) (q := 1) rfl (by decide +kernel)) <|
    zall_c (zs_callV0 X (pc := 14) zc_X4 (fun _ ht => ⟨(zCB ht gw_5_93 gw_1_10 gw_6_6 rfl rfl (by decide +kernel) ⟨Nat.le_of_ble_eq_true rfl, Nat.le_of_ble_eq_true rfl⟩), ht _ (.tail _ gw_5_91), ht _ (.tail _ gw_5_92)⟩) h2 hout (by decide +kernel)) <|
    zall_c (zs_callV0 X (pc := 17) zc_X4 (fun _ ht => ⟨(zCB ht gw_5_150 gw_1_10 gw_5_147 rfl rfl (by decide +kernel) ⟨Nat.le_of_ble_eq_true rfl, Nat.le_of_ble_eq_true rfl⟩), ht _ (.tail _ gw_5_149), ht _ (.tail _ gp_19)⟩) h3 hout (by decide +kernel)) <|
    zall_c (zs_vret X (pc := 20) rfl (by decide +kernel)) <|
    zall_n
theorem met_X4_moveTaking {l : Launch} (hl : l.stackTraces = false) {T0 : ZTf} {T1 : ZTf} {T2 : ZTf} {T3 : ZTf} (h0 : zMet l yX4_workerAt (Cond.code yX4_workerAt cX4_workerAt 2 (Option.some Jvm.ClassFile.FieldType.int) :: zG) rm_X4_workerAt 0 0 T0) (h1 : zMet l yX4_resultAt (Cond.code yX4_resultAt cX4_resultAt 2 (Option.some Jvm.ClassFile.FieldType.int) :: zG) rm_X4_resultAt 0 0 T1) (h2 : zMet l yX4_dueAt (Cond.code yX4_dueAt cX4_dueAt 2 (Option.some Jvm.ClassFile.FieldType.int) :: zG) rm_X4_dueAt 0 0 T2) (h3 : zMet l yX4_setTaking (Cond.code yX4_setTaking cX4_setTaking 5 (Option.none : Option Jvm.ClassFile.FieldType) :: zG) rm_X4_setTaking 0 0 T3) {T : ZTf} (bd : zBd (cd_X4_moveTaking T0 T1 T2 T3) 3 0 0 T) : zMet l yX4_moveTaking (Cond.code yX4_moveTaking cX4_moveTaking 3 (Option.none : Option Jvm.ClassFile.FieldType) :: zG) rm_X4_moveTaking 0 0 T := zMet_of hl (by decide +kernel) rfl rfl rfl rfl (hs_X4_moveTaking hl h0 h1 h2 h3) bd

abbrev rm_X5_init : Room := { frames := 2, cells := 58, slots := 618, locals := 50 }
def cd_X5_init (T0 : ZTf) (T1 : ZTf) : List (Nat × ZTr) := [(0, tAld 0 1), (1, tObj 4), (4, tAld 0 5), (5, tC (zi 0) 6), (6, tPutI 8 0 (fun _ => True) 9), (9, tAld 0 10), (10, tC (zi 10) 12), (12, tPutI 8 1 (fun _ => True) 15), (15, tAld 0 16), (16, tC (zi 5) 17), (17, tPutI 8 2 (fun _ => True) 20), (20, tAld 0 21), (21, tC (zi 0) 22), (22, tPutI 8 3 (fun _ => True) 25), (25, tAld 0 26), (26, tC (zi 0) 27), (27, tPutI 8 4 (fun _ => True) 30), (30, tAld 0 31), (31, tC (zi 0) 32), (32, tPutI 8 5 (fun _ => True) 35), (35, tAld 0 36), (36, tC (zi 6) 38), (38, tNewA 30 41), (41, tPutR 8 6 44), (44, tAld 0 45), (45, tC (zi 24) 47), (47, tNewA 31 50), (50, tPutR 8 7 53), (53, tAld 0 54), (54, tC (zi 36) 56), (56, tNewA 20 58), (58, tPutR 8 8 61), (61, tAld 0 62), (62, tC (zi 36) 64), (64, tNewA 20 66), (66, tPutR 8 9 69), (69, tC (zi 0) 70), (70, tIst 1 71), (71, tIld 1 72), (72, tC (zi 6) 74), (74, tIc_ge 96 77), (77, tAld 0 78), (78, tGetR 8 6 81), (81, tIld 1 82), (82, tNew 10 10 85), (85, tDup 86), (86, tCall0 1 (zNt T0) (zRcv 10) 89), (89, tAas 30 10 90), (90, tInc 1 1 93), (93, tGo 71), (96, tC (zi 0) 97), (97, tIst 1 98), (98, tIld 1 99), (99, tC (zi 24) 101), (101, tIc_ge 123 104), (104, tAld 0 105), (105, tGetR 8 7 108), (108, tIld 1 109), (109, tNew 7 10 112), (112, tDup 113), (113, tCall 1 1 9 (zNt T1) (zRcv 7) 116), (116, tAas 31 7 117), (117, tInc 1 1 120), (120, tGo 98), (123, tRv)]
set_option maxRecDepth 100000 in
set_option maxHeartbeats 4000000 in
theorem hs_X5_init {l : Launch} (hl : l.stackTraces = false) {T0 : ZTf} {T1 : ZTf} (h0 : zMet l yX7_init (Cond.code yX7_init cX7_init 1 (Option.none : Option Jvm.ClassFile.FieldType) :: zG) rm_X7_init 0 0 T0) (h1 : zMet l yX4_init (Cond.code yX4_init cX4_init 1 (Option.none : Option Jvm.ClassFile.FieldType) :: zG) rm_X4_init 1 9 T1) (p : Program) (e : Env) (s : State) (m : MethodId) (args : Array Value) (below : List Frame) (meth : Method) (c : Code) (D : va_G) (A : Nat → Prop) (a0 : Nat → Nat) (M0 : ZM) (K : ZRet) (KX : ZEx) (X : zCtx p l rm_X5_init s m args meth c cX5_init RX5 (Cond.code yX5_init cX5_init 2 (Option.none : Option Jvm.ClassFile.FieldType) :: zG) 2 (Option.none : Option Jvm.ClassFile.FieldType) D A a0 M0 58 618) (hnm : meth.name = yX5_init.name) (hout : ∀ x ∈ c.exceptionTable.toList, False) : ∀ q ∈ cd_X5_init T0 T1, zSd p l e rm_X5_init s m args below meth c 2 D A a0 M0 K KX 58 618 q.1 q.2 :=
    zall_c (zs_aload_n X (pc := 0) (q := 0) rfl (by decide +kernel)) <|
    zall_c (zs_objinit X (pc := 1) (.tail _ gw_1_101) (.tail _ gw_1_35) (.tail _ gw_1_36) (by decide) (by decide) (by decide +kernel)) <|
    zall_c (zs_aload_n X (pc := 4) (q := 0) rfl (by decide +kernel)) <|
    zall_c (zs_iconst X (pc := 5) (by decide) (by decide +kernel)) <|
    zall_c (zs_puti X (pc := 6) (ty := Jvm.ClassFile.FieldType.int) zc_X5 (by decide) (zin ui_X5) tyX5_ok nmX5 (.tail _ gw_1_218) rfl (by decide +kernel) (by decide +kernel) (by decide +kernel) zP_int) <|
    zall_c (zs_aload_n X (pc := 9) (q := 0) rfl (by decide +kernel)) <|
    zall_c (zs_bipush X (pc := 10) (by decide) (by decide +kernel) (by decide +kernel)) <|
    zall_c (zs_puti X (pc := 12) (ty := Jvm.ClassFile.FieldType.int) zc_X5 (by decide) (zin ui_X5) tyX5_ok nmX5 (.tail _ gw_1_221) rfl (by decide +kernel) (by decide +kernel) (by decide +kernel) zP_int) <|
    zall_c (zs_aload_n X (pc := 15) (q := 0) rfl (by decide +kernel)) <|
    zall_c (zs_iconst X (pc := 16) (by decide) (by decide +kernel)) <|
    zall_c (zs_puti X (pc := 17) (ty := Jvm.ClassFile.FieldType.int) zc_X5 (by decide) (zin ui_X5) tyX5_ok nmX5 (.tail _ gw_1_224) rfl (by decide +kernel) (by decide +kernel) (by decide +kernel) zP_int) <|
    zall_c (zs_aload_n X (pc := 20) (q := 0) rfl (by decide +kernel)) <|
    zall_c (zs_iconst X (pc := 21) (by decide) (by decide +kernel)) <|
    zall_c (zs_puti X (pc := 22) (ty := Jvm.ClassFile.FieldType.int) zc_X5 (by decide) (zin ui_X5) tyX5_ok nmX5 (.tail _ gw_1_227) rfl (by decide +kernel) (by decide +kernel) (by decide +kernel) zP_int) <|
    zall_c (zs_aload_n X (pc := 25) (q := 0) rfl (by decide +kernel)) <|
    zall_c (zs_iconst X (pc := 26) (by decide) (by decide +kernel)) <|
    zall_c (zs_puti X (pc := 27) (ty := Jvm.ClassFile.FieldType.int) zc_X5 (by decide) (zin ui_X5) tyX5_ok nmX5 (.tail _ gw_1_229) rfl (by decide +kernel) (by decide +kernel) (by decide +kernel) zP_int) <|
    zall_c (zs_aload_n X (pc := 30) (q := 0) rfl (by decide +kernel)) <|
    zall_c (zs_iconst X (pc := 31) (by decide) (by decide +kernel)) <|
    zall_c (zs_puti X (pc := 32) (ty := Jvm.ClassFile.FieldType.int) zc_X5 (by decide) (zin ui_X5) tyX5_ok nmX5 (.tail _ gw_1_232) rfl (by decide +kernel) (by decide +kernel) (by decide +kernel) zP_int) <|
    zall_c (zs_aload_n X (pc := 35) (q := 0) rfl (by decide +kernel)) <|
    zall_c (zs_bipush X (pc := 36) (by decide) (by decide +kernel) (by decide +kernel)) <|
    zall_c (zs_anewarray X (pc := 38) (C := "ReviewTable$Worker") (by decide) rfl (.tail _ gw_1_102) (by decide +kernel) (by decide +kernel)) <|
    zall_c (zs_putrF X (pc := 41) (ty := (Jvm.ClassFile.FieldType.array (Jvm.ClassFile.FieldType.object "ReviewTable$Worker"))) zc_X5 (by decide) (zin ui_X5) tyX5_ok nmX5 (.tail _ gw_1_234) rfl hnm rfl (by decide +kernel) (by decide +kernel) (by decide +kernel) zP_arr) <|
    zall_c (zs_aload_n X (pc := 44) (q := 0) rfl (by decide +kernel)) <|
    zall_c (zs_bipush X (pc := 45) (by decide) (by decide +kernel) (by decide +kernel)) <|
    zall_c (zs_anewarray X (pc := 47) (C := "ReviewTable$Row") (by decide) rfl (.tail _ gw_1_104) (by decide +kernel) (by decide +kernel)) <|
    zall_c (zs_putrF X (pc := 50) (ty := (Jvm.ClassFile.FieldType.array (Jvm.ClassFile.FieldType.object "ReviewTable$Row"))) zc_X5 (by decide) (zin ui_X5) tyX5_ok nmX5 (.tail _ gw_1_237) rfl hnm rfl (by decide +kernel) (by decide +kernel) (by decide +kernel) zP_arr) <|
    zall_c (zs_aload_n X (pc := 53) (q := 0) rfl (by decide +kernel)) <|
    zall_c (zs_bipush X (pc := 54) (by decide) (by decide +kernel) (by decide +kernel)) <|
    zall_c (zs_newarray20 X (pc := 56) (.tail _ gw_1_81) (by decide +kernel)) <|
    zall_c (zs_putrF X (pc := 58) (ty := (Jvm.ClassFile.FieldType.array Jvm.ClassFile.FieldType.int)) zc_X5 (by decide) (zin ui_X5) tyX5_ok nmX5 (.tail _ gw_1_239) rfl hnm rfl (by decide +kernel) (by decide +kernel) (by decide +kernel) zP_arr) <|
    zall_c (zs_aload_n X (pc := 61) (q := 0) rfl (by decide +kernel)) <|
    zall_c (zs_bipush X (pc := 62) (by decide) (by decide +kernel) (by decide +kernel)) <|
    zall_c (zs_newarray20 X (pc := 64) (.tail _ gw_1_81) (by decide +kernel)) <|
    zall_c (zs_putrF X (pc := 66) (ty := (Jvm.ClassFile.FieldType.array Jvm.ClassFile.FieldType.int)) zc_X5 (by decide) (zin ui_X5) tyX5_ok nmX5 (.tail _ gw_2_1) rfl hnm rfl (by decide +kernel) (by decide +kernel) (by decide +kernel) zP_arr) <|
    zall_c (zs_iconst X (pc := 69) (by decide) (by decide +kernel)) <|
    zall_c (zs_istore_n X (pc := 70) (q := 1) rfl (by decide) (by decide +kernel)) <|
    zall_c (zs_iload_n X (pc := 71) (q := 1) rfl (by decide +kernel)) <|
    zall_c (zs_bipush X (pc := 72) (by decide) (by decide +kernel) (by decide +kernel)) <|
    zall_c (zs_icmp_ge X (pc := 74) (off := 22) (by decide +kernel) (by decide)) <|
    zall_c (zs_aload_n X (pc := 77) (q := 0) rfl (by decide +kernel)) <|
    zall_c (zs_getr X (pc := 78) zc_X5 (by decide) (zin ui_X5) (.tail _ gw_1_234) (by decide +kernel) (by decide +kernel)) <|
    zall_c (zs_iload_n X (pc := 81) (q := 1) rfl (by decide +kernel)) <|
    zall_c (zs_new X (pc := 82) zc_X7 (zin ui_X7) tyX7_ok (.tail _ gw_1_102) (.tail _ gw_1_106) (.tail _ gw_1_9) (by decide +kernel) (by decide +kernel)) <|
    zall_c (zs_dup X (pc := 85) (by decide +kernel)) <|
    zall_c (zs_callIN0 X (pc := 86) (rt := none) (idx := 49) (host := "ReviewTable") (fun _ ht hxw => ⟨(zCN ht gw_1_109 gw_1_9 (by decide +kernel) hxw rfl rfl (by decide +kernel) ⟨Nat.le_of_ble_eq_true rfl, Nat.le_of_ble_eq_true rfl⟩), rfl, ht _ (.tail _ gw_1_108)⟩) h0 (by decide +kernel)) <|
    zall_c (zs_aastore X (pc := 89) (by decide) zc_X7 rfl (by decide +kernel)) <|
    zall_c (zs_iinc X (pc := 90) (by decide) (by decide +kernel)) <|
    zall_c (zs_goto X (pc := 93) (off := (-22)) (by decide +kernel) (by decide)) <|
    zall_c (zs_iconst X (pc := 96) (by decide) (by decide +kernel)) <|
    zall_c (zs_istore_n X (pc := 97) (q := 1) rfl (by decide) (by decide +kernel)) <|
    zall_c (zs_iload_n X (pc := 98) (q := 1) rfl (by decide +kernel)) <|
    zall_c (zs_bipush X (pc := 99) (by decide) (by decide +kernel) (by decide +kernel)) <|
    zall_c (zs_icmp_ge X (pc := 101) (off := 22) (by decide +kernel) (by decide)) <|
    zall_c (zs_aload_n X (pc := 104) (q := 0) rfl (by decide +kernel)) <|
    zall_c (zs_getr X (pc := 105) zc_X5 (by decide) (zin ui_X5) (.tail _ gw_1_237) (by decide +kernel) (by decide +kernel)) <|
    zall_c (zs_iload_n X (pc := 108) (q := 1) rfl (by decide +kernel)) <|
    zall_c (zs_new X (pc := 109) zc_X4 (zin ui_X4) tyX4_ok (.tail _ gw_1_104) (.tail _ gw_1_163) (.tail _ gw_1_10) (by decide +kernel) (by decide +kernel)) <|
    zall_c (zs_dup X (pc := 112) (by decide +kernel)) <|
    zall_c (zs_callIN X (pc := 113) (rt := none) (idx := 50) (host := "ReviewTable") (fun _ ht hxw => ⟨(zCN ht gw_1_166 gw_1_10 (by decide +kernel) hxw rfl rfl (by decide +kernel) ⟨Nat.le_of_ble_eq_true rfl, Nat.le_of_ble_eq_true rfl⟩), rfl, ht _ (.tail _ gw_1_165)⟩) h1 (by decide +kernel)) <|
    zall_c (zs_aastore X (pc := 116) (by decide) zc_X4 rfl (by decide +kernel)) <|
    zall_c (zs_iinc X (pc := 117) (by decide) (by decide +kernel)) <|
    zall_c (zs_goto X (pc := 120) (off := (-22)) (by decide +kernel) (by decide)) <|
    zall_c (zs_vret X (pc := 123) rfl (by decide +kernel)) <|
    zall_n
theorem met_X5_init {l : Launch} (hl : l.stackTraces = false) {T0 : ZTf} {T1 : ZTf} (h0 : zMet l yX7_init (Cond.code yX7_init cX7_init 1 (Option.none : Option Jvm.ClassFile.FieldType) :: zG) rm_X7_init 0 0 T0) (h1 : zMet l yX4_init (Cond.code yX4_init cX4_init 1 (Option.none : Option Jvm.ClassFile.FieldType) :: zG) rm_X4_init 1 9 T1) {T : ZTf} (bd : zBd (cd_X5_init T0 T1) 2 58 618 T) : zMet l yX5_init (Cond.code yX5_init cX5_init 2 (Option.none : Option Jvm.ClassFile.FieldType) :: zG) rm_X5_init 58 618 T := zMet_of hl (by decide +kernel) rfl rfl rfl rfl (hs_X5_init hl h0 h1) bd

abbrev rm_X5_clear : Room := { frames := 2, cells := 0, slots := 0, locals := 53 }
def cd_X5_clear (T0 : ZTf) : List (Nat × ZTr) := [(0, tAld 0 1), (1, tC (zi 0) 2), (2, tPutI 8 3 (fun _ => True) 5), (5, tAld 0 6), (6, tC (zi 0) 7), (7, tPutI 8 4 (fun _ => True) 10), (10, tAld 0 11), (11, tC (zi 0) 12), (12, tPutI 8 5 (fun _ => True) 15), (15, tAld 0 16), (16, tGetR 8 8 19), (19, tC (zi 0) 20), (20, tCall0 2 T0 zAny 23), (23, tAld 0 24), (24, tGetR 8 9 27), (27, tC (zi 0) 28), (28, tCall0 2 T0 zAny 31), (31, tRv)]
set_option maxRecDepth 100000 in
set_option maxHeartbeats 4000000 in
theorem hs_X5_clear {l : Launch} (hl : l.stackTraces = false) {T0 : ZTf} (h0 : zMet l yJ7_fill_53178 (Cond.code yJ7_fill_53178 cJ7_fill_53178 4 (Option.none : Option Jvm.ClassFile.FieldType) :: zG) rm_J7_fill_53178 0 0 T0) (p : Program) (e : Env) (s : State) (m : MethodId) (args : Array Value) (below : List Frame) (meth : Method) (c : Code) (D : va_G) (A : Nat → Prop) (a0 : Nat → Nat) (M0 : ZM) (K : ZRet) (KX : ZEx) (X : zCtx p l rm_X5_clear s m args meth c cX5_clear RX5 (Cond.code yX5_clear cX5_clear 1 (Option.none : Option Jvm.ClassFile.FieldType) :: zG) 1 (Option.none : Option Jvm.ClassFile.FieldType) D A a0 M0 0 0) (hnm : meth.name = yX5_clear.name) (hout : ∀ x ∈ c.exceptionTable.toList, False) : ∀ q ∈ cd_X5_clear T0, zSd p l e rm_X5_clear s m args below meth c 1 D A a0 M0 K KX 0 0 q.1 q.2 :=
    zall_c (zs_aload_n X (pc := 0) (q := 0) rfl (by decide +kernel)) <|
    zall_c (zs_iconst X (pc := 1) (by decide) (by decide +kernel)) <|
    zall_c (zs_puti X (pc := 2) (ty := Jvm.ClassFile.FieldType.int) zc_X5 (by decide) (zin ui_X5) tyX5_ok nmX5 (.tail _ gw_1_227) rfl (by decide +kernel) (by decide +kernel) (by decide +kernel) zP_int) <|
    zall_c (zs_aload_n X (pc := 5) (q := 0) rfl (by decide +kernel)) <|
    zall_c (zs_iconst X (pc := 6) (by decide) (by decide +kernel)) <|
    zall_c (zs_puti X (pc := 7) (ty := Jvm.ClassFile.FieldType.int) zc_X5 (by decide) (zin ui_X5) tyX5_ok nmX5 (.tail _ gw_1_229) rfl (by decide +kernel) (by decide +kernel) (by decide +kernel) zP_int) <|
    zall_c (zs_aload_n X (pc := 10) (q := 0) rfl (by decide +kernel)) <|
    zall_c (zs_iconst X (pc := 11) (by decide) (by decide +kernel)) <|
    zall_c (zs_puti X (pc := 12) (ty := Jvm.ClassFile.FieldType.int) zc_X5 (by decide) (zin ui_X5) tyX5_ok nmX5 (.tail _ gw_1_232) rfl (by decide +kernel) (by decide +kernel) (by decide +kernel) zP_int) <|
    zall_c (zs_aload_n X (pc := 15) (q := 0) rfl (by decide +kernel)) <|
    zall_c (zs_getr X (pc := 16) zc_X5 (by decide) (zin ui_X5) (.tail _ gw_1_239) (by decide +kernel) (by decide +kernel)) <|
    zall_c (zs_iconst X (pc := 19) (by decide) (by decide +kernel)) <|
    zall_c (zs_callS0 X (pc := 20) (fun _ ht => ⟨(zCB ht gw_4_72 gw_1_15 gw_4_70 rfl rfl (by decide +kernel) ⟨Nat.le_of_ble_eq_true rfl, Nat.le_of_ble_eq_true rfl⟩), ht _ (.tail _ gw_4_71)⟩) h0 hout (by decide +kernel)) <|
    zall_c (zs_aload_n X (pc := 23) (q := 0) rfl (by decide +kernel)) <|
    zall_c (zs_getr X (pc := 24) zc_X5 (by decide) (zin ui_X5) (.tail _ gw_2_1) (by decide +kernel) (by decide +kernel)) <|
    zall_c (zs_iconst X (pc := 27) (by decide) (by decide +kernel)) <|
    zall_c (zs_callS0 X (pc := 28) (fun _ ht => ⟨(zCB ht gw_4_72 gw_1_15 gw_4_70 rfl rfl (by decide +kernel) ⟨Nat.le_of_ble_eq_true rfl, Nat.le_of_ble_eq_true rfl⟩), ht _ (.tail _ gw_4_71)⟩) h0 hout (by decide +kernel)) <|
    zall_c (zs_vret X (pc := 31) rfl (by decide +kernel)) <|
    zall_n
theorem met_X5_clear {l : Launch} (hl : l.stackTraces = false) {T0 : ZTf} (h0 : zMet l yJ7_fill_53178 (Cond.code yJ7_fill_53178 cJ7_fill_53178 4 (Option.none : Option Jvm.ClassFile.FieldType) :: zG) rm_J7_fill_53178 0 0 T0) {T : ZTf} (bd : zBd (cd_X5_clear T0) 1 0 0 T) : zMet l yX5_clear (Cond.code yX5_clear cX5_clear 1 (Option.none : Option Jvm.ClassFile.FieldType) :: zG) rm_X5_clear 0 0 T := zMet_of hl (by decide +kernel) rfl rfl rfl rfl (hs_X5_clear hl h0) bd

abbrev rm_X5_copyFrom : Room := { frames := 2, cells := 0, slots := 0, locals := 81 }
def cd_X5_copyFrom (T0 : ZTf) (T1 : ZTf) : List (Nat × ZTr) := [(0, tAld 0 1), (1, tAld 1 2), (2, tGetI 8 0 5), (5, tPutI 8 0 (fun _ => True) 8), (8, tAld 0 9), (9, tAld 1 10), (10, tGetI 8 1 13), (13, tPutI 8 1 (fun _ => True) 16), (16, tAld 0 17), (17, tAld 1 18), (18, tGetI 8 2 21), (21, tPutI 8 2 (fun _ => True) 24), (24, tAld 0 25), (25, tAld 1 26), (26, tGetI 8 3 29), (29, tPutI 8 3 (fun _ => True) 32), (32, tAld 0 33), (33, tAld 1 34), (34, tGetI 8 4 37), (37, tPutI 8 4 (fun _ => True) 40), (40, tAld 0 41), (41, tAld 1 42), (42, tGetI 8 5 45), (45, tPutI 8 5 (fun _ => True) 48), (48, tC (zi 0) 49), (49, tIst 2 50), (50, tIld 2 51), (51, tAld 0 52), (52, tGetI 8 4 55), (55, tIc_ge 79 58), (58, tAld 0 59), (59, tGetR 8 6 62), (62, tIld 2 63), (63, tAal 30 64), (64, tAld 1 65), (65, tGetR 8 6 68), (68, tIld 2 69), (69, tAal 30 70), (70, tCall0 2 T0 (zRcv 10) 73), (73, tInc 2 1 76), (76, tGo 50), (79, tC (zi 0) 80), (80, tIst 2 81), (81, tIld 2 82), (82, tAld 0 83), (83, tGetI 8 5 86), (86, tIc_ge 110 89), (89, tAld 0 90), (90, tGetR 8 7 93), (93, tIld 2 94), (94, tAal 31 95), (95, tAld 1 96), (96, tGetR 8 7 99), (99, tIld 2 100), (100, tAal 31 101), (101, tCall0 2 T1 (zRcv 7) 104), (104, tInc 2 1 107), (107, tGo 81), (110, tAld 1 111), (111, tGetR 8 8 114), (114, tC (zi 0) 115), (115, tAld 0 116), (116, tGetR 8 8 119), (119, tC (zi 0) 120), (120, tAld 0 121), (121, tGetR 8 8 124), (124, tLen 125), (125, tCpy 20 (fun _ => True) 128), (128, tAld 1 129), (129, tGetR 8 9 132), (132, tC (zi 0) 133), (133, tAld 0 134), (134, tGetR 8 9 137), (137, tC (zi 0) 138), (138, tAld 0 139), (139, tGetR 8 9 142), (142, tLen 143), (143, tCpy 20 (fun _ => True) 146), (146, tRv)]
set_option maxRecDepth 100000 in
set_option maxHeartbeats 4000000 in
theorem hs_X5_copyFrom {l : Launch} (hl : l.stackTraces = false) {T0 : ZTf} {T1 : ZTf} (h0 : zMet l yX7_copyFrom (Cond.code yX7_copyFrom cX7_copyFrom 2 (Option.none : Option Jvm.ClassFile.FieldType) :: zG) rm_X7_copyFrom 0 0 T0) (h1 : zMet l yX4_copyFrom (Cond.code yX4_copyFrom cX4_copyFrom 2 (Option.none : Option Jvm.ClassFile.FieldType) :: zG) rm_X4_copyFrom 0 0 T1) (p : Program) (e : Env) (s : State) (m : MethodId) (args : Array Value) (below : List Frame) (meth : Method) (c : Code) (D : va_G) (A : Nat → Prop) (a0 : Nat → Nat) (M0 : ZM) (K : ZRet) (KX : ZEx) (X : zCtx p l rm_X5_copyFrom s m args meth c cX5_copyFrom RX5 (Cond.code yX5_copyFrom cX5_copyFrom 3 (Option.none : Option Jvm.ClassFile.FieldType) :: zG) 3 (Option.none : Option Jvm.ClassFile.FieldType) D A a0 M0 0 0) (hnm : meth.name = yX5_copyFrom.name) (hout : ∀ x ∈ c.exceptionTable.toList, False) : ∀ q ∈ cd_X5_copyFrom T0 T1, zSd p l e rm_X5_copyFrom s m args below meth c 3 D A a0 M0 K KX 0 0 q.1 q.2 :=
    zall_c (zs_aload_n X (pc := 0) (q := 0) rfl (by decide +kernel)) <|
    zall_c (zs_aload_n X (pc := 1) (q := 1) rfl (by decide +kernel)) <|
    zall_c (zs_geti X (pc := 2) zc_X5 (by decide) (zin ui_X5) (.tail _ gw_1_218) (by decide +kernel) (by decide +kernel)) <|
    zall_c (zs_puti X (pc := 5) (ty := Jvm.ClassFile.FieldType.int) zc_X5 (by decide) (zin ui_X5) tyX5_ok nmX5 (.tail _ gw_1_218) rfl (by decide +kernel) (by decide +kernel) (by decide +kernel) zP_int) <|
    zall_c (zs_aload_n X (pc := 8) (q := 0) rfl (by decide +kernel)) <|
    zall_c (zs_aload_n X (pc := 9) (q := 1) rfl (by decide +kernel)) <|
    zall_c (zs_geti X (pc := 10) zc_X5 (by decide) (zin ui_X5) (.tail _ gw_1_221) (by decide +kernel) (by decide +kernel)) <|
    zall_c (zs_puti X (pc := 13) (ty := Jvm.ClassFile.FieldType.int) zc_X5 (by decide) (zin ui_X5) tyX5_ok nmX5 (.tail _ gw_1_221) rfl (by decide +kernel) (by decide +kernel) (by decide +kernel) zP_int) <|
    zall_c (zs_aload_n X (pc := 16) (q := 0) rfl (by decide +kernel)) <|
    zall_c (zs_aload_n X (pc := 17) (q := 1) rfl (by decide +kernel)) <|
    zall_c (zs_geti X (pc := 18) zc_X5 (by decide) (zin ui_X5) (.tail _ gw_1_224) (by decide +kernel) (by decide +kernel)) <|
    zall_c (zs_puti X (pc := 21) (ty := Jvm.ClassFile.FieldType.int) zc_X5 (by decide) (zin ui_X5) tyX5_ok nmX5 (.tail _ gw_1_224) rfl (by decide +kernel) (by decide +kernel) (by decide +kernel) zP_int) <|
    zall_c (zs_aload_n X (pc := 24) (q := 0) rfl (by decide +kernel)) <|
    zall_c (zs_aload_n X (pc := 25) (q := 1) rfl (by decide +kernel)) <|
    zall_c (zs_geti X (pc := 26) zc_X5 (by decide) (zin ui_X5) (.tail _ gw_1_227) (by decide +kernel) (by decide +kernel)) <|
    zall_c (zs_puti X (pc := 29) (ty := Jvm.ClassFile.FieldType.int) zc_X5 (by decide) (zin ui_X5) tyX5_ok nmX5 (.tail _ gw_1_227) rfl (by decide +kernel) (by decide +kernel) (by decide +kernel) zP_int) <|
    zall_c (zs_aload_n X (pc := 32) (q := 0) rfl (by decide +kernel)) <|
    zall_c (zs_aload_n X (pc := 33) (q := 1) rfl (by decide +kernel)) <|
    zall_c (zs_geti X (pc := 34) zc_X5 (by decide) (zin ui_X5) (.tail _ gw_1_229) (by decide +kernel) (by decide +kernel)) <|
    zall_c (zs_puti X (pc := 37) (ty := Jvm.ClassFile.FieldType.int) zc_X5 (by decide) (zin ui_X5) tyX5_ok nmX5 (.tail _ gw_1_229) rfl (by decide +kernel) (by decide +kernel) (by decide +kernel) zP_int) <|
    zall_c (zs_aload_n X (pc := 40) (q := 0) rfl (by decide +kernel)) <|
    zall_c (zs_aload_n X (pc := 41) (q := 1) rfl (by decide +kernel)) <|
    zall_c (zs_geti X (pc := 42) zc_X5 (by decide) (zin ui_X5) (.tail _ gw_1_232) (by decide +kernel) (by decide +kernel)) <|
    zall_c (zs_puti X (pc := 45) (ty := Jvm.ClassFile.FieldType.int) zc_X5 (by decide) (zin ui_X5) tyX5_ok nmX5 (.tail _ gw_1_232) rfl (by decide +kernel) (by decide +kernel) (by decide +kernel) zP_int) <|
    zall_c (zs_iconst X (pc := 48) (by decide) (by decide +kernel)) <|
    zall_c (zs_istore_n X (pc := 49) (q := 2) rfl (by decide) (by decide +kernel)) <|
    zall_c (zs_iload_n X (pc := 50) (q := 2) rfl (by decide +kernel)) <|
    zall_c (zs_aload_n X (pc := 51) (q := 0) rfl (by decide +kernel)) <|
    zall_c (zs_geti X (pc := 52) zc_X5 (by decide) (zin ui_X5) (.tail _ gw_1_229) (by decide +kernel) (by decide +kernel)) <|
    zall_c (zs_icmp_ge X (pc := 55) (off := 24) (by decide +kernel) (by decide)) <|
    zall_c (zs_aload_n X (pc := 58) (q := 0) rfl (by decide +kernel)) <|
    zall_c (zs_getr X (pc := 59) zc_X5 (by decide) (zin ui_X5) (.tail _ gw_1_234) (by decide +kernel) (by decide +kernel)) <|
    zall_c (zs_iload_n X (pc := 62) (q := 2) rfl (by decide +kernel)) <|
    zall_c (zs_aaload X (pc := 63) (by decide) rfl (by decide +kernel)) <|
    zall_c (zs_aload_n X (pc := 64) (q := 1) rfl (by decide +kernel)) <|
    zall_c (zs_getr X (pc := 65) zc_X5 (by decide) (zin ui_X5) (.tail _ gw_1_234) (by decide +kernel) (by decide +kernel)) <|
    zall_c (zs_iload_n X (pc := 68) (q := 2) rfl (by decide +kernel)) <|
    zall_c (zs_aaload X (pc := 69) (by decide) rfl (by decide +kernel)) <|
    zall_c (zs_callV0 X (pc := 70) zc_X7 (fun _ ht => ⟨(zCB ht gw_5_5 gw_1_9 gw_5_2 rfl rfl (by decide +kernel) ⟨Nat.le_of_ble_eq_true rfl, Nat.le_of_ble_eq_true rfl⟩), ht _ (.tail _ gw_5_3), ht _ (.tail _ gw_5_4)⟩) h0 hout (by decide +kernel)) <|
    zall_c (zs_iinc X (pc := 73) (by decide) (by decide +kernel)) <|
    zall_c (zs_goto X (pc := 76) (off := (-26)) (by decide +kernel) (by decide)) <|
    zall_c (zs_iconst X (pc := 79) (by decide) (by decide +kernel)) <|
    zall_c (zs_istore_n X (pc := 80) (q := 2) rfl (by decide) (by decide +kernel)) <|
    zall_c (zs_iload_n X (pc := 81) (q := 2) rfl (by decide +kernel)) <|
    zall_c (zs_aload_n X (pc := 82) (q := 0) rfl (by decide +kernel)) <|
    zall_c (zs_geti X (pc := 83) zc_X5 (by decide) (zin ui_X5) (.tail _ gw_1_232) (by decide +kernel) (by decide +kernel)) <|
    zall_c (zs_icmp_ge X (pc := 86) (off := 24) (by decide +kernel) (by decide)) <|
    zall_c (zs_aload_n X (pc := 89) (q := 0) rfl (by decide +kernel)) <|
    zall_c (zs_getr X (pc := 90) zc_X5 (by decide) (zin ui_X5) (.tail _ gw_1_237) (by decide +kernel) (by decide +kernel)) <|
    zall_c (zs_iload_n X (pc := 93) (q := 2) rfl (by decide +kernel)) <|
    zall_c (zs_aaload X (pc := 94) (by decide) rfl (by decide +kernel)) <|
    zall_c (zs_aload_n X (pc := 95) (q := 1) rfl (by decide +kernel)) <|
    zall_c (zs_getr X (pc := 96) zc_X5 (by decide) (zin ui_X5) (.tail _ gw_1_237) (by decide +kernel) (by decide +kernel)) <|
    zall_c (zs_iload_n X (pc := 99) (q := 2) rfl (by decide +kernel)) <|
    zall_c (zs_aaload X (pc := 100) (by decide) rfl (by decide +kernel)) <|
    zall_c (zs_callV0 X (pc := 101) zc_X4 (fun _ ht => ⟨(zCB ht gw_5_9 gw_1_10 gw_5_6 rfl rfl (by decide +kernel) ⟨Nat.le_of_ble_eq_true rfl, Nat.le_of_ble_eq_true rfl⟩), ht _ (.tail _ gw_5_7), ht _ (.tail _ gw_5_8)⟩) h1 hout (by decide +kernel)) <|
    zall_c (zs_iinc X (pc := 104) (by decide) (by decide +kernel)) <|
    zall_c (zs_goto X (pc := 107) (off := (-26)) (by decide +kernel) (by decide)) <|
    zall_c (zs_aload_n X (pc := 110) (q := 1) rfl (by decide +kernel)) <|
    zall_c (zs_getr X (pc := 111) zc_X5 (by decide) (zin ui_X5) (.tail _ gw_1_239) (by decide +kernel) (by decide +kernel)) <|
    zall_c (zs_iconst X (pc := 114) (by decide) (by decide +kernel)) <|
    zall_c (zs_aload_n X (pc := 115) (q := 0) rfl (by decide +kernel)) <|
    zall_c (zs_getr X (pc := 116) zc_X5 (by decide) (zin ui_X5) (.tail _ gw_1_239) (by decide +kernel) (by decide +kernel)) <|
    zall_c (zs_iconst X (pc := 119) (by decide) (by decide +kernel)) <|
    zall_c (zs_aload_n X (pc := 120) (q := 0) rfl (by decide +kernel)) <|
    zall_c (zs_getr X (pc := 121) zc_X5 (by decide) (zin ui_X5) (.tail _ gw_1_239) (by decide +kernel) (by decide +kernel)) <|
    zall_c (zs_len X (pc := 124) (by decide +kernel)) <|
    zall_c (zs_copy20 X (pc := 125) (.tail _ gw_5_11) (.tail _ gw_3_63) (.tail _ gw_3_62) (.tail _ gw_1_16) (Nat.le_of_ble_eq_true rfl) (by show 8 + (nativeFrameWords "java/lang/System" "arraycopy" 5 + 11) ≤ 81; decide +kernel) (by decide +kernel)) <|
    zall_c (zs_aload_n X (pc := 128) (q := 1) rfl (by decide +kernel)) <|
    zall_c (zs_getr X (pc := 129) zc_X5 (by decide) (zin ui_X5) (.tail _ gw_2_1) (by decide +kernel) (by decide +kernel)) <|
    zall_c (zs_iconst X (pc := 132) (by decide) (by decide +kernel)) <|
    zall_c (zs_aload_n X (pc := 133) (q := 0) rfl (by decide +kernel)) <|
    zall_c (zs_getr X (pc := 134) zc_X5 (by decide) (zin ui_X5) (.tail _ gw_2_1) (by decide +kernel) (by decide +kernel)) <|
    zall_c (zs_iconst X (pc := 137) (by decide) (by decide +kernel)) <|
    zall_c (zs_aload_n X (pc := 138) (q := 0) rfl (by decide +kernel)) <|
    zall_c (zs_getr X (pc := 139) zc_X5 (by decide) (zin ui_X5) (.tail _ gw_2_1) (by decide +kernel) (by decide +kernel)) <|
    zall_c (zs_len X (pc := 142) (by decide +kernel)) <|
    zall_c (zs_copy20 X (pc := 143) (.tail _ gw_5_11) (.tail _ gw_3_63) (.tail _ gw_3_62) (.tail _ gw_1_16) (Nat.le_of_ble_eq_true rfl) (by show 8 + (nativeFrameWords "java/lang/System" "arraycopy" 5 + 11) ≤ 81; decide +kernel) (by decide +kernel)) <|
    zall_c (zs_vret X (pc := 146) rfl (by decide +kernel)) <|
    zall_n
theorem met_X5_copyFrom {l : Launch} (hl : l.stackTraces = false) {T0 : ZTf} {T1 : ZTf} (h0 : zMet l yX7_copyFrom (Cond.code yX7_copyFrom cX7_copyFrom 2 (Option.none : Option Jvm.ClassFile.FieldType) :: zG) rm_X7_copyFrom 0 0 T0) (h1 : zMet l yX4_copyFrom (Cond.code yX4_copyFrom cX4_copyFrom 2 (Option.none : Option Jvm.ClassFile.FieldType) :: zG) rm_X4_copyFrom 0 0 T1) {T : ZTf} (bd : zBd (cd_X5_copyFrom T0 T1) 3 0 0 T) : zMet l yX5_copyFrom (Cond.code yX5_copyFrom cX5_copyFrom 3 (Option.none : Option Jvm.ClassFile.FieldType) :: zG) rm_X5_copyFrom 0 0 T := zMet_of hl (by decide +kernel) rfl rfl rfl rfl (hs_X5_copyFrom hl h0 h1) bd

abbrev rm_X5_putWorker : Room := { frames := 2, cells := 0, slots := 0, locals := 54 }
def cd_X5_putWorker (T0 : ZTf) : List (Nat × ZTr) := [(0, tAld 0 1), (1, tGetI 8 4 4), (4, tC (zi 6) 6), (6, tIc_lt 10 9), (9, tRv), (10, tAld 0 11), (11, tGetR 8 6 14), (14, tAld 0 15), (15, tGetI 8 4 18), (18, tAal 30 19), (19, tAld 1 20), (20, tIld 2 21), (21, tIld 3 22), (22, tIld 4 24), (24, tCall0 5 T0 (zRcv 10) 27), (27, tAld 0 28), (28, tDup 29), (29, tGetI 8 4 32), (32, tC (zi 1) 33), (33, tAdd 34), (34, tPutI 8 4 (fun _ => True) 37), (37, tRv)]
set_option maxRecDepth 100000 in
set_option maxHeartbeats 4000000 in
theorem hs_X5_putWorker {l : Launch} (hl : l.stackTraces = false) {T0 : ZTf} (h0 : zMet l yX7_begin (Cond.code yX7_begin cX7_begin 5 (Option.none : Option Jvm.ClassFile.FieldType) :: zG) rm_X7_begin 0 0 T0) (p : Program) (e : Env) (s : State) (m : MethodId) (args : Array Value) (below : List Frame) (meth : Method) (c : Code) (D : va_G) (A : Nat → Prop) (a0 : Nat → Nat) (M0 : ZM) (K : ZRet) (KX : ZEx) (X : zCtx p l rm_X5_putWorker s m args meth c cX5_putWorker RX5 (Cond.code yX5_putWorker cX5_putWorker 5 (Option.none : Option Jvm.ClassFile.FieldType) :: zG) 5 (Option.none : Option Jvm.ClassFile.FieldType) D A a0 M0 0 0) (hnm : meth.name = yX5_putWorker.name) (hout : ∀ x ∈ c.exceptionTable.toList, False) : ∀ q ∈ cd_X5_putWorker T0, zSd p l e rm_X5_putWorker s m args below meth c 5 D A a0 M0 K KX 0 0 q.1 q.2 :=
    zall_c (zs_aload_n X (pc := 0) (q := 0) rfl (by decide +kernel)) <|
    zall_c (zs_geti X (pc := 1) zc_X5 (by decide) (zin ui_X5) (.tail _ gw_1_229) (by decide +kernel) (by decide +kernel)) <|
    zall_c (zs_bipush X (pc := 4) (by decide) (by decide +kernel) (by decide +kernel)) <|
    zall_c (zs_icmp_lt X (pc := 6) (off := 4) (by decide +kernel) (by decide)) <|
    zall_c (zs_vret X (pc := 9) rfl (by decide +kernel)) <|
    zall_c (zs_aload_n X (pc := 10) (q := 0) rfl (by decide +kernel)) <|
    zall_c (zs_getr X (pc := 11) zc_X5 (by decide) (zin ui_X5) (.tail _ gw_1_234) (by decide +kernel) (by decide +kernel)) <|
    zall_c (zs_aload_n X (pc := 14) (q := 0) rfl (by decide +kernel)) <|
    zall_c (zs_geti X (pc := 15) zc_X5 (by decide) (zin ui_X5) (.tail _ gw_1_229) (by decide +kernel) (by decide +kernel)) <|
    zall_c (zs_aaload X (pc := 18) (by decide) rfl (by decide +kernel)) <|
    zall_c (zs_aload_n X (pc := 19) (q := 1) rfl (by decide +kernel)) <|
    zall_c (zs_iload_n X (pc := 20) (q := 2) rfl (by decide +kernel)) <|
    zall_c (zs_iload_n X (pc := 21) (q := 3) rfl (by decide +kernel)) <|
    zall_c (zs_iload X (pc := 22) (by decide +kernel)) <|
    zall_c (zs_callV0 X (pc := 24) zc_X7 (fun _ ht => ⟨(zCB ht gw_4_192 gw_1_9 gw_4_189 rfl rfl (by decide +kernel) ⟨Nat.le_of_ble_eq_true rfl, Nat.le_of_ble_eq_true rfl⟩), ht _ (.tail _ gw_4_190), ht _ (.tail _ gw_4_191)⟩) h0 hout (by decide +kernel)) <|
    zall_c (zs_aload_n X (pc := 27) (q := 0) rfl (by decide +kernel)) <|
    zall_c (zs_dup X (pc := 28) (by decide +kernel)) <|
    zall_c (zs_geti X (pc := 29) zc_X5 (by decide) (zin ui_X5) (.tail _ gw_1_229) (by decide +kernel) (by decide +kernel)) <|
    zall_c (zs_iconst X (pc := 32) (by decide) (by decide +kernel)) <|
    zall_c (zs_iadd X (pc := 33) (by decide +kernel)) <|
    zall_c (zs_puti X (pc := 34) (ty := Jvm.ClassFile.FieldType.int) zc_X5 (by decide) (zin ui_X5) tyX5_ok nmX5 (.tail _ gw_1_229) rfl (by decide +kernel) (by decide +kernel) (by decide +kernel) zP_int) <|
    zall_c (zs_vret X (pc := 37) rfl (by decide +kernel)) <|
    zall_n
theorem met_X5_putWorker {l : Launch} (hl : l.stackTraces = false) {T0 : ZTf} (h0 : zMet l yX7_begin (Cond.code yX7_begin cX7_begin 5 (Option.none : Option Jvm.ClassFile.FieldType) :: zG) rm_X7_begin 0 0 T0) {T : ZTf} (bd : zBd (cd_X5_putWorker T0) 5 0 0 T) : zMet l yX5_putWorker (Cond.code yX5_putWorker cX5_putWorker 5 (Option.none : Option Jvm.ClassFile.FieldType) :: zG) rm_X5_putWorker 0 0 T := zMet_of hl (by decide +kernel) rfl rfl rfl rfl (hs_X5_putWorker hl h0) bd

abbrev rm_X5_reasonAgainst : Room := { frames := 4, cells := 0, slots := 0, locals := 99 }
def cd_X5_reasonAgainst (T0 : ZTf) (T1 : ZTf) (T2 : ZTf) : List (Nat × ZTr) := [(0, tAld 0 1), (1, tIld 1 2), (2, tCall0 2 T0 (zRcv 8) 5), (5, tIf_eq 10 8), (8, tC (zi 1) 9), (9, tRi (fun _ => True)), (10, tAld 0 11), (11, tGetR 8 6 14), (14, tIld 1 15), (15, tAal 30 16), (16, tGetI 10 4 19), (19, tAld 0 20), (20, tGetR 8 6 23), (23, tIld 1 24), (24, tAal 30 25), (25, tGetI 10 2 28), (28, tIc_lt 33 31), (31, tC (zi 2) 32), (32, tRi (fun _ => True)), (33, tAld 0 34), (34, tGetR 8 7 37), (37, tIld 2 38), (38, tAal 31 39), (39, tCall0 1 T1 (zRcv 7) 42), (42, tIf_ne 47 45), (45, tC (zi 3) 46), (46, tRi (fun _ => True)), (47, tAld 0 48), (48, tIld 1 49), (49, tAld 0 50), (50, tGetR 8 7 53), (53, tIld 2 54), (54, tAal 31 55), (55, tCall0 3 T2 (zRcv 8) 58), (58, tRi (fun _ => True))]
set_option maxRecDepth 100000 in
set_option maxHeartbeats 4000000 in
theorem hs_X5_reasonAgainst {l : Launch} (hl : l.stackTraces = false) {T0 : ZTf} {T1 : ZTf} {T2 : ZTf} (h0 : zMet l yX5_isSuspended (Cond.code yX5_isSuspended cX5_isSuspended 2 (Option.some Jvm.ClassFile.FieldType.boolean) :: zG) rm_X5_isSuspended 0 0 T0) (h1 : zMet l yX4_missingWorkers (Cond.code yX4_missingWorkers cX4_missingWorkers 2 (Option.some Jvm.ClassFile.FieldType.int) :: zG) rm_X4_missingWorkers 0 0 T1) (h2 : zMet l yX5_clashWith (Cond.code yX5_clashWith cX5_clashWith 6 (Option.some Jvm.ClassFile.FieldType.int) :: zG) rm_X5_clashWith 0 0 T2) (p : Program) (e : Env) (s : State) (m : MethodId) (args : Array Value) (below : List Frame) (meth : Method) (c : Code) (D : va_G) (A : Nat → Prop) (a0 : Nat → Nat) (M0 : ZM) (K : ZRet) (KX : ZEx) (X : zCtx p l rm_X5_reasonAgainst s m args meth c cX5_reasonAgainst RX5 (Cond.code yX5_reasonAgainst cX5_reasonAgainst 3 (Option.some Jvm.ClassFile.FieldType.int) :: zG) 3 (Option.some Jvm.ClassFile.FieldType.int) D A a0 M0 0 0) (hnm : meth.name = yX5_reasonAgainst.name) (hout : ∀ x ∈ c.exceptionTable.toList, False) : ∀ q ∈ cd_X5_reasonAgainst T0 T1 T2, zSd p l e rm_X5_reasonAgainst s m args below meth c 3 D A a0 M0 K KX 0 0 q.1 q.2 :=
    zall_c (zs_aload_n X (pc := 0) (q := 0) rfl (by decide +kernel)) <|
    zall_c (zs_iload_n X (pc := 1) (q := 1) rfl (by decide +kernel)) <|
    zall_c (zs_callV0 X (pc := 2) zc_X5 (fun _ ht => ⟨(zCB ht gw_5_127 gw_1_8 gw_5_124 rfl rfl (by decide +kernel) ⟨Nat.le_of_ble_eq_true rfl, Nat.le_of_ble_eq_true rfl⟩), ht _ (.tail _ gw_5_125), ht _ (.tail _ gw_5_126)⟩) h0 hout (by decide +kernel)) <|
    zall_c (zs_if_eq X (pc := 5) (off := 5) (by decide +kernel) (by decide)) <|
    zall_c (zs_iconst X (pc := 8) (by decide) (by decide +kernel)) <|
    zall_c (zs_iret X (pc := 9) rfl (by decide +kernel)) <|
    zall_c (zs_aload_n X (pc := 10) (q := 0) rfl (by decide +kernel)) <|
    zall_c (zs_getr X (pc := 11) zc_X5 (by decide) (zin ui_X5) (.tail _ gw_1_234) (by decide +kernel) (by decide +kernel)) <|
    zall_c (zs_iload_n X (pc := 14) (q := 1) rfl (by decide +kernel)) <|
    zall_c (zs_aaload X (pc := 15) (by decide) rfl (by decide +kernel)) <|
    zall_c (zs_geti X (pc := 16) zc_X7 (by decide) (zin ui_X7) (.tail _ gw_1_126) (by decide +kernel) (by decide +kernel)) <|
    zall_c (zs_aload_n X (pc := 19) (q := 0) rfl (by decide +kernel)) <|
    zall_c (zs_getr X (pc := 20) zc_X5 (by decide) (zin ui_X5) (.tail _ gw_1_234) (by decide +kernel) (by decide +kernel)) <|
    zall_c (zs_iload_n X (pc := 23) (q := 1) rfl (by decide +kernel)) <|
    zall_c (zs_aaload X (pc := 24) (by decide) rfl (by decide +kernel)) <|
    zall_c (zs_geti X (pc := 25) zc_X7 (by decide) (zin ui_X7) (.tail _ gw_1_119) (by decide +kernel) (by decide +kernel)) <|
    zall_c (zs_icmp_lt X (pc := 28) (off := 5) (by decide +kernel) (by decide)) <|
    zall_c (zs_iconst X (pc := 31) (by decide) (by decide +kernel)) <|
    zall_c (zs_iret X (pc := 32) rfl (by decide +kernel)) <|
    zall_c (zs_aload_n X (pc := 33) (q := 0) rfl (by decide +kernel)) <|
    zall_c (zs_getr X (pc := 34) zc_X5 (by decide) (zin ui_X5) (.tail _ gw_1_237) (by decide +kernel) (by decide +kernel)) <|
    zall_c (zs_iload_n X (pc := 37) (q := 2) rfl (by decide +kernel)) <|
    zall_c (zs_aaload X (pc := 38) (by decide) rfl (by decide +kernel)) <|
    zall_c (zs_callV0 X (pc := 39) zc_X4 (fun _ ht => ⟨(zCB ht gw_5_66 gw_1_10 gw_5_128 rfl rfl (by decide +kernel) ⟨Nat.le_of_ble_eq_true rfl, Nat.le_of_ble_eq_true rfl⟩), ht _ (.tail _ gw_5_64), ht _ (.tail _ gw_5_65)⟩) h1 hout (by decide +kernel)) <|
    zall_c (zs_if_ne X (pc := 42) (off := 5) (by decide +kernel) (by decide)) <|
    zall_c (zs_iconst X (pc := 45) (by decide) (by decide +kernel)) <|
    zall_c (zs_iret X (pc := 46) rfl (by decide +kernel)) <|
    zall_c (zs_aload_n X (pc := 47) (q := 0) rfl (by decide +kernel)) <|
    zall_c (zs_iload_n X (pc := 48) (q := 1) rfl (by decide +kernel)) <|
    zall_c (zs_aload_n X (pc := 49) (q := 0) rfl (by decide +kernel)) <|
    zall_c (zs_getr X (pc := 50) zc_X5 (by decide) (zin ui_X5) (.tail _ gw_1_237) (by decide +kernel) (by decide +kernel)) <|
    zall_c (zs_iload_n X (pc := 53) (q := 2) rfl (by decide +kernel)) <|
    zall_c (zs_aaload X (pc := 54) (by decide) rfl (by decide +kernel)) <|
    zall_c (zs_callV0 X (pc := 55) zc_X5 (fun _ ht => ⟨(zCB ht gw_5_132 gw_1_8 gw_5_129 rfl rfl (by decide +kernel) ⟨Nat.le_of_ble_eq_true rfl, Nat.le_of_ble_eq_true rfl⟩), ht _ (.tail _ gw_5_130), ht _ (.tail _ gw_5_131)⟩) h2 hout (by decide +kernel)) <|
    zall_c (zs_iret X (pc := 58) rfl (by decide +kernel)) <|
    zall_n
theorem met_X5_reasonAgainst {l : Launch} (hl : l.stackTraces = false) {T0 : ZTf} {T1 : ZTf} {T2 : ZTf} (h0 : zMet l yX5_isSuspended (Cond.code yX5_isSuspended cX5_isSuspended 2 (Option.some Jvm.ClassFile.FieldType.boolean) :: zG) rm_X5_isSuspended 0 0 T0) (h1 : zMet l yX4_missingWorkers (Cond.code yX4_missingWorkers cX4_missingWorkers 2 (Option.some Jvm.ClassFile.FieldType.int) :: zG) rm_X4_missingWorkers 0 0 T1) (h2 : zMet l yX5_clashWith (Cond.code yX5_clashWith cX5_clashWith 6 (Option.some Jvm.ClassFile.FieldType.int) :: zG) rm_X5_clashWith 0 0 T2) {T : ZTf} (bd : zBd (cd_X5_reasonAgainst T0 T1 T2) 3 0 0 T) : zMet l yX5_reasonAgainst (Cond.code yX5_reasonAgainst cX5_reasonAgainst 3 (Option.some Jvm.ClassFile.FieldType.int) :: zG) rm_X5_reasonAgainst 0 0 T := zMet_of hl (by decide +kernel) rfl rfl rfl rfl (hs_X5_reasonAgainst hl h0 h1 h2) bd
