abbrev rm_X1_addFourBytes : Room := { frames := 1, cells := 0, slots := 0, locals := 30 }
def cd_X1_addFourBytes : List (Nat × ZTr) := [(0, tAld 0 1), (1, tGetI 5 1 4), (4, tC (zi 4) 5), (5, tAdd 6), (6, tC (zi 500) 9), (9, tIc_le 13 12), (12, tRv), (13, tC (zi 24) 15), (15, tIst 2 16), (16, tIld 2 17), (17, tIf_lt 52 20), (20, tAld 0 21), (21, tGetR 5 0 24), (24, tAld 0 25), (25, tGetI 5 1 28), (28, tIld 1 29), (29, tIld 2 30), (30, tBif zushr 31), (31, tC (zi 255) 34), (34, tBif zand 35), (35, tIas 20 (fun _ => True) 36), (36, tAld 0 37), (37, tDup 38), (38, tGetI 5 1 41), (41, tC (zi 1) 42), (42, tAdd 43), (43, tPutI 5 1 (fun _ => True) 46), (46, tInc 2 (-8) 49), (49, tGo 16), (52, tRv)]
set_option maxRecDepth 100000 in
set_option maxHeartbeats 4000000 in
theorem hs_X1_addFourBytes {l : Launch} (hl : l.stackTraces = false) (p : Program) (e : Env) (s : State) (m : MethodId) (args : Array Value) (below : List Frame) (meth : Method) (c : Code) (D : va_G) (A : Nat → Prop) (a0 : Nat → Nat) (M0 : ZM) (K : ZRet) (KX : ZEx) (X : zCtx p l rm_X1_addFourBytes s m args meth c cX1_addFourBytes RX1 (Cond.code yX1_addFourBytes cX1_addFourBytes 3 (Option.none : Option Jvm.ClassFile.FieldType) :: zG) 3 (Option.none : Option Jvm.ClassFile.FieldType) D A a0 M0 0 0) (hnm : meth.name = yX1_addFourBytes.name) (hout : ∀ x ∈ c.exceptionTable.toList, False) : ∀ q ∈ cd_X1_addFourBytes, zSd p l e rm_X1_addFourBytes s m args below meth c 3 D A a0 M0 K KX 0 0 q.1 q.2 :=
    zall_c (zs_aload_n X (pc := 0) (q := 0) rfl (by decide +kernel)) <|
    zall_c (zs_geti X (pc := 1) zc_X1 (by decide) (zin ui_X1) (.tail _ gw_1_89) (by decide +kernel) (by decide +kernel)) <|
    zall_c (zs_iconst X (pc := 4) (by decide) (by decide +kernel)) <|
    zall_c (zs_iadd X (pc := 5) (by decide +kernel)) <|
    zall_c (zs_sipush X (pc := 6) (by decide) (by decide +kernel) (by decide +kernel)) <|
    zall_c (zs_icmp_le X (pc := 9) (off := 4) (by decide +kernel) (by decide)) <|
    zall_c (zs_vret X (pc := 12) rfl (by decide +kernel)) <|
    zall_c (zs_bipush X (pc := 13) (by decide) (by decide +kernel) (by decide +kernel)) <|
    zall_c (zs_istore_n X (pc := 15) (q := 2) rfl (by decide) (by decide +kernel)) <|
    zall_c (zs_iload_n X (pc := 16) (q := 2) rfl (by decide +kernel)) <|
    zall_c (zs_if_lt X (pc := 17) (off := 35) (by decide +kernel) (by decide)) <|
    zall_c (zs_aload_n X (pc := 20) (q := 0) rfl (by decide +kernel)) <|
    zall_c (zs_getr X (pc := 21) zc_X1 (by decide) (zin ui_X1) (.tail _ gw_1_87) (by decide +kernel) (by decide +kernel)) <|
    zall_c (zs_aload_n X (pc := 24) (q := 0) rfl (by decide +kernel)) <|
    zall_c (zs_geti X (pc := 25) zc_X1 (by decide) (zin ui_X1) (.tail _ gw_1_89) (by decide +kernel) (by decide +kernel)) <|
    zall_c (zs_iload_n X (pc := 28) (q := 1) rfl (by decide +kernel)) <|
    zall_c (zs_iload_n X (pc := 29) (q := 2) rfl (by decide +kernel)) <|
    zall_c (zs_iushr X (pc := 30) (by decide +kernel)) <|
    zall_c (zs_sipush X (pc := 31) (by decide) (by decide +kernel) (by decide +kernel)) <|
    zall_c (zs_iand X (pc := 34) (by decide +kernel)) <|
    zall_c (zs_iastore20 X (pc := 35) (by decide +kernel)) <|
    zall_c (zs_aload_n X (pc := 36) (q := 0) rfl (by decide +kernel)) <|
    zall_c (zs_dup X (pc := 37) (by decide +kernel)) <|
    zall_c (zs_geti X (pc := 38) zc_X1 (by decide) (zin ui_X1) (.tail _ gw_1_89) (by decide +kernel) (by decide +kernel)) <|
    zall_c (zs_iconst X (pc := 41) (by decide) (by decide +kernel)) <|
    zall_c (zs_iadd X (pc := 42) (by decide +kernel)) <|
    zall_c (zs_puti X (pc := 43) (ty := Jvm.ClassFile.FieldType.int) zc_X1 (by decide) (zin ui_X1) tyX1_ok nmX1 (.tail _ gw_1_89) rfl (by decide +kernel) (by decide +kernel) (by decide +kernel) zP_int) <|
    zall_c (zs_iinc X (pc := 46) (by decide) (by decide +kernel)) <|
    zall_c (zs_goto X (pc := 49) (off := (-33)) (by decide +kernel) (by decide)) <|
    zall_c (zs_vret X (pc := 52) rfl (by decide +kernel)) <|
    zall_n
theorem met_X1_addFourBytes {l : Launch} (hl : l.stackTraces = false) {T : ZTf} (bd : zBd (cd_X1_addFourBytes) 3 0 0 T) : zMet l yX1_addFourBytes (Cond.code yX1_addFourBytes cX1_addFourBytes 3 (Option.none : Option Jvm.ClassFile.FieldType) :: zG) rm_X1_addFourBytes 0 0 T := zMet_of hl (by decide +kernel) rfl rfl rfl rfl (hs_X1_addFourBytes hl) bd

abbrev rm_X3_fail : Room := { frames := 1, cells := 0, slots := 0, locals := 30 }
def cd_X3_fail : List (Nat × ZTr) := [(0, tAld 0 1), (1, tIld 1 2), (2, tPutI 6 0 (fun _ => True) 5), (5, tAld 0 6), (6, tAld 0 7), (7, tGetI 6 5 10), (10, tPutI 6 1 (fun _ => True) 13), (13, tC (zi 0) 14), (14, tRi zPz)]
set_option maxRecDepth 100000 in
set_option maxHeartbeats 4000000 in
theorem hs_X3_fail {l : Launch} (hl : l.stackTraces = false) (p : Program) (e : Env) (s : State) (m : MethodId) (args : Array Value) (below : List Frame) (meth : Method) (c : Code) (D : va_G) (A : Nat → Prop) (a0 : Nat → Nat) (M0 : ZM) (K : ZRet) (KX : ZEx) (X : zCtx p l rm_X3_fail s m args meth c cX3_fail RX3 (Cond.code yX3_fail cX3_fail 2 (Option.some Jvm.ClassFile.FieldType.boolean) :: zG) 2 (Option.some Jvm.ClassFile.FieldType.boolean) D A a0 M0 0 0) (hnm : meth.name = yX3_fail.name) (hout : ∀ x ∈ c.exceptionTable.toList, False) : ∀ q ∈ cd_X3_fail, zSd p l e rm_X3_fail s m args below meth c 2 D A a0 M0 K KX 0 0 q.1 q.2 :=
    zall_c (zs_aload_n X (pc := 0) (q := 0) rfl (by decide +kernel)) <|
    zall_c (zs_iload_n X (pc := 1) (q := 1) rfl (by decide +kernel)) <|
    zall_c (zs_puti X (pc := 2) (ty := Jvm.ClassFile.FieldType.int) zc_X3 (by decide) (zin ui_X3) tyX3_ok nmX3 (.tail _ gw_2_29) rfl (by decide +kernel) (by decide +kernel) (by decide +kernel) zP_int) <|
    zall_c (zs_aload_n X (pc := 5) (q := 0) rfl (by decide +kernel)) <|
    zall_c (zs_aload_n X (pc := 6) (q := 0) rfl (by decide +kernel)) <|
    zall_c (zs_geti X (pc := 7) zc_X3 (by decide) (zin ui_X3) (.tail _ gw_2_38) (by decide +kernel) (by decide +kernel)) <|
    zall_c (zs_puti X (pc := 10) (ty := Jvm.ClassFile.FieldType.int) zc_X3 (by decide) (zin ui_X3) tyX3_ok nmX3 (.tail _ gw_2_31) rfl (by decide +kernel) (by decide +kernel) (by decide +kernel) zP_int) <|
    zall_c (zs_iconst X (pc := 13) (by decide) (by decide +kernel)) <|
    zall_c (zs_zret X (pc := 14) rfl zR_bool (by decide +kernel)) <|
    zall_n
theorem met_X3_fail {l : Launch} (hl : l.stackTraces = false) {T : ZTf} (bd : zBd (cd_X3_fail) 2 0 0 T) : zMet l yX3_fail (Cond.code yX3_fail cX3_fail 2 (Option.some Jvm.ClassFile.FieldType.boolean) :: zG) rm_X3_fail 0 0 T := zMet_of hl (by decide +kernel) rfl rfl rfl rfl (hs_X3_fail hl) bd

abbrev rm_X3_readDigits : Room := { frames := 1, cells := 0, slots := 0, locals := 30 }
def cd_X3_readDigits : List (Nat × ZTr) := [(0, tAld 0 1), (1, tC (zi 0) 2), (2, tPutI 6 7 (fun _ => True) 5), (5, tAld 0 6), (6, tGetI 6 5 9), (9, tIst 1 10), (10, tIld 1 11), (11, tAld 0 12), (12, tGetI 6 6 15), (15, tIc_ge 58 18), (18, tAld 0 19), (19, tGetI 6 7 22), (22, tC (zi 1000) 25), (25, tIc_ge 58 28), (28, tAld 0 29), (29, tAld 0 30), (30, tGetI 6 7 33), (33, tC (zi 10) 35), (35, tMul 36), (36, tAld 0 37), (37, tGetR 6 2 40), (40, tGetR 5 0 43), (43, tIld 1 44), (44, tIal 20 45), (45, tAdd 46), (46, tC (zi 48) 48), (48, tSub 49), (49, tPutI 6 7 (fun _ => True) 52), (52, tInc 1 1 55), (55, tGo 10), (58, tRv)]
set_option maxRecDepth 100000 in
set_option maxHeartbeats 4000000 in
theorem hs_X3_readDigits {l : Launch} (hl : l.stackTraces = false) (p : Program) (e : Env) (s : State) (m : MethodId) (args : Array Value) (below : List Frame) (meth : Method) (c : Code) (D : va_G) (A : Nat → Prop) (a0 : Nat → Nat) (M0 : ZM) (K : ZRet) (KX : ZEx) (X : zCtx p l rm_X3_readDigits s m args meth c cX3_readDigits RX3 (Cond.code yX3_readDigits cX3_readDigits 2 (Option.none : Option Jvm.ClassFile.FieldType) :: zG) 2 (Option.none : Option Jvm.ClassFile.FieldType) D A a0 M0 0 0) (hnm : meth.name = yX3_readDigits.name) (hout : ∀ x ∈ c.exceptionTable.toList, False) : ∀ q ∈ cd_X3_readDigits, zSd p l e rm_X3_readDigits s m args below meth c 2 D A a0 M0 K KX 0 0 q.1 q.2 :=
    zall_c (zs_aload_n X (pc := 0) (q := 0) rfl (by decide +kernel)) <|
    zall_c (zs_iconst X (pc := 1) (by decide) (by decide +kernel)) <|
    zall_c (zs_puti X (pc := 2) (ty := Jvm.ClassFile.FieldType.int) zc_X3 (by decide) (zin ui_X3) tyX3_ok nmX3 (.tail _ gw_2_40) rfl (by decide +kernel) (by decide +kernel) (by decide +kernel) zP_int) <|
    zall_c (zs_aload_n X (pc := 5) (q := 0) rfl (by decide +kernel)) <|
    zall_c (zs_geti X (pc := 6) zc_X3 (by decide) (zin ui_X3) (.tail _ gw_2_38) (by decide +kernel) (by decide +kernel)) <|
    zall_c (zs_istore_n X (pc := 9) (q := 1) rfl (by decide) (by decide +kernel)) <|
    zall_c (zs_iload_n X (pc := 10) (q := 1) rfl (by decide +kernel)) <|
    zall_c (zs_aload_n X (pc := 11) (q := 0) rfl (by decide +kernel)) <|
    zall_c (zs_geti X (pc := 12) zc_X3 (by decide) (zin ui_X3) (.tail _ gw_2_39) (by decide +kernel) (by decide +kernel)) <|
    zall_c (zs_icmp_ge X (pc := 15) (off := 43) (by decide +kernel) (by decide)) <|
    zall_c (zs_aload_n X (pc := 18) (q := 0) rfl (by decide +kernel)) <|
    zall_c (zs_geti X (pc := 19) zc_X3 (by decide) (zin ui_X3) (.tail _ gw_2_40) (by decide +kernel) (by decide +kernel)) <|
    zall_c (zs_sipush X (pc := 22) (by decide) (by decide +kernel) (by decide +kernel)) <|
    zall_c (zs_icmp_ge X (pc := 25) (off := 33) (by decide +kernel) (by decide)) <|
    zall_c (zs_aload_n X (pc := 28) (q := 0) rfl (by decide +kernel)) <|
    zall_c (zs_aload_n X (pc := 29) (q := 0) rfl (by decide +kernel)) <|
    zall_c (zs_geti X (pc := 30) zc_X3 (by decide) (zin ui_X3) (.tail _ gw_2_40) (by decide +kernel) (by decide +kernel)) <|
    zall_c (zs_bipush X (pc := 33) (by decide) (by decide +kernel) (by decide +kernel)) <|
    zall_c (zs_imul X (pc := 35) (by decide +kernel)) <|
    zall_c (zs_aload_n X (pc := 36) (q := 0) rfl (by decide +kernel)) <|
    zall_c (zs_getr X (pc := 37) zc_X3 (by decide) (zin ui_X3) (.tail _ gw_2_33) (by decide +kernel) (by decide +kernel)) <|
    zall_c (zs_getr X (pc := 40) zc_X1 (by decide) (zin ui_X1) (.tail _ gw_1_88) (by decide +kernel) (by decide +kernel)) <|
    zall_c (zs_iload_n X (pc := 43) (q := 1) rfl (by decide +kernel)) <|
    zall_c (zs_iaload20 X (pc := 44) (by decide +kernel)) <|
    zall_c (zs_iadd X (pc := 45) (by decide +kernel)) <|
    zall_c (zs_bipush X (pc := 46) (by decide) (by decide +kernel) (by decide +kernel)) <|
    zall_c (zs_isub X (pc := 48) (by decide +kernel)) <|
    zall_c (zs_puti X (pc := 49) (ty := Jvm.ClassFile.FieldType.int) zc_X3 (by decide) (zin ui_X3) tyX3_ok nmX3 (.tail _ gw_2_40) rfl (by decide +kernel) (by decide +kernel) (by decide +kernel) zP_int) <|
    zall_c (zs_iinc X (pc := 52) (by decide) (by decide +kernel)) <|
    zall_c (zs_goto X (pc := 55) (off := (-45)) (by decide +kernel) (by decide)) <|
    zall_c (zs_vret X (pc := 58) rfl (by decide +kernel)) <|
    zall_n
theorem met_X3_readDigits {l : Launch} (hl : l.stackTraces = false) {T : ZTf} (bd : zBd (cd_X3_readDigits) 2 0 0 T) : zMet l yX3_readDigits (Cond.code yX3_readDigits cX3_readDigits 2 (Option.none : Option Jvm.ClassFile.FieldType) :: zG) rm_X3_readDigits 0 0 T := zMet_of hl (by decide +kernel) rfl rfl rfl rfl (hs_X3_readDigits hl) bd

abbrev rm_X3_kindAt : Room := { frames := 1, cells := 0, slots := 0, locals := 30 }
def cd_X3_kindAt : List (Nat × ZTr) := [(0, tIld 1 1), (1, tAld 0 2), (2, tGetR 6 2 5), (5, tGetI 5 1 8), (8, tIc_lt 13 11), (11, tC (zi 3) 12), (12, tRi (fun _ => True)), (13, tAld 0 14), (14, tGetR 6 2 17), (17, tGetR 5 0 20), (20, tIld 1 21), (21, tIal 20 22), (22, tIst 2 23), (23, tIld 2 24), (24, tC (zi 97) 26), (26, tIc_lt 37 29), (29, tIld 2 30), (30, tC (zi 122) 32), (32, tIc_gt 37 35), (35, tC (zi 0) 36), (36, tRi (fun _ => True)), (37, tIld 2 38), (38, tC (zi 48) 40), (40, tIc_lt 53 43), (43, tIld 2 44), (44, tC (zi 57) 46), (46, tIc_gt 53 49), (49, tC (zi 1) 50), (50, tGo 54), (53, tC (zi 2) 54), (54, tRi (fun _ => True))]
set_option maxRecDepth 100000 in
set_option maxHeartbeats 4000000 in
theorem hs_X3_kindAt {l : Launch} (hl : l.stackTraces = false) (p : Program) (e : Env) (s : State) (m : MethodId) (args : Array Value) (below : List Frame) (meth : Method) (c : Code) (D : va_G) (A : Nat → Prop) (a0 : Nat → Nat) (M0 : ZM) (K : ZRet) (KX : ZEx) (X : zCtx p l rm_X3_kindAt s m args meth c cX3_kindAt RX3 (Cond.code yX3_kindAt cX3_kindAt 3 (Option.some Jvm.ClassFile.FieldType.int) :: zG) 3 (Option.some Jvm.ClassFile.FieldType.int) D A a0 M0 0 0) (hnm : meth.name = yX3_kindAt.name) (hout : ∀ x ∈ c.exceptionTable.toList, False) : ∀ q ∈ cd_X3_kindAt, zSd p l e rm_X3_kindAt s m args below meth c 3 D A a0 M0 K KX 0 0 q.1 q.2 :=
    zall_c (zs_iload_n X (pc := 0) (q := 1) rfl (by decide +kernel)) <|
    zall_c (zs_aload_n X (pc := 1) (q := 0) rfl (by decide +kernel)) <|
    zall_c (zs_getr X (pc := 2) zc_X3 (by decide) (zin ui_X3) (.tail _ gw_2_33) (by decide +kernel) (by decide +kernel)) <|
    zall_c (zs_geti X (pc := 5) zc_X1 (by decide) (zin ui_X1) (.tail _ gw_1_91) (by decide +kernel) (by decide +kernel)) <|
    zall_c (zs_icmp_lt X (pc := 8) (off := 5) (by decide +kernel) (by decide)) <|
    zall_c (zs_iconst X (pc := 11) (by decide) (by decide +kernel)) <|
    zall_c (zs_iret X (pc := 12) rfl (by decide +kernel)) <|
    zall_c (zs_aload_n X (pc := 13) (q := 0) rfl (by decide +kernel)) <|
    zall_c (zs_getr X (pc := 14) zc_X3 (by decide) (zin ui_X3) (.tail _ gw_2_33) (by decide +kernel) (by decide +kernel)) <|
    zall_c (zs_getr X (pc := 17) zc_X1 (by decide) (zin ui_X1) (.tail _ gw_1_88) (by decide +kernel) (by decide +kernel)) <|
    zall_c (zs_iload_n X (pc := 20) (q := 1) rfl (by decide +kernel)) <|
    zall_c (zs_iaload20 X (pc := 21) (by decide +kernel)) <|
    zall_c (zs_istore_n X (pc := 22) (q := 2) rfl (by decide) (by decide +kernel)) <|
    zall_c (zs_iload_n X (pc := 23) (q := 2) rfl (by decide +kernel)) <|
    zall_c (zs_bipush X (pc := 24) (by decide) (by decide +kernel) (by decide +kernel)) <|
    zall_c (zs_icmp_lt X (pc := 26) (off := 11) (by decide +kernel) (by decide)) <|
    zall_c (zs_iload_n X (pc := 29) (q := 2) rfl (by decide +kernel)) <|
    zall_c (zs_bipush X (pc := 30) (by decide) (by decide +kernel) (by decide +kernel)) <|
    zall_c (zs_icmp_gt X (pc := 32) (off := 5) (by decide +kernel) (by decide)) <|
    zall_c (zs_iconst X (pc := 35) (by decide) (by decide +kernel)) <|
    zall_c (zs_iret X (pc := 36) rfl (by decide +kernel)) <|
    zall_c (zs_iload_n X (pc := 37) (q := 2) rfl (by decide +kernel)) <|
    zall_c (zs_bipush X (pc := 38) (by decide) (by decide +kernel) (by decide +kernel)) <|
    zall_c (zs_icmp_lt X (pc := 40) (off := 13) (by decide +kernel) (by decide)) <|
    zall_c (zs_iload_n X (pc := 43) (q := 2) rfl (by decide +kernel)) <|
    zall_c (zs_bipush X (pc := 44) (by decide) (by decide +kernel) (by decide +kernel)) <|
    zall_c (zs_icmp_gt X (pc := 46) (off := 7) (by decide +kernel) (by decide)) <|
    zall_c (zs_iconst X (pc := 49) (by decide) (by decide +kernel)) <|
    zall_c (zs_goto X (pc := 50) (off := 4) (by decide +kernel) (by decide)) <|
    zall_c (zs_iconst X (pc := 53) (by decide) (by decide +kernel)) <|
    zall_c (zs_iret X (pc := 54) rfl (by decide +kernel)) <|
    zall_n
theorem met_X3_kindAt {l : Launch} (hl : l.stackTraces = false) {T : ZTf} (bd : zBd (cd_X3_kindAt) 3 0 0 T) : zMet l yX3_kindAt (Cond.code yX3_kindAt cX3_kindAt 3 (Option.some Jvm.ClassFile.FieldType.int) :: zG) rm_X3_kindAt 0 0 T := zMet_of hl (by decide +kernel) rfl rfl rfl rfl (hs_X3_kindAt hl) bd

abbrev rm_X3_isBlank : Room := { frames := 1, cells := 0, slots := 0, locals := 30 }
def cd_X3_isBlank : List (Nat × ZTr) := [(0, tIld 0 1), (1, tC (zi 32) 3), (3, tIc_eq 12 6), (6, tIld 0 7), (7, tC (zi 10) 9), (9, tIc_ne 16 12), (12, tC (zi 1) 13), (13, tGo 17), (16, tC (zi 0) 17), (17, tRi zPz)]
set_option maxRecDepth 100000 in
set_option maxHeartbeats 4000000 in
theorem hs_X3_isBlank {l : Launch} (hl : l.stackTraces = false) (p : Program) (e : Env) (s : State) (m : MethodId) (args : Array Value) (below : List Frame) (meth : Method) (c : Code) (D : va_G) (A : Nat → Prop) (a0 : Nat → Nat) (M0 : ZM) (K : ZRet) (KX : ZEx) (X : zCtx p l rm_X3_isBlank s m args meth c cX3_isBlank RX3 (Cond.code yX3_isBlank cX3_isBlank 1 (Option.some Jvm.ClassFile.FieldType.boolean) :: zG) 1 (Option.some Jvm.ClassFile.FieldType.boolean) D A a0 M0 0 0) (hnm : meth.name = yX3_isBlank.name) (hout : ∀ x ∈ c.exceptionTable.toList, False) : ∀ q ∈ cd_X3_isBlank, zSd p l e rm_X3_isBlank s m args below meth c 1 D A a0 M0 K KX 0 0 q.1 q.2 :=
    zall_c (zs_iload_n X (pc := 0) (q := 0) rfl (by decide +kernel)) <|
    zall_c (zs_bipush X (pc := 1) (by decide) (by decide +kernel) (by decide +kernel)) <|
    zall_c (zs_icmp_eq X (pc := 3) (off := 9) (by decide +kernel) (by decide)) <|
    zall_c (zs_iload_n X (pc := 6) (q := 0) rfl (by decide +kernel)) <|
    zall_c (zs_bipush X (pc := 7) (by decide) (by decide +kernel) (by decide +kernel)) <|
    zall_c (zs_icmp_ne X (pc := 9) (off := 7) (by decide +kernel) (by decide)) <|
    zall_c (zs_iconst X (pc := 12) (by decide) (by decide +kernel)) <|
    zall_c (zs_goto X (pc := 13) (off := 4) (by decide +kernel) (by decide)) <|
    zall_c (zs_iconst X (pc := 16) (by decide) (by decide +kernel)) <|
    zall_c (zs_zret X (pc := 17) rfl zR_bool (by decide +kernel)) <|
    zall_n
theorem met_X3_isBlank {l : Launch} (hl : l.stackTraces = false) {T : ZTf} (bd : zBd (cd_X3_isBlank) 1 0 0 T) : zMet l yX3_isBlank (Cond.code yX3_isBlank cX3_isBlank 1 (Option.some Jvm.ClassFile.FieldType.boolean) :: zG) rm_X3_isBlank 0 0 T := zMet_of hl (by decide +kernel) rfl rfl rfl rfl (hs_X3_isBlank hl) bd

abbrev rm_X4_init : Room := { frames := 1, cells := 1, slots := 9, locals := 30 }
def cd_X4_init : List (Nat × ZTr) := [(0, tAld 0 1), (1, tObj 4), (4, tAld 0 5), (5, tC (zi (-1)) 6), (6, tPutI 7 2 (fun _ => True) 9), (9, tAld 0 10), (10, tC (zi (-1)) 11), (11, tPutI 7 4 (fun _ => True) 14), (14, tAld 0 15), (15, tC (zi (-1)) 16), (16, tPutI 7 6 (fun _ => True) 19), (19, tAld 0 20), (20, tC (zi (-1)) 21), (21, tPutI 7 7 (fun _ => True) 24), (24, tAld 0 25), (25, tC (zi 9) 27), (27, tNewA 20 29), (29, tPutR 7 9 32), (32, tRv)]
set_option maxRecDepth 100000 in
set_option maxHeartbeats 4000000 in
theorem hs_X4_init {l : Launch} (hl : l.stackTraces = false) (p : Program) (e : Env) (s : State) (m : MethodId) (args : Array Value) (below : List Frame) (meth : Method) (c : Code) (D : va_G) (A : Nat → Prop) (a0 : Nat → Nat) (M0 : ZM) (K : ZRet) (KX : ZEx) (X : zCtx p l rm_X4_init s m args meth c cX4_init RX4 (Cond.code yX4_init cX4_init 1 (Option.none : Option Jvm.ClassFile.FieldType) :: zG) 1 (Option.none : Option Jvm.ClassFile.FieldType) D A a0 M0 1 9) (hnm : meth.name = yX4_init.name) (hout : ∀ x ∈ c.exceptionTable.toList, False) : ∀ q ∈ cd_X4_init, zSd p l e rm_X4_init s m args below meth c 1 D A a0 M0 K KX 1 9 q.1 q.2 :=
    zall_c (zs_aload_n X (pc := 0) (q := 0) rfl (by decide +kernel)) <|
    zall_c (zs_objinit X (pc := 1) (.tail _ gw_1_172) (.tail _ gw_1_39) (.tail _ gw_1_40) (by decide) (by decide) (by decide +kernel)) <|
    zall_c (zs_aload_n X (pc := 4) (q := 0) rfl (by decide +kernel)) <|
    zall_c (zs_iconst X (pc := 5) (by decide) (by decide +kernel)) <|
    zall_c (zs_puti X (pc := 6) (ty := Jvm.ClassFile.FieldType.int) zc_X4 (by decide) (zin ui_X4) tyX4_ok nmX4 (.tail _ gw_1_180) rfl (by decide +kernel) (by decide +kernel) (by decide +kernel) zP_int) <|
    zall_c (zs_aload_n X (pc := 9) (q := 0) rfl (by decide +kernel)) <|
    zall_c (zs_iconst X (pc := 10) (by decide) (by decide +kernel)) <|
    zall_c (zs_puti X (pc := 11) (ty := Jvm.ClassFile.FieldType.int) zc_X4 (by decide) (zin ui_X4) tyX4_ok nmX4 (.tail _ gw_1_186) rfl (by decide +kernel) (by decide +kernel) (by decide +kernel) zP_int) <|
    zall_c (zs_aload_n X (pc := 14) (q := 0) rfl (by decide +kernel)) <|
    zall_c (zs_iconst X (pc := 15) (by decide) (by decide +kernel)) <|
    zall_c (zs_puti X (pc := 16) (ty := Jvm.ClassFile.FieldType.int) zc_X4 (by decide) (zin ui_X4) tyX4_ok nmX4 (.tail _ gw_1_192) rfl (by decide +kernel) (by decide +kernel) (by decide +kernel) zP_int) <|
    zall_c (zs_aload_n X (pc := 19) (q := 0) rfl (by decide +kernel)) <|
    zall_c (zs_iconst X (pc := 20) (by decide) (by decide +kernel)) <|
    zall_c (zs_puti X (pc := 21) (ty := Jvm.ClassFile.FieldType.int) zc_X4 (by decide) (zin ui_X4) tyX4_ok nmX4 (.tail _ gw_1_195) rfl (by decide +kernel) (by decide +kernel) (by decide +kernel) zP_int) <|
    zall_c (zs_aload_n X (pc := 24) (q := 0) rfl (by decide +kernel)) <|
    zall_c (zs_bipush X (pc := 25) (by decide) (by decide +kernel) (by decide +kernel)) <|
    zall_c (zs_newarray20 X (pc := 27) (.tail _ gw_1_85) (by decide +kernel)) <|
    zall_c (zs_putrF X (pc := 29) (ty := (Jvm.ClassFile.FieldType.array Jvm.ClassFile.FieldType.int)) zc_X4 (by decide) (zin ui_X4) tyX4_ok nmX4 (.tail _ gw_1_202) rfl hnm rfl (by decide +kernel) (by decide +kernel) (by decide +kernel) zP_arr) <|
    zall_c (zs_vret X (pc := 32) rfl (by decide +kernel)) <|
    zall_n
theorem met_X4_init {l : Launch} (hl : l.stackTraces = false) {T : ZTf} (bd : zBd (cd_X4_init) 1 1 9 T) : zMet l yX4_init (Cond.code yX4_init cX4_init 1 (Option.none : Option Jvm.ClassFile.FieldType) :: zG) rm_X4_init 1 9 T := zMet_of hl (by decide +kernel) rfl rfl rfl rfl (hs_X4_init hl) bd

abbrev rm_X4_begin : Room := { frames := 1, cells := 0, slots := 0, locals := 30 }
def cd_X4_begin : List (Nat × ZTr) := [(0, tAld 0 1), (1, tIld 1 2), (2, tPutI 7 0 (fun _ => True) 5), (5, tAld 0 6), (6, tC (zi 0) 7), (7, tPutI 7 1 (fun _ => True) 10), (10, tAld 0 11), (11, tC (zi (-1)) 12), (12, tPutI 7 2 (fun _ => True) 15), (15, tAld 0 16), (16, tC (zi 0) 17), (17, tPutI 7 3 zPz 20), (20, tAld 0 21), (21, tC (zi (-1)) 22), (22, tPutI 7 4 (fun _ => True) 25), (25, tAld 0 26), (26, tC (zi 0) 27), (27, tPutI 7 5 (fun _ => True) 30), (30, tAld 0 31), (31, tC (zi (-1)) 32), (32, tPutI 7 6 (fun _ => True) 35), (35, tAld 0 36), (36, tC (zi (-1)) 37), (37, tPutI 7 7 (fun _ => True) 40), (40, tAld 0 41), (41, tC (zi 0) 42), (42, tPutI 7 8 (fun _ => True) 45), (45, tRv)]
set_option maxRecDepth 100000 in
set_option maxHeartbeats 4000000 in
theorem hs_X4_begin {l : Launch} (hl : l.stackTraces = false) (p : Program) (e : Env) (s : State) (m : MethodId) (args : Array Value) (below : List Frame) (meth : Method) (c : Code) (D : va_G) (A : Nat → Prop) (a0 : Nat → Nat) (M0 : ZM) (K : ZRet) (KX : ZEx) (X : zCtx p l rm_X4_begin s m args meth c cX4_begin RX4 (Cond.code yX4_begin cX4_begin 2 (Option.none : Option Jvm.ClassFile.FieldType) :: zG) 2 (Option.none : Option Jvm.ClassFile.FieldType) D A a0 M0 0 0) (hnm : meth.name = yX4_begin.name) (hout : ∀ x ∈ c.exceptionTable.toList, False) : ∀ q ∈ cd_X4_begin, zSd p l e rm_X4_begin s m args below meth c 2 D A a0 M0 K KX 0 0 q.1 q.2 :=
    zall_c (zs_aload_n X (pc := 0) (q := 0) rfl (by decide +kernel)) <|
    zall_c (zs_iload_n X (pc := 1) (q := 1) rfl (by decide +kernel)) <|
    zall_c (zs_puti X (pc := 2) (ty := Jvm.ClassFile.FieldType.int) zc_X4 (by decide) (zin ui_X4) tyX4_ok nmX4 (.tail _ gw_1_173) rfl (by decide +kernel) (by decide +kernel) (by decide +kernel) zP_int) <|
    zall_c (zs_aload_n X (pc := 5) (q := 0) rfl (by decide +kernel)) <|
    zall_c (zs_iconst X (pc := 6) (by decide) (by decide +kernel)) <|
    zall_c (zs_puti X (pc := 7) (ty := Jvm.ClassFile.FieldType.int) zc_X4 (by decide) (zin ui_X4) tyX4_ok nmX4 (.tail _ gw_1_177) rfl (by decide +kernel) (by decide +kernel) (by decide +kernel) zP_int) <|
    zall_c (zs_aload_n X (pc := 10) (q := 0) rfl (by decide +kernel)) <|
    zall_c (zs_iconst X (pc := 11) (by decide) (by decide +kernel)) <|
    zall_c (zs_puti X (pc := 12) (ty := Jvm.ClassFile.FieldType.int) zc_X4 (by decide) (zin ui_X4) tyX4_ok nmX4 (.tail _ gw_1_180) rfl (by decide +kernel) (by decide +kernel) (by decide +kernel) zP_int) <|
    zall_c (zs_aload_n X (pc := 15) (q := 0) rfl (by decide +kernel)) <|
    zall_c (zs_iconst X (pc := 16) (by decide) (by decide +kernel)) <|
    zall_c (zs_puti X (pc := 17) (ty := Jvm.ClassFile.FieldType.boolean) zc_X4 (by decide) (zin ui_X4) tyX4_ok nmX4 (.tail _ gw_1_183) rfl (by decide +kernel) (by decide +kernel) (by decide +kernel) zP_bool) <|
    zall_c (zs_aload_n X (pc := 20) (q := 0) rfl (by decide +kernel)) <|
    zall_c (zs_iconst X (pc := 21) (by decide) (by decide +kernel)) <|
    zall_c (zs_puti X (pc := 22) (ty := Jvm.ClassFile.FieldType.int) zc_X4 (by decide) (zin ui_X4) tyX4_ok nmX4 (.tail _ gw_1_186) rfl (by decide +kernel) (by decide +kernel) (by decide +kernel) zP_int) <|
    zall_c (zs_aload_n X (pc := 25) (q := 0) rfl (by decide +kernel)) <|
    zall_c (zs_iconst X (pc := 26) (by decide) (by decide +kernel)) <|
    zall_c (zs_puti X (pc := 27) (ty := Jvm.ClassFile.FieldType.int) zc_X4 (by decide) (zin ui_X4) tyX4_ok nmX4 (.tail _ gw_1_189) rfl (by decide +kernel) (by decide +kernel) (by decide +kernel) zP_int) <|
    zall_c (zs_aload_n X (pc := 30) (q := 0) rfl (by decide +kernel)) <|
    zall_c (zs_iconst X (pc := 31) (by decide) (by decide +kernel)) <|
    zall_c (zs_puti X (pc := 32) (ty := Jvm.ClassFile.FieldType.int) zc_X4 (by decide) (zin ui_X4) tyX4_ok nmX4 (.tail _ gw_1_192) rfl (by decide +kernel) (by decide +kernel) (by decide +kernel) zP_int) <|
    zall_c (zs_aload_n X (pc := 35) (q := 0) rfl (by decide +kernel)) <|
    zall_c (zs_iconst X (pc := 36) (by decide) (by decide +kernel)) <|
    zall_c (zs_puti X (pc := 37) (ty := Jvm.ClassFile.FieldType.int) zc_X4 (by decide) (zin ui_X4) tyX4_ok nmX4 (.tail _ gw_1_195) rfl (by decide +kernel) (by decide +kernel) (by decide +kernel) zP_int) <|
    zall_c (zs_aload_n X (pc := 40) (q := 0) rfl (by decide +kernel)) <|
    zall_c (zs_iconst X (pc := 41) (by decide) (by decide +kernel)) <|
    zall_c (zs_puti X (pc := 42) (ty := Jvm.ClassFile.FieldType.int) zc_X4 (by decide) (zin ui_X4) tyX4_ok nmX4 (.tail _ gw_1_199) rfl (by decide +kernel) (by decide +kernel) (by decide +kernel) zP_int) <|
    zall_c (zs_vret X (pc := 45) rfl (by decide +kernel)) <|
    zall_n
theorem met_X4_begin {l : Launch} (hl : l.stackTraces = false) {T : ZTf} (bd : zBd (cd_X4_begin) 2 0 0 T) : zMet l yX4_begin (Cond.code yX4_begin cX4_begin 2 (Option.none : Option Jvm.ClassFile.FieldType) :: zG) rm_X4_begin 0 0 T := zMet_of hl (by decide +kernel) rfl rfl rfl rfl (hs_X4_begin hl) bd

abbrev rm_X4_copyFrom : Room := { frames := 1, cells := 0, slots := 0, locals := 60 }
def cd_X4_copyFrom : List (Nat × ZTr) := [(0, tAld 0 1), (1, tAld 1 2), (2, tGetI 7 0 5), (5, tPutI 7 0 (fun _ => True) 8), (8, tAld 0 9), (9, tAld 1 10), (10, tGetI 7 1 13), (13, tPutI 7 1 (fun _ => True) 16), (16, tAld 0 17), (17, tAld 1 18), (18, tGetI 7 2 21), (21, tPutI 7 2 (fun _ => True) 24), (24, tAld 0 25), (25, tAld 1 26), (26, tGetI 7 3 29), (29, tPutI 7 3 zPz 32), (32, tAld 0 33), (33, tAld 1 34), (34, tGetI 7 4 37), (37, tPutI 7 4 (fun _ => True) 40), (40, tAld 0 41), (41, tAld 1 42), (42, tGetI 7 5 45), (45, tPutI 7 5 (fun _ => True) 48), (48, tAld 0 49), (49, tAld 1 50), (50, tGetI 7 6 53), (53, tPutI 7 6 (fun _ => True) 56), (56, tAld 0 57), (57, tAld 1 58), (58, tGetI 7 7 61), (61, tPutI 7 7 (fun _ => True) 64), (64, tAld 0 65), (65, tAld 1 66), (66, tGetI 7 8 69), (69, tPutI 7 8 (fun _ => True) 72), (72, tAld 1 73), (73, tGetR 7 9 76), (76, tC (zi 0) 77), (77, tAld 0 78), (78, tGetR 7 9 81), (81, tC (zi 0) 82), (82, tAld 0 83), (83, tGetR 7 9 86), (86, tLen 87), (87, tCpy 20 (fun _ => True) 90), (90, tRv)]
set_option maxRecDepth 100000 in
set_option maxHeartbeats 4000000 in
theorem hs_X4_copyFrom {l : Launch} (hl : l.stackTraces = false) (p : Program) (e : Env) (s : State) (m : MethodId) (args : Array Value) (below : List Frame) (meth : Method) (c : Code) (D : va_G) (A : Nat → Prop) (a0 : Nat → Nat) (M0 : ZM) (K : ZRet) (KX : ZEx) (X : zCtx p l rm_X4_copyFrom s m args meth c cX4_copyFrom RX4 (Cond.code yX4_copyFrom cX4_copyFrom 2 (Option.none : Option Jvm.ClassFile.FieldType) :: zG) 2 (Option.none : Option Jvm.ClassFile.FieldType) D A a0 M0 0 0) (hnm : meth.name = yX4_copyFrom.name) (hout : ∀ x ∈ c.exceptionTable.toList, False) : ∀ q ∈ cd_X4_copyFrom, zSd p l e rm_X4_copyFrom s m args below meth c 2 D A a0 M0 K KX 0 0 q.1 q.2 :=
    zall_c (zs_aload_n X (pc := 0) (q := 0) rfl (by decide +kernel)) <|
    zall_c (zs_aload_n X (pc := 1) (q := 1) rfl (by decide +kernel)) <|
    zall_c (zs_geti X (pc := 2) zc_X4 (by decide) (zin ui_X4) (.tail _ gw_1_173) (by decide +kernel) (by decide +kernel)) <|
    zall_c (zs_puti X (pc := 5) (ty := Jvm.ClassFile.FieldType.int) zc_X4 (by decide) (zin ui_X4) tyX4_ok nmX4 (.tail _ gw_1_173) rfl (by decide +kernel) (by decide +kernel) (by decide +kernel) zP_int) <|
    zall_c (zs_aload_n X (pc := 8) (q := 0) rfl (by decide +kernel)) <|
    zall_c (zs_aload_n X (pc := 9) (q := 1) rfl (by decide +kernel)) <|
    zall_c (zs_geti X (pc := 10) zc_X4 (by decide) (zin ui_X4) (.tail _ gw_1_177) (by decide +kernel) (by decide +kernel)) <|
    zall_c (zs_puti X (pc := 13) (ty := Jvm.ClassFile.FieldType.int) zc_X4 (by decide) (zin ui_X4) tyX4_ok nmX4 (.tail _ gw_1_177) rfl (by decide +kernel) (by decide +kernel) (by decide +kernel) zP_int) <|
    zall_c (zs_aload_n X (pc := 16) (q := 0) rfl (by decide +kernel)) <|
    zall_c (zs_aload_n X (pc := 17) (q := 1) rfl (by decide +kernel)) <|
    zall_c (zs_geti X (pc := 18) zc_X4 (by decide) (zin ui_X4) (.tail _ gw_1_180) (by decide +kernel) (by decide +kernel)) <|
    zall_c (zs_puti X (pc := 21) (ty := Jvm.ClassFile.FieldType.int) zc_X4 (by decide) (zin ui_X4) tyX4_ok nmX4 (.tail _ gw_1_180) rfl (by decide +kernel) (by decide +kernel) (by decide +kernel) zP_int) <|
    zall_c (zs_aload_n X (pc := 24) (q := 0) rfl (by decide +kernel)) <|
    zall_c (zs_aload_n X (pc := 25) (q := 1) rfl (by decide +kernel)) <|
    zall_c (zs_geti X (pc := 26) zc_X4 (by decide) (zin ui_X4) (.tail _ gw_1_183) (by decide +kernel) (by decide +kernel)) <|
    zall_c (zs_puti X (pc := 29) (ty := Jvm.ClassFile.FieldType.boolean) zc_X4 (by decide) (zin ui_X4) tyX4_ok nmX4 (.tail _ gw_1_183) rfl (by decide +kernel) (by decide +kernel) (by decide +kernel) zP_bool) <|
    zall_c (zs_aload_n X (pc := 32) (q := 0) rfl (by decide +kernel)) <|
    zall_c (zs_aload_n X (pc := 33) (q := 1) rfl (by decide +kernel)) <|
    zall_c (zs_geti X (pc := 34) zc_X4 (by decide) (zin ui_X4) (.tail _ gw_1_186) (by decide +kernel) (by decide +kernel)) <|
    zall_c (zs_puti X (pc := 37) (ty := Jvm.ClassFile.FieldType.int) zc_X4 (by decide) (zin ui_X4) tyX4_ok nmX4 (.tail _ gw_1_186) rfl (by decide +kernel) (by decide +kernel) (by decide +kernel) zP_int) <|
    zall_c (zs_aload_n X (pc := 40) (q := 0) rfl (by decide +kernel)) <|
    zall_c (zs_aload_n X (pc := 41) (q := 1) rfl (by decide +kernel)) <|
    zall_c (zs_geti X (pc := 42) zc_X4 (by decide) (zin ui_X4) (.tail _ gw_1_189) (by decide +kernel) (by decide +kernel)) <|
    zall_c (zs_puti X (pc := 45) (ty := Jvm.ClassFile.FieldType.int) zc_X4 (by decide) (zin ui_X4) tyX4_ok nmX4 (.tail _ gw_1_189) rfl (by decide +kernel) (by decide +kernel) (by decide +kernel) zP_int) <|
    zall_c (zs_aload_n X (pc := 48) (q := 0) rfl (by decide +kernel)) <|
    zall_c (zs_aload_n X (pc := 49) (q := 1) rfl (by decide +kernel)) <|
    zall_c (zs_geti X (pc := 50) zc_X4 (by decide) (zin ui_X4) (.tail _ gw_1_192) (by decide +kernel) (by decide +kernel)) <|
    zall_c (zs_puti X (pc := 53) (ty := Jvm.ClassFile.FieldType.int) zc_X4 (by decide) (zin ui_X4) tyX4_ok nmX4 (.tail _ gw_1_192) rfl (by decide +kernel) (by decide +kernel) (by decide +kernel) zP_int) <|
    zall_c (zs_aload_n X (pc := 56) (q := 0) rfl (by decide +kernel)) <|
    zall_c (zs_aload_n X (pc := 57) (q := 1) rfl (by decide +kernel)) <|
    zall_c (zs_geti X (pc := 58) zc_X4 (by decide) (zin ui_X4) (.tail _ gw_1_195) (by decide +kernel) (by decide +kernel)) <|
    zall_c (zs_puti X (pc := 61) (ty := Jvm.ClassFile.FieldType.int) zc_X4 (by decide) (zin ui_X4) tyX4_ok nmX4 (.tail _ gw_1_195) rfl (by decide +kernel) (by decide +kernel) (by decide +kernel) zP_int) <|
    zall_c (zs_aload_n X (pc := 64) (q := 0) rfl (by decide +kernel)) <|
    zall_c (zs_aload_n X (pc := 65) (q := 1) rfl (by decide +kernel)) <|
    zall_c (zs_geti X (pc := 66) zc_X4 (by decide) (zin ui_X4) (.tail _ gw_1_199) (by decide +kernel) (by decide +kernel)) <|
    zall_c (zs_puti X (pc := 69) (ty := Jvm.ClassFile.FieldType.int) zc_X4 (by decide) (zin ui_X4) tyX4_ok nmX4 (.tail _ gw_1_199) rfl (by decide +kernel) (by decide +kernel) (by decide +kernel) zP_int) <|
    zall_c (zs_aload_n X (pc := 72) (q := 1) rfl (by decide +kernel)) <|
    zall_c (zs_getr X (pc := 73) zc_X4 (by decide) (zin ui_X4) (.tail _ gw_1_202) (by decide +kernel) (by decide +kernel)) <|
    zall_c (zs_iconst X (pc := 76) (by decide) (by decide +kernel)) <|
    zall_c (zs_aload_n X (pc := 77) (q := 0) rfl (by decide +kernel)) <|
    zall_c (zs_getr X (pc := 78) zc_X4 (by decide) (zin ui_X4) (.tail _ gw_1_202) (by decide +kernel) (by decide +kernel)) <|
    zall_c (zs_iconst X (pc := 81) (by decide) (by decide +kernel)) <|
    zall_c (zs_aload_n X (pc := 82) (q := 0) rfl (by decide +kernel)) <|
    zall_c (zs_getr X (pc := 83) zc_X4 (by decide) (zin ui_X4) (.tail _ gw_1_202) (by decide +kernel) (by decide +kernel)) <|
    zall_c (zs_len X (pc := 86) (by decide +kernel)) <|
    zall_c (zs_copy20 X (pc := 87) (.tail _ gw_4_224) (.tail _ gw_3_114) (.tail _ gw_3_113) (.tail _ gw_1_28) (Nat.le_of_ble_eq_true rfl) (by show 8 + (nativeFrameWords "java/lang/System" "arraycopy" 5 + 11) ≤ 60; decide +kernel) (by decide +kernel)) <|
    zall_c (zs_vret X (pc := 90) rfl (by decide +kernel)) <|
    zall_n
theorem met_X4_copyFrom {l : Launch} (hl : l.stackTraces = false) {T : ZTf} (bd : zBd (cd_X4_copyFrom) 2 0 0 T) : zMet l yX4_copyFrom (Cond.code yX4_copyFrom cX4_copyFrom 2 (Option.none : Option Jvm.ClassFile.FieldType) :: zG) rm_X4_copyFrom 0 0 T := zMet_of hl (by decide +kernel) rfl rfl rfl rfl (hs_X4_copyFrom hl) bd

abbrev rm_X4_isClosed : Room := { frames := 1, cells := 0, slots := 0, locals := 30 }
def cd_X4_isClosed : List (Nat × ZTr) := [(0, tAld 0 1), (1, tGetI 7 1 4), (4, tC (zi 2) 5), (5, tIc_eq 16 8), (8, tAld 0 9), (9, tGetI 7 1 12), (12, tC (zi 3) 13), (13, tIc_ne 20 16), (16, tC (zi 1) 17), (17, tGo 21), (20, tC (zi 0) 21), (21, tRi zPz)]
set_option maxRecDepth 100000 in
set_option maxHeartbeats 4000000 in
theorem hs_X4_isClosed {l : Launch} (hl : l.stackTraces = false) (p : Program) (e : Env) (s : State) (m : MethodId) (args : Array Value) (below : List Frame) (meth : Method) (c : Code) (D : va_G) (A : Nat → Prop) (a0 : Nat → Nat) (M0 : ZM) (K : ZRet) (KX : ZEx) (X : zCtx p l rm_X4_isClosed s m args meth c cX4_isClosed RX4 (Cond.code yX4_isClosed cX4_isClosed 1 (Option.some Jvm.ClassFile.FieldType.boolean) :: zG) 1 (Option.some Jvm.ClassFile.FieldType.boolean) D A a0 M0 0 0) (hnm : meth.name = yX4_isClosed.name) (hout : ∀ x ∈ c.exceptionTable.toList, False) : ∀ q ∈ cd_X4_isClosed, zSd p l e rm_X4_isClosed s m args below meth c 1 D A a0 M0 K KX 0 0 q.1 q.2 :=
    zall_c (zs_aload_n X (pc := 0) (q := 0) rfl (by decide +kernel)) <|
    zall_c (zs_geti X (pc := 1) zc_X4 (by decide) (zin ui_X4) (.tail _ gw_1_177) (by decide +kernel) (by decide +kernel)) <|
    zall_c (zs_iconst X (pc := 4) (by decide) (by decide +kernel)) <|
    zall_c (zs_icmp_eq X (pc := 5) (off := 11) (by decide +kernel) (by decide)) <|
    zall_c (zs_aload_n X (pc := 8) (q := 0) rfl (by decide +kernel)) <|
    zall_c (zs_geti X (pc := 9) zc_X4 (by decide) (zin ui_X4) (.tail _ gw_1_177) (by decide +kernel) (by decide +kernel)) <|
    zall_c (zs_iconst X (pc := 12) (by decide) (by decide +kernel)) <|
    zall_c (zs_icmp_ne X (pc := 13) (off := 7) (by decide +kernel) (by decide)) <|
    zall_c (zs_iconst X (pc := 16) (by decide) (by decide +kernel)) <|
    zall_c (zs_goto X (pc := 17) (off := 4) (by decide +kernel) (by decide)) <|
    zall_c (zs_iconst X (pc := 20) (by decide) (by decide +kernel)) <|
    zall_c (zs_zret X (pc := 21) rfl zR_bool (by decide +kernel)) <|
    zall_n
theorem met_X4_isClosed {l : Launch} (hl : l.stackTraces = false) {T : ZTf} (bd : zBd (cd_X4_isClosed) 1 0 0 T) : zMet l yX4_isClosed (Cond.code yX4_isClosed cX4_isClosed 1 (Option.some Jvm.ClassFile.FieldType.boolean) :: zG) rm_X4_isClosed 0 0 T := zMet_of hl (by decide +kernel) rfl rfl rfl rfl (hs_X4_isClosed hl) bd

abbrev rm_X4_workerAt : Room := { frames := 1, cells := 0, slots := 0, locals := 30 }
def cd_X4_workerAt : List (Nat × ZTr) := [(0, tAld 0 1), (1, tGetR 7 9 4), (4, tIld 1 5), (5, tC (zi 3) 6), (6, tMul 7), (7, tC (zi 0) 8), (8, tAdd 9), (9, tIal 20 10), (10, tRi (fun _ => True))]
set_option maxRecDepth 100000 in
set_option maxHeartbeats 4000000 in
theorem hs_X4_workerAt {l : Launch} (hl : l.stackTraces = false) (p : Program) (e : Env) (s : State) (m : MethodId) (args : Array Value) (below : List Frame) (meth : Method) (c : Code) (D : va_G) (A : Nat → Prop) (a0 : Nat → Nat) (M0 : ZM) (K : ZRet) (KX : ZEx) (X : zCtx p l rm_X4_workerAt s m args meth c cX4_workerAt RX4 (Cond.code yX4_workerAt cX4_workerAt 2 (Option.some Jvm.ClassFile.FieldType.int) :: zG) 2 (Option.some Jvm.ClassFile.FieldType.int) D A a0 M0 0 0) (hnm : meth.name = yX4_workerAt.name) (hout : ∀ x ∈ c.exceptionTable.toList, False) : ∀ q ∈ cd_X4_workerAt, zSd p l e rm_X4_workerAt s m args below meth c 2 D A a0 M0 K KX 0 0 q.1 q.2 :=
    zall_c (zs_aload_n X (pc := 0) (q := 0) rfl (by decide +kernel)) <|
    zall_c (zs_getr X (pc := 1) zc_X4 (by decide) (zin ui_X4) (.tail _ gw_1_202) (by decide +kernel) (by decide +kernel)) <|
    zall_c (zs_iload_n X (pc := 4) (q := 1) rfl (by decide +kernel)) <|
    zall_c (zs_iconst X (pc := 5) (by decide) (by decide +kernel)) <|
    zall_c (zs_imul X (pc := 6) (by decide +kernel)) <|
    zall_c (zs_iconst X (pc := 7) (by decide) (by decide +kernel)) <|
    zall_c (zs_iadd X (pc := 8) (by decide +kernel)) <|
    zall_c (zs_iaload20 X (pc := 9) (by decide +kernel)) <|
    zall_c (zs_iret X (pc := 10) rfl (by decide +kernel)) <|
    zall_n
theorem met_X4_workerAt {l : Launch} (hl : l.stackTraces = false) {T : ZTf} (bd : zBd (cd_X4_workerAt) 2 0 0 T) : zMet l yX4_workerAt (Cond.code yX4_workerAt cX4_workerAt 2 (Option.some Jvm.ClassFile.FieldType.int) :: zG) rm_X4_workerAt 0 0 T := zMet_of hl (by decide +kernel) rfl rfl rfl rfl (hs_X4_workerAt hl) bd

abbrev rm_X4_resultAt : Room := { frames := 1, cells := 0, slots := 0, locals := 30 }
def cd_X4_resultAt : List (Nat × ZTr) := [(0, tAld 0 1), (1, tGetR 7 9 4), (4, tIld 1 5), (5, tC (zi 3) 6), (6, tMul 7), (7, tC (zi 1) 8), (8, tAdd 9), (9, tIal 20 10), (10, tRi (fun _ => True))]
set_option maxRecDepth 100000 in
set_option maxHeartbeats 4000000 in
theorem hs_X4_resultAt {l : Launch} (hl : l.stackTraces = false) (p : Program) (e : Env) (s : State) (m : MethodId) (args : Array Value) (below : List Frame) (meth : Method) (c : Code) (D : va_G) (A : Nat → Prop) (a0 : Nat → Nat) (M0 : ZM) (K : ZRet) (KX : ZEx) (X : zCtx p l rm_X4_resultAt s m args meth c cX4_resultAt RX4 (Cond.code yX4_resultAt cX4_resultAt 2 (Option.some Jvm.ClassFile.FieldType.int) :: zG) 2 (Option.some Jvm.ClassFile.FieldType.int) D A a0 M0 0 0) (hnm : meth.name = yX4_resultAt.name) (hout : ∀ x ∈ c.exceptionTable.toList, False) : ∀ q ∈ cd_X4_resultAt, zSd p l e rm_X4_resultAt s m args below meth c 2 D A a0 M0 K KX 0 0 q.1 q.2 :=
    zall_c (zs_aload_n X (pc := 0) (q := 0) rfl (by decide +kernel)) <|
    zall_c (zs_getr X (pc := 1) zc_X4 (by decide) (zin ui_X4) (.tail _ gw_1_202) (by decide +kernel) (by decide +kernel)) <|
    zall_c (zs_iload_n X (pc := 4) (q := 1) rfl (by decide +kernel)) <|
    zall_c (zs_iconst X (pc := 5) (by decide) (by decide +kernel)) <|
    zall_c (zs_imul X (pc := 6) (by decide +kernel)) <|
    zall_c (zs_iconst X (pc := 7) (by decide) (by decide +kernel)) <|
    zall_c (zs_iadd X (pc := 8) (by decide +kernel)) <|
    zall_c (zs_iaload20 X (pc := 9) (by decide +kernel)) <|
    zall_c (zs_iret X (pc := 10) rfl (by decide +kernel)) <|
    zall_n
theorem met_X4_resultAt {l : Launch} (hl : l.stackTraces = false) {T : ZTf} (bd : zBd (cd_X4_resultAt) 2 0 0 T) : zMet l yX4_resultAt (Cond.code yX4_resultAt cX4_resultAt 2 (Option.some Jvm.ClassFile.FieldType.int) :: zG) rm_X4_resultAt 0 0 T := zMet_of hl (by decide +kernel) rfl rfl rfl rfl (hs_X4_resultAt hl) bd

abbrev rm_X4_dueAt : Room := { frames := 1, cells := 0, slots := 0, locals := 30 }
def cd_X4_dueAt : List (Nat × ZTr) := [(0, tAld 0 1), (1, tGetR 7 9 4), (4, tIld 1 5), (5, tC (zi 3) 6), (6, tMul 7), (7, tC (zi 2) 8), (8, tAdd 9), (9, tIal 20 10), (10, tRi (fun _ => True))]
set_option maxRecDepth 100000 in
set_option maxHeartbeats 4000000 in
theorem hs_X4_dueAt {l : Launch} (hl : l.stackTraces = false) (p : Program) (e : Env) (s : State) (m : MethodId) (args : Array Value) (below : List Frame) (meth : Method) (c : Code) (D : va_G) (A : Nat → Prop) (a0 : Nat → Nat) (M0 : ZM) (K : ZRet) (KX : ZEx) (X : zCtx p l rm_X4_dueAt s m args meth c cX4_dueAt RX4 (Cond.code yX4_dueAt cX4_dueAt 2 (Option.some Jvm.ClassFile.FieldType.int) :: zG) 2 (Option.some Jvm.ClassFile.FieldType.int) D A a0 M0 0 0) (hnm : meth.name = yX4_dueAt.name) (hout : ∀ x ∈ c.exceptionTable.toList, False) : ∀ q ∈ cd_X4_dueAt, zSd p l e rm_X4_dueAt s m args below meth c 2 D A a0 M0 K KX 0 0 q.1 q.2 :=
    zall_c (zs_aload_n X (pc := 0) (q := 0) rfl (by decide +kernel)) <|
    zall_c (zs_getr X (pc := 1) zc_X4 (by decide) (zin ui_X4) (.tail _ gw_1_202) (by decide +kernel) (by decide +kernel)) <|
    zall_c (zs_iload_n X (pc := 4) (q := 1) rfl (by decide +kernel)) <|
    zall_c (zs_iconst X (pc := 5) (by decide) (by decide +kernel)) <|
    zall_c (zs_imul X (pc := 6) (by decide +kernel)) <|
    zall_c (zs_iconst X (pc := 7) (by decide) (by decide +kernel)) <|
    zall_c (zs_iadd X (pc := 8) (by decide +kernel)) <|
    zall_c (zs_iaload20 X (pc := 9) (by decide +kernel)) <|
    zall_c (zs_iret X (pc := 10) rfl (by decide +kernel)) <|
    zall_n
theorem met_X4_dueAt {l : Launch} (hl : l.stackTraces = false) {T : ZTf} (bd : zBd (cd_X4_dueAt) 2 0 0 T) : zMet l yX4_dueAt (Cond.code yX4_dueAt cX4_dueAt 2 (Option.some Jvm.ClassFile.FieldType.int) :: zG) rm_X4_dueAt 0 0 T := zMet_of hl (by decide +kernel) rfl rfl rfl rfl (hs_X4_dueAt hl) bd

abbrev rm_X4_isInWork : Room := { frames := 2, cells := 0, slots := 0, locals := 51 }
def cd_X4_isInWork (T0 : ZTf) : List (Nat × ZTr) := [(0, tAld 0 1), (1, tIld 1 2), (2, tCall0 2 T0 (zRcv 7) 5), (5, tC (zi (-1)) 6), (6, tIc_ne 13 9), (9, tC (zi 1) 10), (10, tGo 14), (13, tC (zi 0) 14), (14, tRi zPz)]
set_option maxRecDepth 100000 in
set_option maxHeartbeats 4000000 in
theorem hs_X4_isInWork {l : Launch} (hl : l.stackTraces = false) {T0 : ZTf} (h0 : zMet l yX4_resultAt (Cond.code yX4_resultAt cX4_resultAt 2 (Option.some Jvm.ClassFile.FieldType.int) :: zG) rm_X4_resultAt 0 0 T0) (p : Program) (e : Env) (s : State) (m : MethodId) (args : Array Value) (below : List Frame) (meth : Method) (c : Code) (D : va_G) (A : Nat → Prop) (a0 : Nat → Nat) (M0 : ZM) (K : ZRet) (KX : ZEx) (X : zCtx p l rm_X4_isInWork s m args meth c cX4_isInWork RX4 (Cond.code yX4_isInWork cX4_isInWork 2 (Option.some Jvm.ClassFile.FieldType.boolean) :: zG) 2 (Option.some Jvm.ClassFile.FieldType.boolean) D A a0 M0 0 0) (hnm : meth.name = yX4_isInWork.name) (hout : ∀ x ∈ c.exceptionTable.toList, False) : ∀ q ∈ cd_X4_isInWork T0, zSd p l e rm_X4_isInWork s m args below meth c 2 D A a0 M0 K KX 0 0 q.1 q.2 :=
    zall_c (zs_aload_n X (pc := 0) (q := 0) rfl (by decide +kernel)) <|
    zall_c (zs_iload_n X (pc := 1) (q := 1) rfl (by decide +kernel)) <|
    zall_c (zs_callV0 X (pc := 2) zc_X4 (fun _ ht => ⟨(zCB ht gw_5_82 gw_1_10 gw_5_79 rfl rfl (by decide +kernel) ⟨Nat.le_of_ble_eq_true rfl, Nat.le_of_ble_eq_true rfl⟩), ht _ (.tail _ gw_5_80), ht _ (.tail _ gw_5_81)⟩) h0 hout (by decide +kernel)) <|
    zall_c (zs_iconst X (pc := 5) (by decide) (by decide +kernel)) <|
    zall_c (zs_icmp_ne X (pc := 6) (off := 7) (by decide +kernel) (by decide)) <|
    zall_c (zs_iconst X (pc := 9) (by decide) (by decide +kernel)) <|
    zall_c (zs_goto X (pc := 10) (off := 4) (by decide +kernel) (by decide)) <|
    zall_c (zs_iconst X (pc := 13) (by decide) (by decide +kernel)) <|
    zall_c (zs_zret X (pc := 14) rfl zR_bool (by decide +kernel)) <|
    zall_n
theorem met_X4_isInWork {l : Launch} (hl : l.stackTraces = false) {T0 : ZTf} (h0 : zMet l yX4_resultAt (Cond.code yX4_resultAt cX4_resultAt 2 (Option.some Jvm.ClassFile.FieldType.int) :: zG) rm_X4_resultAt 0 0 T0) {T : ZTf} (bd : zBd (cd_X4_isInWork T0) 2 0 0 T) : zMet l yX4_isInWork (Cond.code yX4_isInWork cX4_isInWork 2 (Option.some Jvm.ClassFile.FieldType.boolean) :: zG) rm_X4_isInWork 0 0 T := zMet_of hl (by decide +kernel) rfl rfl rfl rfl (hs_X4_isInWork hl h0) bd

abbrev rm_X4_isLateAt : Room := { frames := 3, cells := 0, slots := 0, locals := 72 }
def cd_X4_isLateAt (T0 : ZTf) (T1 : ZTf) : List (Nat × ZTr) := [(0, tAld 0 1), (1, tIld 1 2), (2, tCall0 2 T0 (zRcv 7) 5), (5, tIf_eq 21 8), (8, tAld 0 9), (9, tIld 1 10), (10, tCall0 2 T1 (zRcv 7) 13), (13, tIld 2 14), (14, tIc_ge 21 17), (17, tC (zi 1) 18), (18, tGo 22), (21, tC (zi 0) 22), (22, tRi zPz)]
set_option maxRecDepth 100000 in
set_option maxHeartbeats 4000000 in
theorem hs_X4_isLateAt {l : Launch} (hl : l.stackTraces = false) {T0 : ZTf} {T1 : ZTf} (h0 : zMet l yX4_isInWork (Cond.code yX4_isInWork cX4_isInWork 2 (Option.some Jvm.ClassFile.FieldType.boolean) :: zG) rm_X4_isInWork 0 0 T0) (h1 : zMet l yX4_dueAt (Cond.code yX4_dueAt cX4_dueAt 2 (Option.some Jvm.ClassFile.FieldType.int) :: zG) rm_X4_dueAt 0 0 T1) (p : Program) (e : Env) (s : State) (m : MethodId) (args : Array Value) (below : List Frame) (meth : Method) (c : Code) (D : va_G) (A : Nat → Prop) (a0 : Nat → Nat) (M0 : ZM) (K : ZRet) (KX : ZEx) (X : zCtx p l rm_X4_isLateAt s m args meth c cX4_isLateAt RX4 (Cond.code yX4_isLateAt cX4_isLateAt 3 (Option.some Jvm.ClassFile.FieldType.boolean) :: zG) 3 (Option.some Jvm.ClassFile.FieldType.boolean) D A a0 M0 0 0) (hnm : meth.name = yX4_isLateAt.name) (hout : ∀ x ∈ c.exceptionTable.toList, False) : ∀ q ∈ cd_X4_isLateAt T0 T1, zSd p l e rm_X4_isLateAt s m args below meth c 3 D A a0 M0 K KX 0 0 q.1 q.2 :=
    zall_c (zs_aload_n X (pc := 0) (q := 0) rfl (by decide +kernel)) <|
    zall_c (zs_iload_n X (pc := 1) (q := 1) rfl (by decide +kernel)) <|
    zall_c (zs_callV0 X (pc := 2) zc_X4 (fun _ ht => ⟨(zCB ht gw_5_78 gw_1_10 gw_5_75 rfl rfl (by decide +kernel) ⟨Nat.le_of_ble_eq_true rfl, Nat.le_of_ble_eq_true rfl⟩), ht _ (.tail _ gw_5_76), ht _ (.tail _ gw_5_77)⟩) h0 hout (by decide +kernel)) <|
    zall_c (zs_if_eq X (pc := 5) (off := 16) (by decide +kernel) (by decide)) <|
    zall_c (zs_aload_n X (pc := 8) (q := 0) rfl (by decide +kernel)) <|
    zall_c (zs_iload_n X (pc := 9) (q := 1) rfl (by decide +kernel)) <|
    zall_c (zs_callV0 X (pc := 10) zc_X4 (fun _ ht => ⟨(zCB ht gw_5_86 gw_1_10 gw_5_83 rfl rfl (by decide +kernel) ⟨Nat.le_of_ble_eq_true rfl, Nat.le_of_ble_eq_true rfl⟩), ht _ (.tail _ gw_5_84), ht _ (.tail _ gw_5_85)⟩) h1 hout (by decide +kernel)) <|
    zall_c (zs_iload_n X (pc := 13) (q := 2) rfl (by decide +kernel)) <|
    zall_c (zs_icmp_ge X (pc := 14) (off := 7) (by decide +kernel) (by decide)) <|
    zall_c (zs_iconst X (pc := 17) (by decide) (by decide +kernel)) <|
    zall_c (zs_goto X (pc := 18) (off := 4) (by decide +kernel) (by decide)) <|
    zall_c (zs_iconst X (pc := 21) (by decide) (by decide +kernel)) <|
    zall_c (zs_zret X (pc := 22) rfl zR_bool (by decide +kernel)) <|
    zall_n
theorem met_X4_isLateAt {l : Launch} (hl : l.stackTraces = false) {T0 : ZTf} {T1 : ZTf} (h0 : zMet l yX4_isInWork (Cond.code yX4_isInWork cX4_isInWork 2 (Option.some Jvm.ClassFile.FieldType.boolean) :: zG) rm_X4_isInWork 0 0 T0) (h1 : zMet l yX4_dueAt (Cond.code yX4_dueAt cX4_dueAt 2 (Option.some Jvm.ClassFile.FieldType.int) :: zG) rm_X4_dueAt 0 0 T1) {T : ZTf} (bd : zBd (cd_X4_isLateAt T0 T1) 3 0 0 T) : zMet l yX4_isLateAt (Cond.code yX4_isLateAt cX4_isLateAt 3 (Option.some Jvm.ClassFile.FieldType.boolean) :: zG) rm_X4_isLateAt 0 0 T := zMet_of hl (by decide +kernel) rfl rfl rfl rfl (hs_X4_isLateAt hl h0 h1) bd

abbrev rm_X4_missingWorkers : Room := { frames := 2, cells := 0, slots := 0, locals := 50 }
def cd_X4_missingWorkers (T0 : ZTf) : List (Nat × ZTr) := [(0, tAld 0 1), (1, tCall0 1 T0 (zRcv 7) 4), (4, tIf_eq 9 7), (7, tC (zi 0) 8), (8, tRi (fun _ => True)), (9, tAld 0 10), (10, tGetI 7 1 13), (13, tC (zi 1) 14), (14, tIc_ne 21 17), (17, tC (zi 3) 18), (18, tGo 22), (21, tC (zi 2) 22), (22, tIst 1 23), (23, tC (zi 0) 24), (24, tIld 1 25), (25, tAld 0 26), (26, tGetI 7 8 29), (29, tSub 30), (30, tMth2 zmax 33), (33, tRi (fun _ => True))]
set_option maxRecDepth 100000 in
set_option maxHeartbeats 4000000 in
theorem hs_X4_missingWorkers {l : Launch} (hl : l.stackTraces = false) {T0 : ZTf} (h0 : zMet l yX4_isClosed (Cond.code yX4_isClosed cX4_isClosed 1 (Option.some Jvm.ClassFile.FieldType.boolean) :: zG) rm_X4_isClosed 0 0 T0) (p : Program) (e : Env) (s : State) (m : MethodId) (args : Array Value) (below : List Frame) (meth : Method) (c : Code) (D : va_G) (A : Nat → Prop) (a0 : Nat → Nat) (M0 : ZM) (K : ZRet) (KX : ZEx) (X : zCtx p l rm_X4_missingWorkers s m args meth c cX4_missingWorkers RX4 (Cond.code yX4_missingWorkers cX4_missingWorkers 2 (Option.some Jvm.ClassFile.FieldType.int) :: zG) 2 (Option.some Jvm.ClassFile.FieldType.int) D A a0 M0 0 0) (hnm : meth.name = yX4_missingWorkers.name) (hout : ∀ x ∈ c.exceptionTable.toList, False) : ∀ q ∈ cd_X4_missingWorkers T0, zSd p l e rm_X4_missingWorkers s m args below meth c 2 D A a0 M0 K KX 0 0 q.1 q.2 :=
    zall_c (zs_aload_n X (pc := 0) (q := 0) rfl (by decide +kernel)) <|
    zall_c (zs_callV0 X (pc := 1) zc_X4 (fun _ ht => ⟨(zCB ht gw_5_28 gw_1_10 gw_5_25 rfl rfl (by decide +kernel) ⟨Nat.le_of_ble_eq_true rfl, Nat.le_of_ble_eq_true rfl⟩), ht _ (.tail _ gw_5_26), ht _ (.tail _ gw_5_27)⟩) h0 hout (by decide +kernel)) <|
    zall_c (zs_if_eq X (pc := 4) (off := 5) (by decide +kernel) (by decide)) <|
    zall_c (zs_iconst X (pc := 7) (by decide) (by decide +kernel)) <|
    zall_c (zs_iret X (pc := 8) rfl (by decide +kernel)) <|
    zall_c (zs_aload_n X (pc := 9) (q := 0) rfl (by decide +kernel)) <|
    zall_c (zs_geti X (pc := 10) zc_X4 (by decide) (zin ui_X4) (.tail _ gw_1_177) (by decide +kernel) (by decide +kernel)) <|
    zall_c (zs_iconst X (pc := 13) (by decide) (by decide +kernel)) <|
    zall_c (zs_icmp_ne X (pc := 14) (off := 7) (by decide +kernel) (by decide)) <|
    zall_c (zs_iconst X (pc := 17) (by decide) (by decide +kernel)) <|
    zall_c (zs_goto X (pc := 18) (off := 4) (by decide +kernel) (by decide)) <|
    zall_c (zs_iconst X (pc := 21) (by decide) (by decide +kernel)) <|
    zall_c (zs_istore_n X (pc := 22) (q := 1) rfl (by decide) (by decide +kernel)) <|
    zall_c (zs_iconst X (pc := 23) (by decide) (by decide +kernel)) <|
    zall_c (zs_iload_n X (pc := 24) (q := 1) rfl (by decide +kernel)) <|
    zall_c (zs_aload_n X (pc := 25) (q := 0) rfl (by decide +kernel)) <|
    zall_c (zs_geti X (pc := 26) zc_X4 (by decide) (zin ui_X4) (.tail _ gw_1_199) (by decide +kernel) (by decide +kernel)) <|
    zall_c (zs_isub X (pc := 29) (by decide +kernel)) <|
    zall_c (zs_mmax X (pc := 30) (.tail _ gw_5_29) (.tail _ gw_3_92) (.tail _ gw_1_27) (.tail _ gw_3_93) (Nat.le_of_ble_eq_true rfl) (Nat.le_of_ble_eq_true rfl) (by decide +kernel)) <|
    zall_c (zs_iret X (pc := 33) rfl (by decide +kernel)) <|
    zall_n
theorem met_X4_missingWorkers {l : Launch} (hl : l.stackTraces = false) {T0 : ZTf} (h0 : zMet l yX4_isClosed (Cond.code yX4_isClosed cX4_isClosed 1 (Option.some Jvm.ClassFile.FieldType.boolean) :: zG) rm_X4_isClosed 0 0 T0) {T : ZTf} (bd : zBd (cd_X4_missingWorkers T0) 2 0 0 T) : zMet l yX4_missingWorkers (Cond.code yX4_missingWorkers cX4_missingWorkers 2 (Option.some Jvm.ClassFile.FieldType.int) :: zG) rm_X4_missingWorkers 0 0 T := zMet_of hl (by decide +kernel) rfl rfl rfl rfl (hs_X4_missingWorkers hl h0) bd

abbrev rm_X4_takingBy : Room := { frames := 2, cells := 0, slots := 0, locals := 51 }
def cd_X4_takingBy (T0 : ZTf) : List (Nat × ZTr) := [(0, tC (zi 0) 1), (1, tIst 2 2), (2, tIld 2 3), (3, tAld 0 4), (4, tGetI 7 8 7), (7, tIc_ge 27 10), (10, tAld 0 11), (11, tIld 2 12), (12, tCall0 2 T0 (zRcv 7) 15), (15, tIld 1 16), (16, tIc_ne 21 19), (19, tIld 2 20), (20, tRi (fun _ => True)), (21, tInc 2 1 24), (24, tGo 2), (27, tC (zi (-1)) 28), (28, tRi (fun _ => True))]
set_option maxRecDepth 100000 in
set_option maxHeartbeats 4000000 in
theorem hs_X4_takingBy {l : Launch} (hl : l.stackTraces = false) {T0 : ZTf} (h0 : zMet l yX4_workerAt (Cond.code yX4_workerAt cX4_workerAt 2 (Option.some Jvm.ClassFile.FieldType.int) :: zG) rm_X4_workerAt 0 0 T0) (p : Program) (e : Env) (s : State) (m : MethodId) (args : Array Value) (below : List Frame) (meth : Method) (c : Code) (D : va_G) (A : Nat → Prop) (a0 : Nat → Nat) (M0 : ZM) (K : ZRet) (KX : ZEx) (X : zCtx p l rm_X4_takingBy s m args meth c cX4_takingBy RX4 (Cond.code yX4_takingBy cX4_takingBy 3 (Option.some Jvm.ClassFile.FieldType.int) :: zG) 3 (Option.some Jvm.ClassFile.FieldType.int) D A a0 M0 0 0) (hnm : meth.name = yX4_takingBy.name) (hout : ∀ x ∈ c.exceptionTable.toList, False) : ∀ q ∈ cd_X4_takingBy T0, zSd p l e rm_X4_takingBy s m args below meth c 3 D A a0 M0 K KX 0 0 q.1 q.2 :=
    zall_c (zs_iconst X (pc := 0) (by decide) (by decide +kernel)) <|
    zall_c (zs_istore_n X (pc := 1) (q := 2) rfl (by decide) (by decide +kernel)) <|
    zall_c (zs_iload_n X (pc := 2) (q := 2) rfl (by decide +kernel)) <|
    zall_c (zs_aload_n X (pc := 3) (q := 0) rfl (by decide +kernel)) <|
    zall_c (zs_geti X (pc := 4) zc_X4 (by decide) (zin ui_X4) (.tail _ gw_1_199) (by decide +kernel) (by decide +kernel)) <|
    zall_c (zs_icmp_ge X (pc := 7) (off := 20) (by decide +kernel) (by decide)) <|
    zall_c (zs_aload_n X (pc := 10) (q := 0) rfl (by decide +kernel)) <|
    zall_c (zs_iload_n X (pc := 11) (q := 2) rfl (by decide +kernel)) <|
    zall_c (zs_callV0 X (pc := 12) zc_X4 (fun _ ht => ⟨(zCB ht gw_5_37 gw_1_10 gw_6_105 rfl rfl (by decide +kernel) ⟨Nat.le_of_ble_eq_true rfl, Nat.le_of_ble_eq_true rfl⟩), ht _ (.tail _ gw_5_35), ht _ (.tail _ gw_5_36)⟩) h0 hout (by decide +kernel)) <|
    zall_c (zs_iload_n X (pc := 15) (q := 1) rfl (by decide +kernel)) <|
    zall_c (zs_icmp_ne X (pc := 16) (off := 5) (by decide +kernel) (by decide)) <|
    zall_c (zs_iload_n X (pc := 19) (q := 2) rfl (by decide +kernel)) <|
    zall_c (zs_iret X (pc := 20) rfl (by decide +kernel)) <|
    zall_c (zs_iinc X (pc := 21) (by decide) (by decide +kernel)) <|
    zall_c (zs_goto X (pc := 24) (off := (-22)) (by decide +kernel) (by decide)) <|
    zall_c (zs_iconst X (pc := 27) (by decide) (by decide +kernel)) <|
    zall_c (zs_iret X (pc := 28) rfl (by decide +kernel)) <|
    zall_n
theorem met_X4_takingBy {l : Launch} (hl : l.stackTraces = false) {T0 : ZTf} (h0 : zMet l yX4_workerAt (Cond.code yX4_workerAt cX4_workerAt 2 (Option.some Jvm.ClassFile.FieldType.int) :: zG) rm_X4_workerAt 0 0 T0) {T : ZTf} (bd : zBd (cd_X4_takingBy T0) 3 0 0 T) : zMet l yX4_takingBy (Cond.code yX4_takingBy cX4_takingBy 3 (Option.some Jvm.ClassFile.FieldType.int) :: zG) rm_X4_takingBy 0 0 T := zMet_of hl (by decide +kernel) rfl rfl rfl rfl (hs_X4_takingBy hl h0) bd

abbrev rm_X4_resultBy : Room := { frames := 3, cells := 0, slots := 0, locals := 73 }
def cd_X4_resultBy (T0 : ZTf) (T1 : ZTf) : List (Nat × ZTr) := [(0, tAld 0 1), (1, tIld 1 2), (2, tCall0 2 T0 (zRcv 7) 5), (5, tIst 2 6), (6, tIld 2 7), (7, tC (zi (-1)) 8), (8, tIc_ne 15 11), (11, tC (zi (-1)) 12), (12, tGo 20), (15, tAld 0 16), (16, tIld 2 17), (17, tCall0 2 T1 (zRcv 7) 20), (20, tRi (fun _ => True))]
set_option maxRecDepth 100000 in
set_option maxHeartbeats 4000000 in
theorem hs_X4_resultBy {l : Launch} (hl : l.stackTraces = false) {T0 : ZTf} {T1 : ZTf} (h0 : zMet l yX4_takingBy (Cond.code yX4_takingBy cX4_takingBy 3 (Option.some Jvm.ClassFile.FieldType.int) :: zG) rm_X4_takingBy 0 0 T0) (h1 : zMet l yX4_resultAt (Cond.code yX4_resultAt cX4_resultAt 2 (Option.some Jvm.ClassFile.FieldType.int) :: zG) rm_X4_resultAt 0 0 T1) (p : Program) (e : Env) (s : State) (m : MethodId) (args : Array Value) (below : List Frame) (meth : Method) (c : Code) (D : va_G) (A : Nat → Prop) (a0 : Nat → Nat) (M0 : ZM) (K : ZRet) (KX : ZEx) (X : zCtx p l rm_X4_resultBy s m args meth c cX4_resultBy RX4 (Cond.code yX4_resultBy cX4_resultBy 3 (Option.some Jvm.ClassFile.FieldType.int) :: zG) 3 (Option.some Jvm.ClassFile.FieldType.int) D A a0 M0 0 0) (hnm : meth.name = yX4_resultBy.name) (hout : ∀ x ∈ c.exceptionTable.toList, False) : ∀ q ∈ cd_X4_resultBy T0 T1, zSd p l e rm_X4_resultBy s m args below meth c 3 D A a0 M0 K KX 0 0 q.1 q.2 :=
    zall_c (zs_aload_n X (pc := 0) (q := 0) rfl (by decide +kernel)) <|
    zall_c (zs_iload_n X (pc := 1) (q := 1) rfl (by decide +kernel)) <|
    zall_c (zs_callV0 X (pc := 2) zc_X4 (fun _ ht => ⟨(zCB ht gw_6_104 gw_1_10 gw_6_101 rfl rfl (by decide +kernel) ⟨Nat.le_of_ble_eq_true rfl, Nat.le_of_ble_eq_true rfl⟩), ht _ (.tail _ gw_6_102), ht _ (.tail _ gw_6_103)⟩) h0 hout (by decide +kernel)) <|
    zall_c (zs_istore_n X (pc := 5) (q := 2) rfl (by decide) (by decide +kernel)) <|
    zall_c (zs_iload_n X (pc := 6) (q := 2) rfl (by decide +kernel)) <|
    zall_c (zs_iconst X (pc := 7) (by decide) (by decide +kernel)) <|
    zall_c (zs_icmp_ne X (pc := 8) (off := 7) (by decide +kernel) (by decide)) <|
    zall_c (zs_iconst X (pc := 11) (by decide) (by decide +kernel)) <|
    zall_c (zs_goto X (pc := 12) (off := 8) (by decide +kernel) (by decide)) <|
    zall_c (zs_aload_n X (pc := 15) (q := 0) rfl (by decide +kernel)) <|
    zall_c (zs_iload_n X (pc := 16) (q := 2) rfl (by decide +kernel)) <|
    zall_c (zs_callV0 X (pc := 17) zc_X4 (fun _ ht => ⟨(zCB ht gw_5_82 gw_1_10 gw_5_79 rfl rfl (by decide +kernel) ⟨Nat.le_of_ble_eq_true rfl, Nat.le_of_ble_eq_true rfl⟩), ht _ (.tail _ gw_5_80), ht _ (.tail _ gw_5_81)⟩) h1 hout (by decide +kernel)) <|
    zall_c (zs_iret X (pc := 20) rfl (by decide +kernel)) <|
    zall_n
theorem met_X4_resultBy {l : Launch} (hl : l.stackTraces = false) {T0 : ZTf} {T1 : ZTf} (h0 : zMet l yX4_takingBy (Cond.code yX4_takingBy cX4_takingBy 3 (Option.some Jvm.ClassFile.FieldType.int) :: zG) rm_X4_takingBy 0 0 T0) (h1 : zMet l yX4_resultAt (Cond.code yX4_resultAt cX4_resultAt 2 (Option.some Jvm.ClassFile.FieldType.int) :: zG) rm_X4_resultAt 0 0 T1) {T : ZTf} (bd : zBd (cd_X4_resultBy T0 T1) 3 0 0 T) : zMet l yX4_resultBy (Cond.code yX4_resultBy cX4_resultBy 3 (Option.some Jvm.ClassFile.FieldType.int) :: zG) rm_X4_resultBy 0 0 T := zMet_of hl (by decide +kernel) rfl rfl rfl rfl (hs_X4_resultBy hl h0 h1) bd

abbrev rm_X4_leastDue : Room := { frames := 3, cells := 0, slots := 0, locals := 72 }
def cd_X4_leastDue (T0 : ZTf) (T1 : ZTf) : List (Nat × ZTr) := [(0, tC (zi (-1)) 1), (1, tIst 1 2), (2, tC (zi 0) 3), (3, tIst 2 4), (4, tIld 2 5), (5, tAld 0 6), (6, tGetI 7 8 9), (9, tIc_ge 46 12), (12, tAld 0 13), (13, tIld 2 14), (14, tCall0 2 T0 (zRcv 7) 17), (17, tIf_eq 40 20), (20, tIld 1 21), (21, tC (zi (-1)) 22), (22, tIc_eq 34 25), (25, tAld 0 26), (26, tIld 2 27), (27, tCall0 2 T1 (zRcv 7) 30), (30, tIld 1 31), (31, tIc_ge 40 34), (34, tAld 0 35), (35, tIld 2 36), (36, tCall0 2 T1 (zRcv 7) 39), (39, tIst 1 40), (40, tInc 2 1 43), (43, tGo 4), (46, tIld 1 47), (47, tRi (fun _ => True))]
set_option maxRecDepth 100000 in
set_option maxHeartbeats 4000000 in
theorem hs_X4_leastDue {l : Launch} (hl : l.stackTraces = false) {T0 : ZTf} {T1 : ZTf} (h0 : zMet l yX4_isInWork (Cond.code yX4_isInWork cX4_isInWork 2 (Option.some Jvm.ClassFile.FieldType.boolean) :: zG) rm_X4_isInWork 0 0 T0) (h1 : zMet l yX4_dueAt (Cond.code yX4_dueAt cX4_dueAt 2 (Option.some Jvm.ClassFile.FieldType.int) :: zG) rm_X4_dueAt 0 0 T1) (p : Program) (e : Env) (s : State) (m : MethodId) (args : Array Value) (below : List Frame) (meth : Method) (c : Code) (D : va_G) (A : Nat → Prop) (a0 : Nat → Nat) (M0 : ZM) (K : ZRet) (KX : ZEx) (X : zCtx p l rm_X4_leastDue s m args meth c cX4_leastDue RX4 (Cond.code yX4_leastDue cX4_leastDue 3 (Option.some Jvm.ClassFile.FieldType.int) :: zG) 3 (Option.some Jvm.ClassFile.FieldType.int) D A a0 M0 0 0) (hnm : meth.name = yX4_leastDue.name) (hout : ∀ x ∈ c.exceptionTable.toList, False) : ∀ q ∈ cd_X4_leastDue T0 T1, zSd p l e rm_X4_leastDue s m args below meth c 3 D A a0 M0 K KX 0 0 q.1 q.2 :=
    zall_c (zs_iconst X (pc := 0) (by decide) (by decide +kernel)) <|
    zall_c (zs_istore_n X (pc := 1) (q := 1) rfl (by decide) (by decide +kernel)) <|
    zall_c (zs_iconst X (pc := 2) (by decide) (by decide +kernel)) <|
    zall_c (zs_istore_n X (pc := 3) (q := 2) rfl (by decide) (by decide +kernel)) <|
    zall_c (zs_iload_n X (pc := 4) (q := 2) rfl (by decide +kernel)) <|
    zall_c (zs_aload_n X (pc := 5) (q := 0) rfl (by decide +kernel)) <|
    zall_c (zs_geti X (pc := 6) zc_X4 (by decide) (zin ui_X4) (.tail _ gw_1_199) (by decide +kernel) (by decide +kernel)) <|
    zall_c (zs_icmp_ge X (pc := 9) (off := 37) (by decide +kernel) (by decide)) <|
    zall_c (zs_aload_n X (pc := 12) (q := 0) rfl (by decide +kernel)) <|
    zall_c (zs_iload_n X (pc := 13) (q := 2) rfl (by decide +kernel)) <|
    zall_c (zs_callV0 X (pc := 14) zc_X4 (fun _ ht => ⟨(zCB ht gw_5_78 gw_1_10 gw_5_75 rfl rfl (by decide +kernel) ⟨Nat.le_of_ble_eq_true rfl, Nat.le_of_ble_eq_true rfl⟩), ht _ (.tail _ gw_5_76), ht _ (.tail _ gw_5_77)⟩) h0 hout (by decide +kernel)) <|
    zall_c (zs_if_eq X (pc := 17) (off := 23) (by decide +kernel) (by decide)) <|
    zall_c (zs_iload_n X (pc := 20) (q := 1) rfl (by decide +kernel)) <|
    zall_c (zs_iconst X (pc := 21) (by decide) (by decide +kernel)) <|
    zall_c (zs_icmp_eq X (pc := 22) (off := 12) (by decide +kernel) (by decide)) <|
    zall_c (zs_aload_n X (pc := 25) (q := 0) rfl (by decide +kernel)) <|
    zall_c (zs_iload_n X (pc := 26) (q := 2) rfl (by decide +kernel)) <|
    zall_c (zs_callV0 X (pc := 27) zc_X4 (fun _ ht => ⟨(zCB ht gw_5_86 gw_1_10 gw_5_83 rfl rfl (by decide +kernel) ⟨Nat.le_of_ble_eq_true rfl, Nat.le_of_ble_eq_true rfl⟩), ht _ (.tail _ gw_5_84), ht _ (.tail _ gw_5_85)⟩) h1 hout (by decide +kernel)) <|
    zall_c (zs_iload_n X (pc := 30) (q := 1) rfl (by decide +kernel)) <|
    zall_c (zs_icmp_ge X (pc := 31) (off := 9) (by decide +kernel) (by decide)) <|
    zall_c (zs_aload_n X (pc := 34) (q := 0) rfl (by decide +kernel)) <|
    zall_c (zs_iload_n X (pc := 35) (q := 2) rfl (by decide +kernel)) <|
    zall_c (zs_callV0 X (pc := 36) zc_X4 (fun _ ht => ⟨(zCB ht gw_5_86 gw_1_10 gw_5_83 rfl rfl (by decide +kernel) ⟨Nat.le_of_ble_eq_true rfl, Nat.le_of_ble_eq_true rfl⟩), ht _ (.tail _ gw_5_84), ht _ (.tail _ gw_5_85)⟩) h1 hout (by decide +kernel)) <|
    zall_c (zs_istore_n X (pc := 39) (q := 1) rfl (by decide) (by decide +kernel)) <|
    zall_c (zs_iinc X (pc := 40) (by decide) (by decide +kernel)) <|
    zall_c (zs_goto X (pc := 43) (off := (-39)) (by decide +kernel) (by decide)) <|
    zall_c (zs_iload_n X (pc := 46) (q := 1) rfl (by decide +kernel)) <|
    zall_c (zs_iret X (pc := 47) rfl (by decide +kernel)) <|
    zall_n
theorem met_X4_leastDue {l : Launch} (hl : l.stackTraces = false) {T0 : ZTf} {T1 : ZTf} (h0 : zMet l yX4_isInWork (Cond.code yX4_isInWork cX4_isInWork 2 (Option.some Jvm.ClassFile.FieldType.boolean) :: zG) rm_X4_isInWork 0 0 T0) (h1 : zMet l yX4_dueAt (Cond.code yX4_dueAt cX4_dueAt 2 (Option.some Jvm.ClassFile.FieldType.int) :: zG) rm_X4_dueAt 0 0 T1) {T : ZTf} (bd : zBd (cd_X4_leastDue T0 T1) 3 0 0 T) : zMet l yX4_leastDue (Cond.code yX4_leastDue cX4_leastDue 3 (Option.some Jvm.ClassFile.FieldType.int) :: zG) rm_X4_leastDue 0 0 T := zMet_of hl (by decide +kernel) rfl rfl rfl rfl (hs_X4_leastDue hl h0 h1) bd

abbrev rm_X4_countLateAt : Room := { frames := 4, cells := 0, slots := 0, locals := 94 }
def cd_X4_countLateAt (T0 : ZTf) : List (Nat × ZTr) := [(0, tC (zi 0) 1), (1, tIst 2 2), (2, tC (zi 0) 3), (3, tIst 3 4), (4, tIld 3 5), (5, tAld 0 6), (6, tGetI 7 8 9), (9, tIc_ge 30 12), (12, tAld 0 13), (13, tIld 3 14), (14, tIld 1 15), (15, tCall0 3 T0 (zRcv 7) 18), (18, tIf_eq 24 21), (21, tInc 2 1 24), (24, tInc 3 1 27), (27, tGo 4), (30, tIld 2 31), (31, tRi (fun _ => True))]
set_option maxRecDepth 100000 in
set_option maxHeartbeats 4000000 in
theorem hs_X4_countLateAt {l : Launch} (hl : l.stackTraces = false) {T0 : ZTf} (h0 : zMet l yX4_isLateAt (Cond.code yX4_isLateAt cX4_isLateAt 3 (Option.some Jvm.ClassFile.FieldType.boolean) :: zG) rm_X4_isLateAt 0 0 T0) (p : Program) (e : Env) (s : State) (m : MethodId) (args : Array Value) (below : List Frame) (meth : Method) (c : Code) (D : va_G) (A : Nat → Prop) (a0 : Nat → Nat) (M0 : ZM) (K : ZRet) (KX : ZEx) (X : zCtx p l rm_X4_countLateAt s m args meth c cX4_countLateAt RX4 (Cond.code yX4_countLateAt cX4_countLateAt 4 (Option.some Jvm.ClassFile.FieldType.int) :: zG) 4 (Option.some Jvm.ClassFile.FieldType.int) D A a0 M0 0 0) (hnm : meth.name = yX4_countLateAt.name) (hout : ∀ x ∈ c.exceptionTable.toList, False) : ∀ q ∈ cd_X4_countLateAt T0, zSd p l e rm_X4_countLateAt s m args below meth c 4 D A a0 M0 K KX 0 0 q.1 q.2 :=
    zall_c (zs_iconst X (pc := 0) (by decide) (by decide +kernel)) <|
    zall_c (zs_istore_n X (pc := 1) (q := 2) rfl (by decide) (by decide +kernel)) <|
    zall_c (zs_iconst X (pc := 2) (by decide) (by decide +kernel)) <|
    zall_c (zs_istore_n X (pc := 3) (q := 3) rfl (by decide) (by decide +kernel)) <|
    zall_c (zs_iload_n X (pc := 4) (q := 3) rfl (by decide +kernel)) <|
    zall_c (zs_aload_n X (pc := 5) (q := 0) rfl (by decide +kernel)) <|
    zall_c (zs_geti X (pc := 6) zc_X4 (by decide) (zin ui_X4) (.tail _ gw_1_199) (by decide +kernel) (by decide +kernel)) <|
    zall_c (zs_icmp_ge X (pc := 9) (off := 21) (by decide +kernel) (by decide)) <|
    zall_c (zs_aload_n X (pc := 12) (q := 0) rfl (by decide +kernel)) <|
    zall_c (zs_iload_n X (pc := 13) (q := 3) rfl (by decide +kernel)) <|
    zall_c (zs_iload_n X (pc := 14) (q := 1) rfl (by decide +kernel)) <|
    zall_c (zs_callV0 X (pc := 15) zc_X4 (fun _ ht => ⟨(zCB ht gw_6_151 gw_1_10 gw_6_148 rfl rfl (by decide +kernel) ⟨Nat.le_of_ble_eq_true rfl, Nat.le_of_ble_eq_true rfl⟩), ht _ (.tail _ gw_6_149), ht _ (.tail _ gw_6_150)⟩) h0 hout (by decide +kernel)) <|
    zall_c (zs_if_eq X (pc := 18) (off := 6) (by decide +kernel) (by decide)) <|
    zall_c (zs_iinc X (pc := 21) (by decide) (by decide +kernel)) <|
    zall_c (zs_iinc X (pc := 24) (by decide) (by decide +kernel)) <|
    zall_c (zs_goto X (pc := 27) (off := (-23)) (by decide +kernel) (by decide)) <|
    zall_c (zs_iload_n X (pc := 30) (q := 2) rfl (by decide +kernel)) <|
    zall_c (zs_iret X (pc := 31) rfl (by decide +kernel)) <|
    zall_n
theorem met_X4_countLateAt {l : Launch} (hl : l.stackTraces = false) {T0 : ZTf} (h0 : zMet l yX4_isLateAt (Cond.code yX4_isLateAt cX4_isLateAt 3 (Option.some Jvm.ClassFile.FieldType.boolean) :: zG) rm_X4_isLateAt 0 0 T0) {T : ZTf} (bd : zBd (cd_X4_countLateAt T0) 4 0 0 T) : zMet l yX4_countLateAt (Cond.code yX4_countLateAt cX4_countLateAt 4 (Option.some Jvm.ClassFile.FieldType.int) :: zG) rm_X4_countLateAt 0 0 T := zMet_of hl (by decide +kernel) rfl rfl rfl rfl (hs_X4_countLateAt hl h0) bd

abbrev rm_X4_enterResult : Room := { frames := 1, cells := 0, slots := 0, locals := 30 }
def cd_X4_enterResult : List (Nat × ZTr) := [(0, tAld 0 1), (1, tGetR 7 9 4), (4, tIld 1 5), (5, tC (zi 3) 6), (6, tMul 7), (7, tC (zi 1) 8), (8, tAdd 9), (9, tIld 2 10), (10, tIas 20 (fun _ => True) 11), (11, tRv)]
set_option maxRecDepth 100000 in
set_option maxHeartbeats 4000000 in
theorem hs_X4_enterResult {l : Launch} (hl : l.stackTraces = false) (p : Program) (e : Env) (s : State) (m : MethodId) (args : Array Value) (below : List Frame) (meth : Method) (c : Code) (D : va_G) (A : Nat → Prop) (a0 : Nat → Nat) (M0 : ZM) (K : ZRet) (KX : ZEx) (X : zCtx p l rm_X4_enterResult s m args meth c cX4_enterResult RX4 (Cond.code yX4_enterResult cX4_enterResult 3 (Option.none : Option Jvm.ClassFile.FieldType) :: zG) 3 (Option.none : Option Jvm.ClassFile.FieldType) D A a0 M0 0 0) (hnm : meth.name = yX4_enterResult.name) (hout : ∀ x ∈ c.exceptionTable.toList, False) : ∀ q ∈ cd_X4_enterResult, zSd p l e rm_X4_enterResult s m args below meth c 3 D A a0 M0 K KX 0 0 q.1 q.2 :=
    zall_c (zs_aload_n X (pc := 0) (q := 0) rfl (by decide +kernel)) <|
    zall_c (zs_getr X (pc := 1) zc_X4 (by decide) (zin ui_X4) (.tail _ gw_1_202) (by decide +kernel) (by decide +kernel)) <|
    zall_c (zs_iload_n X (pc := 4) (q := 1) rfl (by decide +kernel)) <|
    zall_c (zs_iconst X (pc := 5) (by decide) (by decide +kernel)) <|
    zall_c (zs_imul X (pc := 6) (by decide +kernel)) <|
    zall_c (zs_iconst X (pc := 7) (by decide) (by decide +kernel)) <|
    zall_c (zs_iadd X (pc := 8) (by decide +kernel)) <|
    zall_c (zs_iload_n X (pc := 9) (q := 2) rfl (by decide +kernel)) <|
    zall_c (zs_iastore20 X (pc := 10) (by decide +kernel)) <|
    zall_c (zs_vret X (pc := 11) rfl (by decide +kernel)) <|
    zall_n
theorem met_X4_enterResult {l : Launch} (hl : l.stackTraces = false) {T : ZTf} (bd : zBd (cd_X4_enterResult) 3 0 0 T) : zMet l yX4_enterResult (Cond.code yX4_enterResult cX4_enterResult 3 (Option.none : Option Jvm.ClassFile.FieldType) :: zG) rm_X4_enterResult 0 0 T := zMet_of hl (by decide +kernel) rfl rfl rfl rfl (hs_X4_enterResult hl) bd

abbrev rm_X4_setTaking : Room := { frames := 1, cells := 0, slots := 0, locals := 30 }
def cd_X4_setTaking : List (Nat × ZTr) := [(0, tAld 0 1), (1, tGetR 7 9 4), (4, tIld 1 5), (5, tC (zi 3) 6), (6, tMul 7), (7, tC (zi 0) 8), (8, tAdd 9), (9, tIld 2 10), (10, tIas 20 (fun _ => True) 11), (11, tAld 0 12), (12, tGetR 7 9 15), (15, tIld 1 16), (16, tC (zi 3) 17), (17, tMul 18), (18, tC (zi 1) 19), (19, tAdd 20), (20, tIld 3 21), (21, tIas 20 (fun _ => True) 22), (22, tAld 0 23), (23, tGetR 7 9 26), (26, tIld 1 27), (27, tC (zi 3) 28), (28, tMul 29), (29, tC (zi 2) 30), (30, tAdd 31), (31, tIld 4 33), (33, tIas 20 (fun _ => True) 34), (34, tRv)]
set_option maxRecDepth 100000 in
set_option maxHeartbeats 4000000 in
theorem hs_X4_setTaking {l : Launch} (hl : l.stackTraces = false) (p : Program) (e : Env) (s : State) (m : MethodId) (args : Array Value) (below : List Frame) (meth : Method) (c : Code) (D : va_G) (A : Nat → Prop) (a0 : Nat → Nat) (M0 : ZM) (K : ZRet) (KX : ZEx) (X : zCtx p l rm_X4_setTaking s m args meth c cX4_setTaking RX4 (Cond.code yX4_setTaking cX4_setTaking 5 (Option.none : Option Jvm.ClassFile.FieldType) :: zG) 5 (Option.none : Option Jvm.ClassFile.FieldType) D A a0 M0 0 0) (hnm : meth.name = yX4_setTaking.name) (hout : ∀ x ∈ c.exceptionTable.toList, False) : ∀ q ∈ cd_X4_setTaking, zSd p l e rm_X4_setTaking s m args below meth c 5 D A a0 M0 K KX 0 0 q.1 q.2 :=
    zall_c (zs_aload_n X (pc := 0) (q := 0) rfl (by decide +kernel)) <|
    zall_c (zs_getr X (pc := 1) zc_X4 (by decide) (zin ui_X4) (.tail _ gw_1_202) (by decide +kernel) (by decide +kernel)) <|
    zall_c (zs_iload_n X (pc := 4) (q := 1) rfl (by decide +kernel)) <|
    zall_c (zs_iconst X (pc := 5) (by decide) (by decide +kernel)) <|
    zall_c (zs_imul X (pc := 6) (by decide +kernel)) <|
    zall_c (zs_iconst X (pc := 7) (by decide) (by decide +kernel)) <|
    zall_c (zs_iadd X (pc := 8) (by decide +kernel)) <|
    zall_c (zs_iload_n X (pc := 9) (q := 2) rfl (by decide +kernel)) <|
    zall_c (zs_iastore20 X (pc := 10) (by decide +kernel)) <|
    zall_c (zs_aload_n X (pc := 11) (q := 0) rfl (by decide +kernel)) <|
    zall_c (zs_getr X (pc := 12) zc_X4 (by decide) (zin ui_X4) (.tail _ gw_1_202) (by decide +kernel) (by decide +kernel)) <|
    zall_c (zs_iload_n X (pc := 15) (q := 1) rfl (by decide +kernel)) <|
    zall_c (zs_iconst X (pc := 16) (by decide) (by decide +kernel)) <|
    zall_c (zs_imul X (pc := 17) (by decide +kernel)) <|
    zall_c (zs_iconst X (pc := 18) (by decide) (by decide +kernel)) <|
    zall_c (zs_iadd X (pc := 19) (by decide +kernel)) <|
    zall_c (zs_iload_n X (pc := 20) (q := 3) rfl (by decide +kernel)) <|
    zall_c (zs_iastore20 X (pc := 21) (by decide +kernel)) <|
    zall_c (zs_aload_n X (pc := 22) (q := 0) rfl (by decide +kernel)) <|
    zall_c (zs_getr X (pc := 23) zc_X4 (by decide) (zin ui_X4) (.tail _ gw_1_202) (by decide +kernel) (by decide +kernel)) <|
    zall_c (zs_iload_n X (pc := 26) (q := 1) rfl (by decide +kernel)) <|
    zall_c (zs_iconst X (pc := 27) (by decide) (by decide +kernel)) <|
    zall_c (zs_imul X (pc := 28) (by decide +kernel)) <|
    zall_c (zs_iconst X (pc := 29) (by decide) (by decide +kernel)) <|
    zall_c (zs_iadd X (pc := 30) (by decide +kernel)) <|
    zall_c (zs_iload X (pc := 31) (by decide +kernel)) <|
    zall_c (zs_iastore20 X (pc := 33) (by decide +kernel)) <|
    zall_c (zs_vret X (pc := 34) rfl (by decide +kernel)) <|
    zall_n
theorem met_X4_setTaking {l : Launch} (hl : l.stackTraces = false) {T : ZTf} (bd : zBd (cd_X4_setTaking) 5 0 0 T) : zMet l yX4_setTaking (Cond.code yX4_setTaking cX4_setTaking 5 (Option.none : Option Jvm.ClassFile.FieldType) :: zG) rm_X4_setTaking 0 0 T := zMet_of hl (by decide +kernel) rfl rfl rfl rfl (hs_X4_setTaking hl) bd

abbrev rm_X5_hasRoomFor : Room := { frames := 1, cells := 0, slots := 0, locals := 30 }
def cd_X5_hasRoomFor : List (Nat × ZTr) := [(0, tIld 1 1), (1, tC (zi 24) 3), (3, tAld 0 4), (4, tGetI 8 5 7), (7, tSub 8), (8, tIc_gt 15 11), (11, tC (zi 1) 12), (12, tGo 16), (15, tC (zi 0) 16), (16, tRi zPz)]
set_option maxRecDepth 100000 in
set_option maxHeartbeats 4000000 in
theorem hs_X5_hasRoomFor {l : Launch} (hl : l.stackTraces = false) (p : Program) (e : Env) (s : State) (m : MethodId) (args : Array Value) (below : List Frame) (meth : Method) (c : Code) (D : va_G) (A : Nat → Prop) (a0 : Nat → Nat) (M0 : ZM) (K : ZRet) (KX : ZEx) (X : zCtx p l rm_X5_hasRoomFor s m args meth c cX5_hasRoomFor RX5 (Cond.code yX5_hasRoomFor cX5_hasRoomFor 2 (Option.some Jvm.ClassFile.FieldType.boolean) :: zG) 2 (Option.some Jvm.ClassFile.FieldType.boolean) D A a0 M0 0 0) (hnm : meth.name = yX5_hasRoomFor.name) (hout : ∀ x ∈ c.exceptionTable.toList, False) : ∀ q ∈ cd_X5_hasRoomFor, zSd p l e rm_X5_hasRoomFor s m args below meth c 2 D A a0 M0 K KX 0 0 q.1 q.2 :=
    zall_c (zs_iload_n X (pc := 0) (q := 1) rfl (by decide +kernel)) <|
    zall_c (zs_bipush X (pc := 1) (by decide) (by decide +kernel) (by decide +kernel)) <|
    zall_c (zs_aload_n X (pc := 3) (q := 0) rfl (by decide +kernel)) <|
    zall_c (zs_geti X (pc := 4) zc_X5 (by decide) (zin ui_X5) (.tail _ gw_1_238) (by decide +kernel) (by decide +kernel)) <|
    zall_c (zs_isub X (pc := 7) (by decide +kernel)) <|
    zall_c (zs_icmp_gt X (pc := 8) (off := 7) (by decide +kernel) (by decide)) <|
    zall_c (zs_iconst X (pc := 11) (by decide) (by decide +kernel)) <|
    zall_c (zs_goto X (pc := 12) (off := 4) (by decide +kernel) (by decide)) <|
    zall_c (zs_iconst X (pc := 15) (by decide) (by decide +kernel)) <|
    zall_c (zs_zret X (pc := 16) rfl zR_bool (by decide +kernel)) <|
    zall_n
theorem met_X5_hasRoomFor {l : Launch} (hl : l.stackTraces = false) {T : ZTf} (bd : zBd (cd_X5_hasRoomFor) 2 0 0 T) : zMet l yX5_hasRoomFor (Cond.code yX5_hasRoomFor cX5_hasRoomFor 2 (Option.some Jvm.ClassFile.FieldType.boolean) :: zG) rm_X5_hasRoomFor 0 0 T := zMet_of hl (by decide +kernel) rfl rfl rfl rfl (hs_X5_hasRoomFor hl) bd

abbrev rm_X5_putRows : Room := { frames := 2, cells := 0, slots := 0, locals := 51 }
def cd_X5_putRows (T0 : ZTf) : List (Nat × ZTr) := [(0, tC (zi 0) 1), (1, tIst 3 2), (2, tIld 3 3), (3, tIld 1 4), (4, tIc_ge 45 7), (7, tAld 0 8), (8, tGetI 8 5 11), (11, tC (zi 24) 13), (13, tIc_ge 45 16), (16, tAld 0 17), (17, tGetR 8 7 20), (20, tAld 0 21), (21, tGetI 8 5 24), (24, tAal 31 25), (25, tIld 2 26), (26, tCall0 2 T0 (zRcv 7) 29), (29, tAld 0 30), (30, tDup 31), (31, tGetI 8 5 34), (34, tC (zi 1) 35), (35, tAdd 36), (36, tPutI 8 5 (fun _ => True) 39), (39, tInc 3 1 42), (42, tGo 2), (45, tRv)]
set_option maxRecDepth 100000 in
set_option maxHeartbeats 4000000 in
theorem hs_X5_putRows {l : Launch} (hl : l.stackTraces = false) {T0 : ZTf} (h0 : zMet l yX4_begin (Cond.code yX4_begin cX4_begin 2 (Option.none : Option Jvm.ClassFile.FieldType) :: zG) rm_X4_begin 0 0 T0) (p : Program) (e : Env) (s : State) (m : MethodId) (args : Array Value) (below : List Frame) (meth : Method) (c : Code) (D : va_G) (A : Nat → Prop) (a0 : Nat → Nat) (M0 : ZM) (K : ZRet) (KX : ZEx) (X : zCtx p l rm_X5_putRows s m args meth c cX5_putRows RX5 (Cond.code yX5_putRows cX5_putRows 4 (Option.none : Option Jvm.ClassFile.FieldType) :: zG) 4 (Option.none : Option Jvm.ClassFile.FieldType) D A a0 M0 0 0) (hnm : meth.name = yX5_putRows.name) (hout : ∀ x ∈ c.exceptionTable.toList, False) : ∀ q ∈ cd_X5_putRows T0, zSd p l e rm_X5_putRows s m args below meth c 4 D A a0 M0 K KX 0 0 q.1 q.2 :=
    zall_c (zs_iconst X (pc := 0) (by decide) (by decide +kernel)) <|
    zall_c (zs_istore_n X (pc := 1) (q := 3) rfl (by decide) (by decide +kernel)) <|
    zall_c (zs_iload_n X (pc := 2) (q := 3) rfl (by decide +kernel)) <|
    zall_c (zs_iload_n X (pc := 3) (q := 1) rfl (by decide +kernel)) <|
    zall_c (zs_icmp_ge X (pc := 4) (off := 41) (by decide +kernel) (by decide)) <|
    zall_c (zs_aload_n X (pc := 7) (q := 0) rfl (by decide +kernel)) <|
    zall_c (zs_geti X (pc := 8) zc_X5 (by decide) (zin ui_X5) (.tail _ gw_1_238) (by decide +kernel) (by decide +kernel)) <|
    zall_c (zs_bipush X (pc := 11) (by decide) (by decide +kernel) (by decide +kernel)) <|
    zall_c (zs_icmp_ge X (pc := 13) (off := 32) (by decide +kernel) (by decide)) <|
    zall_c (zs_aload_n X (pc := 16) (q := 0) rfl (by decide +kernel)) <|
    zall_c (zs_getr X (pc := 17) zc_X5 (by decide) (zin ui_X5) (.tail _ gw_2_3) (by decide +kernel) (by decide +kernel)) <|
    zall_c (zs_aload_n X (pc := 20) (q := 0) rfl (by decide +kernel)) <|
    zall_c (zs_geti X (pc := 21) zc_X5 (by decide) (zin ui_X5) (.tail _ gw_1_238) (by decide +kernel) (by decide +kernel)) <|
    zall_c (zs_aaload X (pc := 24) (by decide) rfl (by decide +kernel)) <|
    zall_c (zs_iload_n X (pc := 25) (q := 2) rfl (by decide +kernel)) <|
    zall_c (zs_callV0 X (pc := 26) zc_X4 (fun _ ht => ⟨(zCB ht gw_4_186 gw_1_10 gw_4_183 rfl rfl (by decide +kernel) ⟨Nat.le_of_ble_eq_true rfl, Nat.le_of_ble_eq_true rfl⟩), ht _ (.tail _ gw_4_184), ht _ (.tail _ gw_4_185)⟩) h0 hout (by decide +kernel)) <|
    zall_c (zs_aload_n X (pc := 29) (q := 0) rfl (by decide +kernel)) <|
    zall_c (zs_dup X (pc := 30) (by decide +kernel)) <|
    zall_c (zs_geti X (pc := 31) zc_X5 (by decide) (zin ui_X5) (.tail _ gw_1_238) (by decide +kernel) (by decide +kernel)) <|
    zall_c (zs_iconst X (pc := 34) (by decide) (by decide +kernel)) <|
    zall_c (zs_iadd X (pc := 35) (by decide +kernel)) <|
    zall_c (zs_puti X (pc := 36) (ty := Jvm.ClassFile.FieldType.int) zc_X5 (by decide) (zin ui_X5) tyX5_ok nmX5 (.tail _ gw_1_238) rfl (by decide +kernel) (by decide +kernel) (by decide +kernel) zP_int) <|
    zall_c (zs_iinc X (pc := 39) (by decide) (by decide +kernel)) <|
    zall_c (zs_goto X (pc := 42) (off := (-40)) (by decide +kernel) (by decide)) <|
    zall_c (zs_vret X (pc := 45) rfl (by decide +kernel)) <|
    zall_n
theorem met_X5_putRows {l : Launch} (hl : l.stackTraces = false) {T0 : ZTf} (h0 : zMet l yX4_begin (Cond.code yX4_begin cX4_begin 2 (Option.none : Option Jvm.ClassFile.FieldType) :: zG) rm_X4_begin 0 0 T0) {T : ZTf} (bd : zBd (cd_X5_putRows T0) 4 0 0 T) : zMet l yX5_putRows (Cond.code yX5_putRows cX5_putRows 4 (Option.none : Option Jvm.ClassFile.FieldType) :: zG) rm_X5_putRows 0 0 T := zMet_of hl (by decide +kernel) rfl rfl rfl rfl (hs_X5_putRows hl h0) bd

abbrev rm_X5_pairIndex : Room := { frames := 1, cells := 0, slots := 0, locals := 30 }
def cd_X5_pairIndex : List (Nat × ZTr) := [(0, tIld 0 1), (1, tIld 1 2), (2, tIc_ge 14 5), (5, tIld 0 6), (6, tC (zi 6) 8), (8, tMul 9), (9, tIld 1 10), (10, tAdd 11), (11, tGo 20), (14, tIld 1 15), (15, tC (zi 6) 17), (17, tMul 18), (18, tIld 0 19), (19, tAdd 20), (20, tRi (fun _ => True))]
set_option maxRecDepth 100000 in
set_option maxHeartbeats 4000000 in
theorem hs_X5_pairIndex {l : Launch} (hl : l.stackTraces = false) (p : Program) (e : Env) (s : State) (m : MethodId) (args : Array Value) (below : List Frame) (meth : Method) (c : Code) (D : va_G) (A : Nat → Prop) (a0 : Nat → Nat) (M0 : ZM) (K : ZRet) (KX : ZEx) (X : zCtx p l rm_X5_pairIndex s m args meth c cX5_pairIndex RX5 (Cond.code yX5_pairIndex cX5_pairIndex 2 (Option.some Jvm.ClassFile.FieldType.int) :: zG) 2 (Option.some Jvm.ClassFile.FieldType.int) D A a0 M0 0 0) (hnm : meth.name = yX5_pairIndex.name) (hout : ∀ x ∈ c.exceptionTable.toList, False) : ∀ q ∈ cd_X5_pairIndex, zSd p l e rm_X5_pairIndex s m args below meth c 2 D A a0 M0 K KX 0 0 q.1 q.2 :=
    zall_c (zs_iload_n X (pc := 0) (q := 0) rfl (by decide +kernel)) <|
    zall_c (zs_iload_n X (pc := 1) (q := 1) rfl (by decide +kernel)) <|
    zall_c (zs_icmp_ge X (pc := 2) (off := 12) (by decide +kernel) (by decide)) <|
    zall_c (zs_iload_n X (pc := 5) (q := 0) rfl (by decide +kernel)) <|
    zall_c (zs_bipush X (pc := 6) (by decide) (by decide +kernel) (by decide +kernel)) <|
    zall_c (zs_imul X (pc := 8) (by decide +kernel)) <|
    zall_c (zs_iload_n X (pc := 9) (q := 1) rfl (by decide +kernel)) <|
    zall_c (zs_iadd X (pc := 10) (by decide +kernel)) <|
    zall_c (zs_goto X (pc := 11) (off := 9) (by decide +kernel) (by decide)) <|
    zall_c (zs_iload_n X (pc := 14) (q := 1) rfl (by decide +kernel)) <|
    zall_c (zs_bipush X (pc := 15) (by decide) (by decide +kernel) (by decide +kernel)) <|
    zall_c (zs_imul X (pc := 17) (by decide +kernel)) <|
    zall_c (zs_iload_n X (pc := 18) (q := 0) rfl (by decide +kernel)) <|
    zall_c (zs_iadd X (pc := 19) (by decide +kernel)) <|
    zall_c (zs_iret X (pc := 20) rfl (by decide +kernel)) <|
    zall_n
theorem met_X5_pairIndex {l : Launch} (hl : l.stackTraces = false) {T : ZTf} (bd : zBd (cd_X5_pairIndex) 2 0 0 T) : zMet l yX5_pairIndex (Cond.code yX5_pairIndex cX5_pairIndex 2 (Option.some Jvm.ClassFile.FieldType.int) :: zG) rm_X5_pairIndex 0 0 T := zMet_of hl (by decide +kernel) rfl rfl rfl rfl (hs_X5_pairIndex hl) bd

abbrev rm_X5_tellApart : Room := { frames := 2, cells := 0, slots := 0, locals := 51 }
def cd_X5_tellApart (T0 : ZTf) : List (Nat × ZTr) := [(0, tIld 1 1), (1, tIld 2 2), (2, tCall0 2 T0 zAny 5), (5, tIst 4 7), (7, tAld 0 8), (8, tGetR 8 9 11), (11, tIld 4 13), (13, tIld 3 14), (14, tIf_eq 21 17), (17, tC (zi 1) 18), (18, tGo 22), (21, tC (zi 0) 22), (22, tIas 20 (fun _ => True) 23), (23, tAld 0 24), (24, tGetR 8 8 27), (27, tIld 4 29), (29, tC (zi 0) 30), (30, tIas 20 (fun _ => True) 31), (31, tRv)]
set_option maxRecDepth 100000 in
set_option maxHeartbeats 4000000 in
theorem hs_X5_tellApart {l : Launch} (hl : l.stackTraces = false) {T0 : ZTf} (h0 : zMet l yX5_pairIndex (Cond.code yX5_pairIndex cX5_pairIndex 2 (Option.some Jvm.ClassFile.FieldType.int) :: zG) rm_X5_pairIndex 0 0 T0) (p : Program) (e : Env) (s : State) (m : MethodId) (args : Array Value) (below : List Frame) (meth : Method) (c : Code) (D : va_G) (A : Nat → Prop) (a0 : Nat → Nat) (M0 : ZM) (K : ZRet) (KX : ZEx) (X : zCtx p l rm_X5_tellApart s m args meth c cX5_tellApart RX5 (Cond.code yX5_tellApart cX5_tellApart 5 (Option.none : Option Jvm.ClassFile.FieldType) :: zG) 5 (Option.none : Option Jvm.ClassFile.FieldType) D A a0 M0 0 0) (hnm : meth.name = yX5_tellApart.name) (hout : ∀ x ∈ c.exceptionTable.toList, False) : ∀ q ∈ cd_X5_tellApart T0, zSd p l e rm_X5_tellApart s m args below meth c 5 D A a0 M0 K KX 0 0 q.1 q.2 :=
    zall_c (zs_iload_n X (pc := 0) (q := 1) rfl (by decide +kernel)) <|
    zall_c (zs_iload_n X (pc := 1) (q := 2) rfl (by decide +kernel)) <|
    zall_c (zs_callS0 X (pc := 2) (fun _ ht => ⟨(zCB ht gw_4_203 gw_1_8 gw_4_201 rfl rfl (by decide +kernel) ⟨Nat.le_of_ble_eq_true rfl, Nat.le_of_ble_eq_true rfl⟩), ht _ (.tail _ gw_4_202)⟩) h0 hout (by decide +kernel)) <|
    zall_c (zs_istore X (pc := 5) (by decide) (by decide +kernel)) <|
    zall_c (zs_aload_n X (pc := 7) (q := 0) rfl (by decide +kernel)) <|
    zall_c (zs_getr X (pc := 8) zc_X5 (by decide) (zin ui_X5) (.tail _ gw_2_7) (by decide +kernel) (by decide +kernel)) <|
    zall_c (zs_iload X (pc := 11) (by decide +kernel)) <|
    zall_c (zs_iload_n X (pc := 13) (q := 3) rfl (by decide +kernel)) <|
    zall_c (zs_if_eq X (pc := 14) (off := 7) (by decide +kernel) (by decide)) <|
    zall_c (zs_iconst X (pc := 17) (by decide) (by decide +kernel)) <|
    zall_c (zs_goto X (pc := 18) (off := 4) (by decide +kernel) (by decide)) <|
    zall_c (zs_iconst X (pc := 21) (by decide) (by decide +kernel)) <|
    zall_c (zs_iastore20 X (pc := 22) (by decide +kernel)) <|
    zall_c (zs_aload_n X (pc := 23) (q := 0) rfl (by decide +kernel)) <|
    zall_c (zs_getr X (pc := 24) zc_X5 (by decide) (zin ui_X5) (.tail _ gw_2_5) (by decide +kernel) (by decide +kernel)) <|
    zall_c (zs_iload X (pc := 27) (by decide +kernel)) <|
    zall_c (zs_iconst X (pc := 29) (by decide) (by decide +kernel)) <|
    zall_c (zs_iastore20 X (pc := 30) (by decide +kernel)) <|
    zall_c (zs_vret X (pc := 31) rfl (by decide +kernel)) <|
    zall_n
theorem met_X5_tellApart {l : Launch} (hl : l.stackTraces = false) {T0 : ZTf} (h0 : zMet l yX5_pairIndex (Cond.code yX5_pairIndex cX5_pairIndex 2 (Option.some Jvm.ClassFile.FieldType.int) :: zG) rm_X5_pairIndex 0 0 T0) {T : ZTf} (bd : zBd (cd_X5_tellApart T0) 5 0 0 T) : zMet l yX5_tellApart (Cond.code yX5_tellApart cX5_tellApart 5 (Option.none : Option Jvm.ClassFile.FieldType) :: zG) rm_X5_tellApart 0 0 T := zMet_of hl (by decide +kernel) rfl rfl rfl rfl (hs_X5_tellApart hl h0) bd

abbrev rm_X5_areKeptApart : Room := { frames := 2, cells := 0, slots := 0, locals := 51 }
def cd_X5_areKeptApart (T0 : ZTf) : List (Nat × ZTr) := [(0, tIld 1 1), (1, tIld 2 2), (2, tCall0 2 T0 zAny 5), (5, tIst 3 6), (6, tAld 0 7), (7, tGetR 8 9 10), (10, tIld 3 11), (11, tIal 20 12), (12, tIf_ne 25 15), (15, tAld 0 16), (16, tGetR 8 8 19), (19, tIld 3 20), (20, tIal 20 21), (21, tC (zi 2) 22), (22, tIc_lt 29 25), (25, tC (zi 1) 26), (26, tGo 30), (29, tC (zi 0) 30), (30, tRi zPz)]
set_option maxRecDepth 100000 in
set_option maxHeartbeats 4000000 in
theorem hs_X5_areKeptApart {l : Launch} (hl : l.stackTraces = false) {T0 : ZTf} (h0 : zMet l yX5_pairIndex (Cond.code yX5_pairIndex cX5_pairIndex 2 (Option.some Jvm.ClassFile.FieldType.int) :: zG) rm_X5_pairIndex 0 0 T0) (p : Program) (e : Env) (s : State) (m : MethodId) (args : Array Value) (below : List Frame) (meth : Method) (c : Code) (D : va_G) (A : Nat → Prop) (a0 : Nat → Nat) (M0 : ZM) (K : ZRet) (KX : ZEx) (X : zCtx p l rm_X5_areKeptApart s m args meth c cX5_areKeptApart RX5 (Cond.code yX5_areKeptApart cX5_areKeptApart 4 (Option.some Jvm.ClassFile.FieldType.boolean) :: zG) 4 (Option.some Jvm.ClassFile.FieldType.boolean) D A a0 M0 0 0) (hnm : meth.name = yX5_areKeptApart.name) (hout : ∀ x ∈ c.exceptionTable.toList, False) : ∀ q ∈ cd_X5_areKeptApart T0, zSd p l e rm_X5_areKeptApart s m args below meth c 4 D A a0 M0 K KX 0 0 q.1 q.2 :=
    zall_c (zs_iload_n X (pc := 0) (q := 1) rfl (by decide +kernel)) <|
    zall_c (zs_iload_n X (pc := 1) (q := 2) rfl (by decide +kernel)) <|
    zall_c (zs_callS0 X (pc := 2) (fun _ ht => ⟨(zCB ht gw_4_203 gw_1_8 gw_4_201 rfl rfl (by decide +kernel) ⟨Nat.le_of_ble_eq_true rfl, Nat.le_of_ble_eq_true rfl⟩), ht _ (.tail _ gw_4_202)⟩) h0 hout (by decide +kernel)) <|
    zall_c (zs_istore_n X (pc := 5) (q := 3) rfl (by decide) (by decide +kernel)) <|
    zall_c (zs_aload_n X (pc := 6) (q := 0) rfl (by decide +kernel)) <|
    zall_c (zs_getr X (pc := 7) zc_X5 (by decide) (zin ui_X5) (.tail _ gw_2_7) (by decide +kernel) (by decide +kernel)) <|
    zall_c (zs_iload_n X (pc := 10) (q := 3) rfl (by decide +kernel)) <|
    zall_c (zs_iaload20 X (pc := 11) (by decide +kernel)) <|
    zall_c (zs_if_ne X (pc := 12) (off := 13) (by decide +kernel) (by decide)) <|
    zall_c (zs_aload_n X (pc := 15) (q := 0) rfl (by decide +kernel)) <|
    zall_c (zs_getr X (pc := 16) zc_X5 (by decide) (zin ui_X5) (.tail _ gw_2_5) (by decide +kernel) (by decide +kernel)) <|
    zall_c (zs_iload_n X (pc := 19) (q := 3) rfl (by decide +kernel)) <|
    zall_c (zs_iaload20 X (pc := 20) (by decide +kernel)) <|
    zall_c (zs_iconst X (pc := 21) (by decide) (by decide +kernel)) <|
    zall_c (zs_icmp_lt X (pc := 22) (off := 7) (by decide +kernel) (by decide)) <|
    zall_c (zs_iconst X (pc := 25) (by decide) (by decide +kernel)) <|
    zall_c (zs_goto X (pc := 26) (off := 4) (by decide +kernel) (by decide)) <|
    zall_c (zs_iconst X (pc := 29) (by decide) (by decide +kernel)) <|
    zall_c (zs_zret X (pc := 30) rfl zR_bool (by decide +kernel)) <|
    zall_n
theorem met_X5_areKeptApart {l : Launch} (hl : l.stackTraces = false) {T0 : ZTf} (h0 : zMet l yX5_pairIndex (Cond.code yX5_pairIndex cX5_pairIndex 2 (Option.some Jvm.ClassFile.FieldType.int) :: zG) rm_X5_pairIndex 0 0 T0) {T : ZTf} (bd : zBd (cd_X5_areKeptApart T0) 4 0 0 T) : zMet l yX5_areKeptApart (Cond.code yX5_areKeptApart cX5_areKeptApart 4 (Option.some Jvm.ClassFile.FieldType.boolean) :: zG) rm_X5_areKeptApart 0 0 T := zMet_of hl (by decide +kernel) rfl rfl rfl rfl (hs_X5_areKeptApart hl h0) bd

abbrev rm_X5_agree : Room := { frames := 1, cells := 0, slots := 0, locals := 30 }
def cd_X5_agree : List (Nat × ZTr) := [(0, tIld 1 1), (1, tIld 2 2), (2, tSub 3), (3, tMth1 6), (6, tAld 0 7), (7, tGetI 8 0 10), (10, tIc_gt 17 13), (13, tC (zi 1) 14), (14, tGo 18), (17, tC (zi 0) 18), (18, tRi zPz)]
set_option maxRecDepth 100000 in
set_option maxHeartbeats 4000000 in
theorem hs_X5_agree {l : Launch} (hl : l.stackTraces = false) (p : Program) (e : Env) (s : State) (m : MethodId) (args : Array Value) (below : List Frame) (meth : Method) (c : Code) (D : va_G) (A : Nat → Prop) (a0 : Nat → Nat) (M0 : ZM) (K : ZRet) (KX : ZEx) (X : zCtx p l rm_X5_agree s m args meth c cX5_agree RX5 (Cond.code yX5_agree cX5_agree 3 (Option.some Jvm.ClassFile.FieldType.boolean) :: zG) 3 (Option.some Jvm.ClassFile.FieldType.boolean) D A a0 M0 0 0) (hnm : meth.name = yX5_agree.name) (hout : ∀ x ∈ c.exceptionTable.toList, False) : ∀ q ∈ cd_X5_agree, zSd p l e rm_X5_agree s m args below meth c 3 D A a0 M0 K KX 0 0 q.1 q.2 :=
    zall_c (zs_iload_n X (pc := 0) (q := 1) rfl (by decide +kernel)) <|
    zall_c (zs_iload_n X (pc := 1) (q := 2) rfl (by decide +kernel)) <|
    zall_c (zs_isub X (pc := 2) (by decide +kernel)) <|
    zall_c (zs_mabs X (pc := 3) (.tail _ gw_6_110) (.tail _ gw_6_111) (.tail _ gw_1_27) (.tail _ gw_6_112) (Nat.le_of_ble_eq_true rfl) (Nat.le_of_ble_eq_true rfl) (by decide +kernel)) <|
    zall_c (zs_aload_n X (pc := 6) (q := 0) rfl (by decide +kernel)) <|
    zall_c (zs_geti X (pc := 7) zc_X5 (by decide) (zin ui_X5) (.tail _ gw_1_224) (by decide +kernel) (by decide +kernel)) <|
    zall_c (zs_icmp_gt X (pc := 10) (off := 7) (by decide +kernel) (by decide)) <|
    zall_c (zs_iconst X (pc := 13) (by decide) (by decide +kernel)) <|
    zall_c (zs_goto X (pc := 14) (off := 4) (by decide +kernel) (by decide)) <|
    zall_c (zs_iconst X (pc := 17) (by decide) (by decide +kernel)) <|
    zall_c (zs_zret X (pc := 18) rfl zR_bool (by decide +kernel)) <|
    zall_n
theorem met_X5_agree {l : Launch} (hl : l.stackTraces = false) {T : ZTf} (bd : zBd (cd_X5_agree) 3 0 0 T) : zMet l yX5_agree (Cond.code yX5_agree cX5_agree 3 (Option.some Jvm.ClassFile.FieldType.boolean) :: zG) rm_X5_agree 0 0 T := zMet_of hl (by decide +kernel) rfl rfl rfl rfl (hs_X5_agree hl) bd

abbrev rm_X5_isSuspended : Room := { frames := 1, cells := 0, slots := 0, locals := 30 }
def cd_X5_isSuspended : List (Nat × ZTr) := [(0, tAld 0 1), (1, tGetR 8 6 4), (4, tIld 1 5), (5, tAal 30 6), (6, tGetI 10 3 9), (9, tAld 0 10), (10, tGetI 8 2 13), (13, tIc_ge 20 16), (16, tC (zi 1) 17), (17, tGo 21), (20, tC (zi 0) 21), (21, tRi zPz)]
set_option maxRecDepth 100000 in
set_option maxHeartbeats 4000000 in
theorem hs_X5_isSuspended {l : Launch} (hl : l.stackTraces = false) (p : Program) (e : Env) (s : State) (m : MethodId) (args : Array Value) (below : List Frame) (meth : Method) (c : Code) (D : va_G) (A : Nat → Prop) (a0 : Nat → Nat) (M0 : ZM) (K : ZRet) (KX : ZEx) (X : zCtx p l rm_X5_isSuspended s m args meth c cX5_isSuspended RX5 (Cond.code yX5_isSuspended cX5_isSuspended 2 (Option.some Jvm.ClassFile.FieldType.boolean) :: zG) 2 (Option.some Jvm.ClassFile.FieldType.boolean) D A a0 M0 0 0) (hnm : meth.name = yX5_isSuspended.name) (hout : ∀ x ∈ c.exceptionTable.toList, False) : ∀ q ∈ cd_X5_isSuspended, zSd p l e rm_X5_isSuspended s m args below meth c 2 D A a0 M0 K KX 0 0 q.1 q.2 :=
    zall_c (zs_aload_n X (pc := 0) (q := 0) rfl (by decide +kernel)) <|
    zall_c (zs_getr X (pc := 1) zc_X5 (by decide) (zin ui_X5) (.tail _ gw_2_0) (by decide +kernel) (by decide +kernel)) <|
    zall_c (zs_iload_n X (pc := 4) (q := 1) rfl (by decide +kernel)) <|
    zall_c (zs_aaload X (pc := 5) (by decide) rfl (by decide +kernel)) <|
    zall_c (zs_geti X (pc := 6) zc_X7 (by decide) (zin ui_X7) (.tail _ gw_1_128) (by decide +kernel) (by decide +kernel)) <|
    zall_c (zs_aload_n X (pc := 9) (q := 0) rfl (by decide +kernel)) <|
    zall_c (zs_geti X (pc := 10) zc_X5 (by decide) (zin ui_X5) (.tail _ gw_1_230) (by decide +kernel) (by decide +kernel)) <|
    zall_c (zs_icmp_ge X (pc := 13) (off := 7) (by decide +kernel) (by decide)) <|
    zall_c (zs_iconst X (pc := 16) (by decide) (by decide +kernel)) <|
    zall_c (zs_goto X (pc := 17) (off := 4) (by decide +kernel) (by decide)) <|
    zall_c (zs_iconst X (pc := 20) (by decide) (by decide +kernel)) <|
    zall_c (zs_zret X (pc := 21) rfl zR_bool (by decide +kernel)) <|
    zall_n
theorem met_X5_isSuspended {l : Launch} (hl : l.stackTraces = false) {T : ZTf} (bd : zBd (cd_X5_isSuspended) 2 0 0 T) : zMet l yX5_isSuspended (Cond.code yX5_isSuspended cX5_isSuspended 2 (Option.some Jvm.ClassFile.FieldType.boolean) :: zG) rm_X5_isSuspended 0 0 T := zMet_of hl (by decide +kernel) rfl rfl rfl rfl (hs_X5_isSuspended hl) bd

abbrev rm_X5_countAudited : Room := { frames := 1, cells := 0, slots := 0, locals := 30 }
def cd_X5_countAudited : List (Nat × ZTr) := [(0, tC (zi 0) 1), (1, tIst 1 2), (2, tC (zi 0) 3), (3, tIst 2 4), (4, tIld 2 5), (5, tAld 0 6), (6, tGetI 8 5 9), (9, tIc_ge 33 12), (12, tAld 0 13), (13, tGetR 8 7 16), (16, tIld 2 17), (17, tAal 31 18), (18, tGetI 7 3 21), (21, tIf_eq 27 24), (24, tInc 1 1 27), (27, tInc 2 1 30), (30, tGo 4), (33, tIld 1 34), (34, tRi (fun _ => True))]
set_option maxRecDepth 100000 in
set_option maxHeartbeats 4000000 in
theorem hs_X5_countAudited {l : Launch} (hl : l.stackTraces = false) (p : Program) (e : Env) (s : State) (m : MethodId) (args : Array Value) (below : List Frame) (meth : Method) (c : Code) (D : va_G) (A : Nat → Prop) (a0 : Nat → Nat) (M0 : ZM) (K : ZRet) (KX : ZEx) (X : zCtx p l rm_X5_countAudited s m args meth c cX5_countAudited RX5 (Cond.code yX5_countAudited cX5_countAudited 3 (Option.some Jvm.ClassFile.FieldType.int) :: zG) 3 (Option.some Jvm.ClassFile.FieldType.int) D A a0 M0 0 0) (hnm : meth.name = yX5_countAudited.name) (hout : ∀ x ∈ c.exceptionTable.toList, False) : ∀ q ∈ cd_X5_countAudited, zSd p l e rm_X5_countAudited s m args below meth c 3 D A a0 M0 K KX 0 0 q.1 q.2 :=
    zall_c (zs_iconst X (pc := 0) (by decide) (by decide +kernel)) <|
    zall_c (zs_istore_n X (pc := 1) (q := 1) rfl (by decide) (by decide +kernel)) <|
    zall_c (zs_iconst X (pc := 2) (by decide) (by decide +kernel)) <|
    zall_c (zs_istore_n X (pc := 3) (q := 2) rfl (by decide) (by decide +kernel)) <|
    zall_c (zs_iload_n X (pc := 4) (q := 2) rfl (by decide +kernel)) <|
    zall_c (zs_aload_n X (pc := 5) (q := 0) rfl (by decide +kernel)) <|
    zall_c (zs_geti X (pc := 6) zc_X5 (by decide) (zin ui_X5) (.tail _ gw_1_238) (by decide +kernel) (by decide +kernel)) <|
    zall_c (zs_icmp_ge X (pc := 9) (off := 24) (by decide +kernel) (by decide)) <|
    zall_c (zs_aload_n X (pc := 12) (q := 0) rfl (by decide +kernel)) <|
    zall_c (zs_getr X (pc := 13) zc_X5 (by decide) (zin ui_X5) (.tail _ gw_2_3) (by decide +kernel) (by decide +kernel)) <|
    zall_c (zs_iload_n X (pc := 16) (q := 2) rfl (by decide +kernel)) <|
    zall_c (zs_aaload X (pc := 17) (by decide) rfl (by decide +kernel)) <|
    zall_c (zs_geti X (pc := 18) zc_X4 (by decide) (zin ui_X4) (.tail _ gw_1_185) (by decide +kernel) (by decide +kernel)) <|
    zall_c (zs_if_eq X (pc := 21) (off := 6) (by decide +kernel) (by decide)) <|
    zall_c (zs_iinc X (pc := 24) (by decide) (by decide +kernel)) <|
    zall_c (zs_iinc X (pc := 27) (by decide) (by decide +kernel)) <|
    zall_c (zs_goto X (pc := 30) (off := (-26)) (by decide +kernel) (by decide)) <|
    zall_c (zs_iload_n X (pc := 33) (q := 1) rfl (by decide +kernel)) <|
    zall_c (zs_iret X (pc := 34) rfl (by decide +kernel)) <|
    zall_n
theorem met_X5_countAudited {l : Launch} (hl : l.stackTraces = false) {T : ZTf} (bd : zBd (cd_X5_countAudited) 3 0 0 T) : zMet l yX5_countAudited (Cond.code yX5_countAudited cX5_countAudited 3 (Option.some Jvm.ClassFile.FieldType.int) :: zG) rm_X5_countAudited 0 0 T := zMet_of hl (by decide +kernel) rfl rfl rfl rfl (hs_X5_countAudited hl) bd

abbrev rm_X5_countInState : Room := { frames := 1, cells := 0, slots := 0, locals := 30 }
def cd_X5_countInState : List (Nat × ZTr) := [(0, tC (zi 0) 1), (1, tIst 2 2), (2, tC (zi 0) 3), (3, tIst 3 4), (4, tIld 3 5), (5, tAld 0 6), (6, tGetI 8 5 9), (9, tIc_ge 34 12), (12, tAld 0 13), (13, tGetR 8 7 16), (16, tIld 3 17), (17, tAal 31 18), (18, tGetI 7 1 21), (21, tIld 1 22), (22, tIc_ne 28 25), (25, tInc 2 1 28), (28, tInc 3 1 31), (31, tGo 4), (34, tIld 2 35), (35, tRi (fun _ => True))]
set_option maxRecDepth 100000 in
set_option maxHeartbeats 4000000 in
theorem hs_X5_countInState {l : Launch} (hl : l.stackTraces = false) (p : Program) (e : Env) (s : State) (m : MethodId) (args : Array Value) (below : List Frame) (meth : Method) (c : Code) (D : va_G) (A : Nat → Prop) (a0 : Nat → Nat) (M0 : ZM) (K : ZRet) (KX : ZEx) (X : zCtx p l rm_X5_countInState s m args meth c cX5_countInState RX5 (Cond.code yX5_countInState cX5_countInState 4 (Option.some Jvm.ClassFile.FieldType.int) :: zG) 4 (Option.some Jvm.ClassFile.FieldType.int) D A a0 M0 0 0) (hnm : meth.name = yX5_countInState.name) (hout : ∀ x ∈ c.exceptionTable.toList, False) : ∀ q ∈ cd_X5_countInState, zSd p l e rm_X5_countInState s m args below meth c 4 D A a0 M0 K KX 0 0 q.1 q.2 :=
    zall_c (zs_iconst X (pc := 0) (by decide) (by decide +kernel)) <|
    zall_c (zs_istore_n X (pc := 1) (q := 2) rfl (by decide) (by decide +kernel)) <|
    zall_c (zs_iconst X (pc := 2) (by decide) (by decide +kernel)) <|
    zall_c (zs_istore_n X (pc := 3) (q := 3) rfl (by decide) (by decide +kernel)) <|
    zall_c (zs_iload_n X (pc := 4) (q := 3) rfl (by decide +kernel)) <|
    zall_c (zs_aload_n X (pc := 5) (q := 0) rfl (by decide +kernel)) <|
    zall_c (zs_geti X (pc := 6) zc_X5 (by decide) (zin ui_X5) (.tail _ gw_1_238) (by decide +kernel) (by decide +kernel)) <|
    zall_c (zs_icmp_ge X (pc := 9) (off := 25) (by decide +kernel) (by decide)) <|
    zall_c (zs_aload_n X (pc := 12) (q := 0) rfl (by decide +kernel)) <|
    zall_c (zs_getr X (pc := 13) zc_X5 (by decide) (zin ui_X5) (.tail _ gw_2_3) (by decide +kernel) (by decide +kernel)) <|
    zall_c (zs_iload_n X (pc := 16) (q := 3) rfl (by decide +kernel)) <|
    zall_c (zs_aaload X (pc := 17) (by decide) rfl (by decide +kernel)) <|
    zall_c (zs_geti X (pc := 18) zc_X4 (by decide) (zin ui_X4) (.tail _ gw_1_179) (by decide +kernel) (by decide +kernel)) <|
    zall_c (zs_iload_n X (pc := 21) (q := 1) rfl (by decide +kernel)) <|
    zall_c (zs_icmp_ne X (pc := 22) (off := 6) (by decide +kernel) (by decide)) <|
    zall_c (zs_iinc X (pc := 25) (by decide) (by decide +kernel)) <|
    zall_c (zs_iinc X (pc := 28) (by decide) (by decide +kernel)) <|
    zall_c (zs_goto X (pc := 31) (off := (-27)) (by decide +kernel) (by decide)) <|
    zall_c (zs_iload_n X (pc := 34) (q := 2) rfl (by decide +kernel)) <|
    zall_c (zs_iret X (pc := 35) rfl (by decide +kernel)) <|
    zall_n
theorem met_X5_countInState {l : Launch} (hl : l.stackTraces = false) {T : ZTf} (bd : zBd (cd_X5_countInState) 4 0 0 T) : zMet l yX5_countInState (Cond.code yX5_countInState cX5_countInState 4 (Option.some Jvm.ClassFile.FieldType.int) :: zG) rm_X5_countInState 0 0 T := zMet_of hl (by decide +kernel) rfl rfl rfl rfl (hs_X5_countInState hl) bd

abbrev rm_X5_countCompared : Room := { frames := 4, cells := 0, slots := 0, locals := 95 }
def cd_X5_countCompared (T0 : ZTf) (T1 : ZTf) : List (Nat × ZTr) := [(0, tIld 1 1), (1, tIld 2 2), (2, tIc_ne 7 5), (5, tC (zi 0) 6), (6, tRi (fun _ => True)), (7, tC (zi 0) 8), (8, tIst 4 10), (10, tC (zi 0) 11), (11, tIst 5 13), (13, tIld 5 15), (15, tAld 0 16), (16, tGetI 8 5 19), (19, tIc_ge 81 22), (22, tAld 0 23), (23, tGetR 8 7 26), (26, tIld 5 28), (28, tAal 31 29), (29, tIld 1 30), (30, tCall0 2 T0 (zRcv 7) 33), (33, tIst 6 35), (35, tAld 0 36), (36, tGetR 8 7 39), (39, tIld 5 41), (41, tAal 31 42), (42, tIld 2 43), (43, tCall0 2 T0 (zRcv 7) 46), (46, tIst 7 48), (48, tIld 6 50), (50, tC (zi (-1)) 51), (51, tIc_eq 75 54), (54, tIld 7 56), (56, tC (zi (-1)) 57), (57, tIc_eq 75 60), (60, tAld 0 61), (61, tIld 6 63), (63, tIld 7 65), (65, tCall0 3 T1 (zRcv 8) 68), (68, tIld 3 69), (69, tIc_ne 75 72), (72, tInc 4 1 75), (75, tInc 5 1 78), (78, tGo 13), (81, tIld 4 83), (83, tRi (fun _ => True))]
set_option maxRecDepth 100000 in
set_option maxHeartbeats 4000000 in
theorem hs_X5_countCompared {l : Launch} (hl : l.stackTraces = false) {T0 : ZTf} {T1 : ZTf} (h0 : zMet l yX4_resultBy (Cond.code yX4_resultBy cX4_resultBy 3 (Option.some Jvm.ClassFile.FieldType.int) :: zG) rm_X4_resultBy 0 0 T0) (h1 : zMet l yX5_agree (Cond.code yX5_agree cX5_agree 3 (Option.some Jvm.ClassFile.FieldType.boolean) :: zG) rm_X5_agree 0 0 T1) (p : Program) (e : Env) (s : State) (m : MethodId) (args : Array Value) (below : List Frame) (meth : Method) (c : Code) (D : va_G) (A : Nat → Prop) (a0 : Nat → Nat) (M0 : ZM) (K : ZRet) (KX : ZEx) (X : zCtx p l rm_X5_countCompared s m args meth c cX5_countCompared RX5 (Cond.code yX5_countCompared cX5_countCompared 8 (Option.some Jvm.ClassFile.FieldType.int) :: zG) 8 (Option.some Jvm.ClassFile.FieldType.int) D A a0 M0 0 0) (hnm : meth.name = yX5_countCompared.name) (hout : ∀ x ∈ c.exceptionTable.toList, False) : ∀ q ∈ cd_X5_countCompared T0 T1, zSd p l e rm_X5_countCompared s m args below meth c 8 D A a0 M0 K KX 0 0 q.1 q.2 :=
    zall_c (zs_iload_n X (pc := 0) (q := 1) rfl (by decide +kernel)) <|
    zall_c (zs_iload_n X (pc := 1) (q := 2) rfl (by decide +kernel)) <|
    zall_c (zs_icmp_ne X (pc := 2) (off := 5) (by decide +kernel) (by decide)) <|
    zall_c (zs_iconst X (pc := 5) (by decide) (by decide +kernel)) <|
    zall_c (zs_iret X (pc := 6) rfl (by decide +kernel)) <|
    zall_c (zs_iconst X (pc := 7) (by decide) (by decide +kernel)) <|
    zall_c (zs_istore X (pc := 8) (by decide) (by decide +kernel)) <|
    zall_c (zs_iconst X (pc := 10) (by decide) (by decide +kernel)) <|
    zall_c (zs_istore X (pc := 11) (by decide) (by decide +kernel)) <|
    zall_c (zs_iload X (pc := 13) (by decide +kernel)) <|
    zall_c (zs_aload_n X (pc := 15) (q := 0) rfl (by decide +kernel)) <|
    zall_c (zs_geti X (pc := 16) zc_X5 (by decide) (zin ui_X5) (.tail _ gw_1_238) (by decide +kernel) (by decide +kernel)) <|
    zall_c (zs_icmp_ge X (pc := 19) (off := 62) (by decide +kernel) (by decide)) <|
    zall_c (zs_aload_n X (pc := 22) (q := 0) rfl (by decide +kernel)) <|
    zall_c (zs_getr X (pc := 23) zc_X5 (by decide) (zin ui_X5) (.tail _ gw_2_3) (by decide +kernel) (by decide +kernel)) <|
    zall_c (zs_iload X (pc := 26) (by decide +kernel)) <|
    zall_c (zs_aaload X (pc := 28) (by decide) rfl (by decide +kernel)) <|
    zall_c (zs_iload_n X (pc := 29) (q := 1) rfl (by decide +kernel)) <|
    zall_c (zs_callV0 X (pc := 30) zc_X4 (fun _ ht => ⟨(zCB ht gw_6_100 gw_1_10 gw_6_97 rfl rfl (by decide +kernel) ⟨Nat.le_of_ble_eq_true rfl, Nat.le_of_ble_eq_true rfl⟩), ht _ (.tail _ gw_6_98), ht _ (.tail _ gw_6_99)⟩) h0 hout (by decide +kernel)) <|
    zall_c (zs_istore X (pc := 33) (by decide) (by decide +kernel)) <|
    zall_c (zs_aload_n X (pc := 35) (q := 0) rfl (by decide +kernel)) <|
    zall_c (zs_getr X (pc := 36) zc_X5 (by decide) (zin ui_X5) (.tail _ gw_2_3) (by decide +kernel) (by decide +kernel)) <|
    zall_c (zs_iload X (pc := 39) (by decide +kernel)) <|
    zall_c (zs_aaload X (pc := 41) (by decide) rfl (by decide +kernel)) <|
    zall_c (zs_iload_n X (pc := 42) (q := 2) rfl (by decide +kernel)) <|
    zall_c (zs_callV0 X (pc := 43) zc_X4 (fun _ ht => ⟨(zCB ht gw_6_100 gw_1_10 gw_6_97 rfl rfl (by decide +kernel) ⟨Nat.le_of_ble_eq_true rfl, Nat.le_of_ble_eq_true rfl⟩), ht _ (.tail _ gw_6_98), ht _ (.tail _ gw_6_99)⟩) h0 hout (by decide +kernel)) <|
    zall_c (zs_istore X (pc := 46) (by decide) (by decide +kernel)) <|
    zall_c (zs_iload X (pc := 48) (by decide +kernel)) <|
    zall_c (zs_iconst X (pc := 50) (by decide) (by decide +kernel)) <|
    zall_c (zs_icmp_eq X (pc := 51) (off := 24) (by decide +kernel) (by decide)) <|
    zall_c (zs_iload X (pc := 54) (by decide +kernel)) <|
    zall_c (zs_iconst X (pc := 56) (by decide) (by decide +kernel)) <|
    zall_c (zs_icmp_eq X (pc := 57) (off := 18) (by decide +kernel) (by decide)) <|
    zall_c (zs_aload_n X (pc := 60) (q := 0) rfl (by decide +kernel)) <|
    zall_c (zs_iload X (pc := 61) (by decide +kernel)) <|
    zall_c (zs_iload X (pc := 63) (by decide +kernel)) <|
    zall_c (zs_callV0 X (pc := 65) zc_X5 (fun _ ht => ⟨(zCB ht gw_6_109 gw_1_8 gw_6_106 rfl rfl (by decide +kernel) ⟨Nat.le_of_ble_eq_true rfl, Nat.le_of_ble_eq_true rfl⟩), ht _ (.tail _ gw_6_107), ht _ (.tail _ gw_6_108)⟩) h1 hout (by decide +kernel)) <|
    zall_c (zs_iload_n X (pc := 68) (q := 3) rfl (by decide +kernel)) <|
    zall_c (zs_icmp_ne X (pc := 69) (off := 6) (by decide +kernel) (by decide)) <|
    zall_c (zs_iinc X (pc := 72) (by decide) (by decide +kernel)) <|
    zall_c (zs_iinc X (pc := 75) (by decide) (by decide +kernel)) <|
    zall_c (zs_goto X (pc := 78) (off := (-65)) (by decide +kernel) (by decide)) <|
    zall_c (zs_iload X (pc := 81) (by decide +kernel)) <|
    zall_c (zs_iret X (pc := 83) rfl (by decide +kernel)) <|
    zall_n
theorem met_X5_countCompared {l : Launch} (hl : l.stackTraces = false) {T0 : ZTf} {T1 : ZTf} (h0 : zMet l yX4_resultBy (Cond.code yX4_resultBy cX4_resultBy 3 (Option.some Jvm.ClassFile.FieldType.int) :: zG) rm_X4_resultBy 0 0 T0) (h1 : zMet l yX5_agree (Cond.code yX5_agree cX5_agree 3 (Option.some Jvm.ClassFile.FieldType.boolean) :: zG) rm_X5_agree 0 0 T1) {T : ZTf} (bd : zBd (cd_X5_countCompared T0 T1) 8 0 0 T) : zMet l yX5_countCompared (Cond.code yX5_countCompared cX5_countCompared 8 (Option.some Jvm.ClassFile.FieldType.int) :: zG) rm_X5_countCompared 0 0 T := zMet_of hl (by decide +kernel) rfl rfl rfl rfl (hs_X5_countCompared hl h0 h1) bd

abbrev rm_X5_clashWith : Room := { frames := 3, cells := 0, slots := 0, locals := 74 }
def cd_X5_clashWith (T0 : ZTf) (T1 : ZTf) : List (Nat × ZTr) := [(0, tAld 2 1), (1, tGetI 7 5 4), (4, tC (zi 1) 5), (5, tIld 1 6), (6, tBif zshl 7), (7, tBif zand 8), (8, tIf_eq 13 11), (11, tC (zi 4) 12), (12, tRi (fun _ => True)), (13, tC (zi 0) 14), (14, tIst 3 15), (15, tC (zi 0) 16), (16, tIst 4 18), (18, tIld 4 20), (20, tAld 2 21), (21, tGetI 7 8 24), (24, tIc_ge 78 27), (27, tAld 2 28), (28, tIld 4 30), (30, tCall0 2 T0 (zRcv 7) 33), (33, tIst 5 35), (35, tAld 0 36), (36, tGetR 8 6 39), (39, tIld 5 41), (41, tAal 30 42), (42, tGetI 10 1 45), (45, tAld 0 46), (46, tGetR 8 6 49), (49, tIld 1 50), (50, tAal 30 51), (51, tGetI 10 1 54), (54, tIc_ne 59 57), (57, tC (zi 5) 58), (58, tRi (fun _ => True)), (59, tAld 0 60), (60, tIld 1 61), (61, tIld 5 63), (63, tCall0 3 T1 (zRcv 8) 66), (66, tIf_eq 72 69), (69, tC (zi 6) 71), (71, tIst 3 72), (72, tInc 4 1 75), (75, tGo 18), (78, tIld 3 79), (79, tRi (fun _ => True))]
set_option maxRecDepth 100000 in
set_option maxHeartbeats 4000000 in
theorem hs_X5_clashWith {l : Launch} (hl : l.stackTraces = false) {T0 : ZTf} {T1 : ZTf} (h0 : zMet l yX4_workerAt (Cond.code yX4_workerAt cX4_workerAt 2 (Option.some Jvm.ClassFile.FieldType.int) :: zG) rm_X4_workerAt 0 0 T0) (h1 : zMet l yX5_areKeptApart (Cond.code yX5_areKeptApart cX5_areKeptApart 4 (Option.some Jvm.ClassFile.FieldType.boolean) :: zG) rm_X5_areKeptApart 0 0 T1) (p : Program) (e : Env) (s : State) (m : MethodId) (args : Array Value) (below : List Frame) (meth : Method) (c : Code) (D : va_G) (A : Nat → Prop) (a0 : Nat → Nat) (M0 : ZM) (K : ZRet) (KX : ZEx) (X : zCtx p l rm_X5_clashWith s m args meth c cX5_clashWith RX5 (Cond.code yX5_clashWith cX5_clashWith 6 (Option.some Jvm.ClassFile.FieldType.int) :: zG) 6 (Option.some Jvm.ClassFile.FieldType.int) D A a0 M0 0 0) (hnm : meth.name = yX5_clashWith.name) (hout : ∀ x ∈ c.exceptionTable.toList, False) : ∀ q ∈ cd_X5_clashWith T0 T1, zSd p l e rm_X5_clashWith s m args below meth c 6 D A a0 M0 K KX 0 0 q.1 q.2 :=
    zall_c (zs_aload_n X (pc := 0) (q := 2) rfl (by decide +kernel)) <|
    zall_c (zs_geti X (pc := 1) zc_X4 (by decide) (zin ui_X4) (.tail _ gw_1_191) (by decide +kernel) (by decide +kernel)) <|
    zall_c (zs_iconst X (pc := 4) (by decide) (by decide +kernel)) <|
    zall_c (zs_iload_n X (pc := 5) (q := 1) rfl (by decide +kernel)) <|
    zall_c (zs_ishl X (pc := 6) (by decide +kernel)) <|
    zall_c (zs_iand X (pc := 7) (by decide +kernel)) <|
    zall_c (zs_if_eq X (pc := 8) (off := 5) (by decide +kernel) (by decide)) <|
    zall_c (zs_iconst X (pc := 11) (by decide) (by decide +kernel)) <|
    zall_c (zs_iret X (pc := 12) rfl (by decide +kernel)) <|
    zall_c (zs_iconst X (pc := 13) (by decide) (by decide +kernel)) <|
    zall_c (zs_istore_n X (pc := 14) (q := 3) rfl (by decide) (by decide +kernel)) <|
    zall_c (zs_iconst X (pc := 15) (by decide) (by decide +kernel)) <|
    zall_c (zs_istore X (pc := 16) (by decide) (by decide +kernel)) <|
    zall_c (zs_iload X (pc := 18) (by decide +kernel)) <|
    zall_c (zs_aload_n X (pc := 20) (q := 2) rfl (by decide +kernel)) <|
    zall_c (zs_geti X (pc := 21) zc_X4 (by decide) (zin ui_X4) (.tail _ gw_1_201) (by decide +kernel) (by decide +kernel)) <|
    zall_c (zs_icmp_ge X (pc := 24) (off := 54) (by decide +kernel) (by decide)) <|
    zall_c (zs_aload_n X (pc := 27) (q := 2) rfl (by decide +kernel)) <|
    zall_c (zs_iload X (pc := 28) (by decide +kernel)) <|
    zall_c (zs_callV0 X (pc := 30) zc_X4 (fun _ ht => ⟨(zCB ht gw_5_37 gw_1_10 gw_5_34 rfl rfl (by decide +kernel) ⟨Nat.le_of_ble_eq_true rfl, Nat.le_of_ble_eq_true rfl⟩), ht _ (.tail _ gw_5_35), ht _ (.tail _ gw_5_36)⟩) h0 hout (by decide +kernel)) <|
    zall_c (zs_istore X (pc := 33) (by decide) (by decide +kernel)) <|
    zall_c (zs_aload_n X (pc := 35) (q := 0) rfl (by decide +kernel)) <|
    zall_c (zs_getr X (pc := 36) zc_X5 (by decide) (zin ui_X5) (.tail _ gw_2_0) (by decide +kernel) (by decide +kernel)) <|
    zall_c (zs_iload X (pc := 39) (by decide +kernel)) <|
    zall_c (zs_aaload X (pc := 41) (by decide) rfl (by decide +kernel)) <|
    zall_c (zs_geti X (pc := 42) zc_X7 (by decide) (zin ui_X7) (.tail _ gw_1_121) (by decide +kernel) (by decide +kernel)) <|
    zall_c (zs_aload_n X (pc := 45) (q := 0) rfl (by decide +kernel)) <|
    zall_c (zs_getr X (pc := 46) zc_X5 (by decide) (zin ui_X5) (.tail _ gw_2_0) (by decide +kernel) (by decide +kernel)) <|
    zall_c (zs_iload_n X (pc := 49) (q := 1) rfl (by decide +kernel)) <|
    zall_c (zs_aaload X (pc := 50) (by decide) rfl (by decide +kernel)) <|
    zall_c (zs_geti X (pc := 51) zc_X7 (by decide) (zin ui_X7) (.tail _ gw_1_121) (by decide +kernel) (by decide +kernel)) <|
    zall_c (zs_icmp_ne X (pc := 54) (off := 5) (by decide +kernel) (by decide)) <|
    zall_c (zs_iconst X (pc := 57) (by decide) (by decide +kernel)) <|
    zall_c (zs_iret X (pc := 58) rfl (by decide +kernel)) <|
    zall_c (zs_aload_n X (pc := 59) (q := 0) rfl (by decide +kernel)) <|
    zall_c (zs_iload_n X (pc := 60) (q := 1) rfl (by decide +kernel)) <|
    zall_c (zs_iload X (pc := 61) (by decide +kernel)) <|
    zall_c (zs_callV0 X (pc := 63) zc_X5 (fun _ ht => ⟨(zCB ht gw_4_200 gw_1_8 gw_5_38 rfl rfl (by decide +kernel) ⟨Nat.le_of_ble_eq_true rfl, Nat.le_of_ble_eq_true rfl⟩), ht _ (.tail _ gw_4_198), ht _ (.tail _ gw_4_199)⟩) h1 hout (by decide +kernel)) <|
    zall_c (zs_if_eq X (pc := 66) (off := 6) (by decide +kernel) (by decide)) <|
    zall_c (zs_bipush X (pc := 69) (by decide) (by decide +kernel) (by decide +kernel)) <|
    zall_c (zs_istore_n X (pc := 71) (q := 3) rfl (by decide) (by decide +kernel)) <|
    zall_c (zs_iinc X (pc := 72) (by decide) (by decide +kernel)) <|
    zall_c (zs_goto X (pc := 75) (off := (-57)) (by decide +kernel) (by decide)) <|
    zall_c (zs_iload_n X (pc := 78) (q := 3) rfl (by decide +kernel)) <|
    zall_c (zs_iret X (pc := 79) rfl (by decide +kernel)) <|
    zall_n
theorem met_X5_clashWith {l : Launch} (hl : l.stackTraces = false) {T0 : ZTf} {T1 : ZTf} (h0 : zMet l yX4_workerAt (Cond.code yX4_workerAt cX4_workerAt 2 (Option.some Jvm.ClassFile.FieldType.int) :: zG) rm_X4_workerAt 0 0 T0) (h1 : zMet l yX5_areKeptApart (Cond.code yX5_areKeptApart cX5_areKeptApart 4 (Option.some Jvm.ClassFile.FieldType.boolean) :: zG) rm_X5_areKeptApart 0 0 T1) {T : ZTf} (bd : zBd (cd_X5_clashWith T0 T1) 6 0 0 T) : zMet l yX5_clashWith (Cond.code yX5_clashWith cX5_clashWith 6 (Option.some Jvm.ClassFile.FieldType.int) :: zG) rm_X5_clashWith 0 0 T := zMet_of hl (by decide +kernel) rfl rfl rfl rfl (hs_X5_clashWith hl h0 h1) bd

abbrev rm_X5_urgency : Room := { frames := 1, cells := 0, slots := 0, locals := 30 }
def cd_X5_urgency : List (Nat × ZTr) := [(0, tAld 0 1), (1, tGetI 7 1 4), (4, tC (zi 1) 5), (5, tIc_ne 10 8), (8, tC (zi 2) 9), (9, tRi (fun _ => True)), (10, tAld 0 11), (11, tGetI 7 8 14), (14, tIf_le 21 17), (17, tC (zi 1) 18), (18, tGo 22), (21, tC (zi 0) 22), (22, tRi (fun _ => True))]
set_option maxRecDepth 100000 in
set_option maxHeartbeats 4000000 in
theorem hs_X5_urgency {l : Launch} (hl : l.stackTraces = false) (p : Program) (e : Env) (s : State) (m : MethodId) (args : Array Value) (below : List Frame) (meth : Method) (c : Code) (D : va_G) (A : Nat → Prop) (a0 : Nat → Nat) (M0 : ZM) (K : ZRet) (KX : ZEx) (X : zCtx p l rm_X5_urgency s m args meth c cX5_urgency RX5 (Cond.code yX5_urgency cX5_urgency 1 (Option.some Jvm.ClassFile.FieldType.int) :: zG) 1 (Option.some Jvm.ClassFile.FieldType.int) D A a0 M0 0 0) (hnm : meth.name = yX5_urgency.name) (hout : ∀ x ∈ c.exceptionTable.toList, False) : ∀ q ∈ cd_X5_urgency, zSd p l e rm_X5_urgency s m args below meth c 1 D A a0 M0 K KX 0 0 q.1 q.2 :=
    zall_c (zs_aload_n X (pc := 0) (q := 0) rfl (by decide +kernel)) <|
    zall_c (zs_geti X (pc := 1) zc_X4 (by decide) (zin ui_X4) (.tail _ gw_1_179) (by decide +kernel) (by decide +kernel)) <|
    zall_c (zs_iconst X (pc := 4) (by decide) (by decide +kernel)) <|
    zall_c (zs_icmp_ne X (pc := 5) (off := 5) (by decide +kernel) (by decide)) <|
    zall_c (zs_iconst X (pc := 8) (by decide) (by decide +kernel)) <|
    zall_c (zs_iret X (pc := 9) rfl (by decide +kernel)) <|
    zall_c (zs_aload_n X (pc := 10) (q := 0) rfl (by decide +kernel)) <|
    zall_c (zs_geti X (pc := 11) zc_X4 (by decide) (zin ui_X4) (.tail _ gw_1_201) (by decide +kernel) (by decide +kernel)) <|
    zall_c (zs_if_le X (pc := 14) (off := 7) (by decide +kernel) (by decide)) <|
    zall_c (zs_iconst X (pc := 17) (by decide) (by decide +kernel)) <|
    zall_c (zs_goto X (pc := 18) (off := 4) (by decide +kernel) (by decide)) <|
    zall_c (zs_iconst X (pc := 21) (by decide) (by decide +kernel)) <|
    zall_c (zs_iret X (pc := 22) rfl (by decide +kernel)) <|
    zall_n
theorem met_X5_urgency {l : Launch} (hl : l.stackTraces = false) {T : ZTf} (bd : zBd (cd_X5_urgency) 1 0 0 T) : zMet l yX5_urgency (Cond.code yX5_urgency cX5_urgency 1 (Option.some Jvm.ClassFile.FieldType.int) :: zG) rm_X5_urgency 0 0 T := zMet_of hl (by decide +kernel) rfl rfl rfl rfl (hs_X5_urgency hl) bd

abbrev rm_X5_hasNobodyFor : Room := { frames := 4, cells := 0, slots := 0, locals := 99 }
def cd_X5_hasNobodyFor (T0 : ZTf) (T1 : ZTf) : List (Nat × ZTr) := [(0, tAld 0 1), (1, tGetR 8 7 4), (4, tIld 1 5), (5, tAal 31 6), (6, tCall0 1 T0 (zRcv 7) 9), (9, tIf_ne 14 12), (12, tC (zi 0) 13), (13, tRi zPz), (14, tC (zi 0) 15), (15, tIst 2 16), (16, tIld 2 17), (17, tAld 0 18), (18, tGetI 8 4 21), (21, tIc_ge 46 24), (24, tAld 0 25), (25, tIld 2 26), (26, tAld 0 27), (27, tGetR 8 7 30), (30, tIld 1 31), (31, tAal 31 32), (32, tCall0 3 T1 (zRcv 8) 35), (35, tIf_ne 40 38), (38, tC (zi 0) 39), (39, tRi zPz), (40, tInc 2 1 43), (43, tGo 16), (46, tC (zi 1) 47), (47, tRi zPz)]
set_option maxRecDepth 100000 in
set_option maxHeartbeats 4000000 in
theorem hs_X5_hasNobodyFor {l : Launch} (hl : l.stackTraces = false) {T0 : ZTf} {T1 : ZTf} (h0 : zMet l yX4_missingWorkers (Cond.code yX4_missingWorkers cX4_missingWorkers 2 (Option.some Jvm.ClassFile.FieldType.int) :: zG) rm_X4_missingWorkers 0 0 T0) (h1 : zMet l yX5_clashWith (Cond.code yX5_clashWith cX5_clashWith 6 (Option.some Jvm.ClassFile.FieldType.int) :: zG) rm_X5_clashWith 0 0 T1) (p : Program) (e : Env) (s : State) (m : MethodId) (args : Array Value) (below : List Frame) (meth : Method) (c : Code) (D : va_G) (A : Nat → Prop) (a0 : Nat → Nat) (M0 : ZM) (K : ZRet) (KX : ZEx) (X : zCtx p l rm_X5_hasNobodyFor s m args meth c cX5_hasNobodyFor RX5 (Cond.code yX5_hasNobodyFor cX5_hasNobodyFor 3 (Option.some Jvm.ClassFile.FieldType.boolean) :: zG) 3 (Option.some Jvm.ClassFile.FieldType.boolean) D A a0 M0 0 0) (hnm : meth.name = yX5_hasNobodyFor.name) (hout : ∀ x ∈ c.exceptionTable.toList, False) : ∀ q ∈ cd_X5_hasNobodyFor T0 T1, zSd p l e rm_X5_hasNobodyFor s m args below meth c 3 D A a0 M0 K KX 0 0 q.1 q.2 :=
    zall_c (zs_aload_n X (pc := 0) (q := 0) rfl (by decide +kernel)) <|
    zall_c (zs_getr X (pc := 1) zc_X5 (by decide) (zin ui_X5) (.tail _ gw_2_3) (by decide +kernel) (by decide +kernel)) <|
    zall_c (zs_iload_n X (pc := 4) (q := 1) rfl (by decide +kernel)) <|
    zall_c (zs_aaload X (pc := 5) (by decide) rfl (by decide +kernel)) <|
    zall_c (zs_callV0 X (pc := 6) zc_X4 (fun _ ht => ⟨(zCB ht gw_5_24 gw_1_10 gw_5_21 rfl rfl (by decide +kernel) ⟨Nat.le_of_ble_eq_true rfl, Nat.le_of_ble_eq_true rfl⟩), ht _ (.tail _ gw_5_22), ht _ (.tail _ gw_5_23)⟩) h0 hout (by decide +kernel)) <|
    zall_c (zs_if_ne X (pc := 9) (off := 5) (by decide +kernel) (by decide)) <|
    zall_c (zs_iconst X (pc := 12) (by decide) (by decide +kernel)) <|
    zall_c (zs_zret X (pc := 13) rfl zR_bool (by decide +kernel)) <|
    zall_c (zs_iconst X (pc := 14) (by decide) (by decide +kernel)) <|
    zall_c (zs_istore_n X (pc := 15) (q := 2) rfl (by decide) (by decide +kernel)) <|
    zall_c (zs_iload_n X (pc := 16) (q := 2) rfl (by decide +kernel)) <|
    zall_c (zs_aload_n X (pc := 17) (q := 0) rfl (by decide +kernel)) <|
    zall_c (zs_geti X (pc := 18) zc_X5 (by decide) (zin ui_X5) (.tail _ gw_1_235) (by decide +kernel) (by decide +kernel)) <|
    zall_c (zs_icmp_ge X (pc := 21) (off := 25) (by decide +kernel) (by decide)) <|
    zall_c (zs_aload_n X (pc := 24) (q := 0) rfl (by decide +kernel)) <|
    zall_c (zs_iload_n X (pc := 25) (q := 2) rfl (by decide +kernel)) <|
    zall_c (zs_aload_n X (pc := 26) (q := 0) rfl (by decide +kernel)) <|
    zall_c (zs_getr X (pc := 27) zc_X5 (by decide) (zin ui_X5) (.tail _ gw_2_3) (by decide +kernel) (by decide +kernel)) <|
    zall_c (zs_iload_n X (pc := 30) (q := 1) rfl (by decide +kernel)) <|
    zall_c (zs_aaload X (pc := 31) (by decide) rfl (by decide +kernel)) <|
    zall_c (zs_callV0 X (pc := 32) zc_X5 (fun _ ht => ⟨(zCB ht gw_5_33 gw_1_8 gw_5_30 rfl rfl (by decide +kernel) ⟨Nat.le_of_ble_eq_true rfl, Nat.le_of_ble_eq_true rfl⟩), ht _ (.tail _ gw_5_31), ht _ (.tail _ gw_5_32)⟩) h1 hout (by decide +kernel)) <|
    zall_c (zs_if_ne X (pc := 35) (off := 5) (by decide +kernel) (by decide)) <|
    zall_c (zs_iconst X (pc := 38) (by decide) (by decide +kernel)) <|
    zall_c (zs_zret X (pc := 39) rfl zR_bool (by decide +kernel)) <|
    zall_c (zs_iinc X (pc := 40) (by decide) (by decide +kernel)) <|
    zall_c (zs_goto X (pc := 43) (off := (-27)) (by decide +kernel) (by decide)) <|
    zall_c (zs_iconst X (pc := 46) (by decide) (by decide +kernel)) <|
    zall_c (zs_zret X (pc := 47) rfl zR_bool (by decide +kernel)) <|
    zall_n
theorem met_X5_hasNobodyFor {l : Launch} (hl : l.stackTraces = false) {T0 : ZTf} {T1 : ZTf} (h0 : zMet l yX4_missingWorkers (Cond.code yX4_missingWorkers cX4_missingWorkers 2 (Option.some Jvm.ClassFile.FieldType.int) :: zG) rm_X4_missingWorkers 0 0 T0) (h1 : zMet l yX5_clashWith (Cond.code yX5_clashWith cX5_clashWith 6 (Option.some Jvm.ClassFile.FieldType.int) :: zG) rm_X5_clashWith 0 0 T1) {T : ZTf} (bd : zBd (cd_X5_hasNobodyFor T0 T1) 3 0 0 T) : zMet l yX5_hasNobodyFor (Cond.code yX5_hasNobodyFor cX5_hasNobodyFor 3 (Option.some Jvm.ClassFile.FieldType.boolean) :: zG) rm_X5_hasNobodyFor 0 0 T := zMet_of hl (by decide +kernel) rfl rfl rfl rfl (hs_X5_hasNobodyFor hl h0 h1) bd

abbrev rm_X5_mayBeginTogether : Room := { frames := 3, cells := 0, slots := 0, locals := 74 }
def cd_X5_mayBeginTogether (T0 : ZTf) : List (Nat × ZTr) := [(0, tAld 0 1), (1, tGetR 8 6 4), (4, tIld 1 5), (5, tAal 30 6), (6, tGetI 10 1 9), (9, tAld 0 10), (10, tGetR 8 6 13), (13, tIld 2 14), (14, tAal 30 15), (15, tGetI 10 1 18), (18, tIc_eq 34 21), (21, tAld 0 22), (22, tIld 1 23), (23, tIld 2 24), (24, tCall0 3 T0 (zRcv 8) 27), (27, tIf_ne 34 30), (30, tC (zi 1) 31), (31, tGo 35), (34, tC (zi 0) 35), (35, tRi zPz)]
set_option maxRecDepth 100000 in
set_option maxHeartbeats 4000000 in
theorem hs_X5_mayBeginTogether {l : Launch} (hl : l.stackTraces = false) {T0 : ZTf} (h0 : zMet l yX5_areKeptApart (Cond.code yX5_areKeptApart cX5_areKeptApart 4 (Option.some Jvm.ClassFile.FieldType.boolean) :: zG) rm_X5_areKeptApart 0 0 T0) (p : Program) (e : Env) (s : State) (m : MethodId) (args : Array Value) (below : List Frame) (meth : Method) (c : Code) (D : va_G) (A : Nat → Prop) (a0 : Nat → Nat) (M0 : ZM) (K : ZRet) (KX : ZEx) (X : zCtx p l rm_X5_mayBeginTogether s m args meth c cX5_mayBeginTogether RX5 (Cond.code yX5_mayBeginTogether cX5_mayBeginTogether 3 (Option.some Jvm.ClassFile.FieldType.boolean) :: zG) 3 (Option.some Jvm.ClassFile.FieldType.boolean) D A a0 M0 0 0) (hnm : meth.name = yX5_mayBeginTogether.name) (hout : ∀ x ∈ c.exceptionTable.toList, False) : ∀ q ∈ cd_X5_mayBeginTogether T0, zSd p l e rm_X5_mayBeginTogether s m args below meth c 3 D A a0 M0 K KX 0 0 q.1 q.2 :=
    zall_c (zs_aload_n X (pc := 0) (q := 0) rfl (by decide +kernel)) <|
    zall_c (zs_getr X (pc := 1) zc_X5 (by decide) (zin ui_X5) (.tail _ gw_2_0) (by decide +kernel) (by decide +kernel)) <|
    zall_c (zs_iload_n X (pc := 4) (q := 1) rfl (by decide +kernel)) <|
    zall_c (zs_aaload X (pc := 5) (by decide) rfl (by decide +kernel)) <|
    zall_c (zs_geti X (pc := 6) zc_X7 (by decide) (zin ui_X7) (.tail _ gw_1_121) (by decide +kernel) (by decide +kernel)) <|
    zall_c (zs_aload_n X (pc := 9) (q := 0) rfl (by decide +kernel)) <|
    zall_c (zs_getr X (pc := 10) zc_X5 (by decide) (zin ui_X5) (.tail _ gw_2_0) (by decide +kernel) (by decide +kernel)) <|
    zall_c (zs_iload_n X (pc := 13) (q := 2) rfl (by decide +kernel)) <|
    zall_c (zs_aaload X (pc := 14) (by decide) rfl (by decide +kernel)) <|
    zall_c (zs_geti X (pc := 15) zc_X7 (by decide) (zin ui_X7) (.tail _ gw_1_121) (by decide +kernel) (by decide +kernel)) <|
    zall_c (zs_icmp_eq X (pc := 18) (off := 16) (by decide +kernel) (by decide)) <|
    zall_c (zs_aload_n X (pc := 21) (q := 0) rfl (by decide +kernel)) <|
    zall_c (zs_iload_n X (pc := 22) (q := 1) rfl (by decide +kernel)) <|
    zall_c (zs_iload_n X (pc := 23) (q := 2) rfl (by decide +kernel)) <|
    zall_c (zs_callV0 X (pc := 24) zc_X5 (fun _ ht => ⟨(zCB ht gw_4_200 gw_1_8 gw_5_38 rfl rfl (by decide +kernel) ⟨Nat.le_of_ble_eq_true rfl, Nat.le_of_ble_eq_true rfl⟩), ht _ (.tail _ gw_4_198), ht _ (.tail _ gw_4_199)⟩) h0 hout (by decide +kernel)) <|
    zall_c (zs_if_ne X (pc := 27) (off := 7) (by decide +kernel) (by decide)) <|
    zall_c (zs_iconst X (pc := 30) (by decide) (by decide +kernel)) <|
    zall_c (zs_goto X (pc := 31) (off := 4) (by decide +kernel) (by decide)) <|
    zall_c (zs_iconst X (pc := 34) (by decide) (by decide +kernel)) <|
    zall_c (zs_zret X (pc := 35) rfl zR_bool (by decide +kernel)) <|
    zall_n
theorem met_X5_mayBeginTogether {l : Launch} (hl : l.stackTraces = false) {T0 : ZTf} (h0 : zMet l yX5_areKeptApart (Cond.code yX5_areKeptApart cX5_areKeptApart 4 (Option.some Jvm.ClassFile.FieldType.boolean) :: zG) rm_X5_areKeptApart 0 0 T0) {T : ZTf} (bd : zBd (cd_X5_mayBeginTogether T0) 3 0 0 T) : zMet l yX5_mayBeginTogether (Cond.code yX5_mayBeginTogether cX5_mayBeginTogether 3 (Option.some Jvm.ClassFile.FieldType.boolean) :: zG) rm_X5_mayBeginTogether 0 0 T := zMet_of hl (by decide +kernel) rfl rfl rfl rfl (hs_X5_mayBeginTogether hl h0) bd

abbrev rm_X5_enterResult : Room := { frames := 2, cells := 0, slots := 0, locals := 52 }
def cd_X5_enterResult (T0 : ZTf) (T1 : ZTf) : List (Nat × ZTr) := [(0, tAld 0 1), (1, tGetR 8 6 4), (4, tAld 0 5), (5, tGetR 8 7 8), (8, tIld 1 9), (9, tAal 31 10), (10, tIld 2 11), (11, tCall0 2 T0 (zRcv 7) 14), (14, tAal 30 15), (15, tAst 4 17), (17, tAld 4 19), (19, tDup 20), (20, tGetI 10 4 23), (23, tC (zi 1) 24), (24, tSub 25), (25, tPutI 10 4 (fun _ => True) 28), (28, tAld 4 30), (30, tDup 31), (31, tGetI 10 6 34), (34, tC (zi 1) 35), (35, tAdd 36), (36, tPutI 10 6 (fun _ => True) 39), (39, tAld 0 40), (40, tGetR 8 7 43), (43, tIld 1 44), (44, tAal 31 45), (45, tIld 2 46), (46, tIld 3 47), (47, tCall0 3 T1 (zRcv 7) 50), (50, tRv)]
set_option maxRecDepth 100000 in
set_option maxHeartbeats 4000000 in
theorem hs_X5_enterResult {l : Launch} (hl : l.stackTraces = false) {T0 : ZTf} {T1 : ZTf} (h0 : zMet l yX4_workerAt (Cond.code yX4_workerAt cX4_workerAt 2 (Option.some Jvm.ClassFile.FieldType.int) :: zG) rm_X4_workerAt 0 0 T0) (h1 : zMet l yX4_enterResult (Cond.code yX4_enterResult cX4_enterResult 3 (Option.none : Option Jvm.ClassFile.FieldType) :: zG) rm_X4_enterResult 0 0 T1) (p : Program) (e : Env) (s : State) (m : MethodId) (args : Array Value) (below : List Frame) (meth : Method) (c : Code) (D : va_G) (A : Nat → Prop) (a0 : Nat → Nat) (M0 : ZM) (K : ZRet) (KX : ZEx) (X : zCtx p l rm_X5_enterResult s m args meth c cX5_enterResult RX5 (Cond.code yX5_enterResult cX5_enterResult 5 (Option.none : Option Jvm.ClassFile.FieldType) :: zG) 5 (Option.none : Option Jvm.ClassFile.FieldType) D A a0 M0 0 0) (hnm : meth.name = yX5_enterResult.name) (hout : ∀ x ∈ c.exceptionTable.toList, False) : ∀ q ∈ cd_X5_enterResult T0 T1, zSd p l e rm_X5_enterResult s m args below meth c 5 D A a0 M0 K KX 0 0 q.1 q.2 :=
    zall_c (zs_aload_n X (pc := 0) (q := 0) rfl (by decide +kernel)) <|
    zall_c (zs_getr X (pc := 1) zc_X5 (by decide) (zin ui_X5) (.tail _ gw_2_0) (by decide +kernel) (by decide +kernel)) <|
    zall_c (zs_aload_n X (pc := 4) (q := 0) rfl (by decide +kernel)) <|
    zall_c (zs_getr X (pc := 5) zc_X5 (by decide) (zin ui_X5) (.tail _ gw_2_3) (by decide +kernel) (by decide +kernel)) <|
    zall_c (zs_iload_n X (pc := 8) (q := 1) rfl (by decide +kernel)) <|
    zall_c (zs_aaload X (pc := 9) (by decide) rfl (by decide +kernel)) <|
    zall_c (zs_iload_n X (pc := 10) (q := 2) rfl (by decide +kernel)) <|
    zall_c (zs_callV0 X (pc := 11) zc_X4 (fun _ ht => ⟨(zCB ht gw_5_37 gw_1_10 gw_5_34 rfl rfl (by decide +kernel) ⟨Nat.le_of_ble_eq_true rfl, Nat.le_of_ble_eq_true rfl⟩), ht _ (.tail _ gw_5_35), ht _ (.tail _ gw_5_36)⟩) h0 hout (by decide +kernel)) <|
    zall_c (zs_aaload X (pc := 14) (by decide) rfl (by decide +kernel)) <|
    zall_c (zs_astore X (pc := 15) (by decide) (by decide +kernel)) <|
    zall_c (zs_aload X (pc := 17) (by decide +kernel)) <|
    zall_c (zs_dup X (pc := 19) (by decide +kernel)) <|
    zall_c (zs_geti X (pc := 20) zc_X7 (by decide) (zin ui_X7) (.tail _ gw_1_131) (by decide +kernel) (by decide +kernel)) <|
    zall_c (zs_iconst X (pc := 23) (by decide) (by decide +kernel)) <|
    zall_c (zs_isub X (pc := 24) (by decide +kernel)) <|
    zall_c (zs_puti X (pc := 25) (ty := Jvm.ClassFile.FieldType.int) zc_X7 (by decide) (zin ui_X7) tyX7_ok nmX7 (.tail _ gw_1_131) rfl (by decide +kernel) (by decide +kernel) (by decide +kernel) zP_int) <|
    zall_c (zs_aload X (pc := 28) (by decide +kernel)) <|
    zall_c (zs_dup X (pc := 30) (by decide +kernel)) <|
    zall_c (zs_geti X (pc := 31) zc_X7 (by decide) (zin ui_X7) (.tail _ gw_1_137) (by decide +kernel) (by decide +kernel)) <|
    zall_c (zs_iconst X (pc := 34) (by decide) (by decide +kernel)) <|
    zall_c (zs_iadd X (pc := 35) (by decide +kernel)) <|
    zall_c (zs_puti X (pc := 36) (ty := Jvm.ClassFile.FieldType.int) zc_X7 (by decide) (zin ui_X7) tyX7_ok nmX7 (.tail _ gw_1_137) rfl (by decide +kernel) (by decide +kernel) (by decide +kernel) zP_int) <|
    zall_c (zs_aload_n X (pc := 39) (q := 0) rfl (by decide +kernel)) <|
    zall_c (zs_getr X (pc := 40) zc_X5 (by decide) (zin ui_X5) (.tail _ gw_2_3) (by decide +kernel) (by decide +kernel)) <|
    zall_c (zs_iload_n X (pc := 43) (q := 1) rfl (by decide +kernel)) <|
    zall_c (zs_aaload X (pc := 44) (by decide) rfl (by decide +kernel)) <|
    zall_c (zs_iload_n X (pc := 45) (q := 2) rfl (by decide +kernel)) <|
    zall_c (zs_iload_n X (pc := 46) (q := 3) rfl (by decide +kernel)) <|
    zall_c (zs_callV0 X (pc := 47) zc_X4 (fun _ ht => ⟨(zCB ht gw_7_28 gw_1_10 gw_7_25 rfl rfl (by decide +kernel) ⟨Nat.le_of_ble_eq_true rfl, Nat.le_of_ble_eq_true rfl⟩), ht _ (.tail _ gw_7_26), ht _ (.tail _ gw_7_27)⟩) h1 hout (by decide +kernel)) <|
    zall_c (zs_vret X (pc := 50) rfl (by decide +kernel)) <|
    zall_n
theorem met_X5_enterResult {l : Launch} (hl : l.stackTraces = false) {T0 : ZTf} {T1 : ZTf} (h0 : zMet l yX4_workerAt (Cond.code yX4_workerAt cX4_workerAt 2 (Option.some Jvm.ClassFile.FieldType.int) :: zG) rm_X4_workerAt 0 0 T0) (h1 : zMet l yX4_enterResult (Cond.code yX4_enterResult cX4_enterResult 3 (Option.none : Option Jvm.ClassFile.FieldType) :: zG) rm_X4_enterResult 0 0 T1) {T : ZTf} (bd : zBd (cd_X5_enterResult T0 T1) 5 0 0 T) : zMet l yX5_enterResult (Cond.code yX5_enterResult cX5_enterResult 5 (Option.none : Option Jvm.ClassFile.FieldType) :: zG) rm_X5_enterResult 0 0 T := zMet_of hl (by decide +kernel) rfl rfl rfl rfl (hs_X5_enterResult hl h0 h1) bd

abbrev rm_X5_reward : Room := { frames := 1, cells := 0, slots := 0, locals := 30 }
def cd_X5_reward : List (Nat × ZTr) := [(0, tAld 0 1), (1, tGetR 8 6 4), (4, tIld 1 5), (5, tAal 30 6), (6, tDup 7), (7, tGetI 10 7 10), (10, tC (zi 1) 11), (11, tAdd 12), (12, tPutI 10 7 (fun _ => True) 15), (15, tAld 0 16), (16, tGetR 8 6 19), (19, tIld 1 20), (20, tAal 30 21), (21, tDup 22), (22, tGetI 10 9 25), (25, tIld 2 26), (26, tAdd 27), (27, tPutI 10 9 (fun _ => True) 30), (30, tRv)]
set_option maxRecDepth 100000 in
set_option maxHeartbeats 4000000 in
theorem hs_X5_reward {l : Launch} (hl : l.stackTraces = false) (p : Program) (e : Env) (s : State) (m : MethodId) (args : Array Value) (below : List Frame) (meth : Method) (c : Code) (D : va_G) (A : Nat → Prop) (a0 : Nat → Nat) (M0 : ZM) (K : ZRet) (KX : ZEx) (X : zCtx p l rm_X5_reward s m args meth c cX5_reward RX5 (Cond.code yX5_reward cX5_reward 3 (Option.none : Option Jvm.ClassFile.FieldType) :: zG) 3 (Option.none : Option Jvm.ClassFile.FieldType) D A a0 M0 0 0) (hnm : meth.name = yX5_reward.name) (hout : ∀ x ∈ c.exceptionTable.toList, False) : ∀ q ∈ cd_X5_reward, zSd p l e rm_X5_reward s m args below meth c 3 D A a0 M0 K KX 0 0 q.1 q.2 :=
    zall_c (zs_aload_n X (pc := 0) (q := 0) rfl (by decide +kernel)) <|
    zall_c (zs_getr X (pc := 1) zc_X5 (by decide) (zin ui_X5) (.tail _ gw_2_0) (by decide +kernel) (by decide +kernel)) <|
    zall_c (zs_iload_n X (pc := 4) (q := 1) rfl (by decide +kernel)) <|
    zall_c (zs_aaload X (pc := 5) (by decide) rfl (by decide +kernel)) <|
    zall_c (zs_dup X (pc := 6) (by decide +kernel)) <|
    zall_c (zs_geti X (pc := 7) zc_X7 (by decide) (zin ui_X7) (.tail _ gw_1_140) (by decide +kernel) (by decide +kernel)) <|
    zall_c (zs_iconst X (pc := 10) (by decide) (by decide +kernel)) <|
    zall_c (zs_iadd X (pc := 11) (by decide +kernel)) <|
    zall_c (zs_puti X (pc := 12) (ty := Jvm.ClassFile.FieldType.int) zc_X7 (by decide) (zin ui_X7) tyX7_ok nmX7 (.tail _ gw_1_140) rfl (by decide +kernel) (by decide +kernel) (by decide +kernel) zP_int) <|
    zall_c (zs_aload_n X (pc := 15) (q := 0) rfl (by decide +kernel)) <|
    zall_c (zs_getr X (pc := 16) zc_X5 (by decide) (zin ui_X5) (.tail _ gw_2_0) (by decide +kernel) (by decide +kernel)) <|
    zall_c (zs_iload_n X (pc := 19) (q := 1) rfl (by decide +kernel)) <|
    zall_c (zs_aaload X (pc := 20) (by decide) rfl (by decide +kernel)) <|
    zall_c (zs_dup X (pc := 21) (by decide +kernel)) <|
    zall_c (zs_geti X (pc := 22) zc_X7 (by decide) (zin ui_X7) (.tail _ gw_1_146) (by decide +kernel) (by decide +kernel)) <|
    zall_c (zs_iload_n X (pc := 25) (q := 2) rfl (by decide +kernel)) <|
    zall_c (zs_iadd X (pc := 26) (by decide +kernel)) <|
    zall_c (zs_puti X (pc := 27) (ty := Jvm.ClassFile.FieldType.int) zc_X7 (by decide) (zin ui_X7) tyX7_ok nmX7 (.tail _ gw_1_146) rfl (by decide +kernel) (by decide +kernel) (by decide +kernel) zP_int) <|
    zall_c (zs_vret X (pc := 30) rfl (by decide +kernel)) <|
    zall_n
theorem met_X5_reward {l : Launch} (hl : l.stackTraces = false) {T : ZTf} (bd : zBd (cd_X5_reward) 3 0 0 T) : zMet l yX5_reward (Cond.code yX5_reward cX5_reward 3 (Option.none : Option Jvm.ClassFile.FieldType) :: zG) rm_X5_reward 0 0 T := zMet_of hl (by decide +kernel) rfl rfl rfl rfl (hs_X5_reward hl) bd

abbrev rm_X5_riskOf : Room := { frames := 1, cells := 0, slots := 0, locals := 30 }
def cd_X5_riskOf : List (Nat × ZTr) := [(0, tAld 1 1), (1, tGetI 7 1 4), (4, tC (zi 2) 5), (5, tIc_eq 10 8), (8, tC (zi (-1)) 9), (9, tRi (fun _ => True)), (10, tAld 0 11), (11, tGetR 8 6 14), (14, tAld 1 15), (15, tGetI 7 6 18), (18, tAal 30 19), (19, tGetI 10 3 22), (22, tAld 0 23), (23, tGetR 8 6 26), (26, tAld 1 27), (27, tGetI 7 7 30), (30, tAal 30 31), (31, tGetI 10 3 34), (34, tMth2 zmin 37), (37, tRi (fun _ => True))]
set_option maxRecDepth 100000 in
set_option maxHeartbeats 4000000 in
theorem hs_X5_riskOf {l : Launch} (hl : l.stackTraces = false) (p : Program) (e : Env) (s : State) (m : MethodId) (args : Array Value) (below : List Frame) (meth : Method) (c : Code) (D : va_G) (A : Nat → Prop) (a0 : Nat → Nat) (M0 : ZM) (K : ZRet) (KX : ZEx) (X : zCtx p l rm_X5_riskOf s m args meth c cX5_riskOf RX5 (Cond.code yX5_riskOf cX5_riskOf 2 (Option.some Jvm.ClassFile.FieldType.int) :: zG) 2 (Option.some Jvm.ClassFile.FieldType.int) D A a0 M0 0 0) (hnm : meth.name = yX5_riskOf.name) (hout : ∀ x ∈ c.exceptionTable.toList, False) : ∀ q ∈ cd_X5_riskOf, zSd p l e rm_X5_riskOf s m args below meth c 2 D A a0 M0 K KX 0 0 q.1 q.2 :=
    zall_c (zs_aload_n X (pc := 0) (q := 1) rfl (by decide +kernel)) <|
    zall_c (zs_geti X (pc := 1) zc_X4 (by decide) (zin ui_X4) (.tail _ gw_1_179) (by decide +kernel) (by decide +kernel)) <|
    zall_c (zs_iconst X (pc := 4) (by decide) (by decide +kernel)) <|
    zall_c (zs_icmp_eq X (pc := 5) (off := 5) (by decide +kernel) (by decide)) <|
    zall_c (zs_iconst X (pc := 8) (by decide) (by decide +kernel)) <|
    zall_c (zs_iret X (pc := 9) rfl (by decide +kernel)) <|
    zall_c (zs_aload_n X (pc := 10) (q := 0) rfl (by decide +kernel)) <|
    zall_c (zs_getr X (pc := 11) zc_X5 (by decide) (zin ui_X5) (.tail _ gw_2_0) (by decide +kernel) (by decide +kernel)) <|
    zall_c (zs_aload_n X (pc := 14) (q := 1) rfl (by decide +kernel)) <|
    zall_c (zs_geti X (pc := 15) zc_X4 (by decide) (zin ui_X4) (.tail _ gw_1_194) (by decide +kernel) (by decide +kernel)) <|
    zall_c (zs_aaload X (pc := 18) (by decide) rfl (by decide +kernel)) <|
    zall_c (zs_geti X (pc := 19) zc_X7 (by decide) (zin ui_X7) (.tail _ gw_1_128) (by decide +kernel) (by decide +kernel)) <|
    zall_c (zs_aload_n X (pc := 22) (q := 0) rfl (by decide +kernel)) <|
    zall_c (zs_getr X (pc := 23) zc_X5 (by decide) (zin ui_X5) (.tail _ gw_2_0) (by decide +kernel) (by decide +kernel)) <|
    zall_c (zs_aload_n X (pc := 26) (q := 1) rfl (by decide +kernel)) <|
    zall_c (zs_geti X (pc := 27) zc_X4 (by decide) (zin ui_X4) (.tail _ gw_1_197) (by decide +kernel) (by decide +kernel)) <|
    zall_c (zs_aaload X (pc := 30) (by decide) rfl (by decide +kernel)) <|
    zall_c (zs_geti X (pc := 31) zc_X7 (by decide) (zin ui_X7) (.tail _ gw_1_128) (by decide +kernel) (by decide +kernel)) <|
    zall_c (zs_mmin X (pc := 34) (.tail _ gw_5_45) (.tail _ gw_3_110) (.tail _ gw_1_27) (.tail _ gw_3_111) (Nat.le_of_ble_eq_true rfl) (Nat.le_of_ble_eq_true rfl) (by decide +kernel)) <|
    zall_c (zs_iret X (pc := 37) rfl (by decide +kernel)) <|
    zall_n
theorem met_X5_riskOf {l : Launch} (hl : l.stackTraces = false) {T : ZTf} (bd : zBd (cd_X5_riskOf) 2 0 0 T) : zMet l yX5_riskOf (Cond.code yX5_riskOf cX5_riskOf 2 (Option.some Jvm.ClassFile.FieldType.int) :: zG) rm_X5_riskOf 0 0 T := zMet_of hl (by decide +kernel) rfl rfl rfl rfl (hs_X5_riskOf hl) bd

abbrev rm_X5_isRiskier : Room := { frames := 2, cells := 0, slots := 0, locals := 51 }
def cd_X5_isRiskier (T0 : ZTf) : List (Nat × ZTr) := [(0, tAld 0 1), (1, tAld 1 2), (2, tCall0 2 T0 (zRcv 8) 5), (5, tAld 0 6), (6, tAld 2 7), (7, tCall0 2 T0 (zRcv 8) 10), (10, tSub 11), (11, tIst 3 12), (12, tIld 3 13), (13, tIf_lt 31 16), (16, tIld 3 17), (17, tIf_ne 35 20), (20, tAld 1 21), (21, tGetI 7 0 24), (24, tAld 2 25), (25, tGetI 7 0 28), (28, tIc_le 35 31), (31, tC (zi 1) 32), (32, tGo 36), (35, tC (zi 0) 36), (36, tRi zPz)]
set_option maxRecDepth 100000 in
set_option maxHeartbeats 4000000 in
theorem hs_X5_isRiskier {l : Launch} (hl : l.stackTraces = false) {T0 : ZTf} (h0 : zMet l yX5_riskOf (Cond.code yX5_riskOf cX5_riskOf 2 (Option.some Jvm.ClassFile.FieldType.int) :: zG) rm_X5_riskOf 0 0 T0) (p : Program) (e : Env) (s : State) (m : MethodId) (args : Array Value) (below : List Frame) (meth : Method) (c : Code) (D : va_G) (A : Nat → Prop) (a0 : Nat → Nat) (M0 : ZM) (K : ZRet) (KX : ZEx) (X : zCtx p l rm_X5_isRiskier s m args meth c cX5_isRiskier RX5 (Cond.code yX5_isRiskier cX5_isRiskier 4 (Option.some Jvm.ClassFile.FieldType.boolean) :: zG) 4 (Option.some Jvm.ClassFile.FieldType.boolean) D A a0 M0 0 0) (hnm : meth.name = yX5_isRiskier.name) (hout : ∀ x ∈ c.exceptionTable.toList, False) : ∀ q ∈ cd_X5_isRiskier T0, zSd p l e rm_X5_isRiskier s m args below meth c 4 D A a0 M0 K KX 0 0 q.1 q.2 :=
    zall_c (zs_aload_n X (pc := 0) (q := 0) rfl (by decide +kernel)) <|
    zall_c (zs_aload_n X (pc := 1) (q := 1) rfl (by decide +kernel)) <|
    zall_c (zs_callV0 X (pc := 2) zc_X5 (fun _ ht => ⟨(zCB ht gw_5_66 gw_1_8 gw_5_63 rfl rfl (by decide +kernel) ⟨Nat.le_of_ble_eq_true rfl, Nat.le_of_ble_eq_true rfl⟩), ht _ (.tail _ gw_5_64), ht _ (.tail _ gw_5_65)⟩) h0 hout (by decide +kernel)) <|
    zall_c (zs_aload_n X (pc := 5) (q := 0) rfl (by decide +kernel)) <|
    zall_c (zs_aload_n X (pc := 6) (q := 2) rfl (by decide +kernel)) <|
    zall_c (zs_callV0 X (pc := 7) zc_X5 (fun _ ht => ⟨(zCB ht gw_5_66 gw_1_8 gw_5_63 rfl rfl (by decide +kernel) ⟨Nat.le_of_ble_eq_true rfl, Nat.le_of_ble_eq_true rfl⟩), ht _ (.tail _ gw_5_64), ht _ (.tail _ gw_5_65)⟩) h0 hout (by decide +kernel)) <|
    zall_c (zs_isub X (pc := 10) (by decide +kernel)) <|
    zall_c (zs_istore_n X (pc := 11) (q := 3) rfl (by decide) (by decide +kernel)) <|
    zall_c (zs_iload_n X (pc := 12) (q := 3) rfl (by decide +kernel)) <|
    zall_c (zs_if_lt X (pc := 13) (off := 18) (by decide +kernel) (by decide)) <|
    zall_c (zs_iload_n X (pc := 16) (q := 3) rfl (by decide +kernel)) <|
    zall_c (zs_if_ne X (pc := 17) (off := 18) (by decide +kernel) (by decide)) <|
    zall_c (zs_aload_n X (pc := 20) (q := 1) rfl (by decide +kernel)) <|
    zall_c (zs_geti X (pc := 21) zc_X4 (by decide) (zin ui_X4) (.tail _ gw_1_175) (by decide +kernel) (by decide +kernel)) <|
    zall_c (zs_aload_n X (pc := 24) (q := 2) rfl (by decide +kernel)) <|
    zall_c (zs_geti X (pc := 25) zc_X4 (by decide) (zin ui_X4) (.tail _ gw_1_175) (by decide +kernel) (by decide +kernel)) <|
    zall_c (zs_icmp_le X (pc := 28) (off := 7) (by decide +kernel) (by decide)) <|
    zall_c (zs_iconst X (pc := 31) (by decide) (by decide +kernel)) <|
    zall_c (zs_goto X (pc := 32) (off := 4) (by decide +kernel) (by decide)) <|
    zall_c (zs_iconst X (pc := 35) (by decide) (by decide +kernel)) <|
    zall_c (zs_zret X (pc := 36) rfl zR_bool (by decide +kernel)) <|
    zall_n
theorem met_X5_isRiskier {l : Launch} (hl : l.stackTraces = false) {T0 : ZTf} (h0 : zMet l yX5_riskOf (Cond.code yX5_riskOf cX5_riskOf 2 (Option.some Jvm.ClassFile.FieldType.int) :: zG) rm_X5_riskOf 0 0 T0) {T : ZTf} (bd : zBd (cd_X5_isRiskier T0) 4 0 0 T) : zMet l yX5_isRiskier (Cond.code yX5_isRiskier cX5_isRiskier 4 (Option.some Jvm.ClassFile.FieldType.boolean) :: zG) rm_X5_isRiskier 0 0 T := zMet_of hl (by decide +kernel) rfl rfl rfl rfl (hs_X5_isRiskier hl h0) bd

abbrev rm_X6_init : Room := { frames := 1, cells := 3, slots := 9, locals := 30 }
def cd_X6_init : List (Nat × ZTr) := [(0, tAld 0 1), (1, tObj 4), (4, tAld 0 5), (5, tC (zi 3) 6), (6, tNewA 20 8), (8, tPutR 9 4 11), (11, tAld 0 12), (12, tC (zi 3) 13), (13, tNewA 20 15), (15, tPutR 9 5 18), (18, tAld 0 19), (19, tC (zi 3) 20), (20, tNewA 20 22), (22, tPutR 9 6 25), (25, tRv)]
set_option maxRecDepth 100000 in
set_option maxHeartbeats 4000000 in
theorem hs_X6_init {l : Launch} (hl : l.stackTraces = false) (p : Program) (e : Env) (s : State) (m : MethodId) (args : Array Value) (below : List Frame) (meth : Method) (c : Code) (D : va_G) (A : Nat → Prop) (a0 : Nat → Nat) (M0 : ZM) (K : ZRet) (KX : ZEx) (X : zCtx p l rm_X6_init s m args meth c cX6_init RX6 (Cond.code yX6_init cX6_init 1 (Option.none : Option Jvm.ClassFile.FieldType) :: zG) 1 (Option.none : Option Jvm.ClassFile.FieldType) D A a0 M0 3 9) (hnm : meth.name = yX6_init.name) (hout : ∀ x ∈ c.exceptionTable.toList, False) : ∀ q ∈ cd_X6_init, zSd p l e rm_X6_init s m args below meth c 1 D A a0 M0 K KX 3 9 q.1 q.2 :=
    zall_c (zs_aload_n X (pc := 0) (q := 0) rfl (by decide +kernel)) <|
    zall_c (zs_objinit X (pc := 1) (.tail _ gw_2_88) (.tail _ gw_1_39) (.tail _ gw_1_40) (by decide) (by decide) (by decide +kernel)) <|
    zall_c (zs_aload_n X (pc := 4) (q := 0) rfl (by decide +kernel)) <|
    zall_c (zs_iconst X (pc := 5) (by decide) (by decide +kernel)) <|
    zall_c (zs_newarray20 X (pc := 6) (.tail _ gw_1_85) (by decide +kernel)) <|
    zall_c (zs_putrF X (pc := 8) (ty := (Jvm.ClassFile.FieldType.array Jvm.ClassFile.FieldType.int)) zc_X6 (by decide) (zin ui_X6) tyX6_ok nmX6 (.tail _ gw_2_98) rfl hnm rfl (by decide +kernel) (by decide +kernel) (by decide +kernel) zP_arr) <|
    zall_c (zs_aload_n X (pc := 11) (q := 0) rfl (by decide +kernel)) <|
    zall_c (zs_iconst X (pc := 12) (by decide) (by decide +kernel)) <|
    zall_c (zs_newarray20 X (pc := 13) (.tail _ gw_1_85) (by decide +kernel)) <|
    zall_c (zs_putrF X (pc := 15) (ty := (Jvm.ClassFile.FieldType.array Jvm.ClassFile.FieldType.int)) zc_X6 (by decide) (zin ui_X6) tyX6_ok nmX6 (.tail _ gw_2_101) rfl hnm rfl (by decide +kernel) (by decide +kernel) (by decide +kernel) zP_arr) <|
    zall_c (zs_aload_n X (pc := 18) (q := 0) rfl (by decide +kernel)) <|
    zall_c (zs_iconst X (pc := 19) (by decide) (by decide +kernel)) <|
    zall_c (zs_newarray20 X (pc := 20) (.tail _ gw_1_85) (by decide +kernel)) <|
    zall_c (zs_putrF X (pc := 22) (ty := (Jvm.ClassFile.FieldType.array Jvm.ClassFile.FieldType.int)) zc_X6 (by decide) (zin ui_X6) tyX6_ok nmX6 (.tail _ gw_2_102) rfl hnm rfl (by decide +kernel) (by decide +kernel) (by decide +kernel) zP_arr) <|
    zall_c (zs_vret X (pc := 25) rfl (by decide +kernel)) <|
    zall_n
theorem met_X6_init {l : Launch} (hl : l.stackTraces = false) {T : ZTf} (bd : zBd (cd_X6_init) 1 3 9 T) : zMet l yX6_init (Cond.code yX6_init cX6_init 1 (Option.none : Option Jvm.ClassFile.FieldType) :: zG) rm_X6_init 3 9 T := zMet_of hl (by decide +kernel) rfl rfl rfl rfl (hs_X6_init hl) bd

abbrev rm_X6_finishBy : Room := { frames := 1, cells := 0, slots := 0, locals := 30 }
def cd_X6_finishBy : List (Nat × ZTr) := [(0, tAld 0 1), (1, tC (zi 2) 2), (2, tPutI 9 0 (fun _ => True) 5), (5, tAld 0 6), (6, tIld 1 7), (7, tPutI 9 2 (fun _ => True) 10), (10, tAld 0 11), (11, tIld 2 12), (12, tPutI 9 3 (fun _ => True) 15), (15, tAld 0 16), (16, tAld 0 17), (17, tGetR 9 6 20), (20, tIld 2 21), (21, tIal 20 22), (22, tAld 0 23), (23, tGetR 9 6 26), (26, tIld 1 27), (27, tIal 20 28), (28, tIc_le 40 31), (31, tAld 0 32), (32, tGetR 9 5 35), (35, tIld 2 36), (36, tIal 20 37), (37, tGo 46), (40, tAld 0 41), (41, tGetR 9 5 44), (44, tIld 1 45), (45, tIal 20 46), (46, tPutI 9 1 (fun _ => True) 49), (49, tAld 0 50), (50, tGetR 9 4 53), (53, tIld 1 54), (54, tC (zi 1) 55), (55, tIas 20 (fun _ => True) 56), (56, tAld 0 57), (57, tGetR 9 4 60), (60, tIld 2 61), (61, tC (zi 1) 62), (62, tIas 20 (fun _ => True) 63), (63, tRv)]
set_option maxRecDepth 100000 in
set_option maxHeartbeats 4000000 in
theorem hs_X6_finishBy {l : Launch} (hl : l.stackTraces = false) (p : Program) (e : Env) (s : State) (m : MethodId) (args : Array Value) (below : List Frame) (meth : Method) (c : Code) (D : va_G) (A : Nat → Prop) (a0 : Nat → Nat) (M0 : ZM) (K : ZRet) (KX : ZEx) (X : zCtx p l rm_X6_finishBy s m args meth c cX6_finishBy RX6 (Cond.code yX6_finishBy cX6_finishBy 3 (Option.none : Option Jvm.ClassFile.FieldType) :: zG) 3 (Option.none : Option Jvm.ClassFile.FieldType) D A a0 M0 0 0) (hnm : meth.name = yX6_finishBy.name) (hout : ∀ x ∈ c.exceptionTable.toList, False) : ∀ q ∈ cd_X6_finishBy, zSd p l e rm_X6_finishBy s m args below meth c 3 D A a0 M0 K KX 0 0 q.1 q.2 :=
    zall_c (zs_aload_n X (pc := 0) (q := 0) rfl (by decide +kernel)) <|
    zall_c (zs_iconst X (pc := 1) (by decide) (by decide +kernel)) <|
    zall_c (zs_puti X (pc := 2) (ty := Jvm.ClassFile.FieldType.int) zc_X6 (by decide) (zin ui_X6) tyX6_ok nmX6 (.tail _ gw_2_89) rfl (by decide +kernel) (by decide +kernel) (by decide +kernel) zP_int) <|
    zall_c (zs_aload_n X (pc := 5) (q := 0) rfl (by decide +kernel)) <|
    zall_c (zs_iload_n X (pc := 6) (q := 1) rfl (by decide +kernel)) <|
    zall_c (zs_puti X (pc := 7) (ty := Jvm.ClassFile.FieldType.int) zc_X6 (by decide) (zin ui_X6) tyX6_ok nmX6 (.tail _ gw_2_94) rfl (by decide +kernel) (by decide +kernel) (by decide +kernel) zP_int) <|
    zall_c (zs_aload_n X (pc := 10) (q := 0) rfl (by decide +kernel)) <|
    zall_c (zs_iload_n X (pc := 11) (q := 2) rfl (by decide +kernel)) <|
    zall_c (zs_puti X (pc := 12) (ty := Jvm.ClassFile.FieldType.int) zc_X6 (by decide) (zin ui_X6) tyX6_ok nmX6 (.tail _ gw_2_96) rfl (by decide +kernel) (by decide +kernel) (by decide +kernel) zP_int) <|
    zall_c (zs_aload_n X (pc := 15) (q := 0) rfl (by decide +kernel)) <|
    zall_c (zs_aload_n X (pc := 16) (q := 0) rfl (by decide +kernel)) <|
    zall_c (zs_getr X (pc := 17) zc_X6 (by decide) (zin ui_X6) (.tail _ gw_2_102) (by decide +kernel) (by decide +kernel)) <|
    zall_c (zs_iload_n X (pc := 20) (q := 2) rfl (by decide +kernel)) <|
    zall_c (zs_iaload20 X (pc := 21) (by decide +kernel)) <|
    zall_c (zs_aload_n X (pc := 22) (q := 0) rfl (by decide +kernel)) <|
    zall_c (zs_getr X (pc := 23) zc_X6 (by decide) (zin ui_X6) (.tail _ gw_2_102) (by decide +kernel) (by decide +kernel)) <|
    zall_c (zs_iload_n X (pc := 26) (q := 1) rfl (by decide +kernel)) <|
    zall_c (zs_iaload20 X (pc := 27) (by decide +kernel)) <|
    zall_c (zs_icmp_le X (pc := 28) (off := 12) (by decide +kernel) (by decide)) <|
    zall_c (zs_aload_n X (pc := 31) (q := 0) rfl (by decide +kernel)) <|
    zall_c (zs_getr X (pc := 32) zc_X6 (by decide) (zin ui_X6) (.tail _ gw_2_101) (by decide +kernel) (by decide +kernel)) <|
    zall_c (zs_iload_n X (pc := 35) (q := 2) rfl (by decide +kernel)) <|
    zall_c (zs_iaload20 X (pc := 36) (by decide +kernel)) <|
    zall_c (zs_goto X (pc := 37) (off := 9) (by decide +kernel) (by decide)) <|
    zall_c (zs_aload_n X (pc := 40) (q := 0) rfl (by decide +kernel)) <|
    zall_c (zs_getr X (pc := 41) zc_X6 (by decide) (zin ui_X6) (.tail _ gw_2_101) (by decide +kernel) (by decide +kernel)) <|
    zall_c (zs_iload_n X (pc := 44) (q := 1) rfl (by decide +kernel)) <|
    zall_c (zs_iaload20 X (pc := 45) (by decide +kernel)) <|
    zall_c (zs_puti X (pc := 46) (ty := Jvm.ClassFile.FieldType.int) zc_X6 (by decide) (zin ui_X6) tyX6_ok nmX6 (.tail _ gw_2_92) rfl (by decide +kernel) (by decide +kernel) (by decide +kernel) zP_int) <|
    zall_c (zs_aload_n X (pc := 49) (q := 0) rfl (by decide +kernel)) <|
    zall_c (zs_getr X (pc := 50) zc_X6 (by decide) (zin ui_X6) (.tail _ gw_2_98) (by decide +kernel) (by decide +kernel)) <|
    zall_c (zs_iload_n X (pc := 53) (q := 1) rfl (by decide +kernel)) <|
    zall_c (zs_iconst X (pc := 54) (by decide) (by decide +kernel)) <|
    zall_c (zs_iastore20 X (pc := 55) (by decide +kernel)) <|
    zall_c (zs_aload_n X (pc := 56) (q := 0) rfl (by decide +kernel)) <|
    zall_c (zs_getr X (pc := 57) zc_X6 (by decide) (zin ui_X6) (.tail _ gw_2_98) (by decide +kernel) (by decide +kernel)) <|
    zall_c (zs_iload_n X (pc := 60) (q := 2) rfl (by decide +kernel)) <|
    zall_c (zs_iconst X (pc := 61) (by decide) (by decide +kernel)) <|
    zall_c (zs_iastore20 X (pc := 62) (by decide +kernel)) <|
    zall_c (zs_vret X (pc := 63) rfl (by decide +kernel)) <|
    zall_n
theorem met_X6_finishBy {l : Launch} (hl : l.stackTraces = false) {T : ZTf} (bd : zBd (cd_X6_finishBy) 3 0 0 T) : zMet l yX6_finishBy (Cond.code yX6_finishBy cX6_finishBy 3 (Option.none : Option Jvm.ClassFile.FieldType) :: zG) rm_X6_finishBy 0 0 T := zMet_of hl (by decide +kernel) rfl rfl rfl rfl (hs_X6_finishBy hl) bd

abbrev rm_X7_init : Room := { frames := 1, cells := 0, slots := 0, locals := 30 }
def cd_X7_init : List (Nat × ZTr) := [(0, tAld 0 1), (1, tObj 4), (4, tAld 0 5), (5, tC (zo 57) 7), (7, tPutR 10 0 10), (10, tRv)]
set_option maxRecDepth 100000 in
set_option maxHeartbeats 4000000 in
theorem hs_X7_init {l : Launch} (hl : l.stackTraces = false) (p : Program) (e : Env) (s : State) (m : MethodId) (args : Array Value) (below : List Frame) (meth : Method) (c : Code) (D : va_G) (A : Nat → Prop) (a0 : Nat → Nat) (M0 : ZM) (K : ZRet) (KX : ZEx) (X : zCtx p l rm_X7_init s m args meth c cX7_init RX7 (Cond.code yX7_init cX7_init 1 (Option.none : Option Jvm.ClassFile.FieldType) :: zG) 1 (Option.none : Option Jvm.ClassFile.FieldType) D A a0 M0 0 0) (hnm : meth.name = yX7_init.name) (hout : ∀ x ∈ c.exceptionTable.toList, False) : ∀ q ∈ cd_X7_init, zSd p l e rm_X7_init s m args below meth c 1 D A a0 M0 K KX 0 0 q.1 q.2 :=
    zall_c (zs_aload_n X (pc := 0) (q := 0) rfl (by decide +kernel)) <|
    zall_c (zs_objinit X (pc := 1) (.tail _ gw_1_114) (.tail _ gw_1_39) (.tail _ gw_1_40) (by decide) (by decide) (by decide +kernel)) <|
    zall_c (zs_aload_n X (pc := 4) (q := 0) rfl (by decide +kernel)) <|
    zall_c (zs_ldcs X (pc := 5) (idx := 7) (tx := "") (by decide +kernel) (by decide +kernel)) <|
    zall_c (zs_putr X (pc := 7) (ty := (Jvm.ClassFile.FieldType.object "java/lang/String")) zc_X7 (by decide) (zin ui_X7) tyX7_ok nmX7 (.tail _ gw_1_116) rfl (by decide +kernel) (by decide +kernel) (by decide +kernel) zP_obj) <|
    zall_c (zs_vret X (pc := 10) rfl (by decide +kernel)) <|
    zall_n
theorem met_X7_init {l : Launch} (hl : l.stackTraces = false) {T : ZTf} (bd : zBd (cd_X7_init) 1 0 0 T) : zMet l yX7_init (Cond.code yX7_init cX7_init 1 (Option.none : Option Jvm.ClassFile.FieldType) :: zG) rm_X7_init 0 0 T := zMet_of hl (by decide +kernel) rfl rfl rfl rfl (hs_X7_init hl) bd

abbrev rm_X7_begin : Room := { frames := 1, cells := 0, slots := 0, locals := 30 }
def cd_X7_begin : List (Nat × ZTr) := [(0, tAld 0 1), (1, tAld 1 2), (2, tPutR 10 0 5), (5, tAld 0 6), (6, tIld 2 7), (7, tPutI 10 1 (fun _ => True) 10), (10, tAld 0 11), (11, tIld 3 12), (12, tPutI 10 2 (fun _ => True) 15), (15, tAld 0 16), (16, tIld 4 18), (18, tPutI 10 3 (fun _ => True) 21), (21, tAld 0 22), (22, tC (zi 0) 23), (23, tPutI 10 4 (fun _ => True) 26), (26, tAld 0 27), (27, tC (zi 0) 28), (28, tPutI 10 5 (fun _ => True) 31), (31, tAld 0 32), (32, tC (zi 0) 33), (33, tPutI 10 6 (fun _ => True) 36), (36, tAld 0 37), (37, tC (zi 0) 38), (38, tPutI 10 7 (fun _ => True) 41), (41, tAld 0 42), (42, tC (zi 0) 43), (43, tPutI 10 8 (fun _ => True) 46), (46, tAld 0 47), (47, tC (zi 0) 48), (48, tPutI 10 9 (fun _ => True) 51), (51, tRv)]
set_option maxRecDepth 100000 in
set_option maxHeartbeats 4000000 in
theorem hs_X7_begin {l : Launch} (hl : l.stackTraces = false) (p : Program) (e : Env) (s : State) (m : MethodId) (args : Array Value) (below : List Frame) (meth : Method) (c : Code) (D : va_G) (A : Nat → Prop) (a0 : Nat → Nat) (M0 : ZM) (K : ZRet) (KX : ZEx) (X : zCtx p l rm_X7_begin s m args meth c cX7_begin RX7 (Cond.code yX7_begin cX7_begin 5 (Option.none : Option Jvm.ClassFile.FieldType) :: zG) 5 (Option.none : Option Jvm.ClassFile.FieldType) D A a0 M0 0 0) (hnm : meth.name = yX7_begin.name) (hout : ∀ x ∈ c.exceptionTable.toList, False) : ∀ q ∈ cd_X7_begin, zSd p l e rm_X7_begin s m args below meth c 5 D A a0 M0 K KX 0 0 q.1 q.2 :=
    zall_c (zs_aload_n X (pc := 0) (q := 0) rfl (by decide +kernel)) <|
    zall_c (zs_aload_n X (pc := 1) (q := 1) rfl (by decide +kernel)) <|
    zall_c (zs_putr X (pc := 2) (ty := (Jvm.ClassFile.FieldType.object "java/lang/String")) zc_X7 (by decide) (zin ui_X7) tyX7_ok nmX7 (.tail _ gw_1_116) rfl (by decide +kernel) (by decide +kernel) (by decide +kernel) zP_obj) <|
    zall_c (zs_aload_n X (pc := 5) (q := 0) rfl (by decide +kernel)) <|
    zall_c (zs_iload_n X (pc := 6) (q := 2) rfl (by decide +kernel)) <|
    zall_c (zs_puti X (pc := 7) (ty := Jvm.ClassFile.FieldType.int) zc_X7 (by decide) (zin ui_X7) tyX7_ok nmX7 (.tail _ gw_1_119) rfl (by decide +kernel) (by decide +kernel) (by decide +kernel) zP_int) <|
    zall_c (zs_aload_n X (pc := 10) (q := 0) rfl (by decide +kernel)) <|
    zall_c (zs_iload_n X (pc := 11) (q := 3) rfl (by decide +kernel)) <|
    zall_c (zs_puti X (pc := 12) (ty := Jvm.ClassFile.FieldType.int) zc_X7 (by decide) (zin ui_X7) tyX7_ok nmX7 (.tail _ gw_1_122) rfl (by decide +kernel) (by decide +kernel) (by decide +kernel) zP_int) <|
    zall_c (zs_aload_n X (pc := 15) (q := 0) rfl (by decide +kernel)) <|
    zall_c (zs_iload X (pc := 16) (by decide +kernel)) <|
    zall_c (zs_puti X (pc := 18) (ty := Jvm.ClassFile.FieldType.int) zc_X7 (by decide) (zin ui_X7) tyX7_ok nmX7 (.tail _ gw_1_125) rfl (by decide +kernel) (by decide +kernel) (by decide +kernel) zP_int) <|
    zall_c (zs_aload_n X (pc := 21) (q := 0) rfl (by decide +kernel)) <|
    zall_c (zs_iconst X (pc := 22) (by decide) (by decide +kernel)) <|
    zall_c (zs_puti X (pc := 23) (ty := Jvm.ClassFile.FieldType.int) zc_X7 (by decide) (zin ui_X7) tyX7_ok nmX7 (.tail _ gw_1_129) rfl (by decide +kernel) (by decide +kernel) (by decide +kernel) zP_int) <|
    zall_c (zs_aload_n X (pc := 26) (q := 0) rfl (by decide +kernel)) <|
    zall_c (zs_iconst X (pc := 27) (by decide) (by decide +kernel)) <|
    zall_c (zs_puti X (pc := 28) (ty := Jvm.ClassFile.FieldType.int) zc_X7 (by decide) (zin ui_X7) tyX7_ok nmX7 (.tail _ gw_1_132) rfl (by decide +kernel) (by decide +kernel) (by decide +kernel) zP_int) <|
    zall_c (zs_aload_n X (pc := 31) (q := 0) rfl (by decide +kernel)) <|
    zall_c (zs_iconst X (pc := 32) (by decide) (by decide +kernel)) <|
    zall_c (zs_puti X (pc := 33) (ty := Jvm.ClassFile.FieldType.int) zc_X7 (by decide) (zin ui_X7) tyX7_ok nmX7 (.tail _ gw_1_135) rfl (by decide +kernel) (by decide +kernel) (by decide +kernel) zP_int) <|
    zall_c (zs_aload_n X (pc := 36) (q := 0) rfl (by decide +kernel)) <|
    zall_c (zs_iconst X (pc := 37) (by decide) (by decide +kernel)) <|
    zall_c (zs_puti X (pc := 38) (ty := Jvm.ClassFile.FieldType.int) zc_X7 (by decide) (zin ui_X7) tyX7_ok nmX7 (.tail _ gw_1_138) rfl (by decide +kernel) (by decide +kernel) (by decide +kernel) zP_int) <|
    zall_c (zs_aload_n X (pc := 41) (q := 0) rfl (by decide +kernel)) <|
    zall_c (zs_iconst X (pc := 42) (by decide) (by decide +kernel)) <|
    zall_c (zs_puti X (pc := 43) (ty := Jvm.ClassFile.FieldType.int) zc_X7 (by decide) (zin ui_X7) tyX7_ok nmX7 (.tail _ gw_1_141) rfl (by decide +kernel) (by decide +kernel) (by decide +kernel) zP_int) <|
    zall_c (zs_aload_n X (pc := 46) (q := 0) rfl (by decide +kernel)) <|
    zall_c (zs_iconst X (pc := 47) (by decide) (by decide +kernel)) <|
    zall_c (zs_puti X (pc := 48) (ty := Jvm.ClassFile.FieldType.int) zc_X7 (by decide) (zin ui_X7) tyX7_ok nmX7 (.tail _ gw_1_144) rfl (by decide +kernel) (by decide +kernel) (by decide +kernel) zP_int) <|
    zall_c (zs_vret X (pc := 51) rfl (by decide +kernel)) <|
    zall_n
theorem met_X7_begin {l : Launch} (hl : l.stackTraces = false) {T : ZTf} (bd : zBd (cd_X7_begin) 5 0 0 T) : zMet l yX7_begin (Cond.code yX7_begin cX7_begin 5 (Option.none : Option Jvm.ClassFile.FieldType) :: zG) rm_X7_begin 0 0 T := zMet_of hl (by decide +kernel) rfl rfl rfl rfl (hs_X7_begin hl) bd

abbrev rm_X7_copyFrom : Room := { frames := 1, cells := 0, slots := 0, locals := 30 }
def cd_X7_copyFrom : List (Nat × ZTr) := [(0, tAld 0 1), (1, tAld 1 2), (2, tGetR 10 0 5), (5, tPutR 10 0 8), (8, tAld 0 9), (9, tAld 1 10), (10, tGetI 10 1 13), (13, tPutI 10 1 (fun _ => True) 16), (16, tAld 0 17), (17, tAld 1 18), (18, tGetI 10 2 21), (21, tPutI 10 2 (fun _ => True) 24), (24, tAld 0 25), (25, tAld 1 26), (26, tGetI 10 3 29), (29, tPutI 10 3 (fun _ => True) 32), (32, tAld 0 33), (33, tAld 1 34), (34, tGetI 10 4 37), (37, tPutI 10 4 (fun _ => True) 40), (40, tAld 0 41), (41, tAld 1 42), (42, tGetI 10 5 45), (45, tPutI 10 5 (fun _ => True) 48), (48, tAld 0 49), (49, tAld 1 50), (50, tGetI 10 6 53), (53, tPutI 10 6 (fun _ => True) 56), (56, tAld 0 57), (57, tAld 1 58), (58, tGetI 10 7 61), (61, tPutI 10 7 (fun _ => True) 64), (64, tAld 0 65), (65, tAld 1 66), (66, tGetI 10 8 69), (69, tPutI 10 8 (fun _ => True) 72), (72, tAld 0 73), (73, tAld 1 74), (74, tGetI 10 9 77), (77, tPutI 10 9 (fun _ => True) 80), (80, tRv)]
set_option maxRecDepth 100000 in
set_option maxHeartbeats 4000000 in
theorem hs_X7_copyFrom {l : Launch} (hl : l.stackTraces = false) (p : Program) (e : Env) (s : State) (m : MethodId) (args : Array Value) (below : List Frame) (meth : Method) (c : Code) (D : va_G) (A : Nat → Prop) (a0 : Nat → Nat) (M0 : ZM) (K : ZRet) (KX : ZEx) (X : zCtx p l rm_X7_copyFrom s m args meth c cX7_copyFrom RX7 (Cond.code yX7_copyFrom cX7_copyFrom 2 (Option.none : Option Jvm.ClassFile.FieldType) :: zG) 2 (Option.none : Option Jvm.ClassFile.FieldType) D A a0 M0 0 0) (hnm : meth.name = yX7_copyFrom.name) (hout : ∀ x ∈ c.exceptionTable.toList, False) : ∀ q ∈ cd_X7_copyFrom, zSd p l e rm_X7_copyFrom s m args below meth c 2 D A a0 M0 K KX 0 0 q.1 q.2 :=
    zall_c (zs_aload_n X (pc := 0) (q := 0) rfl (by decide +kernel)) <|
    zall_c (zs_aload_n X (pc := 1) (q := 1) rfl (by decide +kernel)) <|
    zall_c (zs_getr X (pc := 2) zc_X7 (by decide) (zin ui_X7) (.tail _ gw_1_116) (by decide +kernel) (by decide +kernel)) <|
    zall_c (zs_putr X (pc := 5) (ty := (Jvm.ClassFile.FieldType.object "java/lang/String")) zc_X7 (by decide) (zin ui_X7) tyX7_ok nmX7 (.tail _ gw_1_116) rfl (by decide +kernel) (by decide +kernel) (by decide +kernel) zP_obj) <|
    zall_c (zs_aload_n X (pc := 8) (q := 0) rfl (by decide +kernel)) <|
    zall_c (zs_aload_n X (pc := 9) (q := 1) rfl (by decide +kernel)) <|
    zall_c (zs_geti X (pc := 10) zc_X7 (by decide) (zin ui_X7) (.tail _ gw_1_119) (by decide +kernel) (by decide +kernel)) <|
    zall_c (zs_puti X (pc := 13) (ty := Jvm.ClassFile.FieldType.int) zc_X7 (by decide) (zin ui_X7) tyX7_ok nmX7 (.tail _ gw_1_119) rfl (by decide +kernel) (by decide +kernel) (by decide +kernel) zP_int) <|
    zall_c (zs_aload_n X (pc := 16) (q := 0) rfl (by decide +kernel)) <|
    zall_c (zs_aload_n X (pc := 17) (q := 1) rfl (by decide +kernel)) <|
    zall_c (zs_geti X (pc := 18) zc_X7 (by decide) (zin ui_X7) (.tail _ gw_1_122) (by decide +kernel) (by decide +kernel)) <|
    zall_c (zs_puti X (pc := 21) (ty := Jvm.ClassFile.FieldType.int) zc_X7 (by decide) (zin ui_X7) tyX7_ok nmX7 (.tail _ gw_1_122) rfl (by decide +kernel) (by decide +kernel) (by decide +kernel) zP_int) <|
    zall_c (zs_aload_n X (pc := 24) (q := 0) rfl (by decide +kernel)) <|
    zall_c (zs_aload_n X (pc := 25) (q := 1) rfl (by decide +kernel)) <|
    zall_c (zs_geti X (pc := 26) zc_X7 (by decide) (zin ui_X7) (.tail _ gw_1_125) (by decide +kernel) (by decide +kernel)) <|
    zall_c (zs_puti X (pc := 29) (ty := Jvm.ClassFile.FieldType.int) zc_X7 (by decide) (zin ui_X7) tyX7_ok nmX7 (.tail _ gw_1_125) rfl (by decide +kernel) (by decide +kernel) (by decide +kernel) zP_int) <|
    zall_c (zs_aload_n X (pc := 32) (q := 0) rfl (by decide +kernel)) <|
    zall_c (zs_aload_n X (pc := 33) (q := 1) rfl (by decide +kernel)) <|
    zall_c (zs_geti X (pc := 34) zc_X7 (by decide) (zin ui_X7) (.tail _ gw_1_129) (by decide +kernel) (by decide +kernel)) <|
    zall_c (zs_puti X (pc := 37) (ty := Jvm.ClassFile.FieldType.int) zc_X7 (by decide) (zin ui_X7) tyX7_ok nmX7 (.tail _ gw_1_129) rfl (by decide +kernel) (by decide +kernel) (by decide +kernel) zP_int) <|
    zall_c (zs_aload_n X (pc := 40) (q := 0) rfl (by decide +kernel)) <|
    zall_c (zs_aload_n X (pc := 41) (q := 1) rfl (by decide +kernel)) <|
    zall_c (zs_geti X (pc := 42) zc_X7 (by decide) (zin ui_X7) (.tail _ gw_1_132) (by decide +kernel) (by decide +kernel)) <|
    zall_c (zs_puti X (pc := 45) (ty := Jvm.ClassFile.FieldType.int) zc_X7 (by decide) (zin ui_X7) tyX7_ok nmX7 (.tail _ gw_1_132) rfl (by decide +kernel) (by decide +kernel) (by decide +kernel) zP_int) <|
    zall_c (zs_aload_n X (pc := 48) (q := 0) rfl (by decide +kernel)) <|
    zall_c (zs_aload_n X (pc := 49) (q := 1) rfl (by decide +kernel)) <|
    zall_c (zs_geti X (pc := 50) zc_X7 (by decide) (zin ui_X7) (.tail _ gw_1_135) (by decide +kernel) (by decide +kernel)) <|
    zall_c (zs_puti X (pc := 53) (ty := Jvm.ClassFile.FieldType.int) zc_X7 (by decide) (zin ui_X7) tyX7_ok nmX7 (.tail _ gw_1_135) rfl (by decide +kernel) (by decide +kernel) (by decide +kernel) zP_int) <|
    zall_c (zs_aload_n X (pc := 56) (q := 0) rfl (by decide +kernel)) <|
    zall_c (zs_aload_n X (pc := 57) (q := 1) rfl (by decide +kernel)) <|
    zall_c (zs_geti X (pc := 58) zc_X7 (by decide) (zin ui_X7) (.tail _ gw_1_138) (by decide +kernel) (by decide +kernel)) <|
    zall_c (zs_puti X (pc := 61) (ty := Jvm.ClassFile.FieldType.int) zc_X7 (by decide) (zin ui_X7) tyX7_ok nmX7 (.tail _ gw_1_138) rfl (by decide +kernel) (by decide +kernel) (by decide +kernel) zP_int) <|
    zall_c (zs_aload_n X (pc := 64) (q := 0) rfl (by decide +kernel)) <|
    zall_c (zs_aload_n X (pc := 65) (q := 1) rfl (by decide +kernel)) <|
    zall_c (zs_geti X (pc := 66) zc_X7 (by decide) (zin ui_X7) (.tail _ gw_1_141) (by decide +kernel) (by decide +kernel)) <|
    zall_c (zs_puti X (pc := 69) (ty := Jvm.ClassFile.FieldType.int) zc_X7 (by decide) (zin ui_X7) tyX7_ok nmX7 (.tail _ gw_1_141) rfl (by decide +kernel) (by decide +kernel) (by decide +kernel) zP_int) <|
    zall_c (zs_aload_n X (pc := 72) (q := 0) rfl (by decide +kernel)) <|
    zall_c (zs_aload_n X (pc := 73) (q := 1) rfl (by decide +kernel)) <|
    zall_c (zs_geti X (pc := 74) zc_X7 (by decide) (zin ui_X7) (.tail _ gw_1_144) (by decide +kernel) (by decide +kernel)) <|
    zall_c (zs_puti X (pc := 77) (ty := Jvm.ClassFile.FieldType.int) zc_X7 (by decide) (zin ui_X7) tyX7_ok nmX7 (.tail _ gw_1_144) rfl (by decide +kernel) (by decide +kernel) (by decide +kernel) zP_int) <|
    zall_c (zs_vret X (pc := 80) rfl (by decide +kernel)) <|
    zall_n
theorem met_X7_copyFrom {l : Launch} (hl : l.stackTraces = false) {T : ZTf} (bd : zBd (cd_X7_copyFrom) 2 0 0 T) : zMet l yX7_copyFrom (Cond.code yX7_copyFrom cX7_copyFrom 2 (Option.none : Option Jvm.ClassFile.FieldType) :: zG) rm_X7_copyFrom 0 0 T := zMet_of hl (by decide +kernel) rfl rfl rfl rfl (hs_X7_copyFrom hl) bd

abbrev rm_X8_append : Room := { frames := 6, cells := 1, slots := 6, locals := 90 }
def cd_X8_append (T0 : ZTf) : List (Nat × ZTr) := [(0, tAld 0 1), (1, tGetR 11 1 4), (4, tGetI 5 1 7), (7, tC (zi 20) 9), (9, tAdd 10), (10, tC (zi 500) 13), (13, tIc_le 26 16), (16, tThr 2), (26, tAld 0 27), (27, tGetR 11 1 30), (30, tIld 1 31), (31, tCall0 2 T0 (zRcv 5) 34), (34, tAld 0 35), (35, tGetR 11 1 38), (38, tIld 2 39), (39, tCall0 2 T0 (zRcv 5) 42), (42, tAld 0 43), (43, tGetR 11 1 46), (46, tIld 3 47), (47, tCall0 2 T0 (zRcv 5) 50), (50, tAld 0 51), (51, tGetR 11 1 54), (54, tIld 4 56), (56, tCall0 2 T0 (zRcv 5) 59), (59, tAld 0 60), (60, tGetR 11 1 63), (63, tIld 5 65), (65, tCall0 2 T0 (zRcv 5) 68), (68, tAld 0 69), (69, tGetR 11 1 72), (72, tGetI 5 1 75), (75, tRi (fun _ => True))]
set_option maxRecDepth 100000 in
set_option maxHeartbeats 4000000 in
theorem hs_X8_append {l : Launch} (hl : l.stackTraces = false) {T0 : ZTf} (h0 : zMet l yX1_addFourBytes (Cond.code yX1_addFourBytes cX1_addFourBytes 3 (Option.none : Option Jvm.ClassFile.FieldType) :: zG) rm_X1_addFourBytes 0 0 T0) (p : Program) (e : Env) (s : State) (m : MethodId) (args : Array Value) (below : List Frame) (meth : Method) (c : Code) (D : va_G) (A : Nat → Prop) (a0 : Nat → Nat) (M0 : ZM) (K : ZRet) (KX : ZEx) (X : zCtx p l rm_X8_append s m args meth c cX8_append RX8 (Cond.code yX8_append cX8_append 6 (Option.some Jvm.ClassFile.FieldType.int) :: zG) 6 (Option.some Jvm.ClassFile.FieldType.int) D A a0 M0 1 6) (hnm : meth.name = yX8_append.name) (hout : ∀ x ∈ c.exceptionTable.toList, False) : ∀ q ∈ cd_X8_append T0, zSd p l e rm_X8_append s m args below meth c 6 D A a0 M0 K KX 1 6 q.1 q.2 :=
    zall_c (zs_aload_n X (pc := 0) (q := 0) rfl (by decide +kernel)) <|
    zall_c (zs_getr X (pc := 1) zc_X8 (by decide) (zin ui_X8) (.tail _ gw_2_122) (by decide +kernel) (by decide +kernel)) <|
    zall_c (zs_geti X (pc := 4) zc_X1 (by decide) (zin ui_X1) (.tail _ gw_1_90) (by decide +kernel) (by decide +kernel)) <|
    zall_c (zs_bipush X (pc := 7) (by decide) (by decide +kernel) (by decide +kernel)) <|
    zall_c (zs_iadd X (pc := 9) (by decide +kernel)) <|
    zall_c (zs_sipush X (pc := 10) (by decide) (by decide +kernel) (by decide +kernel)) <|
    zall_c (zs_icmp_le X (pc := 13) (off := 13) (by decide +kernel) (by decide)) <|
    zall_c (zs_throw X (pc := 16) (ik := 69) (is := 71) (ic := 73) (cls := "java/lang/IllegalStateException") (text := "the input buffer is full") (names := ["java/lang/RuntimeException", "java/lang/Exception"]) rfl (by decide +kernel) (by decide +kernel) (.tail _ gw_5_141) (.tail _ gw_1_17) (by decide +kernel) (zin gt_X8_73) gt_X8_73x (by decide +kernel) hout (by decide) (by decide) (by decide +kernel) (by decide +kernel) (by decide +kernel) (by decide +kernel) (by decide +kernel)) <|
    zall_c (zs_aload_n X (pc := 26) (q := 0) rfl (by decide +kernel)) <|
    zall_c (zs_getr X (pc := 27) zc_X8 (by decide) (zin ui_X8) (.tail _ gw_2_122) (by decide +kernel) (by decide +kernel)) <|
    zall_c (zs_iload_n X (pc := 30) (q := 1) rfl (by decide +kernel)) <|
    zall_c (zs_callV0 X (pc := 31) zc_X1 (fun _ ht => ⟨(zCB ht gw_5_160 gw_1_3 gw_5_157 rfl rfl (by decide +kernel) ⟨Nat.le_of_ble_eq_true rfl, Nat.le_of_ble_eq_true rfl⟩), ht _ (.tail _ gw_5_158), ht _ (.tail _ gw_5_159)⟩) h0 hout (by decide +kernel)) <|
    zall_c (zs_aload_n X (pc := 34) (q := 0) rfl (by decide +kernel)) <|
    zall_c (zs_getr X (pc := 35) zc_X8 (by decide) (zin ui_X8) (.tail _ gw_2_122) (by decide +kernel) (by decide +kernel)) <|
    zall_c (zs_iload_n X (pc := 38) (q := 2) rfl (by decide +kernel)) <|
    zall_c (zs_callV0 X (pc := 39) zc_X1 (fun _ ht => ⟨(zCB ht gw_5_160 gw_1_3 gw_5_157 rfl rfl (by decide +kernel) ⟨Nat.le_of_ble_eq_true rfl, Nat.le_of_ble_eq_true rfl⟩), ht _ (.tail _ gw_5_158), ht _ (.tail _ gw_5_159)⟩) h0 hout (by decide +kernel)) <|
    zall_c (zs_aload_n X (pc := 42) (q := 0) rfl (by decide +kernel)) <|
    zall_c (zs_getr X (pc := 43) zc_X8 (by decide) (zin ui_X8) (.tail _ gw_2_122) (by decide +kernel) (by decide +kernel)) <|
    zall_c (zs_iload_n X (pc := 46) (q := 3) rfl (by decide +kernel)) <|
    zall_c (zs_callV0 X (pc := 47) zc_X1 (fun _ ht => ⟨(zCB ht gw_5_160 gw_1_3 gw_5_157 rfl rfl (by decide +kernel) ⟨Nat.le_of_ble_eq_true rfl, Nat.le_of_ble_eq_true rfl⟩), ht _ (.tail _ gw_5_158), ht _ (.tail _ gw_5_159)⟩) h0 hout (by decide +kernel)) <|
    zall_c (zs_aload_n X (pc := 50) (q := 0) rfl (by decide +kernel)) <|
    zall_c (zs_getr X (pc := 51) zc_X8 (by decide) (zin ui_X8) (.tail _ gw_2_122) (by decide +kernel) (by decide +kernel)) <|
    zall_c (zs_iload X (pc := 54) (by decide +kernel)) <|
    zall_c (zs_callV0 X (pc := 56) zc_X1 (fun _ ht => ⟨(zCB ht gw_5_160 gw_1_3 gw_5_157 rfl rfl (by decide +kernel) ⟨Nat.le_of_ble_eq_true rfl, Nat.le_of_ble_eq_true rfl⟩), ht _ (.tail _ gw_5_158), ht _ (.tail _ gw_5_159)⟩) h0 hout (by decide +kernel)) <|
    zall_c (zs_aload_n X (pc := 59) (q := 0) rfl (by decide +kernel)) <|
    zall_c (zs_getr X (pc := 60) zc_X8 (by decide) (zin ui_X8) (.tail _ gw_2_122) (by decide +kernel) (by decide +kernel)) <|
    zall_c (zs_iload X (pc := 63) (by decide +kernel)) <|
    zall_c (zs_callV0 X (pc := 65) zc_X1 (fun _ ht => ⟨(zCB ht gw_5_160 gw_1_3 gw_5_157 rfl rfl (by decide +kernel) ⟨Nat.le_of_ble_eq_true rfl, Nat.le_of_ble_eq_true rfl⟩), ht _ (.tail _ gw_5_158), ht _ (.tail _ gw_5_159)⟩) h0 hout (by decide +kernel)) <|
    zall_c (zs_aload_n X (pc := 68) (q := 0) rfl (by decide +kernel)) <|
    zall_c (zs_getr X (pc := 69) zc_X8 (by decide) (zin ui_X8) (.tail _ gw_2_122) (by decide +kernel) (by decide +kernel)) <|
    zall_c (zs_geti X (pc := 72) zc_X1 (by decide) (zin ui_X1) (.tail _ gw_1_90) (by decide +kernel) (by decide +kernel)) <|
    zall_c (zs_iret X (pc := 75) rfl (by decide +kernel)) <|
    zall_n
theorem met_X8_append {l : Launch} (hl : l.stackTraces = false) {T0 : ZTf} (h0 : zMet l yX1_addFourBytes (Cond.code yX1_addFourBytes cX1_addFourBytes 3 (Option.none : Option Jvm.ClassFile.FieldType) :: zG) rm_X1_addFourBytes 0 0 T0) {T : ZTf} (bd : zBd (cd_X8_append T0) 6 1 6 T) : zMet l yX8_append (Cond.code yX8_append cX8_append 6 (Option.some Jvm.ClassFile.FieldType.int) :: zG) rm_X8_append 1 6 T := zMet_of hl (by decide +kernel) rfl rfl rfl rfl (hs_X8_append hl h0) bd

abbrev rm_X8_errorCode : Room := { frames := 1, cells := 0, slots := 0, locals := 30 }
def cd_X8_errorCode : List (Nat × ZTr) := [(0, tAld 0 1), (1, tGetI 11 8 4), (4, tRi (fun _ => True))]
set_option maxRecDepth 100000 in
set_option maxHeartbeats 4000000 in
theorem hs_X8_errorCode {l : Launch} (hl : l.stackTraces = false) (p : Program) (e : Env) (s : State) (m : MethodId) (args : Array Value) (below : List Frame) (meth : Method) (c : Code) (D : va_G) (A : Nat → Prop) (a0 : Nat → Nat) (M0 : ZM) (K : ZRet) (KX : ZEx) (X : zCtx p l rm_X8_errorCode s m args meth c cX8_errorCode RX8 (Cond.code yX8_errorCode cX8_errorCode 1 (Option.some Jvm.ClassFile.FieldType.int) :: zG) 1 (Option.some Jvm.ClassFile.FieldType.int) D A a0 M0 0 0) (hnm : meth.name = yX8_errorCode.name) (hout : ∀ x ∈ c.exceptionTable.toList, False) : ∀ q ∈ cd_X8_errorCode, zSd p l e rm_X8_errorCode s m args below meth c 1 D A a0 M0 K KX 0 0 q.1 q.2 :=
    zall_c (zs_aload_n X (pc := 0) (q := 0) rfl (by decide +kernel)) <|
    zall_c (zs_geti X (pc := 1) zc_X8 (by decide) (zin ui_X8) (.tail _ gw_2_129) (by decide +kernel) (by decide +kernel)) <|
    zall_c (zs_iret X (pc := 4) rfl (by decide +kernel)) <|
    zall_n
theorem met_X8_errorCode {l : Launch} (hl : l.stackTraces = false) {T : ZTf} (bd : zBd (cd_X8_errorCode) 1 0 0 T) : zMet l yX8_errorCode (Cond.code yX8_errorCode cX8_errorCode 1 (Option.some Jvm.ClassFile.FieldType.int) :: zG) rm_X8_errorCode 0 0 T := zMet_of hl (by decide +kernel) rfl rfl rfl rfl (hs_X8_errorCode hl) bd

abbrev rm_X8_errorPosition : Room := { frames := 1, cells := 0, slots := 0, locals := 30 }
def cd_X8_errorPosition : List (Nat × ZTr) := [(0, tAld 0 1), (1, tGetI 11 9 4), (4, tRi (fun _ => True))]
set_option maxRecDepth 100000 in
set_option maxHeartbeats 4000000 in
theorem hs_X8_errorPosition {l : Launch} (hl : l.stackTraces = false) (p : Program) (e : Env) (s : State) (m : MethodId) (args : Array Value) (below : List Frame) (meth : Method) (c : Code) (D : va_G) (A : Nat → Prop) (a0 : Nat → Nat) (M0 : ZM) (K : ZRet) (KX : ZEx) (X : zCtx p l rm_X8_errorPosition s m args meth c cX8_errorPosition RX8 (Cond.code yX8_errorPosition cX8_errorPosition 1 (Option.some Jvm.ClassFile.FieldType.int) :: zG) 1 (Option.some Jvm.ClassFile.FieldType.int) D A a0 M0 0 0) (hnm : meth.name = yX8_errorPosition.name) (hout : ∀ x ∈ c.exceptionTable.toList, False) : ∀ q ∈ cd_X8_errorPosition, zSd p l e rm_X8_errorPosition s m args below meth c 1 D A a0 M0 K KX 0 0 q.1 q.2 :=
    zall_c (zs_aload_n X (pc := 0) (q := 0) rfl (by decide +kernel)) <|
    zall_c (zs_geti X (pc := 1) zc_X8 (by decide) (zin ui_X8) (.tail _ gw_2_130) (by decide +kernel) (by decide +kernel)) <|
    zall_c (zs_iret X (pc := 4) rfl (by decide +kernel)) <|
    zall_n
theorem met_X8_errorPosition {l : Launch} (hl : l.stackTraces = false) {T : ZTf} (bd : zBd (cd_X8_errorPosition) 1 0 0 T) : zMet l yX8_errorPosition (Cond.code yX8_errorPosition cX8_errorPosition 1 (Option.some Jvm.ClassFile.FieldType.int) :: zG) rm_X8_errorPosition 0 0 T := zMet_of hl (by decide +kernel) rfl rfl rfl rfl (hs_X8_errorPosition hl) bd

abbrev rm_X8_meanTrust : Room := { frames := 1, cells := 0, slots := 0, locals := 30 }
def cd_X8_meanTrust : List (Nat × ZTr) := [(0, tC (zi 0) 1), (1, tIst 1 2), (2, tC (zi 0) 3), (3, tIst 2 4), (4, tIld 2 5), (5, tAld 0 6), (6, tGetR 11 2 9), (9, tGetI 8 4 12), (12, tIc_ge 36 15), (15, tIld 1 16), (16, tAld 0 17), (17, tGetR 11 2 20), (20, tGetR 8 6 23), (23, tIld 2 24), (24, tAal 30 25), (25, tGetI 10 3 28), (28, tAdd 29), (29, tIst 1 30), (30, tInc 2 1 33), (33, tGo 4), (36, tAld 0 37), (37, tGetR 11 2 40), (40, tGetI 8 4 43), (43, tIf_ne 50 46), (46, tC (zd FP.dconst0) 47), (47, tGo 61), (50, tIld 1 51), (51, tI2d 52), (52, tAld 0 53), (53, tGetR 11 2 56), (56, tGetI 8 4 59), (59, tI2d 60), (60, tDdiv 61), (61, tRd)]
set_option maxRecDepth 100000 in
set_option maxHeartbeats 4000000 in
theorem hs_X8_meanTrust {l : Launch} (hl : l.stackTraces = false) (p : Program) (e : Env) (s : State) (m : MethodId) (args : Array Value) (below : List Frame) (meth : Method) (c : Code) (D : va_G) (A : Nat → Prop) (a0 : Nat → Nat) (M0 : ZM) (K : ZRet) (KX : ZEx) (X : zCtx p l rm_X8_meanTrust s m args meth c cX8_meanTrust RX8 (Cond.code yX8_meanTrust cX8_meanTrust 3 (Option.some Jvm.ClassFile.FieldType.double) :: zG) 3 (Option.some Jvm.ClassFile.FieldType.double) D A a0 M0 0 0) (hnm : meth.name = yX8_meanTrust.name) (hout : ∀ x ∈ c.exceptionTable.toList, False) : ∀ q ∈ cd_X8_meanTrust, zSd p l e rm_X8_meanTrust s m args below meth c 3 D A a0 M0 K KX 0 0 q.1 q.2 :=
    zall_c (zs_iconst X (pc := 0) (by decide) (by decide +kernel)) <|
    zall_c (zs_istore_n X (pc := 1) (q := 1) rfl (by decide) (by decide +kernel)) <|
    zall_c (zs_iconst X (pc := 2) (by decide) (by decide +kernel)) <|
    zall_c (zs_istore_n X (pc := 3) (q := 2) rfl (by decide) (by decide +kernel)) <|
    zall_c (zs_iload_n X (pc := 4) (q := 2) rfl (by decide +kernel)) <|
    zall_c (zs_aload_n X (pc := 5) (q := 0) rfl (by decide +kernel)) <|
    zall_c (zs_getr X (pc := 6) zc_X8 (by decide) (zin ui_X8) (.tail _ gw_2_123) (by decide +kernel) (by decide +kernel)) <|
    zall_c (zs_geti X (pc := 9) zc_X5 (by decide) (zin ui_X5) (.tail _ gw_1_236) (by decide +kernel) (by decide +kernel)) <|
    zall_c (zs_icmp_ge X (pc := 12) (off := 24) (by decide +kernel) (by decide)) <|
    zall_c (zs_iload_n X (pc := 15) (q := 1) rfl (by decide +kernel)) <|
    zall_c (zs_aload_n X (pc := 16) (q := 0) rfl (by decide +kernel)) <|
    zall_c (zs_getr X (pc := 17) zc_X8 (by decide) (zin ui_X8) (.tail _ gw_2_123) (by decide +kernel) (by decide +kernel)) <|
    zall_c (zs_getr X (pc := 20) zc_X5 (by decide) (zin ui_X5) (.tail _ gw_2_2) (by decide +kernel) (by decide +kernel)) <|
    zall_c (zs_iload_n X (pc := 23) (q := 2) rfl (by decide +kernel)) <|
    zall_c (zs_aaload X (pc := 24) (by decide) rfl (by decide +kernel)) <|
    zall_c (zs_geti X (pc := 25) zc_X7 (by decide) (zin ui_X7) (.tail _ gw_1_127) (by decide +kernel) (by decide +kernel)) <|
    zall_c (zs_iadd X (pc := 28) (by decide +kernel)) <|
    zall_c (zs_istore_n X (pc := 29) (q := 1) rfl (by decide) (by decide +kernel)) <|
    zall_c (zs_iinc X (pc := 30) (by decide) (by decide +kernel)) <|
    zall_c (zs_goto X (pc := 33) (off := (-29)) (by decide +kernel) (by decide)) <|
    zall_c (zs_aload_n X (pc := 36) (q := 0) rfl (by decide +kernel)) <|
    zall_c (zs_getr X (pc := 37) zc_X8 (by decide) (zin ui_X8) (.tail _ gw_2_123) (by decide +kernel) (by decide +kernel)) <|
    zall_c (zs_geti X (pc := 40) zc_X5 (by decide) (zin ui_X5) (.tail _ gw_1_236) (by decide +kernel) (by decide +kernel)) <|
    zall_c (zs_if_ne X (pc := 43) (off := 7) (by decide +kernel) (by decide)) <|
    zall_c (zs_dconst0 X (pc := 46) (by decide +kernel)) <|
    zall_c (zs_goto X (pc := 47) (off := 14) (by decide +kernel) (by decide)) <|
    zall_c (zs_iload_n X (pc := 50) (q := 1) rfl (by decide +kernel)) <|
    zall_c (zs_i2d X (pc := 51) (by decide +kernel)) <|
    zall_c (zs_aload_n X (pc := 52) (q := 0) rfl (by decide +kernel)) <|
    zall_c (zs_getr X (pc := 53) zc_X8 (by decide) (zin ui_X8) (.tail _ gw_2_123) (by decide +kernel) (by decide +kernel)) <|
    zall_c (zs_geti X (pc := 56) zc_X5 (by decide) (zin ui_X5) (.tail _ gw_1_236) (by decide +kernel) (by decide +kernel)) <|
    zall_c (zs_i2d X (pc := 59) (by decide +kernel)) <|
    zall_c (zs_ddiv X (pc := 60) (by decide +kernel)) <|
    zall_c (zs_dret X (pc := 61) rfl (by decide +kernel)) <|
    zall_n
theorem met_X8_meanTrust {l : Launch} (hl : l.stackTraces = false) {T : ZTf} (bd : zBd (cd_X8_meanTrust) 3 0 0 T) : zMet l yX8_meanTrust (Cond.code yX8_meanTrust cX8_meanTrust 3 (Option.some Jvm.ClassFile.FieldType.double) :: zG) rm_X8_meanTrust 0 0 T := zMet_of hl (by decide +kernel) rfl rfl rfl rfl (hs_X8_meanTrust hl) bd

abbrev rm_X8_suspended : Room := { frames := 2, cells := 0, slots := 0, locals := 51 }
def cd_X8_suspended (T0 : ZTf) : List (Nat × ZTr) := [(0, tC (zi 0) 1), (1, tIst 1 2), (2, tC (zi 0) 3), (3, tIst 2 4), (4, tIld 2 5), (5, tAld 0 6), (6, tGetR 11 2 9), (9, tGetI 8 4 12), (12, tIc_ge 38 15), (15, tAld 0 16), (16, tGetR 11 2 19), (19, tIld 2 20), (20, tCall0 2 T0 (zRcv 8) 23), (23, tIf_eq 32 26), (26, tIld 1 27), (27, tC (zi 1) 28), (28, tIld 2 29), (29, tBif zshl 30), (30, tBif zor 31), (31, tIst 1 32), (32, tInc 2 1 35), (35, tGo 4), (38, tIld 1 39), (39, tRi (fun _ => True))]
set_option maxRecDepth 100000 in
set_option maxHeartbeats 4000000 in
theorem hs_X8_suspended {l : Launch} (hl : l.stackTraces = false) {T0 : ZTf} (h0 : zMet l yX5_isSuspended (Cond.code yX5_isSuspended cX5_isSuspended 2 (Option.some Jvm.ClassFile.FieldType.boolean) :: zG) rm_X5_isSuspended 0 0 T0) (p : Program) (e : Env) (s : State) (m : MethodId) (args : Array Value) (below : List Frame) (meth : Method) (c : Code) (D : va_G) (A : Nat → Prop) (a0 : Nat → Nat) (M0 : ZM) (K : ZRet) (KX : ZEx) (X : zCtx p l rm_X8_suspended s m args meth c cX8_suspended RX8 (Cond.code yX8_suspended cX8_suspended 3 (Option.some Jvm.ClassFile.FieldType.int) :: zG) 3 (Option.some Jvm.ClassFile.FieldType.int) D A a0 M0 0 0) (hnm : meth.name = yX8_suspended.name) (hout : ∀ x ∈ c.exceptionTable.toList, False) : ∀ q ∈ cd_X8_suspended T0, zSd p l e rm_X8_suspended s m args below meth c 3 D A a0 M0 K KX 0 0 q.1 q.2 :=
    zall_c (zs_iconst X (pc := 0) (by decide) (by decide +kernel)) <|
    zall_c (zs_istore_n X (pc := 1) (q := 1) rfl (by decide) (by decide +kernel)) <|
    zall_c (zs_iconst X (pc := 2) (by decide) (by decide +kernel)) <|
    zall_c (zs_istore_n X (pc := 3) (q := 2) rfl (by decide) (by decide +kernel)) <|
    zall_c (zs_iload_n X (pc := 4) (q := 2) rfl (by decide +kernel)) <|
    zall_c (zs_aload_n X (pc := 5) (q := 0) rfl (by decide +kernel)) <|
    zall_c (zs_getr X (pc := 6) zc_X8 (by decide) (zin ui_X8) (.tail _ gw_2_123) (by decide +kernel) (by decide +kernel)) <|
    zall_c (zs_geti X (pc := 9) zc_X5 (by decide) (zin ui_X5) (.tail _ gw_1_236) (by decide +kernel) (by decide +kernel)) <|
    zall_c (zs_icmp_ge X (pc := 12) (off := 26) (by decide +kernel) (by decide)) <|
    zall_c (zs_aload_n X (pc := 15) (q := 0) rfl (by decide +kernel)) <|
    zall_c (zs_getr X (pc := 16) zc_X8 (by decide) (zin ui_X8) (.tail _ gw_2_123) (by decide +kernel) (by decide +kernel)) <|
    zall_c (zs_iload_n X (pc := 19) (q := 2) rfl (by decide +kernel)) <|
    zall_c (zs_callV0 X (pc := 20) zc_X5 (fun _ ht => ⟨(zCB ht gw_5_20 gw_1_8 gw_5_54 rfl rfl (by decide +kernel) ⟨Nat.le_of_ble_eq_true rfl, Nat.le_of_ble_eq_true rfl⟩), ht _ (.tail _ gw_5_18), ht _ (.tail _ gw_5_19)⟩) h0 hout (by decide +kernel)) <|
    zall_c (zs_if_eq X (pc := 23) (off := 9) (by decide +kernel) (by decide)) <|
    zall_c (zs_iload_n X (pc := 26) (q := 1) rfl (by decide +kernel)) <|
    zall_c (zs_iconst X (pc := 27) (by decide) (by decide +kernel)) <|
    zall_c (zs_iload_n X (pc := 28) (q := 2) rfl (by decide +kernel)) <|
    zall_c (zs_ishl X (pc := 29) (by decide +kernel)) <|
    zall_c (zs_ior X (pc := 30) (by decide +kernel)) <|
    zall_c (zs_istore_n X (pc := 31) (q := 1) rfl (by decide) (by decide +kernel)) <|
    zall_c (zs_iinc X (pc := 32) (by decide) (by decide +kernel)) <|
    zall_c (zs_goto X (pc := 35) (off := (-31)) (by decide +kernel) (by decide)) <|
    zall_c (zs_iload_n X (pc := 38) (q := 1) rfl (by decide +kernel)) <|
    zall_c (zs_iret X (pc := 39) rfl (by decide +kernel)) <|
    zall_n
theorem met_X8_suspended {l : Launch} (hl : l.stackTraces = false) {T0 : ZTf} (h0 : zMet l yX5_isSuspended (Cond.code yX5_isSuspended cX5_isSuspended 2 (Option.some Jvm.ClassFile.FieldType.boolean) :: zG) rm_X5_isSuspended 0 0 T0) {T : ZTf} (bd : zBd (cd_X8_suspended T0) 3 0 0 T) : zMet l yX8_suspended (Cond.code yX8_suspended cX8_suspended 3 (Option.some Jvm.ClassFile.FieldType.int) :: zG) rm_X8_suspended 0 0 T := zMet_of hl (by decide +kernel) rfl rfl rfl rfl (hs_X8_suspended hl h0) bd

abbrev rm_X8_nextAudit : Room := { frames := 3, cells := 0, slots := 0, locals := 74 }
def cd_X8_nextAudit (T0 : ZTf) : List (Nat × ZTr) := [(0, tC (zi (-1)) 1), (1, tIst 1 2), (2, tC (zi 0) 3), (3, tIst 2 4), (4, tIld 2 5), (5, tAld 0 6), (6, tGetR 11 2 9), (9, tGetI 8 5 12), (12, tIc_ge 73 15), (15, tAld 0 16), (16, tGetR 11 2 19), (19, tGetR 8 7 22), (22, tIld 2 23), (23, tAal 31 24), (24, tAst 3 25), (25, tAld 3 26), (26, tGetI 7 1 29), (29, tC (zi 2) 30), (30, tIc_ne 67 33), (33, tAld 3 34), (34, tGetI 7 3 37), (37, tIf_ne 67 40), (40, tIld 1 41), (41, tC (zi (-1)) 42), (42, tIc_eq 65 45), (45, tAld 0 46), (46, tGetR 11 2 49), (49, tAld 3 50), (50, tAld 0 51), (51, tGetR 11 2 54), (54, tGetR 8 7 57), (57, tIld 1 58), (58, tAal 31 59), (59, tCall0 3 T0 (zRcv 8) 62), (62, tIf_eq 67 65), (65, tIld 2 66), (66, tIst 1 67), (67, tInc 2 1 70), (70, tGo 4), (73, tIld 1 74), (74, tRi (fun _ => True))]
set_option maxRecDepth 100000 in
set_option maxHeartbeats 4000000 in
theorem hs_X8_nextAudit {l : Launch} (hl : l.stackTraces = false) {T0 : ZTf} (h0 : zMet l yX5_isRiskier (Cond.code yX5_isRiskier cX5_isRiskier 4 (Option.some Jvm.ClassFile.FieldType.boolean) :: zG) rm_X5_isRiskier 0 0 T0) (p : Program) (e : Env) (s : State) (m : MethodId) (args : Array Value) (below : List Frame) (meth : Method) (c : Code) (D : va_G) (A : Nat → Prop) (a0 : Nat → Nat) (M0 : ZM) (K : ZRet) (KX : ZEx) (X : zCtx p l rm_X8_nextAudit s m args meth c cX8_nextAudit RX8 (Cond.code yX8_nextAudit cX8_nextAudit 4 (Option.some Jvm.ClassFile.FieldType.int) :: zG) 4 (Option.some Jvm.ClassFile.FieldType.int) D A a0 M0 0 0) (hnm : meth.name = yX8_nextAudit.name) (hout : ∀ x ∈ c.exceptionTable.toList, False) : ∀ q ∈ cd_X8_nextAudit T0, zSd p l e rm_X8_nextAudit s m args below meth c 4 D A a0 M0 K KX 0 0 q.1 q.2 :=
    zall_c (zs_iconst X (pc := 0) (by decide) (by decide +kernel)) <|
    zall_c (zs_istore_n X (pc := 1) (q := 1) rfl (by decide) (by decide +kernel)) <|
    zall_c (zs_iconst X (pc := 2) (by decide) (by decide +kernel)) <|
    zall_c (zs_istore_n X (pc := 3) (q := 2) rfl (by decide) (by decide +kernel)) <|
    zall_c (zs_iload_n X (pc := 4) (q := 2) rfl (by decide +kernel)) <|
    zall_c (zs_aload_n X (pc := 5) (q := 0) rfl (by decide +kernel)) <|
    zall_c (zs_getr X (pc := 6) zc_X8 (by decide) (zin ui_X8) (.tail _ gw_2_123) (by decide +kernel) (by decide +kernel)) <|
    zall_c (zs_geti X (pc := 9) zc_X5 (by decide) (zin ui_X5) (.tail _ gw_1_239) (by decide +kernel) (by decide +kernel)) <|
    zall_c (zs_icmp_ge X (pc := 12) (off := 61) (by decide +kernel) (by decide)) <|
    zall_c (zs_aload_n X (pc := 15) (q := 0) rfl (by decide +kernel)) <|
    zall_c (zs_getr X (pc := 16) zc_X8 (by decide) (zin ui_X8) (.tail _ gw_2_123) (by decide +kernel) (by decide +kernel)) <|
    zall_c (zs_getr X (pc := 19) zc_X5 (by decide) (zin ui_X5) (.tail _ gw_2_4) (by decide +kernel) (by decide +kernel)) <|
    zall_c (zs_iload_n X (pc := 22) (q := 2) rfl (by decide +kernel)) <|
    zall_c (zs_aaload X (pc := 23) (by decide) rfl (by decide +kernel)) <|
    zall_c (zs_astore_n X (pc := 24) (q := 3) rfl (by decide) (by decide +kernel)) <|
    zall_c (zs_aload_n X (pc := 25) (q := 3) rfl (by decide +kernel)) <|
    zall_c (zs_geti X (pc := 26) zc_X4 (by decide) (zin ui_X4) (.tail _ gw_1_178) (by decide +kernel) (by decide +kernel)) <|
    zall_c (zs_iconst X (pc := 29) (by decide) (by decide +kernel)) <|
    zall_c (zs_icmp_ne X (pc := 30) (off := 37) (by decide +kernel) (by decide)) <|
    zall_c (zs_aload_n X (pc := 33) (q := 3) rfl (by decide +kernel)) <|
    zall_c (zs_geti X (pc := 34) zc_X4 (by decide) (zin ui_X4) (.tail _ gw_1_184) (by decide +kernel) (by decide +kernel)) <|
    zall_c (zs_if_ne X (pc := 37) (off := 30) (by decide +kernel) (by decide)) <|
    zall_c (zs_iload_n X (pc := 40) (q := 1) rfl (by decide +kernel)) <|
    zall_c (zs_iconst X (pc := 41) (by decide) (by decide +kernel)) <|
    zall_c (zs_icmp_eq X (pc := 42) (off := 23) (by decide +kernel) (by decide)) <|
    zall_c (zs_aload_n X (pc := 45) (q := 0) rfl (by decide +kernel)) <|
    zall_c (zs_getr X (pc := 46) zc_X8 (by decide) (zin ui_X8) (.tail _ gw_2_123) (by decide +kernel) (by decide +kernel)) <|
    zall_c (zs_aload_n X (pc := 49) (q := 3) rfl (by decide +kernel)) <|
    zall_c (zs_aload_n X (pc := 50) (q := 0) rfl (by decide +kernel)) <|
    zall_c (zs_getr X (pc := 51) zc_X8 (by decide) (zin ui_X8) (.tail _ gw_2_123) (by decide +kernel) (by decide +kernel)) <|
    zall_c (zs_getr X (pc := 54) zc_X5 (by decide) (zin ui_X5) (.tail _ gw_2_4) (by decide +kernel) (by decide +kernel)) <|
    zall_c (zs_iload_n X (pc := 57) (q := 1) rfl (by decide +kernel)) <|
    zall_c (zs_aaload X (pc := 58) (by decide) rfl (by decide +kernel)) <|
    zall_c (zs_callV0 X (pc := 59) zc_X5 (fun _ ht => ⟨(zCB ht gw_5_62 gw_1_8 gw_5_59 rfl rfl (by decide +kernel) ⟨Nat.le_of_ble_eq_true rfl, Nat.le_of_ble_eq_true rfl⟩), ht _ (.tail _ gw_5_60), ht _ (.tail _ gw_5_61)⟩) h0 hout (by decide +kernel)) <|
    zall_c (zs_if_eq X (pc := 62) (off := 5) (by decide +kernel) (by decide)) <|
    zall_c (zs_iload_n X (pc := 65) (q := 2) rfl (by decide +kernel)) <|
    zall_c (zs_istore_n X (pc := 66) (q := 1) rfl (by decide) (by decide +kernel)) <|
    zall_c (zs_iinc X (pc := 67) (by decide) (by decide +kernel)) <|
    zall_c (zs_goto X (pc := 70) (off := (-66)) (by decide +kernel) (by decide)) <|
    zall_c (zs_iload_n X (pc := 73) (q := 1) rfl (by decide +kernel)) <|
    zall_c (zs_iret X (pc := 74) rfl (by decide +kernel)) <|
    zall_n
theorem met_X8_nextAudit {l : Launch} (hl : l.stackTraces = false) {T0 : ZTf} (h0 : zMet l yX5_isRiskier (Cond.code yX5_isRiskier cX5_isRiskier 4 (Option.some Jvm.ClassFile.FieldType.boolean) :: zG) rm_X5_isRiskier 0 0 T0) {T : ZTf} (bd : zBd (cd_X8_nextAudit T0) 4 0 0 T) : zMet l yX8_nextAudit (Cond.code yX8_nextAudit cX8_nextAudit 4 (Option.some Jvm.ClassFile.FieldType.int) :: zG) rm_X8_nextAudit 0 0 T := zMet_of hl (by decide +kernel) rfl rfl rfl rfl (hs_X8_nextAudit hl h0) bd

abbrev rm_X8_nextDue : Room := { frames := 4, cells := 0, slots := 0, locals := 94 }
def cd_X8_nextDue (T0 : ZTf) : List (Nat × ZTr) := [(0, tC (zi (-1)) 1), (1, tIst 1 2), (2, tC (zi 0) 3), (3, tIst 2 4), (4, tIld 2 5), (5, tAld 0 6), (6, tGetR 11 2 9), (9, tGetI 8 5 12), (12, tIc_ge 51 15), (15, tAld 0 16), (16, tGetR 11 2 19), (19, tGetR 8 7 22), (22, tIld 2 23), (23, tAal 31 24), (24, tCall0 1 T0 (zRcv 7) 27), (27, tIst 3 28), (28, tIld 3 29), (29, tC (zi (-1)) 30), (30, tIc_eq 45 33), (33, tIld 1 34), (34, tC (zi (-1)) 35), (35, tIc_eq 43 38), (38, tIld 3 39), (39, tIld 1 40), (40, tIc_ge 45 43), (43, tIld 3 44), (44, tIst 1 45), (45, tInc 2 1 48), (48, tGo 4), (51, tIld 1 52), (52, tRi (fun _ => True))]
set_option maxRecDepth 100000 in
set_option maxHeartbeats 4000000 in
theorem hs_X8_nextDue {l : Launch} (hl : l.stackTraces = false) {T0 : ZTf} (h0 : zMet l yX4_leastDue (Cond.code yX4_leastDue cX4_leastDue 3 (Option.some Jvm.ClassFile.FieldType.int) :: zG) rm_X4_leastDue 0 0 T0) (p : Program) (e : Env) (s : State) (m : MethodId) (args : Array Value) (below : List Frame) (meth : Method) (c : Code) (D : va_G) (A : Nat → Prop) (a0 : Nat → Nat) (M0 : ZM) (K : ZRet) (KX : ZEx) (X : zCtx p l rm_X8_nextDue s m args meth c cX8_nextDue RX8 (Cond.code yX8_nextDue cX8_nextDue 4 (Option.some Jvm.ClassFile.FieldType.int) :: zG) 4 (Option.some Jvm.ClassFile.FieldType.int) D A a0 M0 0 0) (hnm : meth.name = yX8_nextDue.name) (hout : ∀ x ∈ c.exceptionTable.toList, False) : ∀ q ∈ cd_X8_nextDue T0, zSd p l e rm_X8_nextDue s m args below meth c 4 D A a0 M0 K KX 0 0 q.1 q.2 :=
    zall_c (zs_iconst X (pc := 0) (by decide) (by decide +kernel)) <|
    zall_c (zs_istore_n X (pc := 1) (q := 1) rfl (by decide) (by decide +kernel)) <|
    zall_c (zs_iconst X (pc := 2) (by decide) (by decide +kernel)) <|
    zall_c (zs_istore_n X (pc := 3) (q := 2) rfl (by decide) (by decide +kernel)) <|
    zall_c (zs_iload_n X (pc := 4) (q := 2) rfl (by decide +kernel)) <|
    zall_c (zs_aload_n X (pc := 5) (q := 0) rfl (by decide +kernel)) <|
    zall_c (zs_getr X (pc := 6) zc_X8 (by decide) (zin ui_X8) (.tail _ gw_2_123) (by decide +kernel) (by decide +kernel)) <|
    zall_c (zs_geti X (pc := 9) zc_X5 (by decide) (zin ui_X5) (.tail _ gw_1_239) (by decide +kernel) (by decide +kernel)) <|
    zall_c (zs_icmp_ge X (pc := 12) (off := 39) (by decide +kernel) (by decide)) <|
    zall_c (zs_aload_n X (pc := 15) (q := 0) rfl (by decide +kernel)) <|
    zall_c (zs_getr X (pc := 16) zc_X8 (by decide) (zin ui_X8) (.tail _ gw_2_123) (by decide +kernel) (by decide +kernel)) <|
    zall_c (zs_getr X (pc := 19) zc_X5 (by decide) (zin ui_X5) (.tail _ gw_2_4) (by decide +kernel) (by decide +kernel)) <|
    zall_c (zs_iload_n X (pc := 22) (q := 2) rfl (by decide +kernel)) <|
    zall_c (zs_aaload X (pc := 23) (by decide) rfl (by decide +kernel)) <|
    zall_c (zs_callV0 X (pc := 24) zc_X4 (fun _ ht => ⟨(zCB ht gw_5_74 gw_1_10 gw_5_71 rfl rfl (by decide +kernel) ⟨Nat.le_of_ble_eq_true rfl, Nat.le_of_ble_eq_true rfl⟩), ht _ (.tail _ gw_5_72), ht _ (.tail _ gw_5_73)⟩) h0 hout (by decide +kernel)) <|
    zall_c (zs_istore_n X (pc := 27) (q := 3) rfl (by decide) (by decide +kernel)) <|
    zall_c (zs_iload_n X (pc := 28) (q := 3) rfl (by decide +kernel)) <|
    zall_c (zs_iconst X (pc := 29) (by decide) (by decide +kernel)) <|
    zall_c (zs_icmp_eq X (pc := 30) (off := 15) (by decide +kernel) (by decide)) <|
    zall_c (zs_iload_n X (pc := 33) (q := 1) rfl (by decide +kernel)) <|
    zall_c (zs_iconst X (pc := 34) (by decide) (by decide +kernel)) <|
    zall_c (zs_icmp_eq X (pc := 35) (off := 8) (by decide +kernel) (by decide)) <|
    zall_c (zs_iload_n X (pc := 38) (q := 3) rfl (by decide +kernel)) <|
    zall_c (zs_iload_n X (pc := 39) (q := 1) rfl (by decide +kernel)) <|
    zall_c (zs_icmp_ge X (pc := 40) (off := 5) (by decide +kernel) (by decide)) <|
    zall_c (zs_iload_n X (pc := 43) (q := 3) rfl (by decide +kernel)) <|
    zall_c (zs_istore_n X (pc := 44) (q := 1) rfl (by decide) (by decide +kernel)) <|
    zall_c (zs_iinc X (pc := 45) (by decide) (by decide +kernel)) <|
    zall_c (zs_goto X (pc := 48) (off := (-44)) (by decide +kernel) (by decide)) <|
    zall_c (zs_iload_n X (pc := 51) (q := 1) rfl (by decide +kernel)) <|
    zall_c (zs_iret X (pc := 52) rfl (by decide +kernel)) <|
    zall_n
theorem met_X8_nextDue {l : Launch} (hl : l.stackTraces = false) {T0 : ZTf} (h0 : zMet l yX4_leastDue (Cond.code yX4_leastDue cX4_leastDue 3 (Option.some Jvm.ClassFile.FieldType.int) :: zG) rm_X4_leastDue 0 0 T0) {T : ZTf} (bd : zBd (cd_X8_nextDue T0) 4 0 0 T) : zMet l yX8_nextDue (Cond.code yX8_nextDue cX8_nextDue 4 (Option.some Jvm.ClassFile.FieldType.int) :: zG) rm_X8_nextDue 0 0 T := zMet_of hl (by decide +kernel) rfl rfl rfl rfl (hs_X8_nextDue hl h0) bd

abbrev rm_X8_lost : Room := { frames := 5, cells := 0, slots := 0, locals := 121 }
def cd_X8_lost (T0 : ZTf) : List (Nat × ZTr) := [(0, tC (zi 0) 1), (1, tIst 1 2), (2, tC (zi 0) 3), (3, tIst 2 4), (4, tIld 2 5), (5, tAld 0 6), (6, tGetR 11 2 9), (9, tGetI 8 5 12), (12, tIc_ge 54 15), (15, tAld 0 16), (16, tGetR 11 2 19), (19, tGetR 8 7 22), (22, tIld 2 23), (23, tAal 31 24), (24, tGetI 7 1 27), (27, tC (zi 3) 28), (28, tIc_eq 42 31), (31, tAld 0 32), (32, tGetR 11 2 35), (35, tIld 2 36), (36, tCall0 2 T0 (zRcv 8) 39), (39, tIf_eq 48 42), (42, tIld 1 43), (43, tC (zi 1) 44), (44, tIld 2 45), (45, tBif zshl 46), (46, tBif zor 47), (47, tIst 1 48), (48, tInc 2 1 51), (51, tGo 4), (54, tIld 1 55), (55, tRi (fun _ => True))]
set_option maxRecDepth 100000 in
set_option maxHeartbeats 4000000 in
theorem hs_X8_lost {l : Launch} (hl : l.stackTraces = false) {T0 : ZTf} (h0 : zMet l yX5_hasNobodyFor (Cond.code yX5_hasNobodyFor cX5_hasNobodyFor 3 (Option.some Jvm.ClassFile.FieldType.boolean) :: zG) rm_X5_hasNobodyFor 0 0 T0) (p : Program) (e : Env) (s : State) (m : MethodId) (args : Array Value) (below : List Frame) (meth : Method) (c : Code) (D : va_G) (A : Nat → Prop) (a0 : Nat → Nat) (M0 : ZM) (K : ZRet) (KX : ZEx) (X : zCtx p l rm_X8_lost s m args meth c cX8_lost RX8 (Cond.code yX8_lost cX8_lost 3 (Option.some Jvm.ClassFile.FieldType.int) :: zG) 3 (Option.some Jvm.ClassFile.FieldType.int) D A a0 M0 0 0) (hnm : meth.name = yX8_lost.name) (hout : ∀ x ∈ c.exceptionTable.toList, False) : ∀ q ∈ cd_X8_lost T0, zSd p l e rm_X8_lost s m args below meth c 3 D A a0 M0 K KX 0 0 q.1 q.2 :=
    zall_c (zs_iconst X (pc := 0) (by decide) (by decide +kernel)) <|
    zall_c (zs_istore_n X (pc := 1) (q := 1) rfl (by decide) (by decide +kernel)) <|
    zall_c (zs_iconst X (pc := 2) (by decide) (by decide +kernel)) <|
    zall_c (zs_istore_n X (pc := 3) (q := 2) rfl (by decide) (by decide +kernel)) <|
    zall_c (zs_iload_n X (pc := 4) (q := 2) rfl (by decide +kernel)) <|
    zall_c (zs_aload_n X (pc := 5) (q := 0) rfl (by decide +kernel)) <|
    zall_c (zs_getr X (pc := 6) zc_X8 (by decide) (zin ui_X8) (.tail _ gw_2_123) (by decide +kernel) (by decide +kernel)) <|
    zall_c (zs_geti X (pc := 9) zc_X5 (by decide) (zin ui_X5) (.tail _ gw_1_239) (by decide +kernel) (by decide +kernel)) <|
    zall_c (zs_icmp_ge X (pc := 12) (off := 42) (by decide +kernel) (by decide)) <|
    zall_c (zs_aload_n X (pc := 15) (q := 0) rfl (by decide +kernel)) <|
    zall_c (zs_getr X (pc := 16) zc_X8 (by decide) (zin ui_X8) (.tail _ gw_2_123) (by decide +kernel) (by decide +kernel)) <|
    zall_c (zs_getr X (pc := 19) zc_X5 (by decide) (zin ui_X5) (.tail _ gw_2_4) (by decide +kernel) (by decide +kernel)) <|
    zall_c (zs_iload_n X (pc := 22) (q := 2) rfl (by decide +kernel)) <|
    zall_c (zs_aaload X (pc := 23) (by decide) rfl (by decide +kernel)) <|
    zall_c (zs_geti X (pc := 24) zc_X4 (by decide) (zin ui_X4) (.tail _ gw_1_178) (by decide +kernel) (by decide +kernel)) <|
    zall_c (zs_iconst X (pc := 27) (by decide) (by decide +kernel)) <|
    zall_c (zs_icmp_eq X (pc := 28) (off := 14) (by decide +kernel) (by decide)) <|
    zall_c (zs_aload_n X (pc := 31) (q := 0) rfl (by decide +kernel)) <|
    zall_c (zs_getr X (pc := 32) zc_X8 (by decide) (zin ui_X8) (.tail _ gw_2_123) (by decide +kernel) (by decide +kernel)) <|
    zall_c (zs_iload_n X (pc := 35) (q := 2) rfl (by decide +kernel)) <|
    zall_c (zs_callV0 X (pc := 36) zc_X5 (fun _ ht => ⟨(zCB ht gw_5_94 gw_1_8 gw_5_91 rfl rfl (by decide +kernel) ⟨Nat.le_of_ble_eq_true rfl, Nat.le_of_ble_eq_true rfl⟩), ht _ (.tail _ gw_5_92), ht _ (.tail _ gw_5_93)⟩) h0 hout (by decide +kernel)) <|
    zall_c (zs_if_eq X (pc := 39) (off := 9) (by decide +kernel) (by decide)) <|
    zall_c (zs_iload_n X (pc := 42) (q := 1) rfl (by decide +kernel)) <|
    zall_c (zs_iconst X (pc := 43) (by decide) (by decide +kernel)) <|
    zall_c (zs_iload_n X (pc := 44) (q := 2) rfl (by decide +kernel)) <|
    zall_c (zs_ishl X (pc := 45) (by decide +kernel)) <|
    zall_c (zs_ior X (pc := 46) (by decide +kernel)) <|
    zall_c (zs_istore_n X (pc := 47) (q := 1) rfl (by decide) (by decide +kernel)) <|
    zall_c (zs_iinc X (pc := 48) (by decide) (by decide +kernel)) <|
    zall_c (zs_goto X (pc := 51) (off := (-47)) (by decide +kernel) (by decide)) <|
    zall_c (zs_iload_n X (pc := 54) (q := 1) rfl (by decide +kernel)) <|
    zall_c (zs_iret X (pc := 55) rfl (by decide +kernel)) <|
    zall_n
theorem met_X8_lost {l : Launch} (hl : l.stackTraces = false) {T0 : ZTf} (h0 : zMet l yX5_hasNobodyFor (Cond.code yX5_hasNobodyFor cX5_hasNobodyFor 3 (Option.some Jvm.ClassFile.FieldType.boolean) :: zG) rm_X5_hasNobodyFor 0 0 T0) {T : ZTf} (bd : zBd (cd_X8_lost T0) 3 0 0 T) : zMet l yX8_lost (Cond.code yX8_lost cX8_lost 3 (Option.some Jvm.ClassFile.FieldType.int) :: zG) rm_X8_lost 0 0 T := zMet_of hl (by decide +kernel) rfl rfl rfl rfl (hs_X8_lost hl h0) bd

abbrev rm_X8_left : Room := { frames := 2, cells := 0, slots := 0, locals := 50 }
def cd_X8_left (T0 : ZTf) : List (Nat × ZTr) := [(0, tC (zi 0) 1), (1, tIst 1 2), (2, tC (zi 0) 3), (3, tIst 2 4), (4, tIld 2 5), (5, tAld 0 6), (6, tGetR 11 2 9), (9, tGetI 8 5 12), (12, tIc_ge 51 15), (15, tAld 0 16), (16, tGetR 11 2 19), (19, tGetR 8 7 22), (22, tIld 2 23), (23, tAal 31 24), (24, tCall0 1 T0 (zRcv 7) 27), (27, tIf_ne 45 30), (30, tIld 1 31), (31, tAld 0 32), (32, tGetR 11 2 35), (35, tGetR 8 7 38), (38, tIld 2 39), (39, tAal 31 40), (40, tGetI 7 0 43), (43, tAdd 44), (44, tIst 1 45), (45, tInc 2 1 48), (48, tGo 4), (51, tIld 1 52), (52, tRi (fun _ => True))]
set_option maxRecDepth 100000 in
set_option maxHeartbeats 4000000 in
theorem hs_X8_left {l : Launch} (hl : l.stackTraces = false) {T0 : ZTf} (h0 : zMet l yX4_isClosed (Cond.code yX4_isClosed cX4_isClosed 1 (Option.some Jvm.ClassFile.FieldType.boolean) :: zG) rm_X4_isClosed 0 0 T0) (p : Program) (e : Env) (s : State) (m : MethodId) (args : Array Value) (below : List Frame) (meth : Method) (c : Code) (D : va_G) (A : Nat → Prop) (a0 : Nat → Nat) (M0 : ZM) (K : ZRet) (KX : ZEx) (X : zCtx p l rm_X8_left s m args meth c cX8_left RX8 (Cond.code yX8_left cX8_left 3 (Option.some Jvm.ClassFile.FieldType.int) :: zG) 3 (Option.some Jvm.ClassFile.FieldType.int) D A a0 M0 0 0) (hnm : meth.name = yX8_left.name) (hout : ∀ x ∈ c.exceptionTable.toList, False) : ∀ q ∈ cd_X8_left T0, zSd p l e rm_X8_left s m args below meth c 3 D A a0 M0 K KX 0 0 q.1 q.2 :=
    zall_c (zs_iconst X (pc := 0) (by decide) (by decide +kernel)) <|
    zall_c (zs_istore_n X (pc := 1) (q := 1) rfl (by decide) (by decide +kernel)) <|
    zall_c (zs_iconst X (pc := 2) (by decide) (by decide +kernel)) <|
    zall_c (zs_istore_n X (pc := 3) (q := 2) rfl (by decide) (by decide +kernel)) <|
    zall_c (zs_iload_n X (pc := 4) (q := 2) rfl (by decide +kernel)) <|
    zall_c (zs_aload_n X (pc := 5) (q := 0) rfl (by decide +kernel)) <|
    zall_c (zs_getr X (pc := 6) zc_X8 (by decide) (zin ui_X8) (.tail _ gw_2_123) (by decide +kernel) (by decide +kernel)) <|
    zall_c (zs_geti X (pc := 9) zc_X5 (by decide) (zin ui_X5) (.tail _ gw_1_239) (by decide +kernel) (by decide +kernel)) <|
    zall_c (zs_icmp_ge X (pc := 12) (off := 39) (by decide +kernel) (by decide)) <|
    zall_c (zs_aload_n X (pc := 15) (q := 0) rfl (by decide +kernel)) <|
    zall_c (zs_getr X (pc := 16) zc_X8 (by decide) (zin ui_X8) (.tail _ gw_2_123) (by decide +kernel) (by decide +kernel)) <|
    zall_c (zs_getr X (pc := 19) zc_X5 (by decide) (zin ui_X5) (.tail _ gw_2_4) (by decide +kernel) (by decide +kernel)) <|
    zall_c (zs_iload_n X (pc := 22) (q := 2) rfl (by decide +kernel)) <|
    zall_c (zs_aaload X (pc := 23) (by decide) rfl (by decide +kernel)) <|
    zall_c (zs_callV0 X (pc := 24) zc_X4 (fun _ ht => ⟨(zCB ht gw_5_28 gw_1_10 gw_5_99 rfl rfl (by decide +kernel) ⟨Nat.le_of_ble_eq_true rfl, Nat.le_of_ble_eq_true rfl⟩), ht _ (.tail _ gw_5_26), ht _ (.tail _ gw_5_27)⟩) h0 hout (by decide +kernel)) <|
    zall_c (zs_if_ne X (pc := 27) (off := 18) (by decide +kernel) (by decide)) <|
    zall_c (zs_iload_n X (pc := 30) (q := 1) rfl (by decide +kernel)) <|
    zall_c (zs_aload_n X (pc := 31) (q := 0) rfl (by decide +kernel)) <|
    zall_c (zs_getr X (pc := 32) zc_X8 (by decide) (zin ui_X8) (.tail _ gw_2_123) (by decide +kernel) (by decide +kernel)) <|
    zall_c (zs_getr X (pc := 35) zc_X5 (by decide) (zin ui_X5) (.tail _ gw_2_4) (by decide +kernel) (by decide +kernel)) <|
    zall_c (zs_iload_n X (pc := 38) (q := 2) rfl (by decide +kernel)) <|
    zall_c (zs_aaload X (pc := 39) (by decide) rfl (by decide +kernel)) <|
    zall_c (zs_geti X (pc := 40) zc_X4 (by decide) (zin ui_X4) (.tail _ gw_1_174) (by decide +kernel) (by decide +kernel)) <|
    zall_c (zs_iadd X (pc := 43) (by decide +kernel)) <|
    zall_c (zs_istore_n X (pc := 44) (q := 1) rfl (by decide) (by decide +kernel)) <|
    zall_c (zs_iinc X (pc := 45) (by decide) (by decide +kernel)) <|
    zall_c (zs_goto X (pc := 48) (off := (-44)) (by decide +kernel) (by decide)) <|
    zall_c (zs_iload_n X (pc := 51) (q := 1) rfl (by decide +kernel)) <|
    zall_c (zs_iret X (pc := 52) rfl (by decide +kernel)) <|
    zall_n
theorem met_X8_left {l : Launch} (hl : l.stackTraces = false) {T0 : ZTf} (h0 : zMet l yX4_isClosed (Cond.code yX4_isClosed cX4_isClosed 1 (Option.some Jvm.ClassFile.FieldType.boolean) :: zG) rm_X4_isClosed 0 0 T0) {T : ZTf} (bd : zBd (cd_X8_left T0) 3 0 0 T) : zMet l yX8_left (Cond.code yX8_left cX8_left 3 (Option.some Jvm.ClassFile.FieldType.int) :: zG) rm_X8_left 0 0 T := zMet_of hl (by decide +kernel) rfl rfl rfl rfl (hs_X8_left hl h0) bd

abbrev rm_X8_leader : Room := { frames := 1, cells := 0, slots := 0, locals := 30 }
def cd_X8_leader : List (Nat × ZTr) := [(0, tC (zi (-1)) 1), (1, tIst 1 2), (2, tC (zi 0) 3), (3, tIst 2 4), (4, tIld 2 5), (5, tAld 0 6), (6, tGetR 11 2 9), (9, tGetI 8 4 12), (12, tIc_ge 55 15), (15, tIld 1 16), (16, tC (zi (-1)) 17), (17, tIc_eq 47 20), (20, tAld 0 21), (21, tGetR 11 2 24), (24, tGetR 8 6 27), (27, tIld 2 28), (28, tAal 30 29), (29, tGetI 10 9 32), (32, tAld 0 33), (33, tGetR 11 2 36), (36, tGetR 8 6 39), (39, tIld 1 40), (40, tAal 30 41), (41, tGetI 10 9 44), (44, tIc_le 49 47), (47, tIld 2 48), (48, tIst 1 49), (49, tInc 2 1 52), (52, tGo 4), (55, tIld 1 56), (56, tRi (fun _ => True))]
set_option maxRecDepth 100000 in
set_option maxHeartbeats 4000000 in
theorem hs_X8_leader {l : Launch} (hl : l.stackTraces = false) (p : Program) (e : Env) (s : State) (m : MethodId) (args : Array Value) (below : List Frame) (meth : Method) (c : Code) (D : va_G) (A : Nat → Prop) (a0 : Nat → Nat) (M0 : ZM) (K : ZRet) (KX : ZEx) (X : zCtx p l rm_X8_leader s m args meth c cX8_leader RX8 (Cond.code yX8_leader cX8_leader 3 (Option.some Jvm.ClassFile.FieldType.int) :: zG) 3 (Option.some Jvm.ClassFile.FieldType.int) D A a0 M0 0 0) (hnm : meth.name = yX8_leader.name) (hout : ∀ x ∈ c.exceptionTable.toList, False) : ∀ q ∈ cd_X8_leader, zSd p l e rm_X8_leader s m args below meth c 3 D A a0 M0 K KX 0 0 q.1 q.2 :=
    zall_c (zs_iconst X (pc := 0) (by decide) (by decide +kernel)) <|
    zall_c (zs_istore_n X (pc := 1) (q := 1) rfl (by decide) (by decide +kernel)) <|
    zall_c (zs_iconst X (pc := 2) (by decide) (by decide +kernel)) <|
    zall_c (zs_istore_n X (pc := 3) (q := 2) rfl (by decide) (by decide +kernel)) <|
    zall_c (zs_iload_n X (pc := 4) (q := 2) rfl (by decide +kernel)) <|
    zall_c (zs_aload_n X (pc := 5) (q := 0) rfl (by decide +kernel)) <|
    zall_c (zs_getr X (pc := 6) zc_X8 (by decide) (zin ui_X8) (.tail _ gw_2_123) (by decide +kernel) (by decide +kernel)) <|
    zall_c (zs_geti X (pc := 9) zc_X5 (by decide) (zin ui_X5) (.tail _ gw_1_236) (by decide +kernel) (by decide +kernel)) <|
    zall_c (zs_icmp_ge X (pc := 12) (off := 43) (by decide +kernel) (by decide)) <|
    zall_c (zs_iload_n X (pc := 15) (q := 1) rfl (by decide +kernel)) <|
    zall_c (zs_iconst X (pc := 16) (by decide) (by decide +kernel)) <|
    zall_c (zs_icmp_eq X (pc := 17) (off := 30) (by decide +kernel) (by decide)) <|
    zall_c (zs_aload_n X (pc := 20) (q := 0) rfl (by decide +kernel)) <|
    zall_c (zs_getr X (pc := 21) zc_X8 (by decide) (zin ui_X8) (.tail _ gw_2_123) (by decide +kernel) (by decide +kernel)) <|
    zall_c (zs_getr X (pc := 24) zc_X5 (by decide) (zin ui_X5) (.tail _ gw_2_2) (by decide +kernel) (by decide +kernel)) <|
    zall_c (zs_iload_n X (pc := 27) (q := 2) rfl (by decide +kernel)) <|
    zall_c (zs_aaload X (pc := 28) (by decide) rfl (by decide +kernel)) <|
    zall_c (zs_geti X (pc := 29) zc_X7 (by decide) (zin ui_X7) (.tail _ gw_1_145) (by decide +kernel) (by decide +kernel)) <|
    zall_c (zs_aload_n X (pc := 32) (q := 0) rfl (by decide +kernel)) <|
    zall_c (zs_getr X (pc := 33) zc_X8 (by decide) (zin ui_X8) (.tail _ gw_2_123) (by decide +kernel) (by decide +kernel)) <|
    zall_c (zs_getr X (pc := 36) zc_X5 (by decide) (zin ui_X5) (.tail _ gw_2_2) (by decide +kernel) (by decide +kernel)) <|
    zall_c (zs_iload_n X (pc := 39) (q := 1) rfl (by decide +kernel)) <|
    zall_c (zs_aaload X (pc := 40) (by decide) rfl (by decide +kernel)) <|
    zall_c (zs_geti X (pc := 41) zc_X7 (by decide) (zin ui_X7) (.tail _ gw_1_145) (by decide +kernel) (by decide +kernel)) <|
    zall_c (zs_icmp_le X (pc := 44) (off := 5) (by decide +kernel) (by decide)) <|
    zall_c (zs_iload_n X (pc := 47) (q := 2) rfl (by decide +kernel)) <|
    zall_c (zs_istore_n X (pc := 48) (q := 1) rfl (by decide) (by decide +kernel)) <|
    zall_c (zs_iinc X (pc := 49) (by decide) (by decide +kernel)) <|
    zall_c (zs_goto X (pc := 52) (off := (-48)) (by decide +kernel) (by decide)) <|
    zall_c (zs_iload_n X (pc := 55) (q := 1) rfl (by decide +kernel)) <|
    zall_c (zs_iret X (pc := 56) rfl (by decide +kernel)) <|
    zall_n
theorem met_X8_leader {l : Launch} (hl : l.stackTraces = false) {T : ZTf} (bd : zBd (cd_X8_leader) 3 0 0 T) : zMet l yX8_leader (Cond.code yX8_leader cX8_leader 3 (Option.some Jvm.ClassFile.FieldType.int) :: zG) rm_X8_leader 0 0 T := zMet_of hl (by decide +kernel) rfl rfl rfl rfl (hs_X8_leader hl) bd

abbrev rm_X8_undoCount : Room := { frames := 1, cells := 0, slots := 0, locals := 30 }
def cd_X8_undoCount : List (Nat × ZTr) := [(0, tAld 0 1), (1, tGetR 11 3 4), (4, tGetI 4 0 7), (7, tRi (fun _ => True))]
set_option maxRecDepth 100000 in
set_option maxHeartbeats 4000000 in
theorem hs_X8_undoCount {l : Launch} (hl : l.stackTraces = false) (p : Program) (e : Env) (s : State) (m : MethodId) (args : Array Value) (below : List Frame) (meth : Method) (c : Code) (D : va_G) (A : Nat → Prop) (a0 : Nat → Nat) (M0 : ZM) (K : ZRet) (KX : ZEx) (X : zCtx p l rm_X8_undoCount s m args meth c cX8_undoCount RX8 (Cond.code yX8_undoCount cX8_undoCount 1 (Option.some Jvm.ClassFile.FieldType.int) :: zG) 1 (Option.some Jvm.ClassFile.FieldType.int) D A a0 M0 0 0) (hnm : meth.name = yX8_undoCount.name) (hout : ∀ x ∈ c.exceptionTable.toList, False) : ∀ q ∈ cd_X8_undoCount, zSd p l e rm_X8_undoCount s m args below meth c 1 D A a0 M0 K KX 0 0 q.1 q.2 :=
    zall_c (zs_aload_n X (pc := 0) (q := 0) rfl (by decide +kernel)) <|
    zall_c (zs_getr X (pc := 1) zc_X8 (by decide) (zin ui_X8) (.tail _ gw_2_124) (by decide +kernel) (by decide +kernel)) <|
    zall_c (zs_geti X (pc := 4) zc_X0 (by decide) (zin ui_X0) (.tail _ gw_2_73) (by decide +kernel) (by decide +kernel)) <|
    zall_c (zs_iret X (pc := 7) rfl (by decide +kernel)) <|
    zall_n
theorem met_X8_undoCount {l : Launch} (hl : l.stackTraces = false) {T : ZTf} (bd : zBd (cd_X8_undoCount) 1 0 0 T) : zMet l yX8_undoCount (Cond.code yX8_undoCount cX8_undoCount 1 (Option.some Jvm.ClassFile.FieldType.int) :: zG) rm_X8_undoCount 0 0 T := zMet_of hl (by decide +kernel) rfl rfl rfl rfl (hs_X8_undoCount hl) bd

abbrev rm_X8_requireRange : Room := { frames := 6, cells := 1, slots := 6, locals := 90 }
def cd_X8_requireRange : List (Nat × ZTr) := [(0, tIld 0 1), (1, tIld 1 2), (2, tIc_lt 10 5), (5, tIld 0 6), (6, tIld 2 7), (7, tIc_le 21 10), (10, tThr 1), (21, tRv)]
set_option maxRecDepth 100000 in
set_option maxHeartbeats 4000000 in
theorem hs_X8_requireRange {l : Launch} (hl : l.stackTraces = false) (p : Program) (e : Env) (s : State) (m : MethodId) (args : Array Value) (below : List Frame) (meth : Method) (c : Code) (D : va_G) (A : Nat → Prop) (a0 : Nat → Nat) (M0 : ZM) (K : ZRet) (KX : ZEx) (X : zCtx p l rm_X8_requireRange s m args meth c cX8_requireRange RX8 (Cond.code yX8_requireRange cX8_requireRange 3 (Option.none : Option Jvm.ClassFile.FieldType) :: zG) 3 (Option.none : Option Jvm.ClassFile.FieldType) D A a0 M0 1 6) (hnm : meth.name = yX8_requireRange.name) (hout : ∀ x ∈ c.exceptionTable.toList, False) : ∀ q ∈ cd_X8_requireRange, zSd p l e rm_X8_requireRange s m args below meth c 3 D A a0 M0 K KX 1 6 q.1 q.2 :=
    zall_c (zs_iload_n X (pc := 0) (q := 0) rfl (by decide +kernel)) <|
    zall_c (zs_iload_n X (pc := 1) (q := 1) rfl (by decide +kernel)) <|
    zall_c (zs_icmp_lt X (pc := 2) (off := 8) (by decide +kernel) (by decide)) <|
    zall_c (zs_iload_n X (pc := 5) (q := 0) rfl (by decide +kernel)) <|
    zall_c (zs_iload_n X (pc := 6) (q := 2) rfl (by decide +kernel)) <|
    zall_c (zs_icmp_le X (pc := 7) (off := 14) (by decide +kernel) (by decide)) <|
    zall_c (zs_throww X (pc := 10) (ik := 338) (is := 403) (ic := 342) (cls := "java/lang/IllegalArgumentException") (text := "a value is out of range") (names := ["java/lang/RuntimeException", "java/lang/Exception"]) rfl (by decide +kernel) (by decide +kernel) (.tail _ gw_5_172) (.tail _ gw_1_18) (by decide +kernel) (zin gt_X8_342) gt_X8_342x (by decide +kernel) hout (by decide) (by decide) (by decide +kernel) (by decide +kernel) (by decide +kernel) (by decide +kernel) (by decide +kernel)) <|
    zall_c (zs_vret X (pc := 21) rfl (by decide +kernel)) <|
    zall_n
theorem met_X8_requireRange {l : Launch} (hl : l.stackTraces = false) {T : ZTf} (bd : zBd (cd_X8_requireRange) 3 1 6 T) : zMet l yX8_requireRange (Cond.code yX8_requireRange cX8_requireRange 3 (Option.none : Option Jvm.ClassFile.FieldType) :: zG) rm_X8_requireRange 1 6 T := zMet_of hl (by decide +kernel) rfl rfl rfl rfl (hs_X8_requireRange hl) bd

abbrev rm_X8_requireSetting : Room := { frames := 7, cells := 3, slots := 18, locals := 112 }
def cd_X8_requireSetting (T0 : ZTf) : List (Nat × ZTr) := [(0, tIld 0 1), (1, tSw [(0, 28), (1, 38)] 48), (28, tIld 1 29), (29, tC (zi 0) 30), (30, tC (zi 20) 32), (32, tCall 3 1 6 T0 zAny 35), (35, tGo 55), (38, tIld 1 39), (39, tC (zi 1) 40), (40, tC (zi 50) 42), (42, tCall 3 1 6 T0 zAny 45), (45, tGo 55), (48, tIld 1 49), (49, tC (zi 0) 50), (50, tC (zi 19) 52), (52, tCall 3 1 6 T0 zAny 55), (55, tRv)]
set_option maxRecDepth 100000 in
set_option maxHeartbeats 4000000 in
theorem hs_X8_requireSetting {l : Launch} (hl : l.stackTraces = false) {T0 : ZTf} (h0 : zMet l yX8_requireRange (Cond.code yX8_requireRange cX8_requireRange 3 (Option.none : Option Jvm.ClassFile.FieldType) :: zG) rm_X8_requireRange 1 6 T0) (p : Program) (e : Env) (s : State) (m : MethodId) (args : Array Value) (below : List Frame) (meth : Method) (c : Code) (D : va_G) (A : Nat → Prop) (a0 : Nat → Nat) (M0 : ZM) (K : ZRet) (KX : ZEx) (X : zCtx p l rm_X8_requireSetting s m args meth c cX8_requireSetting RX8 (Cond.code yX8_requireSetting cX8_requireSetting 2 (Option.none : Option Jvm.ClassFile.FieldType) :: zG) 2 (Option.none : Option Jvm.ClassFile.FieldType) D A a0 M0 3 18) (hnm : meth.name = yX8_requireSetting.name) (hout : ∀ x ∈ c.exceptionTable.toList, False) : ∀ q ∈ cd_X8_requireSetting T0, zSd p l e rm_X8_requireSetting s m args below meth c 2 D A a0 M0 K KX 3 18 q.1 q.2 :=
    zall_c (zs_iload_n X (pc := 0) (q := 0) rfl (by decide +kernel)) <|
    zall_c (zs_lookup X (pc := 1) (df := 47) (ps := #[(0, 27), (1, 37)]) (len := 27) (by decide +kernel) (by decide +kernel) (by decide) (by decide +kernel) (by decide +kernel)) <|
    zall_c (zs_iload_n X (pc := 28) (q := 1) rfl (by decide +kernel)) <|
    zall_c (zs_iconst X (pc := 29) (by decide) (by decide +kernel)) <|
    zall_c (zs_bipush X (pc := 30) (by decide) (by decide +kernel) (by decide +kernel)) <|
    zall_c (zs_callS X (pc := 32) (fun _ ht => ⟨(zCB ht gw_5_171 gw_1_1 gw_5_169 rfl rfl (by decide +kernel) ⟨Nat.le_of_ble_eq_true rfl, Nat.le_of_ble_eq_true rfl⟩), ht _ (.tail _ gw_5_170)⟩) h0 hout (by decide +kernel)) <|
    zall_c (zs_goto X (pc := 35) (off := 20) (by decide +kernel) (by decide)) <|
    zall_c (zs_iload_n X (pc := 38) (q := 1) rfl (by decide +kernel)) <|
    zall_c (zs_iconst X (pc := 39) (by decide) (by decide +kernel)) <|
    zall_c (zs_bipush X (pc := 40) (by decide) (by decide +kernel) (by decide +kernel)) <|
    zall_c (zs_callS X (pc := 42) (fun _ ht => ⟨(zCB ht gw_5_171 gw_1_1 gw_5_169 rfl rfl (by decide +kernel) ⟨Nat.le_of_ble_eq_true rfl, Nat.le_of_ble_eq_true rfl⟩), ht _ (.tail _ gw_5_170)⟩) h0 hout (by decide +kernel)) <|
    zall_c (zs_goto X (pc := 45) (off := 10) (by decide +kernel) (by decide)) <|
    zall_c (zs_iload_n X (pc := 48) (q := 1) rfl (by decide +kernel)) <|
    zall_c (zs_iconst X (pc := 49) (by decide) (by decide +kernel)) <|
    zall_c (zs_bipush X (pc := 50) (by decide) (by decide +kernel) (by decide +kernel)) <|
    zall_c (zs_callS X (pc := 52) (fun _ ht => ⟨(zCB ht gw_5_171 gw_1_1 gw_5_169 rfl rfl (by decide +kernel) ⟨Nat.le_of_ble_eq_true rfl, Nat.le_of_ble_eq_true rfl⟩), ht _ (.tail _ gw_5_170)⟩) h0 hout (by decide +kernel)) <|
    zall_c (zs_vret X (pc := 55) rfl (by decide +kernel)) <|
    zall_n
theorem met_X8_requireSetting {l : Launch} (hl : l.stackTraces = false) {T0 : ZTf} (h0 : zMet l yX8_requireRange (Cond.code yX8_requireRange cX8_requireRange 3 (Option.none : Option Jvm.ClassFile.FieldType) :: zG) rm_X8_requireRange 1 6 T0) {T : ZTf} (bd : zBd (cd_X8_requireSetting T0) 2 3 18 T) : zMet l yX8_requireSetting (Cond.code yX8_requireSetting cX8_requireSetting 2 (Option.none : Option Jvm.ClassFile.FieldType) :: zG) rm_X8_requireSetting 3 18 T := zMet_of hl (by decide +kernel) rfl rfl rfl rfl (hs_X8_requireSetting hl h0) bd

abbrev rm_X8_requireSlot : Room := { frames := 6, cells := 1, slots := 6, locals := 90 }
def cd_X8_requireSlot : List (Nat × ZTr) := [(0, tIld 0 1), (1, tIf_lt 9 4), (4, tIld 0 5), (5, tC (zi 2) 6), (6, tIc_lt 20 9), (9, tThr 0), (20, tRv)]
set_option maxRecDepth 100000 in
set_option maxHeartbeats 4000000 in
theorem hs_X8_requireSlot {l : Launch} (hl : l.stackTraces = false) (p : Program) (e : Env) (s : State) (m : MethodId) (args : Array Value) (below : List Frame) (meth : Method) (c : Code) (D : va_G) (A : Nat → Prop) (a0 : Nat → Nat) (M0 : ZM) (K : ZRet) (KX : ZEx) (X : zCtx p l rm_X8_requireSlot s m args meth c cX8_requireSlot RX8 (Cond.code yX8_requireSlot cX8_requireSlot 1 (Option.none : Option Jvm.ClassFile.FieldType) :: zG) 1 (Option.none : Option Jvm.ClassFile.FieldType) D A a0 M0 1 6) (hnm : meth.name = yX8_requireSlot.name) (hout : ∀ x ∈ c.exceptionTable.toList, False) : ∀ q ∈ cd_X8_requireSlot, zSd p l e rm_X8_requireSlot s m args below meth c 1 D A a0 M0 K KX 1 6 q.1 q.2 :=
    zall_c (zs_iload_n X (pc := 0) (q := 0) rfl (by decide +kernel)) <|
    zall_c (zs_if_lt X (pc := 1) (off := 8) (by decide +kernel) (by decide)) <|
    zall_c (zs_iload_n X (pc := 4) (q := 0) rfl (by decide +kernel)) <|
    zall_c (zs_iconst X (pc := 5) (by decide) (by decide +kernel)) <|
    zall_c (zs_icmp_lt X (pc := 6) (off := 14) (by decide +kernel) (by decide)) <|
    zall_c (zs_throww X (pc := 9) (ik := 201) (is := 405) (ic := 205) (cls := "java/lang/IndexOutOfBoundsException") (text := "no such slot") (names := ["java/lang/RuntimeException", "java/lang/Exception"]) rfl (by decide +kernel) (by decide +kernel) (.tail _ gw_5_202) (.tail _ gw_1_24) (by decide +kernel) (zin gt_X8_205) gt_X8_205x (by decide +kernel) hout (by decide) (by decide) (by decide +kernel) (by decide +kernel) (by decide +kernel) (by decide +kernel) (by decide +kernel)) <|
    zall_c (zs_vret X (pc := 20) rfl (by decide +kernel)) <|
    zall_n
theorem met_X8_requireSlot {l : Launch} (hl : l.stackTraces = false) {T : ZTf} (bd : zBd (cd_X8_requireSlot) 1 1 6 T) : zMet l yX8_requireSlot (Cond.code yX8_requireSlot cX8_requireSlot 1 (Option.none : Option Jvm.ClassFile.FieldType) :: zG) rm_X8_requireSlot 1 6 T := zMet_of hl (by decide +kernel) rfl rfl rfl rfl (hs_X8_requireSlot hl) bd

abbrev rm_X8_requireWorker : Room := { frames := 6, cells := 1, slots := 6, locals := 90 }
def cd_X8_requireWorker : List (Nat × ZTr) := [(0, tIld 1 1), (1, tIf_lt 15 4), (4, tIld 1 5), (5, tAld 0 6), (6, tGetR 11 2 9), (9, tGetI 8 4 12), (12, tIc_lt 26 15), (15, tThr 0), (26, tRv)]
set_option maxRecDepth 100000 in
set_option maxHeartbeats 4000000 in
theorem hs_X8_requireWorker {l : Launch} (hl : l.stackTraces = false) (p : Program) (e : Env) (s : State) (m : MethodId) (args : Array Value) (below : List Frame) (meth : Method) (c : Code) (D : va_G) (A : Nat → Prop) (a0 : Nat → Nat) (M0 : ZM) (K : ZRet) (KX : ZEx) (X : zCtx p l rm_X8_requireWorker s m args meth c cX8_requireWorker RX8 (Cond.code yX8_requireWorker cX8_requireWorker 2 (Option.none : Option Jvm.ClassFile.FieldType) :: zG) 2 (Option.none : Option Jvm.ClassFile.FieldType) D A a0 M0 1 6) (hnm : meth.name = yX8_requireWorker.name) (hout : ∀ x ∈ c.exceptionTable.toList, False) : ∀ q ∈ cd_X8_requireWorker, zSd p l e rm_X8_requireWorker s m args below meth c 2 D A a0 M0 K KX 1 6 q.1 q.2 :=
    zall_c (zs_iload_n X (pc := 0) (q := 1) rfl (by decide +kernel)) <|
    zall_c (zs_if_lt X (pc := 1) (off := 14) (by decide +kernel) (by decide)) <|
    zall_c (zs_iload_n X (pc := 4) (q := 1) rfl (by decide +kernel)) <|
    zall_c (zs_aload_n X (pc := 5) (q := 0) rfl (by decide +kernel)) <|
    zall_c (zs_getr X (pc := 6) zc_X8 (by decide) (zin ui_X8) (.tail _ gw_2_123) (by decide +kernel) (by decide +kernel)) <|
    zall_c (zs_geti X (pc := 9) zc_X5 (by decide) (zin ui_X5) (.tail _ gw_1_236) (by decide +kernel) (by decide +kernel)) <|
    zall_c (zs_icmp_lt X (pc := 12) (off := 14) (by decide +kernel) (by decide)) <|
    zall_c (zs_throww X (pc := 15) (ik := 201) (is := 407) (ic := 205) (cls := "java/lang/IndexOutOfBoundsException") (text := "no such worker") (names := ["java/lang/RuntimeException", "java/lang/Exception"]) rfl (by decide +kernel) (by decide +kernel) (.tail _ gw_5_202) (.tail _ gw_1_24) (by decide +kernel) (zin gt_X8_205) gt_X8_205x (by decide +kernel) hout (by decide) (by decide) (by decide +kernel) (by decide +kernel) (by decide +kernel) (by decide +kernel) (by decide +kernel)) <|
    zall_c (zs_vret X (pc := 26) rfl (by decide +kernel)) <|
    zall_n
theorem met_X8_requireWorker {l : Launch} (hl : l.stackTraces = false) {T : ZTf} (bd : zBd (cd_X8_requireWorker) 2 1 6 T) : zMet l yX8_requireWorker (Cond.code yX8_requireWorker cX8_requireWorker 2 (Option.none : Option Jvm.ClassFile.FieldType) :: zG) rm_X8_requireWorker 1 6 T := zMet_of hl (by decide +kernel) rfl rfl rfl rfl (hs_X8_requireWorker hl) bd

abbrev rm_X8_requireRow : Room := { frames := 6, cells := 1, slots := 6, locals := 90 }
def cd_X8_requireRow : List (Nat × ZTr) := [(0, tIld 1 1), (1, tIf_lt 15 4), (4, tIld 1 5), (5, tAld 0 6), (6, tGetR 11 2 9), (9, tGetI 8 5 12), (12, tIc_lt 26 15), (15, tThr 0), (26, tRv)]
set_option maxRecDepth 100000 in
set_option maxHeartbeats 4000000 in
theorem hs_X8_requireRow {l : Launch} (hl : l.stackTraces = false) (p : Program) (e : Env) (s : State) (m : MethodId) (args : Array Value) (below : List Frame) (meth : Method) (c : Code) (D : va_G) (A : Nat → Prop) (a0 : Nat → Nat) (M0 : ZM) (K : ZRet) (KX : ZEx) (X : zCtx p l rm_X8_requireRow s m args meth c cX8_requireRow RX8 (Cond.code yX8_requireRow cX8_requireRow 2 (Option.none : Option Jvm.ClassFile.FieldType) :: zG) 2 (Option.none : Option Jvm.ClassFile.FieldType) D A a0 M0 1 6) (hnm : meth.name = yX8_requireRow.name) (hout : ∀ x ∈ c.exceptionTable.toList, False) : ∀ q ∈ cd_X8_requireRow, zSd p l e rm_X8_requireRow s m args below meth c 2 D A a0 M0 K KX 1 6 q.1 q.2 :=
    zall_c (zs_iload_n X (pc := 0) (q := 1) rfl (by decide +kernel)) <|
    zall_c (zs_if_lt X (pc := 1) (off := 14) (by decide +kernel) (by decide)) <|
    zall_c (zs_iload_n X (pc := 4) (q := 1) rfl (by decide +kernel)) <|
    zall_c (zs_aload_n X (pc := 5) (q := 0) rfl (by decide +kernel)) <|
    zall_c (zs_getr X (pc := 6) zc_X8 (by decide) (zin ui_X8) (.tail _ gw_2_123) (by decide +kernel) (by decide +kernel)) <|
    zall_c (zs_geti X (pc := 9) zc_X5 (by decide) (zin ui_X5) (.tail _ gw_1_239) (by decide +kernel) (by decide +kernel)) <|
    zall_c (zs_icmp_lt X (pc := 12) (off := 14) (by decide +kernel) (by decide)) <|
    zall_c (zs_throww X (pc := 15) (ik := 201) (is := 409) (ic := 205) (cls := "java/lang/IndexOutOfBoundsException") (text := "no such row") (names := ["java/lang/RuntimeException", "java/lang/Exception"]) rfl (by decide +kernel) (by decide +kernel) (.tail _ gw_5_202) (.tail _ gw_1_24) (by decide +kernel) (zin gt_X8_205) gt_X8_205x (by decide +kernel) hout (by decide) (by decide) (by decide +kernel) (by decide +kernel) (by decide +kernel) (by decide +kernel) (by decide +kernel)) <|
    zall_c (zs_vret X (pc := 26) rfl (by decide +kernel)) <|
    zall_n
theorem met_X8_requireRow {l : Launch} (hl : l.stackTraces = false) {T : ZTf} (bd : zBd (cd_X8_requireRow) 2 1 6 T) : zMet l yX8_requireRow (Cond.code yX8_requireRow cX8_requireRow 2 (Option.none : Option Jvm.ClassFile.FieldType) :: zG) rm_X8_requireRow 1 6 T := zMet_of hl (by decide +kernel) rfl rfl rfl rfl (hs_X8_requireRow hl) bd

abbrev rm_X8_requireInWork : Room := { frames := 6, cells := 1, slots := 6, locals := 90 }
def cd_X8_requireInWork (T0 : ZTf) (T1 : ZTf) : List (Nat × ZTr) := [(0, tAld 0 1), (1, tGetR 11 2 4), (4, tGetR 8 7 7), (7, tIld 2 8), (8, tAal 31 9), (9, tIld 1 10), (10, tCall0 2 T0 (zRcv 7) 13), (13, tIst 3 14), (14, tIld 3 15), (15, tC (zi (-1)) 16), (16, tIc_eq 35 19), (19, tAld 0 20), (20, tGetR 11 2 23), (23, tGetR 8 7 26), (26, tIld 2 27), (27, tAal 31 28), (28, tIld 3 29), (29, tCall0 2 T1 (zRcv 7) 32), (32, tIf_ne 46 35), (35, tThr 2), (46, tIld 3 47), (47, tRi (fun _ => True))]
set_option maxRecDepth 100000 in
set_option maxHeartbeats 4000000 in
theorem hs_X8_requireInWork {l : Launch} (hl : l.stackTraces = false) {T0 : ZTf} {T1 : ZTf} (h0 : zMet l yX4_takingBy (Cond.code yX4_takingBy cX4_takingBy 3 (Option.some Jvm.ClassFile.FieldType.int) :: zG) rm_X4_takingBy 0 0 T0) (h1 : zMet l yX4_isInWork (Cond.code yX4_isInWork cX4_isInWork 2 (Option.some Jvm.ClassFile.FieldType.boolean) :: zG) rm_X4_isInWork 0 0 T1) (p : Program) (e : Env) (s : State) (m : MethodId) (args : Array Value) (below : List Frame) (meth : Method) (c : Code) (D : va_G) (A : Nat → Prop) (a0 : Nat → Nat) (M0 : ZM) (K : ZRet) (KX : ZEx) (X : zCtx p l rm_X8_requireInWork s m args meth c cX8_requireInWork RX8 (Cond.code yX8_requireInWork cX8_requireInWork 4 (Option.some Jvm.ClassFile.FieldType.int) :: zG) 4 (Option.some Jvm.ClassFile.FieldType.int) D A a0 M0 1 6) (hnm : meth.name = yX8_requireInWork.name) (hout : ∀ x ∈ c.exceptionTable.toList, False) : ∀ q ∈ cd_X8_requireInWork T0 T1, zSd p l e rm_X8_requireInWork s m args below meth c 4 D A a0 M0 K KX 1 6 q.1 q.2 :=
    zall_c (zs_aload_n X (pc := 0) (q := 0) rfl (by decide +kernel)) <|
    zall_c (zs_getr X (pc := 1) zc_X8 (by decide) (zin ui_X8) (.tail _ gw_2_123) (by decide +kernel) (by decide +kernel)) <|
    zall_c (zs_getr X (pc := 4) zc_X5 (by decide) (zin ui_X5) (.tail _ gw_2_4) (by decide +kernel) (by decide +kernel)) <|
    zall_c (zs_iload_n X (pc := 7) (q := 2) rfl (by decide +kernel)) <|
    zall_c (zs_aaload X (pc := 8) (by decide) rfl (by decide +kernel)) <|
    zall_c (zs_iload_n X (pc := 9) (q := 1) rfl (by decide +kernel)) <|
    zall_c (zs_callV0 X (pc := 10) zc_X4 (fun _ ht => ⟨(zCB ht gw_6_104 gw_1_10 gw_6_163 rfl rfl (by decide +kernel) ⟨Nat.le_of_ble_eq_true rfl, Nat.le_of_ble_eq_true rfl⟩), ht _ (.tail _ gw_6_102), ht _ (.tail _ gw_6_103)⟩) h0 hout (by decide +kernel)) <|
    zall_c (zs_istore_n X (pc := 13) (q := 3) rfl (by decide) (by decide +kernel)) <|
    zall_c (zs_iload_n X (pc := 14) (q := 3) rfl (by decide +kernel)) <|
    zall_c (zs_iconst X (pc := 15) (by decide) (by decide +kernel)) <|
    zall_c (zs_icmp_eq X (pc := 16) (off := 19) (by decide +kernel) (by decide)) <|
    zall_c (zs_aload_n X (pc := 19) (q := 0) rfl (by decide +kernel)) <|
    zall_c (zs_getr X (pc := 20) zc_X8 (by decide) (zin ui_X8) (.tail _ gw_2_123) (by decide +kernel) (by decide +kernel)) <|
    zall_c (zs_getr X (pc := 23) zc_X5 (by decide) (zin ui_X5) (.tail _ gw_2_4) (by decide +kernel) (by decide +kernel)) <|
    zall_c (zs_iload_n X (pc := 26) (q := 2) rfl (by decide +kernel)) <|
    zall_c (zs_aaload X (pc := 27) (by decide) rfl (by decide +kernel)) <|
    zall_c (zs_iload_n X (pc := 28) (q := 3) rfl (by decide +kernel)) <|
    zall_c (zs_callV0 X (pc := 29) zc_X4 (fun _ ht => ⟨(zCB ht gw_5_78 gw_1_10 gw_5_238 rfl rfl (by decide +kernel) ⟨Nat.le_of_ble_eq_true rfl, Nat.le_of_ble_eq_true rfl⟩), ht _ (.tail _ gw_5_76), ht _ (.tail _ gw_5_77)⟩) h1 hout (by decide +kernel)) <|
    zall_c (zs_if_ne X (pc := 32) (off := 14) (by decide +kernel) (by decide)) <|
    zall_c (zs_throww X (pc := 35) (ik := 69) (is := 411) (ic := 73) (cls := "java/lang/IllegalStateException") (text := "the worker has not this row in work") (names := ["java/lang/RuntimeException", "java/lang/Exception"]) rfl (by decide +kernel) (by decide +kernel) (.tail _ gw_5_141) (.tail _ gw_1_17) (by decide +kernel) (zin gt_X8_73) gt_X8_73x (by decide +kernel) hout (by decide) (by decide) (by decide +kernel) (by decide +kernel) (by decide +kernel) (by decide +kernel) (by decide +kernel)) <|
    zall_c (zs_iload_n X (pc := 46) (q := 3) rfl (by decide +kernel)) <|
    zall_c (zs_iret X (pc := 47) rfl (by decide +kernel)) <|
    zall_n
theorem met_X8_requireInWork {l : Launch} (hl : l.stackTraces = false) {T0 : ZTf} {T1 : ZTf} (h0 : zMet l yX4_takingBy (Cond.code yX4_takingBy cX4_takingBy 3 (Option.some Jvm.ClassFile.FieldType.int) :: zG) rm_X4_takingBy 0 0 T0) (h1 : zMet l yX4_isInWork (Cond.code yX4_isInWork cX4_isInWork 2 (Option.some Jvm.ClassFile.FieldType.boolean) :: zG) rm_X4_isInWork 0 0 T1) {T : ZTf} (bd : zBd (cd_X8_requireInWork T0 T1) 4 1 6 T) : zMet l yX8_requireInWork (Cond.code yX8_requireInWork cX8_requireInWork 4 (Option.some Jvm.ClassFile.FieldType.int) :: zG) rm_X8_requireInWork 1 6 T := zMet_of hl (by decide +kernel) rfl rfl rfl rfl (hs_X8_requireInWork hl h0 h1) bd

abbrev rm_X8_withinTrust : Room := { frames := 1, cells := 0, slots := 0, locals := 30 }
def cd_X8_withinTrust : List (Nat × ZTr) := [(0, tC (zi 0) 1), (1, tC (zi 20) 3), (3, tIld 0 4), (4, tMth2 zmin 7), (7, tMth2 zmax 10), (10, tRi (fun _ => True))]
set_option maxRecDepth 100000 in
set_option maxHeartbeats 4000000 in
theorem hs_X8_withinTrust {l : Launch} (hl : l.stackTraces = false) (p : Program) (e : Env) (s : State) (m : MethodId) (args : Array Value) (below : List Frame) (meth : Method) (c : Code) (D : va_G) (A : Nat → Prop) (a0 : Nat → Nat) (M0 : ZM) (K : ZRet) (KX : ZEx) (X : zCtx p l rm_X8_withinTrust s m args meth c cX8_withinTrust RX8 (Cond.code yX8_withinTrust cX8_withinTrust 1 (Option.some Jvm.ClassFile.FieldType.int) :: zG) 1 (Option.some Jvm.ClassFile.FieldType.int) D A a0 M0 0 0) (hnm : meth.name = yX8_withinTrust.name) (hout : ∀ x ∈ c.exceptionTable.toList, False) : ∀ q ∈ cd_X8_withinTrust, zSd p l e rm_X8_withinTrust s m args below meth c 1 D A a0 M0 K KX 0 0 q.1 q.2 :=
    zall_c (zs_iconst X (pc := 0) (by decide) (by decide +kernel)) <|
    zall_c (zs_bipush X (pc := 1) (by decide) (by decide +kernel) (by decide +kernel)) <|
    zall_c (zs_iload_n X (pc := 3) (q := 0) rfl (by decide +kernel)) <|
    zall_c (zs_mmin X (pc := 4) (.tail _ gw_6_196) (.tail _ gw_3_110) (.tail _ gw_1_27) (.tail _ gw_3_111) (Nat.le_of_ble_eq_true rfl) (Nat.le_of_ble_eq_true rfl) (by decide +kernel)) <|
    zall_c (zs_mmax X (pc := 7) (.tail _ gw_6_197) (.tail _ gw_3_92) (.tail _ gw_1_27) (.tail _ gw_3_93) (Nat.le_of_ble_eq_true rfl) (Nat.le_of_ble_eq_true rfl) (by decide +kernel)) <|
    zall_c (zs_iret X (pc := 10) rfl (by decide +kernel)) <|
    zall_n
theorem met_X8_withinTrust {l : Launch} (hl : l.stackTraces = false) {T : ZTf} (bd : zBd (cd_X8_withinTrust) 1 0 0 T) : zMet l yX8_withinTrust (Cond.code yX8_withinTrust cX8_withinTrust 1 (Option.some Jvm.ClassFile.FieldType.int) :: zG) rm_X8_withinTrust 0 0 T := zMet_of hl (by decide +kernel) rfl rfl rfl rfl (hs_X8_withinTrust hl) bd

abbrev rm_X9_thrown : Room := { frames := 1, cells := 0, slots := 0, locals := 30 }
def cd_X9_thrown : List (Nat × ZTr) := [(0, tAld 0 1), (1, tGetI 12 0 4), (4, tRi (fun _ => True))]
set_option maxRecDepth 100000 in
set_option maxHeartbeats 4000000 in
theorem hs_X9_thrown {l : Launch} (hl : l.stackTraces = false) (p : Program) (e : Env) (s : State) (m : MethodId) (args : Array Value) (below : List Frame) (meth : Method) (c : Code) (D : va_G) (A : Nat → Prop) (a0 : Nat → Nat) (M0 : ZM) (K : ZRet) (KX : ZEx) (X : zCtx p l rm_X9_thrown s m args meth c cX9_thrown RX9 (Cond.code yX9_thrown cX9_thrown 1 (Option.some Jvm.ClassFile.FieldType.int) :: zG) 1 (Option.some Jvm.ClassFile.FieldType.int) D A a0 M0 0 0) (hnm : meth.name = yX9_thrown.name) (hout : ∀ x ∈ c.exceptionTable.toList, False) : ∀ q ∈ cd_X9_thrown, zSd p l e rm_X9_thrown s m args below meth c 1 D A a0 M0 K KX 0 0 q.1 q.2 :=
    zall_c (zs_aload_n X (pc := 0) (q := 0) rfl (by decide +kernel)) <|
    zall_c (zs_geti X (pc := 1) zc_X9 (by decide) (zin ui_X9) (.tail _ gw_7_215) (by decide +kernel) (by decide +kernel)) <|
    zall_c (zs_iret X (pc := 4) rfl (by decide +kernel)) <|
    zall_n
theorem met_X9_thrown {l : Launch} (hl : l.stackTraces = false) {T : ZTf} (bd : zBd (cd_X9_thrown) 1 0 0 T) : zMet l yX9_thrown (Cond.code yX9_thrown cX9_thrown 1 (Option.some Jvm.ClassFile.FieldType.int) :: zG) rm_X9_thrown 0 0 T := zMet_of hl (by decide +kernel) rfl rfl rfl rfl (hs_X9_thrown hl) bd

abbrev rm_X9_in : Room := { frames := 1, cells := 0, slots := 0, locals := 30 }
def cd_X9_in : List (Nat × ZTr) := [(0, tLld 0 1), (1, tLld 2 2), (2, tLcmp 3), (3, tIf_lt 17 6), (6, tLld 0 7), (7, tLld 4 9), (9, tLcmp 10), (10, tIf_gt 17 13), (13, tC (zi 1) 14), (14, tGo 18), (17, tC (zi 0) 18), (18, tRi zPz)]
set_option maxRecDepth 100000 in
set_option maxHeartbeats 4000000 in
theorem hs_X9_in {l : Launch} (hl : l.stackTraces = false) (p : Program) (e : Env) (s : State) (m : MethodId) (args : Array Value) (below : List Frame) (meth : Method) (c : Code) (D : va_G) (A : Nat → Prop) (a0 : Nat → Nat) (M0 : ZM) (K : ZRet) (KX : ZEx) (X : zCtx p l rm_X9_in s m args meth c cX9_in RX9 (Cond.code yX9_in cX9_in 6 (Option.some Jvm.ClassFile.FieldType.boolean) :: zG) 6 (Option.some Jvm.ClassFile.FieldType.boolean) D A a0 M0 0 0) (hnm : meth.name = yX9_in.name) (hout : ∀ x ∈ c.exceptionTable.toList, False) : ∀ q ∈ cd_X9_in, zSd p l e rm_X9_in s m args below meth c 6 D A a0 M0 K KX 0 0 q.1 q.2 :=
    zall_c (zs_lload_n X (pc := 0) (q := 0) rfl (by decide +kernel)) <|
    zall_c (zs_lload_n X (pc := 1) (q := 2) rfl (by decide +kernel)) <|
    zall_c (zs_lcmp X (pc := 2) (by decide +kernel)) <|
    zall_c (zs_if_lt X (pc := 3) (off := 14) (by decide +kernel) (by decide)) <|
    zall_c (zs_lload_n X (pc := 6) (q := 0) rfl (by decide +kernel)) <|
    zall_c (zs_lload X (pc := 7) (by decide +kernel)) <|
    zall_c (zs_lcmp X (pc := 9) (by decide +kernel)) <|
    zall_c (zs_if_gt X (pc := 10) (off := 7) (by decide +kernel) (by decide)) <|
    zall_c (zs_iconst X (pc := 13) (by decide) (by decide +kernel)) <|
    zall_c (zs_goto X (pc := 14) (off := 4) (by decide +kernel) (by decide)) <|
    zall_c (zs_iconst X (pc := 17) (by decide) (by decide +kernel)) <|
    zall_c (zs_zret X (pc := 18) rfl zR_bool (by decide +kernel)) <|
    zall_n
theorem met_X9_in {l : Launch} (hl : l.stackTraces = false) {T : ZTf} (bd : zBd (cd_X9_in) 6 0 0 T) : zMet l yX9_in (Cond.code yX9_in cX9_in 6 (Option.some Jvm.ClassFile.FieldType.boolean) :: zG) rm_X9_in 0 0 T := zMet_of hl (by decide +kernel) rfl rfl rfl rfl (hs_X9_in hl) bd

abbrev rm_X9_has : Room := { frames := 1, cells := 0, slots := 0, locals := 30 }
def cd_X9_has : List (Nat × ZTr) := [(0, tIld 0 1), (1, tIld 1 2), (2, tBif zshr 3), (3, tC (zi 1) 4), (4, tBif zand 5), (5, tC (zi 1) 6), (6, tIc_ne 13 9), (9, tC (zi 1) 10), (10, tGo 14), (13, tC (zi 0) 14), (14, tRi zPz)]
set_option maxRecDepth 100000 in
set_option maxHeartbeats 4000000 in
theorem hs_X9_has {l : Launch} (hl : l.stackTraces = false) (p : Program) (e : Env) (s : State) (m : MethodId) (args : Array Value) (below : List Frame) (meth : Method) (c : Code) (D : va_G) (A : Nat → Prop) (a0 : Nat → Nat) (M0 : ZM) (K : ZRet) (KX : ZEx) (X : zCtx p l rm_X9_has s m args meth c cX9_has RX9 (Cond.code yX9_has cX9_has 2 (Option.some Jvm.ClassFile.FieldType.boolean) :: zG) 2 (Option.some Jvm.ClassFile.FieldType.boolean) D A a0 M0 0 0) (hnm : meth.name = yX9_has.name) (hout : ∀ x ∈ c.exceptionTable.toList, False) : ∀ q ∈ cd_X9_has, zSd p l e rm_X9_has s m args below meth c 2 D A a0 M0 K KX 0 0 q.1 q.2 :=
    zall_c (zs_iload_n X (pc := 0) (q := 0) rfl (by decide +kernel)) <|
    zall_c (zs_iload_n X (pc := 1) (q := 1) rfl (by decide +kernel)) <|
    zall_c (zs_ishr X (pc := 2) (by decide +kernel)) <|
    zall_c (zs_iconst X (pc := 3) (by decide) (by decide +kernel)) <|
    zall_c (zs_iand X (pc := 4) (by decide +kernel)) <|
    zall_c (zs_iconst X (pc := 5) (by decide) (by decide +kernel)) <|
    zall_c (zs_icmp_ne X (pc := 6) (off := 7) (by decide +kernel) (by decide)) <|
    zall_c (zs_iconst X (pc := 9) (by decide) (by decide +kernel)) <|
    zall_c (zs_goto X (pc := 10) (off := 4) (by decide +kernel) (by decide)) <|
    zall_c (zs_iconst X (pc := 13) (by decide) (by decide +kernel)) <|
    zall_c (zs_zret X (pc := 14) rfl zR_bool (by decide +kernel)) <|
    zall_n
theorem met_X9_has {l : Launch} (hl : l.stackTraces = false) {T : ZTf} (bd : zBd (cd_X9_has) 2 0 0 T) : zMet l yX9_has (Cond.code yX9_has cX9_has 2 (Option.some Jvm.ClassFile.FieldType.boolean) :: zG) rm_X9_has 0 0 T := zMet_of hl (by decide +kernel) rfl rfl rfl rfl (hs_X9_has hl) bd

abbrev rm_X9_passes3 : Room := { frames := 1, cells := 0, slots := 0, locals := 30 }
def cd_X9_passes3 : List (Nat × ZTr) := [(0, tAld 0 1), (1, tIld 1 2), (2, tIf_ne 9 5), (5, tC (zi 1) 6), (6, tGo 26), (9, tIld 2 10), (10, tIf_ne 17 13), (13, tC (zi 2) 14), (14, tGo 26), (17, tIld 3 18), (18, tIf_ne 25 21), (21, tC (zi 3) 22), (22, tGo 26), (25, tC (zi 0) 26), (26, tPutI 12 0 (fun _ => True) 29), (29, tAld 0 30), (30, tGetI 12 0 33), (33, tIf_ne 40 36), (36, tC (zi 1) 37), (37, tGo 41), (40, tC (zi 0) 41), (41, tRi zPz)]
set_option maxRecDepth 100000 in
set_option maxHeartbeats 4000000 in
theorem hs_X9_passes3 {l : Launch} (hl : l.stackTraces = false) (p : Program) (e : Env) (s : State) (m : MethodId) (args : Array Value) (below : List Frame) (meth : Method) (c : Code) (D : va_G) (A : Nat → Prop) (a0 : Nat → Nat) (M0 : ZM) (K : ZRet) (KX : ZEx) (X : zCtx p l rm_X9_passes3 s m args meth c cX9_passes3 RX9 (Cond.code yX9_passes3 cX9_passes3 4 (Option.some Jvm.ClassFile.FieldType.boolean) :: zG) 4 (Option.some Jvm.ClassFile.FieldType.boolean) D A a0 M0 0 0) (hnm : meth.name = yX9_passes3.name) (hout : ∀ x ∈ c.exceptionTable.toList, False) : ∀ q ∈ cd_X9_passes3, zSd p l e rm_X9_passes3 s m args below meth c 4 D A a0 M0 K KX 0 0 q.1 q.2 :=
    zall_c (zs_aload_n X (pc := 0) (q := 0) rfl (by decide +kernel)) <|
    zall_c (zs_iload_n X (pc := 1) (q := 1) rfl (by decide +kernel)) <|
    zall_c (zs_if_ne X (pc := 2) (off := 7) (by decide +kernel) (by decide)) <|
    zall_c (zs_iconst X (pc := 5) (by decide) (by decide +kernel)) <|
    zall_c (zs_goto X (pc := 6) (off := 20) (by decide +kernel) (by decide)) <|
    zall_c (zs_iload_n X (pc := 9) (q := 2) rfl (by decide +kernel)) <|
    zall_c (zs_if_ne X (pc := 10) (off := 7) (by decide +kernel) (by decide)) <|
    zall_c (zs_iconst X (pc := 13) (by decide) (by decide +kernel)) <|
    zall_c (zs_goto X (pc := 14) (off := 12) (by decide +kernel) (by decide)) <|
    zall_c (zs_iload_n X (pc := 17) (q := 3) rfl (by decide +kernel)) <|
    zall_c (zs_if_ne X (pc := 18) (off := 7) (by decide +kernel) (by decide)) <|
    zall_c (zs_iconst X (pc := 21) (by decide) (by decide +kernel)) <|
    zall_c (zs_goto X (pc := 22) (off := 4) (by decide +kernel) (by decide)) <|
    zall_c (zs_iconst X (pc := 25) (by decide) (by decide +kernel)) <|
    zall_c (zs_puti X (pc := 26) (ty := Jvm.ClassFile.FieldType.int) zc_X9 (by decide) (zin ui_X9) tyX9_ok nmX9 (.tail _ gw_7_215) rfl (by decide +kernel) (by decide +kernel) (by decide +kernel) zP_int) <|
    zall_c (zs_aload_n X (pc := 29) (q := 0) rfl (by decide +kernel)) <|
    zall_c (zs_geti X (pc := 30) zc_X9 (by decide) (zin ui_X9) (.tail _ gw_7_215) (by decide +kernel) (by decide +kernel)) <|
    zall_c (zs_if_ne X (pc := 33) (off := 7) (by decide +kernel) (by decide)) <|
    zall_c (zs_iconst X (pc := 36) (by decide) (by decide +kernel)) <|
    zall_c (zs_goto X (pc := 37) (off := 4) (by decide +kernel) (by decide)) <|
    zall_c (zs_iconst X (pc := 40) (by decide) (by decide +kernel)) <|
    zall_c (zs_zret X (pc := 41) rfl zR_bool (by decide +kernel)) <|
    zall_n
theorem met_X9_passes3 {l : Launch} (hl : l.stackTraces = false) {T : ZTf} (bd : zBd (cd_X9_passes3) 4 0 0 T) : zMet l yX9_passes3 (Cond.code yX9_passes3 cX9_passes3 4 (Option.some Jvm.ClassFile.FieldType.boolean) :: zG) rm_X9_passes3 0 0 T := zMet_of hl (by decide +kernel) rfl rfl rfl rfl (hs_X9_passes3 hl) bd

abbrev rm_X9_passes2 : Room := { frames := 2, cells := 0, slots := 0, locals := 53 }
def cd_X9_passes2 (T0 : ZTf) : List (Nat × ZTr) := [(0, tAld 0 1), (1, tIld 1 2), (2, tIld 2 3), (3, tC (zi 1) 4), (4, tCall0 4 T0 (zRcv 12) 7), (7, tRi zPz)]
set_option maxRecDepth 100000 in
set_option maxHeartbeats 4000000 in
theorem hs_X9_passes2 {l : Launch} (hl : l.stackTraces = false) {T0 : ZTf} (h0 : zMet l yX9_passes3 (Cond.code yX9_passes3 cX9_passes3 4 (Option.some Jvm.ClassFile.FieldType.boolean) :: zG) rm_X9_passes3 0 0 T0) (p : Program) (e : Env) (s : State) (m : MethodId) (args : Array Value) (below : List Frame) (meth : Method) (c : Code) (D : va_G) (A : Nat → Prop) (a0 : Nat → Nat) (M0 : ZM) (K : ZRet) (KX : ZEx) (X : zCtx p l rm_X9_passes2 s m args meth c cX9_passes2 RX9 (Cond.code yX9_passes2 cX9_passes2 3 (Option.some Jvm.ClassFile.FieldType.boolean) :: zG) 3 (Option.some Jvm.ClassFile.FieldType.boolean) D A a0 M0 0 0) (hnm : meth.name = yX9_passes2.name) (hout : ∀ x ∈ c.exceptionTable.toList, False) : ∀ q ∈ cd_X9_passes2 T0, zSd p l e rm_X9_passes2 s m args below meth c 3 D A a0 M0 K KX 0 0 q.1 q.2 :=
    zall_c (zs_aload_n X (pc := 0) (q := 0) rfl (by decide +kernel)) <|
    zall_c (zs_iload_n X (pc := 1) (q := 1) rfl (by decide +kernel)) <|
    zall_c (zs_iload_n X (pc := 2) (q := 2) rfl (by decide +kernel)) <|
    zall_c (zs_iconst X (pc := 3) (by decide) (by decide +kernel)) <|
    zall_c (zs_callV0 X (pc := 4) zc_X9 (fun _ ht => ⟨(zCB ht gw_8_53 gw_1_13 gw_8_50 rfl rfl (by decide +kernel) ⟨Nat.le_of_ble_eq_true rfl, Nat.le_of_ble_eq_true rfl⟩), ht _ (.tail _ gw_8_52), ht _ (.tail _ gp_29)⟩) h0 hout (by decide +kernel)) <|
    zall_c (zs_zret X (pc := 7) rfl zR_bool (by decide +kernel)) <|
    zall_n
theorem met_X9_passes2 {l : Launch} (hl : l.stackTraces = false) {T0 : ZTf} (h0 : zMet l yX9_passes3 (Cond.code yX9_passes3 cX9_passes3 4 (Option.some Jvm.ClassFile.FieldType.boolean) :: zG) rm_X9_passes3 0 0 T0) {T : ZTf} (bd : zBd (cd_X9_passes2 T0) 3 0 0 T) : zMet l yX9_passes2 (Cond.code yX9_passes2 cX9_passes2 3 (Option.some Jvm.ClassFile.FieldType.boolean) :: zG) rm_X9_passes2 0 0 T := zMet_of hl (by decide +kernel) rfl rfl rfl rfl (hs_X9_passes2 hl h0) bd

abbrev rm_X9_passes : Room := { frames := 2, cells := 0, slots := 0, locals := 53 }
def cd_X9_passes (T0 : ZTf) : List (Nat × ZTr) := [(0, tAld 0 1), (1, tIld 1 2), (2, tC (zi 1) 3), (3, tC (zi 1) 4), (4, tCall0 4 T0 (zRcv 12) 7), (7, tRi zPz)]
set_option maxRecDepth 100000 in
set_option maxHeartbeats 4000000 in
theorem hs_X9_passes {l : Launch} (hl : l.stackTraces = false) {T0 : ZTf} (h0 : zMet l yX9_passes3 (Cond.code yX9_passes3 cX9_passes3 4 (Option.some Jvm.ClassFile.FieldType.boolean) :: zG) rm_X9_passes3 0 0 T0) (p : Program) (e : Env) (s : State) (m : MethodId) (args : Array Value) (below : List Frame) (meth : Method) (c : Code) (D : va_G) (A : Nat → Prop) (a0 : Nat → Nat) (M0 : ZM) (K : ZRet) (KX : ZEx) (X : zCtx p l rm_X9_passes s m args meth c cX9_passes RX9 (Cond.code yX9_passes cX9_passes 2 (Option.some Jvm.ClassFile.FieldType.boolean) :: zG) 2 (Option.some Jvm.ClassFile.FieldType.boolean) D A a0 M0 0 0) (hnm : meth.name = yX9_passes.name) (hout : ∀ x ∈ c.exceptionTable.toList, False) : ∀ q ∈ cd_X9_passes T0, zSd p l e rm_X9_passes s m args below meth c 2 D A a0 M0 K KX 0 0 q.1 q.2 :=
    zall_c (zs_aload_n X (pc := 0) (q := 0) rfl (by decide +kernel)) <|
    zall_c (zs_iload_n X (pc := 1) (q := 1) rfl (by decide +kernel)) <|
    zall_c (zs_iconst X (pc := 2) (by decide) (by decide +kernel)) <|
    zall_c (zs_iconst X (pc := 3) (by decide) (by decide +kernel)) <|
    zall_c (zs_callV0 X (pc := 4) zc_X9 (fun _ ht => ⟨(zCB ht gw_8_53 gw_1_13 gw_8_50 rfl rfl (by decide +kernel) ⟨Nat.le_of_ble_eq_true rfl, Nat.le_of_ble_eq_true rfl⟩), ht _ (.tail _ gw_8_52), ht _ (.tail _ gp_29)⟩) h0 hout (by decide +kernel)) <|
    zall_c (zs_zret X (pc := 7) rfl zR_bool (by decide +kernel)) <|
    zall_n
theorem met_X9_passes {l : Launch} (hl : l.stackTraces = false) {T0 : ZTf} (h0 : zMet l yX9_passes3 (Cond.code yX9_passes3 cX9_passes3 4 (Option.some Jvm.ClassFile.FieldType.boolean) :: zG) rm_X9_passes3 0 0 T0) {T : ZTf} (bd : zBd (cd_X9_passes T0) 2 0 0 T) : zMet l yX9_passes (Cond.code yX9_passes cX9_passes 2 (Option.some Jvm.ClassFile.FieldType.boolean) :: zG) rm_X9_passes 0 0 T := zMet_of hl (by decide +kernel) rfl rfl rfl rfl (hs_X9_passes hl h0) bd

abbrev rm_X9_init : Room := { frames := 1, cells := 9, slots := 6626, locals := 30 }
def cd_X9_init : List (Nat × ZTr) := [(0, tAld 0 1), (1, tObj 4), (4, tAld 0 5), (5, tC (zi 516) 8), (8, tNewA 20 10), (10, tPutR 12 1 13), (13, tAld 0 14), (14, tC (zi 516) 17), (17, tNewA 20 19), (19, tPutR 12 2 22), (22, tAld 0 23), (23, tAld 0 24), (24, tGetR 12 1 27), (27, tPutR 12 3 30), (30, tAld 0 31), (31, tC (zi 516) 34), (34, tNewA 20 36), (36, tPutR 12 4 39), (39, tAld 0 40), (40, tC (zi 500) 43), (43, tNewA 21 45), (45, tPutR 12 5 48), (48, tAld 0 49), (49, tC (zi (-1)) 50), (50, tPutI 12 13 (fun _ => True) 53), (53, tAld 0 54), (54, tC (zi 24) 56), (56, tNewA 20 58), (58, tPutR 12 14 61), (61, tAld 0 62), (62, tC (zi 24) 64), (64, tNewA 22 66), (66, tPutR 12 15 69), (69, tAld 0 70), (70, tC (zi 1032) 73), (73, tNewA 20 75), (75, tPutR 12 16 78), (78, tAld 0 79), (79, tC (zi 2) 80), (80, tNewA 22 82), (82, tPutR 12 17 85), (85, tAld 0 86), (86, tC (zi 3096) 89), (89, tNewA 20 91), (91, tPutR 12 18 94), (94, tAld 0 95), (95, tC (zi 400) 98), (98, tNewA 21 100), (100, tPutR 12 20 103), (103, tAld 0 104), (104, tGetR 12 1 107), (107, tC (zi 1) 108), (108, tC (zi 10) 110), (110, tIas 20 (fun _ => True) 111), (111, tAld 0 112), (112, tGetR 12 1 115), (115, tC (zi 2) 116), (116, tC (zi 5) 117), (117, tIas 20 (fun _ => True) 118), (118, tRv)]
set_option maxRecDepth 100000 in
set_option maxHeartbeats 4000000 in
theorem hs_X9_init {l : Launch} (hl : l.stackTraces = false) (p : Program) (e : Env) (s : State) (m : MethodId) (args : Array Value) (below : List Frame) (meth : Method) (c : Code) (D : va_G) (A : Nat → Prop) (a0 : Nat → Nat) (M0 : ZM) (K : ZRet) (KX : ZEx) (X : zCtx p l rm_X9_init s m args meth c cX9_init RX9 (Cond.code yX9_init cX9_init 1 (Option.none : Option Jvm.ClassFile.FieldType) :: zG) 1 (Option.none : Option Jvm.ClassFile.FieldType) D A a0 M0 9 6626) (hnm : meth.name = yX9_init.name) (hout : ∀ x ∈ c.exceptionTable.toList, False) : ∀ q ∈ cd_X9_init, zSd p l e rm_X9_init s m args below meth c 1 D A a0 M0 K KX 9 6626 q.1 q.2 :=
    zall_c (zs_aload_n X (pc := 0) (q := 0) rfl (by decide +kernel)) <|
    zall_c (zs_objinit X (pc := 1) (.tail _ gw_7_214) (.tail _ gw_1_39) (.tail _ gw_1_40) (by decide) (by decide) (by decide +kernel)) <|
    zall_c (zs_aload_n X (pc := 4) (q := 0) rfl (by decide +kernel)) <|
    zall_c (zs_sipush X (pc := 5) (by decide) (by decide +kernel) (by decide +kernel)) <|
    zall_c (zs_newarray20 X (pc := 8) (.tail _ gw_1_85) (by decide +kernel)) <|
    zall_c (zs_putrF X (pc := 10) (ty := (Jvm.ClassFile.FieldType.array Jvm.ClassFile.FieldType.int)) zc_X9 (by decide) (zin ui_X9) tyX9_ok nmX9 (.tail _ gw_7_216) rfl hnm rfl (by decide +kernel) (by decide +kernel) (by decide +kernel) zP_arr) <|
    zall_c (zs_aload_n X (pc := 13) (q := 0) rfl (by decide +kernel)) <|
    zall_c (zs_sipush X (pc := 14) (by decide) (by decide +kernel) (by decide +kernel)) <|
    zall_c (zs_newarray20 X (pc := 17) (.tail _ gw_1_85) (by decide +kernel)) <|
    zall_c (zs_putrF X (pc := 19) (ty := (Jvm.ClassFile.FieldType.array Jvm.ClassFile.FieldType.int)) zc_X9 (by decide) (zin ui_X9) tyX9_ok nmX9 (.tail _ gw_7_217) rfl hnm rfl (by decide +kernel) (by decide +kernel) (by decide +kernel) zP_arr) <|
    zall_c (zs_aload_n X (pc := 22) (q := 0) rfl (by decide +kernel)) <|
    zall_c (zs_aload_n X (pc := 23) (q := 0) rfl (by decide +kernel)) <|
    zall_c (zs_getr X (pc := 24) zc_X9 (by decide) (zin ui_X9) (.tail _ gw_7_216) (by decide +kernel) (by decide +kernel)) <|
    zall_c (zs_putr X (pc := 27) (ty := (Jvm.ClassFile.FieldType.array Jvm.ClassFile.FieldType.int)) zc_X9 (by decide) (zin ui_X9) tyX9_ok nmX9 (.tail _ gw_7_218) rfl (by decide +kernel) (by decide +kernel) (by decide +kernel) zP_arr) <|
    zall_c (zs_aload_n X (pc := 30) (q := 0) rfl (by decide +kernel)) <|
    zall_c (zs_sipush X (pc := 31) (by decide) (by decide +kernel) (by decide +kernel)) <|
    zall_c (zs_newarray20 X (pc := 34) (.tail _ gw_1_85) (by decide +kernel)) <|
    zall_c (zs_putrF X (pc := 36) (ty := (Jvm.ClassFile.FieldType.array Jvm.ClassFile.FieldType.int)) zc_X9 (by decide) (zin ui_X9) tyX9_ok nmX9 (.tail _ gw_7_219) rfl hnm rfl (by decide +kernel) (by decide +kernel) (by decide +kernel) zP_arr) <|
    zall_c (zs_aload_n X (pc := 39) (q := 0) rfl (by decide +kernel)) <|
    zall_c (zs_sipush X (pc := 40) (by decide) (by decide +kernel) (by decide +kernel)) <|
    zall_c (zs_newarray21 X (pc := 43) (.tail _ gw_1_86) (by decide +kernel)) <|
    zall_c (zs_putrF X (pc := 45) (ty := (Jvm.ClassFile.FieldType.array Jvm.ClassFile.FieldType.byte)) zc_X9 (by decide) (zin ui_X9) tyX9_ok nmX9 (.tail _ gw_7_220) rfl hnm rfl (by decide +kernel) (by decide +kernel) (by decide +kernel) zP_arr) <|
    zall_c (zs_aload_n X (pc := 48) (q := 0) rfl (by decide +kernel)) <|
    zall_c (zs_iconst X (pc := 49) (by decide) (by decide +kernel)) <|
    zall_c (zs_puti X (pc := 50) (ty := Jvm.ClassFile.FieldType.int) zc_X9 (by decide) (zin ui_X9) tyX9_ok nmX9 (.tail _ gw_7_228) rfl (by decide +kernel) (by decide +kernel) (by decide +kernel) zP_int) <|
    zall_c (zs_aload_n X (pc := 53) (q := 0) rfl (by decide +kernel)) <|
    zall_c (zs_bipush X (pc := 54) (by decide) (by decide +kernel) (by decide +kernel)) <|
    zall_c (zs_newarray20 X (pc := 56) (.tail _ gw_1_85) (by decide +kernel)) <|
    zall_c (zs_putrF X (pc := 58) (ty := (Jvm.ClassFile.FieldType.array Jvm.ClassFile.FieldType.int)) zc_X9 (by decide) (zin ui_X9) tyX9_ok nmX9 (.tail _ gw_7_229) rfl hnm rfl (by decide +kernel) (by decide +kernel) (by decide +kernel) zP_arr) <|
    zall_c (zs_aload_n X (pc := 61) (q := 0) rfl (by decide +kernel)) <|
    zall_c (zs_bipush X (pc := 62) (by decide) (by decide +kernel) (by decide +kernel)) <|
    zall_c (zs_newarray22 X (pc := 64) (.tail _ gw_2_118) (by decide +kernel)) <|
    zall_c (zs_putrF X (pc := 66) (ty := (Jvm.ClassFile.FieldType.array Jvm.ClassFile.FieldType.boolean)) zc_X9 (by decide) (zin ui_X9) tyX9_ok nmX9 (.tail _ gw_7_230) rfl hnm rfl (by decide +kernel) (by decide +kernel) (by decide +kernel) zP_arr) <|
    zall_c (zs_aload_n X (pc := 69) (q := 0) rfl (by decide +kernel)) <|
    zall_c (zs_sipush X (pc := 70) (by decide) (by decide +kernel) (by decide +kernel)) <|
    zall_c (zs_newarray20 X (pc := 73) (.tail _ gw_1_85) (by decide +kernel)) <|
    zall_c (zs_putrF X (pc := 75) (ty := (Jvm.ClassFile.FieldType.array Jvm.ClassFile.FieldType.int)) zc_X9 (by decide) (zin ui_X9) tyX9_ok nmX9 (.tail _ gw_7_231) rfl hnm rfl (by decide +kernel) (by decide +kernel) (by decide +kernel) zP_arr) <|
    zall_c (zs_aload_n X (pc := 78) (q := 0) rfl (by decide +kernel)) <|
    zall_c (zs_iconst X (pc := 79) (by decide) (by decide +kernel)) <|
    zall_c (zs_newarray22 X (pc := 80) (.tail _ gw_2_118) (by decide +kernel)) <|
    zall_c (zs_putrF X (pc := 82) (ty := (Jvm.ClassFile.FieldType.array Jvm.ClassFile.FieldType.boolean)) zc_X9 (by decide) (zin ui_X9) tyX9_ok nmX9 (.tail _ gw_7_232) rfl hnm rfl (by decide +kernel) (by decide +kernel) (by decide +kernel) zP_arr) <|
    zall_c (zs_aload_n X (pc := 85) (q := 0) rfl (by decide +kernel)) <|
    zall_c (zs_sipush X (pc := 86) (by decide) (by decide +kernel) (by decide +kernel)) <|
    zall_c (zs_newarray20 X (pc := 89) (.tail _ gw_1_85) (by decide +kernel)) <|
    zall_c (zs_putrF X (pc := 91) (ty := (Jvm.ClassFile.FieldType.array Jvm.ClassFile.FieldType.int)) zc_X9 (by decide) (zin ui_X9) tyX9_ok nmX9 (.tail _ gw_7_233) rfl hnm rfl (by decide +kernel) (by decide +kernel) (by decide +kernel) zP_arr) <|
    zall_c (zs_aload_n X (pc := 94) (q := 0) rfl (by decide +kernel)) <|
    zall_c (zs_sipush X (pc := 95) (by decide) (by decide +kernel) (by decide +kernel)) <|
    zall_c (zs_newarray21 X (pc := 98) (.tail _ gw_1_86) (by decide +kernel)) <|
    zall_c (zs_putrF X (pc := 100) (ty := (Jvm.ClassFile.FieldType.array Jvm.ClassFile.FieldType.byte)) zc_X9 (by decide) (zin ui_X9) tyX9_ok nmX9 (.tail _ gw_7_235) rfl hnm rfl (by decide +kernel) (by decide +kernel) (by decide +kernel) zP_arr) <|
    zall_c (zs_aload_n X (pc := 103) (q := 0) rfl (by decide +kernel)) <|
    zall_c (zs_getr X (pc := 104) zc_X9 (by decide) (zin ui_X9) (.tail _ gw_7_216) (by decide +kernel) (by decide +kernel)) <|
    zall_c (zs_iconst X (pc := 107) (by decide) (by decide +kernel)) <|
    zall_c (zs_bipush X (pc := 108) (by decide) (by decide +kernel) (by decide +kernel)) <|
    zall_c (zs_iastore20 X (pc := 110) (by decide +kernel)) <|
    zall_c (zs_aload_n X (pc := 111) (q := 0) rfl (by decide +kernel)) <|
    zall_c (zs_getr X (pc := 112) zc_X9 (by decide) (zin ui_X9) (.tail _ gw_7_216) (by decide +kernel) (by decide +kernel)) <|
    zall_c (zs_iconst X (pc := 115) (by decide) (by decide +kernel)) <|
    zall_c (zs_iconst X (pc := 116) (by decide) (by decide +kernel)) <|
    zall_c (zs_iastore20 X (pc := 117) (by decide +kernel)) <|
    zall_c (zs_vret X (pc := 118) rfl (by decide +kernel)) <|
    zall_n
theorem met_X9_init {l : Launch} (hl : l.stackTraces = false) {T : ZTf} (bd : zBd (cd_X9_init) 1 9 6626 T) : zMet l yX9_init (Cond.code yX9_init cX9_init 1 (Option.none : Option Jvm.ClassFile.FieldType) :: zG) rm_X9_init 9 6626 T := zMet_of hl (by decide +kernel) rfl rfl rfl rfl (hs_X9_init hl) bd

abbrev rm_X9_table : Room := { frames := 1, cells := 0, slots := 0, locals := 30 }
def cd_X9_table : List (Nat × ZTr) := [(0, tAld 0 1), (1, tGetR 12 3 4), (4, tC (zi 0) 5), (5, tIld 1 6), (6, tAdd 7), (7, tIal 20 8), (8, tRi (fun _ => True))]
set_option maxRecDepth 100000 in
set_option maxHeartbeats 4000000 in
theorem hs_X9_table {l : Launch} (hl : l.stackTraces = false) (p : Program) (e : Env) (s : State) (m : MethodId) (args : Array Value) (below : List Frame) (meth : Method) (c : Code) (D : va_G) (A : Nat → Prop) (a0 : Nat → Nat) (M0 : ZM) (K : ZRet) (KX : ZEx) (X : zCtx p l rm_X9_table s m args meth c cX9_table RX9 (Cond.code yX9_table cX9_table 2 (Option.some Jvm.ClassFile.FieldType.int) :: zG) 2 (Option.some Jvm.ClassFile.FieldType.int) D A a0 M0 0 0) (hnm : meth.name = yX9_table.name) (hout : ∀ x ∈ c.exceptionTable.toList, False) : ∀ q ∈ cd_X9_table, zSd p l e rm_X9_table s m args below meth c 2 D A a0 M0 K KX 0 0 q.1 q.2 :=
    zall_c (zs_aload_n X (pc := 0) (q := 0) rfl (by decide +kernel)) <|
    zall_c (zs_getr X (pc := 1) zc_X9 (by decide) (zin ui_X9) (.tail _ gw_7_218) (by decide +kernel) (by decide +kernel)) <|
    zall_c (zs_iconst X (pc := 4) (by decide) (by decide +kernel)) <|
    zall_c (zs_iload_n X (pc := 5) (q := 1) rfl (by decide +kernel)) <|
    zall_c (zs_iadd X (pc := 6) (by decide +kernel)) <|
    zall_c (zs_iaload20 X (pc := 7) (by decide +kernel)) <|
    zall_c (zs_iret X (pc := 8) rfl (by decide +kernel)) <|
    zall_n
theorem met_X9_table {l : Launch} (hl : l.stackTraces = false) {T : ZTf} (bd : zBd (cd_X9_table) 2 0 0 T) : zMet l yX9_table (Cond.code yX9_table cX9_table 2 (Option.some Jvm.ClassFile.FieldType.int) :: zG) rm_X9_table 0 0 T := zMet_of hl (by decide +kernel) rfl rfl rfl rfl (hs_X9_table hl) bd

abbrev rm_X9_workers : Room := { frames := 1, cells := 0, slots := 0, locals := 30 }
def cd_X9_workers : List (Nat × ZTr) := [(0, tAld 0 1), (1, tGetR 12 3 4), (4, tC (zi 4) 5), (5, tIal 20 6), (6, tRi (fun _ => True))]
set_option maxRecDepth 100000 in
set_option maxHeartbeats 4000000 in
theorem hs_X9_workers {l : Launch} (hl : l.stackTraces = false) (p : Program) (e : Env) (s : State) (m : MethodId) (args : Array Value) (below : List Frame) (meth : Method) (c : Code) (D : va_G) (A : Nat → Prop) (a0 : Nat → Nat) (M0 : ZM) (K : ZRet) (KX : ZEx) (X : zCtx p l rm_X9_workers s m args meth c cX9_workers RX9 (Cond.code yX9_workers cX9_workers 1 (Option.some Jvm.ClassFile.FieldType.int) :: zG) 1 (Option.some Jvm.ClassFile.FieldType.int) D A a0 M0 0 0) (hnm : meth.name = yX9_workers.name) (hout : ∀ x ∈ c.exceptionTable.toList, False) : ∀ q ∈ cd_X9_workers, zSd p l e rm_X9_workers s m args below meth c 1 D A a0 M0 K KX 0 0 q.1 q.2 :=
    zall_c (zs_aload_n X (pc := 0) (q := 0) rfl (by decide +kernel)) <|
    zall_c (zs_getr X (pc := 1) zc_X9 (by decide) (zin ui_X9) (.tail _ gw_7_218) (by decide +kernel) (by decide +kernel)) <|
    zall_c (zs_iconst X (pc := 4) (by decide) (by decide +kernel)) <|
    zall_c (zs_iaload20 X (pc := 5) (by decide +kernel)) <|
    zall_c (zs_iret X (pc := 6) rfl (by decide +kernel)) <|
    zall_n
theorem met_X9_workers {l : Launch} (hl : l.stackTraces = false) {T : ZTf} (bd : zBd (cd_X9_workers) 1 0 0 T) : zMet l yX9_workers (Cond.code yX9_workers cX9_workers 1 (Option.some Jvm.ClassFile.FieldType.int) :: zG) rm_X9_workers 0 0 T := zMet_of hl (by decide +kernel) rfl rfl rfl rfl (hs_X9_workers hl) bd

abbrev rm_X9_rows : Room := { frames := 1, cells := 0, slots := 0, locals := 30 }
def cd_X9_rows : List (Nat × ZTr) := [(0, tAld 0 1), (1, tGetR 12 3 4), (4, tC (zi 5) 5), (5, tIal 20 6), (6, tRi (fun _ => True))]
set_option maxRecDepth 100000 in
set_option maxHeartbeats 4000000 in
theorem hs_X9_rows {l : Launch} (hl : l.stackTraces = false) (p : Program) (e : Env) (s : State) (m : MethodId) (args : Array Value) (below : List Frame) (meth : Method) (c : Code) (D : va_G) (A : Nat → Prop) (a0 : Nat → Nat) (M0 : ZM) (K : ZRet) (KX : ZEx) (X : zCtx p l rm_X9_rows s m args meth c cX9_rows RX9 (Cond.code yX9_rows cX9_rows 1 (Option.some Jvm.ClassFile.FieldType.int) :: zG) 1 (Option.some Jvm.ClassFile.FieldType.int) D A a0 M0 0 0) (hnm : meth.name = yX9_rows.name) (hout : ∀ x ∈ c.exceptionTable.toList, False) : ∀ q ∈ cd_X9_rows, zSd p l e rm_X9_rows s m args below meth c 1 D A a0 M0 K KX 0 0 q.1 q.2 :=
    zall_c (zs_aload_n X (pc := 0) (q := 0) rfl (by decide +kernel)) <|
    zall_c (zs_getr X (pc := 1) zc_X9 (by decide) (zin ui_X9) (.tail _ gw_7_218) (by decide +kernel) (by decide +kernel)) <|
    zall_c (zs_iconst X (pc := 4) (by decide) (by decide +kernel)) <|
    zall_c (zs_iaload20 X (pc := 5) (by decide +kernel)) <|
    zall_c (zs_iret X (pc := 6) rfl (by decide +kernel)) <|
    zall_n
theorem met_X9_rows {l : Launch} (hl : l.stackTraces = false) {T : ZTf} (bd : zBd (cd_X9_rows) 1 0 0 T) : zMet l yX9_rows (Cond.code yX9_rows cX9_rows 1 (Option.some Jvm.ClassFile.FieldType.int) :: zG) rm_X9_rows 0 0 T := zMet_of hl (by decide +kernel) rfl rfl rfl rfl (hs_X9_rows hl) bd

abbrev rm_X9_isWorker : Room := { frames := 2, cells := 0, slots := 0, locals := 55 }
def cd_X9_isWorker (T0 : ZTf) (T1 : ZTf) : List (Nat × ZTr) := [(0, tIld 1 1), (1, tI2l 2), (2, tC (zl 0) 3), (3, tAld 0 4), (4, tCall0 1 T0 (zRcv 12) 7), (7, tC (zi 1) 8), (8, tSub 9), (9, tI2l 10), (10, tCall0 3 T1 zAny 13), (13, tRi zPz)]
set_option maxRecDepth 100000 in
set_option maxHeartbeats 4000000 in
theorem hs_X9_isWorker {l : Launch} (hl : l.stackTraces = false) {T0 : ZTf} {T1 : ZTf} (h0 : zMet l yX9_workers (Cond.code yX9_workers cX9_workers 1 (Option.some Jvm.ClassFile.FieldType.int) :: zG) rm_X9_workers 0 0 T0) (h1 : zMet l yX9_in (Cond.code yX9_in cX9_in 6 (Option.some Jvm.ClassFile.FieldType.boolean) :: zG) rm_X9_in 0 0 T1) (p : Program) (e : Env) (s : State) (m : MethodId) (args : Array Value) (below : List Frame) (meth : Method) (c : Code) (D : va_G) (A : Nat → Prop) (a0 : Nat → Nat) (M0 : ZM) (K : ZRet) (KX : ZEx) (X : zCtx p l rm_X9_isWorker s m args meth c cX9_isWorker RX9 (Cond.code yX9_isWorker cX9_isWorker 2 (Option.some Jvm.ClassFile.FieldType.boolean) :: zG) 2 (Option.some Jvm.ClassFile.FieldType.boolean) D A a0 M0 0 0) (hnm : meth.name = yX9_isWorker.name) (hout : ∀ x ∈ c.exceptionTable.toList, False) : ∀ q ∈ cd_X9_isWorker T0 T1, zSd p l e rm_X9_isWorker s m args below meth c 2 D A a0 M0 K KX 0 0 q.1 q.2 :=
    zall_c (zs_iload_n X (pc := 0) (q := 1) rfl (by decide +kernel)) <|
    zall_c (zs_i2l X (pc := 1) (by decide +kernel)) <|
    zall_c (zs_lconst X (pc := 2) (q := 0) (by decide) (by decide +kernel) rfl) <|
    zall_c (zs_aload_n X (pc := 3) (q := 0) rfl (by decide +kernel)) <|
    zall_c (zs_callV0 X (pc := 4) zc_X9 (fun _ ht => ⟨(zCB ht gw_8_136 gw_1_13 gw_8_133 rfl rfl (by decide +kernel) ⟨Nat.le_of_ble_eq_true rfl, Nat.le_of_ble_eq_true rfl⟩), ht _ (.tail _ gw_8_135), ht _ (.tail _ gp_44)⟩) h0 hout (by decide +kernel)) <|
    zall_c (zs_iconst X (pc := 7) (by decide) (by decide +kernel)) <|
    zall_c (zs_isub X (pc := 8) (by decide +kernel)) <|
    zall_c (zs_i2l X (pc := 9) (by decide +kernel)) <|
    zall_c (zs_callS0 X (pc := 10) (fun _ ht => ⟨(zCB ht gw_8_64 gw_1_13 gw_8_62 rfl rfl (by decide +kernel) ⟨Nat.le_of_ble_eq_true rfl, Nat.le_of_ble_eq_true rfl⟩), ht _ (.tail _ gw_8_63)⟩) h1 hout (by decide +kernel)) <|
    zall_c (zs_zret X (pc := 13) rfl zR_bool (by decide +kernel)) <|
    zall_n
theorem met_X9_isWorker {l : Launch} (hl : l.stackTraces = false) {T0 : ZTf} {T1 : ZTf} (h0 : zMet l yX9_workers (Cond.code yX9_workers cX9_workers 1 (Option.some Jvm.ClassFile.FieldType.int) :: zG) rm_X9_workers 0 0 T0) (h1 : zMet l yX9_in (Cond.code yX9_in cX9_in 6 (Option.some Jvm.ClassFile.FieldType.boolean) :: zG) rm_X9_in 0 0 T1) {T : ZTf} (bd : zBd (cd_X9_isWorker T0 T1) 2 0 0 T) : zMet l yX9_isWorker (Cond.code yX9_isWorker cX9_isWorker 2 (Option.some Jvm.ClassFile.FieldType.boolean) :: zG) rm_X9_isWorker 0 0 T := zMet_of hl (by decide +kernel) rfl rfl rfl rfl (hs_X9_isWorker hl h0 h1) bd

abbrev rm_X9_isRow : Room := { frames := 2, cells := 0, slots := 0, locals := 55 }
def cd_X9_isRow (T0 : ZTf) (T1 : ZTf) : List (Nat × ZTr) := [(0, tIld 1 1), (1, tI2l 2), (2, tC (zl 0) 3), (3, tAld 0 4), (4, tCall0 1 T0 (zRcv 12) 7), (7, tC (zi 1) 8), (8, tSub 9), (9, tI2l 10), (10, tCall0 3 T1 zAny 13), (13, tRi zPz)]
set_option maxRecDepth 100000 in
set_option maxHeartbeats 4000000 in
theorem hs_X9_isRow {l : Launch} (hl : l.stackTraces = false) {T0 : ZTf} {T1 : ZTf} (h0 : zMet l yX9_rows (Cond.code yX9_rows cX9_rows 1 (Option.some Jvm.ClassFile.FieldType.int) :: zG) rm_X9_rows 0 0 T0) (h1 : zMet l yX9_in (Cond.code yX9_in cX9_in 6 (Option.some Jvm.ClassFile.FieldType.boolean) :: zG) rm_X9_in 0 0 T1) (p : Program) (e : Env) (s : State) (m : MethodId) (args : Array Value) (below : List Frame) (meth : Method) (c : Code) (D : va_G) (A : Nat → Prop) (a0 : Nat → Nat) (M0 : ZM) (K : ZRet) (KX : ZEx) (X : zCtx p l rm_X9_isRow s m args meth c cX9_isRow RX9 (Cond.code yX9_isRow cX9_isRow 2 (Option.some Jvm.ClassFile.FieldType.boolean) :: zG) 2 (Option.some Jvm.ClassFile.FieldType.boolean) D A a0 M0 0 0) (hnm : meth.name = yX9_isRow.name) (hout : ∀ x ∈ c.exceptionTable.toList, False) : ∀ q ∈ cd_X9_isRow T0 T1, zSd p l e rm_X9_isRow s m args below meth c 2 D A a0 M0 K KX 0 0 q.1 q.2 :=
    zall_c (zs_iload_n X (pc := 0) (q := 1) rfl (by decide +kernel)) <|
    zall_c (zs_i2l X (pc := 1) (by decide +kernel)) <|
    zall_c (zs_lconst X (pc := 2) (q := 0) (by decide) (by decide +kernel) rfl) <|
    zall_c (zs_aload_n X (pc := 3) (q := 0) rfl (by decide +kernel)) <|
    zall_c (zs_callV0 X (pc := 4) zc_X9 (fun _ ht => ⟨(zCB ht gw_8_173 gw_1_13 gw_8_170 rfl rfl (by decide +kernel) ⟨Nat.le_of_ble_eq_true rfl, Nat.le_of_ble_eq_true rfl⟩), ht _ (.tail _ gw_8_172), ht _ (.tail _ gp_51)⟩) h0 hout (by decide +kernel)) <|
    zall_c (zs_iconst X (pc := 7) (by decide) (by decide +kernel)) <|
    zall_c (zs_isub X (pc := 8) (by decide +kernel)) <|
    zall_c (zs_i2l X (pc := 9) (by decide +kernel)) <|
    zall_c (zs_callS0 X (pc := 10) (fun _ ht => ⟨(zCB ht gw_8_64 gw_1_13 gw_8_62 rfl rfl (by decide +kernel) ⟨Nat.le_of_ble_eq_true rfl, Nat.le_of_ble_eq_true rfl⟩), ht _ (.tail _ gw_8_63)⟩) h1 hout (by decide +kernel)) <|
    zall_c (zs_zret X (pc := 13) rfl zR_bool (by decide +kernel)) <|
    zall_n
theorem met_X9_isRow {l : Launch} (hl : l.stackTraces = false) {T0 : ZTf} {T1 : ZTf} (h0 : zMet l yX9_rows (Cond.code yX9_rows cX9_rows 1 (Option.some Jvm.ClassFile.FieldType.int) :: zG) rm_X9_rows 0 0 T0) (h1 : zMet l yX9_in (Cond.code yX9_in cX9_in 6 (Option.some Jvm.ClassFile.FieldType.boolean) :: zG) rm_X9_in 0 0 T1) {T : ZTf} (bd : zBd (cd_X9_isRow T0 T1) 2 0 0 T) : zMet l yX9_isRow (Cond.code yX9_isRow cX9_isRow 2 (Option.some Jvm.ClassFile.FieldType.boolean) :: zG) rm_X9_isRow 0 0 T := zMet_of hl (by decide +kernel) rfl rfl rfl rfl (hs_X9_isRow hl h0 h1) bd

abbrev rm_X9_ofWorker : Room := { frames := 1, cells := 0, slots := 0, locals := 30 }
def cd_X9_ofWorker : List (Nat × ZTr) := [(0, tAld 0 1), (1, tGetR 12 3 4), (4, tC (zi 6) 6), (6, tC (zi 9) 8), (8, tIld 1 9), (9, tMul 10), (10, tAdd 11), (11, tIld 2 12), (12, tAdd 13), (13, tIal 20 14), (14, tRi (fun _ => True))]
set_option maxRecDepth 100000 in
set_option maxHeartbeats 4000000 in
theorem hs_X9_ofWorker {l : Launch} (hl : l.stackTraces = false) (p : Program) (e : Env) (s : State) (m : MethodId) (args : Array Value) (below : List Frame) (meth : Method) (c : Code) (D : va_G) (A : Nat → Prop) (a0 : Nat → Nat) (M0 : ZM) (K : ZRet) (KX : ZEx) (X : zCtx p l rm_X9_ofWorker s m args meth c cX9_ofWorker RX9 (Cond.code yX9_ofWorker cX9_ofWorker 3 (Option.some Jvm.ClassFile.FieldType.int) :: zG) 3 (Option.some Jvm.ClassFile.FieldType.int) D A a0 M0 0 0) (hnm : meth.name = yX9_ofWorker.name) (hout : ∀ x ∈ c.exceptionTable.toList, False) : ∀ q ∈ cd_X9_ofWorker, zSd p l e rm_X9_ofWorker s m args below meth c 3 D A a0 M0 K KX 0 0 q.1 q.2 :=
    zall_c (zs_aload_n X (pc := 0) (q := 0) rfl (by decide +kernel)) <|
    zall_c (zs_getr X (pc := 1) zc_X9 (by decide) (zin ui_X9) (.tail _ gw_7_218) (by decide +kernel) (by decide +kernel)) <|
    zall_c (zs_bipush X (pc := 4) (by decide) (by decide +kernel) (by decide +kernel)) <|
    zall_c (zs_bipush X (pc := 6) (by decide) (by decide +kernel) (by decide +kernel)) <|
    zall_c (zs_iload_n X (pc := 8) (q := 1) rfl (by decide +kernel)) <|
    zall_c (zs_imul X (pc := 9) (by decide +kernel)) <|
    zall_c (zs_iadd X (pc := 10) (by decide +kernel)) <|
    zall_c (zs_iload_n X (pc := 11) (q := 2) rfl (by decide +kernel)) <|
    zall_c (zs_iadd X (pc := 12) (by decide +kernel)) <|
    zall_c (zs_iaload20 X (pc := 13) (by decide +kernel)) <|
    zall_c (zs_iret X (pc := 14) rfl (by decide +kernel)) <|
    zall_n
theorem met_X9_ofWorker {l : Launch} (hl : l.stackTraces = false) {T : ZTf} (bd : zBd (cd_X9_ofWorker) 3 0 0 T) : zMet l yX9_ofWorker (Cond.code yX9_ofWorker cX9_ofWorker 3 (Option.some Jvm.ClassFile.FieldType.int) :: zG) rm_X9_ofWorker 0 0 T := zMet_of hl (by decide +kernel) rfl rfl rfl rfl (hs_X9_ofWorker hl) bd

abbrev rm_X9_add : Room := { frames := 1, cells := 0, slots := 0, locals := 30 }
def cd_X9_add : List (Nat × ZTr) := [(0, tAld 0 1), (1, tGetR 12 3 4), (4, tC (zi 6) 6), (6, tC (zi 9) 8), (8, tIld 1 9), (9, tMul 10), (10, tAdd 11), (11, tIld 2 12), (12, tAdd 13), (13, tDup2 14), (14, tIal 20 15), (15, tIld 3 16), (16, tAdd 17), (17, tIas 20 (fun _ => True) 18), (18, tRv)]
set_option maxRecDepth 100000 in
set_option maxHeartbeats 4000000 in
theorem hs_X9_add {l : Launch} (hl : l.stackTraces = false) (p : Program) (e : Env) (s : State) (m : MethodId) (args : Array Value) (below : List Frame) (meth : Method) (c : Code) (D : va_G) (A : Nat → Prop) (a0 : Nat → Nat) (M0 : ZM) (K : ZRet) (KX : ZEx) (X : zCtx p l rm_X9_add s m args meth c cX9_add RX9 (Cond.code yX9_add cX9_add 4 (Option.none : Option Jvm.ClassFile.FieldType) :: zG) 4 (Option.none : Option Jvm.ClassFile.FieldType) D A a0 M0 0 0) (hnm : meth.name = yX9_add.name) (hout : ∀ x ∈ c.exceptionTable.toList, False) : ∀ q ∈ cd_X9_add, zSd p l e rm_X9_add s m args below meth c 4 D A a0 M0 K KX 0 0 q.1 q.2 :=
    zall_c (zs_aload_n X (pc := 0) (q := 0) rfl (by decide +kernel)) <|
    zall_c (zs_getr X (pc := 1) zc_X9 (by decide) (zin ui_X9) (.tail _ gw_7_218) (by decide +kernel) (by decide +kernel)) <|
    zall_c (zs_bipush X (pc := 4) (by decide) (by decide +kernel) (by decide +kernel)) <|
    zall_c (zs_bipush X (pc := 6) (by decide) (by decide +kernel) (by decide +kernel)) <|
    zall_c (zs_iload_n X (pc := 8) (q := 1) rfl (by decide +kernel)) <|
    zall_c (zs_imul X (pc := 9) (by decide +kernel)) <|
    zall_c (zs_iadd X (pc := 10) (by decide +kernel)) <|
    zall_c (zs_iload_n X (pc := 11) (q := 2) rfl (by decide +kernel)) <|
    zall_c (zs_iadd X (pc := 12) (by decide +kernel)) <|
    zall_c (zs_dup2 X (pc := 13) (by decide +kernel)) <|
    zall_c (zs_iaload20 X (pc := 14) (by decide +kernel)) <|
    zall_c (zs_iload_n X (pc := 15) (q := 3) rfl (by decide +kernel)) <|
    zall_c (zs_iadd X (pc := 16) (by decide +kernel)) <|
    zall_c (zs_iastore20 X (pc := 17) (by decide +kernel)) <|
    zall_c (zs_vret X (pc := 18) rfl (by decide +kernel)) <|
    zall_n
theorem met_X9_add {l : Launch} (hl : l.stackTraces = false) {T : ZTf} (bd : zBd (cd_X9_add) 4 0 0 T) : zMet l yX9_add (Cond.code yX9_add cX9_add 4 (Option.none : Option Jvm.ClassFile.FieldType) :: zG) rm_X9_add 0 0 T := zMet_of hl (by decide +kernel) rfl rfl rfl rfl (hs_X9_add hl) bd

abbrev rm_X9_trusts : Room := { frames := 1, cells := 0, slots := 0, locals := 30 }
def cd_X9_trusts : List (Nat × ZTr) := [(0, tC (zi 6) 2), (2, tC (zi 9) 4), (4, tIld 1 5), (5, tMul 6), (6, tAdd 7), (7, tC (zi 3) 8), (8, tAdd 9), (9, tIst 3 10), (10, tAld 0 11), (11, tGetR 12 3 14), (14, tIld 3 15), (15, tC (zi 0) 16), (16, tC (zi 20) 18), (18, tAld 0 19), (19, tGetR 12 3 22), (22, tIld 3 23), (23, tIal 20 24), (24, tIld 2 25), (25, tAdd 26), (26, tMth2 zmin 29), (29, tMth2 zmax 32), (32, tIas 20 (fun _ => True) 33), (33, tRv)]
set_option maxRecDepth 100000 in
set_option maxHeartbeats 4000000 in
theorem hs_X9_trusts {l : Launch} (hl : l.stackTraces = false) (p : Program) (e : Env) (s : State) (m : MethodId) (args : Array Value) (below : List Frame) (meth : Method) (c : Code) (D : va_G) (A : Nat → Prop) (a0 : Nat → Nat) (M0 : ZM) (K : ZRet) (KX : ZEx) (X : zCtx p l rm_X9_trusts s m args meth c cX9_trusts RX9 (Cond.code yX9_trusts cX9_trusts 4 (Option.none : Option Jvm.ClassFile.FieldType) :: zG) 4 (Option.none : Option Jvm.ClassFile.FieldType) D A a0 M0 0 0) (hnm : meth.name = yX9_trusts.name) (hout : ∀ x ∈ c.exceptionTable.toList, False) : ∀ q ∈ cd_X9_trusts, zSd p l e rm_X9_trusts s m args below meth c 4 D A a0 M0 K KX 0 0 q.1 q.2 :=
    zall_c (zs_bipush X (pc := 0) (by decide) (by decide +kernel) (by decide +kernel)) <|
    zall_c (zs_bipush X (pc := 2) (by decide) (by decide +kernel) (by decide +kernel)) <|
    zall_c (zs_iload_n X (pc := 4) (q := 1) rfl (by decide +kernel)) <|
    zall_c (zs_imul X (pc := 5) (by decide +kernel)) <|
    zall_c (zs_iadd X (pc := 6) (by decide +kernel)) <|
    zall_c (zs_iconst X (pc := 7) (by decide) (by decide +kernel)) <|
    zall_c (zs_iadd X (pc := 8) (by decide +kernel)) <|
    zall_c (zs_istore_n X (pc := 9) (q := 3) rfl (by decide) (by decide +kernel)) <|
    zall_c (zs_aload_n X (pc := 10) (q := 0) rfl (by decide +kernel)) <|
    zall_c (zs_getr X (pc := 11) zc_X9 (by decide) (zin ui_X9) (.tail _ gw_7_218) (by decide +kernel) (by decide +kernel)) <|
    zall_c (zs_iload_n X (pc := 14) (q := 3) rfl (by decide +kernel)) <|
    zall_c (zs_iconst X (pc := 15) (by decide) (by decide +kernel)) <|
    zall_c (zs_bipush X (pc := 16) (by decide) (by decide +kernel) (by decide +kernel)) <|
    zall_c (zs_aload_n X (pc := 18) (q := 0) rfl (by decide +kernel)) <|
    zall_c (zs_getr X (pc := 19) zc_X9 (by decide) (zin ui_X9) (.tail _ gw_7_218) (by decide +kernel) (by decide +kernel)) <|
    zall_c (zs_iload_n X (pc := 22) (q := 3) rfl (by decide +kernel)) <|
    zall_c (zs_iaload20 X (pc := 23) (by decide +kernel)) <|
    zall_c (zs_iload_n X (pc := 24) (q := 2) rfl (by decide +kernel)) <|
    zall_c (zs_iadd X (pc := 25) (by decide +kernel)) <|
    zall_c (zs_mmin X (pc := 26) (.tail _ gw_8_81) (.tail _ gw_3_110) (.tail _ gw_1_27) (.tail _ gw_3_111) (Nat.le_of_ble_eq_true rfl) (Nat.le_of_ble_eq_true rfl) (by decide +kernel)) <|
    zall_c (zs_mmax X (pc := 29) (.tail _ gw_9_53) (.tail _ gw_3_92) (.tail _ gw_1_27) (.tail _ gw_3_93) (Nat.le_of_ble_eq_true rfl) (Nat.le_of_ble_eq_true rfl) (by decide +kernel)) <|
    zall_c (zs_iastore20 X (pc := 32) (by decide +kernel)) <|
    zall_c (zs_vret X (pc := 33) rfl (by decide +kernel)) <|
    zall_n
theorem met_X9_trusts {l : Launch} (hl : l.stackTraces = false) {T : ZTf} (bd : zBd (cd_X9_trusts) 4 0 0 T) : zMet l yX9_trusts (Cond.code yX9_trusts cX9_trusts 4 (Option.none : Option Jvm.ClassFile.FieldType) :: zG) rm_X9_trusts 0 0 T := zMet_of hl (by decide +kernel) rfl rfl rfl rfl (hs_X9_trusts hl) bd

abbrev rm_X9_ofRow : Room := { frames := 1, cells := 0, slots := 0, locals := 30 }
def cd_X9_ofRow : List (Nat × ZTr) := [(0, tAld 0 1), (1, tGetR 12 3 4), (4, tC (zi 132) 7), (7, tC (zi 16) 9), (9, tIld 1 10), (10, tMul 11), (11, tAdd 12), (12, tIld 2 13), (13, tAdd 14), (14, tIal 20 15), (15, tRi (fun _ => True))]
set_option maxRecDepth 100000 in
set_option maxHeartbeats 4000000 in
theorem hs_X9_ofRow {l : Launch} (hl : l.stackTraces = false) (p : Program) (e : Env) (s : State) (m : MethodId) (args : Array Value) (below : List Frame) (meth : Method) (c : Code) (D : va_G) (A : Nat → Prop) (a0 : Nat → Nat) (M0 : ZM) (K : ZRet) (KX : ZEx) (X : zCtx p l rm_X9_ofRow s m args meth c cX9_ofRow RX9 (Cond.code yX9_ofRow cX9_ofRow 3 (Option.some Jvm.ClassFile.FieldType.int) :: zG) 3 (Option.some Jvm.ClassFile.FieldType.int) D A a0 M0 0 0) (hnm : meth.name = yX9_ofRow.name) (hout : ∀ x ∈ c.exceptionTable.toList, False) : ∀ q ∈ cd_X9_ofRow, zSd p l e rm_X9_ofRow s m args below meth c 3 D A a0 M0 K KX 0 0 q.1 q.2 :=
    zall_c (zs_aload_n X (pc := 0) (q := 0) rfl (by decide +kernel)) <|
    zall_c (zs_getr X (pc := 1) zc_X9 (by decide) (zin ui_X9) (.tail _ gw_7_218) (by decide +kernel) (by decide +kernel)) <|
    zall_c (zs_sipush X (pc := 4) (by decide) (by decide +kernel) (by decide +kernel)) <|
    zall_c (zs_bipush X (pc := 7) (by decide) (by decide +kernel) (by decide +kernel)) <|
    zall_c (zs_iload_n X (pc := 9) (q := 1) rfl (by decide +kernel)) <|
    zall_c (zs_imul X (pc := 10) (by decide +kernel)) <|
    zall_c (zs_iadd X (pc := 11) (by decide +kernel)) <|
    zall_c (zs_iload_n X (pc := 12) (q := 2) rfl (by decide +kernel)) <|
    zall_c (zs_iadd X (pc := 13) (by decide +kernel)) <|
    zall_c (zs_iaload20 X (pc := 14) (by decide +kernel)) <|
    zall_c (zs_iret X (pc := 15) rfl (by decide +kernel)) <|
    zall_n
theorem met_X9_ofRow {l : Launch} (hl : l.stackTraces = false) {T : ZTf} (bd : zBd (cd_X9_ofRow) 3 0 0 T) : zMet l yX9_ofRow (Cond.code yX9_ofRow cX9_ofRow 3 (Option.some Jvm.ClassFile.FieldType.int) :: zG) rm_X9_ofRow 0 0 T := zMet_of hl (by decide +kernel) rfl rfl rfl rfl (hs_X9_ofRow hl) bd

abbrev rm_X9_put : Room := { frames := 1, cells := 0, slots := 0, locals := 30 }
def cd_X9_put : List (Nat × ZTr) := [(0, tAld 0 1), (1, tGetR 12 3 4), (4, tC (zi 132) 7), (7, tC (zi 16) 9), (9, tIld 1 10), (10, tMul 11), (11, tAdd 12), (12, tIld 2 13), (13, tAdd 14), (14, tIld 3 15), (15, tIas 20 (fun _ => True) 16), (16, tRv)]
set_option maxRecDepth 100000 in
set_option maxHeartbeats 4000000 in
theorem hs_X9_put {l : Launch} (hl : l.stackTraces = false) (p : Program) (e : Env) (s : State) (m : MethodId) (args : Array Value) (below : List Frame) (meth : Method) (c : Code) (D : va_G) (A : Nat → Prop) (a0 : Nat → Nat) (M0 : ZM) (K : ZRet) (KX : ZEx) (X : zCtx p l rm_X9_put s m args meth c cX9_put RX9 (Cond.code yX9_put cX9_put 4 (Option.none : Option Jvm.ClassFile.FieldType) :: zG) 4 (Option.none : Option Jvm.ClassFile.FieldType) D A a0 M0 0 0) (hnm : meth.name = yX9_put.name) (hout : ∀ x ∈ c.exceptionTable.toList, False) : ∀ q ∈ cd_X9_put, zSd p l e rm_X9_put s m args below meth c 4 D A a0 M0 K KX 0 0 q.1 q.2 :=
    zall_c (zs_aload_n X (pc := 0) (q := 0) rfl (by decide +kernel)) <|
    zall_c (zs_getr X (pc := 1) zc_X9 (by decide) (zin ui_X9) (.tail _ gw_7_218) (by decide +kernel) (by decide +kernel)) <|
    zall_c (zs_sipush X (pc := 4) (by decide) (by decide +kernel) (by decide +kernel)) <|
    zall_c (zs_bipush X (pc := 7) (by decide) (by decide +kernel) (by decide +kernel)) <|
    zall_c (zs_iload_n X (pc := 9) (q := 1) rfl (by decide +kernel)) <|
    zall_c (zs_imul X (pc := 10) (by decide +kernel)) <|
    zall_c (zs_iadd X (pc := 11) (by decide +kernel)) <|
    zall_c (zs_iload_n X (pc := 12) (q := 2) rfl (by decide +kernel)) <|
    zall_c (zs_iadd X (pc := 13) (by decide +kernel)) <|
    zall_c (zs_iload_n X (pc := 14) (q := 3) rfl (by decide +kernel)) <|
    zall_c (zs_iastore20 X (pc := 15) (by decide +kernel)) <|
    zall_c (zs_vret X (pc := 16) rfl (by decide +kernel)) <|
    zall_n
theorem met_X9_put {l : Launch} (hl : l.stackTraces = false) {T : ZTf} (bd : zBd (cd_X9_put) 4 0 0 T) : zMet l yX9_put (Cond.code yX9_put cX9_put 4 (Option.none : Option Jvm.ClassFile.FieldType) :: zG) rm_X9_put 0 0 T := zMet_of hl (by decide +kernel) rfl rfl rfl rfl (hs_X9_put hl) bd

abbrev rm_X9_manyAt : Room := { frames := 2, cells := 0, slots := 0, locals := 52 }
def cd_X9_manyAt (T0 : ZTf) : List (Nat × ZTr) := [(0, tAld 0 1), (1, tIld 1 2), (2, tC (zi 6) 4), (4, tCall0 3 T0 (zRcv 12) 7), (7, tRi (fun _ => True))]
set_option maxRecDepth 100000 in
set_option maxHeartbeats 4000000 in
theorem hs_X9_manyAt {l : Launch} (hl : l.stackTraces = false) {T0 : ZTf} (h0 : zMet l yX9_ofRow (Cond.code yX9_ofRow cX9_ofRow 3 (Option.some Jvm.ClassFile.FieldType.int) :: zG) rm_X9_ofRow 0 0 T0) (p : Program) (e : Env) (s : State) (m : MethodId) (args : Array Value) (below : List Frame) (meth : Method) (c : Code) (D : va_G) (A : Nat → Prop) (a0 : Nat → Nat) (M0 : ZM) (K : ZRet) (KX : ZEx) (X : zCtx p l rm_X9_manyAt s m args meth c cX9_manyAt RX9 (Cond.code yX9_manyAt cX9_manyAt 2 (Option.some Jvm.ClassFile.FieldType.int) :: zG) 2 (Option.some Jvm.ClassFile.FieldType.int) D A a0 M0 0 0) (hnm : meth.name = yX9_manyAt.name) (hout : ∀ x ∈ c.exceptionTable.toList, False) : ∀ q ∈ cd_X9_manyAt T0, zSd p l e rm_X9_manyAt s m args below meth c 2 D A a0 M0 K KX 0 0 q.1 q.2 :=
    zall_c (zs_aload_n X (pc := 0) (q := 0) rfl (by decide +kernel)) <|
    zall_c (zs_iload_n X (pc := 1) (q := 1) rfl (by decide +kernel)) <|
    zall_c (zs_bipush X (pc := 2) (by decide) (by decide +kernel) (by decide +kernel)) <|
    zall_c (zs_callV0 X (pc := 4) zc_X9 (fun _ ht => ⟨(zCB ht gw_8_239 gw_1_13 gw_8_236 rfl rfl (by decide +kernel) ⟨Nat.le_of_ble_eq_true rfl, Nat.le_of_ble_eq_true rfl⟩), ht _ (.tail _ gw_8_238), ht _ (.tail _ gp_63)⟩) h0 hout (by decide +kernel)) <|
    zall_c (zs_iret X (pc := 7) rfl (by decide +kernel)) <|
    zall_n
theorem met_X9_manyAt {l : Launch} (hl : l.stackTraces = false) {T0 : ZTf} (h0 : zMet l yX9_ofRow (Cond.code yX9_ofRow cX9_ofRow 3 (Option.some Jvm.ClassFile.FieldType.int) :: zG) rm_X9_ofRow 0 0 T0) {T : ZTf} (bd : zBd (cd_X9_manyAt T0) 2 0 0 T) : zMet l yX9_manyAt (Cond.code yX9_manyAt cX9_manyAt 2 (Option.some Jvm.ClassFile.FieldType.int) :: zG) rm_X9_manyAt 0 0 T := zMet_of hl (by decide +kernel) rfl rfl rfl rfl (hs_X9_manyAt hl h0) bd

abbrev rm_X9_ofTaking : Room := { frames := 2, cells := 0, slots := 0, locals := 52 }
def cd_X9_ofTaking (T0 : ZTf) : List (Nat × ZTr) := [(0, tAld 0 1), (1, tIld 1 2), (2, tC (zi 7) 4), (4, tC (zi 3) 5), (5, tIld 2 6), (6, tMul 7), (7, tAdd 8), (8, tIld 3 9), (9, tAdd 10), (10, tCall0 3 T0 (zRcv 12) 13), (13, tRi (fun _ => True))]
set_option maxRecDepth 100000 in
set_option maxHeartbeats 4000000 in
theorem hs_X9_ofTaking {l : Launch} (hl : l.stackTraces = false) {T0 : ZTf} (h0 : zMet l yX9_ofRow (Cond.code yX9_ofRow cX9_ofRow 3 (Option.some Jvm.ClassFile.FieldType.int) :: zG) rm_X9_ofRow 0 0 T0) (p : Program) (e : Env) (s : State) (m : MethodId) (args : Array Value) (below : List Frame) (meth : Method) (c : Code) (D : va_G) (A : Nat → Prop) (a0 : Nat → Nat) (M0 : ZM) (K : ZRet) (KX : ZEx) (X : zCtx p l rm_X9_ofTaking s m args meth c cX9_ofTaking RX9 (Cond.code yX9_ofTaking cX9_ofTaking 4 (Option.some Jvm.ClassFile.FieldType.int) :: zG) 4 (Option.some Jvm.ClassFile.FieldType.int) D A a0 M0 0 0) (hnm : meth.name = yX9_ofTaking.name) (hout : ∀ x ∈ c.exceptionTable.toList, False) : ∀ q ∈ cd_X9_ofTaking T0, zSd p l e rm_X9_ofTaking s m args below meth c 4 D A a0 M0 K KX 0 0 q.1 q.2 :=
    zall_c (zs_aload_n X (pc := 0) (q := 0) rfl (by decide +kernel)) <|
    zall_c (zs_iload_n X (pc := 1) (q := 1) rfl (by decide +kernel)) <|
    zall_c (zs_bipush X (pc := 2) (by decide) (by decide +kernel) (by decide +kernel)) <|
    zall_c (zs_iconst X (pc := 4) (by decide) (by decide +kernel)) <|
    zall_c (zs_iload_n X (pc := 5) (q := 2) rfl (by decide +kernel)) <|
    zall_c (zs_imul X (pc := 6) (by decide +kernel)) <|
    zall_c (zs_iadd X (pc := 7) (by decide +kernel)) <|
    zall_c (zs_iload_n X (pc := 8) (q := 3) rfl (by decide +kernel)) <|
    zall_c (zs_iadd X (pc := 9) (by decide +kernel)) <|
    zall_c (zs_callV0 X (pc := 10) zc_X9 (fun _ ht => ⟨(zCB ht gw_8_239 gw_1_13 gw_8_236 rfl rfl (by decide +kernel) ⟨Nat.le_of_ble_eq_true rfl, Nat.le_of_ble_eq_true rfl⟩), ht _ (.tail _ gw_8_238), ht _ (.tail _ gp_63)⟩) h0 hout (by decide +kernel)) <|
    zall_c (zs_iret X (pc := 13) rfl (by decide +kernel)) <|
    zall_n
theorem met_X9_ofTaking {l : Launch} (hl : l.stackTraces = false) {T0 : ZTf} (h0 : zMet l yX9_ofRow (Cond.code yX9_ofRow cX9_ofRow 3 (Option.some Jvm.ClassFile.FieldType.int) :: zG) rm_X9_ofRow 0 0 T0) {T : ZTf} (bd : zBd (cd_X9_ofTaking T0) 4 0 0 T) : zMet l yX9_ofTaking (Cond.code yX9_ofTaking cX9_ofTaking 4 (Option.some Jvm.ClassFile.FieldType.int) :: zG) rm_X9_ofTaking 0 0 T := zMet_of hl (by decide +kernel) rfl rfl rfl rfl (hs_X9_ofTaking hl h0) bd

abbrev rm_X9_isInWork : Room := { frames := 3, cells := 0, slots := 0, locals := 75 }
def cd_X9_isInWork (T0 : ZTf) : List (Nat × ZTr) := [(0, tAld 0 1), (1, tIld 1 2), (2, tIld 2 3), (3, tC (zi 1) 4), (4, tCall0 4 T0 (zRcv 12) 7), (7, tC (zi (-1)) 8), (8, tIc_ne 15 11), (11, tC (zi 1) 12), (12, tGo 16), (15, tC (zi 0) 16), (16, tRi zPz)]
set_option maxRecDepth 100000 in
set_option maxHeartbeats 4000000 in
theorem hs_X9_isInWork {l : Launch} (hl : l.stackTraces = false) {T0 : ZTf} (h0 : zMet l yX9_ofTaking (Cond.code yX9_ofTaking cX9_ofTaking 4 (Option.some Jvm.ClassFile.FieldType.int) :: zG) rm_X9_ofTaking 0 0 T0) (p : Program) (e : Env) (s : State) (m : MethodId) (args : Array Value) (below : List Frame) (meth : Method) (c : Code) (D : va_G) (A : Nat → Prop) (a0 : Nat → Nat) (M0 : ZM) (K : ZRet) (KX : ZEx) (X : zCtx p l rm_X9_isInWork s m args meth c cX9_isInWork RX9 (Cond.code yX9_isInWork cX9_isInWork 3 (Option.some Jvm.ClassFile.FieldType.boolean) :: zG) 3 (Option.some Jvm.ClassFile.FieldType.boolean) D A a0 M0 0 0) (hnm : meth.name = yX9_isInWork.name) (hout : ∀ x ∈ c.exceptionTable.toList, False) : ∀ q ∈ cd_X9_isInWork T0, zSd p l e rm_X9_isInWork s m args below meth c 3 D A a0 M0 K KX 0 0 q.1 q.2 :=
    zall_c (zs_aload_n X (pc := 0) (q := 0) rfl (by decide +kernel)) <|
    zall_c (zs_iload_n X (pc := 1) (q := 1) rfl (by decide +kernel)) <|
    zall_c (zs_iload_n X (pc := 2) (q := 2) rfl (by decide +kernel)) <|
    zall_c (zs_iconst X (pc := 3) (by decide) (by decide +kernel)) <|
    zall_c (zs_callV0 X (pc := 4) zc_X9 (fun _ ht => ⟨(zCB ht gw_9_36 gw_1_13 gw_9_33 rfl rfl (by decide +kernel) ⟨Nat.le_of_ble_eq_true rfl, Nat.le_of_ble_eq_true rfl⟩), ht _ (.tail _ gw_9_35), ht _ (.tail _ gp_71)⟩) h0 hout (by decide +kernel)) <|
    zall_c (zs_iconst X (pc := 7) (by decide) (by decide +kernel)) <|
    zall_c (zs_icmp_ne X (pc := 8) (off := 7) (by decide +kernel) (by decide)) <|
    zall_c (zs_iconst X (pc := 11) (by decide) (by decide +kernel)) <|
    zall_c (zs_goto X (pc := 12) (off := 4) (by decide +kernel) (by decide)) <|
    zall_c (zs_iconst X (pc := 15) (by decide) (by decide +kernel)) <|
    zall_c (zs_zret X (pc := 16) rfl zR_bool (by decide +kernel)) <|
    zall_n
theorem met_X9_isInWork {l : Launch} (hl : l.stackTraces = false) {T0 : ZTf} (h0 : zMet l yX9_ofTaking (Cond.code yX9_ofTaking cX9_ofTaking 4 (Option.some Jvm.ClassFile.FieldType.int) :: zG) rm_X9_ofTaking 0 0 T0) {T : ZTf} (bd : zBd (cd_X9_isInWork T0) 3 0 0 T) : zMet l yX9_isInWork (Cond.code yX9_isInWork cX9_isInWork 3 (Option.some Jvm.ClassFile.FieldType.boolean) :: zG) rm_X9_isInWork 0 0 T := zMet_of hl (by decide +kernel) rfl rfl rfl rfl (hs_X9_isInWork hl h0) bd

abbrev rm_X9_takingOf : Room := { frames := 3, cells := 0, slots := 0, locals := 75 }
def cd_X9_takingOf (T0 : ZTf) (T1 : ZTf) : List (Nat × ZTr) := [(0, tC (zi 0) 1), (1, tIst 3 2), (2, tIld 3 3), (3, tAld 0 4), (4, tIld 2 5), (5, tCall0 2 T0 (zRcv 12) 8), (8, tIc_ge 30 11), (11, tAld 0 12), (12, tIld 2 13), (13, tIld 3 14), (14, tC (zi 0) 15), (15, tCall0 4 T1 (zRcv 12) 18), (18, tIld 1 19), (19, tIc_ne 24 22), (22, tIld 3 23), (23, tRi (fun _ => True)), (24, tInc 3 1 27), (27, tGo 2), (30, tC (zi (-1)) 31), (31, tRi (fun _ => True))]
set_option maxRecDepth 100000 in
set_option maxHeartbeats 4000000 in
theorem hs_X9_takingOf {l : Launch} (hl : l.stackTraces = false) {T0 : ZTf} {T1 : ZTf} (h0 : zMet l yX9_manyAt (Cond.code yX9_manyAt cX9_manyAt 2 (Option.some Jvm.ClassFile.FieldType.int) :: zG) rm_X9_manyAt 0 0 T0) (h1 : zMet l yX9_ofTaking (Cond.code yX9_ofTaking cX9_ofTaking 4 (Option.some Jvm.ClassFile.FieldType.int) :: zG) rm_X9_ofTaking 0 0 T1) (p : Program) (e : Env) (s : State) (m : MethodId) (args : Array Value) (below : List Frame) (meth : Method) (c : Code) (D : va_G) (A : Nat → Prop) (a0 : Nat → Nat) (M0 : ZM) (K : ZRet) (KX : ZEx) (X : zCtx p l rm_X9_takingOf s m args meth c cX9_takingOf RX9 (Cond.code yX9_takingOf cX9_takingOf 4 (Option.some Jvm.ClassFile.FieldType.int) :: zG) 4 (Option.some Jvm.ClassFile.FieldType.int) D A a0 M0 0 0) (hnm : meth.name = yX9_takingOf.name) (hout : ∀ x ∈ c.exceptionTable.toList, False) : ∀ q ∈ cd_X9_takingOf T0 T1, zSd p l e rm_X9_takingOf s m args below meth c 4 D A a0 M0 K KX 0 0 q.1 q.2 :=
    zall_c (zs_iconst X (pc := 0) (by decide) (by decide +kernel)) <|
    zall_c (zs_istore_n X (pc := 1) (q := 3) rfl (by decide) (by decide +kernel)) <|
    zall_c (zs_iload_n X (pc := 2) (q := 3) rfl (by decide +kernel)) <|
    zall_c (zs_aload_n X (pc := 3) (q := 0) rfl (by decide +kernel)) <|
    zall_c (zs_iload_n X (pc := 4) (q := 2) rfl (by decide +kernel)) <|
    zall_c (zs_callV0 X (pc := 5) zc_X9 (fun _ ht => ⟨(zCB ht gw_9_32 gw_1_13 gw_9_29 rfl rfl (by decide +kernel) ⟨Nat.le_of_ble_eq_true rfl, Nat.le_of_ble_eq_true rfl⟩), ht _ (.tail _ gw_9_31), ht _ (.tail _ gp_70)⟩) h0 hout (by decide +kernel)) <|
    zall_c (zs_icmp_ge X (pc := 8) (off := 22) (by decide +kernel) (by decide)) <|
    zall_c (zs_aload_n X (pc := 11) (q := 0) rfl (by decide +kernel)) <|
    zall_c (zs_iload_n X (pc := 12) (q := 2) rfl (by decide +kernel)) <|
    zall_c (zs_iload_n X (pc := 13) (q := 3) rfl (by decide +kernel)) <|
    zall_c (zs_iconst X (pc := 14) (by decide) (by decide +kernel)) <|
    zall_c (zs_callV0 X (pc := 15) zc_X9 (fun _ ht => ⟨(zCB ht gw_9_36 gw_1_13 gw_9_33 rfl rfl (by decide +kernel) ⟨Nat.le_of_ble_eq_true rfl, Nat.le_of_ble_eq_true rfl⟩), ht _ (.tail _ gw_9_35), ht _ (.tail _ gp_71)⟩) h1 hout (by decide +kernel)) <|
    zall_c (zs_iload_n X (pc := 18) (q := 1) rfl (by decide +kernel)) <|
    zall_c (zs_icmp_ne X (pc := 19) (off := 5) (by decide +kernel) (by decide)) <|
    zall_c (zs_iload_n X (pc := 22) (q := 3) rfl (by decide +kernel)) <|
    zall_c (zs_iret X (pc := 23) rfl (by decide +kernel)) <|
    zall_c (zs_iinc X (pc := 24) (by decide) (by decide +kernel)) <|
    zall_c (zs_goto X (pc := 27) (off := (-25)) (by decide +kernel) (by decide)) <|
    zall_c (zs_iconst X (pc := 30) (by decide) (by decide +kernel)) <|
    zall_c (zs_iret X (pc := 31) rfl (by decide +kernel)) <|
    zall_n
theorem met_X9_takingOf {l : Launch} (hl : l.stackTraces = false) {T0 : ZTf} {T1 : ZTf} (h0 : zMet l yX9_manyAt (Cond.code yX9_manyAt cX9_manyAt 2 (Option.some Jvm.ClassFile.FieldType.int) :: zG) rm_X9_manyAt 0 0 T0) (h1 : zMet l yX9_ofTaking (Cond.code yX9_ofTaking cX9_ofTaking 4 (Option.some Jvm.ClassFile.FieldType.int) :: zG) rm_X9_ofTaking 0 0 T1) {T : ZTf} (bd : zBd (cd_X9_takingOf T0 T1) 4 0 0 T) : zMet l yX9_takingOf (Cond.code yX9_takingOf cX9_takingOf 4 (Option.some Jvm.ClassFile.FieldType.int) :: zG) rm_X9_takingOf 0 0 T := zMet_of hl (by decide +kernel) rfl rfl rfl rfl (hs_X9_takingOf hl h0 h1) bd

abbrev rm_X9_resultOf : Room := { frames := 4, cells := 0, slots := 0, locals := 98 }
def cd_X9_resultOf (T0 : ZTf) (T1 : ZTf) : List (Nat × ZTr) := [(0, tAld 0 1), (1, tIld 1 2), (2, tIld 2 3), (3, tCall0 3 T0 (zRcv 12) 6), (6, tIst 3 7), (7, tIld 3 8), (8, tC (zi (-1)) 9), (9, tIc_ne 16 12), (12, tC (zi (-1)) 13), (13, tGo 23), (16, tAld 0 17), (17, tIld 2 18), (18, tIld 3 19), (19, tC (zi 1) 20), (20, tCall0 4 T1 (zRcv 12) 23), (23, tRi (fun _ => True))]
set_option maxRecDepth 100000 in
set_option maxHeartbeats 4000000 in
theorem hs_X9_resultOf {l : Launch} (hl : l.stackTraces = false) {T0 : ZTf} {T1 : ZTf} (h0 : zMet l yX9_takingOf (Cond.code yX9_takingOf cX9_takingOf 4 (Option.some Jvm.ClassFile.FieldType.int) :: zG) rm_X9_takingOf 0 0 T0) (h1 : zMet l yX9_ofTaking (Cond.code yX9_ofTaking cX9_ofTaking 4 (Option.some Jvm.ClassFile.FieldType.int) :: zG) rm_X9_ofTaking 0 0 T1) (p : Program) (e : Env) (s : State) (m : MethodId) (args : Array Value) (below : List Frame) (meth : Method) (c : Code) (D : va_G) (A : Nat → Prop) (a0 : Nat → Nat) (M0 : ZM) (K : ZRet) (KX : ZEx) (X : zCtx p l rm_X9_resultOf s m args meth c cX9_resultOf RX9 (Cond.code yX9_resultOf cX9_resultOf 4 (Option.some Jvm.ClassFile.FieldType.int) :: zG) 4 (Option.some Jvm.ClassFile.FieldType.int) D A a0 M0 0 0) (hnm : meth.name = yX9_resultOf.name) (hout : ∀ x ∈ c.exceptionTable.toList, False) : ∀ q ∈ cd_X9_resultOf T0 T1, zSd p l e rm_X9_resultOf s m args below meth c 4 D A a0 M0 K KX 0 0 q.1 q.2 :=
    zall_c (zs_aload_n X (pc := 0) (q := 0) rfl (by decide +kernel)) <|
    zall_c (zs_iload_n X (pc := 1) (q := 1) rfl (by decide +kernel)) <|
    zall_c (zs_iload_n X (pc := 2) (q := 2) rfl (by decide +kernel)) <|
    zall_c (zs_callV0 X (pc := 3) zc_X9 (fun _ ht => ⟨(zCB ht gw_9_28 gw_1_13 gw_9_25 rfl rfl (by decide +kernel) ⟨Nat.le_of_ble_eq_true rfl, Nat.le_of_ble_eq_true rfl⟩), ht _ (.tail _ gw_9_27), ht _ (.tail _ gp_69)⟩) h0 hout (by decide +kernel)) <|
    zall_c (zs_istore_n X (pc := 6) (q := 3) rfl (by decide) (by decide +kernel)) <|
    zall_c (zs_iload_n X (pc := 7) (q := 3) rfl (by decide +kernel)) <|
    zall_c (zs_iconst X (pc := 8) (by decide) (by decide +kernel)) <|
    zall_c (zs_icmp_ne X (pc := 9) (off := 7) (by decide +kernel) (by decide)) <|
    zall_c (zs_iconst X (pc := 12) (by decide) (by decide +kernel)) <|
    zall_c (zs_goto X (pc := 13) (off := 10) (by decide +kernel) (by decide)) <|
    zall_c (zs_aload_n X (pc := 16) (q := 0) rfl (by decide +kernel)) <|
    zall_c (zs_iload_n X (pc := 17) (q := 2) rfl (by decide +kernel)) <|
    zall_c (zs_iload_n X (pc := 18) (q := 3) rfl (by decide +kernel)) <|
    zall_c (zs_iconst X (pc := 19) (by decide) (by decide +kernel)) <|
    zall_c (zs_callV0 X (pc := 20) zc_X9 (fun _ ht => ⟨(zCB ht gw_9_36 gw_1_13 gw_9_33 rfl rfl (by decide +kernel) ⟨Nat.le_of_ble_eq_true rfl, Nat.le_of_ble_eq_true rfl⟩), ht _ (.tail _ gw_9_35), ht _ (.tail _ gp_71)⟩) h1 hout (by decide +kernel)) <|
    zall_c (zs_iret X (pc := 23) rfl (by decide +kernel)) <|
    zall_n
theorem met_X9_resultOf {l : Launch} (hl : l.stackTraces = false) {T0 : ZTf} {T1 : ZTf} (h0 : zMet l yX9_takingOf (Cond.code yX9_takingOf cX9_takingOf 4 (Option.some Jvm.ClassFile.FieldType.int) :: zG) rm_X9_takingOf 0 0 T0) (h1 : zMet l yX9_ofTaking (Cond.code yX9_ofTaking cX9_ofTaking 4 (Option.some Jvm.ClassFile.FieldType.int) :: zG) rm_X9_ofTaking 0 0 T1) {T : ZTf} (bd : zBd (cd_X9_resultOf T0 T1) 4 0 0 T) : zMet l yX9_resultOf (Cond.code yX9_resultOf cX9_resultOf 4 (Option.some Jvm.ClassFile.FieldType.int) :: zG) rm_X9_resultOf 0 0 T := zMet_of hl (by decide +kernel) rfl rfl rfl rfl (hs_X9_resultOf hl h0 h1) bd

abbrev rm_X9_worksAt : Room := { frames := 4, cells := 0, slots := 0, locals := 98 }
def cd_X9_worksAt (T0 : ZTf) (T1 : ZTf) : List (Nat × ZTr) := [(0, tAld 0 1), (1, tIld 1 2), (2, tIld 2 3), (3, tCall0 3 T0 (zRcv 12) 6), (6, tIst 3 7), (7, tIld 3 8), (8, tC (zi (-1)) 9), (9, tIc_eq 25 12), (12, tAld 0 13), (13, tIld 2 14), (14, tIld 3 15), (15, tCall0 3 T1 (zRcv 12) 18), (18, tIf_eq 25 21), (21, tC (zi 1) 22), (22, tGo 26), (25, tC (zi 0) 26), (26, tRi zPz)]
set_option maxRecDepth 100000 in
set_option maxHeartbeats 4000000 in
theorem hs_X9_worksAt {l : Launch} (hl : l.stackTraces = false) {T0 : ZTf} {T1 : ZTf} (h0 : zMet l yX9_takingOf (Cond.code yX9_takingOf cX9_takingOf 4 (Option.some Jvm.ClassFile.FieldType.int) :: zG) rm_X9_takingOf 0 0 T0) (h1 : zMet l yX9_isInWork (Cond.code yX9_isInWork cX9_isInWork 3 (Option.some Jvm.ClassFile.FieldType.boolean) :: zG) rm_X9_isInWork 0 0 T1) (p : Program) (e : Env) (s : State) (m : MethodId) (args : Array Value) (below : List Frame) (meth : Method) (c : Code) (D : va_G) (A : Nat → Prop) (a0 : Nat → Nat) (M0 : ZM) (K : ZRet) (KX : ZEx) (X : zCtx p l rm_X9_worksAt s m args meth c cX9_worksAt RX9 (Cond.code yX9_worksAt cX9_worksAt 4 (Option.some Jvm.ClassFile.FieldType.boolean) :: zG) 4 (Option.some Jvm.ClassFile.FieldType.boolean) D A a0 M0 0 0) (hnm : meth.name = yX9_worksAt.name) (hout : ∀ x ∈ c.exceptionTable.toList, False) : ∀ q ∈ cd_X9_worksAt T0 T1, zSd p l e rm_X9_worksAt s m args below meth c 4 D A a0 M0 K KX 0 0 q.1 q.2 :=
    zall_c (zs_aload_n X (pc := 0) (q := 0) rfl (by decide +kernel)) <|
    zall_c (zs_iload_n X (pc := 1) (q := 1) rfl (by decide +kernel)) <|
    zall_c (zs_iload_n X (pc := 2) (q := 2) rfl (by decide +kernel)) <|
    zall_c (zs_callV0 X (pc := 3) zc_X9 (fun _ ht => ⟨(zCB ht gw_9_28 gw_1_13 gw_9_25 rfl rfl (by decide +kernel) ⟨Nat.le_of_ble_eq_true rfl, Nat.le_of_ble_eq_true rfl⟩), ht _ (.tail _ gw_9_27), ht _ (.tail _ gp_69)⟩) h0 hout (by decide +kernel)) <|
    zall_c (zs_istore_n X (pc := 6) (q := 3) rfl (by decide) (by decide +kernel)) <|
    zall_c (zs_iload_n X (pc := 7) (q := 3) rfl (by decide +kernel)) <|
    zall_c (zs_iconst X (pc := 8) (by decide) (by decide +kernel)) <|
    zall_c (zs_icmp_eq X (pc := 9) (off := 16) (by decide +kernel) (by decide)) <|
    zall_c (zs_aload_n X (pc := 12) (q := 0) rfl (by decide +kernel)) <|
    zall_c (zs_iload_n X (pc := 13) (q := 2) rfl (by decide +kernel)) <|
    zall_c (zs_iload_n X (pc := 14) (q := 3) rfl (by decide +kernel)) <|
    zall_c (zs_callV0 X (pc := 15) zc_X9 (fun _ ht => ⟨(zCB ht gw_9_40 gw_1_13 gw_9_37 rfl rfl (by decide +kernel) ⟨Nat.le_of_ble_eq_true rfl, Nat.le_of_ble_eq_true rfl⟩), ht _ (.tail _ gw_9_39), ht _ (.tail _ gp_72)⟩) h1 hout (by decide +kernel)) <|
    zall_c (zs_if_eq X (pc := 18) (off := 7) (by decide +kernel) (by decide)) <|
    zall_c (zs_iconst X (pc := 21) (by decide) (by decide +kernel)) <|
    zall_c (zs_goto X (pc := 22) (off := 4) (by decide +kernel) (by decide)) <|
    zall_c (zs_iconst X (pc := 25) (by decide) (by decide +kernel)) <|
    zall_c (zs_zret X (pc := 26) rfl zR_bool (by decide +kernel)) <|
    zall_n
theorem met_X9_worksAt {l : Launch} (hl : l.stackTraces = false) {T0 : ZTf} {T1 : ZTf} (h0 : zMet l yX9_takingOf (Cond.code yX9_takingOf cX9_takingOf 4 (Option.some Jvm.ClassFile.FieldType.int) :: zG) rm_X9_takingOf 0 0 T0) (h1 : zMet l yX9_isInWork (Cond.code yX9_isInWork cX9_isInWork 3 (Option.some Jvm.ClassFile.FieldType.boolean) :: zG) rm_X9_isInWork 0 0 T1) {T : ZTf} (bd : zBd (cd_X9_worksAt T0 T1) 4 0 0 T) : zMet l yX9_worksAt (Cond.code yX9_worksAt cX9_worksAt 4 (Option.some Jvm.ClassFile.FieldType.boolean) :: zG) rm_X9_worksAt 0 0 T := zMet_of hl (by decide +kernel) rfl rfl rfl rfl (hs_X9_worksAt hl h0 h1) bd

abbrev rm_X9_inWork : Room := { frames := 5, cells := 0, slots := 0, locals := 121 }
def cd_X9_inWork (T0 : ZTf) (T1 : ZTf) : List (Nat × ZTr) := [(0, tC (zi 0) 1), (1, tIst 2 2), (2, tC (zi 0) 3), (3, tIst 3 4), (4, tIld 3 5), (5, tAld 0 6), (6, tCall0 1 T0 (zRcv 12) 9), (9, tIc_ge 35 12), (12, tIld 2 13), (13, tAld 0 14), (14, tIld 1 15), (15, tIld 3 16), (16, tCall0 3 T1 (zRcv 12) 19), (19, tIf_eq 26 22), (22, tC (zi 1) 23), (23, tGo 27), (26, tC (zi 0) 27), (27, tAdd 28), (28, tIst 2 29), (29, tInc 3 1 32), (32, tGo 4), (35, tIld 2 36), (36, tRi (fun _ => True))]
set_option maxRecDepth 100000 in
set_option maxHeartbeats 4000000 in
theorem hs_X9_inWork {l : Launch} (hl : l.stackTraces = false) {T0 : ZTf} {T1 : ZTf} (h0 : zMet l yX9_rows (Cond.code yX9_rows cX9_rows 1 (Option.some Jvm.ClassFile.FieldType.int) :: zG) rm_X9_rows 0 0 T0) (h1 : zMet l yX9_worksAt (Cond.code yX9_worksAt cX9_worksAt 4 (Option.some Jvm.ClassFile.FieldType.boolean) :: zG) rm_X9_worksAt 0 0 T1) (p : Program) (e : Env) (s : State) (m : MethodId) (args : Array Value) (below : List Frame) (meth : Method) (c : Code) (D : va_G) (A : Nat → Prop) (a0 : Nat → Nat) (M0 : ZM) (K : ZRet) (KX : ZEx) (X : zCtx p l rm_X9_inWork s m args meth c cX9_inWork RX9 (Cond.code yX9_inWork cX9_inWork 4 (Option.some Jvm.ClassFile.FieldType.int) :: zG) 4 (Option.some Jvm.ClassFile.FieldType.int) D A a0 M0 0 0) (hnm : meth.name = yX9_inWork.name) (hout : ∀ x ∈ c.exceptionTable.toList, False) : ∀ q ∈ cd_X9_inWork T0 T1, zSd p l e rm_X9_inWork s m args below meth c 4 D A a0 M0 K KX 0 0 q.1 q.2 :=
    zall_c (zs_iconst X (pc := 0) (by decide) (by decide +kernel)) <|
    zall_c (zs_istore_n X (pc := 1) (q := 2) rfl (by decide) (by decide +kernel)) <|
    zall_c (zs_iconst X (pc := 2) (by decide) (by decide +kernel)) <|
    zall_c (zs_istore_n X (pc := 3) (q := 3) rfl (by decide) (by decide +kernel)) <|
    zall_c (zs_iload_n X (pc := 4) (q := 3) rfl (by decide +kernel)) <|
    zall_c (zs_aload_n X (pc := 5) (q := 0) rfl (by decide +kernel)) <|
    zall_c (zs_callV0 X (pc := 6) zc_X9 (fun _ ht => ⟨(zCB ht gw_8_173 gw_1_13 gw_8_170 rfl rfl (by decide +kernel) ⟨Nat.le_of_ble_eq_true rfl, Nat.le_of_ble_eq_true rfl⟩), ht _ (.tail _ gw_8_172), ht _ (.tail _ gp_51)⟩) h0 hout (by decide +kernel)) <|
    zall_c (zs_icmp_ge X (pc := 9) (off := 26) (by decide +kernel) (by decide)) <|
    zall_c (zs_iload_n X (pc := 12) (q := 2) rfl (by decide +kernel)) <|
    zall_c (zs_aload_n X (pc := 13) (q := 0) rfl (by decide +kernel)) <|
    zall_c (zs_iload_n X (pc := 14) (q := 1) rfl (by decide +kernel)) <|
    zall_c (zs_iload_n X (pc := 15) (q := 3) rfl (by decide +kernel)) <|
    zall_c (zs_callV0 X (pc := 16) zc_X9 (fun _ ht => ⟨(zCB ht gw_9_24 gw_1_13 gw_9_21 rfl rfl (by decide +kernel) ⟨Nat.le_of_ble_eq_true rfl, Nat.le_of_ble_eq_true rfl⟩), ht _ (.tail _ gw_9_23), ht _ (.tail _ gp_68)⟩) h1 hout (by decide +kernel)) <|
    zall_c (zs_if_eq X (pc := 19) (off := 7) (by decide +kernel) (by decide)) <|
    zall_c (zs_iconst X (pc := 22) (by decide) (by decide +kernel)) <|
    zall_c (zs_goto X (pc := 23) (off := 4) (by decide +kernel) (by decide)) <|
    zall_c (zs_iconst X (pc := 26) (by decide) (by decide +kernel)) <|
    zall_c (zs_iadd X (pc := 27) (by decide +kernel)) <|
    zall_c (zs_istore_n X (pc := 28) (q := 2) rfl (by decide) (by decide +kernel)) <|
    zall_c (zs_iinc X (pc := 29) (by decide) (by decide +kernel)) <|
    zall_c (zs_goto X (pc := 32) (off := (-28)) (by decide +kernel) (by decide)) <|
    zall_c (zs_iload_n X (pc := 35) (q := 2) rfl (by decide +kernel)) <|
    zall_c (zs_iret X (pc := 36) rfl (by decide +kernel)) <|
    zall_n
theorem met_X9_inWork {l : Launch} (hl : l.stackTraces = false) {T0 : ZTf} {T1 : ZTf} (h0 : zMet l yX9_rows (Cond.code yX9_rows cX9_rows 1 (Option.some Jvm.ClassFile.FieldType.int) :: zG) rm_X9_rows 0 0 T0) (h1 : zMet l yX9_worksAt (Cond.code yX9_worksAt cX9_worksAt 4 (Option.some Jvm.ClassFile.FieldType.boolean) :: zG) rm_X9_worksAt 0 0 T1) {T : ZTf} (bd : zBd (cd_X9_inWork T0 T1) 4 0 0 T) : zMet l yX9_inWork (Cond.code yX9_inWork cX9_inWork 4 (Option.some Jvm.ClassFile.FieldType.int) :: zG) rm_X9_inWork 0 0 T := zMet_of hl (by decide +kernel) rfl rfl rfl rfl (hs_X9_inWork hl h0 h1) bd

abbrev rm_X9_needs : Room := { frames := 3, cells := 0, slots := 0, locals := 73 }
def cd_X9_needs (T0 : ZTf) (T1 : ZTf) : List (Nat × ZTr) := [(0, tAld 0 1), (1, tIld 1 2), (2, tC (zi 1) 3), (3, tCall0 3 T0 (zRcv 12) 6), (6, tIst 2 7), (7, tIld 2 8), (8, tIf_ne 15 11), (11, tC (zi 2) 12), (12, tGo 25), (15, tIld 2 16), (16, tC (zi 1) 17), (17, tIc_ne 24 20), (20, tC (zi 3) 21), (21, tGo 25), (24, tC (zi 0) 25), (25, tIst 3 26), (26, tC (zi 0) 27), (27, tIld 3 28), (28, tAld 0 29), (29, tIld 1 30), (30, tCall0 2 T1 (zRcv 12) 33), (33, tSub 34), (34, tMth2 zmax 37), (37, tRi (fun _ => True))]
set_option maxRecDepth 100000 in
set_option maxHeartbeats 4000000 in
theorem hs_X9_needs {l : Launch} (hl : l.stackTraces = false) {T0 : ZTf} {T1 : ZTf} (h0 : zMet l yX9_ofRow (Cond.code yX9_ofRow cX9_ofRow 3 (Option.some Jvm.ClassFile.FieldType.int) :: zG) rm_X9_ofRow 0 0 T0) (h1 : zMet l yX9_manyAt (Cond.code yX9_manyAt cX9_manyAt 2 (Option.some Jvm.ClassFile.FieldType.int) :: zG) rm_X9_manyAt 0 0 T1) (p : Program) (e : Env) (s : State) (m : MethodId) (args : Array Value) (below : List Frame) (meth : Method) (c : Code) (D : va_G) (A : Nat → Prop) (a0 : Nat → Nat) (M0 : ZM) (K : ZRet) (KX : ZEx) (X : zCtx p l rm_X9_needs s m args meth c cX9_needs RX9 (Cond.code yX9_needs cX9_needs 4 (Option.some Jvm.ClassFile.FieldType.int) :: zG) 4 (Option.some Jvm.ClassFile.FieldType.int) D A a0 M0 0 0) (hnm : meth.name = yX9_needs.name) (hout : ∀ x ∈ c.exceptionTable.toList, False) : ∀ q ∈ cd_X9_needs T0 T1, zSd p l e rm_X9_needs s m args below meth c 4 D A a0 M0 K KX 0 0 q.1 q.2 :=
    zall_c (zs_aload_n X (pc := 0) (q := 0) rfl (by decide +kernel)) <|
    zall_c (zs_iload_n X (pc := 1) (q := 1) rfl (by decide +kernel)) <|
    zall_c (zs_iconst X (pc := 2) (by decide) (by decide +kernel)) <|
    zall_c (zs_callV0 X (pc := 3) zc_X9 (fun _ ht => ⟨(zCB ht gw_8_239 gw_1_13 gw_8_236 rfl rfl (by decide +kernel) ⟨Nat.le_of_ble_eq_true rfl, Nat.le_of_ble_eq_true rfl⟩), ht _ (.tail _ gw_8_238), ht _ (.tail _ gp_63)⟩) h0 hout (by decide +kernel)) <|
    zall_c (zs_istore_n X (pc := 6) (q := 2) rfl (by decide) (by decide +kernel)) <|
    zall_c (zs_iload_n X (pc := 7) (q := 2) rfl (by decide +kernel)) <|
    zall_c (zs_if_ne X (pc := 8) (off := 7) (by decide +kernel) (by decide)) <|
    zall_c (zs_iconst X (pc := 11) (by decide) (by decide +kernel)) <|
    zall_c (zs_goto X (pc := 12) (off := 13) (by decide +kernel) (by decide)) <|
    zall_c (zs_iload_n X (pc := 15) (q := 2) rfl (by decide +kernel)) <|
    zall_c (zs_iconst X (pc := 16) (by decide) (by decide +kernel)) <|
    zall_c (zs_icmp_ne X (pc := 17) (off := 7) (by decide +kernel) (by decide)) <|
    zall_c (zs_iconst X (pc := 20) (by decide) (by decide +kernel)) <|
    zall_c (zs_goto X (pc := 21) (off := 4) (by decide +kernel) (by decide)) <|
    zall_c (zs_iconst X (pc := 24) (by decide) (by decide +kernel)) <|
    zall_c (zs_istore_n X (pc := 25) (q := 3) rfl (by decide) (by decide +kernel)) <|
    zall_c (zs_iconst X (pc := 26) (by decide) (by decide +kernel)) <|
    zall_c (zs_iload_n X (pc := 27) (q := 3) rfl (by decide +kernel)) <|
    zall_c (zs_aload_n X (pc := 28) (q := 0) rfl (by decide +kernel)) <|
    zall_c (zs_iload_n X (pc := 29) (q := 1) rfl (by decide +kernel)) <|
    zall_c (zs_callV0 X (pc := 30) zc_X9 (fun _ ht => ⟨(zCB ht gw_9_32 gw_1_13 gw_9_29 rfl rfl (by decide +kernel) ⟨Nat.le_of_ble_eq_true rfl, Nat.le_of_ble_eq_true rfl⟩), ht _ (.tail _ gw_9_31), ht _ (.tail _ gp_70)⟩) h1 hout (by decide +kernel)) <|
    zall_c (zs_isub X (pc := 33) (by decide +kernel)) <|
    zall_c (zs_mmax X (pc := 34) (.tail _ gw_9_53) (.tail _ gw_3_92) (.tail _ gw_1_27) (.tail _ gw_3_93) (Nat.le_of_ble_eq_true rfl) (Nat.le_of_ble_eq_true rfl) (by decide +kernel)) <|
    zall_c (zs_iret X (pc := 37) rfl (by decide +kernel)) <|
    zall_n
theorem met_X9_needs {l : Launch} (hl : l.stackTraces = false) {T0 : ZTf} {T1 : ZTf} (h0 : zMet l yX9_ofRow (Cond.code yX9_ofRow cX9_ofRow 3 (Option.some Jvm.ClassFile.FieldType.int) :: zG) rm_X9_ofRow 0 0 T0) (h1 : zMet l yX9_manyAt (Cond.code yX9_manyAt cX9_manyAt 2 (Option.some Jvm.ClassFile.FieldType.int) :: zG) rm_X9_manyAt 0 0 T1) {T : ZTf} (bd : zBd (cd_X9_needs T0 T1) 4 0 0 T) : zMet l yX9_needs (Cond.code yX9_needs cX9_needs 4 (Option.some Jvm.ClassFile.FieldType.int) :: zG) rm_X9_needs 0 0 T := zMet_of hl (by decide +kernel) rfl rfl rfl rfl (hs_X9_needs hl h0 h1) bd

abbrev rm_X9_doAgree : Room := { frames := 2, cells := 0, slots := 0, locals := 51 }
def cd_X9_doAgree (T0 : ZTf) : List (Nat × ZTr) := [(0, tIld 1 1), (1, tIld 2 2), (2, tSub 3), (3, tMth1 6), (6, tAld 0 7), (7, tC (zi 0) 8), (8, tCall0 2 T0 (zRcv 12) 11), (11, tIc_gt 18 14), (14, tC (zi 1) 15), (15, tGo 19), (18, tC (zi 0) 19), (19, tRi zPz)]
set_option maxRecDepth 100000 in
set_option maxHeartbeats 4000000 in
theorem hs_X9_doAgree {l : Launch} (hl : l.stackTraces = false) {T0 : ZTf} (h0 : zMet l yX9_table (Cond.code yX9_table cX9_table 2 (Option.some Jvm.ClassFile.FieldType.int) :: zG) rm_X9_table 0 0 T0) (p : Program) (e : Env) (s : State) (m : MethodId) (args : Array Value) (below : List Frame) (meth : Method) (c : Code) (D : va_G) (A : Nat → Prop) (a0 : Nat → Nat) (M0 : ZM) (K : ZRet) (KX : ZEx) (X : zCtx p l rm_X9_doAgree s m args meth c cX9_doAgree RX9 (Cond.code yX9_doAgree cX9_doAgree 3 (Option.some Jvm.ClassFile.FieldType.boolean) :: zG) 3 (Option.some Jvm.ClassFile.FieldType.boolean) D A a0 M0 0 0) (hnm : meth.name = yX9_doAgree.name) (hout : ∀ x ∈ c.exceptionTable.toList, False) : ∀ q ∈ cd_X9_doAgree T0, zSd p l e rm_X9_doAgree s m args below meth c 3 D A a0 M0 K KX 0 0 q.1 q.2 :=
    zall_c (zs_iload_n X (pc := 0) (q := 1) rfl (by decide +kernel)) <|
    zall_c (zs_iload_n X (pc := 1) (q := 2) rfl (by decide +kernel)) <|
    zall_c (zs_isub X (pc := 2) (by decide +kernel)) <|
    zall_c (zs_mabs X (pc := 3) (.tail _ gw_9_170) (.tail _ gw_6_111) (.tail _ gw_1_27) (.tail _ gw_6_112) (Nat.le_of_ble_eq_true rfl) (Nat.le_of_ble_eq_true rfl) (by decide +kernel)) <|
    zall_c (zs_aload_n X (pc := 6) (q := 0) rfl (by decide +kernel)) <|
    zall_c (zs_iconst X (pc := 7) (by decide) (by decide +kernel)) <|
    zall_c (zs_callV0 X (pc := 8) zc_X9 (fun _ ht => ⟨(zCB ht gw_8_227 gw_1_13 gw_8_224 rfl rfl (by decide +kernel) ⟨Nat.le_of_ble_eq_true rfl, Nat.le_of_ble_eq_true rfl⟩), ht _ (.tail _ gw_8_226), ht _ (.tail _ gp_60)⟩) h0 hout (by decide +kernel)) <|
    zall_c (zs_icmp_gt X (pc := 11) (off := 7) (by decide +kernel) (by decide)) <|
    zall_c (zs_iconst X (pc := 14) (by decide) (by decide +kernel)) <|
    zall_c (zs_goto X (pc := 15) (off := 4) (by decide +kernel) (by decide)) <|
    zall_c (zs_iconst X (pc := 18) (by decide) (by decide +kernel)) <|
    zall_c (zs_zret X (pc := 19) rfl zR_bool (by decide +kernel)) <|
    zall_n
theorem met_X9_doAgree {l : Launch} (hl : l.stackTraces = false) {T0 : ZTf} (h0 : zMet l yX9_table (Cond.code yX9_table cX9_table 2 (Option.some Jvm.ClassFile.FieldType.int) :: zG) rm_X9_table 0 0 T0) {T : ZTf} (bd : zBd (cd_X9_doAgree T0) 3 0 0 T) : zMet l yX9_doAgree (Cond.code yX9_doAgree cX9_doAgree 3 (Option.some Jvm.ClassFile.FieldType.boolean) :: zG) rm_X9_doAgree 0 0 T := zMet_of hl (by decide +kernel) rfl rfl rfl rfl (hs_X9_doAgree hl h0) bd

abbrev rm_X9_strikesOf : Room := { frames := 1, cells := 0, slots := 0, locals := 30 }
def cd_X9_strikesOf : List (Nat × ZTr) := [(0, tAld 0 1), (1, tGetR 12 3 4), (4, tC (zi 96) 6), (6, tC (zi 6) 8), (8, tIld 1 9), (9, tMul 10), (10, tAdd 11), (11, tIld 2 12), (12, tAdd 13), (13, tIal 20 14), (14, tRi (fun _ => True))]
set_option maxRecDepth 100000 in
set_option maxHeartbeats 4000000 in
theorem hs_X9_strikesOf {l : Launch} (hl : l.stackTraces = false) (p : Program) (e : Env) (s : State) (m : MethodId) (args : Array Value) (below : List Frame) (meth : Method) (c : Code) (D : va_G) (A : Nat → Prop) (a0 : Nat → Nat) (M0 : ZM) (K : ZRet) (KX : ZEx) (X : zCtx p l rm_X9_strikesOf s m args meth c cX9_strikesOf RX9 (Cond.code yX9_strikesOf cX9_strikesOf 3 (Option.some Jvm.ClassFile.FieldType.int) :: zG) 3 (Option.some Jvm.ClassFile.FieldType.int) D A a0 M0 0 0) (hnm : meth.name = yX9_strikesOf.name) (hout : ∀ x ∈ c.exceptionTable.toList, False) : ∀ q ∈ cd_X9_strikesOf, zSd p l e rm_X9_strikesOf s m args below meth c 3 D A a0 M0 K KX 0 0 q.1 q.2 :=
    zall_c (zs_aload_n X (pc := 0) (q := 0) rfl (by decide +kernel)) <|
    zall_c (zs_getr X (pc := 1) zc_X9 (by decide) (zin ui_X9) (.tail _ gw_7_218) (by decide +kernel) (by decide +kernel)) <|
    zall_c (zs_bipush X (pc := 4) (by decide) (by decide +kernel) (by decide +kernel)) <|
    zall_c (zs_bipush X (pc := 6) (by decide) (by decide +kernel) (by decide +kernel)) <|
    zall_c (zs_iload_n X (pc := 8) (q := 1) rfl (by decide +kernel)) <|
    zall_c (zs_imul X (pc := 9) (by decide +kernel)) <|
    zall_c (zs_iadd X (pc := 10) (by decide +kernel)) <|
    zall_c (zs_iload_n X (pc := 11) (q := 2) rfl (by decide +kernel)) <|
    zall_c (zs_iadd X (pc := 12) (by decide +kernel)) <|
    zall_c (zs_iaload20 X (pc := 13) (by decide +kernel)) <|
    zall_c (zs_iret X (pc := 14) rfl (by decide +kernel)) <|
    zall_n
theorem met_X9_strikesOf {l : Launch} (hl : l.stackTraces = false) {T : ZTf} (bd : zBd (cd_X9_strikesOf) 3 0 0 T) : zMet l yX9_strikesOf (Cond.code yX9_strikesOf cX9_strikesOf 3 (Option.some Jvm.ClassFile.FieldType.int) :: zG) rm_X9_strikesOf 0 0 T := zMet_of hl (by decide +kernel) rfl rfl rfl rfl (hs_X9_strikesOf hl) bd

abbrev rm_X9_mayNotMeet : Room := { frames := 2, cells := 0, slots := 0, locals := 52 }
def cd_X9_mayNotMeet (T0 : ZTf) : List (Nat × ZTr) := [(0, tIld 1 1), (1, tIld 2 2), (2, tIc_eq 37 5), (5, tAld 0 6), (6, tGetR 12 3 9), (9, tC (zi 60) 11), (11, tC (zi 6) 13), (13, tIld 1 14), (14, tMul 15), (15, tAdd 16), (16, tIld 2 17), (17, tAdd 18), (18, tIal 20 19), (19, tC (zi 1) 20), (20, tIc_eq 33 23), (23, tAld 0 24), (24, tIld 1 25), (25, tIld 2 26), (26, tCall0 3 T0 (zRcv 12) 29), (29, tC (zi 1) 30), (30, tIc_le 37 33), (33, tC (zi 1) 34), (34, tGo 38), (37, tC (zi 0) 38), (38, tRi zPz)]
set_option maxRecDepth 100000 in
set_option maxHeartbeats 4000000 in
theorem hs_X9_mayNotMeet {l : Launch} (hl : l.stackTraces = false) {T0 : ZTf} (h0 : zMet l yX9_strikesOf (Cond.code yX9_strikesOf cX9_strikesOf 3 (Option.some Jvm.ClassFile.FieldType.int) :: zG) rm_X9_strikesOf 0 0 T0) (p : Program) (e : Env) (s : State) (m : MethodId) (args : Array Value) (below : List Frame) (meth : Method) (c : Code) (D : va_G) (A : Nat → Prop) (a0 : Nat → Nat) (M0 : ZM) (K : ZRet) (KX : ZEx) (X : zCtx p l rm_X9_mayNotMeet s m args meth c cX9_mayNotMeet RX9 (Cond.code yX9_mayNotMeet cX9_mayNotMeet 3 (Option.some Jvm.ClassFile.FieldType.boolean) :: zG) 3 (Option.some Jvm.ClassFile.FieldType.boolean) D A a0 M0 0 0) (hnm : meth.name = yX9_mayNotMeet.name) (hout : ∀ x ∈ c.exceptionTable.toList, False) : ∀ q ∈ cd_X9_mayNotMeet T0, zSd p l e rm_X9_mayNotMeet s m args below meth c 3 D A a0 M0 K KX 0 0 q.1 q.2 :=
    zall_c (zs_iload_n X (pc := 0) (q := 1) rfl (by decide +kernel)) <|
    zall_c (zs_iload_n X (pc := 1) (q := 2) rfl (by decide +kernel)) <|
    zall_c (zs_icmp_eq X (pc := 2) (off := 35) (by decide +kernel) (by decide)) <|
    zall_c (zs_aload_n X (pc := 5) (q := 0) rfl (by decide +kernel)) <|
    zall_c (zs_getr X (pc := 6) zc_X9 (by decide) (zin ui_X9) (.tail _ gw_7_218) (by decide +kernel) (by decide +kernel)) <|
    zall_c (zs_bipush X (pc := 9) (by decide) (by decide +kernel) (by decide +kernel)) <|
    zall_c (zs_bipush X (pc := 11) (by decide) (by decide +kernel) (by decide +kernel)) <|
    zall_c (zs_iload_n X (pc := 13) (q := 1) rfl (by decide +kernel)) <|
    zall_c (zs_imul X (pc := 14) (by decide +kernel)) <|
    zall_c (zs_iadd X (pc := 15) (by decide +kernel)) <|
    zall_c (zs_iload_n X (pc := 16) (q := 2) rfl (by decide +kernel)) <|
    zall_c (zs_iadd X (pc := 17) (by decide +kernel)) <|
    zall_c (zs_iaload20 X (pc := 18) (by decide +kernel)) <|
    zall_c (zs_iconst X (pc := 19) (by decide) (by decide +kernel)) <|
    zall_c (zs_icmp_eq X (pc := 20) (off := 13) (by decide +kernel) (by decide)) <|
    zall_c (zs_aload_n X (pc := 23) (q := 0) rfl (by decide +kernel)) <|
    zall_c (zs_iload_n X (pc := 24) (q := 1) rfl (by decide +kernel)) <|
    zall_c (zs_iload_n X (pc := 25) (q := 2) rfl (by decide +kernel)) <|
    zall_c (zs_callV0 X (pc := 26) zc_X9 (fun _ ht => ⟨(zCB ht gw_8_197 gw_1_13 gw_8_194 rfl rfl (by decide +kernel) ⟨Nat.le_of_ble_eq_true rfl, Nat.le_of_ble_eq_true rfl⟩), ht _ (.tail _ gw_8_196), ht _ (.tail _ gp_57)⟩) h0 hout (by decide +kernel)) <|
    zall_c (zs_iconst X (pc := 29) (by decide) (by decide +kernel)) <|
    zall_c (zs_icmp_le X (pc := 30) (off := 7) (by decide +kernel) (by decide)) <|
    zall_c (zs_iconst X (pc := 33) (by decide) (by decide +kernel)) <|
    zall_c (zs_goto X (pc := 34) (off := 4) (by decide +kernel) (by decide)) <|
    zall_c (zs_iconst X (pc := 37) (by decide) (by decide +kernel)) <|
    zall_c (zs_zret X (pc := 38) rfl zR_bool (by decide +kernel)) <|
    zall_n
theorem met_X9_mayNotMeet {l : Launch} (hl : l.stackTraces = false) {T0 : ZTf} (h0 : zMet l yX9_strikesOf (Cond.code yX9_strikesOf cX9_strikesOf 3 (Option.some Jvm.ClassFile.FieldType.int) :: zG) rm_X9_strikesOf 0 0 T0) {T : ZTf} (bd : zBd (cd_X9_mayNotMeet T0) 3 0 0 T) : zMet l yX9_mayNotMeet (Cond.code yX9_mayNotMeet cX9_mayNotMeet 3 (Option.some Jvm.ClassFile.FieldType.boolean) :: zG) rm_X9_mayNotMeet 0 0 T := zMet_of hl (by decide +kernel) rfl rfl rfl rfl (hs_X9_mayNotMeet hl h0) bd

abbrev rm_X9_putBoth : Room := { frames := 1, cells := 0, slots := 0, locals := 30 }
def cd_X9_putBoth : List (Nat × ZTr) := [(0, tAld 0 1), (1, tGetR 12 3 4), (4, tIld 1 5), (5, tC (zi 6) 7), (7, tIld 2 8), (8, tMul 9), (9, tAdd 10), (10, tIld 3 11), (11, tAdd 12), (12, tIld 4 14), (14, tIas 20 (fun _ => True) 15), (15, tAld 0 16), (16, tGetR 12 3 19), (19, tIld 1 20), (20, tC (zi 6) 22), (22, tIld 3 23), (23, tMul 24), (24, tAdd 25), (25, tIld 2 26), (26, tAdd 27), (27, tIld 4 29), (29, tIas 20 (fun _ => True) 30), (30, tRv)]
set_option maxRecDepth 100000 in
set_option maxHeartbeats 4000000 in
theorem hs_X9_putBoth {l : Launch} (hl : l.stackTraces = false) (p : Program) (e : Env) (s : State) (m : MethodId) (args : Array Value) (below : List Frame) (meth : Method) (c : Code) (D : va_G) (A : Nat → Prop) (a0 : Nat → Nat) (M0 : ZM) (K : ZRet) (KX : ZEx) (X : zCtx p l rm_X9_putBoth s m args meth c cX9_putBoth RX9 (Cond.code yX9_putBoth cX9_putBoth 5 (Option.none : Option Jvm.ClassFile.FieldType) :: zG) 5 (Option.none : Option Jvm.ClassFile.FieldType) D A a0 M0 0 0) (hnm : meth.name = yX9_putBoth.name) (hout : ∀ x ∈ c.exceptionTable.toList, False) : ∀ q ∈ cd_X9_putBoth, zSd p l e rm_X9_putBoth s m args below meth c 5 D A a0 M0 K KX 0 0 q.1 q.2 :=
    zall_c (zs_aload_n X (pc := 0) (q := 0) rfl (by decide +kernel)) <|
    zall_c (zs_getr X (pc := 1) zc_X9 (by decide) (zin ui_X9) (.tail _ gw_7_218) (by decide +kernel) (by decide +kernel)) <|
    zall_c (zs_iload_n X (pc := 4) (q := 1) rfl (by decide +kernel)) <|
    zall_c (zs_bipush X (pc := 5) (by decide) (by decide +kernel) (by decide +kernel)) <|
    zall_c (zs_iload_n X (pc := 7) (q := 2) rfl (by decide +kernel)) <|
    zall_c (zs_imul X (pc := 8) (by decide +kernel)) <|
    zall_c (zs_iadd X (pc := 9) (by decide +kernel)) <|
    zall_c (zs_iload_n X (pc := 10) (q := 3) rfl (by decide +kernel)) <|
    zall_c (zs_iadd X (pc := 11) (by decide +kernel)) <|
    zall_c (zs_iload X (pc := 12) (by decide +kernel)) <|
    zall_c (zs_iastore20 X (pc := 14) (by decide +kernel)) <|
    zall_c (zs_aload_n X (pc := 15) (q := 0) rfl (by decide +kernel)) <|
    zall_c (zs_getr X (pc := 16) zc_X9 (by decide) (zin ui_X9) (.tail _ gw_7_218) (by decide +kernel) (by decide +kernel)) <|
    zall_c (zs_iload_n X (pc := 19) (q := 1) rfl (by decide +kernel)) <|
    zall_c (zs_bipush X (pc := 20) (by decide) (by decide +kernel) (by decide +kernel)) <|
    zall_c (zs_iload_n X (pc := 22) (q := 3) rfl (by decide +kernel)) <|
    zall_c (zs_imul X (pc := 23) (by decide +kernel)) <|
    zall_c (zs_iadd X (pc := 24) (by decide +kernel)) <|
    zall_c (zs_iload_n X (pc := 25) (q := 2) rfl (by decide +kernel)) <|
    zall_c (zs_iadd X (pc := 26) (by decide +kernel)) <|
    zall_c (zs_iload X (pc := 27) (by decide +kernel)) <|
    zall_c (zs_iastore20 X (pc := 29) (by decide +kernel)) <|
    zall_c (zs_vret X (pc := 30) rfl (by decide +kernel)) <|
    zall_n
theorem met_X9_putBoth {l : Launch} (hl : l.stackTraces = false) {T : ZTf} (bd : zBd (cd_X9_putBoth) 5 0 0 T) : zMet l yX9_putBoth (Cond.code yX9_putBoth cX9_putBoth 5 (Option.none : Option Jvm.ClassFile.FieldType) :: zG) rm_X9_putBoth 0 0 T := zMet_of hl (by decide +kernel) rfl rfl rfl rfl (hs_X9_putBoth hl) bd

abbrev rm_X9_isSuspended : Room := { frames := 2, cells := 0, slots := 0, locals := 52 }
def cd_X9_isSuspended (T0 : ZTf) (T1 : ZTf) : List (Nat × ZTr) := [(0, tAld 0 1), (1, tIld 1 2), (2, tC (zi 3) 3), (3, tCall0 3 T0 (zRcv 12) 6), (6, tAld 0 7), (7, tC (zi 2) 8), (8, tCall0 2 T1 (zRcv 12) 11), (11, tIc_ge 18 14), (14, tC (zi 1) 15), (15, tGo 19), (18, tC (zi 0) 19), (19, tRi zPz)]
set_option maxRecDepth 100000 in
set_option maxHeartbeats 4000000 in
theorem hs_X9_isSuspended {l : Launch} (hl : l.stackTraces = false) {T0 : ZTf} {T1 : ZTf} (h0 : zMet l yX9_ofWorker (Cond.code yX9_ofWorker cX9_ofWorker 3 (Option.some Jvm.ClassFile.FieldType.int) :: zG) rm_X9_ofWorker 0 0 T0) (h1 : zMet l yX9_table (Cond.code yX9_table cX9_table 2 (Option.some Jvm.ClassFile.FieldType.int) :: zG) rm_X9_table 0 0 T1) (p : Program) (e : Env) (s : State) (m : MethodId) (args : Array Value) (below : List Frame) (meth : Method) (c : Code) (D : va_G) (A : Nat → Prop) (a0 : Nat → Nat) (M0 : ZM) (K : ZRet) (KX : ZEx) (X : zCtx p l rm_X9_isSuspended s m args meth c cX9_isSuspended RX9 (Cond.code yX9_isSuspended cX9_isSuspended 2 (Option.some Jvm.ClassFile.FieldType.boolean) :: zG) 2 (Option.some Jvm.ClassFile.FieldType.boolean) D A a0 M0 0 0) (hnm : meth.name = yX9_isSuspended.name) (hout : ∀ x ∈ c.exceptionTable.toList, False) : ∀ q ∈ cd_X9_isSuspended T0 T1, zSd p l e rm_X9_isSuspended s m args below meth c 2 D A a0 M0 K KX 0 0 q.1 q.2 :=
    zall_c (zs_aload_n X (pc := 0) (q := 0) rfl (by decide +kernel)) <|
    zall_c (zs_iload_n X (pc := 1) (q := 1) rfl (by decide +kernel)) <|
    zall_c (zs_iconst X (pc := 2) (by decide) (by decide +kernel)) <|
    zall_c (zs_callV0 X (pc := 3) zc_X9 (fun _ ht => ⟨(zCB ht gw_8_161 gw_1_13 gw_8_158 rfl rfl (by decide +kernel) ⟨Nat.le_of_ble_eq_true rfl, Nat.le_of_ble_eq_true rfl⟩), ht _ (.tail _ gw_8_160), ht _ (.tail _ gp_48)⟩) h0 hout (by decide +kernel)) <|
    zall_c (zs_aload_n X (pc := 6) (q := 0) rfl (by decide +kernel)) <|
    zall_c (zs_iconst X (pc := 7) (by decide) (by decide +kernel)) <|
    zall_c (zs_callV0 X (pc := 8) zc_X9 (fun _ ht => ⟨(zCB ht gw_8_227 gw_1_13 gw_8_224 rfl rfl (by decide +kernel) ⟨Nat.le_of_ble_eq_true rfl, Nat.le_of_ble_eq_true rfl⟩), ht _ (.tail _ gw_8_226), ht _ (.tail _ gp_60)⟩) h1 hout (by decide +kernel)) <|
    zall_c (zs_icmp_ge X (pc := 11) (off := 7) (by decide +kernel) (by decide)) <|
    zall_c (zs_iconst X (pc := 14) (by decide) (by decide +kernel)) <|
    zall_c (zs_goto X (pc := 15) (off := 4) (by decide +kernel) (by decide)) <|
    zall_c (zs_iconst X (pc := 18) (by decide) (by decide +kernel)) <|
    zall_c (zs_zret X (pc := 19) rfl zR_bool (by decide +kernel)) <|
    zall_n
theorem met_X9_isSuspended {l : Launch} (hl : l.stackTraces = false) {T0 : ZTf} {T1 : ZTf} (h0 : zMet l yX9_ofWorker (Cond.code yX9_ofWorker cX9_ofWorker 3 (Option.some Jvm.ClassFile.FieldType.int) :: zG) rm_X9_ofWorker 0 0 T0) (h1 : zMet l yX9_table (Cond.code yX9_table cX9_table 2 (Option.some Jvm.ClassFile.FieldType.int) :: zG) rm_X9_table 0 0 T1) {T : ZTf} (bd : zBd (cd_X9_isSuspended T0 T1) 2 0 0 T) : zMet l yX9_isSuspended (Cond.code yX9_isSuspended cX9_isSuspended 2 (Option.some Jvm.ClassFile.FieldType.boolean) :: zG) rm_X9_isSuspended 0 0 T := zMet_of hl (by decide +kernel) rfl rfl rfl rfl (hs_X9_isSuspended hl h0 h1) bd
