/-! the rows of toString for long texts -/
abbrev rm_J7_copyOfRangeByte_39247B : Room := { frames := 2, cells := 1, slots := 340, locals := 60 }
def cd_J7_copyOfRangeByte_39247B (T0 : ZTf) : List (Nat × ZTr) := [(0, tIld 1 1), (1, tIld 2 2), (2, tCall0 2 T0 zAny 5), (5, tIld 2 6), (6, tIld 1 7), (7, tSub 8), (8, tIst 3 9), (9, tIld 3 10), (10, tNewA 21 12), (12, tAst 4 14), (14, tAld 0 15), (15, tIld 1 16), (16, tAld 4 18), (18, tC (zi 0) 19), (19, tAld 0 20), (20, tLen 21), (21, tIld 1 22), (22, tSub 23), (23, tIld 3 24), (24, tMth2 zmin 27), (27, tCpy 21 zPb 30), (30, tAld 4 32), (32, tRa)]
set_option maxRecDepth 100000 in
set_option maxHeartbeats 4000000 in
theorem hs_J7_copyOfRangeByte_39247B {l : Launch} (hl : l.stackTraces = false) {T0 : ZTf} (h0 : zMet l yJ7_checkLength_df160 (Cond.code yJ7_checkLength_df160 cJ7_checkLength_df160 2 (Option.none : Option Jvm.ClassFile.FieldType) :: zG) rm_J7_checkLength_df160 0 0 T0) (p : Program) (e : Env) (s : State) (m : MethodId) (args : Array Value) (below : List Frame) (meth : Method) (c : Code) (D : va_G) (A : Nat → Prop) (a0 : Nat → Nat) (M0 : ZM) (K : ZRet) (KX : ZEx) (X : zCtx p l rm_J7_copyOfRangeByte_39247B s m args meth c cJ7_copyOfRangeByte_39247 RJ7 (Cond.code yJ7_copyOfRangeByte_39247 cJ7_copyOfRangeByte_39247 5 (Option.some (Jvm.ClassFile.FieldType.array Jvm.ClassFile.FieldType.byte)) :: zG) 5 (Option.some (Jvm.ClassFile.FieldType.array Jvm.ClassFile.FieldType.byte)) D A a0 M0 1 340) (hnm : meth.name = yJ7_copyOfRangeByte_39247.name) (hout : ∀ x ∈ c.exceptionTable.toList, False) : ∀ q ∈ cd_J7_copyOfRangeByte_39247B T0, zSd p l e rm_J7_copyOfRangeByte_39247B s m args below meth c 5 D A a0 M0 K KX 1 340 q.1 q.2 :=
    zall_c (zs_iload_n X (pc := 0) (q := 1) rfl (by decide +kernel)) <|
    zall_c (zs_iload_n X (pc := 1) (q := 2) rfl (by decide +kernel)) <|
    zall_c (zs_callS0 X (pc := 2) (fun _ ht => ⟨(zCB ht gw_3_222 gw_1_15 gw_3_220 rfl rfl (by decide +kernel) ⟨Nat.le_of_ble_eq_true rfl, Nat.le_of_ble_eq_true rfl⟩), ht _ (.tail _ gw_3_221)⟩) h0 hout (by decide +kernel)) <|
    zall_c (zs_iload_n X (pc := 5) (q := 2) rfl (by decide +kernel)) <|
    zall_c (zs_iload_n X (pc := 6) (q := 1) rfl (by decide +kernel)) <|
    zall_c (zs_isub X (pc := 7) (by decide +kernel)) <|
    zall_c (zs_istore_n X (pc := 8) (q := 3) rfl (by decide) (by decide +kernel)) <|
    zall_c (zs_iload_n X (pc := 9) (q := 3) rfl (by decide +kernel)) <|
    zall_c (zs_newarray21 X (pc := 10) (.tail _ gw_1_82) (by decide +kernel)) <|
    zall_c (zs_astore X (pc := 12) (by decide) (by decide +kernel)) <|
    zall_c (zs_aload_n X (pc := 14) (q := 0) rfl (by decide +kernel)) <|
    zall_c (zs_iload_n X (pc := 15) (q := 1) rfl (by decide +kernel)) <|
    zall_c (zs_aload X (pc := 16) (by decide +kernel)) <|
    zall_c (zs_iconst X (pc := 18) (by decide) (by decide +kernel)) <|
    zall_c (zs_aload_n X (pc := 19) (q := 0) rfl (by decide +kernel)) <|
    zall_c (zs_len X (pc := 20) (by decide +kernel)) <|
    zall_c (zs_iload_n X (pc := 21) (q := 1) rfl (by decide +kernel)) <|
    zall_c (zs_isub X (pc := 22) (by decide +kernel)) <|
    zall_c (zs_iload_n X (pc := 23) (q := 3) rfl (by decide +kernel)) <|
    zall_c (zs_mmin X (pc := 24) (.tail _ gw_3_58) (.tail _ gw_3_59) (.tail _ gw_1_14) (.tail _ gw_3_60) (Nat.le_of_ble_eq_true rfl) (Nat.le_of_ble_eq_true rfl) (by decide +kernel)) <|
    zall_c (zs_copy21 X (pc := 27) (.tail _ gw_3_61) (.tail _ gw_3_63) (.tail _ gw_3_62) (.tail _ gw_1_16) (Nat.le_of_ble_eq_true rfl) (by show 8 + (nativeFrameWords "java/lang/System" "arraycopy" 5 + 11) ≤ 60; decide +kernel) (by decide +kernel)) <|
    zall_c (zs_aload X (pc := 30) (by decide +kernel)) <|
    zall_c (zs_aret X (pc := 32) rfl (Or.inr ⟨_, rfl⟩) (by decide +kernel)) <|
    zall_n
theorem met_J7_copyOfRangeByte_39247B {l : Launch} (hl : l.stackTraces = false) {T0 : ZTf} (h0 : zMet l yJ7_checkLength_df160 (Cond.code yJ7_checkLength_df160 cJ7_checkLength_df160 2 (Option.none : Option Jvm.ClassFile.FieldType) :: zG) rm_J7_checkLength_df160 0 0 T0) {T : ZTf} (bd : zBd (cd_J7_copyOfRangeByte_39247B T0) 5 1 340 T) : zMet l yJ7_copyOfRangeByte_39247 (Cond.code yJ7_copyOfRangeByte_39247 cJ7_copyOfRangeByte_39247 5 (Option.some (Jvm.ClassFile.FieldType.array Jvm.ClassFile.FieldType.byte)) :: zG) rm_J7_copyOfRangeByte_39247B 1 340 T := zMet_of hl (by decide +kernel) rfl rfl rfl rfl (hs_J7_copyOfRangeByte_39247B hl h0) bd
theorem gw_3_51 : Cond.methodLink RJ7 310 yCln ∈ zG := zGt3 (List.mem_of_getElem? (i := 51) (by rfl)) rfl
theorem gw_3_52 : Cond.sameMethod "[B" "java/lang/Object" "clone" "()Ljava/lang/Object;" ∈ zG := zGt3 (List.mem_of_getElem? (i := 52) (by rfl)) rfl
theorem gw_3_53 : Cond.native yOCln ∈ zG := zGt3 (List.mem_of_getElem? (i := 53) (by rfl)) rfl
theorem gw_3_54 : Cond.instanceMethod yOCln ∈ zG := zGt3 (List.mem_of_getElem? (i := 54) (by rfl)) rfl
theorem gw_3_55 : Cond.selects "[B" yCln yOCln ∈ zG := zGt3 (List.mem_of_getElem? (i := 55) (by rfl)) rfl
theorem gw_3_57 : Cond.classLink RJ7 311 "[B" ∈ zG := zGt3 (List.mem_of_getElem? (i := 57) (by rfl)) rfl
abbrev rm_J7_copyOfRange_39247B : Room := { frames := 3, cells := 1, slots := 340, locals := 84 }
def cd_J7_copyOfRange_39247B (T0 : ZTf) : List (Nat × ZTr) := [(0, tIld 1 1), (1, tIf_ne 10 4), (4, tIld 2 5), (5, tAld 0 6), (6, tLen 7), (7, tIc_eq 17 10), (10, tAld 0 11), (11, tIld 1 12), (12, tIld 2 13), (13, tCall 3 1 340 T0 zAny 16), (16, tRa), (17, tAld 0 18), (18, tCln 21), (21, tCst 24), (24, tRa)]
set_option maxRecDepth 100000 in
set_option maxHeartbeats 4000000 in
theorem hs_J7_copyOfRange_39247B {l : Launch} (hl : l.stackTraces = false) {T0 : ZTf} (h0 : zMet l yJ7_copyOfRangeByte_39247 (Cond.code yJ7_copyOfRangeByte_39247 cJ7_copyOfRangeByte_39247 5 (Option.some (Jvm.ClassFile.FieldType.array Jvm.ClassFile.FieldType.byte)) :: zG) rm_J7_copyOfRangeByte_39247B 1 340 T0) (p : Program) (e : Env) (s : State) (m : MethodId) (args : Array Value) (below : List Frame) (meth : Method) (c : Code) (D : va_G) (A : Nat → Prop) (a0 : Nat → Nat) (M0 : ZM) (K : ZRet) (KX : ZEx) (X : zCtx p l rm_J7_copyOfRange_39247B s m args meth c cJ7_copyOfRange_39247 RJ7 (Cond.code yJ7_copyOfRange_39247 cJ7_copyOfRange_39247 3 (Option.some (Jvm.ClassFile.FieldType.array Jvm.ClassFile.FieldType.byte)) :: zG) 3 (Option.some (Jvm.ClassFile.FieldType.array Jvm.ClassFile.FieldType.byte)) D A a0 M0 1 340) (hnm : meth.name = yJ7_copyOfRange_39247.name) (hout : ∀ x ∈ c.exceptionTable.toList, False) : ∀ q ∈ cd_J7_copyOfRange_39247B T0, zSd p l e rm_J7_copyOfRange_39247B s m args below meth c 3 D A a0 M0 K KX 1 340 q.1 q.2 :=
    zall_c (zs_iload_n X (pc := 0) (q := 1) rfl (by decide +kernel)) <|
    zall_c (zs_if_ne X (pc := 1) (off := 9) (by decide +kernel) (by decide)) <|
    zall_c (zs_iload_n X (pc := 4) (q := 2) rfl (by decide +kernel)) <|
    zall_c (zs_aload_n X (pc := 5) (q := 0) rfl (by decide +kernel)) <|
    zall_c (zs_len X (pc := 6) (by decide +kernel)) <|
    zall_c (zs_icmp_eq X (pc := 7) (off := 10) (by decide +kernel) (by decide)) <|
    zall_c (zs_aload_n X (pc := 10) (q := 0) rfl (by decide +kernel)) <|
    zall_c (zs_iload_n X (pc := 11) (q := 1) rfl (by decide +kernel)) <|
    zall_c (zs_iload_n X (pc := 12) (q := 2) rfl (by decide +kernel)) <|
    zall_c (zs_callS X (pc := 13) (fun _ ht => ⟨(zCB ht gw_3_219 gw_1_15 gw_3_217 rfl rfl (by decide +kernel) ⟨Nat.le_of_ble_eq_true rfl, Nat.le_of_ble_eq_true rfl⟩), ht _ (.tail _ gw_3_218)⟩) h0 hout (by decide +kernel)) <|
    zall_c (zs_aret X (pc := 16) rfl (Or.inr ⟨_, rfl⟩) (by decide +kernel)) <|
    zall_c (zs_aload_n X (pc := 17) (q := 0) rfl (by decide +kernel)) <|
    zall_c (zs_clone21 X (pc := 18) (.tail _ gw_3_51) (.tail _ gw_3_52) (.tail _ gw_3_53) (.tail _ gw_3_54) (.tail _ gw_3_55) (by decide +kernel) (Nat.le_of_ble_eq_true rfl) (Nat.le_of_ble_eq_true rfl) (by decide +kernel)) <|
    zall_c (zs_cast21 X (pc := 21) (.tail _ gw_3_57) (by decide +kernel)) <|
    zall_c (zs_aret X (pc := 24) rfl (Or.inr ⟨_, rfl⟩) (by decide +kernel)) <|
    zall_n
theorem met_J7_copyOfRange_39247B {l : Launch} (hl : l.stackTraces = false) {T0 : ZTf} (h0 : zMet l yJ7_copyOfRangeByte_39247 (Cond.code yJ7_copyOfRangeByte_39247 cJ7_copyOfRangeByte_39247 5 (Option.some (Jvm.ClassFile.FieldType.array Jvm.ClassFile.FieldType.byte)) :: zG) rm_J7_copyOfRangeByte_39247B 1 340 T0) {T : ZTf} (bd : zBd (cd_J7_copyOfRange_39247B T0) 3 1 340 T) : zMet l yJ7_copyOfRange_39247 (Cond.code yJ7_copyOfRange_39247 cJ7_copyOfRange_39247 3 (Option.some (Jvm.ClassFile.FieldType.array Jvm.ClassFile.FieldType.byte)) :: zG) rm_J7_copyOfRange_39247B 1 340 T := zMet_of hl (by decide +kernel) rfl rfl rfl rfl (hs_J7_copyOfRange_39247B hl h0) bd
abbrev rm_J0_init_db425B : Room := { frames := 4, cells := 1, slots := 340, locals := 106 }
def cd_J0_init_db425B (T0 : ZTf) (T1 : ZTf) (T2 : ZTf) (T3 : ZTf) : List (Nat × ZTr) := [(0, tAld 0 1), (1, tObj 4), (4, tAld 1 5), (5, tCall0 1 T0 (zRcv 1) 8), (8, tAst 3 9), (9, tAld 1 10), (10, tCall 1 0 0 (zNt T1) (zRcv 1) 13), (13, tIst 4 15), (15, tAld 1 16), (16, tCall0 1 T2 (zRcv 1) 19), (19, tIf_eq 41 22), (22, tAld 0 23), (23, tC (zi 0) 24), (24, tPutI 0 1 zPb 27), (27, tAld 0 28), (28, tAld 3 29), (29, tC (zi 0) 30), (30, tIld 4 32), (32, tCall 3 1 340 T3 zAny 35), (35, tPutR 0 0 38), (38, tGo 97), (41, tNo), (97, tRv)]
set_option maxRecDepth 100000 in
set_option maxHeartbeats 4000000 in
theorem hs_J0_init_db425B {l : Launch} (hl : l.stackTraces = false) {T0 : ZTf} {T1 : ZTf} {T2 : ZTf} {T3 : ZTf} (h0 : zMet l yJ5_getValue_6d5f1 (Cond.code yJ5_getValue_6d5f1 cJ5_getValue_6d5f1 1 (Option.some (Jvm.ClassFile.FieldType.array Jvm.ClassFile.FieldType.byte)) :: zG) rm_J5_getValue_6d5f1 0 0 T0) (h1 : zMet l yJ4_length_8abf5 (Cond.code yJ4_length_8abf5 cJ4_length_8abf5 1 (Option.some Jvm.ClassFile.FieldType.int) :: zG) rm_J4_length_8abf5 0 0 T1) (h2 : zMet l yJ5_isLatin1_aae02 (Cond.code yJ5_isLatin1_aae02 cJ5_isLatin1_aae02 1 (Option.some Jvm.ClassFile.FieldType.boolean) :: zG) rm_J5_isLatin1_aae02 0 0 T2) (h3 : zMet l yJ7_copyOfRange_39247 (Cond.code yJ7_copyOfRange_39247 cJ7_copyOfRange_39247 3 (Option.some (Jvm.ClassFile.FieldType.array Jvm.ClassFile.FieldType.byte)) :: zG) rm_J7_copyOfRange_39247B 1 340 T3) (p : Program) (e : Env) (s : State) (m : MethodId) (args : Array Value) (below : List Frame) (meth : Method) (c : Code) (D : va_G) (A : Nat → Prop) (a0 : Nat → Nat) (M0 : ZM) (K : ZRet) (KX : ZEx) (X : zCtx p l rm_J0_init_db425B s m args meth c cJ0_init_db425 RJ0 (Cond.code yJ0_init_db425 cJ0_init_db425 5 (Option.none : Option Jvm.ClassFile.FieldType) :: zG) 5 (Option.none : Option Jvm.ClassFile.FieldType) D A a0 M0 1 340) (hnm : meth.name = yJ0_init_db425.name) (hout : ∀ x ∈ c.exceptionTable.toList, False) : ∀ q ∈ cd_J0_init_db425B T0 T1 T2 T3, zSd p l e rm_J0_init_db425B s m args below meth c 5 D A a0 M0 K KX 1 340 q.1 q.2 :=
    zall_c (zs_aload_n X (pc := 0) (q := 0) rfl (by decide +kernel)) <|
    zall_c (zs_objinit X (pc := 1) (.tail _ gw_3_199) (.tail _ gw_1_35) (.tail _ gw_1_36) (by decide) (by decide) (by decide +kernel)) <|
    zall_c (zs_aload_n X (pc := 4) (q := 1) rfl (by decide +kernel)) <|
    zall_c (zs_callV0 X (pc := 5) zc_J4 (fun _ ht => ⟨(zCB ht gw_3_204 gw_1_4 gw_3_200 rfl rfl (by decide +kernel) ⟨Nat.le_of_ble_eq_true rfl, Nat.le_of_ble_eq_true rfl⟩), ht _ (.tail _ gw_3_201), ht _ (.tail _ gw_3_203)⟩) h0 hout (by decide +kernel)) <|
    zall_c (zs_astore_n X (pc := 8) (q := 3) rfl (by decide) (by decide +kernel)) <|
    zall_c (zs_aload_n X (pc := 9) (q := 1) rfl (by decide +kernel)) <|
    zall_c (zs_callU X (pc := 10) zc_J4 (fun _ ht => (zCU (owner := RJ5) ht gw_3_210 gw_1_5 gw_3_205 gw_3_207 gw_3_206 gw_3_212 gw_3_208 gw_3_209 rfl rfl (by decide +kernel) (by decide +kernel) ⟨Nat.le_of_ble_eq_true rfl, Nat.le_of_ble_eq_true rfl⟩)) h1 (by decide +kernel)) <|
    zall_c (zs_istore X (pc := 13) (by decide) (by decide +kernel)) <|
    zall_c (zs_aload_n X (pc := 15) (q := 1) rfl (by decide +kernel)) <|
    zall_c (zs_callV0 X (pc := 16) zc_J4 (fun _ ht => ⟨(zCB ht gw_3_68 gw_1_4 gw_3_213 rfl rfl (by decide +kernel) ⟨Nat.le_of_ble_eq_true rfl, Nat.le_of_ble_eq_true rfl⟩), ht _ (.tail _ gw_3_65), ht _ (.tail _ gw_3_67)⟩) h2 hout (by decide +kernel)) <|
    zall_c (zs_if_eq X (pc := 19) (off := 22) (by decide +kernel) (by decide)) <|
    zall_c (zs_aload_n X (pc := 22) (q := 0) rfl (by decide +kernel)) <|
    zall_c (zs_iconst X (pc := 23) (by decide) (by decide +kernel)) <|
    zall_c (zs_putiF X (pc := 24) (ty := Jvm.ClassFile.FieldType.byte) zc_J0 (by decide) (zin ui_J0) tyJ0_ok nmJ0 (.tail _ gw_3_237) rfl hnm rfl (by decide +kernel) (by decide +kernel) (by decide +kernel) zP_byte) <|
    zall_c (zs_aload_n X (pc := 27) (q := 0) rfl (by decide +kernel)) <|
    zall_c (zs_aload_n X (pc := 28) (q := 3) rfl (by decide +kernel)) <|
    zall_c (zs_iconst X (pc := 29) (by decide) (by decide +kernel)) <|
    zall_c (zs_iload X (pc := 30) (by decide +kernel)) <|
    zall_c (zs_callS X (pc := 32) (fun _ ht => ⟨(zCB ht gw_3_216 gw_1_15 gw_3_214 rfl rfl (by decide +kernel) ⟨Nat.le_of_ble_eq_true rfl, Nat.le_of_ble_eq_true rfl⟩), ht _ (.tail _ gw_3_215)⟩) h3 hout (by decide +kernel)) <|
    zall_c (zs_putrF X (pc := 35) (ty := (Jvm.ClassFile.FieldType.array Jvm.ClassFile.FieldType.byte)) zc_J0 (by decide) (zin ui_J0) tyJ0_ok nmJ0 (.tail _ gw_3_236) rfl hnm rfl (by decide +kernel) (by decide +kernel) (by decide +kernel) zP_arr) <|
    zall_c (zs_goto X (pc := 38) (off := 59) (by decide +kernel) (by decide)) <|
    zall_c (zs_no (pc := 41)) <|
    zall_c (zs_vret X (pc := 97) rfl (by decide +kernel)) <|
    zall_n
theorem met_J0_init_db425B {l : Launch} (hl : l.stackTraces = false) {T0 : ZTf} {T1 : ZTf} {T2 : ZTf} {T3 : ZTf} (h0 : zMet l yJ5_getValue_6d5f1 (Cond.code yJ5_getValue_6d5f1 cJ5_getValue_6d5f1 1 (Option.some (Jvm.ClassFile.FieldType.array Jvm.ClassFile.FieldType.byte)) :: zG) rm_J5_getValue_6d5f1 0 0 T0) (h1 : zMet l yJ4_length_8abf5 (Cond.code yJ4_length_8abf5 cJ4_length_8abf5 1 (Option.some Jvm.ClassFile.FieldType.int) :: zG) rm_J4_length_8abf5 0 0 T1) (h2 : zMet l yJ5_isLatin1_aae02 (Cond.code yJ5_isLatin1_aae02 cJ5_isLatin1_aae02 1 (Option.some Jvm.ClassFile.FieldType.boolean) :: zG) rm_J5_isLatin1_aae02 0 0 T2) (h3 : zMet l yJ7_copyOfRange_39247 (Cond.code yJ7_copyOfRange_39247 cJ7_copyOfRange_39247 3 (Option.some (Jvm.ClassFile.FieldType.array Jvm.ClassFile.FieldType.byte)) :: zG) rm_J7_copyOfRange_39247B 1 340 T3) {T : ZTf} (bd : zBd (cd_J0_init_db425B T0 T1 T2 T3) 5 1 340 T) : zMet l yJ0_init_db425 (Cond.code yJ0_init_db425 cJ0_init_db425 5 (Option.none : Option Jvm.ClassFile.FieldType) :: zG) rm_J0_init_db425B 1 340 T := zMet_of hl (by decide +kernel) rfl rfl rfl rfl (hs_J0_init_db425B hl h0 h1 h2 h3) bd
abbrev rm_J0_init_81219B : Room := { frames := 5, cells := 1, slots := 340, locals := 130 }
def cd_J0_init_81219B (T0 : ZTf) : List (Nat × ZTr) := [(0, tAld 0 1), (1, tAld 1 2), (2, tC (zr none) 3), (3, tCall 3 1 340 (zNt T0) (zRcv 0) 6), (6, tRv)]
set_option maxRecDepth 100000 in
set_option maxHeartbeats 4000000 in
theorem hs_J0_init_81219B {l : Launch} (hl : l.stackTraces = false) {T0 : ZTf} (h0 : zMet l yJ0_init_db425 (Cond.code yJ0_init_db425 cJ0_init_db425 5 (Option.none : Option Jvm.ClassFile.FieldType) :: zG) rm_J0_init_db425B 1 340 T0) (p : Program) (e : Env) (s : State) (m : MethodId) (args : Array Value) (below : List Frame) (meth : Method) (c : Code) (D : va_G) (A : Nat → Prop) (a0 : Nat → Nat) (M0 : ZM) (K : ZRet) (KX : ZEx) (X : zCtx p l rm_J0_init_81219B s m args meth c cJ0_init_81219 RJ0 (Cond.code yJ0_init_81219 cJ0_init_81219 2 (Option.none : Option Jvm.ClassFile.FieldType) :: zG) 2 (Option.none : Option Jvm.ClassFile.FieldType) D A a0 M0 1 340) (hnm : meth.name = yJ0_init_81219.name) (hout : ∀ x ∈ c.exceptionTable.toList, False) : ∀ q ∈ cd_J0_init_81219B T0, zSd p l e rm_J0_init_81219B s m args below meth c 2 D A a0 M0 K KX 1 340 q.1 q.2 :=
    zall_c (zs_aload_n X (pc := 0) (q := 0) rfl (by decide +kernel)) <|
    zall_c (zs_aload_n X (pc := 1) (q := 1) rfl (by decide +kernel)) <|
    zall_c (zs_anull X (pc := 2) (by decide +kernel)) <|
    zall_c (zs_callI X (pc := 3) (rt := none) (fun _ ht => ⟨(zCB ht gw_3_198 gw_1_6 gw_3_196 rfl rfl (by decide +kernel) ⟨Nat.le_of_ble_eq_true rfl, Nat.le_of_ble_eq_true rfl⟩), rfl, ht _ (.tail _ gw_3_197)⟩) h0 (by decide +kernel)) <|
    zall_c (zs_vret X (pc := 6) rfl (by decide +kernel)) <|
    zall_n
theorem met_J0_init_81219B {l : Launch} (hl : l.stackTraces = false) {T0 : ZTf} (h0 : zMet l yJ0_init_db425 (Cond.code yJ0_init_db425 cJ0_init_db425 5 (Option.none : Option Jvm.ClassFile.FieldType) :: zG) rm_J0_init_db425B 1 340 T0) {T : ZTf} (bd : zBd (cd_J0_init_81219B T0) 2 1 340 T) : zMet l yJ0_init_81219 (Cond.code yJ0_init_81219 cJ0_init_81219 2 (Option.none : Option Jvm.ClassFile.FieldType) :: zG) rm_J0_init_81219B 1 340 T := zMet_of hl (by decide +kernel) rfl rfl rfl rfl (hs_J0_init_81219B hl h0) bd
abbrev rm_J4_toString_0e30dB : Room := { frames := 6, cells := 2, slots := 344, locals := 151 }
def cd_J4_toString_0e30dB (T0 : ZTf) : List (Nat × ZTr) := [(0, tNew 0 4 3), (3, tDup 4), (4, tAld 0 5), (5, tCall 2 1 340 (zNt T0) (zRcv 0) 8), (8, tRa)]
set_option maxRecDepth 100000 in
set_option maxHeartbeats 4000000 in
theorem hs_J4_toString_0e30dB {l : Launch} (hl : l.stackTraces = false) {T0 : ZTf} (h0 : zMet l yJ0_init_81219 (Cond.code yJ0_init_81219 cJ0_init_81219 2 (Option.none : Option Jvm.ClassFile.FieldType) :: zG) rm_J0_init_81219B 1 340 T0) (p : Program) (e : Env) (s : State) (m : MethodId) (args : Array Value) (below : List Frame) (meth : Method) (c : Code) (D : va_G) (A : Nat → Prop) (a0 : Nat → Nat) (M0 : ZM) (K : ZRet) (KX : ZEx) (X : zCtx p l rm_J4_toString_0e30dB s m args meth c cJ4_toString_0e30d RJ4 (Cond.code yJ4_toString_0e30d cJ4_toString_0e30d 1 (Option.some (Jvm.ClassFile.FieldType.object "java/lang/String")) :: zG) 1 (Option.some (Jvm.ClassFile.FieldType.object "java/lang/String")) D A a0 M0 2 344) (hnm : meth.name = yJ4_toString_0e30d.name) (hout : ∀ x ∈ c.exceptionTable.toList, False) : ∀ q ∈ cd_J4_toString_0e30dB T0, zSd p l e rm_J4_toString_0e30dB s m args below meth c 1 D A a0 M0 K KX 2 344 q.1 q.2 :=
    zall_c (zs_new X (pc := 0) zc_J0 (zin ui_J0) tyJ0_ok (.tail _ gw_3_191) (.tail _ gw_3_192) (.tail _ gw_1_6) (by decide +kernel) (by decide +kernel)) <|
    zall_c (zs_dup X (pc := 3) (by decide +kernel)) <|
    zall_c (zs_aload_n X (pc := 4) (q := 0) rfl (by decide +kernel)) <|
    zall_c (zs_callI X (pc := 5) (rt := none) (fun _ ht => ⟨(zCB ht gw_3_195 gw_1_6 gw_3_193 rfl rfl (by decide +kernel) ⟨Nat.le_of_ble_eq_true rfl, Nat.le_of_ble_eq_true rfl⟩), rfl, ht _ (.tail _ gw_3_194)⟩) h0 (by decide +kernel)) <|
    zall_c (zs_aret X (pc := 8) rfl (Or.inl ⟨_, rfl⟩) (by decide +kernel)) <|
    zall_n
theorem met_J4_toString_0e30dB {l : Launch} (hl : l.stackTraces = false) {T0 : ZTf} (h0 : zMet l yJ0_init_81219 (Cond.code yJ0_init_81219 cJ0_init_81219 2 (Option.none : Option Jvm.ClassFile.FieldType) :: zG) rm_J0_init_81219B 1 340 T0) {T : ZTf} (bd : zBd (cd_J4_toString_0e30dB T0) 1 2 344 T) : zMet l yJ4_toString_0e30d (Cond.code yJ4_toString_0e30d cJ4_toString_0e30d 1 (Option.some (Jvm.ClassFile.FieldType.object "java/lang/String")) :: zG) rm_J4_toString_0e30dB 2 344 T := zMet_of hl (by decide +kernel) rfl rfl rfl rfl (hs_J4_toString_0e30dB hl h0) bd
