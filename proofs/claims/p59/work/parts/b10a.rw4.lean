/-! the rows of the law: a builder out of a text -/
theorem gw_3_11 : Cond.constant RJ5 38 (Int32.ofInt 2147483631) ∈ zG := zGt3 (List.mem_of_getElem? (i := 11) (by rfl)) rfl
theorem gw_3_19 : Cond.code yJ4_append_cf1ce cJ4_append_cf1ce 2 (Option.some (Jvm.ClassFile.FieldType.object "java/lang/AbstractStringBuilder")) ∈ zG := zGt3 (List.mem_of_getElem? (i := 19) (by rfl)) rfl
theorem gw_3_14 : Cond.methodLink RJ5 43 yJ5_append_cf1ce ∈ zG := zGt3 (List.mem_of_getElem? (i := 14) (by rfl)) rfl
theorem gw_3_17 : Cond.selects RJ4 yJ5_append_cf1ce yJ4_append_cf1ce ∈ zG := zGt3 (List.mem_of_getElem? (i := 17) (by rfl)) rfl
theorem gw_3_18 : Cond.instanceMethod yJ4_append_cf1ce ∈ zG := zGt3 (List.mem_of_getElem? (i := 18) (by rfl)) rfl
abbrev rm_J5_init_a7421 : Room := { frames := 7, cells := 1, slots := 120, locals := 169 }
def cd_J5_init_a7421 (T0 : ZTf) (T1 : ZTf) (T2 : ZTf) : List (Nat × ZTr) := [(0, tAld 0 1), (1, tObj 4), (4, tAld 1 5), (5, tCall0 1 T0 (zRcv 0) 8), (8, tIst 2 9), (9, tIld 2 10), (10, tC (zi 2147483631) 12), (12, tIc_ge 22 15), (15, tIld 2 16), (16, tC (zi 16) 18), (18, tAdd 19), (19, tGo 24), (22, tNo), (24, tIst 3 25), (25, tAld 1 26), (26, tCall0 1 T1 (zRcv 0) 29), (29, tIst 4 31), (31, tAld 0 32), (32, tIld 4 34), (34, tPutI 1 1 zPb 37), (37, tAld 0 38), (38, tIld 4 40), (40, tIf_ne 49 43), (43, tIld 3 44), (44, tNewA 21 46), (46, tGo 53), (49, tNo), (53, tPutR 1 0 56), (56, tAld 0 57), (57, tAld 1 58), (58, tCall 2 0 0 (zNt T2) (zRcv 1) 61), (61, tPop 62), (62, tRv)]
set_option maxRecDepth 100000 in
set_option maxHeartbeats 4000000 in
theorem hs_J5_init_a7421 {l : Launch} (hl : l.stackTraces = false) {T0 : ZTf} {T1 : ZTf} {T2 : ZTf} (h0 : zMet l yJ0_length_8abf5 (Cond.code yJ0_length_8abf5 cJ0_length_8abf5 1 (Option.some Jvm.ClassFile.FieldType.int) :: zG) rm_J0_length_8abf5 0 0 T0) (h1 : zMet l yJ0_coder_7d493 (Cond.code yJ0_coder_7d493 cJ0_coder_7d493 1 (Option.some Jvm.ClassFile.FieldType.byte) :: zG) rm_J0_coder_7d493 0 0 T1) (h2 : zMet l yJ4_append_cf1ce (Cond.code yJ4_append_cf1ce cJ4_append_cf1ce 2 (Option.some (Jvm.ClassFile.FieldType.object "java/lang/AbstractStringBuilder")) :: zG) rm_J4_append_cf1ce 0 0 T2) (p : Program) (e : Env) (s : State) (m : MethodId) (args : Array Value) (below : List Frame) (meth : Method) (c : Code) (D : va_G) (A : Nat → Prop) (a0 : Nat → Nat) (M0 : ZM) (K : ZRet) (KX : ZEx) (X : zCtx p l rm_J5_init_a7421 s m args meth c cJ5_init_a7421 RJ5 (Cond.code yJ5_init_a7421 cJ5_init_a7421 5 (Option.none : Option Jvm.ClassFile.FieldType) :: zG) 5 (Option.none : Option Jvm.ClassFile.FieldType) D A a0 M0 1 120) (hnm : meth.name = yJ5_init_a7421.name) (hout : ∀ x ∈ c.exceptionTable.toList, False) : ∀ q ∈ cd_J5_init_a7421 T0 T1 T2, zSd p l e rm_J5_init_a7421 s m args below meth c 5 D A a0 M0 K KX 1 120 q.1 q.2 :=
    zall_c (zs_aload_n X (pc := 0) (q := 0) rfl (by decide +kernel)) <|
    zall_c (zs_objinit X (pc := 1) (.tail _ gw_1_57) (.tail _ gw_1_35) (.tail _ gw_1_36) (by decide) (by decide) (by decide +kernel)) <|
    zall_c (zs_aload_n X (pc := 4) (q := 1) rfl (by decide +kernel)) <|
    zall_c (zs_callV0 X (pc := 5) zc_J0 (fun _ ht => ⟨(zCB ht gw_3_5 gw_1_6 gw_3_2 rfl rfl (by decide +kernel) ⟨Nat.le_of_ble_eq_true rfl, Nat.le_of_ble_eq_true rfl⟩), ht _ (.tail _ gw_3_3), ht _ (.tail _ gw_3_4)⟩) h0 hout (by decide +kernel)) <|
    zall_c (zs_istore_n X (pc := 8) (q := 2) rfl (by decide) (by decide +kernel)) <|
    zall_c (zs_iload_n X (pc := 9) (q := 2) rfl (by decide +kernel)) <|
    zall_c (zs_ldci X (pc := 10) (i := 38) (by decide) (by decide +kernel) (.tail _ gw_3_11)) <|
    zall_c (zs_icmp_ge X (pc := 12) (off := 10) (by decide +kernel) (by decide)) <|
    zall_c (zs_iload_n X (pc := 15) (q := 2) rfl (by decide +kernel)) <|
    zall_c (zs_bipush X (pc := 16) (by decide) (by decide +kernel) (by decide +kernel)) <|
    zall_c (zs_iadd X (pc := 18) (by decide +kernel)) <|
    zall_c (zs_goto X (pc := 19) (off := 5) (by decide +kernel) (by decide)) <|
    zall_c (zs_no (pc := 22)) <|
    zall_c (zs_istore_n X (pc := 24) (q := 3) rfl (by decide) (by decide +kernel)) <|
    zall_c (zs_aload_n X (pc := 25) (q := 1) rfl (by decide +kernel)) <|
    zall_c (zs_callV0 X (pc := 26) zc_J0 (fun _ ht => ⟨(zCB ht gw_3_9 gw_1_6 gw_3_13 rfl rfl (by decide +kernel) ⟨Nat.le_of_ble_eq_true rfl, Nat.le_of_ble_eq_true rfl⟩), ht _ (.tail _ gw_3_7), ht _ (.tail _ gw_3_8)⟩) h1 hout (by decide +kernel)) <|
    zall_c (zs_istore X (pc := 29) (by decide) (by decide +kernel)) <|
    zall_c (zs_aload_n X (pc := 31) (q := 0) rfl (by decide +kernel)) <|
    zall_c (zs_iload X (pc := 32) (by decide +kernel)) <|
    zall_c (zs_puti X (pc := 34) (ty := Jvm.ClassFile.FieldType.byte) zc_J4 (by decide) (zin ui_J4) tyJ4_ok nmJ4 (.tail _ gw_1_68) rfl (by decide +kernel) (by decide +kernel) (by decide +kernel) zP_byte) <|
    zall_c (zs_aload_n X (pc := 37) (q := 0) rfl (by decide +kernel)) <|
    zall_c (zs_iload X (pc := 38) (by decide +kernel)) <|
    zall_c (zs_if_ne X (pc := 40) (off := 9) (by decide +kernel) (by decide)) <|
    zall_c (zs_iload_n X (pc := 43) (q := 3) rfl (by decide +kernel)) <|
    zall_c (zs_newarray21 X (pc := 44) (.tail _ gw_1_82) (by decide +kernel)) <|
    zall_c (zs_goto X (pc := 46) (off := 7) (by decide +kernel) (by decide)) <|
    zall_c (zs_no (pc := 49)) <|
    zall_c (zs_putr X (pc := 53) (ty := (Jvm.ClassFile.FieldType.array Jvm.ClassFile.FieldType.byte)) zc_J4 (by decide) (zin ui_J4) tyJ4_ok nmJ4 (.tail _ gw_1_67) rfl (by decide +kernel) (by decide +kernel) (by decide +kernel) zP_arr) <|
    zall_c (zs_aload_n X (pc := 56) (q := 0) rfl (by decide +kernel)) <|
    zall_c (zs_aload_n X (pc := 57) (q := 1) rfl (by decide +kernel)) <|
    zall_c (zs_callU X (pc := 58) zc_J4 (fun _ ht => (zCU (owner := RJ5) ht gw_3_19 gw_1_5 gw_3_14 gw_3_16 gw_3_15 gw_3_25 gw_3_17 gw_3_18 rfl rfl (by decide +kernel) (by decide +kernel) ⟨Nat.le_of_ble_eq_true rfl, Nat.le_of_ble_eq_true rfl⟩)) h2 (by decide +kernel)) <|
    zall_c (zs_pop X (pc := 61) (by decide +kernel)) <|
    zall_c (zs_vret X (pc := 62) rfl (by decide +kernel)) <|
    zall_n
theorem met_J5_init_a7421 {l : Launch} (hl : l.stackTraces = false) {T0 : ZTf} {T1 : ZTf} {T2 : ZTf} (h0 : zMet l yJ0_length_8abf5 (Cond.code yJ0_length_8abf5 cJ0_length_8abf5 1 (Option.some Jvm.ClassFile.FieldType.int) :: zG) rm_J0_length_8abf5 0 0 T0) (h1 : zMet l yJ0_coder_7d493 (Cond.code yJ0_coder_7d493 cJ0_coder_7d493 1 (Option.some Jvm.ClassFile.FieldType.byte) :: zG) rm_J0_coder_7d493 0 0 T1) (h2 : zMet l yJ4_append_cf1ce (Cond.code yJ4_append_cf1ce cJ4_append_cf1ce 2 (Option.some (Jvm.ClassFile.FieldType.object "java/lang/AbstractStringBuilder")) :: zG) rm_J4_append_cf1ce 0 0 T2) {T : ZTf} (bd : zBd (cd_J5_init_a7421 T0 T1 T2) 5 1 120 T) : zMet l yJ5_init_a7421 (Cond.code yJ5_init_a7421 cJ5_init_a7421 5 (Option.none : Option Jvm.ClassFile.FieldType) :: zG) rm_J5_init_a7421 1 120 T := zMet_of hl (by decide +kernel) rfl rfl rfl rfl (hs_J5_init_a7421 hl h0 h1 h2) bd
theorem gw_3_1 : Cond.code yJ5_init_a7421 cJ5_init_a7421 5 (Option.none : Option Jvm.ClassFile.FieldType) ∈ zG := zGt3 (List.mem_of_getElem? (i := 1) (by rfl)) rfl
theorem gw_2_239 : Cond.methodLink RJ4 7 yJ5_init_a7421 ∈ zG := zGt2 (List.mem_of_getElem? (i := 239) (by rfl)) rfl
theorem gw_3_0 : Cond.instanceMethod yJ5_init_a7421 ∈ zG := zGt3 (List.mem_of_getElem? (i := 0) (by rfl)) rfl
abbrev rm_J4_init_a7421 : Room := { frames := 8, cells := 1, slots := 120, locals := 193 }
def cd_J4_init_a7421 (T0 : ZTf) : List (Nat × ZTr) := [(0, tAld 0 1), (1, tAld 1 2), (2, tCall 2 1 120 (zNt T0) (zRcv 1) 5), (5, tRv)]
set_option maxRecDepth 100000 in
set_option maxHeartbeats 4000000 in
theorem hs_J4_init_a7421 {l : Launch} (hl : l.stackTraces = false) {T0 : ZTf} (h0 : zMet l yJ5_init_a7421 (Cond.code yJ5_init_a7421 cJ5_init_a7421 5 (Option.none : Option Jvm.ClassFile.FieldType) :: zG) rm_J5_init_a7421 1 120 T0) (p : Program) (e : Env) (s : State) (m : MethodId) (args : Array Value) (below : List Frame) (meth : Method) (c : Code) (D : va_G) (A : Nat → Prop) (a0 : Nat → Nat) (M0 : ZM) (K : ZRet) (KX : ZEx) (X : zCtx p l rm_J4_init_a7421 s m args meth c cJ4_init_a7421 RJ4 (Cond.code yJ4_init_a7421 cJ4_init_a7421 2 (Option.none : Option Jvm.ClassFile.FieldType) :: zG) 2 (Option.none : Option Jvm.ClassFile.FieldType) D A a0 M0 1 120) (hnm : meth.name = yJ4_init_a7421.name) (hout : ∀ x ∈ c.exceptionTable.toList, False) : ∀ q ∈ cd_J4_init_a7421 T0, zSd p l e rm_J4_init_a7421 s m args below meth c 2 D A a0 M0 K KX 1 120 q.1 q.2 :=
    zall_c (zs_aload_n X (pc := 0) (q := 0) rfl (by decide +kernel)) <|
    zall_c (zs_aload_n X (pc := 1) (q := 1) rfl (by decide +kernel)) <|
    zall_c (zs_callI X (pc := 2) (rt := none) (fun _ ht => ⟨(zCB ht gw_3_1 gw_1_4 gw_2_239 rfl rfl (by decide +kernel) ⟨Nat.le_of_ble_eq_true rfl, Nat.le_of_ble_eq_true rfl⟩), rfl, ht _ (.tail _ gw_3_0)⟩) h0 (by decide +kernel)) <|
    zall_c (zs_vret X (pc := 5) rfl (by decide +kernel)) <|
    zall_n
theorem met_J4_init_a7421 {l : Launch} (hl : l.stackTraces = false) {T0 : ZTf} (h0 : zMet l yJ5_init_a7421 (Cond.code yJ5_init_a7421 cJ5_init_a7421 5 (Option.none : Option Jvm.ClassFile.FieldType) :: zG) rm_J5_init_a7421 1 120 T0) {T : ZTf} (bd : zBd (cd_J4_init_a7421 T0) 2 1 120 T) : zMet l yJ4_init_a7421 (Cond.code yJ4_init_a7421 cJ4_init_a7421 2 (Option.none : Option Jvm.ClassFile.FieldType) :: zG) rm_J4_init_a7421 1 120 T := zMet_of hl (by decide +kernel) rfl rfl rfl rfl (hs_J4_init_a7421 hl h0) bd
