/-! the rows of the law -/
theorem gw_2_230 : Cond.constant RL 7 (Int32.ofInt 2147483647) ∈ zG := zGt2 (List.mem_of_getElem? (i := 230) (by rfl)) rfl
abbrev rm_L_draw : Room := { frames := 1, cells := 0, slots := 0, locals := 30 }
def cd_L_draw : List (Nat × ZTr) := [(0, tIld 1 1), (1, tAld 0 2), (2, tLen 3), (3, tIc_ge 12 6), (6, tAld 0 7), (7, tIld 1 8), (8, tIal 20 9), (9, tGo 13), (12, tC (zi 0) 13), (13, tC (zi 2147483647) 15), (15, tBif zand 16), (16, tIld 2 17), (17, tDiv Int.tmod 18), (18, tRi (fun _ => True))]
set_option maxRecDepth 100000 in
set_option maxHeartbeats 4000000 in
theorem hs_L_draw {l : Launch} (hl : l.stackTraces = false) (p : Program) (e : Env) (s : State) (m : MethodId) (args : Array Value) (below : List Frame) (meth : Method) (c : Code) (D : va_G) (A : Nat → Prop) (a0 : Nat → Nat) (M0 : ZM) (K : ZRet) (KX : ZEx) (X : zCtx p l rm_L_draw s m args meth c cL_draw RL (Cond.code yL_draw cL_draw 3 (Option.some Jvm.ClassFile.FieldType.int) :: zG) 3 (Option.some Jvm.ClassFile.FieldType.int) D A a0 M0 0 0) (hnm : meth.name = yL_draw.name) (hout : ∀ x ∈ c.exceptionTable.toList, False) : ∀ q ∈ cd_L_draw, zSd p l e rm_L_draw s m args below meth c 3 D A a0 M0 K KX 0 0 q.1 q.2 :=
    zall_c (zs_iload_n X (pc := 0) (q := 1) rfl (by decide +kernel)) <|
    zall_c (zs_aload_n X (pc := 1) (q := 0) rfl (by decide +kernel)) <|
    zall_c (zs_len X (pc := 2) (by decide +kernel)) <|
    zall_c (zs_icmp_ge X (pc := 3) (off := 9) (by decide +kernel) (by decide)) <|
    zall_c (zs_aload_n X (pc := 6) (q := 0) rfl (by decide +kernel)) <|
    zall_c (zs_iload_n X (pc := 7) (q := 1) rfl (by decide +kernel)) <|
    zall_c (zs_iaload20 X (pc := 8) (by decide +kernel)) <|
    zall_c (zs_goto X (pc := 9) (off := 4) (by decide +kernel) (by decide)) <|
    zall_c (zs_iconst X (pc := 12) (by decide) (by decide +kernel)) <|
    zall_c (zs_ldci X (pc := 13) (i := 7) (by decide) (by decide +kernel) (.tail _ gw_2_230)) <|
    zall_c (zs_iand X (pc := 15) (by decide +kernel)) <|
    zall_c (zs_iload_n X (pc := 16) (q := 2) rfl (by decide +kernel)) <|
    zall_c (zs_irem X (pc := 17) (by decide +kernel)) <|
    zall_c (zs_iret X (pc := 18) rfl (by decide +kernel)) <|
    zall_n
theorem met_L_draw {l : Launch} (hl : l.stackTraces = false) {T : ZTf} (bd : zBd (cd_L_draw) 3 0 0 T) : zMet l yL_draw (Cond.code yL_draw cL_draw 3 (Option.some Jvm.ClassFile.FieldType.int) :: zG) rm_L_draw 0 0 T := zMet_of hl (by decide +kernel) rfl rfl rfl rfl (hs_L_draw hl) bd
theorem gw_4_10 : Cond.methodLink RL 8 yJ0_length_8abf5 ∈ zG := zGt4 (List.mem_of_getElem? (i := 10) (by rfl)) rfl
theorem gw_4_14 : Cond.methodLink RL 14 yJ0_charAt_5068e ∈ zG := zGt4 (List.mem_of_getElem? (i := 14) (by rfl)) rfl
abbrev rm_L_four : Room := { frames := 5, cells := 0, slots := 0, locals := 115 }
def cd_L_four (T0 : ZTf) (T1 : ZTf) : List (Nat × ZTr) := [(0, tC (zi 0) 1), (1, tIst 2 2), (2, tC (zi 0) 3), (3, tIst 3 4), (4, tIld 3 5), (5, tC (zi 4) 6), (6, tIc_ge 42 9), (9, tIld 2 10), (10, tC (zi 8) 12), (12, tBif zshl 13), (13, tIld 1 14), (14, tIld 3 15), (15, tAdd 16), (16, tAld 0 17), (17, tCall0 1 T0 (zRcv 0) 20), (20, tIc_ge 33 23), (23, tAld 0 24), (24, tIld 1 25), (25, tIld 3 26), (26, tAdd 27), (27, tCall0 2 T1 (zRcv 0) 30), (30, tGo 34), (33, tC (zi 0) 34), (34, tBif zor 35), (35, tIst 2 36), (36, tInc 3 1 39), (39, tGo 4), (42, tIld 2 43), (43, tRi (fun _ => True))]
set_option maxRecDepth 100000 in
set_option maxHeartbeats 4000000 in
theorem hs_L_four {l : Launch} (hl : l.stackTraces = false) {T0 : ZTf} {T1 : ZTf} (h0 : zMet l yJ0_length_8abf5 (Cond.code yJ0_length_8abf5 cJ0_length_8abf5 1 (Option.some Jvm.ClassFile.FieldType.int) :: zG) rm_J0_length_8abf5 0 0 T0) (h1 : zMet l yJ0_charAt_5068e (Cond.code yJ0_charAt_5068e cJ0_charAt_5068e 2 (Option.some Jvm.ClassFile.FieldType.char) :: zG) rm_J0_charAt_5068e 0 0 T1) (p : Program) (e : Env) (s : State) (m : MethodId) (args : Array Value) (below : List Frame) (meth : Method) (c : Code) (D : va_G) (A : Nat → Prop) (a0 : Nat → Nat) (M0 : ZM) (K : ZRet) (KX : ZEx) (X : zCtx p l rm_L_four s m args meth c cL_four RL (Cond.code yL_four cL_four 4 (Option.some Jvm.ClassFile.FieldType.int) :: zG) 4 (Option.some Jvm.ClassFile.FieldType.int) D A a0 M0 0 0) (hnm : meth.name = yL_four.name) (hout : ∀ x ∈ c.exceptionTable.toList, False) : ∀ q ∈ cd_L_four T0 T1, zSd p l e rm_L_four s m args below meth c 4 D A a0 M0 K KX 0 0 q.1 q.2 :=
    zall_c (zs_iconst X (pc := 0) (by decide) (by decide +kernel)) <|
    zall_c (zs_istore_n X (pc := 1) (q := 2) rfl (by decide) (by decide +kernel)) <|
    zall_c (zs_iconst X (pc := 2) (by decide) (by decide +kernel)) <|
    zall_c (zs_istore_n X (pc := 3) (q := 3) rfl (by decide) (by decide +kernel)) <|
    zall_c (zs_iload_n X (pc := 4) (q := 3) rfl (by decide +kernel)) <|
    zall_c (zs_iconst X (pc := 5) (by decide) (by decide +kernel)) <|
    zall_c (zs_icmp_ge X (pc := 6) (off := 36) (by decide +kernel) (by decide)) <|
    zall_c (zs_iload_n X (pc := 9) (q := 2) rfl (by decide +kernel)) <|
    zall_c (zs_bipush X (pc := 10) (by decide) (by decide +kernel) (by decide +kernel)) <|
    zall_c (zs_ishl X (pc := 12) (by decide +kernel)) <|
    zall_c (zs_iload_n X (pc := 13) (q := 1) rfl (by decide +kernel)) <|
    zall_c (zs_iload_n X (pc := 14) (q := 3) rfl (by decide +kernel)) <|
    zall_c (zs_iadd X (pc := 15) (by decide +kernel)) <|
    zall_c (zs_aload_n X (pc := 16) (q := 0) rfl (by decide +kernel)) <|
    zall_c (zs_callV0 X (pc := 17) zc_J0 (fun _ ht => ⟨(zCB ht gw_3_5 gw_1_6 gw_4_10 rfl rfl (by decide +kernel) ⟨Nat.le_of_ble_eq_true rfl, Nat.le_of_ble_eq_true rfl⟩), ht _ (.tail _ gw_3_3), ht _ (.tail _ gw_3_4)⟩) h0 hout (by decide +kernel)) <|
    zall_c (zs_icmp_ge X (pc := 20) (off := 13) (by decide +kernel) (by decide)) <|
    zall_c (zs_aload_n X (pc := 23) (q := 0) rfl (by decide +kernel)) <|
    zall_c (zs_iload_n X (pc := 24) (q := 1) rfl (by decide +kernel)) <|
    zall_c (zs_iload_n X (pc := 25) (q := 3) rfl (by decide +kernel)) <|
    zall_c (zs_iadd X (pc := 26) (by decide +kernel)) <|
    zall_c (zs_callV0 X (pc := 27) zc_J0 (fun _ ht => ⟨(zCB ht gw_4_17 gw_1_6 gw_4_14 rfl rfl (by decide +kernel) ⟨Nat.le_of_ble_eq_true rfl, Nat.le_of_ble_eq_true rfl⟩), ht _ (.tail _ gw_4_15), ht _ (.tail _ gw_4_16)⟩) h1 hout (by decide +kernel)) <|
    zall_c (zs_goto X (pc := 30) (off := 4) (by decide +kernel) (by decide)) <|
    zall_c (zs_iconst X (pc := 33) (by decide) (by decide +kernel)) <|
    zall_c (zs_ior X (pc := 34) (by decide +kernel)) <|
    zall_c (zs_istore_n X (pc := 35) (q := 2) rfl (by decide) (by decide +kernel)) <|
    zall_c (zs_iinc X (pc := 36) (by decide) (by decide +kernel)) <|
    zall_c (zs_goto X (pc := 39) (off := (-35)) (by decide +kernel) (by decide)) <|
    zall_c (zs_iload_n X (pc := 42) (q := 2) rfl (by decide +kernel)) <|
    zall_c (zs_iret X (pc := 43) rfl (by decide +kernel)) <|
    zall_n
theorem met_L_four {l : Launch} (hl : l.stackTraces = false) {T0 : ZTf} {T1 : ZTf} (h0 : zMet l yJ0_length_8abf5 (Cond.code yJ0_length_8abf5 cJ0_length_8abf5 1 (Option.some Jvm.ClassFile.FieldType.int) :: zG) rm_J0_length_8abf5 0 0 T0) (h1 : zMet l yJ0_charAt_5068e (Cond.code yJ0_charAt_5068e cJ0_charAt_5068e 2 (Option.some Jvm.ClassFile.FieldType.char) :: zG) rm_J0_charAt_5068e 0 0 T1) {T : ZTf} (bd : zBd (cd_L_four T0 T1) 4 0 0 T) : zMet l yL_four (Cond.code yL_four cL_four 4 (Option.some Jvm.ClassFile.FieldType.int) :: zG) rm_L_four 0 0 T := zMet_of hl (by decide +kernel) rfl rfl rfl rfl (hs_L_four hl h0 h1) bd
theorem gw_4_13 : Cond.code yL_four cL_four 4 (Option.some Jvm.ClassFile.FieldType.int) ∈ zG := zGt4 (List.mem_of_getElem? (i := 13) (by rfl)) rfl
theorem gw_1_0 : Cond.initialized RL ∈ zG := zGt1 (List.mem_of_getElem? (i := 0) (by rfl)) rfl
theorem gw_4_11 : Cond.methodLink RL 18 yL_four ∈ zG := zGt4 (List.mem_of_getElem? (i := 11) (by rfl)) rfl
theorem gw_4_12 : Cond.static yL_four ∈ zG := zGt4 (List.mem_of_getElem? (i := 12) (by rfl)) rfl
theorem gw_4_32 : Cond.code yX8_append cX8_append 6 (Option.some Jvm.ClassFile.FieldType.int) ∈ zG := zGt4 (List.mem_of_getElem? (i := 32) (by rfl)) rfl
theorem gw_4_29 : Cond.methodLink RL 24 yX8_append ∈ zG := zGt4 (List.mem_of_getElem? (i := 29) (by rfl)) rfl
theorem gw_4_30 : Cond.instanceMethod yX8_append ∈ zG := zGt4 (List.mem_of_getElem? (i := 30) (by rfl)) rfl
theorem gw_4_31 : Cond.selects RX8 yX8_append yX8_append ∈ zG := zGt4 (List.mem_of_getElem? (i := 31) (by rfl)) rfl
theorem gw_4_53 : Cond.methodLink RL 30 Lib.Math.min.name ∈ zG := zGt4 (List.mem_of_getElem? (i := 53) (by rfl)) rfl
theorem gw_4_57 : Cond.code yX8_truncate cX8_truncate 2 (Option.none : Option Jvm.ClassFile.FieldType) ∈ zG := zGt4 (List.mem_of_getElem? (i := 57) (by rfl)) rfl
theorem gw_4_54 : Cond.methodLink RL 36 yX8_truncate ∈ zG := zGt4 (List.mem_of_getElem? (i := 54) (by rfl)) rfl
theorem gw_4_55 : Cond.instanceMethod yX8_truncate ∈ zG := zGt4 (List.mem_of_getElem? (i := 55) (by rfl)) rfl
theorem gw_4_56 : Cond.selects RX8 yX8_truncate yX8_truncate ∈ zG := zGt4 (List.mem_of_getElem? (i := 56) (by rfl)) rfl
abbrev rm_L_feed : Room := { frames := 8, cells := 30, slots := 180, locals := 138 }
def cd_L_feed (T0 : ZTf) (T1 : ZTf) (T2 : ZTf) (T3 : ZTf) : List (Nat × ZTr) := [(0, tC (zi 0) 1), (1, tIst 2 2), (2, tC (zi 0) 3), (3, tIst 3 4), (4, tIld 3 5), (5, tAld 1 6), (6, tCall0 1 T0 (zRcv 0) 9), (9, tIc_lt 16 12), (12, tIld 3 13), (13, tIf_ne 63 16), (16, tAld 0 17), (17, tAld 1 18), (18, tIld 3 19), (19, tCall0 2 T1 zAny 22), (22, tAld 1 23), (23, tIld 3 24), (24, tC (zi 4) 25), (25, tAdd 26), (26, tCall0 2 T1 zAny 29), (29, tAld 1 30), (30, tIld 3 31), (31, tC (zi 8) 33), (33, tAdd 34), (34, tCall0 2 T1 zAny 37), (37, tAld 1 38), (38, tIld 3 39), (39, tC (zi 12) 41), (41, tAdd 42), (42, tCall0 2 T1 zAny 45), (45, tAld 1 46), (46, tIld 3 47), (47, tC (zi 16) 49), (49, tAdd 50), (50, tCall0 2 T1 zAny 53), (53, tCall 6 1 6 T2 (zRcv 11) 56), (56, tIst 2 57), (57, tInc 3 20 60), (60, tGo 4), (63, tAld 0 64), (64, tIld 2 65), (65, tAld 1 66), (66, tCall0 1 T0 (zRcv 0) 69), (69, tMth2 zmin 72), (72, tCall 2 1 6 T3 (zRcv 11) 75), (75, tRv)]
set_option maxRecDepth 100000 in
set_option maxHeartbeats 4000000 in
theorem hs_L_feed {l : Launch} (hl : l.stackTraces = false) {T0 : ZTf} {T1 : ZTf} {T2 : ZTf} {T3 : ZTf} (h0 : zMet l yJ0_length_8abf5 (Cond.code yJ0_length_8abf5 cJ0_length_8abf5 1 (Option.some Jvm.ClassFile.FieldType.int) :: zG) rm_J0_length_8abf5 0 0 T0) (h1 : zMet l yL_four (Cond.code yL_four cL_four 4 (Option.some Jvm.ClassFile.FieldType.int) :: zG) rm_L_four 0 0 T1) (h2 : zMet l yX8_append (Cond.code yX8_append cX8_append 6 (Option.some Jvm.ClassFile.FieldType.int) :: zG) rm_X8_append 1 6 T2) (h3 : zMet l yX8_truncate (Cond.code yX8_truncate cX8_truncate 2 (Option.none : Option Jvm.ClassFile.FieldType) :: zG) rm_X8_truncate 1 6 T3) (p : Program) (e : Env) (s : State) (m : MethodId) (args : Array Value) (below : List Frame) (meth : Method) (c : Code) (D : va_G) (A : Nat → Prop) (a0 : Nat → Nat) (M0 : ZM) (K : ZRet) (KX : ZEx) (X : zCtx p l rm_L_feed s m args meth c cL_feed RL (Cond.code yL_feed cL_feed 4 (Option.none : Option Jvm.ClassFile.FieldType) :: zG) 4 (Option.none : Option Jvm.ClassFile.FieldType) D A a0 M0 30 180) (hnm : meth.name = yL_feed.name) (hout : ∀ x ∈ c.exceptionTable.toList, False) : ∀ q ∈ cd_L_feed T0 T1 T2 T3, zSd p l e rm_L_feed s m args below meth c 4 D A a0 M0 K KX 30 180 q.1 q.2 :=
    zall_c (zs_iconst X (pc := 0) (by decide) (by decide +kernel)) <|
    zall_c (zs_istore_n X (pc := 1) (q := 2) rfl (by decide) (by decide +kernel)) <|
    zall_c (zs_iconst X (pc := 2) (by decide) (by decide +kernel)) <|
    zall_c (zs_istore_n X (pc := 3) (q := 3) rfl (by decide) (by decide +kernel)) <|
    zall_c (zs_iload_n X (pc := 4) (q := 3) rfl (by decide +kernel)) <|
    zall_c (zs_aload_n X (pc := 5) (q := 1) rfl (by decide +kernel)) <|
    zall_c (zs_callV0 X (pc := 6) zc_J0 (fun _ ht => ⟨(zCB ht gw_3_5 gw_1_6 gw_4_10 rfl rfl (by decide +kernel) ⟨Nat.le_of_ble_eq_true rfl, Nat.le_of_ble_eq_true rfl⟩), ht _ (.tail _ gw_3_3), ht _ (.tail _ gw_3_4)⟩) h0 hout (by decide +kernel)) <|
    zall_c (zs_icmp_lt X (pc := 9) (off := 7) (by decide +kernel) (by decide)) <|
    zall_c (zs_iload_n X (pc := 12) (q := 3) rfl (by decide +kernel)) <|
    zall_c (zs_if_ne X (pc := 13) (off := 50) (by decide +kernel) (by decide)) <|
    zall_c (zs_aload_n X (pc := 16) (q := 0) rfl (by decide +kernel)) <|
    zall_c (zs_aload_n X (pc := 17) (q := 1) rfl (by decide +kernel)) <|
    zall_c (zs_iload_n X (pc := 18) (q := 3) rfl (by decide +kernel)) <|
    zall_c (zs_callS0 X (pc := 19) (fun _ ht => ⟨(zCB ht gw_4_13 gw_1_0 gw_4_11 rfl rfl (by decide +kernel) ⟨Nat.le_of_ble_eq_true rfl, Nat.le_of_ble_eq_true rfl⟩), ht _ (.tail _ gw_4_12)⟩) h1 hout (by decide +kernel)) <|
    zall_c (zs_aload_n X (pc := 22) (q := 1) rfl (by decide +kernel)) <|
    zall_c (zs_iload_n X (pc := 23) (q := 3) rfl (by decide +kernel)) <|
    zall_c (zs_iconst X (pc := 24) (by decide) (by decide +kernel)) <|
    zall_c (zs_iadd X (pc := 25) (by decide +kernel)) <|
    zall_c (zs_callS0 X (pc := 26) (fun _ ht => ⟨(zCB ht gw_4_13 gw_1_0 gw_4_11 rfl rfl (by decide +kernel) ⟨Nat.le_of_ble_eq_true rfl, Nat.le_of_ble_eq_true rfl⟩), ht _ (.tail _ gw_4_12)⟩) h1 hout (by decide +kernel)) <|
    zall_c (zs_aload_n X (pc := 29) (q := 1) rfl (by decide +kernel)) <|
    zall_c (zs_iload_n X (pc := 30) (q := 3) rfl (by decide +kernel)) <|
    zall_c (zs_bipush X (pc := 31) (by decide) (by decide +kernel) (by decide +kernel)) <|
    zall_c (zs_iadd X (pc := 33) (by decide +kernel)) <|
    zall_c (zs_callS0 X (pc := 34) (fun _ ht => ⟨(zCB ht gw_4_13 gw_1_0 gw_4_11 rfl rfl (by decide +kernel) ⟨Nat.le_of_ble_eq_true rfl, Nat.le_of_ble_eq_true rfl⟩), ht _ (.tail _ gw_4_12)⟩) h1 hout (by decide +kernel)) <|
    zall_c (zs_aload_n X (pc := 37) (q := 1) rfl (by decide +kernel)) <|
    zall_c (zs_iload_n X (pc := 38) (q := 3) rfl (by decide +kernel)) <|
    zall_c (zs_bipush X (pc := 39) (by decide) (by decide +kernel) (by decide +kernel)) <|
    zall_c (zs_iadd X (pc := 41) (by decide +kernel)) <|
    zall_c (zs_callS0 X (pc := 42) (fun _ ht => ⟨(zCB ht gw_4_13 gw_1_0 gw_4_11 rfl rfl (by decide +kernel) ⟨Nat.le_of_ble_eq_true rfl, Nat.le_of_ble_eq_true rfl⟩), ht _ (.tail _ gw_4_12)⟩) h1 hout (by decide +kernel)) <|
    zall_c (zs_aload_n X (pc := 45) (q := 1) rfl (by decide +kernel)) <|
    zall_c (zs_iload_n X (pc := 46) (q := 3) rfl (by decide +kernel)) <|
    zall_c (zs_bipush X (pc := 47) (by decide) (by decide +kernel) (by decide +kernel)) <|
    zall_c (zs_iadd X (pc := 49) (by decide +kernel)) <|
    zall_c (zs_callS0 X (pc := 50) (fun _ ht => ⟨(zCB ht gw_4_13 gw_1_0 gw_4_11 rfl rfl (by decide +kernel) ⟨Nat.le_of_ble_eq_true rfl, Nat.le_of_ble_eq_true rfl⟩), ht _ (.tail _ gw_4_12)⟩) h1 hout (by decide +kernel)) <|
    zall_c (zs_callV X (pc := 53) zc_X8 (fun _ ht => ⟨(zCB ht gw_4_32 gw_1_1 gw_4_29 rfl rfl (by decide +kernel) ⟨Nat.le_of_ble_eq_true rfl, Nat.le_of_ble_eq_true rfl⟩), ht _ (.tail _ gw_4_30), ht _ (.tail _ gw_4_31)⟩) h2 hout (by decide +kernel)) <|
    zall_c (zs_istore_n X (pc := 56) (q := 2) rfl (by decide) (by decide +kernel)) <|
    zall_c (zs_iinc X (pc := 57) (by decide) (by decide +kernel)) <|
    zall_c (zs_goto X (pc := 60) (off := (-56)) (by decide +kernel) (by decide)) <|
    zall_c (zs_aload_n X (pc := 63) (q := 0) rfl (by decide +kernel)) <|
    zall_c (zs_iload_n X (pc := 64) (q := 2) rfl (by decide +kernel)) <|
    zall_c (zs_aload_n X (pc := 65) (q := 1) rfl (by decide +kernel)) <|
    zall_c (zs_callV0 X (pc := 66) zc_J0 (fun _ ht => ⟨(zCB ht gw_3_5 gw_1_6 gw_4_10 rfl rfl (by decide +kernel) ⟨Nat.le_of_ble_eq_true rfl, Nat.le_of_ble_eq_true rfl⟩), ht _ (.tail _ gw_3_3), ht _ (.tail _ gw_3_4)⟩) h0 hout (by decide +kernel)) <|
    zall_c (zs_mmin X (pc := 69) (.tail _ gw_4_53) (.tail _ gw_3_59) (.tail _ gw_1_14) (.tail _ gw_3_60) (Nat.le_of_ble_eq_true rfl) (Nat.le_of_ble_eq_true rfl) (by decide +kernel)) <|
    zall_c (zs_callV X (pc := 72) zc_X8 (fun _ ht => ⟨(zCB ht gw_4_57 gw_1_1 gw_4_54 rfl rfl (by decide +kernel) ⟨Nat.le_of_ble_eq_true rfl, Nat.le_of_ble_eq_true rfl⟩), ht _ (.tail _ gw_4_55), ht _ (.tail _ gw_4_56)⟩) h3 hout (by decide +kernel)) <|
    zall_c (zs_vret X (pc := 75) rfl (by decide +kernel)) <|
    zall_n
theorem met_L_feed {l : Launch} (hl : l.stackTraces = false) {T0 : ZTf} {T1 : ZTf} {T2 : ZTf} {T3 : ZTf} (h0 : zMet l yJ0_length_8abf5 (Cond.code yJ0_length_8abf5 cJ0_length_8abf5 1 (Option.some Jvm.ClassFile.FieldType.int) :: zG) rm_J0_length_8abf5 0 0 T0) (h1 : zMet l yL_four (Cond.code yL_four cL_four 4 (Option.some Jvm.ClassFile.FieldType.int) :: zG) rm_L_four 0 0 T1) (h2 : zMet l yX8_append (Cond.code yX8_append cX8_append 6 (Option.some Jvm.ClassFile.FieldType.int) :: zG) rm_X8_append 1 6 T2) (h3 : zMet l yX8_truncate (Cond.code yX8_truncate cX8_truncate 2 (Option.none : Option Jvm.ClassFile.FieldType) :: zG) rm_X8_truncate 1 6 T3) {T : ZTf} (bd : zBd (cd_L_feed T0 T1 T2 T3) 4 30 180 T) : zMet l yL_feed (Cond.code yL_feed cL_feed 4 (Option.none : Option Jvm.ClassFile.FieldType) :: zG) rm_L_feed 30 180 T := zMet_of hl (by decide +kernel) rfl rfl rfl rfl (hs_L_feed hl h0 h1 h2 h3) bd
theorem gw_2_145 : Cond.methodLink RL 99 yX8_property ∈ zG := zGt2 (List.mem_of_getElem? (i := 145) (by rfl)) rfl
theorem gw_5_57 : Cond.code yX8_row cX8_row 4 (Option.some Jvm.ClassFile.FieldType.int) ∈ zG := zGt5 (List.mem_of_getElem? (i := 57) (by rfl)) rfl
theorem gw_5_54 : Cond.methodLink RL 140 yX8_row ∈ zG := zGt5 (List.mem_of_getElem? (i := 54) (by rfl)) rfl
theorem gw_5_55 : Cond.instanceMethod yX8_row ∈ zG := zGt5 (List.mem_of_getElem? (i := 55) (by rfl)) rfl
theorem gw_5_56 : Cond.selects RX8 yX8_row yX8_row ∈ zG := zGt5 (List.mem_of_getElem? (i := 56) (by rfl)) rfl
theorem gw_5_75 : Cond.code yX8_taking cX8_taking 5 (Option.some Jvm.ClassFile.FieldType.int) ∈ zG := zGt5 (List.mem_of_getElem? (i := 75) (by rfl)) rfl
theorem gw_5_72 : Cond.methodLink RL 145 yX8_taking ∈ zG := zGt5 (List.mem_of_getElem? (i := 72) (by rfl)) rfl
theorem gw_5_73 : Cond.instanceMethod yX8_taking ∈ zG := zGt5 (List.mem_of_getElem? (i := 73) (by rfl)) rfl
theorem gw_5_74 : Cond.selects RX8 yX8_taking yX8_taking ∈ zG := zGt5 (List.mem_of_getElem? (i := 74) (by rfl)) rfl
abbrev rm_L_inWork : Room := { frames := 8, cells := 680, slots := 4100, locals := 136 }
def cd_L_inWork (T0 : ZTf) (T1 : ZTf) (T2 : ZTf) : List (Nat × ZTr) := [(0, tC (zi 0) 1), (1, tIst 3 2), (2, tIld 3 3), (3, tAld 0 4), (4, tC (zi 1) 5), (5, tCall 2 1 6 T0 (zRcv 11) 8), (8, tIc_ge 77 11), (11, tIld 2 12), (12, tIld 3 13), (13, tAdd 14), (14, tAld 0 15), (15, tC (zi 1) 16), (16, tCall 2 1 6 T0 (zRcv 11) 19), (19, tDiv Int.tmod 20), (20, tIst 4 22), (22, tC (zi 0) 23), (23, tIst 5 25), (25, tIld 5 27), (27, tAld 0 28), (28, tIld 4 30), (30, tC (zi 4) 31), (31, tCall 3 2 12 T1 (zRcv 11) 34), (34, tIc_ge 71 37), (37, tAld 0 38), (38, tIld 4 40), (40, tIld 5 42), (42, tC (zi 0) 43), (43, tCall 4 3 18 T2 (zRcv 11) 46), (46, tIld 1 47), (47, tIc_ne 65 50), (50, tAld 0 51), (51, tIld 4 53), (53, tIld 5 55), (55, tC (zi 1) 56), (56, tCall 4 3 18 T2 (zRcv 11) 59), (59, tIf_ge 65 62), (62, tIld 4 64), (64, tRi (fun _ => True)), (65, tInc 5 1 68), (68, tGo 25), (71, tInc 3 1 74), (74, tGo 2), (77, tC (zi (-1)) 78), (78, tRi (fun _ => True))]
set_option maxRecDepth 100000 in
set_option maxHeartbeats 4000000 in
theorem hs_L_inWork {l : Launch} (hl : l.stackTraces = false) {T0 : ZTf} {T1 : ZTf} {T2 : ZTf} (h0 : zMet l yX8_property (Cond.code yX8_property cX8_property 2 (Option.some Jvm.ClassFile.FieldType.int) :: zG) rm_X8_property 1 6 T0) (h1 : zMet l yX8_row (Cond.code yX8_row cX8_row 4 (Option.some Jvm.ClassFile.FieldType.int) :: zG) rm_X8_row 2 12 T1) (h2 : zMet l yX8_taking (Cond.code yX8_taking cX8_taking 5 (Option.some Jvm.ClassFile.FieldType.int) :: zG) rm_X8_taking 3 18 T2) (p : Program) (e : Env) (s : State) (m : MethodId) (args : Array Value) (below : List Frame) (meth : Method) (c : Code) (D : va_G) (A : Nat → Prop) (a0 : Nat → Nat) (M0 : ZM) (K : ZRet) (KX : ZEx) (X : zCtx p l rm_L_inWork s m args meth c cL_inWork RL (Cond.code yL_inWork cL_inWork 6 (Option.some Jvm.ClassFile.FieldType.int) :: zG) 6 (Option.some Jvm.ClassFile.FieldType.int) D A a0 M0 680 4100) (hnm : meth.name = yL_inWork.name) (hout : ∀ x ∈ c.exceptionTable.toList, False) : ∀ q ∈ cd_L_inWork T0 T1 T2, zSd p l e rm_L_inWork s m args below meth c 6 D A a0 M0 K KX 680 4100 q.1 q.2 :=
    zall_c (zs_iconst X (pc := 0) (by decide) (by decide +kernel)) <|
    zall_c (zs_istore_n X (pc := 1) (q := 3) rfl (by decide) (by decide +kernel)) <|
    zall_c (zs_iload_n X (pc := 2) (q := 3) rfl (by decide +kernel)) <|
    zall_c (zs_aload_n X (pc := 3) (q := 0) rfl (by decide +kernel)) <|
    zall_c (zs_iconst X (pc := 4) (by decide) (by decide +kernel)) <|
    zall_c (zs_callV X (pc := 5) zc_X8 (fun _ ht => ⟨(zCB ht gw_2_148 gw_1_1 gw_2_145 rfl rfl (by decide +kernel) ⟨Nat.le_of_ble_eq_true rfl, Nat.le_of_ble_eq_true rfl⟩), ht _ (.tail _ gw_2_146), ht _ (.tail _ gw_2_147)⟩) h0 hout (by decide +kernel)) <|
    zall_c (zs_icmp_ge X (pc := 8) (off := 69) (by decide +kernel) (by decide)) <|
    zall_c (zs_iload_n X (pc := 11) (q := 2) rfl (by decide +kernel)) <|
    zall_c (zs_iload_n X (pc := 12) (q := 3) rfl (by decide +kernel)) <|
    zall_c (zs_iadd X (pc := 13) (by decide +kernel)) <|
    zall_c (zs_aload_n X (pc := 14) (q := 0) rfl (by decide +kernel)) <|
    zall_c (zs_iconst X (pc := 15) (by decide) (by decide +kernel)) <|
    zall_c (zs_callV X (pc := 16) zc_X8 (fun _ ht => ⟨(zCB ht gw_2_148 gw_1_1 gw_2_145 rfl rfl (by decide +kernel) ⟨Nat.le_of_ble_eq_true rfl, Nat.le_of_ble_eq_true rfl⟩), ht _ (.tail _ gw_2_146), ht _ (.tail _ gw_2_147)⟩) h0 hout (by decide +kernel)) <|
    zall_c (zs_irem X (pc := 19) (by decide +kernel)) <|
    zall_c (zs_istore X (pc := 20) (by decide) (by decide +kernel)) <|
    zall_c (zs_iconst X (pc := 22) (by decide) (by decide +kernel)) <|
    zall_c (zs_istore X (pc := 23) (by decide) (by decide +kernel)) <|
    zall_c (zs_iload X (pc := 25) (by decide +kernel)) <|
    zall_c (zs_aload_n X (pc := 27) (q := 0) rfl (by decide +kernel)) <|
    zall_c (zs_iload X (pc := 28) (by decide +kernel)) <|
    zall_c (zs_iconst X (pc := 30) (by decide) (by decide +kernel)) <|
    zall_c (zs_callV X (pc := 31) zc_X8 (fun _ ht => ⟨(zCB ht gw_5_57 gw_1_1 gw_5_54 rfl rfl (by decide +kernel) ⟨Nat.le_of_ble_eq_true rfl, Nat.le_of_ble_eq_true rfl⟩), ht _ (.tail _ gw_5_55), ht _ (.tail _ gw_5_56)⟩) h1 hout (by decide +kernel)) <|
    zall_c (zs_icmp_ge X (pc := 34) (off := 37) (by decide +kernel) (by decide)) <|
    zall_c (zs_aload_n X (pc := 37) (q := 0) rfl (by decide +kernel)) <|
    zall_c (zs_iload X (pc := 38) (by decide +kernel)) <|
    zall_c (zs_iload X (pc := 40) (by decide +kernel)) <|
    zall_c (zs_iconst X (pc := 42) (by decide) (by decide +kernel)) <|
    zall_c (zs_callV X (pc := 43) zc_X8 (fun _ ht => ⟨(zCB ht gw_5_75 gw_1_1 gw_5_72 rfl rfl (by decide +kernel) ⟨Nat.le_of_ble_eq_true rfl, Nat.le_of_ble_eq_true rfl⟩), ht _ (.tail _ gw_5_73), ht _ (.tail _ gw_5_74)⟩) h2 hout (by decide +kernel)) <|
    zall_c (zs_iload_n X (pc := 46) (q := 1) rfl (by decide +kernel)) <|
    zall_c (zs_icmp_ne X (pc := 47) (off := 18) (by decide +kernel) (by decide)) <|
    zall_c (zs_aload_n X (pc := 50) (q := 0) rfl (by decide +kernel)) <|
    zall_c (zs_iload X (pc := 51) (by decide +kernel)) <|
    zall_c (zs_iload X (pc := 53) (by decide +kernel)) <|
    zall_c (zs_iconst X (pc := 55) (by decide) (by decide +kernel)) <|
    zall_c (zs_callV X (pc := 56) zc_X8 (fun _ ht => ⟨(zCB ht gw_5_75 gw_1_1 gw_5_72 rfl rfl (by decide +kernel) ⟨Nat.le_of_ble_eq_true rfl, Nat.le_of_ble_eq_true rfl⟩), ht _ (.tail _ gw_5_73), ht _ (.tail _ gw_5_74)⟩) h2 hout (by decide +kernel)) <|
    zall_c (zs_if_ge X (pc := 59) (off := 6) (by decide +kernel) (by decide)) <|
    zall_c (zs_iload X (pc := 62) (by decide +kernel)) <|
    zall_c (zs_iret X (pc := 64) rfl (by decide +kernel)) <|
    zall_c (zs_iinc X (pc := 65) (by decide) (by decide +kernel)) <|
    zall_c (zs_goto X (pc := 68) (off := (-43)) (by decide +kernel) (by decide)) <|
    zall_c (zs_iinc X (pc := 71) (by decide) (by decide +kernel)) <|
    zall_c (zs_goto X (pc := 74) (off := (-72)) (by decide +kernel) (by decide)) <|
    zall_c (zs_iconst X (pc := 77) (by decide) (by decide +kernel)) <|
    zall_c (zs_iret X (pc := 78) rfl (by decide +kernel)) <|
    zall_n
theorem met_L_inWork {l : Launch} (hl : l.stackTraces = false) {T0 : ZTf} {T1 : ZTf} {T2 : ZTf} (h0 : zMet l yX8_property (Cond.code yX8_property cX8_property 2 (Option.some Jvm.ClassFile.FieldType.int) :: zG) rm_X8_property 1 6 T0) (h1 : zMet l yX8_row (Cond.code yX8_row cX8_row 4 (Option.some Jvm.ClassFile.FieldType.int) :: zG) rm_X8_row 2 12 T1) (h2 : zMet l yX8_taking (Cond.code yX8_taking cX8_taking 5 (Option.some Jvm.ClassFile.FieldType.int) :: zG) rm_X8_taking 3 18 T2) {T : ZTf} (bd : zBd (cd_L_inWork T0 T1 T2) 6 680 4100 T) : zMet l yL_inWork (Cond.code yL_inWork cL_inWork 6 (Option.some Jvm.ClassFile.FieldType.int) :: zG) rm_L_inWork 680 4100 T := zMet_of hl (by decide +kernel) rfl rfl rfl rfl (hs_L_inWork hl h0 h1 h2) bd
theorem gw_6_75 : Cond.methodLink RL 185 Lib.Math.max.name ∈ zG := zGt6 (List.mem_of_getElem? (i := 75) (by rfl)) rfl
abbrev rm_L_capped : Room := { frames := 1, cells := 0, slots := 0, locals := 30 }
def cd_L_capped : List (Nat × ZTr) := [(0, tC (zi 0) 1), (1, tC (zi 20) 3), (3, tIld 0 4), (4, tMth2 zmin 7), (7, tMth2 zmax 10), (10, tRi (fun _ => True))]
set_option maxRecDepth 100000 in
set_option maxHeartbeats 4000000 in
theorem hs_L_capped {l : Launch} (hl : l.stackTraces = false) (p : Program) (e : Env) (s : State) (m : MethodId) (args : Array Value) (below : List Frame) (meth : Method) (c : Code) (D : va_G) (A : Nat → Prop) (a0 : Nat → Nat) (M0 : ZM) (K : ZRet) (KX : ZEx) (X : zCtx p l rm_L_capped s m args meth c cL_capped RL (Cond.code yL_capped cL_capped 1 (Option.some Jvm.ClassFile.FieldType.int) :: zG) 1 (Option.some Jvm.ClassFile.FieldType.int) D A a0 M0 0 0) (hnm : meth.name = yL_capped.name) (hout : ∀ x ∈ c.exceptionTable.toList, False) : ∀ q ∈ cd_L_capped, zSd p l e rm_L_capped s m args below meth c 1 D A a0 M0 K KX 0 0 q.1 q.2 :=
    zall_c (zs_iconst X (pc := 0) (by decide) (by decide +kernel)) <|
    zall_c (zs_bipush X (pc := 1) (by decide) (by decide +kernel) (by decide +kernel)) <|
    zall_c (zs_iload_n X (pc := 3) (q := 0) rfl (by decide +kernel)) <|
    zall_c (zs_mmin X (pc := 4) (.tail _ gw_4_53) (.tail _ gw_3_59) (.tail _ gw_1_14) (.tail _ gw_3_60) (Nat.le_of_ble_eq_true rfl) (Nat.le_of_ble_eq_true rfl) (by decide +kernel)) <|
    zall_c (zs_mmax X (pc := 7) (.tail _ gw_6_75) (.tail _ gw_3_42) (.tail _ gw_1_14) (.tail _ gw_3_43) (Nat.le_of_ble_eq_true rfl) (Nat.le_of_ble_eq_true rfl) (by decide +kernel)) <|
    zall_c (zs_iret X (pc := 10) rfl (by decide +kernel)) <|
    zall_n
theorem met_L_capped {l : Launch} (hl : l.stackTraces = false) {T : ZTf} (bd : zBd (cd_L_capped) 1 0 0 T) : zMet l yL_capped (Cond.code yL_capped cL_capped 1 (Option.some Jvm.ClassFile.FieldType.int) :: zG) rm_L_capped 0 0 T := zMet_of hl (by decide +kernel) rfl rfl rfl rfl (hs_L_capped hl) bd
theorem gw_5_50 : Cond.code yX8_worker cX8_worker 4 (Option.some Jvm.ClassFile.FieldType.int) ∈ zG := zGt5 (List.mem_of_getElem? (i := 50) (by rfl)) rfl
theorem gw_5_47 : Cond.methodLink RL 107 yX8_worker ∈ zG := zGt5 (List.mem_of_getElem? (i := 47) (by rfl)) rfl
theorem gw_5_48 : Cond.instanceMethod yX8_worker ∈ zG := zGt5 (List.mem_of_getElem? (i := 48) (by rfl)) rfl
theorem gw_5_49 : Cond.selects RX8 yX8_worker yX8_worker ∈ zG := zGt5 (List.mem_of_getElem? (i := 49) (by rfl)) rfl
abbrev rm_L_trusts : Room := { frames := 8, cells := 20, slots := 120, locals := 135 }
def cd_L_trusts (T0 : ZTf) (T1 : ZTf) : List (Nat × ZTr) := [(0, tAld 0 1), (1, tC (zi 0) 2), (2, tCall 2 1 6 T0 (zRcv 11) 5), (5, tNewA 20 7), (7, tAst 1 8), (8, tC (zi 0) 9), (9, tIst 2 10), (10, tIld 2 11), (11, tAld 1 12), (12, tLen 13), (13, tIc_ge 31 16), (16, tAld 1 17), (17, tIld 2 18), (18, tAld 0 19), (19, tIld 2 20), (20, tC (zi 2) 21), (21, tCall 3 2 12 T1 (zRcv 11) 24), (24, tIas 20 (fun _ => True) 25), (25, tInc 2 1 28), (28, tGo 10), (31, tAld 1 32), (32, tRa)]
set_option maxRecDepth 100000 in
set_option maxHeartbeats 4000000 in
theorem hs_L_trusts {l : Launch} (hl : l.stackTraces = false) {T0 : ZTf} {T1 : ZTf} (h0 : zMet l yX8_property (Cond.code yX8_property cX8_property 2 (Option.some Jvm.ClassFile.FieldType.int) :: zG) rm_X8_property 1 6 T0) (h1 : zMet l yX8_worker (Cond.code yX8_worker cX8_worker 4 (Option.some Jvm.ClassFile.FieldType.int) :: zG) rm_X8_worker 2 12 T1) (p : Program) (e : Env) (s : State) (m : MethodId) (args : Array Value) (below : List Frame) (meth : Method) (c : Code) (D : va_G) (A : Nat → Prop) (a0 : Nat → Nat) (M0 : ZM) (K : ZRet) (KX : ZEx) (X : zCtx p l rm_L_trusts s m args meth c cL_trusts RL (Cond.code yL_trusts cL_trusts 3 (Option.some (Jvm.ClassFile.FieldType.array Jvm.ClassFile.FieldType.int)) :: zG) 3 (Option.some (Jvm.ClassFile.FieldType.array Jvm.ClassFile.FieldType.int)) D A a0 M0 20 120) (hnm : meth.name = yL_trusts.name) (hout : ∀ x ∈ c.exceptionTable.toList, False) : ∀ q ∈ cd_L_trusts T0 T1, zSd p l e rm_L_trusts s m args below meth c 3 D A a0 M0 K KX 20 120 q.1 q.2 :=
    zall_c (zs_aload_n X (pc := 0) (q := 0) rfl (by decide +kernel)) <|
    zall_c (zs_iconst X (pc := 1) (by decide) (by decide +kernel)) <|
    zall_c (zs_callV X (pc := 2) zc_X8 (fun _ ht => ⟨(zCB ht gw_2_148 gw_1_1 gw_2_145 rfl rfl (by decide +kernel) ⟨Nat.le_of_ble_eq_true rfl, Nat.le_of_ble_eq_true rfl⟩), ht _ (.tail _ gw_2_146), ht _ (.tail _ gw_2_147)⟩) h0 hout (by decide +kernel)) <|
    zall_c (zs_newarray20 X (pc := 5) (.tail _ gw_1_81) (by decide +kernel)) <|
    zall_c (zs_astore_n X (pc := 7) (q := 1) rfl (by decide) (by decide +kernel)) <|
    zall_c (zs_iconst X (pc := 8) (by decide) (by decide +kernel)) <|
    zall_c (zs_istore_n X (pc := 9) (q := 2) rfl (by decide) (by decide +kernel)) <|
    zall_c (zs_iload_n X (pc := 10) (q := 2) rfl (by decide +kernel)) <|
    zall_c (zs_aload_n X (pc := 11) (q := 1) rfl (by decide +kernel)) <|
    zall_c (zs_len X (pc := 12) (by decide +kernel)) <|
    zall_c (zs_icmp_ge X (pc := 13) (off := 18) (by decide +kernel) (by decide)) <|
    zall_c (zs_aload_n X (pc := 16) (q := 1) rfl (by decide +kernel)) <|
    zall_c (zs_iload_n X (pc := 17) (q := 2) rfl (by decide +kernel)) <|
    zall_c (zs_aload_n X (pc := 18) (q := 0) rfl (by decide +kernel)) <|
    zall_c (zs_iload_n X (pc := 19) (q := 2) rfl (by decide +kernel)) <|
    zall_c (zs_iconst X (pc := 20) (by decide) (by decide +kernel)) <|
    zall_c (zs_callV X (pc := 21) zc_X8 (fun _ ht => ⟨(zCB ht gw_5_50 gw_1_1 gw_5_47 rfl rfl (by decide +kernel) ⟨Nat.le_of_ble_eq_true rfl, Nat.le_of_ble_eq_true rfl⟩), ht _ (.tail _ gw_5_48), ht _ (.tail _ gw_5_49)⟩) h1 hout (by decide +kernel)) <|
    zall_c (zs_iastore20 X (pc := 24) (by decide +kernel)) <|
    zall_c (zs_iinc X (pc := 25) (by decide) (by decide +kernel)) <|
    zall_c (zs_goto X (pc := 28) (off := (-18)) (by decide +kernel) (by decide)) <|
    zall_c (zs_aload_n X (pc := 31) (q := 1) rfl (by decide +kernel)) <|
    zall_c (zs_aret X (pc := 32) rfl (Or.inr ⟨_, rfl⟩) (by decide +kernel)) <|
    zall_n
theorem met_L_trusts {l : Launch} (hl : l.stackTraces = false) {T0 : ZTf} {T1 : ZTf} (h0 : zMet l yX8_property (Cond.code yX8_property cX8_property 2 (Option.some Jvm.ClassFile.FieldType.int) :: zG) rm_X8_property 1 6 T0) (h1 : zMet l yX8_worker (Cond.code yX8_worker cX8_worker 4 (Option.some Jvm.ClassFile.FieldType.int) :: zG) rm_X8_worker 2 12 T1) {T : ZTf} (bd : zBd (cd_L_trusts T0 T1) 3 20 120 T) : zMet l yL_trusts (Cond.code yL_trusts cL_trusts 3 (Option.some (Jvm.ClassFile.FieldType.array Jvm.ClassFile.FieldType.int)) :: zG) rm_L_trusts 20 120 T := zMet_of hl (by decide +kernel) rfl rfl rfl rfl (hs_L_trusts hl h0 h1) bd
abbrev rm_L_are : Room := { frames := 8, cells := 12, slots := 72, locals := 135 }
def cd_L_are (T0 : ZTf) : List (Nat × ZTr) := [(0, tC (zi 0) 1), (1, tIst 2 2), (2, tIld 2 3), (3, tAld 1 4), (4, tLen 5), (5, tIc_ge 28 8), (8, tAld 0 9), (9, tIld 2 10), (10, tC (zi 2) 11), (11, tCall 3 2 12 T0 (zRcv 11) 14), (14, tAld 1 15), (15, tIld 2 16), (16, tIal 20 17), (17, tIc_eq 22 20), (20, tC (zi 0) 21), (21, tRi zPz), (22, tInc 2 1 25), (25, tGo 2), (28, tC (zi 1) 29), (29, tRi zPz)]
set_option maxRecDepth 100000 in
set_option maxHeartbeats 4000000 in
theorem hs_L_are {l : Launch} (hl : l.stackTraces = false) {T0 : ZTf} (h0 : zMet l yX8_worker (Cond.code yX8_worker cX8_worker 4 (Option.some Jvm.ClassFile.FieldType.int) :: zG) rm_X8_worker 2 12 T0) (p : Program) (e : Env) (s : State) (m : MethodId) (args : Array Value) (below : List Frame) (meth : Method) (c : Code) (D : va_G) (A : Nat → Prop) (a0 : Nat → Nat) (M0 : ZM) (K : ZRet) (KX : ZEx) (X : zCtx p l rm_L_are s m args meth c cL_are RL (Cond.code yL_are cL_are 3 (Option.some Jvm.ClassFile.FieldType.boolean) :: zG) 3 (Option.some Jvm.ClassFile.FieldType.boolean) D A a0 M0 12 72) (hnm : meth.name = yL_are.name) (hout : ∀ x ∈ c.exceptionTable.toList, False) : ∀ q ∈ cd_L_are T0, zSd p l e rm_L_are s m args below meth c 3 D A a0 M0 K KX 12 72 q.1 q.2 :=
    zall_c (zs_iconst X (pc := 0) (by decide) (by decide +kernel)) <|
    zall_c (zs_istore_n X (pc := 1) (q := 2) rfl (by decide) (by decide +kernel)) <|
    zall_c (zs_iload_n X (pc := 2) (q := 2) rfl (by decide +kernel)) <|
    zall_c (zs_aload_n X (pc := 3) (q := 1) rfl (by decide +kernel)) <|
    zall_c (zs_len X (pc := 4) (by decide +kernel)) <|
    zall_c (zs_icmp_ge X (pc := 5) (off := 23) (by decide +kernel) (by decide)) <|
    zall_c (zs_aload_n X (pc := 8) (q := 0) rfl (by decide +kernel)) <|
    zall_c (zs_iload_n X (pc := 9) (q := 2) rfl (by decide +kernel)) <|
    zall_c (zs_iconst X (pc := 10) (by decide) (by decide +kernel)) <|
    zall_c (zs_callV X (pc := 11) zc_X8 (fun _ ht => ⟨(zCB ht gw_5_50 gw_1_1 gw_5_47 rfl rfl (by decide +kernel) ⟨Nat.le_of_ble_eq_true rfl, Nat.le_of_ble_eq_true rfl⟩), ht _ (.tail _ gw_5_48), ht _ (.tail _ gw_5_49)⟩) h0 hout (by decide +kernel)) <|
    zall_c (zs_aload_n X (pc := 14) (q := 1) rfl (by decide +kernel)) <|
    zall_c (zs_iload_n X (pc := 15) (q := 2) rfl (by decide +kernel)) <|
    zall_c (zs_iaload20 X (pc := 16) (by decide +kernel)) <|
    zall_c (zs_icmp_eq X (pc := 17) (off := 5) (by decide +kernel) (by decide)) <|
    zall_c (zs_iconst X (pc := 20) (by decide) (by decide +kernel)) <|
    zall_c (zs_zret X (pc := 21) rfl zR_bool (by decide +kernel)) <|
    zall_c (zs_iinc X (pc := 22) (by decide) (by decide +kernel)) <|
    zall_c (zs_goto X (pc := 25) (off := (-23)) (by decide +kernel) (by decide)) <|
    zall_c (zs_iconst X (pc := 28) (by decide) (by decide +kernel)) <|
    zall_c (zs_zret X (pc := 29) rfl zR_bool (by decide +kernel)) <|
    zall_n
theorem met_L_are {l : Launch} (hl : l.stackTraces = false) {T0 : ZTf} (h0 : zMet l yX8_worker (Cond.code yX8_worker cX8_worker 4 (Option.some Jvm.ClassFile.FieldType.int) :: zG) rm_X8_worker 2 12 T0) {T : ZTf} (bd : zBd (cd_L_are T0) 3 12 72 T) : zMet l yL_are (Cond.code yL_are cL_are 3 (Option.some Jvm.ClassFile.FieldType.boolean) :: zG) rm_L_are 12 72 T := zMet_of hl (by decide +kernel) rfl rfl rfl rfl (hs_L_are hl h0) bd
