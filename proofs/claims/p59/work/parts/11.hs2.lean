abbrev rm_X5_rowsFor : Room := { frames := 5, cells := 0, slots := 0, locals := 121 }
def cd_X5_rowsFor (T0 : ZTf) : List (Nat × ZTr) := [(0, tC (zi 0) 1), (1, tIst 2 2), (2, tC (zi 0) 3), (3, tIst 3 4), (4, tIld 3 5), (5, tAld 0 6), (6, tGetI 8 5 9), (9, tIc_ge 33 12), (12, tAld 0 13), (13, tIld 1 14), (14, tIld 3 15), (15, tCall0 3 T0 (zRcv 8) 18), (18, tIf_ne 27 21), (21, tIld 2 22), (22, tC (zi 1) 23), (23, tIld 3 24), (24, tBif zshl 25), (25, tBif zor 26), (26, tIst 2 27), (27, tInc 3 1 30), (30, tGo 4), (33, tIld 2 34), (34, tRi (fun _ => True))]
set_option maxRecDepth 100000 in
set_option maxHeartbeats 4000000 in
theorem hs_X5_rowsFor {l : Launch} (hl : l.stackTraces = false) {T0 : ZTf} (h0 : zMet l yX5_reasonAgainst (Cond.code yX5_reasonAgainst cX5_reasonAgainst 3 (Option.some Jvm.ClassFile.FieldType.int) :: zG) rm_X5_reasonAgainst 0 0 T0) (p : Program) (e : Env) (s : State) (m : MethodId) (args : Array Value) (below : List Frame) (meth : Method) (c : Code) (D : va_G) (A : Nat → Prop) (a0 : Nat → Nat) (M0 : ZM) (K : ZRet) (KX : ZEx) (X : zCtx p l rm_X5_rowsFor s m args meth c cX5_rowsFor RX5 (Cond.code yX5_rowsFor cX5_rowsFor 4 (Option.some Jvm.ClassFile.FieldType.int) :: zG) 4 (Option.some Jvm.ClassFile.FieldType.int) D A a0 M0 0 0) (hnm : meth.name = yX5_rowsFor.name) (hout : ∀ x ∈ c.exceptionTable.toList, False) : ∀ q ∈ cd_X5_rowsFor T0, zSd p l e rm_X5_rowsFor s m args below meth c 4 D A a0 M0 K KX 0 0 q.1 q.2 :=
    zall_c (zs_iconst X (pc := 0) (by decide) (by decide +kernel)) <|
    zall_c (zs_istore_n X (pc := 1) (q := 2) rfl (by decide) (by decide +kernel)) <|
    zall_c (zs_iconst X (pc := 2) (by decide) (by decide +kernel)) <|
    zall_c (zs_istore_n X (pc := 3) (q := 3) rfl (by decide) (by decide +kernel)) <|
    zall_c (zs_iload_n X (pc := 4) (q := 3) rfl (by decide +kernel)) <|
    zall_c (zs_aload_n X (pc := 5) (q := 0) rfl (by decide +kernel)) <|
    zall_c (zs_geti X (pc := 6) zc_X5 (by decide) (zin ui_X5) (.tail _ gw_1_232) (by decide +kernel) (by decide +kernel)) <|
    zall_c (zs_icmp_ge X (pc := 9) (off := 24) (by decide +kernel) (by decide)) <|
    zall_c (zs_aload_n X (pc := 12) (q := 0) rfl (by decide +kernel)) <|
    zall_c (zs_iload_n X (pc := 13) (q := 1) rfl (by decide +kernel)) <|
    zall_c (zs_iload_n X (pc := 14) (q := 3) rfl (by decide +kernel)) <|
    zall_c (zs_callV0 X (pc := 15) zc_X5 (fun _ ht => ⟨(zCB ht gw_5_123 gw_1_8 gw_5_120 rfl rfl (by decide +kernel) ⟨Nat.le_of_ble_eq_true rfl, Nat.le_of_ble_eq_true rfl⟩), ht _ (.tail _ gw_5_121), ht _ (.tail _ gw_5_122)⟩) h0 hout (by decide +kernel)) <|
    zall_c (zs_if_ne X (pc := 18) (off := 9) (by decide +kernel) (by decide)) <|
    zall_c (zs_iload_n X (pc := 21) (q := 2) rfl (by decide +kernel)) <|
    zall_c (zs_iconst X (pc := 22) (by decide) (by decide +kernel)) <|
    zall_c (zs_iload_n X (pc := 23) (q := 3) rfl (by decide +kernel)) <|
    zall_c (zs_ishl X (pc := 24) (by decide +kernel)) <|
    zall_c (zs_ior X (pc := 25) (by decide +kernel)) <|
    zall_c (zs_istore_n X (pc := 26) (q := 2) rfl (by decide) (by decide +kernel)) <|
    zall_c (zs_iinc X (pc := 27) (by decide) (by decide +kernel)) <|
    zall_c (zs_goto X (pc := 30) (off := (-26)) (by decide +kernel) (by decide)) <|
    zall_c (zs_iload_n X (pc := 33) (q := 2) rfl (by decide +kernel)) <|
    zall_c (zs_iret X (pc := 34) rfl (by decide +kernel)) <|
    zall_n
theorem met_X5_rowsFor {l : Launch} (hl : l.stackTraces = false) {T0 : ZTf} (h0 : zMet l yX5_reasonAgainst (Cond.code yX5_reasonAgainst cX5_reasonAgainst 3 (Option.some Jvm.ClassFile.FieldType.int) :: zG) rm_X5_reasonAgainst 0 0 T0) {T : ZTf} (bd : zBd (cd_X5_rowsFor T0) 4 0 0 T) : zMet l yX5_rowsFor (Cond.code yX5_rowsFor cX5_rowsFor 4 (Option.some Jvm.ClassFile.FieldType.int) :: zG) rm_X5_rowsFor 0 0 T := zMet_of hl (by decide +kernel) rfl rfl rfl rfl (hs_X5_rowsFor hl h0) bd

abbrev rm_X5_chosenRow : Room := { frames := 6, cells := 0, slots := 0, locals := 144 }
def cd_X5_chosenRow (T0 : ZTf) (T1 : ZTf) : List (Nat × ZTr) := [(0, tAld 0 1), (1, tIld 1 2), (2, tCall0 2 T0 (zRcv 8) 5), (5, tIst 2 6), (6, tC (zi (-1)) 7), (7, tIst 3 8), (8, tC (zi 0) 9), (9, tIst 4 11), (11, tIld 4 13), (13, tAld 0 14), (14, tGetI 8 5 17), (17, tIc_ge 77 20), (20, tIld 2 21), (21, tC (zi 1) 22), (22, tIld 4 24), (24, tBif zshl 25), (25, tBif zand 26), (26, tIf_eq 33 29), (29, tC (zi 1) 30), (30, tGo 34), (33, tC (zi 0) 34), (34, tIst 5 36), (36, tIld 5 38), (38, tIf_eq 71 41), (41, tIld 3 42), (42, tC (zi (-1)) 43), (43, tIc_eq 68 46), (46, tAld 0 47), (47, tGetR 8 7 50), (50, tIld 4 52), (52, tAal 31 53), (53, tCall0 1 T1 zAny 56), (56, tAld 0 57), (57, tGetR 8 7 60), (60, tIld 3 61), (61, tAal 31 62), (62, tCall0 1 T1 zAny 65), (65, tIc_le 71 68), (68, tIld 4 70), (70, tIst 3 71), (71, tInc 4 1 74), (74, tGo 11), (77, tIld 3 78), (78, tRi (fun _ => True))]
set_option maxRecDepth 100000 in
set_option maxHeartbeats 4000000 in
theorem hs_X5_chosenRow {l : Launch} (hl : l.stackTraces = false) {T0 : ZTf} {T1 : ZTf} (h0 : zMet l yX5_rowsFor (Cond.code yX5_rowsFor cX5_rowsFor 4 (Option.some Jvm.ClassFile.FieldType.int) :: zG) rm_X5_rowsFor 0 0 T0) (h1 : zMet l yX5_urgency (Cond.code yX5_urgency cX5_urgency 1 (Option.some Jvm.ClassFile.FieldType.int) :: zG) rm_X5_urgency 0 0 T1) (p : Program) (e : Env) (s : State) (m : MethodId) (args : Array Value) (below : List Frame) (meth : Method) (c : Code) (D : va_G) (A : Nat → Prop) (a0 : Nat → Nat) (M0 : ZM) (K : ZRet) (KX : ZEx) (X : zCtx p l rm_X5_chosenRow s m args meth c cX5_chosenRow RX5 (Cond.code yX5_chosenRow cX5_chosenRow 6 (Option.some Jvm.ClassFile.FieldType.int) :: zG) 6 (Option.some Jvm.ClassFile.FieldType.int) D A a0 M0 0 0) (hnm : meth.name = yX5_chosenRow.name) (hout : ∀ x ∈ c.exceptionTable.toList, False) : ∀ q ∈ cd_X5_chosenRow T0 T1, zSd p l e rm_X5_chosenRow s m args below meth c 6 D A a0 M0 K KX 0 0 q.1 q.2 :=
    zall_c (zs_aload_n X (pc := 0) (q := 0) rfl (by decide +kernel)) <|
    zall_c (zs_iload_n X (pc := 1) (q := 1) rfl (by decide +kernel)) <|
    zall_c (zs_callV0 X (pc := 2) zc_X5 (fun _ ht => ⟨(zCB ht gw_5_119 gw_1_8 gw_5_116 rfl rfl (by decide +kernel) ⟨Nat.le_of_ble_eq_true rfl, Nat.le_of_ble_eq_true rfl⟩), ht _ (.tail _ gw_5_117), ht _ (.tail _ gw_5_118)⟩) h0 hout (by decide +kernel)) <|
    zall_c (zs_istore_n X (pc := 5) (q := 2) rfl (by decide) (by decide +kernel)) <|
    zall_c (zs_iconst X (pc := 6) (by decide) (by decide +kernel)) <|
    zall_c (zs_istore_n X (pc := 7) (q := 3) rfl (by decide) (by decide +kernel)) <|
    zall_c (zs_iconst X (pc := 8) (by decide) (by decide +kernel)) <|
    zall_c (zs_istore X (pc := 9) (by decide) (by decide +kernel)) <|
    zall_c (zs_iload X (pc := 11) (by decide +kernel)) <|
    zall_c (zs_aload_n X (pc := 13) (q := 0) rfl (by decide +kernel)) <|
    zall_c (zs_geti X (pc := 14) zc_X5 (by decide) (zin ui_X5) (.tail _ gw_1_232) (by decide +kernel) (by decide +kernel)) <|
    zall_c (zs_icmp_ge X (pc := 17) (off := 60) (by decide +kernel) (by decide)) <|
    zall_c (zs_iload_n X (pc := 20) (q := 2) rfl (by decide +kernel)) <|
    zall_c (zs_iconst X (pc := 21) (by decide) (by decide +kernel)) <|
    zall_c (zs_iload X (pc := 22) (by decide +kernel)) <|
    zall_c (zs_ishl X (pc := 24) (by decide +kernel)) <|
    zall_c (zs_iand X (pc := 25) (by decide +kernel)) <|
    zall_c (zs_if_eq X (pc := 26) (off := 7) (by decide +kernel) (by decide)) <|
    zall_c (zs_iconst X (pc := 29) (by decide) (by decide +kernel)) <|
    zall_c (zs_goto X (pc := 30) (off := 4) (by decide +kernel) (by decide)) <|
    zall_c (zs_iconst X (pc := 33) (by decide) (by decide +kernel)) <|
    zall_c (zs_istore X (pc := 34) (by decide) (by decide +kernel)) <|
    zall_c (zs_iload X (pc := 36) (by decide +kernel)) <|
    zall_c (zs_if_eq X (pc := 38) (off := 33) (by decide +kernel) (by decide)) <|
    zall_c (zs_iload_n X (pc := 41) (q := 3) rfl (by decide +kernel)) <|
    zall_c (zs_iconst X (pc := 42) (by decide) (by decide +kernel)) <|
    zall_c (zs_icmp_eq X (pc := 43) (off := 25) (by decide +kernel) (by decide)) <|
    zall_c (zs_aload_n X (pc := 46) (q := 0) rfl (by decide +kernel)) <|
    zall_c (zs_getr X (pc := 47) zc_X5 (by decide) (zin ui_X5) (.tail _ gw_1_237) (by decide +kernel) (by decide +kernel)) <|
    zall_c (zs_iload X (pc := 50) (by decide +kernel)) <|
    zall_c (zs_aaload X (pc := 52) (by decide) rfl (by decide +kernel)) <|
    zall_c (zs_callS0 X (pc := 53) (fun _ ht => ⟨(zCB ht gw_5_137 gw_1_8 gw_5_135 rfl rfl (by decide +kernel) ⟨Nat.le_of_ble_eq_true rfl, Nat.le_of_ble_eq_true rfl⟩), ht _ (.tail _ gw_5_136)⟩) h1 hout (by decide +kernel)) <|
    zall_c (zs_aload_n X (pc := 56) (q := 0) rfl (by decide +kernel)) <|
    zall_c (zs_getr X (pc := 57) zc_X5 (by decide) (zin ui_X5) (.tail _ gw_1_237) (by decide +kernel) (by decide +kernel)) <|
    zall_c (zs_iload_n X (pc := 60) (q := 3) rfl (by decide +kernel)) <|
    zall_c (zs_aaload X (pc := 61) (by decide) rfl (by decide +kernel)) <|
    zall_c (zs_callS0 X (pc := 62) (fun _ ht => ⟨(zCB ht gw_5_137 gw_1_8 gw_5_135 rfl rfl (by decide +kernel) ⟨Nat.le_of_ble_eq_true rfl, Nat.le_of_ble_eq_true rfl⟩), ht _ (.tail _ gw_5_136)⟩) h1 hout (by decide +kernel)) <|
    zall_c (zs_icmp_le X (pc := 65) (off := 6) (by decide +kernel) (by decide)) <|
    zall_c (zs_iload X (pc := 68) (by decide +kernel)) <|
    zall_c (zs_istore_n X (pc := 70) (q := 3) rfl (by decide) (by decide +kernel)) <|
    zall_c (zs_iinc X (pc := 71) (by decide) (by decide +kernel)) <|
    zall_c (zs_goto X (pc := 74) (off := (-63)) (by decide +kernel) (by decide)) <|
    zall_c (zs_iload_n X (pc := 77) (q := 3) rfl (by decide +kernel)) <|
    zall_c (zs_iret X (pc := 78) rfl (by decide +kernel)) <|
    zall_n
theorem met_X5_chosenRow {l : Launch} (hl : l.stackTraces = false) {T0 : ZTf} {T1 : ZTf} (h0 : zMet l yX5_rowsFor (Cond.code yX5_rowsFor cX5_rowsFor 4 (Option.some Jvm.ClassFile.FieldType.int) :: zG) rm_X5_rowsFor 0 0 T0) (h1 : zMet l yX5_urgency (Cond.code yX5_urgency cX5_urgency 1 (Option.some Jvm.ClassFile.FieldType.int) :: zG) rm_X5_urgency 0 0 T1) {T : ZTf} (bd : zBd (cd_X5_chosenRow T0 T1) 6 0 0 T) : zMet l yX5_chosenRow (Cond.code yX5_chosenRow cX5_chosenRow 6 (Option.some Jvm.ClassFile.FieldType.int) :: zG) rm_X5_chosenRow 0 0 T := zMet_of hl (by decide +kernel) rfl rfl rfl rfl (hs_X5_chosenRow hl h0 h1) bd

abbrev rm_X5_startTaking : Room := { frames := 3, cells := 0, slots := 0, locals := 76 }
def cd_X5_startTaking (T0 : ZTf) : List (Nat × ZTr) := [(0, tAld 0 1), (1, tGetI 8 3 4), (4, tAld 0 5), (5, tGetI 8 1 8), (8, tAdd 9), (9, tIst 3 10), (10, tAld 0 11), (11, tGetR 8 7 14), (14, tIld 2 15), (15, tAal 31 16), (16, tIld 1 17), (17, tIld 3 18), (18, tCall0 3 T0 (zRcv 7) 21), (21, tAld 0 22), (22, tGetR 8 6 25), (25, tIld 1 26), (26, tAal 30 27), (27, tDup 28), (28, tGetI 10 4 31), (31, tC (zi 1) 32), (32, tAdd 33), (33, tPutI 10 4 (fun _ => True) 36), (36, tAld 0 37), (37, tGetR 8 6 40), (40, tIld 1 41), (41, tAal 30 42), (42, tDup 43), (43, tGetI 10 5 46), (46, tC (zi 1) 47), (47, tAdd 48), (48, tPutI 10 5 (fun _ => True) 51), (51, tIld 3 52), (52, tRi (fun _ => True))]
set_option maxRecDepth 100000 in
set_option maxHeartbeats 4000000 in
theorem hs_X5_startTaking {l : Launch} (hl : l.stackTraces = false) {T0 : ZTf} (h0 : zMet l yX4_addTaking (Cond.code yX4_addTaking cX4_addTaking 3 (Option.none : Option Jvm.ClassFile.FieldType) :: zG) rm_X4_addTaking 0 0 T0) (p : Program) (e : Env) (s : State) (m : MethodId) (args : Array Value) (below : List Frame) (meth : Method) (c : Code) (D : va_G) (A : Nat → Prop) (a0 : Nat → Nat) (M0 : ZM) (K : ZRet) (KX : ZEx) (X : zCtx p l rm_X5_startTaking s m args meth c cX5_startTaking RX5 (Cond.code yX5_startTaking cX5_startTaking 4 (Option.some Jvm.ClassFile.FieldType.int) :: zG) 4 (Option.some Jvm.ClassFile.FieldType.int) D A a0 M0 0 0) (hnm : meth.name = yX5_startTaking.name) (hout : ∀ x ∈ c.exceptionTable.toList, False) : ∀ q ∈ cd_X5_startTaking T0, zSd p l e rm_X5_startTaking s m args below meth c 4 D A a0 M0 K KX 0 0 q.1 q.2 :=
    zall_c (zs_aload_n X (pc := 0) (q := 0) rfl (by decide +kernel)) <|
    zall_c (zs_geti X (pc := 1) zc_X5 (by decide) (zin ui_X5) (.tail _ gw_1_227) (by decide +kernel) (by decide +kernel)) <|
    zall_c (zs_aload_n X (pc := 4) (q := 0) rfl (by decide +kernel)) <|
    zall_c (zs_geti X (pc := 5) zc_X5 (by decide) (zin ui_X5) (.tail _ gw_1_221) (by decide +kernel) (by decide +kernel)) <|
    zall_c (zs_iadd X (pc := 8) (by decide +kernel)) <|
    zall_c (zs_istore_n X (pc := 9) (q := 3) rfl (by decide) (by decide +kernel)) <|
    zall_c (zs_aload_n X (pc := 10) (q := 0) rfl (by decide +kernel)) <|
    zall_c (zs_getr X (pc := 11) zc_X5 (by decide) (zin ui_X5) (.tail _ gw_1_237) (by decide +kernel) (by decide +kernel)) <|
    zall_c (zs_iload_n X (pc := 14) (q := 2) rfl (by decide +kernel)) <|
    zall_c (zs_aaload X (pc := 15) (by decide) rfl (by decide +kernel)) <|
    zall_c (zs_iload_n X (pc := 16) (q := 1) rfl (by decide +kernel)) <|
    zall_c (zs_iload_n X (pc := 17) (q := 3) rfl (by decide +kernel)) <|
    zall_c (zs_callV0 X (pc := 18) zc_X4 (fun _ ht => ⟨(zCB ht gw_5_146 gw_1_10 gw_5_143 rfl rfl (by decide +kernel) ⟨Nat.le_of_ble_eq_true rfl, Nat.le_of_ble_eq_true rfl⟩), ht _ (.tail _ gw_5_144), ht _ (.tail _ gw_5_145)⟩) h0 hout (by decide +kernel)) <|
    zall_c (zs_aload_n X (pc := 21) (q := 0) rfl (by decide +kernel)) <|
    zall_c (zs_getr X (pc := 22) zc_X5 (by decide) (zin ui_X5) (.tail _ gw_1_234) (by decide +kernel) (by decide +kernel)) <|
    zall_c (zs_iload_n X (pc := 25) (q := 1) rfl (by decide +kernel)) <|
    zall_c (zs_aaload X (pc := 26) (by decide) rfl (by decide +kernel)) <|
    zall_c (zs_dup X (pc := 27) (by decide +kernel)) <|
    zall_c (zs_geti X (pc := 28) zc_X7 (by decide) (zin ui_X7) (.tail _ gw_1_126) (by decide +kernel) (by decide +kernel)) <|
    zall_c (zs_iconst X (pc := 31) (by decide) (by decide +kernel)) <|
    zall_c (zs_iadd X (pc := 32) (by decide +kernel)) <|
    zall_c (zs_puti X (pc := 33) (ty := Jvm.ClassFile.FieldType.int) zc_X7 (by decide) (zin ui_X7) tyX7_ok nmX7 (.tail _ gw_1_126) rfl (by decide +kernel) (by decide +kernel) (by decide +kernel) zP_int) <|
    zall_c (zs_aload_n X (pc := 36) (q := 0) rfl (by decide +kernel)) <|
    zall_c (zs_getr X (pc := 37) zc_X5 (by decide) (zin ui_X5) (.tail _ gw_1_234) (by decide +kernel) (by decide +kernel)) <|
    zall_c (zs_iload_n X (pc := 40) (q := 1) rfl (by decide +kernel)) <|
    zall_c (zs_aaload X (pc := 41) (by decide) rfl (by decide +kernel)) <|
    zall_c (zs_dup X (pc := 42) (by decide +kernel)) <|
    zall_c (zs_geti X (pc := 43) zc_X7 (by decide) (zin ui_X7) (.tail _ gw_1_129) (by decide +kernel) (by decide +kernel)) <|
    zall_c (zs_iconst X (pc := 46) (by decide) (by decide +kernel)) <|
    zall_c (zs_iadd X (pc := 47) (by decide +kernel)) <|
    zall_c (zs_puti X (pc := 48) (ty := Jvm.ClassFile.FieldType.int) zc_X7 (by decide) (zin ui_X7) tyX7_ok nmX7 (.tail _ gw_1_129) rfl (by decide +kernel) (by decide +kernel) (by decide +kernel) zP_int) <|
    zall_c (zs_iload_n X (pc := 51) (q := 3) rfl (by decide +kernel)) <|
    zall_c (zs_iret X (pc := 52) rfl (by decide +kernel)) <|
    zall_n
theorem met_X5_startTaking {l : Launch} (hl : l.stackTraces = false) {T0 : ZTf} (h0 : zMet l yX4_addTaking (Cond.code yX4_addTaking cX4_addTaking 3 (Option.none : Option Jvm.ClassFile.FieldType) :: zG) rm_X4_addTaking 0 0 T0) {T : ZTf} (bd : zBd (cd_X5_startTaking T0) 4 0 0 T) : zMet l yX5_startTaking (Cond.code yX5_startTaking cX5_startTaking 4 (Option.some Jvm.ClassFile.FieldType.int) :: zG) rm_X5_startTaking 0 0 T := zMet_of hl (by decide +kernel) rfl rfl rfl rfl (hs_X5_startTaking hl h0) bd

abbrev rm_X6_judgePair : Room := { frames := 2, cells := 0, slots := 0, locals := 52 }
def cd_X6_judgePair (T0 : ZTf) (T1 : ZTf) : List (Nat × ZTr) := [(0, tAld 0 1), (1, tGetR 9 5 4), (4, tC (zi 0) 5), (5, tIal 20 6), (6, tC (zi (-1)) 7), (7, tIc_eq 20 10), (10, tAld 0 11), (11, tGetR 9 5 14), (14, tC (zi 1) 15), (15, tIal 20 16), (16, tC (zi (-1)) 17), (17, tIc_ne 21 20), (20, tRv), (21, tAld 1 22), (22, tAld 0 23), (23, tGetR 9 5 26), (26, tC (zi 0) 27), (27, tIal 20 28), (28, tAld 0 29), (29, tGetR 9 5 32), (32, tC (zi 1) 33), (33, tIal 20 34), (34, tCall0 3 T0 (zRcv 8) 37), (37, tIf_eq 49 40), (40, tAld 0 41), (41, tC (zi 0) 42), (42, tC (zi 1) 43), (43, tCall0 3 T1 (zRcv 9) 46), (46, tGo 54), (49, tAld 0 50), (50, tC (zi 1) 51), (51, tPutI 9 0 (fun _ => True) 54), (54, tRv)]
set_option maxRecDepth 100000 in
set_option maxHeartbeats 4000000 in
theorem hs_X6_judgePair {l : Launch} (hl : l.stackTraces = false) {T0 : ZTf} {T1 : ZTf} (h0 : zMet l yX5_agree (Cond.code yX5_agree cX5_agree 3 (Option.some Jvm.ClassFile.FieldType.boolean) :: zG) rm_X5_agree 0 0 T0) (h1 : zMet l yX6_finishBy (Cond.code yX6_finishBy cX6_finishBy 3 (Option.none : Option Jvm.ClassFile.FieldType) :: zG) rm_X6_finishBy 0 0 T1) (p : Program) (e : Env) (s : State) (m : MethodId) (args : Array Value) (below : List Frame) (meth : Method) (c : Code) (D : va_G) (A : Nat → Prop) (a0 : Nat → Nat) (M0 : ZM) (K : ZRet) (KX : ZEx) (X : zCtx p l rm_X6_judgePair s m args meth c cX6_judgePair RX6 (Cond.code yX6_judgePair cX6_judgePair 2 (Option.none : Option Jvm.ClassFile.FieldType) :: zG) 2 (Option.none : Option Jvm.ClassFile.FieldType) D A a0 M0 0 0) (hnm : meth.name = yX6_judgePair.name) (hout : ∀ x ∈ c.exceptionTable.toList, False) : ∀ q ∈ cd_X6_judgePair T0 T1, zSd p l e rm_X6_judgePair s m args below meth c 2 D A a0 M0 K KX 0 0 q.1 q.2 :=
    zall_c (zs_aload_n X (pc := 0) (q := 0) rfl (by decide +kernel)) <|
    zall_c (zs_getr X (pc := 1) zc_X6 (by decide) (zin ui_X6) (.tail _ gw_2_94) (by decide +kernel) (by decide +kernel)) <|
    zall_c (zs_iconst X (pc := 4) (by decide) (by decide +kernel)) <|
    zall_c (zs_iaload20 X (pc := 5) (by decide +kernel)) <|
    zall_c (zs_iconst X (pc := 6) (by decide) (by decide +kernel)) <|
    zall_c (zs_icmp_eq X (pc := 7) (off := 13) (by decide +kernel) (by decide)) <|
    zall_c (zs_aload_n X (pc := 10) (q := 0) rfl (by decide +kernel)) <|
    zall_c (zs_getr X (pc := 11) zc_X6 (by decide) (zin ui_X6) (.tail _ gw_2_94) (by decide +kernel) (by decide +kernel)) <|
    zall_c (zs_iconst X (pc := 14) (by decide) (by decide +kernel)) <|
    zall_c (zs_iaload20 X (pc := 15) (by decide +kernel)) <|
    zall_c (zs_iconst X (pc := 16) (by decide) (by decide +kernel)) <|
    zall_c (zs_icmp_ne X (pc := 17) (off := 4) (by decide +kernel) (by decide)) <|
    zall_c (zs_vret X (pc := 20) rfl (by decide +kernel)) <|
    zall_c (zs_aload_n X (pc := 21) (q := 1) rfl (by decide +kernel)) <|
    zall_c (zs_aload_n X (pc := 22) (q := 0) rfl (by decide +kernel)) <|
    zall_c (zs_getr X (pc := 23) zc_X6 (by decide) (zin ui_X6) (.tail _ gw_2_94) (by decide +kernel) (by decide +kernel)) <|
    zall_c (zs_iconst X (pc := 26) (by decide) (by decide +kernel)) <|
    zall_c (zs_iaload20 X (pc := 27) (by decide +kernel)) <|
    zall_c (zs_aload_n X (pc := 28) (q := 0) rfl (by decide +kernel)) <|
    zall_c (zs_getr X (pc := 29) zc_X6 (by decide) (zin ui_X6) (.tail _ gw_2_94) (by decide +kernel) (by decide +kernel)) <|
    zall_c (zs_iconst X (pc := 32) (by decide) (by decide +kernel)) <|
    zall_c (zs_iaload20 X (pc := 33) (by decide +kernel)) <|
    zall_c (zs_callV0 X (pc := 34) zc_X5 (fun _ ht => ⟨(zCB ht gw_5_190 gw_1_8 gw_5_187 rfl rfl (by decide +kernel) ⟨Nat.le_of_ble_eq_true rfl, Nat.le_of_ble_eq_true rfl⟩), ht _ (.tail _ gw_5_188), ht _ (.tail _ gw_5_189)⟩) h0 hout (by decide +kernel)) <|
    zall_c (zs_if_eq X (pc := 37) (off := 12) (by decide +kernel) (by decide)) <|
    zall_c (zs_aload_n X (pc := 40) (q := 0) rfl (by decide +kernel)) <|
    zall_c (zs_iconst X (pc := 41) (by decide) (by decide +kernel)) <|
    zall_c (zs_iconst X (pc := 42) (by decide) (by decide +kernel)) <|
    zall_c (zs_callV0 X (pc := 43) zc_X6 (fun _ ht => ⟨(zCB ht gw_5_197 gw_1_12 gw_5_194 rfl rfl (by decide +kernel) ⟨Nat.le_of_ble_eq_true rfl, Nat.le_of_ble_eq_true rfl⟩), ht _ (.tail _ gw_5_196), ht _ (.tail _ gp_22)⟩) h1 hout (by decide +kernel)) <|
    zall_c (zs_goto X (pc := 46) (off := 8) (by decide +kernel) (by decide)) <|
    zall_c (zs_aload_n X (pc := 49) (q := 0) rfl (by decide +kernel)) <|
    zall_c (zs_iconst X (pc := 50) (by decide) (by decide +kernel)) <|
    zall_c (zs_puti X (pc := 51) (ty := Jvm.ClassFile.FieldType.int) zc_X6 (by decide) (zin ui_X6) tyX6_ok nmX6 (.tail _ gw_2_82) rfl (by decide +kernel) (by decide +kernel) (by decide +kernel) zP_int) <|
    zall_c (zs_vret X (pc := 54) rfl (by decide +kernel)) <|
    zall_n
theorem met_X6_judgePair {l : Launch} (hl : l.stackTraces = false) {T0 : ZTf} {T1 : ZTf} (h0 : zMet l yX5_agree (Cond.code yX5_agree cX5_agree 3 (Option.some Jvm.ClassFile.FieldType.boolean) :: zG) rm_X5_agree 0 0 T0) (h1 : zMet l yX6_finishBy (Cond.code yX6_finishBy cX6_finishBy 3 (Option.none : Option Jvm.ClassFile.FieldType) :: zG) rm_X6_finishBy 0 0 T1) {T : ZTf} (bd : zBd (cd_X6_judgePair T0 T1) 2 0 0 T) : zMet l yX6_judgePair (Cond.code yX6_judgePair cX6_judgePair 2 (Option.none : Option Jvm.ClassFile.FieldType) :: zG) rm_X6_judgePair 0 0 T := zMet_of hl (by decide +kernel) rfl rfl rfl rfl (hs_X6_judgePair hl h0 h1) bd

abbrev rm_X6_judgeThird : Room := { frames := 2, cells := 0, slots := 0, locals := 53 }
def cd_X6_judgeThird (T0 : ZTf) (T1 : ZTf) (T2 : ZTf) : List (Nat × ZTr) := [(0, tAld 1 1), (1, tAld 0 2), (2, tGetR 9 5 5), (5, tC (zi 0) 6), (6, tIal 20 7), (7, tAld 0 8), (8, tGetR 9 5 11), (11, tC (zi 2) 12), (12, tIal 20 13), (13, tCall0 3 T0 (zRcv 8) 16), (16, tIst 2 17), (17, tAld 1 18), (18, tAld 0 19), (19, tGetR 9 5 22), (22, tC (zi 1) 23), (23, tIal 20 24), (24, tAld 0 25), (25, tGetR 9 5 28), (28, tC (zi 2) 29), (29, tIal 20 30), (30, tCall0 3 T0 (zRcv 8) 33), (33, tIst 3 34), (34, tIld 2 35), (35, tIf_ne 58 38), (38, tIld 3 39), (39, tIf_ne 58 42), (42, tAld 0 43), (43, tC (zi 3) 44), (44, tPutI 9 0 (fun _ => True) 47), (47, tAld 0 48), (48, tGetR 9 4 51), (51, tC (zi (-1)) 52), (52, tCall0 2 T1 zAny 55), (55, tGo 140), (58, tAld 0 59), (59, tGetR 9 5 62), (62, tC (zi 0) 63), (63, tIal 20 64), (64, tAld 0 65), (65, tGetR 9 5 68), (68, tC (zi 2) 69), (69, tIal 20 70), (70, tSub 71), (71, tMth1 74), (74, tAld 0 75), (75, tGetR 9 5 78), (78, tC (zi 1) 79), (79, tIal 20 80), (80, tAld 0 81), (81, tGetR 9 5 84), (84, tC (zi 2) 85), (85, tIal 20 86), (86, tSub 87), (87, tMth1 90), (90, tIc_gt 118 93), (93, tAld 0 94), (94, tC (zi 0) 95), (95, tC (zi 2) 96), (96, tCall0 3 T2 (zRcv 9) 99), (99, tAld 0 100), (100, tGetR 9 4 103), (103, tC (zi 1) 104), (104, tIld 3 105), (105, tIf_eq 112 108), (108, tC (zi 0) 109), (109, tGo 114), (112, tC (zi (-3)) 114), (114, tIas 20 (fun _ => True) 115), (115, tGo 140), (118, tAld 0 119), (119, tC (zi 1) 120), (120, tC (zi 2) 121), (121, tCall0 3 T2 (zRcv 9) 124), (124, tAld 0 125), (125, tGetR 9 4 128), (128, tC (zi 0) 129), (129, tIld 2 130), (130, tIf_eq 137 133), (133, tC (zi 0) 134), (134, tGo 139), (137, tC (zi (-3)) 139), (139, tIas 20 (fun _ => True) 140), (140, tRv)]
set_option maxRecDepth 100000 in
set_option maxHeartbeats 4000000 in
theorem hs_X6_judgeThird {l : Launch} (hl : l.stackTraces = false) {T0 : ZTf} {T1 : ZTf} {T2 : ZTf} (h0 : zMet l yX5_agree (Cond.code yX5_agree cX5_agree 3 (Option.some Jvm.ClassFile.FieldType.boolean) :: zG) rm_X5_agree 0 0 T0) (h1 : zMet l yJ7_fill_53178 (Cond.code yJ7_fill_53178 cJ7_fill_53178 4 (Option.none : Option Jvm.ClassFile.FieldType) :: zG) rm_J7_fill_53178 0 0 T1) (h2 : zMet l yX6_finishBy (Cond.code yX6_finishBy cX6_finishBy 3 (Option.none : Option Jvm.ClassFile.FieldType) :: zG) rm_X6_finishBy 0 0 T2) (p : Program) (e : Env) (s : State) (m : MethodId) (args : Array Value) (below : List Frame) (meth : Method) (c : Code) (D : va_G) (A : Nat → Prop) (a0 : Nat → Nat) (M0 : ZM) (K : ZRet) (KX : ZEx) (X : zCtx p l rm_X6_judgeThird s m args meth c cX6_judgeThird RX6 (Cond.code yX6_judgeThird cX6_judgeThird 4 (Option.none : Option Jvm.ClassFile.FieldType) :: zG) 4 (Option.none : Option Jvm.ClassFile.FieldType) D A a0 M0 0 0) (hnm : meth.name = yX6_judgeThird.name) (hout : ∀ x ∈ c.exceptionTable.toList, False) : ∀ q ∈ cd_X6_judgeThird T0 T1 T2, zSd p l e rm_X6_judgeThird s m args below meth c 4 D A a0 M0 K KX 0 0 q.1 q.2 :=
    zall_c (zs_aload_n X (pc := 0) (q := 1) rfl (by decide +kernel)) <|
    zall_c (zs_aload_n X (pc := 1) (q := 0) rfl (by decide +kernel)) <|
    zall_c (zs_getr X (pc := 2) zc_X6 (by decide) (zin ui_X6) (.tail _ gw_2_94) (by decide +kernel) (by decide +kernel)) <|
    zall_c (zs_iconst X (pc := 5) (by decide) (by decide +kernel)) <|
    zall_c (zs_iaload20 X (pc := 6) (by decide +kernel)) <|
    zall_c (zs_aload_n X (pc := 7) (q := 0) rfl (by decide +kernel)) <|
    zall_c (zs_getr X (pc := 8) zc_X6 (by decide) (zin ui_X6) (.tail _ gw_2_94) (by decide +kernel) (by decide +kernel)) <|
    zall_c (zs_iconst X (pc := 11) (by decide) (by decide +kernel)) <|
    zall_c (zs_iaload20 X (pc := 12) (by decide +kernel)) <|
    zall_c (zs_callV0 X (pc := 13) zc_X5 (fun _ ht => ⟨(zCB ht gw_5_190 gw_1_8 gw_5_187 rfl rfl (by decide +kernel) ⟨Nat.le_of_ble_eq_true rfl, Nat.le_of_ble_eq_true rfl⟩), ht _ (.tail _ gw_5_188), ht _ (.tail _ gw_5_189)⟩) h0 hout (by decide +kernel)) <|
    zall_c (zs_istore_n X (pc := 16) (q := 2) rfl (by decide) (by decide +kernel)) <|
    zall_c (zs_aload_n X (pc := 17) (q := 1) rfl (by decide +kernel)) <|
    zall_c (zs_aload_n X (pc := 18) (q := 0) rfl (by decide +kernel)) <|
    zall_c (zs_getr X (pc := 19) zc_X6 (by decide) (zin ui_X6) (.tail _ gw_2_94) (by decide +kernel) (by decide +kernel)) <|
    zall_c (zs_iconst X (pc := 22) (by decide) (by decide +kernel)) <|
    zall_c (zs_iaload20 X (pc := 23) (by decide +kernel)) <|
    zall_c (zs_aload_n X (pc := 24) (q := 0) rfl (by decide +kernel)) <|
    zall_c (zs_getr X (pc := 25) zc_X6 (by decide) (zin ui_X6) (.tail _ gw_2_94) (by decide +kernel) (by decide +kernel)) <|
    zall_c (zs_iconst X (pc := 28) (by decide) (by decide +kernel)) <|
    zall_c (zs_iaload20 X (pc := 29) (by decide +kernel)) <|
    zall_c (zs_callV0 X (pc := 30) zc_X5 (fun _ ht => ⟨(zCB ht gw_5_190 gw_1_8 gw_5_187 rfl rfl (by decide +kernel) ⟨Nat.le_of_ble_eq_true rfl, Nat.le_of_ble_eq_true rfl⟩), ht _ (.tail _ gw_5_188), ht _ (.tail _ gw_5_189)⟩) h0 hout (by decide +kernel)) <|
    zall_c (zs_istore_n X (pc := 33) (q := 3) rfl (by decide) (by decide +kernel)) <|
    zall_c (zs_iload_n X (pc := 34) (q := 2) rfl (by decide +kernel)) <|
    zall_c (zs_if_ne X (pc := 35) (off := 23) (by decide +kernel) (by decide)) <|
    zall_c (zs_iload_n X (pc := 38) (q := 3) rfl (by decide +kernel)) <|
    zall_c (zs_if_ne X (pc := 39) (off := 19) (by decide +kernel) (by decide)) <|
    zall_c (zs_aload_n X (pc := 42) (q := 0) rfl (by decide +kernel)) <|
    zall_c (zs_iconst X (pc := 43) (by decide) (by decide +kernel)) <|
    zall_c (zs_puti X (pc := 44) (ty := Jvm.ClassFile.FieldType.int) zc_X6 (by decide) (zin ui_X6) tyX6_ok nmX6 (.tail _ gw_2_82) rfl (by decide +kernel) (by decide +kernel) (by decide +kernel) zP_int) <|
    zall_c (zs_aload_n X (pc := 47) (q := 0) rfl (by decide +kernel)) <|
    zall_c (zs_getr X (pc := 48) zc_X6 (by decide) (zin ui_X6) (.tail _ gw_2_91) (by decide +kernel) (by decide +kernel)) <|
    zall_c (zs_iconst X (pc := 51) (by decide) (by decide +kernel)) <|
    zall_c (zs_callS0 X (pc := 52) (fun _ ht => ⟨(zCB ht gw_4_72 gw_1_15 gw_5_202 rfl rfl (by decide +kernel) ⟨Nat.le_of_ble_eq_true rfl, Nat.le_of_ble_eq_true rfl⟩), ht _ (.tail _ gw_4_71)⟩) h1 hout (by decide +kernel)) <|
    zall_c (zs_goto X (pc := 55) (off := 85) (by decide +kernel) (by decide)) <|
    zall_c (zs_aload_n X (pc := 58) (q := 0) rfl (by decide +kernel)) <|
    zall_c (zs_getr X (pc := 59) zc_X6 (by decide) (zin ui_X6) (.tail _ gw_2_94) (by decide +kernel) (by decide +kernel)) <|
    zall_c (zs_iconst X (pc := 62) (by decide) (by decide +kernel)) <|
    zall_c (zs_iaload20 X (pc := 63) (by decide +kernel)) <|
    zall_c (zs_aload_n X (pc := 64) (q := 0) rfl (by decide +kernel)) <|
    zall_c (zs_getr X (pc := 65) zc_X6 (by decide) (zin ui_X6) (.tail _ gw_2_94) (by decide +kernel) (by decide +kernel)) <|
    zall_c (zs_iconst X (pc := 68) (by decide) (by decide +kernel)) <|
    zall_c (zs_iaload20 X (pc := 69) (by decide +kernel)) <|
    zall_c (zs_isub X (pc := 70) (by decide +kernel)) <|
    zall_c (zs_mabs X (pc := 71) (.tail _ gw_5_203) (.tail _ gw_5_192) (.tail _ gw_1_14) (.tail _ gw_5_193) (Nat.le_of_ble_eq_true rfl) (Nat.le_of_ble_eq_true rfl) (by decide +kernel)) <|
    zall_c (zs_aload_n X (pc := 74) (q := 0) rfl (by decide +kernel)) <|
    zall_c (zs_getr X (pc := 75) zc_X6 (by decide) (zin ui_X6) (.tail _ gw_2_94) (by decide +kernel) (by decide +kernel)) <|
    zall_c (zs_iconst X (pc := 78) (by decide) (by decide +kernel)) <|
    zall_c (zs_iaload20 X (pc := 79) (by decide +kernel)) <|
    zall_c (zs_aload_n X (pc := 80) (q := 0) rfl (by decide +kernel)) <|
    zall_c (zs_getr X (pc := 81) zc_X6 (by decide) (zin ui_X6) (.tail _ gw_2_94) (by decide +kernel) (by decide +kernel)) <|
    zall_c (zs_iconst X (pc := 84) (by decide) (by decide +kernel)) <|
    zall_c (zs_iaload20 X (pc := 85) (by decide +kernel)) <|
    zall_c (zs_isub X (pc := 86) (by decide +kernel)) <|
    zall_c (zs_mabs X (pc := 87) (.tail _ gw_5_203) (.tail _ gw_5_192) (.tail _ gw_1_14) (.tail _ gw_5_193) (Nat.le_of_ble_eq_true rfl) (Nat.le_of_ble_eq_true rfl) (by decide +kernel)) <|
    zall_c (zs_icmp_gt X (pc := 90) (off := 28) (by decide +kernel) (by decide)) <|
    zall_c (zs_aload_n X (pc := 93) (q := 0) rfl (by decide +kernel)) <|
    zall_c (zs_iconst X (pc := 94) (by decide) (by decide +kernel)) <|
    zall_c (zs_iconst X (pc := 95) (by decide) (by decide +kernel)) <|
    zall_c (zs_callV0 X (pc := 96) zc_X6 (fun _ ht => ⟨(zCB ht gw_5_197 gw_1_12 gw_5_194 rfl rfl (by decide +kernel) ⟨Nat.le_of_ble_eq_true rfl, Nat.le_of_ble_eq_true rfl⟩), ht _ (.tail _ gw_5_196), ht _ (.tail _ gp_22)⟩) h2 hout (by decide +kernel)) <|
    zall_c (zs_aload_n X (pc := 99) (q := 0) rfl (by decide +kernel)) <|
    zall_c (zs_getr X (pc := 100) zc_X6 (by decide) (zin ui_X6) (.tail _ gw_2_91) (by decide +kernel) (by decide +kernel)) <|
    zall_c (zs_iconst X (pc := 103) (by decide) (by decide +kernel)) <|
    zall_c (zs_iload_n X (pc := 104) (q := 3) rfl (by decide +kernel)) <|
    zall_c (zs_if_eq X (pc := 105) (off := 7) (by decide +kernel) (by decide)) <|
    zall_c (zs_iconst X (pc := 108) (by decide) (by decide +kernel)) <|
    zall_c (zs_goto X (pc := 109) (off := 5) (by decide +kernel) (by decide)) <|
    zall_c (zs_bipush X (pc := 112) (by decide) (by decide +kernel) (by decide +kernel)) <|
    zall_c (zs_iastore20 X (pc := 114) (by decide +kernel)) <|
    zall_c (zs_goto X (pc := 115) (off := 25) (by decide +kernel) (by decide)) <|
    zall_c (zs_aload_n X (pc := 118) (q := 0) rfl (by decide +kernel)) <|
    zall_c (zs_iconst X (pc := 119) (by decide) (by decide +kernel)) <|
    zall_c (zs_iconst X (pc := 120) (by decide) (by decide +kernel)) <|
    zall_c (zs_callV0 X (pc := 121) zc_X6 (fun _ ht => ⟨(zCB ht gw_5_197 gw_1_12 gw_5_194 rfl rfl (by decide +kernel) ⟨Nat.le_of_ble_eq_true rfl, Nat.le_of_ble_eq_true rfl⟩), ht _ (.tail _ gw_5_196), ht _ (.tail _ gp_22)⟩) h2 hout (by decide +kernel)) <|
    zall_c (zs_aload_n X (pc := 124) (q := 0) rfl (by decide +kernel)) <|
    zall_c (zs_getr X (pc := 125) zc_X6 (by decide) (zin ui_X6) (.tail _ gw_2_91) (by decide +kernel) (by decide +kernel)) <|
    zall_c (zs_iconst X (pc := 128) (by decide) (by decide +kernel)) <|
    zall_c (zs_iload_n X (pc := 129) (q := 2) rfl (by decide +kernel)) <|
    zall_c (zs_if_eq X (pc := 130) (off := 7) (by decide +kernel) (by decide)) <|
    zall_c (zs_iconst X (pc := 133) (by decide) (by decide +kernel)) <|
    zall_c (zs_goto X (pc := 134) (off := 5) (by decide +kernel) (by decide)) <|
    zall_c (zs_bipush X (pc := 137) (by decide) (by decide +kernel) (by decide +kernel)) <|
    zall_c (zs_iastore20 X (pc := 139) (by decide +kernel)) <|
    zall_c (zs_vret X (pc := 140) rfl (by decide +kernel)) <|
    zall_n
theorem met_X6_judgeThird {l : Launch} (hl : l.stackTraces = false) {T0 : ZTf} {T1 : ZTf} {T2 : ZTf} (h0 : zMet l yX5_agree (Cond.code yX5_agree cX5_agree 3 (Option.some Jvm.ClassFile.FieldType.boolean) :: zG) rm_X5_agree 0 0 T0) (h1 : zMet l yJ7_fill_53178 (Cond.code yJ7_fill_53178 cJ7_fill_53178 4 (Option.none : Option Jvm.ClassFile.FieldType) :: zG) rm_J7_fill_53178 0 0 T1) (h2 : zMet l yX6_finishBy (Cond.code yX6_finishBy cX6_finishBy 3 (Option.none : Option Jvm.ClassFile.FieldType) :: zG) rm_X6_finishBy 0 0 T2) {T : ZTf} (bd : zBd (cd_X6_judgeThird T0 T1 T2) 4 0 0 T) : zMet l yX6_judgeThird (Cond.code yX6_judgeThird cX6_judgeThird 4 (Option.none : Option Jvm.ClassFile.FieldType) :: zG) rm_X6_judgeThird 0 0 T := zMet_of hl (by decide +kernel) rfl rfl rfl rfl (hs_X6_judgeThird hl h0 h1 h2) bd

abbrev rm_X7_changeTrust : Room := { frames := 2, cells := 0, slots := 0, locals := 50 }
def cd_X7_changeTrust (T0 : ZTf) : List (Nat × ZTr) := [(0, tAld 0 1), (1, tAld 0 2), (2, tGetI 10 3 5), (5, tIld 1 6), (6, tAdd 7), (7, tCall0 1 (zNt T0) zAny 10), (10, tPutI 10 3 (fun _ => True) 13), (13, tRv)]
set_option maxRecDepth 100000 in
set_option maxHeartbeats 4000000 in
theorem hs_X7_changeTrust {l : Launch} (hl : l.stackTraces = false) {T0 : ZTf} (h0 : zMet l yX8_withinTrust (Cond.code yX8_withinTrust cX8_withinTrust 1 (Option.some Jvm.ClassFile.FieldType.int) :: zG) rm_X8_withinTrust 0 0 T0) (p : Program) (e : Env) (s : State) (m : MethodId) (args : Array Value) (below : List Frame) (meth : Method) (c : Code) (D : va_G) (A : Nat → Prop) (a0 : Nat → Nat) (M0 : ZM) (K : ZRet) (KX : ZEx) (X : zCtx p l rm_X7_changeTrust s m args meth c cX7_changeTrust RX7 (Cond.code yX7_changeTrust cX7_changeTrust 2 (Option.none : Option Jvm.ClassFile.FieldType) :: zG) 2 (Option.none : Option Jvm.ClassFile.FieldType) D A a0 M0 0 0) (hnm : meth.name = yX7_changeTrust.name) (hout : ∀ x ∈ c.exceptionTable.toList, False) : ∀ q ∈ cd_X7_changeTrust T0, zSd p l e rm_X7_changeTrust s m args below meth c 2 D A a0 M0 K KX 0 0 q.1 q.2 :=
    zall_c (zs_aload_n X (pc := 0) (q := 0) rfl (by decide +kernel)) <|
    zall_c (zs_aload_n X (pc := 1) (q := 0) rfl (by decide +kernel)) <|
    zall_c (zs_geti X (pc := 2) zc_X7 (by decide) (zin ui_X7) (.tail _ gw_1_120) (by decide +kernel) (by decide +kernel)) <|
    zall_c (zs_iload_n X (pc := 5) (q := 1) rfl (by decide +kernel)) <|
    zall_c (zs_iadd X (pc := 6) (by decide +kernel)) <|
    zall_c (zs_callSN0 X (pc := 7) (idx := 43) (host := "ReviewTable") (fun _ ht hxw => ⟨(zCN ht gw_5_222 gw_1_1 (by decide +kernel) hxw rfl rfl (by decide +kernel) ⟨Nat.le_of_ble_eq_true rfl, Nat.le_of_ble_eq_true rfl⟩), ht _ (.tail _ gw_5_221), trivial⟩) h0 (by decide +kernel)) <|
    zall_c (zs_puti X (pc := 10) (ty := Jvm.ClassFile.FieldType.int) zc_X7 (by decide) (zin ui_X7) tyX7_ok nmX7 (.tail _ gw_1_120) rfl (by decide +kernel) (by decide +kernel) (by decide +kernel) zP_int) <|
    zall_c (zs_vret X (pc := 13) rfl (by decide +kernel)) <|
    zall_n
theorem met_X7_changeTrust {l : Launch} (hl : l.stackTraces = false) {T0 : ZTf} (h0 : zMet l yX8_withinTrust (Cond.code yX8_withinTrust cX8_withinTrust 1 (Option.some Jvm.ClassFile.FieldType.int) :: zG) rm_X8_withinTrust 0 0 T0) {T : ZTf} (bd : zBd (cd_X7_changeTrust T0) 2 0 0 T) : zMet l yX7_changeTrust (Cond.code yX7_changeTrust cX7_changeTrust 2 (Option.none : Option Jvm.ClassFile.FieldType) :: zG) rm_X7_changeTrust 0 0 T := zMet_of hl (by decide +kernel) rfl rfl rfl rfl (hs_X7_changeTrust hl h0) bd

abbrev rm_X8_truncate : Room := { frames := 7, cells := 1, slots := 6, locals := 112 }
def cd_X8_truncate (T0 : ZTf) : List (Nat × ZTr) := [(0, tIld 1 1), (1, tC (zi 0) 2), (2, tAld 0 3), (3, tGetR 11 1 6), (6, tGetI 5 1 9), (9, tCall 3 1 6 T0 zAny 12), (12, tAld 0 13), (13, tGetR 11 1 16), (16, tIld 1 17), (17, tPutI 5 1 (fun _ => True) 20), (20, tRv)]
set_option maxRecDepth 100000 in
set_option maxHeartbeats 4000000 in
theorem hs_X8_truncate {l : Launch} (hl : l.stackTraces = false) {T0 : ZTf} (h0 : zMet l yX8_requireRange (Cond.code yX8_requireRange cX8_requireRange 3 (Option.none : Option Jvm.ClassFile.FieldType) :: zG) rm_X8_requireRange 1 6 T0) (p : Program) (e : Env) (s : State) (m : MethodId) (args : Array Value) (below : List Frame) (meth : Method) (c : Code) (D : va_G) (A : Nat → Prop) (a0 : Nat → Nat) (M0 : ZM) (K : ZRet) (KX : ZEx) (X : zCtx p l rm_X8_truncate s m args meth c cX8_truncate RX8 (Cond.code yX8_truncate cX8_truncate 2 (Option.none : Option Jvm.ClassFile.FieldType) :: zG) 2 (Option.none : Option Jvm.ClassFile.FieldType) D A a0 M0 1 6) (hnm : meth.name = yX8_truncate.name) (hout : ∀ x ∈ c.exceptionTable.toList, False) : ∀ q ∈ cd_X8_truncate T0, zSd p l e rm_X8_truncate s m args below meth c 2 D A a0 M0 K KX 1 6 q.1 q.2 :=
    zall_c (zs_iload_n X (pc := 0) (q := 1) rfl (by decide +kernel)) <|
    zall_c (zs_iconst X (pc := 1) (by decide) (by decide +kernel)) <|
    zall_c (zs_aload_n X (pc := 2) (q := 0) rfl (by decide +kernel)) <|
    zall_c (zs_getr X (pc := 3) zc_X8 (by decide) (zin ui_X8) (.tail _ gw_2_115) (by decide +kernel) (by decide +kernel)) <|
    zall_c (zs_geti X (pc := 6) zc_X1 (by decide) (zin ui_X1) (.tail _ gw_1_86) (by decide +kernel) (by decide +kernel)) <|
    zall_c (zs_callS X (pc := 9) (fun _ ht => ⟨(zCB ht gw_2_151 gw_1_1 gw_2_149 rfl rfl (by decide +kernel) ⟨Nat.le_of_ble_eq_true rfl, Nat.le_of_ble_eq_true rfl⟩), ht _ (.tail _ gw_2_150)⟩) h0 hout (by decide +kernel)) <|
    zall_c (zs_aload_n X (pc := 12) (q := 0) rfl (by decide +kernel)) <|
    zall_c (zs_getr X (pc := 13) zc_X8 (by decide) (zin ui_X8) (.tail _ gw_2_115) (by decide +kernel) (by decide +kernel)) <|
    zall_c (zs_iload_n X (pc := 16) (q := 1) rfl (by decide +kernel)) <|
    zall_c (zs_puti X (pc := 17) (ty := Jvm.ClassFile.FieldType.int) zc_X1 (by decide) (zin ui_X1) tyX1_ok nmX1 (.tail _ gw_1_86) rfl (by decide +kernel) (by decide +kernel) (by decide +kernel) zP_int) <|
    zall_c (zs_vret X (pc := 20) rfl (by decide +kernel)) <|
    zall_n
theorem met_X8_truncate {l : Launch} (hl : l.stackTraces = false) {T0 : ZTf} (h0 : zMet l yX8_requireRange (Cond.code yX8_requireRange cX8_requireRange 3 (Option.none : Option Jvm.ClassFile.FieldType) :: zG) rm_X8_requireRange 1 6 T0) {T : ZTf} (bd : zBd (cd_X8_truncate T0) 2 1 6 T) : zMet l yX8_truncate (Cond.code yX8_truncate cX8_truncate 2 (Option.none : Option Jvm.ClassFile.FieldType) :: zG) rm_X8_truncate 1 6 T := zMet_of hl (by decide +kernel) rfl rfl rfl rfl (hs_X8_truncate hl h0) bd

abbrev rm_X8_property : Room := { frames := 7, cells := 1, slots := 6, locals := 112 }
def cd_X8_property (T0 : ZTf) (T1 : ZTf) (T2 : ZTf) : List (Nat × ZTr) := [(0, tIld 1 1), (1, tC (zi 0) 2), (2, tC (zi 10) 4), (4, tCall 3 1 6 T0 zAny 7), (7, tIld 1 8), (8, tSw [(0, 68), (1, 76), (2, 84), (3, 92), (4, 100), (5, 108), (6, 124), (7, 124), (8, 124), (9, 124), (10, 116)] 124), (68, tAld 0 69), (69, tGetR 11 2 72), (72, tGetI 8 4 75), (75, tRi (fun _ => True)), (76, tAld 0 77), (77, tGetR 11 2 80), (80, tGetI 8 5 83), (83, tRi (fun _ => True)), (84, tAld 0 85), (85, tGetR 11 2 88), (88, tGetI 8 3 91), (91, tRi (fun _ => True)), (92, tAld 0 93), (93, tGetR 11 2 96), (96, tGetI 8 0 99), (99, tRi (fun _ => True)), (100, tAld 0 101), (101, tGetR 11 2 104), (104, tGetI 8 1 107), (107, tRi (fun _ => True)), (108, tAld 0 109), (109, tGetR 11 2 112), (112, tGetI 8 2 115), (115, tRi (fun _ => True)), (116, tAld 0 117), (117, tGetR 11 2 120), (120, tCall0 1 T1 (zRcv 8) 123), (123, tRi (fun _ => True)), (124, tAld 0 125), (125, tGetR 11 2 128), (128, tIld 1 129), (129, tC (zi 6) 131), (131, tSub 132), (132, tCall0 2 T2 (zRcv 8) 135), (135, tRi (fun _ => True))]
set_option maxRecDepth 100000 in
set_option maxHeartbeats 4000000 in
theorem hs_X8_property {l : Launch} (hl : l.stackTraces = false) {T0 : ZTf} {T1 : ZTf} {T2 : ZTf} (h0 : zMet l yX8_requireRange (Cond.code yX8_requireRange cX8_requireRange 3 (Option.none : Option Jvm.ClassFile.FieldType) :: zG) rm_X8_requireRange 1 6 T0) (h1 : zMet l yX5_countAudited (Cond.code yX5_countAudited cX5_countAudited 3 (Option.some Jvm.ClassFile.FieldType.int) :: zG) rm_X5_countAudited 0 0 T1) (h2 : zMet l yX5_countInState (Cond.code yX5_countInState cX5_countInState 4 (Option.some Jvm.ClassFile.FieldType.int) :: zG) rm_X5_countInState 0 0 T2) (p : Program) (e : Env) (s : State) (m : MethodId) (args : Array Value) (below : List Frame) (meth : Method) (c : Code) (D : va_G) (A : Nat → Prop) (a0 : Nat → Nat) (M0 : ZM) (K : ZRet) (KX : ZEx) (X : zCtx p l rm_X8_property s m args meth c cX8_property RX8 (Cond.code yX8_property cX8_property 2 (Option.some Jvm.ClassFile.FieldType.int) :: zG) 2 (Option.some Jvm.ClassFile.FieldType.int) D A a0 M0 1 6) (hnm : meth.name = yX8_property.name) (hout : ∀ x ∈ c.exceptionTable.toList, False) : ∀ q ∈ cd_X8_property T0 T1 T2, zSd p l e rm_X8_property s m args below meth c 2 D A a0 M0 K KX 1 6 q.1 q.2 :=
    zall_c (zs_iload_n X (pc := 0) (q := 1) rfl (by decide +kernel)) <|
    zall_c (zs_iconst X (pc := 1) (by decide) (by decide +kernel)) <|
    zall_c (zs_bipush X (pc := 2) (by decide) (by decide +kernel) (by decide +kernel)) <|
    zall_c (zs_callS X (pc := 4) (fun _ ht => ⟨(zCB ht gw_2_151 gw_1_1 gw_2_149 rfl rfl (by decide +kernel) ⟨Nat.le_of_ble_eq_true rfl, Nat.le_of_ble_eq_true rfl⟩), ht _ (.tail _ gw_2_150)⟩) h0 hout (by decide +kernel)) <|
    zall_c (zs_iload_n X (pc := 7) (q := 1) rfl (by decide +kernel)) <|
    zall_c (zs_tablesw X (pc := 8) (df := 116) (lo := 0) (hi := 10) (offs := #[60, 68, 76, 84, 92, 100, 116, 116, 116, 116, 108]) (len := 60) (by decide +kernel) (by decide) (by decide +kernel) (by decide +kernel)) <|
    zall_c (zs_aload_n X (pc := 68) (q := 0) rfl (by decide +kernel)) <|
    zall_c (zs_getr X (pc := 69) zc_X8 (by decide) (zin ui_X8) (.tail _ gw_2_116) (by decide +kernel) (by decide +kernel)) <|
    zall_c (zs_geti X (pc := 72) zc_X5 (by decide) (zin ui_X5) (.tail _ gw_1_230) (by decide +kernel) (by decide +kernel)) <|
    zall_c (zs_iret X (pc := 75) rfl (by decide +kernel)) <|
    zall_c (zs_aload_n X (pc := 76) (q := 0) rfl (by decide +kernel)) <|
    zall_c (zs_getr X (pc := 77) zc_X8 (by decide) (zin ui_X8) (.tail _ gw_2_116) (by decide +kernel) (by decide +kernel)) <|
    zall_c (zs_geti X (pc := 80) zc_X5 (by decide) (zin ui_X5) (.tail _ gw_1_233) (by decide +kernel) (by decide +kernel)) <|
    zall_c (zs_iret X (pc := 83) rfl (by decide +kernel)) <|
    zall_c (zs_aload_n X (pc := 84) (q := 0) rfl (by decide +kernel)) <|
    zall_c (zs_getr X (pc := 85) zc_X8 (by decide) (zin ui_X8) (.tail _ gw_2_116) (by decide +kernel) (by decide +kernel)) <|
    zall_c (zs_geti X (pc := 88) zc_X5 (by decide) (zin ui_X5) (.tail _ gw_1_228) (by decide +kernel) (by decide +kernel)) <|
    zall_c (zs_iret X (pc := 91) rfl (by decide +kernel)) <|
    zall_c (zs_aload_n X (pc := 92) (q := 0) rfl (by decide +kernel)) <|
    zall_c (zs_getr X (pc := 93) zc_X8 (by decide) (zin ui_X8) (.tail _ gw_2_116) (by decide +kernel) (by decide +kernel)) <|
    zall_c (zs_geti X (pc := 96) zc_X5 (by decide) (zin ui_X5) (.tail _ gw_1_220) (by decide +kernel) (by decide +kernel)) <|
    zall_c (zs_iret X (pc := 99) rfl (by decide +kernel)) <|
    zall_c (zs_aload_n X (pc := 100) (q := 0) rfl (by decide +kernel)) <|
    zall_c (zs_getr X (pc := 101) zc_X8 (by decide) (zin ui_X8) (.tail _ gw_2_116) (by decide +kernel) (by decide +kernel)) <|
    zall_c (zs_geti X (pc := 104) zc_X5 (by decide) (zin ui_X5) (.tail _ gw_1_223) (by decide +kernel) (by decide +kernel)) <|
    zall_c (zs_iret X (pc := 107) rfl (by decide +kernel)) <|
    zall_c (zs_aload_n X (pc := 108) (q := 0) rfl (by decide +kernel)) <|
    zall_c (zs_getr X (pc := 109) zc_X8 (by decide) (zin ui_X8) (.tail _ gw_2_116) (by decide +kernel) (by decide +kernel)) <|
    zall_c (zs_geti X (pc := 112) zc_X5 (by decide) (zin ui_X5) (.tail _ gw_1_226) (by decide +kernel) (by decide +kernel)) <|
    zall_c (zs_iret X (pc := 115) rfl (by decide +kernel)) <|
    zall_c (zs_aload_n X (pc := 116) (q := 0) rfl (by decide +kernel)) <|
    zall_c (zs_getr X (pc := 117) zc_X8 (by decide) (zin ui_X8) (.tail _ gw_2_116) (by decide +kernel) (by decide +kernel)) <|
    zall_c (zs_callV0 X (pc := 120) zc_X5 (fun _ ht => ⟨(zCB ht gw_2_222 gw_1_8 gw_2_219 rfl rfl (by decide +kernel) ⟨Nat.le_of_ble_eq_true rfl, Nat.le_of_ble_eq_true rfl⟩), ht _ (.tail _ gw_2_220), ht _ (.tail _ gw_2_221)⟩) h1 hout (by decide +kernel)) <|
    zall_c (zs_iret X (pc := 123) rfl (by decide +kernel)) <|
    zall_c (zs_aload_n X (pc := 124) (q := 0) rfl (by decide +kernel)) <|
    zall_c (zs_getr X (pc := 125) zc_X8 (by decide) (zin ui_X8) (.tail _ gw_2_116) (by decide +kernel) (by decide +kernel)) <|
    zall_c (zs_iload_n X (pc := 128) (q := 1) rfl (by decide +kernel)) <|
    zall_c (zs_bipush X (pc := 129) (by decide) (by decide +kernel) (by decide +kernel)) <|
    zall_c (zs_isub X (pc := 131) (by decide +kernel)) <|
    zall_c (zs_callV0 X (pc := 132) zc_X5 (fun _ ht => ⟨(zCB ht gw_2_226 gw_1_8 gw_2_223 rfl rfl (by decide +kernel) ⟨Nat.le_of_ble_eq_true rfl, Nat.le_of_ble_eq_true rfl⟩), ht _ (.tail _ gw_2_224), ht _ (.tail _ gw_2_225)⟩) h2 hout (by decide +kernel)) <|
    zall_c (zs_iret X (pc := 135) rfl (by decide +kernel)) <|
    zall_n
theorem met_X8_property {l : Launch} (hl : l.stackTraces = false) {T0 : ZTf} {T1 : ZTf} {T2 : ZTf} (h0 : zMet l yX8_requireRange (Cond.code yX8_requireRange cX8_requireRange 3 (Option.none : Option Jvm.ClassFile.FieldType) :: zG) rm_X8_requireRange 1 6 T0) (h1 : zMet l yX5_countAudited (Cond.code yX5_countAudited cX5_countAudited 3 (Option.some Jvm.ClassFile.FieldType.int) :: zG) rm_X5_countAudited 0 0 T1) (h2 : zMet l yX5_countInState (Cond.code yX5_countInState cX5_countInState 4 (Option.some Jvm.ClassFile.FieldType.int) :: zG) rm_X5_countInState 0 0 T2) {T : ZTf} (bd : zBd (cd_X8_property T0 T1 T2) 2 1 6 T) : zMet l yX8_property (Cond.code yX8_property cX8_property 2 (Option.some Jvm.ClassFile.FieldType.int) :: zG) rm_X8_property 1 6 T := zMet_of hl (by decide +kernel) rfl rfl rfl rfl (hs_X8_property hl h0 h1 h2) bd

abbrev rm_X8_worker : Room := { frames := 7, cells := 2, slots := 12, locals := 112 }
def cd_X8_worker (T0 : ZTf) (T1 : ZTf) : List (Nat × ZTr) := [(0, tAld 0 1), (1, tIld 1 2), (2, tCall 2 1 6 T0 (zRcv 11) 5), (5, tIld 2 6), (6, tC (zi 0) 7), (7, tC (zi 8) 9), (9, tCall 3 1 6 T1 zAny 12), (12, tAld 0 13), (13, tGetR 11 2 16), (16, tGetR 8 6 19), (19, tIld 1 20), (20, tAal 30 21), (21, tAst 3 22), (22, tIld 2 23), (23, tSw [(0, 68), (1, 73), (2, 78), (3, 83), (4, 88), (5, 93), (6, 98), (7, 103)] 108), (68, tAld 3 69), (69, tGetI 10 1 72), (72, tRi (fun _ => True)), (73, tAld 3 74), (74, tGetI 10 2 77), (77, tRi (fun _ => True)), (78, tAld 3 79), (79, tGetI 10 3 82), (82, tRi (fun _ => True)), (83, tAld 3 84), (84, tGetI 10 4 87), (87, tRi (fun _ => True)), (88, tAld 3 89), (89, tGetI 10 5 92), (92, tRi (fun _ => True)), (93, tAld 3 94), (94, tGetI 10 6 97), (97, tRi (fun _ => True)), (98, tAld 3 99), (99, tGetI 10 7 102), (102, tRi (fun _ => True)), (103, tAld 3 104), (104, tGetI 10 8 107), (107, tRi (fun _ => True)), (108, tAld 3 109), (109, tGetI 10 9 112), (112, tRi (fun _ => True))]
set_option maxRecDepth 100000 in
set_option maxHeartbeats 4000000 in
theorem hs_X8_worker {l : Launch} (hl : l.stackTraces = false) {T0 : ZTf} {T1 : ZTf} (h0 : zMet l yX8_requireWorker (Cond.code yX8_requireWorker cX8_requireWorker 2 (Option.none : Option Jvm.ClassFile.FieldType) :: zG) rm_X8_requireWorker 1 6 T0) (h1 : zMet l yX8_requireRange (Cond.code yX8_requireRange cX8_requireRange 3 (Option.none : Option Jvm.ClassFile.FieldType) :: zG) rm_X8_requireRange 1 6 T1) (p : Program) (e : Env) (s : State) (m : MethodId) (args : Array Value) (below : List Frame) (meth : Method) (c : Code) (D : va_G) (A : Nat → Prop) (a0 : Nat → Nat) (M0 : ZM) (K : ZRet) (KX : ZEx) (X : zCtx p l rm_X8_worker s m args meth c cX8_worker RX8 (Cond.code yX8_worker cX8_worker 4 (Option.some Jvm.ClassFile.FieldType.int) :: zG) 4 (Option.some Jvm.ClassFile.FieldType.int) D A a0 M0 2 12) (hnm : meth.name = yX8_worker.name) (hout : ∀ x ∈ c.exceptionTable.toList, False) : ∀ q ∈ cd_X8_worker T0 T1, zSd p l e rm_X8_worker s m args below meth c 4 D A a0 M0 K KX 2 12 q.1 q.2 :=
    zall_c (zs_aload_n X (pc := 0) (q := 0) rfl (by decide +kernel)) <|
    zall_c (zs_iload_n X (pc := 1) (q := 1) rfl (by decide +kernel)) <|
    zall_c (zs_callV X (pc := 2) zc_X8 (fun _ ht => ⟨(zCB ht gw_5_29 gw_1_1 gw_5_26 rfl rfl (by decide +kernel) ⟨Nat.le_of_ble_eq_true rfl, Nat.le_of_ble_eq_true rfl⟩), ht _ (.tail _ gw_5_28), ht _ (.tail _ gp_17)⟩) h0 hout (by decide +kernel)) <|
    zall_c (zs_iload_n X (pc := 5) (q := 2) rfl (by decide +kernel)) <|
    zall_c (zs_iconst X (pc := 6) (by decide) (by decide +kernel)) <|
    zall_c (zs_bipush X (pc := 7) (by decide) (by decide +kernel) (by decide +kernel)) <|
    zall_c (zs_callS X (pc := 9) (fun _ ht => ⟨(zCB ht gw_2_151 gw_1_1 gw_2_149 rfl rfl (by decide +kernel) ⟨Nat.le_of_ble_eq_true rfl, Nat.le_of_ble_eq_true rfl⟩), ht _ (.tail _ gw_2_150)⟩) h1 hout (by decide +kernel)) <|
    zall_c (zs_aload_n X (pc := 12) (q := 0) rfl (by decide +kernel)) <|
    zall_c (zs_getr X (pc := 13) zc_X8 (by decide) (zin ui_X8) (.tail _ gw_2_116) (by decide +kernel) (by decide +kernel)) <|
    zall_c (zs_getr X (pc := 16) zc_X5 (by decide) (zin ui_X5) (.tail _ gw_1_236) (by decide +kernel) (by decide +kernel)) <|
    zall_c (zs_iload_n X (pc := 19) (q := 1) rfl (by decide +kernel)) <|
    zall_c (zs_aaload X (pc := 20) (by decide) rfl (by decide +kernel)) <|
    zall_c (zs_astore_n X (pc := 21) (q := 3) rfl (by decide) (by decide +kernel)) <|
    zall_c (zs_iload_n X (pc := 22) (q := 2) rfl (by decide +kernel)) <|
    zall_c (zs_tablesw X (pc := 23) (df := 85) (lo := 0) (hi := 7) (offs := #[45, 50, 55, 60, 65, 70, 75, 80]) (len := 45) (by decide +kernel) (by decide) (by decide +kernel) (by decide +kernel)) <|
    zall_c (zs_aload_n X (pc := 68) (q := 3) rfl (by decide +kernel)) <|
    zall_c (zs_geti X (pc := 69) zc_X7 (by decide) (zin ui_X7) (.tail _ gw_1_115) (by decide +kernel) (by decide +kernel)) <|
    zall_c (zs_iret X (pc := 72) rfl (by decide +kernel)) <|
    zall_c (zs_aload_n X (pc := 73) (q := 3) rfl (by decide +kernel)) <|
    zall_c (zs_geti X (pc := 74) zc_X7 (by decide) (zin ui_X7) (.tail _ gw_1_118) (by decide +kernel) (by decide +kernel)) <|
    zall_c (zs_iret X (pc := 77) rfl (by decide +kernel)) <|
    zall_c (zs_aload_n X (pc := 78) (q := 3) rfl (by decide +kernel)) <|
    zall_c (zs_geti X (pc := 79) zc_X7 (by decide) (zin ui_X7) (.tail _ gw_1_122) (by decide +kernel) (by decide +kernel)) <|
    zall_c (zs_iret X (pc := 82) rfl (by decide +kernel)) <|
    zall_c (zs_aload_n X (pc := 83) (q := 3) rfl (by decide +kernel)) <|
    zall_c (zs_geti X (pc := 84) zc_X7 (by decide) (zin ui_X7) (.tail _ gw_1_125) (by decide +kernel) (by decide +kernel)) <|
    zall_c (zs_iret X (pc := 87) rfl (by decide +kernel)) <|
    zall_c (zs_aload_n X (pc := 88) (q := 3) rfl (by decide +kernel)) <|
    zall_c (zs_geti X (pc := 89) zc_X7 (by decide) (zin ui_X7) (.tail _ gw_1_128) (by decide +kernel) (by decide +kernel)) <|
    zall_c (zs_iret X (pc := 92) rfl (by decide +kernel)) <|
    zall_c (zs_aload_n X (pc := 93) (q := 3) rfl (by decide +kernel)) <|
    zall_c (zs_geti X (pc := 94) zc_X7 (by decide) (zin ui_X7) (.tail _ gw_1_131) (by decide +kernel) (by decide +kernel)) <|
    zall_c (zs_iret X (pc := 97) rfl (by decide +kernel)) <|
    zall_c (zs_aload_n X (pc := 98) (q := 3) rfl (by decide +kernel)) <|
    zall_c (zs_geti X (pc := 99) zc_X7 (by decide) (zin ui_X7) (.tail _ gw_1_134) (by decide +kernel) (by decide +kernel)) <|
    zall_c (zs_iret X (pc := 102) rfl (by decide +kernel)) <|
    zall_c (zs_aload_n X (pc := 103) (q := 3) rfl (by decide +kernel)) <|
    zall_c (zs_geti X (pc := 104) zc_X7 (by decide) (zin ui_X7) (.tail _ gw_1_137) (by decide +kernel) (by decide +kernel)) <|
    zall_c (zs_iret X (pc := 107) rfl (by decide +kernel)) <|
    zall_c (zs_aload_n X (pc := 108) (q := 3) rfl (by decide +kernel)) <|
    zall_c (zs_geti X (pc := 109) zc_X7 (by decide) (zin ui_X7) (.tail _ gw_1_140) (by decide +kernel) (by decide +kernel)) <|
    zall_c (zs_iret X (pc := 112) rfl (by decide +kernel)) <|
    zall_n
theorem met_X8_worker {l : Launch} (hl : l.stackTraces = false) {T0 : ZTf} {T1 : ZTf} (h0 : zMet l yX8_requireWorker (Cond.code yX8_requireWorker cX8_requireWorker 2 (Option.none : Option Jvm.ClassFile.FieldType) :: zG) rm_X8_requireWorker 1 6 T0) (h1 : zMet l yX8_requireRange (Cond.code yX8_requireRange cX8_requireRange 3 (Option.none : Option Jvm.ClassFile.FieldType) :: zG) rm_X8_requireRange 1 6 T1) {T : ZTf} (bd : zBd (cd_X8_worker T0 T1) 4 2 12 T) : zMet l yX8_worker (Cond.code yX8_worker cX8_worker 4 (Option.some Jvm.ClassFile.FieldType.int) :: zG) rm_X8_worker 2 12 T := zMet_of hl (by decide +kernel) rfl rfl rfl rfl (hs_X8_worker hl h0 h1) bd

abbrev rm_X8_row : Room := { frames := 7, cells := 2, slots := 12, locals := 112 }
def cd_X8_row (T0 : ZTf) (T1 : ZTf) (T2 : ZTf) : List (Nat × ZTr) := [(0, tAld 0 1), (1, tIld 1 2), (2, tCall 2 1 6 T0 (zRcv 11) 5), (5, tIld 2 6), (6, tC (zi 0) 7), (7, tC (zi 6) 9), (9, tCall 3 1 6 T1 zAny 12), (12, tAld 0 13), (13, tGetR 11 2 16), (16, tGetR 8 7 19), (19, tIld 1 20), (20, tAal 31 21), (21, tAst 3 22), (22, tIld 2 23), (23, tSw [(0, 60), (1, 65), (2, 70), (3, 75), (4, 88), (5, 93)] 98), (60, tAld 3 61), (61, tGetI 7 0 64), (64, tRi (fun _ => True)), (65, tAld 3 66), (66, tGetI 7 1 69), (69, tRi (fun _ => True)), (70, tAld 3 71), (71, tGetI 7 2 74), (74, tRi (fun _ => True)), (75, tAld 3 76), (76, tGetI 7 3 79), (79, tIf_eq 86 82), (82, tC (zi 1) 83), (83, tGo 87), (86, tC (zi 0) 87), (87, tRi (fun _ => True)), (88, tAld 3 89), (89, tGetI 7 8 92), (92, tRi (fun _ => True)), (93, tAld 3 94), (94, tCall0 1 T2 (zRcv 7) 97), (97, tRi (fun _ => True)), (98, tAld 3 99), (99, tGetI 7 5 102), (102, tRi (fun _ => True))]
set_option maxRecDepth 100000 in
set_option maxHeartbeats 4000000 in
theorem hs_X8_row {l : Launch} (hl : l.stackTraces = false) {T0 : ZTf} {T1 : ZTf} {T2 : ZTf} (h0 : zMet l yX8_requireRow (Cond.code yX8_requireRow cX8_requireRow 2 (Option.none : Option Jvm.ClassFile.FieldType) :: zG) rm_X8_requireRow 1 6 T0) (h1 : zMet l yX8_requireRange (Cond.code yX8_requireRange cX8_requireRange 3 (Option.none : Option Jvm.ClassFile.FieldType) :: zG) rm_X8_requireRange 1 6 T1) (h2 : zMet l yX4_missingWorkers (Cond.code yX4_missingWorkers cX4_missingWorkers 2 (Option.some Jvm.ClassFile.FieldType.int) :: zG) rm_X4_missingWorkers 0 0 T2) (p : Program) (e : Env) (s : State) (m : MethodId) (args : Array Value) (below : List Frame) (meth : Method) (c : Code) (D : va_G) (A : Nat → Prop) (a0 : Nat → Nat) (M0 : ZM) (K : ZRet) (KX : ZEx) (X : zCtx p l rm_X8_row s m args meth c cX8_row RX8 (Cond.code yX8_row cX8_row 4 (Option.some Jvm.ClassFile.FieldType.int) :: zG) 4 (Option.some Jvm.ClassFile.FieldType.int) D A a0 M0 2 12) (hnm : meth.name = yX8_row.name) (hout : ∀ x ∈ c.exceptionTable.toList, False) : ∀ q ∈ cd_X8_row T0 T1 T2, zSd p l e rm_X8_row s m args below meth c 4 D A a0 M0 K KX 2 12 q.1 q.2 :=
    zall_c (zs_aload_n X (pc := 0) (q := 0) rfl (by decide +kernel)) <|
    zall_c (zs_iload_n X (pc := 1) (q := 1) rfl (by decide +kernel)) <|
    zall_c (zs_callV X (pc := 2) zc_X8 (fun _ ht => ⟨(zCB ht gw_5_61 gw_1_1 gw_5_58 rfl rfl (by decide +kernel) ⟨Nat.le_of_ble_eq_true rfl, Nat.le_of_ble_eq_true rfl⟩), ht _ (.tail _ gw_5_60), ht _ (.tail _ gp_18)⟩) h0 hout (by decide +kernel)) <|
    zall_c (zs_iload_n X (pc := 5) (q := 2) rfl (by decide +kernel)) <|
    zall_c (zs_iconst X (pc := 6) (by decide) (by decide +kernel)) <|
    zall_c (zs_bipush X (pc := 7) (by decide) (by decide +kernel) (by decide +kernel)) <|
    zall_c (zs_callS X (pc := 9) (fun _ ht => ⟨(zCB ht gw_2_151 gw_1_1 gw_2_149 rfl rfl (by decide +kernel) ⟨Nat.le_of_ble_eq_true rfl, Nat.le_of_ble_eq_true rfl⟩), ht _ (.tail _ gw_2_150)⟩) h1 hout (by decide +kernel)) <|
    zall_c (zs_aload_n X (pc := 12) (q := 0) rfl (by decide +kernel)) <|
    zall_c (zs_getr X (pc := 13) zc_X8 (by decide) (zin ui_X8) (.tail _ gw_2_116) (by decide +kernel) (by decide +kernel)) <|
    zall_c (zs_getr X (pc := 16) zc_X5 (by decide) (zin ui_X5) (.tail _ gw_1_238) (by decide +kernel) (by decide +kernel)) <|
    zall_c (zs_iload_n X (pc := 19) (q := 1) rfl (by decide +kernel)) <|
    zall_c (zs_aaload X (pc := 20) (by decide) rfl (by decide +kernel)) <|
    zall_c (zs_astore_n X (pc := 21) (q := 3) rfl (by decide) (by decide +kernel)) <|
    zall_c (zs_iload_n X (pc := 22) (q := 2) rfl (by decide +kernel)) <|
    zall_c (zs_tablesw X (pc := 23) (df := 75) (lo := 0) (hi := 5) (offs := #[37, 42, 47, 52, 65, 70]) (len := 37) (by decide +kernel) (by decide) (by decide +kernel) (by decide +kernel)) <|
    zall_c (zs_aload_n X (pc := 60) (q := 3) rfl (by decide +kernel)) <|
    zall_c (zs_geti X (pc := 61) zc_X4 (by decide) (zin ui_X4) (.tail _ gw_1_169) (by decide +kernel) (by decide +kernel)) <|
    zall_c (zs_iret X (pc := 64) rfl (by decide +kernel)) <|
    zall_c (zs_aload_n X (pc := 65) (q := 3) rfl (by decide +kernel)) <|
    zall_c (zs_geti X (pc := 66) zc_X4 (by decide) (zin ui_X4) (.tail _ gw_1_173) (by decide +kernel) (by decide +kernel)) <|
    zall_c (zs_iret X (pc := 69) rfl (by decide +kernel)) <|
    zall_c (zs_aload_n X (pc := 70) (q := 3) rfl (by decide +kernel)) <|
    zall_c (zs_geti X (pc := 71) zc_X4 (by decide) (zin ui_X4) (.tail _ gw_1_176) (by decide +kernel) (by decide +kernel)) <|
    zall_c (zs_iret X (pc := 74) rfl (by decide +kernel)) <|
    zall_c (zs_aload_n X (pc := 75) (q := 3) rfl (by decide +kernel)) <|
    zall_c (zs_geti X (pc := 76) zc_X4 (by decide) (zin ui_X4) (.tail _ gw_1_179) (by decide +kernel) (by decide +kernel)) <|
    zall_c (zs_if_eq X (pc := 79) (off := 7) (by decide +kernel) (by decide)) <|
    zall_c (zs_iconst X (pc := 82) (by decide) (by decide +kernel)) <|
    zall_c (zs_goto X (pc := 83) (off := 4) (by decide +kernel) (by decide)) <|
    zall_c (zs_iconst X (pc := 86) (by decide) (by decide +kernel)) <|
    zall_c (zs_iret X (pc := 87) rfl (by decide +kernel)) <|
    zall_c (zs_aload_n X (pc := 88) (q := 3) rfl (by decide +kernel)) <|
    zall_c (zs_geti X (pc := 89) zc_X4 (by decide) (zin ui_X4) (.tail _ gw_1_194) (by decide +kernel) (by decide +kernel)) <|
    zall_c (zs_iret X (pc := 92) rfl (by decide +kernel)) <|
    zall_c (zs_aload_n X (pc := 93) (q := 3) rfl (by decide +kernel)) <|
    zall_c (zs_callV0 X (pc := 94) zc_X4 (fun _ ht => ⟨(zCB ht gw_5_66 gw_1_10 gw_5_63 rfl rfl (by decide +kernel) ⟨Nat.le_of_ble_eq_true rfl, Nat.le_of_ble_eq_true rfl⟩), ht _ (.tail _ gw_5_64), ht _ (.tail _ gw_5_65)⟩) h2 hout (by decide +kernel)) <|
    zall_c (zs_iret X (pc := 97) rfl (by decide +kernel)) <|
    zall_c (zs_aload_n X (pc := 98) (q := 3) rfl (by decide +kernel)) <|
    zall_c (zs_geti X (pc := 99) zc_X4 (by decide) (zin ui_X4) (.tail _ gw_1_184) (by decide +kernel) (by decide +kernel)) <|
    zall_c (zs_iret X (pc := 102) rfl (by decide +kernel)) <|
    zall_n
theorem met_X8_row {l : Launch} (hl : l.stackTraces = false) {T0 : ZTf} {T1 : ZTf} {T2 : ZTf} (h0 : zMet l yX8_requireRow (Cond.code yX8_requireRow cX8_requireRow 2 (Option.none : Option Jvm.ClassFile.FieldType) :: zG) rm_X8_requireRow 1 6 T0) (h1 : zMet l yX8_requireRange (Cond.code yX8_requireRange cX8_requireRange 3 (Option.none : Option Jvm.ClassFile.FieldType) :: zG) rm_X8_requireRange 1 6 T1) (h2 : zMet l yX4_missingWorkers (Cond.code yX4_missingWorkers cX4_missingWorkers 2 (Option.some Jvm.ClassFile.FieldType.int) :: zG) rm_X4_missingWorkers 0 0 T2) {T : ZTf} (bd : zBd (cd_X8_row T0 T1 T2) 4 2 12 T) : zMet l yX8_row (Cond.code yX8_row cX8_row 4 (Option.some Jvm.ClassFile.FieldType.int) :: zG) rm_X8_row 2 12 T := zMet_of hl (by decide +kernel) rfl rfl rfl rfl (hs_X8_row hl h0 h1 h2) bd

abbrev rm_X8_taking : Room := { frames := 7, cells := 3, slots := 18, locals := 112 }
def cd_X8_taking (T0 : ZTf) (T1 : ZTf) (T2 : ZTf) (T3 : ZTf) (T4 : ZTf) (T5 : ZTf) : List (Nat × ZTr) := [(0, tAld 0 1), (1, tIld 1 2), (2, tCall 2 1 6 T0 (zRcv 11) 5), (5, tAld 0 6), (6, tGetR 11 2 9), (9, tGetR 8 7 12), (12, tIld 1 13), (13, tAal 31 14), (14, tAst 4 16), (16, tIld 2 17), (17, tIf_lt 29 20), (20, tIld 2 21), (21, tAld 4 23), (23, tGetI 7 8 26), (26, tIc_lt 39 29), (29, tThr 0), (39, tIld 3 40), (40, tC (zi 0) 41), (41, tC (zi 2) 42), (42, tCall 3 1 6 T1 zAny 45), (45, tIld 3 46), (46, tSw [(0, 72), (1, 79)] 86), (72, tAld 4 74), (74, tIld 2 75), (75, tCall0 2 T2 (zRcv 7) 78), (78, tRi (fun _ => True)), (79, tAld 4 81), (81, tIld 2 82), (82, tCall0 2 T3 (zRcv 7) 85), (85, tRi (fun _ => True)), (86, tAld 4 88), (88, tIld 2 89), (89, tCall0 2 T4 (zRcv 7) 92), (92, tIf_eq 104 95), (95, tAld 4 97), (97, tIld 2 98), (98, tCall0 2 T5 (zRcv 7) 101), (101, tGo 105), (104, tC (zi (-1)) 105), (105, tRi (fun _ => True))]
set_option maxRecDepth 100000 in
set_option maxHeartbeats 4000000 in
theorem hs_X8_taking {l : Launch} (hl : l.stackTraces = false) {T0 : ZTf} {T1 : ZTf} {T2 : ZTf} {T3 : ZTf} {T4 : ZTf} {T5 : ZTf} (h0 : zMet l yX8_requireRow (Cond.code yX8_requireRow cX8_requireRow 2 (Option.none : Option Jvm.ClassFile.FieldType) :: zG) rm_X8_requireRow 1 6 T0) (h1 : zMet l yX8_requireRange (Cond.code yX8_requireRange cX8_requireRange 3 (Option.none : Option Jvm.ClassFile.FieldType) :: zG) rm_X8_requireRange 1 6 T1) (h2 : zMet l yX4_workerAt (Cond.code yX4_workerAt cX4_workerAt 2 (Option.some Jvm.ClassFile.FieldType.int) :: zG) rm_X4_workerAt 0 0 T2) (h3 : zMet l yX4_resultAt (Cond.code yX4_resultAt cX4_resultAt 2 (Option.some Jvm.ClassFile.FieldType.int) :: zG) rm_X4_resultAt 0 0 T3) (h4 : zMet l yX4_isInWork (Cond.code yX4_isInWork cX4_isInWork 2 (Option.some Jvm.ClassFile.FieldType.boolean) :: zG) rm_X4_isInWork 0 0 T4) (h5 : zMet l yX4_dueAt (Cond.code yX4_dueAt cX4_dueAt 2 (Option.some Jvm.ClassFile.FieldType.int) :: zG) rm_X4_dueAt 0 0 T5) (p : Program) (e : Env) (s : State) (m : MethodId) (args : Array Value) (below : List Frame) (meth : Method) (c : Code) (D : va_G) (A : Nat → Prop) (a0 : Nat → Nat) (M0 : ZM) (K : ZRet) (KX : ZEx) (X : zCtx p l rm_X8_taking s m args meth c cX8_taking RX8 (Cond.code yX8_taking cX8_taking 5 (Option.some Jvm.ClassFile.FieldType.int) :: zG) 5 (Option.some Jvm.ClassFile.FieldType.int) D A a0 M0 3 18) (hnm : meth.name = yX8_taking.name) (hout : ∀ x ∈ c.exceptionTable.toList, False) : ∀ q ∈ cd_X8_taking T0 T1 T2 T3 T4 T5, zSd p l e rm_X8_taking s m args below meth c 5 D A a0 M0 K KX 3 18 q.1 q.2 :=
    zall_c (zs_aload_n X (pc := 0) (q := 0) rfl (by decide +kernel)) <|
    zall_c (zs_iload_n X (pc := 1) (q := 1) rfl (by decide +kernel)) <|
    zall_c (zs_callV X (pc := 2) zc_X8 (fun _ ht => ⟨(zCB ht gw_5_61 gw_1_1 gw_5_58 rfl rfl (by decide +kernel) ⟨Nat.le_of_ble_eq_true rfl, Nat.le_of_ble_eq_true rfl⟩), ht _ (.tail _ gw_5_60), ht _ (.tail _ gp_18)⟩) h0 hout (by decide +kernel)) <|
    zall_c (zs_aload_n X (pc := 5) (q := 0) rfl (by decide +kernel)) <|
    zall_c (zs_getr X (pc := 6) zc_X8 (by decide) (zin ui_X8) (.tail _ gw_2_116) (by decide +kernel) (by decide +kernel)) <|
    zall_c (zs_getr X (pc := 9) zc_X5 (by decide) (zin ui_X5) (.tail _ gw_1_238) (by decide +kernel) (by decide +kernel)) <|
    zall_c (zs_iload_n X (pc := 12) (q := 1) rfl (by decide +kernel)) <|
    zall_c (zs_aaload X (pc := 13) (by decide) rfl (by decide +kernel)) <|
    zall_c (zs_astore X (pc := 14) (by decide) (by decide +kernel)) <|
    zall_c (zs_iload_n X (pc := 16) (q := 2) rfl (by decide +kernel)) <|
    zall_c (zs_if_lt X (pc := 17) (off := 12) (by decide +kernel) (by decide)) <|
    zall_c (zs_iload_n X (pc := 20) (q := 2) rfl (by decide +kernel)) <|
    zall_c (zs_aload X (pc := 21) (by decide +kernel)) <|
    zall_c (zs_geti X (pc := 23) zc_X4 (by decide) (zin ui_X4) (.tail _ gw_1_194) (by decide +kernel) (by decide +kernel)) <|
    zall_c (zs_icmp_lt X (pc := 26) (off := 13) (by decide +kernel) (by decide)) <|
    zall_c (zs_throw X (pc := 29) (ik := 201) (is := 203) (ic := 205) (cls := "java/lang/IndexOutOfBoundsException") (text := "no such taking") (names := ["java/lang/RuntimeException", "java/lang/Exception"]) rfl (by decide +kernel) (by decide +kernel) (.tail _ gw_5_30) (.tail _ gw_1_28) (by decide +kernel) (zin gt_X8_205) gt_X8_205x (by decide +kernel) hout (by decide) (by decide) (by decide +kernel) (by decide +kernel) (by decide +kernel) (by decide +kernel) (by decide +kernel)) <|
    zall_c (zs_iload_n X (pc := 39) (q := 3) rfl (by decide +kernel)) <|
    zall_c (zs_iconst X (pc := 40) (by decide) (by decide +kernel)) <|
    zall_c (zs_iconst X (pc := 41) (by decide) (by decide +kernel)) <|
    zall_c (zs_callS X (pc := 42) (fun _ ht => ⟨(zCB ht gw_2_151 gw_1_1 gw_2_149 rfl rfl (by decide +kernel) ⟨Nat.le_of_ble_eq_true rfl, Nat.le_of_ble_eq_true rfl⟩), ht _ (.tail _ gw_2_150)⟩) h1 hout (by decide +kernel)) <|
    zall_c (zs_iload_n X (pc := 45) (q := 3) rfl (by decide +kernel)) <|
    zall_c (zs_lookup X (pc := 46) (df := 40) (ps := #[(0, 26), (1, 33)]) (len := 26) (by decide +kernel) (by decide +kernel) (by decide) (by decide +kernel) (by decide +kernel)) <|
    zall_c (zs_aload X (pc := 72) (by decide +kernel)) <|
    zall_c (zs_iload_n X (pc := 74) (q := 2) rfl (by decide +kernel)) <|
    zall_c (zs_callV0 X (pc := 75) zc_X4 (fun _ ht => ⟨(zCB ht gw_5_80 gw_1_10 gw_5_77 rfl rfl (by decide +kernel) ⟨Nat.le_of_ble_eq_true rfl, Nat.le_of_ble_eq_true rfl⟩), ht _ (.tail _ gw_5_78), ht _ (.tail _ gw_5_79)⟩) h2 hout (by decide +kernel)) <|
    zall_c (zs_iret X (pc := 78) rfl (by decide +kernel)) <|
    zall_c (zs_aload X (pc := 79) (by decide +kernel)) <|
    zall_c (zs_iload_n X (pc := 81) (q := 2) rfl (by decide +kernel)) <|
    zall_c (zs_callV0 X (pc := 82) zc_X4 (fun _ ht => ⟨(zCB ht gw_5_84 gw_1_10 gw_5_81 rfl rfl (by decide +kernel) ⟨Nat.le_of_ble_eq_true rfl, Nat.le_of_ble_eq_true rfl⟩), ht _ (.tail _ gw_5_82), ht _ (.tail _ gw_5_83)⟩) h3 hout (by decide +kernel)) <|
    zall_c (zs_iret X (pc := 85) rfl (by decide +kernel)) <|
    zall_c (zs_aload X (pc := 86) (by decide +kernel)) <|
    zall_c (zs_iload_n X (pc := 88) (q := 2) rfl (by decide +kernel)) <|
    zall_c (zs_callV0 X (pc := 89) zc_X4 (fun _ ht => ⟨(zCB ht gw_5_88 gw_1_10 gw_5_85 rfl rfl (by decide +kernel) ⟨Nat.le_of_ble_eq_true rfl, Nat.le_of_ble_eq_true rfl⟩), ht _ (.tail _ gw_5_86), ht _ (.tail _ gw_5_87)⟩) h4 hout (by decide +kernel)) <|
    zall_c (zs_if_eq X (pc := 92) (off := 12) (by decide +kernel) (by decide)) <|
    zall_c (zs_aload X (pc := 95) (by decide +kernel)) <|
    zall_c (zs_iload_n X (pc := 97) (q := 2) rfl (by decide +kernel)) <|
    zall_c (zs_callV0 X (pc := 98) zc_X4 (fun _ ht => ⟨(zCB ht gw_5_93 gw_1_10 gw_5_90 rfl rfl (by decide +kernel) ⟨Nat.le_of_ble_eq_true rfl, Nat.le_of_ble_eq_true rfl⟩), ht _ (.tail _ gw_5_91), ht _ (.tail _ gw_5_92)⟩) h5 hout (by decide +kernel)) <|
    zall_c (zs_goto X (pc := 101) (off := 4) (by decide +kernel) (by decide)) <|
    zall_c (zs_iconst X (pc := 104) (by decide) (by decide +kernel)) <|
    zall_c (zs_iret X (pc := 105) rfl (by decide +kernel)) <|
    zall_n
theorem met_X8_taking {l : Launch} (hl : l.stackTraces = false) {T0 : ZTf} {T1 : ZTf} {T2 : ZTf} {T3 : ZTf} {T4 : ZTf} {T5 : ZTf} (h0 : zMet l yX8_requireRow (Cond.code yX8_requireRow cX8_requireRow 2 (Option.none : Option Jvm.ClassFile.FieldType) :: zG) rm_X8_requireRow 1 6 T0) (h1 : zMet l yX8_requireRange (Cond.code yX8_requireRange cX8_requireRange 3 (Option.none : Option Jvm.ClassFile.FieldType) :: zG) rm_X8_requireRange 1 6 T1) (h2 : zMet l yX4_workerAt (Cond.code yX4_workerAt cX4_workerAt 2 (Option.some Jvm.ClassFile.FieldType.int) :: zG) rm_X4_workerAt 0 0 T2) (h3 : zMet l yX4_resultAt (Cond.code yX4_resultAt cX4_resultAt 2 (Option.some Jvm.ClassFile.FieldType.int) :: zG) rm_X4_resultAt 0 0 T3) (h4 : zMet l yX4_isInWork (Cond.code yX4_isInWork cX4_isInWork 2 (Option.some Jvm.ClassFile.FieldType.boolean) :: zG) rm_X4_isInWork 0 0 T4) (h5 : zMet l yX4_dueAt (Cond.code yX4_dueAt cX4_dueAt 2 (Option.some Jvm.ClassFile.FieldType.int) :: zG) rm_X4_dueAt 0 0 T5) {T : ZTf} (bd : zBd (cd_X8_taking T0 T1 T2 T3 T4 T5) 5 3 18 T) : zMet l yX8_taking (Cond.code yX8_taking cX8_taking 5 (Option.some Jvm.ClassFile.FieldType.int) :: zG) rm_X8_taking 3 18 T := zMet_of hl (by decide +kernel) rfl rfl rfl rfl (hs_X8_taking hl h0 h1 h2 h3 h4 h5) bd

abbrev rm_X8_finishers : Room := { frames := 7, cells := 1, slots := 6, locals := 111 }
def cd_X8_finishers (T0 : ZTf) : List (Nat × ZTr) := [(0, tAld 0 1), (1, tIld 1 2), (2, tCall 2 1 6 T0 (zRcv 11) 5), (5, tAld 0 6), (6, tGetR 11 2 9), (9, tGetR 8 7 12), (12, tIld 1 13), (13, tAal 31 14), (14, tAst 2 15), (15, tAld 2 16), (16, tGetI 7 1 19), (19, tC (zi 2) 20), (20, tIc_eq 25 23), (23, tC (zi 0) 24), (24, tRi (fun _ => True)), (25, tC (zi 1) 26), (26, tAld 2 27), (27, tGetI 7 6 30), (30, tBif zshl 31), (31, tC (zi 1) 32), (32, tAld 2 33), (33, tGetI 7 7 36), (36, tBif zshl 37), (37, tBif zor 38), (38, tRi (fun _ => True))]
set_option maxRecDepth 100000 in
set_option maxHeartbeats 4000000 in
theorem hs_X8_finishers {l : Launch} (hl : l.stackTraces = false) {T0 : ZTf} (h0 : zMet l yX8_requireRow (Cond.code yX8_requireRow cX8_requireRow 2 (Option.none : Option Jvm.ClassFile.FieldType) :: zG) rm_X8_requireRow 1 6 T0) (p : Program) (e : Env) (s : State) (m : MethodId) (args : Array Value) (below : List Frame) (meth : Method) (c : Code) (D : va_G) (A : Nat → Prop) (a0 : Nat → Nat) (M0 : ZM) (K : ZRet) (KX : ZEx) (X : zCtx p l rm_X8_finishers s m args meth c cX8_finishers RX8 (Cond.code yX8_finishers cX8_finishers 3 (Option.some Jvm.ClassFile.FieldType.int) :: zG) 3 (Option.some Jvm.ClassFile.FieldType.int) D A a0 M0 1 6) (hnm : meth.name = yX8_finishers.name) (hout : ∀ x ∈ c.exceptionTable.toList, False) : ∀ q ∈ cd_X8_finishers T0, zSd p l e rm_X8_finishers s m args below meth c 3 D A a0 M0 K KX 1 6 q.1 q.2 :=
    zall_c (zs_aload_n X (pc := 0) (q := 0) rfl (by decide +kernel)) <|
    zall_c (zs_iload_n X (pc := 1) (q := 1) rfl (by decide +kernel)) <|
    zall_c (zs_callV X (pc := 2) zc_X8 (fun _ ht => ⟨(zCB ht gw_5_61 gw_1_1 gw_5_58 rfl rfl (by decide +kernel) ⟨Nat.le_of_ble_eq_true rfl, Nat.le_of_ble_eq_true rfl⟩), ht _ (.tail _ gw_5_60), ht _ (.tail _ gp_18)⟩) h0 hout (by decide +kernel)) <|
    zall_c (zs_aload_n X (pc := 5) (q := 0) rfl (by decide +kernel)) <|
    zall_c (zs_getr X (pc := 6) zc_X8 (by decide) (zin ui_X8) (.tail _ gw_2_116) (by decide +kernel) (by decide +kernel)) <|
    zall_c (zs_getr X (pc := 9) zc_X5 (by decide) (zin ui_X5) (.tail _ gw_1_238) (by decide +kernel) (by decide +kernel)) <|
    zall_c (zs_iload_n X (pc := 12) (q := 1) rfl (by decide +kernel)) <|
    zall_c (zs_aaload X (pc := 13) (by decide) rfl (by decide +kernel)) <|
    zall_c (zs_astore_n X (pc := 14) (q := 2) rfl (by decide) (by decide +kernel)) <|
    zall_c (zs_aload_n X (pc := 15) (q := 2) rfl (by decide +kernel)) <|
    zall_c (zs_geti X (pc := 16) zc_X4 (by decide) (zin ui_X4) (.tail _ gw_1_173) (by decide +kernel) (by decide +kernel)) <|
    zall_c (zs_iconst X (pc := 19) (by decide) (by decide +kernel)) <|
    zall_c (zs_icmp_eq X (pc := 20) (off := 5) (by decide +kernel) (by decide)) <|
    zall_c (zs_iconst X (pc := 23) (by decide) (by decide +kernel)) <|
    zall_c (zs_iret X (pc := 24) rfl (by decide +kernel)) <|
    zall_c (zs_iconst X (pc := 25) (by decide) (by decide +kernel)) <|
    zall_c (zs_aload_n X (pc := 26) (q := 2) rfl (by decide +kernel)) <|
    zall_c (zs_geti X (pc := 27) zc_X4 (by decide) (zin ui_X4) (.tail _ gw_1_187) (by decide +kernel) (by decide +kernel)) <|
    zall_c (zs_ishl X (pc := 30) (by decide +kernel)) <|
    zall_c (zs_iconst X (pc := 31) (by decide) (by decide +kernel)) <|
    zall_c (zs_aload_n X (pc := 32) (q := 2) rfl (by decide +kernel)) <|
    zall_c (zs_geti X (pc := 33) zc_X4 (by decide) (zin ui_X4) (.tail _ gw_1_190) (by decide +kernel) (by decide +kernel)) <|
    zall_c (zs_ishl X (pc := 36) (by decide +kernel)) <|
    zall_c (zs_ior X (pc := 37) (by decide +kernel)) <|
    zall_c (zs_iret X (pc := 38) rfl (by decide +kernel)) <|
    zall_n
theorem met_X8_finishers {l : Launch} (hl : l.stackTraces = false) {T0 : ZTf} (h0 : zMet l yX8_requireRow (Cond.code yX8_requireRow cX8_requireRow 2 (Option.none : Option Jvm.ClassFile.FieldType) :: zG) rm_X8_requireRow 1 6 T0) {T : ZTf} (bd : zBd (cd_X8_finishers T0) 3 1 6 T) : zMet l yX8_finishers (Cond.code yX8_finishers cX8_finishers 3 (Option.some Jvm.ClassFile.FieldType.int) :: zG) rm_X8_finishers 1 6 T := zMet_of hl (by decide +kernel) rfl rfl rfl rfl (hs_X8_finishers hl h0) bd

abbrev rm_X8_strikes : Room := { frames := 7, cells := 2, slots := 12, locals := 111 }
def cd_X8_strikes (T0 : ZTf) (T1 : ZTf) : List (Nat × ZTr) := [(0, tAld 0 1), (1, tIld 1 2), (2, tCall 2 1 6 T0 (zRcv 11) 5), (5, tAld 0 6), (6, tIld 2 7), (7, tCall 2 1 6 T0 (zRcv 11) 10), (10, tAld 0 11), (11, tGetR 11 2 14), (14, tGetR 8 8 17), (17, tIld 1 18), (18, tIld 2 19), (19, tCall0 2 T1 zAny 22), (22, tIal 20 23), (23, tRi (fun _ => True))]
set_option maxRecDepth 100000 in
set_option maxHeartbeats 4000000 in
theorem hs_X8_strikes {l : Launch} (hl : l.stackTraces = false) {T0 : ZTf} {T1 : ZTf} (h0 : zMet l yX8_requireWorker (Cond.code yX8_requireWorker cX8_requireWorker 2 (Option.none : Option Jvm.ClassFile.FieldType) :: zG) rm_X8_requireWorker 1 6 T0) (h1 : zMet l yX5_pairIndex (Cond.code yX5_pairIndex cX5_pairIndex 2 (Option.some Jvm.ClassFile.FieldType.int) :: zG) rm_X5_pairIndex 0 0 T1) (p : Program) (e : Env) (s : State) (m : MethodId) (args : Array Value) (below : List Frame) (meth : Method) (c : Code) (D : va_G) (A : Nat → Prop) (a0 : Nat → Nat) (M0 : ZM) (K : ZRet) (KX : ZEx) (X : zCtx p l rm_X8_strikes s m args meth c cX8_strikes RX8 (Cond.code yX8_strikes cX8_strikes 3 (Option.some Jvm.ClassFile.FieldType.int) :: zG) 3 (Option.some Jvm.ClassFile.FieldType.int) D A a0 M0 2 12) (hnm : meth.name = yX8_strikes.name) (hout : ∀ x ∈ c.exceptionTable.toList, False) : ∀ q ∈ cd_X8_strikes T0 T1, zSd p l e rm_X8_strikes s m args below meth c 3 D A a0 M0 K KX 2 12 q.1 q.2 :=
    zall_c (zs_aload_n X (pc := 0) (q := 0) rfl (by decide +kernel)) <|
    zall_c (zs_iload_n X (pc := 1) (q := 1) rfl (by decide +kernel)) <|
    zall_c (zs_callV X (pc := 2) zc_X8 (fun _ ht => ⟨(zCB ht gw_5_29 gw_1_1 gw_5_26 rfl rfl (by decide +kernel) ⟨Nat.le_of_ble_eq_true rfl, Nat.le_of_ble_eq_true rfl⟩), ht _ (.tail _ gw_5_28), ht _ (.tail _ gp_17)⟩) h0 hout (by decide +kernel)) <|
    zall_c (zs_aload_n X (pc := 5) (q := 0) rfl (by decide +kernel)) <|
    zall_c (zs_iload_n X (pc := 6) (q := 2) rfl (by decide +kernel)) <|
    zall_c (zs_callV X (pc := 7) zc_X8 (fun _ ht => ⟨(zCB ht gw_5_29 gw_1_1 gw_5_26 rfl rfl (by decide +kernel) ⟨Nat.le_of_ble_eq_true rfl, Nat.le_of_ble_eq_true rfl⟩), ht _ (.tail _ gw_5_28), ht _ (.tail _ gp_17)⟩) h0 hout (by decide +kernel)) <|
    zall_c (zs_aload_n X (pc := 10) (q := 0) rfl (by decide +kernel)) <|
    zall_c (zs_getr X (pc := 11) zc_X8 (by decide) (zin ui_X8) (.tail _ gw_2_116) (by decide +kernel) (by decide +kernel)) <|
    zall_c (zs_getr X (pc := 14) zc_X5 (by decide) (zin ui_X5) (.tail _ gw_2_0) (by decide +kernel) (by decide +kernel)) <|
    zall_c (zs_iload_n X (pc := 17) (q := 1) rfl (by decide +kernel)) <|
    zall_c (zs_iload_n X (pc := 18) (q := 2) rfl (by decide +kernel)) <|
    zall_c (zs_callS0 X (pc := 19) (fun _ ht => ⟨(zCB ht gw_4_229 gw_1_8 gw_6_106 rfl rfl (by decide +kernel) ⟨Nat.le_of_ble_eq_true rfl, Nat.le_of_ble_eq_true rfl⟩), ht _ (.tail _ gw_4_228)⟩) h1 hout (by decide +kernel)) <|
    zall_c (zs_iaload20 X (pc := 22) (by decide +kernel)) <|
    zall_c (zs_iret X (pc := 23) rfl (by decide +kernel)) <|
    zall_n
theorem met_X8_strikes {l : Launch} (hl : l.stackTraces = false) {T0 : ZTf} {T1 : ZTf} (h0 : zMet l yX8_requireWorker (Cond.code yX8_requireWorker cX8_requireWorker 2 (Option.none : Option Jvm.ClassFile.FieldType) :: zG) rm_X8_requireWorker 1 6 T0) (h1 : zMet l yX5_pairIndex (Cond.code yX5_pairIndex cX5_pairIndex 2 (Option.some Jvm.ClassFile.FieldType.int) :: zG) rm_X5_pairIndex 0 0 T1) {T : ZTf} (bd : zBd (cd_X8_strikes T0 T1) 3 2 12 T) : zMet l yX8_strikes (Cond.code yX8_strikes cX8_strikes 3 (Option.some Jvm.ClassFile.FieldType.int) :: zG) rm_X8_strikes 2 12 T := zMet_of hl (by decide +kernel) rfl rfl rfl rfl (hs_X8_strikes hl h0 h1) bd

abbrev rm_X8_isBarred : Room := { frames := 7, cells := 2, slots := 12, locals := 111 }
def cd_X8_isBarred (T0 : ZTf) (T1 : ZTf) : List (Nat × ZTr) := [(0, tAld 0 1), (1, tIld 1 2), (2, tCall 2 1 6 T0 (zRcv 11) 5), (5, tAld 0 6), (6, tIld 2 7), (7, tCall 2 1 6 T0 (zRcv 11) 10), (10, tAld 0 11), (11, tGetR 11 2 14), (14, tIld 1 15), (15, tIld 2 16), (16, tCall0 3 T1 (zRcv 8) 19), (19, tRi zPz)]
set_option maxRecDepth 100000 in
set_option maxHeartbeats 4000000 in
theorem hs_X8_isBarred {l : Launch} (hl : l.stackTraces = false) {T0 : ZTf} {T1 : ZTf} (h0 : zMet l yX8_requireWorker (Cond.code yX8_requireWorker cX8_requireWorker 2 (Option.none : Option Jvm.ClassFile.FieldType) :: zG) rm_X8_requireWorker 1 6 T0) (h1 : zMet l yX5_areKeptApart (Cond.code yX5_areKeptApart cX5_areKeptApart 4 (Option.some Jvm.ClassFile.FieldType.boolean) :: zG) rm_X5_areKeptApart 0 0 T1) (p : Program) (e : Env) (s : State) (m : MethodId) (args : Array Value) (below : List Frame) (meth : Method) (c : Code) (D : va_G) (A : Nat → Prop) (a0 : Nat → Nat) (M0 : ZM) (K : ZRet) (KX : ZEx) (X : zCtx p l rm_X8_isBarred s m args meth c cX8_isBarred RX8 (Cond.code yX8_isBarred cX8_isBarred 3 (Option.some Jvm.ClassFile.FieldType.boolean) :: zG) 3 (Option.some Jvm.ClassFile.FieldType.boolean) D A a0 M0 2 12) (hnm : meth.name = yX8_isBarred.name) (hout : ∀ x ∈ c.exceptionTable.toList, False) : ∀ q ∈ cd_X8_isBarred T0 T1, zSd p l e rm_X8_isBarred s m args below meth c 3 D A a0 M0 K KX 2 12 q.1 q.2 :=
    zall_c (zs_aload_n X (pc := 0) (q := 0) rfl (by decide +kernel)) <|
    zall_c (zs_iload_n X (pc := 1) (q := 1) rfl (by decide +kernel)) <|
    zall_c (zs_callV X (pc := 2) zc_X8 (fun _ ht => ⟨(zCB ht gw_5_29 gw_1_1 gw_5_26 rfl rfl (by decide +kernel) ⟨Nat.le_of_ble_eq_true rfl, Nat.le_of_ble_eq_true rfl⟩), ht _ (.tail _ gw_5_28), ht _ (.tail _ gp_17)⟩) h0 hout (by decide +kernel)) <|
    zall_c (zs_aload_n X (pc := 5) (q := 0) rfl (by decide +kernel)) <|
    zall_c (zs_iload_n X (pc := 6) (q := 2) rfl (by decide +kernel)) <|
    zall_c (zs_callV X (pc := 7) zc_X8 (fun _ ht => ⟨(zCB ht gw_5_29 gw_1_1 gw_5_26 rfl rfl (by decide +kernel) ⟨Nat.le_of_ble_eq_true rfl, Nat.le_of_ble_eq_true rfl⟩), ht _ (.tail _ gw_5_28), ht _ (.tail _ gp_17)⟩) h0 hout (by decide +kernel)) <|
    zall_c (zs_aload_n X (pc := 10) (q := 0) rfl (by decide +kernel)) <|
    zall_c (zs_getr X (pc := 11) zc_X8 (by decide) (zin ui_X8) (.tail _ gw_2_116) (by decide +kernel) (by decide +kernel)) <|
    zall_c (zs_iload_n X (pc := 14) (q := 1) rfl (by decide +kernel)) <|
    zall_c (zs_iload_n X (pc := 15) (q := 2) rfl (by decide +kernel)) <|
    zall_c (zs_callV0 X (pc := 16) zc_X5 (fun _ ht => ⟨(zCB ht gw_4_226 gw_1_8 gw_5_46 rfl rfl (by decide +kernel) ⟨Nat.le_of_ble_eq_true rfl, Nat.le_of_ble_eq_true rfl⟩), ht _ (.tail _ gw_4_224), ht _ (.tail _ gw_4_225)⟩) h1 hout (by decide +kernel)) <|
    zall_c (zs_zret X (pc := 19) rfl zR_bool (by decide +kernel)) <|
    zall_n
theorem met_X8_isBarred {l : Launch} (hl : l.stackTraces = false) {T0 : ZTf} {T1 : ZTf} (h0 : zMet l yX8_requireWorker (Cond.code yX8_requireWorker cX8_requireWorker 2 (Option.none : Option Jvm.ClassFile.FieldType) :: zG) rm_X8_requireWorker 1 6 T0) (h1 : zMet l yX5_areKeptApart (Cond.code yX5_areKeptApart cX5_areKeptApart 4 (Option.some Jvm.ClassFile.FieldType.boolean) :: zG) rm_X5_areKeptApart 0 0 T1) {T : ZTf} (bd : zBd (cd_X8_isBarred T0 T1) 3 2 12 T) : zMet l yX8_isBarred (Cond.code yX8_isBarred cX8_isBarred 3 (Option.some Jvm.ClassFile.FieldType.boolean) :: zG) rm_X8_isBarred 2 12 T := zMet_of hl (by decide +kernel) rfl rfl rfl rfl (hs_X8_isBarred hl h0 h1) bd

abbrev rm_X8_lateIn : Room := { frames := 7, cells := 1, slots := 6, locals := 117 }
def cd_X8_lateIn (T0 : ZTf) (T1 : ZTf) : List (Nat × ZTr) := [(0, tIld 1 1), (1, tC (zi 0) 2), (2, tC (zi 99) 4), (4, tCall 3 1 6 T0 zAny 7), (7, tC (zi 0) 8), (8, tIst 2 9), (9, tC (zi 0) 10), (10, tIst 3 11), (11, tIld 3 12), (12, tAld 0 13), (13, tGetR 11 2 16), (16, tGetI 8 5 19), (19, tIc_ge 52 22), (22, tIld 2 23), (23, tAld 0 24), (24, tGetR 11 2 27), (27, tGetR 8 7 30), (30, tIld 3 31), (31, tAal 31 32), (32, tAld 0 33), (33, tGetR 11 2 36), (36, tGetI 8 3 39), (39, tIld 1 40), (40, tAdd 41), (41, tCall0 2 T1 (zRcv 7) 44), (44, tAdd 45), (45, tIst 2 46), (46, tInc 3 1 49), (49, tGo 11), (52, tIld 2 53), (53, tRi (fun _ => True))]
set_option maxRecDepth 100000 in
set_option maxHeartbeats 4000000 in
theorem hs_X8_lateIn {l : Launch} (hl : l.stackTraces = false) {T0 : ZTf} {T1 : ZTf} (h0 : zMet l yX8_requireRange (Cond.code yX8_requireRange cX8_requireRange 3 (Option.none : Option Jvm.ClassFile.FieldType) :: zG) rm_X8_requireRange 1 6 T0) (h1 : zMet l yX4_countLateAt (Cond.code yX4_countLateAt cX4_countLateAt 4 (Option.some Jvm.ClassFile.FieldType.int) :: zG) rm_X4_countLateAt 0 0 T1) (p : Program) (e : Env) (s : State) (m : MethodId) (args : Array Value) (below : List Frame) (meth : Method) (c : Code) (D : va_G) (A : Nat → Prop) (a0 : Nat → Nat) (M0 : ZM) (K : ZRet) (KX : ZEx) (X : zCtx p l rm_X8_lateIn s m args meth c cX8_lateIn RX8 (Cond.code yX8_lateIn cX8_lateIn 4 (Option.some Jvm.ClassFile.FieldType.int) :: zG) 4 (Option.some Jvm.ClassFile.FieldType.int) D A a0 M0 1 6) (hnm : meth.name = yX8_lateIn.name) (hout : ∀ x ∈ c.exceptionTable.toList, False) : ∀ q ∈ cd_X8_lateIn T0 T1, zSd p l e rm_X8_lateIn s m args below meth c 4 D A a0 M0 K KX 1 6 q.1 q.2 :=
    zall_c (zs_iload_n X (pc := 0) (q := 1) rfl (by decide +kernel)) <|
    zall_c (zs_iconst X (pc := 1) (by decide) (by decide +kernel)) <|
    zall_c (zs_bipush X (pc := 2) (by decide) (by decide +kernel) (by decide +kernel)) <|
    zall_c (zs_callS X (pc := 4) (fun _ ht => ⟨(zCB ht gw_2_151 gw_1_1 gw_2_149 rfl rfl (by decide +kernel) ⟨Nat.le_of_ble_eq_true rfl, Nat.le_of_ble_eq_true rfl⟩), ht _ (.tail _ gw_2_150)⟩) h0 hout (by decide +kernel)) <|
    zall_c (zs_iconst X (pc := 7) (by decide) (by decide +kernel)) <|
    zall_c (zs_istore_n X (pc := 8) (q := 2) rfl (by decide) (by decide +kernel)) <|
    zall_c (zs_iconst X (pc := 9) (by decide) (by decide +kernel)) <|
    zall_c (zs_istore_n X (pc := 10) (q := 3) rfl (by decide) (by decide +kernel)) <|
    zall_c (zs_iload_n X (pc := 11) (q := 3) rfl (by decide +kernel)) <|
    zall_c (zs_aload_n X (pc := 12) (q := 0) rfl (by decide +kernel)) <|
    zall_c (zs_getr X (pc := 13) zc_X8 (by decide) (zin ui_X8) (.tail _ gw_2_116) (by decide +kernel) (by decide +kernel)) <|
    zall_c (zs_geti X (pc := 16) zc_X5 (by decide) (zin ui_X5) (.tail _ gw_1_233) (by decide +kernel) (by decide +kernel)) <|
    zall_c (zs_icmp_ge X (pc := 19) (off := 33) (by decide +kernel) (by decide)) <|
    zall_c (zs_iload_n X (pc := 22) (q := 2) rfl (by decide +kernel)) <|
    zall_c (zs_aload_n X (pc := 23) (q := 0) rfl (by decide +kernel)) <|
    zall_c (zs_getr X (pc := 24) zc_X8 (by decide) (zin ui_X8) (.tail _ gw_2_116) (by decide +kernel) (by decide +kernel)) <|
    zall_c (zs_getr X (pc := 27) zc_X5 (by decide) (zin ui_X5) (.tail _ gw_1_238) (by decide +kernel) (by decide +kernel)) <|
    zall_c (zs_iload_n X (pc := 30) (q := 3) rfl (by decide +kernel)) <|
    zall_c (zs_aaload X (pc := 31) (by decide) rfl (by decide +kernel)) <|
    zall_c (zs_aload_n X (pc := 32) (q := 0) rfl (by decide +kernel)) <|
    zall_c (zs_getr X (pc := 33) zc_X8 (by decide) (zin ui_X8) (.tail _ gw_2_116) (by decide +kernel) (by decide +kernel)) <|
    zall_c (zs_geti X (pc := 36) zc_X5 (by decide) (zin ui_X5) (.tail _ gw_1_228) (by decide +kernel) (by decide +kernel)) <|
    zall_c (zs_iload_n X (pc := 39) (q := 1) rfl (by decide +kernel)) <|
    zall_c (zs_iadd X (pc := 40) (by decide +kernel)) <|
    zall_c (zs_callV0 X (pc := 41) zc_X4 (fun _ ht => ⟨(zCB ht gw_6_117 gw_1_10 gw_6_114 rfl rfl (by decide +kernel) ⟨Nat.le_of_ble_eq_true rfl, Nat.le_of_ble_eq_true rfl⟩), ht _ (.tail _ gw_6_115), ht _ (.tail _ gw_6_116)⟩) h1 hout (by decide +kernel)) <|
    zall_c (zs_iadd X (pc := 44) (by decide +kernel)) <|
    zall_c (zs_istore_n X (pc := 45) (q := 2) rfl (by decide) (by decide +kernel)) <|
    zall_c (zs_iinc X (pc := 46) (by decide) (by decide +kernel)) <|
    zall_c (zs_goto X (pc := 49) (off := (-38)) (by decide +kernel) (by decide)) <|
    zall_c (zs_iload_n X (pc := 52) (q := 2) rfl (by decide +kernel)) <|
    zall_c (zs_iret X (pc := 53) rfl (by decide +kernel)) <|
    zall_n
theorem met_X8_lateIn {l : Launch} (hl : l.stackTraces = false) {T0 : ZTf} {T1 : ZTf} (h0 : zMet l yX8_requireRange (Cond.code yX8_requireRange cX8_requireRange 3 (Option.none : Option Jvm.ClassFile.FieldType) :: zG) rm_X8_requireRange 1 6 T0) (h1 : zMet l yX4_countLateAt (Cond.code yX4_countLateAt cX4_countLateAt 4 (Option.some Jvm.ClassFile.FieldType.int) :: zG) rm_X4_countLateAt 0 0 T1) {T : ZTf} (bd : zBd (cd_X8_lateIn T0 T1) 4 1 6 T) : zMet l yX8_lateIn (Cond.code yX8_lateIn cX8_lateIn 4 (Option.some Jvm.ClassFile.FieldType.int) :: zG) rm_X8_lateIn 1 6 T := zMet_of hl (by decide +kernel) rfl rfl rfl rfl (hs_X8_lateIn hl h0 h1) bd

abbrev rm_J5_newCapacity_0f7a4 : Room := { frames := 2, cells := 0, slots := 0, locals := 53 }
def cd_J5_newCapacity_0f7a4 (T0 : ZTf) : List (Nat × ZTr) := [(0, tAld 0 1), (1, tGetR 1 0 4), (4, tLen 5), (5, tIst 2 6), (6, tIld 1 7), (7, tAld 0 8), (8, tGetI 1 1 11), (11, tBif zshl 12), (12, tIst 3 13), (13, tIld 3 14), (14, tIld 2 15), (15, tSub 16), (16, tIst 4 18), (18, tIld 2 19), (19, tIld 4 21), (21, tIld 2 22), (22, tC (zi 2) 23), (23, tAld 0 24), (24, tGetI 1 1 27), (27, tBif zshl 28), (28, tAdd 29), (29, tCall0 3 T0 zAny 32), (32, tIst 5 34), (34, tIld 5 36), (36, tC (zi 2147483647) 38), (38, tIc_ne 51 41), (41, tNo), (51, tIld 5 53), (53, tAld 0 54), (54, tGetI 1 1 57), (57, tBif zshr 58), (58, tRi (fun _ => True))]
set_option maxRecDepth 100000 in
set_option maxHeartbeats 4000000 in
theorem hs_J5_newCapacity_0f7a4 {l : Launch} (hl : l.stackTraces = false) {T0 : ZTf} (h0 : zMet l yJ8_newLength_cabcc (Cond.code yJ8_newLength_cabcc cJ8_newLength_cabcc 4 (Option.some Jvm.ClassFile.FieldType.int) :: zG) rm_J8_newLength_cabcc 0 0 T0) (p : Program) (e : Env) (s : State) (m : MethodId) (args : Array Value) (below : List Frame) (meth : Method) (c : Code) (D : va_G) (A : Nat → Prop) (a0 : Nat → Nat) (M0 : ZM) (K : ZRet) (KX : ZEx) (X : zCtx p l rm_J5_newCapacity_0f7a4 s m args meth c cJ5_newCapacity_0f7a4 RJ5 (Cond.code yJ5_newCapacity_0f7a4 cJ5_newCapacity_0f7a4 6 (Option.some Jvm.ClassFile.FieldType.int) :: zG) 6 (Option.some Jvm.ClassFile.FieldType.int) D A a0 M0 0 0) (hnm : meth.name = yJ5_newCapacity_0f7a4.name) (hout : ∀ x ∈ c.exceptionTable.toList, False) : ∀ q ∈ cd_J5_newCapacity_0f7a4 T0, zSd p l e rm_J5_newCapacity_0f7a4 s m args below meth c 6 D A a0 M0 K KX 0 0 q.1 q.2 :=
    zall_c (zs_aload_n X (pc := 0) (q := 0) rfl (by decide +kernel)) <|
    zall_c (zs_getr X (pc := 1) zc_J4 (by decide) (zin ui_J4) (.tail _ gw_1_67) (by decide +kernel) (by decide +kernel)) <|
    zall_c (zs_len X (pc := 4) (by decide +kernel)) <|
    zall_c (zs_istore_n X (pc := 5) (q := 2) rfl (by decide) (by decide +kernel)) <|
    zall_c (zs_iload_n X (pc := 6) (q := 1) rfl (by decide +kernel)) <|
    zall_c (zs_aload_n X (pc := 7) (q := 0) rfl (by decide +kernel)) <|
    zall_c (zs_geti X (pc := 8) zc_J4 (by decide) (zin ui_J4) (.tail _ gw_1_68) (by decide +kernel) (by decide +kernel)) <|
    zall_c (zs_ishl X (pc := 11) (by decide +kernel)) <|
    zall_c (zs_istore_n X (pc := 12) (q := 3) rfl (by decide) (by decide +kernel)) <|
    zall_c (zs_iload_n X (pc := 13) (q := 3) rfl (by decide +kernel)) <|
    zall_c (zs_iload_n X (pc := 14) (q := 2) rfl (by decide +kernel)) <|
    zall_c (zs_isub X (pc := 15) (by decide +kernel)) <|
    zall_c (zs_istore X (pc := 16) (by decide) (by decide +kernel)) <|
    zall_c (zs_iload_n X (pc := 18) (q := 2) rfl (by decide +kernel)) <|
    zall_c (zs_iload X (pc := 19) (by decide +kernel)) <|
    zall_c (zs_iload_n X (pc := 21) (q := 2) rfl (by decide +kernel)) <|
    zall_c (zs_iconst X (pc := 22) (by decide) (by decide +kernel)) <|
    zall_c (zs_aload_n X (pc := 23) (q := 0) rfl (by decide +kernel)) <|
    zall_c (zs_geti X (pc := 24) zc_J4 (by decide) (zin ui_J4) (.tail _ gw_1_68) (by decide +kernel) (by decide +kernel)) <|
    zall_c (zs_ishl X (pc := 27) (by decide +kernel)) <|
    zall_c (zs_iadd X (pc := 28) (by decide +kernel)) <|
    zall_c (zs_callS0 X (pc := 29) (fun _ ht => ⟨(zCB ht gw_3_40 gw_1_13 gw_3_38 rfl rfl (by decide +kernel) ⟨Nat.le_of_ble_eq_true rfl, Nat.le_of_ble_eq_true rfl⟩), ht _ (.tail _ gw_3_39)⟩) h0 hout (by decide +kernel)) <|
    zall_c (zs_istore X (pc := 32) (by decide) (by decide +kernel)) <|
    zall_c (zs_iload X (pc := 34) (by decide +kernel)) <|
    zall_c (zs_ldci X (pc := 36) (i := 39) (by decide) (by decide +kernel) (.tail _ gw_3_12)) <|
    zall_c (zs_icmp_ne X (pc := 38) (off := 13) (by decide +kernel) (by decide)) <|
    zall_c (zs_no (pc := 41)) <|
    zall_c (zs_iload X (pc := 51) (by decide +kernel)) <|
    zall_c (zs_aload_n X (pc := 53) (q := 0) rfl (by decide +kernel)) <|
    zall_c (zs_geti X (pc := 54) zc_J4 (by decide) (zin ui_J4) (.tail _ gw_1_68) (by decide +kernel) (by decide +kernel)) <|
    zall_c (zs_ishr X (pc := 57) (by decide +kernel)) <|
    zall_c (zs_iret X (pc := 58) rfl (by decide +kernel)) <|
    zall_n
theorem met_J5_newCapacity_0f7a4 {l : Launch} (hl : l.stackTraces = false) {T0 : ZTf} (h0 : zMet l yJ8_newLength_cabcc (Cond.code yJ8_newLength_cabcc cJ8_newLength_cabcc 4 (Option.some Jvm.ClassFile.FieldType.int) :: zG) rm_J8_newLength_cabcc 0 0 T0) {T : ZTf} (bd : zBd (cd_J5_newCapacity_0f7a4 T0) 6 0 0 T) : zMet l yJ5_newCapacity_0f7a4 (Cond.code yJ5_newCapacity_0f7a4 cJ5_newCapacity_0f7a4 6 (Option.some Jvm.ClassFile.FieldType.int) :: zG) rm_J5_newCapacity_0f7a4 0 0 T := zMet_of hl (by decide +kernel) rfl rfl rfl rfl (hs_J5_newCapacity_0f7a4 hl h0) bd

abbrev rm_J5_inflateIfNeededFor_a7421 : Room := { frames := 2, cells := 0, slots := 0, locals := 50 }
def cd_J5_inflateIfNeededFor_a7421 (T0 : ZTf) : List (Nat × ZTr) := [(0, tC (zi 1) 3), (3, tIf_eq 21 6), (6, tAld 0 7), (7, tGetI 1 1 10), (10, tAld 1 11), (11, tCall0 1 T0 (zRcv 0) 14), (14, tIc_eq 21 17), (17, tNo), (21, tRv)]
set_option maxRecDepth 100000 in
set_option maxHeartbeats 4000000 in
theorem hs_J5_inflateIfNeededFor_a7421 {l : Launch} (hl : l.stackTraces = false) {T0 : ZTf} (h0 : zMet l yJ0_coder_7d493 (Cond.code yJ0_coder_7d493 cJ0_coder_7d493 1 (Option.some Jvm.ClassFile.FieldType.byte) :: zG) rm_J0_coder_7d493 0 0 T0) (p : Program) (e : Env) (s : State) (m : MethodId) (args : Array Value) (below : List Frame) (meth : Method) (c : Code) (D : va_G) (A : Nat → Prop) (a0 : Nat → Nat) (M0 : ZM) (K : ZRet) (KX : ZEx) (X : zCtx p l rm_J5_inflateIfNeededFor_a7421 s m args meth c cJ5_inflateIfNeededFor_a7421 RJ5 (Cond.code yJ5_inflateIfNeededFor_a7421 cJ5_inflateIfNeededFor_a7421 2 (Option.none : Option Jvm.ClassFile.FieldType) :: zG) 2 (Option.none : Option Jvm.ClassFile.FieldType) D A a0 M0 0 0) (hnm : meth.name = yJ5_inflateIfNeededFor_a7421.name) (hout : ∀ x ∈ c.exceptionTable.toList, False) : ∀ q ∈ cd_J5_inflateIfNeededFor_a7421 T0, zSd p l e rm_J5_inflateIfNeededFor_a7421 s m args below meth c 2 D A a0 M0 K KX 0 0 q.1 q.2 :=
    zall_c (zs_gets X (pc := 0) (C := "java/lang/String") (n1 := "COMPACT_STRINGS") (d1 := "Z") (List.mem_of_getElem? (i := 12) rfl) (.tail _ gw_1_58) (by decide +kernel)) <|
    zall_c (zs_if_eq X (pc := 3) (off := 18) (by decide +kernel) (by decide)) <|
    zall_c (zs_aload_n X (pc := 6) (q := 0) rfl (by decide +kernel)) <|
    zall_c (zs_geti X (pc := 7) zc_J4 (by decide) (zin ui_J4) (.tail _ gw_1_68) (by decide +kernel) (by decide +kernel)) <|
    zall_c (zs_aload_n X (pc := 10) (q := 1) rfl (by decide +kernel)) <|
    zall_c (zs_callV0 X (pc := 11) zc_J0 (fun _ ht => ⟨(zCB ht gw_3_9 gw_1_6 gw_3_13 rfl rfl (by decide +kernel) ⟨Nat.le_of_ble_eq_true rfl, Nat.le_of_ble_eq_true rfl⟩), ht _ (.tail _ gw_3_7), ht _ (.tail _ gw_3_8)⟩) h0 hout (by decide +kernel)) <|
    zall_c (zs_icmp_eq X (pc := 14) (off := 7) (by decide +kernel) (by decide)) <|
    zall_c (zs_no (pc := 17)) <|
    zall_c (zs_vret X (pc := 21) rfl (by decide +kernel)) <|
    zall_n
theorem met_J5_inflateIfNeededFor_a7421 {l : Launch} (hl : l.stackTraces = false) {T0 : ZTf} (h0 : zMet l yJ0_coder_7d493 (Cond.code yJ0_coder_7d493 cJ0_coder_7d493 1 (Option.some Jvm.ClassFile.FieldType.byte) :: zG) rm_J0_coder_7d493 0 0 T0) {T : ZTf} (bd : zBd (cd_J5_inflateIfNeededFor_a7421 T0) 2 0 0 T) : zMet l yJ5_inflateIfNeededFor_a7421 (Cond.code yJ5_inflateIfNeededFor_a7421 cJ5_inflateIfNeededFor_a7421 2 (Option.none : Option Jvm.ClassFile.FieldType) :: zG) rm_J5_inflateIfNeededFor_a7421 0 0 T := zMet_of hl (by decide +kernel) rfl rfl rfl rfl (hs_J5_inflateIfNeededFor_a7421 hl h0) bd

abbrev rm_J0_length_8abf5 : Room := { frames := 2, cells := 0, slots := 0, locals := 50 }
def cd_J0_length_8abf5 (T0 : ZTf) : List (Nat × ZTr) := [(0, tAld 0 1), (1, tGsV 4), (4, tLen 5), (5, tAld 0 6), (6, tCall0 1 T0 (zRcv 0) 9), (9, tBif zshr 10), (10, tRi (fun _ => True))]
set_option maxRecDepth 100000 in
set_option maxHeartbeats 4000000 in
theorem hs_J0_length_8abf5 {l : Launch} (hl : l.stackTraces = false) {T0 : ZTf} (h0 : zMet l yJ0_coder_7d493 (Cond.code yJ0_coder_7d493 cJ0_coder_7d493 1 (Option.some Jvm.ClassFile.FieldType.byte) :: zG) rm_J0_coder_7d493 0 0 T0) (p : Program) (e : Env) (s : State) (m : MethodId) (args : Array Value) (below : List Frame) (meth : Method) (c : Code) (D : va_G) (A : Nat → Prop) (a0 : Nat → Nat) (M0 : ZM) (K : ZRet) (KX : ZEx) (X : zCtx p l rm_J0_length_8abf5 s m args meth c cJ0_length_8abf5 RJ0 (Cond.code yJ0_length_8abf5 cJ0_length_8abf5 1 (Option.some Jvm.ClassFile.FieldType.int) :: zG) 1 (Option.some Jvm.ClassFile.FieldType.int) D A a0 M0 0 0) (hnm : meth.name = yJ0_length_8abf5.name) (hout : ∀ x ∈ c.exceptionTable.toList, False) : ∀ q ∈ cd_J0_length_8abf5 T0, zSd p l e rm_J0_length_8abf5 s m args below meth c 1 D A a0 M0 K KX 0 0 q.1 q.2 :=
    zall_c (zs_aload_n X (pc := 0) (q := 0) rfl (by decide +kernel)) <|
    zall_c (zs_gsv X (pc := 1) (zin ui_J0) (.tail _ gw_3_236) (by decide +kernel)) <|
    zall_c (zs_len X (pc := 4) (by decide +kernel)) <|
    zall_c (zs_aload_n X (pc := 5) (q := 0) rfl (by decide +kernel)) <|
    zall_c (zs_callV0 X (pc := 6) zc_J0 (fun _ ht => ⟨(zCB ht gw_3_9 gw_1_6 gw_3_6 rfl rfl (by decide +kernel) ⟨Nat.le_of_ble_eq_true rfl, Nat.le_of_ble_eq_true rfl⟩), ht _ (.tail _ gw_3_7), ht _ (.tail _ gw_3_8)⟩) h0 hout (by decide +kernel)) <|
    zall_c (zs_ishr X (pc := 9) (by decide +kernel)) <|
    zall_c (zs_iret X (pc := 10) rfl (by decide +kernel)) <|
    zall_n
theorem met_J0_length_8abf5 {l : Launch} (hl : l.stackTraces = false) {T0 : ZTf} (h0 : zMet l yJ0_coder_7d493 (Cond.code yJ0_coder_7d493 cJ0_coder_7d493 1 (Option.some Jvm.ClassFile.FieldType.byte) :: zG) rm_J0_coder_7d493 0 0 T0) {T : ZTf} (bd : zBd (cd_J0_length_8abf5 T0) 1 0 0 T) : zMet l yJ0_length_8abf5 (Cond.code yJ0_length_8abf5 cJ0_length_8abf5 1 (Option.some Jvm.ClassFile.FieldType.int) :: zG) rm_J0_length_8abf5 0 0 T := zMet_of hl (by decide +kernel) rfl rfl rfl rfl (hs_J0_length_8abf5 hl h0) bd

abbrev rm_J0_getBytes_840e7 : Room := { frames := 2, cells := 0, slots := 0, locals := 60 }
def cd_J0_getBytes_840e7 (T0 : ZTf) : List (Nat × ZTr) := [(0, tAld 0 1), (1, tCall0 1 T0 (zRcv 0) 4), (4, tIld 3 5), (5, tIc_ne 28 8), (8, tAld 0 9), (9, tGsV 12), (12, tC (zi 0) 13), (13, tAld 1 14), (14, tIld 2 15), (15, tIld 3 16), (16, tBif zshl 17), (17, tAld 0 18), (18, tGsV 21), (21, tLen 22), (22, tCpy 21 zPb 25), (25, tGo 43), (28, tNo), (43, tRv)]
set_option maxRecDepth 100000 in
set_option maxHeartbeats 4000000 in
theorem hs_J0_getBytes_840e7 {l : Launch} (hl : l.stackTraces = false) {T0 : ZTf} (h0 : zMet l yJ0_coder_7d493 (Cond.code yJ0_coder_7d493 cJ0_coder_7d493 1 (Option.some Jvm.ClassFile.FieldType.byte) :: zG) rm_J0_coder_7d493 0 0 T0) (p : Program) (e : Env) (s : State) (m : MethodId) (args : Array Value) (below : List Frame) (meth : Method) (c : Code) (D : va_G) (A : Nat → Prop) (a0 : Nat → Nat) (M0 : ZM) (K : ZRet) (KX : ZEx) (X : zCtx p l rm_J0_getBytes_840e7 s m args meth c cJ0_getBytes_840e7 RJ0 (Cond.code yJ0_getBytes_840e7 cJ0_getBytes_840e7 4 (Option.none : Option Jvm.ClassFile.FieldType) :: zG) 4 (Option.none : Option Jvm.ClassFile.FieldType) D A a0 M0 0 0) (hnm : meth.name = yJ0_getBytes_840e7.name) (hout : ∀ x ∈ c.exceptionTable.toList, False) : ∀ q ∈ cd_J0_getBytes_840e7 T0, zSd p l e rm_J0_getBytes_840e7 s m args below meth c 4 D A a0 M0 K KX 0 0 q.1 q.2 :=
    zall_c (zs_aload_n X (pc := 0) (q := 0) rfl (by decide +kernel)) <|
    zall_c (zs_callV0 X (pc := 1) zc_J0 (fun _ ht => ⟨(zCB ht gw_3_9 gw_1_6 gw_3_6 rfl rfl (by decide +kernel) ⟨Nat.le_of_ble_eq_true rfl, Nat.le_of_ble_eq_true rfl⟩), ht _ (.tail _ gw_3_7), ht _ (.tail _ gw_3_8)⟩) h0 hout (by decide +kernel)) <|
    zall_c (zs_iload_n X (pc := 4) (q := 3) rfl (by decide +kernel)) <|
    zall_c (zs_icmp_ne X (pc := 5) (off := 23) (by decide +kernel) (by decide)) <|
    zall_c (zs_aload_n X (pc := 8) (q := 0) rfl (by decide +kernel)) <|
    zall_c (zs_gsv X (pc := 9) (zin ui_J0) (.tail _ gw_3_236) (by decide +kernel)) <|
    zall_c (zs_iconst X (pc := 12) (by decide) (by decide +kernel)) <|
    zall_c (zs_aload_n X (pc := 13) (q := 1) rfl (by decide +kernel)) <|
    zall_c (zs_iload_n X (pc := 14) (q := 2) rfl (by decide +kernel)) <|
    zall_c (zs_iload_n X (pc := 15) (q := 3) rfl (by decide +kernel)) <|
    zall_c (zs_ishl X (pc := 16) (by decide +kernel)) <|
    zall_c (zs_aload_n X (pc := 17) (q := 0) rfl (by decide +kernel)) <|
    zall_c (zs_gsv X (pc := 18) (zin ui_J0) (.tail _ gw_3_236) (by decide +kernel)) <|
    zall_c (zs_len X (pc := 21) (by decide +kernel)) <|
    zall_c (zs_copy21 X (pc := 22) (.tail _ gw_3_126) (.tail _ gw_3_63) (.tail _ gw_3_62) (.tail _ gw_1_16) (Nat.le_of_ble_eq_true rfl) (by show 8 + (nativeFrameWords "java/lang/System" "arraycopy" 5 + 11) ≤ 60; decide +kernel) (by decide +kernel)) <|
    zall_c (zs_goto X (pc := 25) (off := 18) (by decide +kernel) (by decide)) <|
    zall_c (zs_no (pc := 28)) <|
    zall_c (zs_vret X (pc := 43) rfl (by decide +kernel)) <|
    zall_n
theorem met_J0_getBytes_840e7 {l : Launch} (hl : l.stackTraces = false) {T0 : ZTf} (h0 : zMet l yJ0_coder_7d493 (Cond.code yJ0_coder_7d493 cJ0_coder_7d493 1 (Option.some Jvm.ClassFile.FieldType.byte) :: zG) rm_J0_coder_7d493 0 0 T0) {T : ZTf} (bd : zBd (cd_J0_getBytes_840e7 T0) 4 0 0 T) : zMet l yJ0_getBytes_840e7 (Cond.code yJ0_getBytes_840e7 cJ0_getBytes_840e7 4 (Option.none : Option Jvm.ClassFile.FieldType) :: zG) rm_J0_getBytes_840e7 0 0 T := zMet_of hl (by decide +kernel) rfl rfl rfl rfl (hs_J0_getBytes_840e7 hl h0) bd

abbrev rm_J0_checkIndex_df160 : Room := { frames := 2, cells := 0, slots := 0, locals := 52 }
def cd_J0_checkIndex_df160 (T0 : ZTf) : List (Nat × ZTr) := [(0, tIld 0 1), (1, tIld 1 2), (2, tSio 5), (5, tCall0 3 T0 zAny 8), (8, tPop 9), (9, tRv)]
set_option maxRecDepth 100000 in
set_option maxHeartbeats 4000000 in
theorem hs_J0_checkIndex_df160 {l : Launch} (hl : l.stackTraces = false) {T0 : ZTf} (h0 : zMet l yJ3_checkIndex_8e157 (Cond.code yJ3_checkIndex_8e157 cJ3_checkIndex_8e157 3 (Option.some Jvm.ClassFile.FieldType.int) :: zG) rm_J3_checkIndex_8e157 0 0 T0) (p : Program) (e : Env) (s : State) (m : MethodId) (args : Array Value) (below : List Frame) (meth : Method) (c : Code) (D : va_G) (A : Nat → Prop) (a0 : Nat → Nat) (M0 : ZM) (K : ZRet) (KX : ZEx) (X : zCtx p l rm_J0_checkIndex_df160 s m args meth c cJ0_checkIndex_df160 RJ0 (Cond.code yJ0_checkIndex_df160 cJ0_checkIndex_df160 2 (Option.none : Option Jvm.ClassFile.FieldType) :: zG) 2 (Option.none : Option Jvm.ClassFile.FieldType) D A a0 M0 0 0) (hnm : meth.name = yJ0_checkIndex_df160.name) (hout : ∀ x ∈ c.exceptionTable.toList, False) : ∀ q ∈ cd_J0_checkIndex_df160 T0, zSd p l e rm_J0_checkIndex_df160 s m args below meth c 2 D A a0 M0 K KX 0 0 q.1 q.2 :=
    zall_c (zs_iload_n X (pc := 0) (q := 0) rfl (by decide +kernel)) <|
    zall_c (zs_iload_n X (pc := 1) (q := 1) rfl (by decide +kernel)) <|
    zall_c (zs_sio X (pc := 2) (.tail _ gw_3_81) (by decide +kernel)) <|
    zall_c (zs_callS0 X (pc := 5) (fun _ ht => ⟨(zCB ht gw_3_179 gw_1_17 gw_3_177 rfl rfl (by decide +kernel) ⟨Nat.le_of_ble_eq_true rfl, Nat.le_of_ble_eq_true rfl⟩), ht _ (.tail _ gw_3_178)⟩) h0 hout (by decide +kernel)) <|
    zall_c (zs_pop X (pc := 8) (by decide +kernel)) <|
    zall_c (zs_vret X (pc := 9) rfl (by decide +kernel)) <|
    zall_n
theorem met_J0_checkIndex_df160 {l : Launch} (hl : l.stackTraces = false) {T0 : ZTf} (h0 : zMet l yJ3_checkIndex_8e157 (Cond.code yJ3_checkIndex_8e157 cJ3_checkIndex_8e157 3 (Option.some Jvm.ClassFile.FieldType.int) :: zG) rm_J3_checkIndex_8e157 0 0 T0) {T : ZTf} (bd : zBd (cd_J0_checkIndex_df160 T0) 2 0 0 T) : zMet l yJ0_checkIndex_df160 (Cond.code yJ0_checkIndex_df160 cJ0_checkIndex_df160 2 (Option.none : Option Jvm.ClassFile.FieldType) :: zG) rm_J0_checkIndex_df160 0 0 T := zMet_of hl (by decide +kernel) rfl rfl rfl rfl (hs_J0_checkIndex_df160 hl h0) bd

abbrev rm_J1_charAt_3b067 : Room := { frames := 3, cells := 0, slots := 0, locals := 73 }
def cd_J1_charAt_3b067 (T0 : ZTf) : List (Nat × ZTr) := [(0, tIld 1 1), (1, tAld 0 2), (2, tLen 3), (3, tCall0 2 T0 zAny 6), (6, tAld 0 7), (7, tIld 1 8), (8, tIal 21 9), (9, tC (zi 255) 12), (12, tBif zand 13), (13, tUn zi2c 14), (14, tRi zPq)]
set_option maxRecDepth 100000 in
set_option maxHeartbeats 4000000 in
theorem hs_J1_charAt_3b067 {l : Launch} (hl : l.stackTraces = false) {T0 : ZTf} (h0 : zMet l yJ0_checkIndex_df160 (Cond.code yJ0_checkIndex_df160 cJ0_checkIndex_df160 2 (Option.none : Option Jvm.ClassFile.FieldType) :: zG) rm_J0_checkIndex_df160 0 0 T0) (p : Program) (e : Env) (s : State) (m : MethodId) (args : Array Value) (below : List Frame) (meth : Method) (c : Code) (D : va_G) (A : Nat → Prop) (a0 : Nat → Nat) (M0 : ZM) (K : ZRet) (KX : ZEx) (X : zCtx p l rm_J1_charAt_3b067 s m args meth c cJ1_charAt_3b067 RJ1 (Cond.code yJ1_charAt_3b067 cJ1_charAt_3b067 2 (Option.some Jvm.ClassFile.FieldType.char) :: zG) 2 (Option.some Jvm.ClassFile.FieldType.char) D A a0 M0 0 0) (hnm : meth.name = yJ1_charAt_3b067.name) (hout : ∀ x ∈ c.exceptionTable.toList, False) : ∀ q ∈ cd_J1_charAt_3b067 T0, zSd p l e rm_J1_charAt_3b067 s m args below meth c 2 D A a0 M0 K KX 0 0 q.1 q.2 :=
    zall_c (zs_iload_n X (pc := 0) (q := 1) rfl (by decide +kernel)) <|
    zall_c (zs_aload_n X (pc := 1) (q := 0) rfl (by decide +kernel)) <|
    zall_c (zs_len X (pc := 2) (by decide +kernel)) <|
    zall_c (zs_callS0 X (pc := 3) (fun _ ht => ⟨(zCB ht gw_3_176 gw_1_6 gw_4_25 rfl rfl (by decide +kernel) ⟨Nat.le_of_ble_eq_true rfl, Nat.le_of_ble_eq_true rfl⟩), ht _ (.tail _ gw_3_175)⟩) h0 hout (by decide +kernel)) <|
    zall_c (zs_aload_n X (pc := 6) (q := 0) rfl (by decide +kernel)) <|
    zall_c (zs_iload_n X (pc := 7) (q := 1) rfl (by decide +kernel)) <|
    zall_c (zs_baload21 X (pc := 8) (by decide +kernel)) <|
    zall_c (zs_sipush X (pc := 9) (by decide) (by decide +kernel) (by decide +kernel)) <|
    zall_c (zs_iand X (pc := 12) (by decide +kernel)) <|
    zall_c (zs_i2c X (pc := 13) (by decide +kernel)) <|
    zall_c (zs_zret X (pc := 14) rfl zR_char (by decide +kernel)) <|
    zall_n
theorem met_J1_charAt_3b067 {l : Launch} (hl : l.stackTraces = false) {T0 : ZTf} (h0 : zMet l yJ0_checkIndex_df160 (Cond.code yJ0_checkIndex_df160 cJ0_checkIndex_df160 2 (Option.none : Option Jvm.ClassFile.FieldType) :: zG) rm_J0_checkIndex_df160 0 0 T0) {T : ZTf} (bd : zBd (cd_J1_charAt_3b067 T0) 2 0 0 T) : zMet l yJ1_charAt_3b067 (Cond.code yJ1_charAt_3b067 cJ1_charAt_3b067 2 (Option.some Jvm.ClassFile.FieldType.char) :: zG) rm_J1_charAt_3b067 0 0 T := zMet_of hl (by decide +kernel) rfl rfl rfl rfl (hs_J1_charAt_3b067 hl h0) bd

abbrev rm_J2_checkIndex_2214a : Room := { frames := 3, cells := 0, slots := 0, locals := 73 }
def cd_J2_checkIndex_2214a (T0 : ZTf) (T1 : ZTf) : List (Nat × ZTr) := [(0, tIld 0 1), (1, tAld 1 2), (2, tCall0 1 T0 zAny 5), (5, tCall0 2 T1 zAny 8), (8, tRv)]
set_option maxRecDepth 100000 in
set_option maxHeartbeats 4000000 in
theorem hs_J2_checkIndex_2214a {l : Launch} (hl : l.stackTraces = false) {T0 : ZTf} {T1 : ZTf} (h0 : zMet l yJ2_length_9d52b (Cond.code yJ2_length_9d52b cJ2_length_9d52b 1 (Option.some Jvm.ClassFile.FieldType.int) :: zG) rm_J2_length_9d52b 0 0 T0) (h1 : zMet l yJ0_checkIndex_df160 (Cond.code yJ0_checkIndex_df160 cJ0_checkIndex_df160 2 (Option.none : Option Jvm.ClassFile.FieldType) :: zG) rm_J0_checkIndex_df160 0 0 T1) (p : Program) (e : Env) (s : State) (m : MethodId) (args : Array Value) (below : List Frame) (meth : Method) (c : Code) (D : va_G) (A : Nat → Prop) (a0 : Nat → Nat) (M0 : ZM) (K : ZRet) (KX : ZEx) (X : zCtx p l rm_J2_checkIndex_2214a s m args meth c cJ2_checkIndex_2214a RJ2 (Cond.code yJ2_checkIndex_2214a cJ2_checkIndex_2214a 2 (Option.none : Option Jvm.ClassFile.FieldType) :: zG) 2 (Option.none : Option Jvm.ClassFile.FieldType) D A a0 M0 0 0) (hnm : meth.name = yJ2_checkIndex_2214a.name) (hout : ∀ x ∈ c.exceptionTable.toList, False) : ∀ q ∈ cd_J2_checkIndex_2214a T0 T1, zSd p l e rm_J2_checkIndex_2214a s m args below meth c 2 D A a0 M0 K KX 0 0 q.1 q.2 :=
    zall_c (zs_iload_n X (pc := 0) (q := 0) rfl (by decide +kernel)) <|
    zall_c (zs_aload_n X (pc := 1) (q := 1) rfl (by decide +kernel)) <|
    zall_c (zs_callS0 X (pc := 2) (fun _ ht => ⟨(zCB ht gw_3_77 gw_1_7 gw_3_75 rfl rfl (by decide +kernel) ⟨Nat.le_of_ble_eq_true rfl, Nat.le_of_ble_eq_true rfl⟩), ht _ (.tail _ gw_3_76)⟩) h0 hout (by decide +kernel)) <|
    zall_c (zs_callS0 X (pc := 5) (fun _ ht => ⟨(zCB ht gw_3_176 gw_1_6 gw_3_174 rfl rfl (by decide +kernel) ⟨Nat.le_of_ble_eq_true rfl, Nat.le_of_ble_eq_true rfl⟩), ht _ (.tail _ gw_3_175)⟩) h1 hout (by decide +kernel)) <|
    zall_c (zs_vret X (pc := 8) rfl (by decide +kernel)) <|
    zall_n
theorem met_J2_checkIndex_2214a {l : Launch} (hl : l.stackTraces = false) {T0 : ZTf} {T1 : ZTf} (h0 : zMet l yJ2_length_9d52b (Cond.code yJ2_length_9d52b cJ2_length_9d52b 1 (Option.some Jvm.ClassFile.FieldType.int) :: zG) rm_J2_length_9d52b 0 0 T0) (h1 : zMet l yJ0_checkIndex_df160 (Cond.code yJ0_checkIndex_df160 cJ0_checkIndex_df160 2 (Option.none : Option Jvm.ClassFile.FieldType) :: zG) rm_J0_checkIndex_df160 0 0 T1) {T : ZTf} (bd : zBd (cd_J2_checkIndex_2214a T0 T1) 2 0 0 T) : zMet l yJ2_checkIndex_2214a (Cond.code yJ2_checkIndex_2214a cJ2_checkIndex_2214a 2 (Option.none : Option Jvm.ClassFile.FieldType) :: zG) rm_J2_checkIndex_2214a 0 0 T := zMet_of hl (by decide +kernel) rfl rfl rfl rfl (hs_J2_checkIndex_2214a hl h0 h1) bd

abbrev rm_J7_copyOfRange_39247 : Room := { frames := 3, cells := 1, slots := 6, locals := 84 }
def cd_J7_copyOfRange_39247 (T0 : ZTf) : List (Nat × ZTr) := [(0, tIld 1 1), (1, tIf_ne 10 4), (4, tIld 2 5), (5, tAld 0 6), (6, tLen 7), (7, tIc_eq 17 10), (10, tAld 0 11), (11, tIld 1 12), (12, tIld 2 13), (13, tCall 3 1 6 T0 zAny 16), (16, tRa), (17, tNo)]
set_option maxRecDepth 100000 in
set_option maxHeartbeats 4000000 in
theorem hs_J7_copyOfRange_39247 {l : Launch} (hl : l.stackTraces = false) {T0 : ZTf} (h0 : zMet l yJ7_copyOfRangeByte_39247 (Cond.code yJ7_copyOfRangeByte_39247 cJ7_copyOfRangeByte_39247 5 (Option.some (Jvm.ClassFile.FieldType.array Jvm.ClassFile.FieldType.byte)) :: zG) rm_J7_copyOfRangeByte_39247 1 6 T0) (p : Program) (e : Env) (s : State) (m : MethodId) (args : Array Value) (below : List Frame) (meth : Method) (c : Code) (D : va_G) (A : Nat → Prop) (a0 : Nat → Nat) (M0 : ZM) (K : ZRet) (KX : ZEx) (X : zCtx p l rm_J7_copyOfRange_39247 s m args meth c cJ7_copyOfRange_39247 RJ7 (Cond.code yJ7_copyOfRange_39247 cJ7_copyOfRange_39247 3 (Option.some (Jvm.ClassFile.FieldType.array Jvm.ClassFile.FieldType.byte)) :: zG) 3 (Option.some (Jvm.ClassFile.FieldType.array Jvm.ClassFile.FieldType.byte)) D A a0 M0 1 6) (hnm : meth.name = yJ7_copyOfRange_39247.name) (hout : ∀ x ∈ c.exceptionTable.toList, False) : ∀ q ∈ cd_J7_copyOfRange_39247 T0, zSd p l e rm_J7_copyOfRange_39247 s m args below meth c 3 D A a0 M0 K KX 1 6 q.1 q.2 :=
    zall_c (zs_iload_n X (pc := 0) (q := 1) rfl (by decide +kernel)) <|
    zall_c (zs_if_ne X (pc := 1) (off := 9) (by decide +kernel) (by decide)) <|
    zall_c (zs_iload_n X (pc := 4) (q := 2) rfl (by decide +kernel)) <|
    zall_c (zs_aload_n X (pc := 5) (q := 0) rfl (by decide +kernel)) <|
    zall_c (zs_len X (pc := 6) (by decide +kernel)) <|
    zall_c (zs_icmp_eq X (pc := 7) (off := 10) (by decide +kernel) (by decide)) <|
    zall_c (zs_aload_n X (pc := 10) (q := 0) rfl (by decide +kernel)) <|
    zall_c (zs_iload_n X (pc := 11) (q := 1) rfl (by decide +kernel)) <|
    zall_c (zs_iload_n X (pc := 12) (q := 2) rfl (by decide +kernel)) <|
    zall_c (zs_callS X (pc := 13) (fun _ ht => ⟨(zCB ht gw_3_219 gw_1_15 gw_3_217 rfl rfl (by decide +kernel) ⟨Nat.le_of_ble_eq_true rfl, Nat.le_of_ble_eq_true rfl⟩), ht _ (.tail _ gw_3_218)⟩) h0 hout (by decide +kernel)) <|
    zall_c (zs_aret X (pc := 16) rfl (Or.inr ⟨_, rfl⟩) (by decide +kernel)) <|
    zall_c (zs_no (pc := 17)) <|
    zall_n
theorem met_J7_copyOfRange_39247 {l : Launch} (hl : l.stackTraces = false) {T0 : ZTf} (h0 : zMet l yJ7_copyOfRangeByte_39247 (Cond.code yJ7_copyOfRangeByte_39247 cJ7_copyOfRangeByte_39247 5 (Option.some (Jvm.ClassFile.FieldType.array Jvm.ClassFile.FieldType.byte)) :: zG) rm_J7_copyOfRangeByte_39247 1 6 T0) {T : ZTf} (bd : zBd (cd_J7_copyOfRange_39247 T0) 3 1 6 T) : zMet l yJ7_copyOfRange_39247 (Cond.code yJ7_copyOfRange_39247 cJ7_copyOfRange_39247 3 (Option.some (Jvm.ClassFile.FieldType.array Jvm.ClassFile.FieldType.byte)) :: zG) rm_J7_copyOfRange_39247 1 6 T := zMet_of hl (by decide +kernel) rfl rfl rfl rfl (hs_J7_copyOfRange_39247 hl h0) bd

abbrev rm_X0_init : Room := { frames := 3, cells := 355, slots := 3774, locals := 71 }
def cd_X0_init (T0 : ZTf) : List (Nat × ZTr) := [(0, tAld 0 1), (1, tObj 4), (4, tAld 0 5), (5, tC (zi 0) 6), (6, tPutI 4 0 (fun _ => True) 9), (9, tAld 0 10), (10, tC (zi 0) 11), (11, tPutI 4 1 (fun _ => True) 14), (14, tAld 0 15), (15, tC (zi 6) 17), (17, tNewA 32 20), (20, tPutR 4 2 23), (23, tC (zi 0) 24), (24, tIst 1 25), (25, tIld 1 26), (26, tC (zi 6) 28), (28, tIc_ge 50 31), (31, tAld 0 32), (32, tGetR 4 2 35), (35, tIld 1 36), (36, tNew 8 10 39), (39, tDup 40), (40, tCall 1 58 618 (zNt T0) (zRcv 8) 43), (43, tAas 32 8 44), (44, tInc 1 1 47), (47, tGo 25), (50, tRv)]
set_option maxRecDepth 100000 in
set_option maxHeartbeats 4000000 in
theorem hs_X0_init {l : Launch} (hl : l.stackTraces = false) {T0 : ZTf} (h0 : zMet l yX5_init (Cond.code yX5_init cX5_init 2 (Option.none : Option Jvm.ClassFile.FieldType) :: zG) rm_X5_init 58 618 T0) (p : Program) (e : Env) (s : State) (m : MethodId) (args : Array Value) (below : List Frame) (meth : Method) (c : Code) (D : va_G) (A : Nat → Prop) (a0 : Nat → Nat) (M0 : ZM) (K : ZRet) (KX : ZEx) (X : zCtx p l rm_X0_init s m args meth c cX0_init RX0 (Cond.code yX0_init cX0_init 2 (Option.none : Option Jvm.ClassFile.FieldType) :: zG) 2 (Option.none : Option Jvm.ClassFile.FieldType) D A a0 M0 355 3774) (hnm : meth.name = yX0_init.name) (hout : ∀ x ∈ c.exceptionTable.toList, False) : ∀ q ∈ cd_X0_init T0, zSd p l e rm_X0_init s m args below meth c 2 D A a0 M0 K KX 355 3774 q.1 q.2 :=
    zall_c (zs_aload_n X (pc := 0) (q := 0) rfl (by decide +kernel)) <|
    zall_c (zs_objinit X (pc := 1) (.tail _ gw_2_62) (.tail _ gw_1_35) (.tail _ gw_1_36) (by decide) (by decide) (by decide +kernel)) <|
    zall_c (zs_aload_n X (pc := 4) (q := 0) rfl (by decide +kernel)) <|
    zall_c (zs_iconst X (pc := 5) (by decide) (by decide +kernel)) <|
    zall_c (zs_puti X (pc := 6) (ty := Jvm.ClassFile.FieldType.int) zc_X0 (by decide) (zin ui_X0) tyX0_ok nmX0 (.tail _ gw_2_66) rfl (by decide +kernel) (by decide +kernel) (by decide +kernel) zP_int) <|
    zall_c (zs_aload_n X (pc := 9) (q := 0) rfl (by decide +kernel)) <|
    zall_c (zs_iconst X (pc := 10) (by decide) (by decide +kernel)) <|
    zall_c (zs_puti X (pc := 11) (ty := Jvm.ClassFile.FieldType.int) zc_X0 (by decide) (zin ui_X0) tyX0_ok nmX0 (.tail _ gw_2_67) rfl (by decide +kernel) (by decide +kernel) (by decide +kernel) zP_int) <|
    zall_c (zs_aload_n X (pc := 14) (q := 0) rfl (by decide +kernel)) <|
    zall_c (zs_bipush X (pc := 15) (by decide) (by decide +kernel) (by decide +kernel)) <|
    zall_c (zs_anewarray X (pc := 17) (C := "ReviewTable$Table") (by decide) rfl (.tail _ gw_2_63) (by decide +kernel) (by decide +kernel)) <|
    zall_c (zs_putrF X (pc := 20) (ty := (Jvm.ClassFile.FieldType.array (Jvm.ClassFile.FieldType.object "ReviewTable$Table"))) zc_X0 (by decide) (zin ui_X0) tyX0_ok nmX0 (.tail _ gw_2_68) rfl hnm rfl (by decide +kernel) (by decide +kernel) (by decide +kernel) zP_arr) <|
    zall_c (zs_iconst X (pc := 23) (by decide) (by decide +kernel)) <|
    zall_c (zs_istore_n X (pc := 24) (q := 1) rfl (by decide) (by decide +kernel)) <|
    zall_c (zs_iload_n X (pc := 25) (q := 1) rfl (by decide +kernel)) <|
    zall_c (zs_bipush X (pc := 26) (by decide) (by decide +kernel) (by decide +kernel)) <|
    zall_c (zs_icmp_ge X (pc := 28) (off := 22) (by decide +kernel) (by decide)) <|
    zall_c (zs_aload_n X (pc := 31) (q := 0) rfl (by decide +kernel)) <|
    zall_c (zs_getr X (pc := 32) zc_X0 (by decide) (zin ui_X0) (.tail _ gw_2_68) (by decide +kernel) (by decide +kernel)) <|
    zall_c (zs_iload_n X (pc := 35) (q := 1) rfl (by decide +kernel)) <|
    zall_c (zs_new X (pc := 36) zc_X5 (zin ui_X5) tyX5_ok (.tail _ gw_2_63) (.tail _ gw_1_97) (.tail _ gw_1_8) (by decide +kernel) (by decide +kernel)) <|
    zall_c (zs_dup X (pc := 39) (by decide +kernel)) <|
    zall_c (zs_callI X (pc := 40) (rt := none) (fun _ ht => ⟨(zCB ht gw_1_100 gw_1_8 gw_2_65 rfl rfl (by decide +kernel) ⟨Nat.le_of_ble_eq_true rfl, Nat.le_of_ble_eq_true rfl⟩), rfl, ht _ (.tail _ gw_1_99)⟩) h0 (by decide +kernel)) <|
    zall_c (zs_aastore X (pc := 43) (by decide) zc_X5 rfl (by decide +kernel)) <|
    zall_c (zs_iinc X (pc := 44) (by decide) (by decide +kernel)) <|
    zall_c (zs_goto X (pc := 47) (off := (-22)) (by decide +kernel) (by decide)) <|
    zall_c (zs_vret X (pc := 50) rfl (by decide +kernel)) <|
    zall_n
theorem met_X0_init {l : Launch} (hl : l.stackTraces = false) {T0 : ZTf} (h0 : zMet l yX5_init (Cond.code yX5_init cX5_init 2 (Option.none : Option Jvm.ClassFile.FieldType) :: zG) rm_X5_init 58 618 T0) {T : ZTf} (bd : zBd (cd_X0_init T0) 2 355 3774 T) : zMet l yX0_init (Cond.code yX0_init cX0_init 2 (Option.none : Option Jvm.ClassFile.FieldType) :: zG) rm_X0_init 355 3774 T := zMet_of hl (by decide +kernel) rfl rfl rfl rfl (hs_X0_init hl h0) bd

abbrev rm_X0_remember : Room := { frames := 3, cells := 0, slots := 0, locals := 103 }
def cd_X0_remember (T0 : ZTf) : List (Nat × ZTr) := [(0, tAld 0 1), (1, tGetR 4 2 4), (4, tAld 0 5), (5, tGetI 4 1 8), (8, tAal 32 9), (9, tAld 1 10), (10, tCall0 2 T0 (zRcv 8) 13), (13, tAld 0 14), (14, tAld 0 15), (15, tGetI 4 1 18), (18, tC (zi 1) 19), (19, tAdd 20), (20, tC (zi 6) 22), (22, tIc_ge 34 25), (25, tAld 0 26), (26, tGetI 4 1 29), (29, tC (zi 1) 30), (30, tAdd 31), (31, tGo 35), (34, tC (zi 0) 35), (35, tPutI 4 1 (fun _ => True) 38), (38, tAld 0 39), (39, tC (zi 6) 41), (41, tAld 0 42), (42, tGetI 4 0 45), (45, tC (zi 1) 46), (46, tAdd 47), (47, tMth2 zmin 50), (50, tPutI 4 0 (fun _ => True) 53), (53, tRv)]
set_option maxRecDepth 100000 in
set_option maxHeartbeats 4000000 in
theorem hs_X0_remember {l : Launch} (hl : l.stackTraces = false) {T0 : ZTf} (h0 : zMet l yX5_copyFrom (Cond.code yX5_copyFrom cX5_copyFrom 3 (Option.none : Option Jvm.ClassFile.FieldType) :: zG) rm_X5_copyFrom 0 0 T0) (p : Program) (e : Env) (s : State) (m : MethodId) (args : Array Value) (below : List Frame) (meth : Method) (c : Code) (D : va_G) (A : Nat → Prop) (a0 : Nat → Nat) (M0 : ZM) (K : ZRet) (KX : ZEx) (X : zCtx p l rm_X0_remember s m args meth c cX0_remember RX0 (Cond.code yX0_remember cX0_remember 2 (Option.none : Option Jvm.ClassFile.FieldType) :: zG) 2 (Option.none : Option Jvm.ClassFile.FieldType) D A a0 M0 0 0) (hnm : meth.name = yX0_remember.name) (hout : ∀ x ∈ c.exceptionTable.toList, False) : ∀ q ∈ cd_X0_remember T0, zSd p l e rm_X0_remember s m args below meth c 2 D A a0 M0 K KX 0 0 q.1 q.2 :=
    zall_c (zs_aload_n X (pc := 0) (q := 0) rfl (by decide +kernel)) <|
    zall_c (zs_getr X (pc := 1) zc_X0 (by decide) (zin ui_X0) (.tail _ gw_2_68) (by decide +kernel) (by decide +kernel)) <|
    zall_c (zs_aload_n X (pc := 4) (q := 0) rfl (by decide +kernel)) <|
    zall_c (zs_geti X (pc := 5) zc_X0 (by decide) (zin ui_X0) (.tail _ gw_2_67) (by decide +kernel) (by decide +kernel)) <|
    zall_c (zs_aaload X (pc := 8) (by decide) rfl (by decide +kernel)) <|
    zall_c (zs_aload_n X (pc := 9) (q := 1) rfl (by decide +kernel)) <|
    zall_c (zs_callV0 X (pc := 10) zc_X5 (fun _ ht => ⟨(zCB ht gw_5_1 gw_1_8 gw_4_238 rfl rfl (by decide +kernel) ⟨Nat.le_of_ble_eq_true rfl, Nat.le_of_ble_eq_true rfl⟩), ht _ (.tail _ gw_4_239), ht _ (.tail _ gw_5_0)⟩) h0 hout (by decide +kernel)) <|
    zall_c (zs_aload_n X (pc := 13) (q := 0) rfl (by decide +kernel)) <|
    zall_c (zs_aload_n X (pc := 14) (q := 0) rfl (by decide +kernel)) <|
    zall_c (zs_geti X (pc := 15) zc_X0 (by decide) (zin ui_X0) (.tail _ gw_2_67) (by decide +kernel) (by decide +kernel)) <|
    zall_c (zs_iconst X (pc := 18) (by decide) (by decide +kernel)) <|
    zall_c (zs_iadd X (pc := 19) (by decide +kernel)) <|
    zall_c (zs_bipush X (pc := 20) (by decide) (by decide +kernel) (by decide +kernel)) <|
    zall_c (zs_icmp_ge X (pc := 22) (off := 12) (by decide +kernel) (by decide)) <|
    zall_c (zs_aload_n X (pc := 25) (q := 0) rfl (by decide +kernel)) <|
    zall_c (zs_geti X (pc := 26) zc_X0 (by decide) (zin ui_X0) (.tail _ gw_2_67) (by decide +kernel) (by decide +kernel)) <|
    zall_c (zs_iconst X (pc := 29) (by decide) (by decide +kernel)) <|
    zall_c (zs_iadd X (pc := 30) (by decide +kernel)) <|
    zall_c (zs_goto X (pc := 31) (off := 4) (by decide +kernel) (by decide)) <|
    zall_c (zs_iconst X (pc := 34) (by decide) (by decide +kernel)) <|
    zall_c (zs_puti X (pc := 35) (ty := Jvm.ClassFile.FieldType.int) zc_X0 (by decide) (zin ui_X0) tyX0_ok nmX0 (.tail _ gw_2_67) rfl (by decide +kernel) (by decide +kernel) (by decide +kernel) zP_int) <|
    zall_c (zs_aload_n X (pc := 38) (q := 0) rfl (by decide +kernel)) <|
    zall_c (zs_bipush X (pc := 39) (by decide) (by decide +kernel) (by decide +kernel)) <|
    zall_c (zs_aload_n X (pc := 41) (q := 0) rfl (by decide +kernel)) <|
    zall_c (zs_geti X (pc := 42) zc_X0 (by decide) (zin ui_X0) (.tail _ gw_2_66) (by decide +kernel) (by decide +kernel)) <|
    zall_c (zs_iconst X (pc := 45) (by decide) (by decide +kernel)) <|
    zall_c (zs_iadd X (pc := 46) (by decide +kernel)) <|
    zall_c (zs_mmin X (pc := 47) (.tail _ gw_5_12) (.tail _ gw_3_59) (.tail _ gw_1_14) (.tail _ gw_3_60) (Nat.le_of_ble_eq_true rfl) (Nat.le_of_ble_eq_true rfl) (by decide +kernel)) <|
    zall_c (zs_puti X (pc := 50) (ty := Jvm.ClassFile.FieldType.int) zc_X0 (by decide) (zin ui_X0) tyX0_ok nmX0 (.tail _ gw_2_66) rfl (by decide +kernel) (by decide +kernel) (by decide +kernel) zP_int) <|
    zall_c (zs_vret X (pc := 53) rfl (by decide +kernel)) <|
    zall_n
theorem met_X0_remember {l : Launch} (hl : l.stackTraces = false) {T0 : ZTf} (h0 : zMet l yX5_copyFrom (Cond.code yX5_copyFrom cX5_copyFrom 3 (Option.none : Option Jvm.ClassFile.FieldType) :: zG) rm_X5_copyFrom 0 0 T0) {T : ZTf} (bd : zBd (cd_X0_remember T0) 2 0 0 T) : zMet l yX0_remember (Cond.code yX0_remember cX0_remember 2 (Option.none : Option Jvm.ClassFile.FieldType) :: zG) rm_X0_remember 0 0 T := zMet_of hl (by decide +kernel) rfl rfl rfl rfl (hs_X0_remember hl h0) bd

abbrev rm_X3_init : Room := { frames := 4, cells := 63, slots := 1151, locals := 91 }
def cd_X3_init (T0 : ZTf) (T1 : ZTf) : List (Nat × ZTr) := [(0, tAld 0 1), (1, tObj 4), (4, tAld 0 5), (5, tNew 5 3 8), (8, tDup 9), (9, tCall 1 3 520 (zNt T0) (zRcv 5) 12), (12, tPutR 6 2 15), (15, tAld 0 16), (16, tNew 8 10 19), (19, tDup 20), (20, tCall 1 58 618 (zNt T1) (zRcv 8) 23), (23, tPutR 6 3 26), (26, tRv)]
set_option maxRecDepth 100000 in
set_option maxHeartbeats 4000000 in
theorem hs_X3_init {l : Launch} (hl : l.stackTraces = false) {T0 : ZTf} {T1 : ZTf} (h0 : zMet l yX1_init (Cond.code yX1_init cX1_init 1 (Option.none : Option Jvm.ClassFile.FieldType) :: zG) rm_X1_init 3 520 T0) (h1 : zMet l yX5_init (Cond.code yX5_init cX5_init 2 (Option.none : Option Jvm.ClassFile.FieldType) :: zG) rm_X5_init 58 618 T1) (p : Program) (e : Env) (s : State) (m : MethodId) (args : Array Value) (below : List Frame) (meth : Method) (c : Code) (D : va_G) (A : Nat → Prop) (a0 : Nat → Nat) (M0 : ZM) (K : ZRet) (KX : ZEx) (X : zCtx p l rm_X3_init s m args meth c cX3_init RX3 (Cond.code yX3_init cX3_init 1 (Option.none : Option Jvm.ClassFile.FieldType) :: zG) 1 (Option.none : Option Jvm.ClassFile.FieldType) D A a0 M0 63 1151) (hnm : meth.name = yX3_init.name) (hout : ∀ x ∈ c.exceptionTable.toList, False) : ∀ q ∈ cd_X3_init T0 T1, zSd p l e rm_X3_init s m args below meth c 1 D A a0 M0 K KX 63 1151 q.1 q.2 :=
    zall_c (zs_aload_n X (pc := 0) (q := 0) rfl (by decide +kernel)) <|
    zall_c (zs_objinit X (pc := 1) (.tail _ gw_1_42) (.tail _ gw_1_35) (.tail _ gw_1_36) (by decide) (by decide) (by decide +kernel)) <|
    zall_c (zs_aload_n X (pc := 4) (q := 0) rfl (by decide +kernel)) <|
    zall_c (zs_new X (pc := 5) zc_X1 (zin ui_X1) tyX1_ok (.tail _ gw_1_43) (.tail _ gw_1_44) (.tail _ gw_1_3) (by decide +kernel) (by decide +kernel)) <|
    zall_c (zs_dup X (pc := 8) (by decide +kernel)) <|
    zall_c (zs_callIN X (pc := 9) (rt := none) (idx := 11) (host := "ReviewTable") (fun _ ht hxw => ⟨(zCN ht gw_1_47 gw_1_3 (by decide +kernel) hxw rfl rfl (by decide +kernel) ⟨Nat.le_of_ble_eq_true rfl, Nat.le_of_ble_eq_true rfl⟩), rfl, ht _ (.tail _ gw_1_46)⟩) h0 (by decide +kernel)) <|
    zall_c (zs_putrF X (pc := 12) (ty := (Jvm.ClassFile.FieldType.object "ReviewTable$Input")) zc_X3 (by decide) (zin ui_X3) tyX3_ok nmX3 (.tail _ gw_2_27) rfl hnm rfl (by decide +kernel) (by decide +kernel) (by decide +kernel) zP_obj) <|
    zall_c (zs_aload_n X (pc := 15) (q := 0) rfl (by decide +kernel)) <|
    zall_c (zs_new X (pc := 16) zc_X5 (zin ui_X5) tyX5_ok (.tail _ gw_1_96) (.tail _ gw_1_97) (.tail _ gw_1_8) (by decide +kernel) (by decide +kernel)) <|
    zall_c (zs_dup X (pc := 19) (by decide +kernel)) <|
    zall_c (zs_callI X (pc := 20) (rt := none) (fun _ ht => ⟨(zCB ht gw_1_100 gw_1_8 gw_1_98 rfl rfl (by decide +kernel) ⟨Nat.le_of_ble_eq_true rfl, Nat.le_of_ble_eq_true rfl⟩), rfl, ht _ (.tail _ gw_1_99)⟩) h1 (by decide +kernel)) <|
    zall_c (zs_putrF X (pc := 23) (ty := (Jvm.ClassFile.FieldType.object "ReviewTable$Table")) zc_X3 (by decide) (zin ui_X3) tyX3_ok nmX3 (.tail _ gw_2_29) rfl hnm rfl (by decide +kernel) (by decide +kernel) (by decide +kernel) zP_obj) <|
    zall_c (zs_vret X (pc := 26) rfl (by decide +kernel)) <|
    zall_n
theorem met_X3_init {l : Launch} (hl : l.stackTraces = false) {T0 : ZTf} {T1 : ZTf} (h0 : zMet l yX1_init (Cond.code yX1_init cX1_init 1 (Option.none : Option Jvm.ClassFile.FieldType) :: zG) rm_X1_init 3 520 T0) (h1 : zMet l yX5_init (Cond.code yX5_init cX5_init 2 (Option.none : Option Jvm.ClassFile.FieldType) :: zG) rm_X5_init 58 618 T1) {T : ZTf} (bd : zBd (cd_X3_init T0 T1) 1 63 1151 T) : zMet l yX3_init (Cond.code yX3_init cX3_init 1 (Option.none : Option Jvm.ClassFile.FieldType) :: zG) rm_X3_init 63 1151 T := zMet_of hl (by decide +kernel) rfl rfl rfl rfl (hs_X3_init hl h0 h1) bd

abbrev rm_X3_readNumber : Room := { frames := 3, cells := 0, slots := 0, locals := 73 }
def cd_X3_readNumber (T0 : ZTf) (T1 : ZTf) : List (Nat × ZTr) := [(0, tAld 0 1), (1, tIld 1 2), (2, tIld 2 3), (3, tCall0 3 T0 (zRcv 6) 6), (6, tIf_ne 11 9), (9, tC (zi 0) 10), (10, tRi zPz), (11, tAld 0 12), (12, tAld 0 13), (13, tGetI 6 7 16), (16, tPutI 6 8 (fun _ => True) 19), (19, tAld 0 20), (20, tCall0 1 T1 (zRcv 6) 23), (23, tC (zi 1) 24), (24, tRi zPz)]
set_option maxRecDepth 100000 in
set_option maxHeartbeats 4000000 in
theorem hs_X3_readNumber {l : Launch} (hl : l.stackTraces = false) {T0 : ZTf} {T1 : ZTf} (h0 : zMet l yX3_isAtNumber (Cond.code yX3_isAtNumber cX3_isAtNumber 3 (Option.some Jvm.ClassFile.FieldType.boolean) :: zG) rm_X3_isAtNumber 0 0 T0) (h1 : zMet l yX3_nextToken (Cond.code yX3_nextToken cX3_nextToken 1 (Option.none : Option Jvm.ClassFile.FieldType) :: zG) rm_X3_nextToken 0 0 T1) (p : Program) (e : Env) (s : State) (m : MethodId) (args : Array Value) (below : List Frame) (meth : Method) (c : Code) (D : va_G) (A : Nat → Prop) (a0 : Nat → Nat) (M0 : ZM) (K : ZRet) (KX : ZEx) (X : zCtx p l rm_X3_readNumber s m args meth c cX3_readNumber RX3 (Cond.code yX3_readNumber cX3_readNumber 3 (Option.some Jvm.ClassFile.FieldType.boolean) :: zG) 3 (Option.some Jvm.ClassFile.FieldType.boolean) D A a0 M0 0 0) (hnm : meth.name = yX3_readNumber.name) (hout : ∀ x ∈ c.exceptionTable.toList, False) : ∀ q ∈ cd_X3_readNumber T0 T1, zSd p l e rm_X3_readNumber s m args below meth c 3 D A a0 M0 K KX 0 0 q.1 q.2 :=
    zall_c (zs_aload_n X (pc := 0) (q := 0) rfl (by decide +kernel)) <|
    zall_c (zs_iload_n X (pc := 1) (q := 1) rfl (by decide +kernel)) <|
    zall_c (zs_iload_n X (pc := 2) (q := 2) rfl (by decide +kernel)) <|
    zall_c (zs_callV0 X (pc := 3) zc_X3 (fun _ ht => ⟨(zCB ht gw_4_121 gw_1_2 gw_4_118 rfl rfl (by decide +kernel) ⟨Nat.le_of_ble_eq_true rfl, Nat.le_of_ble_eq_true rfl⟩), ht _ (.tail _ gw_4_120), ht _ (.tail _ gp_9)⟩) h0 hout (by decide +kernel)) <|
    zall_c (zs_if_ne X (pc := 6) (off := 5) (by decide +kernel) (by decide)) <|
    zall_c (zs_iconst X (pc := 9) (by decide) (by decide +kernel)) <|
    zall_c (zs_zret X (pc := 10) rfl zR_bool (by decide +kernel)) <|
    zall_c (zs_aload_n X (pc := 11) (q := 0) rfl (by decide +kernel)) <|
    zall_c (zs_aload_n X (pc := 12) (q := 0) rfl (by decide +kernel)) <|
    zall_c (zs_geti X (pc := 13) zc_X3 (by decide) (zin ui_X3) (.tail _ gw_2_34) (by decide +kernel) (by decide +kernel)) <|
    zall_c (zs_puti X (pc := 16) (ty := Jvm.ClassFile.FieldType.int) zc_X3 (by decide) (zin ui_X3) tyX3_ok nmX3 (.tail _ gw_2_35) rfl (by decide +kernel) (by decide +kernel) (by decide +kernel) zP_int) <|
    zall_c (zs_aload_n X (pc := 19) (q := 0) rfl (by decide +kernel)) <|
    zall_c (zs_callV0 X (pc := 20) zc_X3 (fun _ ht => ⟨(zCB ht gw_4_76 gw_1_2 gw_4_73 rfl rfl (by decide +kernel) ⟨Nat.le_of_ble_eq_true rfl, Nat.le_of_ble_eq_true rfl⟩), ht _ (.tail _ gw_4_75), ht _ (.tail _ gp_1)⟩) h1 hout (by decide +kernel)) <|
    zall_c (zs_iconst X (pc := 23) (by decide) (by decide +kernel)) <|
    zall_c (zs_zret X (pc := 24) rfl zR_bool (by decide +kernel)) <|
    zall_n
theorem met_X3_readNumber {l : Launch} (hl : l.stackTraces = false) {T0 : ZTf} {T1 : ZTf} (h0 : zMet l yX3_isAtNumber (Cond.code yX3_isAtNumber cX3_isAtNumber 3 (Option.some Jvm.ClassFile.FieldType.boolean) :: zG) rm_X3_isAtNumber 0 0 T0) (h1 : zMet l yX3_nextToken (Cond.code yX3_nextToken cX3_nextToken 1 (Option.none : Option Jvm.ClassFile.FieldType) :: zG) rm_X3_nextToken 0 0 T1) {T : ZTf} (bd : zBd (cd_X3_readNumber T0 T1) 3 0 0 T) : zMet l yX3_readNumber (Cond.code yX3_readNumber cX3_readNumber 3 (Option.some Jvm.ClassFile.FieldType.boolean) :: zG) rm_X3_readNumber 0 0 T := zMet_of hl (by decide +kernel) rfl rfl rfl rfl (hs_X3_readNumber hl h0 h1) bd

abbrev rm_X3_readSemicolon : Room := { frames := 3, cells := 0, slots := 0, locals := 72 }
def cd_X3_readSemicolon (T0 : ZTf) (T1 : ZTf) : List (Nat × ZTr) := [(0, tAld 0 1), (1, tGetI 6 4 4), (4, tC (zi 2) 5), (5, tIc_ne 25 8), (8, tAld 0 9), (9, tGetR 6 2 12), (12, tGetR 5 0 15), (15, tAld 0 16), (16, tGetI 6 5 19), (19, tIal 20 20), (20, tC (zi 59) 22), (22, tIc_eq 31 25), (25, tAld 0 26), (26, tC (zi 1) 27), (27, tCall0 2 T0 (zRcv 6) 30), (30, tRi zPz), (31, tAld 0 32), (32, tCall0 1 T1 (zRcv 6) 35), (35, tC (zi 1) 36), (36, tRi zPz)]
set_option maxRecDepth 100000 in
set_option maxHeartbeats 4000000 in
theorem hs_X3_readSemicolon {l : Launch} (hl : l.stackTraces = false) {T0 : ZTf} {T1 : ZTf} (h0 : zMet l yX3_fail (Cond.code yX3_fail cX3_fail 2 (Option.some Jvm.ClassFile.FieldType.boolean) :: zG) rm_X3_fail 0 0 T0) (h1 : zMet l yX3_nextToken (Cond.code yX3_nextToken cX3_nextToken 1 (Option.none : Option Jvm.ClassFile.FieldType) :: zG) rm_X3_nextToken 0 0 T1) (p : Program) (e : Env) (s : State) (m : MethodId) (args : Array Value) (below : List Frame) (meth : Method) (c : Code) (D : va_G) (A : Nat → Prop) (a0 : Nat → Nat) (M0 : ZM) (K : ZRet) (KX : ZEx) (X : zCtx p l rm_X3_readSemicolon s m args meth c cX3_readSemicolon RX3 (Cond.code yX3_readSemicolon cX3_readSemicolon 1 (Option.some Jvm.ClassFile.FieldType.boolean) :: zG) 1 (Option.some Jvm.ClassFile.FieldType.boolean) D A a0 M0 0 0) (hnm : meth.name = yX3_readSemicolon.name) (hout : ∀ x ∈ c.exceptionTable.toList, False) : ∀ q ∈ cd_X3_readSemicolon T0 T1, zSd p l e rm_X3_readSemicolon s m args below meth c 1 D A a0 M0 K KX 0 0 q.1 q.2 :=
    zall_c (zs_aload_n X (pc := 0) (q := 0) rfl (by decide +kernel)) <|
    zall_c (zs_geti X (pc := 1) zc_X3 (by decide) (zin ui_X3) (.tail _ gw_2_31) (by decide +kernel) (by decide +kernel)) <|
    zall_c (zs_iconst X (pc := 4) (by decide) (by decide +kernel)) <|
    zall_c (zs_icmp_ne X (pc := 5) (off := 20) (by decide +kernel) (by decide)) <|
    zall_c (zs_aload_n X (pc := 8) (q := 0) rfl (by decide +kernel)) <|
    zall_c (zs_getr X (pc := 9) zc_X3 (by decide) (zin ui_X3) (.tail _ gw_2_27) (by decide +kernel) (by decide +kernel)) <|
    zall_c (zs_getr X (pc := 12) zc_X1 (by decide) (zin ui_X1) (.tail _ gw_1_84) (by decide +kernel) (by decide +kernel)) <|
    zall_c (zs_aload_n X (pc := 15) (q := 0) rfl (by decide +kernel)) <|
    zall_c (zs_geti X (pc := 16) zc_X3 (by decide) (zin ui_X3) (.tail _ gw_2_32) (by decide +kernel) (by decide +kernel)) <|
    zall_c (zs_iaload20 X (pc := 19) (by decide +kernel)) <|
    zall_c (zs_bipush X (pc := 20) (by decide) (by decide +kernel) (by decide +kernel)) <|
    zall_c (zs_icmp_eq X (pc := 22) (off := 9) (by decide +kernel) (by decide)) <|
    zall_c (zs_aload_n X (pc := 25) (q := 0) rfl (by decide +kernel)) <|
    zall_c (zs_iconst X (pc := 26) (by decide) (by decide +kernel)) <|
    zall_c (zs_callV0 X (pc := 27) zc_X3 (fun _ ht => ⟨(zCB ht gw_4_111 gw_1_2 gw_4_108 rfl rfl (by decide +kernel) ⟨Nat.le_of_ble_eq_true rfl, Nat.le_of_ble_eq_true rfl⟩), ht _ (.tail _ gw_4_110), ht _ (.tail _ gp_7)⟩) h0 hout (by decide +kernel)) <|
    zall_c (zs_zret X (pc := 30) rfl zR_bool (by decide +kernel)) <|
    zall_c (zs_aload_n X (pc := 31) (q := 0) rfl (by decide +kernel)) <|
    zall_c (zs_callV0 X (pc := 32) zc_X3 (fun _ ht => ⟨(zCB ht gw_4_76 gw_1_2 gw_4_73 rfl rfl (by decide +kernel) ⟨Nat.le_of_ble_eq_true rfl, Nat.le_of_ble_eq_true rfl⟩), ht _ (.tail _ gw_4_75), ht _ (.tail _ gp_1)⟩) h1 hout (by decide +kernel)) <|
    zall_c (zs_iconst X (pc := 35) (by decide) (by decide +kernel)) <|
    zall_c (zs_zret X (pc := 36) rfl zR_bool (by decide +kernel)) <|
    zall_n
theorem met_X3_readSemicolon {l : Launch} (hl : l.stackTraces = false) {T0 : ZTf} {T1 : ZTf} (h0 : zMet l yX3_fail (Cond.code yX3_fail cX3_fail 2 (Option.some Jvm.ClassFile.FieldType.boolean) :: zG) rm_X3_fail 0 0 T0) (h1 : zMet l yX3_nextToken (Cond.code yX3_nextToken cX3_nextToken 1 (Option.none : Option Jvm.ClassFile.FieldType) :: zG) rm_X3_nextToken 0 0 T1) {T : ZTf} (bd : zBd (cd_X3_readSemicolon T0 T1) 1 0 0 T) : zMet l yX3_readSemicolon (Cond.code yX3_readSemicolon cX3_readSemicolon 1 (Option.some Jvm.ClassFile.FieldType.boolean) :: zG) rm_X3_readSemicolon 0 0 T := zMet_of hl (by decide +kernel) rfl rfl rfl rfl (hs_X3_readSemicolon hl h0 h1) bd

abbrev rm_X5_settle : Room := { frames := 3, cells := 0, slots := 0, locals := 71 }
def cd_X5_settle (T0 : ZTf) (T1 : ZTf) (T2 : ZTf) : List (Nat × ZTr) := [(0, tAld 0 1), (1, tGetR 8 7 4), (4, tIld 1 5), (5, tAal 31 6), (6, tAst 3 7), (7, tAld 3 8), (8, tAld 2 9), (9, tGetI 9 0 12), (12, tPutI 7 1 (fun _ => True) 15), (15, tC (zi 0) 16), (16, tIst 4 18), (18, tIld 4 20), (20, tAld 3 21), (21, tGetI 7 8 24), (24, tIc_ge 54 27), (27, tAld 0 28), (28, tGetR 8 6 31), (31, tAld 3 32), (32, tIld 4 34), (34, tCall0 2 T0 (zRcv 7) 37), (37, tAal 30 38), (38, tAld 2 39), (39, tGetR 9 4 42), (42, tIld 4 44), (44, tIal 20 45), (45, tCall0 2 T1 (zRcv 10) 48), (48, tInc 4 1 51), (51, tGo 18), (54, tAld 2 55), (55, tGetI 9 0 58), (58, tC (zi 2) 59), (59, tIc_ne 118 62), (62, tAld 3 63), (63, tAld 2 64), (64, tGetI 9 1 67), (67, tPutI 7 2 (fun _ => True) 70), (70, tAld 3 71), (71, tAld 3 72), (72, tAld 2 73), (73, tGetI 9 2 76), (76, tCall0 2 T0 (zRcv 7) 79), (79, tPutI 7 6 (fun _ => True) 82), (82, tAld 3 83), (83, tAld 3 84), (84, tAld 2 85), (85, tGetI 9 3 88), (88, tCall0 2 T0 (zRcv 7) 91), (91, tPutI 7 7 (fun _ => True) 94), (94, tAld 0 95), (95, tAld 3 96), (96, tGetI 7 6 99), (99, tAld 3 100), (100, tGetI 7 0 103), (103, tCall0 3 T2 (zRcv 8) 106), (106, tAld 0 107), (107, tAld 3 108), (108, tGetI 7 7 111), (111, tAld 3 112), (112, tGetI 7 0 115), (115, tCall0 3 T2 (zRcv 8) 118), (118, tRv)]
set_option maxRecDepth 100000 in
set_option maxHeartbeats 4000000 in
theorem hs_X5_settle {l : Launch} (hl : l.stackTraces = false) {T0 : ZTf} {T1 : ZTf} {T2 : ZTf} (h0 : zMet l yX4_workerAt (Cond.code yX4_workerAt cX4_workerAt 2 (Option.some Jvm.ClassFile.FieldType.int) :: zG) rm_X4_workerAt 0 0 T0) (h1 : zMet l yX7_changeTrust (Cond.code yX7_changeTrust cX7_changeTrust 2 (Option.none : Option Jvm.ClassFile.FieldType) :: zG) rm_X7_changeTrust 0 0 T1) (h2 : zMet l yX5_reward (Cond.code yX5_reward cX5_reward 3 (Option.none : Option Jvm.ClassFile.FieldType) :: zG) rm_X5_reward 0 0 T2) (p : Program) (e : Env) (s : State) (m : MethodId) (args : Array Value) (below : List Frame) (meth : Method) (c : Code) (D : va_G) (A : Nat → Prop) (a0 : Nat → Nat) (M0 : ZM) (K : ZRet) (KX : ZEx) (X : zCtx p l rm_X5_settle s m args meth c cX5_settle RX5 (Cond.code yX5_settle cX5_settle 5 (Option.none : Option Jvm.ClassFile.FieldType) :: zG) 5 (Option.none : Option Jvm.ClassFile.FieldType) D A a0 M0 0 0) (hnm : meth.name = yX5_settle.name) (hout : ∀ x ∈ c.exceptionTable.toList, False) : ∀ q ∈ cd_X5_settle T0 T1 T2, zSd p l e rm_X5_settle s m args below meth c 5 D A a0 M0 K KX 0 0 q.1 q.2 :=
    zall_c (zs_aload_n X (pc := 0) (q := 0) rfl (by decide +kernel)) <|
    zall_c (zs_getr X (pc := 1) zc_X5 (by decide) (zin ui_X5) (.tail _ gw_1_237) (by decide +kernel) (by decide +kernel)) <|
    zall_c (zs_iload_n X (pc := 4) (q := 1) rfl (by decide +kernel)) <|
    zall_c (zs_aaload X (pc := 5) (by decide) rfl (by decide +kernel)) <|
    zall_c (zs_astore_n X (pc := 6) (q := 3) rfl (by decide) (by decide +kernel)) <|
    zall_c (zs_aload_n X (pc := 7) (q := 3) rfl (by decide +kernel)) <|
    zall_c (zs_aload_n X (pc := 8) (q := 2) rfl (by decide +kernel)) <|
    zall_c (zs_geti X (pc := 9) zc_X6 (by decide) (zin ui_X6) (.tail _ gw_2_83) (by decide +kernel) (by decide +kernel)) <|
    zall_c (zs_puti X (pc := 12) (ty := Jvm.ClassFile.FieldType.int) zc_X4 (by decide) (zin ui_X4) tyX4_ok nmX4 (.tail _ gw_1_174) rfl (by decide +kernel) (by decide +kernel) (by decide +kernel) zP_int) <|
    zall_c (zs_iconst X (pc := 15) (by decide) (by decide +kernel)) <|
    zall_c (zs_istore X (pc := 16) (by decide) (by decide +kernel)) <|
    zall_c (zs_iload X (pc := 18) (by decide +kernel)) <|
    zall_c (zs_aload_n X (pc := 20) (q := 3) rfl (by decide +kernel)) <|
    zall_c (zs_geti X (pc := 21) zc_X4 (by decide) (zin ui_X4) (.tail _ gw_1_195) (by decide +kernel) (by decide +kernel)) <|
    zall_c (zs_icmp_ge X (pc := 24) (off := 30) (by decide +kernel) (by decide)) <|
    zall_c (zs_aload_n X (pc := 27) (q := 0) rfl (by decide +kernel)) <|
    zall_c (zs_getr X (pc := 28) zc_X5 (by decide) (zin ui_X5) (.tail _ gw_1_234) (by decide +kernel) (by decide +kernel)) <|
    zall_c (zs_aload_n X (pc := 31) (q := 3) rfl (by decide +kernel)) <|
    zall_c (zs_iload X (pc := 32) (by decide +kernel)) <|
    zall_c (zs_callV0 X (pc := 34) zc_X4 (fun _ ht => ⟨(zCB ht gw_5_80 gw_1_10 gw_5_133 rfl rfl (by decide +kernel) ⟨Nat.le_of_ble_eq_true rfl, Nat.le_of_ble_eq_true rfl⟩), ht _ (.tail _ gw_5_78), ht _ (.tail _ gw_5_79)⟩) h0 hout (by decide +kernel)) <|
    zall_c (zs_aaload X (pc := 37) (by decide) rfl (by decide +kernel)) <|
    zall_c (zs_aload_n X (pc := 38) (q := 2) rfl (by decide +kernel)) <|
    zall_c (zs_getr X (pc := 39) zc_X6 (by decide) (zin ui_X6) (.tail _ gw_2_92) (by decide +kernel) (by decide +kernel)) <|
    zall_c (zs_iload X (pc := 42) (by decide +kernel)) <|
    zall_c (zs_iaload20 X (pc := 44) (by decide +kernel)) <|
    zall_c (zs_callV0 X (pc := 45) zc_X7 (fun _ ht => ⟨(zCB ht gw_5_219 gw_1_9 gw_5_216 rfl rfl (by decide +kernel) ⟨Nat.le_of_ble_eq_true rfl, Nat.le_of_ble_eq_true rfl⟩), ht _ (.tail _ gw_5_217), ht _ (.tail _ gw_5_218)⟩) h1 hout (by decide +kernel)) <|
    zall_c (zs_iinc X (pc := 48) (by decide) (by decide +kernel)) <|
    zall_c (zs_goto X (pc := 51) (off := (-33)) (by decide +kernel) (by decide)) <|
    zall_c (zs_aload_n X (pc := 54) (q := 2) rfl (by decide +kernel)) <|
    zall_c (zs_geti X (pc := 55) zc_X6 (by decide) (zin ui_X6) (.tail _ gw_2_83) (by decide +kernel) (by decide +kernel)) <|
    zall_c (zs_iconst X (pc := 58) (by decide) (by decide +kernel)) <|
    zall_c (zs_icmp_ne X (pc := 59) (off := 59) (by decide +kernel) (by decide)) <|
    zall_c (zs_aload_n X (pc := 62) (q := 3) rfl (by decide +kernel)) <|
    zall_c (zs_aload_n X (pc := 63) (q := 2) rfl (by decide +kernel)) <|
    zall_c (zs_geti X (pc := 64) zc_X6 (by decide) (zin ui_X6) (.tail _ gw_2_86) (by decide +kernel) (by decide +kernel)) <|
    zall_c (zs_puti X (pc := 67) (ty := Jvm.ClassFile.FieldType.int) zc_X4 (by decide) (zin ui_X4) tyX4_ok nmX4 (.tail _ gw_1_177) rfl (by decide +kernel) (by decide +kernel) (by decide +kernel) zP_int) <|
    zall_c (zs_aload_n X (pc := 70) (q := 3) rfl (by decide +kernel)) <|
    zall_c (zs_aload_n X (pc := 71) (q := 3) rfl (by decide +kernel)) <|
    zall_c (zs_aload_n X (pc := 72) (q := 2) rfl (by decide +kernel)) <|
    zall_c (zs_geti X (pc := 73) zc_X6 (by decide) (zin ui_X6) (.tail _ gw_2_88) (by decide +kernel) (by decide +kernel)) <|
    zall_c (zs_callV0 X (pc := 76) zc_X4 (fun _ ht => ⟨(zCB ht gw_5_80 gw_1_10 gw_5_133 rfl rfl (by decide +kernel) ⟨Nat.le_of_ble_eq_true rfl, Nat.le_of_ble_eq_true rfl⟩), ht _ (.tail _ gw_5_78), ht _ (.tail _ gw_5_79)⟩) h0 hout (by decide +kernel)) <|
    zall_c (zs_puti X (pc := 79) (ty := Jvm.ClassFile.FieldType.int) zc_X4 (by decide) (zin ui_X4) tyX4_ok nmX4 (.tail _ gw_1_188) rfl (by decide +kernel) (by decide +kernel) (by decide +kernel) zP_int) <|
    zall_c (zs_aload_n X (pc := 82) (q := 3) rfl (by decide +kernel)) <|
    zall_c (zs_aload_n X (pc := 83) (q := 3) rfl (by decide +kernel)) <|
    zall_c (zs_aload_n X (pc := 84) (q := 2) rfl (by decide +kernel)) <|
    zall_c (zs_geti X (pc := 85) zc_X6 (by decide) (zin ui_X6) (.tail _ gw_2_90) (by decide +kernel) (by decide +kernel)) <|
    zall_c (zs_callV0 X (pc := 88) zc_X4 (fun _ ht => ⟨(zCB ht gw_5_80 gw_1_10 gw_5_133 rfl rfl (by decide +kernel) ⟨Nat.le_of_ble_eq_true rfl, Nat.le_of_ble_eq_true rfl⟩), ht _ (.tail _ gw_5_78), ht _ (.tail _ gw_5_79)⟩) h0 hout (by decide +kernel)) <|
    zall_c (zs_puti X (pc := 91) (ty := Jvm.ClassFile.FieldType.int) zc_X4 (by decide) (zin ui_X4) tyX4_ok nmX4 (.tail _ gw_1_191) rfl (by decide +kernel) (by decide +kernel) (by decide +kernel) zP_int) <|
    zall_c (zs_aload_n X (pc := 94) (q := 0) rfl (by decide +kernel)) <|
    zall_c (zs_aload_n X (pc := 95) (q := 3) rfl (by decide +kernel)) <|
    zall_c (zs_geti X (pc := 96) zc_X4 (by decide) (zin ui_X4) (.tail _ gw_1_188) (by decide +kernel) (by decide +kernel)) <|
    zall_c (zs_aload_n X (pc := 99) (q := 3) rfl (by decide +kernel)) <|
    zall_c (zs_geti X (pc := 100) zc_X4 (by decide) (zin ui_X4) (.tail _ gw_1_170) (by decide +kernel) (by decide +kernel)) <|
    zall_c (zs_callV0 X (pc := 103) zc_X5 (fun _ ht => ⟨(zCB ht gw_5_228 gw_1_8 gw_5_225 rfl rfl (by decide +kernel) ⟨Nat.le_of_ble_eq_true rfl, Nat.le_of_ble_eq_true rfl⟩), ht _ (.tail _ gw_5_226), ht _ (.tail _ gw_5_227)⟩) h2 hout (by decide +kernel)) <|
    zall_c (zs_aload_n X (pc := 106) (q := 0) rfl (by decide +kernel)) <|
    zall_c (zs_aload_n X (pc := 107) (q := 3) rfl (by decide +kernel)) <|
    zall_c (zs_geti X (pc := 108) zc_X4 (by decide) (zin ui_X4) (.tail _ gw_1_191) (by decide +kernel) (by decide +kernel)) <|
    zall_c (zs_aload_n X (pc := 111) (q := 3) rfl (by decide +kernel)) <|
    zall_c (zs_geti X (pc := 112) zc_X4 (by decide) (zin ui_X4) (.tail _ gw_1_170) (by decide +kernel) (by decide +kernel)) <|
    zall_c (zs_callV0 X (pc := 115) zc_X5 (fun _ ht => ⟨(zCB ht gw_5_228 gw_1_8 gw_5_225 rfl rfl (by decide +kernel) ⟨Nat.le_of_ble_eq_true rfl, Nat.le_of_ble_eq_true rfl⟩), ht _ (.tail _ gw_5_226), ht _ (.tail _ gw_5_227)⟩) h2 hout (by decide +kernel)) <|
    zall_c (zs_vret X (pc := 118) rfl (by decide +kernel)) <|
    zall_n
theorem met_X5_settle {l : Launch} (hl : l.stackTraces = false) {T0 : ZTf} {T1 : ZTf} {T2 : ZTf} (h0 : zMet l yX4_workerAt (Cond.code yX4_workerAt cX4_workerAt 2 (Option.some Jvm.ClassFile.FieldType.int) :: zG) rm_X4_workerAt 0 0 T0) (h1 : zMet l yX7_changeTrust (Cond.code yX7_changeTrust cX7_changeTrust 2 (Option.none : Option Jvm.ClassFile.FieldType) :: zG) rm_X7_changeTrust 0 0 T1) (h2 : zMet l yX5_reward (Cond.code yX5_reward cX5_reward 3 (Option.none : Option Jvm.ClassFile.FieldType) :: zG) rm_X5_reward 0 0 T2) {T : ZTf} (bd : zBd (cd_X5_settle T0 T1 T2) 5 0 0 T) : zMet l yX5_settle (Cond.code yX5_settle cX5_settle 5 (Option.none : Option Jvm.ClassFile.FieldType) :: zG) rm_X5_settle 0 0 T := zMet_of hl (by decide +kernel) rfl rfl rfl rfl (hs_X5_settle hl h0 h1 h2) bd

abbrev rm_X5_endWork : Room := { frames := 3, cells := 0, slots := 0, locals := 71 }
def cd_X5_endWork (T0 : ZTf) : List (Nat × ZTr) := [(0, tAld 0 1), (1, tDup 2), (2, tGetI 10 4 5), (5, tC (zi 1) 6), (6, tSub 7), (7, tPutI 10 4 (fun _ => True) 10), (10, tIld 1 11), (11, tIf_eq 29 14), (14, tAld 0 15), (15, tDup 16), (16, tGetI 10 8 19), (19, tC (zi 1) 20), (20, tAdd 21), (21, tPutI 10 8 (fun _ => True) 24), (24, tAld 0 25), (25, tC (zi (-1)) 26), (26, tCall0 2 T0 (zRcv 10) 29), (29, tRv)]
set_option maxRecDepth 100000 in
set_option maxHeartbeats 4000000 in
theorem hs_X5_endWork {l : Launch} (hl : l.stackTraces = false) {T0 : ZTf} (h0 : zMet l yX7_changeTrust (Cond.code yX7_changeTrust cX7_changeTrust 2 (Option.none : Option Jvm.ClassFile.FieldType) :: zG) rm_X7_changeTrust 0 0 T0) (p : Program) (e : Env) (s : State) (m : MethodId) (args : Array Value) (below : List Frame) (meth : Method) (c : Code) (D : va_G) (A : Nat → Prop) (a0 : Nat → Nat) (M0 : ZM) (K : ZRet) (KX : ZEx) (X : zCtx p l rm_X5_endWork s m args meth c cX5_endWork RX5 (Cond.code yX5_endWork cX5_endWork 2 (Option.none : Option Jvm.ClassFile.FieldType) :: zG) 2 (Option.none : Option Jvm.ClassFile.FieldType) D A a0 M0 0 0) (hnm : meth.name = yX5_endWork.name) (hout : ∀ x ∈ c.exceptionTable.toList, False) : ∀ q ∈ cd_X5_endWork T0, zSd p l e rm_X5_endWork s m args below meth c 2 D A a0 M0 K KX 0 0 q.1 q.2 :=
    zall_c (zs_aload_n X (pc := 0) (q := 0) rfl (by decide +kernel)) <|
    zall_c (zs_dup X (pc := 1) (by decide +kernel)) <|
    zall_c (zs_geti X (pc := 2) zc_X7 (by decide) (zin ui_X7) (.tail _ gw_1_126) (by decide +kernel) (by decide +kernel)) <|
    zall_c (zs_iconst X (pc := 5) (by decide) (by decide +kernel)) <|
    zall_c (zs_isub X (pc := 6) (by decide +kernel)) <|
    zall_c (zs_puti X (pc := 7) (ty := Jvm.ClassFile.FieldType.int) zc_X7 (by decide) (zin ui_X7) tyX7_ok nmX7 (.tail _ gw_1_126) rfl (by decide +kernel) (by decide +kernel) (by decide +kernel) zP_int) <|
    zall_c (zs_iload_n X (pc := 10) (q := 1) rfl (by decide +kernel)) <|
    zall_c (zs_if_eq X (pc := 11) (off := 18) (by decide +kernel) (by decide)) <|
    zall_c (zs_aload_n X (pc := 14) (q := 0) rfl (by decide +kernel)) <|
    zall_c (zs_dup X (pc := 15) (by decide +kernel)) <|
    zall_c (zs_geti X (pc := 16) zc_X7 (by decide) (zin ui_X7) (.tail _ gw_1_138) (by decide +kernel) (by decide +kernel)) <|
    zall_c (zs_iconst X (pc := 19) (by decide) (by decide +kernel)) <|
    zall_c (zs_iadd X (pc := 20) (by decide +kernel)) <|
    zall_c (zs_puti X (pc := 21) (ty := Jvm.ClassFile.FieldType.int) zc_X7 (by decide) (zin ui_X7) tyX7_ok nmX7 (.tail _ gw_1_138) rfl (by decide +kernel) (by decide +kernel) (by decide +kernel) zP_int) <|
    zall_c (zs_aload_n X (pc := 24) (q := 0) rfl (by decide +kernel)) <|
    zall_c (zs_iconst X (pc := 25) (by decide) (by decide +kernel)) <|
    zall_c (zs_callV0 X (pc := 26) zc_X7 (fun _ ht => ⟨(zCB ht gw_5_219 gw_1_9 gw_5_216 rfl rfl (by decide +kernel) ⟨Nat.le_of_ble_eq_true rfl, Nat.le_of_ble_eq_true rfl⟩), ht _ (.tail _ gw_5_217), ht _ (.tail _ gw_5_218)⟩) h0 hout (by decide +kernel)) <|
    zall_c (zs_vret X (pc := 29) rfl (by decide +kernel)) <|
    zall_n
theorem met_X5_endWork {l : Launch} (hl : l.stackTraces = false) {T0 : ZTf} (h0 : zMet l yX7_changeTrust (Cond.code yX7_changeTrust cX7_changeTrust 2 (Option.none : Option Jvm.ClassFile.FieldType) :: zG) rm_X7_changeTrust 0 0 T0) {T : ZTf} (bd : zBd (cd_X5_endWork T0) 2 0 0 T) : zMet l yX5_endWork (Cond.code yX5_endWork cX5_endWork 2 (Option.none : Option Jvm.ClassFile.FieldType) :: zG) rm_X5_endWork 0 0 T := zMet_of hl (by decide +kernel) rfl rfl rfl rfl (hs_X5_endWork hl h0) bd

abbrev rm_X5_examine : Room := { frames := 3, cells := 0, slots := 0, locals := 71 }
def cd_X5_examine (T0 : ZTf) (T1 : ZTf) (T2 : ZTf) (T3 : ZTf) (T4 : ZTf) : List (Nat × ZTr) := [(0, tC (zi 0) 1), (1, tIst 3 2), (2, tIld 3 3), (3, tAld 1 4), (4, tGetI 7 8 7), (7, tIc_ge 48 10), (10, tAld 0 11), (11, tGetR 8 6 14), (14, tAld 1 15), (15, tIld 3 16), (16, tCall0 2 T0 (zRcv 7) 19), (19, tAal 30 20), (20, tAld 0 21), (21, tAld 1 22), (22, tIld 3 23), (23, tCall0 2 T1 (zRcv 7) 26), (26, tIld 2 27), (27, tCall0 3 T2 (zRcv 8) 30), (30, tIf_eq 37 33), (33, tC (zi 2) 34), (34, tGo 39), (37, tC (zi (-4)) 39), (39, tCall0 2 T3 (zRcv 10) 42), (42, tInc 3 1 45), (45, tGo 2), (48, tAld 1 49), (49, tC (zi 1) 50), (50, tPutI 7 3 zPz 53), (53, tAld 1 54), (54, tIld 2 55), (55, tPutI 7 4 (fun _ => True) 58), (58, tAld 0 59), (59, tAld 1 60), (60, tGetI 7 2 63), (63, tIld 2 64), (64, tCall0 3 T2 (zRcv 8) 67), (67, tIf_eq 72 70), (70, tC (zi 1) 71), (71, tRi zPz), (72, tAld 0 73), (73, tGetR 8 8 76), (76, tAld 1 77), (77, tGetI 7 6 80), (80, tAld 1 81), (81, tGetI 7 7 84), (84, tCall0 2 T4 zAny 87), (87, tDup2 88), (88, tIal 20 89), (89, tC (zi 1) 90), (90, tAdd 91), (91, tIas 20 (fun _ => True) 92), (92, tAld 1 93), (93, tIld 2 94), (94, tPutI 7 2 (fun _ => True) 97), (97, tC (zi 0) 98), (98, tRi zPz)]
set_option maxRecDepth 100000 in
set_option maxHeartbeats 4000000 in
theorem hs_X5_examine {l : Launch} (hl : l.stackTraces = false) {T0 : ZTf} {T1 : ZTf} {T2 : ZTf} {T3 : ZTf} {T4 : ZTf} (h0 : zMet l yX4_workerAt (Cond.code yX4_workerAt cX4_workerAt 2 (Option.some Jvm.ClassFile.FieldType.int) :: zG) rm_X4_workerAt 0 0 T0) (h1 : zMet l yX4_resultAt (Cond.code yX4_resultAt cX4_resultAt 2 (Option.some Jvm.ClassFile.FieldType.int) :: zG) rm_X4_resultAt 0 0 T1) (h2 : zMet l yX5_agree (Cond.code yX5_agree cX5_agree 3 (Option.some Jvm.ClassFile.FieldType.boolean) :: zG) rm_X5_agree 0 0 T2) (h3 : zMet l yX7_changeTrust (Cond.code yX7_changeTrust cX7_changeTrust 2 (Option.none : Option Jvm.ClassFile.FieldType) :: zG) rm_X7_changeTrust 0 0 T3) (h4 : zMet l yX5_pairIndex (Cond.code yX5_pairIndex cX5_pairIndex 2 (Option.some Jvm.ClassFile.FieldType.int) :: zG) rm_X5_pairIndex 0 0 T4) (p : Program) (e : Env) (s : State) (m : MethodId) (args : Array Value) (below : List Frame) (meth : Method) (c : Code) (D : va_G) (A : Nat → Prop) (a0 : Nat → Nat) (M0 : ZM) (K : ZRet) (KX : ZEx) (X : zCtx p l rm_X5_examine s m args meth c cX5_examine RX5 (Cond.code yX5_examine cX5_examine 4 (Option.some Jvm.ClassFile.FieldType.boolean) :: zG) 4 (Option.some Jvm.ClassFile.FieldType.boolean) D A a0 M0 0 0) (hnm : meth.name = yX5_examine.name) (hout : ∀ x ∈ c.exceptionTable.toList, False) : ∀ q ∈ cd_X5_examine T0 T1 T2 T3 T4, zSd p l e rm_X5_examine s m args below meth c 4 D A a0 M0 K KX 0 0 q.1 q.2 :=
    zall_c (zs_iconst X (pc := 0) (by decide) (by decide +kernel)) <|
    zall_c (zs_istore_n X (pc := 1) (q := 3) rfl (by decide) (by decide +kernel)) <|
    zall_c (zs_iload_n X (pc := 2) (q := 3) rfl (by decide +kernel)) <|
    zall_c (zs_aload_n X (pc := 3) (q := 1) rfl (by decide +kernel)) <|
    zall_c (zs_geti X (pc := 4) zc_X4 (by decide) (zin ui_X4) (.tail _ gw_1_195) (by decide +kernel) (by decide +kernel)) <|
    zall_c (zs_icmp_ge X (pc := 7) (off := 41) (by decide +kernel) (by decide)) <|
    zall_c (zs_aload_n X (pc := 10) (q := 0) rfl (by decide +kernel)) <|
    zall_c (zs_getr X (pc := 11) zc_X5 (by decide) (zin ui_X5) (.tail _ gw_1_234) (by decide +kernel) (by decide +kernel)) <|
    zall_c (zs_aload_n X (pc := 14) (q := 1) rfl (by decide +kernel)) <|
    zall_c (zs_iload_n X (pc := 15) (q := 3) rfl (by decide +kernel)) <|
    zall_c (zs_callV0 X (pc := 16) zc_X4 (fun _ ht => ⟨(zCB ht gw_5_80 gw_1_10 gw_5_133 rfl rfl (by decide +kernel) ⟨Nat.le_of_ble_eq_true rfl, Nat.le_of_ble_eq_true rfl⟩), ht _ (.tail _ gw_5_78), ht _ (.tail _ gw_5_79)⟩) h0 hout (by decide +kernel)) <|
    zall_c (zs_aaload X (pc := 19) (by decide) rfl (by decide +kernel)) <|
    zall_c (zs_aload_n X (pc := 20) (q := 0) rfl (by decide +kernel)) <|
    zall_c (zs_aload_n X (pc := 21) (q := 1) rfl (by decide +kernel)) <|
    zall_c (zs_iload_n X (pc := 22) (q := 3) rfl (by decide +kernel)) <|
    zall_c (zs_callV0 X (pc := 23) zc_X4 (fun _ ht => ⟨(zCB ht gw_5_84 gw_1_10 gw_6_27 rfl rfl (by decide +kernel) ⟨Nat.le_of_ble_eq_true rfl, Nat.le_of_ble_eq_true rfl⟩), ht _ (.tail _ gw_5_82), ht _ (.tail _ gw_5_83)⟩) h1 hout (by decide +kernel)) <|
    zall_c (zs_iload_n X (pc := 26) (q := 2) rfl (by decide +kernel)) <|
    zall_c (zs_callV0 X (pc := 27) zc_X5 (fun _ ht => ⟨(zCB ht gw_5_190 gw_1_8 gw_6_28 rfl rfl (by decide +kernel) ⟨Nat.le_of_ble_eq_true rfl, Nat.le_of_ble_eq_true rfl⟩), ht _ (.tail _ gw_5_188), ht _ (.tail _ gw_5_189)⟩) h2 hout (by decide +kernel)) <|
    zall_c (zs_if_eq X (pc := 30) (off := 7) (by decide +kernel) (by decide)) <|
    zall_c (zs_iconst X (pc := 33) (by decide) (by decide +kernel)) <|
    zall_c (zs_goto X (pc := 34) (off := 5) (by decide +kernel) (by decide)) <|
    zall_c (zs_bipush X (pc := 37) (by decide) (by decide +kernel) (by decide +kernel)) <|
    zall_c (zs_callV0 X (pc := 39) zc_X7 (fun _ ht => ⟨(zCB ht gw_5_219 gw_1_9 gw_5_216 rfl rfl (by decide +kernel) ⟨Nat.le_of_ble_eq_true rfl, Nat.le_of_ble_eq_true rfl⟩), ht _ (.tail _ gw_5_217), ht _ (.tail _ gw_5_218)⟩) h3 hout (by decide +kernel)) <|
    zall_c (zs_iinc X (pc := 42) (by decide) (by decide +kernel)) <|
    zall_c (zs_goto X (pc := 45) (off := (-43)) (by decide +kernel) (by decide)) <|
    zall_c (zs_aload_n X (pc := 48) (q := 1) rfl (by decide +kernel)) <|
    zall_c (zs_iconst X (pc := 49) (by decide) (by decide +kernel)) <|
    zall_c (zs_puti X (pc := 50) (ty := Jvm.ClassFile.FieldType.boolean) zc_X4 (by decide) (zin ui_X4) tyX4_ok nmX4 (.tail _ gw_1_180) rfl (by decide +kernel) (by decide +kernel) (by decide +kernel) zP_bool) <|
    zall_c (zs_aload_n X (pc := 53) (q := 1) rfl (by decide +kernel)) <|
    zall_c (zs_iload_n X (pc := 54) (q := 2) rfl (by decide +kernel)) <|
    zall_c (zs_puti X (pc := 55) (ty := Jvm.ClassFile.FieldType.int) zc_X4 (by decide) (zin ui_X4) tyX4_ok nmX4 (.tail _ gw_1_182) rfl (by decide +kernel) (by decide +kernel) (by decide +kernel) zP_int) <|
    zall_c (zs_aload_n X (pc := 58) (q := 0) rfl (by decide +kernel)) <|
    zall_c (zs_aload_n X (pc := 59) (q := 1) rfl (by decide +kernel)) <|
    zall_c (zs_geti X (pc := 60) zc_X4 (by decide) (zin ui_X4) (.tail _ gw_1_177) (by decide +kernel) (by decide +kernel)) <|
    zall_c (zs_iload_n X (pc := 63) (q := 2) rfl (by decide +kernel)) <|
    zall_c (zs_callV0 X (pc := 64) zc_X5 (fun _ ht => ⟨(zCB ht gw_5_190 gw_1_8 gw_6_28 rfl rfl (by decide +kernel) ⟨Nat.le_of_ble_eq_true rfl, Nat.le_of_ble_eq_true rfl⟩), ht _ (.tail _ gw_5_188), ht _ (.tail _ gw_5_189)⟩) h2 hout (by decide +kernel)) <|
    zall_c (zs_if_eq X (pc := 67) (off := 5) (by decide +kernel) (by decide)) <|
    zall_c (zs_iconst X (pc := 70) (by decide) (by decide +kernel)) <|
    zall_c (zs_zret X (pc := 71) rfl zR_bool (by decide +kernel)) <|
    zall_c (zs_aload_n X (pc := 72) (q := 0) rfl (by decide +kernel)) <|
    zall_c (zs_getr X (pc := 73) zc_X5 (by decide) (zin ui_X5) (.tail _ gw_1_239) (by decide +kernel) (by decide +kernel)) <|
    zall_c (zs_aload_n X (pc := 76) (q := 1) rfl (by decide +kernel)) <|
    zall_c (zs_geti X (pc := 77) zc_X4 (by decide) (zin ui_X4) (.tail _ gw_1_188) (by decide +kernel) (by decide +kernel)) <|
    zall_c (zs_aload_n X (pc := 80) (q := 1) rfl (by decide +kernel)) <|
    zall_c (zs_geti X (pc := 81) zc_X4 (by decide) (zin ui_X4) (.tail _ gw_1_191) (by decide +kernel) (by decide +kernel)) <|
    zall_c (zs_callS0 X (pc := 84) (fun _ ht => ⟨(zCB ht gw_4_229 gw_1_8 gw_4_227 rfl rfl (by decide +kernel) ⟨Nat.le_of_ble_eq_true rfl, Nat.le_of_ble_eq_true rfl⟩), ht _ (.tail _ gw_4_228)⟩) h4 hout (by decide +kernel)) <|
    zall_c (zs_dup2 X (pc := 87) (by decide +kernel)) <|
    zall_c (zs_iaload20 X (pc := 88) (by decide +kernel)) <|
    zall_c (zs_iconst X (pc := 89) (by decide) (by decide +kernel)) <|
    zall_c (zs_iadd X (pc := 90) (by decide +kernel)) <|
    zall_c (zs_iastore20 X (pc := 91) (by decide +kernel)) <|
    zall_c (zs_aload_n X (pc := 92) (q := 1) rfl (by decide +kernel)) <|
    zall_c (zs_iload_n X (pc := 93) (q := 2) rfl (by decide +kernel)) <|
    zall_c (zs_puti X (pc := 94) (ty := Jvm.ClassFile.FieldType.int) zc_X4 (by decide) (zin ui_X4) tyX4_ok nmX4 (.tail _ gw_1_177) rfl (by decide +kernel) (by decide +kernel) (by decide +kernel) zP_int) <|
    zall_c (zs_iconst X (pc := 97) (by decide) (by decide +kernel)) <|
    zall_c (zs_zret X (pc := 98) rfl zR_bool (by decide +kernel)) <|
    zall_n
theorem met_X5_examine {l : Launch} (hl : l.stackTraces = false) {T0 : ZTf} {T1 : ZTf} {T2 : ZTf} {T3 : ZTf} {T4 : ZTf} (h0 : zMet l yX4_workerAt (Cond.code yX4_workerAt cX4_workerAt 2 (Option.some Jvm.ClassFile.FieldType.int) :: zG) rm_X4_workerAt 0 0 T0) (h1 : zMet l yX4_resultAt (Cond.code yX4_resultAt cX4_resultAt 2 (Option.some Jvm.ClassFile.FieldType.int) :: zG) rm_X4_resultAt 0 0 T1) (h2 : zMet l yX5_agree (Cond.code yX5_agree cX5_agree 3 (Option.some Jvm.ClassFile.FieldType.boolean) :: zG) rm_X5_agree 0 0 T2) (h3 : zMet l yX7_changeTrust (Cond.code yX7_changeTrust cX7_changeTrust 2 (Option.none : Option Jvm.ClassFile.FieldType) :: zG) rm_X7_changeTrust 0 0 T3) (h4 : zMet l yX5_pairIndex (Cond.code yX5_pairIndex cX5_pairIndex 2 (Option.some Jvm.ClassFile.FieldType.int) :: zG) rm_X5_pairIndex 0 0 T4) {T : ZTf} (bd : zBd (cd_X5_examine T0 T1 T2 T3 T4) 4 0 0 T) : zMet l yX5_examine (Cond.code yX5_examine cX5_examine 4 (Option.some Jvm.ClassFile.FieldType.boolean) :: zG) rm_X5_examine 0 0 T := zMet_of hl (by decide +kernel) rfl rfl rfl rfl (hs_X5_examine hl h0 h1 h2 h3 h4) bd

abbrev rm_X6_judge : Room := { frames := 3, cells := 0, slots := 0, locals := 76 }
def cd_X6_judge (T0 : ZTf) (T1 : ZTf) (T2 : ZTf) (T3 : ZTf) : List (Nat × ZTr) := [(0, tAld 0 1), (1, tAld 2 2), (2, tGetI 7 1 5), (5, tPutI 9 0 (fun _ => True) 8), (8, tAld 0 9), (9, tC (zi (-1)) 10), (10, tPutI 9 1 (fun _ => True) 13), (13, tAld 0 14), (14, tC (zi 0) 15), (15, tPutI 9 2 (fun _ => True) 18), (18, tAld 0 19), (19, tC (zi 0) 20), (20, tPutI 9 3 (fun _ => True) 23), (23, tC (zi 0) 24), (24, tIst 5 26), (26, tIld 5 28), (28, tC (zi 3) 29), (29, tIc_ge 114 32), (32, tIld 5 34), (34, tAld 2 35), (35, tGetI 7 8 38), (38, tIc_ge 45 41), (41, tC (zi 1) 42), (42, tGo 46), (45, tC (zi 0) 46), (46, tIst 6 48), (48, tAld 0 49), (49, tGetR 9 4 52), (52, tIld 5 54), (54, tC (zi 0) 55), (55, tIas 20 (fun _ => True) 56), (56, tAld 0 57), (57, tGetR 9 5 60), (60, tIld 5 62), (62, tIld 6 64), (64, tIf_eq 76 67), (67, tAld 2 68), (68, tIld 5 70), (70, tCall0 2 T0 (zRcv 7) 73), (73, tGo 77), (76, tC (zi (-1)) 77), (77, tIas 20 (fun _ => True) 78), (78, tAld 0 79), (79, tGetR 9 6 82), (82, tIld 5 84), (84, tIld 6 86), (86, tIf_eq 106 89), (89, tAld 1 90), (90, tGetR 8 6 93), (93, tAld 2 94), (94, tIld 5 96), (96, tCall0 2 T1 (zRcv 7) 99), (99, tAal 30 100), (100, tGetI 10 3 103), (103, tGo 107), (106, tC (zi 0) 107), (107, tIas 20 (fun _ => True) 108), (108, tInc 5 1 111), (111, tGo 26), (114, tAld 0 115), (115, tGetR 9 5 118), (118, tIld 3 119), (119, tIld 4 121), (121, tIas 20 (fun _ => True) 122), (122, tAld 2 123), (123, tGetI 7 1 126), (126, tIf_ne 137 129), (129, tAld 0 130), (130, tAld 1 131), (131, tCall0 2 T2 (zRcv 9) 134), (134, tGo 150), (137, tAld 2 138), (138, tGetI 7 1 141), (141, tC (zi 1) 142), (142, tIc_ne 150 145), (145, tAld 0 146), (146, tAld 1 147), (147, tCall0 2 T3 (zRcv 9) 150), (150, tRv)]
set_option maxRecDepth 100000 in
set_option maxHeartbeats 4000000 in
theorem hs_X6_judge {l : Launch} (hl : l.stackTraces = false) {T0 : ZTf} {T1 : ZTf} {T2 : ZTf} {T3 : ZTf} (h0 : zMet l yX4_resultAt (Cond.code yX4_resultAt cX4_resultAt 2 (Option.some Jvm.ClassFile.FieldType.int) :: zG) rm_X4_resultAt 0 0 T0) (h1 : zMet l yX4_workerAt (Cond.code yX4_workerAt cX4_workerAt 2 (Option.some Jvm.ClassFile.FieldType.int) :: zG) rm_X4_workerAt 0 0 T1) (h2 : zMet l yX6_judgePair (Cond.code yX6_judgePair cX6_judgePair 2 (Option.none : Option Jvm.ClassFile.FieldType) :: zG) rm_X6_judgePair 0 0 T2) (h3 : zMet l yX6_judgeThird (Cond.code yX6_judgeThird cX6_judgeThird 4 (Option.none : Option Jvm.ClassFile.FieldType) :: zG) rm_X6_judgeThird 0 0 T3) (p : Program) (e : Env) (s : State) (m : MethodId) (args : Array Value) (below : List Frame) (meth : Method) (c : Code) (D : va_G) (A : Nat → Prop) (a0 : Nat → Nat) (M0 : ZM) (K : ZRet) (KX : ZEx) (X : zCtx p l rm_X6_judge s m args meth c cX6_judge RX6 (Cond.code yX6_judge cX6_judge 7 (Option.none : Option Jvm.ClassFile.FieldType) :: zG) 7 (Option.none : Option Jvm.ClassFile.FieldType) D A a0 M0 0 0) (hnm : meth.name = yX6_judge.name) (hout : ∀ x ∈ c.exceptionTable.toList, False) : ∀ q ∈ cd_X6_judge T0 T1 T2 T3, zSd p l e rm_X6_judge s m args below meth c 7 D A a0 M0 K KX 0 0 q.1 q.2 :=
    zall_c (zs_aload_n X (pc := 0) (q := 0) rfl (by decide +kernel)) <|
    zall_c (zs_aload_n X (pc := 1) (q := 2) rfl (by decide +kernel)) <|
    zall_c (zs_geti X (pc := 2) zc_X4 (by decide) (zin ui_X4) (.tail _ gw_1_171) (by decide +kernel) (by decide +kernel)) <|
    zall_c (zs_puti X (pc := 5) (ty := Jvm.ClassFile.FieldType.int) zc_X6 (by decide) (zin ui_X6) tyX6_ok nmX6 (.tail _ gw_2_82) rfl (by decide +kernel) (by decide +kernel) (by decide +kernel) zP_int) <|
    zall_c (zs_aload_n X (pc := 8) (q := 0) rfl (by decide +kernel)) <|
    zall_c (zs_iconst X (pc := 9) (by decide) (by decide +kernel)) <|
    zall_c (zs_puti X (pc := 10) (ty := Jvm.ClassFile.FieldType.int) zc_X6 (by decide) (zin ui_X6) tyX6_ok nmX6 (.tail _ gw_2_85) rfl (by decide +kernel) (by decide +kernel) (by decide +kernel) zP_int) <|
    zall_c (zs_aload_n X (pc := 13) (q := 0) rfl (by decide +kernel)) <|
    zall_c (zs_iconst X (pc := 14) (by decide) (by decide +kernel)) <|
    zall_c (zs_puti X (pc := 15) (ty := Jvm.ClassFile.FieldType.int) zc_X6 (by decide) (zin ui_X6) tyX6_ok nmX6 (.tail _ gw_2_87) rfl (by decide +kernel) (by decide +kernel) (by decide +kernel) zP_int) <|
    zall_c (zs_aload_n X (pc := 18) (q := 0) rfl (by decide +kernel)) <|
    zall_c (zs_iconst X (pc := 19) (by decide) (by decide +kernel)) <|
    zall_c (zs_puti X (pc := 20) (ty := Jvm.ClassFile.FieldType.int) zc_X6 (by decide) (zin ui_X6) tyX6_ok nmX6 (.tail _ gw_2_89) rfl (by decide +kernel) (by decide +kernel) (by decide +kernel) zP_int) <|
    zall_c (zs_iconst X (pc := 23) (by decide) (by decide +kernel)) <|
    zall_c (zs_istore X (pc := 24) (by decide) (by decide +kernel)) <|
    zall_c (zs_iload X (pc := 26) (by decide +kernel)) <|
    zall_c (zs_iconst X (pc := 28) (by decide) (by decide +kernel)) <|
    zall_c (zs_icmp_ge X (pc := 29) (off := 85) (by decide +kernel) (by decide)) <|
    zall_c (zs_iload X (pc := 32) (by decide +kernel)) <|
    zall_c (zs_aload_n X (pc := 34) (q := 2) rfl (by decide +kernel)) <|
    zall_c (zs_geti X (pc := 35) zc_X4 (by decide) (zin ui_X4) (.tail _ gw_1_192) (by decide +kernel) (by decide +kernel)) <|
    zall_c (zs_icmp_ge X (pc := 38) (off := 7) (by decide +kernel) (by decide)) <|
    zall_c (zs_iconst X (pc := 41) (by decide) (by decide +kernel)) <|
    zall_c (zs_goto X (pc := 42) (off := 4) (by decide +kernel) (by decide)) <|
    zall_c (zs_iconst X (pc := 45) (by decide) (by decide +kernel)) <|
    zall_c (zs_istore X (pc := 46) (by decide) (by decide +kernel)) <|
    zall_c (zs_aload_n X (pc := 48) (q := 0) rfl (by decide +kernel)) <|
    zall_c (zs_getr X (pc := 49) zc_X6 (by decide) (zin ui_X6) (.tail _ gw_2_91) (by decide +kernel) (by decide +kernel)) <|
    zall_c (zs_iload X (pc := 52) (by decide +kernel)) <|
    zall_c (zs_iconst X (pc := 54) (by decide) (by decide +kernel)) <|
    zall_c (zs_iastore20 X (pc := 55) (by decide +kernel)) <|
    zall_c (zs_aload_n X (pc := 56) (q := 0) rfl (by decide +kernel)) <|
    zall_c (zs_getr X (pc := 57) zc_X6 (by decide) (zin ui_X6) (.tail _ gw_2_94) (by decide +kernel) (by decide +kernel)) <|
    zall_c (zs_iload X (pc := 60) (by decide +kernel)) <|
    zall_c (zs_iload X (pc := 62) (by decide +kernel)) <|
    zall_c (zs_if_eq X (pc := 64) (off := 12) (by decide +kernel) (by decide)) <|
    zall_c (zs_aload_n X (pc := 67) (q := 2) rfl (by decide +kernel)) <|
    zall_c (zs_iload X (pc := 68) (by decide +kernel)) <|
    zall_c (zs_callV0 X (pc := 70) zc_X4 (fun _ ht => ⟨(zCB ht gw_5_84 gw_1_10 gw_5_181 rfl rfl (by decide +kernel) ⟨Nat.le_of_ble_eq_true rfl, Nat.le_of_ble_eq_true rfl⟩), ht _ (.tail _ gw_5_82), ht _ (.tail _ gw_5_83)⟩) h0 hout (by decide +kernel)) <|
    zall_c (zs_goto X (pc := 73) (off := 4) (by decide +kernel) (by decide)) <|
    zall_c (zs_iconst X (pc := 76) (by decide) (by decide +kernel)) <|
    zall_c (zs_iastore20 X (pc := 77) (by decide +kernel)) <|
    zall_c (zs_aload_n X (pc := 78) (q := 0) rfl (by decide +kernel)) <|
    zall_c (zs_getr X (pc := 79) zc_X6 (by decide) (zin ui_X6) (.tail _ gw_2_95) (by decide +kernel) (by decide +kernel)) <|
    zall_c (zs_iload X (pc := 82) (by decide +kernel)) <|
    zall_c (zs_iload X (pc := 84) (by decide +kernel)) <|
    zall_c (zs_if_eq X (pc := 86) (off := 20) (by decide +kernel) (by decide)) <|
    zall_c (zs_aload_n X (pc := 89) (q := 1) rfl (by decide +kernel)) <|
    zall_c (zs_getr X (pc := 90) zc_X5 (by decide) (zin ui_X5) (.tail _ gw_1_235) (by decide +kernel) (by decide +kernel)) <|
    zall_c (zs_aload_n X (pc := 93) (q := 2) rfl (by decide +kernel)) <|
    zall_c (zs_iload X (pc := 94) (by decide +kernel)) <|
    zall_c (zs_callV0 X (pc := 96) zc_X4 (fun _ ht => ⟨(zCB ht gw_5_80 gw_1_10 gw_5_182 rfl rfl (by decide +kernel) ⟨Nat.le_of_ble_eq_true rfl, Nat.le_of_ble_eq_true rfl⟩), ht _ (.tail _ gw_5_78), ht _ (.tail _ gw_5_79)⟩) h1 hout (by decide +kernel)) <|
    zall_c (zs_aaload X (pc := 99) (by decide) rfl (by decide +kernel)) <|
    zall_c (zs_geti X (pc := 100) zc_X7 (by decide) (zin ui_X7) (.tail _ gw_1_121) (by decide +kernel) (by decide +kernel)) <|
    zall_c (zs_goto X (pc := 103) (off := 4) (by decide +kernel) (by decide)) <|
    zall_c (zs_iconst X (pc := 106) (by decide) (by decide +kernel)) <|
    zall_c (zs_iastore20 X (pc := 107) (by decide +kernel)) <|
    zall_c (zs_iinc X (pc := 108) (by decide) (by decide +kernel)) <|
    zall_c (zs_goto X (pc := 111) (off := (-85)) (by decide +kernel) (by decide)) <|
    zall_c (zs_aload_n X (pc := 114) (q := 0) rfl (by decide +kernel)) <|
    zall_c (zs_getr X (pc := 115) zc_X6 (by decide) (zin ui_X6) (.tail _ gw_2_94) (by decide +kernel) (by decide +kernel)) <|
    zall_c (zs_iload_n X (pc := 118) (q := 3) rfl (by decide +kernel)) <|
    zall_c (zs_iload X (pc := 119) (by decide +kernel)) <|
    zall_c (zs_iastore20 X (pc := 121) (by decide +kernel)) <|
    zall_c (zs_aload_n X (pc := 122) (q := 2) rfl (by decide +kernel)) <|
    zall_c (zs_geti X (pc := 123) zc_X4 (by decide) (zin ui_X4) (.tail _ gw_1_171) (by decide +kernel) (by decide +kernel)) <|
    zall_c (zs_if_ne X (pc := 126) (off := 11) (by decide +kernel) (by decide)) <|
    zall_c (zs_aload_n X (pc := 129) (q := 0) rfl (by decide +kernel)) <|
    zall_c (zs_aload_n X (pc := 130) (q := 1) rfl (by decide +kernel)) <|
    zall_c (zs_callV0 X (pc := 131) zc_X6 (fun _ ht => ⟨(zCB ht gw_5_186 gw_1_12 gw_5_183 rfl rfl (by decide +kernel) ⟨Nat.le_of_ble_eq_true rfl, Nat.le_of_ble_eq_true rfl⟩), ht _ (.tail _ gw_5_185), ht _ (.tail _ gp_21)⟩) h2 hout (by decide +kernel)) <|
    zall_c (zs_goto X (pc := 134) (off := 16) (by decide +kernel) (by decide)) <|
    zall_c (zs_aload_n X (pc := 137) (q := 2) rfl (by decide +kernel)) <|
    zall_c (zs_geti X (pc := 138) zc_X4 (by decide) (zin ui_X4) (.tail _ gw_1_171) (by decide +kernel) (by decide +kernel)) <|
    zall_c (zs_iconst X (pc := 141) (by decide) (by decide +kernel)) <|
    zall_c (zs_icmp_ne X (pc := 142) (off := 8) (by decide +kernel) (by decide)) <|
    zall_c (zs_aload_n X (pc := 145) (q := 0) rfl (by decide +kernel)) <|
    zall_c (zs_aload_n X (pc := 146) (q := 1) rfl (by decide +kernel)) <|
    zall_c (zs_callV0 X (pc := 147) zc_X6 (fun _ ht => ⟨(zCB ht gw_5_201 gw_1_12 gw_5_198 rfl rfl (by decide +kernel) ⟨Nat.le_of_ble_eq_true rfl, Nat.le_of_ble_eq_true rfl⟩), ht _ (.tail _ gw_5_200), ht _ (.tail _ gp_23)⟩) h3 hout (by decide +kernel)) <|
    zall_c (zs_vret X (pc := 150) rfl (by decide +kernel)) <|
    zall_n
theorem met_X6_judge {l : Launch} (hl : l.stackTraces = false) {T0 : ZTf} {T1 : ZTf} {T2 : ZTf} {T3 : ZTf} (h0 : zMet l yX4_resultAt (Cond.code yX4_resultAt cX4_resultAt 2 (Option.some Jvm.ClassFile.FieldType.int) :: zG) rm_X4_resultAt 0 0 T0) (h1 : zMet l yX4_workerAt (Cond.code yX4_workerAt cX4_workerAt 2 (Option.some Jvm.ClassFile.FieldType.int) :: zG) rm_X4_workerAt 0 0 T1) (h2 : zMet l yX6_judgePair (Cond.code yX6_judgePair cX6_judgePair 2 (Option.none : Option Jvm.ClassFile.FieldType) :: zG) rm_X6_judgePair 0 0 T2) (h3 : zMet l yX6_judgeThird (Cond.code yX6_judgeThird cX6_judgeThird 4 (Option.none : Option Jvm.ClassFile.FieldType) :: zG) rm_X6_judgeThird 0 0 T3) {T : ZTf} (bd : zBd (cd_X6_judge T0 T1 T2 T3) 7 0 0 T) : zMet l yX6_judge (Cond.code yX6_judge cX6_judge 7 (Option.none : Option Jvm.ClassFile.FieldType) :: zG) rm_X6_judge 0 0 T := zMet_of hl (by decide +kernel) rfl rfl rfl rfl (hs_X6_judge hl h0 h1 h2 h3) bd

abbrev rm_X8_init : Room := { frames := 5, cells := 605, slots := 6861, locals := 111 }
def cd_X8_init (T0 : ZTf) (T1 : ZTf) (T2 : ZTf) (T3 : ZTf) (T4 : ZTf) : List (Nat × ZTr) := [(0, tAld 0 1), (1, tObj 4), (4, tAld 0 5), (5, tNew 6 9 8), (8, tDup 9), (9, tCall 1 63 1151 (zNt T0) (zRcv 6) 12), (12, tPutR 11 0 15), (15, tAld 0 16), (16, tAld 0 17), (17, tGetR 11 0 20), (20, tGetR 6 2 23), (23, tPutR 11 1 26), (26, tAld 0 27), (27, tNew 8 10 30), (30, tDup 31), (31, tCall 1 58 618 (zNt T1) (zRcv 8) 34), (34, tPutR 11 2 37), (37, tAld 0 38), (38, tNew 4 3 41), (41, tDup 42), (42, tCall 1 355 3774 (zNt T2) (zRcv 4) 45), (45, tPutR 11 3 48), (48, tAld 0 49), (49, tC (zi 2) 50), (50, tNewA 32 53), (53, tPutR 11 4 56), (56, tC (zi 0) 57), (57, tIst 1 58), (58, tIld 1 59), (59, tC (zi 2) 60), (60, tIc_ge 82 63), (63, tAld 0 64), (64, tGetR 11 4 67), (67, tIld 1 68), (68, tNew 8 10 71), (71, tDup 72), (72, tCall 1 58 618 (zNt T1) (zRcv 8) 75), (75, tAas 32 8 76), (76, tInc 1 1 79), (79, tGo 58), (82, tAld 0 83), (83, tC (zi 2) 84), (84, tNewA 22 86), (86, tPutR 11 5 89), (89, tAld 0 90), (90, tNew 9 7 93), (93, tDup 94), (94, tCall 1 3 9 (zNt T3) (zRcv 9) 97), (97, tPutR 11 6 100), (100, tAld 0 101), (101, tNew 1 4 104), (104, tDup 105), (105, tCall 1 1 16 (zNt T4) (zRcv 1) 108), (108, tPutR 11 7 111), (111, tAld 0 112), (112, tC (zi 0) 113), (113, tPutI 11 8 (fun _ => True) 116), (116, tAld 0 117), (117, tC (zi (-1)) 118), (118, tPutI 11 9 (fun _ => True) 121), (121, tRv)]
set_option maxRecDepth 100000 in
set_option maxHeartbeats 4000000 in
theorem hs_X8_init {l : Launch} (hl : l.stackTraces = false) {T0 : ZTf} {T1 : ZTf} {T2 : ZTf} {T3 : ZTf} {T4 : ZTf} (h0 : zMet l yX3_init (Cond.code yX3_init cX3_init 1 (Option.none : Option Jvm.ClassFile.FieldType) :: zG) rm_X3_init 63 1151 T0) (h1 : zMet l yX5_init (Cond.code yX5_init cX5_init 2 (Option.none : Option Jvm.ClassFile.FieldType) :: zG) rm_X5_init 58 618 T1) (h2 : zMet l yX0_init (Cond.code yX0_init cX0_init 2 (Option.none : Option Jvm.ClassFile.FieldType) :: zG) rm_X0_init 355 3774 T2) (h3 : zMet l yX6_init (Cond.code yX6_init cX6_init 1 (Option.none : Option Jvm.ClassFile.FieldType) :: zG) rm_X6_init 3 9 T3) (h4 : zMet l yJ4_init_da8c8 (Cond.code yJ4_init_da8c8 cJ4_init_da8c8 1 (Option.none : Option Jvm.ClassFile.FieldType) :: zG) rm_J4_init_da8c8 1 16 T4) (p : Program) (e : Env) (s : State) (m : MethodId) (args : Array Value) (below : List Frame) (meth : Method) (c : Code) (D : va_G) (A : Nat → Prop) (a0 : Nat → Nat) (M0 : ZM) (K : ZRet) (KX : ZEx) (X : zCtx p l rm_X8_init s m args meth c cX8_init RX8 (Cond.code yX8_init cX8_init 2 (Option.none : Option Jvm.ClassFile.FieldType) :: zG) 2 (Option.none : Option Jvm.ClassFile.FieldType) D A a0 M0 605 6861) (hnm : meth.name = yX8_init.name) (hout : ∀ x ∈ c.exceptionTable.toList, False) : ∀ q ∈ cd_X8_init T0 T1 T2 T3 T4, zSd p l e rm_X8_init s m args below meth c 2 D A a0 M0 K KX 605 6861 q.1 q.2 :=
    zall_c (zs_aload_n X (pc := 0) (q := 0) rfl (by decide +kernel)) <|
    zall_c (zs_objinit X (pc := 1) (.tail _ gw_1_34) (.tail _ gw_1_35) (.tail _ gw_1_36) (by decide) (by decide) (by decide +kernel)) <|
    zall_c (zs_aload_n X (pc := 4) (q := 0) rfl (by decide +kernel)) <|
    zall_c (zs_new X (pc := 5) zc_X3 (zin ui_X3) tyX3_ok (.tail _ gw_1_37) (.tail _ gw_1_38) (.tail _ gw_1_2) (by decide +kernel) (by decide +kernel)) <|
    zall_c (zs_dup X (pc := 8) (by decide +kernel)) <|
    zall_c (zs_callIN X (pc := 9) (rt := none) (idx := 9) (host := "ReviewTable") (fun _ ht hxw => ⟨(zCN ht gw_1_41 gw_1_2 (by decide +kernel) hxw rfl rfl (by decide +kernel) ⟨Nat.le_of_ble_eq_true rfl, Nat.le_of_ble_eq_true rfl⟩), rfl, ht _ (.tail _ gw_1_40)⟩) h0 (by decide +kernel)) <|
    zall_c (zs_putrF X (pc := 12) (ty := (Jvm.ClassFile.FieldType.object "ReviewTable$Parser")) zc_X8 (by decide) (zin ui_X8) tyX8_ok nmX8 (.tail _ gw_2_114) rfl hnm rfl (by decide +kernel) (by decide +kernel) (by decide +kernel) zP_obj) <|
    zall_c (zs_aload_n X (pc := 15) (q := 0) rfl (by decide +kernel)) <|
    zall_c (zs_aload_n X (pc := 16) (q := 0) rfl (by decide +kernel)) <|
    zall_c (zs_getr X (pc := 17) zc_X8 (by decide) (zin ui_X8) (.tail _ gw_2_114) (by decide +kernel) (by decide +kernel)) <|
    zall_c (zs_getr X (pc := 20) zc_X3 (by decide) (zin ui_X3) (.tail _ gw_2_28) (by decide +kernel) (by decide +kernel)) <|
    zall_c (zs_putrF X (pc := 23) (ty := (Jvm.ClassFile.FieldType.object "ReviewTable$Input")) zc_X8 (by decide) (zin ui_X8) tyX8_ok nmX8 (.tail _ gw_2_115) rfl hnm rfl (by decide +kernel) (by decide +kernel) (by decide +kernel) zP_obj) <|
    zall_c (zs_aload_n X (pc := 26) (q := 0) rfl (by decide +kernel)) <|
    zall_c (zs_new X (pc := 27) zc_X5 (zin ui_X5) tyX5_ok (.tail _ gw_2_55) (.tail _ gw_1_97) (.tail _ gw_1_8) (by decide +kernel) (by decide +kernel)) <|
    zall_c (zs_dup X (pc := 30) (by decide +kernel)) <|
    zall_c (zs_callI X (pc := 31) (rt := none) (fun _ ht => ⟨(zCB ht gw_1_100 gw_1_8 gw_2_56 rfl rfl (by decide +kernel) ⟨Nat.le_of_ble_eq_true rfl, Nat.le_of_ble_eq_true rfl⟩), rfl, ht _ (.tail _ gw_1_99)⟩) h1 (by decide +kernel)) <|
    zall_c (zs_putrF X (pc := 34) (ty := (Jvm.ClassFile.FieldType.object "ReviewTable$Table")) zc_X8 (by decide) (zin ui_X8) tyX8_ok nmX8 (.tail _ gw_2_116) rfl hnm rfl (by decide +kernel) (by decide +kernel) (by decide +kernel) zP_obj) <|
    zall_c (zs_aload_n X (pc := 37) (q := 0) rfl (by decide +kernel)) <|
    zall_c (zs_new X (pc := 38) zc_X0 (zin ui_X0) tyX0_ok (.tail _ gw_2_57) (.tail _ gw_2_58) (.tail _ gw_1_11) (by decide +kernel) (by decide +kernel)) <|
    zall_c (zs_dup X (pc := 41) (by decide +kernel)) <|
    zall_c (zs_callI X (pc := 42) (rt := none) (fun _ ht => ⟨(zCB ht gw_2_61 gw_1_11 gw_2_59 rfl rfl (by decide +kernel) ⟨Nat.le_of_ble_eq_true rfl, Nat.le_of_ble_eq_true rfl⟩), rfl, ht _ (.tail _ gw_2_60)⟩) h2 (by decide +kernel)) <|
    zall_c (zs_putrF X (pc := 45) (ty := (Jvm.ClassFile.FieldType.object "ReviewTable$History")) zc_X8 (by decide) (zin ui_X8) tyX8_ok nmX8 (.tail _ gw_2_117) rfl hnm rfl (by decide +kernel) (by decide +kernel) (by decide +kernel) zP_obj) <|
    zall_c (zs_aload_n X (pc := 48) (q := 0) rfl (by decide +kernel)) <|
    zall_c (zs_iconst X (pc := 49) (by decide) (by decide +kernel)) <|
    zall_c (zs_anewarray X (pc := 50) (C := "ReviewTable$Table") (by decide) rfl (.tail _ gw_2_55) (by decide +kernel) (by decide +kernel)) <|
    zall_c (zs_putrF X (pc := 53) (ty := (Jvm.ClassFile.FieldType.array (Jvm.ClassFile.FieldType.object "ReviewTable$Table"))) zc_X8 (by decide) (zin ui_X8) tyX8_ok nmX8 (.tail _ gw_2_118) rfl hnm rfl (by decide +kernel) (by decide +kernel) (by decide +kernel) zP_arr) <|
    zall_c (zs_iconst X (pc := 56) (by decide) (by decide +kernel)) <|
    zall_c (zs_istore_n X (pc := 57) (q := 1) rfl (by decide) (by decide +kernel)) <|
    zall_c (zs_iload_n X (pc := 58) (q := 1) rfl (by decide +kernel)) <|
    zall_c (zs_iconst X (pc := 59) (by decide) (by decide +kernel)) <|
    zall_c (zs_icmp_ge X (pc := 60) (off := 22) (by decide +kernel) (by decide)) <|
    zall_c (zs_aload_n X (pc := 63) (q := 0) rfl (by decide +kernel)) <|
    zall_c (zs_getr X (pc := 64) zc_X8 (by decide) (zin ui_X8) (.tail _ gw_2_118) (by decide +kernel) (by decide +kernel)) <|
    zall_c (zs_iload_n X (pc := 67) (q := 1) rfl (by decide +kernel)) <|
    zall_c (zs_new X (pc := 68) zc_X5 (zin ui_X5) tyX5_ok (.tail _ gw_2_55) (.tail _ gw_1_97) (.tail _ gw_1_8) (by decide +kernel) (by decide +kernel)) <|
    zall_c (zs_dup X (pc := 71) (by decide +kernel)) <|
    zall_c (zs_callI X (pc := 72) (rt := none) (fun _ ht => ⟨(zCB ht gw_1_100 gw_1_8 gw_2_56 rfl rfl (by decide +kernel) ⟨Nat.le_of_ble_eq_true rfl, Nat.le_of_ble_eq_true rfl⟩), rfl, ht _ (.tail _ gw_1_99)⟩) h1 (by decide +kernel)) <|
    zall_c (zs_aastore X (pc := 75) (by decide) zc_X5 rfl (by decide +kernel)) <|
    zall_c (zs_iinc X (pc := 76) (by decide) (by decide +kernel)) <|
    zall_c (zs_goto X (pc := 79) (off := (-21)) (by decide +kernel) (by decide)) <|
    zall_c (zs_aload_n X (pc := 82) (q := 0) rfl (by decide +kernel)) <|
    zall_c (zs_iconst X (pc := 83) (by decide) (by decide +kernel)) <|
    zall_c (zs_newarray22 X (pc := 84) (.tail _ gw_2_111) (by decide +kernel)) <|
    zall_c (zs_putrF X (pc := 86) (ty := (Jvm.ClassFile.FieldType.array Jvm.ClassFile.FieldType.boolean)) zc_X8 (by decide) (zin ui_X8) tyX8_ok nmX8 (.tail _ gw_2_119) rfl hnm rfl (by decide +kernel) (by decide +kernel) (by decide +kernel) zP_arr) <|
    zall_c (zs_aload_n X (pc := 89) (q := 0) rfl (by decide +kernel)) <|
    zall_c (zs_new X (pc := 90) zc_X6 (zin ui_X6) tyX6_ok (.tail _ gw_2_76) (.tail _ gw_2_77) (.tail _ gw_1_12) (by decide +kernel) (by decide +kernel)) <|
    zall_c (zs_dup X (pc := 93) (by decide +kernel)) <|
    zall_c (zs_callIN X (pc := 94) (rt := none) (idx := 45) (host := "ReviewTable") (fun _ ht hxw => ⟨(zCN ht gw_2_80 gw_1_12 (by decide +kernel) hxw rfl rfl (by decide +kernel) ⟨Nat.le_of_ble_eq_true rfl, Nat.le_of_ble_eq_true rfl⟩), rfl, ht _ (.tail _ gw_2_79)⟩) h3 (by decide +kernel)) <|
    zall_c (zs_putrF X (pc := 97) (ty := (Jvm.ClassFile.FieldType.object "ReviewTable$Verdict")) zc_X8 (by decide) (zin ui_X8) tyX8_ok nmX8 (.tail _ gw_2_120) rfl hnm rfl (by decide +kernel) (by decide +kernel) (by decide +kernel) zP_obj) <|
    zall_c (zs_aload_n X (pc := 100) (q := 0) rfl (by decide +kernel)) <|
    zall_c (zs_new X (pc := 101) zc_J4 (zin ui_J4) tyJ4_ok (.tail _ gw_2_112) (.tail _ gw_1_50) (.tail _ gw_1_5) (by decide +kernel) (by decide +kernel)) <|
    zall_c (zs_dup X (pc := 104) (by decide +kernel)) <|
    zall_c (zs_callI X (pc := 105) (rt := none) (fun _ ht => ⟨(zCB ht gw_1_53 gw_1_5 gw_2_113 rfl rfl (by decide +kernel) ⟨Nat.le_of_ble_eq_true rfl, Nat.le_of_ble_eq_true rfl⟩), rfl, ht _ (.tail _ gw_1_52)⟩) h4 (by decide +kernel)) <|
    zall_c (zs_putrF X (pc := 108) (ty := (Jvm.ClassFile.FieldType.object "java/lang/StringBuilder")) zc_X8 (by decide) (zin ui_X8) tyX8_ok nmX8 (.tail _ gw_2_121) rfl hnm rfl (by decide +kernel) (by decide +kernel) (by decide +kernel) zP_obj) <|
    zall_c (zs_aload_n X (pc := 111) (q := 0) rfl (by decide +kernel)) <|
    zall_c (zs_iconst X (pc := 112) (by decide) (by decide +kernel)) <|
    zall_c (zs_puti X (pc := 113) (ty := Jvm.ClassFile.FieldType.int) zc_X8 (by decide) (zin ui_X8) tyX8_ok nmX8 (.tail _ gw_2_122) rfl (by decide +kernel) (by decide +kernel) (by decide +kernel) zP_int) <|
    zall_c (zs_aload_n X (pc := 116) (q := 0) rfl (by decide +kernel)) <|
    zall_c (zs_iconst X (pc := 117) (by decide) (by decide +kernel)) <|
    zall_c (zs_puti X (pc := 118) (ty := Jvm.ClassFile.FieldType.int) zc_X8 (by decide) (zin ui_X8) tyX8_ok nmX8 (.tail _ gw_2_123) rfl (by decide +kernel) (by decide +kernel) (by decide +kernel) zP_int) <|
    zall_c (zs_vret X (pc := 121) rfl (by decide +kernel)) <|
    zall_n
theorem met_X8_init {l : Launch} (hl : l.stackTraces = false) {T0 : ZTf} {T1 : ZTf} {T2 : ZTf} {T3 : ZTf} {T4 : ZTf} (h0 : zMet l yX3_init (Cond.code yX3_init cX3_init 1 (Option.none : Option Jvm.ClassFile.FieldType) :: zG) rm_X3_init 63 1151 T0) (h1 : zMet l yX5_init (Cond.code yX5_init cX5_init 2 (Option.none : Option Jvm.ClassFile.FieldType) :: zG) rm_X5_init 58 618 T1) (h2 : zMet l yX0_init (Cond.code yX0_init cX0_init 2 (Option.none : Option Jvm.ClassFile.FieldType) :: zG) rm_X0_init 355 3774 T2) (h3 : zMet l yX6_init (Cond.code yX6_init cX6_init 1 (Option.none : Option Jvm.ClassFile.FieldType) :: zG) rm_X6_init 3 9 T3) (h4 : zMet l yJ4_init_da8c8 (Cond.code yJ4_init_da8c8 cJ4_init_da8c8 1 (Option.none : Option Jvm.ClassFile.FieldType) :: zG) rm_J4_init_da8c8 1 16 T4) {T : ZTf} (bd : zBd (cd_X8_init T0 T1 T2 T3 T4) 2 605 6861 T) : zMet l yX8_init (Cond.code yX8_init cX8_init 2 (Option.none : Option Jvm.ClassFile.FieldType) :: zG) rm_X8_init 605 6861 T := zMet_of hl (by decide +kernel) rfl rfl rfl rfl (hs_X8_init hl h0 h1 h2 h3 h4) bd

abbrev rm_X8_stateIf : Room := { frames := 7, cells := 4, slots := 24, locals := 113 }
def cd_X8_stateIf (T0 : ZTf) (T1 : ZTf) (T2 : ZTf) (T3 : ZTf) (T4 : ZTf) : List (Nat × ZTr) := [(0, tAld 0 1), (1, tIld 1 2), (2, tCall 2 1 6 T0 (zRcv 11) 5), (5, tAld 0 6), (6, tIld 2 7), (7, tCall 2 1 6 T1 (zRcv 11) 10), (10, tIld 3 11), (11, tC (zi 0) 12), (12, tC (zi 99) 14), (14, tCall 3 1 6 T2 zAny 17), (17, tAld 0 18), (18, tIld 1 19), (19, tIld 2 20), (20, tCall 3 1 6 T3 (zRcv 11) 23), (23, tIst 4 25), (25, tAld 0 26), (26, tGetR 11 6 29), (29, tAld 0 30), (30, tGetR 11 2 33), (33, tAld 0 34), (34, tGetR 11 2 37), (37, tGetR 8 7 40), (40, tIld 2 41), (41, tAal 31 42), (42, tIld 4 44), (44, tIld 3 45), (45, tCall0 5 T4 (zRcv 9) 48), (48, tAld 0 49), (49, tGetR 11 6 52), (52, tGetI 9 0 55), (55, tRi (fun _ => True))]
set_option maxRecDepth 100000 in
set_option maxHeartbeats 4000000 in
theorem hs_X8_stateIf {l : Launch} (hl : l.stackTraces = false) {T0 : ZTf} {T1 : ZTf} {T2 : ZTf} {T3 : ZTf} {T4 : ZTf} (h0 : zMet l yX8_requireWorker (Cond.code yX8_requireWorker cX8_requireWorker 2 (Option.none : Option Jvm.ClassFile.FieldType) :: zG) rm_X8_requireWorker 1 6 T0) (h1 : zMet l yX8_requireRow (Cond.code yX8_requireRow cX8_requireRow 2 (Option.none : Option Jvm.ClassFile.FieldType) :: zG) rm_X8_requireRow 1 6 T1) (h2 : zMet l yX8_requireRange (Cond.code yX8_requireRange cX8_requireRange 3 (Option.none : Option Jvm.ClassFile.FieldType) :: zG) rm_X8_requireRange 1 6 T2) (h3 : zMet l yX8_requireInWork (Cond.code yX8_requireInWork cX8_requireInWork 4 (Option.some Jvm.ClassFile.FieldType.int) :: zG) rm_X8_requireInWork 1 6 T3) (h4 : zMet l yX6_judge (Cond.code yX6_judge cX6_judge 7 (Option.none : Option Jvm.ClassFile.FieldType) :: zG) rm_X6_judge 0 0 T4) (p : Program) (e : Env) (s : State) (m : MethodId) (args : Array Value) (below : List Frame) (meth : Method) (c : Code) (D : va_G) (A : Nat → Prop) (a0 : Nat → Nat) (M0 : ZM) (K : ZRet) (KX : ZEx) (X : zCtx p l rm_X8_stateIf s m args meth c cX8_stateIf RX8 (Cond.code yX8_stateIf cX8_stateIf 5 (Option.some Jvm.ClassFile.FieldType.int) :: zG) 5 (Option.some Jvm.ClassFile.FieldType.int) D A a0 M0 4 24) (hnm : meth.name = yX8_stateIf.name) (hout : ∀ x ∈ c.exceptionTable.toList, False) : ∀ q ∈ cd_X8_stateIf T0 T1 T2 T3 T4, zSd p l e rm_X8_stateIf s m args below meth c 5 D A a0 M0 K KX 4 24 q.1 q.2 :=
    zall_c (zs_aload_n X (pc := 0) (q := 0) rfl (by decide +kernel)) <|
    zall_c (zs_iload_n X (pc := 1) (q := 1) rfl (by decide +kernel)) <|
    zall_c (zs_callV X (pc := 2) zc_X8 (fun _ ht => ⟨(zCB ht gw_5_29 gw_1_1 gw_5_26 rfl rfl (by decide +kernel) ⟨Nat.le_of_ble_eq_true rfl, Nat.le_of_ble_eq_true rfl⟩), ht _ (.tail _ gw_5_28), ht _ (.tail _ gp_17)⟩) h0 hout (by decide +kernel)) <|
    zall_c (zs_aload_n X (pc := 5) (q := 0) rfl (by decide +kernel)) <|
    zall_c (zs_iload_n X (pc := 6) (q := 2) rfl (by decide +kernel)) <|
    zall_c (zs_callV X (pc := 7) zc_X8 (fun _ ht => ⟨(zCB ht gw_5_61 gw_1_1 gw_5_58 rfl rfl (by decide +kernel) ⟨Nat.le_of_ble_eq_true rfl, Nat.le_of_ble_eq_true rfl⟩), ht _ (.tail _ gw_5_60), ht _ (.tail _ gp_18)⟩) h1 hout (by decide +kernel)) <|
    zall_c (zs_iload_n X (pc := 10) (q := 3) rfl (by decide +kernel)) <|
    zall_c (zs_iconst X (pc := 11) (by decide) (by decide +kernel)) <|
    zall_c (zs_bipush X (pc := 12) (by decide) (by decide +kernel) (by decide +kernel)) <|
    zall_c (zs_callS X (pc := 14) (fun _ ht => ⟨(zCB ht gw_2_151 gw_1_1 gw_2_149 rfl rfl (by decide +kernel) ⟨Nat.le_of_ble_eq_true rfl, Nat.le_of_ble_eq_true rfl⟩), ht _ (.tail _ gw_2_150)⟩) h2 hout (by decide +kernel)) <|
    zall_c (zs_aload_n X (pc := 17) (q := 0) rfl (by decide +kernel)) <|
    zall_c (zs_iload_n X (pc := 18) (q := 1) rfl (by decide +kernel)) <|
    zall_c (zs_iload_n X (pc := 19) (q := 2) rfl (by decide +kernel)) <|
    zall_c (zs_callV X (pc := 20) zc_X8 (fun _ ht => ⟨(zCB ht gw_5_170 gw_1_1 gw_5_167 rfl rfl (by decide +kernel) ⟨Nat.le_of_ble_eq_true rfl, Nat.le_of_ble_eq_true rfl⟩), ht _ (.tail _ gw_5_169), ht _ (.tail _ gp_20)⟩) h3 hout (by decide +kernel)) <|
    zall_c (zs_istore X (pc := 23) (by decide) (by decide +kernel)) <|
    zall_c (zs_aload_n X (pc := 25) (q := 0) rfl (by decide +kernel)) <|
    zall_c (zs_getr X (pc := 26) zc_X8 (by decide) (zin ui_X8) (.tail _ gw_2_120) (by decide +kernel) (by decide +kernel)) <|
    zall_c (zs_aload_n X (pc := 29) (q := 0) rfl (by decide +kernel)) <|
    zall_c (zs_getr X (pc := 30) zc_X8 (by decide) (zin ui_X8) (.tail _ gw_2_116) (by decide +kernel) (by decide +kernel)) <|
    zall_c (zs_aload_n X (pc := 33) (q := 0) rfl (by decide +kernel)) <|
    zall_c (zs_getr X (pc := 34) zc_X8 (by decide) (zin ui_X8) (.tail _ gw_2_116) (by decide +kernel) (by decide +kernel)) <|
    zall_c (zs_getr X (pc := 37) zc_X5 (by decide) (zin ui_X5) (.tail _ gw_1_238) (by decide +kernel) (by decide +kernel)) <|
    zall_c (zs_iload_n X (pc := 40) (q := 2) rfl (by decide +kernel)) <|
    zall_c (zs_aaload X (pc := 41) (by decide) rfl (by decide +kernel)) <|
    zall_c (zs_iload X (pc := 42) (by decide +kernel)) <|
    zall_c (zs_iload_n X (pc := 44) (q := 3) rfl (by decide +kernel)) <|
    zall_c (zs_callV0 X (pc := 45) zc_X6 (fun _ ht => ⟨(zCB ht gw_5_180 gw_1_12 gw_5_177 rfl rfl (by decide +kernel) ⟨Nat.le_of_ble_eq_true rfl, Nat.le_of_ble_eq_true rfl⟩), ht _ (.tail _ gw_5_178), ht _ (.tail _ gw_5_179)⟩) h4 hout (by decide +kernel)) <|
    zall_c (zs_aload_n X (pc := 48) (q := 0) rfl (by decide +kernel)) <|
    zall_c (zs_getr X (pc := 49) zc_X8 (by decide) (zin ui_X8) (.tail _ gw_2_120) (by decide +kernel) (by decide +kernel)) <|
    zall_c (zs_geti X (pc := 52) zc_X6 (by decide) (zin ui_X6) (.tail _ gw_2_84) (by decide +kernel) (by decide +kernel)) <|
    zall_c (zs_iret X (pc := 55) rfl (by decide +kernel)) <|
    zall_n
theorem met_X8_stateIf {l : Launch} (hl : l.stackTraces = false) {T0 : ZTf} {T1 : ZTf} {T2 : ZTf} {T3 : ZTf} {T4 : ZTf} (h0 : zMet l yX8_requireWorker (Cond.code yX8_requireWorker cX8_requireWorker 2 (Option.none : Option Jvm.ClassFile.FieldType) :: zG) rm_X8_requireWorker 1 6 T0) (h1 : zMet l yX8_requireRow (Cond.code yX8_requireRow cX8_requireRow 2 (Option.none : Option Jvm.ClassFile.FieldType) :: zG) rm_X8_requireRow 1 6 T1) (h2 : zMet l yX8_requireRange (Cond.code yX8_requireRange cX8_requireRange 3 (Option.none : Option Jvm.ClassFile.FieldType) :: zG) rm_X8_requireRange 1 6 T2) (h3 : zMet l yX8_requireInWork (Cond.code yX8_requireInWork cX8_requireInWork 4 (Option.some Jvm.ClassFile.FieldType.int) :: zG) rm_X8_requireInWork 1 6 T3) (h4 : zMet l yX6_judge (Cond.code yX6_judge cX6_judge 7 (Option.none : Option Jvm.ClassFile.FieldType) :: zG) rm_X6_judge 0 0 T4) {T : ZTf} (bd : zBd (cd_X8_stateIf T0 T1 T2 T3 T4) 5 4 24 T) : zMet l yX8_stateIf (Cond.code yX8_stateIf cX8_stateIf 5 (Option.some Jvm.ClassFile.FieldType.int) :: zG) rm_X8_stateIf 4 24 T := zMet_of hl (by decide +kernel) rfl rfl rfl rfl (hs_X8_stateIf hl h0 h1 h2 h3 h4) bd

abbrev rm_X8_trustIf : Room := { frames := 7, cells := 5, slots := 30, locals := 113 }
def cd_X8_trustIf (T0 : ZTf) (T1 : ZTf) (T2 : ZTf) (T3 : ZTf) (T4 : ZTf) (T5 : ZTf) (T6 : ZTf) : List (Nat × ZTr) := [(0, tAld 0 1), (1, tIld 1 2), (2, tCall 2 1 6 T0 (zRcv 11) 5), (5, tAld 0 6), (6, tIld 2 7), (7, tCall 2 1 6 T1 (zRcv 11) 10), (10, tAld 0 11), (11, tIld 4 13), (13, tCall 2 1 6 T0 (zRcv 11) 16), (16, tIld 3 17), (17, tC (zi 0) 18), (18, tC (zi 99) 20), (20, tCall 3 1 6 T2 zAny 23), (23, tAld 0 24), (24, tIld 1 25), (25, tIld 2 26), (26, tCall 3 1 6 T3 (zRcv 11) 29), (29, tIst 5 31), (31, tAld 0 32), (32, tGetR 11 2 35), (35, tGetR 8 7 38), (38, tIld 2 39), (39, tAal 31 40), (40, tAst 6 42), (42, tAld 0 43), (43, tGetR 11 6 46), (46, tAld 0 47), (47, tGetR 11 2 50), (50, tAld 6 52), (52, tIld 5 54), (54, tIld 3 55), (55, tCall0 5 T4 (zRcv 9) 58), (58, tAld 0 59), (59, tGetR 11 2 62), (62, tGetR 8 6 65), (65, tIld 4 67), (67, tAal 30 68), (68, tGetI 10 3 71), (71, tIst 7 73), (73, tAld 6 75), (75, tIld 4 77), (77, tCall0 2 T5 (zRcv 7) 80), (80, tIst 8 82), (82, tIld 8 84), (84, tC (zi (-1)) 85), (85, tIc_ne 93 88), (88, tIld 7 90), (90, tGo 109), (93, tIld 7 95), (95, tAld 0 96), (96, tGetR 11 6 99), (99, tGetR 9 4 102), (102, tIld 8 104), (104, tIal 20 105), (105, tAdd 106), (106, tCall0 1 T6 zAny 109), (109, tRi (fun _ => True))]
set_option maxRecDepth 100000 in
set_option maxHeartbeats 4000000 in
theorem hs_X8_trustIf {l : Launch} (hl : l.stackTraces = false) {T0 : ZTf} {T1 : ZTf} {T2 : ZTf} {T3 : ZTf} {T4 : ZTf} {T5 : ZTf} {T6 : ZTf} (h0 : zMet l yX8_requireWorker (Cond.code yX8_requireWorker cX8_requireWorker 2 (Option.none : Option Jvm.ClassFile.FieldType) :: zG) rm_X8_requireWorker 1 6 T0) (h1 : zMet l yX8_requireRow (Cond.code yX8_requireRow cX8_requireRow 2 (Option.none : Option Jvm.ClassFile.FieldType) :: zG) rm_X8_requireRow 1 6 T1) (h2 : zMet l yX8_requireRange (Cond.code yX8_requireRange cX8_requireRange 3 (Option.none : Option Jvm.ClassFile.FieldType) :: zG) rm_X8_requireRange 1 6 T2) (h3 : zMet l yX8_requireInWork (Cond.code yX8_requireInWork cX8_requireInWork 4 (Option.some Jvm.ClassFile.FieldType.int) :: zG) rm_X8_requireInWork 1 6 T3) (h4 : zMet l yX6_judge (Cond.code yX6_judge cX6_judge 7 (Option.none : Option Jvm.ClassFile.FieldType) :: zG) rm_X6_judge 0 0 T4) (h5 : zMet l yX4_takingBy (Cond.code yX4_takingBy cX4_takingBy 3 (Option.some Jvm.ClassFile.FieldType.int) :: zG) rm_X4_takingBy 0 0 T5) (h6 : zMet l yX8_withinTrust (Cond.code yX8_withinTrust cX8_withinTrust 1 (Option.some Jvm.ClassFile.FieldType.int) :: zG) rm_X8_withinTrust 0 0 T6) (p : Program) (e : Env) (s : State) (m : MethodId) (args : Array Value) (below : List Frame) (meth : Method) (c : Code) (D : va_G) (A : Nat → Prop) (a0 : Nat → Nat) (M0 : ZM) (K : ZRet) (KX : ZEx) (X : zCtx p l rm_X8_trustIf s m args meth c cX8_trustIf RX8 (Cond.code yX8_trustIf cX8_trustIf 9 (Option.some Jvm.ClassFile.FieldType.int) :: zG) 9 (Option.some Jvm.ClassFile.FieldType.int) D A a0 M0 5 30) (hnm : meth.name = yX8_trustIf.name) (hout : ∀ x ∈ c.exceptionTable.toList, False) : ∀ q ∈ cd_X8_trustIf T0 T1 T2 T3 T4 T5 T6, zSd p l e rm_X8_trustIf s m args below meth c 9 D A a0 M0 K KX 5 30 q.1 q.2 :=
    zall_c (zs_aload_n X (pc := 0) (q := 0) rfl (by decide +kernel)) <|
    zall_c (zs_iload_n X (pc := 1) (q := 1) rfl (by decide +kernel)) <|
    zall_c (zs_callV X (pc := 2) zc_X8 (fun _ ht => ⟨(zCB ht gw_5_29 gw_1_1 gw_5_26 rfl rfl (by decide +kernel) ⟨Nat.le_of_ble_eq_true rfl, Nat.le_of_ble_eq_true rfl⟩), ht _ (.tail _ gw_5_28), ht _ (.tail _ gp_17)⟩) h0 hout (by decide +kernel)) <|
    zall_c (zs_aload_n X (pc := 5) (q := 0) rfl (by decide +kernel)) <|
    zall_c (zs_iload_n X (pc := 6) (q := 2) rfl (by decide +kernel)) <|
    zall_c (zs_callV X (pc := 7) zc_X8 (fun _ ht => ⟨(zCB ht gw_5_61 gw_1_1 gw_5_58 rfl rfl (by decide +kernel) ⟨Nat.le_of_ble_eq_true rfl, Nat.le_of_ble_eq_true rfl⟩), ht _ (.tail _ gw_5_60), ht _ (.tail _ gp_18)⟩) h1 hout (by decide +kernel)) <|
    zall_c (zs_aload_n X (pc := 10) (q := 0) rfl (by decide +kernel)) <|
    zall_c (zs_iload X (pc := 11) (by decide +kernel)) <|
    zall_c (zs_callV X (pc := 13) zc_X8 (fun _ ht => ⟨(zCB ht gw_5_29 gw_1_1 gw_5_26 rfl rfl (by decide +kernel) ⟨Nat.le_of_ble_eq_true rfl, Nat.le_of_ble_eq_true rfl⟩), ht _ (.tail _ gw_5_28), ht _ (.tail _ gp_17)⟩) h0 hout (by decide +kernel)) <|
    zall_c (zs_iload_n X (pc := 16) (q := 3) rfl (by decide +kernel)) <|
    zall_c (zs_iconst X (pc := 17) (by decide) (by decide +kernel)) <|
    zall_c (zs_bipush X (pc := 18) (by decide) (by decide +kernel) (by decide +kernel)) <|
    zall_c (zs_callS X (pc := 20) (fun _ ht => ⟨(zCB ht gw_2_151 gw_1_1 gw_2_149 rfl rfl (by decide +kernel) ⟨Nat.le_of_ble_eq_true rfl, Nat.le_of_ble_eq_true rfl⟩), ht _ (.tail _ gw_2_150)⟩) h2 hout (by decide +kernel)) <|
    zall_c (zs_aload_n X (pc := 23) (q := 0) rfl (by decide +kernel)) <|
    zall_c (zs_iload_n X (pc := 24) (q := 1) rfl (by decide +kernel)) <|
    zall_c (zs_iload_n X (pc := 25) (q := 2) rfl (by decide +kernel)) <|
    zall_c (zs_callV X (pc := 26) zc_X8 (fun _ ht => ⟨(zCB ht gw_5_170 gw_1_1 gw_5_167 rfl rfl (by decide +kernel) ⟨Nat.le_of_ble_eq_true rfl, Nat.le_of_ble_eq_true rfl⟩), ht _ (.tail _ gw_5_169), ht _ (.tail _ gp_20)⟩) h3 hout (by decide +kernel)) <|
    zall_c (zs_istore X (pc := 29) (by decide) (by decide +kernel)) <|
    zall_c (zs_aload_n X (pc := 31) (q := 0) rfl (by decide +kernel)) <|
    zall_c (zs_getr X (pc := 32) zc_X8 (by decide) (zin ui_X8) (.tail _ gw_2_116) (by decide +kernel) (by decide +kernel)) <|
    zall_c (zs_getr X (pc := 35) zc_X5 (by decide) (zin ui_X5) (.tail _ gw_1_238) (by decide +kernel) (by decide +kernel)) <|
    zall_c (zs_iload_n X (pc := 38) (q := 2) rfl (by decide +kernel)) <|
    zall_c (zs_aaload X (pc := 39) (by decide) rfl (by decide +kernel)) <|
    zall_c (zs_astore X (pc := 40) (by decide) (by decide +kernel)) <|
    zall_c (zs_aload_n X (pc := 42) (q := 0) rfl (by decide +kernel)) <|
    zall_c (zs_getr X (pc := 43) zc_X8 (by decide) (zin ui_X8) (.tail _ gw_2_120) (by decide +kernel) (by decide +kernel)) <|
    zall_c (zs_aload_n X (pc := 46) (q := 0) rfl (by decide +kernel)) <|
    zall_c (zs_getr X (pc := 47) zc_X8 (by decide) (zin ui_X8) (.tail _ gw_2_116) (by decide +kernel) (by decide +kernel)) <|
    zall_c (zs_aload X (pc := 50) (by decide +kernel)) <|
    zall_c (zs_iload X (pc := 52) (by decide +kernel)) <|
    zall_c (zs_iload_n X (pc := 54) (q := 3) rfl (by decide +kernel)) <|
    zall_c (zs_callV0 X (pc := 55) zc_X6 (fun _ ht => ⟨(zCB ht gw_5_180 gw_1_12 gw_5_177 rfl rfl (by decide +kernel) ⟨Nat.le_of_ble_eq_true rfl, Nat.le_of_ble_eq_true rfl⟩), ht _ (.tail _ gw_5_178), ht _ (.tail _ gw_5_179)⟩) h4 hout (by decide +kernel)) <|
    zall_c (zs_aload_n X (pc := 58) (q := 0) rfl (by decide +kernel)) <|
    zall_c (zs_getr X (pc := 59) zc_X8 (by decide) (zin ui_X8) (.tail _ gw_2_116) (by decide +kernel) (by decide +kernel)) <|
    zall_c (zs_getr X (pc := 62) zc_X5 (by decide) (zin ui_X5) (.tail _ gw_1_236) (by decide +kernel) (by decide +kernel)) <|
    zall_c (zs_iload X (pc := 65) (by decide +kernel)) <|
    zall_c (zs_aaload X (pc := 67) (by decide) rfl (by decide +kernel)) <|
    zall_c (zs_geti X (pc := 68) zc_X7 (by decide) (zin ui_X7) (.tail _ gw_1_122) (by decide +kernel) (by decide +kernel)) <|
    zall_c (zs_istore X (pc := 71) (by decide) (by decide +kernel)) <|
    zall_c (zs_aload X (pc := 73) (by decide +kernel)) <|
    zall_c (zs_iload X (pc := 75) (by decide +kernel)) <|
    zall_c (zs_callV0 X (pc := 77) zc_X4 (fun _ ht => ⟨(zCB ht gw_5_174 gw_1_10 gw_5_171 rfl rfl (by decide +kernel) ⟨Nat.le_of_ble_eq_true rfl, Nat.le_of_ble_eq_true rfl⟩), ht _ (.tail _ gw_5_172), ht _ (.tail _ gw_5_173)⟩) h5 hout (by decide +kernel)) <|
    zall_c (zs_istore X (pc := 80) (by decide) (by decide +kernel)) <|
    zall_c (zs_iload X (pc := 82) (by decide +kernel)) <|
    zall_c (zs_iconst X (pc := 84) (by decide) (by decide +kernel)) <|
    zall_c (zs_icmp_ne X (pc := 85) (off := 8) (by decide +kernel) (by decide)) <|
    zall_c (zs_iload X (pc := 88) (by decide +kernel)) <|
    zall_c (zs_goto X (pc := 90) (off := 19) (by decide +kernel) (by decide)) <|
    zall_c (zs_iload X (pc := 93) (by decide +kernel)) <|
    zall_c (zs_aload_n X (pc := 95) (q := 0) rfl (by decide +kernel)) <|
    zall_c (zs_getr X (pc := 96) zc_X8 (by decide) (zin ui_X8) (.tail _ gw_2_120) (by decide +kernel) (by decide +kernel)) <|
    zall_c (zs_getr X (pc := 99) zc_X6 (by decide) (zin ui_X6) (.tail _ gw_2_93) (by decide +kernel) (by decide +kernel)) <|
    zall_c (zs_iload X (pc := 102) (by decide +kernel)) <|
    zall_c (zs_iaload20 X (pc := 104) (by decide +kernel)) <|
    zall_c (zs_iadd X (pc := 105) (by decide +kernel)) <|
    zall_c (zs_callS0 X (pc := 106) (fun _ ht => ⟨(zCB ht gw_5_222 gw_1_1 gw_6_84 rfl rfl (by decide +kernel) ⟨Nat.le_of_ble_eq_true rfl, Nat.le_of_ble_eq_true rfl⟩), ht _ (.tail _ gw_5_221)⟩) h6 hout (by decide +kernel)) <|
    zall_c (zs_iret X (pc := 109) rfl (by decide +kernel)) <|
    zall_n
theorem met_X8_trustIf {l : Launch} (hl : l.stackTraces = false) {T0 : ZTf} {T1 : ZTf} {T2 : ZTf} {T3 : ZTf} {T4 : ZTf} {T5 : ZTf} {T6 : ZTf} (h0 : zMet l yX8_requireWorker (Cond.code yX8_requireWorker cX8_requireWorker 2 (Option.none : Option Jvm.ClassFile.FieldType) :: zG) rm_X8_requireWorker 1 6 T0) (h1 : zMet l yX8_requireRow (Cond.code yX8_requireRow cX8_requireRow 2 (Option.none : Option Jvm.ClassFile.FieldType) :: zG) rm_X8_requireRow 1 6 T1) (h2 : zMet l yX8_requireRange (Cond.code yX8_requireRange cX8_requireRange 3 (Option.none : Option Jvm.ClassFile.FieldType) :: zG) rm_X8_requireRange 1 6 T2) (h3 : zMet l yX8_requireInWork (Cond.code yX8_requireInWork cX8_requireInWork 4 (Option.some Jvm.ClassFile.FieldType.int) :: zG) rm_X8_requireInWork 1 6 T3) (h4 : zMet l yX6_judge (Cond.code yX6_judge cX6_judge 7 (Option.none : Option Jvm.ClassFile.FieldType) :: zG) rm_X6_judge 0 0 T4) (h5 : zMet l yX4_takingBy (Cond.code yX4_takingBy cX4_takingBy 3 (Option.some Jvm.ClassFile.FieldType.int) :: zG) rm_X4_takingBy 0 0 T5) (h6 : zMet l yX8_withinTrust (Cond.code yX8_withinTrust cX8_withinTrust 1 (Option.some Jvm.ClassFile.FieldType.int) :: zG) rm_X8_withinTrust 0 0 T6) {T : ZTf} (bd : zBd (cd_X8_trustIf T0 T1 T2 T3 T4 T5 T6) 9 5 30 T) : zMet l yX8_trustIf (Cond.code yX8_trustIf cX8_trustIf 9 (Option.some Jvm.ClassFile.FieldType.int) :: zG) rm_X8_trustIf 5 30 T := zMet_of hl (by decide +kernel) rfl rfl rfl rfl (hs_X8_trustIf hl h0 h1 h2 h3 h4 h5 h6) bd

abbrev rm_X8_take : Room := { frames := 7, cells := 2, slots := 12, locals := 169 }
def cd_X8_take (T0 : ZTf) (T1 : ZTf) (T2 : ZTf) (T3 : ZTf) : List (Nat × ZTr) := [(0, tAld 0 1), (1, tIld 1 2), (2, tCall 2 1 6 T0 (zRcv 11) 5), (5, tAld 0 6), (6, tGetR 11 2 9), (9, tIld 1 10), (10, tCall0 2 T1 (zRcv 8) 13), (13, tIst 2 14), (14, tIld 2 15), (15, tC (zi (-1)) 16), (16, tIc_ne 30 19), (19, tThr 2), (30, tAld 0 31), (31, tGetR 11 3 34), (34, tAld 0 35), (35, tGetR 11 2 38), (38, tCall0 2 T2 (zRcv 4) 41), (41, tAld 0 42), (42, tGetR 11 2 45), (45, tIld 1 46), (46, tIld 2 47), (47, tCall0 3 T3 (zRcv 8) 50), (50, tPop 51), (51, tIld 2 52), (52, tRi (fun _ => True))]
set_option maxRecDepth 100000 in
set_option maxHeartbeats 4000000 in
theorem hs_X8_take {l : Launch} (hl : l.stackTraces = false) {T0 : ZTf} {T1 : ZTf} {T2 : ZTf} {T3 : ZTf} (h0 : zMet l yX8_requireWorker (Cond.code yX8_requireWorker cX8_requireWorker 2 (Option.none : Option Jvm.ClassFile.FieldType) :: zG) rm_X8_requireWorker 1 6 T0) (h1 : zMet l yX5_chosenRow (Cond.code yX5_chosenRow cX5_chosenRow 6 (Option.some Jvm.ClassFile.FieldType.int) :: zG) rm_X5_chosenRow 0 0 T1) (h2 : zMet l yX0_remember (Cond.code yX0_remember cX0_remember 2 (Option.none : Option Jvm.ClassFile.FieldType) :: zG) rm_X0_remember 0 0 T2) (h3 : zMet l yX5_startTaking (Cond.code yX5_startTaking cX5_startTaking 4 (Option.some Jvm.ClassFile.FieldType.int) :: zG) rm_X5_startTaking 0 0 T3) (p : Program) (e : Env) (s : State) (m : MethodId) (args : Array Value) (below : List Frame) (meth : Method) (c : Code) (D : va_G) (A : Nat → Prop) (a0 : Nat → Nat) (M0 : ZM) (K : ZRet) (KX : ZEx) (X : zCtx p l rm_X8_take s m args meth c cX8_take RX8 (Cond.code yX8_take cX8_take 3 (Option.some Jvm.ClassFile.FieldType.int) :: zG) 3 (Option.some Jvm.ClassFile.FieldType.int) D A a0 M0 2 12) (hnm : meth.name = yX8_take.name) (hout : ∀ x ∈ c.exceptionTable.toList, False) : ∀ q ∈ cd_X8_take T0 T1 T2 T3, zSd p l e rm_X8_take s m args below meth c 3 D A a0 M0 K KX 2 12 q.1 q.2 :=
    zall_c (zs_aload_n X (pc := 0) (q := 0) rfl (by decide +kernel)) <|
    zall_c (zs_iload_n X (pc := 1) (q := 1) rfl (by decide +kernel)) <|
    zall_c (zs_callV X (pc := 2) zc_X8 (fun _ ht => ⟨(zCB ht gw_5_29 gw_1_1 gw_5_26 rfl rfl (by decide +kernel) ⟨Nat.le_of_ble_eq_true rfl, Nat.le_of_ble_eq_true rfl⟩), ht _ (.tail _ gw_5_28), ht _ (.tail _ gp_17)⟩) h0 hout (by decide +kernel)) <|
    zall_c (zs_aload_n X (pc := 5) (q := 0) rfl (by decide +kernel)) <|
    zall_c (zs_getr X (pc := 6) zc_X8 (by decide) (zin ui_X8) (.tail _ gw_2_116) (by decide +kernel) (by decide +kernel)) <|
    zall_c (zs_iload_n X (pc := 9) (q := 1) rfl (by decide +kernel)) <|
    zall_c (zs_callV0 X (pc := 10) zc_X5 (fun _ ht => ⟨(zCB ht gw_5_115 gw_1_8 gw_5_112 rfl rfl (by decide +kernel) ⟨Nat.le_of_ble_eq_true rfl, Nat.le_of_ble_eq_true rfl⟩), ht _ (.tail _ gw_5_113), ht _ (.tail _ gw_5_114)⟩) h1 hout (by decide +kernel)) <|
    zall_c (zs_istore_n X (pc := 13) (q := 2) rfl (by decide) (by decide +kernel)) <|
    zall_c (zs_iload_n X (pc := 14) (q := 2) rfl (by decide +kernel)) <|
    zall_c (zs_iconst X (pc := 15) (by decide) (by decide +kernel)) <|
    zall_c (zs_icmp_ne X (pc := 16) (off := 14) (by decide +kernel) (by decide)) <|
    zall_c (zs_throww X (pc := 19) (ik := 69) (is := 308) (ic := 73) (cls := "java/lang/IllegalStateException") (text := "no row that the worker can take") (names := ["java/lang/RuntimeException", "java/lang/Exception"]) rfl (by decide +kernel) (by decide +kernel) (.tail _ gw_4_33) (.tail _ gw_1_24) (by decide +kernel) (zin gt_X8_73) gt_X8_73x (by decide +kernel) hout (by decide) (by decide) (by decide +kernel) (by decide +kernel) (by decide +kernel) (by decide +kernel) (by decide +kernel)) <|
    zall_c (zs_aload_n X (pc := 30) (q := 0) rfl (by decide +kernel)) <|
    zall_c (zs_getr X (pc := 31) zc_X8 (by decide) (zin ui_X8) (.tail _ gw_2_117) (by decide +kernel) (by decide +kernel)) <|
    zall_c (zs_aload_n X (pc := 34) (q := 0) rfl (by decide +kernel)) <|
    zall_c (zs_getr X (pc := 35) zc_X8 (by decide) (zin ui_X8) (.tail _ gw_2_116) (by decide +kernel) (by decide +kernel)) <|
    zall_c (zs_callV0 X (pc := 38) zc_X0 (fun _ ht => ⟨(zCB ht gw_4_237 gw_1_11 gw_4_234 rfl rfl (by decide +kernel) ⟨Nat.le_of_ble_eq_true rfl, Nat.le_of_ble_eq_true rfl⟩), ht _ (.tail _ gw_4_235), ht _ (.tail _ gw_4_236)⟩) h2 hout (by decide +kernel)) <|
    zall_c (zs_aload_n X (pc := 41) (q := 0) rfl (by decide +kernel)) <|
    zall_c (zs_getr X (pc := 42) zc_X8 (by decide) (zin ui_X8) (.tail _ gw_2_116) (by decide +kernel) (by decide +kernel)) <|
    zall_c (zs_iload_n X (pc := 45) (q := 1) rfl (by decide +kernel)) <|
    zall_c (zs_iload_n X (pc := 46) (q := 2) rfl (by decide +kernel)) <|
    zall_c (zs_callV0 X (pc := 47) zc_X5 (fun _ ht => ⟨(zCB ht gw_5_142 gw_1_8 gw_5_139 rfl rfl (by decide +kernel) ⟨Nat.le_of_ble_eq_true rfl, Nat.le_of_ble_eq_true rfl⟩), ht _ (.tail _ gw_5_140), ht _ (.tail _ gw_5_141)⟩) h3 hout (by decide +kernel)) <|
    zall_c (zs_pop X (pc := 50) (by decide +kernel)) <|
    zall_c (zs_iload_n X (pc := 51) (q := 2) rfl (by decide +kernel)) <|
    zall_c (zs_iret X (pc := 52) rfl (by decide +kernel)) <|
    zall_n
theorem met_X8_take {l : Launch} (hl : l.stackTraces = false) {T0 : ZTf} {T1 : ZTf} {T2 : ZTf} {T3 : ZTf} (h0 : zMet l yX8_requireWorker (Cond.code yX8_requireWorker cX8_requireWorker 2 (Option.none : Option Jvm.ClassFile.FieldType) :: zG) rm_X8_requireWorker 1 6 T0) (h1 : zMet l yX5_chosenRow (Cond.code yX5_chosenRow cX5_chosenRow 6 (Option.some Jvm.ClassFile.FieldType.int) :: zG) rm_X5_chosenRow 0 0 T1) (h2 : zMet l yX0_remember (Cond.code yX0_remember cX0_remember 2 (Option.none : Option Jvm.ClassFile.FieldType) :: zG) rm_X0_remember 0 0 T2) (h3 : zMet l yX5_startTaking (Cond.code yX5_startTaking cX5_startTaking 4 (Option.some Jvm.ClassFile.FieldType.int) :: zG) rm_X5_startTaking 0 0 T3) {T : ZTf} (bd : zBd (cd_X8_take T0 T1 T2 T3) 3 2 12 T) : zMet l yX8_take (Cond.code yX8_take cX8_take 3 (Option.some Jvm.ClassFile.FieldType.int) :: zG) rm_X8_take 2 12 T := zMet_of hl (by decide +kernel) rfl rfl rfl rfl (hs_X8_take hl h0 h1 h2 h3) bd

abbrev rm_X8_takeRow : Room := { frames := 7, cells := 3, slots := 18, locals := 124 }
def cd_X8_takeRow (T0 : ZTf) (T1 : ZTf) (T2 : ZTf) (T3 : ZTf) (T4 : ZTf) : List (Nat × ZTr) := [(0, tAld 0 1), (1, tIld 1 2), (2, tCall 2 1 6 T0 (zRcv 11) 5), (5, tAld 0 6), (6, tIld 2 7), (7, tCall 2 1 6 T1 (zRcv 11) 10), (10, tAld 0 11), (11, tGetR 11 2 14), (14, tIld 1 15), (15, tIld 2 16), (16, tCall0 3 T2 (zRcv 8) 19), (19, tIf_eq 33 22), (22, tThr 2), (33, tAld 0 34), (34, tGetR 11 3 37), (37, tAld 0 38), (38, tGetR 11 2 41), (41, tCall0 2 T3 (zRcv 4) 44), (44, tAld 0 45), (45, tGetR 11 2 48), (48, tIld 1 49), (49, tIld 2 50), (50, tCall0 3 T4 (zRcv 8) 53), (53, tRi (fun _ => True))]
set_option maxRecDepth 100000 in
set_option maxHeartbeats 4000000 in
theorem hs_X8_takeRow {l : Launch} (hl : l.stackTraces = false) {T0 : ZTf} {T1 : ZTf} {T2 : ZTf} {T3 : ZTf} {T4 : ZTf} (h0 : zMet l yX8_requireWorker (Cond.code yX8_requireWorker cX8_requireWorker 2 (Option.none : Option Jvm.ClassFile.FieldType) :: zG) rm_X8_requireWorker 1 6 T0) (h1 : zMet l yX8_requireRow (Cond.code yX8_requireRow cX8_requireRow 2 (Option.none : Option Jvm.ClassFile.FieldType) :: zG) rm_X8_requireRow 1 6 T1) (h2 : zMet l yX5_reasonAgainst (Cond.code yX5_reasonAgainst cX5_reasonAgainst 3 (Option.some Jvm.ClassFile.FieldType.int) :: zG) rm_X5_reasonAgainst 0 0 T2) (h3 : zMet l yX0_remember (Cond.code yX0_remember cX0_remember 2 (Option.none : Option Jvm.ClassFile.FieldType) :: zG) rm_X0_remember 0 0 T3) (h4 : zMet l yX5_startTaking (Cond.code yX5_startTaking cX5_startTaking 4 (Option.some Jvm.ClassFile.FieldType.int) :: zG) rm_X5_startTaking 0 0 T4) (p : Program) (e : Env) (s : State) (m : MethodId) (args : Array Value) (below : List Frame) (meth : Method) (c : Code) (D : va_G) (A : Nat → Prop) (a0 : Nat → Nat) (M0 : ZM) (K : ZRet) (KX : ZEx) (X : zCtx p l rm_X8_takeRow s m args meth c cX8_takeRow RX8 (Cond.code yX8_takeRow cX8_takeRow 3 (Option.some Jvm.ClassFile.FieldType.int) :: zG) 3 (Option.some Jvm.ClassFile.FieldType.int) D A a0 M0 3 18) (hnm : meth.name = yX8_takeRow.name) (hout : ∀ x ∈ c.exceptionTable.toList, False) : ∀ q ∈ cd_X8_takeRow T0 T1 T2 T3 T4, zSd p l e rm_X8_takeRow s m args below meth c 3 D A a0 M0 K KX 3 18 q.1 q.2 :=
    zall_c (zs_aload_n X (pc := 0) (q := 0) rfl (by decide +kernel)) <|
    zall_c (zs_iload_n X (pc := 1) (q := 1) rfl (by decide +kernel)) <|
    zall_c (zs_callV X (pc := 2) zc_X8 (fun _ ht => ⟨(zCB ht gw_5_29 gw_1_1 gw_5_26 rfl rfl (by decide +kernel) ⟨Nat.le_of_ble_eq_true rfl, Nat.le_of_ble_eq_true rfl⟩), ht _ (.tail _ gw_5_28), ht _ (.tail _ gp_17)⟩) h0 hout (by decide +kernel)) <|
    zall_c (zs_aload_n X (pc := 5) (q := 0) rfl (by decide +kernel)) <|
    zall_c (zs_iload_n X (pc := 6) (q := 2) rfl (by decide +kernel)) <|
    zall_c (zs_callV X (pc := 7) zc_X8 (fun _ ht => ⟨(zCB ht gw_5_61 gw_1_1 gw_5_58 rfl rfl (by decide +kernel) ⟨Nat.le_of_ble_eq_true rfl, Nat.le_of_ble_eq_true rfl⟩), ht _ (.tail _ gw_5_60), ht _ (.tail _ gp_18)⟩) h1 hout (by decide +kernel)) <|
    zall_c (zs_aload_n X (pc := 10) (q := 0) rfl (by decide +kernel)) <|
    zall_c (zs_getr X (pc := 11) zc_X8 (by decide) (zin ui_X8) (.tail _ gw_2_116) (by decide +kernel) (by decide +kernel)) <|
    zall_c (zs_iload_n X (pc := 14) (q := 1) rfl (by decide +kernel)) <|
    zall_c (zs_iload_n X (pc := 15) (q := 2) rfl (by decide +kernel)) <|
    zall_c (zs_callV0 X (pc := 16) zc_X5 (fun _ ht => ⟨(zCB ht gw_5_123 gw_1_8 gw_5_158 rfl rfl (by decide +kernel) ⟨Nat.le_of_ble_eq_true rfl, Nat.le_of_ble_eq_true rfl⟩), ht _ (.tail _ gw_5_121), ht _ (.tail _ gw_5_122)⟩) h2 hout (by decide +kernel)) <|
    zall_c (zs_if_eq X (pc := 19) (off := 14) (by decide +kernel) (by decide)) <|
    zall_c (zs_throww X (pc := 22) (ik := 69) (is := 313) (ic := 73) (cls := "java/lang/IllegalStateException") (text := "the worker cannot take the row") (names := ["java/lang/RuntimeException", "java/lang/Exception"]) rfl (by decide +kernel) (by decide +kernel) (.tail _ gw_4_33) (.tail _ gw_1_24) (by decide +kernel) (zin gt_X8_73) gt_X8_73x (by decide +kernel) hout (by decide) (by decide) (by decide +kernel) (by decide +kernel) (by decide +kernel) (by decide +kernel) (by decide +kernel)) <|
    zall_c (zs_aload_n X (pc := 33) (q := 0) rfl (by decide +kernel)) <|
    zall_c (zs_getr X (pc := 34) zc_X8 (by decide) (zin ui_X8) (.tail _ gw_2_117) (by decide +kernel) (by decide +kernel)) <|
    zall_c (zs_aload_n X (pc := 37) (q := 0) rfl (by decide +kernel)) <|
    zall_c (zs_getr X (pc := 38) zc_X8 (by decide) (zin ui_X8) (.tail _ gw_2_116) (by decide +kernel) (by decide +kernel)) <|
    zall_c (zs_callV0 X (pc := 41) zc_X0 (fun _ ht => ⟨(zCB ht gw_4_237 gw_1_11 gw_4_234 rfl rfl (by decide +kernel) ⟨Nat.le_of_ble_eq_true rfl, Nat.le_of_ble_eq_true rfl⟩), ht _ (.tail _ gw_4_235), ht _ (.tail _ gw_4_236)⟩) h3 hout (by decide +kernel)) <|
    zall_c (zs_aload_n X (pc := 44) (q := 0) rfl (by decide +kernel)) <|
    zall_c (zs_getr X (pc := 45) zc_X8 (by decide) (zin ui_X8) (.tail _ gw_2_116) (by decide +kernel) (by decide +kernel)) <|
    zall_c (zs_iload_n X (pc := 48) (q := 1) rfl (by decide +kernel)) <|
    zall_c (zs_iload_n X (pc := 49) (q := 2) rfl (by decide +kernel)) <|
    zall_c (zs_callV0 X (pc := 50) zc_X5 (fun _ ht => ⟨(zCB ht gw_5_142 gw_1_8 gw_5_139 rfl rfl (by decide +kernel) ⟨Nat.le_of_ble_eq_true rfl, Nat.le_of_ble_eq_true rfl⟩), ht _ (.tail _ gw_5_140), ht _ (.tail _ gw_5_141)⟩) h4 hout (by decide +kernel)) <|
    zall_c (zs_iret X (pc := 53) rfl (by decide +kernel)) <|
    zall_n
theorem met_X8_takeRow {l : Launch} (hl : l.stackTraces = false) {T0 : ZTf} {T1 : ZTf} {T2 : ZTf} {T3 : ZTf} {T4 : ZTf} (h0 : zMet l yX8_requireWorker (Cond.code yX8_requireWorker cX8_requireWorker 2 (Option.none : Option Jvm.ClassFile.FieldType) :: zG) rm_X8_requireWorker 1 6 T0) (h1 : zMet l yX8_requireRow (Cond.code yX8_requireRow cX8_requireRow 2 (Option.none : Option Jvm.ClassFile.FieldType) :: zG) rm_X8_requireRow 1 6 T1) (h2 : zMet l yX5_reasonAgainst (Cond.code yX5_reasonAgainst cX5_reasonAgainst 3 (Option.some Jvm.ClassFile.FieldType.int) :: zG) rm_X5_reasonAgainst 0 0 T2) (h3 : zMet l yX0_remember (Cond.code yX0_remember cX0_remember 2 (Option.none : Option Jvm.ClassFile.FieldType) :: zG) rm_X0_remember 0 0 T3) (h4 : zMet l yX5_startTaking (Cond.code yX5_startTaking cX5_startTaking 4 (Option.some Jvm.ClassFile.FieldType.int) :: zG) rm_X5_startTaking 0 0 T4) {T : ZTf} (bd : zBd (cd_X8_takeRow T0 T1 T2 T3 T4) 3 3 18 T) : zMet l yX8_takeRow (Cond.code yX8_takeRow cX8_takeRow 3 (Option.some Jvm.ClassFile.FieldType.int) :: zG) rm_X8_takeRow 3 18 T := zMet_of hl (by decide +kernel) rfl rfl rfl rfl (hs_X8_takeRow hl h0 h1 h2 h3 h4) bd

abbrev rm_X8_deliver : Room := { frames := 7, cells := 4, slots := 24, locals := 124 }
def cd_X8_deliver (T0 : ZTf) (T1 : ZTf) (T2 : ZTf) (T3 : ZTf) (T4 : ZTf) (T5 : ZTf) (T6 : ZTf) (T7 : ZTf) : List (Nat × ZTr) := [(0, tAld 0 1), (1, tIld 1 2), (2, tCall 2 1 6 T0 (zRcv 11) 5), (5, tAld 0 6), (6, tIld 2 7), (7, tCall 2 1 6 T1 (zRcv 11) 10), (10, tIld 3 11), (11, tC (zi 0) 12), (12, tC (zi 99) 14), (14, tCall 3 1 6 T2 zAny 17), (17, tAld 0 18), (18, tIld 1 19), (19, tIld 2 20), (20, tCall 3 1 6 T3 (zRcv 11) 23), (23, tIst 4 25), (25, tAld 0 26), (26, tGetR 11 3 29), (29, tAld 0 30), (30, tGetR 11 2 33), (33, tCall0 2 T4 (zRcv 4) 36), (36, tAld 0 37), (37, tGetR 11 6 40), (40, tAld 0 41), (41, tGetR 11 2 44), (44, tAld 0 45), (45, tGetR 11 2 48), (48, tGetR 8 7 51), (51, tIld 2 52), (52, tAal 31 53), (53, tIld 4 55), (55, tIld 3 56), (56, tCall0 5 T5 (zRcv 9) 59), (59, tAld 0 60), (60, tGetR 11 2 63), (63, tIld 2 64), (64, tIld 4 66), (66, tIld 3 67), (67, tCall0 4 T6 (zRcv 8) 70), (70, tAld 0 71), (71, tGetR 11 2 74), (74, tIld 2 75), (75, tAld 0 76), (76, tGetR 11 6 79), (79, tCall0 3 T7 (zRcv 8) 82), (82, tAld 0 83), (83, tGetR 11 2 86), (86, tGetR 8 7 89), (89, tIld 2 90), (90, tAal 31 91), (91, tGetI 7 1 94), (94, tRi (fun _ => True))]
set_option maxRecDepth 100000 in
set_option maxHeartbeats 4000000 in
theorem hs_X8_deliver {l : Launch} (hl : l.stackTraces = false) {T0 : ZTf} {T1 : ZTf} {T2 : ZTf} {T3 : ZTf} {T4 : ZTf} {T5 : ZTf} {T6 : ZTf} {T7 : ZTf} (h0 : zMet l yX8_requireWorker (Cond.code yX8_requireWorker cX8_requireWorker 2 (Option.none : Option Jvm.ClassFile.FieldType) :: zG) rm_X8_requireWorker 1 6 T0) (h1 : zMet l yX8_requireRow (Cond.code yX8_requireRow cX8_requireRow 2 (Option.none : Option Jvm.ClassFile.FieldType) :: zG) rm_X8_requireRow 1 6 T1) (h2 : zMet l yX8_requireRange (Cond.code yX8_requireRange cX8_requireRange 3 (Option.none : Option Jvm.ClassFile.FieldType) :: zG) rm_X8_requireRange 1 6 T2) (h3 : zMet l yX8_requireInWork (Cond.code yX8_requireInWork cX8_requireInWork 4 (Option.some Jvm.ClassFile.FieldType.int) :: zG) rm_X8_requireInWork 1 6 T3) (h4 : zMet l yX0_remember (Cond.code yX0_remember cX0_remember 2 (Option.none : Option Jvm.ClassFile.FieldType) :: zG) rm_X0_remember 0 0 T4) (h5 : zMet l yX6_judge (Cond.code yX6_judge cX6_judge 7 (Option.none : Option Jvm.ClassFile.FieldType) :: zG) rm_X6_judge 0 0 T5) (h6 : zMet l yX5_enterResult (Cond.code yX5_enterResult cX5_enterResult 5 (Option.none : Option Jvm.ClassFile.FieldType) :: zG) rm_X5_enterResult 0 0 T6) (h7 : zMet l yX5_settle (Cond.code yX5_settle cX5_settle 5 (Option.none : Option Jvm.ClassFile.FieldType) :: zG) rm_X5_settle 0 0 T7) (p : Program) (e : Env) (s : State) (m : MethodId) (args : Array Value) (below : List Frame) (meth : Method) (c : Code) (D : va_G) (A : Nat → Prop) (a0 : Nat → Nat) (M0 : ZM) (K : ZRet) (KX : ZEx) (X : zCtx p l rm_X8_deliver s m args meth c cX8_deliver RX8 (Cond.code yX8_deliver cX8_deliver 5 (Option.some Jvm.ClassFile.FieldType.int) :: zG) 5 (Option.some Jvm.ClassFile.FieldType.int) D A a0 M0 4 24) (hnm : meth.name = yX8_deliver.name) (hout : ∀ x ∈ c.exceptionTable.toList, False) : ∀ q ∈ cd_X8_deliver T0 T1 T2 T3 T4 T5 T6 T7, zSd p l e rm_X8_deliver s m args below meth c 5 D A a0 M0 K KX 4 24 q.1 q.2 :=
    zall_c (zs_aload_n X (pc := 0) (q := 0) rfl (by decide +kernel)) <|
    zall_c (zs_iload_n X (pc := 1) (q := 1) rfl (by decide +kernel)) <|
    zall_c (zs_callV X (pc := 2) zc_X8 (fun _ ht => ⟨(zCB ht gw_5_29 gw_1_1 gw_5_26 rfl rfl (by decide +kernel) ⟨Nat.le_of_ble_eq_true rfl, Nat.le_of_ble_eq_true rfl⟩), ht _ (.tail _ gw_5_28), ht _ (.tail _ gp_17)⟩) h0 hout (by decide +kernel)) <|
    zall_c (zs_aload_n X (pc := 5) (q := 0) rfl (by decide +kernel)) <|
    zall_c (zs_iload_n X (pc := 6) (q := 2) rfl (by decide +kernel)) <|
    zall_c (zs_callV X (pc := 7) zc_X8 (fun _ ht => ⟨(zCB ht gw_5_61 gw_1_1 gw_5_58 rfl rfl (by decide +kernel) ⟨Nat.le_of_ble_eq_true rfl, Nat.le_of_ble_eq_true rfl⟩), ht _ (.tail _ gw_5_60), ht _ (.tail _ gp_18)⟩) h1 hout (by decide +kernel)) <|
    zall_c (zs_iload_n X (pc := 10) (q := 3) rfl (by decide +kernel)) <|
    zall_c (zs_iconst X (pc := 11) (by decide) (by decide +kernel)) <|
    zall_c (zs_bipush X (pc := 12) (by decide) (by decide +kernel) (by decide +kernel)) <|
    zall_c (zs_callS X (pc := 14) (fun _ ht => ⟨(zCB ht gw_2_151 gw_1_1 gw_2_149 rfl rfl (by decide +kernel) ⟨Nat.le_of_ble_eq_true rfl, Nat.le_of_ble_eq_true rfl⟩), ht _ (.tail _ gw_2_150)⟩) h2 hout (by decide +kernel)) <|
    zall_c (zs_aload_n X (pc := 17) (q := 0) rfl (by decide +kernel)) <|
    zall_c (zs_iload_n X (pc := 18) (q := 1) rfl (by decide +kernel)) <|
    zall_c (zs_iload_n X (pc := 19) (q := 2) rfl (by decide +kernel)) <|
    zall_c (zs_callV X (pc := 20) zc_X8 (fun _ ht => ⟨(zCB ht gw_5_170 gw_1_1 gw_5_167 rfl rfl (by decide +kernel) ⟨Nat.le_of_ble_eq_true rfl, Nat.le_of_ble_eq_true rfl⟩), ht _ (.tail _ gw_5_169), ht _ (.tail _ gp_20)⟩) h3 hout (by decide +kernel)) <|
    zall_c (zs_istore X (pc := 23) (by decide) (by decide +kernel)) <|
    zall_c (zs_aload_n X (pc := 25) (q := 0) rfl (by decide +kernel)) <|
    zall_c (zs_getr X (pc := 26) zc_X8 (by decide) (zin ui_X8) (.tail _ gw_2_117) (by decide +kernel) (by decide +kernel)) <|
    zall_c (zs_aload_n X (pc := 29) (q := 0) rfl (by decide +kernel)) <|
    zall_c (zs_getr X (pc := 30) zc_X8 (by decide) (zin ui_X8) (.tail _ gw_2_116) (by decide +kernel) (by decide +kernel)) <|
    zall_c (zs_callV0 X (pc := 33) zc_X0 (fun _ ht => ⟨(zCB ht gw_4_237 gw_1_11 gw_4_234 rfl rfl (by decide +kernel) ⟨Nat.le_of_ble_eq_true rfl, Nat.le_of_ble_eq_true rfl⟩), ht _ (.tail _ gw_4_235), ht _ (.tail _ gw_4_236)⟩) h4 hout (by decide +kernel)) <|
    zall_c (zs_aload_n X (pc := 36) (q := 0) rfl (by decide +kernel)) <|
    zall_c (zs_getr X (pc := 37) zc_X8 (by decide) (zin ui_X8) (.tail _ gw_2_120) (by decide +kernel) (by decide +kernel)) <|
    zall_c (zs_aload_n X (pc := 40) (q := 0) rfl (by decide +kernel)) <|
    zall_c (zs_getr X (pc := 41) zc_X8 (by decide) (zin ui_X8) (.tail _ gw_2_116) (by decide +kernel) (by decide +kernel)) <|
    zall_c (zs_aload_n X (pc := 44) (q := 0) rfl (by decide +kernel)) <|
    zall_c (zs_getr X (pc := 45) zc_X8 (by decide) (zin ui_X8) (.tail _ gw_2_116) (by decide +kernel) (by decide +kernel)) <|
    zall_c (zs_getr X (pc := 48) zc_X5 (by decide) (zin ui_X5) (.tail _ gw_1_238) (by decide +kernel) (by decide +kernel)) <|
    zall_c (zs_iload_n X (pc := 51) (q := 2) rfl (by decide +kernel)) <|
    zall_c (zs_aaload X (pc := 52) (by decide) rfl (by decide +kernel)) <|
    zall_c (zs_iload X (pc := 53) (by decide +kernel)) <|
    zall_c (zs_iload_n X (pc := 55) (q := 3) rfl (by decide +kernel)) <|
    zall_c (zs_callV0 X (pc := 56) zc_X6 (fun _ ht => ⟨(zCB ht gw_5_180 gw_1_12 gw_5_177 rfl rfl (by decide +kernel) ⟨Nat.le_of_ble_eq_true rfl, Nat.le_of_ble_eq_true rfl⟩), ht _ (.tail _ gw_5_178), ht _ (.tail _ gw_5_179)⟩) h5 hout (by decide +kernel)) <|
    zall_c (zs_aload_n X (pc := 59) (q := 0) rfl (by decide +kernel)) <|
    zall_c (zs_getr X (pc := 60) zc_X8 (by decide) (zin ui_X8) (.tail _ gw_2_116) (by decide +kernel) (by decide +kernel)) <|
    zall_c (zs_iload_n X (pc := 63) (q := 2) rfl (by decide +kernel)) <|
    zall_c (zs_iload X (pc := 64) (by decide +kernel)) <|
    zall_c (zs_iload_n X (pc := 66) (q := 3) rfl (by decide +kernel)) <|
    zall_c (zs_callV0 X (pc := 67) zc_X5 (fun _ ht => ⟨(zCB ht gw_5_207 gw_1_8 gw_5_204 rfl rfl (by decide +kernel) ⟨Nat.le_of_ble_eq_true rfl, Nat.le_of_ble_eq_true rfl⟩), ht _ (.tail _ gw_5_205), ht _ (.tail _ gw_5_206)⟩) h6 hout (by decide +kernel)) <|
    zall_c (zs_aload_n X (pc := 70) (q := 0) rfl (by decide +kernel)) <|
    zall_c (zs_getr X (pc := 71) zc_X8 (by decide) (zin ui_X8) (.tail _ gw_2_116) (by decide +kernel) (by decide +kernel)) <|
    zall_c (zs_iload_n X (pc := 74) (q := 2) rfl (by decide +kernel)) <|
    zall_c (zs_aload_n X (pc := 75) (q := 0) rfl (by decide +kernel)) <|
    zall_c (zs_getr X (pc := 76) zc_X8 (by decide) (zin ui_X8) (.tail _ gw_2_120) (by decide +kernel) (by decide +kernel)) <|
    zall_c (zs_callV0 X (pc := 79) zc_X5 (fun _ ht => ⟨(zCB ht gw_5_215 gw_1_8 gw_5_212 rfl rfl (by decide +kernel) ⟨Nat.le_of_ble_eq_true rfl, Nat.le_of_ble_eq_true rfl⟩), ht _ (.tail _ gw_5_213), ht _ (.tail _ gw_5_214)⟩) h7 hout (by decide +kernel)) <|
    zall_c (zs_aload_n X (pc := 82) (q := 0) rfl (by decide +kernel)) <|
    zall_c (zs_getr X (pc := 83) zc_X8 (by decide) (zin ui_X8) (.tail _ gw_2_116) (by decide +kernel) (by decide +kernel)) <|
    zall_c (zs_getr X (pc := 86) zc_X5 (by decide) (zin ui_X5) (.tail _ gw_1_238) (by decide +kernel) (by decide +kernel)) <|
    zall_c (zs_iload_n X (pc := 89) (q := 2) rfl (by decide +kernel)) <|
    zall_c (zs_aaload X (pc := 90) (by decide) rfl (by decide +kernel)) <|
    zall_c (zs_geti X (pc := 91) zc_X4 (by decide) (zin ui_X4) (.tail _ gw_1_173) (by decide +kernel) (by decide +kernel)) <|
    zall_c (zs_iret X (pc := 94) rfl (by decide +kernel)) <|
    zall_n
theorem met_X8_deliver {l : Launch} (hl : l.stackTraces = false) {T0 : ZTf} {T1 : ZTf} {T2 : ZTf} {T3 : ZTf} {T4 : ZTf} {T5 : ZTf} {T6 : ZTf} {T7 : ZTf} (h0 : zMet l yX8_requireWorker (Cond.code yX8_requireWorker cX8_requireWorker 2 (Option.none : Option Jvm.ClassFile.FieldType) :: zG) rm_X8_requireWorker 1 6 T0) (h1 : zMet l yX8_requireRow (Cond.code yX8_requireRow cX8_requireRow 2 (Option.none : Option Jvm.ClassFile.FieldType) :: zG) rm_X8_requireRow 1 6 T1) (h2 : zMet l yX8_requireRange (Cond.code yX8_requireRange cX8_requireRange 3 (Option.none : Option Jvm.ClassFile.FieldType) :: zG) rm_X8_requireRange 1 6 T2) (h3 : zMet l yX8_requireInWork (Cond.code yX8_requireInWork cX8_requireInWork 4 (Option.some Jvm.ClassFile.FieldType.int) :: zG) rm_X8_requireInWork 1 6 T3) (h4 : zMet l yX0_remember (Cond.code yX0_remember cX0_remember 2 (Option.none : Option Jvm.ClassFile.FieldType) :: zG) rm_X0_remember 0 0 T4) (h5 : zMet l yX6_judge (Cond.code yX6_judge cX6_judge 7 (Option.none : Option Jvm.ClassFile.FieldType) :: zG) rm_X6_judge 0 0 T5) (h6 : zMet l yX5_enterResult (Cond.code yX5_enterResult cX5_enterResult 5 (Option.none : Option Jvm.ClassFile.FieldType) :: zG) rm_X5_enterResult 0 0 T6) (h7 : zMet l yX5_settle (Cond.code yX5_settle cX5_settle 5 (Option.none : Option Jvm.ClassFile.FieldType) :: zG) rm_X5_settle 0 0 T7) {T : ZTf} (bd : zBd (cd_X8_deliver T0 T1 T2 T3 T4 T5 T6 T7) 5 4 24 T) : zMet l yX8_deliver (Cond.code yX8_deliver cX8_deliver 5 (Option.some Jvm.ClassFile.FieldType.int) :: zG) rm_X8_deliver 4 24 T := zMet_of hl (by decide +kernel) rfl rfl rfl rfl (hs_X8_deliver hl h0 h1 h2 h3 h4 h5 h6 h7) bd

abbrev rm_X8_audit : Room := { frames := 7, cells := 3, slots := 18, locals := 124 }
def cd_X8_audit (T0 : ZTf) (T1 : ZTf) (T2 : ZTf) (T3 : ZTf) : List (Nat × ZTr) := [(0, tAld 0 1), (1, tIld 1 2), (2, tCall 2 1 6 T0 (zRcv 11) 5), (5, tIld 2 6), (6, tC (zi 0) 7), (7, tC (zi 99) 9), (9, tCall 3 1 6 T1 zAny 12), (12, tAld 0 13), (13, tGetR 11 2 16), (16, tGetR 8 7 19), (19, tIld 1 20), (20, tAal 31 21), (21, tAst 3 22), (22, tAld 3 23), (23, tGetI 7 1 26), (26, tC (zi 2) 27), (27, tIc_ne 37 30), (30, tAld 3 31), (31, tGetI 7 3 34), (34, tIf_eq 48 37), (37, tThr 2), (48, tAld 0 49), (49, tGetR 11 3 52), (52, tAld 0 53), (53, tGetR 11 2 56), (56, tCall0 2 T2 (zRcv 4) 59), (59, tAld 0 60), (60, tGetR 11 2 63), (63, tAld 3 64), (64, tIld 2 65), (65, tCall0 3 T3 (zRcv 8) 68), (68, tRi zPz)]
set_option maxRecDepth 100000 in
set_option maxHeartbeats 4000000 in
theorem hs_X8_audit {l : Launch} (hl : l.stackTraces = false) {T0 : ZTf} {T1 : ZTf} {T2 : ZTf} {T3 : ZTf} (h0 : zMet l yX8_requireRow (Cond.code yX8_requireRow cX8_requireRow 2 (Option.none : Option Jvm.ClassFile.FieldType) :: zG) rm_X8_requireRow 1 6 T0) (h1 : zMet l yX8_requireRange (Cond.code yX8_requireRange cX8_requireRange 3 (Option.none : Option Jvm.ClassFile.FieldType) :: zG) rm_X8_requireRange 1 6 T1) (h2 : zMet l yX0_remember (Cond.code yX0_remember cX0_remember 2 (Option.none : Option Jvm.ClassFile.FieldType) :: zG) rm_X0_remember 0 0 T2) (h3 : zMet l yX5_examine (Cond.code yX5_examine cX5_examine 4 (Option.some Jvm.ClassFile.FieldType.boolean) :: zG) rm_X5_examine 0 0 T3) (p : Program) (e : Env) (s : State) (m : MethodId) (args : Array Value) (below : List Frame) (meth : Method) (c : Code) (D : va_G) (A : Nat → Prop) (a0 : Nat → Nat) (M0 : ZM) (K : ZRet) (KX : ZEx) (X : zCtx p l rm_X8_audit s m args meth c cX8_audit RX8 (Cond.code yX8_audit cX8_audit 4 (Option.some Jvm.ClassFile.FieldType.boolean) :: zG) 4 (Option.some Jvm.ClassFile.FieldType.boolean) D A a0 M0 3 18) (hnm : meth.name = yX8_audit.name) (hout : ∀ x ∈ c.exceptionTable.toList, False) : ∀ q ∈ cd_X8_audit T0 T1 T2 T3, zSd p l e rm_X8_audit s m args below meth c 4 D A a0 M0 K KX 3 18 q.1 q.2 :=
    zall_c (zs_aload_n X (pc := 0) (q := 0) rfl (by decide +kernel)) <|
    zall_c (zs_iload_n X (pc := 1) (q := 1) rfl (by decide +kernel)) <|
    zall_c (zs_callV X (pc := 2) zc_X8 (fun _ ht => ⟨(zCB ht gw_5_61 gw_1_1 gw_5_58 rfl rfl (by decide +kernel) ⟨Nat.le_of_ble_eq_true rfl, Nat.le_of_ble_eq_true rfl⟩), ht _ (.tail _ gw_5_60), ht _ (.tail _ gp_18)⟩) h0 hout (by decide +kernel)) <|
    zall_c (zs_iload_n X (pc := 5) (q := 2) rfl (by decide +kernel)) <|
    zall_c (zs_iconst X (pc := 6) (by decide) (by decide +kernel)) <|
    zall_c (zs_bipush X (pc := 7) (by decide) (by decide +kernel) (by decide +kernel)) <|
    zall_c (zs_callS X (pc := 9) (fun _ ht => ⟨(zCB ht gw_2_151 gw_1_1 gw_2_149 rfl rfl (by decide +kernel) ⟨Nat.le_of_ble_eq_true rfl, Nat.le_of_ble_eq_true rfl⟩), ht _ (.tail _ gw_2_150)⟩) h1 hout (by decide +kernel)) <|
    zall_c (zs_aload_n X (pc := 12) (q := 0) rfl (by decide +kernel)) <|
    zall_c (zs_getr X (pc := 13) zc_X8 (by decide) (zin ui_X8) (.tail _ gw_2_116) (by decide +kernel) (by decide +kernel)) <|
    zall_c (zs_getr X (pc := 16) zc_X5 (by decide) (zin ui_X5) (.tail _ gw_1_238) (by decide +kernel) (by decide +kernel)) <|
    zall_c (zs_iload_n X (pc := 19) (q := 1) rfl (by decide +kernel)) <|
    zall_c (zs_aaload X (pc := 20) (by decide) rfl (by decide +kernel)) <|
    zall_c (zs_astore_n X (pc := 21) (q := 3) rfl (by decide) (by decide +kernel)) <|
    zall_c (zs_aload_n X (pc := 22) (q := 3) rfl (by decide +kernel)) <|
    zall_c (zs_geti X (pc := 23) zc_X4 (by decide) (zin ui_X4) (.tail _ gw_1_173) (by decide +kernel) (by decide +kernel)) <|
    zall_c (zs_iconst X (pc := 26) (by decide) (by decide +kernel)) <|
    zall_c (zs_icmp_ne X (pc := 27) (off := 10) (by decide +kernel) (by decide)) <|
    zall_c (zs_aload_n X (pc := 30) (q := 3) rfl (by decide +kernel)) <|
    zall_c (zs_geti X (pc := 31) zc_X4 (by decide) (zin ui_X4) (.tail _ gw_1_179) (by decide +kernel) (by decide +kernel)) <|
    zall_c (zs_if_eq X (pc := 34) (off := 14) (by decide +kernel) (by decide)) <|
    zall_c (zs_throww X (pc := 37) (ik := 69) (is := 325) (ic := 73) (cls := "java/lang/IllegalStateException") (text := "the row is not finished, or was audited") (names := ["java/lang/RuntimeException", "java/lang/Exception"]) rfl (by decide +kernel) (by decide +kernel) (.tail _ gw_4_33) (.tail _ gw_1_24) (by decide +kernel) (zin gt_X8_73) gt_X8_73x (by decide +kernel) hout (by decide) (by decide) (by decide +kernel) (by decide +kernel) (by decide +kernel) (by decide +kernel) (by decide +kernel)) <|
    zall_c (zs_aload_n X (pc := 48) (q := 0) rfl (by decide +kernel)) <|
    zall_c (zs_getr X (pc := 49) zc_X8 (by decide) (zin ui_X8) (.tail _ gw_2_117) (by decide +kernel) (by decide +kernel)) <|
    zall_c (zs_aload_n X (pc := 52) (q := 0) rfl (by decide +kernel)) <|
    zall_c (zs_getr X (pc := 53) zc_X8 (by decide) (zin ui_X8) (.tail _ gw_2_116) (by decide +kernel) (by decide +kernel)) <|
    zall_c (zs_callV0 X (pc := 56) zc_X0 (fun _ ht => ⟨(zCB ht gw_4_237 gw_1_11 gw_4_234 rfl rfl (by decide +kernel) ⟨Nat.le_of_ble_eq_true rfl, Nat.le_of_ble_eq_true rfl⟩), ht _ (.tail _ gw_4_235), ht _ (.tail _ gw_4_236)⟩) h2 hout (by decide +kernel)) <|
    zall_c (zs_aload_n X (pc := 59) (q := 0) rfl (by decide +kernel)) <|
    zall_c (zs_getr X (pc := 60) zc_X8 (by decide) (zin ui_X8) (.tail _ gw_2_116) (by decide +kernel) (by decide +kernel)) <|
    zall_c (zs_aload_n X (pc := 63) (q := 3) rfl (by decide +kernel)) <|
    zall_c (zs_iload_n X (pc := 64) (q := 2) rfl (by decide +kernel)) <|
    zall_c (zs_callV0 X (pc := 65) zc_X5 (fun _ ht => ⟨(zCB ht gw_6_26 gw_1_8 gw_6_23 rfl rfl (by decide +kernel) ⟨Nat.le_of_ble_eq_true rfl, Nat.le_of_ble_eq_true rfl⟩), ht _ (.tail _ gw_6_24), ht _ (.tail _ gw_6_25)⟩) h3 hout (by decide +kernel)) <|
    zall_c (zs_zret X (pc := 68) rfl zR_bool (by decide +kernel)) <|
    zall_n
theorem met_X8_audit {l : Launch} (hl : l.stackTraces = false) {T0 : ZTf} {T1 : ZTf} {T2 : ZTf} {T3 : ZTf} (h0 : zMet l yX8_requireRow (Cond.code yX8_requireRow cX8_requireRow 2 (Option.none : Option Jvm.ClassFile.FieldType) :: zG) rm_X8_requireRow 1 6 T0) (h1 : zMet l yX8_requireRange (Cond.code yX8_requireRange cX8_requireRange 3 (Option.none : Option Jvm.ClassFile.FieldType) :: zG) rm_X8_requireRange 1 6 T1) (h2 : zMet l yX0_remember (Cond.code yX0_remember cX0_remember 2 (Option.none : Option Jvm.ClassFile.FieldType) :: zG) rm_X0_remember 0 0 T2) (h3 : zMet l yX5_examine (Cond.code yX5_examine cX5_examine 4 (Option.some Jvm.ClassFile.FieldType.boolean) :: zG) rm_X5_examine 0 0 T3) {T : ZTf} (bd : zBd (cd_X8_audit T0 T1 T2 T3) 4 3 18 T) : zMet l yX8_audit (Cond.code yX8_audit cX8_audit 4 (Option.some Jvm.ClassFile.FieldType.boolean) :: zG) rm_X8_audit 3 18 T := zMet_of hl (by decide +kernel) rfl rfl rfl rfl (hs_X8_audit hl h0 h1 h2 h3) bd

abbrev rm_X8_pardon : Room := { frames := 7, cells := 2, slots := 12, locals := 124 }
def cd_X8_pardon (T0 : ZTf) (T1 : ZTf) (T2 : ZTf) : List (Nat × ZTr) := [(0, tAld 0 1), (1, tIld 1 2), (2, tCall 2 1 6 T0 (zRcv 11) 5), (5, tAld 0 6), (6, tGetR 11 2 9), (9, tIld 1 10), (10, tCall0 2 T1 (zRcv 8) 13), (13, tIf_ne 27 16), (16, tThr 2), (27, tAld 0 28), (28, tGetR 11 3 31), (31, tAld 0 32), (32, tGetR 11 2 35), (35, tCall0 2 T2 (zRcv 4) 38), (38, tAld 0 39), (39, tGetR 11 2 42), (42, tGetR 8 6 45), (45, tIld 1 46), (46, tAal 30 47), (47, tGetI 10 3 50), (50, tIst 2 51), (51, tAld 0 52), (52, tGetR 11 2 55), (55, tGetR 8 6 58), (58, tIld 1 59), (59, tAal 30 60), (60, tAld 0 61), (61, tGetR 11 2 64), (64, tGetI 8 2 67), (67, tPutI 10 3 (fun _ => True) 70), (70, tIld 2 71), (71, tRi (fun _ => True))]
set_option maxRecDepth 100000 in
set_option maxHeartbeats 4000000 in
theorem hs_X8_pardon {l : Launch} (hl : l.stackTraces = false) {T0 : ZTf} {T1 : ZTf} {T2 : ZTf} (h0 : zMet l yX8_requireWorker (Cond.code yX8_requireWorker cX8_requireWorker 2 (Option.none : Option Jvm.ClassFile.FieldType) :: zG) rm_X8_requireWorker 1 6 T0) (h1 : zMet l yX5_isSuspended (Cond.code yX5_isSuspended cX5_isSuspended 2 (Option.some Jvm.ClassFile.FieldType.boolean) :: zG) rm_X5_isSuspended 0 0 T1) (h2 : zMet l yX0_remember (Cond.code yX0_remember cX0_remember 2 (Option.none : Option Jvm.ClassFile.FieldType) :: zG) rm_X0_remember 0 0 T2) (p : Program) (e : Env) (s : State) (m : MethodId) (args : Array Value) (below : List Frame) (meth : Method) (c : Code) (D : va_G) (A : Nat → Prop) (a0 : Nat → Nat) (M0 : ZM) (K : ZRet) (KX : ZEx) (X : zCtx p l rm_X8_pardon s m args meth c cX8_pardon RX8 (Cond.code yX8_pardon cX8_pardon 3 (Option.some Jvm.ClassFile.FieldType.int) :: zG) 3 (Option.some Jvm.ClassFile.FieldType.int) D A a0 M0 2 12) (hnm : meth.name = yX8_pardon.name) (hout : ∀ x ∈ c.exceptionTable.toList, False) : ∀ q ∈ cd_X8_pardon T0 T1 T2, zSd p l e rm_X8_pardon s m args below meth c 3 D A a0 M0 K KX 2 12 q.1 q.2 :=
    zall_c (zs_aload_n X (pc := 0) (q := 0) rfl (by decide +kernel)) <|
    zall_c (zs_iload_n X (pc := 1) (q := 1) rfl (by decide +kernel)) <|
    zall_c (zs_callV X (pc := 2) zc_X8 (fun _ ht => ⟨(zCB ht gw_5_29 gw_1_1 gw_5_26 rfl rfl (by decide +kernel) ⟨Nat.le_of_ble_eq_true rfl, Nat.le_of_ble_eq_true rfl⟩), ht _ (.tail _ gw_5_28), ht _ (.tail _ gp_17)⟩) h0 hout (by decide +kernel)) <|
    zall_c (zs_aload_n X (pc := 5) (q := 0) rfl (by decide +kernel)) <|
    zall_c (zs_getr X (pc := 6) zc_X8 (by decide) (zin ui_X8) (.tail _ gw_2_116) (by decide +kernel) (by decide +kernel)) <|
    zall_c (zs_iload_n X (pc := 9) (q := 1) rfl (by decide +kernel)) <|
    zall_c (zs_callV0 X (pc := 10) zc_X5 (fun _ ht => ⟨(zCB ht gw_5_127 gw_1_8 gw_6_49 rfl rfl (by decide +kernel) ⟨Nat.le_of_ble_eq_true rfl, Nat.le_of_ble_eq_true rfl⟩), ht _ (.tail _ gw_5_125), ht _ (.tail _ gw_5_126)⟩) h1 hout (by decide +kernel)) <|
    zall_c (zs_if_ne X (pc := 13) (off := 14) (by decide +kernel) (by decide)) <|
    zall_c (zs_throww X (pc := 16) (ik := 69) (is := 336) (ic := 73) (cls := "java/lang/IllegalStateException") (text := "the worker is not suspended") (names := ["java/lang/RuntimeException", "java/lang/Exception"]) rfl (by decide +kernel) (by decide +kernel) (.tail _ gw_4_33) (.tail _ gw_1_24) (by decide +kernel) (zin gt_X8_73) gt_X8_73x (by decide +kernel) hout (by decide) (by decide) (by decide +kernel) (by decide +kernel) (by decide +kernel) (by decide +kernel) (by decide +kernel)) <|
    zall_c (zs_aload_n X (pc := 27) (q := 0) rfl (by decide +kernel)) <|
    zall_c (zs_getr X (pc := 28) zc_X8 (by decide) (zin ui_X8) (.tail _ gw_2_117) (by decide +kernel) (by decide +kernel)) <|
    zall_c (zs_aload_n X (pc := 31) (q := 0) rfl (by decide +kernel)) <|
    zall_c (zs_getr X (pc := 32) zc_X8 (by decide) (zin ui_X8) (.tail _ gw_2_116) (by decide +kernel) (by decide +kernel)) <|
    zall_c (zs_callV0 X (pc := 35) zc_X0 (fun _ ht => ⟨(zCB ht gw_4_237 gw_1_11 gw_4_234 rfl rfl (by decide +kernel) ⟨Nat.le_of_ble_eq_true rfl, Nat.le_of_ble_eq_true rfl⟩), ht _ (.tail _ gw_4_235), ht _ (.tail _ gw_4_236)⟩) h2 hout (by decide +kernel)) <|
    zall_c (zs_aload_n X (pc := 38) (q := 0) rfl (by decide +kernel)) <|
    zall_c (zs_getr X (pc := 39) zc_X8 (by decide) (zin ui_X8) (.tail _ gw_2_116) (by decide +kernel) (by decide +kernel)) <|
    zall_c (zs_getr X (pc := 42) zc_X5 (by decide) (zin ui_X5) (.tail _ gw_1_236) (by decide +kernel) (by decide +kernel)) <|
    zall_c (zs_iload_n X (pc := 45) (q := 1) rfl (by decide +kernel)) <|
    zall_c (zs_aaload X (pc := 46) (by decide) rfl (by decide +kernel)) <|
    zall_c (zs_geti X (pc := 47) zc_X7 (by decide) (zin ui_X7) (.tail _ gw_1_122) (by decide +kernel) (by decide +kernel)) <|
    zall_c (zs_istore_n X (pc := 50) (q := 2) rfl (by decide) (by decide +kernel)) <|
    zall_c (zs_aload_n X (pc := 51) (q := 0) rfl (by decide +kernel)) <|
    zall_c (zs_getr X (pc := 52) zc_X8 (by decide) (zin ui_X8) (.tail _ gw_2_116) (by decide +kernel) (by decide +kernel)) <|
    zall_c (zs_getr X (pc := 55) zc_X5 (by decide) (zin ui_X5) (.tail _ gw_1_236) (by decide +kernel) (by decide +kernel)) <|
    zall_c (zs_iload_n X (pc := 58) (q := 1) rfl (by decide +kernel)) <|
    zall_c (zs_aaload X (pc := 59) (by decide) rfl (by decide +kernel)) <|
    zall_c (zs_aload_n X (pc := 60) (q := 0) rfl (by decide +kernel)) <|
    zall_c (zs_getr X (pc := 61) zc_X8 (by decide) (zin ui_X8) (.tail _ gw_2_116) (by decide +kernel) (by decide +kernel)) <|
    zall_c (zs_geti X (pc := 64) zc_X5 (by decide) (zin ui_X5) (.tail _ gw_1_226) (by decide +kernel) (by decide +kernel)) <|
    zall_c (zs_puti X (pc := 67) (ty := Jvm.ClassFile.FieldType.int) zc_X7 (by decide) (zin ui_X7) tyX7_ok nmX7 (.tail _ gw_1_122) rfl (by decide +kernel) (by decide +kernel) (by decide +kernel) zP_int) <|
    zall_c (zs_iload_n X (pc := 70) (q := 2) rfl (by decide +kernel)) <|
    zall_c (zs_iret X (pc := 71) rfl (by decide +kernel)) <|
    zall_n
theorem met_X8_pardon {l : Launch} (hl : l.stackTraces = false) {T0 : ZTf} {T1 : ZTf} {T2 : ZTf} (h0 : zMet l yX8_requireWorker (Cond.code yX8_requireWorker cX8_requireWorker 2 (Option.none : Option Jvm.ClassFile.FieldType) :: zG) rm_X8_requireWorker 1 6 T0) (h1 : zMet l yX5_isSuspended (Cond.code yX5_isSuspended cX5_isSuspended 2 (Option.some Jvm.ClassFile.FieldType.boolean) :: zG) rm_X5_isSuspended 0 0 T1) (h2 : zMet l yX0_remember (Cond.code yX0_remember cX0_remember 2 (Option.none : Option Jvm.ClassFile.FieldType) :: zG) rm_X0_remember 0 0 T2) {T : ZTf} (bd : zBd (cd_X8_pardon T0 T1 T2) 3 2 12 T) : zMet l yX8_pardon (Cond.code yX8_pardon cX8_pardon 3 (Option.some Jvm.ClassFile.FieldType.int) :: zG) rm_X8_pardon 2 12 T := zMet_of hl (by decide +kernel) rfl rfl rfl rfl (hs_X8_pardon hl h0 h1 h2) bd

abbrev rm_X8_bar : Room := { frames := 7, cells := 3, slots := 18, locals := 124 }
def cd_X8_bar (T0 : ZTf) (T1 : ZTf) (T2 : ZTf) (T3 : ZTf) : List (Nat × ZTr) := [(0, tAld 0 1), (1, tIld 1 2), (2, tCall 2 1 6 T0 (zRcv 11) 5), (5, tAld 0 6), (6, tIld 2 7), (7, tCall 2 1 6 T0 (zRcv 11) 10), (10, tIld 1 11), (11, tIld 2 12), (12, tIc_ne 26 15), (15, tThr 1), (26, tAld 0 27), (27, tGetR 11 3 30), (30, tAld 0 31), (31, tGetR 11 2 34), (34, tCall0 2 T1 (zRcv 4) 37), (37, tAld 0 38), (38, tGetR 11 2 41), (41, tIld 1 42), (42, tIld 2 43), (43, tCall0 3 T2 (zRcv 8) 46), (46, tIst 4 48), (48, tAld 0 49), (49, tGetR 11 2 52), (52, tIld 1 53), (53, tIld 2 54), (54, tIld 3 55), (55, tCall0 4 T3 (zRcv 8) 58), (58, tIld 4 60), (60, tRi zPz)]
set_option maxRecDepth 100000 in
set_option maxHeartbeats 4000000 in
theorem hs_X8_bar {l : Launch} (hl : l.stackTraces = false) {T0 : ZTf} {T1 : ZTf} {T2 : ZTf} {T3 : ZTf} (h0 : zMet l yX8_requireWorker (Cond.code yX8_requireWorker cX8_requireWorker 2 (Option.none : Option Jvm.ClassFile.FieldType) :: zG) rm_X8_requireWorker 1 6 T0) (h1 : zMet l yX0_remember (Cond.code yX0_remember cX0_remember 2 (Option.none : Option Jvm.ClassFile.FieldType) :: zG) rm_X0_remember 0 0 T1) (h2 : zMet l yX5_areKeptApart (Cond.code yX5_areKeptApart cX5_areKeptApart 4 (Option.some Jvm.ClassFile.FieldType.boolean) :: zG) rm_X5_areKeptApart 0 0 T2) (h3 : zMet l yX5_tellApart (Cond.code yX5_tellApart cX5_tellApart 5 (Option.none : Option Jvm.ClassFile.FieldType) :: zG) rm_X5_tellApart 0 0 T3) (p : Program) (e : Env) (s : State) (m : MethodId) (args : Array Value) (below : List Frame) (meth : Method) (c : Code) (D : va_G) (A : Nat → Prop) (a0 : Nat → Nat) (M0 : ZM) (K : ZRet) (KX : ZEx) (X : zCtx p l rm_X8_bar s m args meth c cX8_bar RX8 (Cond.code yX8_bar cX8_bar 5 (Option.some Jvm.ClassFile.FieldType.boolean) :: zG) 5 (Option.some Jvm.ClassFile.FieldType.boolean) D A a0 M0 3 18) (hnm : meth.name = yX8_bar.name) (hout : ∀ x ∈ c.exceptionTable.toList, False) : ∀ q ∈ cd_X8_bar T0 T1 T2 T3, zSd p l e rm_X8_bar s m args below meth c 5 D A a0 M0 K KX 3 18 q.1 q.2 :=
    zall_c (zs_aload_n X (pc := 0) (q := 0) rfl (by decide +kernel)) <|
    zall_c (zs_iload_n X (pc := 1) (q := 1) rfl (by decide +kernel)) <|
    zall_c (zs_callV X (pc := 2) zc_X8 (fun _ ht => ⟨(zCB ht gw_5_29 gw_1_1 gw_5_26 rfl rfl (by decide +kernel) ⟨Nat.le_of_ble_eq_true rfl, Nat.le_of_ble_eq_true rfl⟩), ht _ (.tail _ gw_5_28), ht _ (.tail _ gp_17)⟩) h0 hout (by decide +kernel)) <|
    zall_c (zs_aload_n X (pc := 5) (q := 0) rfl (by decide +kernel)) <|
    zall_c (zs_iload_n X (pc := 6) (q := 2) rfl (by decide +kernel)) <|
    zall_c (zs_callV X (pc := 7) zc_X8 (fun _ ht => ⟨(zCB ht gw_5_29 gw_1_1 gw_5_26 rfl rfl (by decide +kernel) ⟨Nat.le_of_ble_eq_true rfl, Nat.le_of_ble_eq_true rfl⟩), ht _ (.tail _ gw_5_28), ht _ (.tail _ gp_17)⟩) h0 hout (by decide +kernel)) <|
    zall_c (zs_iload_n X (pc := 10) (q := 1) rfl (by decide +kernel)) <|
    zall_c (zs_iload_n X (pc := 11) (q := 2) rfl (by decide +kernel)) <|
    zall_c (zs_icmp_ne X (pc := 12) (off := 14) (by decide +kernel) (by decide)) <|
    zall_c (zs_throww X (pc := 15) (ik := 338) (is := 340) (ic := 342) (cls := "java/lang/IllegalArgumentException") (text := "two different workers are needed") (names := ["java/lang/RuntimeException", "java/lang/Exception"]) rfl (by decide +kernel) (by decide +kernel) (.tail _ gw_2_152) (.tail _ gw_1_25) (by decide +kernel) (zin gt_X8_342) gt_X8_342x (by decide +kernel) hout (by decide) (by decide) (by decide +kernel) (by decide +kernel) (by decide +kernel) (by decide +kernel) (by decide +kernel)) <|
    zall_c (zs_aload_n X (pc := 26) (q := 0) rfl (by decide +kernel)) <|
    zall_c (zs_getr X (pc := 27) zc_X8 (by decide) (zin ui_X8) (.tail _ gw_2_117) (by decide +kernel) (by decide +kernel)) <|
    zall_c (zs_aload_n X (pc := 30) (q := 0) rfl (by decide +kernel)) <|
    zall_c (zs_getr X (pc := 31) zc_X8 (by decide) (zin ui_X8) (.tail _ gw_2_116) (by decide +kernel) (by decide +kernel)) <|
    zall_c (zs_callV0 X (pc := 34) zc_X0 (fun _ ht => ⟨(zCB ht gw_4_237 gw_1_11 gw_4_234 rfl rfl (by decide +kernel) ⟨Nat.le_of_ble_eq_true rfl, Nat.le_of_ble_eq_true rfl⟩), ht _ (.tail _ gw_4_235), ht _ (.tail _ gw_4_236)⟩) h1 hout (by decide +kernel)) <|
    zall_c (zs_aload_n X (pc := 37) (q := 0) rfl (by decide +kernel)) <|
    zall_c (zs_getr X (pc := 38) zc_X8 (by decide) (zin ui_X8) (.tail _ gw_2_116) (by decide +kernel) (by decide +kernel)) <|
    zall_c (zs_iload_n X (pc := 41) (q := 1) rfl (by decide +kernel)) <|
    zall_c (zs_iload_n X (pc := 42) (q := 2) rfl (by decide +kernel)) <|
    zall_c (zs_callV0 X (pc := 43) zc_X5 (fun _ ht => ⟨(zCB ht gw_4_226 gw_1_8 gw_5_46 rfl rfl (by decide +kernel) ⟨Nat.le_of_ble_eq_true rfl, Nat.le_of_ble_eq_true rfl⟩), ht _ (.tail _ gw_4_224), ht _ (.tail _ gw_4_225)⟩) h2 hout (by decide +kernel)) <|
    zall_c (zs_istore X (pc := 46) (by decide) (by decide +kernel)) <|
    zall_c (zs_aload_n X (pc := 48) (q := 0) rfl (by decide +kernel)) <|
    zall_c (zs_getr X (pc := 49) zc_X8 (by decide) (zin ui_X8) (.tail _ gw_2_116) (by decide +kernel) (by decide +kernel)) <|
    zall_c (zs_iload_n X (pc := 52) (q := 1) rfl (by decide +kernel)) <|
    zall_c (zs_iload_n X (pc := 53) (q := 2) rfl (by decide +kernel)) <|
    zall_c (zs_iload_n X (pc := 54) (q := 3) rfl (by decide +kernel)) <|
    zall_c (zs_callV0 X (pc := 55) zc_X5 (fun _ ht => ⟨(zCB ht gw_4_233 gw_1_8 gw_6_56 rfl rfl (by decide +kernel) ⟨Nat.le_of_ble_eq_true rfl, Nat.le_of_ble_eq_true rfl⟩), ht _ (.tail _ gw_4_231), ht _ (.tail _ gw_4_232)⟩) h3 hout (by decide +kernel)) <|
    zall_c (zs_iload X (pc := 58) (by decide +kernel)) <|
    zall_c (zs_zret X (pc := 60) rfl zR_bool (by decide +kernel)) <|
    zall_n
theorem met_X8_bar {l : Launch} (hl : l.stackTraces = false) {T0 : ZTf} {T1 : ZTf} {T2 : ZTf} {T3 : ZTf} (h0 : zMet l yX8_requireWorker (Cond.code yX8_requireWorker cX8_requireWorker 2 (Option.none : Option Jvm.ClassFile.FieldType) :: zG) rm_X8_requireWorker 1 6 T0) (h1 : zMet l yX0_remember (Cond.code yX0_remember cX0_remember 2 (Option.none : Option Jvm.ClassFile.FieldType) :: zG) rm_X0_remember 0 0 T1) (h2 : zMet l yX5_areKeptApart (Cond.code yX5_areKeptApart cX5_areKeptApart 4 (Option.some Jvm.ClassFile.FieldType.boolean) :: zG) rm_X5_areKeptApart 0 0 T2) (h3 : zMet l yX5_tellApart (Cond.code yX5_tellApart cX5_tellApart 5 (Option.none : Option Jvm.ClassFile.FieldType) :: zG) rm_X5_tellApart 0 0 T3) {T : ZTf} (bd : zBd (cd_X8_bar T0 T1 T2 T3) 5 3 18 T) : zMet l yX8_bar (Cond.code yX8_bar cX8_bar 5 (Option.some Jvm.ClassFile.FieldType.boolean) :: zG) rm_X8_bar 3 18 T := zMet_of hl (by decide +kernel) rfl rfl rfl rfl (hs_X8_bar hl h0 h1 h2 h3) bd

abbrev rm_X8_addRows : Room := { frames := 7, cells := 3, slots := 18, locals := 124 }
def cd_X8_addRows (T0 : ZTf) (T1 : ZTf) (T2 : ZTf) (T3 : ZTf) : List (Nat × ZTr) := [(0, tIld 1 1), (1, tC (zi 1) 2), (2, tC (zi 24) 4), (4, tCall 3 1 6 T0 zAny 7), (7, tIld 2 8), (8, tC (zi 1) 9), (9, tC (zi 9) 11), (11, tCall 3 1 6 T0 zAny 14), (14, tAld 0 15), (15, tGetR 11 2 18), (18, tIld 1 19), (19, tCall0 2 T1 (zRcv 8) 22), (22, tIf_ne 36 25), (25, tThr 2), (36, tAld 0 37), (37, tGetR 11 3 40), (40, tAld 0 41), (41, tGetR 11 2 44), (44, tCall0 2 T2 (zRcv 4) 47), (47, tAld 0 48), (48, tGetR 11 2 51), (51, tGetI 8 5 54), (54, tIst 3 55), (55, tAld 0 56), (56, tGetR 11 2 59), (59, tIld 1 60), (60, tIld 2 61), (61, tCall0 3 T3 (zRcv 8) 64), (64, tIld 3 65), (65, tRi (fun _ => True))]
set_option maxRecDepth 100000 in
set_option maxHeartbeats 4000000 in
theorem hs_X8_addRows {l : Launch} (hl : l.stackTraces = false) {T0 : ZTf} {T1 : ZTf} {T2 : ZTf} {T3 : ZTf} (h0 : zMet l yX8_requireRange (Cond.code yX8_requireRange cX8_requireRange 3 (Option.none : Option Jvm.ClassFile.FieldType) :: zG) rm_X8_requireRange 1 6 T0) (h1 : zMet l yX5_hasRoomFor (Cond.code yX5_hasRoomFor cX5_hasRoomFor 2 (Option.some Jvm.ClassFile.FieldType.boolean) :: zG) rm_X5_hasRoomFor 0 0 T1) (h2 : zMet l yX0_remember (Cond.code yX0_remember cX0_remember 2 (Option.none : Option Jvm.ClassFile.FieldType) :: zG) rm_X0_remember 0 0 T2) (h3 : zMet l yX5_putRows (Cond.code yX5_putRows cX5_putRows 4 (Option.none : Option Jvm.ClassFile.FieldType) :: zG) rm_X5_putRows 0 0 T3) (p : Program) (e : Env) (s : State) (m : MethodId) (args : Array Value) (below : List Frame) (meth : Method) (c : Code) (D : va_G) (A : Nat → Prop) (a0 : Nat → Nat) (M0 : ZM) (K : ZRet) (KX : ZEx) (X : zCtx p l rm_X8_addRows s m args meth c cX8_addRows RX8 (Cond.code yX8_addRows cX8_addRows 4 (Option.some Jvm.ClassFile.FieldType.int) :: zG) 4 (Option.some Jvm.ClassFile.FieldType.int) D A a0 M0 3 18) (hnm : meth.name = yX8_addRows.name) (hout : ∀ x ∈ c.exceptionTable.toList, False) : ∀ q ∈ cd_X8_addRows T0 T1 T2 T3, zSd p l e rm_X8_addRows s m args below meth c 4 D A a0 M0 K KX 3 18 q.1 q.2 :=
    zall_c (zs_iload_n X (pc := 0) (q := 1) rfl (by decide +kernel)) <|
    zall_c (zs_iconst X (pc := 1) (by decide) (by decide +kernel)) <|
    zall_c (zs_bipush X (pc := 2) (by decide) (by decide +kernel) (by decide +kernel)) <|
    zall_c (zs_callS X (pc := 4) (fun _ ht => ⟨(zCB ht gw_2_151 gw_1_1 gw_2_149 rfl rfl (by decide +kernel) ⟨Nat.le_of_ble_eq_true rfl, Nat.le_of_ble_eq_true rfl⟩), ht _ (.tail _ gw_2_150)⟩) h0 hout (by decide +kernel)) <|
    zall_c (zs_iload_n X (pc := 7) (q := 2) rfl (by decide +kernel)) <|
    zall_c (zs_iconst X (pc := 8) (by decide) (by decide +kernel)) <|
    zall_c (zs_bipush X (pc := 9) (by decide) (by decide +kernel) (by decide +kernel)) <|
    zall_c (zs_callS X (pc := 11) (fun _ ht => ⟨(zCB ht gw_2_151 gw_1_1 gw_2_149 rfl rfl (by decide +kernel) ⟨Nat.le_of_ble_eq_true rfl, Nat.le_of_ble_eq_true rfl⟩), ht _ (.tail _ gw_2_150)⟩) h0 hout (by decide +kernel)) <|
    zall_c (zs_aload_n X (pc := 14) (q := 0) rfl (by decide +kernel)) <|
    zall_c (zs_getr X (pc := 15) zc_X8 (by decide) (zin ui_X8) (.tail _ gw_2_116) (by decide +kernel) (by decide +kernel)) <|
    zall_c (zs_iload_n X (pc := 18) (q := 1) rfl (by decide +kernel)) <|
    zall_c (zs_callV0 X (pc := 19) zc_X5 (fun _ ht => ⟨(zCB ht gw_4_202 gw_1_8 gw_5_101 rfl rfl (by decide +kernel) ⟨Nat.le_of_ble_eq_true rfl, Nat.le_of_ble_eq_true rfl⟩), ht _ (.tail _ gw_4_200), ht _ (.tail _ gw_4_201)⟩) h1 hout (by decide +kernel)) <|
    zall_c (zs_if_ne X (pc := 22) (off := 14) (by decide +kernel) (by decide)) <|
    zall_c (zs_throww X (pc := 25) (ik := 69) (is := 350) (ic := 73) (cls := "java/lang/IllegalStateException") (text := "too many rows") (names := ["java/lang/RuntimeException", "java/lang/Exception"]) rfl (by decide +kernel) (by decide +kernel) (.tail _ gw_4_33) (.tail _ gw_1_24) (by decide +kernel) (zin gt_X8_73) gt_X8_73x (by decide +kernel) hout (by decide) (by decide) (by decide +kernel) (by decide +kernel) (by decide +kernel) (by decide +kernel) (by decide +kernel)) <|
    zall_c (zs_aload_n X (pc := 36) (q := 0) rfl (by decide +kernel)) <|
    zall_c (zs_getr X (pc := 37) zc_X8 (by decide) (zin ui_X8) (.tail _ gw_2_117) (by decide +kernel) (by decide +kernel)) <|
    zall_c (zs_aload_n X (pc := 40) (q := 0) rfl (by decide +kernel)) <|
    zall_c (zs_getr X (pc := 41) zc_X8 (by decide) (zin ui_X8) (.tail _ gw_2_116) (by decide +kernel) (by decide +kernel)) <|
    zall_c (zs_callV0 X (pc := 44) zc_X0 (fun _ ht => ⟨(zCB ht gw_4_237 gw_1_11 gw_4_234 rfl rfl (by decide +kernel) ⟨Nat.le_of_ble_eq_true rfl, Nat.le_of_ble_eq_true rfl⟩), ht _ (.tail _ gw_4_235), ht _ (.tail _ gw_4_236)⟩) h2 hout (by decide +kernel)) <|
    zall_c (zs_aload_n X (pc := 47) (q := 0) rfl (by decide +kernel)) <|
    zall_c (zs_getr X (pc := 48) zc_X8 (by decide) (zin ui_X8) (.tail _ gw_2_116) (by decide +kernel) (by decide +kernel)) <|
    zall_c (zs_geti X (pc := 51) zc_X5 (by decide) (zin ui_X5) (.tail _ gw_1_233) (by decide +kernel) (by decide +kernel)) <|
    zall_c (zs_istore_n X (pc := 54) (q := 3) rfl (by decide) (by decide +kernel)) <|
    zall_c (zs_aload_n X (pc := 55) (q := 0) rfl (by decide +kernel)) <|
    zall_c (zs_getr X (pc := 56) zc_X8 (by decide) (zin ui_X8) (.tail _ gw_2_116) (by decide +kernel) (by decide +kernel)) <|
    zall_c (zs_iload_n X (pc := 59) (q := 1) rfl (by decide +kernel)) <|
    zall_c (zs_iload_n X (pc := 60) (q := 2) rfl (by decide +kernel)) <|
    zall_c (zs_callV0 X (pc := 61) zc_X5 (fun _ ht => ⟨(zCB ht gw_4_208 gw_1_8 gw_5_103 rfl rfl (by decide +kernel) ⟨Nat.le_of_ble_eq_true rfl, Nat.le_of_ble_eq_true rfl⟩), ht _ (.tail _ gw_4_206), ht _ (.tail _ gw_4_207)⟩) h3 hout (by decide +kernel)) <|
    zall_c (zs_iload_n X (pc := 64) (q := 3) rfl (by decide +kernel)) <|
    zall_c (zs_iret X (pc := 65) rfl (by decide +kernel)) <|
    zall_n
theorem met_X8_addRows {l : Launch} (hl : l.stackTraces = false) {T0 : ZTf} {T1 : ZTf} {T2 : ZTf} {T3 : ZTf} (h0 : zMet l yX8_requireRange (Cond.code yX8_requireRange cX8_requireRange 3 (Option.none : Option Jvm.ClassFile.FieldType) :: zG) rm_X8_requireRange 1 6 T0) (h1 : zMet l yX5_hasRoomFor (Cond.code yX5_hasRoomFor cX5_hasRoomFor 2 (Option.some Jvm.ClassFile.FieldType.boolean) :: zG) rm_X5_hasRoomFor 0 0 T1) (h2 : zMet l yX0_remember (Cond.code yX0_remember cX0_remember 2 (Option.none : Option Jvm.ClassFile.FieldType) :: zG) rm_X0_remember 0 0 T2) (h3 : zMet l yX5_putRows (Cond.code yX5_putRows cX5_putRows 4 (Option.none : Option Jvm.ClassFile.FieldType) :: zG) rm_X5_putRows 0 0 T3) {T : ZTf} (bd : zBd (cd_X8_addRows T0 T1 T2 T3) 4 3 18 T) : zMet l yX8_addRows (Cond.code yX8_addRows cX8_addRows 4 (Option.some Jvm.ClassFile.FieldType.int) :: zG) rm_X8_addRows 3 18 T := zMet_of hl (by decide +kernel) rfl rfl rfl rfl (hs_X8_addRows hl h0 h1 h2 h3) bd

abbrev rm_X8_setTable : Room := { frames := 8, cells := 5, slots := 30, locals := 133 }
def cd_X8_setTable (T0 : ZTf) (T1 : ZTf) (T2 : ZTf) (T3 : ZTf) : List (Nat × ZTr) := [(0, tIld 1 1), (1, tC (zi 0) 2), (2, tC (zi 2) 3), (3, tCall 3 1 6 T0 zAny 6), (6, tIld 1 7), (7, tIld 2 8), (8, tCall 2 3 18 T1 zAny 11), (11, tAld 0 12), (12, tC (zi 3) 13), (13, tIld 1 14), (14, tAdd 15), (15, tCall 2 1 6 T2 (zRcv 11) 18), (18, tIst 3 19), (19, tAld 0 20), (20, tGetR 11 3 23), (23, tAld 0 24), (24, tGetR 11 2 27), (27, tCall0 2 T3 (zRcv 4) 30), (30, tIld 1 31), (31, tSw [(0, 56), (1, 67)] 78), (56, tAld 0 57), (57, tGetR 11 2 60), (60, tIld 2 61), (61, tPutI 8 0 (fun _ => True) 64), (64, tGo 86), (67, tAld 0 68), (68, tGetR 11 2 71), (71, tIld 2 72), (72, tPutI 8 1 (fun _ => True) 75), (75, tGo 86), (78, tAld 0 79), (79, tGetR 11 2 82), (82, tIld 2 83), (83, tPutI 8 2 (fun _ => True) 86), (86, tIld 3 87), (87, tRi (fun _ => True))]
set_option maxRecDepth 100000 in
set_option maxHeartbeats 4000000 in
theorem hs_X8_setTable {l : Launch} (hl : l.stackTraces = false) {T0 : ZTf} {T1 : ZTf} {T2 : ZTf} {T3 : ZTf} (h0 : zMet l yX8_requireRange (Cond.code yX8_requireRange cX8_requireRange 3 (Option.none : Option Jvm.ClassFile.FieldType) :: zG) rm_X8_requireRange 1 6 T0) (h1 : zMet l yX8_requireSetting (Cond.code yX8_requireSetting cX8_requireSetting 2 (Option.none : Option Jvm.ClassFile.FieldType) :: zG) rm_X8_requireSetting 3 18 T1) (h2 : zMet l yX8_property (Cond.code yX8_property cX8_property 2 (Option.some Jvm.ClassFile.FieldType.int) :: zG) rm_X8_property 1 6 T2) (h3 : zMet l yX0_remember (Cond.code yX0_remember cX0_remember 2 (Option.none : Option Jvm.ClassFile.FieldType) :: zG) rm_X0_remember 0 0 T3) (p : Program) (e : Env) (s : State) (m : MethodId) (args : Array Value) (below : List Frame) (meth : Method) (c : Code) (D : va_G) (A : Nat → Prop) (a0 : Nat → Nat) (M0 : ZM) (K : ZRet) (KX : ZEx) (X : zCtx p l rm_X8_setTable s m args meth c cX8_setTable RX8 (Cond.code yX8_setTable cX8_setTable 4 (Option.some Jvm.ClassFile.FieldType.int) :: zG) 4 (Option.some Jvm.ClassFile.FieldType.int) D A a0 M0 5 30) (hnm : meth.name = yX8_setTable.name) (hout : ∀ x ∈ c.exceptionTable.toList, False) : ∀ q ∈ cd_X8_setTable T0 T1 T2 T3, zSd p l e rm_X8_setTable s m args below meth c 4 D A a0 M0 K KX 5 30 q.1 q.2 :=
    zall_c (zs_iload_n X (pc := 0) (q := 1) rfl (by decide +kernel)) <|
    zall_c (zs_iconst X (pc := 1) (by decide) (by decide +kernel)) <|
    zall_c (zs_iconst X (pc := 2) (by decide) (by decide +kernel)) <|
    zall_c (zs_callS X (pc := 3) (fun _ ht => ⟨(zCB ht gw_2_151 gw_1_1 gw_2_149 rfl rfl (by decide +kernel) ⟨Nat.le_of_ble_eq_true rfl, Nat.le_of_ble_eq_true rfl⟩), ht _ (.tail _ gw_2_150)⟩) h0 hout (by decide +kernel)) <|
    zall_c (zs_iload_n X (pc := 6) (q := 1) rfl (by decide +kernel)) <|
    zall_c (zs_iload_n X (pc := 7) (q := 2) rfl (by decide +kernel)) <|
    zall_c (zs_callS X (pc := 8) (fun _ ht => ⟨(zCB ht gw_6_63 gw_1_1 gw_6_61 rfl rfl (by decide +kernel) ⟨Nat.le_of_ble_eq_true rfl, Nat.le_of_ble_eq_true rfl⟩), ht _ (.tail _ gw_6_62)⟩) h1 hout (by decide +kernel)) <|
    zall_c (zs_aload_n X (pc := 11) (q := 0) rfl (by decide +kernel)) <|
    zall_c (zs_iconst X (pc := 12) (by decide) (by decide +kernel)) <|
    zall_c (zs_iload_n X (pc := 13) (q := 1) rfl (by decide +kernel)) <|
    zall_c (zs_iadd X (pc := 14) (by decide +kernel)) <|
    zall_c (zs_callV X (pc := 15) zc_X8 (fun _ ht => ⟨(zCB ht gw_2_148 gw_1_1 gw_6_64 rfl rfl (by decide +kernel) ⟨Nat.le_of_ble_eq_true rfl, Nat.le_of_ble_eq_true rfl⟩), ht _ (.tail _ gw_2_146), ht _ (.tail _ gw_2_147)⟩) h2 hout (by decide +kernel)) <|
    zall_c (zs_istore_n X (pc := 18) (q := 3) rfl (by decide) (by decide +kernel)) <|
    zall_c (zs_aload_n X (pc := 19) (q := 0) rfl (by decide +kernel)) <|
    zall_c (zs_getr X (pc := 20) zc_X8 (by decide) (zin ui_X8) (.tail _ gw_2_117) (by decide +kernel) (by decide +kernel)) <|
    zall_c (zs_aload_n X (pc := 23) (q := 0) rfl (by decide +kernel)) <|
    zall_c (zs_getr X (pc := 24) zc_X8 (by decide) (zin ui_X8) (.tail _ gw_2_116) (by decide +kernel) (by decide +kernel)) <|
    zall_c (zs_callV0 X (pc := 27) zc_X0 (fun _ ht => ⟨(zCB ht gw_4_237 gw_1_11 gw_4_234 rfl rfl (by decide +kernel) ⟨Nat.le_of_ble_eq_true rfl, Nat.le_of_ble_eq_true rfl⟩), ht _ (.tail _ gw_4_235), ht _ (.tail _ gw_4_236)⟩) h3 hout (by decide +kernel)) <|
    zall_c (zs_iload_n X (pc := 30) (q := 1) rfl (by decide +kernel)) <|
    zall_c (zs_lookup X (pc := 31) (df := 47) (ps := #[(0, 25), (1, 36)]) (len := 25) (by decide +kernel) (by decide +kernel) (by decide) (by decide +kernel) (by decide +kernel)) <|
    zall_c (zs_aload_n X (pc := 56) (q := 0) rfl (by decide +kernel)) <|
    zall_c (zs_getr X (pc := 57) zc_X8 (by decide) (zin ui_X8) (.tail _ gw_2_116) (by decide +kernel) (by decide +kernel)) <|
    zall_c (zs_iload_n X (pc := 60) (q := 2) rfl (by decide +kernel)) <|
    zall_c (zs_puti X (pc := 61) (ty := Jvm.ClassFile.FieldType.int) zc_X5 (by decide) (zin ui_X5) tyX5_ok nmX5 (.tail _ gw_1_220) rfl (by decide +kernel) (by decide +kernel) (by decide +kernel) zP_int) <|
    zall_c (zs_goto X (pc := 64) (off := 22) (by decide +kernel) (by decide)) <|
    zall_c (zs_aload_n X (pc := 67) (q := 0) rfl (by decide +kernel)) <|
    zall_c (zs_getr X (pc := 68) zc_X8 (by decide) (zin ui_X8) (.tail _ gw_2_116) (by decide +kernel) (by decide +kernel)) <|
    zall_c (zs_iload_n X (pc := 71) (q := 2) rfl (by decide +kernel)) <|
    zall_c (zs_puti X (pc := 72) (ty := Jvm.ClassFile.FieldType.int) zc_X5 (by decide) (zin ui_X5) tyX5_ok nmX5 (.tail _ gw_1_223) rfl (by decide +kernel) (by decide +kernel) (by decide +kernel) zP_int) <|
    zall_c (zs_goto X (pc := 75) (off := 11) (by decide +kernel) (by decide)) <|
    zall_c (zs_aload_n X (pc := 78) (q := 0) rfl (by decide +kernel)) <|
    zall_c (zs_getr X (pc := 79) zc_X8 (by decide) (zin ui_X8) (.tail _ gw_2_116) (by decide +kernel) (by decide +kernel)) <|
    zall_c (zs_iload_n X (pc := 82) (q := 2) rfl (by decide +kernel)) <|
    zall_c (zs_puti X (pc := 83) (ty := Jvm.ClassFile.FieldType.int) zc_X5 (by decide) (zin ui_X5) tyX5_ok nmX5 (.tail _ gw_1_226) rfl (by decide +kernel) (by decide +kernel) (by decide +kernel) zP_int) <|
    zall_c (zs_iload_n X (pc := 86) (q := 3) rfl (by decide +kernel)) <|
    zall_c (zs_iret X (pc := 87) rfl (by decide +kernel)) <|
    zall_n
theorem met_X8_setTable {l : Launch} (hl : l.stackTraces = false) {T0 : ZTf} {T1 : ZTf} {T2 : ZTf} {T3 : ZTf} (h0 : zMet l yX8_requireRange (Cond.code yX8_requireRange cX8_requireRange 3 (Option.none : Option Jvm.ClassFile.FieldType) :: zG) rm_X8_requireRange 1 6 T0) (h1 : zMet l yX8_requireSetting (Cond.code yX8_requireSetting cX8_requireSetting 2 (Option.none : Option Jvm.ClassFile.FieldType) :: zG) rm_X8_requireSetting 3 18 T1) (h2 : zMet l yX8_property (Cond.code yX8_property cX8_property 2 (Option.some Jvm.ClassFile.FieldType.int) :: zG) rm_X8_property 1 6 T2) (h3 : zMet l yX0_remember (Cond.code yX0_remember cX0_remember 2 (Option.none : Option Jvm.ClassFile.FieldType) :: zG) rm_X0_remember 0 0 T3) {T : ZTf} (bd : zBd (cd_X8_setTable T0 T1 T2 T3) 4 5 30 T) : zMet l yX8_setTable (Cond.code yX8_setTable cX8_setTable 4 (Option.some Jvm.ClassFile.FieldType.int) :: zG) rm_X8_setTable 5 30 T := zMet_of hl (by decide +kernel) rfl rfl rfl rfl (hs_X8_setTable hl h0 h1 h2 h3) bd

abbrev rm_J5_ensureCapacityInternal_d00df (a b : Nat) : Room := { frames := 3, cells := a, slots := b, locals := 82 }
def cd_J5_ensureCapacityInternal_d00df (T0 : ZTf) (T1 : Nat → Nat → ZTf) : List (Nat × ZTr) := [(0, tAld 0 1), (1, tGetR 1 0 4), (4, tLen 5), (5, tAld 0 6), (6, tGetI 1 1 9), (9, tBif zshr 10), (10, tIst 2 11), (11, tIld 1 12), (12, tIld 2 13), (13, tSub 14), (14, tIf_le 38 17), (17, tAld 0 18), (18, tAld 0 19), (19, tGetR 1 0 22), (22, tAld 0 23), (23, tIld 1 24), (24, tCall0 2 T0 (zRcv 1) 27), (27, tAld 0 28), (28, tGetI 1 1 31), (31, tBif zshl 32), (32, tEx (fun a b => tCall 2 a b (T1 a b) zAny 35)), (35, tPutR 1 0 38), (38, tRv)]
set_option maxRecDepth 100000 in
set_option maxHeartbeats 4000000 in
theorem hs_J5_ensureCapacityInternal_d00df {l : Launch} (hl : l.stackTraces = false) {a b : Nat} {T0 : ZTf} {T1 : Nat → Nat → ZTf} (h0 : zMet l yJ5_newCapacity_0f7a4 (Cond.code yJ5_newCapacity_0f7a4 cJ5_newCapacity_0f7a4 6 (Option.some Jvm.ClassFile.FieldType.int) :: zG) rm_J5_newCapacity_0f7a4 0 0 T0) (h1 : ∀ a b, zMet l yJ7_copyOf_9075b (Cond.code yJ7_copyOf_9075b cJ7_copyOf_9075b 3 (Option.some (Jvm.ClassFile.FieldType.array Jvm.ClassFile.FieldType.byte)) :: zG) (rm_J7_copyOf_9075b a b) a b (T1 a b)) (p : Program) (e : Env) (s : State) (m : MethodId) (args : Array Value) (below : List Frame) (meth : Method) (c : Code) (D : va_G) (A : Nat → Prop) (a0 : Nat → Nat) (M0 : ZM) (K : ZRet) (KX : ZEx) (X : zCtx p l (rm_J5_ensureCapacityInternal_d00df a b) s m args meth c cJ5_ensureCapacityInternal_d00df RJ5 (Cond.code yJ5_ensureCapacityInternal_d00df cJ5_ensureCapacityInternal_d00df 3 (Option.none : Option Jvm.ClassFile.FieldType) :: zG) 3 (Option.none : Option Jvm.ClassFile.FieldType) D A a0 M0 a b) (hnm : meth.name = yJ5_ensureCapacityInternal_d00df.name) (hout : ∀ x ∈ c.exceptionTable.toList, False) : ∀ q ∈ cd_J5_ensureCapacityInternal_d00df T0 T1, zSd p l e (rm_J5_ensureCapacityInternal_d00df a b) s m args below meth c 3 D A a0 M0 K KX a b q.1 q.2 :=
    zall_c (zs_aload_n X (pc := 0) (q := 0) rfl (by decide +kernel)) <|
    zall_c (zs_getr X (pc := 1) zc_J4 (by decide) (zin ui_J4) (.tail _ gw_1_67) (by decide +kernel) (by decide +kernel)) <|
    zall_c (zs_len X (pc := 4) (by decide +kernel)) <|
    zall_c (zs_aload_n X (pc := 5) (q := 0) rfl (by decide +kernel)) <|
    zall_c (zs_geti X (pc := 6) zc_J4 (by decide) (zin ui_J4) (.tail _ gw_1_68) (by decide +kernel) (by decide +kernel)) <|
    zall_c (zs_ishr X (pc := 9) (by decide +kernel)) <|
    zall_c (zs_istore_n X (pc := 10) (q := 2) rfl (by decide) (by decide +kernel)) <|
    zall_c (zs_iload_n X (pc := 11) (q := 1) rfl (by decide +kernel)) <|
    zall_c (zs_iload_n X (pc := 12) (q := 2) rfl (by decide +kernel)) <|
    zall_c (zs_isub X (pc := 13) (by decide +kernel)) <|
    zall_c (zs_if_le X (pc := 14) (off := 24) (by decide +kernel) (by decide)) <|
    zall_c (zs_aload_n X (pc := 17) (q := 0) rfl (by decide +kernel)) <|
    zall_c (zs_aload_n X (pc := 18) (q := 0) rfl (by decide +kernel)) <|
    zall_c (zs_getr X (pc := 19) zc_J4 (by decide) (zin ui_J4) (.tail _ gw_1_67) (by decide +kernel) (by decide +kernel)) <|
    zall_c (zs_aload_n X (pc := 22) (q := 0) rfl (by decide +kernel)) <|
    zall_c (zs_iload_n X (pc := 23) (q := 1) rfl (by decide +kernel)) <|
    zall_c (zs_callV0 X (pc := 24) zc_J4 (fun _ ht => ⟨(zCB ht gw_3_37 gw_1_4 gw_3_34 rfl rfl (by decide +kernel) ⟨Nat.le_of_ble_eq_true rfl, Nat.le_of_ble_eq_true rfl⟩), ht _ (.tail _ gw_3_36), ht _ (.tail _ gx_0)⟩) h0 hout (by decide +kernel)) <|
    zall_c (zs_aload_n X (pc := 27) (q := 0) rfl (by decide +kernel)) <|
    zall_c (zs_geti X (pc := 28) zc_J4 (by decide) (zin ui_J4) (.tail _ gw_1_68) (by decide +kernel) (by decide +kernel)) <|
    zall_c (zs_ishl X (pc := 31) (by decide +kernel)) <|
    zall_c (zs_ex (fun a b => zs_callS X (pc := 32) (fun _ ht => ⟨(zCB ht gw_3_50 gw_1_15 gw_3_48 rfl rfl (by decide +kernel) ⟨Nat.le_of_ble_eq_true rfl, Nat.le_of_ble_eq_true rfl⟩), ht _ (.tail _ gw_3_49)⟩) (h1 a b) hout (by decide +kernel))) <|
    zall_c (zs_putr X (pc := 35) (ty := (Jvm.ClassFile.FieldType.array Jvm.ClassFile.FieldType.byte)) zc_J4 (by decide) (zin ui_J4) tyJ4_ok nmJ4 (.tail _ gw_1_67) rfl (by decide +kernel) (by decide +kernel) (by decide +kernel) zP_arr) <|
    zall_c (zs_vret X (pc := 38) rfl (by decide +kernel)) <|
    zall_n
theorem met_J5_ensureCapacityInternal_d00df {l : Launch} (hl : l.stackTraces = false) {a b : Nat} {T0 : ZTf} {T1 : Nat → Nat → ZTf} (h0 : zMet l yJ5_newCapacity_0f7a4 (Cond.code yJ5_newCapacity_0f7a4 cJ5_newCapacity_0f7a4 6 (Option.some Jvm.ClassFile.FieldType.int) :: zG) rm_J5_newCapacity_0f7a4 0 0 T0) (h1 : ∀ a b, zMet l yJ7_copyOf_9075b (Cond.code yJ7_copyOf_9075b cJ7_copyOf_9075b 3 (Option.some (Jvm.ClassFile.FieldType.array Jvm.ClassFile.FieldType.byte)) :: zG) (rm_J7_copyOf_9075b a b) a b (T1 a b)) {T : ZTf} (bd : zBd (cd_J5_ensureCapacityInternal_d00df T0 T1) 3 a b T) : zMet l yJ5_ensureCapacityInternal_d00df (Cond.code yJ5_ensureCapacityInternal_d00df cJ5_ensureCapacityInternal_d00df 3 (Option.none : Option Jvm.ClassFile.FieldType) :: zG) (rm_J5_ensureCapacityInternal_d00df a b) a b T := zMet_of hl (by decide +kernel) rfl rfl rfl rfl (hs_J5_ensureCapacityInternal_d00df hl h0 h1) bd

abbrev rm_J5_setLength_d00df (a b : Nat) : Room := { frames := 4, cells := a, slots := b, locals := 104 }
def cd_J5_setLength_d00df (T0 : Nat → Nat → ZTf) : List (Nat × ZTr) := [(0, tIld 1 1), (1, tIf_ge 13 4), (4, tNo), (13, tAld 0 14), (14, tIld 1 15), (15, tEx (fun a b => tCall 2 a b (T0 a b) (zRcv 1) 18)), (18, tAld 0 19), (19, tGetI 1 3 22), (22, tIld 1 23), (23, tIc_ge 63 26), (26, tNo), (63, tAld 0 64), (64, tGetI 1 3 67), (67, tIld 1 68), (68, tIc_le 76 71), (71, tAld 0 72), (72, tC (zi 1) 73), (73, tPutI 1 2 zPz 76), (76, tAld 0 77), (77, tIld 1 78), (78, tPutI 1 3 (fun _ => True) 81), (81, tRv)]
set_option maxRecDepth 100000 in
set_option maxHeartbeats 4000000 in
theorem hs_J5_setLength_d00df {l : Launch} (hl : l.stackTraces = false) {a b : Nat} {T0 : Nat → Nat → ZTf} (h0 : ∀ a b, zMet l yJ5_ensureCapacityInternal_d00df (Cond.code yJ5_ensureCapacityInternal_d00df cJ5_ensureCapacityInternal_d00df 3 (Option.none : Option Jvm.ClassFile.FieldType) :: zG) (rm_J5_ensureCapacityInternal_d00df a b) a b (T0 a b)) (p : Program) (e : Env) (s : State) (m : MethodId) (args : Array Value) (below : List Frame) (meth : Method) (c : Code) (D : va_G) (A : Nat → Prop) (a0 : Nat → Nat) (M0 : ZM) (K : ZRet) (KX : ZEx) (X : zCtx p l (rm_J5_setLength_d00df a b) s m args meth c cJ5_setLength_d00df RJ5 (Cond.code yJ5_setLength_d00df cJ5_setLength_d00df 2 (Option.none : Option Jvm.ClassFile.FieldType) :: zG) 2 (Option.none : Option Jvm.ClassFile.FieldType) D A a0 M0 a b) (hnm : meth.name = yJ5_setLength_d00df.name) (hout : ∀ x ∈ c.exceptionTable.toList, False) : ∀ q ∈ cd_J5_setLength_d00df T0, zSd p l e (rm_J5_setLength_d00df a b) s m args below meth c 2 D A a0 M0 K KX a b q.1 q.2 :=
    zall_c (zs_iload_n X (pc := 0) (q := 1) rfl (by decide +kernel)) <|
    zall_c (zs_if_ge X (pc := 1) (off := 12) (by decide +kernel) (by decide)) <|
    zall_c (zs_no (pc := 4)) <|
    zall_c (zs_aload_n X (pc := 13) (q := 0) rfl (by decide +kernel)) <|
    zall_c (zs_iload_n X (pc := 14) (q := 1) rfl (by decide +kernel)) <|
    zall_c (zs_ex (fun a b => zs_callV X (pc := 15) zc_J4 (fun _ ht => ⟨(zCB ht gw_3_33 gw_1_4 gw_3_30 rfl rfl (by decide +kernel) ⟨Nat.le_of_ble_eq_true rfl, Nat.le_of_ble_eq_true rfl⟩), ht _ (.tail _ gw_3_32), ht _ (.tail _ gx_1)⟩) (h0 a b) hout (by decide +kernel))) <|
    zall_c (zs_aload_n X (pc := 18) (q := 0) rfl (by decide +kernel)) <|
    zall_c (zs_geti X (pc := 19) zc_J4 (by decide) (zin ui_J4) (.tail _ gw_1_71) (by decide +kernel) (by decide +kernel)) <|
    zall_c (zs_iload_n X (pc := 22) (q := 1) rfl (by decide +kernel)) <|
    zall_c (zs_icmp_ge X (pc := 23) (off := 40) (by decide +kernel) (by decide)) <|
    zall_c (zs_no (pc := 26)) <|
    zall_c (zs_aload_n X (pc := 63) (q := 0) rfl (by decide +kernel)) <|
    zall_c (zs_geti X (pc := 64) zc_J4 (by decide) (zin ui_J4) (.tail _ gw_1_71) (by decide +kernel) (by decide +kernel)) <|
    zall_c (zs_iload_n X (pc := 67) (q := 1) rfl (by decide +kernel)) <|
    zall_c (zs_icmp_le X (pc := 68) (off := 8) (by decide +kernel) (by decide)) <|
    zall_c (zs_aload_n X (pc := 71) (q := 0) rfl (by decide +kernel)) <|
    zall_c (zs_iconst X (pc := 72) (by decide) (by decide +kernel)) <|
    zall_c (zs_puti X (pc := 73) (ty := Jvm.ClassFile.FieldType.boolean) zc_J4 (by decide) (zin ui_J4) tyJ4_ok nmJ4 (.tail _ gw_1_69) rfl (by decide +kernel) (by decide +kernel) (by decide +kernel) zP_bool) <|
    zall_c (zs_aload_n X (pc := 76) (q := 0) rfl (by decide +kernel)) <|
    zall_c (zs_iload_n X (pc := 77) (q := 1) rfl (by decide +kernel)) <|
    zall_c (zs_puti X (pc := 78) (ty := Jvm.ClassFile.FieldType.int) zc_J4 (by decide) (zin ui_J4) tyJ4_ok nmJ4 (.tail _ gw_1_71) rfl (by decide +kernel) (by decide +kernel) (by decide +kernel) zP_int) <|
    zall_c (zs_vret X (pc := 81) rfl (by decide +kernel)) <|
    zall_n
theorem met_J5_setLength_d00df {l : Launch} (hl : l.stackTraces = false) {a b : Nat} {T0 : Nat → Nat → ZTf} (h0 : ∀ a b, zMet l yJ5_ensureCapacityInternal_d00df (Cond.code yJ5_ensureCapacityInternal_d00df cJ5_ensureCapacityInternal_d00df 3 (Option.none : Option Jvm.ClassFile.FieldType) :: zG) (rm_J5_ensureCapacityInternal_d00df a b) a b (T0 a b)) {T : ZTf} (bd : zBd (cd_J5_setLength_d00df T0) 2 a b T) : zMet l yJ5_setLength_d00df (Cond.code yJ5_setLength_d00df cJ5_setLength_d00df 2 (Option.none : Option Jvm.ClassFile.FieldType) :: zG) (rm_J5_setLength_d00df a b) a b T := zMet_of hl (by decide +kernel) rfl rfl rfl rfl (hs_J5_setLength_d00df hl h0) bd

abbrev rm_J5_append_3fe6f (a b : Nat) : Room := { frames := 4, cells := a, slots := b, locals := 104 }
def cd_J5_append_3fe6f (T0 : Nat → Nat → ZTf) (T1 : ZTf) (T2 : ZTf) : List (Nat × ZTr) := [(0, tAld 0 1), (1, tAld 0 2), (2, tGetI 1 3 5), (5, tC (zi 1) 6), (6, tAdd 7), (7, tEx (fun a b => tCall 2 a b (T0 a b) (zRcv 1) 10)), (10, tAld 0 11), (11, tCall0 1 T1 (zRcv 1) 14), (14, tIf_eq 45 17), (17, tIld 1 18), (18, tCall0 1 T2 zAny 21), (21, tIf_eq 45 24), (24, tAld 0 25), (25, tGetR 1 0 28), (28, tAld 0 29), (29, tDup 30), (30, tGetI 1 3 33), (33, tDupX1 34), (34, tC (zi 1) 35), (35, tAdd 36), (36, tPutI 1 3 (fun _ => True) 39), (39, tIld 1 40), (40, tUn zi2b 41), (41, tIas 21 (fun x => -128 ≤ x ∧ x < 128) 42), (42, tGo 75), (45, tNo), (75, tAld 0 76), (76, tRa)]
set_option maxRecDepth 100000 in
set_option maxHeartbeats 4000000 in
theorem hs_J5_append_3fe6f {l : Launch} (hl : l.stackTraces = false) {a b : Nat} {T0 : Nat → Nat → ZTf} {T1 : ZTf} {T2 : ZTf} (h0 : ∀ a b, zMet l yJ5_ensureCapacityInternal_d00df (Cond.code yJ5_ensureCapacityInternal_d00df cJ5_ensureCapacityInternal_d00df 3 (Option.none : Option Jvm.ClassFile.FieldType) :: zG) (rm_J5_ensureCapacityInternal_d00df a b) a b (T0 a b)) (h1 : zMet l yJ5_isLatin1_aae02 (Cond.code yJ5_isLatin1_aae02 cJ5_isLatin1_aae02 1 (Option.some Jvm.ClassFile.FieldType.boolean) :: zG) rm_J5_isLatin1_aae02 0 0 T1) (h2 : zMet l yJ1_canEncode_fc78d (Cond.code yJ1_canEncode_fc78d cJ1_canEncode_fc78d 1 (Option.some Jvm.ClassFile.FieldType.boolean) :: zG) rm_J1_canEncode_fc78d 0 0 T2) (p : Program) (e : Env) (s : State) (m : MethodId) (args : Array Value) (below : List Frame) (meth : Method) (c : Code) (D : va_G) (A : Nat → Prop) (a0 : Nat → Nat) (M0 : ZM) (K : ZRet) (KX : ZEx) (X : zCtx p l (rm_J5_append_3fe6f a b) s m args meth c cJ5_append_3fe6f RJ5 (Cond.code yJ5_append_3fe6f cJ5_append_3fe6f 2 (Option.some (Jvm.ClassFile.FieldType.object "java/lang/AbstractStringBuilder")) :: zG) 2 (Option.some (Jvm.ClassFile.FieldType.object "java/lang/AbstractStringBuilder")) D A a0 M0 a b) (hnm : meth.name = yJ5_append_3fe6f.name) (hout : ∀ x ∈ c.exceptionTable.toList, False) : ∀ q ∈ cd_J5_append_3fe6f T0 T1 T2, zSd p l e (rm_J5_append_3fe6f a b) s m args below meth c 2 D A a0 M0 K KX a b q.1 q.2 :=
    zall_c (zs_aload_n X (pc := 0) (q := 0) rfl (by decide +kernel)) <|
    zall_c (zs_aload_n X (pc := 1) (q := 0) rfl (by decide +kernel)) <|
    zall_c (zs_geti X (pc := 2) zc_J4 (by decide) (zin ui_J4) (.tail _ gw_1_71) (by decide +kernel) (by decide +kernel)) <|
    zall_c (zs_iconst X (pc := 5) (by decide) (by decide +kernel)) <|
    zall_c (zs_iadd X (pc := 6) (by decide +kernel)) <|
    zall_c (zs_ex (fun a b => zs_callV X (pc := 7) zc_J4 (fun _ ht => ⟨(zCB ht gw_3_33 gw_1_4 gw_3_30 rfl rfl (by decide +kernel) ⟨Nat.le_of_ble_eq_true rfl, Nat.le_of_ble_eq_true rfl⟩), ht _ (.tail _ gw_3_32), ht _ (.tail _ gx_1)⟩) (h0 a b) hout (by decide +kernel))) <|
    zall_c (zs_aload_n X (pc := 10) (q := 0) rfl (by decide +kernel)) <|
    zall_c (zs_callV0 X (pc := 11) zc_J4 (fun _ ht => ⟨(zCB ht gw_3_68 gw_1_4 gw_3_64 rfl rfl (by decide +kernel) ⟨Nat.le_of_ble_eq_true rfl, Nat.le_of_ble_eq_true rfl⟩), ht _ (.tail _ gw_3_65), ht _ (.tail _ gw_3_67)⟩) h1 hout (by decide +kernel)) <|
    zall_c (zs_if_eq X (pc := 14) (off := 31) (by decide +kernel) (by decide)) <|
    zall_c (zs_iload_n X (pc := 17) (q := 1) rfl (by decide +kernel)) <|
    zall_c (zs_callS0 X (pc := 18) (fun _ ht => ⟨(zCB ht gw_3_167 gw_1_18 gw_3_165 rfl rfl (by decide +kernel) ⟨Nat.le_of_ble_eq_true rfl, Nat.le_of_ble_eq_true rfl⟩), ht _ (.tail _ gw_3_166)⟩) h2 hout (by decide +kernel)) <|
    zall_c (zs_if_eq X (pc := 21) (off := 24) (by decide +kernel) (by decide)) <|
    zall_c (zs_aload_n X (pc := 24) (q := 0) rfl (by decide +kernel)) <|
    zall_c (zs_getr X (pc := 25) zc_J4 (by decide) (zin ui_J4) (.tail _ gw_1_67) (by decide +kernel) (by decide +kernel)) <|
    zall_c (zs_aload_n X (pc := 28) (q := 0) rfl (by decide +kernel)) <|
    zall_c (zs_dup X (pc := 29) (by decide +kernel)) <|
    zall_c (zs_geti X (pc := 30) zc_J4 (by decide) (zin ui_J4) (.tail _ gw_1_71) (by decide +kernel) (by decide +kernel)) <|
    zall_c (zs_dup_x1 X (pc := 33) (by decide +kernel)) <|
    zall_c (zs_iconst X (pc := 34) (by decide) (by decide +kernel)) <|
    zall_c (zs_iadd X (pc := 35) (by decide +kernel)) <|
    zall_c (zs_puti X (pc := 36) (ty := Jvm.ClassFile.FieldType.int) zc_J4 (by decide) (zin ui_J4) tyJ4_ok nmJ4 (.tail _ gw_1_71) rfl (by decide +kernel) (by decide +kernel) (by decide +kernel) zP_int) <|
    zall_c (zs_iload_n X (pc := 39) (q := 1) rfl (by decide +kernel)) <|
    zall_c (zs_i2b X (pc := 40) (by decide +kernel)) <|
    zall_c (zs_bastore21 X (pc := 41) (by decide +kernel)) <|
    zall_c (zs_goto X (pc := 42) (off := 33) (by decide +kernel) (by decide)) <|
    zall_c (zs_no (pc := 45)) <|
    zall_c (zs_aload_n X (pc := 75) (q := 0) rfl (by decide +kernel)) <|
    zall_c (zs_aret X (pc := 76) rfl (Or.inl ⟨_, rfl⟩) (by decide +kernel)) <|
    zall_n
theorem met_J5_append_3fe6f {l : Launch} (hl : l.stackTraces = false) {a b : Nat} {T0 : Nat → Nat → ZTf} {T1 : ZTf} {T2 : ZTf} (h0 : ∀ a b, zMet l yJ5_ensureCapacityInternal_d00df (Cond.code yJ5_ensureCapacityInternal_d00df cJ5_ensureCapacityInternal_d00df 3 (Option.none : Option Jvm.ClassFile.FieldType) :: zG) (rm_J5_ensureCapacityInternal_d00df a b) a b (T0 a b)) (h1 : zMet l yJ5_isLatin1_aae02 (Cond.code yJ5_isLatin1_aae02 cJ5_isLatin1_aae02 1 (Option.some Jvm.ClassFile.FieldType.boolean) :: zG) rm_J5_isLatin1_aae02 0 0 T1) (h2 : zMet l yJ1_canEncode_fc78d (Cond.code yJ1_canEncode_fc78d cJ1_canEncode_fc78d 1 (Option.some Jvm.ClassFile.FieldType.boolean) :: zG) rm_J1_canEncode_fc78d 0 0 T2) {T : ZTf} (bd : zBd (cd_J5_append_3fe6f T0 T1 T2) 2 a b T) : zMet l yJ5_append_3fe6f (Cond.code yJ5_append_3fe6f cJ5_append_3fe6f 2 (Option.some (Jvm.ClassFile.FieldType.object "java/lang/AbstractStringBuilder")) :: zG) (rm_J5_append_3fe6f a b) a b T := zMet_of hl (by decide +kernel) rfl rfl rfl rfl (hs_J5_append_3fe6f hl h0 h1 h2) bd

abbrev rm_J5_append_c97b9 (a b : Nat) : Room := { frames := 4, cells := a, slots := b, locals := 104 }
def cd_J5_append_c97b9 (T0 : ZTf) (T1 : Nat → Nat → ZTf) (T2 : ZTf) (T3 : ZTf) : List (Nat × ZTr) := [(0, tAld 0 1), (1, tGetI 1 3 4), (4, tIst 2 5), (5, tIld 2 6), (6, tIld 1 7), (7, tCall0 1 T0 zAny 10), (10, tAdd 11), (11, tIst 3 12), (12, tAld 0 13), (13, tIld 3 14), (14, tEx (fun a b => tCall 2 a b (T1 a b) (zRcv 1) 17)), (17, tAld 0 18), (18, tCall0 1 T2 (zRcv 1) 21), (21, tIf_eq 37 24), (24, tIld 1 25), (25, tIld 3 26), (26, tAld 0 27), (27, tGetR 1 0 30), (30, tCall0 3 T3 zAny 33), (33, tPop 34), (34, tGo 48), (37, tNo), (48, tAld 0 49), (49, tIld 3 50), (50, tPutI 1 3 (fun _ => True) 53), (53, tAld 0 54), (54, tRa)]
set_option maxRecDepth 100000 in
set_option maxHeartbeats 4000000 in
theorem hs_J5_append_c97b9 {l : Launch} (hl : l.stackTraces = false) {a b : Nat} {T0 : ZTf} {T1 : Nat → Nat → ZTf} {T2 : ZTf} {T3 : ZTf} (h0 : zMet l yJ6_stringSize_0f7a4 (Cond.code yJ6_stringSize_0f7a4 cJ6_stringSize_0f7a4 4 (Option.some Jvm.ClassFile.FieldType.int) :: zG) rm_J6_stringSize_0f7a4 0 0 T0) (h1 : ∀ a b, zMet l yJ5_ensureCapacityInternal_d00df (Cond.code yJ5_ensureCapacityInternal_d00df cJ5_ensureCapacityInternal_d00df 3 (Option.none : Option Jvm.ClassFile.FieldType) :: zG) (rm_J5_ensureCapacityInternal_d00df a b) a b (T1 a b)) (h2 : zMet l yJ5_isLatin1_aae02 (Cond.code yJ5_isLatin1_aae02 cJ5_isLatin1_aae02 1 (Option.some Jvm.ClassFile.FieldType.boolean) :: zG) rm_J5_isLatin1_aae02 0 0 T2) (h3 : zMet l yJ6_getChars_ba4f3 (Cond.code yJ6_getChars_ba4f3 cJ6_getChars_ba4f3 7 (Option.some Jvm.ClassFile.FieldType.int) :: zG) rm_J6_getChars_ba4f3 0 0 T3) (p : Program) (e : Env) (s : State) (m : MethodId) (args : Array Value) (below : List Frame) (meth : Method) (c : Code) (D : va_G) (A : Nat → Prop) (a0 : Nat → Nat) (M0 : ZM) (K : ZRet) (KX : ZEx) (X : zCtx p l (rm_J5_append_c97b9 a b) s m args meth c cJ5_append_c97b9 RJ5 (Cond.code yJ5_append_c97b9 cJ5_append_c97b9 4 (Option.some (Jvm.ClassFile.FieldType.object "java/lang/AbstractStringBuilder")) :: zG) 4 (Option.some (Jvm.ClassFile.FieldType.object "java/lang/AbstractStringBuilder")) D A a0 M0 a b) (hnm : meth.name = yJ5_append_c97b9.name) (hout : ∀ x ∈ c.exceptionTable.toList, False) : ∀ q ∈ cd_J5_append_c97b9 T0 T1 T2 T3, zSd p l e (rm_J5_append_c97b9 a b) s m args below meth c 4 D A a0 M0 K KX a b q.1 q.2 :=
    zall_c (zs_aload_n X (pc := 0) (q := 0) rfl (by decide +kernel)) <|
    zall_c (zs_geti X (pc := 1) zc_J4 (by decide) (zin ui_J4) (.tail _ gw_1_71) (by decide +kernel) (by decide +kernel)) <|
    zall_c (zs_istore_n X (pc := 4) (q := 2) rfl (by decide) (by decide +kernel)) <|
    zall_c (zs_iload_n X (pc := 5) (q := 2) rfl (by decide +kernel)) <|
    zall_c (zs_iload_n X (pc := 6) (q := 1) rfl (by decide +kernel)) <|
    zall_c (zs_callS0 X (pc := 7) (fun _ ht => ⟨(zCB ht gw_3_137 gw_1_20 gw_3_135 rfl rfl (by decide +kernel) ⟨Nat.le_of_ble_eq_true rfl, Nat.le_of_ble_eq_true rfl⟩), ht _ (.tail _ gw_3_136)⟩) h0 hout (by decide +kernel)) <|
    zall_c (zs_iadd X (pc := 10) (by decide +kernel)) <|
    zall_c (zs_istore_n X (pc := 11) (q := 3) rfl (by decide) (by decide +kernel)) <|
    zall_c (zs_aload_n X (pc := 12) (q := 0) rfl (by decide +kernel)) <|
    zall_c (zs_iload_n X (pc := 13) (q := 3) rfl (by decide +kernel)) <|
    zall_c (zs_ex (fun a b => zs_callV X (pc := 14) zc_J4 (fun _ ht => ⟨(zCB ht gw_3_33 gw_1_4 gw_3_30 rfl rfl (by decide +kernel) ⟨Nat.le_of_ble_eq_true rfl, Nat.le_of_ble_eq_true rfl⟩), ht _ (.tail _ gw_3_32), ht _ (.tail _ gx_1)⟩) (h1 a b) hout (by decide +kernel))) <|
    zall_c (zs_aload_n X (pc := 17) (q := 0) rfl (by decide +kernel)) <|
    zall_c (zs_callV0 X (pc := 18) zc_J4 (fun _ ht => ⟨(zCB ht gw_3_68 gw_1_4 gw_3_64 rfl rfl (by decide +kernel) ⟨Nat.le_of_ble_eq_true rfl, Nat.le_of_ble_eq_true rfl⟩), ht _ (.tail _ gw_3_65), ht _ (.tail _ gw_3_67)⟩) h2 hout (by decide +kernel)) <|
    zall_c (zs_if_eq X (pc := 21) (off := 16) (by decide +kernel) (by decide)) <|
    zall_c (zs_iload_n X (pc := 24) (q := 1) rfl (by decide +kernel)) <|
    zall_c (zs_iload_n X (pc := 25) (q := 3) rfl (by decide +kernel)) <|
    zall_c (zs_aload_n X (pc := 26) (q := 0) rfl (by decide +kernel)) <|
    zall_c (zs_getr X (pc := 27) zc_J4 (by decide) (zin ui_J4) (.tail _ gw_1_67) (by decide +kernel) (by decide +kernel)) <|
    zall_c (zs_callS0 X (pc := 30) (fun _ ht => ⟨(zCB ht gw_3_140 gw_1_20 gw_3_138 rfl rfl (by decide +kernel) ⟨Nat.le_of_ble_eq_true rfl, Nat.le_of_ble_eq_true rfl⟩), ht _ (.tail _ gw_3_139)⟩) h3 hout (by decide +kernel)) <|
    zall_c (zs_pop X (pc := 33) (by decide +kernel)) <|
    zall_c (zs_goto X (pc := 34) (off := 14) (by decide +kernel) (by decide)) <|
    zall_c (zs_no (pc := 37)) <|
    zall_c (zs_aload_n X (pc := 48) (q := 0) rfl (by decide +kernel)) <|
    zall_c (zs_iload_n X (pc := 49) (q := 3) rfl (by decide +kernel)) <|
    zall_c (zs_puti X (pc := 50) (ty := Jvm.ClassFile.FieldType.int) zc_J4 (by decide) (zin ui_J4) tyJ4_ok nmJ4 (.tail _ gw_1_71) rfl (by decide +kernel) (by decide +kernel) (by decide +kernel) zP_int) <|
    zall_c (zs_aload_n X (pc := 53) (q := 0) rfl (by decide +kernel)) <|
    zall_c (zs_aret X (pc := 54) rfl (Or.inl ⟨_, rfl⟩) (by decide +kernel)) <|
    zall_n
theorem met_J5_append_c97b9 {l : Launch} (hl : l.stackTraces = false) {a b : Nat} {T0 : ZTf} {T1 : Nat → Nat → ZTf} {T2 : ZTf} {T3 : ZTf} (h0 : zMet l yJ6_stringSize_0f7a4 (Cond.code yJ6_stringSize_0f7a4 cJ6_stringSize_0f7a4 4 (Option.some Jvm.ClassFile.FieldType.int) :: zG) rm_J6_stringSize_0f7a4 0 0 T0) (h1 : ∀ a b, zMet l yJ5_ensureCapacityInternal_d00df (Cond.code yJ5_ensureCapacityInternal_d00df cJ5_ensureCapacityInternal_d00df 3 (Option.none : Option Jvm.ClassFile.FieldType) :: zG) (rm_J5_ensureCapacityInternal_d00df a b) a b (T1 a b)) (h2 : zMet l yJ5_isLatin1_aae02 (Cond.code yJ5_isLatin1_aae02 cJ5_isLatin1_aae02 1 (Option.some Jvm.ClassFile.FieldType.boolean) :: zG) rm_J5_isLatin1_aae02 0 0 T2) (h3 : zMet l yJ6_getChars_ba4f3 (Cond.code yJ6_getChars_ba4f3 cJ6_getChars_ba4f3 7 (Option.some Jvm.ClassFile.FieldType.int) :: zG) rm_J6_getChars_ba4f3 0 0 T3) {T : ZTf} (bd : zBd (cd_J5_append_c97b9 T0 T1 T2 T3) 4 a b T) : zMet l yJ5_append_c97b9 (Cond.code yJ5_append_c97b9 cJ5_append_c97b9 4 (Option.some (Jvm.ClassFile.FieldType.object "java/lang/AbstractStringBuilder")) :: zG) (rm_J5_append_c97b9 a b) a b T := zMet_of hl (by decide +kernel) rfl rfl rfl rfl (hs_J5_append_c97b9 hl h0 h1 h2 h3) bd

abbrev rm_J5_putStringAt_47b60 : Room := { frames := 3, cells := 0, slots := 0, locals := 83 }
def cd_J5_putStringAt_47b60 (T0 : ZTf) (T1 : ZTf) : List (Nat × ZTr) := [(0, tAld 0 1), (1, tAld 2 2), (2, tCall0 2 T0 (zRcv 1) 5), (5, tAld 2 6), (6, tAld 0 7), (7, tGetR 1 0 10), (10, tIld 1 11), (11, tAld 0 12), (12, tGetI 1 1 15), (15, tCall0 4 T1 (zRcv 0) 18), (18, tRv)]
set_option maxRecDepth 100000 in
set_option maxHeartbeats 4000000 in
theorem hs_J5_putStringAt_47b60 {l : Launch} (hl : l.stackTraces = false) {T0 : ZTf} {T1 : ZTf} (h0 : zMet l yJ5_inflateIfNeededFor_a7421 (Cond.code yJ5_inflateIfNeededFor_a7421 cJ5_inflateIfNeededFor_a7421 2 (Option.none : Option Jvm.ClassFile.FieldType) :: zG) rm_J5_inflateIfNeededFor_a7421 0 0 T0) (h1 : zMet l yJ0_getBytes_840e7 (Cond.code yJ0_getBytes_840e7 cJ0_getBytes_840e7 4 (Option.none : Option Jvm.ClassFile.FieldType) :: zG) rm_J0_getBytes_840e7 0 0 T1) (p : Program) (e : Env) (s : State) (m : MethodId) (args : Array Value) (below : List Frame) (meth : Method) (c : Code) (D : va_G) (A : Nat → Prop) (a0 : Nat → Nat) (M0 : ZM) (K : ZRet) (KX : ZEx) (X : zCtx p l rm_J5_putStringAt_47b60 s m args meth c cJ5_putStringAt_47b60 RJ5 (Cond.code yJ5_putStringAt_47b60 cJ5_putStringAt_47b60 3 (Option.none : Option Jvm.ClassFile.FieldType) :: zG) 3 (Option.none : Option Jvm.ClassFile.FieldType) D A a0 M0 0 0) (hnm : meth.name = yJ5_putStringAt_47b60.name) (hout : ∀ x ∈ c.exceptionTable.toList, False) : ∀ q ∈ cd_J5_putStringAt_47b60 T0 T1, zSd p l e rm_J5_putStringAt_47b60 s m args below meth c 3 D A a0 M0 K KX 0 0 q.1 q.2 :=
    zall_c (zs_aload_n X (pc := 0) (q := 0) rfl (by decide +kernel)) <|
    zall_c (zs_aload_n X (pc := 1) (q := 2) rfl (by decide +kernel)) <|
    zall_c (zs_callV0 X (pc := 2) zc_J4 (fun _ ht => ⟨(zCB ht gw_3_102 gw_1_4 gw_3_99 rfl rfl (by decide +kernel) ⟨Nat.le_of_ble_eq_true rfl, Nat.le_of_ble_eq_true rfl⟩), ht _ (.tail _ gw_3_101), ht _ (.tail _ gx_2)⟩) h0 hout (by decide +kernel)) <|
    zall_c (zs_aload_n X (pc := 5) (q := 2) rfl (by decide +kernel)) <|
    zall_c (zs_aload_n X (pc := 6) (q := 0) rfl (by decide +kernel)) <|
    zall_c (zs_getr X (pc := 7) zc_J4 (by decide) (zin ui_J4) (.tail _ gw_1_67) (by decide +kernel) (by decide +kernel)) <|
    zall_c (zs_iload_n X (pc := 10) (q := 1) rfl (by decide +kernel)) <|
    zall_c (zs_aload_n X (pc := 11) (q := 0) rfl (by decide +kernel)) <|
    zall_c (zs_geti X (pc := 12) zc_J4 (by decide) (zin ui_J4) (.tail _ gw_1_68) (by decide +kernel) (by decide +kernel)) <|
    zall_c (zs_callV0 X (pc := 15) zc_J0 (fun _ ht => ⟨(zCB ht gw_3_125 gw_1_6 gw_3_122 rfl rfl (by decide +kernel) ⟨Nat.le_of_ble_eq_true rfl, Nat.le_of_ble_eq_true rfl⟩), ht _ (.tail _ gw_3_123), ht _ (.tail _ gw_3_124)⟩) h1 hout (by decide +kernel)) <|
    zall_c (zs_vret X (pc := 18) rfl (by decide +kernel)) <|
    zall_n
theorem met_J5_putStringAt_47b60 {l : Launch} (hl : l.stackTraces = false) {T0 : ZTf} {T1 : ZTf} (h0 : zMet l yJ5_inflateIfNeededFor_a7421 (Cond.code yJ5_inflateIfNeededFor_a7421 cJ5_inflateIfNeededFor_a7421 2 (Option.none : Option Jvm.ClassFile.FieldType) :: zG) rm_J5_inflateIfNeededFor_a7421 0 0 T0) (h1 : zMet l yJ0_getBytes_840e7 (Cond.code yJ0_getBytes_840e7 cJ0_getBytes_840e7 4 (Option.none : Option Jvm.ClassFile.FieldType) :: zG) rm_J0_getBytes_840e7 0 0 T1) {T : ZTf} (bd : zBd (cd_J5_putStringAt_47b60 T0 T1) 3 0 0 T) : zMet l yJ5_putStringAt_47b60 (Cond.code yJ5_putStringAt_47b60 cJ5_putStringAt_47b60 3 (Option.none : Option Jvm.ClassFile.FieldType) :: zG) rm_J5_putStringAt_47b60 0 0 T := zMet_of hl (by decide +kernel) rfl rfl rfl rfl (hs_J5_putStringAt_47b60 hl h0 h1) bd

abbrev rm_J0_charAt_5068e : Room := { frames := 4, cells := 0, slots := 0, locals := 94 }
def cd_J0_charAt_5068e (T0 : ZTf) (T1 : ZTf) : List (Nat × ZTr) := [(0, tAld 0 1), (1, tCall0 1 T0 (zRcv 0) 4), (4, tIf_eq 16 7), (7, tAld 0 8), (8, tGsV 11), (11, tIld 1 12), (12, tCall0 2 T1 zAny 15), (15, tRi zPq), (16, tNo)]
set_option maxRecDepth 100000 in
set_option maxHeartbeats 4000000 in
theorem hs_J0_charAt_5068e {l : Launch} (hl : l.stackTraces = false) {T0 : ZTf} {T1 : ZTf} (h0 : zMet l yJ0_isLatin1_aae02 (Cond.code yJ0_isLatin1_aae02 cJ0_isLatin1_aae02 1 (Option.some Jvm.ClassFile.FieldType.boolean) :: zG) rm_J0_isLatin1_aae02 0 0 T0) (h1 : zMet l yJ1_charAt_3b067 (Cond.code yJ1_charAt_3b067 cJ1_charAt_3b067 2 (Option.some Jvm.ClassFile.FieldType.char) :: zG) rm_J1_charAt_3b067 0 0 T1) (p : Program) (e : Env) (s : State) (m : MethodId) (args : Array Value) (below : List Frame) (meth : Method) (c : Code) (D : va_G) (A : Nat → Prop) (a0 : Nat → Nat) (M0 : ZM) (K : ZRet) (KX : ZEx) (X : zCtx p l rm_J0_charAt_5068e s m args meth c cJ0_charAt_5068e RJ0 (Cond.code yJ0_charAt_5068e cJ0_charAt_5068e 2 (Option.some Jvm.ClassFile.FieldType.char) :: zG) 2 (Option.some Jvm.ClassFile.FieldType.char) D A a0 M0 0 0) (hnm : meth.name = yJ0_charAt_5068e.name) (hout : ∀ x ∈ c.exceptionTable.toList, False) : ∀ q ∈ cd_J0_charAt_5068e T0 T1, zSd p l e rm_J0_charAt_5068e s m args below meth c 2 D A a0 M0 K KX 0 0 q.1 q.2 :=
    zall_c (zs_aload_n X (pc := 0) (q := 0) rfl (by decide +kernel)) <|
    zall_c (zs_callV0 X (pc := 1) zc_J0 (fun _ ht => ⟨(zCB ht gw_4_21 gw_1_6 gw_4_18 rfl rfl (by decide +kernel) ⟨Nat.le_of_ble_eq_true rfl, Nat.le_of_ble_eq_true rfl⟩), ht _ (.tail _ gw_4_19), ht _ (.tail _ gw_4_20)⟩) h0 hout (by decide +kernel)) <|
    zall_c (zs_if_eq X (pc := 4) (off := 12) (by decide +kernel) (by decide)) <|
    zall_c (zs_aload_n X (pc := 7) (q := 0) rfl (by decide +kernel)) <|
    zall_c (zs_gsv X (pc := 8) (zin ui_J0) (.tail _ gw_3_236) (by decide +kernel)) <|
    zall_c (zs_iload_n X (pc := 11) (q := 1) rfl (by decide +kernel)) <|
    zall_c (zs_callS0 X (pc := 12) (fun _ ht => ⟨(zCB ht gw_4_24 gw_1_18 gw_4_22 rfl rfl (by decide +kernel) ⟨Nat.le_of_ble_eq_true rfl, Nat.le_of_ble_eq_true rfl⟩), ht _ (.tail _ gw_4_23)⟩) h1 hout (by decide +kernel)) <|
    zall_c (zs_zret X (pc := 15) rfl zR_char (by decide +kernel)) <|
    zall_c (zs_no (pc := 16)) <|
    zall_n
theorem met_J0_charAt_5068e {l : Launch} (hl : l.stackTraces = false) {T0 : ZTf} {T1 : ZTf} (h0 : zMet l yJ0_isLatin1_aae02 (Cond.code yJ0_isLatin1_aae02 cJ0_isLatin1_aae02 1 (Option.some Jvm.ClassFile.FieldType.boolean) :: zG) rm_J0_isLatin1_aae02 0 0 T0) (h1 : zMet l yJ1_charAt_3b067 (Cond.code yJ1_charAt_3b067 cJ1_charAt_3b067 2 (Option.some Jvm.ClassFile.FieldType.char) :: zG) rm_J1_charAt_3b067 0 0 T1) {T : ZTf} (bd : zBd (cd_J0_charAt_5068e T0 T1) 2 0 0 T) : zMet l yJ0_charAt_5068e (Cond.code yJ0_charAt_5068e cJ0_charAt_5068e 2 (Option.some Jvm.ClassFile.FieldType.char) :: zG) rm_J0_charAt_5068e 0 0 T := zMet_of hl (by decide +kernel) rfl rfl rfl rfl (hs_J0_charAt_5068e hl h0 h1) bd

abbrev rm_J0_init_db425 : Room := { frames := 4, cells := 1, slots := 6, locals := 106 }
def cd_J0_init_db425 (T0 : ZTf) (T1 : ZTf) (T2 : ZTf) (T3 : ZTf) : List (Nat × ZTr) := [(0, tAld 0 1), (1, tObj 4), (4, tAld 1 5), (5, tCall0 1 T0 (zRcv 1) 8), (8, tAst 3 9), (9, tAld 1 10), (10, tCall 1 0 0 (zNt T1) (zRcv 1) 13), (13, tIst 4 15), (15, tAld 1 16), (16, tCall0 1 T2 (zRcv 1) 19), (19, tIf_eq 41 22), (22, tAld 0 23), (23, tC (zi 0) 24), (24, tPutI 0 1 zPb 27), (27, tAld 0 28), (28, tAld 3 29), (29, tC (zi 0) 30), (30, tIld 4 32), (32, tCall 3 1 6 T3 zAny 35), (35, tPutR 0 0 38), (38, tGo 97), (41, tNo), (97, tRv)]
set_option maxRecDepth 100000 in
set_option maxHeartbeats 4000000 in
theorem hs_J0_init_db425 {l : Launch} (hl : l.stackTraces = false) {T0 : ZTf} {T1 : ZTf} {T2 : ZTf} {T3 : ZTf} (h0 : zMet l yJ5_getValue_6d5f1 (Cond.code yJ5_getValue_6d5f1 cJ5_getValue_6d5f1 1 (Option.some (Jvm.ClassFile.FieldType.array Jvm.ClassFile.FieldType.byte)) :: zG) rm_J5_getValue_6d5f1 0 0 T0) (h1 : zMet l yJ4_length_8abf5 (Cond.code yJ4_length_8abf5 cJ4_length_8abf5 1 (Option.some Jvm.ClassFile.FieldType.int) :: zG) rm_J4_length_8abf5 0 0 T1) (h2 : zMet l yJ5_isLatin1_aae02 (Cond.code yJ5_isLatin1_aae02 cJ5_isLatin1_aae02 1 (Option.some Jvm.ClassFile.FieldType.boolean) :: zG) rm_J5_isLatin1_aae02 0 0 T2) (h3 : zMet l yJ7_copyOfRange_39247 (Cond.code yJ7_copyOfRange_39247 cJ7_copyOfRange_39247 3 (Option.some (Jvm.ClassFile.FieldType.array Jvm.ClassFile.FieldType.byte)) :: zG) rm_J7_copyOfRange_39247 1 6 T3) (p : Program) (e : Env) (s : State) (m : MethodId) (args : Array Value) (below : List Frame) (meth : Method) (c : Code) (D : va_G) (A : Nat → Prop) (a0 : Nat → Nat) (M0 : ZM) (K : ZRet) (KX : ZEx) (X : zCtx p l rm_J0_init_db425 s m args meth c cJ0_init_db425 RJ0 (Cond.code yJ0_init_db425 cJ0_init_db425 5 (Option.none : Option Jvm.ClassFile.FieldType) :: zG) 5 (Option.none : Option Jvm.ClassFile.FieldType) D A a0 M0 1 6) (hnm : meth.name = yJ0_init_db425.name) (hout : ∀ x ∈ c.exceptionTable.toList, False) : ∀ q ∈ cd_J0_init_db425 T0 T1 T2 T3, zSd p l e rm_J0_init_db425 s m args below meth c 5 D A a0 M0 K KX 1 6 q.1 q.2 :=
    zall_c (zs_aload_n X (pc := 0) (q := 0) rfl (by decide +kernel)) <|
    zall_c (zs_objinit X (pc := 1) (.tail _ gw_3_199) (.tail _ gw_1_35) (.tail _ gw_1_36) (by decide) (by decide) (by decide +kernel)) <|
    zall_c (zs_aload_n X (pc := 4) (q := 1) rfl (by decide +kernel)) <|
    zall_c (zs_callV0 X (pc := 5) zc_J4 (fun _ ht => ⟨(zCB ht gw_3_204 gw_1_4 gw_3_200 rfl rfl (by decide +kernel) ⟨Nat.le_of_ble_eq_true rfl, Nat.le_of_ble_eq_true rfl⟩), ht _ (.tail _ gw_3_201), ht _ (.tail _ gw_3_203)⟩) h0 hout (by decide +kernel)) <|
    zall_c (zs_astore_n X (pc := 8) (q := 3) rfl (by decide) (by decide +kernel)) <|
    zall_c (zs_aload_n X (pc := 9) (q := 1) rfl (by decide +kernel)) <|
    zall_c (zs_callU X (pc := 10) zc_J4 (fun _ ht => (zCU (owner := RJ5) ht gw_3_210 gw_1_5 gw_3_205 gw_3_207 gw_3_206 gw_3_212 gw_3_208 gw_3_209 rfl rfl (by decide +kernel) (by decide +kernel) ⟨Nat.le_of_ble_eq_true rfl, Nat.le_of_ble_eq_true rfl⟩)) h1 (by decide +kernel)) <|
    zall_c (zs_istore X (pc := 13) (by decide) (by decide +kernel)) <|
    zall_c (zs_aload_n X (pc := 15) (q := 1) rfl (by decide +kernel)) <|
    zall_c (zs_callV0 X (pc := 16) zc_J4 (fun _ ht => ⟨(zCB ht gw_3_68 gw_1_4 gw_3_213 rfl rfl (by decide +kernel) ⟨Nat.le_of_ble_eq_true rfl, Nat.le_of_ble_eq_true rfl⟩), ht _ (.tail _ gw_3_65), ht _ (.tail _ gw_3_67)⟩) h2 hout (by decide +kernel)) <|
    zall_c (zs_if_eq X (pc := 19) (off := 22) (by decide +kernel) (by decide)) <|
    zall_c (zs_aload_n X (pc := 22) (q := 0) rfl (by decide +kernel)) <|
    zall_c (zs_iconst X (pc := 23) (by decide) (by decide +kernel)) <|
    zall_c (zs_putiF X (pc := 24) (ty := Jvm.ClassFile.FieldType.byte) zc_J0 (by decide) (zin ui_J0) tyJ0_ok nmJ0 (.tail _ gw_3_237) rfl hnm rfl (by decide +kernel) (by decide +kernel) (by decide +kernel) zP_byte) <|
    zall_c (zs_aload_n X (pc := 27) (q := 0) rfl (by decide +kernel)) <|
    zall_c (zs_aload_n X (pc := 28) (q := 3) rfl (by decide +kernel)) <|
    zall_c (zs_iconst X (pc := 29) (by decide) (by decide +kernel)) <|
    zall_c (zs_iload X (pc := 30) (by decide +kernel)) <|
    zall_c (zs_callS X (pc := 32) (fun _ ht => ⟨(zCB ht gw_3_216 gw_1_15 gw_3_214 rfl rfl (by decide +kernel) ⟨Nat.le_of_ble_eq_true rfl, Nat.le_of_ble_eq_true rfl⟩), ht _ (.tail _ gw_3_215)⟩) h3 hout (by decide +kernel)) <|
    zall_c (zs_putrF X (pc := 35) (ty := (Jvm.ClassFile.FieldType.array Jvm.ClassFile.FieldType.byte)) zc_J0 (by decide) (zin ui_J0) tyJ0_ok nmJ0 (.tail _ gw_3_236) rfl hnm rfl (by decide +kernel) (by decide +kernel) (by decide +kernel) zP_arr) <|
    zall_c (zs_goto X (pc := 38) (off := 59) (by decide +kernel) (by decide)) <|
    zall_c (zs_no (pc := 41)) <|
    zall_c (zs_vret X (pc := 97) rfl (by decide +kernel)) <|
    zall_n
theorem met_J0_init_db425 {l : Launch} (hl : l.stackTraces = false) {T0 : ZTf} {T1 : ZTf} {T2 : ZTf} {T3 : ZTf} (h0 : zMet l yJ5_getValue_6d5f1 (Cond.code yJ5_getValue_6d5f1 cJ5_getValue_6d5f1 1 (Option.some (Jvm.ClassFile.FieldType.array Jvm.ClassFile.FieldType.byte)) :: zG) rm_J5_getValue_6d5f1 0 0 T0) (h1 : zMet l yJ4_length_8abf5 (Cond.code yJ4_length_8abf5 cJ4_length_8abf5 1 (Option.some Jvm.ClassFile.FieldType.int) :: zG) rm_J4_length_8abf5 0 0 T1) (h2 : zMet l yJ5_isLatin1_aae02 (Cond.code yJ5_isLatin1_aae02 cJ5_isLatin1_aae02 1 (Option.some Jvm.ClassFile.FieldType.boolean) :: zG) rm_J5_isLatin1_aae02 0 0 T2) (h3 : zMet l yJ7_copyOfRange_39247 (Cond.code yJ7_copyOfRange_39247 cJ7_copyOfRange_39247 3 (Option.some (Jvm.ClassFile.FieldType.array Jvm.ClassFile.FieldType.byte)) :: zG) rm_J7_copyOfRange_39247 1 6 T3) {T : ZTf} (bd : zBd (cd_J0_init_db425 T0 T1 T2 T3) 5 1 6 T) : zMet l yJ0_init_db425 (Cond.code yJ0_init_db425 cJ0_init_db425 5 (Option.none : Option Jvm.ClassFile.FieldType) :: zG) rm_J0_init_db425 1 6 T := zMet_of hl (by decide +kernel) rfl rfl rfl rfl (hs_J0_init_db425 hl h0 h1 h2 h3) bd

abbrev rm_J4_append_cf468 (a b : Nat) : Room := { frames := 5, cells := a, slots := b, locals := 125 }
def cd_J4_append_cf468 (T0 : Nat → Nat → ZTf) : List (Nat × ZTr) := [(0, tAld 0 1), (1, tIld 1 2), (2, tEx (fun a b => tCall 2 a b (zNt (T0 a b)) (zRcv 1) 5)), (5, tPop 6), (6, tAld 0 7), (7, tRa)]
set_option maxRecDepth 100000 in
set_option maxHeartbeats 4000000 in
theorem hs_J4_append_cf468 {l : Launch} (hl : l.stackTraces = false) {a b : Nat} {T0 : Nat → Nat → ZTf} (h0 : ∀ a b, zMet l yJ5_append_3fe6f (Cond.code yJ5_append_3fe6f cJ5_append_3fe6f 2 (Option.some (Jvm.ClassFile.FieldType.object "java/lang/AbstractStringBuilder")) :: zG) (rm_J5_append_3fe6f a b) a b (T0 a b)) (p : Program) (e : Env) (s : State) (m : MethodId) (args : Array Value) (below : List Frame) (meth : Method) (c : Code) (D : va_G) (A : Nat → Prop) (a0 : Nat → Nat) (M0 : ZM) (K : ZRet) (KX : ZEx) (X : zCtx p l (rm_J4_append_cf468 a b) s m args meth c cJ4_append_cf468 RJ4 (Cond.code yJ4_append_cf468 cJ4_append_cf468 2 (Option.some (Jvm.ClassFile.FieldType.object "java/lang/StringBuilder")) :: zG) 2 (Option.some (Jvm.ClassFile.FieldType.object "java/lang/StringBuilder")) D A a0 M0 a b) (hnm : meth.name = yJ4_append_cf468.name) (hout : ∀ x ∈ c.exceptionTable.toList, False) : ∀ q ∈ cd_J4_append_cf468 T0, zSd p l e (rm_J4_append_cf468 a b) s m args below meth c 2 D A a0 M0 K KX a b q.1 q.2 :=
    zall_c (zs_aload_n X (pc := 0) (q := 0) rfl (by decide +kernel)) <|
    zall_c (zs_iload_n X (pc := 1) (q := 1) rfl (by decide +kernel)) <|
    zall_c (zs_ex (fun a b => zs_callSU X (pc := 2) zc_J4 (fun _ ht => (zCSU ht gw_3_164 gw_1_4 gw_3_162 gw_6_148 gw_1_80 gw_3_163 rfl rfl (by decide +kernel) ⟨Nat.le_of_ble_eq_true rfl, Nat.le_of_ble_eq_true rfl⟩)) (h0 a b) (by decide +kernel))) <|
    zall_c (zs_pop X (pc := 5) (by decide +kernel)) <|
    zall_c (zs_aload_n X (pc := 6) (q := 0) rfl (by decide +kernel)) <|
    zall_c (zs_aret X (pc := 7) rfl (Or.inl ⟨_, rfl⟩) (by decide +kernel)) <|
    zall_n
theorem met_J4_append_cf468 {l : Launch} (hl : l.stackTraces = false) {a b : Nat} {T0 : Nat → Nat → ZTf} (h0 : ∀ a b, zMet l yJ5_append_3fe6f (Cond.code yJ5_append_3fe6f cJ5_append_3fe6f 2 (Option.some (Jvm.ClassFile.FieldType.object "java/lang/AbstractStringBuilder")) :: zG) (rm_J5_append_3fe6f a b) a b (T0 a b)) {T : ZTf} (bd : zBd (cd_J4_append_cf468 T0) 2 a b T) : zMet l yJ4_append_cf468 (Cond.code yJ4_append_cf468 cJ4_append_cf468 2 (Option.some (Jvm.ClassFile.FieldType.object "java/lang/StringBuilder")) :: zG) (rm_J4_append_cf468 a b) a b T := zMet_of hl (by decide +kernel) rfl rfl rfl rfl (hs_J4_append_cf468 hl h0) bd

abbrev rm_J4_append_bf812 (a b : Nat) : Room := { frames := 5, cells := a, slots := b, locals := 127 }
def cd_J4_append_bf812 (T0 : Nat → Nat → ZTf) : List (Nat × ZTr) := [(0, tAld 0 1), (1, tIld 1 2), (2, tEx (fun a b => tCall 2 a b (zNt (T0 a b)) (zRcv 1) 5)), (5, tPop 6), (6, tAld 0 7), (7, tRa)]
set_option maxRecDepth 100000 in
set_option maxHeartbeats 4000000 in
theorem hs_J4_append_bf812 {l : Launch} (hl : l.stackTraces = false) {a b : Nat} {T0 : Nat → Nat → ZTf} (h0 : ∀ a b, zMet l yJ5_append_c97b9 (Cond.code yJ5_append_c97b9 cJ5_append_c97b9 4 (Option.some (Jvm.ClassFile.FieldType.object "java/lang/AbstractStringBuilder")) :: zG) (rm_J5_append_c97b9 a b) a b (T0 a b)) (p : Program) (e : Env) (s : State) (m : MethodId) (args : Array Value) (below : List Frame) (meth : Method) (c : Code) (D : va_G) (A : Nat → Prop) (a0 : Nat → Nat) (M0 : ZM) (K : ZRet) (KX : ZEx) (X : zCtx p l (rm_J4_append_bf812 a b) s m args meth c cJ4_append_bf812 RJ4 (Cond.code yJ4_append_bf812 cJ4_append_bf812 2 (Option.some (Jvm.ClassFile.FieldType.object "java/lang/StringBuilder")) :: zG) 2 (Option.some (Jvm.ClassFile.FieldType.object "java/lang/StringBuilder")) D A a0 M0 a b) (hnm : meth.name = yJ4_append_bf812.name) (hout : ∀ x ∈ c.exceptionTable.toList, False) : ∀ q ∈ cd_J4_append_bf812 T0, zSd p l e (rm_J4_append_bf812 a b) s m args below meth c 2 D A a0 M0 K KX a b q.1 q.2 :=
    zall_c (zs_aload_n X (pc := 0) (q := 0) rfl (by decide +kernel)) <|
    zall_c (zs_iload_n X (pc := 1) (q := 1) rfl (by decide +kernel)) <|
    zall_c (zs_ex (fun a b => zs_callSU X (pc := 2) zc_J4 (fun _ ht => (zCSU ht gw_3_134 gw_1_4 gw_3_132 gw_6_147 gw_1_80 gw_3_133 rfl rfl (by decide +kernel) ⟨Nat.le_of_ble_eq_true rfl, Nat.le_of_ble_eq_true rfl⟩)) (h0 a b) (by decide +kernel))) <|
    zall_c (zs_pop X (pc := 5) (by decide +kernel)) <|
    zall_c (zs_aload_n X (pc := 6) (q := 0) rfl (by decide +kernel)) <|
    zall_c (zs_aret X (pc := 7) rfl (Or.inl ⟨_, rfl⟩) (by decide +kernel)) <|
    zall_n
theorem met_J4_append_bf812 {l : Launch} (hl : l.stackTraces = false) {a b : Nat} {T0 : Nat → Nat → ZTf} (h0 : ∀ a b, zMet l yJ5_append_c97b9 (Cond.code yJ5_append_c97b9 cJ5_append_c97b9 4 (Option.some (Jvm.ClassFile.FieldType.object "java/lang/AbstractStringBuilder")) :: zG) (rm_J5_append_c97b9 a b) a b (T0 a b)) {T : ZTf} (bd : zBd (cd_J4_append_bf812 T0) 2 a b T) : zMet l yJ4_append_bf812 (Cond.code yJ4_append_bf812 cJ4_append_bf812 2 (Option.some (Jvm.ClassFile.FieldType.object "java/lang/StringBuilder")) :: zG) (rm_J4_append_bf812 a b) a b T := zMet_of hl (by decide +kernel) rfl rfl rfl rfl (hs_J4_append_bf812 hl h0) bd

abbrev rm_J4_setLength_d00df (a b : Nat) : Room := { frames := 5, cells := a, slots := b, locals := 125 }
def cd_J4_setLength_d00df (T0 : Nat → Nat → ZTf) : List (Nat × ZTr) := [(0, tAld 0 1), (1, tIld 1 2), (2, tEx (fun a b => tCall 2 a b (zNt (T0 a b)) (zRcv 1) 5)), (5, tRv)]
set_option maxRecDepth 100000 in
set_option maxHeartbeats 4000000 in
theorem hs_J4_setLength_d00df {l : Launch} (hl : l.stackTraces = false) {a b : Nat} {T0 : Nat → Nat → ZTf} (h0 : ∀ a b, zMet l yJ5_setLength_d00df (Cond.code yJ5_setLength_d00df cJ5_setLength_d00df 2 (Option.none : Option Jvm.ClassFile.FieldType) :: zG) (rm_J5_setLength_d00df a b) a b (T0 a b)) (p : Program) (e : Env) (s : State) (m : MethodId) (args : Array Value) (below : List Frame) (meth : Method) (c : Code) (D : va_G) (A : Nat → Prop) (a0 : Nat → Nat) (M0 : ZM) (K : ZRet) (KX : ZEx) (X : zCtx p l (rm_J4_setLength_d00df a b) s m args meth c cJ4_setLength_d00df RJ4 (Cond.code yJ4_setLength_d00df cJ4_setLength_d00df 2 (Option.none : Option Jvm.ClassFile.FieldType) :: zG) 2 (Option.none : Option Jvm.ClassFile.FieldType) D A a0 M0 a b) (hnm : meth.name = yJ4_setLength_d00df.name) (hout : ∀ x ∈ c.exceptionTable.toList, False) : ∀ q ∈ cd_J4_setLength_d00df T0, zSd p l e (rm_J4_setLength_d00df a b) s m args below meth c 2 D A a0 M0 K KX a b q.1 q.2 :=
    zall_c (zs_aload_n X (pc := 0) (q := 0) rfl (by decide +kernel)) <|
    zall_c (zs_iload_n X (pc := 1) (q := 1) rfl (by decide +kernel)) <|
    zall_c (zs_ex (fun a b => zs_callSU X (pc := 2) zc_J4 (fun _ ht => (zCSU ht gw_4_161 gw_1_4 gw_4_159 gw_6_149 gw_1_80 gw_4_160 rfl rfl (by decide +kernel) ⟨Nat.le_of_ble_eq_true rfl, Nat.le_of_ble_eq_true rfl⟩)) (h0 a b) (by decide +kernel))) <|
    zall_c (zs_vret X (pc := 5) rfl (by decide +kernel)) <|
    zall_n
theorem met_J4_setLength_d00df {l : Launch} (hl : l.stackTraces = false) {a b : Nat} {T0 : Nat → Nat → ZTf} (h0 : ∀ a b, zMet l yJ5_setLength_d00df (Cond.code yJ5_setLength_d00df cJ5_setLength_d00df 2 (Option.none : Option Jvm.ClassFile.FieldType) :: zG) (rm_J5_setLength_d00df a b) a b (T0 a b)) {T : ZTf} (bd : zBd (cd_J4_setLength_d00df T0) 2 a b T) : zMet l yJ4_setLength_d00df (Cond.code yJ4_setLength_d00df cJ4_setLength_d00df 2 (Option.none : Option Jvm.ClassFile.FieldType) :: zG) (rm_J4_setLength_d00df a b) a b T := zMet_of hl (by decide +kernel) rfl rfl rfl rfl (hs_J4_setLength_d00df hl h0) bd

abbrev rm_X1_spells : Room := { frames := 5, cells := 0, slots := 0, locals := 115 }
def cd_X1_spells (T0 : ZTf) (T1 : ZTf) : List (Nat × ZTr) := [(0, tIld 1 1), (1, tIf_lt 22 4), (4, tIld 2 5), (5, tAld 0 6), (6, tGetI 5 1 9), (9, tIc_gt 22 12), (12, tIld 2 13), (13, tIld 1 14), (14, tSub 15), (15, tAld 3 16), (16, tCall0 1 T0 (zRcv 0) 19), (19, tIc_eq 24 22), (22, tC (zi 0) 23), (23, tRi zPz), (24, tC (zi 0) 25), (25, tIst 4 27), (27, tIld 4 29), (29, tAld 3 30), (30, tCall0 1 T0 (zRcv 0) 33), (33, tIc_ge 62 36), (36, tAld 0 37), (37, tGetR 5 0 40), (40, tIld 1 41), (41, tIld 4 43), (43, tAdd 44), (44, tIal 20 45), (45, tAld 3 46), (46, tIld 4 48), (48, tCall0 2 T1 (zRcv 0) 51), (51, tIc_eq 56 54), (54, tC (zi 0) 55), (55, tRi zPz), (56, tInc 4 1 59), (59, tGo 27), (62, tC (zi 1) 63), (63, tRi zPz)]
set_option maxRecDepth 100000 in
set_option maxHeartbeats 4000000 in
theorem hs_X1_spells {l : Launch} (hl : l.stackTraces = false) {T0 : ZTf} {T1 : ZTf} (h0 : zMet l yJ0_length_8abf5 (Cond.code yJ0_length_8abf5 cJ0_length_8abf5 1 (Option.some Jvm.ClassFile.FieldType.int) :: zG) rm_J0_length_8abf5 0 0 T0) (h1 : zMet l yJ0_charAt_5068e (Cond.code yJ0_charAt_5068e cJ0_charAt_5068e 2 (Option.some Jvm.ClassFile.FieldType.char) :: zG) rm_J0_charAt_5068e 0 0 T1) (p : Program) (e : Env) (s : State) (m : MethodId) (args : Array Value) (below : List Frame) (meth : Method) (c : Code) (D : va_G) (A : Nat → Prop) (a0 : Nat → Nat) (M0 : ZM) (K : ZRet) (KX : ZEx) (X : zCtx p l rm_X1_spells s m args meth c cX1_spells RX1 (Cond.code yX1_spells cX1_spells 5 (Option.some Jvm.ClassFile.FieldType.boolean) :: zG) 5 (Option.some Jvm.ClassFile.FieldType.boolean) D A a0 M0 0 0) (hnm : meth.name = yX1_spells.name) (hout : ∀ x ∈ c.exceptionTable.toList, False) : ∀ q ∈ cd_X1_spells T0 T1, zSd p l e rm_X1_spells s m args below meth c 5 D A a0 M0 K KX 0 0 q.1 q.2 :=
    zall_c (zs_iload_n X (pc := 0) (q := 1) rfl (by decide +kernel)) <|
    zall_c (zs_if_lt X (pc := 1) (off := 21) (by decide +kernel) (by decide)) <|
    zall_c (zs_iload_n X (pc := 4) (q := 2) rfl (by decide +kernel)) <|
    zall_c (zs_aload_n X (pc := 5) (q := 0) rfl (by decide +kernel)) <|
    zall_c (zs_geti X (pc := 6) zc_X1 (by decide) (zin ui_X1) (.tail _ gw_1_85) (by decide +kernel) (by decide +kernel)) <|
    zall_c (zs_icmp_gt X (pc := 9) (off := 13) (by decide +kernel) (by decide)) <|
    zall_c (zs_iload_n X (pc := 12) (q := 2) rfl (by decide +kernel)) <|
    zall_c (zs_iload_n X (pc := 13) (q := 1) rfl (by decide +kernel)) <|
    zall_c (zs_isub X (pc := 14) (by decide +kernel)) <|
    zall_c (zs_aload_n X (pc := 15) (q := 3) rfl (by decide +kernel)) <|
    zall_c (zs_callV0 X (pc := 16) zc_J0 (fun _ ht => ⟨(zCB ht gw_3_5 gw_1_6 gw_4_106 rfl rfl (by decide +kernel) ⟨Nat.le_of_ble_eq_true rfl, Nat.le_of_ble_eq_true rfl⟩), ht _ (.tail _ gw_3_3), ht _ (.tail _ gw_3_4)⟩) h0 hout (by decide +kernel)) <|
    zall_c (zs_icmp_eq X (pc := 19) (off := 5) (by decide +kernel) (by decide)) <|
    zall_c (zs_iconst X (pc := 22) (by decide) (by decide +kernel)) <|
    zall_c (zs_zret X (pc := 23) rfl zR_bool (by decide +kernel)) <|
    zall_c (zs_iconst X (pc := 24) (by decide) (by decide +kernel)) <|
    zall_c (zs_istore X (pc := 25) (by decide) (by decide +kernel)) <|
    zall_c (zs_iload X (pc := 27) (by decide +kernel)) <|
    zall_c (zs_aload_n X (pc := 29) (q := 3) rfl (by decide +kernel)) <|
    zall_c (zs_callV0 X (pc := 30) zc_J0 (fun _ ht => ⟨(zCB ht gw_3_5 gw_1_6 gw_4_106 rfl rfl (by decide +kernel) ⟨Nat.le_of_ble_eq_true rfl, Nat.le_of_ble_eq_true rfl⟩), ht _ (.tail _ gw_3_3), ht _ (.tail _ gw_3_4)⟩) h0 hout (by decide +kernel)) <|
    zall_c (zs_icmp_ge X (pc := 33) (off := 29) (by decide +kernel) (by decide)) <|
    zall_c (zs_aload_n X (pc := 36) (q := 0) rfl (by decide +kernel)) <|
    zall_c (zs_getr X (pc := 37) zc_X1 (by decide) (zin ui_X1) (.tail _ gw_1_83) (by decide +kernel) (by decide +kernel)) <|
    zall_c (zs_iload_n X (pc := 40) (q := 1) rfl (by decide +kernel)) <|
    zall_c (zs_iload X (pc := 41) (by decide +kernel)) <|
    zall_c (zs_iadd X (pc := 43) (by decide +kernel)) <|
    zall_c (zs_iaload20 X (pc := 44) (by decide +kernel)) <|
    zall_c (zs_aload_n X (pc := 45) (q := 3) rfl (by decide +kernel)) <|
    zall_c (zs_iload X (pc := 46) (by decide +kernel)) <|
    zall_c (zs_callV0 X (pc := 48) zc_J0 (fun _ ht => ⟨(zCB ht gw_4_17 gw_1_6 gw_4_107 rfl rfl (by decide +kernel) ⟨Nat.le_of_ble_eq_true rfl, Nat.le_of_ble_eq_true rfl⟩), ht _ (.tail _ gw_4_15), ht _ (.tail _ gw_4_16)⟩) h1 hout (by decide +kernel)) <|
    zall_c (zs_icmp_eq X (pc := 51) (off := 5) (by decide +kernel) (by decide)) <|
    zall_c (zs_iconst X (pc := 54) (by decide) (by decide +kernel)) <|
    zall_c (zs_zret X (pc := 55) rfl zR_bool (by decide +kernel)) <|
    zall_c (zs_iinc X (pc := 56) (by decide) (by decide +kernel)) <|
    zall_c (zs_goto X (pc := 59) (off := (-32)) (by decide +kernel) (by decide)) <|
    zall_c (zs_iconst X (pc := 62) (by decide) (by decide +kernel)) <|
    zall_c (zs_zret X (pc := 63) rfl zR_bool (by decide +kernel)) <|
    zall_n
theorem met_X1_spells {l : Launch} (hl : l.stackTraces = false) {T0 : ZTf} {T1 : ZTf} (h0 : zMet l yJ0_length_8abf5 (Cond.code yJ0_length_8abf5 cJ0_length_8abf5 1 (Option.some Jvm.ClassFile.FieldType.int) :: zG) rm_J0_length_8abf5 0 0 T0) (h1 : zMet l yJ0_charAt_5068e (Cond.code yJ0_charAt_5068e cJ0_charAt_5068e 2 (Option.some Jvm.ClassFile.FieldType.char) :: zG) rm_J0_charAt_5068e 0 0 T1) {T : ZTf} (bd : zBd (cd_X1_spells T0 T1) 5 0 0 T) : zMet l yX1_spells (Cond.code yX1_spells cX1_spells 5 (Option.some Jvm.ClassFile.FieldType.boolean) :: zG) rm_X1_spells 0 0 T := zMet_of hl (by decide +kernel) rfl rfl rfl rfl (hs_X1_spells hl h0 h1) bd

abbrev rm_X3_isAt : Room := { frames := 6, cells := 0, slots := 0, locals := 139 }
def cd_X3_isAt (T0 : ZTf) : List (Nat × ZTr) := [(0, tAld 0 1), (1, tGetI 6 4 4), (4, tIf_ne 33 7), (7, tAld 0 8), (8, tGetR 6 2 11), (11, tAld 0 12), (12, tGetI 6 5 15), (15, tAld 0 16), (16, tGetI 6 6 19), (19, tAld 1 20), (20, tGkw 23), (23, tCall0 4 T0 (zRcv 5) 26), (26, tIf_eq 33 29), (29, tC (zi 1) 30), (30, tGo 34), (33, tC (zi 0) 34), (34, tRi zPz)]
set_option maxRecDepth 100000 in
set_option maxHeartbeats 4000000 in
theorem hs_X3_isAt {l : Launch} (hl : l.stackTraces = false) {T0 : ZTf} (h0 : zMet l yX1_spells (Cond.code yX1_spells cX1_spells 5 (Option.some Jvm.ClassFile.FieldType.boolean) :: zG) rm_X1_spells 0 0 T0) (p : Program) (e : Env) (s : State) (m : MethodId) (args : Array Value) (below : List Frame) (meth : Method) (c : Code) (D : va_G) (A : Nat → Prop) (a0 : Nat → Nat) (M0 : ZM) (K : ZRet) (KX : ZEx) (X : zCtx p l rm_X3_isAt s m args meth c cX3_isAt RX3 (Cond.code yX3_isAt cX3_isAt 2 (Option.some Jvm.ClassFile.FieldType.boolean) :: zG) 2 (Option.some Jvm.ClassFile.FieldType.boolean) D A a0 M0 0 0) (hnm : meth.name = yX3_isAt.name) (hout : ∀ x ∈ c.exceptionTable.toList, False) : ∀ q ∈ cd_X3_isAt T0, zSd p l e rm_X3_isAt s m args below meth c 2 D A a0 M0 K KX 0 0 q.1 q.2 :=
    zall_c (zs_aload_n X (pc := 0) (q := 0) rfl (by decide +kernel)) <|
    zall_c (zs_geti X (pc := 1) zc_X3 (by decide) (zin ui_X3) (.tail _ gw_2_31) (by decide +kernel) (by decide +kernel)) <|
    zall_c (zs_if_ne X (pc := 4) (off := 29) (by decide +kernel) (by decide)) <|
    zall_c (zs_aload_n X (pc := 7) (q := 0) rfl (by decide +kernel)) <|
    zall_c (zs_getr X (pc := 8) zc_X3 (by decide) (zin ui_X3) (.tail _ gw_2_27) (by decide +kernel) (by decide +kernel)) <|
    zall_c (zs_aload_n X (pc := 11) (q := 0) rfl (by decide +kernel)) <|
    zall_c (zs_geti X (pc := 12) zc_X3 (by decide) (zin ui_X3) (.tail _ gw_2_32) (by decide +kernel) (by decide +kernel)) <|
    zall_c (zs_aload_n X (pc := 15) (q := 0) rfl (by decide +kernel)) <|
    zall_c (zs_geti X (pc := 16) zc_X3 (by decide) (zin ui_X3) (.tail _ gw_2_33) (by decide +kernel) (by decide +kernel)) <|
    zall_c (zs_aload_n X (pc := 19) (q := 1) rfl (by decide +kernel)) <|
    zall_c (zs_gkw X (pc := 20) (.tail _ gw_6_150) (by decide +kernel)) <|
    zall_c (zs_callV0 X (pc := 23) zc_X1 (fun _ ht => ⟨(zCB ht gw_4_105 gw_1_3 gw_4_102 rfl rfl (by decide +kernel) ⟨Nat.le_of_ble_eq_true rfl, Nat.le_of_ble_eq_true rfl⟩), ht _ (.tail _ gw_4_103), ht _ (.tail _ gw_4_104)⟩) h0 hout (by decide +kernel)) <|
    zall_c (zs_if_eq X (pc := 26) (off := 7) (by decide +kernel) (by decide)) <|
    zall_c (zs_iconst X (pc := 29) (by decide) (by decide +kernel)) <|
    zall_c (zs_goto X (pc := 30) (off := 4) (by decide +kernel) (by decide)) <|
    zall_c (zs_iconst X (pc := 33) (by decide) (by decide +kernel)) <|
    zall_c (zs_zret X (pc := 34) rfl zR_bool (by decide +kernel)) <|
    zall_n
theorem met_X3_isAt {l : Launch} (hl : l.stackTraces = false) {T0 : ZTf} (h0 : zMet l yX1_spells (Cond.code yX1_spells cX1_spells 5 (Option.some Jvm.ClassFile.FieldType.boolean) :: zG) rm_X1_spells 0 0 T0) {T : ZTf} (bd : zBd (cd_X3_isAt T0) 2 0 0 T) : zMet l yX3_isAt (Cond.code yX3_isAt cX3_isAt 2 (Option.some Jvm.ClassFile.FieldType.boolean) :: zG) rm_X3_isAt 0 0 T := zMet_of hl (by decide +kernel) rfl rfl rfl rfl (hs_X3_isAt hl h0) bd

abbrev rm_X3_isAtName : Room := { frames := 7, cells := 0, slots := 0, locals := 160 }
def cd_X3_isAtName (T0 : ZTf) : List (Nat × ZTr) := [(0, tAld 0 1), (1, tGetI 6 4 4), (4, tIf_ne 21 7), (7, tAld 0 8), (8, tGetI 6 6 11), (11, tAld 0 12), (12, tGetI 6 5 15), (15, tSub 16), (16, tC (zi 6) 18), (18, tIc_le 23 21), (21, tC (zi 0) 22), (22, tRi zPz), (23, tC (zo 12) 26), (26, tAst 1 27), (27, tAld 1 28), (28, tLen 29), (29, tIst 2 30), (30, tC (zi 0) 31), (31, tIst 3 32), (32, tIld 3 33), (33, tIld 2 34), (34, tIc_ge 59 37), (37, tAld 1 38), (38, tIld 3 39), (39, tKal 40), (40, tAst 4 42), (42, tAld 0 43), (43, tAld 4 45), (45, tCall0 2 T0 (zRcv 6) 48), (48, tIf_eq 53 51), (51, tC (zi 0) 52), (52, tRi zPz), (53, tInc 3 1 56), (56, tGo 32), (59, tC (zi 1) 60), (60, tRi zPz)]
set_option maxRecDepth 100000 in
set_option maxHeartbeats 4000000 in
theorem hs_X3_isAtName {l : Launch} (hl : l.stackTraces = false) {T0 : ZTf} (h0 : zMet l yX3_isAt (Cond.code yX3_isAt cX3_isAt 2 (Option.some Jvm.ClassFile.FieldType.boolean) :: zG) rm_X3_isAt 0 0 T0) (p : Program) (e : Env) (s : State) (m : MethodId) (args : Array Value) (below : List Frame) (meth : Method) (c : Code) (D : va_G) (A : Nat → Prop) (a0 : Nat → Nat) (M0 : ZM) (K : ZRet) (KX : ZEx) (X : zCtx p l rm_X3_isAtName s m args meth c cX3_isAtName RX3 (Cond.code yX3_isAtName cX3_isAtName 5 (Option.some Jvm.ClassFile.FieldType.boolean) :: zG) 5 (Option.some Jvm.ClassFile.FieldType.boolean) D A a0 M0 0 0) (hnm : meth.name = yX3_isAtName.name) (hout : ∀ x ∈ c.exceptionTable.toList, False) : ∀ q ∈ cd_X3_isAtName T0, zSd p l e rm_X3_isAtName s m args below meth c 5 D A a0 M0 K KX 0 0 q.1 q.2 :=
    zall_c (zs_aload_n X (pc := 0) (q := 0) rfl (by decide +kernel)) <|
    zall_c (zs_geti X (pc := 1) zc_X3 (by decide) (zin ui_X3) (.tail _ gw_2_31) (by decide +kernel) (by decide +kernel)) <|
    zall_c (zs_if_ne X (pc := 4) (off := 17) (by decide +kernel) (by decide)) <|
    zall_c (zs_aload_n X (pc := 7) (q := 0) rfl (by decide +kernel)) <|
    zall_c (zs_geti X (pc := 8) zc_X3 (by decide) (zin ui_X3) (.tail _ gw_2_33) (by decide +kernel) (by decide +kernel)) <|
    zall_c (zs_aload_n X (pc := 11) (q := 0) rfl (by decide +kernel)) <|
    zall_c (zs_geti X (pc := 12) zc_X3 (by decide) (zin ui_X3) (.tail _ gw_2_32) (by decide +kernel) (by decide +kernel)) <|
    zall_c (zs_isub X (pc := 15) (by decide +kernel)) <|
    zall_c (zs_bipush X (pc := 16) (by decide) (by decide +kernel) (by decide +kernel)) <|
    zall_c (zs_icmp_le X (pc := 18) (off := 5) (by decide +kernel) (by decide)) <|
    zall_c (zs_iconst X (pc := 21) (by decide) (by decide +kernel)) <|
    zall_c (zs_zret X (pc := 22) rfl zR_bool (by decide +kernel)) <|
    zall_c (zs_gets X (pc := 23) (C := "ReviewTable$Parser") (n1 := "KEYWORDS") (d1 := "[LReviewTable$Keyword;") (List.mem_of_getElem? (i := 11) rfl) (.tail _ gw_4_144) (by decide +kernel)) <|
    zall_c (zs_astore_n X (pc := 26) (q := 1) rfl (by decide) (by decide +kernel)) <|
    zall_c (zs_aload_n X (pc := 27) (q := 1) rfl (by decide +kernel)) <|
    zall_c (zs_len X (pc := 28) (by decide +kernel)) <|
    zall_c (zs_istore_n X (pc := 29) (q := 2) rfl (by decide) (by decide +kernel)) <|
    zall_c (zs_iconst X (pc := 30) (by decide) (by decide +kernel)) <|
    zall_c (zs_istore_n X (pc := 31) (q := 3) rfl (by decide) (by decide +kernel)) <|
    zall_c (zs_iload_n X (pc := 32) (q := 3) rfl (by decide +kernel)) <|
    zall_c (zs_iload_n X (pc := 33) (q := 2) rfl (by decide +kernel)) <|
    zall_c (zs_icmp_ge X (pc := 34) (off := 25) (by decide +kernel) (by decide)) <|
    zall_c (zs_aload_n X (pc := 37) (q := 1) rfl (by decide +kernel)) <|
    zall_c (zs_iload_n X (pc := 38) (q := 3) rfl (by decide +kernel)) <|
    zall_c (zs_aaloadK X (pc := 39) (by decide +kernel)) <|
    zall_c (zs_astore X (pc := 40) (by decide) (by decide +kernel)) <|
    zall_c (zs_aload_n X (pc := 42) (q := 0) rfl (by decide +kernel)) <|
    zall_c (zs_aload X (pc := 43) (by decide +kernel)) <|
    zall_c (zs_callV0 X (pc := 45) zc_X3 (fun _ ht => ⟨(zCB ht gw_4_101 gw_1_2 gw_4_98 rfl rfl (by decide +kernel) ⟨Nat.le_of_ble_eq_true rfl, Nat.le_of_ble_eq_true rfl⟩), ht _ (.tail _ gw_4_100), ht _ (.tail _ gp_6)⟩) h0 hout (by decide +kernel)) <|
    zall_c (zs_if_eq X (pc := 48) (off := 5) (by decide +kernel) (by decide)) <|
    zall_c (zs_iconst X (pc := 51) (by decide) (by decide +kernel)) <|
    zall_c (zs_zret X (pc := 52) rfl zR_bool (by decide +kernel)) <|
    zall_c (zs_iinc X (pc := 53) (by decide) (by decide +kernel)) <|
    zall_c (zs_goto X (pc := 56) (off := (-24)) (by decide +kernel) (by decide)) <|
    zall_c (zs_iconst X (pc := 59) (by decide) (by decide +kernel)) <|
    zall_c (zs_zret X (pc := 60) rfl zR_bool (by decide +kernel)) <|
    zall_n
theorem met_X3_isAtName {l : Launch} (hl : l.stackTraces = false) {T0 : ZTf} (h0 : zMet l yX3_isAt (Cond.code yX3_isAt cX3_isAt 2 (Option.some Jvm.ClassFile.FieldType.boolean) :: zG) rm_X3_isAt 0 0 T0) {T : ZTf} (bd : zBd (cd_X3_isAtName T0) 5 0 0 T) : zMet l yX3_isAtName (Cond.code yX3_isAtName cX3_isAtName 5 (Option.some Jvm.ClassFile.FieldType.boolean) :: zG) rm_X3_isAtName 0 0 T := zMet_of hl (by decide +kernel) rfl rfl rfl rfl (hs_X3_isAtName hl h0) bd

abbrev rm_X5_workerNamed : Room := { frames := 6, cells := 0, slots := 0, locals := 139 }
def cd_X5_workerNamed (T0 : ZTf) : List (Nat × ZTr) := [(0, tC (zi 0) 1), (1, tIst 4 3), (3, tIld 4 5), (5, tAld 0 6), (6, tGetI 8 4 9), (9, tIc_ge 40 12), (12, tAld 1 13), (13, tIld 2 14), (14, tIld 3 15), (15, tAld 0 16), (16, tGetR 8 6 19), (19, tIld 4 21), (21, tAal 30 22), (22, tGetR 10 0 25), (25, tCall0 4 T0 (zRcv 5) 28), (28, tIf_eq 34 31), (31, tIld 4 33), (33, tRi (fun _ => True)), (34, tInc 4 1 37), (37, tGo 3), (40, tC (zi (-1)) 41), (41, tRi (fun _ => True))]
set_option maxRecDepth 100000 in
set_option maxHeartbeats 4000000 in
theorem hs_X5_workerNamed {l : Launch} (hl : l.stackTraces = false) {T0 : ZTf} (h0 : zMet l yX1_spells (Cond.code yX1_spells cX1_spells 5 (Option.some Jvm.ClassFile.FieldType.boolean) :: zG) rm_X1_spells 0 0 T0) (p : Program) (e : Env) (s : State) (m : MethodId) (args : Array Value) (below : List Frame) (meth : Method) (c : Code) (D : va_G) (A : Nat → Prop) (a0 : Nat → Nat) (M0 : ZM) (K : ZRet) (KX : ZEx) (X : zCtx p l rm_X5_workerNamed s m args meth c cX5_workerNamed RX5 (Cond.code yX5_workerNamed cX5_workerNamed 5 (Option.some Jvm.ClassFile.FieldType.int) :: zG) 5 (Option.some Jvm.ClassFile.FieldType.int) D A a0 M0 0 0) (hnm : meth.name = yX5_workerNamed.name) (hout : ∀ x ∈ c.exceptionTable.toList, False) : ∀ q ∈ cd_X5_workerNamed T0, zSd p l e rm_X5_workerNamed s m args below meth c 5 D A a0 M0 K KX 0 0 q.1 q.2 :=
    zall_c (zs_iconst X (pc := 0) (by decide) (by decide +kernel)) <|
    zall_c (zs_istore X (pc := 1) (by decide) (by decide +kernel)) <|
    zall_c (zs_iload X (pc := 3) (by decide +kernel)) <|
    zall_c (zs_aload_n X (pc := 5) (q := 0) rfl (by decide +kernel)) <|
    zall_c (zs_geti X (pc := 6) zc_X5 (by decide) (zin ui_X5) (.tail _ gw_1_229) (by decide +kernel) (by decide +kernel)) <|
    zall_c (zs_icmp_ge X (pc := 9) (off := 31) (by decide +kernel) (by decide)) <|
    zall_c (zs_aload_n X (pc := 12) (q := 1) rfl (by decide +kernel)) <|
    zall_c (zs_iload_n X (pc := 13) (q := 2) rfl (by decide +kernel)) <|
    zall_c (zs_iload_n X (pc := 14) (q := 3) rfl (by decide +kernel)) <|
    zall_c (zs_aload_n X (pc := 15) (q := 0) rfl (by decide +kernel)) <|
    zall_c (zs_getr X (pc := 16) zc_X5 (by decide) (zin ui_X5) (.tail _ gw_1_234) (by decide +kernel) (by decide +kernel)) <|
    zall_c (zs_iload X (pc := 19) (by decide +kernel)) <|
    zall_c (zs_aaload X (pc := 21) (by decide) rfl (by decide +kernel)) <|
    zall_c (zs_getr X (pc := 22) zc_X7 (by decide) (zin ui_X7) (.tail _ gw_1_113) (by decide +kernel) (by decide +kernel)) <|
    zall_c (zs_callV0 X (pc := 25) zc_X1 (fun _ ht => ⟨(zCB ht gw_4_105 gw_1_3 gw_4_150 rfl rfl (by decide +kernel) ⟨Nat.le_of_ble_eq_true rfl, Nat.le_of_ble_eq_true rfl⟩), ht _ (.tail _ gw_4_103), ht _ (.tail _ gw_4_104)⟩) h0 hout (by decide +kernel)) <|
    zall_c (zs_if_eq X (pc := 28) (off := 6) (by decide +kernel) (by decide)) <|
    zall_c (zs_iload X (pc := 31) (by decide +kernel)) <|
    zall_c (zs_iret X (pc := 33) rfl (by decide +kernel)) <|
    zall_c (zs_iinc X (pc := 34) (by decide) (by decide +kernel)) <|
    zall_c (zs_goto X (pc := 37) (off := (-34)) (by decide +kernel) (by decide)) <|
    zall_c (zs_iconst X (pc := 40) (by decide) (by decide +kernel)) <|
    zall_c (zs_iret X (pc := 41) rfl (by decide +kernel)) <|
    zall_n
theorem met_X5_workerNamed {l : Launch} (hl : l.stackTraces = false) {T0 : ZTf} (h0 : zMet l yX1_spells (Cond.code yX1_spells cX1_spells 5 (Option.some Jvm.ClassFile.FieldType.boolean) :: zG) rm_X1_spells 0 0 T0) {T : ZTf} (bd : zBd (cd_X5_workerNamed T0) 5 0 0 T) : zMet l yX5_workerNamed (Cond.code yX5_workerNamed cX5_workerNamed 5 (Option.some Jvm.ClassFile.FieldType.int) :: zG) rm_X5_workerNamed 0 0 T := zMet_of hl (by decide +kernel) rfl rfl rfl rfl (hs_X5_workerNamed hl h0) bd

abbrev rm_X5_dropWork : Room := { frames := 4, cells := 0, slots := 0, locals := 94 }
def cd_X5_dropWork (T0 : ZTf) (T1 : ZTf) (T2 : ZTf) (T3 : ZTf) (T4 : ZTf) : List (Nat × ZTr) := [(0, tC (zi 0) 1), (1, tIst 3 2), (2, tAld 1 3), (3, tGetI 7 8 6), (6, tIst 4 8), (8, tC (zi 0) 9), (9, tIst 5 11), (11, tIld 5 13), (13, tIld 4 15), (15, tIc_ge 81 18), (18, tIld 2 19), (19, tIf_eq 38 22), (22, tAld 1 23), (23, tIld 5 25), (25, tAld 0 26), (26, tGetI 8 3 29), (29, tCall0 3 T0 (zRcv 7) 32), (32, tIf_eq 65 35), (35, tGo 47), (38, tAld 1 39), (39, tIld 5 41), (41, tCall0 2 T1 (zRcv 7) 44), (44, tIf_eq 65 47), (47, tAld 0 48), (48, tGetR 8 6 51), (51, tAld 1 52), (52, tIld 5 54), (54, tCall0 2 T2 (zRcv 7) 57), (57, tAal 30 58), (58, tIld 2 59), (59, tCall0 2 T3 zAny 62), (62, tGo 75), (65, tAld 1 66), (66, tIld 5 68), (68, tIld 3 69), (69, tCall0 3 T4 (zRcv 7) 72), (72, tInc 3 1 75), (75, tInc 5 1 78), (78, tGo 11), (81, tAld 1 82), (82, tIld 3 83), (83, tPutI 7 8 (fun _ => True) 86), (86, tIld 4 88), (88, tIld 3 89), (89, tSub 90), (90, tRi (fun _ => True))]
set_option maxRecDepth 100000 in
set_option maxHeartbeats 4000000 in
theorem hs_X5_dropWork {l : Launch} (hl : l.stackTraces = false) {T0 : ZTf} {T1 : ZTf} {T2 : ZTf} {T3 : ZTf} {T4 : ZTf} (h0 : zMet l yX4_isLateAt (Cond.code yX4_isLateAt cX4_isLateAt 3 (Option.some Jvm.ClassFile.FieldType.boolean) :: zG) rm_X4_isLateAt 0 0 T0) (h1 : zMet l yX4_isInWork (Cond.code yX4_isInWork cX4_isInWork 2 (Option.some Jvm.ClassFile.FieldType.boolean) :: zG) rm_X4_isInWork 0 0 T1) (h2 : zMet l yX4_workerAt (Cond.code yX4_workerAt cX4_workerAt 2 (Option.some Jvm.ClassFile.FieldType.int) :: zG) rm_X4_workerAt 0 0 T2) (h3 : zMet l yX5_endWork (Cond.code yX5_endWork cX5_endWork 2 (Option.none : Option Jvm.ClassFile.FieldType) :: zG) rm_X5_endWork 0 0 T3) (h4 : zMet l yX4_moveTaking (Cond.code yX4_moveTaking cX4_moveTaking 3 (Option.none : Option Jvm.ClassFile.FieldType) :: zG) rm_X4_moveTaking 0 0 T4) (p : Program) (e : Env) (s : State) (m : MethodId) (args : Array Value) (below : List Frame) (meth : Method) (c : Code) (D : va_G) (A : Nat → Prop) (a0 : Nat → Nat) (M0 : ZM) (K : ZRet) (KX : ZEx) (X : zCtx p l rm_X5_dropWork s m args meth c cX5_dropWork RX5 (Cond.code yX5_dropWork cX5_dropWork 6 (Option.some Jvm.ClassFile.FieldType.int) :: zG) 6 (Option.some Jvm.ClassFile.FieldType.int) D A a0 M0 0 0) (hnm : meth.name = yX5_dropWork.name) (hout : ∀ x ∈ c.exceptionTable.toList, False) : ∀ q ∈ cd_X5_dropWork T0 T1 T2 T3 T4, zSd p l e rm_X5_dropWork s m args below meth c 6 D A a0 M0 K KX 0 0 q.1 q.2 :=
    zall_c (zs_iconst X (pc := 0) (by decide) (by decide +kernel)) <|
    zall_c (zs_istore_n X (pc := 1) (q := 3) rfl (by decide) (by decide +kernel)) <|
    zall_c (zs_aload_n X (pc := 2) (q := 1) rfl (by decide +kernel)) <|
    zall_c (zs_geti X (pc := 3) zc_X4 (by decide) (zin ui_X4) (.tail _ gw_1_195) (by decide +kernel) (by decide +kernel)) <|
    zall_c (zs_istore X (pc := 6) (by decide) (by decide +kernel)) <|
    zall_c (zs_iconst X (pc := 8) (by decide) (by decide +kernel)) <|
    zall_c (zs_istore X (pc := 9) (by decide) (by decide +kernel)) <|
    zall_c (zs_iload X (pc := 11) (by decide +kernel)) <|
    zall_c (zs_iload X (pc := 13) (by decide +kernel)) <|
    zall_c (zs_icmp_ge X (pc := 15) (off := 66) (by decide +kernel) (by decide)) <|
    zall_c (zs_iload_n X (pc := 18) (q := 2) rfl (by decide +kernel)) <|
    zall_c (zs_if_eq X (pc := 19) (off := 19) (by decide +kernel) (by decide)) <|
    zall_c (zs_aload_n X (pc := 22) (q := 1) rfl (by decide +kernel)) <|
    zall_c (zs_iload X (pc := 23) (by decide +kernel)) <|
    zall_c (zs_aload_n X (pc := 25) (q := 0) rfl (by decide +kernel)) <|
    zall_c (zs_geti X (pc := 26) zc_X5 (by decide) (zin ui_X5) (.tail _ gw_1_227) (by decide +kernel) (by decide +kernel)) <|
    zall_c (zs_callV0 X (pc := 29) zc_X4 (fun _ ht => ⟨(zCB ht gw_6_4 gw_1_10 gw_6_1 rfl rfl (by decide +kernel) ⟨Nat.le_of_ble_eq_true rfl, Nat.le_of_ble_eq_true rfl⟩), ht _ (.tail _ gw_6_2), ht _ (.tail _ gw_6_3)⟩) h0 hout (by decide +kernel)) <|
    zall_c (zs_if_eq X (pc := 32) (off := 33) (by decide +kernel) (by decide)) <|
    zall_c (zs_goto X (pc := 35) (off := 12) (by decide +kernel) (by decide)) <|
    zall_c (zs_aload_n X (pc := 38) (q := 1) rfl (by decide +kernel)) <|
    zall_c (zs_iload X (pc := 39) (by decide +kernel)) <|
    zall_c (zs_callV0 X (pc := 41) zc_X4 (fun _ ht => ⟨(zCB ht gw_5_88 gw_1_10 gw_6_7 rfl rfl (by decide +kernel) ⟨Nat.le_of_ble_eq_true rfl, Nat.le_of_ble_eq_true rfl⟩), ht _ (.tail _ gw_5_86), ht _ (.tail _ gw_5_87)⟩) h1 hout (by decide +kernel)) <|
    zall_c (zs_if_eq X (pc := 44) (off := 21) (by decide +kernel) (by decide)) <|
    zall_c (zs_aload_n X (pc := 47) (q := 0) rfl (by decide +kernel)) <|
    zall_c (zs_getr X (pc := 48) zc_X5 (by decide) (zin ui_X5) (.tail _ gw_1_234) (by decide +kernel) (by decide +kernel)) <|
    zall_c (zs_aload_n X (pc := 51) (q := 1) rfl (by decide +kernel)) <|
    zall_c (zs_iload X (pc := 52) (by decide +kernel)) <|
    zall_c (zs_callV0 X (pc := 54) zc_X4 (fun _ ht => ⟨(zCB ht gw_5_80 gw_1_10 gw_5_133 rfl rfl (by decide +kernel) ⟨Nat.le_of_ble_eq_true rfl, Nat.le_of_ble_eq_true rfl⟩), ht _ (.tail _ gw_5_78), ht _ (.tail _ gw_5_79)⟩) h2 hout (by decide +kernel)) <|
    zall_c (zs_aaload X (pc := 57) (by decide) rfl (by decide +kernel)) <|
    zall_c (zs_iload_n X (pc := 58) (q := 2) rfl (by decide +kernel)) <|
    zall_c (zs_callS0 X (pc := 59) (fun _ ht => ⟨(zCB ht gw_6_10 gw_1_8 gw_6_8 rfl rfl (by decide +kernel) ⟨Nat.le_of_ble_eq_true rfl, Nat.le_of_ble_eq_true rfl⟩), ht _ (.tail _ gw_6_9)⟩) h3 hout (by decide +kernel)) <|
    zall_c (zs_goto X (pc := 62) (off := 13) (by decide +kernel) (by decide)) <|
    zall_c (zs_aload_n X (pc := 65) (q := 1) rfl (by decide +kernel)) <|
    zall_c (zs_iload X (pc := 66) (by decide +kernel)) <|
    zall_c (zs_iload_n X (pc := 68) (q := 3) rfl (by decide +kernel)) <|
    zall_c (zs_callV0 X (pc := 69) zc_X4 (fun _ ht => ⟨(zCB ht gw_6_14 gw_1_10 gw_6_11 rfl rfl (by decide +kernel) ⟨Nat.le_of_ble_eq_true rfl, Nat.le_of_ble_eq_true rfl⟩), ht _ (.tail _ gw_6_12), ht _ (.tail _ gw_6_13)⟩) h4 hout (by decide +kernel)) <|
    zall_c (zs_iinc X (pc := 72) (by decide) (by decide +kernel)) <|
    zall_c (zs_iinc X (pc := 75) (by decide) (by decide +kernel)) <|
    zall_c (zs_goto X (pc := 78) (off := (-67)) (by decide +kernel) (by decide)) <|
    zall_c (zs_aload_n X (pc := 81) (q := 1) rfl (by decide +kernel)) <|
    zall_c (zs_iload_n X (pc := 82) (q := 3) rfl (by decide +kernel)) <|
    zall_c (zs_puti X (pc := 83) (ty := Jvm.ClassFile.FieldType.int) zc_X4 (by decide) (zin ui_X4) tyX4_ok nmX4 (.tail _ gw_1_195) rfl (by decide +kernel) (by decide +kernel) (by decide +kernel) zP_int) <|
    zall_c (zs_iload X (pc := 86) (by decide +kernel)) <|
    zall_c (zs_iload_n X (pc := 88) (q := 3) rfl (by decide +kernel)) <|
    zall_c (zs_isub X (pc := 89) (by decide +kernel)) <|
    zall_c (zs_iret X (pc := 90) rfl (by decide +kernel)) <|
    zall_n
theorem met_X5_dropWork {l : Launch} (hl : l.stackTraces = false) {T0 : ZTf} {T1 : ZTf} {T2 : ZTf} {T3 : ZTf} {T4 : ZTf} (h0 : zMet l yX4_isLateAt (Cond.code yX4_isLateAt cX4_isLateAt 3 (Option.some Jvm.ClassFile.FieldType.boolean) :: zG) rm_X4_isLateAt 0 0 T0) (h1 : zMet l yX4_isInWork (Cond.code yX4_isInWork cX4_isInWork 2 (Option.some Jvm.ClassFile.FieldType.boolean) :: zG) rm_X4_isInWork 0 0 T1) (h2 : zMet l yX4_workerAt (Cond.code yX4_workerAt cX4_workerAt 2 (Option.some Jvm.ClassFile.FieldType.int) :: zG) rm_X4_workerAt 0 0 T2) (h3 : zMet l yX5_endWork (Cond.code yX5_endWork cX5_endWork 2 (Option.none : Option Jvm.ClassFile.FieldType) :: zG) rm_X5_endWork 0 0 T3) (h4 : zMet l yX4_moveTaking (Cond.code yX4_moveTaking cX4_moveTaking 3 (Option.none : Option Jvm.ClassFile.FieldType) :: zG) rm_X4_moveTaking 0 0 T4) {T : ZTf} (bd : zBd (cd_X5_dropWork T0 T1 T2 T3 T4) 6 0 0 T) : zMet l yX5_dropWork (Cond.code yX5_dropWork cX5_dropWork 6 (Option.some Jvm.ClassFile.FieldType.int) :: zG) rm_X5_dropWork 0 0 T := zMet_of hl (by decide +kernel) rfl rfl rfl rfl (hs_X5_dropWork hl h0 h1 h2 h3 h4) bd

abbrev rm_X5_giveUp : Room := { frames := 5, cells := 0, slots := 0, locals := 119 }
def cd_X5_giveUp (T0 : ZTf) : List (Nat × ZTr) := [(0, tAld 1 1), (1, tC (zi 3) 2), (2, tPutI 7 1 (fun _ => True) 5), (5, tAld 0 6), (6, tAld 1 7), (7, tC (zi 0) 8), (8, tCall0 3 T0 (zRcv 8) 11), (11, tRi (fun _ => True))]
set_option maxRecDepth 100000 in
set_option maxHeartbeats 4000000 in
theorem hs_X5_giveUp {l : Launch} (hl : l.stackTraces = false) {T0 : ZTf} (h0 : zMet l yX5_dropWork (Cond.code yX5_dropWork cX5_dropWork 6 (Option.some Jvm.ClassFile.FieldType.int) :: zG) rm_X5_dropWork 0 0 T0) (p : Program) (e : Env) (s : State) (m : MethodId) (args : Array Value) (below : List Frame) (meth : Method) (c : Code) (D : va_G) (A : Nat → Prop) (a0 : Nat → Nat) (M0 : ZM) (K : ZRet) (KX : ZEx) (X : zCtx p l rm_X5_giveUp s m args meth c cX5_giveUp RX5 (Cond.code yX5_giveUp cX5_giveUp 2 (Option.some Jvm.ClassFile.FieldType.int) :: zG) 2 (Option.some Jvm.ClassFile.FieldType.int) D A a0 M0 0 0) (hnm : meth.name = yX5_giveUp.name) (hout : ∀ x ∈ c.exceptionTable.toList, False) : ∀ q ∈ cd_X5_giveUp T0, zSd p l e rm_X5_giveUp s m args below meth c 2 D A a0 M0 K KX 0 0 q.1 q.2 :=
    zall_c (zs_aload_n X (pc := 0) (q := 1) rfl (by decide +kernel)) <|
    zall_c (zs_iconst X (pc := 1) (by decide) (by decide +kernel)) <|
    zall_c (zs_puti X (pc := 2) (ty := Jvm.ClassFile.FieldType.int) zc_X4 (by decide) (zin ui_X4) tyX4_ok nmX4 (.tail _ gw_1_174) rfl (by decide +kernel) (by decide +kernel) (by decide +kernel) zP_int) <|
    zall_c (zs_aload_n X (pc := 5) (q := 0) rfl (by decide +kernel)) <|
    zall_c (zs_aload_n X (pc := 6) (q := 1) rfl (by decide +kernel)) <|
    zall_c (zs_iconst X (pc := 7) (by decide) (by decide +kernel)) <|
    zall_c (zs_callV0 X (pc := 8) zc_X5 (fun _ ht => ⟨(zCB ht gw_6_0 gw_1_8 gw_5_237 rfl rfl (by decide +kernel) ⟨Nat.le_of_ble_eq_true rfl, Nat.le_of_ble_eq_true rfl⟩), ht _ (.tail _ gw_5_238), ht _ (.tail _ gw_5_239)⟩) h0 hout (by decide +kernel)) <|
    zall_c (zs_iret X (pc := 11) rfl (by decide +kernel)) <|
    zall_n
theorem met_X5_giveUp {l : Launch} (hl : l.stackTraces = false) {T0 : ZTf} (h0 : zMet l yX5_dropWork (Cond.code yX5_dropWork cX5_dropWork 6 (Option.some Jvm.ClassFile.FieldType.int) :: zG) rm_X5_dropWork 0 0 T0) {T : ZTf} (bd : zBd (cd_X5_giveUp T0) 2 0 0 T) : zMet l yX5_giveUp (Cond.code yX5_giveUp cX5_giveUp 2 (Option.some Jvm.ClassFile.FieldType.int) :: zG) rm_X5_giveUp 0 0 T := zMet_of hl (by decide +kernel) rfl rfl rfl rfl (hs_X5_giveUp hl h0) bd

abbrev rm_X8_setAside : Room := { frames := 7, cells := 2, slots := 12, locals := 140 }
def cd_X8_setAside (T0 : ZTf) (T1 : ZTf) (T2 : ZTf) (T3 : ZTf) : List (Nat × ZTr) := [(0, tAld 0 1), (1, tIld 1 2), (2, tCall 2 1 6 T0 (zRcv 11) 5), (5, tAld 0 6), (6, tGetR 11 2 9), (9, tGetR 8 7 12), (12, tIld 1 13), (13, tAal 31 14), (14, tCall0 1 T1 (zRcv 7) 17), (17, tIf_eq 31 20), (20, tThr 2), (31, tAld 0 32), (32, tGetR 11 3 35), (35, tAld 0 36), (36, tGetR 11 2 39), (39, tCall0 2 T2 (zRcv 4) 42), (42, tAld 0 43), (43, tGetR 11 2 46), (46, tAld 0 47), (47, tGetR 11 2 50), (50, tGetR 8 7 53), (53, tIld 1 54), (54, tAal 31 55), (55, tCall0 2 T3 (zRcv 8) 58), (58, tRi (fun _ => True))]
set_option maxRecDepth 100000 in
set_option maxHeartbeats 4000000 in
theorem hs_X8_setAside {l : Launch} (hl : l.stackTraces = false) {T0 : ZTf} {T1 : ZTf} {T2 : ZTf} {T3 : ZTf} (h0 : zMet l yX8_requireRow (Cond.code yX8_requireRow cX8_requireRow 2 (Option.none : Option Jvm.ClassFile.FieldType) :: zG) rm_X8_requireRow 1 6 T0) (h1 : zMet l yX4_isClosed (Cond.code yX4_isClosed cX4_isClosed 1 (Option.some Jvm.ClassFile.FieldType.boolean) :: zG) rm_X4_isClosed 0 0 T1) (h2 : zMet l yX0_remember (Cond.code yX0_remember cX0_remember 2 (Option.none : Option Jvm.ClassFile.FieldType) :: zG) rm_X0_remember 0 0 T2) (h3 : zMet l yX5_giveUp (Cond.code yX5_giveUp cX5_giveUp 2 (Option.some Jvm.ClassFile.FieldType.int) :: zG) rm_X5_giveUp 0 0 T3) (p : Program) (e : Env) (s : State) (m : MethodId) (args : Array Value) (below : List Frame) (meth : Method) (c : Code) (D : va_G) (A : Nat → Prop) (a0 : Nat → Nat) (M0 : ZM) (K : ZRet) (KX : ZEx) (X : zCtx p l rm_X8_setAside s m args meth c cX8_setAside RX8 (Cond.code yX8_setAside cX8_setAside 2 (Option.some Jvm.ClassFile.FieldType.int) :: zG) 2 (Option.some Jvm.ClassFile.FieldType.int) D A a0 M0 2 12) (hnm : meth.name = yX8_setAside.name) (hout : ∀ x ∈ c.exceptionTable.toList, False) : ∀ q ∈ cd_X8_setAside T0 T1 T2 T3, zSd p l e rm_X8_setAside s m args below meth c 2 D A a0 M0 K KX 2 12 q.1 q.2 :=
    zall_c (zs_aload_n X (pc := 0) (q := 0) rfl (by decide +kernel)) <|
    zall_c (zs_iload_n X (pc := 1) (q := 1) rfl (by decide +kernel)) <|
    zall_c (zs_callV X (pc := 2) zc_X8 (fun _ ht => ⟨(zCB ht gw_5_61 gw_1_1 gw_5_58 rfl rfl (by decide +kernel) ⟨Nat.le_of_ble_eq_true rfl, Nat.le_of_ble_eq_true rfl⟩), ht _ (.tail _ gw_5_60), ht _ (.tail _ gp_18)⟩) h0 hout (by decide +kernel)) <|
    zall_c (zs_aload_n X (pc := 5) (q := 0) rfl (by decide +kernel)) <|
    zall_c (zs_getr X (pc := 6) zc_X8 (by decide) (zin ui_X8) (.tail _ gw_2_116) (by decide +kernel) (by decide +kernel)) <|
    zall_c (zs_getr X (pc := 9) zc_X5 (by decide) (zin ui_X5) (.tail _ gw_1_238) (by decide +kernel) (by decide +kernel)) <|
    zall_c (zs_iload_n X (pc := 12) (q := 1) rfl (by decide +kernel)) <|
    zall_c (zs_aaload X (pc := 13) (by decide) rfl (by decide +kernel)) <|
    zall_c (zs_callV0 X (pc := 14) zc_X4 (fun _ ht => ⟨(zCB ht gw_5_70 gw_1_10 gw_6_36 rfl rfl (by decide +kernel) ⟨Nat.le_of_ble_eq_true rfl, Nat.le_of_ble_eq_true rfl⟩), ht _ (.tail _ gw_5_68), ht _ (.tail _ gw_5_69)⟩) h1 hout (by decide +kernel)) <|
    zall_c (zs_if_eq X (pc := 17) (off := 14) (by decide +kernel) (by decide)) <|
    zall_c (zs_throww X (pc := 20) (ik := 69) (is := 331) (ic := 73) (cls := "java/lang/IllegalStateException") (text := "the row is finished or set aside") (names := ["java/lang/RuntimeException", "java/lang/Exception"]) rfl (by decide +kernel) (by decide +kernel) (.tail _ gw_4_33) (.tail _ gw_1_24) (by decide +kernel) (zin gt_X8_73) gt_X8_73x (by decide +kernel) hout (by decide) (by decide) (by decide +kernel) (by decide +kernel) (by decide +kernel) (by decide +kernel) (by decide +kernel)) <|
    zall_c (zs_aload_n X (pc := 31) (q := 0) rfl (by decide +kernel)) <|
    zall_c (zs_getr X (pc := 32) zc_X8 (by decide) (zin ui_X8) (.tail _ gw_2_117) (by decide +kernel) (by decide +kernel)) <|
    zall_c (zs_aload_n X (pc := 35) (q := 0) rfl (by decide +kernel)) <|
    zall_c (zs_getr X (pc := 36) zc_X8 (by decide) (zin ui_X8) (.tail _ gw_2_116) (by decide +kernel) (by decide +kernel)) <|
    zall_c (zs_callV0 X (pc := 39) zc_X0 (fun _ ht => ⟨(zCB ht gw_4_237 gw_1_11 gw_4_234 rfl rfl (by decide +kernel) ⟨Nat.le_of_ble_eq_true rfl, Nat.le_of_ble_eq_true rfl⟩), ht _ (.tail _ gw_4_235), ht _ (.tail _ gw_4_236)⟩) h2 hout (by decide +kernel)) <|
    zall_c (zs_aload_n X (pc := 42) (q := 0) rfl (by decide +kernel)) <|
    zall_c (zs_getr X (pc := 43) zc_X8 (by decide) (zin ui_X8) (.tail _ gw_2_116) (by decide +kernel) (by decide +kernel)) <|
    zall_c (zs_aload_n X (pc := 46) (q := 0) rfl (by decide +kernel)) <|
    zall_c (zs_getr X (pc := 47) zc_X8 (by decide) (zin ui_X8) (.tail _ gw_2_116) (by decide +kernel) (by decide +kernel)) <|
    zall_c (zs_getr X (pc := 50) zc_X5 (by decide) (zin ui_X5) (.tail _ gw_1_238) (by decide +kernel) (by decide +kernel)) <|
    zall_c (zs_iload_n X (pc := 53) (q := 1) rfl (by decide +kernel)) <|
    zall_c (zs_aaload X (pc := 54) (by decide) rfl (by decide +kernel)) <|
    zall_c (zs_callV0 X (pc := 55) zc_X5 (fun _ ht => ⟨(zCB ht gw_6_41 gw_1_8 gw_6_38 rfl rfl (by decide +kernel) ⟨Nat.le_of_ble_eq_true rfl, Nat.le_of_ble_eq_true rfl⟩), ht _ (.tail _ gw_6_39), ht _ (.tail _ gw_6_40)⟩) h3 hout (by decide +kernel)) <|
    zall_c (zs_iret X (pc := 58) rfl (by decide +kernel)) <|
    zall_n
theorem met_X8_setAside {l : Launch} (hl : l.stackTraces = false) {T0 : ZTf} {T1 : ZTf} {T2 : ZTf} {T3 : ZTf} (h0 : zMet l yX8_requireRow (Cond.code yX8_requireRow cX8_requireRow 2 (Option.none : Option Jvm.ClassFile.FieldType) :: zG) rm_X8_requireRow 1 6 T0) (h1 : zMet l yX4_isClosed (Cond.code yX4_isClosed cX4_isClosed 1 (Option.some Jvm.ClassFile.FieldType.boolean) :: zG) rm_X4_isClosed 0 0 T1) (h2 : zMet l yX0_remember (Cond.code yX0_remember cX0_remember 2 (Option.none : Option Jvm.ClassFile.FieldType) :: zG) rm_X0_remember 0 0 T2) (h3 : zMet l yX5_giveUp (Cond.code yX5_giveUp cX5_giveUp 2 (Option.some Jvm.ClassFile.FieldType.int) :: zG) rm_X5_giveUp 0 0 T3) {T : ZTf} (bd : zBd (cd_X8_setAside T0 T1 T2 T3) 2 2 12 T) : zMet l yX8_setAside (Cond.code yX8_setAside cX8_setAside 2 (Option.some Jvm.ClassFile.FieldType.int) :: zG) rm_X8_setAside 2 12 T := zMet_of hl (by decide +kernel) rfl rfl rfl rfl (hs_X8_setAside hl h0 h1 h2 h3) bd

abbrev rm_J5_append_cf1ce (a b : Nat) : Room := { frames := 4, cells := a, slots := b, locals := 105 }
def cd_J5_append_cf1ce (T0 : ZTf) (T1 : Nat → Nat → ZTf) (T2 : ZTf) : List (Nat × ZTr) := [(0, tAld 1 1), (1, tNn 9), (4, tNo), (9, tAld 1 10), (10, tCall0 1 T0 (zRcv 0) 13), (13, tIst 2 14), (14, tAld 0 15), (15, tAld 0 16), (16, tGetI 1 3 19), (19, tIld 2 20), (20, tAdd 21), (21, tEx (fun a b => tCall 2 a b (T1 a b) (zRcv 1) 24)), (24, tAld 0 25), (25, tAld 0 26), (26, tGetI 1 3 29), (29, tAld 1 30), (30, tCall0 3 T2 (zRcv 1) 33), (33, tAld 0 34), (34, tDup 35), (35, tGetI 1 3 38), (38, tIld 2 39), (39, tAdd 40), (40, tPutI 1 3 (fun _ => True) 43), (43, tAld 0 44), (44, tRa)]
set_option maxRecDepth 100000 in
set_option maxHeartbeats 4000000 in
theorem hs_J5_append_cf1ce {l : Launch} (hl : l.stackTraces = false) {a b : Nat} {T0 : ZTf} {T1 : Nat → Nat → ZTf} {T2 : ZTf} (h0 : zMet l yJ0_length_8abf5 (Cond.code yJ0_length_8abf5 cJ0_length_8abf5 1 (Option.some Jvm.ClassFile.FieldType.int) :: zG) rm_J0_length_8abf5 0 0 T0) (h1 : ∀ a b, zMet l yJ5_ensureCapacityInternal_d00df (Cond.code yJ5_ensureCapacityInternal_d00df cJ5_ensureCapacityInternal_d00df 3 (Option.none : Option Jvm.ClassFile.FieldType) :: zG) (rm_J5_ensureCapacityInternal_d00df a b) a b (T1 a b)) (h2 : zMet l yJ5_putStringAt_47b60 (Cond.code yJ5_putStringAt_47b60 cJ5_putStringAt_47b60 3 (Option.none : Option Jvm.ClassFile.FieldType) :: zG) rm_J5_putStringAt_47b60 0 0 T2) (p : Program) (e : Env) (s : State) (m : MethodId) (args : Array Value) (below : List Frame) (meth : Method) (c : Code) (D : va_G) (A : Nat → Prop) (a0 : Nat → Nat) (M0 : ZM) (K : ZRet) (KX : ZEx) (X : zCtx p l (rm_J5_append_cf1ce a b) s m args meth c cJ5_append_cf1ce RJ5 (Cond.code yJ5_append_cf1ce cJ5_append_cf1ce 3 (Option.some (Jvm.ClassFile.FieldType.object "java/lang/AbstractStringBuilder")) :: zG) 3 (Option.some (Jvm.ClassFile.FieldType.object "java/lang/AbstractStringBuilder")) D A a0 M0 a b) (hnm : meth.name = yJ5_append_cf1ce.name) (hout : ∀ x ∈ c.exceptionTable.toList, False) : ∀ q ∈ cd_J5_append_cf1ce T0 T1 T2, zSd p l e (rm_J5_append_cf1ce a b) s m args below meth c 3 D A a0 M0 K KX a b q.1 q.2 :=
    zall_c (zs_aload_n X (pc := 0) (q := 1) rfl (by decide +kernel)) <|
    zall_c (zs_ifnonnull X (pc := 1) (off := 8) (by decide +kernel) (by decide)) <|
    zall_c (zs_no (pc := 4)) <|
    zall_c (zs_aload_n X (pc := 9) (q := 1) rfl (by decide +kernel)) <|
    zall_c (zs_callV0 X (pc := 10) zc_J0 (fun _ ht => ⟨(zCB ht gw_3_5 gw_1_6 gw_3_2 rfl rfl (by decide +kernel) ⟨Nat.le_of_ble_eq_true rfl, Nat.le_of_ble_eq_true rfl⟩), ht _ (.tail _ gw_3_3), ht _ (.tail _ gw_3_4)⟩) h0 hout (by decide +kernel)) <|
    zall_c (zs_istore_n X (pc := 13) (q := 2) rfl (by decide) (by decide +kernel)) <|
    zall_c (zs_aload_n X (pc := 14) (q := 0) rfl (by decide +kernel)) <|
    zall_c (zs_aload_n X (pc := 15) (q := 0) rfl (by decide +kernel)) <|
    zall_c (zs_geti X (pc := 16) zc_J4 (by decide) (zin ui_J4) (.tail _ gw_1_71) (by decide +kernel) (by decide +kernel)) <|
    zall_c (zs_iload_n X (pc := 19) (q := 2) rfl (by decide +kernel)) <|
    zall_c (zs_iadd X (pc := 20) (by decide +kernel)) <|
    zall_c (zs_ex (fun a b => zs_callV X (pc := 21) zc_J4 (fun _ ht => ⟨(zCB ht gw_3_33 gw_1_4 gw_3_30 rfl rfl (by decide +kernel) ⟨Nat.le_of_ble_eq_true rfl, Nat.le_of_ble_eq_true rfl⟩), ht _ (.tail _ gw_3_32), ht _ (.tail _ gx_1)⟩) (h1 a b) hout (by decide +kernel))) <|
    zall_c (zs_aload_n X (pc := 24) (q := 0) rfl (by decide +kernel)) <|
    zall_c (zs_aload_n X (pc := 25) (q := 0) rfl (by decide +kernel)) <|
    zall_c (zs_geti X (pc := 26) zc_J4 (by decide) (zin ui_J4) (.tail _ gw_1_71) (by decide +kernel) (by decide +kernel)) <|
    zall_c (zs_aload_n X (pc := 29) (q := 1) rfl (by decide +kernel)) <|
    zall_c (zs_callV0 X (pc := 30) zc_J4 (fun _ ht => ⟨(zCB ht gw_3_98 gw_1_4 gw_3_95 rfl rfl (by decide +kernel) ⟨Nat.le_of_ble_eq_true rfl, Nat.le_of_ble_eq_true rfl⟩), ht _ (.tail _ gw_3_97), ht _ (.tail _ gx_3)⟩) h2 hout (by decide +kernel)) <|
    zall_c (zs_aload_n X (pc := 33) (q := 0) rfl (by decide +kernel)) <|
    zall_c (zs_dup X (pc := 34) (by decide +kernel)) <|
    zall_c (zs_geti X (pc := 35) zc_J4 (by decide) (zin ui_J4) (.tail _ gw_1_71) (by decide +kernel) (by decide +kernel)) <|
    zall_c (zs_iload_n X (pc := 38) (q := 2) rfl (by decide +kernel)) <|
    zall_c (zs_iadd X (pc := 39) (by decide +kernel)) <|
    zall_c (zs_puti X (pc := 40) (ty := Jvm.ClassFile.FieldType.int) zc_J4 (by decide) (zin ui_J4) tyJ4_ok nmJ4 (.tail _ gw_1_71) rfl (by decide +kernel) (by decide +kernel) (by decide +kernel) zP_int) <|
    zall_c (zs_aload_n X (pc := 43) (q := 0) rfl (by decide +kernel)) <|
    zall_c (zs_aret X (pc := 44) rfl (Or.inl ⟨_, rfl⟩) (by decide +kernel)) <|
    zall_n
theorem met_J5_append_cf1ce {l : Launch} (hl : l.stackTraces = false) {a b : Nat} {T0 : ZTf} {T1 : Nat → Nat → ZTf} {T2 : ZTf} (h0 : zMet l yJ0_length_8abf5 (Cond.code yJ0_length_8abf5 cJ0_length_8abf5 1 (Option.some Jvm.ClassFile.FieldType.int) :: zG) rm_J0_length_8abf5 0 0 T0) (h1 : ∀ a b, zMet l yJ5_ensureCapacityInternal_d00df (Cond.code yJ5_ensureCapacityInternal_d00df cJ5_ensureCapacityInternal_d00df 3 (Option.none : Option Jvm.ClassFile.FieldType) :: zG) (rm_J5_ensureCapacityInternal_d00df a b) a b (T1 a b)) (h2 : zMet l yJ5_putStringAt_47b60 (Cond.code yJ5_putStringAt_47b60 cJ5_putStringAt_47b60 3 (Option.none : Option Jvm.ClassFile.FieldType) :: zG) rm_J5_putStringAt_47b60 0 0 T2) {T : ZTf} (bd : zBd (cd_J5_append_cf1ce T0 T1 T2) 3 a b T) : zMet l yJ5_append_cf1ce (Cond.code yJ5_append_cf1ce cJ5_append_cf1ce 3 (Option.some (Jvm.ClassFile.FieldType.object "java/lang/AbstractStringBuilder")) :: zG) (rm_J5_append_cf1ce a b) a b T := zMet_of hl (by decide +kernel) rfl rfl rfl rfl (hs_J5_append_cf1ce hl h0 h1 h2) bd

abbrev rm_J0_init_81219 : Room := { frames := 5, cells := 1, slots := 6, locals := 130 }
def cd_J0_init_81219 (T0 : ZTf) : List (Nat × ZTr) := [(0, tAld 0 1), (1, tAld 1 2), (2, tC (zr none) 3), (3, tCall 3 1 6 (zNt T0) (zRcv 0) 6), (6, tRv)]
set_option maxRecDepth 100000 in
set_option maxHeartbeats 4000000 in
theorem hs_J0_init_81219 {l : Launch} (hl : l.stackTraces = false) {T0 : ZTf} (h0 : zMet l yJ0_init_db425 (Cond.code yJ0_init_db425 cJ0_init_db425 5 (Option.none : Option Jvm.ClassFile.FieldType) :: zG) rm_J0_init_db425 1 6 T0) (p : Program) (e : Env) (s : State) (m : MethodId) (args : Array Value) (below : List Frame) (meth : Method) (c : Code) (D : va_G) (A : Nat → Prop) (a0 : Nat → Nat) (M0 : ZM) (K : ZRet) (KX : ZEx) (X : zCtx p l rm_J0_init_81219 s m args meth c cJ0_init_81219 RJ0 (Cond.code yJ0_init_81219 cJ0_init_81219 2 (Option.none : Option Jvm.ClassFile.FieldType) :: zG) 2 (Option.none : Option Jvm.ClassFile.FieldType) D A a0 M0 1 6) (hnm : meth.name = yJ0_init_81219.name) (hout : ∀ x ∈ c.exceptionTable.toList, False) : ∀ q ∈ cd_J0_init_81219 T0, zSd p l e rm_J0_init_81219 s m args below meth c 2 D A a0 M0 K KX 1 6 q.1 q.2 :=
    zall_c (zs_aload_n X (pc := 0) (q := 0) rfl (by decide +kernel)) <|
    zall_c (zs_aload_n X (pc := 1) (q := 1) rfl (by decide +kernel)) <|
    zall_c (zs_anull X (pc := 2) (by decide +kernel)) <|
    zall_c (zs_callI X (pc := 3) (rt := none) (fun _ ht => ⟨(zCB ht gw_3_198 gw_1_6 gw_3_196 rfl rfl (by decide +kernel) ⟨Nat.le_of_ble_eq_true rfl, Nat.le_of_ble_eq_true rfl⟩), rfl, ht _ (.tail _ gw_3_197)⟩) h0 (by decide +kernel)) <|
    zall_c (zs_vret X (pc := 6) rfl (by decide +kernel)) <|
    zall_n
theorem met_J0_init_81219 {l : Launch} (hl : l.stackTraces = false) {T0 : ZTf} (h0 : zMet l yJ0_init_db425 (Cond.code yJ0_init_db425 cJ0_init_db425 5 (Option.none : Option Jvm.ClassFile.FieldType) :: zG) rm_J0_init_db425 1 6 T0) {T : ZTf} (bd : zBd (cd_J0_init_81219 T0) 2 1 6 T) : zMet l yJ0_init_81219 (Cond.code yJ0_init_81219 cJ0_init_81219 2 (Option.none : Option Jvm.ClassFile.FieldType) :: zG) rm_J0_init_81219 1 6 T := zMet_of hl (by decide +kernel) rfl rfl rfl rfl (hs_J0_init_81219 hl h0) bd

abbrev rm_J4_append_15ec4 (a b : Nat) : Room := { frames := 5, cells := a, slots := b, locals := 127 }
def cd_J4_append_15ec4 (T0 : Nat → Nat → ZTf) : List (Nat × ZTr) := [(0, tAld 0 1), (1, tAld 1 2), (2, tEx (fun a b => tCall 2 a b (zNt (T0 a b)) (zRcv 1) 5)), (5, tPop 6), (6, tAld 0 7), (7, tRa)]
set_option maxRecDepth 100000 in
set_option maxHeartbeats 4000000 in
theorem hs_J4_append_15ec4 {l : Launch} (hl : l.stackTraces = false) {a b : Nat} {T0 : Nat → Nat → ZTf} (h0 : ∀ a b, zMet l yJ5_append_cf1ce (Cond.code yJ5_append_cf1ce cJ5_append_cf1ce 3 (Option.some (Jvm.ClassFile.FieldType.object "java/lang/AbstractStringBuilder")) :: zG) (rm_J5_append_cf1ce a b) a b (T0 a b)) (p : Program) (e : Env) (s : State) (m : MethodId) (args : Array Value) (below : List Frame) (meth : Method) (c : Code) (D : va_G) (A : Nat → Prop) (a0 : Nat → Nat) (M0 : ZM) (K : ZRet) (KX : ZEx) (X : zCtx p l (rm_J4_append_15ec4 a b) s m args meth c cJ4_append_15ec4 RJ4 (Cond.code yJ4_append_15ec4 cJ4_append_15ec4 2 (Option.some (Jvm.ClassFile.FieldType.object "java/lang/StringBuilder")) :: zG) 2 (Option.some (Jvm.ClassFile.FieldType.object "java/lang/StringBuilder")) D A a0 M0 a b) (hnm : meth.name = yJ4_append_15ec4.name) (hout : ∀ x ∈ c.exceptionTable.toList, False) : ∀ q ∈ cd_J4_append_15ec4 T0, zSd p l e (rm_J4_append_15ec4 a b) s m args below meth c 2 D A a0 M0 K KX a b q.1 q.2 :=
    zall_c (zs_aload_n X (pc := 0) (q := 0) rfl (by decide +kernel)) <|
    zall_c (zs_aload_n X (pc := 1) (q := 1) rfl (by decide +kernel)) <|
    zall_c (zs_ex (fun a b => zs_callSU X (pc := 2) zc_J4 (fun _ ht => (zCSU ht gw_3_25 gw_1_4 gw_3_24 gw_3_16 gw_1_80 gw_3_15 rfl rfl (by decide +kernel) ⟨Nat.le_of_ble_eq_true rfl, Nat.le_of_ble_eq_true rfl⟩)) (h0 a b) (by decide +kernel))) <|
    zall_c (zs_pop X (pc := 5) (by decide +kernel)) <|
    zall_c (zs_aload_n X (pc := 6) (q := 0) rfl (by decide +kernel)) <|
    zall_c (zs_aret X (pc := 7) rfl (Or.inl ⟨_, rfl⟩) (by decide +kernel)) <|
    zall_n
theorem met_J4_append_15ec4 {l : Launch} (hl : l.stackTraces = false) {a b : Nat} {T0 : Nat → Nat → ZTf} (h0 : ∀ a b, zMet l yJ5_append_cf1ce (Cond.code yJ5_append_cf1ce cJ5_append_cf1ce 3 (Option.some (Jvm.ClassFile.FieldType.object "java/lang/AbstractStringBuilder")) :: zG) (rm_J5_append_cf1ce a b) a b (T0 a b)) {T : ZTf} (bd : zBd (cd_J4_append_15ec4 T0) 2 a b T) : zMet l yJ4_append_15ec4 (Cond.code yJ4_append_15ec4 cJ4_append_15ec4 2 (Option.some (Jvm.ClassFile.FieldType.object "java/lang/StringBuilder")) :: zG) (rm_J4_append_15ec4 a b) a b T := zMet_of hl (by decide +kernel) rfl rfl rfl rfl (hs_J4_append_15ec4 hl h0) bd

abbrev rm_J4_toString_0e30d : Room := { frames := 6, cells := 2, slots := 10, locals := 151 }
def cd_J4_toString_0e30d (T0 : ZTf) : List (Nat × ZTr) := [(0, tNew 0 4 3), (3, tDup 4), (4, tAld 0 5), (5, tCall 2 1 6 (zNt T0) (zRcv 0) 8), (8, tRa)]
set_option maxRecDepth 100000 in
set_option maxHeartbeats 4000000 in
theorem hs_J4_toString_0e30d {l : Launch} (hl : l.stackTraces = false) {T0 : ZTf} (h0 : zMet l yJ0_init_81219 (Cond.code yJ0_init_81219 cJ0_init_81219 2 (Option.none : Option Jvm.ClassFile.FieldType) :: zG) rm_J0_init_81219 1 6 T0) (p : Program) (e : Env) (s : State) (m : MethodId) (args : Array Value) (below : List Frame) (meth : Method) (c : Code) (D : va_G) (A : Nat → Prop) (a0 : Nat → Nat) (M0 : ZM) (K : ZRet) (KX : ZEx) (X : zCtx p l rm_J4_toString_0e30d s m args meth c cJ4_toString_0e30d RJ4 (Cond.code yJ4_toString_0e30d cJ4_toString_0e30d 1 (Option.some (Jvm.ClassFile.FieldType.object "java/lang/String")) :: zG) 1 (Option.some (Jvm.ClassFile.FieldType.object "java/lang/String")) D A a0 M0 2 10) (hnm : meth.name = yJ4_toString_0e30d.name) (hout : ∀ x ∈ c.exceptionTable.toList, False) : ∀ q ∈ cd_J4_toString_0e30d T0, zSd p l e rm_J4_toString_0e30d s m args below meth c 1 D A a0 M0 K KX 2 10 q.1 q.2 :=
    zall_c (zs_new X (pc := 0) zc_J0 (zin ui_J0) tyJ0_ok (.tail _ gw_3_191) (.tail _ gw_3_192) (.tail _ gw_1_6) (by decide +kernel) (by decide +kernel)) <|
    zall_c (zs_dup X (pc := 3) (by decide +kernel)) <|
    zall_c (zs_aload_n X (pc := 4) (q := 0) rfl (by decide +kernel)) <|
    zall_c (zs_callI X (pc := 5) (rt := none) (fun _ ht => ⟨(zCB ht gw_3_195 gw_1_6 gw_3_193 rfl rfl (by decide +kernel) ⟨Nat.le_of_ble_eq_true rfl, Nat.le_of_ble_eq_true rfl⟩), rfl, ht _ (.tail _ gw_3_194)⟩) h0 (by decide +kernel)) <|
    zall_c (zs_aret X (pc := 8) rfl (Or.inl ⟨_, rfl⟩) (by decide +kernel)) <|
    zall_n
theorem met_J4_toString_0e30d {l : Launch} (hl : l.stackTraces = false) {T0 : ZTf} (h0 : zMet l yJ0_init_81219 (Cond.code yJ0_init_81219 cJ0_init_81219 2 (Option.none : Option Jvm.ClassFile.FieldType) :: zG) rm_J0_init_81219 1 6 T0) {T : ZTf} (bd : zBd (cd_J4_toString_0e30d T0) 1 2 10 T) : zMet l yJ4_toString_0e30d (Cond.code yJ4_toString_0e30d cJ4_toString_0e30d 1 (Option.some (Jvm.ClassFile.FieldType.object "java/lang/String")) :: zG) rm_J4_toString_0e30d 2 10 T := zMet_of hl (by decide +kernel) rfl rfl rfl rfl (hs_J4_toString_0e30d hl h0) bd

abbrev rm_J4_append_cf1ce : Room := { frames := 6, cells := 0, slots := 0, locals := 148 }
def cd_J4_append_cf1ce (T0 : Nat → Nat → ZTf) : List (Nat × ZTr) := [(0, tAld 0 1), (1, tAld 1 2), (2, tEx (fun a b => tCall 2 a b (T0 a b) (zRcv 1) 5)), (5, tRa)]
set_option maxRecDepth 100000 in
set_option maxHeartbeats 4000000 in
theorem hs_J4_append_cf1ce {l : Launch} (hl : l.stackTraces = false) {T0 : Nat → Nat → ZTf} (h0 : ∀ a b, zMet l yJ4_append_15ec4 (Cond.code yJ4_append_15ec4 cJ4_append_15ec4 2 (Option.some (Jvm.ClassFile.FieldType.object "java/lang/StringBuilder")) :: zG) (rm_J4_append_15ec4 a b) a b (T0 a b)) (p : Program) (e : Env) (s : State) (m : MethodId) (args : Array Value) (below : List Frame) (meth : Method) (c : Code) (D : va_G) (A : Nat → Prop) (a0 : Nat → Nat) (M0 : ZM) (K : ZRet) (KX : ZEx) (X : zCtx p l rm_J4_append_cf1ce s m args meth c cJ4_append_cf1ce RJ4 (Cond.code yJ4_append_cf1ce cJ4_append_cf1ce 2 (Option.some (Jvm.ClassFile.FieldType.object "java/lang/AbstractStringBuilder")) :: zG) 2 (Option.some (Jvm.ClassFile.FieldType.object "java/lang/AbstractStringBuilder")) D A a0 M0 0 0) (hnm : meth.name = yJ4_append_cf1ce.name) (hout : ∀ x ∈ c.exceptionTable.toList, False) : ∀ q ∈ cd_J4_append_cf1ce T0, zSd p l e rm_J4_append_cf1ce s m args below meth c 2 D A a0 M0 K KX 0 0 q.1 q.2 :=
    zall_c (zs_aload_n X (pc := 0) (q := 0) rfl (by decide +kernel)) <|
    zall_c (zs_aload_n X (pc := 1) (q := 1) rfl (by decide +kernel)) <|
    zall_c (zs_ex (fun a b => zs_callV X (pc := 2) zc_J4 (fun _ ht => ⟨(zCB ht gw_3_23 gw_1_5 gw_3_20 rfl rfl (by decide +kernel) ⟨Nat.le_of_ble_eq_true rfl, Nat.le_of_ble_eq_true rfl⟩), ht _ (.tail _ gw_3_21), ht _ (.tail _ gw_3_22)⟩) (h0 a b) hout (by decide +kernel))) <|
    zall_c (zs_aret X (pc := 5) rfl (Or.inl ⟨_, rfl⟩) (by decide +kernel)) <|
    zall_n
theorem met_J4_append_cf1ce {l : Launch} (hl : l.stackTraces = false) {T0 : Nat → Nat → ZTf} (h0 : ∀ a b, zMet l yJ4_append_15ec4 (Cond.code yJ4_append_15ec4 cJ4_append_15ec4 2 (Option.some (Jvm.ClassFile.FieldType.object "java/lang/StringBuilder")) :: zG) (rm_J4_append_15ec4 a b) a b (T0 a b)) {T : ZTf} (bd : zBd (cd_J4_append_cf1ce T0) 2 0 0 T) : zMet l yJ4_append_cf1ce (Cond.code yJ4_append_cf1ce cJ4_append_cf1ce 2 (Option.some (Jvm.ClassFile.FieldType.object "java/lang/AbstractStringBuilder")) :: zG) rm_J4_append_cf1ce 0 0 T := zMet_of hl (by decide +kernel) rfl rfl rfl rfl (hs_J4_append_cf1ce hl h0) bd
