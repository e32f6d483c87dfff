abbrev rm_X4_isClosed : Room := { frames := 1, cells := 0, slots := 0, locals := 30 }
def cd_X4_isClosed : List (Nat × ZTr) := [(0, tAld 0 1), (1, tGetI 7 1 4), (4, tC (zi 2) 5), (5, tIc_eq 16 8), (8, tAld 0 9), (9, tGetI 7 1 12), (12, tC (zi 3) 13), (13, tIc_ne 20 16), (16, tC (zi 1) 17), (17, tGo 21), (20, tC (zi 0) 21), (21, tRi zPz)]
set_option maxRecDepth 100000 in
set_option maxHeartbeats 4000000 in
theorem hs_X4_isClosed {l : Launch} (hl : l.stackTraces = false) (p : Program) (e : Env) (s : State) (m : MethodId) (args : Array Value) (below : List Frame) (meth : Method) (c : Code) (D : va_G) (A : Nat → Prop) (a0 : Nat → Nat) (M0 : ZM) (K : ZRet) (KX : ZEx) (X : zCtx p l rm_X4_isClosed s m args meth c cX4_isClosed RX4 (Cond.code yX4_isClosed cX4_isClosed 1 (Option.some Jvm.ClassFile.FieldType.boolean) :: zG) 1 (Option.some Jvm.ClassFile.FieldType.boolean) D A a0 M0 0 0) (hnm : meth.name = yX4_isClosed.name) (hout : ∀ x ∈ c.exceptionTable.toList, False) : ∀ q ∈ cd_X4_isClosed, zSd p l e rm_X4_isClosed s m args below meth c 1 D A a0 M0 K KX 0 0 q.1 q.2 :=
    zall_c (zs_aload_n X (q := 0) rfl (by decide +kernel)) <|
    zall_c (zs_geti X zc_X4 (by decide) (zin ui_X4) (.tail _ gw_1_142) (by decide +kernel) (by decide +kernel)) <|
    zall_c (zs_iconst X (by decide +kernel)) <|
    zall_c (zs_icmp_eq X (off := 11) (by decide +kernel) (by decide)) <|
    zall_c (zs_aload_n X (q := 0) rfl (by decide +kernel)) <|
    zall_c (zs_geti X zc_X4 (by decide) (zin ui_X4) (.tail _ gw_1_142) (by decide +kernel) (by decide +kernel)) <|
    zall_c (zs_iconst X (by decide +kernel)) <|
    zall_c (zs_icmp_ne X (off := 7) (by decide +kernel) (by decide)) <|
    zall_c (zs_iconst X (by decide +kernel)) <|
    zall_c (zs_goto X (off := 4) (by decide +kernel) (by decide)) <|
    zall_c (zs_iconst X (by decide +kernel)) <|
    zall_c (zs_zret X rfl zR_bool (by decide +kernel)) <|
    zall_n
def T_X4_isClosed : ZTf := zInl cd_X4_isClosed 1 0 0 200
theorem bd_X4_isClosed : zBd cd_X4_isClosed 1 0 0 T_X4_isClosed := zInl_bd
theorem met_X4_isClosed {l : Launch} (hl : l.stackTraces = false) : zMet l yX4_isClosed (Cond.code yX4_isClosed cX4_isClosed 1 (Option.some Jvm.ClassFile.FieldType.boolean) :: zG) rm_X4_isClosed 0 0 T_X4_isClosed := zMet_of hl (by decide +kernel) rfl rfl rfl rfl (hs_X4_isClosed hl) bd_X4_isClosed

abbrev rm_X4_isInWork : Room := { frames := 1, cells := 0, slots := 0, locals := 30 }
def cd_X4_isInWork : List (Nat × ZTr) := [(0, tAld 0 1), (1, tGetR 7 10 4), (4, tIld 1 5), (5, tIal 20 6), (6, tC (zi (-1)) 7), (7, tIc_ne 14 10), (10, tC (zi 1) 11), (11, tGo 15), (14, tC (zi 0) 15), (15, tRi zPz)]
set_option maxRecDepth 100000 in
set_option maxHeartbeats 4000000 in
theorem hs_X4_isInWork {l : Launch} (hl : l.stackTraces = false) (p : Program) (e : Env) (s : State) (m : MethodId) (args : Array Value) (below : List Frame) (meth : Method) (c : Code) (D : va_G) (A : Nat → Prop) (a0 : Nat → Nat) (M0 : ZM) (K : ZRet) (KX : ZEx) (X : zCtx p l rm_X4_isInWork s m args meth c cX4_isInWork RX4 (Cond.code yX4_isInWork cX4_isInWork 2 (Option.some Jvm.ClassFile.FieldType.boolean) :: zG) 2 (Option.some Jvm.ClassFile.FieldType.boolean) D A a0 M0 0 0) (hnm : meth.name = yX4_isInWork.name) (hout : ∀ x ∈ c.exceptionTable.toList, False) : ∀ q ∈ cd_X4_isInWork, zSd p l e rm_X4_isInWork s m args below meth c 2 D A a0 M0 K KX 0 0 q.1 q.2 :=
    zall_c (zs_aload_n X (q := 0) rfl (by decide +kernel)) <|
    zall_c (zs_getr X zc_X4 (by decide) (zin ui_X4) (.tail _ gw_1_171) (by decide +kernel) (by decide +kernel)) <|
    zall_c (zs_iload_n X (q := 1) rfl (by decide +kernel)) <|
    zall_c (zs_iaload20 X (by decide +kernel)) <|
    zall_c (zs_iconst X (by decide +kernel)) <|
    zall_c (zs_icmp_ne X (off := 7) (by decide +kernel) (by decide)) <|
    zall_c (zs_iconst X (by decide +kernel)) <|
    zall_c (zs_goto X (off := 4) (by decide +kernel) (by decide)) <|
    zall_c (zs_iconst X (by decide +kernel)) <|
    zall_c (zs_zret X rfl zR_bool (by decide +kernel)) <|
    zall_n
def T_X4_isInWork : ZTf := zInl cd_X4_isInWork 2 0 0 200
theorem bd_X4_isInWork : zBd cd_X4_isInWork 2 0 0 T_X4_isInWork := zInl_bd
theorem met_X4_isInWork {l : Launch} (hl : l.stackTraces = false) : zMet l yX4_isInWork (Cond.code yX4_isInWork cX4_isInWork 2 (Option.some Jvm.ClassFile.FieldType.boolean) :: zG) rm_X4_isInWork 0 0 T_X4_isInWork := zMet_of hl (by decide +kernel) rfl rfl rfl rfl (hs_X4_isInWork hl) bd_X4_isInWork

abbrev rm_X4_isLateAt : Room := { frames := 2, cells := 0, slots := 0, locals := 51 }
def cd_X4_isLateAt : List (Nat × ZTr) := [(0, tAld 0 1), (1, tIld 1 2), (2, tCall0 2 T_X4_isInWork (zRcv 7) 5), (5, tIf_eq 22 8), (8, tAld 0 9), (9, tGetR 7 11 12), (12, tIld 1 13), (13, tIal 20 14), (14, tIld 2 15), (15, tIc_ge 22 18), (18, tC (zi 1) 19), (19, tGo 23), (22, tC (zi 0) 23), (23, tRi zPz)]
set_option maxRecDepth 100000 in
set_option maxHeartbeats 4000000 in
theorem hs_X4_isLateAt {l : Launch} (hl : l.stackTraces = false) (p : Program) (e : Env) (s : State) (m : MethodId) (args : Array Value) (below : List Frame) (meth : Method) (c : Code) (D : va_G) (A : Nat → Prop) (a0 : Nat → Nat) (M0 : ZM) (K : ZRet) (KX : ZEx) (X : zCtx p l rm_X4_isLateAt s m args meth c cX4_isLateAt RX4 (Cond.code yX4_isLateAt cX4_isLateAt 3 (Option.some Jvm.ClassFile.FieldType.boolean) :: zG) 3 (Option.some Jvm.ClassFile.FieldType.boolean) D A a0 M0 0 0) (hnm : meth.name = yX4_isLateAt.name) (hout : ∀ x ∈ c.exceptionTable.toList, False) : ∀ q ∈ cd_X4_isLateAt, zSd p l e rm_X4_isLateAt s m args below meth c 3 D A a0 M0 K KX 0 0 q.1 q.2 :=
    zall_c (zs_aload_n X (q := 0) rfl (by decide +kernel)) <|
    zall_c (zs_iload_n X (q := 1) rfl (by decide +kernel)) <|
    zall_c (zs_callV0 X zc_X4 (fun _ ht => ⟨(zCB ht gw_5_15 gw_1_6 gw_5_12 rfl rfl (by decide +kernel) (by decide)), (ht _ (.tail _ gw_5_13)), (ht _ (.tail _ gw_5_14))⟩) (met_X4_isInWork hl) hout (by decide +kernel)) <|
    zall_c (zs_if_eq X (off := 17) (by decide +kernel) (by decide)) <|
    zall_c (zs_aload_n X (q := 0) rfl (by decide +kernel)) <|
    zall_c (zs_getr X zc_X4 (by decide) (zin ui_X4) (.tail _ gw_1_175) (by decide +kernel) (by decide +kernel)) <|
    zall_c (zs_iload_n X (q := 1) rfl (by decide +kernel)) <|
    zall_c (zs_iaload20 X (by decide +kernel)) <|
    zall_c (zs_iload_n X (q := 2) rfl (by decide +kernel)) <|
    zall_c (zs_icmp_ge X (off := 7) (by decide +kernel) (by decide)) <|
    zall_c (zs_iconst X (by decide +kernel)) <|
    zall_c (zs_goto X (off := 4) (by decide +kernel) (by decide)) <|
    zall_c (zs_iconst X (by decide +kernel)) <|
    zall_c (zs_zret X rfl zR_bool (by decide +kernel)) <|
    zall_n
def T_X4_isLateAt : ZTf := zInl cd_X4_isLateAt 3 0 0 200
theorem bd_X4_isLateAt : zBd cd_X4_isLateAt 3 0 0 T_X4_isLateAt := zInl_bd
theorem met_X4_isLateAt {l : Launch} (hl : l.stackTraces = false) : zMet l yX4_isLateAt (Cond.code yX4_isLateAt cX4_isLateAt 3 (Option.some Jvm.ClassFile.FieldType.boolean) :: zG) rm_X4_isLateAt 0 0 T_X4_isLateAt := zMet_of hl (by decide +kernel) rfl rfl rfl rfl (hs_X4_isLateAt hl) bd_X4_isLateAt

abbrev rm_X4_takingBy : Room := { frames := 1, cells := 0, slots := 0, locals := 30 }
def cd_X4_takingBy : List (Nat × ZTr) := [(0, tC (zi 0) 1), (1, tIst 2 2), (2, tIld 2 3), (3, tAld 0 4), (4, tGetI 7 8 7), (7, tIc_ge 28 10), (10, tAld 0 11), (11, tGetR 7 9 14), (14, tIld 2 15), (15, tIal 20 16), (16, tIld 1 17), (17, tIc_ne 22 20), (20, tIld 2 21), (21, tRi (fun _ => True)), (22, tInc 2 1 25), (25, tGo 2), (28, tC (zi (-1)) 29), (29, tRi (fun _ => True))]
set_option maxRecDepth 100000 in
set_option maxHeartbeats 4000000 in
theorem hs_X4_takingBy {l : Launch} (hl : l.stackTraces = false) (p : Program) (e : Env) (s : State) (m : MethodId) (args : Array Value) (below : List Frame) (meth : Method) (c : Code) (D : va_G) (A : Nat → Prop) (a0 : Nat → Nat) (M0 : ZM) (K : ZRet) (KX : ZEx) (X : zCtx p l rm_X4_takingBy s m args meth c cX4_takingBy RX4 (Cond.code yX4_takingBy cX4_takingBy 3 (Option.some Jvm.ClassFile.FieldType.int) :: zG) 3 (Option.some Jvm.ClassFile.FieldType.int) D A a0 M0 0 0) (hnm : meth.name = yX4_takingBy.name) (hout : ∀ x ∈ c.exceptionTable.toList, False) : ∀ q ∈ cd_X4_takingBy, zSd p l e rm_X4_takingBy s m args below meth c 3 D A a0 M0 K KX 0 0 q.1 q.2 :=
    zall_c (zs_iconst X (by decide +kernel)) <|
    zall_c (zs_istore_n X (q := 2) rfl (by decide) (by decide +kernel)) <|
    zall_c (zs_iload_n X (q := 2) rfl (by decide +kernel)) <|
    zall_c (zs_aload_n X (q := 0) rfl (by decide +kernel)) <|
    zall_c (zs_geti X zc_X4 (by decide) (zin ui_X4) (.tail _ gw_1_164) (by decide +kernel) (by decide +kernel)) <|
    zall_c (zs_icmp_ge X (off := 21) (by decide +kernel) (by decide)) <|
    zall_c (zs_aload_n X (q := 0) rfl (by decide +kernel)) <|
    zall_c (zs_getr X zc_X4 (by decide) (zin ui_X4) (.tail _ gw_1_167) (by decide +kernel) (by decide +kernel)) <|
    zall_c (zs_iload_n X (q := 2) rfl (by decide +kernel)) <|
    zall_c (zs_iaload20 X (by decide +kernel)) <|
    zall_c (zs_iload_n X (q := 1) rfl (by decide +kernel)) <|
    zall_c (zs_icmp_ne X (off := 5) (by decide +kernel) (by decide)) <|
    zall_c (zs_iload_n X (q := 2) rfl (by decide +kernel)) <|
    zall_c (zs_iret X rfl (by decide +kernel)) <|
    zall_c (zs_iinc X (by decide) (by decide +kernel)) <|
    zall_c (zs_goto X (off := (-23)) (by decide +kernel) (by decide)) <|
    zall_c (zs_iconst X (by decide +kernel)) <|
    zall_c (zs_iret X rfl (by decide +kernel)) <|
    zall_ndef zfind (p : Nat → Bool) : Nat → Nat → Int
  | 0, _ => -1
  | n + 1, i => if p i = true then (i : Int) else zfind p n (i + 1)
def zRow (M : ZM) (R : Nat) : Prop := zW M R 7 ∧ (zR M R 9 = some (R + 1) ∧ zR M R 10 = some (R + 2) ∧ zR M R 11 = some (R + 3)) ∧ (zW M (R + 1) 20 ∧ zLn M (R + 1) = 3) ∧ (zW M (R + 2) 20 ∧ zLn M (R + 2) = 3) ∧ (zW M (R + 3) 20 ∧ zLn M (R + 3) = 3)
def rTakBy (M : ZM) (R : Nat) (w : Int) : Int := zfind (fun i => decide (zI M (R + 1) i = w)) (zI M R 8).toNat 0
def T_X4_takingBy : ZTf := fun av M K _ => ∃ R w, av = [zo R, zi w] ∧ zRow M R ∧ (0 ≤ zI M R 8 ∧ zI M R 8 ≤ 3) ∧ zrg w ∧ (∀ i, i < 3 → zrg (zI M (R + 1) i)) ∧ K (some (zi (rTakBy M R w))) M
theorem bd_X4_takingBy : zBd cd_X4_takingBy 3 0 0 T_X4_takingBy := by
  rintro av M K KX ⟨R, w, rfl, hR, hc, hw, hv, hK⟩
  obtain ⟨hR, ⟨h9, h10, h11⟩, ⟨hA, hAl⟩, -⟩ := hR
  refine ⟨rfl, fun Φ hΦ => ?_⟩
  have loop : ∀ n i : Nat, i + n = (zI M R 8).toNat → K (some (zi (zfind (fun i => decide (zI M (R + 1) i = w)) n i))) M → Φ 2 [some (zo R), some (zi w), some (zi i)] [] M 0 0 := by
    intro n
    induction n with
    | zero =>
      intro i hi hK
      refine zGo hΦ [2] 100 ?_
      refine ⟨hR, ⟨⟨by omega, by omega⟩, by omega, by omega⟩, fun h => ?_, fun h => ?_⟩
      · exact ⟨trivial, hK⟩
      · omega
    | succ n ih =>
      intro i hi hK
      refine zGo hΦ [2] 100 ?_
      refine ⟨hR, ⟨⟨by omega, by omega⟩, by omega, by omega⟩, fun h => ?_, fun h => ?_⟩
      · omega
      · refine ⟨hR, _, h9, ⟨⟨hA.o, by omega, by omega, by omega⟩, ?_⟩⟩
        sorry
  refine zGo hΦ [2] 100 ?_
  exact loop _ 0 (by omega) hK
