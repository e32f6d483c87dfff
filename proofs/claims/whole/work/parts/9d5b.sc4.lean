/-! the rows of the law, on -/
def cd_LW12 : List (Nat × ZTr) := [(872, tAld 1 873), (873, tAld 0 874), (874, tIld 5 876), (876, tC (zi 1) 877), (877, tAdd 878), (878, tIal 20 879), (879, tAld 3 880), (880, tCall 3 1 6 (fun av M K _ => T_L_offers av M K) zAny 883), (883, tIst 6 885), (885, tAld 2 886), (886, tAld 0 887), (887, tIld 5 889), (889, tC (zi 1) 890), (890, tAdd 891), (891, tIal 20 892), (892, tCall 2 0 0 (zNt T_X9_offers) (zRcv 12) 895), (895, tIst 7 897), (897, tAld 2 898), (898, tCall 1 0 0 (zNt T_X9_thrown) (zRcv 12) 901), (901, tIld 6 903), (903, tIc_eq 908 906), (906, tC (zi 0) 907), (907, tRi zPz), (908, tIld 6 910), (910, tIf_ne 925 913), (913, tAld 3 914), (914, tC (zi 0) 915), (915, tLal 916), (916, tIld 7 918), (918, tI2l 919), (919, tLcmp 920), (920, tIf_eq 925 923), (923, tC (zi 0) 924), (924, tRi zPz), (925, tGo 3161)]
set_option maxRecDepth 100000 in
set_option maxHeartbeats 1500000 in
theorem hs_LW12 {l : Launch} (hl : l.stackTraces = false) (p : Program) (e : Env) (s : State) (m : MethodId) (args : Array Value) (below : List Frame) (meth : Method) (c : Code) (D : va_G) (A : Nat → Prop) (a0 : Nat → Nat) (M0 : ZM) (K : ZRet) (KX : ZEx) (mc ms : Nat) (X : zCtx p l room_1 s m args meth c code RL (Cond.initialized RX8 :: zG) 10 (Option.some Jvm.ClassFile.FieldType.boolean) D A a0 M0 mc ms) (hNc : zNc0 s) : ∀ q ∈ cd_LW12, zSd p l e room_1 s m args below meth c 10 D A a0 M0 K KX mc ms q.1 q.2 :=
    zall_c (zs_aload_n X (pc := 872) (q := 1) rfl (by decide +kernel)) <|
    zall_c (zs_aload_n X (pc := 873) (q := 0) rfl (by decide +kernel)) <|
    zall_c (zs_iload X (pc := 874) (by decide +kernel)) <|
    zall_c (zs_iconst X (pc := 876) (by decide) (by decide +kernel)) <|
    zall_c (zs_iadd X (pc := 877) (by decide +kernel)) <|
    zall_c (zs_iaload20 X (pc := 878) (by decide +kernel)) <|
    zall_c (zs_aload_n X (pc := 879) (q := 3) rfl (by decide +kernel)) <|
    zall_c (zs_callSW X (pc := 880) hNc (fun _ ht => zCSW ht gw_6_17 gw_1_0 gw_6_15 gw_6_16 rfl rfl (by decide +kernel) ⟨Nat.le_of_ble_eq_true rfl, Nat.le_of_ble_eq_true rfl⟩) (M_L_offers hl) (by decide +kernel)) <|
    zall_c (zs_istore X (pc := 883) (by decide) (by decide +kernel)) <|
    zall_c (zs_aload_n X (pc := 885) (q := 2) rfl (by decide +kernel)) <|
    zall_c (zs_aload_n X (pc := 886) (q := 0) rfl (by decide +kernel)) <|
    zall_c (zs_iload X (pc := 887) (by decide +kernel)) <|
    zall_c (zs_iconst X (pc := 889) (by decide) (by decide +kernel)) <|
    zall_c (zs_iadd X (pc := 890) (by decide +kernel)) <|
    zall_c (zs_iaload20 X (pc := 891) (by decide +kernel)) <|
    zall_c (zs_callVt X (pc := 892) zc_X9 (fun _ ht => ⟨(zCB ht gw_9_97 gw_1_13 gw_9_94 rfl rfl (by decide +kernel) ⟨Nat.le_of_ble_eq_true rfl, Nat.le_of_ble_eq_true rfl⟩), ht _ (.tail _ gw_9_95), ht _ (.tail _ gw_9_96)⟩) (M_X9_offers hl) (by decide +kernel)) <|
    zall_c (zs_istore X (pc := 895) (by decide) (by decide +kernel)) <|
    zall_c (zs_aload_n X (pc := 897) (q := 2) rfl (by decide +kernel)) <|
    zall_c (zs_callVt X (pc := 898) zc_X9 (fun _ ht => ⟨(zCB ht gw_7_208 gw_1_13 gw_7_205 rfl rfl (by decide +kernel) ⟨Nat.le_of_ble_eq_true rfl, Nat.le_of_ble_eq_true rfl⟩), ht _ (.tail _ gw_7_206), ht _ (.tail _ gw_7_207)⟩) (M_X9_thrown hl) (by decide +kernel)) <|
    zall_c (zs_iload X (pc := 901) (by decide +kernel)) <|
    zall_c (zs_icmp_eq X (pc := 903) (off := 5) (by decide +kernel) (by decide)) <|
    zall_c (zs_iconst X (pc := 906) (by decide) (by decide +kernel)) <|
    zall_c (zs_zret X (pc := 907) rfl zR_bool (by decide +kernel)) <|
    zall_c (zs_iload X (pc := 908) (by decide +kernel)) <|
    zall_c (zs_if_ne X (pc := 910) (off := 15) (by decide +kernel) (by decide)) <|
    zall_c (zs_aload_n X (pc := 913) (q := 3) rfl (by decide +kernel)) <|
    zall_c (zs_iconst X (pc := 914) (by decide) (by decide +kernel)) <|
    zall_c (zs_laload23 X (pc := 915) (by decide +kernel)) <|
    zall_c (zs_iload X (pc := 916) (by decide +kernel)) <|
    zall_c (zs_i2l X (pc := 918) (by decide +kernel)) <|
    zall_c (zs_lcmp X (pc := 919) (by decide +kernel)) <|
    zall_c (zs_if_eq X (pc := 920) (off := 5) (by decide +kernel) (by decide)) <|
    zall_c (zs_iconst X (pc := 923) (by decide) (by decide +kernel)) <|
    zall_c (zs_zret X (pc := 924) rfl zR_bool (by decide +kernel)) <|
    zall_c (zs_goto X (pc := 925) (off := 2236) (by decide +kernel) (by decide)) <|
    zall_n
def cd_LW13 : List (Nat × ZTr) := [(928, tAld 1 929), (929, tAld 0 930), (930, tIld 5 932), (932, tC (zi 1) 933), (933, tAdd 934), (934, tIal 20 935), (935, tAld 3 936), (936, tCall 3 1 6 (fun av M K _ => T_L_nextFor av M K) zAny 939), (939, tIst 6 941), (941, tAld 2 942), (942, tAld 0 943), (943, tIld 5 945), (945, tC (zi 1) 946), (946, tAdd 947), (947, tIal 20 948), (948, tCall 2 0 0 (zNt T_X9_nextFor) (zRcv 12) 951), (951, tIst 7 953), (953, tAld 2 954), (954, tCall 1 0 0 (zNt T_X9_thrown) (zRcv 12) 957), (957, tIld 6 959), (959, tIc_eq 964 962), (962, tC (zi 0) 963), (963, tRi zPz), (964, tIld 6 966), (966, tIf_ne 981 969), (969, tAld 3 970), (970, tC (zi 0) 971), (971, tLal 972), (972, tIld 7 974), (974, tI2l 975), (975, tLcmp 976), (976, tIf_eq 981 979), (979, tC (zi 0) 980), (980, tRi zPz), (981, tGo 3161)]
set_option maxRecDepth 100000 in
set_option maxHeartbeats 1500000 in
theorem hs_LW13 {l : Launch} (hl : l.stackTraces = false) (p : Program) (e : Env) (s : State) (m : MethodId) (args : Array Value) (below : List Frame) (meth : Method) (c : Code) (D : va_G) (A : Nat → Prop) (a0 : Nat → Nat) (M0 : ZM) (K : ZRet) (KX : ZEx) (mc ms : Nat) (X : zCtx p l room_1 s m args meth c code RL (Cond.initialized RX8 :: zG) 10 (Option.some Jvm.ClassFile.FieldType.boolean) D A a0 M0 mc ms) (hNc : zNc0 s) : ∀ q ∈ cd_LW13, zSd p l e room_1 s m args below meth c 10 D A a0 M0 K KX mc ms q.1 q.2 :=
    zall_c (zs_aload_n X (pc := 928) (q := 1) rfl (by decide +kernel)) <|
    zall_c (zs_aload_n X (pc := 929) (q := 0) rfl (by decide +kernel)) <|
    zall_c (zs_iload X (pc := 930) (by decide +kernel)) <|
    zall_c (zs_iconst X (pc := 932) (by decide) (by decide +kernel)) <|
    zall_c (zs_iadd X (pc := 933) (by decide +kernel)) <|
    zall_c (zs_iaload20 X (pc := 934) (by decide +kernel)) <|
    zall_c (zs_aload_n X (pc := 935) (q := 3) rfl (by decide +kernel)) <|
    zall_c (zs_callSW X (pc := 936) hNc (fun _ ht => zCSW ht gw_6_25 gw_1_0 gw_6_23 gw_6_24 rfl rfl (by decide +kernel) ⟨Nat.le_of_ble_eq_true rfl, Nat.le_of_ble_eq_true rfl⟩) (M_L_nextFor hl) (by decide +kernel)) <|
    zall_c (zs_istore X (pc := 939) (by decide) (by decide +kernel)) <|
    zall_c (zs_aload_n X (pc := 941) (q := 2) rfl (by decide +kernel)) <|
    zall_c (zs_aload_n X (pc := 942) (q := 0) rfl (by decide +kernel)) <|
    zall_c (zs_iload X (pc := 943) (by decide +kernel)) <|
    zall_c (zs_iconst X (pc := 945) (by decide) (by decide +kernel)) <|
    zall_c (zs_iadd X (pc := 946) (by decide +kernel)) <|
    zall_c (zs_iaload20 X (pc := 947) (by decide +kernel)) <|
    zall_c (zs_callVt X (pc := 948) zc_X9 (fun _ ht => ⟨(zCB ht gw_9_105 gw_1_13 gw_9_102 rfl rfl (by decide +kernel) ⟨Nat.le_of_ble_eq_true rfl, Nat.le_of_ble_eq_true rfl⟩), ht _ (.tail _ gw_9_103), ht _ (.tail _ gw_9_104)⟩) (M_X9_nextFor hl) (by decide +kernel)) <|
    zall_c (zs_istore X (pc := 951) (by decide) (by decide +kernel)) <|
    zall_c (zs_aload_n X (pc := 953) (q := 2) rfl (by decide +kernel)) <|
    zall_c (zs_callVt X (pc := 954) zc_X9 (fun _ ht => ⟨(zCB ht gw_7_208 gw_1_13 gw_7_205 rfl rfl (by decide +kernel) ⟨Nat.le_of_ble_eq_true rfl, Nat.le_of_ble_eq_true rfl⟩), ht _ (.tail _ gw_7_206), ht _ (.tail _ gw_7_207)⟩) (M_X9_thrown hl) (by decide +kernel)) <|
    zall_c (zs_iload X (pc := 957) (by decide +kernel)) <|
    zall_c (zs_icmp_eq X (pc := 959) (off := 5) (by decide +kernel) (by decide)) <|
    zall_c (zs_iconst X (pc := 962) (by decide) (by decide +kernel)) <|
    zall_c (zs_zret X (pc := 963) rfl zR_bool (by decide +kernel)) <|
    zall_c (zs_iload X (pc := 964) (by decide +kernel)) <|
    zall_c (zs_if_ne X (pc := 966) (off := 15) (by decide +kernel) (by decide)) <|
    zall_c (zs_aload_n X (pc := 969) (q := 3) rfl (by decide +kernel)) <|
    zall_c (zs_iconst X (pc := 970) (by decide) (by decide +kernel)) <|
    zall_c (zs_laload23 X (pc := 971) (by decide +kernel)) <|
    zall_c (zs_iload X (pc := 972) (by decide +kernel)) <|
    zall_c (zs_i2l X (pc := 974) (by decide +kernel)) <|
    zall_c (zs_lcmp X (pc := 975) (by decide +kernel)) <|
    zall_c (zs_if_eq X (pc := 976) (off := 5) (by decide +kernel) (by decide)) <|
    zall_c (zs_iconst X (pc := 979) (by decide) (by decide +kernel)) <|
    zall_c (zs_zret X (pc := 980) rfl zR_bool (by decide +kernel)) <|
    zall_c (zs_goto X (pc := 981) (off := 2180) (by decide +kernel) (by decide)) <|
    zall_n
def cd_LW14 : List (Nat × ZTr) := [(984, tAld 1 985), (985, tAld 0 986), (986, tIld 5 988), (988, tC (zi 1) 989), (989, tAdd 990), (990, tIal 20 991), (991, tAld 3 992), (992, tCall 3 1 6 (fun av M K _ => T_L_takers av M K) zAny 995), (995, tIst 6 997), (997, tAld 2 998), (998, tAld 0 999), (999, tIld 5 1001), (1001, tC (zi 1) 1002), (1002, tAdd 1003), (1003, tIal 20 1004), (1004, tCall 2 0 0 (zNt T_X9_takers) (zRcv 12) 1007), (1007, tIst 7 1009), (1009, tAld 2 1010), (1010, tCall 1 0 0 (zNt T_X9_thrown) (zRcv 12) 1013), (1013, tIld 6 1015), (1015, tIc_eq 1020 1018), (1018, tC (zi 0) 1019), (1019, tRi zPz), (1020, tIld 6 1022), (1022, tIf_ne 1037 1025), (1025, tAld 3 1026), (1026, tC (zi 0) 1027), (1027, tLal 1028), (1028, tIld 7 1030), (1030, tI2l 1031), (1031, tLcmp 1032), (1032, tIf_eq 1037 1035), (1035, tC (zi 0) 1036), (1036, tRi zPz), (1037, tGo 3161)]
set_option maxRecDepth 100000 in
set_option maxHeartbeats 1500000 in
theorem hs_LW14 {l : Launch} (hl : l.stackTraces = false) (p : Program) (e : Env) (s : State) (m : MethodId) (args : Array Value) (below : List Frame) (meth : Method) (c : Code) (D : va_G) (A : Nat → Prop) (a0 : Nat → Nat) (M0 : ZM) (K : ZRet) (KX : ZEx) (mc ms : Nat) (X : zCtx p l room_1 s m args meth c code RL (Cond.initialized RX8 :: zG) 10 (Option.some Jvm.ClassFile.FieldType.boolean) D A a0 M0 mc ms) (hNc : zNc0 s) : ∀ q ∈ cd_LW14, zSd p l e room_1 s m args below meth c 10 D A a0 M0 K KX mc ms q.1 q.2 :=
    zall_c (zs_aload_n X (pc := 984) (q := 1) rfl (by decide +kernel)) <|
    zall_c (zs_aload_n X (pc := 985) (q := 0) rfl (by decide +kernel)) <|
    zall_c (zs_iload X (pc := 986) (by decide +kernel)) <|
    zall_c (zs_iconst X (pc := 988) (by decide) (by decide +kernel)) <|
    zall_c (zs_iadd X (pc := 989) (by decide +kernel)) <|
    zall_c (zs_iaload20 X (pc := 990) (by decide +kernel)) <|
    zall_c (zs_aload_n X (pc := 991) (q := 3) rfl (by decide +kernel)) <|
    zall_c (zs_callSW X (pc := 992) hNc (fun _ ht => zCSW ht gw_6_39 gw_1_0 gw_6_37 gw_6_38 rfl rfl (by decide +kernel) ⟨Nat.le_of_ble_eq_true rfl, Nat.le_of_ble_eq_true rfl⟩) (M_L_takers hl) (by decide +kernel)) <|
    zall_c (zs_istore X (pc := 995) (by decide) (by decide +kernel)) <|
    zall_c (zs_aload_n X (pc := 997) (q := 2) rfl (by decide +kernel)) <|
    zall_c (zs_aload_n X (pc := 998) (q := 0) rfl (by decide +kernel)) <|
    zall_c (zs_iload X (pc := 999) (by decide +kernel)) <|
    zall_c (zs_iconst X (pc := 1001) (by decide) (by decide +kernel)) <|
    zall_c (zs_iadd X (pc := 1002) (by decide +kernel)) <|
    zall_c (zs_iaload20 X (pc := 1003) (by decide +kernel)) <|
    zall_c (zs_callVt X (pc := 1004) zc_X9 (fun _ ht => ⟨(zCB ht gw_9_117 gw_1_13 gw_9_114 rfl rfl (by decide +kernel) ⟨Nat.le_of_ble_eq_true rfl, Nat.le_of_ble_eq_true rfl⟩), ht _ (.tail _ gw_9_115), ht _ (.tail _ gw_9_116)⟩) (M_X9_takers hl) (by decide +kernel)) <|
    zall_c (zs_istore X (pc := 1007) (by decide) (by decide +kernel)) <|
    zall_c (zs_aload_n X (pc := 1009) (q := 2) rfl (by decide +kernel)) <|
    zall_c (zs_callVt X (pc := 1010) zc_X9 (fun _ ht => ⟨(zCB ht gw_7_208 gw_1_13 gw_7_205 rfl rfl (by decide +kernel) ⟨Nat.le_of_ble_eq_true rfl, Nat.le_of_ble_eq_true rfl⟩), ht _ (.tail _ gw_7_206), ht _ (.tail _ gw_7_207)⟩) (M_X9_thrown hl) (by decide +kernel)) <|
    zall_c (zs_iload X (pc := 1013) (by decide +kernel)) <|
    zall_c (zs_icmp_eq X (pc := 1015) (off := 5) (by decide +kernel) (by decide)) <|
    zall_c (zs_iconst X (pc := 1018) (by decide) (by decide +kernel)) <|
    zall_c (zs_zret X (pc := 1019) rfl zR_bool (by decide +kernel)) <|
    zall_c (zs_iload X (pc := 1020) (by decide +kernel)) <|
    zall_c (zs_if_ne X (pc := 1022) (off := 15) (by decide +kernel) (by decide)) <|
    zall_c (zs_aload_n X (pc := 1025) (q := 3) rfl (by decide +kernel)) <|
    zall_c (zs_iconst X (pc := 1026) (by decide) (by decide +kernel)) <|
    zall_c (zs_laload23 X (pc := 1027) (by decide +kernel)) <|
    zall_c (zs_iload X (pc := 1028) (by decide +kernel)) <|
    zall_c (zs_i2l X (pc := 1030) (by decide +kernel)) <|
    zall_c (zs_lcmp X (pc := 1031) (by decide +kernel)) <|
    zall_c (zs_if_eq X (pc := 1032) (off := 5) (by decide +kernel) (by decide)) <|
    zall_c (zs_iconst X (pc := 1035) (by decide) (by decide +kernel)) <|
    zall_c (zs_zret X (pc := 1036) rfl zR_bool (by decide +kernel)) <|
    zall_c (zs_goto X (pc := 1037) (off := 2124) (by decide +kernel) (by decide)) <|
    zall_n
def cd_LW15 : List (Nat × ZTr) := [(1040, tAld 1 1041), (1041, tAld 0 1042), (1042, tIld 5 1044), (1044, tC (zi 1) 1045), (1045, tAdd 1046), (1046, tIal 20 1047), (1047, tAld 3 1048), (1048, tCall 3 1 6 (fun av M K _ => T_L_isStuck av M K) zAny 1051), (1051, tIst 6 1053), (1053, tAld 2 1054), (1054, tAld 0 1055), (1055, tIld 5 1057), (1057, tC (zi 1) 1058), (1058, tAdd 1059), (1059, tIal 20 1060), (1060, tCall 2 0 0 (zNt T_X9_isStuck) (zRcv 12) 1063), (1063, tIst 7 1065), (1065, tAld 2 1066), (1066, tCall 1 0 0 (zNt T_X9_thrown) (zRcv 12) 1069), (1069, tIld 6 1071), (1071, tIc_eq 1076 1074), (1074, tC (zi 0) 1075), (1075, tRi zPz), (1076, tIld 6 1078), (1078, tIf_ne 1100 1081), (1081, tAld 3 1082), (1082, tC (zi 0) 1083), (1083, tLal 1084), (1084, tIld 7 1086), (1086, tIf_eq 1093 1089), (1089, tC (zl 1) 1090), (1090, tGo 1094), (1093, tC (zl 0) 1094), (1094, tLcmp 1095), (1095, tIf_eq 1100 1098), (1098, tC (zi 0) 1099), (1099, tRi zPz), (1100, tGo 3161)]
set_option maxRecDepth 100000 in
set_option maxHeartbeats 1500000 in
theorem hs_LW15 {l : Launch} (hl : l.stackTraces = false) (p : Program) (e : Env) (s : State) (m : MethodId) (args : Array Value) (below : List Frame) (meth : Method) (c : Code) (D : va_G) (A : Nat → Prop) (a0 : Nat → Nat) (M0 : ZM) (K : ZRet) (KX : ZEx) (mc ms : Nat) (X : zCtx p l room_1 s m args meth c code RL (Cond.initialized RX8 :: zG) 10 (Option.some Jvm.ClassFile.FieldType.boolean) D A a0 M0 mc ms) (hNc : zNc0 s) : ∀ q ∈ cd_LW15, zSd p l e room_1 s m args below meth c 10 D A a0 M0 K KX mc ms q.1 q.2 :=
    zall_c (zs_aload_n X (pc := 1040) (q := 1) rfl (by decide +kernel)) <|
    zall_c (zs_aload_n X (pc := 1041) (q := 0) rfl (by decide +kernel)) <|
    zall_c (zs_iload X (pc := 1042) (by decide +kernel)) <|
    zall_c (zs_iconst X (pc := 1044) (by decide) (by decide +kernel)) <|
    zall_c (zs_iadd X (pc := 1045) (by decide +kernel)) <|
    zall_c (zs_iaload20 X (pc := 1046) (by decide +kernel)) <|
    zall_c (zs_aload_n X (pc := 1047) (q := 3) rfl (by decide +kernel)) <|
    zall_c (zs_callSW X (pc := 1048) hNc (fun _ ht => zCSW ht gw_6_50 gw_1_0 gw_6_48 gw_6_49 rfl rfl (by decide +kernel) ⟨Nat.le_of_ble_eq_true rfl, Nat.le_of_ble_eq_true rfl⟩) (M_L_isStuck hl) (by decide +kernel)) <|
    zall_c (zs_istore X (pc := 1051) (by decide) (by decide +kernel)) <|
    zall_c (zs_aload_n X (pc := 1053) (q := 2) rfl (by decide +kernel)) <|
    zall_c (zs_aload_n X (pc := 1054) (q := 0) rfl (by decide +kernel)) <|
    zall_c (zs_iload X (pc := 1055) (by decide +kernel)) <|
    zall_c (zs_iconst X (pc := 1057) (by decide) (by decide +kernel)) <|
    zall_c (zs_iadd X (pc := 1058) (by decide +kernel)) <|
    zall_c (zs_iaload20 X (pc := 1059) (by decide +kernel)) <|
    zall_c (zs_callVt X (pc := 1060) zc_X9 (fun _ ht => ⟨(zCB ht gw_9_121 gw_1_13 gw_9_118 rfl rfl (by decide +kernel) ⟨Nat.le_of_ble_eq_true rfl, Nat.le_of_ble_eq_true rfl⟩), ht _ (.tail _ gw_9_119), ht _ (.tail _ gw_9_120)⟩) (M_X9_isStuck hl) (by decide +kernel)) <|
    zall_c (zs_istore X (pc := 1063) (by decide) (by decide +kernel)) <|
    zall_c (zs_aload_n X (pc := 1065) (q := 2) rfl (by decide +kernel)) <|
    zall_c (zs_callVt X (pc := 1066) zc_X9 (fun _ ht => ⟨(zCB ht gw_7_208 gw_1_13 gw_7_205 rfl rfl (by decide +kernel) ⟨Nat.le_of_ble_eq_true rfl, Nat.le_of_ble_eq_true rfl⟩), ht _ (.tail _ gw_7_206), ht _ (.tail _ gw_7_207)⟩) (M_X9_thrown hl) (by decide +kernel)) <|
    zall_c (zs_iload X (pc := 1069) (by decide +kernel)) <|
    zall_c (zs_icmp_eq X (pc := 1071) (off := 5) (by decide +kernel) (by decide)) <|
    zall_c (zs_iconst X (pc := 1074) (by decide) (by decide +kernel)) <|
    zall_c (zs_zret X (pc := 1075) rfl zR_bool (by decide +kernel)) <|
    zall_c (zs_iload X (pc := 1076) (by decide +kernel)) <|
    zall_c (zs_if_ne X (pc := 1078) (off := 22) (by decide +kernel) (by decide)) <|
    zall_c (zs_aload_n X (pc := 1081) (q := 3) rfl (by decide +kernel)) <|
    zall_c (zs_iconst X (pc := 1082) (by decide) (by decide +kernel)) <|
    zall_c (zs_laload23 X (pc := 1083) (by decide +kernel)) <|
    zall_c (zs_iload X (pc := 1084) (by decide +kernel)) <|
    zall_c (zs_if_eq X (pc := 1086) (off := 7) (by decide +kernel) (by decide)) <|
    zall_c (zs_lconst X (pc := 1089) (q := 1) (by decide) (by decide +kernel) rfl) <|
    zall_c (zs_goto X (pc := 1090) (off := 4) (by decide +kernel) (by decide)) <|
    zall_c (zs_lconst X (pc := 1093) (q := 0) (by decide) (by decide +kernel) rfl) <|
    zall_c (zs_lcmp X (pc := 1094) (by decide +kernel)) <|
    zall_c (zs_if_eq X (pc := 1095) (off := 5) (by decide +kernel) (by decide)) <|
    zall_c (zs_iconst X (pc := 1098) (by decide) (by decide +kernel)) <|
    zall_c (zs_zret X (pc := 1099) rfl zR_bool (by decide +kernel)) <|
    zall_c (zs_goto X (pc := 1100) (off := 2061) (by decide +kernel) (by decide)) <|
    zall_n
def cd_LW16 : List (Nat × ZTr) := [(1103, tAld 1 1104), (1104, tAld 0 1105), (1105, tIld 5 1107), (1107, tC (zi 1) 1108), (1108, tAdd 1109), (1109, tIal 20 1110), (1110, tAld 3 1111), (1111, tCall 3 1 6 (fun av M K _ => T_L_bestPair av M K) zAny 1114), (1114, tIst 6 1116), (1116, tAld 2 1117), (1117, tAld 0 1118), (1118, tIld 5 1120), (1120, tC (zi 1) 1121), (1121, tAdd 1122), (1122, tIal 20 1123), (1123, tCall 2 0 0 (zNt T_X9_bestPair) (zRcv 12) 1126), (1126, tIst 7 1128), (1128, tAld 2 1129), (1129, tCall 1 0 0 (zNt T_X9_thrown) (zRcv 12) 1132), (1132, tIld 6 1134), (1134, tIc_eq 1139 1137), (1137, tC (zi 0) 1138), (1138, tRi zPz), (1139, tIld 6 1141), (1141, tIf_ne 1156 1144), (1144, tAld 3 1145), (1145, tC (zi 0) 1146), (1146, tLal 1147), (1147, tIld 7 1149), (1149, tI2l 1150), (1150, tLcmp 1151), (1151, tIf_eq 1156 1154), (1154, tC (zi 0) 1155), (1155, tRi zPz), (1156, tGo 3161)]
set_option maxRecDepth 100000 in
set_option maxHeartbeats 1500000 in
theorem hs_LW16 {l : Launch} (hl : l.stackTraces = false) (p : Program) (e : Env) (s : State) (m : MethodId) (args : Array Value) (below : List Frame) (meth : Method) (c : Code) (D : va_G) (A : Nat → Prop) (a0 : Nat → Nat) (M0 : ZM) (K : ZRet) (KX : ZEx) (mc ms : Nat) (X : zCtx p l room_1 s m args meth c code RL (Cond.initialized RX8 :: zG) 10 (Option.some Jvm.ClassFile.FieldType.boolean) D A a0 M0 mc ms) (hNc : zNc0 s) : ∀ q ∈ cd_LW16, zSd p l e room_1 s m args below meth c 10 D A a0 M0 K KX mc ms q.1 q.2 :=
    zall_c (zs_aload_n X (pc := 1103) (q := 1) rfl (by decide +kernel)) <|
    zall_c (zs_aload_n X (pc := 1104) (q := 0) rfl (by decide +kernel)) <|
    zall_c (zs_iload X (pc := 1105) (by decide +kernel)) <|
    zall_c (zs_iconst X (pc := 1107) (by decide) (by decide +kernel)) <|
    zall_c (zs_iadd X (pc := 1108) (by decide +kernel)) <|
    zall_c (zs_iaload20 X (pc := 1109) (by decide +kernel)) <|
    zall_c (zs_aload_n X (pc := 1110) (q := 3) rfl (by decide +kernel)) <|
    zall_c (zs_callSW X (pc := 1111) hNc (fun _ ht => zCSW ht gw_6_57 gw_1_0 gw_6_55 gw_6_56 rfl rfl (by decide +kernel) ⟨Nat.le_of_ble_eq_true rfl, Nat.le_of_ble_eq_true rfl⟩) (M_L_bestPair hl) (by decide +kernel)) <|
    zall_c (zs_istore X (pc := 1114) (by decide) (by decide +kernel)) <|
    zall_c (zs_aload_n X (pc := 1116) (q := 2) rfl (by decide +kernel)) <|
    zall_c (zs_aload_n X (pc := 1117) (q := 0) rfl (by decide +kernel)) <|
    zall_c (zs_iload X (pc := 1118) (by decide +kernel)) <|
    zall_c (zs_iconst X (pc := 1120) (by decide) (by decide +kernel)) <|
    zall_c (zs_iadd X (pc := 1121) (by decide +kernel)) <|
    zall_c (zs_iaload20 X (pc := 1122) (by decide +kernel)) <|
    zall_c (zs_callVt X (pc := 1123) zc_X9 (fun _ ht => ⟨(zCB ht gw_9_129 gw_1_13 gw_9_126 rfl rfl (by decide +kernel) ⟨Nat.le_of_ble_eq_true rfl, Nat.le_of_ble_eq_true rfl⟩), ht _ (.tail _ gw_9_127), ht _ (.tail _ gw_9_128)⟩) (M_X9_bestPair hl) (by decide +kernel)) <|
    zall_c (zs_istore X (pc := 1126) (by decide) (by decide +kernel)) <|
    zall_c (zs_aload_n X (pc := 1128) (q := 2) rfl (by decide +kernel)) <|
    zall_c (zs_callVt X (pc := 1129) zc_X9 (fun _ ht => ⟨(zCB ht gw_7_208 gw_1_13 gw_7_205 rfl rfl (by decide +kernel) ⟨Nat.le_of_ble_eq_true rfl, Nat.le_of_ble_eq_true rfl⟩), ht _ (.tail _ gw_7_206), ht _ (.tail _ gw_7_207)⟩) (M_X9_thrown hl) (by decide +kernel)) <|
    zall_c (zs_iload X (pc := 1132) (by decide +kernel)) <|
    zall_c (zs_icmp_eq X (pc := 1134) (off := 5) (by decide +kernel) (by decide)) <|
    zall_c (zs_iconst X (pc := 1137) (by decide) (by decide +kernel)) <|
    zall_c (zs_zret X (pc := 1138) rfl zR_bool (by decide +kernel)) <|
    zall_c (zs_iload X (pc := 1139) (by decide +kernel)) <|
    zall_c (zs_if_ne X (pc := 1141) (off := 15) (by decide +kernel) (by decide)) <|
    zall_c (zs_aload_n X (pc := 1144) (q := 3) rfl (by decide +kernel)) <|
    zall_c (zs_iconst X (pc := 1145) (by decide) (by decide +kernel)) <|
    zall_c (zs_laload23 X (pc := 1146) (by decide +kernel)) <|
    zall_c (zs_iload X (pc := 1147) (by decide +kernel)) <|
    zall_c (zs_i2l X (pc := 1149) (by decide +kernel)) <|
    zall_c (zs_lcmp X (pc := 1150) (by decide +kernel)) <|
    zall_c (zs_if_eq X (pc := 1151) (off := 5) (by decide +kernel) (by decide)) <|
    zall_c (zs_iconst X (pc := 1154) (by decide) (by decide +kernel)) <|
    zall_c (zs_zret X (pc := 1155) rfl zR_bool (by decide +kernel)) <|
    zall_c (zs_goto X (pc := 1156) (off := 2005) (by decide +kernel) (by decide)) <|
    zall_n
def cd_LW17 : List (Nat × ZTr) := [(1159, tAld 1 1160), (1160, tCall 1 1 6 (zNt T_X8_mostTakings) (zRcv 11) 1163), (1163, tAld 2 1164), (1164, tCall 1 0 0 (zNt T_X9_mostTakings) (zRcv 12) 1167), (1167, tIc_eq 3161 1170), (1170, tC (zi 0) 1171), (1171, tRi zPz)]
set_option maxRecDepth 100000 in
set_option maxHeartbeats 1500000 in
theorem hs_LW17 {l : Launch} (hl : l.stackTraces = false) (p : Program) (e : Env) (s : State) (m : MethodId) (args : Array Value) (below : List Frame) (meth : Method) (c : Code) (D : va_G) (A : Nat → Prop) (a0 : Nat → Nat) (M0 : ZM) (K : ZRet) (KX : ZEx) (mc ms : Nat) (X : zCtx p l room_1 s m args meth c code RL (Cond.initialized RX8 :: zG) 10 (Option.some Jvm.ClassFile.FieldType.boolean) D A a0 M0 mc ms) (hNc : zNc0 s) : ∀ q ∈ cd_LW17, zSd p l e room_1 s m args below meth c 10 D A a0 M0 K KX mc ms q.1 q.2 :=
    zall_c (zs_aload_n X (pc := 1159) (q := 1) rfl (by decide +kernel)) <|
    zall_c (zs_callVt X (pc := 1160) zc_X8 (fun _ ht => ⟨(zCB ht gw_5_4 gw_1_1 gw_5_1 rfl rfl (by decide +kernel) ⟨Nat.le_of_ble_eq_true rfl, Nat.le_of_ble_eq_true rfl⟩), ht _ (.tail _ gw_5_2), ht _ (.tail _ gw_5_3)⟩) (M_X8_mostTakings hl) (by decide +kernel)) <|
    zall_c (zs_aload_n X (pc := 1163) (q := 2) rfl (by decide +kernel)) <|
    zall_c (zs_callVt X (pc := 1164) zc_X9 (fun _ ht => ⟨(zCB ht gw_9_137 gw_1_13 gw_9_134 rfl rfl (by decide +kernel) ⟨Nat.le_of_ble_eq_true rfl, Nat.le_of_ble_eq_true rfl⟩), ht _ (.tail _ gw_9_135), ht _ (.tail _ gw_9_136)⟩) (M_X9_mostTakings hl) (by decide +kernel)) <|
    zall_c (zs_icmp_eq X (pc := 1167) (off := 1994) (by decide +kernel) (by decide)) <|
    zall_c (zs_iconst X (pc := 1170) (by decide) (by decide +kernel)) <|
    zall_c (zs_zret X (pc := 1171) rfl zR_bool (by decide +kernel)) <|
    zall_n
def cd_LW18 : List (Nat × ZTr) := [(1172, tAld 1 1173), (1173, tAld 0 1174), (1174, tIld 5 1176), (1176, tC (zi 1) 1177), (1177, tAdd 1178), (1178, tIal 20 1179), (1179, tAld 0 1180), (1180, tIld 5 1182), (1182, tC (zi 2) 1183), (1183, tAdd 1184), (1184, tIal 20 1185), (1185, tAld 3 1186), (1186, tCall 4 2 12 (fun av M K _ => T_L_strikes av M K) zAny 1189), (1189, tIst 6 1191), (1191, tAld 2 1192), (1192, tAld 0 1193), (1193, tIld 5 1195), (1195, tC (zi 1) 1196), (1196, tAdd 1197), (1197, tIal 20 1198), (1198, tAld 0 1199), (1199, tIld 5 1201), (1201, tC (zi 2) 1202), (1202, tAdd 1203), (1203, tIal 20 1204), (1204, tCall 3 0 0 (zNt T_X9_strikes) (zRcv 12) 1207), (1207, tIst 7 1209), (1209, tAld 2 1210), (1210, tCall 1 0 0 (zNt T_X9_thrown) (zRcv 12) 1213), (1213, tIld 6 1215), (1215, tIc_eq 1220 1218), (1218, tC (zi 0) 1219), (1219, tRi zPz), (1220, tIld 6 1222), (1222, tIf_ne 1237 1225), (1225, tAld 3 1226), (1226, tC (zi 0) 1227), (1227, tLal 1228), (1228, tIld 7 1230), (1230, tI2l 1231), (1231, tLcmp 1232), (1232, tIf_eq 1237 1235), (1235, tC (zi 0) 1236), (1236, tRi zPz), (1237, tGo 3161)]
set_option maxRecDepth 100000 in
set_option maxHeartbeats 1500000 in
theorem hs_LW18 {l : Launch} (hl : l.stackTraces = false) (p : Program) (e : Env) (s : State) (m : MethodId) (args : Array Value) (below : List Frame) (meth : Method) (c : Code) (D : va_G) (A : Nat → Prop) (a0 : Nat → Nat) (M0 : ZM) (K : ZRet) (KX : ZEx) (mc ms : Nat) (X : zCtx p l room_1 s m args meth c code RL (Cond.initialized RX8 :: zG) 10 (Option.some Jvm.ClassFile.FieldType.boolean) D A a0 M0 mc ms) (hNc : zNc0 s) : ∀ q ∈ cd_LW18, zSd p l e room_1 s m args below meth c 10 D A a0 M0 K KX mc ms q.1 q.2 :=
    zall_c (zs_aload_n X (pc := 1172) (q := 1) rfl (by decide +kernel)) <|
    zall_c (zs_aload_n X (pc := 1173) (q := 0) rfl (by decide +kernel)) <|
    zall_c (zs_iload X (pc := 1174) (by decide +kernel)) <|
    zall_c (zs_iconst X (pc := 1176) (by decide) (by decide +kernel)) <|
    zall_c (zs_iadd X (pc := 1177) (by decide +kernel)) <|
    zall_c (zs_iaload20 X (pc := 1178) (by decide +kernel)) <|
    zall_c (zs_aload_n X (pc := 1179) (q := 0) rfl (by decide +kernel)) <|
    zall_c (zs_iload X (pc := 1180) (by decide +kernel)) <|
    zall_c (zs_iconst X (pc := 1182) (by decide) (by decide +kernel)) <|
    zall_c (zs_iadd X (pc := 1183) (by decide +kernel)) <|
    zall_c (zs_iaload20 X (pc := 1184) (by decide +kernel)) <|
    zall_c (zs_aload_n X (pc := 1185) (q := 3) rfl (by decide +kernel)) <|
    zall_c (zs_callSW X (pc := 1186) hNc (fun _ ht => zCSW ht gw_6_72 gw_1_0 gw_6_70 gw_6_71 rfl rfl (by decide +kernel) ⟨Nat.le_of_ble_eq_true rfl, Nat.le_of_ble_eq_true rfl⟩) (M_L_strikes hl) (by decide +kernel)) <|
    zall_c (zs_istore X (pc := 1189) (by decide) (by decide +kernel)) <|
    zall_c (zs_aload_n X (pc := 1191) (q := 2) rfl (by decide +kernel)) <|
    zall_c (zs_aload_n X (pc := 1192) (q := 0) rfl (by decide +kernel)) <|
    zall_c (zs_iload X (pc := 1193) (by decide +kernel)) <|
    zall_c (zs_iconst X (pc := 1195) (by decide) (by decide +kernel)) <|
    zall_c (zs_iadd X (pc := 1196) (by decide +kernel)) <|
    zall_c (zs_iaload20 X (pc := 1197) (by decide +kernel)) <|
    zall_c (zs_aload_n X (pc := 1198) (q := 0) rfl (by decide +kernel)) <|
    zall_c (zs_iload X (pc := 1199) (by decide +kernel)) <|
    zall_c (zs_iconst X (pc := 1201) (by decide) (by decide +kernel)) <|
    zall_c (zs_iadd X (pc := 1202) (by decide +kernel)) <|
    zall_c (zs_iaload20 X (pc := 1203) (by decide +kernel)) <|
    zall_c (zs_callVt X (pc := 1204) zc_X9 (fun _ ht => ⟨(zCB ht gw_9_145 gw_1_13 gw_9_142 rfl rfl (by decide +kernel) ⟨Nat.le_of_ble_eq_true rfl, Nat.le_of_ble_eq_true rfl⟩), ht _ (.tail _ gw_9_143), ht _ (.tail _ gw_9_144)⟩) (M_X9_strikes hl) (by decide +kernel)) <|
    zall_c (zs_istore X (pc := 1207) (by decide) (by decide +kernel)) <|
    zall_c (zs_aload_n X (pc := 1209) (q := 2) rfl (by decide +kernel)) <|
    zall_c (zs_callVt X (pc := 1210) zc_X9 (fun _ ht => ⟨(zCB ht gw_7_208 gw_1_13 gw_7_205 rfl rfl (by decide +kernel) ⟨Nat.le_of_ble_eq_true rfl, Nat.le_of_ble_eq_true rfl⟩), ht _ (.tail _ gw_7_206), ht _ (.tail _ gw_7_207)⟩) (M_X9_thrown hl) (by decide +kernel)) <|
    zall_c (zs_iload X (pc := 1213) (by decide +kernel)) <|
    zall_c (zs_icmp_eq X (pc := 1215) (off := 5) (by decide +kernel) (by decide)) <|
    zall_c (zs_iconst X (pc := 1218) (by decide) (by decide +kernel)) <|
    zall_c (zs_zret X (pc := 1219) rfl zR_bool (by decide +kernel)) <|
    zall_c (zs_iload X (pc := 1220) (by decide +kernel)) <|
    zall_c (zs_if_ne X (pc := 1222) (off := 15) (by decide +kernel) (by decide)) <|
    zall_c (zs_aload_n X (pc := 1225) (q := 3) rfl (by decide +kernel)) <|
    zall_c (zs_iconst X (pc := 1226) (by decide) (by decide +kernel)) <|
    zall_c (zs_laload23 X (pc := 1227) (by decide +kernel)) <|
    zall_c (zs_iload X (pc := 1228) (by decide +kernel)) <|
    zall_c (zs_i2l X (pc := 1230) (by decide +kernel)) <|
    zall_c (zs_lcmp X (pc := 1231) (by decide +kernel)) <|
    zall_c (zs_if_eq X (pc := 1232) (off := 5) (by decide +kernel) (by decide)) <|
    zall_c (zs_iconst X (pc := 1235) (by decide) (by decide +kernel)) <|
    zall_c (zs_zret X (pc := 1236) rfl zR_bool (by decide +kernel)) <|
    zall_c (zs_goto X (pc := 1237) (off := 1924) (by decide +kernel) (by decide)) <|
    zall_n
def cd_LW19 : List (Nat × ZTr) := [(1240, tAld 1 1241), (1241, tAld 0 1242), (1242, tIld 5 1244), (1244, tC (zi 1) 1245), (1245, tAdd 1246), (1246, tIal 20 1247), (1247, tAld 0 1248), (1248, tIld 5 1250), (1250, tC (zi 2) 1251), (1251, tAdd 1252), (1252, tIal 20 1253), (1253, tAld 3 1254), (1254, tCall 4 2 12 (fun av M K _ => T_L_isBarred av M K) zAny 1257), (1257, tIst 6 1259), (1259, tAld 2 1260), (1260, tAld 0 1261), (1261, tIld 5 1263), (1263, tC (zi 1) 1264), (1264, tAdd 1265), (1265, tIal 20 1266), (1266, tAld 0 1267), (1267, tIld 5 1269), (1269, tC (zi 2) 1270), (1270, tAdd 1271), (1271, tIal 20 1272), (1272, tCall 3 0 0 (zNt T_X9_isBarred) (zRcv 12) 1275), (1275, tIst 7 1277), (1277, tAld 2 1278), (1278, tCall 1 0 0 (zNt T_X9_thrown) (zRcv 12) 1281), (1281, tIld 6 1283), (1283, tIc_eq 1288 1286), (1286, tC (zi 0) 1287), (1287, tRi zPz), (1288, tIld 6 1290), (1290, tIf_ne 1312 1293), (1293, tAld 3 1294), (1294, tC (zi 0) 1295), (1295, tLal 1296), (1296, tIld 7 1298), (1298, tIf_eq 1305 1301), (1301, tC (zl 1) 1302), (1302, tGo 1306), (1305, tC (zl 0) 1306), (1306, tLcmp 1307), (1307, tIf_eq 1312 1310), (1310, tC (zi 0) 1311), (1311, tRi zPz), (1312, tGo 3161)]
set_option maxRecDepth 100000 in
set_option maxHeartbeats 1500000 in
theorem hs_LW19 {l : Launch} (hl : l.stackTraces = false) (p : Program) (e : Env) (s : State) (m : MethodId) (args : Array Value) (below : List Frame) (meth : Method) (c : Code) (D : va_G) (A : Nat → Prop) (a0 : Nat → Nat) (M0 : ZM) (K : ZRet) (KX : ZEx) (mc ms : Nat) (X : zCtx p l room_1 s m args meth c code RL (Cond.initialized RX8 :: zG) 10 (Option.some Jvm.ClassFile.FieldType.boolean) D A a0 M0 mc ms) (hNc : zNc0 s) : ∀ q ∈ cd_LW19, zSd p l e room_1 s m args below meth c 10 D A a0 M0 K KX mc ms q.1 q.2 :=
    zall_c (zs_aload_n X (pc := 1240) (q := 1) rfl (by decide +kernel)) <|
    zall_c (zs_aload_n X (pc := 1241) (q := 0) rfl (by decide +kernel)) <|
    zall_c (zs_iload X (pc := 1242) (by decide +kernel)) <|
    zall_c (zs_iconst X (pc := 1244) (by decide) (by decide +kernel)) <|
    zall_c (zs_iadd X (pc := 1245) (by decide +kernel)) <|
    zall_c (zs_iaload20 X (pc := 1246) (by decide +kernel)) <|
    zall_c (zs_aload_n X (pc := 1247) (q := 0) rfl (by decide +kernel)) <|
    zall_c (zs_iload X (pc := 1248) (by decide +kernel)) <|
    zall_c (zs_iconst X (pc := 1250) (by decide) (by decide +kernel)) <|
    zall_c (zs_iadd X (pc := 1251) (by decide +kernel)) <|
    zall_c (zs_iaload20 X (pc := 1252) (by decide +kernel)) <|
    zall_c (zs_aload_n X (pc := 1253) (q := 3) rfl (by decide +kernel)) <|
    zall_c (zs_callSW X (pc := 1254) hNc (fun _ ht => zCSW ht gw_6_80 gw_1_0 gw_6_78 gw_6_79 rfl rfl (by decide +kernel) ⟨Nat.le_of_ble_eq_true rfl, Nat.le_of_ble_eq_true rfl⟩) (M_L_isBarred hl) (by decide +kernel)) <|
    zall_c (zs_istore X (pc := 1257) (by decide) (by decide +kernel)) <|
    zall_c (zs_aload_n X (pc := 1259) (q := 2) rfl (by decide +kernel)) <|
    zall_c (zs_aload_n X (pc := 1260) (q := 0) rfl (by decide +kernel)) <|
    zall_c (zs_iload X (pc := 1261) (by decide +kernel)) <|
    zall_c (zs_iconst X (pc := 1263) (by decide) (by decide +kernel)) <|
    zall_c (zs_iadd X (pc := 1264) (by decide +kernel)) <|
    zall_c (zs_iaload20 X (pc := 1265) (by decide +kernel)) <|
    zall_c (zs_aload_n X (pc := 1266) (q := 0) rfl (by decide +kernel)) <|
    zall_c (zs_iload X (pc := 1267) (by decide +kernel)) <|
    zall_c (zs_iconst X (pc := 1269) (by decide) (by decide +kernel)) <|
    zall_c (zs_iadd X (pc := 1270) (by decide +kernel)) <|
    zall_c (zs_iaload20 X (pc := 1271) (by decide +kernel)) <|
    zall_c (zs_callVt X (pc := 1272) zc_X9 (fun _ ht => ⟨(zCB ht gw_9_153 gw_1_13 gw_9_150 rfl rfl (by decide +kernel) ⟨Nat.le_of_ble_eq_true rfl, Nat.le_of_ble_eq_true rfl⟩), ht _ (.tail _ gw_9_151), ht _ (.tail _ gw_9_152)⟩) (M_X9_isBarred hl) (by decide +kernel)) <|
    zall_c (zs_istore X (pc := 1275) (by decide) (by decide +kernel)) <|
    zall_c (zs_aload_n X (pc := 1277) (q := 2) rfl (by decide +kernel)) <|
    zall_c (zs_callVt X (pc := 1278) zc_X9 (fun _ ht => ⟨(zCB ht gw_7_208 gw_1_13 gw_7_205 rfl rfl (by decide +kernel) ⟨Nat.le_of_ble_eq_true rfl, Nat.le_of_ble_eq_true rfl⟩), ht _ (.tail _ gw_7_206), ht _ (.tail _ gw_7_207)⟩) (M_X9_thrown hl) (by decide +kernel)) <|
    zall_c (zs_iload X (pc := 1281) (by decide +kernel)) <|
    zall_c (zs_icmp_eq X (pc := 1283) (off := 5) (by decide +kernel) (by decide)) <|
    zall_c (zs_iconst X (pc := 1286) (by decide) (by decide +kernel)) <|
    zall_c (zs_zret X (pc := 1287) rfl zR_bool (by decide +kernel)) <|
    zall_c (zs_iload X (pc := 1288) (by decide +kernel)) <|
    zall_c (zs_if_ne X (pc := 1290) (off := 22) (by decide +kernel) (by decide)) <|
    zall_c (zs_aload_n X (pc := 1293) (q := 3) rfl (by decide +kernel)) <|
    zall_c (zs_iconst X (pc := 1294) (by decide) (by decide +kernel)) <|
    zall_c (zs_laload23 X (pc := 1295) (by decide +kernel)) <|
    zall_c (zs_iload X (pc := 1296) (by decide +kernel)) <|
    zall_c (zs_if_eq X (pc := 1298) (off := 7) (by decide +kernel) (by decide)) <|
    zall_c (zs_lconst X (pc := 1301) (q := 1) (by decide) (by decide +kernel) rfl) <|
    zall_c (zs_goto X (pc := 1302) (off := 4) (by decide +kernel) (by decide)) <|
    zall_c (zs_lconst X (pc := 1305) (q := 0) (by decide) (by decide +kernel) rfl) <|
    zall_c (zs_lcmp X (pc := 1306) (by decide +kernel)) <|
    zall_c (zs_if_eq X (pc := 1307) (off := 5) (by decide +kernel) (by decide)) <|
    zall_c (zs_iconst X (pc := 1310) (by decide) (by decide +kernel)) <|
    zall_c (zs_zret X (pc := 1311) rfl zR_bool (by decide +kernel)) <|
    zall_c (zs_goto X (pc := 1312) (off := 1849) (by decide +kernel) (by decide)) <|
    zall_n
def cd_LW20 : List (Nat × ZTr) := [(1315, tAld 1 1316), (1316, tAld 0 1317), (1317, tIld 5 1319), (1319, tC (zi 1) 1320), (1320, tAdd 1321), (1321, tIal 20 1322), (1322, tAld 0 1323), (1323, tIld 5 1325), (1325, tC (zi 2) 1326), (1326, tAdd 1327), (1327, tIal 20 1328), (1328, tAld 3 1329), (1329, tCall 4 2 12 (fun av M K _ => T_L_agreeing av M K) zAny 1332), (1332, tIst 6 1334), (1334, tAld 2 1335), (1335, tAld 0 1336), (1336, tIld 5 1338), (1338, tC (zi 1) 1339), (1339, tAdd 1340), (1340, tIal 20 1341), (1341, tAld 0 1342), (1342, tIld 5 1344), (1344, tC (zi 2) 1345), (1345, tAdd 1346), (1346, tIal 20 1347), (1347, tCall 3 0 0 (zNt T_X9_agreeing) (zRcv 12) 1350), (1350, tIst 7 1352), (1352, tAld 2 1353), (1353, tCall 1 0 0 (zNt T_X9_thrown) (zRcv 12) 1356), (1356, tIld 6 1358), (1358, tIc_eq 1363 1361), (1361, tC (zi 0) 1362), (1362, tRi zPz), (1363, tIld 6 1365), (1365, tIf_ne 1380 1368), (1368, tAld 3 1369), (1369, tC (zi 0) 1370), (1370, tLal 1371), (1371, tIld 7 1373), (1373, tI2l 1374), (1374, tLcmp 1375), (1375, tIf_eq 1380 1378), (1378, tC (zi 0) 1379), (1379, tRi zPz), (1380, tGo 3161)]
set_option maxRecDepth 100000 in
set_option maxHeartbeats 1500000 in
theorem hs_LW20 {l : Launch} (hl : l.stackTraces = false) (p : Program) (e : Env) (s : State) (m : MethodId) (args : Array Value) (below : List Frame) (meth : Method) (c : Code) (D : va_G) (A : Nat → Prop) (a0 : Nat → Nat) (M0 : ZM) (K : ZRet) (KX : ZEx) (mc ms : Nat) (X : zCtx p l room_1 s m args meth c code RL (Cond.initialized RX8 :: zG) 10 (Option.some Jvm.ClassFile.FieldType.boolean) D A a0 M0 mc ms) (hNc : zNc0 s) : ∀ q ∈ cd_LW20, zSd p l e room_1 s m args below meth c 10 D A a0 M0 K KX mc ms q.1 q.2 :=
    zall_c (zs_aload_n X (pc := 1315) (q := 1) rfl (by decide +kernel)) <|
    zall_c (zs_aload_n X (pc := 1316) (q := 0) rfl (by decide +kernel)) <|
    zall_c (zs_iload X (pc := 1317) (by decide +kernel)) <|
    zall_c (zs_iconst X (pc := 1319) (by decide) (by decide +kernel)) <|
    zall_c (zs_iadd X (pc := 1320) (by decide +kernel)) <|
    zall_c (zs_iaload20 X (pc := 1321) (by decide +kernel)) <|
    zall_c (zs_aload_n X (pc := 1322) (q := 0) rfl (by decide +kernel)) <|
    zall_c (zs_iload X (pc := 1323) (by decide +kernel)) <|
    zall_c (zs_iconst X (pc := 1325) (by decide) (by decide +kernel)) <|
    zall_c (zs_iadd X (pc := 1326) (by decide +kernel)) <|
    zall_c (zs_iaload20 X (pc := 1327) (by decide +kernel)) <|
    zall_c (zs_aload_n X (pc := 1328) (q := 3) rfl (by decide +kernel)) <|
    zall_c (zs_callSW X (pc := 1329) hNc (fun _ ht => zCSW ht gw_6_88 gw_1_0 gw_6_86 gw_6_87 rfl rfl (by decide +kernel) ⟨Nat.le_of_ble_eq_true rfl, Nat.le_of_ble_eq_true rfl⟩) (M_L_agreeing hl) (by decide +kernel)) <|
    zall_c (zs_istore X (pc := 1332) (by decide) (by decide +kernel)) <|
    zall_c (zs_aload_n X (pc := 1334) (q := 2) rfl (by decide +kernel)) <|
    zall_c (zs_aload_n X (pc := 1335) (q := 0) rfl (by decide +kernel)) <|
    zall_c (zs_iload X (pc := 1336) (by decide +kernel)) <|
    zall_c (zs_iconst X (pc := 1338) (by decide) (by decide +kernel)) <|
    zall_c (zs_iadd X (pc := 1339) (by decide +kernel)) <|
    zall_c (zs_iaload20 X (pc := 1340) (by decide +kernel)) <|
    zall_c (zs_aload_n X (pc := 1341) (q := 0) rfl (by decide +kernel)) <|
    zall_c (zs_iload X (pc := 1342) (by decide +kernel)) <|
    zall_c (zs_iconst X (pc := 1344) (by decide) (by decide +kernel)) <|
    zall_c (zs_iadd X (pc := 1345) (by decide +kernel)) <|
    zall_c (zs_iaload20 X (pc := 1346) (by decide +kernel)) <|
    zall_c (zs_callVt X (pc := 1347) zc_X9 (fun _ ht => ⟨(zCB ht gw_9_157 gw_1_13 gw_9_154 rfl rfl (by decide +kernel) ⟨Nat.le_of_ble_eq_true rfl, Nat.le_of_ble_eq_true rfl⟩), ht _ (.tail _ gw_9_155), ht _ (.tail _ gw_9_156)⟩) (M_X9_agreeing hl) (by decide +kernel)) <|
    zall_c (zs_istore X (pc := 1350) (by decide) (by decide +kernel)) <|
    zall_c (zs_aload_n X (pc := 1352) (q := 2) rfl (by decide +kernel)) <|
    zall_c (zs_callVt X (pc := 1353) zc_X9 (fun _ ht => ⟨(zCB ht gw_7_208 gw_1_13 gw_7_205 rfl rfl (by decide +kernel) ⟨Nat.le_of_ble_eq_true rfl, Nat.le_of_ble_eq_true rfl⟩), ht _ (.tail _ gw_7_206), ht _ (.tail _ gw_7_207)⟩) (M_X9_thrown hl) (by decide +kernel)) <|
    zall_c (zs_iload X (pc := 1356) (by decide +kernel)) <|
    zall_c (zs_icmp_eq X (pc := 1358) (off := 5) (by decide +kernel) (by decide)) <|
    zall_c (zs_iconst X (pc := 1361) (by decide) (by decide +kernel)) <|
    zall_c (zs_zret X (pc := 1362) rfl zR_bool (by decide +kernel)) <|
    zall_c (zs_iload X (pc := 1363) (by decide +kernel)) <|
    zall_c (zs_if_ne X (pc := 1365) (off := 15) (by decide +kernel) (by decide)) <|
    zall_c (zs_aload_n X (pc := 1368) (q := 3) rfl (by decide +kernel)) <|
    zall_c (zs_iconst X (pc := 1369) (by decide) (by decide +kernel)) <|
    zall_c (zs_laload23 X (pc := 1370) (by decide +kernel)) <|
    zall_c (zs_iload X (pc := 1371) (by decide +kernel)) <|
    zall_c (zs_i2l X (pc := 1373) (by decide +kernel)) <|
    zall_c (zs_lcmp X (pc := 1374) (by decide +kernel)) <|
    zall_c (zs_if_eq X (pc := 1375) (off := 5) (by decide +kernel) (by decide)) <|
    zall_c (zs_iconst X (pc := 1378) (by decide) (by decide +kernel)) <|
    zall_c (zs_zret X (pc := 1379) rfl zR_bool (by decide +kernel)) <|
    zall_c (zs_goto X (pc := 1380) (off := 1781) (by decide +kernel) (by decide)) <|
    zall_n
def cd_LW21 : List (Nat × ZTr) := [(1383, tAld 1 1384), (1384, tAld 0 1385), (1385, tIld 5 1387), (1387, tC (zi 1) 1388), (1388, tAdd 1389), (1389, tIal 20 1390), (1390, tAld 0 1391), (1391, tIld 5 1393), (1393, tC (zi 2) 1394), (1394, tAdd 1395), (1395, tIal 20 1396), (1396, tAld 3 1397), (1397, tCall 4 2 12 (fun av M K _ => T_L_differing av M K) zAny 1400), (1400, tIst 6 1402), (1402, tAld 2 1403), (1403, tAld 0 1404), (1404, tIld 5 1406), (1406, tC (zi 1) 1407), (1407, tAdd 1408), (1408, tIal 20 1409), (1409, tAld 0 1410), (1410, tIld 5 1412), (1412, tC (zi 2) 1413), (1413, tAdd 1414), (1414, tIal 20 1415), (1415, tCall 3 0 0 (zNt T_X9_differing) (zRcv 12) 1418), (1418, tIst 7 1420), (1420, tAld 2 1421), (1421, tCall 1 0 0 (zNt T_X9_thrown) (zRcv 12) 1424), (1424, tIld 6 1426), (1426, tIc_eq 1431 1429), (1429, tC (zi 0) 1430), (1430, tRi zPz), (1431, tIld 6 1433), (1433, tIf_ne 1448 1436), (1436, tAld 3 1437), (1437, tC (zi 0) 1438), (1438, tLal 1439), (1439, tIld 7 1441), (1441, tI2l 1442), (1442, tLcmp 1443), (1443, tIf_eq 1448 1446), (1446, tC (zi 0) 1447), (1447, tRi zPz), (1448, tGo 3161)]
set_option maxRecDepth 100000 in
set_option maxHeartbeats 1500000 in
theorem hs_LW21 {l : Launch} (hl : l.stackTraces = false) (p : Program) (e : Env) (s : State) (m : MethodId) (args : Array Value) (below : List Frame) (meth : Method) (c : Code) (D : va_G) (A : Nat → Prop) (a0 : Nat → Nat) (M0 : ZM) (K : ZRet) (KX : ZEx) (mc ms : Nat) (X : zCtx p l room_1 s m args meth c code RL (Cond.initialized RX8 :: zG) 10 (Option.some Jvm.ClassFile.FieldType.boolean) D A a0 M0 mc ms) (hNc : zNc0 s) : ∀ q ∈ cd_LW21, zSd p l e room_1 s m args below meth c 10 D A a0 M0 K KX mc ms q.1 q.2 :=
    zall_c (zs_aload_n X (pc := 1383) (q := 1) rfl (by decide +kernel)) <|
    zall_c (zs_aload_n X (pc := 1384) (q := 0) rfl (by decide +kernel)) <|
    zall_c (zs_iload X (pc := 1385) (by decide +kernel)) <|
    zall_c (zs_iconst X (pc := 1387) (by decide) (by decide +kernel)) <|
    zall_c (zs_iadd X (pc := 1388) (by decide +kernel)) <|
    zall_c (zs_iaload20 X (pc := 1389) (by decide +kernel)) <|
    zall_c (zs_aload_n X (pc := 1390) (q := 0) rfl (by decide +kernel)) <|
    zall_c (zs_iload X (pc := 1391) (by decide +kernel)) <|
    zall_c (zs_iconst X (pc := 1393) (by decide) (by decide +kernel)) <|
    zall_c (zs_iadd X (pc := 1394) (by decide +kernel)) <|
    zall_c (zs_iaload20 X (pc := 1395) (by decide +kernel)) <|
    zall_c (zs_aload_n X (pc := 1396) (q := 3) rfl (by decide +kernel)) <|
    zall_c (zs_callSW X (pc := 1397) hNc (fun _ ht => zCSW ht gw_6_115 gw_1_0 gw_6_113 gw_6_114 rfl rfl (by decide +kernel) ⟨Nat.le_of_ble_eq_true rfl, Nat.le_of_ble_eq_true rfl⟩) (M_L_differing hl) (by decide +kernel)) <|
    zall_c (zs_istore X (pc := 1400) (by decide) (by decide +kernel)) <|
    zall_c (zs_aload_n X (pc := 1402) (q := 2) rfl (by decide +kernel)) <|
    zall_c (zs_aload_n X (pc := 1403) (q := 0) rfl (by decide +kernel)) <|
    zall_c (zs_iload X (pc := 1404) (by decide +kernel)) <|
    zall_c (zs_iconst X (pc := 1406) (by decide) (by decide +kernel)) <|
    zall_c (zs_iadd X (pc := 1407) (by decide +kernel)) <|
    zall_c (zs_iaload20 X (pc := 1408) (by decide +kernel)) <|
    zall_c (zs_aload_n X (pc := 1409) (q := 0) rfl (by decide +kernel)) <|
    zall_c (zs_iload X (pc := 1410) (by decide +kernel)) <|
    zall_c (zs_iconst X (pc := 1412) (by decide) (by decide +kernel)) <|
    zall_c (zs_iadd X (pc := 1413) (by decide +kernel)) <|
    zall_c (zs_iaload20 X (pc := 1414) (by decide +kernel)) <|
    zall_c (zs_callVt X (pc := 1415) zc_X9 (fun _ ht => ⟨(zCB ht gw_9_174 gw_1_13 gw_9_171 rfl rfl (by decide +kernel) ⟨Nat.le_of_ble_eq_true rfl, Nat.le_of_ble_eq_true rfl⟩), ht _ (.tail _ gw_9_172), ht _ (.tail _ gw_9_173)⟩) (M_X9_differing hl) (by decide +kernel)) <|
    zall_c (zs_istore X (pc := 1418) (by decide) (by decide +kernel)) <|
    zall_c (zs_aload_n X (pc := 1420) (q := 2) rfl (by decide +kernel)) <|
    zall_c (zs_callVt X (pc := 1421) zc_X9 (fun _ ht => ⟨(zCB ht gw_7_208 gw_1_13 gw_7_205 rfl rfl (by decide +kernel) ⟨Nat.le_of_ble_eq_true rfl, Nat.le_of_ble_eq_true rfl⟩), ht _ (.tail _ gw_7_206), ht _ (.tail _ gw_7_207)⟩) (M_X9_thrown hl) (by decide +kernel)) <|
    zall_c (zs_iload X (pc := 1424) (by decide +kernel)) <|
    zall_c (zs_icmp_eq X (pc := 1426) (off := 5) (by decide +kernel) (by decide)) <|
    zall_c (zs_iconst X (pc := 1429) (by decide) (by decide +kernel)) <|
    zall_c (zs_zret X (pc := 1430) rfl zR_bool (by decide +kernel)) <|
    zall_c (zs_iload X (pc := 1431) (by decide +kernel)) <|
    zall_c (zs_if_ne X (pc := 1433) (off := 15) (by decide +kernel) (by decide)) <|
    zall_c (zs_aload_n X (pc := 1436) (q := 3) rfl (by decide +kernel)) <|
    zall_c (zs_iconst X (pc := 1437) (by decide) (by decide +kernel)) <|
    zall_c (zs_laload23 X (pc := 1438) (by decide +kernel)) <|
    zall_c (zs_iload X (pc := 1439) (by decide +kernel)) <|
    zall_c (zs_i2l X (pc := 1441) (by decide +kernel)) <|
    zall_c (zs_lcmp X (pc := 1442) (by decide +kernel)) <|
    zall_c (zs_if_eq X (pc := 1443) (off := 5) (by decide +kernel) (by decide)) <|
    zall_c (zs_iconst X (pc := 1446) (by decide) (by decide +kernel)) <|
    zall_c (zs_zret X (pc := 1447) rfl zR_bool (by decide +kernel)) <|
    zall_c (zs_goto X (pc := 1448) (off := 1713) (by decide +kernel) (by decide)) <|
    zall_n
def cd_LW22 : List (Nat × ZTr) := [(1451, tAld 1 1452), (1452, tAld 0 1453), (1453, tIld 5 1455), (1455, tC (zi 1) 1456), (1456, tAdd 1457), (1457, tIal 20 1458), (1458, tAld 4 1460), (1460, tCall 3 1 6 (fun av M K _ => T_L_accuracy av M K) zAny 1463), (1463, tIst 6 1465), (1465, tAld 2 1466), (1466, tAld 0 1467), (1467, tIld 5 1469), (1469, tC (zi 1) 1470), (1470, tAdd 1471), (1471, tIal 20 1472), (1472, tCall 2 0 0 (zNt T_X9_accuracy) (zRcv 12) 1475), (1475, tFst 7 1477), (1477, tAld 2 1478), (1478, tCall 1 0 0 (zNt T_X9_thrown) (zRcv 12) 1481), (1481, tIld 6 1483), (1483, tIc_eq 1488 1486), (1486, tC (zi 0) 1487), (1487, tRi zPz), (1488, tIld 6 1490), (1490, tIf_ne 1526 1493), (1493, tAld 4 1495), (1495, tC (zi 0) 1496), (1496, tDal 1497), (1497, tFld 7 1499), (1499, tF2d 1500), (1500, tDcmp .l 1501), (1501, tIf_eq 1526 1504), (1504, tAld 4 1506), (1506, tC (zi 0) 1507), (1507, tDal 1508), (1508, tAld 4 1510), (1510, tC (zi 0) 1511), (1511, tDal 1512), (1512, tDcmp .l 1513), (1513, tIf_eq 1524 1516), (1516, tFld 7 1518), (1518, tFld 7 1520), (1520, tFcmp .l 1521), (1521, tIf_ne 1526 1524), (1524, tC (zi 0) 1525), (1525, tRi zPz), (1526, tGo 3161)]
set_option maxRecDepth 100000 in
set_option maxHeartbeats 1500000 in
theorem hs_LW22 {l : Launch} (hl : l.stackTraces = false) (p : Program) (e : Env) (s : State) (m : MethodId) (args : Array Value) (below : List Frame) (meth : Method) (c : Code) (D : va_G) (A : Nat → Prop) (a0 : Nat → Nat) (M0 : ZM) (K : ZRet) (KX : ZEx) (mc ms : Nat) (X : zCtx p l room_1 s m args meth c code RL (Cond.initialized RX8 :: zG) 10 (Option.some Jvm.ClassFile.FieldType.boolean) D A a0 M0 mc ms) (hNc : zNc0 s) : ∀ q ∈ cd_LW22, zSd p l e room_1 s m args below meth c 10 D A a0 M0 K KX mc ms q.1 q.2 :=
    zall_c (zs_aload_n X (pc := 1451) (q := 1) rfl (by decide +kernel)) <|
    zall_c (zs_aload_n X (pc := 1452) (q := 0) rfl (by decide +kernel)) <|
    zall_c (zs_iload X (pc := 1453) (by decide +kernel)) <|
    zall_c (zs_iconst X (pc := 1455) (by decide) (by decide +kernel)) <|
    zall_c (zs_iadd X (pc := 1456) (by decide +kernel)) <|
    zall_c (zs_iaload20 X (pc := 1457) (by decide +kernel)) <|
    zall_c (zs_aload X (pc := 1458) (by decide +kernel)) <|
    zall_c (zs_callSW X (pc := 1460) hNc (fun _ ht => zCSW ht gw_6_122 gw_1_0 gw_6_120 gw_6_121 rfl rfl (by decide +kernel) ⟨Nat.le_of_ble_eq_true rfl, Nat.le_of_ble_eq_true rfl⟩) (M_L_accuracy hl) (by decide +kernel)) <|
    zall_c (zs_istore X (pc := 1463) (by decide) (by decide +kernel)) <|
    zall_c (zs_aload_n X (pc := 1465) (q := 2) rfl (by decide +kernel)) <|
    zall_c (zs_aload_n X (pc := 1466) (q := 0) rfl (by decide +kernel)) <|
    zall_c (zs_iload X (pc := 1467) (by decide +kernel)) <|
    zall_c (zs_iconst X (pc := 1469) (by decide) (by decide +kernel)) <|
    zall_c (zs_iadd X (pc := 1470) (by decide +kernel)) <|
    zall_c (zs_iaload20 X (pc := 1471) (by decide +kernel)) <|
    zall_c (zs_callVt X (pc := 1472) zc_X9 (fun _ ht => ⟨(zCB ht gw_9_182 gw_1_13 gw_9_179 rfl rfl (by decide +kernel) ⟨Nat.le_of_ble_eq_true rfl, Nat.le_of_ble_eq_true rfl⟩), ht _ (.tail _ gw_9_180), ht _ (.tail _ gw_9_181)⟩) (M_X9_accuracy hl) (by decide +kernel)) <|
    zall_c (zs_fstore X (pc := 1475) (by decide) (by decide +kernel)) <|
    zall_c (zs_aload_n X (pc := 1477) (q := 2) rfl (by decide +kernel)) <|
    zall_c (zs_callVt X (pc := 1478) zc_X9 (fun _ ht => ⟨(zCB ht gw_7_208 gw_1_13 gw_7_205 rfl rfl (by decide +kernel) ⟨Nat.le_of_ble_eq_true rfl, Nat.le_of_ble_eq_true rfl⟩), ht _ (.tail _ gw_7_206), ht _ (.tail _ gw_7_207)⟩) (M_X9_thrown hl) (by decide +kernel)) <|
    zall_c (zs_iload X (pc := 1481) (by decide +kernel)) <|
    zall_c (zs_icmp_eq X (pc := 1483) (off := 5) (by decide +kernel) (by decide)) <|
    zall_c (zs_iconst X (pc := 1486) (by decide) (by decide +kernel)) <|
    zall_c (zs_zret X (pc := 1487) rfl zR_bool (by decide +kernel)) <|
    zall_c (zs_iload X (pc := 1488) (by decide +kernel)) <|
    zall_c (zs_if_ne X (pc := 1490) (off := 36) (by decide +kernel) (by decide)) <|
    zall_c (zs_aload X (pc := 1493) (by decide +kernel)) <|
    zall_c (zs_iconst X (pc := 1495) (by decide) (by decide +kernel)) <|
    zall_c (zs_daload24 X (pc := 1496) (by decide +kernel)) <|
    zall_c (zs_fload X (pc := 1497) (by decide +kernel)) <|
    zall_c (zs_f2d X (pc := 1499) (by decide +kernel)) <|
    zall_c (zs_dcmp X (pc := 1500) (by decide +kernel)) <|
    zall_c (zs_if_eq X (pc := 1501) (off := 25) (by decide +kernel) (by decide)) <|
    zall_c (zs_aload X (pc := 1504) (by decide +kernel)) <|
    zall_c (zs_iconst X (pc := 1506) (by decide) (by decide +kernel)) <|
    zall_c (zs_daload24 X (pc := 1507) (by decide +kernel)) <|
    zall_c (zs_aload X (pc := 1508) (by decide +kernel)) <|
    zall_c (zs_iconst X (pc := 1510) (by decide) (by decide +kernel)) <|
    zall_c (zs_daload24 X (pc := 1511) (by decide +kernel)) <|
    zall_c (zs_dcmp X (pc := 1512) (by decide +kernel)) <|
    zall_c (zs_if_eq X (pc := 1513) (off := 11) (by decide +kernel) (by decide)) <|
    zall_c (zs_fload X (pc := 1516) (by decide +kernel)) <|
    zall_c (zs_fload X (pc := 1518) (by decide +kernel)) <|
    zall_c (zs_fcmp X (pc := 1520) (by decide +kernel)) <|
    zall_c (zs_if_ne X (pc := 1521) (off := 5) (by decide +kernel) (by decide)) <|
    zall_c (zs_iconst X (pc := 1524) (by decide) (by decide +kernel)) <|
    zall_c (zs_zret X (pc := 1525) rfl zR_bool (by decide +kernel)) <|
    zall_c (zs_goto X (pc := 1526) (off := 1635) (by decide +kernel) (by decide)) <|
    zall_n
def cd_LW23 : List (Nat × ZTr) := [(1529, tAld 1 1530), (1530, tCall 1 0 0 (zNt T_X8_meanTrust) (zRcv 11) 1533), (1533, tDst 6 1535), (1535, tAld 2 1536), (1536, tCall 1 0 0 (zNt T_X9_meanTrust) (zRcv 12) 1539), (1539, tDst 8 1541), (1541, tDld 6 1543), (1543, tDld 8 1545), (1545, tDcmp .l 1546), (1546, tIf_eq 1567 1549), (1549, tDld 6 1551), (1551, tDld 6 1553), (1553, tDcmp .l 1554), (1554, tIf_eq 1565 1557), (1557, tDld 8 1559), (1559, tDld 8 1561), (1561, tDcmp .l 1562), (1562, tIf_ne 1567 1565), (1565, tC (zi 0) 1566), (1566, tRi zPz), (1567, tGo 3161)]
set_option maxRecDepth 100000 in
set_option maxHeartbeats 1500000 in
theorem hs_LW23 {l : Launch} (hl : l.stackTraces = false) (p : Program) (e : Env) (s : State) (m : MethodId) (args : Array Value) (below : List Frame) (meth : Method) (c : Code) (D : va_G) (A : Nat → Prop) (a0 : Nat → Nat) (M0 : ZM) (K : ZRet) (KX : ZEx) (mc ms : Nat) (X : zCtx p l room_1 s m args meth c code RL (Cond.initialized RX8 :: zG) 10 (Option.some Jvm.ClassFile.FieldType.boolean) D A a0 M0 mc ms) (hNc : zNc0 s) : ∀ q ∈ cd_LW23, zSd p l e room_1 s m args below meth c 10 D A a0 M0 K KX mc ms q.1 q.2 :=
    zall_c (zs_aload_n X (pc := 1529) (q := 1) rfl (by decide +kernel)) <|
    zall_c (zs_callVt X (pc := 1530) zc_X8 (fun _ ht => ⟨(zCB ht gw_5_49 gw_1_1 gw_5_46 rfl rfl (by decide +kernel) ⟨Nat.le_of_ble_eq_true rfl, Nat.le_of_ble_eq_true rfl⟩), ht _ (.tail _ gw_5_47), ht _ (.tail _ gw_5_48)⟩) (M_X8_meanTrust hl) (by decide +kernel)) <|
    zall_c (zs_dstore X (pc := 1533) (by decide) (by decide +kernel)) <|
    zall_c (zs_aload_n X (pc := 1535) (q := 2) rfl (by decide +kernel)) <|
    zall_c (zs_callVt X (pc := 1536) zc_X9 (fun _ ht => ⟨(zCB ht gw_9_186 gw_1_13 gw_9_183 rfl rfl (by decide +kernel) ⟨Nat.le_of_ble_eq_true rfl, Nat.le_of_ble_eq_true rfl⟩), ht _ (.tail _ gw_9_184), ht _ (.tail _ gw_9_185)⟩) (M_X9_meanTrust hl) (by decide +kernel)) <|
    zall_c (zs_dstore X (pc := 1539) (by decide) (by decide +kernel)) <|
    zall_c (zs_dload X (pc := 1541) (by decide +kernel)) <|
    zall_c (zs_dload X (pc := 1543) (by decide +kernel)) <|
    zall_c (zs_dcmp X (pc := 1545) (by decide +kernel)) <|
    zall_c (zs_if_eq X (pc := 1546) (off := 21) (by decide +kernel) (by decide)) <|
    zall_c (zs_dload X (pc := 1549) (by decide +kernel)) <|
    zall_c (zs_dload X (pc := 1551) (by decide +kernel)) <|
    zall_c (zs_dcmp X (pc := 1553) (by decide +kernel)) <|
    zall_c (zs_if_eq X (pc := 1554) (off := 11) (by decide +kernel) (by decide)) <|
    zall_c (zs_dload X (pc := 1557) (by decide +kernel)) <|
    zall_c (zs_dload X (pc := 1559) (by decide +kernel)) <|
    zall_c (zs_dcmp X (pc := 1561) (by decide +kernel)) <|
    zall_c (zs_if_ne X (pc := 1562) (off := 5) (by decide +kernel) (by decide)) <|
    zall_c (zs_iconst X (pc := 1565) (by decide) (by decide +kernel)) <|
    zall_c (zs_zret X (pc := 1566) rfl zR_bool (by decide +kernel)) <|
    zall_c (zs_goto X (pc := 1567) (off := 1594) (by decide +kernel) (by decide)) <|
    zall_n
