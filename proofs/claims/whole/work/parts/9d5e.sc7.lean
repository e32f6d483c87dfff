/-! the rows of the law, on -/
def cd_LW48 : List (Nat × ZTr) := [(2854, tAld 1 2855), (2855, tAld 0 2856), (2856, tIld 5 2858), (2858, tC (zi 1) 2859), (2859, tAdd 2860), (2860, tIal 20 2861), (2861, tAld 3 2862), (2862, tCall 3 1 6 (fun av M K _ => T_L_keep av M K) zAny 2865), (2865, tIst 6 2867), (2867, tAld 2 2868), (2868, tAld 0 2869), (2869, tIld 5 2871), (2871, tC (zi 1) 2872), (2872, tAdd 2873), (2873, tIal 20 2874), (2874, tCall 2 0 0 (zNt T_X9_keep) (zRcv 12) 2877), (2877, tIst 7 2879), (2879, tAld 2 2880), (2880, tCall 1 0 0 (zNt T_X9_thrown) (zRcv 12) 2883), (2883, tIld 6 2885), (2885, tIc_eq 2890 2888), (2888, tC (zi 0) 2889), (2889, tRi zPz), (2890, tIld 6 2892), (2892, tIf_ne 2907 2895), (2895, tAld 3 2896), (2896, tC (zi 0) 2897), (2897, tLal 2898), (2898, tIld 7 2900), (2900, tI2l 2901), (2901, tLcmp 2902), (2902, tIf_eq 2907 2905), (2905, tC (zi 0) 2906), (2906, tRi zPz), (2907, tGo 3161)]
set_option maxRecDepth 100000 in
set_option maxHeartbeats 1500000 in
theorem hs_LW48 {l : Launch} (hl : l.stackTraces = false) (p : Program) (e : Env) (s : State) (m : MethodId) (args : Array Value) (below : List Frame) (meth : Method) (c : Code) (D : va_G) (A : Nat → Prop) (a0 : Nat → Nat) (M0 : ZM) (K : ZRet) (KX : ZEx) (mc ms : Nat) (X : zCtx p l room_1 s m args meth c code RL (Cond.initialized RX8 :: zG) 10 (Option.some Jvm.ClassFile.FieldType.boolean) D A a0 M0 mc ms) (hNc : zNc0 s) : ∀ q ∈ cd_LW48, zSd p l e room_1 s m args below meth c 10 D A a0 M0 K KX mc ms q.1 q.2 :=
    zall_c (zs_aload_n X (pc := 2854) (q := 1) rfl (by decide +kernel)) <|
    zall_c (zs_aload_n X (pc := 2855) (q := 0) rfl (by decide +kernel)) <|
    zall_c (zs_iload X (pc := 2856) (by decide +kernel)) <|
    zall_c (zs_iconst X (pc := 2858) (by decide) (by decide +kernel)) <|
    zall_c (zs_iadd X (pc := 2859) (by decide +kernel)) <|
    zall_c (zs_iaload20 X (pc := 2860) (by decide +kernel)) <|
    zall_c (zs_aload_n X (pc := 2861) (q := 3) rfl (by decide +kernel)) <|
    zall_c (zs_callSW X (pc := 2862) hNc (fun _ ht => zCSW ht gw_7_131 gw_1_0 gw_7_129 gw_7_130 rfl rfl (by decide +kernel) ⟨Nat.le_of_ble_eq_true rfl, Nat.le_of_ble_eq_true rfl⟩) (M_L_keep hl) (by decide +kernel)) <|
    zall_c (zs_istore X (pc := 2865) (by decide) (by decide +kernel)) <|
    zall_c (zs_aload_n X (pc := 2867) (q := 2) rfl (by decide +kernel)) <|
    zall_c (zs_aload_n X (pc := 2868) (q := 0) rfl (by decide +kernel)) <|
    zall_c (zs_iload X (pc := 2869) (by decide +kernel)) <|
    zall_c (zs_iconst X (pc := 2871) (by decide) (by decide +kernel)) <|
    zall_c (zs_iadd X (pc := 2872) (by decide +kernel)) <|
    zall_c (zs_iaload20 X (pc := 2873) (by decide +kernel)) <|
    zall_c (zs_callVt X (pc := 2874) zc_X9 (fun _ ht => ⟨(zCB ht gw_10_122 gw_1_13 gw_10_119 rfl rfl (by decide +kernel) ⟨Nat.le_of_ble_eq_true rfl, Nat.le_of_ble_eq_true rfl⟩), ht _ (.tail _ gw_10_120), ht _ (.tail _ gw_10_121)⟩) (M_X9_keep hl) (by decide +kernel)) <|
    zall_c (zs_istore X (pc := 2877) (by decide) (by decide +kernel)) <|
    zall_c (zs_aload_n X (pc := 2879) (q := 2) rfl (by decide +kernel)) <|
    zall_c (zs_callVt X (pc := 2880) zc_X9 (fun _ ht => ⟨(zCB ht gw_7_208 gw_1_13 gw_7_205 rfl rfl (by decide +kernel) ⟨Nat.le_of_ble_eq_true rfl, Nat.le_of_ble_eq_true rfl⟩), ht _ (.tail _ gw_7_206), ht _ (.tail _ gw_7_207)⟩) (M_X9_thrown hl) (by decide +kernel)) <|
    zall_c (zs_iload X (pc := 2883) (by decide +kernel)) <|
    zall_c (zs_icmp_eq X (pc := 2885) (off := 5) (by decide +kernel) (by decide)) <|
    zall_c (zs_iconst X (pc := 2888) (by decide) (by decide +kernel)) <|
    zall_c (zs_zret X (pc := 2889) rfl zR_bool (by decide +kernel)) <|
    zall_c (zs_iload X (pc := 2890) (by decide +kernel)) <|
    zall_c (zs_if_ne X (pc := 2892) (off := 15) (by decide +kernel) (by decide)) <|
    zall_c (zs_aload_n X (pc := 2895) (q := 3) rfl (by decide +kernel)) <|
    zall_c (zs_iconst X (pc := 2896) (by decide) (by decide +kernel)) <|
    zall_c (zs_laload23 X (pc := 2897) (by decide +kernel)) <|
    zall_c (zs_iload X (pc := 2898) (by decide +kernel)) <|
    zall_c (zs_i2l X (pc := 2900) (by decide +kernel)) <|
    zall_c (zs_lcmp X (pc := 2901) (by decide +kernel)) <|
    zall_c (zs_if_eq X (pc := 2902) (off := 5) (by decide +kernel) (by decide)) <|
    zall_c (zs_iconst X (pc := 2905) (by decide) (by decide +kernel)) <|
    zall_c (zs_zret X (pc := 2906) rfl zR_bool (by decide +kernel)) <|
    zall_c (zs_goto X (pc := 2907) (off := 254) (by decide +kernel) (by decide)) <|
    zall_n
def cd_LW49 : List (Nat × ZTr) := [(2910, tAld 1 2911), (2911, tAld 0 2912), (2912, tIld 5 2914), (2914, tC (zi 1) 2915), (2915, tAdd 2916), (2916, tIal 20 2917), (2917, tAld 3 2918), (2918, tCall 3 2 12 (fun av M K _ => T_L_restore av M K) zAny 2921), (2921, tIst 6 2923), (2923, tAld 2 2924), (2924, tAld 0 2925), (2925, tIld 5 2927), (2927, tC (zi 1) 2928), (2928, tAdd 2929), (2929, tIal 20 2930), (2930, tCall 2 0 0 (zNt T_X9_restore) (zRcv 12) 2933), (2933, tIst 7 2935), (2935, tAld 2 2936), (2936, tCall 1 0 0 (zNt T_X9_thrown) (zRcv 12) 2939), (2939, tIld 6 2941), (2941, tIc_eq 2946 2944), (2944, tC (zi 0) 2945), (2945, tRi zPz), (2946, tIld 6 2948), (2948, tIf_ne 2963 2951), (2951, tAld 3 2952), (2952, tC (zi 0) 2953), (2953, tLal 2954), (2954, tIld 7 2956), (2956, tI2l 2957), (2957, tLcmp 2958), (2958, tIf_eq 2963 2961), (2961, tC (zi 0) 2962), (2962, tRi zPz), (2963, tGo 3161)]
set_option maxRecDepth 100000 in
set_option maxHeartbeats 1500000 in
theorem hs_LW49 {l : Launch} (hl : l.stackTraces = false) (p : Program) (e : Env) (s : State) (m : MethodId) (args : Array Value) (below : List Frame) (meth : Method) (c : Code) (D : va_G) (A : Nat → Prop) (a0 : Nat → Nat) (M0 : ZM) (K : ZRet) (KX : ZEx) (mc ms : Nat) (X : zCtx p l room_1 s m args meth c code RL (Cond.initialized RX8 :: zG) 10 (Option.some Jvm.ClassFile.FieldType.boolean) D A a0 M0 mc ms) (hNc : zNc0 s) : ∀ q ∈ cd_LW49, zSd p l e room_1 s m args below meth c 10 D A a0 M0 K KX mc ms q.1 q.2 :=
    zall_c (zs_aload_n X (pc := 2910) (q := 1) rfl (by decide +kernel)) <|
    zall_c (zs_aload_n X (pc := 2911) (q := 0) rfl (by decide +kernel)) <|
    zall_c (zs_iload X (pc := 2912) (by decide +kernel)) <|
    zall_c (zs_iconst X (pc := 2914) (by decide) (by decide +kernel)) <|
    zall_c (zs_iadd X (pc := 2915) (by decide +kernel)) <|
    zall_c (zs_iaload20 X (pc := 2916) (by decide +kernel)) <|
    zall_c (zs_aload_n X (pc := 2917) (q := 3) rfl (by decide +kernel)) <|
    zall_c (zs_callSW X (pc := 2918) hNc (fun _ ht => zCSW ht gw_7_142 gw_1_0 gw_7_140 gw_7_141 rfl rfl (by decide +kernel) ⟨Nat.le_of_ble_eq_true rfl, Nat.le_of_ble_eq_true rfl⟩) (M_L_restore hl) (by decide +kernel)) <|
    zall_c (zs_istore X (pc := 2921) (by decide) (by decide +kernel)) <|
    zall_c (zs_aload_n X (pc := 2923) (q := 2) rfl (by decide +kernel)) <|
    zall_c (zs_aload_n X (pc := 2924) (q := 0) rfl (by decide +kernel)) <|
    zall_c (zs_iload X (pc := 2925) (by decide +kernel)) <|
    zall_c (zs_iconst X (pc := 2927) (by decide) (by decide +kernel)) <|
    zall_c (zs_iadd X (pc := 2928) (by decide +kernel)) <|
    zall_c (zs_iaload20 X (pc := 2929) (by decide +kernel)) <|
    zall_c (zs_callVt X (pc := 2930) zc_X9 (fun _ ht => ⟨(zCB ht gw_10_129 gw_1_13 gw_10_126 rfl rfl (by decide +kernel) ⟨Nat.le_of_ble_eq_true rfl, Nat.le_of_ble_eq_true rfl⟩), ht _ (.tail _ gw_10_127), ht _ (.tail _ gw_10_128)⟩) (M_X9_restore hl) (by decide +kernel)) <|
    zall_c (zs_istore X (pc := 2933) (by decide) (by decide +kernel)) <|
    zall_c (zs_aload_n X (pc := 2935) (q := 2) rfl (by decide +kernel)) <|
    zall_c (zs_callVt X (pc := 2936) zc_X9 (fun _ ht => ⟨(zCB ht gw_7_208 gw_1_13 gw_7_205 rfl rfl (by decide +kernel) ⟨Nat.le_of_ble_eq_true rfl, Nat.le_of_ble_eq_true rfl⟩), ht _ (.tail _ gw_7_206), ht _ (.tail _ gw_7_207)⟩) (M_X9_thrown hl) (by decide +kernel)) <|
    zall_c (zs_iload X (pc := 2939) (by decide +kernel)) <|
    zall_c (zs_icmp_eq X (pc := 2941) (off := 5) (by decide +kernel) (by decide)) <|
    zall_c (zs_iconst X (pc := 2944) (by decide) (by decide +kernel)) <|
    zall_c (zs_zret X (pc := 2945) rfl zR_bool (by decide +kernel)) <|
    zall_c (zs_iload X (pc := 2946) (by decide +kernel)) <|
    zall_c (zs_if_ne X (pc := 2948) (off := 15) (by decide +kernel) (by decide)) <|
    zall_c (zs_aload_n X (pc := 2951) (q := 3) rfl (by decide +kernel)) <|
    zall_c (zs_iconst X (pc := 2952) (by decide) (by decide +kernel)) <|
    zall_c (zs_laload23 X (pc := 2953) (by decide +kernel)) <|
    zall_c (zs_iload X (pc := 2954) (by decide +kernel)) <|
    zall_c (zs_i2l X (pc := 2956) (by decide +kernel)) <|
    zall_c (zs_lcmp X (pc := 2957) (by decide +kernel)) <|
    zall_c (zs_if_eq X (pc := 2958) (off := 5) (by decide +kernel) (by decide)) <|
    zall_c (zs_iconst X (pc := 2961) (by decide) (by decide +kernel)) <|
    zall_c (zs_zret X (pc := 2962) rfl zR_bool (by decide +kernel)) <|
    zall_c (zs_goto X (pc := 2963) (off := 198) (by decide +kernel) (by decide)) <|
    zall_n
def cd_LW50 : List (Nat × ZTr) := [(2966, tAld 1 2967), (2967, tAld 3 2968), (2968, tCall 2 1 6 (fun av M K _ => T_L_undo av M K) zAny 2971), (2971, tIst 6 2973), (2973, tAld 2 2974), (2974, tCall 1 0 0 (zNt T_X9_undo) (zRcv 12) 2977), (2977, tIst 7 2979), (2979, tAld 2 2980), (2980, tCall 1 0 0 (zNt T_X9_thrown) (zRcv 12) 2983), (2983, tIld 6 2985), (2985, tIc_eq 2990 2988), (2988, tC (zi 0) 2989), (2989, tRi zPz), (2990, tIld 6 2992), (2992, tIf_ne 3007 2995), (2995, tAld 3 2996), (2996, tC (zi 0) 2997), (2997, tLal 2998), (2998, tIld 7 3000), (3000, tI2l 3001), (3001, tLcmp 3002), (3002, tIf_eq 3007 3005), (3005, tC (zi 0) 3006), (3006, tRi zPz), (3007, tGo 3161)]
set_option maxRecDepth 100000 in
set_option maxHeartbeats 1500000 in
theorem hs_LW50 {l : Launch} (hl : l.stackTraces = false) (p : Program) (e : Env) (s : State) (m : MethodId) (args : Array Value) (below : List Frame) (meth : Method) (c : Code) (D : va_G) (A : Nat → Prop) (a0 : Nat → Nat) (M0 : ZM) (K : ZRet) (KX : ZEx) (mc ms : Nat) (X : zCtx p l room_1 s m args meth c code RL (Cond.initialized RX8 :: zG) 10 (Option.some Jvm.ClassFile.FieldType.boolean) D A a0 M0 mc ms) (hNc : zNc0 s) : ∀ q ∈ cd_LW50, zSd p l e room_1 s m args below meth c 10 D A a0 M0 K KX mc ms q.1 q.2 :=
    zall_c (zs_aload_n X (pc := 2966) (q := 1) rfl (by decide +kernel)) <|
    zall_c (zs_aload_n X (pc := 2967) (q := 3) rfl (by decide +kernel)) <|
    zall_c (zs_callSW X (pc := 2968) hNc (fun _ ht => zCSW ht gw_7_150 gw_1_0 gw_7_148 gw_7_149 rfl rfl (by decide +kernel) ⟨Nat.le_of_ble_eq_true rfl, Nat.le_of_ble_eq_true rfl⟩) (M_L_undo hl) (by decide +kernel)) <|
    zall_c (zs_istore X (pc := 2971) (by decide) (by decide +kernel)) <|
    zall_c (zs_aload_n X (pc := 2973) (q := 2) rfl (by decide +kernel)) <|
    zall_c (zs_callVt X (pc := 2974) zc_X9 (fun _ ht => ⟨(zCB ht gw_10_133 gw_1_13 gw_10_130 rfl rfl (by decide +kernel) ⟨Nat.le_of_ble_eq_true rfl, Nat.le_of_ble_eq_true rfl⟩), ht _ (.tail _ gw_10_131), ht _ (.tail _ gw_10_132)⟩) (M_X9_undo hl) (by decide +kernel)) <|
    zall_c (zs_istore X (pc := 2977) (by decide) (by decide +kernel)) <|
    zall_c (zs_aload_n X (pc := 2979) (q := 2) rfl (by decide +kernel)) <|
    zall_c (zs_callVt X (pc := 2980) zc_X9 (fun _ ht => ⟨(zCB ht gw_7_208 gw_1_13 gw_7_205 rfl rfl (by decide +kernel) ⟨Nat.le_of_ble_eq_true rfl, Nat.le_of_ble_eq_true rfl⟩), ht _ (.tail _ gw_7_206), ht _ (.tail _ gw_7_207)⟩) (M_X9_thrown hl) (by decide +kernel)) <|
    zall_c (zs_iload X (pc := 2983) (by decide +kernel)) <|
    zall_c (zs_icmp_eq X (pc := 2985) (off := 5) (by decide +kernel) (by decide)) <|
    zall_c (zs_iconst X (pc := 2988) (by decide) (by decide +kernel)) <|
    zall_c (zs_zret X (pc := 2989) rfl zR_bool (by decide +kernel)) <|
    zall_c (zs_iload X (pc := 2990) (by decide +kernel)) <|
    zall_c (zs_if_ne X (pc := 2992) (off := 15) (by decide +kernel) (by decide)) <|
    zall_c (zs_aload_n X (pc := 2995) (q := 3) rfl (by decide +kernel)) <|
    zall_c (zs_iconst X (pc := 2996) (by decide) (by decide +kernel)) <|
    zall_c (zs_laload23 X (pc := 2997) (by decide +kernel)) <|
    zall_c (zs_iload X (pc := 2998) (by decide +kernel)) <|
    zall_c (zs_i2l X (pc := 3000) (by decide +kernel)) <|
    zall_c (zs_lcmp X (pc := 3001) (by decide +kernel)) <|
    zall_c (zs_if_eq X (pc := 3002) (off := 5) (by decide +kernel) (by decide)) <|
    zall_c (zs_iconst X (pc := 3005) (by decide) (by decide +kernel)) <|
    zall_c (zs_zret X (pc := 3006) rfl zR_bool (by decide +kernel)) <|
    zall_c (zs_goto X (pc := 3007) (off := 154) (by decide +kernel) (by decide)) <|
    zall_n
def cd_LW51 : List (Nat × ZTr) := [(3010, tAld 1 3011), (3011, tCall 1 0 0 (zNt T_X8_undoCount) (zRcv 11) 3014), (3014, tAld 2 3015), (3015, tCall 1 0 0 (zNt T_X9_undoCount) (zRcv 12) 3018), (3018, tIc_eq 3161 3021), (3021, tC (zi 0) 3022), (3022, tRi zPz)]
set_option maxRecDepth 100000 in
set_option maxHeartbeats 1500000 in
theorem hs_LW51 {l : Launch} (hl : l.stackTraces = false) (p : Program) (e : Env) (s : State) (m : MethodId) (args : Array Value) (below : List Frame) (meth : Method) (c : Code) (D : va_G) (A : Nat → Prop) (a0 : Nat → Nat) (M0 : ZM) (K : ZRet) (KX : ZEx) (mc ms : Nat) (X : zCtx p l room_1 s m args meth c code RL (Cond.initialized RX8 :: zG) 10 (Option.some Jvm.ClassFile.FieldType.boolean) D A a0 M0 mc ms) (hNc : zNc0 s) : ∀ q ∈ cd_LW51, zSd p l e room_1 s m args below meth c 10 D A a0 M0 K KX mc ms q.1 q.2 :=
    zall_c (zs_aload_n X (pc := 3010) (q := 1) rfl (by decide +kernel)) <|
    zall_c (zs_callVt X (pc := 3011) zc_X8 (fun _ ht => ⟨(zCB ht gw_5_107 gw_1_1 gw_5_104 rfl rfl (by decide +kernel) ⟨Nat.le_of_ble_eq_true rfl, Nat.le_of_ble_eq_true rfl⟩), ht _ (.tail _ gw_5_105), ht _ (.tail _ gw_5_106)⟩) (M_X8_undoCount hl) (by decide +kernel)) <|
    zall_c (zs_aload_n X (pc := 3014) (q := 2) rfl (by decide +kernel)) <|
    zall_c (zs_callVt X (pc := 3015) zc_X9 (fun _ ht => ⟨(zCB ht gw_10_137 gw_1_13 gw_10_134 rfl rfl (by decide +kernel) ⟨Nat.le_of_ble_eq_true rfl, Nat.le_of_ble_eq_true rfl⟩), ht _ (.tail _ gw_10_135), ht _ (.tail _ gw_10_136)⟩) (M_X9_undoCount hl) (by decide +kernel)) <|
    zall_c (zs_icmp_eq X (pc := 3018) (off := 143) (by decide +kernel) (by decide)) <|
    zall_c (zs_iconst X (pc := 3021) (by decide) (by decide +kernel)) <|
    zall_c (zs_zret X (pc := 3022) rfl zR_bool (by decide +kernel)) <|
    zall_n
def cd_LW52 : List (Nat × ZTr) := [(3023, tAld 1 3024), (3024, tCall 1 300 600 (zNt T_X8_writeRows) (zRcv 11) 3027), (3027, tAld 2 3028), (3028, tCall 1 0 0 (zNt T_X9_writeRows) (zRcv 12) 3031), (3031, tIc_eq 3161 3034), (3034, tC (zi 0) 3035), (3035, tRi zPz)]
set_option maxRecDepth 100000 in
set_option maxHeartbeats 1500000 in
theorem hs_LW52 {l : Launch} (hl : l.stackTraces = false) (p : Program) (e : Env) (s : State) (m : MethodId) (args : Array Value) (below : List Frame) (meth : Method) (c : Code) (D : va_G) (A : Nat → Prop) (a0 : Nat → Nat) (M0 : ZM) (K : ZRet) (KX : ZEx) (mc ms : Nat) (X : zCtx p l room_1 s m args meth c code RL (Cond.initialized RX8 :: zG) 10 (Option.some Jvm.ClassFile.FieldType.boolean) D A a0 M0 mc ms) (hNc : zNc0 s) : ∀ q ∈ cd_LW52, zSd p l e room_1 s m args below meth c 10 D A a0 M0 K KX mc ms q.1 q.2 :=
    zall_c (zs_aload_n X (pc := 3023) (q := 1) rfl (by decide +kernel)) <|
    zall_c (zs_callVt X (pc := 3024) zc_X8 (fun _ ht => ⟨(zCB ht gw_5_111 gw_1_1 gw_5_108 rfl rfl (by decide +kernel) ⟨Nat.le_of_ble_eq_true rfl, Nat.le_of_ble_eq_true rfl⟩), ht _ (.tail _ gw_5_109), ht _ (.tail _ gw_5_110)⟩) (M_X8_writeRows hl) (by decide +kernel)) <|
    zall_c (zs_aload_n X (pc := 3027) (q := 2) rfl (by decide +kernel)) <|
    zall_c (zs_callVt X (pc := 3028) zc_X9 (fun _ ht => ⟨(zCB ht gw_10_141 gw_1_13 gw_10_138 rfl rfl (by decide +kernel) ⟨Nat.le_of_ble_eq_true rfl, Nat.le_of_ble_eq_true rfl⟩), ht _ (.tail _ gw_10_139), ht _ (.tail _ gw_10_140)⟩) (M_X9_writeRows hl) (by decide +kernel)) <|
    zall_c (zs_icmp_eq X (pc := 3031) (off := 130) (by decide +kernel) (by decide)) <|
    zall_c (zs_iconst X (pc := 3034) (by decide) (by decide +kernel)) <|
    zall_c (zs_zret X (pc := 3035) rfl zR_bool (by decide +kernel)) <|
    zall_n
def cd_LW53 : List (Nat × ZTr) := [(3036, tAld 1 3037), (3037, tAld 0 3038), (3038, tIld 5 3040), (3040, tC (zi 1) 3041), (3041, tAdd 3042), (3042, tIal 20 3043), (3043, tAld 3 3044), (3044, tCall 3 300 600 (fun av M K _ => T_L_writeRow av M K) zAny 3047), (3047, tIst 6 3049), (3049, tAld 2 3050), (3050, tAld 0 3051), (3051, tIld 5 3053), (3053, tC (zi 1) 3054), (3054, tAdd 3055), (3055, tIal 20 3056), (3056, tCall 2 0 0 (zNt T_X9_writeRow) (zRcv 12) 3059), (3059, tIst 7 3061), (3061, tAld 2 3062), (3062, tCall 1 0 0 (zNt T_X9_thrown) (zRcv 12) 3065), (3065, tIld 6 3067), (3067, tIc_eq 3072 3070), (3070, tC (zi 0) 3071), (3071, tRi zPz), (3072, tIld 6 3074), (3074, tIf_ne 3089 3077), (3077, tAld 3 3078), (3078, tC (zi 0) 3079), (3079, tLal 3080), (3080, tIld 7 3082), (3082, tI2l 3083), (3083, tLcmp 3084), (3084, tIf_eq 3089 3087), (3087, tC (zi 0) 3088), (3088, tRi zPz), (3089, tGo 3161)]
set_option maxRecDepth 100000 in
set_option maxHeartbeats 1500000 in
theorem hs_LW53 {l : Launch} (hl : l.stackTraces = false) (p : Program) (e : Env) (s : State) (m : MethodId) (args : Array Value) (below : List Frame) (meth : Method) (c : Code) (D : va_G) (A : Nat → Prop) (a0 : Nat → Nat) (M0 : ZM) (K : ZRet) (KX : ZEx) (mc ms : Nat) (X : zCtx p l room_1 s m args meth c code RL (Cond.initialized RX8 :: zG) 10 (Option.some Jvm.ClassFile.FieldType.boolean) D A a0 M0 mc ms) (hNc : zNc0 s) : ∀ q ∈ cd_LW53, zSd p l e room_1 s m args below meth c 10 D A a0 M0 K KX mc ms q.1 q.2 :=
    zall_c (zs_aload_n X (pc := 3036) (q := 1) rfl (by decide +kernel)) <|
    zall_c (zs_aload_n X (pc := 3037) (q := 0) rfl (by decide +kernel)) <|
    zall_c (zs_iload X (pc := 3038) (by decide +kernel)) <|
    zall_c (zs_iconst X (pc := 3040) (by decide) (by decide +kernel)) <|
    zall_c (zs_iadd X (pc := 3041) (by decide +kernel)) <|
    zall_c (zs_iaload20 X (pc := 3042) (by decide +kernel)) <|
    zall_c (zs_aload_n X (pc := 3043) (q := 3) rfl (by decide +kernel)) <|
    zall_c (zs_callSW X (pc := 3044) hNc (fun _ ht => zCSW ht gw_7_162 gw_1_0 gw_7_160 gw_7_161 rfl rfl (by decide +kernel) ⟨Nat.le_of_ble_eq_true rfl, Nat.le_of_ble_eq_true rfl⟩) (M_L_writeRow hl) (by decide +kernel)) <|
    zall_c (zs_istore X (pc := 3047) (by decide) (by decide +kernel)) <|
    zall_c (zs_aload_n X (pc := 3049) (q := 2) rfl (by decide +kernel)) <|
    zall_c (zs_aload_n X (pc := 3050) (q := 0) rfl (by decide +kernel)) <|
    zall_c (zs_iload X (pc := 3051) (by decide +kernel)) <|
    zall_c (zs_iconst X (pc := 3053) (by decide) (by decide +kernel)) <|
    zall_c (zs_iadd X (pc := 3054) (by decide +kernel)) <|
    zall_c (zs_iaload20 X (pc := 3055) (by decide +kernel)) <|
    zall_c (zs_callVt X (pc := 3056) zc_X9 (fun _ ht => ⟨(zCB ht gw_10_157 gw_1_13 gw_10_154 rfl rfl (by decide +kernel) ⟨Nat.le_of_ble_eq_true rfl, Nat.le_of_ble_eq_true rfl⟩), ht _ (.tail _ gw_10_155), ht _ (.tail _ gw_10_156)⟩) (M_X9_writeRow hl) (by decide +kernel)) <|
    zall_c (zs_istore X (pc := 3059) (by decide) (by decide +kernel)) <|
    zall_c (zs_aload_n X (pc := 3061) (q := 2) rfl (by decide +kernel)) <|
    zall_c (zs_callVt X (pc := 3062) zc_X9 (fun _ ht => ⟨(zCB ht gw_7_208 gw_1_13 gw_7_205 rfl rfl (by decide +kernel) ⟨Nat.le_of_ble_eq_true rfl, Nat.le_of_ble_eq_true rfl⟩), ht _ (.tail _ gw_7_206), ht _ (.tail _ gw_7_207)⟩) (M_X9_thrown hl) (by decide +kernel)) <|
    zall_c (zs_iload X (pc := 3065) (by decide +kernel)) <|
    zall_c (zs_icmp_eq X (pc := 3067) (off := 5) (by decide +kernel) (by decide)) <|
    zall_c (zs_iconst X (pc := 3070) (by decide) (by decide +kernel)) <|
    zall_c (zs_zret X (pc := 3071) rfl zR_bool (by decide +kernel)) <|
    zall_c (zs_iload X (pc := 3072) (by decide +kernel)) <|
    zall_c (zs_if_ne X (pc := 3074) (off := 15) (by decide +kernel) (by decide)) <|
    zall_c (zs_aload_n X (pc := 3077) (q := 3) rfl (by decide +kernel)) <|
    zall_c (zs_iconst X (pc := 3078) (by decide) (by decide +kernel)) <|
    zall_c (zs_laload23 X (pc := 3079) (by decide +kernel)) <|
    zall_c (zs_iload X (pc := 3080) (by decide +kernel)) <|
    zall_c (zs_i2l X (pc := 3082) (by decide +kernel)) <|
    zall_c (zs_lcmp X (pc := 3083) (by decide +kernel)) <|
    zall_c (zs_if_eq X (pc := 3084) (off := 5) (by decide +kernel) (by decide)) <|
    zall_c (zs_iconst X (pc := 3087) (by decide) (by decide +kernel)) <|
    zall_c (zs_zret X (pc := 3088) rfl zR_bool (by decide +kernel)) <|
    zall_c (zs_goto X (pc := 3089) (off := 72) (by decide +kernel) (by decide)) <|
    zall_n
def cd_LW54 : List (Nat × ZTr) := [(3092, tAld 1 3093), (3093, tCall 1 300 600 (zNt T_X8_writeWorkers) (zRcv 11) 3096), (3096, tAld 2 3097), (3097, tCall 1 0 0 (zNt T_X9_writeWorkers) (zRcv 12) 3100), (3100, tIc_eq 3161 3103), (3103, tC (zi 0) 3104), (3104, tRi zPz)]
set_option maxRecDepth 100000 in
set_option maxHeartbeats 1500000 in
theorem hs_LW54 {l : Launch} (hl : l.stackTraces = false) (p : Program) (e : Env) (s : State) (m : MethodId) (args : Array Value) (below : List Frame) (meth : Method) (c : Code) (D : va_G) (A : Nat → Prop) (a0 : Nat → Nat) (M0 : ZM) (K : ZRet) (KX : ZEx) (mc ms : Nat) (X : zCtx p l room_1 s m args meth c code RL (Cond.initialized RX8 :: zG) 10 (Option.some Jvm.ClassFile.FieldType.boolean) D A a0 M0 mc ms) (hNc : zNc0 s) : ∀ q ∈ cd_LW54, zSd p l e room_1 s m args below meth c 10 D A a0 M0 K KX mc ms q.1 q.2 :=
    zall_c (zs_aload_n X (pc := 3092) (q := 1) rfl (by decide +kernel)) <|
    zall_c (zs_callVt X (pc := 3093) zc_X8 (fun _ ht => ⟨(zCB ht gw_5_127 gw_1_1 gw_5_124 rfl rfl (by decide +kernel) ⟨Nat.le_of_ble_eq_true rfl, Nat.le_of_ble_eq_true rfl⟩), ht _ (.tail _ gw_5_125), ht _ (.tail _ gw_5_126)⟩) (M_X8_writeWorkers hl) (by decide +kernel)) <|
    zall_c (zs_aload_n X (pc := 3096) (q := 2) rfl (by decide +kernel)) <|
    zall_c (zs_callVt X (pc := 3097) zc_X9 (fun _ ht => ⟨(zCB ht gw_10_165 gw_1_13 gw_10_162 rfl rfl (by decide +kernel) ⟨Nat.le_of_ble_eq_true rfl, Nat.le_of_ble_eq_true rfl⟩), ht _ (.tail _ gw_10_163), ht _ (.tail _ gw_10_164)⟩) (M_X9_writeWorkers hl) (by decide +kernel)) <|
    zall_c (zs_icmp_eq X (pc := 3100) (off := 61) (by decide +kernel) (by decide)) <|
    zall_c (zs_iconst X (pc := 3103) (by decide) (by decide +kernel)) <|
    zall_c (zs_zret X (pc := 3104) rfl zR_bool (by decide +kernel)) <|
    zall_n
def cd_LW55 : List (Nat × ZTr) := [(3105, tAld 1 3106), (3106, tAld 0 3107), (3107, tIld 5 3109), (3109, tC (zi 1) 3110), (3110, tAdd 3111), (3111, tIal 20 3112), (3112, tAld 3 3113), (3113, tCall 3 1 6 (fun av M K _ => T_L_outputByte av M K) zAny 3116), (3116, tIst 6 3118), (3118, tAld 2 3119), (3119, tAld 0 3120), (3120, tIld 5 3122), (3122, tC (zi 1) 3123), (3123, tAdd 3124), (3124, tIal 20 3125), (3125, tCall 2 0 0 (zNt T_X9_outputByte) (zRcv 12) 3128), (3128, tIst 7 3130), (3130, tAld 2 3131), (3131, tCall 1 0 0 (zNt T_X9_thrown) (zRcv 12) 3134), (3134, tIld 6 3136), (3136, tIc_eq 3141 3139), (3139, tC (zi 0) 3140), (3140, tRi zPz), (3141, tIld 6 3143), (3143, tIf_ne 3158 3146), (3146, tAld 3 3147), (3147, tC (zi 0) 3148), (3148, tLal 3149), (3149, tIld 7 3151), (3151, tI2l 3152), (3152, tLcmp 3153), (3153, tIf_eq 3158 3156), (3156, tC (zi 0) 3157), (3157, tRi zPz), (3158, tGo 3161)]
set_option maxRecDepth 100000 in
set_option maxHeartbeats 1500000 in
theorem hs_LW55 {l : Launch} (hl : l.stackTraces = false) (p : Program) (e : Env) (s : State) (m : MethodId) (args : Array Value) (below : List Frame) (meth : Method) (c : Code) (D : va_G) (A : Nat → Prop) (a0 : Nat → Nat) (M0 : ZM) (K : ZRet) (KX : ZEx) (mc ms : Nat) (X : zCtx p l room_1 s m args meth c code RL (Cond.initialized RX8 :: zG) 10 (Option.some Jvm.ClassFile.FieldType.boolean) D A a0 M0 mc ms) (hNc : zNc0 s) : ∀ q ∈ cd_LW55, zSd p l e room_1 s m args below meth c 10 D A a0 M0 K KX mc ms q.1 q.2 :=
    zall_c (zs_aload_n X (pc := 3105) (q := 1) rfl (by decide +kernel)) <|
    zall_c (zs_aload_n X (pc := 3106) (q := 0) rfl (by decide +kernel)) <|
    zall_c (zs_iload X (pc := 3107) (by decide +kernel)) <|
    zall_c (zs_iconst X (pc := 3109) (by decide) (by decide +kernel)) <|
    zall_c (zs_iadd X (pc := 3110) (by decide +kernel)) <|
    zall_c (zs_iaload20 X (pc := 3111) (by decide +kernel)) <|
    zall_c (zs_aload_n X (pc := 3112) (q := 3) rfl (by decide +kernel)) <|
    zall_c (zs_callSW X (pc := 3113) hNc (fun _ ht => zCSW ht gw_7_173 gw_1_0 gw_7_171 gw_7_172 rfl rfl (by decide +kernel) ⟨Nat.le_of_ble_eq_true rfl, Nat.le_of_ble_eq_true rfl⟩) (M_L_outputByte hl) (by decide +kernel)) <|
    zall_c (zs_istore X (pc := 3116) (by decide) (by decide +kernel)) <|
    zall_c (zs_aload_n X (pc := 3118) (q := 2) rfl (by decide +kernel)) <|
    zall_c (zs_aload_n X (pc := 3119) (q := 0) rfl (by decide +kernel)) <|
    zall_c (zs_iload X (pc := 3120) (by decide +kernel)) <|
    zall_c (zs_iconst X (pc := 3122) (by decide) (by decide +kernel)) <|
    zall_c (zs_iadd X (pc := 3123) (by decide +kernel)) <|
    zall_c (zs_iaload20 X (pc := 3124) (by decide +kernel)) <|
    zall_c (zs_callVt X (pc := 3125) zc_X9 (fun _ ht => ⟨(zCB ht gw_10_169 gw_1_13 gw_10_166 rfl rfl (by decide +kernel) ⟨Nat.le_of_ble_eq_true rfl, Nat.le_of_ble_eq_true rfl⟩), ht _ (.tail _ gw_10_167), ht _ (.tail _ gw_10_168)⟩) (M_X9_outputByte hl) (by decide +kernel)) <|
    zall_c (zs_istore X (pc := 3128) (by decide) (by decide +kernel)) <|
    zall_c (zs_aload_n X (pc := 3130) (q := 2) rfl (by decide +kernel)) <|
    zall_c (zs_callVt X (pc := 3131) zc_X9 (fun _ ht => ⟨(zCB ht gw_7_208 gw_1_13 gw_7_205 rfl rfl (by decide +kernel) ⟨Nat.le_of_ble_eq_true rfl, Nat.le_of_ble_eq_true rfl⟩), ht _ (.tail _ gw_7_206), ht _ (.tail _ gw_7_207)⟩) (M_X9_thrown hl) (by decide +kernel)) <|
    zall_c (zs_iload X (pc := 3134) (by decide +kernel)) <|
    zall_c (zs_icmp_eq X (pc := 3136) (off := 5) (by decide +kernel) (by decide)) <|
    zall_c (zs_iconst X (pc := 3139) (by decide) (by decide +kernel)) <|
    zall_c (zs_zret X (pc := 3140) rfl zR_bool (by decide +kernel)) <|
    zall_c (zs_iload X (pc := 3141) (by decide +kernel)) <|
    zall_c (zs_if_ne X (pc := 3143) (off := 15) (by decide +kernel) (by decide)) <|
    zall_c (zs_aload_n X (pc := 3146) (q := 3) rfl (by decide +kernel)) <|
    zall_c (zs_iconst X (pc := 3147) (by decide) (by decide +kernel)) <|
    zall_c (zs_laload23 X (pc := 3148) (by decide +kernel)) <|
    zall_c (zs_iload X (pc := 3149) (by decide +kernel)) <|
    zall_c (zs_i2l X (pc := 3151) (by decide +kernel)) <|
    zall_c (zs_lcmp X (pc := 3152) (by decide +kernel)) <|
    zall_c (zs_if_eq X (pc := 3153) (off := 5) (by decide +kernel) (by decide)) <|
    zall_c (zs_iconst X (pc := 3156) (by decide) (by decide +kernel)) <|
    zall_c (zs_zret X (pc := 3157) rfl zR_bool (by decide +kernel)) <|
    zall_c (zs_goto X (pc := 3158) (off := 3) (by decide +kernel) (by decide)) <|
    zall_n
