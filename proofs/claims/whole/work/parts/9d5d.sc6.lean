/-! the rows of the law, on -/
def cd_LW36 : List (Nat × ZTr) := [(2056, tAld 1 2057), (2057, tAld 0 2058), (2058, tIld 5 2060), (2060, tC (zi 1) 2061), (2061, tAdd 2062), (2062, tIal 20 2063), (2063, tAld 3 2064), (2064, tCall 3 1 6 (fun av M K _ => T_L_place av M K) zAny 2067), (2067, tIst 6 2069), (2069, tAld 2 2070), (2070, tAld 0 2071), (2071, tIld 5 2073), (2073, tC (zi 1) 2074), (2074, tAdd 2075), (2075, tIal 20 2076), (2076, tCall 2 0 0 (zNt T_X9_place) (zRcv 12) 2079), (2079, tIst 7 2081), (2081, tAld 2 2082), (2082, tCall 1 0 0 (zNt T_X9_thrown) (zRcv 12) 2085), (2085, tIld 6 2087), (2087, tIc_eq 2092 2090), (2090, tC (zi 0) 2091), (2091, tRi zPz), (2092, tIld 6 2094), (2094, tIf_ne 2109 2097), (2097, tAld 3 2098), (2098, tC (zi 0) 2099), (2099, tLal 2100), (2100, tIld 7 2102), (2102, tI2l 2103), (2103, tLcmp 2104), (2104, tIf_eq 2109 2107), (2107, tC (zi 0) 2108), (2108, tRi zPz), (2109, tGo 3161)]
set_option maxRecDepth 100000 in
set_option maxHeartbeats 1500000 in
theorem hs_LW36 {l : Launch} (hl : l.stackTraces = false) (p : Program) (e : Env) (s : State) (m : MethodId) (args : Array Value) (below : List Frame) (meth : Method) (c : Code) (D : va_G) (A : Nat → Prop) (a0 : Nat → Nat) (M0 : ZM) (K : ZRet) (KX : ZEx) (mc ms : Nat) (X : zCtx p l room_1 s m args meth c code RL (Cond.initialized RX8 :: zG) 10 (Option.some Jvm.ClassFile.FieldType.boolean) D A a0 M0 mc ms) (hNc : zNc0 s) : ∀ q ∈ cd_LW36, zSd p l e room_1 s m args below meth c 10 D A a0 M0 K KX mc ms q.1 q.2 :=
    zall_c (zs_aload_n X (pc := 2056) (q := 1) rfl (by decide +kernel)) <|
    zall_c (zs_aload_n X (pc := 2057) (q := 0) rfl (by decide +kernel)) <|
    zall_c (zs_iload X (pc := 2058) (by decide +kernel)) <|
    zall_c (zs_iconst X (pc := 2060) (by decide) (by decide +kernel)) <|
    zall_c (zs_iadd X (pc := 2061) (by decide +kernel)) <|
    zall_c (zs_iaload20 X (pc := 2062) (by decide +kernel)) <|
    zall_c (zs_aload_n X (pc := 2063) (q := 3) rfl (by decide +kernel)) <|
    zall_c (zs_callSW X (pc := 2064) hNc (fun _ ht => zCSW ht gw_6_214 gw_1_0 gw_6_212 gw_6_213 rfl rfl (by decide +kernel) ⟨Nat.le_of_ble_eq_true rfl, Nat.le_of_ble_eq_true rfl⟩) (M_L_place hl) (by decide +kernel)) <|
    zall_c (zs_istore X (pc := 2067) (by decide) (by decide +kernel)) <|
    zall_c (zs_aload_n X (pc := 2069) (q := 2) rfl (by decide +kernel)) <|
    zall_c (zs_aload_n X (pc := 2070) (q := 0) rfl (by decide +kernel)) <|
    zall_c (zs_iload X (pc := 2071) (by decide +kernel)) <|
    zall_c (zs_iconst X (pc := 2073) (by decide) (by decide +kernel)) <|
    zall_c (zs_iadd X (pc := 2074) (by decide +kernel)) <|
    zall_c (zs_iaload20 X (pc := 2075) (by decide +kernel)) <|
    zall_c (zs_callVt X (pc := 2076) zc_X9 (fun _ ht => ⟨(zCB ht gw_10_55 gw_1_13 gw_10_52 rfl rfl (by decide +kernel) ⟨Nat.le_of_ble_eq_true rfl, Nat.le_of_ble_eq_true rfl⟩), ht _ (.tail _ gw_10_53), ht _ (.tail _ gw_10_54)⟩) (M_X9_place hl) (by decide +kernel)) <|
    zall_c (zs_istore X (pc := 2079) (by decide) (by decide +kernel)) <|
    zall_c (zs_aload_n X (pc := 2081) (q := 2) rfl (by decide +kernel)) <|
    zall_c (zs_callVt X (pc := 2082) zc_X9 (fun _ ht => ⟨(zCB ht gw_7_208 gw_1_13 gw_7_205 rfl rfl (by decide +kernel) ⟨Nat.le_of_ble_eq_true rfl, Nat.le_of_ble_eq_true rfl⟩), ht _ (.tail _ gw_7_206), ht _ (.tail _ gw_7_207)⟩) (M_X9_thrown hl) (by decide +kernel)) <|
    zall_c (zs_iload X (pc := 2085) (by decide +kernel)) <|
    zall_c (zs_icmp_eq X (pc := 2087) (off := 5) (by decide +kernel) (by decide)) <|
    zall_c (zs_iconst X (pc := 2090) (by decide) (by decide +kernel)) <|
    zall_c (zs_zret X (pc := 2091) rfl zR_bool (by decide +kernel)) <|
    zall_c (zs_iload X (pc := 2092) (by decide +kernel)) <|
    zall_c (zs_if_ne X (pc := 2094) (off := 15) (by decide +kernel) (by decide)) <|
    zall_c (zs_aload_n X (pc := 2097) (q := 3) rfl (by decide +kernel)) <|
    zall_c (zs_iconst X (pc := 2098) (by decide) (by decide +kernel)) <|
    zall_c (zs_laload23 X (pc := 2099) (by decide +kernel)) <|
    zall_c (zs_iload X (pc := 2100) (by decide +kernel)) <|
    zall_c (zs_i2l X (pc := 2102) (by decide +kernel)) <|
    zall_c (zs_lcmp X (pc := 2103) (by decide +kernel)) <|
    zall_c (zs_if_eq X (pc := 2104) (off := 5) (by decide +kernel) (by decide)) <|
    zall_c (zs_iconst X (pc := 2107) (by decide) (by decide +kernel)) <|
    zall_c (zs_zret X (pc := 2108) rfl zR_bool (by decide +kernel)) <|
    zall_c (zs_goto X (pc := 2109) (off := 1052) (by decide +kernel) (by decide)) <|
    zall_n
def cd_LW37 : List (Nat × ZTr) := [(2112, tAld 1 2113), (2113, tAld 0 2114), (2114, tIld 5 2116), (2116, tC (zi 1) 2117), (2117, tAdd 2118), (2118, tIal 20 2119), (2119, tAld 3 2120), (2120, tCall 3 1 6 (fun av M K _ => T_L_partner av M K) zAny 2123), (2123, tIst 6 2125), (2125, tAld 2 2126), (2126, tAld 0 2127), (2127, tIld 5 2129), (2129, tC (zi 1) 2130), (2130, tAdd 2131), (2131, tIal 20 2132), (2132, tCall 2 0 0 (zNt T_X9_partner) (zRcv 12) 2135), (2135, tIst 7 2137), (2137, tAld 2 2138), (2138, tCall 1 0 0 (zNt T_X9_thrown) (zRcv 12) 2141), (2141, tIld 6 2143), (2143, tIc_eq 2148 2146), (2146, tC (zi 0) 2147), (2147, tRi zPz), (2148, tIld 6 2150), (2150, tIf_ne 2165 2153), (2153, tAld 3 2154), (2154, tC (zi 0) 2155), (2155, tLal 2156), (2156, tIld 7 2158), (2158, tI2l 2159), (2159, tLcmp 2160), (2160, tIf_eq 2165 2163), (2163, tC (zi 0) 2164), (2164, tRi zPz), (2165, tGo 3161)]
set_option maxRecDepth 100000 in
set_option maxHeartbeats 1500000 in
theorem hs_LW37 {l : Launch} (hl : l.stackTraces = false) (p : Program) (e : Env) (s : State) (m : MethodId) (args : Array Value) (below : List Frame) (meth : Method) (c : Code) (D : va_G) (A : Nat → Prop) (a0 : Nat → Nat) (M0 : ZM) (K : ZRet) (KX : ZEx) (mc ms : Nat) (X : zCtx p l room_1 s m args meth c code RL (Cond.initialized RX8 :: zG) 10 (Option.some Jvm.ClassFile.FieldType.boolean) D A a0 M0 mc ms) (hNc : zNc0 s) : ∀ q ∈ cd_LW37, zSd p l e room_1 s m args below meth c 10 D A a0 M0 K KX mc ms q.1 q.2 :=
    zall_c (zs_aload_n X (pc := 2112) (q := 1) rfl (by decide +kernel)) <|
    zall_c (zs_aload_n X (pc := 2113) (q := 0) rfl (by decide +kernel)) <|
    zall_c (zs_iload X (pc := 2114) (by decide +kernel)) <|
    zall_c (zs_iconst X (pc := 2116) (by decide) (by decide +kernel)) <|
    zall_c (zs_iadd X (pc := 2117) (by decide +kernel)) <|
    zall_c (zs_iaload20 X (pc := 2118) (by decide +kernel)) <|
    zall_c (zs_aload_n X (pc := 2119) (q := 3) rfl (by decide +kernel)) <|
    zall_c (zs_callSW X (pc := 2120) hNc (fun _ ht => zCSW ht gw_6_221 gw_1_0 gw_6_219 gw_6_220 rfl rfl (by decide +kernel) ⟨Nat.le_of_ble_eq_true rfl, Nat.le_of_ble_eq_true rfl⟩) (M_L_partner hl) (by decide +kernel)) <|
    zall_c (zs_istore X (pc := 2123) (by decide) (by decide +kernel)) <|
    zall_c (zs_aload_n X (pc := 2125) (q := 2) rfl (by decide +kernel)) <|
    zall_c (zs_aload_n X (pc := 2126) (q := 0) rfl (by decide +kernel)) <|
    zall_c (zs_iload X (pc := 2127) (by decide +kernel)) <|
    zall_c (zs_iconst X (pc := 2129) (by decide) (by decide +kernel)) <|
    zall_c (zs_iadd X (pc := 2130) (by decide +kernel)) <|
    zall_c (zs_iaload20 X (pc := 2131) (by decide +kernel)) <|
    zall_c (zs_callVt X (pc := 2132) zc_X9 (fun _ ht => ⟨(zCB ht gw_9_178 gw_1_13 gw_9_175 rfl rfl (by decide +kernel) ⟨Nat.le_of_ble_eq_true rfl, Nat.le_of_ble_eq_true rfl⟩), ht _ (.tail _ gw_9_176), ht _ (.tail _ gw_9_177)⟩) (M_X9_partner hl) (by decide +kernel)) <|
    zall_c (zs_istore X (pc := 2135) (by decide) (by decide +kernel)) <|
    zall_c (zs_aload_n X (pc := 2137) (q := 2) rfl (by decide +kernel)) <|
    zall_c (zs_callVt X (pc := 2138) zc_X9 (fun _ ht => ⟨(zCB ht gw_7_208 gw_1_13 gw_7_205 rfl rfl (by decide +kernel) ⟨Nat.le_of_ble_eq_true rfl, Nat.le_of_ble_eq_true rfl⟩), ht _ (.tail _ gw_7_206), ht _ (.tail _ gw_7_207)⟩) (M_X9_thrown hl) (by decide +kernel)) <|
    zall_c (zs_iload X (pc := 2141) (by decide +kernel)) <|
    zall_c (zs_icmp_eq X (pc := 2143) (off := 5) (by decide +kernel) (by decide)) <|
    zall_c (zs_iconst X (pc := 2146) (by decide) (by decide +kernel)) <|
    zall_c (zs_zret X (pc := 2147) rfl zR_bool (by decide +kernel)) <|
    zall_c (zs_iload X (pc := 2148) (by decide +kernel)) <|
    zall_c (zs_if_ne X (pc := 2150) (off := 15) (by decide +kernel) (by decide)) <|
    zall_c (zs_aload_n X (pc := 2153) (q := 3) rfl (by decide +kernel)) <|
    zall_c (zs_iconst X (pc := 2154) (by decide) (by decide +kernel)) <|
    zall_c (zs_laload23 X (pc := 2155) (by decide +kernel)) <|
    zall_c (zs_iload X (pc := 2156) (by decide +kernel)) <|
    zall_c (zs_i2l X (pc := 2158) (by decide +kernel)) <|
    zall_c (zs_lcmp X (pc := 2159) (by decide +kernel)) <|
    zall_c (zs_if_eq X (pc := 2160) (off := 5) (by decide +kernel) (by decide)) <|
    zall_c (zs_iconst X (pc := 2163) (by decide) (by decide +kernel)) <|
    zall_c (zs_zret X (pc := 2164) rfl zR_bool (by decide +kernel)) <|
    zall_c (zs_goto X (pc := 2165) (off := 996) (by decide +kernel) (by decide)) <|
    zall_n
def cd_LW38 : List (Nat × ZTr) := [(2168, tAld 1 2169), (2169, tAld 0 2170), (2170, tIld 5 2172), (2172, tC (zi 1) 2173), (2173, tAdd 2174), (2174, tIal 20 2175), (2175, tAld 3 2176), (2176, tCall 3 2 12 (fun av M K _ => T_L_take av M K) zAny 2179), (2179, tIst 6 2181), (2181, tAld 2 2182), (2182, tAld 0 2183), (2183, tIld 5 2185), (2185, tC (zi 1) 2186), (2186, tAdd 2187), (2187, tIal 20 2188), (2188, tCall 2 0 0 (zNt T_X9_take) (zRcv 12) 2191), (2191, tIst 7 2193), (2193, tAld 2 2194), (2194, tCall 1 0 0 (zNt T_X9_thrown) (zRcv 12) 2197), (2197, tIld 6 2199), (2199, tIc_eq 2204 2202), (2202, tC (zi 0) 2203), (2203, tRi zPz), (2204, tIld 6 2206), (2206, tIf_ne 2221 2209), (2209, tAld 3 2210), (2210, tC (zi 0) 2211), (2211, tLal 2212), (2212, tIld 7 2214), (2214, tI2l 2215), (2215, tLcmp 2216), (2216, tIf_eq 2221 2219), (2219, tC (zi 0) 2220), (2220, tRi zPz), (2221, tGo 3161)]
set_option maxRecDepth 100000 in
set_option maxHeartbeats 1500000 in
theorem hs_LW38 {l : Launch} (hl : l.stackTraces = false) (p : Program) (e : Env) (s : State) (m : MethodId) (args : Array Value) (below : List Frame) (meth : Method) (c : Code) (D : va_G) (A : Nat → Prop) (a0 : Nat → Nat) (M0 : ZM) (K : ZRet) (KX : ZEx) (mc ms : Nat) (X : zCtx p l room_1 s m args meth c code RL (Cond.initialized RX8 :: zG) 10 (Option.some Jvm.ClassFile.FieldType.boolean) D A a0 M0 mc ms) (hNc : zNc0 s) : ∀ q ∈ cd_LW38, zSd p l e room_1 s m args below meth c 10 D A a0 M0 K KX mc ms q.1 q.2 :=
    zall_c (zs_aload_n X (pc := 2168) (q := 1) rfl (by decide +kernel)) <|
    zall_c (zs_aload_n X (pc := 2169) (q := 0) rfl (by decide +kernel)) <|
    zall_c (zs_iload X (pc := 2170) (by decide +kernel)) <|
    zall_c (zs_iconst X (pc := 2172) (by decide) (by decide +kernel)) <|
    zall_c (zs_iadd X (pc := 2173) (by decide +kernel)) <|
    zall_c (zs_iaload20 X (pc := 2174) (by decide +kernel)) <|
    zall_c (zs_aload_n X (pc := 2175) (q := 3) rfl (by decide +kernel)) <|
    zall_c (zs_callSW X (pc := 2176) hNc (fun _ ht => zCSW ht gw_6_228 gw_1_0 gw_6_226 gw_6_227 rfl rfl (by decide +kernel) ⟨Nat.le_of_ble_eq_true rfl, Nat.le_of_ble_eq_true rfl⟩) (M_L_take hl) (by decide +kernel)) <|
    zall_c (zs_istore X (pc := 2179) (by decide) (by decide +kernel)) <|
    zall_c (zs_aload_n X (pc := 2181) (q := 2) rfl (by decide +kernel)) <|
    zall_c (zs_aload_n X (pc := 2182) (q := 0) rfl (by decide +kernel)) <|
    zall_c (zs_iload X (pc := 2183) (by decide +kernel)) <|
    zall_c (zs_iconst X (pc := 2185) (by decide) (by decide +kernel)) <|
    zall_c (zs_iadd X (pc := 2186) (by decide +kernel)) <|
    zall_c (zs_iaload20 X (pc := 2187) (by decide +kernel)) <|
    zall_c (zs_callVt X (pc := 2188) zc_X9 (fun _ ht => ⟨(zCB ht gw_10_59 gw_1_13 gw_10_56 rfl rfl (by decide +kernel) ⟨Nat.le_of_ble_eq_true rfl, Nat.le_of_ble_eq_true rfl⟩), ht _ (.tail _ gw_10_57), ht _ (.tail _ gw_10_58)⟩) (M_X9_take hl) (by decide +kernel)) <|
    zall_c (zs_istore X (pc := 2191) (by decide) (by decide +kernel)) <|
    zall_c (zs_aload_n X (pc := 2193) (q := 2) rfl (by decide +kernel)) <|
    zall_c (zs_callVt X (pc := 2194) zc_X9 (fun _ ht => ⟨(zCB ht gw_7_208 gw_1_13 gw_7_205 rfl rfl (by decide +kernel) ⟨Nat.le_of_ble_eq_true rfl, Nat.le_of_ble_eq_true rfl⟩), ht _ (.tail _ gw_7_206), ht _ (.tail _ gw_7_207)⟩) (M_X9_thrown hl) (by decide +kernel)) <|
    zall_c (zs_iload X (pc := 2197) (by decide +kernel)) <|
    zall_c (zs_icmp_eq X (pc := 2199) (off := 5) (by decide +kernel) (by decide)) <|
    zall_c (zs_iconst X (pc := 2202) (by decide) (by decide +kernel)) <|
    zall_c (zs_zret X (pc := 2203) rfl zR_bool (by decide +kernel)) <|
    zall_c (zs_iload X (pc := 2204) (by decide +kernel)) <|
    zall_c (zs_if_ne X (pc := 2206) (off := 15) (by decide +kernel) (by decide)) <|
    zall_c (zs_aload_n X (pc := 2209) (q := 3) rfl (by decide +kernel)) <|
    zall_c (zs_iconst X (pc := 2210) (by decide) (by decide +kernel)) <|
    zall_c (zs_laload23 X (pc := 2211) (by decide +kernel)) <|
    zall_c (zs_iload X (pc := 2212) (by decide +kernel)) <|
    zall_c (zs_i2l X (pc := 2214) (by decide +kernel)) <|
    zall_c (zs_lcmp X (pc := 2215) (by decide +kernel)) <|
    zall_c (zs_if_eq X (pc := 2216) (off := 5) (by decide +kernel) (by decide)) <|
    zall_c (zs_iconst X (pc := 2219) (by decide) (by decide +kernel)) <|
    zall_c (zs_zret X (pc := 2220) rfl zR_bool (by decide +kernel)) <|
    zall_c (zs_goto X (pc := 2221) (off := 940) (by decide +kernel) (by decide)) <|
    zall_n
def cd_LW39 : List (Nat × ZTr) := [(2224, tAld 1 2225), (2225, tAld 0 2226), (2226, tIld 5 2228), (2228, tC (zi 1) 2229), (2229, tAdd 2230), (2230, tIal 20 2231), (2231, tAld 0 2232), (2232, tIld 5 2234), (2234, tC (zi 2) 2235), (2235, tAdd 2236), (2236, tIal 20 2237), (2237, tAld 3 2238), (2238, tCall 4 3 18 (fun av M K _ => T_L_takeRow av M K) zAny 2241), (2241, tIst 6 2243), (2243, tAld 2 2244), (2244, tAld 0 2245), (2245, tIld 5 2247), (2247, tC (zi 1) 2248), (2248, tAdd 2249), (2249, tIal 20 2250), (2250, tAld 0 2251), (2251, tIld 5 2253), (2253, tC (zi 2) 2254), (2254, tAdd 2255), (2255, tIal 20 2256), (2256, tCall 3 0 0 (zNt T_X9_takeRow) (zRcv 12) 2259), (2259, tIst 7 2261), (2261, tAld 2 2262), (2262, tCall 1 0 0 (zNt T_X9_thrown) (zRcv 12) 2265), (2265, tIld 6 2267), (2267, tIc_eq 2272 2270), (2270, tC (zi 0) 2271), (2271, tRi zPz), (2272, tIld 6 2274), (2274, tIf_ne 2289 2277), (2277, tAld 3 2278), (2278, tC (zi 0) 2279), (2279, tLal 2280), (2280, tIld 7 2282), (2282, tI2l 2283), (2283, tLcmp 2284), (2284, tIf_eq 2289 2287), (2287, tC (zi 0) 2288), (2288, tRi zPz), (2289, tGo 3161)]
set_option maxRecDepth 100000 in
set_option maxHeartbeats 1500000 in
theorem hs_LW39 {l : Launch} (hl : l.stackTraces = false) (p : Program) (e : Env) (s : State) (m : MethodId) (args : Array Value) (below : List Frame) (meth : Method) (c : Code) (D : va_G) (A : Nat → Prop) (a0 : Nat → Nat) (M0 : ZM) (K : ZRet) (KX : ZEx) (mc ms : Nat) (X : zCtx p l room_1 s m args meth c code RL (Cond.initialized RX8 :: zG) 10 (Option.some Jvm.ClassFile.FieldType.boolean) D A a0 M0 mc ms) (hNc : zNc0 s) : ∀ q ∈ cd_LW39, zSd p l e room_1 s m args below meth c 10 D A a0 M0 K KX mc ms q.1 q.2 :=
    zall_c (zs_aload_n X (pc := 2224) (q := 1) rfl (by decide +kernel)) <|
    zall_c (zs_aload_n X (pc := 2225) (q := 0) rfl (by decide +kernel)) <|
    zall_c (zs_iload X (pc := 2226) (by decide +kernel)) <|
    zall_c (zs_iconst X (pc := 2228) (by decide) (by decide +kernel)) <|
    zall_c (zs_iadd X (pc := 2229) (by decide +kernel)) <|
    zall_c (zs_iaload20 X (pc := 2230) (by decide +kernel)) <|
    zall_c (zs_aload_n X (pc := 2231) (q := 0) rfl (by decide +kernel)) <|
    zall_c (zs_iload X (pc := 2232) (by decide +kernel)) <|
    zall_c (zs_iconst X (pc := 2234) (by decide) (by decide +kernel)) <|
    zall_c (zs_iadd X (pc := 2235) (by decide +kernel)) <|
    zall_c (zs_iaload20 X (pc := 2236) (by decide +kernel)) <|
    zall_c (zs_aload_n X (pc := 2237) (q := 3) rfl (by decide +kernel)) <|
    zall_c (zs_callSW X (pc := 2238) hNc (fun _ ht => zCSW ht gw_7_8 gw_1_0 gw_7_6 gw_7_7 rfl rfl (by decide +kernel) ⟨Nat.le_of_ble_eq_true rfl, Nat.le_of_ble_eq_true rfl⟩) (M_L_takeRow hl) (by decide +kernel)) <|
    zall_c (zs_istore X (pc := 2241) (by decide) (by decide +kernel)) <|
    zall_c (zs_aload_n X (pc := 2243) (q := 2) rfl (by decide +kernel)) <|
    zall_c (zs_aload_n X (pc := 2244) (q := 0) rfl (by decide +kernel)) <|
    zall_c (zs_iload X (pc := 2245) (by decide +kernel)) <|
    zall_c (zs_iconst X (pc := 2247) (by decide) (by decide +kernel)) <|
    zall_c (zs_iadd X (pc := 2248) (by decide +kernel)) <|
    zall_c (zs_iaload20 X (pc := 2249) (by decide +kernel)) <|
    zall_c (zs_aload_n X (pc := 2250) (q := 0) rfl (by decide +kernel)) <|
    zall_c (zs_iload X (pc := 2251) (by decide +kernel)) <|
    zall_c (zs_iconst X (pc := 2253) (by decide) (by decide +kernel)) <|
    zall_c (zs_iadd X (pc := 2254) (by decide +kernel)) <|
    zall_c (zs_iaload20 X (pc := 2255) (by decide +kernel)) <|
    zall_c (zs_callVt X (pc := 2256) zc_X9 (fun _ ht => ⟨(zCB ht gw_10_67 gw_1_13 gw_10_64 rfl rfl (by decide +kernel) ⟨Nat.le_of_ble_eq_true rfl, Nat.le_of_ble_eq_true rfl⟩), ht _ (.tail _ gw_10_65), ht _ (.tail _ gw_10_66)⟩) (M_X9_takeRow hl) (by decide +kernel)) <|
    zall_c (zs_istore X (pc := 2259) (by decide) (by decide +kernel)) <|
    zall_c (zs_aload_n X (pc := 2261) (q := 2) rfl (by decide +kernel)) <|
    zall_c (zs_callVt X (pc := 2262) zc_X9 (fun _ ht => ⟨(zCB ht gw_7_208 gw_1_13 gw_7_205 rfl rfl (by decide +kernel) ⟨Nat.le_of_ble_eq_true rfl, Nat.le_of_ble_eq_true rfl⟩), ht _ (.tail _ gw_7_206), ht _ (.tail _ gw_7_207)⟩) (M_X9_thrown hl) (by decide +kernel)) <|
    zall_c (zs_iload X (pc := 2265) (by decide +kernel)) <|
    zall_c (zs_icmp_eq X (pc := 2267) (off := 5) (by decide +kernel) (by decide)) <|
    zall_c (zs_iconst X (pc := 2270) (by decide) (by decide +kernel)) <|
    zall_c (zs_zret X (pc := 2271) rfl zR_bool (by decide +kernel)) <|
    zall_c (zs_iload X (pc := 2272) (by decide +kernel)) <|
    zall_c (zs_if_ne X (pc := 2274) (off := 15) (by decide +kernel) (by decide)) <|
    zall_c (zs_aload_n X (pc := 2277) (q := 3) rfl (by decide +kernel)) <|
    zall_c (zs_iconst X (pc := 2278) (by decide) (by decide +kernel)) <|
    zall_c (zs_laload23 X (pc := 2279) (by decide +kernel)) <|
    zall_c (zs_iload X (pc := 2280) (by decide +kernel)) <|
    zall_c (zs_i2l X (pc := 2282) (by decide +kernel)) <|
    zall_c (zs_lcmp X (pc := 2283) (by decide +kernel)) <|
    zall_c (zs_if_eq X (pc := 2284) (off := 5) (by decide +kernel) (by decide)) <|
    zall_c (zs_iconst X (pc := 2287) (by decide) (by decide +kernel)) <|
    zall_c (zs_zret X (pc := 2288) rfl zR_bool (by decide +kernel)) <|
    zall_c (zs_goto X (pc := 2289) (off := 872) (by decide +kernel) (by decide)) <|
    zall_n
def cd_LW40 : List (Nat × ZTr) := [(2292, tAld 1 2293), (2293, tAld 0 2294), (2294, tIld 5 2296), (2296, tC (zi 1) 2297), (2297, tAdd 2298), (2298, tIal 20 2299), (2299, tAld 0 2300), (2300, tIld 5 2302), (2302, tC (zi 2) 2303), (2303, tAdd 2304), (2304, tIal 20 2305), (2305, tAld 0 2306), (2306, tIld 5 2308), (2308, tC (zi 3) 2309), (2309, tAdd 2310), (2310, tIal 20 2311), (2311, tAld 3 2312), (2312, tCall 5 4 24 (fun av M K _ => T_L_deliver av M K) zAny 2315), (2315, tIst 6 2317), (2317, tAld 2 2318), (2318, tAld 0 2319), (2319, tIld 5 2321), (2321, tC (zi 1) 2322), (2322, tAdd 2323), (2323, tIal 20 2324), (2324, tAld 0 2325), (2325, tIld 5 2327), (2327, tC (zi 2) 2328), (2328, tAdd 2329), (2329, tIal 20 2330), (2330, tAld 0 2331), (2331, tIld 5 2333), (2333, tC (zi 3) 2334), (2334, tAdd 2335), (2335, tIal 20 2336), (2336, tCall 4 0 0 (zNt T_X9_deliver) (zRcv 12) 2339), (2339, tIst 7 2341), (2341, tAld 2 2342), (2342, tCall 1 0 0 (zNt T_X9_thrown) (zRcv 12) 2345), (2345, tIld 6 2347), (2347, tIc_eq 2352 2350), (2350, tC (zi 0) 2351), (2351, tRi zPz), (2352, tIld 6 2354), (2354, tIf_ne 2369 2357), (2357, tAld 3 2358), (2358, tC (zi 0) 2359), (2359, tLal 2360), (2360, tIld 7 2362), (2362, tI2l 2363), (2363, tLcmp 2364), (2364, tIf_eq 2369 2367), (2367, tC (zi 0) 2368), (2368, tRi zPz), (2369, tGo 3161)]
set_option maxRecDepth 100000 in
set_option maxHeartbeats 1500000 in
theorem hs_LW40 {l : Launch} (hl : l.stackTraces = false) (p : Program) (e : Env) (s : State) (m : MethodId) (args : Array Value) (below : List Frame) (meth : Method) (c : Code) (D : va_G) (A : Nat → Prop) (a0 : Nat → Nat) (M0 : ZM) (K : ZRet) (KX : ZEx) (mc ms : Nat) (X : zCtx p l room_1 s m args meth c code RL (Cond.initialized RX8 :: zG) 10 (Option.some Jvm.ClassFile.FieldType.boolean) D A a0 M0 mc ms) (hNc : zNc0 s) : ∀ q ∈ cd_LW40, zSd p l e room_1 s m args below meth c 10 D A a0 M0 K KX mc ms q.1 q.2 :=
    zall_c (zs_aload_n X (pc := 2292) (q := 1) rfl (by decide +kernel)) <|
    zall_c (zs_aload_n X (pc := 2293) (q := 0) rfl (by decide +kernel)) <|
    zall_c (zs_iload X (pc := 2294) (by decide +kernel)) <|
    zall_c (zs_iconst X (pc := 2296) (by decide) (by decide +kernel)) <|
    zall_c (zs_iadd X (pc := 2297) (by decide +kernel)) <|
    zall_c (zs_iaload20 X (pc := 2298) (by decide +kernel)) <|
    zall_c (zs_aload_n X (pc := 2299) (q := 0) rfl (by decide +kernel)) <|
    zall_c (zs_iload X (pc := 2300) (by decide +kernel)) <|
    zall_c (zs_iconst X (pc := 2302) (by decide) (by decide +kernel)) <|
    zall_c (zs_iadd X (pc := 2303) (by decide +kernel)) <|
    zall_c (zs_iaload20 X (pc := 2304) (by decide +kernel)) <|
    zall_c (zs_aload_n X (pc := 2305) (q := 0) rfl (by decide +kernel)) <|
    zall_c (zs_iload X (pc := 2306) (by decide +kernel)) <|
    zall_c (zs_iconst X (pc := 2308) (by decide) (by decide +kernel)) <|
    zall_c (zs_iadd X (pc := 2309) (by decide +kernel)) <|
    zall_c (zs_iaload20 X (pc := 2310) (by decide +kernel)) <|
    zall_c (zs_aload_n X (pc := 2311) (q := 3) rfl (by decide +kernel)) <|
    zall_c (zs_callSW X (pc := 2312) hNc (fun _ ht => zCSW ht gw_7_16 gw_1_0 gw_7_14 gw_7_15 rfl rfl (by decide +kernel) ⟨Nat.le_of_ble_eq_true rfl, Nat.le_of_ble_eq_true rfl⟩) (M_L_deliver hl) (by decide +kernel)) <|
    zall_c (zs_istore X (pc := 2315) (by decide) (by decide +kernel)) <|
    zall_c (zs_aload_n X (pc := 2317) (q := 2) rfl (by decide +kernel)) <|
    zall_c (zs_aload_n X (pc := 2318) (q := 0) rfl (by decide +kernel)) <|
    zall_c (zs_iload X (pc := 2319) (by decide +kernel)) <|
    zall_c (zs_iconst X (pc := 2321) (by decide) (by decide +kernel)) <|
    zall_c (zs_iadd X (pc := 2322) (by decide +kernel)) <|
    zall_c (zs_iaload20 X (pc := 2323) (by decide +kernel)) <|
    zall_c (zs_aload_n X (pc := 2324) (q := 0) rfl (by decide +kernel)) <|
    zall_c (zs_iload X (pc := 2325) (by decide +kernel)) <|
    zall_c (zs_iconst X (pc := 2327) (by decide) (by decide +kernel)) <|
    zall_c (zs_iadd X (pc := 2328) (by decide +kernel)) <|
    zall_c (zs_iaload20 X (pc := 2329) (by decide +kernel)) <|
    zall_c (zs_aload_n X (pc := 2330) (q := 0) rfl (by decide +kernel)) <|
    zall_c (zs_iload X (pc := 2331) (by decide +kernel)) <|
    zall_c (zs_iconst X (pc := 2333) (by decide) (by decide +kernel)) <|
    zall_c (zs_iadd X (pc := 2334) (by decide +kernel)) <|
    zall_c (zs_iaload20 X (pc := 2335) (by decide +kernel)) <|
    zall_c (zs_callVt X (pc := 2336) zc_X9 (fun _ ht => ⟨(zCB ht gw_10_71 gw_1_13 gw_10_68 rfl rfl (by decide +kernel) ⟨Nat.le_of_ble_eq_true rfl, Nat.le_of_ble_eq_true rfl⟩), ht _ (.tail _ gw_10_69), ht _ (.tail _ gw_10_70)⟩) (M_X9_deliver hl) (by decide +kernel)) <|
    zall_c (zs_istore X (pc := 2339) (by decide) (by decide +kernel)) <|
    zall_c (zs_aload_n X (pc := 2341) (q := 2) rfl (by decide +kernel)) <|
    zall_c (zs_callVt X (pc := 2342) zc_X9 (fun _ ht => ⟨(zCB ht gw_7_208 gw_1_13 gw_7_205 rfl rfl (by decide +kernel) ⟨Nat.le_of_ble_eq_true rfl, Nat.le_of_ble_eq_true rfl⟩), ht _ (.tail _ gw_7_206), ht _ (.tail _ gw_7_207)⟩) (M_X9_thrown hl) (by decide +kernel)) <|
    zall_c (zs_iload X (pc := 2345) (by decide +kernel)) <|
    zall_c (zs_icmp_eq X (pc := 2347) (off := 5) (by decide +kernel) (by decide)) <|
    zall_c (zs_iconst X (pc := 2350) (by decide) (by decide +kernel)) <|
    zall_c (zs_zret X (pc := 2351) rfl zR_bool (by decide +kernel)) <|
    zall_c (zs_iload X (pc := 2352) (by decide +kernel)) <|
    zall_c (zs_if_ne X (pc := 2354) (off := 15) (by decide +kernel) (by decide)) <|
    zall_c (zs_aload_n X (pc := 2357) (q := 3) rfl (by decide +kernel)) <|
    zall_c (zs_iconst X (pc := 2358) (by decide) (by decide +kernel)) <|
    zall_c (zs_laload23 X (pc := 2359) (by decide +kernel)) <|
    zall_c (zs_iload X (pc := 2360) (by decide +kernel)) <|
    zall_c (zs_i2l X (pc := 2362) (by decide +kernel)) <|
    zall_c (zs_lcmp X (pc := 2363) (by decide +kernel)) <|
    zall_c (zs_if_eq X (pc := 2364) (off := 5) (by decide +kernel) (by decide)) <|
    zall_c (zs_iconst X (pc := 2367) (by decide) (by decide +kernel)) <|
    zall_c (zs_zret X (pc := 2368) rfl zR_bool (by decide +kernel)) <|
    zall_c (zs_goto X (pc := 2369) (off := 792) (by decide +kernel) (by decide)) <|
    zall_n
def cd_LW41 : List (Nat × ZTr) := [(2372, tAld 1 2373), (2373, tAld 0 2374), (2374, tIld 5 2376), (2376, tC (zi 1) 2377), (2377, tAdd 2378), (2378, tIal 20 2379), (2379, tAld 3 2380), (2380, tCall 3 1 6 (fun av M K _ => T_L_pass av M K) zAny 2383), (2383, tIst 6 2385), (2385, tAld 2 2386), (2386, tAld 0 2387), (2387, tIld 5 2389), (2389, tC (zi 1) 2390), (2390, tAdd 2391), (2391, tIal 20 2392), (2392, tCall 2 0 0 (zNt T_X9_pass) (zRcv 12) 2395), (2395, tIst 7 2397), (2397, tAld 2 2398), (2398, tCall 1 0 0 (zNt T_X9_thrown) (zRcv 12) 2401), (2401, tIld 6 2403), (2403, tIc_eq 2408 2406), (2406, tC (zi 0) 2407), (2407, tRi zPz), (2408, tIld 6 2410), (2410, tIf_ne 2425 2413), (2413, tAld 3 2414), (2414, tC (zi 0) 2415), (2415, tLal 2416), (2416, tIld 7 2418), (2418, tI2l 2419), (2419, tLcmp 2420), (2420, tIf_eq 2425 2423), (2423, tC (zi 0) 2424), (2424, tRi zPz), (2425, tGo 3161)]
set_option maxRecDepth 100000 in
set_option maxHeartbeats 1500000 in
theorem hs_LW41 {l : Launch} (hl : l.stackTraces = false) (p : Program) (e : Env) (s : State) (m : MethodId) (args : Array Value) (below : List Frame) (meth : Method) (c : Code) (D : va_G) (A : Nat → Prop) (a0 : Nat → Nat) (M0 : ZM) (K : ZRet) (KX : ZEx) (mc ms : Nat) (X : zCtx p l room_1 s m args meth c code RL (Cond.initialized RX8 :: zG) 10 (Option.some Jvm.ClassFile.FieldType.boolean) D A a0 M0 mc ms) (hNc : zNc0 s) : ∀ q ∈ cd_LW41, zSd p l e room_1 s m args below meth c 10 D A a0 M0 K KX mc ms q.1 q.2 :=
    zall_c (zs_aload_n X (pc := 2372) (q := 1) rfl (by decide +kernel)) <|
    zall_c (zs_aload_n X (pc := 2373) (q := 0) rfl (by decide +kernel)) <|
    zall_c (zs_iload X (pc := 2374) (by decide +kernel)) <|
    zall_c (zs_iconst X (pc := 2376) (by decide) (by decide +kernel)) <|
    zall_c (zs_iadd X (pc := 2377) (by decide +kernel)) <|
    zall_c (zs_iaload20 X (pc := 2378) (by decide +kernel)) <|
    zall_c (zs_aload_n X (pc := 2379) (q := 3) rfl (by decide +kernel)) <|
    zall_c (zs_callSW X (pc := 2380) hNc (fun _ ht => zCSW ht gw_7_44 gw_1_0 gw_7_42 gw_7_43 rfl rfl (by decide +kernel) ⟨Nat.le_of_ble_eq_true rfl, Nat.le_of_ble_eq_true rfl⟩) (M_L_pass hl) (by decide +kernel)) <|
    zall_c (zs_istore X (pc := 2383) (by decide) (by decide +kernel)) <|
    zall_c (zs_aload_n X (pc := 2385) (q := 2) rfl (by decide +kernel)) <|
    zall_c (zs_aload_n X (pc := 2386) (q := 0) rfl (by decide +kernel)) <|
    zall_c (zs_iload X (pc := 2387) (by decide +kernel)) <|
    zall_c (zs_iconst X (pc := 2389) (by decide) (by decide +kernel)) <|
    zall_c (zs_iadd X (pc := 2390) (by decide +kernel)) <|
    zall_c (zs_iaload20 X (pc := 2391) (by decide +kernel)) <|
    zall_c (zs_callVt X (pc := 2392) zc_X9 (fun _ ht => ⟨(zCB ht gw_10_75 gw_1_13 gw_10_72 rfl rfl (by decide +kernel) ⟨Nat.le_of_ble_eq_true rfl, Nat.le_of_ble_eq_true rfl⟩), ht _ (.tail _ gw_10_73), ht _ (.tail _ gw_10_74)⟩) (M_X9_pass hl) (by decide +kernel)) <|
    zall_c (zs_istore X (pc := 2395) (by decide) (by decide +kernel)) <|
    zall_c (zs_aload_n X (pc := 2397) (q := 2) rfl (by decide +kernel)) <|
    zall_c (zs_callVt X (pc := 2398) zc_X9 (fun _ ht => ⟨(zCB ht gw_7_208 gw_1_13 gw_7_205 rfl rfl (by decide +kernel) ⟨Nat.le_of_ble_eq_true rfl, Nat.le_of_ble_eq_true rfl⟩), ht _ (.tail _ gw_7_206), ht _ (.tail _ gw_7_207)⟩) (M_X9_thrown hl) (by decide +kernel)) <|
    zall_c (zs_iload X (pc := 2401) (by decide +kernel)) <|
    zall_c (zs_icmp_eq X (pc := 2403) (off := 5) (by decide +kernel) (by decide)) <|
    zall_c (zs_iconst X (pc := 2406) (by decide) (by decide +kernel)) <|
    zall_c (zs_zret X (pc := 2407) rfl zR_bool (by decide +kernel)) <|
    zall_c (zs_iload X (pc := 2408) (by decide +kernel)) <|
    zall_c (zs_if_ne X (pc := 2410) (off := 15) (by decide +kernel) (by decide)) <|
    zall_c (zs_aload_n X (pc := 2413) (q := 3) rfl (by decide +kernel)) <|
    zall_c (zs_iconst X (pc := 2414) (by decide) (by decide +kernel)) <|
    zall_c (zs_laload23 X (pc := 2415) (by decide +kernel)) <|
    zall_c (zs_iload X (pc := 2416) (by decide +kernel)) <|
    zall_c (zs_i2l X (pc := 2418) (by decide +kernel)) <|
    zall_c (zs_lcmp X (pc := 2419) (by decide +kernel)) <|
    zall_c (zs_if_eq X (pc := 2420) (off := 5) (by decide +kernel) (by decide)) <|
    zall_c (zs_iconst X (pc := 2423) (by decide) (by decide +kernel)) <|
    zall_c (zs_zret X (pc := 2424) rfl zR_bool (by decide +kernel)) <|
    zall_c (zs_goto X (pc := 2425) (off := 736) (by decide +kernel) (by decide)) <|
    zall_n
def cd_LW42 : List (Nat × ZTr) := [(2428, tAld 1 2429), (2429, tAld 0 2430), (2430, tIld 5 2432), (2432, tC (zi 1) 2433), (2433, tAdd 2434), (2434, tIal 20 2435), (2435, tAld 0 2436), (2436, tIld 5 2438), (2438, tC (zi 2) 2439), (2439, tAdd 2440), (2440, tIal 20 2441), (2441, tAld 3 2442), (2442, tCall 4 3 18 (fun av M K _ => T_L_audit av M K) zAny 2445), (2445, tIst 6 2447), (2447, tAld 2 2448), (2448, tAld 0 2449), (2449, tIld 5 2451), (2451, tC (zi 1) 2452), (2452, tAdd 2453), (2453, tIal 20 2454), (2454, tAld 0 2455), (2455, tIld 5 2457), (2457, tC (zi 2) 2458), (2458, tAdd 2459), (2459, tIal 20 2460), (2460, tCall 3 0 0 (zNt T_X9_audit) (zRcv 12) 2463), (2463, tIst 7 2465), (2465, tAld 2 2466), (2466, tCall 1 0 0 (zNt T_X9_thrown) (zRcv 12) 2469), (2469, tIld 6 2471), (2471, tIc_eq 2476 2474), (2474, tC (zi 0) 2475), (2475, tRi zPz), (2476, tIld 6 2478), (2478, tIf_ne 2500 2481), (2481, tAld 3 2482), (2482, tC (zi 0) 2483), (2483, tLal 2484), (2484, tIld 7 2486), (2486, tIf_eq 2493 2489), (2489, tC (zl 1) 2490), (2490, tGo 2494), (2493, tC (zl 0) 2494), (2494, tLcmp 2495), (2495, tIf_eq 2500 2498), (2498, tC (zi 0) 2499), (2499, tRi zPz), (2500, tGo 3161)]
set_option maxRecDepth 100000 in
set_option maxHeartbeats 1500000 in
theorem hs_LW42 {l : Launch} (hl : l.stackTraces = false) (p : Program) (e : Env) (s : State) (m : MethodId) (args : Array Value) (below : List Frame) (meth : Method) (c : Code) (D : va_G) (A : Nat → Prop) (a0 : Nat → Nat) (M0 : ZM) (K : ZRet) (KX : ZEx) (mc ms : Nat) (X : zCtx p l room_1 s m args meth c code RL (Cond.initialized RX8 :: zG) 10 (Option.some Jvm.ClassFile.FieldType.boolean) D A a0 M0 mc ms) (hNc : zNc0 s) : ∀ q ∈ cd_LW42, zSd p l e room_1 s m args below meth c 10 D A a0 M0 K KX mc ms q.1 q.2 :=
    zall_c (zs_aload_n X (pc := 2428) (q := 1) rfl (by decide +kernel)) <|
    zall_c (zs_aload_n X (pc := 2429) (q := 0) rfl (by decide +kernel)) <|
    zall_c (zs_iload X (pc := 2430) (by decide +kernel)) <|
    zall_c (zs_iconst X (pc := 2432) (by decide) (by decide +kernel)) <|
    zall_c (zs_iadd X (pc := 2433) (by decide +kernel)) <|
    zall_c (zs_iaload20 X (pc := 2434) (by decide +kernel)) <|
    zall_c (zs_aload_n X (pc := 2435) (q := 0) rfl (by decide +kernel)) <|
    zall_c (zs_iload X (pc := 2436) (by decide +kernel)) <|
    zall_c (zs_iconst X (pc := 2438) (by decide) (by decide +kernel)) <|
    zall_c (zs_iadd X (pc := 2439) (by decide +kernel)) <|
    zall_c (zs_iaload20 X (pc := 2440) (by decide +kernel)) <|
    zall_c (zs_aload_n X (pc := 2441) (q := 3) rfl (by decide +kernel)) <|
    zall_c (zs_callSW X (pc := 2442) hNc (fun _ ht => zCSW ht gw_7_68 gw_1_0 gw_7_66 gw_7_67 rfl rfl (by decide +kernel) ⟨Nat.le_of_ble_eq_true rfl, Nat.le_of_ble_eq_true rfl⟩) (M_L_audit hl) (by decide +kernel)) <|
    zall_c (zs_istore X (pc := 2445) (by decide) (by decide +kernel)) <|
    zall_c (zs_aload_n X (pc := 2447) (q := 2) rfl (by decide +kernel)) <|
    zall_c (zs_aload_n X (pc := 2448) (q := 0) rfl (by decide +kernel)) <|
    zall_c (zs_iload X (pc := 2449) (by decide +kernel)) <|
    zall_c (zs_iconst X (pc := 2451) (by decide) (by decide +kernel)) <|
    zall_c (zs_iadd X (pc := 2452) (by decide +kernel)) <|
    zall_c (zs_iaload20 X (pc := 2453) (by decide +kernel)) <|
    zall_c (zs_aload_n X (pc := 2454) (q := 0) rfl (by decide +kernel)) <|
    zall_c (zs_iload X (pc := 2455) (by decide +kernel)) <|
    zall_c (zs_iconst X (pc := 2457) (by decide) (by decide +kernel)) <|
    zall_c (zs_iadd X (pc := 2458) (by decide +kernel)) <|
    zall_c (zs_iaload20 X (pc := 2459) (by decide +kernel)) <|
    zall_c (zs_callVt X (pc := 2460) zc_X9 (fun _ ht => ⟨(zCB ht gw_10_87 gw_1_13 gw_10_84 rfl rfl (by decide +kernel) ⟨Nat.le_of_ble_eq_true rfl, Nat.le_of_ble_eq_true rfl⟩), ht _ (.tail _ gw_10_85), ht _ (.tail _ gw_10_86)⟩) (M_X9_audit hl) (by decide +kernel)) <|
    zall_c (zs_istore X (pc := 2463) (by decide) (by decide +kernel)) <|
    zall_c (zs_aload_n X (pc := 2465) (q := 2) rfl (by decide +kernel)) <|
    zall_c (zs_callVt X (pc := 2466) zc_X9 (fun _ ht => ⟨(zCB ht gw_7_208 gw_1_13 gw_7_205 rfl rfl (by decide +kernel) ⟨Nat.le_of_ble_eq_true rfl, Nat.le_of_ble_eq_true rfl⟩), ht _ (.tail _ gw_7_206), ht _ (.tail _ gw_7_207)⟩) (M_X9_thrown hl) (by decide +kernel)) <|
    zall_c (zs_iload X (pc := 2469) (by decide +kernel)) <|
    zall_c (zs_icmp_eq X (pc := 2471) (off := 5) (by decide +kernel) (by decide)) <|
    zall_c (zs_iconst X (pc := 2474) (by decide) (by decide +kernel)) <|
    zall_c (zs_zret X (pc := 2475) rfl zR_bool (by decide +kernel)) <|
    zall_c (zs_iload X (pc := 2476) (by decide +kernel)) <|
    zall_c (zs_if_ne X (pc := 2478) (off := 22) (by decide +kernel) (by decide)) <|
    zall_c (zs_aload_n X (pc := 2481) (q := 3) rfl (by decide +kernel)) <|
    zall_c (zs_iconst X (pc := 2482) (by decide) (by decide +kernel)) <|
    zall_c (zs_laload23 X (pc := 2483) (by decide +kernel)) <|
    zall_c (zs_iload X (pc := 2484) (by decide +kernel)) <|
    zall_c (zs_if_eq X (pc := 2486) (off := 7) (by decide +kernel) (by decide)) <|
    zall_c (zs_lconst X (pc := 2489) (q := 1) (by decide) (by decide +kernel) rfl) <|
    zall_c (zs_goto X (pc := 2490) (off := 4) (by decide +kernel) (by decide)) <|
    zall_c (zs_lconst X (pc := 2493) (q := 0) (by decide) (by decide +kernel) rfl) <|
    zall_c (zs_lcmp X (pc := 2494) (by decide +kernel)) <|
    zall_c (zs_if_eq X (pc := 2495) (off := 5) (by decide +kernel) (by decide)) <|
    zall_c (zs_iconst X (pc := 2498) (by decide) (by decide +kernel)) <|
    zall_c (zs_zret X (pc := 2499) rfl zR_bool (by decide +kernel)) <|
    zall_c (zs_goto X (pc := 2500) (off := 661) (by decide +kernel) (by decide)) <|
    zall_n
def cd_LW43 : List (Nat × ZTr) := [(2503, tAld 1 2504), (2504, tAld 0 2505), (2505, tIld 5 2507), (2507, tC (zi 1) 2508), (2508, tAdd 2509), (2509, tIal 20 2510), (2510, tAld 3 2511), (2511, tCall 3 2 12 (fun av M K _ => T_L_setAside av M K) zAny 2514), (2514, tIst 6 2516), (2516, tAld 2 2517), (2517, tAld 0 2518), (2518, tIld 5 2520), (2520, tC (zi 1) 2521), (2521, tAdd 2522), (2522, tIal 20 2523), (2523, tCall 2 0 0 (zNt T_X9_setAside) (zRcv 12) 2526), (2526, tIst 7 2528), (2528, tAld 2 2529), (2529, tCall 1 0 0 (zNt T_X9_thrown) (zRcv 12) 2532), (2532, tIld 6 2534), (2534, tIc_eq 2539 2537), (2537, tC (zi 0) 2538), (2538, tRi zPz), (2539, tIld 6 2541), (2541, tIf_ne 2556 2544), (2544, tAld 3 2545), (2545, tC (zi 0) 2546), (2546, tLal 2547), (2547, tIld 7 2549), (2549, tI2l 2550), (2550, tLcmp 2551), (2551, tIf_eq 2556 2554), (2554, tC (zi 0) 2555), (2555, tRi zPz), (2556, tGo 3161)]
set_option maxRecDepth 100000 in
set_option maxHeartbeats 1500000 in
theorem hs_LW43 {l : Launch} (hl : l.stackTraces = false) (p : Program) (e : Env) (s : State) (m : MethodId) (args : Array Value) (below : List Frame) (meth : Method) (c : Code) (D : va_G) (A : Nat → Prop) (a0 : Nat → Nat) (M0 : ZM) (K : ZRet) (KX : ZEx) (mc ms : Nat) (X : zCtx p l room_1 s m args meth c code RL (Cond.initialized RX8 :: zG) 10 (Option.some Jvm.ClassFile.FieldType.boolean) D A a0 M0 mc ms) (hNc : zNc0 s) : ∀ q ∈ cd_LW43, zSd p l e room_1 s m args below meth c 10 D A a0 M0 K KX mc ms q.1 q.2 :=
    zall_c (zs_aload_n X (pc := 2503) (q := 1) rfl (by decide +kernel)) <|
    zall_c (zs_aload_n X (pc := 2504) (q := 0) rfl (by decide +kernel)) <|
    zall_c (zs_iload X (pc := 2505) (by decide +kernel)) <|
    zall_c (zs_iconst X (pc := 2507) (by decide) (by decide +kernel)) <|
    zall_c (zs_iadd X (pc := 2508) (by decide +kernel)) <|
    zall_c (zs_iaload20 X (pc := 2509) (by decide +kernel)) <|
    zall_c (zs_aload_n X (pc := 2510) (q := 3) rfl (by decide +kernel)) <|
    zall_c (zs_callSW X (pc := 2511) hNc (fun _ ht => zCSW ht gw_7_81 gw_1_0 gw_7_79 gw_7_80 rfl rfl (by decide +kernel) ⟨Nat.le_of_ble_eq_true rfl, Nat.le_of_ble_eq_true rfl⟩) (M_L_setAside hl) (by decide +kernel)) <|
    zall_c (zs_istore X (pc := 2514) (by decide) (by decide +kernel)) <|
    zall_c (zs_aload_n X (pc := 2516) (q := 2) rfl (by decide +kernel)) <|
    zall_c (zs_aload_n X (pc := 2517) (q := 0) rfl (by decide +kernel)) <|
    zall_c (zs_iload X (pc := 2518) (by decide +kernel)) <|
    zall_c (zs_iconst X (pc := 2520) (by decide) (by decide +kernel)) <|
    zall_c (zs_iadd X (pc := 2521) (by decide +kernel)) <|
    zall_c (zs_iaload20 X (pc := 2522) (by decide +kernel)) <|
    zall_c (zs_callVt X (pc := 2523) zc_X9 (fun _ ht => ⟨(zCB ht gw_10_95 gw_1_13 gw_10_92 rfl rfl (by decide +kernel) ⟨Nat.le_of_ble_eq_true rfl, Nat.le_of_ble_eq_true rfl⟩), ht _ (.tail _ gw_10_93), ht _ (.tail _ gw_10_94)⟩) (M_X9_setAside hl) (by decide +kernel)) <|
    zall_c (zs_istore X (pc := 2526) (by decide) (by decide +kernel)) <|
    zall_c (zs_aload_n X (pc := 2528) (q := 2) rfl (by decide +kernel)) <|
    zall_c (zs_callVt X (pc := 2529) zc_X9 (fun _ ht => ⟨(zCB ht gw_7_208 gw_1_13 gw_7_205 rfl rfl (by decide +kernel) ⟨Nat.le_of_ble_eq_true rfl, Nat.le_of_ble_eq_true rfl⟩), ht _ (.tail _ gw_7_206), ht _ (.tail _ gw_7_207)⟩) (M_X9_thrown hl) (by decide +kernel)) <|
    zall_c (zs_iload X (pc := 2532) (by decide +kernel)) <|
    zall_c (zs_icmp_eq X (pc := 2534) (off := 5) (by decide +kernel) (by decide)) <|
    zall_c (zs_iconst X (pc := 2537) (by decide) (by decide +kernel)) <|
    zall_c (zs_zret X (pc := 2538) rfl zR_bool (by decide +kernel)) <|
    zall_c (zs_iload X (pc := 2539) (by decide +kernel)) <|
    zall_c (zs_if_ne X (pc := 2541) (off := 15) (by decide +kernel) (by decide)) <|
    zall_c (zs_aload_n X (pc := 2544) (q := 3) rfl (by decide +kernel)) <|
    zall_c (zs_iconst X (pc := 2545) (by decide) (by decide +kernel)) <|
    zall_c (zs_laload23 X (pc := 2546) (by decide +kernel)) <|
    zall_c (zs_iload X (pc := 2547) (by decide +kernel)) <|
    zall_c (zs_i2l X (pc := 2549) (by decide +kernel)) <|
    zall_c (zs_lcmp X (pc := 2550) (by decide +kernel)) <|
    zall_c (zs_if_eq X (pc := 2551) (off := 5) (by decide +kernel) (by decide)) <|
    zall_c (zs_iconst X (pc := 2554) (by decide) (by decide +kernel)) <|
    zall_c (zs_zret X (pc := 2555) rfl zR_bool (by decide +kernel)) <|
    zall_c (zs_goto X (pc := 2556) (off := 605) (by decide +kernel) (by decide)) <|
    zall_n
def cd_LW44 : List (Nat × ZTr) := [(2559, tAld 1 2560), (2560, tAld 0 2561), (2561, tIld 5 2563), (2563, tC (zi 1) 2564), (2564, tAdd 2565), (2565, tIal 20 2566), (2566, tAld 3 2567), (2567, tCall 3 2 12 (fun av M K _ => T_L_pardon av M K) zAny 2570), (2570, tIst 6 2572), (2572, tAld 2 2573), (2573, tAld 0 2574), (2574, tIld 5 2576), (2576, tC (zi 1) 2577), (2577, tAdd 2578), (2578, tIal 20 2579), (2579, tCall 2 0 0 (zNt T_X9_pardon) (zRcv 12) 2582), (2582, tIst 7 2584), (2584, tAld 2 2585), (2585, tCall 1 0 0 (zNt T_X9_thrown) (zRcv 12) 2588), (2588, tIld 6 2590), (2590, tIc_eq 2595 2593), (2593, tC (zi 0) 2594), (2594, tRi zPz), (2595, tIld 6 2597), (2597, tIf_ne 2612 2600), (2600, tAld 3 2601), (2601, tC (zi 0) 2602), (2602, tLal 2603), (2603, tIld 7 2605), (2605, tI2l 2606), (2606, tLcmp 2607), (2607, tIf_eq 2612 2610), (2610, tC (zi 0) 2611), (2611, tRi zPz), (2612, tGo 3161)]
set_option maxRecDepth 100000 in
set_option maxHeartbeats 1500000 in
theorem hs_LW44 {l : Launch} (hl : l.stackTraces = false) (p : Program) (e : Env) (s : State) (m : MethodId) (args : Array Value) (below : List Frame) (meth : Method) (c : Code) (D : va_G) (A : Nat → Prop) (a0 : Nat → Nat) (M0 : ZM) (K : ZRet) (KX : ZEx) (mc ms : Nat) (X : zCtx p l room_1 s m args meth c code RL (Cond.initialized RX8 :: zG) 10 (Option.some Jvm.ClassFile.FieldType.boolean) D A a0 M0 mc ms) (hNc : zNc0 s) : ∀ q ∈ cd_LW44, zSd p l e room_1 s m args below meth c 10 D A a0 M0 K KX mc ms q.1 q.2 :=
    zall_c (zs_aload_n X (pc := 2559) (q := 1) rfl (by decide +kernel)) <|
    zall_c (zs_aload_n X (pc := 2560) (q := 0) rfl (by decide +kernel)) <|
    zall_c (zs_iload X (pc := 2561) (by decide +kernel)) <|
    zall_c (zs_iconst X (pc := 2563) (by decide) (by decide +kernel)) <|
    zall_c (zs_iadd X (pc := 2564) (by decide +kernel)) <|
    zall_c (zs_iaload20 X (pc := 2565) (by decide +kernel)) <|
    zall_c (zs_aload_n X (pc := 2566) (q := 3) rfl (by decide +kernel)) <|
    zall_c (zs_callSW X (pc := 2567) hNc (fun _ ht => zCSW ht gw_7_93 gw_1_0 gw_7_91 gw_7_92 rfl rfl (by decide +kernel) ⟨Nat.le_of_ble_eq_true rfl, Nat.le_of_ble_eq_true rfl⟩) (M_L_pardon hl) (by decide +kernel)) <|
    zall_c (zs_istore X (pc := 2570) (by decide) (by decide +kernel)) <|
    zall_c (zs_aload_n X (pc := 2572) (q := 2) rfl (by decide +kernel)) <|
    zall_c (zs_aload_n X (pc := 2573) (q := 0) rfl (by decide +kernel)) <|
    zall_c (zs_iload X (pc := 2574) (by decide +kernel)) <|
    zall_c (zs_iconst X (pc := 2576) (by decide) (by decide +kernel)) <|
    zall_c (zs_iadd X (pc := 2577) (by decide +kernel)) <|
    zall_c (zs_iaload20 X (pc := 2578) (by decide +kernel)) <|
    zall_c (zs_callVt X (pc := 2579) zc_X9 (fun _ ht => ⟨(zCB ht gw_10_99 gw_1_13 gw_10_96 rfl rfl (by decide +kernel) ⟨Nat.le_of_ble_eq_true rfl, Nat.le_of_ble_eq_true rfl⟩), ht _ (.tail _ gw_10_97), ht _ (.tail _ gw_10_98)⟩) (M_X9_pardon hl) (by decide +kernel)) <|
    zall_c (zs_istore X (pc := 2582) (by decide) (by decide +kernel)) <|
    zall_c (zs_aload_n X (pc := 2584) (q := 2) rfl (by decide +kernel)) <|
    zall_c (zs_callVt X (pc := 2585) zc_X9 (fun _ ht => ⟨(zCB ht gw_7_208 gw_1_13 gw_7_205 rfl rfl (by decide +kernel) ⟨Nat.le_of_ble_eq_true rfl, Nat.le_of_ble_eq_true rfl⟩), ht _ (.tail _ gw_7_206), ht _ (.tail _ gw_7_207)⟩) (M_X9_thrown hl) (by decide +kernel)) <|
    zall_c (zs_iload X (pc := 2588) (by decide +kernel)) <|
    zall_c (zs_icmp_eq X (pc := 2590) (off := 5) (by decide +kernel) (by decide)) <|
    zall_c (zs_iconst X (pc := 2593) (by decide) (by decide +kernel)) <|
    zall_c (zs_zret X (pc := 2594) rfl zR_bool (by decide +kernel)) <|
    zall_c (zs_iload X (pc := 2595) (by decide +kernel)) <|
    zall_c (zs_if_ne X (pc := 2597) (off := 15) (by decide +kernel) (by decide)) <|
    zall_c (zs_aload_n X (pc := 2600) (q := 3) rfl (by decide +kernel)) <|
    zall_c (zs_iconst X (pc := 2601) (by decide) (by decide +kernel)) <|
    zall_c (zs_laload23 X (pc := 2602) (by decide +kernel)) <|
    zall_c (zs_iload X (pc := 2603) (by decide +kernel)) <|
    zall_c (zs_i2l X (pc := 2605) (by decide +kernel)) <|
    zall_c (zs_lcmp X (pc := 2606) (by decide +kernel)) <|
    zall_c (zs_if_eq X (pc := 2607) (off := 5) (by decide +kernel) (by decide)) <|
    zall_c (zs_iconst X (pc := 2610) (by decide) (by decide +kernel)) <|
    zall_c (zs_zret X (pc := 2611) rfl zR_bool (by decide +kernel)) <|
    zall_c (zs_goto X (pc := 2612) (off := 549) (by decide +kernel) (by decide)) <|
    zall_n
def cd_LW45 : List (Nat × ZTr) := [(2615, tAld 1 2616), (2616, tAld 0 2617), (2617, tIld 5 2619), (2619, tC (zi 1) 2620), (2620, tAdd 2621), (2621, tIal 20 2622), (2622, tAld 0 2623), (2623, tIld 5 2625), (2625, tC (zi 2) 2626), (2626, tAdd 2627), (2627, tIal 20 2628), (2628, tAld 0 2629), (2629, tIld 5 2631), (2631, tC (zi 3) 2632), (2632, tAdd 2633), (2633, tIal 20 2634), (2634, tIf_eq 2641 2637), (2637, tC (zi 1) 2638), (2638, tGo 2642), (2641, tC (zi 0) 2642), (2642, tAld 3 2643), (2643, tCall 5 3 18 (fun av M K _ => T_L_bar av M K) zAny 2646), (2646, tIst 6 2648), (2648, tAld 2 2649), (2649, tAld 0 2650), (2650, tIld 5 2652), (2652, tC (zi 1) 2653), (2653, tAdd 2654), (2654, tIal 20 2655), (2655, tAld 0 2656), (2656, tIld 5 2658), (2658, tC (zi 2) 2659), (2659, tAdd 2660), (2660, tIal 20 2661), (2661, tAld 0 2662), (2662, tIld 5 2664), (2664, tC (zi 3) 2665), (2665, tAdd 2666), (2666, tIal 20 2667), (2667, tIf_eq 2674 2670), (2670, tC (zi 1) 2671), (2671, tGo 2675), (2674, tC (zi 0) 2675), (2675, tCall 4 0 0 (zNt T_X9_bar) (zRcv 12) 2678), (2678, tIst 7 2680), (2680, tAld 2 2681), (2681, tCall 1 0 0 (zNt T_X9_thrown) (zRcv 12) 2684), (2684, tIld 6 2686), (2686, tIc_eq 2691 2689), (2689, tC (zi 0) 2690), (2690, tRi zPz), (2691, tIld 6 2693), (2693, tIf_ne 2715 2696), (2696, tAld 3 2697), (2697, tC (zi 0) 2698), (2698, tLal 2699), (2699, tIld 7 2701), (2701, tIf_eq 2708 2704), (2704, tC (zl 1) 2705), (2705, tGo 2709), (2708, tC (zl 0) 2709), (2709, tLcmp 2710), (2710, tIf_eq 2715 2713), (2713, tC (zi 0) 2714), (2714, tRi zPz), (2715, tGo 3161)]
set_option maxRecDepth 100000 in
set_option maxHeartbeats 1500000 in
theorem hs_LW45 {l : Launch} (hl : l.stackTraces = false) (p : Program) (e : Env) (s : State) (m : MethodId) (args : Array Value) (below : List Frame) (meth : Method) (c : Code) (D : va_G) (A : Nat → Prop) (a0 : Nat → Nat) (M0 : ZM) (K : ZRet) (KX : ZEx) (mc ms : Nat) (X : zCtx p l room_1 s m args meth c code RL (Cond.initialized RX8 :: zG) 10 (Option.some Jvm.ClassFile.FieldType.boolean) D A a0 M0 mc ms) (hNc : zNc0 s) : ∀ q ∈ cd_LW45, zSd p l e room_1 s m args below meth c 10 D A a0 M0 K KX mc ms q.1 q.2 :=
    zall_c (zs_aload_n X (pc := 2615) (q := 1) rfl (by decide +kernel)) <|
    zall_c (zs_aload_n X (pc := 2616) (q := 0) rfl (by decide +kernel)) <|
    zall_c (zs_iload X (pc := 2617) (by decide +kernel)) <|
    zall_c (zs_iconst X (pc := 2619) (by decide) (by decide +kernel)) <|
    zall_c (zs_iadd X (pc := 2620) (by decide +kernel)) <|
    zall_c (zs_iaload20 X (pc := 2621) (by decide +kernel)) <|
    zall_c (zs_aload_n X (pc := 2622) (q := 0) rfl (by decide +kernel)) <|
    zall_c (zs_iload X (pc := 2623) (by decide +kernel)) <|
    zall_c (zs_iconst X (pc := 2625) (by decide) (by decide +kernel)) <|
    zall_c (zs_iadd X (pc := 2626) (by decide +kernel)) <|
    zall_c (zs_iaload20 X (pc := 2627) (by decide +kernel)) <|
    zall_c (zs_aload_n X (pc := 2628) (q := 0) rfl (by decide +kernel)) <|
    zall_c (zs_iload X (pc := 2629) (by decide +kernel)) <|
    zall_c (zs_iconst X (pc := 2631) (by decide) (by decide +kernel)) <|
    zall_c (zs_iadd X (pc := 2632) (by decide +kernel)) <|
    zall_c (zs_iaload20 X (pc := 2633) (by decide +kernel)) <|
    zall_c (zs_if_eq X (pc := 2634) (off := 7) (by decide +kernel) (by decide)) <|
    zall_c (zs_iconst X (pc := 2637) (by decide) (by decide +kernel)) <|
    zall_c (zs_goto X (pc := 2638) (off := 4) (by decide +kernel) (by decide)) <|
    zall_c (zs_iconst X (pc := 2641) (by decide) (by decide +kernel)) <|
    zall_c (zs_aload_n X (pc := 2642) (q := 3) rfl (by decide +kernel)) <|
    zall_c (zs_callSW X (pc := 2643) hNc (fun _ ht => zCSW ht gw_7_101 gw_1_0 gw_7_99 gw_7_100 rfl rfl (by decide +kernel) ⟨Nat.le_of_ble_eq_true rfl, Nat.le_of_ble_eq_true rfl⟩) (M_L_bar hl) (by decide +kernel)) <|
    zall_c (zs_istore X (pc := 2646) (by decide) (by decide +kernel)) <|
    zall_c (zs_aload_n X (pc := 2648) (q := 2) rfl (by decide +kernel)) <|
    zall_c (zs_aload_n X (pc := 2649) (q := 0) rfl (by decide +kernel)) <|
    zall_c (zs_iload X (pc := 2650) (by decide +kernel)) <|
    zall_c (zs_iconst X (pc := 2652) (by decide) (by decide +kernel)) <|
    zall_c (zs_iadd X (pc := 2653) (by decide +kernel)) <|
    zall_c (zs_iaload20 X (pc := 2654) (by decide +kernel)) <|
    zall_c (zs_aload_n X (pc := 2655) (q := 0) rfl (by decide +kernel)) <|
    zall_c (zs_iload X (pc := 2656) (by decide +kernel)) <|
    zall_c (zs_iconst X (pc := 2658) (by decide) (by decide +kernel)) <|
    zall_c (zs_iadd X (pc := 2659) (by decide +kernel)) <|
    zall_c (zs_iaload20 X (pc := 2660) (by decide +kernel)) <|
    zall_c (zs_aload_n X (pc := 2661) (q := 0) rfl (by decide +kernel)) <|
    zall_c (zs_iload X (pc := 2662) (by decide +kernel)) <|
    zall_c (zs_iconst X (pc := 2664) (by decide) (by decide +kernel)) <|
    zall_c (zs_iadd X (pc := 2665) (by decide +kernel)) <|
    zall_c (zs_iaload20 X (pc := 2666) (by decide +kernel)) <|
    zall_c (zs_if_eq X (pc := 2667) (off := 7) (by decide +kernel) (by decide)) <|
    zall_c (zs_iconst X (pc := 2670) (by decide) (by decide +kernel)) <|
    zall_c (zs_goto X (pc := 2671) (off := 4) (by decide +kernel) (by decide)) <|
    zall_c (zs_iconst X (pc := 2674) (by decide) (by decide +kernel)) <|
    zall_c (zs_callVt X (pc := 2675) zc_X9 (fun _ ht => ⟨(zCB ht gw_10_103 gw_1_13 gw_10_100 rfl rfl (by decide +kernel) ⟨Nat.le_of_ble_eq_true rfl, Nat.le_of_ble_eq_true rfl⟩), ht _ (.tail _ gw_10_101), ht _ (.tail _ gw_10_102)⟩) (M_X9_bar hl) (by decide +kernel)) <|
    zall_c (zs_istore X (pc := 2678) (by decide) (by decide +kernel)) <|
    zall_c (zs_aload_n X (pc := 2680) (q := 2) rfl (by decide +kernel)) <|
    zall_c (zs_callVt X (pc := 2681) zc_X9 (fun _ ht => ⟨(zCB ht gw_7_208 gw_1_13 gw_7_205 rfl rfl (by decide +kernel) ⟨Nat.le_of_ble_eq_true rfl, Nat.le_of_ble_eq_true rfl⟩), ht _ (.tail _ gw_7_206), ht _ (.tail _ gw_7_207)⟩) (M_X9_thrown hl) (by decide +kernel)) <|
    zall_c (zs_iload X (pc := 2684) (by decide +kernel)) <|
    zall_c (zs_icmp_eq X (pc := 2686) (off := 5) (by decide +kernel) (by decide)) <|
    zall_c (zs_iconst X (pc := 2689) (by decide) (by decide +kernel)) <|
    zall_c (zs_zret X (pc := 2690) rfl zR_bool (by decide +kernel)) <|
    zall_c (zs_iload X (pc := 2691) (by decide +kernel)) <|
    zall_c (zs_if_ne X (pc := 2693) (off := 22) (by decide +kernel) (by decide)) <|
    zall_c (zs_aload_n X (pc := 2696) (q := 3) rfl (by decide +kernel)) <|
    zall_c (zs_iconst X (pc := 2697) (by decide) (by decide +kernel)) <|
    zall_c (zs_laload23 X (pc := 2698) (by decide +kernel)) <|
    zall_c (zs_iload X (pc := 2699) (by decide +kernel)) <|
    zall_c (zs_if_eq X (pc := 2701) (off := 7) (by decide +kernel) (by decide)) <|
    zall_c (zs_lconst X (pc := 2704) (q := 1) (by decide) (by decide +kernel) rfl) <|
    zall_c (zs_goto X (pc := 2705) (off := 4) (by decide +kernel) (by decide)) <|
    zall_c (zs_lconst X (pc := 2708) (q := 0) (by decide) (by decide +kernel) rfl) <|
    zall_c (zs_lcmp X (pc := 2709) (by decide +kernel)) <|
    zall_c (zs_if_eq X (pc := 2710) (off := 5) (by decide +kernel) (by decide)) <|
    zall_c (zs_iconst X (pc := 2713) (by decide) (by decide +kernel)) <|
    zall_c (zs_zret X (pc := 2714) rfl zR_bool (by decide +kernel)) <|
    zall_c (zs_goto X (pc := 2715) (off := 446) (by decide +kernel) (by decide)) <|
    zall_n
def cd_LW46 : List (Nat × ZTr) := [(2718, tAld 1 2719), (2719, tAld 0 2720), (2720, tIld 5 2722), (2722, tC (zi 1) 2723), (2723, tAdd 2724), (2724, tIal 20 2725), (2725, tAld 0 2726), (2726, tIld 5 2728), (2728, tC (zi 2) 2729), (2729, tAdd 2730), (2730, tIal 20 2731), (2731, tAld 3 2732), (2732, tCall 4 3 18 (fun av M K _ => T_L_addRows av M K) zAny 2735), (2735, tIst 6 2737), (2737, tAld 2 2738), (2738, tAld 0 2739), (2739, tIld 5 2741), (2741, tC (zi 1) 2742), (2742, tAdd 2743), (2743, tIal 20 2744), (2744, tAld 0 2745), (2745, tIld 5 2747), (2747, tC (zi 2) 2748), (2748, tAdd 2749), (2749, tIal 20 2750), (2750, tCall 3 0 0 (zNt T_X9_addRows) (zRcv 12) 2753), (2753, tIst 7 2755), (2755, tAld 2 2756), (2756, tCall 1 0 0 (zNt T_X9_thrown) (zRcv 12) 2759), (2759, tIld 6 2761), (2761, tIc_eq 2766 2764), (2764, tC (zi 0) 2765), (2765, tRi zPz), (2766, tIld 6 2768), (2768, tIf_ne 2783 2771), (2771, tAld 3 2772), (2772, tC (zi 0) 2773), (2773, tLal 2774), (2774, tIld 7 2776), (2776, tI2l 2777), (2777, tLcmp 2778), (2778, tIf_eq 2783 2781), (2781, tC (zi 0) 2782), (2782, tRi zPz), (2783, tGo 3161)]
set_option maxRecDepth 100000 in
set_option maxHeartbeats 1500000 in
theorem hs_LW46 {l : Launch} (hl : l.stackTraces = false) (p : Program) (e : Env) (s : State) (m : MethodId) (args : Array Value) (below : List Frame) (meth : Method) (c : Code) (D : va_G) (A : Nat → Prop) (a0 : Nat → Nat) (M0 : ZM) (K : ZRet) (KX : ZEx) (mc ms : Nat) (X : zCtx p l room_1 s m args meth c code RL (Cond.initialized RX8 :: zG) 10 (Option.some Jvm.ClassFile.FieldType.boolean) D A a0 M0 mc ms) (hNc : zNc0 s) : ∀ q ∈ cd_LW46, zSd p l e room_1 s m args below meth c 10 D A a0 M0 K KX mc ms q.1 q.2 :=
    zall_c (zs_aload_n X (pc := 2718) (q := 1) rfl (by decide +kernel)) <|
    zall_c (zs_aload_n X (pc := 2719) (q := 0) rfl (by decide +kernel)) <|
    zall_c (zs_iload X (pc := 2720) (by decide +kernel)) <|
    zall_c (zs_iconst X (pc := 2722) (by decide) (by decide +kernel)) <|
    zall_c (zs_iadd X (pc := 2723) (by decide +kernel)) <|
    zall_c (zs_iaload20 X (pc := 2724) (by decide +kernel)) <|
    zall_c (zs_aload_n X (pc := 2725) (q := 0) rfl (by decide +kernel)) <|
    zall_c (zs_iload X (pc := 2726) (by decide +kernel)) <|
    zall_c (zs_iconst X (pc := 2728) (by decide) (by decide +kernel)) <|
    zall_c (zs_iadd X (pc := 2729) (by decide +kernel)) <|
    zall_c (zs_iaload20 X (pc := 2730) (by decide +kernel)) <|
    zall_c (zs_aload_n X (pc := 2731) (q := 3) rfl (by decide +kernel)) <|
    zall_c (zs_callSW X (pc := 2732) hNc (fun _ ht => zCSW ht gw_7_110 gw_1_0 gw_7_108 gw_7_109 rfl rfl (by decide +kernel) ⟨Nat.le_of_ble_eq_true rfl, Nat.le_of_ble_eq_true rfl⟩) (M_L_addRows hl) (by decide +kernel)) <|
    zall_c (zs_istore X (pc := 2735) (by decide) (by decide +kernel)) <|
    zall_c (zs_aload_n X (pc := 2737) (q := 2) rfl (by decide +kernel)) <|
    zall_c (zs_aload_n X (pc := 2738) (q := 0) rfl (by decide +kernel)) <|
    zall_c (zs_iload X (pc := 2739) (by decide +kernel)) <|
    zall_c (zs_iconst X (pc := 2741) (by decide) (by decide +kernel)) <|
    zall_c (zs_iadd X (pc := 2742) (by decide +kernel)) <|
    zall_c (zs_iaload20 X (pc := 2743) (by decide +kernel)) <|
    zall_c (zs_aload_n X (pc := 2744) (q := 0) rfl (by decide +kernel)) <|
    zall_c (zs_iload X (pc := 2745) (by decide +kernel)) <|
    zall_c (zs_iconst X (pc := 2747) (by decide) (by decide +kernel)) <|
    zall_c (zs_iadd X (pc := 2748) (by decide +kernel)) <|
    zall_c (zs_iaload20 X (pc := 2749) (by decide +kernel)) <|
    zall_c (zs_callVt X (pc := 2750) zc_X9 (fun _ ht => ⟨(zCB ht gw_10_107 gw_1_13 gw_10_104 rfl rfl (by decide +kernel) ⟨Nat.le_of_ble_eq_true rfl, Nat.le_of_ble_eq_true rfl⟩), ht _ (.tail _ gw_10_105), ht _ (.tail _ gw_10_106)⟩) (M_X9_addRows hl) (by decide +kernel)) <|
    zall_c (zs_istore X (pc := 2753) (by decide) (by decide +kernel)) <|
    zall_c (zs_aload_n X (pc := 2755) (q := 2) rfl (by decide +kernel)) <|
    zall_c (zs_callVt X (pc := 2756) zc_X9 (fun _ ht => ⟨(zCB ht gw_7_208 gw_1_13 gw_7_205 rfl rfl (by decide +kernel) ⟨Nat.le_of_ble_eq_true rfl, Nat.le_of_ble_eq_true rfl⟩), ht _ (.tail _ gw_7_206), ht _ (.tail _ gw_7_207)⟩) (M_X9_thrown hl) (by decide +kernel)) <|
    zall_c (zs_iload X (pc := 2759) (by decide +kernel)) <|
    zall_c (zs_icmp_eq X (pc := 2761) (off := 5) (by decide +kernel) (by decide)) <|
    zall_c (zs_iconst X (pc := 2764) (by decide) (by decide +kernel)) <|
    zall_c (zs_zret X (pc := 2765) rfl zR_bool (by decide +kernel)) <|
    zall_c (zs_iload X (pc := 2766) (by decide +kernel)) <|
    zall_c (zs_if_ne X (pc := 2768) (off := 15) (by decide +kernel) (by decide)) <|
    zall_c (zs_aload_n X (pc := 2771) (q := 3) rfl (by decide +kernel)) <|
    zall_c (zs_iconst X (pc := 2772) (by decide) (by decide +kernel)) <|
    zall_c (zs_laload23 X (pc := 2773) (by decide +kernel)) <|
    zall_c (zs_iload X (pc := 2774) (by decide +kernel)) <|
    zall_c (zs_i2l X (pc := 2776) (by decide +kernel)) <|
    zall_c (zs_lcmp X (pc := 2777) (by decide +kernel)) <|
    zall_c (zs_if_eq X (pc := 2778) (off := 5) (by decide +kernel) (by decide)) <|
    zall_c (zs_iconst X (pc := 2781) (by decide) (by decide +kernel)) <|
    zall_c (zs_zret X (pc := 2782) rfl zR_bool (by decide +kernel)) <|
    zall_c (zs_goto X (pc := 2783) (off := 378) (by decide +kernel) (by decide)) <|
    zall_n
def cd_LW47 : List (Nat × ZTr) := [(2786, tAld 1 2787), (2787, tAld 0 2788), (2788, tIld 5 2790), (2790, tC (zi 1) 2791), (2791, tAdd 2792), (2792, tIal 20 2793), (2793, tAld 0 2794), (2794, tIld 5 2796), (2796, tC (zi 2) 2797), (2797, tAdd 2798), (2798, tIal 20 2799), (2799, tAld 3 2800), (2800, tCall 4 5 30 (fun av M K _ => T_L_setTable av M K) zAny 2803), (2803, tIst 6 2805), (2805, tAld 2 2806), (2806, tAld 0 2807), (2807, tIld 5 2809), (2809, tC (zi 1) 2810), (2810, tAdd 2811), (2811, tIal 20 2812), (2812, tAld 0 2813), (2813, tIld 5 2815), (2815, tC (zi 2) 2816), (2816, tAdd 2817), (2817, tIal 20 2818), (2818, tCall 3 0 0 (zNt T_X9_setTable) (zRcv 12) 2821), (2821, tIst 7 2823), (2823, tAld 2 2824), (2824, tCall 1 0 0 (zNt T_X9_thrown) (zRcv 12) 2827), (2827, tIld 6 2829), (2829, tIc_eq 2834 2832), (2832, tC (zi 0) 2833), (2833, tRi zPz), (2834, tIld 6 2836), (2836, tIf_ne 2851 2839), (2839, tAld 3 2840), (2840, tC (zi 0) 2841), (2841, tLal 2842), (2842, tIld 7 2844), (2844, tI2l 2845), (2845, tLcmp 2846), (2846, tIf_eq 2851 2849), (2849, tC (zi 0) 2850), (2850, tRi zPz), (2851, tGo 3161)]
set_option maxRecDepth 100000 in
set_option maxHeartbeats 1500000 in
theorem hs_LW47 {l : Launch} (hl : l.stackTraces = false) (p : Program) (e : Env) (s : State) (m : MethodId) (args : Array Value) (below : List Frame) (meth : Method) (c : Code) (D : va_G) (A : Nat → Prop) (a0 : Nat → Nat) (M0 : ZM) (K : ZRet) (KX : ZEx) (mc ms : Nat) (X : zCtx p l room_1 s m args meth c code RL (Cond.initialized RX8 :: zG) 10 (Option.some Jvm.ClassFile.FieldType.boolean) D A a0 M0 mc ms) (hNc : zNc0 s) : ∀ q ∈ cd_LW47, zSd p l e room_1 s m args below meth c 10 D A a0 M0 K KX mc ms q.1 q.2 :=
    zall_c (zs_aload_n X (pc := 2786) (q := 1) rfl (by decide +kernel)) <|
    zall_c (zs_aload_n X (pc := 2787) (q := 0) rfl (by decide +kernel)) <|
    zall_c (zs_iload X (pc := 2788) (by decide +kernel)) <|
    zall_c (zs_iconst X (pc := 2790) (by decide) (by decide +kernel)) <|
    zall_c (zs_iadd X (pc := 2791) (by decide +kernel)) <|
    zall_c (zs_iaload20 X (pc := 2792) (by decide +kernel)) <|
    zall_c (zs_aload_n X (pc := 2793) (q := 0) rfl (by decide +kernel)) <|
    zall_c (zs_iload X (pc := 2794) (by decide +kernel)) <|
    zall_c (zs_iconst X (pc := 2796) (by decide) (by decide +kernel)) <|
    zall_c (zs_iadd X (pc := 2797) (by decide +kernel)) <|
    zall_c (zs_iaload20 X (pc := 2798) (by decide +kernel)) <|
    zall_c (zs_aload_n X (pc := 2799) (q := 3) rfl (by decide +kernel)) <|
    zall_c (zs_callSW X (pc := 2800) hNc (fun _ ht => zCSW ht gw_7_120 gw_1_0 gw_7_118 gw_7_119 rfl rfl (by decide +kernel) ⟨Nat.le_of_ble_eq_true rfl, Nat.le_of_ble_eq_true rfl⟩) (M_L_setTable hl) (by decide +kernel)) <|
    zall_c (zs_istore X (pc := 2803) (by decide) (by decide +kernel)) <|
    zall_c (zs_aload_n X (pc := 2805) (q := 2) rfl (by decide +kernel)) <|
    zall_c (zs_aload_n X (pc := 2806) (q := 0) rfl (by decide +kernel)) <|
    zall_c (zs_iload X (pc := 2807) (by decide +kernel)) <|
    zall_c (zs_iconst X (pc := 2809) (by decide) (by decide +kernel)) <|
    zall_c (zs_iadd X (pc := 2810) (by decide +kernel)) <|
    zall_c (zs_iaload20 X (pc := 2811) (by decide +kernel)) <|
    zall_c (zs_aload_n X (pc := 2812) (q := 0) rfl (by decide +kernel)) <|
    zall_c (zs_iload X (pc := 2813) (by decide +kernel)) <|
    zall_c (zs_iconst X (pc := 2815) (by decide) (by decide +kernel)) <|
    zall_c (zs_iadd X (pc := 2816) (by decide +kernel)) <|
    zall_c (zs_iaload20 X (pc := 2817) (by decide +kernel)) <|
    zall_c (zs_callVt X (pc := 2818) zc_X9 (fun _ ht => ⟨(zCB ht gw_10_112 gw_1_13 gw_10_109 rfl rfl (by decide +kernel) ⟨Nat.le_of_ble_eq_true rfl, Nat.le_of_ble_eq_true rfl⟩), ht _ (.tail _ gw_10_110), ht _ (.tail _ gw_10_111)⟩) (M_X9_setTable hl) (by decide +kernel)) <|
    zall_c (zs_istore X (pc := 2821) (by decide) (by decide +kernel)) <|
    zall_c (zs_aload_n X (pc := 2823) (q := 2) rfl (by decide +kernel)) <|
    zall_c (zs_callVt X (pc := 2824) zc_X9 (fun _ ht => ⟨(zCB ht gw_7_208 gw_1_13 gw_7_205 rfl rfl (by decide +kernel) ⟨Nat.le_of_ble_eq_true rfl, Nat.le_of_ble_eq_true rfl⟩), ht _ (.tail _ gw_7_206), ht _ (.tail _ gw_7_207)⟩) (M_X9_thrown hl) (by decide +kernel)) <|
    zall_c (zs_iload X (pc := 2827) (by decide +kernel)) <|
    zall_c (zs_icmp_eq X (pc := 2829) (off := 5) (by decide +kernel) (by decide)) <|
    zall_c (zs_iconst X (pc := 2832) (by decide) (by decide +kernel)) <|
    zall_c (zs_zret X (pc := 2833) rfl zR_bool (by decide +kernel)) <|
    zall_c (zs_iload X (pc := 2834) (by decide +kernel)) <|
    zall_c (zs_if_ne X (pc := 2836) (off := 15) (by decide +kernel) (by decide)) <|
    zall_c (zs_aload_n X (pc := 2839) (q := 3) rfl (by decide +kernel)) <|
    zall_c (zs_iconst X (pc := 2840) (by decide) (by decide +kernel)) <|
    zall_c (zs_laload23 X (pc := 2841) (by decide +kernel)) <|
    zall_c (zs_iload X (pc := 2842) (by decide +kernel)) <|
    zall_c (zs_i2l X (pc := 2844) (by decide +kernel)) <|
    zall_c (zs_lcmp X (pc := 2845) (by decide +kernel)) <|
    zall_c (zs_if_eq X (pc := 2846) (off := 5) (by decide +kernel) (by decide)) <|
    zall_c (zs_iconst X (pc := 2849) (by decide) (by decide +kernel)) <|
    zall_c (zs_zret X (pc := 2850) rfl zR_bool (by decide +kernel)) <|
    zall_c (zs_goto X (pc := 2851) (off := 310) (by decide +kernel) (by decide)) <|
    zall_n
