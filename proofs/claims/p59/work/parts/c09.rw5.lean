/-! the row of load -/
theorem gw_2_234 : Cond.classLink RL 44 RJ4 ∈ zG := zGt2 (List.mem_of_getElem? (i := 234) (by rfl)) rfl
theorem gw_2_238 : Cond.code yJ4_init_a7421 cJ4_init_a7421 2 (Option.none : Option Jvm.ClassFile.FieldType) ∈ zG := zGt2 (List.mem_of_getElem? (i := 238) (by rfl)) rfl
theorem gw_2_236 : Cond.methodLink RL 48 yJ4_init_a7421 ∈ zG := zGt2 (List.mem_of_getElem? (i := 236) (by rfl)) rfl
theorem gw_2_237 : Cond.instanceMethod yJ4_init_a7421 ∈ zG := zGt2 (List.mem_of_getElem? (i := 237) (by rfl)) rfl
theorem gw_3_131 : Cond.code yJ4_append_bf812 cJ4_append_bf812 2 (Option.some (Jvm.ClassFile.FieldType.object "java/lang/StringBuilder")) ∈ zG := zGt3 (List.mem_of_getElem? (i := 131) (by rfl)) rfl
theorem gw_3_128 : Cond.methodLink RL 51 yJ4_append_bf812 ∈ zG := zGt3 (List.mem_of_getElem? (i := 128) (by rfl)) rfl
theorem gw_3_129 : Cond.instanceMethod yJ4_append_bf812 ∈ zG := zGt3 (List.mem_of_getElem? (i := 129) (by rfl)) rfl
theorem gw_3_130 : Cond.selects RJ4 yJ4_append_bf812 yJ4_append_bf812 ∈ zG := zGt3 (List.mem_of_getElem? (i := 130) (by rfl)) rfl
theorem gw_3_154 : Cond.methodLink RL 56 yJ4_append_15ec4 ∈ zG := zGt3 (List.mem_of_getElem? (i := 154) (by rfl)) rfl
theorem gw_3_158 : Cond.methodLink RL 65 yJ4_append_cf468 ∈ zG := zGt3 (List.mem_of_getElem? (i := 158) (by rfl)) rfl
theorem gw_3_187 : Cond.methodLink RL 82 yJ4_toString_0e30d ∈ zG := zGt3 (List.mem_of_getElem? (i := 187) (by rfl)) rfl
theorem gw_4_9 : Cond.code yL_feed cL_feed 4 (Option.none : Option Jvm.ClassFile.FieldType) ∈ zG := zGt4 (List.mem_of_getElem? (i := 9) (by rfl)) rfl
theorem gw_4_7 : Cond.methodLink RL 86 yL_feed ∈ zG := zGt4 (List.mem_of_getElem? (i := 7) (by rfl)) rfl
theorem gw_4_8 : Cond.static yL_feed ∈ zG := zGt4 (List.mem_of_getElem? (i := 8) (by rfl)) rfl
theorem gw_4_61 : Cond.code yX8_load cX8_load 2 (Option.some Jvm.ClassFile.FieldType.int) ∈ zG := zGt4 (List.mem_of_getElem? (i := 61) (by rfl)) rfl
theorem gw_4_58 : Cond.methodLink RL 90 yX8_load ∈ zG := zGt4 (List.mem_of_getElem? (i := 58) (by rfl)) rfl
theorem gw_4_59 : Cond.instanceMethod yX8_load ∈ zG := zGt4 (List.mem_of_getElem? (i := 59) (by rfl)) rfl
theorem gw_4_60 : Cond.selects RX8 yX8_load yX8_load ∈ zG := zGt4 (List.mem_of_getElem? (i := 60) (by rfl)) rfl
theorem gw_5_17 : Cond.code yX8_errorCode cX8_errorCode 1 (Option.some Jvm.ClassFile.FieldType.int) ∈ zG := zGt5 (List.mem_of_getElem? (i := 17) (by rfl)) rfl
theorem gw_5_14 : Cond.methodLink RL 93 yX8_errorCode ∈ zG := zGt5 (List.mem_of_getElem? (i := 14) (by rfl)) rfl
theorem gw_5_15 : Cond.instanceMethod yX8_errorCode ∈ zG := zGt5 (List.mem_of_getElem? (i := 15) (by rfl)) rfl
theorem gw_5_16 : Cond.selects RX8 yX8_errorCode yX8_errorCode ∈ zG := zGt5 (List.mem_of_getElem? (i := 16) (by rfl)) rfl
theorem gw_5_21 : Cond.code yX8_errorPosition cX8_errorPosition 1 (Option.some Jvm.ClassFile.FieldType.int) ∈ zG := zGt5 (List.mem_of_getElem? (i := 21) (by rfl)) rfl
theorem gw_5_18 : Cond.methodLink RL 96 yX8_errorPosition ∈ zG := zGt5 (List.mem_of_getElem? (i := 18) (by rfl)) rfl
theorem gw_5_19 : Cond.instanceMethod yX8_errorPosition ∈ zG := zGt5 (List.mem_of_getElem? (i := 19) (by rfl)) rfl
theorem gw_5_20 : Cond.selects RX8 yX8_errorPosition yX8_errorPosition ∈ zG := zGt5 (List.mem_of_getElem? (i := 20) (by rfl)) rfl
theorem gw_5_25 : Cond.code yX8_isBarred cX8_isBarred 3 (Option.some Jvm.ClassFile.FieldType.boolean) ∈ zG := zGt5 (List.mem_of_getElem? (i := 25) (by rfl)) rfl
theorem gw_5_22 : Cond.methodLink RL 103 yX8_isBarred ∈ zG := zGt5 (List.mem_of_getElem? (i := 22) (by rfl)) rfl
theorem gw_5_23 : Cond.instanceMethod yX8_isBarred ∈ zG := zGt5 (List.mem_of_getElem? (i := 23) (by rfl)) rfl
theorem gw_5_24 : Cond.selects RX8 yX8_isBarred yX8_isBarred ∈ zG := zGt5 (List.mem_of_getElem? (i := 24) (by rfl)) rfl
abbrev rm_L_load : Room := { frames := 13, cells := 2000, slots := 60000, locals := 288 }
def cd_L_load (T0 : ZTf) (T1 : ZTf) (T2 : Nat → Nat → ZTf) (T3 : Nat → Nat → ZTf) (T4 : Nat → Nat → ZTf) (T5 : ZTf) (T6 : ZTf) (T7 : ZTf) (T8 : ZTf) (T9 : ZTf) (T10 : ZTf) (T11 : ZTf) (T12 : ZTf) : List (Nat × ZTr) := [(0, tC (zi 1) 1), (1, tAld 1 2), (2, tC (zi 0) 3), (3, tC (zi 6) 5), (5, tCall0 3 T0 zAny 8), (8, tAdd 9), (9, tIst 2 10), (10, tAld 1 11), (11, tC (zi 1) 12), (12, tC (zi 4) 13), (13, tCall0 3 T0 zAny 16), (16, tIf_ne 29 19), (19, tAld 1 20), (20, tC (zi 2) 21), (21, tC (zi 21) 23), (23, tCall0 3 T0 zAny 26), (26, tGo 35), (29, tAld 1 30), (30, tC (zi 2) 31), (31, tC (zi 5) 32), (32, tCall0 3 T0 zAny 35), (35, tIst 3 36), (36, tNew 1 4 39), (39, tDup 40), (40, tC (zo 35) 42), (42, tCall 2 1 120 (zNt T1) (zRcv 1) 45), (45, tIld 3 46), (46, tEx (fun a b => tCall 2 a b (T2 a b) (zRcv 1) 49)), (49, tC (zo 36) 51), (51, tEx (fun a b => tCall 2 a b (T3 a b) (zRcv 1) 54)), (54, tC (zi 1) 55), (55, tAld 1 56), (56, tC (zi 3) 57), (57, tC (zi 12) 59), (59, tCall0 3 T0 zAny 62), (62, tAdd 63), (63, tEx (fun a b => tCall 2 a b (T2 a b) (zRcv 1) 66)), (66, tC (zo 37) 68), (68, tEx (fun a b => tCall 2 a b (T3 a b) (zRcv 1) 71)), (71, tAld 1 72), (72, tC (zi 4) 73), (73, tC (zi 10) 75), (75, tCall0 3 T0 zAny 78), (78, tEx (fun a b => tCall 2 a b (T2 a b) (zRcv 1) 81)), (81, tC (zo 38) 83), (83, tEx (fun a b => tCall 2 a b (T3 a b) (zRcv 1) 86)), (86, tAst 4 88), (88, tC (zi 0) 89), (89, tIst 5 91), (91, tIld 5 93), (93, tIld 2 94), (94, tIc_ge 189 97), (97, tAld 4 99), (99, tC (zo 39) 101), (101, tEx (fun a b => tCall 2 a b (T3 a b) (zRcv 1) 104)), (104, tC (zi 97) 106), (106, tIld 5 108), (108, tAdd 109), (109, tUn zi2c 110), (110, tEx (fun a b => tCall 2 a b (T4 a b) (zRcv 1) 113)), (113, tC (zo 40) 115), (115, tEx (fun a b => tCall 2 a b (T3 a b) (zRcv 1) 118)), (118, tAld 1 119), (119, tC (zi 10) 121), (121, tC (zi 3) 122), (122, tIld 5 124), (124, tMul 125), (125, tAdd 126), (126, tC (zi 6) 128), (128, tCall0 3 T0 zAny 131), (131, tEx (fun a b => tCall 2 a b (T2 a b) (zRcv 1) 134)), (134, tC (zo 41) 136), (136, tEx (fun a b => tCall 2 a b (T3 a b) (zRcv 1) 139)), (139, tC (zi 1) 140), (140, tAld 1 141), (141, tC (zi 11) 143), (143, tC (zi 3) 144), (144, tIld 5 146), (146, tMul 147), (147, tAdd 148), (148, tC (zi 5) 149), (149, tCall0 3 T0 zAny 152), (152, tAdd 153), (153, tEx (fun a b => tCall 2 a b (T2 a b) (zRcv 1) 156)), (156, tC (zo 42) 158), (158, tEx (fun a b => tCall 2 a b (T3 a b) (zRcv 1) 161)), (161, tAld 1 162), (162, tC (zi 12) 164), (164, tC (zi 3) 165), (165, tIld 5 167), (167, tMul 168), (168, tAdd 169), (169, tC (zi 21) 171), (171, tCall0 3 T0 zAny 174), (174, tEx (fun a b => tCall 2 a b (T2 a b) (zRcv 1) 177)), (177, tC (zo 38) 179), (179, tEx (fun a b => tCall 2 a b (T3 a b) (zRcv 1) 182)), (182, tPop 183), (183, tInc 5 1 186), (186, tGo 91), (189, tC (zi 0) 190), (190, tIst 5 192), (192, tAld 1 193), (193, tC (zi 5) 194), (194, tC (zi 4) 195), (195, tCall0 3 T0 zAny 198), (198, tIst 6 200), (200, tC (zi 0) 201), (201, tIst 7 203), (203, tIld 7 205), (205, tIld 6 207), (207, tIc_ge 288 210), (210, tAld 4 212), (212, tC (zo 43) 214), (214, tEx (fun a b => tCall 2 a b (T3 a b) (zRcv 1) 217)), (217, tC (zi 1) 218), (218, tAld 1 219), (219, tC (zi 30) 221), (221, tC (zi 2) 222), (222, tIld 7 224), (224, tMul 225), (225, tAdd 226), (226, tC (zi 4) 227), (227, tCall0 3 T0 zAny 230), (230, tAdd 231), (231, tEx (fun a b => tCall 2 a b (T2 a b) (zRcv 1) 234)), (234, tC (zo 44) 236), (236, tEx (fun a b => tCall 2 a b (T3 a b) (zRcv 1) 239)), (239, tC (zi 1) 240), (240, tAld 1 241), (241, tC (zi 31) 243), (243, tC (zi 2) 244), (244, tIld 7 246), (246, tMul 247), (247, tAdd 248), (248, tC (zi 9) 250), (250, tCall0 3 T0 zAny 253), (253, tAdd 254), (254, tEx (fun a b => tCall 2 a b (T2 a b) (zRcv 1) 257)), (257, tC (zo 38) 259), (259, tEx (fun a b => tCall 2 a b (T3 a b) (zRcv 1) 262)), (262, tPop 263), (263, tIld 5 265), (265, tC (zi 1) 266), (266, tAld 1 267), (267, tC (zi 30) 269), (269, tC (zi 2) 270), (270, tIld 7 272), (272, tMul 273), (273, tAdd 274), (274, tC (zi 4) 275), (275, tCall0 3 T0 zAny 278), (278, tAdd 279), (279, tAdd 280), (280, tIst 5 282), (282, tInc 7 1 285), (285, tGo 203), (288, tAld 1 289), (289, tC (zi 6) 291), (291, tIld 2 292), (292, tCall0 3 T0 zAny 295), (295, tIst 7 297), (297, tAld 1 298), (298, tC (zi 7) 300), (300, tIld 2 301), (301, tCall0 3 T0 zAny 304), (304, tIst 8 306), (306, tIld 7 308), (308, tIld 8 310), (310, tIc_eq 349 313), (313, tAld 4 315), (315, tC (zo 45) 317), (317, tEx (fun a b => tCall 2 a b (T3 a b) (zRcv 1) 320)), (320, tC (zi 97) 322), (322, tIld 7 324), (324, tAdd 325), (325, tUn zi2c 326), (326, tEx (fun a b => tCall 2 a b (T4 a b) (zRcv 1) 329)), (329, tC (zo 46) 331), (331, tEx (fun a b => tCall 2 a b (T3 a b) (zRcv 1) 334)), (334, tC (zi 97) 336), (336, tIld 8 338), (338, tAdd 339), (339, tUn zi2c 340), (340, tEx (fun a b => tCall 2 a b (T4 a b) (zRcv 1) 343)), (343, tC (zo 38) 345), (345, tEx (fun a b => tCall 2 a b (T3 a b) (zRcv 1) 348)), (348, tPop 349), (349, tAld 0 350), (350, tAld 4 352), (352, tCall 1 2 344 T5 (zRcv 1) 355), (355, tCall 2 30 180 T6 zAny 358), (358, tAld 0 359), (359, tCall 1 508 3810 T7 (zRcv 11) 362), (362, tIld 2 363), (363, tIc_ne 451 366), (366, tAld 0 367), (367, tCall0 1 T8 (zRcv 11) 370), (370, tIf_ne 451 373), (373, tAld 0 374), (374, tCall0 1 T9 (zRcv 11) 377), (377, tC (zi (-1)) 378), (378, tIc_ne 451 381), (381, tAld 0 382), (382, tC (zi 0) 383), (383, tCall 2 1 6 T10 (zRcv 11) 386), (386, tIld 2 387), (387, tIc_ne 451 390), (390, tAld 0 391), (391, tC (zi 1) 392), (392, tCall 2 1 6 T10 (zRcv 11) 395), (395, tIld 5 397), (397, tIc_ne 451 400), (400, tAld 0 401), (401, tC (zi 2) 402), (402, tCall 2 1 6 T10 (zRcv 11) 405), (405, tIf_ne 451 408), (408, tAld 0 409), (409, tC (zi 3) 410), (410, tCall 2 1 6 T10 (zRcv 11) 413), (413, tIld 3 414), (414, tIc_ne 451 417), (417, tAld 0 418), (418, tC (zi 6) 420), (420, tCall 2 1 6 T10 (zRcv 11) 423), (423, tIld 5 425), (425, tIc_ne 451 428), (428, tAld 0 429), (429, tIld 7 431), (431, tIld 8 433), (433, tCall 3 2 12 T11 (zRcv 11) 436), (436, tIld 7 438), (438, tIld 8 440), (440, tIc_eq 447 443), (443, tC (zi 1) 444), (444, tGo 448), (447, tC (zi 0) 448), (448, tIc_eq 453 451), (451, tC (zi 0) 452), (452, tRi zPz), (453, tC (zi 0) 454), (454, tIst 9 456), (456, tIld 9 458), (458, tIld 2 459), (459, tIc_ge 540 462), (462, tAld 0 463), (463, tIld 9 465), (465, tC (zi 0) 466), (466, tCall 3 2 12 T12 (zRcv 11) 469), (469, tAld 1 470), (470, tC (zi 10) 472), (472, tC (zi 3) 473), (473, tIld 9 475), (475, tMul 476), (476, tAdd 477), (477, tC (zi 6) 479), (479, tCall0 3 T0 zAny 482), (482, tIc_ne 532 485), (485, tAld 0 486), (486, tIld 9 488), (488, tC (zi 1) 489), (489, tCall 3 2 12 T12 (zRcv 11) 492), (492, tC (zi 1) 493), (493, tAld 1 494), (494, tC (zi 11) 496), (496, tC (zi 3) 497), (497, tIld 9 499), (499, tMul 500), (500, tAdd 501), (501, tC (zi 5) 502), (502, tCall0 3 T0 zAny 505), (505, tAdd 506), (506, tIc_ne 532 509), (509, tAld 0 510), (510, tIld 9 512), (512, tC (zi 2) 513), (513, tCall 3 2 12 T12 (zRcv 11) 516), (516, tAld 1 517), (517, tC (zi 12) 519), (519, tC (zi 3) 520), (520, tIld 9 522), (522, tMul 523), (523, tAdd 524), (524, tC (zi 21) 526), (526, tCall0 3 T0 zAny 529), (529, tIc_eq 534 532), (532, tC (zi 0) 533), (533, tRi zPz), (534, tInc 9 1 537), (537, tGo 456), (540, tC (zi 1) 541), (541, tRi zPz)]
set_option maxRecDepth 100000 in
set_option maxHeartbeats 4000000 in
theorem hs_L_load {l : Launch} (hl : l.stackTraces = false) {T0 : ZTf} {T1 : ZTf} {T2 : Nat → Nat → ZTf} {T3 : Nat → Nat → ZTf} {T4 : Nat → Nat → ZTf} {T5 : ZTf} {T6 : ZTf} {T7 : ZTf} {T8 : ZTf} {T9 : ZTf} {T10 : ZTf} {T11 : ZTf} {T12 : ZTf} (h0 : zMet l yL_draw (Cond.code yL_draw cL_draw 3 (Option.some Jvm.ClassFile.FieldType.int) :: zG) rm_L_draw 0 0 T0) (h1 : zMet l yJ4_init_a7421 (Cond.code yJ4_init_a7421 cJ4_init_a7421 2 (Option.none : Option Jvm.ClassFile.FieldType) :: zG) rm_J4_init_a7421 1 120 T1) (h2 : ∀ a b, zMet l yJ4_append_bf812 (Cond.code yJ4_append_bf812 cJ4_append_bf812 2 (Option.some (Jvm.ClassFile.FieldType.object "java/lang/StringBuilder")) :: zG) (rm_J4_append_bf812 a b) a b (T2 a b)) (h3 : ∀ a b, zMet l yJ4_append_15ec4 (Cond.code yJ4_append_15ec4 cJ4_append_15ec4 2 (Option.some (Jvm.ClassFile.FieldType.object "java/lang/StringBuilder")) :: zG) (rm_J4_append_15ec4 a b) a b (T3 a b)) (h4 : ∀ a b, zMet l yJ4_append_cf468 (Cond.code yJ4_append_cf468 cJ4_append_cf468 2 (Option.some (Jvm.ClassFile.FieldType.object "java/lang/StringBuilder")) :: zG) (rm_J4_append_cf468 a b) a b (T4 a b)) (h5 : zMet l yJ4_toString_0e30d (Cond.code yJ4_toString_0e30d cJ4_toString_0e30d 1 (Option.some (Jvm.ClassFile.FieldType.object "java/lang/String")) :: zG) rm_J4_toString_0e30dB 2 344 T5) (h6 : zMet l yL_feed (Cond.code yL_feed cL_feed 4 (Option.none : Option Jvm.ClassFile.FieldType) :: zG) rm_L_feed 30 180 T6) (h7 : zMet l yX8_load (Cond.code yX8_load cX8_load 2 (Option.some Jvm.ClassFile.FieldType.int) :: zG) rm_X8_load 508 3810 T7) (h8 : zMet l yX8_errorCode (Cond.code yX8_errorCode cX8_errorCode 1 (Option.some Jvm.ClassFile.FieldType.int) :: zG) rm_X8_errorCode 0 0 T8) (h9 : zMet l yX8_errorPosition (Cond.code yX8_errorPosition cX8_errorPosition 1 (Option.some Jvm.ClassFile.FieldType.int) :: zG) rm_X8_errorPosition 0 0 T9) (h10 : zMet l yX8_property (Cond.code yX8_property cX8_property 2 (Option.some Jvm.ClassFile.FieldType.int) :: zG) rm_X8_property 1 6 T10) (h11 : zMet l yX8_isBarred (Cond.code yX8_isBarred cX8_isBarred 3 (Option.some Jvm.ClassFile.FieldType.boolean) :: zG) rm_X8_isBarred 2 12 T11) (h12 : zMet l yX8_worker (Cond.code yX8_worker cX8_worker 4 (Option.some Jvm.ClassFile.FieldType.int) :: zG) rm_X8_worker 2 12 T12) (p : Program) (e : Env) (s : State) (m : MethodId) (args : Array Value) (below : List Frame) (meth : Method) (c : Code) (D : va_G) (A : Nat → Prop) (a0 : Nat → Nat) (M0 : ZM) (K : ZRet) (KX : ZEx) (X : zCtx p l rm_L_load s m args meth c cL_load RL (Cond.code yL_load cL_load 10 (Option.some Jvm.ClassFile.FieldType.boolean) :: zG) 10 (Option.some Jvm.ClassFile.FieldType.boolean) D A a0 M0 2000 60000) (hnm : meth.name = yL_load.name) (hout : ∀ x ∈ c.exceptionTable.toList, False) : ∀ q ∈ cd_L_load T0 T1 T2 T3 T4 T5 T6 T7 T8 T9 T10 T11 T12, zSd p l e rm_L_load s m args below meth c 10 D A a0 M0 K KX 2000 60000 q.1 q.2 :=
    zall_c (zs_iconst X (pc := 0) (by decide) (by decide +kernel)) <|
    zall_c (zs_aload_n X (pc := 1) (q := 1) rfl (by decide +kernel)) <|
    zall_c (zs_iconst X (pc := 2) (by decide) (by decide +kernel)) <|
    zall_c (zs_bipush X (pc := 3) (by decide) (by decide +kernel) (by decide +kernel)) <|
    zall_c (zs_callS0 X (pc := 5) (fun _ ht => ⟨(zCB ht gw_2_229 gw_1_0 gw_2_227 rfl rfl (by decide +kernel) ⟨Nat.le_of_ble_eq_true rfl, Nat.le_of_ble_eq_true rfl⟩), ht _ (.tail _ gw_2_228)⟩) h0 hout (by decide +kernel)) <|
    zall_c (zs_iadd X (pc := 8) (by decide +kernel)) <|
    zall_c (zs_istore_n X (pc := 9) (q := 2) rfl (by decide) (by decide +kernel)) <|
    zall_c (zs_aload_n X (pc := 10) (q := 1) rfl (by decide +kernel)) <|
    zall_c (zs_iconst X (pc := 11) (by decide) (by decide +kernel)) <|
    zall_c (zs_iconst X (pc := 12) (by decide) (by decide +kernel)) <|
    zall_c (zs_callS0 X (pc := 13) (fun _ ht => ⟨(zCB ht gw_2_229 gw_1_0 gw_2_227 rfl rfl (by decide +kernel) ⟨Nat.le_of_ble_eq_true rfl, Nat.le_of_ble_eq_true rfl⟩), ht _ (.tail _ gw_2_228)⟩) h0 hout (by decide +kernel)) <|
    zall_c (zs_if_ne X (pc := 16) (off := 13) (by decide +kernel) (by decide)) <|
    zall_c (zs_aload_n X (pc := 19) (q := 1) rfl (by decide +kernel)) <|
    zall_c (zs_iconst X (pc := 20) (by decide) (by decide +kernel)) <|
    zall_c (zs_bipush X (pc := 21) (by decide) (by decide +kernel) (by decide +kernel)) <|
    zall_c (zs_callS0 X (pc := 23) (fun _ ht => ⟨(zCB ht gw_2_229 gw_1_0 gw_2_227 rfl rfl (by decide +kernel) ⟨Nat.le_of_ble_eq_true rfl, Nat.le_of_ble_eq_true rfl⟩), ht _ (.tail _ gw_2_228)⟩) h0 hout (by decide +kernel)) <|
    zall_c (zs_goto X (pc := 26) (off := 9) (by decide +kernel) (by decide)) <|
    zall_c (zs_aload_n X (pc := 29) (q := 1) rfl (by decide +kernel)) <|
    zall_c (zs_iconst X (pc := 30) (by decide) (by decide +kernel)) <|
    zall_c (zs_iconst X (pc := 31) (by decide) (by decide +kernel)) <|
    zall_c (zs_callS0 X (pc := 32) (fun _ ht => ⟨(zCB ht gw_2_229 gw_1_0 gw_2_227 rfl rfl (by decide +kernel) ⟨Nat.le_of_ble_eq_true rfl, Nat.le_of_ble_eq_true rfl⟩), ht _ (.tail _ gw_2_228)⟩) h0 hout (by decide +kernel)) <|
    zall_c (zs_istore_n X (pc := 35) (q := 3) rfl (by decide) (by decide +kernel)) <|
    zall_c (zs_new X (pc := 36) zc_J4 (zin ui_J4) tyJ4_ok (.tail _ gw_2_234) (.tail _ gw_1_50) (.tail _ gw_1_5) (by decide +kernel) (by decide +kernel)) <|
    zall_c (zs_dup X (pc := 39) (by decide +kernel)) <|
    zall_c (zs_ldcs X (pc := 40) (idx := 46) (tx := "table tolerance ") (by decide +kernel) (by decide +kernel)) <|
    zall_c (zs_callI X (pc := 42) (rt := none) (fun _ ht => ⟨(zCB ht gw_2_238 gw_1_5 gw_2_236 rfl rfl (by decide +kernel) ⟨Nat.le_of_ble_eq_true rfl, Nat.le_of_ble_eq_true rfl⟩), rfl, ht _ (.tail _ gw_2_237)⟩) h1 (by decide +kernel)) <|
    zall_c (zs_iload_n X (pc := 45) (q := 3) rfl (by decide +kernel)) <|
    zall_c (zs_ex (fun a b => zs_callV X (pc := 46) zc_J4 (fun _ ht => ⟨(zCB ht gw_3_131 gw_1_5 gw_3_128 rfl rfl (by decide +kernel) ⟨Nat.le_of_ble_eq_true rfl, Nat.le_of_ble_eq_true rfl⟩), ht _ (.tail _ gw_3_129), ht _ (.tail _ gw_3_130)⟩) (h2 a b) hout (by decide +kernel))) <|
    zall_c (zs_ldcs X (pc := 49) (idx := 54) (tx := " patience ") (by decide +kernel) (by decide +kernel)) <|
    zall_c (zs_ex (fun a b => zs_callV X (pc := 51) zc_J4 (fun _ ht => ⟨(zCB ht gw_3_23 gw_1_5 gw_3_154 rfl rfl (by decide +kernel) ⟨Nat.le_of_ble_eq_true rfl, Nat.le_of_ble_eq_true rfl⟩), ht _ (.tail _ gw_3_21), ht _ (.tail _ gw_3_22)⟩) (h3 a b) hout (by decide +kernel))) <|
    zall_c (zs_iconst X (pc := 54) (by decide) (by decide +kernel)) <|
    zall_c (zs_aload_n X (pc := 55) (q := 1) rfl (by decide +kernel)) <|
    zall_c (zs_iconst X (pc := 56) (by decide) (by decide +kernel)) <|
    zall_c (zs_bipush X (pc := 57) (by decide) (by decide +kernel) (by decide +kernel)) <|
    zall_c (zs_callS0 X (pc := 59) (fun _ ht => ⟨(zCB ht gw_2_229 gw_1_0 gw_2_227 rfl rfl (by decide +kernel) ⟨Nat.le_of_ble_eq_true rfl, Nat.le_of_ble_eq_true rfl⟩), ht _ (.tail _ gw_2_228)⟩) h0 hout (by decide +kernel)) <|
    zall_c (zs_iadd X (pc := 62) (by decide +kernel)) <|
    zall_c (zs_ex (fun a b => zs_callV X (pc := 63) zc_J4 (fun _ ht => ⟨(zCB ht gw_3_131 gw_1_5 gw_3_128 rfl rfl (by decide +kernel) ⟨Nat.le_of_ble_eq_true rfl, Nat.le_of_ble_eq_true rfl⟩), ht _ (.tail _ gw_3_129), ht _ (.tail _ gw_3_130)⟩) (h2 a b) hout (by decide +kernel))) <|
    zall_c (zs_ldcs X (pc := 66) (idx := 59) (tx := " least ") (by decide +kernel) (by decide +kernel)) <|
    zall_c (zs_ex (fun a b => zs_callV X (pc := 68) zc_J4 (fun _ ht => ⟨(zCB ht gw_3_23 gw_1_5 gw_3_154 rfl rfl (by decide +kernel) ⟨Nat.le_of_ble_eq_true rfl, Nat.le_of_ble_eq_true rfl⟩), ht _ (.tail _ gw_3_21), ht _ (.tail _ gw_3_22)⟩) (h3 a b) hout (by decide +kernel))) <|
    zall_c (zs_aload_n X (pc := 71) (q := 1) rfl (by decide +kernel)) <|
    zall_c (zs_iconst X (pc := 72) (by decide) (by decide +kernel)) <|
    zall_c (zs_bipush X (pc := 73) (by decide) (by decide +kernel) (by decide +kernel)) <|
    zall_c (zs_callS0 X (pc := 75) (fun _ ht => ⟨(zCB ht gw_2_229 gw_1_0 gw_2_227 rfl rfl (by decide +kernel) ⟨Nat.le_of_ble_eq_true rfl, Nat.le_of_ble_eq_true rfl⟩), ht _ (.tail _ gw_2_228)⟩) h0 hout (by decide +kernel)) <|
    zall_c (zs_ex (fun a b => zs_callV X (pc := 78) zc_J4 (fun _ ht => ⟨(zCB ht gw_3_131 gw_1_5 gw_3_128 rfl rfl (by decide +kernel) ⟨Nat.le_of_ble_eq_true rfl, Nat.le_of_ble_eq_true rfl⟩), ht _ (.tail _ gw_3_129), ht _ (.tail _ gw_3_130)⟩) (h2 a b) hout (by decide +kernel))) <|
    zall_c (zs_ldcs X (pc := 81) (idx := 61) (tx := ";") (by decide +kernel) (by decide +kernel)) <|
    zall_c (zs_ex (fun a b => zs_callV X (pc := 83) zc_J4 (fun _ ht => ⟨(zCB ht gw_3_23 gw_1_5 gw_3_154 rfl rfl (by decide +kernel) ⟨Nat.le_of_ble_eq_true rfl, Nat.le_of_ble_eq_true rfl⟩), ht _ (.tail _ gw_3_21), ht _ (.tail _ gw_3_22)⟩) (h3 a b) hout (by decide +kernel))) <|
    zall_c (zs_astore X (pc := 86) (by decide) (by decide +kernel)) <|
    zall_c (zs_iconst X (pc := 88) (by decide) (by decide +kernel)) <|
    zall_c (zs_istore X (pc := 89) (by decide) (by decide +kernel)) <|
    zall_c (zs_iload X (pc := 91) (by decide +kernel)) <|
    zall_c (zs_iload_n X (pc := 93) (q := 2) rfl (by decide +kernel)) <|
    zall_c (zs_icmp_ge X (pc := 94) (off := 95) (by decide +kernel) (by decide)) <|
    zall_c (zs_aload X (pc := 97) (by decide +kernel)) <|
    zall_c (zs_ldcs X (pc := 99) (idx := 63) (tx := "worker w") (by decide +kernel) (by decide +kernel)) <|
    zall_c (zs_ex (fun a b => zs_callV X (pc := 101) zc_J4 (fun _ ht => ⟨(zCB ht gw_3_23 gw_1_5 gw_3_154 rfl rfl (by decide +kernel) ⟨Nat.le_of_ble_eq_true rfl, Nat.le_of_ble_eq_true rfl⟩), ht _ (.tail _ gw_3_21), ht _ (.tail _ gw_3_22)⟩) (h3 a b) hout (by decide +kernel))) <|
    zall_c (zs_bipush X (pc := 104) (by decide) (by decide +kernel) (by decide +kernel)) <|
    zall_c (zs_iload X (pc := 106) (by decide +kernel)) <|
    zall_c (zs_iadd X (pc := 108) (by decide +kernel)) <|
    zall_c (zs_i2c X (pc := 109) (by decide +kernel)) <|
    zall_c (zs_ex (fun a b => zs_callV X (pc := 110) zc_J4 (fun _ ht => ⟨(zCB ht gw_3_161 gw_1_5 gw_3_158 rfl rfl (by decide +kernel) ⟨Nat.le_of_ble_eq_true rfl, Nat.le_of_ble_eq_true rfl⟩), ht _ (.tail _ gw_3_159), ht _ (.tail _ gw_3_160)⟩) (h4 a b) hout (by decide +kernel))) <|
    zall_c (zs_ldcs X (pc := 113) (idx := 68) (tx := " team ") (by decide +kernel) (by decide +kernel)) <|
    zall_c (zs_ex (fun a b => zs_callV X (pc := 115) zc_J4 (fun _ ht => ⟨(zCB ht gw_3_23 gw_1_5 gw_3_154 rfl rfl (by decide +kernel) ⟨Nat.le_of_ble_eq_true rfl, Nat.le_of_ble_eq_true rfl⟩), ht _ (.tail _ gw_3_21), ht _ (.tail _ gw_3_22)⟩) (h3 a b) hout (by decide +kernel))) <|
    zall_c (zs_aload_n X (pc := 118) (q := 1) rfl (by decide +kernel)) <|
    zall_c (zs_bipush X (pc := 119) (by decide) (by decide +kernel) (by decide +kernel)) <|
    zall_c (zs_iconst X (pc := 121) (by decide) (by decide +kernel)) <|
    zall_c (zs_iload X (pc := 122) (by decide +kernel)) <|
    zall_c (zs_imul X (pc := 124) (by decide +kernel)) <|
    zall_c (zs_iadd X (pc := 125) (by decide +kernel)) <|
    zall_c (zs_bipush X (pc := 126) (by decide) (by decide +kernel) (by decide +kernel)) <|
    zall_c (zs_callS0 X (pc := 128) (fun _ ht => ⟨(zCB ht gw_2_229 gw_1_0 gw_2_227 rfl rfl (by decide +kernel) ⟨Nat.le_of_ble_eq_true rfl, Nat.le_of_ble_eq_true rfl⟩), ht _ (.tail _ gw_2_228)⟩) h0 hout (by decide +kernel)) <|
    zall_c (zs_ex (fun a b => zs_callV X (pc := 131) zc_J4 (fun _ ht => ⟨(zCB ht gw_3_131 gw_1_5 gw_3_128 rfl rfl (by decide +kernel) ⟨Nat.le_of_ble_eq_true rfl, Nat.le_of_ble_eq_true rfl⟩), ht _ (.tail _ gw_3_129), ht _ (.tail _ gw_3_130)⟩) (h2 a b) hout (by decide +kernel))) <|
    zall_c (zs_ldcs X (pc := 134) (idx := 70) (tx := " quota ") (by decide +kernel) (by decide +kernel)) <|
    zall_c (zs_ex (fun a b => zs_callV X (pc := 136) zc_J4 (fun _ ht => ⟨(zCB ht gw_3_23 gw_1_5 gw_3_154 rfl rfl (by decide +kernel) ⟨Nat.le_of_ble_eq_true rfl, Nat.le_of_ble_eq_true rfl⟩), ht _ (.tail _ gw_3_21), ht _ (.tail _ gw_3_22)⟩) (h3 a b) hout (by decide +kernel))) <|
    zall_c (zs_iconst X (pc := 139) (by decide) (by decide +kernel)) <|
    zall_c (zs_aload_n X (pc := 140) (q := 1) rfl (by decide +kernel)) <|
    zall_c (zs_bipush X (pc := 141) (by decide) (by decide +kernel) (by decide +kernel)) <|
    zall_c (zs_iconst X (pc := 143) (by decide) (by decide +kernel)) <|
    zall_c (zs_iload X (pc := 144) (by decide +kernel)) <|
    zall_c (zs_imul X (pc := 146) (by decide +kernel)) <|
    zall_c (zs_iadd X (pc := 147) (by decide +kernel)) <|
    zall_c (zs_iconst X (pc := 148) (by decide) (by decide +kernel)) <|
    zall_c (zs_callS0 X (pc := 149) (fun _ ht => ⟨(zCB ht gw_2_229 gw_1_0 gw_2_227 rfl rfl (by decide +kernel) ⟨Nat.le_of_ble_eq_true rfl, Nat.le_of_ble_eq_true rfl⟩), ht _ (.tail _ gw_2_228)⟩) h0 hout (by decide +kernel)) <|
    zall_c (zs_iadd X (pc := 152) (by decide +kernel)) <|
    zall_c (zs_ex (fun a b => zs_callV X (pc := 153) zc_J4 (fun _ ht => ⟨(zCB ht gw_3_131 gw_1_5 gw_3_128 rfl rfl (by decide +kernel) ⟨Nat.le_of_ble_eq_true rfl, Nat.le_of_ble_eq_true rfl⟩), ht _ (.tail _ gw_3_129), ht _ (.tail _ gw_3_130)⟩) (h2 a b) hout (by decide +kernel))) <|
    zall_c (zs_ldcs X (pc := 156) (idx := 72) (tx := " trust ") (by decide +kernel) (by decide +kernel)) <|
    zall_c (zs_ex (fun a b => zs_callV X (pc := 158) zc_J4 (fun _ ht => ⟨(zCB ht gw_3_23 gw_1_5 gw_3_154 rfl rfl (by decide +kernel) ⟨Nat.le_of_ble_eq_true rfl, Nat.le_of_ble_eq_true rfl⟩), ht _ (.tail _ gw_3_21), ht _ (.tail _ gw_3_22)⟩) (h3 a b) hout (by decide +kernel))) <|
    zall_c (zs_aload_n X (pc := 161) (q := 1) rfl (by decide +kernel)) <|
    zall_c (zs_bipush X (pc := 162) (by decide) (by decide +kernel) (by decide +kernel)) <|
    zall_c (zs_iconst X (pc := 164) (by decide) (by decide +kernel)) <|
    zall_c (zs_iload X (pc := 165) (by decide +kernel)) <|
    zall_c (zs_imul X (pc := 167) (by decide +kernel)) <|
    zall_c (zs_iadd X (pc := 168) (by decide +kernel)) <|
    zall_c (zs_bipush X (pc := 169) (by decide) (by decide +kernel) (by decide +kernel)) <|
    zall_c (zs_callS0 X (pc := 171) (fun _ ht => ⟨(zCB ht gw_2_229 gw_1_0 gw_2_227 rfl rfl (by decide +kernel) ⟨Nat.le_of_ble_eq_true rfl, Nat.le_of_ble_eq_true rfl⟩), ht _ (.tail _ gw_2_228)⟩) h0 hout (by decide +kernel)) <|
    zall_c (zs_ex (fun a b => zs_callV X (pc := 174) zc_J4 (fun _ ht => ⟨(zCB ht gw_3_131 gw_1_5 gw_3_128 rfl rfl (by decide +kernel) ⟨Nat.le_of_ble_eq_true rfl, Nat.le_of_ble_eq_true rfl⟩), ht _ (.tail _ gw_3_129), ht _ (.tail _ gw_3_130)⟩) (h2 a b) hout (by decide +kernel))) <|
    zall_c (zs_ldcs X (pc := 177) (idx := 61) (tx := ";") (by decide +kernel) (by decide +kernel)) <|
    zall_c (zs_ex (fun a b => zs_callV X (pc := 179) zc_J4 (fun _ ht => ⟨(zCB ht gw_3_23 gw_1_5 gw_3_154 rfl rfl (by decide +kernel) ⟨Nat.le_of_ble_eq_true rfl, Nat.le_of_ble_eq_true rfl⟩), ht _ (.tail _ gw_3_21), ht _ (.tail _ gw_3_22)⟩) (h3 a b) hout (by decide +kernel))) <|
    zall_c (zs_pop X (pc := 182) (by decide +kernel)) <|
    zall_c (zs_iinc X (pc := 183) (by decide) (by decide +kernel)) <|
    zall_c (zs_goto X (pc := 186) (off := (-95)) (by decide +kernel) (by decide)) <|
    zall_c (zs_iconst X (pc := 189) (by decide) (by decide +kernel)) <|
    zall_c (zs_istore X (pc := 190) (by decide) (by decide +kernel)) <|
    zall_c (zs_aload_n X (pc := 192) (q := 1) rfl (by decide +kernel)) <|
    zall_c (zs_iconst X (pc := 193) (by decide) (by decide +kernel)) <|
    zall_c (zs_iconst X (pc := 194) (by decide) (by decide +kernel)) <|
    zall_c (zs_callS0 X (pc := 195) (fun _ ht => ⟨(zCB ht gw_2_229 gw_1_0 gw_2_227 rfl rfl (by decide +kernel) ⟨Nat.le_of_ble_eq_true rfl, Nat.le_of_ble_eq_true rfl⟩), ht _ (.tail _ gw_2_228)⟩) h0 hout (by decide +kernel)) <|
    zall_c (zs_istore X (pc := 198) (by decide) (by decide +kernel)) <|
    zall_c (zs_iconst X (pc := 200) (by decide) (by decide +kernel)) <|
    zall_c (zs_istore X (pc := 201) (by decide) (by decide +kernel)) <|
    zall_c (zs_iload X (pc := 203) (by decide +kernel)) <|
    zall_c (zs_iload X (pc := 205) (by decide +kernel)) <|
    zall_c (zs_icmp_ge X (pc := 207) (off := 81) (by decide +kernel) (by decide)) <|
    zall_c (zs_aload X (pc := 210) (by decide +kernel)) <|
    zall_c (zs_ldcs X (pc := 212) (idx := 74) (tx := "rows ") (by decide +kernel) (by decide +kernel)) <|
    zall_c (zs_ex (fun a b => zs_callV X (pc := 214) zc_J4 (fun _ ht => ⟨(zCB ht gw_3_23 gw_1_5 gw_3_154 rfl rfl (by decide +kernel) ⟨Nat.le_of_ble_eq_true rfl, Nat.le_of_ble_eq_true rfl⟩), ht _ (.tail _ gw_3_21), ht _ (.tail _ gw_3_22)⟩) (h3 a b) hout (by decide +kernel))) <|
    zall_c (zs_iconst X (pc := 217) (by decide) (by decide +kernel)) <|
    zall_c (zs_aload_n X (pc := 218) (q := 1) rfl (by decide +kernel)) <|
    zall_c (zs_bipush X (pc := 219) (by decide) (by decide +kernel) (by decide +kernel)) <|
    zall_c (zs_iconst X (pc := 221) (by decide) (by decide +kernel)) <|
    zall_c (zs_iload X (pc := 222) (by decide +kernel)) <|
    zall_c (zs_imul X (pc := 224) (by decide +kernel)) <|
    zall_c (zs_iadd X (pc := 225) (by decide +kernel)) <|
    zall_c (zs_iconst X (pc := 226) (by decide) (by decide +kernel)) <|
    zall_c (zs_callS0 X (pc := 227) (fun _ ht => ⟨(zCB ht gw_2_229 gw_1_0 gw_2_227 rfl rfl (by decide +kernel) ⟨Nat.le_of_ble_eq_true rfl, Nat.le_of_ble_eq_true rfl⟩), ht _ (.tail _ gw_2_228)⟩) h0 hout (by decide +kernel)) <|
    zall_c (zs_iadd X (pc := 230) (by decide +kernel)) <|
    zall_c (zs_ex (fun a b => zs_callV X (pc := 231) zc_J4 (fun _ ht => ⟨(zCB ht gw_3_131 gw_1_5 gw_3_128 rfl rfl (by decide +kernel) ⟨Nat.le_of_ble_eq_true rfl, Nat.le_of_ble_eq_true rfl⟩), ht _ (.tail _ gw_3_129), ht _ (.tail _ gw_3_130)⟩) (h2 a b) hout (by decide +kernel))) <|
    zall_c (zs_ldcs X (pc := 234) (idx := 76) (tx := " size ") (by decide +kernel) (by decide +kernel)) <|
    zall_c (zs_ex (fun a b => zs_callV X (pc := 236) zc_J4 (fun _ ht => ⟨(zCB ht gw_3_23 gw_1_5 gw_3_154 rfl rfl (by decide +kernel) ⟨Nat.le_of_ble_eq_true rfl, Nat.le_of_ble_eq_true rfl⟩), ht _ (.tail _ gw_3_21), ht _ (.tail _ gw_3_22)⟩) (h3 a b) hout (by decide +kernel))) <|
    zall_c (zs_iconst X (pc := 239) (by decide) (by decide +kernel)) <|
    zall_c (zs_aload_n X (pc := 240) (q := 1) rfl (by decide +kernel)) <|
    zall_c (zs_bipush X (pc := 241) (by decide) (by decide +kernel) (by decide +kernel)) <|
    zall_c (zs_iconst X (pc := 243) (by decide) (by decide +kernel)) <|
    zall_c (zs_iload X (pc := 244) (by decide +kernel)) <|
    zall_c (zs_imul X (pc := 246) (by decide +kernel)) <|
    zall_c (zs_iadd X (pc := 247) (by decide +kernel)) <|
    zall_c (zs_bipush X (pc := 248) (by decide) (by decide +kernel) (by decide +kernel)) <|
    zall_c (zs_callS0 X (pc := 250) (fun _ ht => ⟨(zCB ht gw_2_229 gw_1_0 gw_2_227 rfl rfl (by decide +kernel) ⟨Nat.le_of_ble_eq_true rfl, Nat.le_of_ble_eq_true rfl⟩), ht _ (.tail _ gw_2_228)⟩) h0 hout (by decide +kernel)) <|
    zall_c (zs_iadd X (pc := 253) (by decide +kernel)) <|
    zall_c (zs_ex (fun a b => zs_callV X (pc := 254) zc_J4 (fun _ ht => ⟨(zCB ht gw_3_131 gw_1_5 gw_3_128 rfl rfl (by decide +kernel) ⟨Nat.le_of_ble_eq_true rfl, Nat.le_of_ble_eq_true rfl⟩), ht _ (.tail _ gw_3_129), ht _ (.tail _ gw_3_130)⟩) (h2 a b) hout (by decide +kernel))) <|
    zall_c (zs_ldcs X (pc := 257) (idx := 61) (tx := ";") (by decide +kernel) (by decide +kernel)) <|
    zall_c (zs_ex (fun a b => zs_callV X (pc := 259) zc_J4 (fun _ ht => ⟨(zCB ht gw_3_23 gw_1_5 gw_3_154 rfl rfl (by decide +kernel) ⟨Nat.le_of_ble_eq_true rfl, Nat.le_of_ble_eq_true rfl⟩), ht _ (.tail _ gw_3_21), ht _ (.tail _ gw_3_22)⟩) (h3 a b) hout (by decide +kernel))) <|
    zall_c (zs_pop X (pc := 262) (by decide +kernel)) <|
    zall_c (zs_iload X (pc := 263) (by decide +kernel)) <|
    zall_c (zs_iconst X (pc := 265) (by decide) (by decide +kernel)) <|
    zall_c (zs_aload_n X (pc := 266) (q := 1) rfl (by decide +kernel)) <|
    zall_c (zs_bipush X (pc := 267) (by decide) (by decide +kernel) (by decide +kernel)) <|
    zall_c (zs_iconst X (pc := 269) (by decide) (by decide +kernel)) <|
    zall_c (zs_iload X (pc := 270) (by decide +kernel)) <|
    zall_c (zs_imul X (pc := 272) (by decide +kernel)) <|
    zall_c (zs_iadd X (pc := 273) (by decide +kernel)) <|
    zall_c (zs_iconst X (pc := 274) (by decide) (by decide +kernel)) <|
    zall_c (zs_callS0 X (pc := 275) (fun _ ht => ⟨(zCB ht gw_2_229 gw_1_0 gw_2_227 rfl rfl (by decide +kernel) ⟨Nat.le_of_ble_eq_true rfl, Nat.le_of_ble_eq_true rfl⟩), ht _ (.tail _ gw_2_228)⟩) h0 hout (by decide +kernel)) <|
    zall_c (zs_iadd X (pc := 278) (by decide +kernel)) <|
    zall_c (zs_iadd X (pc := 279) (by decide +kernel)) <|
    zall_c (zs_istore X (pc := 280) (by decide) (by decide +kernel)) <|
    zall_c (zs_iinc X (pc := 282) (by decide) (by decide +kernel)) <|
    zall_c (zs_goto X (pc := 285) (off := (-82)) (by decide +kernel) (by decide)) <|
    zall_c (zs_aload_n X (pc := 288) (q := 1) rfl (by decide +kernel)) <|
    zall_c (zs_bipush X (pc := 289) (by decide) (by decide +kernel) (by decide +kernel)) <|
    zall_c (zs_iload_n X (pc := 291) (q := 2) rfl (by decide +kernel)) <|
    zall_c (zs_callS0 X (pc := 292) (fun _ ht => ⟨(zCB ht gw_2_229 gw_1_0 gw_2_227 rfl rfl (by decide +kernel) ⟨Nat.le_of_ble_eq_true rfl, Nat.le_of_ble_eq_true rfl⟩), ht _ (.tail _ gw_2_228)⟩) h0 hout (by decide +kernel)) <|
    zall_c (zs_istore X (pc := 295) (by decide) (by decide +kernel)) <|
    zall_c (zs_aload_n X (pc := 297) (q := 1) rfl (by decide +kernel)) <|
    zall_c (zs_bipush X (pc := 298) (by decide) (by decide +kernel) (by decide +kernel)) <|
    zall_c (zs_iload_n X (pc := 300) (q := 2) rfl (by decide +kernel)) <|
    zall_c (zs_callS0 X (pc := 301) (fun _ ht => ⟨(zCB ht gw_2_229 gw_1_0 gw_2_227 rfl rfl (by decide +kernel) ⟨Nat.le_of_ble_eq_true rfl, Nat.le_of_ble_eq_true rfl⟩), ht _ (.tail _ gw_2_228)⟩) h0 hout (by decide +kernel)) <|
    zall_c (zs_istore X (pc := 304) (by decide) (by decide +kernel)) <|
    zall_c (zs_iload X (pc := 306) (by decide +kernel)) <|
    zall_c (zs_iload X (pc := 308) (by decide +kernel)) <|
    zall_c (zs_icmp_eq X (pc := 310) (off := 39) (by decide +kernel) (by decide)) <|
    zall_c (zs_aload X (pc := 313) (by decide +kernel)) <|
    zall_c (zs_ldcs X (pc := 315) (idx := 78) (tx := "bar w") (by decide +kernel) (by decide +kernel)) <|
    zall_c (zs_ex (fun a b => zs_callV X (pc := 317) zc_J4 (fun _ ht => ⟨(zCB ht gw_3_23 gw_1_5 gw_3_154 rfl rfl (by decide +kernel) ⟨Nat.le_of_ble_eq_true rfl, Nat.le_of_ble_eq_true rfl⟩), ht _ (.tail _ gw_3_21), ht _ (.tail _ gw_3_22)⟩) (h3 a b) hout (by decide +kernel))) <|
    zall_c (zs_bipush X (pc := 320) (by decide) (by decide +kernel) (by decide +kernel)) <|
    zall_c (zs_iload X (pc := 322) (by decide +kernel)) <|
    zall_c (zs_iadd X (pc := 324) (by decide +kernel)) <|
    zall_c (zs_i2c X (pc := 325) (by decide +kernel)) <|
    zall_c (zs_ex (fun a b => zs_callV X (pc := 326) zc_J4 (fun _ ht => ⟨(zCB ht gw_3_161 gw_1_5 gw_3_158 rfl rfl (by decide +kernel) ⟨Nat.le_of_ble_eq_true rfl, Nat.le_of_ble_eq_true rfl⟩), ht _ (.tail _ gw_3_159), ht _ (.tail _ gw_3_160)⟩) (h4 a b) hout (by decide +kernel))) <|
    zall_c (zs_ldcs X (pc := 329) (idx := 80) (tx := " w") (by decide +kernel) (by decide +kernel)) <|
    zall_c (zs_ex (fun a b => zs_callV X (pc := 331) zc_J4 (fun _ ht => ⟨(zCB ht gw_3_23 gw_1_5 gw_3_154 rfl rfl (by decide +kernel) ⟨Nat.le_of_ble_eq_true rfl, Nat.le_of_ble_eq_true rfl⟩), ht _ (.tail _ gw_3_21), ht _ (.tail _ gw_3_22)⟩) (h3 a b) hout (by decide +kernel))) <|
    zall_c (zs_bipush X (pc := 334) (by decide) (by decide +kernel) (by decide +kernel)) <|
    zall_c (zs_iload X (pc := 336) (by decide +kernel)) <|
    zall_c (zs_iadd X (pc := 338) (by decide +kernel)) <|
    zall_c (zs_i2c X (pc := 339) (by decide +kernel)) <|
    zall_c (zs_ex (fun a b => zs_callV X (pc := 340) zc_J4 (fun _ ht => ⟨(zCB ht gw_3_161 gw_1_5 gw_3_158 rfl rfl (by decide +kernel) ⟨Nat.le_of_ble_eq_true rfl, Nat.le_of_ble_eq_true rfl⟩), ht _ (.tail _ gw_3_159), ht _ (.tail _ gw_3_160)⟩) (h4 a b) hout (by decide +kernel))) <|
    zall_c (zs_ldcs X (pc := 343) (idx := 61) (tx := ";") (by decide +kernel) (by decide +kernel)) <|
    zall_c (zs_ex (fun a b => zs_callV X (pc := 345) zc_J4 (fun _ ht => ⟨(zCB ht gw_3_23 gw_1_5 gw_3_154 rfl rfl (by decide +kernel) ⟨Nat.le_of_ble_eq_true rfl, Nat.le_of_ble_eq_true rfl⟩), ht _ (.tail _ gw_3_21), ht _ (.tail _ gw_3_22)⟩) (h3 a b) hout (by decide +kernel))) <|
    zall_c (zs_pop X (pc := 348) (by decide +kernel)) <|
    zall_c (zs_aload_n X (pc := 349) (q := 0) rfl (by decide +kernel)) <|
    zall_c (zs_aload X (pc := 350) (by decide +kernel)) <|
    zall_c (zs_callV X (pc := 352) zc_J4 (fun _ ht => ⟨(zCB ht gw_3_190 gw_1_5 gw_3_187 rfl rfl (by decide +kernel) ⟨Nat.le_of_ble_eq_true rfl, Nat.le_of_ble_eq_true rfl⟩), ht _ (.tail _ gw_3_188), ht _ (.tail _ gw_3_189)⟩) h5 hout (by decide +kernel)) <|
    zall_c (zs_callS X (pc := 355) (fun _ ht => ⟨(zCB ht gw_4_9 gw_1_0 gw_4_7 rfl rfl (by decide +kernel) ⟨Nat.le_of_ble_eq_true rfl, Nat.le_of_ble_eq_true rfl⟩), ht _ (.tail _ gw_4_8)⟩) h6 hout (by decide +kernel)) <|
    zall_c (zs_aload_n X (pc := 358) (q := 0) rfl (by decide +kernel)) <|
    zall_c (zs_callV X (pc := 359) zc_X8 (fun _ ht => ⟨(zCB ht gw_4_61 gw_1_1 gw_4_58 rfl rfl (by decide +kernel) ⟨Nat.le_of_ble_eq_true rfl, Nat.le_of_ble_eq_true rfl⟩), ht _ (.tail _ gw_4_59), ht _ (.tail _ gw_4_60)⟩) h7 hout (by decide +kernel)) <|
    zall_c (zs_iload_n X (pc := 362) (q := 2) rfl (by decide +kernel)) <|
    zall_c (zs_icmp_ne X (pc := 363) (off := 88) (by decide +kernel) (by decide)) <|
    zall_c (zs_aload_n X (pc := 366) (q := 0) rfl (by decide +kernel)) <|
    zall_c (zs_callV0 X (pc := 367) zc_X8 (fun _ ht => ⟨(zCB ht gw_5_17 gw_1_1 gw_5_14 rfl rfl (by decide +kernel) ⟨Nat.le_of_ble_eq_true rfl, Nat.le_of_ble_eq_true rfl⟩), ht _ (.tail _ gw_5_15), ht _ (.tail _ gw_5_16)⟩) h8 hout (by decide +kernel)) <|
    zall_c (zs_if_ne X (pc := 370) (off := 81) (by decide +kernel) (by decide)) <|
    zall_c (zs_aload_n X (pc := 373) (q := 0) rfl (by decide +kernel)) <|
    zall_c (zs_callV0 X (pc := 374) zc_X8 (fun _ ht => ⟨(zCB ht gw_5_21 gw_1_1 gw_5_18 rfl rfl (by decide +kernel) ⟨Nat.le_of_ble_eq_true rfl, Nat.le_of_ble_eq_true rfl⟩), ht _ (.tail _ gw_5_19), ht _ (.tail _ gw_5_20)⟩) h9 hout (by decide +kernel)) <|
    zall_c (zs_iconst X (pc := 377) (by decide) (by decide +kernel)) <|
    zall_c (zs_icmp_ne X (pc := 378) (off := 73) (by decide +kernel) (by decide)) <|
    zall_c (zs_aload_n X (pc := 381) (q := 0) rfl (by decide +kernel)) <|
    zall_c (zs_iconst X (pc := 382) (by decide) (by decide +kernel)) <|
    zall_c (zs_callV X (pc := 383) zc_X8 (fun _ ht => ⟨(zCB ht gw_2_148 gw_1_1 gw_2_145 rfl rfl (by decide +kernel) ⟨Nat.le_of_ble_eq_true rfl, Nat.le_of_ble_eq_true rfl⟩), ht _ (.tail _ gw_2_146), ht _ (.tail _ gw_2_147)⟩) h10 hout (by decide +kernel)) <|
    zall_c (zs_iload_n X (pc := 386) (q := 2) rfl (by decide +kernel)) <|
    zall_c (zs_icmp_ne X (pc := 387) (off := 64) (by decide +kernel) (by decide)) <|
    zall_c (zs_aload_n X (pc := 390) (q := 0) rfl (by decide +kernel)) <|
    zall_c (zs_iconst X (pc := 391) (by decide) (by decide +kernel)) <|
    zall_c (zs_callV X (pc := 392) zc_X8 (fun _ ht => ⟨(zCB ht gw_2_148 gw_1_1 gw_2_145 rfl rfl (by decide +kernel) ⟨Nat.le_of_ble_eq_true rfl, Nat.le_of_ble_eq_true rfl⟩), ht _ (.tail _ gw_2_146), ht _ (.tail _ gw_2_147)⟩) h10 hout (by decide +kernel)) <|
    zall_c (zs_iload X (pc := 395) (by decide +kernel)) <|
    zall_c (zs_icmp_ne X (pc := 397) (off := 54) (by decide +kernel) (by decide)) <|
    zall_c (zs_aload_n X (pc := 400) (q := 0) rfl (by decide +kernel)) <|
    zall_c (zs_iconst X (pc := 401) (by decide) (by decide +kernel)) <|
    zall_c (zs_callV X (pc := 402) zc_X8 (fun _ ht => ⟨(zCB ht gw_2_148 gw_1_1 gw_2_145 rfl rfl (by decide +kernel) ⟨Nat.le_of_ble_eq_true rfl, Nat.le_of_ble_eq_true rfl⟩), ht _ (.tail _ gw_2_146), ht _ (.tail _ gw_2_147)⟩) h10 hout (by decide +kernel)) <|
    zall_c (zs_if_ne X (pc := 405) (off := 46) (by decide +kernel) (by decide)) <|
    zall_c (zs_aload_n X (pc := 408) (q := 0) rfl (by decide +kernel)) <|
    zall_c (zs_iconst X (pc := 409) (by decide) (by decide +kernel)) <|
    zall_c (zs_callV X (pc := 410) zc_X8 (fun _ ht => ⟨(zCB ht gw_2_148 gw_1_1 gw_2_145 rfl rfl (by decide +kernel) ⟨Nat.le_of_ble_eq_true rfl, Nat.le_of_ble_eq_true rfl⟩), ht _ (.tail _ gw_2_146), ht _ (.tail _ gw_2_147)⟩) h10 hout (by decide +kernel)) <|
    zall_c (zs_iload_n X (pc := 413) (q := 3) rfl (by decide +kernel)) <|
    zall_c (zs_icmp_ne X (pc := 414) (off := 37) (by decide +kernel) (by decide)) <|
    zall_c (zs_aload_n X (pc := 417) (q := 0) rfl (by decide +kernel)) <|
    zall_c (zs_bipush X (pc := 418) (by decide) (by decide +kernel) (by decide +kernel)) <|
    zall_c (zs_callV X (pc := 420) zc_X8 (fun _ ht => ⟨(zCB ht gw_2_148 gw_1_1 gw_2_145 rfl rfl (by decide +kernel) ⟨Nat.le_of_ble_eq_true rfl, Nat.le_of_ble_eq_true rfl⟩), ht _ (.tail _ gw_2_146), ht _ (.tail _ gw_2_147)⟩) h10 hout (by decide +kernel)) <|
    zall_c (zs_iload X (pc := 423) (by decide +kernel)) <|
    zall_c (zs_icmp_ne X (pc := 425) (off := 26) (by decide +kernel) (by decide)) <|
    zall_c (zs_aload_n X (pc := 428) (q := 0) rfl (by decide +kernel)) <|
    zall_c (zs_iload X (pc := 429) (by decide +kernel)) <|
    zall_c (zs_iload X (pc := 431) (by decide +kernel)) <|
    zall_c (zs_callV X (pc := 433) zc_X8 (fun _ ht => ⟨(zCB ht gw_5_25 gw_1_1 gw_5_22 rfl rfl (by decide +kernel) ⟨Nat.le_of_ble_eq_true rfl, Nat.le_of_ble_eq_true rfl⟩), ht _ (.tail _ gw_5_23), ht _ (.tail _ gw_5_24)⟩) h11 hout (by decide +kernel)) <|
    zall_c (zs_iload X (pc := 436) (by decide +kernel)) <|
    zall_c (zs_iload X (pc := 438) (by decide +kernel)) <|
    zall_c (zs_icmp_eq X (pc := 440) (off := 7) (by decide +kernel) (by decide)) <|
    zall_c (zs_iconst X (pc := 443) (by decide) (by decide +kernel)) <|
    zall_c (zs_goto X (pc := 444) (off := 4) (by decide +kernel) (by decide)) <|
    zall_c (zs_iconst X (pc := 447) (by decide) (by decide +kernel)) <|
    zall_c (zs_icmp_eq X (pc := 448) (off := 5) (by decide +kernel) (by decide)) <|
    zall_c (zs_iconst X (pc := 451) (by decide) (by decide +kernel)) <|
    zall_c (zs_zret X (pc := 452) rfl zR_bool (by decide +kernel)) <|
    zall_c (zs_iconst X (pc := 453) (by decide) (by decide +kernel)) <|
    zall_c (zs_istore X (pc := 454) (by decide) (by decide +kernel)) <|
    zall_c (zs_iload X (pc := 456) (by decide +kernel)) <|
    zall_c (zs_iload_n X (pc := 458) (q := 2) rfl (by decide +kernel)) <|
    zall_c (zs_icmp_ge X (pc := 459) (off := 81) (by decide +kernel) (by decide)) <|
    zall_c (zs_aload_n X (pc := 462) (q := 0) rfl (by decide +kernel)) <|
    zall_c (zs_iload X (pc := 463) (by decide +kernel)) <|
    zall_c (zs_iconst X (pc := 465) (by decide) (by decide +kernel)) <|
    zall_c (zs_callV X (pc := 466) zc_X8 (fun _ ht => ⟨(zCB ht gw_5_50 gw_1_1 gw_5_47 rfl rfl (by decide +kernel) ⟨Nat.le_of_ble_eq_true rfl, Nat.le_of_ble_eq_true rfl⟩), ht _ (.tail _ gw_5_48), ht _ (.tail _ gw_5_49)⟩) h12 hout (by decide +kernel)) <|
    zall_c (zs_aload_n X (pc := 469) (q := 1) rfl (by decide +kernel)) <|
    zall_c (zs_bipush X (pc := 470) (by decide) (by decide +kernel) (by decide +kernel)) <|
    zall_c (zs_iconst X (pc := 472) (by decide) (by decide +kernel)) <|
    zall_c (zs_iload X (pc := 473) (by decide +kernel)) <|
    zall_c (zs_imul X (pc := 475) (by decide +kernel)) <|
    zall_c (zs_iadd X (pc := 476) (by decide +kernel)) <|
    zall_c (zs_bipush X (pc := 477) (by decide) (by decide +kernel) (by decide +kernel)) <|
    zall_c (zs_callS0 X (pc := 479) (fun _ ht => ⟨(zCB ht gw_2_229 gw_1_0 gw_2_227 rfl rfl (by decide +kernel) ⟨Nat.le_of_ble_eq_true rfl, Nat.le_of_ble_eq_true rfl⟩), ht _ (.tail _ gw_2_228)⟩) h0 hout (by decide +kernel)) <|
    zall_c (zs_icmp_ne X (pc := 482) (off := 50) (by decide +kernel) (by decide)) <|
    zall_c (zs_aload_n X (pc := 485) (q := 0) rfl (by decide +kernel)) <|
    zall_c (zs_iload X (pc := 486) (by decide +kernel)) <|
    zall_c (zs_iconst X (pc := 488) (by decide) (by decide +kernel)) <|
    zall_c (zs_callV X (pc := 489) zc_X8 (fun _ ht => ⟨(zCB ht gw_5_50 gw_1_1 gw_5_47 rfl rfl (by decide +kernel) ⟨Nat.le_of_ble_eq_true rfl, Nat.le_of_ble_eq_true rfl⟩), ht _ (.tail _ gw_5_48), ht _ (.tail _ gw_5_49)⟩) h12 hout (by decide +kernel)) <|
    zall_c (zs_iconst X (pc := 492) (by decide) (by decide +kernel)) <|
    zall_c (zs_aload_n X (pc := 493) (q := 1) rfl (by decide +kernel)) <|
    zall_c (zs_bipush X (pc := 494) (by decide) (by decide +kernel) (by decide +kernel)) <|
    zall_c (zs_iconst X (pc := 496) (by decide) (by decide +kernel)) <|
    zall_c (zs_iload X (pc := 497) (by decide +kernel)) <|
    zall_c (zs_imul X (pc := 499) (by decide +kernel)) <|
    zall_c (zs_iadd X (pc := 500) (by decide +kernel)) <|
    zall_c (zs_iconst X (pc := 501) (by decide) (by decide +kernel)) <|
    zall_c (zs_callS0 X (pc := 502) (fun _ ht => ⟨(zCB ht gw_2_229 gw_1_0 gw_2_227 rfl rfl (by decide +kernel) ⟨Nat.le_of_ble_eq_true rfl, Nat.le_of_ble_eq_true rfl⟩), ht _ (.tail _ gw_2_228)⟩) h0 hout (by decide +kernel)) <|
    zall_c (zs_iadd X (pc := 505) (by decide +kernel)) <|
    zall_c (zs_icmp_ne X (pc := 506) (off := 26) (by decide +kernel) (by decide)) <|
    zall_c (zs_aload_n X (pc := 509) (q := 0) rfl (by decide +kernel)) <|
    zall_c (zs_iload X (pc := 510) (by decide +kernel)) <|
    zall_c (zs_iconst X (pc := 512) (by decide) (by decide +kernel)) <|
    zall_c (zs_callV X (pc := 513) zc_X8 (fun _ ht => ⟨(zCB ht gw_5_50 gw_1_1 gw_5_47 rfl rfl (by decide +kernel) ⟨Nat.le_of_ble_eq_true rfl, Nat.le_of_ble_eq_true rfl⟩), ht _ (.tail _ gw_5_48), ht _ (.tail _ gw_5_49)⟩) h12 hout (by decide +kernel)) <|
    zall_c (zs_aload_n X (pc := 516) (q := 1) rfl (by decide +kernel)) <|
    zall_c (zs_bipush X (pc := 517) (by decide) (by decide +kernel) (by decide +kernel)) <|
    zall_c (zs_iconst X (pc := 519) (by decide) (by decide +kernel)) <|
    zall_c (zs_iload X (pc := 520) (by decide +kernel)) <|
    zall_c (zs_imul X (pc := 522) (by decide +kernel)) <|
    zall_c (zs_iadd X (pc := 523) (by decide +kernel)) <|
    zall_c (zs_bipush X (pc := 524) (by decide) (by decide +kernel) (by decide +kernel)) <|
    zall_c (zs_callS0 X (pc := 526) (fun _ ht => ⟨(zCB ht gw_2_229 gw_1_0 gw_2_227 rfl rfl (by decide +kernel) ⟨Nat.le_of_ble_eq_true rfl, Nat.le_of_ble_eq_true rfl⟩), ht _ (.tail _ gw_2_228)⟩) h0 hout (by decide +kernel)) <|
    zall_c (zs_icmp_eq X (pc := 529) (off := 5) (by decide +kernel) (by decide)) <|
    zall_c (zs_iconst X (pc := 532) (by decide) (by decide +kernel)) <|
    zall_c (zs_zret X (pc := 533) rfl zR_bool (by decide +kernel)) <|
    zall_c (zs_iinc X (pc := 534) (by decide) (by decide +kernel)) <|
    zall_c (zs_goto X (pc := 537) (off := (-81)) (by decide +kernel) (by decide)) <|
    zall_c (zs_iconst X (pc := 540) (by decide) (by decide +kernel)) <|
    zall_c (zs_zret X (pc := 541) rfl zR_bool (by decide +kernel)) <|
    zall_n
theorem met_L_load {l : Launch} (hl : l.stackTraces = false) {T0 : ZTf} {T1 : ZTf} {T2 : Nat → Nat → ZTf} {T3 : Nat → Nat → ZTf} {T4 : Nat → Nat → ZTf} {T5 : ZTf} {T6 : ZTf} {T7 : ZTf} {T8 : ZTf} {T9 : ZTf} {T10 : ZTf} {T11 : ZTf} {T12 : ZTf} (h0 : zMet l yL_draw (Cond.code yL_draw cL_draw 3 (Option.some Jvm.ClassFile.FieldType.int) :: zG) rm_L_draw 0 0 T0) (h1 : zMet l yJ4_init_a7421 (Cond.code yJ4_init_a7421 cJ4_init_a7421 2 (Option.none : Option Jvm.ClassFile.FieldType) :: zG) rm_J4_init_a7421 1 120 T1) (h2 : ∀ a b, zMet l yJ4_append_bf812 (Cond.code yJ4_append_bf812 cJ4_append_bf812 2 (Option.some (Jvm.ClassFile.FieldType.object "java/lang/StringBuilder")) :: zG) (rm_J4_append_bf812 a b) a b (T2 a b)) (h3 : ∀ a b, zMet l yJ4_append_15ec4 (Cond.code yJ4_append_15ec4 cJ4_append_15ec4 2 (Option.some (Jvm.ClassFile.FieldType.object "java/lang/StringBuilder")) :: zG) (rm_J4_append_15ec4 a b) a b (T3 a b)) (h4 : ∀ a b, zMet l yJ4_append_cf468 (Cond.code yJ4_append_cf468 cJ4_append_cf468 2 (Option.some (Jvm.ClassFile.FieldType.object "java/lang/StringBuilder")) :: zG) (rm_J4_append_cf468 a b) a b (T4 a b)) (h5 : zMet l yJ4_toString_0e30d (Cond.code yJ4_toString_0e30d cJ4_toString_0e30d 1 (Option.some (Jvm.ClassFile.FieldType.object "java/lang/String")) :: zG) rm_J4_toString_0e30dB 2 344 T5) (h6 : zMet l yL_feed (Cond.code yL_feed cL_feed 4 (Option.none : Option Jvm.ClassFile.FieldType) :: zG) rm_L_feed 30 180 T6) (h7 : zMet l yX8_load (Cond.code yX8_load cX8_load 2 (Option.some Jvm.ClassFile.FieldType.int) :: zG) rm_X8_load 508 3810 T7) (h8 : zMet l yX8_errorCode (Cond.code yX8_errorCode cX8_errorCode 1 (Option.some Jvm.ClassFile.FieldType.int) :: zG) rm_X8_errorCode 0 0 T8) (h9 : zMet l yX8_errorPosition (Cond.code yX8_errorPosition cX8_errorPosition 1 (Option.some Jvm.ClassFile.FieldType.int) :: zG) rm_X8_errorPosition 0 0 T9) (h10 : zMet l yX8_property (Cond.code yX8_property cX8_property 2 (Option.some Jvm.ClassFile.FieldType.int) :: zG) rm_X8_property 1 6 T10) (h11 : zMet l yX8_isBarred (Cond.code yX8_isBarred cX8_isBarred 3 (Option.some Jvm.ClassFile.FieldType.boolean) :: zG) rm_X8_isBarred 2 12 T11) (h12 : zMet l yX8_worker (Cond.code yX8_worker cX8_worker 4 (Option.some Jvm.ClassFile.FieldType.int) :: zG) rm_X8_worker 2 12 T12) {T : ZTf} (bd : zBd (cd_L_load T0 T1 T2 T3 T4 T5 T6 T7 T8 T9 T10 T11 T12) 10 2000 60000 T) : zMet l yL_load (Cond.code yL_load cL_load 10 (Option.some Jvm.ClassFile.FieldType.boolean) :: zG) rm_L_load 2000 60000 T := zMet_of hl (by decide +kernel) rfl rfl rfl rfl (hs_L_load hl h0 h1 h2 h3 h4 h5 h6 h7 h8 h9 h10 h11 h12) bd
