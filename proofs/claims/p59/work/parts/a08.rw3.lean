/-! the rows of the law, on -/
theorem gw_6_79 : Cond.code yX8_stateIf cX8_stateIf 5 (Option.some Jvm.ClassFile.FieldType.int) ∈ zG := zGt6 (List.mem_of_getElem? (i := 79) (by rfl)) rfl
theorem gw_6_76 : Cond.methodLink RL 198 yX8_stateIf ∈ zG := zGt6 (List.mem_of_getElem? (i := 76) (by rfl)) rfl
theorem gw_6_77 : Cond.instanceMethod yX8_stateIf ∈ zG := zGt6 (List.mem_of_getElem? (i := 77) (by rfl)) rfl
theorem gw_6_78 : Cond.selects RX8 yX8_stateIf yX8_stateIf ∈ zG := zGt6 (List.mem_of_getElem? (i := 78) (by rfl)) rfl
theorem gw_6_83 : Cond.code yX8_trustIf cX8_trustIf 9 (Option.some Jvm.ClassFile.FieldType.int) ∈ zG := zGt6 (List.mem_of_getElem? (i := 83) (by rfl)) rfl
theorem gw_6_80 : Cond.methodLink RL 201 yX8_trustIf ∈ zG := zGt6 (List.mem_of_getElem? (i := 80) (by rfl)) rfl
theorem gw_6_81 : Cond.instanceMethod yX8_trustIf ∈ zG := zGt6 (List.mem_of_getElem? (i := 81) (by rfl)) rfl
theorem gw_6_82 : Cond.selects RX8 yX8_trustIf yX8_trustIf ∈ zG := zGt6 (List.mem_of_getElem? (i := 82) (by rfl)) rfl
theorem gw_5_160 : Cond.methodLink RL 162 yL_delivered ∈ zG := zGt5 (List.mem_of_getElem? (i := 160) (by rfl)) rfl
theorem gw_5_161 : Cond.static yL_delivered ∈ zG := zGt5 (List.mem_of_getElem? (i := 161) (by rfl)) rfl
theorem gw_5_162 : Cond.codeWith yL_delivered cL_delivered 5 (Option.some Jvm.ClassFile.FieldType.int) [(0, 7, 8, 113)] ∈ zG := zGt5 (List.mem_of_getElem? (i := 162) (by rfl)) rfl
abbrev rm_L_delivers : Room := { frames := 9, cells := 160, slots := 1000, locals := 172 }
def cd_L_delivers (T0 : ZTf) (T1 : ZTf) (T2 : ZTf) (T3 : ZTf) (T4 : ZTf) (T5 : ZTf) (T6 : ZTf) (T7 : ZTf) (T8 : List ZV → ZM → ZRet → Prop) (T9 : ZTf) (T10 : ZTf) : List (Nat × ZTr) := [(0, tAld 0 1), (1, tIld 2 2), (2, tC (zi 4) 3), (3, tCall 3 2 12 T0 (zRcv 11) 6), (6, tIst 4 8), (8, tAld 0 9), (9, tIld 2 10), (10, tC (zi 1) 11), (11, tCall 3 2 12 T0 (zRcv 11) 14), (14, tIst 5 16), (16, tAld 0 17), (17, tC (zi 3) 18), (18, tCall 2 1 6 T1 (zRcv 11) 21), (21, tIst 6 23), (23, tIld 4 25), (25, tNewA 20 27), (27, tAst 7 29), (29, tIld 4 31), (31, tNewA 20 33), (33, tAst 8 35), (35, tIld 4 37), (37, tIld 5 39), (39, tIf_ne 46 42), (42, tC (zi 2) 43), (43, tGo 47), (46, tC (zi 3) 47), (47, tIc_ne 54 50), (50, tC (zi 1) 51), (51, tGo 55), (54, tC (zi 0) 55), (55, tIst 9 57), (57, tC (zi 0) 58), (58, tIst 10 60), (60, tIld 10 62), (62, tIld 4 64), (64, tIc_ge 130 67), (67, tAld 7 69), (69, tIld 10 71), (71, tAld 0 72), (72, tIld 2 73), (73, tIld 10 75), (75, tC (zi 0) 76), (76, tCall 4 3 18 T2 (zRcv 11) 79), (79, tIas 20 (fun _ => True) 80), (80, tAld 8 82), (82, tIld 10 84), (84, tAld 7 86), (86, tIld 10 88), (88, tIal 20 89), (89, tIld 1 90), (90, tIc_ne 97 93), (93, tIld 3 94), (94, tGo 105), (97, tAld 0 98), (98, tIld 2 99), (99, tIld 10 101), (101, tC (zi 1) 102), (102, tCall 4 3 18 T2 (zRcv 11) 105), (105, tIas 20 (fun _ => True) 106), (106, tIld 9 108), (108, tAld 8 110), (110, tIld 10 112), (112, tIal 20 113), (113, tIf_lt 120 116), (116, tC (zi 1) 117), (117, tGo 121), (120, tC (zi 0) 121), (121, tBif zand 122), (122, tIst 9 124), (124, tInc 10 1 127), (127, tGo 60), (130, tAld 0 131), (131, tCall 1 20 120 T3 zAny 134), (134, tAst 10 136), (136, tAld 10 138), (138, tLen 139), (139, tNewA 20 141), (141, tAst 11 143), (143, tC (zi 0) 144), (144, tIst 12 146), (146, tIld 12 148), (148, tAld 11 150), (150, tLen 151), (151, tIc_ge 173 154), (154, tAld 11 156), (156, tIld 12 158), (158, tAld 0 159), (159, tIld 12 161), (161, tC (zi 8) 163), (163, tCall 3 2 12 T4 (zRcv 11) 166), (166, tIas 20 (fun _ => True) 167), (167, tInc 12 1 170), (170, tGo 146), (173, tIld 5 175), (175, tIst 12 177), (177, tC (zi (-1)) 178), (178, tIst 13 180), (180, tC (zi 0) 181), (181, tIst 14 183), (183, tIld 9 185), (185, tIf_eq 307 188), (188, tIld 5 190), (190, tIf_ne 307 193), (193, tAld 8 195), (195, tC (zi 0) 196), (196, tIal 20 197), (197, tAld 8 199), (199, tC (zi 1) 200), (200, tIal 20 201), (201, tSub 202), (202, tMth1 205), (205, tIld 6 207), (207, tIc_gt 214 210), (210, tC (zi 2) 211), (211, tGo 215), (214, tC (zi 1) 215), (215, tIst 12 217), (217, tAld 10 219), (219, tAld 7 221), (221, tC (zi 1) 222), (222, tIal 20 223), (223, tIal 20 224), (224, tAld 10 226), (226, tAld 7 228), (228, tC (zi 0) 229), (229, tIal 20 230), (230, tIal 20 231), (231, tIc_le 241 234), (234, tAld 8 236), (236, tC (zi 1) 237), (237, tIal 20 238), (238, tGo 245), (241, tAld 8 243), (243, tC (zi 0) 244), (244, tIal 20 245), (245, tIst 13 247), (247, tC (zi 1) 248), (248, tAld 7 250), (250, tC (zi 0) 251), (251, tIal 20 252), (252, tBif zshl 253), (253, tC (zi 1) 254), (254, tAld 7 256), (256, tC (zi 1) 257), (257, tIal 20 258), (258, tBif zshl 259), (259, tBif zor 260), (260, tIst 14 262), (262, tIld 12 264), (264, tC (zi 2) 265), (265, tIc_ne 552 268), (268, tC (zi 0) 269), (269, tIst 15 271), (271, tIld 15 273), (273, tC (zi 2) 274), (274, tIc_ge 304 277), (277, tAld 10 279), (279, tAld 7 281), (281, tIld 15 283), (283, tIal 20 284), (284, tAld 10 286), (286, tAld 7 288), (288, tIld 15 290), (290, tIal 20 291), (291, tIal 20 292), (292, tC (zi 1) 293), (293, tAdd 294), (294, tCall0 1 T5 zAny 297), (297, tIas 20 (fun _ => True) 298), (298, tInc 15 1 301), (301, tGo 271), (304, tGo 552), (307, tIld 9 309), (309, tIf_eq 552 312), (312, tAld 8 314), (314, tC (zi 1) 315), (315, tIal 20 316), (316, tAld 8 318), (318, tC (zi 2) 319), (319, tIal 20 320), (320, tSub 321), (321, tMth1 324), (324, tAld 8 326), (326, tC (zi 0) 327), (327, tIal 20 328), (328, tAld 8 330), (330, tC (zi 2) 331), (331, tIal 20 332), (332, tSub 333), (333, tMth1 336), (336, tIc_ge 343 339), (339, tC (zi 1) 340), (340, tGo 344), (343, tC (zi 0) 344), (344, tIst 15 346), (346, tC (zi 1) 347), (347, tIld 15 349), (349, tSub 350), (350, tIst 16 352), (352, tAld 8 354), (354, tIld 15 356), (356, tIal 20 357), (357, tAld 8 359), (359, tC (zi 2) 360), (360, tIal 20 361), (361, tSub 362), (362, tMth1 365), (365, tIld 6 367), (367, tIc_gt 374 370), (370, tC (zi 2) 371), (371, tGo 375), (374, tC (zi 3) 375), (375, tIst 12 377), (377, tAld 10 379), (379, tAld 7 381), (381, tC (zi 2) 382), (382, tIal 20 383), (383, tIal 20 384), (384, tAld 10 386), (386, tAld 7 388), (388, tIld 15 390), (390, tIal 20 391), (391, tIal 20 392), (392, tIc_le 402 395), (395, tAld 8 397), (397, tC (zi 2) 398), (398, tIal 20 399), (399, tGo 407), (402, tAld 8 404), (404, tIld 15 406), (406, tIal 20 407), (407, tIst 13 409), (409, tC (zi 1) 410), (410, tAld 7 412), (412, tIld 15 414), (414, tIal 20 415), (415, tBif zshl 416), (416, tC (zi 1) 417), (417, tAld 7 419), (419, tC (zi 2) 420), (420, tIal 20 421), (421, tBif zshl 422), (422, tBif zor 423), (423, tIst 14 425), (425, tIld 12 427), (427, tC (zi 3) 428), (428, tIc_ne 467 431), (431, tC (zi 0) 432), (432, tIst 17 434), (434, tIld 17 436), (436, tC (zi 3) 437), (437, tIc_ge 467 440), (440, tAld 10 442), (442, tAld 7 444), (444, tIld 17 446), (446, tIal 20 447), (447, tAld 10 449), (449, tAld 7 451), (451, tIld 17 453), (453, tIal 20 454), (454, tIal 20 455), (455, tC (zi 1) 456), (456, tSub 457), (457, tCall0 1 T5 zAny 460), (460, tIas 20 (fun _ => True) 461), (461, tInc 17 1 464), (464, tGo 434), (467, tIld 12 469), (469, tC (zi 2) 470), (470, tIc_ne 552 473), (473, tAld 10 475), (475, tAld 7 477), (477, tIld 15 479), (479, tIal 20 480), (480, tAld 10 482), (482, tAld 7 484), (484, tIld 15 486), (486, tIal 20 487), (487, tIal 20 488), (488, tC (zi 1) 489), (489, tAdd 490), (490, tCall0 1 T5 zAny 493), (493, tIas 20 (fun _ => True) 494), (494, tAld 10 496), (496, tAld 7 498), (498, tC (zi 2) 499), (499, tIal 20 500), (500, tAld 10 502), (502, tAld 7 504), (504, tC (zi 2) 505), (505, tIal 20 506), (506, tIal 20 507), (507, tC (zi 1) 508), (508, tAdd 509), (509, tCall0 1 T5 zAny 512), (512, tIas 20 (fun _ => True) 513), (513, tAld 8 515), (515, tIld 16 517), (517, tIal 20 518), (518, tAld 8 520), (520, tC (zi 2) 521), (521, tIal 20 522), (522, tSub 523), (523, tMth1 526), (526, tIld 6 528), (528, tIc_le 552 531), (531, tAld 10 533), (533, tAld 7 535), (535, tIld 16 537), (537, tIal 20 538), (538, tAld 10 540), (540, tAld 7 542), (542, tIld 16 544), (544, tIal 20 545), (545, tIal 20 546), (546, tC (zi 3) 547), (547, tSub 548), (548, tCall0 1 T5 zAny 551), (551, tIas 20 (fun _ => True) 552), (552, tAld 0 553), (553, tIld 1 554), (554, tIld 2 555), (555, tIld 3 556), (556, tCall 4 4 24 T6 (zRcv 11) 559), (559, tIld 12 561), (561, tIc_eq 566 564), (564, tC (zi 0) 565), (565, tRi zPz), (566, tC (zi 0) 567), (567, tIst 15 569), (569, tIld 15 571), (571, tAld 10 573), (573, tLen 574), (574, tIc_ge 602 577), (577, tAld 0 578), (578, tIld 1 579), (579, tIld 2 580), (580, tIld 3 581), (581, tIld 15 583), (583, tCall 5 5 30 T7 (zRcv 11) 586), (586, tAld 10 588), (588, tIld 15 590), (590, tIal 20 591), (591, tIc_eq 596 594), (594, tC (zi 0) 595), (595, tRi zPz), (596, tInc 15 1 599), (599, tGo 569), (602, tAld 0 603), (603, tIld 1 604), (604, tC (zi 5) 605), (605, tCall 3 2 12 T4 (zRcv 11) 608), (608, tIst 15 610), (610, tAld 0 611), (611, tIld 1 612), (612, tIld 2 613), (613, tIld 3 614), (614, tCall 4 4 24 (fun av M K _ => T8 av M K) zAny 617), (617, tIld 12 619), (619, tIc_ne 687 622), (622, tAld 0 623), (623, tIld 2 624), (624, tC (zi 1) 625), (625, tCall 3 2 12 T0 (zRcv 11) 628), (628, tIld 12 630), (630, tIc_ne 687 633), (633, tAld 0 634), (634, tIld 2 635), (635, tC (zi 2) 636), (636, tCall 3 2 12 T0 (zRcv 11) 639), (639, tIld 12 641), (641, tC (zi 2) 642), (642, tIc_ne 650 645), (645, tIld 13 647), (647, tGo 651), (650, tC (zi (-1)) 651), (651, tIc_ne 687 654), (654, tAld 0 655), (655, tIld 2 656), (656, tCall 2 1 6 T9 (zRcv 11) 659), (659, tIld 12 661), (661, tC (zi 2) 662), (662, tIc_ne 670 665), (665, tIld 14 667), (667, tGo 671), (670, tC (zi 0) 671), (671, tIc_ne 687 674), (674, tAld 0 675), (675, tIld 1 676), (676, tC (zi 5) 677), (677, tCall 3 2 12 T4 (zRcv 11) 680), (680, tIld 15 682), (682, tC (zi 1) 683), (683, tAdd 684), (684, tIc_eq 689 687), (687, tC (zi 0) 688), (688, tRi zPz), (689, tC (zi 0) 690), (690, tIst 16 692), (692, tIld 16 694), (694, tAld 11 696), (696, tLen 697), (697, tIc_ge 752 700), (700, tAld 0 701), (701, tIld 16 703), (703, tC (zi 8) 705), (705, tCall 3 2 12 T4 (zRcv 11) 708), (708, tAld 11 710), (710, tIld 16 712), (712, tIal 20 713), (713, tIld 12 715), (715, tC (zi 2) 716), (716, tIc_ne 739 719), (719, tIld 14 721), (721, tIld 16 723), (723, tBif zshr 724), (724, tC (zi 1) 725), (725, tBif zand 726), (726, tC (zi 1) 727), (727, tIc_ne 739 730), (730, tAld 0 731), (731, tIld 2 732), (732, tC (zi 0) 733), (733, tCall 3 2 12 T0 (zRcv 11) 736), (736, tGo 740), (739, tC (zi 0) 740), (740, tAdd 741), (741, tIc_eq 746 744), (744, tC (zi 0) 745), (745, tRi zPz), (746, tInc 16 1 749), (749, tGo 692), (752, tAld 0 753), (753, tAld 10 755), (755, tCall 2 12 72 T10 zAny 758), (758, tRi zPz)]
set_option maxRecDepth 100000 in
set_option maxHeartbeats 4000000 in
theorem hs_L_delivers {l : Launch} (hl : l.stackTraces = false) {T0 : ZTf} {T1 : ZTf} {T2 : ZTf} {T3 : ZTf} {T4 : ZTf} {T5 : ZTf} {T6 : ZTf} {T7 : ZTf} {T8 : List ZV → ZM → ZRet → Prop} {T9 : ZTf} {T10 : ZTf} (h0 : zMet l yX8_row (Cond.code yX8_row cX8_row 4 (Option.some Jvm.ClassFile.FieldType.int) :: zG) rm_X8_row 2 12 T0) (h1 : zMet l yX8_property (Cond.code yX8_property cX8_property 2 (Option.some Jvm.ClassFile.FieldType.int) :: zG) rm_X8_property 1 6 T1) (h2 : zMet l yX8_taking (Cond.code yX8_taking cX8_taking 5 (Option.some Jvm.ClassFile.FieldType.int) :: zG) rm_X8_taking 3 18 T2) (h3 : zMet l yL_trusts (Cond.code yL_trusts cL_trusts 3 (Option.some (Jvm.ClassFile.FieldType.array Jvm.ClassFile.FieldType.int)) :: zG) rm_L_trusts 20 120 T3) (h4 : zMet l yX8_worker (Cond.code yX8_worker cX8_worker 4 (Option.some Jvm.ClassFile.FieldType.int) :: zG) rm_X8_worker 2 12 T4) (h5 : zMet l yL_capped (Cond.code yL_capped cL_capped 1 (Option.some Jvm.ClassFile.FieldType.int) :: zG) rm_L_capped 0 0 T5) (h6 : zMet l yX8_stateIf (Cond.code yX8_stateIf cX8_stateIf 5 (Option.some Jvm.ClassFile.FieldType.int) :: zG) rm_X8_stateIf 4 24 T6) (h7 : zMet l yX8_trustIf (Cond.code yX8_trustIf cX8_trustIf 9 (Option.some Jvm.ClassFile.FieldType.int) :: zG) rm_X8_trustIf 5 30 T7) (h8 : zMetW l yL_delivered (Cond.codeWith yL_delivered cL_delivered 5 (Option.some Jvm.ClassFile.FieldType.int) [(0, 7, 8, 113)] :: zG) rm_L_delivered 4 24 T8) (h9 : zMet l yX8_finishers (Cond.code yX8_finishers cX8_finishers 3 (Option.some Jvm.ClassFile.FieldType.int) :: zG) rm_X8_finishers 1 6 T9) (h10 : zMet l yL_are (Cond.code yL_are cL_are 3 (Option.some Jvm.ClassFile.FieldType.boolean) :: zG) rm_L_are 12 72 T10) (p : Program) (e : Env) (s : State) (m : MethodId) (args : Array Value) (below : List Frame) (meth : Method) (c : Code) (D : va_G) (A : Nat → Prop) (a0 : Nat → Nat) (M0 : ZM) (K : ZRet) (KX : ZEx) (X : zCtx p l rm_L_delivers s m args meth c cL_delivers RL (Cond.code yL_delivers cL_delivers 18 (Option.some Jvm.ClassFile.FieldType.boolean) :: zG) 18 (Option.some Jvm.ClassFile.FieldType.boolean) D A a0 M0 160 1000) (hnm : meth.name = yL_delivers.name) (hout : ∀ x ∈ c.exceptionTable.toList, False) : ∀ q ∈ cd_L_delivers T0 T1 T2 T3 T4 T5 T6 T7 T8 T9 T10, zSd p l e rm_L_delivers s m args below meth c 18 D A a0 M0 K KX 160 1000 q.1 q.2 :=
    zall_c (zs_aload_n X (pc := 0) (q := 0) rfl (by decide +kernel)) <|
    zall_c (zs_iload_n X (pc := 1) (q := 2) rfl (by decide +kernel)) <|
    zall_c (zs_iconst X (pc := 2) (by decide) (by decide +kernel)) <|
    zall_c (zs_callV X (pc := 3) zc_X8 (fun _ ht => ⟨(zCB ht gw_5_57 gw_1_1 gw_5_54 rfl rfl (by decide +kernel) ⟨Nat.le_of_ble_eq_true rfl, Nat.le_of_ble_eq_true rfl⟩), ht _ (.tail _ gw_5_55), ht _ (.tail _ gw_5_56)⟩) h0 hout (by decide +kernel)) <|
    zall_c (zs_istore X (pc := 6) (by decide) (by decide +kernel)) <|
    zall_c (zs_aload_n X (pc := 8) (q := 0) rfl (by decide +kernel)) <|
    zall_c (zs_iload_n X (pc := 9) (q := 2) rfl (by decide +kernel)) <|
    zall_c (zs_iconst X (pc := 10) (by decide) (by decide +kernel)) <|
    zall_c (zs_callV X (pc := 11) zc_X8 (fun _ ht => ⟨(zCB ht gw_5_57 gw_1_1 gw_5_54 rfl rfl (by decide +kernel) ⟨Nat.le_of_ble_eq_true rfl, Nat.le_of_ble_eq_true rfl⟩), ht _ (.tail _ gw_5_55), ht _ (.tail _ gw_5_56)⟩) h0 hout (by decide +kernel)) <|
    zall_c (zs_istore X (pc := 14) (by decide) (by decide +kernel)) <|
    zall_c (zs_aload_n X (pc := 16) (q := 0) rfl (by decide +kernel)) <|
    zall_c (zs_iconst X (pc := 17) (by decide) (by decide +kernel)) <|
    zall_c (zs_callV X (pc := 18) zc_X8 (fun _ ht => ⟨(zCB ht gw_2_148 gw_1_1 gw_2_145 rfl rfl (by decide +kernel) ⟨Nat.le_of_ble_eq_true rfl, Nat.le_of_ble_eq_true rfl⟩), ht _ (.tail _ gw_2_146), ht _ (.tail _ gw_2_147)⟩) h1 hout (by decide +kernel)) <|
    zall_c (zs_istore X (pc := 21) (by decide) (by decide +kernel)) <|
    zall_c (zs_iload X (pc := 23) (by decide +kernel)) <|
    zall_c (zs_newarray20 X (pc := 25) (.tail _ gw_1_81) (by decide +kernel)) <|
    zall_c (zs_astore X (pc := 27) (by decide) (by decide +kernel)) <|
    zall_c (zs_iload X (pc := 29) (by decide +kernel)) <|
    zall_c (zs_newarray20 X (pc := 31) (.tail _ gw_1_81) (by decide +kernel)) <|
    zall_c (zs_astore X (pc := 33) (by decide) (by decide +kernel)) <|
    zall_c (zs_iload X (pc := 35) (by decide +kernel)) <|
    zall_c (zs_iload X (pc := 37) (by decide +kernel)) <|
    zall_c (zs_if_ne X (pc := 39) (off := 7) (by decide +kernel) (by decide)) <|
    zall_c (zs_iconst X (pc := 42) (by decide) (by decide +kernel)) <|
    zall_c (zs_goto X (pc := 43) (off := 4) (by decide +kernel) (by decide)) <|
    zall_c (zs_iconst X (pc := 46) (by decide) (by decide +kernel)) <|
    zall_c (zs_icmp_ne X (pc := 47) (off := 7) (by decide +kernel) (by decide)) <|
    zall_c (zs_iconst X (pc := 50) (by decide) (by decide +kernel)) <|
    zall_c (zs_goto X (pc := 51) (off := 4) (by decide +kernel) (by decide)) <|
    zall_c (zs_iconst X (pc := 54) (by decide) (by decide +kernel)) <|
    zall_c (zs_istore X (pc := 55) (by decide) (by decide +kernel)) <|
    zall_c (zs_iconst X (pc := 57) (by decide) (by decide +kernel)) <|
    zall_c (zs_istore X (pc := 58) (by decide) (by decide +kernel)) <|
    zall_c (zs_iload X (pc := 60) (by decide +kernel)) <|
    zall_c (zs_iload X (pc := 62) (by decide +kernel)) <|
    zall_c (zs_icmp_ge X (pc := 64) (off := 66) (by decide +kernel) (by decide)) <|
    zall_c (zs_aload X (pc := 67) (by decide +kernel)) <|
    zall_c (zs_iload X (pc := 69) (by decide +kernel)) <|
    zall_c (zs_aload_n X (pc := 71) (q := 0) rfl (by decide +kernel)) <|
    zall_c (zs_iload_n X (pc := 72) (q := 2) rfl (by decide +kernel)) <|
    zall_c (zs_iload X (pc := 73) (by decide +kernel)) <|
    zall_c (zs_iconst X (pc := 75) (by decide) (by decide +kernel)) <|
    zall_c (zs_callV X (pc := 76) zc_X8 (fun _ ht => ⟨(zCB ht gw_5_75 gw_1_1 gw_5_72 rfl rfl (by decide +kernel) ⟨Nat.le_of_ble_eq_true rfl, Nat.le_of_ble_eq_true rfl⟩), ht _ (.tail _ gw_5_73), ht _ (.tail _ gw_5_74)⟩) h2 hout (by decide +kernel)) <|
    zall_c (zs_iastore20 X (pc := 79) (by decide +kernel)) <|
    zall_c (zs_aload X (pc := 80) (by decide +kernel)) <|
    zall_c (zs_iload X (pc := 82) (by decide +kernel)) <|
    zall_c (zs_aload X (pc := 84) (by decide +kernel)) <|
    zall_c (zs_iload X (pc := 86) (by decide +kernel)) <|
    zall_c (zs_iaload20 X (pc := 88) (by decide +kernel)) <|
    zall_c (zs_iload_n X (pc := 89) (q := 1) rfl (by decide +kernel)) <|
    zall_c (zs_icmp_ne X (pc := 90) (off := 7) (by decide +kernel) (by decide)) <|
    zall_c (zs_iload_n X (pc := 93) (q := 3) rfl (by decide +kernel)) <|
    zall_c (zs_goto X (pc := 94) (off := 11) (by decide +kernel) (by decide)) <|
    zall_c (zs_aload_n X (pc := 97) (q := 0) rfl (by decide +kernel)) <|
    zall_c (zs_iload_n X (pc := 98) (q := 2) rfl (by decide +kernel)) <|
    zall_c (zs_iload X (pc := 99) (by decide +kernel)) <|
    zall_c (zs_iconst X (pc := 101) (by decide) (by decide +kernel)) <|
    zall_c (zs_callV X (pc := 102) zc_X8 (fun _ ht => ⟨(zCB ht gw_5_75 gw_1_1 gw_5_72 rfl rfl (by decide +kernel) ⟨Nat.le_of_ble_eq_true rfl, Nat.le_of_ble_eq_true rfl⟩), ht _ (.tail _ gw_5_73), ht _ (.tail _ gw_5_74)⟩) h2 hout (by decide +kernel)) <|
    zall_c (zs_iastore20 X (pc := 105) (by decide +kernel)) <|
    zall_c (zs_iload X (pc := 106) (by decide +kernel)) <|
    zall_c (zs_aload X (pc := 108) (by decide +kernel)) <|
    zall_c (zs_iload X (pc := 110) (by decide +kernel)) <|
    zall_c (zs_iaload20 X (pc := 112) (by decide +kernel)) <|
    zall_c (zs_if_lt X (pc := 113) (off := 7) (by decide +kernel) (by decide)) <|
    zall_c (zs_iconst X (pc := 116) (by decide) (by decide +kernel)) <|
    zall_c (zs_goto X (pc := 117) (off := 4) (by decide +kernel) (by decide)) <|
    zall_c (zs_iconst X (pc := 120) (by decide) (by decide +kernel)) <|
    zall_c (zs_iand X (pc := 121) (by decide +kernel)) <|
    zall_c (zs_istore X (pc := 122) (by decide) (by decide +kernel)) <|
    zall_c (zs_iinc X (pc := 124) (by decide) (by decide +kernel)) <|
    zall_c (zs_goto X (pc := 127) (off := (-67)) (by decide +kernel) (by decide)) <|
    zall_c (zs_aload_n X (pc := 130) (q := 0) rfl (by decide +kernel)) <|
    zall_c (zs_callS X (pc := 131) (fun _ ht => ⟨(zCB ht gw_6_70 gw_1_0 gw_6_68 rfl rfl (by decide +kernel) ⟨Nat.le_of_ble_eq_true rfl, Nat.le_of_ble_eq_true rfl⟩), ht _ (.tail _ gw_6_69)⟩) h3 hout (by decide +kernel)) <|
    zall_c (zs_astore X (pc := 134) (by decide) (by decide +kernel)) <|
    zall_c (zs_aload X (pc := 136) (by decide +kernel)) <|
    zall_c (zs_len X (pc := 138) (by decide +kernel)) <|
    zall_c (zs_newarray20 X (pc := 139) (.tail _ gw_1_81) (by decide +kernel)) <|
    zall_c (zs_astore X (pc := 141) (by decide) (by decide +kernel)) <|
    zall_c (zs_iconst X (pc := 143) (by decide) (by decide +kernel)) <|
    zall_c (zs_istore X (pc := 144) (by decide) (by decide +kernel)) <|
    zall_c (zs_iload X (pc := 146) (by decide +kernel)) <|
    zall_c (zs_aload X (pc := 148) (by decide +kernel)) <|
    zall_c (zs_len X (pc := 150) (by decide +kernel)) <|
    zall_c (zs_icmp_ge X (pc := 151) (off := 22) (by decide +kernel) (by decide)) <|
    zall_c (zs_aload X (pc := 154) (by decide +kernel)) <|
    zall_c (zs_iload X (pc := 156) (by decide +kernel)) <|
    zall_c (zs_aload_n X (pc := 158) (q := 0) rfl (by decide +kernel)) <|
    zall_c (zs_iload X (pc := 159) (by decide +kernel)) <|
    zall_c (zs_bipush X (pc := 161) (by decide) (by decide +kernel) (by decide +kernel)) <|
    zall_c (zs_callV X (pc := 163) zc_X8 (fun _ ht => ⟨(zCB ht gw_5_50 gw_1_1 gw_5_47 rfl rfl (by decide +kernel) ⟨Nat.le_of_ble_eq_true rfl, Nat.le_of_ble_eq_true rfl⟩), ht _ (.tail _ gw_5_48), ht _ (.tail _ gw_5_49)⟩) h4 hout (by decide +kernel)) <|
    zall_c (zs_iastore20 X (pc := 166) (by decide +kernel)) <|
    zall_c (zs_iinc X (pc := 167) (by decide) (by decide +kernel)) <|
    zall_c (zs_goto X (pc := 170) (off := (-24)) (by decide +kernel) (by decide)) <|
    zall_c (zs_iload X (pc := 173) (by decide +kernel)) <|
    zall_c (zs_istore X (pc := 175) (by decide) (by decide +kernel)) <|
    zall_c (zs_iconst X (pc := 177) (by decide) (by decide +kernel)) <|
    zall_c (zs_istore X (pc := 178) (by decide) (by decide +kernel)) <|
    zall_c (zs_iconst X (pc := 180) (by decide) (by decide +kernel)) <|
    zall_c (zs_istore X (pc := 181) (by decide) (by decide +kernel)) <|
    zall_c (zs_iload X (pc := 183) (by decide +kernel)) <|
    zall_c (zs_if_eq X (pc := 185) (off := 122) (by decide +kernel) (by decide)) <|
    zall_c (zs_iload X (pc := 188) (by decide +kernel)) <|
    zall_c (zs_if_ne X (pc := 190) (off := 117) (by decide +kernel) (by decide)) <|
    zall_c (zs_aload X (pc := 193) (by decide +kernel)) <|
    zall_c (zs_iconst X (pc := 195) (by decide) (by decide +kernel)) <|
    zall_c (zs_iaload20 X (pc := 196) (by decide +kernel)) <|
    zall_c (zs_aload X (pc := 197) (by decide +kernel)) <|
    zall_c (zs_iconst X (pc := 199) (by decide) (by decide +kernel)) <|
    zall_c (zs_iaload20 X (pc := 200) (by decide +kernel)) <|
    zall_c (zs_isub X (pc := 201) (by decide +kernel)) <|
    zall_c (zs_mabs X (pc := 202) (.tail _ gw_6_71) (.tail _ gw_5_192) (.tail _ gw_1_14) (.tail _ gw_5_193) (Nat.le_of_ble_eq_true rfl) (Nat.le_of_ble_eq_true rfl) (by decide +kernel)) <|
    zall_c (zs_iload X (pc := 205) (by decide +kernel)) <|
    zall_c (zs_icmp_gt X (pc := 207) (off := 7) (by decide +kernel) (by decide)) <|
    zall_c (zs_iconst X (pc := 210) (by decide) (by decide +kernel)) <|
    zall_c (zs_goto X (pc := 211) (off := 4) (by decide +kernel) (by decide)) <|
    zall_c (zs_iconst X (pc := 214) (by decide) (by decide +kernel)) <|
    zall_c (zs_istore X (pc := 215) (by decide) (by decide +kernel)) <|
    zall_c (zs_aload X (pc := 217) (by decide +kernel)) <|
    zall_c (zs_aload X (pc := 219) (by decide +kernel)) <|
    zall_c (zs_iconst X (pc := 221) (by decide) (by decide +kernel)) <|
    zall_c (zs_iaload20 X (pc := 222) (by decide +kernel)) <|
    zall_c (zs_iaload20 X (pc := 223) (by decide +kernel)) <|
    zall_c (zs_aload X (pc := 224) (by decide +kernel)) <|
    zall_c (zs_aload X (pc := 226) (by decide +kernel)) <|
    zall_c (zs_iconst X (pc := 228) (by decide) (by decide +kernel)) <|
    zall_c (zs_iaload20 X (pc := 229) (by decide +kernel)) <|
    zall_c (zs_iaload20 X (pc := 230) (by decide +kernel)) <|
    zall_c (zs_icmp_le X (pc := 231) (off := 10) (by decide +kernel) (by decide)) <|
    zall_c (zs_aload X (pc := 234) (by decide +kernel)) <|
    zall_c (zs_iconst X (pc := 236) (by decide) (by decide +kernel)) <|
    zall_c (zs_iaload20 X (pc := 237) (by decide +kernel)) <|
    zall_c (zs_goto X (pc := 238) (off := 7) (by decide +kernel) (by decide)) <|
    zall_c (zs_aload X (pc := 241) (by decide +kernel)) <|
    zall_c (zs_iconst X (pc := 243) (by decide) (by decide +kernel)) <|
    zall_c (zs_iaload20 X (pc := 244) (by decide +kernel)) <|
    zall_c (zs_istore X (pc := 245) (by decide) (by decide +kernel)) <|
    zall_c (zs_iconst X (pc := 247) (by decide) (by decide +kernel)) <|
    zall_c (zs_aload X (pc := 248) (by decide +kernel)) <|
    zall_c (zs_iconst X (pc := 250) (by decide) (by decide +kernel)) <|
    zall_c (zs_iaload20 X (pc := 251) (by decide +kernel)) <|
    zall_c (zs_ishl X (pc := 252) (by decide +kernel)) <|
    zall_c (zs_iconst X (pc := 253) (by decide) (by decide +kernel)) <|
    zall_c (zs_aload X (pc := 254) (by decide +kernel)) <|
    zall_c (zs_iconst X (pc := 256) (by decide) (by decide +kernel)) <|
    zall_c (zs_iaload20 X (pc := 257) (by decide +kernel)) <|
    zall_c (zs_ishl X (pc := 258) (by decide +kernel)) <|
    zall_c (zs_ior X (pc := 259) (by decide +kernel)) <|
    zall_c (zs_istore X (pc := 260) (by decide) (by decide +kernel)) <|
    zall_c (zs_iload X (pc := 262) (by decide +kernel)) <|
    zall_c (zs_iconst X (pc := 264) (by decide) (by decide +kernel)) <|
    zall_c (zs_icmp_ne X (pc := 265) (off := 287) (by decide +kernel) (by decide)) <|
    zall_c (zs_iconst X (pc := 268) (by decide) (by decide +kernel)) <|
    zall_c (zs_istore X (pc := 269) (by decide) (by decide +kernel)) <|
    zall_c (zs_iload X (pc := 271) (by decide +kernel)) <|
    zall_c (zs_iconst X (pc := 273) (by decide) (by decide +kernel)) <|
    zall_c (zs_icmp_ge X (pc := 274) (off := 30) (by decide +kernel) (by decide)) <|
    zall_c (zs_aload X (pc := 277) (by decide +kernel)) <|
    zall_c (zs_aload X (pc := 279) (by decide +kernel)) <|
    zall_c (zs_iload X (pc := 281) (by decide +kernel)) <|
    zall_c (zs_iaload20 X (pc := 283) (by decide +kernel)) <|
    zall_c (zs_aload X (pc := 284) (by decide +kernel)) <|
    zall_c (zs_aload X (pc := 286) (by decide +kernel)) <|
    zall_c (zs_iload X (pc := 288) (by decide +kernel)) <|
    zall_c (zs_iaload20 X (pc := 290) (by decide +kernel)) <|
    zall_c (zs_iaload20 X (pc := 291) (by decide +kernel)) <|
    zall_c (zs_iconst X (pc := 292) (by decide) (by decide +kernel)) <|
    zall_c (zs_iadd X (pc := 293) (by decide +kernel)) <|
    zall_c (zs_callS0 X (pc := 294) (fun _ ht => ⟨(zCB ht gw_6_74 gw_1_0 gw_6_72 rfl rfl (by decide +kernel) ⟨Nat.le_of_ble_eq_true rfl, Nat.le_of_ble_eq_true rfl⟩), ht _ (.tail _ gw_6_73)⟩) h5 hout (by decide +kernel)) <|
    zall_c (zs_iastore20 X (pc := 297) (by decide +kernel)) <|
    zall_c (zs_iinc X (pc := 298) (by decide) (by decide +kernel)) <|
    zall_c (zs_goto X (pc := 301) (off := (-30)) (by decide +kernel) (by decide)) <|
    zall_c (zs_goto X (pc := 304) (off := 248) (by decide +kernel) (by decide)) <|
    zall_c (zs_iload X (pc := 307) (by decide +kernel)) <|
    zall_c (zs_if_eq X (pc := 309) (off := 243) (by decide +kernel) (by decide)) <|
    zall_c (zs_aload X (pc := 312) (by decide +kernel)) <|
    zall_c (zs_iconst X (pc := 314) (by decide) (by decide +kernel)) <|
    zall_c (zs_iaload20 X (pc := 315) (by decide +kernel)) <|
    zall_c (zs_aload X (pc := 316) (by decide +kernel)) <|
    zall_c (zs_iconst X (pc := 318) (by decide) (by decide +kernel)) <|
    zall_c (zs_iaload20 X (pc := 319) (by decide +kernel)) <|
    zall_c (zs_isub X (pc := 320) (by decide +kernel)) <|
    zall_c (zs_mabs X (pc := 321) (.tail _ gw_6_71) (.tail _ gw_5_192) (.tail _ gw_1_14) (.tail _ gw_5_193) (Nat.le_of_ble_eq_true rfl) (Nat.le_of_ble_eq_true rfl) (by decide +kernel)) <|
    zall_c (zs_aload X (pc := 324) (by decide +kernel)) <|
    zall_c (zs_iconst X (pc := 326) (by decide) (by decide +kernel)) <|
    zall_c (zs_iaload20 X (pc := 327) (by decide +kernel)) <|
    zall_c (zs_aload X (pc := 328) (by decide +kernel)) <|
    zall_c (zs_iconst X (pc := 330) (by decide) (by decide +kernel)) <|
    zall_c (zs_iaload20 X (pc := 331) (by decide +kernel)) <|
    zall_c (zs_isub X (pc := 332) (by decide +kernel)) <|
    zall_c (zs_mabs X (pc := 333) (.tail _ gw_6_71) (.tail _ gw_5_192) (.tail _ gw_1_14) (.tail _ gw_5_193) (Nat.le_of_ble_eq_true rfl) (Nat.le_of_ble_eq_true rfl) (by decide +kernel)) <|
    zall_c (zs_icmp_ge X (pc := 336) (off := 7) (by decide +kernel) (by decide)) <|
    zall_c (zs_iconst X (pc := 339) (by decide) (by decide +kernel)) <|
    zall_c (zs_goto X (pc := 340) (off := 4) (by decide +kernel) (by decide)) <|
    zall_c (zs_iconst X (pc := 343) (by decide) (by decide +kernel)) <|
    zall_c (zs_istore X (pc := 344) (by decide) (by decide +kernel)) <|
    zall_c (zs_iconst X (pc := 346) (by decide) (by decide +kernel)) <|
    zall_c (zs_iload X (pc := 347) (by decide +kernel)) <|
    zall_c (zs_isub X (pc := 349) (by decide +kernel)) <|
    zall_c (zs_istore X (pc := 350) (by decide) (by decide +kernel)) <|
    zall_c (zs_aload X (pc := 352) (by decide +kernel)) <|
    zall_c (zs_iload X (pc := 354) (by decide +kernel)) <|
    zall_c (zs_iaload20 X (pc := 356) (by decide +kernel)) <|
    zall_c (zs_aload X (pc := 357) (by decide +kernel)) <|
    zall_c (zs_iconst X (pc := 359) (by decide) (by decide +kernel)) <|
    zall_c (zs_iaload20 X (pc := 360) (by decide +kernel)) <|
    zall_c (zs_isub X (pc := 361) (by decide +kernel)) <|
    zall_c (zs_mabs X (pc := 362) (.tail _ gw_6_71) (.tail _ gw_5_192) (.tail _ gw_1_14) (.tail _ gw_5_193) (Nat.le_of_ble_eq_true rfl) (Nat.le_of_ble_eq_true rfl) (by decide +kernel)) <|
    zall_c (zs_iload X (pc := 365) (by decide +kernel)) <|
    zall_c (zs_icmp_gt X (pc := 367) (off := 7) (by decide +kernel) (by decide)) <|
    zall_c (zs_iconst X (pc := 370) (by decide) (by decide +kernel)) <|
    zall_c (zs_goto X (pc := 371) (off := 4) (by decide +kernel) (by decide)) <|
    zall_c (zs_iconst X (pc := 374) (by decide) (by decide +kernel)) <|
    zall_c (zs_istore X (pc := 375) (by decide) (by decide +kernel)) <|
    zall_c (zs_aload X (pc := 377) (by decide +kernel)) <|
    zall_c (zs_aload X (pc := 379) (by decide +kernel)) <|
    zall_c (zs_iconst X (pc := 381) (by decide) (by decide +kernel)) <|
    zall_c (zs_iaload20 X (pc := 382) (by decide +kernel)) <|
    zall_c (zs_iaload20 X (pc := 383) (by decide +kernel)) <|
    zall_c (zs_aload X (pc := 384) (by decide +kernel)) <|
    zall_c (zs_aload X (pc := 386) (by decide +kernel)) <|
    zall_c (zs_iload X (pc := 388) (by decide +kernel)) <|
    zall_c (zs_iaload20 X (pc := 390) (by decide +kernel)) <|
    zall_c (zs_iaload20 X (pc := 391) (by decide +kernel)) <|
    zall_c (zs_icmp_le X (pc := 392) (off := 10) (by decide +kernel) (by decide)) <|
    zall_c (zs_aload X (pc := 395) (by decide +kernel)) <|
    zall_c (zs_iconst X (pc := 397) (by decide) (by decide +kernel)) <|
    zall_c (zs_iaload20 X (pc := 398) (by decide +kernel)) <|
    zall_c (zs_goto X (pc := 399) (off := 8) (by decide +kernel) (by decide)) <|
    zall_c (zs_aload X (pc := 402) (by decide +kernel)) <|
    zall_c (zs_iload X (pc := 404) (by decide +kernel)) <|
    zall_c (zs_iaload20 X (pc := 406) (by decide +kernel)) <|
    zall_c (zs_istore X (pc := 407) (by decide) (by decide +kernel)) <|
    zall_c (zs_iconst X (pc := 409) (by decide) (by decide +kernel)) <|
    zall_c (zs_aload X (pc := 410) (by decide +kernel)) <|
    zall_c (zs_iload X (pc := 412) (by decide +kernel)) <|
    zall_c (zs_iaload20 X (pc := 414) (by decide +kernel)) <|
    zall_c (zs_ishl X (pc := 415) (by decide +kernel)) <|
    zall_c (zs_iconst X (pc := 416) (by decide) (by decide +kernel)) <|
    zall_c (zs_aload X (pc := 417) (by decide +kernel)) <|
    zall_c (zs_iconst X (pc := 419) (by decide) (by decide +kernel)) <|
    zall_c (zs_iaload20 X (pc := 420) (by decide +kernel)) <|
    zall_c (zs_ishl X (pc := 421) (by decide +kernel)) <|
    zall_c (zs_ior X (pc := 422) (by decide +kernel)) <|
    zall_c (zs_istore X (pc := 423) (by decide) (by decide +kernel)) <|
    zall_c (zs_iload X (pc := 425) (by decide +kernel)) <|
    zall_c (zs_iconst X (pc := 427) (by decide) (by decide +kernel)) <|
    zall_c (zs_icmp_ne X (pc := 428) (off := 39) (by decide +kernel) (by decide)) <|
    zall_c (zs_iconst X (pc := 431) (by decide) (by decide +kernel)) <|
    zall_c (zs_istore X (pc := 432) (by decide) (by decide +kernel)) <|
    zall_c (zs_iload X (pc := 434) (by decide +kernel)) <|
    zall_c (zs_iconst X (pc := 436) (by decide) (by decide +kernel)) <|
    zall_c (zs_icmp_ge X (pc := 437) (off := 30) (by decide +kernel) (by decide)) <|
    zall_c (zs_aload X (pc := 440) (by decide +kernel)) <|
    zall_c (zs_aload X (pc := 442) (by decide +kernel)) <|
    zall_c (zs_iload X (pc := 444) (by decide +kernel)) <|
    zall_c (zs_iaload20 X (pc := 446) (by decide +kernel)) <|
    zall_c (zs_aload X (pc := 447) (by decide +kernel)) <|
    zall_c (zs_aload X (pc := 449) (by decide +kernel)) <|
    zall_c (zs_iload X (pc := 451) (by decide +kernel)) <|
    zall_c (zs_iaload20 X (pc := 453) (by decide +kernel)) <|
    zall_c (zs_iaload20 X (pc := 454) (by decide +kernel)) <|
    zall_c (zs_iconst X (pc := 455) (by decide) (by decide +kernel)) <|
    zall_c (zs_isub X (pc := 456) (by decide +kernel)) <|
    zall_c (zs_callS0 X (pc := 457) (fun _ ht => ⟨(zCB ht gw_6_74 gw_1_0 gw_6_72 rfl rfl (by decide +kernel) ⟨Nat.le_of_ble_eq_true rfl, Nat.le_of_ble_eq_true rfl⟩), ht _ (.tail _ gw_6_73)⟩) h5 hout (by decide +kernel)) <|
    zall_c (zs_iastore20 X (pc := 460) (by decide +kernel)) <|
    zall_c (zs_iinc X (pc := 461) (by decide) (by decide +kernel)) <|
    zall_c (zs_goto X (pc := 464) (off := (-30)) (by decide +kernel) (by decide)) <|
    zall_c (zs_iload X (pc := 467) (by decide +kernel)) <|
    zall_c (zs_iconst X (pc := 469) (by decide) (by decide +kernel)) <|
    zall_c (zs_icmp_ne X (pc := 470) (off := 82) (by decide +kernel) (by decide)) <|
    zall_c (zs_aload X (pc := 473) (by decide +kernel)) <|
    zall_c (zs_aload X (pc := 475) (by decide +kernel)) <|
    zall_c (zs_iload X (pc := 477) (by decide +kernel)) <|
    zall_c (zs_iaload20 X (pc := 479) (by decide +kernel)) <|
    zall_c (zs_aload X (pc := 480) (by decide +kernel)) <|
    zall_c (zs_aload X (pc := 482) (by decide +kernel)) <|
    zall_c (zs_iload X (pc := 484) (by decide +kernel)) <|
    zall_c (zs_iaload20 X (pc := 486) (by decide +kernel)) <|
    zall_c (zs_iaload20 X (pc := 487) (by decide +kernel)) <|
    zall_c (zs_iconst X (pc := 488) (by decide) (by decide +kernel)) <|
    zall_c (zs_iadd X (pc := 489) (by decide +kernel)) <|
    zall_c (zs_callS0 X (pc := 490) (fun _ ht => ⟨(zCB ht gw_6_74 gw_1_0 gw_6_72 rfl rfl (by decide +kernel) ⟨Nat.le_of_ble_eq_true rfl, Nat.le_of_ble_eq_true rfl⟩), ht _ (.tail _ gw_6_73)⟩) h5 hout (by decide +kernel)) <|
    zall_c (zs_iastore20 X (pc := 493) (by decide +kernel)) <|
    zall_c (zs_aload X (pc := 494) (by decide +kernel)) <|
    zall_c (zs_aload X (pc := 496) (by decide +kernel)) <|
    zall_c (zs_iconst X (pc := 498) (by decide) (by decide +kernel)) <|
    zall_c (zs_iaload20 X (pc := 499) (by decide +kernel)) <|
    zall_c (zs_aload X (pc := 500) (by decide +kernel)) <|
    zall_c (zs_aload X (pc := 502) (by decide +kernel)) <|
    zall_c (zs_iconst X (pc := 504) (by decide) (by decide +kernel)) <|
    zall_c (zs_iaload20 X (pc := 505) (by decide +kernel)) <|
    zall_c (zs_iaload20 X (pc := 506) (by decide +kernel)) <|
    zall_c (zs_iconst X (pc := 507) (by decide) (by decide +kernel)) <|
    zall_c (zs_iadd X (pc := 508) (by decide +kernel)) <|
    zall_c (zs_callS0 X (pc := 509) (fun _ ht => ⟨(zCB ht gw_6_74 gw_1_0 gw_6_72 rfl rfl (by decide +kernel) ⟨Nat.le_of_ble_eq_true rfl, Nat.le_of_ble_eq_true rfl⟩), ht _ (.tail _ gw_6_73)⟩) h5 hout (by decide +kernel)) <|
    zall_c (zs_iastore20 X (pc := 512) (by decide +kernel)) <|
    zall_c (zs_aload X (pc := 513) (by decide +kernel)) <|
    zall_c (zs_iload X (pc := 515) (by decide +kernel)) <|
    zall_c (zs_iaload20 X (pc := 517) (by decide +kernel)) <|
    zall_c (zs_aload X (pc := 518) (by decide +kernel)) <|
    zall_c (zs_iconst X (pc := 520) (by decide) (by decide +kernel)) <|
    zall_c (zs_iaload20 X (pc := 521) (by decide +kernel)) <|
    zall_c (zs_isub X (pc := 522) (by decide +kernel)) <|
    zall_c (zs_mabs X (pc := 523) (.tail _ gw_6_71) (.tail _ gw_5_192) (.tail _ gw_1_14) (.tail _ gw_5_193) (Nat.le_of_ble_eq_true rfl) (Nat.le_of_ble_eq_true rfl) (by decide +kernel)) <|
    zall_c (zs_iload X (pc := 526) (by decide +kernel)) <|
    zall_c (zs_icmp_le X (pc := 528) (off := 24) (by decide +kernel) (by decide)) <|
    zall_c (zs_aload X (pc := 531) (by decide +kernel)) <|
    zall_c (zs_aload X (pc := 533) (by decide +kernel)) <|
    zall_c (zs_iload X (pc := 535) (by decide +kernel)) <|
    zall_c (zs_iaload20 X (pc := 537) (by decide +kernel)) <|
    zall_c (zs_aload X (pc := 538) (by decide +kernel)) <|
    zall_c (zs_aload X (pc := 540) (by decide +kernel)) <|
    zall_c (zs_iload X (pc := 542) (by decide +kernel)) <|
    zall_c (zs_iaload20 X (pc := 544) (by decide +kernel)) <|
    zall_c (zs_iaload20 X (pc := 545) (by decide +kernel)) <|
    zall_c (zs_iconst X (pc := 546) (by decide) (by decide +kernel)) <|
    zall_c (zs_isub X (pc := 547) (by decide +kernel)) <|
    zall_c (zs_callS0 X (pc := 548) (fun _ ht => ⟨(zCB ht gw_6_74 gw_1_0 gw_6_72 rfl rfl (by decide +kernel) ⟨Nat.le_of_ble_eq_true rfl, Nat.le_of_ble_eq_true rfl⟩), ht _ (.tail _ gw_6_73)⟩) h5 hout (by decide +kernel)) <|
    zall_c (zs_iastore20 X (pc := 551) (by decide +kernel)) <|
    zall_c (zs_aload_n X (pc := 552) (q := 0) rfl (by decide +kernel)) <|
    zall_c (zs_iload_n X (pc := 553) (q := 1) rfl (by decide +kernel)) <|
    zall_c (zs_iload_n X (pc := 554) (q := 2) rfl (by decide +kernel)) <|
    zall_c (zs_iload_n X (pc := 555) (q := 3) rfl (by decide +kernel)) <|
    zall_c (zs_callV X (pc := 556) zc_X8 (fun _ ht => ⟨(zCB ht gw_6_79 gw_1_1 gw_6_76 rfl rfl (by decide +kernel) ⟨Nat.le_of_ble_eq_true rfl, Nat.le_of_ble_eq_true rfl⟩), ht _ (.tail _ gw_6_77), ht _ (.tail _ gw_6_78)⟩) h6 hout (by decide +kernel)) <|
    zall_c (zs_iload X (pc := 559) (by decide +kernel)) <|
    zall_c (zs_icmp_eq X (pc := 561) (off := 5) (by decide +kernel) (by decide)) <|
    zall_c (zs_iconst X (pc := 564) (by decide) (by decide +kernel)) <|
    zall_c (zs_zret X (pc := 565) rfl zR_bool (by decide +kernel)) <|
    zall_c (zs_iconst X (pc := 566) (by decide) (by decide +kernel)) <|
    zall_c (zs_istore X (pc := 567) (by decide) (by decide +kernel)) <|
    zall_c (zs_iload X (pc := 569) (by decide +kernel)) <|
    zall_c (zs_aload X (pc := 571) (by decide +kernel)) <|
    zall_c (zs_len X (pc := 573) (by decide +kernel)) <|
    zall_c (zs_icmp_ge X (pc := 574) (off := 28) (by decide +kernel) (by decide)) <|
    zall_c (zs_aload_n X (pc := 577) (q := 0) rfl (by decide +kernel)) <|
    zall_c (zs_iload_n X (pc := 578) (q := 1) rfl (by decide +kernel)) <|
    zall_c (zs_iload_n X (pc := 579) (q := 2) rfl (by decide +kernel)) <|
    zall_c (zs_iload_n X (pc := 580) (q := 3) rfl (by decide +kernel)) <|
    zall_c (zs_iload X (pc := 581) (by decide +kernel)) <|
    zall_c (zs_callV X (pc := 583) zc_X8 (fun _ ht => ⟨(zCB ht gw_6_83 gw_1_1 gw_6_80 rfl rfl (by decide +kernel) ⟨Nat.le_of_ble_eq_true rfl, Nat.le_of_ble_eq_true rfl⟩), ht _ (.tail _ gw_6_81), ht _ (.tail _ gw_6_82)⟩) h7 hout (by decide +kernel)) <|
    zall_c (zs_aload X (pc := 586) (by decide +kernel)) <|
    zall_c (zs_iload X (pc := 588) (by decide +kernel)) <|
    zall_c (zs_iaload20 X (pc := 590) (by decide +kernel)) <|
    zall_c (zs_icmp_eq X (pc := 591) (off := 5) (by decide +kernel) (by decide)) <|
    zall_c (zs_iconst X (pc := 594) (by decide) (by decide +kernel)) <|
    zall_c (zs_zret X (pc := 595) rfl zR_bool (by decide +kernel)) <|
    zall_c (zs_iinc X (pc := 596) (by decide) (by decide +kernel)) <|
    zall_c (zs_goto X (pc := 599) (off := (-30)) (by decide +kernel) (by decide)) <|
    zall_c (zs_aload_n X (pc := 602) (q := 0) rfl (by decide +kernel)) <|
    zall_c (zs_iload_n X (pc := 603) (q := 1) rfl (by decide +kernel)) <|
    zall_c (zs_iconst X (pc := 604) (by decide) (by decide +kernel)) <|
    zall_c (zs_callV X (pc := 605) zc_X8 (fun _ ht => ⟨(zCB ht gw_5_50 gw_1_1 gw_5_47 rfl rfl (by decide +kernel) ⟨Nat.le_of_ble_eq_true rfl, Nat.le_of_ble_eq_true rfl⟩), ht _ (.tail _ gw_5_48), ht _ (.tail _ gw_5_49)⟩) h4 hout (by decide +kernel)) <|
    zall_c (zs_istore X (pc := 608) (by decide) (by decide +kernel)) <|
    zall_c (zs_aload_n X (pc := 610) (q := 0) rfl (by decide +kernel)) <|
    zall_c (zs_iload_n X (pc := 611) (q := 1) rfl (by decide +kernel)) <|
    zall_c (zs_iload_n X (pc := 612) (q := 2) rfl (by decide +kernel)) <|
    zall_c (zs_iload_n X (pc := 613) (q := 3) rfl (by decide +kernel)) <|
    zall_c (zs_callSW X (pc := 614) trivial (fun _ ht => zCSW ht gw_5_162 gw_1_0 gw_5_160 gw_5_161 rfl rfl (by decide +kernel) ⟨Nat.le_of_ble_eq_true rfl, Nat.le_of_ble_eq_true rfl⟩) h8 (by decide +kernel)) <|
    zall_c (zs_iload X (pc := 617) (by decide +kernel)) <|
    zall_c (zs_icmp_ne X (pc := 619) (off := 68) (by decide +kernel) (by decide)) <|
    zall_c (zs_aload_n X (pc := 622) (q := 0) rfl (by decide +kernel)) <|
    zall_c (zs_iload_n X (pc := 623) (q := 2) rfl (by decide +kernel)) <|
    zall_c (zs_iconst X (pc := 624) (by decide) (by decide +kernel)) <|
    zall_c (zs_callV X (pc := 625) zc_X8 (fun _ ht => ⟨(zCB ht gw_5_57 gw_1_1 gw_5_54 rfl rfl (by decide +kernel) ⟨Nat.le_of_ble_eq_true rfl, Nat.le_of_ble_eq_true rfl⟩), ht _ (.tail _ gw_5_55), ht _ (.tail _ gw_5_56)⟩) h0 hout (by decide +kernel)) <|
    zall_c (zs_iload X (pc := 628) (by decide +kernel)) <|
    zall_c (zs_icmp_ne X (pc := 630) (off := 57) (by decide +kernel) (by decide)) <|
    zall_c (zs_aload_n X (pc := 633) (q := 0) rfl (by decide +kernel)) <|
    zall_c (zs_iload_n X (pc := 634) (q := 2) rfl (by decide +kernel)) <|
    zall_c (zs_iconst X (pc := 635) (by decide) (by decide +kernel)) <|
    zall_c (zs_callV X (pc := 636) zc_X8 (fun _ ht => ⟨(zCB ht gw_5_57 gw_1_1 gw_5_54 rfl rfl (by decide +kernel) ⟨Nat.le_of_ble_eq_true rfl, Nat.le_of_ble_eq_true rfl⟩), ht _ (.tail _ gw_5_55), ht _ (.tail _ gw_5_56)⟩) h0 hout (by decide +kernel)) <|
    zall_c (zs_iload X (pc := 639) (by decide +kernel)) <|
    zall_c (zs_iconst X (pc := 641) (by decide) (by decide +kernel)) <|
    zall_c (zs_icmp_ne X (pc := 642) (off := 8) (by decide +kernel) (by decide)) <|
    zall_c (zs_iload X (pc := 645) (by decide +kernel)) <|
    zall_c (zs_goto X (pc := 647) (off := 4) (by decide +kernel) (by decide)) <|
    zall_c (zs_iconst X (pc := 650) (by decide) (by decide +kernel)) <|
    zall_c (zs_icmp_ne X (pc := 651) (off := 36) (by decide +kernel) (by decide)) <|
    zall_c (zs_aload_n X (pc := 654) (q := 0) rfl (by decide +kernel)) <|
    zall_c (zs_iload_n X (pc := 655) (q := 2) rfl (by decide +kernel)) <|
    zall_c (zs_callV X (pc := 656) zc_X8 (fun _ ht => ⟨(zCB ht gw_6_88 gw_1_1 gw_6_85 rfl rfl (by decide +kernel) ⟨Nat.le_of_ble_eq_true rfl, Nat.le_of_ble_eq_true rfl⟩), ht _ (.tail _ gw_6_86), ht _ (.tail _ gw_6_87)⟩) h9 hout (by decide +kernel)) <|
    zall_c (zs_iload X (pc := 659) (by decide +kernel)) <|
    zall_c (zs_iconst X (pc := 661) (by decide) (by decide +kernel)) <|
    zall_c (zs_icmp_ne X (pc := 662) (off := 8) (by decide +kernel) (by decide)) <|
    zall_c (zs_iload X (pc := 665) (by decide +kernel)) <|
    zall_c (zs_goto X (pc := 667) (off := 4) (by decide +kernel) (by decide)) <|
    zall_c (zs_iconst X (pc := 670) (by decide) (by decide +kernel)) <|
    zall_c (zs_icmp_ne X (pc := 671) (off := 16) (by decide +kernel) (by decide)) <|
    zall_c (zs_aload_n X (pc := 674) (q := 0) rfl (by decide +kernel)) <|
    zall_c (zs_iload_n X (pc := 675) (q := 1) rfl (by decide +kernel)) <|
    zall_c (zs_iconst X (pc := 676) (by decide) (by decide +kernel)) <|
    zall_c (zs_callV X (pc := 677) zc_X8 (fun _ ht => ⟨(zCB ht gw_5_50 gw_1_1 gw_5_47 rfl rfl (by decide +kernel) ⟨Nat.le_of_ble_eq_true rfl, Nat.le_of_ble_eq_true rfl⟩), ht _ (.tail _ gw_5_48), ht _ (.tail _ gw_5_49)⟩) h4 hout (by decide +kernel)) <|
    zall_c (zs_iload X (pc := 680) (by decide +kernel)) <|
    zall_c (zs_iconst X (pc := 682) (by decide) (by decide +kernel)) <|
    zall_c (zs_iadd X (pc := 683) (by decide +kernel)) <|
    zall_c (zs_icmp_eq X (pc := 684) (off := 5) (by decide +kernel) (by decide)) <|
    zall_c (zs_iconst X (pc := 687) (by decide) (by decide +kernel)) <|
    zall_c (zs_zret X (pc := 688) rfl zR_bool (by decide +kernel)) <|
    zall_c (zs_iconst X (pc := 689) (by decide) (by decide +kernel)) <|
    zall_c (zs_istore X (pc := 690) (by decide) (by decide +kernel)) <|
    zall_c (zs_iload X (pc := 692) (by decide +kernel)) <|
    zall_c (zs_aload X (pc := 694) (by decide +kernel)) <|
    zall_c (zs_len X (pc := 696) (by decide +kernel)) <|
    zall_c (zs_icmp_ge X (pc := 697) (off := 55) (by decide +kernel) (by decide)) <|
    zall_c (zs_aload_n X (pc := 700) (q := 0) rfl (by decide +kernel)) <|
    zall_c (zs_iload X (pc := 701) (by decide +kernel)) <|
    zall_c (zs_bipush X (pc := 703) (by decide) (by decide +kernel) (by decide +kernel)) <|
    zall_c (zs_callV X (pc := 705) zc_X8 (fun _ ht => ⟨(zCB ht gw_5_50 gw_1_1 gw_5_47 rfl rfl (by decide +kernel) ⟨Nat.le_of_ble_eq_true rfl, Nat.le_of_ble_eq_true rfl⟩), ht _ (.tail _ gw_5_48), ht _ (.tail _ gw_5_49)⟩) h4 hout (by decide +kernel)) <|
    zall_c (zs_aload X (pc := 708) (by decide +kernel)) <|
    zall_c (zs_iload X (pc := 710) (by decide +kernel)) <|
    zall_c (zs_iaload20 X (pc := 712) (by decide +kernel)) <|
    zall_c (zs_iload X (pc := 713) (by decide +kernel)) <|
    zall_c (zs_iconst X (pc := 715) (by decide) (by decide +kernel)) <|
    zall_c (zs_icmp_ne X (pc := 716) (off := 23) (by decide +kernel) (by decide)) <|
    zall_c (zs_iload X (pc := 719) (by decide +kernel)) <|
    zall_c (zs_iload X (pc := 721) (by decide +kernel)) <|
    zall_c (zs_ishr X (pc := 723) (by decide +kernel)) <|
    zall_c (zs_iconst X (pc := 724) (by decide) (by decide +kernel)) <|
    zall_c (zs_iand X (pc := 725) (by decide +kernel)) <|
    zall_c (zs_iconst X (pc := 726) (by decide) (by decide +kernel)) <|
    zall_c (zs_icmp_ne X (pc := 727) (off := 12) (by decide +kernel) (by decide)) <|
    zall_c (zs_aload_n X (pc := 730) (q := 0) rfl (by decide +kernel)) <|
    zall_c (zs_iload_n X (pc := 731) (q := 2) rfl (by decide +kernel)) <|
    zall_c (zs_iconst X (pc := 732) (by decide) (by decide +kernel)) <|
    zall_c (zs_callV X (pc := 733) zc_X8 (fun _ ht => ⟨(zCB ht gw_5_57 gw_1_1 gw_5_54 rfl rfl (by decide +kernel) ⟨Nat.le_of_ble_eq_true rfl, Nat.le_of_ble_eq_true rfl⟩), ht _ (.tail _ gw_5_55), ht _ (.tail _ gw_5_56)⟩) h0 hout (by decide +kernel)) <|
    zall_c (zs_goto X (pc := 736) (off := 4) (by decide +kernel) (by decide)) <|
    zall_c (zs_iconst X (pc := 739) (by decide) (by decide +kernel)) <|
    zall_c (zs_iadd X (pc := 740) (by decide +kernel)) <|
    zall_c (zs_icmp_eq X (pc := 741) (off := 5) (by decide +kernel) (by decide)) <|
    zall_c (zs_iconst X (pc := 744) (by decide) (by decide +kernel)) <|
    zall_c (zs_zret X (pc := 745) rfl zR_bool (by decide +kernel)) <|
    zall_c (zs_iinc X (pc := 746) (by decide) (by decide +kernel)) <|
    zall_c (zs_goto X (pc := 749) (off := (-57)) (by decide +kernel) (by decide)) <|
    zall_c (zs_aload_n X (pc := 752) (q := 0) rfl (by decide +kernel)) <|
    zall_c (zs_aload X (pc := 753) (by decide +kernel)) <|
    zall_c (zs_callS X (pc := 755) (fun _ ht => ⟨(zCB ht gw_6_91 gw_1_0 gw_6_89 rfl rfl (by decide +kernel) ⟨Nat.le_of_ble_eq_true rfl, Nat.le_of_ble_eq_true rfl⟩), ht _ (.tail _ gw_6_90)⟩) h10 hout (by decide +kernel)) <|
    zall_c (zs_zret X (pc := 758) rfl zR_bool (by decide +kernel)) <|
    zall_n
theorem met_L_delivers {l : Launch} (hl : l.stackTraces = false) {T0 : ZTf} {T1 : ZTf} {T2 : ZTf} {T3 : ZTf} {T4 : ZTf} {T5 : ZTf} {T6 : ZTf} {T7 : ZTf} {T8 : List ZV → ZM → ZRet → Prop} {T9 : ZTf} {T10 : ZTf} (h0 : zMet l yX8_row (Cond.code yX8_row cX8_row 4 (Option.some Jvm.ClassFile.FieldType.int) :: zG) rm_X8_row 2 12 T0) (h1 : zMet l yX8_property (Cond.code yX8_property cX8_property 2 (Option.some Jvm.ClassFile.FieldType.int) :: zG) rm_X8_property 1 6 T1) (h2 : zMet l yX8_taking (Cond.code yX8_taking cX8_taking 5 (Option.some Jvm.ClassFile.FieldType.int) :: zG) rm_X8_taking 3 18 T2) (h3 : zMet l yL_trusts (Cond.code yL_trusts cL_trusts 3 (Option.some (Jvm.ClassFile.FieldType.array Jvm.ClassFile.FieldType.int)) :: zG) rm_L_trusts 20 120 T3) (h4 : zMet l yX8_worker (Cond.code yX8_worker cX8_worker 4 (Option.some Jvm.ClassFile.FieldType.int) :: zG) rm_X8_worker 2 12 T4) (h5 : zMet l yL_capped (Cond.code yL_capped cL_capped 1 (Option.some Jvm.ClassFile.FieldType.int) :: zG) rm_L_capped 0 0 T5) (h6 : zMet l yX8_stateIf (Cond.code yX8_stateIf cX8_stateIf 5 (Option.some Jvm.ClassFile.FieldType.int) :: zG) rm_X8_stateIf 4 24 T6) (h7 : zMet l yX8_trustIf (Cond.code yX8_trustIf cX8_trustIf 9 (Option.some Jvm.ClassFile.FieldType.int) :: zG) rm_X8_trustIf 5 30 T7) (h8 : zMetW l yL_delivered (Cond.codeWith yL_delivered cL_delivered 5 (Option.some Jvm.ClassFile.FieldType.int) [(0, 7, 8, 113)] :: zG) rm_L_delivered 4 24 T8) (h9 : zMet l yX8_finishers (Cond.code yX8_finishers cX8_finishers 3 (Option.some Jvm.ClassFile.FieldType.int) :: zG) rm_X8_finishers 1 6 T9) (h10 : zMet l yL_are (Cond.code yL_are cL_are 3 (Option.some Jvm.ClassFile.FieldType.boolean) :: zG) rm_L_are 12 72 T10) {T : ZTf} (bd : zBd (cd_L_delivers T0 T1 T2 T3 T4 T5 T6 T7 T8 T9 T10) 18 160 1000 T) : zMet l yL_delivers (Cond.code yL_delivers cL_delivers 18 (Option.some Jvm.ClassFile.FieldType.boolean) :: zG) rm_L_delivers 160 1000 T := zMet_of hl (by decide +kernel) rfl rfl rfl rfl (hs_L_delivers hl h0 h1 h2 h3 h4 h5 h6 h7 h8 h9 h10) bd
theorem gw_2_229 : Cond.code yL_draw cL_draw 3 (Option.some Jvm.ClassFile.FieldType.int) ∈ zG := zGt2 (List.mem_of_getElem? (i := 229) (by rfl)) rfl
theorem gw_2_227 : Cond.methodLink RL 40 yL_draw ∈ zG := zGt2 (List.mem_of_getElem? (i := 227) (by rfl)) rfl
theorem gw_2_228 : Cond.static yL_draw ∈ zG := zGt2 (List.mem_of_getElem? (i := 228) (by rfl)) rfl
theorem gw_5_100 : Cond.code yX8_addRows cX8_addRows 4 (Option.some Jvm.ClassFile.FieldType.int) ∈ zG := zGt5 (List.mem_of_getElem? (i := 100) (by rfl)) rfl
theorem gw_5_97 : Cond.methodLink RL 148 yX8_addRows ∈ zG := zGt5 (List.mem_of_getElem? (i := 97) (by rfl)) rfl
theorem gw_5_98 : Cond.instanceMethod yX8_addRows ∈ zG := zGt5 (List.mem_of_getElem? (i := 98) (by rfl)) rfl
theorem gw_5_99 : Cond.selects RX8 yX8_addRows yX8_addRows ∈ zG := zGt5 (List.mem_of_getElem? (i := 99) (by rfl)) rfl
theorem gw_5_104 : Cond.methodLink RL 151 yL_taken ∈ zG := zGt5 (List.mem_of_getElem? (i := 104) (by rfl)) rfl
theorem gw_5_105 : Cond.static yL_taken ∈ zG := zGt5 (List.mem_of_getElem? (i := 105) (by rfl)) rfl
theorem gw_5_106 : Cond.codeWith yL_taken cL_taken 3 (Option.some Jvm.ClassFile.FieldType.int) [(0, 5, 6, 113)] ∈ zG := zGt5 (List.mem_of_getElem? (i := 106) (by rfl)) rfl
theorem gw_5_151 : Cond.methodLink RL 155 yL_took ∈ zG := zGt5 (List.mem_of_getElem? (i := 151) (by rfl)) rfl
theorem gw_5_152 : Cond.static yL_took ∈ zG := zGt5 (List.mem_of_getElem? (i := 152) (by rfl)) rfl
theorem gw_5_153 : Cond.codeWith yL_took cL_took 4 (Option.some Jvm.ClassFile.FieldType.int) [(0, 6, 7, 113)] ∈ zG := zGt5 (List.mem_of_getElem? (i := 153) (by rfl)) rfl
theorem gw_5_53 : Cond.code yL_inWork cL_inWork 6 (Option.some Jvm.ClassFile.FieldType.int) ∈ zG := zGt5 (List.mem_of_getElem? (i := 53) (by rfl)) rfl
theorem gw_5_51 : Cond.methodLink RL 159 yL_inWork ∈ zG := zGt5 (List.mem_of_getElem? (i := 51) (by rfl)) rfl
theorem gw_5_52 : Cond.static yL_inWork ∈ zG := zGt5 (List.mem_of_getElem? (i := 52) (by rfl)) rfl
theorem gw_6_29 : Cond.methodLink RL 172 yL_putAside ∈ zG := zGt6 (List.mem_of_getElem? (i := 29) (by rfl)) rfl
theorem gw_6_30 : Cond.static yL_putAside ∈ zG := zGt6 (List.mem_of_getElem? (i := 30) (by rfl)) rfl
theorem gw_6_31 : Cond.codeWith yL_putAside cL_putAside 3 (Option.some Jvm.ClassFile.FieldType.int) [(0, 5, 6, 113)] ∈ zG := zGt6 (List.mem_of_getElem? (i := 31) (by rfl)) rfl
theorem gw_6_42 : Cond.methodLink RL 175 yL_pardoned ∈ zG := zGt6 (List.mem_of_getElem? (i := 42) (by rfl)) rfl
theorem gw_6_43 : Cond.static yL_pardoned ∈ zG := zGt6 (List.mem_of_getElem? (i := 43) (by rfl)) rfl
theorem gw_6_44 : Cond.codeWith yL_pardoned cL_pardoned 3 (Option.some Jvm.ClassFile.FieldType.int) [(0, 5, 6, 113)] ∈ zG := zGt6 (List.mem_of_getElem? (i := 44) (by rfl)) rfl
theorem gw_6_54 : Cond.code yX8_bar cX8_bar 5 (Option.some Jvm.ClassFile.FieldType.boolean) ∈ zG := zGt6 (List.mem_of_getElem? (i := 54) (by rfl)) rfl
theorem gw_6_51 : Cond.methodLink RL 178 yX8_bar ∈ zG := zGt6 (List.mem_of_getElem? (i := 51) (by rfl)) rfl
theorem gw_6_52 : Cond.instanceMethod yX8_bar ∈ zG := zGt6 (List.mem_of_getElem? (i := 52) (by rfl)) rfl
theorem gw_6_53 : Cond.selects RX8 yX8_bar yX8_bar ∈ zG := zGt6 (List.mem_of_getElem? (i := 53) (by rfl)) rfl
theorem gw_6_60 : Cond.code yX8_setTable cX8_setTable 4 (Option.some Jvm.ClassFile.FieldType.int) ∈ zG := zGt6 (List.mem_of_getElem? (i := 60) (by rfl)) rfl
theorem gw_6_57 : Cond.methodLink RL 182 yX8_setTable ∈ zG := zGt6 (List.mem_of_getElem? (i := 57) (by rfl)) rfl
theorem gw_6_58 : Cond.instanceMethod yX8_setTable ∈ zG := zGt6 (List.mem_of_getElem? (i := 58) (by rfl)) rfl
theorem gw_6_59 : Cond.selects RX8 yX8_setTable yX8_setTable ∈ zG := zGt6 (List.mem_of_getElem? (i := 59) (by rfl)) rfl
abbrev rm_L_act : Room := { frames := 9, cells := 710, slots := 4400, locals := 213 }
def cd_L_act (T0 : ZTf) (T1 : ZTf) (T2 : ZTf) (T3 : List ZV → ZM → ZRet → Prop) (T4 : List ZV → ZM → ZRet → Prop) (T5 : ZTf) (T6 : List ZV → ZM → ZRet → Prop) (T7 : ZTf) (T8 : List ZV → ZM → ZRet → Prop) (T9 : List ZV → ZM → ZRet → Prop) (T10 : List ZV → ZM → ZRet → Prop) (T11 : ZTf) (T12 : ZTf) : List (Nat × ZTr) := [(0, tAld 1 1), (1, tIld 2 2), (2, tAld 0 3), (3, tC (zi 0) 4), (4, tCall 2 1 6 T0 (zRcv 11) 7), (7, tCall0 3 T1 zAny 10), (10, tIst 3 11), (11, tAld 1 12), (12, tIld 2 13), (13, tC (zi 2) 14), (14, tAdd 15), (15, tC (zi 3) 16), (16, tCall0 3 T1 zAny 19), (19, tIf_ne 34 22), (22, tAld 1 23), (23, tIld 2 24), (24, tC (zi 3) 25), (25, tAdd 26), (26, tC (zi 100) 28), (28, tCall0 3 T1 zAny 31), (31, tGo 46), (34, tC (zi 40) 36), (36, tAld 1 37), (37, tIld 2 38), (38, tC (zi 3) 39), (39, tAdd 40), (40, tC (zi 9) 42), (42, tCall0 3 T1 zAny 45), (45, tAdd 46), (46, tIst 4 48), (48, tAld 0 49), (49, tC (zi 1) 50), (50, tCall 2 1 6 T0 (zRcv 11) 53), (53, tIf_ne 63 56), (56, tAld 0 57), (57, tC (zi 2) 58), (58, tC (zi 3) 59), (59, tCall 3 3 18 T2 (zRcv 11) 62), (62, tRi (fun _ => True)), (63, tAld 1 64), (64, tIld 2 65), (65, tC (zi 1) 66), (66, tAdd 67), (67, tAld 0 68), (68, tC (zi 1) 69), (69, tCall 2 1 6 T0 (zRcv 11) 72), (72, tCall0 3 T1 zAny 75), (75, tIst 5 77), (77, tAld 1 78), (78, tIld 2 79), (79, tC (zi 4) 80), (80, tAdd 81), (81, tC (zi 14) 83), (83, tCall0 3 T1 zAny 86), (86, tSw [(0, 152), (1, 152), (2, 152), (3, 158), (4, 166), (5, 166), (6, 166), (7, 166), (8, 166), (9, 195), (10, 211), (11, 220), (12, 242)] 293), (152, tAld 0 153), (153, tIld 3 154), (154, tCall 2 2 12 (fun av M K _ => T3 av M K) zAny 157), (157, tRi (fun _ => True)), (158, tAld 0 159), (159, tIld 3 160), (160, tIld 5 162), (162, tCall 3 3 18 (fun av M K _ => T4 av M K) zAny 165), (165, tRi (fun _ => True)), (166, tAld 0 167), (167, tIld 3 168), (168, tIld 5 170), (170, tCall 3 680 4100 T5 zAny 173), (173, tIst 6 175), (175, tIld 6 177), (177, tIf_ge 185 180), (180, tC (zi (-9)) 182), (182, tGo 194), (185, tAld 0 186), (186, tIld 3 187), (187, tIld 6 189), (189, tIld 4 191), (191, tCall 4 4 24 (fun av M K _ => T6 av M K) zAny 194), (194, tRi (fun _ => True)), (195, tAld 0 196), (196, tC (zi 1) 197), (197, tAld 1 198), (198, tIld 2 199), (199, tC (zi 3) 200), (200, tAdd 201), (201, tC (zi 6) 203), (203, tCall0 3 T1 zAny 206), (206, tAdd 207), (207, tCall 2 1 6 T7 (zRcv 11) 210), (210, tRi (fun _ => True)), (211, tAld 0 212), (212, tIld 5 214), (214, tIld 4 216), (216, tCall 3 3 18 (fun av M K _ => T8 av M K) zAny 219), (219, tRi (fun _ => True)), (220, tIld 4 222), (222, tC (zi 3) 223), (223, tDiv Int.tmod 224), (224, tIf_ne 236 227), (227, tAld 0 228), (228, tIld 5 230), (230, tCall 2 2 12 (fun av M K _ => T9 av M K) zAny 233), (233, tGo 241), (236, tAld 0 237), (237, tIld 3 238), (238, tCall 2 2 12 (fun av M K _ => T10 av M K) zAny 241), (241, tRi (fun _ => True)), (242, tIld 3 243), (243, tIld 5 245), (245, tAld 0 246), (246, tC (zi 0) 247), (247, tCall 2 1 6 T0 (zRcv 11) 250), (250, tDiv Int.tmod 251), (251, tIc_ne 259 254), (254, tC (zi (-9)) 256), (256, tGo 292), (259, tAld 0 260), (260, tIld 3 261), (261, tIld 5 263), (263, tAld 0 264), (264, tC (zi 0) 265), (265, tCall 2 1 6 T0 (zRcv 11) 268), (268, tDiv Int.tmod 269), (269, tIld 4 271), (271, tC (zi 2) 272), (272, tDiv Int.tmod 273), (273, tIf_ne 280 276), (276, tC (zi 1) 277), (277, tGo 281), (280, tC (zi 0) 281), (281, tCall 4 3 18 T11 (zRcv 11) 284), (284, tIf_eq 291 287), (287, tC (zi 1) 288), (288, tGo 292), (291, tC (zi 0) 292), (292, tRi (fun _ => True)), (293, tAld 0 294), (294, tAld 1 295), (295, tIld 2 296), (296, tC (zi 3) 297), (297, tAdd 298), (298, tC (zi 3) 299), (299, tCall0 3 T1 zAny 302), (302, tC (zi 1) 303), (303, tIld 4 305), (305, tC (zi 9) 307), (307, tDiv Int.tmod 308), (308, tAdd 309), (309, tCall 3 5 30 T12 (zRcv 11) 312), (312, tRi (fun _ => True))]
set_option maxRecDepth 100000 in
set_option maxHeartbeats 4000000 in
theorem hs_L_act {l : Launch} (hl : l.stackTraces = false) {T0 : ZTf} {T1 : ZTf} {T2 : ZTf} {T3 : List ZV → ZM → ZRet → Prop} {T4 : List ZV → ZM → ZRet → Prop} {T5 : ZTf} {T6 : List ZV → ZM → ZRet → Prop} {T7 : ZTf} {T8 : List ZV → ZM → ZRet → Prop} {T9 : List ZV → ZM → ZRet → Prop} {T10 : List ZV → ZM → ZRet → Prop} {T11 : ZTf} {T12 : ZTf} (h0 : zMet l yX8_property (Cond.code yX8_property cX8_property 2 (Option.some Jvm.ClassFile.FieldType.int) :: zG) rm_X8_property 1 6 T0) (h1 : zMet l yL_draw (Cond.code yL_draw cL_draw 3 (Option.some Jvm.ClassFile.FieldType.int) :: zG) rm_L_draw 0 0 T1) (h2 : zMet l yX8_addRows (Cond.code yX8_addRows cX8_addRows 4 (Option.some Jvm.ClassFile.FieldType.int) :: zG) rm_X8_addRows 3 18 T2) (h3 : zMetW l yL_taken (Cond.codeWith yL_taken cL_taken 3 (Option.some Jvm.ClassFile.FieldType.int) [(0, 5, 6, 113)] :: zG) rm_L_taken 2 12 T3) (h4 : zMetW l yL_took (Cond.codeWith yL_took cL_took 4 (Option.some Jvm.ClassFile.FieldType.int) [(0, 6, 7, 113)] :: zG) rm_L_took 3 18 T4) (h5 : zMet l yL_inWork (Cond.code yL_inWork cL_inWork 6 (Option.some Jvm.ClassFile.FieldType.int) :: zG) rm_L_inWork 680 4100 T5) (h6 : zMetW l yL_delivered (Cond.codeWith yL_delivered cL_delivered 5 (Option.some Jvm.ClassFile.FieldType.int) [(0, 7, 8, 113)] :: zG) rm_L_delivered 4 24 T6) (h7 : zMet l yX8_pass (Cond.code yX8_pass cX8_pass 2 (Option.some Jvm.ClassFile.FieldType.int) :: zG) rm_X8_pass 1 6 T7) (h8 : zMetW l yL_audited (Cond.codeWith yL_audited cL_audited 4 (Option.some Jvm.ClassFile.FieldType.int) [(0, 14, 15, 113)] :: zG) rm_L_audited 3 18 T8) (h9 : zMetW l yL_putAside (Cond.codeWith yL_putAside cL_putAside 3 (Option.some Jvm.ClassFile.FieldType.int) [(0, 5, 6, 113)] :: zG) rm_L_putAside 2 12 T9) (h10 : zMetW l yL_pardoned (Cond.codeWith yL_pardoned cL_pardoned 3 (Option.some Jvm.ClassFile.FieldType.int) [(0, 5, 6, 113)] :: zG) rm_L_pardoned 2 12 T10) (h11 : zMet l yX8_bar (Cond.code yX8_bar cX8_bar 5 (Option.some Jvm.ClassFile.FieldType.boolean) :: zG) rm_X8_bar 3 18 T11) (h12 : zMet l yX8_setTable (Cond.code yX8_setTable cX8_setTable 4 (Option.some Jvm.ClassFile.FieldType.int) :: zG) rm_X8_setTable 5 30 T12) (p : Program) (e : Env) (s : State) (m : MethodId) (args : Array Value) (below : List Frame) (meth : Method) (c : Code) (D : va_G) (A : Nat → Prop) (a0 : Nat → Nat) (M0 : ZM) (K : ZRet) (KX : ZEx) (X : zCtx p l rm_L_act s m args meth c cL_act RL (Cond.code yL_act cL_act 7 (Option.some Jvm.ClassFile.FieldType.int) :: zG) 7 (Option.some Jvm.ClassFile.FieldType.int) D A a0 M0 710 4400) (hnm : meth.name = yL_act.name) (hout : ∀ x ∈ c.exceptionTable.toList, False) : ∀ q ∈ cd_L_act T0 T1 T2 T3 T4 T5 T6 T7 T8 T9 T10 T11 T12, zSd p l e rm_L_act s m args below meth c 7 D A a0 M0 K KX 710 4400 q.1 q.2 :=
    zall_c (zs_aload_n X (pc := 0) (q := 1) rfl (by decide +kernel)) <|
    zall_c (zs_iload_n X (pc := 1) (q := 2) rfl (by decide +kernel)) <|
    zall_c (zs_aload_n X (pc := 2) (q := 0) rfl (by decide +kernel)) <|
    zall_c (zs_iconst X (pc := 3) (by decide) (by decide +kernel)) <|
    zall_c (zs_callV X (pc := 4) zc_X8 (fun _ ht => ⟨(zCB ht gw_2_148 gw_1_1 gw_2_145 rfl rfl (by decide +kernel) ⟨Nat.le_of_ble_eq_true rfl, Nat.le_of_ble_eq_true rfl⟩), ht _ (.tail _ gw_2_146), ht _ (.tail _ gw_2_147)⟩) h0 hout (by decide +kernel)) <|
    zall_c (zs_callS0 X (pc := 7) (fun _ ht => ⟨(zCB ht gw_2_229 gw_1_0 gw_2_227 rfl rfl (by decide +kernel) ⟨Nat.le_of_ble_eq_true rfl, Nat.le_of_ble_eq_true rfl⟩), ht _ (.tail _ gw_2_228)⟩) h1 hout (by decide +kernel)) <|
    zall_c (zs_istore_n X (pc := 10) (q := 3) rfl (by decide) (by decide +kernel)) <|
    zall_c (zs_aload_n X (pc := 11) (q := 1) rfl (by decide +kernel)) <|
    zall_c (zs_iload_n X (pc := 12) (q := 2) rfl (by decide +kernel)) <|
    zall_c (zs_iconst X (pc := 13) (by decide) (by decide +kernel)) <|
    zall_c (zs_iadd X (pc := 14) (by decide +kernel)) <|
    zall_c (zs_iconst X (pc := 15) (by decide) (by decide +kernel)) <|
    zall_c (zs_callS0 X (pc := 16) (fun _ ht => ⟨(zCB ht gw_2_229 gw_1_0 gw_2_227 rfl rfl (by decide +kernel) ⟨Nat.le_of_ble_eq_true rfl, Nat.le_of_ble_eq_true rfl⟩), ht _ (.tail _ gw_2_228)⟩) h1 hout (by decide +kernel)) <|
    zall_c (zs_if_ne X (pc := 19) (off := 15) (by decide +kernel) (by decide)) <|
    zall_c (zs_aload_n X (pc := 22) (q := 1) rfl (by decide +kernel)) <|
    zall_c (zs_iload_n X (pc := 23) (q := 2) rfl (by decide +kernel)) <|
    zall_c (zs_iconst X (pc := 24) (by decide) (by decide +kernel)) <|
    zall_c (zs_iadd X (pc := 25) (by decide +kernel)) <|
    zall_c (zs_bipush X (pc := 26) (by decide) (by decide +kernel) (by decide +kernel)) <|
    zall_c (zs_callS0 X (pc := 28) (fun _ ht => ⟨(zCB ht gw_2_229 gw_1_0 gw_2_227 rfl rfl (by decide +kernel) ⟨Nat.le_of_ble_eq_true rfl, Nat.le_of_ble_eq_true rfl⟩), ht _ (.tail _ gw_2_228)⟩) h1 hout (by decide +kernel)) <|
    zall_c (zs_goto X (pc := 31) (off := 15) (by decide +kernel) (by decide)) <|
    zall_c (zs_bipush X (pc := 34) (by decide) (by decide +kernel) (by decide +kernel)) <|
    zall_c (zs_aload_n X (pc := 36) (q := 1) rfl (by decide +kernel)) <|
    zall_c (zs_iload_n X (pc := 37) (q := 2) rfl (by decide +kernel)) <|
    zall_c (zs_iconst X (pc := 38) (by decide) (by decide +kernel)) <|
    zall_c (zs_iadd X (pc := 39) (by decide +kernel)) <|
    zall_c (zs_bipush X (pc := 40) (by decide) (by decide +kernel) (by decide +kernel)) <|
    zall_c (zs_callS0 X (pc := 42) (fun _ ht => ⟨(zCB ht gw_2_229 gw_1_0 gw_2_227 rfl rfl (by decide +kernel) ⟨Nat.le_of_ble_eq_true rfl, Nat.le_of_ble_eq_true rfl⟩), ht _ (.tail _ gw_2_228)⟩) h1 hout (by decide +kernel)) <|
    zall_c (zs_iadd X (pc := 45) (by decide +kernel)) <|
    zall_c (zs_istore X (pc := 46) (by decide) (by decide +kernel)) <|
    zall_c (zs_aload_n X (pc := 48) (q := 0) rfl (by decide +kernel)) <|
    zall_c (zs_iconst X (pc := 49) (by decide) (by decide +kernel)) <|
    zall_c (zs_callV X (pc := 50) zc_X8 (fun _ ht => ⟨(zCB ht gw_2_148 gw_1_1 gw_2_145 rfl rfl (by decide +kernel) ⟨Nat.le_of_ble_eq_true rfl, Nat.le_of_ble_eq_true rfl⟩), ht _ (.tail _ gw_2_146), ht _ (.tail _ gw_2_147)⟩) h0 hout (by decide +kernel)) <|
    zall_c (zs_if_ne X (pc := 53) (off := 10) (by decide +kernel) (by decide)) <|
    zall_c (zs_aload_n X (pc := 56) (q := 0) rfl (by decide +kernel)) <|
    zall_c (zs_iconst X (pc := 57) (by decide) (by decide +kernel)) <|
    zall_c (zs_iconst X (pc := 58) (by decide) (by decide +kernel)) <|
    zall_c (zs_callV X (pc := 59) zc_X8 (fun _ ht => ⟨(zCB ht gw_5_100 gw_1_1 gw_5_97 rfl rfl (by decide +kernel) ⟨Nat.le_of_ble_eq_true rfl, Nat.le_of_ble_eq_true rfl⟩), ht _ (.tail _ gw_5_98), ht _ (.tail _ gw_5_99)⟩) h2 hout (by decide +kernel)) <|
    zall_c (zs_iret X (pc := 62) rfl (by decide +kernel)) <|
    zall_c (zs_aload_n X (pc := 63) (q := 1) rfl (by decide +kernel)) <|
    zall_c (zs_iload_n X (pc := 64) (q := 2) rfl (by decide +kernel)) <|
    zall_c (zs_iconst X (pc := 65) (by decide) (by decide +kernel)) <|
    zall_c (zs_iadd X (pc := 66) (by decide +kernel)) <|
    zall_c (zs_aload_n X (pc := 67) (q := 0) rfl (by decide +kernel)) <|
    zall_c (zs_iconst X (pc := 68) (by decide) (by decide +kernel)) <|
    zall_c (zs_callV X (pc := 69) zc_X8 (fun _ ht => ⟨(zCB ht gw_2_148 gw_1_1 gw_2_145 rfl rfl (by decide +kernel) ⟨Nat.le_of_ble_eq_true rfl, Nat.le_of_ble_eq_true rfl⟩), ht _ (.tail _ gw_2_146), ht _ (.tail _ gw_2_147)⟩) h0 hout (by decide +kernel)) <|
    zall_c (zs_callS0 X (pc := 72) (fun _ ht => ⟨(zCB ht gw_2_229 gw_1_0 gw_2_227 rfl rfl (by decide +kernel) ⟨Nat.le_of_ble_eq_true rfl, Nat.le_of_ble_eq_true rfl⟩), ht _ (.tail _ gw_2_228)⟩) h1 hout (by decide +kernel)) <|
    zall_c (zs_istore X (pc := 75) (by decide) (by decide +kernel)) <|
    zall_c (zs_aload_n X (pc := 77) (q := 1) rfl (by decide +kernel)) <|
    zall_c (zs_iload_n X (pc := 78) (q := 2) rfl (by decide +kernel)) <|
    zall_c (zs_iconst X (pc := 79) (by decide) (by decide +kernel)) <|
    zall_c (zs_iadd X (pc := 80) (by decide +kernel)) <|
    zall_c (zs_bipush X (pc := 81) (by decide) (by decide +kernel) (by decide +kernel)) <|
    zall_c (zs_callS0 X (pc := 83) (fun _ ht => ⟨(zCB ht gw_2_229 gw_1_0 gw_2_227 rfl rfl (by decide +kernel) ⟨Nat.le_of_ble_eq_true rfl, Nat.le_of_ble_eq_true rfl⟩), ht _ (.tail _ gw_2_228)⟩) h1 hout (by decide +kernel)) <|
    zall_c (zs_tablesw X (pc := 86) (df := 207) (lo := 0) (hi := 12) (offs := #[66, 66, 66, 72, 80, 80, 80, 80, 80, 109, 125, 134, 156]) (len := 66) (by decide +kernel) (by decide) (by decide +kernel) (by decide +kernel)) <|
    zall_c (zs_aload_n X (pc := 152) (q := 0) rfl (by decide +kernel)) <|
    zall_c (zs_iload_n X (pc := 153) (q := 3) rfl (by decide +kernel)) <|
    zall_c (zs_callSW X (pc := 154) trivial (fun _ ht => zCSW ht gw_5_106 gw_1_0 gw_5_104 gw_5_105 rfl rfl (by decide +kernel) ⟨Nat.le_of_ble_eq_true rfl, Nat.le_of_ble_eq_true rfl⟩) h3 (by decide +kernel)) <|
    zall_c (zs_iret X (pc := 157) rfl (by decide +kernel)) <|
    zall_c (zs_aload_n X (pc := 158) (q := 0) rfl (by decide +kernel)) <|
    zall_c (zs_iload_n X (pc := 159) (q := 3) rfl (by decide +kernel)) <|
    zall_c (zs_iload X (pc := 160) (by decide +kernel)) <|
    zall_c (zs_callSW X (pc := 162) trivial (fun _ ht => zCSW ht gw_5_153 gw_1_0 gw_5_151 gw_5_152 rfl rfl (by decide +kernel) ⟨Nat.le_of_ble_eq_true rfl, Nat.le_of_ble_eq_true rfl⟩) h4 (by decide +kernel)) <|
    zall_c (zs_iret X (pc := 165) rfl (by decide +kernel)) <|
    zall_c (zs_aload_n X (pc := 166) (q := 0) rfl (by decide +kernel)) <|
    zall_c (zs_iload_n X (pc := 167) (q := 3) rfl (by decide +kernel)) <|
    zall_c (zs_iload X (pc := 168) (by decide +kernel)) <|
    zall_c (zs_callS X (pc := 170) (fun _ ht => ⟨(zCB ht gw_5_53 gw_1_0 gw_5_51 rfl rfl (by decide +kernel) ⟨Nat.le_of_ble_eq_true rfl, Nat.le_of_ble_eq_true rfl⟩), ht _ (.tail _ gw_5_52)⟩) h5 hout (by decide +kernel)) <|
    zall_c (zs_istore X (pc := 173) (by decide) (by decide +kernel)) <|
    zall_c (zs_iload X (pc := 175) (by decide +kernel)) <|
    zall_c (zs_if_ge X (pc := 177) (off := 8) (by decide +kernel) (by decide)) <|
    zall_c (zs_bipush X (pc := 180) (by decide) (by decide +kernel) (by decide +kernel)) <|
    zall_c (zs_goto X (pc := 182) (off := 12) (by decide +kernel) (by decide)) <|
    zall_c (zs_aload_n X (pc := 185) (q := 0) rfl (by decide +kernel)) <|
    zall_c (zs_iload_n X (pc := 186) (q := 3) rfl (by decide +kernel)) <|
    zall_c (zs_iload X (pc := 187) (by decide +kernel)) <|
    zall_c (zs_iload X (pc := 189) (by decide +kernel)) <|
    zall_c (zs_callSW X (pc := 191) trivial (fun _ ht => zCSW ht gw_5_162 gw_1_0 gw_5_160 gw_5_161 rfl rfl (by decide +kernel) ⟨Nat.le_of_ble_eq_true rfl, Nat.le_of_ble_eq_true rfl⟩) h6 (by decide +kernel)) <|
    zall_c (zs_iret X (pc := 194) rfl (by decide +kernel)) <|
    zall_c (zs_aload_n X (pc := 195) (q := 0) rfl (by decide +kernel)) <|
    zall_c (zs_iconst X (pc := 196) (by decide) (by decide +kernel)) <|
    zall_c (zs_aload_n X (pc := 197) (q := 1) rfl (by decide +kernel)) <|
    zall_c (zs_iload_n X (pc := 198) (q := 2) rfl (by decide +kernel)) <|
    zall_c (zs_iconst X (pc := 199) (by decide) (by decide +kernel)) <|
    zall_c (zs_iadd X (pc := 200) (by decide +kernel)) <|
    zall_c (zs_bipush X (pc := 201) (by decide) (by decide +kernel) (by decide +kernel)) <|
    zall_c (zs_callS0 X (pc := 203) (fun _ ht => ⟨(zCB ht gw_2_229 gw_1_0 gw_2_227 rfl rfl (by decide +kernel) ⟨Nat.le_of_ble_eq_true rfl, Nat.le_of_ble_eq_true rfl⟩), ht _ (.tail _ gw_2_228)⟩) h1 hout (by decide +kernel)) <|
    zall_c (zs_iadd X (pc := 206) (by decide +kernel)) <|
    zall_c (zs_callV X (pc := 207) zc_X8 (fun _ ht => ⟨(zCB ht gw_5_232 gw_1_1 gw_5_229 rfl rfl (by decide +kernel) ⟨Nat.le_of_ble_eq_true rfl, Nat.le_of_ble_eq_true rfl⟩), ht _ (.tail _ gw_5_230), ht _ (.tail _ gw_5_231)⟩) h7 hout (by decide +kernel)) <|
    zall_c (zs_iret X (pc := 210) rfl (by decide +kernel)) <|
    zall_c (zs_aload_n X (pc := 211) (q := 0) rfl (by decide +kernel)) <|
    zall_c (zs_iload X (pc := 212) (by decide +kernel)) <|
    zall_c (zs_iload X (pc := 214) (by decide +kernel)) <|
    zall_c (zs_callSW X (pc := 216) trivial (fun _ ht => zCSW ht gw_6_17 gw_1_0 gw_6_15 gw_6_16 rfl rfl (by decide +kernel) ⟨Nat.le_of_ble_eq_true rfl, Nat.le_of_ble_eq_true rfl⟩) h8 (by decide +kernel)) <|
    zall_c (zs_iret X (pc := 219) rfl (by decide +kernel)) <|
    zall_c (zs_iload X (pc := 220) (by decide +kernel)) <|
    zall_c (zs_iconst X (pc := 222) (by decide) (by decide +kernel)) <|
    zall_c (zs_irem X (pc := 223) (by decide +kernel)) <|
    zall_c (zs_if_ne X (pc := 224) (off := 12) (by decide +kernel) (by decide)) <|
    zall_c (zs_aload_n X (pc := 227) (q := 0) rfl (by decide +kernel)) <|
    zall_c (zs_iload X (pc := 228) (by decide +kernel)) <|
    zall_c (zs_callSW X (pc := 230) trivial (fun _ ht => zCSW ht gw_6_31 gw_1_0 gw_6_29 gw_6_30 rfl rfl (by decide +kernel) ⟨Nat.le_of_ble_eq_true rfl, Nat.le_of_ble_eq_true rfl⟩) h9 (by decide +kernel)) <|
    zall_c (zs_goto X (pc := 233) (off := 8) (by decide +kernel) (by decide)) <|
    zall_c (zs_aload_n X (pc := 236) (q := 0) rfl (by decide +kernel)) <|
    zall_c (zs_iload_n X (pc := 237) (q := 3) rfl (by decide +kernel)) <|
    zall_c (zs_callSW X (pc := 238) trivial (fun _ ht => zCSW ht gw_6_44 gw_1_0 gw_6_42 gw_6_43 rfl rfl (by decide +kernel) ⟨Nat.le_of_ble_eq_true rfl, Nat.le_of_ble_eq_true rfl⟩) h10 (by decide +kernel)) <|
    zall_c (zs_iret X (pc := 241) rfl (by decide +kernel)) <|
    zall_c (zs_iload_n X (pc := 242) (q := 3) rfl (by decide +kernel)) <|
    zall_c (zs_iload X (pc := 243) (by decide +kernel)) <|
    zall_c (zs_aload_n X (pc := 245) (q := 0) rfl (by decide +kernel)) <|
    zall_c (zs_iconst X (pc := 246) (by decide) (by decide +kernel)) <|
    zall_c (zs_callV X (pc := 247) zc_X8 (fun _ ht => ⟨(zCB ht gw_2_148 gw_1_1 gw_2_145 rfl rfl (by decide +kernel) ⟨Nat.le_of_ble_eq_true rfl, Nat.le_of_ble_eq_true rfl⟩), ht _ (.tail _ gw_2_146), ht _ (.tail _ gw_2_147)⟩) h0 hout (by decide +kernel)) <|
    zall_c (zs_irem X (pc := 250) (by decide +kernel)) <|
    zall_c (zs_icmp_ne X (pc := 251) (off := 8) (by decide +kernel) (by decide)) <|
    zall_c (zs_bipush X (pc := 254) (by decide) (by decide +kernel) (by decide +kernel)) <|
    zall_c (zs_goto X (pc := 256) (off := 36) (by decide +kernel) (by decide)) <|
    zall_c (zs_aload_n X (pc := 259) (q := 0) rfl (by decide +kernel)) <|
    zall_c (zs_iload_n X (pc := 260) (q := 3) rfl (by decide +kernel)) <|
    zall_c (zs_iload X (pc := 261) (by decide +kernel)) <|
    zall_c (zs_aload_n X (pc := 263) (q := 0) rfl (by decide +kernel)) <|
    zall_c (zs_iconst X (pc := 264) (by decide) (by decide +kernel)) <|
    zall_c (zs_callV X (pc := 265) zc_X8 (fun _ ht => ⟨(zCB ht gw_2_148 gw_1_1 gw_2_145 rfl rfl (by decide +kernel) ⟨Nat.le_of_ble_eq_true rfl, Nat.le_of_ble_eq_true rfl⟩), ht _ (.tail _ gw_2_146), ht _ (.tail _ gw_2_147)⟩) h0 hout (by decide +kernel)) <|
    zall_c (zs_irem X (pc := 268) (by decide +kernel)) <|
    zall_c (zs_iload X (pc := 269) (by decide +kernel)) <|
    zall_c (zs_iconst X (pc := 271) (by decide) (by decide +kernel)) <|
    zall_c (zs_irem X (pc := 272) (by decide +kernel)) <|
    zall_c (zs_if_ne X (pc := 273) (off := 7) (by decide +kernel) (by decide)) <|
    zall_c (zs_iconst X (pc := 276) (by decide) (by decide +kernel)) <|
    zall_c (zs_goto X (pc := 277) (off := 4) (by decide +kernel) (by decide)) <|
    zall_c (zs_iconst X (pc := 280) (by decide) (by decide +kernel)) <|
    zall_c (zs_callV X (pc := 281) zc_X8 (fun _ ht => ⟨(zCB ht gw_6_54 gw_1_1 gw_6_51 rfl rfl (by decide +kernel) ⟨Nat.le_of_ble_eq_true rfl, Nat.le_of_ble_eq_true rfl⟩), ht _ (.tail _ gw_6_52), ht _ (.tail _ gw_6_53)⟩) h11 hout (by decide +kernel)) <|
    zall_c (zs_if_eq X (pc := 284) (off := 7) (by decide +kernel) (by decide)) <|
    zall_c (zs_iconst X (pc := 287) (by decide) (by decide +kernel)) <|
    zall_c (zs_goto X (pc := 288) (off := 4) (by decide +kernel) (by decide)) <|
    zall_c (zs_iconst X (pc := 291) (by decide) (by decide +kernel)) <|
    zall_c (zs_iret X (pc := 292) rfl (by decide +kernel)) <|
    zall_c (zs_aload_n X (pc := 293) (q := 0) rfl (by decide +kernel)) <|
    zall_c (zs_aload_n X (pc := 294) (q := 1) rfl (by decide +kernel)) <|
    zall_c (zs_iload_n X (pc := 295) (q := 2) rfl (by decide +kernel)) <|
    zall_c (zs_iconst X (pc := 296) (by decide) (by decide +kernel)) <|
    zall_c (zs_iadd X (pc := 297) (by decide +kernel)) <|
    zall_c (zs_iconst X (pc := 298) (by decide) (by decide +kernel)) <|
    zall_c (zs_callS0 X (pc := 299) (fun _ ht => ⟨(zCB ht gw_2_229 gw_1_0 gw_2_227 rfl rfl (by decide +kernel) ⟨Nat.le_of_ble_eq_true rfl, Nat.le_of_ble_eq_true rfl⟩), ht _ (.tail _ gw_2_228)⟩) h1 hout (by decide +kernel)) <|
    zall_c (zs_iconst X (pc := 302) (by decide) (by decide +kernel)) <|
    zall_c (zs_iload X (pc := 303) (by decide +kernel)) <|
    zall_c (zs_bipush X (pc := 305) (by decide) (by decide +kernel) (by decide +kernel)) <|
    zall_c (zs_irem X (pc := 307) (by decide +kernel)) <|
    zall_c (zs_iadd X (pc := 308) (by decide +kernel)) <|
    zall_c (zs_callV X (pc := 309) zc_X8 (fun _ ht => ⟨(zCB ht gw_6_60 gw_1_1 gw_6_57 rfl rfl (by decide +kernel) ⟨Nat.le_of_ble_eq_true rfl, Nat.le_of_ble_eq_true rfl⟩), ht _ (.tail _ gw_6_58), ht _ (.tail _ gw_6_59)⟩) h12 hout (by decide +kernel)) <|
    zall_c (zs_iret X (pc := 312) rfl (by decide +kernel)) <|
    zall_n
theorem met_L_act {l : Launch} (hl : l.stackTraces = false) {T0 : ZTf} {T1 : ZTf} {T2 : ZTf} {T3 : List ZV → ZM → ZRet → Prop} {T4 : List ZV → ZM → ZRet → Prop} {T5 : ZTf} {T6 : List ZV → ZM → ZRet → Prop} {T7 : ZTf} {T8 : List ZV → ZM → ZRet → Prop} {T9 : List ZV → ZM → ZRet → Prop} {T10 : List ZV → ZM → ZRet → Prop} {T11 : ZTf} {T12 : ZTf} (h0 : zMet l yX8_property (Cond.code yX8_property cX8_property 2 (Option.some Jvm.ClassFile.FieldType.int) :: zG) rm_X8_property 1 6 T0) (h1 : zMet l yL_draw (Cond.code yL_draw cL_draw 3 (Option.some Jvm.ClassFile.FieldType.int) :: zG) rm_L_draw 0 0 T1) (h2 : zMet l yX8_addRows (Cond.code yX8_addRows cX8_addRows 4 (Option.some Jvm.ClassFile.FieldType.int) :: zG) rm_X8_addRows 3 18 T2) (h3 : zMetW l yL_taken (Cond.codeWith yL_taken cL_taken 3 (Option.some Jvm.ClassFile.FieldType.int) [(0, 5, 6, 113)] :: zG) rm_L_taken 2 12 T3) (h4 : zMetW l yL_took (Cond.codeWith yL_took cL_took 4 (Option.some Jvm.ClassFile.FieldType.int) [(0, 6, 7, 113)] :: zG) rm_L_took 3 18 T4) (h5 : zMet l yL_inWork (Cond.code yL_inWork cL_inWork 6 (Option.some Jvm.ClassFile.FieldType.int) :: zG) rm_L_inWork 680 4100 T5) (h6 : zMetW l yL_delivered (Cond.codeWith yL_delivered cL_delivered 5 (Option.some Jvm.ClassFile.FieldType.int) [(0, 7, 8, 113)] :: zG) rm_L_delivered 4 24 T6) (h7 : zMet l yX8_pass (Cond.code yX8_pass cX8_pass 2 (Option.some Jvm.ClassFile.FieldType.int) :: zG) rm_X8_pass 1 6 T7) (h8 : zMetW l yL_audited (Cond.codeWith yL_audited cL_audited 4 (Option.some Jvm.ClassFile.FieldType.int) [(0, 14, 15, 113)] :: zG) rm_L_audited 3 18 T8) (h9 : zMetW l yL_putAside (Cond.codeWith yL_putAside cL_putAside 3 (Option.some Jvm.ClassFile.FieldType.int) [(0, 5, 6, 113)] :: zG) rm_L_putAside 2 12 T9) (h10 : zMetW l yL_pardoned (Cond.codeWith yL_pardoned cL_pardoned 3 (Option.some Jvm.ClassFile.FieldType.int) [(0, 5, 6, 113)] :: zG) rm_L_pardoned 2 12 T10) (h11 : zMet l yX8_bar (Cond.code yX8_bar cX8_bar 5 (Option.some Jvm.ClassFile.FieldType.boolean) :: zG) rm_X8_bar 3 18 T11) (h12 : zMet l yX8_setTable (Cond.code yX8_setTable cX8_setTable 4 (Option.some Jvm.ClassFile.FieldType.int) :: zG) rm_X8_setTable 5 30 T12) {T : ZTf} (bd : zBd (cd_L_act T0 T1 T2 T3 T4 T5 T6 T7 T8 T9 T10 T11 T12) 7 710 4400 T) : zMet l yL_act (Cond.code yL_act cL_act 7 (Option.some Jvm.ClassFile.FieldType.int) :: zG) rm_L_act 710 4400 T := zMet_of hl (by decide +kernel) rfl rfl rfl rfl (hs_L_act hl h0 h1 h2 h3 h4 h5 h6 h7 h8 h9 h10 h11 h12) bd
