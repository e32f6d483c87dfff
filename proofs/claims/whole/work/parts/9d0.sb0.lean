/-! the constructor of the reference -/
def m9f (q : Nat) : Nat := [1, 2, 4, 5, 14, 15, 16, 17, 18, 20].getD q 0
def m9k (q : Nat) : Nat := [20, 20, 20, 21, 20, 22, 20, 22, 20, 21].getD q 0
def m9l (q : Nat) : Nat := [516, 516, 516, 500, 24, 24, 1032, 2, 3096, 400].getD q 0
theorem m9f_i : ∀ k, k < 10 → ∀ q, q < k → m9f q ≠ m9f k := by decide
def JS (k : Nat) (M0 M : ZM) : Prop := UB 670 M0 M ∧ zW M 670 12 ∧ zN M = 671 + k ∧ ∀ q, q < k → zR M 670 (m9f q) = some (671 + q) ∧ zW M (671 + q) (m9k q) ∧ zLn M (671 + q) = m9l q ∧ zI M (671 + q) = fun _ => 0
theorem JS.s {k : Nat} {M0 M : ZM} (h : JS k M0 M) (hk : k < 10) {f κ n : Nat} (ef : f = m9f k) (ek : κ = m9k k) (el : n = m9l k) : JS (k + 1) M0 (zsR (zNw M κ n) 670 f (some (zN M))) ∧ zI (zsR (zNw M κ n) 670 f (some (zN M))) 670 = zI M 670 ∧ ∀ p, p ≠ f → zR (zsR (zNw M κ n) 670 f (some (zN M))) 670 p = zR M 670 p := by
  subst ef ek el
  obtain ⟨b1, b2, b3, b4⟩ := h
  obtain ⟨a1, a2, a3, ⟨a4, a5, a6⟩, a7, a8, a9⟩ := A_sk (M := M) (b := 670) (κ := 12) (κ9 := m9k k) (s := m9f k) (n := m9l k) (v := zN M) b2 rfl
  refine ⟨⟨b1.tr a2, a3, a1.trans (by omega), fun q hq => ?_⟩, (a9 670 12 b2).2.2, a8⟩
  by_cases z : q = k
  · subst z
    rw [← b3]
    exact ⟨a7, a4, a5, a6⟩
  · obtain ⟨c1, c2, c3, c4⟩ := b4 q (by omega)
    obtain ⟨d1, d2, d3⟩ := a9 _ _ c2
    exact ⟨(a8 _ (m9f_i k hk q (by omega))).trans c1, d1, d2.trans c3, d3.trans c4⟩
theorem JS.r {k f : Nat} {M0 M : ZM} {v : Option Nat} (h : JS k M0 M) (hf : ∀ q, q < k → m9f q ≠ f) : JS k M0 (zsR M 670 f v) := by
  obtain ⟨b1, b2, b3, b4⟩ := h
  refine ⟨b1.tr (UB.r (Nat.le_refl _)), b2, b3, fun q hq => ?_⟩
  obtain ⟨c1, c2, c3, c4⟩ := b4 q hq
  exact ⟨(up2_m _ _ _ _ _ (hf q hq)).trans c1, c2, c3, c4⟩
theorem JS.i {k f : Nat} {M0 M : ZM} {v : Int} (h : JS k M0 M) : JS k M0 (zsI M 670 f v) := by
  obtain ⟨b1, b2, b3, b4⟩ := h
  refine ⟨b1.tr (UB.i (Nat.le_refl _)), b2, b3, fun q hq => ?_⟩
  obtain ⟨c1, c2, c3, c4⟩ := b4 q hq
  exact ⟨c1, c2, c3, (zI_In _ _ _ (by omega)).trans c4⟩
theorem JS.ly {M0 M : ZM} (h : JS 10 M0 M) : LY M := by
  obtain ⟨b1, b2, b3, b4⟩ := h
  exact ⟨b2, (b4 0 (by omega)).1, (b4 0 (by omega)).2.1, (b4 0 (by omega)).2.2.1, (b4 1 (by omega)).1, (b4 1 (by omega)).2.1, (b4 1 (by omega)).2.2.1, (b4 2 (by omega)).1, (b4 2 (by omega)).2.1, (b4 2 (by omega)).2.2.1, (b4 3 (by omega)).1, (b4 3 (by omega)).2.1, (b4 3 (by omega)).2.2.1, (b4 4 (by omega)).1, (b4 4 (by omega)).2.1, (b4 4 (by omega)).2.2.1, (b4 5 (by omega)).1, (b4 5 (by omega)).2.1, (b4 5 (by omega)).2.2.1, (b4 6 (by omega)).1, (b4 6 (by omega)).2.1, (b4 6 (by omega)).2.2.1, (b4 7 (by omega)).1, (b4 7 (by omega)).2.1, (b4 7 (by omega)).2.2.1, (b4 8 (by omega)).1, (b4 8 (by omega)).2.1, (b4 8 (by omega)).2.2.1, (b4 9 (by omega)).1, (b4 9 (by omega)).2.1, (b4 9 (by omega)).2.2.1⟩


abbrev rm_X9_initB : Room := { frames := 1, cells := 10, slots := 6626, locals := 30 }
def cd_X9_initB : List (Nat × ZTr) := [(0, tAld 0 1), (1, tObj 4), (4, tAld 0 5), (5, tC (zi 516) 8), (8, tNewA 20 10), (10, tPutR 12 1 13), (13, tAld 0 14), (14, tC (zi 516) 17), (17, tNewA 20 19), (19, tPutR 12 2 22), (22, tAld 0 23), (23, tAld 0 24), (24, tGetR 12 1 27), (27, tPutR 12 3 30), (30, tAld 0 31), (31, tC (zi 516) 34), (34, tNewA 20 36), (36, tPutR 12 4 39), (39, tAld 0 40), (40, tC (zi 500) 43), (43, tNewA 21 45), (45, tPutR 12 5 48), (48, tAld 0 49), (49, tC (zi (-1)) 50), (50, tPutI 12 13 (fun _ => True) 53), (53, tAld 0 54), (54, tC (zi 24) 56), (56, tNewA 20 58), (58, tPutR 12 14 61), (61, tAld 0 62), (62, tC (zi 24) 64), (64, tNewA 22 66), (66, tPutR 12 15 69), (69, tAld 0 70), (70, tC (zi 1032) 73), (73, tNewA 20 75), (75, tPutR 12 16 78), (78, tAld 0 79), (79, tC (zi 2) 80), (80, tNewA 22 82), (82, tPutR 12 17 85), (85, tAld 0 86), (86, tC (zi 3096) 89), (89, tNewA 20 91), (91, tPutR 12 18 94), (94, tAld 0 95), (95, tC (zi 400) 98), (98, tNewA 21 100), (100, tPutR 12 20 103), (103, tAld 0 104), (104, tGetR 12 1 107), (107, tC (zi 1) 108), (108, tC (zi 10) 110), (110, tIas 20 (fun _ => True) 111), (111, tAld 0 112), (112, tGetR 12 1 115), (115, tC (zi 2) 116), (116, tC (zi 5) 117), (117, tIas 20 (fun _ => True) 118), (118, tRv)]
set_option maxRecDepth 100000 in
set_option maxHeartbeats 1500000 in
theorem hs_X9_initB {l : Launch} (hl : l.stackTraces = false) (p : Program) (e : Env) (s : State) (m : MethodId) (args : Array Value) (below : List Frame) (meth : Method) (c : Code) (D : va_G) (A : Nat → Prop) (a0 : Nat → Nat) (M0 : ZM) (K : ZRet) (KX : ZEx) (X : zCtx p l rm_X9_initB s m args meth c cX9_init RX9 (Cond.code yX9_init cX9_init 1 (Option.none : Option Jvm.ClassFile.FieldType) :: zG) 1 (Option.none : Option Jvm.ClassFile.FieldType) D A a0 M0 10 6626) (hnm : meth.name = yX9_init.name) (hout : ∀ x ∈ c.exceptionTable.toList, False) : ∀ q ∈ cd_X9_initB, zSd p l e rm_X9_initB s m args below meth c 1 D A a0 M0 K KX 10 6626 q.1 q.2 :=
    zall_c (zs_aload_n X (pc := 0) (q := 0) rfl (by decide +kernel)) <|
    zall_c (zs_objinit X (pc := 1) (.tail _ gw_7_214) (.tail _ gw_1_39) (.tail _ gw_1_40) (by decide) (by decide) (by decide +kernel)) <|
    zall_c (zs_aload_n X (pc := 4) (q := 0) rfl (by decide +kernel)) <|
    zall_c (zs_sipush X (pc := 5) (by decide) (by decide +kernel) (by decide +kernel)) <|
    zall_c (zs_newarray20 X (pc := 8) (.tail _ gw_1_85) (by decide +kernel)) <|
    zall_c (zs_putrF X (pc := 10) (ty := (Jvm.ClassFile.FieldType.array Jvm.ClassFile.FieldType.int)) zc_X9 (by decide) (zin ui_X9) tyX9_ok nmX9 (.tail _ gw_7_216) rfl hnm rfl (by decide +kernel) (by decide +kernel) (by decide +kernel) zP_arr) <|
    zall_c (zs_aload_n X (pc := 13) (q := 0) rfl (by decide +kernel)) <|
    zall_c (zs_sipush X (pc := 14) (by decide) (by decide +kernel) (by decide +kernel)) <|
    zall_c (zs_newarray20 X (pc := 17) (.tail _ gw_1_85) (by decide +kernel)) <|
    zall_c (zs_putrF X (pc := 19) (ty := (Jvm.ClassFile.FieldType.array Jvm.ClassFile.FieldType.int)) zc_X9 (by decide) (zin ui_X9) tyX9_ok nmX9 (.tail _ gw_7_217) rfl hnm rfl (by decide +kernel) (by decide +kernel) (by decide +kernel) zP_arr) <|
    zall_c (zs_aload_n X (pc := 22) (q := 0) rfl (by decide +kernel)) <|
    zall_c (zs_aload_n X (pc := 23) (q := 0) rfl (by decide +kernel)) <|
    zall_c (zs_getr X (pc := 24) zc_X9 (by decide) (zin ui_X9) (.tail _ gw_7_216) (by decide +kernel) (by decide +kernel)) <|
    zall_c (zs_putr X (pc := 27) (ty := (Jvm.ClassFile.FieldType.array Jvm.ClassFile.FieldType.int)) zc_X9 (by decide) (zin ui_X9) tyX9_ok nmX9 (.tail _ gw_7_218) rfl (by decide +kernel) (by decide +kernel) (by decide +kernel) zP_arr) <|
    zall_c (zs_aload_n X (pc := 30) (q := 0) rfl (by decide +kernel)) <|
    zall_c (zs_sipush X (pc := 31) (by decide) (by decide +kernel) (by decide +kernel)) <|
    zall_c (zs_newarray20 X (pc := 34) (.tail _ gw_1_85) (by decide +kernel)) <|
    zall_c (zs_putrF X (pc := 36) (ty := (Jvm.ClassFile.FieldType.array Jvm.ClassFile.FieldType.int)) zc_X9 (by decide) (zin ui_X9) tyX9_ok nmX9 (.tail _ gw_7_219) rfl hnm rfl (by decide +kernel) (by decide +kernel) (by decide +kernel) zP_arr) <|
    zall_c (zs_aload_n X (pc := 39) (q := 0) rfl (by decide +kernel)) <|
    zall_c (zs_sipush X (pc := 40) (by decide) (by decide +kernel) (by decide +kernel)) <|
    zall_c (zs_newarray21 X (pc := 43) (.tail _ gw_1_86) (by decide +kernel)) <|
    zall_c (zs_putrF X (pc := 45) (ty := (Jvm.ClassFile.FieldType.array Jvm.ClassFile.FieldType.byte)) zc_X9 (by decide) (zin ui_X9) tyX9_ok nmX9 (.tail _ gw_7_220) rfl hnm rfl (by decide +kernel) (by decide +kernel) (by decide +kernel) zP_arr) <|
    zall_c (zs_aload_n X (pc := 48) (q := 0) rfl (by decide +kernel)) <|
    zall_c (zs_iconst X (pc := 49) (by decide) (by decide +kernel)) <|
    zall_c (zs_puti X (pc := 50) (ty := Jvm.ClassFile.FieldType.int) zc_X9 (by decide) (zin ui_X9) tyX9_ok nmX9 (.tail _ gw_7_228) rfl (by decide +kernel) (by decide +kernel) (by decide +kernel) zP_int) <|
    zall_c (zs_aload_n X (pc := 53) (q := 0) rfl (by decide +kernel)) <|
    zall_c (zs_bipush X (pc := 54) (by decide) (by decide +kernel) (by decide +kernel)) <|
    zall_c (zs_newarray20 X (pc := 56) (.tail _ gw_1_85) (by decide +kernel)) <|
    zall_c (zs_putrF X (pc := 58) (ty := (Jvm.ClassFile.FieldType.array Jvm.ClassFile.FieldType.int)) zc_X9 (by decide) (zin ui_X9) tyX9_ok nmX9 (.tail _ gw_7_229) rfl hnm rfl (by decide +kernel) (by decide +kernel) (by decide +kernel) zP_arr) <|
    zall_c (zs_aload_n X (pc := 61) (q := 0) rfl (by decide +kernel)) <|
    zall_c (zs_bipush X (pc := 62) (by decide) (by decide +kernel) (by decide +kernel)) <|
    zall_c (zs_newarray22 X (pc := 64) (.tail _ gw_2_118) (by decide +kernel)) <|
    zall_c (zs_putrF X (pc := 66) (ty := (Jvm.ClassFile.FieldType.array Jvm.ClassFile.FieldType.boolean)) zc_X9 (by decide) (zin ui_X9) tyX9_ok nmX9 (.tail _ gw_7_230) rfl hnm rfl (by decide +kernel) (by decide +kernel) (by decide +kernel) zP_arr) <|
    zall_c (zs_aload_n X (pc := 69) (q := 0) rfl (by decide +kernel)) <|
    zall_c (zs_sipush X (pc := 70) (by decide) (by decide +kernel) (by decide +kernel)) <|
    zall_c (zs_newarray20 X (pc := 73) (.tail _ gw_1_85) (by decide +kernel)) <|
    zall_c (zs_putrF X (pc := 75) (ty := (Jvm.ClassFile.FieldType.array Jvm.ClassFile.FieldType.int)) zc_X9 (by decide) (zin ui_X9) tyX9_ok nmX9 (.tail _ gw_7_231) rfl hnm rfl (by decide +kernel) (by decide +kernel) (by decide +kernel) zP_arr) <|
    zall_c (zs_aload_n X (pc := 78) (q := 0) rfl (by decide +kernel)) <|
    zall_c (zs_iconst X (pc := 79) (by decide) (by decide +kernel)) <|
    zall_c (zs_newarray22 X (pc := 80) (.tail _ gw_2_118) (by decide +kernel)) <|
    zall_c (zs_putrF X (pc := 82) (ty := (Jvm.ClassFile.FieldType.array Jvm.ClassFile.FieldType.boolean)) zc_X9 (by decide) (zin ui_X9) tyX9_ok nmX9 (.tail _ gw_7_232) rfl hnm rfl (by decide +kernel) (by decide +kernel) (by decide +kernel) zP_arr) <|
    zall_c (zs_aload_n X (pc := 85) (q := 0) rfl (by decide +kernel)) <|
    zall_c (zs_sipush X (pc := 86) (by decide) (by decide +kernel) (by decide +kernel)) <|
    zall_c (zs_newarray20 X (pc := 89) (.tail _ gw_1_85) (by decide +kernel)) <|
    zall_c (zs_putrF X (pc := 91) (ty := (Jvm.ClassFile.FieldType.array Jvm.ClassFile.FieldType.int)) zc_X9 (by decide) (zin ui_X9) tyX9_ok nmX9 (.tail _ gw_7_233) rfl hnm rfl (by decide +kernel) (by decide +kernel) (by decide +kernel) zP_arr) <|
    zall_c (zs_aload_n X (pc := 94) (q := 0) rfl (by decide +kernel)) <|
    zall_c (zs_sipush X (pc := 95) (by decide) (by decide +kernel) (by decide +kernel)) <|
    zall_c (zs_newarray21 X (pc := 98) (.tail _ gw_1_86) (by decide +kernel)) <|
    zall_c (zs_putrF X (pc := 100) (ty := (Jvm.ClassFile.FieldType.array Jvm.ClassFile.FieldType.byte)) zc_X9 (by decide) (zin ui_X9) tyX9_ok nmX9 (.tail _ gw_7_235) rfl hnm rfl (by decide +kernel) (by decide +kernel) (by decide +kernel) zP_arr) <|
    zall_c (zs_aload_n X (pc := 103) (q := 0) rfl (by decide +kernel)) <|
    zall_c (zs_getr X (pc := 104) zc_X9 (by decide) (zin ui_X9) (.tail _ gw_7_216) (by decide +kernel) (by decide +kernel)) <|
    zall_c (zs_iconst X (pc := 107) (by decide) (by decide +kernel)) <|
    zall_c (zs_bipush X (pc := 108) (by decide) (by decide +kernel) (by decide +kernel)) <|
    zall_c (zs_iastore20 X (pc := 110) (by decide +kernel)) <|
    zall_c (zs_aload_n X (pc := 111) (q := 0) rfl (by decide +kernel)) <|
    zall_c (zs_getr X (pc := 112) zc_X9 (by decide) (zin ui_X9) (.tail _ gw_7_216) (by decide +kernel) (by decide +kernel)) <|
    zall_c (zs_iconst X (pc := 115) (by decide) (by decide +kernel)) <|
    zall_c (zs_iconst X (pc := 116) (by decide) (by decide +kernel)) <|
    zall_c (zs_iastore20 X (pc := 117) (by decide +kernel)) <|
    zall_c (zs_vret X (pc := 118) rfl (by decide +kernel)) <|
    zall_n
theorem met_X9_initB {l : Launch} (hl : l.stackTraces = false) {T : ZTf} (bd : zBd (cd_X9_initB) 1 10 6626 T) : zMet l yX9_init (Cond.code yX9_init cX9_init 1 (Option.none : Option Jvm.ClassFile.FieldType) :: zG) rm_X9_initB 10 6626 T := zMet_of hl (by decide +kernel) rfl rfl rfl rfl (hs_X9_initB hl) bd

def T_X9_init : ZTf := fun av M K KX => av = [zo 670] ∧ zW M 670 12 ∧ zN M = 671 ∧ zI M 670 = (fun _ => 0) ∧ ∀ M' : ZM, UB 670 M M' → zN M' = 681 → LY M' → MA M' 671 → zI M' 671 = gNew → zI M' 678 = (fun _ => 0) → zI M' 670 13 = -1 → (∀ p, p ≠ 13 → zI M' 670 p = 0) → K none M'
set_option maxRecDepth 100000 in
set_option maxHeartbeats 1500000 in
theorem bd_X9_init : zBd (cd_X9_initB) 1 10 6626 T_X9_init := by
  rintro av M K KX hA0 hM ⟨rfl, hw, hn, hz, hK⟩
  refine ⟨rfl, fun Φ hΦ => ?_⟩
  have h103 : ∀ (M90 : ZM) (k n : Nat), JS 10 M M90 → (∀ p, p ≠ 13 → zI M90 670 p = 0) → zR M90 670 3 = some 671 → zI M90 670 13 = -1 → (k : Int) = 10 → (n : Int) = 6626 → Φ 103 [some (zo 670)] [] M90 k n := by
    intro M90 k n hS90 hz90 h3 h13 hk hn9
    have hw90 := hS90.2.1
    refine zGoR hΦ [] 400 (fun hL9 _ hM _ _ => ?_)
    obtain ⟨_⟩ : True := hL9
    refine ⟨hw90, _, (show zR M90 670 1 = some 671 from (hS90.2.2.2 0 (by omega)).1), ⟨⟨zixW (show zW M90 671 20 from (hS90.2.2.2 0 (by omega)).2.1) (show zLn M90 671 = 516 from (hS90.2.2.2 0 (by omega)).2.2.1) (i := 1) (by decide) (by decide), trivial⟩, ⟨hw90, _, (show zR M90 670 1 = some 671 from (hS90.2.2.2 0 (by omega)).1), ⟨⟨zixW (show zW M90 671 20 from (hS90.2.2.2 0 (by omega)).2.1) (show zLn M90 671 = 516 from (hS90.2.2.2 0 (by omega)).2.2.1) (i := 2) (by decide) (by decide), trivial⟩, (show K none (zsI (zsI M90 671 1 10) 671 2 5) from ?g484l1)⟩⟩⟩⟩
    case g484l1 =>
      have hly := hS90.ly
      obtain ⟨b1, b2, b3, b4⟩ := hS90
      have e49 := (b4 0 (by omega)).2.2.2
      have e56 := (b4 7 (by omega)).2.2.2
      have u : UB 670 M90 (zsI (zsI M90 671 1 10) 671 2 5) := (UB.i (by decide)).tr (UB.i (by decide))
      have e48 : zI (zsI (zsI M90 671 1 10) 671 2 5) 670 = zI M90 670 := (zI_In _ _ _ (by decide)).trans (zI_In _ _ _ (by decide))
      refine hK _ (b1.tr u) b3 (show LY _ from hly) ⟨h3, (b4 0 (by omega)).2.1, (b4 0 (by omega)).2.2.1⟩ (funext (fun x => ?_)) ?_ ((congrFun e48 13).trans h13) (fun p hp => (congrFun e48 p).trans (hz90 p hp))
      · have ex : zI M90 671 x = 0 := congrFun e49 x
        by_cases z2 : x = 2
        · subst z2; exact zI_Is _ _ _ _
        · refine (up2_m _ _ _ _ _ z2).trans ?_
          by_cases z1 : x = 1
          · subst z1; exact zI_Is _ _ _ _
          · refine (up2_m _ _ _ _ _ z1).trans (ex.trans ?_)
            show (0 : Int) = (if x = (2 : Int).toNat then 5 else if x = (1 : Int).toNat then 10 else if x = (0 : Int).toNat then 0 else 0)
            rw [if_neg (by omega), if_neg (by omega)]
            split <;> rfl
      · exact (zI_In _ _ _ (by decide)).trans ((zI_In _ _ _ (by decide)).trans e56)
  have h94 : ∀ (M90 : ZM) (k n : Nat), JS 9 M M90 → (∀ p, p ≠ 13 → zI M90 670 p = 0) → zR M90 670 3 = some 671 → zI M90 670 13 = -1 → (k : Int) = 9 → (n : Int) = 6226 → Φ 94 [some (zo 670)] [] M90 k n := by
    intro M90 k n hS90 hz90 h3 h13 hk hn9
    have hw90 := hS90.2.1
    refine zGoR hΦ [103] 400 (fun hL9 _ hM _ _ => ?_)
    obtain ⟨_⟩ : True := hL9
    refine ⟨⟨(by omega), (by omega), (by omega), (by omega)⟩, ⟨(zW.nw (κ' := 21) (n := 400) hw90), (show Φ 103 [some (zo 670)] [] (zsR (zNw M90 21 400) 670 20 (some (zN M90))) (k + 1) (n + 400) from ?g485l1)⟩⟩
    case g485l1 =>
      have q9 := hS90.s (f := 20) (κ := 21) (n := 400) (by decide) rfl rfl rfl
      exact h103 _ _ _ q9.1 (fun p hp => (congrFun q9.2.1 p).trans (hz90 p hp)) ((q9.2.2 3 (by decide)).trans h3) ((congrFun q9.2.1 13).trans h13) (by omega) (by omega)
  have h85 : ∀ (M90 : ZM) (k n : Nat), JS 8 M M90 → (∀ p, p ≠ 13 → zI M90 670 p = 0) → zR M90 670 3 = some 671 → zI M90 670 13 = -1 → (k : Int) = 8 → (n : Int) = 3130 → Φ 85 [some (zo 670)] [] M90 k n := by
    intro M90 k n hS90 hz90 h3 h13 hk hn9
    have hw90 := hS90.2.1
    refine zGoR hΦ [94] 400 (fun hL9 _ hM _ _ => ?_)
    obtain ⟨_⟩ : True := hL9
    refine ⟨⟨(by omega), (by omega), (by omega), (by omega)⟩, ⟨(zW.nw (κ' := 20) (n := 3096) hw90), (show Φ 94 [some (zo 670)] [] (zsR (zNw M90 20 3096) 670 18 (some (zN M90))) (k + 1) (n + 3096) from ?g486l1)⟩⟩
    case g486l1 =>
      have q9 := hS90.s (f := 18) (κ := 20) (n := 3096) (by decide) rfl rfl rfl
      exact h94 _ _ _ q9.1 (fun p hp => (congrFun q9.2.1 p).trans (hz90 p hp)) ((q9.2.2 3 (by decide)).trans h3) ((congrFun q9.2.1 13).trans h13) (by omega) (by omega)
  have h78 : ∀ (M90 : ZM) (k n : Nat), JS 7 M M90 → (∀ p, p ≠ 13 → zI M90 670 p = 0) → zR M90 670 3 = some 671 → zI M90 670 13 = -1 → (k : Int) = 7 → (n : Int) = 3128 → Φ 78 [some (zo 670)] [] M90 k n := by
    intro M90 k n hS90 hz90 h3 h13 hk hn9
    have hw90 := hS90.2.1
    refine zGoR hΦ [85] 400 (fun hL9 _ hM _ _ => ?_)
    obtain ⟨_⟩ : True := hL9
    refine ⟨⟨(by omega), (by omega), (by omega), (by omega)⟩, ⟨(zW.nw (κ' := 22) (n := 2) hw90), (show Φ 85 [some (zo 670)] [] (zsR (zNw M90 22 2) 670 17 (some (zN M90))) (k + 1) (n + 2) from ?g487l1)⟩⟩
    case g487l1 =>
      have q9 := hS90.s (f := 17) (κ := 22) (n := 2) (by decide) rfl rfl rfl
      exact h85 _ _ _ q9.1 (fun p hp => (congrFun q9.2.1 p).trans (hz90 p hp)) ((q9.2.2 3 (by decide)).trans h3) ((congrFun q9.2.1 13).trans h13) (by omega) (by omega)
  have h69 : ∀ (M90 : ZM) (k n : Nat), JS 6 M M90 → (∀ p, p ≠ 13 → zI M90 670 p = 0) → zR M90 670 3 = some 671 → zI M90 670 13 = -1 → (k : Int) = 6 → (n : Int) = 2096 → Φ 69 [some (zo 670)] [] M90 k n := by
    intro M90 k n hS90 hz90 h3 h13 hk hn9
    have hw90 := hS90.2.1
    refine zGoR hΦ [78] 400 (fun hL9 _ hM _ _ => ?_)
    obtain ⟨_⟩ : True := hL9
    refine ⟨⟨(by omega), (by omega), (by omega), (by omega)⟩, ⟨(zW.nw (κ' := 20) (n := 1032) hw90), (show Φ 78 [some (zo 670)] [] (zsR (zNw M90 20 1032) 670 16 (some (zN M90))) (k + 1) (n + 1032) from ?g488l1)⟩⟩
    case g488l1 =>
      have q9 := hS90.s (f := 16) (κ := 20) (n := 1032) (by decide) rfl rfl rfl
      exact h78 _ _ _ q9.1 (fun p hp => (congrFun q9.2.1 p).trans (hz90 p hp)) ((q9.2.2 3 (by decide)).trans h3) ((congrFun q9.2.1 13).trans h13) (by omega) (by omega)
  have h61 : ∀ (M90 : ZM) (k n : Nat), JS 5 M M90 → (∀ p, p ≠ 13 → zI M90 670 p = 0) → zR M90 670 3 = some 671 → zI M90 670 13 = -1 → (k : Int) = 5 → (n : Int) = 2072 → Φ 61 [some (zo 670)] [] M90 k n := by
    intro M90 k n hS90 hz90 h3 h13 hk hn9
    have hw90 := hS90.2.1
    refine zGoR hΦ [69] 400 (fun hL9 _ hM _ _ => ?_)
    obtain ⟨_⟩ : True := hL9
    refine ⟨⟨(by omega), (by omega), (by omega), (by omega)⟩, ⟨(zW.nw (κ' := 22) (n := 24) hw90), (show Φ 69 [some (zo 670)] [] (zsR (zNw M90 22 24) 670 15 (some (zN M90))) (k + 1) (n + 24) from ?g489l1)⟩⟩
    case g489l1 =>
      have q9 := hS90.s (f := 15) (κ := 22) (n := 24) (by decide) rfl rfl rfl
      exact h69 _ _ _ q9.1 (fun p hp => (congrFun q9.2.1 p).trans (hz90 p hp)) ((q9.2.2 3 (by decide)).trans h3) ((congrFun q9.2.1 13).trans h13) (by omega) (by omega)
  have h53 : ∀ (M90 : ZM) (k n : Nat), JS 4 M M90 → (∀ p, p ≠ 13 → zI M90 670 p = 0) → zR M90 670 3 = some 671 → zI M90 670 13 = -1 → (k : Int) = 4 → (n : Int) = 2048 → Φ 53 [some (zo 670)] [] M90 k n := by
    intro M90 k n hS90 hz90 h3 h13 hk hn9
    have hw90 := hS90.2.1
    refine zGoR hΦ [61] 400 (fun hL9 _ hM _ _ => ?_)
    obtain ⟨_⟩ : True := hL9
    refine ⟨⟨(by omega), (by omega), (by omega), (by omega)⟩, ⟨(zW.nw (κ' := 20) (n := 24) hw90), (show Φ 61 [some (zo 670)] [] (zsR (zNw M90 20 24) 670 14 (some (zN M90))) (k + 1) (n + 24) from ?g490l1)⟩⟩
    case g490l1 =>
      have q9 := hS90.s (f := 14) (κ := 20) (n := 24) (by decide) rfl rfl rfl
      exact h61 _ _ _ q9.1 (fun p hp => (congrFun q9.2.1 p).trans (hz90 p hp)) ((q9.2.2 3 (by decide)).trans h3) ((congrFun q9.2.1 13).trans h13) (by omega) (by omega)
  have h48 : ∀ (M90 : ZM) (k n : Nat), JS 4 M M90 → (∀ p, p ≠ 13 → zI M90 670 p = 0) → zR M90 670 3 = some 671 → (k : Int) = 4 → (n : Int) = 2048 → Φ 48 [some (zo 670)] [] M90 k n := by
    intro M90 k n hS90 hz90 h3 hk hn9
    have hw90 := hS90.2.1
    refine zGoR hΦ [53] 400 (fun hL9 _ hM _ _ => ?_)
    obtain ⟨_⟩ : True := hL9
    refine ⟨⟨hw90, trivial⟩, (show Φ 53 [some (zo 670)] [] (zsI M90 670 13 (-1)) (k) (n) from ?g491l1)⟩
    case g491l1 =>
      exact h53 _ _ _ hS90.i (fun p hp => (up2_m _ _ _ _ _ hp).trans (hz90 p hp)) h3 (zI_Is _ _ _ _) (by omega) (by omega)
  have h39 : ∀ (M90 : ZM) (k n : Nat), JS 3 M M90 → (∀ p, p ≠ 13 → zI M90 670 p = 0) → zR M90 670 3 = some 671 → (k : Int) = 3 → (n : Int) = 1548 → Φ 39 [some (zo 670)] [] M90 k n := by
    intro M90 k n hS90 hz90 h3 hk hn9
    have hw90 := hS90.2.1
    refine zGoR hΦ [48] 400 (fun hL9 _ hM _ _ => ?_)
    obtain ⟨_⟩ : True := hL9
    refine ⟨⟨(by omega), (by omega), (by omega), (by omega)⟩, ⟨(zW.nw (κ' := 21) (n := 500) hw90), (show Φ 48 [some (zo 670)] [] (zsR (zNw M90 21 500) 670 5 (some (zN M90))) (k + 1) (n + 500) from ?g492l1)⟩⟩
    case g492l1 =>
      have q9 := hS90.s (f := 5) (κ := 21) (n := 500) (by decide) rfl rfl rfl
      exact h48 _ _ _ q9.1 (fun p hp => (congrFun q9.2.1 p).trans (hz90 p hp)) ((q9.2.2 3 (by decide)).trans h3) (by omega) (by omega)
  have h30 : ∀ (M90 : ZM) (k n : Nat), JS 2 M M90 → (∀ p, p ≠ 13 → zI M90 670 p = 0) → zR M90 670 3 = some 671 → (k : Int) = 2 → (n : Int) = 1032 → Φ 30 [some (zo 670)] [] M90 k n := by
    intro M90 k n hS90 hz90 h3 hk hn9
    have hw90 := hS90.2.1
    refine zGoR hΦ [39] 400 (fun hL9 _ hM _ _ => ?_)
    obtain ⟨_⟩ : True := hL9
    refine ⟨⟨(by omega), (by omega), (by omega), (by omega)⟩, ⟨(zW.nw (κ' := 20) (n := 516) hw90), (show Φ 39 [some (zo 670)] [] (zsR (zNw M90 20 516) 670 4 (some (zN M90))) (k + 1) (n + 516) from ?g493l1)⟩⟩
    case g493l1 =>
      have q9 := hS90.s (f := 4) (κ := 20) (n := 516) (by decide) rfl rfl rfl
      exact h39 _ _ _ q9.1 (fun p hp => (congrFun q9.2.1 p).trans (hz90 p hp)) ((q9.2.2 3 (by decide)).trans h3) (by omega) (by omega)
  have h22 : ∀ (M90 : ZM) (k n : Nat), JS 2 M M90 → (∀ p, p ≠ 13 → zI M90 670 p = 0) → (k : Int) = 2 → (n : Int) = 1032 → Φ 22 [some (zo 670)] [] M90 k n := by
    intro M90 k n hS90 hz90 hk hn9
    have hw90 := hS90.2.1
    refine zGoR hΦ [30] 400 (fun hL9 _ hM _ _ => ?_)
    obtain ⟨_⟩ : True := hL9
    refine ⟨hw90, _, (show zR M90 670 1 = some 671 from (hS90.2.2.2 0 (by omega)).1), ⟨hw90, (show Φ 30 [some (zo 670)] [] (zsR M90 670 3 (some 671)) (k) (n) from ?g494l1)⟩⟩
    case g494l1 =>
      exact h30 _ _ _ (hS90.r (by decide)) hz90 (show up2 (zR M90) 670 3 (some 671) 670 3 = some 671 from up2_s _ _ _ _) (by omega) (by omega)
  have h13 : ∀ (M90 : ZM) (k n : Nat), JS 1 M M90 → (∀ p, p ≠ 13 → zI M90 670 p = 0) → (k : Int) = 1 → (n : Int) = 516 → Φ 13 [some (zo 670)] [] M90 k n := by
    intro M90 k n hS90 hz90 hk hn9
    have hw90 := hS90.2.1
    refine zGoR hΦ [22] 400 (fun hL9 _ hM _ _ => ?_)
    obtain ⟨_⟩ : True := hL9
    refine ⟨⟨(by omega), (by omega), (by omega), (by omega)⟩, ⟨(zW.nw (κ' := 20) (n := 516) hw90), (show Φ 22 [some (zo 670)] [] (zsR (zNw M90 20 516) 670 2 (some (zN M90))) (k + 1) (n + 516) from ?g495l1)⟩⟩
    case g495l1 =>
      have q9 := hS90.s (f := 2) (κ := 20) (n := 516) (by decide) rfl rfl rfl
      exact h22 _ _ _ q9.1 (fun p hp => (congrFun q9.2.1 p).trans (hz90 p hp)) (by omega) (by omega)
  have h0 : ∀ (M90 : ZM) (k n : Nat), JS 0 M M90 → (∀ p, p ≠ 13 → zI M90 670 p = 0) → (k : Int) = 0 → (n : Int) = 0 → Φ 0 [some (zo 670)] [] M90 k n := by
    intro M90 k n hS90 hz90 hk hn9
    have hw90 := hS90.2.1
    refine zGoR hΦ [13] 400 (fun hL9 _ hM _ _ => ?_)
    obtain ⟨_⟩ : True := hL9
    refine ⟨(Nat.le_of_ble_eq_true rfl), ⟨⟨(by omega), (by omega), (by omega), (by omega)⟩, ⟨(zW.nw (κ' := 20) (n := 516) hw90), (show Φ 13 [some (zo 670)] [] (zsR (zNw M90 20 516) 670 1 (some (zN M90))) (k + 1) (n + 516) from ?g496l1)⟩⟩⟩
    case g496l1 =>
      have q9 := hS90.s (f := 1) (κ := 20) (n := 516) (by decide) rfl rfl rfl
      exact h13 _ _ _ q9.1 (fun p hp => (congrFun q9.2.1 p).trans (hz90 p hp)) (by omega) (by omega)
  exact h0 M 0 0 ⟨UB.rf, hw, hn, fun q hq => absurd hq (Nat.not_lt_zero _)⟩ (fun p _ => congrFun hz p) rfl rfl
theorem M_X9_init {l : Launch} (hl : l.stackTraces = false) : zMet l yX9_init (Cond.code yX9_init cX9_init 1 (Option.none : Option Jvm.ClassFile.FieldType) :: zG) rm_X9_initB 10 6626 T_X9_init := met_X9_initB hl bd_X9_init
