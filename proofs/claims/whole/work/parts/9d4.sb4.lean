/-! the law: the wrappers, second -/
theorem gw_6_84 : Cond.code yX8_isBarred cX8_isBarred 3 (Option.some Jvm.ClassFile.FieldType.boolean) ∈ zG := zGt6 (List.mem_of_getElem? (i := 84) (by rfl)) rfl
theorem gw_6_81 : Cond.methodLink RL 63 yX8_isBarred ∈ zG := zGt6 (List.mem_of_getElem? (i := 81) (by rfl)) rfl
theorem gw_6_82 : Cond.instanceMethod yX8_isBarred ∈ zG := zGt6 (List.mem_of_getElem? (i := 82) (by rfl)) rfl
theorem gw_6_83 : Cond.selects RX8 yX8_isBarred yX8_isBarred ∈ zG := zGt6 (List.mem_of_getElem? (i := 83) (by rfl)) rfl
def hd_L_isBarred (x : Nat) : Option (Nat × Nat) := if x = 0 then some (22, 4) else none
theorem hHd_L_isBarred : zHd cL_isBarred 5 5 [(0, 17, 20, 29)] hd_L_isBarred := by
  intro x h i q
  by_cases e0 : x = 0
  · subst e0
    have q' : some (22, 4) = some (h, i) := q
    cases q'
    exact ⟨by decide, 20, rfl, Or.inl ⟨by decide +kernel, rfl⟩⟩
  unfold hd_L_isBarred at q
  rw [if_neg e0] at q
  cases q

abbrev rm_L_isBarred : Room := { frames := 8, cells := 2, slots := 12, locals := 133 }
def cd_L_isBarred (T0 : ZTf) : List (Nat × ZTr) := [(0, tAld 3 1), (1, tC (zi 0) 2), (2, tAld 0 3), (3, tIld 1 4), (4, tIld 2 5), (5, tCallH 3 2 12 T0 (zRcv 11) hd_L_isBarred 8), (8, tIf_eq 15 11), (11, tC (zl 1) 12), (12, tGo 16), (15, tC (zl 0) 16), (16, tLas 17), (17, tGo 24), (22, tC (zi 1) 23), (23, tRi (fun _ => True)), (24, tC (zi 0) 25), (25, tRi (fun _ => True))]
set_option maxRecDepth 100000 in
set_option maxHeartbeats 1500000 in
theorem hs_L_isBarred {l : Launch} (hl : l.stackTraces = false) {T0 : ZTf} (h0 : zMet l yX8_isBarred (Cond.code yX8_isBarred cX8_isBarred 3 (Option.some Jvm.ClassFile.FieldType.boolean) :: zG) rm_X8_isBarred 2 12 T0) (p : Program) (e : Env) (s : State) (m : MethodId) (args : Array Value) (below : List Frame) (meth : Method) (c : Code) (D : va_G) (A : Nat → Prop) (a0 : Nat → Nat) (M0 : ZM) (K : ZRet) (KX : ZEx) (X : zCtx p l rm_L_isBarred s m args meth c cL_isBarred RL (Cond.codeWith yL_isBarred cL_isBarred 5 (Option.some Jvm.ClassFile.FieldType.int) [(0, 17, 20, 29)] :: zG) 5 (Option.some Jvm.ClassFile.FieldType.int) D A a0 M0 2 12) (htab : c.exceptionTable.toList = tableOf [(0, 17, 20, 29)]) (hNc : zNc0 s) : ∀ q ∈ cd_L_isBarred T0, zSd p l e rm_L_isBarred s m args below meth c 5 D A a0 M0 K KX 2 12 q.1 q.2 :=
  have hCx := zCx_of X (.tail _ gw_5_193) (.tail _ gw_5_164) (.tail _ gw_5_136) (.tail _ gw_7_174);
    zall_c (zs_aload_n X (pc := 0) (q := 3) rfl (by decide +kernel)) <|
    zall_c (zs_iconst X (pc := 1) (by decide) (by decide +kernel)) <|
    zall_c (zs_aload_n X (pc := 2) (q := 0) rfl (by decide +kernel)) <|
    zall_c (zs_iload_n X (pc := 3) (q := 1) rfl (by decide +kernel)) <|
    zall_c (zs_iload_n X (pc := 4) (q := 2) rfl (by decide +kernel)) <|
    zall_c (zs_callVH X (pc := 5) zc_X8 (fun _ ht => ⟨(zCB ht gw_6_84 gw_1_1 gw_6_81 rfl rfl (by decide +kernel) ⟨Nat.le_of_ble_eq_true rfl, Nat.le_of_ble_eq_true rfl⟩), ht _ (.tail _ gw_6_82), ht _ (.tail _ gw_6_83)⟩) h0 htab hCx hNc hHd_L_isBarred (by decide +kernel)) <|
    zall_c (zs_if_eq X (pc := 8) (off := 7) (by decide +kernel) (by decide)) <|
    zall_c (zs_lconst X (pc := 11) (q := 1) (by decide) (by decide +kernel) rfl) <|
    zall_c (zs_goto X (pc := 12) (off := 4) (by decide +kernel) (by decide)) <|
    zall_c (zs_lconst X (pc := 15) (q := 0) (by decide) (by decide +kernel) rfl) <|
    zall_c (zs_lastore X (pc := 16) (by decide +kernel)) <|
    zall_c (zs_goto X (pc := 17) (off := 7) (by decide +kernel) (by decide)) <|
    zall_c (zs_iconst X (pc := 22) (by decide) (by decide +kernel)) <|
    zall_c (zs_iret X (pc := 23) rfl (by decide +kernel)) <|
    zall_c (zs_iconst X (pc := 24) (by decide) (by decide +kernel)) <|
    zall_c (zs_iret X (pc := 25) rfl (by decide +kernel)) <|
    zall_n
theorem met_L_isBarred {l : Launch} (hl : l.stackTraces = false) {T0 : ZTf} (h0 : zMet l yX8_isBarred (Cond.code yX8_isBarred cX8_isBarred 3 (Option.some Jvm.ClassFile.FieldType.boolean) :: zG) rm_X8_isBarred 2 12 T0) {T : List ZV → ZM → ZRet → Prop} (bd : zBdW (cd_L_isBarred T0) 5 2 12 T) : zMetW l yL_isBarred (Cond.codeWith yL_isBarred cL_isBarred 5 (Option.some Jvm.ClassFile.FieldType.int) [(0, 17, 20, 29)] :: zG) rm_L_isBarred 2 12 T := zMetW_of hl (by decide +kernel) rfl rfl rfl rfl (hs_L_isBarred hl h0) bd

def T_L_isBarred : List ZV → ZM → ZRet → Prop := fun av M K => ∃ (G : Gm) (a b : Int), av = [zo 64, zi a, zi b, zo 681] ∧ (zW M 681 23 ∧ zLn M 681 = 1) ∧ (LV M) ∧ (TR M 129 G) ∧ (GI G) ∧ (GV G) ∧ (GX G) ∧  ((c_isBarred G a b = 0) → K (some (zi 0)) (zsI M 681 0 (b2i (v_isBarred G a b)))) ∧ ((c_isBarred G a b = 1) → K (some (zi 1)) M)
set_option maxRecDepth 100000 in
set_option maxHeartbeats 1500000 in
theorem bd_L_isBarred : zBdW (cd_L_isBarred T_X8_isBarred) 5 2 12 T_L_isBarred := by
  rintro av M K hA0 hM ⟨G, a, b, rfl, hOut, hL, hT, hG, hV9, hX9, hK, hX0⟩
  refine ⟨rfl, fun Φ hΦ => ?_⟩
  refine zGoR hΦ [] 400 (fun hL9 _ hM _ _ => ?_)
  obtain ⟨qL1, qL2, _⟩ : zrg a ∧ zrg b ∧ True := hL9
  refine ⟨⟨(by decide), (by decide)⟩, ⟨⟨rfl, rfl⟩, hL.w.rcv⟩, ⟨G, a, b, rfl, hL, hT, hG, hV9, hX9, fun (qc3 : c_isBarred G a b = 0) => fun (qg1 : zrg (b2i (v_isBarred G a b))) qm2 => ⟨fun h => (have qc4 : (v_isBarred G a b) = false := b2i_e0 h; ⟨zixW hOut.1 hOut.2 (i := 0) (by decide) (by decide), ⟨trivial, (show K (some (zi 0)) (zsI M 681 0 0) from ?g512l1)⟩⟩), fun h => (have qc5 : (v_isBarred G a b) = true := b2i_n0 h; ⟨zixW hOut.1 hOut.2 (i := 0) (by decide) (by decide), ⟨trivial, (show K (some (zi 0)) (zsI M 681 0 1) from ?g512l2)⟩⟩)⟩, fun (qc6 : c_isBarred G a b = 1) => (fun _ => ⟨22, 4, rfl, ⟨trivial, (hX0 (by assumption))⟩⟩)⟩⟩
  case g512l1 =>
    have h9 := hK qc3
    rw [qc4] at h9
    exact h9
  case g512l2 =>
    have h9 := hK qc3
    rw [qc5] at h9
    exact h9

theorem M_L_isBarred {l : Launch} (hl : l.stackTraces = false) : zMetW l yL_isBarred (Cond.codeWith yL_isBarred cL_isBarred 5 (Option.some Jvm.ClassFile.FieldType.int) [(0, 17, 20, 29)] :: zG) rm_L_isBarred 2 12 T_L_isBarred := met_L_isBarred hl (M_X8_isBarred hl) bd_L_isBarred

theorem gw_6_92 : Cond.code yX8_agreeing cX8_agreeing 3 (Option.some Jvm.ClassFile.FieldType.int) ∈ zG := zGt6 (List.mem_of_getElem? (i := 92) (by rfl)) rfl
theorem gw_6_89 : Cond.methodLink RL 67 yX8_agreeing ∈ zG := zGt6 (List.mem_of_getElem? (i := 89) (by rfl)) rfl
theorem gw_6_90 : Cond.instanceMethod yX8_agreeing ∈ zG := zGt6 (List.mem_of_getElem? (i := 90) (by rfl)) rfl
theorem gw_6_91 : Cond.selects RX8 yX8_agreeing yX8_agreeing ∈ zG := zGt6 (List.mem_of_getElem? (i := 91) (by rfl)) rfl
def hd_L_agreeing (x : Nat) : Option (Nat × Nat) := if x = 0 then some (15, 4) else none
theorem hHd_L_agreeing : zHd cL_agreeing 5 5 [(0, 10, 13, 29)] hd_L_agreeing := by
  intro x h i q
  by_cases e0 : x = 0
  · subst e0
    have q' : some (15, 4) = some (h, i) := q
    cases q'
    exact ⟨by decide, 13, rfl, Or.inl ⟨by decide +kernel, rfl⟩⟩
  unfold hd_L_agreeing at q
  rw [if_neg e0] at q
  cases q

abbrev rm_L_agreeing : Room := { frames := 8, cells := 2, slots := 12, locals := 144 }
def cd_L_agreeing (T0 : ZTf) : List (Nat × ZTr) := [(0, tAld 3 1), (1, tC (zi 0) 2), (2, tAld 0 3), (3, tIld 1 4), (4, tIld 2 5), (5, tCallH 3 2 12 T0 (zRcv 11) hd_L_agreeing 8), (8, tI2l 9), (9, tLas 10), (10, tGo 17), (15, tC (zi 1) 16), (16, tRi (fun _ => True)), (17, tC (zi 0) 18), (18, tRi (fun _ => True))]
set_option maxRecDepth 100000 in
set_option maxHeartbeats 1500000 in
theorem hs_L_agreeing {l : Launch} (hl : l.stackTraces = false) {T0 : ZTf} (h0 : zMet l yX8_agreeing (Cond.code yX8_agreeing cX8_agreeing 3 (Option.some Jvm.ClassFile.FieldType.int) :: zG) rm_X8_agreeing 2 12 T0) (p : Program) (e : Env) (s : State) (m : MethodId) (args : Array Value) (below : List Frame) (meth : Method) (c : Code) (D : va_G) (A : Nat → Prop) (a0 : Nat → Nat) (M0 : ZM) (K : ZRet) (KX : ZEx) (X : zCtx p l rm_L_agreeing s m args meth c cL_agreeing RL (Cond.codeWith yL_agreeing cL_agreeing 5 (Option.some Jvm.ClassFile.FieldType.int) [(0, 10, 13, 29)] :: zG) 5 (Option.some Jvm.ClassFile.FieldType.int) D A a0 M0 2 12) (htab : c.exceptionTable.toList = tableOf [(0, 10, 13, 29)]) (hNc : zNc0 s) : ∀ q ∈ cd_L_agreeing T0, zSd p l e rm_L_agreeing s m args below meth c 5 D A a0 M0 K KX 2 12 q.1 q.2 :=
  have hCx := zCx_of X (.tail _ gw_5_193) (.tail _ gw_5_164) (.tail _ gw_5_136) (.tail _ gw_7_174);
    zall_c (zs_aload_n X (pc := 0) (q := 3) rfl (by decide +kernel)) <|
    zall_c (zs_iconst X (pc := 1) (by decide) (by decide +kernel)) <|
    zall_c (zs_aload_n X (pc := 2) (q := 0) rfl (by decide +kernel)) <|
    zall_c (zs_iload_n X (pc := 3) (q := 1) rfl (by decide +kernel)) <|
    zall_c (zs_iload_n X (pc := 4) (q := 2) rfl (by decide +kernel)) <|
    zall_c (zs_callVH X (pc := 5) zc_X8 (fun _ ht => ⟨(zCB ht gw_6_92 gw_1_1 gw_6_89 rfl rfl (by decide +kernel) ⟨Nat.le_of_ble_eq_true rfl, Nat.le_of_ble_eq_true rfl⟩), ht _ (.tail _ gw_6_90), ht _ (.tail _ gw_6_91)⟩) h0 htab hCx hNc hHd_L_agreeing (by decide +kernel)) <|
    zall_c (zs_i2l X (pc := 8) (by decide +kernel)) <|
    zall_c (zs_lastore X (pc := 9) (by decide +kernel)) <|
    zall_c (zs_goto X (pc := 10) (off := 7) (by decide +kernel) (by decide)) <|
    zall_c (zs_iconst X (pc := 15) (by decide) (by decide +kernel)) <|
    zall_c (zs_iret X (pc := 16) rfl (by decide +kernel)) <|
    zall_c (zs_iconst X (pc := 17) (by decide) (by decide +kernel)) <|
    zall_c (zs_iret X (pc := 18) rfl (by decide +kernel)) <|
    zall_n
theorem met_L_agreeing {l : Launch} (hl : l.stackTraces = false) {T0 : ZTf} (h0 : zMet l yX8_agreeing (Cond.code yX8_agreeing cX8_agreeing 3 (Option.some Jvm.ClassFile.FieldType.int) :: zG) rm_X8_agreeing 2 12 T0) {T : List ZV → ZM → ZRet → Prop} (bd : zBdW (cd_L_agreeing T0) 5 2 12 T) : zMetW l yL_agreeing (Cond.codeWith yL_agreeing cL_agreeing 5 (Option.some Jvm.ClassFile.FieldType.int) [(0, 10, 13, 29)] :: zG) rm_L_agreeing 2 12 T := zMetW_of hl (by decide +kernel) rfl rfl rfl rfl (hs_L_agreeing hl h0) bd

def T_L_agreeing : List ZV → ZM → ZRet → Prop := fun av M K => ∃ (G : Gm) (a b : Int), av = [zo 64, zi a, zi b, zo 681] ∧ (zW M 681 23 ∧ zLn M 681 = 1) ∧ (LV M) ∧ (TR M 129 G) ∧ (GI G) ∧ (GV G) ∧ (GX G) ∧  ((c_agreeing G a b = 0) → K (some (zi 0)) (zsI M 681 0 (v_agreeing G a b))) ∧ ((c_agreeing G a b = 1) → K (some (zi 1)) M)
set_option maxRecDepth 100000 in
set_option maxHeartbeats 1500000 in
theorem bd_L_agreeing : zBdW (cd_L_agreeing T_X8_agreeing) 5 2 12 T_L_agreeing := by
  rintro av M K hA0 hM ⟨G, a, b, rfl, hOut, hL, hT, hG, hV9, hX9, hK, hX0⟩
  refine ⟨rfl, fun Φ hΦ => ?_⟩
  refine zGoR hΦ [] 400 (fun hL9 _ hM _ _ => ?_)
  obtain ⟨qL1, qL2, _⟩ : zrg a ∧ zrg b ∧ True := hL9
  refine ⟨⟨(by decide), (by decide)⟩, ⟨⟨rfl, rfl⟩, hL.w.rcv⟩, ⟨G, a, b, rfl, hL, hT, hG, hV9, hX9, fun (qc3 : c_agreeing G a b = 0) => fun (qg1 : zrg (v_agreeing G a b)) qm2 => ⟨zixW hOut.1 hOut.2 (i := 0) (by decide) (by decide), ⟨trivial, (show K (some (zi 0)) (zsI M 681 0 (v_agreeing G a b)) from ?g513l1)⟩⟩, fun (qc4 : c_agreeing G a b = 1) => (fun _ => ⟨15, 4, rfl, ⟨trivial, (hX0 (by assumption))⟩⟩)⟩⟩
  case g513l1 => exact hK qc3

theorem M_L_agreeing {l : Launch} (hl : l.stackTraces = false) : zMetW l yL_agreeing (Cond.codeWith yL_agreeing cL_agreeing 5 (Option.some Jvm.ClassFile.FieldType.int) [(0, 10, 13, 29)] :: zG) rm_L_agreeing 2 12 T_L_agreeing := met_L_agreeing hl (M_X8_agreeing hl) bd_L_agreeing

theorem gw_6_119 : Cond.code yX8_differing cX8_differing 3 (Option.some Jvm.ClassFile.FieldType.int) ∈ zG := zGt6 (List.mem_of_getElem? (i := 119) (by rfl)) rfl
theorem gw_6_116 : Cond.methodLink RL 70 yX8_differing ∈ zG := zGt6 (List.mem_of_getElem? (i := 116) (by rfl)) rfl
theorem gw_6_117 : Cond.instanceMethod yX8_differing ∈ zG := zGt6 (List.mem_of_getElem? (i := 117) (by rfl)) rfl
theorem gw_6_118 : Cond.selects RX8 yX8_differing yX8_differing ∈ zG := zGt6 (List.mem_of_getElem? (i := 118) (by rfl)) rfl
def hd_L_differing (x : Nat) : Option (Nat × Nat) := if x = 0 then some (15, 4) else none
theorem hHd_L_differing : zHd cL_differing 5 5 [(0, 10, 13, 29)] hd_L_differing := by
  intro x h i q
  by_cases e0 : x = 0
  · subst e0
    have q' : some (15, 4) = some (h, i) := q
    cases q'
    exact ⟨by decide, 13, rfl, Or.inl ⟨by decide +kernel, rfl⟩⟩
  unfold hd_L_differing at q
  rw [if_neg e0] at q
  cases q

abbrev rm_L_differing : Room := { frames := 8, cells := 2, slots := 12, locals := 144 }
def cd_L_differing (T0 : ZTf) : List (Nat × ZTr) := [(0, tAld 3 1), (1, tC (zi 0) 2), (2, tAld 0 3), (3, tIld 1 4), (4, tIld 2 5), (5, tCallH 3 2 12 T0 (zRcv 11) hd_L_differing 8), (8, tI2l 9), (9, tLas 10), (10, tGo 17), (15, tC (zi 1) 16), (16, tRi (fun _ => True)), (17, tC (zi 0) 18), (18, tRi (fun _ => True))]
set_option maxRecDepth 100000 in
set_option maxHeartbeats 1500000 in
theorem hs_L_differing {l : Launch} (hl : l.stackTraces = false) {T0 : ZTf} (h0 : zMet l yX8_differing (Cond.code yX8_differing cX8_differing 3 (Option.some Jvm.ClassFile.FieldType.int) :: zG) rm_X8_differing 2 12 T0) (p : Program) (e : Env) (s : State) (m : MethodId) (args : Array Value) (below : List Frame) (meth : Method) (c : Code) (D : va_G) (A : Nat → Prop) (a0 : Nat → Nat) (M0 : ZM) (K : ZRet) (KX : ZEx) (X : zCtx p l rm_L_differing s m args meth c cL_differing RL (Cond.codeWith yL_differing cL_differing 5 (Option.some Jvm.ClassFile.FieldType.int) [(0, 10, 13, 29)] :: zG) 5 (Option.some Jvm.ClassFile.FieldType.int) D A a0 M0 2 12) (htab : c.exceptionTable.toList = tableOf [(0, 10, 13, 29)]) (hNc : zNc0 s) : ∀ q ∈ cd_L_differing T0, zSd p l e rm_L_differing s m args below meth c 5 D A a0 M0 K KX 2 12 q.1 q.2 :=
  have hCx := zCx_of X (.tail _ gw_5_193) (.tail _ gw_5_164) (.tail _ gw_5_136) (.tail _ gw_7_174);
    zall_c (zs_aload_n X (pc := 0) (q := 3) rfl (by decide +kernel)) <|
    zall_c (zs_iconst X (pc := 1) (by decide) (by decide +kernel)) <|
    zall_c (zs_aload_n X (pc := 2) (q := 0) rfl (by decide +kernel)) <|
    zall_c (zs_iload_n X (pc := 3) (q := 1) rfl (by decide +kernel)) <|
    zall_c (zs_iload_n X (pc := 4) (q := 2) rfl (by decide +kernel)) <|
    zall_c (zs_callVH X (pc := 5) zc_X8 (fun _ ht => ⟨(zCB ht gw_6_119 gw_1_1 gw_6_116 rfl rfl (by decide +kernel) ⟨Nat.le_of_ble_eq_true rfl, Nat.le_of_ble_eq_true rfl⟩), ht _ (.tail _ gw_6_117), ht _ (.tail _ gw_6_118)⟩) h0 htab hCx hNc hHd_L_differing (by decide +kernel)) <|
    zall_c (zs_i2l X (pc := 8) (by decide +kernel)) <|
    zall_c (zs_lastore X (pc := 9) (by decide +kernel)) <|
    zall_c (zs_goto X (pc := 10) (off := 7) (by decide +kernel) (by decide)) <|
    zall_c (zs_iconst X (pc := 15) (by decide) (by decide +kernel)) <|
    zall_c (zs_iret X (pc := 16) rfl (by decide +kernel)) <|
    zall_c (zs_iconst X (pc := 17) (by decide) (by decide +kernel)) <|
    zall_c (zs_iret X (pc := 18) rfl (by decide +kernel)) <|
    zall_n
theorem met_L_differing {l : Launch} (hl : l.stackTraces = false) {T0 : ZTf} (h0 : zMet l yX8_differing (Cond.code yX8_differing cX8_differing 3 (Option.some Jvm.ClassFile.FieldType.int) :: zG) rm_X8_differing 2 12 T0) {T : List ZV → ZM → ZRet → Prop} (bd : zBdW (cd_L_differing T0) 5 2 12 T) : zMetW l yL_differing (Cond.codeWith yL_differing cL_differing 5 (Option.some Jvm.ClassFile.FieldType.int) [(0, 10, 13, 29)] :: zG) rm_L_differing 2 12 T := zMetW_of hl (by decide +kernel) rfl rfl rfl rfl (hs_L_differing hl h0) bd

def T_L_differing : List ZV → ZM → ZRet → Prop := fun av M K => ∃ (G : Gm) (a b : Int), av = [zo 64, zi a, zi b, zo 681] ∧ (zW M 681 23 ∧ zLn M 681 = 1) ∧ (LV M) ∧ (TR M 129 G) ∧ (GI G) ∧ (GV G) ∧ (GX G) ∧  ((c_differing G a b = 0) → K (some (zi 0)) (zsI M 681 0 (v_differing G a b))) ∧ ((c_differing G a b = 1) → K (some (zi 1)) M)
set_option maxRecDepth 100000 in
set_option maxHeartbeats 1500000 in
theorem bd_L_differing : zBdW (cd_L_differing T_X8_differing) 5 2 12 T_L_differing := by
  rintro av M K hA0 hM ⟨G, a, b, rfl, hOut, hL, hT, hG, hV9, hX9, hK, hX0⟩
  refine ⟨rfl, fun Φ hΦ => ?_⟩
  refine zGoR hΦ [] 400 (fun hL9 _ hM _ _ => ?_)
  obtain ⟨qL1, qL2, _⟩ : zrg a ∧ zrg b ∧ True := hL9
  refine ⟨⟨(by decide), (by decide)⟩, ⟨⟨rfl, rfl⟩, hL.w.rcv⟩, ⟨G, a, b, rfl, hL, hT, hG, hV9, hX9, fun (qc3 : c_differing G a b = 0) => fun (qg1 : zrg (v_differing G a b)) qm2 => ⟨zixW hOut.1 hOut.2 (i := 0) (by decide) (by decide), ⟨trivial, (show K (some (zi 0)) (zsI M 681 0 (v_differing G a b)) from ?g514l1)⟩⟩, fun (qc4 : c_differing G a b = 1) => (fun _ => ⟨15, 4, rfl, ⟨trivial, (hX0 (by assumption))⟩⟩)⟩⟩
  case g514l1 => exact hK qc3

theorem M_L_differing {l : Launch} (hl : l.stackTraces = false) : zMetW l yL_differing (Cond.codeWith yL_differing cL_differing 5 (Option.some Jvm.ClassFile.FieldType.int) [(0, 10, 13, 29)] :: zG) rm_L_differing 2 12 T_L_differing := met_L_differing hl (M_X8_differing hl) bd_L_differing

theorem gw_6_126 : Cond.code yX8_accuracy cX8_accuracy 7 (Option.some Jvm.ClassFile.FieldType.float) ∈ zG := zGt6 (List.mem_of_getElem? (i := 126) (by rfl)) rfl
theorem gw_6_123 : Cond.methodLink RL 73 yX8_accuracy ∈ zG := zGt6 (List.mem_of_getElem? (i := 123) (by rfl)) rfl
theorem gw_6_124 : Cond.instanceMethod yX8_accuracy ∈ zG := zGt6 (List.mem_of_getElem? (i := 124) (by rfl)) rfl
theorem gw_6_125 : Cond.selects RX8 yX8_accuracy yX8_accuracy ∈ zG := zGt6 (List.mem_of_getElem? (i := 125) (by rfl)) rfl
def hd_L_accuracy (x : Nat) : Option (Nat × Nat) := if x = 0 then some (13, 3) else none
theorem hHd_L_accuracy : zHd cL_accuracy 4 4 [(0, 9, 12, 29)] hd_L_accuracy := by
  intro x h i q
  by_cases e0 : x = 0
  · subst e0
    have q' : some (13, 3) = some (h, i) := q
    cases q'
    exact ⟨by decide, 12, rfl, Or.inr ⟨3, rfl, by decide +kernel, rfl⟩⟩
  unfold hd_L_accuracy at q
  rw [if_neg e0] at q
  cases q

abbrev rm_L_accuracy : Room := { frames := 8, cells := 1, slots := 6, locals := 137 }
def cd_L_accuracy (T0 : ZTf) : List (Nat × ZTr) := [(0, tAld 2 1), (1, tC (zi 0) 2), (2, tAld 0 3), (3, tIld 1 4), (4, tCallH 2 1 6 T0 (zRcv 11) hd_L_accuracy 7), (7, tF2d 8), (8, tDas 9), (9, tGo 15), (13, tC (zi 1) 14), (14, tRi (fun _ => True)), (15, tC (zi 0) 16), (16, tRi (fun _ => True))]
set_option maxRecDepth 100000 in
set_option maxHeartbeats 1500000 in
theorem hs_L_accuracy {l : Launch} (hl : l.stackTraces = false) {T0 : ZTf} (h0 : zMet l yX8_accuracy (Cond.code yX8_accuracy cX8_accuracy 7 (Option.some Jvm.ClassFile.FieldType.float) :: zG) rm_X8_accuracy 1 6 T0) (p : Program) (e : Env) (s : State) (m : MethodId) (args : Array Value) (below : List Frame) (meth : Method) (c : Code) (D : va_G) (A : Nat → Prop) (a0 : Nat → Nat) (M0 : ZM) (K : ZRet) (KX : ZEx) (X : zCtx p l rm_L_accuracy s m args meth c cL_accuracy RL (Cond.codeWith yL_accuracy cL_accuracy 4 (Option.some Jvm.ClassFile.FieldType.int) [(0, 9, 12, 29)] :: zG) 4 (Option.some Jvm.ClassFile.FieldType.int) D A a0 M0 1 6) (htab : c.exceptionTable.toList = tableOf [(0, 9, 12, 29)]) (hNc : zNc0 s) : ∀ q ∈ cd_L_accuracy T0, zSd p l e rm_L_accuracy s m args below meth c 4 D A a0 M0 K KX 1 6 q.1 q.2 :=
  have hCx := zCx_of X (.tail _ gw_5_193) (.tail _ gw_5_164) (.tail _ gw_5_136) (.tail _ gw_7_174);
    zall_c (zs_aload_n X (pc := 0) (q := 2) rfl (by decide +kernel)) <|
    zall_c (zs_iconst X (pc := 1) (by decide) (by decide +kernel)) <|
    zall_c (zs_aload_n X (pc := 2) (q := 0) rfl (by decide +kernel)) <|
    zall_c (zs_iload_n X (pc := 3) (q := 1) rfl (by decide +kernel)) <|
    zall_c (zs_callVH X (pc := 4) zc_X8 (fun _ ht => ⟨(zCB ht gw_6_126 gw_1_1 gw_6_123 rfl rfl (by decide +kernel) ⟨Nat.le_of_ble_eq_true rfl, Nat.le_of_ble_eq_true rfl⟩), ht _ (.tail _ gw_6_124), ht _ (.tail _ gw_6_125)⟩) h0 htab hCx hNc hHd_L_accuracy (by decide +kernel)) <|
    zall_c (zs_f2d X (pc := 7) (by decide +kernel)) <|
    zall_c (zs_dastore X (pc := 8) (by decide +kernel)) <|
    zall_c (zs_goto X (pc := 9) (off := 6) (by decide +kernel) (by decide)) <|
    zall_c (zs_iconst X (pc := 13) (by decide) (by decide +kernel)) <|
    zall_c (zs_iret X (pc := 14) rfl (by decide +kernel)) <|
    zall_c (zs_iconst X (pc := 15) (by decide) (by decide +kernel)) <|
    zall_c (zs_iret X (pc := 16) rfl (by decide +kernel)) <|
    zall_n
theorem met_L_accuracy {l : Launch} (hl : l.stackTraces = false) {T0 : ZTf} (h0 : zMet l yX8_accuracy (Cond.code yX8_accuracy cX8_accuracy 7 (Option.some Jvm.ClassFile.FieldType.float) :: zG) rm_X8_accuracy 1 6 T0) {T : List ZV → ZM → ZRet → Prop} (bd : zBdW (cd_L_accuracy T0) 4 1 6 T) : zMetW l yL_accuracy (Cond.codeWith yL_accuracy cL_accuracy 4 (Option.some Jvm.ClassFile.FieldType.int) [(0, 9, 12, 29)] :: zG) rm_L_accuracy 1 6 T := zMetW_of hl (by decide +kernel) rfl rfl rfl rfl (hs_L_accuracy hl h0) bd

def T_L_accuracy : List ZV → ZM → ZRet → Prop := fun av M K => ∃ (G : Gm) (w : Int), av = [zo 64, zi w, zo 682] ∧ (zW M 682 24 ∧ zLn M 682 = 1) ∧ (LV M) ∧ (TR M 129 G) ∧ (GI G) ∧ (GV G) ∧ (GX G) ∧  ((c_accuracy G w = 0) → K (some (zi 0)) (zsI M 682 0 ((FP.f2d (v_accuracy G w)).toNat : Int))) ∧ ((c_accuracy G w = 1) → K (some (zi 1)) M)
set_option maxRecDepth 100000 in
set_option maxHeartbeats 1500000 in
theorem bd_L_accuracy : zBdW (cd_L_accuracy T_X8_accuracy) 4 1 6 T_L_accuracy := by
  rintro av M K hA0 hM ⟨G, w, rfl, hOut, hL, hT, hG, hV9, hX9, hK, hX0⟩
  refine ⟨rfl, fun Φ hΦ => ?_⟩
  refine zGoR hΦ [] 400 (fun hL9 _ hM _ _ => ?_)
  obtain ⟨qL1, _⟩ : zrg w ∧ True := hL9
  refine ⟨⟨(by decide), (by decide)⟩, ⟨⟨rfl, rfl⟩, hL.w.rcv⟩, ⟨G, w, rfl, hL, hT, hG, hV9, hX9, fun (qc3 : c_accuracy G w = 0) => fun qg1 qm2 => ⟨?g515l1, ⟨zixW hOut.1 hOut.2 (i := 0) (by decide) (by decide), ⟨trivial, (show K (some (zi 0)) (zsI M 682 0 ((FP.f2d (v_accuracy G w)).toNat : Int)) from ?g515l2)⟩⟩⟩, fun (qc4 : c_accuracy G w = 1) => (fun _ => ⟨13, 3, rfl, ⟨trivial, (hX0 (by assumption))⟩⟩)⟩⟩
  case g515l1 => exact (vacc_ok hG).1
  case g515l2 => exact hK qc3

theorem M_L_accuracy {l : Launch} (hl : l.stackTraces = false) : zMetW l yL_accuracy (Cond.codeWith yL_accuracy cL_accuracy 4 (Option.some Jvm.ClassFile.FieldType.int) [(0, 9, 12, 29)] :: zG) rm_L_accuracy 1 6 T_L_accuracy := met_L_accuracy hl (M_X8_accuracy hl) bd_L_accuracy

theorem gw_6_135 : Cond.code yX8_risk cX8_risk 2 (Option.some Jvm.ClassFile.FieldType.int) ∈ zG := zGt6 (List.mem_of_getElem? (i := 135) (by rfl)) rfl
theorem gw_6_132 : Cond.methodLink RL 77 yX8_risk ∈ zG := zGt6 (List.mem_of_getElem? (i := 132) (by rfl)) rfl
theorem gw_6_133 : Cond.instanceMethod yX8_risk ∈ zG := zGt6 (List.mem_of_getElem? (i := 133) (by rfl)) rfl
theorem gw_6_134 : Cond.selects RX8 yX8_risk yX8_risk ∈ zG := zGt6 (List.mem_of_getElem? (i := 134) (by rfl)) rfl
def hd_L_risk (x : Nat) : Option (Nat × Nat) := if x = 0 then some (13, 3) else none
theorem hHd_L_risk : zHd cL_risk 4 4 [(0, 9, 12, 29)] hd_L_risk := by
  intro x h i q
  by_cases e0 : x = 0
  · subst e0
    have q' : some (13, 3) = some (h, i) := q
    cases q'
    exact ⟨by decide, 12, rfl, Or.inr ⟨3, rfl, by decide +kernel, rfl⟩⟩
  unfold hd_L_risk at q
  rw [if_neg e0] at q
  cases q

abbrev rm_L_risk : Room := { frames := 8, cells := 1, slots := 6, locals := 132 }
def cd_L_risk (T0 : ZTf) : List (Nat × ZTr) := [(0, tAld 2 1), (1, tC (zi 0) 2), (2, tAld 0 3), (3, tIld 1 4), (4, tCallH 2 1 6 T0 (zRcv 11) hd_L_risk 7), (7, tI2l 8), (8, tLas 9), (9, tGo 15), (13, tC (zi 1) 14), (14, tRi (fun _ => True)), (15, tC (zi 0) 16), (16, tRi (fun _ => True))]
set_option maxRecDepth 100000 in
set_option maxHeartbeats 1500000 in
theorem hs_L_risk {l : Launch} (hl : l.stackTraces = false) {T0 : ZTf} (h0 : zMet l yX8_risk (Cond.code yX8_risk cX8_risk 2 (Option.some Jvm.ClassFile.FieldType.int) :: zG) rm_X8_risk 1 6 T0) (p : Program) (e : Env) (s : State) (m : MethodId) (args : Array Value) (below : List Frame) (meth : Method) (c : Code) (D : va_G) (A : Nat → Prop) (a0 : Nat → Nat) (M0 : ZM) (K : ZRet) (KX : ZEx) (X : zCtx p l rm_L_risk s m args meth c cL_risk RL (Cond.codeWith yL_risk cL_risk 4 (Option.some Jvm.ClassFile.FieldType.int) [(0, 9, 12, 29)] :: zG) 4 (Option.some Jvm.ClassFile.FieldType.int) D A a0 M0 1 6) (htab : c.exceptionTable.toList = tableOf [(0, 9, 12, 29)]) (hNc : zNc0 s) : ∀ q ∈ cd_L_risk T0, zSd p l e rm_L_risk s m args below meth c 4 D A a0 M0 K KX 1 6 q.1 q.2 :=
  have hCx := zCx_of X (.tail _ gw_5_193) (.tail _ gw_5_164) (.tail _ gw_5_136) (.tail _ gw_7_174);
    zall_c (zs_aload_n X (pc := 0) (q := 2) rfl (by decide +kernel)) <|
    zall_c (zs_iconst X (pc := 1) (by decide) (by decide +kernel)) <|
    zall_c (zs_aload_n X (pc := 2) (q := 0) rfl (by decide +kernel)) <|
    zall_c (zs_iload_n X (pc := 3) (q := 1) rfl (by decide +kernel)) <|
    zall_c (zs_callVH X (pc := 4) zc_X8 (fun _ ht => ⟨(zCB ht gw_6_135 gw_1_1 gw_6_132 rfl rfl (by decide +kernel) ⟨Nat.le_of_ble_eq_true rfl, Nat.le_of_ble_eq_true rfl⟩), ht _ (.tail _ gw_6_133), ht _ (.tail _ gw_6_134)⟩) h0 htab hCx hNc hHd_L_risk (by decide +kernel)) <|
    zall_c (zs_i2l X (pc := 7) (by decide +kernel)) <|
    zall_c (zs_lastore X (pc := 8) (by decide +kernel)) <|
    zall_c (zs_goto X (pc := 9) (off := 6) (by decide +kernel) (by decide)) <|
    zall_c (zs_iconst X (pc := 13) (by decide) (by decide +kernel)) <|
    zall_c (zs_iret X (pc := 14) rfl (by decide +kernel)) <|
    zall_c (zs_iconst X (pc := 15) (by decide) (by decide +kernel)) <|
    zall_c (zs_iret X (pc := 16) rfl (by decide +kernel)) <|
    zall_n
theorem met_L_risk {l : Launch} (hl : l.stackTraces = false) {T0 : ZTf} (h0 : zMet l yX8_risk (Cond.code yX8_risk cX8_risk 2 (Option.some Jvm.ClassFile.FieldType.int) :: zG) rm_X8_risk 1 6 T0) {T : List ZV → ZM → ZRet → Prop} (bd : zBdW (cd_L_risk T0) 4 1 6 T) : zMetW l yL_risk (Cond.codeWith yL_risk cL_risk 4 (Option.some Jvm.ClassFile.FieldType.int) [(0, 9, 12, 29)] :: zG) rm_L_risk 1 6 T := zMetW_of hl (by decide +kernel) rfl rfl rfl rfl (hs_L_risk hl h0) bd

def T_L_risk : List ZV → ZM → ZRet → Prop := fun av M K => ∃ (G : Gm) (r : Int), av = [zo 64, zi r, zo 681] ∧ (zW M 681 23 ∧ zLn M 681 = 1) ∧ (LV M) ∧ (TR M 129 G) ∧ (GI G) ∧ (GV G) ∧ (GX G) ∧  ((c_risk G r = 0) → K (some (zi 0)) (zsI M 681 0 (v_risk G r))) ∧ ((c_risk G r = 1) → K (some (zi 1)) M)
set_option maxRecDepth 100000 in
set_option maxHeartbeats 1500000 in
theorem bd_L_risk : zBdW (cd_L_risk T_X8_risk) 4 1 6 T_L_risk := by
  rintro av M K hA0 hM ⟨G, r, rfl, hOut, hL, hT, hG, hV9, hX9, hK, hX0⟩
  refine ⟨rfl, fun Φ hΦ => ?_⟩
  refine zGoR hΦ [] 400 (fun hL9 _ hM _ _ => ?_)
  obtain ⟨qL1, _⟩ : zrg r ∧ True := hL9
  refine ⟨⟨(by decide), (by decide)⟩, ⟨⟨rfl, rfl⟩, hL.w.rcv⟩, ⟨G, r, rfl, hL, hT, hG, hV9, hX9, fun (qc3 : c_risk G r = 0) => fun (qg1 : zrg (v_risk G r)) qm2 => ⟨zixW hOut.1 hOut.2 (i := 0) (by decide) (by decide), ⟨trivial, (show K (some (zi 0)) (zsI M 681 0 (v_risk G r)) from ?g516l1)⟩⟩, fun (qc4 : c_risk G r = 1) => (fun _ => ⟨13, 3, rfl, ⟨trivial, (hX0 (by assumption))⟩⟩)⟩⟩
  case g516l1 => exact hK qc3

theorem M_L_risk {l : Launch} (hl : l.stackTraces = false) : zMetW l yL_risk (Cond.codeWith yL_risk cL_risk 4 (Option.some Jvm.ClassFile.FieldType.int) [(0, 9, 12, 29)] :: zG) rm_L_risk 1 6 T_L_risk := met_L_risk hl (M_X8_risk hl) bd_L_risk

theorem gw_6_143 : Cond.code yX8_lateIn cX8_lateIn 4 (Option.some Jvm.ClassFile.FieldType.int) ∈ zG := zGt6 (List.mem_of_getElem? (i := 143) (by rfl)) rfl
theorem gw_6_140 : Cond.methodLink RL 80 yX8_lateIn ∈ zG := zGt6 (List.mem_of_getElem? (i := 140) (by rfl)) rfl
theorem gw_6_141 : Cond.instanceMethod yX8_lateIn ∈ zG := zGt6 (List.mem_of_getElem? (i := 141) (by rfl)) rfl
theorem gw_6_142 : Cond.selects RX8 yX8_lateIn yX8_lateIn ∈ zG := zGt6 (List.mem_of_getElem? (i := 142) (by rfl)) rfl
def hd_L_lateIn (x : Nat) : Option (Nat × Nat) := if x = 1 then some (13, 3) else none
theorem hHd_L_lateIn : zHd cL_lateIn 4 4 [(0, 9, 12, 19)] hd_L_lateIn := by
  intro x h i q
  by_cases e1 : x = 1
  · subst e1
    have q' : some (13, 3) = some (h, i) := q
    cases q'
    exact ⟨by decide, 12, rfl, Or.inr ⟨3, rfl, by decide +kernel, rfl⟩⟩
  unfold hd_L_lateIn at q
  rw [if_neg e1] at q
  cases q

abbrev rm_L_lateIn : Room := { frames := 8, cells := 1, slots := 6, locals := 140 }
def cd_L_lateIn (T0 : ZTf) : List (Nat × ZTr) := [(0, tAld 2 1), (1, tC (zi 0) 2), (2, tAld 0 3), (3, tIld 1 4), (4, tCallH 2 1 6 T0 (zRcv 11) hd_L_lateIn 7), (7, tI2l 8), (8, tLas 9), (9, tGo 15), (13, tC (zi 1) 14), (14, tRi (fun _ => True)), (15, tC (zi 0) 16), (16, tRi (fun _ => True))]
set_option maxRecDepth 100000 in
set_option maxHeartbeats 1500000 in
theorem hs_L_lateIn {l : Launch} (hl : l.stackTraces = false) {T0 : ZTf} (h0 : zMet l yX8_lateIn (Cond.code yX8_lateIn cX8_lateIn 4 (Option.some Jvm.ClassFile.FieldType.int) :: zG) rm_X8_lateIn 1 6 T0) (p : Program) (e : Env) (s : State) (m : MethodId) (args : Array Value) (below : List Frame) (meth : Method) (c : Code) (D : va_G) (A : Nat → Prop) (a0 : Nat → Nat) (M0 : ZM) (K : ZRet) (KX : ZEx) (X : zCtx p l rm_L_lateIn s m args meth c cL_lateIn RL (Cond.codeWith yL_lateIn cL_lateIn 4 (Option.some Jvm.ClassFile.FieldType.int) [(0, 9, 12, 19)] :: zG) 4 (Option.some Jvm.ClassFile.FieldType.int) D A a0 M0 1 6) (htab : c.exceptionTable.toList = tableOf [(0, 9, 12, 19)]) (hNc : zNc0 s) : ∀ q ∈ cd_L_lateIn T0, zSd p l e rm_L_lateIn s m args below meth c 4 D A a0 M0 K KX 1 6 q.1 q.2 :=
  have hCx := zCx_of X (.tail _ gw_5_193) (.tail _ gw_5_164) (.tail _ gw_5_136) (.tail _ gw_7_174);
    zall_c (zs_aload_n X (pc := 0) (q := 2) rfl (by decide +kernel)) <|
    zall_c (zs_iconst X (pc := 1) (by decide) (by decide +kernel)) <|
    zall_c (zs_aload_n X (pc := 2) (q := 0) rfl (by decide +kernel)) <|
    zall_c (zs_iload_n X (pc := 3) (q := 1) rfl (by decide +kernel)) <|
    zall_c (zs_callVH X (pc := 4) zc_X8 (fun _ ht => ⟨(zCB ht gw_6_143 gw_1_1 gw_6_140 rfl rfl (by decide +kernel) ⟨Nat.le_of_ble_eq_true rfl, Nat.le_of_ble_eq_true rfl⟩), ht _ (.tail _ gw_6_141), ht _ (.tail _ gw_6_142)⟩) h0 htab hCx hNc hHd_L_lateIn (by decide +kernel)) <|
    zall_c (zs_i2l X (pc := 7) (by decide +kernel)) <|
    zall_c (zs_lastore X (pc := 8) (by decide +kernel)) <|
    zall_c (zs_goto X (pc := 9) (off := 6) (by decide +kernel) (by decide)) <|
    zall_c (zs_iconst X (pc := 13) (by decide) (by decide +kernel)) <|
    zall_c (zs_iret X (pc := 14) rfl (by decide +kernel)) <|
    zall_c (zs_iconst X (pc := 15) (by decide) (by decide +kernel)) <|
    zall_c (zs_iret X (pc := 16) rfl (by decide +kernel)) <|
    zall_n
theorem met_L_lateIn {l : Launch} (hl : l.stackTraces = false) {T0 : ZTf} (h0 : zMet l yX8_lateIn (Cond.code yX8_lateIn cX8_lateIn 4 (Option.some Jvm.ClassFile.FieldType.int) :: zG) rm_X8_lateIn 1 6 T0) {T : List ZV → ZM → ZRet → Prop} (bd : zBdW (cd_L_lateIn T0) 4 1 6 T) : zMetW l yL_lateIn (Cond.codeWith yL_lateIn cL_lateIn 4 (Option.some Jvm.ClassFile.FieldType.int) [(0, 9, 12, 19)] :: zG) rm_L_lateIn 1 6 T := zMetW_of hl (by decide +kernel) rfl rfl rfl rfl (hs_L_lateIn hl h0) bd

def T_L_lateIn : List ZV → ZM → ZRet → Prop := fun av M K => ∃ (G : Gm) (ticks : Int), av = [zo 64, zi ticks, zo 681] ∧ (zW M 681 23 ∧ zLn M 681 = 1) ∧ (LV M) ∧ (TR M 129 G) ∧ (GI G) ∧ (GV G) ∧ (GX G) ∧  ((c_lateIn G ticks = 0) → K (some (zi 0)) (zsI M 681 0 (v_lateIn G ticks))) ∧ ((c_lateIn G ticks = 1) → K (some (zi 1)) M)
set_option maxRecDepth 100000 in
set_option maxHeartbeats 1500000 in
theorem bd_L_lateIn : zBdW (cd_L_lateIn T_X8_lateIn) 4 1 6 T_L_lateIn := by
  rintro av M K hA0 hM ⟨G, ticks, rfl, hOut, hL, hT, hG, hV9, hX9, hK, hX1⟩
  refine ⟨rfl, fun Φ hΦ => ?_⟩
  refine zGoR hΦ [] 400 (fun hL9 _ hM _ _ => ?_)
  obtain ⟨qL1, _⟩ : zrg ticks ∧ True := hL9
  refine ⟨⟨(by decide), (by decide)⟩, ⟨⟨rfl, rfl⟩, hL.w.rcv⟩, ⟨G, ticks, rfl, hL, hT, hG, hV9, hX9, fun (qc3 : c_lateIn G ticks = 0) => fun (qg1 : zrg (v_lateIn G ticks)) qm2 => ⟨zixW hOut.1 hOut.2 (i := 0) (by decide) (by decide), ⟨trivial, (show K (some (zi 0)) (zsI M 681 0 (v_lateIn G ticks)) from ?g517l1)⟩⟩, fun (qc4 : c_lateIn G ticks = 1) => (fun _ => ⟨13, 3, rfl, ⟨trivial, (hX1 (by assumption))⟩⟩)⟩⟩
  case g517l1 => exact hK qc3

theorem M_L_lateIn {l : Launch} (hl : l.stackTraces = false) : zMetW l yL_lateIn (Cond.codeWith yL_lateIn cL_lateIn 4 (Option.some Jvm.ClassFile.FieldType.int) [(0, 9, 12, 19)] :: zG) rm_L_lateIn 1 6 T_L_lateIn := met_L_lateIn hl (M_X8_lateIn hl) bd_L_lateIn

theorem gw_6_158 : Cond.code yX8_stateIf cX8_stateIf 5 (Option.some Jvm.ClassFile.FieldType.int) ∈ zG := zGt6 (List.mem_of_getElem? (i := 158) (by rfl)) rfl
theorem gw_6_155 : Cond.methodLink RL 83 yX8_stateIf ∈ zG := zGt6 (List.mem_of_getElem? (i := 155) (by rfl)) rfl
theorem gw_6_156 : Cond.instanceMethod yX8_stateIf ∈ zG := zGt6 (List.mem_of_getElem? (i := 156) (by rfl)) rfl
theorem gw_6_157 : Cond.selects RX8 yX8_stateIf yX8_stateIf ∈ zG := zGt6 (List.mem_of_getElem? (i := 157) (by rfl)) rfl
def hd_L_stateIf (x : Nat) : Option (Nat × Nat) := if x = 0 then some (17, 5) else if x = 1 then some (21, 5) else if x = 2 then some (25, 5) else none
theorem hHd_L_stateIf : zHd cL_stateIf 6 7 [(0, 12, 15, 29), (0, 12, 19, 19), (0, 12, 23, 13)] hd_L_stateIf := by
  intro x h i q
  by_cases e0 : x = 0
  · subst e0
    have q' : some (17, 5) = some (h, i) := q
    cases q'
    exact ⟨by decide, 15, rfl, Or.inl ⟨by decide +kernel, rfl⟩⟩
  by_cases e1 : x = 1
  · subst e1
    have q' : some (21, 5) = some (h, i) := q
    cases q'
    exact ⟨by decide, 19, rfl, Or.inl ⟨by decide +kernel, rfl⟩⟩
  by_cases e2 : x = 2
  · subst e2
    have q' : some (25, 5) = some (h, i) := q
    cases q'
    exact ⟨by decide, 23, rfl, Or.inl ⟨by decide +kernel, rfl⟩⟩
  unfold hd_L_stateIf at q
  rw [if_neg e0] at q
  rw [if_neg e1] at q
  rw [if_neg e2] at q
  cases q

abbrev rm_L_stateIf : Room := { frames := 8, cells := 4, slots := 24, locals := 137 }
def cd_L_stateIf (T0 : ZTf) : List (Nat × ZTr) := [(0, tAld 4 2), (2, tC (zi 0) 3), (3, tAld 0 4), (4, tIld 1 5), (5, tIld 2 6), (6, tIld 3 7), (7, tCallH 4 4 24 T0 (zRcv 11) hd_L_stateIf 10), (10, tI2l 11), (11, tLas 12), (12, tGo 27), (17, tC (zi 1) 18), (18, tRi (fun _ => True)), (21, tC (zi 2) 22), (22, tRi (fun _ => True)), (25, tC (zi 3) 26), (26, tRi (fun _ => True)), (27, tC (zi 0) 28), (28, tRi (fun _ => True))]
set_option maxRecDepth 100000 in
set_option maxHeartbeats 1500000 in
theorem hs_L_stateIf {l : Launch} (hl : l.stackTraces = false) {T0 : ZTf} (h0 : zMet l yX8_stateIf (Cond.code yX8_stateIf cX8_stateIf 5 (Option.some Jvm.ClassFile.FieldType.int) :: zG) rm_X8_stateIf 4 24 T0) (p : Program) (e : Env) (s : State) (m : MethodId) (args : Array Value) (below : List Frame) (meth : Method) (c : Code) (D : va_G) (A : Nat → Prop) (a0 : Nat → Nat) (M0 : ZM) (K : ZRet) (KX : ZEx) (X : zCtx p l rm_L_stateIf s m args meth c cL_stateIf RL (Cond.codeWith yL_stateIf cL_stateIf 6 (Option.some Jvm.ClassFile.FieldType.int) [(0, 12, 15, 29), (0, 12, 19, 19), (0, 12, 23, 13)] :: zG) 6 (Option.some Jvm.ClassFile.FieldType.int) D A a0 M0 4 24) (htab : c.exceptionTable.toList = tableOf [(0, 12, 15, 29), (0, 12, 19, 19), (0, 12, 23, 13)]) (hNc : zNc0 s) : ∀ q ∈ cd_L_stateIf T0, zSd p l e rm_L_stateIf s m args below meth c 6 D A a0 M0 K KX 4 24 q.1 q.2 :=
  have hCx := zCx_of X (.tail _ gw_5_193) (.tail _ gw_5_164) (.tail _ gw_5_136) (.tail _ gw_7_174);
    zall_c (zs_aload X (pc := 0) (by decide +kernel)) <|
    zall_c (zs_iconst X (pc := 2) (by decide) (by decide +kernel)) <|
    zall_c (zs_aload_n X (pc := 3) (q := 0) rfl (by decide +kernel)) <|
    zall_c (zs_iload_n X (pc := 4) (q := 1) rfl (by decide +kernel)) <|
    zall_c (zs_iload_n X (pc := 5) (q := 2) rfl (by decide +kernel)) <|
    zall_c (zs_iload_n X (pc := 6) (q := 3) rfl (by decide +kernel)) <|
    zall_c (zs_callVH X (pc := 7) zc_X8 (fun _ ht => ⟨(zCB ht gw_6_158 gw_1_1 gw_6_155 rfl rfl (by decide +kernel) ⟨Nat.le_of_ble_eq_true rfl, Nat.le_of_ble_eq_true rfl⟩), ht _ (.tail _ gw_6_156), ht _ (.tail _ gw_6_157)⟩) h0 htab hCx hNc hHd_L_stateIf (by decide +kernel)) <|
    zall_c (zs_i2l X (pc := 10) (by decide +kernel)) <|
    zall_c (zs_lastore X (pc := 11) (by decide +kernel)) <|
    zall_c (zs_goto X (pc := 12) (off := 15) (by decide +kernel) (by decide)) <|
    zall_c (zs_iconst X (pc := 17) (by decide) (by decide +kernel)) <|
    zall_c (zs_iret X (pc := 18) rfl (by decide +kernel)) <|
    zall_c (zs_iconst X (pc := 21) (by decide) (by decide +kernel)) <|
    zall_c (zs_iret X (pc := 22) rfl (by decide +kernel)) <|
    zall_c (zs_iconst X (pc := 25) (by decide) (by decide +kernel)) <|
    zall_c (zs_iret X (pc := 26) rfl (by decide +kernel)) <|
    zall_c (zs_iconst X (pc := 27) (by decide) (by decide +kernel)) <|
    zall_c (zs_iret X (pc := 28) rfl (by decide +kernel)) <|
    zall_n
theorem met_L_stateIf {l : Launch} (hl : l.stackTraces = false) {T0 : ZTf} (h0 : zMet l yX8_stateIf (Cond.code yX8_stateIf cX8_stateIf 5 (Option.some Jvm.ClassFile.FieldType.int) :: zG) rm_X8_stateIf 4 24 T0) {T : List ZV → ZM → ZRet → Prop} (bd : zBdW (cd_L_stateIf T0) 6 4 24 T) : zMetW l yL_stateIf (Cond.codeWith yL_stateIf cL_stateIf 6 (Option.some Jvm.ClassFile.FieldType.int) [(0, 12, 15, 29), (0, 12, 19, 19), (0, 12, 23, 13)] :: zG) rm_L_stateIf 4 24 T := zMetW_of hl (by decide +kernel) rfl rfl rfl rfl (hs_L_stateIf hl h0) bd

def T_L_stateIf : List ZV → ZM → ZRet → Prop := fun av M K => ∃ (G : Gm) (w r x : Int), av = [zo 64, zi w, zi r, zi x, zo 681] ∧ (zW M 681 23 ∧ zLn M 681 = 1) ∧ (LV M) ∧ (TR M 129 G) ∧ (GI G) ∧ (GV G) ∧ (GX G) ∧  ((c_stateIf G w r x = 0) → (∀ M' : ZM, (Fr SVd M M') → K (some (zi 0)) (zsI M' 681 0 (v_stateIf G w r x)))) ∧ ((c_stateIf G w r x = 1) → K (some (zi 1)) M) ∧ ((c_stateIf G w r x = 2) → K (some (zi 2)) M) ∧ ((c_stateIf G w r x = 3) → K (some (zi 3)) M)
set_option maxRecDepth 100000 in
set_option maxHeartbeats 1500000 in
theorem bd_L_stateIf : zBdW (cd_L_stateIf T_X8_stateIf) 6 4 24 T_L_stateIf := by
  rintro av M K hA0 hM ⟨G, w, r, x, rfl, hOut, hL, hT, hG, hV9, hX9, hK, hX0, hX1, hX2⟩
  refine ⟨rfl, fun Φ hΦ => ?_⟩
  refine zGoR hΦ [] 400 (fun hL9 _ hM _ _ => ?_)
  obtain ⟨qL1, qL2, qL3, _⟩ : zrg w ∧ zrg r ∧ zrg x ∧ True := hL9
  refine ⟨⟨(by decide), (by decide)⟩, ⟨⟨rfl, rfl⟩, hL.w.rcv⟩, ⟨G, w, r, x, rfl, hL, hT, hG, hV9, hX9, fun (qc3 : c_stateIf G w r x = 0) => fun M1 hf1 => (have hOw1 : zW M1 681 23 := hOut.1.fr hf1; have hOl1 : zLn M1 681 = 1 := Fr.ln hf1 hOut.1 hOut.2; fun (qg1 : zrg (v_stateIf G w r x)) qm2 => ⟨zixW hOw1 hOl1 (i := 0) (by decide) (by decide), ⟨trivial, (show K (some (zi 0)) (zsI M1 681 0 (v_stateIf G w r x)) from ?g518l1)⟩⟩), fun (qc4 : c_stateIf G w r x = 1) => (fun _ => ⟨17, 5, rfl, ⟨trivial, (hX0 (by assumption))⟩⟩), fun (qc5 : c_stateIf G w r x = 2) => (fun _ => ⟨21, 5, rfl, ⟨trivial, (hX1 (by assumption))⟩⟩), fun (qc6 : c_stateIf G w r x = 3) => (fun _ => ⟨25, 5, rfl, ⟨trivial, (hX2 (by assumption))⟩⟩)⟩⟩
  case g518l1 => exact hK qc3 M1 hf1

theorem M_L_stateIf {l : Launch} (hl : l.stackTraces = false) : zMetW l yL_stateIf (Cond.codeWith yL_stateIf cL_stateIf 6 (Option.some Jvm.ClassFile.FieldType.int) [(0, 12, 15, 29), (0, 12, 19, 19), (0, 12, 23, 13)] :: zG) rm_L_stateIf 4 24 T_L_stateIf := met_L_stateIf hl (M_X8_stateIf hl) bd_L_stateIf

theorem gw_6_192 : Cond.code yX8_trustIf cX8_trustIf 9 (Option.some Jvm.ClassFile.FieldType.int) ∈ zG := zGt6 (List.mem_of_getElem? (i := 192) (by rfl)) rfl
theorem gw_6_189 : Cond.methodLink RL 86 yX8_trustIf ∈ zG := zGt6 (List.mem_of_getElem? (i := 189) (by rfl)) rfl
theorem gw_6_190 : Cond.instanceMethod yX8_trustIf ∈ zG := zGt6 (List.mem_of_getElem? (i := 190) (by rfl)) rfl
theorem gw_6_191 : Cond.selects RX8 yX8_trustIf yX8_trustIf ∈ zG := zGt6 (List.mem_of_getElem? (i := 191) (by rfl)) rfl
def hd_L_trustIf (x : Nat) : Option (Nat × Nat) := if x = 0 then some (19, 6) else if x = 1 then some (23, 6) else if x = 2 then some (27, 6) else none
theorem hHd_L_trustIf : zHd cL_trustIf 7 9 [(0, 14, 17, 29), (0, 14, 21, 19), (0, 14, 25, 13)] hd_L_trustIf := by
  intro x h i q
  by_cases e0 : x = 0
  · subst e0
    have q' : some (19, 6) = some (h, i) := q
    cases q'
    exact ⟨by decide, 17, rfl, Or.inl ⟨by decide +kernel, rfl⟩⟩
  by_cases e1 : x = 1
  · subst e1
    have q' : some (23, 6) = some (h, i) := q
    cases q'
    exact ⟨by decide, 21, rfl, Or.inl ⟨by decide +kernel, rfl⟩⟩
  by_cases e2 : x = 2
  · subst e2
    have q' : some (27, 6) = some (h, i) := q
    cases q'
    exact ⟨by decide, 25, rfl, Or.inl ⟨by decide +kernel, rfl⟩⟩
  unfold hd_L_trustIf at q
  rw [if_neg e0] at q
  rw [if_neg e1] at q
  rw [if_neg e2] at q
  cases q

abbrev rm_L_trustIf : Room := { frames := 8, cells := 5, slots := 30, locals := 141 }
def cd_L_trustIf (T0 : ZTf) : List (Nat × ZTr) := [(0, tAld 5 2), (2, tC (zi 0) 3), (3, tAld 0 4), (4, tIld 1 5), (5, tIld 2 6), (6, tIld 3 7), (7, tIld 4 9), (9, tCallH 5 5 30 T0 (zRcv 11) hd_L_trustIf 12), (12, tI2l 13), (13, tLas 14), (14, tGo 29), (19, tC (zi 1) 20), (20, tRi (fun _ => True)), (23, tC (zi 2) 24), (24, tRi (fun _ => True)), (27, tC (zi 3) 28), (28, tRi (fun _ => True)), (29, tC (zi 0) 30), (30, tRi (fun _ => True))]
set_option maxRecDepth 100000 in
set_option maxHeartbeats 1500000 in
theorem hs_L_trustIf {l : Launch} (hl : l.stackTraces = false) {T0 : ZTf} (h0 : zMet l yX8_trustIf (Cond.code yX8_trustIf cX8_trustIf 9 (Option.some Jvm.ClassFile.FieldType.int) :: zG) rm_X8_trustIf 5 30 T0) (p : Program) (e : Env) (s : State) (m : MethodId) (args : Array Value) (below : List Frame) (meth : Method) (c : Code) (D : va_G) (A : Nat → Prop) (a0 : Nat → Nat) (M0 : ZM) (K : ZRet) (KX : ZEx) (X : zCtx p l rm_L_trustIf s m args meth c cL_trustIf RL (Cond.codeWith yL_trustIf cL_trustIf 7 (Option.some Jvm.ClassFile.FieldType.int) [(0, 14, 17, 29), (0, 14, 21, 19), (0, 14, 25, 13)] :: zG) 7 (Option.some Jvm.ClassFile.FieldType.int) D A a0 M0 5 30) (htab : c.exceptionTable.toList = tableOf [(0, 14, 17, 29), (0, 14, 21, 19), (0, 14, 25, 13)]) (hNc : zNc0 s) : ∀ q ∈ cd_L_trustIf T0, zSd p l e rm_L_trustIf s m args below meth c 7 D A a0 M0 K KX 5 30 q.1 q.2 :=
  have hCx := zCx_of X (.tail _ gw_5_193) (.tail _ gw_5_164) (.tail _ gw_5_136) (.tail _ gw_7_174);
    zall_c (zs_aload X (pc := 0) (by decide +kernel)) <|
    zall_c (zs_iconst X (pc := 2) (by decide) (by decide +kernel)) <|
    zall_c (zs_aload_n X (pc := 3) (q := 0) rfl (by decide +kernel)) <|
    zall_c (zs_iload_n X (pc := 4) (q := 1) rfl (by decide +kernel)) <|
    zall_c (zs_iload_n X (pc := 5) (q := 2) rfl (by decide +kernel)) <|
    zall_c (zs_iload_n X (pc := 6) (q := 3) rfl (by decide +kernel)) <|
    zall_c (zs_iload X (pc := 7) (by decide +kernel)) <|
    zall_c (zs_callVH X (pc := 9) zc_X8 (fun _ ht => ⟨(zCB ht gw_6_192 gw_1_1 gw_6_189 rfl rfl (by decide +kernel) ⟨Nat.le_of_ble_eq_true rfl, Nat.le_of_ble_eq_true rfl⟩), ht _ (.tail _ gw_6_190), ht _ (.tail _ gw_6_191)⟩) h0 htab hCx hNc hHd_L_trustIf (by decide +kernel)) <|
    zall_c (zs_i2l X (pc := 12) (by decide +kernel)) <|
    zall_c (zs_lastore X (pc := 13) (by decide +kernel)) <|
    zall_c (zs_goto X (pc := 14) (off := 15) (by decide +kernel) (by decide)) <|
    zall_c (zs_iconst X (pc := 19) (by decide) (by decide +kernel)) <|
    zall_c (zs_iret X (pc := 20) rfl (by decide +kernel)) <|
    zall_c (zs_iconst X (pc := 23) (by decide) (by decide +kernel)) <|
    zall_c (zs_iret X (pc := 24) rfl (by decide +kernel)) <|
    zall_c (zs_iconst X (pc := 27) (by decide) (by decide +kernel)) <|
    zall_c (zs_iret X (pc := 28) rfl (by decide +kernel)) <|
    zall_c (zs_iconst X (pc := 29) (by decide) (by decide +kernel)) <|
    zall_c (zs_iret X (pc := 30) rfl (by decide +kernel)) <|
    zall_n
theorem met_L_trustIf {l : Launch} (hl : l.stackTraces = false) {T0 : ZTf} (h0 : zMet l yX8_trustIf (Cond.code yX8_trustIf cX8_trustIf 9 (Option.some Jvm.ClassFile.FieldType.int) :: zG) rm_X8_trustIf 5 30 T0) {T : List ZV → ZM → ZRet → Prop} (bd : zBdW (cd_L_trustIf T0) 7 5 30 T) : zMetW l yL_trustIf (Cond.codeWith yL_trustIf cL_trustIf 7 (Option.some Jvm.ClassFile.FieldType.int) [(0, 14, 17, 29), (0, 14, 21, 19), (0, 14, 25, 13)] :: zG) rm_L_trustIf 5 30 T := zMetW_of hl (by decide +kernel) rfl rfl rfl rfl (hs_L_trustIf hl h0) bd

def T_L_trustIf : List ZV → ZM → ZRet → Prop := fun av M K => ∃ (G : Gm) (w r x o : Int), av = [zo 64, zi w, zi r, zi x, zi o, zo 681] ∧ (zW M 681 23 ∧ zLn M 681 = 1) ∧ (LV M) ∧ (TR M 129 G) ∧ (GI G) ∧ (GV G) ∧ (GX G) ∧  ((c_trustIf G w r x o = 0) → (∀ M' : ZM, (Fr SVd M M') → K (some (zi 0)) (zsI M' 681 0 (v_trustIf G w r x o)))) ∧ ((c_trustIf G w r x o = 1) → K (some (zi 1)) M) ∧ ((c_trustIf G w r x o = 2) → K (some (zi 2)) M) ∧ ((c_trustIf G w r x o = 3) → K (some (zi 3)) M)
set_option maxRecDepth 100000 in
set_option maxHeartbeats 1500000 in
theorem bd_L_trustIf : zBdW (cd_L_trustIf T_X8_trustIf) 7 5 30 T_L_trustIf := by
  rintro av M K hA0 hM ⟨G, w, r, x, o, rfl, hOut, hL, hT, hG, hV9, hX9, hK, hX0, hX1, hX2⟩
  refine ⟨rfl, fun Φ hΦ => ?_⟩
  refine zGoR hΦ [] 400 (fun hL9 _ hM _ _ => ?_)
  obtain ⟨qL1, qL2, qL3, qL4, _⟩ : zrg w ∧ zrg r ∧ zrg x ∧ zrg o ∧ True := hL9
  refine ⟨⟨(by decide), (by decide)⟩, ⟨⟨rfl, rfl⟩, hL.w.rcv⟩, ⟨G, w, r, x, o, rfl, hL, hT, hG, hV9, hX9, fun (qc3 : c_trustIf G w r x o = 0) => fun M1 hf1 => (have hOw1 : zW M1 681 23 := hOut.1.fr hf1; have hOl1 : zLn M1 681 = 1 := Fr.ln hf1 hOut.1 hOut.2; fun (qg1 : zrg (v_trustIf G w r x o)) qm2 => ⟨zixW hOw1 hOl1 (i := 0) (by decide) (by decide), ⟨trivial, (show K (some (zi 0)) (zsI M1 681 0 (v_trustIf G w r x o)) from ?g519l1)⟩⟩), fun (qc4 : c_trustIf G w r x o = 1) => (fun _ => ⟨19, 6, rfl, ⟨trivial, (hX0 (by assumption))⟩⟩), fun (qc5 : c_trustIf G w r x o = 2) => (fun _ => ⟨23, 6, rfl, ⟨trivial, (hX1 (by assumption))⟩⟩), fun (qc6 : c_trustIf G w r x o = 3) => (fun _ => ⟨27, 6, rfl, ⟨trivial, (hX2 (by assumption))⟩⟩)⟩⟩
  case g519l1 => exact hK qc3 M1 hf1

theorem M_L_trustIf {l : Launch} (hl : l.stackTraces = false) : zMetW l yL_trustIf (Cond.codeWith yL_trustIf cL_trustIf 7 (Option.some Jvm.ClassFile.FieldType.int) [(0, 14, 17, 29), (0, 14, 21, 19), (0, 14, 25, 13)] :: zG) rm_L_trustIf 5 30 T_L_trustIf := met_L_trustIf hl (M_X8_trustIf hl) bd_L_trustIf

theorem gw_6_204 : Cond.code yX8_finishing cX8_finishing 6 (Option.some Jvm.ClassFile.FieldType.int) ∈ zG := zGt6 (List.mem_of_getElem? (i := 204) (by rfl)) rfl
theorem gw_6_201 : Cond.methodLink RL 90 yX8_finishing ∈ zG := zGt6 (List.mem_of_getElem? (i := 201) (by rfl)) rfl
theorem gw_6_202 : Cond.instanceMethod yX8_finishing ∈ zG := zGt6 (List.mem_of_getElem? (i := 202) (by rfl)) rfl
theorem gw_6_203 : Cond.selects RX8 yX8_finishing yX8_finishing ∈ zG := zGt6 (List.mem_of_getElem? (i := 203) (by rfl)) rfl
def hd_L_finishing (x : Nat) : Option (Nat × Nat) := if x = 0 then some (15, 4) else if x = 2 then some (19, 4) else none
theorem hHd_L_finishing : zHd cL_finishing 5 5 [(0, 10, 13, 29), (0, 10, 17, 13)] hd_L_finishing := by
  intro x h i q
  by_cases e0 : x = 0
  · subst e0
    have q' : some (15, 4) = some (h, i) := q
    cases q'
    exact ⟨by decide, 13, rfl, Or.inl ⟨by decide +kernel, rfl⟩⟩
  by_cases e2 : x = 2
  · subst e2
    have q' : some (19, 4) = some (h, i) := q
    cases q'
    exact ⟨by decide, 17, rfl, Or.inl ⟨by decide +kernel, rfl⟩⟩
  unfold hd_L_finishing at q
  rw [if_neg e0] at q
  rw [if_neg e2] at q
  cases q

abbrev rm_L_finishing : Room := { frames := 8, cells := 3, slots := 18, locals := 138 }
def cd_L_finishing (T0 : ZTf) : List (Nat × ZTr) := [(0, tAld 3 1), (1, tC (zi 0) 2), (2, tAld 0 3), (3, tIld 1 4), (4, tIld 2 5), (5, tCallH 3 3 18 T0 (zRcv 11) hd_L_finishing 8), (8, tI2l 9), (9, tLas 10), (10, tGo 21), (15, tC (zi 1) 16), (16, tRi (fun _ => True)), (19, tC (zi 2) 20), (20, tRi (fun _ => True)), (21, tC (zi 0) 22), (22, tRi (fun _ => True))]
set_option maxRecDepth 100000 in
set_option maxHeartbeats 1500000 in
theorem hs_L_finishing {l : Launch} (hl : l.stackTraces = false) {T0 : ZTf} (h0 : zMet l yX8_finishing (Cond.code yX8_finishing cX8_finishing 6 (Option.some Jvm.ClassFile.FieldType.int) :: zG) rm_X8_finishing 3 18 T0) (p : Program) (e : Env) (s : State) (m : MethodId) (args : Array Value) (below : List Frame) (meth : Method) (c : Code) (D : va_G) (A : Nat → Prop) (a0 : Nat → Nat) (M0 : ZM) (K : ZRet) (KX : ZEx) (X : zCtx p l rm_L_finishing s m args meth c cL_finishing RL (Cond.codeWith yL_finishing cL_finishing 5 (Option.some Jvm.ClassFile.FieldType.int) [(0, 10, 13, 29), (0, 10, 17, 13)] :: zG) 5 (Option.some Jvm.ClassFile.FieldType.int) D A a0 M0 3 18) (htab : c.exceptionTable.toList = tableOf [(0, 10, 13, 29), (0, 10, 17, 13)]) (hNc : zNc0 s) : ∀ q ∈ cd_L_finishing T0, zSd p l e rm_L_finishing s m args below meth c 5 D A a0 M0 K KX 3 18 q.1 q.2 :=
  have hCx := zCx_of X (.tail _ gw_5_193) (.tail _ gw_5_164) (.tail _ gw_5_136) (.tail _ gw_7_174);
    zall_c (zs_aload_n X (pc := 0) (q := 3) rfl (by decide +kernel)) <|
    zall_c (zs_iconst X (pc := 1) (by decide) (by decide +kernel)) <|
    zall_c (zs_aload_n X (pc := 2) (q := 0) rfl (by decide +kernel)) <|
    zall_c (zs_iload_n X (pc := 3) (q := 1) rfl (by decide +kernel)) <|
    zall_c (zs_iload_n X (pc := 4) (q := 2) rfl (by decide +kernel)) <|
    zall_c (zs_callVH X (pc := 5) zc_X8 (fun _ ht => ⟨(zCB ht gw_6_204 gw_1_1 gw_6_201 rfl rfl (by decide +kernel) ⟨Nat.le_of_ble_eq_true rfl, Nat.le_of_ble_eq_true rfl⟩), ht _ (.tail _ gw_6_202), ht _ (.tail _ gw_6_203)⟩) h0 htab hCx hNc hHd_L_finishing (by decide +kernel)) <|
    zall_c (zs_i2l X (pc := 8) (by decide +kernel)) <|
    zall_c (zs_lastore X (pc := 9) (by decide +kernel)) <|
    zall_c (zs_goto X (pc := 10) (off := 11) (by decide +kernel) (by decide)) <|
    zall_c (zs_iconst X (pc := 15) (by decide) (by decide +kernel)) <|
    zall_c (zs_iret X (pc := 16) rfl (by decide +kernel)) <|
    zall_c (zs_iconst X (pc := 19) (by decide) (by decide +kernel)) <|
    zall_c (zs_iret X (pc := 20) rfl (by decide +kernel)) <|
    zall_c (zs_iconst X (pc := 21) (by decide) (by decide +kernel)) <|
    zall_c (zs_iret X (pc := 22) rfl (by decide +kernel)) <|
    zall_n
theorem met_L_finishing {l : Launch} (hl : l.stackTraces = false) {T0 : ZTf} (h0 : zMet l yX8_finishing (Cond.code yX8_finishing cX8_finishing 6 (Option.some Jvm.ClassFile.FieldType.int) :: zG) rm_X8_finishing 3 18 T0) {T : List ZV → ZM → ZRet → Prop} (bd : zBdW (cd_L_finishing T0) 5 3 18 T) : zMetW l yL_finishing (Cond.codeWith yL_finishing cL_finishing 5 (Option.some Jvm.ClassFile.FieldType.int) [(0, 10, 13, 29), (0, 10, 17, 13)] :: zG) rm_L_finishing 3 18 T := zMetW_of hl (by decide +kernel) rfl rfl rfl rfl (hs_L_finishing hl h0) bd

def T_L_finishing : List ZV → ZM → ZRet → Prop := fun av M K => ∃ (G : Gm) (w r : Int), av = [zo 64, zi w, zi r, zo 681] ∧ (zW M 681 23 ∧ zLn M 681 = 1) ∧ (LV M) ∧ (TR M 129 G) ∧ (GI G) ∧ (GV G) ∧ (GX G) ∧  ((c_finishing G w r = 0) → (∀ M' : ZM, (Fr SVd M M') → K (some (zi 0)) (zsI M' 681 0 (v_finishing G w r)))) ∧ ((c_finishing G w r = 1) → K (some (zi 1)) M) ∧ ((c_finishing G w r = 2) → K (some (zi 2)) M)
set_option maxRecDepth 100000 in
set_option maxHeartbeats 1500000 in
theorem bd_L_finishing : zBdW (cd_L_finishing T_X8_finishing) 5 3 18 T_L_finishing := by
  rintro av M K hA0 hM ⟨G, w, r, rfl, hOut, hL, hT, hG, hV9, hX9, hK, hX0, hX2⟩
  refine ⟨rfl, fun Φ hΦ => ?_⟩
  refine zGoR hΦ [] 400 (fun hL9 _ hM _ _ => ?_)
  obtain ⟨qL1, qL2, _⟩ : zrg w ∧ zrg r ∧ True := hL9
  refine ⟨⟨(by decide), (by decide)⟩, ⟨⟨rfl, rfl⟩, hL.w.rcv⟩, ⟨G, w, r, rfl, hL, hT, hG, hV9, hX9, fun (qc3 : c_finishing G w r = 0) => fun M1 hf1 => (have hOw1 : zW M1 681 23 := hOut.1.fr hf1; have hOl1 : zLn M1 681 = 1 := Fr.ln hf1 hOut.1 hOut.2; fun (qg1 : zrg (v_finishing G w r)) qm2 => ⟨zixW hOw1 hOl1 (i := 0) (by decide) (by decide), ⟨trivial, (show K (some (zi 0)) (zsI M1 681 0 (v_finishing G w r)) from ?g520l1)⟩⟩), fun (qc4 : c_finishing G w r = 1) => (fun _ => ⟨15, 4, rfl, ⟨trivial, (hX0 (by assumption))⟩⟩), fun (qc5 : c_finishing G w r = 2) => (fun _ => ⟨19, 4, rfl, ⟨trivial, (hX2 (by assumption))⟩⟩)⟩⟩
  case g520l1 => exact hK qc3 M1 hf1

theorem M_L_finishing {l : Launch} (hl : l.stackTraces = false) : zMetW l yL_finishing (Cond.codeWith yL_finishing cL_finishing 5 (Option.some Jvm.ClassFile.FieldType.int) [(0, 10, 13, 29), (0, 10, 17, 13)] :: zG) rm_L_finishing 3 18 T_L_finishing := met_L_finishing hl (M_X8_finishing hl) bd_L_finishing

theorem gw_6_211 : Cond.code yX8_finishedOf cX8_finishedOf 4 (Option.some Jvm.ClassFile.FieldType.int) ∈ zG := zGt6 (List.mem_of_getElem? (i := 211) (by rfl)) rfl
theorem gw_6_208 : Cond.methodLink RL 93 yX8_finishedOf ∈ zG := zGt6 (List.mem_of_getElem? (i := 208) (by rfl)) rfl
theorem gw_6_209 : Cond.instanceMethod yX8_finishedOf ∈ zG := zGt6 (List.mem_of_getElem? (i := 209) (by rfl)) rfl
theorem gw_6_210 : Cond.selects RX8 yX8_finishedOf yX8_finishedOf ∈ zG := zGt6 (List.mem_of_getElem? (i := 210) (by rfl)) rfl
def hd_L_finishedOf (x : Nat) : Option (Nat × Nat) := if x = 1 then some (13, 3) else none
theorem hHd_L_finishedOf : zHd cL_finishedOf 4 4 [(0, 9, 12, 19)] hd_L_finishedOf := by
  intro x h i q
  by_cases e1 : x = 1
  · subst e1
    have q' : some (13, 3) = some (h, i) := q
    cases q'
    exact ⟨by decide, 12, rfl, Or.inr ⟨3, rfl, by decide +kernel, rfl⟩⟩
  unfold hd_L_finishedOf at q
  rw [if_neg e1] at q
  cases q

abbrev rm_L_finishedOf : Room := { frames := 8, cells := 1, slots := 6, locals := 135 }
def cd_L_finishedOf (T0 : ZTf) : List (Nat × ZTr) := [(0, tAld 2 1), (1, tC (zi 0) 2), (2, tAld 0 3), (3, tIld 1 4), (4, tCallH 2 1 6 T0 (zRcv 11) hd_L_finishedOf 7), (7, tI2l 8), (8, tLas 9), (9, tGo 15), (13, tC (zi 1) 14), (14, tRi (fun _ => True)), (15, tC (zi 0) 16), (16, tRi (fun _ => True))]
set_option maxRecDepth 100000 in
set_option maxHeartbeats 1500000 in
theorem hs_L_finishedOf {l : Launch} (hl : l.stackTraces = false) {T0 : ZTf} (h0 : zMet l yX8_finishedOf (Cond.code yX8_finishedOf cX8_finishedOf 4 (Option.some Jvm.ClassFile.FieldType.int) :: zG) rm_X8_finishedOf 1 6 T0) (p : Program) (e : Env) (s : State) (m : MethodId) (args : Array Value) (below : List Frame) (meth : Method) (c : Code) (D : va_G) (A : Nat → Prop) (a0 : Nat → Nat) (M0 : ZM) (K : ZRet) (KX : ZEx) (X : zCtx p l rm_L_finishedOf s m args meth c cL_finishedOf RL (Cond.codeWith yL_finishedOf cL_finishedOf 4 (Option.some Jvm.ClassFile.FieldType.int) [(0, 9, 12, 19)] :: zG) 4 (Option.some Jvm.ClassFile.FieldType.int) D A a0 M0 1 6) (htab : c.exceptionTable.toList = tableOf [(0, 9, 12, 19)]) (hNc : zNc0 s) : ∀ q ∈ cd_L_finishedOf T0, zSd p l e rm_L_finishedOf s m args below meth c 4 D A a0 M0 K KX 1 6 q.1 q.2 :=
  have hCx := zCx_of X (.tail _ gw_5_193) (.tail _ gw_5_164) (.tail _ gw_5_136) (.tail _ gw_7_174);
    zall_c (zs_aload_n X (pc := 0) (q := 2) rfl (by decide +kernel)) <|
    zall_c (zs_iconst X (pc := 1) (by decide) (by decide +kernel)) <|
    zall_c (zs_aload_n X (pc := 2) (q := 0) rfl (by decide +kernel)) <|
    zall_c (zs_iload_n X (pc := 3) (q := 1) rfl (by decide +kernel)) <|
    zall_c (zs_callVH X (pc := 4) zc_X8 (fun _ ht => ⟨(zCB ht gw_6_211 gw_1_1 gw_6_208 rfl rfl (by decide +kernel) ⟨Nat.le_of_ble_eq_true rfl, Nat.le_of_ble_eq_true rfl⟩), ht _ (.tail _ gw_6_209), ht _ (.tail _ gw_6_210)⟩) h0 htab hCx hNc hHd_L_finishedOf (by decide +kernel)) <|
    zall_c (zs_i2l X (pc := 7) (by decide +kernel)) <|
    zall_c (zs_lastore X (pc := 8) (by decide +kernel)) <|
    zall_c (zs_goto X (pc := 9) (off := 6) (by decide +kernel) (by decide)) <|
    zall_c (zs_iconst X (pc := 13) (by decide) (by decide +kernel)) <|
    zall_c (zs_iret X (pc := 14) rfl (by decide +kernel)) <|
    zall_c (zs_iconst X (pc := 15) (by decide) (by decide +kernel)) <|
    zall_c (zs_iret X (pc := 16) rfl (by decide +kernel)) <|
    zall_n
theorem met_L_finishedOf {l : Launch} (hl : l.stackTraces = false) {T0 : ZTf} (h0 : zMet l yX8_finishedOf (Cond.code yX8_finishedOf cX8_finishedOf 4 (Option.some Jvm.ClassFile.FieldType.int) :: zG) rm_X8_finishedOf 1 6 T0) {T : List ZV → ZM → ZRet → Prop} (bd : zBdW (cd_L_finishedOf T0) 4 1 6 T) : zMetW l yL_finishedOf (Cond.codeWith yL_finishedOf cL_finishedOf 4 (Option.some Jvm.ClassFile.FieldType.int) [(0, 9, 12, 19)] :: zG) rm_L_finishedOf 1 6 T := zMetW_of hl (by decide +kernel) rfl rfl rfl rfl (hs_L_finishedOf hl h0) bd

def T_L_finishedOf : List ZV → ZM → ZRet → Prop := fun av M K => ∃ (G : Gm) (size : Int), av = [zo 64, zi size, zo 681] ∧ (zW M 681 23 ∧ zLn M 681 = 1) ∧ (LV M) ∧ (TR M 129 G) ∧ (GI G) ∧ (GV G) ∧ (GX G) ∧  ((c_finishedOf G size = 0) → K (some (zi 0)) (zsI M 681 0 (v_finishedOf G size))) ∧ ((c_finishedOf G size = 1) → K (some (zi 1)) M)
set_option maxRecDepth 100000 in
set_option maxHeartbeats 1500000 in
theorem bd_L_finishedOf : zBdW (cd_L_finishedOf T_X8_finishedOf) 4 1 6 T_L_finishedOf := by
  rintro av M K hA0 hM ⟨G, size, rfl, hOut, hL, hT, hG, hV9, hX9, hK, hX1⟩
  refine ⟨rfl, fun Φ hΦ => ?_⟩
  refine zGoR hΦ [] 400 (fun hL9 _ hM _ _ => ?_)
  obtain ⟨qL1, _⟩ : zrg size ∧ True := hL9
  refine ⟨⟨(by decide), (by decide)⟩, ⟨⟨rfl, rfl⟩, hL.w.rcv⟩, ⟨G, size, rfl, hL, hT, hG, hV9, hX9, fun (qc3 : c_finishedOf G size = 0) => fun (qg1 : zrg (v_finishedOf G size)) qm2 => ⟨zixW hOut.1 hOut.2 (i := 0) (by decide) (by decide), ⟨trivial, (show K (some (zi 0)) (zsI M 681 0 (v_finishedOf G size)) from ?g521l1)⟩⟩, fun (qc4 : c_finishedOf G size = 1) => (fun _ => ⟨13, 3, rfl, ⟨trivial, (hX1 (by assumption))⟩⟩)⟩⟩
  case g521l1 => exact hK qc3

theorem M_L_finishedOf {l : Launch} (hl : l.stackTraces = false) : zMetW l yL_finishedOf (Cond.codeWith yL_finishedOf cL_finishedOf 4 (Option.some Jvm.ClassFile.FieldType.int) [(0, 9, 12, 19)] :: zG) rm_L_finishedOf 1 6 T_L_finishedOf := met_L_finishedOf hl (M_X8_finishedOf hl) bd_L_finishedOf

theorem gw_6_218 : Cond.code yX8_place cX8_place 4 (Option.some Jvm.ClassFile.FieldType.int) ∈ zG := zGt6 (List.mem_of_getElem? (i := 218) (by rfl)) rfl
theorem gw_6_215 : Cond.methodLink RL 96 yX8_place ∈ zG := zGt6 (List.mem_of_getElem? (i := 215) (by rfl)) rfl
theorem gw_6_216 : Cond.instanceMethod yX8_place ∈ zG := zGt6 (List.mem_of_getElem? (i := 216) (by rfl)) rfl
theorem gw_6_217 : Cond.selects RX8 yX8_place yX8_place ∈ zG := zGt6 (List.mem_of_getElem? (i := 217) (by rfl)) rfl
def hd_L_place (x : Nat) : Option (Nat × Nat) := if x = 0 then some (13, 3) else none
theorem hHd_L_place : zHd cL_place 4 4 [(0, 9, 12, 29)] hd_L_place := by
  intro x h i q
  by_cases e0 : x = 0
  · subst e0
    have q' : some (13, 3) = some (h, i) := q
    cases q'
    exact ⟨by decide, 12, rfl, Or.inr ⟨3, rfl, by decide +kernel, rfl⟩⟩
  unfold hd_L_place at q
  rw [if_neg e0] at q
  cases q

abbrev rm_L_place : Room := { frames := 8, cells := 1, slots := 6, locals := 134 }
def cd_L_place (T0 : ZTf) : List (Nat × ZTr) := [(0, tAld 2 1), (1, tC (zi 0) 2), (2, tAld 0 3), (3, tIld 1 4), (4, tCallH 2 1 6 T0 (zRcv 11) hd_L_place 7), (7, tI2l 8), (8, tLas 9), (9, tGo 15), (13, tC (zi 1) 14), (14, tRi (fun _ => True)), (15, tC (zi 0) 16), (16, tRi (fun _ => True))]
set_option maxRecDepth 100000 in
set_option maxHeartbeats 1500000 in
theorem hs_L_place {l : Launch} (hl : l.stackTraces = false) {T0 : ZTf} (h0 : zMet l yX8_place (Cond.code yX8_place cX8_place 4 (Option.some Jvm.ClassFile.FieldType.int) :: zG) rm_X8_place 1 6 T0) (p : Program) (e : Env) (s : State) (m : MethodId) (args : Array Value) (below : List Frame) (meth : Method) (c : Code) (D : va_G) (A : Nat → Prop) (a0 : Nat → Nat) (M0 : ZM) (K : ZRet) (KX : ZEx) (X : zCtx p l rm_L_place s m args meth c cL_place RL (Cond.codeWith yL_place cL_place 4 (Option.some Jvm.ClassFile.FieldType.int) [(0, 9, 12, 29)] :: zG) 4 (Option.some Jvm.ClassFile.FieldType.int) D A a0 M0 1 6) (htab : c.exceptionTable.toList = tableOf [(0, 9, 12, 29)]) (hNc : zNc0 s) : ∀ q ∈ cd_L_place T0, zSd p l e rm_L_place s m args below meth c 4 D A a0 M0 K KX 1 6 q.1 q.2 :=
  have hCx := zCx_of X (.tail _ gw_5_193) (.tail _ gw_5_164) (.tail _ gw_5_136) (.tail _ gw_7_174);
    zall_c (zs_aload_n X (pc := 0) (q := 2) rfl (by decide +kernel)) <|
    zall_c (zs_iconst X (pc := 1) (by decide) (by decide +kernel)) <|
    zall_c (zs_aload_n X (pc := 2) (q := 0) rfl (by decide +kernel)) <|
    zall_c (zs_iload_n X (pc := 3) (q := 1) rfl (by decide +kernel)) <|
    zall_c (zs_callVH X (pc := 4) zc_X8 (fun _ ht => ⟨(zCB ht gw_6_218 gw_1_1 gw_6_215 rfl rfl (by decide +kernel) ⟨Nat.le_of_ble_eq_true rfl, Nat.le_of_ble_eq_true rfl⟩), ht _ (.tail _ gw_6_216), ht _ (.tail _ gw_6_217)⟩) h0 htab hCx hNc hHd_L_place (by decide +kernel)) <|
    zall_c (zs_i2l X (pc := 7) (by decide +kernel)) <|
    zall_c (zs_lastore X (pc := 8) (by decide +kernel)) <|
    zall_c (zs_goto X (pc := 9) (off := 6) (by decide +kernel) (by decide)) <|
    zall_c (zs_iconst X (pc := 13) (by decide) (by decide +kernel)) <|
    zall_c (zs_iret X (pc := 14) rfl (by decide +kernel)) <|
    zall_c (zs_iconst X (pc := 15) (by decide) (by decide +kernel)) <|
    zall_c (zs_iret X (pc := 16) rfl (by decide +kernel)) <|
    zall_n
theorem met_L_place {l : Launch} (hl : l.stackTraces = false) {T0 : ZTf} (h0 : zMet l yX8_place (Cond.code yX8_place cX8_place 4 (Option.some Jvm.ClassFile.FieldType.int) :: zG) rm_X8_place 1 6 T0) {T : List ZV → ZM → ZRet → Prop} (bd : zBdW (cd_L_place T0) 4 1 6 T) : zMetW l yL_place (Cond.codeWith yL_place cL_place 4 (Option.some Jvm.ClassFile.FieldType.int) [(0, 9, 12, 29)] :: zG) rm_L_place 1 6 T := zMetW_of hl (by decide +kernel) rfl rfl rfl rfl (hs_L_place hl h0) bd

def T_L_place : List ZV → ZM → ZRet → Prop := fun av M K => ∃ (G : Gm) (w : Int), av = [zo 64, zi w, zo 681] ∧ (zW M 681 23 ∧ zLn M 681 = 1) ∧ (LV M) ∧ (TR M 129 G) ∧ (GI G) ∧ (GV G) ∧ (GX G) ∧  ((c_place G w = 0) → K (some (zi 0)) (zsI M 681 0 (v_place G w))) ∧ ((c_place G w = 1) → K (some (zi 1)) M)
set_option maxRecDepth 100000 in
set_option maxHeartbeats 1500000 in
theorem bd_L_place : zBdW (cd_L_place T_X8_place) 4 1 6 T_L_place := by
  rintro av M K hA0 hM ⟨G, w, rfl, hOut, hL, hT, hG, hV9, hX9, hK, hX0⟩
  refine ⟨rfl, fun Φ hΦ => ?_⟩
  refine zGoR hΦ [] 400 (fun hL9 _ hM _ _ => ?_)
  obtain ⟨qL1, _⟩ : zrg w ∧ True := hL9
  refine ⟨⟨(by decide), (by decide)⟩, ⟨⟨rfl, rfl⟩, hL.w.rcv⟩, ⟨G, w, rfl, hL, hT, hG, hV9, hX9, fun (qc3 : c_place G w = 0) => fun (qg1 : zrg (v_place G w)) qm2 => ⟨zixW hOut.1 hOut.2 (i := 0) (by decide) (by decide), ⟨trivial, (show K (some (zi 0)) (zsI M 681 0 (v_place G w)) from ?g522l1)⟩⟩, fun (qc4 : c_place G w = 1) => (fun _ => ⟨13, 3, rfl, ⟨trivial, (hX0 (by assumption))⟩⟩)⟩⟩
  case g522l1 => exact hK qc3

theorem M_L_place {l : Launch} (hl : l.stackTraces = false) : zMetW l yL_place (Cond.codeWith yL_place cL_place 4 (Option.some Jvm.ClassFile.FieldType.int) [(0, 9, 12, 29)] :: zG) rm_L_place 1 6 T_L_place := met_L_place hl (M_X8_place hl) bd_L_place

theorem gw_6_225 : Cond.code yX8_partner cX8_partner 6 (Option.some Jvm.ClassFile.FieldType.int) ∈ zG := zGt6 (List.mem_of_getElem? (i := 225) (by rfl)) rfl
theorem gw_6_222 : Cond.methodLink RL 99 yX8_partner ∈ zG := zGt6 (List.mem_of_getElem? (i := 222) (by rfl)) rfl
theorem gw_6_223 : Cond.instanceMethod yX8_partner ∈ zG := zGt6 (List.mem_of_getElem? (i := 223) (by rfl)) rfl
theorem gw_6_224 : Cond.selects RX8 yX8_partner yX8_partner ∈ zG := zGt6 (List.mem_of_getElem? (i := 224) (by rfl)) rfl
def hd_L_partner (x : Nat) : Option (Nat × Nat) := if x = 0 then some (13, 3) else none
theorem hHd_L_partner : zHd cL_partner 4 4 [(0, 9, 12, 29)] hd_L_partner := by
  intro x h i q
  by_cases e0 : x = 0
  · subst e0
    have q' : some (13, 3) = some (h, i) := q
    cases q'
    exact ⟨by decide, 12, rfl, Or.inr ⟨3, rfl, by decide +kernel, rfl⟩⟩
  unfold hd_L_partner at q
  rw [if_neg e0] at q
  cases q

abbrev rm_L_partner : Room := { frames := 8, cells := 1, slots := 6, locals := 147 }
def cd_L_partner (T0 : ZTf) : List (Nat × ZTr) := [(0, tAld 2 1), (1, tC (zi 0) 2), (2, tAld 0 3), (3, tIld 1 4), (4, tCallH 2 1 6 T0 (zRcv 11) hd_L_partner 7), (7, tI2l 8), (8, tLas 9), (9, tGo 15), (13, tC (zi 1) 14), (14, tRi (fun _ => True)), (15, tC (zi 0) 16), (16, tRi (fun _ => True))]
set_option maxRecDepth 100000 in
set_option maxHeartbeats 1500000 in
theorem hs_L_partner {l : Launch} (hl : l.stackTraces = false) {T0 : ZTf} (h0 : zMet l yX8_partner (Cond.code yX8_partner cX8_partner 6 (Option.some Jvm.ClassFile.FieldType.int) :: zG) rm_X8_partner 1 6 T0) (p : Program) (e : Env) (s : State) (m : MethodId) (args : Array Value) (below : List Frame) (meth : Method) (c : Code) (D : va_G) (A : Nat → Prop) (a0 : Nat → Nat) (M0 : ZM) (K : ZRet) (KX : ZEx) (X : zCtx p l rm_L_partner s m args meth c cL_partner RL (Cond.codeWith yL_partner cL_partner 4 (Option.some Jvm.ClassFile.FieldType.int) [(0, 9, 12, 29)] :: zG) 4 (Option.some Jvm.ClassFile.FieldType.int) D A a0 M0 1 6) (htab : c.exceptionTable.toList = tableOf [(0, 9, 12, 29)]) (hNc : zNc0 s) : ∀ q ∈ cd_L_partner T0, zSd p l e rm_L_partner s m args below meth c 4 D A a0 M0 K KX 1 6 q.1 q.2 :=
  have hCx := zCx_of X (.tail _ gw_5_193) (.tail _ gw_5_164) (.tail _ gw_5_136) (.tail _ gw_7_174);
    zall_c (zs_aload_n X (pc := 0) (q := 2) rfl (by decide +kernel)) <|
    zall_c (zs_iconst X (pc := 1) (by decide) (by decide +kernel)) <|
    zall_c (zs_aload_n X (pc := 2) (q := 0) rfl (by decide +kernel)) <|
    zall_c (zs_iload_n X (pc := 3) (q := 1) rfl (by decide +kernel)) <|
    zall_c (zs_callVH X (pc := 4) zc_X8 (fun _ ht => ⟨(zCB ht gw_6_225 gw_1_1 gw_6_222 rfl rfl (by decide +kernel) ⟨Nat.le_of_ble_eq_true rfl, Nat.le_of_ble_eq_true rfl⟩), ht _ (.tail _ gw_6_223), ht _ (.tail _ gw_6_224)⟩) h0 htab hCx hNc hHd_L_partner (by decide +kernel)) <|
    zall_c (zs_i2l X (pc := 7) (by decide +kernel)) <|
    zall_c (zs_lastore X (pc := 8) (by decide +kernel)) <|
    zall_c (zs_goto X (pc := 9) (off := 6) (by decide +kernel) (by decide)) <|
    zall_c (zs_iconst X (pc := 13) (by decide) (by decide +kernel)) <|
    zall_c (zs_iret X (pc := 14) rfl (by decide +kernel)) <|
    zall_c (zs_iconst X (pc := 15) (by decide) (by decide +kernel)) <|
    zall_c (zs_iret X (pc := 16) rfl (by decide +kernel)) <|
    zall_n
theorem met_L_partner {l : Launch} (hl : l.stackTraces = false) {T0 : ZTf} (h0 : zMet l yX8_partner (Cond.code yX8_partner cX8_partner 6 (Option.some Jvm.ClassFile.FieldType.int) :: zG) rm_X8_partner 1 6 T0) {T : List ZV → ZM → ZRet → Prop} (bd : zBdW (cd_L_partner T0) 4 1 6 T) : zMetW l yL_partner (Cond.codeWith yL_partner cL_partner 4 (Option.some Jvm.ClassFile.FieldType.int) [(0, 9, 12, 29)] :: zG) rm_L_partner 1 6 T := zMetW_of hl (by decide +kernel) rfl rfl rfl rfl (hs_L_partner hl h0) bd

def T_L_partner : List ZV → ZM → ZRet → Prop := fun av M K => ∃ (G : Gm) (w : Int), av = [zo 64, zi w, zo 681] ∧ (zW M 681 23 ∧ zLn M 681 = 1) ∧ (LV M) ∧ (TR M 129 G) ∧ (GI G) ∧ (GV G) ∧ (GX G) ∧  ((c_partner G w = 0) → K (some (zi 0)) (zsI M 681 0 (v_partner G w))) ∧ ((c_partner G w = 1) → K (some (zi 1)) M)
set_option maxRecDepth 100000 in
set_option maxHeartbeats 1500000 in
theorem bd_L_partner : zBdW (cd_L_partner T_X8_partner) 4 1 6 T_L_partner := by
  rintro av M K hA0 hM ⟨G, w, rfl, hOut, hL, hT, hG, hV9, hX9, hK, hX0⟩
  refine ⟨rfl, fun Φ hΦ => ?_⟩
  refine zGoR hΦ [] 400 (fun hL9 _ hM _ _ => ?_)
  obtain ⟨qL1, _⟩ : zrg w ∧ True := hL9
  refine ⟨⟨(by decide), (by decide)⟩, ⟨⟨rfl, rfl⟩, hL.w.rcv⟩, ⟨G, w, rfl, hL, hT, hG, hV9, hX9, fun (qc3 : c_partner G w = 0) => fun (qg1 : zrg (v_partner G w)) qm2 => ⟨zixW hOut.1 hOut.2 (i := 0) (by decide) (by decide), ⟨trivial, (show K (some (zi 0)) (zsI M 681 0 (v_partner G w)) from ?g523l1)⟩⟩, fun (qc4 : c_partner G w = 1) => (fun _ => ⟨13, 3, rfl, ⟨trivial, (hX0 (by assumption))⟩⟩)⟩⟩
  case g523l1 => exact hK qc3

theorem M_L_partner {l : Launch} (hl : l.stackTraces = false) : zMetW l yL_partner (Cond.codeWith yL_partner cL_partner 4 (Option.some Jvm.ClassFile.FieldType.int) [(0, 9, 12, 29)] :: zG) rm_L_partner 1 6 T_L_partner := met_L_partner hl (M_X8_partner hl) bd_L_partner

theorem gw_6_232 : Cond.code yX8_take cX8_take 3 (Option.some Jvm.ClassFile.FieldType.int) ∈ zG := zGt6 (List.mem_of_getElem? (i := 232) (by rfl)) rfl
theorem gw_6_229 : Cond.methodLink RL 102 yX8_take ∈ zG := zGt6 (List.mem_of_getElem? (i := 229) (by rfl)) rfl
theorem gw_6_230 : Cond.instanceMethod yX8_take ∈ zG := zGt6 (List.mem_of_getElem? (i := 230) (by rfl)) rfl
theorem gw_6_231 : Cond.selects RX8 yX8_take yX8_take ∈ zG := zGt6 (List.mem_of_getElem? (i := 231) (by rfl)) rfl
def hd_L_take (x : Nat) : Option (Nat × Nat) := if x = 0 then some (13, 3) else if x = 2 then some (16, 3) else none
theorem hHd_L_take : zHd cL_take 4 4 [(0, 9, 12, 29), (0, 9, 15, 13)] hd_L_take := by
  intro x h i q
  by_cases e0 : x = 0
  · subst e0
    have q' : some (13, 3) = some (h, i) := q
    cases q'
    exact ⟨by decide, 12, rfl, Or.inr ⟨3, rfl, by decide +kernel, rfl⟩⟩
  by_cases e2 : x = 2
  · subst e2
    have q' : some (16, 3) = some (h, i) := q
    cases q'
    exact ⟨by decide, 15, rfl, Or.inr ⟨3, rfl, by decide +kernel, rfl⟩⟩
  unfold hd_L_take at q
  rw [if_neg e0] at q
  rw [if_neg e2] at q
  cases q

abbrev rm_L_take : Room := { frames := 8, cells := 2, slots := 12, locals := 191 }
def cd_L_take (T0 : ZTf) : List (Nat × ZTr) := [(0, tAld 2 1), (1, tC (zi 0) 2), (2, tAld 0 3), (3, tIld 1 4), (4, tCallH 2 2 12 T0 (zRcv 11) hd_L_take 7), (7, tI2l 8), (8, tLas 9), (9, tGo 18), (13, tC (zi 1) 14), (14, tRi (fun _ => True)), (16, tC (zi 2) 17), (17, tRi (fun _ => True)), (18, tC (zi 0) 19), (19, tRi (fun _ => True))]
set_option maxRecDepth 100000 in
set_option maxHeartbeats 1500000 in
theorem hs_L_take {l : Launch} (hl : l.stackTraces = false) {T0 : ZTf} (h0 : zMet l yX8_take (Cond.code yX8_take cX8_take 3 (Option.some Jvm.ClassFile.FieldType.int) :: zG) rm_X8_take 2 12 T0) (p : Program) (e : Env) (s : State) (m : MethodId) (args : Array Value) (below : List Frame) (meth : Method) (c : Code) (D : va_G) (A : Nat → Prop) (a0 : Nat → Nat) (M0 : ZM) (K : ZRet) (KX : ZEx) (X : zCtx p l rm_L_take s m args meth c cL_take RL (Cond.codeWith yL_take cL_take 4 (Option.some Jvm.ClassFile.FieldType.int) [(0, 9, 12, 29), (0, 9, 15, 13)] :: zG) 4 (Option.some Jvm.ClassFile.FieldType.int) D A a0 M0 2 12) (htab : c.exceptionTable.toList = tableOf [(0, 9, 12, 29), (0, 9, 15, 13)]) (hNc : zNc0 s) : ∀ q ∈ cd_L_take T0, zSd p l e rm_L_take s m args below meth c 4 D A a0 M0 K KX 2 12 q.1 q.2 :=
  have hCx := zCx_of X (.tail _ gw_5_193) (.tail _ gw_5_164) (.tail _ gw_5_136) (.tail _ gw_7_174);
    zall_c (zs_aload_n X (pc := 0) (q := 2) rfl (by decide +kernel)) <|
    zall_c (zs_iconst X (pc := 1) (by decide) (by decide +kernel)) <|
    zall_c (zs_aload_n X (pc := 2) (q := 0) rfl (by decide +kernel)) <|
    zall_c (zs_iload_n X (pc := 3) (q := 1) rfl (by decide +kernel)) <|
    zall_c (zs_callVH X (pc := 4) zc_X8 (fun _ ht => ⟨(zCB ht gw_6_232 gw_1_1 gw_6_229 rfl rfl (by decide +kernel) ⟨Nat.le_of_ble_eq_true rfl, Nat.le_of_ble_eq_true rfl⟩), ht _ (.tail _ gw_6_230), ht _ (.tail _ gw_6_231)⟩) h0 htab hCx hNc hHd_L_take (by decide +kernel)) <|
    zall_c (zs_i2l X (pc := 7) (by decide +kernel)) <|
    zall_c (zs_lastore X (pc := 8) (by decide +kernel)) <|
    zall_c (zs_goto X (pc := 9) (off := 9) (by decide +kernel) (by decide)) <|
    zall_c (zs_iconst X (pc := 13) (by decide) (by decide +kernel)) <|
    zall_c (zs_iret X (pc := 14) rfl (by decide +kernel)) <|
    zall_c (zs_iconst X (pc := 16) (by decide) (by decide +kernel)) <|
    zall_c (zs_iret X (pc := 17) rfl (by decide +kernel)) <|
    zall_c (zs_iconst X (pc := 18) (by decide) (by decide +kernel)) <|
    zall_c (zs_iret X (pc := 19) rfl (by decide +kernel)) <|
    zall_n
theorem met_L_take {l : Launch} (hl : l.stackTraces = false) {T0 : ZTf} (h0 : zMet l yX8_take (Cond.code yX8_take cX8_take 3 (Option.some Jvm.ClassFile.FieldType.int) :: zG) rm_X8_take 2 12 T0) {T : List ZV → ZM → ZRet → Prop} (bd : zBdW (cd_L_take T0) 4 2 12 T) : zMetW l yL_take (Cond.codeWith yL_take cL_take 4 (Option.some Jvm.ClassFile.FieldType.int) [(0, 9, 12, 29), (0, 9, 15, 13)] :: zG) rm_L_take 2 12 T := zMetW_of hl (by decide +kernel) rfl rfl rfl rfl (hs_L_take hl h0) bd

def T_L_take : List ZV → ZM → ZRet → Prop := fun av M K => ∃ (G : Gm) (P : Int → Gm) (c : Int) (w : Int), av = [zo 64, zi w, zo 681] ∧ (zW M 681 23 ∧ zLn M 681 = 1) ∧ (LV M) ∧ (TR M 129 G) ∧ (GI G) ∧ (GV G) ∧ (GX G) ∧ (RQ M P c) ∧  ((c_take G w = 0) → (∀ M' : ZM, (Fr SCw M M') → (TR M' 129 (F_take G w)) → (RQ M' (pushP P G c) (pushC c)) → K (some (zi 0)) (zsI M' 681 0 (v_take G w)))) ∧ ((c_take G w = 1) → K (some (zi 1)) M) ∧ ((c_take G w = 2) → K (some (zi 2)) M)
set_option maxRecDepth 100000 in
set_option maxHeartbeats 1500000 in
theorem bd_L_take : zBdW (cd_L_take T_X8_take) 4 2 12 T_L_take := by
  rintro av M K hA0 hM ⟨G, P, c, w, rfl, hOut, hL, hT, hG, hV9, hX9, hq, hK, hX0, hX2⟩
  refine ⟨rfl, fun Φ hΦ => ?_⟩
  refine zGoR hΦ [] 400 (fun hL9 _ hM _ _ => ?_)
  obtain ⟨qL1, _⟩ : zrg w ∧ True := hL9
  refine ⟨⟨(by decide), (by decide)⟩, ⟨⟨rfl, rfl⟩, hL.w.rcv⟩, ⟨G, P, c, w, rfl, hL, hT, hG, hV9, hX9, hq, fun (qc3 : c_take G w = 0) => fun M1 hf1 hT1 hq91 => (have hOw1 : zW M1 681 23 := hOut.1.fr hf1; have hOl1 : zLn M1 681 = 1 := Fr.ln hf1 hOut.1 hOut.2; fun (qg1 : zrg (v_take G w)) qm2 => ⟨zixW hOw1 hOl1 (i := 0) (by decide) (by decide), ⟨trivial, (show K (some (zi 0)) (zsI M1 681 0 (v_take G w)) from ?g524l1)⟩⟩), fun (qc4 : c_take G w = 1) => (fun _ => ⟨13, 3, rfl, ⟨trivial, (hX0 (by assumption))⟩⟩), fun (qc5 : c_take G w = 2) => (fun _ => ⟨16, 3, rfl, ⟨trivial, (hX2 (by assumption))⟩⟩)⟩⟩
  case g524l1 => exact hK qc3 M1 hf1 hT1 hq91

theorem M_L_take {l : Launch} (hl : l.stackTraces = false) : zMetW l yL_take (Cond.codeWith yL_take cL_take 4 (Option.some Jvm.ClassFile.FieldType.int) [(0, 9, 12, 29), (0, 9, 15, 13)] :: zG) rm_L_take 2 12 T_L_take := met_L_take hl (M_X8_take hl) bd_L_take

theorem gw_7_12 : Cond.code yX8_takeRow cX8_takeRow 3 (Option.some Jvm.ClassFile.FieldType.int) ∈ zG := zGt7 (List.mem_of_getElem? (i := 12) (by rfl)) rfl
theorem gw_7_9 : Cond.methodLink RL 105 yX8_takeRow ∈ zG := zGt7 (List.mem_of_getElem? (i := 9) (by rfl)) rfl
theorem gw_7_10 : Cond.instanceMethod yX8_takeRow ∈ zG := zGt7 (List.mem_of_getElem? (i := 10) (by rfl)) rfl
theorem gw_7_11 : Cond.selects RX8 yX8_takeRow yX8_takeRow ∈ zG := zGt7 (List.mem_of_getElem? (i := 11) (by rfl)) rfl
def hd_L_takeRow (x : Nat) : Option (Nat × Nat) := if x = 0 then some (15, 4) else if x = 2 then some (19, 4) else none
theorem hHd_L_takeRow : zHd cL_takeRow 5 5 [(0, 10, 13, 29), (0, 10, 17, 13)] hd_L_takeRow := by
  intro x h i q
  by_cases e0 : x = 0
  · subst e0
    have q' : some (15, 4) = some (h, i) := q
    cases q'
    exact ⟨by decide, 13, rfl, Or.inl ⟨by decide +kernel, rfl⟩⟩
  by_cases e2 : x = 2
  · subst e2
    have q' : some (19, 4) = some (h, i) := q
    cases q'
    exact ⟨by decide, 17, rfl, Or.inl ⟨by decide +kernel, rfl⟩⟩
  unfold hd_L_takeRow at q
  rw [if_neg e0] at q
  rw [if_neg e2] at q
  cases q

abbrev rm_L_takeRow : Room := { frames := 8, cells := 3, slots := 18, locals := 146 }
def cd_L_takeRow (T0 : ZTf) : List (Nat × ZTr) := [(0, tAld 3 1), (1, tC (zi 0) 2), (2, tAld 0 3), (3, tIld 1 4), (4, tIld 2 5), (5, tCallH 3 3 18 T0 (zRcv 11) hd_L_takeRow 8), (8, tI2l 9), (9, tLas 10), (10, tGo 21), (15, tC (zi 1) 16), (16, tRi (fun _ => True)), (19, tC (zi 2) 20), (20, tRi (fun _ => True)), (21, tC (zi 0) 22), (22, tRi (fun _ => True))]
set_option maxRecDepth 100000 in
set_option maxHeartbeats 1500000 in
theorem hs_L_takeRow {l : Launch} (hl : l.stackTraces = false) {T0 : ZTf} (h0 : zMet l yX8_takeRow (Cond.code yX8_takeRow cX8_takeRow 3 (Option.some Jvm.ClassFile.FieldType.int) :: zG) rm_X8_takeRow 3 18 T0) (p : Program) (e : Env) (s : State) (m : MethodId) (args : Array Value) (below : List Frame) (meth : Method) (c : Code) (D : va_G) (A : Nat → Prop) (a0 : Nat → Nat) (M0 : ZM) (K : ZRet) (KX : ZEx) (X : zCtx p l rm_L_takeRow s m args meth c cL_takeRow RL (Cond.codeWith yL_takeRow cL_takeRow 5 (Option.some Jvm.ClassFile.FieldType.int) [(0, 10, 13, 29), (0, 10, 17, 13)] :: zG) 5 (Option.some Jvm.ClassFile.FieldType.int) D A a0 M0 3 18) (htab : c.exceptionTable.toList = tableOf [(0, 10, 13, 29), (0, 10, 17, 13)]) (hNc : zNc0 s) : ∀ q ∈ cd_L_takeRow T0, zSd p l e rm_L_takeRow s m args below meth c 5 D A a0 M0 K KX 3 18 q.1 q.2 :=
  have hCx := zCx_of X (.tail _ gw_5_193) (.tail _ gw_5_164) (.tail _ gw_5_136) (.tail _ gw_7_174);
    zall_c (zs_aload_n X (pc := 0) (q := 3) rfl (by decide +kernel)) <|
    zall_c (zs_iconst X (pc := 1) (by decide) (by decide +kernel)) <|
    zall_c (zs_aload_n X (pc := 2) (q := 0) rfl (by decide +kernel)) <|
    zall_c (zs_iload_n X (pc := 3) (q := 1) rfl (by decide +kernel)) <|
    zall_c (zs_iload_n X (pc := 4) (q := 2) rfl (by decide +kernel)) <|
    zall_c (zs_callVH X (pc := 5) zc_X8 (fun _ ht => ⟨(zCB ht gw_7_12 gw_1_1 gw_7_9 rfl rfl (by decide +kernel) ⟨Nat.le_of_ble_eq_true rfl, Nat.le_of_ble_eq_true rfl⟩), ht _ (.tail _ gw_7_10), ht _ (.tail _ gw_7_11)⟩) h0 htab hCx hNc hHd_L_takeRow (by decide +kernel)) <|
    zall_c (zs_i2l X (pc := 8) (by decide +kernel)) <|
    zall_c (zs_lastore X (pc := 9) (by decide +kernel)) <|
    zall_c (zs_goto X (pc := 10) (off := 11) (by decide +kernel) (by decide)) <|
    zall_c (zs_iconst X (pc := 15) (by decide) (by decide +kernel)) <|
    zall_c (zs_iret X (pc := 16) rfl (by decide +kernel)) <|
    zall_c (zs_iconst X (pc := 19) (by decide) (by decide +kernel)) <|
    zall_c (zs_iret X (pc := 20) rfl (by decide +kernel)) <|
    zall_c (zs_iconst X (pc := 21) (by decide) (by decide +kernel)) <|
    zall_c (zs_iret X (pc := 22) rfl (by decide +kernel)) <|
    zall_n
theorem met_L_takeRow {l : Launch} (hl : l.stackTraces = false) {T0 : ZTf} (h0 : zMet l yX8_takeRow (Cond.code yX8_takeRow cX8_takeRow 3 (Option.some Jvm.ClassFile.FieldType.int) :: zG) rm_X8_takeRow 3 18 T0) {T : List ZV → ZM → ZRet → Prop} (bd : zBdW (cd_L_takeRow T0) 5 3 18 T) : zMetW l yL_takeRow (Cond.codeWith yL_takeRow cL_takeRow 5 (Option.some Jvm.ClassFile.FieldType.int) [(0, 10, 13, 29), (0, 10, 17, 13)] :: zG) rm_L_takeRow 3 18 T := zMetW_of hl (by decide +kernel) rfl rfl rfl rfl (hs_L_takeRow hl h0) bd

def T_L_takeRow : List ZV → ZM → ZRet → Prop := fun av M K => ∃ (G : Gm) (P : Int → Gm) (c : Int) (w r : Int), av = [zo 64, zi w, zi r, zo 681] ∧ (zW M 681 23 ∧ zLn M 681 = 1) ∧ (LV M) ∧ (TR M 129 G) ∧ (GI G) ∧ (GV G) ∧ (GX G) ∧ (RQ M P c) ∧  ((c_takeRow G w r = 0) → (∀ M' : ZM, (Fr SCw M M') → (TR M' 129 (F_takeRow G w r)) → (RQ M' (pushP P G c) (pushC c)) → K (some (zi 0)) (zsI M' 681 0 (v_takeRow G w r)))) ∧ ((c_takeRow G w r = 1) → K (some (zi 1)) M) ∧ ((c_takeRow G w r = 2) → K (some (zi 2)) M)
set_option maxRecDepth 100000 in
set_option maxHeartbeats 1500000 in
theorem bd_L_takeRow : zBdW (cd_L_takeRow T_X8_takeRow) 5 3 18 T_L_takeRow := by
  rintro av M K hA0 hM ⟨G, P, c, w, r, rfl, hOut, hL, hT, hG, hV9, hX9, hq, hK, hX0, hX2⟩
  refine ⟨rfl, fun Φ hΦ => ?_⟩
  refine zGoR hΦ [] 400 (fun hL9 _ hM _ _ => ?_)
  obtain ⟨qL1, qL2, _⟩ : zrg w ∧ zrg r ∧ True := hL9
  refine ⟨⟨(by decide), (by decide)⟩, ⟨⟨rfl, rfl⟩, hL.w.rcv⟩, ⟨G, P, c, w, r, rfl, hL, hT, hG, hV9, hX9, hq, fun (qc3 : c_takeRow G w r = 0) => fun M1 hf1 hT1 hq91 => (have hOw1 : zW M1 681 23 := hOut.1.fr hf1; have hOl1 : zLn M1 681 = 1 := Fr.ln hf1 hOut.1 hOut.2; fun (qg1 : zrg (v_takeRow G w r)) qm2 => ⟨zixW hOw1 hOl1 (i := 0) (by decide) (by decide), ⟨trivial, (show K (some (zi 0)) (zsI M1 681 0 (v_takeRow G w r)) from ?g525l1)⟩⟩), fun (qc4 : c_takeRow G w r = 1) => (fun _ => ⟨15, 4, rfl, ⟨trivial, (hX0 (by assumption))⟩⟩), fun (qc5 : c_takeRow G w r = 2) => (fun _ => ⟨19, 4, rfl, ⟨trivial, (hX2 (by assumption))⟩⟩)⟩⟩
  case g525l1 => exact hK qc3 M1 hf1 hT1 hq91

theorem M_L_takeRow {l : Launch} (hl : l.stackTraces = false) : zMetW l yL_takeRow (Cond.codeWith yL_takeRow cL_takeRow 5 (Option.some Jvm.ClassFile.FieldType.int) [(0, 10, 13, 29), (0, 10, 17, 13)] :: zG) rm_L_takeRow 3 18 T_L_takeRow := met_L_takeRow hl (M_X8_takeRow hl) bd_L_takeRow
