/-! the law: the wrappers, first -/
theorem acc_g : ∀ x : Fin 25, ∀ y : Fin 25, y.val = 0 ∨ ((FP.f2d (FP.fdiv (FP.i2f (Int32.ofInt (x.val : Int))) (FP.i2f (Int32.ofInt (y.val : Int))))) &&& 0x7fffffffffffffff ≤ 0x7ff0000000000000 ∧ (Op.cmpValue (FP.dcmp (FP.f2d (FP.fdiv (FP.i2f (Int32.ofInt (x.val : Int))) (FP.i2f (Int32.ofInt (y.val : Int))))) (FP.f2d (FP.fdiv (FP.i2f (Int32.ofInt (x.val : Int))) (FP.i2f (Int32.ofInt (y.val : Int)))))) .l).toInt = 0) := by decide +kernel
theorem acc_0 : ((FP.f2d FP.fconst0) &&& 0x7fffffffffffffff ≤ 0x7ff0000000000000 ∧ (Op.cmpValue (FP.dcmp (FP.f2d FP.fconst0) (FP.f2d FP.fconst0)) .l).toInt = 0) := by decide +kernel
theorem mean_g : ∀ x : Fin 121, ∀ y : Fin 7, y.val = 0 ∨ (Op.cmpValue (FP.dcmp (FP.ddiv (FP.i2d (Int32.ofInt (x.val : Int))) (FP.i2d (Int32.ofInt (y.val : Int)))) (FP.ddiv (FP.i2d (Int32.ofInt (x.val : Int))) (FP.i2d (Int32.ofInt (y.val : Int))))) .l).toInt = 0 := by decide +kernel
theorem mean_0 : (Op.cmpValue (FP.dcmp FP.dconst0 FP.dconst0) .l).toInt = 0 := by decide +kernel
theorem vacc_ok {G : Gm} {w : Int} (hG : GI G) : vf_n64 (FP.f2d (v_accuracy G w)) ∧ (Op.cmpValue (FP.dcmp (FP.f2d (v_accuracy G w)) (FP.f2d (v_accuracy G w))) .l).toInt = 0 := by
  obtain ⟨hw5, hr5, hR5⟩ := hG
  unfold v_accuracy
  split
  · split
    · exact acc_0
    · next hz =>
      have h1 := cntI_r (fAccM G w) (G 5) hr5.1
      have h2 := cntI_r (fAccR G w) (G 5) hr5.1
      have h3 := fAcc_le G w hr5.1
      have h := acc_g ⟨(cntI (fAccR G w) (G 5)).toNat, by omega⟩ ⟨(cntI (fAccM G w) (G 5)).toNat, by omega⟩
      rcases h with h | h
      · exact absurd h (by show ¬ (cntI (fAccM G w) (G 5)).toNat = 0; omega)
      · rw [show (((⟨(cntI (fAccR G w) (G 5)).toNat, by omega⟩ : Fin 25).val : Nat) : Int) = cntI (fAccR G w) (G 5) by show (((cntI (fAccR G w) (G 5)).toNat : Nat) : Int) = _; omega, show (((⟨(cntI (fAccM G w) (G 5)).toNat, by omega⟩ : Fin 25).val : Nat) : Int) = cntI (fAccM G w) (G 5) by show (((cntI (fAccM G w) (G 5)).toNat : Nat) : Int) = _; omega] at h
        exact h
  · exact acc_0
theorem gw_5_140 : Cond.code yX8_append cX8_append 6 (Option.some Jvm.ClassFile.FieldType.int) ∈ zG := zGt5 (List.mem_of_getElem? (i := 140) (by rfl)) rfl
theorem gw_5_137 : Cond.methodLink RL 7 yX8_append ∈ zG := zGt5 (List.mem_of_getElem? (i := 137) (by rfl)) rfl
theorem gw_5_138 : Cond.instanceMethod yX8_append ∈ zG := zGt5 (List.mem_of_getElem? (i := 138) (by rfl)) rfl
theorem gw_5_139 : Cond.selects RX8 yX8_append yX8_append ∈ zG := zGt5 (List.mem_of_getElem? (i := 139) (by rfl)) rfl
theorem gw_5_193 : Cond.classLink RL 29 "java/lang/IndexOutOfBoundsException" ∈ zG := zGt5 (List.mem_of_getElem? (i := 193) (by rfl)) rfl
theorem gw_5_164 : Cond.classLink RL 19 "java/lang/IllegalArgumentException" ∈ zG := zGt5 (List.mem_of_getElem? (i := 164) (by rfl)) rfl
theorem gw_5_136 : Cond.classLink RL 13 "java/lang/IllegalStateException" ∈ zG := zGt5 (List.mem_of_getElem? (i := 136) (by rfl)) rfl
theorem gw_7_174 : Cond.classLink RL 149 "java/util/NoSuchElementException" ∈ zG := zGt7 (List.mem_of_getElem? (i := 174) (by rfl)) rfl
def hd_L_append (x : Nat) : Option (Nat × Nat) := if x = 2 then some (21, 7) else none
theorem hHd_L_append : zHd cL_append 8 11 [(0, 16, 19, 13)] hd_L_append := by
  intro x h i q
  by_cases e2 : x = 2
  · subst e2
    have q' : some (21, 7) = some (h, i) := q
    cases q'
    exact ⟨by decide, 19, rfl, Or.inl ⟨by decide +kernel, rfl⟩⟩
  unfold hd_L_append at q
  rw [if_neg e2] at q
  cases q

abbrev rm_L_append : Room := { frames := 7, cells := 1, slots := 6, locals := 115 }
def cd_L_append (T0 : ZTf) : List (Nat × ZTr) := [(0, tAld 6 2), (2, tC (zi 0) 3), (3, tAld 0 4), (4, tIld 1 5), (5, tIld 2 6), (6, tIld 3 7), (7, tIld 4 9), (9, tIld 5 11), (11, tCallH 6 1 6 T0 (zRcv 11) hd_L_append 14), (14, tI2l 15), (15, tLas 16), (16, tGo 23), (21, tC (zi 1) 22), (22, tRi (fun _ => True)), (23, tC (zi 0) 24), (24, tRi (fun _ => True))]
set_option maxRecDepth 100000 in
set_option maxHeartbeats 1500000 in
theorem hs_L_append {l : Launch} (hl : l.stackTraces = false) {T0 : ZTf} (h0 : zMet l yX8_append (Cond.code yX8_append cX8_append 6 (Option.some Jvm.ClassFile.FieldType.int) :: zG) rm_X8_append 1 6 T0) (p : Program) (e : Env) (s : State) (m : MethodId) (args : Array Value) (below : List Frame) (meth : Method) (c : Code) (D : va_G) (A : Nat → Prop) (a0 : Nat → Nat) (M0 : ZM) (K : ZRet) (KX : ZEx) (X : zCtx p l rm_L_append s m args meth c cL_append RL (Cond.codeWith yL_append cL_append 8 (Option.some Jvm.ClassFile.FieldType.int) [(0, 16, 19, 13)] :: zG) 8 (Option.some Jvm.ClassFile.FieldType.int) D A a0 M0 1 6) (htab : c.exceptionTable.toList = tableOf [(0, 16, 19, 13)]) (hNc : zNc0 s) : ∀ q ∈ cd_L_append T0, zSd p l e rm_L_append s m args below meth c 8 D A a0 M0 K KX 1 6 q.1 q.2 :=
  have hCx := zCx_of X (.tail _ gw_5_193) (.tail _ gw_5_164) (.tail _ gw_5_136) (.tail _ gw_7_174);
    zall_c (zs_aload X (pc := 0) (by decide +kernel)) <|
    zall_c (zs_iconst X (pc := 2) (by decide) (by decide +kernel)) <|
    zall_c (zs_aload_n X (pc := 3) (q := 0) rfl (by decide +kernel)) <|
    zall_c (zs_iload_n X (pc := 4) (q := 1) rfl (by decide +kernel)) <|
    zall_c (zs_iload_n X (pc := 5) (q := 2) rfl (by decide +kernel)) <|
    zall_c (zs_iload_n X (pc := 6) (q := 3) rfl (by decide +kernel)) <|
    zall_c (zs_iload X (pc := 7) (by decide +kernel)) <|
    zall_c (zs_iload X (pc := 9) (by decide +kernel)) <|
    zall_c (zs_callVH X (pc := 11) zc_X8 (fun _ ht => ⟨(zCB ht gw_5_140 gw_1_1 gw_5_137 rfl rfl (by decide +kernel) ⟨Nat.le_of_ble_eq_true rfl, Nat.le_of_ble_eq_true rfl⟩), ht _ (.tail _ gw_5_138), ht _ (.tail _ gw_5_139)⟩) h0 htab hCx hNc hHd_L_append (by decide +kernel)) <|
    zall_c (zs_i2l X (pc := 14) (by decide +kernel)) <|
    zall_c (zs_lastore X (pc := 15) (by decide +kernel)) <|
    zall_c (zs_goto X (pc := 16) (off := 7) (by decide +kernel) (by decide)) <|
    zall_c (zs_iconst X (pc := 21) (by decide) (by decide +kernel)) <|
    zall_c (zs_iret X (pc := 22) rfl (by decide +kernel)) <|
    zall_c (zs_iconst X (pc := 23) (by decide) (by decide +kernel)) <|
    zall_c (zs_iret X (pc := 24) rfl (by decide +kernel)) <|
    zall_n
theorem met_L_append {l : Launch} (hl : l.stackTraces = false) {T0 : ZTf} (h0 : zMet l yX8_append (Cond.code yX8_append cX8_append 6 (Option.some Jvm.ClassFile.FieldType.int) :: zG) rm_X8_append 1 6 T0) {T : List ZV → ZM → ZRet → Prop} (bd : zBdW (cd_L_append T0) 8 1 6 T) : zMetW l yL_append (Cond.codeWith yL_append cL_append 8 (Option.some Jvm.ClassFile.FieldType.int) [(0, 16, 19, 13)] :: zG) rm_L_append 1 6 T := zMetW_of hl (by decide +kernel) rfl rfl rfl rfl (hs_L_append hl h0) bd

def T_L_append : List ZV → ZM → ZRet → Prop := fun av M K => ∃ (B : Gm) (n a b c d e : Int), av = [zo 64, zi a, zi b, zi c, zi d, zi e, zo 681] ∧ (zW M 681 23 ∧ zLn M 681 = 1) ∧ (LV M) ∧ (CIn M B n) ∧  ((n + 20 ≤ 500) → (∀ M' : ZM, (Fr SIn M M') → (CIn M' (app20 B n a b c d e) (n + 20)) → K (some (zi 0)) (zsI M' 681 0 (n + 20)))) ∧ ((500 < n + 20) → K (some (zi 1)) M)
set_option maxRecDepth 100000 in
set_option maxHeartbeats 1500000 in
theorem bd_L_append : zBdW (cd_L_append T_X8_append) 8 1 6 T_L_append := by
  rintro av M K hA0 hM ⟨B, n, a, b, c, d, e, rfl, hOut, hL, hI, hK, hX2⟩
  refine ⟨rfl, fun Φ hΦ => ?_⟩
  refine zGoR hΦ [] 400 (fun hL9 _ hM _ _ => ?_)
  obtain ⟨qL1, qL2, qL3, qL4, qL5, _⟩ : zrg a ∧ zrg b ∧ zrg c ∧ zrg d ∧ zrg e ∧ True := hL9
  refine ⟨⟨(by decide), (by decide)⟩, ⟨⟨rfl, rfl⟩, hL.w.rcv⟩, ⟨B, n, a, b, c, d, e, rfl, hL, hI, fun (qc3 : n + 20 ≤ 500) => fun M1 hf1 hI1 => (have hOw1 : zW M1 681 23 := hOut.1.fr hf1; have hOl1 : zLn M1 681 = 1 := Fr.ln hf1 hOut.1 hOut.2; fun (qg1 : zrg (n + 20)) qm2 => ⟨zixW hOw1 hOl1 (i := 0) (by decide) (by decide), ⟨trivial, (show K (some (zi 0)) (zsI M1 681 0 (n + 20)) from ?g498l1)⟩⟩), fun (qc4 : 500 < n + 20) => (fun _ => ⟨21, 7, rfl, ⟨trivial, (hX2 (by assumption))⟩⟩)⟩⟩
  case g498l1 => exact hK qc3 M1 hf1 hI1

theorem M_L_append {l : Launch} (hl : l.stackTraces = false) : zMetW l yL_append (Cond.codeWith yL_append cL_append 8 (Option.some Jvm.ClassFile.FieldType.int) [(0, 16, 19, 13)] :: zG) rm_L_append 1 6 T_L_append := met_L_append hl (M_X8_append hl) bd_L_append

theorem gw_5_168 : Cond.code yX8_truncate cX8_truncate 2 (Option.none : Option Jvm.ClassFile.FieldType) ∈ zG := zGt5 (List.mem_of_getElem? (i := 168) (by rfl)) rfl
theorem gw_5_165 : Cond.methodLink RL 15 yX8_truncate ∈ zG := zGt5 (List.mem_of_getElem? (i := 165) (by rfl)) rfl
theorem gw_5_166 : Cond.instanceMethod yX8_truncate ∈ zG := zGt5 (List.mem_of_getElem? (i := 166) (by rfl)) rfl
theorem gw_5_167 : Cond.selects RX8 yX8_truncate yX8_truncate ∈ zG := zGt5 (List.mem_of_getElem? (i := 167) (by rfl)) rfl
def hd_L_truncate (x : Nat) : Option (Nat × Nat) := if x = 1 then some (9, 2) else none
theorem hHd_L_truncate : zHd cL_truncate 3 2 [(0, 5, 8, 19)] hd_L_truncate := by
  intro x h i q
  by_cases e1 : x = 1
  · subst e1
    have q' : some (9, 2) = some (h, i) := q
    cases q'
    exact ⟨by decide, 8, rfl, Or.inr ⟨2, rfl, by decide +kernel, rfl⟩⟩
  unfold hd_L_truncate at q
  rw [if_neg e1] at q
  cases q

abbrev rm_L_truncate : Room := { frames := 8, cells := 1, slots := 6, locals := 133 }
def cd_L_truncate (T0 : ZTf) : List (Nat × ZTr) := [(0, tAld 0 1), (1, tIld 1 2), (2, tCallH 2 1 6 T0 (zRcv 11) hd_L_truncate 5), (5, tGo 11), (9, tC (zi 1) 10), (10, tRi (fun _ => True)), (11, tC (zi 0) 12), (12, tRi (fun _ => True))]
set_option maxRecDepth 100000 in
set_option maxHeartbeats 1500000 in
theorem hs_L_truncate {l : Launch} (hl : l.stackTraces = false) {T0 : ZTf} (h0 : zMet l yX8_truncate (Cond.code yX8_truncate cX8_truncate 2 (Option.none : Option Jvm.ClassFile.FieldType) :: zG) rm_X8_truncate 1 6 T0) (p : Program) (e : Env) (s : State) (m : MethodId) (args : Array Value) (below : List Frame) (meth : Method) (c : Code) (D : va_G) (A : Nat → Prop) (a0 : Nat → Nat) (M0 : ZM) (K : ZRet) (KX : ZEx) (X : zCtx p l rm_L_truncate s m args meth c cL_truncate RL (Cond.codeWith yL_truncate cL_truncate 3 (Option.some Jvm.ClassFile.FieldType.int) [(0, 5, 8, 19)] :: zG) 3 (Option.some Jvm.ClassFile.FieldType.int) D A a0 M0 1 6) (htab : c.exceptionTable.toList = tableOf [(0, 5, 8, 19)]) (hNc : zNc0 s) : ∀ q ∈ cd_L_truncate T0, zSd p l e rm_L_truncate s m args below meth c 3 D A a0 M0 K KX 1 6 q.1 q.2 :=
  have hCx := zCx_of X (.tail _ gw_5_193) (.tail _ gw_5_164) (.tail _ gw_5_136) (.tail _ gw_7_174);
    zall_c (zs_aload_n X (pc := 0) (q := 0) rfl (by decide +kernel)) <|
    zall_c (zs_iload_n X (pc := 1) (q := 1) rfl (by decide +kernel)) <|
    zall_c (zs_callVH X (pc := 2) zc_X8 (fun _ ht => ⟨(zCB ht gw_5_168 gw_1_1 gw_5_165 rfl rfl (by decide +kernel) ⟨Nat.le_of_ble_eq_true rfl, Nat.le_of_ble_eq_true rfl⟩), ht _ (.tail _ gw_5_166), ht _ (.tail _ gw_5_167)⟩) h0 htab hCx hNc hHd_L_truncate (by decide +kernel)) <|
    zall_c (zs_goto X (pc := 5) (off := 6) (by decide +kernel) (by decide)) <|
    zall_c (zs_iconst X (pc := 9) (by decide) (by decide +kernel)) <|
    zall_c (zs_iret X (pc := 10) rfl (by decide +kernel)) <|
    zall_c (zs_iconst X (pc := 11) (by decide) (by decide +kernel)) <|
    zall_c (zs_iret X (pc := 12) rfl (by decide +kernel)) <|
    zall_n
theorem met_L_truncate {l : Launch} (hl : l.stackTraces = false) {T0 : ZTf} (h0 : zMet l yX8_truncate (Cond.code yX8_truncate cX8_truncate 2 (Option.none : Option Jvm.ClassFile.FieldType) :: zG) rm_X8_truncate 1 6 T0) {T : List ZV → ZM → ZRet → Prop} (bd : zBdW (cd_L_truncate T0) 3 1 6 T) : zMetW l yL_truncate (Cond.codeWith yL_truncate cL_truncate 3 (Option.some Jvm.ClassFile.FieldType.int) [(0, 5, 8, 19)] :: zG) rm_L_truncate 1 6 T := zMetW_of hl (by decide +kernel) rfl rfl rfl rfl (hs_L_truncate hl h0) bd

def T_L_truncate : List ZV → ZM → ZRet → Prop := fun av M K => ∃ (B : Gm) (n x : Int), av = [zo 64, zi x] ∧ (LV M) ∧ (CIn M B n) ∧  ((0 ≤ x ∧ x ≤ n) → (∀ M' : ZM, (Fr SIn M M') → (CIn M' B x) → K (some (zi 0)) M')) ∧ ((¬(0 ≤ x ∧ x ≤ n)) → K (some (zi 1)) M)
set_option maxRecDepth 100000 in
set_option maxHeartbeats 1500000 in
theorem bd_L_truncate : zBdW (cd_L_truncate T_X8_truncate) 3 1 6 T_L_truncate := by
  rintro av M K hA0 hM ⟨B, n, x, rfl, hL, hI, hK, hX1⟩
  refine ⟨rfl, fun Φ hΦ => ?_⟩
  refine zGoR hΦ [] 400 (fun hL9 _ hM _ _ => ?_)
  obtain ⟨qL1, _⟩ : zrg x ∧ True := hL9
  refine ⟨⟨(by decide), (by decide)⟩, ⟨⟨rfl, rfl⟩, hL.w.rcv⟩, ⟨B, n, x, rfl, hL, hI, fun (qc3 : 0 ≤ x ∧ x ≤ n) => fun M1 hf1 hI1 => (fun qg1 qm2 => ⟨trivial, (show K (some (zi 0)) M1 from ?g499l1)⟩), fun (qc4 : ¬(0 ≤ x ∧ x ≤ n)) => (fun _ => ⟨9, 2, rfl, ⟨trivial, (hX1 (by assumption))⟩⟩)⟩⟩
  case g499l1 => exact hK qc3 M1 hf1 hI1

theorem M_L_truncate {l : Launch} (hl : l.stackTraces = false) : zMetW l yL_truncate (Cond.codeWith yL_truncate cL_truncate 3 (Option.some Jvm.ClassFile.FieldType.int) [(0, 5, 8, 19)] :: zG) rm_L_truncate 1 6 T_L_truncate := met_L_truncate hl (M_X8_truncate hl) bd_L_truncate

theorem gw_5_178 : Cond.methodLink RL 21 yX8_property ∈ zG := zGt5 (List.mem_of_getElem? (i := 178) (by rfl)) rfl
def hd_L_property (x : Nat) : Option (Nat × Nat) := if x = 1 then some (13, 3) else none
theorem hHd_L_property : zHd cL_property 4 4 [(0, 9, 12, 19)] hd_L_property := by
  intro x h i q
  by_cases e1 : x = 1
  · subst e1
    have q' : some (13, 3) = some (h, i) := q
    cases q'
    exact ⟨by decide, 12, rfl, Or.inr ⟨3, rfl, by decide +kernel, rfl⟩⟩
  unfold hd_L_property at q
  rw [if_neg e1] at q
  cases q

abbrev rm_L_property : Room := { frames := 8, cells := 1, slots := 6, locals := 133 }
def cd_L_property (T0 : ZTf) : List (Nat × ZTr) := [(0, tAld 2 1), (1, tC (zi 0) 2), (2, tAld 0 3), (3, tIld 1 4), (4, tCallH 2 1 6 T0 (zRcv 11) hd_L_property 7), (7, tI2l 8), (8, tLas 9), (9, tGo 15), (13, tC (zi 1) 14), (14, tRi (fun _ => True)), (15, tC (zi 0) 16), (16, tRi (fun _ => True))]
set_option maxRecDepth 100000 in
set_option maxHeartbeats 1500000 in
theorem hs_L_property {l : Launch} (hl : l.stackTraces = false) {T0 : ZTf} (h0 : zMet l yX8_property (Cond.code yX8_property cX8_property 2 (Option.some Jvm.ClassFile.FieldType.int) :: zG) rm_X8_property 1 6 T0) (p : Program) (e : Env) (s : State) (m : MethodId) (args : Array Value) (below : List Frame) (meth : Method) (c : Code) (D : va_G) (A : Nat → Prop) (a0 : Nat → Nat) (M0 : ZM) (K : ZRet) (KX : ZEx) (X : zCtx p l rm_L_property s m args meth c cL_property RL (Cond.codeWith yL_property cL_property 4 (Option.some Jvm.ClassFile.FieldType.int) [(0, 9, 12, 19)] :: zG) 4 (Option.some Jvm.ClassFile.FieldType.int) D A a0 M0 1 6) (htab : c.exceptionTable.toList = tableOf [(0, 9, 12, 19)]) (hNc : zNc0 s) : ∀ q ∈ cd_L_property T0, zSd p l e rm_L_property s m args below meth c 4 D A a0 M0 K KX 1 6 q.1 q.2 :=
  have hCx := zCx_of X (.tail _ gw_5_193) (.tail _ gw_5_164) (.tail _ gw_5_136) (.tail _ gw_7_174);
    zall_c (zs_aload_n X (pc := 0) (q := 2) rfl (by decide +kernel)) <|
    zall_c (zs_iconst X (pc := 1) (by decide) (by decide +kernel)) <|
    zall_c (zs_aload_n X (pc := 2) (q := 0) rfl (by decide +kernel)) <|
    zall_c (zs_iload_n X (pc := 3) (q := 1) rfl (by decide +kernel)) <|
    zall_c (zs_callVH X (pc := 4) zc_X8 (fun _ ht => ⟨(zCB ht gw_5_181 gw_1_1 gw_5_178 rfl rfl (by decide +kernel) ⟨Nat.le_of_ble_eq_true rfl, Nat.le_of_ble_eq_true rfl⟩), ht _ (.tail _ gw_5_179), ht _ (.tail _ gw_5_180)⟩) h0 htab hCx hNc hHd_L_property (by decide +kernel)) <|
    zall_c (zs_i2l X (pc := 7) (by decide +kernel)) <|
    zall_c (zs_lastore X (pc := 8) (by decide +kernel)) <|
    zall_c (zs_goto X (pc := 9) (off := 6) (by decide +kernel) (by decide)) <|
    zall_c (zs_iconst X (pc := 13) (by decide) (by decide +kernel)) <|
    zall_c (zs_iret X (pc := 14) rfl (by decide +kernel)) <|
    zall_c (zs_iconst X (pc := 15) (by decide) (by decide +kernel)) <|
    zall_c (zs_iret X (pc := 16) rfl (by decide +kernel)) <|
    zall_n
theorem met_L_property {l : Launch} (hl : l.stackTraces = false) {T0 : ZTf} (h0 : zMet l yX8_property (Cond.code yX8_property cX8_property 2 (Option.some Jvm.ClassFile.FieldType.int) :: zG) rm_X8_property 1 6 T0) {T : List ZV → ZM → ZRet → Prop} (bd : zBdW (cd_L_property T0) 4 1 6 T) : zMetW l yL_property (Cond.codeWith yL_property cL_property 4 (Option.some Jvm.ClassFile.FieldType.int) [(0, 9, 12, 19)] :: zG) rm_L_property 1 6 T := zMetW_of hl (by decide +kernel) rfl rfl rfl rfl (hs_L_property hl h0) bd

def T_L_property : List ZV → ZM → ZRet → Prop := fun av M K => ∃ (G : Gm) (what : Int), av = [zo 64, zi what, zo 681] ∧ (zW M 681 23 ∧ zLn M 681 = 1) ∧ (LV M) ∧ (TR M 129 G) ∧ (GI G) ∧ (GV G) ∧ (GX G) ∧  ((c_property G what = 0) → K (some (zi 0)) (zsI M 681 0 (v_property G what))) ∧ ((c_property G what = 1) → K (some (zi 1)) M)
set_option maxRecDepth 100000 in
set_option maxHeartbeats 1500000 in
theorem bd_L_property : zBdW (cd_L_property T_X8_property) 4 1 6 T_L_property := by
  rintro av M K hA0 hM ⟨G, what, rfl, hOut, hL, hT, hG, hV9, hX9, hK, hX1⟩
  refine ⟨rfl, fun Φ hΦ => ?_⟩
  refine zGoR hΦ [] 400 (fun hL9 _ hM _ _ => ?_)
  obtain ⟨qL1, _⟩ : zrg what ∧ True := hL9
  refine ⟨⟨(by decide), (by decide)⟩, ⟨⟨rfl, rfl⟩, hL.w.rcv⟩, ⟨G, what, rfl, hL, hT, hG, hV9, hX9, fun (qc3 : c_property G what = 0) => fun (qg1 : zrg (v_property G what)) qm2 => ⟨zixW hOut.1 hOut.2 (i := 0) (by decide) (by decide), ⟨trivial, (show K (some (zi 0)) (zsI M 681 0 (v_property G what)) from ?g500l1)⟩⟩, fun (qc4 : c_property G what = 1) => (fun _ => ⟨13, 3, rfl, ⟨trivial, (hX1 (by assumption))⟩⟩)⟩⟩
  case g500l1 => exact hK qc3

theorem M_L_property {l : Launch} (hl : l.stackTraces = false) : zMetW l yL_property (Cond.codeWith yL_property cL_property 4 (Option.some Jvm.ClassFile.FieldType.int) [(0, 9, 12, 19)] :: zG) rm_L_property 1 6 T_L_property := met_L_property hl (M_X8_property hl) bd_L_property

theorem gw_5_197 : Cond.code yX8_worker cX8_worker 4 (Option.some Jvm.ClassFile.FieldType.int) ∈ zG := zGt5 (List.mem_of_getElem? (i := 197) (by rfl)) rfl
theorem gw_5_194 : Cond.methodLink RL 25 yX8_worker ∈ zG := zGt5 (List.mem_of_getElem? (i := 194) (by rfl)) rfl
theorem gw_5_195 : Cond.instanceMethod yX8_worker ∈ zG := zGt5 (List.mem_of_getElem? (i := 195) (by rfl)) rfl
theorem gw_5_196 : Cond.selects RX8 yX8_worker yX8_worker ∈ zG := zGt5 (List.mem_of_getElem? (i := 196) (by rfl)) rfl
def hd_L_worker (x : Nat) : Option (Nat × Nat) := if x = 0 then some (15, 4) else if x = 1 then some (19, 4) else none
theorem hHd_L_worker : zHd cL_worker 5 5 [(0, 10, 13, 29), (0, 10, 17, 19)] hd_L_worker := by
  intro x h i q
  by_cases e0 : x = 0
  · subst e0
    have q' : some (15, 4) = some (h, i) := q
    cases q'
    exact ⟨by decide, 13, rfl, Or.inl ⟨by decide +kernel, rfl⟩⟩
  by_cases e1 : x = 1
  · subst e1
    have q' : some (19, 4) = some (h, i) := q
    cases q'
    exact ⟨by decide, 17, rfl, Or.inl ⟨by decide +kernel, rfl⟩⟩
  unfold hd_L_worker at q
  rw [if_neg e0] at q
  rw [if_neg e1] at q
  cases q

abbrev rm_L_worker : Room := { frames := 8, cells := 2, slots := 12, locals := 135 }
def cd_L_worker (T0 : ZTf) : List (Nat × ZTr) := [(0, tAld 3 1), (1, tC (zi 0) 2), (2, tAld 0 3), (3, tIld 1 4), (4, tIld 2 5), (5, tCallH 3 2 12 T0 (zRcv 11) hd_L_worker 8), (8, tI2l 9), (9, tLas 10), (10, tGo 21), (15, tC (zi 1) 16), (16, tRi (fun _ => True)), (19, tC (zi 2) 20), (20, tRi (fun _ => True)), (21, tC (zi 0) 22), (22, tRi (fun _ => True))]
set_option maxRecDepth 100000 in
set_option maxHeartbeats 1500000 in
theorem hs_L_worker {l : Launch} (hl : l.stackTraces = false) {T0 : ZTf} (h0 : zMet l yX8_worker (Cond.code yX8_worker cX8_worker 4 (Option.some Jvm.ClassFile.FieldType.int) :: zG) rm_X8_worker 2 12 T0) (p : Program) (e : Env) (s : State) (m : MethodId) (args : Array Value) (below : List Frame) (meth : Method) (c : Code) (D : va_G) (A : Nat → Prop) (a0 : Nat → Nat) (M0 : ZM) (K : ZRet) (KX : ZEx) (X : zCtx p l rm_L_worker s m args meth c cL_worker RL (Cond.codeWith yL_worker cL_worker 5 (Option.some Jvm.ClassFile.FieldType.int) [(0, 10, 13, 29), (0, 10, 17, 19)] :: zG) 5 (Option.some Jvm.ClassFile.FieldType.int) D A a0 M0 2 12) (htab : c.exceptionTable.toList = tableOf [(0, 10, 13, 29), (0, 10, 17, 19)]) (hNc : zNc0 s) : ∀ q ∈ cd_L_worker T0, zSd p l e rm_L_worker s m args below meth c 5 D A a0 M0 K KX 2 12 q.1 q.2 :=
  have hCx := zCx_of X (.tail _ gw_5_193) (.tail _ gw_5_164) (.tail _ gw_5_136) (.tail _ gw_7_174);
    zall_c (zs_aload_n X (pc := 0) (q := 3) rfl (by decide +kernel)) <|
    zall_c (zs_iconst X (pc := 1) (by decide) (by decide +kernel)) <|
    zall_c (zs_aload_n X (pc := 2) (q := 0) rfl (by decide +kernel)) <|
    zall_c (zs_iload_n X (pc := 3) (q := 1) rfl (by decide +kernel)) <|
    zall_c (zs_iload_n X (pc := 4) (q := 2) rfl (by decide +kernel)) <|
    zall_c (zs_callVH X (pc := 5) zc_X8 (fun _ ht => ⟨(zCB ht gw_5_197 gw_1_1 gw_5_194 rfl rfl (by decide +kernel) ⟨Nat.le_of_ble_eq_true rfl, Nat.le_of_ble_eq_true rfl⟩), ht _ (.tail _ gw_5_195), ht _ (.tail _ gw_5_196)⟩) h0 htab hCx hNc hHd_L_worker (by decide +kernel)) <|
    zall_c (zs_i2l X (pc := 8) (by decide +kernel)) <|
    zall_c (zs_lastore X (pc := 9) (by decide +kernel)) <|
    zall_c (zs_goto X (pc := 10) (off := 11) (by decide +kernel) (by decide)) <|
    zall_c (zs_iconst X (pc := 15) (by decide) (by decide +kernel)) <|
    zall_c (zs_iret X (pc := 16) rfl (by decide +kernel)) <|
    zall_c (zs_iconst X (pc := 19) (by decide) (by decide +kernel)) <|
    zall_c (zs_iret X (pc := 20) rfl (by decide +kernel)) <|
    zall_c (zs_iconst X (pc := 21) (by decide) (by decide +kernel)) <|
    zall_c (zs_iret X (pc := 22) rfl (by decide +kernel)) <|
    zall_n
theorem met_L_worker {l : Launch} (hl : l.stackTraces = false) {T0 : ZTf} (h0 : zMet l yX8_worker (Cond.code yX8_worker cX8_worker 4 (Option.some Jvm.ClassFile.FieldType.int) :: zG) rm_X8_worker 2 12 T0) {T : List ZV → ZM → ZRet → Prop} (bd : zBdW (cd_L_worker T0) 5 2 12 T) : zMetW l yL_worker (Cond.codeWith yL_worker cL_worker 5 (Option.some Jvm.ClassFile.FieldType.int) [(0, 10, 13, 29), (0, 10, 17, 19)] :: zG) rm_L_worker 2 12 T := zMetW_of hl (by decide +kernel) rfl rfl rfl rfl (hs_L_worker hl h0) bd

def T_L_worker : List ZV → ZM → ZRet → Prop := fun av M K => ∃ (G : Gm) (w what : Int), av = [zo 64, zi w, zi what, zo 681] ∧ (zW M 681 23 ∧ zLn M 681 = 1) ∧ (LV M) ∧ (TR M 129 G) ∧ (GI G) ∧ (GV G) ∧ (GX G) ∧  ((c_worker G w what = 0) → K (some (zi 0)) (zsI M 681 0 (v_worker G w what))) ∧ ((c_worker G w what = 1) → K (some (zi 1)) M) ∧ ((c_worker G w what = 2) → K (some (zi 2)) M)
set_option maxRecDepth 100000 in
set_option maxHeartbeats 1500000 in
theorem bd_L_worker : zBdW (cd_L_worker T_X8_worker) 5 2 12 T_L_worker := by
  rintro av M K hA0 hM ⟨G, w, what, rfl, hOut, hL, hT, hG, hV9, hX9, hK, hX0, hX1⟩
  refine ⟨rfl, fun Φ hΦ => ?_⟩
  refine zGoR hΦ [] 400 (fun hL9 _ hM _ _ => ?_)
  obtain ⟨qL1, qL2, _⟩ : zrg w ∧ zrg what ∧ True := hL9
  refine ⟨⟨(by decide), (by decide)⟩, ⟨⟨rfl, rfl⟩, hL.w.rcv⟩, ⟨G, w, what, rfl, hL, hT, hG, hV9, hX9, fun (qc3 : c_worker G w what = 0) => fun (qg1 : zrg (v_worker G w what)) qm2 => ⟨zixW hOut.1 hOut.2 (i := 0) (by decide) (by decide), ⟨trivial, (show K (some (zi 0)) (zsI M 681 0 (v_worker G w what)) from ?g501l1)⟩⟩, fun (qc4 : c_worker G w what = 1) => (fun _ => ⟨15, 4, rfl, ⟨trivial, (hX0 (by assumption))⟩⟩), fun (qc5 : c_worker G w what = 2) => (fun _ => ⟨19, 4, rfl, ⟨trivial, (hX1 (by assumption))⟩⟩)⟩⟩
  case g501l1 => exact hK qc3

theorem M_L_worker {l : Launch} (hl : l.stackTraces = false) : zMetW l yL_worker (Cond.codeWith yL_worker cL_worker 5 (Option.some Jvm.ClassFile.FieldType.int) [(0, 10, 13, 29), (0, 10, 17, 19)] :: zG) rm_L_worker 2 12 T_L_worker := met_L_worker hl (M_X8_worker hl) bd_L_worker

theorem gw_5_221 : Cond.code yX8_row cX8_row 4 (Option.some Jvm.ClassFile.FieldType.int) ∈ zG := zGt5 (List.mem_of_getElem? (i := 221) (by rfl)) rfl
theorem gw_5_218 : Cond.methodLink RL 31 yX8_row ∈ zG := zGt5 (List.mem_of_getElem? (i := 218) (by rfl)) rfl
theorem gw_5_219 : Cond.instanceMethod yX8_row ∈ zG := zGt5 (List.mem_of_getElem? (i := 219) (by rfl)) rfl
theorem gw_5_220 : Cond.selects RX8 yX8_row yX8_row ∈ zG := zGt5 (List.mem_of_getElem? (i := 220) (by rfl)) rfl
def hd_L_row (x : Nat) : Option (Nat × Nat) := if x = 0 then some (15, 4) else if x = 1 then some (19, 4) else none
theorem hHd_L_row : zHd cL_row 5 5 [(0, 10, 13, 29), (0, 10, 17, 19)] hd_L_row := by
  intro x h i q
  by_cases e0 : x = 0
  · subst e0
    have q' : some (15, 4) = some (h, i) := q
    cases q'
    exact ⟨by decide, 13, rfl, Or.inl ⟨by decide +kernel, rfl⟩⟩
  by_cases e1 : x = 1
  · subst e1
    have q' : some (19, 4) = some (h, i) := q
    cases q'
    exact ⟨by decide, 17, rfl, Or.inl ⟨by decide +kernel, rfl⟩⟩
  unfold hd_L_row at q
  rw [if_neg e0] at q
  rw [if_neg e1] at q
  cases q

abbrev rm_L_row : Room := { frames := 8, cells := 2, slots := 12, locals := 135 }
def cd_L_row (T0 : ZTf) : List (Nat × ZTr) := [(0, tAld 3 1), (1, tC (zi 0) 2), (2, tAld 0 3), (3, tIld 1 4), (4, tIld 2 5), (5, tCallH 3 2 12 T0 (zRcv 11) hd_L_row 8), (8, tI2l 9), (9, tLas 10), (10, tGo 21), (15, tC (zi 1) 16), (16, tRi (fun _ => True)), (19, tC (zi 2) 20), (20, tRi (fun _ => True)), (21, tC (zi 0) 22), (22, tRi (fun _ => True))]
set_option maxRecDepth 100000 in
set_option maxHeartbeats 1500000 in
theorem hs_L_row {l : Launch} (hl : l.stackTraces = false) {T0 : ZTf} (h0 : zMet l yX8_row (Cond.code yX8_row cX8_row 4 (Option.some Jvm.ClassFile.FieldType.int) :: zG) rm_X8_row 2 12 T0) (p : Program) (e : Env) (s : State) (m : MethodId) (args : Array Value) (below : List Frame) (meth : Method) (c : Code) (D : va_G) (A : Nat → Prop) (a0 : Nat → Nat) (M0 : ZM) (K : ZRet) (KX : ZEx) (X : zCtx p l rm_L_row s m args meth c cL_row RL (Cond.codeWith yL_row cL_row 5 (Option.some Jvm.ClassFile.FieldType.int) [(0, 10, 13, 29), (0, 10, 17, 19)] :: zG) 5 (Option.some Jvm.ClassFile.FieldType.int) D A a0 M0 2 12) (htab : c.exceptionTable.toList = tableOf [(0, 10, 13, 29), (0, 10, 17, 19)]) (hNc : zNc0 s) : ∀ q ∈ cd_L_row T0, zSd p l e rm_L_row s m args below meth c 5 D A a0 M0 K KX 2 12 q.1 q.2 :=
  have hCx := zCx_of X (.tail _ gw_5_193) (.tail _ gw_5_164) (.tail _ gw_5_136) (.tail _ gw_7_174);
    zall_c (zs_aload_n X (pc := 0) (q := 3) rfl (by decide +kernel)) <|
    zall_c (zs_iconst X (pc := 1) (by decide) (by decide +kernel)) <|
    zall_c (zs_aload_n X (pc := 2) (q := 0) rfl (by decide +kernel)) <|
    zall_c (zs_iload_n X (pc := 3) (q := 1) rfl (by decide +kernel)) <|
    zall_c (zs_iload_n X (pc := 4) (q := 2) rfl (by decide +kernel)) <|
    zall_c (zs_callVH X (pc := 5) zc_X8 (fun _ ht => ⟨(zCB ht gw_5_221 gw_1_1 gw_5_218 rfl rfl (by decide +kernel) ⟨Nat.le_of_ble_eq_true rfl, Nat.le_of_ble_eq_true rfl⟩), ht _ (.tail _ gw_5_219), ht _ (.tail _ gw_5_220)⟩) h0 htab hCx hNc hHd_L_row (by decide +kernel)) <|
    zall_c (zs_i2l X (pc := 8) (by decide +kernel)) <|
    zall_c (zs_lastore X (pc := 9) (by decide +kernel)) <|
    zall_c (zs_goto X (pc := 10) (off := 11) (by decide +kernel) (by decide)) <|
    zall_c (zs_iconst X (pc := 15) (by decide) (by decide +kernel)) <|
    zall_c (zs_iret X (pc := 16) rfl (by decide +kernel)) <|
    zall_c (zs_iconst X (pc := 19) (by decide) (by decide +kernel)) <|
    zall_c (zs_iret X (pc := 20) rfl (by decide +kernel)) <|
    zall_c (zs_iconst X (pc := 21) (by decide) (by decide +kernel)) <|
    zall_c (zs_iret X (pc := 22) rfl (by decide +kernel)) <|
    zall_n
theorem met_L_row {l : Launch} (hl : l.stackTraces = false) {T0 : ZTf} (h0 : zMet l yX8_row (Cond.code yX8_row cX8_row 4 (Option.some Jvm.ClassFile.FieldType.int) :: zG) rm_X8_row 2 12 T0) {T : List ZV → ZM → ZRet → Prop} (bd : zBdW (cd_L_row T0) 5 2 12 T) : zMetW l yL_row (Cond.codeWith yL_row cL_row 5 (Option.some Jvm.ClassFile.FieldType.int) [(0, 10, 13, 29), (0, 10, 17, 19)] :: zG) rm_L_row 2 12 T := zMetW_of hl (by decide +kernel) rfl rfl rfl rfl (hs_L_row hl h0) bd

def T_L_row : List ZV → ZM → ZRet → Prop := fun av M K => ∃ (G : Gm) (r what : Int), av = [zo 64, zi r, zi what, zo 681] ∧ (zW M 681 23 ∧ zLn M 681 = 1) ∧ (LV M) ∧ (TR M 129 G) ∧ (GI G) ∧ (GV G) ∧ (GX G) ∧  ((c_row G r what = 0) → K (some (zi 0)) (zsI M 681 0 (v_row G r what))) ∧ ((c_row G r what = 1) → K (some (zi 1)) M) ∧ ((c_row G r what = 2) → K (some (zi 2)) M)
set_option maxRecDepth 100000 in
set_option maxHeartbeats 1500000 in
theorem bd_L_row : zBdW (cd_L_row T_X8_row) 5 2 12 T_L_row := by
  rintro av M K hA0 hM ⟨G, r, what, rfl, hOut, hL, hT, hG, hV9, hX9, hK, hX0, hX1⟩
  refine ⟨rfl, fun Φ hΦ => ?_⟩
  refine zGoR hΦ [] 400 (fun hL9 _ hM _ _ => ?_)
  obtain ⟨qL1, qL2, _⟩ : zrg r ∧ zrg what ∧ True := hL9
  refine ⟨⟨(by decide), (by decide)⟩, ⟨⟨rfl, rfl⟩, hL.w.rcv⟩, ⟨G, r, what, rfl, hL, hT, hG, hV9, hX9, fun (qc3 : c_row G r what = 0) => fun (qg1 : zrg (v_row G r what)) qm2 => ⟨zixW hOut.1 hOut.2 (i := 0) (by decide) (by decide), ⟨trivial, (show K (some (zi 0)) (zsI M 681 0 (v_row G r what)) from ?g502l1)⟩⟩, fun (qc4 : c_row G r what = 1) => (fun _ => ⟨15, 4, rfl, ⟨trivial, (hX0 (by assumption))⟩⟩), fun (qc5 : c_row G r what = 2) => (fun _ => ⟨19, 4, rfl, ⟨trivial, (hX1 (by assumption))⟩⟩)⟩⟩
  case g502l1 => exact hK qc3

theorem M_L_row {l : Launch} (hl : l.stackTraces = false) : zMetW l yL_row (Cond.codeWith yL_row cL_row 5 (Option.some Jvm.ClassFile.FieldType.int) [(0, 10, 13, 29), (0, 10, 17, 19)] :: zG) rm_L_row 2 12 T_L_row := met_L_row hl (M_X8_row hl) bd_L_row

theorem gw_5_234 : Cond.code yX8_taking cX8_taking 5 (Option.some Jvm.ClassFile.FieldType.int) ∈ zG := zGt5 (List.mem_of_getElem? (i := 234) (by rfl)) rfl
theorem gw_5_231 : Cond.methodLink RL 34 yX8_taking ∈ zG := zGt5 (List.mem_of_getElem? (i := 231) (by rfl)) rfl
theorem gw_5_232 : Cond.instanceMethod yX8_taking ∈ zG := zGt5 (List.mem_of_getElem? (i := 232) (by rfl)) rfl
theorem gw_5_233 : Cond.selects RX8 yX8_taking yX8_taking ∈ zG := zGt5 (List.mem_of_getElem? (i := 233) (by rfl)) rfl
def hd_L_taking (x : Nat) : Option (Nat × Nat) := if x = 0 then some (17, 5) else if x = 1 then some (21, 5) else none
theorem hHd_L_taking : zHd cL_taking 6 7 [(0, 12, 15, 29), (0, 12, 19, 19)] hd_L_taking := by
  intro x h i q
  by_cases e0 : x = 0
  · subst e0
    have q' : some (17, 5) = some (h, i) := q
    cases q'
    exact ⟨by decide, 15, rfl, Or.inl ⟨by decide +kernel, rfl⟩⟩
  by_cases e1 : x = 1
  · subst e1
    have q' : some (21, 5) = some (h, i) := q
    cases q'
    exact ⟨by decide, 19, rfl, Or.inl ⟨by decide +kernel, rfl⟩⟩
  unfold hd_L_taking at q
  rw [if_neg e0] at q
  rw [if_neg e1] at q
  cases q

abbrev rm_L_taking : Room := { frames := 8, cells := 3, slots := 18, locals := 136 }
def cd_L_taking (T0 : ZTf) : List (Nat × ZTr) := [(0, tAld 4 2), (2, tC (zi 0) 3), (3, tAld 0 4), (4, tIld 1 5), (5, tIld 2 6), (6, tIld 3 7), (7, tCallH 4 3 18 T0 (zRcv 11) hd_L_taking 10), (10, tI2l 11), (11, tLas 12), (12, tGo 23), (17, tC (zi 1) 18), (18, tRi (fun _ => True)), (21, tC (zi 2) 22), (22, tRi (fun _ => True)), (23, tC (zi 0) 24), (24, tRi (fun _ => True))]
set_option maxRecDepth 100000 in
set_option maxHeartbeats 1500000 in
theorem hs_L_taking {l : Launch} (hl : l.stackTraces = false) {T0 : ZTf} (h0 : zMet l yX8_taking (Cond.code yX8_taking cX8_taking 5 (Option.some Jvm.ClassFile.FieldType.int) :: zG) rm_X8_taking 3 18 T0) (p : Program) (e : Env) (s : State) (m : MethodId) (args : Array Value) (below : List Frame) (meth : Method) (c : Code) (D : va_G) (A : Nat → Prop) (a0 : Nat → Nat) (M0 : ZM) (K : ZRet) (KX : ZEx) (X : zCtx p l rm_L_taking s m args meth c cL_taking RL (Cond.codeWith yL_taking cL_taking 6 (Option.some Jvm.ClassFile.FieldType.int) [(0, 12, 15, 29), (0, 12, 19, 19)] :: zG) 6 (Option.some Jvm.ClassFile.FieldType.int) D A a0 M0 3 18) (htab : c.exceptionTable.toList = tableOf [(0, 12, 15, 29), (0, 12, 19, 19)]) (hNc : zNc0 s) : ∀ q ∈ cd_L_taking T0, zSd p l e rm_L_taking s m args below meth c 6 D A a0 M0 K KX 3 18 q.1 q.2 :=
  have hCx := zCx_of X (.tail _ gw_5_193) (.tail _ gw_5_164) (.tail _ gw_5_136) (.tail _ gw_7_174);
    zall_c (zs_aload X (pc := 0) (by decide +kernel)) <|
    zall_c (zs_iconst X (pc := 2) (by decide) (by decide +kernel)) <|
    zall_c (zs_aload_n X (pc := 3) (q := 0) rfl (by decide +kernel)) <|
    zall_c (zs_iload_n X (pc := 4) (q := 1) rfl (by decide +kernel)) <|
    zall_c (zs_iload_n X (pc := 5) (q := 2) rfl (by decide +kernel)) <|
    zall_c (zs_iload_n X (pc := 6) (q := 3) rfl (by decide +kernel)) <|
    zall_c (zs_callVH X (pc := 7) zc_X8 (fun _ ht => ⟨(zCB ht gw_5_234 gw_1_1 gw_5_231 rfl rfl (by decide +kernel) ⟨Nat.le_of_ble_eq_true rfl, Nat.le_of_ble_eq_true rfl⟩), ht _ (.tail _ gw_5_232), ht _ (.tail _ gw_5_233)⟩) h0 htab hCx hNc hHd_L_taking (by decide +kernel)) <|
    zall_c (zs_i2l X (pc := 10) (by decide +kernel)) <|
    zall_c (zs_lastore X (pc := 11) (by decide +kernel)) <|
    zall_c (zs_goto X (pc := 12) (off := 11) (by decide +kernel) (by decide)) <|
    zall_c (zs_iconst X (pc := 17) (by decide) (by decide +kernel)) <|
    zall_c (zs_iret X (pc := 18) rfl (by decide +kernel)) <|
    zall_c (zs_iconst X (pc := 21) (by decide) (by decide +kernel)) <|
    zall_c (zs_iret X (pc := 22) rfl (by decide +kernel)) <|
    zall_c (zs_iconst X (pc := 23) (by decide) (by decide +kernel)) <|
    zall_c (zs_iret X (pc := 24) rfl (by decide +kernel)) <|
    zall_n
theorem met_L_taking {l : Launch} (hl : l.stackTraces = false) {T0 : ZTf} (h0 : zMet l yX8_taking (Cond.code yX8_taking cX8_taking 5 (Option.some Jvm.ClassFile.FieldType.int) :: zG) rm_X8_taking 3 18 T0) {T : List ZV → ZM → ZRet → Prop} (bd : zBdW (cd_L_taking T0) 6 3 18 T) : zMetW l yL_taking (Cond.codeWith yL_taking cL_taking 6 (Option.some Jvm.ClassFile.FieldType.int) [(0, 12, 15, 29), (0, 12, 19, 19)] :: zG) rm_L_taking 3 18 T := zMetW_of hl (by decide +kernel) rfl rfl rfl rfl (hs_L_taking hl h0) bd

def T_L_taking : List ZV → ZM → ZRet → Prop := fun av M K => ∃ (G : Gm) (r k what : Int), av = [zo 64, zi r, zi k, zi what, zo 681] ∧ (zW M 681 23 ∧ zLn M 681 = 1) ∧ (LV M) ∧ (TR M 129 G) ∧ (GI G) ∧ (GV G) ∧ (GX G) ∧  ((c_taking G r k what = 0) → K (some (zi 0)) (zsI M 681 0 (v_taking G r k what))) ∧ ((c_taking G r k what = 1) → K (some (zi 1)) M) ∧ ((c_taking G r k what = 2) → K (some (zi 2)) M)
set_option maxRecDepth 100000 in
set_option maxHeartbeats 1500000 in
theorem bd_L_taking : zBdW (cd_L_taking T_X8_taking) 6 3 18 T_L_taking := by
  rintro av M K hA0 hM ⟨G, r, k, what, rfl, hOut, hL, hT, hG, hV9, hX9, hK, hX0, hX1⟩
  refine ⟨rfl, fun Φ hΦ => ?_⟩
  refine zGoR hΦ [] 400 (fun hL9 _ hM _ _ => ?_)
  obtain ⟨qL1, qL2, qL3, _⟩ : zrg r ∧ zrg k ∧ zrg what ∧ True := hL9
  refine ⟨⟨(by decide), (by decide)⟩, ⟨⟨rfl, rfl⟩, hL.w.rcv⟩, ⟨G, r, k, what, rfl, hL, hT, hG, hV9, hX9, fun (qc3 : c_taking G r k what = 0) => fun (qg1 : zrg (v_taking G r k what)) qm2 => ⟨zixW hOut.1 hOut.2 (i := 0) (by decide) (by decide), ⟨trivial, (show K (some (zi 0)) (zsI M 681 0 (v_taking G r k what)) from ?g503l1)⟩⟩, fun (qc4 : c_taking G r k what = 1) => (fun _ => ⟨17, 5, rfl, ⟨trivial, (hX0 (by assumption))⟩⟩), fun (qc5 : c_taking G r k what = 2) => (fun _ => ⟨21, 5, rfl, ⟨trivial, (hX1 (by assumption))⟩⟩)⟩⟩
  case g503l1 => exact hK qc3

theorem M_L_taking {l : Launch} (hl : l.stackTraces = false) : zMetW l yL_taking (Cond.codeWith yL_taking cL_taking 6 (Option.some Jvm.ClassFile.FieldType.int) [(0, 12, 15, 29), (0, 12, 19, 19)] :: zG) rm_L_taking 3 18 T_L_taking := met_L_taking hl (M_X8_taking hl) bd_L_taking

theorem gw_6_6 : Cond.code yX8_finishers cX8_finishers 3 (Option.some Jvm.ClassFile.FieldType.int) ∈ zG := zGt6 (List.mem_of_getElem? (i := 6) (by rfl)) rfl
theorem gw_6_3 : Cond.methodLink RL 38 yX8_finishers ∈ zG := zGt6 (List.mem_of_getElem? (i := 3) (by rfl)) rfl
theorem gw_6_4 : Cond.instanceMethod yX8_finishers ∈ zG := zGt6 (List.mem_of_getElem? (i := 4) (by rfl)) rfl
theorem gw_6_5 : Cond.selects RX8 yX8_finishers yX8_finishers ∈ zG := zGt6 (List.mem_of_getElem? (i := 5) (by rfl)) rfl
def hd_L_finishers (x : Nat) : Option (Nat × Nat) := if x = 0 then some (13, 3) else none
theorem hHd_L_finishers : zHd cL_finishers 4 4 [(0, 9, 12, 29)] hd_L_finishers := by
  intro x h i q
  by_cases e0 : x = 0
  · subst e0
    have q' : some (13, 3) = some (h, i) := q
    cases q'
    exact ⟨by decide, 12, rfl, Or.inr ⟨3, rfl, by decide +kernel, rfl⟩⟩
  unfold hd_L_finishers at q
  rw [if_neg e0] at q
  cases q

abbrev rm_L_finishers : Room := { frames := 8, cells := 1, slots := 6, locals := 133 }
def cd_L_finishers (T0 : ZTf) : List (Nat × ZTr) := [(0, tAld 2 1), (1, tC (zi 0) 2), (2, tAld 0 3), (3, tIld 1 4), (4, tCallH 2 1 6 T0 (zRcv 11) hd_L_finishers 7), (7, tI2l 8), (8, tLas 9), (9, tGo 15), (13, tC (zi 1) 14), (14, tRi (fun _ => True)), (15, tC (zi 0) 16), (16, tRi (fun _ => True))]
set_option maxRecDepth 100000 in
set_option maxHeartbeats 1500000 in
theorem hs_L_finishers {l : Launch} (hl : l.stackTraces = false) {T0 : ZTf} (h0 : zMet l yX8_finishers (Cond.code yX8_finishers cX8_finishers 3 (Option.some Jvm.ClassFile.FieldType.int) :: zG) rm_X8_finishers 1 6 T0) (p : Program) (e : Env) (s : State) (m : MethodId) (args : Array Value) (below : List Frame) (meth : Method) (c : Code) (D : va_G) (A : Nat → Prop) (a0 : Nat → Nat) (M0 : ZM) (K : ZRet) (KX : ZEx) (X : zCtx p l rm_L_finishers s m args meth c cL_finishers RL (Cond.codeWith yL_finishers cL_finishers 4 (Option.some Jvm.ClassFile.FieldType.int) [(0, 9, 12, 29)] :: zG) 4 (Option.some Jvm.ClassFile.FieldType.int) D A a0 M0 1 6) (htab : c.exceptionTable.toList = tableOf [(0, 9, 12, 29)]) (hNc : zNc0 s) : ∀ q ∈ cd_L_finishers T0, zSd p l e rm_L_finishers s m args below meth c 4 D A a0 M0 K KX 1 6 q.1 q.2 :=
  have hCx := zCx_of X (.tail _ gw_5_193) (.tail _ gw_5_164) (.tail _ gw_5_136) (.tail _ gw_7_174);
    zall_c (zs_aload_n X (pc := 0) (q := 2) rfl (by decide +kernel)) <|
    zall_c (zs_iconst X (pc := 1) (by decide) (by decide +kernel)) <|
    zall_c (zs_aload_n X (pc := 2) (q := 0) rfl (by decide +kernel)) <|
    zall_c (zs_iload_n X (pc := 3) (q := 1) rfl (by decide +kernel)) <|
    zall_c (zs_callVH X (pc := 4) zc_X8 (fun _ ht => ⟨(zCB ht gw_6_6 gw_1_1 gw_6_3 rfl rfl (by decide +kernel) ⟨Nat.le_of_ble_eq_true rfl, Nat.le_of_ble_eq_true rfl⟩), ht _ (.tail _ gw_6_4), ht _ (.tail _ gw_6_5)⟩) h0 htab hCx hNc hHd_L_finishers (by decide +kernel)) <|
    zall_c (zs_i2l X (pc := 7) (by decide +kernel)) <|
    zall_c (zs_lastore X (pc := 8) (by decide +kernel)) <|
    zall_c (zs_goto X (pc := 9) (off := 6) (by decide +kernel) (by decide)) <|
    zall_c (zs_iconst X (pc := 13) (by decide) (by decide +kernel)) <|
    zall_c (zs_iret X (pc := 14) rfl (by decide +kernel)) <|
    zall_c (zs_iconst X (pc := 15) (by decide) (by decide +kernel)) <|
    zall_c (zs_iret X (pc := 16) rfl (by decide +kernel)) <|
    zall_n
theorem met_L_finishers {l : Launch} (hl : l.stackTraces = false) {T0 : ZTf} (h0 : zMet l yX8_finishers (Cond.code yX8_finishers cX8_finishers 3 (Option.some Jvm.ClassFile.FieldType.int) :: zG) rm_X8_finishers 1 6 T0) {T : List ZV → ZM → ZRet → Prop} (bd : zBdW (cd_L_finishers T0) 4 1 6 T) : zMetW l yL_finishers (Cond.codeWith yL_finishers cL_finishers 4 (Option.some Jvm.ClassFile.FieldType.int) [(0, 9, 12, 29)] :: zG) rm_L_finishers 1 6 T := zMetW_of hl (by decide +kernel) rfl rfl rfl rfl (hs_L_finishers hl h0) bd

def T_L_finishers : List ZV → ZM → ZRet → Prop := fun av M K => ∃ (G : Gm) (r : Int), av = [zo 64, zi r, zo 681] ∧ (zW M 681 23 ∧ zLn M 681 = 1) ∧ (LV M) ∧ (TR M 129 G) ∧ (GI G) ∧ (GV G) ∧ (GX G) ∧ (0 ≤ r → r < G 5 → (G (132 + 16 * r + 1).toNat) ≠ 2 → (G (132 + 16 * r + 5).toNat) = 0) ∧  ((c_finishers G r = 0) → K (some (zi 0)) (zsI M 681 0 (v_finishers G r))) ∧ ((c_finishers G r = 1) → K (some (zi 1)) M)
set_option maxRecDepth 100000 in
set_option maxHeartbeats 1500000 in
theorem bd_L_finishers : zBdW (cd_L_finishers T_X8_finishers) 4 1 6 T_L_finishers := by
  rintro av M K hA0 hM ⟨G, r, rfl, hOut, hL, hT, hG, hV9, hX9, hf5, hK, hX0⟩
  refine ⟨rfl, fun Φ hΦ => ?_⟩
  refine zGoR hΦ [] 400 (fun hL9 _ hM _ _ => ?_)
  obtain ⟨qL1, _⟩ : zrg r ∧ True := hL9
  refine ⟨⟨(by decide), (by decide)⟩, ⟨⟨rfl, rfl⟩, hL.w.rcv⟩, ⟨G, r, rfl, hL, hT, hG, hV9, hX9, hf5, fun (qc3 : c_finishers G r = 0) => fun (qg1 : zrg (v_finishers G r)) qm2 => ⟨zixW hOut.1 hOut.2 (i := 0) (by decide) (by decide), ⟨trivial, (show K (some (zi 0)) (zsI M 681 0 (v_finishers G r)) from ?g504l1)⟩⟩, fun (qc4 : c_finishers G r = 1) => (fun _ => ⟨13, 3, rfl, ⟨trivial, (hX0 (by assumption))⟩⟩)⟩⟩
  case g504l1 => exact hK qc3

theorem M_L_finishers {l : Launch} (hl : l.stackTraces = false) : zMetW l yL_finishers (Cond.codeWith yL_finishers cL_finishers 4 (Option.some Jvm.ClassFile.FieldType.int) [(0, 9, 12, 29)] :: zG) rm_L_finishers 1 6 T_L_finishers := met_L_finishers hl (M_X8_finishers hl) bd_L_finishers

theorem gw_6_13 : Cond.code yX8_refusal cX8_refusal 3 (Option.some Jvm.ClassFile.FieldType.int) ∈ zG := zGt6 (List.mem_of_getElem? (i := 13) (by rfl)) rfl
theorem gw_6_10 : Cond.methodLink RL 41 yX8_refusal ∈ zG := zGt6 (List.mem_of_getElem? (i := 10) (by rfl)) rfl
theorem gw_6_11 : Cond.instanceMethod yX8_refusal ∈ zG := zGt6 (List.mem_of_getElem? (i := 11) (by rfl)) rfl
theorem gw_6_12 : Cond.selects RX8 yX8_refusal yX8_refusal ∈ zG := zGt6 (List.mem_of_getElem? (i := 12) (by rfl)) rfl
def hd_L_refusal (x : Nat) : Option (Nat × Nat) := if x = 0 then some (15, 4) else none
theorem hHd_L_refusal : zHd cL_refusal 5 5 [(0, 10, 13, 29)] hd_L_refusal := by
  intro x h i q
  by_cases e0 : x = 0
  · subst e0
    have q' : some (15, 4) = some (h, i) := q
    cases q'
    exact ⟨by decide, 13, rfl, Or.inl ⟨by decide +kernel, rfl⟩⟩
  unfold hd_L_refusal at q
  rw [if_neg e0] at q
  cases q

abbrev rm_L_refusal : Room := { frames := 8, cells := 2, slots := 12, locals := 143 }
def cd_L_refusal (T0 : ZTf) : List (Nat × ZTr) := [(0, tAld 3 1), (1, tC (zi 0) 2), (2, tAld 0 3), (3, tIld 1 4), (4, tIld 2 5), (5, tCallH 3 2 12 T0 (zRcv 11) hd_L_refusal 8), (8, tI2l 9), (9, tLas 10), (10, tGo 17), (15, tC (zi 1) 16), (16, tRi (fun _ => True)), (17, tC (zi 0) 18), (18, tRi (fun _ => True))]
set_option maxRecDepth 100000 in
set_option maxHeartbeats 1500000 in
theorem hs_L_refusal {l : Launch} (hl : l.stackTraces = false) {T0 : ZTf} (h0 : zMet l yX8_refusal (Cond.code yX8_refusal cX8_refusal 3 (Option.some Jvm.ClassFile.FieldType.int) :: zG) rm_X8_refusal 2 12 T0) (p : Program) (e : Env) (s : State) (m : MethodId) (args : Array Value) (below : List Frame) (meth : Method) (c : Code) (D : va_G) (A : Nat → Prop) (a0 : Nat → Nat) (M0 : ZM) (K : ZRet) (KX : ZEx) (X : zCtx p l rm_L_refusal s m args meth c cL_refusal RL (Cond.codeWith yL_refusal cL_refusal 5 (Option.some Jvm.ClassFile.FieldType.int) [(0, 10, 13, 29)] :: zG) 5 (Option.some Jvm.ClassFile.FieldType.int) D A a0 M0 2 12) (htab : c.exceptionTable.toList = tableOf [(0, 10, 13, 29)]) (hNc : zNc0 s) : ∀ q ∈ cd_L_refusal T0, zSd p l e rm_L_refusal s m args below meth c 5 D A a0 M0 K KX 2 12 q.1 q.2 :=
  have hCx := zCx_of X (.tail _ gw_5_193) (.tail _ gw_5_164) (.tail _ gw_5_136) (.tail _ gw_7_174);
    zall_c (zs_aload_n X (pc := 0) (q := 3) rfl (by decide +kernel)) <|
    zall_c (zs_iconst X (pc := 1) (by decide) (by decide +kernel)) <|
    zall_c (zs_aload_n X (pc := 2) (q := 0) rfl (by decide +kernel)) <|
    zall_c (zs_iload_n X (pc := 3) (q := 1) rfl (by decide +kernel)) <|
    zall_c (zs_iload_n X (pc := 4) (q := 2) rfl (by decide +kernel)) <|
    zall_c (zs_callVH X (pc := 5) zc_X8 (fun _ ht => ⟨(zCB ht gw_6_13 gw_1_1 gw_6_10 rfl rfl (by decide +kernel) ⟨Nat.le_of_ble_eq_true rfl, Nat.le_of_ble_eq_true rfl⟩), ht _ (.tail _ gw_6_11), ht _ (.tail _ gw_6_12)⟩) h0 htab hCx hNc hHd_L_refusal (by decide +kernel)) <|
    zall_c (zs_i2l X (pc := 8) (by decide +kernel)) <|
    zall_c (zs_lastore X (pc := 9) (by decide +kernel)) <|
    zall_c (zs_goto X (pc := 10) (off := 7) (by decide +kernel) (by decide)) <|
    zall_c (zs_iconst X (pc := 15) (by decide) (by decide +kernel)) <|
    zall_c (zs_iret X (pc := 16) rfl (by decide +kernel)) <|
    zall_c (zs_iconst X (pc := 17) (by decide) (by decide +kernel)) <|
    zall_c (zs_iret X (pc := 18) rfl (by decide +kernel)) <|
    zall_n
theorem met_L_refusal {l : Launch} (hl : l.stackTraces = false) {T0 : ZTf} (h0 : zMet l yX8_refusal (Cond.code yX8_refusal cX8_refusal 3 (Option.some Jvm.ClassFile.FieldType.int) :: zG) rm_X8_refusal 2 12 T0) {T : List ZV → ZM → ZRet → Prop} (bd : zBdW (cd_L_refusal T0) 5 2 12 T) : zMetW l yL_refusal (Cond.codeWith yL_refusal cL_refusal 5 (Option.some Jvm.ClassFile.FieldType.int) [(0, 10, 13, 29)] :: zG) rm_L_refusal 2 12 T := zMetW_of hl (by decide +kernel) rfl rfl rfl rfl (hs_L_refusal hl h0) bd

def T_L_refusal : List ZV → ZM → ZRet → Prop := fun av M K => ∃ (G : Gm) (w r : Int), av = [zo 64, zi w, zi r, zo 681] ∧ (zW M 681 23 ∧ zLn M 681 = 1) ∧ (LV M) ∧ (TR M 129 G) ∧ (GI G) ∧ (GV G) ∧ (GX G) ∧  ((c_refusal G w r = 0) → K (some (zi 0)) (zsI M 681 0 (v_refusal G w r))) ∧ ((c_refusal G w r = 1) → K (some (zi 1)) M)
set_option maxRecDepth 100000 in
set_option maxHeartbeats 1500000 in
theorem bd_L_refusal : zBdW (cd_L_refusal T_X8_refusal) 5 2 12 T_L_refusal := by
  rintro av M K hA0 hM ⟨G, w, r, rfl, hOut, hL, hT, hG, hV9, hX9, hK, hX0⟩
  refine ⟨rfl, fun Φ hΦ => ?_⟩
  refine zGoR hΦ [] 400 (fun hL9 _ hM _ _ => ?_)
  obtain ⟨qL1, qL2, _⟩ : zrg w ∧ zrg r ∧ True := hL9
  refine ⟨⟨(by decide), (by decide)⟩, ⟨⟨rfl, rfl⟩, hL.w.rcv⟩, ⟨G, w, r, rfl, hL, hT, hG, hV9, hX9, fun (qc3 : c_refusal G w r = 0) => fun (qg1 : zrg (v_refusal G w r)) qm2 => ⟨zixW hOut.1 hOut.2 (i := 0) (by decide) (by decide), ⟨trivial, (show K (some (zi 0)) (zsI M 681 0 (v_refusal G w r)) from ?g505l1)⟩⟩, fun (qc4 : c_refusal G w r = 1) => (fun _ => ⟨15, 4, rfl, ⟨trivial, (hX0 (by assumption))⟩⟩)⟩⟩
  case g505l1 => exact hK qc3

theorem M_L_refusal {l : Launch} (hl : l.stackTraces = false) : zMetW l yL_refusal (Cond.codeWith yL_refusal cL_refusal 5 (Option.some Jvm.ClassFile.FieldType.int) [(0, 10, 13, 29)] :: zG) rm_L_refusal 2 12 T_L_refusal := met_L_refusal hl (M_X8_refusal hl) bd_L_refusal

theorem gw_6_21 : Cond.code yX8_offers cX8_offers 2 (Option.some Jvm.ClassFile.FieldType.int) ∈ zG := zGt6 (List.mem_of_getElem? (i := 21) (by rfl)) rfl
theorem gw_6_18 : Cond.methodLink RL 44 yX8_offers ∈ zG := zGt6 (List.mem_of_getElem? (i := 18) (by rfl)) rfl
theorem gw_6_19 : Cond.instanceMethod yX8_offers ∈ zG := zGt6 (List.mem_of_getElem? (i := 19) (by rfl)) rfl
theorem gw_6_20 : Cond.selects RX8 yX8_offers yX8_offers ∈ zG := zGt6 (List.mem_of_getElem? (i := 20) (by rfl)) rfl
def hd_L_offers (x : Nat) : Option (Nat × Nat) := if x = 0 then some (13, 3) else none
theorem hHd_L_offers : zHd cL_offers 4 4 [(0, 9, 12, 29)] hd_L_offers := by
  intro x h i q
  by_cases e0 : x = 0
  · subst e0
    have q' : some (13, 3) = some (h, i) := q
    cases q'
    exact ⟨by decide, 12, rfl, Or.inr ⟨3, rfl, by decide +kernel, rfl⟩⟩
  unfold hd_L_offers at q
  rw [if_neg e0] at q
  cases q

abbrev rm_L_offers : Room := { frames := 8, cells := 1, slots := 6, locals := 165 }
def cd_L_offers (T0 : ZTf) : List (Nat × ZTr) := [(0, tAld 2 1), (1, tC (zi 0) 2), (2, tAld 0 3), (3, tIld 1 4), (4, tCallH 2 1 6 T0 (zRcv 11) hd_L_offers 7), (7, tI2l 8), (8, tLas 9), (9, tGo 15), (13, tC (zi 1) 14), (14, tRi (fun _ => True)), (15, tC (zi 0) 16), (16, tRi (fun _ => True))]
set_option maxRecDepth 100000 in
set_option maxHeartbeats 1500000 in
theorem hs_L_offers {l : Launch} (hl : l.stackTraces = false) {T0 : ZTf} (h0 : zMet l yX8_offers (Cond.code yX8_offers cX8_offers 2 (Option.some Jvm.ClassFile.FieldType.int) :: zG) rm_X8_offers 1 6 T0) (p : Program) (e : Env) (s : State) (m : MethodId) (args : Array Value) (below : List Frame) (meth : Method) (c : Code) (D : va_G) (A : Nat → Prop) (a0 : Nat → Nat) (M0 : ZM) (K : ZRet) (KX : ZEx) (X : zCtx p l rm_L_offers s m args meth c cL_offers RL (Cond.codeWith yL_offers cL_offers 4 (Option.some Jvm.ClassFile.FieldType.int) [(0, 9, 12, 29)] :: zG) 4 (Option.some Jvm.ClassFile.FieldType.int) D A a0 M0 1 6) (htab : c.exceptionTable.toList = tableOf [(0, 9, 12, 29)]) (hNc : zNc0 s) : ∀ q ∈ cd_L_offers T0, zSd p l e rm_L_offers s m args below meth c 4 D A a0 M0 K KX 1 6 q.1 q.2 :=
  have hCx := zCx_of X (.tail _ gw_5_193) (.tail _ gw_5_164) (.tail _ gw_5_136) (.tail _ gw_7_174);
    zall_c (zs_aload_n X (pc := 0) (q := 2) rfl (by decide +kernel)) <|
    zall_c (zs_iconst X (pc := 1) (by decide) (by decide +kernel)) <|
    zall_c (zs_aload_n X (pc := 2) (q := 0) rfl (by decide +kernel)) <|
    zall_c (zs_iload_n X (pc := 3) (q := 1) rfl (by decide +kernel)) <|
    zall_c (zs_callVH X (pc := 4) zc_X8 (fun _ ht => ⟨(zCB ht gw_6_21 gw_1_1 gw_6_18 rfl rfl (by decide +kernel) ⟨Nat.le_of_ble_eq_true rfl, Nat.le_of_ble_eq_true rfl⟩), ht _ (.tail _ gw_6_19), ht _ (.tail _ gw_6_20)⟩) h0 htab hCx hNc hHd_L_offers (by decide +kernel)) <|
    zall_c (zs_i2l X (pc := 7) (by decide +kernel)) <|
    zall_c (zs_lastore X (pc := 8) (by decide +kernel)) <|
    zall_c (zs_goto X (pc := 9) (off := 6) (by decide +kernel) (by decide)) <|
    zall_c (zs_iconst X (pc := 13) (by decide) (by decide +kernel)) <|
    zall_c (zs_iret X (pc := 14) rfl (by decide +kernel)) <|
    zall_c (zs_iconst X (pc := 15) (by decide) (by decide +kernel)) <|
    zall_c (zs_iret X (pc := 16) rfl (by decide +kernel)) <|
    zall_n
theorem met_L_offers {l : Launch} (hl : l.stackTraces = false) {T0 : ZTf} (h0 : zMet l yX8_offers (Cond.code yX8_offers cX8_offers 2 (Option.some Jvm.ClassFile.FieldType.int) :: zG) rm_X8_offers 1 6 T0) {T : List ZV → ZM → ZRet → Prop} (bd : zBdW (cd_L_offers T0) 4 1 6 T) : zMetW l yL_offers (Cond.codeWith yL_offers cL_offers 4 (Option.some Jvm.ClassFile.FieldType.int) [(0, 9, 12, 29)] :: zG) rm_L_offers 1 6 T := zMetW_of hl (by decide +kernel) rfl rfl rfl rfl (hs_L_offers hl h0) bd

def T_L_offers : List ZV → ZM → ZRet → Prop := fun av M K => ∃ (G : Gm) (w : Int), av = [zo 64, zi w, zo 681] ∧ (zW M 681 23 ∧ zLn M 681 = 1) ∧ (LV M) ∧ (TR M 129 G) ∧ (GI G) ∧ (GV G) ∧ (GX G) ∧  ((c_offers G w = 0) → K (some (zi 0)) (zsI M 681 0 (v_offers G w))) ∧ ((c_offers G w = 1) → K (some (zi 1)) M)
set_option maxRecDepth 100000 in
set_option maxHeartbeats 1500000 in
theorem bd_L_offers : zBdW (cd_L_offers T_X8_offers) 4 1 6 T_L_offers := by
  rintro av M K hA0 hM ⟨G, w, rfl, hOut, hL, hT, hG, hV9, hX9, hK, hX0⟩
  refine ⟨rfl, fun Φ hΦ => ?_⟩
  refine zGoR hΦ [] 400 (fun hL9 _ hM _ _ => ?_)
  obtain ⟨qL1, _⟩ : zrg w ∧ True := hL9
  refine ⟨⟨(by decide), (by decide)⟩, ⟨⟨rfl, rfl⟩, hL.w.rcv⟩, ⟨G, w, rfl, hL, hT, hG, hV9, hX9, fun (qc3 : c_offers G w = 0) => fun (qg1 : zrg (v_offers G w)) qm2 => ⟨zixW hOut.1 hOut.2 (i := 0) (by decide) (by decide), ⟨trivial, (show K (some (zi 0)) (zsI M 681 0 (v_offers G w)) from ?g506l1)⟩⟩, fun (qc4 : c_offers G w = 1) => (fun _ => ⟨13, 3, rfl, ⟨trivial, (hX0 (by assumption))⟩⟩)⟩⟩
  case g506l1 => exact hK qc3

theorem M_L_offers {l : Launch} (hl : l.stackTraces = false) : zMetW l yL_offers (Cond.codeWith yL_offers cL_offers 4 (Option.some Jvm.ClassFile.FieldType.int) [(0, 9, 12, 29)] :: zG) rm_L_offers 1 6 T_L_offers := met_L_offers hl (M_X8_offers hl) bd_L_offers

theorem gw_6_29 : Cond.code yX8_nextFor cX8_nextFor 2 (Option.some Jvm.ClassFile.FieldType.int) ∈ zG := zGt6 (List.mem_of_getElem? (i := 29) (by rfl)) rfl
theorem gw_6_26 : Cond.methodLink RL 47 yX8_nextFor ∈ zG := zGt6 (List.mem_of_getElem? (i := 26) (by rfl)) rfl
theorem gw_6_27 : Cond.instanceMethod yX8_nextFor ∈ zG := zGt6 (List.mem_of_getElem? (i := 27) (by rfl)) rfl
theorem gw_6_28 : Cond.selects RX8 yX8_nextFor yX8_nextFor ∈ zG := zGt6 (List.mem_of_getElem? (i := 28) (by rfl)) rfl
def hd_L_nextFor (x : Nat) : Option (Nat × Nat) := if x = 0 then some (13, 3) else none
theorem hHd_L_nextFor : zHd cL_nextFor 4 4 [(0, 9, 12, 29)] hd_L_nextFor := by
  intro x h i q
  by_cases e0 : x = 0
  · subst e0
    have q' : some (13, 3) = some (h, i) := q
    cases q'
    exact ⟨by decide, 12, rfl, Or.inr ⟨3, rfl, by decide +kernel, rfl⟩⟩
  unfold hd_L_nextFor at q
  rw [if_neg e0] at q
  cases q

abbrev rm_L_nextFor : Room := { frames := 8, cells := 1, slots := 6, locals := 190 }
def cd_L_nextFor (T0 : ZTf) : List (Nat × ZTr) := [(0, tAld 2 1), (1, tC (zi 0) 2), (2, tAld 0 3), (3, tIld 1 4), (4, tCallH 2 1 6 T0 (zRcv 11) hd_L_nextFor 7), (7, tI2l 8), (8, tLas 9), (9, tGo 15), (13, tC (zi 1) 14), (14, tRi (fun _ => True)), (15, tC (zi 0) 16), (16, tRi (fun _ => True))]
set_option maxRecDepth 100000 in
set_option maxHeartbeats 1500000 in
theorem hs_L_nextFor {l : Launch} (hl : l.stackTraces = false) {T0 : ZTf} (h0 : zMet l yX8_nextFor (Cond.code yX8_nextFor cX8_nextFor 2 (Option.some Jvm.ClassFile.FieldType.int) :: zG) rm_X8_nextFor 1 6 T0) (p : Program) (e : Env) (s : State) (m : MethodId) (args : Array Value) (below : List Frame) (meth : Method) (c : Code) (D : va_G) (A : Nat → Prop) (a0 : Nat → Nat) (M0 : ZM) (K : ZRet) (KX : ZEx) (X : zCtx p l rm_L_nextFor s m args meth c cL_nextFor RL (Cond.codeWith yL_nextFor cL_nextFor 4 (Option.some Jvm.ClassFile.FieldType.int) [(0, 9, 12, 29)] :: zG) 4 (Option.some Jvm.ClassFile.FieldType.int) D A a0 M0 1 6) (htab : c.exceptionTable.toList = tableOf [(0, 9, 12, 29)]) (hNc : zNc0 s) : ∀ q ∈ cd_L_nextFor T0, zSd p l e rm_L_nextFor s m args below meth c 4 D A a0 M0 K KX 1 6 q.1 q.2 :=
  have hCx := zCx_of X (.tail _ gw_5_193) (.tail _ gw_5_164) (.tail _ gw_5_136) (.tail _ gw_7_174);
    zall_c (zs_aload_n X (pc := 0) (q := 2) rfl (by decide +kernel)) <|
    zall_c (zs_iconst X (pc := 1) (by decide) (by decide +kernel)) <|
    zall_c (zs_aload_n X (pc := 2) (q := 0) rfl (by decide +kernel)) <|
    zall_c (zs_iload_n X (pc := 3) (q := 1) rfl (by decide +kernel)) <|
    zall_c (zs_callVH X (pc := 4) zc_X8 (fun _ ht => ⟨(zCB ht gw_6_29 gw_1_1 gw_6_26 rfl rfl (by decide +kernel) ⟨Nat.le_of_ble_eq_true rfl, Nat.le_of_ble_eq_true rfl⟩), ht _ (.tail _ gw_6_27), ht _ (.tail _ gw_6_28)⟩) h0 htab hCx hNc hHd_L_nextFor (by decide +kernel)) <|
    zall_c (zs_i2l X (pc := 7) (by decide +kernel)) <|
    zall_c (zs_lastore X (pc := 8) (by decide +kernel)) <|
    zall_c (zs_goto X (pc := 9) (off := 6) (by decide +kernel) (by decide)) <|
    zall_c (zs_iconst X (pc := 13) (by decide) (by decide +kernel)) <|
    zall_c (zs_iret X (pc := 14) rfl (by decide +kernel)) <|
    zall_c (zs_iconst X (pc := 15) (by decide) (by decide +kernel)) <|
    zall_c (zs_iret X (pc := 16) rfl (by decide +kernel)) <|
    zall_n
theorem met_L_nextFor {l : Launch} (hl : l.stackTraces = false) {T0 : ZTf} (h0 : zMet l yX8_nextFor (Cond.code yX8_nextFor cX8_nextFor 2 (Option.some Jvm.ClassFile.FieldType.int) :: zG) rm_X8_nextFor 1 6 T0) {T : List ZV → ZM → ZRet → Prop} (bd : zBdW (cd_L_nextFor T0) 4 1 6 T) : zMetW l yL_nextFor (Cond.codeWith yL_nextFor cL_nextFor 4 (Option.some Jvm.ClassFile.FieldType.int) [(0, 9, 12, 29)] :: zG) rm_L_nextFor 1 6 T := zMetW_of hl (by decide +kernel) rfl rfl rfl rfl (hs_L_nextFor hl h0) bd

def T_L_nextFor : List ZV → ZM → ZRet → Prop := fun av M K => ∃ (G : Gm) (w : Int), av = [zo 64, zi w, zo 681] ∧ (zW M 681 23 ∧ zLn M 681 = 1) ∧ (LV M) ∧ (TR M 129 G) ∧ (GI G) ∧ (GV G) ∧ (GX G) ∧  ((c_nextFor G w = 0) → K (some (zi 0)) (zsI M 681 0 (v_nextFor G w))) ∧ ((c_nextFor G w = 1) → K (some (zi 1)) M)
set_option maxRecDepth 100000 in
set_option maxHeartbeats 1500000 in
theorem bd_L_nextFor : zBdW (cd_L_nextFor T_X8_nextFor) 4 1 6 T_L_nextFor := by
  rintro av M K hA0 hM ⟨G, w, rfl, hOut, hL, hT, hG, hV9, hX9, hK, hX0⟩
  refine ⟨rfl, fun Φ hΦ => ?_⟩
  refine zGoR hΦ [] 400 (fun hL9 _ hM _ _ => ?_)
  obtain ⟨qL1, _⟩ : zrg w ∧ True := hL9
  refine ⟨⟨(by decide), (by decide)⟩, ⟨⟨rfl, rfl⟩, hL.w.rcv⟩, ⟨G, w, rfl, hL, hT, hG, hV9, hX9, fun (qc3 : c_nextFor G w = 0) => fun (qg1 : zrg (v_nextFor G w)) qm2 => ⟨zixW hOut.1 hOut.2 (i := 0) (by decide) (by decide), ⟨trivial, (show K (some (zi 0)) (zsI M 681 0 (v_nextFor G w)) from ?g507l1)⟩⟩, fun (qc4 : c_nextFor G w = 1) => (fun _ => ⟨13, 3, rfl, ⟨trivial, (hX0 (by assumption))⟩⟩)⟩⟩
  case g507l1 => exact hK qc3

theorem M_L_nextFor {l : Launch} (hl : l.stackTraces = false) : zMetW l yL_nextFor (Cond.codeWith yL_nextFor cL_nextFor 4 (Option.some Jvm.ClassFile.FieldType.int) [(0, 9, 12, 29)] :: zG) rm_L_nextFor 1 6 T_L_nextFor := met_L_nextFor hl (M_X8_nextFor hl) bd_L_nextFor

theorem gw_6_43 : Cond.code yX8_takers cX8_takers 2 (Option.some Jvm.ClassFile.FieldType.int) ∈ zG := zGt6 (List.mem_of_getElem? (i := 43) (by rfl)) rfl
theorem gw_6_40 : Cond.methodLink RL 50 yX8_takers ∈ zG := zGt6 (List.mem_of_getElem? (i := 40) (by rfl)) rfl
theorem gw_6_41 : Cond.instanceMethod yX8_takers ∈ zG := zGt6 (List.mem_of_getElem? (i := 41) (by rfl)) rfl
theorem gw_6_42 : Cond.selects RX8 yX8_takers yX8_takers ∈ zG := zGt6 (List.mem_of_getElem? (i := 42) (by rfl)) rfl
def hd_L_takers (x : Nat) : Option (Nat × Nat) := if x = 0 then some (13, 3) else none
theorem hHd_L_takers : zHd cL_takers 4 4 [(0, 9, 12, 29)] hd_L_takers := by
  intro x h i q
  by_cases e0 : x = 0
  · subst e0
    have q' : some (13, 3) = some (h, i) := q
    cases q'
    exact ⟨by decide, 12, rfl, Or.inr ⟨3, rfl, by decide +kernel, rfl⟩⟩
  unfold hd_L_takers at q
  rw [if_neg e0] at q
  cases q

abbrev rm_L_takers : Room := { frames := 8, cells := 1, slots := 6, locals := 165 }
def cd_L_takers (T0 : ZTf) : List (Nat × ZTr) := [(0, tAld 2 1), (1, tC (zi 0) 2), (2, tAld 0 3), (3, tIld 1 4), (4, tCallH 2 1 6 T0 (zRcv 11) hd_L_takers 7), (7, tI2l 8), (8, tLas 9), (9, tGo 15), (13, tC (zi 1) 14), (14, tRi (fun _ => True)), (15, tC (zi 0) 16), (16, tRi (fun _ => True))]
set_option maxRecDepth 100000 in
set_option maxHeartbeats 1500000 in
theorem hs_L_takers {l : Launch} (hl : l.stackTraces = false) {T0 : ZTf} (h0 : zMet l yX8_takers (Cond.code yX8_takers cX8_takers 2 (Option.some Jvm.ClassFile.FieldType.int) :: zG) rm_X8_takers 1 6 T0) (p : Program) (e : Env) (s : State) (m : MethodId) (args : Array Value) (below : List Frame) (meth : Method) (c : Code) (D : va_G) (A : Nat → Prop) (a0 : Nat → Nat) (M0 : ZM) (K : ZRet) (KX : ZEx) (X : zCtx p l rm_L_takers s m args meth c cL_takers RL (Cond.codeWith yL_takers cL_takers 4 (Option.some Jvm.ClassFile.FieldType.int) [(0, 9, 12, 29)] :: zG) 4 (Option.some Jvm.ClassFile.FieldType.int) D A a0 M0 1 6) (htab : c.exceptionTable.toList = tableOf [(0, 9, 12, 29)]) (hNc : zNc0 s) : ∀ q ∈ cd_L_takers T0, zSd p l e rm_L_takers s m args below meth c 4 D A a0 M0 K KX 1 6 q.1 q.2 :=
  have hCx := zCx_of X (.tail _ gw_5_193) (.tail _ gw_5_164) (.tail _ gw_5_136) (.tail _ gw_7_174);
    zall_c (zs_aload_n X (pc := 0) (q := 2) rfl (by decide +kernel)) <|
    zall_c (zs_iconst X (pc := 1) (by decide) (by decide +kernel)) <|
    zall_c (zs_aload_n X (pc := 2) (q := 0) rfl (by decide +kernel)) <|
    zall_c (zs_iload_n X (pc := 3) (q := 1) rfl (by decide +kernel)) <|
    zall_c (zs_callVH X (pc := 4) zc_X8 (fun _ ht => ⟨(zCB ht gw_6_43 gw_1_1 gw_6_40 rfl rfl (by decide +kernel) ⟨Nat.le_of_ble_eq_true rfl, Nat.le_of_ble_eq_true rfl⟩), ht _ (.tail _ gw_6_41), ht _ (.tail _ gw_6_42)⟩) h0 htab hCx hNc hHd_L_takers (by decide +kernel)) <|
    zall_c (zs_i2l X (pc := 7) (by decide +kernel)) <|
    zall_c (zs_lastore X (pc := 8) (by decide +kernel)) <|
    zall_c (zs_goto X (pc := 9) (off := 6) (by decide +kernel) (by decide)) <|
    zall_c (zs_iconst X (pc := 13) (by decide) (by decide +kernel)) <|
    zall_c (zs_iret X (pc := 14) rfl (by decide +kernel)) <|
    zall_c (zs_iconst X (pc := 15) (by decide) (by decide +kernel)) <|
    zall_c (zs_iret X (pc := 16) rfl (by decide +kernel)) <|
    zall_n
theorem met_L_takers {l : Launch} (hl : l.stackTraces = false) {T0 : ZTf} (h0 : zMet l yX8_takers (Cond.code yX8_takers cX8_takers 2 (Option.some Jvm.ClassFile.FieldType.int) :: zG) rm_X8_takers 1 6 T0) {T : List ZV → ZM → ZRet → Prop} (bd : zBdW (cd_L_takers T0) 4 1 6 T) : zMetW l yL_takers (Cond.codeWith yL_takers cL_takers 4 (Option.some Jvm.ClassFile.FieldType.int) [(0, 9, 12, 29)] :: zG) rm_L_takers 1 6 T := zMetW_of hl (by decide +kernel) rfl rfl rfl rfl (hs_L_takers hl h0) bd

def T_L_takers : List ZV → ZM → ZRet → Prop := fun av M K => ∃ (G : Gm) (r : Int), av = [zo 64, zi r, zo 681] ∧ (zW M 681 23 ∧ zLn M 681 = 1) ∧ (LV M) ∧ (TR M 129 G) ∧ (GI G) ∧ (GV G) ∧ (GX G) ∧  ((c_takers G r = 0) → K (some (zi 0)) (zsI M 681 0 (v_takers G r))) ∧ ((c_takers G r = 1) → K (some (zi 1)) M)
set_option maxRecDepth 100000 in
set_option maxHeartbeats 1500000 in
theorem bd_L_takers : zBdW (cd_L_takers T_X8_takers) 4 1 6 T_L_takers := by
  rintro av M K hA0 hM ⟨G, r, rfl, hOut, hL, hT, hG, hV9, hX9, hK, hX0⟩
  refine ⟨rfl, fun Φ hΦ => ?_⟩
  refine zGoR hΦ [] 400 (fun hL9 _ hM _ _ => ?_)
  obtain ⟨qL1, _⟩ : zrg r ∧ True := hL9
  refine ⟨⟨(by decide), (by decide)⟩, ⟨⟨rfl, rfl⟩, hL.w.rcv⟩, ⟨G, r, rfl, hL, hT, hG, hV9, hX9, fun (qc3 : c_takers G r = 0) => fun (qg1 : zrg (v_takers G r)) qm2 => ⟨zixW hOut.1 hOut.2 (i := 0) (by decide) (by decide), ⟨trivial, (show K (some (zi 0)) (zsI M 681 0 (v_takers G r)) from ?g508l1)⟩⟩, fun (qc4 : c_takers G r = 1) => (fun _ => ⟨13, 3, rfl, ⟨trivial, (hX0 (by assumption))⟩⟩)⟩⟩
  case g508l1 => exact hK qc3

theorem M_L_takers {l : Launch} (hl : l.stackTraces = false) : zMetW l yL_takers (Cond.codeWith yL_takers cL_takers 4 (Option.some Jvm.ClassFile.FieldType.int) [(0, 9, 12, 29)] :: zG) rm_L_takers 1 6 T_L_takers := met_L_takers hl (M_X8_takers hl) bd_L_takers

theorem gw_6_54 : Cond.code yX8_isStuck cX8_isStuck 2 (Option.some Jvm.ClassFile.FieldType.boolean) ∈ zG := zGt6 (List.mem_of_getElem? (i := 54) (by rfl)) rfl
theorem gw_6_51 : Cond.methodLink RL 53 yX8_isStuck ∈ zG := zGt6 (List.mem_of_getElem? (i := 51) (by rfl)) rfl
theorem gw_6_52 : Cond.instanceMethod yX8_isStuck ∈ zG := zGt6 (List.mem_of_getElem? (i := 52) (by rfl)) rfl
theorem gw_6_53 : Cond.selects RX8 yX8_isStuck yX8_isStuck ∈ zG := zGt6 (List.mem_of_getElem? (i := 53) (by rfl)) rfl
def hd_L_isStuck (x : Nat) : Option (Nat × Nat) := if x = 0 then some (20, 3) else none
theorem hHd_L_isStuck : zHd cL_isStuck 4 4 [(0, 16, 19, 29)] hd_L_isStuck := by
  intro x h i q
  by_cases e0 : x = 0
  · subst e0
    have q' : some (20, 3) = some (h, i) := q
    cases q'
    exact ⟨by decide, 19, rfl, Or.inr ⟨3, rfl, by decide +kernel, rfl⟩⟩
  unfold hd_L_isStuck at q
  rw [if_neg e0] at q
  cases q

abbrev rm_L_isStuck : Room := { frames := 8, cells := 1, slots := 6, locals := 142 }
def cd_L_isStuck (T0 : ZTf) : List (Nat × ZTr) := [(0, tAld 2 1), (1, tC (zi 0) 2), (2, tAld 0 3), (3, tIld 1 4), (4, tCallH 2 1 6 T0 (zRcv 11) hd_L_isStuck 7), (7, tIf_eq 14 10), (10, tC (zl 1) 11), (11, tGo 15), (14, tC (zl 0) 15), (15, tLas 16), (16, tGo 22), (20, tC (zi 1) 21), (21, tRi (fun _ => True)), (22, tC (zi 0) 23), (23, tRi (fun _ => True))]
set_option maxRecDepth 100000 in
set_option maxHeartbeats 1500000 in
theorem hs_L_isStuck {l : Launch} (hl : l.stackTraces = false) {T0 : ZTf} (h0 : zMet l yX8_isStuck (Cond.code yX8_isStuck cX8_isStuck 2 (Option.some Jvm.ClassFile.FieldType.boolean) :: zG) rm_X8_isStuck 1 6 T0) (p : Program) (e : Env) (s : State) (m : MethodId) (args : Array Value) (below : List Frame) (meth : Method) (c : Code) (D : va_G) (A : Nat → Prop) (a0 : Nat → Nat) (M0 : ZM) (K : ZRet) (KX : ZEx) (X : zCtx p l rm_L_isStuck s m args meth c cL_isStuck RL (Cond.codeWith yL_isStuck cL_isStuck 4 (Option.some Jvm.ClassFile.FieldType.int) [(0, 16, 19, 29)] :: zG) 4 (Option.some Jvm.ClassFile.FieldType.int) D A a0 M0 1 6) (htab : c.exceptionTable.toList = tableOf [(0, 16, 19, 29)]) (hNc : zNc0 s) : ∀ q ∈ cd_L_isStuck T0, zSd p l e rm_L_isStuck s m args below meth c 4 D A a0 M0 K KX 1 6 q.1 q.2 :=
  have hCx := zCx_of X (.tail _ gw_5_193) (.tail _ gw_5_164) (.tail _ gw_5_136) (.tail _ gw_7_174);
    zall_c (zs_aload_n X (pc := 0) (q := 2) rfl (by decide +kernel)) <|
    zall_c (zs_iconst X (pc := 1) (by decide) (by decide +kernel)) <|
    zall_c (zs_aload_n X (pc := 2) (q := 0) rfl (by decide +kernel)) <|
    zall_c (zs_iload_n X (pc := 3) (q := 1) rfl (by decide +kernel)) <|
    zall_c (zs_callVH X (pc := 4) zc_X8 (fun _ ht => ⟨(zCB ht gw_6_54 gw_1_1 gw_6_51 rfl rfl (by decide +kernel) ⟨Nat.le_of_ble_eq_true rfl, Nat.le_of_ble_eq_true rfl⟩), ht _ (.tail _ gw_6_52), ht _ (.tail _ gw_6_53)⟩) h0 htab hCx hNc hHd_L_isStuck (by decide +kernel)) <|
    zall_c (zs_if_eq X (pc := 7) (off := 7) (by decide +kernel) (by decide)) <|
    zall_c (zs_lconst X (pc := 10) (q := 1) (by decide) (by decide +kernel) rfl) <|
    zall_c (zs_goto X (pc := 11) (off := 4) (by decide +kernel) (by decide)) <|
    zall_c (zs_lconst X (pc := 14) (q := 0) (by decide) (by decide +kernel) rfl) <|
    zall_c (zs_lastore X (pc := 15) (by decide +kernel)) <|
    zall_c (zs_goto X (pc := 16) (off := 6) (by decide +kernel) (by decide)) <|
    zall_c (zs_iconst X (pc := 20) (by decide) (by decide +kernel)) <|
    zall_c (zs_iret X (pc := 21) rfl (by decide +kernel)) <|
    zall_c (zs_iconst X (pc := 22) (by decide) (by decide +kernel)) <|
    zall_c (zs_iret X (pc := 23) rfl (by decide +kernel)) <|
    zall_n
theorem met_L_isStuck {l : Launch} (hl : l.stackTraces = false) {T0 : ZTf} (h0 : zMet l yX8_isStuck (Cond.code yX8_isStuck cX8_isStuck 2 (Option.some Jvm.ClassFile.FieldType.boolean) :: zG) rm_X8_isStuck 1 6 T0) {T : List ZV → ZM → ZRet → Prop} (bd : zBdW (cd_L_isStuck T0) 4 1 6 T) : zMetW l yL_isStuck (Cond.codeWith yL_isStuck cL_isStuck 4 (Option.some Jvm.ClassFile.FieldType.int) [(0, 16, 19, 29)] :: zG) rm_L_isStuck 1 6 T := zMetW_of hl (by decide +kernel) rfl rfl rfl rfl (hs_L_isStuck hl h0) bd

def T_L_isStuck : List ZV → ZM → ZRet → Prop := fun av M K => ∃ (G : Gm) (r : Int), av = [zo 64, zi r, zo 681] ∧ (zW M 681 23 ∧ zLn M 681 = 1) ∧ (LV M) ∧ (TR M 129 G) ∧ (GI G) ∧ (GV G) ∧ (GX G) ∧  ((c_isStuck G r = 0) → K (some (zi 0)) (zsI M 681 0 (b2i (v_isStuck G r)))) ∧ ((c_isStuck G r = 1) → K (some (zi 1)) M)
set_option maxRecDepth 100000 in
set_option maxHeartbeats 1500000 in
theorem bd_L_isStuck : zBdW (cd_L_isStuck T_X8_isStuck) 4 1 6 T_L_isStuck := by
  rintro av M K hA0 hM ⟨G, r, rfl, hOut, hL, hT, hG, hV9, hX9, hK, hX0⟩
  refine ⟨rfl, fun Φ hΦ => ?_⟩
  refine zGoR hΦ [] 400 (fun hL9 _ hM _ _ => ?_)
  obtain ⟨qL1, _⟩ : zrg r ∧ True := hL9
  refine ⟨⟨(by decide), (by decide)⟩, ⟨⟨rfl, rfl⟩, hL.w.rcv⟩, ⟨G, r, rfl, hL, hT, hG, hV9, hX9, fun (qc3 : c_isStuck G r = 0) => fun (qg1 : zrg (b2i (v_isStuck G r))) qm2 => ⟨fun h => (have qc4 : (v_isStuck G r) = false := b2i_e0 h; ⟨zixW hOut.1 hOut.2 (i := 0) (by decide) (by decide), ⟨trivial, (show K (some (zi 0)) (zsI M 681 0 0) from ?g509l1)⟩⟩), fun h => (have qc5 : (v_isStuck G r) = true := b2i_n0 h; ⟨zixW hOut.1 hOut.2 (i := 0) (by decide) (by decide), ⟨trivial, (show K (some (zi 0)) (zsI M 681 0 1) from ?g509l2)⟩⟩)⟩, fun (qc6 : c_isStuck G r = 1) => (fun _ => ⟨20, 3, rfl, ⟨trivial, (hX0 (by assumption))⟩⟩)⟩⟩
  case g509l1 =>
    have h9 := hK qc3
    rw [qc4] at h9
    exact h9
  case g509l2 =>
    have h9 := hK qc3
    rw [qc5] at h9
    exact h9

theorem M_L_isStuck {l : Launch} (hl : l.stackTraces = false) : zMetW l yL_isStuck (Cond.codeWith yL_isStuck cL_isStuck 4 (Option.some Jvm.ClassFile.FieldType.int) [(0, 16, 19, 29)] :: zG) rm_L_isStuck 1 6 T_L_isStuck := met_L_isStuck hl (M_X8_isStuck hl) bd_L_isStuck

theorem gw_6_61 : Cond.code yX8_bestPair cX8_bestPair 3 (Option.some Jvm.ClassFile.FieldType.int) ∈ zG := zGt6 (List.mem_of_getElem? (i := 61) (by rfl)) rfl
theorem gw_6_58 : Cond.methodLink RL 57 yX8_bestPair ∈ zG := zGt6 (List.mem_of_getElem? (i := 58) (by rfl)) rfl
theorem gw_6_59 : Cond.instanceMethod yX8_bestPair ∈ zG := zGt6 (List.mem_of_getElem? (i := 59) (by rfl)) rfl
theorem gw_6_60 : Cond.selects RX8 yX8_bestPair yX8_bestPair ∈ zG := zGt6 (List.mem_of_getElem? (i := 60) (by rfl)) rfl
def hd_L_bestPair (x : Nat) : Option (Nat × Nat) := if x = 0 then some (13, 3) else none
theorem hHd_L_bestPair : zHd cL_bestPair 4 4 [(0, 9, 12, 29)] hd_L_bestPair := by
  intro x h i q
  by_cases e0 : x = 0
  · subst e0
    have q' : some (13, 3) = some (h, i) := q
    cases q'
    exact ⟨by decide, 12, rfl, Or.inr ⟨3, rfl, by decide +kernel, rfl⟩⟩
  unfold hd_L_bestPair at q
  rw [if_neg e0] at q
  cases q

abbrev rm_L_bestPair : Room := { frames := 8, cells := 1, slots := 6, locals := 166 }
def cd_L_bestPair (T0 : ZTf) : List (Nat × ZTr) := [(0, tAld 2 1), (1, tC (zi 0) 2), (2, tAld 0 3), (3, tIld 1 4), (4, tCallH 2 1 6 T0 (zRcv 11) hd_L_bestPair 7), (7, tI2l 8), (8, tLas 9), (9, tGo 15), (13, tC (zi 1) 14), (14, tRi (fun _ => True)), (15, tC (zi 0) 16), (16, tRi (fun _ => True))]
set_option maxRecDepth 100000 in
set_option maxHeartbeats 1500000 in
theorem hs_L_bestPair {l : Launch} (hl : l.stackTraces = false) {T0 : ZTf} (h0 : zMet l yX8_bestPair (Cond.code yX8_bestPair cX8_bestPair 3 (Option.some Jvm.ClassFile.FieldType.int) :: zG) rm_X8_bestPair 1 6 T0) (p : Program) (e : Env) (s : State) (m : MethodId) (args : Array Value) (below : List Frame) (meth : Method) (c : Code) (D : va_G) (A : Nat → Prop) (a0 : Nat → Nat) (M0 : ZM) (K : ZRet) (KX : ZEx) (X : zCtx p l rm_L_bestPair s m args meth c cL_bestPair RL (Cond.codeWith yL_bestPair cL_bestPair 4 (Option.some Jvm.ClassFile.FieldType.int) [(0, 9, 12, 29)] :: zG) 4 (Option.some Jvm.ClassFile.FieldType.int) D A a0 M0 1 6) (htab : c.exceptionTable.toList = tableOf [(0, 9, 12, 29)]) (hNc : zNc0 s) : ∀ q ∈ cd_L_bestPair T0, zSd p l e rm_L_bestPair s m args below meth c 4 D A a0 M0 K KX 1 6 q.1 q.2 :=
  have hCx := zCx_of X (.tail _ gw_5_193) (.tail _ gw_5_164) (.tail _ gw_5_136) (.tail _ gw_7_174);
    zall_c (zs_aload_n X (pc := 0) (q := 2) rfl (by decide +kernel)) <|
    zall_c (zs_iconst X (pc := 1) (by decide) (by decide +kernel)) <|
    zall_c (zs_aload_n X (pc := 2) (q := 0) rfl (by decide +kernel)) <|
    zall_c (zs_iload_n X (pc := 3) (q := 1) rfl (by decide +kernel)) <|
    zall_c (zs_callVH X (pc := 4) zc_X8 (fun _ ht => ⟨(zCB ht gw_6_61 gw_1_1 gw_6_58 rfl rfl (by decide +kernel) ⟨Nat.le_of_ble_eq_true rfl, Nat.le_of_ble_eq_true rfl⟩), ht _ (.tail _ gw_6_59), ht _ (.tail _ gw_6_60)⟩) h0 htab hCx hNc hHd_L_bestPair (by decide +kernel)) <|
    zall_c (zs_i2l X (pc := 7) (by decide +kernel)) <|
    zall_c (zs_lastore X (pc := 8) (by decide +kernel)) <|
    zall_c (zs_goto X (pc := 9) (off := 6) (by decide +kernel) (by decide)) <|
    zall_c (zs_iconst X (pc := 13) (by decide) (by decide +kernel)) <|
    zall_c (zs_iret X (pc := 14) rfl (by decide +kernel)) <|
    zall_c (zs_iconst X (pc := 15) (by decide) (by decide +kernel)) <|
    zall_c (zs_iret X (pc := 16) rfl (by decide +kernel)) <|
    zall_n
theorem met_L_bestPair {l : Launch} (hl : l.stackTraces = false) {T0 : ZTf} (h0 : zMet l yX8_bestPair (Cond.code yX8_bestPair cX8_bestPair 3 (Option.some Jvm.ClassFile.FieldType.int) :: zG) rm_X8_bestPair 1 6 T0) {T : List ZV → ZM → ZRet → Prop} (bd : zBdW (cd_L_bestPair T0) 4 1 6 T) : zMetW l yL_bestPair (Cond.codeWith yL_bestPair cL_bestPair 4 (Option.some Jvm.ClassFile.FieldType.int) [(0, 9, 12, 29)] :: zG) rm_L_bestPair 1 6 T := zMetW_of hl (by decide +kernel) rfl rfl rfl rfl (hs_L_bestPair hl h0) bd

def T_L_bestPair : List ZV → ZM → ZRet → Prop := fun av M K => ∃ (G : Gm) (r : Int), av = [zo 64, zi r, zo 681] ∧ (zW M 681 23 ∧ zLn M 681 = 1) ∧ (LV M) ∧ (TR M 129 G) ∧ (GI G) ∧ (GV G) ∧ (GX G) ∧  ((c_bestPair G r = 0) → K (some (zi 0)) (zsI M 681 0 (v_bestPair G r))) ∧ ((c_bestPair G r = 1) → K (some (zi 1)) M)
set_option maxRecDepth 100000 in
set_option maxHeartbeats 1500000 in
theorem bd_L_bestPair : zBdW (cd_L_bestPair T_X8_bestPair) 4 1 6 T_L_bestPair := by
  rintro av M K hA0 hM ⟨G, r, rfl, hOut, hL, hT, hG, hV9, hX9, hK, hX0⟩
  refine ⟨rfl, fun Φ hΦ => ?_⟩
  refine zGoR hΦ [] 400 (fun hL9 _ hM _ _ => ?_)
  obtain ⟨qL1, _⟩ : zrg r ∧ True := hL9
  refine ⟨⟨(by decide), (by decide)⟩, ⟨⟨rfl, rfl⟩, hL.w.rcv⟩, ⟨G, r, rfl, hL, hT, hG, hV9, hX9, fun (qc3 : c_bestPair G r = 0) => fun (qg1 : zrg (v_bestPair G r)) qm2 => ⟨zixW hOut.1 hOut.2 (i := 0) (by decide) (by decide), ⟨trivial, (show K (some (zi 0)) (zsI M 681 0 (v_bestPair G r)) from ?g510l1)⟩⟩, fun (qc4 : c_bestPair G r = 1) => (fun _ => ⟨13, 3, rfl, ⟨trivial, (hX0 (by assumption))⟩⟩)⟩⟩
  case g510l1 => exact hK qc3

theorem M_L_bestPair {l : Launch} (hl : l.stackTraces = false) : zMetW l yL_bestPair (Cond.codeWith yL_bestPair cL_bestPair 4 (Option.some Jvm.ClassFile.FieldType.int) [(0, 9, 12, 29)] :: zG) rm_L_bestPair 1 6 T_L_bestPair := met_L_bestPair hl (M_X8_bestPair hl) bd_L_bestPair

theorem gw_6_76 : Cond.code yX8_strikes cX8_strikes 3 (Option.some Jvm.ClassFile.FieldType.int) ∈ zG := zGt6 (List.mem_of_getElem? (i := 76) (by rfl)) rfl
theorem gw_6_73 : Cond.methodLink RL 60 yX8_strikes ∈ zG := zGt6 (List.mem_of_getElem? (i := 73) (by rfl)) rfl
theorem gw_6_74 : Cond.instanceMethod yX8_strikes ∈ zG := zGt6 (List.mem_of_getElem? (i := 74) (by rfl)) rfl
theorem gw_6_75 : Cond.selects RX8 yX8_strikes yX8_strikes ∈ zG := zGt6 (List.mem_of_getElem? (i := 75) (by rfl)) rfl
def hd_L_strikes (x : Nat) : Option (Nat × Nat) := if x = 0 then some (15, 4) else none
theorem hHd_L_strikes : zHd cL_strikes 5 5 [(0, 10, 13, 29)] hd_L_strikes := by
  intro x h i q
  by_cases e0 : x = 0
  · subst e0
    have q' : some (15, 4) = some (h, i) := q
    cases q'
    exact ⟨by decide, 13, rfl, Or.inl ⟨by decide +kernel, rfl⟩⟩
  unfold hd_L_strikes at q
  rw [if_neg e0] at q
  cases q

abbrev rm_L_strikes : Room := { frames := 8, cells := 2, slots := 12, locals := 133 }
def cd_L_strikes (T0 : ZTf) : List (Nat × ZTr) := [(0, tAld 3 1), (1, tC (zi 0) 2), (2, tAld 0 3), (3, tIld 1 4), (4, tIld 2 5), (5, tCallH 3 2 12 T0 (zRcv 11) hd_L_strikes 8), (8, tI2l 9), (9, tLas 10), (10, tGo 17), (15, tC (zi 1) 16), (16, tRi (fun _ => True)), (17, tC (zi 0) 18), (18, tRi (fun _ => True))]
set_option maxRecDepth 100000 in
set_option maxHeartbeats 1500000 in
theorem hs_L_strikes {l : Launch} (hl : l.stackTraces = false) {T0 : ZTf} (h0 : zMet l yX8_strikes (Cond.code yX8_strikes cX8_strikes 3 (Option.some Jvm.ClassFile.FieldType.int) :: zG) rm_X8_strikes 2 12 T0) (p : Program) (e : Env) (s : State) (m : MethodId) (args : Array Value) (below : List Frame) (meth : Method) (c : Code) (D : va_G) (A : Nat → Prop) (a0 : Nat → Nat) (M0 : ZM) (K : ZRet) (KX : ZEx) (X : zCtx p l rm_L_strikes s m args meth c cL_strikes RL (Cond.codeWith yL_strikes cL_strikes 5 (Option.some Jvm.ClassFile.FieldType.int) [(0, 10, 13, 29)] :: zG) 5 (Option.some Jvm.ClassFile.FieldType.int) D A a0 M0 2 12) (htab : c.exceptionTable.toList = tableOf [(0, 10, 13, 29)]) (hNc : zNc0 s) : ∀ q ∈ cd_L_strikes T0, zSd p l e rm_L_strikes s m args below meth c 5 D A a0 M0 K KX 2 12 q.1 q.2 :=
  have hCx := zCx_of X (.tail _ gw_5_193) (.tail _ gw_5_164) (.tail _ gw_5_136) (.tail _ gw_7_174);
    zall_c (zs_aload_n X (pc := 0) (q := 3) rfl (by decide +kernel)) <|
    zall_c (zs_iconst X (pc := 1) (by decide) (by decide +kernel)) <|
    zall_c (zs_aload_n X (pc := 2) (q := 0) rfl (by decide +kernel)) <|
    zall_c (zs_iload_n X (pc := 3) (q := 1) rfl (by decide +kernel)) <|
    zall_c (zs_iload_n X (pc := 4) (q := 2) rfl (by decide +kernel)) <|
    zall_c (zs_callVH X (pc := 5) zc_X8 (fun _ ht => ⟨(zCB ht gw_6_76 gw_1_1 gw_6_73 rfl rfl (by decide +kernel) ⟨Nat.le_of_ble_eq_true rfl, Nat.le_of_ble_eq_true rfl⟩), ht _ (.tail _ gw_6_74), ht _ (.tail _ gw_6_75)⟩) h0 htab hCx hNc hHd_L_strikes (by decide +kernel)) <|
    zall_c (zs_i2l X (pc := 8) (by decide +kernel)) <|
    zall_c (zs_lastore X (pc := 9) (by decide +kernel)) <|
    zall_c (zs_goto X (pc := 10) (off := 7) (by decide +kernel) (by decide)) <|
    zall_c (zs_iconst X (pc := 15) (by decide) (by decide +kernel)) <|
    zall_c (zs_iret X (pc := 16) rfl (by decide +kernel)) <|
    zall_c (zs_iconst X (pc := 17) (by decide) (by decide +kernel)) <|
    zall_c (zs_iret X (pc := 18) rfl (by decide +kernel)) <|
    zall_n
theorem met_L_strikes {l : Launch} (hl : l.stackTraces = false) {T0 : ZTf} (h0 : zMet l yX8_strikes (Cond.code yX8_strikes cX8_strikes 3 (Option.some Jvm.ClassFile.FieldType.int) :: zG) rm_X8_strikes 2 12 T0) {T : List ZV → ZM → ZRet → Prop} (bd : zBdW (cd_L_strikes T0) 5 2 12 T) : zMetW l yL_strikes (Cond.codeWith yL_strikes cL_strikes 5 (Option.some Jvm.ClassFile.FieldType.int) [(0, 10, 13, 29)] :: zG) rm_L_strikes 2 12 T := zMetW_of hl (by decide +kernel) rfl rfl rfl rfl (hs_L_strikes hl h0) bd

def T_L_strikes : List ZV → ZM → ZRet → Prop := fun av M K => ∃ (G : Gm) (a b : Int), av = [zo 64, zi a, zi b, zo 681] ∧ (zW M 681 23 ∧ zLn M 681 = 1) ∧ (LV M) ∧ (TR M 129 G) ∧ (GI G) ∧ (GV G) ∧ (GX G) ∧  ((c_strikes G a b = 0) → K (some (zi 0)) (zsI M 681 0 (v_strikes G a b))) ∧ ((c_strikes G a b = 1) → K (some (zi 1)) M)
set_option maxRecDepth 100000 in
set_option maxHeartbeats 1500000 in
theorem bd_L_strikes : zBdW (cd_L_strikes T_X8_strikes) 5 2 12 T_L_strikes := by
  rintro av M K hA0 hM ⟨G, a, b, rfl, hOut, hL, hT, hG, hV9, hX9, hK, hX0⟩
  refine ⟨rfl, fun Φ hΦ => ?_⟩
  refine zGoR hΦ [] 400 (fun hL9 _ hM _ _ => ?_)
  obtain ⟨qL1, qL2, _⟩ : zrg a ∧ zrg b ∧ True := hL9
  refine ⟨⟨(by decide), (by decide)⟩, ⟨⟨rfl, rfl⟩, hL.w.rcv⟩, ⟨G, a, b, rfl, hL, hT, hG, hV9, hX9, fun (qc3 : c_strikes G a b = 0) => fun (qg1 : zrg (v_strikes G a b)) qm2 => ⟨zixW hOut.1 hOut.2 (i := 0) (by decide) (by decide), ⟨trivial, (show K (some (zi 0)) (zsI M 681 0 (v_strikes G a b)) from ?g511l1)⟩⟩, fun (qc4 : c_strikes G a b = 1) => (fun _ => ⟨15, 4, rfl, ⟨trivial, (hX0 (by assumption))⟩⟩)⟩⟩
  case g511l1 => exact hK qc3

theorem M_L_strikes {l : Launch} (hl : l.stackTraces = false) : zMetW l yL_strikes (Cond.codeWith yL_strikes cL_strikes 5 (Option.some Jvm.ClassFile.FieldType.int) [(0, 10, 13, 29)] :: zG) rm_L_strikes 2 12 T_L_strikes := met_L_strikes hl (M_X8_strikes hl) bd_L_strikes
