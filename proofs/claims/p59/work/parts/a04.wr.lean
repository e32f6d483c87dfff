/-! the law: its methods with handlers -/
theorem gw_5_111 : Cond.code yX8_take cX8_take 3 (Option.some Jvm.ClassFile.FieldType.int) ∈ zG := zGt5 (List.mem_of_getElem? (i := 111) (by rfl)) rfl
theorem gw_5_108 : Cond.methodLink RL 110 yX8_take ∈ zG := zGt5 (List.mem_of_getElem? (i := 108) (by rfl)) rfl
theorem gw_5_109 : Cond.instanceMethod yX8_take ∈ zG := zGt5 (List.mem_of_getElem? (i := 109) (by rfl)) rfl
theorem gw_5_110 : Cond.selects RX8 yX8_take yX8_take ∈ zG := zGt5 (List.mem_of_getElem? (i := 110) (by rfl)) rfl
theorem gw_5_107 : Cond.classLink RL 113 "java/lang/IllegalStateException" ∈ zG := zGt5 (List.mem_of_getElem? (i := 107) (by rfl)) rfl
def hd_L_taken (x : Nat) : Option (Nat × Nat) := if x = 2 then some (7, 2) else none
theorem hHd_L_taken : zHd cL_taken 3 2 [(0, 5, 6, 113)] hd_L_taken := by
  intro x h i q
  by_cases e2 : x = 2
  · subst e2
    have q' : some (7, 2) = some (h, i) := q
    cases q'
    exact ⟨by decide, 6, rfl, Or.inr ⟨2, rfl, by decide +kernel, rfl⟩⟩
  unfold hd_L_taken at q
  rw [if_neg e2] at q
  cases q

abbrev rm_L_taken : Room := { frames := 8, cells := 2, slots := 12, locals := 191 }
def cd_L_taken (T0 : ZTf) : List (Nat × ZTr) := [(0, tAld 0 1), (1, tIld 1 2), (2, tCallH 2 2 12 T0 (zRcv 11) hd_L_taken 5), (5, tRi (fun _ => True)), (7, tC (zi (-9)) 9), (9, tRi (fun _ => True))]
set_option maxRecDepth 100000 in
set_option maxHeartbeats 1500000 in
theorem hs_L_taken {l : Launch} (hl : l.stackTraces = false) {T0 : ZTf} (h0 : zMet l yX8_take (Cond.code yX8_take cX8_take 3 (Option.some Jvm.ClassFile.FieldType.int) :: zG) rm_X8_take 2 12 T0) (p : Program) (e : Env) (s : State) (m : MethodId) (args : Array Value) (below : List Frame) (meth : Method) (c : Code) (D : va_G) (A : Nat → Prop) (a0 : Nat → Nat) (M0 : ZM) (K : ZRet) (KX : ZEx) (X : zCtx p l rm_L_taken s m args meth c cL_taken RL (Cond.codeWith yL_taken cL_taken 3 (Option.some Jvm.ClassFile.FieldType.int) [(0, 5, 6, 113)] :: zG) 3 (Option.some Jvm.ClassFile.FieldType.int) D A a0 M0 2 12) (htab : c.exceptionTable.toList = tableOf [(0, 5, 6, 113)]) (hNc : zNc0 s) : ∀ q ∈ cd_L_taken T0, zSd p l e rm_L_taken s m args below meth c 3 D A a0 M0 K KX 2 12 q.1 q.2 :=
  have hCx := zCx_of X (.tail _ gw_5_107);
    zall_c (zs_aload_n X (pc := 0) (q := 0) rfl (by decide +kernel)) <|
    zall_c (zs_iload_n X (pc := 1) (q := 1) rfl (by decide +kernel)) <|
    zall_c (zs_callVH X (pc := 2) zc_X8 (fun _ ht => ⟨(zCB ht gw_5_111 gw_1_1 gw_5_108 rfl rfl (by decide +kernel) ⟨Nat.le_of_ble_eq_true rfl, Nat.le_of_ble_eq_true rfl⟩), ht _ (.tail _ gw_5_109), ht _ (.tail _ gw_5_110)⟩) h0 htab hCx hNc hHd_L_taken (by decide +kernel)) <|
    zall_c (zs_iret X (pc := 5) rfl (by decide +kernel)) <|
    zall_c (zs_bipush X (pc := 7) (by decide) (by decide +kernel) (by decide +kernel)) <|
    zall_c (zs_iret X (pc := 9) rfl (by decide +kernel)) <|
    zall_n
theorem met_L_taken {l : Launch} (hl : l.stackTraces = false) {T0 : ZTf} (h0 : zMet l yX8_take (Cond.code yX8_take cX8_take 3 (Option.some Jvm.ClassFile.FieldType.int) :: zG) rm_X8_take 2 12 T0) {T : List ZV → ZM → ZRet → Prop} (bd : zBdW (cd_L_taken T0) 3 2 12 T) : zMetW l yL_taken (Cond.codeWith yL_taken cL_taken 3 (Option.some Jvm.ClassFile.FieldType.int) [(0, 5, 6, 113)] :: zG) rm_L_taken 2 12 T := zMetW_of hl (by decide +kernel) rfl rfl rfl rfl (hs_L_taken hl h0) bd

def T_L_taken : List ZV → ZM → ZRet → Prop := fun av M K => ∃ (G : Gm) (P : Int → Gm) (c : Int) (w : Int), av = [zo 64, zi w] ∧ LV M ∧ TR M 129 G ∧ GI G ∧ GV G ∧ GX G ∧ RQ M P c ∧ (c_take G w = 0 ∨ c_take G w = 2) ∧ (c_take G w = 0 → ∀ M' : ZM, Fr SCw M M' → TR M' 129 (F_take G w) → RQ M' (pushP P G c) (pushC c) → K (some (zi (v_take G w))) M') ∧ (c_take G w = 2 → K (some (zi (-9))) M)
set_option maxRecDepth 100000 in
set_option maxHeartbeats 1500000 in
theorem bd_L_taken : zBdW (cd_L_taken T_X8_take) 3 2 12 T_L_taken := by
  rintro av M K hA0 hM ⟨G, P, c, w, rfl, hL, hT, hG, hV9, hX9, hq, hc, hK, hX⟩
  refine ⟨rfl, fun Φ hΦ => ?_⟩
  refine zGoR hΦ [] 400 (fun hL9 _ hM _ _ => ?_)
  exact ⟨⟨(by decide), (by decide)⟩, ⟨⟨rfl, rfl⟩, hL.w.rcv⟩, ⟨G, P, c, w, rfl, hL, hT, hG, hV9, hX9, hq, fun q0 => fun M1 hf1 hT1 hq91 => fun (qg1 : zrg (v_take G w)) qm2 => ⟨trivial, hK q0 M1 hf1 hT1 hq91⟩, fun q1 => (hc.elim (fun z => absurd (q1.symm.trans z) (by decide)) (fun z => absurd (q1.symm.trans z) (by decide))), fun q2 => (fun _ => ⟨7, 2, rfl, ⟨trivial, hX q2⟩⟩)⟩⟩

theorem M_L_taken {l : Launch} (hl : l.stackTraces = false) : zMetW l yL_taken (Cond.codeWith yL_taken cL_taken 3 (Option.some Jvm.ClassFile.FieldType.int) [(0, 5, 6, 113)] :: zG) rm_L_taken 2 12 T_L_taken := met_L_taken hl (M_X8_take hl) bd_L_taken

theorem gw_5_157 : Cond.code yX8_takeRow cX8_takeRow 3 (Option.some Jvm.ClassFile.FieldType.int) ∈ zG := zGt5 (List.mem_of_getElem? (i := 157) (by rfl)) rfl
theorem gw_5_154 : Cond.methodLink RL 115 yX8_takeRow ∈ zG := zGt5 (List.mem_of_getElem? (i := 154) (by rfl)) rfl
theorem gw_5_155 : Cond.instanceMethod yX8_takeRow ∈ zG := zGt5 (List.mem_of_getElem? (i := 155) (by rfl)) rfl
theorem gw_5_156 : Cond.selects RX8 yX8_takeRow yX8_takeRow ∈ zG := zGt5 (List.mem_of_getElem? (i := 156) (by rfl)) rfl
def hd_L_took (x : Nat) : Option (Nat × Nat) := if x = 2 then some (8, 3) else none
theorem hHd_L_took : zHd cL_took 4 3 [(0, 6, 7, 113)] hd_L_took := by
  intro x h i q
  by_cases e2 : x = 2
  · subst e2
    have q' : some (8, 3) = some (h, i) := q
    cases q'
    exact ⟨by decide, 7, rfl, Or.inr ⟨3, rfl, by decide +kernel, rfl⟩⟩
  unfold hd_L_took at q
  rw [if_neg e2] at q
  cases q

abbrev rm_L_took : Room := { frames := 8, cells := 3, slots := 18, locals := 146 }
def cd_L_took (T0 : ZTf) : List (Nat × ZTr) := [(0, tAld 0 1), (1, tIld 1 2), (2, tIld 2 3), (3, tCallH 3 3 18 T0 (zRcv 11) hd_L_took 6), (6, tRi (fun _ => True)), (8, tC (zi (-9)) 10), (10, tRi (fun _ => True))]
set_option maxRecDepth 100000 in
set_option maxHeartbeats 1500000 in
theorem hs_L_took {l : Launch} (hl : l.stackTraces = false) {T0 : ZTf} (h0 : zMet l yX8_takeRow (Cond.code yX8_takeRow cX8_takeRow 3 (Option.some Jvm.ClassFile.FieldType.int) :: zG) rm_X8_takeRow 3 18 T0) (p : Program) (e : Env) (s : State) (m : MethodId) (args : Array Value) (below : List Frame) (meth : Method) (c : Code) (D : va_G) (A : Nat → Prop) (a0 : Nat → Nat) (M0 : ZM) (K : ZRet) (KX : ZEx) (X : zCtx p l rm_L_took s m args meth c cL_took RL (Cond.codeWith yL_took cL_took 4 (Option.some Jvm.ClassFile.FieldType.int) [(0, 6, 7, 113)] :: zG) 4 (Option.some Jvm.ClassFile.FieldType.int) D A a0 M0 3 18) (htab : c.exceptionTable.toList = tableOf [(0, 6, 7, 113)]) (hNc : zNc0 s) : ∀ q ∈ cd_L_took T0, zSd p l e rm_L_took s m args below meth c 4 D A a0 M0 K KX 3 18 q.1 q.2 :=
  have hCx := zCx_of X (.tail _ gw_5_107);
    zall_c (zs_aload_n X (pc := 0) (q := 0) rfl (by decide +kernel)) <|
    zall_c (zs_iload_n X (pc := 1) (q := 1) rfl (by decide +kernel)) <|
    zall_c (zs_iload_n X (pc := 2) (q := 2) rfl (by decide +kernel)) <|
    zall_c (zs_callVH X (pc := 3) zc_X8 (fun _ ht => ⟨(zCB ht gw_5_157 gw_1_1 gw_5_154 rfl rfl (by decide +kernel) ⟨Nat.le_of_ble_eq_true rfl, Nat.le_of_ble_eq_true rfl⟩), ht _ (.tail _ gw_5_155), ht _ (.tail _ gw_5_156)⟩) h0 htab hCx hNc hHd_L_took (by decide +kernel)) <|
    zall_c (zs_iret X (pc := 6) rfl (by decide +kernel)) <|
    zall_c (zs_bipush X (pc := 8) (by decide) (by decide +kernel) (by decide +kernel)) <|
    zall_c (zs_iret X (pc := 10) rfl (by decide +kernel)) <|
    zall_n
theorem met_L_took {l : Launch} (hl : l.stackTraces = false) {T0 : ZTf} (h0 : zMet l yX8_takeRow (Cond.code yX8_takeRow cX8_takeRow 3 (Option.some Jvm.ClassFile.FieldType.int) :: zG) rm_X8_takeRow 3 18 T0) {T : List ZV → ZM → ZRet → Prop} (bd : zBdW (cd_L_took T0) 4 3 18 T) : zMetW l yL_took (Cond.codeWith yL_took cL_took 4 (Option.some Jvm.ClassFile.FieldType.int) [(0, 6, 7, 113)] :: zG) rm_L_took 3 18 T := zMetW_of hl (by decide +kernel) rfl rfl rfl rfl (hs_L_took hl h0) bd

def T_L_took : List ZV → ZM → ZRet → Prop := fun av M K => ∃ (G : Gm) (P : Int → Gm) (c : Int) (w r : Int), av = [zo 64, zi w, zi r] ∧ LV M ∧ TR M 129 G ∧ GI G ∧ GV G ∧ GX G ∧ RQ M P c ∧ (c_takeRow G w r = 0 ∨ c_takeRow G w r = 2) ∧ (c_takeRow G w r = 0 → ∀ M' : ZM, Fr SCw M M' → TR M' 129 (F_takeRow G w r) → RQ M' (pushP P G c) (pushC c) → K (some (zi (v_takeRow G w r))) M') ∧ (c_takeRow G w r = 2 → K (some (zi (-9))) M)
set_option maxRecDepth 100000 in
set_option maxHeartbeats 1500000 in
theorem bd_L_took : zBdW (cd_L_took T_X8_takeRow) 4 3 18 T_L_took := by
  rintro av M K hA0 hM ⟨G, P, c, w, r, rfl, hL, hT, hG, hV9, hX9, hq, hc, hK, hX⟩
  refine ⟨rfl, fun Φ hΦ => ?_⟩
  refine zGoR hΦ [] 400 (fun hL9 _ hM _ _ => ?_)
  exact ⟨⟨(by decide), (by decide)⟩, ⟨⟨rfl, rfl⟩, hL.w.rcv⟩, ⟨G, P, c, w, r, rfl, hL, hT, hG, hV9, hX9, hq, fun q0 => fun M1 hf1 hT1 hq91 => fun (qg1 : zrg (v_takeRow G w r)) qm2 => ⟨trivial, hK q0 M1 hf1 hT1 hq91⟩, fun q1 => (hc.elim (fun z => absurd (q1.symm.trans z) (by decide)) (fun z => absurd (q1.symm.trans z) (by decide))), fun q2 => (fun _ => ⟨8, 3, rfl, ⟨trivial, hX q2⟩⟩)⟩⟩

theorem M_L_took {l : Launch} (hl : l.stackTraces = false) : zMetW l yL_took (Cond.codeWith yL_took cL_took 4 (Option.some Jvm.ClassFile.FieldType.int) [(0, 6, 7, 113)] :: zG) rm_L_took 3 18 T_L_took := met_L_took hl (M_X8_takeRow hl) bd_L_took

theorem gw_5_166 : Cond.code yX8_deliver cX8_deliver 5 (Option.some Jvm.ClassFile.FieldType.int) ∈ zG := zGt5 (List.mem_of_getElem? (i := 166) (by rfl)) rfl
theorem gw_5_163 : Cond.methodLink RL 118 yX8_deliver ∈ zG := zGt5 (List.mem_of_getElem? (i := 163) (by rfl)) rfl
theorem gw_5_164 : Cond.instanceMethod yX8_deliver ∈ zG := zGt5 (List.mem_of_getElem? (i := 164) (by rfl)) rfl
theorem gw_5_165 : Cond.selects RX8 yX8_deliver yX8_deliver ∈ zG := zGt5 (List.mem_of_getElem? (i := 165) (by rfl)) rfl
def hd_L_delivered (x : Nat) : Option (Nat × Nat) := if x = 2 then some (10, 4) else none
theorem hHd_L_delivered : zHd cL_delivered 5 4 [(0, 7, 8, 113)] hd_L_delivered := by
  intro x h i q
  by_cases e2 : x = 2
  · subst e2
    have q' : some (10, 4) = some (h, i) := q
    cases q'
    exact ⟨by decide, 8, rfl, Or.inl ⟨by decide +kernel, rfl⟩⟩
  unfold hd_L_delivered at q
  rw [if_neg e2] at q
  cases q

abbrev rm_L_delivered : Room := { frames := 8, cells := 4, slots := 24, locals := 148 }
def cd_L_delivered (T0 : ZTf) : List (Nat × ZTr) := [(0, tAld 0 1), (1, tIld 1 2), (2, tIld 2 3), (3, tIld 3 4), (4, tCallH 4 4 24 T0 (zRcv 11) hd_L_delivered 7), (7, tRi (fun _ => True)), (10, tC (zi (-9)) 12), (12, tRi (fun _ => True))]
set_option maxRecDepth 100000 in
set_option maxHeartbeats 1500000 in
theorem hs_L_delivered {l : Launch} (hl : l.stackTraces = false) {T0 : ZTf} (h0 : zMet l yX8_deliver (Cond.code yX8_deliver cX8_deliver 5 (Option.some Jvm.ClassFile.FieldType.int) :: zG) rm_X8_deliver 4 24 T0) (p : Program) (e : Env) (s : State) (m : MethodId) (args : Array Value) (below : List Frame) (meth : Method) (c : Code) (D : va_G) (A : Nat → Prop) (a0 : Nat → Nat) (M0 : ZM) (K : ZRet) (KX : ZEx) (X : zCtx p l rm_L_delivered s m args meth c cL_delivered RL (Cond.codeWith yL_delivered cL_delivered 5 (Option.some Jvm.ClassFile.FieldType.int) [(0, 7, 8, 113)] :: zG) 5 (Option.some Jvm.ClassFile.FieldType.int) D A a0 M0 4 24) (htab : c.exceptionTable.toList = tableOf [(0, 7, 8, 113)]) (hNc : zNc0 s) : ∀ q ∈ cd_L_delivered T0, zSd p l e rm_L_delivered s m args below meth c 5 D A a0 M0 K KX 4 24 q.1 q.2 :=
  have hCx := zCx_of X (.tail _ gw_5_107);
    zall_c (zs_aload_n X (pc := 0) (q := 0) rfl (by decide +kernel)) <|
    zall_c (zs_iload_n X (pc := 1) (q := 1) rfl (by decide +kernel)) <|
    zall_c (zs_iload_n X (pc := 2) (q := 2) rfl (by decide +kernel)) <|
    zall_c (zs_iload_n X (pc := 3) (q := 3) rfl (by decide +kernel)) <|
    zall_c (zs_callVH X (pc := 4) zc_X8 (fun _ ht => ⟨(zCB ht gw_5_166 gw_1_1 gw_5_163 rfl rfl (by decide +kernel) ⟨Nat.le_of_ble_eq_true rfl, Nat.le_of_ble_eq_true rfl⟩), ht _ (.tail _ gw_5_164), ht _ (.tail _ gw_5_165)⟩) h0 htab hCx hNc hHd_L_delivered (by decide +kernel)) <|
    zall_c (zs_iret X (pc := 7) rfl (by decide +kernel)) <|
    zall_c (zs_bipush X (pc := 10) (by decide) (by decide +kernel) (by decide +kernel)) <|
    zall_c (zs_iret X (pc := 12) rfl (by decide +kernel)) <|
    zall_n
theorem met_L_delivered {l : Launch} (hl : l.stackTraces = false) {T0 : ZTf} (h0 : zMet l yX8_deliver (Cond.code yX8_deliver cX8_deliver 5 (Option.some Jvm.ClassFile.FieldType.int) :: zG) rm_X8_deliver 4 24 T0) {T : List ZV → ZM → ZRet → Prop} (bd : zBdW (cd_L_delivered T0) 5 4 24 T) : zMetW l yL_delivered (Cond.codeWith yL_delivered cL_delivered 5 (Option.some Jvm.ClassFile.FieldType.int) [(0, 7, 8, 113)] :: zG) rm_L_delivered 4 24 T := zMetW_of hl (by decide +kernel) rfl rfl rfl rfl (hs_L_delivered hl h0) bd

def T_L_delivered : List ZV → ZM → ZRet → Prop := fun av M K => ∃ (G : Gm) (P : Int → Gm) (c : Int) (w r x : Int), av = [zo 64, zi w, zi r, zi x] ∧ LV M ∧ TR M 129 G ∧ GI G ∧ GV G ∧ GX G ∧ RQ M P c ∧ (c_deliver G w r x = 0 ∨ c_deliver G w r x = 3) ∧ (c_deliver G w r x = 0 → ∀ M' : ZM, Fr SCw M M' → TR M' 129 (F_deliver G w r x) → RQ M' (pushP P G c) (pushC c) → K (some (zi (v_deliver G w r x))) M') ∧ (c_deliver G w r x = 3 → K (some (zi (-9))) M)
set_option maxRecDepth 100000 in
set_option maxHeartbeats 1500000 in
theorem bd_L_delivered : zBdW (cd_L_delivered T_X8_deliver) 5 4 24 T_L_delivered := by
  rintro av M K hA0 hM ⟨G, P, c, w, r, x, rfl, hL, hT, hG, hV9, hX9, hq, hc, hK, hX⟩
  refine ⟨rfl, fun Φ hΦ => ?_⟩
  refine zGoR hΦ [] 400 (fun hL9 _ hM _ _ => ?_)
  exact ⟨⟨(by decide), (by decide)⟩, ⟨⟨rfl, rfl⟩, hL.w.rcv⟩, ⟨G, P, c, w, r, x, rfl, hL, hT, hG, hV9, hX9, hq, fun q0 => fun M1 hf1 hT1 hq91 => fun (qg1 : zrg (v_deliver G w r x)) qm2 => ⟨trivial, hK q0 M1 hf1 hT1 hq91⟩, fun q1 => (hc.elim (fun z => absurd (q1.symm.trans z) (by decide)) (fun z => absurd (q1.symm.trans z) (by decide))), fun q1 => (hc.elim (fun z => absurd (q1.symm.trans z) (by decide)) (fun z => absurd (q1.symm.trans z) (by decide))), fun q2 => (fun _ => ⟨10, 4, rfl, ⟨trivial, hX q2⟩⟩)⟩⟩

theorem M_L_delivered {l : Launch} (hl : l.stackTraces = false) : zMetW l yL_delivered (Cond.codeWith yL_delivered cL_delivered 5 (Option.some Jvm.ClassFile.FieldType.int) [(0, 7, 8, 113)] :: zG) rm_L_delivered 4 24 T_L_delivered := met_L_delivered hl (M_X8_deliver hl) bd_L_delivered

theorem gw_6_21 : Cond.code yX8_audit cX8_audit 4 (Option.some Jvm.ClassFile.FieldType.boolean) ∈ zG := zGt6 (List.mem_of_getElem? (i := 21) (by rfl)) rfl
theorem gw_6_18 : Cond.methodLink RL 122 yX8_audit ∈ zG := zGt6 (List.mem_of_getElem? (i := 18) (by rfl)) rfl
theorem gw_6_19 : Cond.instanceMethod yX8_audit ∈ zG := zGt6 (List.mem_of_getElem? (i := 19) (by rfl)) rfl
theorem gw_6_20 : Cond.selects RX8 yX8_audit yX8_audit ∈ zG := zGt6 (List.mem_of_getElem? (i := 20) (by rfl)) rfl
def hd_L_audited (x : Nat) : Option (Nat × Nat) := if x = 2 then some (16, 3) else none
theorem hHd_L_audited : zHd cL_audited 4 3 [(0, 14, 15, 113)] hd_L_audited := by
  intro x h i q
  by_cases e2 : x = 2
  · subst e2
    have q' : some (16, 3) = some (h, i) := q
    cases q'
    exact ⟨by decide, 15, rfl, Or.inr ⟨3, rfl, by decide +kernel, rfl⟩⟩
  unfold hd_L_audited at q
  rw [if_neg e2] at q
  cases q

abbrev rm_L_audited : Room := { frames := 8, cells := 3, slots := 18, locals := 147 }
def cd_L_audited (T0 : ZTf) : List (Nat × ZTr) := [(0, tAld 0 1), (1, tIld 1 2), (2, tIld 2 3), (3, tCallH 3 3 18 T0 (zRcv 11) hd_L_audited 6), (6, tIf_eq 13 9), (9, tC (zi 1) 10), (10, tGo 14), (13, tC (zi 0) 14), (14, tRi (fun _ => True)), (16, tC (zi (-9)) 18), (18, tRi (fun _ => True))]
set_option maxRecDepth 100000 in
set_option maxHeartbeats 1500000 in
theorem hs_L_audited {l : Launch} (hl : l.stackTraces = false) {T0 : ZTf} (h0 : zMet l yX8_audit (Cond.code yX8_audit cX8_audit 4 (Option.some Jvm.ClassFile.FieldType.boolean) :: zG) rm_X8_audit 3 18 T0) (p : Program) (e : Env) (s : State) (m : MethodId) (args : Array Value) (below : List Frame) (meth : Method) (c : Code) (D : va_G) (A : Nat → Prop) (a0 : Nat → Nat) (M0 : ZM) (K : ZRet) (KX : ZEx) (X : zCtx p l rm_L_audited s m args meth c cL_audited RL (Cond.codeWith yL_audited cL_audited 4 (Option.some Jvm.ClassFile.FieldType.int) [(0, 14, 15, 113)] :: zG) 4 (Option.some Jvm.ClassFile.FieldType.int) D A a0 M0 3 18) (htab : c.exceptionTable.toList = tableOf [(0, 14, 15, 113)]) (hNc : zNc0 s) : ∀ q ∈ cd_L_audited T0, zSd p l e rm_L_audited s m args below meth c 4 D A a0 M0 K KX 3 18 q.1 q.2 :=
  have hCx := zCx_of X (.tail _ gw_5_107);
    zall_c (zs_aload_n X (pc := 0) (q := 0) rfl (by decide +kernel)) <|
    zall_c (zs_iload_n X (pc := 1) (q := 1) rfl (by decide +kernel)) <|
    zall_c (zs_iload_n X (pc := 2) (q := 2) rfl (by decide +kernel)) <|
    zall_c (zs_callVH X (pc := 3) zc_X8 (fun _ ht => ⟨(zCB ht gw_6_21 gw_1_1 gw_6_18 rfl rfl (by decide +kernel) ⟨Nat.le_of_ble_eq_true rfl, Nat.le_of_ble_eq_true rfl⟩), ht _ (.tail _ gw_6_19), ht _ (.tail _ gw_6_20)⟩) h0 htab hCx hNc hHd_L_audited (by decide +kernel)) <|
    zall_c (zs_if_eq X (pc := 6) (off := 7) (by decide +kernel) (by decide)) <|
    zall_c (zs_iconst X (pc := 9) (by decide) (by decide +kernel)) <|
    zall_c (zs_goto X (pc := 10) (off := 4) (by decide +kernel) (by decide)) <|
    zall_c (zs_iconst X (pc := 13) (by decide) (by decide +kernel)) <|
    zall_c (zs_iret X (pc := 14) rfl (by decide +kernel)) <|
    zall_c (zs_bipush X (pc := 16) (by decide) (by decide +kernel) (by decide +kernel)) <|
    zall_c (zs_iret X (pc := 18) rfl (by decide +kernel)) <|
    zall_n
theorem met_L_audited {l : Launch} (hl : l.stackTraces = false) {T0 : ZTf} (h0 : zMet l yX8_audit (Cond.code yX8_audit cX8_audit 4 (Option.some Jvm.ClassFile.FieldType.boolean) :: zG) rm_X8_audit 3 18 T0) {T : List ZV → ZM → ZRet → Prop} (bd : zBdW (cd_L_audited T0) 4 3 18 T) : zMetW l yL_audited (Cond.codeWith yL_audited cL_audited 4 (Option.some Jvm.ClassFile.FieldType.int) [(0, 14, 15, 113)] :: zG) rm_L_audited 3 18 T := zMetW_of hl (by decide +kernel) rfl rfl rfl rfl (hs_L_audited hl h0) bd

def T_L_audited : List ZV → ZM → ZRet → Prop := fun av M K => ∃ (G : Gm) (P : Int → Gm) (c : Int) (p q : Int) (r x : Int), av = [zo 64, zi r, zi x] ∧ LV M ∧ TR M 129 G ∧ GI G ∧ GV G ∧ GX G ∧ RQ M P c ∧ (0 ≤ r → r < G 5 → (G (132 + 16 * r + 1).toNat) = 2 → BYp G r p q) ∧ (c_audit G r x = 0 ∨ c_audit G r x = 3) ∧ (c_audit G r x = 0 → ∀ M' : ZM, Fr SCw M M' → TR M' 129 (F_audit G r x p q) → RQ M' (pushP P G c) (pushC c) → K (some (zi (b2i (v_audit G r x)))) M') ∧ (c_audit G r x = 3 → K (some (zi (-9))) M)
set_option maxRecDepth 100000 in
set_option maxHeartbeats 1500000 in
theorem bd_L_audited : zBdW (cd_L_audited T_X8_audit) 4 3 18 T_L_audited := by
  rintro av M K hA0 hM ⟨G, P, c, p, q, r, x, rfl, hL, hT, hG, hV9, hX9, hq, hP, hc, hK, hX⟩
  refine ⟨rfl, fun Φ hΦ => ?_⟩
  refine zGoR hΦ [] 400 (fun hL9 _ hM _ _ => ?_)
  exact ⟨⟨(by decide), (by decide)⟩, ⟨⟨rfl, rfl⟩, hL.w.rcv⟩, ⟨G, P, c, p, q, r, x, rfl, hL, hT, hG, hV9, hX9, hq, hP, fun q0 => fun M1 hf1 hT1 hq91 => fun qg1 qm2 => ⟨fun h => ⟨trivial, by have z := hK q0 M1 hf1 hT1 hq91; rw [h] at z; exact z⟩, fun h => ⟨trivial, by have z := hK q0 M1 hf1 hT1 hq91; rw [b2i_ne h] at z; exact z⟩⟩, fun q1 => (hc.elim (fun z => absurd (q1.symm.trans z) (by decide)) (fun z => absurd (q1.symm.trans z) (by decide))), fun q1 => (hc.elim (fun z => absurd (q1.symm.trans z) (by decide)) (fun z => absurd (q1.symm.trans z) (by decide))), fun q2 => (fun _ => ⟨16, 3, rfl, ⟨trivial, hX q2⟩⟩)⟩⟩

theorem M_L_audited {l : Launch} (hl : l.stackTraces = false) : zMetW l yL_audited (Cond.codeWith yL_audited cL_audited 4 (Option.some Jvm.ClassFile.FieldType.int) [(0, 14, 15, 113)] :: zG) rm_L_audited 3 18 T_L_audited := met_L_audited hl (M_X8_audit hl) bd_L_audited

theorem gw_6_35 : Cond.code yX8_setAside cX8_setAside 2 (Option.some Jvm.ClassFile.FieldType.int) ∈ zG := zGt6 (List.mem_of_getElem? (i := 35) (by rfl)) rfl
theorem gw_6_32 : Cond.methodLink RL 125 yX8_setAside ∈ zG := zGt6 (List.mem_of_getElem? (i := 32) (by rfl)) rfl
theorem gw_6_33 : Cond.instanceMethod yX8_setAside ∈ zG := zGt6 (List.mem_of_getElem? (i := 33) (by rfl)) rfl
theorem gw_6_34 : Cond.selects RX8 yX8_setAside yX8_setAside ∈ zG := zGt6 (List.mem_of_getElem? (i := 34) (by rfl)) rfl
def hd_L_putAside (x : Nat) : Option (Nat × Nat) := if x = 2 then some (7, 2) else none
theorem hHd_L_putAside : zHd cL_putAside 3 2 [(0, 5, 6, 113)] hd_L_putAside := by
  intro x h i q
  by_cases e2 : x = 2
  · subst e2
    have q' : some (7, 2) = some (h, i) := q
    cases q'
    exact ⟨by decide, 6, rfl, Or.inr ⟨2, rfl, by decide +kernel, rfl⟩⟩
  unfold hd_L_putAside at q
  rw [if_neg e2] at q
  cases q

abbrev rm_L_putAside : Room := { frames := 8, cells := 2, slots := 12, locals := 161 }
def cd_L_putAside (T0 : ZTf) : List (Nat × ZTr) := [(0, tAld 0 1), (1, tIld 1 2), (2, tCallH 2 2 12 T0 (zRcv 11) hd_L_putAside 5), (5, tRi (fun _ => True)), (7, tC (zi (-9)) 9), (9, tRi (fun _ => True))]
set_option maxRecDepth 100000 in
set_option maxHeartbeats 1500000 in
theorem hs_L_putAside {l : Launch} (hl : l.stackTraces = false) {T0 : ZTf} (h0 : zMet l yX8_setAside (Cond.code yX8_setAside cX8_setAside 2 (Option.some Jvm.ClassFile.FieldType.int) :: zG) rm_X8_setAside 2 12 T0) (p : Program) (e : Env) (s : State) (m : MethodId) (args : Array Value) (below : List Frame) (meth : Method) (c : Code) (D : va_G) (A : Nat → Prop) (a0 : Nat → Nat) (M0 : ZM) (K : ZRet) (KX : ZEx) (X : zCtx p l rm_L_putAside s m args meth c cL_putAside RL (Cond.codeWith yL_putAside cL_putAside 3 (Option.some Jvm.ClassFile.FieldType.int) [(0, 5, 6, 113)] :: zG) 3 (Option.some Jvm.ClassFile.FieldType.int) D A a0 M0 2 12) (htab : c.exceptionTable.toList = tableOf [(0, 5, 6, 113)]) (hNc : zNc0 s) : ∀ q ∈ cd_L_putAside T0, zSd p l e rm_L_putAside s m args below meth c 3 D A a0 M0 K KX 2 12 q.1 q.2 :=
  have hCx := zCx_of X (.tail _ gw_5_107);
    zall_c (zs_aload_n X (pc := 0) (q := 0) rfl (by decide +kernel)) <|
    zall_c (zs_iload_n X (pc := 1) (q := 1) rfl (by decide +kernel)) <|
    zall_c (zs_callVH X (pc := 2) zc_X8 (fun _ ht => ⟨(zCB ht gw_6_35 gw_1_1 gw_6_32 rfl rfl (by decide +kernel) ⟨Nat.le_of_ble_eq_true rfl, Nat.le_of_ble_eq_true rfl⟩), ht _ (.tail _ gw_6_33), ht _ (.tail _ gw_6_34)⟩) h0 htab hCx hNc hHd_L_putAside (by decide +kernel)) <|
    zall_c (zs_iret X (pc := 5) rfl (by decide +kernel)) <|
    zall_c (zs_bipush X (pc := 7) (by decide) (by decide +kernel) (by decide +kernel)) <|
    zall_c (zs_iret X (pc := 9) rfl (by decide +kernel)) <|
    zall_n
theorem met_L_putAside {l : Launch} (hl : l.stackTraces = false) {T0 : ZTf} (h0 : zMet l yX8_setAside (Cond.code yX8_setAside cX8_setAside 2 (Option.some Jvm.ClassFile.FieldType.int) :: zG) rm_X8_setAside 2 12 T0) {T : List ZV → ZM → ZRet → Prop} (bd : zBdW (cd_L_putAside T0) 3 2 12 T) : zMetW l yL_putAside (Cond.codeWith yL_putAside cL_putAside 3 (Option.some Jvm.ClassFile.FieldType.int) [(0, 5, 6, 113)] :: zG) rm_L_putAside 2 12 T := zMetW_of hl (by decide +kernel) rfl rfl rfl rfl (hs_L_putAside hl h0) bd

def T_L_putAside : List ZV → ZM → ZRet → Prop := fun av M K => ∃ (G : Gm) (P : Int → Gm) (c : Int) (g : Gm) (n : Int) (r : Int), av = [zo 64, zi r] ∧ LV M ∧ TR M 129 G ∧ GI G ∧ GV G ∧ GX G ∧ RQ M P c ∧ (c_setAside G r = 0 → SetA G r g n) ∧ (c_setAside G r = 0 ∨ c_setAside G r = 2) ∧ (c_setAside G r = 0 → ∀ M' : ZM, Fr SCw M M' → TR M' 129 g → RQ M' (pushP P G c) (pushC c) → K (some (zi (n))) M') ∧ (c_setAside G r = 2 → K (some (zi (-9))) M)
set_option maxRecDepth 100000 in
set_option maxHeartbeats 1500000 in
theorem bd_L_putAside : zBdW (cd_L_putAside T_X8_setAside) 3 2 12 T_L_putAside := by
  rintro av M K hA0 hM ⟨G, P, c, g, n, r, rfl, hL, hT, hG, hV9, hX9, hq, hP, hc, hK, hX⟩
  refine ⟨rfl, fun Φ hΦ => ?_⟩
  refine zGoR hΦ [] 400 (fun hL9 _ hM _ _ => ?_)
  exact ⟨⟨(by decide), (by decide)⟩, ⟨⟨rfl, rfl⟩, hL.w.rcv⟩, ⟨G, g, P, c, n, r, rfl, hL, hT, hG, hV9, hX9, hq, hP, fun q0 => fun M1 hf1 hT1 hq91 => fun (qg1 : zrg (n)) qm2 => ⟨trivial, hK q0 M1 hf1 hT1 hq91⟩, fun q1 => (hc.elim (fun z => absurd (q1.symm.trans z) (by decide)) (fun z => absurd (q1.symm.trans z) (by decide))), fun q2 => (fun _ => ⟨7, 2, rfl, ⟨trivial, hX q2⟩⟩)⟩⟩

theorem M_L_putAside {l : Launch} (hl : l.stackTraces = false) : zMetW l yL_putAside (Cond.codeWith yL_putAside cL_putAside 3 (Option.some Jvm.ClassFile.FieldType.int) [(0, 5, 6, 113)] :: zG) rm_L_putAside 2 12 T_L_putAside := met_L_putAside hl (M_X8_setAside hl) bd_L_putAside

theorem gw_6_48 : Cond.code yX8_pardon cX8_pardon 3 (Option.some Jvm.ClassFile.FieldType.int) ∈ zG := zGt6 (List.mem_of_getElem? (i := 48) (by rfl)) rfl
theorem gw_6_45 : Cond.methodLink RL 128 yX8_pardon ∈ zG := zGt6 (List.mem_of_getElem? (i := 45) (by rfl)) rfl
theorem gw_6_46 : Cond.instanceMethod yX8_pardon ∈ zG := zGt6 (List.mem_of_getElem? (i := 46) (by rfl)) rfl
theorem gw_6_47 : Cond.selects RX8 yX8_pardon yX8_pardon ∈ zG := zGt6 (List.mem_of_getElem? (i := 47) (by rfl)) rfl
def hd_L_pardoned (x : Nat) : Option (Nat × Nat) := if x = 2 then some (7, 2) else none
theorem hHd_L_pardoned : zHd cL_pardoned 3 2 [(0, 5, 6, 113)] hd_L_pardoned := by
  intro x h i q
  by_cases e2 : x = 2
  · subst e2
    have q' : some (7, 2) = some (h, i) := q
    cases q'
    exact ⟨by decide, 6, rfl, Or.inr ⟨2, rfl, by decide +kernel, rfl⟩⟩
  unfold hd_L_pardoned at q
  rw [if_neg e2] at q
  cases q

abbrev rm_L_pardoned : Room := { frames := 8, cells := 2, slots := 12, locals := 146 }
def cd_L_pardoned (T0 : ZTf) : List (Nat × ZTr) := [(0, tAld 0 1), (1, tIld 1 2), (2, tCallH 2 2 12 T0 (zRcv 11) hd_L_pardoned 5), (5, tRi (fun _ => True)), (7, tC (zi (-9)) 9), (9, tRi (fun _ => True))]
set_option maxRecDepth 100000 in
set_option maxHeartbeats 1500000 in
theorem hs_L_pardoned {l : Launch} (hl : l.stackTraces = false) {T0 : ZTf} (h0 : zMet l yX8_pardon (Cond.code yX8_pardon cX8_pardon 3 (Option.some Jvm.ClassFile.FieldType.int) :: zG) rm_X8_pardon 2 12 T0) (p : Program) (e : Env) (s : State) (m : MethodId) (args : Array Value) (below : List Frame) (meth : Method) (c : Code) (D : va_G) (A : Nat → Prop) (a0 : Nat → Nat) (M0 : ZM) (K : ZRet) (KX : ZEx) (X : zCtx p l rm_L_pardoned s m args meth c cL_pardoned RL (Cond.codeWith yL_pardoned cL_pardoned 3 (Option.some Jvm.ClassFile.FieldType.int) [(0, 5, 6, 113)] :: zG) 3 (Option.some Jvm.ClassFile.FieldType.int) D A a0 M0 2 12) (htab : c.exceptionTable.toList = tableOf [(0, 5, 6, 113)]) (hNc : zNc0 s) : ∀ q ∈ cd_L_pardoned T0, zSd p l e rm_L_pardoned s m args below meth c 3 D A a0 M0 K KX 2 12 q.1 q.2 :=
  have hCx := zCx_of X (.tail _ gw_5_107);
    zall_c (zs_aload_n X (pc := 0) (q := 0) rfl (by decide +kernel)) <|
    zall_c (zs_iload_n X (pc := 1) (q := 1) rfl (by decide +kernel)) <|
    zall_c (zs_callVH X (pc := 2) zc_X8 (fun _ ht => ⟨(zCB ht gw_6_48 gw_1_1 gw_6_45 rfl rfl (by decide +kernel) ⟨Nat.le_of_ble_eq_true rfl, Nat.le_of_ble_eq_true rfl⟩), ht _ (.tail _ gw_6_46), ht _ (.tail _ gw_6_47)⟩) h0 htab hCx hNc hHd_L_pardoned (by decide +kernel)) <|
    zall_c (zs_iret X (pc := 5) rfl (by decide +kernel)) <|
    zall_c (zs_bipush X (pc := 7) (by decide) (by decide +kernel) (by decide +kernel)) <|
    zall_c (zs_iret X (pc := 9) rfl (by decide +kernel)) <|
    zall_n
theorem met_L_pardoned {l : Launch} (hl : l.stackTraces = false) {T0 : ZTf} (h0 : zMet l yX8_pardon (Cond.code yX8_pardon cX8_pardon 3 (Option.some Jvm.ClassFile.FieldType.int) :: zG) rm_X8_pardon 2 12 T0) {T : List ZV → ZM → ZRet → Prop} (bd : zBdW (cd_L_pardoned T0) 3 2 12 T) : zMetW l yL_pardoned (Cond.codeWith yL_pardoned cL_pardoned 3 (Option.some Jvm.ClassFile.FieldType.int) [(0, 5, 6, 113)] :: zG) rm_L_pardoned 2 12 T := zMetW_of hl (by decide +kernel) rfl rfl rfl rfl (hs_L_pardoned hl h0) bd

def T_L_pardoned : List ZV → ZM → ZRet → Prop := fun av M K => ∃ (G : Gm) (P : Int → Gm) (c : Int) (w : Int), av = [zo 64, zi w] ∧ LV M ∧ TR M 129 G ∧ GI G ∧ GV G ∧ GX G ∧ RQ M P c ∧ (c_pardon G w = 0 ∨ c_pardon G w = 2) ∧ (c_pardon G w = 0 → ∀ M' : ZM, Fr SCw M M' → TR M' 129 (F_pardon G w) → RQ M' (pushP P G c) (pushC c) → K (some (zi (v_pardon G w))) M') ∧ (c_pardon G w = 2 → K (some (zi (-9))) M)
set_option maxRecDepth 100000 in
set_option maxHeartbeats 1500000 in
theorem bd_L_pardoned : zBdW (cd_L_pardoned T_X8_pardon) 3 2 12 T_L_pardoned := by
  rintro av M K hA0 hM ⟨G, P, c, w, rfl, hL, hT, hG, hV9, hX9, hq, hc, hK, hX⟩
  refine ⟨rfl, fun Φ hΦ => ?_⟩
  refine zGoR hΦ [] 400 (fun hL9 _ hM _ _ => ?_)
  exact ⟨⟨(by decide), (by decide)⟩, ⟨⟨rfl, rfl⟩, hL.w.rcv⟩, ⟨G, P, c, w, rfl, hL, hT, hG, hV9, hX9, hq, fun q0 => fun M1 hf1 hT1 hq91 => fun (qg1 : zrg (v_pardon G w)) qm2 => ⟨trivial, hK q0 M1 hf1 hT1 hq91⟩, fun q1 => (hc.elim (fun z => absurd (q1.symm.trans z) (by decide)) (fun z => absurd (q1.symm.trans z) (by decide))), fun q2 => (fun _ => ⟨7, 2, rfl, ⟨trivial, hX q2⟩⟩)⟩⟩

theorem M_L_pardoned {l : Launch} (hl : l.stackTraces = false) : zMetW l yL_pardoned (Cond.codeWith yL_pardoned cL_pardoned 3 (Option.some Jvm.ClassFile.FieldType.int) [(0, 5, 6, 113)] :: zG) rm_L_pardoned 2 12 T_L_pardoned := met_L_pardoned hl (M_X8_pardon hl) bd_L_pardoned

