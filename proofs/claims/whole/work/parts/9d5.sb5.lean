/-! the law: the wrappers, third -/
theorem gw_7_20 : Cond.code yX8_deliver cX8_deliver 5 (Option.some Jvm.ClassFile.FieldType.int) ∈ zG := zGt7 (List.mem_of_getElem? (i := 20) (by rfl)) rfl
theorem gw_7_17 : Cond.methodLink RL 108 yX8_deliver ∈ zG := zGt7 (List.mem_of_getElem? (i := 17) (by rfl)) rfl
theorem gw_7_18 : Cond.instanceMethod yX8_deliver ∈ zG := zGt7 (List.mem_of_getElem? (i := 18) (by rfl)) rfl
theorem gw_7_19 : Cond.selects RX8 yX8_deliver yX8_deliver ∈ zG := zGt7 (List.mem_of_getElem? (i := 19) (by rfl)) rfl
def hd_L_deliver (x : Nat) : Option (Nat × Nat) := if x = 0 then some (17, 5) else if x = 1 then some (21, 5) else if x = 2 then some (25, 5) else none
theorem hHd_L_deliver : zHd cL_deliver 6 7 [(0, 12, 15, 29), (0, 12, 19, 19), (0, 12, 23, 13)] hd_L_deliver := by
  intro x h i q
  by_cases e0 : x = 0
  · subst e0
    have q' : some (17, 5) = some (h, i) := q
    cases q'
    exact ⟨by decide, 15, rfl, Or.inl ⟨by decide +kernel, rfl⟩⟩
  by_cases e1 : x = 1
  · subst e1
    have q' : some (21, 5) = some (h, i) := q
    cases q'
    exact ⟨by decide, 19, rfl, Or.inl ⟨by decide +kernel, rfl⟩⟩
  by_cases e2 : x = 2
  · subst e2
    have q' : some (25, 5) = some (h, i) := q
    cases q'
    exact ⟨by decide, 23, rfl, Or.inl ⟨by decide +kernel, rfl⟩⟩
  unfold hd_L_deliver at q
  rw [if_neg e0] at q
  rw [if_neg e1] at q
  rw [if_neg e2] at q
  cases q

abbrev rm_L_deliver : Room := { frames := 8, cells := 4, slots := 24, locals := 148 }
def cd_L_deliver (T0 : ZTf) : List (Nat × ZTr) := [(0, tAld 4 2), (2, tC (zi 0) 3), (3, tAld 0 4), (4, tIld 1 5), (5, tIld 2 6), (6, tIld 3 7), (7, tCallH 4 4 24 T0 (zRcv 11) hd_L_deliver 10), (10, tI2l 11), (11, tLas 12), (12, tGo 27), (17, tC (zi 1) 18), (18, tRi (fun _ => True)), (21, tC (zi 2) 22), (22, tRi (fun _ => True)), (25, tC (zi 3) 26), (26, tRi (fun _ => True)), (27, tC (zi 0) 28), (28, tRi (fun _ => True))]
set_option maxRecDepth 100000 in
set_option maxHeartbeats 1500000 in
theorem hs_L_deliver {l : Launch} (hl : l.stackTraces = false) {T0 : ZTf} (h0 : zMet l yX8_deliver (Cond.code yX8_deliver cX8_deliver 5 (Option.some Jvm.ClassFile.FieldType.int) :: zG) rm_X8_deliver 4 24 T0) (p : Program) (e : Env) (s : State) (m : MethodId) (args : Array Value) (below : List Frame) (meth : Method) (c : Code) (D : va_G) (A : Nat → Prop) (a0 : Nat → Nat) (M0 : ZM) (K : ZRet) (KX : ZEx) (X : zCtx p l rm_L_deliver s m args meth c cL_deliver RL (Cond.codeWith yL_deliver cL_deliver 6 (Option.some Jvm.ClassFile.FieldType.int) [(0, 12, 15, 29), (0, 12, 19, 19), (0, 12, 23, 13)] :: zG) 6 (Option.some Jvm.ClassFile.FieldType.int) D A a0 M0 4 24) (htab : c.exceptionTable.toList = tableOf [(0, 12, 15, 29), (0, 12, 19, 19), (0, 12, 23, 13)]) (hNc : zNc0 s) : ∀ q ∈ cd_L_deliver T0, zSd p l e rm_L_deliver s m args below meth c 6 D A a0 M0 K KX 4 24 q.1 q.2 :=
  have hCx := zCx_of X (.tail _ gw_5_193) (.tail _ gw_5_164) (.tail _ gw_5_136) (.tail _ gw_7_174);
    zall_c (zs_aload X (pc := 0) (by decide +kernel)) <|
    zall_c (zs_iconst X (pc := 2) (by decide) (by decide +kernel)) <|
    zall_c (zs_aload_n X (pc := 3) (q := 0) rfl (by decide +kernel)) <|
    zall_c (zs_iload_n X (pc := 4) (q := 1) rfl (by decide +kernel)) <|
    zall_c (zs_iload_n X (pc := 5) (q := 2) rfl (by decide +kernel)) <|
    zall_c (zs_iload_n X (pc := 6) (q := 3) rfl (by decide +kernel)) <|
    zall_c (zs_callVH X (pc := 7) zc_X8 (fun _ ht => ⟨(zCB ht gw_7_20 gw_1_1 gw_7_17 rfl rfl (by decide +kernel) ⟨Nat.le_of_ble_eq_true rfl, Nat.le_of_ble_eq_true rfl⟩), ht _ (.tail _ gw_7_18), ht _ (.tail _ gw_7_19)⟩) h0 htab hCx hNc hHd_L_deliver (by decide +kernel)) <|
    zall_c (zs_i2l X (pc := 10) (by decide +kernel)) <|
    zall_c (zs_lastore X (pc := 11) (by decide +kernel)) <|
    zall_c (zs_goto X (pc := 12) (off := 15) (by decide +kernel) (by decide)) <|
    zall_c (zs_iconst X (pc := 17) (by decide) (by decide +kernel)) <|
    zall_c (zs_iret X (pc := 18) rfl (by decide +kernel)) <|
    zall_c (zs_iconst X (pc := 21) (by decide) (by decide +kernel)) <|
    zall_c (zs_iret X (pc := 22) rfl (by decide +kernel)) <|
    zall_c (zs_iconst X (pc := 25) (by decide) (by decide +kernel)) <|
    zall_c (zs_iret X (pc := 26) rfl (by decide +kernel)) <|
    zall_c (zs_iconst X (pc := 27) (by decide) (by decide +kernel)) <|
    zall_c (zs_iret X (pc := 28) rfl (by decide +kernel)) <|
    zall_n
theorem met_L_deliver {l : Launch} (hl : l.stackTraces = false) {T0 : ZTf} (h0 : zMet l yX8_deliver (Cond.code yX8_deliver cX8_deliver 5 (Option.some Jvm.ClassFile.FieldType.int) :: zG) rm_X8_deliver 4 24 T0) {T : List ZV → ZM → ZRet → Prop} (bd : zBdW (cd_L_deliver T0) 6 4 24 T) : zMetW l yL_deliver (Cond.codeWith yL_deliver cL_deliver 6 (Option.some Jvm.ClassFile.FieldType.int) [(0, 12, 15, 29), (0, 12, 19, 19), (0, 12, 23, 13)] :: zG) rm_L_deliver 4 24 T := zMetW_of hl (by decide +kernel) rfl rfl rfl rfl (hs_L_deliver hl h0) bd

def T_L_deliver : List ZV → ZM → ZRet → Prop := fun av M K => ∃ (G : Gm) (P : Int → Gm) (c : Int) (w r x : Int), av = [zo 64, zi w, zi r, zi x, zo 681] ∧ (zW M 681 23 ∧ zLn M 681 = 1) ∧ (LV M) ∧ (TR M 129 G) ∧ (GI G) ∧ (GV G) ∧ (GX G) ∧ (RQ M P c) ∧  ((c_deliver G w r x = 0) → (∀ M' : ZM, (Fr SCw M M') → (TR M' 129 (F_deliver G w r x)) → (RQ M' (pushP P G c) (pushC c)) → K (some (zi 0)) (zsI M' 681 0 (v_deliver G w r x)))) ∧ ((c_deliver G w r x = 1) → K (some (zi 1)) M) ∧ ((c_deliver G w r x = 2) → K (some (zi 2)) M) ∧ ((c_deliver G w r x = 3) → K (some (zi 3)) M)
set_option maxRecDepth 100000 in
set_option maxHeartbeats 1500000 in
theorem bd_L_deliver : zBdW (cd_L_deliver T_X8_deliver) 6 4 24 T_L_deliver := by
  rintro av M K hA0 hM ⟨G, P, c, w, r, x, rfl, hOut, hL, hT, hG, hV9, hX9, hq, hK, hX0, hX1, hX2⟩
  refine ⟨rfl, fun Φ hΦ => ?_⟩
  refine zGoR hΦ [] 400 (fun hL9 _ hM _ _ => ?_)
  obtain ⟨qL1, qL2, qL3, _⟩ : zrg w ∧ zrg r ∧ zrg x ∧ True := hL9
  refine ⟨⟨(by decide), (by decide)⟩, ⟨⟨rfl, rfl⟩, hL.w.rcv⟩, ⟨G, P, c, w, r, x, rfl, hL, hT, hG, hV9, hX9, hq, fun (qc3 : c_deliver G w r x = 0) => fun M1 hf1 hT1 hq91 => (have hOw1 : zW M1 681 23 := hOut.1.fr hf1; have hOl1 : zLn M1 681 = 1 := Fr.ln hf1 hOut.1 hOut.2; fun (qg1 : zrg (v_deliver G w r x)) qm2 => ⟨zixW hOw1 hOl1 (i := 0) (by decide) (by decide), ⟨trivial, (show K (some (zi 0)) (zsI M1 681 0 (v_deliver G w r x)) from ?g526l1)⟩⟩), fun (qc4 : c_deliver G w r x = 1) => (fun _ => ⟨17, 5, rfl, ⟨trivial, (hX0 (by assumption))⟩⟩), fun (qc5 : c_deliver G w r x = 2) => (fun _ => ⟨21, 5, rfl, ⟨trivial, (hX1 (by assumption))⟩⟩), fun (qc6 : c_deliver G w r x = 3) => (fun _ => ⟨25, 5, rfl, ⟨trivial, (hX2 (by assumption))⟩⟩)⟩⟩
  case g526l1 => exact hK qc3 M1 hf1 hT1 hq91

theorem M_L_deliver {l : Launch} (hl : l.stackTraces = false) : zMetW l yL_deliver (Cond.codeWith yL_deliver cL_deliver 6 (Option.some Jvm.ClassFile.FieldType.int) [(0, 12, 15, 29), (0, 12, 19, 19), (0, 12, 23, 13)] :: zG) rm_L_deliver 4 24 T_L_deliver := met_L_deliver hl (M_X8_deliver hl) bd_L_deliver

theorem gw_7_48 : Cond.code yX8_pass cX8_pass 2 (Option.some Jvm.ClassFile.FieldType.int) ∈ zG := zGt7 (List.mem_of_getElem? (i := 48) (by rfl)) rfl
theorem gw_7_45 : Cond.methodLink RL 111 yX8_pass ∈ zG := zGt7 (List.mem_of_getElem? (i := 45) (by rfl)) rfl
theorem gw_7_46 : Cond.instanceMethod yX8_pass ∈ zG := zGt7 (List.mem_of_getElem? (i := 46) (by rfl)) rfl
theorem gw_7_47 : Cond.selects RX8 yX8_pass yX8_pass ∈ zG := zGt7 (List.mem_of_getElem? (i := 47) (by rfl)) rfl
def hd_L_pass (x : Nat) : Option (Nat × Nat) := if x = 1 then some (13, 3) else none
theorem hHd_L_pass : zHd cL_pass 4 4 [(0, 9, 12, 19)] hd_L_pass := by
  intro x h i q
  by_cases e1 : x = 1
  · subst e1
    have q' : some (13, 3) = some (h, i) := q
    cases q'
    exact ⟨by decide, 12, rfl, Or.inr ⟨3, rfl, by decide +kernel, rfl⟩⟩
  unfold hd_L_pass at q
  rw [if_neg e1] at q
  cases q

abbrev rm_L_pass : Room := { frames := 8, cells := 1, slots := 6, locals := 163 }
def cd_L_pass (T0 : ZTf) : List (Nat × ZTr) := [(0, tAld 2 1), (1, tC (zi 0) 2), (2, tAld 0 3), (3, tIld 1 4), (4, tCallH 2 1 6 T0 (zRcv 11) hd_L_pass 7), (7, tI2l 8), (8, tLas 9), (9, tGo 15), (13, tC (zi 1) 14), (14, tRi (fun _ => True)), (15, tC (zi 0) 16), (16, tRi (fun _ => True))]
set_option maxRecDepth 100000 in
set_option maxHeartbeats 1500000 in
theorem hs_L_pass {l : Launch} (hl : l.stackTraces = false) {T0 : ZTf} (h0 : zMet l yX8_pass (Cond.code yX8_pass cX8_pass 2 (Option.some Jvm.ClassFile.FieldType.int) :: zG) rm_X8_pass 1 6 T0) (p : Program) (e : Env) (s : State) (m : MethodId) (args : Array Value) (below : List Frame) (meth : Method) (c : Code) (D : va_G) (A : Nat → Prop) (a0 : Nat → Nat) (M0 : ZM) (K : ZRet) (KX : ZEx) (X : zCtx p l rm_L_pass s m args meth c cL_pass RL (Cond.codeWith yL_pass cL_pass 4 (Option.some Jvm.ClassFile.FieldType.int) [(0, 9, 12, 19)] :: zG) 4 (Option.some Jvm.ClassFile.FieldType.int) D A a0 M0 1 6) (htab : c.exceptionTable.toList = tableOf [(0, 9, 12, 19)]) (hNc : zNc0 s) : ∀ q ∈ cd_L_pass T0, zSd p l e rm_L_pass s m args below meth c 4 D A a0 M0 K KX 1 6 q.1 q.2 :=
  have hCx := zCx_of X (.tail _ gw_5_193) (.tail _ gw_5_164) (.tail _ gw_5_136) (.tail _ gw_7_174);
    zall_c (zs_aload_n X (pc := 0) (q := 2) rfl (by decide +kernel)) <|
    zall_c (zs_iconst X (pc := 1) (by decide) (by decide +kernel)) <|
    zall_c (zs_aload_n X (pc := 2) (q := 0) rfl (by decide +kernel)) <|
    zall_c (zs_iload_n X (pc := 3) (q := 1) rfl (by decide +kernel)) <|
    zall_c (zs_callVH X (pc := 4) zc_X8 (fun _ ht => ⟨(zCB ht gw_7_48 gw_1_1 gw_7_45 rfl rfl (by decide +kernel) ⟨Nat.le_of_ble_eq_true rfl, Nat.le_of_ble_eq_true rfl⟩), ht _ (.tail _ gw_7_46), ht _ (.tail _ gw_7_47)⟩) h0 htab hCx hNc hHd_L_pass (by decide +kernel)) <|
    zall_c (zs_i2l X (pc := 7) (by decide +kernel)) <|
    zall_c (zs_lastore X (pc := 8) (by decide +kernel)) <|
    zall_c (zs_goto X (pc := 9) (off := 6) (by decide +kernel) (by decide)) <|
    zall_c (zs_iconst X (pc := 13) (by decide) (by decide +kernel)) <|
    zall_c (zs_iret X (pc := 14) rfl (by decide +kernel)) <|
    zall_c (zs_iconst X (pc := 15) (by decide) (by decide +kernel)) <|
    zall_c (zs_iret X (pc := 16) rfl (by decide +kernel)) <|
    zall_n
theorem met_L_pass {l : Launch} (hl : l.stackTraces = false) {T0 : ZTf} (h0 : zMet l yX8_pass (Cond.code yX8_pass cX8_pass 2 (Option.some Jvm.ClassFile.FieldType.int) :: zG) rm_X8_pass 1 6 T0) {T : List ZV → ZM → ZRet → Prop} (bd : zBdW (cd_L_pass T0) 4 1 6 T) : zMetW l yL_pass (Cond.codeWith yL_pass cL_pass 4 (Option.some Jvm.ClassFile.FieldType.int) [(0, 9, 12, 19)] :: zG) rm_L_pass 1 6 T := zMetW_of hl (by decide +kernel) rfl rfl rfl rfl (hs_L_pass hl h0) bd

def T_L_pass : List ZV → ZM → ZRet → Prop := fun av M K => ∃ (G : Gm) (P : Int → Gm) (c : Int) (ticks : Int), av = [zo 64, zi ticks, zo 681] ∧ (zW M 681 23 ∧ zLn M 681 = 1) ∧ (LV M) ∧ (TR M 129 G) ∧ (GI G) ∧ (GV G) ∧ (GX G) ∧ (RQ M P c) ∧  ((c_pass ticks = 0) → (∀ M' : ZM, (Fr SCw M M') → (∃ g, LvR (G 3 + ticks) G g (sumI (fun q => LN (G 3 + ticks) (TK G q)) (G 5)) ∧ TR M' 129 g) → (RQ M' (pushP P G c) (pushC c)) → K (some (zi 0)) (zsI M' 681 0 (sumI (fun q => LN (G 3 + ticks) (TK G q)) (G 5))))) ∧ ((c_pass ticks = 1) → K (some (zi 1)) M)
set_option maxRecDepth 100000 in
set_option maxHeartbeats 1500000 in
theorem bd_L_pass : zBdW (cd_L_pass T_X8_pass) 4 1 6 T_L_pass := by
  rintro av M K hA0 hM ⟨G, P, c, ticks, rfl, hOut, hL, hT, hG, hV9, hX9, hq, hK, hX1⟩
  refine ⟨rfl, fun Φ hΦ => ?_⟩
  refine zGoR hΦ [] 400 (fun hL9 _ hM _ _ => ?_)
  obtain ⟨qL1, _⟩ : zrg ticks ∧ True := hL9
  refine ⟨⟨(by decide), (by decide)⟩, ⟨⟨rfl, rfl⟩, hL.w.rcv⟩, ⟨G, P, c, ticks, rfl, hL, hT, hG, hV9, hX9, hq, fun (qc3 : c_pass ticks = 0) => fun M1 hf1 hT1 hq91 => (have hOw1 : zW M1 681 23 := hOut.1.fr hf1; have hOl1 : zLn M1 681 = 1 := Fr.ln hf1 hOut.1 hOut.2; fun (qg1 : zrg (sumI (fun q => LN (G 3 + ticks) (TK G q)) (G 5))) qm2 => ⟨zixW hOw1 hOl1 (i := 0) (by decide) (by decide), ⟨trivial, (show K (some (zi 0)) (zsI M1 681 0 (sumI (fun q => LN (G 3 + ticks) (TK G q)) (G 5))) from ?g527l1)⟩⟩), fun (qc4 : c_pass ticks = 1) => (fun _ => ⟨13, 3, rfl, ⟨trivial, (hX1 (by assumption))⟩⟩)⟩⟩
  case g527l1 => exact hK qc3 M1 hf1 hT1 hq91

theorem M_L_pass {l : Launch} (hl : l.stackTraces = false) : zMetW l yL_pass (Cond.codeWith yL_pass cL_pass 4 (Option.some Jvm.ClassFile.FieldType.int) [(0, 9, 12, 19)] :: zG) rm_L_pass 1 6 T_L_pass := met_L_pass hl (M_X8_pass hl) bd_L_pass

theorem gw_7_72 : Cond.code yX8_audit cX8_audit 4 (Option.some Jvm.ClassFile.FieldType.boolean) ∈ zG := zGt7 (List.mem_of_getElem? (i := 72) (by rfl)) rfl
theorem gw_7_69 : Cond.methodLink RL 114 yX8_audit ∈ zG := zGt7 (List.mem_of_getElem? (i := 69) (by rfl)) rfl
theorem gw_7_70 : Cond.instanceMethod yX8_audit ∈ zG := zGt7 (List.mem_of_getElem? (i := 70) (by rfl)) rfl
theorem gw_7_71 : Cond.selects RX8 yX8_audit yX8_audit ∈ zG := zGt7 (List.mem_of_getElem? (i := 71) (by rfl)) rfl
def hd_L_audit (x : Nat) : Option (Nat × Nat) := if x = 0 then some (22, 4) else if x = 1 then some (26, 4) else if x = 2 then some (30, 4) else none
theorem hHd_L_audit : zHd cL_audit 5 5 [(0, 17, 20, 29), (0, 17, 24, 19), (0, 17, 28, 13)] hd_L_audit := by
  intro x h i q
  by_cases e0 : x = 0
  · subst e0
    have q' : some (22, 4) = some (h, i) := q
    cases q'
    exact ⟨by decide, 20, rfl, Or.inl ⟨by decide +kernel, rfl⟩⟩
  by_cases e1 : x = 1
  · subst e1
    have q' : some (26, 4) = some (h, i) := q
    cases q'
    exact ⟨by decide, 24, rfl, Or.inl ⟨by decide +kernel, rfl⟩⟩
  by_cases e2 : x = 2
  · subst e2
    have q' : some (30, 4) = some (h, i) := q
    cases q'
    exact ⟨by decide, 28, rfl, Or.inl ⟨by decide +kernel, rfl⟩⟩
  unfold hd_L_audit at q
  rw [if_neg e0] at q
  rw [if_neg e1] at q
  rw [if_neg e2] at q
  cases q

abbrev rm_L_audit : Room := { frames := 8, cells := 3, slots := 18, locals := 147 }
def cd_L_audit (T0 : ZTf) : List (Nat × ZTr) := [(0, tAld 3 1), (1, tC (zi 0) 2), (2, tAld 0 3), (3, tIld 1 4), (4, tIld 2 5), (5, tCallH 3 3 18 T0 (zRcv 11) hd_L_audit 8), (8, tIf_eq 15 11), (11, tC (zl 1) 12), (12, tGo 16), (15, tC (zl 0) 16), (16, tLas 17), (17, tGo 32), (22, tC (zi 1) 23), (23, tRi (fun _ => True)), (26, tC (zi 2) 27), (27, tRi (fun _ => True)), (30, tC (zi 3) 31), (31, tRi (fun _ => True)), (32, tC (zi 0) 33), (33, tRi (fun _ => True))]
set_option maxRecDepth 100000 in
set_option maxHeartbeats 1500000 in
theorem hs_L_audit {l : Launch} (hl : l.stackTraces = false) {T0 : ZTf} (h0 : zMet l yX8_audit (Cond.code yX8_audit cX8_audit 4 (Option.some Jvm.ClassFile.FieldType.boolean) :: zG) rm_X8_audit 3 18 T0) (p : Program) (e : Env) (s : State) (m : MethodId) (args : Array Value) (below : List Frame) (meth : Method) (c : Code) (D : va_G) (A : Nat → Prop) (a0 : Nat → Nat) (M0 : ZM) (K : ZRet) (KX : ZEx) (X : zCtx p l rm_L_audit s m args meth c cL_audit RL (Cond.codeWith yL_audit cL_audit 5 (Option.some Jvm.ClassFile.FieldType.int) [(0, 17, 20, 29), (0, 17, 24, 19), (0, 17, 28, 13)] :: zG) 5 (Option.some Jvm.ClassFile.FieldType.int) D A a0 M0 3 18) (htab : c.exceptionTable.toList = tableOf [(0, 17, 20, 29), (0, 17, 24, 19), (0, 17, 28, 13)]) (hNc : zNc0 s) : ∀ q ∈ cd_L_audit T0, zSd p l e rm_L_audit s m args below meth c 5 D A a0 M0 K KX 3 18 q.1 q.2 :=
  have hCx := zCx_of X (.tail _ gw_5_193) (.tail _ gw_5_164) (.tail _ gw_5_136) (.tail _ gw_7_174);
    zall_c (zs_aload_n X (pc := 0) (q := 3) rfl (by decide +kernel)) <|
    zall_c (zs_iconst X (pc := 1) (by decide) (by decide +kernel)) <|
    zall_c (zs_aload_n X (pc := 2) (q := 0) rfl (by decide +kernel)) <|
    zall_c (zs_iload_n X (pc := 3) (q := 1) rfl (by decide +kernel)) <|
    zall_c (zs_iload_n X (pc := 4) (q := 2) rfl (by decide +kernel)) <|
    zall_c (zs_callVH X (pc := 5) zc_X8 (fun _ ht => ⟨(zCB ht gw_7_72 gw_1_1 gw_7_69 rfl rfl (by decide +kernel) ⟨Nat.le_of_ble_eq_true rfl, Nat.le_of_ble_eq_true rfl⟩), ht _ (.tail _ gw_7_70), ht _ (.tail _ gw_7_71)⟩) h0 htab hCx hNc hHd_L_audit (by decide +kernel)) <|
    zall_c (zs_if_eq X (pc := 8) (off := 7) (by decide +kernel) (by decide)) <|
    zall_c (zs_lconst X (pc := 11) (q := 1) (by decide) (by decide +kernel) rfl) <|
    zall_c (zs_goto X (pc := 12) (off := 4) (by decide +kernel) (by decide)) <|
    zall_c (zs_lconst X (pc := 15) (q := 0) (by decide) (by decide +kernel) rfl) <|
    zall_c (zs_lastore X (pc := 16) (by decide +kernel)) <|
    zall_c (zs_goto X (pc := 17) (off := 15) (by decide +kernel) (by decide)) <|
    zall_c (zs_iconst X (pc := 22) (by decide) (by decide +kernel)) <|
    zall_c (zs_iret X (pc := 23) rfl (by decide +kernel)) <|
    zall_c (zs_iconst X (pc := 26) (by decide) (by decide +kernel)) <|
    zall_c (zs_iret X (pc := 27) rfl (by decide +kernel)) <|
    zall_c (zs_iconst X (pc := 30) (by decide) (by decide +kernel)) <|
    zall_c (zs_iret X (pc := 31) rfl (by decide +kernel)) <|
    zall_c (zs_iconst X (pc := 32) (by decide) (by decide +kernel)) <|
    zall_c (zs_iret X (pc := 33) rfl (by decide +kernel)) <|
    zall_n
theorem met_L_audit {l : Launch} (hl : l.stackTraces = false) {T0 : ZTf} (h0 : zMet l yX8_audit (Cond.code yX8_audit cX8_audit 4 (Option.some Jvm.ClassFile.FieldType.boolean) :: zG) rm_X8_audit 3 18 T0) {T : List ZV → ZM → ZRet → Prop} (bd : zBdW (cd_L_audit T0) 5 3 18 T) : zMetW l yL_audit (Cond.codeWith yL_audit cL_audit 5 (Option.some Jvm.ClassFile.FieldType.int) [(0, 17, 20, 29), (0, 17, 24, 19), (0, 17, 28, 13)] :: zG) rm_L_audit 3 18 T := zMetW_of hl (by decide +kernel) rfl rfl rfl rfl (hs_L_audit hl h0) bd

def T_L_audit : List ZV → ZM → ZRet → Prop := fun av M K => ∃ (G : Gm) (P : Int → Gm) (c p q : Int) (r x : Int), av = [zo 64, zi r, zi x, zo 681] ∧ (zW M 681 23 ∧ zLn M 681 = 1) ∧ (LV M) ∧ (TR M 129 G) ∧ (GI G) ∧ (GV G) ∧ (GX G) ∧ (RQ M P c) ∧ (0 ≤ r → r < G 5 → (G (132 + 16 * r + 1).toNat) = 2 → BYp G r p q) ∧  ((c_audit G r x = 0) → (∀ M' : ZM, (Fr SCw M M') → (TR M' 129 (F_audit G r x p q)) → (RQ M' (pushP P G c) (pushC c)) → K (some (zi 0)) (zsI M' 681 0 (b2i (v_audit G r x))))) ∧ ((c_audit G r x = 1) → K (some (zi 1)) M) ∧ ((c_audit G r x = 2) → K (some (zi 2)) M) ∧ ((c_audit G r x = 3) → K (some (zi 3)) M)
set_option maxRecDepth 100000 in
set_option maxHeartbeats 1500000 in
theorem bd_L_audit : zBdW (cd_L_audit T_X8_audit) 5 3 18 T_L_audit := by
  rintro av M K hA0 hM ⟨G, P, c, p, q, r, x, rfl, hOut, hL, hT, hG, hV9, hX9, hq, hBy0, hK, hX0, hX1, hX2⟩
  refine ⟨rfl, fun Φ hΦ => ?_⟩
  refine zGoR hΦ [] 400 (fun hL9 _ hM _ _ => ?_)
  obtain ⟨qL1, qL2, _⟩ : zrg r ∧ zrg x ∧ True := hL9
  refine ⟨⟨(by decide), (by decide)⟩, ⟨⟨rfl, rfl⟩, hL.w.rcv⟩, ⟨G, P, c, p, q, r, x, rfl, hL, hT, hG, hV9, hX9, hq, hBy0, fun (qc3 : c_audit G r x = 0) => fun M1 hf1 hT1 hq91 => (have hOw1 : zW M1 681 23 := hOut.1.fr hf1; have hOl1 : zLn M1 681 = 1 := Fr.ln hf1 hOut.1 hOut.2; fun (qg1 : zrg (b2i (v_audit G r x))) qm2 => ⟨fun h => (have qc4 : (v_audit G r x) = false := b2i_e0 h; ⟨zixW hOw1 hOl1 (i := 0) (by decide) (by decide), ⟨trivial, (show K (some (zi 0)) (zsI M1 681 0 0) from ?g528l1)⟩⟩), fun h => (have qc5 : (v_audit G r x) = true := b2i_n0 h; ⟨zixW hOw1 hOl1 (i := 0) (by decide) (by decide), ⟨trivial, (show K (some (zi 0)) (zsI M1 681 0 1) from ?g528l2)⟩⟩)⟩), fun (qc6 : c_audit G r x = 1) => (fun _ => ⟨22, 4, rfl, ⟨trivial, (hX0 (by assumption))⟩⟩), fun (qc7 : c_audit G r x = 2) => (fun _ => ⟨26, 4, rfl, ⟨trivial, (hX1 (by assumption))⟩⟩), fun (qc8 : c_audit G r x = 3) => (fun _ => ⟨30, 4, rfl, ⟨trivial, (hX2 (by assumption))⟩⟩)⟩⟩
  case g528l1 =>
    have h9 := hK qc3 M1 hf1 hT1 hq91
    rw [qc4] at h9
    exact h9
  case g528l2 =>
    have h9 := hK qc3 M1 hf1 hT1 hq91
    rw [qc5] at h9
    exact h9

theorem M_L_audit {l : Launch} (hl : l.stackTraces = false) : zMetW l yL_audit (Cond.codeWith yL_audit cL_audit 5 (Option.some Jvm.ClassFile.FieldType.int) [(0, 17, 20, 29), (0, 17, 24, 19), (0, 17, 28, 13)] :: zG) rm_L_audit 3 18 T_L_audit := met_L_audit hl (M_X8_audit hl) bd_L_audit

theorem gw_7_85 : Cond.code yX8_setAside cX8_setAside 2 (Option.some Jvm.ClassFile.FieldType.int) ∈ zG := zGt7 (List.mem_of_getElem? (i := 85) (by rfl)) rfl
theorem gw_7_82 : Cond.methodLink RL 117 yX8_setAside ∈ zG := zGt7 (List.mem_of_getElem? (i := 82) (by rfl)) rfl
theorem gw_7_83 : Cond.instanceMethod yX8_setAside ∈ zG := zGt7 (List.mem_of_getElem? (i := 83) (by rfl)) rfl
theorem gw_7_84 : Cond.selects RX8 yX8_setAside yX8_setAside ∈ zG := zGt7 (List.mem_of_getElem? (i := 84) (by rfl)) rfl
def hd_L_setAside (x : Nat) : Option (Nat × Nat) := if x = 0 then some (13, 3) else if x = 2 then some (16, 3) else none
theorem hHd_L_setAside : zHd cL_setAside 4 4 [(0, 9, 12, 29), (0, 9, 15, 13)] hd_L_setAside := by
  intro x h i q
  by_cases e0 : x = 0
  · subst e0
    have q' : some (13, 3) = some (h, i) := q
    cases q'
    exact ⟨by decide, 12, rfl, Or.inr ⟨3, rfl, by decide +kernel, rfl⟩⟩
  by_cases e2 : x = 2
  · subst e2
    have q' : some (16, 3) = some (h, i) := q
    cases q'
    exact ⟨by decide, 15, rfl, Or.inr ⟨3, rfl, by decide +kernel, rfl⟩⟩
  unfold hd_L_setAside at q
  rw [if_neg e0] at q
  rw [if_neg e2] at q
  cases q

abbrev rm_L_setAside : Room := { frames := 8, cells := 2, slots := 12, locals := 161 }
def cd_L_setAside (T0 : ZTf) : List (Nat × ZTr) := [(0, tAld 2 1), (1, tC (zi 0) 2), (2, tAld 0 3), (3, tIld 1 4), (4, tCallH 2 2 12 T0 (zRcv 11) hd_L_setAside 7), (7, tI2l 8), (8, tLas 9), (9, tGo 18), (13, tC (zi 1) 14), (14, tRi (fun _ => True)), (16, tC (zi 2) 17), (17, tRi (fun _ => True)), (18, tC (zi 0) 19), (19, tRi (fun _ => True))]
set_option maxRecDepth 100000 in
set_option maxHeartbeats 1500000 in
theorem hs_L_setAside {l : Launch} (hl : l.stackTraces = false) {T0 : ZTf} (h0 : zMet l yX8_setAside (Cond.code yX8_setAside cX8_setAside 2 (Option.some Jvm.ClassFile.FieldType.int) :: zG) rm_X8_setAside 2 12 T0) (p : Program) (e : Env) (s : State) (m : MethodId) (args : Array Value) (below : List Frame) (meth : Method) (c : Code) (D : va_G) (A : Nat → Prop) (a0 : Nat → Nat) (M0 : ZM) (K : ZRet) (KX : ZEx) (X : zCtx p l rm_L_setAside s m args meth c cL_setAside RL (Cond.codeWith yL_setAside cL_setAside 4 (Option.some Jvm.ClassFile.FieldType.int) [(0, 9, 12, 29), (0, 9, 15, 13)] :: zG) 4 (Option.some Jvm.ClassFile.FieldType.int) D A a0 M0 2 12) (htab : c.exceptionTable.toList = tableOf [(0, 9, 12, 29), (0, 9, 15, 13)]) (hNc : zNc0 s) : ∀ q ∈ cd_L_setAside T0, zSd p l e rm_L_setAside s m args below meth c 4 D A a0 M0 K KX 2 12 q.1 q.2 :=
  have hCx := zCx_of X (.tail _ gw_5_193) (.tail _ gw_5_164) (.tail _ gw_5_136) (.tail _ gw_7_174);
    zall_c (zs_aload_n X (pc := 0) (q := 2) rfl (by decide +kernel)) <|
    zall_c (zs_iconst X (pc := 1) (by decide) (by decide +kernel)) <|
    zall_c (zs_aload_n X (pc := 2) (q := 0) rfl (by decide +kernel)) <|
    zall_c (zs_iload_n X (pc := 3) (q := 1) rfl (by decide +kernel)) <|
    zall_c (zs_callVH X (pc := 4) zc_X8 (fun _ ht => ⟨(zCB ht gw_7_85 gw_1_1 gw_7_82 rfl rfl (by decide +kernel) ⟨Nat.le_of_ble_eq_true rfl, Nat.le_of_ble_eq_true rfl⟩), ht _ (.tail _ gw_7_83), ht _ (.tail _ gw_7_84)⟩) h0 htab hCx hNc hHd_L_setAside (by decide +kernel)) <|
    zall_c (zs_i2l X (pc := 7) (by decide +kernel)) <|
    zall_c (zs_lastore X (pc := 8) (by decide +kernel)) <|
    zall_c (zs_goto X (pc := 9) (off := 9) (by decide +kernel) (by decide)) <|
    zall_c (zs_iconst X (pc := 13) (by decide) (by decide +kernel)) <|
    zall_c (zs_iret X (pc := 14) rfl (by decide +kernel)) <|
    zall_c (zs_iconst X (pc := 16) (by decide) (by decide +kernel)) <|
    zall_c (zs_iret X (pc := 17) rfl (by decide +kernel)) <|
    zall_c (zs_iconst X (pc := 18) (by decide) (by decide +kernel)) <|
    zall_c (zs_iret X (pc := 19) rfl (by decide +kernel)) <|
    zall_n
theorem met_L_setAside {l : Launch} (hl : l.stackTraces = false) {T0 : ZTf} (h0 : zMet l yX8_setAside (Cond.code yX8_setAside cX8_setAside 2 (Option.some Jvm.ClassFile.FieldType.int) :: zG) rm_X8_setAside 2 12 T0) {T : List ZV → ZM → ZRet → Prop} (bd : zBdW (cd_L_setAside T0) 4 2 12 T) : zMetW l yL_setAside (Cond.codeWith yL_setAside cL_setAside 4 (Option.some Jvm.ClassFile.FieldType.int) [(0, 9, 12, 29), (0, 9, 15, 13)] :: zG) rm_L_setAside 2 12 T := zMetW_of hl (by decide +kernel) rfl rfl rfl rfl (hs_L_setAside hl h0) bd

def T_L_setAside : List ZV → ZM → ZRet → Prop := fun av M K => ∃ (G g : Gm) (P : Int → Gm) (c n : Int) (r : Int), av = [zo 64, zi r, zo 681] ∧ (zW M 681 23 ∧ zLn M 681 = 1) ∧ (LV M) ∧ (TR M 129 G) ∧ (GI G) ∧ (GV G) ∧ (GX G) ∧ (RQ M P c) ∧ (c_setAside G r = 0 → SetA G r g n) ∧  ((c_setAside G r = 0) → (∀ M' : ZM, (Fr SCw M M') → (TR M' 129 (g)) → (RQ M' (pushP P G c) (pushC c)) → K (some (zi 0)) (zsI M' 681 0 (n)))) ∧ ((c_setAside G r = 1) → K (some (zi 1)) M) ∧ ((c_setAside G r = 2) → K (some (zi 2)) M)
set_option maxRecDepth 100000 in
set_option maxHeartbeats 1500000 in
theorem bd_L_setAside : zBdW (cd_L_setAside T_X8_setAside) 4 2 12 T_L_setAside := by
  rintro av M K hA0 hM ⟨G, g, P, c, n, r, rfl, hOut, hL, hT, hG, hV9, hX9, hq, hsa0, hK, hX0, hX2⟩
  refine ⟨rfl, fun Φ hΦ => ?_⟩
  refine zGoR hΦ [] 400 (fun hL9 _ hM _ _ => ?_)
  obtain ⟨qL1, _⟩ : zrg r ∧ True := hL9
  refine ⟨⟨(by decide), (by decide)⟩, ⟨⟨rfl, rfl⟩, hL.w.rcv⟩, ⟨G, g, P, c, n, r, rfl, hL, hT, hG, hV9, hX9, hq, hsa0, fun (qc3 : c_setAside G r = 0) => fun M1 hf1 hT1 hq91 => (have hOw1 : zW M1 681 23 := hOut.1.fr hf1; have hOl1 : zLn M1 681 = 1 := Fr.ln hf1 hOut.1 hOut.2; fun (qg1 : zrg (n)) qm2 => ⟨zixW hOw1 hOl1 (i := 0) (by decide) (by decide), ⟨trivial, (show K (some (zi 0)) (zsI M1 681 0 n) from ?g529l1)⟩⟩), fun (qc4 : c_setAside G r = 1) => (fun _ => ⟨13, 3, rfl, ⟨trivial, (hX0 (by assumption))⟩⟩), fun (qc5 : c_setAside G r = 2) => (fun _ => ⟨16, 3, rfl, ⟨trivial, (hX2 (by assumption))⟩⟩)⟩⟩
  case g529l1 => exact hK qc3 M1 hf1 hT1 hq91

theorem M_L_setAside {l : Launch} (hl : l.stackTraces = false) : zMetW l yL_setAside (Cond.codeWith yL_setAside cL_setAside 4 (Option.some Jvm.ClassFile.FieldType.int) [(0, 9, 12, 29), (0, 9, 15, 13)] :: zG) rm_L_setAside 2 12 T_L_setAside := met_L_setAside hl (M_X8_setAside hl) bd_L_setAside

theorem gw_7_97 : Cond.code yX8_pardon cX8_pardon 3 (Option.some Jvm.ClassFile.FieldType.int) ∈ zG := zGt7 (List.mem_of_getElem? (i := 97) (by rfl)) rfl
theorem gw_7_94 : Cond.methodLink RL 120 yX8_pardon ∈ zG := zGt7 (List.mem_of_getElem? (i := 94) (by rfl)) rfl
theorem gw_7_95 : Cond.instanceMethod yX8_pardon ∈ zG := zGt7 (List.mem_of_getElem? (i := 95) (by rfl)) rfl
theorem gw_7_96 : Cond.selects RX8 yX8_pardon yX8_pardon ∈ zG := zGt7 (List.mem_of_getElem? (i := 96) (by rfl)) rfl
def hd_L_pardon (x : Nat) : Option (Nat × Nat) := if x = 0 then some (13, 3) else if x = 2 then some (16, 3) else none
theorem hHd_L_pardon : zHd cL_pardon 4 4 [(0, 9, 12, 29), (0, 9, 15, 13)] hd_L_pardon := by
  intro x h i q
  by_cases e0 : x = 0
  · subst e0
    have q' : some (13, 3) = some (h, i) := q
    cases q'
    exact ⟨by decide, 12, rfl, Or.inr ⟨3, rfl, by decide +kernel, rfl⟩⟩
  by_cases e2 : x = 2
  · subst e2
    have q' : some (16, 3) = some (h, i) := q
    cases q'
    exact ⟨by decide, 15, rfl, Or.inr ⟨3, rfl, by decide +kernel, rfl⟩⟩
  unfold hd_L_pardon at q
  rw [if_neg e0] at q
  rw [if_neg e2] at q
  cases q

abbrev rm_L_pardon : Room := { frames := 8, cells := 2, slots := 12, locals := 146 }
def cd_L_pardon (T0 : ZTf) : List (Nat × ZTr) := [(0, tAld 2 1), (1, tC (zi 0) 2), (2, tAld 0 3), (3, tIld 1 4), (4, tCallH 2 2 12 T0 (zRcv 11) hd_L_pardon 7), (7, tI2l 8), (8, tLas 9), (9, tGo 18), (13, tC (zi 1) 14), (14, tRi (fun _ => True)), (16, tC (zi 2) 17), (17, tRi (fun _ => True)), (18, tC (zi 0) 19), (19, tRi (fun _ => True))]
set_option maxRecDepth 100000 in
set_option maxHeartbeats 1500000 in
theorem hs_L_pardon {l : Launch} (hl : l.stackTraces = false) {T0 : ZTf} (h0 : zMet l yX8_pardon (Cond.code yX8_pardon cX8_pardon 3 (Option.some Jvm.ClassFile.FieldType.int) :: zG) rm_X8_pardon 2 12 T0) (p : Program) (e : Env) (s : State) (m : MethodId) (args : Array Value) (below : List Frame) (meth : Method) (c : Code) (D : va_G) (A : Nat → Prop) (a0 : Nat → Nat) (M0 : ZM) (K : ZRet) (KX : ZEx) (X : zCtx p l rm_L_pardon s m args meth c cL_pardon RL (Cond.codeWith yL_pardon cL_pardon 4 (Option.some Jvm.ClassFile.FieldType.int) [(0, 9, 12, 29), (0, 9, 15, 13)] :: zG) 4 (Option.some Jvm.ClassFile.FieldType.int) D A a0 M0 2 12) (htab : c.exceptionTable.toList = tableOf [(0, 9, 12, 29), (0, 9, 15, 13)]) (hNc : zNc0 s) : ∀ q ∈ cd_L_pardon T0, zSd p l e rm_L_pardon s m args below meth c 4 D A a0 M0 K KX 2 12 q.1 q.2 :=
  have hCx := zCx_of X (.tail _ gw_5_193) (.tail _ gw_5_164) (.tail _ gw_5_136) (.tail _ gw_7_174);
    zall_c (zs_aload_n X (pc := 0) (q := 2) rfl (by decide +kernel)) <|
    zall_c (zs_iconst X (pc := 1) (by decide) (by decide +kernel)) <|
    zall_c (zs_aload_n X (pc := 2) (q := 0) rfl (by decide +kernel)) <|
    zall_c (zs_iload_n X (pc := 3) (q := 1) rfl (by decide +kernel)) <|
    zall_c (zs_callVH X (pc := 4) zc_X8 (fun _ ht => ⟨(zCB ht gw_7_97 gw_1_1 gw_7_94 rfl rfl (by decide +kernel) ⟨Nat.le_of_ble_eq_true rfl, Nat.le_of_ble_eq_true rfl⟩), ht _ (.tail _ gw_7_95), ht _ (.tail _ gw_7_96)⟩) h0 htab hCx hNc hHd_L_pardon (by decide +kernel)) <|
    zall_c (zs_i2l X (pc := 7) (by decide +kernel)) <|
    zall_c (zs_lastore X (pc := 8) (by decide +kernel)) <|
    zall_c (zs_goto X (pc := 9) (off := 9) (by decide +kernel) (by decide)) <|
    zall_c (zs_iconst X (pc := 13) (by decide) (by decide +kernel)) <|
    zall_c (zs_iret X (pc := 14) rfl (by decide +kernel)) <|
    zall_c (zs_iconst X (pc := 16) (by decide) (by decide +kernel)) <|
    zall_c (zs_iret X (pc := 17) rfl (by decide +kernel)) <|
    zall_c (zs_iconst X (pc := 18) (by decide) (by decide +kernel)) <|
    zall_c (zs_iret X (pc := 19) rfl (by decide +kernel)) <|
    zall_n
theorem met_L_pardon {l : Launch} (hl : l.stackTraces = false) {T0 : ZTf} (h0 : zMet l yX8_pardon (Cond.code yX8_pardon cX8_pardon 3 (Option.some Jvm.ClassFile.FieldType.int) :: zG) rm_X8_pardon 2 12 T0) {T : List ZV → ZM → ZRet → Prop} (bd : zBdW (cd_L_pardon T0) 4 2 12 T) : zMetW l yL_pardon (Cond.codeWith yL_pardon cL_pardon 4 (Option.some Jvm.ClassFile.FieldType.int) [(0, 9, 12, 29), (0, 9, 15, 13)] :: zG) rm_L_pardon 2 12 T := zMetW_of hl (by decide +kernel) rfl rfl rfl rfl (hs_L_pardon hl h0) bd

def T_L_pardon : List ZV → ZM → ZRet → Prop := fun av M K => ∃ (G : Gm) (P : Int → Gm) (c : Int) (w : Int), av = [zo 64, zi w, zo 681] ∧ (zW M 681 23 ∧ zLn M 681 = 1) ∧ (LV M) ∧ (TR M 129 G) ∧ (GI G) ∧ (GV G) ∧ (GX G) ∧ (RQ M P c) ∧  ((c_pardon G w = 0) → (∀ M' : ZM, (Fr SCw M M') → (TR M' 129 (F_pardon G w)) → (RQ M' (pushP P G c) (pushC c)) → K (some (zi 0)) (zsI M' 681 0 (v_pardon G w)))) ∧ ((c_pardon G w = 1) → K (some (zi 1)) M) ∧ ((c_pardon G w = 2) → K (some (zi 2)) M)
set_option maxRecDepth 100000 in
set_option maxHeartbeats 1500000 in
theorem bd_L_pardon : zBdW (cd_L_pardon T_X8_pardon) 4 2 12 T_L_pardon := by
  rintro av M K hA0 hM ⟨G, P, c, w, rfl, hOut, hL, hT, hG, hV9, hX9, hq, hK, hX0, hX2⟩
  refine ⟨rfl, fun Φ hΦ => ?_⟩
  refine zGoR hΦ [] 400 (fun hL9 _ hM _ _ => ?_)
  obtain ⟨qL1, _⟩ : zrg w ∧ True := hL9
  refine ⟨⟨(by decide), (by decide)⟩, ⟨⟨rfl, rfl⟩, hL.w.rcv⟩, ⟨G, P, c, w, rfl, hL, hT, hG, hV9, hX9, hq, fun (qc3 : c_pardon G w = 0) => fun M1 hf1 hT1 hq91 => (have hOw1 : zW M1 681 23 := hOut.1.fr hf1; have hOl1 : zLn M1 681 = 1 := Fr.ln hf1 hOut.1 hOut.2; fun (qg1 : zrg (v_pardon G w)) qm2 => ⟨zixW hOw1 hOl1 (i := 0) (by decide) (by decide), ⟨trivial, (show K (some (zi 0)) (zsI M1 681 0 (v_pardon G w)) from ?g530l1)⟩⟩), fun (qc4 : c_pardon G w = 1) => (fun _ => ⟨13, 3, rfl, ⟨trivial, (hX0 (by assumption))⟩⟩), fun (qc5 : c_pardon G w = 2) => (fun _ => ⟨16, 3, rfl, ⟨trivial, (hX2 (by assumption))⟩⟩)⟩⟩
  case g530l1 => exact hK qc3 M1 hf1 hT1 hq91

theorem M_L_pardon {l : Launch} (hl : l.stackTraces = false) : zMetW l yL_pardon (Cond.codeWith yL_pardon cL_pardon 4 (Option.some Jvm.ClassFile.FieldType.int) [(0, 9, 12, 29), (0, 9, 15, 13)] :: zG) rm_L_pardon 2 12 T_L_pardon := met_L_pardon hl (M_X8_pardon hl) bd_L_pardon

theorem gw_7_105 : Cond.code yX8_bar cX8_bar 5 (Option.some Jvm.ClassFile.FieldType.boolean) ∈ zG := zGt7 (List.mem_of_getElem? (i := 105) (by rfl)) rfl
theorem gw_7_102 : Cond.methodLink RL 123 yX8_bar ∈ zG := zGt7 (List.mem_of_getElem? (i := 102) (by rfl)) rfl
theorem gw_7_103 : Cond.instanceMethod yX8_bar ∈ zG := zGt7 (List.mem_of_getElem? (i := 103) (by rfl)) rfl
theorem gw_7_104 : Cond.selects RX8 yX8_bar yX8_bar ∈ zG := zGt7 (List.mem_of_getElem? (i := 104) (by rfl)) rfl
def hd_L_bar (x : Nat) : Option (Nat × Nat) := if x = 0 then some (24, 5) else if x = 1 then some (28, 5) else none
theorem hHd_L_bar : zHd cL_bar 6 7 [(0, 19, 22, 29), (0, 19, 26, 19)] hd_L_bar := by
  intro x h i q
  by_cases e0 : x = 0
  · subst e0
    have q' : some (24, 5) = some (h, i) := q
    cases q'
    exact ⟨by decide, 22, rfl, Or.inl ⟨by decide +kernel, rfl⟩⟩
  by_cases e1 : x = 1
  · subst e1
    have q' : some (28, 5) = some (h, i) := q
    cases q'
    exact ⟨by decide, 26, rfl, Or.inl ⟨by decide +kernel, rfl⟩⟩
  unfold hd_L_bar at q
  rw [if_neg e0] at q
  rw [if_neg e1] at q
  cases q

abbrev rm_L_bar : Room := { frames := 8, cells := 3, slots := 18, locals := 148 }
def cd_L_bar (T0 : ZTf) : List (Nat × ZTr) := [(0, tAld 4 2), (2, tC (zi 0) 3), (3, tAld 0 4), (4, tIld 1 5), (5, tIld 2 6), (6, tIld 3 7), (7, tCallH 4 3 18 T0 (zRcv 11) hd_L_bar 10), (10, tIf_eq 17 13), (13, tC (zl 1) 14), (14, tGo 18), (17, tC (zl 0) 18), (18, tLas 19), (19, tGo 30), (24, tC (zi 1) 25), (25, tRi (fun _ => True)), (28, tC (zi 2) 29), (29, tRi (fun _ => True)), (30, tC (zi 0) 31), (31, tRi (fun _ => True))]
set_option maxRecDepth 100000 in
set_option maxHeartbeats 1500000 in
theorem hs_L_bar {l : Launch} (hl : l.stackTraces = false) {T0 : ZTf} (h0 : zMet l yX8_bar (Cond.code yX8_bar cX8_bar 5 (Option.some Jvm.ClassFile.FieldType.boolean) :: zG) rm_X8_bar 3 18 T0) (p : Program) (e : Env) (s : State) (m : MethodId) (args : Array Value) (below : List Frame) (meth : Method) (c : Code) (D : va_G) (A : Nat → Prop) (a0 : Nat → Nat) (M0 : ZM) (K : ZRet) (KX : ZEx) (X : zCtx p l rm_L_bar s m args meth c cL_bar RL (Cond.codeWith yL_bar cL_bar 6 (Option.some Jvm.ClassFile.FieldType.int) [(0, 19, 22, 29), (0, 19, 26, 19)] :: zG) 6 (Option.some Jvm.ClassFile.FieldType.int) D A a0 M0 3 18) (htab : c.exceptionTable.toList = tableOf [(0, 19, 22, 29), (0, 19, 26, 19)]) (hNc : zNc0 s) : ∀ q ∈ cd_L_bar T0, zSd p l e rm_L_bar s m args below meth c 6 D A a0 M0 K KX 3 18 q.1 q.2 :=
  have hCx := zCx_of X (.tail _ gw_5_193) (.tail _ gw_5_164) (.tail _ gw_5_136) (.tail _ gw_7_174);
    zall_c (zs_aload X (pc := 0) (by decide +kernel)) <|
    zall_c (zs_iconst X (pc := 2) (by decide) (by decide +kernel)) <|
    zall_c (zs_aload_n X (pc := 3) (q := 0) rfl (by decide +kernel)) <|
    zall_c (zs_iload_n X (pc := 4) (q := 1) rfl (by decide +kernel)) <|
    zall_c (zs_iload_n X (pc := 5) (q := 2) rfl (by decide +kernel)) <|
    zall_c (zs_iload_n X (pc := 6) (q := 3) rfl (by decide +kernel)) <|
    zall_c (zs_callVH X (pc := 7) zc_X8 (fun _ ht => ⟨(zCB ht gw_7_105 gw_1_1 gw_7_102 rfl rfl (by decide +kernel) ⟨Nat.le_of_ble_eq_true rfl, Nat.le_of_ble_eq_true rfl⟩), ht _ (.tail _ gw_7_103), ht _ (.tail _ gw_7_104)⟩) h0 htab hCx hNc hHd_L_bar (by decide +kernel)) <|
    zall_c (zs_if_eq X (pc := 10) (off := 7) (by decide +kernel) (by decide)) <|
    zall_c (zs_lconst X (pc := 13) (q := 1) (by decide) (by decide +kernel) rfl) <|
    zall_c (zs_goto X (pc := 14) (off := 4) (by decide +kernel) (by decide)) <|
    zall_c (zs_lconst X (pc := 17) (q := 0) (by decide) (by decide +kernel) rfl) <|
    zall_c (zs_lastore X (pc := 18) (by decide +kernel)) <|
    zall_c (zs_goto X (pc := 19) (off := 11) (by decide +kernel) (by decide)) <|
    zall_c (zs_iconst X (pc := 24) (by decide) (by decide +kernel)) <|
    zall_c (zs_iret X (pc := 25) rfl (by decide +kernel)) <|
    zall_c (zs_iconst X (pc := 28) (by decide) (by decide +kernel)) <|
    zall_c (zs_iret X (pc := 29) rfl (by decide +kernel)) <|
    zall_c (zs_iconst X (pc := 30) (by decide) (by decide +kernel)) <|
    zall_c (zs_iret X (pc := 31) rfl (by decide +kernel)) <|
    zall_n
theorem met_L_bar {l : Launch} (hl : l.stackTraces = false) {T0 : ZTf} (h0 : zMet l yX8_bar (Cond.code yX8_bar cX8_bar 5 (Option.some Jvm.ClassFile.FieldType.boolean) :: zG) rm_X8_bar 3 18 T0) {T : List ZV → ZM → ZRet → Prop} (bd : zBdW (cd_L_bar T0) 6 3 18 T) : zMetW l yL_bar (Cond.codeWith yL_bar cL_bar 6 (Option.some Jvm.ClassFile.FieldType.int) [(0, 19, 22, 29), (0, 19, 26, 19)] :: zG) rm_L_bar 3 18 T := zMetW_of hl (by decide +kernel) rfl rfl rfl rfl (hs_L_bar hl h0) bd

def T_L_bar : List ZV → ZM → ZRet → Prop := fun av M K => ∃ (G : Gm) (P : Int → Gm) (c : Int) (a b on : Int), av = [zo 64, zi a, zi b, zi on, zo 681] ∧ (zW M 681 23 ∧ zLn M 681 = 1) ∧ (LV M) ∧ (TR M 129 G) ∧ (GI G) ∧ (GV G) ∧ (GX G) ∧ (RQ M P c) ∧  ((c_bar G a b on = 0) → (∀ M' : ZM, (Fr SCw M M') → (TR M' 129 (F_bar G a b on)) → (RQ M' (pushP P G c) (pushC c)) → K (some (zi 0)) (zsI M' 681 0 (b2i (v_bar G a b on))))) ∧ ((c_bar G a b on = 1) → K (some (zi 1)) M) ∧ ((c_bar G a b on = 2) → K (some (zi 2)) M)
set_option maxRecDepth 100000 in
set_option maxHeartbeats 1500000 in
theorem bd_L_bar : zBdW (cd_L_bar T_X8_bar) 6 3 18 T_L_bar := by
  rintro av M K hA0 hM ⟨G, P, c, a, b, on, rfl, hOut, hL, hT, hG, hV9, hX9, hq, hK, hX0, hX1⟩
  refine ⟨rfl, fun Φ hΦ => ?_⟩
  refine zGoR hΦ [] 400 (fun hL9 _ hM _ _ => ?_)
  obtain ⟨qL1, qL2, qL3, _⟩ : zrg a ∧ zrg b ∧ zrg on ∧ True := hL9
  refine ⟨⟨(by decide), (by decide)⟩, ⟨⟨rfl, rfl⟩, hL.w.rcv⟩, ⟨G, P, c, a, b, on, rfl, hL, hT, hG, hV9, hX9, hq, fun (qc3 : c_bar G a b on = 0) => fun M1 hf1 hT1 hq91 => (have hOw1 : zW M1 681 23 := hOut.1.fr hf1; have hOl1 : zLn M1 681 = 1 := Fr.ln hf1 hOut.1 hOut.2; fun (qg1 : zrg (b2i (v_bar G a b on))) qm2 => ⟨fun h => (have qc4 : (v_bar G a b on) = false := b2i_e0 h; ⟨zixW hOw1 hOl1 (i := 0) (by decide) (by decide), ⟨trivial, (show K (some (zi 0)) (zsI M1 681 0 0) from ?g531l1)⟩⟩), fun h => (have qc5 : (v_bar G a b on) = true := b2i_n0 h; ⟨zixW hOw1 hOl1 (i := 0) (by decide) (by decide), ⟨trivial, (show K (some (zi 0)) (zsI M1 681 0 1) from ?g531l2)⟩⟩)⟩), fun (qc6 : c_bar G a b on = 1) => (fun _ => ⟨24, 5, rfl, ⟨trivial, (hX0 (by assumption))⟩⟩), fun (qc7 : c_bar G a b on = 2) => (fun _ => ⟨28, 5, rfl, ⟨trivial, (hX1 (by assumption))⟩⟩)⟩⟩
  case g531l1 =>
    have h9 := hK qc3 M1 hf1 hT1 hq91
    rw [qc4] at h9
    exact h9
  case g531l2 =>
    have h9 := hK qc3 M1 hf1 hT1 hq91
    rw [qc5] at h9
    exact h9

theorem M_L_bar {l : Launch} (hl : l.stackTraces = false) : zMetW l yL_bar (Cond.codeWith yL_bar cL_bar 6 (Option.some Jvm.ClassFile.FieldType.int) [(0, 19, 22, 29), (0, 19, 26, 19)] :: zG) rm_L_bar 3 18 T_L_bar := met_L_bar hl (M_X8_bar hl) bd_L_bar

theorem gw_7_114 : Cond.code yX8_addRows cX8_addRows 4 (Option.some Jvm.ClassFile.FieldType.int) ∈ zG := zGt7 (List.mem_of_getElem? (i := 114) (by rfl)) rfl
theorem gw_7_111 : Cond.methodLink RL 127 yX8_addRows ∈ zG := zGt7 (List.mem_of_getElem? (i := 111) (by rfl)) rfl
theorem gw_7_112 : Cond.instanceMethod yX8_addRows ∈ zG := zGt7 (List.mem_of_getElem? (i := 112) (by rfl)) rfl
theorem gw_7_113 : Cond.selects RX8 yX8_addRows yX8_addRows ∈ zG := zGt7 (List.mem_of_getElem? (i := 113) (by rfl)) rfl
def hd_L_addRows (x : Nat) : Option (Nat × Nat) := if x = 1 then some (15, 4) else if x = 2 then some (19, 4) else none
theorem hHd_L_addRows : zHd cL_addRows 5 5 [(0, 10, 13, 19), (0, 10, 17, 13)] hd_L_addRows := by
  intro x h i q
  by_cases e1 : x = 1
  · subst e1
    have q' : some (15, 4) = some (h, i) := q
    cases q'
    exact ⟨by decide, 13, rfl, Or.inl ⟨by decide +kernel, rfl⟩⟩
  by_cases e2 : x = 2
  · subst e2
    have q' : some (19, 4) = some (h, i) := q
    cases q'
    exact ⟨by decide, 17, rfl, Or.inl ⟨by decide +kernel, rfl⟩⟩
  unfold hd_L_addRows at q
  rw [if_neg e1] at q
  rw [if_neg e2] at q
  cases q

abbrev rm_L_addRows : Room := { frames := 8, cells := 3, slots := 18, locals := 147 }
def cd_L_addRows (T0 : ZTf) : List (Nat × ZTr) := [(0, tAld 3 1), (1, tC (zi 0) 2), (2, tAld 0 3), (3, tIld 1 4), (4, tIld 2 5), (5, tCallH 3 3 18 T0 (zRcv 11) hd_L_addRows 8), (8, tI2l 9), (9, tLas 10), (10, tGo 21), (15, tC (zi 1) 16), (16, tRi (fun _ => True)), (19, tC (zi 2) 20), (20, tRi (fun _ => True)), (21, tC (zi 0) 22), (22, tRi (fun _ => True))]
set_option maxRecDepth 100000 in
set_option maxHeartbeats 1500000 in
theorem hs_L_addRows {l : Launch} (hl : l.stackTraces = false) {T0 : ZTf} (h0 : zMet l yX8_addRows (Cond.code yX8_addRows cX8_addRows 4 (Option.some Jvm.ClassFile.FieldType.int) :: zG) rm_X8_addRows 3 18 T0) (p : Program) (e : Env) (s : State) (m : MethodId) (args : Array Value) (below : List Frame) (meth : Method) (c : Code) (D : va_G) (A : Nat → Prop) (a0 : Nat → Nat) (M0 : ZM) (K : ZRet) (KX : ZEx) (X : zCtx p l rm_L_addRows s m args meth c cL_addRows RL (Cond.codeWith yL_addRows cL_addRows 5 (Option.some Jvm.ClassFile.FieldType.int) [(0, 10, 13, 19), (0, 10, 17, 13)] :: zG) 5 (Option.some Jvm.ClassFile.FieldType.int) D A a0 M0 3 18) (htab : c.exceptionTable.toList = tableOf [(0, 10, 13, 19), (0, 10, 17, 13)]) (hNc : zNc0 s) : ∀ q ∈ cd_L_addRows T0, zSd p l e rm_L_addRows s m args below meth c 5 D A a0 M0 K KX 3 18 q.1 q.2 :=
  have hCx := zCx_of X (.tail _ gw_5_193) (.tail _ gw_5_164) (.tail _ gw_5_136) (.tail _ gw_7_174);
    zall_c (zs_aload_n X (pc := 0) (q := 3) rfl (by decide +kernel)) <|
    zall_c (zs_iconst X (pc := 1) (by decide) (by decide +kernel)) <|
    zall_c (zs_aload_n X (pc := 2) (q := 0) rfl (by decide +kernel)) <|
    zall_c (zs_iload_n X (pc := 3) (q := 1) rfl (by decide +kernel)) <|
    zall_c (zs_iload_n X (pc := 4) (q := 2) rfl (by decide +kernel)) <|
    zall_c (zs_callVH X (pc := 5) zc_X8 (fun _ ht => ⟨(zCB ht gw_7_114 gw_1_1 gw_7_111 rfl rfl (by decide +kernel) ⟨Nat.le_of_ble_eq_true rfl, Nat.le_of_ble_eq_true rfl⟩), ht _ (.tail _ gw_7_112), ht _ (.tail _ gw_7_113)⟩) h0 htab hCx hNc hHd_L_addRows (by decide +kernel)) <|
    zall_c (zs_i2l X (pc := 8) (by decide +kernel)) <|
    zall_c (zs_lastore X (pc := 9) (by decide +kernel)) <|
    zall_c (zs_goto X (pc := 10) (off := 11) (by decide +kernel) (by decide)) <|
    zall_c (zs_iconst X (pc := 15) (by decide) (by decide +kernel)) <|
    zall_c (zs_iret X (pc := 16) rfl (by decide +kernel)) <|
    zall_c (zs_iconst X (pc := 19) (by decide) (by decide +kernel)) <|
    zall_c (zs_iret X (pc := 20) rfl (by decide +kernel)) <|
    zall_c (zs_iconst X (pc := 21) (by decide) (by decide +kernel)) <|
    zall_c (zs_iret X (pc := 22) rfl (by decide +kernel)) <|
    zall_n
theorem met_L_addRows {l : Launch} (hl : l.stackTraces = false) {T0 : ZTf} (h0 : zMet l yX8_addRows (Cond.code yX8_addRows cX8_addRows 4 (Option.some Jvm.ClassFile.FieldType.int) :: zG) rm_X8_addRows 3 18 T0) {T : List ZV → ZM → ZRet → Prop} (bd : zBdW (cd_L_addRows T0) 5 3 18 T) : zMetW l yL_addRows (Cond.codeWith yL_addRows cL_addRows 5 (Option.some Jvm.ClassFile.FieldType.int) [(0, 10, 13, 19), (0, 10, 17, 13)] :: zG) rm_L_addRows 3 18 T := zMetW_of hl (by decide +kernel) rfl rfl rfl rfl (hs_L_addRows hl h0) bd

def T_L_addRows : List ZV → ZM → ZRet → Prop := fun av M K => ∃ (G : Gm) (P : Int → Gm) (c : Int) (many size : Int), av = [zo 64, zi many, zi size, zo 681] ∧ (zW M 681 23 ∧ zLn M 681 = 1) ∧ (LV M) ∧ (TR M 129 G) ∧ (GI G) ∧ (GV G) ∧ (GX G) ∧ (RQ M P c) ∧  ((c_addRows G many size = 0) → (∀ M' : ZM, (Fr SCw M M') → (TR M' 129 (F_addRows G many size)) → (RQ M' (pushP P G c) (pushC c)) → K (some (zi 0)) (zsI M' 681 0 (v_addRows G many size)))) ∧ ((c_addRows G many size = 1) → K (some (zi 1)) M) ∧ ((c_addRows G many size = 2) → K (some (zi 2)) M)
set_option maxRecDepth 100000 in
set_option maxHeartbeats 1500000 in
theorem bd_L_addRows : zBdW (cd_L_addRows T_X8_addRows) 5 3 18 T_L_addRows := by
  rintro av M K hA0 hM ⟨G, P, c, many, size, rfl, hOut, hL, hT, hG, hV9, hX9, hq, hK, hX1, hX2⟩
  refine ⟨rfl, fun Φ hΦ => ?_⟩
  refine zGoR hΦ [] 400 (fun hL9 _ hM _ _ => ?_)
  obtain ⟨qL1, qL2, _⟩ : zrg many ∧ zrg size ∧ True := hL9
  refine ⟨⟨(by decide), (by decide)⟩, ⟨⟨rfl, rfl⟩, hL.w.rcv⟩, ⟨G, P, c, many, size, rfl, hL, hT, hG, hV9, hX9, hq, fun (qc3 : c_addRows G many size = 0) => fun M1 hf1 hT1 hq91 => (have hOw1 : zW M1 681 23 := hOut.1.fr hf1; have hOl1 : zLn M1 681 = 1 := Fr.ln hf1 hOut.1 hOut.2; fun (qg1 : zrg (v_addRows G many size)) qm2 => ⟨zixW hOw1 hOl1 (i := 0) (by decide) (by decide), ⟨trivial, (show K (some (zi 0)) (zsI M1 681 0 (v_addRows G many size)) from ?g532l1)⟩⟩), fun (qc4 : c_addRows G many size = 1) => (fun _ => ⟨15, 4, rfl, ⟨trivial, (hX1 (by assumption))⟩⟩), fun (qc5 : c_addRows G many size = 2) => (fun _ => ⟨19, 4, rfl, ⟨trivial, (hX2 (by assumption))⟩⟩)⟩⟩
  case g532l1 => exact hK qc3 M1 hf1 hT1 hq91

theorem M_L_addRows {l : Launch} (hl : l.stackTraces = false) : zMetW l yL_addRows (Cond.codeWith yL_addRows cL_addRows 5 (Option.some Jvm.ClassFile.FieldType.int) [(0, 10, 13, 19), (0, 10, 17, 13)] :: zG) rm_L_addRows 3 18 T_L_addRows := met_L_addRows hl (M_X8_addRows hl) bd_L_addRows

theorem gw_7_124 : Cond.code yX8_setTable cX8_setTable 4 (Option.some Jvm.ClassFile.FieldType.int) ∈ zG := zGt7 (List.mem_of_getElem? (i := 124) (by rfl)) rfl
theorem gw_7_121 : Cond.methodLink RL 130 yX8_setTable ∈ zG := zGt7 (List.mem_of_getElem? (i := 121) (by rfl)) rfl
theorem gw_7_122 : Cond.instanceMethod yX8_setTable ∈ zG := zGt7 (List.mem_of_getElem? (i := 122) (by rfl)) rfl
theorem gw_7_123 : Cond.selects RX8 yX8_setTable yX8_setTable ∈ zG := zGt7 (List.mem_of_getElem? (i := 123) (by rfl)) rfl
def hd_L_setTable (x : Nat) : Option (Nat × Nat) := if x = 1 then some (15, 4) else none
theorem hHd_L_setTable : zHd cL_setTable 5 5 [(0, 10, 13, 19)] hd_L_setTable := by
  intro x h i q
  by_cases e1 : x = 1
  · subst e1
    have q' : some (15, 4) = some (h, i) := q
    cases q'
    exact ⟨by decide, 13, rfl, Or.inl ⟨by decide +kernel, rfl⟩⟩
  unfold hd_L_setTable at q
  rw [if_neg e1] at q
  cases q

abbrev rm_L_setTable : Room := { frames := 9, cells := 5, slots := 30, locals := 156 }
def cd_L_setTable (T0 : ZTf) : List (Nat × ZTr) := [(0, tAld 3 1), (1, tC (zi 0) 2), (2, tAld 0 3), (3, tIld 1 4), (4, tIld 2 5), (5, tCallH 3 5 30 T0 (zRcv 11) hd_L_setTable 8), (8, tI2l 9), (9, tLas 10), (10, tGo 17), (15, tC (zi 1) 16), (16, tRi (fun _ => True)), (17, tC (zi 0) 18), (18, tRi (fun _ => True))]
set_option maxRecDepth 100000 in
set_option maxHeartbeats 1500000 in
theorem hs_L_setTable {l : Launch} (hl : l.stackTraces = false) {T0 : ZTf} (h0 : zMet l yX8_setTable (Cond.code yX8_setTable cX8_setTable 4 (Option.some Jvm.ClassFile.FieldType.int) :: zG) rm_X8_setTable 5 30 T0) (p : Program) (e : Env) (s : State) (m : MethodId) (args : Array Value) (below : List Frame) (meth : Method) (c : Code) (D : va_G) (A : Nat → Prop) (a0 : Nat → Nat) (M0 : ZM) (K : ZRet) (KX : ZEx) (X : zCtx p l rm_L_setTable s m args meth c cL_setTable RL (Cond.codeWith yL_setTable cL_setTable 5 (Option.some Jvm.ClassFile.FieldType.int) [(0, 10, 13, 19)] :: zG) 5 (Option.some Jvm.ClassFile.FieldType.int) D A a0 M0 5 30) (htab : c.exceptionTable.toList = tableOf [(0, 10, 13, 19)]) (hNc : zNc0 s) : ∀ q ∈ cd_L_setTable T0, zSd p l e rm_L_setTable s m args below meth c 5 D A a0 M0 K KX 5 30 q.1 q.2 :=
  have hCx := zCx_of X (.tail _ gw_5_193) (.tail _ gw_5_164) (.tail _ gw_5_136) (.tail _ gw_7_174);
    zall_c (zs_aload_n X (pc := 0) (q := 3) rfl (by decide +kernel)) <|
    zall_c (zs_iconst X (pc := 1) (by decide) (by decide +kernel)) <|
    zall_c (zs_aload_n X (pc := 2) (q := 0) rfl (by decide +kernel)) <|
    zall_c (zs_iload_n X (pc := 3) (q := 1) rfl (by decide +kernel)) <|
    zall_c (zs_iload_n X (pc := 4) (q := 2) rfl (by decide +kernel)) <|
    zall_c (zs_callVH X (pc := 5) zc_X8 (fun _ ht => ⟨(zCB ht gw_7_124 gw_1_1 gw_7_121 rfl rfl (by decide +kernel) ⟨Nat.le_of_ble_eq_true rfl, Nat.le_of_ble_eq_true rfl⟩), ht _ (.tail _ gw_7_122), ht _ (.tail _ gw_7_123)⟩) h0 htab hCx hNc hHd_L_setTable (by decide +kernel)) <|
    zall_c (zs_i2l X (pc := 8) (by decide +kernel)) <|
    zall_c (zs_lastore X (pc := 9) (by decide +kernel)) <|
    zall_c (zs_goto X (pc := 10) (off := 7) (by decide +kernel) (by decide)) <|
    zall_c (zs_iconst X (pc := 15) (by decide) (by decide +kernel)) <|
    zall_c (zs_iret X (pc := 16) rfl (by decide +kernel)) <|
    zall_c (zs_iconst X (pc := 17) (by decide) (by decide +kernel)) <|
    zall_c (zs_iret X (pc := 18) rfl (by decide +kernel)) <|
    zall_n
theorem met_L_setTable {l : Launch} (hl : l.stackTraces = false) {T0 : ZTf} (h0 : zMet l yX8_setTable (Cond.code yX8_setTable cX8_setTable 4 (Option.some Jvm.ClassFile.FieldType.int) :: zG) rm_X8_setTable 5 30 T0) {T : List ZV → ZM → ZRet → Prop} (bd : zBdW (cd_L_setTable T0) 5 5 30 T) : zMetW l yL_setTable (Cond.codeWith yL_setTable cL_setTable 5 (Option.some Jvm.ClassFile.FieldType.int) [(0, 10, 13, 19)] :: zG) rm_L_setTable 5 30 T := zMetW_of hl (by decide +kernel) rfl rfl rfl rfl (hs_L_setTable hl h0) bd

def T_L_setTable : List ZV → ZM → ZRet → Prop := fun av M K => ∃ (G : Gm) (P : Int → Gm) (c : Int) (what v : Int), av = [zo 64, zi what, zi v, zo 681] ∧ (zW M 681 23 ∧ zLn M 681 = 1) ∧ (LV M) ∧ (TR M 129 G) ∧ (GI G) ∧ (GV G) ∧ (GX G) ∧ (RQ M P c) ∧  ((c_setTable G what v = 0) → (∀ M' : ZM, (Fr SCw M M') → (TR M' 129 (F_setTable G what v)) → (RQ M' (pushP P G c) (pushC c)) → K (some (zi 0)) (zsI M' 681 0 (v_setTable G what v)))) ∧ ((c_setTable G what v = 1) → K (some (zi 1)) M)
set_option maxRecDepth 100000 in
set_option maxHeartbeats 1500000 in
theorem bd_L_setTable : zBdW (cd_L_setTable T_X8_setTable) 5 5 30 T_L_setTable := by
  rintro av M K hA0 hM ⟨G, P, c, what, v, rfl, hOut, hL, hT, hG, hV9, hX9, hq, hK, hX1⟩
  refine ⟨rfl, fun Φ hΦ => ?_⟩
  refine zGoR hΦ [] 400 (fun hL9 _ hM _ _ => ?_)
  obtain ⟨qL1, qL2, _⟩ : zrg what ∧ zrg v ∧ True := hL9
  refine ⟨⟨(by decide), (by decide)⟩, ⟨⟨rfl, rfl⟩, hL.w.rcv⟩, ⟨G, P, c, what, v, rfl, hL, hT, hG, hV9, hX9, hq, fun (qc3 : c_setTable G what v = 0) => fun M1 hf1 hT1 hq91 => (have hOw1 : zW M1 681 23 := hOut.1.fr hf1; have hOl1 : zLn M1 681 = 1 := Fr.ln hf1 hOut.1 hOut.2; fun (qg1 : zrg (v_setTable G what v)) qm2 => ⟨zixW hOw1 hOl1 (i := 0) (by decide) (by decide), ⟨trivial, (show K (some (zi 0)) (zsI M1 681 0 (v_setTable G what v)) from ?g533l1)⟩⟩), fun (qc4 : c_setTable G what v = 1) => (fun _ => ⟨15, 4, rfl, ⟨trivial, (hX1 (by assumption))⟩⟩)⟩⟩
  case g533l1 => exact hK qc3 M1 hf1 hT1 hq91

theorem M_L_setTable {l : Launch} (hl : l.stackTraces = false) : zMetW l yL_setTable (Cond.codeWith yL_setTable cL_setTable 5 (Option.some Jvm.ClassFile.FieldType.int) [(0, 10, 13, 19)] :: zG) rm_L_setTable 5 30 T_L_setTable := met_L_setTable hl (M_X8_setTable hl) bd_L_setTable

theorem gw_7_135 : Cond.code yX8_keep cX8_keep 2 (Option.some Jvm.ClassFile.FieldType.int) ∈ zG := zGt7 (List.mem_of_getElem? (i := 135) (by rfl)) rfl
theorem gw_7_132 : Cond.methodLink RL 133 yX8_keep ∈ zG := zGt7 (List.mem_of_getElem? (i := 132) (by rfl)) rfl
theorem gw_7_133 : Cond.instanceMethod yX8_keep ∈ zG := zGt7 (List.mem_of_getElem? (i := 133) (by rfl)) rfl
theorem gw_7_134 : Cond.selects RX8 yX8_keep yX8_keep ∈ zG := zGt7 (List.mem_of_getElem? (i := 134) (by rfl)) rfl
def hd_L_keep (x : Nat) : Option (Nat × Nat) := if x = 0 then some (13, 3) else none
theorem hHd_L_keep : zHd cL_keep 4 4 [(0, 9, 12, 29)] hd_L_keep := by
  intro x h i q
  by_cases e0 : x = 0
  · subst e0
    have q' : some (13, 3) = some (h, i) := q
    cases q'
    exact ⟨by decide, 12, rfl, Or.inr ⟨3, rfl, by decide +kernel, rfl⟩⟩
  unfold hd_L_keep at q
  rw [if_neg e0] at q
  cases q

abbrev rm_L_keep : Room := { frames := 8, cells := 1, slots := 6, locals := 131 }
def cd_L_keep (T0 : ZTf) : List (Nat × ZTr) := [(0, tAld 2 1), (1, tC (zi 0) 2), (2, tAld 0 3), (3, tIld 1 4), (4, tCallH 2 1 6 T0 (zRcv 11) hd_L_keep 7), (7, tI2l 8), (8, tLas 9), (9, tGo 15), (13, tC (zi 1) 14), (14, tRi (fun _ => True)), (15, tC (zi 0) 16), (16, tRi (fun _ => True))]
set_option maxRecDepth 100000 in
set_option maxHeartbeats 1500000 in
theorem hs_L_keep {l : Launch} (hl : l.stackTraces = false) {T0 : ZTf} (h0 : zMet l yX8_keep (Cond.code yX8_keep cX8_keep 2 (Option.some Jvm.ClassFile.FieldType.int) :: zG) rm_X8_keep 1 6 T0) (p : Program) (e : Env) (s : State) (m : MethodId) (args : Array Value) (below : List Frame) (meth : Method) (c : Code) (D : va_G) (A : Nat → Prop) (a0 : Nat → Nat) (M0 : ZM) (K : ZRet) (KX : ZEx) (X : zCtx p l rm_L_keep s m args meth c cL_keep RL (Cond.codeWith yL_keep cL_keep 4 (Option.some Jvm.ClassFile.FieldType.int) [(0, 9, 12, 29)] :: zG) 4 (Option.some Jvm.ClassFile.FieldType.int) D A a0 M0 1 6) (htab : c.exceptionTable.toList = tableOf [(0, 9, 12, 29)]) (hNc : zNc0 s) : ∀ q ∈ cd_L_keep T0, zSd p l e rm_L_keep s m args below meth c 4 D A a0 M0 K KX 1 6 q.1 q.2 :=
  have hCx := zCx_of X (.tail _ gw_5_193) (.tail _ gw_5_164) (.tail _ gw_5_136) (.tail _ gw_7_174);
    zall_c (zs_aload_n X (pc := 0) (q := 2) rfl (by decide +kernel)) <|
    zall_c (zs_iconst X (pc := 1) (by decide) (by decide +kernel)) <|
    zall_c (zs_aload_n X (pc := 2) (q := 0) rfl (by decide +kernel)) <|
    zall_c (zs_iload_n X (pc := 3) (q := 1) rfl (by decide +kernel)) <|
    zall_c (zs_callVH X (pc := 4) zc_X8 (fun _ ht => ⟨(zCB ht gw_7_135 gw_1_1 gw_7_132 rfl rfl (by decide +kernel) ⟨Nat.le_of_ble_eq_true rfl, Nat.le_of_ble_eq_true rfl⟩), ht _ (.tail _ gw_7_133), ht _ (.tail _ gw_7_134)⟩) h0 htab hCx hNc hHd_L_keep (by decide +kernel)) <|
    zall_c (zs_i2l X (pc := 7) (by decide +kernel)) <|
    zall_c (zs_lastore X (pc := 8) (by decide +kernel)) <|
    zall_c (zs_goto X (pc := 9) (off := 6) (by decide +kernel) (by decide)) <|
    zall_c (zs_iconst X (pc := 13) (by decide) (by decide +kernel)) <|
    zall_c (zs_iret X (pc := 14) rfl (by decide +kernel)) <|
    zall_c (zs_iconst X (pc := 15) (by decide) (by decide +kernel)) <|
    zall_c (zs_iret X (pc := 16) rfl (by decide +kernel)) <|
    zall_n
theorem met_L_keep {l : Launch} (hl : l.stackTraces = false) {T0 : ZTf} (h0 : zMet l yX8_keep (Cond.code yX8_keep cX8_keep 2 (Option.some Jvm.ClassFile.FieldType.int) :: zG) rm_X8_keep 1 6 T0) {T : List ZV → ZM → ZRet → Prop} (bd : zBdW (cd_L_keep T0) 4 1 6 T) : zMetW l yL_keep (Cond.codeWith yL_keep cL_keep 4 (Option.some Jvm.ClassFile.FieldType.int) [(0, 9, 12, 29)] :: zG) rm_L_keep 1 6 T := zMetW_of hl (by decide +kernel) rfl rfl rfl rfl (hs_L_keep hl h0) bd

def T_L_keep : List ZV → ZM → ZRet → Prop := fun av M K => ∃ (G : Gm) (Q : Int → Gm) (b : Int → Int) (s : Int), av = [zo 64, zi s, zo 681] ∧ (zW M 681 23 ∧ zLn M 681 = 1) ∧ (LV M) ∧ (TR M 129 G) ∧ (GI G) ∧ (SQ M Q b) ∧  ((0 ≤ s ∧ s < 2) → (∀ M' : ZM, (Fr SKp M M') → (SQ M' (fun z => if z = s then G else Q z) (fun z => if z = s then 1 else b z)) → K (some (zi 0)) (zsI M' 681 0 (G 3)))) ∧ ((¬(0 ≤ s ∧ s < 2)) → K (some (zi 1)) M)
set_option maxRecDepth 100000 in
set_option maxHeartbeats 1500000 in
theorem bd_L_keep : zBdW (cd_L_keep T_X8_keep) 4 1 6 T_L_keep := by
  rintro av M K hA0 hM ⟨G, Q, b, s, rfl, hOut, hL, hT, hG, hs, hK, hX0⟩
  refine ⟨rfl, fun Φ hΦ => ?_⟩
  refine zGoR hΦ [] 400 (fun hL9 _ hM _ _ => ?_)
  obtain ⟨qL1, _⟩ : zrg s ∧ True := hL9
  refine ⟨⟨(by decide), (by decide)⟩, ⟨⟨rfl, rfl⟩, hL.w.rcv⟩, ⟨G, Q, b, s, rfl, hL, hT, hG, hs, fun (qc3 : 0 ≤ s ∧ s < 2) => fun M1 hf1 hs91 => (have hOw1 : zW M1 681 23 := hOut.1.fr hf1; have hOl1 : zLn M1 681 = 1 := Fr.ln hf1 hOut.1 hOut.2; fun (qg1 : zrg (G 3)) qm2 => ⟨zixW hOw1 hOl1 (i := 0) (by decide) (by decide), ⟨trivial, (show K (some (zi 0)) (zsI M1 681 0 (G 3)) from ?g534l1)⟩⟩), fun (qc4 : ¬(0 ≤ s ∧ s < 2)) => (fun _ => ⟨13, 3, rfl, ⟨trivial, (hX0 (by assumption))⟩⟩)⟩⟩
  case g534l1 => exact hK qc3 M1 hf1 hs91

theorem M_L_keep {l : Launch} (hl : l.stackTraces = false) : zMetW l yL_keep (Cond.codeWith yL_keep cL_keep 4 (Option.some Jvm.ClassFile.FieldType.int) [(0, 9, 12, 29)] :: zG) rm_L_keep 1 6 T_L_keep := met_L_keep hl (M_X8_keep hl) bd_L_keep

theorem gw_7_146 : Cond.code yX8_restore cX8_restore 2 (Option.some Jvm.ClassFile.FieldType.int) ∈ zG := zGt7 (List.mem_of_getElem? (i := 146) (by rfl)) rfl
theorem gw_7_143 : Cond.methodLink RL 136 yX8_restore ∈ zG := zGt7 (List.mem_of_getElem? (i := 143) (by rfl)) rfl
theorem gw_7_144 : Cond.instanceMethod yX8_restore ∈ zG := zGt7 (List.mem_of_getElem? (i := 144) (by rfl)) rfl
theorem gw_7_145 : Cond.selects RX8 yX8_restore yX8_restore ∈ zG := zGt7 (List.mem_of_getElem? (i := 145) (by rfl)) rfl
def hd_L_restore (x : Nat) : Option (Nat × Nat) := if x = 0 then some (13, 3) else if x = 2 then some (16, 3) else none
theorem hHd_L_restore : zHd cL_restore 4 4 [(0, 9, 12, 29), (0, 9, 15, 13)] hd_L_restore := by
  intro x h i q
  by_cases e0 : x = 0
  · subst e0
    have q' : some (13, 3) = some (h, i) := q
    cases q'
    exact ⟨by decide, 12, rfl, Or.inr ⟨3, rfl, by decide +kernel, rfl⟩⟩
  by_cases e2 : x = 2
  · subst e2
    have q' : some (16, 3) = some (h, i) := q
    cases q'
    exact ⟨by decide, 15, rfl, Or.inr ⟨3, rfl, by decide +kernel, rfl⟩⟩
  unfold hd_L_restore at q
  rw [if_neg e0] at q
  rw [if_neg e2] at q
  cases q

abbrev rm_L_restore : Room := { frames := 8, cells := 2, slots := 12, locals := 145 }
def cd_L_restore (T0 : ZTf) : List (Nat × ZTr) := [(0, tAld 2 1), (1, tC (zi 0) 2), (2, tAld 0 3), (3, tIld 1 4), (4, tCallH 2 2 12 T0 (zRcv 11) hd_L_restore 7), (7, tI2l 8), (8, tLas 9), (9, tGo 18), (13, tC (zi 1) 14), (14, tRi (fun _ => True)), (16, tC (zi 2) 17), (17, tRi (fun _ => True)), (18, tC (zi 0) 19), (19, tRi (fun _ => True))]
set_option maxRecDepth 100000 in
set_option maxHeartbeats 1500000 in
theorem hs_L_restore {l : Launch} (hl : l.stackTraces = false) {T0 : ZTf} (h0 : zMet l yX8_restore (Cond.code yX8_restore cX8_restore 2 (Option.some Jvm.ClassFile.FieldType.int) :: zG) rm_X8_restore 2 12 T0) (p : Program) (e : Env) (s : State) (m : MethodId) (args : Array Value) (below : List Frame) (meth : Method) (c : Code) (D : va_G) (A : Nat → Prop) (a0 : Nat → Nat) (M0 : ZM) (K : ZRet) (KX : ZEx) (X : zCtx p l rm_L_restore s m args meth c cL_restore RL (Cond.codeWith yL_restore cL_restore 4 (Option.some Jvm.ClassFile.FieldType.int) [(0, 9, 12, 29), (0, 9, 15, 13)] :: zG) 4 (Option.some Jvm.ClassFile.FieldType.int) D A a0 M0 2 12) (htab : c.exceptionTable.toList = tableOf [(0, 9, 12, 29), (0, 9, 15, 13)]) (hNc : zNc0 s) : ∀ q ∈ cd_L_restore T0, zSd p l e rm_L_restore s m args below meth c 4 D A a0 M0 K KX 2 12 q.1 q.2 :=
  have hCx := zCx_of X (.tail _ gw_5_193) (.tail _ gw_5_164) (.tail _ gw_5_136) (.tail _ gw_7_174);
    zall_c (zs_aload_n X (pc := 0) (q := 2) rfl (by decide +kernel)) <|
    zall_c (zs_iconst X (pc := 1) (by decide) (by decide +kernel)) <|
    zall_c (zs_aload_n X (pc := 2) (q := 0) rfl (by decide +kernel)) <|
    zall_c (zs_iload_n X (pc := 3) (q := 1) rfl (by decide +kernel)) <|
    zall_c (zs_callVH X (pc := 4) zc_X8 (fun _ ht => ⟨(zCB ht gw_7_146 gw_1_1 gw_7_143 rfl rfl (by decide +kernel) ⟨Nat.le_of_ble_eq_true rfl, Nat.le_of_ble_eq_true rfl⟩), ht _ (.tail _ gw_7_144), ht _ (.tail _ gw_7_145)⟩) h0 htab hCx hNc hHd_L_restore (by decide +kernel)) <|
    zall_c (zs_i2l X (pc := 7) (by decide +kernel)) <|
    zall_c (zs_lastore X (pc := 8) (by decide +kernel)) <|
    zall_c (zs_goto X (pc := 9) (off := 9) (by decide +kernel) (by decide)) <|
    zall_c (zs_iconst X (pc := 13) (by decide) (by decide +kernel)) <|
    zall_c (zs_iret X (pc := 14) rfl (by decide +kernel)) <|
    zall_c (zs_iconst X (pc := 16) (by decide) (by decide +kernel)) <|
    zall_c (zs_iret X (pc := 17) rfl (by decide +kernel)) <|
    zall_c (zs_iconst X (pc := 18) (by decide) (by decide +kernel)) <|
    zall_c (zs_iret X (pc := 19) rfl (by decide +kernel)) <|
    zall_n
theorem met_L_restore {l : Launch} (hl : l.stackTraces = false) {T0 : ZTf} (h0 : zMet l yX8_restore (Cond.code yX8_restore cX8_restore 2 (Option.some Jvm.ClassFile.FieldType.int) :: zG) rm_X8_restore 2 12 T0) {T : List ZV → ZM → ZRet → Prop} (bd : zBdW (cd_L_restore T0) 4 2 12 T) : zMetW l yL_restore (Cond.codeWith yL_restore cL_restore 4 (Option.some Jvm.ClassFile.FieldType.int) [(0, 9, 12, 29), (0, 9, 15, 13)] :: zG) rm_L_restore 2 12 T := zMetW_of hl (by decide +kernel) rfl rfl rfl rfl (hs_L_restore hl h0) bd

def T_L_restore : List ZV → ZM → ZRet → Prop := fun av M K => ∃ (G : Gm) (P Q : Int → Gm) (b : Int → Int) (c s : Int), av = [zo 64, zi s, zo 681] ∧ (zW M 681 23 ∧ zLn M 681 = 1) ∧ (LV M) ∧ (TR M 129 G) ∧ (GI G) ∧ (RQ M P c) ∧ (SQ M Q b) ∧  (((0 ≤ s ∧ s < 2) ∧ b s ≠ 0) → (∀ M' : ZM, (Fr SCw M M') → (TR M' 129 (Q s)) → (RQ M' (pushP P G c) (pushC c)) → K (some (zi 0)) (zsI M' 681 0 (Q s 3)))) ∧ ((¬(0 ≤ s ∧ s < 2)) → K (some (zi 1)) M) ∧ (((0 ≤ s ∧ s < 2) ∧ b s = 0) → K (some (zi 2)) M)
set_option maxRecDepth 100000 in
set_option maxHeartbeats 1500000 in
theorem bd_L_restore : zBdW (cd_L_restore T_X8_restore) 4 2 12 T_L_restore := by
  rintro av M K hA0 hM ⟨G, P, Q, b, c, s, rfl, hOut, hL, hT, hG, hq, hs, hK, hX0, hX2⟩
  refine ⟨rfl, fun Φ hΦ => ?_⟩
  refine zGoR hΦ [] 400 (fun hL9 _ hM _ _ => ?_)
  obtain ⟨qL1, _⟩ : zrg s ∧ True := hL9
  refine ⟨⟨(by decide), (by decide)⟩, ⟨⟨rfl, rfl⟩, hL.w.rcv⟩, ⟨G, P, Q, b, c, s, rfl, hL, hT, hG, hq, hs, fun (qc3 : (0 ≤ s ∧ s < 2) ∧ b s ≠ 0) => fun M1 hf1 hT1 hq91 => (have hOw1 : zW M1 681 23 := hOut.1.fr hf1; have hOl1 : zLn M1 681 = 1 := Fr.ln hf1 hOut.1 hOut.2; fun (qg1 : zrg (Q s 3)) qm2 => ⟨zixW hOw1 hOl1 (i := 0) (by decide) (by decide), ⟨trivial, (show K (some (zi 0)) (zsI M1 681 0 (Q s 3)) from ?g535l1)⟩⟩), fun (qc4 : ¬(0 ≤ s ∧ s < 2)) => (fun _ => ⟨13, 3, rfl, ⟨trivial, (hX0 (by assumption))⟩⟩), fun (qc5 : (0 ≤ s ∧ s < 2) ∧ b s = 0) => (fun _ => ⟨16, 3, rfl, ⟨trivial, (hX2 (by assumption))⟩⟩)⟩⟩
  case g535l1 => exact hK qc3 M1 hf1 hT1 hq91

theorem M_L_restore {l : Launch} (hl : l.stackTraces = false) : zMetW l yL_restore (Cond.codeWith yL_restore cL_restore 4 (Option.some Jvm.ClassFile.FieldType.int) [(0, 9, 12, 29), (0, 9, 15, 13)] :: zG) rm_L_restore 2 12 T_L_restore := met_L_restore hl (M_X8_restore hl) bd_L_restore

theorem gw_7_154 : Cond.code yX8_undo cX8_undo 1 (Option.some Jvm.ClassFile.FieldType.int) ∈ zG := zGt7 (List.mem_of_getElem? (i := 154) (by rfl)) rfl
theorem gw_7_151 : Cond.methodLink RL 139 yX8_undo ∈ zG := zGt7 (List.mem_of_getElem? (i := 151) (by rfl)) rfl
theorem gw_7_152 : Cond.instanceMethod yX8_undo ∈ zG := zGt7 (List.mem_of_getElem? (i := 152) (by rfl)) rfl
theorem gw_7_153 : Cond.selects RX8 yX8_undo yX8_undo ∈ zG := zGt7 (List.mem_of_getElem? (i := 153) (by rfl)) rfl
def hd_L_undo (x : Nat) : Option (Nat × Nat) := if x = 2 then some (12, 2) else none
theorem hHd_L_undo : zHd cL_undo 3 3 [(0, 8, 11, 13)] hd_L_undo := by
  intro x h i q
  by_cases e2 : x = 2
  · subst e2
    have q' : some (12, 2) = some (h, i) := q
    cases q'
    exact ⟨by decide, 11, rfl, Or.inr ⟨2, rfl, by decide +kernel, rfl⟩⟩
  unfold hd_L_undo at q
  rw [if_neg e2] at q
  cases q

abbrev rm_L_undo : Room := { frames := 7, cells := 1, slots := 6, locals := 144 }
def cd_L_undo (T0 : ZTf) : List (Nat × ZTr) := [(0, tAld 1 1), (1, tC (zi 0) 2), (2, tAld 0 3), (3, tCallH 1 1 6 T0 (zRcv 11) hd_L_undo 6), (6, tI2l 7), (7, tLas 8), (8, tGo 14), (12, tC (zi 1) 13), (13, tRi (fun _ => True)), (14, tC (zi 0) 15), (15, tRi (fun _ => True))]
set_option maxRecDepth 100000 in
set_option maxHeartbeats 1500000 in
theorem hs_L_undo {l : Launch} (hl : l.stackTraces = false) {T0 : ZTf} (h0 : zMet l yX8_undo (Cond.code yX8_undo cX8_undo 1 (Option.some Jvm.ClassFile.FieldType.int) :: zG) rm_X8_undo 1 6 T0) (p : Program) (e : Env) (s : State) (m : MethodId) (args : Array Value) (below : List Frame) (meth : Method) (c : Code) (D : va_G) (A : Nat → Prop) (a0 : Nat → Nat) (M0 : ZM) (K : ZRet) (KX : ZEx) (X : zCtx p l rm_L_undo s m args meth c cL_undo RL (Cond.codeWith yL_undo cL_undo 3 (Option.some Jvm.ClassFile.FieldType.int) [(0, 8, 11, 13)] :: zG) 3 (Option.some Jvm.ClassFile.FieldType.int) D A a0 M0 1 6) (htab : c.exceptionTable.toList = tableOf [(0, 8, 11, 13)]) (hNc : zNc0 s) : ∀ q ∈ cd_L_undo T0, zSd p l e rm_L_undo s m args below meth c 3 D A a0 M0 K KX 1 6 q.1 q.2 :=
  have hCx := zCx_of X (.tail _ gw_5_193) (.tail _ gw_5_164) (.tail _ gw_5_136) (.tail _ gw_7_174);
    zall_c (zs_aload_n X (pc := 0) (q := 1) rfl (by decide +kernel)) <|
    zall_c (zs_iconst X (pc := 1) (by decide) (by decide +kernel)) <|
    zall_c (zs_aload_n X (pc := 2) (q := 0) rfl (by decide +kernel)) <|
    zall_c (zs_callVH X (pc := 3) zc_X8 (fun _ ht => ⟨(zCB ht gw_7_154 gw_1_1 gw_7_151 rfl rfl (by decide +kernel) ⟨Nat.le_of_ble_eq_true rfl, Nat.le_of_ble_eq_true rfl⟩), ht _ (.tail _ gw_7_152), ht _ (.tail _ gw_7_153)⟩) h0 htab hCx hNc hHd_L_undo (by decide +kernel)) <|
    zall_c (zs_i2l X (pc := 6) (by decide +kernel)) <|
    zall_c (zs_lastore X (pc := 7) (by decide +kernel)) <|
    zall_c (zs_goto X (pc := 8) (off := 6) (by decide +kernel) (by decide)) <|
    zall_c (zs_iconst X (pc := 12) (by decide) (by decide +kernel)) <|
    zall_c (zs_iret X (pc := 13) rfl (by decide +kernel)) <|
    zall_c (zs_iconst X (pc := 14) (by decide) (by decide +kernel)) <|
    zall_c (zs_iret X (pc := 15) rfl (by decide +kernel)) <|
    zall_n
theorem met_L_undo {l : Launch} (hl : l.stackTraces = false) {T0 : ZTf} (h0 : zMet l yX8_undo (Cond.code yX8_undo cX8_undo 1 (Option.some Jvm.ClassFile.FieldType.int) :: zG) rm_X8_undo 1 6 T0) {T : List ZV → ZM → ZRet → Prop} (bd : zBdW (cd_L_undo T0) 3 1 6 T) : zMetW l yL_undo (Cond.codeWith yL_undo cL_undo 3 (Option.some Jvm.ClassFile.FieldType.int) [(0, 8, 11, 13)] :: zG) rm_L_undo 1 6 T := zMetW_of hl (by decide +kernel) rfl rfl rfl rfl (hs_L_undo hl h0) bd

def T_L_undo : List ZV → ZM → ZRet → Prop := fun av M K => ∃ (P : Int → Gm) (c : Int), av = [zo 64, zo 681] ∧ (zW M 681 23 ∧ zLn M 681 = 1) ∧ (LV M) ∧ (RQ M P c) ∧  ((0 < c) → (∀ M' : ZM, (Fr SCw M M') → (TR M' 129 (P (c - 1))) → (RQ M' P (c - 1)) → K (some (zi 0)) (zsI M' 681 0 (c - 1)))) ∧ ((c ≤ 0) → K (some (zi 1)) M)
set_option maxRecDepth 100000 in
set_option maxHeartbeats 1500000 in
theorem bd_L_undo : zBdW (cd_L_undo T_X8_undo) 3 1 6 T_L_undo := by
  rintro av M K hA0 hM ⟨P, c, rfl, hOut, hL, hq, hK, hX2⟩
  refine ⟨rfl, fun Φ hΦ => ?_⟩
  refine zGoR hΦ [] 400 (fun hL9 _ hM _ _ => ?_)
  obtain ⟨_⟩ : True := hL9
  refine ⟨⟨(by decide), (by decide)⟩, ⟨⟨rfl, rfl⟩, hL.w.rcv⟩, ⟨P, c, rfl, hL, hq, fun (qc3 : 0 < c) => fun M1 hf1 hT1 hq91 => (have hOw1 : zW M1 681 23 := hOut.1.fr hf1; have hOl1 : zLn M1 681 = 1 := Fr.ln hf1 hOut.1 hOut.2; fun (qg1 : zrg (c - 1)) qm2 => ⟨zixW hOw1 hOl1 (i := 0) (by decide) (by decide), ⟨trivial, (show K (some (zi 0)) (zsI M1 681 0 (c - 1)) from ?g536l1)⟩⟩), fun (qc4 : c ≤ 0) => (fun _ => ⟨12, 2, rfl, ⟨trivial, (hX2 (by assumption))⟩⟩)⟩⟩
  case g536l1 => exact hK qc3 M1 hf1 hT1 hq91

theorem M_L_undo {l : Launch} (hl : l.stackTraces = false) : zMetW l yL_undo (Cond.codeWith yL_undo cL_undo 3 (Option.some Jvm.ClassFile.FieldType.int) [(0, 8, 11, 13)] :: zG) rm_L_undo 1 6 T_L_undo := met_L_undo hl (M_X8_undo hl) bd_L_undo

theorem gw_7_166 : Cond.code yX8_writeRow cX8_writeRow 3 (Option.some Jvm.ClassFile.FieldType.int) ∈ zG := zGt7 (List.mem_of_getElem? (i := 166) (by rfl)) rfl
theorem gw_7_163 : Cond.methodLink RL 143 yX8_writeRow ∈ zG := zGt7 (List.mem_of_getElem? (i := 163) (by rfl)) rfl
theorem gw_7_164 : Cond.instanceMethod yX8_writeRow ∈ zG := zGt7 (List.mem_of_getElem? (i := 164) (by rfl)) rfl
theorem gw_7_165 : Cond.selects RX8 yX8_writeRow yX8_writeRow ∈ zG := zGt7 (List.mem_of_getElem? (i := 165) (by rfl)) rfl
def hd_L_writeRow (x : Nat) : Option (Nat × Nat) := if x = 0 then some (13, 3) else none
theorem hHd_L_writeRow : zHd cL_writeRow 4 4 [(0, 9, 12, 29)] hd_L_writeRow := by
  intro x h i q
  by_cases e0 : x = 0
  · subst e0
    have q' : some (13, 3) = some (h, i) := q
    cases q'
    exact ⟨by decide, 12, rfl, Or.inr ⟨3, rfl, by decide +kernel, rfl⟩⟩
  unfold hd_L_writeRow at q
  rw [if_neg e0] at q
  cases q

abbrev rm_L_writeRow : Room := { frames := 8, cells := 300, slots := 600, locals := 192 }
def cd_L_writeRow (T0 : ZTf) : List (Nat × ZTr) := [(0, tAld 2 1), (1, tC (zi 0) 2), (2, tAld 0 3), (3, tIld 1 4), (4, tCallH 2 300 600 T0 (zRcv 11) hd_L_writeRow 7), (7, tI2l 8), (8, tLas 9), (9, tGo 15), (13, tC (zi 1) 14), (14, tRi (fun _ => True)), (15, tC (zi 0) 16), (16, tRi (fun _ => True))]
set_option maxRecDepth 100000 in
set_option maxHeartbeats 1500000 in
theorem hs_L_writeRow {l : Launch} (hl : l.stackTraces = false) {T0 : ZTf} (h0 : zMet l yX8_writeRow (Cond.code yX8_writeRow cX8_writeRow 3 (Option.some Jvm.ClassFile.FieldType.int) :: zG) rm_X8_writeRow 300 600 T0) (p : Program) (e : Env) (s : State) (m : MethodId) (args : Array Value) (below : List Frame) (meth : Method) (c : Code) (D : va_G) (A : Nat → Prop) (a0 : Nat → Nat) (M0 : ZM) (K : ZRet) (KX : ZEx) (X : zCtx p l rm_L_writeRow s m args meth c cL_writeRow RL (Cond.codeWith yL_writeRow cL_writeRow 4 (Option.some Jvm.ClassFile.FieldType.int) [(0, 9, 12, 29)] :: zG) 4 (Option.some Jvm.ClassFile.FieldType.int) D A a0 M0 300 600) (htab : c.exceptionTable.toList = tableOf [(0, 9, 12, 29)]) (hNc : zNc0 s) : ∀ q ∈ cd_L_writeRow T0, zSd p l e rm_L_writeRow s m args below meth c 4 D A a0 M0 K KX 300 600 q.1 q.2 :=
  have hCx := zCx_of X (.tail _ gw_5_193) (.tail _ gw_5_164) (.tail _ gw_5_136) (.tail _ gw_7_174);
    zall_c (zs_aload_n X (pc := 0) (q := 2) rfl (by decide +kernel)) <|
    zall_c (zs_iconst X (pc := 1) (by decide) (by decide +kernel)) <|
    zall_c (zs_aload_n X (pc := 2) (q := 0) rfl (by decide +kernel)) <|
    zall_c (zs_iload_n X (pc := 3) (q := 1) rfl (by decide +kernel)) <|
    zall_c (zs_callVH X (pc := 4) zc_X8 (fun _ ht => ⟨(zCB ht gw_7_166 gw_1_1 gw_7_163 rfl rfl (by decide +kernel) ⟨Nat.le_of_ble_eq_true rfl, Nat.le_of_ble_eq_true rfl⟩), ht _ (.tail _ gw_7_164), ht _ (.tail _ gw_7_165)⟩) h0 htab hCx hNc hHd_L_writeRow (by decide +kernel)) <|
    zall_c (zs_i2l X (pc := 7) (by decide +kernel)) <|
    zall_c (zs_lastore X (pc := 8) (by decide +kernel)) <|
    zall_c (zs_goto X (pc := 9) (off := 6) (by decide +kernel) (by decide)) <|
    zall_c (zs_iconst X (pc := 13) (by decide) (by decide +kernel)) <|
    zall_c (zs_iret X (pc := 14) rfl (by decide +kernel)) <|
    zall_c (zs_iconst X (pc := 15) (by decide) (by decide +kernel)) <|
    zall_c (zs_iret X (pc := 16) rfl (by decide +kernel)) <|
    zall_n
theorem met_L_writeRow {l : Launch} (hl : l.stackTraces = false) {T0 : ZTf} (h0 : zMet l yX8_writeRow (Cond.code yX8_writeRow cX8_writeRow 3 (Option.some Jvm.ClassFile.FieldType.int) :: zG) rm_X8_writeRow 300 600 T0) {T : List ZV → ZM → ZRet → Prop} (bd : zBdW (cd_L_writeRow T0) 4 300 600 T) : zMetW l yL_writeRow (Cond.codeWith yL_writeRow cL_writeRow 4 (Option.some Jvm.ClassFile.FieldType.int) [(0, 9, 12, 29)] :: zG) rm_L_writeRow 300 600 T := zMetW_of hl (by decide +kernel) rfl rfl rfl rfl (hs_L_writeRow hl h0) bd

def T_L_writeRow : List ZV → ZM → ZRet → Prop := fun av M K => ∃ (G : Gm) (r : Int), av = [zo 64, zi r, zo 681] ∧ (zW M 681 23 ∧ zLn M 681 = 1) ∧ (CQ M G) ∧ (OB0 M) ∧  ((0 ≤ r ∧ r < G 5) → (∀ M' : ZM, (∃ c, OC M M' c (txs (tkTx G r) (G (132 + 16 * r + 6).toNat))) → K (some (zi 0)) (zsI M' 681 0 (((txs (tkTx G r) (G (132 + 16 * r + 6).toNat)).length : Int))))) ∧ ((¬(0 ≤ r ∧ r < G 5)) → K (some (zi 1)) M)
set_option maxRecDepth 100000 in
set_option maxHeartbeats 1500000 in
theorem bd_L_writeRow : zBdW (cd_L_writeRow T_X8_writeRow) 4 300 600 T_L_writeRow := by
  rintro av M K hA0 hM ⟨G, r, rfl, hOut, hCq, hB0, hK, hX0⟩
  have hL := hCq.1
  refine ⟨rfl, fun Φ hΦ => ?_⟩
  refine zGoR hΦ [] 400 (fun hL9 _ hM _ _ => ?_)
  obtain ⟨qL1, _⟩ : zrg r ∧ True := hL9
  refine ⟨⟨(by decide), (by decide)⟩, ⟨⟨rfl, rfl⟩, hL.w.rcv⟩, ⟨G, r, rfl, hCq, hB0, fun (qc3 : 0 ≤ r ∧ r < G 5) => fun M1 hO1 => (have hOf1 : Fr SOC M M1 := (match hO1 with | ⟨_, z⟩ => z.fr); have hOw1 : zW M1 681 23 := hOut.1.fr hOf1; have hOl1 : zLn M1 681 = 1 := Fr.ln hOf1 hOut.1 hOut.2; fun (qg1 : zrg (((txs (tkTx G r) (G (132 + 16 * r + 6).toNat)).length : Int))) qm2 => ⟨zixW hOw1 hOl1 (i := 0) (by decide) (by decide), ⟨trivial, (show K (some (zi 0)) (zsI M1 681 0 ((txs (tkTx G r) (G (132 + 16 * r + 6).toNat)).length : Int)) from ?g537l1)⟩⟩), fun (qc4 : ¬(0 ≤ r ∧ r < G 5)) => (fun _ => ⟨13, 3, rfl, ⟨trivial, (hX0 (by assumption))⟩⟩)⟩⟩
  case g537l1 => exact hK qc3 M1 hO1

theorem M_L_writeRow {l : Launch} (hl : l.stackTraces = false) : zMetW l yL_writeRow (Cond.codeWith yL_writeRow cL_writeRow 4 (Option.some Jvm.ClassFile.FieldType.int) [(0, 9, 12, 29)] :: zG) rm_L_writeRow 300 600 T_L_writeRow := met_L_writeRow hl (M_X8_writeRow hl) bd_L_writeRow

theorem gw_7_178 : Cond.code yX8_outputByte cX8_outputByte 2 (Option.some Jvm.ClassFile.FieldType.int) ∈ zG := zGt7 (List.mem_of_getElem? (i := 178) (by rfl)) rfl
theorem gw_7_175 : Cond.methodLink RL 146 yX8_outputByte ∈ zG := zGt7 (List.mem_of_getElem? (i := 175) (by rfl)) rfl
theorem gw_7_176 : Cond.instanceMethod yX8_outputByte ∈ zG := zGt7 (List.mem_of_getElem? (i := 176) (by rfl)) rfl
theorem gw_7_177 : Cond.selects RX8 yX8_outputByte yX8_outputByte ∈ zG := zGt7 (List.mem_of_getElem? (i := 177) (by rfl)) rfl
def hd_L_outputByte (x : Nat) : Option (Nat × Nat) := if x = 3 then some (13, 3) else none
theorem hHd_L_outputByte : zHd cL_outputByte 4 4 [(0, 9, 12, 149)] hd_L_outputByte := by
  intro x h i q
  by_cases e3 : x = 3
  · subst e3
    have q' : some (13, 3) = some (h, i) := q
    cases q'
    exact ⟨by decide, 12, rfl, Or.inr ⟨3, rfl, by decide +kernel, rfl⟩⟩
  unfold hd_L_outputByte at q
  rw [if_neg e3] at q
  cases q

abbrev rm_L_outputByte : Room := { frames := 7, cells := 1, slots := 6, locals := 139 }
def cd_L_outputByte (T0 : ZTf) : List (Nat × ZTr) := [(0, tAld 2 1), (1, tC (zi 0) 2), (2, tAld 0 3), (3, tIld 1 4), (4, tCallH 2 1 6 T0 (zRcv 11) hd_L_outputByte 7), (7, tI2l 8), (8, tLas 9), (9, tGo 15), (13, tC (zi 1) 14), (14, tRi (fun _ => True)), (15, tC (zi 0) 16), (16, tRi (fun _ => True))]
set_option maxRecDepth 100000 in
set_option maxHeartbeats 1500000 in
theorem hs_L_outputByte {l : Launch} (hl : l.stackTraces = false) {T0 : ZTf} (h0 : zMet l yX8_outputByte (Cond.code yX8_outputByte cX8_outputByte 2 (Option.some Jvm.ClassFile.FieldType.int) :: zG) rm_X8_outputByte 1 6 T0) (p : Program) (e : Env) (s : State) (m : MethodId) (args : Array Value) (below : List Frame) (meth : Method) (c : Code) (D : va_G) (A : Nat → Prop) (a0 : Nat → Nat) (M0 : ZM) (K : ZRet) (KX : ZEx) (X : zCtx p l rm_L_outputByte s m args meth c cL_outputByte RL (Cond.codeWith yL_outputByte cL_outputByte 4 (Option.some Jvm.ClassFile.FieldType.int) [(0, 9, 12, 149)] :: zG) 4 (Option.some Jvm.ClassFile.FieldType.int) D A a0 M0 1 6) (htab : c.exceptionTable.toList = tableOf [(0, 9, 12, 149)]) (hNc : zNc0 s) : ∀ q ∈ cd_L_outputByte T0, zSd p l e rm_L_outputByte s m args below meth c 4 D A a0 M0 K KX 1 6 q.1 q.2 :=
  have hCx := zCx_of X (.tail _ gw_5_193) (.tail _ gw_5_164) (.tail _ gw_5_136) (.tail _ gw_7_174);
    zall_c (zs_aload_n X (pc := 0) (q := 2) rfl (by decide +kernel)) <|
    zall_c (zs_iconst X (pc := 1) (by decide) (by decide +kernel)) <|
    zall_c (zs_aload_n X (pc := 2) (q := 0) rfl (by decide +kernel)) <|
    zall_c (zs_iload_n X (pc := 3) (q := 1) rfl (by decide +kernel)) <|
    zall_c (zs_callVH X (pc := 4) zc_X8 (fun _ ht => ⟨(zCB ht gw_7_178 gw_1_1 gw_7_175 rfl rfl (by decide +kernel) ⟨Nat.le_of_ble_eq_true rfl, Nat.le_of_ble_eq_true rfl⟩), ht _ (.tail _ gw_7_176), ht _ (.tail _ gw_7_177)⟩) h0 htab hCx hNc hHd_L_outputByte (by decide +kernel)) <|
    zall_c (zs_i2l X (pc := 7) (by decide +kernel)) <|
    zall_c (zs_lastore X (pc := 8) (by decide +kernel)) <|
    zall_c (zs_goto X (pc := 9) (off := 6) (by decide +kernel) (by decide)) <|
    zall_c (zs_iconst X (pc := 13) (by decide) (by decide +kernel)) <|
    zall_c (zs_iret X (pc := 14) rfl (by decide +kernel)) <|
    zall_c (zs_iconst X (pc := 15) (by decide) (by decide +kernel)) <|
    zall_c (zs_iret X (pc := 16) rfl (by decide +kernel)) <|
    zall_n
theorem met_L_outputByte {l : Launch} (hl : l.stackTraces = false) {T0 : ZTf} (h0 : zMet l yX8_outputByte (Cond.code yX8_outputByte cX8_outputByte 2 (Option.some Jvm.ClassFile.FieldType.int) :: zG) rm_X8_outputByte 1 6 T0) {T : List ZV → ZM → ZRet → Prop} (bd : zBdW (cd_L_outputByte T0) 4 1 6 T) : zMetW l yL_outputByte (Cond.codeWith yL_outputByte cL_outputByte 4 (Option.some Jvm.ClassFile.FieldType.int) [(0, 9, 12, 149)] :: zG) rm_L_outputByte 1 6 T := zMetW_of hl (by decide +kernel) rfl rfl rfl rfl (hs_L_outputByte hl h0) bd

def T_L_outputByte : List ZV → ZM → ZRet → Prop := fun av M K => ∃ (c : Nat) (o : List Int) (x : Int), av = [zo 64, zi x, zo 681] ∧ (zW M 681 23 ∧ zLn M 681 = 1) ∧ (LV M) ∧ (SB M 668 c o) ∧  ((0 ≤ x ∧ x < o.length) → K (some (zi 0)) (zsI M 681 0 (zi2c (zand (o.getD x.toNat 0) 255)))) ∧ ((¬(0 ≤ x ∧ x < o.length)) → K (some (zi 1)) M)
set_option maxRecDepth 100000 in
set_option maxHeartbeats 1500000 in
theorem bd_L_outputByte : zBdW (cd_L_outputByte T_X8_outputByte) 4 1 6 T_L_outputByte := by
  rintro av M K hA0 hM ⟨c, o, x, rfl, hOut, hL, hS, hK, hX3⟩
  refine ⟨rfl, fun Φ hΦ => ?_⟩
  refine zGoR hΦ [] 400 (fun hL9 _ hM _ _ => ?_)
  obtain ⟨qL1, _⟩ : zrg x ∧ True := hL9
  refine ⟨⟨(by decide), (by decide)⟩, ⟨⟨rfl, rfl⟩, hL.w.rcv⟩, ⟨c, o, x, rfl, hL, hS, fun (qc3 : 0 ≤ x ∧ x < o.length) => fun (qg1 : zrg (zi2c (zand (o.getD x.toNat 0) 255))) qm2 => ⟨zixW hOut.1 hOut.2 (i := 0) (by decide) (by decide), ⟨trivial, (show K (some (zi 0)) (zsI M 681 0 (zi2c (zand (o.getD x.toNat 0) 255))) from ?g538l1)⟩⟩, fun (qc4 : ¬(0 ≤ x ∧ x < o.length)) => (fun _ => ⟨13, 3, rfl, ⟨trivial, (hX3 (by assumption))⟩⟩)⟩⟩
  case g538l1 => exact hK qc3

theorem M_L_outputByte {l : Launch} (hl : l.stackTraces = false) : zMetW l yL_outputByte (Cond.codeWith yL_outputByte cL_outputByte 4 (Option.some Jvm.ClassFile.FieldType.int) [(0, 9, 12, 149)] :: zG) rm_L_outputByte 1 6 T_L_outputByte := met_L_outputByte hl (M_X8_outputByte hl) bd_L_outputByte
