/-! the law: appending a constant text -/

abbrev rm_J0_getBytes_840e7T : Room := { frames := 2, cells := 0, slots := 0, locals := 60 }
def cd_J0_getBytes_840e7T (T0 : ZTf) : List (Nat × ZTr) := [(0, tAld 0 1), (1, tCall0 1 T0 (zRcv 0) 4), (4, tIld 3 5), (5, tIc_ne 28 8), (8, tAld 0 9), (9, tGsV 12), (12, tC (zi 0) 13), (13, tAld 1 14), (14, tIld 2 15), (15, tIld 3 16), (16, tBif zshl 17), (17, tAld 0 18), (18, tGsV 21), (21, tLen 22), (22, tCpyT 25), (25, tGo 43), (28, tNo), (43, tRv)]
set_option maxRecDepth 100000 in
set_option maxHeartbeats 4000000 in
theorem hs_J0_getBytes_840e7T {l : Launch} (hl : l.stackTraces = false) {T0 : ZTf} (h0 : zMet l yJ0_coder_7d493 (Cond.code yJ0_coder_7d493 cJ0_coder_7d493 1 (Option.some Jvm.ClassFile.FieldType.byte) :: zG) rm_J0_coder_7d493 0 0 T0) (p : Program) (e : Env) (s : State) (m : MethodId) (args : Array Value) (below : List Frame) (meth : Method) (c : Code) (D : va_G) (A : Nat → Prop) (a0 : Nat → Nat) (M0 : ZM) (K : ZRet) (KX : ZEx) (X : zCtx p l rm_J0_getBytes_840e7T s m args meth c cJ0_getBytes_840e7 RJ0 (Cond.code yJ0_getBytes_840e7 cJ0_getBytes_840e7 4 (Option.none : Option Jvm.ClassFile.FieldType) :: zG) 4 (Option.none : Option Jvm.ClassFile.FieldType) D A a0 M0 0 0) (hnm : meth.name = yJ0_getBytes_840e7.name) (hout : ∀ x ∈ c.exceptionTable.toList, False) : ∀ q ∈ cd_J0_getBytes_840e7T T0, zSd p l e rm_J0_getBytes_840e7T s m args below meth c 4 D A a0 M0 K KX 0 0 q.1 q.2 :=
    zall_c (zs_aload_n X (pc := 0) (q := 0) rfl (by decide +kernel)) <|
    zall_c (zs_callV0 X (pc := 1) zc_J0 (fun _ ht => ⟨(zCB ht gw_3_9 gw_1_6 gw_3_6 rfl rfl (by decide +kernel) ⟨Nat.le_of_ble_eq_true rfl, Nat.le_of_ble_eq_true rfl⟩), ht _ (.tail _ gw_3_7), ht _ (.tail _ gw_3_8)⟩) h0 hout (by decide +kernel)) <|
    zall_c (zs_iload_n X (pc := 4) (q := 3) rfl (by decide +kernel)) <|
    zall_c (zs_icmp_ne X (pc := 5) (off := 23) (by decide +kernel) (by decide)) <|
    zall_c (zs_aload_n X (pc := 8) (q := 0) rfl (by decide +kernel)) <|
    zall_c (zs_gsv X (pc := 9) (zin ui_J0) (.tail _ gw_3_236) (by decide +kernel)) <|
    zall_c (zs_iconst X (pc := 12) (by decide) (by decide +kernel)) <|
    zall_c (zs_aload_n X (pc := 13) (q := 1) rfl (by decide +kernel)) <|
    zall_c (zs_iload_n X (pc := 14) (q := 2) rfl (by decide +kernel)) <|
    zall_c (zs_iload_n X (pc := 15) (q := 3) rfl (by decide +kernel)) <|
    zall_c (zs_ishl X (pc := 16) (by decide +kernel)) <|
    zall_c (zs_aload_n X (pc := 17) (q := 0) rfl (by decide +kernel)) <|
    zall_c (zs_gsv X (pc := 18) (zin ui_J0) (.tail _ gw_3_236) (by decide +kernel)) <|
    zall_c (zs_len X (pc := 21) (by decide +kernel)) <|
    zall_c (zs_copy21T X (pc := 22) (.tail _ gw_3_126) (.tail _ gw_3_63) (.tail _ gw_3_62) (.tail _ gw_1_16) (Nat.le_of_ble_eq_true rfl) (by show 8 + (nativeFrameWords "java/lang/System" "arraycopy" 5 + 11) ≤ 60; decide +kernel) (by decide +kernel)) <|
    zall_c (zs_goto X (pc := 25) (off := 18) (by decide +kernel) (by decide)) <|
    zall_c (zs_no (pc := 28)) <|
    zall_c (zs_vret X (pc := 43) rfl (by decide +kernel)) <|
    zall_n
theorem met_J0_getBytes_840e7T {l : Launch} (hl : l.stackTraces = false) {T0 : ZTf} (h0 : zMet l yJ0_coder_7d493 (Cond.code yJ0_coder_7d493 cJ0_coder_7d493 1 (Option.some Jvm.ClassFile.FieldType.byte) :: zG) rm_J0_coder_7d493 0 0 T0) {T : ZTf} (bd : zBd (cd_J0_getBytes_840e7T T0) 4 0 0 T) : zMet l yJ0_getBytes_840e7 (Cond.code yJ0_getBytes_840e7 cJ0_getBytes_840e7 4 (Option.none : Option Jvm.ClassFile.FieldType) :: zG) rm_J0_getBytes_840e7T 0 0 T := zMet_of hl (by decide +kernel) rfl rfl rfl rfl (hs_J0_getBytes_840e7T hl h0) bd

def T_J0_getBytes_840e7T : ZTf := zInl (cd_J0_getBytes_840e7T T_J0_coder_7d493) 4 0 0 400
theorem M_J0_getBytes_840e7T {l : Launch} (hl : l.stackTraces = false) : zMet l yJ0_getBytes_840e7 (Cond.code yJ0_getBytes_840e7 cJ0_getBytes_840e7 4 (Option.none : Option Jvm.ClassFile.FieldType) :: zG) rm_J0_getBytes_840e7T 0 0 T_J0_getBytes_840e7T := met_J0_getBytes_840e7T hl (M_J0_coder_7d493 hl) zInl_bd
def T_J5_putStringAt_47b60T : ZTf := fun av M K KX => ∃ (b s c : Nat) (o l : List Int) (n : Int), av = [zo b, zi n, zo s] ∧ (SB M b c o) ∧ (zTx M s l) ∧ (l.length ≤ 100) ∧ (vu M s ≠ vu M b) ∧ (∀ k : Nat, k < l.length → 0 ≤ l.getD k 0 ∧ l.getD k 0 < 128) ∧ (n = (o.length : Int)) ∧ (o.length + l.length ≤ c) ∧  K none (zcpy M (vu M s) (vu M b) 0 (o.length : Int).toNat l.length)
theorem bd_J5_putStringAt_47b60T : zBd (cd_J5_putStringAt_47b60 T_J5_inflateIfNeededFor_a7421 T_J0_getBytes_840e7T) 3 0 0 T_J5_putStringAt_47b60T := by
  rintro av M K KX hA0 hM ⟨b, s, c, o, l, n, rfl, hS, hz, hb, hne, hlt, hn, hc, hK⟩
  have hS0 := hS
  obtain ⟨hsb1, hsb2, hsb3, ⟨hsb4, hsb5⟩, hsb6, hsb7⟩ := id hS
  have hzc : zshr (c : Int) 0 = (c : Int) := zshr_0 (by omega)
  obtain ⟨hO, hcd, v, hv, ha, hvl, hvv, he⟩ := id hz
  have hvu : vu M s = v := by unfold vu; rw [hv]; rfl
  have hzs : zshl n 0 = n := zshl_0 (by omega)
  refine ⟨rfl, fun Φ hΦ => ?_⟩
  refine zGoR hΦ [] 400 (fun hL9 _ hM _ _ => ?_)
  obtain ⟨qL1, _⟩ : zrg n ∧ True := hL9
  refine ⟨⟨⟨rfl, rfl⟩, hS.w.rcv⟩, ⟨rfl, ⟨fun (h : (1 : Int) = 0) => absurd h (by decide), fun _ => ⟨hS.w, zIr (hS.cd) (⟨⟨⟨rfl, rfl⟩, ⟨hz.1, Or.inr rfl⟩⟩, ⟨rfl, ⟨fun (h : (1 : Int) = 0) => absurd h (by decide), fun _ => ⟨hz.1, ⟨(zPbI (x := zI M s 1) (by omega)), fun (qg1 : zrg (zI M s 1)) _ => ⟨fun (qc2 : 0 = zI M s 1) => fun _ _ => ⟨hS.w, _, hS.r0, ⟨hS.w, zIr (hS.cd) (⟨⟨⟨rfl, rfl⟩, ⟨hz.1, Or.inr rfl⟩⟩, ⟨rfl, ⟨⟨⟨rfl, rfl⟩, ⟨hz.1, Or.inr rfl⟩⟩, ⟨rfl, ⟨fun (h : (1 : Int) = 0) => absurd h (by decide), fun _ => ⟨hz.1, ⟨(zPbI (x := zI M s 1) (by omega)), fun (qg4 : zrg (zI M s 1)) _ => ⟨fun (qc5 : zI M s 1 ≠ 0) => ?g345l1, fun (qc6 : zI M s 1 = 0) => ⟨hz.1, _, hv, ⟨hz.1, _, hv, ⟨⟨ha.2, Or.inr (Or.inr (Or.inl ha.1))⟩, zIr (congrArg (fun n : Nat => (n : Int)) hvl) (⟨⟨ha, hS.a, (by omega), ⟨zcpL hvl (by omega), zcpL hS.l (by omega)⟩, (fun q hq => by rw [he _ (by omega)]; have := hlt (0 + q) (by omega); exact zPbI (by first | omega | (simp only [Int.toNat_zero] at *; omega))), rfl⟩, fun _ _ => (show K none (zcpy M v (vu M b) 0 (zshl n 0).toNat (l.length : Int).toNat) from ?g345l2)⟩)⟩⟩⟩⟩⟩⟩⟩⟩⟩⟩⟩)⟩⟩, fun (qc8 : 0 ≠ zI M s 1) => ?g345l3⟩⟩⟩⟩⟩⟩)⟩⟩⟩⟩
  case g345l1 => exfalso; omega
  case g345l2 =>
    rw [hvu] at hK
    subst hn
    first
    | exact hK
    | (rw [hzs]; exact hK)
    | (rw [hzs, Int.toNat_natCast]; rw [Int.toNat_natCast] at hK; exact hK)
  case g345l3 => exfalso; omega
theorem M_J5_putStringAt_47b60T {l : Launch} (hl : l.stackTraces = false) : zMet l yJ5_putStringAt_47b60 (Cond.code yJ5_putStringAt_47b60 cJ5_putStringAt_47b60 3 (Option.none : Option Jvm.ClassFile.FieldType) :: zG) rm_J5_putStringAt_47b60 0 0 T_J5_putStringAt_47b60T := met_J5_putStringAt_47b60 hl (M_J5_inflateIfNeededFor_a7421 hl) (M_J0_getBytes_840e7T hl) bd_J5_putStringAt_47b60T
def T_J5_append_cf1ceT (ca cb : Nat) : ZTf := fun av M K KX => ∃ (b s c d : Nat) (o l : List Int), av = [zo b, zo s] ∧ (SB M b c o) ∧ (zTx M s l) ∧ (l.length ≤ 100) ∧ (vu M s ≠ vu M b) ∧ (∀ k : Nat, k < l.length → 0 ≤ l.getD k 0 ∧ l.getD k 0 < 128) ∧ (o.length < 800) ∧ (668 < zN M) ∧ (ncap c (o.length + l.length) = d) ∧ (d ≤ c + ca ∧ 2 * d ≤ 2 * c + cb) ∧  (∀ M' : ZM, (SB M' b d (o ++ l)) → (FX b M M') → K (some (zo (b))) M')
theorem bd_J5_append_cf1ceT (ca cb : Nat) : zBd (cd_J5_append_cf1ce T_J0_length_8abf5 T_J5_ensureCapacityInternal_d00df T_J5_putStringAt_47b60T) 3 ca cb (T_J5_append_cf1ceT ca cb) := by
  rintro av M K KX hA0 hM ⟨b, s, c, d, o, l, rfl, hS, hz, hb, hne, hlt, hn, h46, hc, hab, hK⟩
  have hS0 := hS
  obtain ⟨hsb1, hsb2, hsb3, ⟨hsb4, hsb5⟩, hsb6, hsb7⟩ := id hS
  have hzc : zshr (c : Int) 0 = (c : Int) := zshr_0 (by omega)
  have hg := ncap_g hc
  refine ⟨rfl, fun Φ hΦ => ?_⟩
  refine zGoR hΦ [] 400 (fun hL9 _ hM _ _ => ?_)
  obtain ⟨_⟩ : True := hL9
  refine ⟨⟨⟨rfl, rfl⟩, ⟨hz.1, Or.inr rfl⟩⟩, ⟨s, l, rfl, hz, hb, fun (qg1 : zrg ((l.length : Int))) qm2 => ⟨hS.w, zIr (hS.ct) (⟨(zrgI (x := (o.length : Int) + (l.length : Int)) (by omega)), ⟨ca, cb, ⟨(by omega), (by omega)⟩, ⟨⟨rfl, rfl⟩, hS.w.rcv⟩, ⟨b, c, d, o, ((o.length : Int) + (l.length : Int)), rfl, hS, (by omega), (by rw [show ((o.length : Int) + (l.length : Int)).toNat = o.length + l.length by omega]; exact hc), hab, fun M1 hS1 hx1 hvu1 => (have hz1 := FX.tx hz hS0 hS1 hx1 h46 hne; have hne1 := FX.ne hz hx1 hne; fun qg3 qm4 => ⟨hS1.w, zIr (hS1.ct) (⟨⟨⟨rfl, rfl⟩, hS1.w.rcv⟩, ⟨b, s, d, o, l, (o.length : Int), rfl, hS1, hz1, hb, hne1, hlt, rfl, (by omega), fun qg5 qm6 => ⟨rfl, ⟨hS1.w, zIr (((congrFun (zcpn _ _ _ _ _ _ hS1.bu) _).trans hS1.ct)) (⟨(zrgI (x := (o.length : Int) + (l.length : Int)) (by omega)), ⟨⟨hS1.w, trivial⟩, (show K (some (zo b)) (zsI (zcpy M1 (vu M1 s) (vu M1 b) 0 (o.length : Int).toNat l.length) b 3 ((o.length : Int) + (l.length : Int))) from ?g346l1)⟩⟩)⟩⟩⟩⟩)⟩)⟩⟩⟩)⟩⟩⟩
  case g346l1 =>
    obtain ⟨-, -, v, hv, ha, hvl, hvv, he⟩ := id hz1
    have hvu : vu M1 s = v := by unfold vu; rw [hv]; rfl
    have h9 := hS1.cat (v := vu M1 s) (l := l) (by omega) hne1 (fun k hk => by rw [hvu]; exact he k hk) (fun k hk => by have := hlt k hk; exact zPbI (by omega))
    exact hK _ h9 ((hx1.tr FX_cp).tr (FX_I (Or.inl rfl)))
theorem M_J5_append_cf1ceT {l : Launch} (hl : l.stackTraces = false) (ca cb : Nat) : zMet l yJ5_append_cf1ce (Cond.code yJ5_append_cf1ce cJ5_append_cf1ce 3 (Option.some (Jvm.ClassFile.FieldType.object "java/lang/AbstractStringBuilder")) :: zG) (rm_J5_append_cf1ce ca cb) ca cb (T_J5_append_cf1ceT ca cb) := met_J5_append_cf1ce hl (M_J0_length_8abf5 hl) (M_J5_ensureCapacityInternal_d00df hl) (M_J5_putStringAt_47b60T hl) (bd_J5_append_cf1ceT ca cb)
def T_J4_append_15ec4T (ca cb : Nat) : ZTf := fun av M K KX => ∃ (b s c d : Nat) (o l : List Int), av = [zo b, zo s] ∧ (SB M b c o) ∧ (zTx M s l) ∧ (l.length ≤ 100) ∧ (vu M s ≠ vu M b) ∧ (∀ k : Nat, k < l.length → 0 ≤ l.getD k 0 ∧ l.getD k 0 < 128) ∧ (o.length < 800) ∧ (668 < zN M) ∧ (ncap c (o.length + l.length) = d) ∧ (d ≤ c + ca ∧ 2 * d ≤ 2 * c + cb) ∧  (∀ M' : ZM, (SB M' b d (o ++ l)) → (FX b M M') → K (some (zo (b))) M')
theorem bd_J4_append_15ec4T (ca cb : Nat) : zBd (cd_J4_append_15ec4 T_J5_append_cf1ceT) 2 ca cb (T_J4_append_15ec4T ca cb) := by
  rintro av M K KX hA0 hM ⟨b, s, c, d, o, l, rfl, hS, hz, hb, hne, hlt, hn, h46, hc, hab, hK⟩
  refine ⟨rfl, fun Φ hΦ => ?_⟩
  refine zGoR hΦ [] 400 (fun hL9 _ hM _ _ => ?_)
  obtain ⟨_⟩ : True := hL9
  refine ⟨ca, cb, ⟨(by omega), (by omega)⟩, ⟨⟨rfl, rfl⟩, hS.w.rcv⟩, ⟨b, s, c, d, o, l, rfl, hS, hz, hb, hne, hlt, hn, h46, hc, hab, fun M1 hS1 hx1 => (fun qg1 qm2 => ⟨rfl, (show K (some (zo b)) M1 from ?g347l1)⟩)⟩⟩
  case g347l1 => exact hK _ hS1 hx1
theorem M_J4_append_15ec4T {l : Launch} (hl : l.stackTraces = false) (ca cb : Nat) : zMet l yJ4_append_15ec4 (Cond.code yJ4_append_15ec4 cJ4_append_15ec4 2 (Option.some (Jvm.ClassFile.FieldType.object "java/lang/StringBuilder")) :: zG) (rm_J4_append_15ec4 ca cb) ca cb (T_J4_append_15ec4T ca cb) := met_J4_append_15ec4 hl (M_J5_append_cf1ceT hl) (bd_J4_append_15ec4T ca cb)

