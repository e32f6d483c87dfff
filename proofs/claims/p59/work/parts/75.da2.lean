def T_J7_copyOf_9075b (ca cb : Nat) : ZTf := fun av M K KX => ∃ (u c : Nat) (n : Int), av = [zo u, zi n] ∧ (zW M u 21) ∧ (zLn M u = c) ∧ ((c : Int) < n ∧ n ≤ 2000) ∧ (∀ k : Nat, zPb (zI M u k)) ∧ (1 ≤ ca ∧ n ≤ (cb : Int)) ∧  K (some (zo (zN M))) (zcpy (zNw M 21 n.toNat) u (zN M) 0 0 c)
set_option maxRecDepth 100000 in
set_option maxHeartbeats 1500000 in
theorem bd_J7_copyOf_9075b (ca cb : Nat) : zBd (cd_J7_copyOf_9075b) 3 ca cb (T_J7_copyOf_9075b ca cb) := by
  rintro av M K KX hA0 hM ⟨u, c, n, rfl, hu, hl, hn, hp, hab, hK⟩
  have hmn := zminc (c : Int) n
  have h64 : zCC ≤ zN M := Nat.le_trans hu.2.1 (Nat.le_of_lt hu.2.2)
  have hu2 : zW (zNw M 21 n.toNat) u 21 := ⟨(up1_n _ _ _ (Nat.ne_of_lt hu.2.2)).trans hu.1, hu.2.1, Nat.lt_succ_of_lt hu.2.2⟩
  have hl2 : zLn (zNw M 21 n.toNat) u = c := (up1_n _ _ _ (Nat.ne_of_lt hu.2.2)).trans hl
  have hw2 : zW (zNw M 21 n.toNat) (zN M) 21 := ⟨up1_s _ _ _, h64, Nat.lt_succ_self _⟩
  have hn2 : zLn (zNw M 21 n.toNat) (zN M) = n.toNat := up1_s _ _ _
  have hp2 : ∀ k : Nat, zPb (zI (zNw M 21 n.toNat) u k) := fun k => by rw [show zI (zNw M 21 n.toNat) u = zI M u from up1_n _ _ _ (Nat.ne_of_lt hu.2.2)]; exact hp k
  refine ⟨rfl, fun Φ hΦ => ?_⟩
  refine zGoR hΦ [] 400 (fun hL9 _ hM _ _ => ?_)
  obtain ⟨qL1, _⟩ : zrg n ∧ True := hL9
  refine ⟨(zlenW hu (by decide)), zIr (congrArg (fun n : Nat => (n : Int)) hl) (⟨fun (qc1 : n ≠ (c : Int)) => ⟨⟨(by omega), (by omega), (by omega), (by omega)⟩, ⟨(zlenW hu2 (by decide)), zIr (congrArg (fun n : Nat => (n : Int)) hl2) (⟨rfl, ⟨⟨hu2, hw2, (by omega), ⟨zcpL hl2 (by omega), zcpL hn2 (by omega)⟩, (fun q hq => hp2 _), rfl⟩, (show K (some (zo (zN M))) (zcpy (zNw M 21 n.toNat) u (zN M) 0 0 (zmin (c : Int) n).toNat) from ?g313l1)⟩⟩)⟩⟩, fun (qc2 : n = (c : Int)) => ?g313l2⟩)⟩
  case g313l1 =>
    first
    | (exfalso; omega)
    | skip
      have e9 : (zmin (c : Int) n).toNat = c := by omega
      rw [e9]
      exact hK
  case g313l2 =>
    first
    | (exfalso; omega)
    | skip
      have e9 : (zmin (c : Int) n).toNat = c := by omega
      rw [e9]
      exact hK
theorem M_J7_copyOf_9075b {l : Launch} (hl : l.stackTraces = false) (ca cb : Nat) : zMet l yJ7_copyOf_9075b (Cond.code yJ7_copyOf_9075b cJ7_copyOf_9075b 3 (Option.some (Jvm.ClassFile.FieldType.array Jvm.ClassFile.FieldType.byte)) :: zG) (rm_J7_copyOf_9075b ca cb) ca cb (T_J7_copyOf_9075b ca cb) := met_J7_copyOf_9075b hl (bd_J7_copyOf_9075b ca cb)
def T_J5_ensureCapacityInternal_d00df (ca cb : Nat) : ZTf := fun av M K KX => ∃ (b c d : Nat) (o : List Int) (n : Int), av = [zo b, zi n] ∧ (SB M b c o) ∧ (0 ≤ n ∧ n ≤ 1000) ∧ (ncap c n.toNat = d) ∧ (d ≤ c + ca ∧ 2 * d ≤ 2 * c + cb) ∧  (∀ M' : ZM, (SB M' b d o) → (FX b M M') → (c = d → vu M' b = vu M b) → K none M')
set_option maxRecDepth 100000 in
set_option maxHeartbeats 1500000 in
theorem bd_J5_ensureCapacityInternal_d00df (ca cb : Nat) : zBd (cd_J5_ensureCapacityInternal_d00df T_J5_newCapacity_0f7a4 T_J7_copyOf_9075b) 3 ca cb (T_J5_ensureCapacityInternal_d00df ca cb) := by
  rintro av M K KX hA0 hM ⟨b, c, d, o, n, rfl, hS, hn, hc, hab, hK⟩
  have hS0 := hS
  obtain ⟨hsb1, hsb2, hsb3, ⟨hsb4, hsb5⟩, hsb6, hsb7⟩ := id hS
  have hzc : zshr (c : Int) 0 = (c : Int) := zshr_0 (by omega)
  have hg := ncap_g hc
  have hz5 : (c : Int) < n → nc9 c n = (d : Int) := fun z => nc9_e hc z
  have hz6 : zshl (d : Int) 0 = (d : Int) := zshl_0 (by omega)
  have hWb : zW (zNw M 21 (zshl (nc9 c n) 0).toNat) b 1 := ⟨(up1_n _ _ _ (Nat.ne_of_lt hsb1.2.2)).trans hsb1.1, hsb1.2.1, Nat.lt_succ_of_lt hsb1.2.2⟩
  have hz7 : (c : Int) < n → zshl (nc9 c n) 0 = (d : Int) := fun z => by rw [hz5 z, hz6]
  refine ⟨rfl, fun Φ hΦ => ?_⟩
  refine zGoR hΦ [] 400 (fun hL9 _ hM _ _ => ?_)
  obtain ⟨qL1, _⟩ : zrg n ∧ True := hL9
  refine ⟨hS.w, _, hS.r0, ⟨(zlenW hS.a (by decide)), zIr (congrArg (fun n : Nat => (n : Int)) hS.l) (⟨hS.w, zIr (hS.cd) (⟨(zrgI (x := n - (zshr (c : Int) 0)) (by omega)), ⟨fun (qc1 : n - (zshr (c : Int) 0) ≤ 0) => (show K none M from ?g314l1), fun (qc2 : n - (zshr (c : Int) 0) > 0) => ⟨hS.w, _, hS.r0, ⟨⟨⟨rfl, rfl⟩, hS.w.rcv⟩, ⟨b, c, o, n, rfl, hS, (by have := hz7; omega), fun (qg3 : zrg (nc9 c n)) qm4 => ⟨hS.w, zIr (hS.cd) (⟨1, d, ⟨(by omega), (by omega)⟩, ⟨⟨rfl, rfl⟩, trivial⟩, ⟨(vu M b), c, (zshl (nc9 c n) 0), rfl, hS.a, hS.l, (by have := hz7; omega), hsb6, (by have := hz7 (by omega); omega), fun qg5 qm6 => ⟨hWb, (show K none (zsR (zcpy (zNw M 21 (zshl (nc9 c n) 0).toNat) (vu M b) (zN M) 0 0 c) b 0 (some (zN M))) from ?g314l2)⟩⟩⟩)⟩⟩⟩⟩⟩⟩)⟩)⟩⟩
  case g314l1 =>
    have e9 : c = d := by omega
    subst e9
    exact hK M hS FX.rf (fun _ => rfl)
  case g314l2 =>
    have e9 : (zshl (nc9 c n) 0).toNat = d := by have := hz7 (by omega); omega
    rw [e9]
    have h9 := hS.grow (n := d) (by omega) (by omega)
    exact hK _ h9.1 h9.2 (fun z => absurd z (by omega))
theorem M_J5_ensureCapacityInternal_d00df {l : Launch} (hl : l.stackTraces = false) (ca cb : Nat) : zMet l yJ5_ensureCapacityInternal_d00df (Cond.code yJ5_ensureCapacityInternal_d00df cJ5_ensureCapacityInternal_d00df 3 (Option.none : Option Jvm.ClassFile.FieldType) :: zG) (rm_J5_ensureCapacityInternal_d00df ca cb) ca cb (T_J5_ensureCapacityInternal_d00df ca cb) := met_J5_ensureCapacityInternal_d00df hl (M_J5_newCapacity_0f7a4 hl) (M_J7_copyOf_9075b hl) (bd_J5_ensureCapacityInternal_d00df ca cb)
def T_J5_append_3fe6f (ca cb : Nat) : ZTf := fun av M K KX => ∃ (b c d : Nat) (o : List Int) (x : Int), av = [zo b, zi x] ∧ (SB M b c o) ∧ (o.length < 1000 ∧ 0 ≤ x ∧ x < 128) ∧ (ncap c (o.length + 1) = d) ∧ (d ≤ c + ca ∧ 2 * d ≤ 2 * c + cb) ∧  (∀ M' : ZM, (SB M' b d (o ++ [x])) → (FX b M M') → (c = d → vu M' b = vu M b) → K (some (zo (b))) M')
set_option maxRecDepth 100000 in
set_option maxHeartbeats 1500000 in
theorem bd_J5_append_3fe6f (ca cb : Nat) : zBd (cd_J5_append_3fe6f T_J5_ensureCapacityInternal_d00df T_J5_isLatin1_aae02 T_J1_canEncode_fc78d) 2 ca cb (T_J5_append_3fe6f ca cb) := by
  rintro av M K KX hA0 hM ⟨b, c, d, o, x, rfl, hS, hn, hc, hab, hK⟩
  have hS0 := hS
  obtain ⟨hsb1, hsb2, hsb3, ⟨hsb4, hsb5⟩, hsb6, hsb7⟩ := id hS
  have hzc : zshr (c : Int) 0 = (c : Int) := zshr_0 (by omega)
  have hg := ncap_g hc
  refine ⟨rfl, fun Φ hΦ => ?_⟩
  refine zGoR hΦ [] 400 (fun hL9 _ hM _ _ => ?_)
  obtain ⟨qL1, _⟩ : zrg x ∧ True := hL9
  refine ⟨hS.w, zIr (hS.ct) (⟨(zrgI (x := (o.length : Int) + 1) (by omega)), ⟨ca, cb, ⟨(by omega), (by omega)⟩, ⟨⟨rfl, rfl⟩, hS.w.rcv⟩, ⟨b, c, d, o, ((o.length : Int) + 1), rfl, hS, (by omega), (by rw [show ((o.length : Int) + 1).toNat = o.length + 1 by omega]; exact hc), hab, fun M1 hS1 hx1 hvu1 => (fun qg1 qm2 => ⟨⟨⟨rfl, rfl⟩, hS1.w.rcv⟩, ⟨rfl, ⟨fun (h : (1 : Int) = 0) => absurd h (by decide), fun _ => ⟨hS1.w, zIr (hS1.cd) (⟨fun (h : (0 : Int) ≠ 0) => absurd h (by decide), fun _ => ⟨(Or.inr rfl), fun _ _ => ⟨fun (h : (1 : Int) = 0) => absurd h (by decide), fun _ => ⟨⟨⟨rfl, rfl⟩, trivial⟩, ⟨rfl, ⟨fun (qc4 : x > 255) => ⟨(Or.inl rfl), fun _ _ => ⟨fun _ => ?g315l1, fun (h : (0 : Int) ≠ 0) => absurd h (by decide)⟩⟩, fun (qc6 : x ≤ 255) => ⟨(Or.inr rfl), fun _ _ => ⟨fun (h : (1 : Int) = 0) => absurd h (by decide), fun _ => ⟨hS1.w, _, hS1.r0, ⟨rfl, ⟨hS1.w, zIr (hS1.ct) (⟨⟨rfl, rfl⟩, ⟨(zrgI (x := (o.length : Int) + 1) (by omega)), ⟨⟨hS1.w, trivial⟩, ⟨⟨zixW hS1.a hS1.l (i := (o.length : Int)) (by omega) (by omega), (zi2b_r _)⟩, (show K (some (zo b)) (zsI (zsI M1 b 3 ((o.length : Int) + 1)) (vu M1 b) (o.length : Int).toNat (zi2b x)) from ?g315l2)⟩⟩⟩⟩)⟩⟩⟩⟩⟩⟩⟩⟩⟩⟩⟩)⟩⟩⟩⟩)⟩⟩⟩)⟩
  case g315l1 => exfalso; omega
  case g315l2 =>
    exact hK _ (hS1.put (by omega) hn.2) ((hx1.tr (FX_I (Or.inl rfl))).tr (FX_I (Or.inr rfl))) (fun z => hvu1 z)
theorem M_J5_append_3fe6f {l : Launch} (hl : l.stackTraces = false) (ca cb : Nat) : zMet l yJ5_append_3fe6f (Cond.code yJ5_append_3fe6f cJ5_append_3fe6f 2 (Option.some (Jvm.ClassFile.FieldType.object "java/lang/AbstractStringBuilder")) :: zG) (rm_J5_append_3fe6f ca cb) ca cb (T_J5_append_3fe6f ca cb) := met_J5_append_3fe6f hl (M_J5_ensureCapacityInternal_d00df hl) (M_J5_isLatin1_aae02 hl) (M_J1_canEncode_fc78d hl) (bd_J5_append_3fe6f ca cb)
def T_J4_append_cf468 (ca cb : Nat) : ZTf := fun av M K KX => ∃ (b c d : Nat) (o : List Int) (x : Int), av = [zo b, zi x] ∧ (SB M b c o) ∧ (o.length < 1000 ∧ 0 ≤ x ∧ x < 128) ∧ (ncap c (o.length + 1) = d) ∧ (d ≤ c + ca ∧ 2 * d ≤ 2 * c + cb) ∧  (∀ M' : ZM, (SB M' b d (o ++ [x])) → (FX b M M') → (c = d → vu M' b = vu M b) → K (some (zo (b))) M')
set_option maxRecDepth 100000 in
set_option maxHeartbeats 1500000 in
theorem bd_J4_append_cf468 (ca cb : Nat) : zBd (cd_J4_append_cf468 T_J5_append_3fe6f) 2 ca cb (T_J4_append_cf468 ca cb) := by
  rintro av M K KX hA0 hM ⟨b, c, d, o, x, rfl, hS, hn, hc, hab, hK⟩
  refine ⟨rfl, fun Φ hΦ => ?_⟩
  refine zGoR hΦ [] 400 (fun hL9 _ hM _ _ => ?_)
  obtain ⟨qL1, _⟩ : zrg x ∧ True := hL9
  refine ⟨ca, cb, ⟨(by omega), (by omega)⟩, ⟨⟨rfl, rfl⟩, hS.w.rcv⟩, ⟨b, c, d, o, x, rfl, hS, hn, hc, hab, fun M1 hS1 hx1 hvu1 => (fun qg1 qm2 => ⟨rfl, (show K (some (zo b)) M1 from ?g316l1)⟩)⟩⟩
  case g316l1 => exact hK _ hS1 hx1 hvu1
theorem M_J4_append_cf468 {l : Launch} (hl : l.stackTraces = false) (ca cb : Nat) : zMet l yJ4_append_cf468 (Cond.code yJ4_append_cf468 cJ4_append_cf468 2 (Option.some (Jvm.ClassFile.FieldType.object "java/lang/StringBuilder")) :: zG) (rm_J4_append_cf468 ca cb) ca cb (T_J4_append_cf468 ca cb) := met_J4_append_cf468 hl (M_J5_append_3fe6f hl) (bd_J4_append_cf468 ca cb)
def T_J5_setLength_d00df (ca cb : Nat) : ZTf := fun av M K KX => ∃ (b c : Nat) (o : List Int), av = [zo b, zi 0] ∧ (SB M b c o) ∧  (∀ M' : ZM, (SB M' b c []) → (FX b M M') → (vu M' b = vu M b) → K none M')
set_option maxRecDepth 100000 in
set_option maxHeartbeats 1500000 in
theorem bd_J5_setLength_d00df (ca cb : Nat) : zBd (cd_J5_setLength_d00df T_J5_ensureCapacityInternal_d00df) 2 ca cb (T_J5_setLength_d00df ca cb) := by
  rintro av M K KX hA0 hM ⟨b, c, o, rfl, hS, hK⟩
  have hS0 := hS
  obtain ⟨hsb1, hsb2, hsb3, ⟨hsb4, hsb5⟩, hsb6, hsb7⟩ := id hS
  have hzc : zshr (c : Int) 0 = (c : Int) := zshr_0 (by omega)
  have hg : ncap c (0 : Int).toNat = c := by unfold ncap; exact if_pos (Nat.zero_le _)
  refine ⟨rfl, fun Φ hΦ => ?_⟩
  refine zGoR hΦ [] 400 (fun hL9 _ hM _ _ => ?_)
  obtain ⟨qL1, _⟩ : zrg 0 ∧ True := hL9
  refine ⟨fun _ => ⟨0, 0, ⟨(Nat.zero_le _), (Nat.zero_le _)⟩, ⟨⟨rfl, rfl⟩, hS.w.rcv⟩, ⟨b, c, c, o, 0, rfl, hS, (by decide), hg, (by omega), fun M1 hS1 hx1 hvu1 => (fun qg1 qm2 => ⟨hS1.w, zIr (hS1.ct) (⟨fun (qc3 : (o.length : Int) ≥ 0) => ⟨hS1.w, zIr (hS1.ct) (⟨fun (qc4 : (o.length : Int) ≤ 0) => ⟨⟨hS1.w, trivial⟩, (show K none (zsI M1 b 3 0) from ?g317l1)⟩, fun (qc5 : (o.length : Int) > 0) => ⟨⟨hS1.w, (Or.inr rfl)⟩, ⟨⟨hS1.w, trivial⟩, (show K none (zsI (zsI M1 b 2 1) b 3 0) from ?g317l2)⟩⟩⟩)⟩, fun (qc6 : (o.length : Int) < 0) => ?g317l3⟩)⟩)⟩⟩, fun (h : (0 : Int) < 0) => absurd h (by decide)⟩
  case g317l1 =>
    exact hK _ hS1.cut (hx1.tr (FX_I (Or.inl rfl))) (hvu1 rfl)
  case g317l2 =>
    exact hK _ (hS1.i (by decide)).cut ((hx1.tr (FX_I (Or.inl rfl))).tr (FX_I (Or.inl rfl))) (hvu1 rfl)
  case g317l3 => exfalso; omega
theorem M_J5_setLength_d00df {l : Launch} (hl : l.stackTraces = false) (ca cb : Nat) : zMet l yJ5_setLength_d00df (Cond.code yJ5_setLength_d00df cJ5_setLength_d00df 2 (Option.none : Option Jvm.ClassFile.FieldType) :: zG) (rm_J5_setLength_d00df ca cb) ca cb (T_J5_setLength_d00df ca cb) := met_J5_setLength_d00df hl (M_J5_ensureCapacityInternal_d00df hl) (bd_J5_setLength_d00df ca cb)
def T_J4_setLength_d00df (ca cb : Nat) : ZTf := fun av M K KX => ∃ (b c : Nat) (o : List Int), av = [zo b, zi 0] ∧ (SB M b c o) ∧  (∀ M' : ZM, (SB M' b c []) → (FX b M M') → (vu M' b = vu M b) → K none M')
set_option maxRecDepth 100000 in
set_option maxHeartbeats 1500000 in
theorem bd_J4_setLength_d00df (ca cb : Nat) : zBd (cd_J4_setLength_d00df T_J5_setLength_d00df) 2 ca cb (T_J4_setLength_d00df ca cb) := by
  rintro av M K KX hA0 hM ⟨b, c, o, rfl, hS, hK⟩
  refine ⟨rfl, fun Φ hΦ => ?_⟩
  refine zGoR hΦ [] 400 (fun hL9 _ hM _ _ => ?_)
  obtain ⟨qL1, _⟩ : zrg 0 ∧ True := hL9
  refine ⟨0, 0, ⟨(Nat.zero_le _), (Nat.zero_le _)⟩, ⟨⟨rfl, rfl⟩, hS.w.rcv⟩, ⟨b, c, o, rfl, hS, fun M1 hS1 hx1 hvu1 => (fun qg1 qm2 => (show K none M1 from ?g318l1))⟩⟩
  case g318l1 => exact hK _ hS1 hx1 hvu1
theorem M_J4_setLength_d00df {l : Launch} (hl : l.stackTraces = false) (ca cb : Nat) : zMet l yJ4_setLength_d00df (Cond.code yJ4_setLength_d00df cJ4_setLength_d00df 2 (Option.none : Option Jvm.ClassFile.FieldType) :: zG) (rm_J4_setLength_d00df ca cb) ca cb (T_J4_setLength_d00df ca cb) := met_J4_setLength_d00df hl (M_J5_setLength_d00df hl) (bd_J4_setLength_d00df ca cb)
def T_J4_length_8abf5 : ZTf := fun av M K KX => ∃ (b c : Nat) (o : List Int), av = [zo b] ∧ (SB M b c o) ∧  K (some (zi ((o.length : Int)))) M
set_option maxRecDepth 100000 in
set_option maxHeartbeats 1500000 in
theorem bd_J4_length_8abf5 : zBd (cd_J4_length_8abf5 T_J5_length_8abf5) 1 0 0 T_J4_length_8abf5 := by
  rintro av M K KX hA0 hM ⟨b, c, o, rfl, hS, hK⟩
  refine ⟨rfl, fun Φ hΦ => ?_⟩
  refine zGoR hΦ [] 400 (fun hL9 _ hM _ _ => ?_)
  obtain ⟨_⟩ : True := hL9
  refine ⟨⟨(by decide), (by decide)⟩, ⟨⟨rfl, rfl⟩, hS.w.rcv⟩, ⟨rfl, ⟨hS.w, zIr (hS.ct) (⟨trivial, fun (qg1 : zrg ((o.length : Int))) _ => ⟨trivial, (show K (some (zi (o.length : Int))) M from ?g319l1)⟩⟩)⟩⟩⟩
  case g319l1 => exact hK
theorem M_J4_length_8abf5 {l : Launch} (hl : l.stackTraces = false) : zMet l yJ4_length_8abf5 (Cond.code yJ4_length_8abf5 cJ4_length_8abf5 1 (Option.some Jvm.ClassFile.FieldType.int) :: zG) rm_J4_length_8abf5 0 0 T_J4_length_8abf5 := met_J4_length_8abf5 hl (M_J5_length_8abf5 hl) bd_J4_length_8abf5
