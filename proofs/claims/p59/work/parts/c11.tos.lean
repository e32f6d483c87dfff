/-! toString for long texts: what is copied -/
theorem cpy_A {M : ZM} {u n : Nat} (hu : u < zN M) : zcpy (zNw M 21 n) u (zN M) 0 0 n = zsA (zNw M 21 n) (zN M) (fun k => if k < n then zI M u k else 0) := by
  have e : zI (zNw M 21 n) u = zI M u := up1_n _ _ _ (Nat.ne_of_lt hu)
  have e0 : zI (zNw M 21 n) (zN M) = (fun _ => 0) := up1_s _ _ _
  have h : (fun x y => if x = zN M ∧ 0 ≤ y ∧ y < 0 + n then zI (zNw M 21 n) u (0 + (y - 0)) else zI (zNw M 21 n) x y) = (fun x y => if x = zN M then (if y < n then zI M u y else 0) else zI (zNw M 21 n) x y) := by
    funext x y
    by_cases hx : x = zN M
    · subst hx
      rw [if_pos rfl]
      by_cases hy : y < n
      · rw [if_pos ⟨rfl, Nat.zero_le _, by omega⟩, if_pos hy, e, Nat.zero_add, Nat.sub_zero]
      · rw [if_neg (fun z => hy (by have := z.2.2; omega)), if_neg hy, e0]
    · rw [if_neg (fun z => hx z.1), if_neg hx]
  show ((zNw M 21 n).1, (zNw M 21 n).2.1, (zNw M 21 n).2.2.1, _, (zNw M 21 n).2.2.2.2) = _
  rw [h]
  rfl
def T_J7_copyOfRangeByte_39247B : ZTf := fun av M K KX => ∃ (u c : Nat) (n : Int), av = [zo u, zi 0, zi n] ∧ (zW M u 21) ∧ (zLn M u = c) ∧ (0 ≤ n ∧ n ≤ 340 ∧ n ≤ (c : Int) ∧ c ≤ 3000) ∧ (∀ k : Nat, zPb (zI M u k)) ∧ (∀ g : Nat → Int, (∀ k : Nat, (k : Int) < n → g k = zI M u k) → K (some (zo (zN M))) (zsA (zNw M 21 n.toNat) (zN M) g))
theorem bd_J7_copyOfRangeByte_39247B : zBd (cd_J7_copyOfRangeByte_39247B T_J7_checkLength_df160) 5 1 340 T_J7_copyOfRangeByte_39247B := by
  rintro av M K KX hA0 hM ⟨u, c, n, rfl, hu, hl, hn, hp, hK⟩
  have hmn := zminc ((c : Int) - 0) (n - 0)
  have h64 : zCC ≤ zN M := Nat.le_trans hu.2.1 (Nat.le_of_lt hu.2.2)
  have en : (n - 0).toNat = n.toNat := by omega
  have hu2 : zW (zNw M 21 (n - 0).toNat) u 21 := ⟨(up1_n _ _ _ (Nat.ne_of_lt hu.2.2)).trans hu.1, hu.2.1, Nat.lt_succ_of_lt hu.2.2⟩
  have hl2 : zLn (zNw M 21 (n - 0).toNat) u = c := (up1_n _ _ _ (Nat.ne_of_lt hu.2.2)).trans hl
  have hw2 : zW (zNw M 21 (n - 0).toNat) (zN M) 21 := ⟨up1_s _ _ _, h64, Nat.lt_succ_self _⟩
  have hn2 : zLn (zNw M 21 (n - 0).toNat) (zN M) = (n - 0).toNat := up1_s _ _ _
  have hp2 : ∀ k : Nat, zPb (zI (zNw M 21 (n - 0).toNat) u k) := fun k => by rw [show zI (zNw M 21 (n - 0).toNat) u = zI M u from up1_n _ _ _ (Nat.ne_of_lt hu.2.2)]; exact hp k
  refine ⟨rfl, fun Φ hΦ => ?_⟩
  refine zGoR hΦ [] 400 (fun hL9 _ hM _ _ => ?_)
  obtain ⟨qL1, qL2, _⟩ : zrg 0 ∧ zrg n ∧ True := hL9
  refine ⟨⟨⟨rfl, rfl⟩, trivial⟩, ⟨rfl, ⟨fun (qc1 : n ≥ 0) => fun _ _ => ⟨(zrgI (x := n - 0) (by omega)), ⟨⟨(by omega), (by omega), (by omega), (by omega)⟩, ⟨(zlenW hu2 (by decide)), zIr (congrArg (fun n : Nat => (n : Int)) hl2) (⟨(zrgI (x := (c : Int) - 0) (by omega)), ⟨rfl, ⟨⟨hu2, hw2, (by omega), ⟨zcpL hl2 (by omega), zcpL hn2 (by omega)⟩, (fun q hq => hp2 _), rfl⟩, (show K (some (zo (zN M))) (zcpy (zNw M 21 (n - 0).toNat) u (zN M) 0 0 (zmin ((c : Int) - 0) (n - 0)).toNat) from ?g422l1)⟩⟩⟩)⟩⟩⟩, fun (qc3 : n < 0) => ?g422l2⟩⟩⟩
  case g422l1 =>
    first
    | (exfalso; omega)
    | skip
      have e9 : (zmin ((c : Int) - 0) (n - 0)).toNat = n.toNat := by omega
      rw [e9, en, cpy_A hu.2.2]
      exact hK _ (fun k hk => if_pos (by omega))
  case g422l2 =>
    first
    | (exfalso; omega)
    | skip
      have e9 : (zmin ((c : Int) - 0) (n - 0)).toNat = n.toNat := by omega
      rw [e9, en, cpy_A hu.2.2]
      exact hK _ (fun k hk => if_pos (by omega))
theorem M_J7_copyOfRangeByte_39247B {l : Launch} (hl : l.stackTraces = false) : zMet l yJ7_copyOfRangeByte_39247 (Cond.code yJ7_copyOfRangeByte_39247 cJ7_copyOfRangeByte_39247 5 (Option.some (Jvm.ClassFile.FieldType.array Jvm.ClassFile.FieldType.byte)) :: zG) rm_J7_copyOfRangeByte_39247B 1 340 T_J7_copyOfRangeByte_39247B := met_J7_copyOfRangeByte_39247B hl (M_J7_checkLength_df160 hl) bd_J7_copyOfRangeByte_39247B
def T_J7_copyOfRange_39247B : ZTf := fun av M K KX => ∃ (u c : Nat) (n : Int), av = [zo u, zi 0, zi n] ∧ (zW M u 21) ∧ (zLn M u = c) ∧ (0 ≤ n ∧ n ≤ 340 ∧ n ≤ (c : Int) ∧ c ≤ 3000) ∧ (∀ k : Nat, zPb (zI M u k)) ∧ (∀ g : Nat → Int, (∀ k : Nat, (k : Int) < n → g k = zI M u k) → K (some (zo (zN M))) (zsA (zNw M 21 n.toNat) (zN M) g))
theorem bd_J7_copyOfRange_39247B : zBd (cd_J7_copyOfRange_39247B T_J7_copyOfRangeByte_39247B) 3 1 340 T_J7_copyOfRange_39247B := by
  rintro av M K KX hA0 hM ⟨u, c, n, rfl, hu, hl, hn, hp, hK⟩
  have hcl : n = (c : Int) → K (some (zo (zN M))) (zsA (zNw M 21 (zLn M u)) (zN M) (zI M u)) := fun e => by
    have z := hK (zI M u) (fun _ _ => rfl)
    rw [show n.toNat = zLn M u by omega] at z
    exact z
  have hwc : zW (zsA (zNw M 21 (zLn M u)) (zN M) (zI M u)) (zN M) 21 := ⟨up1_s _ _ _, Nat.le_trans hu.2.1 (Nat.le_of_lt hu.2.2), Nat.lt_succ_self _⟩
  refine ⟨rfl, fun Φ hΦ => ?_⟩
  refine zGoR hΦ [] 400 (fun hL9 _ hM _ _ => ?_)
  obtain ⟨qL1, qL2, _⟩ : zrg 0 ∧ zrg n ∧ True := hL9
  refine ⟨fun (h : (0 : Int) ≠ 0) => absurd h (by decide), fun _ => ⟨(zlenW hu (by decide)), zIr (congrArg (fun n : Nat => (n : Int)) hl) (⟨fun (qc1 : n = (c : Int)) => ⟨⟨hu, hp, (by decide), (by omega), rfl⟩, ⟨hwc, (hcl qc1)⟩⟩, fun (qc2 : n ≠ (c : Int)) => ⟨⟨(by decide), (by decide)⟩, ⟨⟨rfl, rfl⟩, trivial⟩, ⟨u, c, n, rfl, hu, hl, (by omega), hp, fun g9 hg9 => fun qg3 qm4 => (show K (some (zo (zN M))) (zsA (zNw M 21 n.toNat) (zN M) g9) from hK g9 hg9)⟩⟩⟩)⟩⟩
theorem M_J7_copyOfRange_39247B {l : Launch} (hl : l.stackTraces = false) : zMet l yJ7_copyOfRange_39247 (Cond.code yJ7_copyOfRange_39247 cJ7_copyOfRange_39247 3 (Option.some (Jvm.ClassFile.FieldType.array Jvm.ClassFile.FieldType.byte)) :: zG) rm_J7_copyOfRange_39247B 1 340 T_J7_copyOfRange_39247B := met_J7_copyOfRange_39247B hl (M_J7_copyOfRangeByte_39247B hl) bd_J7_copyOfRange_39247B
theorem zA_n9 (M : ZM) {j x : Nat} (g : Nat → Int) (h : x ≠ j) : zI (zsA M j g) x = zI M x := funext (fun _ => if_neg h)
theorem zA_s9 (M : ZM) (j : Nat) (g : Nat → Int) : zI (zsA M j g) j = g := funext (fun _ => if_pos rfl)
def T_J0_init_db425B : ZTf := fun av M K KX => ∃ (s b c : Nat) (o : List Int), av = [zo s, zo b, zr none] ∧ (zW M s 0) ∧ (SB M b c o) ∧ (o.length ≤ 340) ∧ (∀ g : Nat → Int, (∀ k : Nat, k < o.length → g k = o.getD k 0) → K none (zsR (zsA (zNw (zsI M s 1 0) 21 (o.length : Int).toNat) (zN M) g) s 0 (some (zN M))))
theorem bd_J0_init_db425B : zBd (cd_J0_init_db425B T_J5_getValue_6d5f1 T_J4_length_8abf5 T_J5_isLatin1_aae02 T_J7_copyOfRange_39247B) 5 1 340 T_J0_init_db425B := by
  rintro av M K KX hA0 hM ⟨s, b, c, o, rfl, hs, hS, hl9, hK⟩
  obtain ⟨hsb1, hsb2, hsb3, ⟨hsb4, hsb5⟩, hsb6, hsb7⟩ := id hS
  have hus : vu M b ≠ s := fun e => by have h1 := hs.1; have h2 := hS.a.1; rw [e, h1] at h2; exact absurd h2 (by decide)
  have hbs : b ≠ s := fun e => by have h1 := hs.1; have h2 := hS.w.1; rw [e, h1] at h2; exact absurd h2 (by decide)
  have hp1 : ∀ k : Nat, zPb (zI (zsI M s 1 0) (vu M b) k) := fun k => by rw [zI_In _ _ _ hus]; exact hsb6 k
  have hsw : ∀ g : Nat → Int, zW (zsA (zNw (zsI M s 1 0) 21 (o.length : Int).toNat) (zN M) g) s 0 := fun g => ⟨(up1_n _ _ _ (Nat.ne_of_lt hs.2.2)).trans hs.1, hs.2.1, Nat.lt_succ_of_lt hs.2.2⟩
  refine ⟨rfl, fun Φ hΦ => ?_⟩
  refine zGoR hΦ [] 400 (fun hL9 _ hM _ _ => ?_)
  obtain ⟨_⟩ : True := hL9
  refine ⟨(Nat.le_of_ble_eq_true rfl), ⟨⟨⟨rfl, rfl⟩, hS.w.rcv⟩, ⟨rfl, ⟨hS.w, _, hS.r0, fun _ _ => ⟨⟨(by decide), (by decide)⟩, ⟨⟨rfl, rfl⟩, hS.w.rcv⟩, ⟨b, c, o, rfl, hS, fun (qg2 : zrg ((o.length : Int))) qm3 => ⟨⟨⟨rfl, rfl⟩, hS.w.rcv⟩, ⟨rfl, ⟨fun (h : (1 : Int) = 0) => absurd h (by decide), fun _ => ⟨hS.w, zIr (hS.cd) (⟨fun (h : (0 : Int) ≠ 0) => absurd h (by decide), fun _ => ⟨(Or.inr rfl), fun _ _ => ⟨fun (h : (1 : Int) = 0) => absurd h (by decide), fun _ => ⟨⟨hs, (zPbI (x := 0) (by omega))⟩, ⟨⟨(by decide), (by decide)⟩, ⟨⟨rfl, rfl⟩, trivial⟩, ⟨(vu M b), c, (o.length : Int), rfl, hS.a, hS.l, (by omega), hp1, fun g9 hg9 => fun qg5 qm6 => ⟨hsw g9, (hK g9 (fun k hk => by rw [hg9 k (by omega), zI_In _ _ _ hus]; exact hsb7 k hk))⟩⟩⟩⟩⟩⟩⟩)⟩⟩⟩⟩⟩⟩⟩⟩⟩⟩
theorem M_J0_init_db425B {l : Launch} (hl : l.stackTraces = false) : zMet l yJ0_init_db425 (Cond.code yJ0_init_db425 cJ0_init_db425 5 (Option.none : Option Jvm.ClassFile.FieldType) :: zG) rm_J0_init_db425B 1 340 T_J0_init_db425B := met_J0_init_db425B hl (M_J5_getValue_6d5f1 hl) (M_J4_length_8abf5 hl) (M_J5_isLatin1_aae02 hl) (M_J7_copyOfRange_39247B hl) bd_J0_init_db425B
def T_J0_init_81219B : ZTf := fun av M K KX => ∃ (s b c : Nat) (o : List Int), av = [zo s, zo b] ∧ (zW M s 0) ∧ (SB M b c o) ∧ (o.length ≤ 340) ∧ (∀ g : Nat → Int, (∀ k : Nat, k < o.length → g k = o.getD k 0) → K none (zsR (zsA (zNw (zsI M s 1 0) 21 (o.length : Int).toNat) (zN M) g) s 0 (some (zN M))))
theorem bd_J0_init_81219B : zBd (cd_J0_init_81219B T_J0_init_db425B) 2 1 340 T_J0_init_81219B := by
  rintro av M K KX hA0 hM ⟨s, b, c, o, rfl, hs, hS, hl9, hK⟩
  refine ⟨rfl, fun Φ hΦ => ?_⟩
  refine zGoR hΦ [] 400 (fun hL9 _ hM _ _ => ?_)
  obtain ⟨_⟩ : True := hL9
  refine ⟨⟨(by decide), (by decide)⟩, ⟨⟨rfl, rfl⟩, hs.rcv⟩, ⟨s, b, c, o, rfl, hs, hS, hl9, fun g9 hg9 => fun qg1 qm2 => hK g9 hg9⟩⟩
theorem M_J0_init_81219B {l : Launch} (hl : l.stackTraces = false) : zMet l yJ0_init_81219 (Cond.code yJ0_init_81219 cJ0_init_81219 2 (Option.none : Option Jvm.ClassFile.FieldType) :: zG) rm_J0_init_81219B 1 340 T_J0_init_81219B := met_J0_init_81219B hl (M_J0_init_db425B hl) bd_J0_init_81219B
theorem NS_okB {M : ZM} {o : List Int} {g : Nat → Int} (hg : ∀ k : Nat, k < o.length → g k = o.getD k 0) (hO : OX M) : Fr Sno M (zsR (zsA (zNw (zsI (zNw M 0 0) (zN M) 1 0) 21 (o.length : Int).toNat) (zN M + 1) g) (zN M) 0 (some (zN M + 1))) ∧ zTx (zsR (zsA (zNw (zsI (zNw M 0 0) (zN M) 1 0) 21 (o.length : Int).toNat) (zN M + 1) g) (zN M) 0 (some (zN M + 1))) (zN M) o := by
  have hN := hO.1
  have en : (o.length : Int).toNat = o.length := by omega
  rw [en]
  obtain ⟨F, hF⟩ : ∃ F, zsR (zsA (zNw (zsI (zNw M 0 0) (zN M) 1 0) 21 o.length) (zN M + 1) g) (zN M) 0 (some (zN M + 1)) = F := ⟨_, rfl⟩
  have hI1 : ∀ x, x < zN M → zI F x = zI M x := fun x hx => by
    rw [← hF]
    show zI (zsA (zNw (zsI (zNw M 0 0) (zN M) 1 0) 21 o.length) (zN M + 1) g) x = zI M x
    rw [zA_n9 _ _ (Nat.ne_of_lt (Nat.lt_succ_of_lt hx))]
    refine (up1_n _ _ _ (Nat.ne_of_lt (Nat.lt_succ_of_lt hx))).trans ?_
    refine (zI_In _ _ _ (Nat.ne_of_lt hx)).trans ?_
    exact up1_n _ _ _ (Nat.ne_of_lt hx)
  have hR1 : ∀ x, x < zN M → zR F x = zR M x := fun x hx => by
    rw [← hF]
    refine (funext (fun y => up2_n _ _ _ _ y (Nat.ne_of_lt hx))).trans ?_
    refine (up1_n _ _ _ (Nat.ne_of_lt (Nat.lt_succ_of_lt hx))).trans ?_
    exact up1_n _ _ _ (Nat.ne_of_lt hx)
  have hK1 : ∀ x, x < zN M → zK F x = zK M x ∧ zLn F x = zLn M x := fun x hx => by
    rw [← hF]
    exact ⟨(up1_n _ _ _ (Nat.ne_of_lt (Nat.lt_succ_of_lt hx))).trans (up1_n _ _ _ (Nat.ne_of_lt hx)), (up1_n _ _ _ (Nat.ne_of_lt (Nat.lt_succ_of_lt hx))).trans (up1_n _ _ _ (Nat.ne_of_lt hx))⟩
  have hFN : zN F = zN M + 2 := by rw [← hF]; rfl
  have f0 : Fr Sno M F := F0_mk (by omega) (by omega) (fun j hj => ⟨(hK1 j hj).1, (hK1 j hj).2, hI1 j hj, hR1 j hj⟩)
  rw [hF]
  refine ⟨f0, ⟨?_, by omega⟩, ?_, zN M + 1, ?_, ⟨?_, by omega⟩, ?_, ⟨Or.inr (by omega), ?_⟩, fun k hk => ?_⟩
  · rw [← hF]
    exact (up1_n _ _ _ (Nat.ne_of_lt (Nat.lt_succ_self _))).trans (up1_s _ _ _)
  · rw [← hF]
    show zI (zsA (zNw (zsI (zNw M 0 0) (zN M) 1 0) 21 o.length) (zN M + 1) g) (zN M) 1 = 0
    rw [zA_n9 _ _ (Nat.ne_of_lt (Nat.lt_succ_self _))]
    refine (congrFun (up1_n _ _ _ (Nat.ne_of_lt (Nat.lt_succ_self _))) 1).trans ?_
    exact zI_Is _ _ _ _
  · rw [← hF]
    exact up2_s _ _ _ _
  · rw [← hF]
    exact up1_s _ _ _
  · rw [← hF]
    exact up1_s _ _ _
  · obtain ⟨-, x, hx1, hx2⟩ := hO
    rw [hR1 668 (by omega), hx1]
    intro z
    have := Option.some.inj z
    omega
  · rw [← hF]
    show zI (zsA (zNw (zsI (zNw M 0 0) (zN M) 1 0) 21 o.length) (zN M + 1) g) (zN M + 1) k = o.getD k 0
    rw [zA_s9]
    exact hg k hk
def T_J4_toString_0e30dB : ZTf := fun av M K KX => ∃ (b c : Nat) (o : List Int), av = [zo b] ∧ (SB M b c o) ∧ (o.length ≤ 340) ∧ (OX M) ∧  (∀ M' : ZM, (Fr Sno M M') → (zTx M' (zN M) o) → K (some (zo (zN M))) M')
theorem bd_J4_toString_0e30dB : zBd (cd_J4_toString_0e30dB T_J0_init_81219B) 1 2 344 T_J4_toString_0e30dB := by
  rintro av M K KX hA0 hM ⟨b, c, o, rfl, hS, hl9, hO, hK⟩
  have h64 : zCC ≤ zN M := by have := hO.1; unfold zCC; omega
  have hs0 : zW (zNw M 0 0) (zN M) 0 := ⟨up1_s _ _ _, h64, Nat.lt_succ_self _⟩
  refine ⟨rfl, fun Φ hΦ => ?_⟩
  refine zGoR hΦ [] 400 (fun hL9 _ hM _ _ => ?_)
  obtain ⟨_⟩ : True := hL9
  refine ⟨⟨(by decide), (by decide)⟩, ⟨rfl, ⟨⟨(by decide), (by decide)⟩, ⟨⟨rfl, rfl⟩, hs0.rcv⟩, ⟨(zN M), b, c, o, rfl, hs0, hS.nw, hl9, fun g9 hg9 => fun qg1 qm2 => (have h9 := NS_okB hg9 hO; hK _ h9.1 h9.2)⟩⟩⟩⟩
theorem M_J4_toString_0e30dB {l : Launch} (hl : l.stackTraces = false) : zMet l yJ4_toString_0e30d (Cond.code yJ4_toString_0e30d cJ4_toString_0e30d 1 (Option.some (Jvm.ClassFile.FieldType.object "java/lang/String")) :: zG) rm_J4_toString_0e30dB 2 344 T_J4_toString_0e30dB := met_J4_toString_0e30dB hl (M_J0_init_81219B hl) bd_J4_toString_0e30dB
