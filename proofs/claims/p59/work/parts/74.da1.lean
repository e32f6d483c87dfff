theorem zPb_i {x : Int} (h : zPb x) : -128 ≤ x ∧ x < 128 := h
theorem zcpn0 (M : ZM) (a b sp dp n : Nat) {x : Nat} (h : x ≠ b) : zI (zcpy M a b sp dp n) x = zI M x := zcpn M a b sp dp n h
def ncap (c n : Nat) : Nat := if n ≤ c then c else if n ≤ 2 * c + 2 then 2 * c + 2 else n
theorem ncap_g {c n d : Nat} (h : ncap c n = d) : c ≤ d ∧ n ≤ d ∧ (d = c ∨ (c < n ∧ 2 * c + 2 ≤ d ∧ (d ≤ 2 * c + 2 ∨ d ≤ n))) := by
  unfold ncap at h
  split at h
  · omega
  · split at h <;> omega
/-- the array of a builder -/
def vu (M : ZM) (b : Nat) : Nat := (zR M b 0).getD 0
def SB (M : ZM) (b c : Nat) (o : List Int) : Prop := zW M b 1 ∧ (zR M b 0 = some (vu M b) ∧ zW M (vu M b) 21 ∧ zLn M (vu M b) = c) ∧ (zI M b 1 = 0 ∧ zI M b 3 = (o.length : Int)) ∧ (o.length ≤ c ∧ c ≤ 2000) ∧ (∀ k : Nat, zPb (zI M (vu M b) k)) ∧ ∀ k : Nat, k < o.length → zI M (vu M b) k = o.getD k 0
theorem SB.w {M : ZM} {b c : Nat} {o : List Int} (h : SB M b c o) : zW M b 1 := h.1
theorem SB.r0 {M : ZM} {b c : Nat} {o : List Int} (h : SB M b c o) : zR M b 0 = some (vu M b) := h.2.1.1
theorem SB.a {M : ZM} {b c : Nat} {o : List Int} (h : SB M b c o) : zW M (vu M b) 21 := h.2.1.2.1
theorem SB.l {M : ZM} {b c : Nat} {o : List Int} (h : SB M b c o) : zLn M (vu M b) = c := h.2.1.2.2
theorem SB.cd {M : ZM} {b c : Nat} {o : List Int} (h : SB M b c o) : zI M b 1 = 0 := h.2.2.1.1
theorem SB.ct {M : ZM} {b c : Nat} {o : List Int} (h : SB M b c o) : zI M b 3 = (o.length : Int) := h.2.2.1.2
theorem SB.bu {M : ZM} {b c : Nat} {o : List Int} (h : SB M b c o) : b ≠ vu M b := fun e => by
  have h1 := h.w.1
  have h2 := h.a.1
  rw [← e, h1] at h2
  exact absurd h2 (by decide)
theorem vu_I (M : ZM) (b j k : Nat) (v : Int) : vu (zsI M j k v) b = vu M b := rfl
theorem vu_cp (M : ZM) (b i j p q n : Nat) : vu (zcpy M i j p q n) b = vu M b := rfl
/-- what a change of a builder leaves -/
def FX (b : Nat) (M M' : ZM) : Prop := zN M ≤ zN M' ∧ (vu M' b = vu M b ∨ zN M ≤ vu M' b) ∧ ∀ j, j < zN M → zK M' j = zK M j ∧ zLn M' j = zLn M j ∧ (j ≠ b → zR M' j = zR M j) ∧ (j ≠ b → j ≠ vu M b → zI M' j = zI M j)
theorem FX.rf {b : Nat} {M : ZM} : FX b M M := ⟨Nat.le_refl _, Or.inl rfl, fun _ _ => ⟨rfl, rfl, fun _ => rfl, fun _ _ => rfl⟩⟩
theorem FX.tr {b : Nat} {M M' M2 : ZM} (h : FX b M M') (h2 : FX b M' M2) : FX b M M2 := by
  obtain ⟨a1, a2, a3⟩ := h
  obtain ⟨b1, b2, b3⟩ := h2
  refine ⟨Nat.le_trans a1 b1, ?_, fun j hj => ?_⟩
  · rcases b2 with q | q
    · rw [q]; exact a2
    · exact Or.inr (Nat.le_trans a1 q)
  · obtain ⟨x1, x2, x3, x4⟩ := a3 j hj
    obtain ⟨y1, y2, y3, y4⟩ := b3 j (Nat.lt_of_lt_of_le hj a1)
    refine ⟨y1.trans x1, y2.trans x2, fun q => (y3 q).trans (x3 q), fun q z => (y4 q ?_).trans (x4 q z)⟩
    rcases a2 with e | e
    · rw [e]; exact z
    · omega
theorem FX_I {b : Nat} {M : ZM} {j k : Nat} {v : Int} (h : j = b ∨ j = vu M b) : FX b M (zsI M j k v) := by
  refine ⟨Nat.le_refl _, Or.inl rfl, fun x _ => ⟨rfl, rfl, fun _ => rfl, fun q z => zI_In _ _ _ (fun e => ?_)⟩⟩
  rcases h with u | u
  · exact q (e.trans u)
  · exact z (e.trans u)
theorem SB.i {M : ZM} {b c : Nat} {o : List Int} (h : SB M b c o) {k : Nat} {v : Int} (hk : k ≠ 1 ∧ k ≠ 3) : SB (zsI M b k v) b c o := by
  obtain ⟨h1, h2, h3, h4, h5, h6⟩ := id h
  have e : zI (zsI M b k v) (vu M b) = zI M (vu M b) := zI_In _ _ _ (Ne.symm h.bu)
  refine ⟨h1, h2, ⟨(zI_Im _ _ _ (Ne.symm hk.1)).trans h3.1, (zI_Im _ _ _ (Ne.symm hk.2)).trans h3.2⟩, h4, ?_, ?_⟩
  · rw [vu_I, e]; exact h5
  · rw [vu_I, e]; exact h6
theorem SB.cut {M : ZM} {b c : Nat} {o : List Int} (h : SB M b c o) : SB (zsI M b 3 0) b c [] := by
  obtain ⟨h1, h2, h3, h4, h5, h6⟩ := id h
  have e : zI (zsI M b 3 0) (vu M b) = zI M (vu M b) := zI_In _ _ _ (Ne.symm h.bu)
  refine ⟨h1, h2, ⟨(zI_Im _ _ _ (by decide)).trans h3.1, zI_Is _ _ _ _⟩, ⟨Nat.zero_le _, h4.2⟩, ?_, fun k hk => absurd hk (Nat.not_lt_zero _)⟩
  rw [vu_I, e]; exact h5
theorem SB.put {M : ZM} {b c : Nat} {o : List Int} {x : Int} (h : SB M b c o) (hc : o.length + 1 ≤ c) (hx : 0 ≤ x ∧ x < 128) : SB (zsI (zsI M b 3 ((o.length : Int) + 1)) (vu M b) (o.length : Int).toNat (zi2b x)) b c (o ++ [x]) := by
  obtain ⟨h1, h2, h3, h4, h5, h6⟩ := id h
  have e0 : zI (zsI (zsI M b 3 ((o.length : Int) + 1)) (vu M b) (o.length : Int).toNat (zi2b x)) b = zI (zsI M b 3 ((o.length : Int) + 1)) b := zI_In _ _ _ h.bu
  have e1 : zI (zsI M b 3 ((o.length : Int) + 1)) (vu M b) = zI M (vu M b) := zI_In _ _ _ (Ne.symm h.bu)
  refine ⟨h1, h2, ⟨?_, ?_⟩, ⟨?_, h4.2⟩, fun k => ?_, fun k hk => ?_⟩
  · rw [e0, zI_Im _ _ _ (by decide)]; exact h3.1
  · rw [e0, zI_Is, List.length_append, List.length_singleton]; omega
  · rw [List.length_append, List.length_singleton]; exact hc
  · rw [vu_I, vu_I]
    by_cases q : k = (o.length : Int).toNat
    · rw [q, zI_Is]; exact zi2b_r x
    · rw [zI_Im _ _ _ q, e1]; exact h5 k
  · rw [vu_I, vu_I]
    rw [List.length_append, List.length_singleton] at hk
    by_cases q : k = (o.length : Int).toNat
    · rw [q, zI_Is, zi2b_id hx]
      rw [show (o.length : Int).toNat = o.length by omega, List.getD_eq_getElem?_getD, List.getElem?_append_right (Nat.le_refl _), Nat.sub_self]
      rfl
    · rw [zI_Im _ _ _ q, e1, h6 k (by omega), List.getD_eq_getElem?_getD, List.getD_eq_getElem?_getD, List.getElem?_append_left (by omega)]
theorem SB.grow {M : ZM} {b c n : Nat} {o : List Int} (h : SB M b c o) (hc : c ≤ n) (hn : n ≤ 2000) : SB (zsR (zcpy (zNw M 21 n) (vu M b) (zN M) 0 0 c) b 0 (some (zN M))) b n o ∧ FX b M (zsR (zcpy (zNw M 21 n) (vu M b) (zN M) 0 0 c) b 0 (some (zN M))) := by
  obtain ⟨h1, h2, h3, h4, h5, h6⟩ := id h
  have hb := h1.2.2
  have hu := h2.2.1.2.2
  have e1 : vu (zsR (zcpy (zNw M 21 n) (vu M b) (zN M) 0 0 c) b 0 (some (zN M))) b = zN M := by
    unfold vu
    rw [show zR (zsR (zcpy (zNw M 21 n) ((zR M b 0).getD 0) (zN M) 0 0 c) b 0 (some (zN M))) b 0 = some (zN M) from up2_s _ _ _ _]
    rfl
  have hi : ∀ x, x < zN M → zI (zsR (zcpy (zNw M 21 n) (vu M b) (zN M) 0 0 c) b 0 (some (zN M))) x = zI M x := fun x hx => by
    show zI (zcpy (zNw M 21 n) (vu M b) (zN M) 0 0 c) x = zI M x
    rw [zcpn _ _ _ _ _ _ (Nat.ne_of_lt hx)]
    exact up1_n _ _ _ (Nat.ne_of_lt hx)
  have hk9 : ∀ x, x < zN M → zK (zNw M 21 n) x = zK M x := fun x hx => up1_n _ _ _ (Nat.ne_of_lt hx)
  have hl9 : ∀ x, x < zN M → zLn (zNw M 21 n) x = zLn M x := fun x hx => up1_n _ _ _ (Nat.ne_of_lt hx)
  have hnew : ∀ k : Nat, zI (zcpy (zNw M 21 n) (vu M b) (zN M) 0 0 c) (zN M) k = if k < c then zI M (vu M b) k else 0 := fun k => by
    by_cases q : k < c
    · rw [if_pos q, zcpi _ _ _ q]
      exact congrFun (up1_n _ _ _ (Nat.ne_of_lt hu)) k
    · rw [if_neg q]
      show (if zN M = zN M ∧ 0 ≤ k ∧ k < 0 + c then _ else zI (zNw M 21 n) (zN M) k) = 0
      rw [if_neg (by omega)]
      exact congrFun (up1_s _ _ _) k
  refine ⟨⟨⟨(hk9 b hb).trans h1.1, h1.2.1, Nat.lt_succ_of_lt hb⟩, ⟨?_, ⟨?_, ?_, ?_⟩, ?_⟩, ⟨?_, ?_⟩, ⟨by omega, hn⟩, fun k => ?_, fun k hk => ?_⟩, Nat.le_succ _, Or.inr (by rw [e1]; exact Nat.le_refl _), fun j hj => ⟨hk9 j hj, hl9 j hj, fun q => ?_, fun _ _ => hi j hj⟩⟩
  · rw [e1]; exact up2_s _ _ _ _
  · rw [e1]; exact up1_s _ _ _
  · rw [e1]; have := h1.2.1; exact Nat.le_trans h1.2.1 (Nat.le_of_lt hb)
  · rw [e1]; exact Nat.lt_succ_self _
  · rw [e1]; exact up1_s _ _ _
  · rw [hi b hb]; exact h3.1
  · rw [hi b hb]; exact h3.2
  · rw [e1]
    show zPb (zI (zcpy (zNw M 21 n) (vu M b) (zN M) 0 0 c) (zN M) k)
    rw [hnew k]
    split
    · exact h5 k
    · exact zPbI (by decide)
  · rw [e1]
    show zI (zcpy (zNw M 21 n) (vu M b) (zN M) 0 0 c) (zN M) k = _
    rw [hnew k, if_pos (by omega)]
    exact h6 k hk
  · have hr : zR (zNw M 21 n) j = zR M j := up1_n _ _ _ (Nat.ne_of_lt hj)
    refine (funext (fun y => ?_)).trans hr
    exact up2_n _ _ _ _ y q
theorem SB.cat {M : ZM} {b c v : Nat} {o l : List Int} (h : SB M b c o) (hc : o.length + l.length ≤ c) (hv : v ≠ vu M b) (hb9 : ∀ k, k < l.length → zI M v k = l.getD k 0) (hpb : ∀ k, k < l.length → zPb (l.getD k 0)) : SB (zsI (zcpy M v (vu M b) 0 (o.length : Int).toNat l.length) b 3 ((o.length : Int) + (l.length : Int))) b c (o ++ l) := by
  obtain ⟨h1, h2, h3, h4, h5, h6⟩ := id h
  have en : (o.length : Int).toNat = o.length := by omega
  rw [en]
  have e1 : zI (zsI (zcpy M v (vu M b) 0 o.length l.length) b 3 ((o.length : Int) + (l.length : Int))) (vu M b) = zI (zcpy M v (vu M b) 0 o.length l.length) (vu M b) := zI_In _ _ _ (Ne.symm h.bu)
  have hk9 : ∀ k, zI (zcpy M v (vu M b) 0 o.length l.length) (vu M b) k = if o.length ≤ k ∧ k < o.length + l.length then l.getD (k - o.length) 0 else zI M (vu M b) k := fun k => by
    show (if vu M b = vu M b ∧ o.length ≤ k ∧ k < o.length + l.length then zI M v (0 + (k - o.length)) else zI M (vu M b) k) = _
    by_cases q : o.length ≤ k ∧ k < o.length + l.length
    · rw [if_pos ⟨rfl, q⟩, if_pos q, Nat.zero_add]
      exact hb9 _ (by omega)
    · rw [if_neg (fun z => q z.2), if_neg q]
  refine ⟨h1, h2, ⟨?_, ?_⟩, ⟨?_, h4.2⟩, fun k => ?_, fun k hk => ?_⟩
  · rw [zI_Im _ _ _ (by decide), zcpn _ _ _ _ _ _ h.bu]; exact h3.1
  · rw [zI_Is, List.length_append]; omega
  · rw [List.length_append]; exact hc
  · rw [vu_I, vu_cp, e1, hk9]
    split
    · exact hpb _ (by omega)
    · exact h5 k
  · rw [vu_I, vu_cp, e1, hk9]
    rw [List.length_append] at hk
    by_cases q : k < o.length
    · rw [if_neg (by omega), h6 k q, List.getD_eq_getElem?_getD, List.getD_eq_getElem?_getD, List.getElem?_append_left q]
    · rw [if_pos (by omega), List.getD_eq_getElem?_getD, List.getD_eq_getElem?_getD, List.getElem?_append_right (by omega)]
theorem FX_cp {b : Nat} {M : ZM} {v p q n : Nat} : FX b M (zcpy M v (vu M b) p q n) := ⟨Nat.le_refl _, Or.inl rfl, fun x _ => ⟨rfl, rfl, fun _ => rfl, fun _ z => zcpn _ _ _ _ _ _ z⟩⟩
def T_J5_length_8abf5 : ZTf := zInl (cd_J5_length_8abf5) 1 0 0 400
theorem M_J5_length_8abf5 {l : Launch} (hl : l.stackTraces = false) : zMet l yJ5_length_8abf5 (Cond.code yJ5_length_8abf5 cJ5_length_8abf5 1 (Option.some Jvm.ClassFile.FieldType.int) :: zG) rm_J5_length_8abf5 0 0 T_J5_length_8abf5 := met_J5_length_8abf5 hl zInl_bd
def T_J5_getValue_6d5f1 : ZTf := zInl (cd_J5_getValue_6d5f1) 1 0 0 400
theorem M_J5_getValue_6d5f1 {l : Launch} (hl : l.stackTraces = false) : zMet l yJ5_getValue_6d5f1 (Cond.code yJ5_getValue_6d5f1 cJ5_getValue_6d5f1 1 (Option.some (Jvm.ClassFile.FieldType.array Jvm.ClassFile.FieldType.byte)) :: zG) rm_J5_getValue_6d5f1 0 0 T_J5_getValue_6d5f1 := met_J5_getValue_6d5f1 hl zInl_bd
def T_J5_isLatin1_aae02 : ZTf := zInl (cd_J5_isLatin1_aae02) 1 0 0 400
theorem M_J5_isLatin1_aae02 {l : Launch} (hl : l.stackTraces = false) : zMet l yJ5_isLatin1_aae02 (Cond.code yJ5_isLatin1_aae02 cJ5_isLatin1_aae02 1 (Option.some Jvm.ClassFile.FieldType.boolean) :: zG) rm_J5_isLatin1_aae02 0 0 T_J5_isLatin1_aae02 := met_J5_isLatin1_aae02 hl zInl_bd
def T_J1_canEncode_fc78d : ZTf := zInl (cd_J1_canEncode_fc78d) 1 0 0 400
theorem M_J1_canEncode_fc78d {l : Launch} (hl : l.stackTraces = false) : zMet l yJ1_canEncode_fc78d (Cond.code yJ1_canEncode_fc78d cJ1_canEncode_fc78d 1 (Option.some Jvm.ClassFile.FieldType.boolean) :: zG) rm_J1_canEncode_fc78d 0 0 T_J1_canEncode_fc78d := met_J1_canEncode_fc78d hl zInl_bd
def T_J8_newLength_cabcc : ZTf := zInl (cd_J8_newLength_cabcc) 4 0 0 400
theorem M_J8_newLength_cabcc {l : Launch} (hl : l.stackTraces = false) : zMet l yJ8_newLength_cabcc (Cond.code yJ8_newLength_cabcc cJ8_newLength_cabcc 4 (Option.some Jvm.ClassFile.FieldType.int) :: zG) rm_J8_newLength_cabcc 0 0 T_J8_newLength_cabcc := met_J8_newLength_cabcc hl zInl_bd
def T_J5_inflateIfNeededFor_a7421 : ZTf := zInl (cd_J5_inflateIfNeededFor_a7421 T_J0_coder_7d493) 2 0 0 400
theorem M_J5_inflateIfNeededFor_a7421 {l : Launch} (hl : l.stackTraces = false) : zMet l yJ5_inflateIfNeededFor_a7421 (Cond.code yJ5_inflateIfNeededFor_a7421 cJ5_inflateIfNeededFor_a7421 2 (Option.none : Option Jvm.ClassFile.FieldType) :: zG) rm_J5_inflateIfNeededFor_a7421 0 0 T_J5_inflateIfNeededFor_a7421 := met_J5_inflateIfNeededFor_a7421 hl (M_J0_coder_7d493 hl) zInl_bd
theorem zmaxc (x y : Int) : (zmax x y = x ∧ y ≤ x) ∨ (zmax x y = y ∧ x ≤ y) := by
  unfold zmax
  split
  · exact Or.inr ⟨rfl, by omega⟩
  · exact Or.inl ⟨rfl, by omega⟩
theorem zminc (x y : Int) : (zmin x y = x ∧ x ≤ y) ∨ (zmin x y = y ∧ y ≤ x) := by
  unfold zmin
  split
  · exact Or.inr ⟨rfl, by omega⟩
  · exact Or.inl ⟨rfl, by omega⟩
def nc9 (c : Nat) (n : Int) : Int := if n ≤ 2 * (c : Int) + 2 then 2 * (c : Int) + 2 else n
theorem nc9_e {c d : Nat} {n : Int} (h : ncap c n.toNat = d) (hn : (c : Int) < n) : nc9 c n = (d : Int) := by
  unfold ncap at h
  unfold nc9
  rw [if_neg (by omega)] at h
  split at h <;> split <;> omega
theorem zshl_0 {x : Int} (h : 0 ≤ x ∧ x < 2147483648) : zshl x 0 = x := by
  unfold zshl
  have h1 : Int32.ofInt x <<< (Int32.ofInt 0 &&& 31) = Int32.ofInt x := by
    rw [show (Int32.ofInt 0 &&& 31) = (0 : Int32) from by decide]
    exact Int32.shiftLeft_zero
  rw [h1, Int32.toInt_ofInt]
  have hs : (Int32.size : Int) = 4294967296 := rfl
  exact Int.bmod_eq_of_le (by omega) (by omega)
def T_J5_newCapacity_0f7a4 : ZTf := fun av M K KX => ∃ (b c : Nat) (o : List Int) (n : Int), av = [zo b, zi n] ∧ (SB M b c o) ∧ ((c : Int) < n ∧ n ≤ 1000) ∧  K (some (zi (nc9 c n))) M
set_option maxRecDepth 100000 in
set_option maxHeartbeats 1500000 in
theorem bd_J5_newCapacity_0f7a4 : zBd (cd_J5_newCapacity_0f7a4 T_J8_newLength_cabcc) 6 0 0 T_J5_newCapacity_0f7a4 := by
  rintro av M K KX hA0 hM ⟨b, c, o, n, rfl, hS, hn, hK⟩
  have hS0 := hS
  obtain ⟨hsb1, hsb2, hsb3, ⟨hsb4, hsb5⟩, hsb6, hsb7⟩ := id hS
  have hzc : zshr (c : Int) 0 = (c : Int) := zshr_0 (by omega)
  have hz2 : zshl n 0 = n := zshl_0 (by omega)
  have hz3 : zshl 2 0 = 2 := by decide
  have hz4 : ∀ x : Int, 0 ≤ x ∧ x < 2147483648 → zshr x 0 = x := fun x h => zshr_0 h
  have hmx := zmaxc (zshl n 0 - (c : Int)) ((c : Int) + zshl 2 0)
  refine ⟨rfl, fun Φ hΦ => ?_⟩
  refine zGoR hΦ [] 400 (fun hL9 _ hM _ _ => ?_)
  obtain ⟨qL1, _⟩ : zrg n ∧ True := hL9
  refine ⟨hS.w, _, hS.r0, ⟨(zlenW hS.a (by decide)), zIr (congrArg (fun n : Nat => (n : Int)) hS.l) (⟨hS.w, zIr (hS.cd) (⟨(zrgI (x := zshl n 0 - (c : Int)) (by omega)), ⟨hS.w, zIr (hS.cd) (⟨(zrgI (x := (c : Int) + zshl 2 0) (by omega)), ⟨⟨⟨rfl, rfl⟩, trivial⟩, ⟨rfl, ⟨rfl, ⟨(zrgI (x := (c : Int) + (zmax (zshl n 0 - (c : Int)) ((c : Int) + zshl 2 0))) (by omega)), ⟨fun (qc1 : 0 ≥ (c : Int) + (zmax (zshl n 0 - (c : Int)) ((c : Int) + zshl 2 0))) => ?g312l1, fun (qc2 : 0 < (c : Int) + (zmax (zshl n 0 - (c : Int)) ((c : Int) + zshl 2 0))) => ⟨fun (qc3 : (c : Int) + (zmax (zshl n 0 - (c : Int)) ((c : Int) + zshl 2 0)) > 2147483639) => ?g312l2, fun (qc4 : (c : Int) + (zmax (zshl n 0 - (c : Int)) ((c : Int) + zshl 2 0)) ≤ 2147483639) => ⟨trivial, fun (qg5 : zrg ((c : Int) + (zmax (zshl n 0 - (c : Int)) ((c : Int) + zshl 2 0)))) _ => ⟨fun (qc6 : (c : Int) + (zmax (zshl n 0 - (c : Int)) ((c : Int) + zshl 2 0)) ≠ 2147483647) => ⟨hS.w, zIr (hS.cd) (⟨trivial, (show K (some (zi (zshr ((c : Int) + (zmax (zshl n 0 - (c : Int)) ((c : Int) + zshl 2 0))) 0))) M from ?g312l3)⟩)⟩, fun (qc7 : (c : Int) + (zmax (zshl n 0 - (c : Int)) ((c : Int) + zshl 2 0)) = 2147483647) => ?g312l4⟩⟩⟩⟩⟩⟩⟩⟩⟩)⟩⟩)⟩)⟩⟩
  case g312l1 =>
    first
    | (exfalso; omega)
    | skip
      refine zKi hK ?_
      rw [hz4 _ (by omega)]
      unfold nc9
      split <;> omega
  case g312l2 =>
    first
    | (exfalso; omega)
    | skip
      refine zKi hK ?_
      rw [hz4 _ (by omega)]
      unfold nc9
      split <;> omega
  case g312l3 =>
    first
    | (exfalso; omega)
    | skip
      refine zKi hK ?_
      rw [hz4 _ (by omega)]
      unfold nc9
      split <;> omega
  case g312l4 =>
    first
    | (exfalso; omega)
    | skip
      refine zKi hK ?_
      rw [hz4 _ (by omega)]
      unfold nc9
      split <;> omega
theorem M_J5_newCapacity_0f7a4 {l : Launch} (hl : l.stackTraces = false) : zMet l yJ5_newCapacity_0f7a4 (Cond.code yJ5_newCapacity_0f7a4 cJ5_newCapacity_0f7a4 6 (Option.some Jvm.ClassFile.FieldType.int) :: zG) rm_J5_newCapacity_0f7a4 0 0 T_J5_newCapacity_0f7a4 := met_J5_newCapacity_0f7a4 hl (M_J8_newLength_cabcc hl) bd_J5_newCapacity_0f7a4
