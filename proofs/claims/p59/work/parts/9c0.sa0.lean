theorem IV.tk {k : Int} {G : Gm} {w : Int} (h : IV k G) (hk : k + 1 ≤ 1000) (hw : 0 ≤ w ∧ w < G 4) (hn : fNext G w ≠ -1) : IV (k + 1) (F_take G w) := by
  rcases fNext_c (G := G) (w := w) h.2.1.2.2.2.2.2.1 with z | z
  · exact absurd z hn
  · exact h.take hk hw ⟨z.1, z.2.1⟩ z.2.2
def UB (b : Nat) (M M' : ZM) : Prop := zN M ≤ zN M' ∧ ∀ j, j < b → zK M' j = zK M j ∧ zLn M' j = zLn M j ∧ zI M' j = zI M j ∧ zR M' j = zR M j
theorem UB.rf {b : Nat} {M : ZM} : UB b M M := ⟨Nat.le_refl _, fun _ _ => ⟨rfl, rfl, rfl, rfl⟩⟩
theorem UB.tr {b : Nat} {M M1 M2 : ZM} (h : UB b M M1) (h2 : UB b M1 M2) : UB b M M2 := ⟨Nat.le_trans h.1 h2.1, fun j hj => ⟨(h2.2 j hj).1.trans (h.2 j hj).1, (h2.2 j hj).2.1.trans (h.2 j hj).2.1, (h2.2 j hj).2.2.1.trans (h.2 j hj).2.2.1, (h2.2 j hj).2.2.2.trans (h.2 j hj).2.2.2⟩⟩
theorem UB.lo {a b : Nat} {M M1 : ZM} (h : UB b M M1) (hab : a ≤ b) : UB a M M1 := ⟨h.1, fun j hj => h.2 j (Nat.lt_of_lt_of_le hj hab)⟩
theorem UB.i {b j k : Nat} {v : Int} {M : ZM} (h : b ≤ j) : UB b M (zsI M j k v) := ⟨Nat.le_refl _, fun x hx => ⟨rfl, rfl, zI_In M k v (Nat.ne_of_lt (Nat.lt_of_lt_of_le hx h)), rfl⟩⟩
theorem UB.r {b j k : Nat} {v : Option Nat} {M : ZM} (h : b ≤ j) : UB b M (zsR M j k v) := ⟨Nat.le_refl _, fun x hx => ⟨rfl, rfl, rfl, funext (fun y => up2_n _ _ _ _ y (Nat.ne_of_lt (Nat.lt_of_lt_of_le hx h)))⟩⟩
theorem UB.n {b κ n : Nat} {M : ZM} (h : b ≤ zN M) : UB b M (zNw M κ n) := ⟨Nat.le_succ _, fun x hx => ⟨up1_n _ _ _ (Nat.ne_of_lt (Nat.lt_of_lt_of_le hx h)), up1_n _ _ _ (Nat.ne_of_lt (Nat.lt_of_lt_of_le hx h)), up1_n _ _ _ (Nat.ne_of_lt (Nat.lt_of_lt_of_le hx h)), up1_n _ _ _ (Nat.ne_of_lt (Nat.lt_of_lt_of_le hx h))⟩⟩
theorem zW.nw {M : ZM} {j κ κ' n : Nat} (h : zW M j κ) : zW (zNw M κ' n) j κ := ⟨(up1_n _ _ _ (Nat.ne_of_lt h.2.2)).trans h.1, h.2.1, Nat.lt_succ_of_lt h.2.2⟩
theorem zW.nn {M : ZM} {κ n : Nat} (h : zCC ≤ zN M) : zW (zNw M κ n) (zN M) κ := ⟨up1_s _ _ _, h, Nat.lt_succ_self _⟩
theorem zW.ub {M M' : ZM} {b j κ : Nat} (h : zW M j κ) (u : UB b M M') (hj : j < b) : zW M' j κ := ⟨(u.2 j hj).1.trans h.1, h.2.1, Nat.lt_of_lt_of_le h.2.2 u.1⟩
/-- an array of n numbers, kept in field s of the object b -/
theorem A_st {M : ZM} {b κ s n v : Nat} (hw : zW M b κ) (hv : v = zN M) : zN (zsR (zNw M 20 n) b s (some v)) = zN M + 1 ∧ UB b M (zsR (zNw M 20 n) b s (some v)) ∧ zW (zsR (zNw M 20 n) b s (some v)) b κ ∧ zW (zsR (zNw M 20 n) b s (some v)) v 20 ∧ zLn (zsR (zNw M 20 n) b s (some v)) v = n ∧ zR (zsR (zNw M 20 n) b s (some v)) b s = some v ∧ (∀ f, zI (zsR (zNw M 20 n) b s (some v)) b f = zI M b f) ∧ (∀ p, p ≠ s → zR (zsR (zNw M 20 n) b s (some v)) b p = zR M b p) ∧ ∀ j κ', zW M j κ' → zW (zsR (zNw M 20 n) b s (some v)) j κ' ∧ zLn (zsR (zNw M 20 n) b s (some v)) j = zLn M j := by
  have h64 : zCC ≤ zN M := Nat.le_trans hw.2.1 (Nat.le_of_lt hw.2.2)
  have hb0 : b ≠ zN M := Nat.ne_of_lt hw.2.2
  have k1 : ∀ j κ', zW M j κ' → zW (zsR (zNw M 20 n) b s (some v)) j κ' := fun j κ' h => zW.nw (κ' := 20) (n := n) h
  refine ⟨rfl, (UB.n (Nat.le_of_lt hw.2.2)).tr (UB.r (Nat.le_refl _)), k1 _ _ hw, ?_, ?_, up2_s _ _ _ _, fun f => congrFun (up1_n _ _ _ hb0) f, fun p hp => (up2_m _ _ _ _ _ hp).trans (congrFun (up1_n _ _ _ hb0) p), fun j κ' h => ⟨k1 j κ' h, up1_n _ _ _ (Nat.ne_of_lt h.2.2)⟩⟩
  · rw [hv]; exact zW.nn (κ := 20) (n := n) h64
  · rw [hv]; exact up1_s _ _ _
/-- three arrays of three numbers -/
def F3 (M : ZM) (b p q s : Nat) : ZM := zsR (zNw (zsR (zNw (zsR (zNw M 20 3) b p (some (zN M))) 20 3) b q (some (zN M + 1))) 20 3) b s (some (zN M + 2))
theorem F3_ok {M : ZM} {b κ p q s : Nat} (hw : zW M b κ) (hn : zN M = b + 1) (hpq : p ≠ q) (hps : p ≠ s) (hqs : q ≠ s) : UB b M (F3 M b p q s) ∧ zN (F3 M b p q s) = b + 4 ∧ zW (F3 M b p q s) b κ ∧ (∀ f, zI (F3 M b p q s) b f = zI M b f) ∧ (zR (F3 M b p q s) b p = some (b + 1) ∧ zW (F3 M b p q s) (b + 1) 20 ∧ zLn (F3 M b p q s) (b + 1) = 3) ∧ (zR (F3 M b p q s) b q = some (b + 2) ∧ zW (F3 M b p q s) (b + 2) 20 ∧ zLn (F3 M b p q s) (b + 2) = 3) ∧ zR (F3 M b p q s) b s = some (b + 3) ∧ zW (F3 M b p q s) (b + 3) 20 ∧ zLn (F3 M b p q s) (b + 3) = 3 := by
  unfold F3
  have e1 : zN M = b + 1 := hn
  have e2 : zN M + 1 = b + 2 := by rw [hn]
  have e3 : zN M + 2 = b + 3 := by rw [hn]
  rw [e3, e2, e1]
  obtain ⟨a1, a2, a3, a4, a5, a6, a7, a8, a9⟩ := A_st (s := p) (n := 3) (v := b + 1) hw hn.symm
  obtain ⟨A1, hA1⟩ : ∃ A1, zsR (zNw M 20 3) b p (some (b + 1)) = A1 := ⟨_, rfl⟩
  rw [hA1] at a1 a2 a3 a4 a5 a6 a7 a8 a9 ⊢
  obtain ⟨b1, b2, b3, b4, b5, b6, b7, b8, b9⟩ := A_st (s := q) (n := 3) (v := b + 2) a3 (by rw [a1, hn])
  obtain ⟨A2, hA2⟩ : ∃ A2, zsR (zNw A1 20 3) b q (some (b + 2)) = A2 := ⟨_, rfl⟩
  rw [hA2] at b1 b2 b3 b4 b5 b6 b7 b8 b9 ⊢
  obtain ⟨c1, c2, c3, c4, c5, c6, c7, c8, c9⟩ := A_st (s := s) (n := 3) (v := b + 3) b3 (by rw [b1, a1, hn])
  obtain ⟨A3, hA3⟩ : ∃ A3, zsR (zNw A2 20 3) b s (some (b + 3)) = A3 := ⟨_, rfl⟩
  rw [hA3] at c1 c2 c3 c4 c5 c6 c7 c8 c9 ⊢
  have d1 := b9 _ _ a4
  have d2 := c9 _ _ d1.1
  have d3 := c9 _ _ b4
  exact ⟨(a2.tr b2).tr c2, by rw [c1, b1, a1, hn], c3, fun f => (c7 f).trans ((b7 f).trans (a7 f)), ⟨(c8 p hps).trans ((b8 p hpq).trans a6), d2.1, d2.2.trans (d1.2.trans a5)⟩, ⟨(c8 q hqs).trans b6, d3.1, d3.2.trans b5⟩, c6, c4, c5⟩
def T_X4_init : ZTf := fun av M K KX => ∃ (b : Nat), av = [zo b] ∧ (zW M b 7) ∧ (zN M = b + 1) ∧ (∀ M' : ZM, UB b M M' → zN M' = b + 2 → LRow M' b → K none M')
set_option maxRecDepth 100000 in
set_option maxHeartbeats 1500000 in
theorem bd_X4_init : zBd (cd_X4_init) 1 1 9 T_X4_init := by
  rintro av M K KX hA0 hM ⟨b, rfl, hw, hn, hK⟩
  have h64 : zCC ≤ zN M := Nat.le_trans hw.2.1 (Nat.le_of_lt hw.2.2)
  have u0 : UB b M (zsI (zsI (zsI (zsI M b 2 (-1)) b 4 (-1)) b 6 (-1)) b 7 (-1)) := (((UB.i (Nat.le_refl _)).tr (UB.i (Nat.le_refl _))).tr (UB.i (Nat.le_refl _))).tr (UB.i (Nat.le_refl _))
  obtain ⟨a1, a2, a3, a4, a5, a6, -, -, -⟩ := A_st (M := (zsI (zsI (zsI (zsI M b 2 (-1)) b 4 (-1)) b 6 (-1)) b 7 (-1))) (b := b) (κ := 7) (s := 9) (n := 9) (v := zN M) hw rfl
  refine ⟨rfl, fun Φ hΦ => ?_⟩
  refine zGoR hΦ [] 400 (fun hL9 _ hM _ _ => ?_)
  obtain ⟨_⟩ : True := hL9
  refine ⟨(Nat.le_of_ble_eq_true rfl), ⟨⟨hw, trivial⟩, ⟨⟨hw, trivial⟩, ⟨⟨hw, trivial⟩, ⟨⟨hw, trivial⟩, ⟨⟨(by omega), (by omega), (by omega), (by omega)⟩, ⟨(zW.nw (κ' := 20) (n := 9) hw), (show K none (zsR (zNw (zsI (zsI (zsI (zsI M b 2 (-1)) b 4 (-1)) b 6 (-1)) b 7 (-1)) 20 9) b 9 (some (zN M))) from ?g462l1)⟩⟩⟩⟩⟩⟩⟩
  case g462l1 =>
    refine hK _ (u0.tr a2) (a1.trans ?_) ⟨a3, ?_, ?_, ?_⟩
    · show zN M + 1 = b + 2
      omega
    · rw [← hn]; exact a6
    · rw [← hn]; exact a4
    · rw [← hn]; exact a5
theorem M_X4_init {l : Launch} (hl : l.stackTraces = false) : zMet l yX4_init (Cond.code yX4_init cX4_init 1 (Option.none : Option Jvm.ClassFile.FieldType) :: zG) rm_X4_init 1 9 T_X4_init := met_X4_init hl bd_X4_init
def T_X6_init : ZTf := fun av M K KX => ∃ (b : Nat), av = [zo b] ∧ (zW M b 9) ∧ (zN M = b + 1) ∧ (∀ M' : ZM, UB b M M' → zN M' = b + 4 → zW M' b 9 → (zR M' b 4 = some (b + 1) ∧ zW M' (b + 1) 20 ∧ zLn M' (b + 1) = 3) → (zR M' b 5 = some (b + 2) ∧ zW M' (b + 2) 20 ∧ zLn M' (b + 2) = 3) → (zR M' b 6 = some (b + 3) ∧ zW M' (b + 3) 20 ∧ zLn M' (b + 3) = 3) → K none M')
set_option maxRecDepth 100000 in
set_option maxHeartbeats 1500000 in
theorem bd_X6_init : zBd (cd_X6_init) 1 3 9 T_X6_init := by
  rintro av M K KX hA0 hM ⟨b, rfl, hw, hn, hK⟩
  have h64 : zCC ≤ zN M := Nat.le_trans hw.2.1 (Nat.le_of_lt hw.2.2)
  obtain ⟨c1, c2, c3, -, c5, c6, c7⟩ := F3_ok (M := M) (b := b) (κ := 9) (p := 4) (q := 5) (s := 6) hw hn (by decide) (by decide) (by decide)
  refine ⟨rfl, fun Φ hΦ => ?_⟩
  refine zGoR hΦ [] 400 (fun hL9 _ hM _ _ => ?_)
  obtain ⟨_⟩ : True := hL9
  refine ⟨(Nat.le_of_ble_eq_true rfl), ⟨⟨(by omega), (by omega), (by omega), (by omega)⟩, ⟨(zW.nw (κ' := 20) (n := 3) hw), ⟨⟨(by omega), (by omega), (by omega), (by omega)⟩, ⟨(zW.nw (κ' := 20) (n := 3) (zW.nw (κ' := 20) (n := 3) hw)), ⟨⟨(by omega), (by omega), (by omega), (by omega)⟩, ⟨(zW.nw (κ' := 20) (n := 3) (zW.nw (κ' := 20) (n := 3) (zW.nw (κ' := 20) (n := 3) hw))), (show K none (zsR (zNw (zsR (zNw (zsR (zNw M 20 3) b 4 (some (zN M))) 20 3) b 5 (some (zN M + 1))) 20 3) b 6 (some (zN M + 2))) from ?g463l1)⟩⟩⟩⟩⟩⟩⟩
  case g463l1 =>
    exact hK _ c1 c2 c3 c5 c6 c7
theorem M_X6_init {l : Launch} (hl : l.stackTraces = false) : zMet l yX6_init (Cond.code yX6_init cX6_init 1 (Option.none : Option Jvm.ClassFile.FieldType) :: zG) rm_X6_init 3 9 T_X6_init := met_X6_init hl bd_X6_init
