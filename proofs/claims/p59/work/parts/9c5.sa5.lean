theorem LRow.ra {M : ZM} {j x k : Nat} {v : Option Nat} (h : LRow M j) (hx : x ≠ j) : LRow (zsR M x k v) j := by
  obtain ⟨a, b1, b2, b3⟩ := h
  have er : zR (zsR M x k v) j = zR M j := funext (fun y => up2_n _ _ _ _ y (Ne.symm hx))
  exact ⟨a, by rw [er]; exact b1, b2, b3⟩
def T_X5_init : ZTf := fun av M K KX => ∃ (t : Nat), av = [zo t] ∧ (zW M t 8) ∧ (zN M = t + 1) ∧ (t + 59 ≤ 668) ∧ (∀ M' : ZM, UB t M M' → zN M' = t + 59 → LTab M' t → TR M' t gNew → K none M')
set_option maxRecDepth 100000 in
set_option maxHeartbeats 1500000 in
theorem bd_X5_init : zBd (cd_X5_init T_X7_init T_X4_init) 2 58 618 T_X5_init := by
  rintro av M K KX hA0 hM ⟨t, rfl, hw, hn, h107, hK⟩
  refine ⟨rfl, fun Φ hΦ => ?_⟩
  have lo2 : ∀ i, 0 ≤ i → i ≤ 24 → ∀ (M90 : ZM) (k n : Nat), TA M t M90 → zN M90 = t + 11 + 2 * i.toNat → WkD t M90 6 → RwD t M90 i → (k : Int) = 10 + 2 * i → (n : Int) = 162 + 19 * i → Φ 98 [some (zo t), some (zi i)] [] M90 k n := by
    refine zdown (n := 24) (P := fun i => ∀ (M90 : ZM) (k n : Nat), TA M t M90 → zN M90 = t + 11 + 2 * i.toNat → WkD t M90 6 → RwD t M90 i → (k : Int) = 10 + 2 * i → (n : Int) = 162 + 19 * i → Φ 98 [some (zo t), some (zi i)] [] M90 k n) (fun i h0 h1 ih M90 k n hA90 hn90 hW90 hR90 hk hn => ?_)
    have hrf := hA90.2.2.2.2.1
    have hw90 := hA90.2.2.1
    have hc64 := hw90.2.1
    have h64 : zCC ≤ zN M90 := by omega
    refine zGoR hΦ [98] 400 (fun hL9 _ hM _ _ => ?_)
    obtain ⟨qL1, _⟩ : zrg i ∧ True := hL9
    refine ⟨fun (qc1 : i ≥ 24) => (show K none M90 from ?g467l1), fun (qc2 : i < 24) => ⟨hw90, _, hrf.2.1, ⟨⟨(by omega), (by omega)⟩, ⟨rfl, ⟨⟨(by omega), (by omega)⟩, ⟨⟨rfl, rfl⟩, (zW.nn (κ := 7) (n := 0) h64).rcv⟩, ⟨(zN M90), rfl, (zW.nn (κ := 7) (n := 0) h64), rfl, fun M1 hu1 hn91 hr1 => (have hA1 := hA90.up ((UB.n (by omega)).tr (hu1.lo (by omega))); have hg91 : zN M1 = zN M90 + 2 := hn91; fun qg3 qm4 => ⟨⟨hA1.2.2.2.2.2.2.1.1, hr1.w, (by omega), (by rw [hA1.2.2.2.2.2.2.1.2]; omega), (by omega)⟩, ⟨(zrgI (x := i + 1) (by omega)), (show Φ 98 [some (zo t), some (zi (i + 1))] [] (zsR M1 (t + 2) i.toNat (some (zN M90))) (k + 1 + 1) (n + 10 + 9) from ?g467l2)⟩⟩)⟩⟩⟩⟩⟩⟩
    case g467l1 =>
      have e9 : i = 24 := (by omega)
      subst e9
      exact hK M90 hA90.1 (by rw [hn90]; rfl) (hA90.lt hW90 hR90) hA90.tr
    case g467l2 =>
      have e90 : zN M90 = t + 11 + 2 * i.toNat := hn90
      have ub1 : UB (zN M90) M90 M1 := (UB.n (Nat.le_refl _)).tr hu1
      refine ih (by omega) _ _ _ (hA1.ra (Or.inr rfl)) ?_ (fun q q0 q1 => ?_) (fun q q0 q1 => ?_) (by omega) (by omega)
      · show zN M1 = _
        omega
      · have h9 := hW90 q q0 q1
        have hl := hA90.2.1
        refine ⟨(up2_n _ _ _ _ _ (by omega)).trans ((congrFun (ub1.2 (t + 1) (by omega)).2.2.2 _).trans h9.1), ?_⟩
        have h8 : zW M1 (t + 5 + q.toNat) 10 := h9.2.ub ub1 (by omega)
        exact h8
      · by_cases e : q = i
        · subst e
          refine ⟨?_, ?_⟩
          · rw [← e90]; exact up2_s _ _ _ _
          · rw [← e90]
            exact LRow.ra (j := zN M90) (x := t + 2) hr1 (by omega)
        · have h9 := hR90 q q0 (by omega)
          refine ⟨(up2_m _ _ _ _ _ (by omega)).trans ((congrFun (ub1.2 (t + 2) (by omega)).2.2.2 _).trans h9.1), ?_⟩
          exact (h9.2.ub ub1 (by omega)).ra (by omega)
  have lo1 : ∀ i, 0 ≤ i → i ≤ 6 → ∀ (M90 : ZM) (k n : Nat), TA M t M90 → zN M90 = t + 5 + i.toNat → WkD t M90 i → (k : Int) = 4 + i → (n : Int) = 102 + 10 * i → Φ 71 [some (zo t), some (zi i)] [] M90 k n := by
    refine zdown (n := 6) (P := fun i => ∀ (M90 : ZM) (k n : Nat), TA M t M90 → zN M90 = t + 5 + i.toNat → WkD t M90 i → (k : Int) = 4 + i → (n : Int) = 102 + 10 * i → Φ 71 [some (zo t), some (zi i)] [] M90 k n) (fun i h0 h1 ih M90 k n hA90 hn90 hW90 hk hn => ?_)
    have hrf := hA90.2.2.2.2.1
    have hw90 := hA90.2.2.1
    have hc64 := hw90.2.1
    have h64 : zCC ≤ zN M90 := by omega
    refine zGoR hΦ [71, 98] 400 (fun hL9 _ hM _ _ => ?_)
    obtain ⟨qL1, _⟩ : zrg i ∧ True := hL9
    refine ⟨fun (qc1 : i ≥ 6) => (show Φ 98 [some (zo t), some (zi 0)] [] M90 (k) (n) from ?g468l1), fun (qc2 : i < 6) => ⟨hw90, _, hrf.1, ⟨⟨(by omega), (by omega)⟩, ⟨rfl, ⟨⟨⟨rfl, rfl⟩, (zW.nn (κ := 10) (n := 0) h64).rcv⟩, ⟨(zN M90), rfl, (zW.nn (κ := 10) (n := 0) h64), (by omega), fun M1 hu1 hn91 hw91 => (have hA1 := hA90.up ((UB.n (by omega)).tr (hu1.lo (by omega))); fun qg3 qm4 => ⟨⟨hA1.2.2.2.2.2.1.1, hw91, (by omega), (by rw [hA1.2.2.2.2.2.1.2]; omega), (by omega)⟩, ⟨(zrgI (x := i + 1) (by omega)), (show Φ 71 [some (zo t), some (zi (i + 1))] [] (zsR M1 (t + 1) i.toNat (some (zN M90))) (k + 1) (n + 10) from ?g468l2)⟩⟩)⟩⟩⟩⟩⟩⟩
    case g468l1 =>
      have e9 : i = 6 := (by omega)
      subst e9
      exact lo2 0 (by omega) (by omega) M90 _ _ hA90 (by rw [hn90]; rfl) hW90 (fun q q0 q1 => by omega) (by omega) (by omega)
    case g468l2 =>
      have e90 : zN M90 = t + 5 + i.toNat := hn90
      have ub1 : UB (zN M90) M90 M1 := (UB.n (Nat.le_refl _)).tr hu1
      refine ih (by omega) _ _ _ (hA1.ra (Or.inl rfl)) ?_ (fun q q0 q1 => ?_) (by omega) (by omega)
      · show zN M1 = _
        rw [hn91]
        show zN M90 + 1 = _
        omega
      · by_cases e : q = i
        · subst e
          refine ⟨?_, ?_⟩
          · rw [← e90]; exact up2_s _ _ _ _
          · rw [← e90]; exact hw91
        · have h9 := hW90 q q0 (by omega)
          refine ⟨(up2_m _ _ _ _ _ (by omega)).trans ((congrFun (ub1.2 (t + 1) (by omega)).2.2.2 _).trans h9.1), ?_⟩
          have h8 : zW M1 (t + 5 + q.toNat) 10 := h9.2.ub ub1 (by omega)
          exact h8
  have hTA := TA_mk (M0 := M) (M := (zsI (zsI (zsI (zsI (zsI (zsI M t 0 0) t 1 10) t 2 5) t 3 0) t 4 0) t 5 0)) (t := t) ((((((UB.i (Nat.le_refl _)).tr (UB.i (Nat.le_refl _))).tr (UB.i (Nat.le_refl _))).tr (UB.i (Nat.le_refl _))).tr (UB.i (Nat.le_refl _))).tr (UB.i (Nat.le_refl _))) hw hn (by refine ⟨?_, ?_, ?_, ?_, ?_, ?_⟩ <;> simp (disch := omega) only [zIs, zIm, zIn, zIrf])
  refine zGoR hΦ [71] 400 (fun hL9 _ hM _ _ => ?_)
  obtain ⟨_⟩ : True := hL9
  refine ⟨(Nat.le_of_ble_eq_true rfl), ⟨⟨hw, trivial⟩, ⟨⟨hw, trivial⟩, ⟨⟨hw, trivial⟩, ⟨⟨hw, trivial⟩, ⟨⟨hw, trivial⟩, ⟨⟨hw, trivial⟩, ⟨⟨(by omega), (by omega), (by omega), (by omega)⟩, ⟨(zW.nw (κ' := 30) (n := 6) hw), ⟨⟨(by omega), (by omega), (by omega), (by omega)⟩, ⟨(zW.nw (κ' := 31) (n := 24) (zW.nw (κ' := 30) (n := 6) hw)), ⟨⟨(by omega), (by omega), (by omega), (by omega)⟩, ⟨(zW.nw (κ' := 20) (n := 36) (zW.nw (κ' := 31) (n := 24) (zW.nw (κ' := 30) (n := 6) hw))), ⟨⟨(by omega), (by omega), (by omega), (by omega)⟩, ⟨(zW.nw (κ' := 20) (n := 36) (zW.nw (κ' := 20) (n := 36) (zW.nw (κ' := 31) (n := 24) (zW.nw (κ' := 30) (n := 6) hw)))), (show Φ 71 [some (zo t), some (zi 0)] [] (zsR (zNw (zsR (zNw (zsR (zNw (zsR (zNw (zsI (zsI (zsI (zsI (zsI (zsI M t 0 0) t 1 10) t 2 5) t 3 0) t 4 0) t 5 0) 30 6) t 6 (some (zN M))) 31 24) t 7 (some (zN M + 1))) 20 36) t 8 (some (zN M + 2))) 20 36) t 9 (some (zN M + 3))) (0 + 1 + 1 + 1 + 1) (0 + 6 + 24 + 36 + 36) from ?g469l1)⟩⟩⟩⟩⟩⟩⟩⟩⟩⟩⟩⟩⟩⟩⟩
  case g469l1 =>
    have h9 := lo1 0 (by omega) (by omega) _ 4 102 hTA.1 (hTA.2.trans rfl) (fun q q0 q1 => by omega) rfl rfl
    rw [show t + 4 = zN M + 3 by omega, show t + 3 = zN M + 2 by omega, show t + 2 = zN M + 1 by omega, show t + 1 = zN M by omega] at h9
    exact h9
theorem M_X5_init {l : Launch} (hl : l.stackTraces = false) : zMet l yX5_init (Cond.code yX5_init cX5_init 2 (Option.none : Option Jvm.ClassFile.FieldType) :: zG) rm_X5_init 58 618 T_X5_init := met_X5_init hl (M_X7_init hl) (M_X4_init hl) bd_X5_init
