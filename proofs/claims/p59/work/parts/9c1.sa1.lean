def T_X7_init : ZTf := fun av M K KX => ∃ (b : Nat), av = [zo b] ∧ (zW M b 10) ∧ (b ≠ 668) ∧ (∀ M' : ZM, UB b M M' → zN M' = zN M → zW M' b 10 → K none M')
set_option maxRecDepth 100000 in
set_option maxHeartbeats 1500000 in
theorem bd_X7_init : zBd (cd_X7_init) 1 0 0 T_X7_init := by
  rintro av M K KX hA0 hM ⟨b, rfl, hw, hb46, hK⟩
  refine ⟨rfl, fun Φ hΦ => ?_⟩
  refine zGoR hΦ [] 400 (fun hL9 _ hM _ _ => ?_)
  obtain ⟨_⟩ : True := hL9
  refine ⟨(Nat.le_of_ble_eq_true rfl), ⟨hw, (show K none (zsR M b 0 (some 57)) from ?g464l1)⟩⟩
  case g464l1 =>
    exact hK _ (UB.r (Nat.le_refl _)) rfl hw
theorem M_X7_init {l : Launch} (hl : l.stackTraces = false) : zMet l yX7_init (Cond.code yX7_init cX7_init 1 (Option.none : Option Jvm.ClassFile.FieldType) :: zG) rm_X7_init 0 0 T_X7_init := met_X7_init hl bd_X7_init
/-- a builder laid: b, its array behind it -/
def TBn (M : ZM) (b : Nat) : Prop := zW M b 1 ∧ zW M (b + 1) 21 ∧ zLn M (b + 1) = 16 ∧ zR M b 0 = some (b + 1) ∧ zI M b 1 = 0 ∧ zI M b 3 = 0 ∧ ∀ k : Nat, zPb (zI M (b + 1) k)
theorem TBn.of {M : ZM} {b : Nat} (h : SB M b 16 []) (hv : vu M b = b + 1) : TBn M b := by
  obtain ⟨h1, ⟨h2, h3, h4⟩, ⟨h5, h6⟩, -, h9, -⟩ := h
  rw [hv] at h2 h3 h4 h9
  exact ⟨h1, h3, h4, h2, h5, h6, h9⟩
theorem TBn.ub {M M' : ZM} {b c : Nat} (h : TBn M b) (u : UB c M M') (hc : b + 2 ≤ c) : TBn M' b := by
  obtain ⟨h1, h2, h3, h4, h5, h6, h7⟩ := h
  have e0 := u.2 b (by omega)
  have e1 := u.2 (b + 1) (by omega)
  exact ⟨h1.ub u (by omega), h2.ub u (by omega), e1.2.1.trans h3, by rw [e0.2.2.2]; exact h4, by rw [e0.2.2.1]; exact h5, by rw [e0.2.2.1]; exact h6, by rw [e1.2.2.1]; exact h7⟩
theorem TBn.r {M : ZM} {b x k : Nat} {v : Option Nat} (h : TBn M b) (hx : x ≠ b) : TBn (zsR M x k v) b := by
  obtain ⟨h1, h2, h3, h4, h5, h6, h7⟩ := h
  exact ⟨h1, h2, h3, (up2_n _ _ _ _ _ (Ne.symm hx)).trans h4, h5, h6, h7⟩
theorem SB_new {M : ZM} {b n : Nat} (hb : 64 ≤ b) (hN : zN M = b) (hn : n ≤ 2000) : SB (zsI (zsR (zNw (zNw M 1 0) 21 n) b 0 (some (b + 1))) b 1 0) b n [] ∧ vu (zsI (zsR (zNw (zNw M 1 0) 21 n) b 0 (some (b + 1))) b 1 0) b = b + 1 ∧ zR (zsI (zsR (zNw (zNw M 1 0) 21 n) b 0 (some (b + 1))) b 1 0) b 0 = some (b + 1) := by
  obtain ⟨Mi, hMi⟩ : ∃ Mi, zsI (zsR (zNw (zNw M 1 0) 21 n) b 0 (some (b + 1))) b 1 0 = Mi := ⟨_, rfl⟩
  rw [hMi]
  have hN1 : zN (zNw M 1 0) = b + 1 := by show zN M + 1 = _; rw [hN]
  have hr : zR Mi b 0 = some (b + 1) := by rw [← hMi]; exact up2_s _ _ _ _
  have hv : vu Mi b = b + 1 := by unfold vu; rw [hr]; rfl
  have kb : zK Mi b = 1 := by
    rw [← hMi]
    refine (up1_n (zK (zNw M 1 0)) (zN (zNw M 1 0)) 21 (by rw [hN1]; omega)).trans ?_
    rw [← hN]
    exact up1_s _ _ _
  have ka : zK Mi (b + 1) = 21 := by rw [← hMi, ← hN1]; exact up1_s _ _ _
  have la : zLn Mi (b + 1) = n := by rw [← hMi, ← hN1]; exact up1_s _ _ _
  have ia : zI Mi (b + 1) = fun _ => 0 := by
    rw [← hMi]
    refine (zI_In _ _ _ (by omega)).trans ?_
    rw [← hN1]; exact up1_s _ _ _
  have ib : ∀ k, zI Mi b k = 0 := fun k => by
    rw [← hMi]
    by_cases z : k = 1
    · subst z; exact up2_s _ _ _ _
    · refine (up2_m _ _ _ _ _ z).trans ?_
      refine (congrFun (up1_n (zI (zNw M 1 0)) (zN (zNw M 1 0)) (fun _ => 0) (by rw [hN1]; omega)) k).trans ?_
      rw [← hN]
      exact congrFun (up1_s _ _ _) k
  have hni : zN Mi = b + 2 := by rw [← hMi]; show zN M + 1 + 1 = _; omega
  have h64 : zCC = 64 := rfl
  refine ⟨⟨⟨kb, by omega, by omega⟩, ⟨by rw [hv]; exact hr, ⟨by rw [hv]; exact ka, by omega, by rw [hv]; omega⟩, by rw [hv]; exact la⟩, ⟨ib 1, ib 3⟩, ⟨Nat.zero_le _, hn⟩, fun k => by rw [hv, ia]; exact (show zPb 0 from ⟨by decide, by decide⟩), fun k hk => absurd hk (Nat.not_lt_zero _)⟩, hv, hr⟩
def T_X1_init : ZTf := fun av M K KX => ∃ (b : Nat), av = [zo b] ∧ (zW M b 5) ∧ (zN M = b + 1) ∧ (∀ M' : ZM, UB b M M' → zN M' = b + 4 → zW M' b 5 → (zR M' b 0 = some (b + 1) ∧ zW M' (b + 1) 20 ∧ zLn M' (b + 1) = 500) → zI M' b 1 = 0 → zR M' b 2 = some (b + 2) → TBn M' (b + 2) → K none M')
set_option maxRecDepth 100000 in
set_option maxHeartbeats 1500000 in
theorem bd_X1_init : zBd (cd_X1_init T_J4_init_da8c8) 1 3 520 T_X1_init := by
  rintro av M K KX hA0 hM ⟨b, rfl, hw, hn, hK⟩
  have h640 : zCC ≤ b := hw.2.1
  obtain ⟨a1, a2, a3, a4, a5, a6, a7, a8, a9⟩ := A_st (s := 0) (n := 500) (v := zN M) hw rfl
  refine ⟨rfl, fun Φ hΦ => ?_⟩
  have h18 : ∀ (M90 : ZM) (k n : Nat), UB b M M90 → zN M90 = b + 2 → zW M90 b 5 → (zR M90 b 0 = some (b + 1) ∧ zW M90 (b + 1) 20 ∧ zLn M90 (b + 1) = 500) → zI M90 b 1 = 0 → k = 1 → n = 500 → Φ 18 [some (zo b)] [] M90 k n := by
    intro M90 k n hu90 hn90 hw90 ha90 hi90 hk hn9
    have h64 : zCC ≤ zN M90 := by omega
    refine zGoR hΦ [] 400 (fun hL9 _ hM _ _ => ?_)
    obtain ⟨_⟩ : True := hL9
    refine ⟨⟨(by omega), (by omega)⟩, ⟨rfl, ⟨⟨(by omega), (by omega)⟩, ⟨⟨rfl, rfl⟩, (zW.nn (κ := 1) (n := 0) h64).rcv⟩, ⟨(zN M90), rfl, (zW.nn (κ := 1) (n := 0) h64), fun qg1 qm2 => ⟨(zW.nw (κ' := 21) (n := 16) (zW.nw (κ' := 1) (n := 0) hw90)), (show K none (zsR (zsI (zsR (zNw (zNw M90 1 0) 21 16) (zN M90) 0 (some (zN (zNw M90 1 0)))) (zN M90) 1 0) b 2 (some (zN M90))) from ?g465l1)⟩⟩⟩⟩⟩
    case g465l1 =>
      obtain ⟨s1, s2, s3⟩ := SB_new (M := M90) (b := b + 2) (n := 16) (by unfold zCC at h640; omega) hn90 (by omega)
      show K none (zsR (zsI (zsR (zNw (zNw M90 1 0) 21 16) (zN M90) 0 (some (zN M90 + 1))) (zN M90) 1 0) b 2 (some (zN M90)))
      rw [hn90]
      obtain ⟨Mi, hMi⟩ : ∃ Mi, zsI (zsR (zNw (zNw M90 1 0) 21 16) (b + 2) 0 (some (b + 2 + 1))) (b + 2) 1 0 = Mi := ⟨_, rfl⟩
      have uB : UB (b + 2) M90 Mi := by
        rw [← hMi]
        exact (((UB.n (by omega)).tr (UB.n (by show b + 2 ≤ zN M90 + 1; omega))).tr (UB.r (Nat.le_refl _))).tr (UB.i (Nat.le_refl _))
      have hni : zN Mi = b + 4 := by rw [← hMi]; show zN M90 + 1 + 1 = _; omega
      rw [hMi] at s1 s2 s3 ⊢
      refine hK _ ((hu90.tr (uB.lo (by omega))).tr (UB.r (Nat.le_refl _))) hni (show zW Mi b 5 from hw90.ub uB (by omega)) ⟨?_, (show zW Mi (b + 1) 20 from ha90.2.1.ub uB (by omega)), (uB.2 (b + 1) (by omega)).2.1.trans ha90.2.2⟩ ((congrFun (uB.2 b (by omega)).2.2.1 1).trans hi90) (up2_s _ _ _ _) ((TBn.of s1 s2).r (by omega))
      exact (up2_m _ _ _ _ _ (by decide)).trans ((congrFun (uB.2 b (by omega)).2.2.2 0).trans ha90.1)
  refine zGoR hΦ [18] 400 (fun hL9 _ hM _ _ => ?_)
  obtain ⟨_⟩ : True := hL9
  refine ⟨(Nat.le_of_ble_eq_true rfl), ⟨⟨(by omega), (by omega), (by omega), (by omega)⟩, ⟨(zW.nw (κ' := 20) (n := 500) hw), ⟨⟨(zW.nw (κ' := 20) (n := 500) hw), trivial⟩, (show Φ 18 [some (zo b)] [] (zsI (zsR (zNw M 20 500) b 0 (some (zN M))) b 1 0) (0 + 1) (0 + 500) from ?g466l1)⟩⟩⟩⟩
  case g466l1 =>
    refine h18 _ _ _ (a2.tr (UB.i (Nat.le_refl _))) (a1.trans ?_) a3 ⟨?_, ?_, ?_⟩ (zI_Is _ _ _ _) rfl rfl
    · show zN M + 1 = b + 2
      omega
    · rw [← hn]; exact a6
    · rw [← hn]; exact a4
    · rw [← hn]; exact a5
theorem M_X1_init {l : Launch} (hl : l.stackTraces = false) : zMet l yX1_init (Cond.code yX1_init cX1_init 1 (Option.none : Option Jvm.ClassFile.FieldType) :: zG) rm_X1_init 3 520 T_X1_init := met_X1_init hl (M_J4_init_da8c8 hl) bd_X1_init
