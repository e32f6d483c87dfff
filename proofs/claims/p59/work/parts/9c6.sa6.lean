theorem LTab.ra {M : ZM} {t x k : Nat} {v : Option Nat} (h : LTab M t) (hx : x < t) : LTab (zsR M x k v) t := by
  have er : ∀ j, t ≤ j → zR (zsR M x k v) j = zR M j := fun j hj => funext (fun y => up2_n _ _ _ _ y (by omega))
  obtain ⟨a, ⟨b1, b2⟩, ⟨c1, c2⟩, ⟨d1, d2⟩, ⟨e1, e2⟩, f, g⟩ := h
  refine ⟨a, ⟨by rw [er _ (by omega)]; exact b1, b2⟩, ⟨by rw [er _ (by omega)]; exact c1, c2⟩, ⟨by rw [er _ (by omega)]; exact d1, d2⟩, ⟨by rw [er _ (by omega)]; exact e1, e2⟩, fun i i0 i1 => ?_, fun i i0 i1 => ?_⟩
  · rw [er _ (by omega)]; exact f i i0 i1
  · rw [er _ (by omega)]; exact ⟨(g i i0 i1).1, (g i i0 i1).2.ra (by omega)⟩
def T_X3_init : ZTf := fun av M K KX => ∃ (b : Nat), av = [zo b] ∧ (zW M b 6) ∧ (zN M = b + 1) ∧ (b + 64 ≤ 668) ∧ (∀ M' : ZM, UB b M M' → zN M' = b + 64 → (zW M' b 6 ∧ zR M' b 2 = some (b + 1) ∧ zR M' b 3 = some (b + 5)) → (zW M' (b + 1) 5 ∧ zR M' (b + 1) 0 = some (b + 2) ∧ zW M' (b + 2) 20 ∧ zLn M' (b + 2) = 500 ∧ zI M' (b + 1) 1 = 0) → zR M' (b + 1) 2 = some (b + 3) → TBn M' (b + 3) → LTab M' (b + 5) → K none M')
set_option maxRecDepth 100000 in
set_option maxHeartbeats 1500000 in
theorem bd_X3_init : zBd (cd_X3_init T_X1_init T_X5_init) 1 63 1151 T_X3_init := by
  rintro av M K KX hA0 hM ⟨b, rfl, hw, hn, hb9, hK⟩
  have hc64 := hw.2.1
  have h64 : zCC ≤ zN M := by omega
  refine ⟨rfl, fun Φ hΦ => ?_⟩
  refine zGoR hΦ [] 400 (fun hL9 _ hM _ _ => ?_)
  obtain ⟨_⟩ : True := hL9
  refine ⟨(Nat.le_of_ble_eq_true rfl), ⟨⟨(by decide), (by decide)⟩, ⟨rfl, ⟨⟨(by decide), (by decide)⟩, ⟨⟨rfl, rfl⟩, (zW.nn (κ := 5) (n := 0) h64).rcv⟩, ⟨(zN M), rfl, (zW.nn (κ := 5) (n := 0) h64), rfl, fun M1 hu1 hn91 hw91 ha01 hi11 hr21 htb1 => (have hwb1 : zW M1 b 6 := (zW.nw (κ' := 5) (n := 0) hw).ub hu1 (by omega); have hm1 : zN M1 = zN M + 4 := hn91; have h641 : zCC ≤ zN M1 := (by omega); fun qg1 qm2 => ⟨hwb1, ⟨⟨(by decide), (by decide)⟩, ⟨rfl, ⟨⟨(by decide), (by decide)⟩, ⟨⟨rfl, rfl⟩, (zW.nn (κ := 8) (n := 0) h641).rcv⟩, ⟨(zN M1), rfl, (zW.nn (κ := 8) (n := 0) h641), rfl, (by omega), fun M2 hu2 hn92 hl2 ht2 => (have hwb2 : zW M2 b 6 := (zW.nw (κ' := 8) (n := 0) (M := zsR M1 b 2 (some (zN M))) hwb1).ub hu2 (by omega); fun qg3 qm4 => ⟨hwb2, (show K none (zsR M2 b 3 (some (zN M1))) from ?g470l1)⟩)⟩⟩⟩⟩⟩)⟩⟩⟩⟩⟩
  case g470l1 =>
    have e1 : b + 1 = zN M := hn.symm
    have e3 : b + 5 = zN M1 := by omega
    obtain ⟨N1, hN1⟩ : ∃ N1, zNw (zsR M1 b 2 (some (zN M))) 8 0 = N1 := ⟨_, rfl⟩
    have u2 : UB (zN M1) N1 M2 := by rw [← hN1]; exact hu2
    have u1 : UB b M M1 := (UB.n (by omega)).tr (hu1.lo (by omega))
    have uN : UB b M1 N1 := by rw [← hN1]; exact (UB.r (Nat.le_refl _)).tr (UB.n (by show b ≤ zN M1; omega))
    have wN : ∀ j κ, zW M1 j κ → zW N1 j κ ∧ zLn N1 j = zLn M1 j ∧ zI N1 j = zI M1 j ∧ (j ≠ b → zR N1 j = zR M1 j) := fun j κ h => by
      rw [← hN1]
      have hj : j ≠ zN M1 := Nat.ne_of_lt h.2.2
      exact ⟨zW.nw (κ' := 8) (n := 0) (M := zsR M1 b 2 (some (zN M))) h, up1_n _ _ _ hj, up1_n _ _ _ hj, fun q => (up1_n _ _ _ hj).trans (funext (fun y => up2_n _ _ _ _ y q))⟩
    have rb : zR N1 b 2 = some (zN M) := by
      rw [← hN1]
      exact (congrFun (up1_n _ _ _ (by show b ≠ zN M1; omega)) 2).trans (up2_s _ _ _ _)
    obtain ⟨x1, x2, x3⟩ := ha01
    have hm1' : zN M1 = zN M + 4 := hn91
    rw [← e1] at hw91 x1 x2 x3 hi11 hr21 htb1
    have w1 := wN _ _ hw91
    have w2 := wN _ _ x2
    have b1 : b + 1 < zN M1 := by omega
    have b2 : b + 1 + 1 < zN M1 := by omega
    have er : ∀ j, j ≠ b → zR (zsR M2 b 3 (some (zN M1))) j = zR M2 j := fun j q => funext (fun y => up2_n _ _ _ _ y q)
    refine hK _ (((u1.tr uN).tr (u2.lo (by omega))).tr (UB.r (Nat.le_refl _))) (by show zN M2 = _; rw [hn92]; show zN M1 + 59 = _; omega) ⟨hwb2, ?_, ?_⟩ ⟨(show zW M2 (b + 1) 5 from w1.1.ub u2 b1), ?_, (show zW M2 (b + 1 + 1) 20 from w2.1.ub u2 b2), (u2.2 _ b2).2.1.trans (w2.2.1.trans x3), ?_⟩ ?_ ?_ ?_
    · rw [e1]
      exact (up2_m _ _ _ _ _ (by decide)).trans ((congrFun (u2.2 b (by omega)).2.2.2 2).trans rb)
    · rw [e3]; exact up2_s _ _ _ _
    · rw [er _ (by omega)]
      exact (congrFun (u2.2 _ b1).2.2.2 0).trans ((congrFun (w1.2.2.2 (by omega)) 0).trans x1)
    · exact (congrFun (u2.2 _ b1).2.2.1 1).trans ((congrFun w1.2.2.1 1).trans hi11)
    · rw [er _ (by omega)]
      exact (congrFun (u2.2 _ b1).2.2.2 2).trans ((congrFun (w1.2.2.2 (by omega)) 2).trans hr21)
    · have t1 : TBn N1 (b + 1 + 2) := by
        obtain ⟨y1, y2, y3, y4, y5, y6, y7⟩ := htb1
        have v1 := wN _ _ y1
        have v2 := wN _ _ y2
        exact ⟨v1.1, v2.1, v2.2.1.trans y3, (congrFun (v1.2.2.2 (by omega)) 0).trans y4, (congrFun v1.2.2.1 1).trans y5, (congrFun v1.2.2.1 3).trans y6, by rw [v2.2.2.1]; exact y7⟩
      have t2 : TBn M2 (b + 1 + 2) := t1.ub u2 (by omega)
      exact TBn.r (x := b) t2 (by omega)
    · rw [e3]
      exact hl2.ra (by omega)
theorem M_X3_init {l : Launch} (hl : l.stackTraces = false) : zMet l yX3_init (Cond.code yX3_init cX3_init 1 (Option.none : Option Jvm.ClassFile.FieldType) :: zG) rm_X3_init 63 1151 T_X3_init := met_X3_init hl (M_X1_init hl) (M_X5_init hl) bd_X3_init
