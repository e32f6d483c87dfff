theorem LTab.ub {M M' : ZM} {t c : Nat} (h : LTab M t) (u : UB c M M') (hc : t + 59 ≤ c) : LTab M' t := by
  have e : ∀ j, j < c → zLn M' j = zLn M j ∧ zI M' j = zI M j ∧ zR M' j = zR M j := fun j hj => (u.2 j hj).2
  obtain ⟨a, ⟨b1, b2, b3⟩, ⟨c1, c2, c3⟩, ⟨d1, d2, d3⟩, ⟨e1, e2, e3⟩, f, g⟩ := h
  refine ⟨a.ub u (by omega), ⟨by rw [(e _ (by omega)).2.2]; exact b1, b2.ub u (by omega), (e _ (by omega)).1.trans b3⟩, ⟨by rw [(e _ (by omega)).2.2]; exact c1, c2.ub u (by omega), (e _ (by omega)).1.trans c3⟩, ⟨by rw [(e _ (by omega)).2.2]; exact d1, d2.ub u (by omega), (e _ (by omega)).1.trans d3⟩, ⟨by rw [(e _ (by omega)).2.2]; exact e1, e2.ub u (by omega), (e _ (by omega)).1.trans e3⟩, fun i i0 i1 => ?_, fun i i0 i1 => ?_⟩
  · rw [(e (t + 1) (by omega)).2.2]; exact ⟨(f i i0 i1).1, (f i i0 i1).2.ub u (by omega)⟩
  · rw [(e (t + 2) (by omega)).2.2]; exact ⟨(g i i0 i1).1, (g i i0 i1).2.ub u (by omega)⟩
def HA (M0 : ZM) (b : Nat) (M : ZM) (i : Int) : Prop := UB b M0 M ∧ zN M = b + 2 + 59 * i.toNat ∧ zW M b 4 ∧ zR M b 2 = some (b + 1) ∧ (zW M (b + 1) 32 ∧ zLn M (b + 1) = 6) ∧ (zI M b 0 = 0 ∧ zI M b 1 = 0) ∧ ∀ q : Int, 0 ≤ q → q < i → zR M (b + 1) q.toNat = some (b + 2 + 59 * q.toNat) ∧ LTab M (b + 2 + 59 * q.toNat)
theorem HA.s {M0 M N M' : ZM} {b : Nat} {i : Int} (h : HA M0 b M i) (i0 : 0 ≤ i) (u : UB (zN M) M M') (hn : zN M' = zN M + 59) (hl : LTab M' (zN M)) : HA M0 b (zsR M' (b + 1) i.toNat (some (zN M))) (i + 1) := by
  obtain ⟨a1, a2, a3, a4, a5, a6, a7⟩ := h
  have e : ∀ j, j < zN M → zLn M' j = zLn M j ∧ zI M' j = zI M j ∧ zR M' j = zR M j := fun j hj => (u.2 j hj).2
  have er : zR (zsR M' (b + 1) i.toNat (some (zN M))) b = zR M' b := funext (fun y => up2_n _ _ _ _ y (by omega))
  refine ⟨(a1.tr (u.lo (by omega))).tr (UB.r (by omega)), ?_, (show zW M' b 4 from a3.ub u (by omega)), ?_, ⟨(show zW M' (b + 1) 32 from a5.1.ub u (by omega)), (e _ (by omega)).1.trans a5.2⟩, ?_, fun q q0 q1 => ?_⟩
  · show zN M' = _
    omega
  · rw [er, (e b (by omega)).2.2]; exact a4
  · show zI M' b 0 = 0 ∧ zI M' b 1 = 0
    rw [(e b (by omega)).2.1]; exact a6
  · by_cases z : q = i
    · subst z
      rw [← a2]
      exact ⟨up2_s _ _ _ _, hl.ra (by omega)⟩
    · have h9 := a7 q q0 (by omega)
      refine ⟨(up2_m _ _ _ _ _ (by omega)).trans ((congrFun (e (b + 1) (by omega)).2.2 _).trans h9.1), ?_⟩
      exact (h9.2.ub u (by omega)).ra (by omega)
def T_X0_init : ZTf := fun av M K KX => ∃ (b : Nat), av = [zo b] ∧ (zW M b 4) ∧ (zN M = b + 1) ∧ (b + 356 ≤ 668) ∧ (∀ M' : ZM, HA M b M' 6 → K none M')
set_option maxRecDepth 100000 in
set_option maxHeartbeats 1500000 in
theorem bd_X0_init : zBd (cd_X0_init T_X5_init) 2 355 3774 T_X0_init := by
  rintro av M K KX hA0 hM ⟨b, rfl, hw, hn, hb9, hK⟩
  have hc64 := hw.2.1
  refine ⟨rfl, fun Φ hΦ => ?_⟩
  have lo : ∀ i, 0 ≤ i → i ≤ 6 → ∀ (M90 : ZM) (k n : Nat), HA M b M90 i → (k : Int) = 1 + 59 * i → (n : Int) = 6 + 628 * i → Φ 25 [some (zo b), some (zi i)] [] M90 k n := by
    refine zdown (n := 6) (P := fun i => ∀ (M90 : ZM) (k n : Nat), HA M b M90 i → (k : Int) = 1 + 59 * i → (n : Int) = 6 + 628 * i → Φ 25 [some (zo b), some (zi i)] [] M90 k n) (fun i h0 h1 ih M90 k n hA90 hk hn => ?_)
    have hw90 := hA90.2.2.1
    have hrf := hA90.2.2.2.1
    have ha90 := hA90.2.2.2.2.1
    have hn90 := hA90.2.1
    have h64 : zCC ≤ zN M90 := by omega
    refine zGoR hΦ [25] 400 (fun hL9 _ hM _ _ => ?_)
    obtain ⟨qL1, _⟩ : zrg i ∧ True := hL9
    refine ⟨fun (qc1 : i ≥ 6) => (show K none M90 from ?g471l1), fun (qc2 : i < 6) => ⟨hw90, _, hrf, ⟨⟨(by omega), (by omega)⟩, ⟨rfl, ⟨⟨(by omega), (by omega)⟩, ⟨⟨rfl, rfl⟩, (zW.nn (κ := 8) (n := 0) h64).rcv⟩, ⟨(zN M90), rfl, (zW.nn (κ := 8) (n := 0) h64), rfl, (by omega), fun M1 hu1 hn91 hl1 ht1 => (have hu9 : UB (zN M90) M90 M1 := (UB.n (Nat.le_refl _)).tr hu1; fun qg3 qm4 => ⟨⟨(ha90.1.ub hu9 (by omega)), hl1.w, (by omega), (by rw [(hu9.2 (b + 1) (by omega)).2.1, ha90.2]; omega), (by omega)⟩, ⟨(zrgI (x := i + 1) (by omega)), (show Φ 25 [some (zo b), some (zi (i + 1))] [] (zsR M1 (b + 1) i.toNat (some (zN M90))) (k + 1 + 58) (n + 10 + 618) from ?g471l2)⟩⟩)⟩⟩⟩⟩⟩⟩
    case g471l1 =>
      have e9 : i = 6 := (by omega)
      subst e9
      exact hK M90 hA90
    case g471l2 =>
      exact ih (by omega) _ _ _ (HA.s (N := M1) hA90 h0 hu9 hn91 hl1) (by omega) (by omega)
  obtain ⟨a1, a2, a3, ⟨a4, a5, a6⟩, a7, a8, a9⟩ := A_sk (M := zsI (zsI M b 0 0) b 1 0) (b := b) (κ := 4) (κ9 := 32) (s := 2) (n := 6) (v := zN M) hw rfl
  refine zGoR hΦ [25] 400 (fun hL9 _ hM _ _ => ?_)
  obtain ⟨_⟩ : True := hL9
  refine ⟨(Nat.le_of_ble_eq_true rfl), ⟨⟨hw, trivial⟩, ⟨⟨hw, trivial⟩, ⟨⟨(by omega), (by omega), (by omega), (by omega)⟩, ⟨(zW.nw (κ' := 32) (n := 6) hw), (show Φ 25 [some (zo b), some (zi 0)] [] (zsR (zNw (zsI (zsI M b 0 0) b 1 0) 32 6) b 2 (some (zN M))) (0 + 1) (0 + 6) from ?g472l1)⟩⟩⟩⟩⟩
  case g472l1 =>
    have e1 : zN M = b + 1 := hn
    have t1 := (a9 b 4 hw).2.2
    refine lo 0 (by omega) (by omega) _ 1 6 ⟨((UB.i (Nat.le_refl _)).tr (UB.i (Nat.le_refl _))).tr a2, a1.trans ?_, a3, ?_, ?_, ?_, fun q q0 q1 => by omega⟩ rfl rfl
    · show zN M + 1 = _
      rw [e1]
      rfl
    · rw [← e1]; exact a7
    · rw [← e1]; exact ⟨a4, a5⟩
    · rw [t1]
      refine ⟨?_, ?_⟩ <;> simp (disch := omega) only [zIs, zIm, zIn, zIrf]
theorem M_X0_init {l : Launch} (hl : l.stackTraces = false) : zMet l yX0_init (Cond.code yX0_init cX0_init 2 (Option.none : Option Jvm.ClassFile.FieldType) :: zG) rm_X0_init 355 3774 T_X0_init := met_X0_init hl (M_X5_init hl) bd_X0_init
