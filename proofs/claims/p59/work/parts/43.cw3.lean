def T_J7_fill_53178 : ZTf := fun av M K KX => ∃ (j n : Nat) (v : Int), av = [zo j, zi v] ∧ (zW M j 20) ∧ (zLn M j = n) ∧ (n ≤ 1000) ∧  K none (zsA M j (cpG (zI M j) 0 (fun _ => v) 0 n))
set_option maxRecDepth 100000 in
set_option maxHeartbeats 4000000 in
theorem bd_J7_fill_53178 : zBd (cd_J7_fill_53178) 4 0 0 T_J7_fill_53178 := by
  rintro av M K KX hA0 hM ⟨j, n, v, rfl, hw, hl, hn, hK⟩
  refine ⟨rfl, fun Φ hΦ => ?_⟩
  have loop := zdown (n := (n : Int)) (P := fun i => Φ 5 [some (zo j), some (zi v), some (zi i), some (zi (n : Int))] [] (zsA M j (cpG (zI M j) 0 (fun _ => v) 0 i)) 0 0) (fun i h0 h1 ih => by
    refine zGoR hΦ [5] 400 (fun hL9 _ hM _ _ => ?_)
    obtain ⟨qL1, qL2, qL3, _⟩ : zrg v ∧ zrg i ∧ zrg (n : Int) ∧ True := hL9
    refine ⟨fun (qc1 : i ≥ (n : Int)) => (show K none (zsA M j (cpG (zI M j) 0 (fun _ => v) 0 i)) from ?g253l1), fun (qc2 : i < (n : Int)) => ⟨⟨zixW hw hl (i := i) (by omega) (by omega), trivial⟩, zMr (zsI_gU _ _ _ i _) (⟨(zrgI (x := i + 1) (by omega)), (show Φ 5 [some (zo j), some (zi v), some (zi (i + 1)), some (zi (n : Int))] [] (zsA M j (gU (cpG (zI M j) 0 (fun _ => v) 0 i) i v)) (0) (0) from ?g253l2)⟩)⟩⟩
    case g253l1 =>
      have e9 : i = n := (by omega)
      subst e9
      exact hK
    case g253l2 =>
      rw [cp_step (n' := i + 1) (by decide) h0 (by omega) rfl rfl]
      exact ih (by omega)
    done)
  refine zGoR hΦ [5] 400 (fun hL9 _ hM _ _ => ?_)
  obtain ⟨qL1, _⟩ : zrg v ∧ True := hL9
  refine ⟨(zlenW hw (by decide)), zIr (congrArg (fun n : Nat => (n : Int)) hl) ((show Φ 5 [some (zo j), some (zi v), some (zi 0), some (zi (n : Int))] [] M (0) (0) from ?g254l1))⟩
  case g254l1 =>
    have h9 := loop 0 (by omega) (by omega)
    rw [cp_0 _ _ _ _ (Int.le_refl 0), zsA_self] at h9
    exact h9
theorem M_J7_fill_53178 {l : Launch} (hl : l.stackTraces = false) : zMet l yJ7_fill_53178 (Cond.code yJ7_fill_53178 cJ7_fill_53178 4 (Option.none : Option Jvm.ClassFile.FieldType) :: zG) rm_J7_fill_53178 0 0 T_J7_fill_53178 := met_J7_fill_53178 hl bd_J7_fill_53178
def SVd (j : Nat) : Prop := 664 ≤ j ∧ j ≤ 667
def yv (G : Gm) (r k x i : Int) : Int := if i = k then x else if i < (G (132 + 16 * r + 6).toNat) then (G (132 + 16 * r + (7 + 3 * i + 1)).toNat) else -1
def uv (G : Gm) (r i : Int) : Int := if i < (G (132 + 16 * r + 6).toNat) then (G (6 + 9 * (G (132 + 16 * r + (7 + 3 * i + 0)).toNat) + 3).toNat) else 0
/-- what a verdict is: 0 nothing, 1 disputed, 2 4 5 finished by 01 02 12, 3 set aside -/
def vKd (st tl y0 y1 y2 : Int) : Int := if st = 0 then (if y0 = -1 ∨ y1 = -1 then 0 else if zabs (y0 - y1) ≤ tl then 2 else 1) else if st = 1 then (if ¬ zabs (y0 - y2) ≤ tl ∧ ¬ zabs (y1 - y2) ≤ tl then 3 else if zabs (y0 - y2) ≤ zabs (y1 - y2) then 4 else 5) else 0
def vSt (st kd : Int) : Int := if kd = 0 then st else if kd = 1 then 1 else if kd = 3 then 3 else 2
def vc0 (tl y0 y1 y2 kd : Int) : Int := if kd = 2 then 1 else if kd = 3 then -1 else if kd = 4 then 1 else if kd = 5 then (if zabs (y0 - y2) ≤ tl then 0 else -3) else 0
def vc1 (tl y0 y1 y2 kd : Int) : Int := if kd = 2 then 1 else if kd = 3 then -1 else if kd = 4 then (if zabs (y1 - y2) ≤ tl then 0 else -3) else if kd = 5 then 1 else 0
def vc2 (kd : Int) : Int := if kd = 3 then -1 else if kd = 4 ∨ kd = 5 then 1 else 0
def vP (kd : Int) : Int := if kd = 5 then 1 else 0
def vQ (kd : Int) : Int := if kd = 2 then 1 else if kd = 4 ∨ kd = 5 then 2 else 0
def vR (y0 y1 y2 u0 u1 u2 kd : Int) : Int := if kd = 2 then (if u0 < u1 then y1 else y0) else if kd = 4 then (if u0 < u2 then y2 else y0) else if kd = 5 then (if u1 < u2 then y2 else y1) else -1
/-- the verdict's numbers -/
def VV (M : ZM) (st tl y0 y1 y2 u0 u1 u2 kd : Int) : Prop := zI M 664 0 = vSt st kd ∧ zI M 664 1 = vR y0 y1 y2 u0 u1 u2 kd ∧ zI M 664 2 = vP kd ∧ zI M 664 3 = vQ kd ∧ zI M 665 0 = vc0 tl y0 y1 y2 kd ∧ zI M 665 1 = vc1 tl y0 y1 y2 kd ∧ zI M 665 2 = vc2 kd
def gKd (G : Gm) (r k x : Int) : Int := vKd (G (132 + 16 * r + 1).toNat) (G 0) (yv G r k x 0) (yv G r k x 1) (yv G r k x 2)
def gVV (M : ZM) (G : Gm) (r k x : Int) : Prop := VV M (G (132 + 16 * r + 1).toNat) (G 0) (yv G r k x 0) (yv G r k x 1) (yv G r k x 2) (uv G r 0) (uv G r 1) (uv G r 2) (gKd G r k x)
def T_X6_finishBy : ZTf := zInl (cd_X6_finishBy) 3 0 0 400
theorem M_X6_finishBy {l : Launch} (hl : l.stackTraces = false) : zMet l yX6_finishBy (Cond.code yX6_finishBy cX6_finishBy 3 (Option.none : Option Jvm.ClassFile.FieldType) :: zG) rm_X6_finishBy 0 0 T_X6_finishBy := met_X6_finishBy hl zInl_bd
def T_X6_judgePair : ZTf := zInl (cd_X6_judgePair T_X5_agree T_X6_finishBy) 2 0 0 400
theorem M_X6_judgePair {l : Launch} (hl : l.stackTraces = false) : zMet l yX6_judgePair (Cond.code yX6_judgePair cX6_judgePair 2 (Option.none : Option Jvm.ClassFile.FieldType) :: zG) rm_X6_judgePair 0 0 T_X6_judgePair := met_X6_judgePair hl (M_X5_agree hl) (M_X6_finishBy hl) zInl_bd
theorem TR.fr9 {S : Nat → Prop} {M M' : ZM} {t : Nat} {G : Gm} (h : TR M t G) (hL : LTab M t) (f : Fr S M M') (hG : GI G) (hs : ∀ j, t ≤ j → j < t + 59 → ¬ S j) : TR M' t G := by
  refine h.cp f.2.2 hG.c3 (fun k hk => ?_) (fun w w0 w1 => ?_) (fun r r0 r1 => ?_) (fun k hk => ?_)
  · rw [f.i hL.w (hs _ (by omega) (by omega))]
  · have hw := hG.1
    have hq := (hL.wk (i := w) w0 (by omega)).2
    exact ⟨fun k _ _ => by rw [f.i hq (hs _ (by omega) (by omega))], by rw [f.rr hq (hs _ (by omega) (by omega))]⟩
  · have hw := hG.2.1
    have hq := (hL.row (i := r) r0 (by omega)).2
    exact ⟨fun k _ => by rw [f.i hq.w (hs _ (by omega) (by omega))], fun k _ => by rw [f.i hq.a9 (hs _ (by omega) (by omega))]⟩
  · rw [f.i hL.aTst (hs _ (by omega) (by omega)), f.i hL.aTtold (hs _ (by omega) (by omega))]
    exact ⟨rfl, rfl⟩
theorem zfl3 (M : ZM) (v : Int) {k : Nat} (hk : k < 3) : zI (zsA M 665 (cpG (zI M 665) 0 (fun _ => v) 0 3)) 665 k = v := by
  rw [zI_A, cp_in _ _ _ _ _ (by omega)]
theorem zfln (M : ZM) (v : Int) {j : Nat} (hj : j ≠ 665) (k : Nat) : zI (zsA M 665 (cpG (zI M 665) 0 (fun _ => v) 0 3)) j k = zI M j k := congrFun (zI_An M _ hj) k
def T_X6_judgeThird : ZTf := zInl (cd_X6_judgeThird T_X5_agree T_J7_fill_53178 T_X6_finishBy) 4 0 0 400
theorem M_X6_judgeThird {l : Launch} (hl : l.stackTraces = false) : zMet l yX6_judgeThird (Cond.code yX6_judgeThird cX6_judgeThird 4 (Option.none : Option Jvm.ClassFile.FieldType) :: zG) rm_X6_judgeThird 0 0 T_X6_judgeThird := met_X6_judgeThird hl (M_X5_agree hl) (M_J7_fill_53178 hl) (M_X6_finishBy hl) zInl_bd
def T_X6_judge : ZTf := fun av M K KX => ∃ (G : Gm) (r k x : Int), av = [zo 664, zo 129, zo (129 + 11 + 2 * r.toNat), zi k, zi x] ∧ (LV M) ∧ (TR M 129 G) ∧ (GI G) ∧ (GV G) ∧ (GX G) ∧ (0 ≤ r ∧ r < G 5) ∧ (0 ≤ k ∧ k < (G (132 + 16 * r + 6).toNat)) ∧ (0 ≤ x ∧ x ≤ 99) ∧  (∀ M' : ZM, (Fr SVd M M') → (gVV M' G r k x) → K none M')
set_option maxRecDepth 100000 in
set_option maxHeartbeats 4000000 in
theorem bd_X6_judge : zBd (cd_X6_judge T_X4_resultAt T_X4_workerAt T_X6_judgePair T_X6_judgeThird) 7 0 0 T_X6_judge := by
  rintro av M K KX hA0 hM ⟨G, r, k, x, rfl, hL, hT, hG, hV9, hX9, hr, hk, hx, hK⟩
  obtain ⟨hw5, hr5, hR5⟩ := id hG
  obtain ⟨hv0, hv1, hv2, hv3, hvW, hvR, hvS⟩ := id hV9
  have hRr := hR5 r hr.1 hr.2
  have hm3 := hRr.2.1
  have hrv := hvR r hr.1 hr.2
  have hy : ∀ i, 0 ≤ i → -1 ≤ yv G r k x i ∧ yv G r k x i ≤ 99 := fun i q => by
    unfold yv
    split
    · omega
    · split
      · exact (hrv.2.2.2.2.2 i q (by assumption)).1
      · omega
  refine ⟨rfl, fun Φ hΦ => ?_⟩
  obtain ⟨st, hst⟩ : ∃ st, (G (132 + 16 * r + 1).toNat) = st := ⟨_, rfl⟩
  obtain ⟨tl, htl⟩ : ∃ tl, G 0 = tl := ⟨_, rfl⟩
  obtain ⟨m, hm⟩ : ∃ m, (G (132 + 16 * r + 6).toNat) = m := ⟨_, rfl⟩
  obtain ⟨y0, hy0⟩ : ∃ y0, yv G r k x 0 = y0 := ⟨_, rfl⟩
  obtain ⟨y1, hy1⟩ : ∃ y1, yv G r k x 1 = y1 := ⟨_, rfl⟩
  obtain ⟨y2, hy2⟩ : ∃ y2, yv G r k x 2 = y2 := ⟨_, rfl⟩
  obtain ⟨u0, hu0⟩ : ∃ u0, uv G r 0 = u0 := ⟨_, rfl⟩
  obtain ⟨u1, hu1⟩ : ∃ u1, uv G r 1 = u1 := ⟨_, rfl⟩
  obtain ⟨u2, hu2⟩ : ∃ u2, uv G r 2 = u2 := ⟨_, rfl⟩
  have yb0 := hy 0 (by decide)
  have yb1 := hy 1 (by decide)
  have yb2 := hy 2 (by decide)
  rw [hy0] at yb0
  rw [hy1] at yb1
  rw [hy2] at yb2
  have phB : ∀ (i1 i2 : Int) (M90 : ZM), Fr SVd M M90 → (zI M90 664 0 = st ∧ zI M90 664 1 = -1 ∧ zI M90 664 2 = 0 ∧ zI M90 664 3 = 0) → (zI M90 665 0 = 0 ∧ zI M90 665 1 = 0 ∧ zI M90 665 2 = 0) → (zI M90 666 0 = y0 ∧ zI M90 666 1 = y1 ∧ zI M90 666 2 = y2) → (zI M90 667 0 = u0 ∧ zI M90 667 1 = u1 ∧ zI M90 667 2 = u2) → Φ 122 [some (zo 664), some (zo 129), some (zo (129 + 11 + 2 * r.toNat)), some (zi k), some (zi x), some (zi i1), none] [] M90 0 0 := by
    intro i1 i2 M90 f9 hF hC hYy hU
    have hL90 := hL.fr f9
    have hT90 : TR M90 129 G := hT.fr9 hL.tab f9 hG (fun j j0 j1 => by unfold SVd; omega)
    have hX90 := hL90.tab
    obtain ⟨hF0, hF1, hF2, hF3⟩ := hF
    obtain ⟨hC0, hC1, hC2⟩ := hC
    obtain ⟨hY0, hY1, hY2⟩ := hYy
    obtain ⟨hU0, hU1, hU2⟩ := hU
    refine zGoR hΦ [] 400 (fun hL9 _ hM _ _ => ?_)
    obtain ⟨qL1, qL2, qL3, _⟩ : zrg k ∧ zrg x ∧ zrg i1 ∧ True := hL9
    refine ⟨(hX90.row (by omega) (by omega)).2.w, zIr ((hT90.r1 (r := r) (by omega) (by omega))) (⟨fun (qc1 : (G (132 + 16 * r + 1).toNat) ≠ 0) => ⟨(hX90.row (by omega) (by omega)).2.w, zIr ((hT90.r1 (r := r) (by omega) (by omega))) (⟨fun (qc2 : (G (132 + 16 * r + 1).toNat) ≠ 1) => (show K none M90 from ?g255l1), fun (qc3 : (G (132 + 16 * r + 1).toNat) = 1) => ⟨⟨⟨rfl, rfl⟩, hL90.wVd.rcv⟩, ⟨rfl, ⟨hL90.wVd, _, hL90.d5, ⟨zixO hL90.a_Vd5 hL90.l_Vd5 (i := 0) (by decide) (by decide), zIr (hY0) (⟨hL90.wVd, _, hL90.d5, ⟨zixO hL90.a_Vd5 hL90.l_Vd5 (i := 2) (by decide) (by decide), zIr (hY2) (⟨⟨⟨rfl, rfl⟩, hX90.w.rcv⟩, ⟨129, G, y0, y2, rfl, hX90, hT90, hG, (by omega), (by omega), fun (qg4 : zrg (b2i (fAgree G y0 y2))) qm5 => ⟨hL90.wVd, _, hL90.d5, ⟨zixO hL90.a_Vd5 hL90.l_Vd5 (i := 1) (by decide) (by decide), zIr (hY1) (⟨hL90.wVd, _, hL90.d5, ⟨zixO hL90.a_Vd5 hL90.l_Vd5 (i := 2) (by decide) (by decide), zIr (hY2) (⟨⟨⟨rfl, rfl⟩, hX90.w.rcv⟩, ⟨129, G, y1, y2, rfl, hX90, hT90, hG, (by omega), (by omega), fun (qg6 : zrg (b2i (fAgree G y1 y2))) qm7 => ⟨fun h => (have qc8 : (fAgree G y0 y2) = true := b2i_n0 h; ⟨hL90.wVd, _, hL90.d5, ⟨zixO hL90.a_Vd5 hL90.l_Vd5 (i := 0) (by decide) (by decide), zIr (hY0) (⟨hL90.wVd, _, hL90.d5, ⟨zixO hL90.a_Vd5 hL90.l_Vd5 (i := 2) (by decide) (by decide), zIr (hY2) (⟨(zrgI (x := y0 - y2) (by omega)), ⟨⟨rfl, zabsL (x := y0 - y2) (by omega)⟩, ⟨hL90.wVd, _, hL90.d5, ⟨zixO hL90.a_Vd5 hL90.l_Vd5 (i := 1) (by decide) (by decide), zIr (hY1) (⟨hL90.wVd, _, hL90.d5, ⟨zixO hL90.a_Vd5 hL90.l_Vd5 (i := 2) (by decide) (by decide), zIr (hY2) (⟨(zrgI (x := y1 - y2) (by omega)), ⟨⟨rfl, zabsL (x := y1 - y2) (by omega)⟩, ⟨fun (qc9 : zabs (y0 - y2) > zabs (y1 - y2)) => ⟨⟨⟨rfl, rfl⟩, hL90.wVd.rcv⟩, ⟨rfl, ⟨⟨hL90.wVd, trivial⟩, ⟨⟨hL90.wVd, trivial⟩, ⟨⟨hL90.wVd, trivial⟩, ⟨hL90.wVd, _, hL90.d6, ⟨zixO hL90.a_Vd6 hL90.l_Vd6 (i := 2) (by decide) (by decide), zIr ((zIn _ _ _ (by omega)).trans ((zIn _ _ _ (by omega)).trans ((zIn _ _ _ (by omega)).trans (hU2)))) (⟨hL90.wVd, _, hL90.d6, ⟨zixO hL90.a_Vd6 hL90.l_Vd6 (i := 1) (by decide) (by decide), zIr ((zIn _ _ _ (by omega)).trans ((zIn _ _ _ (by omega)).trans ((zIn _ _ _ (by omega)).trans (hU1)))) (⟨fun (qc10 : u2 ≤ u1) => ⟨hL90.wVd, _, hL90.d5, ⟨zixO hL90.a_Vd5 hL90.l_Vd5 (i := 1) (by decide) (by decide), zIr ((zIn _ _ _ (by omega)).trans ((zIn _ _ _ (by omega)).trans ((zIn _ _ _ (by omega)).trans (hY1)))) (⟨⟨hL90.wVd, trivial⟩, ⟨hL90.wVd, _, hL90.d4, ⟨⟨zixW hL90.a_Vd4 hL90.l_Vd4 (i := 1) (by decide) (by decide), trivial⟩, ⟨hL90.wVd, _, hL90.d4, ⟨⟨zixW hL90.a_Vd4 hL90.l_Vd4 (i := 2) (by decide) (by decide), trivial⟩, fun _ _ => ⟨hL90.wVd, _, hL90.d4, ⟨fun h => (have qc12 : (fAgree G y0 y2) = false := b2i_e0 h; ⟨⟨zixW hL90.a_Vd4 hL90.l_Vd4 (i := 0) (by decide) (by decide), trivial⟩, fun _ _ => (show K none (zsI (zsI (zsI (zsI (zsI (zsI (zsI M90 664 0 2) 664 2 1) 664 3 2) 664 1 y1) 665 1 1) 665 2 1) 665 0 (-3)) from ?g255l2)⟩), fun h => (have qc14 : (fAgree G y0 y2) = true := b2i_n0 h; ⟨⟨zixW hL90.a_Vd4 hL90.l_Vd4 (i := 0) (by decide) (by decide), trivial⟩, fun _ _ => (show K none (zsI (zsI (zsI (zsI (zsI (zsI (zsI M90 664 0 2) 664 2 1) 664 3 2) 664 1 y1) 665 1 1) 665 2 1) 665 0 0) from ?g255l3)⟩)⟩⟩⟩⟩⟩⟩⟩)⟩⟩, fun (qc16 : u2 > u1) => ⟨hL90.wVd, _, hL90.d5, ⟨zixO hL90.a_Vd5 hL90.l_Vd5 (i := 2) (by decide) (by decide), zIr ((zIn _ _ _ (by omega)).trans ((zIn _ _ _ (by omega)).trans ((zIn _ _ _ (by omega)).trans (hY2)))) (⟨⟨hL90.wVd, trivial⟩, ⟨hL90.wVd, _, hL90.d4, ⟨⟨zixW hL90.a_Vd4 hL90.l_Vd4 (i := 1) (by decide) (by decide), trivial⟩, ⟨hL90.wVd, _, hL90.d4, ⟨⟨zixW hL90.a_Vd4 hL90.l_Vd4 (i := 2) (by decide) (by decide), trivial⟩, fun _ _ => ⟨hL90.wVd, _, hL90.d4, ⟨fun h => (have qc18 : (fAgree G y0 y2) = false := b2i_e0 h; ⟨⟨zixW hL90.a_Vd4 hL90.l_Vd4 (i := 0) (by decide) (by decide), trivial⟩, fun _ _ => (show K none (zsI (zsI (zsI (zsI (zsI (zsI (zsI M90 664 0 2) 664 2 1) 664 3 2) 664 1 y2) 665 1 1) 665 2 1) 665 0 (-3)) from ?g255l4)⟩), fun h => (have qc20 : (fAgree G y0 y2) = true := b2i_n0 h; ⟨⟨zixW hL90.a_Vd4 hL90.l_Vd4 (i := 0) (by decide) (by decide), trivial⟩, fun _ _ => (show K none (zsI (zsI (zsI (zsI (zsI (zsI (zsI M90 664 0 2) 664 2 1) 664 3 2) 664 1 y2) 665 1 1) 665 2 1) 665 0 0) from ?g255l5)⟩)⟩⟩⟩⟩⟩⟩⟩)⟩⟩⟩)⟩⟩)⟩⟩⟩⟩⟩⟩⟩, fun (qc22 : zabs (y0 - y2) ≤ zabs (y1 - y2)) => ⟨⟨⟨rfl, rfl⟩, hL90.wVd.rcv⟩, ⟨rfl, ⟨⟨hL90.wVd, trivial⟩, ⟨⟨hL90.wVd, trivial⟩, ⟨⟨hL90.wVd, trivial⟩, ⟨hL90.wVd, _, hL90.d6, ⟨zixO hL90.a_Vd6 hL90.l_Vd6 (i := 2) (by decide) (by decide), zIr ((zIn _ _ _ (by omega)).trans ((zIn _ _ _ (by omega)).trans ((zIn _ _ _ (by omega)).trans (hU2)))) (⟨hL90.wVd, _, hL90.d6, ⟨zixO hL90.a_Vd6 hL90.l_Vd6 (i := 0) (by decide) (by decide), zIr ((zIn _ _ _ (by omega)).trans ((zIn _ _ _ (by omega)).trans ((zIn _ _ _ (by omega)).trans (hU0)))) (⟨fun (qc23 : u2 ≤ u0) => ⟨hL90.wVd, _, hL90.d5, ⟨zixO hL90.a_Vd5 hL90.l_Vd5 (i := 0) (by decide) (by decide), zIr ((zIn _ _ _ (by omega)).trans ((zIn _ _ _ (by omega)).trans ((zIn _ _ _ (by omega)).trans (hY0)))) (⟨⟨hL90.wVd, trivial⟩, ⟨hL90.wVd, _, hL90.d4, ⟨⟨zixW hL90.a_Vd4 hL90.l_Vd4 (i := 0) (by decide) (by decide), trivial⟩, ⟨hL90.wVd, _, hL90.d4, ⟨⟨zixW hL90.a_Vd4 hL90.l_Vd4 (i := 2) (by decide) (by decide), trivial⟩, fun _ _ => ⟨hL90.wVd, _, hL90.d4, ⟨fun h => (have qc25 : (fAgree G y1 y2) = false := b2i_e0 h; ⟨⟨zixW hL90.a_Vd4 hL90.l_Vd4 (i := 1) (by decide) (by decide), trivial⟩, fun _ _ => (show K none (zsI (zsI (zsI (zsI (zsI (zsI (zsI M90 664 0 2) 664 2 0) 664 3 2) 664 1 y0) 665 0 1) 665 2 1) 665 1 (-3)) from ?g255l6)⟩), fun h => (have qc27 : (fAgree G y1 y2) = true := b2i_n0 h; ⟨⟨zixW hL90.a_Vd4 hL90.l_Vd4 (i := 1) (by decide) (by decide), trivial⟩, fun _ _ => (show K none (zsI (zsI (zsI (zsI (zsI (zsI (zsI M90 664 0 2) 664 2 0) 664 3 2) 664 1 y0) 665 0 1) 665 2 1) 665 1 0) from ?g255l7)⟩)⟩⟩⟩⟩⟩⟩⟩)⟩⟩, fun (qc29 : u2 > u0) => ⟨hL90.wVd, _, hL90.d5, ⟨zixO hL90.a_Vd5 hL90.l_Vd5 (i := 2) (by decide) (by decide), zIr ((zIn _ _ _ (by omega)).trans ((zIn _ _ _ (by omega)).trans ((zIn _ _ _ (by omega)).trans (hY2)))) (⟨⟨hL90.wVd, trivial⟩, ⟨hL90.wVd, _, hL90.d4, ⟨⟨zixW hL90.a_Vd4 hL90.l_Vd4 (i := 0) (by decide) (by decide), trivial⟩, ⟨hL90.wVd, _, hL90.d4, ⟨⟨zixW hL90.a_Vd4 hL90.l_Vd4 (i := 2) (by decide) (by decide), trivial⟩, fun _ _ => ⟨hL90.wVd, _, hL90.d4, ⟨fun h => (have qc31 : (fAgree G y1 y2) = false := b2i_e0 h; ⟨⟨zixW hL90.a_Vd4 hL90.l_Vd4 (i := 1) (by decide) (by decide), trivial⟩, fun _ _ => (show K none (zsI (zsI (zsI (zsI (zsI (zsI (zsI M90 664 0 2) 664 2 0) 664 3 2) 664 1 y2) 665 0 1) 665 2 1) 665 1 (-3)) from ?g255l8)⟩), fun h => (have qc33 : (fAgree G y1 y2) = true := b2i_n0 h; ⟨⟨zixW hL90.a_Vd4 hL90.l_Vd4 (i := 1) (by decide) (by decide), trivial⟩, fun _ _ => (show K none (zsI (zsI (zsI (zsI (zsI (zsI (zsI M90 664 0 2) 664 2 0) 664 3 2) 664 1 y2) 665 0 1) 665 2 1) 665 1 0) from ?g255l9)⟩)⟩⟩⟩⟩⟩⟩⟩)⟩⟩⟩)⟩⟩)⟩⟩⟩⟩⟩⟩⟩⟩⟩⟩)⟩⟩)⟩⟩⟩⟩)⟩⟩)⟩⟩), fun h => (have qc35 : (fAgree G y0 y2) = false := b2i_e0 h; ⟨fun h => (have qc36 : (fAgree G y1 y2) = true := b2i_n0 h; ⟨hL90.wVd, _, hL90.d5, ⟨zixO hL90.a_Vd5 hL90.l_Vd5 (i := 0) (by decide) (by decide), zIr (hY0) (⟨hL90.wVd, _, hL90.d5, ⟨zixO hL90.a_Vd5 hL90.l_Vd5 (i := 2) (by decide) (by decide), zIr (hY2) (⟨(zrgI (x := y0 - y2) (by omega)), ⟨⟨rfl, zabsL (x := y0 - y2) (by omega)⟩, ⟨hL90.wVd, _, hL90.d5, ⟨zixO hL90.a_Vd5 hL90.l_Vd5 (i := 1) (by decide) (by decide), zIr (hY1) (⟨hL90.wVd, _, hL90.d5, ⟨zixO hL90.a_Vd5 hL90.l_Vd5 (i := 2) (by decide) (by decide), zIr (hY2) (⟨(zrgI (x := y1 - y2) (by omega)), ⟨⟨rfl, zabsL (x := y1 - y2) (by omega)⟩, ⟨fun (qc37 : zabs (y0 - y2) > zabs (y1 - y2)) => ⟨⟨⟨rfl, rfl⟩, hL90.wVd.rcv⟩, ⟨rfl, ⟨⟨hL90.wVd, trivial⟩, ⟨⟨hL90.wVd, trivial⟩, ⟨⟨hL90.wVd, trivial⟩, ⟨hL90.wVd, _, hL90.d6, ⟨zixO hL90.a_Vd6 hL90.l_Vd6 (i := 2) (by decide) (by decide), zIr ((zIn _ _ _ (by omega)).trans ((zIn _ _ _ (by omega)).trans ((zIn _ _ _ (by omega)).trans (hU2)))) (⟨hL90.wVd, _, hL90.d6, ⟨zixO hL90.a_Vd6 hL90.l_Vd6 (i := 1) (by decide) (by decide), zIr ((zIn _ _ _ (by omega)).trans ((zIn _ _ _ (by omega)).trans ((zIn _ _ _ (by omega)).trans (hU1)))) (⟨fun (qc38 : u2 ≤ u1) => ⟨hL90.wVd, _, hL90.d5, ⟨zixO hL90.a_Vd5 hL90.l_Vd5 (i := 1) (by decide) (by decide), zIr ((zIn _ _ _ (by omega)).trans ((zIn _ _ _ (by omega)).trans ((zIn _ _ _ (by omega)).trans (hY1)))) (⟨⟨hL90.wVd, trivial⟩, ⟨hL90.wVd, _, hL90.d4, ⟨⟨zixW hL90.a_Vd4 hL90.l_Vd4 (i := 1) (by decide) (by decide), trivial⟩, ⟨hL90.wVd, _, hL90.d4, ⟨⟨zixW hL90.a_Vd4 hL90.l_Vd4 (i := 2) (by decide) (by decide), trivial⟩, fun _ _ => ⟨hL90.wVd, _, hL90.d4, ⟨fun h => (have qc40 : (fAgree G y0 y2) = false := b2i_e0 h; ⟨⟨zixW hL90.a_Vd4 hL90.l_Vd4 (i := 0) (by decide) (by decide), trivial⟩, fun _ _ => (show K none (zsI (zsI (zsI (zsI (zsI (zsI (zsI M90 664 0 2) 664 2 1) 664 3 2) 664 1 y1) 665 1 1) 665 2 1) 665 0 (-3)) from ?g255l10)⟩), fun h => (have qc42 : (fAgree G y0 y2) = true := b2i_n0 h; ⟨⟨zixW hL90.a_Vd4 hL90.l_Vd4 (i := 0) (by decide) (by decide), trivial⟩, fun _ _ => (show K none (zsI (zsI (zsI (zsI (zsI (zsI (zsI M90 664 0 2) 664 2 1) 664 3 2) 664 1 y1) 665 1 1) 665 2 1) 665 0 0) from ?g255l11)⟩)⟩⟩⟩⟩⟩⟩⟩)⟩⟩, fun (qc44 : u2 > u1) => ⟨hL90.wVd, _, hL90.d5, ⟨zixO hL90.a_Vd5 hL90.l_Vd5 (i := 2) (by decide) (by decide), zIr ((zIn _ _ _ (by omega)).trans ((zIn _ _ _ (by omega)).trans ((zIn _ _ _ (by omega)).trans (hY2)))) (⟨⟨hL90.wVd, trivial⟩, ⟨hL90.wVd, _, hL90.d4, ⟨⟨zixW hL90.a_Vd4 hL90.l_Vd4 (i := 1) (by decide) (by decide), trivial⟩, ⟨hL90.wVd, _, hL90.d4, ⟨⟨zixW hL90.a_Vd4 hL90.l_Vd4 (i := 2) (by decide) (by decide), trivial⟩, fun _ _ => ⟨hL90.wVd, _, hL90.d4, ⟨fun h => (have qc46 : (fAgree G y0 y2) = false := b2i_e0 h; ⟨⟨zixW hL90.a_Vd4 hL90.l_Vd4 (i := 0) (by decide) (by decide), trivial⟩, fun _ _ => (show K none (zsI (zsI (zsI (zsI (zsI (zsI (zsI M90 664 0 2) 664 2 1) 664 3 2) 664 1 y2) 665 1 1) 665 2 1) 665 0 (-3)) from ?g255l12)⟩), fun h => (have qc48 : (fAgree G y0 y2) = true := b2i_n0 h; ⟨⟨zixW hL90.a_Vd4 hL90.l_Vd4 (i := 0) (by decide) (by decide), trivial⟩, fun _ _ => (show K none (zsI (zsI (zsI (zsI (zsI (zsI (zsI M90 664 0 2) 664 2 1) 664 3 2) 664 1 y2) 665 1 1) 665 2 1) 665 0 0) from ?g255l13)⟩)⟩⟩⟩⟩⟩⟩⟩)⟩⟩⟩)⟩⟩)⟩⟩⟩⟩⟩⟩⟩, fun (qc50 : zabs (y0 - y2) ≤ zabs (y1 - y2)) => ⟨⟨⟨rfl, rfl⟩, hL90.wVd.rcv⟩, ⟨rfl, ⟨⟨hL90.wVd, trivial⟩, ⟨⟨hL90.wVd, trivial⟩, ⟨⟨hL90.wVd, trivial⟩, ⟨hL90.wVd, _, hL90.d6, ⟨zixO hL90.a_Vd6 hL90.l_Vd6 (i := 2) (by decide) (by decide), zIr ((zIn _ _ _ (by omega)).trans ((zIn _ _ _ (by omega)).trans ((zIn _ _ _ (by omega)).trans (hU2)))) (⟨hL90.wVd, _, hL90.d6, ⟨zixO hL90.a_Vd6 hL90.l_Vd6 (i := 0) (by decide) (by decide), zIr ((zIn _ _ _ (by omega)).trans ((zIn _ _ _ (by omega)).trans ((zIn _ _ _ (by omega)).trans (hU0)))) (⟨fun (qc51 : u2 ≤ u0) => ⟨hL90.wVd, _, hL90.d5, ⟨zixO hL90.a_Vd5 hL90.l_Vd5 (i := 0) (by decide) (by decide), zIr ((zIn _ _ _ (by omega)).trans ((zIn _ _ _ (by omega)).trans ((zIn _ _ _ (by omega)).trans (hY0)))) (⟨⟨hL90.wVd, trivial⟩, ⟨hL90.wVd, _, hL90.d4, ⟨⟨zixW hL90.a_Vd4 hL90.l_Vd4 (i := 0) (by decide) (by decide), trivial⟩, ⟨hL90.wVd, _, hL90.d4, ⟨⟨zixW hL90.a_Vd4 hL90.l_Vd4 (i := 2) (by decide) (by decide), trivial⟩, fun _ _ => ⟨hL90.wVd, _, hL90.d4, ⟨fun h => (have qc53 : (fAgree G y1 y2) = false := b2i_e0 h; ⟨⟨zixW hL90.a_Vd4 hL90.l_Vd4 (i := 1) (by decide) (by decide), trivial⟩, fun _ _ => (show K none (zsI (zsI (zsI (zsI (zsI (zsI (zsI M90 664 0 2) 664 2 0) 664 3 2) 664 1 y0) 665 0 1) 665 2 1) 665 1 (-3)) from ?g255l14)⟩), fun h => (have qc55 : (fAgree G y1 y2) = true := b2i_n0 h; ⟨⟨zixW hL90.a_Vd4 hL90.l_Vd4 (i := 1) (by decide) (by decide), trivial⟩, fun _ _ => (show K none (zsI (zsI (zsI (zsI (zsI (zsI (zsI M90 664 0 2) 664 2 0) 664 3 2) 664 1 y0) 665 0 1) 665 2 1) 665 1 0) from ?g255l15)⟩)⟩⟩⟩⟩⟩⟩⟩)⟩⟩, fun (qc57 : u2 > u0) => ⟨hL90.wVd, _, hL90.d5, ⟨zixO hL90.a_Vd5 hL90.l_Vd5 (i := 2) (by decide) (by decide), zIr ((zIn _ _ _ (by omega)).trans ((zIn _ _ _ (by omega)).trans ((zIn _ _ _ (by omega)).trans (hY2)))) (⟨⟨hL90.wVd, trivial⟩, ⟨hL90.wVd, _, hL90.d4, ⟨⟨zixW hL90.a_Vd4 hL90.l_Vd4 (i := 0) (by decide) (by decide), trivial⟩, ⟨hL90.wVd, _, hL90.d4, ⟨⟨zixW hL90.a_Vd4 hL90.l_Vd4 (i := 2) (by decide) (by decide), trivial⟩, fun _ _ => ⟨hL90.wVd, _, hL90.d4, ⟨fun h => (have qc59 : (fAgree G y1 y2) = false := b2i_e0 h; ⟨⟨zixW hL90.a_Vd4 hL90.l_Vd4 (i := 1) (by decide) (by decide), trivial⟩, fun _ _ => (show K none (zsI (zsI (zsI (zsI (zsI (zsI (zsI M90 664 0 2) 664 2 0) 664 3 2) 664 1 y2) 665 0 1) 665 2 1) 665 1 (-3)) from ?g255l16)⟩), fun h => (have qc61 : (fAgree G y1 y2) = true := b2i_n0 h; ⟨⟨zixW hL90.a_Vd4 hL90.l_Vd4 (i := 1) (by decide) (by decide), trivial⟩, fun _ _ => (show K none (zsI (zsI (zsI (zsI (zsI (zsI (zsI M90 664 0 2) 664 2 0) 664 3 2) 664 1 y2) 665 0 1) 665 2 1) 665 1 0) from ?g255l17)⟩)⟩⟩⟩⟩⟩⟩⟩)⟩⟩⟩)⟩⟩)⟩⟩⟩⟩⟩⟩⟩⟩⟩⟩)⟩⟩)⟩⟩⟩⟩)⟩⟩)⟩⟩), fun h => (have qc63 : (fAgree G y1 y2) = false := b2i_e0 h; ⟨⟨hL90.wVd, trivial⟩, ⟨hL90.wVd, _, hL90.d4, ⟨⟨⟨rfl, rfl⟩, trivial⟩, ⟨665, 3, (-1), rfl, hL90.a_Vd4, hL90.l_Vd4, (by decide), fun qg64 qm65 => fun _ _ => (show K none (zsA (zsI M90 664 0 3) 665 (cpG (zI M90 665) 0 (fun _ => (-1)) 0 3)) from ?g255l18)⟩⟩⟩⟩)⟩)⟩⟩⟩)⟩⟩)⟩⟩⟩⟩)⟩⟩)⟩⟩⟩⟩⟩)⟩, fun (qc67 : (G (132 + 16 * r + 1).toNat) = 0) => ⟨⟨⟨rfl, rfl⟩, hL90.wVd.rcv⟩, ⟨rfl, ⟨hL90.wVd, _, hL90.d5, ⟨zixO hL90.a_Vd5 hL90.l_Vd5 (i := 0) (by decide) (by decide), zIr (hY0) (⟨fun (qc68 : y0 = (-1)) => fun _ _ => (show K none M90 from ?g255l19), fun (qc70 : y0 ≠ (-1)) => ⟨hL90.wVd, _, hL90.d5, ⟨zixO hL90.a_Vd5 hL90.l_Vd5 (i := 1) (by decide) (by decide), zIr (hY1) (⟨fun (qc71 : y1 ≠ (-1)) => ⟨hL90.wVd, _, hL90.d5, ⟨zixO hL90.a_Vd5 hL90.l_Vd5 (i := 0) (by decide) (by decide), zIr (hY0) (⟨hL90.wVd, _, hL90.d5, ⟨zixO hL90.a_Vd5 hL90.l_Vd5 (i := 1) (by decide) (by decide), zIr (hY1) (⟨⟨⟨rfl, rfl⟩, hX90.w.rcv⟩, ⟨129, G, y0, y1, rfl, hX90, hT90, hG, (by omega), (by omega), fun (qg72 : zrg (b2i (fAgree G y0 y1))) qm73 => ⟨fun h => (have qc74 : (fAgree G y0 y1) = false := b2i_e0 h; ⟨⟨hL90.wVd, trivial⟩, fun _ _ => (show K none (zsI M90 664 0 1) from ?g255l20)⟩), fun h => (have qc76 : (fAgree G y0 y1) = true := b2i_n0 h; ⟨⟨⟨rfl, rfl⟩, hL90.wVd.rcv⟩, ⟨rfl, ⟨⟨hL90.wVd, trivial⟩, ⟨⟨hL90.wVd, trivial⟩, ⟨⟨hL90.wVd, trivial⟩, ⟨hL90.wVd, _, hL90.d6, ⟨zixO hL90.a_Vd6 hL90.l_Vd6 (i := 1) (by decide) (by decide), zIr ((zIn _ _ _ (by omega)).trans ((zIn _ _ _ (by omega)).trans ((zIn _ _ _ (by omega)).trans (hU1)))) (⟨hL90.wVd, _, hL90.d6, ⟨zixO hL90.a_Vd6 hL90.l_Vd6 (i := 0) (by decide) (by decide), zIr ((zIn _ _ _ (by omega)).trans ((zIn _ _ _ (by omega)).trans ((zIn _ _ _ (by omega)).trans (hU0)))) (⟨fun (qc77 : u1 ≤ u0) => ⟨hL90.wVd, _, hL90.d5, ⟨zixO hL90.a_Vd5 hL90.l_Vd5 (i := 0) (by decide) (by decide), zIr ((zIn _ _ _ (by omega)).trans ((zIn _ _ _ (by omega)).trans ((zIn _ _ _ (by omega)).trans (hY0)))) (⟨⟨hL90.wVd, trivial⟩, ⟨hL90.wVd, _, hL90.d4, ⟨⟨zixW hL90.a_Vd4 hL90.l_Vd4 (i := 0) (by decide) (by decide), trivial⟩, ⟨hL90.wVd, _, hL90.d4, ⟨⟨zixW hL90.a_Vd4 hL90.l_Vd4 (i := 1) (by decide) (by decide), trivial⟩, fun _ _ => fun _ _ => (show K none (zsI (zsI (zsI (zsI (zsI (zsI M90 664 0 2) 664 2 0) 664 3 1) 664 1 y0) 665 0 1) 665 1 1) from ?g255l21)⟩⟩⟩⟩⟩)⟩⟩, fun (qc80 : u1 > u0) => ⟨hL90.wVd, _, hL90.d5, ⟨zixO hL90.a_Vd5 hL90.l_Vd5 (i := 1) (by decide) (by decide), zIr ((zIn _ _ _ (by omega)).trans ((zIn _ _ _ (by omega)).trans ((zIn _ _ _ (by omega)).trans (hY1)))) (⟨⟨hL90.wVd, trivial⟩, ⟨hL90.wVd, _, hL90.d4, ⟨⟨zixW hL90.a_Vd4 hL90.l_Vd4 (i := 0) (by decide) (by decide), trivial⟩, ⟨hL90.wVd, _, hL90.d4, ⟨⟨zixW hL90.a_Vd4 hL90.l_Vd4 (i := 1) (by decide) (by decide), trivial⟩, fun _ _ => fun _ _ => (show K none (zsI (zsI (zsI (zsI (zsI (zsI M90 664 0 2) 664 2 0) 664 3 1) 664 1 y1) 665 0 1) 665 1 1) from ?g255l22)⟩⟩⟩⟩⟩)⟩⟩⟩)⟩⟩)⟩⟩⟩⟩⟩⟩⟩)⟩⟩⟩)⟩⟩)⟩⟩, fun (qc83 : y1 = (-1)) => fun _ _ => (show K none M90 from ?g255l23)⟩)⟩⟩⟩)⟩⟩⟩⟩⟩)⟩
    case g255l1 =>
      have zqc1 : st ≠ 0 := fun e9 => qc1 (hst.trans e9)
      have zqc2 : st ≠ 1 := fun e9 => qc2 (hst.trans e9)
      refine hK _ (f9.tr Fr.rf) ?_
      unfold gVV gKd
      rw [hst, htl, hy0, hy1, hy2, hu0, hu1, hu2]
      have hkd : vKd st tl y0 y1 y2 = 0 := by unfold vKd; first | (simp only [↓reduceIte, decide_eq_true_eq, decide_eq_false_iff_not, decide_true, decide_false, ne_eq, not_true_eq_false, not_false_eq_true, and_true, true_and, and_false, false_and, or_true, true_or, or_false, false_or, and_self, or_self, Bool.true_and, Bool.and_true, Bool.false_and, Bool.and_false, b2i, Bool.false_eq_true, reduceCtorEq, gt_iff_lt, ge_iff_le, zqc1, zqc2]; done) | (simp [zqc1, zqc2]; done) | (simp [zqc1, zqc2]; omega)
      rw [hkd]
      unfold VV
      refine ⟨?_, ?_, ?_, ?_, ?_, ?_, ?_⟩
      all_goals first
        | ((try simp (disch := omega) only [zIs, zIm, zIn, zIrf]); first | rfl | assumption | (simp [vSt, vR, vP, vQ, vc0, vc1, vc2, zqc1, zqc2]; done) | (simp [vSt, vR, vP, vQ, vc0, vc1, vc2, zqc1, zqc2]; assumption))
    case g255l2 =>
      have zqc1 : st ≠ 0 := fun e9 => qc1 (hst.trans e9)
      have zqc3 : st = 1 := hst.symm.trans qc3
      have zqc8 : zabs (y0 - y2) ≤ tl := by have h9 := qc8; unfold fAgree at h9; rw [htl] at h9; exact of_decide_eq_true h9
      have zqc12 : ¬ zabs (y0 - y2) ≤ tl := by have h9 := qc12; unfold fAgree at h9; rw [htl] at h9; exact of_decide_eq_false h9
      exact absurd zqc8 zqc12
    case g255l3 =>
      have zqc1 : st ≠ 0 := fun e9 => qc1 (hst.trans e9)
      have zqc3 : st = 1 := hst.symm.trans qc3
      have zqc8 : zabs (y0 - y2) ≤ tl := by have h9 := qc8; unfold fAgree at h9; rw [htl] at h9; exact of_decide_eq_true h9
      have zqc14 : zabs (y0 - y2) ≤ tl := by have h9 := qc14; unfold fAgree at h9; rw [htl] at h9; exact of_decide_eq_true h9
      refine hK _ (f9.tr (((((((Fr_I hL90.wVd (by decide) (by decide) (by unfold SVd; omega)).tr (Fr_I hL90.wVd (by decide) (by decide) (by unfold SVd; omega))).tr (Fr_I hL90.wVd (by decide) (by decide) (by unfold SVd; omega))).tr (Fr_I hL90.wVd (by decide) (by decide) (by unfold SVd; omega))).tr (Fr_I hL90.a_Vd4 (by decide) (by decide) (by unfold SVd; omega))).tr (Fr_I hL90.a_Vd4 (by decide) (by decide) (by unfold SVd; omega))).tr (Fr_I hL90.a_Vd4 (by decide) (by decide) (by unfold SVd; omega)))) ?_
      unfold gVV gKd
      rw [hst, htl, hy0, hy1, hy2, hu0, hu1, hu2]
      have hkd : vKd st tl y0 y1 y2 = 5 := by unfold vKd; first | (simp only [↓reduceIte, decide_eq_true_eq, decide_eq_false_iff_not, decide_true, decide_false, ne_eq, not_true_eq_false, not_false_eq_true, and_true, true_and, and_false, false_and, or_true, true_or, or_false, false_or, and_self, or_self, Bool.true_and, Bool.and_true, Bool.false_and, Bool.and_false, b2i, Bool.false_eq_true, reduceCtorEq, gt_iff_lt, ge_iff_le, zqc1, zqc3, zqc8, qc9, Int.not_le.mpr qc9, qc10, Int.not_lt.mpr qc10, zqc14]; done) | (simp [zqc1, zqc3, zqc8, qc9, Int.not_le.mpr qc9, qc10, Int.not_lt.mpr qc10, zqc14]; done) | (simp [zqc1, zqc3, zqc8, qc9, Int.not_le.mpr qc9, qc10, Int.not_lt.mpr qc10, zqc14]; omega)
      rw [hkd]
      unfold VV
      refine ⟨?_, ?_, ?_, ?_, ?_, ?_, ?_⟩
      all_goals first
        | ((try simp (disch := omega) only [zIs, zIm, zIn, zIrf]); first | rfl | assumption | (simp [vSt, vR, vP, vQ, vc0, vc1, vc2, zqc1, zqc3, zqc8, qc9, Int.not_le.mpr qc9, qc10, Int.not_lt.mpr qc10, zqc14]; done) | (simp [vSt, vR, vP, vQ, vc0, vc1, vc2, zqc1, zqc3, zqc8, qc9, Int.not_le.mpr qc9, qc10, Int.not_lt.mpr qc10, zqc14]; assumption))
    case g255l4 =>
      have zqc1 : st ≠ 0 := fun e9 => qc1 (hst.trans e9)
      have zqc3 : st = 1 := hst.symm.trans qc3
      have zqc8 : zabs (y0 - y2) ≤ tl := by have h9 := qc8; unfold fAgree at h9; rw [htl] at h9; exact of_decide_eq_true h9
      have zqc18 : ¬ zabs (y0 - y2) ≤ tl := by have h9 := qc18; unfold fAgree at h9; rw [htl] at h9; exact of_decide_eq_false h9
      exact absurd zqc8 zqc18
    case g255l5 =>
      have zqc1 : st ≠ 0 := fun e9 => qc1 (hst.trans e9)
      have zqc3 : st = 1 := hst.symm.trans qc3
      have zqc8 : zabs (y0 - y2) ≤ tl := by have h9 := qc8; unfold fAgree at h9; rw [htl] at h9; exact of_decide_eq_true h9
      have zqc20 : zabs (y0 - y2) ≤ tl := by have h9 := qc20; unfold fAgree at h9; rw [htl] at h9; exact of_decide_eq_true h9
      refine hK _ (f9.tr (((((((Fr_I hL90.wVd (by decide) (by decide) (by unfold SVd; omega)).tr (Fr_I hL90.wVd (by decide) (by decide) (by unfold SVd; omega))).tr (Fr_I hL90.wVd (by decide) (by decide) (by unfold SVd; omega))).tr (Fr_I hL90.wVd (by decide) (by decide) (by unfold SVd; omega))).tr (Fr_I hL90.a_Vd4 (by decide) (by decide) (by unfold SVd; omega))).tr (Fr_I hL90.a_Vd4 (by decide) (by decide) (by unfold SVd; omega))).tr (Fr_I hL90.a_Vd4 (by decide) (by decide) (by unfold SVd; omega)))) ?_
      unfold gVV gKd
      rw [hst, htl, hy0, hy1, hy2, hu0, hu1, hu2]
      have hkd : vKd st tl y0 y1 y2 = 5 := by unfold vKd; first | (simp only [↓reduceIte, decide_eq_true_eq, decide_eq_false_iff_not, decide_true, decide_false, ne_eq, not_true_eq_false, not_false_eq_true, and_true, true_and, and_false, false_and, or_true, true_or, or_false, false_or, and_self, or_self, Bool.true_and, Bool.and_true, Bool.false_and, Bool.and_false, b2i, Bool.false_eq_true, reduceCtorEq, gt_iff_lt, ge_iff_le, zqc1, zqc3, zqc8, qc9, Int.not_le.mpr qc9, qc16, Int.not_le.mpr qc16, zqc20]; done) | (simp [zqc1, zqc3, zqc8, qc9, Int.not_le.mpr qc9, qc16, Int.not_le.mpr qc16, zqc20]; done) | (simp [zqc1, zqc3, zqc8, qc9, Int.not_le.mpr qc9, qc16, Int.not_le.mpr qc16, zqc20]; omega)
      rw [hkd]
      unfold VV
      refine ⟨?_, ?_, ?_, ?_, ?_, ?_, ?_⟩
      all_goals first
        | ((try simp (disch := omega) only [zIs, zIm, zIn, zIrf]); first | rfl | assumption | (simp [vSt, vR, vP, vQ, vc0, vc1, vc2, zqc1, zqc3, zqc8, qc9, Int.not_le.mpr qc9, qc16, Int.not_le.mpr qc16, zqc20]; done) | (simp [vSt, vR, vP, vQ, vc0, vc1, vc2, zqc1, zqc3, zqc8, qc9, Int.not_le.mpr qc9, qc16, Int.not_le.mpr qc16, zqc20]; assumption))
    case g255l6 =>
      have zqc1 : st ≠ 0 := fun e9 => qc1 (hst.trans e9)
      have zqc3 : st = 1 := hst.symm.trans qc3
      have zqc8 : zabs (y0 - y2) ≤ tl := by have h9 := qc8; unfold fAgree at h9; rw [htl] at h9; exact of_decide_eq_true h9
      have zqc25 : ¬ zabs (y1 - y2) ≤ tl := by have h9 := qc25; unfold fAgree at h9; rw [htl] at h9; exact of_decide_eq_false h9
      refine hK _ (f9.tr (((((((Fr_I hL90.wVd (by decide) (by decide) (by unfold SVd; omega)).tr (Fr_I hL90.wVd (by decide) (by decide) (by unfold SVd; omega))).tr (Fr_I hL90.wVd (by decide) (by decide) (by unfold SVd; omega))).tr (Fr_I hL90.wVd (by decide) (by decide) (by unfold SVd; omega))).tr (Fr_I hL90.a_Vd4 (by decide) (by decide) (by unfold SVd; omega))).tr (Fr_I hL90.a_Vd4 (by decide) (by decide) (by unfold SVd; omega))).tr (Fr_I hL90.a_Vd4 (by decide) (by decide) (by unfold SVd; omega)))) ?_
      unfold gVV gKd
      rw [hst, htl, hy0, hy1, hy2, hu0, hu1, hu2]
      have hkd : vKd st tl y0 y1 y2 = 4 := by unfold vKd; first | (simp only [↓reduceIte, decide_eq_true_eq, decide_eq_false_iff_not, decide_true, decide_false, ne_eq, not_true_eq_false, not_false_eq_true, and_true, true_and, and_false, false_and, or_true, true_or, or_false, false_or, and_self, or_self, Bool.true_and, Bool.and_true, Bool.false_and, Bool.and_false, b2i, Bool.false_eq_true, reduceCtorEq, gt_iff_lt, ge_iff_le, zqc1, zqc3, zqc8, qc22, Int.not_lt.mpr qc22, qc23, Int.not_lt.mpr qc23, zqc25]; done) | (simp [zqc1, zqc3, zqc8, qc22, Int.not_lt.mpr qc22, qc23, Int.not_lt.mpr qc23, zqc25]; done) | (simp [zqc1, zqc3, zqc8, qc22, Int.not_lt.mpr qc22, qc23, Int.not_lt.mpr qc23, zqc25]; omega)
      rw [hkd]
      unfold VV
      refine ⟨?_, ?_, ?_, ?_, ?_, ?_, ?_⟩
      all_goals first
        | ((try simp (disch := omega) only [zIs, zIm, zIn, zIrf]); first | rfl | assumption | (simp [vSt, vR, vP, vQ, vc0, vc1, vc2, zqc1, zqc3, zqc8, qc22, Int.not_lt.mpr qc22, qc23, Int.not_lt.mpr qc23, zqc25]; done) | (simp [vSt, vR, vP, vQ, vc0, vc1, vc2, zqc1, zqc3, zqc8, qc22, Int.not_lt.mpr qc22, qc23, Int.not_lt.mpr qc23, zqc25]; assumption))
    case g255l7 =>
      have zqc1 : st ≠ 0 := fun e9 => qc1 (hst.trans e9)
      have zqc3 : st = 1 := hst.symm.trans qc3
      have zqc8 : zabs (y0 - y2) ≤ tl := by have h9 := qc8; unfold fAgree at h9; rw [htl] at h9; exact of_decide_eq_true h9
      have zqc27 : zabs (y1 - y2) ≤ tl := by have h9 := qc27; unfold fAgree at h9; rw [htl] at h9; exact of_decide_eq_true h9
      refine hK _ (f9.tr (((((((Fr_I hL90.wVd (by decide) (by decide) (by unfold SVd; omega)).tr (Fr_I hL90.wVd (by decide) (by decide) (by unfold SVd; omega))).tr (Fr_I hL90.wVd (by decide) (by decide) (by unfold SVd; omega))).tr (Fr_I hL90.wVd (by decide) (by decide) (by unfold SVd; omega))).tr (Fr_I hL90.a_Vd4 (by decide) (by decide) (by unfold SVd; omega))).tr (Fr_I hL90.a_Vd4 (by decide) (by decide) (by unfold SVd; omega))).tr (Fr_I hL90.a_Vd4 (by decide) (by decide) (by unfold SVd; omega)))) ?_
      unfold gVV gKd
      rw [hst, htl, hy0, hy1, hy2, hu0, hu1, hu2]
      have hkd : vKd st tl y0 y1 y2 = 4 := by unfold vKd; first | (simp only [↓reduceIte, decide_eq_true_eq, decide_eq_false_iff_not, decide_true, decide_false, ne_eq, not_true_eq_false, not_false_eq_true, and_true, true_and, and_false, false_and, or_true, true_or, or_false, false_or, and_self, or_self, Bool.true_and, Bool.and_true, Bool.false_and, Bool.and_false, b2i, Bool.false_eq_true, reduceCtorEq, gt_iff_lt, ge_iff_le, zqc1, zqc3, zqc8, qc22, Int.not_lt.mpr qc22, qc23, Int.not_lt.mpr qc23, zqc27]; done) | (simp [zqc1, zqc3, zqc8, qc22, Int.not_lt.mpr qc22, qc23, Int.not_lt.mpr qc23, zqc27]; done) | (simp [zqc1, zqc3, zqc8, qc22, Int.not_lt.mpr qc22, qc23, Int.not_lt.mpr qc23, zqc27]; omega)
      rw [hkd]
      unfold VV
      refine ⟨?_, ?_, ?_, ?_, ?_, ?_, ?_⟩
      all_goals first
        | ((try simp (disch := omega) only [zIs, zIm, zIn, zIrf]); first | rfl | assumption | (simp [vSt, vR, vP, vQ, vc0, vc1, vc2, zqc1, zqc3, zqc8, qc22, Int.not_lt.mpr qc22, qc23, Int.not_lt.mpr qc23, zqc27]; done) | (simp [vSt, vR, vP, vQ, vc0, vc1, vc2, zqc1, zqc3, zqc8, qc22, Int.not_lt.mpr qc22, qc23, Int.not_lt.mpr qc23, zqc27]; assumption))
    case g255l8 =>
      have zqc1 : st ≠ 0 := fun e9 => qc1 (hst.trans e9)
      have zqc3 : st = 1 := hst.symm.trans qc3
      have zqc8 : zabs (y0 - y2) ≤ tl := by have h9 := qc8; unfold fAgree at h9; rw [htl] at h9; exact of_decide_eq_true h9
      have zqc31 : ¬ zabs (y1 - y2) ≤ tl := by have h9 := qc31; unfold fAgree at h9; rw [htl] at h9; exact of_decide_eq_false h9
      refine hK _ (f9.tr (((((((Fr_I hL90.wVd (by decide) (by decide) (by unfold SVd; omega)).tr (Fr_I hL90.wVd (by decide) (by decide) (by unfold SVd; omega))).tr (Fr_I hL90.wVd (by decide) (by decide) (by unfold SVd; omega))).tr (Fr_I hL90.wVd (by decide) (by decide) (by unfold SVd; omega))).tr (Fr_I hL90.a_Vd4 (by decide) (by decide) (by unfold SVd; omega))).tr (Fr_I hL90.a_Vd4 (by decide) (by decide) (by unfold SVd; omega))).tr (Fr_I hL90.a_Vd4 (by decide) (by decide) (by unfold SVd; omega)))) ?_
      unfold gVV gKd
      rw [hst, htl, hy0, hy1, hy2, hu0, hu1, hu2]
      have hkd : vKd st tl y0 y1 y2 = 4 := by unfold vKd; first | (simp only [↓reduceIte, decide_eq_true_eq, decide_eq_false_iff_not, decide_true, decide_false, ne_eq, not_true_eq_false, not_false_eq_true, and_true, true_and, and_false, false_and, or_true, true_or, or_false, false_or, and_self, or_self, Bool.true_and, Bool.and_true, Bool.false_and, Bool.and_false, b2i, Bool.false_eq_true, reduceCtorEq, gt_iff_lt, ge_iff_le, zqc1, zqc3, zqc8, qc22, Int.not_lt.mpr qc22, qc29, Int.not_le.mpr qc29, zqc31]; done) | (simp [zqc1, zqc3, zqc8, qc22, Int.not_lt.mpr qc22, qc29, Int.not_le.mpr qc29, zqc31]; done) | (simp [zqc1, zqc3, zqc8, qc22, Int.not_lt.mpr qc22, qc29, Int.not_le.mpr qc29, zqc31]; omega)
      rw [hkd]
      unfold VV
      refine ⟨?_, ?_, ?_, ?_, ?_, ?_, ?_⟩
      all_goals first
        | ((try simp (disch := omega) only [zIs, zIm, zIn, zIrf]); first | rfl | assumption | (simp [vSt, vR, vP, vQ, vc0, vc1, vc2, zqc1, zqc3, zqc8, qc22, Int.not_lt.mpr qc22, qc29, Int.not_le.mpr qc29, zqc31]; done) | (simp [vSt, vR, vP, vQ, vc0, vc1, vc2, zqc1, zqc3, zqc8, qc22, Int.not_lt.mpr qc22, qc29, Int.not_le.mpr qc29, zqc31]; assumption))
    case g255l9 =>
      have zqc1 : st ≠ 0 := fun e9 => qc1 (hst.trans e9)
      have zqc3 : st = 1 := hst.symm.trans qc3
      have zqc8 : zabs (y0 - y2) ≤ tl := by have h9 := qc8; unfold fAgree at h9; rw [htl] at h9; exact of_decide_eq_true h9
      have zqc33 : zabs (y1 - y2) ≤ tl := by have h9 := qc33; unfold fAgree at h9; rw [htl] at h9; exact of_decide_eq_true h9
      refine hK _ (f9.tr (((((((Fr_I hL90.wVd (by decide) (by decide) (by unfold SVd; omega)).tr (Fr_I hL90.wVd (by decide) (by decide) (by unfold SVd; omega))).tr (Fr_I hL90.wVd (by decide) (by decide) (by unfold SVd; omega))).tr (Fr_I hL90.wVd (by decide) (by decide) (by unfold SVd; omega))).tr (Fr_I hL90.a_Vd4 (by decide) (by decide) (by unfold SVd; omega))).tr (Fr_I hL90.a_Vd4 (by decide) (by decide) (by unfold SVd; omega))).tr (Fr_I hL90.a_Vd4 (by decide) (by decide) (by unfold SVd; omega)))) ?_
      unfold gVV gKd
      rw [hst, htl, hy0, hy1, hy2, hu0, hu1, hu2]
      have hkd : vKd st tl y0 y1 y2 = 4 := by unfold vKd; first | (simp only [↓reduceIte, decide_eq_true_eq, decide_eq_false_iff_not, decide_true, decide_false, ne_eq, not_true_eq_false, not_false_eq_true, and_true, true_and, and_false, false_and, or_true, true_or, or_false, false_or, and_self, or_self, Bool.true_and, Bool.and_true, Bool.false_and, Bool.and_false, b2i, Bool.false_eq_true, reduceCtorEq, gt_iff_lt, ge_iff_le, zqc1, zqc3, zqc8, qc22, Int.not_lt.mpr qc22, qc29, Int.not_le.mpr qc29, zqc33]; done) | (simp [zqc1, zqc3, zqc8, qc22, Int.not_lt.mpr qc22, qc29, Int.not_le.mpr qc29, zqc33]; done) | (simp [zqc1, zqc3, zqc8, qc22, Int.not_lt.mpr qc22, qc29, Int.not_le.mpr qc29, zqc33]; omega)
      rw [hkd]
      unfold VV
      refine ⟨?_, ?_, ?_, ?_, ?_, ?_, ?_⟩
      all_goals first
        | ((try simp (disch := omega) only [zIs, zIm, zIn, zIrf]); first | rfl | assumption | (simp [vSt, vR, vP, vQ, vc0, vc1, vc2, zqc1, zqc3, zqc8, qc22, Int.not_lt.mpr qc22, qc29, Int.not_le.mpr qc29, zqc33]; done) | (simp [vSt, vR, vP, vQ, vc0, vc1, vc2, zqc1, zqc3, zqc8, qc22, Int.not_lt.mpr qc22, qc29, Int.not_le.mpr qc29, zqc33]; assumption))
    case g255l10 =>
      have zqc1 : st ≠ 0 := fun e9 => qc1 (hst.trans e9)
      have zqc3 : st = 1 := hst.symm.trans qc3
      have zqc35 : ¬ zabs (y0 - y2) ≤ tl := by have h9 := qc35; unfold fAgree at h9; rw [htl] at h9; exact of_decide_eq_false h9
      have zqc36 : zabs (y1 - y2) ≤ tl := by have h9 := qc36; unfold fAgree at h9; rw [htl] at h9; exact of_decide_eq_true h9
      have zqc40 : ¬ zabs (y0 - y2) ≤ tl := by have h9 := qc40; unfold fAgree at h9; rw [htl] at h9; exact of_decide_eq_false h9
      refine hK _ (f9.tr (((((((Fr_I hL90.wVd (by decide) (by decide) (by unfold SVd; omega)).tr (Fr_I hL90.wVd (by decide) (by decide) (by unfold SVd; omega))).tr (Fr_I hL90.wVd (by decide) (by decide) (by unfold SVd; omega))).tr (Fr_I hL90.wVd (by decide) (by decide) (by unfold SVd; omega))).tr (Fr_I hL90.a_Vd4 (by decide) (by decide) (by unfold SVd; omega))).tr (Fr_I hL90.a_Vd4 (by decide) (by decide) (by unfold SVd; omega))).tr (Fr_I hL90.a_Vd4 (by decide) (by decide) (by unfold SVd; omega)))) ?_
      unfold gVV gKd
      rw [hst, htl, hy0, hy1, hy2, hu0, hu1, hu2]
      have hkd : vKd st tl y0 y1 y2 = 5 := by unfold vKd; first | (simp only [↓reduceIte, decide_eq_true_eq, decide_eq_false_iff_not, decide_true, decide_false, ne_eq, not_true_eq_false, not_false_eq_true, and_true, true_and, and_false, false_and, or_true, true_or, or_false, false_or, and_self, or_self, Bool.true_and, Bool.and_true, Bool.false_and, Bool.and_false, b2i, Bool.false_eq_true, reduceCtorEq, gt_iff_lt, ge_iff_le, zqc1, zqc3, zqc35, zqc36, qc37, Int.not_le.mpr qc37, qc38, Int.not_lt.mpr qc38, zqc40]; done) | (simp [zqc1, zqc3, zqc35, zqc36, qc37, Int.not_le.mpr qc37, qc38, Int.not_lt.mpr qc38, zqc40]; done) | (simp [zqc1, zqc3, zqc35, zqc36, qc37, Int.not_le.mpr qc37, qc38, Int.not_lt.mpr qc38, zqc40]; omega)
      rw [hkd]
      unfold VV
      refine ⟨?_, ?_, ?_, ?_, ?_, ?_, ?_⟩
      all_goals first
        | ((try simp (disch := omega) only [zIs, zIm, zIn, zIrf]); first | rfl | assumption | (simp [vSt, vR, vP, vQ, vc0, vc1, vc2, zqc1, zqc3, zqc35, zqc36, qc37, Int.not_le.mpr qc37, qc38, Int.not_lt.mpr qc38, zqc40]; done) | (simp [vSt, vR, vP, vQ, vc0, vc1, vc2, zqc1, zqc3, zqc35, zqc36, qc37, Int.not_le.mpr qc37, qc38, Int.not_lt.mpr qc38, zqc40]; assumption))
    case g255l11 =>
      have zqc1 : st ≠ 0 := fun e9 => qc1 (hst.trans e9)
      have zqc3 : st = 1 := hst.symm.trans qc3
      have zqc35 : ¬ zabs (y0 - y2) ≤ tl := by have h9 := qc35; unfold fAgree at h9; rw [htl] at h9; exact of_decide_eq_false h9
      have zqc36 : zabs (y1 - y2) ≤ tl := by have h9 := qc36; unfold fAgree at h9; rw [htl] at h9; exact of_decide_eq_true h9
      have zqc42 : zabs (y0 - y2) ≤ tl := by have h9 := qc42; unfold fAgree at h9; rw [htl] at h9; exact of_decide_eq_true h9
      exact absurd zqc42 zqc35
    case g255l12 =>
      have zqc1 : st ≠ 0 := fun e9 => qc1 (hst.trans e9)
      have zqc3 : st = 1 := hst.symm.trans qc3
      have zqc35 : ¬ zabs (y0 - y2) ≤ tl := by have h9 := qc35; unfold fAgree at h9; rw [htl] at h9; exact of_decide_eq_false h9
      have zqc36 : zabs (y1 - y2) ≤ tl := by have h9 := qc36; unfold fAgree at h9; rw [htl] at h9; exact of_decide_eq_true h9
      have zqc46 : ¬ zabs (y0 - y2) ≤ tl := by have h9 := qc46; unfold fAgree at h9; rw [htl] at h9; exact of_decide_eq_false h9
      refine hK _ (f9.tr (((((((Fr_I hL90.wVd (by decide) (by decide) (by unfold SVd; omega)).tr (Fr_I hL90.wVd (by decide) (by decide) (by unfold SVd; omega))).tr (Fr_I hL90.wVd (by decide) (by decide) (by unfold SVd; omega))).tr (Fr_I hL90.wVd (by decide) (by decide) (by unfold SVd; omega))).tr (Fr_I hL90.a_Vd4 (by decide) (by decide) (by unfold SVd; omega))).tr (Fr_I hL90.a_Vd4 (by decide) (by decide) (by unfold SVd; omega))).tr (Fr_I hL90.a_Vd4 (by decide) (by decide) (by unfold SVd; omega)))) ?_
      unfold gVV gKd
      rw [hst, htl, hy0, hy1, hy2, hu0, hu1, hu2]
      have hkd : vKd st tl y0 y1 y2 = 5 := by unfold vKd; first | (simp only [↓reduceIte, decide_eq_true_eq, decide_eq_false_iff_not, decide_true, decide_false, ne_eq, not_true_eq_false, not_false_eq_true, and_true, true_and, and_false, false_and, or_true, true_or, or_false, false_or, and_self, or_self, Bool.true_and, Bool.and_true, Bool.false_and, Bool.and_false, b2i, Bool.false_eq_true, reduceCtorEq, gt_iff_lt, ge_iff_le, zqc1, zqc3, zqc35, zqc36, qc37, Int.not_le.mpr qc37, qc44, Int.not_le.mpr qc44, zqc46]; done) | (simp [zqc1, zqc3, zqc35, zqc36, qc37, Int.not_le.mpr qc37, qc44, Int.not_le.mpr qc44, zqc46]; done) | (simp [zqc1, zqc3, zqc35, zqc36, qc37, Int.not_le.mpr qc37, qc44, Int.not_le.mpr qc44, zqc46]; omega)
      rw [hkd]
      unfold VV
      refine ⟨?_, ?_, ?_, ?_, ?_, ?_, ?_⟩
      all_goals first
        | ((try simp (disch := omega) only [zIs, zIm, zIn, zIrf]); first | rfl | assumption | (simp [vSt, vR, vP, vQ, vc0, vc1, vc2, zqc1, zqc3, zqc35, zqc36, qc37, Int.not_le.mpr qc37, qc44, Int.not_le.mpr qc44, zqc46]; done) | (simp [vSt, vR, vP, vQ, vc0, vc1, vc2, zqc1, zqc3, zqc35, zqc36, qc37, Int.not_le.mpr qc37, qc44, Int.not_le.mpr qc44, zqc46]; assumption))
    case g255l13 =>
      have zqc1 : st ≠ 0 := fun e9 => qc1 (hst.trans e9)
      have zqc3 : st = 1 := hst.symm.trans qc3
      have zqc35 : ¬ zabs (y0 - y2) ≤ tl := by have h9 := qc35; unfold fAgree at h9; rw [htl] at h9; exact of_decide_eq_false h9
      have zqc36 : zabs (y1 - y2) ≤ tl := by have h9 := qc36; unfold fAgree at h9; rw [htl] at h9; exact of_decide_eq_true h9
      have zqc48 : zabs (y0 - y2) ≤ tl := by have h9 := qc48; unfold fAgree at h9; rw [htl] at h9; exact of_decide_eq_true h9
      exact absurd zqc48 zqc35
    case g255l14 =>
      have zqc1 : st ≠ 0 := fun e9 => qc1 (hst.trans e9)
      have zqc3 : st = 1 := hst.symm.trans qc3
      have zqc35 : ¬ zabs (y0 - y2) ≤ tl := by have h9 := qc35; unfold fAgree at h9; rw [htl] at h9; exact of_decide_eq_false h9
      have zqc36 : zabs (y1 - y2) ≤ tl := by have h9 := qc36; unfold fAgree at h9; rw [htl] at h9; exact of_decide_eq_true h9
      have zqc53 : ¬ zabs (y1 - y2) ≤ tl := by have h9 := qc53; unfold fAgree at h9; rw [htl] at h9; exact of_decide_eq_false h9
      exact absurd zqc36 zqc53
    case g255l15 =>
      have zqc1 : st ≠ 0 := fun e9 => qc1 (hst.trans e9)
      have zqc3 : st = 1 := hst.symm.trans qc3
      have zqc35 : ¬ zabs (y0 - y2) ≤ tl := by have h9 := qc35; unfold fAgree at h9; rw [htl] at h9; exact of_decide_eq_false h9
      have zqc36 : zabs (y1 - y2) ≤ tl := by have h9 := qc36; unfold fAgree at h9; rw [htl] at h9; exact of_decide_eq_true h9
      have zqc55 : zabs (y1 - y2) ≤ tl := by have h9 := qc55; unfold fAgree at h9; rw [htl] at h9; exact of_decide_eq_true h9
      refine hK _ (f9.tr (((((((Fr_I hL90.wVd (by decide) (by decide) (by unfold SVd; omega)).tr (Fr_I hL90.wVd (by decide) (by decide) (by unfold SVd; omega))).tr (Fr_I hL90.wVd (by decide) (by decide) (by unfold SVd; omega))).tr (Fr_I hL90.wVd (by decide) (by decide) (by unfold SVd; omega))).tr (Fr_I hL90.a_Vd4 (by decide) (by decide) (by unfold SVd; omega))).tr (Fr_I hL90.a_Vd4 (by decide) (by decide) (by unfold SVd; omega))).tr (Fr_I hL90.a_Vd4 (by decide) (by decide) (by unfold SVd; omega)))) ?_
      unfold gVV gKd
      rw [hst, htl, hy0, hy1, hy2, hu0, hu1, hu2]
      have hkd : vKd st tl y0 y1 y2 = 4 := by unfold vKd; first | (simp only [↓reduceIte, decide_eq_true_eq, decide_eq_false_iff_not, decide_true, decide_false, ne_eq, not_true_eq_false, not_false_eq_true, and_true, true_and, and_false, false_and, or_true, true_or, or_false, false_or, and_self, or_self, Bool.true_and, Bool.and_true, Bool.false_and, Bool.and_false, b2i, Bool.false_eq_true, reduceCtorEq, gt_iff_lt, ge_iff_le, zqc1, zqc3, zqc35, zqc36, qc50, Int.not_lt.mpr qc50, qc51, Int.not_lt.mpr qc51, zqc55]; done) | (simp [zqc1, zqc3, zqc35, zqc36, qc50, Int.not_lt.mpr qc50, qc51, Int.not_lt.mpr qc51, zqc55]; done) | (simp [zqc1, zqc3, zqc35, zqc36, qc50, Int.not_lt.mpr qc50, qc51, Int.not_lt.mpr qc51, zqc55]; omega)
      rw [hkd]
      unfold VV
      refine ⟨?_, ?_, ?_, ?_, ?_, ?_, ?_⟩
      all_goals first
        | ((try simp (disch := omega) only [zIs, zIm, zIn, zIrf]); first | rfl | assumption | (simp [vSt, vR, vP, vQ, vc0, vc1, vc2, zqc1, zqc3, zqc35, zqc36, qc50, Int.not_lt.mpr qc50, qc51, Int.not_lt.mpr qc51, zqc55]; done) | (simp [vSt, vR, vP, vQ, vc0, vc1, vc2, zqc1, zqc3, zqc35, zqc36, qc50, Int.not_lt.mpr qc50, qc51, Int.not_lt.mpr qc51, zqc55]; assumption))
    case g255l16 =>
      have zqc1 : st ≠ 0 := fun e9 => qc1 (hst.trans e9)
      have zqc3 : st = 1 := hst.symm.trans qc3
      have zqc35 : ¬ zabs (y0 - y2) ≤ tl := by have h9 := qc35; unfold fAgree at h9; rw [htl] at h9; exact of_decide_eq_false h9
      have zqc36 : zabs (y1 - y2) ≤ tl := by have h9 := qc36; unfold fAgree at h9; rw [htl] at h9; exact of_decide_eq_true h9
      have zqc59 : ¬ zabs (y1 - y2) ≤ tl := by have h9 := qc59; unfold fAgree at h9; rw [htl] at h9; exact of_decide_eq_false h9
      exact absurd zqc36 zqc59
    case g255l17 =>
      have zqc1 : st ≠ 0 := fun e9 => qc1 (hst.trans e9)
      have zqc3 : st = 1 := hst.symm.trans qc3
      have zqc35 : ¬ zabs (y0 - y2) ≤ tl := by have h9 := qc35; unfold fAgree at h9; rw [htl] at h9; exact of_decide_eq_false h9
      have zqc36 : zabs (y1 - y2) ≤ tl := by have h9 := qc36; unfold fAgree at h9; rw [htl] at h9; exact of_decide_eq_true h9
      have zqc61 : zabs (y1 - y2) ≤ tl := by have h9 := qc61; unfold fAgree at h9; rw [htl] at h9; exact of_decide_eq_true h9
      refine hK _ (f9.tr (((((((Fr_I hL90.wVd (by decide) (by decide) (by unfold SVd; omega)).tr (Fr_I hL90.wVd (by decide) (by decide) (by unfold SVd; omega))).tr (Fr_I hL90.wVd (by decide) (by decide) (by unfold SVd; omega))).tr (Fr_I hL90.wVd (by decide) (by decide) (by unfold SVd; omega))).tr (Fr_I hL90.a_Vd4 (by decide) (by decide) (by unfold SVd; omega))).tr (Fr_I hL90.a_Vd4 (by decide) (by decide) (by unfold SVd; omega))).tr (Fr_I hL90.a_Vd4 (by decide) (by decide) (by unfold SVd; omega)))) ?_
      unfold gVV gKd
      rw [hst, htl, hy0, hy1, hy2, hu0, hu1, hu2]
      have hkd : vKd st tl y0 y1 y2 = 4 := by unfold vKd; first | (simp only [↓reduceIte, decide_eq_true_eq, decide_eq_false_iff_not, decide_true, decide_false, ne_eq, not_true_eq_false, not_false_eq_true, and_true, true_and, and_false, false_and, or_true, true_or, or_false, false_or, and_self, or_self, Bool.true_and, Bool.and_true, Bool.false_and, Bool.and_false, b2i, Bool.false_eq_true, reduceCtorEq, gt_iff_lt, ge_iff_le, zqc1, zqc3, zqc35, zqc36, qc50, Int.not_lt.mpr qc50, qc57, Int.not_le.mpr qc57, zqc61]; done) | (simp [zqc1, zqc3, zqc35, zqc36, qc50, Int.not_lt.mpr qc50, qc57, Int.not_le.mpr qc57, zqc61]; done) | (simp [zqc1, zqc3, zqc35, zqc36, qc50, Int.not_lt.mpr qc50, qc57, Int.not_le.mpr qc57, zqc61]; omega)
      rw [hkd]
      unfold VV
      refine ⟨?_, ?_, ?_, ?_, ?_, ?_, ?_⟩
      all_goals first
        | ((try simp (disch := omega) only [zIs, zIm, zIn, zIrf]); first | rfl | assumption | (simp [vSt, vR, vP, vQ, vc0, vc1, vc2, zqc1, zqc3, zqc35, zqc36, qc50, Int.not_lt.mpr qc50, qc57, Int.not_le.mpr qc57, zqc61]; done) | (simp [vSt, vR, vP, vQ, vc0, vc1, vc2, zqc1, zqc3, zqc35, zqc36, qc50, Int.not_lt.mpr qc50, qc57, Int.not_le.mpr qc57, zqc61]; assumption))
    case g255l18 =>
      have zqc1 : st ≠ 0 := fun e9 => qc1 (hst.trans e9)
      have zqc3 : st = 1 := hst.symm.trans qc3
      have zqc35 : ¬ zabs (y0 - y2) ≤ tl := by have h9 := qc35; unfold fAgree at h9; rw [htl] at h9; exact of_decide_eq_false h9
      have zqc63 : ¬ zabs (y1 - y2) ≤ tl := by have h9 := qc63; unfold fAgree at h9; rw [htl] at h9; exact of_decide_eq_false h9
      refine hK _ (f9.tr ((Fr_I hL90.wVd (by decide) (by decide) (by unfold SVd; omega)).tr (Fr_A hL90.a_Vd4 (by decide) (by decide) (by unfold SVd; omega)))) ?_
      unfold gVV gKd
      rw [hst, htl, hy0, hy1, hy2, hu0, hu1, hu2]
      have hkd : vKd st tl y0 y1 y2 = 3 := by unfold vKd; first | (simp only [↓reduceIte, decide_eq_true_eq, decide_eq_false_iff_not, decide_true, decide_false, ne_eq, not_true_eq_false, not_false_eq_true, and_true, true_and, and_false, false_and, or_true, true_or, or_false, false_or, and_self, or_self, Bool.true_and, Bool.and_true, Bool.false_and, Bool.and_false, b2i, Bool.false_eq_true, reduceCtorEq, gt_iff_lt, ge_iff_le, zqc1, zqc3, zqc35, zqc63]; done) | (simp [zqc1, zqc3, zqc35, zqc63]; done) | (simp [zqc1, zqc3, zqc35, zqc63]; omega)
      rw [hkd]
      unfold VV
      refine ⟨?_, ?_, ?_, ?_, ?_, ?_, ?_⟩
      all_goals first
        | ((try simp (disch := omega) only [zIs, zIm, zIn, zfl3, zfln]); first | rfl | assumption | (simp [vSt, vR, vP, vQ, vc0, vc1, vc2, zqc1, zqc3, zqc35, zqc63]; done) | (simp [vSt, vR, vP, vQ, vc0, vc1, vc2, zqc1, zqc3, zqc35, zqc63]; assumption))
    case g255l19 =>
      have zqc67 : st = 0 := hst.symm.trans qc67
      refine hK _ (f9.tr Fr.rf) ?_
      unfold gVV gKd
      rw [hst, htl, hy0, hy1, hy2, hu0, hu1, hu2]
      have hkd : vKd st tl y0 y1 y2 = 0 := by unfold vKd; first | (simp only [↓reduceIte, decide_eq_true_eq, decide_eq_false_iff_not, decide_true, decide_false, ne_eq, not_true_eq_false, not_false_eq_true, and_true, true_and, and_false, false_and, or_true, true_or, or_false, false_or, and_self, or_self, Bool.true_and, Bool.and_true, Bool.false_and, Bool.and_false, b2i, Bool.false_eq_true, reduceCtorEq, gt_iff_lt, ge_iff_le, zqc67, qc68]; done) | (simp [zqc67, qc68]; done) | (simp [zqc67, qc68]; omega)
      rw [hkd]
      unfold VV
      refine ⟨?_, ?_, ?_, ?_, ?_, ?_, ?_⟩
      all_goals first
        | ((try simp (disch := omega) only [zIs, zIm, zIn, zIrf]); first | rfl | assumption | (simp [vSt, vR, vP, vQ, vc0, vc1, vc2, zqc67, qc68]; done) | (simp [vSt, vR, vP, vQ, vc0, vc1, vc2, zqc67, qc68]; assumption))
    case g255l20 =>
      have zqc67 : st = 0 := hst.symm.trans qc67
      have zqc74 : ¬ zabs (y0 - y1) ≤ tl := by have h9 := qc74; unfold fAgree at h9; rw [htl] at h9; exact of_decide_eq_false h9
      refine hK _ (f9.tr (Fr_I hL90.wVd (by decide) (by decide) (by unfold SVd; omega))) ?_
      unfold gVV gKd
      rw [hst, htl, hy0, hy1, hy2, hu0, hu1, hu2]
      have hkd : vKd st tl y0 y1 y2 = 1 := by unfold vKd; first | (simp only [↓reduceIte, decide_eq_true_eq, decide_eq_false_iff_not, decide_true, decide_false, ne_eq, not_true_eq_false, not_false_eq_true, and_true, true_and, and_false, false_and, or_true, true_or, or_false, false_or, and_self, or_self, Bool.true_and, Bool.and_true, Bool.false_and, Bool.and_false, b2i, Bool.false_eq_true, reduceCtorEq, gt_iff_lt, ge_iff_le, zqc67, qc70, qc71, zqc74]; done) | (simp [zqc67, qc70, qc71, zqc74]; done) | (simp [zqc67, qc70, qc71, zqc74]; omega)
      rw [hkd]
      unfold VV
      refine ⟨?_, ?_, ?_, ?_, ?_, ?_, ?_⟩
      all_goals first
        | ((try simp (disch := omega) only [zIs, zIm, zIn, zIrf]); first | rfl | assumption | (simp [vSt, vR, vP, vQ, vc0, vc1, vc2, zqc67, qc70, qc71, zqc74]; done) | (simp [vSt, vR, vP, vQ, vc0, vc1, vc2, zqc67, qc70, qc71, zqc74]; assumption))
    case g255l21 =>
      have zqc67 : st = 0 := hst.symm.trans qc67
      have zqc76 : zabs (y0 - y1) ≤ tl := by have h9 := qc76; unfold fAgree at h9; rw [htl] at h9; exact of_decide_eq_true h9
      refine hK _ (f9.tr ((((((Fr_I hL90.wVd (by decide) (by decide) (by unfold SVd; omega)).tr (Fr_I hL90.wVd (by decide) (by decide) (by unfold SVd; omega))).tr (Fr_I hL90.wVd (by decide) (by decide) (by unfold SVd; omega))).tr (Fr_I hL90.wVd (by decide) (by decide) (by unfold SVd; omega))).tr (Fr_I hL90.a_Vd4 (by decide) (by decide) (by unfold SVd; omega))).tr (Fr_I hL90.a_Vd4 (by decide) (by decide) (by unfold SVd; omega)))) ?_
      unfold gVV gKd
      rw [hst, htl, hy0, hy1, hy2, hu0, hu1, hu2]
      have hkd : vKd st tl y0 y1 y2 = 2 := by unfold vKd; first | (simp only [↓reduceIte, decide_eq_true_eq, decide_eq_false_iff_not, decide_true, decide_false, ne_eq, not_true_eq_false, not_false_eq_true, and_true, true_and, and_false, false_and, or_true, true_or, or_false, false_or, and_self, or_self, Bool.true_and, Bool.and_true, Bool.false_and, Bool.and_false, b2i, Bool.false_eq_true, reduceCtorEq, gt_iff_lt, ge_iff_le, zqc67, qc70, qc71, zqc76, qc77, Int.not_lt.mpr qc77]; done) | (simp [zqc67, qc70, qc71, zqc76, qc77, Int.not_lt.mpr qc77]; done) | (simp [zqc67, qc70, qc71, zqc76, qc77, Int.not_lt.mpr qc77]; omega)
      rw [hkd]
      unfold VV
      refine ⟨?_, ?_, ?_, ?_, ?_, ?_, ?_⟩
      all_goals first
        | ((try simp (disch := omega) only [zIs, zIm, zIn, zIrf]); first | rfl | assumption | (simp [vSt, vR, vP, vQ, vc0, vc1, vc2, zqc67, qc70, qc71, zqc76, qc77, Int.not_lt.mpr qc77]; done) | (simp [vSt, vR, vP, vQ, vc0, vc1, vc2, zqc67, qc70, qc71, zqc76, qc77, Int.not_lt.mpr qc77]; assumption))
    case g255l22 =>
      have zqc67 : st = 0 := hst.symm.trans qc67
      have zqc76 : zabs (y0 - y1) ≤ tl := by have h9 := qc76; unfold fAgree at h9; rw [htl] at h9; exact of_decide_eq_true h9
      refine hK _ (f9.tr ((((((Fr_I hL90.wVd (by decide) (by decide) (by unfold SVd; omega)).tr (Fr_I hL90.wVd (by decide) (by decide) (by unfold SVd; omega))).tr (Fr_I hL90.wVd (by decide) (by decide) (by unfold SVd; omega))).tr (Fr_I hL90.wVd (by decide) (by decide) (by unfold SVd; omega))).tr (Fr_I hL90.a_Vd4 (by decide) (by decide) (by unfold SVd; omega))).tr (Fr_I hL90.a_Vd4 (by decide) (by decide) (by unfold SVd; omega)))) ?_
      unfold gVV gKd
      rw [hst, htl, hy0, hy1, hy2, hu0, hu1, hu2]
      have hkd : vKd st tl y0 y1 y2 = 2 := by unfold vKd; first | (simp only [↓reduceIte, decide_eq_true_eq, decide_eq_false_iff_not, decide_true, decide_false, ne_eq, not_true_eq_false, not_false_eq_true, and_true, true_and, and_false, false_and, or_true, true_or, or_false, false_or, and_self, or_self, Bool.true_and, Bool.and_true, Bool.false_and, Bool.and_false, b2i, Bool.false_eq_true, reduceCtorEq, gt_iff_lt, ge_iff_le, zqc67, qc70, qc71, zqc76, qc80, Int.not_le.mpr qc80]; done) | (simp [zqc67, qc70, qc71, zqc76, qc80, Int.not_le.mpr qc80]; done) | (simp [zqc67, qc70, qc71, zqc76, qc80, Int.not_le.mpr qc80]; omega)
      rw [hkd]
      unfold VV
      refine ⟨?_, ?_, ?_, ?_, ?_, ?_, ?_⟩
      all_goals first
        | ((try simp (disch := omega) only [zIs, zIm, zIn, zIrf]); first | rfl | assumption | (simp [vSt, vR, vP, vQ, vc0, vc1, vc2, zqc67, qc70, qc71, zqc76, qc80, Int.not_le.mpr qc80]; done) | (simp [vSt, vR, vP, vQ, vc0, vc1, vc2, zqc67, qc70, qc71, zqc76, qc80, Int.not_le.mpr qc80]; assumption))
    case g255l23 =>
      have zqc67 : st = 0 := hst.symm.trans qc67
      refine hK _ (f9.tr Fr.rf) ?_
      unfold gVV gKd
      rw [hst, htl, hy0, hy1, hy2, hu0, hu1, hu2]
      have hkd : vKd st tl y0 y1 y2 = 0 := by unfold vKd; first | (simp only [↓reduceIte, decide_eq_true_eq, decide_eq_false_iff_not, decide_true, decide_false, ne_eq, not_true_eq_false, not_false_eq_true, and_true, true_and, and_false, false_and, or_true, true_or, or_false, false_or, and_self, or_self, Bool.true_and, Bool.and_true, Bool.false_and, Bool.and_false, b2i, Bool.false_eq_true, reduceCtorEq, gt_iff_lt, ge_iff_le, zqc67, qc70, qc83]; done) | (simp [zqc67, qc70, qc83]; done) | (simp [zqc67, qc70, qc83]; omega)
      rw [hkd]
      unfold VV
      refine ⟨?_, ?_, ?_, ?_, ?_, ?_, ?_⟩
      all_goals first
        | ((try simp (disch := omega) only [zIs, zIm, zIn, zIrf]); first | rfl | assumption | (simp [vSt, vR, vP, vQ, vc0, vc1, vc2, zqc67, qc70, qc83]; done) | (simp [vSt, vR, vP, vQ, vc0, vc1, vc2, zqc67, qc70, qc83]; assumption))
  have phA : ∀ i, 0 ≤ i → i ≤ 3 → ∀ M90 : ZM, Fr SVd M M90 → (zI M90 664 0 = st ∧ zI M90 664 1 = -1 ∧ zI M90 664 2 = 0 ∧ zI M90 664 3 = 0) → (∀ j : Int, 0 ≤ j → j < i → zI M90 665 j.toNat = 0 ∧ zI M90 666 j.toNat = (if j < m then (G (132 + 16 * r + (7 + 3 * j + 1)).toNat) else -1) ∧ zI M90 667 j.toNat = uv G r j) → Φ 26 [some (zo 664), some (zo 129), some (zo (129 + 11 + 2 * r.toNat)), some (zi k), some (zi x), some (zi i), none] [] M90 0 0 := by
    refine zdown (fun i h0 h1 ih M90 f9 hF hA9 => ?_)
    have hL90 := hL.fr f9
    have hT90 : TR M90 129 G := hT.fr9 hL.tab f9 hG (fun j j0 j1 => by unfold SVd; omega)
    have hX90 := hL90.tab
    have hmm := hm
    have hw9 := fun (q : i < (G (132 + 16 * r + 6).toNat)) => hRr.2.2 i h0 q
    have hw8 := fun (q : i < (G (132 + 16 * r + 6).toNat)) => ((hX9.1 r hr.1 hr.2).1 i h0 q).1
    refine zGoR hΦ [26, 122] 400 (fun hL9 _ hM _ _ => ?_)
    obtain ⟨qL1, qL2, qL3, _⟩ : zrg k ∧ zrg x ∧ zrg i ∧ True := hL9
    refine ⟨fun (qc1 : i ≥ 3) => ⟨hL90.wVd, _, hL90.d5, ⟨⟨zixW hL90.a_Vd5 hL90.l_Vd5 (i := k) (by omega) (by decide), trivial⟩, (show Φ 122 [some (zo 664), some (zo 129), some (zo (129 + 11 + 2 * r.toNat)), some (zi k), some (zi x), some (zi i), none] [] (zsI M90 666 k.toNat x) (0) (0) from ?g256l1)⟩⟩, fun (qc2 : i < 3) => ⟨(hX90.row (by omega) (by omega)).2.w, zIr ((hT90.r8 (r := r) (by omega) (by omega))) (⟨fun (qc3 : i ≥ (G (132 + 16 * r + 6).toNat)) => ⟨hL90.wVd, _, hL90.d4, ⟨⟨zixW hL90.a_Vd4 hL90.l_Vd4 (i := i) (by omega) (by decide), trivial⟩, ⟨hL90.wVd, _, hL90.d5, ⟨fun _ => ⟨⟨zixW hL90.a_Vd5 hL90.l_Vd5 (i := i) (by omega) (by decide), trivial⟩, ⟨hL90.wVd, _, hL90.d6, ⟨fun _ => ⟨⟨zixW hL90.a_Vd6 hL90.l_Vd6 (i := i) (by omega) (by decide), trivial⟩, ⟨(zrgI (x := i + 1) (by omega)), (zFg hΦ 6 (show Φ 26 [some (zo 664), some (zo 129), some (zo (129 + 11 + 2 * r.toNat)), some (zi k), some (zi x), some (zi (i + 1)), none] [] (zsI (zsI (zsI M90 665 i.toNat 0) 666 i.toNat (-1)) 667 i.toNat 0) (0) (0) from ?g256l2))⟩⟩, fun (h : (0 : Int) ≠ 0) => absurd h (by decide)⟩⟩⟩, fun (h : (0 : Int) ≠ 0) => absurd h (by decide)⟩⟩⟩⟩, fun (qc4 : i < (G (132 + 16 * r + 6).toNat)) => ⟨hL90.wVd, _, hL90.d4, ⟨⟨zixW hL90.a_Vd4 hL90.l_Vd4 (i := i) (by omega) (by decide), trivial⟩, ⟨hL90.wVd, _, hL90.d5, ⟨fun (h : (1 : Int) = 0) => absurd h (by decide), fun _ => ⟨⟨⟨rfl, rfl⟩, (hX90.row (by omega) (by omega)).2.w.rcv⟩, ⟨rfl, ⟨(hX90.row (by omega) (by omega)).2.w, _, (hX90.row (by omega) (by omega)).2.r9, ⟨(zrgI (x := i * 3) (by omega)), ⟨(zrgI (x := i * 3 + 1) (by omega)), ⟨zixO (hX90.row (by omega) (by omega)).2.a9 (hX90.row (by omega) (by omega)).2.l9 (i := i * 3 + 1) (by omega) (by decide), zIr ((zIn _ _ _ (by omega)).trans ((hT90.k1 (r := r) (k := i) (by omega) (by omega) (by omega) (by omega)))) (⟨trivial, fun (qg5 : zrg ((G (132 + 16 * r + (7 + 3 * i + 1)).toNat))) _ => ⟨⟨zixW hL90.a_Vd5 hL90.l_Vd5 (i := i) (by omega) (by decide), trivial⟩, ⟨hL90.wVd, _, hL90.d6, ⟨fun (h : (1 : Int) = 0) => absurd h (by decide), fun _ => ⟨hX90.w, _, hX90.r6, ⟨⟨⟨rfl, rfl⟩, (hX90.row (by omega) (by omega)).2.w.rcv⟩, ⟨rfl, ⟨(hX90.row (by omega) (by omega)).2.w, _, (hX90.row (by omega) (by omega)).2.r9, ⟨(zrgI (x := i * 3) (by omega)), ⟨(zrgI (x := i * 3 + 0) (by omega)), zIr (Int.add_zero _) (⟨zixO (hX90.row (by omega) (by omega)).2.a9 (hX90.row (by omega) (by omega)).2.l9 (i := i * 3) (by omega) (by decide), zIr ((zIn _ _ _ (by omega)).trans ((zIn _ _ _ (by omega)).trans ((hT90.k0 (r := r) (k := i) (by omega) (by omega) (by omega) (by omega))))) (⟨trivial, fun (qg6 : zrg ((G (132 + 16 * r + (7 + 3 * i + 0)).toNat))) _ => ⟨zixW hX90.aTwk hX90.lTwk (i := (G (132 + 16 * r + (7 + 3 * i + 0)).toNat)) (by omega) (by decide), _, (hX90.wk (by omega) (by omega)).1, ⟨(hX90.wk (by omega) (by omega)).2, zIr ((zIn _ _ _ (by omega)).trans ((zIn _ _ _ (by omega)).trans ((hT90.w3 (w := (G (132 + 16 * r + (7 + 3 * i + 0)).toNat)) (by omega) (by omega))))) (⟨⟨zixW hL90.a_Vd6 hL90.l_Vd6 (i := i) (by omega) (by decide), trivial⟩, ⟨(zrgI (x := i + 1) (by omega)), (zFg hΦ 6 (show Φ 26 [some (zo 664), some (zo 129), some (zo (129 + 11 + 2 * r.toNat)), some (zi k), some (zi x), some (zi (i + 1)), none] [] (zsI (zsI (zsI M90 665 i.toNat 0) 666 i.toNat (G (132 + 16 * r + (7 + 3 * i + 1)).toNat)) 667 i.toNat (G (6 + 9 * (G (132 + 16 * r + (7 + 3 * i + 0)).toNat) + 3).toNat)) (0) (0) from ?g256l3))⟩⟩)⟩⟩⟩)⟩)⟩⟩⟩⟩⟩⟩⟩⟩⟩⟩)⟩⟩⟩⟩⟩⟩⟩⟩⟩⟩⟩)⟩⟩
    case g256l1 =>
      have e9 : i = 3 := (by omega)
      subst e9
      obtain ⟨a0, b0, c0⟩ := hA9 0 (by decide) (by decide)
      obtain ⟨a1, b1, c1⟩ := hA9 1 (by decide) (by decide)
      obtain ⟨a2, b2, c2⟩ := hA9 2 (by decide) (by decide)
      have hk3 : k = 0 ∨ k = 1 ∨ k = 2 := by omega
      refine phB 3 0 _ (f9.tr (Fr_I hL90.a_Vd5 (by decide) (by decide) (by unfold SVd; omega))) ?_ ?_ ?_ ?_
      · exact ⟨(congrFun (zI_In _ _ _ (by decide)) _).trans hF.1, (congrFun (zI_In _ _ _ (by decide)) _).trans hF.2.1, (congrFun (zI_In _ _ _ (by decide)) _).trans hF.2.2.1, (congrFun (zI_In _ _ _ (by decide)) _).trans hF.2.2.2⟩
      · exact ⟨(congrFun (zI_In _ _ _ (by decide)) _).trans a0, (congrFun (zI_In _ _ _ (by decide)) _).trans a1, (congrFun (zI_In _ _ _ (by decide)) _).trans a2⟩
      · rw [← hy0, ← hy1, ← hy2]
        unfold yv
        rw [hm]
        rcases hk3 with q | q | q <;> subst q
        · exact ⟨zI_Is _ _ _ _, (zI_Im _ _ _ (by decide)).trans b1, (zI_Im _ _ _ (by decide)).trans b2⟩
        · exact ⟨(zI_Im _ _ _ (by decide)).trans b0, zI_Is _ _ _ _, (zI_Im _ _ _ (by decide)).trans b2⟩
        · exact ⟨(zI_Im _ _ _ (by decide)).trans b0, (zI_Im _ _ _ (by decide)).trans b1, zI_Is _ _ _ _⟩
      · rw [← hu0, ← hu1, ← hu2]
        exact ⟨(congrFun (zI_In _ _ _ (by decide)) _).trans c0, (congrFun (zI_In _ _ _ (by decide)) _).trans c1, (congrFun (zI_In _ _ _ (by decide)) _).trans c2⟩
    case g256l2 =>
      refine ih (by omega) _ (f9.tr (((Fr_I hL90.a_Vd4 (by decide) (by decide) (by unfold SVd; omega)).tr (Fr_I hL90.a_Vd5 (by decide) (by decide) (by unfold SVd; omega))).tr (Fr_I hL90.a_Vd6 (by decide) (by decide) (by unfold SVd; omega)))) ?_ (fun j j0 j1 => ?_)
      · exact ⟨by simp (disch := omega) only [zIs, zIm, zIn]; exact hF.1, by simp (disch := omega) only [zIs, zIm, zIn]; exact hF.2.1, by simp (disch := omega) only [zIs, zIm, zIn]; exact hF.2.2.1, by simp (disch := omega) only [zIs, zIm, zIn]; exact hF.2.2.2⟩
      · by_cases e : j = i
        · subst e
          refine ⟨by simp (disch := omega) only [zIs, zIm, zIn], ?_, ?_⟩
          · simp (disch := omega) only [zIs, zIm, zIn]
            rw [if_neg (by omega)]
          · simp (disch := omega) only [zIs, zIm, zIn]
            unfold uv
            rw [if_neg (by omega)]
        · obtain ⟨a, b, c⟩ := hA9 j j0 (by omega)
          refine ⟨by simp (disch := omega) only [zIs, zIm, zIn]; exact a, by simp (disch := omega) only [zIs, zIm, zIn]; exact b, by simp (disch := omega) only [zIs, zIm, zIn]; exact c⟩
    case g256l3 =>
      refine ih (by omega) _ (f9.tr (((Fr_I hL90.a_Vd4 (by decide) (by decide) (by unfold SVd; omega)).tr (Fr_I hL90.a_Vd5 (by decide) (by decide) (by unfold SVd; omega))).tr (Fr_I hL90.a_Vd6 (by decide) (by decide) (by unfold SVd; omega)))) ?_ (fun j j0 j1 => ?_)
      · exact ⟨by simp (disch := omega) only [zIs, zIm, zIn]; exact hF.1, by simp (disch := omega) only [zIs, zIm, zIn]; exact hF.2.1, by simp (disch := omega) only [zIs, zIm, zIn]; exact hF.2.2.1, by simp (disch := omega) only [zIs, zIm, zIn]; exact hF.2.2.2⟩
      · by_cases e : j = i
        · subst e
          refine ⟨by simp (disch := omega) only [zIs, zIm, zIn], ?_, ?_⟩
          · simp (disch := omega) only [zIs, zIm, zIn]
            rw [if_pos (by omega)]
          · simp (disch := omega) only [zIs, zIm, zIn]
            unfold uv
            rw [if_pos (by omega)]
        · obtain ⟨a, b, c⟩ := hA9 j j0 (by omega)
          refine ⟨by simp (disch := omega) only [zIs, zIm, zIn]; exact a, by simp (disch := omega) only [zIs, zIm, zIn]; exact b, by simp (disch := omega) only [zIs, zIm, zIn]; exact c⟩
  have hX := hL.tab
  refine zGoR hΦ [26] 400 (fun hL9 _ hM _ _ => ?_)
  obtain ⟨qL1, qL2, _⟩ : zrg k ∧ zrg x ∧ True := hL9
  refine ⟨(hX.row (by omega) (by omega)).2.w, zIr ((hT.r1 (r := r) (by omega) (by omega))) (⟨⟨hL.wVd, trivial⟩, ⟨⟨hL.wVd, trivial⟩, ⟨⟨hL.wVd, trivial⟩, ⟨⟨hL.wVd, trivial⟩, (show Φ 26 [some (zo 664), some (zo 129), some (zo (129 + 11 + 2 * r.toNat)), some (zi k), some (zi x), some (zi 0), none] [] (zsI (zsI (zsI (zsI M 664 0 (G (132 + 16 * r + 1).toNat)) 664 1 (-1)) 664 2 0) 664 3 0) (0) (0) from ?g257l1)⟩⟩⟩⟩)⟩
  case g257l1 =>
    refine phA 0 (by decide) (by decide) _ ((((Fr_I hL.wVd (by decide) (by decide) (by unfold SVd; omega)).tr (Fr_I hL.wVd (by decide) (by decide) (by unfold SVd; omega))).tr (Fr_I hL.wVd (by decide) (by decide) (by unfold SVd; omega))).tr (Fr_I hL.wVd (by decide) (by decide) (by unfold SVd; omega))) ?_ (fun j j0 j1 => by omega)
    rw [← hst]
    refine ⟨?_, ?_, ?_, ?_⟩ <;> simp (disch := omega) only [zIs, zIm, zIn]
theorem M_X6_judge {l : Launch} (hl : l.stackTraces = false) : zMet l yX6_judge (Cond.code yX6_judge cX6_judge 7 (Option.none : Option Jvm.ClassFile.FieldType) :: zG) rm_X6_judge 0 0 T_X6_judge := met_X6_judge hl (M_X4_resultAt hl) (M_X4_workerAt hl) (M_X6_judgePair hl) (M_X6_judgeThird hl) bd_X6_judge
