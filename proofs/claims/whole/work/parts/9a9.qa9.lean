/-! the reference: a search -/
def S53 (j : Nat) : Prop := j = 675 ∨ j = 676
theorem gU_q {g : Gm} {i w q : Int} (h0 : 0 ≤ i) (q0 : 0 ≤ q) : gU g i w q.toNat = if q = i then w else g q.toNat := by
  rw [gU_if]
  by_cases e : q = i
  · rw [if_pos e, if_pos (by rw [e])]
  · rw [if_neg e, if_neg (by omega)]

def T_X9_finds (d : Nat) : ZTf := fun av M K KX => ∃ (G : Gm) (w : Int), av = [zo 670, zi w] ∧ (LY M) ∧ (MA M 671) ∧ (zI M 671 = G) ∧ (GI G) ∧ (0 ≤ w ∧ w < G 4) ∧ (hvl (fCan G) (G 4) (G 5) (zI M 675)) ∧ (∀ q : Int, 0 ≤ q → q < G 5 → zI M 676 q.toNat = 0 ∨ zI M 676 q.toNat = 1) ∧ (unt (G 5) (zI M 676) < (d : Int)) ∧ (∀ (M' : ZM) (b : Bool), Fr S53 M M' → FS (fCan G) (G 4) (G 5) w (zI M 675) (zI M 676) (zI M' 675) (zI M' 676) b → K (some (zi (b2i b))) M')
set_option maxRecDepth 100000 in
set_option maxHeartbeats 1500000 in
theorem bd_X9_finds (d : Nat) : zBd (cd_X9_finds T_X9_rows T_X9_canTake (T_X9_finds d)) 3 0 0 (T_X9_finds (d + 1)) := by
  rintro av M K KX hA0 hM ⟨G, w, rfl, hY, hA, eG, hG, hw, hv, hz, hu, hK⟩
  obtain ⟨hw5, hr5, hR5⟩ := id hG
  refine ⟨rfl, fun Φ hΦ => ?_⟩
  have s38 : ∀ (i : Int), 0 ≤ i → i < G 5 → ∀ (M80 : ZM), Fr S53 M M80 → (∀ q : Int, 0 ≤ q → q < G 5 → zI M80 675 q.toNat = zI M 675 q.toNat) → FL (fCan G) (G 5) w i (zI M 675) (zI M 676) (zI M80 676) → zI M80 676 i.toNat ≠ 1 → fCan G w i = true → (∀ (M8 : ZM), Fr S53 M M8 → (∀ q : Int, 0 ≤ q → q < G 5 → zI M8 675 q.toNat = zI M 675 q.toNat) → FL (fCan G) (G 5) w (i + 1) (zI M 675) (zI M 676) (zI M8 676) → Φ 2 [some (zo 670), some (zi w), some (zi (i + 1))] [] M8 0 0) → Φ 38 [some (zo 670), some (zi w), some (zi i)] [] (zsA M80 676 (gU (zI M80 676) i 1)) 0 0 := by
    intro i h0 h1 M80 f80 he80 hFL hz1 hcan ih
    have hY80 := hY.fr f80
    have f9 : Fr S53 M80 (zsA M80 676 (gU (zI M80 676) i 1)) := Fr_A hY80.a15 (by decide) (by decide) (Or.inr rfl)
    obtain ⟨M90, hM90⟩ : ∃ M90, zsA M80 676 (gU (zI M80 676) i 1) = M90 := ⟨_, rfl⟩
    have e53 : zI M90 675 = zI M80 675 := by rw [← hM90]; exact zI_An _ _ (by decide)
    have e54 : zI M90 676 = gU (zI M80 676) i 1 := by rw [← hM90]; exact zI_A _ _ _
    rw [hM90] at f9 ⊢
    have f90 := f80.tr f9
    have hY90 := hY.fr f90
    have hA90 := MA.fr hY hA f90
    have eG90 : zI M90 671 = G := (f90.i hY.a1 (by unfold S53; omega)).trans eG
    have he90 : ∀ q : Int, 0 ≤ q → q < G 5 → zI M90 675 q.toNat = zI M 675 q.toNat := fun q a b => by rw [e53]; exact he80 q a b
    have hZ90 : ∀ q : Int, 0 ≤ q → q < G 5 → zI M90 676 q.toNat = if q = i then 1 else zI M80 676 q.toNat := fun q a b => by
      rw [e54, gU_if]
      by_cases e : q = i
      · rw [if_pos e, if_pos (by rw [e])]
      · rw [if_neg e, if_neg (by omega)]
    have hv90 : hvl (fCan G) (G 4) (G 5) (zI M90 675) := fun q a b => by rw [he90 q a b]; exact hv q a b
    have hz90 : ∀ q : Int, 0 ≤ q → q < G 5 → zI M90 676 q.toNat = 0 ∨ zI M90 676 q.toNat = 1 := fun q a b => by
      rw [hZ90 q a b]
      split
      · exact Or.inr rfl
      · exact (hFL.1 q a b).1
    have hu90 := unt_lt (Z := zI M 676) h0 h1 hz1 (fun q a b => (hFL.1 q a b).2) hZ90
    have hvi := hv90 i h0 h1
    refine zGoR hΦ [2] 400 (fun hL9 _ hM _ _ => ?_)
    obtain ⟨qL1, qL2, _⟩ : zrg w ∧ zrg i ∧ True := hL9
    refine ⟨hY90.w, _, hY90.r14, ⟨zixO hY90.a14 hY90.l14 (i := i) (by omega) (by decide), ⟨fun (qc1 : zI M90 675 i.toNat = (-1)) => ⟨hY90.w, _, hY90.r14, ⟨⟨zixW hY90.a14 hY90.l14 (i := i) (by omega) (by decide), trivial⟩, zMr (zsI_g0 _ _ i _) (⟨(Or.inr rfl), (show K (some (zi 1)) (zsA M90 675 (gU (zI M90 675) i w)) from ?g452l1)⟩)⟩⟩, fun (qc2 : zI M90 675 i.toNat ≠ (-1)) => ⟨hY90.w, _, hY90.r14, ⟨zixO hY90.a14 hY90.l14 (i := i) (by omega) (by decide), ⟨⟨⟨rfl, rfl⟩, hY90.w.rcv⟩, ⟨G, (zI M90 675 i.toNat), rfl, hY90, hA90, eG90, hG, (by omega), hv90, hz90, (by omega), fun M1 s1 hf1 hq1 => (have hY1 := hY90.fr hf1; fun (qg3 : zrg (b2i s1)) qm4 => ⟨fun h => (have qc5 : s1 = false := b2i_e0 h; ⟨(zrgI (x := i + 1) (by omega)), (show Φ 2 [some (zo 670), some (zi w), some (zi (i + 1))] [] M1 (0) (0) from ?g452l2)⟩), fun h => (have qc6 : s1 = true := b2i_n0 h; ⟨hY1.w, _, hY1.r14, ⟨⟨zixW hY1.a14 hY1.l14 (i := i) (by omega) (by decide), trivial⟩, zMr (zsI_g0 _ _ i _) (⟨(Or.inr rfl), (show K (some (zi 1)) (zsA M1 675 (gU (zI M1 675) i w)) from ?g452l3)⟩)⟩⟩)⟩)⟩⟩⟩⟩⟩⟩⟩
    case g452l1 =>
      have hfr : Fr S53 M90 (zsA M90 675 (gU (zI M90 675) i w)) := Fr_A hY90.a14 (by decide) (by decide) (Or.inl rfl)
      refine hK _ true (f90.tr hfr) ?_
      rw [zI_An M90 (gU (zI M90 675) i w) (show (676 : Nat) ≠ 675 by decide)]
      exact FS.t0 hFL hv he90 hw h0 h1 hz1 hcan (by omega) hZ90 (fun q a b => by rw [zI_A]; exact gU_q h0 a)
    case g452l2 =>
      have hff := hq1
      rw [show s1 = false by assumption] at hff
      have h9 := hFL.f he90 h0 h1 (by omega) hZ90 hff
      exact ih _ (f90.tr hf1) h9.2 h9.1
    case g452l3 =>
      have hff := hq1
      rw [show s1 = true by assumption] at hff
      have hfr : Fr S53 M1 (zsA M1 675 (gU (zI M1 675) i w)) := Fr_A hY1.a14 (by decide) (by decide) (Or.inl rfl)
      refine hK _ true ((f90.tr hf1).tr hfr) ?_
      rw [zI_An M1 (gU (zI M1 675) i w) (show (676 : Nat) ≠ 675 by decide)]
      exact FS.t1 hFL hv he90 hw h0 h1 hz1 hcan (by omega) hZ90 hff (fun q a b => by rw [zI_A]; exact gU_q h0 a)
  have loop : ∀ i, 0 ≤ i → i ≤ G 5 → ∀ (M90 : ZM), Fr S53 M M90 → (∀ q : Int, 0 ≤ q → q < G 5 → zI M90 675 q.toNat = zI M 675 q.toNat) → FL (fCan G) (G 5) w i (zI M 675) (zI M 676) (zI M90 676) → Φ 2 [some (zo 670), some (zi w), some (zi i)] [] M90 0 0 := by
    refine zdown (n := G 5) (P := fun i => ∀ (M90 : ZM), Fr S53 M M90 → (∀ q : Int, 0 ≤ q → q < G 5 → zI M90 675 q.toNat = zI M 675 q.toNat) → FL (fCan G) (G 5) w i (zI M 675) (zI M 676) (zI M90 676) → Φ 2 [some (zo 670), some (zi w), some (zi i)] [] M90 0 0) (fun i h0 h1 ih M90 f90 he90 hFL => ?_)
    have hY90 := hY.fr f90
    have hA90 := MA.fr hY hA f90
    have eG90 : zI M90 671 = G := (f90.i hY.a1 (by unfold S53; omega)).trans eG
    have e5 : zI M90 671 5 = G 5 := congrFun eG90 5
    have hzi := fun q : i < G 5 => (hFL.1 i h0 q).1
    refine zGoR hΦ [2, 38] 400 (fun hL9 _ hM _ _ => ?_)
    obtain ⟨qL1, qL2, _⟩ : zrg w ∧ zrg i ∧ True := hL9
    refine ⟨⟨⟨rfl, rfl⟩, hY90.w.rcv⟩, ⟨rfl, ⟨hY90.w, _, hA90.1, ⟨zixO hA90.2.1 hA90.2.2 (i := 5) (by decide) (by decide), ⟨trivial, fun (qg1 : zrg (zI M90 671 5)) _ => ⟨fun (qc2 : i ≥ zI M90 671 5) => ⟨(Or.inl rfl), (show K (some (zi 0)) M90 from ?g453l1)⟩, fun (qc3 : i < zI M90 671 5) => ⟨hY90.w, _, hY90.r15, ⟨zixW hY90.a15 hY90.l15 (i := i) (by omega) (by decide), ⟨fun (qc4 : zI M90 676 i.toNat ≠ 0) => ⟨(zrgI (x := i + 1) (by omega)), (show Φ 2 [some (zo 670), some (zi w), some (zi (i + 1))] [] M90 (0) (0) from ?g453l2)⟩, fun (qc5 : zI M90 676 i.toNat = 0) => ⟨⟨⟨rfl, rfl⟩, hY90.w.rcv⟩, ⟨rfl, ⟨⟨⟨rfl, rfl⟩, hY90.w.rcv⟩, ⟨671, w, i, rfl, hY90, hA90, (by rw [eG90]; exact hG), (by rw [eG90]; exact hR5 i h0 (by omega)), (by omega), fun (qg6 : zrg (fRefusal (zI M90 671) w i)) qm7 => ⟨fun (qc8 : fRefusal (zI M90 671) w i ≠ 0) => ⟨(Or.inl rfl), fun _ _ => ⟨fun (h : (0 : Int) ≠ 0) => absurd h (by decide), fun _ => ⟨(zrgI (x := i + 1) (by omega)), (show Φ 2 [some (zo 670), some (zi w), some (zi (i + 1))] [] M90 (0) (0) from ?g453l3)⟩⟩⟩, fun (qc10 : fRefusal (zI M90 671) w i = 0) => ⟨(Or.inr rfl), fun _ _ => ⟨fun _ => ⟨hY90.w, _, hY90.r15, ⟨⟨zixW hY90.a15 hY90.l15 (i := i) (by omega) (by decide), (Or.inr rfl)⟩, zMr (zsI_g0 _ _ i _) ((show Φ 38 [some (zo 670), some (zi w), some (zi i)] [] (zsA M90 676 (gU (zI M90 676) i 1)) (0) (0) from ?g453l4))⟩⟩, fun (h : (1 : Int) = 0) => absurd h (by decide)⟩⟩⟩⟩⟩⟩⟩⟩⟩⟩⟩⟩⟩⟩⟩⟩
    case g453l1 =>
      have e9 : i = G 5 := (by omega)
      subst e9
      exact hK _ false f90 (hFL.e hv he90)
    case g453l2 =>
      first
      | (exfalso; omega)
      | skip
        have hzz := hzi (by omega)
        refine ih (by omega) M90 f90 he90 (hFL.sk ?_)
        first
        | exact Or.inl (by omega)
        | (refine Or.inr ?_
           unfold fCan
           refine decide_eq_false ?_
           rw [← eG90]
           first
           | assumption
           | omega)
    case g453l3 =>
      first
      | (exfalso; omega)
      | skip
        have hzz := hzi (by omega)
        refine ih (by omega) M90 f90 he90 (hFL.sk ?_)
        first
        | exact Or.inl (by omega)
        | (refine Or.inr ?_
           unfold fCan
           refine decide_eq_false ?_
           rw [← eG90]
           first
           | assumption
           | omega)
    case g453l4 =>
      have hzz := hzi (by omega)
      refine s38 i h0 (by omega) M90 f90 he90 hFL (by omega) ?_ (fun M8 a b c => ih (by omega) M8 a b c)
      unfold fCan
      refine decide_eq_true ?_
      rw [← eG90]
      first
      | assumption
      | omega
  refine zGoR hΦ [2] 400 (fun hL9 _ hM _ _ => ?_)
  obtain ⟨qL1, _⟩ : zrg w ∧ True := hL9
  refine (show Φ 2 [some (zo 670), some (zi w), some (zi 0)] [] M (0) (0) from ?g454l1)
  case g454l1 =>
    exact loop 0 (by omega) (by omega) M Fr.rf (fun _ _ _ => rfl) (FL.z hz)
theorem M_X9_finds {l : Launch} (hl : l.stackTraces = false) : ∀ d : Nat, zMet l yX9_finds (Cond.code yX9_finds cX9_finds 3 (Option.some Jvm.ClassFile.FieldType.boolean) :: zG) (rm_X9_finds d) 0 0 (T_X9_finds d) := by
  intro d
  induction d with
  | zero =>
    intro D a M av K KX h
    obtain ⟨G, w, -, -, -, -, hG, -, -, -, hu, -⟩ := h
    have h9 := cntI_r (fun r => decide (zI M 676 r.toNat ≠ 1)) (G 5) hG.2.1.1
    unfold unt at hu
    omega
  | succ d ih => exact met_X9_finds hl (M_X9_rows hl) (M_X9_canTake hl) ih (bd_X9_finds d)
