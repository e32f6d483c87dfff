/-! the reference: undo, keep, restore -/

def T_X9_undo : ZTf := fun av M K KX => ∃ (P : Int → Gm) (c : Int), av = [zo 670] ∧ (LY M) ∧ (RH M P c) ∧ ((0 < c → ∀ M' : ZM, Fr SYw M M' → (∀ f, f ≠ 0 → f ≠ 19 → zI M' 670 f = zI M 670 f) → zI M' 670 0 = 0 → (∀ j : Nat, j < 516 → zI M' 671 j = P (c - 1) j) → RH M' P (c - 1) → K (some (zi (c - 1))) M') ∧ (c ≤ 0 → K (some (zi 0)) (zsI M 670 0 1)))
set_option maxRecDepth 100000 in
set_option maxHeartbeats 4000000 in
theorem bd_X9_undo : zBd (cd_X9_undo T_X9_passes) 2 0 0 T_X9_undo := by
  rintro av M K KX hA0 hM ⟨P, c, rfl, hY, hH, hK, hE⟩
  obtain ⟨hc0, hc1, hcP⟩ := id hH
  refine ⟨rfl, fun Φ hΦ => ?_⟩
  have fin : 0 < c → K (some (zi (c - 1))) (zsA (zsI (zsI M 670 0 0) 670 19 (c - 1)) 671 (cpG (zI M 671) 0 (fun y : Nat => zI M 679 (516 * (c - 1) + (y : Int)).toNat) 0 516)) := by
    intro h0
    have f1 : Fr SYw M (zsI M 670 0 0) := Fr_I hY.w (by decide) (by decide) (Or.inl rfl)
    have f2 : Fr SYw (zsI M 670 0 0) (zsI (zsI M 670 0 0) 670 19 (c - 1)) := Fr_I (hY.fr f1).w (by decide) (by decide) (Or.inl rfl)
    have hY2 := (hY.fr f1).fr f2
    have f3 : Fr SYw (zsI (zsI M 670 0 0) 670 19 (c - 1)) (zsA (zsI (zsI M 670 0 0) 670 19 (c - 1)) 671 (cpG (zI M 671) 0 (fun y : Nat => zI M 679 (516 * (c - 1) + (y : Int)).toNat) 0 516)) := Fr_A hY2.a1 (by decide) (by decide) (Or.inr (Or.inl rfl))
    refine hK h0 _ ((f1.tr f2).tr f3) (fun f q0 q1 => ?_) ?_ (fun j hj => ?_) ⟨?_, by omega, fun k k0 k1 j hj => ?_⟩
    · rw [zI_An _ _ (by decide), zI_Im _ _ _ q1, zI_Im _ _ _ q0]
    · rw [zI_An _ _ (by decide), zI_Im _ _ _ (by decide), zI_Is]
    · rw [zI_A, cp_in _ _ _ _ _ (by omega)]
      have h9 := hcP (c - 1) (by omega) (by omega) j hj
      rw [← h9]
      congr 1
      omega
    · rw [zI_An _ _ (by decide), zI_Is]
    · rw [zI_An _ _ (by decide), zI_In _ _ _ (by decide), zI_In _ _ _ (by decide)]
      exact hcP k k0 (by omega) j hj
  have loop := fun (hc2 : 0 < c) => zdown (n := 516) (P := fun i => Φ 33 [some (zo 670), some (zi i)] [] (zsA (zsI (zsI M 670 0 0) 670 19 (c - 1)) 671 (cpG (zI M 671) 0 (fun y : Nat => zI M 679 (516 * (c - 1) + (y : Int)).toNat) 0 i)) 0 0) (fun i h0 h1 ih => by
    refine zGoR hΦ [33] 400 (fun hL9 _ hM _ _ => ?_)
    obtain ⟨qL1, _⟩ : zrg i ∧ True := hL9
    refine ⟨fun (qc1 : i ≥ 516) => ⟨hY.w, ⟨trivial, (show K (some (zi (c - 1))) (zsA (zsI (zsI M 670 0 0) 670 19 (c - 1)) 671 (cpG (zI M 671) 0 (fun y : Nat => zI M 679 (516 * (c - 1) + (y : Int)).toNat) 0 i)) from ?g183l1)⟩⟩, fun (qc2 : i < 516) => ⟨hY.w, _, hY.r1, ⟨hY.w, _, hY.r18, ⟨hY.w, ⟨(zrgI (x := 516 * (c - 1)) (by omega)), ⟨(zrgI (x := 516 * (c - 1) + i) (by omega)), ⟨zixO hY.a18 hY.l18 (i := 516 * (c - 1) + i) (by omega) (by decide), ⟨⟨zixW hY.a1 hY.l1 (i := i) (by omega) (by decide), trivial⟩, zMr (zsI_gU _ _ _ i _) (⟨(zrgI (x := i + 1) (by omega)), (show Φ 33 [some (zo 670), some (zi (i + 1))] [] (zsA (zsI (zsI M 670 0 0) 670 19 (c - 1)) 671 (gU (cpG (zI M 671) 0 (fun y : Nat => zI M 679 (516 * (c - 1) + (y : Int)).toNat) 0 i) i (zI M 679 ((516 * (c - 1) + i).toNat)))) (0) (0) from ?g183l2)⟩)⟩⟩⟩⟩⟩⟩⟩⟩
    case g183l1 =>
      have e9 : i = 516 := (by omega)
      subst e9
      exact fin hc2
    case g183l2 =>
      rw [cp_step (n' := i + 1) (by decide) h0 (by omega) rfl (by show _ = zI M 679 (516 * (c - 1) + (((0 + i).toNat : Nat) : Int)).toNat; congr 1; omega)]
      exact ih (by omega)
    done)
  refine zGoR hΦ [33] 400 (fun hL9 _ hM _ _ => ?_)
  obtain ⟨_⟩ : True := hL9
  refine ⟨hY.w, zIr hc0 (⟨fun (qc1 : c ≤ 0) => ⟨⟨⟨rfl, rfl⟩, hY.w.rcv⟩, ⟨rfl, ⟨⟨⟨rfl, rfl⟩, hY.w.rcv⟩, ⟨rfl, ⟨fun (h : (0 : Int) ≠ 0) => absurd h (by decide), fun _ => ⟨⟨hY.w, trivial⟩, ⟨hY.w, ⟨fun _ => ⟨(Or.inl rfl), fun _ _ => ⟨(Or.inl rfl), fun _ _ => ⟨fun (h : (0 : Int) ≠ 0) => absurd h (by decide), fun _ => ⟨trivial, (show K (some (zi 0)) (zsI M 670 0 1) from ?g184l1)⟩⟩⟩⟩, fun (h : (1 : Int) = 0) => absurd h (by decide)⟩⟩⟩⟩⟩⟩⟩⟩, fun (qc4 : c > 0) => ⟨⟨⟨rfl, rfl⟩, hY.w.rcv⟩, ⟨rfl, ⟨⟨⟨rfl, rfl⟩, hY.w.rcv⟩, ⟨rfl, ⟨fun _ => ⟨fun _ => ⟨fun _ => ⟨⟨hY.w, trivial⟩, ⟨hY.w, ⟨fun (h : (0 : Int) ≠ 0) => absurd h (by decide), fun _ => ⟨(Or.inr rfl), fun _ _ => ⟨(Or.inr rfl), fun _ _ => ⟨fun _ => ⟨rfl, ⟨hY.w, zIr hc0 (⟨(zrgI (x := c - 1) (by omega)), ⟨⟨hY.w, trivial⟩, (show Φ 33 [some (zo 670), some (zi 0)] [] (zsI (zsI M 670 0 0) 670 19 (c - 1)) (0) (0) from ?g184l2)⟩⟩)⟩⟩, fun (h : (1 : Int) = 0) => absurd h (by decide)⟩⟩⟩⟩⟩⟩, fun (h : (1 : Int) = 0) => absurd h (by decide)⟩, fun (h : (1 : Int) = 0) => absurd h (by decide)⟩, fun (h : (1 : Int) = 0) => absurd h (by decide)⟩⟩⟩⟩⟩⟩)⟩
  case g184l1 => exact hE (by omega)
  case g184l2 =>
    have h9 := loop (by omega) 0 (by omega) (by omega)
    rw [cp_0 _ _ _ _ (Int.le_refl 0)] at h9
    rw [zsA_re (M := (zsI (zsI M 670 0 0) 670 19 (c - 1))) (A := 671) (g := zI M 671) rfl]
    exact h9
theorem M_X9_undo {l : Launch} (hl : l.stackTraces = false) : zMet l yX9_undo (Cond.code yX9_undo cX9_undo 2 (Option.some Jvm.ClassFile.FieldType.int) :: zG) rm_X9_undo 0 0 T_X9_undo := met_X9_undo hl (M_X9_passes hl) bd_X9_undo

def T_X9_keep : ZTf := fun av M K KX => ∃ (s : Int), av = [zo 670, zi s] ∧ (LY M) ∧ ((0 ≤ s ∧ s ≤ 1 → ∀ M' : ZM, Fr (fun j => j = 670 ∨ j = 677 ∨ j = 678) M M' → (∀ f, f ≠ 0 → zI M' 670 f = zI M 670 f) → zI M' 670 0 = 0 → (∀ j : Nat, j < 516 → zI M' 677 (516 * s.toNat + j) = zI M 671 j) → (∀ j : Nat, (j < 516 * s.toNat ∨ 516 * s.toNat + 516 ≤ j) → zI M' 677 j = zI M 677 j) → zI M' 678 s.toNat = 1 → (∀ j, j ≠ s.toNat → zI M' 678 j = zI M 678 j) → K (some (zi (zI M 671 3))) M') ∧ (¬ (0 ≤ s ∧ s ≤ 1) → K (some (zi 0)) (zsI M 670 0 1)))
set_option maxRecDepth 100000 in
set_option maxHeartbeats 4000000 in
theorem bd_X9_keep : zBd (cd_X9_keep T_X9_isSlot T_X9_passes) 3 0 0 T_X9_keep := by
  rintro av M K KX hA0 hM ⟨s, rfl, hY, hK, hE⟩
  refine ⟨rfl, fun Φ hΦ => ?_⟩
  have fin : 0 ≤ s ∧ s ≤ 1 → K (some (zi (zI M 671 3))) (zsA (zsA (zsI M 670 0 0) 677 (cpG (zI M 677) (516 * s) (zI M 671) 0 516)) 678 (gU (zI (zsA (zsI M 670 0 0) 677 (cpG (zI M 677) (516 * s) (zI M 671) 0 516)) 678) s 1)) := by
    intro h0
    have f1 : Fr (fun j => j = 670 ∨ j = 677 ∨ j = 678) M (zsI M 670 0 0) := Fr_I hY.w (by decide) (by decide) (Or.inl rfl)
    have hY1 := hY.fr f1
    have f2 : Fr (fun j => j = 670 ∨ j = 677 ∨ j = 678) (zsI M 670 0 0) (zsA (zsI M 670 0 0) 677 (cpG (zI M 677) (516 * s) (zI M 671) 0 516)) := Fr_A hY1.a16 (by decide) (by decide) (Or.inr (Or.inl rfl))
    have hY2 := hY1.fr f2
    have f3 : Fr (fun j => j = 670 ∨ j = 677 ∨ j = 678) (zsA (zsI M 670 0 0) 677 (cpG (zI M 677) (516 * s) (zI M 671) 0 516)) (zsA (zsA (zsI M 670 0 0) 677 (cpG (zI M 677) (516 * s) (zI M 671) 0 516)) 678 (gU (zI (zsA (zsI M 670 0 0) 677 (cpG (zI M 677) (516 * s) (zI M 671) 0 516)) 678) s 1)) := Fr_A hY2.a17 (by decide) (by decide) (Or.inr (Or.inr rfl))
    refine hK h0 _ ((f1.tr f2).tr f3) (fun f q0 => ?_) ?_ (fun j hj => ?_) (fun j hj => ?_) ?_ (fun j hj => ?_)
    · rw [zI_An _ _ (by decide), zI_An _ _ (by decide), zI_Im _ _ _ q0]
    · rw [zI_An _ _ (by decide), zI_An _ _ (by decide), zI_Is]
    · rw [zI_An _ _ (by decide), zI_A, cp_in _ _ _ _ _ (by omega)]
      congr 1
      omega
    · rw [zI_An _ _ (by decide), zI_A, cp_out _ _ _ _ _ (by omega)]
    · rw [zI_A, gU_s]
    · rw [zI_A, gU_n _ hj, zI_An _ _ (by decide), zI_In _ _ _ (by decide)]
  have loop := fun (hok : 0 ≤ s ∧ s ≤ 1) => zdown (n := 516) (P := fun i => Φ 15 [some (zo 670), some (zi s), some (zi i)] [] (zsA (zsI M 670 0 0) 677 (cpG (zI M 677) (516 * s) (zI M 671) 0 i)) 0 0) (fun i h0 h1 ih => by
    refine zGoR hΦ [15] 400 (fun hL9 _ hM _ _ => ?_)
    obtain ⟨qL1, qL2, _⟩ : zrg s ∧ zrg i ∧ True := hL9
    refine ⟨fun (qc1 : i ≥ 516) => ⟨hY.w, _, hY.r17, ⟨⟨zixW hY.a17 hY.l17 (i := s) (by omega) (by decide), (Or.inr rfl)⟩, zMr (zsI_g0 _ _ s _) (⟨hY.w, _, hY.r1, ⟨zixO hY.a1 hY.l1 (i := 3) (by decide) (by decide), ⟨trivial, (show K (some (zi (zI M 671 3))) (zsA (zsA (zsI M 670 0 0) 677 (cpG (zI M 677) (516 * s) (zI M 671) 0 i)) 678 (gU (zI (zsA (zsI M 670 0 0) 677 (cpG (zI M 677) (516 * s) (zI M 671) 0 i)) 678) s 1)) from ?g185l1)⟩⟩⟩)⟩⟩, fun (qc2 : i < 516) => ⟨hY.w, _, hY.r16, ⟨(zrgI (x := 516 * s) (by omega)), ⟨(zrgI (x := 516 * s + i) (by omega)), ⟨hY.w, _, hY.r1, ⟨zixO hY.a1 hY.l1 (i := i) (by omega) (by decide), ⟨⟨zixW hY.a16 hY.l16 (i := 516 * s + i) (by omega) (by decide), trivial⟩, zMr (zsI_gU _ _ _ (516 * s + i) _) (⟨(zrgI (x := i + 1) (by omega)), (show Φ 15 [some (zo 670), some (zi s), some (zi (i + 1))] [] (zsA (zsI M 670 0 0) 677 (gU (cpG (zI M 677) (516 * s) (zI M 671) 0 i) (516 * s + i) (zI M 671 i.toNat))) (0) (0) from ?g185l2)⟩)⟩⟩⟩⟩⟩⟩⟩
    case g185l1 =>
      have e9 : i = 516 := (by omega)
      subst e9
      exact fin hok
    case g185l2 =>
      rw [cp_step (n' := i + 1) (by omega) h0 rfl rfl (by rw [Int.zero_add])]
      exact ih (by omega)
    done)
  refine zGoR hΦ [15] 400 (fun hL9 _ hM _ _ => ?_)
  obtain ⟨qL1, _⟩ : zrg s ∧ True := hL9
  refine ⟨⟨⟨rfl, rfl⟩, trivial⟩, ⟨rfl, ⟨⟨⟨rfl, rfl⟩, trivial⟩, ⟨rfl, ⟨fun h => (have qc1 : s < 0 := zc_lt h; ⟨(Or.inl rfl), fun _ _ => ⟨(Or.inl rfl), fun _ _ => ⟨⟨⟨rfl, rfl⟩, hY.w.rcv⟩, ⟨rfl, ⟨⟨⟨rfl, rfl⟩, hY.w.rcv⟩, ⟨rfl, ⟨fun (h : (0 : Int) ≠ 0) => absurd h (by decide), fun _ => ⟨⟨hY.w, trivial⟩, ⟨hY.w, ⟨fun _ => ⟨(Or.inl rfl), fun _ _ => ⟨(Or.inl rfl), fun _ _ => ⟨fun (h : (0 : Int) ≠ 0) => absurd h (by decide), fun _ => ⟨trivial, (show K (some (zi 0)) (zsI M 670 0 1) from ?g186l1)⟩⟩⟩⟩, fun (h : (1 : Int) = 0) => absurd h (by decide)⟩⟩⟩⟩⟩⟩⟩⟩⟩⟩), fun h => (have qc6 : s ≥ 0 := zc_ge h; ⟨fun h => (have qc7 : s > 1 := zc_gt h; ⟨(Or.inl rfl), fun _ _ => ⟨(Or.inl rfl), fun _ _ => ⟨⟨⟨rfl, rfl⟩, hY.w.rcv⟩, ⟨rfl, ⟨⟨⟨rfl, rfl⟩, hY.w.rcv⟩, ⟨rfl, ⟨fun (h : (0 : Int) ≠ 0) => absurd h (by decide), fun _ => ⟨⟨hY.w, trivial⟩, ⟨hY.w, ⟨fun _ => ⟨(Or.inl rfl), fun _ _ => ⟨(Or.inl rfl), fun _ _ => ⟨fun (h : (0 : Int) ≠ 0) => absurd h (by decide), fun _ => ⟨trivial, (show K (some (zi 0)) (zsI M 670 0 1) from ?g186l2)⟩⟩⟩⟩, fun (h : (1 : Int) = 0) => absurd h (by decide)⟩⟩⟩⟩⟩⟩⟩⟩⟩⟩), fun h => (have qc12 : s ≤ 1 := zc_le h; ⟨(Or.inr rfl), fun _ _ => ⟨(Or.inr rfl), fun _ _ => ⟨⟨⟨rfl, rfl⟩, hY.w.rcv⟩, ⟨rfl, ⟨⟨⟨rfl, rfl⟩, hY.w.rcv⟩, ⟨rfl, ⟨fun _ => ⟨fun _ => ⟨fun _ => ⟨⟨hY.w, trivial⟩, ⟨hY.w, ⟨fun (h : (0 : Int) ≠ 0) => absurd h (by decide), fun _ => ⟨(Or.inr rfl), fun _ _ => ⟨(Or.inr rfl), fun _ _ => ⟨fun _ => (show Φ 15 [some (zo 670), some (zi s), some (zi 0)] [] (zsI M 670 0 0) (0) (0) from ?g186l3), fun (h : (1 : Int) = 0) => absurd h (by decide)⟩⟩⟩⟩⟩⟩, fun (h : (1 : Int) = 0) => absurd h (by decide)⟩, fun (h : (1 : Int) = 0) => absurd h (by decide)⟩, fun (h : (1 : Int) = 0) => absurd h (by decide)⟩⟩⟩⟩⟩⟩⟩)⟩)⟩⟩⟩⟩⟩
  case g186l1 => exact hE (by omega)
  case g186l2 => exact hE (by omega)
  case g186l3 =>
    have h9 := loop (by omega) 0 (by omega) (by omega)
    rw [cp_0 _ _ _ _ (Int.le_refl 0)] at h9
    rw [zsA_re (M := (zsI M 670 0 0)) (A := 677) (g := zI M 677) rfl]
    exact h9
theorem M_X9_keep {l : Launch} (hl : l.stackTraces = false) : zMet l yX9_keep (Cond.code yX9_keep cX9_keep 3 (Option.some Jvm.ClassFile.FieldType.int) :: zG) rm_X9_keep 0 0 T_X9_keep := met_X9_keep hl (M_X9_isSlot hl) (M_X9_passes hl) bd_X9_keep

def T_X9_restore : ZTf := fun av M K KX => ∃ (P : Int → Gm) (c : Int) (s : Int), av = [zo 670, zi s] ∧ (LY M) ∧ (RH M P c) ∧ ((0 ≤ s ∧ s ≤ 1 → zI M 678 s.toNat ≠ 0 → ∀ M' : ZM, Fr SYw M M' → (∀ f, f ≠ 0 → f ≠ 19 → zI M' 670 f = zI M 670 f) → zI M' 670 0 = 0 → (∀ j : Nat, j < 516 → zI M' 671 j = zI M 677 (516 * s.toNat + j)) → RH M' (pushP P (zI M 671) c) (pushC c) → K (some (zi (zI M 677 (516 * s.toNat + 3)))) M') ∧ (¬ (0 ≤ s ∧ s ≤ 1) → K (some (zi 0)) (zsI M 670 0 1)) ∧ (0 ≤ s ∧ s ≤ 1 → zI M 678 s.toNat = 0 → K (some (zi 0)) (zsI M 670 0 2)))
set_option maxRecDepth 100000 in
set_option maxHeartbeats 4000000 in
theorem bd_X9_restore : zBd (cd_X9_restore T_X9_isSlot T_X9_passes2 T_X9_remember) 3 0 0 T_X9_restore := by
  rintro av M K KX hA0 hM ⟨P, c, s, rfl, hY, hH, hK, hE, hE2⟩
  refine ⟨rfl, fun Φ hΦ => ?_⟩
  have loop := fun (M1 : ZM) (hY1 : LY M1) (hok : 0 ≤ s ∧ s ≤ 1) (fin : K (some (zi ((cpG (zI M 671) 0 (fun y : Nat => zI M1 677 (516 * s + (y : Int)).toNat) 0 516) 3))) (zsA M1 671 (cpG (zI M 671) 0 (fun y : Nat => zI M1 677 (516 * s + (y : Int)).toNat) 0 516))) => zdown (n := 516) (P := fun i => Φ 40 [some (zo 670), some (zi s), some (zi i)] [] (zsA M1 671 (cpG (zI M 671) 0 (fun y : Nat => zI M1 677 (516 * s + (y : Int)).toNat) 0 i)) 0 0) (fun i h0 h1 ih => by
    refine zGoR hΦ [40] 400 (fun hL9 _ hM _ _ => ?_)
    obtain ⟨qL1, qL2, _⟩ : zrg s ∧ zrg i ∧ True := hL9
    refine ⟨fun (qc1 : i ≥ 516) => ⟨hY1.w, _, hY1.r1, ⟨zixO hY1.a1 hY1.l1 (i := 3) (by decide) (by decide), zIr ((zIa _ _ _ _)) (⟨trivial, (show K (some (zi ((cpG (zI M 671) 0 (fun y : Nat => zI M1 677 (516 * s + (y : Int)).toNat) 0 i) 3))) (zsA M1 671 (cpG (zI M 671) 0 (fun y : Nat => zI M1 677 (516 * s + (y : Int)).toNat) 0 i)) from ?g187l1)⟩)⟩⟩, fun (qc2 : i < 516) => ⟨hY1.w, _, hY1.r1, ⟨hY1.w, _, hY1.r16, ⟨(zrgI (x := 516 * s) (by omega)), ⟨(zrgI (x := 516 * s + i) (by omega)), ⟨zixO hY1.a16 hY1.l16 (i := 516 * s + i) (by omega) (by decide), ⟨⟨zixW hY1.a1 hY1.l1 (i := i) (by omega) (by decide), trivial⟩, zMr (zsI_gU _ _ _ i _) (⟨(zrgI (x := i + 1) (by omega)), (show Φ 40 [some (zo 670), some (zi s), some (zi (i + 1))] [] (zsA M1 671 (gU (cpG (zI M 671) 0 (fun y : Nat => zI M1 677 (516 * s + (y : Int)).toNat) 0 i) i (zI M1 677 ((516 * s + i).toNat)))) (0) (0) from ?g187l2)⟩)⟩⟩⟩⟩⟩⟩⟩
    case g187l1 =>
      have e9 : i = 516 := (by omega)
      subst e9
      exact fin
    case g187l2 =>
      rw [cp_step (n' := i + 1) (by omega) h0 (by omega) rfl (by show _ = zI M1 677 (516 * s + (((0 + i).toNat : Nat) : Int)).toNat; congr 1; omega)]
      exact ih (by omega)
    done)
  refine zGoR hΦ [40] 400 (fun hL9 _ hM _ _ => ?_)
  obtain ⟨qL1, _⟩ : zrg s ∧ True := hL9
  refine ⟨⟨⟨rfl, rfl⟩, trivial⟩, ⟨rfl, ⟨⟨⟨rfl, rfl⟩, trivial⟩, ⟨rfl, ⟨fun h => (have qc1 : s < 0 := zc_lt h; ⟨(Or.inl rfl), fun _ _ => ⟨(Or.inl rfl), fun _ _ => ⟨⟨⟨rfl, rfl⟩, trivial⟩, ⟨rfl, ⟨⟨⟨rfl, rfl⟩, trivial⟩, ⟨rfl, ⟨fun h => (have qc4 : s < 0 := zc_lt h; ⟨(Or.inl rfl), fun _ _ => ⟨(Or.inl rfl), fun _ _ => ⟨fun _ => ⟨⟨⟨rfl, rfl⟩, hY.w.rcv⟩, ⟨rfl, ⟨⟨⟨rfl, rfl⟩, hY.w.rcv⟩, ⟨rfl, ⟨fun (h : (0 : Int) ≠ 0) => absurd h (by decide), fun _ => ⟨⟨hY.w, trivial⟩, ⟨hY.w, ⟨fun _ => ⟨(Or.inl rfl), fun _ _ => ⟨(Or.inl rfl), fun _ _ => ⟨fun (h : (0 : Int) ≠ 0) => absurd h (by decide), fun _ => ⟨trivial, (show K (some (zi 0)) (zsI M 670 0 1) from ?g188l1)⟩⟩⟩⟩, fun (h : (1 : Int) = 0) => absurd h (by decide)⟩⟩⟩⟩⟩⟩⟩⟩, fun (h : (0 : Int) ≠ 0) => absurd h (by decide)⟩⟩⟩), fun h => (have qc9 : s ≥ 0 := zc_ge h; ⟨fun h => (have qc10 : s > 1 := zc_gt h; ⟨(Or.inl rfl), fun _ _ => ⟨(Or.inl rfl), fun _ _ => ⟨fun _ => ⟨⟨⟨rfl, rfl⟩, hY.w.rcv⟩, ⟨rfl, ⟨⟨⟨rfl, rfl⟩, hY.w.rcv⟩, ⟨rfl, ⟨fun (h : (0 : Int) ≠ 0) => absurd h (by decide), fun _ => ⟨⟨hY.w, trivial⟩, ⟨hY.w, ⟨fun _ => ⟨(Or.inl rfl), fun _ _ => ⟨(Or.inl rfl), fun _ _ => ⟨fun (h : (0 : Int) ≠ 0) => absurd h (by decide), fun _ => ⟨trivial, (show K (some (zi 0)) (zsI M 670 0 1) from ?g188l2)⟩⟩⟩⟩, fun (h : (1 : Int) = 0) => absurd h (by decide)⟩⟩⟩⟩⟩⟩⟩⟩, fun (h : (0 : Int) ≠ 0) => absurd h (by decide)⟩⟩⟩), fun h => (have qc15 : s ≤ 1 := zc_le h; ⟨(Or.inr rfl), fun _ _ => ⟨(Or.inr rfl), fun _ _ => ⟨fun (h : (1 : Int) = 0) => absurd h (by decide), fun _ => ⟨hY.w, _, hY.r17, ⟨zixW hY.a17 hY.l17 (i := s) (by omega) (by decide), ⟨fun (qc18 : zI M 678 s.toNat = 0) => ⟨⟨⟨rfl, rfl⟩, hY.w.rcv⟩, ⟨rfl, ⟨⟨⟨rfl, rfl⟩, hY.w.rcv⟩, ⟨rfl, ⟨fun (h : (0 : Int) ≠ 0) => absurd h (by decide), fun _ => ⟨⟨hY.w, trivial⟩, ⟨hY.w, ⟨fun _ => ⟨(Or.inl rfl), fun _ _ => ⟨(Or.inl rfl), fun _ _ => ⟨fun (h : (0 : Int) ≠ 0) => absurd h (by decide), fun _ => ⟨trivial, (show K (some (zi 0)) (zsI M 670 0 1) from ?g188l3)⟩⟩⟩⟩, fun (h : (1 : Int) = 0) => absurd h (by decide)⟩⟩⟩⟩⟩⟩⟩⟩, fun (qc21 : zI M 678 s.toNat ≠ 0) => ⟨⟨⟨rfl, rfl⟩, hY.w.rcv⟩, ⟨rfl, ⟨⟨⟨rfl, rfl⟩, hY.w.rcv⟩, ⟨rfl, ⟨fun (h : (0 : Int) ≠ 0) => absurd h (by decide), fun _ => ⟨⟨hY.w, trivial⟩, ⟨hY.w, ⟨fun _ => ⟨(Or.inl rfl), fun _ _ => ⟨(Or.inl rfl), fun _ _ => ⟨fun (h : (0 : Int) ≠ 0) => absurd h (by decide), fun _ => ⟨trivial, (show K (some (zi 0)) (zsI M 670 0 1) from ?g188l4)⟩⟩⟩⟩, fun (h : (1 : Int) = 0) => absurd h (by decide)⟩⟩⟩⟩⟩⟩⟩⟩⟩⟩⟩⟩⟩⟩)⟩)⟩⟩⟩⟩⟩⟩⟩), fun h => (have qc24 : s ≥ 0 := zc_ge h; ⟨fun h => (have qc25 : s > 1 := zc_gt h; ⟨(Or.inl rfl), fun _ _ => ⟨(Or.inl rfl), fun _ _ => ⟨⟨⟨rfl, rfl⟩, trivial⟩, ⟨rfl, ⟨⟨⟨rfl, rfl⟩, trivial⟩, ⟨rfl, ⟨fun h => (have qc28 : s < 0 := zc_lt h; ⟨(Or.inl rfl), fun _ _ => ⟨(Or.inl rfl), fun _ _ => ⟨fun _ => ⟨⟨⟨rfl, rfl⟩, hY.w.rcv⟩, ⟨rfl, ⟨⟨⟨rfl, rfl⟩, hY.w.rcv⟩, ⟨rfl, ⟨fun (h : (0 : Int) ≠ 0) => absurd h (by decide), fun _ => ⟨⟨hY.w, trivial⟩, ⟨hY.w, ⟨fun _ => ⟨(Or.inl rfl), fun _ _ => ⟨(Or.inl rfl), fun _ _ => ⟨fun (h : (0 : Int) ≠ 0) => absurd h (by decide), fun _ => ⟨trivial, (show K (some (zi 0)) (zsI M 670 0 1) from ?g188l5)⟩⟩⟩⟩, fun (h : (1 : Int) = 0) => absurd h (by decide)⟩⟩⟩⟩⟩⟩⟩⟩, fun (h : (0 : Int) ≠ 0) => absurd h (by decide)⟩⟩⟩), fun h => (have qc33 : s ≥ 0 := zc_ge h; ⟨fun h => (have qc34 : s > 1 := zc_gt h; ⟨(Or.inl rfl), fun _ _ => ⟨(Or.inl rfl), fun _ _ => ⟨fun _ => ⟨⟨⟨rfl, rfl⟩, hY.w.rcv⟩, ⟨rfl, ⟨⟨⟨rfl, rfl⟩, hY.w.rcv⟩, ⟨rfl, ⟨fun (h : (0 : Int) ≠ 0) => absurd h (by decide), fun _ => ⟨⟨hY.w, trivial⟩, ⟨hY.w, ⟨fun _ => ⟨(Or.inl rfl), fun _ _ => ⟨(Or.inl rfl), fun _ _ => ⟨fun (h : (0 : Int) ≠ 0) => absurd h (by decide), fun _ => ⟨trivial, (show K (some (zi 0)) (zsI M 670 0 1) from ?g188l6)⟩⟩⟩⟩, fun (h : (1 : Int) = 0) => absurd h (by decide)⟩⟩⟩⟩⟩⟩⟩⟩, fun (h : (0 : Int) ≠ 0) => absurd h (by decide)⟩⟩⟩), fun h => (have qc39 : s ≤ 1 := zc_le h; ⟨(Or.inr rfl), fun _ _ => ⟨(Or.inr rfl), fun _ _ => ⟨fun (h : (1 : Int) = 0) => absurd h (by decide), fun _ => ⟨hY.w, _, hY.r17, ⟨zixW hY.a17 hY.l17 (i := s) (by omega) (by decide), ⟨fun (qc42 : zI M 678 s.toNat = 0) => ⟨⟨⟨rfl, rfl⟩, hY.w.rcv⟩, ⟨rfl, ⟨⟨⟨rfl, rfl⟩, hY.w.rcv⟩, ⟨rfl, ⟨fun (h : (0 : Int) ≠ 0) => absurd h (by decide), fun _ => ⟨⟨hY.w, trivial⟩, ⟨hY.w, ⟨fun _ => ⟨(Or.inl rfl), fun _ _ => ⟨(Or.inl rfl), fun _ _ => ⟨fun (h : (0 : Int) ≠ 0) => absurd h (by decide), fun _ => ⟨trivial, (show K (some (zi 0)) (zsI M 670 0 1) from ?g188l7)⟩⟩⟩⟩, fun (h : (1 : Int) = 0) => absurd h (by decide)⟩⟩⟩⟩⟩⟩⟩⟩, fun (qc45 : zI M 678 s.toNat ≠ 0) => ⟨⟨⟨rfl, rfl⟩, hY.w.rcv⟩, ⟨rfl, ⟨⟨⟨rfl, rfl⟩, hY.w.rcv⟩, ⟨rfl, ⟨fun (h : (0 : Int) ≠ 0) => absurd h (by decide), fun _ => ⟨⟨hY.w, trivial⟩, ⟨hY.w, ⟨fun _ => ⟨(Or.inl rfl), fun _ _ => ⟨(Or.inl rfl), fun _ _ => ⟨fun (h : (0 : Int) ≠ 0) => absurd h (by decide), fun _ => ⟨trivial, (show K (some (zi 0)) (zsI M 670 0 1) from ?g188l8)⟩⟩⟩⟩, fun (h : (1 : Int) = 0) => absurd h (by decide)⟩⟩⟩⟩⟩⟩⟩⟩⟩⟩⟩⟩⟩⟩)⟩)⟩⟩⟩⟩⟩⟩⟩), fun h => (have qc48 : s ≤ 1 := zc_le h; ⟨(Or.inr rfl), fun _ _ => ⟨(Or.inr rfl), fun _ _ => ⟨⟨⟨rfl, rfl⟩, trivial⟩, ⟨rfl, ⟨⟨⟨rfl, rfl⟩, trivial⟩, ⟨rfl, ⟨fun h => (have qc51 : s < 0 := zc_lt h; ⟨(Or.inl rfl), fun _ _ => ⟨(Or.inl rfl), fun _ _ => ⟨fun _ => ⟨⟨⟨rfl, rfl⟩, hY.w.rcv⟩, ⟨rfl, ⟨⟨⟨rfl, rfl⟩, hY.w.rcv⟩, ⟨rfl, ⟨fun _ => ⟨fun _ => ⟨fun _ => ⟨⟨hY.w, trivial⟩, ⟨hY.w, ⟨fun (h : (0 : Int) ≠ 0) => absurd h (by decide), fun _ => ⟨(Or.inr rfl), fun _ _ => ⟨(Or.inr rfl), fun _ _ => ⟨fun _ => ⟨⟨⟨rfl, rfl⟩, hY.w.rcv⟩, ⟨P, c, rfl, hY, hH, fun M1 hf1 h81 hH1 => (have hY1 := LY.fr (M := zsI M 670 0 0) hY hf1; fun qg56 qm57 => zMr (zsA_re ((hf1.i (hY).a1 (by omega)).trans (zI_In _ _ _ (by decide)))) ((show Φ 40 [some (zo 670), some (zi s), some (zi 0)] [] (zsA M1 671 (zI M 671)) (0) (0) from ?g188l9)))⟩⟩, fun (h : (1 : Int) = 0) => absurd h (by decide)⟩⟩⟩⟩⟩⟩, fun (h : (1 : Int) = 0) => absurd h (by decide)⟩, fun (h : (1 : Int) = 0) => absurd h (by decide)⟩, fun (h : (1 : Int) = 0) => absurd h (by decide)⟩⟩⟩⟩⟩, fun (h : (0 : Int) ≠ 0) => absurd h (by decide)⟩⟩⟩), fun h => (have qc58 : s ≥ 0 := zc_ge h; ⟨fun h => (have qc59 : s > 1 := zc_gt h; ⟨(Or.inl rfl), fun _ _ => ⟨(Or.inl rfl), fun _ _ => ⟨fun _ => ⟨⟨⟨rfl, rfl⟩, hY.w.rcv⟩, ⟨rfl, ⟨⟨⟨rfl, rfl⟩, hY.w.rcv⟩, ⟨rfl, ⟨fun _ => ⟨fun _ => ⟨fun _ => ⟨⟨hY.w, trivial⟩, ⟨hY.w, ⟨fun (h : (0 : Int) ≠ 0) => absurd h (by decide), fun _ => ⟨(Or.inr rfl), fun _ _ => ⟨(Or.inr rfl), fun _ _ => ⟨fun _ => ⟨⟨⟨rfl, rfl⟩, hY.w.rcv⟩, ⟨P, c, rfl, hY, hH, fun M2 hf2 h82 hH2 => (have hY2 := LY.fr (M := zsI M 670 0 0) hY hf2; fun qg64 qm65 => zMr (zsA_re ((hf2.i (hY).a1 (by omega)).trans (zI_In _ _ _ (by decide)))) ((show Φ 40 [some (zo 670), some (zi s), some (zi 0)] [] (zsA M2 671 (zI M 671)) (0) (0) from ?g188l10)))⟩⟩, fun (h : (1 : Int) = 0) => absurd h (by decide)⟩⟩⟩⟩⟩⟩, fun (h : (1 : Int) = 0) => absurd h (by decide)⟩, fun (h : (1 : Int) = 0) => absurd h (by decide)⟩, fun (h : (1 : Int) = 0) => absurd h (by decide)⟩⟩⟩⟩⟩, fun (h : (0 : Int) ≠ 0) => absurd h (by decide)⟩⟩⟩), fun h => (have qc66 : s ≤ 1 := zc_le h; ⟨(Or.inr rfl), fun _ _ => ⟨(Or.inr rfl), fun _ _ => ⟨fun (h : (1 : Int) = 0) => absurd h (by decide), fun _ => ⟨hY.w, _, hY.r17, ⟨zixW hY.a17 hY.l17 (i := s) (by omega) (by decide), ⟨fun (qc69 : zI M 678 s.toNat = 0) => ⟨⟨⟨rfl, rfl⟩, hY.w.rcv⟩, ⟨rfl, ⟨⟨⟨rfl, rfl⟩, hY.w.rcv⟩, ⟨rfl, ⟨fun _ => ⟨fun (h : (0 : Int) ≠ 0) => absurd h (by decide), fun _ => ⟨⟨hY.w, trivial⟩, ⟨hY.w, ⟨fun _ => ⟨(Or.inl rfl), fun _ _ => ⟨(Or.inl rfl), fun _ _ => ⟨fun (h : (0 : Int) ≠ 0) => absurd h (by decide), fun _ => ⟨trivial, (show K (some (zi 0)) (zsI M 670 0 2) from ?g188l11)⟩⟩⟩⟩, fun (h : (2 : Int) = 0) => absurd h (by decide)⟩⟩⟩⟩, fun (h : (1 : Int) = 0) => absurd h (by decide)⟩⟩⟩⟩⟩, fun (qc72 : zI M 678 s.toNat ≠ 0) => ⟨⟨⟨rfl, rfl⟩, hY.w.rcv⟩, ⟨rfl, ⟨⟨⟨rfl, rfl⟩, hY.w.rcv⟩, ⟨rfl, ⟨fun _ => ⟨fun _ => ⟨fun _ => ⟨⟨hY.w, trivial⟩, ⟨hY.w, ⟨fun (h : (0 : Int) ≠ 0) => absurd h (by decide), fun _ => ⟨(Or.inr rfl), fun _ _ => ⟨(Or.inr rfl), fun _ _ => ⟨fun _ => ⟨⟨⟨rfl, rfl⟩, hY.w.rcv⟩, ⟨P, c, rfl, hY, hH, fun M3 hf3 h83 hH3 => (have hY3 := LY.fr (M := zsI M 670 0 0) hY hf3; fun qg75 qm76 => zMr (zsA_re ((hf3.i (hY).a1 (by omega)).trans (zI_In _ _ _ (by decide)))) ((show Φ 40 [some (zo 670), some (zi s), some (zi 0)] [] (zsA M3 671 (zI M 671)) (0) (0) from ?g188l12)))⟩⟩, fun (h : (1 : Int) = 0) => absurd h (by decide)⟩⟩⟩⟩⟩⟩, fun (h : (1 : Int) = 0) => absurd h (by decide)⟩, fun (h : (1 : Int) = 0) => absurd h (by decide)⟩, fun (h : (1 : Int) = 0) => absurd h (by decide)⟩⟩⟩⟩⟩⟩⟩⟩⟩⟩⟩)⟩)⟩⟩⟩⟩⟩⟩⟩)⟩)⟩⟩⟩⟩⟩
  case g188l1 => first | (exfalso; omega) | exact hE (by omega)
  case g188l2 => first | (exfalso; omega) | exact hE (by omega)
  case g188l3 => first | (exfalso; omega) | exact hE (by omega)
  case g188l4 => first | (exfalso; omega) | exact hE (by omega)
  case g188l5 => first | (exfalso; omega) | exact hE (by omega)
  case g188l6 => first | (exfalso; omega) | exact hE (by omega)
  case g188l7 => first | (exfalso; omega) | exact hE (by omega)
  case g188l8 => first | (exfalso; omega) | exact hE (by omega)
  case g188l9 =>
    first
    | (exfalso; omega)
    | skip
      have hs9 : 0 ≤ s ∧ s ≤ 1 := (by omega)
      have e55 : zI M1 677 = zI M 677 := (hf1.i (M := zsI M 670 0 0) (j := 677) hY.a16 (by decide)).trans (zI_In _ _ _ (by decide))
      have h9 := loop M1 hY1 hs9 (apiFin hY hf1 h81 hH1 (fun M' y1 y2 y3 y4 y5 => by
        refine zKi (hK hs9 (by assumption) M' y1 y2 y3 (fun j hj => ?_) y5) ?_
        · rw [y4, cp_in _ _ _ _ _ (by omega), e55]
          congr 1
          omega
        · rw [cp_in _ _ _ _ _ (by omega), e55]
          congr 1
          omega)) 0 (by omega) (by omega)
      rw [cp_0 _ _ _ _ (Int.le_refl 0)] at h9
      exact h9
  case g188l10 =>
    first
    | (exfalso; omega)
    | skip
      have hs9 : 0 ≤ s ∧ s ≤ 1 := (by omega)
      have e55 : zI M2 677 = zI M 677 := (hf2.i (M := zsI M 670 0 0) (j := 677) hY.a16 (by decide)).trans (zI_In _ _ _ (by decide))
      have h9 := loop M2 hY2 hs9 (apiFin hY hf2 h82 hH2 (fun M' y1 y2 y3 y4 y5 => by
        refine zKi (hK hs9 (by assumption) M' y1 y2 y3 (fun j hj => ?_) y5) ?_
        · rw [y4, cp_in _ _ _ _ _ (by omega), e55]
          congr 1
          omega
        · rw [cp_in _ _ _ _ _ (by omega), e55]
          congr 1
          omega)) 0 (by omega) (by omega)
      rw [cp_0 _ _ _ _ (Int.le_refl 0)] at h9
      exact h9
  case g188l11 => first | (exfalso; omega) | exact hE2 (by omega) (by assumption)
  case g188l12 =>
    first
    | (exfalso; omega)
    | skip
      have hs9 : 0 ≤ s ∧ s ≤ 1 := (by omega)
      have e55 : zI M3 677 = zI M 677 := (hf3.i (M := zsI M 670 0 0) (j := 677) hY.a16 (by decide)).trans (zI_In _ _ _ (by decide))
      have h9 := loop M3 hY3 hs9 (apiFin hY hf3 h83 hH3 (fun M' y1 y2 y3 y4 y5 => by
        refine zKi (hK hs9 (by assumption) M' y1 y2 y3 (fun j hj => ?_) y5) ?_
        · rw [y4, cp_in _ _ _ _ _ (by omega), e55]
          congr 1
          omega
        · rw [cp_in _ _ _ _ _ (by omega), e55]
          congr 1
          omega)) 0 (by omega) (by omega)
      rw [cp_0 _ _ _ _ (Int.le_refl 0)] at h9
      exact h9
theorem M_X9_restore {l : Launch} (hl : l.stackTraces = false) : zMet l yX9_restore (Cond.code yX9_restore cX9_restore 3 (Option.some Jvm.ClassFile.FieldType.int) :: zG) rm_X9_restore 0 0 T_X9_restore := met_X9_restore hl (M_X9_isSlot hl) (M_X9_passes2 hl) (M_X9_remember hl) bd_X9_restore
