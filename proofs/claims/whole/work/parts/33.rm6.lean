/-! the reference: undo, keep, restore -/

def T_X9_undo : ZTf := fun av M K KX => ∃ (P : Int → Gm) (c : Int), av = [zo 1148] ∧ (LY M) ∧ (RH M P c) ∧ ((0 < c → ∀ M' : ZM, Fr SYw M M' → (∀ f, f ≠ 0 → f ≠ 19 → zI M' 1148 f = zI M 1148 f) → zI M' 1148 0 = 0 → (∀ j : Nat, j < 516 → zI M' 1149 j = P (c - 1) j) → RH M' P (c - 1) → K (some (zi (c - 1))) M') ∧ (c ≤ 0 → K (some (zi 0)) (zsI M 1148 0 1)))
set_option maxRecDepth 100000 in
set_option maxHeartbeats 4000000 in
theorem bd_X9_undo : zBd (cd_X9_undo T_X9_passes) 2 0 0 T_X9_undo := by
  rintro av M K KX hA0 hM ⟨P, c, rfl, hY, hH, hK, hE⟩
  obtain ⟨hc0, hc1, hcP⟩ := id hH
  refine ⟨rfl, fun Φ hΦ => ?_⟩
  have fin : 0 < c → K (some (zi (c - 1))) (zsA (zsI (zsI M 1148 0 0) 1148 19 (c - 1)) 1149 (cpG (zI M 1149) 0 (fun y : Nat => zI M 1157 (516 * (c - 1) + (y : Int)).toNat) 0 516)) := by
    intro h0
    have f1 : Fr SYw M (zsI M 1148 0 0) := Fr_I hY.w (by decide) (by decide) (Or.inl rfl)
    have f2 : Fr SYw (zsI M 1148 0 0) (zsI (zsI M 1148 0 0) 1148 19 (c - 1)) := Fr_I (hY.fr f1).w (by decide) (by decide) (Or.inl rfl)
    have hY2 := (hY.fr f1).fr f2
    have f3 : Fr SYw (zsI (zsI M 1148 0 0) 1148 19 (c - 1)) (zsA (zsI (zsI M 1148 0 0) 1148 19 (c - 1)) 1149 (cpG (zI M 1149) 0 (fun y : Nat => zI M 1157 (516 * (c - 1) + (y : Int)).toNat) 0 516)) := Fr_A hY2.a1 (by decide) (by decide) (Or.inr (Or.inl rfl))
    refine hK h0 _ ((f1.tr f2).tr f3) (fun f q0 q1 => ?_) ?_ (fun j hj => ?_) ⟨?_, by omega, fun k k0 k1 j hj => ?_⟩
    · rw [zI_An _ _ (by decide), zI_Im _ _ _ q1, zI_Im _ _ _ q0]
    · rw [zI_An _ _ (by decide), zI_Im _ _ _ (by decide), zI_Is]
    · rw [zI_A, cp_in _ _ _ _ _ (by omega)]
      have h9 := hcP (c - 1) (by omega) (by omega) j hj
      rw [← h9]
      congr 1
      omega
    · rw [zI_An _ _ (by decide), zI_Is]
    · rw [zI_An _ _ (by decide), zI_In _ _ _ (by decide), zI_In _ _ _ (by decide)]
      exact hcP k k0 (by omega) j hj
  have loop := fun (hc2 : 0 < c) => zdown (n := 516) (P := fun i => Φ 33 [some (zo 1148), some (zi i)] [] (zsA (zsI (zsI M 1148 0 0) 1148 19 (c - 1)) 1149 (cpG (zI M 1149) 0 (fun y : Nat => zI M 1157 (516 * (c - 1) + (y : Int)).toNat) 0 i)) 0 0) (fun i h0 h1 ih => by
    refine zGoR hΦ [33] 400 (fun hL9 _ hM _ _ => ?_)
    obtain ⟨qL1, _⟩ : zrg i ∧ True := hL9
    refine ⟨fun (qc1 : i ≥ 516) => ⟨hY.w, ⟨trivial, (show K (some (zi (c - 1))) (zsA (zsI (zsI M 1148 0 0) 1148 19 (c - 1)) 1149 (cpG (zI M 1149) 0 (fun y : Nat => zI M 1157 (516 * (c - 1) + (y : Int)).toNat) 0 i)) from ?g183l1)⟩⟩, fun (qc2 : i < 516) => ⟨hY.w, _, hY.r1, ⟨hY.w, _, hY.r18, ⟨hY.w, ⟨(zrgI (x := 516 * (c - 1)) (by omega)), ⟨(zrgI (x := 516 * (c - 1) + i) (by omega)), ⟨zixO hY.a18 hY.l18 (i := 516 * (c - 1) + i) (by omega) (by decide), ⟨⟨zixW hY.a1 hY.l1 (i := i) (by omega) (by decide), trivial⟩, zMr (zsI_gU _ _ _ i _) (⟨(zrgI (x := i + 1) (by omega)), (show Φ 33 [some (zo 1148), some (zi (i + 1))] [] (zsA (zsI (zsI M 1148 0 0) 1148 19 (c - 1)) 1149 (gU (cpG (zI M 1149) 0 (fun y : Nat => zI M 1157 (516 * (c - 1) + (y : Int)).toNat) 0 i) i (zI M 1157 ((516 * (c - 1) + i).toNat)))) (0) (0) from ?g183l2)⟩)⟩⟩⟩⟩⟩⟩⟩⟩
    case g183l1 =>
      have e9 : i = 516 := (by omega)
      subst e9
      exact fin hc2
    case g183l2 =>
      rw [cp_step (n' := i + 1) (by decide) h0 (by omega) rfl (by show _ = zI M 1157 (516 * (c - 1) + (((0 + i).toNat : Nat) : Int)).toNat; congr 1; omega)]
      exact ih (by omega)
    done)
  refine zGoR hΦ [33] 400 (fun hL9 _ hM _ _ => ?_)
  obtain ⟨_⟩ : True := hL9
  refine ⟨hY.w, zIr hc0 (⟨fun (qc1 : c ≤ 0) => ⟨⟨⟨rfl, rfl⟩, hY.w.rcv⟩, ⟨rfl, ⟨⟨⟨rfl, rfl⟩, hY.w.rcv⟩, ⟨rfl, ⟨fun (h : (0 : Int) ≠ 0) => absurd h (by decide), fun _ => ⟨⟨hY.w, trivial⟩, ⟨hY.w, ⟨fun _ => ⟨(Or.inl rfl), fun _ _ => ⟨(Or.inl rfl), fun _ _ => ⟨fun (h : (0 : Int) ≠ 0) => absurd h (by decide), fun _ => ⟨trivial, (show K (some (zi 0)) (zsI M 1148 0 1) from ?g184l1)⟩⟩⟩⟩, fun (h : (1 : Int) = 0) => absurd h (by decide)⟩⟩⟩⟩⟩⟩⟩⟩, fun (qc4 : c > 0) => ⟨⟨⟨rfl, rfl⟩, hY.w.rcv⟩, ⟨rfl, ⟨⟨⟨rfl, rfl⟩, hY.w.rcv⟩, ⟨rfl, ⟨fun _ => ⟨fun _ => ⟨fun _ => ⟨⟨hY.w, trivial⟩, ⟨hY.w, ⟨fun (h : (0 : Int) ≠ 0) => absurd h (by decide), fun _ => ⟨(Or.inr rfl), fun _ _ => ⟨(Or.inr rfl), fun _ _ => ⟨fun _ => ⟨rfl, ⟨hY.w, zIr hc0 (⟨(zrgI (x := c - 1) (by omega)), ⟨⟨hY.w, trivial⟩, (show Φ 33 [some (zo 1148), some (zi 0)] [] (zsI (zsI M 1148 0 0) 1148 19 (c - 1)) (0) (0) from ?g184l2)⟩⟩)⟩⟩, fun (h : (1 : Int) = 0) => absurd h (by decide)⟩⟩⟩⟩⟩⟩, fun (h : (1 : Int) = 0) => absurd h (by decide)⟩, fun (h : (1 : Int) = 0) => absurd h (by decide)⟩, fun (h : (1 : Int) = 0) => absurd h (by decide)⟩⟩⟩⟩⟩⟩)⟩
  case g184l1 => exact hE (by omega)
  case g184l2 =>
    have h9 := loop (by omega) 0 (by omega) (by omega)
    rw [cp_0 _ _ _ _ (Int.le_refl 0)] at h9
    rw [zsA_re (M := (zsI (zsI M 1148 0 0) 1148 19 (c - 1))) (A := 1149) (g := zI M 1149) rfl]
    exact h9
theorem M_X9_undo {l : Launch} (hl : l.stackTraces = false) : zMet l yX9_undo (Cond.code yX9_undo cX9_undo 2 (Option.some Jvm.ClassFile.FieldType.int) :: zG) rm_X9_undo 0 0 T_X9_undo := met_X9_undo hl (M_X9_passes hl) bd_X9_undo

def T_X9_keep : ZTf := fun av M K KX => ∃ (s : Int), av = [zo 1148, zi s] ∧ (LY M) ∧ ((0 ≤ s ∧ s ≤ 1 → ∀ M' : ZM, Fr (fun j => j = 1148 ∨ j = 1155 ∨ j = 1156) M M' → (∀ f, f ≠ 0 → zI M' 1148 f = zI M 1148 f) → zI M' 1148 0 = 0 → (∀ j : Nat, j < 516 → zI M' 1155 (516 * s.toNat + j) = zI M 1149 j) → (∀ j : Nat, (j < 516 * s.toNat ∨ 516 * s.toNat + 516 ≤ j) → zI M' 1155 j = zI M 1155 j) → zI M' 1156 s.toNat = 1 → (∀ j, j ≠ s.toNat → zI M' 1156 j = zI M 1156 j) → K (some (zi (zI M 1149 3))) M') ∧ (¬ (0 ≤ s ∧ s ≤ 1) → K (some (zi 0)) (zsI M 1148 0 1)))
set_option maxRecDepth 100000 in
set_option maxHeartbeats 4000000 in
theorem bd_X9_keep : zBd (cd_X9_keep T_X9_isSlot T_X9_passes) 3 0 0 T_X9_keep := by
  rintro av M K KX hA0 hM ⟨s, rfl, hY, hK, hE⟩
  refine ⟨rfl, fun Φ hΦ => ?_⟩
  have fin : 0 ≤ s ∧ s ≤ 1 → K (some (zi (zI M 1149 3))) (zsA (zsA (zsI M 1148 0 0) 1155 (cpG (zI M 1155) (516 * s) (zI M 1149) 0 516)) 1156 (gU (zI (zsA (zsI M 1148 0 0) 1155 (cpG (zI M 1155) (516 * s) (zI M 1149) 0 516)) 1156) s 1)) := by
    intro h0
    have f1 : Fr (fun j => j = 1148 ∨ j = 1155 ∨ j = 1156) M (zsI M 1148 0 0) := Fr_I hY.w (by decide) (by decide) (Or.inl rfl)
    have hY1 := hY.fr f1
    have f2 : Fr (fun j => j = 1148 ∨ j = 1155 ∨ j = 1156) (zsI M 1148 0 0) (zsA (zsI M 1148 0 0) 1155 (cpG (zI M 1155) (516 * s) (zI M 1149) 0 516)) := Fr_A hY1.a16 (by decide) (by decide) (Or.inr (Or.inl rfl))
    have hY2 := hY1.fr f2
    have f3 : Fr (fun j => j = 1148 ∨ j = 1155 ∨ j = 1156) (zsA (zsI M 1148 0 0) 1155 (cpG (zI M 1155) (516 * s) (zI M 1149) 0 516)) (zsA (zsA (zsI M 1148 0 0) 1155 (cpG (zI M 1155) (516 * s) (zI M 1149) 0 516)) 1156 (gU (zI (zsA (zsI M 1148 0 0) 1155 (cpG (zI M 1155) (516 * s) (zI M 1149) 0 516)) 1156) s 1)) := Fr_A hY2.a17 (by decide) (by decide) (Or.inr (Or.inr rfl))
    refine hK h0 _ ((f1.tr f2).tr f3) (fun f q0 => ?_) ?_ (fun j hj => ?_) (fun j hj => ?_) ?_ (fun j hj => ?_)
    · rw [zI_An _ _ (by decide), zI_An _ _ (by decide), zI_Im _ _ _ q0]
    · rw [zI_An _ _ (by decide), zI_An _ _ (by decide), zI_Is]
    · rw [zI_An _ _ (by decide), zI_A, cp_in _ _ _ _ _ (by omega)]
      congr 1
      omega
    · rw [zI_An _ _ (by decide), zI_A, cp_out _ _ _ _ _ (by omega)]
    · rw [zI_A, gU_s]
    · rw [zI_A, gU_n _ hj, zI_An _ _ (by decide), zI_In _ _ _ (by decide)]
  have loop := fun (hok : 0 ≤ s ∧ s ≤ 1) => zdown (n := 516) (P := fun i => Φ 15 [some (zo 1148), some (zi s), some (zi i)] [] (zsA (zsI M 1148 0 0) 1155 (cpG (zI M 1155) (516 * s) (zI M 1149) 0 i)) 0 0) (fun i h0 h1 ih => by
    refine zGoR hΦ [15] 400 (fun hL9 _ hM _ _ => ?_)
    obtain ⟨qL1, qL2, _⟩ : zrg s ∧ zrg i ∧ True := hL9
    refine ⟨fun (qc1 : i ≥ 516) => ⟨hY.w, _, hY.r17, ⟨⟨zixW hY.a17 hY.l17 (i := s) (by omega) (by decide), (Or.inr rfl)⟩, zMr (zsI_g0 _ _ s _) (⟨hY.w, _, hY.r1, ⟨zixO hY.a1 hY.l1 (i := 3) (by decide) (by decide), ⟨trivial, (show K (some (zi (zI M 1149 3))) (zsA (zsA (zsI M 1148 0 0) 1155 (cpG (zI M 1155) (516 * s) (zI M 1149) 0 i)) 1156 (gU (zI (zsA (zsI M 1148 0 0) 1155 (cpG (zI M 1155) (516 * s) (zI M 1149) 0 i)) 1156) s 1)) from ?g185l1)⟩⟩⟩)⟩⟩, fun (qc2 : i < 516) => ⟨hY.w, _, hY.r16, ⟨(zrgI (x := 516 * s) (by omega)), ⟨(zrgI (x := 516 * s + i) (by omega)), ⟨hY.w, _, hY.r1, ⟨zixO hY.a1 hY.l1 (i := i) (by omega) (by decide), ⟨⟨zixW hY.a16 hY.l16 (i := 516 * s + i) (by omega) (by decide), trivial⟩, zMr (zsI_gU _ _ _ (516 * s + i) _) (⟨(zrgI (x := i + 1) (by omega)), (show Φ 15 [some (zo 1148), some (zi s), some (zi (i + 1))] [] (zsA (zsI M 1148 0 0) 1155 (gU (cpG (zI M 1155) (516 * s) (zI M 1149) 0 i) (516 * s + i) (zI M 1149 i.toNat))) (0) (0) from ?g185l2)⟩)⟩⟩⟩⟩⟩⟩⟩
    case g185l1 =>
      have e9 : i = 516 := (by omega)
      subst e9
      exact fin hok
    case g185l2 =>
      rw [cp_step (n' := i + 1) (by omega) h0 rfl rfl (by rw [Int.zero_add])]
      exact ih (by omega)
    done)
  refine zGoR hΦ [15] 400 (fun hL9 _ hM _ _ => ?_)
  obtain ⟨qL1, _⟩ : zrg s ∧ True := hL9
  refine ⟨⟨⟨rfl, rfl⟩, trivial⟩, ⟨rfl, ⟨⟨⟨rfl, rfl⟩, trivial⟩, ⟨rfl, ⟨fun h => (have qc1 : s < 0 := zc_lt h; ⟨(Or.inl rfl), fun _ _ => ⟨(Or.inl rfl), fun _ _ => ⟨⟨⟨rfl, rfl⟩, hY.w.rcv⟩, ⟨rfl, ⟨⟨⟨rfl, rfl⟩, hY.w.rcv⟩, ⟨rfl, ⟨fun (h : (0 : Int) ≠ 0) => absurd h (by decide), fun _ => ⟨⟨hY.w, trivial⟩, ⟨hY.w, ⟨fun _ => ⟨(Or.inl rfl), fun _ _ => ⟨(Or.inl rfl), fun _ _ => ⟨fun (h : (0 : Int) ≠ 0) => absurd h (by decide), fun _ => ⟨trivial, (show K (some (zi 0)) (zsI M 1148 0 1) from ?g186l1)⟩⟩⟩⟩, fun (h : (1 : Int) = 0) => absurd h (by decide)⟩⟩⟩⟩⟩⟩⟩⟩⟩⟩), fun h => (have qc6 : s ≥ 0 := zc_ge h; ⟨fun h => (have qc7 : s > 1 := zc_gt h; ⟨(Or.inl rfl), fun _ _ => ⟨(Or.inl rfl), fun _ _ => ⟨⟨⟨rfl, rfl⟩, hY.w.rcv⟩, ⟨rfl, ⟨⟨⟨rfl, rfl⟩, hY.w.rcv⟩, ⟨rfl, ⟨fun (h : (0 : Int) ≠ 0) => absurd h (by decide), fun _ => ⟨⟨hY.w, trivial⟩, ⟨hY.w, ⟨fun _ => ⟨(Or.inl rfl), fun _ _ => ⟨(Or.inl rfl), fun _ _ => ⟨fun (h : (0 : Int) ≠ 0) => absurd h (by decide), fun _ => ⟨trivial, (show K (some (zi 0)) (zsI M 1148 0 1) from ?g186l2)⟩⟩⟩⟩, fun (h : (1 : Int) = 0) => absurd h (by decide)⟩⟩⟩⟩⟩⟩⟩⟩⟩⟩), fun h => (have qc12 : s ≤ 1 := zc_le h; ⟨(Or.inr rfl), fun _ _ => ⟨(Or.inr rfl), fun _ _ => ⟨⟨⟨rfl, rfl⟩, hY.w.rcv⟩, ⟨rfl, ⟨⟨⟨rfl, rfl⟩, hY.w.rcv⟩, ⟨rfl, ⟨fun _ => ⟨fun _ => ⟨fun _ => ⟨⟨hY.w, trivial⟩, ⟨hY.w, ⟨fun (h : (0 : Int) ≠ 0) => absurd h (by decide), fun _ => ⟨(Or.inr rfl), fun _ _ => ⟨(Or.inr rfl), fun _ _ => ⟨fun _ => (show Φ 15 [some (zo 1148), some (zi s), some (zi 0)] [] (zsI M 1148 0 0) (0) (0) from ?g186l3), fun (h : (1 : Int) = 0) => absurd h (by decide)⟩⟩⟩⟩⟩⟩, fun (h : (1 : Int) = 0) => absurd h (by decide)⟩, fun (h : (1 : Int) = 0) => absurd h (by decide)⟩, fun (h : (1 : Int) = 0) => absurd h (by decide)⟩⟩⟩⟩⟩⟩⟩)⟩)⟩⟩⟩⟩⟩
  case g186l1 => exact hE (by omega)
  case g186l2 => exact hE (by omega)
  case g186l3 =>
    have h9 := loop (by omega) 0 (by omega) (by omega)
    rw [cp_0 _ _ _ _ (Int.le_refl 0)] at h9
    rw [zsA_re (M := (zsI M 1148 0 0)) (A := 1155) (g := zI M 1155) rfl]
    exact h9
theorem M_X9_keep {l : Launch} (hl : l.stackTraces = false) : zMet l yX9_keep (Cond.code yX9_keep cX9_keep 3 (Option.some Jvm.ClassFile.FieldType.int) :: zG) rm_X9_keep 0 0 T_X9_keep := met_X9_keep hl (M_X9_isSlot hl) (M_X9_passes hl) bd_X9_keep
