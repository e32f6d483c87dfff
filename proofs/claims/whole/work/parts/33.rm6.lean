/-! the reference: undo, keep, restore -/

def T_X9_undo : ZTf := fun av M K KX => ∃ (P : Int → Gm) (c : Int), av = [zo 1148] ∧ (LY M) ∧ (RH M P c) ∧ ((0 < c → ∀ M' : ZM, Fr SYw M M' → (∀ f, f ≠ 0 → f ≠ 19 → zI M' 1148 f = zI M 1148 f) → zI M' 1148 0 = 0 → (∀ j : Nat, j < 516 → zI M' 1149 j = P (c - 1) j) → RH M' P (c - 1) → K (some (zi (c - 1))) M') ∧ (c ≤ 0 → K (some (zi 0)) (zsI M 1148 0 1)))
set_option maxRecDepth 100000 in
set_option maxHeartbeats 4000000 in
theorem bd_X9_undo : zBd (cd_X9_undo T_X9_passes) 2 0 0 T_X9_undo := by
  rintro av M K KX hA0 hM ⟨P, c, rfl, hY, hH, hK, hE⟩
  obtain ⟨hc0, hc1, hcP⟩ := id hH
  refine ⟨rfl, fun Φ hΦ => ?_⟩
  have fin : 0 < c → K (some (zi (c - 1))) (zsA (zsI (zsI M 1148 0 0) 1148 19 (c - 1)) 1149 (cpG (zI M 1149) 0 (fun y : Nat => zI M 1157 (516 * (c - 1) + (y : Int)).toNat) 0 516)) := by
    intro h0
    have f1 : Fr SYw M (zsI M 1148 0 0) := Fr_I hY.w (by decide) (by decide) (Or.inl rfl)
    have f2 : Fr SYw (zsI M 1148 0 0) (zsI (zsI M 1148 0 0) 1148 19 (c - 1)) := Fr_I (hY.fr f1).w (by decide) (by decide) (Or.inl rfl)
    have hY2 := (hY.fr f1).fr f2
    have f3 : Fr SYw (zsI (zsI M 1148 0 0) 1148 19 (c - 1)) (zsA (zsI (zsI M 1148 0 0) 1148 19 (c - 1)) 1149 (cpG (zI M 1149) 0 (fun y : Nat => zI M 1157 (516 * (c - 1) + (y : Int)).toNat) 0 516)) := Fr_A hY2.a1 (by decide) (by decide) (Or.inr (Or.inl rfl))
    refine hK h0 _ ((f1.tr f2).tr f3) (fun f q0 q1 => ?_) ?_ (fun j hj => ?_) ⟨?_, by omega, fun k k0 k1 j hj => ?_⟩
    · rw [zI_An _ _ (by decide), zI_Im _ _ _ q1, zI_Im _ _ _ q0]
    · rw [zI_An _ _ (by decide), zI_Im _ _ _ (by decide), zI_Is]
    · rw [zI_A, cp_in _ _ _ _ _ (by omega)]
      have h9 := hcP (c - 1) (by omega) (by omega) j hj
      rw [← h9]
      congr 1
      omega
    · rw [zI_An _ _ (by decide), zI_Is]
    · rw [zI_An _ _ (by decide), zI_In _ _ _ (by decide), zI_In _ _ _ (by decide)]
      exact hcP k k0 (by omega) j hj
  have loop := fun (hc2 : 0 < c) => zdown (n := 516) (P := fun i => Φ 33 [some (zo 1148), some (zi i)] [] (zsA (zsI (zsI M 1148 0 0) 1148 19 (c - 1)) 1149 (cpG (zI M 1149) 0 (fun y : Nat => zI M 1157 (516 * (c - 1) + (y : Int)).toNat) 0 i)) 0 0) (fun i h0 h1 ih => by
    refine zGoR hΦ [33] 400 (fun hL9 _ hM _ _ => ?_)
    obtain ⟨qL1, _⟩ : zrg i ∧ True := hL9
    refine ⟨fun (qc1 : i ≥ 516) => ⟨hY.w, ⟨trivial, (show K (some (zi (c - 1))) (zsA (zsI (zsI M 1148 0 0) 1148 19 (c - 1)) 1149 (cpG (zI M 1149) 0 (fun y : Nat => zI M 1157 (516 * (c - 1) + (y : Int)).toNat) 0 i)) from ?g183l1)⟩⟩, fun (qc2 : i < 516) => ⟨hY.w, _, hY.r1, ⟨hY.w, _, hY.r18, ⟨hY.w, ⟨(zrgI (x := 516 * (c - 1)) (by omega)), ⟨(zrgI (x := 516 * (c - 1) + i) (by omega)), ⟨zixO hY.a18 hY.l18 (i := 516 * (c - 1) + i) (by omega) (by decide), ⟨⟨zixW hY.a1 hY.l1 (i := i) (by omega) (by decide), trivial⟩, zMr (zsI_gU _ _ _ i _) (⟨(zrgI (x := i + 1) (by omega)), (show Φ 33 [some (zo 1148), some (zi (i + 1))] [] (zsA (zsI (zsI M 1148 0 0) 1148 19 (c - 1)) 1149 (gU (cpG (zI M 1149) 0 (fun y : Nat => zI M 1157 (516 * (c - 1) + (y : Int)).toNat) 0 i) i (zI M 1157 ((516 * (c - 1) + i).toNat)))) (0) (0) from ?g183l2)⟩)⟩⟩⟩⟩⟩⟩⟩⟩
    case g183l1 =>
      have e9 : i = 516 := (by omega)
      subst e9
      exact fin hc2
    case g183l2 =>
      rw [cp_step (n' := i + 1) (by decide) h0 (by omega) rfl (by show _ = zI M 1157 (516 * (c - 1) + (((0 + i).toNat : Nat) : Int)).toNat; congr 1; omega)]
      exact ih (by omega)
    done)
  refine zGoR hΦ [33] 400 (fun hL9 _ hM _ _ => ?_)
  obtain ⟨_⟩ : True := hL9
  refine ⟨hY.w, zIr hc0 (⟨fun (qc1 : c ≤ 0) => ⟨⟨⟨rfl, rfl⟩, hY.w.rcv⟩, ⟨rfl, ⟨⟨⟨rfl, rfl⟩, hY.w.rcv⟩, ⟨rfl, ⟨fun (h : (0 : Int) ≠ 0) => absurd h (by decide), fun _ => ⟨⟨hY.w, trivial⟩, ⟨hY.w, ⟨fun _ => ⟨(Or.inl rfl), fun _ _ => ⟨(Or.inl rfl), fun _ _ => ⟨fun (h : (0 : Int) ≠ 0) => absurd h (by decide), fun _ => ⟨trivial, (show K (some (zi 0)) (zsI M 1148 0 1) from ?g184l1)⟩⟩⟩⟩, fun (h : (1 : Int) = 0) => absurd h (by decide)⟩⟩⟩⟩⟩⟩⟩⟩, fun (qc4 : c > 0) => ⟨⟨⟨rfl, rfl⟩, hY.w.rcv⟩, ⟨rfl, ⟨⟨⟨rfl, rfl⟩, hY.w.rcv⟩, ⟨rfl, ⟨fun _ => ⟨fun _ => ⟨fun _ => ⟨⟨hY.w, trivial⟩, ⟨hY.w, ⟨fun (h : (0 : Int) ≠ 0) => absurd h (by decide), fun _ => ⟨(Or.inr rfl), fun _ _ => ⟨(Or.inr rfl), fun _ _ => ⟨fun _ => ⟨rfl, ⟨hY.w, zIr hc0 (⟨(zrgI (x := c - 1) (by omega)), ⟨⟨hY.w, trivial⟩, (show Φ 33 [some (zo 1148), some (zi 0)] [] (zsI (zsI M 1148 0 0) 1148 19 (c - 1)) (0) (0) from ?g184l2)⟩⟩)⟩⟩, fun (h : (1 : Int) = 0) => absurd h (by decide)⟩⟩⟩⟩⟩⟩, fun (h : (1 : Int) = 0) => absurd h (by decide)⟩, fun (h : (1 : Int) = 0) => absurd h (by decide)⟩, fun (h : (1 : Int) = 0) => absurd h (by decide)⟩⟩⟩⟩⟩⟩)⟩
  case g184l1 => exact hE (by omega)
  case g184l2 =>
    have h9 := loop (by omega) 0 (by omega) (by omega)
    rw [cp_0 _ _ _ _ (Int.le_refl 0)] at h9
    rw [zsA_re (M := (zsI (zsI M 1148 0 0) 1148 19 (c - 1))) (A := 1149) (g := zI M 1149) rfl]
    exact h9
theorem M_X9_undo {l : Launch} (hl : l.stackTraces = false) : zMet l yX9_undo (Cond.code yX9_undo cX9_undo 2 (Option.some Jvm.ClassFile.FieldType.int) :: zG) rm_X9_undo 0 0 T_X9_undo := met_X9_undo hl (M_X9_passes hl) bd_X9_undo
