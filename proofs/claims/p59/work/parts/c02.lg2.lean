/-! the law: four, feed -/
def T_L_four : ZTf := fun av M K KX => ∃ (s : Nat) (l : List Int) (a : Int), av = [zo s, zi a] ∧ zTx M s l ∧ (l.length ≤ 600) ∧ asc l ∧ (0 ≤ a ∧ a ≤ 1000) ∧ K (some (zi (pk l a 4))) M
set_option maxRecDepth 100000 in
set_option maxHeartbeats 1500000 in
theorem bd_L_four : zBd (cd_L_four T_J0_length_8abf5B T_J0_charAt_5068eB) 4 0 0 T_L_four := by
  rintro av M K KX hA0 hM ⟨s, l, a, rfl, hz, hlen, hl, ha, hK⟩
  refine ⟨rfl, fun Φ hΦ => ?_⟩
  have loop : ∀ i : Int, 0 ≤ i → i ≤ 4 → ∀ x, x = pk l a i.toNat → Φ 4 [some (zo s), some (zi a), some (zi x), some (zi i)] [] M 0 0 := by
    refine zdown (n := 4) (fun i i0 i1 ih x hx => ?_)
    have hs : i < 4 → zor (zshl x 8) (cb l (a + i)) = pk l a (i + 1).toNat := fun z => by
      have h9 := pk_s hl (a := a) ha.1 (i := i.toNat) (by omega)
      rw [show ((i.toNat : Nat) : Int) = i by omega] at h9
      rw [hx, h9, show (i + 1).toNat = i.toNat + 1 by omega]
    refine zGoR hΦ [4] 400 (fun hL9 _ hM _ _ => ?_)
    obtain ⟨qL1, qL2, qL3, _⟩ : zrg a ∧ zrg x ∧ zrg i ∧ True := hL9
    refine ⟨fun (qc1 : i ≥ 4) => ⟨trivial, (show K (some (zi x)) M from ?g80l1)⟩, fun (qc2 : i < 4) => ⟨(zrgI (x := a + i) (by omega)), ⟨⟨⟨rfl, rfl⟩, ⟨hz.1, Or.inr rfl⟩⟩, ⟨s, l, rfl, hz, hlen, (fun (ql : zrg (l.length : Int)) _ => ⟨fun (qc3 : a + i ≥ (l.length : Int)) => ⟨(zrgI (x := i + 1) (by omega)), (show Φ 4 [some (zo s), some (zi a), some (zi (zor (zshl x 8) 0)), some (zi (i + 1))] [] M (0) (0) from ?g80l2)⟩, fun (qc4 : a + i < (l.length : Int)) => ⟨(zrgI (x := a + i) (by omega)), ⟨⟨⟨rfl, rfl⟩, ⟨hz.1, Or.inr rfl⟩⟩, ⟨s, l, (a + i), rfl, hz, hlen, (by omega), (fun (qh : zrg (zi2c (zand (l.getD (a + i).toNat 0) 255))) _ => ⟨(zrgI (x := i + 1) (by omega)), (show Φ 4 [some (zo s), some (zi a), some (zi (zor (zshl x 8) (zi2c (zand (l.getD (a + i).toNat 0) 255)))), some (zi (i + 1))] [] M (0) (0) from ?g80l3)⟩)⟩⟩⟩⟩)⟩⟩⟩⟩
    case g80l1 => exact cst (show x = pk l a 4 by rw [hx, show i.toNat = 4 by omega]) (fun z => K (some (zi z)) M) hK
    case g80l2 =>
      have e : (0 : Int) = cb l (a + i) := by
        unfold cb
        rw [if_neg (by omega)]
      have z := hs (by omega)
      rw [← e] at z
      exact ih (by omega) _ z
    case g80l3 =>
      have e : zi2c (zand (l.getD (a + i).toNat 0) 255) = cb l (a + i) := by
        unfold cb
        rw [if_pos (by omega)]
        exact zc_id (by have := hl (a + i).toNat (by omega); omega)
      have z := hs (by omega)
      rw [← e] at z
      exact ih (by omega) _ z
  refine zGoR hΦ [4] 400 (fun hL9 _ hM _ _ => ?_)
  obtain ⟨qL1, _⟩ : zrg a ∧ True := hL9
  refine (show Φ 4 [some (zo s), some (zi a), some (zi 0), some (zi 0)] [] M (0) (0) from ?g81l1)
  case g81l1 => exact loop 0 (by decide) (by decide) _ rfl

theorem M_L_four {l : Launch} (hl : l.stackTraces = false) : zMet l yL_four (Cond.code yL_four cL_four 4 (Option.some Jvm.ClassFile.FieldType.int) :: zG) rm_L_four 0 0 T_L_four := met_L_four hl (M_J0_length_8abf5B hl) (M_J0_charAt_5068eB hl) bd_L_four

