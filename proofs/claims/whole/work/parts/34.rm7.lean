/-! the reference: takings that are gone -/
/-- places lo .. n of a row's takings moved down by one taking -/
def shF (g : Gm) (r lo n : Int) : Gm := fun y => if 132 + 16 * r + 7 + lo ≤ (y : Int) ∧ (y : Int) < 132 + 16 * r + 7 + n then g (y + 3) else g y
theorem sh_0 (g : Gm) (r : Int) {lo n : Int} (h : n ≤ lo) : shF g r lo n = g := funext (fun y => if_neg (fun q => by omega))
theorem sh_out (g : Gm) (r lo n : Int) {k : Nat} (h : (k : Int) < 132 + 16 * r + 7 + lo ∨ 132 + 16 * r + 7 + n ≤ (k : Int)) : shF g r lo n k = g k := if_neg (fun q => by omega)
theorem sh_in (g : Gm) (r lo n : Int) {k : Nat} (h : 132 + 16 * r + 7 + lo ≤ (k : Int) ∧ (k : Int) < 132 + 16 * r + 7 + n) : shF g r lo n k = g (k + 3) := if_pos h
theorem sh_step {g : Gm} {r lo n : Int} (hr : 0 ≤ r) (h0 : 0 ≤ lo) (h1 : lo ≤ n) : gU (shF g r lo n) (132 + 16 * r + (7 + n)) (g (132 + 16 * r + (7 + n + 3)).toNat) = shF g r lo (n + 1) := by
  refine funext (fun y => ?_)
  rw [gU_if]
  unfold shF
  by_cases e : y = (132 + 16 * r + (7 + n)).toNat
  · rw [if_pos e, if_pos (by omega)]
    congr 1
    omega
  · rw [if_neg e]
    by_cases q : 132 + 16 * r + 7 + lo ≤ (y : Int) ∧ (y : Int) < 132 + 16 * r + 7 + n
    · rw [if_pos q, if_pos (by omega)]
    · rw [if_neg q, if_neg (by omega)]
def fDrop (G : Gm) (r k : Int) : Gm := shF (gU G (132 + 16 * r + 6) ((G (132 + 16 * r + 6).toNat) - 1)) r (3 * k) (3 * ((G (132 + 16 * r + 6).toNat) - 1))

def T_X9_dropTaking : ZTf := fun av M K KX => ∃ (r k : Int), av = [zo 670, zi r, zi k] ∧ (LY M) ∧ (MA M 671) ∧ (RI (zI M 671) r) ∧ (0 ≤ k ∧ k < ((zI M 671) (132 + 16 * r + 6).toNat)) ∧  K none (zsA M 671 (fDrop (zI M 671) r k))
set_option maxRecDepth 100000 in
set_option maxHeartbeats 4000000 in
theorem bd_X9_dropTaking : zBd (cd_X9_dropTaking T_X9_manyAt T_X9_put T_X9_ofRow) 4 0 0 T_X9_dropTaking := by
  rintro av M K KX hA0 hM ⟨r, k, rfl, hY, hA, hR, hp0, hK⟩
  obtain ⟨hr, hm, hk⟩ := id hR
  refine ⟨rfl, fun Φ hΦ => ?_⟩
  have e6 : (gU (zI M 671) (132 + 16 * r + 6) (((zI M 671) (132 + 16 * r + 6).toNat) - 1)) (132 + 16 * r + 6).toNat = ((zI M 671) (132 + 16 * r + 6).toNat) - 1 := gU_s _ _ _
  have loop := zdownF (lo := 3 * k) (n := 3 * (((zI M 671) (132 + 16 * r + 6).toNat) - 1)) (P := fun i => Φ 18 [some (zo 670), some (zi r), some (zi k), some (zi i)] [] (zsA M 671 (shF (gU (zI M 671) (132 + 16 * r + 6) (((zI M 671) (132 + 16 * r + 6).toNat) - 1)) r (3 * k) i)) 0 0) (fun i h0 h1 ih => by
    refine zGoR hΦ [18] 400 (fun hL9 _ hM _ _ => ?_)
    obtain ⟨qL1, qL2, qL3, _⟩ : zrg r ∧ zrg k ∧ zrg i ∧ True := hL9
    refine ⟨⟨⟨rfl, rfl⟩, hY.w.rcv⟩, ⟨rfl, ⟨⟨⟨rfl, rfl⟩, hY.w.rcv⟩, ⟨rfl, ⟨hY.w, _, hA.1, ⟨(zrgI (x := 16 * r) (by omega)), ⟨(zrgI (x := 132 + 16 * r) (by omega)), ⟨(zrgI (x := 132 + 16 * r + 6) (by omega)), ⟨zixO hA.2.1 hA.2.2 (i := 132 + 16 * r + 6) (by omega) (by decide), zIr ((zIa _ _ _ _).trans (Eq.trans (sh_out _ _ _ _ (by omega)) ((gU_s _ _ _)))) (⟨trivial, fun (qg1 : zrg (((zI M 671) (132 + 16 * r + 6).toNat) - 1)) _ => ⟨trivial, fun (qg2 : zrg (((zI M 671) (132 + 16 * r + 6).toNat) - 1)) _ => ⟨(zrgI (x := 3 * (((zI M 671) (132 + 16 * r + 6).toNat) - 1)) (by omega)), ⟨fun (qc3 : i ≥ 3 * (((zI M 671) (132 + 16 * r + 6).toNat) - 1)) => (show K none (zsA M 671 (shF (gU (zI M 671) (132 + 16 * r + 6) (((zI M 671) (132 + 16 * r + 6).toNat) - 1)) r (3 * k) i)) from ?g189l1), fun (qc4 : i < 3 * (((zI M 671) (132 + 16 * r + 6).toNat) - 1)) => ⟨(zrgI (x := 7 + i) (by omega)), ⟨(zrgI (x := 7 + i) (by omega)), ⟨(zrgI (x := 7 + i + 3) (by omega)), ⟨⟨⟨rfl, rfl⟩, hY.w.rcv⟩, ⟨rfl, ⟨hY.w, _, hA.1, ⟨(zrgI (x := 16 * r) (by omega)), ⟨(zrgI (x := 132 + 16 * r) (by omega)), ⟨(zrgI (x := 132 + 16 * r + (7 + i + 3)) (by omega)), ⟨zixO hA.2.1 hA.2.2 (i := 132 + 16 * r + (7 + i + 3)) (by omega) (by decide), zIr ((zIa _ _ _ _).trans (Eq.trans (sh_out _ _ _ _ (by omega)) ((gU_n _ (by omega))))) (⟨trivial, fun (qg5 : zrg ((zI M 671) (132 + 16 * r + (7 + i + 3)).toNat)) _ => ⟨⟨⟨rfl, rfl⟩, hY.w.rcv⟩, ⟨rfl, ⟨hY.w, _, hA.1, ⟨(zrgI (x := 16 * r) (by omega)), ⟨(zrgI (x := 132 + 16 * r) (by omega)), ⟨(zrgI (x := 132 + 16 * r + (7 + i)) (by omega)), ⟨⟨zixW hA.2.1 hA.2.2 (i := 132 + 16 * r + (7 + i)) (by omega) (by decide), trivial⟩, zMr (zsI_gU _ _ _ (132 + 16 * r + (7 + i)) _) (fun _ _ => ⟨(zrgI (x := i + 1) (by omega)), (show Φ 18 [some (zo 670), some (zi r), some (zi k), some (zi (i + 1))] [] (zsA M 671 (gU (shF (gU (zI M 671) (132 + 16 * r + 6) (((zI M 671) (132 + 16 * r + 6).toNat) - 1)) r (3 * k) i) (132 + 16 * r + (7 + i)) ((zI M 671) (132 + 16 * r + (7 + i + 3)).toNat))) (0) (0) from ?g189l2)⟩)⟩⟩⟩⟩⟩⟩⟩⟩)⟩⟩⟩⟩⟩⟩⟩⟩⟩⟩⟩⟩⟩⟩)⟩⟩⟩⟩⟩⟩⟩⟩⟩
    case g189l1 =>
      have e9 : i = 3 * (((zI M 671) (132 + 16 * r + 6).toNat) - 1) := (by omega)
      subst e9
      exact hK
    case g189l2 =>
      have hz := ih (by omega)
      rw [← sh_step hr.1 (by omega) h0, gU_n (zI M 671) (i := 132 + 16 * r + 6) (by omega)] at hz
      exact hz
    done)
  refine zGoR hΦ [18] 400 (fun hL9 _ hM _ _ => ?_)
  obtain ⟨qL1, qL2, _⟩ : zrg r ∧ zrg k ∧ True := hL9
  refine ⟨⟨⟨rfl, rfl⟩, hY.w.rcv⟩, ⟨rfl, ⟨⟨⟨rfl, rfl⟩, hY.w.rcv⟩, ⟨rfl, ⟨hY.w, _, hA.1, ⟨(zrgI (x := 16 * r) (by omega)), ⟨(zrgI (x := 132 + 16 * r) (by omega)), ⟨(zrgI (x := 132 + 16 * r + 6) (by omega)), ⟨zixO hA.2.1 hA.2.2 (i := 132 + 16 * r + 6) (by omega) (by decide), ⟨trivial, fun (qg1 : zrg (zI M 671 ((132 + 16 * r + 6).toNat))) _ => ⟨trivial, fun (qg2 : zrg (zI M 671 ((132 + 16 * r + 6).toNat))) _ => ⟨(zrgI (x := (zI M 671 ((132 + 16 * r + 6).toNat)) - 1) (by omega)), ⟨⟨⟨rfl, rfl⟩, hY.w.rcv⟩, ⟨rfl, ⟨hY.w, _, hA.1, ⟨(zrgI (x := 16 * r) (by omega)), ⟨(zrgI (x := 132 + 16 * r) (by omega)), ⟨(zrgI (x := 132 + 16 * r + 6) (by omega)), ⟨⟨zixW hA.2.1 hA.2.2 (i := 132 + 16 * r + 6) (by omega) (by decide), trivial⟩, zMr (zsI_g0 _ _ (132 + 16 * r + 6) _) (fun _ _ => ⟨(zrgI (x := 3 * k) (by omega)), (show Φ 18 [some (zo 670), some (zi r), some (zi k), some (zi (3 * k))] [] (zsA M 671 (gU (zI M 671) (132 + 16 * r + 6) ((zI M 671 ((132 + 16 * r + 6).toNat)) - 1))) (0) (0) from ?g190l1)⟩)⟩⟩⟩⟩⟩⟩⟩⟩⟩⟩⟩⟩⟩⟩⟩⟩⟩⟩⟩
  case g190l1 =>
    have h9 := loop (3 * k) (by omega) (by omega)
    rw [sh_0 _ _ (Int.le_refl _)] at h9
    exact h9
theorem M_X9_dropTaking {l : Launch} (hl : l.stackTraces = false) : zMet l yX9_dropTaking (Cond.code yX9_dropTaking cX9_dropTaking 4 (Option.none : Option Jvm.ClassFile.FieldType) :: zG) rm_X9_dropTaking 0 0 T_X9_dropTaking := met_X9_dropTaking hl (M_X9_manyAt hl) (M_X9_put hl) (M_X9_ofRow hl) bd_X9_dropTaking
