/-! the law: feed -/
theorem app4_cb {l : List Int} (hl : asc l) {B : Gm} {n m : Int} (n0 : 0 ≤ n) (hm : m = n) (h : ∀ j : Nat, (j : Int) < n → B j = cb l j) : ∀ j : Nat, (j : Int) < n + 4 → app4 B n (pk l m 4) j = cb l j := fun j hj => by
  subst hm
  obtain ⟨b1, b2, b3, b4⟩ := pk_b hl n0
  unfold app4 put1
  rw [b1, b2, b3, b4]
  by_cases z4 : (j : Int) = m + 1 + 1 + 1
  · rw [show j = (m + 1 + 1 + 1).toNat by omega, gU_s, show (((m + 1 + 1 + 1).toNat : Nat) : Int) = m + 1 + 1 + 1 by omega]
  · rw [gU_n _ (by omega)]
    by_cases z3 : (j : Int) = m + 1 + 1
    · rw [show j = (m + 1 + 1).toNat by omega, gU_s, show (((m + 1 + 1).toNat : Nat) : Int) = m + 1 + 1 by omega]
    · rw [gU_n _ (by omega)]
      by_cases z2 : (j : Int) = m + 1
      · rw [show j = (m + 1).toNat by omega, gU_s, show (((m + 1).toNat : Nat) : Int) = m + 1 by omega]
      · rw [gU_n _ (by omega)]
        by_cases z1 : (j : Int) = m
        · rw [show j = m.toNat by omega, gU_s, show ((m.toNat : Nat) : Int) = m by omega]
        · rw [gU_n _ (by omega)]
          exact h j (by omega)
theorem app20_cb {l : List Int} (hl : asc l) {B : Gm} {n : Int} (n0 : 0 ≤ n) (h : ∀ j : Nat, (j : Int) < n → B j = cb l j) : ∀ j : Nat, (j : Int) < n + 20 → app20 B n (pk l n 4) (pk l (n + 4) 4) (pk l (n + 8) 4) (pk l (n + 12) 4) (pk l (n + 16) 4) j = cb l j := fun j hj => by
  unfold app20
  exact app4_cb hl (by omega) (by omega) (app4_cb hl (by omega) (by omega) (app4_cb hl (by omega) (by omega) (app4_cb hl (by omega) rfl (app4_cb hl n0 rfl h)))) j (by omega)

def T_L_feed : ZTf := fun av M K KX => ∃ (s : Nat) (l : List Int) (B : Gm), av = [zo 64, zo s] ∧ LV M ∧ CIn M B 0 ∧ zTx M s l ∧ asc l ∧ (1 ≤ l.length ∧ l.length ≤ 480) ∧ (∀ (M' : ZM) (B' : Gm), Fr SIn M M' → CIn M' B' l.length → (∀ j : Nat, j < l.length → B' j = l.getD j 0) → K none M')
set_option maxRecDepth 100000 in
set_option maxHeartbeats 1500000 in
theorem bd_L_feed : zBd (cd_L_feed T_J0_length_8abf5B T_L_four T_X8_append T_X8_truncate) 4 30 180 T_L_feed := by
  rintro av M K KX hA0 hM ⟨s, l, B, rfl, hL, hC, hz, hl, hlen, hK⟩
  refine ⟨rfl, fun Φ hΦ => ?_⟩
  have loop : ∀ t : Int, 0 ≤ t → t ≤ 24 → ∀ (x : Int) (B : Gm) (M1 : ZM) (k n : Nat), x = 20 * t → Fr SIn M M1 → LV M1 → zTx M1 s l → CIn M1 B (20 * t) → (∀ j : Nat, (j : Int) < 20 * t → B j = cb l j) → (t = 0 ∨ 20 * (t - 1) < (l.length : Int)) → (k : Int) ≤ t → (n : Int) ≤ 6 * t → Φ 4 [some (zo 64), some (zo s), some (zi x), some (zi x)] [] M1 k n := by
    refine zdown (n := 24) (fun t t0 t1 ih x B M k n hx hF hL hz hC hB hlt hk hn => ?_)
    subst hx
    have hmn : ¬ 20 * t < (l.length : Int) → zmin (20 * t) (l.length : Int) = (l.length : Int) := fun z => by
      unfold zmin
      split <;> omega
    refine zGoR hΦ [4] 400 (fun hL9 _ hM _ _ => ?_)
    obtain ⟨qL1, qL2, _⟩ : zrg (20 * t) ∧ zrg (20 * t) ∧ True := hL9
    refine ⟨⟨⟨rfl, rfl⟩, ⟨hz.1, Or.inr rfl⟩⟩, ⟨s, l, rfl, hz, (by omega), (fun (ql : zrg (l.length : Int)) _ => ⟨fun (qc1 : 20 * t < (l.length : Int)) => ⟨⟨⟨rfl, rfl⟩, trivial⟩, ⟨s, l, (20 * t), rfl, hz, (by omega), hl, (by omega), (fun (qp : zrg (pk l (20 * t) 4)) _ => ⟨(zrgI (x := 20 * t + 4) (by omega)), ⟨⟨⟨rfl, rfl⟩, trivial⟩, ⟨s, l, (20 * t + 4), rfl, hz, (by omega), hl, (by omega), (fun (qp : zrg (pk l (20 * t + 4) 4)) _ => ⟨(zrgI (x := 20 * t + 8) (by omega)), ⟨⟨⟨rfl, rfl⟩, trivial⟩, ⟨s, l, (20 * t + 8), rfl, hz, (by omega), hl, (by omega), (fun (qp : zrg (pk l (20 * t + 8) 4)) _ => ⟨(zrgI (x := 20 * t + 12) (by omega)), ⟨⟨⟨rfl, rfl⟩, trivial⟩, ⟨s, l, (20 * t + 12), rfl, hz, (by omega), hl, (by omega), (fun (qp : zrg (pk l (20 * t + 12) 4)) _ => ⟨(zrgI (x := 20 * t + 16) (by omega)), ⟨⟨⟨rfl, rfl⟩, trivial⟩, ⟨s, l, (20 * t + 16), rfl, hz, (by omega), hl, (by omega), (fun (qp : zrg (pk l (20 * t + 16) 4)) _ => ⟨⟨(by omega), (by omega)⟩, ⟨⟨rfl, rfl⟩, hL.w.rcv⟩, ⟨B, 20 * t, _, _, _, _, _, rfl, hL, hC, (fun _ M2 f2 hC2 => fun (qa : zrg (20 * t + 20)) _ => ⟨(zrgI (x := 20 * t + 20) (by omega)), (show Φ 4 [some (zo 64), some (zo s), some (zi (20 * t + 20)), some (zi (20 * t + 20))] [] M2 (k + 1) (n + 6) from ?g82l1)⟩), (fun h => absurd h (by omega))⟩⟩)⟩⟩⟩)⟩⟩⟩)⟩⟩⟩)⟩⟩⟩)⟩⟩, fun (qc2 : 20 * t ≥ (l.length : Int)) => ⟨fun (qc3 : 20 * t ≠ 0) => ⟨⟨⟨rfl, rfl⟩, ⟨hz.1, Or.inr rfl⟩⟩, ⟨s, l, rfl, hz, (by omega), (fun (ql : zrg (l.length : Int)) _ => ⟨rfl, ⟨⟨(by omega), (by omega)⟩, ⟨⟨rfl, rfl⟩, hL.w.rcv⟩, ⟨B, 20 * t, _, rfl, hL, hC, (fun _ M2 f2 hC2 => fun _ _ => (show K none M2 from ?g82l2)), (fun h => absurd (show 0 ≤ zmin (20 * t) (l.length : Int) ∧ zmin (20 * t) (l.length : Int) ≤ 20 * t by have := hmn (by omega); omega) h)⟩⟩⟩)⟩⟩, fun (qc4 : 20 * t = 0) => ⟨⟨⟨rfl, rfl⟩, trivial⟩, ⟨s, l, (20 * t), rfl, hz, (by omega), hl, (by omega), (fun (qp : zrg (pk l (20 * t) 4)) _ => ⟨(zrgI (x := 20 * t + 4) (by omega)), ⟨⟨⟨rfl, rfl⟩, trivial⟩, ⟨s, l, (20 * t + 4), rfl, hz, (by omega), hl, (by omega), (fun (qp : zrg (pk l (20 * t + 4) 4)) _ => ⟨(zrgI (x := 20 * t + 8) (by omega)), ⟨⟨⟨rfl, rfl⟩, trivial⟩, ⟨s, l, (20 * t + 8), rfl, hz, (by omega), hl, (by omega), (fun (qp : zrg (pk l (20 * t + 8) 4)) _ => ⟨(zrgI (x := 20 * t + 12) (by omega)), ⟨⟨⟨rfl, rfl⟩, trivial⟩, ⟨s, l, (20 * t + 12), rfl, hz, (by omega), hl, (by omega), (fun (qp : zrg (pk l (20 * t + 12) 4)) _ => ⟨(zrgI (x := 20 * t + 16) (by omega)), ⟨⟨⟨rfl, rfl⟩, trivial⟩, ⟨s, l, (20 * t + 16), rfl, hz, (by omega), hl, (by omega), (fun (qp : zrg (pk l (20 * t + 16) 4)) _ => ⟨⟨(by omega), (by omega)⟩, ⟨⟨rfl, rfl⟩, hL.w.rcv⟩, ⟨B, 20 * t, _, _, _, _, _, rfl, hL, hC, (fun _ M2 f2 hC2 => fun (qa : zrg (20 * t + 20)) _ => ⟨(zrgI (x := 20 * t + 20) (by omega)), (show Φ 4 [some (zo 64), some (zo s), some (zi (20 * t + 20)), some (zi (20 * t + 20))] [] M2 (k + 1) (n + 6) from ?g82l3)⟩), (fun h => absurd h (by omega))⟩⟩)⟩⟩⟩)⟩⟩⟩)⟩⟩⟩)⟩⟩⟩)⟩⟩⟩⟩)⟩⟩
    case g82l1 => exact cst (show 20 * t + 20 = 20 * (t + 1) by omega) (fun z => Φ 4 [some (zo 64), some (zo s), some (zi z), some (zi z)] [] M2 _ _) (ih (by omega) _ _ _ _ _ rfl (hF.tr f2) (hL.fr f2) (f2.2.2 _ _ hz) (by rw [show 20 * (t + 1) = 20 * t + 20 by omega]; exact hC2) (fun j hj => app20_cb hl (by omega) hB j (by omega)) (Or.inr (by omega)) (by omega) (by omega))
    case g82l2 =>
      rw [hmn (by omega)] at hC2
      refine hK _ _ (hF.tr f2) hC2 (fun j hj => ?_)
      rw [hB j (by omega)]
      unfold cb
      rw [if_pos (by omega)]
      rfl
    case g82l3 => exact cst (show 20 * t + 20 = 20 * (t + 1) by omega) (fun z => Φ 4 [some (zo 64), some (zo s), some (zi z), some (zi z)] [] M2 _ _) (ih (by omega) _ _ _ _ _ rfl (hF.tr f2) (hL.fr f2) (f2.2.2 _ _ hz) (by rw [show 20 * (t + 1) = 20 * t + 20 by omega]; exact hC2) (fun j hj => app20_cb hl (by omega) hB j (by omega)) (Or.inr (by omega)) (by omega) (by omega))
  refine zGoR hΦ [4] 400 (fun hL9 _ hM _ _ => ?_)
  obtain ⟨_⟩ : True := hL9
  refine (show Φ 4 [some (zo 64), some (zo s), some (zi 0), some (zi 0)] [] M (0) (0) from ?g83l1)
  case g83l1 => exact loop 0 (by decide) (by decide) 0 B _ _ _ rfl Fr.rf hL hz hC (fun j hj => absurd hj (by omega)) (Or.inl rfl) (by decide) (by decide)

theorem M_L_feed {l : Launch} (hl : l.stackTraces = false) : zMet l yL_feed (Cond.code yL_feed cL_feed 4 (Option.none : Option Jvm.ClassFile.FieldType) :: zG) rm_L_feed 30 180 T_L_feed := met_L_feed hl (M_J0_length_8abf5B hl) (M_L_four hl) (M_X8_append hl) (M_X8_truncate hl) bd_L_feed

