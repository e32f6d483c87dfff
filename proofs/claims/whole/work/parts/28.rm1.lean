/-! the reference: what is kept, brought back -/
def cpG (old : Gm) (off : Int) (new : Gm) (soff n : Int) : Gm := fun y => if off ≤ (y : Int) ∧ (y : Int) < off + n then new (soff + ((y : Int) - off)).toNat else old y
theorem cp_0 (old : Gm) (off : Int) (new : Gm) (soff : Int) {n : Int} (h : n ≤ 0) : cpG old off new soff n = old := funext (fun y => if_neg (fun q => by omega))
theorem cp_out (old : Gm) (off : Int) (new : Gm) (soff n : Int) {k : Nat} (h : (k : Int) < off ∨ off + n ≤ (k : Int)) : cpG old off new soff n k = old k := if_neg (fun q => by omega)
theorem cp_in (old : Gm) (off : Int) (new : Gm) (soff n : Int) {k : Nat} (h : off ≤ (k : Int) ∧ (k : Int) < off + n) : cpG old off new soff n k = new (soff + ((k : Int) - off)).toNat := if_pos h
theorem cp_step {old new : Gm} {off soff n n' i v : Int} (h0 : 0 ≤ off) (h1 : 0 ≤ n) (h2 : i = off + n) (h3 : n' = n + 1) (hv : v = new (soff + n).toNat) : gU (cpG old off new soff n) i v = cpG old off new soff n' := by
  subst h2; subst h3; subst hv
  refine funext (fun y => ?_)
  rw [gU_if]
  unfold cpG
  by_cases e : y = (off + n).toNat
  · rw [if_pos e, if_pos (by omega)]
    congr 2
    omega
  · rw [if_neg e]
    by_cases q : off ≤ (y : Int) ∧ (y : Int) < off + n
    · rw [if_pos q, if_pos (by omega)]
    · rw [if_neg q, if_neg (by omega)]
theorem zsA_re {M : ZM} {A : Nat} {g : Gm} (h : zI M A = g) : M = zsA M A g := by rw [← h, zsA_self]
/-- the past -/
def RH (M : ZM) (P : Int → Gm) (c : Int) : Prop := zI M 670 19 = c ∧ (0 ≤ c ∧ c ≤ 6) ∧ ∀ k : Int, 0 ≤ k → k < c → ∀ j : Nat, j < 516 → zI M 679 (516 * k.toNat + j) = P k j
def pushP (P : Int → Gm) (G : Gm) (c : Int) : Int → Gm := if c = 6 then (fun k => if k = 5 then G else P (k + 1)) else (fun k => if k = c then G else P k)
def pushC (c : Int) : Int := if c = 6 then 6 else c + 1
theorem pushC_r {c : Int} (h : 0 ≤ c ∧ c ≤ 6) : 1 ≤ pushC c ∧ pushC c ≤ 6 := by unfold pushC; split <;> omega
theorem RH.fr {S : Nat → Prop} {M M' : ZM} {P : Int → Gm} {c : Int} (hy : LY M) (h : RH M P c) (f : Fr S M M') (h1 : ¬ S 679) (h2 : zI M' 670 19 = zI M 670 19) : RH M' P c := by
  refine ⟨h2.trans h.1, h.2.1, fun k k0 k1 j hj => ?_⟩
  rw [f.i hy.a18 h1]
  exact h.2.2 k k0 k1 j hj

def T_X9_trusts : ZTf := zInl (cd_X9_trusts) 4 0 0 400
theorem M_X9_trusts {l : Launch} (hl : l.stackTraces = false) : zMet l yX9_trusts (Cond.code yX9_trusts cX9_trusts 4 (Option.none : Option Jvm.ClassFile.FieldType) :: zG) rm_X9_trusts 0 0 T_X9_trusts := met_X9_trusts hl zInl_bd
def T_X9_putBoth : ZTf := zInl (cd_X9_putBoth) 5 0 0 400
theorem M_X9_putBoth {l : Launch} (hl : l.stackTraces = false) : zMet l yX9_putBoth (Cond.code yX9_putBoth cX9_putBoth 5 (Option.none : Option Jvm.ClassFile.FieldType) :: zG) rm_X9_putBoth 0 0 T_X9_putBoth := met_X9_putBoth hl zInl_bd
def T_X9_doTake : ZTf := zInl (cd_X9_doTake T_X9_manyAt T_X9_put T_X9_table T_X9_ofRow T_X9_add) 4 0 0 400
theorem M_X9_doTake {l : Launch} (hl : l.stackTraces = false) : zMet l yX9_doTake (Cond.code yX9_doTake cX9_doTake 4 (Option.some Jvm.ClassFile.FieldType.int) :: zG) rm_X9_doTake 0 0 T_X9_doTake := met_X9_doTake hl (M_X9_manyAt hl) (M_X9_put hl) (M_X9_table hl) (M_X9_ofRow hl) (M_X9_add hl) zInl_bd

def T_X9_remember : ZTf := fun av M K KX => ∃ (P : Int → Gm) (c : Int), av = [zo 670] ∧ (LY M) ∧ (RH M P c) ∧  (∀ M' : ZM, (Fr (fun j => j = 670 ∨ j = 679) M M') → (∀ f, f ≠ 19 → zI M' 670 f = zI M 670 f) → (RH M' (pushP P (zI M 671) c) (pushC c)) → K none M')
set_option maxRecDepth 100000 in
set_option maxHeartbeats 4000000 in
theorem bd_X9_remember : zBd (cd_X9_remember) 2 0 0 T_X9_remember := by
  rintro av M K KX hA0 hM ⟨P, c, rfl, hY, hH, hK⟩
  refine ⟨rfl, fun Φ hΦ => ?_⟩
  obtain ⟨hc0, hc1, hcP⟩ := id hH
  have ph2 : ∀ (M : ZM) (c2 : Int), LY M → zI M 670 19 = c2 → 0 ≤ c2 → c2 ≤ 5 → K none (zsI (zsA M 679 (cpG (zI M 679) (516 * c2) (zI M 671) 0 516)) 670 19 (c2 + 1)) → Φ 54 [some (zo 670), some (zi 0)] [] M 0 0 := by
    intro M c2 hY hc2 h20 h21 hK
    have loop := zdown (n := 516) (P := fun i => Φ 54 [some (zo 670), some (zi i)] [] (zsA M 679 (cpG (zI M 679) (516 * c2) (zI M 671) 0 i)) 0 0) (fun i h0 h1 ih => by
      refine zGoR hΦ [54] 400 (fun hL9 _ hM _ _ => ?_)
      obtain ⟨qL1, _⟩ : zrg i ∧ True := hL9
      refine ⟨fun (qc1 : i ≥ 516) => ⟨rfl, ⟨hY.w, zIr hc2 (⟨(zrgI (x := c2 + 1) (by omega)), ⟨⟨hY.w, trivial⟩, (show K none (zsI (zsA M 679 (cpG (zI M 679) (516 * c2) (zI M 671) 0 i)) 670 19 (c2 + 1)) from ?g141l1)⟩⟩)⟩⟩, fun (qc2 : i < 516) => ⟨hY.w, _, hY.r18, ⟨hY.w, zIr hc2 (⟨(zrgI (x := 516 * c2) (by omega)), ⟨(zrgI (x := 516 * c2 + i) (by omega)), ⟨hY.w, _, hY.r1, ⟨zixO hY.a1 hY.l1 (i := i) (by omega) (by decide), ⟨⟨zixW hY.a18 hY.l18 (i := 516 * c2 + i) (by omega) (by decide), trivial⟩, zMr (zsI_gU _ _ _ (516 * c2 + i) _) (⟨(zrgI (x := i + 1) (by omega)), (show Φ 54 [some (zo 670), some (zi (i + 1))] [] (zsA M 679 (gU (cpG (zI M 679) (516 * c2) (zI M 671) 0 i) (516 * c2 + i) (zI M 671 i.toNat))) (0) (0) from ?g141l2)⟩)⟩⟩⟩⟩⟩)⟩⟩⟩
      case g141l1 => have e9 : i = 516 := (by omega); subst e9; exact hK
      case g141l2 => rw [cp_step (n' := i + 1) (by omega) (by omega) rfl rfl (by rw [Int.zero_add])]; exact ih (by omega)
      done)
    have h9 := loop 0 (by omega) (by omega)
    rw [cp_0 _ _ _ _ (Int.le_refl 0), zsA_self] at h9
    exact h9
  have fin : ∀ (M2 : ZM) (c2 : Int), Fr (fun j => j = 670 ∨ j = 679) M M2 → (∀ f, f ≠ 19 → zI M2 670 f = zI M 670 f) → pushC c = c2 + 1 → 0 ≤ c2 → (∀ k : Int, 0 ≤ k → k < c2 → ∀ j : Nat, j < 516 → zI M2 679 (516 * k.toNat + j) = pushP P (zI M 671) c k j) → pushP P (zI M 671) c c2 = zI M 671 → K none (zsI (zsA M2 679 (cpG (zI M2 679) (516 * c2) (zI M2 671) 0 516)) 670 19 (c2 + 1)) := by
    intro M2 c2 f2 f8 hp h20 hk hl
    have hY2 := hY.fr f2
    have f3 : Fr (fun j => j = 670 ∨ j = 679) M2 (zsA M2 679 (cpG (zI M2 679) (516 * c2) (zI M2 671) 0 516)) := Fr_A hY2.a18 (by decide) (by decide) (Or.inr rfl)
    have f4 : Fr (fun j => j = 670 ∨ j = 679) (zsA M2 679 (cpG (zI M2 679) (516 * c2) (zI M2 671) 0 516)) (zsI (zsA M2 679 (cpG (zI M2 679) (516 * c2) (zI M2 671) 0 516)) 670 19 (c2 + 1)) := Fr_I (hY2.fr f3).w (by decide) (by decide) (Or.inl rfl)
    have hr := pushC_r hc1
    refine hK _ ((f2.tr f3).tr f4) (fun f hf => ?_) ⟨?_, by omega, fun k k0 k1 j hj => ?_⟩
    · rw [zI_Im _ _ _ hf, zI_An _ _ (by decide)]
      exact f8 f hf
    · rw [zI_Is]; omega
    · rw [zI_In _ _ _ (by decide), zI_A]
      by_cases e : k = c2
      · subst e
        rw [cp_in _ _ _ _ _ (by omega), hl, f2.i hY.a1 (by omega)]
        congr 1
        omega
      · rw [cp_out _ _ _ _ _ (by omega)]
        exact hk k k0 (by omega) j hj
  have loop := fun (hc6 : c = 6) => zdownF (lo := 516) (n := 3096) (P := fun i => Φ 13 [some (zo 670), some (zi i)] [] (zsA M 679 (cpG (zI M 679) 0 (zI M 679) 516 (i - 516))) 0 0) (fun i h0 h1 ih => by
    have hc7 : zI M 670 19 = 6 := hc0.trans hc6
    refine zGoR hΦ [13, 54] 400 (fun hL9 _ hM _ _ => ?_)
    obtain ⟨qL1, _⟩ : zrg i ∧ True := hL9
    refine ⟨fun (qc1 : i ≥ 3096) => ⟨rfl, ⟨hY.w, zIr hc7 (⟨(by decide), ⟨⟨hY.w, trivial⟩, (show Φ 54 [some (zo 670), some (zi 0)] [] (zsI (zsA M 679 (cpG (zI M 679) 0 (zI M 679) 516 (i - 516))) 670 19 5) (0) (0) from ?g142l1)⟩⟩)⟩⟩, fun (qc2 : i < 3096) => ⟨hY.w, _, hY.r18, ⟨(zrgI (x := i - 516) (by omega)), ⟨hY.w, _, hY.r18, ⟨zixO hY.a18 hY.l18 (i := i) (by omega) (by decide), zIr ((zIa _ _ _ _).trans ((cp_out _ _ _ _ _ (by omega)))) (⟨⟨zixW hY.a18 hY.l18 (i := i - 516) (by omega) (by decide), trivial⟩, zMr (zsI_gU _ _ _ (i - 516) _) (⟨(zrgI (x := i + 1) (by omega)), (show Φ 13 [some (zo 670), some (zi (i + 1))] [] (zsA M 679 (gU (cpG (zI M 679) 0 (zI M 679) 516 (i - 516)) (i - 516) ((zI M 679) i.toNat))) (0) (0) from ?g142l2)⟩)⟩)⟩⟩⟩⟩⟩
    case g142l1 =>
      have e9 : i = 3096 := (by omega)
      subst e9
      have f2 : Fr (fun j => j = 670 ∨ j = 679) M (zsA M 679 (cpG (zI M 679) 0 (zI M 679) 516 (3096 - 516))) := Fr_A hY.a18 (by decide) (by decide) (Or.inr rfl)
      have f3 : Fr (fun j => j = 670 ∨ j = 679) (zsA M 679 (cpG (zI M 679) 0 (zI M 679) 516 (3096 - 516))) (zsI (zsA M 679 (cpG (zI M 679) 0 (zI M 679) 516 (3096 - 516))) 670 19 5) := Fr_I (hY.fr f2).w (by decide) (by decide) (Or.inl rfl)
      refine ph2 _ 5 (hY.fr (f2.tr f3)) (zI_Is _ _ _ _) (by decide) (by decide) (fin _ 5 (f2.tr f3) (fun f hf => ?_) (by unfold pushC; rw [if_pos hc6]; rfl) (by decide) (fun k k0 k1 j hj => ?_) (by unfold pushP; rw [if_pos hc6]; rfl))
      · rw [zI_Im _ _ _ hf, zI_An _ _ (by decide)]
      · rw [zI_In _ _ _ (by decide), zI_A, cp_in _ _ _ _ _ (by omega)]
        unfold pushP
        rw [if_pos hc6, if_neg (by omega)]
        have h9 := hcP (k + 1) (by omega) (by omega) j hj
        rw [← h9]
        congr 1
        omega
    case g142l2 => rw [cp_step (n' := i + 1 - 516) (by omega) (by omega) (by omega) (by omega) (by rw [show 516 + (i - 516) = i by omega])]; exact ih (by omega)
    done)
  refine zGoR hΦ [13, 54] 400 (fun hL9 _ hM _ _ => ?_)
  obtain ⟨_⟩ : True := hL9
  refine ⟨hY.w, zIr hc0 (⟨fun (qc1 : c ≠ 6) => (show Φ 54 [some (zo 670), some (zi 0)] [] M (0) (0) from ?g143l1), fun (qc2 : c = 6) => (show Φ 13 [some (zo 670), some (zi 516)] [] M (0) (0) from ?g143l2)⟩)⟩
  case g143l1 =>
    refine ph2 _ c hY hc0 hc1.1 (by omega) (fin _ c Fr.rf (fun f _ => rfl) (by unfold pushC; rw [if_neg qc1]) hc1.1 (fun k k0 k1 j hj => ?_) (by unfold pushP; rw [if_neg qc1]; exact if_pos rfl))
    unfold pushP
    rw [if_neg qc1, if_neg (by omega)]
    exact hcP k k0 k1 j hj
  case g143l2 => have h9 := loop qc2 516 (by omega) (by omega); rw [cp_0 _ _ _ _ (by omega), zsA_self] at h9; exact h9
theorem M_X9_remember {l : Launch} (hl : l.stackTraces = false) : zMet l yX9_remember (Cond.code yX9_remember cX9_remember 2 (Option.none : Option Jvm.ClassFile.FieldType) :: zG) rm_X9_remember 0 0 T_X9_remember := met_X9_remember hl bd_X9_remember
