/-! constructors: a worker, the input -/

def T_X7_init : ZTf := fun av M K KX => ∃ (b : Nat), av = [zo b] ∧ (zW M b 10) ∧ (b ≠ 1146) ∧ (∀ M' : ZM, UB b M M' → zN M' = zN M → zW M' b 10 → K none M')
set_option maxRecDepth 100000 in
set_option maxHeartbeats 1500000 in
theorem bd_X7_init : zBd (cd_X7_init) 1 0 0 T_X7_init := by
  rintro av M K KX hA0 hM ⟨b, rfl, hw, hb46, hK⟩
  refine ⟨rfl, fun Φ hΦ => ?_⟩
  refine zGoR hΦ [] 400 (fun hL9 _ hM _ _ => ?_)
  obtain ⟨_⟩ : True := hL9
  refine ⟨(Nat.le_of_ble_eq_true rfl), ⟨hw, (show K none (zsR M b 0 (some 57)) from ?g465l1)⟩⟩
  case g465l1 =>
    exact hK _ (UB.r (Nat.le_refl _)) rfl hw
theorem M_X7_init {l : Launch} (hl : l.stackTraces = false) : zMet l yX7_init (Cond.code yX7_init cX7_init 1 (Option.none : Option Jvm.ClassFile.FieldType) :: zG) rm_X7_init 0 0 T_X7_init := met_X7_init hl bd_X7_init

def T_X1_init : ZTf := fun av M K KX => ∃ (b : Nat), av = [zo b] ∧ (zW M b 5) ∧ (zN M = b + 1) ∧ (∀ M' : ZM, UB b M M' → zN M' = b + 2 → zW M' b 5 → (zR M' b 0 = some (b + 1) ∧ zW M' (b + 1) 20 ∧ zLn M' (b + 1) = 500) → zI M' b 1 = 0 → K none M')
set_option maxRecDepth 100000 in
set_option maxHeartbeats 1500000 in
theorem bd_X1_init : zBd (cd_X1_init) 1 1 500 T_X1_init := by
  rintro av M K KX hA0 hM ⟨b, rfl, hw, hn, hK⟩
  have h64 : zCC ≤ zN M := Nat.le_trans hw.2.1 (Nat.le_of_lt hw.2.2)
  obtain ⟨a1, a2, a3, a4, a5, a6, a7, a8, a9⟩ := A_st (s := 0) (n := 500) (v := zN M) hw rfl
  refine ⟨rfl, fun Φ hΦ => ?_⟩
  refine zGoR hΦ [] 400 (fun hL9 _ hM _ _ => ?_)
  obtain ⟨_⟩ : True := hL9
  refine ⟨(Nat.le_of_ble_eq_true rfl), ⟨⟨(by omega), (by omega), (by omega), (by omega)⟩, ⟨(zW.nw (κ' := 20) (n := 500) hw), ⟨⟨(zW.nw (κ' := 20) (n := 500) hw), trivial⟩, (show K none (zsI (zsR (zNw M 20 500) b 0 (some (zN M))) b 1 0) from ?g466l1)⟩⟩⟩⟩
  case g466l1 =>
    rw [hn] at a4 a5 a6 a1
    exact hK _ (a2.tr (UB.i (Nat.le_refl _))) (a1.trans rfl) a3 ⟨by rw [← hn] at a6 ⊢; exact a6, by rw [← hn] at a4 ⊢; exact a4, by rw [← hn] at a5 ⊢; exact a5⟩ (zI_Is _ _ _ _)
theorem M_X1_init {l : Launch} (hl : l.stackTraces = false) : zMet l yX1_init (Cond.code yX1_init cX1_init 1 (Option.none : Option Jvm.ClassFile.FieldType) :: zG) rm_X1_init 1 500 T_X1_init := met_X1_init hl bd_X1_init
