/-! the law: its small methods -/
def drwS (S : Nat × (Nat → Int)) (k : Int) : Int := if k < (S.1 : Int) then S.2 k.toNat else 0
def drS (S : Nat × (Nat → Int)) (k n : Int) : Int := Int.tmod (zand (drwS S k) 2147483647) n

def T_L_draw : ZTf := fun av M K KX => ∃ (S : Nat × (Nat → Int)) (x n : Int), av = [zo 62, zi x, zi n] ∧ LC9 S M ∧ (S.1 < 2147483648) ∧ (0 ≤ x) ∧ (1 ≤ n) ∧ K (some (zi (drS S x n))) M
set_option maxRecDepth 100000 in
set_option maxHeartbeats 1500000 in
theorem bd_L_draw : zBd (cd_L_draw) 3 0 0 T_L_draw := by
  rintro av M K KX hA0 hM ⟨S, x, n, rfl, hl9, hS1, hx0, hn1, hK⟩
  have hS : LC9 S M ∧ True := ⟨hl9, trivial⟩
  refine ⟨rfl, fun Φ hΦ => ?_⟩
  refine zGoR hΦ [] 400 (fun hL9 _ hM _ _ => ?_)
  obtain ⟨qL1, qL2, _⟩ : zrg x ∧ zrg n ∧ True := hL9
  refine ⟨⟨hS.1.1.1.2, Or.inr (Or.inl hS.1.1.1.1)⟩, zIr (congrArg (fun n : Nat => (n : Int)) hS.1.1.2) (⟨fun (qc1 : x ≥ (S.1 : Int)) => ⟨(zposI (x := n) (by omega)), ⟨trivial, (show K (some (zi (Int.tmod (zand 0 2147483647) n))) M from ?g0l1)⟩⟩, fun (qc2 : x < (S.1 : Int)) => ⟨zixS hS.1.1.1 hS.1.1.2 (i := x) (by omega) (by omega), zIr ((hS.1.2 _)) (⟨(zposI (x := n) (by omega)), ⟨trivial, (show K (some (zi (Int.tmod (zand (S.2 x.toNat) 2147483647) n))) M from ?g0l2)⟩⟩)⟩⟩)⟩
  case g0l1 => unfold drS drwS at hK; rw [if_neg (by omega)] at hK; exact hK
  case g0l2 => unfold drS drwS at hK; rw [if_pos (by omega)] at hK; exact hK

theorem M_L_draw {l : Launch} (hl : l.stackTraces = false) : zMet l yL_draw (Cond.code yL_draw cL_draw 3 (Option.some Jvm.ClassFile.FieldType.int) :: zG) rm_L_draw 0 0 T_L_draw := met_L_draw hl bd_L_draw

def cpd (x : Int) : Int := zmax 0 (zmin 20 x)
def T_L_capped : ZTf := fun av M K KX => ∃ x : Int, av = [zi x] ∧ K (some (zi (cpd x))) M
set_option maxRecDepth 100000 in
set_option maxHeartbeats 1500000 in
theorem bd_L_capped : zBd (cd_L_capped) 1 0 0 T_L_capped := by
  rintro av M K KX hA0 hM ⟨x, rfl, hK⟩
  refine ⟨rfl, fun Φ hΦ => ?_⟩
  refine zGoR hΦ [] 400 (fun hL9 _ hM _ _ => ?_)
  obtain ⟨qL1, _⟩ : zrg x ∧ True := hL9
  refine ⟨rfl, ⟨rfl, ⟨trivial, (show K (some (zi (zmax 0 (zmin 20 x)))) M from ?g1l1)⟩⟩⟩
  case g1l1 => exact hK

theorem M_L_capped {l : Launch} (hl : l.stackTraces = false) : zMet l yL_capped (Cond.code yL_capped cL_capped 1 (Option.some Jvm.ClassFile.FieldType.int) :: zG) rm_L_capped 0 0 T_L_capped := met_L_capped hl bd_L_capped

theorem D_capped {M : ZM} {x : Int} {K : ZRet} {KX : ZEx} (hK : K (some (zi (cpd x))) M) : T_L_capped [zi x] M K KX := ⟨x, rfl, hK⟩
theorem D_draw {S : Nat × (Nat → Int)} {k : Int} {G : Gm} {M : ZM} {x n : Int} {K : ZRet} {KX : ZEx} (hS : LSt S k G M) (hx : 0 ≤ x ∧ S.1 < 2147483648) (hn : 1 ≤ n) (hK : K (some (zi (drS S x n))) M) : T_L_draw [zo 62, zi x, zi n] M K KX := ⟨S, x, n, rfl, hS.1, hx.2, hx.1, hn, hK⟩
theorem dr_r {S : Nat × (Nat → Int)} {k n : Int} (hn : 1 ≤ n) : 0 ≤ drS S k n ∧ drS S k n < n := by
  unfold drS
  have h := zand_p (drwS S k)
  exact ⟨Int.tmod_nonneg _ h, Int.tmod_lt_of_pos _ (by omega)⟩

