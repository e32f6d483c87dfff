def T_X7_begin : ZTf := fun av M K KX => ∃ (j s : Nat) (tm qo tr : Int), av = [zo j, zo s, zi tm, zi qo, zi tr] ∧ (zW M j 10) ∧ (j < 668) ∧ (∀ M' : ZM, Fr (fun q => q = j) M M' → zR M' j 0 = some s → (zI M' j 1 = tm ∧ zI M' j 2 = qo ∧ zI M' j 3 = tr) → (∀ k : Nat, 4 ≤ k → k ≤ 9 → zI M' j k = 0) → K none M')
set_option maxRecDepth 100000 in
set_option maxHeartbeats 4000000 in
theorem bd_X7_begin : zBd (cd_X7_begin) 5 0 0 T_X7_begin := by
  rintro av M K KX hA0 hM ⟨j, s, tm, qo, tr, rfl, hj, hne, hK⟩
  refine ⟨rfl, fun Φ hΦ => ?_⟩
  refine zGoR hΦ [] 400 (fun hL9 _ hM _ _ => ?_)
  obtain ⟨qL1, qL2, qL3, _⟩ : zrg tm ∧ zrg qo ∧ zrg tr ∧ True := hL9
  refine ⟨hj, ⟨⟨hj, trivial⟩, ⟨⟨hj, trivial⟩, ⟨⟨hj, trivial⟩, ⟨⟨hj, trivial⟩, ⟨⟨hj, trivial⟩, ⟨⟨hj, trivial⟩, ⟨⟨hj, trivial⟩, ⟨⟨hj, trivial⟩, ⟨⟨hj, trivial⟩, (show K none (zsI (zsI (zsI (zsI (zsI (zsI (zsI (zsI (zsI (zsR M j 0 (some s)) j 1 tm) j 2 qo) j 3 tr) j 4 0) j 5 0) j 6 0) j 7 0) j 8 0) j 9 0) from ?g310l1)⟩⟩⟩⟩⟩⟩⟩⟩⟩⟩
  case g310l1 =>
    refine hK _ ((((((((((Fr_R hj ⟨rfl, by omega⟩ (by rfl)).tr (Fr_I hj (by decide) (by decide) (by rfl))).tr (Fr_I hj (by decide) (by decide) (by rfl))).tr (Fr_I hj (by decide) (by decide) (by rfl))).tr (Fr_I hj (by decide) (by decide) (by rfl))).tr (Fr_I hj (by decide) (by decide) (by rfl))).tr (Fr_I hj (by decide) (by decide) (by rfl))).tr (Fr_I hj (by decide) (by decide) (by rfl))).tr (Fr_I hj (by decide) (by decide) (by rfl))).tr (Fr_I hj (by decide) (by decide) (by rfl))) ?_ ⟨?_, ?_, ?_⟩ (fun k k0 k1 => ?_)
    · exact up2_s _ _ _ _
    · simp (disch := omega) only [zIs, zIm, zIn, zIrf]
    · simp (disch := omega) only [zIs, zIm, zIn, zIrf]
    · simp (disch := omega) only [zIs, zIm, zIn, zIrf]
    · have h9 : k = 4 ∨ k = 5 ∨ k = 6 ∨ k = 7 ∨ k = 8 ∨ k = 9 := by omega
      rcases h9 with q | q | q | q | q | q <;> subst q <;> simp (disch := omega) only [zIs, zIm, zIn, zIrf]
theorem M_X7_begin {l : Launch} (hl : l.stackTraces = false) : zMet l yX7_begin (Cond.code yX7_begin cX7_begin 5 (Option.none : Option Jvm.ClassFile.FieldType) :: zG) rm_X7_begin 0 0 T_X7_begin := met_X7_begin hl bd_X7_begin
