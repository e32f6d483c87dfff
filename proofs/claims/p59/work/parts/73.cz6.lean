def T_X5_clear : ZTf := fun av M K KX => ∃ (t : Nat), av = [zo t] ∧ (LTab M t) ∧  (∀ M' : ZM, (Fr (STb t) M M') → (zI M' t 3 = 0 ∧ zI M' t 4 = 0 ∧ zI M' t 5 = 0) → (∀ k : Nat, k < 3 → zI M' t k = zI M t k) → (∀ k : Nat, k < 36 → zI M' (t + 3) k = 0 ∧ zI M' (t + 4) k = 0) → (∀ j, t + 5 ≤ j → zI M' j = zI M j) → (zR M' = zR M) → K none M')
set_option maxRecDepth 100000 in
set_option maxHeartbeats 4000000 in
theorem bd_X5_clear : zBd (cd_X5_clear T_J7_fill_53178) 1 0 0 T_X5_clear := by
  rintro av M K KX hA0 hM ⟨t, rfl, hX, hK⟩
  refine ⟨rfl, fun Φ hΦ => ?_⟩
  refine zGoR hΦ [] 400 (fun hL9 _ hM _ _ => ?_)
  obtain ⟨_⟩ : True := hL9
  refine ⟨⟨hX.w, trivial⟩, ⟨⟨hX.w, trivial⟩, ⟨⟨hX.w, trivial⟩, ⟨hX.w, _, hX.r8, ⟨⟨⟨rfl, rfl⟩, trivial⟩, ⟨(t + 3), 36, 0, rfl, (show zW _ _ 20 from hX.aTst), (show zLn _ _ = 36 from hX.lTst), (by decide), fun qg1 qm2 => ⟨hX.w, _, hX.r9, ⟨⟨⟨rfl, rfl⟩, trivial⟩, ⟨(t + 4), 36, 0, rfl, (show zW _ _ 20 from hX.aTtold), (show zLn _ _ = 36 from hX.lTtold), (by decide), fun qg3 qm4 => (show K none (zsA (zsA (zsI (zsI (zsI M t 3 0) t 4 0) t 5 0) (t + 3) (cpG (zI (zsI (zsI (zsI M t 3 0) t 4 0) t 5 0) (t + 3)) 0 (fun _ => 0) 0 36)) (t + 4) (cpG (zI (zsA (zsI (zsI (zsI M t 3 0) t 4 0) t 5 0) (t + 3) (cpG (zI (zsI (zsI (zsI M t 3 0) t 4 0) t 5 0) (t + 3)) 0 (fun _ => 0) 0 36)) (t + 4)) 0 (fun _ => 0) 0 36)) from ?g311l1)⟩⟩⟩⟩⟩⟩⟩⟩⟩
  case g311l1 =>
    refine hK _ (((((Fr_I hX.w (by decide) (by decide) (by unfold STb; omega)).tr (Fr_I hX.w (by decide) (by decide) (by unfold STb; omega))).tr (Fr_I hX.w (by decide) (by decide) (by unfold STb; omega))).tr (Fr_A hX.aTst (by decide) (by decide) (by unfold STb; omega))).tr (Fr_A hX.aTtold (by decide) (by decide) (by unfold STb; omega))) ⟨?_, ?_, ?_⟩ (fun k hk => ?_) (fun k hk => ⟨?_, ?_⟩) (fun j hj => ?_) rfl
    all_goals simp (disch := omega) only [zI_An, zI_A, zIs, zIm, zIn, zI_In]
    all_goals exact (cp_in _ _ _ _ _ (by omega))
theorem M_X5_clear {l : Launch} (hl : l.stackTraces = false) : zMet l yX5_clear (Cond.code yX5_clear cX5_clear 1 (Option.none : Option Jvm.ClassFile.FieldType) :: zG) rm_X5_clear 0 0 T_X5_clear := met_X5_clear hl (M_J7_fill_53178 hl) bd_X5_clear
