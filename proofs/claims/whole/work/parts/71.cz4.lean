/-! the class: a worker looked up -/

def T_X8_find : ZTf := fun av M K KX => ∃ (G B : Gm) (n : Int), av = [zo 64] ∧ (LV M) ∧ (TR M 129 G) ∧ (0 ≤ G 4 ∧ G 4 ≤ 6) ∧ (CIn M B n) ∧  (∀ M' : ZM, (Fr SIn M M') → (CIn M' B 0) → K (some (zi (fNamed G B n 0 n))) M')
set_option maxRecDepth 100000 in
set_option maxHeartbeats 4000000 in
theorem bd_X8_find : zBd (cd_X8_find T_X5_workerNamed) 2 0 0 T_X8_find := by
  rintro av M K KX hA0 hM ⟨G, B, n, rfl, hL, hT, hw4, hI, hK⟩
  have hn0 := hI.2.1
  refine ⟨rfl, fun Φ hΦ => ?_⟩
  refine zGoR hΦ [] 400 (fun hL9 _ hM _ _ => ?_)
  obtain ⟨_⟩ : True := hL9
  refine ⟨hL.w, _, hL.r2, ⟨hL.w, _, hL.r1, ⟨hL.w, _, hL.r1, ⟨hL.wI, zIr (hI.1) (⟨⟨⟨rfl, rfl⟩, hL.tab.w.rcv⟩, ⟨129, G, B, n, 0, n, rfl, hL.tab, hT, hw4, hL, hI, (by omega), fun (qg1 : zrg (fNamed G B n 0 n)) qm2 => ⟨hL.w, _, hL.r1, ⟨⟨hL.wI, trivial⟩, ⟨trivial, (show K (some (zi (fNamed G B n 0 n))) (zsI M 66 1 0) from ?g309l1)⟩⟩⟩⟩⟩)⟩⟩⟩⟩
  case g309l1 => exact hK _ (Fr_I hL.wI (by decide) (by decide) (by unfold SIn; omega)) ⟨zI_Is _ _ _ _, by omega, fun k hk => by omega, hI.2.2.2.eq rfl (zI_In _ _ _ (by decide)) (zI_In _ _ _ (by decide))⟩
theorem M_X8_find {l : Launch} (hl : l.stackTraces = false) : zMet l yX8_find (Cond.code yX8_find cX8_find 2 (Option.some Jvm.ClassFile.FieldType.int) :: zG) rm_X8_find 0 0 T_X8_find := met_X8_find hl (M_X5_workerNamed hl) bd_X8_find
