/-! the class: slots, undo -/
def SKp (j : Nat) : Prop := 544 ≤ j ∧ j ≤ 663
def SQ (M : ZM) (Q : Int → Gm) (b : Int → Int) : Prop := ∀ s : Int, 0 ≤ s → s < 2 → zI M 663 s.toNat = b s ∧ (b s = 0 ∨ b s = 1) ∧ (b s ≠ 0 → TR M (545 + 59 * s.toNat) (Q s) ∧ GI (Q s))
theorem SQ.fr {S : Nat → Prop} {M M' : ZM} {Q : Int → Gm} {b : Int → Int} (h : SQ M Q b) (hL : LV M) (f : Fr S M M') (hs : ∀ j, 544 ≤ j → j ≤ 663 → ¬ S j) : SQ M' Q b := by
  intro s s0 s1
  obtain ⟨h1, h2, h3⟩ := h s s0 s1
  refine ⟨by rw [f.i hL.a_filled (hs _ (by omega) (by omega))]; exact h1, h2, fun q => ?_⟩
  have h4 := h3 q
  exact ⟨h4.1.fr9 (hL.sl s0 s1).2 f h4.2 (fun j j0 j1 => hs j (by omega) (by omega)), h4.2⟩
theorem SQ.put {M M1 M' : ZM} {Q : Int → Gm} {b : Int → Int} {G : Gm} {s : Int} (h : SQ M Q b) (hL : LV M) (hG : GI G) (hs : 0 ≤ s ∧ s < 2) (f : Fr (STb (545 + 59 * s.toNat)) M M1) (hT : TR M1 (545 + 59 * s.toNat) G) (f2 : Fr (fun j => j = 663) M1 M') (e0 : zI M' 663 s.toNat = 1) (e1 : ∀ k, k ≠ s.toNat → zI M' 663 k = zI M1 663 k) : SQ M' (fun z => if z = s then G else Q z) (fun z => if z = s then 1 else b z) := by
  have hL1 := hL.fr f
  have e2 : zI M1 663 = zI M 663 := f.i hL.a_filled (by unfold STb; omega)
  intro z z0 z1
  show zI M' 663 z.toNat = (if z = s then 1 else b z) ∧ ((if z = s then 1 else b z) = 0 ∨ (if z = s then 1 else b z) = 1) ∧ ((if z = s then 1 else b z) ≠ 0 → TR M' (545 + 59 * z.toNat) (if z = s then G else Q z) ∧ GI (if z = s then G else Q z))
  by_cases q : z = s
  · subst q
    rw [if_pos rfl, if_pos rfl]
    exact ⟨e0, Or.inr rfl, fun _ => ⟨hT.fr9 (hL1.sl z0 z1).2 f2 hG (fun j j0 j1 => by omega), hG⟩⟩
  · rw [if_neg q, if_neg q]
    obtain ⟨h1, h2, h3⟩ := h z z0 z1
    refine ⟨by rw [e1 _ (by omega), e2]; exact h1, h2, fun u => ?_⟩
    have h4 := h3 u
    exact ⟨(h4.1.fr9 (hL.sl z0 z1).2 f h4.2 (fun j j0 j1 => by unfold STb; omega)).fr9 (hL1.sl z0 z1).2 f2 h4.2 (fun j j0 j1 => by omega), h4.2⟩

def T_X8_undo : ZTf := fun av M K KX => ∃ (P : Int → Gm) (c : Int), av = [zo 64] ∧ (LV M) ∧ (RQ M P c) ∧  ((0 < c) → (∀ M' : ZM, (Fr SCw M M') → (TR M' 129 (P (c - 1))) → (RQ M' P (c - 1)) → K (some (zi (c - 1))) M')) ∧ ((c ≤ 0) → KX 2 M)
set_option maxRecDepth 100000 in
set_option maxHeartbeats 4000000 in
theorem bd_X8_undo : zBd (cd_X8_undo T_X0_bringBack) 1 1 6 T_X8_undo := by
  rintro av M K KX hA0 hM ⟨P, c, rfl, hL, hq, hK, hX2⟩
  have hc := hq.1
  have hcr := hq.2.1
  refine ⟨rfl, fun Φ hΦ => ?_⟩
  refine zGoR hΦ [] 400 (fun hL9 _ hM _ _ => ?_)
  obtain ⟨_⟩ : True := hL9
  refine ⟨hL.w, _, hL.r3, ⟨hL.wH, zIr (hc) (⟨fun (qc1 : c ≠ 0) => ⟨hL.w, _, hL.r3, ⟨hL.w, _, hL.r2, ⟨⟨⟨rfl, rfl⟩, hL.wH.rcv⟩, ⟨P, c, rfl, hL, hq, (by omega), fun M1 hf1 hT1 hq91 => (have hL1 := LV.fr (M := M) hL hf1; fun qg2 qm3 => ⟨hL1.w, _, hL1.r3, ⟨hL1.wH, zIr (hq91.1) (⟨trivial, (show K (some (zi (c - 1))) M1 from ?g285l1)⟩)⟩⟩)⟩⟩⟩⟩, fun (qc4 : c = 0) => ⟨⟨(by decide), (by decide)⟩, (Nat.le_of_ble_eq_true rfl), (show KX 2 M from ?g285l2)⟩⟩)⟩⟩
  case g285l1 =>
    exact hK (by omega) _ (hf1.mono (fun j z => by unfold STb at z; unfold SCw; omega)) hT1 hq91
  case g285l2 => exact hX2 (by omega)
theorem M_X8_undo {l : Launch} (hl : l.stackTraces = false) : zMet l yX8_undo (Cond.code yX8_undo cX8_undo 1 (Option.some Jvm.ClassFile.FieldType.int) :: zG) rm_X8_undo 1 6 T_X8_undo := met_X8_undo hl (M_X0_bringBack hl) bd_X8_undo

def T_X8_undoCount : ZTf := fun av M K KX => ∃ (P : Int → Gm) (c : Int), av = [zo 64] ∧ (LV M) ∧ (RQ M P c) ∧  K (some (zi (c))) M
set_option maxRecDepth 100000 in
set_option maxHeartbeats 4000000 in
theorem bd_X8_undoCount : zBd (cd_X8_undoCount) 1 0 0 T_X8_undoCount := by
  rintro av M K KX hA0 hM ⟨P, c, rfl, hL, hq, hK⟩
  have hc := hq.1
  refine ⟨rfl, fun Φ hΦ => ?_⟩
  refine zGoR hΦ [] 400 (fun hL9 _ hM _ _ => ?_)
  obtain ⟨_⟩ : True := hL9
  refine ⟨hL.w, _, hL.r3, ⟨hL.wH, zIr (hc) (⟨trivial, (show K (some (zi c)) M from ?g286l1)⟩)⟩⟩
  case g286l1 => exact hK
theorem M_X8_undoCount {l : Launch} (hl : l.stackTraces = false) : zMet l yX8_undoCount (Cond.code yX8_undoCount cX8_undoCount 1 (Option.some Jvm.ClassFile.FieldType.int) :: zG) rm_X8_undoCount 0 0 T_X8_undoCount := met_X8_undoCount hl bd_X8_undoCount

def T_X8_keep : ZTf := fun av M K KX => ∃ (G : Gm) (Q : Int → Gm) (b : Int → Int) (s : Int), av = [zo 64, zi s] ∧ (LV M) ∧ (TR M 129 G) ∧ (GI G) ∧ (SQ M Q b) ∧  ((0 ≤ s ∧ s < 2) → (∀ M' : ZM, (Fr SKp M M') → (SQ M' (fun z => if z = s then G else Q z) (fun z => if z = s then 1 else b z)) → K (some (zi (G 3))) M')) ∧ ((¬(0 ≤ s ∧ s < 2)) → KX 0 M)
set_option maxRecDepth 100000 in
set_option maxHeartbeats 4000000 in
theorem bd_X8_keep : zBd (cd_X8_keep T_X8_requireSlot T_X5_copyFrom) 2 1 6 T_X8_keep := by
  rintro av M K KX hA0 hM ⟨G, Q, b, s, rfl, hL, hT, hG, hs, hK, hX0⟩
  refine ⟨rfl, fun Φ hΦ => ?_⟩
  refine zGoR hΦ [] 400 (fun hL9 _ hM _ _ => ?_)
  obtain ⟨qL1, _⟩ : zrg s ∧ True := hL9
  refine ⟨⟨(by decide), (by decide)⟩, ⟨⟨rfl, rfl⟩, trivial⟩, ⟨s, rfl, fun (qc3 : 0 ≤ s ∧ s < 2) => fun qg1 qm2 => ⟨hL.w, _, hL.r4, ⟨zixW hL.a_slots hL.l_slots (i := s) (by omega) (by decide), _, (hL.sl (by omega) (by omega)).1, ⟨hL.w, _, hL.r2, ⟨⟨⟨rfl, rfl⟩, (hL.sl (by omega) (by omega)).2.w.rcv⟩, ⟨(545 + 59 * s.toNat), 129, G, rfl, (hL.sl (i := s) (by omega) (by omega)).2, hL.tab, hT, hG, (by unfold apT; omega), fun M1 hf1 hT1 => (have hL1 := LV.fr (M := M) hL hf1; have hTt := hT.fr9 hL.tab hf1 hG (fun j j0 j1 => by unfold STb; omega); fun qg4 qm5 => ⟨hL1.w, _, hL1.r5, ⟨⟨zixW hL1.a_filled hL1.l_filled (i := s) (by omega) (by decide), (Or.inr rfl)⟩, ⟨hL1.w, _, hL1.r2, ⟨hL1.tab.w, zIr ((zIn _ _ _ (by omega)).trans (hTt.t3)) (⟨trivial, (show K (some (zi (G 3))) (zsI M1 663 s.toNat 1) from ?g287l1)⟩)⟩⟩⟩⟩)⟩⟩⟩⟩⟩, fun (qc6 : ¬(0 ≤ s ∧ s < 2)) => (show KX 0 M from ?g287l2)⟩⟩
  case g287l1 =>
    have f2 : Fr (fun j => j = 663) M1 (zsI M1 663 s.toNat 1) := Fr_I hL1.a_filled (by decide) (by decide) rfl
    have z9 := hs.put hL hG (by omega) hf1 hT1 f2 (zI_Is _ _ _ _) (fun k hk => zI_Im _ _ _ hk)
    exact hK (by omega) _ ((hf1.mono (fun j z => by unfold STb at z; unfold SKp; omega)).tr (f2.mono (fun j z => by unfold SKp; omega))) z9
  case g287l2 => exact hX0 (by omega)
theorem M_X8_keep {l : Launch} (hl : l.stackTraces = false) : zMet l yX8_keep (Cond.code yX8_keep cX8_keep 2 (Option.some Jvm.ClassFile.FieldType.int) :: zG) rm_X8_keep 1 6 T_X8_keep := met_X8_keep hl (M_X8_requireSlot hl) (M_X5_copyFrom hl) bd_X8_keep

def T_X8_restore : ZTf := fun av M K KX => ∃ (G : Gm) (P Q : Int → Gm) (b : Int → Int) (c s : Int), av = [zo 64, zi s] ∧ (LV M) ∧ (TR M 129 G) ∧ (GI G) ∧ (RQ M P c) ∧ (SQ M Q b) ∧  (((0 ≤ s ∧ s < 2) ∧ b s ≠ 0) → (∀ M' : ZM, (Fr SCw M M') → (TR M' 129 (Q s)) → (RQ M' (pushP P G c) (pushC c)) → K (some (zi (Q s 3))) M')) ∧ ((¬(0 ≤ s ∧ s < 2)) → KX 0 M) ∧ (((0 ≤ s ∧ s < 2) ∧ b s = 0) → KX 2 M)
set_option maxRecDepth 100000 in
set_option maxHeartbeats 4000000 in
theorem bd_X8_restore : zBd (cd_X8_restore T_X8_requireSlot T_X0_remember T_X5_copyFrom) 2 2 12 T_X8_restore := by
  rintro av M K KX hA0 hM ⟨G, P, Q, b, c, s, rfl, hL, hT, hG, hq, hs, hK, hX0, hX2⟩
  have hb9 := fun (a : 0 ≤ s) (e : s < 2) => hs s a e
  refine ⟨rfl, fun Φ hΦ => ?_⟩
  refine zGoR hΦ [] 400 (fun hL9 _ hM _ _ => ?_)
  obtain ⟨qL1, _⟩ : zrg s ∧ True := hL9
  refine ⟨⟨(by decide), (by decide)⟩, ⟨⟨rfl, rfl⟩, trivial⟩, ⟨s, rfl, fun (qc3 : 0 ≤ s ∧ s < 2) => fun qg1 qm2 => ⟨hL.w, _, hL.r5, ⟨zixW hL.a_filled hL.l_filled (i := s) (by omega) (by decide), zIr ((hb9 (by omega) (by omega)).1) (⟨fun (qc4 : b s ≠ 0) => ⟨hL.w, _, hL.r3, ⟨hL.w, _, hL.r2, ⟨⟨⟨rfl, rfl⟩, hL.wH.rcv⟩, ⟨G, P, c, rfl, hL, hT, hG, hq, fun M1 hf1 hq91 => (have hL1 := LV.fr (M := M) hL hf1; have hT1 := hT.fr9 hL.tab hf1 hG (fun j j0 j1 => by unfold SRg; omega); have hs91 := hs.fr hL hf1 (fun j j0 j1 => by unfold SRg; omega); fun qg5 qm6 => ⟨hL1.w, _, hL1.r2, ⟨hL1.w, _, hL1.r4, ⟨zixW hL1.a_slots hL1.l_slots (i := s) (by omega) (by decide), _, (hL1.sl (by omega) (by omega)).1, ⟨⟨⟨rfl, rfl⟩, hL1.tab.w.rcv⟩, ⟨129, (545 + 59 * s.toNat), (Q s), rfl, hL1.tab, (hL1.sl (i := s) (by omega) (by omega)).2, ((hs91 s (by omega) (by omega)).2.2 (by omega)).1, ((hs91 s (by omega) (by omega)).2.2 (by omega)).2, (by unfold apT; omega), fun M2 hf2 hT2 => (have hL2 := LV.fr (M := M1) hL1 hf2; fun qg7 qm8 => ⟨hL2.w, _, hL2.r2, ⟨hL2.tab.w, zIr (hT2.t3) (⟨trivial, (show K (some (zi ((Q s) 3))) M2 from ?g288l1)⟩)⟩⟩)⟩⟩⟩⟩⟩)⟩⟩⟩⟩, fun (qc9 : b s = 0) => ⟨⟨(by decide), (by decide)⟩, (Nat.le_of_ble_eq_true rfl), (show KX 2 M from ?g288l2)⟩⟩)⟩⟩, fun (qc10 : ¬(0 ≤ s ∧ s < 2)) => (show KX 0 M from ?g288l3)⟩⟩
  case g288l1 =>
    exact hK (by omega) _ ((hf1.mono (fun j z => by unfold SRg at z; unfold SCw; omega)).tr (hf2.mono (fun j z => by unfold STb at z; unfold SCw; omega))) hT2 (hq91.fr hL1 hf2 (fun j j0 j1 => by unfold STb; omega))
  case g288l2 => exact hX2 (by omega)
  case g288l3 => exact hX0 (by omega)
theorem M_X8_restore {l : Launch} (hl : l.stackTraces = false) : zMet l yX8_restore (Cond.code yX8_restore cX8_restore 2 (Option.some Jvm.ClassFile.FieldType.int) :: zG) rm_X8_restore 2 12 T_X8_restore := met_X8_restore hl (M_X8_requireSlot hl) (M_X0_remember hl) (M_X5_copyFrom hl) bd_X8_restore
