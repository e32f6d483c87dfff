def S8l (j : Nat) : Prop := 64 ≤ j ∧ j < 544
def S46 (j : Nat) : Prop := j = 64 ∨ j = 66
def T_X8_load : ZTf := fun av M K KX => ∃ (B : Gm) (n : Int) (G : Gm) (P : Int → Gm) (c : Int), av = [zo 64] ∧ (LV M) ∧ (CIn M B n) ∧ (KC M) ∧ (OX M) ∧ (TR M 129 G) ∧ (GI G) ∧ (RQ M P c) ∧ (∀ (r : Int) (M' : ZM), Fr S8l M M' → CIn M' B 0 → (zI M' 64 8 = (prs B n).2.1 ∧ zI M' 64 9 = (prs B n).2.2.1) → ((prs B n).2.1 ≠ 0 → r = -4 ∧ TR M' 129 G ∧ RQ M' P c) → ((prs B n).2.1 = 0 → r = (prs B n).1 4 ∧ TR M' 129 (prs B n).1 ∧ RQ M' (pushP P G c) (pushC c)) → K (some (zi r)) M')
set_option maxRecDepth 100000 in
set_option maxHeartbeats 1500000 in
theorem bd_X8_load : zBd (cd_X8_load T_X3_parseText T_X0_remember T_X5_copyFrom) 2 508 3810 T_X8_load := by
  rintro av M K KX hA0 hM ⟨B, n, G, P, c, rfl, hL, hI, kc, hOX, hT, hG, hq, hK⟩
  have hn5 := hI.2.1
  have hRd := prs_di B hn5.1
  have hRg := hRd.1.gi
  refine ⟨rfl, fun Φ hΦ => ?_⟩
  have s38 : ∀ M90 : ZM, Fr S8l M M90 → CIn M90 B 0 → (zI M90 64 8 = (prs B n).2.1 ∧ zI M90 64 9 = (prs B n).2.2.1) → ((prs B n).2.1 = 0 → TR M90 70 (prs B n).1) → TR M90 129 G → RQ M90 P c → Φ 38 [some (zo 64), some (zi (b2i (decide ((prs B n).2.1 = 0))))] [] M90 508 3810 := by
    intro M90 hz90 hI90 he90 hD90 hT90 hq90
    have hL90 := hL.fr hz90
    refine zGoR hΦ [] 400 (fun hL9 _ hM _ _ => ?_)
    obtain ⟨qL1, _⟩ : zrg (b2i (decide ((prs B n).2.1 = 0))) ∧ True := hL9
    refine ⟨fun h => (have qc1 : (prs B n).2.1 = 0 := of_decide_eq_true (b2i_n0 h); ⟨hL90.w, _, hL90.r3, ⟨hL90.w, _, hL90.r2, ⟨⟨⟨rfl, rfl⟩, hL90.wH.rcv⟩, ⟨G, P, c, rfl, hL90, hT90, hG, hq90, fun M1 hf1 hq91 => (have hL1 := hL90.fr hf1; fun qg2 qm3 => ⟨hL1.w, _, hL1.r2, ⟨hL1.w, _, hL1.r0, ⟨hL1.wP, _, hL1.p3, ⟨⟨⟨rfl, rfl⟩, hL1.tab.w.rcv⟩, ⟨129, 70, ((prs B n).1), rfl, hL1.tab, hL1.draft, ((hD90 (by omega)).fr9 hL90.draft hf1 hRg (fun j j0 j1 => by unfold SRg; omega)), hRg, (by unfold apT; omega), fun M2 hf2 hT2 => (have hL2 := hL1.fr hf2; fun qg4 qm5 => ⟨hL2.w, _, hL2.r2, ⟨hL2.tab.w, zIr (hT2.t4) (⟨trivial, (show K (some (zi ((prs B n).1 4))) M2 from ?g442l1)⟩)⟩⟩)⟩⟩⟩⟩⟩)⟩⟩⟩⟩), fun h => (have qc6 : (prs B n).2.1 ≠ 0 := of_decide_eq_false (b2i_e0 h); ⟨trivial, (show K (some (zi (-4))) M90 from ?g442l2)⟩)⟩
    case g442l1 =>
      first
      | (exfalso; omega)
      | skip
        have q0 : (prs B n).2.1 = 0 := by omega
        have f1 : Fr S8l M90 M1 := hf1.mono (fun j z => by unfold SRg at z; unfold S8l; omega)
        have f2 : Fr S8l M1 M2 := hf2.mono (fun j z => by unfold STb at z; unfold S8l; omega)
        have e64 : zI M2 64 = zI M90 64 := (hf2.i hL1.w (by unfold STb; omega)).trans (hf1.i hL90.w (by unfold SRg; omega))
        refine hK _ _ ((hz90.tr f1).tr f2) ((hI90.fr hL90 hf1 (by unfold SRg; omega) (by unfold SRg; omega)).fr hL1 hf2 (by unfold STb; omega) (by unfold STb; omega)) (by rw [e64]; exact he90) (fun q => absurd q0 q) (fun _ => ⟨?_, hT2, hq91.fr hL1 hf2 (fun j j0 j1 => by unfold STb; omega)⟩)
        first
        | rfl
        | exact hT2.t4
    case g442l2 =>
      first
      | (exfalso; omega)
      | exact hK _ _ hz90 hI90 he90 (fun _ => ⟨rfl, hT90, hq90⟩) (fun q => absurd q (by omega))
  refine zGoR hΦ [38] 400 (fun hL9 _ hM _ _ => ?_)
  obtain ⟨_⟩ : True := hL9
  refine ⟨hL.w, _, hL.r0, ⟨⟨(by decide), (by decide)⟩, ⟨⟨rfl, rfl⟩, hL.wP.rcv⟩, ⟨B, n, rfl, hL, hI, kc, hOX, fun M1 hf1 hP1 hI1 hT1 => (have hL1 := hL.fr hf1; fun (qg1 : zrg (b2i (decide ((prs B n).2.1 = 0)))) qm2 => ⟨hL1.w, _, hL1.r0, ⟨hL1.wP, zIr (hP1.2.1.1) (⟨⟨hL1.w, trivial⟩, ⟨hL1.w, _, hL1.r0, ⟨hL1.wP, zIr ((zIn _ _ _ (by omega)).trans (hP1.2.1.2)) (⟨⟨hL1.w, trivial⟩, ⟨hL1.w, _, hL1.r1, ⟨⟨hL1.wI, trivial⟩, (show Φ 38 [some (zo 64), some (zi (b2i (decide ((prs B n).2.1 = 0))))] [] (zsI (zsI (zsI M1 64 8 ((prs B n).2.1)) 64 9 ((prs B n).2.2.1)) 66 1 0) (0 + 508) (0 + 3810) from ?g443l1)⟩⟩⟩)⟩⟩⟩)⟩⟩)⟩⟩⟩
  case g443l1 =>
    have f1 : Fr S8l M M1 := hf1.mono (fun j z => by unfold S5e at z; unfold S8l; omega)
    have z1 : Fr S46 M1 (zsI M1 64 8 (prs B n).2.1) := Fr_I hL1.w (by decide) (by decide) (by unfold S46; omega)
    have z2 : Fr S46 (zsI M1 64 8 (prs B n).2.1) (zsI (zsI M1 64 8 (prs B n).2.1) 64 9 (prs B n).2.2.1) := Fr_I (hL1.fr z1).w (by decide) (by decide) (by unfold S46; omega)
    have z3 : Fr S46 (zsI (zsI M1 64 8 (prs B n).2.1) 64 9 (prs B n).2.2.1) (zsI (zsI (zsI M1 64 8 (prs B n).2.1) 64 9 (prs B n).2.2.1) 66 1 0) := Fr_I ((hL1.fr z1).fr z2).wI (by decide) (by decide) (by unfold S46; omega)
    have z9 := (z1.tr z2).tr z3
    refine s38 _ (f1.tr (z9.mono (fun j z => by unfold S46 at z; unfold S8l; omega))) ⟨by simp (disch := omega) only [zIs, zIm, zIn, zIrf], by omega, fun k hk => by omega, hI1.2.2.2.fr hL1 z9 (by unfold S46; omega) (by unfold S46; omega)⟩ ⟨?_, ?_⟩ (fun q => (hT1 q).fr9 hL1.draft z9 hRg (fun j j0 j1 => by unfold S46; omega)) ((hT.fr9 hL.tab hf1 hG (fun j j0 j1 => by unfold S5e; omega)).fr9 hL1.tab z9 hG (fun j j0 j1 => by unfold S46; omega)) ((hq.fr hL hf1 (fun j j0 j1 => by unfold S5e; omega)).fr hL1 z9 (fun j j0 j1 => by unfold S46; omega)) <;> simp (disch := omega) only [zIs, zIm, zIn, zIrf]
theorem M_X8_load {l : Launch} (hl : l.stackTraces = false) : zMet l yX8_load (Cond.code yX8_load cX8_load 2 (Option.some Jvm.ClassFile.FieldType.int) :: zG) rm_X8_load 508 3810 T_X8_load := met_X8_load hl (M_X3_parseText hl) (M_X0_remember hl) (M_X5_copyFrom hl) bd_X8_load
