/-! the reference: load -/
theorem GI_Z : GI gZ := ⟨by decide, by decide, fun r r0 r1 => by
  have h9 : r < 0 := r1
  omega⟩
theorem RP.sc {M M' : ZM} {B : Gm} {n : Int} (hX : RTx M B n) (hY : LY M) (hn : 0 ≤ n) (hx : RXn M M') (h12 : zI M' 670 12 = zI M 670 12 ∧ zI M' 670 13 = zI M 670 13) (hk : RTk M' B n (tkS B n 0)) (h0 : zI M 670 12 = 0) (h1 : zI M 670 13 = -1) : RP M' B n ((0, -1, tkS B n 0) : E3) := by
  refine ⟨hX.fr hY hx, ⟨h12.1.trans h0, h12.2.trans h1⟩, hk, ?_⟩
  have h9 := tkS_r B hn
  exact h9

theorem KC_sw {M : ZM} {v : Option Nat} (h : KC M) (hk : zK M 670 = 12) : KC (zsR M 670 3 v) := by
  obtain ⟨h1, h2, h3⟩ := h
  have key : ∀ s l, zTx M s l → zTx (zsR M 670 3 v) s l := fun s l hz => by
    obtain ⟨b1, b2, u, b3, b4, b5, b7, b6⟩ := hz
    have e1 : s ≠ 670 := fun e => by have h8 := b1.1; rw [e, hk] at h8; exact absurd h8 (by decide)
    exact ⟨b1, b2, u, (up2_n _ _ _ _ 0 e1).trans b3, b4, b5, ⟨b7.1, fun z => b7.2 (show zR M 668 0 = some u from z)⟩, b6⟩
  refine ⟨fun i hi => ?_, h2, h3⟩
  obtain ⟨b1, b2, b3, b5⟩ := h1 i hi
  exact ⟨key _ _ b1, key _ _ b2, ⟨b3.1, (show zR (zsR M 670 3 v) (1 + i) 0 = zR M (1 + i) 0 from up2_n M.2.2.2.2 670 3 v 0 (show 1 + i ≠ 670 by omega)).trans b3.2⟩, (show zR (zsR M 670 3 v) 12 i = zR M 12 i from up2_n M.2.2.2.2 670 3 v i (show (12 : Nat) ≠ 670 by decide)).trans b5⟩

def T_X9_load : ZTf := fun av M K KX => ∃ (B : Gm) (n : Int) (P : Int → Gm) (c : Int), av = [zo 670] ∧ (LY M) ∧ (MA M 671) ∧ (RIn M B n) ∧ (RH M P c) ∧ (KC M) ∧ (∀ (r : Int) (M' : ZM), Fr SLd M M' → RIn M' B 0 → zI M' 670 0 = 0 → zI M' 670 21 = zI M 670 21 → (zI M' 670 12 = (prs B n).2.1 ∧ zI M' 670 13 = (prs B n).2.2.1) → ((prs B n).2.1 ≠ 0 → r = -4 ∧ zI M' 671 = zI M 671 ∧ RH M' P c) → ((prs B n).2.1 = 0 → r = (prs B n).1 4 ∧ E516 (zI M' 671) (prs B n).1 ∧ RH M' (pushP P (zI M 671) c) (pushC c)) → K (some (zi r)) M')
set_option maxRecDepth 100000 in
set_option maxHeartbeats 1500000 in
theorem bd_X9_load : zBd (cd_X9_load T_X9_scan T_X9_parseTable T_X9_semicolon T_X9_good T_X9_parseStatement T_X9_remember T_X9_workers) 2 0 0 T_X9_load := by
  rintro av M K KX hA0 hM ⟨B, n, P, c, rfl, hY, hA, hI, hH, kc, hK⟩
  have hn0 := hI.2.1
  have hn6 := hI.1
  have hRd := prs_di B hn0.1
  obtain ⟨R, hR⟩ : ∃ R, prs B n = R := ⟨_, rfl⟩
  rw [hR] at hK hRd
  refine ⟨rfl, fun Φ hΦ => ?_⟩
  obtain ⟨Ma, hMa⟩ : ∃ Ma, (zsI (zsI (zsI (zsI (zsI (zsI M 670 0 0) 670 7 n) 670 6 0) 670 8 0) 670 12 0) 670 13 (-1)) = Ma := ⟨_, rfl⟩
  have fa : Fr S4d M Ma := by
    rw [← hMa]
    exact ((((((Fr_I (S := S4d) hY.w (by decide) (by decide) (Or.inl rfl)).tr (Fr_I (M := zsI M 670 0 0) hY.w (by decide) (by decide) (Or.inl rfl))).tr (Fr_I (M := zsI (zsI M 670 0 0) 670 7 n) hY.w (by decide) (by decide) (Or.inl rfl))).tr (Fr_I (M := zsI (zsI (zsI M 670 0 0) 670 7 n) 670 6 0) hY.w (by decide) (by decide) (Or.inl rfl))).tr (Fr_I (M := zsI (zsI (zsI (zsI M 670 0 0) 670 7 n) 670 6 0) 670 8 0) hY.w (by decide) (by decide) (Or.inl rfl))).tr (Fr_I (M := zsI (zsI (zsI (zsI (zsI M 670 0 0) 670 7 n) 670 6 0) 670 8 0) 670 12 0) hY.w (by decide) (by decide) (Or.inl rfl)))
  have hYa := hY.fr fa
  have hAa := MA.fr hY hA fa
  have ka : ∀ f : Nat, f ≠ 0 → f ≠ 7 → f ≠ 6 → f ≠ 8 → f ≠ 12 → f ≠ 13 → zI Ma 670 f = zI M 670 f := fun f q0 q7 q6 q8 q12 q13 => by
    rw [← hMa]
    simp only [zI_Im _ _ _ q13, zI_Im _ _ _ q12, zI_Im _ _ _ q8, zI_Im _ _ _ q6, zI_Im _ _ _ q7, zI_Im _ _ _ q0]
  have k0 : zI Ma 670 0 = 0 ∧ zI Ma 670 7 = n ∧ zI Ma 670 6 = 0 ∧ zI Ma 670 8 = 0 ∧ zI Ma 670 12 = 0 ∧ zI Ma 670 13 = -1 := by
    rw [← hMa]
    refine ⟨?_, ?_, ?_, ?_, ?_, ?_⟩ <;> simp (disch := omega) only [zIs, zIm, zIn, zIrf]
  have hTa : RTx Ma B n := ⟨k0.2.1, hn0, by rw [fa.i hY.a5 (by unfold S4d; omega)]; exact hI.2.2⟩
  have ena : zI Ma 671 = zI M 671 := by rw [← hMa]; simp only [zI_In _ _ _ (show (671 : Nat) ≠ 670 by decide)]
  have s114 : R.2.1 = 0 → ∀ (M90 : ZM), Fr SLd M M90 → RH M90 P c → zI M90 671 = zI M 671 → E516 (zI M90 672) R.1 → MA M90 671 → (zI M90 670 0 = 0 ∧ zI M90 670 6 = 0 ∧ zI M90 670 21 = zI M 670 21 ∧ zI M90 670 12 = R.2.1 ∧ zI M90 670 13 = R.2.2.1) → Φ 114 [some (zo 670), some (zi 516)] [] M90 0 0 := by
    intro hr0 M90 f90 hH90 hn90 hg90 hA90 hk90
    have hY90 := hY.fr f90
    have fin : ∀ (M3 : ZM) (g : Gm), Fr (fun j => j = 670 ∨ j = 679) M90 M3 → (∀ f, f ≠ 19 → zI M3 670 f = zI M90 670 f) → RH M3 (pushP P (zI M90 671) c) (pushC c) → (∀ j : Nat, j < 516 → g j = zI M90 672 j) → K (some (zi (g 4))) (zsA M3 671 g) := by
      intro M3 g hf3 h83 hH3 hg3
      have f3 := f90.tr (hf3.mono (fun j z => by unfold SLd; omega))
      have hY3 := hY.fr f3
      have f4 : Fr SLd M3 (zsA M3 671 g) := Fr_A hY3.a1 (by decide) (by decide) (Or.inr (Or.inl rfl))
      have e8 : ∀ f, zI (zsA M3 671 g) 670 f = zI M3 670 f := fun f => congrFun (zI_An M3 g (by decide)) f
      refine hK _ _ (f3.tr f4) ⟨?_, by omega, fun k hk => by omega⟩ ?_ ?_ ⟨?_, ?_⟩ (fun z => absurd hr0 z) (fun _ => ⟨?_, ?_, ?_⟩)
      · rw [e8, h83 6 (by decide)]; exact hk90.2.1
      · rw [e8, h83 0 (by decide)]; exact hk90.1
      · rw [e8, h83 21 (by decide)]; exact hk90.2.2.1
      · rw [e8, h83 12 (by decide)]; exact hk90.2.2.2.1
      · rw [e8, h83 13 (by decide)]; exact hk90.2.2.2.2
      · rw [hg3 4 (by decide)]; exact hg90 4 (by decide)
      · rw [zI_A]
        exact fun j hj => (hg3 j hj).trans (hg90 j hj)
      · rw [← hn90]
        exact hH3.fr hY3 (Fr_A (S := fun j => j = 671) hY3.a1 (by decide) (by decide) rfl) (by decide) (e8 19)
    refine zGoR hΦ [120] 400 (fun hL9 _ hM _ _ => ?_)
    obtain ⟨qL1, _⟩ : zrg 516 ∧ True := hL9
    refine ⟨⟨⟨rfl, rfl⟩, hY90.w.rcv⟩, ⟨P, c, rfl, hY90, hH90, fun M1 hf1 h81 hH1 => (fun qg1 qm2 => zMr (zsA_re (hf1.i (hY90).a1 (by omega))) ((show Φ 120 [some (zo 670), some (zi 0)] [] (zsA M1 671 (zI M90 671)) (0) (0) from ?g399l1)))⟩⟩
    case g399l1 =>
      have hi90 : ∀ j, zI M1 672 j = zI M90 672 j := fun j => congrFun (hf1.i hY90.a2 (by omega)) j
      have hY1 := hY90.fr hf1
      have hA1 := MA.fr hY90 hA90 hf1
      have loop : ∀ i, 0 ≤ i → i ≤ 516 → Φ 120 [some (zo 670), some (zi i)] [] (zsA M1 671 (cpG (zI M90 671) 0 (zI M90 672) 0 i)) 0 0 := by
        refine zdown (n := 516) (P := fun i => Φ 120 [some (zo 670), some (zi i)] [] (zsA M1 671 (cpG (zI M90 671) 0 (zI M90 672) 0 i)) 0 0) (fun i h0 h1 ih => ?_)
        refine zGoR hΦ [120] 400 (fun hL9 _ hM _ _ => ?_)
        obtain ⟨qL1, _⟩ : zrg i ∧ True := hL9
        refine ⟨fun (qc1 : i ≥ 516) => ⟨⟨⟨rfl, rfl⟩, hY1.w.rcv⟩, ⟨rfl, ⟨hY1.w, _, hA1.1, ⟨zixO hA1.2.1 hA1.2.2 (i := 4) (by decide) (by decide), zIr ((zIa _ _ _ _).trans ((cp_in _ _ _ _ _ (by omega)))) (⟨trivial, fun (qg2 : zrg (zI M90 672 4)) _ => ⟨trivial, (show K (some (zi (zI M90 672 4))) (zsA M1 671 (cpG (zI M90 671) 0 (zI M90 672) 0 i)) from ?g400l1)⟩⟩)⟩⟩⟩⟩, fun (qc3 : i < 516) => ⟨hY1.w, _, hY1.r1, ⟨hY1.w, _, hY1.r2, ⟨zixO hY1.a2 hY1.l2 (i := i) (by omega) (by decide), ⟨⟨zixW hY1.a1 hY1.l1 (i := i) (by omega) (by decide), trivial⟩, zMr (zsI_gU _ _ _ i _) (⟨(zrgI (x := i + 1) (by omega)), (show Φ 120 [some (zo 670), some (zi (i + 1))] [] (zsA M1 671 (gU (cpG (zI M90 671) 0 (zI M90 672) 0 i) i (zI M1 672 i.toNat))) (0) (0) from ?g400l2)⟩)⟩⟩⟩⟩⟩
        case g400l1 =>
          have e9 : i = 516 := (by omega)
          subst e9
          have h9 := fin M1 (cpG (zI M90 671) 0 (zI M90 672) 0 516) hf1 h81 hH1 (fun j hj => by rw [cp_in _ _ _ _ _ (by omega)]; congr 1; omega)
          have h8 : cpG (zI M90 671) 0 (zI M90 672) 0 516 4 = zI M90 672 4 := cp_in _ _ _ _ _ (by omega)
          rw [h8] at h9
          exact h9
        case g400l2 =>
          rw [cp_step (n' := i + 1) (by decide) h0 (by omega) rfl (by rw [hi90]; show _ = zI M90 672 (0 + i).toNat; congr 1; omega)]
          exact ih (by omega)
      have h9 := loop 0 (by omega) (by omega)
      rw [cp_0 _ _ _ _ (Int.le_refl 0)] at h9
      exact h9
  have s96 : ∀ (Mb M90 : ZM), Fr S4d M Mb → zI Mb 670 = zI Ma 670 → zI Mb 671 = zI M 671 → MA Mb 671 → RXd (zsR Mb 670 3 (some 672)) M90 → RP M90 B n R.2 → E516 (zI M90 672) R.1 → LY M90 → Φ 96 [some (zo 670), some (zi 516)] [] M90 0 0 := by
    intro Mb M90 fb eb enb hAb hx90 hP90 hg90 hY90
    have hYb := hY.fr fb
    have f5a : Fr S4d M (zsR M90 670 3 (some 671)) := fb.tr (Fr_sw hYb hAb hx90.1)
    have f5 : Fr SLd M (zsR M90 670 3 (some 671)) := f5a.mono (fun j z => by unfold S4d at z; unfold SLd; omega)
    have k5 : ∀ f : Nat, f < 8 ∨ 13 < f → zI M90 670 f = zI Ma 670 f := fun f hf => (hx90.2 f hf).trans (congrFun eb f)
    have en5 : zI M90 671 = zI M 671 := ((hx90.1.i (j := 671) (κ := 20) (show zW Mb 671 20 from hYb.a1) (by unfold S4d; omega))).trans enb
    have kk : zI M90 670 0 = 0 ∧ zI M90 670 6 = 0 ∧ zI M90 670 21 = zI M 670 21 ∧ zI M90 670 12 = R.2.1 ∧ zI M90 670 13 = R.2.2.1 := ⟨(k5 0 (by omega)).trans k0.1, (k5 6 (by omega)).trans k0.2.2.1, (k5 21 (by omega)).trans (ka 21 (by decide) (by decide) (by decide) (by decide) (by decide) (by decide)), hP90.2.1.1, hP90.2.1.2⟩
    have hH5 : RH (zsR M90 670 3 (some 671)) P c := hH.fr hY f5a (by unfold S4d; omega) ((k5 19 (by omega)).trans (ka 19 (by decide) (by decide) (by decide) (by decide) (by decide) (by decide)))
    have hA5 : MA (zsR M90 670 3 (some 671)) 671 := MA.fr hY hA f5
    refine zGoR hΦ [114] 400 (fun hL9 _ hM _ _ => ?_)
    obtain ⟨qL1, _⟩ : zrg 516 ∧ True := hL9
    refine ⟨hY90.w, _, hY90.r1, ⟨hY90.w, ⟨⟨⟨rfl, rfl⟩, hY90.w.rcv⟩, ⟨rfl, ⟨hY90.w, zIr hP90.2.1.1 (⟨fun (qc1 : R.2.1 ≠ 0) => ⟨(Or.inl rfl), fun _ _ => ⟨fun (h : (0 : Int) ≠ 0) => absurd h (by decide), fun _ => ⟨trivial, (show K (some (zi (-4))) (zsR M90 670 3 (some 671)) from ?g401l1)⟩⟩⟩, fun (qc3 : R.2.1 = 0) => ⟨(Or.inr rfl), fun _ _ => ⟨fun _ => (show Φ 114 [some (zo 670), some (zi 516)] [] (zsR M90 670 3 (some 671)) (0) (0) from ?g401l2), fun (h : (1 : Int) = 0) => absurd h (by decide)⟩⟩⟩)⟩⟩⟩⟩⟩
    case g401l1 =>
      first
      | (exfalso; omega)
      | exact hK _ _ f5 ⟨kk.2.1, by omega, fun k hk => by omega⟩ kk.1 kk.2.2.1 kk.2.2.2 (fun _ => ⟨rfl, en5, hH5⟩) (fun z => absurd z (by omega))
    case g401l2 =>
      first
      | exact s114 (by omega) _ f5 hH5 en5 hg90 hA5 kk
      | (exfalso; omega)
  have wst : ∀ (Mb : ZM) (G : Gm) (e : E3) (M90 : ZM), LY (zsR Mb 670 3 (some 672)) → KC (zsR Mb 670 3 (some 672)) → LY M90 → MA M90 672 → RXd (zsR Mb 670 3 (some 672)) M90 → RP M90 B n e → E516 (zI M90 672) G → DI G → ((e.1 ≠ 0 ∨ tkK B n e.2.2 = 3) → Φ 96 [some (zo 670), some (zi 516)] [] M90 0 0) → (e.1 = 0 → tkK B n e.2.2 ≠ 3 → ∀ (M8 : ZM), LY M8 → MA M8 672 → RXd (zsR Mb 670 3 (some 672)) M8 → RP M8 B n (eST B n G e) → E516 (zI M8 672) (gST B n G e) → Φ 75 [some (zo 670), some (zi 516)] [] M8 0 0) → Φ 75 [some (zo 670), some (zi 516)] [] M90 0 0 := by
    intro Mb G e M90 hYm kcm hY90 hA90 hz90 hP90 hg90 hDI hex hnx
    have hkr := tkK_r B n e.2.2
    have hrt := rtk_r (tkK B n e.2.2) ⟨hkr.1, hkr.2.1⟩
    have hG := hDI.1.gi
    have kc90 := kcm.fr hz90.1
    refine zGoR hΦ [75, 96] 400 (fun hL9 _ hM _ _ => ?_)
    obtain ⟨qL1, _⟩ : zrg 516 ∧ True := hL9
    refine ⟨⟨⟨rfl, rfl⟩, hY90.w.rcv⟩, ⟨rfl, ⟨hY90.w, zIr hP90.2.1.1 (⟨fun (qc1 : e.1 ≠ 0) => ⟨(Or.inl rfl), fun _ _ => ⟨fun _ => (show Φ 96 [some (zo 670), some (zi 516)] [] M90 (0) (0) from ?g402l1), fun (h : (0 : Int) ≠ 0) => absurd h (by decide)⟩⟩, fun (qc3 : e.1 = 0) => ⟨(Or.inr rfl), fun _ _ => ⟨fun (h : (1 : Int) = 0) => absurd h (by decide), fun _ => ⟨hY90.w, zIr hP90.2.2.1.2.2.1 (⟨fun (qc5 : rtk (tkK B n e.2.2) = 0) => (show Φ 96 [some (zo 670), some (zi 516)] [] M90 (0) (0) from ?g402l2), fun (qc6 : rtk (tkK B n e.2.2) ≠ 0) => ⟨⟨⟨rfl, rfl⟩, hY90.w.rcv⟩, ⟨B, n, G, e, rfl, hY90, hP90, hA90, hg90, hG, kc90, hDI, fun M1 hx1 hP1 hg1 => (have hY1 := LY.fr hY90 hx1.1; have hz1 := hz90.tr hx1; have hA1 := MA.fr hY90 hA90 hx1.1; fun qg7 qm8 => (show Φ 75 [some (zo 670), some (zi 516)] [] M1 (0) (0) from ?g402l3))⟩⟩⟩)⟩⟩⟩⟩)⟩⟩⟩
    case g402l1 =>
      exact hex (by omega)
    case g402l2 =>
      exact hex (by omega)
    case g402l3 =>
      exact hnx (by omega) (by omega) _ hY1 hA1 hz1 hP1 hg1
  have s75 : ∀ (Mb : ZM), Fr S4d M Mb → zI Mb 670 = zI Ma 670 → zI Mb 671 = zI M 671 → MA Mb 671 → LY (zsR Mb 670 3 (some 672)) → KC (zsR Mb 670 3 (some 672)) → ∀ (f : Nat) (G : Gm) (e : E3) (M90 : ZM), LY M90 → MA M90 672 → RXd (zsR Mb 670 3 (some 672)) M90 → RP M90 B n e → E516 (zI M90 672) G → DI G → (e.1 = 0 → n - e.2.2 < (f : Int)) → eLP B n f (G, e) = R → Φ 75 [some (zo 670), some (zi 516)] [] M90 0 0 := by
    intro Mb fb eb enb hAb hYm kcm f
    induction f with
    | zero =>
      intro G e M90 hY90 hA90 hz90 hP90 hg90 hDI hms hlp
      have hok := hP90.2.2.2
      unfold eOK at hok
      have hlp0 : (G, e) = R := hlp
      refine wst Mb G e M90 hYm kcm hY90 hA90 hz90 hP90 hg90 hDI (fun _ => s96 Mb M90 fb eb enb hAb hz90 (by rw [← hlp0]; exact hP90) (by rw [← hlp0]; exact hg90) hY90) (fun q0 _ => ?_)
      have := hms q0
      omega
    | succ f ih =>
      intro G e M90 hY90 hA90 hz90 hP90 hg90 hDI hms hlp
      have hok := hP90.2.2.2
      refine wst Mb G e M90 hYm kcm hY90 hA90 hz90 hP90 hg90 hDI (fun q => ?_) (fun q0 q3 M8 hY8 hA8 hz8 hP8 hg8 => ?_)
      · rw [eLP_b q] at hlp
        exact s96 Mb M90 fb eb enb hAb hz90 (by rw [← hlp]; exact hP90) (by rw [← hlp]; exact hg90) hY90
      · rw [eLP_s q0 q3] at hlp
        refine ih _ _ M8 hY8 hA8 hz8 hP8 hg8 (DI_st hDI hok) (fun z => ?_) hlp
        have h1 := eST_lt hok z
        have h2 := hms q0
        omega
  have s63 : ∀ g : Gm, (∀ k : Nat, k < 516 → g k = 0) → Φ 63 [some (zo 670), some (zi 516)] [] (zsR (zsA Ma 672 g) 670 3 (some 672)) 0 0 := by
    intro g hg0
    have fg : Fr S4d Ma (zsA Ma 672 g) := Fr_A hYa.a2 (by decide) (by decide) (Or.inr rfl)
    have fb := fa.tr fg
    have hYb := hY.fr fb
    have eb : zI (zsA Ma 672 g) 670 = zI Ma 670 := zI_An _ _ (by decide)
    have enb : zI (zsA Ma 672 g) 671 = zI M 671 := (zI_An _ _ (by decide)).trans ena
    have hAb := MA.fr hY hA fb
    obtain ⟨Mb, hMb⟩ : ∃ Mb, zsA Ma 672 g = Mb := ⟨_, rfl⟩
    have hTb : RTx Mb B n := by
      rw [← hMb]
      refine ⟨(congrFun eb 7).trans k0.2.1, hn0, ?_⟩
      rw [zI_An _ _ (by decide)]
      exact hTa.2.2
    have hgb : E516 (zI Mb 672) gZ := by
      rw [← hMb, zI_A]
      exact hg0
    rw [hMb] at fb hYb eb enb hAb ⊢
    obtain ⟨M90, hM90⟩ : ∃ M90, zsR Mb 670 3 (some 672) = M90 := ⟨_, rfl⟩
    have hY90 : LY M90 := by
      rw [← hM90]
      obtain ⟨y1, y2, y3, y4, y5, y6, y7, y8, y9, y10, y11, y12, y13, y14, y15, y16, y17, y18, y19, y20, y21, y22, y23, y24, y25, y26, y27, y28, y29, y30, y31⟩ := hYb
      have ux : ∀ k, k ≠ 3 → zR (zsR Mb 670 3 (some 672)) 670 k = zR Mb 670 k := fun k q => up2_m _ _ _ _ _ q
      exact ⟨y1, (ux 1 (by decide)).trans y2, y3, y4, (ux 2 (by decide)).trans y5, y6, y7, (ux 4 (by decide)).trans y8, y9, y10, (ux 5 (by decide)).trans y11, y12, y13, (ux 14 (by decide)).trans y14, y15, y16, (ux 15 (by decide)).trans y17, y18, y19, (ux 16 (by decide)).trans y20, y21, y22, (ux 17 (by decide)).trans y23, y24, y25, (ux 18 (by decide)).trans y26, y27, y28, (ux 20 (by decide)).trans y29, y30, y31⟩
    have kc90 : KC M90 := by
      rw [← hM90]
      exact KC_sw (kc.fr fb) hYb.w.1
    have hA90 : MA M90 672 := by
      rw [← hM90]
      exact ⟨rfl, hYb.a2, hYb.l2⟩
    have hT90 : RTx M90 B n := by rw [← hM90]; exact hTb
    have hg90 : E516 (zI M90 672) gZ := by rw [← hM90]; exact hgb
    have q90 : zI M90 670 8 = 0 ∧ zI M90 670 12 = 0 ∧ zI M90 670 13 = -1 := by
      rw [← hM90]
      show zI Mb 670 8 = 0 ∧ zI Mb 670 12 = 0 ∧ zI Mb 670 13 = -1
      rw [eb]
      exact ⟨k0.2.2.2.1, k0.2.2.2.2.1, k0.2.2.2.2.2⟩
    have hz9a : RXd M90 M90 := RXd.rf
    have hG := GI_Z
    rw [hM90]
    refine zGoR hΦ [75] 400 (fun hL9 _ hM _ _ => ?_)
    obtain ⟨qL1, _⟩ : zrg 516 ∧ True := hL9
    refine ⟨⟨⟨rfl, rfl⟩, hY90.w.rcv⟩, ⟨B, n, 0, rfl, hY90, hT90, q90.1, (by omega), fun M1 hx1 h121 hk1 => (have hY1 := LY.fr hY90 hx1.1; have hP1 := RP.sc hT90 hY90 hn0.1 hx1 h121 hk1 q90.2.1 q90.2.2; have hz1 := RXd.tr hz9a hx1.d; have hg1 := E516.of (hx1.1.i hY90.a2 (by unfold S48; omega)) hg90; have hA1 := MA.fr hY90 hA90 hx1.1; fun qg1 qm2 => ⟨⟨⟨rfl, rfl⟩, hY1.w.rcv⟩, ⟨B, n, gZ, ((0, -1, tkS B n 0) : E3), rfl, hY1, hP1, hA1, hg1, hG, (kc90.fr hz1.1), fun M2 hx2 hP2 hg2 => (have hY2 := LY.fr hY1 hx2.1; have hz2 := hz1.tr hx2; have hA2 := MA.fr hY1 hA1 hx2.1; fun qg3 qm4 => ⟨⟨⟨rfl, rfl⟩, hY2.w.rcv⟩, ⟨B, n, (ePT B n ((0, -1, tkS B n 0) : E3)), rfl, hY2, hP2, fun M3 hx3 hP3 => (have hY3 := LY.fr hY2 hx3.1; have hz3 := hz2.tr hx3.d; have hg3 := E516.of (hx3.1.i hY2.a2 (by unfold S48; omega)) hg2; have hA3 := MA.fr hY2 hA2 hx3.1; fun qg5 qm6 => (show Φ 75 [some (zo 670), some (zi 516)] [] M3 (0) (0) from ?g403l1))⟩⟩)⟩⟩)⟩⟩
    case g403l1 =>
      have hzz := hz3
      have hYm := hY90
      have kcm := kc90
      rw [← hM90] at hzz hYm kcm
      exact s75 Mb fb eb enb hAb hYm kcm 501 _ _ _ hY3 hA3 hzz hP3 hg3 DI_pt (fun _ => by have h9 := hP3.2.2.2; unfold eOK at h9; omega) (by rw [← hR]; rfl)
  have lo35 : ∀ i, 0 ≤ i → i ≤ 516 → ∀ g : Gm, (∀ k : Nat, (k : Int) < i → g k = 0) → Φ 35 [some (zo 670), some (zi i)] [] (zsA Ma 672 g) 0 0 := by
    refine zdown (n := 516) (P := fun i => ∀ g : Gm, (∀ k : Nat, (k : Int) < i → g k = 0) → Φ 35 [some (zo 670), some (zi i)] [] (zsA Ma 672 g) 0 0) (fun i h0 h1 ih g hg => ?_)
    refine zGoR hΦ [35, 63] 400 (fun hL9 _ hM _ _ => ?_)
    obtain ⟨qL1, _⟩ : zrg i ∧ True := hL9
    refine ⟨fun (qc1 : i ≥ 516) => ⟨hYa.w, _, hYa.r2, ⟨hYa.w, (show Φ 63 [some (zo 670), some (zi i)] [] (zsR (zsA Ma 672 g) 670 3 (some 672)) (0) (0) from ?g404l1)⟩⟩, fun (qc2 : i < 516) => ⟨hYa.w, _, hYa.r2, ⟨⟨zixW hYa.a2 hYa.l2 (i := i) (by omega) (by decide), trivial⟩, ⟨(zrgI (x := i + 1) (by omega)), (show Φ 35 [some (zo 670), some (zi (i + 1))] [] (zsI (zsA Ma 672 g) 672 i.toNat 0) (0) (0) from ?g404l2)⟩⟩⟩⟩
    case g404l1 =>
      have e9 : i = 516 := (by omega)
      subst e9
      exact s63 g (fun k hk => hg k (by omega))
    case g404l2 =>
      rw [zsI_gU]
      refine ih (by omega) _ (fun k hk => ?_)
      rw [gU_if]
      split
      · rfl
      · exact hg k (by omega)
  refine zGoR hΦ [35] 400 (fun hL9 _ hM _ _ => ?_)
  obtain ⟨_⟩ : True := hL9
  refine ⟨⟨hY.w, trivial⟩, ⟨hY.w, zIr hn6 (⟨⟨hY.w, trivial⟩, ⟨⟨hY.w, trivial⟩, ⟨⟨hY.w, trivial⟩, ⟨⟨hY.w, trivial⟩, ⟨⟨hY.w, trivial⟩, (show Φ 35 [some (zo 670), some (zi 0)] [] (zsI (zsI (zsI (zsI (zsI (zsI M 670 0 0) 670 7 n) 670 6 0) 670 8 0) 670 12 0) 670 13 (-1)) (0) (0) from ?g405l1)⟩⟩⟩⟩⟩)⟩⟩
  case g405l1 =>
    rw [hMa]
    have h9 := lo35 0 (by omega) (by omega) (zI Ma 672) (fun k hk => by omega)
    rw [zsA_self] at h9
    exact h9
theorem M_X9_load {l : Launch} (hl : l.stackTraces = false) : zMet l yX9_load (Cond.code yX9_load cX9_load 2 (Option.some Jvm.ClassFile.FieldType.int) :: zG) rm_X9_load 0 0 T_X9_load := met_X9_load hl (M_X9_scan hl) (M_X9_parseTable hl) (M_X9_semicolon hl) (M_X9_good hl) (M_X9_parseStatement hl) (M_X9_remember hl) (M_X9_workers hl) bd_X9_load
