def gz3 (a : Gm) : Gm := fun k => if k < 3 then a k else 0
theorem gz3_0 {a : Gm} {k : Nat} (h : 3 ≤ k) : gz3 a k = 0 := if_neg (by omega)
theorem GI_z3 {a : Gm} : GI (gz3 a) := ⟨by rw [gz3_0 (by decide)]; decide, by rw [gz3_0 (by decide)]; decide, fun r r0 r1 => by
  rw [gz3_0 (by decide)] at r1
  omega⟩
theorem gPT_z3 {a : Gm} {B : Gm} {n : Int} {e : E3} : gPT B n (gz3 a) e = gPT B n gZ e := by
  unfold gPT
  funext j
  simp only [gU_if]
  by_cases h2 : j = (2 : Int).toNat
  · rw [if_pos h2, if_pos h2]
  · rw [if_neg h2, if_neg h2]
    by_cases h1 : j = (1 : Int).toNat
    · rw [if_pos h1, if_pos h1]
    · rw [if_neg h1, if_neg h1]
      by_cases h0 : j = (0 : Int).toNat
      · rw [if_pos h0, if_pos h0]
      · rw [if_neg h0, if_neg h0]
        have e0 : (0 : Int).toNat = 0 := rfl
        have e1 : (1 : Int).toNat = 1 := rfl
        have e2 : (2 : Int).toNat = 2 := rfl
        exact gz3_0 (by omega)
theorem TR_z3 {M : ZM} {t : Nat} (hd : zI M t 3 = 0 ∧ zI M t 4 = 0 ∧ zI M t 5 = 0) (hg : ∀ k : Nat, k < 36 → zI M (t + 3) k = 0 ∧ zI M (t + 4) k = 0) : TR M t (gz3 (zI M t)) := by
  refine ⟨⟨⟨rfl, rfl, rfl, hd.1, hd.2.1, hd.2.2⟩, fun w w0 w1 => ?_, fun r r0 r1 => ?_, fun a b a0 a1 b0 b1 => ?_⟩, fun w w0 w1 => ?_⟩
  · rw [gz3_0 (by decide)] at w1; omega
  · rw [gz3_0 (by decide)] at r1; omega
  · have h1 : 0 ≤ 6 * a + b := by omega
    have h3 := hg (fPix a b).toNat (by unfold fPix; split <;> omega)
    rw [h3.1, h3.2]
    rw [gz3_0 (by omega), gz3_0 (by omega)]
    first
    | exact ⟨rfl, rfl⟩
    | simp
  · rw [gz3_0 (by decide)] at w1; omega
def T_X3_parseText : ZTf := fun av M K KX => ∃ (B : Gm) (n : Int), av = [zo 65] ∧ (LV M) ∧ (CIn M B n) ∧ (KC M) ∧ (OX M) ∧ (∀ M' : ZM, Fr S5e M M' → PE M' B n (prs B n).2 → CIn M' B n → ((prs B n).2.1 = 0 → TR M' 70 (prs B n).1) → K (some (zi (b2i (decide ((prs B n).2.1 = 0))))) M')
set_option maxRecDepth 100000 in
set_option maxHeartbeats 1500000 in
theorem bd_X3_parseText : zBd (cd_X3_parseText T_X5_clear T_X3_nextToken T_X3_readTableStatement T_X3_readStatement) 2 508 3810 T_X3_parseText := by
  rintro av M K KX hA0 hM ⟨B, n, rfl, hL, hI, kc, hOX, hK⟩
  have hn5 := hI.2.1
  obtain ⟨R, hR⟩ : ∃ R, prs B n = R := ⟨_, rfl⟩
  rw [hR] at hK
  refine ⟨rfl, fun Φ hΦ => ?_⟩
  have wst : ∀ (G : Gm) (e : E3) (i : Int) (k m : Nat) (M90 : ZM), e.1 = 0 → Fr S5e M M90 → PE M90 B n e → TR M90 70 G → CIn M90 B n → DI G → (0 ≤ i ∧ 4 * i ≤ e.2.2) → (k : Int) = 4 * i → (m : Int) = 30 * i → (tkK B n e.2.2 = 3 → K (some (zi 1)) M90) → (tkK B n e.2.2 ≠ 3 → ∀ (M8 : ZM), Fr S5e M M8 → PE M8 B n (eST B n G e) → CIn M8 B n → ((eST B n G e).1 = 0 → TR M8 70 (gST B n G e)) → ((eST B n G e).1 = 0 → Φ 37 [some (zo 65), some (zi (i + 1))] [] M8 (k + 4) (m + 30)) ∧ ((eST B n G e).1 ≠ 0 → K (some (zi 0)) M8)) → Φ 37 [some (zo 65), some (zi i)] [] M90 k m := by
    intro G e i k m M90 h90 hz90 hP90 hT90 hI90 hDI hi hk hm hex hnx
    have hok := hP90.2.2
    have hkr := tkK_r B n e.2.2
    unfold eOK at hok
    have hL90 := hL.fr hz90
    refine zGoR hΦ [37] 400 (fun hL9 _ hM _ _ => ?_)
    obtain ⟨qL1, _⟩ : zrg i ∧ True := hL9
    refine ⟨fun (qc1 : i ≥ 500) => ⟨(Or.inr rfl), (show K (some (zi 1)) M90 from ?g439l1)⟩, fun (qc2 : i < 500) => ⟨hL90.wP, zIr (hP90.1.1) (⟨fun (qc3 : tkK B n e.2.2 = 3) => ⟨(Or.inr rfl), (show K (some (zi 1)) M90 from ?g439l2)⟩, fun (qc4 : tkK B n e.2.2 ≠ 3) => ⟨⟨(by omega), (by omega)⟩, ⟨⟨rfl, rfl⟩, hL90.wP.rcv⟩, ⟨B, n, G, e, rfl, hL90, hI90, hP90, h90, (kc.fr hz90), hT90, hDI, (hOX.fr hz90 (by unfold S5e; omega)), fun M1 hf1 hP1 hI1 hT1 => (have hz1 := hz90.tr hf1; fun (qg5 : zrg (b2i (decide ((eST B n G e).1 = 0)))) qm6 => ⟨fun h => (have qc7 : (eST B n G e).1 = 0 := of_decide_eq_true (b2i_n0 h); ⟨(zrgI (x := i + 1) (by omega)), (show Φ 37 [some (zo 65), some (zi (i + 1))] [] M1 (k + 4) (m + 30) from ?g439l3)⟩), fun h => (have qc8 : (eST B n G e).1 ≠ 0 := of_decide_eq_false (b2i_e0 h); ⟨(Or.inl rfl), (show K (some (zi 0)) M1 from ?g439l4)⟩)⟩)⟩⟩⟩)⟩⟩
    case g439l1 =>
      first
      | (exfalso; omega)
      | exact hex (by omega)
      | exact (hnx (by omega) _ hz1 hP1 hI1 hT1).2 (by omega)
    case g439l2 =>
      first
      | (exfalso; omega)
      | exact hex (by omega)
      | exact (hnx (by omega) _ hz1 hP1 hI1 hT1).2 (by omega)
    case g439l3 =>
      exact (hnx (by omega) _ hz1 hP1 hI1 hT1).1 (by omega)
    case g439l4 =>
      first
      | (exfalso; omega)
      | exact hex (by omega)
      | exact (hnx (by omega) _ hz1 hP1 hI1 hT1).2 (by omega)
  have s37 : ∀ (f : Nat) (G : Gm) (e : E3) (i : Int) (k m : Nat) (M90 : ZM), e.1 = 0 → Fr S5e M M90 → PE M90 B n e → TR M90 70 G → CIn M90 B n → DI G → (0 ≤ i ∧ 4 * i ≤ e.2.2) → (k : Int) = 4 * i → (m : Int) = 30 * i → n - e.2.2 < (f : Int) → eLP B n f (G, e) = R → Φ 37 [some (zo 65), some (zi i)] [] M90 k m := by
    intro f
    induction f with
    | zero =>
      intro G e i k m M90 h90 hz90 hP90 hT90 hI90 hDI hi hk hm hms hlp
      have hok := hP90.2.2
      unfold eOK at hok
      omega
    | succ f ih =>
      intro G e i k m M90 h90 hz90 hP90 hT90 hI90 hDI hi hk hm hms hlp
      have hok := hP90.2.2
      refine wst G e i k m M90 h90 hz90 hP90 hT90 hI90 hDI hi hk hm (fun q => ?_) (fun q3 M8 hz8 hP8 hI8 hT8 => ?_)
      · rw [eLP_b (Or.inr q)] at hlp
        have h9 := hK M90 hz90 (by rw [← hlp]; exact hP90) hI90 (fun _ => by rw [← hlp]; exact hT90)
        rw [← hlp, decide_eq_true (show (G, e).2.1 = 0 from h90)] at h9
        exact h9
      · rw [eLP_s h90 q3] at hlp
        refine ⟨fun q => ?_, fun q => ?_⟩
        · have h1 := eST_lt hok q
          exact ih _ _ (i + 1) (k + 4) (m + 30) M8 q hz8 hP8 (hT8 q) hI8 (DI_st hDI hok) (by omega) (by omega) (by omega) (by omega) hlp
        · rw [eLP_b (Or.inl q)] at hlp
          have h9 := hK M8 hz8 (by rw [← hlp]; exact hP8) hI8 (fun z => by rw [← hlp] at z; exact absurd z q)
          rw [← hlp, decide_eq_false (show ¬ (gST B n G e, eST B n G e).2.1 = 0 from q)] at h9
          exact h9
  have s15 : ∀ M90 : ZM, Fr S5e M M90 → CIn M90 B n → (zI M90 65 0 = 0 ∧ zI M90 65 1 = -1 ∧ zI M90 65 6 = 0) → Φ 15 [some (zo 65), none] [] M90 0 0 := by
    intro M90 hz90 hI90 q90
    have hL90 := hL.fr hz90
    refine zGoR hΦ [37] 400 (fun hL9 _ hM _ _ => ?_)
    obtain ⟨_⟩ : True := hL9
    refine ⟨hL90.wP, _, hL90.p3, ⟨⟨⟨rfl, rfl⟩, hL90.draft.w.rcv⟩, ⟨70, rfl, hL90.draft, fun M1 hf1 hd1 he1 hg1 hh1 hr1 => (have hL1 := hL90.fr hf1; have hI1 := hI90.fr hL90 hf1 (by unfold STb; omega) (by unfold STb; omega); have hz1 := hz90.tr hf1.t5e; have hT1 := TR_z3 hd1 hg1; have k51 := congrFun (hf1.i hL90.wP (by unfold STb; omega)); fun qg1 qm2 => ⟨⟨⟨rfl, rfl⟩, hL1.wP.rcv⟩, ⟨B, n, 0, rfl, hL1, hI1, ((k51 6).trans q90.2.2), (by omega), fun M2 hf2 h02 hk2 => (have hP2 : PE M2 B n ((0, -1, tkS B n 0) : E3) := ⟨hk2, ⟨(h02 0 (by omega)).trans ((k51 0).trans q90.1), (h02 1 (by omega)).trans ((k51 1).trans q90.2.1)⟩, tkS_r B hn5.1⟩; have hL2 := hL1.fr hf2; have hI2 := hI1.f5 hL1 hf2; have hz2 := hz1.tr hf2.d5e; have hT2 := hT1.fr9 hL1.draft hf2 GI_z3 (fun j j0 j1 => by unfold S65; omega); fun qg3 qm4 => ⟨⟨⟨rfl, rfl⟩, hL2.wP.rcv⟩, ⟨B, n, (gz3 (zI M1 70)), ((0, -1, tkS B n 0) : E3), rfl, hL2, hI2, hP2, (rfl), (kc.fr hz2), hT2, GI_z3, fun M3 hf3 hP3 hT3 => (have hz3 := hz2.tr hf3.e5; have hI3 := hI2.fr hL2 hf3 (by unfold S5d; omega) (by unfold S5d; omega); have hT3a := fun q => (gPT_z3 ▸ hT3 q : TR M3 70 (gPT B n gZ ((0, -1, tkS B n 0) : E3))); fun (qg5 : zrg (b2i (decide ((eSemi B n (ePT B n ((0, -1, tkS B n 0) : E3))).1 = 0)))) qm6 => ⟨fun h => (have qc7 : (eSemi B n (ePT B n ((0, -1, tkS B n 0) : E3))).1 = 0 := of_decide_eq_true (b2i_n0 h); (show Φ 37 [some (zo 65), some (zi 0)] [] M3 (0) (0) from ?g440l1)), fun h => (have qc8 : (eSemi B n (ePT B n ((0, -1, tkS B n 0) : E3))).1 ≠ 0 := of_decide_eq_false (b2i_e0 h); ⟨(Or.inl rfl), (show K (some (zi 0)) M3 from ?g440l2)⟩)⟩)⟩⟩)⟩⟩)⟩⟩⟩
    case g440l1 =>
      have q9 : (eSemi B n (ePT B n ((0, -1, tkS B n 0) : E3))).1 = 0 := by omega
      have hok := hP3.2.2
      unfold eOK at hok
      exact s37 501 _ _ 0 0 0 _ q9 hz3 hP3 (hT3a q9) hI3 DI_pt (by omega) rfl rfl (by omega) (by rw [← hR]; rfl)
    case g440l2 =>
      have q9 : (eSemi B n (ePT B n ((0, -1, tkS B n 0) : E3))).1 ≠ 0 := by omega
      have hlp : R = (gPT B n gZ ((0, -1, tkS B n 0) : E3), eSemi B n (ePT B n ((0, -1, tkS B n 0) : E3))) := by
        rw [← hR]
        exact eLP_b (Or.inl q9)
      have h9 := hK _ hz3 (by rw [hlp]; exact hP3) hI3 (fun z => by rw [hlp] at z; exact absurd z q9)
      rw [hlp, decide_eq_false (show ¬ (gPT B n gZ ((0, -1, tkS B n 0) : E3), eSemi B n (ePT B n ((0, -1, tkS B n 0) : E3))).2.1 = 0 from q9)] at h9
      exact h9
  refine zGoR hΦ [15] 400 (fun hL9 _ hM _ _ => ?_)
  obtain ⟨_⟩ : True := hL9
  refine ⟨⟨hL.wP, trivial⟩, ⟨⟨hL.wP, trivial⟩, ⟨⟨hL.wP, trivial⟩, (show Φ 15 [some (zo 65), none] [] (zsI (zsI (zsI M 65 0 0) 65 1 (-1)) 65 6 0) (0) (0) from ?g441l1)⟩⟩⟩
  case g441l1 =>
    have z1 : Fr S5e M (zsI M 65 0 0) := (Fr5 hL).d5e
    have z2 : Fr S5e (zsI M 65 0 0) (zsI (zsI M 65 0 0) 65 1 (-1)) := (Fr5 (hL.fr z1)).d5e
    have z3 : Fr S5e (zsI (zsI M 65 0 0) 65 1 (-1)) (zsI (zsI (zsI M 65 0 0) 65 1 (-1)) 65 6 0) := (Fr5 ((hL.fr z1).fr z2)).d5e
    refine s15 _ ((z1.tr z2).tr z3) (CIn.p (CIn.p (CIn.p hI))) ⟨?_, ?_, ?_⟩ <;> simp (disch := omega) only [zIs, zIm, zIn, zIrf]
theorem M_X3_parseText {l : Launch} (hl : l.stackTraces = false) : zMet l yX3_parseText (Cond.code yX3_parseText cX3_parseText 2 (Option.some Jvm.ClassFile.FieldType.boolean) :: zG) rm_X3_parseText 508 3810 T_X3_parseText := met_X3_parseText hl (M_X5_clear hl) (M_X3_nextToken hl) (M_X3_readTableStatement hl) (M_X3_readStatement hl) bd_X3_parseText
