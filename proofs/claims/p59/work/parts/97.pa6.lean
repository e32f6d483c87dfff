theorem fInWork_no {G : Gm} {w : Int} (hG : GI G) (hX : GX G) (hw : G 4 ≤ w) : fInWork G w = 0 := by
  unfold fInWork
  have key : ∀ n, 0 ≤ n → n ≤ G 5 → cntI (fun r => fWorksAt G w r) n = 0 := by
    refine zup (n := G 5) (fun n => cntI (fun r => fWorksAt G w r) n = 0) rfl (fun n n0 n1 ih => ?_)
    rw [cntI_s n0, if_neg, ih]
    have hm := (hG.2.2 n n0 n1).2.1.1
    have h9 : fTakingOf G w n = -1 := by
      unfold fTakingOf
      rcases fndI_r (fun k => decide ((G (132 + 16 * n + (7 + 3 * k + 0)).toNat) = w)) hm with z | z
      · exact z.1
      · have h8 := of_decide_eq_true z.2.2.1
        have h7 := ((hX.1 n n0 n1).1 _ z.1 z.2.1).1
        omega
    show ¬ fWorksAt G w n = true
    unfold fWorksAt
    rw [if_pos h9]
    exact Bool.false_ne_true
  exact key _ hG.2.1.1 (Int.le_refl _)
theorem putw_ok {M M1 : ZM} {t s : Nat} {G : Gm} {l : List Int} {tm qo tr : Int} (h : TR M t G) (hX : LTab M t) (hG : GI G) (hGX : GX G) (hZ : DZ G) (h6 : 0 ≤ G 4 ∧ G 4 < 6) (hs : zTx M s l) (hn : nmOK l) (h64 : 64 ≤ s) (hf : Fr (fun q => q = t + 5 + (G 4).toNat) M M1) (hd : zR M1 (t + 5 + (G 4).toNat) 0 = some s) (he : zI M1 (t + 5 + (G 4).toNat) 1 = tm ∧ zI M1 (t + 5 + (G 4).toNat) 2 = qo ∧ zI M1 (t + 5 + (G 4).toNat) 3 = tr) (hg : ∀ k : Nat, 4 ≤ k → k ≤ 9 → zI M1 (t + 5 + (G 4).toNat) k = 0) : TR (zsI M1 t 4 (G 4 + 1)) t (F_wk G (nmv l) tm qo tr) := by
  have hT1 : ∀ x κ, zW M x κ → x ≠ t + 5 + (G 4).toNat → zI M1 x = zI M x ∧ zR M1 x = zR M x := fun x κ hw q => ⟨hf.i hw q, hf.rr hw q⟩
  obtain ⟨h4, h5, hR⟩ := id hG
  -- a memory that is M but for the two cells
  have e4 := F_wk_4 (G := G) (nm := nmv l) (tm := tm) (qo := qo) (tr := tr)
  obtain ⟨c0, c1, c2, c3⟩ := F_wk_c (nm := nmv l) (tm := tm) (qo := qo) (tr := tr) h4.1
  have e : ∀ {k : Nat}, k ≠ 4 → (k : Int) < 6 + 9 * G 4 ∨ 6 + 9 * G 4 + 4 ≤ (k : Int) → F_wk G (nmv l) tm qo tr k = G k := fun a b => F_wk_n h4.1 a b
  have e5 : F_wk G (nmv l) tm qo tr 5 = G 5 := e (by decide) (by omega)
  have hw1 : zW M1 t 8 := hX.w.fr hf
  have hzz : ∀ s l, zTx M s l → zTx (zsI M1 t 4 (G 4 + 1)) s l := fun s l z => zTx_I hw1 (by decide) (by decide) (hf.2.2 s l z)
  have iI : ∀ x κ, zW M x κ → x ≠ t → x ≠ t + 5 + (G 4).toNat → zI (zsI M1 t 4 (G 4 + 1)) x = zI M x := fun x κ hw q z => by rw [zI_In _ _ _ q]; exact (hT1 x κ hw z).1
  have iT : ∀ k, k ≠ 4 → zI (zsI M1 t 4 (G 4 + 1)) t k = zI M t k := fun k q => by rw [zI_Im _ _ _ q, (hT1 t 8 hX.w (by omega)).1]
  have iN : ∀ k, zI (zsI M1 t 4 (G 4 + 1)) (t + 5 + (G 4).toNat) k = zI M1 (t + 5 + (G 4).toNat) k := fun k => by rw [zI_In _ _ _ (by omega)]
  refine h.step (by rw [e4]; omega) (fun k hk => ?_) (fun w w0 w1 => ?_) (fun w w0 w1 => ?_) (fun w w0 w1 => ?_) (fun r r0 r1 => ?_) (fun a b a0 a1 b0 b1 => ?_)
  · by_cases q : k = 4
    · subst q
      rw [zI_Is, e4]
    · rw [iT k q, e q (by omega)]
      exact (TR_iff.mp h).1.1 k hk
  · rw [e4] at w1
    by_cases q : w = G 4
    · refine Or.inr ?_
      subst q
      unfold WRc
      rw [c1, c2, c3, e (k := (6 + 9 * G 4 + 4).toNat) (by omega) (by omega), e (k := (6 + 9 * G 4 + 5).toNat) (by omega) (by omega), e (k := (6 + 9 * G 4 + 6).toNat) (by omega) (by omega), e (k := (6 + 9 * G 4 + 7).toNat) (by omega) (by omega), e (k := (6 + 9 * G 4 + 8).toNat) (by omega) (by omega)]
      rw [hZ.1 (G 4) 4 (Int.le_refl _) h6.2 (by decide) (by decide), hZ.1 (G 4) 5 (Int.le_refl _) h6.2 (by decide) (by decide), hZ.1 (G 4) 6 (Int.le_refl _) h6.2 (by decide) (by decide), hZ.1 (G 4) 7 (Int.le_refl _) h6.2 (by decide) (by decide), hZ.1 (G 4) 8 (Int.le_refl _) h6.2 (by decide) (by decide)]
      simp only [iN]
      exact ⟨he.1, he.2.1, he.2.2, hg 5 (by decide) (by decide), hg 6 (by decide) (by decide), hg 7 (by decide) (by decide), hg 8 (by decide) (by decide), hg 9 (by decide) (by decide)⟩
    · exact Or.inl ⟨by omega, iI _ _ (hX.wk (i := w) w0 (by omega)).2 (by omega) (by omega), fun n n0 n1 => e (by omega) (by omega)⟩
  · rw [e4] at w1
    by_cases q : w = G 4
    · subst q
      exact ⟨s, l, hd, hzz _ _ hs, ⟨hn, h64⟩, c0.symm⟩
    · obtain ⟨s', l', a1, a2, a3, a4⟩ := h.wn w0 (show w < G 4 by omega)
      refine ⟨s', l', ?_, hzz _ _ a2, a3, by rw [e (by omega) (by omega)]; exact a4⟩
      show zR M1 (t + 5 + w.toNat) 0 = some s'
      rw [(hT1 _ _ (hX.wk (i := w) w0 (by omega)).2 (by omega)).2]
      exact a1
  · rw [e4] at w1
    rw [fInWork_cg hG e5 (fun q q0 q1 j j0 j1 => e (by omega) (by omega))]
    by_cases q : w = G 4
    · subst q
      rw [iN, hg 4 (by decide) (by decide), fInWork_no hG hGX (Int.le_refl _)]
    · rw [iI _ _ (hX.wk (i := w) w0 (by omega)).2 (by omega) (by omega)]
      exact h.w4 w0 (by omega)
  · rw [e5] at r1
    have hro := (hX.row (i := r) r0 (by omega)).2
    refine Or.inl ⟨r1, hG.2.2 r r0 r1, fun p hp => ?_, fun n n0 n1 => e (by omega) (by omega)⟩
    have hp4 : p = 0 ∨ p = 1 := by omega
    rcases hp4 with z | z <;> subst z
    · exact iI _ _ hro.w (by omega) (by omega)
    · exact iI _ _ hro.a9 (by omega) (by omega)
  · rw [iI _ _ hX.aTst (by omega) (by omega), iI _ _ hX.aTtold (by omega) (by omega), e (by omega) (by omega), e (by omega) (by omega)]
    exact ⟨h.st a0 a1 b0 b1, h.to a0 a1 b0 b1⟩
def T_X5_putWorker : ZTf := fun av M K KX => ∃ (t s : Nat) (G : Gm) (l : List Int) (tm qo tr : Int), av = [zo t, zo s, zi tm, zi qo, zi tr] ∧ (LTab M t) ∧ (TR M t G) ∧ (GI G) ∧ (GX G) ∧ (DZ G) ∧ (0 ≤ G 4 ∧ G 4 < 6) ∧ (t < 600) ∧ (zTx M s l) ∧ (nmOK l) ∧ (64 ≤ s) ∧  (∀ M' : ZM, (Fr (STb t) M M') → (TR M' t (F_wk G (nmv l) tm qo tr)) → K none M')
set_option maxRecDepth 100000 in
set_option maxHeartbeats 1500000 in
theorem bd_X5_putWorker : zBd (cd_X5_putWorker T_X7_begin) 5 0 0 T_X5_putWorker := by
  rintro av M K KX hA0 hM ⟨t, s, G, l, tm, qo, tr, rfl, hX, hT, hG, hGX, hZ, h6, ht9, hz, hn, h64, hK⟩
  have hXa := hX
  have hTa := hT
  have hwk := (hX.wk (i := G 4) h6.1 h6.2).2
  refine ⟨rfl, fun Φ hΦ => ?_⟩
  refine zGoR hΦ [] 400 (fun hL9 _ hM _ _ => ?_)
  obtain ⟨qL1, qL2, qL3, _⟩ : zrg tm ∧ zrg qo ∧ zrg tr ∧ True := hL9
  refine ⟨hX.w, zIr (hTa.t4) (⟨fun (qc1 : G 4 < 6) => ⟨hX.w, _, hX.r6, ⟨hX.w, zIr (hTa.t4) (⟨zixW hX.aTwk hX.lTwk (i := G 4) (by omega) (by decide), _, (hX.wk (by omega) (by omega)).1, ⟨⟨⟨rfl, rfl⟩, (hX.wk (by omega) (by omega)).2.rcv⟩, ⟨(t + 5 + (G 4).toNat), s, tm, qo, tr, rfl, (hX.wk (i := G 4) h6.1 h6.2).2, (by omega), fun M1 hf1 hd1 he1 hg1 => (have hX1 := hX.fr hf1; fun qg2 qm3 => ⟨rfl, ⟨hX1.w, zIr (((congrFun (hf1.i hXa.w (by omega)) 4).trans hTa.t4)) (⟨(zrgI (x := G 4 + 1) (by omega)), ⟨⟨hX1.w, trivial⟩, (show K none (zsI M1 t 4 (G 4 + 1)) from ?g429l1)⟩⟩)⟩⟩)⟩⟩⟩)⟩⟩, fun (qc4 : G 4 ≥ 6) => (show K none M from ?g429l2)⟩)⟩
  case g429l1 =>
    have f1 : Fr (STb t) M M1 := hf1.mono (fun q z => by unfold STb; omega)
    have hw1 : zW M1 t 8 := hX.w.fr hf1
    have f2 : Fr (STb t) M1 (zsI M1 t 4 (G 4 + 1)) := Fr_I hw1 (by decide) (by decide) (by unfold STb; omega)
    have ei : ∀ j, j ≠ t + 5 + (G 4).toNat → t ≤ j → j < t + 59 → (∃ κ, zW M j κ) → zI M1 j = zI M j := fun j q _ _ hw => by obtain ⟨κ, hw⟩ := hw; exact hf1.i hw (by omega)
    exact hK _ (f1.tr f2) (putw_ok hT hX hG hGX hZ h6 hz hn h64 hf1 hd1 he1 hg1)
  case g429l2 => exfalso; omega
theorem M_X5_putWorker {l : Launch} (hl : l.stackTraces = false) : zMet l yX5_putWorker (Cond.code yX5_putWorker cX5_putWorker 5 (Option.none : Option Jvm.ClassFile.FieldType) :: zG) rm_X5_putWorker 0 0 T_X5_putWorker := met_X5_putWorker hl (M_X7_begin hl) bd_X5_putWorker
