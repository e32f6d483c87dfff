theorem fWorksAt_cg3 {G G' : Gm} {q v : Int} (hR : RI G q) (e : ∀ j : Nat, 132 + 16 * q + 6 ≤ (j : Int) → (j : Int) < 132 + 16 * q + 16 → G' j = G j) : fWorksAt G' v q = fWorksAt G v q := by
  obtain ⟨h0, hm, hk⟩ := hR
  have em : (G' (132 + 16 * q + 6).toNat) = (G (132 + 16 * q + 6).toNat) := e _ (by omega) (by omega)
  have hf : fTakingOf G' v q = fTakingOf G v q := by
    unfold fTakingOf
    rw [em]
    refine fnd_c _ _ (fun k k0 k1 => ?_)
    rw [e _ (by omega) (by omega)]
  have ht := fTakingOf_r G v q hm.1
  unfold fWorksAt
  rw [hf]
  split
  · rfl
  · rw [e _ (by omega) (by omega)]
theorem fInWork_cg {G G' : Gm} {v : Int} (hG : GI G) (e5 : G' 5 = G 5) (e : ∀ q : Int, 0 ≤ q → q < G 5 → ∀ j : Nat, 132 + 16 * q + 6 ≤ (j : Int) → (j : Int) < 132 + 16 * q + 16 → G' j = G j) : fInWork G' v = fInWork G v := by
  unfold fInWork
  rw [e5]
  exact cntI_c (fun q q0 q1 => fWorksAt_cg3 (hG.2.2 q q0 q1) (e q q0 q1))
theorem RI.cg {G G' : Gm} {q : Int} (hR : RI G q) (e : ∀ j : Nat, 132 + 16 * q + 6 ≤ (j : Int) → (j : Int) < 132 + 16 * q + 16 → ((∃ k : Int, 0 ≤ k ∧ k < 3 ∧ j = (132 + 16 * q + (7 + 3 * k + 1)).toNat) ∨ G' j = G j)) : RI G' q := by
  obtain ⟨h0, hm, hk⟩ := hR
  have em : (G' (132 + 16 * q + 6).toNat) = (G (132 + 16 * q + 6).toNat) := by
    rcases e (132 + 16 * q + 6).toNat (by omega) (by omega) with ⟨k, k0, k1, k2⟩ | z
    · omega
    · exact z
  refine ⟨h0, by rw [em]; exact hm, fun k k0 k1 => ?_⟩
  rw [em] at k1
  have ek : (G' (132 + 16 * q + (7 + 3 * k + 0)).toNat) = (G (132 + 16 * q + (7 + 3 * k + 0)).toNat) := by
    rcases e (132 + 16 * q + (7 + 3 * k + 0)).toNat (by omega) (by omega) with ⟨m, m0, m1, m2⟩ | z
    · omega
    · exact z
  rw [ek]
  exact hk k k0 k1
theorem GI.cg {G G' : Gm} (hG : GI G) (e4 : G' 4 = G 4) (e5 : G' 5 = G 5) (e : ∀ q : Int, 0 ≤ q → q < G 5 → ∀ j : Nat, 132 + 16 * q + 6 ≤ (j : Int) → (j : Int) < 132 + 16 * q + 16 → ((∃ k : Int, 0 ≤ k ∧ k < 3 ∧ j = (132 + 16 * q + (7 + 3 * k + 1)).toNat) ∨ G' j = G j)) : GI G' := by
  refine ⟨by rw [e4]; exact hG.1, by rw [e5]; exact hG.2.1, fun q q0 q1 => ?_⟩
  rw [e5] at q1
  exact (hG.2.2 q q0 q1).cg (e q q0 q1)
theorem GI.u {G : Gm} {i v : Int} (hG : GI G) (hi : (6 ≤ i ∧ i < 132) ∨ ∃ r : Int, 0 ≤ r ∧ i = 132 + 16 * r + 1 ∨ i = 132 + 16 * r + 2 ∧ 0 ≤ r) : GI (gU G i v) := by
  refine hG.cg (gU_n _ ?_) (gU_n _ ?_) (fun q q0 q1 j j0 j1 => Or.inr (gU_n _ ?_))
  all_goals rcases hi with z | ⟨r, z⟩ <;> omega
theorem works_set {l : List T3} {k : Nat} {a b : T3} (hk : l[k]? = some a) (hx : XL l) (hb1 : b.1 = a.1) (ha : a.2.1 = -1) (hb : b.2.1 ≠ -1) (v : Int) : works (l.set k b) v = (works l v && decide (v ≠ a.1)) ∧ works l a.1 = true ∧ XL (l.set k b) := by
  have hp := List.pairwise_iff_getElem.mp hx
  have hkl := List.getElem?_eq_some_iff.mp hk
  obtain ⟨hkl, hka⟩ := hkl
  have uniq : ∀ (j : Nat) (x : T3), l[j]? = some x → x.1 = a.1 → j = k := fun j x hj hxa => by
    obtain ⟨hjl, hjx⟩ := List.getElem?_eq_some_iff.mp hj
    by_cases e1 : j < k
    · have := hp j k hjl hkl e1
      rw [hjx, hka] at this
      exact absurd hxa this
    · by_cases e2 : k < j
      · have := hp k j hkl hjl e2
        rw [hjx, hka] at this
        exact absurd hxa.symm this
      · omega
  refine ⟨?_, ?_, ?_⟩
  · by_cases e : v = a.1
    · rw [decide_eq_false (fun z => z e), Bool.and_false]
      refine Bool.eq_false_iff.mpr (fun z => ?_)
      obtain ⟨x, x1, x2⟩ := List.any_eq_true.mp z
      rw [decide_eq_true_eq] at x2
      obtain ⟨j, hj⟩ := List.getElem?_of_mem x1
      rw [List.getElem?_set] at hj
      by_cases q : k = j
      · rw [if_pos q, if_pos hkl] at hj
        rw [← Option.some.inj hj] at x2
        exact hb x2.2
      · rw [if_neg q] at hj
        exact q (uniq j x hj (x2.1.trans e)).symm
    · rw [decide_eq_true e, Bool.and_true]
      have h1 : works (l.set k b) v = true ↔ works l v = true := by
        constructor
        · intro z
          obtain ⟨x, x1, x2⟩ := List.any_eq_true.mp z
          obtain ⟨j, hj⟩ := List.getElem?_of_mem x1
          rw [List.getElem?_set] at hj
          by_cases q : k = j
          · rw [if_pos q, if_pos hkl] at hj
            rw [decide_eq_true_eq, ← Option.some.inj hj] at x2
            exact absurd x2.2 hb
          · rw [if_neg q] at hj
            exact List.any_eq_true.mpr ⟨x, List.mem_of_getElem? hj, x2⟩
        · intro z
          obtain ⟨x, x1, x2⟩ := List.any_eq_true.mp z
          obtain ⟨j, hj⟩ := List.getElem?_of_mem x1
          have q : k ≠ j := fun q => by
            rw [← q, hk] at hj
            rw [decide_eq_true_eq, ← Option.some.inj hj] at x2
            exact e x2.1.symm
          refine List.any_eq_true.mpr ⟨x, List.mem_of_getElem? (i := j) ?_, x2⟩
          rw [List.getElem?_set, if_neg q]
          exact hj
      cases h2 : works l v with
      | true => exact h1.mpr h2
      | false => exact Bool.eq_false_iff.mpr (fun z => by rw [h1.mp z] at h2; cases h2)
  · exact List.any_eq_true.mpr ⟨a, List.mem_of_getElem? hk, decide_eq_true ⟨rfl, ha⟩⟩
  · refine List.pairwise_iff_getElem.mpr (fun i j hi hj hij => ?_)
    rw [List.length_set] at hi hj
    rw [List.getElem_set, List.getElem_set]
    have h9 := hp i j hi hj hij
    by_cases q : k = i
    · rw [if_pos q, if_neg (by omega), hb1, ← hka]
      subst q
      exact h9
    · rw [if_neg q]
      by_cases q2 : k = j
      · rw [if_pos q2, hb1, ← hka]
        subst q2
        exact h9
      · rw [if_neg q2]
        exact h9
theorem DLp.tk {G : Gm} {w r k x : Int} (hG : GI G) (h : DLp G w r k x) : (TK G r)[k.toNat]? = some (w, -1, (G (132 + 16 * r + (7 + 3 * k + 2)).toNat)) ∧ RwT (fDel1 G w r x) r ((TK G r).set k.toNat (w, x, (G (132 + 16 * r + (7 + 3 * k + 2)).toNat))) := by
  obtain ⟨hw, hr, hx, hk, hkm, hkw, hkr⟩ := h
  have hr24 := hG.2.1
  have hw6 := hG.1
  have hRr := hG.2.2 r hr.1 hr.2
  have hl := TK_RwT hRr.2.1.1
  have hm3 := hRr.2.1
  have hkl : k.toNat < (TK G r).length := by have := hl.1; omega
  have h1 : (TK G r)[k.toNat]? = some (w, -1, (G (132 + 16 * r + (7 + 3 * k + 2)).toNat)) := by
    rw [List.getElem?_eq_getElem hkl]
    have h9 := hl.2 k.toNat _ (List.getElem?_eq_getElem hkl)
    rw [← h9, show ((k.toNat : Nat) : Int) = k by omega]
    unfold TKe
    rw [hkw, hkr]
  refine ⟨h1, ?_, fun j y hj => ?_⟩
  · rw [List.length_set, fDel1_n (by rw [hk]; omega) (by omega)]
    exact hl.1
  · rw [List.getElem?_set] at hj
    by_cases e : k.toNat = j
    · rw [if_pos e, if_pos hkl] at hj
      rw [← Option.some.inj hj, ← e, show ((k.toNat : Nat) : Int) = k by omega]
      unfold TKe
      rw [fDel1_n (by rw [hk]; omega) (by omega), fDel1_n (j := (132 + 16 * r + (7 + 3 * k + 2)).toNat) (by rw [hk]; omega) (by omega), hkw]
      unfold fDel1
      rw [hk, gU_n _ (by omega), gU_s]
    · rw [if_neg e] at hj
      have hjl := (List.getElem?_eq_some_iff.mp hj).1
      have hjm := hl.1
      rw [← hl.2 j y hj]
      refine TKe.congr9 ?_ ?_ ?_ <;> exact fDel1_n (by rw [hk]; omega) (by omega)
theorem fDel1_iw {G : Gm} {w r k x v : Int} (hG : GI G) (hX : GX G) (h : DLp G w r k x) : fInWork (fDel1 G w r x) v = fInWork G v - (if v = w then 1 else 0) := by
  obtain ⟨h1, h2⟩ := h.tk hG
  have hxl := hX.xl hG h.2.1.1 h.2.1.2
  obtain ⟨w1, w2, w3⟩ := works_set (b := (w, x, (G (132 + 16 * r + (7 + 3 * k + 2)).toNat))) h1 hxl rfl rfl (by have := h.2.2.1; show x ≠ -1; omega) v
  obtain ⟨hw, hr, hx, hk, hkm, hkw, hkr⟩ := h
  have hr24 := hG.2.1
  have hw6 := hG.1
  have hm3 := (hG.2.2 r hr.1 hr.2).2.1
  rw [fInWork_row hG hX hr (fDel1_n (by rw [hk]; omega) (by omega)) (fun q q0 q1 q2 j j0 j1 => fDel1_n (by rw [hk]; omega) (by omega)) h2 w3, w1]
  by_cases e : v = w
  · subst e
    rw [if_pos rfl, show works (TK G r) v = true from w2]
    simp [b2i]
  · rw [if_neg e, decide_eq_true (show v ≠ (w, -1, (G (132 + 16 * r + (7 + 3 * k + 2)).toNat)).1 from e), Bool.and_true]
    omega
def T_X4_enterResult : ZTf := zInl (cd_X4_enterResult) 3 0 0 400
theorem M_X4_enterResult {l : Launch} (hl : l.stackTraces = false) : zMet l yX4_enterResult (Cond.code yX4_enterResult cX4_enterResult 3 (Option.none : Option Jvm.ClassFile.FieldType) :: zG) rm_X4_enterResult 0 0 T_X4_enterResult := met_X4_enterResult hl zInl_bd
def T_X5_enterResult : ZTf := fun av M K KX => ∃ (t : Nat) (G : Gm) (w r k x : Int), av = [zo t, zi r, zi k, zi x] ∧ (LTab M t) ∧ (TR M t G) ∧ (GI G) ∧ (GV G) ∧ (GX G) ∧ (DLp G w r k x) ∧  (∀ M' : ZM, (Fr (STb t) M M') → (TR M' t (fDel1 G w r x)) → K none M')
set_option maxRecDepth 100000 in
set_option maxHeartbeats 4000000 in
theorem bd_X5_enterResult : zBd (cd_X5_enterResult T_X4_workerAt T_X4_enterResult) 5 0 0 T_X5_enterResult := by
  rintro av M K KX hA0 hM ⟨t, G, w, r, k, x, rfl, hX, hT, hG, hV9, hX9, hD9, hK⟩
  obtain ⟨hw5, hr5, hR5⟩ := id hG
  obtain ⟨hv0, hv1, hv2, hv3, hvW, hvR, hvS⟩ := id hV9
  obtain ⟨hw, hr, hx, hk, hkm, hkw, hkr⟩ := id hD9
  have hRr := hR5 r hr.1 hr.2
  have hm3 := hRr.2.1
  have hmd := (hvW w hw.1 hw.2).2.2.2.2.1
  have hiw : 0 ≤ fInWork G w ∧ fInWork G w ≤ 24 := by
    have h9 := cntI_r (fun r => fWorksAt G w r) (G 5) hr5.1
    unfold fInWork
    omega
  refine ⟨rfl, fun Φ hΦ => ?_⟩
  refine zGoR hΦ [] 400 (fun hL9 _ hM _ _ => ?_)
  obtain ⟨qL1, qL2, qL3, _⟩ : zrg r ∧ zrg k ∧ zrg x ∧ True := hL9
  refine ⟨hX.w, _, hX.r6, ⟨hX.w, _, hX.r7, ⟨zixW hX.aTrow hX.lTrow (i := r) (by omega) (by decide), _, (hX.row (by omega) (by omega)).1, ⟨⟨⟨rfl, rfl⟩, (hX.row (by omega) (by omega)).2.w.rcv⟩, ⟨rfl, ⟨(hX.row (by omega) (by omega)).2.w, _, (hX.row (by omega) (by omega)).2.r9, ⟨(zrgI (x := k * 3) (by omega)), ⟨(zrgI (x := k * 3 + 0) (by omega)), zIr (Int.add_zero _) (⟨zixO (hX.row (by omega) (by omega)).2.a9 (hX.row (by omega) (by omega)).2.l9 (i := k * 3) (by omega) (by decide), zIr ((hT.k0 (r := r) (k := k) (by omega) (by omega) (by omega) (by omega)).trans hkw) (⟨trivial, fun (qg1 : zrg (w)) _ => ⟨zixW hX.aTwk hX.lTwk (i := w) (by omega) (by decide), _, (hX.wk (by omega) (by omega)).1, ⟨rfl, ⟨(hX.wk (by omega) (by omega)).2, zIr ((hT.w4 (w := w) (by omega) (by omega))) (⟨(zrgI (x := fInWork G w - 1) (by omega)), ⟨⟨(hX.wk (by omega) (by omega)).2, trivial⟩, ⟨rfl, ⟨(hX.wk (by omega) (by omega)).2, zIr ((zIm _ _ _ (by omega)).trans ((hT.w6 (w := w) (by omega) (by omega)))) (⟨(zrgI (x := (G (6 + 9 * w + 5).toNat) + 1) (by omega)), ⟨⟨(hX.wk (by omega) (by omega)).2, trivial⟩, ⟨hX.w, _, hX.r7, ⟨zixW hX.aTrow hX.lTrow (i := r) (by omega) (by decide), _, (hX.row (by omega) (by omega)).1, ⟨⟨⟨rfl, rfl⟩, (hX.row (by omega) (by omega)).2.w.rcv⟩, ⟨rfl, ⟨(hX.row (by omega) (by omega)).2.w, _, (hX.row (by omega) (by omega)).2.r9, ⟨(zrgI (x := k * 3) (by omega)), ⟨(zrgI (x := k * 3 + 1) (by omega)), ⟨⟨zixW (hX.row (by omega) (by omega)).2.a9 (hX.row (by omega) (by omega)).2.l9 (i := k * 3 + 1) (by omega) (by decide), trivial⟩, fun _ _ => (show K none (zsI (zsI (zsI M (t + 5 + w.toNat) 4 (fInWork G w - 1)) (t + 5 + w.toNat) 6 ((G (6 + 9 * w + 5).toNat) + 1)) (t + 11 + 2 * r.toNat + 1) (k * 3 + 1).toNat x) from ?g258l1)⟩⟩⟩⟩⟩⟩⟩⟩⟩⟩)⟩⟩⟩⟩)⟩⟩⟩⟩)⟩)⟩⟩⟩⟩⟩⟩⟩⟩
  case g258l1 =>
    obtain ⟨M9, hM9⟩ : ∃ M9, zsI (zsI (zsI M (t + 5 + w.toNat) 4 (fInWork G w - 1)) (t + 5 + w.toNat) 6 ((G (6 + 9 * w + 5).toNat) + 1)) (t + 11 + 2 * r.toNat + 1) (k * 3 + 1).toNat x = M9 := ⟨_, rfl⟩
    have fr : Fr (STb t) M M9 := by rw [← hM9]; exact (((Fr_I (hX.wk (i := w) (by omega) (by omega)).2 (by decide) (by decide) (by unfold STb; omega)).tr (Fr_I (hX.wk (i := w) (by omega) (by omega)).2 (by decide) (by decide) (by unfold STb; omega))).tr (Fr_I (hX.row (i := r) (by omega) (by omega)).2.a9 (by decide) (by decide) (by unfold STb; omega)))
    have hl := TK_RwT hm3.1
    obtain ⟨ht1, ht2⟩ := hD9.tk hG
    have hn : ∀ j : Nat, j ≠ (132 + 16 * r + (7 + 3 * k + 1)).toNat → j ≠ (6 + 9 * w + 5).toNat → fDel1 G w r x j = G j := fun j h1 h2 => fDel1_n (by rw [hk]; exact h1) h2
    have hz : zR M9 = zR M := by rw [← hM9]
    rw [hM9]
    have e4 : fDel1 G w r x 4 = G 4 := hn 4 (by omega) (by omega)
    have e5 : fDel1 G w r x 5 = G 5 := hn 5 (by omega) (by omega)
    refine hK M9 fr (hT.step (Int.le_of_eq e4.symm) (fun j hj => ?_) (fun v v0 v1 => ?_) (fun v v0 v1 => ?_) (fun v v0 v1 => ?_) (fun q q0 q1 => ?_) (fun a b a0 a1 b0 b1 => ?_)) <;> (try rw [e4] at v1) <;> (try rw [e5] at q1)
    · rw [hn j (by omega) (by omega), ← hM9]
      simp (disch := omega) only [zIs, zIm, zIn, zIrf]
      exact (TR_iff.mp hT).1.1 j hj
    · by_cases e : v = w
      · subst e
        refine Or.inr ?_
        have d := hT.wrc v0 v1
        unfold WRc at d ⊢
        obtain ⟨d1, d2, d3, d4, d5, d6, d7, d8⟩ := d
        rw [hn (6 + 9 * v + 1).toNat (by omega) (by omega), hn (6 + 9 * v + 2).toNat (by omega) (by omega), hn (6 + 9 * v + 3).toNat (by omega) (by omega), hn (6 + 9 * v + 4).toNat (by omega) (by omega), hn (6 + 9 * v + 6).toNat (by omega) (by omega), hn (6 + 9 * v + 7).toNat (by omega) (by omega), hn (6 + 9 * v + 8).toNat (by omega) (by omega)]
        rw [← hM9]
        refine ⟨?_, ?_, ?_, ?_, ?_, ?_, ?_, ?_⟩
        all_goals first
          | (simp (disch := omega) only [zIs, zIm, zIn, zIrf]; assumption)
          | (simp (disch := omega) only [zIs, zIm, zIn, zIrf]; unfold fDel1; exact (gU_s _ _ _).symm)
      · refine Or.inl ⟨v1, ?_, fun n n0 n1 => hn _ (by omega) (by omega)⟩
        rw [← hM9]
        funext y
        simp (disch := omega) only [zIs, zIm, zIn, zIrf]
    · obtain ⟨s, l, a1, a2, a3, a4⟩ := hT.wn v0 v1
      exact ⟨s, l, by rw [hz]; exact a1, fr.2.2 _ _ a2, a3, by rw [hn _ (by omega) (by omega)]; exact a4⟩
    · rw [fDel1_iw hG hX9 hD9, ← hM9]
      by_cases e : v = w
      · subst e
        rw [if_pos rfl]
        simp (disch := omega) only [zIs, zIm, zIn, zIrf]
      · rw [if_neg e, Int.sub_zero]
        simp (disch := omega) only [zIs, zIm, zIn, zIrf]
        exact hT.w4 v0 v1
    · by_cases e : q = r
      · subst e
        refine Or.inr ⟨?_, ?_⟩
        · have d := hT.rrc q0 q1
          have dc := d.ct hl
          obtain ⟨⟨d1, d2, d3, d4, d5, d6, d7⟩, -⟩ := d
          refine RRc.mk (l := (TK G q).set k.toNat (w, x, (G (132 + 16 * q + (7 + 3 * k + 2)).toNat))) ?_ ?_ ?_ ?_ ?_ ?_ ⟨?_, fun j y hj => ?_⟩ ht2
          · rw [hn _ (by omega) (by omega), ← hM9]; simp (disch := omega) only [zIs, zIm, zIn, zIrf]; exact d1
          · rw [hn _ (by omega) (by omega), ← hM9]; simp (disch := omega) only [zIs, zIm, zIn, zIrf]; exact d2
          · rw [hn _ (by omega) (by omega), ← hM9]; simp (disch := omega) only [zIs, zIm, zIn, zIrf]; exact d3
          · rw [hn _ (by omega) (by omega), ← hM9]; simp (disch := omega) only [zIs, zIm, zIn, zIrf]; exact d4
          · rw [hn _ (by omega) (by omega), ← hM9]; simp (disch := omega) only [zIs, zIm, zIn, zIrf]; exact d5
          · rw [hn _ (by omega) (by omega), ← hM9]; simp (disch := omega) only [zIs, zIm, zIn, zIrf]; exact d6
          · rw [List.length_set, ← hM9]; simp (disch := omega) only [zIs, zIm, zIn, zIrf]; exact dc.1
          · rw [List.getElem?_set] at hj
            by_cases g : k.toNat = j
            · have hkl := (List.getElem?_eq_some_iff.mp ht1).1
              rw [if_pos g, if_pos hkl] at hj
              obtain ⟨c1, c2, c3⟩ := dc.2 k.toNat _ ht1
              rw [← Option.some.inj hj, ← g, ← hM9]
              refine ⟨?_, ?_, ?_⟩
              · simp (disch := omega) only [zIs, zIm, zIn, zIrf]; exact c1
              · rw [show k.toNat * 3 + 1 = (k * 3 + 1).toNat by omega]; simp (disch := omega) only [zIs, zIm, zIn, zIrf]
              · simp (disch := omega) only [zIs, zIm, zIn, zIrf]; exact c3
            · rw [if_neg g] at hj
              rw [← hM9]
              simp (disch := omega) only [zIs, zIm, zIn, zIrf]
              exact dc.2 j y hj
        · have d := hT.rfn q0 q1
          unfold RFn at d ⊢
          rw [hn _ (by omega) (by omega), hn (132 + 16 * q + 5).toNat (by omega) (by omega), e4, ← hM9]
          simp (disch := omega) only [zIs, zIm, zIn, zIrf]
          exact d
      · refine Or.inl ⟨q1, hR5 q q0 q1, fun p hp => ?_, fun n n0 n1 => hn _ (by omega) (by omega)⟩
        rw [← hM9]
        funext y
        simp (disch := omega) only [zIs, zIm, zIn, zIrf]
    · rw [hn _ (by omega) (by omega), hn _ (by omega) (by omega), ← hM9]
      simp (disch := omega) only [zIs, zIm, zIn, zIrf]
      exact ⟨hT.st a0 a1 b0 b1, hT.to a0 a1 b0 b1⟩
theorem M_X5_enterResult {l : Launch} (hl : l.stackTraces = false) : zMet l yX5_enterResult (Cond.code yX5_enterResult cX5_enterResult 5 (Option.none : Option Jvm.ClassFile.FieldType) :: zG) rm_X5_enterResult 0 0 T_X5_enterResult := met_X5_enterResult hl (M_X4_workerAt hl) (M_X4_enterResult hl) bd_X5_enterResult
