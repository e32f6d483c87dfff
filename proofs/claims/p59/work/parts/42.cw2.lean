theorem TKe.congr9 {g g' : Gm} {r k : Int} (e0 : (g' (132 + 16 * r + (7 + 3 * k + 0)).toNat) = (g (132 + 16 * r + (7 + 3 * k + 0)).toNat)) (e1 : (g' (132 + 16 * r + (7 + 3 * k + 1)).toNat) = (g (132 + 16 * r + (7 + 3 * k + 1)).toNat)) (e2 : (g' (132 + 16 * r + (7 + 3 * k + 2)).toNat) = (g (132 + 16 * r + (7 + 3 * k + 2)).toNat)) : TKe g' r k = TKe g r k := by
  unfold TKe
  rw [e0, e1, e2]
theorem GX.xl {G : Gm} (hG : GI G) (hX : GX G) {r : Int} (h0 : 0 ≤ r) (h1 : r < G 5) : XL (TK G r) := (TK_RwT (hG.2.2 r h0 h1).2.1.1).xl (hX.1 r h0 h1).2.1
theorem fWorksAt_cg {G G' : Gm} {r v : Int} (hR : RI G r) (hx : XL (TK G r)) (e : ∀ j : Nat, 132 + 16 * r + 6 ≤ (j : Int) → (j : Int) < 132 + 16 * r + 16 → G' j = G j) : fWorksAt G' v r = fWorksAt G v r := by
  have h1 := TK_RwT hR.2.1.1
  rw [fWorksAt_tk h1 hx, fWorksAt_tk (h1.congr hR.1.1 (TK_len hR) e) hx]
theorem fInWork_row {G G' : Gm} {r v : Int} {l : List T3} (hG : GI G) (hX : GX G) (hr : 0 ≤ r ∧ r < G 5) (e5 : G' 5 = G 5) (e : ∀ q : Int, 0 ≤ q → q < G 5 → q ≠ r → ∀ j : Nat, 132 + 16 * q + 6 ≤ (j : Int) → (j : Int) < 132 + 16 * q + 16 → G' j = G j) (hl : RwT G' r l) (hx : XL l) : fInWork G' v = fInWork G v - b2i (works (TK G r) v) + b2i (works l v) := by
  unfold fInWork
  rw [e5, cntI_upd (p := fun q => fWorksAt G v q) (p' := fun q => fWorksAt G' v q) hr.1 hr.2 (fun q q0 q1 q2 => fWorksAt_cg (hG.2.2 q q0 q1) (hX.xl hG q0 q1) (e q q0 q1 q2))]
  rw [fWorksAt_tk hl hx, fWorksAt_tk (TK_RwT (hG.2.2 r hr.1 hr.2).2.1.1) (hX.xl hG hr.1 hr.2)]
theorem works_app (l l2 : List T3) (v : Int) : works (l ++ l2) v = (works l v || works l2 v) := List.any_append
theorem works_no {l : List T3} {v : Int} (h : ∀ x, x ∈ l → x.1 ≠ v) : works l v = false := by
  refine Bool.eq_false_iff.mpr (fun q => ?_)
  obtain ⟨x, x1, x2⟩ := List.any_eq_true.mp q
  rw [decide_eq_true_eq] at x2
  exact h x x1 x2.1
theorem TK_mem {G : Gm} {r : Int} {x : T3} (h : x ∈ TK G r) : ∃ k : Int, 0 ≤ k ∧ k < (G (132 + 16 * r + 6).toNat) ∧ x = TKe G r k := by
  unfold TK at h
  obtain ⟨k, k1, rfl⟩ := List.mem_map.mp h
  have := List.mem_range.mp k1
  exact ⟨(k : Int), by omega, by omega, rfl⟩
theorem RwT.take {G : Gm} {w r : Int} {l : List T3} (h : RwT G r l) (h0 : 0 ≤ r) (hl : l.length ≤ 2) (hw : 0 ≤ w ∧ w < 6) : RwT (fTake G w r) r (l ++ [(w, -1, G 3 + G 1)]) := by
  obtain ⟨h1, h2⟩ := h
  have e1 : (l ++ [(w, -1, G 3 + G 1)]).length = l.length + 1 := by rw [List.length_append, List.length_singleton]
  unfold fTake
  rw [h1]
  refine ⟨?_, fun k x hx => ?_⟩
  · rw [e1, gU_n _ (by omega), gU_n _ (by omega), gU_n _ (by omega), gU_n _ (by omega), gU_n _ (by omega), gU_s]
    omega
  · have hk := (List.getElem?_eq_some_iff.mp hx).1
    rw [e1] at hk
    by_cases q : k < l.length
    · rw [List.getElem?_append_left q] at hx
      rw [← h2 k x hx]
      refine TKe.congr9 ?_ ?_ ?_
      all_goals (rw [gU_n _ (by omega), gU_n _ (by omega), gU_n _ (by omega), gU_n _ (by omega), gU_n _ (by omega), gU_n _ (by omega)])
    · have ek : k = l.length := by omega
      subst ek
      rw [List.getElem?_append_right (Nat.le_refl _), Nat.sub_self] at hx
      rw [← Option.some.inj hx]
      unfold TKe
      rw [gU_n _ (by omega), gU_n _ (by omega), gU_n _ (by omega), gU_n _ (by omega), gU_s]
      rw [gU_n _ (by omega), gU_n _ (by omega), gU_n _ (by omega), gU_s]
      rw [gU_n _ (by omega), gU_n _ (by omega), gU_s]
def T_X4_setTaking : ZTf := zInl (cd_X4_setTaking) 5 0 0 400
theorem M_X4_setTaking {l : Launch} (hl : l.stackTraces = false) : zMet l yX4_setTaking (Cond.code yX4_setTaking cX4_setTaking 5 (Option.none : Option Jvm.ClassFile.FieldType) :: zG) rm_X4_setTaking 0 0 T_X4_setTaking := met_X4_setTaking hl zInl_bd
def T_X4_addTaking : ZTf := zInl (cd_X4_addTaking T_X4_setTaking) 3 0 0 400
theorem M_X4_addTaking {l : Launch} (hl : l.stackTraces = false) : zMet l yX4_addTaking (Cond.code yX4_addTaking cX4_addTaking 3 (Option.none : Option Jvm.ClassFile.FieldType) :: zG) rm_X4_addTaking 0 0 T_X4_addTaking := met_X4_addTaking hl (M_X4_setTaking hl) zInl_bd
theorem gUs9 (g : Gm) (i v : Int) : gU g i v i.toNat = v := gU_s g i v
theorem gUn9 (g : Gm) (i v : Int) {k : Nat} (h : k ≠ i.toNat) : gU g i v k = g k := gU_n g h
theorem fTake_n {G : Gm} {w r : Int} {k : Nat} (hm : 0 ≤ (G (132 + 16 * r + 6).toNat) ∧ (G (132 + 16 * r + 6).toNat) ≤ 2) (h0 : 0 ≤ r ∧ r < 24) (hw : 0 ≤ w ∧ w < 6) (h1 : k ≠ (6 + 9 * w + 4).toNat) (h2 : k ≠ (132 + 16 * r + 4).toNat) (h3 : (k : Int) < 132 + 16 * r + 6 ∨ 132 + 16 * r + 16 ≤ (k : Int)) : fTake G w r k = G k := by
  unfold fTake
  rw [gU_n _ (by omega), gU_n _ (by omega), gU_n _ (by omega), gU_n _ (by omega), gU_n _ (by omega), gU_n _ (by omega)]
theorem fTake_iw {G : Gm} {w r v : Int} (hG : GI G) (hX : GX G) (hw : 0 ≤ w ∧ w < G 4) (hr : 0 ≤ r ∧ r < G 5) (hF : fRefusal G w r = 0) : fInWork (fTake G w r) v = fInWork G v + (if v = w then 1 else 0) := by
  have hRr := hG.2.2 r hr.1 hr.2
  have hm := (fNeeds_c hRr.2.1.1 (fRef_c hF).2.2.1).1
  have hm0 := hRr.2.1.1
  have hw6 := hG.1
  have hr24 := hG.2.1
  have hl := TK_RwT hm0
  have hll : (TK G r).length ≤ 2 := by have := hl.1; omega
  have hnb : ∀ x, x ∈ TK G r → x.1 ≠ w := fun x hx e => by
    obtain ⟨k, k0, k1, rfl⟩ := TK_mem hx
    have hb := ((hX.1 r hr.1 hr.2).1 k k0 k1).2
    have e' : (G (132 + 16 * r + (7 + 3 * k + 0)).toNat) = w := e
    rw [e'] at hb
    have hF4 := (fRef_c hF).2.2.2
    unfold fBarrier at hF4
    rw [if_pos hb] at hF4
    cases hF4
  have hxl := hX.xl hG hr.1 hr.2
  have hx' : XL (TK G r ++ [(w, -1, G 3 + G 1)]) := by
    refine List.pairwise_append.mpr ⟨hxl, List.pairwise_singleton _ _, fun x hx y hy => ?_⟩
    rw [List.mem_singleton.mp hy]
    exact hnb x hx
  have h5 : fTake G w r 5 = G 5 := fTake_n ⟨hm0, hm⟩ hRr.1 (by omega) (by omega) (by omega) (by omega)
  rw [fInWork_row hG hX hr h5 (fun q q0 q1 q2 j j0 j1 => fTake_n ⟨hm0, hm⟩ hRr.1 (by omega) (by omega) (by omega) (by omega)) (hl.take hr.1 hll (by omega)) hx', works_app]
  by_cases e : v = w
  · subst e
    rw [works_no hnb, if_pos rfl]
    have e1 : works [(v, -1, G 3 + G 1)] v = true := by
      unfold works
      rw [List.any_cons, decide_eq_true (⟨rfl, rfl⟩ : (v, (-1 : Int), G 3 + G 1).1 = v ∧ (v, (-1 : Int), G 3 + G 1).2.1 = -1)]
      rfl
    rw [e1]
    simp only [Bool.or_true, b2i, Bool.false_eq_true, if_false, if_true]
    omega
  · have e1 : works [(w, -1, G 3 + G 1)] v = false := works_no (fun x hx => by rw [List.mem_singleton.mp hx]; exact fun z => e z.symm)
    rw [e1, Bool.or_false, if_neg e]
    omega
def T_X5_startTaking : ZTf := fun av M K KX => ∃ (t : Nat) (G : Gm) (w r : Int), av = [zo t, zi w, zi r] ∧ (LTab M t) ∧ (TR M t G) ∧ (GI G) ∧ (GV G) ∧ (GX G) ∧ (0 ≤ w ∧ w < G 4) ∧ (0 ≤ r ∧ r < G 5) ∧ (fRefusal G w r = 0) ∧  (∀ M' : ZM, (Fr (STb t) M M') → (TR M' t (fTake G w r)) → K (some (zi (G 3 + G 1))) M')
set_option maxRecDepth 100000 in
set_option maxHeartbeats 4000000 in
theorem bd_X5_startTaking : zBd (cd_X5_startTaking T_X4_addTaking) 4 0 0 T_X5_startTaking := by
  rintro av M K KX hA0 hM ⟨t, G, w, r, rfl, hX, hT, hG, hV9, hX9, hw, hr, hF, hK⟩
  obtain ⟨hw5, hr5, hR5⟩ := id hG
  obtain ⟨hv0, hv1, hv2, hv3, hvW, hvR, hvS⟩ := id hV9
  have hRr := hR5 r hr.1 hr.2
  have hm0 := hRr.2.1.1
  have hnc := fNeeds_c hm0 (fRef_c hF).2.2.1
  have hm := hnc.1
  have hmd := (hvW w hw.1 hw.2).2.2.2.1
  have hiw : 0 ≤ fInWork G w ∧ fInWork G w ≤ 24 := by
    have h9 := cntI_r (fun r => fWorksAt G w r) (G 5) hr5.1
    unfold fInWork
    omega
  refine ⟨rfl, fun Φ hΦ => ?_⟩
  refine zGoR hΦ [] 400 (fun hL9 _ hM _ _ => ?_)
  obtain ⟨qL1, qL2, _⟩ : zrg w ∧ zrg r ∧ True := hL9
  refine ⟨hX.w, zIr (hT.t3) (⟨hX.w, zIr (hT.t1) (⟨(zrgI (x := G 3 + G 1) (by omega)), ⟨hX.w, _, hX.r7, ⟨zixW hX.aTrow hX.lTrow (i := r) (by omega) (by decide), _, (hX.row (by omega) (by omega)).1, ⟨⟨⟨rfl, rfl⟩, (hX.row (by omega) (by omega)).2.w.rcv⟩, ⟨rfl, ⟨(hX.row (by omega) (by omega)).2.w, zIr ((hT.r8 (r := r) (by omega) (by omega))) (⟨fun (qc1 : (G (132 + 16 * r + 6).toNat) < 3) => ⟨(hX.row (by omega) (by omega)).2.w, zIr ((hT.r8 (r := r) (by omega) (by omega))) (⟨⟨⟨rfl, rfl⟩, (hX.row (by omega) (by omega)).2.w.rcv⟩, ⟨rfl, ⟨(hX.row (by omega) (by omega)).2.w, _, (hX.row (by omega) (by omega)).2.r9, ⟨(zrgI (x := (G (132 + 16 * r + 6).toNat) * 3) (by omega)), ⟨(zrgI (x := (G (132 + 16 * r + 6).toNat) * 3 + 0) (by omega)), zIr (Int.add_zero _) (⟨⟨zixW (hX.row (by omega) (by omega)).2.a9 (hX.row (by omega) (by omega)).2.l9 (i := (G (132 + 16 * r + 6).toNat) * 3) (by omega) (by decide), trivial⟩, ⟨(hX.row (by omega) (by omega)).2.w, _, (hX.row (by omega) (by omega)).2.r9, ⟨(zrgI (x := (G (132 + 16 * r + 6).toNat) * 3) (by omega)), ⟨(zrgI (x := (G (132 + 16 * r + 6).toNat) * 3 + 1) (by omega)), ⟨⟨zixW (hX.row (by omega) (by omega)).2.a9 (hX.row (by omega) (by omega)).2.l9 (i := (G (132 + 16 * r + 6).toNat) * 3 + 1) (by omega) (by decide), trivial⟩, ⟨(hX.row (by omega) (by omega)).2.w, _, (hX.row (by omega) (by omega)).2.r9, ⟨(zrgI (x := (G (132 + 16 * r + 6).toNat) * 3) (by omega)), ⟨(zrgI (x := (G (132 + 16 * r + 6).toNat) * 3 + 2) (by omega)), ⟨⟨zixW (hX.row (by omega) (by omega)).2.a9 (hX.row (by omega) (by omega)).2.l9 (i := (G (132 + 16 * r + 6).toNat) * 3 + 2) (by omega) (by decide), trivial⟩, fun _ _ => ⟨rfl, ⟨(hX.row (by omega) (by omega)).2.w, zIr ((zIn _ _ _ (by omega)).trans ((zIn _ _ _ (by omega)).trans ((zIn _ _ _ (by omega)).trans ((hT.r8 (r := r) (by omega) (by omega)))))) (⟨(zrgI (x := (G (132 + 16 * r + 6).toNat) + 1) (by omega)), ⟨⟨(hX.row (by omega) (by omega)).2.w, trivial⟩, ⟨rfl, ⟨(hX.row (by omega) (by omega)).2.w, zIr ((zIm _ _ _ (by omega)).trans ((zIn _ _ _ (by omega)).trans ((zIn _ _ _ (by omega)).trans ((zIn _ _ _ (by omega)).trans ((hT.r5 (r := r) (by omega) (by omega))))))) (⟨⟨(hX.row (by omega) (by omega)).2.w, trivial⟩, fun _ _ => ⟨hX.w, _, hX.r6, ⟨zixW hX.aTwk hX.lTwk (i := w) (by omega) (by decide), _, (hX.wk (by omega) (by omega)).1, ⟨rfl, ⟨(hX.wk (by omega) (by omega)).2, zIr ((zIn _ _ _ (by omega)).trans ((zIn _ _ _ (by omega)).trans ((zIn _ _ _ (by omega)).trans ((zIn _ _ _ (by omega)).trans ((zIn _ _ _ (by omega)).trans ((hT.w4 (w := w) (by omega) (by omega)))))))) (⟨(zrgI (x := fInWork G w + 1) (by omega)), ⟨⟨(hX.wk (by omega) (by omega)).2, trivial⟩, ⟨hX.w, _, hX.r6, ⟨zixW hX.aTwk hX.lTwk (i := w) (by omega) (by decide), _, (hX.wk (by omega) (by omega)).1, ⟨rfl, ⟨(hX.wk (by omega) (by omega)).2, zIr ((zIm _ _ _ (by omega)).trans ((zIn _ _ _ (by omega)).trans ((zIn _ _ _ (by omega)).trans ((zIn _ _ _ (by omega)).trans ((zIn _ _ _ (by omega)).trans ((zIn _ _ _ (by omega)).trans ((hT.w5 (w := w) (by omega) (by omega))))))))) (⟨(zrgI (x := (G (6 + 9 * w + 4).toNat) + 1) (by omega)), ⟨⟨(hX.wk (by omega) (by omega)).2, trivial⟩, ⟨trivial, (show K (some (zi (G 3 + G 1))) (zsI (zsI (zsI (zsI (zsI (zsI (zsI M (t + 11 + 2 * r.toNat + 1) ((G (132 + 16 * r + 6).toNat) * 3).toNat w) (t + 11 + 2 * r.toNat + 1) ((G (132 + 16 * r + 6).toNat) * 3 + 1).toNat (-1)) (t + 11 + 2 * r.toNat + 1) ((G (132 + 16 * r + 6).toNat) * 3 + 2).toNat (G 3 + G 1)) (t + 11 + 2 * r.toNat) 8 ((G (132 + 16 * r + 6).toNat) + 1)) (t + 11 + 2 * r.toNat) 5 (zor (G (132 + 16 * r + 4).toNat) (zshl 1 w))) (t + 5 + w.toNat) 4 (fInWork G w + 1)) (t + 5 + w.toNat) 5 ((G (6 + 9 * w + 4).toNat) + 1)) from ?g252l1)⟩⟩⟩)⟩⟩⟩⟩⟩⟩)⟩⟩⟩⟩⟩)⟩⟩⟩⟩)⟩⟩⟩⟩⟩⟩⟩⟩⟩⟩⟩)⟩⟩⟩⟩⟩)⟩, fun (qc4 : (G (132 + 16 * r + 6).toNat) ≥ 3) => fun _ _ => ⟨hX.w, _, hX.r6, ⟨zixW hX.aTwk hX.lTwk (i := w) (by omega) (by decide), _, (hX.wk (by omega) (by omega)).1, ⟨rfl, ⟨(hX.wk (by omega) (by omega)).2, zIr ((hT.w4 (w := w) (by omega) (by omega))) (⟨(zrgI (x := fInWork G w + 1) (by omega)), ⟨⟨(hX.wk (by omega) (by omega)).2, trivial⟩, ⟨hX.w, _, hX.r6, ⟨zixW hX.aTwk hX.lTwk (i := w) (by omega) (by decide), _, (hX.wk (by omega) (by omega)).1, ⟨rfl, ⟨(hX.wk (by omega) (by omega)).2, zIr ((zIm _ _ _ (by omega)).trans ((hT.w5 (w := w) (by omega) (by omega)))) (⟨(zrgI (x := (G (6 + 9 * w + 4).toNat) + 1) (by omega)), ⟨⟨(hX.wk (by omega) (by omega)).2, trivial⟩, ⟨trivial, (show K (some (zi (G 3 + G 1))) (zsI (zsI M (t + 5 + w.toNat) 4 (fInWork G w + 1)) (t + 5 + w.toNat) 5 ((G (6 + 9 * w + 4).toNat) + 1)) from ?g252l2)⟩⟩⟩)⟩⟩⟩⟩⟩⟩)⟩⟩⟩⟩⟩)⟩⟩⟩⟩⟩⟩)⟩)⟩
  case g252l1 =>
    obtain ⟨M9, hM9⟩ : ∃ M9, zsI (zsI (zsI (zsI (zsI (zsI (zsI M (t + 11 + 2 * r.toNat + 1) ((G (132 + 16 * r + 6).toNat) * 3).toNat w) (t + 11 + 2 * r.toNat + 1) ((G (132 + 16 * r + 6).toNat) * 3 + 1).toNat (-1)) (t + 11 + 2 * r.toNat + 1) ((G (132 + 16 * r + 6).toNat) * 3 + 2).toNat (G 3 + G 1)) (t + 11 + 2 * r.toNat) 8 ((G (132 + 16 * r + 6).toNat) + 1)) (t + 11 + 2 * r.toNat) 5 (zor (G (132 + 16 * r + 4).toNat) (zshl 1 w))) (t + 5 + w.toNat) 4 (fInWork G w + 1)) (t + 5 + w.toNat) 5 ((G (6 + 9 * w + 4).toNat) + 1) = M9 := ⟨_, rfl⟩
    have fr : Fr (STb t) M M9 := by rw [← hM9]; exact (((((((Fr_I (hX.row (i := r) (by omega) (by omega)).2.a9 (by decide) (by decide) (by unfold STb; omega)).tr (Fr_I (hX.row (i := r) (by omega) (by omega)).2.a9 (by decide) (by decide) (by unfold STb; omega))).tr (Fr_I (hX.row (i := r) (by omega) (by omega)).2.a9 (by decide) (by decide) (by unfold STb; omega))).tr (Fr_I (hX.row (i := r) (by omega) (by omega)).2.w (by decide) (by decide) (by unfold STb; omega))).tr (Fr_I (hX.row (i := r) (by omega) (by omega)).2.w (by decide) (by decide) (by unfold STb; omega))).tr (Fr_I (hX.wk (i := w) (by omega) (by omega)).2 (by decide) (by decide) (by unfold STb; omega))).tr (Fr_I (hX.wk (i := w) (by omega) (by omega)).2 (by decide) (by decide) (by unfold STb; omega)))
    have hl := TK_RwT hm0
    have hlen : (TK G r).length ≤ 2 := by have := hl.1; omega
    have hn : ∀ k : Nat, k ≠ (6 + 9 * w + 4).toNat → k ≠ (132 + 16 * r + 4).toNat → ((k : Int) < 132 + 16 * r + 6 ∨ 132 + 16 * r + 16 ≤ (k : Int)) → fTake G w r k = G k := fun k h1 h2 h3 => fTake_n ⟨hm0, hm⟩ hRr.1 (by omega) h1 h2 h3
    have hz : zR M9 = zR M := by rw [← hM9]
    rw [hM9]
    have e4 : fTake G w r 4 = G 4 := hn 4 (by omega) (by omega) (by omega)
    have e5 : fTake G w r 5 = G 5 := hn 5 (by omega) (by omega) (by omega)
    refine hK M9 fr (hT.step (Int.le_of_eq e4.symm) (fun k hk => ?_) (fun v v0 v1 => ?_) (fun v v0 v1 => ?_) (fun v v0 v1 => ?_) (fun q q0 q1 => ?_) (fun a b a0 a1 b0 b1 => ?_)) <;> (try rw [e4] at v1) <;> (try rw [e5] at q1)
    · rw [hn k (by omega) (by omega) (by omega), ← hM9]
      simp (disch := omega) only [zIs, zIm, zIn, zIrf]
      exact (TR_iff.mp hT).1.1 k hk
    · by_cases e : v = w
      · subst e
        refine Or.inr ?_
        have d := hT.wrc v0 v1
        unfold WRc at d ⊢
        obtain ⟨d1, d2, d3, d4, d5, d6, d7, d8⟩ := d
        rw [hn _ (by omega) (by omega) (by omega), hn (6 + 9 * v + 2).toNat (by omega) (by omega) (by omega), hn (6 + 9 * v + 3).toNat (by omega) (by omega) (by omega), hn (6 + 9 * v + 5).toNat (by omega) (by omega) (by omega), hn (6 + 9 * v + 6).toNat (by omega) (by omega) (by omega), hn (6 + 9 * v + 7).toNat (by omega) (by omega) (by omega), hn (6 + 9 * v + 8).toNat (by omega) (by omega) (by omega)]
        rw [← hM9]
        refine ⟨?_, ?_, ?_, ?_, ?_, ?_, ?_, ?_⟩
        all_goals first
          | (simp (disch := omega) only [zIs, zIm, zIn, zIrf]; assumption)
          | (simp (disch := omega) only [zIs, zIm, zIn, zIrf]; unfold fTake; simp (disch := omega) only [gUs9, gUn9])
      · refine Or.inl ⟨v1, ?_, fun n n0 n1 => hn _ (by omega) (by omega) (by omega)⟩
        rw [← hM9]
        funext y
        simp (disch := omega) only [zIs, zIm, zIn, zIrf]
    · obtain ⟨s, l, a1, a2, a3, a4⟩ := hT.wn v0 v1
      exact ⟨s, l, by rw [hz]; exact a1, fr.2.2 _ _ a2, a3, by rw [hn _ (by omega) (by omega) (by omega)]; exact a4⟩
    · rw [fTake_iw hG hX9 hw hr hF, ← hM9]
      by_cases e : v = w
      · subst e
        rw [if_pos rfl]
        simp (disch := omega) only [zIs, zIm, zIn, zIrf]
      · rw [if_neg e, Int.add_zero]
        simp (disch := omega) only [zIs, zIm, zIn, zIrf]
        exact hT.w4 v0 v1
    · by_cases e : q = r
      · subst e
        refine Or.inr ⟨?_, fun z => ?_⟩
        · have d := hT.rrc q0 q1
          have dc := d.ct hl
          obtain ⟨⟨d1, d2, d3, d4, d5, d6, d7⟩, -⟩ := d
          refine RRc.mk (l := TK G q ++ [(w, -1, G 3 + G 1)]) ?_ ?_ ?_ ?_ ?_ ?_ ⟨?_, fun k x hx => ?_⟩ (hl.take q0 hlen (by omega))
          · rw [hn _ (by omega) (by omega) (by omega), ← hM9]; simp (disch := omega) only [zIs, zIm, zIn, zIrf]; exact d1
          · rw [hn _ (by omega) (by omega) (by omega), ← hM9]; simp (disch := omega) only [zIs, zIm, zIn, zIrf]; exact d2
          · rw [hn _ (by omega) (by omega) (by omega), ← hM9]; simp (disch := omega) only [zIs, zIm, zIn, zIrf]; exact d3
          · rw [hn _ (by omega) (by omega) (by omega), ← hM9]; simp (disch := omega) only [zIs, zIm, zIn, zIrf]; exact d4
          · rw [hn _ (by omega) (by omega) (by omega), ← hM9]; simp (disch := omega) only [zIs, zIm, zIn, zIrf]; exact d5
          · rw [← hM9]; simp (disch := omega) only [zIs, zIm, zIn, zIrf]; unfold fTake; simp (disch := omega) only [gUs9, gUn9]
          · rw [List.length_append, List.length_singleton, ← hM9]; simp (disch := omega) only [zIs, zIm, zIn, zIrf]; rw [hl.1]; omega
          · have hk := (List.getElem?_eq_some_iff.mp hx).1
            rw [List.length_append, List.length_singleton] at hk
            have h61 := hl.1
            by_cases g : k < (TK G q).length
            · rw [List.getElem?_append_left g] at hx
              rw [← hM9]
              simp (disch := omega) only [zIs, zIm, zIn, zIrf]
              exact dc.2 k x hx
            · have ek : k = ((G (132 + 16 * q + 6).toNat)).toNat := by omega
              rw [List.getElem?_append_right (by omega), show k - (TK G q).length = 0 by omega] at hx
              rw [← Option.some.inj hx, ← hM9, ek, show ((G (132 + 16 * q + 6).toNat)).toNat * 3 + 1 = ((G (132 + 16 * q + 6).toNat) * 3 + 1).toNat by omega, show ((G (132 + 16 * q + 6).toNat)).toNat * 3 + 2 = ((G (132 + 16 * q + 6).toNat) * 3 + 2).toNat by omega, show ((G (132 + 16 * q + 6).toNat)).toNat * 3 = ((G (132 + 16 * q + 6).toNat) * 3).toNat by omega]
              refine ⟨?_, ?_, ?_⟩ <;> simp (disch := omega) only [zIs, zIm, zIn, zIrf]
        · rw [hn _ (by omega) (by omega) (by omega)] at z
          omega
      · refine Or.inl ⟨q1, hR5 q q0 q1, fun p hp => ?_, fun n n0 n1 => hn _ (by omega) (by omega) (by omega)⟩
        rw [← hM9]
        funext y
        simp (disch := omega) only [zIs, zIm, zIn, zIrf]
    · rw [hn _ (by omega) (by omega) (by omega), hn _ (by omega) (by omega) (by omega), ← hM9]
      simp (disch := omega) only [zIs, zIm, zIn, zIrf]
      exact ⟨hT.st a0 a1 b0 b1, hT.to a0 a1 b0 b1⟩
  case g252l2 => exfalso; omega
theorem M_X5_startTaking {l : Launch} (hl : l.stackTraces = false) : zMet l yX5_startTaking (Cond.code yX5_startTaking cX5_startTaking 4 (Option.some Jvm.ClassFile.FieldType.int) :: zG) rm_X5_startTaking 0 0 T_X5_startTaking := met_X5_startTaking hl (M_X4_addTaking hl) bd_X5_startTaking
