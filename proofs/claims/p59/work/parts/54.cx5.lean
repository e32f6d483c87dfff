theorem fRow1_n {G : Gm} {size : Int} (h : 0 ≤ G 5) {k : Nat} (hk : (k : Int) < 132 + 16 * G 5 ∨ 132 + 16 * G 5 + 16 ≤ (k : Int)) (h5 : k ≠ 5) : fRow1 G size k = G k := by
  unfold fRow1
  rw [gU_n _ (by omega), gU_n _ (by omega), gU_n _ (by omega), cp_out _ _ _ _ _ (by omega), gU_n _ (by omega)]
theorem fRow1_z {G : Gm} {size : Int} (h : 0 ≤ G 5) {n : Int} (hn : 0 < n ∧ n < 16) (h2 : n ≠ 2) (h3 : n ≠ 3) : fRow1 G size (132 + 16 * G 5 + n).toNat = 0 := by
  unfold fRow1
  rw [gU_n _ (by omega), gU_n _ (by omega), gU_n _ (by omega), cp_in _ _ _ _ _ (by omega)]
theorem fRow1_0 {G : Gm} {size : Int} (h : 0 ≤ G 5) : fRow1 G size (132 + 16 * G 5 + 0).toNat = size := by
  unfold fRow1
  rw [gU_n _ (by omega), gU_n _ (by omega), gU_s]
theorem fRow1_2 {G : Gm} {size : Int} (h : 0 ≤ G 5) : fRow1 G size (132 + 16 * G 5 + 2).toNat = -1 := by
  unfold fRow1
  rw [gU_n _ (by omega), gU_s]
theorem fRow1_3 {G : Gm} {size : Int} : fRow1 G size (132 + 16 * G 5 + 3).toNat = -1 := by
  unfold fRow1
  rw [gU_s]
theorem GI.row1 {G : Gm} {size : Int} (hG : GI G) (h5 : G 5 < 24) : GI (fRow1 G size) := by
  have hr5 := hG.2.1
  have hw5 := hG.1
  have e5 := fRow1_5 (g := G) (size := size) hr5.1
  have e4 : fRow1 G size 4 = G 4 := fRow1_n hr5.1 (by omega) (by omega)
  refine ⟨by rw [e4]; exact hw5, by omega, fun q q0 q1 => ?_⟩
  by_cases e : q = G 5
  · subst e
    have z : fRow1 G size (132 + 16 * G 5 + 6).toNat = 0 := fRow1_z hr5.1 (by omega) (by omega) (by omega)
    exact ⟨by omega, by omega, fun k k0 k1 => by omega⟩
  · exact (hG.2.2 q q0 (by omega)).cg (fun j j0 j1 => Or.inr (fRow1_n hr5.1 (by omega) (by omega)))
theorem TR.row1 {M M' : ZM} {t : Nat} {G : Gm} {size : Int} (h : TR M t G) (hG : GI G) (h5 : G 5 < 24) (hz : ∀ s l, zTx M s l → zTx M' s l) (hR9 : zR M' = zR M) (hM : ∀ j, j ≠ t → j ≠ t + 11 + 2 * (G 5).toNat → zI M' j = zI M j) (hk : ∀ k, k ≠ 5 → zI M' t k = zI M t k) (hk5 : zI M' t 5 = G 5 + 1) (f0 : zI M' (t + 11 + 2 * (G 5).toNat) 0 = size) (f1 : zI M' (t + 11 + 2 * (G 5).toNat) 1 = 0) (f2 : zI M' (t + 11 + 2 * (G 5).toNat) 2 = -1) (f3 : zI M' (t + 11 + 2 * (G 5).toNat) 3 = 0) (f4 : zI M' (t + 11 + 2 * (G 5).toNat) 4 = -1) (f5 : zI M' (t + 11 + 2 * (G 5).toNat) 5 = 0) (f8 : zI M' (t + 11 + 2 * (G 5).toNat) 8 = 0) : TR M' t (fRow1 G size) := by
  have hr5 := hG.2.1
  have hw5 := hG.1
  have e5 := fRow1_5 (g := G) (size := size) hr5.1
  have e4 : fRow1 G size 4 = G 4 := fRow1_n hr5.1 (by omega) (by omega)
  have en : ∀ k : Nat, ((k : Int) < 132 + 16 * G 5 ∨ 132 + 16 * G 5 + 16 ≤ (k : Int)) → k ≠ 5 → fRow1 G size k = G k := fun k hk h5 => fRow1_n hr5.1 hk h5
  have ez : ∀ n : Int, 0 < n → n < 16 → n ≠ 2 → n ≠ 3 → fRow1 G size (132 + 16 * G 5 + n).toNat = 0 := fun n n0 n1 n2 n3 => fRow1_z hr5.1 ⟨n0, n1⟩ n2 n3
  have hl : RwT (fRow1 G size) (G 5) [] := ⟨ez 6 (by omega) (by omega) (by omega) (by omega), fun k x hx => by cases hx⟩
  refine h.step (Int.le_of_eq e4.symm) (fun k hk6 => ?_) (fun w w0 w1 => Or.inl ?_) (fun w w0 w1 => ?_) (fun w w0 w1 => ?_) (fun q q0 q1 => ?_) (fun a b a0 a1 b0 b1 => ?_) <;> (try rw [e4] at w1) <;> (try rw [e5] at q1)
  · by_cases z : k = 5
    · subst z
      rw [hk5, e5]
    · rw [hk k z, en k (by omega) z]
      exact (TR_iff.mp h).1.1 k hk6
  · exact ⟨w1, hM _ (by omega) (by omega), fun n n0 n1 => en _ (by omega) (by omega)⟩
  · obtain ⟨s, l, a1, a2, a3, a4⟩ := h.wn w0 w1
    exact ⟨s, l, by rw [hR9]; exact a1, hz _ _ a2, a3, by rw [en _ (by omega) (by omega)]; exact a4⟩
  · have z1 : fInWork (fRow1 G size) w = fInWork G w := by
      unfold fInWork
      rw [e5, cntI_s (by omega), if_neg (by rw [fWorksAt_tk hl List.Pairwise.nil]; exact Bool.false_ne_true)]
      exact cntI_c (fun q q0 q1 => fWorksAt_cg3 (hG.2.2 q q0 q1) (fun j j0 j1 => en j (by omega) (by omega)))
    rw [z1, hM _ (by omega) (by omega)]
    exact h.w4 w0 w1
  · by_cases e : q = G 5
    · subst e
      refine Or.inr ⟨RRc.mk (l := []) (f0.trans (fRow1_0 hr5.1).symm) (f1.trans (ez 1 (by omega) (by omega) (by omega) (by omega)).symm) (f2.trans (fRow1_2 hr5.1).symm) (by rw [f3, fRow1_3]; rfl) (f4.trans fRow1_3.symm) (f5.trans (ez 4 (by omega) (by omega) (by omega) (by omega)).symm) ⟨f8, fun k x hx => by cases hx⟩ hl, fun z => ?_⟩
      rw [ez 1 (by omega) (by omega) (by omega) (by omega)] at z
      omega
    · exact Or.inl ⟨by omega, hG.2.2 q q0 (by omega), fun p hp => hM _ (by omega) (by omega), fun n n0 n1 => en _ (by omega) (by omega)⟩
  · rw [hM _ (by omega) (by omega), hM _ (by omega) (by omega), en _ (by omega) (by omega), en _ (by omega) (by omega)]
    exact ⟨h.st a0 a1 b0 b1, h.to a0 a1 b0 b1⟩
theorem fRows_s {g : Gm} {i size : Int} (h : 0 ≤ i) : fRows g (i + 1) size = fRow1 (fRows g i size) size := foldI_s h
theorem fRows_gi {G : Gm} {size : Int} (hG : GI G) : ∀ i, 0 ≤ i → i ≤ 24 → G 5 + i ≤ 24 → GI (fRows G i size) := by
  refine zup (n := 24) (fun i => G 5 + i ≤ 24 → GI (fRows G i size)) (fun _ => hG) (fun i h0 h1 ih h => ?_)
  rw [fRows_s h0]
  exact (ih (by omega)).row1 (by rw [fRows_5 hG.2.1.1 i h0 (by omega)]; omega)
def T_X4_begin : ZTf := fun av M K KX => ∃ (j : Nat) (size : Int), av = [zo j, zi size] ∧ (LRow M j) ∧  K none (zsI (zsI (zsI (zsI (zsI (zsI (zsI (zsI (zsI M j 0 size) j 1 0) j 2 (-1)) j 3 0) j 4 (-1)) j 5 0) j 6 (-1)) j 7 (-1)) j 8 0)
set_option maxRecDepth 100000 in
set_option maxHeartbeats 4000000 in
theorem bd_X4_begin : zBd (cd_X4_begin) 2 0 0 T_X4_begin := by
  rintro av M K KX hA0 hM ⟨j, size, rfl, hj, hK⟩
  refine ⟨rfl, fun Φ hΦ => ?_⟩
  refine zGoR hΦ [] 400 (fun hL9 _ hM _ _ => ?_)
  obtain ⟨qL1, _⟩ : zrg size ∧ True := hL9
  refine ⟨⟨hj.w, trivial⟩, ⟨⟨hj.w, trivial⟩, ⟨⟨hj.w, trivial⟩, ⟨⟨hj.w, (Or.inl rfl)⟩, ⟨⟨hj.w, trivial⟩, ⟨⟨hj.w, trivial⟩, ⟨⟨hj.w, trivial⟩, ⟨⟨hj.w, trivial⟩, ⟨⟨hj.w, trivial⟩, (show K none (zsI (zsI (zsI (zsI (zsI (zsI (zsI (zsI (zsI M j 0 size) j 1 0) j 2 (-1)) j 3 0) j 4 (-1)) j 5 0) j 6 (-1)) j 7 (-1)) j 8 0) from ?g270l1)⟩⟩⟩⟩⟩⟩⟩⟩⟩
  case g270l1 => exact hK
theorem M_X4_begin {l : Launch} (hl : l.stackTraces = false) : zMet l yX4_begin (Cond.code yX4_begin cX4_begin 2 (Option.none : Option Jvm.ClassFile.FieldType) :: zG) rm_X4_begin 0 0 T_X4_begin := met_X4_begin hl bd_X4_begin
def T_X5_putRows : ZTf := fun av M K KX => ∃ (t : Nat) (G : Gm) (many size : Int), av = [zo t, zi many, zi size] ∧ (LTab M t) ∧ (TR M t G) ∧ (GI G) ∧ (0 ≤ many ∧ G 5 + many ≤ 24) ∧  (∀ M' : ZM, (Fr (STb t) M M') → (TR M' t (fRows G many size)) → K none M')
set_option maxRecDepth 100000 in
set_option maxHeartbeats 4000000 in
theorem bd_X5_putRows : zBd (cd_X5_putRows T_X4_begin) 4 0 0 T_X5_putRows := by
  rintro av M K KX hA0 hM ⟨t, G, many, size, rfl, hX, hT, hG, hm, hK⟩
  have hr5 := hG.2.1
  have hw5 := hG.1
  refine ⟨rfl, fun Φ hΦ => ?_⟩
  have loop := zdown (n := many) (P := fun i => ∀ M90 : ZM, Fr (STb t) M M90 → TR M90 t (fRows G i size) → Φ 2 [some (zo t), some (zi many), some (zi size), some (zi i)] [] M90 0 0) (fun i h0 h1 ih M90 f9 hT90 => by
    have hX90 := hX.fr f9
    have hGI9 := fRows_gi (size := size) hG i h0 (by omega) (by omega)
    have h59 := fRows_5 (size := size) hr5.1 i h0 (by omega)
    have hs9 := fRows_s (g := G) (size := size) h0
    obtain ⟨g9, hg9⟩ : ∃ z, fRows G i size = z := ⟨_, rfl⟩
    rw [hg9] at hT90 hGI9 h59 hs9
    obtain ⟨v5, hv5⟩ : ∃ z, g9 5 = z := ⟨_, rfl⟩
    have hb5 : 0 ≤ v5 ∧ v5 ≤ 24 ∧ v5 = G 5 + i := by omega
    refine zGoR hΦ [2] 400 (fun hL9 _ hM _ _ => ?_)
    obtain ⟨qL1, qL2, qL3, _⟩ : zrg many ∧ zrg size ∧ zrg i ∧ True := hL9
    refine ⟨fun (qc1 : i ≥ many) => (show K none M90 from ?g271l1), fun (qc2 : i < many) => ⟨hX90.w, zIr (hT90.t5.trans (hv5)) (⟨fun (qc3 : v5 ≥ 24) => (show K none M90 from ?g271l2), fun (qc4 : v5 < 24) => ⟨hX90.w, _, hX90.r7, ⟨hX90.w, zIr (hT90.t5.trans (hv5)) (⟨zixW hX90.aTrow hX90.lTrow (i := v5) (by omega) (by decide), _, (hX90.row (by omega) (by omega)).1, ⟨⟨⟨rfl, rfl⟩, (hX90.row (by omega) (by omega)).2.w.rcv⟩, ⟨(t + 11 + 2 * v5.toNat), size, rfl, (hX90.row (i := v5) (by omega) (by omega)).2, fun qg5 qm6 => ⟨rfl, ⟨hX90.w, zIr ((zIn _ _ _ (by omega)).trans ((zIn _ _ _ (by omega)).trans ((zIn _ _ _ (by omega)).trans ((zIn _ _ _ (by omega)).trans ((zIn _ _ _ (by omega)).trans ((zIn _ _ _ (by omega)).trans ((zIn _ _ _ (by omega)).trans ((zIn _ _ _ (by omega)).trans ((zIn _ _ _ (by omega)).trans (hT90.t5.trans (hv5))))))))))) (⟨(zrgI (x := v5 + 1) (by omega)), ⟨⟨hX90.w, trivial⟩, ⟨(zrgI (x := i + 1) (by omega)), (show Φ 2 [some (zo t), some (zi many), some (zi size), some (zi (i + 1))] [] (zsI (zsI (zsI (zsI (zsI (zsI (zsI (zsI (zsI (zsI M90 (t + 11 + 2 * v5.toNat) 0 size) (t + 11 + 2 * v5.toNat) 1 0) (t + 11 + 2 * v5.toNat) 2 (-1)) (t + 11 + 2 * v5.toNat) 3 0) (t + 11 + 2 * v5.toNat) 4 (-1)) (t + 11 + 2 * v5.toNat) 5 0) (t + 11 + 2 * v5.toNat) 6 (-1)) (t + 11 + 2 * v5.toNat) 7 (-1)) (t + 11 + 2 * v5.toNat) 8 0) t 5 (v5 + 1)) (0) (0) from ?g271l3)⟩⟩⟩)⟩⟩⟩⟩⟩)⟩⟩⟩)⟩⟩
    case g271l1 =>
      have e9 : i = many := (by omega)
      subst e9
      rw [← hg9] at hT90
      exact hK _ f9 hT90
    case g271l2 =>
      have e9 : i = many := (by omega)
      subst e9
      rw [← hg9] at hT90
      exact hK _ f9 hT90
    case g271l3 =>
      refine ih (by omega) _ (f9.tr ((((((((((Fr_I (hX90.row (i := v5) (by omega) (by omega)).2.w (by decide) (by decide) (by unfold STb; omega)).tr (Fr_I (hX90.row (i := v5) (by omega) (by omega)).2.w (by decide) (by decide) (by unfold STb; omega))).tr (Fr_I (hX90.row (i := v5) (by omega) (by omega)).2.w (by decide) (by decide) (by unfold STb; omega))).tr (Fr_I (hX90.row (i := v5) (by omega) (by omega)).2.w (by decide) (by decide) (by unfold STb; omega))).tr (Fr_I (hX90.row (i := v5) (by omega) (by omega)).2.w (by decide) (by decide) (by unfold STb; omega))).tr (Fr_I (hX90.row (i := v5) (by omega) (by omega)).2.w (by decide) (by decide) (by unfold STb; omega))).tr (Fr_I (hX90.row (i := v5) (by omega) (by omega)).2.w (by decide) (by decide) (by unfold STb; omega))).tr (Fr_I (hX90.row (i := v5) (by omega) (by omega)).2.w (by decide) (by decide) (by unfold STb; omega))).tr (Fr_I (hX90.row (i := v5) (by omega) (by omega)).2.w (by decide) (by decide) (by unfold STb; omega))).tr (Fr_I hX90.w (by decide) (by decide) (by unfold STb; omega)))) ?_
      rw [hs9]
      refine hT90.row1 hGI9 (by omega) (fun s l z => (zTx_I (M := (zsI (zsI (zsI (zsI (zsI (zsI (zsI (zsI (zsI M90 (t + 11 + 2 * v5.toNat) 0 size) (t + 11 + 2 * v5.toNat) 1 0) (t + 11 + 2 * v5.toNat) 2 (-1)) (t + 11 + 2 * v5.toNat) 3 0) (t + 11 + 2 * v5.toNat) 4 (-1)) (t + 11 + 2 * v5.toNat) 5 0) (t + 11 + 2 * v5.toNat) 6 (-1)) (t + 11 + 2 * v5.toNat) 7 (-1)) (t + 11 + 2 * v5.toNat) 8 0)) hX90.w (by decide) (by decide) (zTx_I (M := (zsI (zsI (zsI (zsI (zsI (zsI (zsI (zsI M90 (t + 11 + 2 * v5.toNat) 0 size) (t + 11 + 2 * v5.toNat) 1 0) (t + 11 + 2 * v5.toNat) 2 (-1)) (t + 11 + 2 * v5.toNat) 3 0) (t + 11 + 2 * v5.toNat) 4 (-1)) (t + 11 + 2 * v5.toNat) 5 0) (t + 11 + 2 * v5.toNat) 6 (-1)) (t + 11 + 2 * v5.toNat) 7 (-1))) (hX90.row (i := v5) (by omega) (by omega)).2.w (by decide) (by decide) (zTx_I (M := (zsI (zsI (zsI (zsI (zsI (zsI (zsI M90 (t + 11 + 2 * v5.toNat) 0 size) (t + 11 + 2 * v5.toNat) 1 0) (t + 11 + 2 * v5.toNat) 2 (-1)) (t + 11 + 2 * v5.toNat) 3 0) (t + 11 + 2 * v5.toNat) 4 (-1)) (t + 11 + 2 * v5.toNat) 5 0) (t + 11 + 2 * v5.toNat) 6 (-1))) (hX90.row (i := v5) (by omega) (by omega)).2.w (by decide) (by decide) (zTx_I (M := (zsI (zsI (zsI (zsI (zsI (zsI M90 (t + 11 + 2 * v5.toNat) 0 size) (t + 11 + 2 * v5.toNat) 1 0) (t + 11 + 2 * v5.toNat) 2 (-1)) (t + 11 + 2 * v5.toNat) 3 0) (t + 11 + 2 * v5.toNat) 4 (-1)) (t + 11 + 2 * v5.toNat) 5 0)) (hX90.row (i := v5) (by omega) (by omega)).2.w (by decide) (by decide) (zTx_I (M := (zsI (zsI (zsI (zsI (zsI M90 (t + 11 + 2 * v5.toNat) 0 size) (t + 11 + 2 * v5.toNat) 1 0) (t + 11 + 2 * v5.toNat) 2 (-1)) (t + 11 + 2 * v5.toNat) 3 0) (t + 11 + 2 * v5.toNat) 4 (-1))) (hX90.row (i := v5) (by omega) (by omega)).2.w (by decide) (by decide) (zTx_I (M := (zsI (zsI (zsI (zsI M90 (t + 11 + 2 * v5.toNat) 0 size) (t + 11 + 2 * v5.toNat) 1 0) (t + 11 + 2 * v5.toNat) 2 (-1)) (t + 11 + 2 * v5.toNat) 3 0)) (hX90.row (i := v5) (by omega) (by omega)).2.w (by decide) (by decide) (zTx_I (M := (zsI (zsI (zsI M90 (t + 11 + 2 * v5.toNat) 0 size) (t + 11 + 2 * v5.toNat) 1 0) (t + 11 + 2 * v5.toNat) 2 (-1))) (hX90.row (i := v5) (by omega) (by omega)).2.w (by decide) (by decide) (zTx_I (M := (zsI (zsI M90 (t + 11 + 2 * v5.toNat) 0 size) (t + 11 + 2 * v5.toNat) 1 0)) (hX90.row (i := v5) (by omega) (by omega)).2.w (by decide) (by decide) (zTx_I (M := (zsI M90 (t + 11 + 2 * v5.toNat) 0 size)) (hX90.row (i := v5) (by omega) (by omega)).2.w (by decide) (by decide) (zTx_I (M := M90) (hX90.row (i := v5) (by omega) (by omega)).2.w (by decide) (by decide) z))))))))))) rfl (fun j j0 j1 => ?_) (fun k hk => ?_) ?_ ?_ ?_ ?_ ?_ ?_ ?_ ?_ <;> (try rw [hv5]) <;> (try rw [hv5] at j1)
      · simp (disch := omega) only [zI_In]
      · simp (disch := omega) only [zIs, zIm, zIn]
      all_goals simp (disch := omega) only [zIs, zIm, zIn]
    done)
  refine zGoR hΦ [2] 400 (fun hL9 _ hM _ _ => ?_)
  obtain ⟨qL1, qL2, _⟩ : zrg many ∧ zrg size ∧ True := hL9
  refine (show Φ 2 [some (zo t), some (zi many), some (zi size), some (zi 0)] [] M (0) (0) from ?g272l1)
  case g272l1 => exact loop 0 (by omega) (by omega) M Fr.rf hT
theorem M_X5_putRows {l : Launch} (hl : l.stackTraces = false) : zMet l yX5_putRows (Cond.code yX5_putRows cX5_putRows 4 (Option.none : Option Jvm.ClassFile.FieldType) :: zG) rm_X5_putRows 0 0 T_X5_putRows := met_X5_putRows hl (M_X4_begin hl) bd_X5_putRows
