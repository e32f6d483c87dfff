/-! the reference: the most takings -/
def S3m (j : Nat) : Prop := j = 670 ∨ j = 675 ∨ j = 676
def XM (M M' : ZM) : Prop := Fr S3m M M' ∧ (∀ f : Nat, f ≠ 0 → zI M' 670 f = zI M 670 f) ∧ zI M' 670 0 = 0
theorem XM.a {M M9 : ZM} {g : Gm} (hY : LY M) (h : XM M M9) : XM M (zsA M9 675 g) := ⟨h.1.tr (Fr_A (hY.fr h.1).a14 (by decide) (by decide) (Or.inr (Or.inl rfl))), fun f hf => (congrFun (zI_An M9 g (by decide)) f).trans (h.2.1 f hf), (congrFun (zI_An M9 g (by decide)) 0).trans h.2.2⟩
theorem XM.b {M M9 : ZM} {g : Gm} (hY : LY M) (h : XM M M9) : XM M (zsA M9 676 g) := ⟨h.1.tr (Fr_A (hY.fr h.1).a15 (by decide) (by decide) (Or.inr (Or.inr rfl))), fun f hf => (congrFun (zI_An M9 g (by decide)) f).trans (h.2.1 f hf), (congrFun (zI_An M9 g (by decide)) 0).trans h.2.2⟩
theorem XM.f {M M9 M' : ZM} (hY : LY M) (h : XM M M9) (f : Fr S53 M9 M') : XM M M' := by
  have e : zI M' 670 = zI M9 670 := f.i (hY.fr h.1).w (by unfold S53; omega)
  exact ⟨h.1.tr (f.mono (fun j z => by unfold S53 at z; unfold S3m; omega)), fun k hk => by rw [e]; exact h.2.1 k hk, by rw [e]; exact h.2.2⟩
theorem XM.z {M : ZM} (hY : LY M) : XM M (zsI M 670 0 0) := ⟨Fr_I hY.w (by decide) (by decide) (Or.inl rfl), fun f hf => zI_Im _ _ _ hf, zI_Is _ _ _ _⟩
theorem KI.r {p : Int → Int → Bool} {n R i c : Int} {H : Gm} (h : KI p n R i c H) (i0 : 0 ≤ i) : 0 ≤ c ∧ c ≤ i := by
  obtain ⟨-, D, U, -, h2, -⟩ := h
  have := cntI_r U i i0
  omega

def T_X9_mostTakings : ZTf := fun av M K KX => ∃ (G : Gm), av = [zo 670] ∧ (LY M) ∧ (MA M 671) ∧ (zI M 671 = G) ∧ (GI G) ∧ (∀ (M' : ZM) (c : Int), XM M M' → MTk (fCan G) (G 4) (G 5) c → K (some (zi c)) M')
set_option maxRecDepth 100000 in
set_option maxHeartbeats 1500000 in
theorem bd_X9_mostTakings : zBd (cd_X9_mostTakings T_X9_workers (T_X9_finds 30)) 4 0 0 T_X9_mostTakings := by
  rintro av M K KX hA0 hM ⟨G, rfl, hY, hA, eG, hG, hK⟩
  obtain ⟨hw5, hr5, hR5⟩ := id hG
  refine ⟨rfl, fun Φ hΦ => ?_⟩
  have s59 : ∀ (M90 : ZM) (c i : Int), XM M M90 → KI (fCan G) (G 4) (G 5) i c (zI M90 675) → 0 ≤ i → i < G 4 → (∀ q : Int, 0 ≤ q → q < 24 → zI M90 676 q.toNat = 0) → (∀ (M8 : ZM) (c' : Int), XM M M8 → KI (fCan G) (G 4) (G 5) (i + 1) c' (zI M8 675) → Φ 30 [some (zo 670), some (zi c'), some (zi (i + 1)), none] [] M8 0 0) → Φ 59 [some (zo 670), some (zi c), some (zi i), some (zi 24)] [] M90 0 0 := by
    intro M90 c i hx90 hki h0 h1 hz90 ih
    have hY90 := hY.fr hx90.1
    have hA90 := MA.fr hY hA hx90.1
    have eG90 : zI M90 671 = G := (hx90.1.i hY.a1 (by unfold S3m; omega)).trans eG
    have hun := cntI_r (fun r => decide (zI M90 676 r.toNat ≠ 1)) (G 5) hr5.1
    have hkr := hki.r h0
    refine zGoR hΦ [30] 400 (fun hL9 _ hM _ _ => ?_)
    obtain ⟨qL1, qL2, qL3, _⟩ : zrg c ∧ zrg i ∧ zrg 24 ∧ True := hL9
    refine ⟨⟨⟨rfl, rfl⟩, hY90.w.rcv⟩, ⟨G, i, rfl, hY90, hA90, eG90, hG, (by omega), hki.1, (fun q a b => Or.inl (hz90 q a (by omega))), (by unfold unt; omega), fun M1 s1 hf1 hq1 => (have hY1 := hY90.fr hf1; fun (qg1 : zrg (b2i s1)) qm2 => ⟨fun h => (have qc3 : s1 = false := b2i_e0 h; ⟨(zrgI (x := c + 0) (by omega)), zIr (Int.add_zero _) (⟨(zrgI (x := i + 1) (by omega)), (zFg hΦ 3 (show Φ 30 [some (zo 670), some (zi c), some (zi (i + 1)), none] [] M1 (0) (0) from ?g455l1))⟩)⟩), fun h => (have qc4 : s1 = true := b2i_n0 h; ⟨(zrgI (x := c + 1) (by omega)), ⟨(zrgI (x := i + 1) (by omega)), (zFg hΦ 3 (show Φ 30 [some (zo 670), some (zi (c + 1)), some (zi (i + 1)), none] [] M1 (0) (0) from ?g455l2))⟩⟩)⟩)⟩⟩
    case g455l1 =>
      have h9 := hki.s h0 (fun r a b => hz90 r a (by omega)) hq1
      rw [show s1 = false by assumption] at h9
      rw [show c + b2i false = c from Int.add_zero c] at h9
      exact ih _ _ (hx90.f hY hf1) h9
    case g455l2 =>
      have h9 := hki.s h0 (fun r a b => hz90 r a (by omega)) hq1
      rw [show s1 = true by assumption] at h9
      exact ih _ _ (hx90.f hY hf1) h9
  have lo40 : ∀ (c i : Int) (H : Gm), KI (fCan G) (G 4) (G 5) i c H → 0 ≤ i → i < G 4 → (∀ (M8 : ZM) (c' : Int), XM M M8 → KI (fCan G) (G 4) (G 5) (i + 1) c' (zI M8 675) → Φ 30 [some (zo 670), some (zi c'), some (zi (i + 1)), none] [] M8 0 0) → ∀ j, 0 ≤ j → j ≤ 24 → ∀ M90 : ZM, XM M M90 → zI M90 675 = H → (∀ q : Int, 0 ≤ q → q < j → zI M90 676 q.toNat = 0) → Φ 40 [some (zo 670), some (zi c), some (zi i), some (zi j)] [] M90 0 0 := by
    intro c i H hki i0 i1 hnx
    refine zdown (n := 24) (P := fun j => ∀ M90 : ZM, XM M M90 → zI M90 675 = H → (∀ q : Int, 0 ≤ q → q < j → zI M90 676 q.toNat = 0) → Φ 40 [some (zo 670), some (zi c), some (zi i), some (zi j)] [] M90 0 0) (fun j h0 h1 ih M90 hx90 e53 hz90 => ?_)
    have hY90 := hY.fr hx90.1
    refine zGoR hΦ [40, 59] 400 (fun hL9 _ hM _ _ => ?_)
    obtain ⟨qL1, qL2, qL3, _⟩ : zrg c ∧ zrg i ∧ zrg j ∧ True := hL9
    refine ⟨fun (qc1 : j ≥ 24) => (show Φ 59 [some (zo 670), some (zi c), some (zi i), some (zi j)] [] M90 (0) (0) from ?g456l1), fun (qc2 : j < 24) => ⟨hY90.w, _, hY90.r15, ⟨⟨zixW hY90.a15 hY90.l15 (i := j) (by omega) (by decide), (Or.inl rfl)⟩, zMr (zsI_g0 _ _ j _) (⟨(zrgI (x := j + 1) (by omega)), (show Φ 40 [some (zo 670), some (zi c), some (zi i), some (zi (j + 1))] [] (zsA M90 676 (gU (zI M90 676) j 0)) (0) (0) from ?g456l2)⟩)⟩⟩⟩
    case g456l1 =>
      have e9 : j = 24 := (by omega)
      subst e9
      exact s59 M90 c i hx90 (by rw [e53]; exact hki) i0 i1 hz90 hnx
    case g456l2 =>
      refine ih (by omega) _ (hx90.b hY) ((zI_An _ _ (by decide)).trans e53) (fun q a b => ?_)
      rw [zI_A, gU_q h0 a]
      split
      · rfl
      · exact hz90 q a (by omega)
  have lo30 : ∀ i, 0 ≤ i → i ≤ G 4 → ∀ (M90 : ZM) (c : Int), XM M M90 → KI (fCan G) (G 4) (G 5) i c (zI M90 675) → Φ 30 [some (zo 670), some (zi c), some (zi i), none] [] M90 0 0 := by
    refine zdown (n := G 4) (P := fun i => ∀ (M90 : ZM) (c : Int), XM M M90 → KI (fCan G) (G 4) (G 5) i c (zI M90 675) → Φ 30 [some (zo 670), some (zi c), some (zi i), none] [] M90 0 0) (fun i h0 h1 ih M90 c hx90 hki => ?_)
    have hY90 := hY.fr hx90.1
    have hA90 := MA.fr hY hA hx90.1
    have eG90 : zI M90 671 = G := (hx90.1.i hY.a1 (by unfold S3m; omega)).trans eG
    have e4 : zI M90 671 4 = G 4 := congrFun eG90 4
    have hkr := hki.r h0
    refine zGoR hΦ [30, 40] 400 (fun hL9 _ hM _ _ => ?_)
    obtain ⟨qL1, qL2, _⟩ : zrg c ∧ zrg i ∧ True := hL9
    refine ⟨⟨⟨rfl, rfl⟩, hY90.w.rcv⟩, ⟨rfl, ⟨hY90.w, _, hA90.1, ⟨zixO hA90.2.1 hA90.2.2 (i := 4) (by decide) (by decide), ⟨trivial, fun (qg1 : zrg (zI M90 671 4)) _ => ⟨fun (qc2 : i ≥ zI M90 671 4) => ⟨trivial, (show K (some (zi c)) M90 from ?g457l1)⟩, fun (qc3 : i < zI M90 671 4) => (show Φ 40 [some (zo 670), some (zi c), some (zi i), some (zi 0)] [] M90 (0) (0) from ?g457l2)⟩⟩⟩⟩⟩⟩
    case g457l1 =>
      have e9 : i = G 4 := (by omega)
      subst e9
      exact hK _ _ hx90 (hki.e (by omega) (by omega))
    case g457l2 =>
      exact lo40 c i _ hki h0 (by omega) (fun M8 c8 a b => ih (by omega) M8 c8 a b) 0 (by omega) (by omega) M90 hx90 rfl (fun q a b => by omega)
  have lo7 : ∀ i, 0 ≤ i → i ≤ 24 → ∀ (M90 : ZM), XM M M90 → (∀ q : Int, 0 ≤ q → q < i → zI M90 675 q.toNat = -1) → Φ 7 [some (zo 670), some (zi i), none, none] [] M90 0 0 := by
    refine zdown (n := 24) (P := fun i => ∀ (M90 : ZM), XM M M90 → (∀ q : Int, 0 ≤ q → q < i → zI M90 675 q.toNat = -1) → Φ 7 [some (zo 670), some (zi i), none, none] [] M90 0 0) (fun i h0 h1 ih M90 hx90 hz90 => ?_)
    have hY90 := hY.fr hx90.1
    refine zGoR hΦ [7, 30] 400 (fun hL9 _ hM _ _ => ?_)
    obtain ⟨qL1, _⟩ : zrg i ∧ True := hL9
    refine ⟨fun (qc1 : i ≥ 24) => (show Φ 30 [some (zo 670), some (zi 0), some (zi 0), none] [] M90 (0) (0) from ?g458l1), fun (qc2 : i < 24) => ⟨hY90.w, _, hY90.r14, ⟨⟨zixW hY90.a14 hY90.l14 (i := i) (by omega) (by decide), trivial⟩, zMr (zsI_g0 _ _ i _) (⟨(zrgI (x := i + 1) (by omega)), (show Φ 7 [some (zo 670), some (zi (i + 1)), none, none] [] (zsA M90 675 (gU (zI M90 675) i (-1))) (0) (0) from ?g458l2)⟩)⟩⟩⟩
    case g458l1 =>
      have e9 : i = 24 := (by omega)
      subst e9
      exact lo30 0 (by omega) (by omega) M90 0 hx90 (KI.z (by omega) (fun r a b => hz90 r a (by omega)))
    case g458l2 =>
      refine ih (by omega) _ (hx90.a hY) (fun q a b => ?_)
      rw [zI_A, gU_q h0 a]
      split
      · rfl
      · exact hz90 q a (by omega)
  refine zGoR hΦ [7] 400 (fun hL9 _ hM _ _ => ?_)
  obtain ⟨_⟩ : True := hL9
  refine ⟨⟨hY.w, trivial⟩, (show Φ 7 [some (zo 670), some (zi 0), none, none] [] (zsI M 670 0 0) (0) (0) from ?g459l1)⟩
  case g459l1 =>
    exact lo7 0 (by omega) (by omega) _ (XM.z hY) (fun q a b => by omega)
theorem M_X9_mostTakings {l : Launch} (hl : l.stackTraces = false) : zMet l yX9_mostTakings (Cond.code yX9_mostTakings cX9_mostTakings 4 (Option.some Jvm.ClassFile.FieldType.int) :: zG) rm_X9_mostTakings 0 0 T_X9_mostTakings := met_X9_mostTakings hl (M_X9_workers hl) (M_X9_finds hl 30) bd_X9_mostTakings
