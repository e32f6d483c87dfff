/-! the reference: a result delivered -/

theorem zMw {Ψ : ZPhi} {pc : Nat} {L : List (Option ZV)} {st : List ZV} {M0 M : ZM} {A : Nat} {e : Gm} {k n : Nat} (e1 : M0 = zsA M A e) (h : ∀ g : Gm, g = e → Ψ pc L st (zsA M A g) k n) : Ψ pc L st M0 k n := by subst e1; exact h e rfl
def hidP (p : Prop) : Prop := p
theorem hidP_u {p : Prop} (h : hidP p) : p := h
def zEqn (x y : Int) : Prop := x = y
theorem zEq {x y : Int} (h : zEqn x y) : x = y := h
theorem zIv {Ψ : ZPhi} {pc : Nat} {L : List (Option ZV)} {st : List ZV} {M : ZM} {k n : Nat} {y : Int} (h : ∀ v, zEqn y v → Ψ pc L (zi v :: st) M k n) : Ψ pc L (zi y :: st) M k n := h y rfl
theorem zsI_gG {M : ZM} {A : Nat} {G : Gm} (h : zI M A = G) (i v : Int) : zsI M A i.toNat v = zsA M A (gU G i v) := by rw [← h]; exact zsI_A _ _ _ _
theorem gS {g g' : Gm} {i v : Int} (h : g = gU g' i v) : g i.toNat = v := by rw [h]; exact gU_s _ _ _
theorem gN {g g' : Gm} {i v : Int} (h : g = gU g' i v) {k : Nat} (hk : k ≠ i.toNat) : g k = g' k := by rw [h]; exact gU_n _ hk
theorem RI_A {M : ZM} {A : Nat} {g : Gm} {r : Int} (h : RI g r) : RI (zI (zsA M A g) A) r := by rw [zI_A]; exact h
def WBd (g : Gm) (w : Int) : Prop := (0 ≤ (g (6 + 9 * w + 3).toNat) ∧ (g (6 + 9 * w + 3).toNat) ≤ 20) ∧ (0 ≤ (g (6 + 9 * w + 6).toNat) ∧ (g (6 + 9 * w + 6).toNat) ≤ 100000) ∧ (0 ≤ (g (6 + 9 * w + 8).toNat) ∧ (g (6 + 9 * w + 8).toNat) ≤ 100000)
/-- what a row with n takings has, ahead of being compared -/
def DB (g : Gm) (r n : Int) : Prop := (0 ≤ r ∧ r < 24) ∧ (1 ≤ (g (132 + 16 * r + 0).toNat) ∧ (g (132 + 16 * r + 0).toNat) ≤ 9) ∧ (0 ≤ g 0 ∧ g 0 ≤ 20) ∧ (∀ k : Int, 0 ≤ k → k < n → (0 ≤ (g (132 + 16 * r + (7 + 3 * k + 0)).toNat) ∧ (g (132 + 16 * r + (7 + 3 * k + 0)).toNat) < 6) ∧ (-1 ≤ (g (132 + 16 * r + (7 + 3 * k + 1)).toNat) ∧ (g (132 + 16 * r + (7 + 3 * k + 1)).toNat) ≤ 99) ∧ WBd g (g (132 + 16 * r + (7 + 3 * k + 0)).toNat)) ∧ ∀ k l : Int, 0 ≤ k → k < l → l < n → (g (132 + 16 * r + (7 + 3 * k + 0)).toNat) ≠ (g (132 + 16 * r + (7 + 3 * l + 0)).toNat)
theorem DB_A {M : ZM} {A : Nat} {g : Gm} {r n : Int} (h : DB g r n) : DB (zI (zsA M A g) A) r n := by rw [zI_A]; exact h
def fClamp (x : Int) : Int := zmax 0 (zmin 20 x)

def fHave (g : Gm) (r many : Int) : Bool := foldI (fun k b => b && decide ((g (132 + 16 * r + (7 + 3 * k + 1)).toNat) ≠ -1)) (decide ((g (132 + 16 * r + 6).toNat) = many)) (g (132 + 16 * r + 6).toNat)
def T_X9_haveAll : ZTf := fun av M K KX => ∃ (A : Nat) (r many : Int), av = [zo 670, zi r, zi many] ∧ (LY M) ∧ (MA M A) ∧ (RI (zI M A) r) ∧  K (some (zi (b2i (fHave (zI M A) r many)))) M
set_option maxRecDepth 100000 in
set_option maxHeartbeats 4000000 in
theorem bd_X9_haveAll : zBd (cd_X9_haveAll T_X9_manyAt T_X9_isInWork) 5 0 0 T_X9_haveAll := by
  rintro av M K KX hA0 hM ⟨A, r, many, rfl, hY, hA, hR, hK⟩
  obtain ⟨hr, hm, hk⟩ := id hR
  refine ⟨rfl, fun Φ hΦ => ?_⟩
  have loop := zdown (n := ((zI M A) (132 + 16 * r + 6).toNat)) (P := fun i => Φ 18 [some (zo 670), some (zi r), some (zi many), some (zi (b2i (foldI (fun k b => b && decide (((zI M A) (132 + 16 * r + (7 + 3 * k + 1)).toNat) ≠ -1)) (decide (((zI M A) (132 + 16 * r + 6).toNat) = many)) i))), some (zi i)] [] M 0 0) (fun i h0 h1 ih => by
    refine zGoR hΦ [18] 400 (fun hL9 _ hM _ _ => ?_)
    obtain ⟨qL1, qL2, qL3, qL4, _⟩ : zrg r ∧ zrg many ∧ zrg (b2i (foldI (fun k b => b && decide (((zI M A) (132 + 16 * r + (7 + 3 * k + 1)).toNat) ≠ -1)) (decide (((zI M A) (132 + 16 * r + 6).toNat) = many)) i)) ∧ zrg i ∧ True := hL9
    refine ⟨⟨⟨rfl, rfl⟩, hY.w.rcv⟩, ⟨rfl, ⟨⟨⟨rfl, rfl⟩, hY.w.rcv⟩, ⟨rfl, ⟨hY.w, _, hA.1, ⟨(zrgI (x := 16 * r) (by omega)), ⟨(zrgI (x := 132 + 16 * r) (by omega)), ⟨(zrgI (x := 132 + 16 * r + 6) (by omega)), ⟨zixO hA.2.1 hA.2.2 (i := 132 + 16 * r + 6) (by omega) (by decide), ⟨trivial, fun (qg1 : zrg (zI M A ((132 + 16 * r + 6).toNat))) _ => ⟨trivial, fun (qg2 : zrg (zI M A ((132 + 16 * r + 6).toNat))) _ => ⟨fun (qc3 : i ≥ zI M A ((132 + 16 * r + 6).toNat)) => ⟨(b2i_z _), (show K (some (zi (b2i (foldI (fun k b => b && decide (((zI M A) (132 + 16 * r + (7 + 3 * k + 1)).toNat) ≠ -1)) (decide (((zI M A) (132 + 16 * r + 6).toNat) = many)) i)))) M from ?g153l1)⟩, fun (qc4 : i < zI M A ((132 + 16 * r + 6).toNat)) => ⟨fun h => (have qc5 : (foldI (fun k b => b && decide (((zI M A) (132 + 16 * r + (7 + 3 * k + 1)).toNat) ≠ -1)) (decide (((zI M A) (132 + 16 * r + 6).toNat) = many)) i) = false := b2i_e0 h; ⟨(zrgI (x := i + 1) (by omega)), (show Φ 18 [some (zo 670), some (zi r), some (zi many), some (zi 0), some (zi (i + 1))] [] M (0) (0) from ?g153l2)⟩), fun h => (have qc6 : (foldI (fun k b => b && decide (((zI M A) (132 + 16 * r + (7 + 3 * k + 1)).toNat) ≠ -1)) (decide (((zI M A) (132 + 16 * r + 6).toNat) = many)) i) = true := b2i_n0 h; ⟨⟨⟨rfl, rfl⟩, hY.w.rcv⟩, ⟨rfl, ⟨⟨⟨rfl, rfl⟩, hY.w.rcv⟩, ⟨rfl, ⟨(zrgI (x := 3 * i) (by omega)), ⟨(zrgI (x := 7 + 3 * i) (by omega)), ⟨(zrgI (x := 7 + 3 * i + 1) (by omega)), ⟨⟨⟨rfl, rfl⟩, hY.w.rcv⟩, ⟨rfl, ⟨hY.w, _, hA.1, ⟨(zrgI (x := 16 * r) (by omega)), ⟨(zrgI (x := 132 + 16 * r) (by omega)), ⟨(zrgI (x := 132 + 16 * r + (7 + 3 * i + 1)) (by omega)), ⟨zixO hA.2.1 hA.2.2 (i := 132 + 16 * r + (7 + 3 * i + 1)) (by omega) (by decide), ⟨trivial, fun (qg7 : zrg (zI M A ((132 + 16 * r + (7 + 3 * i + 1)).toNat))) _ => ⟨trivial, fun (qg8 : zrg (zI M A ((132 + 16 * r + (7 + 3 * i + 1)).toNat))) _ => ⟨fun (qc9 : zI M A ((132 + 16 * r + (7 + 3 * i + 1)).toNat) ≠ (-1)) => ⟨(Or.inl rfl), fun _ _ => ⟨fun (h : (0 : Int) ≠ 0) => absurd h (by decide), fun _ => ⟨(zrgI (x := i + 1) (by omega)), (show Φ 18 [some (zo 670), some (zi r), some (zi many), some (zi 1), some (zi (i + 1))] [] M (0) (0) from ?g153l3)⟩⟩⟩, fun (qc11 : zI M A ((132 + 16 * r + (7 + 3 * i + 1)).toNat) = (-1)) => ⟨(Or.inr rfl), fun _ _ => ⟨fun _ => ⟨(zrgI (x := i + 1) (by omega)), (show Φ 18 [some (zo 670), some (zi r), some (zi many), some (zi 0), some (zi (i + 1))] [] M (0) (0) from ?g153l4)⟩, fun (h : (1 : Int) = 0) => absurd h (by decide)⟩⟩⟩⟩⟩⟩⟩⟩⟩⟩⟩⟩⟩⟩⟩⟩⟩⟩⟩)⟩⟩⟩⟩⟩⟩⟩⟩⟩⟩⟩⟩⟩
    case g153l1 => first | (exfalso; omega) | (have e9 : i = ((zI M A) (132 + 16 * r + 6).toNat) := (by omega); subst e9; refine zKi hK ?_; first | (simp only [↓reduceIte, decide_eq_true_eq, decide_eq_false_iff_not, decide_true, decide_false, ne_eq, not_true_eq_false, not_false_eq_true, and_true, true_and, and_false, false_and, or_true, true_or, or_false, false_or, and_self, or_self, Bool.true_and, Bool.and_true, Bool.false_and, Bool.and_false, b2i, Bool.false_eq_true, reduceCtorEq, gt_iff_lt, ge_iff_le, fHave, foldI_s h0, b2i, qc3, Int.not_lt.mpr qc3]; done) | (simp only [↓reduceIte, decide_eq_true_eq, decide_eq_false_iff_not, decide_true, decide_false, ne_eq, not_true_eq_false, not_false_eq_true, and_true, true_and, and_false, false_and, or_true, true_or, or_false, false_or, and_self, or_self, Bool.true_and, Bool.and_true, Bool.false_and, Bool.and_false, b2i, Bool.false_eq_true, reduceCtorEq, gt_iff_lt, ge_iff_le, fHave, foldI_s h0, b2i, qc3, Int.not_lt.mpr qc3]; rfl) | (simp [fHave, foldI_s h0, b2i, qc3, Int.not_lt.mpr qc3]; done) | (simp only [fHave, foldI_s h0, b2i, zmax, zmin]; (repeat' split) <;> first | rfl | omega)) | (refine zKi hK ?_; first | (simp only [↓reduceIte, decide_eq_true_eq, decide_eq_false_iff_not, decide_true, decide_false, ne_eq, not_true_eq_false, not_false_eq_true, and_true, true_and, and_false, false_and, or_true, true_or, or_false, false_or, and_self, or_self, Bool.true_and, Bool.and_true, Bool.false_and, Bool.and_false, b2i, Bool.false_eq_true, reduceCtorEq, gt_iff_lt, ge_iff_le, fHave, foldI_s h0, b2i, qc3, Int.not_lt.mpr qc3]; done) | (simp only [↓reduceIte, decide_eq_true_eq, decide_eq_false_iff_not, decide_true, decide_false, ne_eq, not_true_eq_false, not_false_eq_true, and_true, true_and, and_false, false_and, or_true, true_or, or_false, false_or, and_self, or_self, Bool.true_and, Bool.and_true, Bool.false_and, Bool.and_false, b2i, Bool.false_eq_true, reduceCtorEq, gt_iff_lt, ge_iff_le, fHave, foldI_s h0, b2i, qc3, Int.not_lt.mpr qc3]; rfl) | (simp [fHave, foldI_s h0, b2i, qc3, Int.not_lt.mpr qc3]; done) | (simp only [fHave, foldI_s h0, b2i, zmax, zmin]; (repeat' split) <;> first | rfl | omega))
    case g153l2 => first | (exfalso; omega) | (have e9 : i = ((zI M A) (132 + 16 * r + 6).toNat) := (by omega); subst e9; simpa only [↓reduceIte, decide_eq_true_eq, decide_eq_false_iff_not, decide_true, decide_false, ne_eq, not_true_eq_false, not_false_eq_true, and_true, true_and, and_false, false_and, or_true, true_or, or_false, false_or, and_self, or_self, Bool.true_and, Bool.and_true, Bool.false_and, Bool.and_false, b2i, Bool.false_eq_true, reduceCtorEq, gt_iff_lt, ge_iff_le, fHave, foldI_s h0, b2i, qc4, qc5, Int.not_le.mpr qc4] using ih (by omega)) | (simpa only [↓reduceIte, decide_eq_true_eq, decide_eq_false_iff_not, decide_true, decide_false, ne_eq, not_true_eq_false, not_false_eq_true, and_true, true_and, and_false, false_and, or_true, true_or, or_false, false_or, and_self, or_self, Bool.true_and, Bool.and_true, Bool.false_and, Bool.and_false, b2i, Bool.false_eq_true, reduceCtorEq, gt_iff_lt, ge_iff_le, fHave, foldI_s h0, b2i, qc4, qc5, Int.not_le.mpr qc4] using ih (by omega)) | (simpa only [↓reduceIte, decide_eq_true_eq, decide_eq_false_iff_not, decide_true, decide_false, ne_eq, not_true_eq_false, not_false_eq_true, and_true, true_and, and_false, false_and, or_true, true_or, or_false, false_or, and_self, or_self, Bool.true_and, Bool.and_true, Bool.false_and, Bool.and_false, b2i, Bool.false_eq_true, reduceCtorEq, gt_iff_lt, ge_iff_le, Int.add_zero, fHave, foldI_s h0, b2i, qc4, qc5, Int.not_le.mpr qc4] using ih (by omega)) | (simpa [fHave, foldI_s h0, b2i, qc4, qc5, Int.not_le.mpr qc4] using ih (by omega))
    case g153l3 => first | (exfalso; omega) | (have e9 : i = ((zI M A) (132 + 16 * r + 6).toNat) := (by omega); subst e9; simpa only [↓reduceIte, decide_eq_true_eq, decide_eq_false_iff_not, decide_true, decide_false, ne_eq, not_true_eq_false, not_false_eq_true, and_true, true_and, and_false, false_and, or_true, true_or, or_false, false_or, and_self, or_self, Bool.true_and, Bool.and_true, Bool.false_and, Bool.and_false, b2i, Bool.false_eq_true, reduceCtorEq, gt_iff_lt, ge_iff_le, fHave, foldI_s h0, b2i, qc4, qc6, qc9, Int.not_le.mpr qc4] using ih (by omega)) | (simpa only [↓reduceIte, decide_eq_true_eq, decide_eq_false_iff_not, decide_true, decide_false, ne_eq, not_true_eq_false, not_false_eq_true, and_true, true_and, and_false, false_and, or_true, true_or, or_false, false_or, and_self, or_self, Bool.true_and, Bool.and_true, Bool.false_and, Bool.and_false, b2i, Bool.false_eq_true, reduceCtorEq, gt_iff_lt, ge_iff_le, fHave, foldI_s h0, b2i, qc4, qc6, qc9, Int.not_le.mpr qc4] using ih (by omega)) | (simpa only [↓reduceIte, decide_eq_true_eq, decide_eq_false_iff_not, decide_true, decide_false, ne_eq, not_true_eq_false, not_false_eq_true, and_true, true_and, and_false, false_and, or_true, true_or, or_false, false_or, and_self, or_self, Bool.true_and, Bool.and_true, Bool.false_and, Bool.and_false, b2i, Bool.false_eq_true, reduceCtorEq, gt_iff_lt, ge_iff_le, Int.add_zero, fHave, foldI_s h0, b2i, qc4, qc6, qc9, Int.not_le.mpr qc4] using ih (by omega)) | (simpa [fHave, foldI_s h0, b2i, qc4, qc6, qc9, Int.not_le.mpr qc4] using ih (by omega))
    case g153l4 => first | (exfalso; omega) | (have e9 : i = ((zI M A) (132 + 16 * r + 6).toNat) := (by omega); subst e9; simpa only [↓reduceIte, decide_eq_true_eq, decide_eq_false_iff_not, decide_true, decide_false, ne_eq, not_true_eq_false, not_false_eq_true, and_true, true_and, and_false, false_and, or_true, true_or, or_false, false_or, and_self, or_self, Bool.true_and, Bool.and_true, Bool.false_and, Bool.and_false, b2i, Bool.false_eq_true, reduceCtorEq, gt_iff_lt, ge_iff_le, fHave, foldI_s h0, b2i, qc4, qc6, qc11, Int.not_le.mpr qc4] using ih (by omega)) | (simpa only [↓reduceIte, decide_eq_true_eq, decide_eq_false_iff_not, decide_true, decide_false, ne_eq, not_true_eq_false, not_false_eq_true, and_true, true_and, and_false, false_and, or_true, true_or, or_false, false_or, and_self, or_self, Bool.true_and, Bool.and_true, Bool.false_and, Bool.and_false, b2i, Bool.false_eq_true, reduceCtorEq, gt_iff_lt, ge_iff_le, fHave, foldI_s h0, b2i, qc4, qc6, qc11, Int.not_le.mpr qc4] using ih (by omega)) | (simpa only [↓reduceIte, decide_eq_true_eq, decide_eq_false_iff_not, decide_true, decide_false, ne_eq, not_true_eq_false, not_false_eq_true, and_true, true_and, and_false, false_and, or_true, true_or, or_false, false_or, and_self, or_self, Bool.true_and, Bool.and_true, Bool.false_and, Bool.and_false, b2i, Bool.false_eq_true, reduceCtorEq, gt_iff_lt, ge_iff_le, Int.add_zero, fHave, foldI_s h0, b2i, qc4, qc6, qc11, Int.not_le.mpr qc4] using ih (by omega)) | (simpa [fHave, foldI_s h0, b2i, qc4, qc6, qc11, Int.not_le.mpr qc4] using ih (by omega))
    done)
  refine zGoR hΦ [18] 400 (fun hL9 _ hM _ _ => ?_)
  obtain ⟨qL1, qL2, _⟩ : zrg r ∧ zrg many ∧ True := hL9
  refine ⟨⟨⟨rfl, rfl⟩, hY.w.rcv⟩, ⟨rfl, ⟨⟨⟨rfl, rfl⟩, hY.w.rcv⟩, ⟨rfl, ⟨hY.w, _, hA.1, ⟨(zrgI (x := 16 * r) (by omega)), ⟨(zrgI (x := 132 + 16 * r) (by omega)), ⟨(zrgI (x := 132 + 16 * r + 6) (by omega)), ⟨zixO hA.2.1 hA.2.2 (i := 132 + 16 * r + 6) (by omega) (by decide), ⟨trivial, fun (qg1 : zrg (zI M A ((132 + 16 * r + 6).toNat))) _ => ⟨trivial, fun (qg2 : zrg (zI M A ((132 + 16 * r + 6).toNat))) _ => ⟨fun (qc3 : zI M A ((132 + 16 * r + 6).toNat) ≠ many) => (show Φ 18 [some (zo 670), some (zi r), some (zi many), some (zi 0), some (zi 0)] [] M (0) (0) from ?g154l1), fun (qc4 : zI M A ((132 + 16 * r + 6).toNat) = many) => (show Φ 18 [some (zo 670), some (zi r), some (zi many), some (zi 1), some (zi 0)] [] M (0) (0) from ?g154l2)⟩⟩⟩⟩⟩⟩⟩⟩⟩⟩⟩⟩
  case g154l1 => first | (exfalso; omega) | (simpa only [↓reduceIte, decide_eq_true_eq, decide_eq_false_iff_not, decide_true, decide_false, ne_eq, not_true_eq_false, not_false_eq_true, and_true, true_and, and_false, false_and, or_true, true_or, or_false, false_or, and_self, or_self, Bool.true_and, Bool.and_true, Bool.false_and, Bool.and_false, b2i, Bool.false_eq_true, reduceCtorEq, gt_iff_lt, ge_iff_le, fHave, foldI_0, b2i, qc3] using loop 0 (by omega) (by omega)) | (simpa only [↓reduceIte, decide_eq_true_eq, decide_eq_false_iff_not, decide_true, decide_false, ne_eq, not_true_eq_false, not_false_eq_true, and_true, true_and, and_false, false_and, or_true, true_or, or_false, false_or, and_self, or_self, Bool.true_and, Bool.and_true, Bool.false_and, Bool.and_false, b2i, Bool.false_eq_true, reduceCtorEq, gt_iff_lt, ge_iff_le, Int.add_zero, fHave, foldI_0, b2i, qc3] using loop 0 (by omega) (by omega)) | (simpa [fHave, foldI_0, b2i, qc3] using loop 0 (by omega) (by omega))
  case g154l2 => first | (exfalso; omega) | (simpa only [↓reduceIte, decide_eq_true_eq, decide_eq_false_iff_not, decide_true, decide_false, ne_eq, not_true_eq_false, not_false_eq_true, and_true, true_and, and_false, false_and, or_true, true_or, or_false, false_or, and_self, or_self, Bool.true_and, Bool.and_true, Bool.false_and, Bool.and_false, b2i, Bool.false_eq_true, reduceCtorEq, gt_iff_lt, ge_iff_le, fHave, foldI_0, b2i, qc4] using loop 0 (by omega) (by omega)) | (simpa only [↓reduceIte, decide_eq_true_eq, decide_eq_false_iff_not, decide_true, decide_false, ne_eq, not_true_eq_false, not_false_eq_true, and_true, true_and, and_false, false_and, or_true, true_or, or_false, false_or, and_self, or_self, Bool.true_and, Bool.and_true, Bool.false_and, Bool.and_false, b2i, Bool.false_eq_true, reduceCtorEq, gt_iff_lt, ge_iff_le, Int.add_zero, fHave, foldI_0, b2i, qc4] using loop 0 (by omega) (by omega)) | (simpa [fHave, foldI_0, b2i, qc4] using loop 0 (by omega) (by omega))
theorem M_X9_haveAll {l : Launch} (hl : l.stackTraces = false) : zMet l yX9_haveAll (Cond.code yX9_haveAll cX9_haveAll 5 (Option.some Jvm.ClassFile.FieldType.boolean) :: zG) rm_X9_haveAll 0 0 T_X9_haveAll := met_X9_haveAll hl (M_X9_manyAt hl) (M_X9_isInWork hl) bd_X9_haveAll

def fGain (g : Gm) (w r : Int) : Gm := gU (gU (gU g (6 + 9 * w + 3) (fClamp ((g (6 + 9 * w + 3).toNat) + 1))) (6 + 9 * w + 6) ((g (6 + 9 * w + 6).toNat) + 1)) (6 + 9 * w + 8) ((g (6 + 9 * w + 8).toNat) + (g (132 + 16 * r + 0).toNat))
theorem fGain_n (g : Gm) {w r : Int} {k : Nat} (h : k ≠ (6 + 9 * w + 3).toNat ∧ k ≠ (6 + 9 * w + 6).toNat ∧ k ≠ (6 + 9 * w + 8).toNat) : fGain g w r k = g k := by
  unfold fGain
  rw [gU_n _ h.2.2, gU_n _ h.2.1, gU_n _ h.1]
theorem WBd.u {g : Gm} {i v w : Int} (h : WBd g w) (hw : 0 ≤ w ∧ w < 6) (hi : 60 ≤ i) : WBd (gU g i v) w := by
  unfold WBd at *
  rw [gU_n _ (by omega), gU_n _ (by omega), gU_n _ (by omega)]
  exact h
theorem WBd.g {g : Gm} {a r w : Int} (h : WBd g w) (hw : 0 ≤ w ∧ w < 6) (ha : 0 ≤ a ∧ a < 6) (hn : a ≠ w) : WBd (fGain g a r) w := by
  unfold WBd at *
  rw [fGain_n _ (by omega), fGain_n _ (by omega), fGain_n _ (by omega)]
  exact h
theorem WBd_A {M : ZM} {A : Nat} {g : Gm} {w : Int} (h : WBd g w) : WBd (zI (zsA M A g) A) w := by rw [zI_A]; exact h
theorem eqA {M : ZM} {A k : Nat} {g : Gm} {P : Int → Prop} (h : P (g k)) : P (zI (zsA M A g) A k) := by rw [zI_A]; exact h

def T_X9_gains : ZTf := fun av M K KX => ∃ (w r : Int), av = [zo 670, zi w, zi r] ∧ (LY M) ∧ (MA M 671) ∧ (0 ≤ w ∧ w < 6) ∧ (0 ≤ r ∧ r < 24) ∧ (WBd (zI M 671) w) ∧ (1 ≤ ((zI M 671) (132 + 16 * r + 0).toNat) ∧ ((zI M 671) (132 + 16 * r + 0).toNat) ≤ 9) ∧  K none (zsA M 671 (fGain (zI M 671) w r))
set_option maxRecDepth 100000 in
set_option maxHeartbeats 4000000 in
theorem bd_X9_gains : zBd (cd_X9_gains T_X9_trusts T_X9_add T_X9_ofRow) 3 0 0 T_X9_gains := by
  rintro av M K KX hA0 hM ⟨w, r, rfl, hY, hA, hp0, hp1, hWB, hSz, hK⟩
  obtain ⟨hb1, hb2, hb3⟩ := id hWB
  refine ⟨rfl, fun Φ hΦ => ?_⟩
  refine zGoR hΦ [] 400 (fun hL9 _ hM _ _ => ?_)
  obtain ⟨qL1, qL2, _⟩ : zrg w ∧ zrg r ∧ True := hL9
  refine ⟨⟨⟨rfl, rfl⟩, hY.w.rcv⟩, ⟨rfl, ⟨(zrgI (x := 9 * w) (by omega)), ⟨(zrgI (x := 6 + 9 * w) (by omega)), ⟨(zrgI (x := 6 + 9 * w + 3) (by omega)), ⟨hY.w, _, hA.1, ⟨hY.w, _, hA.1, ⟨zixO hA.2.1 hA.2.2 (i := 6 + 9 * w + 3) (by omega) (by decide), ⟨(zrgI (x := zI M 671 ((6 + 9 * w + 3).toNat) + 1) (by omega)), ⟨rfl, ⟨rfl, ⟨⟨zixW hA.2.1 hA.2.2 (i := 6 + 9 * w + 3) (by omega) (by decide), trivial⟩, zMw (zsI_g0 M 671 (6 + 9 * w + 3) (zmax 0 (zmin 20 (zI M 671 ((6 + 9 * w + 3).toNat) + 1)))) (fun g1 hg1 => fun _ _ => ⟨⟨⟨rfl, rfl⟩, hY.w.rcv⟩, ⟨rfl, ⟨hY.w, _, hA.1, ⟨(zrgI (x := 9 * w) (by omega)), ⟨(zrgI (x := 6 + 9 * w) (by omega)), ⟨(zrgI (x := 6 + 9 * w + 6) (by omega)), ⟨⟨rfl, rfl⟩, ⟨zixO hA.2.1 hA.2.2 (i := 6 + 9 * w + 6) (by omega) (by decide), zIr ((zIa _ _ _ _).trans ((gN hg1 (by omega)))) (⟨(zrgI (x := (zI M 671) (6 + 9 * w + 6).toNat + 1) (by omega)), ⟨⟨zixW hA.2.1 hA.2.2 (i := 6 + 9 * w + 6) (by omega) (by decide), trivial⟩, zMw (zsI_gU M 671 g1 (6 + 9 * w + 6) ((zI M 671) (6 + 9 * w + 6).toNat + 1)) (fun g2 hg2 => fun _ _ => ⟨⟨⟨rfl, rfl⟩, hY.w.rcv⟩, ⟨rfl, ⟨hY.w, _, hA.1, ⟨(zrgI (x := 16 * r) (by omega)), ⟨(zrgI (x := 132 + 16 * r) (by omega)), ⟨(zrgI (x := 132 + 16 * r + 0) (by omega)), ⟨zixO hA.2.1 hA.2.2 (i := 132 + 16 * r + 0) (by omega) (by decide), zIr ((zIa _ _ _ _).trans (Eq.trans (gN hg2 (by omega)) ((gN hg1 (by omega))))) (⟨trivial, fun (qg3 : zrg ((zI M 671) (132 + 16 * r + 0).toNat)) _ => ⟨⟨⟨rfl, rfl⟩, hY.w.rcv⟩, ⟨rfl, ⟨hY.w, _, hA.1, ⟨(zrgI (x := 9 * w) (by omega)), ⟨(zrgI (x := 6 + 9 * w) (by omega)), ⟨(zrgI (x := 6 + 9 * w + 8) (by omega)), ⟨⟨rfl, rfl⟩, ⟨zixO hA.2.1 hA.2.2 (i := 6 + 9 * w + 8) (by omega) (by decide), zIr ((zIa _ _ _ _).trans (Eq.trans (gN hg2 (by omega)) ((gN hg1 (by omega))))) (⟨(zrgI (x := (zI M 671) (6 + 9 * w + 8).toNat + ((zI M 671) (132 + 16 * r + 0).toNat)) (by omega)), ⟨⟨zixW hA.2.1 hA.2.2 (i := 6 + 9 * w + 8) (by omega) (by decide), trivial⟩, zMw (zsI_gU M 671 g2 (6 + 9 * w + 8) ((zI M 671) (6 + 9 * w + 8).toNat + ((zI M 671) (132 + 16 * r + 0).toNat))) (fun g3 hg3 => fun _ _ => (show K none (zsA M 671 g3) from ?g155l1))⟩⟩)⟩⟩⟩⟩⟩⟩⟩⟩⟩)⟩⟩⟩⟩⟩⟩⟩)⟩⟩)⟩⟩⟩⟩⟩⟩⟩⟩)⟩⟩⟩⟩⟩⟩⟩⟩⟩⟩⟩⟩
  case g155l1 => subst hg3; subst hg2; subst hg1; refine zKn hK ?_; first | rfl | (simp only [fGain, fClamp]; rfl) | (simp only [↓reduceIte, decide_eq_true_eq, decide_eq_false_iff_not, decide_true, decide_false, ne_eq, not_true_eq_false, not_false_eq_true, and_true, true_and, and_false, false_and, or_true, true_or, or_false, false_or, and_self, or_self, Bool.true_and, Bool.and_true, Bool.false_and, Bool.and_false, b2i, Bool.false_eq_true, reduceCtorEq, gt_iff_lt, ge_iff_le, fGain, fClamp]; rfl) | (simp [fGain, fClamp])
theorem M_X9_gains {l : Launch} (hl : l.stackTraces = false) : zMet l yX9_gains (Cond.code yX9_gains cX9_gains 3 (Option.none : Option Jvm.ClassFile.FieldType) :: zG) rm_X9_gains 0 0 T_X9_gains := met_X9_gains hl (M_X9_trusts hl) (M_X9_add hl) (M_X9_ofRow hl) bd_X9_gains

def fFin (g : Gm) (r p q : Int) : Gm := fGain (fGain (gU (gU (gU g (132 + 16 * r + 2) (if (g (6 + 9 * (g (132 + 16 * r + (7 + 3 * p + 0)).toNat) + 3).toNat) < (g (6 + 9 * (g (132 + 16 * r + (7 + 3 * q + 0)).toNat) + 3).toNat) then (g (132 + 16 * r + (7 + 3 * q + 1)).toNat) else (g (132 + 16 * r + (7 + 3 * p + 1)).toNat))) (132 + 16 * r + 1) 2) (132 + 16 * r + 5) (zor (zshl 1 (g (132 + 16 * r + (7 + 3 * p + 0)).toNat)) (zshl 1 (g (132 + 16 * r + (7 + 3 * q + 0)).toNat)))) (g (132 + 16 * r + (7 + 3 * p + 0)).toNat) r) (g (132 + 16 * r + (7 + 3 * q + 0)).toNat) r

def T_X9_finishes : ZTf := fun av M K KX => ∃ (n : Int) (r p q : Int), av = [zo 670, zi r, zi p, zi q] ∧ (LY M) ∧ (MA M 671) ∧ (DB (zI M 671) r n) ∧ (0 ≤ p ∧ p < q) ∧ (q < n ∧ n ≤ 3) ∧  K none (zsA M 671 (fFin (zI M 671) r p q))
set_option maxRecDepth 100000 in
set_option maxHeartbeats 4000000 in
theorem bd_X9_finishes : zBd (cd_X9_finishes T_X9_ofTaking T_X9_ofWorker T_X9_put T_X9_gains) 7 0 0 T_X9_finishes := by
  rintro av M K KX hA0 hM ⟨n, r, p, q, rfl, hY, hA, hD, hp0, hp1, hK⟩
  obtain ⟨G, hG0⟩ : ∃ G, zI M 671 = G := ⟨_, rfl⟩
  rw [hG0] at hD hK
  obtain ⟨a, h_a⟩ : ∃ x, (G (132 + 16 * r + (7 + 3 * p + 0)).toNat) = x := ⟨_, rfl⟩
  obtain ⟨b, h_b⟩ : ∃ x, (G (132 + 16 * r + (7 + 3 * q + 0)).toNat) = x := ⟨_, rfl⟩
  obtain ⟨x, h_x⟩ : ∃ x, (G (132 + 16 * r + (7 + 3 * p + 1)).toNat) = x := ⟨_, rfl⟩
  obtain ⟨y, h_y⟩ : ∃ x, (G (132 + 16 * r + (7 + 3 * q + 1)).toNat) = x := ⟨_, rfl⟩
  obtain ⟨hr, hsz, htl, hkk, hne⟩ := id hD
  obtain ⟨hpa, hpr, hpw⟩ := hkk p hp0.1 (by omega)
  obtain ⟨hqa, hqr, hqw⟩ := hkk q (by omega) hp1.1
  have hpq := hne p q hp0.1 hp0.2 hp1.1
  rw [h_a] at hpa hpw hpq
  rw [h_b] at hqa hqw hpq
  replace hsz : hidP _ := hsz
  clear hkk hne hD hpr hqr
  replace h_a : zEqn (G (132 + 16 * r + (7 + 3 * p + 0)).toNat) a := h_a
  replace h_b : zEqn (G (132 + 16 * r + (7 + 3 * q + 0)).toNat) b := h_b
  replace h_x : zEqn (G (132 + 16 * r + (7 + 3 * p + 1)).toNat) x := h_x
  replace h_y : zEqn (G (132 + 16 * r + (7 + 3 * q + 1)).toNat) y := h_y
  refine ⟨rfl, fun Φ hΦ => ?_⟩
  refine zGoR hΦ [42, 87] 400 (fun hL9 _ hM _ _ => ?_)
  obtain ⟨qL1, qL2, qL3, _⟩ : zrg r ∧ zrg p ∧ zrg q ∧ True := hL9
  refine ⟨⟨⟨rfl, rfl⟩, hY.w.rcv⟩, ⟨rfl, ⟨(zrgI (x := 3 * p) (by omega)), ⟨(zrgI (x := 7 + 3 * p) (by omega)), ⟨(zrgI (x := 7 + 3 * p + 0) (by omega)), ⟨⟨⟨rfl, rfl⟩, hY.w.rcv⟩, ⟨rfl, ⟨hY.w, _, hA.1, ⟨(zrgI (x := 16 * r) (by omega)), ⟨(zrgI (x := 132 + 16 * r) (by omega)), ⟨(zrgI (x := 132 + 16 * r + (7 + 3 * p + 0)) (by omega)), ⟨zixO hA.2.1 hA.2.2 (i := 132 + 16 * r + (7 + 3 * p + 0)) (by omega) (by decide), zIr (Eq.trans (congrFun hG0 _) (h_a)) (⟨trivial, fun (qg1 : zrg (a)) _ => ⟨trivial, fun (qg2 : zrg (a)) _ => ⟨⟨⟨rfl, rfl⟩, hY.w.rcv⟩, ⟨rfl, ⟨(zrgI (x := 3 * q) (by omega)), ⟨(zrgI (x := 7 + 3 * q) (by omega)), ⟨(zrgI (x := 7 + 3 * q + 0) (by omega)), ⟨⟨⟨rfl, rfl⟩, hY.w.rcv⟩, ⟨rfl, ⟨hY.w, _, hA.1, ⟨(zrgI (x := 16 * r) (by omega)), ⟨(zrgI (x := 132 + 16 * r) (by omega)), ⟨(zrgI (x := 132 + 16 * r + (7 + 3 * q + 0)) (by omega)), ⟨zixO hA.2.1 hA.2.2 (i := 132 + 16 * r + (7 + 3 * q + 0)) (by omega) (by decide), zIr (Eq.trans (congrFun hG0 _) (h_b)) (⟨trivial, fun (qg3 : zrg (b)) _ => ⟨trivial, fun (qg4 : zrg (b)) _ => ⟨⟨⟨rfl, rfl⟩, hY.w.rcv⟩, ⟨rfl, ⟨hY.w, _, hA.1, ⟨(zrgI (x := 9 * b) (by omega)), ⟨(zrgI (x := 6 + 9 * b) (by omega)), ⟨(zrgI (x := 6 + 9 * b + 3) (by omega)), ⟨zixO hA.2.1 hA.2.2 (i := 6 + 9 * b + 3) (by omega) (by decide), zIr ((congrFun hG0 _)) (zIv (fun v1 h_v1 => ⟨trivial, fun (qg5 : zrg (v1)) _ => ⟨⟨⟨rfl, rfl⟩, hY.w.rcv⟩, ⟨rfl, ⟨hY.w, _, hA.1, ⟨(zrgI (x := 9 * a) (by omega)), ⟨(zrgI (x := 6 + 9 * a) (by omega)), ⟨(zrgI (x := 6 + 9 * a + 3) (by omega)), ⟨zixO hA.2.1 hA.2.2 (i := 6 + 9 * a + 3) (by omega) (by decide), zIr ((congrFun hG0 _)) (zIv (fun v2 h_v2 => ⟨trivial, fun (qg6 : zrg (v2)) _ => ⟨fun (qc7 : v1 ≤ v2) => (show Φ 42 [some (zo 670), some (zi r), some (zi p), some (zi q), some (zi a), some (zi b), some (zi 0)] [] M (0) (0) from ?g156l1), fun (qc8 : v1 > v2) => (show Φ 42 [some (zo 670), some (zi r), some (zi p), some (zi q), some (zi a), some (zi b), some (zi 1)] [] M (0) (0) from ?g156l2)⟩⟩))⟩⟩⟩⟩⟩⟩⟩⟩))⟩⟩⟩⟩⟩⟩⟩⟩⟩)⟩⟩⟩⟩⟩⟩⟩⟩⟩⟩⟩⟩⟩⟩)⟩⟩⟩⟩⟩⟩⟩⟩⟩⟩⟩⟩
  case g156l1 =>
    refine zGoR hΦ [42, 87] 400 (fun hL9 _ hM _ _ => ?_)
    obtain ⟨qL1, qL2, qL3, qL4, qL5, qL6, _⟩ : zrg r ∧ zrg p ∧ zrg q ∧ zrg a ∧ zrg b ∧ zrg 0 ∧ True := hL9
    refine ⟨fun _ => ⟨⟨⟨rfl, rfl⟩, hY.w.rcv⟩, ⟨rfl, ⟨(zrgI (x := 3 * p) (by omega)), ⟨(zrgI (x := 7 + 3 * p) (by omega)), ⟨(zrgI (x := 7 + 3 * p + 1) (by omega)), ⟨⟨⟨rfl, rfl⟩, hY.w.rcv⟩, ⟨rfl, ⟨hY.w, _, hA.1, ⟨(zrgI (x := 16 * r) (by omega)), ⟨(zrgI (x := 132 + 16 * r) (by omega)), ⟨(zrgI (x := 132 + 16 * r + (7 + 3 * p + 1)) (by omega)), ⟨zixO hA.2.1 hA.2.2 (i := 132 + 16 * r + (7 + 3 * p + 1)) (by omega) (by decide), zIr (Eq.trans (congrFun hG0 _) (h_x)) (⟨trivial, fun (qg108 : zrg (x)) _ => ⟨trivial, fun (qg109 : zrg (x)) _ => ⟨⟨⟨rfl, rfl⟩, hY.w.rcv⟩, ⟨rfl, ⟨hY.w, _, hA.1, ⟨(zrgI (x := 16 * r) (by omega)), ⟨(zrgI (x := 132 + 16 * r) (by omega)), ⟨(zrgI (x := 132 + 16 * r + 2) (by omega)), ⟨⟨zixW hA.2.1 hA.2.2 (i := 132 + 16 * r + 2) (by omega) (by decide), trivial⟩, zMw (zsI_gG hG0 (132 + 16 * r + 2) x) (fun g21 hg21 => fun _ _ => ⟨⟨⟨rfl, rfl⟩, hY.w.rcv⟩, ⟨rfl, ⟨hY.w, _, hA.1, ⟨(zrgI (x := 16 * r) (by omega)), ⟨(zrgI (x := 132 + 16 * r) (by omega)), ⟨(zrgI (x := 132 + 16 * r + 1) (by omega)), ⟨⟨zixW hA.2.1 hA.2.2 (i := 132 + 16 * r + 1) (by omega) (by decide), trivial⟩, zMw (zsI_gU M 671 g21 (132 + 16 * r + 1) 2) (fun g22 hg22 => fun _ _ => ⟨⟨⟨rfl, rfl⟩, hY.w.rcv⟩, ⟨rfl, ⟨hY.w, _, hA.1, ⟨(zrgI (x := 16 * r) (by omega)), ⟨(zrgI (x := 132 + 16 * r) (by omega)), ⟨(zrgI (x := 132 + 16 * r + 5) (by omega)), ⟨⟨zixW hA.2.1 hA.2.2 (i := 132 + 16 * r + 5) (by omega) (by decide), trivial⟩, zMw (zsI_gU M 671 g22 (132 + 16 * r + 5) (zor (zshl 1 a) (zshl 1 b))) (fun g23 hg23 => fun _ _ => (show Φ 87 [some (zo 670), some (zi r), some (zi p), some (zi q), some (zi a), some (zi b), some (zi 0)] [zo 670] (zsA M 671 g23) (0) (0) from ?g157l1))⟩⟩⟩⟩⟩⟩⟩)⟩⟩⟩⟩⟩⟩⟩)⟩⟩⟩⟩⟩⟩⟩⟩⟩)⟩⟩⟩⟩⟩⟩⟩⟩⟩⟩⟩⟩, fun (h : (0 : Int) ≠ 0) => absurd h (by decide)⟩
    case g157l1 =>
      refine zGoR hΦ [42, 87] 400 (fun hL9 _ hM _ _ => ?_)
      obtain ⟨qL1, qL2, qL3, qL4, qL5, qL6, _⟩ : zrg r ∧ zrg p ∧ zrg q ∧ zrg a ∧ zrg b ∧ zrg 0 ∧ True := hL9
      refine ⟨⟨⟨rfl, rfl⟩, hY.w.rcv⟩, ⟨a, r, rfl, hY, hA, (by omega), (by omega), (WBd_A (by rw [hg23, hg22, hg21]; exact (((hpw.u hpa (by omega)).u hpa (by omega)).u hpa (by omega)))), (eqA (P := fun x => 1 ≤ x ∧ x ≤ 9) (by rw [hg23, hg22, hg21, gU_n _ (by omega), gU_n _ (by omega), gU_n _ (by omega)]; exact hidP_u hsz)), fun qg213 qm214 => zMw (zsA_F M 671 g23 (fun q9 => fGain q9 a r)) (fun g44 hg44 => ⟨⟨⟨rfl, rfl⟩, hY.w.rcv⟩, ⟨b, r, rfl, hY, hA, (by omega), (by omega), (WBd_A (by rw [hg44, hg23, hg22, hg21]; exact (((hqw.u hqa (by omega)).u hqa (by omega)).u hqa (by omega)).g hqa hpa hpq)), (eqA (P := fun x => 1 ≤ x ∧ x ≤ 9) (by rw [hg44, hg23, hg22, hg21, fGain_n _ (by omega), gU_n _ (by omega), gU_n _ (by omega), gU_n _ (by omega)]; exact hidP_u hsz)), fun qg215 qm216 => zMw (zsA_F M 671 g44 (fun q9 => fGain q9 b r)) (fun g45 hg45 => (show K none (zsA M 671 g45) from ?g158l1))⟩⟩)⟩⟩
      case g158l1 =>
        subst hg45
        subst hg44
        subst hg23
        subst hg22
        subst hg21
        try (have e_v2 := zEq h_v2; subst e_v2)
        try (have e_v1 := zEq h_v1; subst e_v1)
        have e_y := zEq h_y
        subst e_y
        have e_x := zEq h_x
        subst e_x
        have e_b := zEq h_b
        subst e_b
        have e_a := zEq h_a
        subst e_a
        refine zKn hK ?_
        unfold fFin
        rw [if_neg]
        exact Int.not_lt.mpr qc7
  case g156l2 =>
    refine zGoR hΦ [42, 87] 400 (fun hL9 _ hM _ _ => ?_)
    obtain ⟨qL1, qL2, qL3, qL4, qL5, qL6, _⟩ : zrg r ∧ zrg p ∧ zrg q ∧ zrg a ∧ zrg b ∧ zrg 1 ∧ True := hL9
    refine ⟨fun (h : (1 : Int) = 0) => absurd h (by decide), fun _ => ⟨⟨⟨rfl, rfl⟩, hY.w.rcv⟩, ⟨rfl, ⟨(zrgI (x := 3 * q) (by omega)), ⟨(zrgI (x := 7 + 3 * q) (by omega)), ⟨(zrgI (x := 7 + 3 * q + 1) (by omega)), ⟨⟨⟨rfl, rfl⟩, hY.w.rcv⟩, ⟨rfl, ⟨hY.w, _, hA.1, ⟨(zrgI (x := 16 * r) (by omega)), ⟨(zrgI (x := 132 + 16 * r) (by omega)), ⟨(zrgI (x := 132 + 16 * r + (7 + 3 * q + 1)) (by omega)), ⟨zixO hA.2.1 hA.2.2 (i := 132 + 16 * r + (7 + 3 * q + 1)) (by omega) (by decide), zIr (Eq.trans (congrFun hG0 _) (h_y)) (⟨trivial, fun (qg109 : zrg (y)) _ => ⟨trivial, fun (qg110 : zrg (y)) _ => ⟨⟨⟨rfl, rfl⟩, hY.w.rcv⟩, ⟨rfl, ⟨hY.w, _, hA.1, ⟨(zrgI (x := 16 * r) (by omega)), ⟨(zrgI (x := 132 + 16 * r) (by omega)), ⟨(zrgI (x := 132 + 16 * r + 2) (by omega)), ⟨⟨zixW hA.2.1 hA.2.2 (i := 132 + 16 * r + 2) (by omega) (by decide), trivial⟩, zMw (zsI_gG hG0 (132 + 16 * r + 2) y) (fun g21 hg21 => fun _ _ => ⟨⟨⟨rfl, rfl⟩, hY.w.rcv⟩, ⟨rfl, ⟨hY.w, _, hA.1, ⟨(zrgI (x := 16 * r) (by omega)), ⟨(zrgI (x := 132 + 16 * r) (by omega)), ⟨(zrgI (x := 132 + 16 * r + 1) (by omega)), ⟨⟨zixW hA.2.1 hA.2.2 (i := 132 + 16 * r + 1) (by omega) (by decide), trivial⟩, zMw (zsI_gU M 671 g21 (132 + 16 * r + 1) 2) (fun g22 hg22 => fun _ _ => ⟨⟨⟨rfl, rfl⟩, hY.w.rcv⟩, ⟨rfl, ⟨hY.w, _, hA.1, ⟨(zrgI (x := 16 * r) (by omega)), ⟨(zrgI (x := 132 + 16 * r) (by omega)), ⟨(zrgI (x := 132 + 16 * r + 5) (by omega)), ⟨⟨zixW hA.2.1 hA.2.2 (i := 132 + 16 * r + 5) (by omega) (by decide), trivial⟩, zMw (zsI_gU M 671 g22 (132 + 16 * r + 5) (zor (zshl 1 a) (zshl 1 b))) (fun g23 hg23 => fun _ _ => (show Φ 87 [some (zo 670), some (zi r), some (zi p), some (zi q), some (zi a), some (zi b), some (zi 1)] [zo 670] (zsA M 671 g23) (0) (0) from ?g159l1))⟩⟩⟩⟩⟩⟩⟩)⟩⟩⟩⟩⟩⟩⟩)⟩⟩⟩⟩⟩⟩⟩⟩⟩)⟩⟩⟩⟩⟩⟩⟩⟩⟩⟩⟩⟩⟩
    case g159l1 =>
      refine zGoR hΦ [42, 87] 400 (fun hL9 _ hM _ _ => ?_)
      obtain ⟨qL1, qL2, qL3, qL4, qL5, qL6, _⟩ : zrg r ∧ zrg p ∧ zrg q ∧ zrg a ∧ zrg b ∧ zrg 1 ∧ True := hL9
      refine ⟨⟨⟨rfl, rfl⟩, hY.w.rcv⟩, ⟨a, r, rfl, hY, hA, (by omega), (by omega), (WBd_A (by rw [hg23, hg22, hg21]; exact (((hpw.u hpa (by omega)).u hpa (by omega)).u hpa (by omega)))), (eqA (P := fun x => 1 ≤ x ∧ x ≤ 9) (by rw [hg23, hg22, hg21, gU_n _ (by omega), gU_n _ (by omega), gU_n _ (by omega)]; exact hidP_u hsz)), fun qg214 qm215 => zMw (zsA_F M 671 g23 (fun q9 => fGain q9 a r)) (fun g44 hg44 => ⟨⟨⟨rfl, rfl⟩, hY.w.rcv⟩, ⟨b, r, rfl, hY, hA, (by omega), (by omega), (WBd_A (by rw [hg44, hg23, hg22, hg21]; exact (((hqw.u hqa (by omega)).u hqa (by omega)).u hqa (by omega)).g hqa hpa hpq)), (eqA (P := fun x => 1 ≤ x ∧ x ≤ 9) (by rw [hg44, hg23, hg22, hg21, fGain_n _ (by omega), gU_n _ (by omega), gU_n _ (by omega), gU_n _ (by omega)]; exact hidP_u hsz)), fun qg216 qm217 => zMw (zsA_F M 671 g44 (fun q9 => fGain q9 b r)) (fun g45 hg45 => (show K none (zsA M 671 g45) from ?g160l1))⟩⟩)⟩⟩
      case g160l1 =>
        subst hg45
        subst hg44
        subst hg23
        subst hg22
        subst hg21
        try (have e_v2 := zEq h_v2; subst e_v2)
        try (have e_v1 := zEq h_v1; subst e_v1)
        have e_y := zEq h_y
        subst e_y
        have e_x := zEq h_x
        subst e_x
        have e_b := zEq h_b
        subst e_b
        have e_a := zEq h_a
        subst e_a
        refine zKn hK ?_
        unfold fFin
        rw [if_pos]
        exact qc8
theorem M_X9_finishes {l : Launch} (hl : l.stackTraces = false) : zMet l yX9_finishes (Cond.code yX9_finishes cX9_finishes 7 (Option.none : Option Jvm.ClassFile.FieldType) :: zG) rm_X9_finishes 0 0 T_X9_finishes := met_X9_finishes hl (M_X9_ofTaking hl) (M_X9_ofWorker hl) (M_X9_put hl) (M_X9_gains hl) bd_X9_finishes

def fCmp (g : Gm) (r : Int) : Gm := if fAgree g (g (132 + 16 * r + (7 + 3 * 0 + 1)).toNat) (g (132 + 16 * r + (7 + 3 * 1 + 1)).toNat) = true then fFin g r 0 1 else gU g (132 + 16 * r + 1) 1

def T_X9_compares : ZTf := fun av M K KX => ∃ (r : Int), av = [zo 670, zi r] ∧ (LY M) ∧ (MA M 671) ∧ (DB (zI M 671) r 2) ∧  K none (zsA M 671 (fCmp (zI M 671) r))
set_option maxRecDepth 100000 in
set_option maxHeartbeats 4000000 in
theorem bd_X9_compares : zBd (cd_X9_compares T_X9_ofTaking T_X9_doAgree T_X9_finishes T_X9_put) 2 0 0 T_X9_compares := by
  rintro av M K KX hA0 hM ⟨r, rfl, hY, hA, hD, hK⟩
  obtain ⟨G, hG0⟩ : ∃ G, zI M 671 = G := ⟨_, rfl⟩
  rw [hG0] at hD hK
  obtain ⟨x, h_x⟩ : ∃ x, (G (132 + 16 * r + 8).toNat) = x := ⟨_, rfl⟩
  obtain ⟨y, h_y⟩ : ∃ x, (G (132 + 16 * r + 11).toNat) = x := ⟨_, rfl⟩
  obtain ⟨hr, hsz, htl, hkk, hne⟩ := id hD
  have h80 : -1 ≤ (G (132 + 16 * r + 8).toNat) ∧ (G (132 + 16 * r + 8).toNat) ≤ 99 := (hkk 0 (by omega) (by omega)).2.1
  have h81 : -1 ≤ (G (132 + 16 * r + 11).toNat) ∧ (G (132 + 16 * r + 11).toNat) ≤ 99 := (hkk 1 (by omega) (by omega)).2.1
  rw [h_x] at h80
  rw [h_y] at h81
  clear hkk hne
  refine ⟨rfl, fun Φ hΦ => ?_⟩
  refine zGoR hΦ [] 400 (fun hL9 _ hM _ _ => ?_)
  obtain ⟨qL1, _⟩ : zrg r ∧ True := hL9
  refine ⟨⟨⟨rfl, rfl⟩, hY.w.rcv⟩, ⟨rfl, ⟨(by decide), ⟨(by decide), ⟨(by decide), ⟨⟨⟨rfl, rfl⟩, hY.w.rcv⟩, ⟨rfl, ⟨hY.w, _, hA.1, ⟨(zrgI (x := 16 * r) (by omega)), ⟨(zrgI (x := 132 + 16 * r) (by omega)), ⟨(zrgI (x := 132 + 16 * r + 8) (by omega)), ⟨zixO hA.2.1 hA.2.2 (i := 132 + 16 * r + 8) (by omega) (by decide), zIr ((congrFun hG0 _).trans h_x) (⟨trivial, fun (qg1 : zrg (x)) _ => ⟨trivial, fun (qg2 : zrg (x)) _ => ⟨⟨⟨rfl, rfl⟩, hY.w.rcv⟩, ⟨rfl, ⟨(by decide), ⟨(by decide), ⟨(by decide), ⟨⟨⟨rfl, rfl⟩, hY.w.rcv⟩, ⟨rfl, ⟨hY.w, _, hA.1, ⟨(zrgI (x := 16 * r) (by omega)), ⟨(zrgI (x := 132 + 16 * r) (by omega)), ⟨(zrgI (x := 132 + 16 * r + 11) (by omega)), ⟨zixO hA.2.1 hA.2.2 (i := 132 + 16 * r + 11) (by omega) (by decide), zIr ((congrFun hG0 _).trans h_y) (⟨trivial, fun (qg3 : zrg (y)) _ => ⟨trivial, fun (qg4 : zrg (y)) _ => ⟨⟨⟨rfl, rfl⟩, hY.w.rcv⟩, ⟨rfl, ⟨(zrgI (x := x - y) (by omega)), ⟨⟨rfl, zabsL (x := x - y) (by omega)⟩, ⟨⟨⟨rfl, rfl⟩, hY.w.rcv⟩, ⟨rfl, ⟨hY.w, _, hA.1, ⟨(by decide), ⟨zixO hA.2.1 hA.2.2 (i := 0) (by decide) (by decide), zIr (congrFun hG0 _) (⟨trivial, fun (qg5 : zrg (G 0)) _ => ⟨fun (qc6 : zabs (x - y) > G 0) => ⟨(Or.inl rfl), fun _ _ => ⟨fun _ => ⟨⟨⟨rfl, rfl⟩, hY.w.rcv⟩, ⟨rfl, ⟨hY.w, _, hA.1, ⟨(zrgI (x := 16 * r) (by omega)), ⟨(zrgI (x := 132 + 16 * r) (by omega)), ⟨(zrgI (x := 132 + 16 * r + 1) (by omega)), ⟨⟨zixW hA.2.1 hA.2.2 (i := 132 + 16 * r + 1) (by omega) (by decide), trivial⟩, zMw (zsI_gG hG0 (132 + 16 * r + 1) 1) (fun g1 hg1 => fun _ _ => (show K none (zsA M 671 g1) from ?g161l1))⟩⟩⟩⟩⟩⟩⟩, fun (h : (0 : Int) ≠ 0) => absurd h (by decide)⟩⟩, fun (qc9 : zabs (x - y) ≤ G 0) => ⟨(Or.inr rfl), fun _ _ => ⟨fun (h : (1 : Int) = 0) => absurd h (by decide), fun _ => ⟨⟨⟨rfl, rfl⟩, hY.w.rcv⟩, ⟨2, r, 0, 1, rfl, hY, hA, (by rw [hG0]; exact hD), (by omega), (by omega), fun qg11 qm12 => zMw (by rw [hG0] : _ = zsA M 671 (fFin G r 0 1)) (fun g2 hg2 => (show K none (zsA M 671 g2) from ?g161l2))⟩⟩⟩⟩⟩⟩)⟩⟩⟩⟩⟩⟩⟩⟩⟩⟩⟩)⟩⟩⟩⟩⟩⟩⟩⟩⟩⟩⟩⟩⟩⟩)⟩⟩⟩⟩⟩⟩⟩⟩⟩⟩⟩⟩
  case g161l1 =>
    subst hg1
    have hag : fAgree G (G (132 + 16 * r + (7 + 3 * 0 + 1)).toNat) (G (132 + 16 * r + (7 + 3 * 1 + 1)).toNat) = decide (zabs (x - y) ≤ G 0) := by unfold fAgree; rw [← h_x, ← h_y]; rfl
    refine zKn hK ?_
    unfold fCmp
    rw [hag]
    rw [if_neg (fun z => absurd (of_decide_eq_true z) (Int.not_le.mpr qc6))]
  case g161l2 =>
    subst hg2
    have hag : fAgree G (G (132 + 16 * r + (7 + 3 * 0 + 1)).toNat) (G (132 + 16 * r + (7 + 3 * 1 + 1)).toNat) = decide (zabs (x - y) ≤ G 0) := by unfold fAgree; rw [← h_x, ← h_y]; rfl
    refine zKn hK ?_
    unfold fCmp
    rw [hag]
    rw [if_pos (decide_eq_true qc9)]
theorem M_X9_compares {l : Launch} (hl : l.stackTraces = false) : zMet l yX9_compares (Cond.code yX9_compares cX9_compares 2 (Option.none : Option Jvm.ClassFile.FieldType) :: zG) rm_X9_compares 0 0 T_X9_compares := met_X9_compares hl (M_X9_ofTaking hl) (M_X9_doAgree hl) (M_X9_finishes hl) (M_X9_put hl) bd_X9_compares

def fFar (g : Gm) (r k : Int) : Int := zabs ((g (132 + 16 * r + (7 + 3 * k + 1)).toNat) - (g (132 + 16 * r + (7 + 3 * 2 + 1)).toNat))
def fNear (g : Gm) (r : Int) : Int := if fFar g r 1 < fFar g r 0 then 1 else 0
def fAside (g : Gm) (r : Int) : Gm := gU (gU (gU (gU g (132 + 16 * r + 1) 3) (6 + 9 * (g (132 + 16 * r + (7 + 3 * 0 + 0)).toNat) + 3) (fClamp ((g (6 + 9 * (g (132 + 16 * r + (7 + 3 * 0 + 0)).toNat) + 3).toNat) + -1))) (6 + 9 * (g (132 + 16 * r + (7 + 3 * 1 + 0)).toNat) + 3) (fClamp ((g (6 + 9 * (g (132 + 16 * r + (7 + 3 * 1 + 0)).toNat) + 3).toNat) + -1))) (6 + 9 * (g (132 + 16 * r + (7 + 3 * 2 + 0)).toNat) + 3) (fClamp ((g (6 + 9 * (g (132 + 16 * r + (7 + 3 * 2 + 0)).toNat) + 3).toNat) + -1))
def fDec (g : Gm) (r : Int) : Gm := if g 0 < fFar g r (fNear g r) then fAside g r else if g 0 < fFar g r (1 - fNear g r) then gU (fFin g r (fNear g r) 2) (6 + 9 * (g (132 + 16 * r + (7 + 3 * (1 - fNear g r) + 0)).toNat) + 3) (fClamp ((g (6 + 9 * (g (132 + 16 * r + (7 + 3 * (1 - fNear g r) + 0)).toNat) + 3).toNat) + -3)) else fFin g r (fNear g r) 2

def T_X9_farOf : ZTf := zInl (cd_X9_farOf T_X9_ofTaking) 3 0 0 400
theorem M_X9_farOf {l : Launch} (hl : l.stackTraces = false) : zMet l yX9_farOf (Cond.code yX9_farOf cX9_farOf 3 (Option.some Jvm.ClassFile.FieldType.int) :: zG) rm_X9_farOf 0 0 T_X9_farOf := met_X9_farOf hl (M_X9_ofTaking hl) zInl_bd

theorem fFin_n (g : Gm) {r p q : Int} {k : Nat} (h0 : 0 ≤ r ∧ r < 24) (h1 : k ≠ (132 + 16 * r + 2).toNat ∧ k ≠ (132 + 16 * r + 1).toNat ∧ k ≠ (132 + 16 * r + 5).toNat) (h2 : k ≠ (6 + 9 * (g (132 + 16 * r + (7 + 3 * p + 0)).toNat) + 3).toNat ∧ k ≠ (6 + 9 * (g (132 + 16 * r + (7 + 3 * p + 0)).toNat) + 6).toNat ∧ k ≠ (6 + 9 * (g (132 + 16 * r + (7 + 3 * p + 0)).toNat) + 8).toNat) (h3 : k ≠ (6 + 9 * (g (132 + 16 * r + (7 + 3 * q + 0)).toNat) + 3).toNat ∧ k ≠ (6 + 9 * (g (132 + 16 * r + (7 + 3 * q + 0)).toNat) + 6).toNat ∧ k ≠ (6 + 9 * (g (132 + 16 * r + (7 + 3 * q + 0)).toNat) + 8).toNat) : fFin g r p q k = g k := by
  unfold fFin
  rw [fGain_n _ h3, fGain_n _ h2, gU_n _ h1.2.2, gU_n _ h1.2.1, gU_n _ h1.1]
theorem fFin_nr (g : Gm) {r p q : Int} {k : Nat} (h0 : 0 ≤ r ∧ r < 24) (h1 : (132 + 16 * r + 6).toNat ≤ k) (h2 : hidP (0 ≤ (g (132 + 16 * r + (7 + 3 * p + 0)).toNat) ∧ (g (132 + 16 * r + (7 + 3 * p + 0)).toNat) < 6)) (h3 : hidP (0 ≤ (g (132 + 16 * r + (7 + 3 * q + 0)).toNat) ∧ (g (132 + 16 * r + (7 + 3 * q + 0)).toNat) < 6)) : fFin g r p q k = g k := by
  have e2 := hidP_u h2
  have e3 := hidP_u h3
  exact fFin_n g h0 (by omega) (by omega) (by omega)
theorem fFin_nt (g : Gm) {r p q : Int} {k : Nat} (h0 : 0 ≤ r ∧ r < 24) (h1 : k < 6) (h2 : hidP (0 ≤ (g (132 + 16 * r + (7 + 3 * p + 0)).toNat) ∧ (g (132 + 16 * r + (7 + 3 * p + 0)).toNat) < 6)) (h3 : hidP (0 ≤ (g (132 + 16 * r + (7 + 3 * q + 0)).toNat) ∧ (g (132 + 16 * r + (7 + 3 * q + 0)).toNat) < 6)) : fFin g r p q k = g k := by
  have e2 := hidP_u h2
  have e3 := hidP_u h3
  exact fFin_n g h0 (by omega) (by omega) (by omega)
theorem fFin_nw (g : Gm) {r p q w : Int} {k : Nat} (h0 : 0 ≤ r ∧ r < 24) (hw : 0 ≤ w ∧ w < 6) (h1 : k = (6 + 9 * w + 3).toNat) (h2 : hidP ((0 ≤ (g (132 + 16 * r + (7 + 3 * p + 0)).toNat) ∧ (g (132 + 16 * r + (7 + 3 * p + 0)).toNat) < 6) ∧ w ≠ (g (132 + 16 * r + (7 + 3 * p + 0)).toNat))) (h3 : hidP ((0 ≤ (g (132 + 16 * r + (7 + 3 * q + 0)).toNat) ∧ (g (132 + 16 * r + (7 + 3 * q + 0)).toNat) < 6) ∧ w ≠ (g (132 + 16 * r + (7 + 3 * q + 0)).toNat))) : fFin g r p q k = g k := by
  have e2 := hidP_u h2
  have e3 := hidP_u h3
  exact fFin_n g h0 (by omega) (by omega) (by omega)

theorem hidP_i {p q : Prop} (h : hidP p) (h2 : hidP q) : hidP (p ∧ q) := ⟨h, h2⟩

def T_X9_decides : ZTf := fun av M K KX => ∃ (r : Int), av = [zo 670, zi r] ∧ (LY M) ∧ (MA M 671) ∧ (DB (zI M 671) r 3) ∧  K none (zsA M 671 (fDec (zI M 671) r))
set_option maxRecDepth 100000 in
set_option maxHeartbeats 4000000 in
theorem bd_X9_decides : zBd (cd_X9_decides T_X9_farOf T_X9_table T_X9_put T_X9_ofTaking T_X9_trusts T_X9_finishes) 4 0 0 T_X9_decides := by
  rintro av M K KX hA0 hM ⟨r, rfl, hY, hA, hD, hK⟩
  obtain ⟨G, hG0⟩ : ∃ G, zI M 671 = G := ⟨_, rfl⟩
  rw [hG0] at hD hK
  obtain ⟨a, h_a⟩ : ∃ x, (G (132 + 16 * r + 7).toNat) = x := ⟨_, rfl⟩
  obtain ⟨b, h_b⟩ : ∃ x, (G (132 + 16 * r + 10).toNat) = x := ⟨_, rfl⟩
  obtain ⟨d, h_d⟩ : ∃ x, (G (132 + 16 * r + 13).toNat) = x := ⟨_, rfl⟩
  obtain ⟨x, h_x⟩ : ∃ x, (G (132 + 16 * r + 8).toNat) = x := ⟨_, rfl⟩
  obtain ⟨y, h_y⟩ : ∃ x, (G (132 + 16 * r + 11).toNat) = x := ⟨_, rfl⟩
  obtain ⟨z, h_z⟩ : ∃ x, (G (132 + 16 * r + 14).toNat) = x := ⟨_, rfl⟩
  obtain ⟨tl, h_tl⟩ : ∃ x, G 0 = x := ⟨_, rfl⟩
  obtain ⟨ta, h_ta⟩ : ∃ x, (G (6 + 9 * a + 3).toNat) = x := ⟨_, rfl⟩
  obtain ⟨tb, h_tb⟩ : ∃ x, (G (6 + 9 * b + 3).toNat) = x := ⟨_, rfl⟩
  obtain ⟨td, h_td⟩ : ∃ x, (G (6 + 9 * d + 3).toNat) = x := ⟨_, rfl⟩
  obtain ⟨hr, hsz, htl, hkk, hne⟩ := id hD
  have har : 0 ≤ (G (132 + 16 * r + 7).toNat) ∧ (G (132 + 16 * r + 7).toNat) < 6 := (hkk 0 (by omega) (by omega)).1
  have hw0 : hidP (0 ≤ (G (132 + 16 * r + (7 + 3 * 0 + 0)).toNat) ∧ (G (132 + 16 * r + (7 + 3 * 0 + 0)).toNat) < 6) := (hkk 0 (by omega) (by omega)).1
  have hxr : -1 ≤ (G (132 + 16 * r + 8).toNat) ∧ (G (132 + 16 * r + 8).toNat) ≤ 99 := (hkk 0 (by omega) (by omega)).2.1
  have hta : 0 ≤ (G (6 + 9 * (G (132 + 16 * r + 7).toNat) + 3).toNat) ∧ (G (6 + 9 * (G (132 + 16 * r + 7).toNat) + 3).toNat) ≤ 20 := (hkk 0 (by omega) (by omega)).2.2.1
  have hbr : 0 ≤ (G (132 + 16 * r + 10).toNat) ∧ (G (132 + 16 * r + 10).toNat) < 6 := (hkk 1 (by omega) (by omega)).1
  have hw1 : hidP (0 ≤ (G (132 + 16 * r + (7 + 3 * 1 + 0)).toNat) ∧ (G (132 + 16 * r + (7 + 3 * 1 + 0)).toNat) < 6) := (hkk 1 (by omega) (by omega)).1
  have hyr : -1 ≤ (G (132 + 16 * r + 11).toNat) ∧ (G (132 + 16 * r + 11).toNat) ≤ 99 := (hkk 1 (by omega) (by omega)).2.1
  have htb : 0 ≤ (G (6 + 9 * (G (132 + 16 * r + 10).toNat) + 3).toNat) ∧ (G (6 + 9 * (G (132 + 16 * r + 10).toNat) + 3).toNat) ≤ 20 := (hkk 1 (by omega) (by omega)).2.2.1
  have hdr : 0 ≤ (G (132 + 16 * r + 13).toNat) ∧ (G (132 + 16 * r + 13).toNat) < 6 := (hkk 2 (by omega) (by omega)).1
  have hw2 : hidP (0 ≤ (G (132 + 16 * r + (7 + 3 * 2 + 0)).toNat) ∧ (G (132 + 16 * r + (7 + 3 * 2 + 0)).toNat) < 6) := (hkk 2 (by omega) (by omega)).1
  have hzr : -1 ≤ (G (132 + 16 * r + 14).toNat) ∧ (G (132 + 16 * r + 14).toNat) ≤ 99 := (hkk 2 (by omega) (by omega)).2.1
  have htd : 0 ≤ (G (6 + 9 * (G (132 + 16 * r + 13).toNat) + 3).toNat) ∧ (G (6 + 9 * (G (132 + 16 * r + 13).toNat) + 3).toNat) ≤ 20 := (hkk 2 (by omega) (by omega)).2.2.1
  have hneab : (G (132 + 16 * r + 7).toNat) ≠ (G (132 + 16 * r + 10).toNat) := hne 0 1 (by omega) (by omega) (by omega)
  have hnead : (G (132 + 16 * r + 7).toNat) ≠ (G (132 + 16 * r + 13).toNat) := hne 0 2 (by omega) (by omega) (by omega)
  have hnebd : (G (132 + 16 * r + 10).toNat) ≠ (G (132 + 16 * r + 13).toNat) := hne 1 2 (by omega) (by omega) (by omega)
  have ha1 : hidP ((G (132 + 16 * r + 7).toNat) ≠ (G (132 + 16 * r + (7 + 3 * 1 + 0)).toNat)) := hneab
  have ha2 : hidP ((G (132 + 16 * r + 7).toNat) ≠ (G (132 + 16 * r + (7 + 3 * 2 + 0)).toNat)) := hnead
  have hb0 : hidP ((G (132 + 16 * r + 10).toNat) ≠ (G (132 + 16 * r + (7 + 3 * 0 + 0)).toNat)) := (Ne.symm hneab)
  have hb2 : hidP ((G (132 + 16 * r + 10).toNat) ≠ (G (132 + 16 * r + (7 + 3 * 2 + 0)).toNat)) := hnebd
  rw [h_a] at har hta hneab hnead ha1 ha2
  rw [h_b] at hbr htb hneab hnebd hb0 hb2
  rw [h_d] at hdr htd hnead hnebd
  rw [h_x] at hxr
  rw [h_y] at hyr
  rw [h_z] at hzr
  rw [h_tl] at htl
  rw [h_ta] at hta
  rw [h_tb] at htb
  rw [h_td] at htd
  replace hsz : hidP _ := hsz
  replace hkk : hidP _ := hkk
  replace h_a : zEqn (G (132 + 16 * r + 7).toNat) a := h_a
  replace h_b : zEqn (G (132 + 16 * r + 10).toNat) b := h_b
  replace h_d : zEqn (G (132 + 16 * r + 13).toNat) d := h_d
  replace h_x : zEqn (G (132 + 16 * r + 8).toNat) x := h_x
  replace h_y : zEqn (G (132 + 16 * r + 11).toNat) y := h_y
  replace h_z : zEqn (G (132 + 16 * r + 14).toNat) z := h_z
  replace h_tl : zEqn (G 0) tl := h_tl
  replace h_ta : zEqn (G (6 + 9 * a + 3).toNat) ta := h_ta
  replace h_tb : zEqn (G (6 + 9 * b + 3).toNat) tb := h_tb
  replace h_td : zEqn (G (6 + 9 * d + 3).toNat) td := h_td
  refine ⟨rfl, fun Φ hΦ => ?_⟩
  refine zGoR hΦ [21, 68] 400 (fun hL9 _ hM _ _ => ?_)
  obtain ⟨qL1, _⟩ : zrg r ∧ True := hL9
  refine ⟨⟨⟨rfl, rfl⟩, hY.w.rcv⟩, ⟨rfl, ⟨⟨⟨rfl, rfl⟩, hY.w.rcv⟩, ⟨rfl, ⟨(by decide), ⟨(by decide), ⟨(by decide), ⟨⟨⟨rfl, rfl⟩, hY.w.rcv⟩, ⟨rfl, ⟨hY.w, _, hA.1, ⟨(zrgI (x := 16 * r) (by omega)), ⟨(zrgI (x := 132 + 16 * r) (by omega)), ⟨(zrgI (x := 132 + 16 * r + 11) (by omega)), ⟨zixO hA.2.1 hA.2.2 (i := 132 + 16 * r + 11) (by omega) (by decide), zIr (Eq.trans (congrFun hG0 _) (h_y)) (⟨trivial, fun (qg1 : zrg (y)) _ => ⟨trivial, fun (qg2 : zrg (y)) _ => ⟨⟨⟨rfl, rfl⟩, hY.w.rcv⟩, ⟨rfl, ⟨(by decide), ⟨(by decide), ⟨(by decide), ⟨⟨⟨rfl, rfl⟩, hY.w.rcv⟩, ⟨rfl, ⟨hY.w, _, hA.1, ⟨(zrgI (x := 16 * r) (by omega)), ⟨(zrgI (x := 132 + 16 * r) (by omega)), ⟨(zrgI (x := 132 + 16 * r + 14) (by omega)), ⟨zixO hA.2.1 hA.2.2 (i := 132 + 16 * r + 14) (by omega) (by decide), zIr (Eq.trans (congrFun hG0 _) (h_z)) (⟨trivial, fun (qg3 : zrg (z)) _ => ⟨trivial, fun (qg4 : zrg (z)) _ => ⟨(zrgI (x := y - z) (by omega)), ⟨⟨rfl, zabsL (x := y - z) (by omega)⟩, ⟨trivial, fun (qg5 : zrg (zabs (y - z))) _ => ⟨⟨⟨rfl, rfl⟩, hY.w.rcv⟩, ⟨rfl, ⟨⟨⟨rfl, rfl⟩, hY.w.rcv⟩, ⟨rfl, ⟨(by decide), ⟨(by decide), ⟨(by decide), ⟨⟨⟨rfl, rfl⟩, hY.w.rcv⟩, ⟨rfl, ⟨hY.w, _, hA.1, ⟨(zrgI (x := 16 * r) (by omega)), ⟨(zrgI (x := 132 + 16 * r) (by omega)), ⟨(zrgI (x := 132 + 16 * r + 8) (by omega)), ⟨zixO hA.2.1 hA.2.2 (i := 132 + 16 * r + 8) (by omega) (by decide), zIr (Eq.trans (congrFun hG0 _) (h_x)) (⟨trivial, fun (qg6 : zrg (x)) _ => ⟨trivial, fun (qg7 : zrg (x)) _ => ⟨⟨⟨rfl, rfl⟩, hY.w.rcv⟩, ⟨rfl, ⟨(by decide), ⟨(by decide), ⟨(by decide), ⟨⟨⟨rfl, rfl⟩, hY.w.rcv⟩, ⟨rfl, ⟨hY.w, _, hA.1, ⟨(zrgI (x := 16 * r) (by omega)), ⟨(zrgI (x := 132 + 16 * r) (by omega)), ⟨(zrgI (x := 132 + 16 * r + 14) (by omega)), ⟨zixO hA.2.1 hA.2.2 (i := 132 + 16 * r + 14) (by omega) (by decide), zIr (Eq.trans (congrFun hG0 _) (h_z)) (⟨trivial, fun (qg8 : zrg (z)) _ => ⟨trivial, fun (qg9 : zrg (z)) _ => ⟨(zrgI (x := x - z) (by omega)), ⟨⟨rfl, zabsL (x := x - z) (by omega)⟩, ⟨trivial, fun (qg10 : zrg (zabs (x - z))) _ => ⟨fun (qc11 : zabs (y - z) ≥ zabs (x - z)) => (show Φ 21 [some (zo 670), some (zi r), some (zi 0), none] [] M (0) (0) from ?g162l1), fun (qc12 : zabs (y - z) < zabs (x - z)) => (show Φ 21 [some (zo 670), some (zi r), some (zi 1), none] [] M (0) (0) from ?g162l2)⟩⟩⟩⟩⟩⟩)⟩⟩⟩⟩⟩⟩⟩⟩⟩⟩⟩⟩⟩⟩)⟩⟩⟩⟩⟩⟩⟩⟩⟩⟩⟩⟩⟩⟩⟩⟩⟩⟩⟩)⟩⟩⟩⟩⟩⟩⟩⟩⟩⟩⟩⟩⟩⟩)⟩⟩⟩⟩⟩⟩⟩⟩⟩⟩⟩⟩⟩⟩
  case g162l1 =>
    refine zGoR hΦ [21, 68] 400 (fun hL9 _ hM _ _ => ?_)
    obtain ⟨qL1, qL2, _⟩ : zrg r ∧ zrg 0 ∧ True := hL9
    refine ⟨⟨⟨rfl, rfl⟩, hY.w.rcv⟩, ⟨rfl, ⟨⟨⟨rfl, rfl⟩, hY.w.rcv⟩, ⟨rfl, ⟨(by decide), ⟨(by decide), ⟨(by decide), ⟨⟨⟨rfl, rfl⟩, hY.w.rcv⟩, ⟨rfl, ⟨hY.w, _, hA.1, ⟨(zrgI (x := 16 * r) (by omega)), ⟨(zrgI (x := 132 + 16 * r) (by omega)), ⟨(zrgI (x := 132 + 16 * r + 8) (by omega)), ⟨zixO hA.2.1 hA.2.2 (i := 132 + 16 * r + 8) (by omega) (by decide), zIr (Eq.trans (congrFun hG0 _) (h_x)) (⟨trivial, fun (qg112 : zrg (x)) _ => ⟨trivial, fun (qg113 : zrg (x)) _ => ⟨⟨⟨rfl, rfl⟩, hY.w.rcv⟩, ⟨rfl, ⟨(by decide), ⟨(by decide), ⟨(by decide), ⟨⟨⟨rfl, rfl⟩, hY.w.rcv⟩, ⟨rfl, ⟨hY.w, _, hA.1, ⟨(zrgI (x := 16 * r) (by omega)), ⟨(zrgI (x := 132 + 16 * r) (by omega)), ⟨(zrgI (x := 132 + 16 * r + 14) (by omega)), ⟨zixO hA.2.1 hA.2.2 (i := 132 + 16 * r + 14) (by omega) (by decide), zIr (Eq.trans (congrFun hG0 _) (h_z)) (⟨trivial, fun (qg114 : zrg (z)) _ => ⟨trivial, fun (qg115 : zrg (z)) _ => ⟨(zrgI (x := x - z) (by omega)), ⟨⟨rfl, zabsL (x := x - z) (by omega)⟩, ⟨trivial, fun (qg116 : zrg (zabs (x - z))) _ => ⟨⟨⟨rfl, rfl⟩, hY.w.rcv⟩, ⟨rfl, ⟨hY.w, _, hA.1, ⟨(by decide), ⟨zixO hA.2.1 hA.2.2 (i := 0) (by decide) (by decide), zIr (Eq.trans (congrFun hG0 _) (h_tl)) (⟨trivial, fun (qg117 : zrg (tl)) _ => ⟨fun (qc118 : zabs (x - z) ≤ tl) => (show Φ 68 [some (zo 670), some (zi r), some (zi 0), none] [] M (0) (0) from ?g163l1), fun (qc119 : zabs (x - z) > tl) => ⟨⟨⟨rfl, rfl⟩, hY.w.rcv⟩, ⟨rfl, ⟨hY.w, _, hA.1, ⟨(zrgI (x := 16 * r) (by omega)), ⟨(zrgI (x := 132 + 16 * r) (by omega)), ⟨(zrgI (x := 132 + 16 * r + 1) (by omega)), ⟨⟨zixW hA.2.1 hA.2.2 (i := 132 + 16 * r + 1) (by omega) (by decide), trivial⟩, zMw (zsI_gG hG0 (132 + 16 * r + 1) 3) (fun g21 hg21 => fun _ _ => ⟨fun (h : (0 : Int) ≥ 3) => absurd h (by decide), fun _ => ⟨⟨⟨rfl, rfl⟩, hY.w.rcv⟩, ⟨rfl, ⟨(by decide), ⟨(by decide), ⟨(by decide), ⟨⟨⟨rfl, rfl⟩, hY.w.rcv⟩, ⟨rfl, ⟨hY.w, _, hA.1, ⟨(zrgI (x := 16 * r) (by omega)), ⟨(zrgI (x := 132 + 16 * r) (by omega)), ⟨(zrgI (x := 132 + 16 * r + 7) (by omega)), ⟨zixO hA.2.1 hA.2.2 (i := 132 + 16 * r + 7) (by omega) (by decide), zIr (Eq.trans (zIa _ _ _ _) (Eq.trans (gN hg21 (by omega)) (h_a))) (⟨trivial, fun (qg121 : zrg (a)) _ => ⟨trivial, fun (qg122 : zrg (a)) _ => ⟨⟨⟨rfl, rfl⟩, hY.w.rcv⟩, ⟨rfl, ⟨(zrgI (x := 9 * a) (by omega)), ⟨(zrgI (x := 6 + 9 * a) (by omega)), ⟨(zrgI (x := 6 + 9 * a + 3) (by omega)), ⟨hY.w, _, hA.1, ⟨hY.w, _, hA.1, ⟨zixO hA.2.1 hA.2.2 (i := 6 + 9 * a + 3) (by omega) (by decide), zIr (Eq.trans (zIa _ _ _ _) (Eq.trans (gN hg21 (by omega)) (h_ta))) (⟨(zrgI (x := ta + (-1)) (by omega)), ⟨rfl, ⟨rfl, ⟨⟨zixW hA.2.1 hA.2.2 (i := 6 + 9 * a + 3) (by omega) (by decide), trivial⟩, zMw (zsI_gU M 671 g21 (6 + 9 * a + 3) (zmax 0 (zmin 20 (ta + (-1))))) (fun g22 hg22 => fun _ _ => ⟨(by decide), ⟨fun (h : (1 : Int) ≥ 3) => absurd h (by decide), fun _ => ⟨⟨⟨rfl, rfl⟩, hY.w.rcv⟩, ⟨rfl, ⟨(by decide), ⟨(by decide), ⟨(by decide), ⟨⟨⟨rfl, rfl⟩, hY.w.rcv⟩, ⟨rfl, ⟨hY.w, _, hA.1, ⟨(zrgI (x := 16 * r) (by omega)), ⟨(zrgI (x := 132 + 16 * r) (by omega)), ⟨(zrgI (x := 132 + 16 * r + 10) (by omega)), ⟨zixO hA.2.1 hA.2.2 (i := 132 + 16 * r + 10) (by omega) (by decide), zIr (Eq.trans (zIa _ _ _ _) (Eq.trans (gN hg22 (by omega)) (Eq.trans (gN hg21 (by omega)) (h_b)))) (⟨trivial, fun (qg124 : zrg (b)) _ => ⟨trivial, fun (qg125 : zrg (b)) _ => ⟨⟨⟨rfl, rfl⟩, hY.w.rcv⟩, ⟨rfl, ⟨(zrgI (x := 9 * b) (by omega)), ⟨(zrgI (x := 6 + 9 * b) (by omega)), ⟨(zrgI (x := 6 + 9 * b + 3) (by omega)), ⟨hY.w, _, hA.1, ⟨hY.w, _, hA.1, ⟨zixO hA.2.1 hA.2.2 (i := 6 + 9 * b + 3) (by omega) (by decide), zIr (Eq.trans (zIa _ _ _ _) (Eq.trans (gN hg22 (by omega)) (Eq.trans (gN hg21 (by omega)) (h_tb)))) (⟨(zrgI (x := tb + (-1)) (by omega)), ⟨rfl, ⟨rfl, ⟨⟨zixW hA.2.1 hA.2.2 (i := 6 + 9 * b + 3) (by omega) (by decide), trivial⟩, zMw (zsI_gU M 671 g22 (6 + 9 * b + 3) (zmax 0 (zmin 20 (tb + (-1))))) (fun g23 hg23 => fun _ _ => ⟨(by decide), ⟨fun (h : (2 : Int) ≥ 3) => absurd h (by decide), fun _ => ⟨⟨⟨rfl, rfl⟩, hY.w.rcv⟩, ⟨rfl, ⟨(by decide), ⟨(by decide), ⟨(by decide), ⟨⟨⟨rfl, rfl⟩, hY.w.rcv⟩, ⟨rfl, ⟨hY.w, _, hA.1, ⟨(zrgI (x := 16 * r) (by omega)), ⟨(zrgI (x := 132 + 16 * r) (by omega)), ⟨(zrgI (x := 132 + 16 * r + 13) (by omega)), ⟨zixO hA.2.1 hA.2.2 (i := 132 + 16 * r + 13) (by omega) (by decide), zIr (Eq.trans (zIa _ _ _ _) (Eq.trans (gN hg23 (by omega)) (Eq.trans (gN hg22 (by omega)) (Eq.trans (gN hg21 (by omega)) (h_d))))) (⟨trivial, fun (qg127 : zrg (d)) _ => ⟨trivial, fun (qg128 : zrg (d)) _ => ⟨⟨⟨rfl, rfl⟩, hY.w.rcv⟩, ⟨rfl, ⟨(zrgI (x := 9 * d) (by omega)), ⟨(zrgI (x := 6 + 9 * d) (by omega)), ⟨(zrgI (x := 6 + 9 * d + 3) (by omega)), ⟨hY.w, _, hA.1, ⟨hY.w, _, hA.1, ⟨zixO hA.2.1 hA.2.2 (i := 6 + 9 * d + 3) (by omega) (by decide), zIr (Eq.trans (zIa _ _ _ _) (Eq.trans (gN hg23 (by omega)) (Eq.trans (gN hg22 (by omega)) (Eq.trans (gN hg21 (by omega)) (h_td))))) (⟨(zrgI (x := td + (-1)) (by omega)), ⟨rfl, ⟨rfl, ⟨⟨zixW hA.2.1 hA.2.2 (i := 6 + 9 * d + 3) (by omega) (by decide), trivial⟩, zMw (zsI_gU M 671 g23 (6 + 9 * d + 3) (zmax 0 (zmin 20 (td + (-1))))) (fun g24 hg24 => fun _ _ => ⟨(by decide), ⟨fun _ => (show K none (zsA M 671 g24) from ?g163l2), fun (h : (3 : Int) < 3) => absurd h (by decide)⟩⟩)⟩⟩⟩⟩)⟩⟩⟩⟩⟩⟩⟩⟩⟩⟩)⟩⟩⟩⟩⟩⟩⟩⟩⟩⟩⟩⟩⟩⟩)⟩⟩⟩⟩)⟩⟩⟩⟩⟩⟩⟩⟩⟩⟩)⟩⟩⟩⟩⟩⟩⟩⟩⟩⟩⟩⟩⟩⟩)⟩⟩⟩⟩)⟩⟩⟩⟩⟩⟩⟩⟩⟩⟩)⟩⟩⟩⟩⟩⟩⟩⟩⟩⟩⟩⟩⟩)⟩⟩⟩⟩⟩⟩⟩⟩⟩)⟩⟩⟩⟩⟩⟩⟩⟩⟩⟩)⟩⟩⟩⟩⟩⟩⟩⟩⟩⟩⟩⟩⟩⟩)⟩⟩⟩⟩⟩⟩⟩⟩⟩⟩⟩⟩⟩⟩
    case g163l1 =>
      refine zGoR hΦ [21, 68] 400 (fun hL9 _ hM _ _ => ?_)
      obtain ⟨qL1, qL2, _⟩ : zrg r ∧ zrg 0 ∧ True := hL9
      refine ⟨⟨⟨rfl, rfl⟩, hY.w.rcv⟩, ⟨3, r, 0, 2, rfl, hY, hA, (by rw [hG0]; exact hD), (by omega), (by omega), fun qg219 qm220 => zMw (by rw [hG0] : _ = zsA M 671 (fFin G r 0 2)) (fun g41 hg41 => ⟨(by decide), ⟨⟨⟨rfl, rfl⟩, hY.w.rcv⟩, ⟨rfl, ⟨⟨⟨rfl, rfl⟩, hY.w.rcv⟩, ⟨rfl, ⟨(by decide), ⟨(by decide), ⟨(by decide), ⟨⟨⟨rfl, rfl⟩, hY.w.rcv⟩, ⟨rfl, ⟨hY.w, _, hA.1, ⟨(zrgI (x := 16 * r) (by omega)), ⟨(zrgI (x := 132 + 16 * r) (by omega)), ⟨(zrgI (x := 132 + 16 * r + 11) (by omega)), ⟨zixO hA.2.1 hA.2.2 (i := 132 + 16 * r + 11) (by omega) (by decide), zIr (Eq.trans (zIa _ _ _ _) (Eq.trans (by rw [hg41]; exact fFin_nr _ hr (by omega) hw0 hw2) (h_y))) (⟨trivial, fun (qg221 : zrg (y)) _ => ⟨trivial, fun (qg222 : zrg (y)) _ => ⟨⟨⟨rfl, rfl⟩, hY.w.rcv⟩, ⟨rfl, ⟨(by decide), ⟨(by decide), ⟨(by decide), ⟨⟨⟨rfl, rfl⟩, hY.w.rcv⟩, ⟨rfl, ⟨hY.w, _, hA.1, ⟨(zrgI (x := 16 * r) (by omega)), ⟨(zrgI (x := 132 + 16 * r) (by omega)), ⟨(zrgI (x := 132 + 16 * r + 14) (by omega)), ⟨zixO hA.2.1 hA.2.2 (i := 132 + 16 * r + 14) (by omega) (by decide), zIr (Eq.trans (zIa _ _ _ _) (Eq.trans (by rw [hg41]; exact fFin_nr _ hr (by omega) hw0 hw2) (h_z))) (⟨trivial, fun (qg223 : zrg (z)) _ => ⟨trivial, fun (qg224 : zrg (z)) _ => ⟨(zrgI (x := y - z) (by omega)), ⟨⟨rfl, zabsL (x := y - z) (by omega)⟩, ⟨trivial, fun (qg225 : zrg (zabs (y - z))) _ => ⟨⟨⟨rfl, rfl⟩, hY.w.rcv⟩, ⟨rfl, ⟨hY.w, _, hA.1, ⟨(by decide), ⟨zixO hA.2.1 hA.2.2 (i := 0) (by decide) (by decide), zIr (Eq.trans (zIa _ _ _ _) (Eq.trans (by rw [hg41]; exact fFin_nt _ hr (by decide) hw0 hw2) (h_tl))) (⟨trivial, fun (qg226 : zrg (tl)) _ => ⟨fun (qc227 : zabs (y - z) ≤ tl) => (show K none (zsA M 671 g41) from ?g164l1), fun (qc228 : zabs (y - z) > tl) => ⟨(by decide), ⟨⟨⟨rfl, rfl⟩, hY.w.rcv⟩, ⟨rfl, ⟨(by decide), ⟨(by decide), ⟨(by decide), ⟨⟨⟨rfl, rfl⟩, hY.w.rcv⟩, ⟨rfl, ⟨hY.w, _, hA.1, ⟨(zrgI (x := 16 * r) (by omega)), ⟨(zrgI (x := 132 + 16 * r) (by omega)), ⟨(zrgI (x := 132 + 16 * r + 10) (by omega)), ⟨zixO hA.2.1 hA.2.2 (i := 132 + 16 * r + 10) (by omega) (by decide), zIr (Eq.trans (zIa _ _ _ _) (Eq.trans (by rw [hg41]; exact fFin_nr _ hr (by omega) hw0 hw2) (h_b))) (⟨trivial, fun (qg229 : zrg (b)) _ => ⟨trivial, fun (qg230 : zrg (b)) _ => ⟨⟨⟨rfl, rfl⟩, hY.w.rcv⟩, ⟨rfl, ⟨(zrgI (x := 9 * b) (by omega)), ⟨(zrgI (x := 6 + 9 * b) (by omega)), ⟨(zrgI (x := 6 + 9 * b + 3) (by omega)), ⟨hY.w, _, hA.1, ⟨hY.w, _, hA.1, ⟨zixO hA.2.1 hA.2.2 (i := 6 + 9 * b + 3) (by omega) (by decide), zIr (Eq.trans (zIa _ _ _ _) (Eq.trans (by rw [hg41]; exact fFin_nw _ hr hbr rfl (hidP_i hw0 hb0) (hidP_i hw2 hb2)) (h_tb))) (⟨(zrgI (x := tb + (-3)) (by omega)), ⟨rfl, ⟨rfl, ⟨⟨zixW hA.2.1 hA.2.2 (i := 6 + 9 * b + 3) (by omega) (by decide), trivial⟩, zMw (zsI_gU M 671 g41 (6 + 9 * b + 3) (zmax 0 (zmin 20 (tb + (-3))))) (fun g42 hg42 => fun _ _ => (show K none (zsA M 671 g42) from ?g164l2))⟩⟩⟩⟩)⟩⟩⟩⟩⟩⟩⟩⟩⟩⟩)⟩⟩⟩⟩⟩⟩⟩⟩⟩⟩⟩⟩⟩⟩⟩)⟩⟩⟩⟩⟩⟩⟩⟩⟩⟩)⟩⟩⟩⟩⟩⟩⟩⟩⟩⟩⟩⟩⟩⟩)⟩⟩⟩⟩⟩⟩⟩⟩⟩⟩⟩⟩⟩⟩⟩)⟩⟩
      case g164l1 =>
        subst hg41
        have e_td := zEq h_td
        subst e_td
        have e_tb := zEq h_tb
        subst e_tb
        have e_ta := zEq h_ta
        subst e_ta
        have e_tl := zEq h_tl
        subst e_tl
        have e_z := zEq h_z
        subst e_z
        have e_y := zEq h_y
        subst e_y
        have e_x := zEq h_x
        subst e_x
        have e_d := zEq h_d
        subst e_d
        have e_b := zEq h_b
        subst e_b
        have e_a := zEq h_a
        subst e_a
        have hn : fNear G r = 0 := if_neg (Int.not_lt.mpr qc11)
        refine zKn hK ?_
        unfold fDec
        rw [hn]
        rw [if_neg (show ¬ G 0 < fFar G r 0 from Int.not_lt.mpr qc118)]
        rw [if_neg (show ¬ G 0 < fFar G r (1 - 0) from Int.not_lt.mpr qc227)]
      case g164l2 =>
        subst hg42
        subst hg41
        have e_td := zEq h_td
        subst e_td
        have e_tb := zEq h_tb
        subst e_tb
        have e_ta := zEq h_ta
        subst e_ta
        have e_tl := zEq h_tl
        subst e_tl
        have e_z := zEq h_z
        subst e_z
        have e_y := zEq h_y
        subst e_y
        have e_x := zEq h_x
        subst e_x
        have e_d := zEq h_d
        subst e_d
        have e_b := zEq h_b
        subst e_b
        have e_a := zEq h_a
        subst e_a
        have hn : fNear G r = 0 := if_neg (Int.not_lt.mpr qc11)
        refine zKn hK ?_
        unfold fDec
        rw [hn]
        rw [if_neg (show ¬ G 0 < fFar G r 0 from Int.not_lt.mpr qc118)]
        rw [if_pos (show G 0 < fFar G r (1 - 0) from qc228)]
        rfl
    case g163l2 =>
      subst hg24
      subst hg23
      subst hg22
      subst hg21
      have e_td := zEq h_td
      subst e_td
      have e_tb := zEq h_tb
      subst e_tb
      have e_ta := zEq h_ta
      subst e_ta
      have e_tl := zEq h_tl
      subst e_tl
      have e_z := zEq h_z
      subst e_z
      have e_y := zEq h_y
      subst e_y
      have e_x := zEq h_x
      subst e_x
      have e_d := zEq h_d
      subst e_d
      have e_b := zEq h_b
      subst e_b
      have e_a := zEq h_a
      subst e_a
      have hn : fNear G r = 0 := if_neg (Int.not_lt.mpr qc11)
      refine zKn hK ?_
      unfold fDec
      rw [hn]
      rw [if_pos (show G 0 < fFar G r 0 from qc119)]
      rfl
  case g162l2 =>
    refine zGoR hΦ [21, 68] 400 (fun hL9 _ hM _ _ => ?_)
    obtain ⟨qL1, qL2, _⟩ : zrg r ∧ zrg 1 ∧ True := hL9
    refine ⟨⟨⟨rfl, rfl⟩, hY.w.rcv⟩, ⟨rfl, ⟨⟨⟨rfl, rfl⟩, hY.w.rcv⟩, ⟨rfl, ⟨(by decide), ⟨(by decide), ⟨(by decide), ⟨⟨⟨rfl, rfl⟩, hY.w.rcv⟩, ⟨rfl, ⟨hY.w, _, hA.1, ⟨(zrgI (x := 16 * r) (by omega)), ⟨(zrgI (x := 132 + 16 * r) (by omega)), ⟨(zrgI (x := 132 + 16 * r + 11) (by omega)), ⟨zixO hA.2.1 hA.2.2 (i := 132 + 16 * r + 11) (by omega) (by decide), zIr (Eq.trans (congrFun hG0 _) (h_y)) (⟨trivial, fun (qg113 : zrg (y)) _ => ⟨trivial, fun (qg114 : zrg (y)) _ => ⟨⟨⟨rfl, rfl⟩, hY.w.rcv⟩, ⟨rfl, ⟨(by decide), ⟨(by decide), ⟨(by decide), ⟨⟨⟨rfl, rfl⟩, hY.w.rcv⟩, ⟨rfl, ⟨hY.w, _, hA.1, ⟨(zrgI (x := 16 * r) (by omega)), ⟨(zrgI (x := 132 + 16 * r) (by omega)), ⟨(zrgI (x := 132 + 16 * r + 14) (by omega)), ⟨zixO hA.2.1 hA.2.2 (i := 132 + 16 * r + 14) (by omega) (by decide), zIr (Eq.trans (congrFun hG0 _) (h_z)) (⟨trivial, fun (qg115 : zrg (z)) _ => ⟨trivial, fun (qg116 : zrg (z)) _ => ⟨(zrgI (x := y - z) (by omega)), ⟨⟨rfl, zabsL (x := y - z) (by omega)⟩, ⟨trivial, fun (qg117 : zrg (zabs (y - z))) _ => ⟨⟨⟨rfl, rfl⟩, hY.w.rcv⟩, ⟨rfl, ⟨hY.w, _, hA.1, ⟨(by decide), ⟨zixO hA.2.1 hA.2.2 (i := 0) (by decide) (by decide), zIr (Eq.trans (congrFun hG0 _) (h_tl)) (⟨trivial, fun (qg118 : zrg (tl)) _ => ⟨fun (qc119 : zabs (y - z) ≤ tl) => (show Φ 68 [some (zo 670), some (zi r), some (zi 1), none] [] M (0) (0) from ?g165l1), fun (qc120 : zabs (y - z) > tl) => ⟨⟨⟨rfl, rfl⟩, hY.w.rcv⟩, ⟨rfl, ⟨hY.w, _, hA.1, ⟨(zrgI (x := 16 * r) (by omega)), ⟨(zrgI (x := 132 + 16 * r) (by omega)), ⟨(zrgI (x := 132 + 16 * r + 1) (by omega)), ⟨⟨zixW hA.2.1 hA.2.2 (i := 132 + 16 * r + 1) (by omega) (by decide), trivial⟩, zMw (zsI_gG hG0 (132 + 16 * r + 1) 3) (fun g21 hg21 => fun _ _ => ⟨fun (h : (0 : Int) ≥ 3) => absurd h (by decide), fun _ => ⟨⟨⟨rfl, rfl⟩, hY.w.rcv⟩, ⟨rfl, ⟨(by decide), ⟨(by decide), ⟨(by decide), ⟨⟨⟨rfl, rfl⟩, hY.w.rcv⟩, ⟨rfl, ⟨hY.w, _, hA.1, ⟨(zrgI (x := 16 * r) (by omega)), ⟨(zrgI (x := 132 + 16 * r) (by omega)), ⟨(zrgI (x := 132 + 16 * r + 7) (by omega)), ⟨zixO hA.2.1 hA.2.2 (i := 132 + 16 * r + 7) (by omega) (by decide), zIr (Eq.trans (zIa _ _ _ _) (Eq.trans (gN hg21 (by omega)) (h_a))) (⟨trivial, fun (qg122 : zrg (a)) _ => ⟨trivial, fun (qg123 : zrg (a)) _ => ⟨⟨⟨rfl, rfl⟩, hY.w.rcv⟩, ⟨rfl, ⟨(zrgI (x := 9 * a) (by omega)), ⟨(zrgI (x := 6 + 9 * a) (by omega)), ⟨(zrgI (x := 6 + 9 * a + 3) (by omega)), ⟨hY.w, _, hA.1, ⟨hY.w, _, hA.1, ⟨zixO hA.2.1 hA.2.2 (i := 6 + 9 * a + 3) (by omega) (by decide), zIr (Eq.trans (zIa _ _ _ _) (Eq.trans (gN hg21 (by omega)) (h_ta))) (⟨(zrgI (x := ta + (-1)) (by omega)), ⟨rfl, ⟨rfl, ⟨⟨zixW hA.2.1 hA.2.2 (i := 6 + 9 * a + 3) (by omega) (by decide), trivial⟩, zMw (zsI_gU M 671 g21 (6 + 9 * a + 3) (zmax 0 (zmin 20 (ta + (-1))))) (fun g22 hg22 => fun _ _ => ⟨(by decide), ⟨fun (h : (1 : Int) ≥ 3) => absurd h (by decide), fun _ => ⟨⟨⟨rfl, rfl⟩, hY.w.rcv⟩, ⟨rfl, ⟨(by decide), ⟨(by decide), ⟨(by decide), ⟨⟨⟨rfl, rfl⟩, hY.w.rcv⟩, ⟨rfl, ⟨hY.w, _, hA.1, ⟨(zrgI (x := 16 * r) (by omega)), ⟨(zrgI (x := 132 + 16 * r) (by omega)), ⟨(zrgI (x := 132 + 16 * r + 10) (by omega)), ⟨zixO hA.2.1 hA.2.2 (i := 132 + 16 * r + 10) (by omega) (by decide), zIr (Eq.trans (zIa _ _ _ _) (Eq.trans (gN hg22 (by omega)) (Eq.trans (gN hg21 (by omega)) (h_b)))) (⟨trivial, fun (qg125 : zrg (b)) _ => ⟨trivial, fun (qg126 : zrg (b)) _ => ⟨⟨⟨rfl, rfl⟩, hY.w.rcv⟩, ⟨rfl, ⟨(zrgI (x := 9 * b) (by omega)), ⟨(zrgI (x := 6 + 9 * b) (by omega)), ⟨(zrgI (x := 6 + 9 * b + 3) (by omega)), ⟨hY.w, _, hA.1, ⟨hY.w, _, hA.1, ⟨zixO hA.2.1 hA.2.2 (i := 6 + 9 * b + 3) (by omega) (by decide), zIr (Eq.trans (zIa _ _ _ _) (Eq.trans (gN hg22 (by omega)) (Eq.trans (gN hg21 (by omega)) (h_tb)))) (⟨(zrgI (x := tb + (-1)) (by omega)), ⟨rfl, ⟨rfl, ⟨⟨zixW hA.2.1 hA.2.2 (i := 6 + 9 * b + 3) (by omega) (by decide), trivial⟩, zMw (zsI_gU M 671 g22 (6 + 9 * b + 3) (zmax 0 (zmin 20 (tb + (-1))))) (fun g23 hg23 => fun _ _ => ⟨(by decide), ⟨fun (h : (2 : Int) ≥ 3) => absurd h (by decide), fun _ => ⟨⟨⟨rfl, rfl⟩, hY.w.rcv⟩, ⟨rfl, ⟨(by decide), ⟨(by decide), ⟨(by decide), ⟨⟨⟨rfl, rfl⟩, hY.w.rcv⟩, ⟨rfl, ⟨hY.w, _, hA.1, ⟨(zrgI (x := 16 * r) (by omega)), ⟨(zrgI (x := 132 + 16 * r) (by omega)), ⟨(zrgI (x := 132 + 16 * r + 13) (by omega)), ⟨zixO hA.2.1 hA.2.2 (i := 132 + 16 * r + 13) (by omega) (by decide), zIr (Eq.trans (zIa _ _ _ _) (Eq.trans (gN hg23 (by omega)) (Eq.trans (gN hg22 (by omega)) (Eq.trans (gN hg21 (by omega)) (h_d))))) (⟨trivial, fun (qg128 : zrg (d)) _ => ⟨trivial, fun (qg129 : zrg (d)) _ => ⟨⟨⟨rfl, rfl⟩, hY.w.rcv⟩, ⟨rfl, ⟨(zrgI (x := 9 * d) (by omega)), ⟨(zrgI (x := 6 + 9 * d) (by omega)), ⟨(zrgI (x := 6 + 9 * d + 3) (by omega)), ⟨hY.w, _, hA.1, ⟨hY.w, _, hA.1, ⟨zixO hA.2.1 hA.2.2 (i := 6 + 9 * d + 3) (by omega) (by decide), zIr (Eq.trans (zIa _ _ _ _) (Eq.trans (gN hg23 (by omega)) (Eq.trans (gN hg22 (by omega)) (Eq.trans (gN hg21 (by omega)) (h_td))))) (⟨(zrgI (x := td + (-1)) (by omega)), ⟨rfl, ⟨rfl, ⟨⟨zixW hA.2.1 hA.2.2 (i := 6 + 9 * d + 3) (by omega) (by decide), trivial⟩, zMw (zsI_gU M 671 g23 (6 + 9 * d + 3) (zmax 0 (zmin 20 (td + (-1))))) (fun g24 hg24 => fun _ _ => ⟨(by decide), ⟨fun _ => (show K none (zsA M 671 g24) from ?g165l2), fun (h : (3 : Int) < 3) => absurd h (by decide)⟩⟩)⟩⟩⟩⟩)⟩⟩⟩⟩⟩⟩⟩⟩⟩⟩)⟩⟩⟩⟩⟩⟩⟩⟩⟩⟩⟩⟩⟩⟩)⟩⟩⟩⟩)⟩⟩⟩⟩⟩⟩⟩⟩⟩⟩)⟩⟩⟩⟩⟩⟩⟩⟩⟩⟩⟩⟩⟩⟩)⟩⟩⟩⟩)⟩⟩⟩⟩⟩⟩⟩⟩⟩⟩)⟩⟩⟩⟩⟩⟩⟩⟩⟩⟩⟩⟩⟩)⟩⟩⟩⟩⟩⟩⟩⟩⟩)⟩⟩⟩⟩⟩⟩⟩⟩⟩⟩)⟩⟩⟩⟩⟩⟩⟩⟩⟩⟩⟩⟩⟩⟩)⟩⟩⟩⟩⟩⟩⟩⟩⟩⟩⟩⟩⟩⟩
    case g165l1 =>
      refine zGoR hΦ [21, 68] 400 (fun hL9 _ hM _ _ => ?_)
      obtain ⟨qL1, qL2, _⟩ : zrg r ∧ zrg 1 ∧ True := hL9
      refine ⟨⟨⟨rfl, rfl⟩, hY.w.rcv⟩, ⟨3, r, 1, 2, rfl, hY, hA, (by rw [hG0]; exact hD), (by omega), (by omega), fun qg220 qm221 => zMw (by rw [hG0] : _ = zsA M 671 (fFin G r 1 2)) (fun g41 hg41 => ⟨(by decide), ⟨⟨⟨rfl, rfl⟩, hY.w.rcv⟩, ⟨rfl, ⟨⟨⟨rfl, rfl⟩, hY.w.rcv⟩, ⟨rfl, ⟨(by decide), ⟨(by decide), ⟨(by decide), ⟨⟨⟨rfl, rfl⟩, hY.w.rcv⟩, ⟨rfl, ⟨hY.w, _, hA.1, ⟨(zrgI (x := 16 * r) (by omega)), ⟨(zrgI (x := 132 + 16 * r) (by omega)), ⟨(zrgI (x := 132 + 16 * r + 8) (by omega)), ⟨zixO hA.2.1 hA.2.2 (i := 132 + 16 * r + 8) (by omega) (by decide), zIr (Eq.trans (zIa _ _ _ _) (Eq.trans (by rw [hg41]; exact fFin_nr _ hr (by omega) hw1 hw2) (h_x))) (⟨trivial, fun (qg222 : zrg (x)) _ => ⟨trivial, fun (qg223 : zrg (x)) _ => ⟨⟨⟨rfl, rfl⟩, hY.w.rcv⟩, ⟨rfl, ⟨(by decide), ⟨(by decide), ⟨(by decide), ⟨⟨⟨rfl, rfl⟩, hY.w.rcv⟩, ⟨rfl, ⟨hY.w, _, hA.1, ⟨(zrgI (x := 16 * r) (by omega)), ⟨(zrgI (x := 132 + 16 * r) (by omega)), ⟨(zrgI (x := 132 + 16 * r + 14) (by omega)), ⟨zixO hA.2.1 hA.2.2 (i := 132 + 16 * r + 14) (by omega) (by decide), zIr (Eq.trans (zIa _ _ _ _) (Eq.trans (by rw [hg41]; exact fFin_nr _ hr (by omega) hw1 hw2) (h_z))) (⟨trivial, fun (qg224 : zrg (z)) _ => ⟨trivial, fun (qg225 : zrg (z)) _ => ⟨(zrgI (x := x - z) (by omega)), ⟨⟨rfl, zabsL (x := x - z) (by omega)⟩, ⟨trivial, fun (qg226 : zrg (zabs (x - z))) _ => ⟨⟨⟨rfl, rfl⟩, hY.w.rcv⟩, ⟨rfl, ⟨hY.w, _, hA.1, ⟨(by decide), ⟨zixO hA.2.1 hA.2.2 (i := 0) (by decide) (by decide), zIr (Eq.trans (zIa _ _ _ _) (Eq.trans (by rw [hg41]; exact fFin_nt _ hr (by decide) hw1 hw2) (h_tl))) (⟨trivial, fun (qg227 : zrg (tl)) _ => ⟨fun (qc228 : zabs (x - z) ≤ tl) => (show K none (zsA M 671 g41) from ?g166l1), fun (qc229 : zabs (x - z) > tl) => ⟨(by decide), ⟨⟨⟨rfl, rfl⟩, hY.w.rcv⟩, ⟨rfl, ⟨(by decide), ⟨(by decide), ⟨(by decide), ⟨⟨⟨rfl, rfl⟩, hY.w.rcv⟩, ⟨rfl, ⟨hY.w, _, hA.1, ⟨(zrgI (x := 16 * r) (by omega)), ⟨(zrgI (x := 132 + 16 * r) (by omega)), ⟨(zrgI (x := 132 + 16 * r + 7) (by omega)), ⟨zixO hA.2.1 hA.2.2 (i := 132 + 16 * r + 7) (by omega) (by decide), zIr (Eq.trans (zIa _ _ _ _) (Eq.trans (by rw [hg41]; exact fFin_nr _ hr (by omega) hw1 hw2) (h_a))) (⟨trivial, fun (qg230 : zrg (a)) _ => ⟨trivial, fun (qg231 : zrg (a)) _ => ⟨⟨⟨rfl, rfl⟩, hY.w.rcv⟩, ⟨rfl, ⟨(zrgI (x := 9 * a) (by omega)), ⟨(zrgI (x := 6 + 9 * a) (by omega)), ⟨(zrgI (x := 6 + 9 * a + 3) (by omega)), ⟨hY.w, _, hA.1, ⟨hY.w, _, hA.1, ⟨zixO hA.2.1 hA.2.2 (i := 6 + 9 * a + 3) (by omega) (by decide), zIr (Eq.trans (zIa _ _ _ _) (Eq.trans (by rw [hg41]; exact fFin_nw _ hr har rfl (hidP_i hw1 ha1) (hidP_i hw2 ha2)) (h_ta))) (⟨(zrgI (x := ta + (-3)) (by omega)), ⟨rfl, ⟨rfl, ⟨⟨zixW hA.2.1 hA.2.2 (i := 6 + 9 * a + 3) (by omega) (by decide), trivial⟩, zMw (zsI_gU M 671 g41 (6 + 9 * a + 3) (zmax 0 (zmin 20 (ta + (-3))))) (fun g42 hg42 => fun _ _ => (show K none (zsA M 671 g42) from ?g166l2))⟩⟩⟩⟩)⟩⟩⟩⟩⟩⟩⟩⟩⟩⟩)⟩⟩⟩⟩⟩⟩⟩⟩⟩⟩⟩⟩⟩⟩⟩)⟩⟩⟩⟩⟩⟩⟩⟩⟩⟩)⟩⟩⟩⟩⟩⟩⟩⟩⟩⟩⟩⟩⟩⟩)⟩⟩⟩⟩⟩⟩⟩⟩⟩⟩⟩⟩⟩⟩⟩)⟩⟩
      case g166l1 =>
        subst hg41
        have e_td := zEq h_td
        subst e_td
        have e_tb := zEq h_tb
        subst e_tb
        have e_ta := zEq h_ta
        subst e_ta
        have e_tl := zEq h_tl
        subst e_tl
        have e_z := zEq h_z
        subst e_z
        have e_y := zEq h_y
        subst e_y
        have e_x := zEq h_x
        subst e_x
        have e_d := zEq h_d
        subst e_d
        have e_b := zEq h_b
        subst e_b
        have e_a := zEq h_a
        subst e_a
        have hn : fNear G r = 1 := if_pos qc12
        refine zKn hK ?_
        unfold fDec
        rw [hn]
        rw [if_neg (show ¬ G 0 < fFar G r 1 from Int.not_lt.mpr qc119)]
        rw [if_neg (show ¬ G 0 < fFar G r (1 - 1) from Int.not_lt.mpr qc228)]
      case g166l2 =>
        subst hg42
        subst hg41
        have e_td := zEq h_td
        subst e_td
        have e_tb := zEq h_tb
        subst e_tb
        have e_ta := zEq h_ta
        subst e_ta
        have e_tl := zEq h_tl
        subst e_tl
        have e_z := zEq h_z
        subst e_z
        have e_y := zEq h_y
        subst e_y
        have e_x := zEq h_x
        subst e_x
        have e_d := zEq h_d
        subst e_d
        have e_b := zEq h_b
        subst e_b
        have e_a := zEq h_a
        subst e_a
        have hn : fNear G r = 1 := if_pos qc12
        refine zKn hK ?_
        unfold fDec
        rw [hn]
        rw [if_neg (show ¬ G 0 < fFar G r 1 from Int.not_lt.mpr qc119)]
        rw [if_pos (show G 0 < fFar G r (1 - 1) from qc229)]
        rfl
    case g165l2 =>
      subst hg24
      subst hg23
      subst hg22
      subst hg21
      have e_td := zEq h_td
      subst e_td
      have e_tb := zEq h_tb
      subst e_tb
      have e_ta := zEq h_ta
      subst e_ta
      have e_tl := zEq h_tl
      subst e_tl
      have e_z := zEq h_z
      subst e_z
      have e_y := zEq h_y
      subst e_y
      have e_x := zEq h_x
      subst e_x
      have e_d := zEq h_d
      subst e_d
      have e_b := zEq h_b
      subst e_b
      have e_a := zEq h_a
      subst e_a
      have hn : fNear G r = 1 := if_pos qc12
      refine zKn hK ?_
      unfold fDec
      rw [hn]
      rw [if_pos (show G 0 < fFar G r 1 from qc120)]
      rfl
theorem M_X9_decides {l : Launch} (hl : l.stackTraces = false) : zMet l yX9_decides (Cond.code yX9_decides cX9_decides 4 (Option.none : Option Jvm.ClassFile.FieldType) :: zG) rm_X9_decides 0 0 T_X9_decides := met_X9_decides hl (M_X9_farOf hl) (M_X9_table hl) (M_X9_put hl) (M_X9_ofTaking hl) (M_X9_trusts hl) (M_X9_finishes hl) bd_X9_decides
