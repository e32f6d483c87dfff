/-! load's text: what it gives -/
def sTB (a b c : Int) (l : List Int) : List Int := kwT 0 ++ 32 :: (kwT 1 ++ 32 :: (dig a ++ 32 :: (kwT 2 ++ 32 :: (dig b ++ 32 :: (kwT 3 ++ 32 :: (dig c ++ 59 :: l))))))
def txW (tm qo tr : Int → Int) : Nat → List Int
  | 0 => []
  | j + 1 => txW tm qo tr j ++ sWK (j : Int) (tm j) (qo j) (tr j) []
def txR (m z : Int → Int) : Nat → List Int
  | 0 => []
  | j + 1 => txR m z j ++ sRW (m j) (z j) []
def txB (i j : Int) : List Int := if i = j then [] else sBR i j []
def smR (m : Int → Int) : Nat → Int
  | 0 => 0
  | j + 1 => smR m j + m j
theorem sTB_a {a b c : Int} {l : List Int} : sTB a b c [] ++ l = sTB a b c l := by
  unfold sTB
  simp only [List.append_assoc, List.cons_append, List.nil_append]
theorem sWK_a {i t q r : Int} {l : List Int} : sWK i t q r [] ++ l = sWK i t q r l := by
  unfold sWK
  simp only [List.append_assoc, List.cons_append, List.nil_append]
theorem sRW_a {m z : Int} {l : List Int} : sRW m z [] ++ l = sRW m z l := by
  unfold sRW
  simp only [List.append_assoc, List.cons_append, List.nil_append]
theorem St.stp {B : Gm} {n : Int} {e : E3} {l : List Int} (h : St B n e l) (hn : nbl l) : e.1 = 0 ∧ tkK B n e.2.2 ≠ 3 := by
  obtain ⟨p, rfl, hp⟩ := h
  obtain ⟨c, t, rfl, hc⟩ := hn
  refine ⟨rfl, fun z => ?_⟩
  have h9 := tkK_at hp
  have z' : tkK B n p = 3 := z
  rw [h9] at z'
  unfold kdc at z'
  split at z'
  · exact absurd z' (by decide)
  · split at z' <;> exact absurd z' (by decide)
theorem St.end {B : Gm} {n : Int} {e : E3} (h : St B n e []) (f : Nat) (G : Gm) : eLP B n f (G, e) = (G, e) ∧ e.1 = 0 ∧ e.2.1 = -1 := by
  obtain ⟨p, rfl, hp⟩ := h
  refine ⟨eLP_b (Or.inr ?_), rfl, rfl⟩
  show tkK B n p = 3
  unfold tkK
  have := hp.2.1
  rw [if_pos (by simp only [List.length_nil] at this; omega)]
/-- what stands after the table's statement and i workers -/
def PWK (a : Int) (tm qo tr : Int → Int) (i : Int) (G : Gm) : Prop := DI G ∧ G 0 = a ∧ G 4 = i ∧ NMS G ∧ (∀ w : Int, 0 ≤ w → w < i → G (6 + 9 * w + 1).toNat = tm w ∧ G (6 + 9 * w + 2).toNat = qo w ∧ G (6 + 9 * w + 3).toNat = tr w) ∧ (∀ p q : Int, 0 ≤ p → p < 6 → 0 ≤ q → q < 6 → G (60 + 6 * p + q).toNat = 0)
/-- rows are fresh -/
def FRS (G : Gm) : Prop := ∀ r : Int, 0 ≤ r → r < G 5 → G (132 + 16 * r + 1).toNat = 0 ∧ G (132 + 16 * r + 6).toNat = 0
theorem PWK.t {a b c : Int} {tm qo tr : Int → Int} (ha : 0 ≤ a ∧ a ≤ 20) (hb : 1 ≤ b ∧ b ≤ 50) (hc : 0 ≤ c ∧ c ≤ 19) : PWK a tm qo tr 0 (gU (gU (gU gZ 0 a) 1 b) 2 c) ∧ gU (gU (gU gZ 0 a) 1 b) 2 c 5 = 0 := by
  have e : ∀ {k : Nat}, 3 ≤ k → gU (gU (gU gZ 0 a) 1 b) 2 c k = 0 := fun {k} z => by
    rw [gU_n _ (by show k ≠ 2; omega), gU_n _ (by show k ≠ 1; omega), gU_n _ (by show k ≠ 0; omega)]
    rfl
  refine ⟨⟨DI.tab ha hb hc, ?_, e (by decide), fun w w0 w1 => ?_, fun w w0 w1 => ?_, fun p q p0 p1 q0 q1 => e (by omega)⟩, e (by decide)⟩
  · rw [gU_n _ (by decide), gU_n _ (by decide)]; exact gU_s _ 0 _
  · rw [e (by decide)] at w1
    exfalso
    omega
  · exfalso
    omega
theorem PWK.s {a i : Int} {tm qo tr : Int → Int} {G : Gm} (h : PWK a tm qo tr i G) (h5 : G 5 = 0) (hi : 0 ≤ i ∧ i < 6) (ht : 0 ≤ tm i ∧ tm i ≤ 5) (hq : 1 ≤ qo i ∧ qo i ≤ 5) (hr : 0 ≤ tr i ∧ tr i ≤ 20) : PWK a tm qo tr (i + 1) (F_wk G (622 + i) (tm i) (qo i) (tr i)) ∧ F_wk G (622 + i) (tm i) (qo i) (tr i) 5 = 0 := by
  obtain ⟨hD, h0, h4, hN, hw, hb⟩ := h
  have g4 : 0 ≤ G 4 := by omega
  have e : ∀ {k : Nat}, k ≠ 4 → (k : Int) < 6 + 9 * G 4 ∨ 6 + 9 * G 4 + 4 ≤ (k : Int) → F_wk G (622 + i) (tm i) (qo i) (tr i) k = G k := fun a b => F_wk_n g4 a b
  have e4 := F_wk_4 (G := G) (nm := 622 + i) (tm := tm i) (qo := qo i) (tr := tr i)
  obtain ⟨c0, c1, c2, c3⟩ := F_wk_c (nm := 622 + i) (tm := tm i) (qo := qo i) (tr := tr i) g4
  refine ⟨⟨hD.wk (by omega) (by omega) ht hq hr, ?_, ?_, fun w w0 w1 => ?_, fun w w0 w1 => ?_, fun p q p0 p1 q0 q1 => ?_⟩, ?_⟩
  · rw [e (by decide) (by omega)]; exact h0
  · rw [e4, h4]
  · rw [e4] at w1
    by_cases z : w = G 4
    · rw [z, c0, h4]
    · rw [e (by omega) (by omega)]
      exact hN w w0 (by omega)
  · by_cases z : w = G 4
    · have z2 : w = i := by omega
      rw [z, c1, c2, c3, ← z, z2]
      exact ⟨rfl, rfl, rfl⟩
    · rw [e (by omega) (by omega), e (by omega) (by omega), e (by omega) (by omega)]
      exact hw w w0 (by omega)
  · rw [e (by omega) (by omega)]
    exact hb p q p0 p1 q0 q1
  · rw [e (by decide) (by omega)]; exact h5
theorem LPw {B : Gm} {n a : Int} {tm qo tr : Int → Int} (hr : ∀ w : Int, 0 ≤ w → w < 6 → (0 ≤ tm w ∧ tm w ≤ 5) ∧ (1 ≤ qo w ∧ qo w ≤ 5) ∧ (0 ≤ tr w ∧ tr w ≤ 20)) {G0 : Gm} {e0 : E3} (hG : PWK a tm qo tr 0 G0) (h5 : G0 5 = 0) : ∀ (W : Nat), W ≤ 6 → ∀ (f : Nat) (l : List Int), (l = [] ∨ nbl l) → St B n e0 (txW tm qo tr W ++ l) → ∃ G1 e1, eLP B n (f + W) (G0, e0) = eLP B n f (G1, e1) ∧ St B n e1 l ∧ PWK a tm qo tr W G1 ∧ G1 5 = 0 := by
  intro W
  induction W with
  | zero => exact fun _ f l hl h => ⟨G0, e0, rfl, h, hG, h5⟩
  | succ W ih =>
    intro hW f l hl h
    have hn : nbl (sWK (W : Int) (tm W) (qo W) (tr W) l) := nbl_kw (by decide)
    have h' : St B n e0 (txW tm qo tr W ++ sWK (W : Int) (tm W) (qo W) (tr W) l) := by
      rw [← sWK_a (l := l), ← List.append_assoc]
      exact h
    obtain ⟨G1, e1, q1, q2, q3, q4⟩ := ih (by omega) (f + 1) _ (Or.inr hn) h'
    have hs := q2.stp hn
    obtain ⟨r1, r2, r3⟩ := hr W (by omega) (by omega)
    have hk := q2.wk q3.2.2.2.1 q3.2.2.1 (by omega) r1 r2 r3 hl
    have hp := q3.s q4 (by omega) r1 r2 r3
    refine ⟨gST B n G1 e1, eST B n G1 e1, ?_, hk.1, ?_, ?_⟩
    · rw [show f + (W + 1) = f + 1 + W by omega, q1, eLP_s hs.1 hs.2]
    · rw [hk.2, show (((W + 1 : Nat)) : Int) = (W : Int) + 1 by omega]; exact hp.1
    · rw [hk.2]; exact hp.2
theorem fRows_x {G : Gm} {size : Int} (h5 : 0 ≤ G 5) (hF : FRS G) : ∀ i, 0 ≤ i → i ≤ 24 → fRows G i size 5 = G 5 + i ∧ FRS (fRows G i size) ∧ ∀ k : Nat, k < 132 → k ≠ 5 → fRows G i size k = G k := by
  refine zup (n := 24) (fun i => fRows G i size 5 = G 5 + i ∧ FRS (fRows G i size) ∧ ∀ k : Nat, k < 132 → k ≠ 5 → fRows G i size k = G k) ?_ (fun i i0 i1 ih => ?_)
  · exact ⟨fRows_5 h5 0 (by decide) (by decide), hF, fun _ _ _ => rfl⟩
  · obtain ⟨a, b, c⟩ := ih
    rw [fRows_s i0]
    have e5 := fRow1_5 (g := fRows G i size) (size := size) (by omega)
    refine ⟨by rw [e5, a]; omega, fun r r0 r1 => ?_, fun k k0 k1 => ?_⟩
    · rw [e5] at r1
      by_cases z : r = fRows G i size 5
      · subst z
        exact ⟨fRow1_z (by omega) (by decide) (by decide) (by decide), fRow1_z (by omega) (by decide) (by decide) (by decide)⟩
      · rw [fRow1_n (by omega) (by omega) (by omega), fRow1_n (by omega) (by omega) (by omega)]
        exact b r r0 (by omega)
    · rw [fRow1_n (by omega) (by omega) k1]
      exact c k k0 k1
theorem PWK.r {a i m z : Int} {tm qo tr : Int → Int} {G : Gm} (h : PWK a tm qo tr i G) (hF : FRS G) (hi : 0 ≤ i ∧ i ≤ 6) (hm : 1 ≤ m ∧ m ≤ 4) (hz : 1 ≤ z ∧ z ≤ 9) (h5 : G 5 + m ≤ 24) : PWK a tm qo tr i (fRows G m z) ∧ FRS (fRows G m z) ∧ fRows G m z 5 = G 5 + m := by
  obtain ⟨hD, h0, h4, hN, hw, hb⟩ := h
  have g5 := hD.1.2.1.2.2.2.2.2.1
  obtain ⟨x1, x2, x3⟩ := fRows_x (size := z) g5 hF m (by omega) (by omega)
  refine ⟨⟨hD.rows ⟨by omega, h5⟩ hz, ?_, ?_, fun w w0 w1 => ?_, fun w w0 w1 => ?_, fun p q p0 p1 q0 q1 => ?_⟩, x2, x1⟩
  · rw [x3 0 (by decide) (by decide)]; exact h0
  · rw [x3 4 (by decide) (by decide)]; exact h4
  · rw [x3 4 (by decide) (by decide)] at w1
    rw [x3 _ (by omega) (by omega)]
    exact hN w w0 w1
  · rw [x3 _ (by omega) (by omega), x3 _ (by omega) (by omega), x3 _ (by omega) (by omega)]
    exact hw w w0 w1
  · rw [x3 _ (by omega) (by omega)]
    exact hb p q p0 p1 q0 q1
theorem smR_r {m : Int → Int} (hm : ∀ k : Int, 0 ≤ k → k < 4 → 1 ≤ m k ∧ m k ≤ 4) : ∀ R : Nat, R ≤ 4 → 0 ≤ smR m R ∧ smR m R ≤ 4 * R := by
  intro R
  induction R with
  | zero => exact fun _ => ⟨Int.le_refl _, by show (0 : Int) ≤ 4 * ((0 : Nat) : Int); omega⟩
  | succ R ih =>
    intro h
    have h1 := ih (by omega)
    have h2 := hm R (by omega) (by omega)
    show 0 ≤ smR m R + m R ∧ smR m R + m R ≤ 4 * ((R + 1 : Nat) : Int)
    omega
theorem LPr {B : Gm} {n a i : Int} {tm qo tr m z : Int → Int} (hi : 0 ≤ i ∧ i ≤ 6) (hm : ∀ k : Int, 0 ≤ k → k < 4 → 1 ≤ m k ∧ m k ≤ 4) (hz : ∀ k : Int, 0 ≤ k → k < 4 → 1 ≤ z k ∧ z k ≤ 9) {G0 : Gm} {e0 : E3} (hG : PWK a tm qo tr i G0) (hF : FRS G0) (h5 : G0 5 = 0) : ∀ (R : Nat), R ≤ 3 → ∀ (f : Nat) (l : List Int), (l = [] ∨ nbl l) → St B n e0 (txR m z R ++ l) → ∃ G1 e1, eLP B n (f + R) (G0, e0) = eLP B n f (G1, e1) ∧ St B n e1 l ∧ PWK a tm qo tr i G1 ∧ FRS G1 ∧ G1 5 = smR m R := by
  intro R
  induction R with
  | zero => exact fun _ f l hl h => ⟨G0, e0, rfl, h, hG, hF, h5⟩
  | succ R ih =>
    intro hR f l hl h
    have hn : nbl (sRW (m R) (z R) l) := nbl_kw (by decide)
    have h' : St B n e0 (txR m z R ++ sRW (m R) (z R) l) := by
      rw [← sRW_a (l := l), ← List.append_assoc]
      exact h
    obtain ⟨G1, e1, q1, q2, q3, q4, q5⟩ := ih (by omega) (f + 1) _ (Or.inr hn) h'
    have hs := q2.stp hn
    have r1 := hm R (by omega) (by omega)
    have r2 := hz R (by omega) (by omega)
    have hS := smR_r hm R (by omega)
    have hk := q2.rw (m := m R) (z := z R) (G := G1) (by omega) (by omega) r2 hl
    have hp := q3.r q4 hi r1 r2 (by omega)
    refine ⟨gST B n G1 e1, eST B n G1 e1, ?_, hk.1, ?_, ?_, ?_⟩
    · rw [show f + (R + 1) = f + 1 + R by omega, q1, eLP_s hs.1 hs.2]
    · rw [hk.2]; exact hp.1
    · rw [hk.2]; exact hp.2.1
    · rw [hk.2, hp.2.2, q5]; rfl
/-- what the law's text leaves -/
def LDD (a : Int) (tm qo tr : Int → Int) (W : Int) (N : Int) (i j : Int) (G : Gm) : Prop := IV 0 G ∧ G 0 = a ∧ G 4 = W ∧ G 5 = N ∧ (∀ w : Int, 0 ≤ w → w < W → G (6 + 9 * w + 1).toNat = tm w ∧ G (6 + 9 * w + 2).toNat = qo w ∧ G (6 + 9 * w + 3).toNat = tr w) ∧ FRS G ∧ fFoes G i j = decide (i ≠ j)
theorem prs_ld {B : Gm} {n a b c i j : Int} {tm qo tr m z : Int → Int} {W R : Nat} (ha : 0 ≤ a ∧ a ≤ 20) (hb : 1 ≤ b ∧ b ≤ 50) (hc : 0 ≤ c ∧ c ≤ 19) (hr : ∀ w : Int, 0 ≤ w → w < 6 → (0 ≤ tm w ∧ tm w ≤ 5) ∧ (1 ≤ qo w ∧ qo w ≤ 5) ∧ (0 ≤ tr w ∧ tr w ≤ 20)) (hm : ∀ k : Int, 0 ≤ k → k < 4 → 1 ≤ m k ∧ m k ≤ 4) (hz : ∀ k : Int, 0 ≤ k → k < 4 → 1 ≤ z k ∧ z k ≤ 9) (hW : 1 ≤ W ∧ W ≤ 6) (hR : R ≤ 3) (hi : 0 ≤ i ∧ i < (W : Int)) (hj : 0 ≤ j ∧ j < (W : Int)) (h : AtB B n 0 (sTB a b c [] ++ txW tm qo tr W ++ txR m z R ++ txB i j)) : ((prs B n).2.1 = 0 ∧ (prs B n).2.2.1 = -1) ∧ LDD a tm qo tr W (smR m R) i j (prs B n).1 := by
  have nB : txB i j = [] ∨ nbl (txB i j) := by
    unfold txB
    split
    · exact Or.inl rfl
    · exact Or.inr (nbl_kw (by decide))
  have nR : ∀ k, txR m z k ++ txB i j = [] ∨ nbl (txR m z k ++ txB i j) := fun k => by
    induction k with
    | zero => exact nB
    | succ k ih =>
      rcases ih with e | ⟨x, t, e, hx⟩
      · have e1 := List.append_eq_nil_iff.mp e
        refine Or.inr ?_
        show nbl (txR m z k ++ sRW (m k) (z k) [] ++ txB i j)
        rw [e1.1]
        exact ⟨114, _, rfl, by decide, by decide⟩
      · refine Or.inr ?_
        show nbl (txR m z k ++ sRW (m k) (z k) [] ++ txB i j)
        cases e2 : txR m z k with
        | nil => exact ⟨114, _, rfl, by decide, by decide⟩
        | cons y u =>
          rw [e2] at e
          have e3 : y = x := (List.cons.inj e).1
          exact ⟨y, _, rfl, by rw [e3]; exact hx⟩
  have nW : ∀ k, txW tm qo tr k ++ (txR m z R ++ txB i j) = [] ∨ nbl (txW tm qo tr k ++ (txR m z R ++ txB i j)) := fun k => by
    induction k with
    | zero => exact nR R
    | succ k ih =>
      refine Or.inr ?_
      show nbl (txW tm qo tr k ++ sWK (k : Int) (tm k) (qo k) (tr k) [] ++ (txR m z R ++ txB i j))
      cases e2 : txW tm qo tr k with
      | nil => exact ⟨119, _, rfl, by decide, by decide⟩
      | cons y u =>
        rcases ih with e | ⟨x, t, e, hx⟩
        · rw [e2] at e
          exact absurd e (List.cons_ne_nil _ _)
        · rw [e2] at e
          have e3 : y = x := (List.cons.inj e).1
          exact ⟨y, _, rfl, by rw [e3]; exact hx⟩
  have h0 : AtB B n 0 (sTB a b c (txW tm qo tr W ++ (txR m z R ++ txB i j))) := by
    rw [← sTB_a, ← List.append_assoc, ← List.append_assoc]
    exact h
  have hS : tkS B n 0 = 0 := tkS_0 (c := 116) h0 (by decide)
  have s0 : St B n (0, -1, 0) (sTB a b c (txW tm qo tr W ++ (txR m z R ++ txB i j))) := ⟨0, rfl, h0⟩
  have s1 := s0.pt ha hb hc (nW W) gZ
  have p1 := PWK.t (tm := tm) (qo := qo) (tr := tr) ha hb hc
  obtain ⟨G2, e2, q1, q2, q3, q4⟩ := LPw hr p1.1 p1.2 W hW.2 (501 - W) _ (nR R) s1.1
  rw [show 501 - W + W = 501 by omega] at q1
  obtain ⟨G3, e3, u1, u2, u3, u4, u5⟩ := LPr (by omega) hm hz q3 (fun r r0 r1 => by exfalso; omega) q4 R hR (501 - W - R) _ nB q2
  rw [show 501 - W - R + R = 501 - W by omega] at u1
  have eP : prs B n = eLP B n (501 - W - R) (G3, e3) := by
    unfold prs
    rw [hS, s1.2, q1, u1]
  obtain ⟨hD, v0, v4, vN, vw, vb⟩ := u3
  have vs : G3 (96 + 6 * i + j).toNat = 0 := by
    have h9 := (hD.1.2.2.2.2.1 i j hi.1 (by omega) hj.1 (by omega)).2
    omega
  have vf : fFoes G3 i j = false := by
    unfold fFoes
    refine decide_eq_false (fun y => ?_)
    have h9 := vb i j hi.1 (by omega) hj.1 (by omega)
    omega
  by_cases hij : i = j
  · have u2' : St B n e3 [] := by
      unfold txB at u2
      rw [if_pos hij] at u2
      exact u2
    obtain ⟨x1, x2, x3⟩ := u2'.end (501 - W - R) G3
    rw [eP, x1]
    exact ⟨⟨x2, x3⟩, hD.1, v0, v4, u5, vw, u4, by rw [vf]; exact (decide_eq_false (fun y => y hij)).symm⟩
  · have u2' : St B n e3 (sBR i j []) := by
      unfold txB at u2
      rw [if_neg hij] at u2
      exact u2
    have hs := u2'.stp (nbl_kw (by decide))
    have k := u2'.br vN (by omega) (by omega) (by omega) hij vf (Or.inl rfl)
    obtain ⟨x1, x2, x3⟩ := k.1.end (501 - W - R - 1) (gST B n G3 e3)
    have eQ : prs B n = (gST B n G3 e3, eST B n G3 e3) := by
      rw [eP, show 501 - W - R = 501 - W - R - 1 + 1 by omega, eLP_s hs.1 hs.2]
      exact x1
    rw [eQ]
    refine ⟨⟨x2, x3⟩, ?_⟩
    show LDD a tm qo tr W (smR m R) i j (gST B n G3 e3)
    rw [k.2]
    have e : ∀ {k : Nat}, k < 60 ∨ 96 ≤ k → gU (gU G3 (60 + 6 * i + j) 1) (60 + 6 * j + i) 1 k = G3 k := fun z => by rw [gU_n _ (by omega), gU_n _ (by omega)]
    refine ⟨(hD.bar (by omega) (by omega) hij).1, ?_, ?_, ?_, fun w w0 w1 => ?_, fun r r0 r1 => ?_, ?_⟩
    · rw [e (by omega)]; exact v0
    · rw [e (by omega)]; exact v4
    · rw [e (by omega)]; exact u5
    · rw [e (by omega), e (by omega), e (by omega)]
      exact vw w w0 w1
    · rw [e (by omega)] at r1
      rw [e (by omega), e (by omega)]
      exact u4 r r0 r1
    · unfold fFoes
      refine decide_eq_decide.mpr ⟨fun y => y.1, fun y => ⟨y, Or.inl ?_⟩⟩
      rw [gU_n _ (by omega)]
      exact gU_s _ _ _
