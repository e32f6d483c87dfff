/-! Kuhn's searches one after another -/
theorem cnt_b (p : Int → Bool) {n : Int} (h : 0 ≤ n) : cntI p (n + 1) = cntI p n + b2i (p n) := by
  rw [cntI_s h]
  cases p n with
  | true => rw [if_pos rfl]; rfl
  | false => rw [if_neg Bool.false_ne_true]; exact (Int.add_zero _).symm
theorem b2i_r (b : Bool) : 0 ≤ b2i b ∧ b2i b ≤ 1 := by cases b <;> decide
theorem cnt_sum (p : Int → Bool) : ∀ n, 0 ≤ n → n ≤ 1000 → cntI p n = sumI (fun x => b2i (p x)) n := by
  refine zup (n := 1000) (fun n => cntI p n = sumI (fun x => b2i (p x)) n) rfl (fun n n0 n1 ih => ?_)
  rw [cnt_b p n0, sumI_s n0, ih]
theorem sumI_le {f g : Int → Int} {n : Int} : ∀ k, 0 ≤ k → k ≤ n → (∀ i, 0 ≤ i → i < n → f i ≤ g i) → sumI f k ≤ sumI g k := by
  refine zup (n := n) (fun k => (∀ i, 0 ≤ i → i < n → f i ≤ g i) → sumI f k ≤ sumI g k) (fun _ => Int.le_refl _) (fun k k0 k1 ih h => ?_)
  rw [sumI_s k0, sumI_s k0]
  have h1 := ih h
  have h2 := h k k0 k1
  omega
theorem sum_ind (q : Bool) (h : Int) : ∀ n, 0 ≤ n → n ≤ 1000 → sumI (fun x => b2i (q && decide (h = x))) n = b2i (q && decide (0 ≤ h ∧ h < n)) := by
  refine zup (n := 1000) (fun n => sumI (fun x => b2i (q && decide (h = x))) n = b2i (q && decide (0 ≤ h ∧ h < n))) ?_ (fun n n0 n1 ih => ?_)
  · rw [sumI_0, decide_eq_false (by omega), Bool.and_false]; rfl
  · rw [sumI_s n0, ih]
    cases q with
    | false => rfl
    | true =>
      rw [Bool.true_and, Bool.true_and, Bool.true_and]
      by_cases e : h = n
      · rw [decide_eq_false (show ¬ (0 ≤ h ∧ h < n) by omega), decide_eq_true e, decide_eq_true (show 0 ≤ h ∧ h < n + 1 by omega)]; rfl
      · rw [decide_eq_false e]
        by_cases g : 0 ≤ h ∧ h < n
        · rw [decide_eq_true g, decide_eq_true (show 0 ≤ h ∧ h < n + 1 by omega)]; rfl
        · rw [decide_eq_false g, decide_eq_false (show ¬ (0 ≤ h ∧ h < n + 1) by omega)]; rfl
theorem sumI_z {n : Int} : ∀ k, 0 ≤ k → k ≤ n → sumI (fun _ => 0) k = 0 := by
  refine zup (n := n) (fun k => sumI (fun _ => 0) k = 0) rfl (fun k k0 k1 ih => ?_)
  rw [sumI_s k0, ih]
  rfl
theorem dcnt (Q : Int → Bool) (H : Gm) {n : Int} (hn : 0 ≤ n ∧ n ≤ 1000) : ∀ R, 0 ≤ R → R ≤ 1000 → sumI (fun x => cntI (fun r => Q r && decide (H r.toNat = x)) R) n = cntI (fun r => Q r && decide (0 ≤ H r.toNat ∧ H r.toNat < n)) R := by
  refine zup (n := 1000) (fun R => sumI (fun x => cntI (fun r => Q r && decide (H r.toNat = x)) R) n = cntI (fun r => Q r && decide (0 ≤ H r.toNat ∧ H r.toNat < n)) R) ?_ (fun R R0 R1 ih => ?_)
  · rw [cntI_0]
    exact sumI_z n hn.1 (Int.le_refl _)
  · rw [cnt_b _ R0, ← ih, ← sum_ind (Q R) (H R.toNat) n hn.1 hn.2, sumI_add _ _ hn.1]
    exact sumI_c (fun x _ _ => cnt_b _ R0)
theorem cntI_le {p q : Int → Bool} {n : Int} (hn : 0 ≤ n ∧ n ≤ 1000) (h : ∀ i, 0 ≤ i → i < n → p i = true → q i = true) : cntI p n ≤ cntI q n := by
  rw [cnt_sum p n hn.1 hn.2, cnt_sum q n hn.1 hn.2]
  refine sumI_le n hn.1 (Int.le_refl _) (fun i a b => ?_)
  have h9 := h i a b
  cases e : p i with
  | false => exact (b2i_r _).1
  | true => rw [h9 e]; exact Int.le_refl _
/-- i workers are looked at, c have a row -/
def KI (p : Int → Int → Bool) (n R i c : Int) (H : Gm) : Prop := hvl p n R H ∧ ∃ (D U : Int → Bool), (∀ x, 0 ≤ x → hcn R H x = b2i (decide (x < i) && !U x)) ∧ c = i - cntI U i ∧ dead p R H D ∧ ∀ x : Int, 0 ≤ x → x < i → U x = true → ∀ r : Int, 0 ≤ r → r < R → p x r = true → D r = true
theorem KI.z {p : Int → Int → Bool} {n R : Int} {H : Gm} (hR : 0 ≤ R ∧ R ≤ 1000) (h : ∀ r : Int, 0 ≤ r → r < R → H r.toNat = -1) : KI p n R 0 0 H := by
  refine ⟨fun r a b => Or.inl (h r a b), fun _ => false, fun _ => false, fun x x0 => ?_, rfl, fun r _ _ c => absurd c Bool.false_ne_true, fun x _ _ c => absurd c Bool.false_ne_true⟩
  rw [decide_eq_false (by omega)]
  refine cntI_z hR.1 hR.2 (fun r a b => decide_eq_false ?_)
  rw [h r a b]
  omega
def kU (b : Bool) (i : Int) (U : Int → Bool) (x : Int) : Bool := if x = i then !b else U x
theorem kU_i {b : Bool} {i x : Int} {U : Int → Bool} (h : x = i) : kU b i U x = !b := if_pos h
theorem kU_n {b : Bool} {i x : Int} {U : Int → Bool} (h : ¬ x = i) : kU b i U x = U x := if_neg h
theorem KI.s {p : Int → Int → Bool} {n R i c : Int} {H Z H1 Z1 : Gm} {b : Bool} (h : KI p n R i c H) (i0 : 0 ≤ i) (hz : ∀ r : Int, 0 ≤ r → r < R → Z r.toNat = 0) (f : FS p n R i H Z H1 Z1 b) : KI p n R (i + 1) (c + b2i b) H1 := by
  obtain ⟨hv, D, U, hc, hcc, hd, hu⟩ := h
  obtain ⟨f1, f2, f3, f4, f5⟩ := f
  have hU : cntI (kU b i U) (i + 1) = cntI U i + b2i (!b) := by
    rw [cnt_b _ i0, kU_i rfl]
    rw [cntI_c (p := kU b i U) (q := U) (fun x a e => kU_n (by omega))]
  have hb : b2i b + b2i (!b) = 1 := by cases b <;> rfl
  cases b with
  | true =>
    have hD := (f5 D hd).1
    refine ⟨f2, D, kU true i U, fun x x0 => ?_, by rw [hU]; omega, fun r r0 r1 c => by rw [hD r r0 r1 c]; exact hd r r0 r1 c, fun x x0 x1 x2 => ?_⟩
    · rw [f4 rfl x x0, hc x x0]
      by_cases e : x = i
      · rw [kU_i e, decide_eq_true e, decide_eq_false (show ¬ x < i by omega), decide_eq_true (show x < i + 1 by omega)]; rfl
      · rw [kU_n e, decide_eq_false e]
        by_cases g : x < i
        · rw [decide_eq_true g, decide_eq_true (show x < i + 1 by omega)]; exact Int.add_zero _
        · rw [decide_eq_false g, decide_eq_false (show ¬ x < i + 1 by omega)]; rfl
    · by_cases e : x = i
      · rw [kU_i e] at x2; exact absurd x2 (by decide)
      · rw [kU_n e] at x2
        exact hu x x0 (by omega) x2
  | false =>
    obtain ⟨m1, m2, m3⟩ := f3 rfl
    refine ⟨f2, fun r => D r || decide (Z1 r.toNat = 1), kU false i U, fun x x0 => ?_, by rw [hU]; omega, fun r r0 r1 c => ?_, fun x x0 x1 x2 r r0 r1 hp => ?_⟩
    · rw [hcn_c m1, hc x x0]
      by_cases e : x = i
      · rw [kU_i e, decide_eq_false (show ¬ x < i by omega), decide_eq_true (show x < i + 1 by omega)]; rfl
      · rw [kU_n e]
        by_cases g : x < i
        · rw [decide_eq_true g, decide_eq_true (show x < i + 1 by omega)]
        · rw [decide_eq_false g, decide_eq_false (show ¬ x < i + 1 by omega)]
    · rw [m1 r r0 r1]
      rcases Bool.or_eq_true_iff.mp c with z | z
      · have h9 := hd r r0 r1 z
        exact ⟨h9.1, fun q q0 q1 hq => by show (D q || _) = true; rw [h9.2 q q0 q1 hq]; rfl⟩
      · have h9 := m3 r r0 r1 (of_decide_eq_true z) (by rw [hz r r0 r1]; decide)
        exact ⟨h9.1, fun q q0 q1 hq => by show (D q || _) = true; rw [decide_eq_true (h9.2 q q0 q1 hq), Bool.or_true]⟩
    · show (D r || _) = true
      by_cases e : x = i
      · rw [e] at hp
        rw [decide_eq_true (m2 r r0 r1 hp), Bool.or_true]
      · rw [kU_n e] at x2
        rw [hu x x0 (by omega) x2 r r0 r1 hp]; rfl
theorem KI.e {p : Int → Int → Bool} {n R c : Int} {H : Gm} (h : KI p n R n c H) (hn : 0 ≤ n ∧ n ≤ 1000) (hR : 0 ≤ R ∧ R ≤ 1000) : MTk p n R c := by
  obtain ⟨hv, D, U, hc, hcc, hd, hu⟩ := h
  have hval : ∀ r : Int, 0 ≤ r → r < R → H r.toNat ≠ -1 → (0 ≤ H r.toNat ∧ H r.toNat < n) ∧ p (H r.toNat) r = true := fun r a b e => by
    rcases hv r a b with z | z
    · exact absurd z e
    · exact ⟨⟨z.1, z.2.1⟩, z.2.2⟩
  refine ⟨fun S => ?_, fun x => U x || decide (0 < cntI (fun r => D r && decide (H r.toNat = x)) R), ?_⟩
  · -- every group's number is c or more
    have a1 : cntI S n ≤ cntI U n + cntI (fun x => S x && !U x) n := by
      rw [cnt_sum S n hn.1 hn.2, cnt_sum U n hn.1 hn.2, cnt_sum _ n hn.1 hn.2, sumI_add _ _ hn.1]
      refine sumI_le n hn.1 (Int.le_refl _) (fun x _ _ => ?_)
      cases S x <;> cases U x <;> decide
    have a2 : cntI (fun x => S x && !U x) n = sumI (fun x => cntI (fun r => (S (H r.toNat) && !U (H r.toNat)) && decide (H r.toNat = x)) R) n := by
      rw [cnt_sum _ n hn.1 hn.2]
      refine sumI_c (fun x x0 x1 => ?_)
      have h9 := hc x x0
      rw [decide_eq_true x1, Bool.true_and] at h9
      unfold hcn at h9
      cases e : (S x && !U x) with
      | true =>
        have e2 := (Bool.and_eq_true_iff.mp e).2
        rw [e2] at h9
        rw [← h9]
        refine cntI_c (fun r _ _ => ?_)
        by_cases g : H r.toNat = x
        · rw [g, e]; rfl
        · rw [decide_eq_false g, Bool.and_false]
      | false =>
        refine (cntI_z hR.1 hR.2 (fun r _ _ => ?_)).symm
        show ((S (H r.toNat) && !U (H r.toNat)) && decide (H r.toNat = x)) = false
        by_cases g : H r.toNat = x
        · rw [g, e]; rfl
        · rw [decide_eq_false g, Bool.and_false]
    rw [dcnt _ H hn R hR.1 hR.2] at a2
    have a3 : cntI (fun r => (S (H r.toNat) && !U (H r.toNat)) && decide (0 ≤ H r.toNat ∧ H r.toNat < n)) R ≤ cntI (nbr p n S) R := cntI_le hR (fun r r0 r1 e => by
      obtain ⟨e1, e2⟩ := Bool.and_eq_true_iff.mp e
      have e3 := of_decide_eq_true e2
      exact (nbr_t hn).mpr ⟨_, e3.1, e3.2, (Bool.and_eq_true_iff.mp e1).1, (hval r r0 r1 (by omega)).2⟩)
    unfold mv
    omega
  · -- one group's number is c
    have b1 : cntI (nbr p n (fun x => U x || decide (0 < cntI (fun r => D r && decide (H r.toNat = x)) R))) R ≤ cntI D R := cntI_le hR (fun r r0 r1 e => by
      obtain ⟨w, w0, w1, w2, w3⟩ := (nbr_t hn).mp e
      rcases Bool.or_eq_true_iff.mp w2 with z | z
      · exact hu w w0 w1 z r r0 r1 w3
      · obtain ⟨q, q0, q1, q2⟩ := (cntI_pos R hR.1 hR.2).mp (of_decide_eq_true z)
        obtain ⟨q3, q4⟩ := Bool.and_eq_true_iff.mp q2
        have h9 := (hd q q0 q1 q3).2
        rw [of_decide_eq_true q4] at h9
        exact h9 r r0 r1 w3)
    have b2 : cntI D R = cntI (fun x => decide (0 < cntI (fun r => D r && decide (H r.toNat = x)) R)) n := by
      rw [cnt_sum _ n hn.1 hn.2]
      rw [cntI_c (p := D) (q := fun r => D r && decide (0 ≤ H r.toNat ∧ H r.toNat < n)) (fun r r0 r1 => ?_), ← dcnt D H hn R hR.1 hR.2]
      · refine sumI_c (fun x x0 x1 => ?_)
        have h9 := hc x x0
        have h8 : cntI (fun r => D r && decide (H r.toNat = x)) R ≤ hcn R H x := cntI_le hR (fun r _ _ e => (Bool.and_eq_true_iff.mp e).2)
        have h7 := cntI_r (fun r => D r && decide (H r.toNat = x)) R hR.1
        have h6 := b2i_r (decide (x < n) && !U x)
        by_cases g : 0 < cntI (fun r => D r && decide (H r.toNat = x)) R
        · rw [decide_eq_true g]
          have e1 : b2i true = 1 := rfl
          omega
        · rw [decide_eq_false g]
          have e1 : b2i false = 0 := rfl
          omega
      · cases e : D r with
        | false => rfl
        | true => rw [decide_eq_true (hval r r0 r1 (hd r r0 r1 e).1).1]; rfl
    have b3 : cntI U n + cntI (fun x => decide (0 < cntI (fun r => D r && decide (H r.toNat = x)) R)) n = cntI (fun x => U x || decide (0 < cntI (fun r => D r && decide (H r.toNat = x)) R)) n := by
      rw [cnt_sum U n hn.1 hn.2, cnt_sum _ n hn.1 hn.2, cnt_sum _ n hn.1 hn.2, sumI_add _ _ hn.1]
      refine sumI_c (fun x x0 x1 => ?_)
      have h9 := hc x x0
      rw [decide_eq_true x1, Bool.true_and] at h9
      have h8 : cntI (fun r => D r && decide (H r.toNat = x)) R ≤ hcn R H x := cntI_le hR (fun r _ _ e => (Bool.and_eq_true_iff.mp e).2)
      cases e : U x with
      | false => rw [Bool.false_or]; exact Int.zero_add _
      | true =>
        rw [e] at h9
        have e1 : b2i (!true) = 0 := rfl
        rw [decide_eq_false (show ¬ 0 < cntI (fun r => D r && decide (H r.toNat = x)) R by omega)]
        rfl
    unfold mv
    omega
