def m9f (q : Nat) : Nat := [1, 2, 4, 5, 14, 15, 16, 17, 18, 20].getD q 0
def m9k (q : Nat) : Nat := [20, 20, 20, 21, 20, 22, 20, 22, 20, 21].getD q 0
def m9l (q : Nat) : Nat := [516, 516, 516, 500, 24, 24, 1032, 2, 3096, 400].getD q 0
theorem m9f_i : ∀ k, k < 10 → ∀ q, q < k → m9f q ≠ m9f k := by decide
def JS (k : Nat) (M0 M : ZM) : Prop := UB 670 M0 M ∧ zW M 670 12 ∧ zN M = 671 + k ∧ ∀ q, q < k → zR M 670 (m9f q) = some (671 + q) ∧ zW M (671 + q) (m9k q) ∧ zLn M (671 + q) = m9l q ∧ zI M (671 + q) = fun _ => 0
theorem JS.s {k : Nat} {M0 M : ZM} (h : JS k M0 M) (hk : k < 10) {f κ n : Nat} (ef : f = m9f k) (ek : κ = m9k k) (el : n = m9l k) : JS (k + 1) M0 (zsR (zNw M κ n) 670 f (some (zN M))) ∧ zI (zsR (zNw M κ n) 670 f (some (zN M))) 670 = zI M 670 ∧ ∀ p, p ≠ f → zR (zsR (zNw M κ n) 670 f (some (zN M))) 670 p = zR M 670 p := by
  subst ef ek el
  obtain ⟨b1, b2, b3, b4⟩ := h
  obtain ⟨a1, a2, a3, ⟨a4, a5, a6⟩, a7, a8, a9⟩ := A_sk (M := M) (b := 670) (κ := 12) (κ9 := m9k k) (s := m9f k) (n := m9l k) (v := zN M) b2 rfl
  refine ⟨⟨b1.tr a2, a3, a1.trans (by omega), fun q hq => ?_⟩, (a9 670 12 b2).2.2, a8⟩
  by_cases z : q = k
  · subst z
    rw [← b3]
    exact ⟨a7, a4, a5, a6⟩
  · obtain ⟨c1, c2, c3, c4⟩ := b4 q (by omega)
    obtain ⟨d1, d2, d3⟩ := a9 _ _ c2
    exact ⟨(a8 _ (m9f_i k hk q (by omega))).trans c1, d1, d2.trans c3, d3.trans c4⟩
theorem JS.r {k f : Nat} {M0 M : ZM} {v : Option Nat} (h : JS k M0 M) (hf : ∀ q, q < k → m9f q ≠ f) : JS k M0 (zsR M 670 f v) := by
  obtain ⟨b1, b2, b3, b4⟩ := h
  refine ⟨b1.tr (UB.r (Nat.le_refl _)), b2, b3, fun q hq => ?_⟩
  obtain ⟨c1, c2, c3, c4⟩ := b4 q hq
  exact ⟨(up2_m _ _ _ _ _ (hf q hq)).trans c1, c2, c3, c4⟩
theorem JS.i {k f : Nat} {M0 M : ZM} {v : Int} (h : JS k M0 M) : JS k M0 (zsI M 670 f v) := by
  obtain ⟨b1, b2, b3, b4⟩ := h
  refine ⟨b1.tr (UB.i (Nat.le_refl _)), b2, b3, fun q hq => ?_⟩
  obtain ⟨c1, c2, c3, c4⟩ := b4 q hq
  exact ⟨c1, c2, c3, (zI_In _ _ _ (by omega)).trans c4⟩
theorem JS.ly {M0 M : ZM} (h : JS 10 M0 M) : LY M := by
  obtain ⟨b1, b2, b3, b4⟩ := h
  exact ⟨b2, (b4 0 (by omega)).1, (b4 0 (by omega)).2.1, (b4 0 (by omega)).2.2.1, (b4 1 (by omega)).1, (b4 1 (by omega)).2.1, (b4 1 (by omega)).2.2.1, (b4 2 (by omega)).1, (b4 2 (by omega)).2.1, (b4 2 (by omega)).2.2.1, (b4 3 (by omega)).1, (b4 3 (by omega)).2.1, (b4 3 (by omega)).2.2.1, (b4 4 (by omega)).1, (b4 4 (by omega)).2.1, (b4 4 (by omega)).2.2.1, (b4 5 (by omega)).1, (b4 5 (by omega)).2.1, (b4 5 (by omega)).2.2.1, (b4 6 (by omega)).1, (b4 6 (by omega)).2.1, (b4 6 (by omega)).2.2.1, (b4 7 (by omega)).1, (b4 7 (by omega)).2.1, (b4 7 (by omega)).2.2.1, (b4 8 (by omega)).1, (b4 8 (by omega)).2.1, (b4 8 (by omega)).2.2.1, (b4 9 (by omega)).1, (b4 9 (by omega)).2.1, (b4 9 (by omega)).2.2.1⟩
