theorem eErr_m {c : Int} {e : E3} : (eErr c e).2.2 = e.2.2 := by
  unfold eErr
  split <;> rfl
theorem eGo_m {B : Gm} {n : Int} {e : E3} (h : eOK n e) : e.2.2 ≤ (eGo B n e).2.2 := by
  unfold eGo
  split
  · exact (tkN_r B h.2).1
  · exact Int.le_refl _
theorem eLook_m {B : Gm} {n lo hi : Int} {e : E3} : (eLook B n lo hi e).2.2 = e.2.2 := by
  unfold eLook
  split
  · split
    · split
      · rfl
      · exact eErr_m
    · exact eErr_m
  · rfl
theorem eNum_m {B : Gm} {n lo hi : Int} {e : E3} (h : eOK n e) : e.2.2 ≤ (eNum B n lo hi e).2.2 := by
  have h9 := eGo_m (B := B) (eLook_ok (B := B) (lo := lo) (hi := hi) h)
  rw [eLook_m] at h9
  exact h9
theorem eKw_m {B : Gm} {n : Int} {l : List Int} {e : E3} (h : eOK n e) : e.2.2 ≤ (eKw B n l e).2.2 := by
  unfold eKw
  split
  · exact eGo_m h
  · have h9 := eGo_m (B := B) (eErr_ok (c := 1) h)
    rw [eErr_m] at h9
    exact h9
theorem eName_m {B : Gm} {n : Int} {e : E3} : (eName B n e).2.2 = e.2.2 := by
  unfold eName
  split
  · exact eErr_m
  · rfl
theorem eTold_m {B : Gm} {n : Int} {G : Gm} {e : E3} : (eTold B n G e).2.2 = e.2.2 := by
  unfold eTold
  split
  · rw [eErr_m, eName_m]
  · exact eName_m
theorem eIs_l {B : Gm} {n : Int} {l : List Int} {e : E3} (h : eIs B n l e = true) : e.1 = 0 ∧ tkK B n e.2.2 = 0 ∧ tkE B n e.2.2 - e.2.2 = (l.length : Int) := by
  unfold eIs isKw at h
  have z1 := Bool.and_eq_true_iff.mp h
  have z2 := Bool.and_eq_true_iff.mp z1.2
  have z5 := z2.2
  unfold spl at z5
  exact ⟨of_decide_eq_true z1.1, of_decide_eq_true z2.1, (of_decide_eq_true z5).1.2.2⟩
theorem eGo_k {B : Gm} {n : Int} {i : Nat} {e : E3} (hok : eOK n e) (hi : i < 11) (h : eIs B n (kwT i) e = true) : e.2.2 + 3 ≤ (eGo B n e).2.2 := by
  obtain ⟨a1, a2, a3⟩ := eIs_l h
  have h1 := (kwT_r hi).1
  have h2 := (tkN_r B (n := n) (s := e.2.2) hok.2).2.2
  unfold eGo
  rw [if_pos a1]
  show e.2.2 + 3 ≤ tkN B n e.2.2
  omega
theorem eSemi_k {B : Gm} {n : Int} {e : E3} (hok : eOK n e) (h : (eSemi B n e).1 = 0) : e.1 = 0 ∧ e.2.2 + 1 ≤ (eSemi B n e).2.2 := by
  unfold eSemi at h ⊢
  by_cases q : e.1 = 0 ∧ ¬ (tkK B n e.2.2 = 2 ∧ B e.2.2.toNat = 59)
  · rw [if_pos q] at h
    exact absurd (eGo_i h) (eErr_n (by decide))
  · rw [if_neg q] at h ⊢
    have h0 := eGo_i h
    have h2 : tkK B n e.2.2 = 2 := by
      by_cases z : tkK B n e.2.2 = 2 ∧ B e.2.2.toNat = 59
      · exact z.1
      · exact absurd ⟨h0, z⟩ q
    have h3 := (tkN_r B (n := n) (s := e.2.2) hok.2).2.2
    have h4 : tkE B n e.2.2 = e.2.2 + 1 := by unfold tkE; rw [if_pos h2]
    refine ⟨h0, ?_⟩
    unfold eGo
    rw [if_pos h0]
    show e.2.2 + 1 ≤ tkN B n e.2.2
    omega
theorem ePW_m {B : Gm} {n : Int} {G : Gm} {e : E3} (hok : eOK n e) (h : (ePW B n G e).1 = 0) : (eGo B n e).2.2 ≤ (ePW B n G e).2.2 := by
  have q4 := ePW_i h
  obtain ⟨a, b, -⟩ := w0_i (w4_i q4)
  have e0 : w0 B n G e = eGo B n e := by unfold w0; rw [if_neg b]
  have k0 : eOK n (w0 B n G e) := w0_ok hok
  have m1 : (w1 B n G e).2.2 = (eGo B n e).2.2 := by
    unfold w1
    split
    · rw [eErr_m, eName_m, e0]
    · rw [eName_m, e0]
  have k1 : eOK n (w1 B n G e) := by
    unfold w1
    split
    · exact eErr_ok (eName_ok k0)
    · exact eName_ok k0
  have m2 := eGo_m (B := B) k1
  have k2 := eGo_ok (B := B) k1
  have m3 : (eGo B n (w1 B n G e)).2.2 ≤ (w2 B n G e).2.2 := eKw_m k2
  have k3 : eOK n (w2 B n G e) := eKw_ok k2
  have m4 := eNum_m (B := B) (lo := 0) (hi := 5) k3
  have k4 := eNum_ok (B := B) (lo := 0) (hi := 5) k3
  have m5 : (eNum B n 0 5 (w2 B n G e)).2.2 ≤ (w3 B n G e).2.2 := eKw_m k4
  have k5 : eOK n (w3 B n G e) := eKw_ok k4
  have m6 : (w3 B n G e).2.2 ≤ (w4 B n G e).2.2 := eNum_m k5
  have k6 : eOK n (w4 B n G e) := eNum_ok k5
  have m7 : (w4 B n G e).2.2 ≤ (ePW B n G e).2.2 := by
    unfold ePW
    split
    · have m8 := eKw_m (B := B) (l := kwT 7) k6
      have m9 := eNum_m (B := B) (lo := 0) (hi := 20) (eKw_ok (B := B) (l := kwT 7) k6)
      omega
    · exact Int.le_refl _
  omega
theorem ePR_m {B : Gm} {n : Int} {G : Gm} {e : E3} (hok : eOK n e) : (eGo B n e).2.2 ≤ (ePR B n G e).2.2 := by
  have m1 : (r2 B n G e).2.2 = (eGo B n e).2.2 := by
    unfold r2 r1
    split
    · rw [eErr_m, eLook_m]
    · rw [eLook_m]
  have k1 := r2_ok (B := B) (G := G) hok
  have m2 := eNum_m (B := B) (lo := 1) (hi := 24) k1
  have k2 := eNum_ok (B := B) (lo := 1) (hi := 24) k1
  have m3 : (eNum B n 1 24 (r2 B n G e)).2.2 ≤ (r3 B n G e).2.2 := eKw_m k2
  have k3 : eOK n (r3 B n G e) := eKw_ok k2
  have m4 : (r3 B n G e).2.2 ≤ (ePR B n G e).2.2 := eNum_m k3
  omega
theorem ePB_m {B : Gm} {n : Int} {G : Gm} {e : E3} (hok : eOK n e) : (eGo B n e).2.2 ≤ (ePB B n G e).2.2 := by
  have k0 := eGo_ok (B := B) hok
  have m1 : (b1 B n G e).2.2 = (eGo B n e).2.2 := eTold_m
  have k1 : eOK n (b1 B n G e) := eTold_ok k0
  have m2 := eGo_m (B := B) k1
  have k2 := eGo_ok (B := B) k1
  have m3 : (b2 B n G e).2.2 = (eGo B n (b1 B n G e)).2.2 := eTold_m
  have k3 : eOK n (b2 B n G e) := eTold_ok k2
  have m4 : (b2 B n G e).2.2 ≤ (ePB B n G e).2.2 := by
    unfold ePB
    split
    · have h9 := eGo_m (B := B) (eErr_ok (c := 3) k3)
      rw [eErr_m] at h9
      exact h9
    · exact eGo_m k3
  omega
/-- a good statement goes on by four bytes or more -/
theorem eST_lt {B : Gm} {n : Int} {G : Gm} {e : E3} (hok : eOK n e) (h : (eST B n G e).1 = 0) : e.2.2 + 4 ≤ (eST B n G e).2.2 := by
  unfold eST at h ⊢
  by_cases q4 : eIs B n (kwT 4) e = true
  · rw [if_pos q4] at h ⊢
    have h1 := eSemi_k (ePW_ok hok) h
    have h2 := ePW_m hok h1.1
    have h3 := eGo_k hok (by decide) q4
    omega
  · rw [if_neg q4] at h ⊢
    by_cases q8 : eIs B n (kwT 8) e = true
    · rw [if_pos q8] at h ⊢
      have h1 := eSemi_k (ePR_ok hok) h
      have h2 := ePR_m (B := B) (G := G) hok
      have h3 := eGo_k hok (by decide) q8
      omega
    · rw [if_neg q8] at h ⊢
      by_cases q10 : eIs B n (kwT 10) e = true
      · rw [if_pos q10] at h ⊢
        have h1 := eSemi_k (ePB_ok hok) h
        have h2 := ePB_m (B := B) (G := G) hok
        have h3 := eGo_k hok (by decide) q10
        omega
      · rw [if_neg q10] at h ⊢
        have h1 := eSemi_k (eErr_ok hok) h
        exact absurd h1.1 (eErr_n (by decide))
/-- what a text gives -/
def prs (B : Gm) (n : Int) : Gm × E3 := eLP B n 501 (gPT B n gZ (0, -1, tkS B n 0), eSemi B n (ePT B n (0, -1, tkS B n 0)))
theorem eLP_b {B : Gm} {n : Int} {f : Nat} {x : Gm × E3} (h : x.2.1 ≠ 0 ∨ tkK B n x.2.2.2 = 3) : eLP B n f x = x := by
  cases f with
  | zero => rfl
  | succ f =>
    rw [eLP, if_neg (fun z => by omega)]
theorem eLP_s {B : Gm} {n : Int} {f : Nat} {G : Gm} {e : E3} (h : e.1 = 0) (h3 : tkK B n e.2.2 ≠ 3) : eLP B n (f + 1) (G, e) = eLP B n f (gST B n G e, eST B n G e) := by
  rw [eLP, if_pos ⟨h, h3⟩]
theorem DI_lp {B : Gm} {n : Int} : ∀ (f : Nat) (G : Gm) (e : E3), DI G → eOK n e → DI (eLP B n f (G, e)).1 ∧ eOK n (eLP B n f (G, e)).2 := by
  intro f
  induction f with
  | zero => exact fun G e h hok => ⟨h, hok⟩
  | succ f ih =>
    intro G e h hok
    by_cases q : e.1 = 0 ∧ tkK B n e.2.2 ≠ 3
    · rw [eLP_s q.1 q.2]
      exact ih _ _ (DI_st h hok) (eST_ok hok)
    · rw [eLP, if_neg q]
      exact ⟨h, hok⟩
theorem prs_di (B : Gm) {n : Int} (h : 0 ≤ n) : DI (prs B n).1 := by
  have h0 : eOK n ((0, -1, tkS B n 0) : E3) := tkS_r B h
  refine (DI_lp 501 _ _ DI_pt (eSemi_ok ?_)).1
  exact eNum_ok (eKw_ok (eNum_ok (eKw_ok (eNum_ok (eKw_ok (eKw_ok h0))))))
