/-- the keywords -/
def kwT : Nat → List Int
  | 0 => [116, 97, 98, 108, 101]
  | 1 => [116, 111, 108, 101, 114, 97, 110, 99, 101]
  | 2 => [112, 97, 116, 105, 101, 110, 99, 101]
  | 3 => [108, 101, 97, 115, 116]
  | 4 => [119, 111, 114, 107, 101, 114]
  | 5 => [116, 101, 97, 109]
  | 6 => [113, 117, 111, 116, 97]
  | 7 => [116, 114, 117, 115, 116]
  | 8 => [114, 111, 119, 115]
  | 9 => [115, 105, 122, 101]
  | 10 => [98, 97, 114]
  | _ => []
theorem kwT_l : ∀ i : Fin 11, (kwT i.val).length ≤ 9 ∧ 3 ≤ (kwT i.val).length := by decide
theorem kwT_c : ∀ i : Fin 11, ∀ k : Fin 9, k.val < (kwT i.val).length → 97 ≤ (kwT i.val).getD k.val 0 ∧ (kwT i.val).getD k.val 0 ≤ 122 := by decide
theorem kwT_r {i : Nat} (h : i < 11) : (3 ≤ (kwT i).length ∧ (kwT i).length ≤ 9) ∧ ∀ k : Nat, k < (kwT i).length → 97 ≤ (kwT i).getD k 0 ∧ (kwT i).getD k 0 ≤ 122 := by
  have h1 := kwT_l ⟨i, h⟩
  exact ⟨⟨h1.2, h1.1⟩, fun k hk => kwT_c ⟨i, h⟩ ⟨k, by have := h1.1; simp only at this; omega⟩ hk⟩
/-- the constants -/
def KC (M : ZM) : Prop := (∀ i : Nat, i < 11 → zTx M (13 + i) (kwT i) ∧ zTx M (13 + i) (kwT i) ∧ ((zK M (1 + i) = 40 ∧ 1 + i < zN M) ∧ zR M (1 + i) 0 = some (13 + i)) ∧ zR M 12 i = some (1 + i)) ∧ (zK M 12 = 33 ∧ 12 < zN M) ∧ zLn M 12 = 11
theorem KC.fr {S : Nat → Prop} {M M' : ZM} (h : KC M) (f : Fr S M M') : KC M' := by
  obtain ⟨h1, h2, h3⟩ := h
  obtain ⟨a1, a2, a3, a4⟩ := f.2.1 12 h2.2
  refine ⟨fun i hi => ?_, ⟨a1.trans h2.1, Nat.lt_of_lt_of_le h2.2 f.1⟩, a2.trans h3⟩
  obtain ⟨b1, b2, ⟨⟨b3, b3'⟩, b4⟩, b5⟩ := h1 i hi
  obtain ⟨d1, d2, d3, d4⟩ := f.2.1 (1 + i) b3'
  exact ⟨f.2.2 _ _ b1, f.2.2 _ _ b2, ⟨⟨d1.trans b3, Nat.lt_of_lt_of_le b3' f.1⟩, (d4 0 (by rw [b3]; decide) (by rw [b3]; decide)).trans b4⟩, (a4 i (by rw [h2.1]; decide) (by rw [h2.1]; decide)).trans b5⟩
theorem KC.w {M : ZM} (h : KC M) (i : Nat) (hi : i < 11) : zTx M (13 + i) (kwT i) := (h.1 i hi).1
theorem rtk_r (k : Int) (h : 0 ≤ k ∧ k ≤ 3) : (rtk k = 1 ↔ k = 0) ∧ (rtk k = 2 ↔ k = 1) ∧ (rtk k = 3 ↔ k = 2) ∧ (rtk k = 0 ↔ k = 3) := by
  unfold rtk
  split <;> omega
theorem min9_r (x : Int) : (x ≤ 9999 → min9 x = x) ∧ (9999 < x → min9 x = 9999) := by
  unfold min9
  split <;> omega
theorem eErr_n {c : Int} {e : E3} (hc : c ≠ 0) : (eErr c e).1 ≠ 0 := by
  unfold eErr
  split
  · exact hc
  · next q => exact q
theorem eErr_g {c : Int} {e : E3} (h : e.1 = 0) : eErr c e = (c, e.2.2, e.2.2) := if_pos h
theorem RP.er {M : ZM} {B : Gm} {n c : Int} {e : E3} (hY : LY M) (h : RP M B n e) (h0 : e.1 = 0) : RXn M (zsI (zsI M 670 12 c) 670 13 e.2.2) ∧ RP (zsI (zsI M 670 12 c) 670 13 e.2.2) B n (eErr c e) := by
  have f1 := (RXn.i (M := M) (f := 12) (v := c) hY (by decide)).tr (RXn.i (M := zsI M 670 12 c) (f := 13) (v := e.2.2) hY (by decide))
  obtain ⟨h1, h2, ⟨t1, t2, t3, t4, t5⟩, h4⟩ := h
  refine ⟨f1, h1.fr hY f1, ?_, ?_, eErr_ok h4⟩
  · rw [eErr_g h0]
    exact ⟨by simp (disch := omega) only [zIs, zIm, zIn, zIrf], zI_Is _ _ _ _⟩
  · rw [eErr_g h0]
    refine ⟨?_, ?_, ?_, fun z => ?_, fun z => ?_⟩
    · simp (disch := omega) only [zIs, zIm, zIn, zIrf]; exact t1
    · simp (disch := omega) only [zIs, zIm, zIn, zIrf]; exact t2
    · simp (disch := omega) only [zIs, zIm, zIn, zIrf]; exact t3
    · simp (disch := omega) only [zIs, zIm, zIn, zIrf]; exact t4 z
    · simp (disch := omega) only [zIs, zIm, zIn, zIrf]; exact t5 z
theorem RP.go {M M' : ZM} {B : Gm} {n : Int} {e : E3} (hY : LY M) (h : RP M B n e) (h0 : e.1 = 0) (hx : RXn M M') (h12 : zI M' 670 12 = zI M 670 12 ∧ zI M' 670 13 = zI M 670 13) (hk : RTk M' B n (tkS B n (tkE B n e.2.2))) : RP M' B n (eGo B n e) := by
  refine ⟨h.1.fr hY hx, ?_, ?_, eGo_ok h.2.2.2⟩
  · unfold eGo
    rw [if_pos h0]
    exact ⟨h12.1.trans (h.2.1.1.trans h0), h12.2.trans h.2.1.2⟩
  · unfold eGo
    rw [if_pos h0]
    exact hk
/-- a keyword stands here -/
def isKey (B : Gm) (n : Int) (e : E3) : Bool := eIs B n (kwT 0) e || (eIs B n (kwT 1) e || (eIs B n (kwT 2) e || (eIs B n (kwT 3) e || (eIs B n (kwT 4) e || (eIs B n (kwT 5) e || (eIs B n (kwT 6) e || (eIs B n (kwT 7) e || (eIs B n (kwT 8) e || (eIs B n (kwT 9) e || eIs B n (kwT 10) e)))))))))
def eName (B : Gm) (n : Int) (e : E3) : E3 := if e.1 = 0 ∧ (tkK B n e.2.2 ≠ 0 ∨ 6 < tkE B n e.2.2 - e.2.2 ∨ isKey B n e = true) then eErr 1 e else e
def eNm (B : Gm) (n : Int) (e : E3) : Int := if (eName B n e).1 = 0 then fNmF B e.2.2 (tkE B n e.2.2) else 0
theorem eName_b {B : Gm} {n : Int} {e : E3} (h : e.1 ≠ 0) : eName B n e = e := if_neg (fun z => h z.1)
theorem eName_ok {B : Gm} {n : Int} {e : E3} (h : eOK n e) : eOK n (eName B n e) := by
  unfold eName
  split
  · exact eErr_ok h
  · exact h
theorem eName_v {B : Gm} {n : Int} {e : E3} (h : (eName B n e).1 = 0) : e.1 = 0 ∧ tkK B n e.2.2 = 0 ∧ tkE B n e.2.2 - e.2.2 ≤ 6 ∧ isKey B n e = false ∧ eName B n e = e := by
  unfold eName at h ⊢
  by_cases q : e.1 = 0 ∧ (tkK B n e.2.2 ≠ 0 ∨ 6 < tkE B n e.2.2 - e.2.2 ∨ isKey B n e = true)
  · rw [if_pos q] at h
    exact absurd h (eErr_n (by decide))
  · rw [if_neg q] at h ⊢
    refine ⟨h, ?_, ?_, ?_, rfl⟩
    · exact Decidable.byContradiction (fun z => q ⟨h, Or.inl z⟩)
    · exact Int.not_lt.mp (fun z => q ⟨h, Or.inr (Or.inl z)⟩)
    · exact Bool.eq_false_iff.mpr (fun z => q ⟨h, Or.inr (Or.inr z)⟩)
theorem eGo_i {B : Gm} {n : Int} {e : E3} (h : (eGo B n e).1 = 0) : e.1 = 0 := by
  by_cases q : e.1 = 0
  · exact q
  · rw [eGo_b q] at h; exact h
theorem eLook_i {B : Gm} {n lo hi : Int} {e : E3} (h : (eLook B n lo hi e).1 = 0) : e.1 = 0 := (eLook_v h).1
theorem eNum_i {B : Gm} {n lo hi : Int} {e : E3} (h : (eNum B n lo hi e).1 = 0) : e.1 = 0 := eLook_i (eGo_i h)
theorem eKw_i {B : Gm} {n : Int} {l : List Int} {e : E3} (h : (eKw B n l e).1 = 0) : e.1 = 0 := by
  by_cases q : e.1 = 0
  · exact q
  · rw [eKw_b q] at h; exact h
theorem eSemi_i {B : Gm} {n : Int} {e : E3} (h : (eSemi B n e).1 = 0) : e.1 = 0 := by
  by_cases q : e.1 = 0
  · exact q
  · rw [eSemi_b q] at h; exact h
theorem eName_i {B : Gm} {n : Int} {e : E3} (h : (eName B n e).1 = 0) : e.1 = 0 := (eName_v h).1
/-- a name's letters -/
theorem tk_let {B : Gm} {n s : Int} (h : s ≤ n) (hk : tkK B n s = 0) : ∀ k : Int, s ≤ k → k < tkE B n s → 97 ≤ B k.toNat ∧ B k.toNat ≤ 122 := fun k k0 k1 => by
  have h9 := (tkE_r B h).2.2.2.2 (by omega) k k0 k1
  rw [hk] at h9
  exact (((tkK_r B n k).2.2.2.1).mp h9).2
