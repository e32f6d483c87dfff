abbrev T3 : Type := Int × Int × Int
def TKe (g : Gm) (r k : Int) : T3 := ((g (132 + 16 * r + (7 + 3 * k + 0)).toNat), (g (132 + 16 * r + (7 + 3 * k + 1)).toNat), (g (132 + 16 * r + (7 + 3 * k + 2)).toNat))
def TK (g : Gm) (r : Int) : List T3 := (List.range (g (132 + 16 * r + 6).toNat).toNat).map (fun k : Nat => TKe g r (k : Int))
/-- the takings of a row -/
def RwT (g : Gm) (r : Int) (l : List T3) : Prop := (g (132 + 16 * r + 6).toNat) = (l.length : Int) ∧ ∀ (k : Nat) (x : T3), l[k]? = some x → TKe g r (k : Int) = x
theorem TK_RwT {g : Gm} {r : Int} (h : 0 ≤ (g (132 + 16 * r + 6).toNat)) : RwT g r (TK g r) := by
  refine ⟨?_, fun k x hx => ?_⟩
  · unfold TK
    rw [List.length_map, List.length_range]
    omega
  · unfold TK at hx
    rw [List.getElem?_map] at hx
    by_cases q : k < (g (132 + 16 * r + 6).toNat).toNat
    · rw [List.getElem?_range q] at hx
      exact Option.some.inj hx
    · rw [List.getElem?_eq_none (by rw [List.length_range]; omega)] at hx
      cases hx
theorem RwT.tk {g : Gm} {r : Int} {l : List T3} (h : RwT g r l) : TK g r = l := by
  obtain ⟨h1, h2⟩ := h
  refine List.ext_getElem? (fun k => ?_)
  unfold TK
  rw [List.getElem?_map]
  by_cases q : k < l.length
  · rw [List.getElem?_range (by omega), List.getElem?_eq_getElem q]
    exact congrArg some (h2 k _ (List.getElem?_eq_getElem q))
  · rw [List.getElem?_eq_none (by rw [List.length_range]; omega), List.getElem?_eq_none (by omega)]
    rfl
theorem RwT.at {g : Gm} {r : Int} {l1 l2 : List T3} {x : T3} (h : RwT g r (l1 ++ x :: l2)) : TKe g r (l1.length : Int) = x := h.2 _ _ (by rw [List.getElem?_append_right (Nat.le_refl _), Nat.sub_self]; rfl)
theorem TKe.congr {g g' : Gm} {r k : Int} (h0 : 0 ≤ r) (hk : 0 ≤ k ∧ k < 3) (e : ∀ j : Nat, 132 + 16 * r + 7 ≤ (j : Int) → (j : Int) < 132 + 16 * r + 16 → g' j = g j) : TKe g' r k = TKe g r k := by
  unfold TKe
  rw [e _ (by omega) (by omega), e _ (by omega) (by omega), e _ (by omega) (by omega)]
theorem RwT.congr {g g' : Gm} {r : Int} {l : List T3} (h : RwT g r l) (h0 : 0 ≤ r) (hl : l.length ≤ 3) (e : ∀ j : Nat, 132 + 16 * r + 6 ≤ (j : Int) → (j : Int) < 132 + 16 * r + 16 → g' j = g j) : RwT g' r l := by
  refine ⟨by rw [e _ (by omega) (by omega)]; exact h.1, fun k x hx => ?_⟩
  have hk := (List.getElem?_eq_some_iff.mp hx).1
  rw [TKe.congr h0 (by omega) (fun j a b => e j (by omega) b)]
  exact h.2 k x hx
theorem RwT.drop {g : Gm} {r : Int} {l1 l2 : List T3} {x : T3} (h : RwT g r (l1 ++ x :: l2)) (h0 : 0 ≤ r) (hl : (l1 ++ x :: l2).length ≤ 3) : RwT (fDrop g r (l1.length : Int)) r (l1 ++ l2) := by
  obtain ⟨h1, h2⟩ := h
  have e9 : (l1 ++ x :: l2).length = l1.length + 1 + l2.length := by rw [List.length_append, List.length_cons]; omega
  have e8 : (l1 ++ l2).length = l1.length + l2.length := List.length_append
  rw [e9] at h1 hl
  refine ⟨?_, fun k y hy => ?_⟩
  · unfold fDrop
    rw [sh_out _ _ _ _ (by omega), gU_s, h1, e8]
    omega
  · have hk := (List.getElem?_eq_some_iff.mp hy).1
    rw [e8] at hk
    by_cases q : k < l1.length
    · rw [List.getElem?_append_left q] at hy
      have h9 := h2 k y (by rw [List.getElem?_append_left q]; exact hy)
      rw [← h9]
      unfold TKe fDrop
      rw [sh_out _ _ _ _ (by omega), sh_out _ _ _ _ (by omega), sh_out _ _ _ _ (by omega), gU_n _ (by omega), gU_n _ (by omega), gU_n _ (by omega)]
    · rw [List.getElem?_append_right (by omega)] at hy
      have h9 := h2 (k + 1) y (by rw [List.getElem?_append_right (by omega), show k + 1 - l1.length = (k - l1.length) + 1 by omega, List.getElem?_cons_succ]; exact hy)
      rw [← h9]
      unfold TKe fDrop
      rw [sh_in _ _ _ _ (by omega), sh_in _ _ _ _ (by omega), sh_in _ _ _ _ (by omega), gU_n _ (by omega), gU_n _ (by omega), gU_n _ (by omega)]
      rw [show (132 + 16 * r + (7 + 3 * (k : Int) + 0)).toNat + 3 = (132 + 16 * r + (7 + 3 * ((k + 1 : Nat) : Int) + 0)).toNat by omega, show (132 + 16 * r + (7 + 3 * (k : Int) + 1)).toNat + 3 = (132 + 16 * r + (7 + 3 * ((k + 1 : Nat) : Int) + 1)).toNat by omega, show (132 + 16 * r + (7 + 3 * (k : Int) + 2)).toNat + 3 = (132 + 16 * r + (7 + 3 * ((k + 1 : Nat) : Int) + 2)).toNat by omega]
theorem RwT.ri {g : Gm} {r : Int} {l : List T3} (h : RwT g r l) (h0 : 0 ≤ r ∧ r < 24) (hl : l.length ≤ 3) (hw : ∀ x, x ∈ l → 0 ≤ x.1 ∧ x.1 < 6) : RI g r := by
  refine ⟨h0, by rw [h.1]; omega, fun k k0 k1 => ?_⟩
  rw [h.1] at k1
  have hk : k.toNat < l.length := by omega
  have h9 := h.2 k.toNat _ (List.getElem?_eq_getElem hk)
  have h8 := hw _ (List.getElem_mem hk)
  rw [← h9, show ((k.toNat : Nat) : Int) = k by omega] at h8
  exact h8
theorem RI.tk {g : Gm} {r : Int} (h : RI g r) : ∀ x, x ∈ TK g r → 0 ≤ x.1 ∧ x.1 < 6 := by
  intro x hx
  obtain ⟨hr, hm, hk⟩ := h
  unfold TK at hx
  obtain ⟨k, k1, rfl⟩ := List.mem_map.mp hx
  have := List.mem_range.mp k1
  exact hk (k : Int) (by omega) (by omega)
theorem TK_len {g : Gm} {r : Int} (h : RI g r) : (TK g r).length ≤ 3 := by
  unfold TK
  rw [List.length_map, List.length_range]
  have := h.2.1
  omega
theorem fDrop_n {g : Gm} {r k : Int} (h0 : 0 ≤ r) (hk : 0 ≤ k) (hm : (g (132 + 16 * r + 6).toNat) ≤ 3) {j : Nat} (h : (j : Int) < 132 + 16 * r + 6 ∨ 132 + 16 * r + 16 ≤ (j : Int)) : fDrop g r k j = g j := by
  unfold fDrop
  rw [sh_out _ _ _ _ (by omega), gU_n _ (by omega)]
/-- a row set aside: what is left -/
def inWk (x : T3) : Bool := decide (x.2.1 = -1)
def SetA (G : Gm) (r : Int) (g : Gm) (n : Int) : Prop := RwT g r ((TK G r).filter (fun x => !inWk x)) ∧ (g (132 + 16 * r + 1).toNat) = 3 ∧ (∀ j : Nat, j ≠ (132 + 16 * r + 1).toNat → (j : Int) < 132 + 16 * r + 6 ∨ 132 + 16 * r + 16 ≤ (j : Int) → g j = G j) ∧ n = ((TK G r).countP inWk : Int)
def c_setAside (G : Gm) (r : Int) : Int := if 0 ≤ r ∧ r ≤ G 5 - 1 then (if (G (132 + 16 * r + 1).toNat) < 2 then 0 else 2) else 1
