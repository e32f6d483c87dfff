def bl (B : Gm) (a : Int) (j : Nat) : List Int := (List.range j).map (fun k : Nat => B (a + (k : Int)).toNat)
theorem bl_len (B : Gm) (a : Int) (j : Nat) : (bl B a j).length = j := by
  unfold bl
  rw [List.length_map, List.length_range]
theorem bl_get (B : Gm) (a : Int) {j k : Nat} (h : k < j) : (bl B a j).getD k 0 = B (a + (k : Int)).toNat := by
  unfold bl
  rw [List.getD_eq_getElem?_getD, List.getElem?_map, List.getElem?_range h]
  rfl
theorem bl_s (B : Gm) (a : Int) (j : Nat) : bl B a (j + 1) = bl B a j ++ [B (a + (j : Int)).toNat] := by
  unfold bl
  rw [List.range_succ, List.map_append]
  rfl
theorem bl_eq {B : Gm} {a : Int} {l : List Int} (h : ∀ k : Nat, k < l.length → B (a + (k : Int)).toNat = l.getD k 0) : l = bl B a l.length := by
  refine List.ext_getElem (bl_len B a _).symm (fun k h1 h2 => ?_)
  have h3 := h k h1
  have h4 := bl_get B a h1
  rw [List.getD_eq_getElem?_getD, List.getElem?_eq_getElem h1] at h3
  rw [List.getD_eq_getElem?_getD, List.getElem?_eq_getElem h2] at h4
  exact (h4.trans h3).symm
theorem bl_ltr {B : Gm} {a : Int} {j : Nat} (h : ∀ k : Nat, k < j → 97 ≤ B (a + (k : Int)).toNat ∧ B (a + (k : Int)).toNat ≤ 122) : ltr (bl B a j) := by
  intro c hc
  unfold bl at hc
  obtain ⟨k, hk, rfl⟩ := List.mem_map.mp hc
  exact h k (List.mem_range.mp hk)
theorem spl_nm {B : Gm} {n a e : Int} {l : List Int} (hl : nmOK l) : spl B n a e l = true ↔ (0 ≤ a ∧ e ≤ n ∧ e - a = (l.length : Int)) ∧ ltr (bl B a l.length) ∧ nmv (bl B a l.length) = nmv l := by
  unfold spl
  rw [decide_eq_true_eq]
  constructor
  · rintro ⟨h1, h2⟩
    have h3 := bl_eq h2
    refine ⟨h1, ?_, ?_⟩
    · rw [← h3]; exact hl.2.2
    · rw [← h3]
  · rintro ⟨h1, h2, h3⟩
    have h4 := nmv_inj _ _ _ rfl h2 hl.2.2 h3
    refine ⟨h1, fun k hk => ?_⟩
    rw [← bl_get B a hk, h4]
