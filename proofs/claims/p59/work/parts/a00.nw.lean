/-! frames of new cells -/
theorem Fr.nw0 {M : ZM} {κ n : Nat} (h46 : 668 < zN M) : Fr Sno M (zNw M κ n) := F0_mk (Nat.le_succ _) h46 (fun j hj => ⟨up1_n _ _ _ (Nat.ne_of_lt hj), up1_n _ _ _ (Nat.ne_of_lt hj), up1_n _ _ _ (Nat.ne_of_lt hj), up1_n _ _ _ (Nat.ne_of_lt hj)⟩)
theorem Fr.ui {M M9 : ZM} {A k : Nat} {v : Int} (f : Fr Sno M M9) (h46 : 668 < zN M) (hA : zN M ≤ A) : Fr Sno M (zsI M9 A k v) := F0_mk f.1 h46 (fun j hj => by
  obtain ⟨a1, a2, a3, -⟩ := f.2.1 j hj
  have a5 := a3 (fun z => z)
  exact ⟨a1, a2, (zI_In M9 k v (by omega)).trans a5.1, a5.2⟩)
theorem tdz {v b : Int} (h : 0 ≤ v) : Int.tdiv v b = v / b := Int.tdiv_eq_ediv_of_nonneg h
theorem tmz {v b : Int} (h : 0 ≤ v) : Int.tmod v b = v % b := Int.tmod_eq_emod_of_nonneg h
