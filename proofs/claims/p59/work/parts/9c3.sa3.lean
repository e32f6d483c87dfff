/-- a table under way: its arrays are there -/
def TA (M0 : ZM) (t : Nat) (M : ZM) : Prop := UB t M0 M ∧ t + 5 ≤ zN M ∧ zW M t 8 ∧ (zI M t 0 = 0 ∧ zI M t 1 = 10 ∧ zI M t 2 = 5 ∧ zI M t 3 = 0 ∧ zI M t 4 = 0 ∧ zI M t 5 = 0) ∧ (zR M t 6 = some (t + 1) ∧ zR M t 7 = some (t + 2) ∧ zR M t 8 = some (t + 3) ∧ zR M t 9 = some (t + 4)) ∧ (zW M (t + 1) 30 ∧ zLn M (t + 1) = 6) ∧ (zW M (t + 2) 31 ∧ zLn M (t + 2) = 24) ∧ (zW M (t + 3) 20 ∧ zLn M (t + 3) = 36) ∧ (zW M (t + 4) 20 ∧ zLn M (t + 4) = 36) ∧ ∀ k : Nat, zI M (t + 3) k = 0 ∧ zI M (t + 4) k = 0
/-- a change above the arrays, but for the references in them -/
theorem TA.up {M0 M M' : ZM} {t : Nat} (h : TA M0 t M) (u : UB (t + 5) M M') : TA M0 t M' := by
  obtain ⟨a1, a2, a3, a4, a5, a6, a7, a8, a9, a10⟩ := h
  have e : ∀ j, j < t + 5 → zLn M' j = zLn M j ∧ zI M' j = zI M j ∧ zR M' j = zR M j := fun j hj => (u.2 j hj).2
  refine ⟨a1.tr (u.lo (by omega)), Nat.le_trans a2 u.1, a3.ub u (by omega), by rw [(e t (by omega)).2.1]; exact a4, by rw [(e t (by omega)).2.2]; exact a5, ⟨a6.1.ub u (by omega), (e _ (by omega)).1.trans a6.2⟩, ⟨a7.1.ub u (by omega), (e _ (by omega)).1.trans a7.2⟩, ⟨a8.1.ub u (by omega), (e _ (by omega)).1.trans a8.2⟩, ⟨a9.1.ub u (by omega), (e _ (by omega)).1.trans a9.2⟩, fun k => ?_⟩
  rw [(e (t + 3) (by omega)).2.1, (e (t + 4) (by omega)).2.1]
  exact a10 k
theorem TA.ra {M0 M : ZM} {t j k : Nat} {v : Option Nat} (h : TA M0 t M) (hj : j = t + 1 ∨ j = t + 2) : TA M0 t (zsR M j k v) := by
  obtain ⟨a1, a2, a3, a4, a5, a6, a7, a8, a9, a10⟩ := h
  have e : zR (zsR M j k v) t = zR M t := funext (fun y => up2_n _ _ _ _ y (by omega))
  exact ⟨a1.tr (UB.r (by omega)), a2, a3, a4, by rw [e]; exact a5, a6, a7, a8, a9, a10⟩
def WkD (t : Nat) (M : ZM) (i : Int) : Prop := ∀ q : Int, 0 ≤ q → q < i → zR M (t + 1) q.toNat = some (t + 5 + q.toNat) ∧ zW M (t + 5 + q.toNat) 10
def RwD (t : Nat) (M : ZM) (i : Int) : Prop := ∀ q : Int, 0 ≤ q → q < i → zR M (t + 2) q.toNat = some (t + 11 + 2 * q.toNat) ∧ LRow M (t + 11 + 2 * q.toNat)
theorem LRow.ub {M M' : ZM} {j b : Nat} (h : LRow M j) (u : UB b M M') (hj : j + 2 ≤ b) : LRow M' j := by
  obtain ⟨a, b1, b2, b3⟩ := h
  have e : ∀ x, x < b → zLn M' x = zLn M x ∧ zI M' x = zI M x ∧ zR M' x = zR M x := fun x hx => (u.2 x hx).2
  have er := (e j (by omega)).2.2
  exact ⟨a.ub u (by omega), by rw [er]; exact b1, b2.ub u (by omega), (e _ (by omega)).1.trans b3⟩
theorem TA.lt {M0 M : ZM} {t : Nat} (h : TA M0 t M) (hw : WkD t M 6) (hr : RwD t M 24) : LTab M t := ⟨h.2.2.1, ⟨h.2.2.2.2.1.1, h.2.2.2.2.2.1⟩, ⟨h.2.2.2.2.1.2.1, h.2.2.2.2.2.2.1⟩, ⟨h.2.2.2.2.1.2.2.1, h.2.2.2.2.2.2.2.1⟩, ⟨h.2.2.2.2.1.2.2.2, h.2.2.2.2.2.2.2.2.1⟩, hw, hr⟩
theorem TA.tr {M0 M : ZM} {t : Nat} (h : TA M0 t M) : TR M t gNew := TR_new h.2.2.2.1 (fun k _ => h.2.2.2.2.2.2.2.2.2 k)
