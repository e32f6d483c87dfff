theorem zsI_2 (M : ZM) (j k : Nat) (v w : Int) : zsI (zsI M j k v) j k w = zsI M j k w := by
  refine zM_ext rfl rfl rfl (funext (fun x => funext (fun y => ?_))) rfl
  show (if x = j ∧ y = k then w else if x = j ∧ y = k then v else zI M x y) = if x = j ∧ y = k then w else zI M x y
  split <;> rfl
theorem zsI_c (M : ZM) (j : Nat) {k k' : Nat} (v w : Int) (h : k ≠ k') : zsI (zsI M j k v) j k' w = zsI (zsI M j k' w) j k v := by
  refine zM_ext rfl rfl rfl (funext (fun x => funext (fun y => ?_))) rfl
  show (if x = j ∧ y = k' then w else if x = j ∧ y = k then v else zI M x y) = if x = j ∧ y = k then v else if x = j ∧ y = k' then w else zI M x y
  by_cases q : x = j ∧ y = k
  · rw [if_pos q, if_pos q, if_neg (fun z => h (q.2.symm.trans z.2))]
  · rw [if_neg q, if_neg q]
def min9 (x : Int) : Int := if x ≤ 9999 then x else 9999
def rtk (k : Int) : Int := if k = 3 then 0 else k + 1
/-- the text that is parsed -/
def RTx (M : ZM) (B : Gm) (n : Int) : Prop := zI M 670 7 = n ∧ (0 ≤ n ∧ n ≤ 500) ∧ ∀ k : Nat, (k : Int) < n → zI M 674 k = sgn (B k) ∧ 0 ≤ B k ∧ B k < 256
theorem RTx.i {M : ZM} {B : Gm} {n : Int} {f : Nat} {v : Int} (hf : 7 ≠ f) (h : RTx M B n) : RTx (zsI M 670 f v) B n := by
  obtain ⟨h1, h2, h3⟩ := h
  refine ⟨(zI_Im _ _ _ hf).trans h1, h2, fun k hk => ?_⟩
  rw [zI_In _ _ _ (by decide)]
  exact h3 k hk
/-- the present token -/
def RTk (M : ZM) (B : Gm) (n s : Int) : Prop := zI M 670 9 = s ∧ zI M 670 8 = tkE B n s ∧ zI M 670 10 = rtk (tkK B n s) ∧ (tkK B n s = 1 → zI M 670 11 = min9 (tkV B s (tkE B n s))) ∧ (tkK B n s = 2 → zI M 670 11 = B s.toNat)
def S48 (j : Nat) : Prop := j = 670
/-- what the parser's small steps leave -/
def RXn (M M' : ZM) : Prop := Fr S48 M M' ∧ ∀ f : Nat, f < 8 ∨ 13 < f → zI M' 670 f = zI M 670 f
theorem RXn.rf {M : ZM} : RXn M M := ⟨Fr.rf, fun _ _ => rfl⟩
theorem RXn.tr {M M' M2 : ZM} (h : RXn M M') (h2 : RXn M' M2) : RXn M M2 := ⟨h.1.tr h2.1, fun f hf => (h2.2 f hf).trans (h.2 f hf)⟩
theorem RXn.i {M : ZM} {f : Nat} {v : Int} (hY : LY M) (hf : 8 ≤ f ∧ f ≤ 13) : RXn M (zsI M 670 f v) := ⟨Fr_I hY.w (by decide) (by decide) rfl, fun g hg => zI_Im _ _ _ (by omega)⟩
theorem RTx.fr {M M' : ZM} {B : Gm} {n : Int} (h : RTx M B n) (hY : LY M) (f : RXn M M') : RTx M' B n := by
  obtain ⟨h1, h2, h3⟩ := h
  refine ⟨(f.2 7 (by omega)).trans h1, h2, ?_⟩
  rw [f.1.i hY.a5 (by unfold S48; omega)]
  exact h3
/-- the parser's state -/
def RP (M : ZM) (B : Gm) (n : Int) (e : E3) : Prop := RTx M B n ∧ (zI M 670 12 = e.1 ∧ zI M 670 13 = e.2.1) ∧ RTk M B n e.2.2 ∧ eOK n e
