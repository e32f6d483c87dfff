def fStrk (G : Gm) (p q : Int) : Gm := gU (gU G (96 + 6 * q + p) ((G (96 + 6 * q + p).toNat) + 1)) (96 + 6 * p + q) ((G (96 + 6 * q + p).toNat) + 1)
def BYp (G : Gm) (r p q : Int) : Prop := 0 ≤ p ∧ p < q ∧ q < G 4 ∧ (G (132 + 16 * r + 5).toNat) = zor (zshl 1 p) (zshl 1 q)
def fAudS (G : Gm) (r x k : Int) (g : Gm) : Gm := gU g (6 + 9 * (G (132 + 16 * r + (7 + 3 * k + 0)).toNat) + 3) (fClamp ((g (6 + 9 * (G (132 + 16 * r + (7 + 3 * k + 0)).toNat) + 3).toNat) + (if fAgree G (G (132 + 16 * r + (7 + 3 * k + 1)).toNat) x = true then 2 else -4)))
def fAudT (G : Gm) (r x k : Int) : Gm := foldI (fAudS G r x) G k
theorem fAudT_n {G : Gm} {r x : Int} (hR : RI G r) : ∀ k, 0 ≤ k → k ≤ (G (132 + 16 * r + 6).toNat) → ∀ j : Nat, (60 ≤ j ∨ j < 6) → fAudT G r x k j = G j := by
  refine zup (fun k => ∀ j : Nat, (60 ≤ j ∨ j < 6) → fAudT G r x k j = G j) (fun j _ => rfl) (fun k h0 h1 ih j hj => ?_)
  have hw := hR.2.2 k h0 h1
  unfold fAudT
  rw [foldI_s h0]
  show fAudS G r x k (fAudT G r x k) j = G j
  unfold fAudS
  rw [gU_n _ (by omega)]
  exact ih j hj
theorem fAudT_b {G : Gm} {r x : Int} (hR : RI G r) : ∀ k, 0 ≤ k → k ≤ (G (132 + 16 * r + 6).toNat) → ∀ w : Int, 0 ≤ w → w < 6 → (0 ≤ (G (6 + 9 * w + 3).toNat) ∧ (G (6 + 9 * w + 3).toNat) ≤ 20) → (0 ≤ ((fAudT G r x k) (6 + 9 * w + 3).toNat) ∧ ((fAudT G r x k) (6 + 9 * w + 3).toNat) ≤ 20) := by
  refine zup (fun k => ∀ w : Int, 0 ≤ w → w < 6 → (0 ≤ (G (6 + 9 * w + 3).toNat) ∧ (G (6 + 9 * w + 3).toNat) ≤ 20) → (0 ≤ ((fAudT G r x k) (6 + 9 * w + 3).toNat) ∧ ((fAudT G r x k) (6 + 9 * w + 3).toNat) ≤ 20)) (fun w _ _ h => h) (fun k h0 h1 ih w w0 w1 h => ?_)
  have hw := hR.2.2 k h0 h1
  unfold fAudT
  rw [foldI_s h0]
  show 0 ≤ fAudS G r x k (fAudT G r x k) (6 + 9 * w + 3).toNat ∧ fAudS G r x k (fAudT G r x k) (6 + 9 * w + 3).toNat ≤ 20
  unfold fAudS
  by_cases e : w = (G (132 + 16 * r + (7 + 3 * k + 0)).toNat)
  · rw [← e, gU_s]
    unfold fClamp zmax zmin
    repeat' split
    all_goals omega
  · rw [gU_n _ (by omega)]
    exact ih w w0 w1 h
def F_audit (G : Gm) (r x p q : Int) : Gm := if fAgree G (G (132 + 16 * r + 2).toNat) x = true then gU (fAudT G r x (G (132 + 16 * r + 6).toNat)) (132 + 16 * r + 3) x else gU (fStrk (gU (fAudT G r x (G (132 + 16 * r + 6).toNat)) (132 + 16 * r + 3) x) p q) (132 + 16 * r + 2) x
def c_audit (G : Gm) (r x : Int) : Int := if 0 ≤ r ∧ r ≤ G 5 - 1 then (if 0 ≤ x ∧ x ≤ 99 then (if (G (132 + 16 * r + 1).toNat) = 2 ∧ (G (132 + 16 * r + 3).toNat) = -1 then 0 else 3) else 2) else 1
def v_audit (G : Gm) (r x : Int) : Bool := fAgree G (G (132 + 16 * r + 2).toNat) x
