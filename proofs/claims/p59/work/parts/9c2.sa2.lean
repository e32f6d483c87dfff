def HI (k : Int) (P : Int → Gm) (c : Int) : Prop := ∀ q : Int, 0 ≤ q → q < c → IV k (P q)
theorem HI.up {k k' c : Int} {P : Int → Gm} (h : HI k P c) (hk : k ≤ k') (hk' : k' ≤ 1000) : HI k' P c := fun q a b => (h q a b).up hk hk'
theorem HI.z {k : Int} {P : Int → Gm} : HI k P 0 := fun q a b => by omega
theorem HI.pop {k c : Int} {P : Int → Gm} (h : HI k P c) : HI k P (c - 1) := fun q a b => h q a (by omega)
theorem HI.top {k c : Int} {P : Int → Gm} (h : HI k P c) (hc : 1 ≤ c) : IV k (P (c - 1)) := h (c - 1) (by omega) (by omega)
theorem HI.push {k c : Int} {P : Int → Gm} {G : Gm} (h : HI k P c) (hG : IV k G) (hc : 0 ≤ c ∧ c ≤ 6) : HI k (pushP P G c) (pushC c) := by
  intro q a b
  unfold pushP pushC at *
  by_cases e : c = 6
  · rw [if_pos e] at b ⊢
    by_cases e5 : q = 5
    · show IV k (if q = 5 then G else P (q + 1))
      rw [if_pos e5]
      exact hG
    · show IV k (if q = 5 then G else P (q + 1))
      rw [if_neg e5]
      exact h _ (by omega) (by omega)
  · rw [if_neg e] at b ⊢
    by_cases e5 : q = c
    · show IV k (if q = c then G else P q)
      rw [if_pos e5]
      exact hG
    · show IV k (if q = c then G else P q)
      rw [if_neg e5]
      exact h _ a (by omega)
/-- the empty table of a new object -/
def gNew : Gm := gU (gU (gU gZ 0 0) 1 10) 2 5
theorem gNew_iv : IV 0 gNew := (DI.tab (by decide) (by decide) (by decide)).1
theorem TR_new {M : ZM} {t : Nat} (h0 : zI M t 0 = 0 ∧ zI M t 1 = 10 ∧ zI M t 2 = 5 ∧ zI M t 3 = 0 ∧ zI M t 4 = 0 ∧ zI M t 5 = 0) (hg : ∀ k : Nat, k < 36 → zI M (t + 3) k = 0 ∧ zI M (t + 4) k = 0) : TR M t gNew := by
  have e : ∀ {j : Nat}, 3 ≤ j → gNew j = 0 := fun {j} hj => by
    unfold gNew
    rw [gU_n _ (show j ≠ (2 : Int).toNat by show j ≠ 2; omega), gU_n _ (show j ≠ (1 : Int).toNat by show j ≠ 1; omega), gU_n _ (show j ≠ (0 : Int).toNat by show j ≠ 0; omega)]
    rfl
  obtain ⟨a0, a1, a2, a3, a4, a5⟩ := h0
  refine ⟨⟨⟨a0, a1, a2, a3.trans (e (by decide)).symm, a4.trans (e (by decide)).symm, a5.trans (e (by decide)).symm⟩, fun w w0 w1 => ?_, fun r r0 r1 => ?_, fun a b a0 a1 b0 b1 => ?_⟩, fun w w0 w1 => ?_⟩
  · rw [e (by decide)] at w1; omega
  · rw [e (by decide)] at r1; omega
  · have h3 := hg (fPix a b).toNat (by unfold fPix; split <;> omega)
    rw [h3.1, h3.2, e (by omega), e (by omega)]
    first
    | exact ⟨rfl, rfl⟩
    | simp
  · rw [e (by decide)] at w1; omega
