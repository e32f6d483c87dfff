/-! the start: its memory -/
def vB (i : Nat) : Nat := if i < 10 then 47 + i else if i = 10 then 58 else 63
def cB (j : Nat) : List Int := if 24 ≤ j ∧ j < 35 then kwT (j - 24) else if 47 ≤ j ∧ j < 57 then lwT (j - 47) else if j = 58 then lwT 10 else if j = 63 then lwT 11 else []
def cK (j : Nat) : Nat := if j = 0 then 99 else if j < 12 then 40 else if j = 12 then 33 else if j < 24 then 0 else if j < 35 then 21 else if j < 47 then 0 else if j < 57 then 21 else if j = 57 then 0 else if j < 61 then 21 else if j = 62 then 20 else if j = 63 then 21 else 99
def cLn0 (j : Nat) : Nat := if j = 12 then 11 else if j = 59 ∨ j = 60 then 100 else (cB j).length
def cLn (L j : Nat) : Nat := if j = 62 then L else cLn0 j
def cI0 (j k : Nat) : Int := if j = 59 ∧ k < 100 then 48 + (k : Int) % 10 else if j = 60 ∧ k < 100 then 48 + (k : Int) / 10 else (cB j).getD k 0
def cI (xs : Nat → Int32) (j k : Nat) : Int := if j = 62 then (xs k).toInt else cI0 j k
def cR (j k : Nat) : Option Nat := if 1 ≤ j ∧ j < 12 then (if k = 0 then some (j + 12) else none) else if j = 12 then (if k < 11 then some (k + 1) else none) else if 13 ≤ j ∧ j < 24 then (if k = 0 then some (j + 11) else none) else if 35 ≤ j ∧ j < 47 then (if k = 0 then some (vB (j - 35)) else none) else if j = 57 then (if k = 0 then some 0 else none) else none
def zM0 (L : Nat) (xs : Nat → Int32) : ZM := (64, cK, cLn L, cI xs, cR)
/-- text number i: its cell, its bytes' cell -/
def sC (i : Nat) : Nat := if i < 11 then 13 + i else if i < 23 then 24 + i else 57
def vC (i : Nat) : Nat := if i < 11 then 24 + i else if i < 21 then 36 + i else if i = 21 then 58 else if i = 22 then 63 else 0
theorem cf_k : ∀ i, i < 11 → cK (1 + i) = 40 ∧ cR (1 + i) 0 = some (13 + i) ∧ cR 12 i = some (1 + i) := by decide +kernel
theorem cf_s : ∀ i, i < 23 → (cK (sC i) = 0 ∧ cK (vC i) = 21) ∧ cR (sC i) 0 = some (vC i) ∧ (cB (vC i) = cL i ∧ cB (sC i) = []) ∧ (sC i < 61 ∧ (vC i < 61 ∨ vC i = 63)) ∧ (vC i ≠ 12 ∧ vC i ≠ 59 ∧ vC i ≠ 60 ∧ vC i ≠ 62) := by decide +kernel
theorem vB_lt (i : Nat) : vB i < 64 := by
  unfold vB
  (repeat' split) <;> omega
theorem cR_lt : ∀ {j k x : Nat}, cR j k = some x → x < 64 := by
  intro j k x h
  unfold cR at h
  (repeat' split at h) <;> first | (cases h; omega) | (cases h; exact vB_lt _) | exact nomatch h
theorem cB_v : ∀ j, j < 64 → ∀ c ∈ cB j, 0 ≤ c ∧ c ≤ 122 := by decide +kernel
theorem cB_n {j : Nat} (h : 64 ≤ j) : cB j = [] := by
  unfold cB
  rw [if_neg (by omega), if_neg (by omega), if_neg (by omega), if_neg (by omega)]
theorem cB_l : ∀ j, j < 64 → (cB j).length ≤ 16 := by decide +kernel
theorem getD_all {P : Int → Prop} (h0 : P 0) : ∀ (l : List Int), (∀ c ∈ l, P c) → ∀ k, P (l.getD k 0)
  | [], _, k => by cases k <;> exact h0
  | c :: l, h, 0 => h c List.mem_cons_self
  | c :: l, h, k + 1 => getD_all h0 l (fun x hx => h x (List.mem_cons_of_mem _ hx)) k
theorem cI0_rg (j k : Nat) : 0 ≤ cI0 j k ∧ cI0 j k ≤ 122 := by
  unfold cI0
  split
  · omega
  · split
    · omega
    · refine getD_all (P := fun x => 0 ≤ x ∧ x ≤ 122) (by decide) _ ?_ k
      by_cases h : j < 64
      · exact cB_v j h
      · rw [cB_n (by omega)]
        exact fun c hc => nomatch hc
theorem cLn0_le (j : Nat) : cLn0 j ≤ 100 := by
  unfold cLn0
  split
  · omega
  · split
    · omega
    · by_cases h : j < 64
      · have := cB_l j h
        omega
      · rw [cB_n (by omega)]
        exact Nat.zero_le _
theorem zM0_cl {L : Nat} {xs : Nat → Int32} (hL : L ≤ 260) : zcl (zM0 L xs) := by
  refine ⟨fun j k x _ h => cR_lt h, fun j => ⟨?_, fun k => ⟨fun h => ?_, fun _ _ => ?_⟩⟩⟩
  · show cLn L j < _
    unfold cLn
    have := cLn0_le j
    split <;> omega
  · exfalso
    have h : cK j = 23 := h
    unfold cK at h
    (repeat' split at h) <;> omega
  · show zrg (cI xs j k)
    unfold cI
    split
    · have h1 := (xs k).le_toInt
      have h2 := (xs k).toInt_lt
      refine ⟨?_, ?_⟩ <;> omega
    · have := cI0_rg j k
      refine ⟨?_, ?_⟩ <;> omega
theorem cI_b {j k : Nat} (h : j ≠ 59 ∧ j ≠ 60) : cI0 j k = (cB j).getD k 0 := by
  unfold cI0
  rw [if_neg (fun z => h.1 z.1), if_neg (fun z => h.2 z.1)]
theorem cLn_b {j : Nat} (h : j ≠ 12 ∧ j ≠ 59 ∧ j ≠ 60) : cLn0 j = (cB j).length := by
  unfold cLn0
  rw [if_neg h.1, if_neg (fun z => by omega)]
theorem cTx {L : Nat} {xs : Nat → Int32} {i : Nat} (hi : i < 23) : zTx (zM0 L xs) (sC i) (cL i) := by
  obtain ⟨⟨h1, h2⟩, h3, ⟨h4, h5⟩, ⟨h6, h7⟩, h8⟩ := cf_s i hi
  have hs : ∀ k, cI0 (sC i) k = 0 := fun k => by
    by_cases z : sC i = 59 ∨ sC i = 60
    · exfalso
      rcases z with z | z <;> rw [z] at h1 <;> exact absurd h1 (by decide)
    · rw [cI_b (by omega), h5]
      cases k <;> rfl
  refine ⟨⟨h1, by show sC i < 64; omega⟩, ?_, vC i, h3, ⟨h2, by show vC i < 64; omega⟩, ?_, ⟨Or.inl ⟨by omega, by omega⟩, ?_⟩, fun k _ => ?_⟩
  · show cI xs (sC i) 1 = 0
    unfold cI
    rw [if_neg (by omega)]
    exact hs 1
  · show cLn L (vC i) = _
    unfold cLn
    rw [if_neg h8.2.2.2, cLn_b ⟨h8.1, h8.2.1, h8.2.2.1⟩, h4]
  · show cR 668 0 ≠ some (vC i)
    rw [show cR 668 0 = none from by decide]
    exact fun z => nomatch z
  · show cI xs (vC i) k = _
    unfold cI
    rw [if_neg h8.2.2.2, cI_b ⟨h8.2.1, h8.2.2.1⟩, h4]
theorem sC_k : ∀ i, i < 11 → sC i = 13 + i ∧ cL i = kwT i := by decide +kernel
theorem sC_l : ∀ i, i < 12 → sC (11 + i) = 35 + i ∧ cL (11 + i) = lwT i := by decide +kernel
theorem zM0_KC {L : Nat} {xs : Nat → Int32} : KC (zM0 L xs) := by
  refine ⟨fun i hi => ?_, ⟨rfl, (show 12 < 64 by decide)⟩, rfl⟩
  obtain ⟨a5, b1, b2⟩ := cf_k i hi
  have h9 := cTx (L := L) (xs := xs) (show i < 23 by omega)
  rw [(sC_k i hi).1, (sC_k i hi).2] at h9
  exact ⟨h9, h9, ⟨⟨a5, by show 1 + i < 64; omega⟩, b1⟩, b2⟩
theorem zM0_KL {L : Nat} {xs : Nat → Int32} : KL (zM0 L xs) := fun i hi => by
  have h9 := cTx (L := L) (xs := xs) (show 11 + i < 23 by omega)
  rw [(sC_l i hi).1, (sC_l i hi).2] at h9
  exact h9
theorem zM0_KD {L : Nat} {xs : Nat → Int32} : KD (zM0 L xs) := by
  refine ⟨⟨⟨rfl, (show 59 < 64 by decide)⟩, rfl⟩, ⟨⟨rfl, (show 60 < 64 by decide)⟩, rfl⟩, fun k k0 k1 => ⟨?_, ?_⟩⟩
  · show cI xs 59 k.toNat = _
    unfold cI cI0
    rw [if_neg (by decide), if_pos ⟨rfl, by omega⟩]
    omega
  · show cI xs 60 k.toNat = _
    unfold cI cI0
    rw [if_neg (by decide), if_neg (by omega), if_pos ⟨rfl, by omega⟩]
    omega
theorem zM0_S {L : Nat} {xs : Nat → Int32} : LC9 (L, fun j => (xs j).toInt) (zM0 L xs) := ⟨⟨⟨rfl, (show 62 < 64 by decide)⟩, rfl⟩, fun _ => rfl⟩
