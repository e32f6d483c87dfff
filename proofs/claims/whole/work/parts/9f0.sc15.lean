/-! the start: its memory -/
def cK (j : Nat) : Nat := if j = 0 then 99 else if j < 12 then 40 else if j = 12 then 33 else if j < 24 then 0 else if j < 35 then 21 else if j < 46 then 0 else if j < 57 then 21 else if j = 57 then 0 else if j < 61 then 21 else if j = 62 then 20 else 99
def cLn0 (j : Nat) : Nat := if j = 12 then 11 else if 24 ≤ j ∧ j < 35 then (kwT (j - 24)).length else if 46 ≤ j ∧ j < 57 then (kwT (j - 46)).length else if j = 59 then 100 else if j = 60 then 100 else 0
def cLn (L j : Nat) : Nat := if j = 62 then L else cLn0 j
def cI0 (j k : Nat) : Int := if 24 ≤ j ∧ j < 35 then (kwT (j - 24)).getD k 0 else if 46 ≤ j ∧ j < 57 then (kwT (j - 46)).getD k 0 else if j = 59 ∧ k < 100 then 48 + (k : Int) % 10 else if j = 60 ∧ k < 100 then 48 + (k : Int) / 10 else 0
def cI (xs : Nat → Int32) (j k : Nat) : Int := if j = 62 then (xs k).toInt else cI0 j k
def cR (j k : Nat) : Option Nat := if 1 ≤ j ∧ j < 12 then (if k = 0 then some (j + 12) else none) else if j = 12 then (if k < 11 then some (k + 1) else none) else if 13 ≤ j ∧ j < 24 then (if k = 0 then some (j + 11) else none) else if 35 ≤ j ∧ j < 46 then (if k = 0 then some (j + 11) else none) else if j = 57 then (if k = 0 then some 58 else none) else none
def zM0 (L : Nat) (xs : Nat → Int32) : ZM := (64, cK, cLn L, cI xs, cR)
theorem cf_all : ∀ i, i < 11 → (cK (35 + i) = 0 ∧ cK (13 + i) = 0 ∧ cK (46 + i) = 21 ∧ cK (24 + i) = 21 ∧ cK (1 + i) = 40) ∧ (cR (1 + i) 0 = some (13 + i) ∧ cR 12 i = some (1 + i) ∧ cR (35 + i) 0 = some (46 + i) ∧ cR (13 + i) 0 = some (24 + i)) ∧ (cLn0 (24 + i) = (kwT i).length ∧ cLn0 (46 + i) = (kwT i).length) := by decide +kernel
theorem cR_lt : ∀ {j k x : Nat}, cR j k = some x → x < 64 := by
  intro j k x h
  unfold cR at h
  (repeat' split at h) <;> first | (cases h; omega) | exact nomatch h
theorem kwT_v : ∀ i, i < 11 → ∀ c ∈ kwT i, 0 ≤ c ∧ c ≤ 122 := by decide +kernel
theorem getD_all {P : Int → Prop} (h0 : P 0) : ∀ (l : List Int), (∀ c ∈ l, P c) → ∀ k, P (l.getD k 0)
  | [], _, k => by cases k <;> exact h0
  | c :: l, h, 0 => h c List.mem_cons_self
  | c :: l, h, k + 1 => getD_all h0 l (fun x hx => h x (List.mem_cons_of_mem _ hx)) k
theorem cI0_rg (j k : Nat) : 0 ≤ cI0 j k ∧ cI0 j k ≤ 122 := by
  unfold cI0
  split
  · exact getD_all (P := fun x => 0 ≤ x ∧ x ≤ 122) (by decide) _ (kwT_v _ (by omega)) k
  · split
    · exact getD_all (P := fun x => 0 ≤ x ∧ x ≤ 122) (by decide) _ (kwT_v _ (by omega)) k
    · (repeat' split) <;> omega
theorem cLn0_le (j : Nat) : cLn0 j ≤ 100 := by
  unfold cLn0
  split
  · omega
  · split
    · have := (kwT_l ⟨j - 24, by omega⟩).1
      have : (kwT (j - 24)).length ≤ 9 := this
      omega
    · split
      · have := (kwT_l ⟨j - 46, by omega⟩).1
        have : (kwT (j - 46)).length ≤ 9 := this
        omega
      · (repeat' split) <;> omega
theorem zM0_cl {L : Nat} {xs : Nat → Int32} (hL : L ≤ 3072) : zcl (zM0 L xs) := by
  refine ⟨fun j k x _ h => cR_lt h, fun j => ⟨?_, fun k => ⟨fun h => ?_, fun _ _ => ?_⟩⟩⟩
  · show cLn L j < _
    unfold cLn
    have := cLn0_le j
    split <;> omega
  · exfalso
    have h : cK j = 23 := h
    unfold cK at h
    (repeat' split at h) <;> omega
  · show zrg (cI xs j k)
    unfold cI
    split
    · have h1 := (xs k).le_toInt
      have h2 := (xs k).toInt_lt
      refine ⟨?_, ?_⟩ <;> omega
    · have := cI0_rg j k
      refine ⟨?_, ?_⟩ <;> omega
theorem cTx {L : Nat} {xs : Nat → Int32} {s v i : Nat} (hi : i < 11) (h1 : cK s = 0) (h2 : cK v = 21) (h3 : cR s 0 = some v) (h4 : cLn0 v = (kwT i).length) (h5 : ∀ k, cI0 v k = (kwT i).getD k 0) (hs : s < 61) (hv : v < 61) (h6 : cI0 s 1 = 0) : zTx (zM0 L xs) s (kwT i) := by
  refine ⟨⟨h1, by show s < 64; omega⟩, ?_, v, h3, ⟨h2, by show v < 64; omega⟩, ?_, ⟨Or.inl ⟨by omega, by omega⟩, ?_⟩, fun k _ => ?_⟩
  · show cI xs s 1 = 0
    unfold cI
    rw [if_neg (by omega), h6]
  · show cLn L v = _
    unfold cLn
    rw [if_neg (by omega), h4]
  · show cR 668 0 ≠ some v
    rw [show cR 668 0 = none from by decide]
    exact fun z => nomatch z
  · show cI xs v k = _
    unfold cI
    rw [if_neg (by omega), h5]
theorem cI24 {i k : Nat} (hi : i < 11) : cI0 (24 + i) k = (kwT i).getD k 0 := by
  unfold cI0
  rw [if_pos (by omega), show 24 + i - 24 = i by omega]
theorem cI46 {i k : Nat} (hi : i < 11) : cI0 (46 + i) k = (kwT i).getD k 0 := by
  unfold cI0
  rw [if_neg (by omega), if_pos (by omega), show 46 + i - 46 = i by omega]
theorem zM0_KC {L : Nat} {xs : Nat → Int32} : KC (zM0 L xs) := by
  refine ⟨fun i hi => ?_, ⟨rfl, (show 12 < 64 by decide)⟩, rfl⟩
  obtain ⟨⟨a1, a2, a3, a4, a5⟩, ⟨b1, b2, b3, b4⟩, c1, c2⟩ := cf_all i hi
  refine ⟨cTx hi a1 a3 b3 c2 (fun k => cI46 hi) (by omega) (by omega) ?_, cTx hi a2 a4 b4 c1 (fun k => cI24 hi) (by omega) (by omega) ?_, ⟨⟨a5, by show 1 + i < 64; omega⟩, b1⟩, b2⟩
  · unfold cI0
    rw [if_neg (by omega), if_neg (by omega), if_neg (by omega), if_neg (by omega)]
  · unfold cI0
    rw [if_neg (by omega), if_neg (by omega), if_neg (by omega), if_neg (by omega)]
theorem zM0_KD {L : Nat} {xs : Nat → Int32} : KD (zM0 L xs) := by
  refine ⟨⟨⟨rfl, (show 59 < 64 by decide)⟩, rfl⟩, ⟨⟨rfl, (show 60 < 64 by decide)⟩, rfl⟩, fun k k0 k1 => ⟨?_, ?_⟩⟩
  · show cI xs 59 k.toNat = _
    unfold cI cI0
    rw [if_neg (by decide), if_neg (by decide), if_neg (by decide), if_pos ⟨rfl, by omega⟩]
    omega
  · show cI xs 60 k.toNat = _
    unfold cI cI0
    rw [if_neg (by decide), if_neg (by decide), if_neg (by decide), if_neg (by omega), if_pos ⟨rfl, by omega⟩]
    omega
theorem zM0_S {L : Nat} {xs : Nat → Int32} : (zO (zM0 L xs) 62 20 ∧ zLn (zM0 L xs) 62 = L) ∧ ∀ j, zI (zM0 L xs) 62 j = (xs j).toInt := ⟨⟨⟨rfl, (show 62 < 64 by decide)⟩, rfl⟩, fun _ => rfl⟩
