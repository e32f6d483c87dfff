/-! the law's load: its text grows in a builder -/
def gA (c n : Nat) : Nat := ncap c n - c
theorem gA_r {c n : Nat} (hc : c ≤ 700) (hn : n ≤ 340) : ncap c n = c + gA c n ∧ c + gA c n ≤ 700 := by
  unfold gA ncap
  split
  · omega
  · split <;> omega
theorem asc_app {o l : List Int} (h : asc o) (h2 : asc l) : asc (o ++ l) := fun k hk => by
  rw [List.length_append] at hk
  rw [List.getD_eq_getElem?_getD]
  by_cases z : k < o.length
  · rw [List.getElem?_append_left z, ← List.getD_eq_getElem?_getD]
    exact h k z
  · rw [List.getElem?_append_right (by omega), ← List.getD_eq_getElem?_getD]
    exact h2 _ (by omega)
theorem asc_one {x : Int} (h : 0 ≤ x ∧ x < 128) : asc [x] := fun k hk => by
  have : k = 0 := by simp only [List.length_singleton] at hk; omega
  subst this
  exact h
theorem dig_l {v : Int} (h : 0 ≤ v ∧ v < 100) : 1 ≤ (dig v).length ∧ (dig v).length ≤ 2 := by
  rw [dig_e h]
  split
  · exact ⟨Nat.le_refl _, Nat.le_succ _⟩
  · exact ⟨by show 1 ≤ 2; decide, Nat.le_refl _⟩
theorem asc_dig {v : Int} (h : 0 ≤ v ∧ v < 100) : asc (dig v) := by
  rw [dig_e h]
  split
  · exact asc_one (by omega)
  · exact asc_app (asc_one (by omega)) (asc_one (by omega))
/-- the law's texts -/
def lwT : Nat → List Int
  | 0 => [116, 97, 98, 108, 101, 32, 116, 111, 108, 101, 114, 97, 110, 99, 101, 32]
  | 1 => [32, 112, 97, 116, 105, 101, 110, 99, 101, 32]
  | 2 => [32, 108, 101, 97, 115, 116, 32]
  | 3 => [59]
  | 4 => [119, 111, 114, 107, 101, 114, 32, 119]
  | 5 => [32, 116, 101, 97, 109, 32]
  | 6 => [32, 113, 117, 111, 116, 97, 32]
  | 7 => [32, 116, 114, 117, 115, 116, 32]
  | 8 => [114, 111, 119, 115, 32]
  | 9 => [32, 115, 105, 122, 101, 32]
  | 10 => [98, 97, 114, 32, 119]
  | 11 => [32, 119]
  | _ => []
theorem lwT_a : ∀ i : Fin 12, (lwT i.val).length ≤ 16 ∧ ∀ k : Fin 16, k.val < (lwT i.val).length → 0 ≤ (lwT i.val).getD k.val 0 ∧ (lwT i.val).getD k.val 0 < 128 := by decide
theorem lwT_r {i : Nat} (h : i < 12) : (lwT i).length ≤ 16 ∧ asc (lwT i) := by
  have h1 := lwT_a ⟨i, h⟩
  exact ⟨h1.1, fun k hk => h1.2 ⟨k, by have := h1.1; simp only at this; omega⟩ hk⟩
def KL (M : ZM) : Prop := ∀ i : Nat, i < 12 → zTx M (35 + i) (lwT i)
theorem tb_eq {a b c : Int} : lwT 0 ++ dig a ++ lwT 1 ++ dig b ++ lwT 2 ++ dig c ++ lwT 3 = sTB a b c [] := by
  simp only [List.append_assoc]
  rfl
theorem wk_eq {o : List Int} {i t q r : Int} : o ++ lwT 4 ++ [97 + i] ++ lwT 5 ++ dig t ++ lwT 6 ++ dig q ++ lwT 7 ++ dig r ++ lwT 3 = o ++ sWK i t q r [] := by
  simp only [List.append_assoc]
  rfl
theorem rw_eq {o : List Int} {m z : Int} : o ++ lwT 8 ++ dig m ++ lwT 9 ++ dig z ++ lwT 3 = o ++ sRW m z [] := by
  simp only [List.append_assoc]
  rfl
theorem br_eq {o : List Int} {i j : Int} : o ++ lwT 10 ++ [97 + i] ++ lwT 11 ++ [97 + j] ++ lwT 3 = o ++ sBR i j [] := by
  simp only [List.append_assoc]
  rfl
theorem txW_s {tm qo tr : Int → Int} {i : Int} (h : 0 ≤ i) : txW tm qo tr (i + 1).toNat = txW tm qo tr i.toNat ++ sWK i (tm i) (qo i) (tr i) [] := by
  have e : ((i.toNat : Nat) : Int) = i := by omega
  rw [show (i + 1).toNat = i.toNat + 1 by omega]
  show txW tm qo tr i.toNat ++ sWK ((i.toNat : Nat) : Int) (tm ((i.toNat : Nat) : Int)) (qo ((i.toNat : Nat) : Int)) (tr ((i.toNat : Nat) : Int)) [] = _
  rw [e]
theorem txR_s {m z : Int → Int} {i : Int} (h : 0 ≤ i) : txR m z (i + 1).toNat = txR m z i.toNat ++ sRW (m i) (z i) [] := by
  have e : ((i.toNat : Nat) : Int) = i := by omega
  rw [show (i + 1).toNat = i.toNat + 1 by omega]
  show txR m z i.toNat ++ sRW (m ((i.toNat : Nat) : Int)) (z ((i.toNat : Nat) : Int)) [] = _
  rw [e]
theorem smR_s {m : Int → Int} {i : Int} (h : 0 ≤ i) : smR m (i + 1).toNat = smR m i.toNat + m i := by
  have e : ((i.toNat : Nat) : Int) = i := by omega
  rw [show (i + 1).toNat = i.toNat + 1 by omega]
  show smR m i.toNat + m ((i.toNat : Nat) : Int) = _
  rw [e]
/-- the builder b of M0's time shows o -/
def BW (M0 M : ZM) (b c : Nat) (o : List Int) : Prop := SB M b c o ∧ Fr Sno M0 M ∧ zN M0 ≤ b ∧ zN M0 ≤ vu M b ∧ asc o
theorem BW.x {M0 M M' : ZM} {b c c' : Nat} {o o' : List Int} (h : BW M0 M b c o) (h46 : 668 < zN M0) (hS : SB M' b c' o') (f : FX b M M') (ha : asc o') : BW M0 M' b c' o' := by
  obtain ⟨h1, h2, h3, h4, -⟩ := h
  refine ⟨hS, FX.f0 h2 h46 h3 h4 f, h3, ?_, ha⟩
  rcases f.2.1 with z | z
  · rw [z]; exact h4
  · exact Nat.le_trans h2.1 z
theorem A_con {M0 M : ZM} {b c i s m : Nat} {o : List Int} {K : ZRet} {KX : ZEx} (h46 : 668 < zN M0) (hB : BW M0 M b c o) (hL : KL M0) (hi : i < 12) (hs : s = 35 + i) (hm : (lwT i).length = m) (hc : c ≤ 700) (hn : o.length + m ≤ 340) (hK : ∀ (c1 : Nat) (M1 : ZM) (o1 : List Int), BW M0 M1 b c1 o1 → c1 = c + gA c (o.length + m) → o1 = o ++ lwT i → o1.length = o.length + m → c1 ≤ 700 → K (some (zo b)) M1) : T_J4_append_15ec4T (gA c (o.length + m)) (2 * gA c (o.length + m)) [zo b, zo s] M K KX := by
  subst hs
  subst hm
  have hz := hL i hi
  obtain ⟨r1, r2⟩ := lwT_r hi
  obtain ⟨g1, g2⟩ := gA_r hc hn
  have hne : vu M (35 + i) ≠ vu M b := by
    obtain ⟨a1, a2, v, a3, a4, a5⟩ := id hz
    have e := ((hB.2.1.2.1 (35 + i) a1.2).2.2.1 (fun z => z)).2
    have ev : vu M (35 + i) = v := by unfold vu; rw [e, a3]; rfl
    rw [ev]
    have := hB.2.2.2.1
    have := a4.2
    omega
  refine ⟨b, 35 + i, c, c + gA c (o.length + (lwT i).length), o, lwT i, rfl, hB.1, hB.2.1.2.2 _ _ hz, by omega, hne, r2, by omega, Nat.lt_of_lt_of_le h46 hB.2.1.1, g1, ⟨Nat.le_refl _, by omega⟩, fun M1 hS1 hx => hK _ M1 _ (hB.x h46 hS1 hx (asc_app hB.2.2.2.2 r2)) rfl rfl List.length_append g2⟩
theorem A_int {M0 M : ZM} {b c : Nat} {v : Int} {o : List Int} {K : ZRet} {KX : ZEx} (h46 : 668 < zN M0) (hB : BW M0 M b c o) (hD : KD M0) (hv : 0 ≤ v ∧ v < 100) (hc : c ≤ 700) (hn : o.length + 2 ≤ 340) (hK : ∀ (c1 : Nat) (M1 : ZM) (o1 : List Int), BW M0 M1 b c1 o1 → c1 = c + gA c (o.length + (dig v).length) → o1 = o ++ dig v → o.length + 1 ≤ o1.length ∧ o1.length ≤ o.length + 2 → c1 ≤ 700 → K (some (zo b)) M1) : T_J4_append_bf812 (gA c (o.length + (dig v).length)) (2 * gA c (o.length + (dig v).length)) [zo b, zi v] M K KX := by
  have hl := dig_l hv
  obtain ⟨g1, g2⟩ := gA_r hc (show o.length + (dig v).length ≤ 340 by omega)
  refine ⟨b, c, c + gA c (o.length + (dig v).length), o, v, rfl, hB.1, by omega, g1, hD.fr hB.2.1 (fun z => z) (fun z => z), ⟨Nat.le_refl _, by omega⟩, fun M1 hS1 hx => hK _ M1 _ (hB.x h46 hS1 hx (asc_app hB.2.2.2.2 (asc_dig hv))) rfl rfl (by rw [List.length_append]; omega) g2⟩
theorem A_chr {M0 M : ZM} {b c : Nat} {x : Int} {o : List Int} {K : ZRet} {KX : ZEx} (h46 : 668 < zN M0) (hB : BW M0 M b c o) (hv : 0 ≤ x ∧ x < 6) (hc : c ≤ 700) (hn : o.length + 1 ≤ 340) (hK : ∀ (c1 : Nat) (M1 : ZM) (o1 : List Int), BW M0 M1 b c1 o1 → c1 = c + gA c (o.length + 1) → o1 = o ++ [97 + x] → o1.length = o.length + 1 → c1 ≤ 700 → K (some (zo b)) M1) : T_J4_append_cf468 (gA c (o.length + 1)) (2 * gA c (o.length + 1)) [zo b, zi (zi2c (97 + x))] M K KX := by
  have e : zi2c (97 + x) = 97 + x := zi2c_i (by omega)
  obtain ⟨g1, g2⟩ := gA_r hc hn
  rw [e]
  refine ⟨b, c, c + gA c (o.length + 1), o, 97 + x, rfl, hB.1, by omega, g1, ⟨Nat.le_refl _, by omega⟩, fun M1 hS1 hx _ => hK _ M1 _ (hB.x h46 hS1 hx (asc_app hB.2.2.2.2 (asc_one (by omega)))) rfl rfl List.length_append g2⟩
/-- the new builder -/
theorem A_new {M0 : ZM} {K : ZRet} {KX : ZEx} (h46 : 668 < zN M0) (hL : KL M0) (hK : ∀ (c1 : Nat) (M1 : ZM) (o1 : List Int), BW M0 M1 (zN M0) c1 o1 → c1 = 32 → o1 = lwT 0 → o1.length = 16 → c1 ≤ 700 → K none M1) : T_J4_init_a7421 [zo (zN M0), zo 35] (zNw M0 1 0) K KX := by
  have hz := hL 0 (by decide)
  have f0 : Fr Sno M0 (zNw M0 1 0) := Fr.nw0 h46
  have hz1 := f0.2.2 _ _ hz
  have hCC : zCC ≤ zN M0 := by unfold zCC; omega
  obtain ⟨a1, a2, v, a3, a4, a5⟩ := id hz
  have e := ((f0.2.1 35 a1.2).2.2.1 (fun z => z)).2
  have ev : vu (zNw M0 1 0) 35 = v := by unfold vu; rw [e, a3]; rfl
  have hw : zW (zNw M0 1 0) (zN M0) 1 := ⟨up1_s _ _ _, hCC, Nat.lt_succ_self _⟩
  have hi0 : zI (zNw M0 1 0) (zN M0) 3 = 0 := by
    have : zI (zNw M0 1 0) (zN M0) = (fun _ => 0) := up1_s _ _ _
    rw [this]
  refine ⟨zN M0, 35, lwT 0, rfl, hw, hi0, rfl, h46, hz1, ⟨by omega, by rw [ev]; exact a4.2⟩, (lwT_r (by decide)).2, by decide, fun M1 hS hU hv => hK 32 M1 (lwT 0) ?_ rfl rfl rfl (by decide)⟩
  have hf : Fr Sno M0 M1 := F0_mk (Nat.le_trans f0.1 hU.1) h46 (fun j hj => by
    obtain ⟨b1, b2, b3, b4⟩ := hU.2 j hj
    obtain ⟨c1, c2, c3, -⟩ := f0.2.1 j hj
    have c4 := c3 (fun z => z)
    exact ⟨b1.trans c1, b2.trans c2, b3.trans c4.1, b4.trans c4.2⟩)
  exact ⟨hS, hf, Nat.le_refl _, hv, (lwT_r (by decide)).2⟩
