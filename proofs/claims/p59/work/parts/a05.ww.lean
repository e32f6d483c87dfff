/-! the law's changes -/
theorem LSt.g4 {S : Nat × (Nat → Int)} {k : Int} {G : Gm} {M : ZM} (h : LSt S k G M) : 1 ≤ G 4 ∧ G 4 ≤ 6 := ⟨h.2.2.2.2.2.1, h.2.1.2.2.1.1.2⟩
theorem LSt.g5 {S : Nat × (Nat → Int)} {k : Int} {G : Gm} {M : ZM} (h : LSt S k G M) : 0 ≤ G 5 ∧ G 5 ≤ 24 := h.2.1.2.2.1.2.1
/-- where an action goes on -/
def WK (S : Nat × (Nat → Int)) (k : Int) (K : ZRet) : Prop := ∀ (v : Int) (G' : Gm) (M' : ZM), -9 ≤ v → LSt S k G' M' → K (some (zi v)) M'
theorem W_taken {S : Nat × (Nat → Int)} {k : Int} {G : Gm} {M : ZM} {w : Int} {K : ZRet} (hS : LSt S k G M) (hk : k + 1 ≤ 1000) (hw : 0 ≤ w ∧ w < G 4) (hK : WK S (k + 1) K) : T_L_taken [zo 64, zi w] M K := by
  have hS0 := hS
  obtain ⟨hl, ⟨hL, hT, hG, hV, hX⟩, ⟨P, c, hq⟩, hI, hD, h4, hN⟩ := hS
  have h4G := hG.1
  have h5G := hG.2.1
  refine ⟨G, P, c, w, rfl, hL, hT, hG, hV, hX, hq, ?_, fun hc0 M' f t q => ?_, fun _ => hK _ _ _ (by decide) (hS0.up (by omega) hk)⟩
  · unfold c_take
    rw [if_pos (by omega)]
    split
    · exact Or.inr rfl
    · exact Or.inl rfl
  · have hn : fNext G w ≠ -1 := by
      intro e
      unfold c_take at hc0
      rw [if_pos (by omega), if_pos e] at hc0
      exact absurd hc0 (by decide)
    rcases fNext_c (G := G) (w := w) h5G.1 with z | z
    · exact absurd z hn
    · have hm0 := (hG.2.2 (fNext G w) z.1 z.2.1).2.1.1
      have hm := (fNeeds_c hm0 (fRef_c z.2.2).2.2.1).1
      have e4 : fTake G w (fNext G w) 4 = G 4 := fTake_n ⟨hm0, hm⟩ (by omega) (by omega) (by omega) (by omega) (by omega)
      have hv : v_take G w = fNext G w := rfl
      exact hK _ _ _ (by rw [hv]; omega) (hS0.w f t ⟨_, _, q⟩ (hI.tk hk hw hn) (hD.take hI hw ⟨z.1, z.2.1⟩ z.2.2) e4)
theorem W_took {S : Nat × (Nat → Int)} {k : Int} {G : Gm} {M : ZM} {w r : Int} {K : ZRet} (hS : LSt S k G M) (hk : k + 1 ≤ 1000) (hw : 0 ≤ w ∧ w < G 4) (hr : 0 ≤ r ∧ r < G 5) (hK : WK S (k + 1) K) : T_L_took [zo 64, zi w, zi r] M K := by
  have hS0 := hS
  obtain ⟨hl, ⟨hL, hT, hG, hV, hX⟩, ⟨P, c, hq⟩, hI, hD, h4, hN⟩ := hS
  have h4G := hG.1
  have h5G := hG.2.1
  refine ⟨G, P, c, w, r, rfl, hL, hT, hG, hV, hX, hq, ?_, fun hc0 M' f t q => ?_, fun _ => hK _ _ _ (by decide) (hS0.up (by omega) hk)⟩
  · unfold c_takeRow
    rw [if_pos (by omega)]
    split
    · exact Or.inl rfl
    · exact Or.inr rfl
  · have z : fRefusal G w r = 0 := by
      unfold c_takeRow at hc0
      rw [if_pos (by omega)] at hc0
      split at hc0
      · assumption
      · exact absurd hc0 (by decide)
    have hm0 := (hG.2.2 r hr.1 hr.2).2.1.1
    have hm := (fNeeds_c hm0 (fRef_c z).2.2.1).1
    have e4 : fTake G w r 4 = G 4 := fTake_n ⟨hm0, hm⟩ (by omega) (by omega) (by omega) (by omega) (by omega)
    have hv : v_takeRow G w r = G 3 + G 1 := rfl
    have h1 := hV.2.1
    have h3 := hV.2.2.2.1
    exact hK _ _ _ (by rw [hv]; omega) (hS0.w f t ⟨_, _, q⟩ (hI.take hk hw hr z) (hD.take hI hw hr z) e4)
theorem W_deliv {S : Nat × (Nat → Int)} {k : Int} {G : Gm} {M : ZM} {w r x : Int} {K : ZRet} (hS : LSt S k G M) (hk : k + 1 ≤ 1000) (hw : 0 ≤ w ∧ w < G 4) (hr : 0 ≤ r ∧ r < G 5) (hx : 0 ≤ x ∧ x ≤ 99) (hf : fWorksAt G w r = true) (hK : ∀ M', LSt S (k + 1) (fDel G w r x) M' → Fr SCw M M' → K (some (zi (fDel G w r x (132 + 16 * r + 1).toNat))) M') : T_L_delivered [zo 64, zi w, zi r, zi x] M K := by
  have hS0 := hS
  obtain ⟨hl, ⟨hL, hT, hG, hV, hX⟩, ⟨P, c, hq⟩, hI, hD, h4, hN⟩ := hS
  have h4G := hG.1
  have h5G := hG.2.1
  have hc : c_deliver G w r x = 0 := by
    unfold c_deliver
    rw [if_pos (by omega), if_pos hx, if_pos hf]
  obtain ⟨t, ht, ht1, htw, htr⟩ := fWk_t (hG.2.2 r hr.1 hr.2).2.1.1 hf
  have htn : fTakingOf G w r ≠ -1 := by omega
  refine ⟨G, P, c, w, r, x, rfl, hL, hT, hG, hV, hX, hq, Or.inl hc, fun hc0 M' f t q => ?_, fun e => absurd (hc.symm.trans e) (by decide)⟩
  exact hK _ (hS0.w f t ⟨_, _, q⟩ (hI.del hk hw hr hx hf) (hD.del hI hk hw hr hx hf) (fDel_lo (x := x) hG hV hX hw hr hx htn (by decide))) f
theorem W_audit {S : Nat × (Nat → Int)} {k : Int} {G : Gm} {M : ZM} {r x : Int} {K : ZRet} (hS : LSt S k G M) (hk : k + 1 ≤ 1000) (hr : 0 ≤ r ∧ r < G 5) (hx : 0 ≤ x ∧ x ≤ 99) (h0 : ∀ p q M', c_audit G r x = 0 → BYp G r p q → LSt S (k + 1) (F_audit G r x p q) M' → Fr SCw M M' → K (some (zi (b2i (v_audit G r x)))) M') (h1 : c_audit G r x = 3 → K (some (zi (-9))) M) : T_L_audited [zo 64, zi r, zi x] M K := by
  have hS0 := hS
  obtain ⟨hl, ⟨hL, hT, hG, hV, hX⟩, ⟨P, c, hq⟩, hI, hD, h4, hN⟩ := hS
  have h4G := hG.1
  have h5G := hG.2.1
  have hc : c_audit G r x = 0 ∨ c_audit G r x = 3 := by
    unfold c_audit
    rw [if_pos (by omega), if_pos hx]
    split
    · exact Or.inl rfl
    · exact Or.inr rfl
  have hp : ∃ p q : Int, 0 ≤ r → r < G 5 → (G (132 + 16 * r + 1).toNat) = 2 → BYp G r p q := by
    by_cases z : G (132 + 16 * r + 1).toNat = 2
    · obtain ⟨p, q, e⟩ := hI.by hr.1 hr.2 z
      exact ⟨p, q, fun _ _ _ => e⟩
    · exact ⟨0, 0, fun _ _ e => absurd e z⟩
  obtain ⟨p, q, hp⟩ := hp
  refine ⟨G, P, c, p, q, r, x, rfl, hL, hT, hG, hV, hX, hq, hp, hc, fun hc0 M' f t q' => ?_, h1⟩
  have h2 : G (132 + 16 * r + 1).toNat = 2 := by
    unfold c_audit at hc0
    rw [if_pos (by omega), if_pos hx] at hc0
    split at hc0
    · next z => exact z.1
    · exact absurd hc0 (by decide)
  have hby := hp hr.1 hr.2 h2
  have hR := hG.2.2 r hr.1 hr.2
  have hb := hby
  unfold BYp at hb
  have e4 : F_audit G r x p q 4 = G 4 := by
    have e := fAudT_n (x := x) hR (G (132 + 16 * r + 6).toNat) hR.2.1.1 (Int.le_refl _) 4 (by omega)
    unfold F_audit
    split
    · rw [gU_n _ (by omega)]; exact e
    · unfold fStrk
      rw [gU_n _ (by omega), gU_n _ (by omega), gU_n _ (by omega), gU_n _ (by omega)]; exact e
  exact h0 p q M' hc0 hby (hS0.w f t ⟨_, _, q'⟩ (hI.aud hk hc0 hby) (hD.aud hI hk hr hc0 hby) e4) f
theorem b2i_9 {b : Bool} : -9 ≤ b2i b := by cases b <;> decide
theorem W_audited {S : Nat × (Nat → Int)} {k : Int} {G : Gm} {M : ZM} {r x : Int} {K : ZRet} (hS : LSt S k G M) (hk : k + 1 ≤ 1000) (hr : 0 ≤ r ∧ r < G 5) (hx : 0 ≤ x ∧ x ≤ 99) (hK : WK S (k + 1) K) : T_L_audited [zo 64, zi r, zi x] M K := W_audit hS hk hr hx (fun p q M' _ _ h _ => hK _ _ _ b2i_9 h) (fun _ => hK _ _ _ (by decide) (hS.up (by omega) hk))
def saC (i : Nat) (x : T3) : Int := if i = 0 then x.1 else if i = 1 then x.2.1 else x.2.2
theorem SetA_ex {G : Gm} {r : Int} (hR : RI G r) : ∃ (g : Gm) (n : Int), SetA G r g n := by
  obtain ⟨l, hl⟩ : ∃ l, (TK G r).filter (fun x => !inWk x) = l := ⟨_, rfl⟩
  have h3 : l.length ≤ 3 := by rw [← hl]; exact Nat.le_trans (List.length_filter_le _ _) (TK_len hR)
  obtain ⟨a, ha⟩ : ∃ a : Nat, (132 + 16 * r : Int) = (a : Int) := ⟨(132 + 16 * r).toNat, by have := hR.1; omega⟩
  obtain ⟨g, hg⟩ : ∃ g : Gm, g = fun j => if j = a + 1 then 3 else if j = a + 6 then (l.length : Int) else if a + 7 ≤ j ∧ j < a + 16 then saC ((j - a - 7) % 3) (l.getD ((j - a - 7) / 3) (0, 0, 0)) else G j := ⟨_, rfl⟩
  refine ⟨g, _, ⟨?_, ?_⟩, ?_, ?_, rfl⟩
  · rw [hl, show (132 + 16 * r + 6).toNat = a + 6 by omega, hg]
    show (if a + 6 = a + 1 then (3 : Int) else if a + 6 = a + 6 then (l.length : Int) else _) = _
    rw [if_neg (by omega), if_pos rfl]
  · intro q x hx
    rw [hl] at hx
    have hq : q < l.length := (List.getElem?_eq_some_iff.mp hx).1
    have hd : l.getD q (0, 0, 0) = x := by rw [List.getD_eq_getElem?_getD, hx]; rfl
    have key : ∀ i : Nat, i < 3 → g (a + 7 + 3 * q + i) = saC i x := fun i hi => by
      rw [hg]
      show (if a + 7 + 3 * q + i = a + 1 then (3 : Int) else if a + 7 + 3 * q + i = a + 6 then (l.length : Int) else if a + 7 ≤ a + 7 + 3 * q + i ∧ a + 7 + 3 * q + i < a + 16 then saC ((a + 7 + 3 * q + i - a - 7) % 3) (l.getD ((a + 7 + 3 * q + i - a - 7) / 3) (0, 0, 0)) else _) = _
      rw [if_neg (by omega), if_neg (by omega), if_pos ⟨by omega, by omega⟩, show (a + 7 + 3 * q + i - a - 7) % 3 = i by omega, show (a + 7 + 3 * q + i - a - 7) / 3 = q by omega, hd]
    unfold TKe
    rw [show (132 + 16 * r + (7 + 3 * (q : Int) + 0)).toNat = a + 7 + 3 * q + 0 by omega, show (132 + 16 * r + (7 + 3 * (q : Int) + 1)).toNat = a + 7 + 3 * q + 1 by omega, show (132 + 16 * r + (7 + 3 * (q : Int) + 2)).toNat = a + 7 + 3 * q + 2 by omega, key 0 (by omega), key 1 (by omega), key 2 (by omega)]
    rfl
  · rw [show (132 + 16 * r + 1).toNat = a + 1 by omega, hg]
    show (if a + 1 = a + 1 then (3 : Int) else _) = 3
    rw [if_pos rfl]
  · intro j hj hj2
    rw [hg]
    show (if j = a + 1 then (3 : Int) else if j = a + 6 then (l.length : Int) else if a + 7 ≤ j ∧ j < a + 16 then saC ((j - a - 7) % 3) (l.getD ((j - a - 7) / 3) (0, 0, 0)) else G j) = G j
    rw [if_neg (by omega), if_neg (by omega), if_neg (by omega)]
theorem W_aside {S : Nat × (Nat → Int)} {k : Int} {G : Gm} {M : ZM} {r : Int} {K : ZRet} (hS : LSt S k G M) (hk : k + 1 ≤ 1000) (hr : 0 ≤ r ∧ r < G 5) (hK : WK S (k + 1) K) : T_L_putAside [zo 64, zi r] M K := by
  have hS0 := hS
  obtain ⟨hl, ⟨hL, hT, hG, hV, hX⟩, ⟨P, c, hq⟩, hI, hD, h4, hN⟩ := hS
  have h4G := hG.1
  have h5G := hG.2.1
  have hc : c_setAside G r = 0 ∨ c_setAside G r = 2 := by
    unfold c_setAside
    rw [if_pos (by omega)]
    split
    · exact Or.inl rfl
    · exact Or.inr rfl
  obtain ⟨g, n, hA⟩ := SetA_ex (hG.2.2 r hr.1 hr.2)
  refine ⟨G, P, c, g, n, r, rfl, hL, hT, hG, hV, hX, hq, fun _ => hA, hc, fun hc0 M' f t q => ?_, fun _ => hK _ _ _ (by decide) (hS0.up (by omega) hk)⟩
  have hs : G (132 + 16 * r + 1).toNat < 2 := by
    unfold c_setAside at hc0
    rw [if_pos (by omega)] at hc0
    split at hc0
    · assumption
    · exact absurd hc0 (by decide)
  have e4 : g 4 = G 4 := hA.2.2.1 4 (by omega) (by omega)
  have hn : 0 ≤ n := by rw [hA.2.2.2]; omega
  have z := hS0.w f t ⟨_, _, q⟩ (hI.setA hr hs hA) (hD.setA hI hr hs hA) e4
  exact hK _ _ _ (by omega) (z.up (by omega) hk)
theorem W_pardoned {S : Nat × (Nat → Int)} {k : Int} {G : Gm} {M : ZM} {w : Int} {K : ZRet} (hS : LSt S k G M) (hk : k + 1 ≤ 1000) (hw : 0 ≤ w ∧ w < G 4) (hK : WK S (k + 1) K) : T_L_pardoned [zo 64, zi w] M K := by
  have hS0 := hS
  obtain ⟨hl, ⟨hL, hT, hG, hV, hX⟩, ⟨P, c, hq⟩, hI, hD, h4, hN⟩ := hS
  have h4G := hG.1
  have h5G := hG.2.1
  have hc : c_pardon G w = 0 ∨ c_pardon G w = 2 := by
    unfold c_pardon
    rw [if_pos (by omega)]
    split
    · exact Or.inl rfl
    · exact Or.inr rfl
  refine ⟨G, P, c, w, rfl, hL, hT, hG, hV, hX, hq, hc, fun hc0 M' f t q => ?_, fun _ => hK _ _ _ (by decide) (hS0.up (by omega) hk)⟩
  have e4 : F_pardon G w 4 = G 4 := by
    unfold F_pardon
    exact gU_n _ (by omega)
  have hv : v_pardon G w = G (6 + 9 * w + 3).toNat := rfl
  have hp := (hV.2.2.2.2.1 w hw.1 hw.2).2.2
  have z := hS0.w f t ⟨_, _, q⟩ (hI.pardon hw) (hD.pardon hI hw) e4
  exact hK _ _ _ (by rw [hv]; omega) (z.up (by omega) hk)
theorem W_addRows {S : Nat × (Nat → Int)} {k : Int} {G : Gm} {M : ZM} {n s : Int} {K : ZRet} {KX : ZEx} (hS : LSt S k G M) (hk : k + 1 ≤ 1000) (h0 : G 5 = 0) (hn : 1 ≤ n ∧ n ≤ 24) (hs : 1 ≤ s ∧ s ≤ 9) (hK : WK S (k + 1) K) : T_X8_addRows [zo 64, zi n, zi s] M K KX := by
  have hS0 := hS
  obtain ⟨hl, ⟨hL, hT, hG, hV, hX⟩, ⟨P, c, hq⟩, hI, hD, h4, hN⟩ := hS
  have hc : c_addRows G n s = 0 := by
    unfold c_addRows
    rw [if_pos ⟨hn, hs⟩, if_pos (by omega)]
  refine ⟨G, P, c, n, s, rfl, hL, hT, hG, hV, hX, hq, fun _ M' f t q => ?_, fun e => absurd (hc.symm.trans e) (by decide), fun e => absurd (hc.symm.trans e) (by decide)⟩
  have e4 : F_addRows G n s 4 = G 4 := (hI.rows hs n (by omega) hn.2 (by omega)).2 4 (by omega) (by decide)
  have z := hS0.w f t ⟨_, _, q⟩ (hI.addr hn hs (by omega)) (hD.addr hI hn hs (by omega)) e4
  exact hK _ _ _ (by show -9 ≤ G 5; omega) (z.up (by omega) hk)
theorem W_bar {S : Nat × (Nat → Int)} {k : Int} {G : Gm} {M : ZM} {a b on : Int} {K : ZRet} {KX : ZEx} (hS : LSt S k G M) (hk : k + 1 ≤ 1000) (ha : 0 ≤ a ∧ a < G 4) (hb : 0 ≤ b ∧ b < G 4) (hab : a ≠ b) (hK : ∀ v G' M', LSt S (k + 1) G' M' → K (some (zi (b2i v))) M') : T_X8_bar [zo 64, zi a, zi b, zi on] M K KX := by
  have hS0 := hS
  obtain ⟨hl, ⟨hL, hT, hG, hV, hX⟩, ⟨P, c, hq⟩, hI, hD, h4, hN⟩ := hS
  have h4G := hG.1
  have hc : c_bar G a b on = 0 := by
    unfold c_bar
    rw [if_pos (by omega), if_neg hab]
  refine ⟨G, P, c, a, b, on, rfl, hL, hT, hG, hV, hX, hq, fun _ M' f t q => ?_, fun e => absurd (hc.symm.trans e) (by decide), fun e => absurd (hc.symm.trans e) (by decide)⟩
  have e4 : F_bar G a b on 4 = G 4 := by
    unfold F_bar
    rw [gU_n _ (by omega), gU_n _ (by omega), gU_n _ (by omega), gU_n _ (by omega)]
  have z := hS0.w f t ⟨_, _, q⟩ (hI.bar (by omega) (by omega) hab) (hD.bar hI (by omega) (by omega) hab) e4
  exact hK _ _ _ (z.up (by omega) hk)
theorem W_setTable {S : Nat × (Nat → Int)} {k : Int} {G : Gm} {M : ZM} {a v : Int} {K : ZRet} {KX : ZEx} (hS : LSt S k G M) (hk : k + 1 ≤ 1000) (ha : 0 ≤ a ∧ a < 3) (hv : 1 ≤ v ∧ v ≤ 9) (hK : WK S (k + 1) K) : T_X8_setTable [zo 64, zi a, zi v] M K KX := by
  have hS0 := hS
  obtain ⟨hl, ⟨hL, hT, hG, hV, hX⟩, ⟨P, c, hq⟩, hI, hD, h4, hN⟩ := hS
  have hc : c_setTable G a v = 0 := by
    unfold c_setTable
    rw [if_pos]
    refine ⟨by omega, ?_⟩
    (repeat' split) <;> omega
  refine ⟨G, P, c, a, v, rfl, hL, hT, hG, hV, hX, hq, fun _ M' f t q => ?_, fun e => absurd (hc.symm.trans e) (by decide)⟩
  have e4 : F_setTable G a v 4 = G 4 := by
    unfold F_setTable
    exact gU_n _ (by omega)
  have hvv : v_setTable G a v = G a.toNat := rfl
  have z := hS0.w f t ⟨_, _, q⟩ (hI.setT hc) (hD.setT hI hc) e4
  have hp1 := hV.1
  have hp2 := hV.2.1
  have hp3 := hV.2.2.1
  have h9 : -9 ≤ G a.toNat := by
    rcases (show a = 0 ∨ a = 1 ∨ a = 2 by omega) with e | e | e <;> subst e
    · exact (show -9 ≤ G 0 by omega)
    · exact (show -9 ≤ G 1 by omega)
    · exact (show -9 ≤ G 2 by omega)
  exact hK _ _ _ (by rw [hvv]; exact h9) (z.up (by omega) hk)
theorem W_pass0 {S : Nat × (Nat → Int)} {k : Int} {G : Gm} {M : ZM} {t : Int} {K : ZRet} {KX : ZEx} (hS : LSt S k G M) (hk : k + 1 ≤ 1000) (ht : 1 ≤ t ∧ t ≤ 99) (hK : ∀ g M', LvR (G 3 + t) G g (sumI (fun q => LN (G 3 + t) (TK G q)) (G 5)) → LSt S (k + 1) g M' → Fr SCw M M' → K (some (zi (sumI (fun q => LN (G 3 + t) (TK G q)) (G 5)))) M') : T_X8_pass [zo 64, zi t] M K KX := by
  have hS0 := hS
  obtain ⟨hl, ⟨hL, hT, hG, hV, hX⟩, ⟨P, c, hq⟩, hI, hD, h4, hN⟩ := hS
  have h4G := hG.1
  have hc : c_pass t = 0 := by
    unfold c_pass
    rw [if_pos ht]
  refine ⟨G, P, c, t, rfl, hL, hT, hG, hV, hX, hq, fun _ M' f t9 q => ?_, fun e => absurd (hc.symm.trans e) (by decide)⟩
  obtain ⟨g, hR, hT'⟩ := t9
  have e4 : g 4 = G 4 := hR.2.2.2.2.1 4 (by decide) (fun w w0 w1 => by omega) (fun r r0 r1 => by omega)
  exact hK _ _ hR (hS0.w f hT' ⟨_, _, q⟩ (hI.lv hk ht hR) (hD.lv hI hk ht hR) e4) f
