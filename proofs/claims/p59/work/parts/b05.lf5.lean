/-! the law: audits, on -/
theorem foldI_s1 {α : Type} {f : Int → α → α} {a : α} {n : Int} (h : 0 ≤ n) : foldI f a (n + 1) = f n (foldI f a n) := foldI_s h
theorem audT_s {G : Gm} {r x i : Int} (hi : 0 ≤ i) (hw : 0 ≤ wkc G r i ∧ wkc G r i < 6) : ∀ w, 0 ≤ w → w < 6 → trG (fAudT G r x (i + 1)) w = aSt (trG (fAudT G r x i)) (wkc G r i) (cpd (trG (fAudT G r x i) (wkc G r i) + (if zabs (rsG G r i - x) ≤ G 0 then 2 else -4))) w := fun w w0 w1 => by
  have e : fAudT G r x (i + 1) = fAudS G r x i (fAudT G r x i) := foldI_s hi
  rw [e]
  generalize fAudT G r x i = g
  have ea : fAgree G (G (132 + 16 * r + (7 + 3 * i + 1)).toNat) x = decide (zabs (rsG G r i - x) ≤ G 0) := rfl
  have hw' : 0 ≤ G (132 + 16 * r + (7 + 3 * i + 0)).toNat ∧ G (132 + 16 * r + (7 + 3 * i + 0)).toNat < 6 := hw
  unfold fAudS trG wkc
  rw [ea]
  simp only [decide_eq_true_eq]
  by_cases z : w = G (132 + 16 * r + (7 + 3 * i + 0)).toNat
  · rw [z, aSt_s, gU_s]
    rfl
  · rw [aSt_n z, gU_n _ (by omega)]
theorem aud_n {G : Gm} {r x p q : Int} (hG : GI G) (hr : 0 ≤ r ∧ r < G 5) (hby : BYp G r p q) : (∀ w, 0 ≤ w → w < 6 → trG (F_audit G r x p q) w = trG (fAudT G r x (cnc G r)) w) ∧ F_audit G r x p q 4 = G 4 ∧ F_audit G r x p q 5 = G 5 ∧ auG (F_audit G r x p q) r = x ∧ vaG (F_audit G r x p q) r = (if zabs (vaG G r - x) ≤ G 0 then vaG G r else x) := by
  have h4 := hG.1
  have h5 := hG.2.1
  have hR := hG.2.2 r hr.1 hr.2
  have hb := hby
  unfold BYp at hb
  have e := fun (j : Nat) hj => fAudT_n (x := x) hR (G (132 + 16 * r + 6).toNat) hR.2.1.1 (Int.le_refl _) j hj
  have ea : fAgree G (G (132 + 16 * r + 2).toNat) x = decide (zabs (vaG G r - x) ≤ G 0) := rfl
  have e2 : fAudT G r x (G (132 + 16 * r + 6).toNat) (132 + 16 * r + 2).toNat = vaG G r := e _ (by omega)
  unfold F_audit
  rw [ea]
  by_cases z : zabs (vaG G r - x) ≤ G 0
  · rw [if_pos (decide_eq_true z), if_pos z]
    refine ⟨fun w w0 w1 => gU_n _ (by omega), (gU_n _ (by omega)).trans (e 4 (by omega)), (gU_n _ (by omega)).trans (e 5 (by omega)), gU_s _ _ _, (gU_n _ (by omega)).trans e2⟩
  · rw [if_neg (by rw [decide_eq_true_eq]; exact z), if_neg z]
    refine ⟨fun w w0 w1 => ?_, ?_, ?_, ?_, gU_s _ _ _⟩
    · show gU (fStrk (gU _ _ _) p q) _ _ (6 + 9 * w + 3).toNat = _
      unfold fStrk
      rw [gU_n _ (by omega), gU_n _ (by omega), gU_n _ (by omega), gU_n _ (by omega)]
      rfl
    · unfold fStrk
      rw [gU_n _ (by omega), gU_n _ (by omega), gU_n _ (by omega), gU_n _ (by omega)]
      exact e 4 (by omega)
    · unfold fStrk
      rw [gU_n _ (by omega), gU_n _ (by omega), gU_n _ (by omega), gU_n _ (by omega)]
      exact e 5 (by omega)
    · unfold auG fStrk
      rw [gU_n _ (by omega), gU_n _ (by omega), gU_n _ (by omega), gU_s]
theorem aud_k {G : Gm} {r x p q : Int} (hG : GI G) (hr : 0 ≤ r ∧ r < G 5) (hby : BYp G r p q) (hs : SYM G) : skG (F_audit G r x p q) p q = skG G p q + (if zabs (vaG G r - x) ≤ G 0 then 0 else 1) ∧ skG (F_audit G r x p q) q p = skG (F_audit G r x p q) p q := by
  have h4 := hG.1
  have h5 := hG.2.1
  have hR := hG.2.2 r hr.1 hr.2
  have hb := hby
  unfold BYp at hb
  have e := fun (j : Nat) hj => fAudT_n (x := x) hR (G (132 + 16 * r + 6).toNat) hR.2.1.1 (Int.le_refl _) j hj
  have ea : fAgree G (G (132 + 16 * r + 2).toNat) x = decide (zabs (vaG G r - x) ≤ G 0) := rfl
  have s1 : skG G p q = skG G q p := hs p q hb.1 (by omega) (by omega) (by omega)
  unfold F_audit
  rw [ea]
  by_cases z : zabs (vaG G r - x) ≤ G 0
  · rw [if_pos (decide_eq_true z), if_pos z]
    have e1 : skG (gU (fAudT G r x (G (132 + 16 * r + 6).toNat)) (132 + 16 * r + 3) x) p q = skG G p q := (gU_n _ (by omega)).trans (e _ (by omega))
    have e2 : skG (gU (fAudT G r x (G (132 + 16 * r + 6).toNat)) (132 + 16 * r + 3) x) q p = skG G q p := (gU_n _ (by omega)).trans (e _ (by omega))
    rw [e1, e2]
    exact ⟨by omega, s1.symm⟩
  · rw [if_neg (by rw [decide_eq_true_eq]; exact z), if_neg z]
    have e2 : gU (fAudT G r x (G (132 + 16 * r + 6).toNat)) (132 + 16 * r + 3) x (96 + 6 * q + p).toNat = skG G q p := (gU_n _ (by omega)).trans (e _ (by omega))
    generalize gU (fAudT G r x (G (132 + 16 * r + 6).toNat)) (132 + 16 * r + 3) x = g at e2
    have e3 : skG (gU (fStrk g p q) (132 + 16 * r + 2) x) p q = skG G q p + 1 := by
      unfold skG fStrk
      rw [gU_n _ (by omega), gU_s, e2]
      rfl
    have e4 : skG (gU (fStrk g p q) (132 + 16 * r + 2) x) q p = skG G q p + 1 := by
      unfold skG fStrk
      rw [gU_n _ (by omega), gU_n _ (by omega), gU_s, e2]
      rfl
    rw [e3, e4, s1]
    exact ⟨rfl, rfl⟩
theorem R_are {S : Nat × (Nat → Int)} {k : Int} {G : Gm} {M : ZM} {s : Nat} {f : Int → Int} {K : ZRet} {KX : ZEx} (hS : LSt S k G M) (hA : AR M s (G 4).toNat f) (hf : ∀ w, 0 ≤ w → w < G 4 → trG G w = f w) (hK : K (some (zi 1)) M) : T_L_are [zo 64, zo s] M K KX := ⟨S, k, G, s, f, rfl, hS, hA, fun _ => hK, fun ⟨w, hw, ne⟩ => absurd (hf w hw.1 hw.2) ne⟩
theorem R_trusts {S : Nat × (Nat → Int)} {k : Int} {G : Gm} {M : ZM} {K : ZRet} {KX : ZEx} (hS : LSt S k G M) (hK : ∀ M' : ZM, LSt S k G M' → Fr Sno M M' → zN M' = zN M + 1 → AR M' (zN M) (G 4).toNat (trG G) → K (some (zo (zN M))) M') : T_L_trusts [zo 64] M K KX := ⟨S, k, G, rfl, hS, fun M' f n a => hK M' (hS.fr f (fun _ _ _ z => z)) f n a⟩
theorem zr_fi {S : Nat × (Nat → Int)} {k : Int} {G : Gm} {M : ZM} (h : LSt S k G M) {r : Int} (hr : 0 ≤ r ∧ r < G 5) : (1 ≤ zor (fiG G r) 1 ∧ zor (fiG G r) 1 < 64) ∧ (0 ≤ ntF (fiG G r) ∧ ntF (fiG G r) ≤ 32) ∧ (0 ≤ nlF (zor (fiG G r) 1) ∧ nlF (zor (fiG G r) 1) ≤ 32) := by
  have h1 := (h.fi hr).1
  have h2 := bits6 (P := fun v => 1 ≤ zor v 1 ∧ zor v 1 ≤ 63) or_b h1
  have h3 := bits6 (P := fun x => nty x ≤ 63 ∧ (0 ≤ zushr (nty x) 4 ∨ nty x ≤ 0) ∧ (0 ≤ ntF x ∧ ntF x ≤ 32)) nt_b h1
  have h4 := bits6 (P := fun x => x = 0 ∨ (zushr x 4 ≤ 3) ∧ (0 ≤ nlF x ∧ nlF x ≤ 32)) (fun v => by have := nl_b v; omega) (x := zor (fiG G r) 1) (by omega)
  exact ⟨⟨h2.1, by omega⟩, h3.2.2, by omega⟩
theorem R_nt {x : Int} {M : ZM} {K : ZRet} {KX : ZEx} (hx : 0 ≤ x ∧ x < 64) (hK : K (some (zi (ntF x))) M) : T_J6_numberOfTrailingZeros_0f7a4 [zi x] M K KX := ⟨x, rfl, hx, hK⟩
theorem R_nl {x : Int} {M : ZM} {K : ZRet} {KX : ZEx} (hx : 1 ≤ x ∧ x < 64) (hK : K (some (zi (nlF x))) M) : T_J6_numberOfLeadingZeros_0f7a4 [zi x] M K KX := ⟨x, rfl, hx, hK⟩

