theorem TR.bar {M : ZM} {t : Nat} {G : Gm} {a b : Int} (h : TR M t G) (hL : LTab M t) (hG : GI G) (ha : 0 ≤ a ∧ a < 6) (hb : 0 ≤ b ∧ b < 6) (c : Int) : TR (zsI (zsI M (t + 4) (fPix a b).toNat c) (t + 3) (fPix a b).toNat 0) t (gU (gU (gU (gU G (60 + 6 * a + b) c) (60 + 6 * b + a) c) (96 + 6 * a + b) 0) (96 + 6 * b + a) 0) := by
  refine h.prs hG (fun s l z => zTx_I (M := zsI M (t + 4) (fPix a b).toNat c) hL.aTst (by decide) (by decide) (zTx_I hL.aTtold (by decide) (by decide) z)) rfl (fun j j0 j1 => by rw [zI_In _ _ _ j0, zI_In _ _ _ j1]) (fun j hj => ?_) (fun p q p0 p1 q0 q1 => ?_)
  · rw [gU_n _ (by omega), gU_n _ (by omega), gU_n _ (by omega), gU_n _ (by omega)]
  · have x := h.st p0 p1 q0 q1
    have y := h.to p0 p1 q0 q1
    by_cases z : (fPix p q).toNat = (fPix a b).toNat
    · have hz := fPix_i ⟨p0, p1⟩ ⟨q0, q1⟩ ha hb z
      rw [z, zI_Is, zI_In _ _ _ (by omega), zI_Is]
      refine ⟨?_, ?_⟩
      · rcases hz with ⟨z1, z2⟩ | ⟨z1, z2⟩
        · subst z1 z2
          rw [gU_if]
          split
          · rfl
          · rw [gU_s]
        · subst z1 z2
          rw [gU_s]
      · rw [gU_n _ (by omega), gU_n _ (by omega)]
        rcases hz with ⟨z1, z2⟩ | ⟨z1, z2⟩
        · subst z1 z2
          rw [gU_if]
          split
          · rfl
          · rw [gU_s]
        · subst z1 z2
          rw [gU_s]
    · have n1 : ¬ (p = a ∧ q = b) := fun k => z (by rw [k.1, k.2])
      have n2 : ¬ (p = b ∧ q = a) := fun k => z (by rw [k.1, k.2, fPix_c])
      rw [zI_Im _ _ _ z, zI_In _ _ _ (by omega), zI_In _ _ _ (by omega), zI_Im _ _ _ z, x, y]
      refine ⟨?_, ?_⟩
      · rw [gU_n _ (by omega), gU_n _ (by omega), gU_n _ (by omega), gU_n _ (by omega)]
      · rw [gU_n _ (by omega), gU_n _ (by omega), gU_n _ (by omega), gU_n _ (by omega)]
def T_X5_tellApart : ZTf := fun av M K KX => ∃ (t : Nat) (G : Gm) (a b on : Int), av = [zo t, zi a, zi b, zi on] ∧ (LTab M t) ∧ (TR M t G) ∧ (GI G) ∧ (0 ≤ a ∧ a < 6) ∧ (0 ≤ b ∧ b < 6) ∧  (∀ M' : ZM, (Fr (STb t) M M') → (TR M' t (F_bar G a b on)) → K none M')
set_option maxRecDepth 100000 in
set_option maxHeartbeats 4000000 in
theorem bd_X5_tellApart : zBd (cd_X5_tellApart T_X5_pairIndex) 5 0 0 T_X5_tellApart := by
  rintro av M K KX hA0 hM ⟨t, G, a, b, on, rfl, hX, hT, hG, ha, hb, hK⟩
  have hpx := fPix_r (a := a) (b := b) ha.1 ha.2 hb.1 hb.2
  refine ⟨rfl, fun Φ hΦ => ?_⟩
  refine zGoR hΦ [] 400 (fun hL9 _ hM _ _ => ?_)
  obtain ⟨qL1, qL2, qL3, _⟩ : zrg a ∧ zrg b ∧ zrg on ∧ True := hL9
  refine ⟨⟨⟨rfl, rfl⟩, trivial⟩, ⟨a, b, rfl, (by omega), (by omega), fun (qg1 : zrg (fPix a b)) qm2 => ⟨hX.w, _, hX.r9, ⟨fun (qc3 : on = 0) => ⟨⟨zixW hX.aTtold hX.lTtold (i := fPix a b) (by omega) (by decide), trivial⟩, ⟨hX.w, _, hX.r8, ⟨⟨zixW hX.aTst hX.lTst (i := fPix a b) (by omega) (by decide), trivial⟩, (show K none (zsI (zsI M (t + 4) (fPix a b).toNat 0) (t + 3) (fPix a b).toNat 0) from ?g269l1)⟩⟩⟩, fun (qc4 : on ≠ 0) => ⟨⟨zixW hX.aTtold hX.lTtold (i := fPix a b) (by omega) (by decide), trivial⟩, ⟨hX.w, _, hX.r8, ⟨⟨zixW hX.aTst hX.lTst (i := fPix a b) (by omega) (by decide), trivial⟩, (show K none (zsI (zsI M (t + 4) (fPix a b).toNat 1) (t + 3) (fPix a b).toNat 0) from ?g269l2)⟩⟩⟩⟩⟩⟩⟩
  case g269l1 =>
    have h9 := hT.bar hX hG ha hb (0)
    have ho : (if on ≠ 0 then (1 : Int) else 0) = 0 := by rw [if_neg (by omega)]
    refine hK _ ((Fr_I hX.aTtold (by decide) (by decide) (by unfold STb; omega)).tr (Fr_I hX.aTst (by decide) (by decide) (by unfold STb; omega))) ?_
    unfold F_bar
    rw [ho]
    exact h9
  case g269l2 =>
    have h9 := hT.bar hX hG ha hb (1)
    have ho : (if on ≠ 0 then (1 : Int) else 0) = 1 := by rw [if_pos (by omega)]
    refine hK _ ((Fr_I hX.aTtold (by decide) (by decide) (by unfold STb; omega)).tr (Fr_I hX.aTst (by decide) (by decide) (by unfold STb; omega))) ?_
    unfold F_bar
    rw [ho]
    exact h9
theorem M_X5_tellApart {l : Launch} (hl : l.stackTraces = false) : zMet l yX5_tellApart (Cond.code yX5_tellApart cX5_tellApart 5 (Option.none : Option Jvm.ClassFile.FieldType) :: zG) rm_X5_tellApart 0 0 T_X5_tellApart := met_X5_tellApart hl (M_X5_pairIndex hl) bd_X5_tellApart
