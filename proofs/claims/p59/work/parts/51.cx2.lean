theorem TRx.tr {M : ZM} {t : Nat} {G : Gm} {r : Int} (h : TRx M t G r) (hf : 0 ≤ r → r < G 5 → RFn M (t + 11 + 2 * r.toNat) G r) : TR M t G := by
  refine TR_iff.mpr ⟨h.1, fun q q0 q1 => ?_, h.2.2.1, h.2.2.2⟩
  by_cases e : q = r
  · subst e; exact hf q0 q1
  · exact h.2.1 q q0 q1 e
theorem LvP.of {G : Gm} (hG : GI G) (hV : GV G) (hX : GX G) : LvP G := by
  refine ⟨hG.2.1, hG.1, fun r r0 r1 => ⟨hG.2.2 r r0 r1, fun x hx => ?_⟩, fun w w0 w1 => ?_⟩
  · obtain ⟨k, k0, k1, rfl⟩ := TK_mem hx
    exact ((hX.1 r r0 r1).1 k k0 k1).1
  · have h9 := hV.2.2.2.2.1 w w0 w1
    exact ⟨h9.2.2.1, by have := h9.2.2.2.2.2.2.1; omega⟩
/-- a number changed that says nothing of takings, of how many there are -/
theorem LvP.u {G : Gm} {i v : Int} (h : LvP G) (hi : i = 3 ∨ ∃ r : Int, 0 ≤ r ∧ i = 132 + 16 * r + 1) : LvP (gU G i v) ∧ ∀ q, 0 ≤ q → q < G 5 → TK (gU G i v) q = TK G q := by
  obtain ⟨hr5, hw5, hR, hW⟩ := h
  have hk : ∀ q, 0 ≤ q → q < G 5 → TK (gU G i v) q = TK G q := fun q q0 q1 => TK_congr (hR q q0 q1).1 (fun j j0 j1 => gU_n _ (by rcases hi with z | ⟨r, z⟩ <;> omega))
  have e4 : gU G i v 4 = G 4 := gU_n _ (by rcases hi with z | ⟨r, z⟩ <;> omega)
  have e5 : gU G i v 5 = G 5 := gU_n _ (by rcases hi with z | ⟨r, z⟩ <;> omega)
  refine ⟨⟨by rw [e5]; exact hr5, by rw [e4]; exact hw5, fun q q0 q1 => ?_, fun w w0 w1 => ?_⟩, hk⟩
  · rw [e5] at q1
    refine ⟨(hR q q0 q1).1.cg (fun j j0 j1 => Or.inr (gU_n _ (by rcases hi with z | ⟨r, z⟩ <;> omega))), fun x hx => ?_⟩
    rw [hk q q0 q1] at hx
    rw [e4]
    exact (hR q q0 q1).2 x hx
  · rw [e4] at w1
    rw [gU_n _ (by rcases hi with z | ⟨r, z⟩ <;> omega), gU_n _ (by rcases hi with z | ⟨r, z⟩ <;> omega)]
    exact hW w w0 w1
theorem SetA.dw {G g : Gm} {r n T : Int} (hr : 0 ≤ r ∧ r < G 5) (h24 : G 5 ≤ 24) (hP : LvP G) (h : SetA G r g n) : DWr 0 T (gU G (132 + 16 * r + 1) 3) g r := by
  obtain ⟨h1, h2, h3, h4⟩ := h
  have hk := (hP.u (i := 132 + 16 * r + 1) (v := 3) (Or.inr ⟨r, hr.1, rfl⟩)).2 r hr.1 hr.2
  have hw6 := hP.2.1
  refine ⟨?_, fun v v0 v1 => ?_, fun j j0 j1 => ?_⟩
  · rw [hk]
    exact h1
  · rw [gU_n _ (by omega)] at v1
    rw [if_pos rfl, if_pos rfl, gU_n _ (by omega), gU_n _ (by omega)]
    exact ⟨h3 _ (by omega) (by omega), h3 _ (by omega) (by omega)⟩
  · by_cases e : j = (132 + 16 * r + 1).toNat
    · subst e
      rw [gU_s]
      exact h2
    · rw [gU_n _ e]
      exact h3 j e j1
def T_X5_giveUp : ZTf := fun av M K KX => ∃ (t : Nat) (G g : Gm) (n r : Int), av = [zo t, zo (t + 11 + 2 * r.toNat)] ∧ (LTab M t) ∧ (TR M t G) ∧ (GI G) ∧ (GV G) ∧ (GX G) ∧ (0 ≤ r ∧ r < G 5) ∧ (SetA G r g n) ∧  (∀ M' : ZM, (Fr (STb t) M M') → (TR M' t g) → K (some (zi (n))) M')
set_option maxRecDepth 100000 in
set_option maxHeartbeats 4000000 in
theorem bd_X5_giveUp : zBd (cd_X5_giveUp T_X5_dropWork) 2 0 0 T_X5_giveUp := by
  rintro av M K KX hA0 hM ⟨t, G, g, n, r, rfl, hX, hT, hG, hV9, hX9, hr, hsa, hK⟩
  obtain ⟨hw5, hr5, hR5⟩ := id hG
  have hlp := LvP.of hG hV9 hX9
  obtain ⟨hlu, hku⟩ := hlp.u (i := 132 + 16 * r + 1) (v := 3) (Or.inr ⟨r, hr.1, rfl⟩)
  have h24 : 0 ≤ r ∧ r < 24 := ⟨hr.1, by omega⟩
  have e5 : gU G (132 + 16 * r + 1) 3 5 = G 5 := gU_n _ (by omega)
  have e3 : gU G (132 + 16 * r + 1) 3 3 = G 3 := gU_n _ (by omega)
  have hxu : ∀ q, 0 ≤ q → q < gU G (132 + 16 * r + 1) 3 5 → XL (TK (gU G (132 + 16 * r + 1) 3) q) := fun q q0 q1 => by
    rw [e5] at q1
    rw [hku q q0 q1]
    exact hX9.xl hG q0 q1
  have hdw := hsa.dw (T := gU G (132 + 16 * r + 1) 3 3) hr hr5.2 hlp
  refine ⟨rfl, fun Φ hΦ => ?_⟩
  refine zGoR hΦ [] 400 (fun hL9 _ hM _ _ => ?_)
  obtain ⟨_⟩ : True := hL9
  refine ⟨⟨(hX.row (by omega) (by omega)).2.w, trivial⟩, ⟨⟨⟨rfl, rfl⟩, hX.w.rcv⟩, ⟨t, (gU G (132 + 16 * r + 1) 3), g, r, 0, rfl, hX, ((hT.x r).sr1 hX hG h24), hlu, hxu, ⟨hr.1, by rw [e5]; exact hr.2⟩, (Or.inl rfl), hdw, fun M1 hf1 hT1 h671 => (fun (qg1 : zrg (((TK (gU G (132 + 16 * r + 1) 3) r).countP (pD 0 ((gU G (132 + 16 * r + 1) 3) 3)) : Int))) qm2 => ⟨trivial, (show K (some (zi ((TK (gU G (132 + 16 * r + 1) 3) r).countP (pD 0 ((gU G (132 + 16 * r + 1) 3) 3)) : Int))) M1 from ?g264l1)⟩)⟩⟩⟩
  case g264l1 =>
    have fr : Fr (STb t) M (zsI M (t + 11 + 2 * r.toNat) 1 3) := Fr_I (hX.row (i := r) h24.1 h24.2).2.w (by decide) (by decide) (by unfold STb; omega)
    refine zKi (hK M1 (fr.tr hf1) (hT1.tr (fun _ _ => ?_))) ?_
    · unfold RFn
      intro z
      exact absurd (hsa.2.1.symm.trans z) (by decide)
    · rw [hsa.2.2.2, hku r hr.1 hr.2]
      congr 2
theorem M_X5_giveUp {l : Launch} (hl : l.stackTraces = false) : zMet l yX5_giveUp (Cond.code yX5_giveUp cX5_giveUp 2 (Option.some Jvm.ClassFile.FieldType.int) :: zG) rm_X5_giveUp 0 0 T_X5_giveUp := met_X5_giveUp hl (M_X5_dropWork hl) bd_X5_giveUp
theorem TR.tm {M : ZM} {t : Nat} {G : Gm} {v : Int} (h : TR M t G) (hL : LTab M t) (hG : GI G) : TR (zsI M t 3 v) t (gU G 3 v) := by
  have hr5 := hG.2.1
  have hw5 := hG.1
  have e4 : gU G 3 v 4 = G 4 := gU_n _ (by omega)
  have e5 : gU G 3 v 5 = G 5 := gU_n _ (by omega)
  refine h.step (Int.le_of_eq e4.symm) (fun k hk => ?_) (fun w w0 w1 => Or.inl ?_) (fun w w0 w1 => ?_) (fun w w0 w1 => ?_) (fun r r0 r1 => Or.inl ?_) (fun a b a0 a1 b0 b1 => ?_) <;> (try rw [e4] at w1) <;> (try rw [e5] at r1)
  · by_cases e : k = 3
    · subst e
      rw [zI_Is]
      exact (gU_s G 3 v).symm
    · rw [zI_Im _ _ _ e, gU_n _ (by omega)]
      exact (TR_iff.mp h).1.1 k hk
  · exact ⟨w1, zI_In _ _ _ (by omega), fun n n0 n1 => gU_n _ (by omega)⟩
  · obtain ⟨s, l, a1, a2, a3, a4⟩ := h.wn w0 w1
    exact ⟨s, l, a1, zTx_I hL.w (by decide) (by decide) a2, a3, by rw [gU_n _ (by omega)]; exact a4⟩
  · rw [fInWork_cg hG e5 (fun q q0 q1 j j0 j1 => gU_n _ (by omega)), zI_In _ _ _ (by omega)]
    exact h.w4 w0 w1
  · exact ⟨r1, hG.2.2 r r0 r1, fun q hq => zI_In _ _ _ (by omega), fun n n0 n1 => gU_n _ (by omega)⟩
  · rw [zI_In _ _ _ (by omega), zI_In _ _ _ (by omega), gU_n _ (by omega), gU_n _ (by omega)]
    exact ⟨h.st a0 a1 b0 b1, h.to a0 a1 b0 b1⟩
theorem pD1 (T : Int) : pD 1 T = lateT T := funext (fun x => by unfold pD; rw [if_neg (by decide)])
theorem dW1 (T v : Int) (l : List T3) : dW 1 T v l = LW T v l := by unfold dW LW; rw [pD1]
theorem LvI.run {T : Int} {G : Gm} {i : Int} (hi : 0 ≤ i ∧ i < 24) (h4G : G 4 ≤ 6) (h5G : G 5 ≤ 24) (hL : ∀ r, 0 ≤ r → r < G 5 → (TK G r).length ≤ 3) (hi5 : i < G 5) (hW : ∀ x, x ∈ TK G i → (0 ≤ x.1 ∧ x.1 < 6) ∧ 0 ≤ (G (6 + 9 * x.1 + 3).toNat) ∧ (G (6 + 9 * x.1 + 3).toNat) ≤ 20) : ∀ (l2 o1 : List T3) (g : Gm) (n : Int), LvI T G g i o1 l2 n → ∃ g' n', LvI T G g' i (o1 ++ l2) [] n' ∧ n' = n + LN T l2 ∧ ∀ j : Nat, (∀ v : Int, 0 ≤ v → v < 6 → j ≠ (6 + 9 * v + 3).toNat ∧ j ≠ (6 + 9 * v + 7).toNat) → (j : Int) < 132 + 16 * i + 6 ∨ 132 + 16 * i + 16 ≤ (j : Int) → g' j = g j := by
  intro l2
  induction l2 with
  | nil => exact fun o1 g n h => ⟨g, n, by rw [List.append_nil]; exact h, by rw [LN_0, Int.add_zero], fun _ _ _ => rfl⟩
  | cons x l2 ih =>
    intro o1 g n h
    have hxm : x ∈ TK G i := by rw [h.1]; exact List.mem_append.mpr (Or.inr List.mem_cons_self)
    obtain ⟨hw6, hT⟩ := hW x hxm
    by_cases q : lateT T x = true
    · have hz := h.drop q hi h4G h5G hL hi5 rfl hw6 hT rfl
      obtain ⟨g', n', a1, a2, a3⟩ := ih _ _ _ hz.1
      refine ⟨g', n', by rw [List.append_assoc] at a1; exact a1, ?_, fun j j0 j1 => ?_⟩
      · rw [a2]
        unfold LN
        rw [List.countP_cons_of_pos q]
        omega
      · have hlr := hL i hi.1 hi5
        have hfl : (o1.filter (onT T)).length ≤ o1.length := List.length_filter_le _ _
        have hmg : (g (132 + 16 * i + 6).toNat) = ((o1.filter (onT T)).length : Int) + 1 + (l2.length : Int) := by rw [h.2.1.1, List.length_append, List.length_cons]; omega
        rw [h.1, List.length_append, List.length_cons] at hlr
        rw [a3 j j0 j1, fDrop_n hi.1 (by omega) (by rw [gU_n _ (by omega), gU_n _ (by omega)]; omega) j1, gU_n _ (j0 x.1 hw6.1 hw6.2).2, gU_n _ (j0 x.1 hw6.1 hw6.2).1]
    · have q' : lateT T x = false := Bool.eq_false_iff.mpr q
      have hz := h.keep q'
      obtain ⟨g', n', a1, a2, a3⟩ := ih _ _ _ hz.1
      refine ⟨g', n', by rw [List.append_assoc] at a1; exact a1, ?_, a3⟩
      rw [a2]
      unfold LN
      rw [List.countP_cons_of_neg q]
theorem LvO.next {T : Int} {G g : Gm} {i n : Int} (hP : LvP G) (h0 : 0 ≤ i) (hi5 : i < G 5) (h : LvO T G g i n) : ∃ g', LvO T G g' (i + 1) (n + LN T (TK G i)) ∧ DWr 1 T g g' i ∧ TK g i = TK G i := by
  obtain ⟨hr5, hw5, hR, hW⟩ := id hP
  have hL : ∀ r, 0 ≤ r → r < G 5 → (TK G r).length ≤ 3 := fun r r0 r1 => TK_len (hR r r0 r1).1
  have hRi := hR i h0 hi5
  obtain ⟨g', n', a1, a2, a3⟩ := LvI.run (T := T) ⟨h0, by omega⟩ hw5.2 hr5.2 hL hi5 (fun x hx => ⟨hRi.1.tk x hx, (hW x.1 (hRi.1.tk x hx).1 (hRi.2 x hx)).1⟩) _ _ _ _ (h.i hi5)
  rw [List.nil_append] at a1
  rw [a2] at a1
  have hk : TK g i = TK G i := (h.2.1 i (Int.le_refl _) hi5).tk
  have hO := a1.o h0
  refine ⟨g', hO, ⟨?_, fun v v0 v1 => ?_, a3⟩, hk⟩
  · rw [hk, pD1]
    have h9 := a1.2.1
    rw [List.append_nil] at h9
    exact h9
  · have e4 : g 4 = G 4 := h.2.2.2.2.1 4 (by decide) (fun w q0 q1 => by omega) (fun r q0 q1 => by omega)
    rw [e4] at v1
    have c1 := h.2.2.1 v v0 v1
    have c2 := hO.2.2.1 v v0 v1
    simp only [sumI_s h0] at c1 c2
    rw [if_neg (by decide), if_neg (by decide), dW1, hk]
    have hb := (LW_b T v (TK G i)).1
    have hb2 : 0 ≤ sumI (fun r => LW T v (TK G r)) i := (sumI_b 3 h0 (fun r r0 r1 => ⟨(LW_b _ _ _).1, Int.le_trans (Int.le_trans (LW_b _ _ _).2 (LN_b _ _).2) (by have := hL r r0 (by omega); omega)⟩)).1
    generalize LW T v (TK G i) = c at *
    generalize sumI (fun r => LW T v (TK G r)) i = s at *
    rw [c1.1, c1.2, c2.1, c2.2]
    refine ⟨?_, by omega⟩
    unfold zmax
    repeat' split
    all_goals omega
theorem LvO.lvp {T : Int} {G g : Gm} {i n : Int} (hP : LvP G) (hL9 : ∀ w : Int, 0 ≤ w → w < G 4 → (G (6 + 9 * w + 7).toNat) ≤ 100000) (hi : i ≤ G 5) (h : LvO T G g i n) : LvP g := by
  obtain ⟨hr5, hw5, hR, hW⟩ := id hP
  obtain ⟨a1, a2, a3, a4, a5, a6⟩ := h
  have e5 : g 5 = G 5 := a5 5 (by decide) (fun w q0 q1 => by omega) (fun r q0 q1 => by omega)
  have e4 : g 4 = G 4 := a5 4 (by decide) (fun w q0 q1 => by omega) (fun r q0 q1 => by omega)
  have hb : ∀ w, 0 ≤ sumI (fun r => LW T w (TK G r)) i ∨ i < 0 := fun w => by
    by_cases z : 0 ≤ i
    · exact Or.inl (sumI_b 3 z (fun r r0 r1 => ⟨(LW_b _ _ _).1, Int.le_trans (Int.le_trans (LW_b _ _ _).2 (LN_b _ _).2) (by have q1 := TK_len (hR r r0 (by omega)).1; omega)⟩)).1
    · exact Or.inr (by omega)
  have hb2 : ∀ w, sumI (fun r => LW T w (TK G r)) i ≤ 72 ∨ i < 0 := fun w => by
    by_cases z : 0 ≤ i
    · have h9 := (sumI_b (f := fun r => LW T w (TK G r)) 3 z (fun r r0 r1 => ⟨(LW_b _ _ _).1, Int.le_trans (Int.le_trans (LW_b _ _ _).2 (LN_b _ _).2) (by have q1 := TK_len (hR r r0 (by omega)).1; omega)⟩)).2
      exact Or.inl (by omega)
    · exact Or.inr (by omega)
  refine ⟨by rw [e5]; exact hr5, by rw [e4]; exact hw5, fun q q0 q1 => ?_, fun w w0 w1 => ?_⟩
  · rw [e5] at q1
    obtain ⟨hq, hq4⟩ := hR q q0 q1
    have hlq := TK_len hq
    have key : ∀ l : List T3, l.length ≤ 3 → (∀ x, x ∈ l → x ∈ TK G q) → RwT g q l → RI g q ∧ ∀ x, x ∈ TK g q → x.1 < g 4 := fun l hl hs hw => by
      refine ⟨hw.ri hq.1 hl (fun x hx => hq.tk x (hs x hx)), fun x hx => ?_⟩
      rw [hw.tk] at hx
      rw [e4]
      exact hq4 x (hs x hx)
    by_cases z : i ≤ q
    · exact key _ hlq (fun x hx => hx) (a2 q z q1)
    · exact key _ (Nat.le_trans (List.length_filter_le _ _) hlq) (fun x hx => (List.mem_filter.mp hx).1) (a1 q q0 (by omega))
  · rw [e4] at w1
    have c := a3 w w0 w1
    have d1 := hb w
    have d2 := hb2 w
    have d := hW w w0 w1
    have dL := hL9 w w0 w1
    simp only at c
    generalize hs : sumI (fun r => LW T w (TK G r)) i = s at *
    rw [c.1, c.2]
    by_cases z : i < 0
    · have : s = 0 := by rw [← hs]; unfold sumI foldI; rw [show i.toNat = 0 by omega]; rfl
      subst this
      refine ⟨?_, by omega⟩
      unfold zmax
      split <;> omega
    · refine ⟨?_, by omega⟩
      unfold zmax
      split <;> omega
def T_X5_letPass : ZTf := fun av M K KX => ∃ (t : Nat) (G : Gm) (ticks : Int), av = [zo t, zi ticks] ∧ (LTab M t) ∧ (TR M t G) ∧ (GI G) ∧ (GV G) ∧ (GX G) ∧ (1 ≤ ticks ∧ ticks ≤ 99) ∧  (∀ M' : ZM, (Fr (STb t) M M') → (∃ g, LvR (G 3 + ticks) G g (sumI (fun q => LN (G 3 + ticks) (TK G q)) (G 5)) ∧ TR M' t g) → K (some (zi (sumI (fun q => LN (G 3 + ticks) (TK G q)) (G 5)))) M')
set_option maxRecDepth 100000 in
set_option maxHeartbeats 4000000 in
theorem bd_X5_letPass : zBd (cd_X5_letPass T_X5_dropWork) 4 0 0 T_X5_letPass := by
  rintro av M K KX hA0 hM ⟨t, G, ticks, rfl, hX, hT, hG, hV9, hX9, htk, hK⟩
  obtain ⟨hw5, hr5, hR5⟩ := id hG
  have htm := hV9.2.2.2.1
  obtain ⟨T, hTT⟩ : ∃ T, G 3 + ticks = T := ⟨_, rfl⟩
  rw [hTT] at hK
  have hlp := LvP.of hG hV9 hX9
  obtain ⟨G1, hG1⟩ : ∃ z, gU G 3 T = z := ⟨_, rfl⟩
  obtain ⟨hlu, hku⟩ := hlp.u (i := 3) (v := T) (Or.inl rfl)
  rw [hG1] at hlu hku
  have e5 : G1 5 = G 5 := by rw [← hG1]; exact gU_n _ (by omega)
  have hT1 : TR (zsI M t 3 T) t G1 := by rw [← hG1]; exact hT.tm hX hG
  have hbN : ∀ i, 0 ≤ i → i ≤ G 5 → 0 ≤ sumI (fun q => LN T (TK G1 q)) i ∧ sumI (fun q => LN T (TK G1 q)) i ≤ i * 3 := fun i i0 i1 => sumI_b 3 i0 (fun r r0 r1 => ⟨(LN_b _ _).1, Int.le_trans (LN_b _ _).2 (by have := TK_len (hlu.2.2.1 r r0 (by omega)).1; omega)⟩)
  have hL9 : ∀ w : Int, 0 ≤ w → w < G1 4 → (G1 (6 + 9 * w + 7).toNat) ≤ 100000 := fun w w0 w1 => by
    rw [← hG1, gU_n _ (by omega)] at w1 ⊢
    exact (hV9.2.2.2.2.1 w w0 w1).2.2.2.2.2.2.1.2
  refine ⟨rfl, fun Φ hΦ => ?_⟩
  have loop := zdown (n := G 5) (P := fun i => ∀ (M90 : ZM) (g : Gm) (n : Int), Fr (STb t) M M90 → TR M90 t g → LvO T G1 g i n → Φ 14 [some (zo t), some (zi ticks), some (zi n), some (zi i)] [] M90 0 0) (fun i h0 h1 ih M90 g n f9 hT90 hO => by
    have hX90 := hX.fr f9
    have hn := hbN i h0 h1
    have hnn : n = sumI (fun q => LN T (TK G1 q)) i := hO.2.2.2.1
    rw [← hnn] at hn
    have g5 : g 5 = G 5 := (hO.2.2.2.2.1 5 (by decide) (fun w q0 q1 => by omega) (fun r q0 q1 => by omega)).trans e5
    have g3 : g 3 = T := hO.2.2.2.2.2
    have hlg : i < G 5 → LvP g := fun z => hO.lvp hlu hL9 (by rw [e5]; omega)
    obtain ⟨g', hg'⟩ : ∃ g', i < G 5 → LvO T G1 g' (i + 1) (n + LN T (TK G1 i)) ∧ DWr 1 T g g' i ∧ TK g i = TK G1 i := by
      by_cases z : i < G 5
      · obtain ⟨g', q⟩ := LvO.next hlu h0 (by rw [e5]; exact z) hO
        exact ⟨g', fun _ => q⟩
      · exact ⟨g, fun q => absurd q z⟩
    have hxg : i < G 5 → ∀ q, 0 ≤ q → q < g 5 → XL (TK g q) := fun z q q0 q1 => by
      rw [g5] at q1
      by_cases y : i ≤ q
      · rw [(hO.2.1 q y (by rw [e5]; exact q1)).tk, hku q q0 q1]
        exact hX9.xl hG q0 q1
      · rw [(hO.1 q q0 (by omega)).tk, hku q q0 q1]
        exact (hX9.xl hG q0 q1).sublist List.filter_sublist
    have hcb := fun z : i < G 5 => LN_b T (TK G1 i)
    have hc3 := fun z : i < G 5 => TK_len (hlu.2.2.1 i h0 (by omega)).1
    have hcn : i < G 5 → ((TK g i).countP (pD 1 (g 3)) : Int) = LN T (TK G1 i) := fun z => by
      rw [(hg' z).2.2, pD1, g3]
      rfl
    refine zGoR hΦ [14] 400 (fun hL9 _ hM _ _ => ?_)
    obtain ⟨qL1, qL2, qL3, _⟩ : zrg ticks ∧ zrg n ∧ zrg i ∧ True := hL9
    refine ⟨hX90.w, zIr ((hT90.t5.trans g5)) (⟨fun (qc1 : i ≥ G 5) => ⟨trivial, (show K (some (zi n)) M90 from ?g265l1)⟩, fun (qc2 : i < G 5) => ⟨hX90.w, _, hX90.r7, ⟨zixW hX90.aTrow hX90.lTrow (i := i) (by omega) (by decide), _, (hX90.row (by omega) (by omega)).1, ⟨⟨⟨rfl, rfl⟩, hX90.w.rcv⟩, ⟨t, g, g', i, 1, rfl, hX90, (hT90.x i), (hlg (by omega)), (hxg (by omega)), ⟨h0, by rw [g5]; omega⟩, (Or.inr rfl), (by rw [g3]; exact (hg' (by omega)).2.1), fun M1 hf1 hT1 h671 => (fun (qg3 : zrg (((TK g i).countP (pD 1 (g 3)) : Int))) qm4 => ⟨(zrgI (x := n + ((TK g i).countP (pD 1 (g 3)) : Int)) (by omega)), ⟨(zrgI (x := i + 1) (by omega)), (show Φ 14 [some (zo t), some (zi ticks), some (zi (n + ((TK g i).countP (pD 1 (g 3)) : Int))), some (zi (i + 1))] [] M1 (0) (0) from ?g265l2)⟩⟩)⟩⟩⟩⟩⟩)⟩
    case g265l1 =>
      have e9 : i = G 5 := (by omega)
      subst e9
      have hR9 : LvR T G1 g n := by unfold LvR; rw [e5]; exact hO
      have hR8 : LvR T G g n := by rw [← hG1] at hR9; exact LvR.base hr5 hw5 hR5 hR9
      have hn8 : n = sumI (fun q => LN T (TK G q)) (G 5) := hR8.2.2.2.1
      rw [hn8] at hR8 ⊢
      exact hK M90 f9 ⟨g, hR8, hT90⟩
    case g265l2 =>
      have hgg := hg' (by omega)
      have h9 := ih (by omega) M1 g' (n + LN T (TK G1 i)) (f9.tr hf1) (hT1.tr (fun _ _ => ?_)) hgg.1
      · rw [← hcn (by omega)] at h9
        exact h9
      · have d9 := hT90.rfn h0 (by rw [g5]; omega)
        have s1 := hgg.2.1.2.2 (132 + 16 * i + 1).toNat (fun v v0 v1 => by omega) (by omega)
        have s5 := hgg.2.1.2.2 (132 + 16 * i + 5).toNat (fun v v0 v1 => by omega) (by omega)
        have s4 := hgg.2.1.2.2 4 (fun v v0 v1 => by omega) (by omega)
        unfold RFn at d9 ⊢
        rw [s1, s5, s4, h671.1, h671.2]
        exact d9
    done)
  refine zGoR hΦ [14] 400 (fun hL9 _ hM _ _ => ?_)
  obtain ⟨qL1, _⟩ : zrg ticks ∧ True := hL9
  refine ⟨rfl, ⟨hX.w, zIr (hT.t3) (⟨(zrgI (x := G 3 + ticks) (by omega)), ⟨⟨hX.w, trivial⟩, (show Φ 14 [some (zo t), some (zi ticks), some (zi 0), some (zi 0)] [] (zsI M t 3 (G 3 + ticks)) (0) (0) from ?g266l1)⟩⟩)⟩⟩
  case g266l1 =>
    have fr : Fr (STb t) M (zsI M t 3 T) := Fr_I hX.w (by decide) (by decide) (by unfold STb; omega)
    have h9 := loop 0 (by omega) (by omega) (zsI M t 3 T) G1 0 fr hT1 ⟨fun r r0 r1 => by omega, fun r r0 r1 => TK_RwT (hlu.2.2.1 r r0 r1).1.2.1.1, fun w w0 w1 => ?_, rfl, fun _ _ _ _ => rfl, by rw [← hG1]; exact gU_s G 3 T⟩
    · rw [hTT]
      exact h9
    · have h8 := (hlu.2.2.2 w w0 w1).1
      refine ⟨?_, (Int.add_zero _).symm⟩
      show _ = zmax 0 (_ - 0)
      unfold zmax
      split <;> omega
theorem M_X5_letPass {l : Launch} (hl : l.stackTraces = false) : zMet l yX5_letPass (Cond.code yX5_letPass cX5_letPass 4 (Option.some Jvm.ClassFile.FieldType.int) :: zG) rm_X5_letPass 0 0 T_X5_letPass := met_X5_letPass hl (M_X5_dropWork hl) bd_X5_letPass
