/-! pairs of calls: the rest, third -/
def saC (i : Nat) (x : T3) : Int := if i = 0 then x.1 else if i = 1 then x.2.1 else x.2.2
theorem SetA_ex {G : Gm} {r : Int} (hR : RI G r) : ∃ (g : Gm) (n : Int), SetA G r g n := by
  obtain ⟨l, hl⟩ : ∃ l, (TK G r).filter (fun x => !inWk x) = l := ⟨_, rfl⟩
  have h3 : l.length ≤ 3 := by rw [← hl]; exact Nat.le_trans (List.length_filter_le _ _) (TK_len hR)
  obtain ⟨a, ha⟩ : ∃ a : Nat, (132 + 16 * r : Int) = (a : Int) := ⟨(132 + 16 * r).toNat, by have := hR.1; omega⟩
  obtain ⟨g, hg⟩ : ∃ g : Gm, g = fun j => if j = a + 1 then 3 else if j = a + 6 then (l.length : Int) else if a + 7 ≤ j ∧ j < a + 16 then saC ((j - a - 7) % 3) (l.getD ((j - a - 7) / 3) (0, 0, 0)) else G j := ⟨_, rfl⟩
  refine ⟨g, _, ⟨?_, ?_⟩, ?_, ?_, rfl⟩
  · rw [hl, show (132 + 16 * r + 6).toNat = a + 6 by omega, hg]
    show (if a + 6 = a + 1 then (3 : Int) else if a + 6 = a + 6 then (l.length : Int) else _) = _
    rw [if_neg (by omega), if_pos rfl]
  · intro q x hx
    rw [hl] at hx
    have hq : q < l.length := (List.getElem?_eq_some_iff.mp hx).1
    have hd : l.getD q (0, 0, 0) = x := by rw [List.getD_eq_getElem?_getD, hx]; rfl
    have key : ∀ i : Nat, i < 3 → g (a + 7 + 3 * q + i) = saC i x := fun i hi => by
      rw [hg]
      show (if a + 7 + 3 * q + i = a + 1 then (3 : Int) else if a + 7 + 3 * q + i = a + 6 then (l.length : Int) else if a + 7 ≤ a + 7 + 3 * q + i ∧ a + 7 + 3 * q + i < a + 16 then saC ((a + 7 + 3 * q + i - a - 7) % 3) (l.getD ((a + 7 + 3 * q + i - a - 7) / 3) (0, 0, 0)) else _) = _
      rw [if_neg (by omega), if_neg (by omega), if_pos ⟨by omega, by omega⟩, show (a + 7 + 3 * q + i - a - 7) % 3 = i by omega, show (a + 7 + 3 * q + i - a - 7) / 3 = q by omega, hd]
    unfold TKe
    rw [show (132 + 16 * r + (7 + 3 * (q : Int) + 0)).toNat = a + 7 + 3 * q + 0 by omega, show (132 + 16 * r + (7 + 3 * (q : Int) + 1)).toNat = a + 7 + 3 * q + 1 by omega, show (132 + 16 * r + (7 + 3 * (q : Int) + 2)).toNat = a + 7 + 3 * q + 2 by omega, key 0 (by omega), key 1 (by omega), key 2 (by omega)]
    rfl
  · rw [show (132 + 16 * r + 1).toNat = a + 1 by omega, hg]
    show (if a + 1 = a + 1 then (3 : Int) else _) = 3
    rw [if_pos rfl]
  · intro j hj hj2
    rw [hg]
    show (if j = a + 1 then (3 : Int) else if j = a + 6 then (l.length : Int) else if a + 7 ≤ j ∧ j < a + 16 then saC ((j - a - 7) % 3) (l.getD ((j - a - 7) / 3) (0, 0, 0)) else G j) = G j
    rw [if_neg (by omega), if_neg (by omega), if_neg (by omega)]
/-- .. where the class's table is known but by what it is -/
theorem PAIR.wrR {S : Nat × (Nat → Int)} {k x v : Int} {M : ZM} {TL TRf : ZM → ZRet → Prop} {G B : Gm} {R : Gm → Prop} {n : Int} {P P' : Int → Gm} {c c' : Int} {Q : Int → Gm} {b : Int → Int} {o : List Int} {e8 e9 : Int} (hC : CMd S M) (hK : CSd M G B n P c Q b o e8 e9) (hR : RSd M G B n P c Q b o e8 e9) (hV : IVd k G P c Q b o) (hk : k + 1 ≤ 1000) (hx : 0 ≤ x)
    (h1 : ∀ K : ZRet, (x = 0 → ∀ M' Gc, R Gc → CMd S M' → CSd M' Gc B n P' c' Q b o e8 e9 → RSd M' G B n P c Q b o e8 e9 → K (some (zi 0)) (zsI M' 681 0 v)) → (x ≠ 0 → K (some (zi x)) M) → TL M K)
    (h2 : x = 0 → ∀ (M1 : ZM) (K : ZRet) (Gc : Gm), R Gc → CMd S M1 → CSd M1 Gc B n P' c' Q b o e8 e9 → RSd M1 G B n P c Q b o e8 e9 → (∀ M2, zI M2 670 0 = 0 → zI M2 681 0 = zI M1 681 0 → INV S (k + 1) M2 → K (some (zi v)) M2) → TRf M1 K)
    (h3 : x ≠ 0 → ∀ K : ZRet, K (some (zi 0)) (zsI M 670 0 x) → TRf M K) : PAIR S k M TL TRf := by
  intro K1 hK1
  refine h1 K1 (fun q M' Gc hRc m1 m2 m3 => ?_) (fun q => ?_)
  · have f := Fr_out m1 v
    have c1 : CMd S (zsI M' 681 0 v) := m1.fr f (by decide) (by decide) (by decide)
    have c2 := m2.fr f (fun j hj => by show ¬ j = 681; omega)
    have c3 := m3.fr f (fun j j0 j1 => by show ¬ j = 681; omega)
    exact hK1 0 (zsI M' 681 0 v) c1 (fun K2 hK2 => h2 q _ K2 Gc hRc c1 c2 c3 (fun M2 e0 e1 i2 => hK2 v M2 i2.cm i2.ly (fun _ => e1.trans (zI_Is _ _ _ _)) e0 i2))
  · refine hK1 x M hC (fun K2 hK2 => h3 q K2 ?_)
    have i2 : INV S k (zsI M 670 0 x) := (INV.mk hC hK hR hV).thr
    exact hK2 0 _ i2.cm i2.ly (fun z => absurd z q) (zI_Is _ _ _ _) (i2.up (by omega) hk)
theorem PR_pass {S : Nat × (Nat → Int)} {k : Int} {M : ZM} (hI : INV S k M) (hk : k + 1 ≤ 1000) (ticks : Int) : PAIR S k M (fun M K => T_L_pass [zo 64, zi ticks, zo 681] M K) (fun M K => T_X9_pass [zo 670, zi ticks] M K (fun _ _ => False)) := by
  obtain ⟨G, B, n, P, c, Q, b, o, e8, e9, hC, hK, hR, hV⟩ := hI
  have hg := hR.2.2.1
  have hcr := hR.2.2.2.2.1.2.1
  have ht : c_pass ticks = 0 → 1 ≤ ticks ∧ ticks ≤ 99 := fun q => by
    unfold c_pass at q
    split at q
    · assumption
    · exact absurd q (by decide)
  refine PAIR.wrR (x := c_pass ticks) (v := sumI (fun q => LN (G 3 + ticks) (TK G q)) (G 5)) (R := fun g => LvR (G 3 + ticks) G g (sumI (fun q => LN (G 3 + ticks) (TK G q)) (G 5))) (P' := pushP P G c) (c' := pushC c) hC hK hR hV hk (by unfold c_pass; split <;> decide) (fun K h0 h1 => ?_) (fun q M1 K Gc hRc c1 k1 r1 hK9 => ?_) (fun q K hK9 => ?_)
  · exact ⟨G, P, c, ticks, rfl, hC.2.2.2.1, hK.1, hK.2.1.1, hK.2.1.2, hV.1.gv, hV.1.gx, hK.2.2.2.1, fun q M' f t1 q1 => (match t1 with | ⟨g, hl, t2⟩ => h0 q M' g hl (hC.fr f (by unfold SCw; omega) (by unfold SCw; omega) (by unfold SCw; omega)) (hK.w f t2 (hV.1.lv hk (ht q) hl).gi q1) (hR.fr f (fun j j0 j1 => by unfold SCw; omega))), (fun q => by have z := h1 (by rw [q]; decide); rw [q] at z; exact z)⟩
  · have e1 := r1.2.2.1
    refine ⟨P, c, ticks, rfl, r1.1, r1.2.1, by rw [e1]; exact hV.1.gi, by rw [e1]; exact hV.1.gv, by rw [e1]; exact hV.1.gx, r1.2.2.2.2.1, fun q' M2 n2 f hf z0 hl hh => ?_, fun q' => absurd q q'⟩
    rw [e1] at hl hh
    obtain ⟨he, hn⟩ := hRc.et hl hV.1.gi
    rw [hn]
    exact hK9 M2 z0 (c1.e59 f SYw_59) (INV.we c1 k1 r1 f hf he hh (hV.w hk (hV.1.lv hk (ht q) hRc) hcr))
  · exact ⟨P, c, ticks, rfl, hR.1, hR.2.1, by rw [hg]; exact hV.1.gi, by rw [hg]; exact hV.1.gv, by rw [hg]; exact hV.1.gx, hR.2.2.2.2.1, fun q' => absurd q' q, fun q' => hK9⟩
theorem PR_setAside {S : Nat × (Nat → Int)} {k : Int} {M : ZM} (hI : INV S k M) (hk : k + 1 ≤ 1000) (r : Int) : PAIR S k M (fun M K => T_L_setAside [zo 64, zi r, zo 681] M K) (fun M K => T_X9_setAside [zo 670, zi r] M K (fun _ _ => False)) := by
  obtain ⟨G, B, n, P, c, Q, b, o, e8, e9, hC, hK, hR, hV⟩ := hI
  have hg := hR.2.2.1
  have hcr := hR.2.2.2.2.1.2.1
  have hc0 : c_setAside G r = 0 → (0 ≤ r ∧ r < G 5) ∧ (G (132 + 16 * r + 1).toNat) < 2 := fun q => by
    unfold c_setAside at q
    (repeat' split at q) <;> first | (exfalso; omega) | exact ⟨by omega, by assumption⟩
  obtain ⟨g, m, hA⟩ : ∃ (g : Gm) (m : Int), c_setAside G r = 0 → SetA G r g m := by
    by_cases z : c_setAside G r = 0
    · obtain ⟨g, m, h9⟩ := SetA_ex (hV.1.gi.2.2 r (hc0 z).1.1 (hc0 z).1.2)
      exact ⟨g, m, fun _ => h9⟩
    · exact ⟨G, 0, fun q => absurd q z⟩
  have hiv : c_setAside G r = 0 → IV (k + 1) g := fun q => (hV.1.setA (hc0 q).1 (hc0 q).2 (hA q)).up (by omega) hk
  refine PAIR.wr (x := c_setAside G r) (v := m) (Gc := g) (B' := B) (n' := n) (P' := pushP P G c) (c' := pushC c) (Q' := Q) (b' := b) (o' := o) hC hK hR hV hk (by unfold c_setAside; (repeat' split) <;> decide) (fun K h0 h1 => ?_) (fun q M1 K c1 k1 r1 hK9 => ?_) (fun q K hK9 => ?_)
  · exact ⟨G, g, P, c, m, r, rfl, hC.2.2.2.1, hK.1, hK.2.1.1, hK.2.1.2, hV.1.gv, hV.1.gx, hK.2.2.2.1, hA, fun q M' f t1 q1 => h0 q M' (hC.fr f (by unfold SCw; omega) (by unfold SCw; omega) (by unfold SCw; omega)) (hK.w f t1 (hiv q).gi q1) (hR.fr f (fun j j0 j1 => by unfold SCw; omega)), (fun q => by have z := h1 (by rw [q]; decide); rw [q] at z; exact z), (fun q => by have z := h1 (by rw [q]; decide); rw [q] at z; exact z)⟩
  · have e1 := r1.2.2.1
    refine ⟨P, c, r, rfl, r1.1, r1.2.1, by rw [e1]; exact hV.1.gi, r1.2.2.2.2.1, fun q' M2 n2 f hf z0 hl hh => ?_, fun q' => absurd q (by rw [← e1]; exact q')⟩
    rw [e1] at hl hh
    obtain ⟨he, hn⟩ := (hA q).et hl hV.1.gi (hc0 q).1
    rw [hn]
    exact hK9 M2 z0 (c1.e59 f SYw_59) (INV.we c1 k1 r1 f hf he hh (hV.w hk (hiv q) hcr))
  · subst hg
    exact ⟨P, c, r, rfl, hR.1, hR.2.1, hV.1.gi, hR.2.2.2.2.1, fun q' => absurd q' q, fun q' => hK9⟩
theorem PR_audit {S : Nat × (Nat → Int)} {k : Int} {M : ZM} (hI : INV S k M) (hk : k + 1 ≤ 1000) (r x : Int) : PAIR S k M (fun M K => T_L_audit [zo 64, zi r, zi x, zo 681] M K) (fun M K => T_X9_audit [zo 670, zi r, zi x] M K (fun _ _ => False)) := by
  obtain ⟨G, B, n, P, c, Q, b, o, e8, e9, hC, hK, hR, hV⟩ := hI
  have hg := hR.2.2.1
  have hcr := hR.2.2.2.2.1.2.1
  have hc0 : c_audit G r x = 0 → (0 ≤ r ∧ r < G 5) ∧ (G (132 + 16 * r + 1).toNat) = 2 := fun q => by
    unfold c_audit at q
    (repeat' split at q) <;> first | (exfalso; omega) | exact ⟨by omega, by omega⟩
  obtain ⟨p, q9, hB⟩ : ∃ p q9 : Int, 0 ≤ r → r < G 5 → (G (132 + 16 * r + 1).toNat) = 2 → BYp G r p q9 := by
    by_cases z : (0 ≤ r ∧ r < G 5) ∧ (G (132 + 16 * r + 1).toNat) = 2
    · obtain ⟨p, q9, h9⟩ := hV.1.by z.1.1 z.1.2 z.2
      exact ⟨p, q9, fun _ _ _ => h9⟩
    · exact ⟨0, 0, fun a b' c' => absurd ⟨⟨a, b'⟩, c'⟩ z⟩
  have hiv : c_audit G r x = 0 → IV (k + 1) (F_audit G r x p q9) := fun q => hV.1.aud hk q (hB (hc0 q).1.1 (hc0 q).1.2 (hc0 q).2)
  refine PAIR.wr (x := c_audit G r x) (v := b2i (v_audit G r x)) (Gc := F_audit G r x p q9) (B' := B) (n' := n) (P' := pushP P G c) (c' := pushC c) (Q' := Q) (b' := b) (o' := o) hC hK hR hV hk (by unfold c_audit; (repeat' split) <;> decide) (fun K h0 h1 => ?_) (fun q M1 K c1 k1 r1 hK9 => ?_) (fun q K hK9 => ?_)
  · exact ⟨G, P, c, p, q9, r, x, rfl, hC.2.2.2.1, hK.1, hK.2.1.1, hK.2.1.2, hV.1.gv, hV.1.gx, hK.2.2.2.1, hB, fun q M' f t1 q1 => h0 q M' (hC.fr f (by unfold SCw; omega) (by unfold SCw; omega) (by unfold SCw; omega)) (hK.w f t1 (hiv q).gi q1) (hR.fr f (fun j j0 j1 => by unfold SCw; omega)), (fun q => by have z := h1 (by rw [q]; decide); rw [q] at z; exact z), (fun q => by have z := h1 (by rw [q]; decide); rw [q] at z; exact z), (fun q => by have z := h1 (by rw [q]; decide); rw [q] at z; exact z)⟩
  · have e1 := r1.2.2.1
    subst e1
    exact ⟨P, c, r, x, p, q9, rfl, r1.1, r1.2.1, hV.1.gi, hV.1.gv, hV.1.gx, r1.2.2.2.2.1, hB, fun q' M2 f hf z0 hg2 hh => hK9 M2 z0 (c1.e59 f SYw_59) (INV.w c1 k1 r1 f hf hg2 hh (hV.w hk (hiv q) hcr)), fun q' => absurd q q'⟩
  · subst hg
    exact ⟨P, c, r, x, p, q9, rfl, hR.1, hR.2.1, hV.1.gi, hV.1.gv, hV.1.gx, hR.2.2.2.2.1, hB, fun q' => absurd q' q, fun q' => hK9⟩
theorem CSd.ob {S : Nat × (Nat → Int)} {M : ZM} {G B : Gm} {n : Int} {P : Int → Gm} {c : Int} {Q : Int → Gm} {b : Int → Int} {o : List Int} {e8 e9 : Int} (hC : CMd S M) (h : CSd M G B n P c Q b o e8 e9) : OB0 M := by
  obtain ⟨cap, hS⟩ := h.2.2.2.2.2.1
  exact ⟨by have := h.2.2.2.2.2.2.1; omega, Nat.le_trans (by decide) hC.2.2.1, cap, o, hS⟩
theorem CSd.oc {S : Nat × (Nat → Int)} {M M' : ZM} {o' : List Int} {cp : Nat} {G B : Gm} {n : Int} {P : Int → Gm} {c : Int} {Q : Int → Gm} {b : Int → Int} {o : List Int} {e8 e9 : Int} (hC : CMd S M) (h : CSd M G B n P c Q b o e8 e9) (h9 : OC M M' cp o') : CSd M' G B n P c Q b o' e8 e9 := by
  have f := h9.fr
  obtain ⟨hL, ⟨hT, hG⟩, hI, hR, hQ, -, hv, h8, h9'⟩ := h
  have ns : ∀ j, j < 668 → ¬ SOC j := fun j a => by unfold SOC; omega
  have e64 : zI M' 64 = zI M 64 := f.i hL.w (ns _ (by omega))
  refine ⟨hL.fr f, ⟨hT.fr9 hL.tab f hG (fun j j0 j1 => ns j (by omega)), hG⟩, hI.fr hL f (ns _ (by omega)) ⟨ns _ (by omega), ns _ (by omega), ns _ (by omega)⟩, hR.fr hL f (fun j j0 j1 => ns j (by omega)), hQ.fr hL f (fun j j0 j1 => ns j (by omega)), ⟨cp, h9.2.2⟩, ?_, by rw [e64]; exact h8, by rw [e64]; exact h9'⟩
  have h61 := hC.2.2.1
  rcases h9.2.1.2.1 with q | q
  · rw [q]; exact hv
  · right; omega
theorem RSd.o9 {M M' : ZM} {o' : List Int} {G B : Gm} {n : Int} {P : Int → Gm} {c : Int} {Q : Int → Gm} {b : Int → Int} {o : List Int} {e8 e9 : Int} (h : RSd M G B n P c Q b o e8 e9) (f : Fr SOut M M') (hf : ∀ f, f ≠ 0 → f ≠ 21 → zI M' 670 f = zI M 670 f) (hO : ROut M' o') : RSd M' G B n P c Q b o' e8 e9 :=
  h.w9 f ((f.i h.1.a1 (by unfold SOut; omega)).trans h.2.2.1) (h.2.2.2.1.k h.1 f (by unfold SOut; omega) (hf 6 (by decide) (by decide))) (h.2.2.2.2.1.fr h.1 f (by unfold SOut; omega) (hf 19 (by decide) (by decide))) (h.2.2.2.2.2.1.k h.1 f (by unfold SOut; omega) (by unfold SOut; omega)) hO ((hf 12 (by decide) (by decide)).trans h.2.2.2.2.2.2.2.1) ((hf 13 (by decide) (by decide)).trans h.2.2.2.2.2.2.2.2)
theorem INV.o9 {S : Nat × (Nat → Int)} {k : Int} {M M' : ZM} {o' : List Int} {G B : Gm} {n : Int} {P : Int → Gm} {c : Int} {Q : Int → Gm} {b : Int → Int} {o : List Int} {e8 e9 : Int} (hC : CMd S M) (hK : CSd M G B n P c Q b o' e8 e9) (hR : RSd M G B n P c Q b o e8 e9) (hV : IVd k G P c Q b o) (ha : asc o') (hk : k + 1 ≤ 1000) (f : Fr SOut M M') (hf : ∀ f, f ≠ 0 → f ≠ 21 → zI M' 670 f = zI M 670 f) (hO : ROut M' o') : INV S (k + 1) M' := by
  have hu := hV.up (show k ≤ k + 1 by omega) hk
  exact INV.mk (hC.fr f (by unfold SOut; omega) (by unfold SOut; omega) (by unfold SOut; omega)) (hK.fr f (fun j hj => by unfold SOut; omega)) (hR.o9 f hf hO) ⟨hu.1, hu.2.1, hu.2.2.1, ha⟩
theorem PR_writeRows {S : Nat × (Nat → Int)} {k : Int} {M : ZM} (hI : INV S k M) (hk : k + 1 ≤ 1000) : PAIR0 S k M (fun M K => T_X8_writeRows [zo 64] M K (fun _ _ => False)) (fun M K => T_X9_writeRows [zo 670] M K (fun _ _ => False)) := by
  obtain ⟨G, B, n, P, c, Q, b, o, e8, e9, hC, hK, hR, hV⟩ := hI
  intro K1 hK1
  refine ⟨G, rfl, ⟨hK.1, hK.2.1.1, hC.2.1, hV.1.gi, hV.1.gv, hV.1.gx⟩, hK.ob hC, fun M' h9 => ?_⟩
  obtain ⟨cp, h9⟩ := h9
  have f := h9.fr
  have c1 : CMd S M' := hC.fr f (by unfold SOC; omega) (by unfold SOC; omega) (by unfold SOC; omega)
  have k1 := hK.oc hC h9
  have r1 := hR.fr f (fun j j0 j1 => by unfold SOC; omega)
  exact hK1 _ M' c1 r1.1 (fun K2 hK2 => ⟨G, rfl, r1.1, r1.2.1, r1.2.2.1, hV.1.gi, hV.1.gv, hV.1.gx, fun M2 f2 hf z0 hO => hK2 M2 (INV.o9 c1 k1 r1 hV (asc_txs (asc_row G) _ hV.1.gi.2.1.1) hk f2 hf hO)⟩)
theorem PR_writeWorkers {S : Nat × (Nat → Int)} {k : Int} {M : ZM} (hI : INV S k M) (hk : k + 1 ≤ 1000) : PAIR0 S k M (fun M K => T_X8_writeWorkers [zo 64] M K (fun _ _ => False)) (fun M K => T_X9_writeWorkers [zo 670] M K (fun _ _ => False)) := by
  obtain ⟨G, B, n, P, c, Q, b, o, e8, e9, hC, hK, hR, hV⟩ := hI
  intro K1 hK1
  refine ⟨G, rfl, ⟨hK.1, hK.2.1.1, hC.2.1, hV.1.gi, hV.1.gv, hV.1.gx⟩, hK.ob hC, fun M' h9 => ?_⟩
  obtain ⟨cp, h9⟩ := h9
  have f := h9.fr
  have c1 : CMd S M' := hC.fr f (by unfold SOC; omega) (by unfold SOC; omega) (by unfold SOC; omega)
  have k1 := hK.oc hC h9
  have r1 := hR.fr f (fun j j0 j1 => by unfold SOC; omega)
  exact hK1 _ M' c1 r1.1 (fun K2 hK2 => ⟨G, rfl, r1.1, r1.2.1, r1.2.2.1, hV.1.gi, hV.1.gv, hV.1.gx, hV.1.nm, fun M2 f2 hf z0 hO => hK2 M2 (INV.o9 c1 k1 r1 hV (asc_txs (asc_wk G) _ hV.1.gi.1.1) hk f2 hf hO)⟩)
theorem PR_writeRow {S : Nat × (Nat → Int)} {k : Int} {M : ZM} (hI : INV S k M) (hk : k + 1 ≤ 1000) (r : Int) : PAIR S k M (fun M K => T_L_writeRow [zo 64, zi r, zo 681] M K) (fun M K => T_X9_writeRow [zo 670, zi r] M K (fun _ _ => False)) := by
  obtain ⟨G, B, n, P, c, Q, b, o, e8, e9, hC, hK, hR, hV⟩ := hI
  have hg := hR.2.2.1
  refine PAIR.wr (x := if 0 ≤ r ∧ r < G 5 then 0 else 1) (v := ((txs (tkTx G r) (G (132 + 16 * r + 6).toNat)).length : Int)) (Gc := G) (B' := B) (n' := n) (P' := P) (c' := c) (Q' := Q) (b' := b) (o' := txs (tkTx G r) (G (132 + 16 * r + 6).toNat)) hC hK hR hV hk (by split <;> decide) (fun K h0 h1 => ?_) (fun q M1 K c1 k1 r1 hK9 => ?_) (fun q K hK9 => ?_)
  · refine ⟨G, r, rfl, hC.2.2.2.1, ⟨hK.1, hK.2.1.1, hC.2.1, hV.1.gi, hV.1.gv, hV.1.gx⟩, hK.ob hC, fun q M' h9 => ?_, fun q => ?_⟩
    · obtain ⟨cp, h9⟩ := h9
      have f := h9.fr
      exact h0 (if_pos q) M' (hC.fr f (by unfold SOC; omega) (by unfold SOC; omega) (by unfold SOC; omega)) (hK.oc hC h9) (hR.fr f (fun j j0 j1 => by unfold SOC; omega))
    · have z := h1 (by rw [if_neg q]; decide)
      rw [if_neg q] at z
      exact z
  · have hq : 0 ≤ r ∧ r < G 5 := by
      by_cases z : 0 ≤ r ∧ r < G 5
      · exact z
      · rw [if_neg z] at q; exact absurd q (by decide)
    exact ⟨G, r, rfl, r1.1, r1.2.1, r1.2.2.1, hV.1.gi, hV.1.gv, hV.1.gx, hV.1.nm, fun _ M2 f2 hf z0 hO => hK9 M2 z0 (c1.e59 f2 (by unfold SOut; omega)) (INV.o9 c1 k1 r1 hV (asc_txs (asc_tk G r) _ (hV.1.gi.2.2 r hq.1 hq.2).2.1.1) hk f2 hf hO), fun z => absurd hq z⟩
  · have hq : ¬ (0 ≤ r ∧ r < G 5) := fun z => q (if_pos z)
    rw [if_neg hq] at hK9
    exact ⟨G, r, rfl, hR.1, hR.2.1, hg, hV.1.gi, hV.1.gv, hV.1.gx, hV.1.nm, fun z => absurd z hq, fun _ => hK9⟩
/-- the two that answer broken numbers -/
def PAIRA (S : Nat × (Nat → Int)) (k : Int) (M : ZM) (TL TRf : ZM → ZRet → Prop) : Prop := ∀ K1 : ZRet, (∀ (c : Int) (M1 : ZM), CMd S M1 → (∀ K2 : ZRet, (∀ (v : UInt32) (M2 : ZM), CMd S M2 → LY M2 → (c = 0 → zI M2 682 0 = ((FP.f2d v).toNat : Int)) → (vf_n64 (FP.f2d v) ∧ (Op.cmpValue (FP.dcmp (FP.f2d v) (FP.f2d v)) .l).toInt = 0) → zI M2 670 0 = c → INV S (k + 1) M2 → K2 (some (zf v)) M2) → TRf M1 K2) → K1 (some (zi c)) M1) → TL M K1
theorem PR_accuracy {S : Nat × (Nat → Int)} {k : Int} {M : ZM} (hI : INV S k M) (hk : k + 1 ≤ 1000) (w : Int) : PAIRA S k M (fun M K => T_L_accuracy [zo 64, zi w, zo 682] M K) (fun M K => T_X9_accuracy [zo 670, zi w] M K (fun _ _ => False)) := by
  obtain ⟨G, B, n, P, c, Q, b, o, e8, e9, hC, hK, hR, hV⟩ := hI
  have hg := hR.2.2.1
  intro K1 hK1
  have fin : ∀ M1 : ZM, CMd S M1 → CSd M1 G B n P c Q b o e8 e9 → RSd M1 G B n P c Q b o e8 e9 → (c_accuracy G w = 0 → zI M1 682 0 = ((FP.f2d (v_accuracy G w)).toNat : Int)) → K1 (some (zi (c_accuracy G w))) M1 := fun M1 c1 k1 r1 eo => by
    refine hK1 _ M1 c1 (fun K2 hK2 => ⟨w, rfl, r1.1, r1.2.1, by rw [r1.2.2.1]; exact hV.1.gi, by rw [r1.2.2.1]; exact hV.1.gv, ?_⟩)
    have i2 := INV.t0 (x := c_accuracy G w) c1 k1 r1 hV hk
    rw [r1.2.2.1]
    exact hK2 _ _ i2.cm i2.ly (fun q => (congrFun (zI_In M1 0 _ (show 682 ≠ 670 by decide)) 0).trans (eo q)) (vacc_ok hV.1.gi) (zI_Is _ _ _ _) i2
  refine ⟨G, w, rfl, hC.2.2.2.2.1, hK.1, hK.2.1.1, hK.2.1.2, hV.1.gv, hV.1.gx, fun q => ?_, fun q => ?_⟩
  · have f := Fr_outd hC ((FP.f2d (v_accuracy G w)).toNat : Int)
    have h9 := fin _ (hC.fr f (by decide) (by decide) (by decide)) (hK.fr f (fun j hj => by show ¬ j = 682; omega)) (hR.fr f (fun j j0 j1 => by show ¬ j = 682; omega)) (fun _ => zI_Is _ _ _ _)
    rw [q] at h9
    exact h9
  · have h9 := fin M hC hK hR (fun z => by rw [z] at q; exact absurd q (by decide))
    rw [q] at h9
    exact h9
def PAIRM (S : Nat × (Nat → Int)) (k : Int) (M : ZM) (TL TRf : ZM → ZRet → Prop) : Prop := ∀ K1 : ZRet, (∀ (v : UInt64) (M1 : ZM), CMd S M1 → LY M1 → (Op.cmpValue (FP.dcmp v v) .l).toInt = 0 → (∀ K2 : ZRet, (∀ M2 : ZM, INV S (k + 1) M2 → K2 (some (zd v)) M2) → TRf M1 K2) → K1 (some (zd v)) M1) → TL M K1
theorem vmean_ok {G : Gm} (hG : GI G) (hV : GV G) : (Op.cmpValue (FP.dcmp (v_meanTrust G) (v_meanTrust G)) .l).toInt = 0 := by
  obtain ⟨hw5, hr5, hR5⟩ := hG
  have hvW := hV.2.2.2.2.1
  unfold v_meanTrust
  split
  · exact mean_0
  · next hz =>
    have h1 := sumI_b (f := fun w => (G (6 + 9 * w + 3).toNat)) (n := G 4) 20 hw5.1 (fun w w0 w1 => (hvW w w0 w1).2.2.1)
    have h := mean_g ⟨(sumI (fun w => (G (6 + 9 * w + 3).toNat)) (G 4)).toNat, by omega⟩ ⟨(G 4).toNat, by omega⟩
    rcases h with h | h
    · exact absurd h (by show ¬ (G 4).toNat = 0; omega)
    · rw [show (((⟨(sumI (fun w => (G (6 + 9 * w + 3).toNat)) (G 4)).toNat, by omega⟩ : Fin 121).val : Nat) : Int) = sumI (fun w => (G (6 + 9 * w + 3).toNat)) (G 4) by show (((sumI (fun w => (G (6 + 9 * w + 3).toNat)) (G 4)).toNat : Nat) : Int) = _; omega, show (((⟨(G 4).toNat, by omega⟩ : Fin 7).val : Nat) : Int) = G 4 by show (((G 4).toNat : Nat) : Int) = _; omega] at h
      exact h
theorem PR_meanTrust {S : Nat × (Nat → Int)} {k : Int} {M : ZM} (hI : INV S k M) (hk : k + 1 ≤ 1000) : PAIRM S k M (fun M K => T_X8_meanTrust [zo 64] M K (fun _ _ => False)) (fun M K => T_X9_meanTrust [zo 670] M K (fun _ _ => False)) := by
  obtain ⟨G, B, n, P, c, Q, b, o, e8, e9, hC, hK, hR, hV⟩ := hI
  have hg := hR.2.2.1
  intro K1 hK1
  refine ⟨G, rfl, hK.1, hK.2.1.1, hK.2.1.2, hV.1.gv, hV.1.gx, hK1 _ M hC hR.1 (vmean_ok hV.1.gi hV.1.gv) (fun K2 hK2 => ⟨0, rfl, hR.1, hR.2.1, by rw [hg]; exact hV.1.gi, by rw [hg]; exact hV.1.gv, ?_⟩)⟩
  rw [hg]
  exact hK2 _ (INV.t0 hC hK hR hV hk)
