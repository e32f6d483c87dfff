/-! pairs that answer truths -/
def PAIRq (Pv : Int → Prop) (S : Nat × (Nat → Int)) (k : Int) (M : ZM) (TL TRf : ZM → ZRet → Prop) : Prop := ∀ K1 : ZRet, (∀ (c : Int) (M1 : ZM), CMd S M1 → (∀ K2 : ZRet, (∀ (v : Int) (M2 : ZM), Pv v → CMd S M2 → LY M2 → (c = 0 → zI M2 681 0 = v) → zI M2 670 0 = c → INV S (k + 1) M2 → K2 (some (zi v)) M2) → TRf M1 K2) → K1 (some (zi c)) M1) → TL M K1
def v01 (v : Int) : Prop := v = 0 ∨ v = 1
theorem v01_b (b : Bool) : v01 (b2i b) := by
  cases b
  · exact Or.inl rfl
  · exact Or.inr rfl

theorem PAIRq.rd {Pv : Int → Prop} {S : Nat × (Nat → Int)} {k c v : Int} {M : ZM} {TL TRf : ZM → ZRet → Prop} (h : INV S k M) (hk : k + 1 ≤ 1000) (hc : 0 ≤ c) (hpv : Pv v)
    (h1 : ∀ K : ZRet, (c = 0 → K (some (zi 0)) (zsI M 681 0 v)) → (c ≠ 0 → K (some (zi c)) M) → TL M K)
    (h2 : ∀ (M1 : ZM) (K : ZRet), INV S k M1 → zI M1 671 = zI M 671 → K (some (zi v)) (zsI M1 670 0 c) → TRf M1 K) : PAIRq Pv S k M TL TRf := by
  intro K1 hK
  have fin : ∀ M1 : ZM, INV S k M1 → zI M1 671 = zI M 671 → (c = 0 → zI M1 681 0 = v) → K1 (some (zi c)) M1 := fun M1 i1 e1 eo => by
    refine hK c M1 i1.cm (fun K2 hK2 => ?_)
    refine h2 M1 K2 i1 e1 ?_
    have i2 : INV S k (zsI M1 670 0 c) := i1.thr
    refine hK2 v _ hpv i2.cm i2.ly (fun q => ?_) (zI_Is _ _ _ _) (i2.up (by omega) hk)
    exact (congrFun (zI_In M1 0 c (show 681 ≠ 670 by decide)) 0).trans (eo q)
  refine h1 K1 (fun q => ?_) (fun q => fin M h rfl (fun q' => absurd q' q))
  have h9 := fin (zsI M 681 0 v) h.out (zI_In M 0 v (show 671 ≠ 681 by decide)) (fun _ => zI_Is _ _ _ _)
  rw [q] at h9
  exact h9

theorem PAIRq.wr {Pv : Int → Prop} {S : Nat × (Nat → Int)} {k x v : Int} {M : ZM} {TL TRf : ZM → ZRet → Prop} {G B Gc B' : Gm} {n n' : Int} {P P' : Int → Gm} {c c' : Int} {Q Q' : Int → Gm} {b b' : Int → Int} {o o' : List Int} {e8 e9 : Int} (hC : CMd S M) (hK : CSd M G B n P c Q b o e8 e9) (hR : RSd M G B n P c Q b o e8 e9) (hV : IVd k G P c Q b o) (hk : k + 1 ≤ 1000) (hx : 0 ≤ x) (hpv : Pv v) (hp0 : Pv 0)
    (h1 : ∀ K : ZRet, (x = 0 → ∀ M', CMd S M' → CSd M' Gc B' n' P' c' Q' b' o' e8 e9 → RSd M' G B n P c Q b o e8 e9 → K (some (zi 0)) (zsI M' 681 0 v)) → (x ≠ 0 → K (some (zi x)) M) → TL M K)
    (h2 : x = 0 → ∀ (M1 : ZM) (K : ZRet), CMd S M1 → CSd M1 Gc B' n' P' c' Q' b' o' e8 e9 → RSd M1 G B n P c Q b o e8 e9 → (∀ M2, zI M2 670 0 = 0 → zI M2 681 0 = zI M1 681 0 → INV S (k + 1) M2 → K (some (zi v)) M2) → TRf M1 K)
    (h3 : x ≠ 0 → ∀ K : ZRet, K (some (zi 0)) (zsI M 670 0 x) → TRf M K) : PAIRq Pv S k M TL TRf := by
  intro K1 hK1
  refine h1 K1 (fun q M' m1 m2 m3 => ?_) (fun q => ?_)
  · have f := Fr_out m1 v
    have c1 : CMd S (zsI M' 681 0 v) := m1.fr f (by decide) (by decide) (by decide)
    have c2 := m2.fr f (fun j hj => by show ¬ j = 681; omega)
    have c3 := m3.fr f (fun j j0 j1 => by show ¬ j = 681; omega)
    have h9 := hK1 0 (zsI M' 681 0 v) c1 (fun K2 hK2 => h2 q _ K2 c1 c2 c3 (fun M2 e0 e1 i2 => hK2 v M2 hpv i2.cm i2.ly (fun _ => e1.trans (zI_Is _ _ _ _)) e0 i2))
    exact h9
  · refine hK1 x M hC (fun K2 hK2 => h3 q K2 ?_)
    have i0 : INV S k M := INV.mk hC hK hR hV
    have i2 : INV S k (zsI M 670 0 x) := i0.thr
    exact hK2 0 _ hp0 i2.cm i2.ly (fun z => absurd z q) (zI_Is _ _ _ _) (i2.up (by omega) hk)

theorem PRq_isStuck {S : Nat × (Nat → Int)} {kk : Int} {M : ZM} (hI : INV S kk M) (hk : kk + 1 ≤ 1000) (r : Int) : PAIRq v01 S kk M (fun M K => T_L_isStuck [zo 64, zi r, zo 681] M K) (fun M K => T_X9_isStuck [zo 670, zi r] M K (fun _ _ => False)) := by
  refine PAIRq.rd (c := c_isStuck (zI M 671) r) (v := (b2i (v_isStuck (zI M 671) r))) hI hk (by unfold c_isStuck; (repeat' split) <;> decide) (v01_b _) (fun K h0 h1 => ?_) (fun M1 K i1 e1 hK => ?_)
  · obtain ⟨G, B, n, P, c, Q, bb, oo, e8, e9, hC, ⟨hL, ⟨hT, hG⟩, hI9, hR9, hQ9, hS9, hv9, h8, h9⟩, ⟨hY, hA, hg, hJ9, hH9, hZ9, hO9, h18, h19⟩, ⟨hV, hHI, hSI, hAS⟩⟩ := hI
    subst hg
    exact ⟨zI M 671, r, rfl, hC.2.2.2.1, hL, hT, hG, (hV.gv), (hV.gx), h0, (fun q => by have z := h1 (by rw [q]; decide); rw [q] at z; exact z)⟩
  · obtain ⟨G, B, n, P, c, Q, bb, oo, e8, e9, hC, ⟨hL, ⟨hT, hG⟩, hI9, hR9, hQ9, hS9, hv9, h8, h9⟩, ⟨hY, hA, hg, hJ9, hH9, hZ9, hO9, h18, h19⟩, ⟨hV, hHI, hSI, hAS⟩⟩ := i1
    subst hg
    rw [← e1] at hK
    exact ⟨r, rfl, hY, hA, hG, hK⟩

theorem PRq_isBarred {S : Nat × (Nat → Int)} {kk : Int} {M : ZM} (hI : INV S kk M) (hk : kk + 1 ≤ 1000) (a b : Int) : PAIRq v01 S kk M (fun M K => T_L_isBarred [zo 64, zi a, zi b, zo 681] M K) (fun M K => T_X9_isBarred [zo 670, zi a, zi b] M K (fun _ _ => False)) := by
  refine PAIRq.rd (c := c_isBarred (zI M 671) a b) (v := (b2i (v_isBarred (zI M 671) a b))) hI hk (by unfold c_isBarred; (repeat' split) <;> decide) (v01_b _) (fun K h0 h1 => ?_) (fun M1 K i1 e1 hK => ?_)
  · obtain ⟨G, B, n, P, c, Q, bb, oo, e8, e9, hC, ⟨hL, ⟨hT, hG⟩, hI9, hR9, hQ9, hS9, hv9, h8, h9⟩, ⟨hY, hA, hg, hJ9, hH9, hZ9, hO9, h18, h19⟩, ⟨hV, hHI, hSI, hAS⟩⟩ := hI
    subst hg
    exact ⟨zI M 671, a, b, rfl, hC.2.2.2.1, hL, hT, hG, (hV.gv), (hV.gx), h0, (fun q => by have z := h1 (by rw [q]; decide); rw [q] at z; exact z)⟩
  · obtain ⟨G, B, n, P, c, Q, bb, oo, e8, e9, hC, ⟨hL, ⟨hT, hG⟩, hI9, hR9, hQ9, hS9, hv9, h8, h9⟩, ⟨hY, hA, hg, hJ9, hH9, hZ9, hO9, h18, h19⟩, ⟨hV, hHI, hSI, hAS⟩⟩ := i1
    subst hg
    rw [← e1] at hK
    exact ⟨a, b, rfl, hY, hA, hG, hK⟩

theorem PRq_bar {S : Nat × (Nat → Int)} {k : Int} {M : ZM} (hI : INV S k M) (hk : k + 1 ≤ 1000) (a b1 on : Int) : PAIRq v01 S k M (fun M K => T_L_bar [zo 64, zi a, zi b1, zi on, zo 681] M K) (fun M K => T_X9_bar [zo 670, zi a, zi b1, zi on] M K (fun _ _ => False)) := by
  obtain ⟨G, B, n, P, c, Q, b, o, e8, e9, hC, hK, hR, hV⟩ := hI
  have hg := hR.2.2.1
  have hcr := hR.2.2.2.2.1.2.1
  refine PAIRq.wr (x := c_bar G a b1 on) (v := (b2i (v_bar G a b1 on))) (Gc := F_bar G a b1 on) (B' := B) (n' := n) (P' := pushP P G c) (c' := pushC c) (Q' := Q) (b' := b) (o' := o) hC hK hR hV hk (by unfold c_bar; (repeat' split) <;> decide) (v01_b _) (Or.inl rfl) (fun K h0 h1 => ?_) (fun q M1 K c1 k1 r1 hK9 => ?_) (fun q K hK9 => ?_)
  · exact ⟨G, P, c, a, b1, on, rfl, hC.2.2.2.1, hK.1, hK.2.1.1, hK.2.1.2, hV.1.gv, hV.1.gx, hK.2.2.2.1, fun q M' f t1 q1 => h0 q M' (hC.fr f (by unfold SCw; omega) (by unfold SCw; omega) (by unfold SCw; omega)) (hK.w f t1 (iv_bar hV hk q).gi q1) (hR.fr f (fun j j0 j1 => by unfold SCw; omega)), (fun q => by have z := h1 (by rw [q]; decide); rw [q] at z; exact z), (fun q => by have z := h1 (by rw [q]; decide); rw [q] at z; exact z)⟩
  · have e1 := r1.2.2.1
    subst e1
    exact ⟨P, c, a, b1, on, rfl, r1.1, r1.2.1, hV.1.gi, hV.1.gv, hV.1.gx, r1.2.2.2.2.1, fun q' M2 f hf z0 hg2 hh => hK9 M2 z0 (c1.e59 f SYw_59) (INV.w c1 k1 r1 f hf hg2 hh (hV.w hk (iv_bar hV hk q) hcr)), fun q' => absurd q q'⟩
  · subst hg
    exact ⟨P, c, a, b1, on, rfl, hR.1, hR.2.1, hV.1.gi, hV.1.gv, hV.1.gx, hR.2.2.2.2.1, fun q' => absurd q' q, fun q' => hK9⟩

theorem PRq_audit {S : Nat × (Nat → Int)} {k : Int} {M : ZM} (hI : INV S k M) (hk : k + 1 ≤ 1000) (r x : Int) : PAIRq v01 S k M (fun M K => T_L_audit [zo 64, zi r, zi x, zo 681] M K) (fun M K => T_X9_audit [zo 670, zi r, zi x] M K (fun _ _ => False)) := by
  obtain ⟨G, B, n, P, c, Q, b, o, e8, e9, hC, hK, hR, hV⟩ := hI
  have hg := hR.2.2.1
  have hcr := hR.2.2.2.2.1.2.1
  have hc0 : c_audit G r x = 0 → (0 ≤ r ∧ r < G 5) ∧ (G (132 + 16 * r + 1).toNat) = 2 := fun q => by
    unfold c_audit at q
    (repeat' split at q) <;> first | (exfalso; omega) | exact ⟨by omega, by omega⟩
  obtain ⟨p, q9, hB⟩ : ∃ p q9 : Int, 0 ≤ r → r < G 5 → (G (132 + 16 * r + 1).toNat) = 2 → BYp G r p q9 := by
    by_cases z : (0 ≤ r ∧ r < G 5) ∧ (G (132 + 16 * r + 1).toNat) = 2
    · obtain ⟨p, q9, h9⟩ := hV.1.by z.1.1 z.1.2 z.2
      exact ⟨p, q9, fun _ _ _ => h9⟩
    · exact ⟨0, 0, fun a b' c' => absurd ⟨⟨a, b'⟩, c'⟩ z⟩
  have hiv : c_audit G r x = 0 → IV (k + 1) (F_audit G r x p q9) := fun q => hV.1.aud hk q (hB (hc0 q).1.1 (hc0 q).1.2 (hc0 q).2)
  refine PAIRq.wr (x := c_audit G r x) (v := b2i (v_audit G r x)) (Gc := F_audit G r x p q9) (B' := B) (n' := n) (P' := pushP P G c) (c' := pushC c) (Q' := Q) (b' := b) (o' := o) hC hK hR hV hk (by unfold c_audit; (repeat' split) <;> decide) (v01_b _) (Or.inl rfl) (fun K h0 h1 => ?_) (fun q M1 K c1 k1 r1 hK9 => ?_) (fun q K hK9 => ?_)
  · exact ⟨G, P, c, p, q9, r, x, rfl, hC.2.2.2.1, hK.1, hK.2.1.1, hK.2.1.2, hV.1.gv, hV.1.gx, hK.2.2.2.1, hB, fun q M' f t1 q1 => h0 q M' (hC.fr f (by unfold SCw; omega) (by unfold SCw; omega) (by unfold SCw; omega)) (hK.w f t1 (hiv q).gi q1) (hR.fr f (fun j j0 j1 => by unfold SCw; omega)), (fun q => by have z := h1 (by rw [q]; decide); rw [q] at z; exact z), (fun q => by have z := h1 (by rw [q]; decide); rw [q] at z; exact z), (fun q => by have z := h1 (by rw [q]; decide); rw [q] at z; exact z)⟩
  · have e1 := r1.2.2.1
    subst e1
    exact ⟨P, c, r, x, p, q9, rfl, r1.1, r1.2.1, hV.1.gi, hV.1.gv, hV.1.gx, r1.2.2.2.2.1, hB, fun q' M2 f hf z0 hg2 hh => hK9 M2 z0 (c1.e59 f SYw_59) (INV.w c1 k1 r1 f hf hg2 hh (hV.w hk (hiv q) hcr)), fun q' => absurd q q'⟩
  · subst hg
    exact ⟨P, c, r, x, p, q9, rfl, hR.1, hR.2.1, hV.1.gi, hV.1.gv, hV.1.gx, hR.2.2.2.2.1, hB, fun q' => absurd q' q, fun q' => hK9⟩

theorem zLr {Ψ : ZPhi} {pc : Nat} {L : List (Option ZV)} {st : List ZV} {M : ZM} {k n : Nat} {x y : Int} (e : y = x) (h : Ψ pc L (zl x :: st) M k n) : Ψ pc L (zl y :: st) M k n := e ▸ h
theorem zDr {Ψ : ZPhi} {pc : Nat} {L : List (Option ZV)} {st : List ZV} {M : ZM} {k n : Nat} {x y : UInt64} (e : y = x) (h : Ψ pc L (zd x :: st) M k n) : Ψ pc L (zd y :: st) M k n := e ▸ h
theorem zcmp_e {x y : Int} (h : x = y) : zcmp x y = 0 := by
  subst h
  unfold zcmp
  rw [if_neg (by omega), if_pos rfl]
theorem zd_back {x : Int} {v : UInt64} (h : x = (v.toNat : Int)) : UInt64.ofNat x.toNat = v := by
  rw [h, Int.toNat_natCast, UInt64.ofNat_toNat]
