/-! pairs of calls: those that change the table -/
theorem CSd.w {M M' : ZM} {G G' B : Gm} {n : Int} {P P' : Int → Gm} {c c' : Int} {Q : Int → Gm} {b : Int → Int} {o : List Int} {e8 e9 : Int} (h : CSd M G B n P c Q b o e8 e9) (f : Fr SCw M M') (hT : TR M' 129 G') (hG : GI G') (hR : RQ M' P' c') : CSd M' G' B n P' c' Q b o e8 e9 := by
  obtain ⟨hL, -, hI, -, hQ, ⟨cap, hS⟩, hv, h8, h9⟩ := h
  have ns : ∀ j, (64 ≤ j ∧ j < 129) ∨ (544 ≤ j ∧ j < 664) ∨ 668 ≤ j → ¬ SCw j := fun j hj => by unfold SCw; omega
  have s9 := hS.fr9 f (ns _ (by omega)) (ns _ (by omega))
  have e64 : zI M' 64 = zI M 64 := f.i hL.w (ns _ (by omega))
  exact ⟨hL.fr f, ⟨hT, hG⟩, hI.fr hL f (ns _ (by omega)) ⟨ns _ (by omega), ns _ (by omega), ns _ (by omega)⟩, hR, hQ.fr hL f (fun j j0 j1 => ns j (by omega)), ⟨cap, s9.1⟩, by rw [s9.2]; exact hv, by rw [e64]; exact h8, by rw [e64]; exact h9⟩
theorem RSd.w {M M' : ZM} {G G' B : Gm} {n : Int} {P P' : Int → Gm} {c c' : Int} {Q : Int → Gm} {b : Int → Int} {o : List Int} {e8 e9 : Int} (h : RSd M G B n P c Q b o e8 e9) (f : Fr SYw M M') (hf : ∀ f, f ≠ 0 → f ≠ 19 → zI M' 670 f = zI M 670 f) (hg' : zI M' 671 = G') (hR : RH M' P' c') : RSd M' G' B n P' c' Q b o e8 e9 := by
  obtain ⟨hY, hA, hg, hI, hH, hS, hO, h8, h9⟩ := h
  have ns : ∀ j, 672 ≤ j ∧ j ≤ 678 ∨ j = 680 → ¬ SYw j := fun j hj => by unfold SYw; omega
  have e52 : zI M' 674 = zI M 674 := f.i hY.a5 (ns _ (by omega))
  have e55 : zI M' 677 = zI M 677 := f.i hY.a16 (ns _ (by omega))
  have e56 : zI M' 678 = zI M 678 := f.i hY.a17 (ns _ (by omega))
  have e58 : zI M' 680 = zI M 680 := f.i hY.a20 (ns _ (by omega))
  refine ⟨hY.fr f, hA.fr hY f, hg', ?_, hR, ?_, ?_, (hf 12 (by decide) (by decide)).trans h8, (hf 13 (by decide) (by decide)).trans h9⟩
  · unfold RIn at hI ⊢; rw [hf 6 (by decide) (by decide), e52]; exact hI
  · unfold RS at hS ⊢; rw [e55, e56]; exact hS
  · unfold ROut at hO ⊢; rw [hf 21 (by decide) (by decide), e58]; exact hO
theorem IVd.w {k : Int} {G G' : Gm} {P : Int → Gm} {c : Int} {Q : Int → Gm} {b : Int → Int} {o : List Int} (h : IVd k G P c Q b o) (hk : k + 1 ≤ 1000) (hV : IV (k + 1) G') (hc : 0 ≤ c ∧ c ≤ 6) : IVd (k + 1) G' (pushP P G c) (pushC c) Q b o := by
  have h9 := h.up (show k ≤ k + 1 by omega) hk
  exact ⟨hV, h9.2.1.push h9.1 hc, h9.2.2⟩
/-- for calls that change something; Gc: the table on the class's side -/
theorem PAIR.wr {S : Nat × (Nat → Int)} {k x v : Int} {M : ZM} {TL TRf : ZM → ZRet → Prop} {G B Gc B' : Gm} {n n' : Int} {P P' : Int → Gm} {c c' : Int} {Q Q' : Int → Gm} {b b' : Int → Int} {o o' : List Int} {e8 e9 : Int} (hC : CMd S M) (hK : CSd M G B n P c Q b o e8 e9) (hR : RSd M G B n P c Q b o e8 e9) (hV : IVd k G P c Q b o) (hk : k + 1 ≤ 1000) (hx : 0 ≤ x)
    (h1 : ∀ K : ZRet, (x = 0 → ∀ M', CMd S M' → CSd M' Gc B' n' P' c' Q' b' o' e8 e9 → RSd M' G B n P c Q b o e8 e9 → K (some (zi 0)) (zsI M' 681 0 v)) → (x ≠ 0 → K (some (zi x)) M) → TL M K)
    (h2 : x = 0 → ∀ (M1 : ZM) (K : ZRet), CMd S M1 → CSd M1 Gc B' n' P' c' Q' b' o' e8 e9 → RSd M1 G B n P c Q b o e8 e9 → (∀ M2, zI M2 670 0 = 0 → zI M2 681 0 = zI M1 681 0 → INV S (k + 1) M2 → K (some (zi v)) M2) → TRf M1 K)
    (h3 : x ≠ 0 → ∀ K : ZRet, K (some (zi 0)) (zsI M 670 0 x) → TRf M K) : PAIR S k M TL TRf := by
  intro K1 hK1
  refine h1 K1 (fun q M' m1 m2 m3 => ?_) (fun q => ?_)
  · have f := Fr_out m1 v
    have c1 : CMd S (zsI M' 681 0 v) := m1.fr f (by decide) (by decide) (by decide)
    have c2 := m2.fr f (fun j hj => by show ¬ j = 681; omega)
    have c3 := m3.fr f (fun j j0 j1 => by show ¬ j = 681; omega)
    have h9 := hK1 0 (zsI M' 681 0 v) c1 (fun K2 hK2 => h2 q _ K2 c1 c2 c3 (fun M2 e0 e1 i2 => hK2 v M2 i2.cm i2.ly (fun _ => e1.trans (zI_Is _ _ _ _)) e0 i2))
    exact h9
  · refine hK1 x M hC (fun K2 hK2 => h3 q K2 ?_)
    have i0 : INV S k M := INV.mk hC hK hR hV
    have i2 : INV S k (zsI M 670 0 x) := i0.thr
    exact hK2 0 _ i2.cm i2.ly (fun z => absurd z q) (zI_Is _ _ _ _) (i2.up (by omega) hk)
theorem SYw_59 : ¬ SYw 681 := by unfold SYw; omega
theorem CMd.e59 {T : Nat → Prop} {S : Nat × (Nat → Int)} {M M' : ZM} (h : CMd S M) (f : Fr T M M') (hT : ¬ T 681) : zI M' 681 0 = zI M 681 0 := congrFun (f.i h.2.2.2.1.1 hT) 0
/-- the reference has made its change -/
theorem INV.w {S : Nat × (Nat → Int)} {k : Int} {M1 M2 : ZM} {G G' B : Gm} {n : Int} {P P' : Int → Gm} {c c' : Int} {Q : Int → Gm} {b : Int → Int} {o : List Int} {e8 e9 : Int} (hC : CMd S M1) (hK : CSd M1 G' B n P' c' Q b o e8 e9) (hR : RSd M1 G B n P c Q b o e8 e9) (f : Fr SYw M1 M2) (hf : ∀ f, f ≠ 0 → f ≠ 19 → zI M2 670 f = zI M1 670 f) (hg' : zI M2 671 = G') (hH : RH M2 P' c') (hV : IVd k G' P' c' Q b o) : INV S k M2 :=
  INV.mk (hC.fr f (by unfold SYw; omega) (by unfold SYw; omega) (by unfold SYw; omega)) (hK.fr f (fun j hj => by unfold SYw; omega)) (hR.w f hf hg' hH) hV

theorem iv_take {k : Int} {G : Gm} {P : Int → Gm} {c : Int} {Q : Int → Gm} {b : Int → Int} {o : List Int} {w : Int} (hV : IVd k G P c Q b o) (hk9 : k + 1 ≤ 1000) (hc0 : c_take G w = 0) : IV (k + 1) (F_take G w) := by
  have hc1 := hc0
  unfold c_take at hc1
  (repeat' split at hc1) <;> first | (exfalso; omega) | exact IV.tk hV.1 hk9 ⟨by omega, by omega⟩ (by omega)

theorem PR_take {S : Nat × (Nat → Int)} {k : Int} {M : ZM} (hI : INV S k M) (hk : k + 1 ≤ 1000) (w : Int) : PAIR S k M (fun M K => T_L_take [zo 64, zi w, zo 681] M K) (fun M K => T_X9_take [zo 670, zi w] M K (fun _ _ => False)) := by
  obtain ⟨G, B, n, P, c, Q, b, o, e8, e9, hC, hK, hR, hV⟩ := hI
  have hg := hR.2.2.1
  have hcr := hR.2.2.2.2.1.2.1
  refine PAIR.wr (x := c_take G w) (v := (v_take G w)) (Gc := F_take G w) (B' := B) (n' := n) (P' := pushP P G c) (c' := pushC c) (Q' := Q) (b' := b) (o' := o) hC hK hR hV hk (by unfold c_take; (repeat' split) <;> decide) (fun K h0 h1 => ?_) (fun q M1 K c1 k1 r1 hK9 => ?_) (fun q K hK9 => ?_)
  · exact ⟨G, P, c, w, rfl, hC.2.2.2.1, hK.1, hK.2.1.1, hK.2.1.2, hV.1.gv, hV.1.gx, hK.2.2.2.1, fun q M' f t1 q1 => h0 q M' (hC.fr f (by unfold SCw; omega) (by unfold SCw; omega) (by unfold SCw; omega)) (hK.w f t1 (iv_take hV hk q).gi q1) (hR.fr f (fun j j0 j1 => by unfold SCw; omega)), (fun q => by have z := h1 (by rw [q]; decide); rw [q] at z; exact z), (fun q => by have z := h1 (by rw [q]; decide); rw [q] at z; exact z)⟩
  · have e1 := r1.2.2.1
    subst e1
    exact ⟨P, c, w, rfl, r1.1, r1.2.1, hV.1.gi, hV.1.gv, hV.1.gx, r1.2.2.2.2.1, fun q' M2 f hf z0 hg2 hh => hK9 M2 z0 (c1.e59 f SYw_59) (INV.w c1 k1 r1 f hf hg2 hh (hV.w hk (iv_take hV hk q) hcr)), fun q' => absurd q q'⟩
  · subst hg
    exact ⟨P, c, w, rfl, hR.1, hR.2.1, hV.1.gi, hV.1.gv, hV.1.gx, hR.2.2.2.2.1, fun q' => absurd q' q, fun q' => hK9⟩

theorem iv_takeRow {k : Int} {G : Gm} {P : Int → Gm} {c : Int} {Q : Int → Gm} {b : Int → Int} {o : List Int} {w r : Int} (hV : IVd k G P c Q b o) (hk9 : k + 1 ≤ 1000) (hc0 : c_takeRow G w r = 0) : IV (k + 1) (F_takeRow G w r) := by
  have hc1 := hc0
  unfold c_takeRow at hc1
  (repeat' split at hc1) <;> first | (exfalso; omega) | exact IV.take hV.1 hk9 ⟨by omega, by omega⟩ ⟨by omega, by omega⟩ (by omega)

theorem PR_takeRow {S : Nat × (Nat → Int)} {k : Int} {M : ZM} (hI : INV S k M) (hk : k + 1 ≤ 1000) (w r : Int) : PAIR S k M (fun M K => T_L_takeRow [zo 64, zi w, zi r, zo 681] M K) (fun M K => T_X9_takeRow [zo 670, zi w, zi r] M K (fun _ _ => False)) := by
  obtain ⟨G, B, n, P, c, Q, b, o, e8, e9, hC, hK, hR, hV⟩ := hI
  have hg := hR.2.2.1
  have hcr := hR.2.2.2.2.1.2.1
  refine PAIR.wr (x := c_takeRow G w r) (v := (v_takeRow G w r)) (Gc := F_takeRow G w r) (B' := B) (n' := n) (P' := pushP P G c) (c' := pushC c) (Q' := Q) (b' := b) (o' := o) hC hK hR hV hk (by unfold c_takeRow; (repeat' split) <;> decide) (fun K h0 h1 => ?_) (fun q M1 K c1 k1 r1 hK9 => ?_) (fun q K hK9 => ?_)
  · exact ⟨G, P, c, w, r, rfl, hC.2.2.2.1, hK.1, hK.2.1.1, hK.2.1.2, hV.1.gv, hV.1.gx, hK.2.2.2.1, fun q M' f t1 q1 => h0 q M' (hC.fr f (by unfold SCw; omega) (by unfold SCw; omega) (by unfold SCw; omega)) (hK.w f t1 (iv_takeRow hV hk q).gi q1) (hR.fr f (fun j j0 j1 => by unfold SCw; omega)), (fun q => by have z := h1 (by rw [q]; decide); rw [q] at z; exact z), (fun q => by have z := h1 (by rw [q]; decide); rw [q] at z; exact z)⟩
  · have e1 := r1.2.2.1
    subst e1
    exact ⟨P, c, w, r, rfl, r1.1, r1.2.1, hV.1.gi, hV.1.gv, hV.1.gx, r1.2.2.2.2.1, fun q' M2 f hf z0 hg2 hh => hK9 M2 z0 (c1.e59 f SYw_59) (INV.w c1 k1 r1 f hf hg2 hh (hV.w hk (iv_takeRow hV hk q) hcr)), fun q' => absurd q q'⟩
  · subst hg
    exact ⟨P, c, w, r, rfl, hR.1, hR.2.1, hV.1.gi, hV.1.gv, hV.1.gx, hR.2.2.2.2.1, fun q' => absurd q' q, fun q' => hK9⟩

theorem iv_deliver {k : Int} {G : Gm} {P : Int → Gm} {c : Int} {Q : Int → Gm} {b : Int → Int} {o : List Int} {w r x : Int} (hV : IVd k G P c Q b o) (hk9 : k + 1 ≤ 1000) (hc0 : c_deliver G w r x = 0) : IV (k + 1) (F_deliver G w r x) := by
  have hc1 := hc0
  unfold c_deliver at hc1
  (repeat' split at hc1) <;> first | (exfalso; omega) | exact IV.del hV.1 hk9 ⟨by omega, by omega⟩ ⟨by omega, by omega⟩ ⟨by omega, by omega⟩ (by assumption)

theorem PR_deliver {S : Nat × (Nat → Int)} {k : Int} {M : ZM} (hI : INV S k M) (hk : k + 1 ≤ 1000) (w r x : Int) : PAIR S k M (fun M K => T_L_deliver [zo 64, zi w, zi r, zi x, zo 681] M K) (fun M K => T_X9_deliver [zo 670, zi w, zi r, zi x] M K (fun _ _ => False)) := by
  obtain ⟨G, B, n, P, c, Q, b, o, e8, e9, hC, hK, hR, hV⟩ := hI
  have hg := hR.2.2.1
  have hcr := hR.2.2.2.2.1.2.1
  refine PAIR.wr (x := c_deliver G w r x) (v := (v_deliver G w r x)) (Gc := F_deliver G w r x) (B' := B) (n' := n) (P' := pushP P G c) (c' := pushC c) (Q' := Q) (b' := b) (o' := o) hC hK hR hV hk (by unfold c_deliver; (repeat' split) <;> decide) (fun K h0 h1 => ?_) (fun q M1 K c1 k1 r1 hK9 => ?_) (fun q K hK9 => ?_)
  · exact ⟨G, P, c, w, r, x, rfl, hC.2.2.2.1, hK.1, hK.2.1.1, hK.2.1.2, hV.1.gv, hV.1.gx, hK.2.2.2.1, fun q M' f t1 q1 => h0 q M' (hC.fr f (by unfold SCw; omega) (by unfold SCw; omega) (by unfold SCw; omega)) (hK.w f t1 (iv_deliver hV hk q).gi q1) (hR.fr f (fun j j0 j1 => by unfold SCw; omega)), (fun q => by have z := h1 (by rw [q]; decide); rw [q] at z; exact z), (fun q => by have z := h1 (by rw [q]; decide); rw [q] at z; exact z), (fun q => by have z := h1 (by rw [q]; decide); rw [q] at z; exact z)⟩
  · have e1 := r1.2.2.1
    subst e1
    exact ⟨P, c, w, r, x, rfl, r1.1, r1.2.1, hV.1.gi, hV.1.gv, hV.1.gx, r1.2.2.2.2.1, fun q' M2 f hf z0 hg2 hh => hK9 M2 z0 (c1.e59 f SYw_59) (INV.w c1 k1 r1 f hf hg2 hh (hV.w hk (iv_deliver hV hk q) hcr)), fun q' => absurd q q'⟩
  · subst hg
    exact ⟨P, c, w, r, x, rfl, hR.1, hR.2.1, hV.1.gi, hV.1.gv, hV.1.gx, hR.2.2.2.2.1, fun q' => absurd q' q, fun q' => hK9⟩

theorem iv_pardon {k : Int} {G : Gm} {P : Int → Gm} {c : Int} {Q : Int → Gm} {b : Int → Int} {o : List Int} {w : Int} (hV : IVd k G P c Q b o) (hk9 : k + 1 ≤ 1000) (hc0 : c_pardon G w = 0) : IV (k + 1) (F_pardon G w) := by
  have hc1 := hc0
  unfold c_pardon at hc1
  (repeat' split at hc1) <;> first | (exfalso; omega) | exact (IV.pardon hV.1 ⟨by omega, by omega⟩).up (by omega) hk9

theorem PR_pardon {S : Nat × (Nat → Int)} {k : Int} {M : ZM} (hI : INV S k M) (hk : k + 1 ≤ 1000) (w : Int) : PAIR S k M (fun M K => T_L_pardon [zo 64, zi w, zo 681] M K) (fun M K => T_X9_pardon [zo 670, zi w] M K (fun _ _ => False)) := by
  obtain ⟨G, B, n, P, c, Q, b, o, e8, e9, hC, hK, hR, hV⟩ := hI
  have hg := hR.2.2.1
  have hcr := hR.2.2.2.2.1.2.1
  refine PAIR.wr (x := c_pardon G w) (v := (v_pardon G w)) (Gc := F_pardon G w) (B' := B) (n' := n) (P' := pushP P G c) (c' := pushC c) (Q' := Q) (b' := b) (o' := o) hC hK hR hV hk (by unfold c_pardon; (repeat' split) <;> decide) (fun K h0 h1 => ?_) (fun q M1 K c1 k1 r1 hK9 => ?_) (fun q K hK9 => ?_)
  · exact ⟨G, P, c, w, rfl, hC.2.2.2.1, hK.1, hK.2.1.1, hK.2.1.2, hV.1.gv, hV.1.gx, hK.2.2.2.1, fun q M' f t1 q1 => h0 q M' (hC.fr f (by unfold SCw; omega) (by unfold SCw; omega) (by unfold SCw; omega)) (hK.w f t1 (iv_pardon hV hk q).gi q1) (hR.fr f (fun j j0 j1 => by unfold SCw; omega)), (fun q => by have z := h1 (by rw [q]; decide); rw [q] at z; exact z), (fun q => by have z := h1 (by rw [q]; decide); rw [q] at z; exact z)⟩
  · have e1 := r1.2.2.1
    subst e1
    exact ⟨P, c, w, rfl, r1.1, r1.2.1, hV.1.gi, hV.1.gv, hV.1.gx, r1.2.2.2.2.1, fun q' M2 f hf z0 hg2 hh => hK9 M2 z0 (c1.e59 f SYw_59) (INV.w c1 k1 r1 f hf hg2 hh (hV.w hk (iv_pardon hV hk q) hcr)), fun q' => absurd q q'⟩
  · subst hg
    exact ⟨P, c, w, rfl, hR.1, hR.2.1, hV.1.gi, hV.1.gv, hV.1.gx, hR.2.2.2.2.1, fun q' => absurd q' q, fun q' => hK9⟩

theorem iv_bar {k : Int} {G : Gm} {P : Int → Gm} {c : Int} {Q : Int → Gm} {b : Int → Int} {o : List Int} {a b1 on : Int} (hV : IVd k G P c Q b o) (hk9 : k + 1 ≤ 1000) (hc0 : c_bar G a b1 on = 0) : IV (k + 1) (F_bar G a b1 on) := by
  have hc1 := hc0
  unfold c_bar at hc1
  (repeat' split at hc1) <;> first | (exfalso; omega) | exact (IV.bar hV.1 ⟨by omega, by have := hV.1.2.1.2.2.2.2.1; omega⟩ ⟨by omega, by have := hV.1.2.1.2.2.2.2.1; omega⟩ (by omega)).up (by omega) hk9

theorem PR_bar {S : Nat × (Nat → Int)} {k : Int} {M : ZM} (hI : INV S k M) (hk : k + 1 ≤ 1000) (a b1 on : Int) : PAIR S k M (fun M K => T_L_bar [zo 64, zi a, zi b1, zi on, zo 681] M K) (fun M K => T_X9_bar [zo 670, zi a, zi b1, zi on] M K (fun _ _ => False)) := by
  obtain ⟨G, B, n, P, c, Q, b, o, e8, e9, hC, hK, hR, hV⟩ := hI
  have hg := hR.2.2.1
  have hcr := hR.2.2.2.2.1.2.1
  refine PAIR.wr (x := c_bar G a b1 on) (v := (b2i (v_bar G a b1 on))) (Gc := F_bar G a b1 on) (B' := B) (n' := n) (P' := pushP P G c) (c' := pushC c) (Q' := Q) (b' := b) (o' := o) hC hK hR hV hk (by unfold c_bar; (repeat' split) <;> decide) (fun K h0 h1 => ?_) (fun q M1 K c1 k1 r1 hK9 => ?_) (fun q K hK9 => ?_)
  · exact ⟨G, P, c, a, b1, on, rfl, hC.2.2.2.1, hK.1, hK.2.1.1, hK.2.1.2, hV.1.gv, hV.1.gx, hK.2.2.2.1, fun q M' f t1 q1 => h0 q M' (hC.fr f (by unfold SCw; omega) (by unfold SCw; omega) (by unfold SCw; omega)) (hK.w f t1 (iv_bar hV hk q).gi q1) (hR.fr f (fun j j0 j1 => by unfold SCw; omega)), (fun q => by have z := h1 (by rw [q]; decide); rw [q] at z; exact z), (fun q => by have z := h1 (by rw [q]; decide); rw [q] at z; exact z)⟩
  · have e1 := r1.2.2.1
    subst e1
    exact ⟨P, c, a, b1, on, rfl, r1.1, r1.2.1, hV.1.gi, hV.1.gv, hV.1.gx, r1.2.2.2.2.1, fun q' M2 f hf z0 hg2 hh => hK9 M2 z0 (c1.e59 f SYw_59) (INV.w c1 k1 r1 f hf hg2 hh (hV.w hk (iv_bar hV hk q) hcr)), fun q' => absurd q q'⟩
  · subst hg
    exact ⟨P, c, a, b1, on, rfl, hR.1, hR.2.1, hV.1.gi, hV.1.gv, hV.1.gx, hR.2.2.2.2.1, fun q' => absurd q' q, fun q' => hK9⟩

theorem iv_addRows {k : Int} {G : Gm} {P : Int → Gm} {c : Int} {Q : Int → Gm} {b : Int → Int} {o : List Int} {many size : Int} (hV : IVd k G P c Q b o) (hk9 : k + 1 ≤ 1000) (hc0 : c_addRows G many size = 0) : IV (k + 1) (F_addRows G many size) := by
  have hc1 := hc0
  unfold c_addRows at hc1
  (repeat' split at hc1) <;> first | (exfalso; omega) | exact (IV.addr hV.1 ⟨by omega, by omega⟩ ⟨by omega, by omega⟩ (by omega)).up (by omega) hk9

theorem PR_addRows {S : Nat × (Nat → Int)} {k : Int} {M : ZM} (hI : INV S k M) (hk : k + 1 ≤ 1000) (many size : Int) : PAIR S k M (fun M K => T_L_addRows [zo 64, zi many, zi size, zo 681] M K) (fun M K => T_X9_addRows [zo 670, zi many, zi size] M K (fun _ _ => False)) := by
  obtain ⟨G, B, n, P, c, Q, b, o, e8, e9, hC, hK, hR, hV⟩ := hI
  have hg := hR.2.2.1
  have hcr := hR.2.2.2.2.1.2.1
  refine PAIR.wr (x := c_addRows G many size) (v := (v_addRows G many size)) (Gc := F_addRows G many size) (B' := B) (n' := n) (P' := pushP P G c) (c' := pushC c) (Q' := Q) (b' := b) (o' := o) hC hK hR hV hk (by unfold c_addRows; (repeat' split) <;> decide) (fun K h0 h1 => ?_) (fun q M1 K c1 k1 r1 hK9 => ?_) (fun q K hK9 => ?_)
  · exact ⟨G, P, c, many, size, rfl, hC.2.2.2.1, hK.1, hK.2.1.1, hK.2.1.2, hV.1.gv, hV.1.gx, hK.2.2.2.1, fun q M' f t1 q1 => h0 q M' (hC.fr f (by unfold SCw; omega) (by unfold SCw; omega) (by unfold SCw; omega)) (hK.w f t1 (iv_addRows hV hk q).gi q1) (hR.fr f (fun j j0 j1 => by unfold SCw; omega)), (fun q => by have z := h1 (by rw [q]; decide); rw [q] at z; exact z), (fun q => by have z := h1 (by rw [q]; decide); rw [q] at z; exact z)⟩
  · have e1 := r1.2.2.1
    subst e1
    exact ⟨P, c, many, size, rfl, r1.1, r1.2.1, hV.1.gi, hV.1.gv, hV.1.gx, r1.2.2.2.2.1, fun q' M2 f hf z0 hg2 hh => hK9 M2 z0 (c1.e59 f SYw_59) (INV.w c1 k1 r1 f hf hg2 hh (hV.w hk (iv_addRows hV hk q) hcr)), fun q' => absurd q q'⟩
  · subst hg
    exact ⟨P, c, many, size, rfl, hR.1, hR.2.1, hV.1.gi, hV.1.gv, hV.1.gx, hR.2.2.2.2.1, fun q' => absurd q' q, fun q' => hK9⟩

theorem iv_setTable {k : Int} {G : Gm} {P : Int → Gm} {c : Int} {Q : Int → Gm} {b : Int → Int} {o : List Int} {what v : Int} (hV : IVd k G P c Q b o) (hk9 : k + 1 ≤ 1000) (hc0 : c_setTable G what v = 0) : IV (k + 1) (F_setTable G what v) := by
  have hc1 := hc0
  unfold c_setTable at hc1
  (repeat' split at hc1) <;> first | (exfalso; omega) | exact (IV.setT hV.1 hc0).up (by omega) hk9

theorem PR_setTable {S : Nat × (Nat → Int)} {k : Int} {M : ZM} (hI : INV S k M) (hk : k + 1 ≤ 1000) (what v : Int) : PAIR S k M (fun M K => T_L_setTable [zo 64, zi what, zi v, zo 681] M K) (fun M K => T_X9_setTable [zo 670, zi what, zi v] M K (fun _ _ => False)) := by
  obtain ⟨G, B, n, P, c, Q, b, o, e8, e9, hC, hK, hR, hV⟩ := hI
  have hg := hR.2.2.1
  have hcr := hR.2.2.2.2.1.2.1
  refine PAIR.wr (x := c_setTable G what v) (v := (v_setTable G what v)) (Gc := F_setTable G what v) (B' := B) (n' := n) (P' := pushP P G c) (c' := pushC c) (Q' := Q) (b' := b) (o' := o) hC hK hR hV hk (by unfold c_setTable; (repeat' split) <;> decide) (fun K h0 h1 => ?_) (fun q M1 K c1 k1 r1 hK9 => ?_) (fun q K hK9 => ?_)
  · exact ⟨G, P, c, what, v, rfl, hC.2.2.2.1, hK.1, hK.2.1.1, hK.2.1.2, hV.1.gv, hV.1.gx, hK.2.2.2.1, fun q M' f t1 q1 => h0 q M' (hC.fr f (by unfold SCw; omega) (by unfold SCw; omega) (by unfold SCw; omega)) (hK.w f t1 (iv_setTable hV hk q).gi q1) (hR.fr f (fun j j0 j1 => by unfold SCw; omega)), (fun q => by have z := h1 (by rw [q]; decide); rw [q] at z; exact z)⟩
  · have e1 := r1.2.2.1
    subst e1
    exact ⟨P, c, what, v, rfl, r1.1, r1.2.1, hV.1.gi, hV.1.gv, hV.1.gx, r1.2.2.2.2.1, fun q' M2 f hf z0 hg2 hh => hK9 M2 z0 (c1.e59 f SYw_59) (INV.w c1 k1 r1 f hf hg2 hh (hV.w hk (iv_setTable hV hk q) hcr)), fun q' => absurd q q'⟩
  · subst hg
    exact ⟨P, c, what, v, rfl, hR.1, hR.2.1, hV.1.gi, hV.1.gv, hV.1.gx, hR.2.2.2.2.1, fun q' => absurd q' q, fun q' => hK9⟩
