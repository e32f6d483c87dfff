/-! pairs of calls: the rest, first -/
def asc (l : List Int) : Prop := ∀ x ∈ l, 0 ≤ x ∧ x < 128
theorem asc.app {l m : List Int} (h : asc l) (h2 : asc m) : asc (l ++ m) := fun x hx => by
  rcases List.mem_append.mp hx with q | q
  · exact h x q
  · exact h2 x q
theorem asc_nil : asc [] := fun x hx => nomatch hx
theorem asc_1 {a : Int} (h : 0 ≤ a ∧ a < 128) : asc [a] := fun x hx => by
  rw [List.mem_singleton] at hx
  subst hx
  exact h
theorem asc_dgs {d f : Int} (h : 0 < d) (hf : 0 ≤ f ∧ f + d ≤ 128) (v : Int) : ∀ j, asc (dgs d f v j)
  | 0 => asc_1 (by have := Int.emod_nonneg v (show d ≠ 0 by omega); have := Int.emod_lt_of_pos v h; omega)
  | j + 1 => fun x hx => by
    rcases List.mem_cons.mp hx with q | q
    · subst q
      have := Int.emod_nonneg (v / d ^ (j + 1)) (show d ≠ 0 by omega)
      have := Int.emod_lt_of_pos (v / d ^ (j + 1)) h
      omega
    · exact asc_dgs h hf v j x q
theorem asc_dig (v : Int) : asc (dig v) := asc_dgs (by decide) (by decide) _ _
theorem asc_dgn (v : Int) : asc (dgn v) := asc_dgs (by decide) (by decide) _ _
theorem asc_gap {l : List Int} (h : asc l) : asc (wgap l) := by
  cases l with
  | nil => exact asc_nil
  | cons a l => exact h.app (asc_1 (by decide))
theorem asc_txs {f : Int → List Int} (h : ∀ i, asc (f i)) : ∀ n : Int, 0 ≤ n → asc (txs f n) := by
  intro n hn
  obtain ⟨j, rfl⟩ : ∃ j : Nat, n = (j : Int) := ⟨n.toNat, by omega⟩
  induction j with
  | zero => exact asc_nil
  | succ j ih =>
    rw [show ((j + 1 : Nat) : Int) = (j : Int) + 1 by omega, txs_s (by omega)]
    exact (asc_gap (ih (by omega))).app (h _)
theorem asc_row (G : Gm) (i : Int) : asc (rowTx G i) := by
  unfold rowTx
  (repeat' split) <;> first | exact asc_1 (by decide) | exact (asc_1 (by decide)).app (asc_dig _) | exact ((asc_1 (by decide)).app (asc_dig _)).app (asc_1 (by decide))
theorem asc_tk (G : Gm) (r k : Int) : asc (tkTx G r k) := by
  unfold tkTx
  refine (asc_dgn _).app ?_
  split <;> exact (asc_1 (by decide)).app (asc_dig _)
theorem asc_wk (G : Gm) (w : Int) : asc (wkTx G w) := by
  unfold wkTx
  refine ((((asc_dgn _).app (asc_1 (by decide))).app (asc_dig _)).app ?_).app (asc_dig _)
  split
  · exact (asc_1 (a := 33) (by decide)).app (asc_1 (a := 47) (by decide))
  · exact asc_1 (by decide)
/-- the reference's side, some of it anew -/
theorem RSd.w9 {T : Nat → Prop} {M M' : ZM} {G G' B B' : Gm} {n n' : Int} {P P' : Int → Gm} {c c' : Int} {Q Q' : Int → Gm} {b b' : Int → Int} {o o' : List Int} {e8 e9 f8 f9 : Int} (h : RSd M G B n P c Q b o e8 e9) (f : Fr T M M') (hg' : zI M' 671 = G') (hI : RIn M' B' n') (hR : RH M' P' c') (hS : RS M' Q' b') (hO : ROut M' o') (h12 : zI M' 670 12 = f8) (h13 : zI M' 670 13 = f9) : RSd M' G' B' n' P' c' Q' b' o' f8 f9 :=
  ⟨h.1.fr f, h.2.1.fr h.1 f, hg', hI, hR, hS, hO, h12, h13⟩
theorem RIn.k {T : Nat → Prop} {M M' : ZM} {B : Gm} {n : Int} (h : RIn M B n) (hY : LY M) (f : Fr T M M') (h52 : ¬ T 674) (h6 : zI M' 670 6 = zI M 670 6) : RIn M' B n := by
  unfold RIn at h ⊢
  rw [h6, f.i hY.a5 h52]; exact h
theorem RS.k {T : Nat → Prop} {M M' : ZM} {Q : Int → Gm} {b : Int → Int} (h : RS M Q b) (hY : LY M) (f : Fr T M M') (h55 : ¬ T 677) (h56 : ¬ T 678) : RS M' Q b := by
  unfold RS at h ⊢
  rw [f.i hY.a16 h55, f.i hY.a17 h56]; exact h
theorem ROut.k {T : Nat → Prop} {M M' : ZM} {o : List Int} (h : ROut M o) (hY : LY M) (f : Fr T M M') (h58 : ¬ T 680) (h21 : zI M' 670 21 = zI M 670 21) : ROut M' o := by
  unfold ROut at h ⊢
  rw [h21, f.i hY.a20 h58]; exact h
theorem INV.t0 {S : Nat × (Nat → Int)} {k x : Int} {M : ZM} {G B : Gm} {n : Int} {P : Int → Gm} {c : Int} {Q : Int → Gm} {b : Int → Int} {o : List Int} {e8 e9 : Int} (hC : CMd S M) (hK : CSd M G B n P c Q b o e8 e9) (hR : RSd M G B n P c Q b o e8 e9) (hV : IVd k G P c Q b o) (hk : k + 1 ≤ 1000) : INV S (k + 1) (zsI M 670 0 x) := (INV.thr (INV.mk hC hK hR hV)).up (by omega) hk
theorem e59t {M : ZM} {x : Int} : zI (zsI M 670 0 x) 681 0 = zI M 681 0 := congrFun (zI_In M 0 x (by decide)) 0
theorem c255 : ∀ y : Fin 128, zi2c (zand ((y.val : Nat) : Int) 255) = (y.val : Int) := by decide +kernel
theorem c255i {y : Int} (h : 0 ≤ y ∧ y < 128) : zi2c (zand y 255) = y := by
  have h9 := c255 ⟨y.toNat, by omega⟩
  rw [show (((⟨y.toNat, by omega⟩ : Fin 128).val : Nat) : Int) = y by show ((y.toNat : Nat) : Int) = y; omega] at h9
  exact h9
theorem PR_outputByte {S : Nat × (Nat → Int)} {k : Int} {M : ZM} (hI : INV S k M) (hk : k + 1 ≤ 1000) (x : Int) : PAIR S k M (fun M K => T_L_outputByte [zo 64, zi x, zo 681] M K) (fun M K => T_X9_outputByte [zo 670, zi x] M K (fun _ _ => False)) := by
  obtain ⟨G, B, n, P, c, Q, b, o, e8, e9, hC, hK, hR, hV⟩ := hI
  obtain ⟨cap, hS⟩ := hK.2.2.2.2.2.1
  refine PAIR.wr (x := if 0 ≤ x ∧ x < (o.length : Int) then 0 else 1) (v := o.getD x.toNat 0) (Gc := G) (B' := B) (n' := n) (P' := P) (c' := c) (Q' := Q) (b' := b) (o' := o) hC hK hR hV hk (by split <;> decide) (fun K h0 h1 => ?_) (fun q M1 K c1 k1 r1 hK9 => ?_) (fun q K hK9 => ?_)
  · refine ⟨cap, o, x, rfl, hC.2.2.2.1, hK.1, hS, fun q => ?_, fun q => ?_⟩
    · have hlt : x.toNat < o.length := by omega
      have ha := hV.2.2.2 _ (List.getElem_mem hlt)
      have e : o.getD x.toNat 0 = o[x.toNat] := by rw [List.getD_eq_getElem?_getD, List.getElem?_eq_getElem hlt]; rfl
      rw [c255i (by rw [e]; exact ha)]
      exact h0 (if_pos q) M hC hK hR
    · have z := h1 (by rw [if_neg q]; decide)
      rw [if_neg q] at z
      exact z
  · have hq : 0 ≤ x ∧ x < (o.length : Int) := by
      by_cases z : 0 ≤ x ∧ x < (o.length : Int)
      · exact z
      · rw [if_neg z] at q; exact absurd q (by decide)
    refine ⟨o, x, rfl, r1.1, r1.2.2.2.2.2.2.1, fun v v0 hv => ?_, fun z => absurd hq z⟩
    have e : o.getD x.toNat 0 = v := by rw [List.getD_eq_getElem?_getD, hv]; rfl
    rw [← e]
    exact hK9 _ (zI_Is _ _ _ _) e59t (INV.t0 c1 k1 r1 hV hk)
  · have hq : ¬ (0 ≤ x ∧ x < (o.length : Int)) := fun z => q (if_pos z)
    rw [if_neg hq] at hK9
    exact ⟨o, x, rfl, hR.1, hR.2.2.2.2.2.2.1, fun v v0 hv => absurd ⟨v0, by have := (List.getElem?_eq_some_iff.mp hv).1; omega⟩ hq, fun _ => hK9⟩

theorem PR_stateIf {S : Nat × (Nat → Int)} {k : Int} {M : ZM} (hI : INV S k M) (hk : k + 1 ≤ 1000) (w r x : Int) : PAIR S k M (fun M K => T_L_stateIf [zo 64, zi w, zi r, zi x, zo 681] M K) (fun M K => T_X9_stateIf [zo 670, zi w, zi r, zi x] M K (fun _ _ => False)) := by
  obtain ⟨G, B, n, P, c, Q, b, o, e8, e9, hC, hK, hR, hV⟩ := hI
  have hg := hR.2.2.1
  refine PAIR.wr (x := c_stateIf G w r x) (v := v_stateIf G w r x) (Gc := G) (B' := B) (n' := n) (P' := P) (c' := c) (Q' := Q) (b' := b) (o' := o) hC hK hR hV hk (by unfold c_stateIf; (repeat' split) <;> decide) (fun K h0 h1 => ?_) (fun q M1 K c1 k1 r1 hK9 => ?_) (fun q K hK9 => ?_)
  · exact ⟨G, w, r, x, rfl, hC.2.2.2.1, hK.1, hK.2.1.1, hK.2.1.2, hV.1.gv, hV.1.gx, fun q M' f => h0 q M' (hC.fr f (by unfold SVd; omega) (by unfold SVd; omega) (by unfold SVd; omega)) (hK.fr f (fun j hj => by unfold SVd; omega)) (hR.fr f (fun j j0 j1 => by unfold SVd; omega)), (fun q => by have z := h1 (by rw [q]; decide); rw [q] at z; exact z), (fun q => by have z := h1 (by rw [q]; decide); rw [q] at z; exact z), (fun q => by have z := h1 (by rw [q]; decide); rw [q] at z; exact z)⟩
  · have e1 := r1.2.2.1
    subst e1
    refine ⟨w, r, x, rfl, r1.1, r1.2.1, hV.1.gi, hV.1.gv, hV.1.gx, fun q' M2 f hf z0 => ?_, fun q' => absurd q q'⟩
    have r2 := r1.w9 f (f.i r1.1.a1 (by unfold SYa; omega)) (r1.2.2.2.1.k r1.1 f (by unfold SYa; omega) (hf 6 (by decide))) (r1.2.2.2.2.1.fr r1.1 f (by unfold SYa; omega) (hf 19 (by decide))) (r1.2.2.2.2.2.1.k r1.1 f (by unfold SYa; omega) (by unfold SYa; omega)) (r1.2.2.2.2.2.2.1.k r1.1 f (by unfold SYa; omega) (hf 21 (by decide))) ((hf 12 (by decide)).trans r1.2.2.2.2.2.2.2.1) ((hf 13 (by decide)).trans r1.2.2.2.2.2.2.2.2)
    exact hK9 M2 z0 (c1.e59 f (by unfold SYa; omega)) (INV.mk (c1.fr f (by unfold SYa; omega) (by unfold SYa; omega) (by unfold SYa; omega)) (k1.fr f (fun j hj => by unfold SYa; omega)) r2 (hV.up (by omega) hk))
  · subst hg
    exact ⟨w, r, x, rfl, hR.1, hR.2.1, hV.1.gi, hV.1.gv, hV.1.gx, fun q' => absurd q' q, fun q' => hK9⟩

theorem PR_trustIf {S : Nat × (Nat → Int)} {k : Int} {M : ZM} (hI : INV S k M) (hk : k + 1 ≤ 1000) (w r x oo : Int) : PAIR S k M (fun M K => T_L_trustIf [zo 64, zi w, zi r, zi x, zi oo, zo 681] M K) (fun M K => T_X9_trustIf [zo 670, zi w, zi r, zi x, zi oo] M K (fun _ _ => False)) := by
  obtain ⟨G, B, n, P, c, Q, b, o, e8, e9, hC, hK, hR, hV⟩ := hI
  have hg := hR.2.2.1
  refine PAIR.wr (x := c_trustIf G w r x oo) (v := v_trustIf G w r x oo) (Gc := G) (B' := B) (n' := n) (P' := P) (c' := c) (Q' := Q) (b' := b) (o' := o) hC hK hR hV hk (by unfold c_trustIf; (repeat' split) <;> decide) (fun K h0 h1 => ?_) (fun q M1 K c1 k1 r1 hK9 => ?_) (fun q K hK9 => ?_)
  · exact ⟨G, w, r, x, oo, rfl, hC.2.2.2.1, hK.1, hK.2.1.1, hK.2.1.2, hV.1.gv, hV.1.gx, fun q M' f => h0 q M' (hC.fr f (by unfold SVd; omega) (by unfold SVd; omega) (by unfold SVd; omega)) (hK.fr f (fun j hj => by unfold SVd; omega)) (hR.fr f (fun j j0 j1 => by unfold SVd; omega)), (fun q => by have z := h1 (by rw [q]; decide); rw [q] at z; exact z), (fun q => by have z := h1 (by rw [q]; decide); rw [q] at z; exact z), (fun q => by have z := h1 (by rw [q]; decide); rw [q] at z; exact z)⟩
  · have e1 := r1.2.2.1
    subst e1
    refine ⟨w, r, x, oo, rfl, r1.1, r1.2.1, hV.1.gi, hV.1.gv, hV.1.gx, fun q' M2 f hf z0 => ?_, fun q' => absurd q q'⟩
    have r2 := r1.w9 f (f.i r1.1.a1 (by unfold SYa; omega)) (r1.2.2.2.1.k r1.1 f (by unfold SYa; omega) (hf 6 (by decide))) (r1.2.2.2.2.1.fr r1.1 f (by unfold SYa; omega) (hf 19 (by decide))) (r1.2.2.2.2.2.1.k r1.1 f (by unfold SYa; omega) (by unfold SYa; omega)) (r1.2.2.2.2.2.2.1.k r1.1 f (by unfold SYa; omega) (hf 21 (by decide))) ((hf 12 (by decide)).trans r1.2.2.2.2.2.2.2.1) ((hf 13 (by decide)).trans r1.2.2.2.2.2.2.2.2)
    exact hK9 M2 z0 (c1.e59 f (by unfold SYa; omega)) (INV.mk (c1.fr f (by unfold SYa; omega) (by unfold SYa; omega) (by unfold SYa; omega)) (k1.fr f (fun j hj => by unfold SYa; omega)) r2 (hV.up (by omega) hk))
  · subst hg
    exact ⟨w, r, x, oo, rfl, hR.1, hR.2.1, hV.1.gi, hV.1.gv, hV.1.gx, fun q' => absurd q' q, fun q' => hK9⟩

theorem PR_finishing {S : Nat × (Nat → Int)} {k : Int} {M : ZM} (hI : INV S k M) (hk : k + 1 ≤ 1000) (w r : Int) : PAIR S k M (fun M K => T_L_finishing [zo 64, zi w, zi r, zo 681] M K) (fun M K => T_X9_finishing [zo 670, zi w, zi r] M K (fun _ _ => False)) := by
  obtain ⟨G, B, n, P, c, Q, b, o, e8, e9, hC, hK, hR, hV⟩ := hI
  have hg := hR.2.2.1
  refine PAIR.wr (x := c_finishing G w r) (v := v_finishing G w r) (Gc := G) (B' := B) (n' := n) (P' := P) (c' := c) (Q' := Q) (b' := b) (o' := o) hC hK hR hV hk (by unfold c_finishing; (repeat' split) <;> decide) (fun K h0 h1 => ?_) (fun q M1 K c1 k1 r1 hK9 => ?_) (fun q K hK9 => ?_)
  · exact ⟨G, w, r, rfl, hC.2.2.2.1, hK.1, hK.2.1.1, hK.2.1.2, hV.1.gv, hV.1.gx, fun q M' f => h0 q M' (hC.fr f (by unfold SVd; omega) (by unfold SVd; omega) (by unfold SVd; omega)) (hK.fr f (fun j hj => by unfold SVd; omega)) (hR.fr f (fun j j0 j1 => by unfold SVd; omega)), (fun q => by have z := h1 (by rw [q]; decide); rw [q] at z; exact z), (fun q => by have z := h1 (by rw [q]; decide); rw [q] at z; exact z)⟩
  · have e1 := r1.2.2.1
    subst e1
    refine ⟨w, r, rfl, r1.1, r1.2.1, hV.1.gi, hV.1.gv, hV.1.gx, fun q' M2 f hf z0 => ?_, fun q' => absurd q q'⟩
    have r2 := r1.w9 f (f.i r1.1.a1 (by unfold SYa; omega)) (r1.2.2.2.1.k r1.1 f (by unfold SYa; omega) (hf 6 (by decide))) (r1.2.2.2.2.1.fr r1.1 f (by unfold SYa; omega) (hf 19 (by decide))) (r1.2.2.2.2.2.1.k r1.1 f (by unfold SYa; omega) (by unfold SYa; omega)) (r1.2.2.2.2.2.2.1.k r1.1 f (by unfold SYa; omega) (hf 21 (by decide))) ((hf 12 (by decide)).trans r1.2.2.2.2.2.2.2.1) ((hf 13 (by decide)).trans r1.2.2.2.2.2.2.2.2)
    exact hK9 M2 z0 (c1.e59 f (by unfold SYa; omega)) (INV.mk (c1.fr f (by unfold SYa; omega) (by unfold SYa; omega) (by unfold SYa; omega)) (k1.fr f (fun j hj => by unfold SYa; omega)) r2 (hV.up (by omega) hk))
  · subst hg
    exact ⟨w, r, rfl, hR.1, hR.2.1, hV.1.gi, hV.1.gv, hV.1.gx, fun q' => absurd q' q, fun q' => hK9⟩
