/-! pairs of calls: the rest, second -/
theorem CSd.in9 {M M' : ZM} {G B B' : Gm} {n n' : Int} {P : Int → Gm} {c : Int} {Q : Int → Gm} {b : Int → Int} {o : List Int} {e8 e9 : Int} (h : CSd M G B n P c Q b o e8 e9) (f : Fr SIn M M') (hI' : CIn M' B' n') : CSd M' G B' n' P c Q b o e8 e9 := by
  obtain ⟨hL, ⟨hT, hG⟩, -, hR, hQ, ⟨cap, hS⟩, hv, h8, h9⟩ := h
  have ns : ∀ j, j ≠ 66 → j ≠ 67 → ¬ SIn j := fun j a b => by unfold SIn; omega
  have s9 := hS.fr9 f (ns _ (by omega) (by omega)) (ns _ (by omega) (by omega))
  have e64 : zI M' 64 = zI M 64 := f.i hL.w (ns _ (by omega) (by omega))
  exact ⟨hL.fr f, ⟨hT.fr9 hL.tab f hG (fun j j0 j1 => ns j (by omega) (by omega)), hG⟩, hI', hR.fr hL f (fun j j0 j1 => ns j (by omega) (by omega)), hQ.fr hL f (fun j j0 j1 => ns j (by omega) (by omega)), ⟨cap, s9.1⟩, by rw [s9.2]; exact hv, by rw [e64]; exact h8, by rw [e64]; exact h9⟩
theorem RSd.in9 {M : ZM} {x : Int} {G B : Gm} {n : Int} {P : Int → Gm} {c : Int} {Q : Int → Gm} {b : Int → Int} {o : List Int} {e8 e9 : Int} (h : RSd M G B n P c Q b o e8 e9) (hx : 0 ≤ x ∧ x ≤ n) : RSd (zsI (zsI M 670 0 0) 670 6 x) G B x P c Q b o e8 e9 := by
  have f : Fr (fun j => j = 670) M (zsI (zsI M 670 0 0) 670 6 x) := (Fr_I (S := fun j => j = 670) h.1.w (by decide) (by decide) rfl).tr (Fr_I (show zW (zsI M 670 0 0) 670 12 from h.1.w) (by decide) (by decide) rfl)
  have e : ∀ g, g ≠ 0 → g ≠ 6 → zI (zsI (zsI M 670 0 0) 670 6 x) 670 g = zI M 670 g := fun g g0 g6 => (up2_m _ _ _ _ _ g6).trans (up2_m _ _ _ _ _ g0)
  have hi := h.2.2.2.1
  refine h.w9 f ((f.i h.1.a1 (by decide)).trans h.2.2.1) ⟨zI_Is _ _ _ _, by have := hi.2.1; omega, fun k hk => ?_⟩ (h.2.2.2.2.1.fr h.1 f (by decide) (e 19 (by decide) (by decide))) (h.2.2.2.2.2.1.k h.1 f (by decide) (by decide)) (h.2.2.2.2.2.2.1.k h.1 f (by decide) (e 21 (by decide) (by decide))) ((e 12 (by decide) (by decide)).trans h.2.2.2.2.2.2.2.1) ((e 13 (by decide) (by decide)).trans h.2.2.2.2.2.2.2.2)
  rw [f.i h.1.a5 (by decide)]
  exact hi.2.2 k (by omega)
theorem Fr_t6 {M : ZM} {x : Int} (hY : LY M) : Fr (fun j => j = 670) M (zsI (zsI M 670 0 0) 670 6 x) := (Fr_I (S := fun j => j = 670) hY.w (by decide) (by decide) rfl).tr (Fr_I (show zW (zsI M 670 0 0) 670 12 from hY.w) (by decide) (by decide) rfl)
theorem INV.t6 {S : Nat × (Nat → Int)} {k x : Int} {M : ZM} {G B : Gm} {n : Int} {P : Int → Gm} {c : Int} {Q : Int → Gm} {b : Int → Int} {o : List Int} {e8 e9 : Int} (hC : CMd S M) (hK : CSd M G B x P c Q b o e8 e9) (hR : RSd M G B n P c Q b o e8 e9) (hV : IVd k G P c Q b o) (hk : k + 1 ≤ 1000) (hx : 0 ≤ x ∧ x ≤ n) : INV S (k + 1) (zsI (zsI M 670 0 0) 670 6 x) := by
  have f := Fr_t6 (x := x) hR.1
  exact INV.mk (hC.fr f (by decide) (by decide) (by decide)) (hK.fr f (fun j hj => by show ¬ j = 670; omega)) (hR.in9 hx) (hV.up (by omega) hk)
def PAIRT (S : Nat × (Nat → Int)) (k : Int) (M : ZM) (TL TRf : ZM → ZRet → Prop) : Prop := ∀ K1 : ZRet, (∀ (c : Int) (M1 : ZM), CMd S M1 → LY M1 → (∀ K2 : ZRet, (∀ M2 : ZM, CMd S M2 → LY M2 → zI M2 670 0 = c → INV S (k + 1) M2 → K2 none M2) → TRf M1 K2) → K1 (some (zi c)) M1) → TL M K1
theorem PR_truncate {S : Nat × (Nat → Int)} {k : Int} {M : ZM} (hI : INV S k M) (hk : k + 1 ≤ 1000) (x : Int) : PAIRT S k M (fun M K => T_L_truncate [zo 64, zi x] M K) (fun M K => T_X9_truncate [zo 670, zi x] M K (fun _ _ => False)) := by
  obtain ⟨G, B, n, P, c, Q, b, o, e8, e9, hC, hK, hR, hV⟩ := hI
  intro K1 hK1
  have hi := hK.2.2.1
  refine ⟨B, n, x, rfl, hK.1, hi, fun q M' f i2 => ?_, fun q => ?_⟩
  · have c1 : CMd S M' := hC.fr f (by unfold SIn; omega) (by unfold SIn; omega) (by unfold SIn; omega)
    have r1 := hR.fr f (fun j j0 j1 => by unfold SIn; omega)
    refine hK1 0 M' c1 r1.1 (fun K2 hK2 => ⟨B, n, x, rfl, r1.1, r1.2.2.2.1, fun q' => ?_, fun q' => absurd q q'⟩)
    have i9 := INV.t6 c1 (hK.in9 f i2) r1 hV hk q
    exact hK2 _ i9.cm i9.ly (by simp (disch := omega) only [zIs, zIm, zIn, zIrf]) i9
  · refine hK1 1 M hC hR.1 (fun K2 hK2 => ⟨B, n, x, rfl, hR.1, hR.2.2.2.1, fun q' => absurd q' q, fun q' => ?_⟩)
    have i9 := INV.t0 (x := 1) hC hK hR hV hk
    exact hK2 _ i9.cm i9.ly (zI_Is _ _ _ _) i9
theorem PR_append {S : Nat × (Nat → Int)} {k : Int} {M : ZM} (hI : INV S k M) (hk : k + 1 ≤ 1000) (x1 x2 x3 x4 x5 : Int) : PAIR S k M (fun M K => T_L_append [zo 64, zi x1, zi x2, zi x3, zi x4, zi x5, zo 681] M K) (fun M K => T_X9_append [zo 670, zi x1, zi x2, zi x3, zi x4, zi x5] M K (fun _ _ => False)) := by
  obtain ⟨G, B, n, P, c, Q, b, o, e8, e9, hC, hK, hR, hV⟩ := hI
  have hi := hK.2.2.1
  refine PAIR.wr (x := if n + 20 ≤ 500 then 0 else 1) (v := n + 20) (Gc := G) (B' := app20 B n x1 x2 x3 x4 x5) (n' := n + 20) (P' := P) (c' := c) (Q' := Q) (b' := b) (o' := o) hC hK hR hV hk (by split <;> decide) (fun K h0 h1 => ?_) (fun q M1 K c1 k1 r1 hK9 => ?_) (fun q K hK9 => ?_)
  · refine ⟨B, n, x1, x2, x3, x4, x5, rfl, hC.2.2.2.1, hK.1, hi, fun q M' f i2 => ?_, fun q => ?_⟩
    · exact h0 (if_pos q) M' (hC.fr f (by unfold SIn; omega) (by unfold SIn; omega) (by unfold SIn; omega)) (hK.in9 f i2) (hR.fr f (fun j j0 j1 => by unfold SIn; omega))
    · have z := h1 (by rw [if_neg (by omega)]; decide)
      rw [if_neg (by omega)] at z
      exact z
  · have hq : n + 20 ≤ 500 := by
      by_cases z : n + 20 ≤ 500
      · exact z
      · rw [if_neg z] at q; exact absurd q (by decide)
    refine ⟨B, n, x1, x2, x3, x4, x5, rfl, r1.1, r1.2.2.2.1, fun _ M2 f hf z0 i2 => ?_, fun z => by omega⟩
    have r2 := r1.w9 f ((f.i r1.1.a1 (by decide)).trans r1.2.2.1) i2 (r1.2.2.2.2.1.fr r1.1 f (by decide) (hf 19 (by decide) (by decide))) (r1.2.2.2.2.2.1.k r1.1 f (by decide) (by decide)) (r1.2.2.2.2.2.2.1.k r1.1 f (by decide) (hf 21 (by decide) (by decide))) ((hf 12 (by decide) (by decide)).trans r1.2.2.2.2.2.2.2.1) ((hf 13 (by decide) (by decide)).trans r1.2.2.2.2.2.2.2.2)
    exact hK9 M2 z0 (c1.e59 f (by decide)) (INV.mk (c1.fr f (by decide) (by decide) (by decide)) (k1.fr f (fun j hj => by show ¬ (j = 670 ∨ j = 674); omega)) r2 (hV.up (by omega) hk))
  · have hq : ¬ n + 20 ≤ 500 := fun z => q (if_pos z)
    rw [if_neg hq] at hK9
    exact ⟨B, n, x1, x2, x3, x4, x5, rfl, hR.1, hR.2.2.2.1, fun z => absurd z hq, fun _ => hK9⟩
theorem fNamed_f {G B : Gm} {n : Int} (hn : 0 ≤ n) : ((1 ≤ n ∧ n ≤ 6) ∧ fLet B n → fNamed G B n 0 n = fWith G (fNmF B 0 n)) ∧ (¬ ((1 ≤ n ∧ n ≤ 6) ∧ fLet B n) → fNamed G B n 0 n = -1) := by
  have e1 : fNmF B 0 n = nmv (bl B 0 (n - 0).toNat) := by
    have h9 := fNm_bl B 0 (n - 0).toNat
    rw [show (0 : Int) + (((n - 0).toNat : Nat) : Int) = n by omega] at h9
    exact h9
  have e2 : (∀ c, c ∈ bl B 0 (n - 0).toNat → 97 ≤ c ∧ c ≤ 122) ↔ fLet B n := by
    constructor
    · intro h q q0 q1
      have h9 := h (B (0 + ((q.toNat : Nat) : Int)).toNat) (List.mem_map.mpr ⟨q.toNat, List.mem_range.mpr (by omega), rfl⟩)
      rw [show (0 + ((q.toNat : Nat) : Int)).toNat = q.toNat by omega] at h9
      exact h9
    · intro h c hc
      obtain ⟨j, hj, rfl⟩ := List.mem_map.mp hc
      have hj9 := List.mem_range.mp hj
      have h9 := h (j : Int) (by omega) (by omega)
      show 97 ≤ B (0 + (j : Int)).toNat ∧ B (0 + (j : Int)).toNat ≤ 122
      rw [show (0 + (j : Int)).toNat = (j : Int).toNat by omega]
      exact h9
  unfold fNamed
  constructor
  · intro h
    rw [if_pos ⟨⟨by omega, by omega, by omega, by omega⟩, e2.mpr h.2⟩, e1]
  · intro h
    rw [if_neg (fun z => h ⟨by omega, e2.mp z.2⟩)]
theorem PR_find {S : Nat × (Nat → Int)} {k : Int} {M : ZM} (hI : INV S k M) (hk : k + 1 ≤ 1000) : PAIR0 S k M (fun M K => T_X8_find [zo 64] M K (fun _ _ => False)) (fun M K => T_X9_find [zo 670] M K (fun _ _ => False)) := by
  obtain ⟨G, B, n, P, c, Q, b, o, e8, e9, hC, hK, hR, hV⟩ := hI
  intro K1 hK1
  have hi := hK.2.2.1
  have hg4 := hV.1.2.1.2.2.2.2.1
  refine ⟨G, B, n, rfl, hK.1, hK.2.1.1, hg4, hi, fun M' f i2 => ?_⟩
  have c1 : CMd S M' := hC.fr f (by unfold SIn; omega) (by unfold SIn; omega) (by unfold SIn; omega)
  have r1 := hR.fr f (fun j j0 j1 => by unfold SIn; omega)
  have i9 := INV.t6 c1 (hK.in9 f i2) r1 hV hk ⟨by omega, hi.2.1.1⟩
  have fn := fNamed_f (G := G) (B := B) (n := n) hi.2.1.1
  have e1 := r1.2.2.1
  refine hK1 _ M' c1 r1.1 (fun K2 hK2 => ⟨B, n, rfl, r1.1, r1.2.1, by rw [e1]; exact hg4, r1.2.2.2.1, fun q => ?_, fun q => ?_⟩)
  · rw [e1, ← fn.1 q]
    exact hK2 _ i9
  · rw [← fn.2 q]
    exact hK2 _ i9
theorem PR_mostTakings {S : Nat × (Nat → Int)} {k : Int} {M : ZM} (hI : INV S k M) (hk : k + 1 ≤ 1000) : PAIR0 S k M (fun M K => T_X8_mostTakings [zo 64] M K (fun _ _ => False)) (fun M K => T_X9_mostTakings [zo 670] M K (fun _ _ => False)) := by
  obtain ⟨G, B, n, P, c, Q, b, o, e8, e9, hC, hK, hR, hV⟩ := hI
  intro K1 hK1
  refine ⟨G, rfl, hK.1, hK.2.1.1, hK.2.1.2, hV.1.gv, hV.1.gx, fun M' x f hm => ?_⟩
  have c1 : CMd S M' := hC.fr f (fun z => z) (fun z => z) (fun z => z)
  have r1 := hR.fr f (fun j j0 j1 z => z)
  have k1 := hK.fr f (fun j hj z => z)
  refine hK1 x M' c1 r1.1 (fun K2 hK2 => ⟨G, rfl, r1.1, r1.2.1, r1.2.2.1, hV.1.gi, fun M2 y hx hy => ?_⟩)
  obtain ⟨f2, hf, z0⟩ := hx
  rw [← hm.u hy]
  have r2 := r1.w9 f2 ((f2.i r1.1.a1 (by unfold S3m; omega)).trans r1.2.2.1) (r1.2.2.2.1.k r1.1 f2 (by unfold S3m; omega) (hf 6 (by decide))) (r1.2.2.2.2.1.fr r1.1 f2 (by unfold S3m; omega) (hf 19 (by decide))) (r1.2.2.2.2.2.1.k r1.1 f2 (by unfold S3m; omega) (by unfold S3m; omega)) (r1.2.2.2.2.2.2.1.k r1.1 f2 (by unfold S3m; omega) (hf 21 (by decide))) ((hf 12 (by decide)).trans r1.2.2.2.2.2.2.2.1) ((hf 13 (by decide)).trans r1.2.2.2.2.2.2.2.2)
  exact hK2 M2 (INV.mk (c1.fr f2 (by unfold S3m; omega) (by unfold S3m; omega) (by unfold S3m; omega)) (k1.fr f2 (fun j hj => by unfold S3m; omega)) r2 (hV.up (by omega) hk))
theorem CSd.et {M : ZM} {G' : Gm} {G B : Gm} {n : Int} {P : Int → Gm} {c : Int} {Q : Int → Gm} {b : Int → Int} {o : List Int} {e8 e9 : Int} (h : CSd M G B n P c Q b o e8 e9) (he : ET G G') (hG : GI G') : CSd M G' B n P c Q b o e8 e9 := ⟨h.1, ⟨h.2.1.1.et he h.2.1.2, hG⟩, h.2.2⟩
theorem IVd.et {k : Int} {G G' : Gm} {P : Int → Gm} {c : Int} {Q : Int → Gm} {b : Int → Int} {o : List Int} (h : IVd k G P c Q b o) (he : ET G G') : IVd k G' P c Q b o := ⟨h.1.et he, h.2⟩
theorem PR_load {S : Nat × (Nat → Int)} {k : Int} {M : ZM} (hI : INV S k M) (hk : k + 1 ≤ 1000) : PAIR0 S k M (fun M K => T_X8_load [zo 64] M K (fun _ _ => False)) (fun M K => T_X9_load [zo 670] M K (fun _ _ => False)) := by
  obtain ⟨G, B, n, P, c, Q, b, o, e8, e9, hC, hK, hR, hV⟩ := hI
  intro K1 hK1
  have hi := hK.2.2.1
  obtain ⟨cap, hS⟩ := hK.2.2.2.2.2.1
  have hox : OX M := ⟨Nat.le_trans (by decide) hC.2.2.1, vu M 668, hS.r0, hS.a.2.2⟩
  have hdi := prs_di B hi.2.1.1
  have hcr := hR.2.2.2.2.1.2.1
  refine ⟨B, n, G, P, c, rfl, hK.1, hi, hC.1, hox, hK.2.1.1, hK.2.1.2, hK.2.2.2.1, fun r M' f i2 e8' hbad hgood => ?_⟩
  have c1 : CMd S M' := hC.fr f (by unfold S8l; omega) (by unfold S8l; omega) (by unfold S8l; omega)
  have r1 := hR.fr f (fun j j0 j1 => by unfold S8l; omega)
  have s9 := hS.fr9 f (by unfold S8l; omega) (by unfold S8l; have := hK.2.2.2.2.2.2.1; omega)
  have q1 := hK.2.2.2.2.1.fr hK.1 f (fun j j0 j1 => by unfold S8l; omega)
  have hv := hK.2.2.2.2.2.2.1
  refine hK1 r M' c1 r1.1 (fun K2 hK2 => ⟨B, n, P, c, rfl, r1.1, r1.2.1, r1.2.2.2.1, r1.2.2.2.2.1, c1.1, fun r' M2 f2 i3 z0 h21 e12 hbad2 hgood2 => ?_⟩)
  have c2 : CMd S M2 := c1.fr f2 (by unfold SLd; omega) (by unfold SLd; omega) (by unfold SLd; omega)
  have rs2 := r1.2.2.2.2.2.1.k r1.1 f2 (by unfold SLd; omega) (by unfold SLd; omega)
  have ro2 := r1.2.2.2.2.2.2.1.k r1.1 f2 (by unfold SLd; omega) h21
  by_cases z : (prs B n).2.1 = 0
  · obtain ⟨a1, a2, a3⟩ := hgood z
    obtain ⟨b1, b2, b3⟩ := hgood2 z
    rw [r1.2.2.1] at b3
    have he := ET.of b2 hdi.1.gi
    have hv9 : IVd (k + 1) (prs B n).1 (pushP P G c) (pushC c) Q b o := hV.w hk (hdi.1.up (by have := hV.1.1; omega) hk) hcr
    have hv8 := hv9.et he
    have k1 : CSd M' (prs B n).1 B 0 (pushP P G c) (pushC c) Q b o (prs B n).2.1 (prs B n).2.2.1 := ⟨hK.1.fr f, ⟨a2, hdi.1.gi⟩, i2, a3, q1, ⟨cap, s9.1⟩, by rw [s9.2]; exact hv, e8'.1, e8'.2⟩
    have k2 := (k1.et he hv8.1.gi).fr f2 (fun j hj => by unfold SLd; omega)
    have r2 := r1.w9 f2 rfl i3 b3 rs2 ro2 e12.1 e12.2
    rw [b1, ← a1]
    exact hK2 M2 (INV.mk c2 k2 r2 hv8)
  · obtain ⟨a1, a2, a3⟩ := hbad z
    obtain ⟨b1, b2, b3⟩ := hbad2 z
    have k1 : CSd M' G B 0 P c Q b o (prs B n).2.1 (prs B n).2.2.1 := ⟨hK.1.fr f, ⟨a2, hK.2.1.2⟩, i2, a3, q1, ⟨cap, s9.1⟩, by rw [s9.2]; exact hv, e8'.1, e8'.2⟩
    have k2 := k1.fr f2 (fun j hj => by unfold SLd; omega)
    have r2 := r1.w9 f2 (b2.trans r1.2.2.1) i3 b3 rs2 ro2 e12.1 e12.2
    rw [b1, ← a1]
    exact hK2 M2 (INV.mk c2 k2 r2 (hV.up (by omega) hk))
/-- the reference has made its change, to numbers that show the class's table -/
theorem INV.we {S : Nat × (Nat → Int)} {k : Int} {M1 M2 : ZM} {G Gc B : Gm} {n : Int} {P P' : Int → Gm} {c c' : Int} {Q : Int → Gm} {b : Int → Int} {o : List Int} {e8 e9 : Int} (hC : CMd S M1) (hK : CSd M1 Gc B n P' c' Q b o e8 e9) (hR : RSd M1 G B n P c Q b o e8 e9) (f : Fr SYw M1 M2) (hf : ∀ f, f ≠ 0 → f ≠ 19 → zI M2 670 f = zI M1 670 f) (he : ET Gc (zI M2 671)) (hH : RH M2 P' c') (hV : IVd k Gc P' c' Q b o) : INV S k M2 := by
  have hV' := hV.et he
  exact INV.w hC (hK.et he hV'.1.gi) hR f hf rfl hH hV'
theorem PR_undo {S : Nat × (Nat → Int)} {k : Int} {M : ZM} (hI : INV S k M) (hk : k + 1 ≤ 1000) : PAIR S k M (fun M K => T_L_undo [zo 64, zo 681] M K) (fun M K => T_X9_undo [zo 670] M K (fun _ _ => False)) := by
  obtain ⟨G, B, n, P, c, Q, b, o, e8, e9, hC, hK, hR, hV⟩ := hI
  have hg := hR.2.2.1
  have hcr := hR.2.2.2.2.1.2.1
  refine PAIR.wr (x := if 0 < c then 0 else 1) (v := c - 1) (Gc := P (c - 1)) (B' := B) (n' := n) (P' := P) (c' := c - 1) (Q' := Q) (b' := b) (o' := o) hC hK hR hV hk (by split <;> decide) (fun K h0 h1 => ?_) (fun q M1 K c1 k1 r1 hK9 => ?_) (fun q K hK9 => ?_)
  · refine ⟨P, c, rfl, hC.2.2.2.1, hK.1, hK.2.2.2.1, fun q M' f t1 q1 => ?_, fun q => ?_⟩
    · exact h0 (if_pos q) M' (hC.fr f (by unfold SCw; omega) (by unfold SCw; omega) (by unfold SCw; omega)) (hK.w f t1 (hV.2.1.top (by omega)).gi q1) (hR.fr f (fun j j0 j1 => by unfold SCw; omega))
    · have z := h1 (by rw [if_neg (by omega)]; decide)
      rw [if_neg (by omega)] at z
      exact z
  · have hq : 0 < c := by
      by_cases z : 0 < c
      · exact z
      · rw [if_neg z] at q; exact absurd q (by decide)
    refine ⟨P, c, rfl, r1.1, r1.2.2.2.2.1, fun _ M2 f hf z0 hj hh => ?_, fun z => by omega⟩
    have hiv := hV.2.1.top (by omega)
    have he := ET.of (g := P (c - 1)) (g' := zI M2 671) hj hiv.gi
    have hv9 : IVd k (P (c - 1)) P (c - 1) Q b o := ⟨hiv, hV.2.1.pop, hV.2.2⟩
    exact hK9 M2 z0 (c1.e59 f SYw_59) (INV.we c1 k1 r1 f hf he hh (hv9.up (by omega) hk))
  · have hq : ¬ 0 < c := fun z => q (if_pos z)
    rw [if_neg hq] at hK9
    exact ⟨P, c, rfl, hR.1, hR.2.2.2.2.1, fun z => absurd z hq, fun _ => hK9⟩
theorem PR_restore {S : Nat × (Nat → Int)} {k : Int} {M : ZM} (hI : INV S k M) (hk : k + 1 ≤ 1000) (s : Int) : PAIR S k M (fun M K => T_L_restore [zo 64, zi s, zo 681] M K) (fun M K => T_X9_restore [zo 670, zi s] M K (fun _ _ => False)) := by
  obtain ⟨G, B, n, P, c, Q, b, o, e8, e9, hC, hK, hR, hV⟩ := hI
  have hg := hR.2.2.1
  have hcr := hR.2.2.2.2.1.2.1
  refine PAIR.wr (x := if 0 ≤ s ∧ s < 2 then (if b s = 0 then 2 else 0) else 1) (v := Q s 3) (Gc := Q s) (B' := B) (n' := n) (P' := pushP P G c) (c' := pushC c) (Q' := Q) (b' := b) (o' := o) hC hK hR hV hk (by (repeat' split) <;> decide) (fun K h0 h1 => ?_) (fun q M1 K c1 k1 r1 hK9 => ?_) (fun q K hK9 => ?_)
  · refine ⟨G, P, Q, b, c, s, rfl, hC.2.2.2.1, hK.1, hK.2.1.1, hK.2.1.2, hK.2.2.2.1, hK.2.2.2.2.1, fun q M' f t1 q1 => ?_, fun q => ?_, fun q => ?_⟩
    · exact h0 (by rw [if_pos q.1, if_neg q.2]) M' (hC.fr f (by unfold SCw; omega) (by unfold SCw; omega) (by unfold SCw; omega)) (hK.w f t1 (hV.2.2.1 s q.1.1 q.1.2 q.2).gi q1) (hR.fr f (fun j j0 j1 => by unfold SCw; omega))
    · have z := h1 (by rw [if_neg q]; decide)
      rw [if_neg q] at z
      exact z
    · have z := h1 (by rw [if_pos q.1, if_pos q.2]; decide)
      rw [if_pos q.1, if_pos q.2] at z
      exact z
  · have hq : (0 ≤ s ∧ s < 2) ∧ b s ≠ 0 := by
      by_cases z : 0 ≤ s ∧ s < 2
      · rw [if_pos z] at q
        by_cases z2 : b s = 0
        · rw [if_pos z2] at q; exact absurd q (by decide)
        · exact ⟨z, z2⟩
      · rw [if_neg z] at q; exact absurd q (by decide)
    have h9 := r1.2.2.2.2.2.1 s hq.1.1 hq.1.2
    have hj9 := h9.2 hq.2
    have e1 := r1.2.2.1
    refine ⟨P, c, s, rfl, r1.1, r1.2.2.2.2.1, fun s0 hb M2 f hf z0 hj hh => ?_, fun z => absurd ⟨hq.1.1, by omega⟩ z, fun _ z => absurd (h9.1.symm.trans z) hq.2⟩
    rw [hj9 3 (by decide)]
    rw [e1] at hh
    have hiv := hV.2.2.1 s hq.1.1 hq.1.2 hq.2
    have he := ET.of (g := Q s) (g' := zI M2 671) (fun j hj' => (hj j hj').trans (hj9 j hj')) hiv.gi
    exact hK9 M2 z0 (c1.e59 f SYw_59) (INV.we c1 k1 r1 f hf he hh (hV.w hk (hiv.up (by omega) hk) hcr))
  · by_cases z : 0 ≤ s ∧ s < 2
    · have hb : b s = 0 := by
        by_cases z2 : b s = 0
        · exact z2
        · exact absurd (by rw [if_pos z, if_neg z2]) q
      have h9 := hR.2.2.2.2.2.1 s z.1 z.2
      rw [if_pos z, if_pos hb] at hK9
      exact ⟨P, c, s, rfl, hR.1, hR.2.2.2.2.1, fun s0 hb' => absurd (h9.1.trans hb) hb', fun z' => absurd ⟨z.1, by omega⟩ z', fun _ _ => hK9⟩
    · rw [if_neg z] at hK9
      exact ⟨P, c, s, rfl, hR.1, hR.2.2.2.2.1, fun s0 => absurd ⟨s0.1, by omega⟩ z, fun _ => hK9, fun s0 => absurd ⟨s0.1, by omega⟩ z⟩
theorem CSd.kp {M M' : ZM} {Q' : Int → Gm} {b' : Int → Int} {G B : Gm} {n : Int} {P : Int → Gm} {c : Int} {Q : Int → Gm} {b : Int → Int} {o : List Int} {e8 e9 : Int} (h : CSd M G B n P c Q b o e8 e9) (f : Fr SKp M M') (hQ' : SQ M' Q' b') : CSd M' G B n P c Q' b' o e8 e9 := by
  obtain ⟨hL, ⟨hT, hG⟩, hI, hR, -, ⟨cap, hS⟩, hv, h8, h9⟩ := h
  have ns : ∀ j, j < 544 ∨ 663 < j → ¬ SKp j := fun j a => by unfold SKp; omega
  have s9 := hS.fr9 f (ns _ (by omega)) (ns _ (by omega))
  have e64 : zI M' 64 = zI M 64 := f.i hL.w (ns _ (by omega))
  exact ⟨hL.fr f, ⟨hT.fr9 hL.tab f hG (fun j j0 j1 => ns j (by omega)), hG⟩, hI.fr hL f (ns _ (by omega)) ⟨ns _ (by omega), ns _ (by omega), ns _ (by omega)⟩, hR.fr hL f (fun j j0 j1 => ns j (by omega)), hQ', ⟨cap, s9.1⟩, by rw [s9.2]; exact hv, by rw [e64]; exact h8, by rw [e64]; exact h9⟩
theorem PR_keep {S : Nat × (Nat → Int)} {k : Int} {M : ZM} (hI : INV S k M) (hk : k + 1 ≤ 1000) (s : Int) : PAIR S k M (fun M K => T_L_keep [zo 64, zi s, zo 681] M K) (fun M K => T_X9_keep [zo 670, zi s] M K (fun _ _ => False)) := by
  obtain ⟨G, B, n, P, c, Q, b, o, e8, e9, hC, hK, hR, hV⟩ := hI
  have hg := hR.2.2.1
  refine PAIR.wr (x := if 0 ≤ s ∧ s < 2 then 0 else 1) (v := G 3) (Gc := G) (B' := B) (n' := n) (P' := P) (c' := c) (Q' := fun z => if z = s then G else Q z) (b' := fun z => if z = s then 1 else b z) (o' := o) hC hK hR hV hk (by split <;> decide) (fun K h0 h1 => ?_) (fun q M1 K c1 k1 r1 hK9 => ?_) (fun q K hK9 => ?_)
  · refine ⟨G, Q, b, s, rfl, hC.2.2.2.1, hK.1, hK.2.1.1, hK.2.1.2, hK.2.2.2.2.1, fun q M' f q1 => ?_, fun q => ?_⟩
    · exact h0 (if_pos q) M' (hC.fr f (by unfold SKp; omega) (by unfold SKp; omega) (by unfold SKp; omega)) (hK.kp f q1) (hR.fr f (fun j j0 j1 => by unfold SKp; omega))
    · have z := h1 (by rw [if_neg q]; decide)
      rw [if_neg q] at z
      exact z
  · have hq : 0 ≤ s ∧ s < 2 := by
      by_cases z : 0 ≤ s ∧ s < 2
      · exact z
      · rw [if_neg z] at q; exact absurd q (by decide)
    have e1 := r1.2.2.1
    refine ⟨s, rfl, r1.1, fun s0 M2 f hf z0 hj ho hb hbo => ?_, fun z => absurd ⟨hq.1, by omega⟩ z⟩
    rw [e1]
    have rs : RS M2 (fun z => if z = s then G else Q z) (fun z => if z = s then 1 else b z) := by
      intro z z0 z1
      have h9 := r1.2.2.2.2.2.1 z z0 z1
      by_cases zs : z = s
      · subst zs
        refine ⟨hb.trans (show (1 : Int) = if z = z then 1 else b z by rw [if_pos rfl]), fun _ j j1 => ?_⟩
        show _ = (if z = z then G else Q z) j
        rw [if_pos rfl, hj j j1, e1]
      · refine ⟨(hbo _ (by omega)).trans (h9.1.trans (show b z = if z = s then 1 else b z by rw [if_neg zs])), fun hz j j1 => ?_⟩
        have hz' : (if z = s then 1 else b z) ≠ 0 := hz
        rw [if_neg zs] at hz'
        show _ = (if z = s then G else Q z) j
        rw [if_neg zs, ho _ (by omega)]
        exact h9.2 hz' j j1
    have r2 := r1.w9 f ((f.i r1.1.a1 (by decide)).trans e1) (r1.2.2.2.1.k r1.1 f (by decide) (hf 6 (by decide))) (r1.2.2.2.2.1.fr r1.1 f (by decide) (hf 19 (by decide))) rs (r1.2.2.2.2.2.2.1.k r1.1 f (by decide) (hf 21 (by decide))) ((hf 12 (by decide)).trans r1.2.2.2.2.2.2.2.1) ((hf 13 (by decide)).trans r1.2.2.2.2.2.2.2.2)
    refine hK9 M2 z0 (c1.e59 f (by decide)) (INV.mk (c1.fr f (by decide) (by decide) (by decide)) (k1.fr f (fun j hj => by show ¬ (j = 670 ∨ j = 677 ∨ j = 678); omega)) r2 ?_)
    have hu := hV.up (show k ≤ k + 1 by omega) hk
    refine ⟨hu.1, hu.2.1, fun z z0 z1 hz => ?_, hu.2.2.2⟩
    show IV (k + 1) (if z = s then G else Q z)
    by_cases zs : z = s
    · rw [if_pos zs]; exact hu.1
    · have hz' : (if z = s then 1 else b z) ≠ 0 := hz
      rw [if_neg zs] at hz' ⊢
      exact hu.2.2.1 z z0 z1 hz'
  · have hq : ¬ (0 ≤ s ∧ s < 2) := fun z => q (if_pos z)
    rw [if_neg hq] at hK9
    exact ⟨s, rfl, hR.1, fun z => absurd ⟨z.1, by omega⟩ hq, fun _ => hK9⟩
