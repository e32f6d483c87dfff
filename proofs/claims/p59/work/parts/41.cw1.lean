theorem zIs (M : ZM) (j k : Nat) (v : Int) : zI (zsI M j k v) j k = v := zI_Is M j k v
theorem zIm (M : ZM) (j : Nat) {k y : Nat} (v : Int) (h : y ≠ k) : zI (zsI M j k v) j y = zI M j y := zI_Im M j v h
theorem zIn (M : ZM) {j x : Nat} (k : Nat) (v : Int) (h : x ≠ j) {y : Nat} : zI (zsI M j k v) x y = zI M x y := congrFun (zI_In M k v h) y
theorem zIrf (M : ZM) (j k : Nat) (v : Option Nat) (x y : Nat) : zI (zsR M j k v) x y = zI M x y := rfl
theorem Fr_R {M : ZM} {S : Nat → Prop} {j κ k : Nat} {v : Option Nat} (hw : zW M j κ) (h0 : κ = 10 ∧ j ≠ 668) (hs : S j) : Fr S M (zsR M j k v) := by
  refine ⟨Nat.le_refl _, fun x _ => ⟨rfl, rfl, fun q => ⟨rfl, funext (fun y => up2_n _ _ _ _ y (fun e => q (e ▸ hs)))⟩, fun y q1 q2 => ?_⟩, fun s l h => ?_⟩
  · exact up2_n _ _ _ _ y (fun e => by have h9 := hw.1; rw [← e, h0.1] at h9; contradiction)
  · obtain ⟨a1, a2, u, a3, a4, a5, a7, a6⟩ := h
    have e1 : s ≠ j := fun e => by have h8 := a1.1; have h9 := hw.1; rw [e] at h8; omega
    exact ⟨a1, a2, u, (up2_n _ _ _ _ 0 e1).trans a3, a4, a5, ⟨a7.1, fun z => a7.2 ((up2_n _ _ _ _ 0 (Ne.symm h0.2)).symm.trans z)⟩, a6⟩
def STb (t : Nat) (j : Nat) : Prop := t ≤ j ∧ j < t + 59
/-- the finishers of a row -/
def RFn (M : ZM) (j : Nat) (G : Gm) (r : Int) : Prop := (G (132 + 16 * r + 1).toNat) = 2 → (0 ≤ zI M j 6 ∧ zI M j 6 < 6) ∧ (0 ≤ zI M j 7 ∧ zI M j 7 < 6) ∧ zI M j 6 ≠ zI M j 7 ∧ zI M j 6 < G 4 ∧ zI M j 7 < G 4 ∧ (G (132 + 16 * r + 5).toNat) = zor (zshl 1 (zI M j 6)) (zshl 1 (zI M j 7))
/-- the takings of a row of the class -/
def CT (M : ZM) (j : Nat) (l : List T3) : Prop := zI M j 8 = (l.length : Int) ∧ ∀ (k : Nat) (x : T3), l[k]? = some x → zI M (j + 1) (k * 3) = x.1 ∧ zI M (j + 1) (k * 3 + 1) = x.2.1 ∧ zI M (j + 1) (k * 3 + 2) = x.2.2
theorem RRc.ct {M : ZM} {j : Nat} {G : Gm} {r : Int} {l : List T3} (h : RRc M j G r) (hl : RwT G r l) : CT M j l := by
  refine ⟨h.1.2.2.2.2.2.2.trans hl.1, fun k x hx => ?_⟩
  have hk := (List.getElem?_eq_some_iff.mp hx).1
  have h9 := h.2 (k : Int) (by omega) (by rw [hl.1]; omega)
  rw [show ((k : Int) * 3).toNat = k * 3 by omega, show ((k : Int) * 3 + 1).toNat = k * 3 + 1 by omega, show ((k : Int) * 3 + 2).toNat = k * 3 + 2 by omega] at h9
  have h8 := hl.2 k x hx
  rw [← h8]
  exact h9
theorem RRc.mk {M : ZM} {j : Nat} {G : Gm} {r : Int} {l : List T3} (h0 : zI M j 0 = (G (132 + 16 * r + 0).toNat)) (h1 : zI M j 1 = (G (132 + 16 * r + 1).toNat)) (h2 : zI M j 2 = (G (132 + 16 * r + 2).toNat)) (h3 : zI M j 3 = b2i (decide ((G (132 + 16 * r + 3).toNat) ≠ -1))) (h4 : zI M j 4 = (G (132 + 16 * r + 3).toNat)) (h5 : zI M j 5 = (G (132 + 16 * r + 4).toNat)) (hc : CT M j l) (hl : RwT G r l) : RRc M j G r := by
  refine ⟨⟨h0, h1, h2, h3, h4, h5, hc.1.trans hl.1.symm⟩, fun k k0 k1 => ?_⟩
  rw [hl.1] at k1
  have hk : k.toNat < l.length := by omega
  have h9 := hc.2 k.toNat _ (List.getElem?_eq_getElem hk)
  have h8 := hl.2 k.toNat _ (List.getElem?_eq_getElem hk)
  rw [show ((k.toNat : Nat) : Int) = k by omega] at h8
  rw [← h8, show k.toNat * 3 + 1 = (k * 3 + 1).toNat by omega, show k.toNat * 3 + 2 = (k * 3 + 2).toNat by omega, show k.toNat * 3 = (k * 3).toNat by omega] at h9
  exact h9
theorem TR.rrc {M : ZM} {t : Nat} {G : Gm} (h : TR M t G) {r : Int} (h0 : 0 ≤ r) (h1 : r < G 5) : RRc M (t + 11 + 2 * r.toNat) G r := (TR_iff.mp h).1.2.2.1 r h0 h1
theorem TR.rfn {M : ZM} {t : Nat} {G : Gm} (h : TR M t G) {r : Int} (h0 : 0 ≤ r) (h1 : r < G 5) : RFn M (t + 11 + 2 * r.toNat) G r := (TR_iff.mp h).2.1 r h0 h1
theorem TR.wrc {M : ZM} {t : Nat} {G : Gm} (h : TR M t G) {w : Int} (h0 : 0 ≤ w) (h1 : w < G 4) : WRc M (t + 5 + w.toNat) G w := (TR_iff.mp h).1.2.1 w h0 h1
/-- a table anew out of its parts -/
theorem TR.step {M M' : ZM} {t : Nat} {G G' : Gm} (h : TR M t G) (e4 : G 4 ≤ G' 4)
    (hT : ∀ k : Nat, k < 6 → zI M' t k = G' k)
    (hW : ∀ w, 0 ≤ w → w < G' 4 → (w < G 4 ∧ zI M' (t + 5 + w.toNat) = zI M (t + 5 + w.toNat) ∧ ∀ n : Int, 0 ≤ n → n < 9 → G' (6 + 9 * w + n).toNat = G (6 + 9 * w + n).toNat) ∨ WRc M' (t + 5 + w.toNat) G' w)
    (hN : ∀ w, 0 ≤ w → w < G' 4 → WRn M' (t + 5 + w.toNat) (G' (6 + 9 * w + 0).toNat))
    (hI : ∀ w, 0 ≤ w → w < G' 4 → zI M' (t + 5 + w.toNat) 4 = fInWork G' w)
    (hR : ∀ r, 0 ≤ r → r < G' 5 → (r < G 5 ∧ (RI G r) ∧ (∀ q, q ≤ 1 → zI M' (t + 11 + 2 * r.toNat + q) = zI M (t + 11 + 2 * r.toNat + q)) ∧ ∀ n : Int, 0 ≤ n → n < 16 → G' (132 + 16 * r + n).toNat = G (132 + 16 * r + n).toNat) ∨ (RRc M' (t + 11 + 2 * r.toNat) G' r ∧ RFn M' (t + 11 + 2 * r.toNat) G' r))
    (hP : ∀ a b : Int, 0 ≤ a → a < 6 → 0 ≤ b → b < 6 → zI M' (t + 3) (fPix a b).toNat = G' (96 + 6 * a + b).toNat ∧ zI M' (t + 4) (fPix a b).toNat = G' (60 + 6 * a + b).toNat) : TR M' t G' := by
  refine TR_iff.mpr ⟨⟨hT, fun w w0 w1 => ?_, fun r r0 r1 => ?_, hP⟩, fun r r0 r1 => ?_, hN, hI⟩
  · rcases hW w w0 w1 with ⟨q0, q1, q2⟩ | q
    · have d := h.wrc w0 q0
      unfold WRc at d
      rw [q1, q2 1 (by decide) (by decide), q2 2 (by decide) (by decide), q2 3 (by decide) (by decide), q2 4 (by decide) (by decide), q2 5 (by decide) (by decide), q2 6 (by decide) (by decide), q2 7 (by decide) (by decide), q2 8 (by decide) (by decide)]
      exact d
    · exact q
  · rcases hR r r0 r1 with ⟨q0, qR, q1, q2⟩ | q
    · have d := h.rrc r0 q0
      have hm := qR.2.1
      unfold RRc at d
      rw [show zI M' (t + 11 + 2 * r.toNat) = zI M (t + 11 + 2 * r.toNat) from q1 0 (by decide), q1 1 (by decide)]
      rw [q2 0 (by decide) (by decide), q2 1 (by decide) (by decide), q2 2 (by decide) (by decide), q2 3 (by decide) (by decide), q2 4 (by decide) (by decide), q2 6 (by decide) (by decide)]
      refine ⟨d.1, fun k k0 k1 => ?_⟩
      rw [q2 (7 + 3 * k + 0) (by omega) (by omega), q2 (7 + 3 * k + 1) (by omega) (by omega), q2 (7 + 3 * k + 2) (by omega) (by omega)]
      exact d.2 k k0 k1
    · exact q.1
  · rcases hR r r0 r1 with ⟨q0, qR, q1, q2⟩ | q
    · have d := h.rfn r0 q0
      unfold RFn at d
      rw [show zI M' (t + 11 + 2 * r.toNat) = zI M (t + 11 + 2 * r.toNat) from q1 0 (by decide), q2 1 (by decide) (by decide), q2 5 (by decide) (by decide)]
      intro z
      have d9 := d z
      exact ⟨d9.1, d9.2.1, d9.2.2.1, by omega, by omega, d9.2.2.2.2.2⟩
    · exact q.2
def works (l : List T3) (w : Int) : Bool := l.any (fun x => decide (x.1 = w ∧ x.2.1 = -1))
def XL (l : List T3) : Prop := l.Pairwise (fun x y => x.1 ≠ y.1)
theorem RwT.xl {G : Gm} {r : Int} {l : List T3} (h : RwT G r l) (hd : ∀ k m : Int, 0 ≤ k → k < m → m < (G (132 + 16 * r + 6).toNat) → (G (132 + 16 * r + (7 + 3 * k + 0)).toNat) ≠ (G (132 + 16 * r + (7 + 3 * m + 0)).toNat)) : XL l := by
  refine List.pairwise_iff_getElem.mpr (fun i j hi hj hij => ?_)
  have h1 := h.2 i _ (List.getElem?_eq_getElem hi)
  have h2 := h.2 j _ (List.getElem?_eq_getElem hj)
  have h3 := hd i j (by omega) (by omega) (by rw [h.1]; omega)
  rw [← h1, ← h2]
  exact h3
theorem fWorksAt_tk {G : Gm} {r w : Int} {l : List T3} (h : RwT G r l) (hx : XL l) : fWorksAt G w r = works l w := by
  have hm : 0 ≤ (G (132 + 16 * r + 6).toNat) := by rw [h.1]; omega
  have hk : ∀ k : Int, 0 ≤ k → k < (G (132 + 16 * r + 6).toNat) → ∃ x, l[k.toNat]? = some x ∧ (G (132 + 16 * r + (7 + 3 * k + 0)).toNat) = x.1 ∧ (G (132 + 16 * r + (7 + 3 * k + 1)).toNat) = x.2.1 := fun k k0 k1 => by
    rw [h.1] at k1
    have hk : k.toNat < l.length := by omega
    have h9 := h.2 k.toNat _ (List.getElem?_eq_getElem hk)
    rw [show ((k.toNat : Nat) : Int) = k by omega] at h9
    exact ⟨_, List.getElem?_eq_getElem hk, congrArg (fun z : T3 => z.1) h9, congrArg (fun z : T3 => z.2.1) h9⟩
  have hmem : ∀ x, x ∈ l → ∃ k : Int, 0 ≤ k ∧ k < (G (132 + 16 * r + 6).toNat) ∧ l[k.toNat]? = some x ∧ (G (132 + 16 * r + (7 + 3 * k + 0)).toNat) = x.1 ∧ (G (132 + 16 * r + (7 + 3 * k + 1)).toNat) = x.2.1 := fun x hx => by
    obtain ⟨n, hn⟩ := List.getElem?_of_mem hx
    have hn2 := (List.getElem?_eq_some_iff.mp hn).1
    obtain ⟨y, y1, y2, y3⟩ := hk (n : Int) (by omega) (by rw [h.1]; omega)
    rw [Int.toNat_natCast, hn] at y1
    cases y1
    exact ⟨(n : Int), by omega, by rw [h.1]; omega, by rw [Int.toNat_natCast]; exact hn, y2, y3⟩
  have hf := fndI_r (fun k => decide ((G (132 + 16 * r + (7 + 3 * k + 0)).toNat) = w)) hm
  unfold fWorksAt works
  show (if fndI (fun k => decide ((G (132 + 16 * r + (7 + 3 * k + 0)).toNat) = w)) (G (132 + 16 * r + 6).toNat) = -1 then false else decide ((G (132 + 16 * r + (7 + 3 * (fTakingOf G w r) + 1)).toNat) = -1)) = _
  unfold fTakingOf
  rcases hf with ⟨f1, f2⟩ | ⟨f1, f2, f3, f4⟩
  · rw [if_pos f1]
    refine (Bool.eq_false_iff.mpr (fun q => ?_)).symm
    obtain ⟨x, x1, x2⟩ := List.any_eq_true.mp q
    obtain ⟨k, k0, k1, -, k3, -⟩ := hmem x x1
    have h9 := f2 k k0 k1
    rw [decide_eq_false_iff_not] at h9
    rw [decide_eq_true_eq] at x2
    exact h9 (k3.trans x2.1)
  · generalize fndI (fun k => decide ((G (132 + 16 * r + (7 + 3 * k + 0)).toNat) = w)) (G (132 + 16 * r + 6).toNat) = k at *
    rw [if_neg (by omega)]
    obtain ⟨x, x1, x2, x3⟩ := hk k f1 f2
    rw [decide_eq_true_eq] at f3
    by_cases q : (G (132 + 16 * r + (7 + 3 * k + 1)).toNat) = -1
    · rw [decide_eq_true q]
      exact (List.any_eq_true.mpr ⟨x, List.mem_of_getElem? x1, by rw [decide_eq_true_eq]; exact ⟨x2.symm.trans f3, x3.symm.trans q⟩⟩).symm
    · rw [decide_eq_false q]
      refine (Bool.eq_false_iff.mpr (fun z => ?_)).symm
      obtain ⟨y, y1, y2⟩ := List.any_eq_true.mp z
      rw [decide_eq_true_eq] at y2
      obtain ⟨m, m0, m1, m2, m3, m4⟩ := hmem y y1
      have hxy : x.1 = y.1 := (x2.symm.trans f3).trans y2.1.symm
      have e : k = m := by
        have hp := List.pairwise_iff_getElem.mp hx
        have k9 := List.getElem?_eq_some_iff.mp x1
        have m9 := List.getElem?_eq_some_iff.mp m2
        obtain ⟨k8, k7⟩ := k9
        obtain ⟨m8, m7⟩ := m9
        by_cases e1 : k.toNat < m.toNat
        · exact absurd hxy (by have := hp k.toNat m.toNat k8 m8 e1; rw [k7, m7] at this; exact this)
        · by_cases e2 : m.toNat < k.toNat
          · exact absurd hxy.symm (by have := hp m.toNat k.toNat m8 k8 e2; rw [k7, m7] at this; exact this)
          · omega
      rw [← e] at m4
      exact q (m4.trans y2.2)
theorem cntI_upd {p p' : Int → Bool} {n r : Int} (h0 : 0 ≤ r) (h1 : r < n) (e : ∀ i, 0 ≤ i → i < n → i ≠ r → p' i = p i) : cntI p' n = cntI p n - b2i (p r) + b2i (p' r) := by
  have key : ∀ i, 0 ≤ i → i ≤ n → cntI p' i = cntI p i + (if r < i then b2i (p' r) - b2i (p r) else 0) := by
    refine zup (fun i => cntI p' i = cntI p i + (if r < i then b2i (p' r) - b2i (p r) else 0)) (by rw [if_neg (by omega)]; rfl) (fun i i0 i1 ih => ?_)
    have ih : cntI p' i = cntI p i + (if r < i then b2i (p' r) - b2i (p r) else 0) := ih
    show cntI p' (i + 1) = cntI p (i + 1) + (if r < i + 1 then b2i (p' r) - b2i (p r) else 0)
    rw [cntI_s i0, cntI_s i0]
    have hpe := e i i0 i1
    generalize cntI p i = A at ih ⊢
    generalize cntI p' i = A' at ih ⊢
    by_cases q : i = r
    · rw [if_neg (show ¬ r < i by omega)] at ih
      rw [if_pos (show r < i + 1 by omega), q]
      cases p r <;> cases p' r <;> simp only [b2i, if_true, if_false, Bool.false_eq_true] <;> omega
    · rw [hpe q]
      by_cases z : r < i
      · rw [if_pos z] at ih
        rw [if_pos (show r < i + 1 by omega)]
        split <;> omega
      · rw [if_neg z] at ih
        rw [if_neg (show ¬ r < i + 1 by omega)]
        split <;> omega
  rw [key n (by omega) (Int.le_refl _), if_pos h1]
  omega
def T_X7_copyFrom : ZTf := fun av M K KX => ∃ (j s x : Nat), av = [zo j, zo s] ∧ (zW M j 10) ∧ (zW M s 10) ∧ (j ≠ s ∧ j < 668) ∧ (zR M s 0 = some x) ∧ (∀ M' : ZM, Fr (fun q => q = j) M M' → (∀ k : Nat, 1 ≤ k → k ≤ 9 → zI M' j k = zI M s k) → zR M' j 0 = some x → K none M')
set_option maxRecDepth 100000 in
set_option maxHeartbeats 4000000 in
theorem bd_X7_copyFrom : zBd (cd_X7_copyFrom) 2 0 0 T_X7_copyFrom := by
  rintro av M K KX hA0 hM ⟨j, s, x, rfl, hj, hs, hne, hx, hK⟩
  refine ⟨rfl, fun Φ hΦ => ?_⟩
  refine zGoR hΦ [] 400 (fun hL9 _ hM _ _ => ?_)
  obtain ⟨_⟩ : True := hL9
  refine ⟨hs, _, hx, ⟨hj, ⟨hs, zIr ((zIrf _ _ _ _ _ _)) (⟨⟨hj, trivial⟩, ⟨hs, zIr ((zIn _ _ _ (by omega)).trans ((zIrf _ _ _ _ _ _))) (⟨⟨hj, trivial⟩, ⟨hs, zIr ((zIn _ _ _ (by omega)).trans ((zIn _ _ _ (by omega)).trans ((zIrf _ _ _ _ _ _)))) (⟨⟨hj, trivial⟩, ⟨hs, zIr ((zIn _ _ _ (by omega)).trans ((zIn _ _ _ (by omega)).trans ((zIn _ _ _ (by omega)).trans ((zIrf _ _ _ _ _ _))))) (⟨⟨hj, trivial⟩, ⟨hs, zIr ((zIn _ _ _ (by omega)).trans ((zIn _ _ _ (by omega)).trans ((zIn _ _ _ (by omega)).trans ((zIn _ _ _ (by omega)).trans ((zIrf _ _ _ _ _ _)))))) (⟨⟨hj, trivial⟩, ⟨hs, zIr ((zIn _ _ _ (by omega)).trans ((zIn _ _ _ (by omega)).trans ((zIn _ _ _ (by omega)).trans ((zIn _ _ _ (by omega)).trans ((zIn _ _ _ (by omega)).trans ((zIrf _ _ _ _ _ _))))))) (⟨⟨hj, trivial⟩, ⟨hs, zIr ((zIn _ _ _ (by omega)).trans ((zIn _ _ _ (by omega)).trans ((zIn _ _ _ (by omega)).trans ((zIn _ _ _ (by omega)).trans ((zIn _ _ _ (by omega)).trans ((zIn _ _ _ (by omega)).trans ((zIrf _ _ _ _ _ _)))))))) (⟨⟨hj, trivial⟩, ⟨hs, zIr ((zIn _ _ _ (by omega)).trans ((zIn _ _ _ (by omega)).trans ((zIn _ _ _ (by omega)).trans ((zIn _ _ _ (by omega)).trans ((zIn _ _ _ (by omega)).trans ((zIn _ _ _ (by omega)).trans ((zIn _ _ _ (by omega)).trans ((zIrf _ _ _ _ _ _))))))))) (⟨⟨hj, trivial⟩, ⟨hs, zIr ((zIn _ _ _ (by omega)).trans ((zIn _ _ _ (by omega)).trans ((zIn _ _ _ (by omega)).trans ((zIn _ _ _ (by omega)).trans ((zIn _ _ _ (by omega)).trans ((zIn _ _ _ (by omega)).trans ((zIn _ _ _ (by omega)).trans ((zIn _ _ _ (by omega)).trans ((zIrf _ _ _ _ _ _)))))))))) (⟨⟨hj, trivial⟩, (show K none (zsI (zsI (zsI (zsI (zsI (zsI (zsI (zsI (zsI (zsR M j 0 (some x)) j 1 (zI M s 1)) j 2 (zI M s 2)) j 3 (zI M s 3)) j 4 (zI M s 4)) j 5 (zI M s 5)) j 6 (zI M s 6)) j 7 (zI M s 7)) j 8 (zI M s 8)) j 9 (zI M s 9)) from ?g247l1)⟩)⟩⟩)⟩⟩)⟩⟩)⟩⟩)⟩⟩)⟩⟩)⟩⟩)⟩⟩)⟩⟩⟩
  case g247l1 =>
    refine hK _ ((((((((((Fr_R hj ⟨rfl, by omega⟩ (by rfl)).tr (Fr_I hj (by decide) (by decide) (by rfl))).tr (Fr_I hj (by decide) (by decide) (by rfl))).tr (Fr_I hj (by decide) (by decide) (by rfl))).tr (Fr_I hj (by decide) (by decide) (by rfl))).tr (Fr_I hj (by decide) (by decide) (by rfl))).tr (Fr_I hj (by decide) (by decide) (by rfl))).tr (Fr_I hj (by decide) (by decide) (by rfl))).tr (Fr_I hj (by decide) (by decide) (by rfl))).tr (Fr_I hj (by decide) (by decide) (by rfl))) (fun k k0 k1 => ?_) ?_
    · have h9 : k = 1 ∨ k = 2 ∨ k = 3 ∨ k = 4 ∨ k = 5 ∨ k = 6 ∨ k = 7 ∨ k = 8 ∨ k = 9 := by omega
      rcases h9 with q | q | q | q | q | q | q | q | q <;> subst q <;> simp (disch := omega) only [zIs, zIm, zIn, zIrf]
    · exact up2_s _ _ _ _
theorem M_X7_copyFrom {l : Launch} (hl : l.stackTraces = false) : zMet l yX7_copyFrom (Cond.code yX7_copyFrom cX7_copyFrom 2 (Option.none : Option Jvm.ClassFile.FieldType) :: zG) rm_X7_copyFrom 0 0 T_X7_copyFrom := met_X7_copyFrom hl bd_X7_copyFrom
theorem zcpn (M : ZM) (a b sp dp n : Nat) {x : Nat} (h : x ≠ b) : zI (zcpy M a b sp dp n) x = zI M x := (zcpy_eq M a b sp dp n h).2.2.1
theorem zcpi (M : ZM) (a b : Nat) {n k : Nat} (h : k < n) : zI (zcpy M a b 0 0 n) b k = zI M a k := by
  show (if b = b ∧ 0 ≤ k ∧ k < 0 + n then zI M a (0 + (k - 0)) else zI M b k) = zI M a k
  rw [if_pos ⟨rfl, by omega, by omega⟩]
  congr 1
  omega
theorem Fr_cp {M : ZM} {S : Nat → Prop} {a b sp dp n κ : Nat} (hw : zW M b κ) (h0 : κ ≠ 0) (h1 : κ ≠ 21) (hs : S b) : Fr S M (zcpy M a b sp dp n) := by
  refine ⟨Nat.le_refl _, fun x _ => ⟨rfl, rfl, fun q => ⟨zcpn M a b sp dp n (fun e => q (e ▸ hs)), rfl⟩, fun _ _ _ => rfl⟩, fun s l h => ?_⟩
  obtain ⟨a1, a2, u, a3, a4, a5, a7, a6⟩ := h
  have e1 : s ≠ b := fun e => by have h8 := a1.1; have h9 := hw.1; rw [e] at h8; omega
  have e2 : u ≠ b := fun e => by have h8 := a4.1; have h9 := hw.1; rw [e] at h8; omega
  exact ⟨a1, by rw [zcpn M a b sp dp n e1]; exact a2, u, a3, a4, a5, a7, fun i hi => by rw [zcpn M a b sp dp n e2]; exact a6 i hi⟩
theorem fPix_lt {a b : Int} (h0 : 0 ≤ a) (h1 : a < 6) (h2 : 0 ≤ b) (h3 : b < 6) : (fPix a b).toNat < 36 := by
  have := fPix_r h0 h1 h2 h3
  omega
/-- cells of tables that lie apart -/
def apT (d t : Nat) : Prop := d + 59 ≤ t ∨ t + 59 ≤ d
theorem TR.cp {M M' : ZM} {t d : Nat} {G : Gm} (h : TR M t G) (hz : ∀ s l, zTx M s l → zTx M' s l) (hG : ∀ r, 0 ≤ r → r < G 5 → (G (132 + 16 * r + 6).toNat) ≤ 3) (h0 : ∀ k : Nat, k < 6 → zI M' d k = zI M t k) (h1 : ∀ w : Int, 0 ≤ w → w < G 4 → (∀ k : Nat, 1 ≤ k → k ≤ 9 → zI M' (d + 5 + w.toNat) k = zI M (t + 5 + w.toNat) k) ∧ zR M' (d + 5 + w.toNat) 0 = zR M (t + 5 + w.toNat) 0) (h2 : ∀ r : Int, 0 ≤ r → r < G 5 → (∀ k : Nat, k ≤ 8 → zI M' (d + 11 + 2 * r.toNat) k = zI M (t + 11 + 2 * r.toNat) k) ∧ ∀ k : Nat, k < 9 → zI M' (d + 11 + 2 * r.toNat + 1) k = zI M (t + 11 + 2 * r.toNat + 1) k) (h3 : ∀ k : Nat, k < 36 → zI M' (d + 3) k = zI M (t + 3) k ∧ zI M' (d + 4) k = zI M (t + 4) k) : TR M' d G := by
  refine TR_iff.mpr ⟨⟨fun k hk => ?_, fun w w0 w1 => ?_, fun r r0 r1 => ?_, fun a b a0 a1 b0 b1 => ?_⟩, fun r r0 r1 => ?_, fun w w0 w1 => ?_, fun w w0 w1 => ?_⟩
  · rw [h0 k hk]
    exact (TR_iff.mp h).1.1 k hk
  · have d := h.wrc w0 w1
    have e := (h1 w w0 w1).1
    unfold WRc at d
    rw [e 1 (by decide) (by decide), e 2 (by decide) (by decide), e 3 (by decide) (by decide), e 5 (by decide) (by decide), e 6 (by decide) (by decide), e 7 (by decide) (by decide), e 8 (by decide) (by decide), e 9 (by decide) (by decide)]
    exact d
  · have d := h.rrc r0 r1
    obtain ⟨e, f⟩ := h2 r r0 r1
    have hm := hG r r0 r1
    unfold RRc at d
    rw [e 0 (by decide), e 1 (by decide), e 2 (by decide), e 3 (by decide), e 4 (by decide), e 5 (by decide), e 8 (by decide)]
    refine ⟨d.1, fun k k0 k1 => ?_⟩
    rw [f _ (by omega), f _ (by omega), f _ (by omega)]
    exact d.2 k k0 k1
  · have hp := fPix_lt a0 a1 b0 b1
    rw [(h3 _ hp).1, (h3 _ hp).2]
    exact ⟨h.st a0 a1 b0 b1, h.to a0 a1 b0 b1⟩
  · have d := h.rfn r0 r1
    obtain ⟨e, -⟩ := h2 r r0 r1
    unfold RFn at d
    rw [e 6 (by decide), e 7 (by decide)]
    exact d
  · obtain ⟨s, l, a1, a2, a3, a4⟩ := h.wn w0 w1
    exact ⟨s, l, (h1 w w0 w1).2.trans a1, hz _ _ a2, a3, a4⟩
  · rw [(h1 w w0 w1).1 4 (by decide) (by decide)]
    exact h.w4 w0 w1
def T_X4_copyFrom : ZTf := fun av M K KX => ∃ (j s : Nat), av = [zo j, zo s] ∧ (LRow M j) ∧ (LRow M s) ∧ (j + 2 ≤ s ∨ s + 2 ≤ j) ∧ (zPz (zI M s 3)) ∧ (∀ M' : ZM, Fr (fun q => j ≤ q ∧ q ≤ j + 1) M M' → (∀ k : Nat, k ≤ 8 → zI M' j k = zI M s k) → (∀ k : Nat, k < 9 → zI M' (j + 1) k = zI M (s + 1) k) → K none M')
set_option maxRecDepth 100000 in
set_option maxHeartbeats 4000000 in
theorem bd_X4_copyFrom : zBd (cd_X4_copyFrom) 2 0 0 T_X4_copyFrom := by
  rintro av M K KX hA0 hM ⟨j, s, rfl, hj, hs, hne, hz, hK⟩
  refine ⟨rfl, fun Φ hΦ => ?_⟩
  refine zGoR hΦ [] 400 (fun hL9 _ hM _ _ => ?_)
  obtain ⟨_⟩ : True := hL9
  refine ⟨hs.w, ⟨⟨hj.w, trivial⟩, ⟨hs.w, zIr ((zIn _ _ _ (by omega))) (⟨⟨hj.w, trivial⟩, ⟨hs.w, zIr ((zIn _ _ _ (by omega)).trans ((zIn _ _ _ (by omega)))) (⟨⟨hj.w, trivial⟩, ⟨hs.w, zIr ((zIn _ _ _ (by omega)).trans ((zIn _ _ _ (by omega)).trans ((zIn _ _ _ (by omega))))) (⟨⟨hj.w, hz⟩, ⟨hs.w, zIr ((zIn _ _ _ (by omega)).trans ((zIn _ _ _ (by omega)).trans ((zIn _ _ _ (by omega)).trans ((zIn _ _ _ (by omega)))))) (⟨⟨hj.w, trivial⟩, ⟨hs.w, zIr ((zIn _ _ _ (by omega)).trans ((zIn _ _ _ (by omega)).trans ((zIn _ _ _ (by omega)).trans ((zIn _ _ _ (by omega)).trans ((zIn _ _ _ (by omega))))))) (⟨⟨hj.w, trivial⟩, ⟨hs.w, zIr ((zIn _ _ _ (by omega)).trans ((zIn _ _ _ (by omega)).trans ((zIn _ _ _ (by omega)).trans ((zIn _ _ _ (by omega)).trans ((zIn _ _ _ (by omega)).trans ((zIn _ _ _ (by omega)))))))) (⟨⟨hj.w, trivial⟩, ⟨hs.w, zIr ((zIn _ _ _ (by omega)).trans ((zIn _ _ _ (by omega)).trans ((zIn _ _ _ (by omega)).trans ((zIn _ _ _ (by omega)).trans ((zIn _ _ _ (by omega)).trans ((zIn _ _ _ (by omega)).trans ((zIn _ _ _ (by omega))))))))) (⟨⟨hj.w, trivial⟩, ⟨hs.w, zIr ((zIn _ _ _ (by omega)).trans ((zIn _ _ _ (by omega)).trans ((zIn _ _ _ (by omega)).trans ((zIn _ _ _ (by omega)).trans ((zIn _ _ _ (by omega)).trans ((zIn _ _ _ (by omega)).trans ((zIn _ _ _ (by omega)).trans ((zIn _ _ _ (by omega)))))))))) (⟨⟨hj.w, trivial⟩, ⟨hs.w, _, hs.r9, ⟨hj.w, _, hj.r9, ⟨hj.w, _, hj.r9, ⟨(zlenW hj.a9 (by decide)), zIr (congrArg (fun n : Nat => (n : Int)) hj.l9) (⟨⟨hs.a9, hj.a9, (by omega), ⟨zcpL hs.l9 (by omega), zcpL hj.l9 (by omega)⟩, (fun _ _ => trivial), rfl⟩, (show K none (zcpy (zsI (zsI (zsI (zsI (zsI (zsI (zsI (zsI (zsI M j 0 (zI M s 0)) j 1 (zI M s 1)) j 2 (zI M s 2)) j 3 (zI M s 3)) j 4 (zI M s 4)) j 5 (zI M s 5)) j 6 (zI M s 6)) j 7 (zI M s 7)) j 8 (zI M s 8)) (s + 1) (j + 1) 0 0 9) from ?g248l1)⟩)⟩⟩⟩⟩⟩)⟩⟩)⟩⟩)⟩⟩)⟩⟩)⟩⟩)⟩⟩)⟩⟩)⟩⟩⟩
  case g248l1 =>
    have f1 : Fr (fun q => j ≤ q ∧ q ≤ j + 1) M (zsI (zsI (zsI (zsI (zsI (zsI (zsI (zsI (zsI M j 0 (zI M s 0)) j 1 (zI M s 1)) j 2 (zI M s 2)) j 3 (zI M s 3)) j 4 (zI M s 4)) j 5 (zI M s 5)) j 6 (zI M s 6)) j 7 (zI M s 7)) j 8 (zI M s 8)) := (((((((((Fr_I hj.w (by decide) (by decide) (by show j ≤ _ ∧ _ ≤ j + 1; omega)).tr (Fr_I hj.w (by decide) (by decide) (by show j ≤ _ ∧ _ ≤ j + 1; omega))).tr (Fr_I hj.w (by decide) (by decide) (by show j ≤ _ ∧ _ ≤ j + 1; omega))).tr (Fr_I hj.w (by decide) (by decide) (by show j ≤ _ ∧ _ ≤ j + 1; omega))).tr (Fr_I hj.w (by decide) (by decide) (by show j ≤ _ ∧ _ ≤ j + 1; omega))).tr (Fr_I hj.w (by decide) (by decide) (by show j ≤ _ ∧ _ ≤ j + 1; omega))).tr (Fr_I hj.w (by decide) (by decide) (by show j ≤ _ ∧ _ ≤ j + 1; omega))).tr (Fr_I hj.w (by decide) (by decide) (by show j ≤ _ ∧ _ ≤ j + 1; omega))).tr (Fr_I hj.w (by decide) (by decide) (by show j ≤ _ ∧ _ ≤ j + 1; omega)))
    have f2 : Fr (fun q => j ≤ q ∧ q ≤ j + 1) (zsI (zsI (zsI (zsI (zsI (zsI (zsI (zsI (zsI M j 0 (zI M s 0)) j 1 (zI M s 1)) j 2 (zI M s 2)) j 3 (zI M s 3)) j 4 (zI M s 4)) j 5 (zI M s 5)) j 6 (zI M s 6)) j 7 (zI M s 7)) j 8 (zI M s 8)) (zcpy (zsI (zsI (zsI (zsI (zsI (zsI (zsI (zsI (zsI M j 0 (zI M s 0)) j 1 (zI M s 1)) j 2 (zI M s 2)) j 3 (zI M s 3)) j 4 (zI M s 4)) j 5 (zI M s 5)) j 6 (zI M s 6)) j 7 (zI M s 7)) j 8 (zI M s 8)) (s + 1) (j + 1) 0 0 9) := Fr_cp (hj.a9.fr f1) (by decide) (by decide) (by show j ≤ _ ∧ _ ≤ j + 1; omega)
    have c2 := f1.i hs.a9 (show ¬ (j ≤ s + 1 ∧ s + 1 ≤ j + 1) by omega)
    refine hK _ (f1.tr f2) (fun k hk => ?_) (fun k hk => ?_)
    · rw [zcpn _ _ _ _ _ _ (by omega)]
      have h9 : k = 0 ∨ k = 1 ∨ k = 2 ∨ k = 3 ∨ k = 4 ∨ k = 5 ∨ k = 6 ∨ k = 7 ∨ k = 8 := by omega
      rcases h9 with q | q | q | q | q | q | q | q | q <;> subst q <;> simp (disch := omega) only [zIs, zIm, zIn, zIrf]
    · rw [zcpi _ _ _ hk]
      exact congrFun c2 k
theorem M_X4_copyFrom {l : Launch} (hl : l.stackTraces = false) : zMet l yX4_copyFrom (Cond.code yX4_copyFrom cX4_copyFrom 2 (Option.none : Option Jvm.ClassFile.FieldType) :: zG) rm_X4_copyFrom 0 0 T_X4_copyFrom := met_X4_copyFrom hl bd_X4_copyFrom
def T_X5_copyFrom : ZTf := fun av M K KX => ∃ (d t : Nat) (G : Gm), av = [zo d, zo t] ∧ (LTab M d) ∧ (LTab M t) ∧ (TR M t G) ∧ (GI G) ∧ (apT d t ∧ d + 59 ≤ 668) ∧  (∀ M' : ZM, (Fr (STb d) M M') → (TR M' d G) → K none M')
set_option maxRecDepth 100000 in
set_option maxHeartbeats 4000000 in
theorem bd_X5_copyFrom : zBd (cd_X5_copyFrom T_X7_copyFrom T_X4_copyFrom) 3 0 0 T_X5_copyFrom := by
  rintro av M K KX hA0 hM ⟨d, t, G, rfl, hD, hX, hT, hG, hap, hK⟩
  obtain ⟨hw5, hr5, hR5⟩ := id hG
  unfold apT at hap
  refine ⟨rfl, fun Φ hΦ => ?_⟩
  have esr : ∀ (M2 : ZM), Fr (STb d) M M2 → ∀ j κ, zW M j κ → t ≤ j → j < t + 59 → zI M2 j = zI M j ∧ zR M2 j = zR M j := fun M2 f2 j κ hj h0 h1 => ⟨f2.i hj (by unfold STb; omega), f2.rr hj (by unfold STb; omega)⟩
  have lo2 : ∀ (i : Int), 0 ≤ i → i ≤ G 5 → ∀ M2 : ZM, Fr (STb d) M M2 → (∀ k : Nat, k < 6 → zI M2 d k = G k) → (∀ w : Int, 0 ≤ w → w < G 4 → (∀ k : Nat, 1 ≤ k → k ≤ 9 → zI M2 (d + 5 + w.toNat) k = zI M (t + 5 + w.toNat) k) ∧ zR M2 (d + 5 + w.toNat) 0 = zR M (t + 5 + w.toNat) 0) → (∀ r : Int, 0 ≤ r → r < i → (∀ k : Nat, k ≤ 8 → zI M2 (d + 11 + 2 * r.toNat) k = zI M (t + 11 + 2 * r.toNat) k) ∧ ∀ k : Nat, k < 9 → zI M2 (d + 11 + 2 * r.toNat + 1) k = zI M (t + 11 + 2 * r.toNat + 1) k) → Φ 81 [some (zo d), some (zo t), some (zi i)] [] M2 0 0 := by
    refine zdown (fun i h0 h1 ih M90 f2 g6 gw gr => ?_)
    have hD90 := hD.fr f2
    have hX90 := hX.fr f2
    have g5 := g6 5 (by decide)
    have hro := fun (q : i < G 5) => (hX.row (i := i) h0 (by omega)).2
    have hz := fun (q : i < G 5) => hT.r3 h0 q
    refine zGoR hΦ [81] 400 (fun hL9 _ hM _ _ => ?_)
    obtain ⟨qL1, _⟩ : zrg i ∧ True := hL9
    refine ⟨hD90.w, zIr (g5) (⟨fun (qc1 : i ≥ G 5) => ⟨hX90.w, _, hX90.r8, ⟨hD90.w, _, hD90.r8, ⟨hD90.w, _, hD90.r8, ⟨(zlenW hD90.aTst (by decide)), zIr (congrArg (fun n : Nat => (n : Int)) hD90.lTst) (⟨⟨hX90.aTst, hD90.aTst, (by omega), ⟨zcpL hX90.lTst (by omega), zcpL hD90.lTst (by omega)⟩, (fun _ _ => trivial), rfl⟩, ⟨hX90.w, _, hX90.r9, ⟨hD90.w, _, hD90.r9, ⟨hD90.w, _, hD90.r9, ⟨(zlenW hD90.aTtold (by decide)), zIr (congrArg (fun n : Nat => (n : Int)) hD90.lTtold) (⟨⟨hX90.aTtold, hD90.aTtold, (by omega), ⟨zcpL hX90.lTtold (by omega), zcpL hD90.lTtold (by omega)⟩, (fun _ _ => trivial), rfl⟩, (show K none (zcpy (zcpy M90 (t + 3) (d + 3) 0 0 36) (t + 4) (d + 4) 0 0 36) from ?g249l1)⟩)⟩⟩⟩⟩⟩)⟩⟩⟩⟩, fun (qc2 : i < G 5) => ⟨hD90.w, _, hD90.r7, ⟨zixW hD90.aTrow hD90.lTrow (i := i) (by omega) (by decide), _, (hD90.row (by omega) (by omega)).1, ⟨hX90.w, _, hX90.r7, ⟨zixW hX90.aTrow hX90.lTrow (i := i) (by omega) (by decide), _, (hX90.row (by omega) (by omega)).1, ⟨⟨⟨rfl, rfl⟩, (hD90.row (by omega) (by omega)).2.w.rcv⟩, ⟨(d + 11 + 2 * i.toNat), (t + 11 + 2 * i.toNat), rfl, ((hD90.row (i := i) h0 (by omega)).2), ((hX90.row (i := i) h0 (by omega)).2), (by omega), (by rw [f2.i (hro (by omega)).w (by unfold STb; omega), hz (by omega)]; exact b2i_z _), fun M1 hf1 hc1 hd1 => (fun qg3 qm4 => ⟨(zrgI (x := i + 1) (by omega)), (show Φ 81 [some (zo d), some (zo t), some (zi (i + 1))] [] M1 (0) (0) from ?g249l2)⟩)⟩⟩⟩⟩⟩⟩⟩)⟩
    case g249l1 =>
      have e9 : i = G 5 := (by omega)
      subst e9
      have fr1 : Fr (STb d) M90 (zcpy M90 (t + 3) (d + 3) 0 0 36) := Fr_cp hD90.aTst (by decide) (by decide) (by unfold STb; omega)
      have fr2 : Fr (STb d) (zcpy M90 (t + 3) (d + 3) 0 0 36) (zcpy (zcpy M90 (t + 3) (d + 3) 0 0 36) (t + 4) (d + 4) 0 0 36) := Fr_cp (hD90.fr fr1).aTtold (by decide) (by decide) (by unfold STb; omega)
      have frA := (f2.tr fr1).tr fr2
      have esc := esr M90 f2
      refine hK _ frA (hT.cp frA.2.2 hG.c3 (fun k hk => ?_) (fun w w0 w1 => ?_) (fun r r0 r1 => ?_) (fun k hk => ?_))
      · rw [zcpn _ _ _ _ _ _ (by omega), zcpn _ _ _ _ _ _ (by omega), g6 k hk]
        exact ((TR_iff.mp hT).1.1 k hk).symm
      · rw [zcpn _ _ _ _ _ _ (by omega), zcpn _ _ _ _ _ _ (by omega)]
        exact gw w w0 w1
      · rw [zcpn _ _ _ _ _ _ (by omega), zcpn _ _ _ _ _ _ (by omega)]
        refine ⟨(gr r r0 r1).1, fun k hk => ?_⟩
        rw [zcpn _ _ _ _ _ _ (by omega), zcpn _ _ _ _ _ _ (by omega)]
        exact (gr r r0 r1).2 k hk
      · refine ⟨?_, ?_⟩
        · rw [zcpn _ _ _ _ _ _ (by omega), zcpi _ _ _ hk, (esc _ _ hX.aTst (by omega) (by omega)).1]
        · rw [zcpi _ _ _ hk, zcpn _ _ _ _ _ _ (by omega), (esc _ _ hX.aTtold (by omega) (by omega)).1]
    case g249l2 =>
      have fr1 : Fr (STb d) M90 M1 := hf1.mono (fun q z => by unfold STb; omega)
      have esc := esr M90 f2
      refine ih (by omega) M1 (f2.tr fr1) (fun k hk => ?_) (fun w w0 w1 => ?_) (fun r r0 r1 => ?_)
      · rw [hf1.i hD90.w (by omega)]; exact g6 k hk
      · have hwd := (hD90.wk (i := w) w0 (by omega)).2
        rw [hf1.i hwd (by omega), hf1.rr hwd (by omega)]
        exact gw w w0 w1
      · by_cases e : r = i
        · subst e
          have hL := hro (by omega)
          refine ⟨fun k hk => (hc1 k hk).trans ?_, fun k hk => (hd1 k hk).trans ?_⟩
          · rw [(esc _ _ hL.w (by omega) (by omega)).1]
          · rw [(esc _ _ hL.a9 (by omega) (by omega)).1]
        · have hL := (hD90.row (i := r) r0 (by omega)).2
          obtain ⟨z1, z2⟩ := gr r r0 (by omega)
          exact ⟨fun k hk => by rw [hf1.i hL.w (by omega)]; exact z1 k hk, fun k hk => by rw [hf1.i hL.a9 (by omega)]; exact z2 k hk⟩
  have lo1 : ∀ (i : Int), 0 ≤ i → i ≤ G 4 → ∀ M2 : ZM, Fr (STb d) M M2 → (∀ k : Nat, k < 6 → zI M2 d k = G k) → (∀ w : Int, 0 ≤ w → w < i → (∀ k : Nat, 1 ≤ k → k ≤ 9 → zI M2 (d + 5 + w.toNat) k = zI M (t + 5 + w.toNat) k) ∧ zR M2 (d + 5 + w.toNat) 0 = zR M (t + 5 + w.toNat) 0) → Φ 50 [some (zo d), some (zo t), some (zi i)] [] M2 0 0 := by
    refine zdown (fun i h0 h1 ih M90 f2 g6 gw => ?_)
    have hD90 := hD.fr f2
    have hX90 := hX.fr f2
    have g4 := g6 4 (by decide)
    have hwk := fun (q : i < G 4) => (hX.wk (i := i) h0 (by omega)).2
    obtain ⟨x, hx⟩ : ∃ x, i < G 4 → zR M (t + 5 + i.toNat) 0 = some x := by
      by_cases q : i < G 4
      · obtain ⟨s, l, a1, -⟩ := hT.wn h0 q
        exact ⟨s, fun _ => a1⟩
      · exact ⟨0, fun z => absurd z q⟩
    refine zGoR hΦ [50, 81] 400 (fun hL9 _ hM _ _ => ?_)
    obtain ⟨qL1, _⟩ : zrg i ∧ True := hL9
    refine ⟨hD90.w, zIr (g4) (⟨fun (qc1 : i ≥ G 4) => (show Φ 81 [some (zo d), some (zo t), some (zi 0)] [] M90 (0) (0) from ?g250l1), fun (qc2 : i < G 4) => ⟨hD90.w, _, hD90.r6, ⟨zixW hD90.aTwk hD90.lTwk (i := i) (by omega) (by decide), _, (hD90.wk (by omega) (by omega)).1, ⟨hX90.w, _, hX90.r6, ⟨zixW hX90.aTwk hX90.lTwk (i := i) (by omega) (by decide), _, (hX90.wk (by omega) (by omega)).1, ⟨⟨⟨rfl, rfl⟩, (hD90.wk (by omega) (by omega)).2.rcv⟩, ⟨(d + 5 + i.toNat), (t + 5 + i.toNat), x, rfl, ((hD90.wk (i := i) h0 (by omega)).2), ((hX90.wk (i := i) h0 (by omega)).2), (by omega), (by rw [f2.rr (hwk (by omega)) (by unfold STb; omega)]; exact hx (by omega)), fun M1 hf1 hc1 hd1 => (fun qg3 qm4 => ⟨(zrgI (x := i + 1) (by omega)), (show Φ 50 [some (zo d), some (zo t), some (zi (i + 1))] [] M1 (0) (0) from ?g250l2)⟩)⟩⟩⟩⟩⟩⟩⟩)⟩
    case g250l1 =>
      have e9 : i = G 4 := (by omega)
      subst e9
      exact lo2 0 (by omega) (by omega) M90 f2 g6 gw (fun r r0 r1 => by omega)
    case g250l2 =>
      have fr1 : Fr (STb d) M90 M1 := hf1.mono (fun q z => by unfold STb; omega)
      have esc := esr M90 f2
      refine ih (by omega) M1 (f2.tr fr1) (fun k hk => ?_) (fun w w0 w1 => ?_)
      · rw [hf1.i hD90.w (by omega)]; exact g6 k hk
      · by_cases e : w = i
        · subst e
          have hq := hwk (by omega)
          refine ⟨fun k k0 k1 => (hc1 k k0 k1).trans ?_, hd1.trans (hx (by omega)).symm⟩
          rw [(esc _ _ hq (by omega) (by omega)).1]
        · have hwd := (hD90.wk (i := w) w0 (by omega)).2
          rw [hf1.i hwd (by omega), hf1.rr hwd (by omega)]
          exact gw w w0 (by omega)
  refine zGoR hΦ [50] 400 (fun hL9 _ hM _ _ => ?_)
  obtain ⟨_⟩ : True := hL9
  refine ⟨hX.w, zIr (hT.t0) (⟨⟨hD.w, trivial⟩, ⟨hX.w, zIr ((zIn _ _ _ (by omega)).trans (hT.t1)) (⟨⟨hD.w, trivial⟩, ⟨hX.w, zIr ((zIn _ _ _ (by omega)).trans ((zIn _ _ _ (by omega)).trans (hT.t2))) (⟨⟨hD.w, trivial⟩, ⟨hX.w, zIr ((zIn _ _ _ (by omega)).trans ((zIn _ _ _ (by omega)).trans ((zIn _ _ _ (by omega)).trans (hT.t3)))) (⟨⟨hD.w, trivial⟩, ⟨hX.w, zIr ((zIn _ _ _ (by omega)).trans ((zIn _ _ _ (by omega)).trans ((zIn _ _ _ (by omega)).trans ((zIn _ _ _ (by omega)).trans (hT.t4))))) (⟨⟨hD.w, trivial⟩, ⟨hX.w, zIr ((zIn _ _ _ (by omega)).trans ((zIn _ _ _ (by omega)).trans ((zIn _ _ _ (by omega)).trans ((zIn _ _ _ (by omega)).trans ((zIn _ _ _ (by omega)).trans (hT.t5)))))) (⟨⟨hD.w, trivial⟩, (show Φ 50 [some (zo d), some (zo t), some (zi 0)] [] (zsI (zsI (zsI (zsI (zsI (zsI M d 0 (G 0)) d 1 (G 1)) d 2 (G 2)) d 3 (G 3)) d 4 (G 4)) d 5 (G 5)) (0) (0) from ?g251l1)⟩)⟩⟩)⟩⟩)⟩⟩)⟩⟩)⟩⟩)⟩
  case g251l1 =>
    refine lo1 0 (by omega) (by omega) _ ((((((Fr_I hD.w (by decide) (by decide) (by unfold STb; omega)).tr (Fr_I hD.w (by decide) (by decide) (by unfold STb; omega))).tr (Fr_I hD.w (by decide) (by decide) (by unfold STb; omega))).tr (Fr_I hD.w (by decide) (by decide) (by unfold STb; omega))).tr (Fr_I hD.w (by decide) (by decide) (by unfold STb; omega))).tr (Fr_I hD.w (by decide) (by decide) (by unfold STb; omega))) (fun k hk => ?_) (fun w w0 w1 => by omega)
    have h9 : k = 0 ∨ k = 1 ∨ k = 2 ∨ k = 3 ∨ k = 4 ∨ k = 5 := by omega
    rcases h9 with q | q | q | q | q | q <;> subst q <;> simp (disch := omega) only [zIs, zIm, zIn, zIrf]
theorem M_X5_copyFrom {l : Launch} (hl : l.stackTraces = false) : zMet l yX5_copyFrom (Cond.code yX5_copyFrom cX5_copyFrom 3 (Option.none : Option Jvm.ClassFile.FieldType) :: zG) rm_X5_copyFrom 0 0 T_X5_copyFrom := met_X5_copyFrom hl (M_X7_copyFrom hl) (M_X4_copyFrom hl) bd_X5_copyFrom
