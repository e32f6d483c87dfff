/-! the property of its own: no two of a team in a row -/
def wkc (G : Gm) (q k : Int) : Int := G (132 + 16 * q + (7 + 3 * k + 0)).toNat
def tmc (G : Gm) (w : Int) : Int := G (6 + 9 * w + 1).toNat
def cnc (G : Gm) (q : Int) : Int := G (132 + 16 * q + 6).toNat
def TD (G : Gm) : Prop := ∀ q k l : Int, 0 ≤ q → q < G 5 → 0 ≤ k → k < cnc G q → 0 ≤ l → l < cnc G q → k ≠ l → tmc G (wkc G q k) ≠ tmc G (wkc G q l)
theorem TD.sub {G G' : Gm} {kk : Int} (h : TD G) (hI : IV kk G') (e4 : G' 4 = G 4) (et : ∀ w, 0 ≤ w → w < G 4 → tmc G' w = tmc G w) (hs : ∀ q j, 0 ≤ q → q < G' 5 → 0 ≤ j → j < cnc G' q → q < G 5 ∧ ∃ i, 0 ≤ i ∧ i < cnc G q ∧ wkc G' q j = wkc G q i) : TD G' := by
  intro q k l q0 q1 k0 k1 l0 l1 hkl
  obtain ⟨q5, i, i0, i1, ei⟩ := hs q k q0 q1 k0 k1
  obtain ⟨-, j, j0, j1, ej⟩ := hs q l q0 q1 l0 l1
  have hr : RW kk (G' 4) (rwf G' q) := hI.2.2.2.1 q q0 q1
  have hd := hr.2.2.1
  have hwk : wkc G' q k ≠ wkc G' q l := by
    rcases Int.lt_or_gt_of_ne hkl with z | z
    · exact hd k l k0 z l1
    · exact fun e => hd l k l0 z k1 e.symm
  have b1 := (hr.2.1 k k0 k1).1
  have b2 := (hr.2.1 l l0 l1).1
  have c1 : 0 ≤ wkc G' q k ∧ wkc G' q k < G 4 := ⟨b1.1, e4 ▸ b1.2.1⟩
  have c2 : 0 ≤ wkc G' q l ∧ wkc G' q l < G 4 := ⟨b2.1, e4 ▸ b2.2.1⟩
  rw [et _ c1.1 c1.2, et _ c2.1 c2.2, ei, ej]
  exact h q i j q0 q5 i0 i1 j0 j1 (fun e => hwk (by rw [ei, ej, e]))
/-- nothing of the takings' workers, of the teams has changed -/
theorem TD.eq {G G' : Gm} {kk : Int} (h : TD G) (hI : IV kk G') (e4 : G' 4 = G 4) (e5 : G' 5 = G 5) (et : ∀ w, 0 ≤ w → w < G 4 → tmc G' w = tmc G w) (hs : ∀ q, 0 ≤ q → q < G 5 → cnc G' q = cnc G q ∧ ∀ j, 0 ≤ j → j < cnc G q → wkc G' q j = wkc G q j) : TD G' := by
  refine h.sub hI e4 et (fun q j q0 q1 j0 j1 => ?_)
  rw [e5] at q1
  obtain ⟨a, b⟩ := hs q q0 q1
  rw [a] at j1
  exact ⟨q1, j, j0, j1, b j j0 j1⟩
theorem fTeam_no {G : Gm} {w r : Int} (h : fBarrier G w r = 0) : ∀ k, 0 ≤ k → k < cnc G r → tmc G (wkc G r k) ≠ tmc G w := by
  intro k k0 k1 e
  have ht : fTeam G w r = true := by
    unfold fTeam
    exact anyI_iff.mpr ⟨k, k0, k1, decide_eq_true e⟩
  unfold fBarrier at h
  rw [ht] at h
  split at h
  · exact absurd h (by decide)
  · rw [if_pos rfl] at h
    exact absurd h (by decide)
theorem TD.take {k : Int} {G : Gm} {w r : Int} (h : TD G) (hI : IV k G) (hw : 0 ≤ w ∧ w < G 4) (hr : 0 ≤ r ∧ r < G 5) (hF : fRefusal G w r = 0) : TD (fTake G w r) := by
  have hG := hI.gi
  have hm0 := (hG.2.2 r hr.1 hr.2).2.1.1
  have hm := (fNeeds_c hm0 (fRef_c hF).2.2.1).1
  have hb := fTeam_no (fRef_c hF).2.2.2
  have h4 := hG.1
  have h5 := hG.2.1
  have hn : ∀ {j : Nat}, j ≠ (6 + 9 * w + 4).toNat → j ≠ (132 + 16 * r + 4).toNat → ((j : Int) < 132 + 16 * r + 6 ∨ 132 + 16 * r + 16 ≤ (j : Int)) → fTake G w r j = G j := fun a b c => fTake_n ⟨hm0, hm⟩ (by omega) (by omega) a b c
  have e5 : fTake G w r 5 = G 5 := hn (by omega) (by omega) (by omega)
  have et : ∀ v, 0 ≤ v → v < 6 → tmc (fTake G w r) v = tmc G v := fun v v0 v1 => hn (by omega) (by omega) (by omega)
  have ec : ∀ q, 0 ≤ q → q < 24 → q ≠ r → cnc (fTake G w r) q = cnc G q := fun q q0 q1 q2 => hn (by omega) (by omega) (by omega)
  have ew : ∀ q j, 0 ≤ q → q < 24 → q ≠ r → 0 ≤ j → j < 3 → wkc (fTake G w r) q j = wkc G q j := fun q j q0 q1 q2 j0 j1 => hn (by omega) (by omega) (by omega)
  have er : cnc (fTake G w r) r = cnc G r + 1 := by
    unfold cnc fTake
    rw [gU_n _ (by omega), gU_n _ (by omega), gU_n _ (by omega), gU_n _ (by omega), gU_n _ (by omega), gU_s]
  have eo : ∀ j, 0 ≤ j → j < cnc G r → wkc (fTake G w r) r j = wkc G r j := fun j j0 j1 => by
    have j1' : j < G (132 + 16 * r + 6).toNat := j1
    unfold wkc fTake
    rw [gU_n _ (by omega), gU_n _ (by omega), gU_n _ (by omega), gU_n _ (by omega), gU_n _ (by omega), gU_n _ (by omega)]
  have el : wkc (fTake G w r) r (cnc G r) = w := by
    unfold wkc fTake cnc
    rw [gU_n _ (by omega), gU_n _ (by omega), gU_n _ (by omega), gU_n _ (by omega), gU_s]
  have hwb : ∀ q j, 0 ≤ q → q < G 5 → 0 ≤ j → j < cnc G q → 0 ≤ wkc G q j ∧ wkc G q j < 6 := fun q j q0 q1 j0 j1 => (hG.2.2 q q0 q1).2.2 j j0 j1
  have hc3 : ∀ q, 0 ≤ q → q < G 5 → cnc G q ≤ 3 := fun q q0 q1 => (hG.2.2 q q0 q1).2.1.2
  intro q k l q0 q1 k0 k1 l0 l1 hkl
  rw [e5] at q1
  by_cases z : q = r
  · subst z
    rw [er] at k1 l1
    by_cases zk : k = cnc G q
    · have zl : l < cnc G q := by omega
      rw [zk, el, eo l l0 zl, et w hw.1 (by omega), et _ (hwb q l q0 q1 l0 zl).1 (hwb q l q0 q1 l0 zl).2]
      exact (hb l l0 zl).symm
    · have zk' : k < cnc G q := by omega
      by_cases zl : l = cnc G q
      · rw [zl, el, eo k k0 zk', et w hw.1 (by omega), et _ (hwb q k q0 q1 k0 zk').1 (hwb q k q0 q1 k0 zk').2]
        exact hb k k0 zk'
      · have zl' : l < cnc G q := by omega
        rw [eo l l0 zl', eo k k0 zk', et _ (hwb q k q0 q1 k0 zk').1 (hwb q k q0 q1 k0 zk').2, et _ (hwb q l q0 q1 l0 zl').1 (hwb q l q0 q1 l0 zl').2]
        exact h q k l q0 q1 k0 zk' l0 zl' hkl
  · rw [ec q q0 (by omega) z] at k1 l1
    have h3 := hc3 q q0 q1
    rw [ew q k q0 (by omega) z k0 (by omega), ew q l q0 (by omega) z l0 (by omega), et _ (hwb q k q0 q1 k0 k1).1 (hwb q k q0 q1 k0 k1).2, et _ (hwb q l q0 q1 l0 l1).1 (hwb q l q0 q1 l0 l1).2]
    exact h q k l q0 q1 k0 k1 l0 l1 hkl
/-- what a delivery leaves beyond the workers -/
theorem fDel_n {k : Int} {G : Gm} {w r x : Int} (h : IV k G) (hw : 0 ≤ w ∧ w < G 4) (hr : 0 ≤ r ∧ r < G 5) (hx : 0 ≤ x ∧ x ≤ 99) (hf : fWorksAt G w r = true) {j : Nat} (hj : 60 ≤ j) (h1 : j ≠ (132 + 16 * r + 1).toNat) (h2 : j ≠ (132 + 16 * r + 2).toNat) (h5 : j ≠ (132 + 16 * r + 5).toNat) (h7 : j ≠ (132 + 16 * r + (7 + 3 * fTakingOf G w r + 1)).toNat) : fDel G w r x j = G j := by
  have hG := h.gi
  have h4G := hG.1
  have h5G := hG.2.1
  have h6 := (hG.2.2 r hr.1 hr.2).2.1
  obtain ⟨t, ht, ht1, htw, htr⟩ := fWk_t h6.1 hf
  have htn : fTakingOf G w r ≠ -1 := by omega
  have e1 : fDel1 G w r x j = G j := fDel1_n h7 (by omega)
  have hDB := fun (n : Int) (hn : n ≤ 3) (q : fHave (fDel1 G w r x) r n = true) => fDel_DB hG h.gv h.gx hw hr hx htn hn q
  unfold fDel fDel2
  generalize fDel1 G w r x = g at *
  split
  · next q =>
    have d := hDB 2 (by decide) q.2
    have a0 := (d.2.2.2.1 0 (by decide) (by decide)).1
    have a1 := (d.2.2.2.1 1 (by decide) (by decide)).1
    unfold fCmp
    split
    · rw [fFin_n g (by omega) ⟨h2, h1, h5⟩ (by omega) (by omega)]
      exact e1
    · rw [gU_n _ h1]
      exact e1
  · split
    · next q =>
      have d := hDB 3 (by decide) q.2
      have a0 := (d.2.2.2.1 0 (by decide) (by decide)).1
      have a1 := (d.2.2.2.1 1 (by decide) (by decide)).1
      have a2 := (d.2.2.2.1 2 (by decide) (by decide)).1
      have hnr : fNear g r = 0 ∨ fNear g r = 1 := by unfold fNear; split <;> simp
      have an : 0 ≤ g (132 + 16 * r + (7 + 3 * fNear g r + 0)).toNat ∧ g (132 + 16 * r + (7 + 3 * fNear g r + 0)).toNat < 6 := by
        rcases hnr with z | z <;> rw [z] <;> assumption
      have al : 0 ≤ g (132 + 16 * r + (7 + 3 * (1 - fNear g r) + 0)).toNat ∧ g (132 + 16 * r + (7 + 3 * (1 - fNear g r) + 0)).toNat < 6 := by
        rcases hnr with z | z <;> rw [z] <;> assumption
      unfold fDec
      split
      · unfold fAside
        rw [gU_n _ (by omega), gU_n _ (by omega), gU_n _ (by omega), gU_n _ h1]
        exact e1
      · split
        · rw [gU_n _ (by omega), fFin_n g (by omega) ⟨h2, h1, h5⟩ (by omega) (by omega)]
          exact e1
        · rw [fFin_n g (by omega) ⟨h2, h1, h5⟩ (by omega) (by omega)]
          exact e1
    · exact e1
theorem fDel_tm {k : Int} {G : Gm} {w r x : Int} (h : IV k G) (hw : 0 ≤ w ∧ w < G 4) (hr : 0 ≤ r ∧ r < G 5) (hx : 0 ≤ x ∧ x ≤ 99) (hf : fWorksAt G w r = true) {v : Int} (hv : 0 ≤ v ∧ v < 6) : tmc (fDel G w r x) v = tmc G v := by
  have hG := h.gi
  have h4G := hG.1
  have h5G := hG.2.1
  have h6 := (hG.2.2 r hr.1 hr.2).2.1
  obtain ⟨t, ht, ht1, htw, htr⟩ := fWk_t h6.1 hf
  have htn : fTakingOf G w r ≠ -1 := by omega
  have e1 : fDel1 G w r x (6 + 9 * v + 1).toNat = G (6 + 9 * v + 1).toNat := fDel1_n (by omega) (by omega)
  have hDB := fun (n : Int) (hn : n ≤ 3) (q : fHave (fDel1 G w r x) r n = true) => fDel_DB hG h.gv h.gx hw hr hx htn hn q
  unfold tmc fDel fDel2
  generalize fDel1 G w r x = g at *
  split
  · next q =>
    have d := hDB 2 (by decide) q.2
    have a0 := (d.2.2.2.1 0 (by decide) (by decide)).1
    have a1 := (d.2.2.2.1 1 (by decide) (by decide)).1
    unfold fCmp
    split
    · rw [fFin_n g (by omega) (by omega) (by omega) (by omega)]
      exact e1
    · rw [gU_n _ (by omega)]
      exact e1
  · split
    · next q =>
      have d := hDB 3 (by decide) q.2
      have a0 := (d.2.2.2.1 0 (by decide) (by decide)).1
      have a1 := (d.2.2.2.1 1 (by decide) (by decide)).1
      have a2 := (d.2.2.2.1 2 (by decide) (by decide)).1
      have hnr : fNear g r = 0 ∨ fNear g r = 1 := by unfold fNear; split <;> simp
      have an : 0 ≤ g (132 + 16 * r + (7 + 3 * fNear g r + 0)).toNat ∧ g (132 + 16 * r + (7 + 3 * fNear g r + 0)).toNat < 6 := by
        rcases hnr with z | z <;> rw [z] <;> assumption
      have al : 0 ≤ g (132 + 16 * r + (7 + 3 * (1 - fNear g r) + 0)).toNat ∧ g (132 + 16 * r + (7 + 3 * (1 - fNear g r) + 0)).toNat < 6 := by
        rcases hnr with z | z <;> rw [z] <;> assumption
      unfold fDec
      split
      · unfold fAside
        rw [gU_n _ (by omega), gU_n _ (by omega), gU_n _ (by omega), gU_n _ (by omega)]
        exact e1
      · split
        · rw [gU_n _ (by omega), fFin_n g (by omega) (by omega) (by omega) (by omega)]
          exact e1
        · rw [fFin_n g (by omega) (by omega) (by omega) (by omega)]
          exact e1
    · exact e1
theorem TD.del {k : Int} {G : Gm} {w r x : Int} (h : TD G) (hI : IV k G) (hk : k + 1 ≤ 1000) (hw : 0 ≤ w ∧ w < G 4) (hr : 0 ≤ r ∧ r < G 5) (hx : 0 ≤ x ∧ x ≤ 99) (hf : fWorksAt G w r = true) : TD (fDel G w r x) := by
  have hG := hI.gi
  have h4G := hG.1
  have h5G := hG.2.1
  have h6 := (hG.2.2 r hr.1 hr.2).2.1
  obtain ⟨t, ht, ht1, htw, htr⟩ := fWk_t h6.1 hf
  have htn : fTakingOf G w r ≠ -1 := by omega
  have lo := fun {j : Nat} (hj : j < 6) => fDel_lo (x := x) hG hI.gv hI.gx hw hr hx htn hj
  refine h.eq (hI.del hk hw hr hx hf) (lo (by decide)) (lo (by decide)) (fun v v0 v1 => fDel_tm hI hw hr hx hf ⟨v0, by omega⟩) (fun q q0 q1 => ⟨?_, fun j j0 j1 => ?_⟩)
  · exact fDel_n hI hw hr hx hf (by omega) (by omega) (by omega) (by omega) (by omega)
  · have h9 : cnc G q ≤ 3 := (hG.2.2 q q0 q1).2.1.2
    exact fDel_n hI hw hr hx hf (by omega) (by omega) (by omega) (by omega) (by omega)
theorem TD.aud {k r x p q : Int} {G : Gm} (h : TD G) (hI : IV k G) (hk : k + 1 ≤ 1000) (hr : 0 ≤ r ∧ r < G 5) (hc : c_audit G r x = 0) (hby : BYp G r p q) : TD (F_audit G r x p q) := by
  have hG := hI.gi
  have h4G := hG.1
  have h5G := hG.2.1
  have hR := hG.2.2 r hr.1 hr.2
  have hb := hby
  unfold BYp at hb
  have h0 : ∀ {j : Nat}, (132 ≤ j ∨ j < 6) → j ≠ (132 + 16 * r + 3).toNat → j ≠ (132 + 16 * r + 2).toNat → F_audit G r x p q j = G j := fun {j} a b c => by
    have e := fAudT_n (x := x) hR (G (132 + 16 * r + 6).toNat) hR.2.1.1 (Int.le_refl _) j (by omega)
    unfold F_audit
    split
    · rw [gU_n _ b]; exact e
    · unfold fStrk
      rw [gU_n _ c, gU_n _ (by omega), gU_n _ (by omega), gU_n _ b]; exact e
  have ht : ∀ v, 0 ≤ v → v < 6 → tmc (F_audit G r x p q) v = tmc G v := fun v v0 v1 => by
    have e : fAudT G r x (G (132 + 16 * r + 6).toNat) (6 + 9 * v + 1).toNat = G (6 + 9 * v + 1).toNat := ((CH.aud (x := x) hG hr.1 hR (G (132 + 16 * r + 6).toNat) hR.2.1.1 (Int.le_refl _)).1 v v0 v1).1 1 (by decide) (by decide)
    unfold tmc F_audit
    split
    · rw [gU_n _ (by omega)]; exact e
    · unfold fStrk
      rw [gU_n _ (by omega), gU_n _ (by omega), gU_n _ (by omega), gU_n _ (by omega)]; exact e
  refine h.eq (hI.aud hk hc hby) (h0 (by decide) (by omega) (by omega)) (h0 (by decide) (by omega) (by omega)) (fun v v0 v1 => ht v v0 (by omega)) (fun s s0 s1 => ⟨h0 (by omega) (by omega) (by omega), fun j j0 j1 => ?_⟩)
  have h9 : cnc G s ≤ 3 := (hG.2.2 s s0 s1).2.1.2
  exact h0 (by omega) (by omega) (by omega)
theorem RwT.wk {G g : Gm} {r : Int} {p : T3 → Bool} (h : RwT g r ((TK G r).filter p)) {j : Int} (j0 : 0 ≤ j) (j1 : j < cnc g r) : ∃ i, 0 ≤ i ∧ i < cnc G r ∧ wkc g r j = wkc G r i := by
  obtain ⟨h1, h2⟩ := h
  have j2 : j.toNat < ((TK G r).filter p).length := by unfold cnc at j1; omega
  have e := h2 j.toNat _ (List.getElem?_eq_getElem j2)
  have hm : ((TK G r).filter p)[j.toNat] ∈ TK G r := (List.mem_filter.mp (List.getElem_mem j2)).1
  obtain ⟨i, i0, i1, ei⟩ := TK_mem hm
  refine ⟨i, i0, i1, ?_⟩
  rw [ei, show ((j.toNat : Nat) : Int) = j by omega] at e
  exact congrArg (fun z : T3 => z.1) e
theorem TD.setA {k r n : Int} {G g : Gm} (h : TD G) (hI : IV k G) (hr : 0 ≤ r ∧ r < G 5) (hs : G (132 + 16 * r + 1).toNat < 2) (hA : SetA G r g n) : TD g := by
  have hG := hI.gi
  have h4G := hG.1
  have h5G := hG.2.1
  have hI' := hI.setA hr hs hA
  obtain ⟨hT, h3, he, -⟩ := hA
  have e5 : g 5 = G 5 := he 5 (by omega) (by omega)
  refine h.sub hI' (he 4 (by omega) (by omega)) (fun w w0 w1 => he _ (by omega) (by omega)) (fun q j q0 q1 j0 j1 => ?_)
  rw [e5] at q1
  refine ⟨q1, ?_⟩
  by_cases z : q = r
  · subst z
    exact hT.wk j0 j1
  · have c : cnc g q = cnc G q := he _ (by omega) (by omega)
    rw [c] at j1
    have h9 : cnc G q ≤ 3 := (hG.2.2 q q0 q1).2.1.2
    exact ⟨j, j0, j1, he _ (by omega) (by omega)⟩
theorem TD.lv {k ticks n : Int} {G g : Gm} (h : TD G) (hI : IV k G) (hk : k + 1 ≤ 1000) (ht : 1 ≤ ticks ∧ ticks ≤ 99) (hR : LvR (G 3 + ticks) G g n) : TD g := by
  have hG := hI.gi
  have h4G := hG.1
  have h5G := hG.2.1
  have hI' := hI.lv hk ht hR
  obtain ⟨r1, -, hw, -, hS, h3⟩ := hR
  have e : ∀ {j : Nat}, j ≠ 3 → j < 6 → g j = G j := fun a b => hS _ a (fun w w0 w1 => by omega) (fun r r0 r1 => by omega)
  have e5 : g 5 = G 5 := e (by decide) (by decide)
  refine h.sub hI' (e (by decide) (by decide)) (fun w w0 w1 => hS _ (by omega) (fun v v0 v1 => by omega) (fun r r0 r1 => by omega)) (fun q j q0 q1 j0 j1 => ?_)
  rw [e5] at q1
  exact ⟨q1, (r1 q q0 q1).wk j0 j1⟩
theorem TD.pardon {k : Int} {G : Gm} {w : Int} (h : TD G) (hI : IV k G) (hw : 0 ≤ w ∧ w < G 4) : TD (F_pardon G w) := by
  have h4G := hI.gi.1
  have h5G := hI.gi.2.1
  have e : ∀ {j : Nat}, j ≠ (6 + 9 * w + 3).toNat → F_pardon G w j = G j := fun a => by unfold F_pardon; exact gU_n _ a
  exact h.eq (hI.pardon hw) (e (by omega)) (e (by omega)) (fun v v0 v1 => e (by omega)) (fun q q0 q1 => ⟨e (by omega), fun j j0 j1 => e (by omega)⟩)
theorem TD.setT {k : Int} {G : Gm} {what v : Int} (h : TD G) (hI : IV k G) (hc : c_setTable G what v = 0) : TD (F_setTable G what v) := by
  have hw : 0 ≤ what ∧ what ≤ 2 := by
    apply Decidable.byContradiction
    intro q
    unfold c_setTable at hc
    rw [if_neg (fun z => q z.1)] at hc
    exact absurd hc (by decide)
  have e : ∀ {j : Nat}, 3 ≤ j → F_setTable G what v j = G j := fun a => by unfold F_setTable; exact gU_n _ (by omega)
  exact h.eq (hI.setT hc) (e (by decide)) (e (by decide)) (fun v v0 v1 => e (by omega)) (fun q q0 q1 => ⟨e (by omega), fun j j0 j1 => e (by omega)⟩)
theorem TD.bar {k : Int} {G : Gm} {a b on : Int} (h : TD G) (hI : IV k G) (ha : 0 ≤ a ∧ a < 6) (hb : 0 ≤ b ∧ b < 6) (hne : a ≠ b) : TD (F_bar G a b on) := by
  have h4G := hI.gi.1
  have e : ∀ {j : Nat}, j < 60 ∨ 132 ≤ j → F_bar G a b on j = G j := fun c => by
    unfold F_bar
    rw [gU_n _ (by omega), gU_n _ (by omega), gU_n _ (by omega), gU_n _ (by omega)]
  exact h.eq (hI.bar ha hb hne) (e (by decide)) (e (by decide)) (fun v v0 v1 => e (by omega)) (fun q q0 q1 => ⟨e (by omega), fun j j0 j1 => e (by omega)⟩)
theorem fRows_c {G : Gm} {size : Int} (h5 : 0 ≤ G 5) : ∀ i, 0 ≤ i → i ≤ 24 → fRows G i size 5 = G 5 + i ∧ ∀ q, G 5 ≤ q → q < G 5 + i → cnc (fRows G i size) q = 0 := by
  refine zup (fun i => fRows G i size 5 = G 5 + i ∧ ∀ q, G 5 ≤ q → q < G 5 + i → cnc (fRows G i size) q = 0) ⟨by show G 5 = _; omega, fun q a b => by omega⟩ (fun i i0 i1 ih => ?_)
  show fRows G (i + 1) size 5 = G 5 + (i + 1) ∧ ∀ q, G 5 ≤ q → q < G 5 + (i + 1) → cnc (fRows G (i + 1) size) q = 0
  rw [fRows_s i0]
  obtain ⟨a, b⟩ := ih
  generalize fRows G i size = g at a b ⊢
  have g5 : 0 ≤ g 5 := by omega
  refine ⟨by rw [fRow1_5 g5, a]; omega, fun q q0 q1 => ?_⟩
  by_cases z : q = g 5
  · subst z
    exact fRow1_z g5 (by decide) (by decide) (by decide)
  · have e : cnc (fRow1 g size) q = cnc g q := fRow1_n g5 (Or.inl (by omega)) (by omega)
    rw [e]
    exact b q q0 (by omega)
theorem TD.addr {k : Int} {G : Gm} {many size : Int} (h : TD G) (hI : IV k G) (hm : 1 ≤ many ∧ many ≤ 24) (hs : 1 ≤ size ∧ size ≤ 9) (h24 : G 5 + many ≤ 24) : TD (F_addRows G many size) := by
  have h4G := hI.gi.1
  have h5G := hI.gi.2.1
  have hr := (hI.rows hs many (by omega) hm.2 h24).2
  obtain ⟨c5, cz⟩ := fRows_c (size := size) h5G.1 many (by omega) hm.2
  refine h.sub (hI.addr hm hs h24) (hr _ (by omega) (by decide)) (fun w w0 w1 => hr _ (by omega) (by omega)) (fun q j q0 q1 j0 j1 => ?_)
  have q1' : q < fRows G many size 5 := q1
  by_cases z : q < G 5
  · have c : cnc (F_addRows G many size) q = cnc G q := hr _ (by omega) (by omega)
    rw [c] at j1
    have h9 : cnc G q ≤ 3 := (hI.gi.2.2 q q0 z).2.1.2
    exact ⟨z, j, j0, j1, hr _ (by omega) (by omega)⟩
  · have c := cz q (by omega) (by omega)
    have j1' : j < cnc (fRows G many size) q := j1
    omega
/-- strikes are the same both ways -/
def SYM (G : Gm) : Prop := ∀ a b : Int, 0 ≤ a → a < 6 → 0 ≤ b → b < 6 → G (96 + 6 * a + b).toNat = G (96 + 6 * b + a).toNat
theorem SYM.eq {G G' : Gm} (h : SYM G) (e : ∀ j : Nat, 96 ≤ j → j < 132 → G' j = G j) : SYM G' := fun a b a0 a1 b0 b1 => by
  rw [e _ (by omega) (by omega), e _ (by omega) (by omega)]
  exact h a b a0 a1 b0 b1
def TDS (G : Gm) : Prop := TD G ∧ SYM G
theorem TDS.take {k : Int} {G : Gm} {w r : Int} (h : TDS G) (hI : IV k G) (hw : 0 ≤ w ∧ w < G 4) (hr : 0 ≤ r ∧ r < G 5) (hF : fRefusal G w r = 0) : TDS (fTake G w r) := by
  have hG := hI.gi
  have hm0 := (hG.2.2 r hr.1 hr.2).2.1.1
  have hm := (fNeeds_c hm0 (fRef_c hF).2.2.1).1
  have h4 := hG.1
  have h5 := hG.2.1
  exact ⟨h.1.take hI hw hr hF, h.2.eq (fun j a b => fTake_n ⟨hm0, hm⟩ (by omega) (by omega) (by omega) (by omega) (by omega))⟩
theorem TDS.del {k : Int} {G : Gm} {w r x : Int} (h : TDS G) (hI : IV k G) (hk : k + 1 ≤ 1000) (hw : 0 ≤ w ∧ w < G 4) (hr : 0 ≤ r ∧ r < G 5) (hx : 0 ≤ x ∧ x ≤ 99) (hf : fWorksAt G w r = true) : TDS (fDel G w r x) := by
  have h6 := (hI.gi.2.2 r hr.1 hr.2).2.1
  obtain ⟨t, ht, ht1, htw, htr⟩ := fWk_t h6.1 hf
  exact ⟨h.1.del hI hk hw hr hx hf, h.2.eq (fun j a b => fDel_n hI hw hr hx hf (by omega) (by omega) (by omega) (by omega) (by omega))⟩
theorem TDS.aud {k r x p q : Int} {G : Gm} (h : TDS G) (hI : IV k G) (hk : k + 1 ≤ 1000) (hr : 0 ≤ r ∧ r < G 5) (hc : c_audit G r x = 0) (hby : BYp G r p q) : TDS (F_audit G r x p q) := by
  refine ⟨h.1.aud hI hk hr hc hby, ?_⟩
  have hG := hI.gi
  have h4G := hG.1
  have hR := hG.2.2 r hr.1 hr.2
  have hb := hby
  unfold BYp at hb
  have e := fun (j : Nat) (hj : 96 ≤ j) => fAudT_n (x := x) hR (G (132 + 16 * r + 6).toNat) hR.2.1.1 (Int.le_refl _) j (by omega)
  unfold F_audit
  split
  · exact h.2.eq (fun j a b => (gU_n _ (by omega)).trans (e j a))
  · intro a b a0 a1 b0 b1
    have e2 : ∀ j : Nat, 96 ≤ j → j < 132 → gU (fAudT G r x (G (132 + 16 * r + 6).toNat)) (132 + 16 * r + 3) x j = G j := fun j z1 z2 => (gU_n _ (by omega)).trans (e j z1)
    rw [gU_n _ (by omega), gU_n _ (by omega)]
    generalize gU (fAudT G r x (G (132 + 16 * r + 6).toNat)) (132 + 16 * r + 3) x = g at e2
    unfold fStrk
    have s1 := h.2 a b a0 a1 b0 b1
    by_cases z1 : 6 * a + b = 6 * p + q
    · have : a = p ∧ b = q := by omega
      obtain ⟨rfl, rfl⟩ := this
      rw [gU_s, gU_n _ (by omega), gU_s]
    · by_cases z2 : 6 * a + b = 6 * q + p
      · have : a = q ∧ b = p := by omega
        obtain ⟨rfl, rfl⟩ := this
        rw [gU_n _ (by omega), gU_s, gU_s]
      · have z3 : 6 * b + a ≠ 6 * p + q := fun z => z2 (by omega)
        have z4 : 6 * b + a ≠ 6 * q + p := fun z => z1 (by omega)
        rw [gU_n _ (by omega), gU_n _ (by omega), gU_n _ (by omega), gU_n _ (by omega), e2 _ (by omega) (by omega), e2 _ (by omega) (by omega)]
        exact s1
theorem TDS.setA {k r n : Int} {G g : Gm} (h : TDS G) (hI : IV k G) (hr : 0 ≤ r ∧ r < G 5) (hs : G (132 + 16 * r + 1).toNat < 2) (hA : SetA G r g n) : TDS g :=
  ⟨h.1.setA hI hr hs hA, h.2.eq (fun j a b => hA.2.2.1 j (by omega) (by omega))⟩
theorem TDS.lv {k ticks n : Int} {G g : Gm} (h : TDS G) (hI : IV k G) (hk : k + 1 ≤ 1000) (ht : 1 ≤ ticks ∧ ticks ≤ 99) (hR : LvR (G 3 + ticks) G g n) : TDS g :=
  ⟨h.1.lv hI hk ht hR, h.2.eq (fun j a b => hR.2.2.2.2.1 j (by omega) (fun w w0 w1 => by omega) (fun r r0 r1 => by omega))⟩
theorem TDS.pardon {k : Int} {G : Gm} {w : Int} (h : TDS G) (hI : IV k G) (hw : 0 ≤ w ∧ w < G 4) : TDS (F_pardon G w) :=
  ⟨h.1.pardon hI hw, h.2.eq (fun j a b => by have := hI.gi.1; unfold F_pardon; exact gU_n _ (by omega))⟩
theorem TDS.setT {k : Int} {G : Gm} {what v : Int} (h : TDS G) (hI : IV k G) (hc : c_setTable G what v = 0) : TDS (F_setTable G what v) := by
  have hw : 0 ≤ what ∧ what ≤ 2 := by
    apply Decidable.byContradiction
    intro q
    unfold c_setTable at hc
    rw [if_neg (fun z => q z.1)] at hc
    exact absurd hc (by decide)
  exact ⟨h.1.setT hI hc, h.2.eq (fun j a b => by unfold F_setTable; exact gU_n _ (by omega))⟩
theorem TDS.bar {k : Int} {G : Gm} {a b on : Int} (h : TDS G) (hI : IV k G) (ha : 0 ≤ a ∧ a < 6) (hb : 0 ≤ b ∧ b < 6) (hne : a ≠ b) : TDS (F_bar G a b on) := by
  refine ⟨h.1.bar hI ha hb hne, fun c d c0 c1 d0 d1 => ?_⟩
  have s1 := h.2 c d c0 c1 d0 d1
  unfold F_bar
  by_cases z1 : 6 * c + d = 6 * a + b
  · have : c = a ∧ d = b := by omega
    obtain ⟨rfl, rfl⟩ := this
    rw [gU_n _ (by omega), gU_s, gU_s]
  · by_cases z2 : 6 * c + d = 6 * b + a
    · have : c = b ∧ d = a := by omega
      obtain ⟨rfl, rfl⟩ := this
      rw [gU_s, gU_n _ (by omega), gU_s]
    · have z3 : 6 * d + c ≠ 6 * a + b := fun z => z2 (by omega)
      have z4 : 6 * d + c ≠ 6 * b + a := fun z => z1 (by omega)
      rw [gU_n _ (by omega), gU_n _ (by omega), gU_n _ (by omega), gU_n _ (by omega), gU_n _ (by omega), gU_n _ (by omega), gU_n _ (by omega), gU_n _ (by omega)]
      exact s1
theorem TDS.addr {k : Int} {G : Gm} {many size : Int} (h : TDS G) (hI : IV k G) (hm : 1 ≤ many ∧ many ≤ 24) (hs : 1 ≤ size ∧ size ≤ 9) (h24 : G 5 + many ≤ 24) : TDS (F_addRows G many size) := by
  have hr := (hI.rows hs many (by omega) hm.2 h24).2
  have h5 := hI.gi.2.1
  exact ⟨h.1.addr hI hm hs h24, h.2.eq (fun j a b => hr j (by omega) (by omega))⟩
