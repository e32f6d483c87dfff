theorem fFin_by {g : Gm} {r p q a b : Int} (hr : 0 ≤ r ∧ r < 24) (h0 : (g (132 + 16 * r + (7 + 3 * p + 0)).toNat) = a) (h1 : (g (132 + 16 * r + (7 + 3 * q + 0)).toNat) = b) (ha : 0 ≤ a ∧ a < 6) (hb : 0 ≤ b ∧ b < 6) : fFin g r p q (132 + 16 * r + 5).toNat = zor (zshl 1 a) (zshl 1 b) := by
  unfold fFin fGain
  rw [h0, h1]
  simp (disch := omega) only [gUs9, gUn9]
theorem fFin_by2 {g : Gm} {r p q a b v : Int} (hr : 0 ≤ r ∧ r < 24) (h0 : (g (132 + 16 * r + (7 + 3 * p + 0)).toNat) = a) (h1 : (g (132 + 16 * r + (7 + 3 * q + 0)).toNat) = b) (ha : 0 ≤ a ∧ a < 6) (hb : 0 ≤ b ∧ b < 6) (hv : 0 ≤ v ∧ v < 24) (hn : v ≠ r) : fFin g r p q (132 + 16 * v + 5).toNat = g (132 + 16 * v + 5).toNat := by
  unfold fFin fGain
  rw [h0, h1]
  simp (disch := omega) only [gUn9]
theorem fAside_by {g : Gm} {r a b d v : Int} (hr : 0 ≤ r ∧ r < 24) (h0 : (g (132 + 16 * r + (7 + 3 * 0 + 0)).toNat) = a) (h1 : (g (132 + 16 * r + (7 + 3 * 1 + 0)).toNat) = b) (h2 : (g (132 + 16 * r + (7 + 3 * 2 + 0)).toNat) = d) (ha : 0 ≤ a ∧ a < 6) (hb : 0 ≤ b ∧ b < 6) (hd : 0 ≤ d ∧ d < 6) (hv : 0 ≤ v ∧ v < 24) : fAside g r (132 + 16 * v + 5).toNat = g (132 + 16 * v + 5).toNat := by
  unfold fAside
  rw [h0, h1, h2]
  simp (disch := omega) only [gUn9]
def T_X8_withinTrust : ZTf := zInl (cd_X8_withinTrust) 1 0 0 400
theorem M_X8_withinTrust {l : Launch} (hl : l.stackTraces = false) : zMet l yX8_withinTrust (Cond.code yX8_withinTrust cX8_withinTrust 1 (Option.some Jvm.ClassFile.FieldType.int) :: zG) rm_X8_withinTrust 0 0 T_X8_withinTrust := met_X8_withinTrust hl zInl_bd
def T_X7_changeTrust : ZTf := zInl (cd_X7_changeTrust T_X8_withinTrust) 2 0 0 400
theorem M_X7_changeTrust {l : Launch} (hl : l.stackTraces = false) : zMet l yX7_changeTrust (Cond.code yX7_changeTrust cX7_changeTrust 2 (Option.none : Option Jvm.ClassFile.FieldType) :: zG) rm_X7_changeTrust 0 0 T_X7_changeTrust := met_X7_changeTrust hl (M_X8_withinTrust hl) zInl_bd
def T_X5_reward : ZTf := zInl (cd_X5_reward) 3 0 0 400
theorem M_X5_reward {l : Launch} (hl : l.stackTraces = false) : zMet l yX5_reward (Cond.code yX5_reward cX5_reward 3 (Option.none : Option Jvm.ClassFile.FieldType) :: zG) rm_X5_reward 0 0 T_X5_reward := met_X5_reward hl zInl_bd
theorem sT_0 {g : Gm} {r : Int} (hG : GI g) (hr : 0 ≤ r ∧ r < g 5) {s : Int} (hs : s = (g (132 + 16 * r + 1).toNat)) (ht : ∀ i : Int, 0 ≤ i → i < (g (132 + 16 * r + 6).toNat) → 0 ≤ (g (6 + 9 * (g (132 + 16 * r + (7 + 3 * i + 0)).toNat) + 3).toNat) ∧ (g (6 + 9 * (g (132 + 16 * r + (7 + 3 * i + 0)).toNat) + 3).toNat) ≤ 20) {m : Int} (h0 : 0 ≤ m) (h1 : m ≤ (g (132 + 16 * r + 6).toNat)) : SmG (sT g r s 0 0 0 m) g := by
  have hRr := hG.2.2 r hr.1 hr.2
  have key : ∀ i, 0 ≤ i → i ≤ (g (132 + 16 * r + 6).toNat) → ∀ j : Nat, sT g r s 0 0 0 i j = g j := by
    refine zup (fun i => ∀ j : Nat, sT g r s 0 0 0 i j = g j) (fun j => ?_) (fun i i0 i1 ih j => ?_)
    · show gU g (132 + 16 * r + 1) s j = g j
      by_cases e : j = (132 + 16 * r + 1).toNat
      · subst e; rw [gU_s, hs]
      · exact gU_n _ e
    · rw [sT_s i0]
      unfold sTs
      have hc : cvf 0 0 0 i = 0 := by unfold cvf; split; rfl; split <;> rfl
      rw [hc, ih _, fClamp_0 (ht i i0 i1)]
      by_cases e : j = (6 + 9 * (g (132 + 16 * r + (7 + 3 * i + 0)).toNat) + 3).toNat
      · rw [e, gU_s]
      · rw [gU_n _ e]; exact ih j
  exact fun j _ _ => (key m h0 h1 j).symm
theorem sT_1 {g : Gm} {r : Int} (hG : GI g) (hr : 0 ≤ r ∧ r < g 5) {s : Int} (ht : ∀ i : Int, 0 ≤ i → i < (g (132 + 16 * r + 6).toNat) → 0 ≤ (g (6 + 9 * (g (132 + 16 * r + (7 + 3 * i + 0)).toNat) + 3).toNat) ∧ (g (6 + 9 * (g (132 + 16 * r + (7 + 3 * i + 0)).toNat) + 3).toNat) ≤ 20) {m : Int} (h0 : 0 ≤ m) (h1 : m ≤ (g (132 + 16 * r + 6).toNat)) : SmG (sT g r s 0 0 0 m) (gU g (132 + 16 * r + 1) s) := by
  have hRr := hG.2.2 r hr.1 hr.2
  have hr24 := hRr.1
  have key : ∀ i, 0 ≤ i → i ≤ (g (132 + 16 * r + 6).toNat) → ∀ j : Nat, sT g r s 0 0 0 i j = gU g (132 + 16 * r + 1) s j := by
    refine zup (fun i => ∀ j : Nat, sT g r s 0 0 0 i j = gU g (132 + 16 * r + 1) s j) (fun j => rfl) (fun i i0 i1 ih j => ?_)
    have hw := hRr.2.2 i i0 i1
    rw [sT_s i0]
    unfold sTs
    have hc : cvf 0 0 0 i = 0 := by unfold cvf; split; rfl; split <;> rfl
    rw [hc, ih _, gU_n g (k := (6 + 9 * (g (132 + 16 * r + (7 + 3 * i + 0)).toNat) + 3).toNat) (by omega), fClamp_0 (ht i i0 i1)]
    by_cases e : j = (6 + 9 * (g (132 + 16 * r + (7 + 3 * i + 0)).toNat) + 3).toNat
    · rw [e, gU_s, gU_n g (by omega)]
    · rw [gU_n _ e]; exact ih j
  exact fun j _ _ => (key m h0 h1 j).symm
/-- the reference's numbers behind a delivery, against the class's steps -/
theorem settle_eq {G : Gm} {w r k x : Int} (hG : GI G) (hV : GV G) (hX : GX G) (h : DLp G w r k x) {tl y0 y1 y2 u0 u1 u2 kd s c0 c1 c2 m : Int} (hkd : gKd G r k x = kd) (htl : G 0 = tl) (hy0 : yv G r k x 0 = y0) (hy1 : yv G r k x 1 = y1) (hy2 : yv G r k x 2 = y2) (hu0 : uv G r 0 = u0) (hu1 : uv G r 1 = u1) (hu2 : uv G r 2 = u2) (hs : vSt (G (132 + 16 * r + 1).toNat) kd = s) (hc0 : vc0 tl y0 y1 y2 kd = c0) (hc1 : vc1 tl y0 y1 y2 kd = c1) (hc2 : vc2 kd = c2) (hm : (G (132 + 16 * r + 6).toNat) = m) :
    (s ≠ 2 ∧ SmG (sT (fDel1 G w r x) r s c0 c1 c2 m) (fDel G w r x) ∧ (∀ q : Int, 0 ≤ q → q < 24 → fDel G w r x (132 + 16 * q + 5).toNat = (fDel1 G w r x) (132 + 16 * q + 5).toNat)) ∨
    (s = 2 ∧ (0 ≤ vP kd ∧ vP kd < vQ kd ∧ vQ kd < m) ∧ ∀ a b R : Int, (G (132 + 16 * r + (7 + 3 * (vP kd) + 0)).toNat) = a → (G (132 + 16 * r + (7 + 3 * (vQ kd) + 0)).toNat) = b → vR y0 y1 y2 u0 u1 u2 kd = R → SmG (gU (gU (gU (gU (gU (sT (fDel1 G w r x) r s c0 c1 c2 m) (132 + 16 * r + 2) R) (6 + 9 * a + 6) ((sT (fDel1 G w r x) r s c0 c1 c2 m) (6 + 9 * a + 6).toNat + 1)) (6 + 9 * a + 8) ((sT (fDel1 G w r x) r s c0 c1 c2 m) (6 + 9 * a + 8).toNat + (sT (fDel1 G w r x) r s c0 c1 c2 m) (132 + 16 * r + 0).toNat)) (6 + 9 * b + 6) ((sT (fDel1 G w r x) r s c0 c1 c2 m) (6 + 9 * b + 6).toNat + 1)) (6 + 9 * b + 8) ((sT (fDel1 G w r x) r s c0 c1 c2 m) (6 + 9 * b + 8).toNat + (sT (fDel1 G w r x) r s c0 c1 c2 m) (132 + 16 * r + 0).toNat)) (fDel G w r x) ∧ (∀ q : Int, 0 ≤ q → q < 24 → q ≠ r → fDel G w r x (132 + 16 * q + 5).toNat = (fDel1 G w r x) (132 + 16 * q + 5).toNat) ∧ fDel G w r x (132 + 16 * r + 5).toNat = zor (zshl 1 a) (zshl 1 b)) := by
  have hst := h.st hG hV hX
  have hyy := fun i h0 h1 => h.y hG (i := i) h0 h1
  have hfd := fDel_kd hG hV hX h
  obtain ⟨hw, hr, hx, hk, hkm, hkw, hkr⟩ := id h
  have hr24 := hG.2.1
  have hw6 := hG.1
  have hRr := hG.2.2 r hr.1 hr.2
  have hm3 := hRr.2.1
  have hWk := hRr.2.2
  have hW4 := fun i i0 i1 => ((hX.1 r hr.1 hr.2).1 i i0 i1).1
  have hne := (hX.1 r hr.1 hr.2).2.1
  have hV5 := hV.2.2.2.2.1
  obtain ⟨g, hg⟩ : ∃ g, (fDel1 G w r x) = g := ⟨_, rfl⟩
  have gn : ∀ j : Nat, j ≠ (132 + 16 * r + (7 + 3 * k + 1)).toNat → j ≠ (6 + 9 * w + 5).toNat → g j = G j := fun j a b => by rw [← hg]; exact fDel1_n (by rw [hk]; exact a) b
  have gw : ∀ i : Int, 0 ≤ i → i < 3 → (g (132 + 16 * r + (7 + 3 * i + 0)).toNat) = (G (132 + 16 * r + (7 + 3 * i + 0)).toNat) := fun i i0 i1 => gn _ (by omega) (by omega)
  have gy : ∀ i : Int, 0 ≤ i → i < (G (132 + 16 * r + 6).toNat) → (g (132 + 16 * r + (7 + 3 * i + 1)).toNat) = yv G r k x i := fun i i0 i1 => by rw [← hg]; exact hyy i i0 i1
  have gt : ∀ v : Int, 0 ≤ v → v < 6 → (g (6 + 9 * v + 3).toNat) = (G (6 + 9 * v + 3).toNat) := fun v v0 v1 => gn _ (by omega) (by omega)
  have gs : (g (132 + 16 * r + 1).toNat) = (G (132 + 16 * r + 1).toNat) := gn _ (by omega) (by omega)
  have gu : ∀ i : Int, 0 ≤ i → i < (G (132 + 16 * r + 6).toNat) → (g (6 + 9 * (G (132 + 16 * r + (7 + 3 * i + 0)).toNat) + 3).toNat) = uv G r i := fun i i0 i1 => by
    unfold uv
    rw [if_pos i1]
    exact gt _ (hWk i i0 i1).1 (hWk i i0 i1).2
  unfold gKK at hfd
  rw [hkd, hg, hk] at hfd
  rw [hg]
  have hkd9 := hkd
  unfold gKd at hkd9
  rw [htl, hy0, hy1, hy2] at hkd9
  rw [htl, hy0, hy1, hy2] at hfd
  have h24 : 0 ≤ r ∧ r < 24 := ⟨hr.1, by omega⟩
  have hw0 := fun q : 0 < m => hWk 0 (by decide) (by omega)
  have hw1 := fun q : 1 < m => hWk 1 (by decide) (by omega)
  have hw2 := fun q : 2 < m => hWk 2 (by decide) (by omega)
  have trb : ∀ i : Int, 0 ≤ i → i < m → 0 ≤ (G (6 + 9 * (G (132 + 16 * r + (7 + 3 * i + 0)).toNat) + 3).toNat) ∧ (G (6 + 9 * (G (132 + 16 * r + (7 + 3 * i + 0)).toNat) + 3).toNat) ≤ 20 := fun i i0 i1 => (hV5 _ (hWk i i0 (by omega)).1 (hW4 i i0 (by omega))).2.2.1
  have trg : ∀ i : Int, 0 ≤ i → i < (g (132 + 16 * r + 6).toNat) → 0 ≤ (g (6 + 9 * (g (132 + 16 * r + (7 + 3 * i + 0)).toNat) + 3).toNat) ∧ (g (6 + 9 * (g (132 + 16 * r + (7 + 3 * i + 0)).toNat) + 3).toNat) ≤ 20 := fun i i0 i1 => by
    have e6 : (g (132 + 16 * r + 6).toNat) = (G (132 + 16 * r + 6).toNat) := gn _ (by omega) (by omega)
    rw [e6] at i1
    rw [gw i i0 (by omega), gt _ (hWk i i0 i1).1 (hWk i i0 i1).2]
    exact trb i i0 (by omega)
  rcases hst with ⟨s0, m2⟩ | ⟨s1, m3, k2, z0, z1, z2⟩
  · unfold vKd at hkd9
    rw [if_pos s0] at hkd9
    have hk012 : kd = 0 ∨ kd = 1 ∨ kd = 2 := by
      revert hkd9
      repeat' split
      all_goals (intro z; omega)
    rcases hk012 with q | q | q
    · subst q
      rw [if_pos rfl] at hfd
      rw [show vSt (G (132 + 16 * r + 1).toNat) 0 = (G (132 + 16 * r + 1).toNat) from rfl] at hs
      rw [show vc0 tl y0 y1 y2 0 = 0 from rfl] at hc0
      rw [show vc1 tl y0 y1 y2 0 = 0 from rfl] at hc1
      rw [show vc2 0 = 0 from rfl] at hc2
      refine Or.inl ⟨by omega, ?_, fun q _ _ => by rw [hfd]⟩
      rw [hfd, ← hs, ← hc0, ← hc1, ← hc2]
      exact sT_0 (by rw [← hg]; exact fDel1_GI hG h) (by have h9 := gn 5 (by omega) (by omega); rw [h9]; exact hr) gs.symm (fun i i0 i1 => trg i i0 i1) (by omega) (by have h9 := gn (132 + 16 * r + 6).toNat (by omega) (by omega); omega)
    · subst q
      rw [if_neg (by decide), if_pos rfl] at hfd
      rw [show vSt (G (132 + 16 * r + 1).toNat) 1 = 1 from rfl] at hs
      rw [show vc0 tl y0 y1 y2 1 = 0 from rfl] at hc0
      rw [show vc1 tl y0 y1 y2 1 = 0 from rfl] at hc1
      rw [show vc2 1 = 0 from rfl] at hc2
      refine Or.inl ⟨by omega, ?_, fun q q0 q1 => by rw [hfd, gU_n _ (by omega)]⟩
      rw [hfd, ← hs, ← hc0, ← hc1, ← hc2]
      exact sT_1 (by rw [← hg]; exact fDel1_GI hG h) (by have h9 := gn 5 (by omega) (by omega); rw [h9]; exact hr) (fun i i0 i1 => trg i i0 i1) (by omega) (by have h9 := gn (132 + 16 * r + 6).toNat (by omega) (by omega); omega)
    · subst q
      have hmm : m = 2 := by
        rw [← hm]
        by_cases z : 1 < (G (132 + 16 * r + 6).toNat)
        · omega
        · have h9 : yv G r k x 1 = -1 := by unfold yv; rw [if_neg (by omega), if_neg z]
          rw [hy1] at h9
          rw [if_pos (Or.inr h9)] at hkd9
          cases hkd9
      rw [if_neg (by decide), if_neg (by decide), if_pos rfl] at hfd
      rw [show vSt (G (132 + 16 * r + 1).toNat) 2 = 2 from rfl] at hs
      rw [show vc0 tl y0 y1 y2 2 = 1 from rfl] at hc0
      rw [show vc1 tl y0 y1 y2 2 = 1 from rfl] at hc1
      rw [show vc2 2 = 0 from rfl] at hc2
      subst hmm
      refine Or.inr ⟨hs.symm, by decide, fun a b R ea eb eR => ?_⟩
      rw [show vP 2 = 0 from rfl] at ea
      rw [show vQ 2 = 1 from rfl] at eb
      have ga : (g (132 + 16 * r + (7 + 3 * 0 + 0)).toNat) = a := (gw 0 (by decide) (by decide)).trans ea
      have gb : (g (132 + 16 * r + (7 + 3 * 1 + 0)).toNat) = b := (gw 1 (by decide) (by decide)).trans eb
      have ha : 0 ≤ a ∧ a < 6 := by have := hw0 (by omega); rw [ea] at this; exact this
      have hb : 0 ≤ b ∧ b < 6 := by have := hw1 (by omega); rw [eb] at this; exact this
      have hab : a ≠ b := by rw [← ea, ← eb]; exact hne 0 1 (by decide) (by decide) (by omega)
      rw [show vR y0 y1 y2 u0 u1 u2 2 = (if u0 < u1 then y1 else y0) from rfl] at eR
      have eR2 : (if (g (6 + 9 * a + 3).toNat) < (g (6 + 9 * b + 3).toNat) then (g (132 + 16 * r + (7 + 3 * 1 + 1)).toNat) else (g (132 + 16 * r + (7 + 3 * 0 + 1)).toNat)) = R := by
        have q0 := gu 0 (by decide) (by omega)
        have q1 := gu 1 (by decide) (by omega)
        rw [ea, hu0] at q0
        rw [eb, hu1] at q1
        rw [q0, q1, gy 0 (by decide) (by omega), gy 1 (by decide) (by omega), hy0, hy1]
        exact eR
      have h9 := kd_2 h24 ga gb ha hb hab
      rw [eR2] at h9
      rw [hfd, ← hs, ← hc0, ← hc1, ← hc2, sT_2 h24 ga gb ha hb hab]
      refine ⟨h9, fun q q0 q1 q2 => ?_, ?_⟩
      · exact fFin_by2 h24 ga gb ha hb ⟨q0, q1⟩ q2
      · exact fFin_by h24 ga gb ha hb
  · have hmm : m = 3 := by omega
    subst hmm
    unfold vKd at hkd9
    rw [if_neg (by omega), if_pos s1] at hkd9
    have hk345 : kd = 3 ∨ kd = 4 ∨ kd = 5 := by
      revert hkd9
      repeat' split
      all_goals (intro z; omega)
    obtain ⟨a, ea⟩ : ∃ a, (G (132 + 16 * r + (7 + 3 * 0 + 0)).toNat) = a := ⟨_, rfl⟩
    obtain ⟨b, eb⟩ : ∃ b, (G (132 + 16 * r + (7 + 3 * 1 + 0)).toNat) = b := ⟨_, rfl⟩
    obtain ⟨d, ed⟩ : ∃ d, (G (132 + 16 * r + (7 + 3 * 2 + 0)).toNat) = d := ⟨_, rfl⟩
    have ga : (g (132 + 16 * r + (7 + 3 * 0 + 0)).toNat) = a := (gw 0 (by decide) (by decide)).trans ea
    have gb : (g (132 + 16 * r + (7 + 3 * 1 + 0)).toNat) = b := (gw 1 (by decide) (by decide)).trans eb
    have ha : 0 ≤ a ∧ a < 6 := by have := hw0 (by omega); rw [ea] at this; exact this
    have hb : 0 ≤ b ∧ b < 6 := by have := hw1 (by omega); rw [eb] at this; exact this
    have hab : a ≠ b := by rw [← ea, ← eb]; exact hne 0 1 (by decide) (by decide) (by omega)
    have gd : (g (132 + 16 * r + (7 + 3 * 2 + 0)).toNat) = d := (gw 2 (by decide) (by decide)).trans ed
    have hd : 0 ≤ d ∧ d < 6 := by have := hw2 (by omega); rw [ed] at this; exact this
    have had : a ≠ d := by rw [← ea, ← ed]; exact hne 0 2 (by decide) (by decide) (by omega)
    have hbd : b ≠ d := by rw [← eb, ← ed]; exact hne 1 2 (by decide) (by decide) (by omega)
    have hta : 0 ≤ (g (6 + 9 * a + 3).toNat) ∧ (g (6 + 9 * a + 3).toNat) ≤ 20 := by have h9 := trb 0 (by decide) (by omega); rw [ea] at h9; rw [gt a ha.1 ha.2]; exact h9
    have htb : 0 ≤ (g (6 + 9 * b + 3).toNat) ∧ (g (6 + 9 * b + 3).toNat) ≤ 20 := by have h9 := trb 1 (by decide) (by omega); rw [eb] at h9; rw [gt b hb.1 hb.2]; exact h9
    rcases hk345 with q | q | q
    · subst q
      rw [if_neg (by decide), if_neg (by decide), if_neg (by decide), if_pos rfl] at hfd
      rw [show vSt (G (132 + 16 * r + 1).toNat) 3 = 3 from rfl] at hs
      rw [show vc0 tl y0 y1 y2 3 = -1 from rfl] at hc0
      rw [show vc1 tl y0 y1 y2 3 = -1 from rfl] at hc1
      rw [show vc2 3 = -1 from rfl] at hc2
      refine Or.inl ⟨by omega, ?_, fun q q0 q1 => ?_⟩
      · rw [hfd, ← hs, ← hc0, ← hc1, ← hc2, sT_3 h24 ga gb gd ha hb hd hab had hbd]
        exact kd_3 h24 ga gb gd ha hb hd hab had hbd
      · rw [hfd]
        exact fAside_by h24 ga gb gd ha hb hd ⟨q0, q1⟩
    · subst q
      rw [if_neg (by decide), if_neg (by decide), if_neg (by decide), if_neg (by decide), if_pos rfl] at hfd
      rw [show vSt (G (132 + 16 * r + 1).toNat) 4 = 2 from rfl] at hs
      rw [show vc0 tl y0 y1 y2 4 = 1 from rfl] at hc0
      rw [show vc1 tl y0 y1 y2 4 = (if zabs (y1 - y2) ≤ tl then 0 else -3) from rfl] at hc1
      rw [show vc2 4 = 1 from rfl] at hc2
      refine Or.inr ⟨hs.symm, by rw [← hm, m3]; decide, fun A B R eA eB eR => ?_⟩
      rw [show vP 4 = 0 from rfl] at eA
      rw [show vQ 4 = 2 from rfl] at eB
      have eAx : a = A := ea.symm.trans eA
      have eBx : d = B := ed.symm.trans eB
      subst eAx
      subst eBx
      rw [show vR y0 y1 y2 u0 u1 u2 4 = (if u0 < u2 then y2 else y0) from rfl] at eR
      have eR2 : (if (g (6 + 9 * a + 3).toNat) < (g (6 + 9 * d + 3).toNat) then (g (132 + 16 * r + (7 + 3 * 2 + 1)).toNat) else (g (132 + 16 * r + (7 + 3 * 0 + 1)).toNat)) = R := by
        have q0 := gu 0 (by decide) (by omega)
        have q1 := gu 2 (by decide) (by omega)
        rw [ea, hu0] at q0
        rw [ed, hu2] at q1
        rw [q0, q1, gy 0 (by decide) (by omega), gy 2 (by decide) (by omega), hy0, hy2]
        exact eR
      rw [hfd, ← hs, ← hc0, ← hc1, ← hc2, sT_3 h24 ga gb gd ha hb hd hab had hbd]
      by_cases cc : zabs (y1 - y2) ≤ tl
      · rw [if_pos cc, if_pos cc]
        have h9 := kd_4 h24 ga gb gd ha hb hd hab had hbd htb
        rw [eR2] at h9
        refine ⟨h9, fun q q0 q1 q2 => ?_, ?_⟩
        · exact fFin_by2 h24 ga gd ha hd ⟨q0, q1⟩ q2
        · exact fFin_by h24 ga gd ha hd
      · rw [if_neg cc, if_neg cc, gb]
        have h9 := kd_4x h24 ga gb gd ha hb hd hab had hbd
        rw [eR2] at h9
        refine ⟨h9, fun q q0 q1 q2 => ?_, ?_⟩
        · rw [gU_n _ (by omega)]
          exact fFin_by2 h24 ga gd ha hd ⟨q0, q1⟩ q2
        · rw [gU_n _ (by omega)]
          exact fFin_by h24 ga gd ha hd
    · subst q
      rw [if_neg (by decide), if_neg (by decide), if_neg (by decide), if_neg (by decide), if_neg (by decide)] at hfd
      rw [show vSt (G (132 + 16 * r + 1).toNat) 5 = 2 from rfl] at hs
      rw [show vc0 tl y0 y1 y2 5 = (if zabs (y0 - y2) ≤ tl then 0 else -3) from rfl] at hc0
      rw [show vc1 tl y0 y1 y2 5 = 1 from rfl] at hc1
      rw [show vc2 5 = 1 from rfl] at hc2
      refine Or.inr ⟨hs.symm, by rw [← hm, m3]; decide, fun A B R eA eB eR => ?_⟩
      rw [show vP 5 = 1 from rfl] at eA
      rw [show vQ 5 = 2 from rfl] at eB
      have eAx : b = A := eb.symm.trans eA
      have eBx : d = B := ed.symm.trans eB
      subst eAx
      subst eBx
      rw [show vR y0 y1 y2 u0 u1 u2 5 = (if u1 < u2 then y2 else y1) from rfl] at eR
      have eR2 : (if (g (6 + 9 * b + 3).toNat) < (g (6 + 9 * d + 3).toNat) then (g (132 + 16 * r + (7 + 3 * 2 + 1)).toNat) else (g (132 + 16 * r + (7 + 3 * 1 + 1)).toNat)) = R := by
        have q0 := gu 1 (by decide) (by omega)
        have q1 := gu 2 (by decide) (by omega)
        rw [eb, hu1] at q0
        rw [ed, hu2] at q1
        rw [q0, q1, gy 1 (by decide) (by omega), gy 2 (by decide) (by omega), hy1, hy2]
        exact eR
      rw [hfd, ← hs, ← hc0, ← hc1, ← hc2, sT_3 h24 ga gb gd ha hb hd hab had hbd]
      by_cases cc : zabs (y0 - y2) ≤ tl
      · rw [if_pos cc, if_pos cc]
        have h9 := kd_5 h24 ga gb gd ha hb hd hab had hbd hta
        rw [eR2] at h9
        refine ⟨h9, fun q q0 q1 q2 => ?_, ?_⟩
        · exact fFin_by2 h24 gb gd hb hd ⟨q0, q1⟩ q2
        · exact fFin_by h24 gb gd hb hd
      · rw [if_neg cc, if_neg cc, ga]
        have h9 := kd_5x h24 ga gb gd ha hb hd hab had hbd
        rw [eR2] at h9
        refine ⟨h9, fun q q0 q1 q2 => ?_, ?_⟩
        · rw [gU_n _ (by omega)]
          exact fFin_by2 h24 gb gd hb hd ⟨q0, q1⟩ q2
        · rw [gU_n _ (by omega)]
          exact fFin_by h24 gb gd hb hd
