/-- where the k-th table remembered lies -/
def hix (n c k : Int) : Int := if n - c + k < 0 then n - c + k + 6 else n - c + k
def SRg (j : Nat) : Prop := 188 ≤ j ∧ j < 544
def RQ (M : ZM) (P : Int → Gm) (c : Int) : Prop := zI M 188 0 = c ∧ (0 ≤ c ∧ c ≤ 6) ∧ (0 ≤ zI M 188 1 ∧ zI M 188 1 < 6) ∧ ∀ k : Int, 0 ≤ k → k < c → TR M (190 + 59 * (hix (zI M 188 1) c k).toNat) (P k) ∧ GI (P k)
theorem hix_r {n c k : Int} (hn : 0 ≤ n ∧ n < 6) (hc : 0 ≤ c ∧ c ≤ 6) (hk : 0 ≤ k ∧ k < c) : 0 ≤ hix n c k ∧ hix n c k < 6 := by
  unfold hix
  split <;> omega
theorem RQ.fr {S : Nat → Prop} {M M' : ZM} {P : Int → Gm} {c : Int} (h : RQ M P c) (hL : LV M) (f : Fr S M M') (hs : ∀ j, 188 ≤ j → j < 544 → ¬ S j) : RQ M' P c := by
  have e : zI M' 188 = zI M 188 := f.i hL.wH (hs _ (by omega) (by omega))
  refine ⟨by rw [e]; exact h.1, h.2.1, by rw [e]; exact h.2.2.1, fun k k0 k1 => ?_⟩
  have h9 := h.2.2.2 k k0 k1
  have hx := hix_r h.2.2.1 h.2.1 ⟨k0, k1⟩
  rw [e]
  exact ⟨h9.1.fr9 (hL.ht hx.1 hx.2).2 f h9.2 (fun j j0 j1 => hs j (by omega) (by omega)), h9.2⟩
theorem RQ.push {M M1 M' : ZM} {P : Int → Gm} {G : Gm} {c n : Int} (h : RQ M P c) (hL : LV M) (hG : GI G) (hn : zI M 188 1 = n) (f : Fr (STb (190 + 59 * n.toNat)) M M1) (hT1 : TR M1 (190 + 59 * n.toNat) G) (f2 : Fr (fun j => j = 188) M1 M') (e0 : zI M' 188 0 = pushC c) (e1 : zI M' 188 1 = if n + 1 < 6 then n + 1 else 0) : RQ M' (pushP P G c) (pushC c) := by
  obtain ⟨h0, hc, hr, hk⟩ := h
  rw [hn] at hr hk
  obtain ⟨n', hn'⟩ : ∃ z, (if n + 1 < 6 then n + 1 else 0) = z := ⟨_, rfl⟩
  rw [hn'] at e1
  have hnn : (n + 1 < 6 ∧ n' = n + 1) ∨ (n = 5 ∧ n' = 0) := by
    split at hn' <;> omega
  have hL1 := hL.fr f
  have hT2 : TR M' (190 + 59 * n.toNat) G := hT1.fr9 (hL1.ht hr.1 hr.2).2 f2 hG (fun j j0 j1 => by omega)
  have ho : ∀ k : Int, 0 ≤ k → k < c → hix n c k ≠ n → TR M' (190 + 59 * (hix n c k).toNat) (P k) ∧ GI (P k) := fun k k0 k1 z => by
    have h9 := hk k k0 k1
    have hx := hix_r hr hc ⟨k0, k1⟩
    refine ⟨(h9.1.fr9 (hL.ht hx.1 hx.2).2 f h9.2 (fun j j0 j1 => ?_)).fr9 (hL1.ht hx.1 hx.2).2 f2 h9.2 (fun j j0 j1 => by omega), h9.2⟩
    unfold STb
    omega
  refine ⟨e0, by have := pushC_r hc; omega, by rw [e1]; omega, fun k k0 k1 => ?_⟩
  rw [e1]
  by_cases q : c = 6
  · have ec : pushC c = 6 := by unfold pushC; rw [if_pos q]
    rw [ec] at k1 ⊢
    have ep : pushP P G c = fun k => if k = 5 then G else P (k + 1) := by unfold pushP; rw [if_pos q]
    rw [ep]
    show TR M' _ (if k = 5 then G else P (k + 1)) ∧ GI (if k = 5 then G else P (k + 1))
    by_cases z : k = 5
    · have ei : hix n' 6 k = n := by unfold hix; split <;> omega
      rw [ei, if_pos z]
      exact ⟨hT2, hG⟩
    · have ei : hix n' 6 k = hix n c (k + 1) := by unfold hix; split <;> split <;> omega
      rw [ei, if_neg z]
      exact ho (k + 1) (by omega) (by omega) (by unfold hix; split <;> omega)
  · have ec : pushC c = c + 1 := by unfold pushC; rw [if_neg q]
    rw [ec] at k1 ⊢
    have ep : pushP P G c = fun k => if k = c then G else P k := by unfold pushP; rw [if_neg q]
    rw [ep]
    show TR M' _ (if k = c then G else P k) ∧ GI (if k = c then G else P k)
    by_cases z : k = c
    · have ei : hix n' (c + 1) k = n := by unfold hix; split <;> omega
      rw [ei, if_pos z]
      exact ⟨hT2, hG⟩
    · have ei : hix n' (c + 1) k = hix n c k := by unfold hix; split <;> split <;> omega
      rw [ei, if_neg z]
      exact ho k (by omega) (by omega) (by unfold hix; split <;> omega)
theorem RQ.pop {M M' : ZM} {P : Int → Gm} {c n : Int} {S : Nat → Prop} (h : RQ M P c) (hL : LV M) (hc1 : 1 ≤ c) (hn : zI M 188 1 = n) (f : Fr S M M') (hs : ∀ j, 189 ≤ j → j < 544 → ¬ S j) (e0 : zI M' 188 0 = c - 1) (e1 : zI M' 188 1 = if n > 0 then n - 1 else 5) : RQ M' P (c - 1) := by
  obtain ⟨h0, hc, hr, hk⟩ := h
  rw [hn] at hr hk
  obtain ⟨n', hn'⟩ : ∃ z, (if n > 0 then n - 1 else 5) = z := ⟨_, rfl⟩
  rw [hn'] at e1
  have hnn : (0 < n ∧ n' = n - 1) ∨ (n = 0 ∧ n' = 5) := by
    split at hn' <;> omega
  refine ⟨e0, by omega, by rw [e1]; omega, fun k k0 k1 => ?_⟩
  have h9 := hk k k0 (by omega)
  have hx := hix_r hr hc ⟨k0, show k < c by omega⟩
  have ei : hix n' (c - 1) k = hix n c k := by unfold hix; split <;> split <;> omega
  rw [e1, ei]
  exact ⟨h9.1.fr9 (hL.ht hx.1 hx.2).2 f h9.2 (fun j j0 j1 => hs j (by omega) (by omega)), h9.2⟩
def T_X0_remember : ZTf := fun av M K KX => ∃ (G : Gm) (P : Int → Gm) (c : Int), av = [zo 188, zo 129] ∧ (LV M) ∧ (TR M 129 G) ∧ (GI G) ∧ (RQ M P c) ∧  (∀ M' : ZM, (Fr SRg M M') → (RQ M' (pushP P G c) (pushC c)) → K none M')
set_option maxRecDepth 100000 in
set_option maxHeartbeats 4000000 in
theorem bd_X0_remember : zBd (cd_X0_remember T_X5_copyFrom) 2 0 0 T_X0_remember := by
  rintro av M K KX hA0 hM ⟨G, P, c, rfl, hL, hT, hG, hq, hK⟩
  obtain ⟨hc, hcr, hnr, -⟩ := id hq
  obtain ⟨n, hn⟩ : ∃ z, zI M 188 1 = z := ⟨_, rfl⟩
  rw [hn] at hnr
  refine ⟨rfl, fun Φ hΦ => ?_⟩
  refine zGoR hΦ [] 400 (fun hL9 _ hM _ _ => ?_)
  obtain ⟨_⟩ : True := hL9
  refine ⟨hL.wH, _, hL.h2, ⟨hL.wH, zIr (hn) (⟨zixW hL.a_htab hL.l_htab (i := n) (by omega) (by decide), _, (hL.ht (by omega) (by omega)).1, ⟨⟨⟨rfl, rfl⟩, (hL.ht (by omega) (by omega)).2.w.rcv⟩, ⟨(190 + 59 * n.toNat), 129, G, rfl, (hL.ht (i := n) (by omega) (by omega)).2, hL.tab, hT, hG, (by unfold apT; omega), fun M1 hf1 hT1 => (have hL1 := LV.fr (M := M) hL hf1; have hn1 : zI M1 188 1 = n := (by rw [hf1.i hL.wH (by unfold STb; omega)]; exact hn); have hc1 : zI M1 188 0 = c := (by rw [hf1.i hL.wH (by unfold STb; omega)]; exact hc); fun qg1 qm2 => ⟨hL1.wH, zIr (hn1) (⟨(zrgI (x := n + 1) (by omega)), ⟨fun (qc3 : n + 1 ≥ 6) => ⟨⟨hL1.wH, trivial⟩, ⟨hL1.wH, zIr ((zIm _ _ _ (by omega)).trans (hc1)) (⟨(zrgI (x := c + 1) (by omega)), ⟨rfl, ⟨⟨hL1.wH, trivial⟩, (show K none (zsI (zsI M1 188 1 0) 188 0 (zmin 6 (c + 1))) from ?g273l1)⟩⟩⟩)⟩⟩, fun (qc4 : n + 1 < 6) => ⟨hL1.wH, zIr (hn1) (⟨(zrgI (x := n + 1) (by omega)), ⟨⟨hL1.wH, trivial⟩, ⟨hL1.wH, zIr ((zIm _ _ _ (by omega)).trans (hc1)) (⟨(zrgI (x := c + 1) (by omega)), ⟨rfl, ⟨⟨hL1.wH, trivial⟩, (show K none (zsI (zsI M1 188 1 (n + 1)) 188 0 (zmin 6 (c + 1))) from ?g273l2)⟩⟩⟩)⟩⟩⟩)⟩⟩⟩)⟩)⟩⟩⟩)⟩⟩
  case g273l1 =>
    have fA : Fr (fun j => j = 188) M1 (zsI (zsI M1 188 1 0) 188 0 (zmin 6 (c + 1))) := ((Fr_I (S := fun j => j = 188) (hL.fr hf1).wH (by decide) (by decide) (show (188 : Nat) = 188 from rfl)).tr (Fr_I (S := fun j => j = 188) (hL.fr hf1).wH (by decide) (by decide) (show (188 : Nat) = 188 from rfl)))
    have hq9 : RQ (zsI (zsI M1 188 1 0) 188 0 (zmin 6 (c + 1))) (pushP P G c) (pushC c) := hq.push hL hG hn hf1 hT1 fA (by rw [zIs]; unfold pushC zmin; (repeat' split) <;> omega) (by rw [zIm _ _ _ (by omega), zIs]; (repeat' split) <;> omega)
    exact hK _ ((hf1.mono (fun j z => by unfold STb at z; unfold SRg; omega)).tr (fA.mono (fun j z => by unfold SRg; omega))) hq9
  case g273l2 =>
    have fA : Fr (fun j => j = 188) M1 (zsI (zsI M1 188 1 (n + 1)) 188 0 (zmin 6 (c + 1))) := ((Fr_I (S := fun j => j = 188) (hL.fr hf1).wH (by decide) (by decide) (show (188 : Nat) = 188 from rfl)).tr (Fr_I (S := fun j => j = 188) (hL.fr hf1).wH (by decide) (by decide) (show (188 : Nat) = 188 from rfl)))
    have hq9 : RQ (zsI (zsI M1 188 1 (n + 1)) 188 0 (zmin 6 (c + 1))) (pushP P G c) (pushC c) := hq.push hL hG hn hf1 hT1 fA (by rw [zIs]; unfold pushC zmin; (repeat' split) <;> omega) (by rw [zIm _ _ _ (by omega), zIs]; (repeat' split) <;> omega)
    exact hK _ ((hf1.mono (fun j z => by unfold STb at z; unfold SRg; omega)).tr (fA.mono (fun j z => by unfold SRg; omega))) hq9
theorem M_X0_remember {l : Launch} (hl : l.stackTraces = false) : zMet l yX0_remember (Cond.code yX0_remember cX0_remember 2 (Option.none : Option Jvm.ClassFile.FieldType) :: zG) rm_X0_remember 0 0 T_X0_remember := met_X0_remember hl (M_X5_copyFrom hl) bd_X0_remember
