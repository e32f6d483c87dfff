theorem fNm_bl (B : Gm) (a : Int) : ∀ j : Nat, fNmF B a (a + (j : Int)) = nmv (bl B a j) := by
  intro j
  induction j with
  | zero =>
    unfold fNmF
    exact foldF_0 (by omega)
  | succ j ih =>
    rw [bl_s, nmv_app, ← ih]
    unfold fNmF
    rw [show a + ((j + 1 : Nat) : Int) = a + (j : Int) + 1 by omega, foldF_s (by omega)]
    omega
def fNamed (G B : Gm) (n a e : Int) : Int := if (0 ≤ a ∧ e ≤ n ∧ 1 ≤ e - a ∧ e - a ≤ 6) ∧ ∀ c, c ∈ bl B a (e - a).toNat → 97 ≤ c ∧ c ≤ 122 then fWith G (nmv (bl B a (e - a).toNat)) else -1
def T_X5_workerNamed : ZTf := fun av M K KX => ∃ (t : Nat) (G B : Gm) (n a e : Int), av = [zo t, zo 66, zi a, zi e] ∧ (LTab M t) ∧ (TR M t G) ∧ (0 ≤ G 4 ∧ G 4 ≤ 6) ∧ (LV M) ∧ (CIn M B n) ∧ (e - a ≤ 1000 ∧ -1000 ≤ e - a) ∧  K (some (zi (fNamed G B n a e))) M
set_option maxRecDepth 100000 in
set_option maxHeartbeats 4000000 in
theorem bd_X5_workerNamed : zBd (cd_X5_workerNamed T_X1_spells) 5 0 0 T_X5_workerNamed := by
  rintro av M K KX hA0 hM ⟨t, G, B, n, a, e, rfl, hX, hT, hw4, hL, hI, hae, hK⟩
  have hfn : fNamed G B n a e = fndI (fun w => decide (((0 ≤ a ∧ e ≤ n ∧ 1 ≤ e - a ∧ e - a ≤ 6) ∧ ∀ c, c ∈ bl B a (e - a).toNat → 97 ≤ c ∧ c ≤ 122) ∧ (G (6 + 9 * w + 0).toNat) = nmv (bl B a (e - a).toNat))) (G 4) := by
    unfold fNamed fWith
    split
    · next q => exact congrArg (fun p => fndI p (G 4)) (funext (fun w => decide_eq_decide.mpr ⟨fun z => ⟨q, z⟩, fun z => z.2⟩))
    · next q =>
      rcases fndI_r (fun w => decide (((0 ≤ a ∧ e ≤ n ∧ 1 ≤ e - a ∧ e - a ≤ 6) ∧ ∀ c, c ∈ bl B a (e - a).toNat → 97 ≤ c ∧ c ≤ 122) ∧ (G (6 + 9 * w + 0).toNat) = nmv (bl B a (e - a).toNat))) hw4.1 with z | z
      · exact z.1.symm
      · exact absurd (of_decide_eq_true z.2.2.1).1 q
  rw [hfn] at hK
  refine ⟨rfl, fun Φ hΦ => ?_⟩
  obtain ⟨p, hp⟩ : ∃ p : Int → Bool, (fun w => decide (((0 ≤ a ∧ e ≤ n ∧ 1 ≤ e - a ∧ e - a ≤ 6) ∧ ∀ c, c ∈ bl B a (e - a).toNat → 97 ≤ c ∧ c ≤ 122) ∧ (G (6 + 9 * w + 0).toNat) = nmv (bl B a (e - a).toNat))) = p := ⟨_, rfl⟩
  rw [hp] at hK
  have loop : ∀ i, 0 ≤ i → i ≤ G 4 → (∀ k, 0 ≤ k → k < i → p k = false) → Φ 3 [some (zo t), some (zo 66), some (zi a), some (zi e), some (zi i)] [] M 0 0 := by
    refine zdown (n := G 4) (P := fun i => (∀ k, 0 ≤ k → k < i → p k = false) → Φ 3 [some (zo t), some (zo 66), some (zi a), some (zi e), some (zi i)] [] M 0 0) (fun i h0 h1 ih hall => ?_)
    obtain ⟨s9, l9, hr9, hz9, hb9, hc9, hs9⟩ : ∃ s l, (i < G 4 → zR M (t + 5 + i.toNat) 0 = some s) ∧ (i < G 4 → zTx M s l) ∧ (i < G 4 → l.length ≤ 100) ∧ (i < G 4 → ∀ k : Nat, k < l.length → 0 ≤ l.getD k 0 ∧ l.getD k 0 < 256) ∧ (i < G 4 → (spl B n a e l = true ↔ p i = true)) := by
      by_cases q : i < G 4
      · obtain ⟨s, l, a1, a2, ⟨a3, -⟩, a4⟩ := hT.wn h0 q
        refine ⟨s, l, fun _ => a1, fun _ => a2, fun _ => by have := a3.2.1; omega, fun _ k hk => ?_, fun _ => ?_⟩
        · have h9 := a3.2.2 (l.getD k 0) (by rw [List.getD_eq_getElem?_getD, List.getElem?_eq_getElem hk]; exact List.getElem_mem hk)
          omega
        · rw [spl_nm a3, ← hp, decide_eq_true_eq, a4]
          constructor
          · rintro ⟨b1, b2, b3⟩
            have b4 : (e - a).toNat = l.length := by omega
            rw [b4]
            exact ⟨⟨by have := a3.1; have := a3.2.1; omega, b2⟩, b3.symm⟩
          · rintro ⟨⟨b1, b2⟩, b3⟩
            have b4 := nmv_inj _ _ _ rfl a3.2.2 b2 (a4.trans b3)
            have b5 := congrArg List.length b4
            rw [bl_len] at b5
            rw [← b5] at b2 b3
            exact ⟨by omega, b2, by rw [b5] at b3 ⊢; rw [← b5] at b3 ⊢; exact b3.symm⟩
      · exact ⟨0, [], fun z => absurd z q, fun z => absurd z q, fun z => absurd z q, fun z => absurd z q, fun z => absurd z q⟩
    refine zGoR hΦ [3] 400 (fun hL9 _ hM _ _ => ?_)
    obtain ⟨qL1, qL2, qL3, _⟩ : zrg a ∧ zrg e ∧ zrg i ∧ True := hL9
    refine ⟨hX.w, zIr (hT.t4) (⟨fun (qc1 : i ≥ G 4) => ⟨trivial, (show K (some (zi (-1))) M from ?g307l1)⟩, fun (qc2 : i < G 4) => ⟨hX.w, _, hX.r6, ⟨zixW hX.aTwk hX.lTwk (i := i) (by omega) (by decide), _, (hX.wk (by omega) (by omega)).1, ⟨(hX.wk (by omega) (by omega)).2, _, (hr9 (by omega)), ⟨⟨⟨rfl, rfl⟩, hL.wI.rcv⟩, ⟨B, n, a, e, s9, l9, rfl, hL, hI, (hz9 (by omega)), (hb9 (by omega)), (hc9 (by omega)), hae, fun (qg3 : zrg (b2i (spl B n a e l9))) qm4 => ⟨fun h => (have qc5 : (spl B n a e l9) = false := b2i_e0 h; ⟨(zrgI (x := i + 1) (by omega)), (show Φ 3 [some (zo t), some (zo 66), some (zi a), some (zi e), some (zi (i + 1))] [] M (0) (0) from ?g307l2)⟩), fun h => (have qc6 : (spl B n a e l9) = true := b2i_n0 h; ⟨trivial, (show K (some (zi i)) M from ?g307l3)⟩)⟩⟩⟩⟩⟩⟩⟩)⟩
    case g307l1 =>
      have e9 : i = G 4 := by omega
      subst e9
      refine zKi hK ?_
      rcases fndI_r p hw4.1 with z | ⟨z0, z1, z2, z3⟩
      · exact z.1
      · exact absurd z2 (by rw [hall _ z0 z1]; exact Bool.false_ne_true)
    case g307l2 =>
      refine ih (by omega) (fun k k0 k1 => ?_)
      by_cases z : k < i
      · exact hall k k0 z
      · have e9 : k = i := by omega
        rw [e9]
        exact Bool.eq_false_iff.mpr (fun u => Bool.false_ne_true (qc5.symm.trans ((hs9 (by omega)).mpr u)))
    case g307l3 =>
      have hpi := (hs9 (by omega)).mp qc6
      refine zKi hK ?_
      rcases fndI_r p hw4.1 with z | ⟨z0, z1, z2, z3⟩
      · exact absurd hpi (by rw [z.2 i h0 (by omega)]; exact Bool.false_ne_true)
      · rcases Int.lt_trichotomy (fndI p (G 4)) i with u | u | u
        · exact absurd z2 (by rw [hall _ z0 u]; exact Bool.false_ne_true)
        · exact u
        · exact absurd hpi (by rw [z3 i h0 u]; exact Bool.false_ne_true)
  refine zGoR hΦ [3] 400 (fun hL9 _ hM _ _ => ?_)
  obtain ⟨qL1, qL2, _⟩ : zrg a ∧ zrg e ∧ True := hL9
  refine (show Φ 3 [some (zo t), some (zo 66), some (zi a), some (zi e), some (zi 0)] [] M (0) (0) from ?g308l1)
  case g308l1 => exact loop 0 (by omega) (by omega) (fun k k0 k1 => by omega)
theorem M_X5_workerNamed {l : Launch} (hl : l.stackTraces = false) : zMet l yX5_workerNamed (Cond.code yX5_workerNamed cX5_workerNamed 5 (Option.some Jvm.ClassFile.FieldType.int) :: zG) rm_X5_workerNamed 0 0 T_X5_workerNamed := met_X5_workerNamed hl (M_X1_spells hl) bd_X5_workerNamed
