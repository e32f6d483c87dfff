/-! copying out of a constant's bytes too -/
def tCpyT (nx : Nat) : ZTr := fun Φ _ _ _ _ L st M k n => match st with | .inl w :: .inl dp :: .inr (.inl (some j)) :: .inl sp :: .inr (.inl (some i)) :: r => (zO M i 21 ∧ zW M j 21 ∧ (0 ≤ sp ∧ 0 ≤ dp ∧ 0 ≤ w) ∧ (sp + w ≤ zLn M i ∧ dp + w ≤ zLn M j) ∧ (∀ q, q < w.toNat → zPb (zI M i (sp.toNat + q))) ∧ Nat.ble (r.map zcat).sum 8 = true) ∧ Φ nx L r (zcpy M i j sp.toNat dp.toNat w.toNat) k n | _ => False
section ZU
variable {p : Program} {l : Launch} {e : Env} {R : Room} {s : State} {m : MethodId} {args : Array Value} {below : List Frame} {meth : Method} {c : Code}
variable {cc : ByteArray} {own : String} {Ts : List Cond} {nL : Nat} {ret : Option FieldType} {D : va_G} {A : Nat → Prop} {a0 : Nat → Nat} {M0 : ZM} {K : ZRet} {KX : ZEx} {mc ms : Nat} {pc : Nat}
theorem zs_copy21T (X0 : zCtx p l R s m args meth c cc own Ts nL ret D A a0 M0 mc ms) {idx : Nat} (w1 : Cond.methodLink own idx arraycopyName ∈ Ts) (w2 : Cond.native arraycopyName ∈ Ts) (w3 : Cond.static arraycopyName ∈ Ts) (w4 : Cond.initialized "java/lang/System" ∈ Ts) (hf9 : 1 ≤ R.frames) (hlo : 8 + (nativeFrameWords "java/lang/System" "arraycopy" 5 + 11) ≤ R.locals) (d : decode cc pc = .ok (.invokestatic idx, 3)) : zSd p l e R s m args below meth c nL D A a0 M0 K KX mc ms pc (tCpyT (pc + 3)) := by
  obtain ⟨hx, hb, hml, hown, hts, hK, hF, hA, hlk, hrT, hst, hmc, hms, hcl0, hN0⟩ := X0
  intro Ψ hΨ L st M k n h h1 h2 h3 h4 h5 a cy H locs ls hE hO hS hl
  simp only [tCpyT] at h
  split at h
  · next w dp j sp i r =>
    obtain ⟨⟨⟨e1, g2⟩, ⟨e2, g3, g4⟩, ⟨b1, b2, b3⟩, ⟨b4, b5⟩, b6, b7⟩, h⟩ := h
    have b7 := Nat.le_of_ble_eq_true b7
    have rw9 := h5.hd.rg
    have rd9 := h5.tl.hd.rg
    have rs9 := h5.tl.tl.tl.hd.rg
    have nn : ∀ z : Int, 0 ≤ z → zrg z → ¬ Int32.ofInt z < 0 ∧ (Int32.ofInt z).toNatClampNeg = z.toNat := fun z hz hr => ⟨fun q => by have := (z32_lt hr zrg0).mp q; omega, Int32.toNatClampNeg_ofInt_of_le (by omega) (by have := hr.2; omega)⟩
    obtain ⟨s1, s2⟩ := nn sp b1 rs9
    obtain ⟨d1, d2⟩ := nn dp b2 rd9
    obtain ⟨n1, n2⟩ := nn w b3 rw9
    by_cases g1 : zCC ≤ i
    · have h9 : tCpy 21 zPb (pc + 3) Ψ K KX mc ms L (.inl w :: .inl dp :: .inr (.inl (some j)) :: .inl sp :: .inr (.inl (some i)) :: r) M k n := ⟨⟨⟨e1, g1, g2⟩, ⟨e2, g3, g4⟩, ⟨b1, b2, b3⟩, ⟨b4, b5⟩, b6, Nat.ble_eq_true_of_le b7⟩, h⟩
      exact zs_copy21 ⟨hx, hb, hml, hown, hts, hK, hF, hA, hlk, hrT, hst, hmc, hms, hcl0, hN0⟩ w1 w2 w3 w4 hf9 hlo d Ψ hΨ L _ M k n h9 h1 h2 h3 h4 h5 a cy H locs ls hE hO hS hl
    have hq := (hF.congr hE hcl0 hN0).1.2.2.2.1 i (by omega) e1
    have hk0 : va_K D vwCl [(cy j, .byte)] s := ⟨hK.1, fun k q hk => by
      have h9 := (hO.k hK g3 g4 (by rw [e2]; decide)).2 0 (cy j, ztyK (zK M j)) rfl
      rw [e2] at h9
      rcases k with _ | k
      · cases hk; exact h9
      · cases hk⟩
    refine vk_copyt (D := D) (ws := zWs cy a M) hx hb (hml.trans (h3.symm.trans hl.1.symm)) hown (hts _ w1) (hts _ w2) (hts _ w3) (hts _ w4) hk0 hO.2.2.2.1 hO.2.2.2.2 hS (f := fun k => Int32.ofInt (zI M i k)) hq (j - zCC) 0 (g := fun k => Int32.ofInt (zI M j k)) ((zWs_get g3 g4).trans (by rw [zE_a e2 (by decide)]; simp only [zar, e2]; rfl)) rfl s1 d1 n1 (by rw [s2, n2]; omega) (by rw [d2, n2]; omega) (fun q hq => by rw [n2] at hq; rw [s2]; exact (zP_byte _ (b6 q hq)).2) hf9 (by rw [zcat_sum]; omega) d (fun H1 locs1 hP1 hD1 hS1 => ?_)
    rw [s2, d2, n2] at hP1 hD1
    have hzj : zI (zcpy M i j sp.toNat dp.toNat w.toNat) j = fun k => if dp.toNat ≤ k ∧ k < dp.toNat + w.toNat then zI M i (sp.toNat + (k - dp.toNat)) else zI M j k := funext (fun k => by
      show (if j = j ∧ dp.toNat ≤ k ∧ k < dp.toNat + w.toNat then zI M i (sp.toNat + (k - dp.toNat)) else zI M j k) = _
      simp only [true_and])
    refine hΨ _ _ _ _ _ _ h h1 h2 h3 h4 h5.tl.tl.tl.tl.tl a cy H1 locs1 ls (hE.put g3 rfl (fun y hy => zcpy_eq M i j _ _ _ hy)) (hO.put g3 g4 rfl rfl ⟨hO.1.1, fun x => ⟨(hO.1.2 x).1, fun y => ?_⟩⟩ (fun y hy => zcpy_eq M i j _ _ _ hy) ?_ hP1 hD1) hS1 hl
    · show (zK M x = 23 → zrl (if x = j ∧ dp.toNat ≤ y ∧ y < dp.toNat + w.toNat then zI M i (sp.toNat + (y - dp.toNat)) else zI M x y)) ∧ (zK M x ≠ 23 → zK M x ≠ 24 → zrg (if x = j ∧ dp.toNat ≤ y ∧ y < dp.toNat + w.toNat then zI M i (sp.toNat + (y - dp.toNat)) else zI M x y))
      split
      · next q =>
        obtain ⟨rfl, -, -⟩ := q
        exact ⟨fun z => absurd (e2.symm.trans z) (by decide), fun _ _ => zcl_rg hO.1 e1 (by decide) (by decide) _⟩
      · exact (hO.1.2 x).2 y
    · have e' : zK (zcpy M i j sp.toNat dp.toNat w.toNat) j = 21 := e2
      rw [zE_a e' (by decide)]
      have e9 : (fun k => Int32.ofInt (zI (zcpy M i j sp.toNat dp.toNat w.toNat) j k)) = va_cpy (fun k => Int32.ofInt (zI M i k)) (fun k => Int32.ofInt (zI M j k)) sp.toNat dp.toNat w.toNat := funext (fun k => by
        rw [hzj]
        simp only [va_cpy]
        by_cases q : dp.toNat ≤ k ∧ k < dp.toNat + w.toNat
        · rw [if_pos q, if_pos q]
        · rw [if_neg q, if_neg q])
      simp only [zar, e', if_neg (show ¬ (21 : Nat) = 23 by decide), if_neg (show ¬ (21 : Nat) = 24 by decide), if_neg (show ¬ 30 ≤ (21 : Nat) by decide), e9]
      rfl
  · exact h.elim
end ZU
