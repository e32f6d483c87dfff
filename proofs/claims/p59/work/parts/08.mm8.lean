/-! Math, arraycopy; rows of the small machine, goes on -/
section ZT
variable {p : Program} {l : Launch} {e : Env} {R : Room} {s : State} {m : MethodId} {args : Array Value} {below : List Frame} {meth : Method} {c : Code}
variable {cc : ByteArray} {own : String} {Ts : List Cond} {nL : Nat} {ret : Option FieldType} {D : va_G} {A : Nat → Prop} {a0 : Nat → Nat} {M0 : ZM} {K : ZRet} {KX : ZEx} {mc ms : Nat} {pc : Nat}
def zmax (x y : Int) : Int := if x < y then y else x
def zmin (x y : Int) : Int := if y < x then y else x
def zabs (x : Int) : Int := if 0 ≤ x then x else 0 - x
/-- Math.max, min of the two upmost; what lies below is small enough -/
def tMth2 (f : Int → Int → Int) (nx : Nat) : ZTr := fun Φ _ _ _ _ L st M k n => match st with | .inl y :: .inl x :: r => Nat.ble (r.map zcat).sum 8 = true ∧ Φ nx L (zi (f x y) :: r) M k n | _ => False
def tMth1 (nx : Nat) : ZTr := fun Φ _ _ _ _ L st M k n => match st with | .inl x :: r => (Nat.ble (r.map zcat).sum 8 = true ∧ -2147483648 < x) ∧ Φ nx L (zi (zabs x) :: r) M k n | _ => False
theorem zs_mmax (X0 : zCtx p l R s m args meth c cc own Ts nL ret D A a0 M0 mc ms) {idx : Nat} (w1 : Cond.methodLink own idx Lib.Math.max.name ∈ Ts) (w2 : Cond.static Lib.Math.max.name ∈ Ts) (w3 : Cond.initialized "java/lang/Math" ∈ Ts) (w4 : Cond.code Lib.Math.max.name Lib.Math.max.code 2 (some .int) ∈ Ts) (hf9 : 1 ≤ R.frames) (hlo : 21 ≤ R.locals) (d : decode cc pc = .ok (.invokestatic idx, 3)) : zSd p l e R s m args below meth c nL D A a0 M0 K KX mc ms pc (tMth2 zmax (pc + 3)) := by
  obtain ⟨hx, hb, hml, hown, hts, hK, hF, hA, hlk, hrT, hst, hmc, hms, hcl0, hN0⟩ := X0
  intro Ψ hΨ L st M k n h h1 h2 h3 h4 h5 a cy H locs ls hE hO hS hl
  simp only [tMth2] at h
  split at h
  · next y x r =>
    obtain ⟨g1, h⟩ := h
    have r1 := h5.tl.hd.rg
    have r2 := h5.hd.rg
    have g1 := Nat.le_of_ble_eq_true g1
    have h9 := hΨ _ _ _ _ _ _ h h1 h2 h3 h4 (h5.tl.tl.cons (zlv_i _ _ (by unfold zmax; split <;> assumption))) a cy H locs ls hE hO hS hl
    refine va_mmax hx hb (hml.trans (h3.symm.trans hl.1.symm)) hown (hts _ w1) (hts _ w2) (hts _ w3) (hts _ w4) hf9 (by rw [zcat_sum]; omega) (Nat.le_trans h1 hmc) (Nat.le_trans h2 hms) d ?_
    have e9 : (if Int32.ofInt x < Int32.ofInt y then Int32.ofInt y else Int32.ofInt x) = Int32.ofInt (zmax x y) := by
      unfold zmax
      by_cases q : x < y
      · rw [if_pos q, if_pos ((z32_lt r1 r2).mpr q)]
      · rw [if_neg q, if_neg (fun z => q ((z32_lt r1 r2).mp z))]
    rw [e9]
    exact h9
  · exact h.elim
theorem zs_mmin (X0 : zCtx p l R s m args meth c cc own Ts nL ret D A a0 M0 mc ms) {idx : Nat} (w1 : Cond.methodLink own idx Lib.Math.min.name ∈ Ts) (w2 : Cond.static Lib.Math.min.name ∈ Ts) (w3 : Cond.initialized "java/lang/Math" ∈ Ts) (w4 : Cond.code Lib.Math.min.name Lib.Math.min.code 2 (some .int) ∈ Ts) (hf9 : 1 ≤ R.frames) (hlo : 21 ≤ R.locals) (d : decode cc pc = .ok (.invokestatic idx, 3)) : zSd p l e R s m args below meth c nL D A a0 M0 K KX mc ms pc (tMth2 zmin (pc + 3)) := by
  obtain ⟨hx, hb, hml, hown, hts, hK, hF, hA, hlk, hrT, hst, hmc, hms, hcl0, hN0⟩ := X0
  intro Ψ hΨ L st M k n h h1 h2 h3 h4 h5 a cy H locs ls hE hO hS hl
  simp only [tMth2] at h
  split at h
  · next y x r =>
    obtain ⟨g1, h⟩ := h
    have r1 := h5.tl.hd.rg
    have r2 := h5.hd.rg
    have g1 := Nat.le_of_ble_eq_true g1
    have h9 := hΨ _ _ _ _ _ _ h h1 h2 h3 h4 (h5.tl.tl.cons (zlv_i _ _ (by unfold zmin; split <;> assumption))) a cy H locs ls hE hO hS hl
    refine va_mmin hx hb (hml.trans (h3.symm.trans hl.1.symm)) hown (hts _ w1) (hts _ w2) (hts _ w3) (hts _ w4) hf9 (by rw [zcat_sum]; omega) (Nat.le_trans h1 hmc) (Nat.le_trans h2 hms) d ?_
    have e9 : (if Int32.ofInt y < Int32.ofInt x then Int32.ofInt y else Int32.ofInt x) = Int32.ofInt (zmin x y) := by
      unfold zmin
      by_cases q : y < x
      · rw [if_pos q, if_pos ((z32_lt r2 r1).mpr q)]
      · rw [if_neg q, if_neg (fun z => q ((z32_lt r2 r1).mp z))]
    rw [e9]
    exact h9
  · exact h.elim
theorem zs_mabs (X0 : zCtx p l R s m args meth c cc own Ts nL ret D A a0 M0 mc ms) {idx : Nat} (w1 : Cond.methodLink own idx Lib.Math.abs.name ∈ Ts) (w2 : Cond.static Lib.Math.abs.name ∈ Ts) (w3 : Cond.initialized "java/lang/Math" ∈ Ts) (w4 : Cond.code Lib.Math.abs.name Lib.Math.abs.code 1 (some .int) ∈ Ts) (hf9 : 1 ≤ R.frames) (hlo : 21 ≤ R.locals) (d : decode cc pc = .ok (.invokestatic idx, 3)) : zSd p l e R s m args below meth c nL D A a0 M0 K KX mc ms pc (tMth1 (pc + 3)) := by
  obtain ⟨hx, hb, hml, hown, hts, hK, hF, hA, hlk, hrT, hst, hmc, hms, hcl0, hN0⟩ := X0
  intro Ψ hΨ L st M k n h h1 h2 h3 h4 h5 a cy H locs ls hE hO hS hl
  simp only [tMth1] at h
  split at h
  · next x r =>
    obtain ⟨⟨g1, g2⟩, h⟩ := h
    have r1 := h5.hd.rg
    have g1 := Nat.le_of_ble_eq_true g1
    have h9 := hΨ _ _ _ _ _ _ h h1 h2 h3 h4 (h5.tl.cons (zlv_i _ _ (by unfold zabs; split <;> (have := r1.1; have := r1.2; exact ⟨by omega, by omega⟩)))) a cy H locs ls hE hO hS hl
    refine va_mabs hx hb (hml.trans (h3.symm.trans hl.1.symm)) hown (hts _ w1) (hts _ w2) (hts _ w3) (hts _ w4) hf9 (by rw [zcat_sum]; omega) (Nat.le_trans h1 hmc) (Nat.le_trans h2 hms) d ?_
    have e9 : (if 0 ≤ Int32.ofInt x then Int32.ofInt x else 0 - Int32.ofInt x) = Int32.ofInt (zabs x) := by
      rw [show (0 : Int32) = Int32.ofInt 0 from rfl]
      unfold zabs
      by_cases q : 0 ≤ x
      · rw [if_pos q, if_pos ((z32_le zrg0 r1).mpr q)]
      · rw [if_neg q, if_neg (fun z => q ((z32_le zrg0 r1).mp z)), Int32.ofInt_sub]
    rw [e9]
    exact h9
  · exact h.elim
/-- System.arraycopy -/
def zcpy (M : ZM) (j0 j1 sp dp n : Nat) : ZM := (M.1, M.2.1, M.2.2.1, (fun x y => if x = j1 ∧ dp ≤ y ∧ y < dp + n then M.2.2.2.1 j0 (sp + (y - dp)) else M.2.2.2.1 x y), M.2.2.2.2)
theorem zcpy_eq (M : ZM) (j0 j1 sp dp n : Nat) {x : Nat} (h : x ≠ j1) : zeq M (zcpy M j0 j1 sp dp n) x := ⟨rfl, rfl, funext (fun y => by show (if x = j1 ∧ dp ≤ y ∧ y < dp + n then zI M j0 (sp + (y - dp)) else zI M x y) = zI M x y; rw [if_neg (fun z => h z.1)]), rfl⟩
def tCpy (κ : Nat) (P : Int → Prop) (nx : Nat) : ZTr := fun Φ _ _ _ _ L st M k n => match st with | .inl w :: .inl dp :: .inr (.inl (some j)) :: .inl sp :: .inr (.inl (some i)) :: r => (zW M i κ ∧ zW M j κ ∧ (0 ≤ sp ∧ 0 ≤ dp ∧ 0 ≤ w) ∧ (sp + w ≤ zLn M i ∧ dp + w ≤ zLn M j) ∧ (∀ q, q < w.toNat → P (zI M i (sp.toNat + q))) ∧ Nat.ble (r.map zcat).sum 8 = true) ∧ Φ nx L r (zcpy M i j sp.toNat dp.toNat w.toNat) k n | _ => False
theorem zs_copy20 (X0 : zCtx p l R s m args meth c cc own Ts nL ret D A a0 M0 mc ms) {idx : Nat} (w1 : Cond.methodLink own idx arraycopyName ∈ Ts) (w2 : Cond.native arraycopyName ∈ Ts) (w3 : Cond.static arraycopyName ∈ Ts) (w4 : Cond.initialized "java/lang/System" ∈ Ts) (hf9 : 1 ≤ R.frames) (hlo : 8 + (nativeFrameWords "java/lang/System" "arraycopy" 5 + 11) ≤ R.locals) (d : decode cc pc = .ok (.invokestatic idx, 3)) : zSd p l e R s m args below meth c nL D A a0 M0 K KX mc ms pc (tCpy 20 (fun _ => True) (pc + 3)) := by
  obtain ⟨hx, hb, hml, hown, hts, hK, hF, hA, hlk, hrT, hst, hmc, hms, hcl0, hN0⟩ := X0
  intro Ψ hΨ L st M k n h h1 h2 h3 h4 h5 a cy H locs ls hE hO hS hl
  simp only [tCpy] at h
  split at h
  · next w dp j sp i r =>
    obtain ⟨⟨⟨e1, g1, g2⟩, ⟨e2, g3, g4⟩, ⟨b1, b2, b3⟩, ⟨b4, b5⟩, b6, b7⟩, h⟩ := h
    have b7 := Nat.le_of_ble_eq_true b7
    have rw9 := h5.hd.rg
    have rd9 := h5.tl.hd.rg
    have rs9 := h5.tl.tl.tl.hd.rg
    have nn : ∀ z : Int, 0 ≤ z → zrg z → ¬ Int32.ofInt z < 0 ∧ (Int32.ofInt z).toNatClampNeg = z.toNat := fun z hz hr => ⟨fun q => by have := (z32_lt hr zrg0).mp q; omega, Int32.toNatClampNeg_ofInt_of_le (by omega) (by have := hr.2; omega)⟩
    obtain ⟨s1, s2⟩ := nn sp b1 rs9
    obtain ⟨d1, d2⟩ := nn dp b2 rd9
    obtain ⟨n1, n2⟩ := nn w b3 rw9
    have hk0 : va_K D vwCl [(cy i, .int), (cy j, .int)] s := ⟨hK.1, fun k q hk => by
      have h8 := (hO.k hK g1 g2 (by rw [e1]; decide)).2 0 (cy i, ztyK (zK M i)) rfl
      have h9 := (hO.k hK g3 g4 (by rw [e2]; decide)).2 0 (cy j, ztyK (zK M j)) rfl
      rw [e1] at h8
      rw [e2] at h9
      rcases k with _ | _ | k
      · cases hk; exact h8
      · cases hk; exact h9
      · cases hk⟩
    refine va_copyi (D := D) (ws := zWs cy a M) hx hb (hml.trans (h3.symm.trans hl.1.symm)) hown (hts _ w1) (hts _ w2) (hts _ w3) (hts _ w4) hk0 hO.2.2.2.1 hO.2.2.2.2 hS (i - zCC) (j - zCC) 0 1 (f := fun k => Int32.ofInt (zI M i k)) (g := fun k => Int32.ofInt (zI M j k)) ((zWs_get g1 g2).trans (by rw [zE_a e1 (by decide)]; simp only [zar, e1]; rfl)) ((zWs_get g3 g4).trans (by rw [zE_a e2 (by decide)]; simp only [zar, e2]; rfl)) rfl rfl rfl s1 d1 n1 (by rw [s2, n2]; omega) (by rw [d2, n2]; omega) (fun _ _ => rfl) hf9 (by rw [zcat_sum]; omega) d (fun H1 locs1 hP1 hD1 hS1 => ?_)
    rw [s2, d2, n2] at hP1 hD1
    have hzj : zI (zcpy M i j sp.toNat dp.toNat w.toNat) j = fun k => if dp.toNat ≤ k ∧ k < dp.toNat + w.toNat then zI M i (sp.toNat + (k - dp.toNat)) else zI M j k := funext (fun k => by
      show (if j = j ∧ dp.toNat ≤ k ∧ k < dp.toNat + w.toNat then zI M i (sp.toNat + (k - dp.toNat)) else zI M j k) = _
      simp only [true_and])
    refine hΨ _ _ _ _ _ _ h h1 h2 h3 h4 h5.tl.tl.tl.tl.tl a cy H1 locs1 ls (hE.put g3 rfl (fun y hy => zcpy_eq M i j _ _ _ hy)) (hO.put g3 g4 rfl rfl ⟨hO.1.1, fun x => ⟨(hO.1.2 x).1, fun y => ?_⟩⟩ (fun y hy => zcpy_eq M i j _ _ _ hy) ?_ hP1 hD1) hS1 hl
    · show (zK M x = 23 → zrl (if x = j ∧ dp.toNat ≤ y ∧ y < dp.toNat + w.toNat then zI M i (sp.toNat + (y - dp.toNat)) else zI M x y)) ∧ (zK M x ≠ 23 → zK M x ≠ 24 → zrg (if x = j ∧ dp.toNat ≤ y ∧ y < dp.toNat + w.toNat then zI M i (sp.toNat + (y - dp.toNat)) else zI M x y))
      split
      · next q =>
        obtain ⟨rfl, -, -⟩ := q
        exact ⟨fun z => absurd (e2.symm.trans z) (by decide), fun _ _ => zcl_rg hO.1 e1 (by decide) (by decide) _⟩
      · exact (hO.1.2 x).2 y
    · have e' : zK (zcpy M i j sp.toNat dp.toNat w.toNat) j = 20 := e2
      rw [zE_a e' (by decide)]
      have e9 : (fun k => Int32.ofInt (zI (zcpy M i j sp.toNat dp.toNat w.toNat) j k)) = va_cpy (fun k => Int32.ofInt (zI M i k)) (fun k => Int32.ofInt (zI M j k)) sp.toNat dp.toNat w.toNat := funext (fun k => by
        rw [hzj]
        simp only [va_cpy]
        by_cases q : dp.toNat ≤ k ∧ k < dp.toNat + w.toNat
        · rw [if_pos q, if_pos q]
        · rw [if_neg q, if_neg q])
      simp only [zar, e', if_neg (show ¬ (20 : Nat) = 23 by decide), if_neg (show ¬ (20 : Nat) = 24 by decide), if_neg (show ¬ 30 ≤ (20 : Nat) by decide), e9]
      rfl
  · exact h.elim
theorem zs_copy21 (X0 : zCtx p l R s m args meth c cc own Ts nL ret D A a0 M0 mc ms) {idx : Nat} (w1 : Cond.methodLink own idx arraycopyName ∈ Ts) (w2 : Cond.native arraycopyName ∈ Ts) (w3 : Cond.static arraycopyName ∈ Ts) (w4 : Cond.initialized "java/lang/System" ∈ Ts) (hf9 : 1 ≤ R.frames) (hlo : 8 + (nativeFrameWords "java/lang/System" "arraycopy" 5 + 11) ≤ R.locals) (d : decode cc pc = .ok (.invokestatic idx, 3)) : zSd p l e R s m args below meth c nL D A a0 M0 K KX mc ms pc (tCpy 21 (zPb) (pc + 3)) := by
  obtain ⟨hx, hb, hml, hown, hts, hK, hF, hA, hlk, hrT, hst, hmc, hms, hcl0, hN0⟩ := X0
  intro Ψ hΨ L st M k n h h1 h2 h3 h4 h5 a cy H locs ls hE hO hS hl
  simp only [tCpy] at h
  split at h
  · next w dp j sp i r =>
    obtain ⟨⟨⟨e1, g1, g2⟩, ⟨e2, g3, g4⟩, ⟨b1, b2, b3⟩, ⟨b4, b5⟩, b6, b7⟩, h⟩ := h
    have b7 := Nat.le_of_ble_eq_true b7
    have rw9 := h5.hd.rg
    have rd9 := h5.tl.hd.rg
    have rs9 := h5.tl.tl.tl.hd.rg
    have nn : ∀ z : Int, 0 ≤ z → zrg z → ¬ Int32.ofInt z < 0 ∧ (Int32.ofInt z).toNatClampNeg = z.toNat := fun z hz hr => ⟨fun q => by have := (z32_lt hr zrg0).mp q; omega, Int32.toNatClampNeg_ofInt_of_le (by omega) (by have := hr.2; omega)⟩
    obtain ⟨s1, s2⟩ := nn sp b1 rs9
    obtain ⟨d1, d2⟩ := nn dp b2 rd9
    obtain ⟨n1, n2⟩ := nn w b3 rw9
    have hk0 : va_K D vwCl [(cy i, .byte), (cy j, .byte)] s := ⟨hK.1, fun k q hk => by
      have h8 := (hO.k hK g1 g2 (by rw [e1]; decide)).2 0 (cy i, ztyK (zK M i)) rfl
      have h9 := (hO.k hK g3 g4 (by rw [e2]; decide)).2 0 (cy j, ztyK (zK M j)) rfl
      rw [e1] at h8
      rw [e2] at h9
      rcases k with _ | _ | k
      · cases hk; exact h8
      · cases hk; exact h9
      · cases hk⟩
    refine va_copyi (D := D) (ws := zWs cy a M) hx hb (hml.trans (h3.symm.trans hl.1.symm)) hown (hts _ w1) (hts _ w2) (hts _ w3) (hts _ w4) hk0 hO.2.2.2.1 hO.2.2.2.2 hS (i - zCC) (j - zCC) 0 1 (f := fun k => Int32.ofInt (zI M i k)) (g := fun k => Int32.ofInt (zI M j k)) ((zWs_get g1 g2).trans (by rw [zE_a e1 (by decide)]; simp only [zar, e1]; rfl)) ((zWs_get g3 g4).trans (by rw [zE_a e2 (by decide)]; simp only [zar, e2]; rfl)) rfl rfl rfl s1 d1 n1 (by rw [s2, n2]; omega) (by rw [d2, n2]; omega) (fun q hq => by rw [n2] at hq; rw [s2]; exact (zP_byte _ (b6 q hq)).2) hf9 (by rw [zcat_sum]; omega) d (fun H1 locs1 hP1 hD1 hS1 => ?_)
    rw [s2, d2, n2] at hP1 hD1
    have hzj : zI (zcpy M i j sp.toNat dp.toNat w.toNat) j = fun k => if dp.toNat ≤ k ∧ k < dp.toNat + w.toNat then zI M i (sp.toNat + (k - dp.toNat)) else zI M j k := funext (fun k => by
      show (if j = j ∧ dp.toNat ≤ k ∧ k < dp.toNat + w.toNat then zI M i (sp.toNat + (k - dp.toNat)) else zI M j k) = _
      simp only [true_and])
    refine hΨ _ _ _ _ _ _ h h1 h2 h3 h4 h5.tl.tl.tl.tl.tl a cy H1 locs1 ls (hE.put g3 rfl (fun y hy => zcpy_eq M i j _ _ _ hy)) (hO.put g3 g4 rfl rfl ⟨hO.1.1, fun x => ⟨(hO.1.2 x).1, fun y => ?_⟩⟩ (fun y hy => zcpy_eq M i j _ _ _ hy) ?_ hP1 hD1) hS1 hl
    · show (zK M x = 23 → zrl (if x = j ∧ dp.toNat ≤ y ∧ y < dp.toNat + w.toNat then zI M i (sp.toNat + (y - dp.toNat)) else zI M x y)) ∧ (zK M x ≠ 23 → zK M x ≠ 24 → zrg (if x = j ∧ dp.toNat ≤ y ∧ y < dp.toNat + w.toNat then zI M i (sp.toNat + (y - dp.toNat)) else zI M x y))
      split
      · next q =>
        obtain ⟨rfl, -, -⟩ := q
        exact ⟨fun z => absurd (e2.symm.trans z) (by decide), fun _ _ => zcl_rg hO.1 e1 (by decide) (by decide) _⟩
      · exact (hO.1.2 x).2 y
    · have e' : zK (zcpy M i j sp.toNat dp.toNat w.toNat) j = 21 := e2
      rw [zE_a e' (by decide)]
      have e9 : (fun k => Int32.ofInt (zI (zcpy M i j sp.toNat dp.toNat w.toNat) j k)) = va_cpy (fun k => Int32.ofInt (zI M i k)) (fun k => Int32.ofInt (zI M j k)) sp.toNat dp.toNat w.toNat := funext (fun k => by
        rw [hzj]
        simp only [va_cpy]
        by_cases q : dp.toNat ≤ k ∧ k < dp.toNat + w.toNat
        · rw [if_pos q, if_pos q]
        · rw [if_neg q, if_neg q])
      simp only [zar, e', if_neg (show ¬ (21 : Nat) = 23 by decide), if_neg (show ¬ (21 : Nat) = 24 by decide), if_neg (show ¬ 30 ≤ (21 : Nat) by decide), e9]
      rfl
  · exact h.elim
theorem zs_ldciw (X0 : zCtx p l R s m args meth c cc own Ts nL ret D A a0 M0 mc ms) {x : Int} {i : Nat} (hr : zrg x) (d : decode cc pc = .ok (.ldc_w i, 3)) (hc : Jvm.Cond.constant own i (Int32.ofInt x) ∈ Ts) : zSd p l e R s m args below meth c nL D A a0 M0 K KX mc ms pc (tC (zi x) (pc + 3)) := by
  obtain ⟨hx, hb, hml, hown, hts, hK, hF, hA, hlk, hrT, hst, hmc, hms, hcl0, hN0⟩ := X0
  intro Ψ hΨ L st M k n h h1 h2 h3 h4 h5 a cy H locs ls hE hO hS hl
  exact lv_ldcw hx hb hown (hts _ hc) d (hΨ _ _ _ _ _ _ h h1 h2 h3 h4 (h5.cons (zlv_i _ _ hr)) a cy H locs ls hE hO hS hl)
def tNo : ZTr := fun _ _ _ _ _ _ _ _ _ _ => False
theorem zs_no : zSd p l e R s m args below meth c nL D A a0 M0 K KX mc ms pc tNo := fun _ _ _ _ _ _ _ h => h.elim
def tNn (tgt : Nat) : ZTr := fun Φ _ _ _ _ L st M k n => match st with | .inr (.inl (some _)) :: r => Φ tgt L r M k n | _ => False
theorem zs_ifnonnull (X0 : zCtx p l R s m args meth c cc own Ts nL ret D A a0 M0 mc ms) {off : Int} {tgt : Nat} (d : decode cc pc = .ok (.ifnonnull off, 3)) (ht : (pc : Int) + off = (tgt : Int)) : zSd p l e R s m args below meth c nL D A a0 M0 K KX mc ms pc (tNn tgt) := by
  obtain ⟨hx, hb, hml, hown, hts, hK, hF, hA, hlk, hrT, hst, hmc, hms, hcl0, hN0⟩ := X0
  intro Ψ hΨ L st M k n h h1 h2 h3 h4 h5 a cy H locs ls hE hO hS hl
  simp only [tNn] at h
  split at h
  · exact lv_ifnonnull hx hb d ht (hΨ _ _ _ _ _ _ h h1 h2 h3 h4 h5.tl a cy H locs ls hE hO hS hl)
  · exact h.elim
/-- any of a family -/
def tEx (t : Nat → Nat → ZTr) : ZTr := fun Φ K KX mc ms L st M k n => ∃ a b, t a b Φ K KX mc ms L st M k n
theorem zs_ex {t : Nat → Nat → ZTr} (h : ∀ a b, zSd p l e R s m args below meth c nL D A a0 M0 K KX mc ms pc (t a b)) : zSd p l e R s m args below meth c nL D A a0 M0 K KX mc ms pc (tEx t) := fun Ψ hΨ L st M k n ⟨a, b, q⟩ => h a b Ψ hΨ L st M k n q
theorem zs_callSU (X0 : zCtx p l R s m args meth c cc own Ts nL ret D A a0 M0 mc ms) {mc9 ms9 : Nat} {q idx maxL : Nat} {y : MethodName} {bytes : ByteArray} {rt : Option FieldType} {ws : List Cond} {rm : Room} {T9 : ZTf} {ci N : Nat} {C : String} {T : u_T} (hcl : zcl2 ci C T N) (hcw : s.vm.findClass own = some m.cls → (∀ w ∈ Ts, w.before args s = true) → va_CS R s args own idx y bytes maxL rt ws rm mc9 ms9 (q - 1)) (hM : zMet l y ws rm mc9 ms9 T9) (d : decode cc pc = .ok (.invokespecial idx, 3)) : zSd p l e R s m args below meth c nL D A a0 M0 K KX mc ms pc (tCall q mc9 ms9 (zNt T9) (zRcv ci) (pc + 3)) := by
  obtain ⟨hx, hb, hml, hown, hts, hK, hF, hA, hlk, hrT, hst, hmc, hms, hcl0, hN0⟩ := X0
  intro Ψ hΨ L st M k n h h1 h2 h3 h4 h5 a cy H locs ls hE hO hS hl
  obtain ⟨⟨q1, q2⟩, ⟨⟨b1, b2⟩, hP⟩, hT⟩ := h
  obtain ⟨lv1, lv2⟩ := z_lvt (q := q) h5
  have hFc := zA_sub hO.2.2.2.2 hS hA
  have hcf := hF.congr hE hcl0 hN0
  have hpc := zPc_of (av := (st.take q).reverse) hK hF hA hcl0 hN0 hE hO hS lv1
  obtain ⟨j, tl, etl⟩ : ∃ j tl, (st.take q).reverse = zo j :: tl := by
    simp only [zRcv] at hP
    split at hP
    · next j tl he => exact ⟨j, tl, he⟩
    · exact hP.elim
  have hrc : zO M j ci ∧ (zCC ≤ j ∨ ci = 0) := by rw [etl] at hP; exact hP
  have hlen : (tl.map (ztr a)).length = q - 1 := by
    have := z_take b1 a
    rw [etl] at this
    simp at this
    simp
    omega
  have hst9 : st.map (ztr a) = (tl.map (ztr a)).reverse ++ .ref (a j) :: (st.drop q).map (ztr a) := by
    have := z_split b1 a
    rw [etl, List.map_cons, List.reverse_cons, List.append_assoc] at this
    exact this
  have hrm : 2 * (F0 m pc ls (st.map (ztr a))).monitorRoom + (((st.drop q).map (ztr a)).map fun v => v.category).sum ≤ 8 := by
    rw [zF0_room, zcat_sum]
    have := Nat.le_of_ble_eq_true b2
    omega
  rw [etl] at hpc hT
  have hrun := z_run0 (XC := zXC D a M (zA a M H.size) (fun _ _ => False)) (va_runSU (e := e) (below := below) (meth := meth) (locs := locs) (b := a j) (As := tl.map (ztr a)) (rest := (st.drop q).map (ztr a)) (g := F0 m pc ls (st.map (ztr a))) (hK.1 ci (C, T, N) hcl.1).2 ⟨hx, hb, hml, hown, hts⟩ ((z_met0 (hM D a M _ _ _ hT H.size) zXC_no)) (hcw hown hts) ⟨zPc_blind, z_recv hcl hK hcf hO hS hrc, hpc⟩ rfl hlen (hl.1.trans h3) hst9 hrm d ⟨Nat.le_trans q1 hmc, Nat.le_trans q2 hms⟩)
  refine z_called hrun hS hFc (fun E ce q9 H1 locs1 k9 a' cy' M' hE9 hkx hE' hO' hS' hce hcv hcl' => ?_) (fun r a' cy' M' H1 locs1 hk hE' hlv hO' hS' => ?_)
  · exact hkx.elim
  · have h9 := hΨ _ _ (r.toList ++ st.drop q) _ _ _ (hk (zrgR_of hlv) hO'.1.2) q1 q2 h3 (h4.up hE'.1) (fun v hv => by
      rcases List.mem_append.mp hv with hv | hv
      · cases r with
        | none => cases hv
        | some w =>
          have : v = w := by simpa using hv
          subst this
          exact hlv v rfl
      · exact (lv2 v hv).up hE'.1) a' cy' H1 locs1 ls (hE.trans hE') hO' hS' (hl.up h4 hE'.2.1)
    rw [List.map_append, ztrS_up hE'.2.1 lv2] at h9
    cases r with
    | none => exact h9
    | some w => exact h9

theorem zs_callU (X0 : zCtx p l R s m args meth c cc own Ts nL ret D A a0 M0 mc ms) {mc9 ms9 : Nat} {q idx maxL : Nat} {y : MethodName} {bytes : ByteArray} {rt : Option FieldType} {ws : List Cond} {rm : Room} {T9 : ZTf} {ci N : Nat} {C owner : String} {x9 : MethodName} {T : u_T} (hcl : zcl2 ci C T N) (hcw : s.vm.findClass own = some m.cls → (∀ w ∈ Ts, w.before args s = true) → va_CU R s args own C owner idx x9 y bytes maxL rt ws rm mc9 ms9 (q - 1)) (hM : zMet l y ws rm mc9 ms9 T9) (d : decode cc pc = .ok (.invokevirtual idx, 3)) : zSd p l e R s m args below meth c nL D A a0 M0 K KX mc ms pc (tCall q mc9 ms9 (zNt T9) (zRcv ci) (pc + 3)) := by
  obtain ⟨hx, hb, hml, hown, hts, hK, hF, hA, hlk, hrT, hst, hmc, hms, hcl0, hN0⟩ := X0
  intro Ψ hΨ L st M k n h h1 h2 h3 h4 h5 a cy H locs ls hE hO hS hl
  obtain ⟨⟨q1, q2⟩, ⟨⟨b1, b2⟩, hP⟩, hT⟩ := h
  obtain ⟨lv1, lv2⟩ := z_lvt (q := q) h5
  have hFc := zA_sub hO.2.2.2.2 hS hA
  have hcf := hF.congr hE hcl0 hN0
  have hpc := zPc_of (av := (st.take q).reverse) hK hF hA hcl0 hN0 hE hO hS lv1
  obtain ⟨j, tl, etl⟩ : ∃ j tl, (st.take q).reverse = zo j :: tl := by
    simp only [zRcv] at hP
    split at hP
    · next j tl he => exact ⟨j, tl, he⟩
    · exact hP.elim
  have hrc : zO M j ci ∧ (zCC ≤ j ∨ ci = 0) := by rw [etl] at hP; exact hP
  have hlen : (tl.map (ztr a)).length = q - 1 := by
    have := z_take b1 a
    rw [etl] at this
    simp at this
    simp
    omega
  have hst9 : st.map (ztr a) = (tl.map (ztr a)).reverse ++ .ref (a j) :: (st.drop q).map (ztr a) := by
    have := z_split b1 a
    rw [etl, List.map_cons, List.reverse_cons, List.append_assoc] at this
    exact this
  have hrm : 2 * (F0 m pc ls (st.map (ztr a))).monitorRoom + (((st.drop q).map (ztr a)).map fun v => v.category).sum ≤ 8 := by
    rw [zF0_room, zcat_sum]
    have := Nat.le_of_ble_eq_true b2
    omega
  rw [etl] at hpc hT
  have hrun := z_run0 (XC := zXC D a M (zA a M H.size) (fun _ _ => False)) (va_runU (e := e) (below := below) (meth := meth) (locs := locs) (b := a j) (As := tl.map (ztr a)) (rest := (st.drop q).map (ztr a)) (g := F0 m pc ls (st.map (ztr a))) ⟨hx, hb, hml, hown, hts⟩ ((z_met0 (hM D a M _ _ _ hT H.size) zXC_no)) (hcw hown hts) ⟨zPc_blind, z_recv hcl hK hcf hO hS hrc, hpc⟩ rfl hlen (hl.1.trans h3) hst9 hrm d ⟨Nat.le_trans q1 hmc, Nat.le_trans q2 hms⟩)
  refine z_called hrun hS hFc (fun E ce q9 H1 locs1 k9 a' cy' M' hE9 hkx hE' hO' hS' hce hcv hcl' => ?_) (fun r a' cy' M' H1 locs1 hk hE' hlv hO' hS' => ?_)
  · exact hkx.elim
  · have h9 := hΨ _ _ (r.toList ++ st.drop q) _ _ _ (hk (zrgR_of hlv) hO'.1.2) q1 q2 h3 (h4.up hE'.1) (fun v hv => by
      rcases List.mem_append.mp hv with hv | hv
      · cases r with
        | none => cases hv
        | some w =>
          have : v = w := by simpa using hv
          subst this
          exact hlv v rfl
      · exact (lv2 v hv).up hE'.1) a' cy' H1 locs1 ls (hE.trans hE') hO' hS' (hl.up h4 hE'.2.1)
    rw [List.map_append, ztrS_up hE'.2.1 lv2] at h9
    cases r with
    | none => exact h9
    | some w => exact h9

end ZT
theorem zCSU {R : Room} {s : State} {args : Array Value} {own : String} {idx : Nat} {y : MethodName} {bytes : ByteArray} {maxL : Nat} {rt : Option FieldType} {rm : Room} {mc ms q : Nat} {w0 : Cond} (ht : ∀ w ∈ w0 :: zG, w.before args s = true) (h1 : Cond.code y bytes maxL rt ∈ zG) (h2 : Cond.initialized y.cls ∈ zG) (h3 : Cond.methodLink own idx y ∈ zG) (h4 : Cond.sameMethod y.cls y.cls y.name y.desc ∈ zG) (h5 : Cond.superclass own y.cls ∈ zG) (h6 : Cond.instanceMethod y ∈ zG) (hrc : rm.cells = mc) (hrs : rm.slots = ms)
    (hd : y.name ≠ "<init>" ∧ (parseMethodDescriptor y.desc).map (fun d => d.parameters.length) = some q) (hR : rm.frames + 1 ≤ R.frames ∧ 8 + (maxL + 11) + rm.locals ≤ R.locals) : va_CS R s args own idx y bytes maxL rt (Cond.code y bytes maxL rt :: zG) rm mc ms q := by
  have ht' : ∀ w ∈ zG, w.before args s = true := fun w hw => ht w (List.mem_cons_of_mem _ hw)
  have hg : ∀ w ∈ zG, ∀ (a' : Array Value) (U : State), s.WarmedH U.vm → w.before a' U = true := fun w hw a' U hW => word_at hW (good_of_word (zG_good hw)) (ht' w hw)
  refine ⟨⟨hrc, hrs, hR.1, hR.2, fun w hw => ?_, List.mem_cons_self⟩, ht' _ h3, ht' _ h4, ht' _ h5, ht' _ h6, ht' _ h2, ht' _ h1, hd.1, fun sig hsig => ?_⟩
  · rcases List.mem_cons.mp hw with rfl | hw
    · exact hg _ h1
    · exact hg _ hw
  · have h9 := hd.2
    rw [hsig] at h9
    exact (Option.some.inj h9).symm
theorem zCU {R : Room} {s : State} {args : Array Value} {own C owner : String} {idx : Nat} {x y : MethodName} {bytes b0 : ByteArray} {maxL m0 : Nat} {rt r0 : Option FieldType} {rm : Room} {mc ms q : Nat} {w0 : Cond} (ht : ∀ w ∈ w0 :: zG, w.before args s = true) (h1 : Cond.code y bytes maxL rt ∈ zG) (h2 : Cond.initialized y.cls ∈ zG) (h3 : Cond.methodLink own idx x ∈ zG) (h4 : Cond.sameMethod x.cls owner x.name x.desc ∈ zG) (h5 : Cond.instanceMethod ⟨owner, x.name, x.desc⟩ ∈ zG) (h6 : Cond.code ⟨owner, x.name, x.desc⟩ b0 m0 r0 ∈ zG) (h7 : Cond.selects C x y ∈ zG) (h8 : Cond.instanceMethod y ∈ zG) (hrc : rm.cells = mc) (hrs : rm.slots = ms)
    (ho : owner ≠ "java/lang/invoke/MethodHandle" ∧ owner ≠ "java/lang/invoke/VarHandle") (hd : (parseMethodDescriptor x.desc).map (fun d => d.parameters.length) = some q) (hR : rm.frames + 1 ≤ R.frames ∧ 8 + (maxL + 11) + rm.locals ≤ R.locals) : va_CU R s args own C owner idx x y bytes maxL rt (Cond.code y bytes maxL rt :: zG) rm mc ms q := by
  have ht' : ∀ w ∈ zG, w.before args s = true := fun w hw => ht w (List.mem_cons_of_mem _ hw)
  have hg : ∀ w ∈ zG, ∀ (a' : Array Value) (U : State), s.WarmedH U.vm → w.before a' U = true := fun w hw a' U hW => word_at hW (good_of_word (zG_good hw)) (ht' w hw)
  refine ⟨⟨hrc, hrs, hR.1, hR.2, fun w hw => ?_, List.mem_cons_self⟩, ht' _ h1, ht' _ h2, ho, fun sig hsig => ?_, ht' _ h3, ht' _ h4, va_Decl.of (ht' _ h5) (ht' _ h6), ht' _ h7, ht' _ h8⟩
  · rcases List.mem_cons.mp hw with rfl | hw
    · exact hg _ h1
    · exact hg _ hw
  · have h9 := hd
    rw [hsig] at h9
    exact (Option.some.inj h9).symm
