/-! the law: audits -/
def nty (x : Int) : Int := zand (zxor x (-1)) (x - 1)
def ntF (x : Int) : Int := if nty x ≤ 0 then zand (nty x) 32 else if nty x ≤ 16 then (if nty x ≤ 4 then 1 + zushr (nty x) 1 else 3 + zushr (zushr (nty x) 2) 1) else (if zushr (nty x) 4 ≤ 4 then 5 + zushr (zushr (nty x) 4) 1 else 7 + zushr (zushr (zushr (nty x) 4) 2) 1)
def nlF (x : Int) : Int := if x < 16 then (if x < 4 then 31 - zushr x 1 else 29 - zushr (zushr x 2) 1) else (if zushr x 4 < 4 then 27 - zushr (zushr x 4) 1 else 25 - zushr (zushr (zushr x 4) 2) 1)
theorem nt_b : ∀ v : Fin 64, nty (v.val : Int) ≤ 63 ∧ (0 ≤ zushr (nty (v.val : Int)) 4 ∨ nty (v.val : Int) ≤ 0) ∧ (0 ≤ ntF (v.val : Int) ∧ ntF (v.val : Int) ≤ 32) := by decide +kernel
theorem nl_b : ∀ v : Fin 64, v.val = 0 ∨ (zushr (v.val : Int) 4 ≤ 3) ∧ (0 ≤ nlF (v.val : Int) ∧ nlF (v.val : Int) ≤ 32) := by decide +kernel
theorem or_b : ∀ v : Fin 64, 1 ≤ zor (v.val : Int) 1 ∧ zor (v.val : Int) 1 ≤ 63 := by decide +kernel
theorem nt_pq : ∀ p q : Fin 6, p < q → Int.tmod (ntF (zor (zshl 1 (p.val : Int)) (zshl 1 (q.val : Int)))) 32 = (p.val : Int) ∧ 31 - nlF (zor (zor (zshl 1 (p.val : Int)) (zshl 1 (q.val : Int))) 1) = (q.val : Int) := by decide +kernel
theorem bits6 {P : Int → Prop} (h : ∀ v : Fin 64, P (v.val : Int)) {x : Int} (hx : 0 ≤ x ∧ x < 64) : P x := by
  have h9 := h ⟨x.toNat, by omega⟩
  rwa [show (((⟨x.toNat, by omega⟩ : Fin 64).val : Nat) : Int) = x by show ((x.toNat : Nat) : Int) = x; omega] at h9
theorem by_bits {G : Gm} {r p q : Int} (h : BYp G r p q) (h4 : G 4 ≤ 6) : Int.tmod (ntF (fiG G r)) 32 = p ∧ 31 - nlF (zor (fiG G r) 1) = q := by
  unfold BYp at h
  obtain ⟨p0, pq, q1, e⟩ := h
  have h9 := nt_pq ⟨p.toNat, by omega⟩ ⟨q.toNat, by omega⟩ (by show p.toNat < q.toNat; omega)
  have e1 : ((p.toNat : Nat) : Int) = p := by omega
  have e2 : ((q.toNat : Nat) : Int) = q := by omega
  simp only [e1, e2] at h9
  have e3 : fiG G r = zor (zshl 1 p) (zshl 1 q) := e
  rw [e3]
  exact h9

theorem nt_u {x : Int} (h : 0 < nty x) : ntF x = if nty x ≤ 16 then (if nty x ≤ 4 then 1 + zushr (nty x) 1 else 3 + zushr (zushr (nty x) 2) 1) else (if zushr (nty x) 4 ≤ 4 then 5 + zushr (zushr (nty x) 4) 1 else 7 + zushr (zushr (zushr (nty x) 4) 2) 1) := if_neg (by omega)

def T_J6_numberOfTrailingZeros_0f7a4 : ZTf := fun av M K KX => ∃ x : Int, av = [zi x] ∧ (0 ≤ x ∧ x < 64) ∧ K (some (zi (ntF x))) M
set_option maxRecDepth 100000 in
set_option maxHeartbeats 1500000 in
theorem bd_J6_numberOfTrailingZeros_0f7a4 : zBd (cd_J6_numberOfTrailingZeros_0f7a4) 2 0 0 T_J6_numberOfTrailingZeros_0f7a4 := by
  rintro av M K KX hA0 hM ⟨x, rfl, hx, hK⟩
  have hb := bits6 (P := fun x => nty x ≤ 63 ∧ (0 ≤ zushr (nty x) 4 ∨ nty x ≤ 0) ∧ (0 ≤ ntF x ∧ ntF x ≤ 32)) nt_b hx
  obtain ⟨hb1, hb2, hb3⟩ := hb
  obtain ⟨T, hT⟩ : ∃ T, ntF x = T := ⟨_, rfl⟩
  rw [hT] at hK hb3
  refine ⟨rfl, fun Φ hΦ => ?_⟩
  have c74 : ∀ a b : Int, b + zushr a 1 = T → Φ 74 [some (zi a), some (zi b)] [] M 0 0 := fun a b h => by
    obtain ⟨c, hc⟩ : ∃ c, zushr a 1 = c := ⟨_, rfl⟩
    rw [hc] at h
    refine zGoR hΦ [] 400 (fun hL9 _ hM _ _ => ?_)
    obtain ⟨qL1, qL2, _⟩ : zrg a ∧ zrg b ∧ True := hL9
    refine ⟨(zrgI (x := b + zushr a 1) (by omega)), ⟨trivial, (show K (some (zi (b + zushr a 1))) M from ?g15l1)⟩⟩
    case g15l1 => rw [hc, h]; exact hK
  have c62 : ∀ a b : Int, (0 ≤ b ∧ b ≤ 100) → (a ≤ 4 → b + zushr a 1 = T) → (4 < a → b + 2 + zushr (zushr a 2) 1 = T) → Φ 62 [some (zi a), some (zi b)] [] M 0 0 := fun a b hb h1 h2 => by
    refine zGoR hΦ [74] 400 (fun hL9 _ hM _ _ => ?_)
    obtain ⟨qL1, qL2, _⟩ : zrg a ∧ zrg b ∧ True := hL9
    refine ⟨fun (qc1 : a ≤ 4) => (show Φ 74 [some (zi a), some (zi b)] [] M (0) (0) from ?g16l1), fun (qc2 : a > 4) => ⟨(zrgI (x := b + 2) (by omega)), (show Φ 74 [some (zi (zushr a 2)), some (zi (b + 2))] [] M (0) (0) from ?g16l2)⟩⟩
    case g16l1 => exact c74 _ _ (h1 (by omega))
    case g16l2 => exact c74 _ _ (h2 (by omega))
  have c19 : ∀ y : Int, 0 < y → nty x = y → Φ 19 [some (zi y), some (zi 1)] [] M 0 0 := fun y hy0 hy => by
    have hu := nt_u (x := x) (by rw [hy]; exact hy0)
    rw [hy, hT] at hu
    rw [hy] at hb1 hb2
    clear hT hy
    refine zGoR hΦ [62] 400 (fun hL9 _ hM _ _ => ?_)
    obtain ⟨qL1, qL2, _⟩ : zrg y ∧ zrg 1 ∧ True := hL9
    refine ⟨fun (qc1 : y ≤ 65536) => ⟨fun (qc2 : y ≤ 256) => ⟨fun (qc3 : y ≤ 16) => (show Φ 62 [some (zi y), some (zi 1)] [] M (0) (0) from ?g17l1), fun (qc4 : y > 16) => ⟨(by decide), (show Φ 62 [some (zi (zushr y 4)), some (zi 5)] [] M (0) (0) from ?g17l2)⟩⟩, fun (qc5 : y > 256) => ⟨(by decide), ⟨fun (qc6 : zushr y 8 ≤ 16) => (show Φ 62 [some (zi (zushr y 8)), some (zi 9)] [] M (0) (0) from ?g17l3), fun (qc7 : zushr y 8 > 16) => ⟨(by decide), (show Φ 62 [some (zi (zushr (zushr y 8) 4)), some (zi 13)] [] M (0) (0) from ?g17l4)⟩⟩⟩⟩, fun (qc8 : y > 65536) => ⟨(by decide), ⟨fun (qc9 : zushr y 16 ≤ 256) => ⟨fun (qc10 : zushr y 16 ≤ 16) => (show Φ 62 [some (zi (zushr y 16)), some (zi 17)] [] M (0) (0) from ?g17l5), fun (qc11 : zushr y 16 > 16) => ⟨(by decide), (show Φ 62 [some (zi (zushr (zushr y 16) 4)), some (zi 21)] [] M (0) (0) from ?g17l6)⟩⟩, fun (qc12 : zushr y 16 > 256) => ⟨(by decide), ⟨fun (qc13 : zushr (zushr y 16) 8 ≤ 16) => (show Φ 62 [some (zi (zushr (zushr y 16) 8)), some (zi 25)] [] M (0) (0) from ?g17l7), fun (qc14 : zushr (zushr y 16) 8 > 16) => ⟨(by decide), (show Φ 62 [some (zi (zushr (zushr (zushr y 16) 8) 4)), some (zi 29)] [] M (0) (0) from ?g17l8)⟩⟩⟩⟩⟩⟩
    case g17l1 =>
      first
            | (exfalso; omega)
            | (rw [if_pos (by omega)] at hu; exact c62 _ _ (by omega) (fun z => by rw [if_pos z] at hu; exact hu.symm) (fun z => by rw [if_neg (by omega)] at hu; exact hu.symm))
            | (rw [if_neg (by omega)] at hu; exact c62 _ _ (by omega) (fun z => by rw [if_pos z] at hu; exact hu.symm) (fun z => by rw [if_neg (by omega)] at hu; exact hu.symm))
    case g17l2 =>
      first
            | (exfalso; omega)
            | (rw [if_pos (by omega)] at hu; exact c62 _ _ (by omega) (fun z => by rw [if_pos z] at hu; exact hu.symm) (fun z => by rw [if_neg (by omega)] at hu; exact hu.symm))
            | (rw [if_neg (by omega)] at hu; exact c62 _ _ (by omega) (fun z => by rw [if_pos z] at hu; exact hu.symm) (fun z => by rw [if_neg (by omega)] at hu; exact hu.symm))
    case g17l3 =>
      first
            | (exfalso; omega)
            | (rw [if_pos (by omega)] at hu; exact c62 _ _ (by omega) (fun z => by rw [if_pos z] at hu; exact hu.symm) (fun z => by rw [if_neg (by omega)] at hu; exact hu.symm))
            | (rw [if_neg (by omega)] at hu; exact c62 _ _ (by omega) (fun z => by rw [if_pos z] at hu; exact hu.symm) (fun z => by rw [if_neg (by omega)] at hu; exact hu.symm))
    case g17l4 =>
      first
            | (exfalso; omega)
            | (rw [if_pos (by omega)] at hu; exact c62 _ _ (by omega) (fun z => by rw [if_pos z] at hu; exact hu.symm) (fun z => by rw [if_neg (by omega)] at hu; exact hu.symm))
            | (rw [if_neg (by omega)] at hu; exact c62 _ _ (by omega) (fun z => by rw [if_pos z] at hu; exact hu.symm) (fun z => by rw [if_neg (by omega)] at hu; exact hu.symm))
    case g17l5 =>
      first
            | (exfalso; omega)
            | (rw [if_pos (by omega)] at hu; exact c62 _ _ (by omega) (fun z => by rw [if_pos z] at hu; exact hu.symm) (fun z => by rw [if_neg (by omega)] at hu; exact hu.symm))
            | (rw [if_neg (by omega)] at hu; exact c62 _ _ (by omega) (fun z => by rw [if_pos z] at hu; exact hu.symm) (fun z => by rw [if_neg (by omega)] at hu; exact hu.symm))
    case g17l6 =>
      first
            | (exfalso; omega)
            | (rw [if_pos (by omega)] at hu; exact c62 _ _ (by omega) (fun z => by rw [if_pos z] at hu; exact hu.symm) (fun z => by rw [if_neg (by omega)] at hu; exact hu.symm))
            | (rw [if_neg (by omega)] at hu; exact c62 _ _ (by omega) (fun z => by rw [if_pos z] at hu; exact hu.symm) (fun z => by rw [if_neg (by omega)] at hu; exact hu.symm))
    case g17l7 =>
      first
            | (exfalso; omega)
            | (rw [if_pos (by omega)] at hu; exact c62 _ _ (by omega) (fun z => by rw [if_pos z] at hu; exact hu.symm) (fun z => by rw [if_neg (by omega)] at hu; exact hu.symm))
            | (rw [if_neg (by omega)] at hu; exact c62 _ _ (by omega) (fun z => by rw [if_pos z] at hu; exact hu.symm) (fun z => by rw [if_neg (by omega)] at hu; exact hu.symm))
    case g17l8 =>
      first
            | (exfalso; omega)
            | (rw [if_pos (by omega)] at hu; exact c62 _ _ (by omega) (fun z => by rw [if_pos z] at hu; exact hu.symm) (fun z => by rw [if_neg (by omega)] at hu; exact hu.symm))
            | (rw [if_neg (by omega)] at hu; exact c62 _ _ (by omega) (fun z => by rw [if_pos z] at hu; exact hu.symm) (fun z => by rw [if_neg (by omega)] at hu; exact hu.symm))
  have c8 : ∀ y : Int, nty x = y → Φ 8 [some (zi y), none] [] M 0 0 := fun y hy => by
    have hz : y ≤ 0 → zand y 32 = T := fun z => by rw [← hT, ← hy]; unfold ntF; rw [if_pos (by omega)]
    refine zGoR hΦ [19] 400 (fun hL9 _ hM _ _ => ?_)
    obtain ⟨qL1, _⟩ : zrg y ∧ True := hL9
    refine ⟨fun (qc1 : y > 0) => (show Φ 19 [some (zi y), some (zi 1)] [] M (0) (0) from ?g18l1), fun (qc2 : y ≤ 0) => ⟨trivial, (show K (some (zi (zand y 32))) M from ?g18l2)⟩⟩
    case g18l1 => exact c19 _ (by omega) hy
    case g18l2 => rw [hz (by omega)]; exact hK
  refine zGoR hΦ [8] 400 (fun hL9 _ hM _ _ => ?_)
  obtain ⟨qL1, _⟩ : zrg x ∧ True := hL9
  refine ⟨(zrgI (x := x - 1) (by omega)), (show Φ 8 [some (zi (zand (zxor x (-1)) (x - 1))), none] [] M (0) (0) from ?g19l1)⟩
  case g19l1 => exact c8 _ rfl

theorem M_J6_numberOfTrailingZeros_0f7a4 {l : Launch} (hl : l.stackTraces = false) : zMet l yJ6_numberOfTrailingZeros_0f7a4 (Cond.code yJ6_numberOfTrailingZeros_0f7a4 cJ6_numberOfTrailingZeros_0f7a4 2 (Option.some Jvm.ClassFile.FieldType.int) :: zG) rm_J6_numberOfTrailingZeros_0f7a4 0 0 T_J6_numberOfTrailingZeros_0f7a4 := met_J6_numberOfTrailingZeros_0f7a4 hl bd_J6_numberOfTrailingZeros_0f7a4

def T_J6_numberOfLeadingZeros_0f7a4 : ZTf := fun av M K KX => ∃ x : Int, av = [zi x] ∧ (1 ≤ x ∧ x < 64) ∧ K (some (zi (nlF x))) M
set_option maxRecDepth 100000 in
set_option maxHeartbeats 1500000 in
theorem bd_J6_numberOfLeadingZeros_0f7a4 : zBd (cd_J6_numberOfLeadingZeros_0f7a4) 2 0 0 T_J6_numberOfLeadingZeros_0f7a4 := by
  rintro av M K KX hA0 hM ⟨x, rfl, hx, hK⟩
  have hb := bits6 (P := fun x => x = 0 ∨ (zushr x 4 ≤ 3) ∧ (0 ≤ nlF x ∧ nlF x ≤ 32)) (fun v => by have := nl_b v; omega) ⟨by omega, hx.2⟩
  obtain ⟨T, hT⟩ : ∃ T, nlF x = T := ⟨_, rfl⟩
  rw [hT] at hK hb
  have hu := hT
  unfold nlF at hu
  refine ⟨rfl, fun Φ hΦ => ?_⟩
  have c73 : ∀ a b : Int, b - zushr a 1 = T → Φ 73 [some (zi a), some (zi b)] [] M 0 0 := fun a b h => by
    obtain ⟨c, hc⟩ : ∃ c, zushr a 1 = c := ⟨_, rfl⟩
    rw [hc] at h
    refine zGoR hΦ [] 400 (fun hL9 _ hM _ _ => ?_)
    obtain ⟨qL1, qL2, _⟩ : zrg a ∧ zrg b ∧ True := hL9
    refine ⟨(zrgI (x := b - (zushr a 1)) (by omega)), ⟨trivial, (show K (some (zi (b - (zushr a 1)))) M from ?g20l1)⟩⟩
    case g20l1 => rw [hc, h]; exact hK
  have c61 : ∀ a b : Int, (0 ≤ b ∧ b ≤ 100) → (a < 4 → b - zushr a 1 = T) → (4 ≤ a → b - 2 - zushr (zushr a 2) 1 = T) → Φ 61 [some (zi a), some (zi b)] [] M 0 0 := fun a b hb h1 h2 => by
    refine zGoR hΦ [73] 400 (fun hL9 _ hM _ _ => ?_)
    obtain ⟨qL1, qL2, _⟩ : zrg a ∧ zrg b ∧ True := hL9
    refine ⟨fun (qc1 : a < 4) => (show Φ 73 [some (zi a), some (zi b)] [] M (0) (0) from ?g21l1), fun (qc2 : a ≥ 4) => ⟨(zrgI (x := b + (-2)) (by omega)), (show Φ 73 [some (zi (zushr a 2)), some (zi (b + (-2)))] [] M (0) (0) from ?g21l2)⟩⟩
    case g21l1 => exact c73 _ _ (h1 (by omega))
    case g21l2 => exact c73 _ _ (h2 (by omega))
  refine zGoR hΦ [61] 400 (fun hL9 _ hM _ _ => ?_)
  obtain ⟨qL1, _⟩ : zrg x ∧ True := hL9
  refine ⟨fun (qc1 : x > 0) => ⟨fun (qc2 : x < 65536) => ⟨fun (qc3 : x < 256) => ⟨fun (qc4 : x < 16) => (show Φ 61 [some (zi x), some (zi 31)] [] M (0) (0) from ?g22l1), fun (qc5 : x ≥ 16) => ⟨(by decide), (show Φ 61 [some (zi (zushr x 4)), some (zi 27)] [] M (0) (0) from ?g22l2)⟩⟩, fun (qc6 : x ≥ 256) => ⟨(by decide), ⟨fun (qc7 : zushr x 8 < 16) => (show Φ 61 [some (zi (zushr x 8)), some (zi 23)] [] M (0) (0) from ?g22l3), fun (qc8 : zushr x 8 ≥ 16) => ⟨(by decide), (show Φ 61 [some (zi (zushr (zushr x 8) 4)), some (zi 19)] [] M (0) (0) from ?g22l4)⟩⟩⟩⟩, fun (qc9 : x ≥ 65536) => ⟨(by decide), ⟨fun (qc10 : zushr x 16 < 256) => ⟨fun (qc11 : zushr x 16 < 16) => (show Φ 61 [some (zi (zushr x 16)), some (zi 15)] [] M (0) (0) from ?g22l5), fun (qc12 : zushr x 16 ≥ 16) => ⟨(by decide), (show Φ 61 [some (zi (zushr (zushr x 16) 4)), some (zi 11)] [] M (0) (0) from ?g22l6)⟩⟩, fun (qc13 : zushr x 16 ≥ 256) => ⟨(by decide), ⟨fun (qc14 : zushr (zushr x 16) 8 < 16) => (show Φ 61 [some (zi (zushr (zushr x 16) 8)), some (zi 7)] [] M (0) (0) from ?g22l7), fun (qc15 : zushr (zushr x 16) 8 ≥ 16) => ⟨(by decide), (show Φ 61 [some (zi (zushr (zushr (zushr x 16) 8) 4)), some (zi 3)] [] M (0) (0) from ?g22l8)⟩⟩⟩⟩⟩⟩, fun (qc16 : x ≤ 0) => ⟨fun (qc17 : x ≠ 0) => ⟨trivial, (show K (some (zi 0)) M from ?g22l9)⟩, fun (qc18 : x = 0) => ⟨trivial, (show K (some (zi 32)) M from ?g22l10)⟩⟩⟩
  case g22l1 =>
    first
          | (exfalso; omega)
          | (rw [if_pos (by omega)] at hu; exact c61 _ _ (by omega) (fun z => by rw [if_pos z] at hu; exact hu) (fun z => by rw [if_neg (by omega)] at hu; exact hu))
          | (rw [if_neg (by omega)] at hu; exact c61 _ _ (by omega) (fun z => by rw [if_pos z] at hu; exact hu) (fun z => by rw [if_neg (by omega)] at hu; exact hu))
  case g22l2 =>
    first
          | (exfalso; omega)
          | (rw [if_pos (by omega)] at hu; exact c61 _ _ (by omega) (fun z => by rw [if_pos z] at hu; exact hu) (fun z => by rw [if_neg (by omega)] at hu; exact hu))
          | (rw [if_neg (by omega)] at hu; exact c61 _ _ (by omega) (fun z => by rw [if_pos z] at hu; exact hu) (fun z => by rw [if_neg (by omega)] at hu; exact hu))
  case g22l3 =>
    first
          | (exfalso; omega)
          | (rw [if_pos (by omega)] at hu; exact c61 _ _ (by omega) (fun z => by rw [if_pos z] at hu; exact hu) (fun z => by rw [if_neg (by omega)] at hu; exact hu))
          | (rw [if_neg (by omega)] at hu; exact c61 _ _ (by omega) (fun z => by rw [if_pos z] at hu; exact hu) (fun z => by rw [if_neg (by omega)] at hu; exact hu))
  case g22l4 =>
    first
          | (exfalso; omega)
          | (rw [if_pos (by omega)] at hu; exact c61 _ _ (by omega) (fun z => by rw [if_pos z] at hu; exact hu) (fun z => by rw [if_neg (by omega)] at hu; exact hu))
          | (rw [if_neg (by omega)] at hu; exact c61 _ _ (by omega) (fun z => by rw [if_pos z] at hu; exact hu) (fun z => by rw [if_neg (by omega)] at hu; exact hu))
  case g22l5 =>
    first
          | (exfalso; omega)
          | (rw [if_pos (by omega)] at hu; exact c61 _ _ (by omega) (fun z => by rw [if_pos z] at hu; exact hu) (fun z => by rw [if_neg (by omega)] at hu; exact hu))
          | (rw [if_neg (by omega)] at hu; exact c61 _ _ (by omega) (fun z => by rw [if_pos z] at hu; exact hu) (fun z => by rw [if_neg (by omega)] at hu; exact hu))
  case g22l6 =>
    first
          | (exfalso; omega)
          | (rw [if_pos (by omega)] at hu; exact c61 _ _ (by omega) (fun z => by rw [if_pos z] at hu; exact hu) (fun z => by rw [if_neg (by omega)] at hu; exact hu))
          | (rw [if_neg (by omega)] at hu; exact c61 _ _ (by omega) (fun z => by rw [if_pos z] at hu; exact hu) (fun z => by rw [if_neg (by omega)] at hu; exact hu))
  case g22l7 =>
    first
          | (exfalso; omega)
          | (rw [if_pos (by omega)] at hu; exact c61 _ _ (by omega) (fun z => by rw [if_pos z] at hu; exact hu) (fun z => by rw [if_neg (by omega)] at hu; exact hu))
          | (rw [if_neg (by omega)] at hu; exact c61 _ _ (by omega) (fun z => by rw [if_pos z] at hu; exact hu) (fun z => by rw [if_neg (by omega)] at hu; exact hu))
  case g22l8 =>
    first
          | (exfalso; omega)
          | (rw [if_pos (by omega)] at hu; exact c61 _ _ (by omega) (fun z => by rw [if_pos z] at hu; exact hu) (fun z => by rw [if_neg (by omega)] at hu; exact hu))
          | (rw [if_neg (by omega)] at hu; exact c61 _ _ (by omega) (fun z => by rw [if_pos z] at hu; exact hu) (fun z => by rw [if_neg (by omega)] at hu; exact hu))
  case g22l9 =>
    first
          | (exfalso; omega)
          | (rw [if_pos (by omega)] at hu; exact c61 _ _ (by omega) (fun z => by rw [if_pos z] at hu; exact hu) (fun z => by rw [if_neg (by omega)] at hu; exact hu))
          | (rw [if_neg (by omega)] at hu; exact c61 _ _ (by omega) (fun z => by rw [if_pos z] at hu; exact hu) (fun z => by rw [if_neg (by omega)] at hu; exact hu))
  case g22l10 =>
    first
          | (exfalso; omega)
          | (rw [if_pos (by omega)] at hu; exact c61 _ _ (by omega) (fun z => by rw [if_pos z] at hu; exact hu) (fun z => by rw [if_neg (by omega)] at hu; exact hu))
          | (rw [if_neg (by omega)] at hu; exact c61 _ _ (by omega) (fun z => by rw [if_pos z] at hu; exact hu) (fun z => by rw [if_neg (by omega)] at hu; exact hu))

theorem M_J6_numberOfLeadingZeros_0f7a4 {l : Launch} (hl : l.stackTraces = false) : zMet l yJ6_numberOfLeadingZeros_0f7a4 (Cond.code yJ6_numberOfLeadingZeros_0f7a4 cJ6_numberOfLeadingZeros_0f7a4 2 (Option.some Jvm.ClassFile.FieldType.int) :: zG) rm_J6_numberOfLeadingZeros_0f7a4 0 0 T_J6_numberOfLeadingZeros_0f7a4 := met_J6_numberOfLeadingZeros_0f7a4 hl bd_J6_numberOfLeadingZeros_0f7a4

