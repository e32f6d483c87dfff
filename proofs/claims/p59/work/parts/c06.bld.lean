/-! the law: a builder out of a text -/
def T_J4_append_cf1ce : ZTf := fun av M K KX => ∃ (b s c : Nat) (o l : List Int), av = [zo b, zo s] ∧ SB M b c o ∧ zTx M s l ∧ (l.length ≤ 100) ∧ (vu M s ≠ vu M b) ∧ asc l ∧ (o.length < 800) ∧ (668 < zN M) ∧ (o.length + l.length ≤ c) ∧ (∀ M' : ZM, SB M' b c (o ++ l) → FX b M M' → K (some (zo b)) M')
set_option maxRecDepth 100000 in
theorem bd_J4_append_cf1ce : zBd (cd_J4_append_cf1ce T_J4_append_15ec4T) 2 0 0 T_J4_append_cf1ce := by
  rintro av M K KX hA0 hM ⟨b, s, c, o, l, rfl, hS, hz, hb, hne, hlt, hn, h46, hc, hK⟩
  refine ⟨rfl, fun Φ hΦ => ?_⟩
  refine zGoR hΦ [] 400 (fun hL9 _ hM _ _ => ?_)
  exact ⟨0, 0, ⟨(by decide), (by decide)⟩, ⟨⟨rfl, rfl⟩, hS.w.rcv⟩, ⟨b, s, c, c, o, l, rfl, hS, hz, hb, hne, hlt, hn, h46, if_pos hc, ⟨by omega, by omega⟩, fun M1 hS1 hx1 => fun _ _ => hK M1 hS1 hx1⟩⟩
theorem M_J4_append_cf1ce {l : Launch} (hl : l.stackTraces = false) : zMet l yJ4_append_cf1ce (Cond.code yJ4_append_cf1ce cJ4_append_cf1ce 2 (Option.some (Jvm.ClassFile.FieldType.object "java/lang/AbstractStringBuilder")) :: zG) rm_J4_append_cf1ce 0 0 T_J4_append_cf1ce := met_J4_append_cf1ce hl (M_J4_append_15ec4T hl) bd_J4_append_cf1ce
theorem SB_mk {M : ZM} {b n : Nat} {cd : Int} (hw : zW M b 1) (hcd : cd = 0) (h3 : zI M b 3 = 0) (hb : b + 1 = zN M) (hn : n ≤ 2000) : SB (zsR (zNw (zsI M b 1 cd) 21 n) b 0 (some (zN M))) b n [] ∧ UB b M (zsR (zNw (zsI M b 1 cd) 21 n) b 0 (some (zN M))) ∧ vu (zsR (zNw (zsI M b 1 cd) 21 n) b 0 (some (zN M))) b = zN M := by
  subst hcd
  have e0 : zR (zsR (zNw (zsI M b 1 0) 21 n) b 0 (some (zN M))) b 0 = some (zN M) := up2_s _ _ _ _
  have ev : vu (zsR (zNw (zsI M b 1 0) 21 n) b 0 (some (zN M))) b = zN M := by unfold vu; rw [e0]; rfl
  have hzn : zCC ≤ zN M := Nat.le_trans hw.2.1 (by omega)
  have eI : ∀ j k, zI (zsR (zNw (zsI M b 1 0) 21 n) b 0 (some (zN M))) j k = if j = zN M then 0 else zI (zsI M b 1 0) j k := fun j k => by
    show up1 (zI (zsI M b 1 0)) (zN M) (fun _ => 0) j k = _
    by_cases e : j = zN M
    · rw [if_pos e, e, up1_s]
    · rw [if_neg e, up1_n _ _ _ e]
  refine ⟨⟨⟨(up1_n _ _ _ (Nat.ne_of_lt hw.2.2)).trans hw.1, hw.2.1, Nat.lt_succ_of_lt hw.2.2⟩, ?_, ⟨?_, ?_⟩, ⟨Nat.zero_le _, hn⟩, fun k => ?_, fun k hk => absurd hk (Nat.not_lt_zero _)⟩, ?_, ev⟩
  · rw [ev]
    exact ⟨e0, ⟨up1_s _ _ _, hzn, Nat.lt_succ_self _⟩, up1_s _ _ _⟩
  · rw [eI, if_neg (by omega)]
    exact zI_Is _ _ _ _
  · rw [eI, if_neg (by omega)]
    exact (zIm M b 0 (by decide)).trans h3
  · rw [ev, eI, if_pos rfl]
    exact ⟨by decide, by decide⟩
  · exact ((UB.i (Nat.le_refl _)).tr (UB.n (show b ≤ zN (zsI M b 1 0) from Nat.le_of_lt (by show b < zN M; omega)))).tr (UB.r (Nat.le_refl _))
theorem FX.ub {b : Nat} {M M' : ZM} (h : FX b M M') (hb : b < zN M) (hv : b ≤ vu M b) : UB b M M' := ⟨h.1, fun j hj => by
  obtain ⟨a1, a2, a3, a4⟩ := h.2.2 j (by omega)
  exact ⟨a1, a2, a4 (by omega) (by omega), a3 (by omega)⟩⟩

theorem zTx_ub {M M' : ZM} {s b : Nat} {l : List Int} (h : zTx M s l) (hs : s < b) (hv : vu M s < b) (hb : b + 1 = zN M) (h668 : 668 < b) (u : UB b M M') : zTx M' s l := by
  obtain ⟨a1, a2, v, a3, a4, a5, a7, a6⟩ := h
  have ev : vu M s = v := by unfold vu; rw [a3]; rfl
  rw [ev] at hv
  obtain ⟨u1, u2, u3, u4⟩ := u.2 s hs
  obtain ⟨v1, v2, v3, v4⟩ := u.2 v hv
  have hN := u.1
  refine ⟨⟨u1.trans a1.1, by have := a1.2; omega⟩, by rw [u3]; exact a2, v, by rw [u4]; exact a3, ⟨v1.trans a4.1, by have := a4.2; omega⟩, v2.trans a5, ⟨a7.1, ?_⟩, fun k hk => by rw [v3]; exact a6 k hk⟩
  rw [(u.2 668 h668).2.2.2]
  exact a7.2

def T_J5_init_a7421 : ZTf := fun av M K KX => ∃ (b s : Nat) (l : List Int), av = [zo b, zo s] ∧ zW M b 1 ∧ (zI M b 3 = 0) ∧ (b + 1 = zN M) ∧ (668 < b) ∧ zTx M s l ∧ (s < b ∧ vu M s < b) ∧ asc l ∧ (l.length ≤ 100) ∧ (∀ M' : ZM, SB M' b (l.length + 16) l → UB b M M' → b ≤ vu M' b → K none M')
set_option maxRecDepth 100000 in
set_option maxHeartbeats 1500000 in
theorem bd_J5_init_a7421 : zBd (cd_J5_init_a7421 T_J0_length_8abf5 T_J0_coder_7d493 T_J4_append_cf1ce) 5 1 120 T_J5_init_a7421 := by
  rintro av M K KX hA0 hM ⟨b, s, l, rfl, hw, h3, hb, h668, hz, hsb, hl, hlen, hK⟩
  obtain ⟨hO, hc, v, hv, ha, hvl, hvv, he⟩ := id hz
  refine ⟨rfl, fun Φ hΦ => ?_⟩
  have e56 : ∀ (M1 : ZM) (x y : Int) (k n : Nat), SB M1 b (l.length + 16) [] → UB b M M1 → vu M1 b = zN M → zTx M1 s l → vu M1 s ≠ vu M1 b → 668 < zN M1 → k ≤ 1 → n ≤ 120 → Φ 56 [some (zo b), some (zo s), some (zi (l.length : Int)), some (zi x), some (zi y)] [] M1 k n := fun M1 x y k n hS1 hu1 hv1 hz1 hne1 h46 hk hn => by
    have hw := hS1.w
    refine zGoR hΦ [] 400 (fun hL9 _ hM _ _ => ?_)
    obtain ⟨qL1, qL2, qL3, _⟩ : zrg (l.length : Int) ∧ zrg x ∧ zrg y ∧ True := hL9
    refine ⟨⟨(by omega), (by omega)⟩, ⟨⟨rfl, rfl⟩, hw.rcv⟩, ⟨b, s, l.length + 16, [], l, rfl, hS1, hz1, hlen, hne1, hl, (by decide), h46, (by show 0 + l.length ≤ l.length + 16; omega), (fun M2 hS2 hx2 => fun _ _ => ⟨rfl, (show K none M2 from ?g84l1)⟩)⟩⟩
    case g84l1 => exact hK M2 hS2 (hu1.tr (hx2.ub (by have := hw.2.2; omega) (by omega))) (by have h8 := hw.2.2; rcases hx2.2.1 with z | z <;> omega)
  refine zGoR hΦ [56] 400 (fun hL9 _ hM _ _ => ?_)
  obtain ⟨_⟩ : True := hL9
  refine ⟨(Nat.le_of_ble_eq_true rfl), ⟨⟨⟨rfl, rfl⟩, ⟨hz.1, Or.inr rfl⟩⟩, ⟨s, l, rfl, hz, hlen, (fun (ql : zrg (l.length : Int)) _ => ⟨fun (qc1 : (l.length : Int) ≥ 2147483631) => ?g85l1, fun (qc2 : (l.length : Int) < 2147483631) => ⟨(zrgI (x := (l.length : Int) + 16) (by omega)), ⟨⟨⟨rfl, rfl⟩, ⟨hz.1, Or.inr rfl⟩⟩, ⟨rfl, ⟨fun (h : (1 : Int) = 0) => absurd h (by decide), fun _ => ⟨hz.1, ⟨(zPbI (x := zI M s 1) (by omega)), fun (qg3 : zrg (zI M s 1)) _ => ⟨⟨(by first | exact hw | exact zW.nw hw), (zPbI (x := zI M s 1) (by omega))⟩, ⟨fun (qc4 : zI M s 1 ≠ 0) => ?g85l2, fun (qc5 : zI M s 1 = 0) => ⟨⟨(by omega), (by omega), (by omega), (by omega)⟩, ⟨(by first | exact hw | exact zW.nw hw), (show Φ 56 [some (zo b), some (zo s), some (zi (l.length : Int)), some (zi ((l.length : Int) + 16)), some (zi (zI M s 1))] [] (zsR (zNw (zsI M b 1 (zI M s 1)) 21 ((l.length : Int) + 16).toNat) b 0 (some (zN M))) (0 + 1) (0 + ((l.length : Int) + 16).toNat) from ?g85l3)⟩⟩⟩⟩⟩⟩⟩⟩⟩⟩⟩)⟩⟩⟩
  case g85l1 => exfalso; omega
  case g85l2 => exfalso; omega
  case g85l3 =>
    have hq := SB_mk (n := (((l.length : Int)) + 16).toNat) hw hc h3 hb (by omega)
    have en : (((l.length : Int)) + 16).toNat = l.length + 16 := by omega
    rw [en] at hq
    rw [en]
    have hz1 : zTx (zsR (zNw (zsI M b 1 (zI M s 1)) 21 (l.length + 16)) b 0 (some (zN M))) s l := zTx_ub hz (by omega) (by omega) hb h668 hq.2.1
    refine e56 _ _ _ _ _ hq.1 hq.2.1 hq.2.2 hz1 ?_ (by show 668 < zN M + 1; omega) (by omega) (by omega)
    rw [hq.2.2]
    obtain ⟨-, -, v9, hv9, ha9, -⟩ := id hz
    have e9 := (hq.2.1.2 s (by omega)).2.2.2
    unfold vu
    rw [e9, hv9]
    show v9 ≠ zN M
    have := ha9.2
    omega

theorem M_J5_init_a7421 {l : Launch} (hl : l.stackTraces = false) : zMet l yJ5_init_a7421 (Cond.code yJ5_init_a7421 cJ5_init_a7421 5 (Option.none : Option Jvm.ClassFile.FieldType) :: zG) rm_J5_init_a7421 1 120 T_J5_init_a7421 := met_J5_init_a7421 hl (M_J0_length_8abf5 hl) (M_J0_coder_7d493 hl) (M_J4_append_cf1ce hl) bd_J5_init_a7421

def T_J4_init_a7421 : ZTf := fun av M K KX => ∃ (b s : Nat) (l : List Int), av = [zo b, zo s] ∧ zW M b 1 ∧ (zI M b 3 = 0) ∧ (b + 1 = zN M) ∧ (668 < b) ∧ zTx M s l ∧ (s < b ∧ vu M s < b) ∧ asc l ∧ (l.length ≤ 100) ∧ (∀ M' : ZM, SB M' b (l.length + 16) l → UB b M M' → b ≤ vu M' b → K none M')
set_option maxRecDepth 100000 in
set_option maxHeartbeats 1500000 in
theorem bd_J4_init_a7421 : zBd (cd_J4_init_a7421 T_J5_init_a7421) 2 1 120 T_J4_init_a7421 := by
  rintro av M K KX hA0 hM ⟨b, s, l, rfl, hw, h3, hb, h668, hz, hsb, hl, hlen, hK⟩
  refine ⟨rfl, fun Φ hΦ => ?_⟩
  refine zGoR hΦ [] 400 (fun hL9 _ hM _ _ => ?_)
  exact ⟨⟨(by decide), (by decide)⟩, ⟨⟨rfl, rfl⟩, hw.rcv⟩, ⟨b, s, l, rfl, hw, h3, hb, h668, hz, hsb, hl, hlen, fun M1 hS1 hu1 hv1 => fun _ _ => hK M1 hS1 hu1 hv1⟩⟩

theorem M_J4_init_a7421 {l : Launch} (hl : l.stackTraces = false) : zMet l yJ4_init_a7421 (Cond.code yJ4_init_a7421 cJ4_init_a7421 2 (Option.none : Option Jvm.ClassFile.FieldType) :: zG) rm_J4_init_a7421 1 120 T_J4_init_a7421 := met_J4_init_a7421 hl (M_J5_init_a7421 hl) bd_J4_init_a7421

