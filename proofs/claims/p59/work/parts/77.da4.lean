theorem FX.tx {M M' : ZM} {b c c' : Nat} {o o' : List Int} {s : Nat} {l : List Int} (h : zTx M s l) (hS : SB M b c o) (hS' : SB M' b c' o') (f : FX b M M') (h46 : 668 < zN M) (hv : vu M s ≠ vu M b) : zTx M' s l := by
  obtain ⟨a1, a2, v, a3, a4, a5, a7, a6⟩ := h
  obtain ⟨f1, f2, f3⟩ := f
  have e9 : vu M s = v := by unfold vu; rw [a3]; rfl
  rw [e9] at hv
  obtain ⟨b1, b2, b3, b4⟩ := f3 s a1.2
  obtain ⟨d1, d2, d3, d4⟩ := f3 v a4.2
  have hsb : s ≠ b := fun e => by have h1 := a1.1; have h2 := hS.w.1; rw [e] at h1; omega
  have hvb : v ≠ b := fun e => by have h1 := a4.1; have h2 := hS.w.1; rw [e] at h1; omega
  have hsu : s ≠ vu M b := fun e => by have h1 := a1.1; have h2 := hS.a.1; rw [e] at h1; omega
  refine ⟨⟨b1.trans a1.1, Nat.lt_of_lt_of_le a1.2 f1⟩, by rw [b4 hsb hsu]; exact a2, v, by rw [b3 hsb]; exact a3, ⟨d1.trans a4.1, Nat.lt_of_lt_of_le a4.2 f1⟩, d2.trans a5, ⟨a7.1, ?_⟩, fun k hk => by rw [d4 hvb hv]; exact a6 k hk⟩
  by_cases e : 668 = b
  · subst e
    rw [hS'.r0]
    intro z
    have z9 := Option.some.inj z
    have := a4.2
    rcases f2 with q | q
    · exact hv (z9.symm.trans q)
    · omega
  · rw [(f3 668 h46).2.2.1 e]
    exact a7.2
/-- the output -/
def SOC (j : Nat) : Prop := j = 668 ∨ j = 669 ∨ 670 ≤ j
def OB0 (M0 : ZM) : Prop := (vu M0 668 = 669 ∨ 670 ≤ vu M0 668) ∧ 670 ≤ zN M0 ∧ ∃ c o, SB M0 668 c o
def OC (M0 M : ZM) (c : Nat) (o : List Int) : Prop := OB0 M0 ∧ FX 668 M0 M ∧ SB M 668 c o
theorem OC.fr {M0 M : ZM} {c : Nat} {o : List Int} (h : OC M0 M c o) : Fr SOC M0 M := by
  obtain ⟨⟨h0, hN, c0, o0, hS0⟩, ⟨f1, f2, f3⟩, hS⟩ := h
  refine ⟨f1, fun j hj => ?_, fun s l hz => ?_⟩
  · obtain ⟨a1, a2, a3, a4⟩ := f3 j hj
    refine ⟨a1, a2, fun q => ?_, fun k k1 k2 => ?_⟩
    · unfold SOC at q
      exact ⟨a4 (by omega) (by omega), a3 (by omega)⟩
    · refine congrFun (a3 (fun e => k2 ?_)) k
      rw [e]
      exact hS0.w.1
  · obtain ⟨-, -, v, b3, -, -, b7, -⟩ := id hz
    refine FX.tx hz hS0 hS ⟨f1, f2, f3⟩ (by omega) (fun e => b7.2 ?_)
    rw [hS0.r0, ← e]
    unfold vu
    rw [b3]
    rfl
theorem OC.nx {M0 M M' : ZM} {c c' : Nat} {o o' : List Int} (h : OC M0 M c o) (hS : SB M' 668 c' o') (f : FX 668 M M') : OC M0 M' c' o' := ⟨h.1, h.2.1.tr f, hS⟩
theorem OB0.now {M : ZM} {c : Nat} {o : List Int} (h : OB0 M) (hS : SB M 668 c o) : OC M M c o := ⟨h, FX.rf, hS⟩
theorem OC.b0 {M0 M : ZM} {c : Nat} {o : List Int} (h : OC M0 M c o) : OB0 M := by
  obtain ⟨⟨h0, hN, -⟩, ⟨f1, f2, -⟩, hS⟩ := h
  refine ⟨?_, by omega, c, o, hS⟩
  rcases f2 with q | q
  · rw [q]; exact h0
  · omega
def T_J0_getBytes_840e7 : ZTf := zInl (cd_J0_getBytes_840e7 T_J0_coder_7d493) 4 0 0 400
theorem M_J0_getBytes_840e7 {l : Launch} (hl : l.stackTraces = false) : zMet l yJ0_getBytes_840e7 (Cond.code yJ0_getBytes_840e7 cJ0_getBytes_840e7 4 (Option.none : Option Jvm.ClassFile.FieldType) :: zG) rm_J0_getBytes_840e7 0 0 T_J0_getBytes_840e7 := met_J0_getBytes_840e7 hl (M_J0_coder_7d493 hl) zInl_bd
def T_J5_putStringAt_47b60 : ZTf := fun av M K KX => ∃ (b s c : Nat) (o l : List Int) (n : Int), av = [zo b, zi n, zo s] ∧ (SB M b c o) ∧ (zTx M s l) ∧ (64 ≤ s) ∧ (l.length ≤ 100) ∧ (vu M s ≠ vu M b) ∧ (∀ k : Nat, k < l.length → 0 ≤ l.getD k 0 ∧ l.getD k 0 < 128) ∧ (n = (o.length : Int)) ∧ (o.length + l.length ≤ c) ∧  K none (zcpy M (vu M s) (vu M b) 0 (o.length : Int).toNat l.length)
set_option maxRecDepth 100000 in
set_option maxHeartbeats 1500000 in
theorem bd_J5_putStringAt_47b60 : zBd (cd_J5_putStringAt_47b60 T_J5_inflateIfNeededFor_a7421 T_J0_getBytes_840e7) 3 0 0 T_J5_putStringAt_47b60 := by
  rintro av M K KX hA0 hM ⟨b, s, c, o, l, n, rfl, hS, hz, h64, hb, hne, hlt, hn, hc, hK⟩
  have hS0 := hS
  obtain ⟨hsb1, hsb2, hsb3, ⟨hsb4, hsb5⟩, hsb6, hsb7⟩ := id hS
  have hzc : zshr (c : Int) 0 = (c : Int) := zshr_0 (by omega)
  obtain ⟨hO, hcd, v, hv, ha, hvl, hvv, he⟩ := id hz
  have hvw : zW M v 21 := ⟨ha.1, by have := hvv.1; unfold zCC; omega, ha.2⟩
  have hvu : vu M s = v := by unfold vu; rw [hv]; rfl
  have hzs : zshl n 0 = n := zshl_0 (by omega)
  refine ⟨rfl, fun Φ hΦ => ?_⟩
  refine zGoR hΦ [] 400 (fun hL9 _ hM _ _ => ?_)
  obtain ⟨qL1, _⟩ : zrg n ∧ True := hL9
  refine ⟨⟨⟨rfl, rfl⟩, hS.w.rcv⟩, ⟨rfl, ⟨fun (h : (1 : Int) = 0) => absurd h (by decide), fun _ => ⟨hS.w, zIr (hS.cd) (⟨⟨⟨rfl, rfl⟩, ⟨hz.1, Or.inr rfl⟩⟩, ⟨rfl, ⟨fun (h : (1 : Int) = 0) => absurd h (by decide), fun _ => ⟨hz.1, ⟨(zPbI (x := zI M s 1) (by omega)), fun (qg1 : zrg (zI M s 1)) _ => ⟨fun (qc2 : 0 = zI M s 1) => fun _ _ => ⟨hS.w, _, hS.r0, ⟨hS.w, zIr (hS.cd) (⟨⟨⟨rfl, rfl⟩, ⟨hz.1, Or.inr rfl⟩⟩, ⟨rfl, ⟨⟨⟨rfl, rfl⟩, ⟨hz.1, Or.inr rfl⟩⟩, ⟨rfl, ⟨fun (h : (1 : Int) = 0) => absurd h (by decide), fun _ => ⟨hz.1, ⟨(zPbI (x := zI M s 1) (by omega)), fun (qg4 : zrg (zI M s 1)) _ => ⟨fun (qc5 : zI M s 1 ≠ 0) => ?g345l1, fun (qc6 : zI M s 1 = 0) => ⟨hz.1, _, hv, ⟨hz.1, _, hv, ⟨(zlenW hvw (by decide)), zIr (congrArg (fun n : Nat => (n : Int)) hvl) (⟨⟨hvw, hS.a, (by omega), ⟨zcpL hvl (by omega), zcpL hS.l (by omega)⟩, (fun q hq => by rw [he _ (by omega)]; have := hlt (0 + q) (by omega); exact zPbI (by first | omega | (simp only [Int.toNat_zero] at *; omega))), rfl⟩, fun _ _ => (show K none (zcpy M v (vu M b) 0 (zshl n 0).toNat (l.length : Int).toNat) from ?g345l2)⟩)⟩⟩⟩⟩⟩⟩⟩⟩⟩⟩⟩)⟩⟩, fun (qc8 : 0 ≠ zI M s 1) => ?g345l3⟩⟩⟩⟩⟩⟩)⟩⟩⟩⟩
  case g345l1 => exfalso; omega
  case g345l2 =>
    rw [hvu] at hK
    subst hn
    first
    | exact hK
    | (rw [hzs]; exact hK)
    | (rw [hzs, Int.toNat_natCast]; rw [Int.toNat_natCast] at hK; exact hK)
  case g345l3 => exfalso; omega
theorem M_J5_putStringAt_47b60 {l : Launch} (hl : l.stackTraces = false) : zMet l yJ5_putStringAt_47b60 (Cond.code yJ5_putStringAt_47b60 cJ5_putStringAt_47b60 3 (Option.none : Option Jvm.ClassFile.FieldType) :: zG) rm_J5_putStringAt_47b60 0 0 T_J5_putStringAt_47b60 := met_J5_putStringAt_47b60 hl (M_J5_inflateIfNeededFor_a7421 hl) (M_J0_getBytes_840e7 hl) bd_J5_putStringAt_47b60
theorem FX.ne {M M' : ZM} {b s : Nat} {l : List Int} (h : zTx M s l) (f : FX b M M') (hne : vu M s ≠ vu M b) : vu M' s ≠ vu M' b := by
  obtain ⟨a1, a2, v, a3, a4, a5, a7, a6⟩ := h
  have e9 : vu M s = v := by unfold vu; rw [a3]; rfl
  obtain ⟨f1, f2, f3⟩ := f
  have := a4.2
  by_cases e : s = b
  · exact absurd (congrArg (vu M) e) hne
  · have e8 : vu M' s = vu M s := by unfold vu; rw [(f3 s a1.2).2.2.1 e]
    rw [e8]
    rcases f2 with q | q
    · rw [q]; exact hne
    · omega
def T_J5_append_cf1ce (ca cb : Nat) : ZTf := fun av M K KX => ∃ (b s c d : Nat) (o l : List Int), av = [zo b, zo s] ∧ (SB M b c o) ∧ (zTx M s l) ∧ (64 ≤ s) ∧ (l.length ≤ 100) ∧ (vu M s ≠ vu M b) ∧ (∀ k : Nat, k < l.length → 0 ≤ l.getD k 0 ∧ l.getD k 0 < 128) ∧ (o.length < 800) ∧ (668 < zN M) ∧ (ncap c (o.length + l.length) = d) ∧ (d ≤ c + ca ∧ 2 * d ≤ 2 * c + cb) ∧  (∀ M' : ZM, (SB M' b d (o ++ l)) → (FX b M M') → K (some (zo (b))) M')
set_option maxRecDepth 100000 in
set_option maxHeartbeats 1500000 in
theorem bd_J5_append_cf1ce (ca cb : Nat) : zBd (cd_J5_append_cf1ce T_J0_length_8abf5 T_J5_ensureCapacityInternal_d00df T_J5_putStringAt_47b60) 3 ca cb (T_J5_append_cf1ce ca cb) := by
  rintro av M K KX hA0 hM ⟨b, s, c, d, o, l, rfl, hS, hz, h64, hb, hne, hlt, hn, h46, hc, hab, hK⟩
  have hS0 := hS
  obtain ⟨hsb1, hsb2, hsb3, ⟨hsb4, hsb5⟩, hsb6, hsb7⟩ := id hS
  have hzc : zshr (c : Int) 0 = (c : Int) := zshr_0 (by omega)
  have hg := ncap_g hc
  refine ⟨rfl, fun Φ hΦ => ?_⟩
  refine zGoR hΦ [] 400 (fun hL9 _ hM _ _ => ?_)
  obtain ⟨_⟩ : True := hL9
  refine ⟨⟨⟨rfl, rfl⟩, ⟨hz.1, Or.inr rfl⟩⟩, ⟨s, l, rfl, hz, hb, fun (qg1 : zrg ((l.length : Int))) qm2 => ⟨hS.w, zIr (hS.ct) (⟨(zrgI (x := (o.length : Int) + (l.length : Int)) (by omega)), ⟨ca, cb, ⟨(by omega), (by omega)⟩, ⟨⟨rfl, rfl⟩, hS.w.rcv⟩, ⟨b, c, d, o, ((o.length : Int) + (l.length : Int)), rfl, hS, (by omega), (by rw [show ((o.length : Int) + (l.length : Int)).toNat = o.length + l.length by omega]; exact hc), hab, fun M1 hS1 hx1 hvu1 => (have hz1 := FX.tx hz hS0 hS1 hx1 h46 hne; have hne1 := FX.ne hz hx1 hne; fun qg3 qm4 => ⟨hS1.w, zIr (hS1.ct) (⟨⟨⟨rfl, rfl⟩, hS1.w.rcv⟩, ⟨b, s, d, o, l, (o.length : Int), rfl, hS1, hz1, h64, hb, hne1, hlt, rfl, (by omega), fun qg5 qm6 => ⟨rfl, ⟨hS1.w, zIr (((congrFun (zcpn _ _ _ _ _ _ hS1.bu) _).trans hS1.ct)) (⟨(zrgI (x := (o.length : Int) + (l.length : Int)) (by omega)), ⟨⟨hS1.w, trivial⟩, (show K (some (zo b)) (zsI (zcpy M1 (vu M1 s) (vu M1 b) 0 (o.length : Int).toNat l.length) b 3 ((o.length : Int) + (l.length : Int))) from ?g346l1)⟩⟩)⟩⟩⟩⟩)⟩)⟩⟩⟩)⟩⟩⟩
  case g346l1 =>
    obtain ⟨-, -, v, hv, ha, hvl, hvv, he⟩ := id hz1
    have hvu : vu M1 s = v := by unfold vu; rw [hv]; rfl
    have h9 := hS1.cat (v := vu M1 s) (l := l) (by omega) hne1 (fun k hk => by rw [hvu]; exact he k hk) (fun k hk => by have := hlt k hk; exact zPbI (by omega))
    exact hK _ h9 ((hx1.tr FX_cp).tr (FX_I (Or.inl rfl)))
theorem M_J5_append_cf1ce {l : Launch} (hl : l.stackTraces = false) (ca cb : Nat) : zMet l yJ5_append_cf1ce (Cond.code yJ5_append_cf1ce cJ5_append_cf1ce 3 (Option.some (Jvm.ClassFile.FieldType.object "java/lang/AbstractStringBuilder")) :: zG) (rm_J5_append_cf1ce ca cb) ca cb (T_J5_append_cf1ce ca cb) := met_J5_append_cf1ce hl (M_J0_length_8abf5 hl) (M_J5_ensureCapacityInternal_d00df hl) (M_J5_putStringAt_47b60 hl) (bd_J5_append_cf1ce ca cb)
def T_J4_append_15ec4 (ca cb : Nat) : ZTf := fun av M K KX => ∃ (b s c d : Nat) (o l : List Int), av = [zo b, zo s] ∧ (SB M b c o) ∧ (zTx M s l) ∧ (64 ≤ s) ∧ (l.length ≤ 100) ∧ (vu M s ≠ vu M b) ∧ (∀ k : Nat, k < l.length → 0 ≤ l.getD k 0 ∧ l.getD k 0 < 128) ∧ (o.length < 800) ∧ (668 < zN M) ∧ (ncap c (o.length + l.length) = d) ∧ (d ≤ c + ca ∧ 2 * d ≤ 2 * c + cb) ∧  (∀ M' : ZM, (SB M' b d (o ++ l)) → (FX b M M') → K (some (zo (b))) M')
set_option maxRecDepth 100000 in
set_option maxHeartbeats 1500000 in
theorem bd_J4_append_15ec4 (ca cb : Nat) : zBd (cd_J4_append_15ec4 T_J5_append_cf1ce) 2 ca cb (T_J4_append_15ec4 ca cb) := by
  rintro av M K KX hA0 hM ⟨b, s, c, d, o, l, rfl, hS, hz, h64, hb, hne, hlt, hn, h46, hc, hab, hK⟩
  refine ⟨rfl, fun Φ hΦ => ?_⟩
  refine zGoR hΦ [] 400 (fun hL9 _ hM _ _ => ?_)
  obtain ⟨_⟩ : True := hL9
  refine ⟨ca, cb, ⟨(by omega), (by omega)⟩, ⟨⟨rfl, rfl⟩, hS.w.rcv⟩, ⟨b, s, c, d, o, l, rfl, hS, hz, h64, hb, hne, hlt, hn, h46, hc, hab, fun M1 hS1 hx1 => (fun qg1 qm2 => ⟨rfl, (show K (some (zo b)) M1 from ?g347l1)⟩)⟩⟩
  case g347l1 => exact hK _ hS1 hx1
theorem M_J4_append_15ec4 {l : Launch} (hl : l.stackTraces = false) (ca cb : Nat) : zMet l yJ4_append_15ec4 (Cond.code yJ4_append_15ec4 cJ4_append_15ec4 2 (Option.some (Jvm.ClassFile.FieldType.object "java/lang/StringBuilder")) :: zG) (rm_J4_append_15ec4 ca cb) ca cb (T_J4_append_15ec4 ca cb) := met_J4_append_15ec4 hl (M_J5_append_cf1ce hl) (bd_J4_append_15ec4 ca cb)
theorem dgs_app {b off a d : Int} (hb : 1 < b) (ha : 0 ≤ a) (hd : 0 ≤ d ∧ d < b) : ∀ j : Nat, dgs b off (b * a + d) (j + 1) = dgs b off a j ++ [off + d] := by
  have hm : (b * a + d) % b = d := by rw [Int.add_comm, Int.add_mul_emod_self_left]; exact Int.emod_eq_of_lt hd.1 hd.2
  have hq : (b * a + d) / b = a := by
    rw [Int.add_comm, Int.add_mul_ediv_left _ _ (by omega), Int.ediv_eq_zero_of_lt hd.1 hd.2, Int.zero_add]
  have hp : ∀ j : Nat, (b * a + d) / b ^ (j + 1) = a / b ^ j := fun j => by
    rw [Int.pow_succ, show b ^ j * b = b * b ^ j from Int.mul_comm _ _, ← Int.ediv_ediv_of_nonneg (by omega), hq]
  intro j
  induction j with
  | zero =>
    show [off + (b * a + d) / b ^ (0 + 1) % b, off + (b * a + d) % b] = [off + a % b, off + d]
    rw [hp 0, hm, Int.pow_zero, Int.ediv_one]
  | succ j ih =>
    rw [dgs, ih, hp (j + 1)]
    rfl
theorem dlen_nm : ∀ (n : Nat) (l : List Int) (f : Nat), l.length = n + 1 → ltr l → n ≤ f → dlen 27 (nmv l) f = n ∧ dgs 27 96 (nmv l) n = l := by
  intro n
  induction n with
  | zero =>
    intro l f hl h hf
    obtain ⟨c, rfl⟩ := List.length_eq_one_iff.mp hl
    have hc := h c (List.mem_singleton.mpr rfl)
    have e : nmv [c] = c - 96 := by show 27 * 0 + (c - 96) = c - 96; omega
    rw [e]
    refine ⟨?_, ?_⟩
    · cases f with
      | zero => rfl
      | succ f => exact if_pos (by omega)
    · show [96 + (c - 96) % 27] = [c]
      rw [Int.emod_eq_of_lt (by omega) (by omega)]
      congr 1
      omega
  | succ n ih =>
    intro l f hl h hf
    rcases List.eq_nil_or_concat l with z | ⟨L, b, z⟩
    · rw [z] at hl; cases hl
    · rw [List.concat_eq_append] at z
      subst z
      have h1 := ltr_app h
      rw [List.length_append, List.length_singleton] at hl
      cases f with
      | zero => omega
      | succ f =>
        obtain ⟨i1, i2⟩ := ih L f (by omega) h1.1 (by omega)
        have hp := nmv_p _ L rfl h1.1
        have hpos := hp.2 (fun e => by rw [e] at hl; cases hl)
        have hd : (0 : Int) ≤ b - 96 ∧ b - 96 < 27 := by omega
        rw [nmv_app]
        refine ⟨?_, ?_⟩
        · rw [dlen, if_neg (by omega)]
          rw [show (27 * nmv L + (b - 96)) / 27 = nmv L by omega, i1]
        · rw [dgs_app (by decide) hp.1 hd, i2]
          congr 2
          omega
theorem dgn_nm {l : List Int} (h : nmOK l) : dgn (nmv l) = l := by
  unfold dgn
  have h0 := h.1
  have h1 := h.2.1
  obtain ⟨a, b⟩ := dlen_nm (l.length - 1) l 5 (by omega) h.2.2 (by omega)
  rw [a]
  exact b
/-- capacities on the way -/
def ncs (c n : Nat) : List Nat → Nat
  | [] => c
  | d :: l => ncs (ncap c (n + d)) (n + d) l
theorem ncs_g : ∀ (l : List Nat) {c n d : Nat}, ncs c n l = d → n ≤ c → c ≤ d ∧ n + l.sum ≤ d ∧ (d = c ∨ d ≤ 2 * (n + l.sum))
  | [], c, n, d, h, hn => by
    have h' : c = d := h
    simp only [List.sum_nil]
    omega
  | x :: l, c, n, d, h, hn => by
    have h9 := ncs_g l (c := ncap c (n + x)) (n := n + x) (d := d) h (by have := ncap_g (c := c) (n := n + x) rfl; omega)
    have h8 := ncap_g (c := c) (n := n + x) rfl
    simp only [List.sum_cons]
    omega
