/-! the reference: what it writes -/
def ROut (M : ZM) (o : List Int) : Prop := zI M 670 21 = (o.length : Int) ∧ o.length ≤ 400 ∧ ∀ (k : Nat) (x : Int), o[k]? = some x → zI M 680 k = x
def SOut (j : Nat) : Prop := j = 670 ∨ j = 680
/-- M0 with o written -/
def OB (M0 M : ZM) (o : List Int) : Prop := Fr SOut M0 M ∧ (∀ f, f ≠ 21 → zI M 670 f = zI M0 670 f) ∧ ROut M o
def wgap : List Int → List Int
  | [] => []
  | x :: l => (x :: l) ++ [32]
theorem wgap_len (o : List Int) : (wgap o).length ≤ o.length + 1 := by
  cases o with
  | nil => exact Nat.le_succ _
  | cons x l => unfold wgap; rw [List.length_append, List.length_singleton]; exact Nat.le_refl _
/-- the digits of v to a base, from the place j down -/
def dgs (b off v : Int) : Nat → List Int
  | 0 => [off + v % b]
  | j + 1 => (off + v / b ^ (j + 1) % b) :: dgs b off v j
theorem dgs_len (b off v : Int) : ∀ j : Nat, (dgs b off v j).length = j + 1
  | 0 => rfl
  | j + 1 => by rw [dgs, List.length_cons, dgs_len b off v j]
/-- the greatest place, of at most f -/
def dlen (b v : Int) : Nat → Nat
  | 0 => 0
  | f + 1 => if v < b then 0 else dlen b (v / b) f + 1
def dig (v : Int) : List Int := dgs 10 48 v (dlen 10 v 5)
def dgn (v : Int) : List Int := dgs 27 96 v (dlen 27 v 5)
theorem dlen_le (b : Int) : ∀ (f : Nat) (v : Int), dlen b v f ≤ f
  | 0, _ => Nat.le_refl _
  | f + 1, v => by
    unfold dlen
    split
    · omega
    · have := dlen_le b f (v / b)
      omega
theorem dig_len (v : Int) : (dig v).length ≤ 6 := by
  unfold dig
  rw [dgs_len]
  have := dlen_le 10 5 v
  omega
theorem dgn_len (v : Int) : (dgn v).length ≤ 6 := by
  unfold dgn
  rw [dgs_len]
  have := dlen_le 27 5 v
  omega
theorem zi2b_f : ∀ q : Fin 128, zi2b (q.val : Int) = (q.val : Int) := by decide +kernel
theorem zi2b_id {c : Int} (h : 0 ≤ c ∧ c < 128) : zi2b c = c := by
  have h9 := zi2b_f ⟨c.toNat, by omega⟩
  rw [show (((⟨c.toNat, by omega⟩ : Fin 128).val : Nat) : Int) = c by show ((c.toNat : Nat) : Int) = c; omega] at h9
  exact h9
theorem OB.put {M0 M : ZM} {o : List Int} {c : Int} (hY : LY M0) (h : OB M0 M o) (hl : o.length < 400) (hc : 0 ≤ c ∧ c < 128) : OB M0 (zsI (zsA M 680 (gU (zI M 680) (o.length : Int) (zi2b c))) 670 21 ((o.length : Int) + 1)) (o ++ [c]) := by
  obtain ⟨h1, h2, h3, h4, h5⟩ := h
  have hY1 := hY.fr h1
  have f1 : Fr SOut M (zsA M 680 (gU (zI M 680) (o.length : Int) (zi2b c))) := Fr_Ab hY1.a20 (by decide) (Or.inr rfl)
  have f2 : Fr SOut (zsA M 680 (gU (zI M 680) (o.length : Int) (zi2b c))) (zsI (zsA M 680 (gU (zI M 680) (o.length : Int) (zi2b c))) 670 21 ((o.length : Int) + 1)) := Fr_I (hY1.fr f1).w (by decide) (by decide) (Or.inl rfl)
  refine ⟨(h1.tr f1).tr f2, fun f hf => ?_, ?_, ?_, fun k x hx => ?_⟩
  · rw [zI_Im _ _ _ hf, zI_An _ _ (by decide)]
    exact h2 f hf
  · rw [zI_Is, List.length_append, List.length_singleton]
    omega
  · rw [List.length_append, List.length_singleton]
    omega
  · rw [zI_In _ _ _ (by decide), zI_A]
    by_cases e : k < o.length
    · rw [List.getElem?_append_left e] at hx
      rw [gU_n _ (by omega)]
      exact h5 k x hx
    · have hk := (List.getElem?_eq_some_iff.mp hx).1
      rw [List.length_append, List.length_singleton] at hk
      have ek : k = o.length := by omega
      subst ek
      rw [List.getElem?_append_right (Nat.le_refl _), Nat.sub_self] at hx
      have e2 : c = x := Option.some.inj hx
      rw [← e2]
      have h9 := gU_s (zI M 680) (o.length : Int) (zi2b c)
      rw [Int.toNat_natCast] at h9
      rw [h9]
      exact zi2b_id hc

def T_X9_write : ZTf := fun av M K KX => ∃ (M0 : ZM) (o : List Int) (c : Int), av = [zo 670, zi c] ∧ (LY M0) ∧ (OB M0 M o) ∧ (o.length < 400) ∧ (0 ≤ c ∧ c < 128) ∧  (∀ M' : ZM, (OB M0 M' (o ++ [c])) → K none M')
set_option maxRecDepth 100000 in
set_option maxHeartbeats 4000000 in
theorem bd_X9_write : zBd (cd_X9_write) 2 0 0 T_X9_write := by
  rintro av M K KX hA0 hM ⟨M0, o, c, rfl, hY0, hO, hl, hc, hK⟩
  have hY := hY0.fr hO.1
  refine ⟨rfl, fun Φ hΦ => ?_⟩
  refine zGoR hΦ [] 400 (fun hL9 _ hM _ _ => ?_)
  obtain ⟨qL1, _⟩ : zrg c ∧ True := hL9
  refine ⟨hY.w, _, hY.r20, ⟨hY.w, zIr hO.2.2.1 (⟨⟨zixW hY.a20 hY.l20 (i := (o.length : Int)) (by omega) (by decide), (zi2b_r _)⟩, zMr (zsI_g0 _ _ (o.length : Int) _) (⟨rfl, ⟨hY.w, zIr hO.2.2.1 (⟨(zrgI (x := (o.length : Int) + 1) (by omega)), ⟨⟨hY.w, trivial⟩, (show K none (zsI (zsA M 680 (gU (zI M 680) (o.length : Int) (zi2b c))) 670 21 ((o.length : Int) + 1)) from ?g228l1)⟩⟩)⟩⟩)⟩)⟩⟩
  case g228l1 => exact hK _ (hO.put hY0 hl hc)
theorem M_X9_write {l : Launch} (hl : l.stackTraces = false) : zMet l yX9_write (Cond.code yX9_write cX9_write 2 (Option.none : Option Jvm.ClassFile.FieldType) :: zG) rm_X9_write 0 0 T_X9_write := met_X9_write hl bd_X9_write

def T_X9_writeGap : ZTf := fun av M K KX => ∃ (M0 : ZM) (o : List Int), av = [zo 670] ∧ (LY M0) ∧ (OB M0 M o) ∧ (o.length < 400) ∧  (∀ M' : ZM, (OB M0 M' (wgap o)) → K none M')
set_option maxRecDepth 100000 in
set_option maxHeartbeats 4000000 in
theorem bd_X9_writeGap : zBd (cd_X9_writeGap T_X9_write) 1 0 0 T_X9_writeGap := by
  rintro av M K KX hA0 hM ⟨M0, o, rfl, hY0, hO, hl, hK⟩
  have hY := hY0.fr hO.1
  refine ⟨rfl, fun Φ hΦ => ?_⟩
  refine zGoR hΦ [] 400 (fun hL9 _ hM _ _ => ?_)
  obtain ⟨_⟩ : True := hL9
  refine ⟨hY.w, zIr hO.2.2.1 (⟨fun (qc1 : (o.length : Int) ≤ 0) => (show K none M from ?g229l1), fun (qc2 : (o.length : Int) > 0) => ⟨⟨⟨rfl, rfl⟩, hY.w.rcv⟩, ⟨M0, o, 32, rfl, hY0, hO, (by first | omega | (simp only [List.length_append, List.length_singleton, List.length_cons, List.length_nil]; omega)), (by omega), fun M1 hO1 => (fun qg3 qm4 => (show K none M1 from ?g229l2))⟩⟩⟩)⟩
  case g229l1 =>
    refine hK M ?_
    cases o with
    | nil => exact hO
    | cons x l => exact absurd (show (((x :: l).length : Nat) : Int) ≤ 0 by assumption) (by rw [List.length_cons]; omega)
  case g229l2 =>
    refine hK M1 ?_
    cases o with
    | nil => exact absurd (show ((([] : List Int).length : Nat) : Int) > 0 by assumption) (by decide)
    | cons x l => exact hO1
theorem M_X9_writeGap {l : Launch} (hl : l.stackTraces = false) : zMet l yX9_writeGap (Cond.code yX9_writeGap cX9_writeGap 1 (Option.none : Option Jvm.ClassFile.FieldType) :: zG) rm_X9_writeGap 0 0 T_X9_writeGap := met_X9_writeGap hl (M_X9_write hl) bd_X9_writeGap

theorem dlen_s {b v : Int} {f : Nat} (hb : 1 < b) (hv : 0 ≤ v) (h : v < b ^ (f + 1)) : v / b ^ dlen b v f < b ∧ ∀ j : Nat, j < dlen b v f → b ≤ v / b ^ j := by
  induction f generalizing v with
  | zero =>
    refine ⟨?_, fun j hj => absurd hj (Nat.not_lt_zero _)⟩
    rw [show dlen b v 0 = 0 from rfl, Int.pow_zero, Int.ediv_one]
    rw [Int.pow_succ, Int.pow_zero, Int.one_mul] at h
    exact h
  | succ f ih =>
    unfold dlen
    by_cases q : v < b
    · rw [if_pos q]
      refine ⟨by rw [Int.pow_zero, Int.ediv_one]; exact q, fun j hj => absurd hj (Nat.not_lt_zero _)⟩
    · rw [if_neg q]
      have hq0 : 0 ≤ v / b := Int.ediv_nonneg hv (by omega)
      have hlt : v / b < b ^ (f + 1) := Int.ediv_lt_of_lt_mul (by omega) (by rw [← Int.pow_succ]; exact h)
      obtain ⟨h1, h2⟩ := ih hq0 hlt
      have hdd : ∀ j : Nat, v / b ^ (j + 1) = v / b / b ^ j := fun j => by
        rw [Int.pow_succ, Int.mul_comm, Int.ediv_ediv_of_nonneg (by omega)]
      refine ⟨by rw [hdd]; exact h1, fun j hj => ?_⟩
      cases j with
      | zero => rw [Int.pow_zero, Int.ediv_one]; omega
      | succ j => rw [hdd]; exact h2 j (by omega)
theorem pw_pos {b : Int} (hb : 1 < b) (j : Nat) : 0 < b ^ j := Int.pow_pos (by omega)
theorem tdz {v b : Int} (h : 0 ≤ v) : Int.tdiv v b = v / b := Int.tdiv_eq_ediv_of_nonneg h
theorem tmz {v b : Int} (h : 0 ≤ v) : Int.tmod v b = v % b := Int.tmod_eq_emod_of_nonneg h
theorem p10_le {j : Nat} (h : j ≤ 5) : 1 ≤ (10 : Int) ^ j ∧ (10 : Int) ^ j ≤ 100000 := by
  have hh : ∀ q : Fin 6, 1 ≤ (10 : Int) ^ q.val ∧ (10 : Int) ^ q.val ≤ 100000 := by decide
  exact hh ⟨j, by omega⟩
theorem p27_5 {j : Nat} (h : j ≤ 5) : 1 ≤ (27 : Int) ^ j ∧ (27 : Int) ^ j ≤ 14348907 := by
  have hh : ∀ q : Fin 6, 1 ≤ (27 : Int) ^ q.val ∧ (27 : Int) ^ q.val ≤ 14348907 := by decide
  exact hh ⟨j, by omega⟩

theorem p10_4 {j : Nat} (h : j ≤ 4) : 1 ≤ (10 : Int) ^ j ∧ (10 : Int) ^ j ≤ 10000 := by
  have hh : ∀ q : Fin 5, 1 ≤ (10 : Int) ^ q.val ∧ (10 : Int) ^ q.val ≤ 10000 := by decide
  exact hh ⟨j, by omega⟩
theorem p27_4 {j : Nat} (h : j ≤ 4) : 1 ≤ (27 : Int) ^ j ∧ (27 : Int) ^ j ≤ 531441 := by
  have hh : ∀ q : Fin 5, 1 ≤ (27 : Int) ^ q.val ∧ (27 : Int) ^ q.val ≤ 531441 := by decide
  exact hh ⟨j, by omega⟩

def T_X9_writeNumber : ZTf := fun av M K KX => ∃ (M0 : ZM) (o : List Int) (v : Int), av = [zo 670, zi v] ∧ (LY M0) ∧ (OB M0 M o) ∧ (0 ≤ v ∧ v < 1000000) ∧ (o.length + 6 ≤ 400) ∧  (∀ M' : ZM, (OB M0 M' (o ++ dig v)) → K none M')
set_option maxRecDepth 100000 in
set_option maxHeartbeats 4000000 in
theorem bd_X9_writeNumber : zBd (cd_X9_writeNumber T_X9_write) 4 0 0 T_X9_writeNumber := by
  rintro av M K KX hA0 hM ⟨M0, o, v, rfl, hY0, hO, hv, hl, hK⟩
  refine ⟨rfl, fun Φ hΦ => ?_⟩
  have lo2 : ∀ (j : Nat), j ≤ 5 → ∀ (M90 : ZM) (o7 : List Int), OB M0 M90 o7 → o7.length + (j + 1) ≤ 400 → (∀ M' : ZM, OB M0 M' (o7 ++ dgs 10 48 v j) → K none M') → ∀ c2 : Int, Φ 20 [some (zo 670), some (zi v), some (zi c2), some (zi ((10 : Int) ^ j))] [] M90 0 0 := by
    intro j
    induction j with
    | zero =>
      intro hj M90 o7 hO90 hl7 hK c2
      have hY90 := hY0.fr hO90.1
      rw [Int.pow_zero]
      have hd0 : 0 ≤ v % 10 ∧ v % 10 < 10 := ⟨Int.emod_nonneg _ (by decide), Int.emod_lt_of_pos _ (by decide)⟩
      refine zGoR hΦ [] 400 (fun hL9 _ hM _ _ => ?_)
      obtain ⟨qL1, qL2, qL3, _⟩ : zrg v ∧ zrg c2 ∧ zrg 1 ∧ True := hL9
      refine ⟨fun (h : (1 : Int) ≤ 0) => absurd h (by decide), fun _ => ⟨(by decide), zIr (tdz (by omega)) (⟨(by decide), zIr (tmz (by omega)) (⟨(zrgI (x := 48 + (v / 1) % 10) (by omega)), ⟨⟨⟨rfl, rfl⟩, hY90.w.rcv⟩, ⟨M0, o7, (48 + (v / 1) % 10), rfl, hY0, hO90, (by first | omega | (simp only [List.length_append, List.length_singleton, List.length_cons, List.length_nil]; omega)), (by omega), fun M1 hO1 => (have hY1 := hY0.fr hO1.1; fun qg1 qm2 => ⟨(by decide), zIr (by decide) (⟨fun _ => (show K none M1 from ?g230l1), fun (h : (0 : Int) > 0) => absurd h (by decide)⟩)⟩)⟩⟩⟩)⟩)⟩⟩
      case g230l1 =>
        refine hK M1 ?_
        have h9 := hO1
        rw [show v / 1 = v from Int.ediv_one v] at h9
        exact h9
    | succ j ih =>
      intro hj M90 o7 hO90 hl7 hK c2
      have hY90 := hY0.fr hO90.1
      obtain ⟨b, hb⟩ : ∃ b, (10 : Int) ^ (j + 1) = b := ⟨_, rfl⟩
      have hbb := p10_le hj
      have hb2 : b / 10 = (10 : Int) ^ j := by rw [← hb, Int.pow_succ]; exact Int.mul_ediv_cancel _ (by decide)
      rw [hb] at hbb ⊢
      have hq0 : 0 ≤ v / b := Int.ediv_nonneg (by omega) (by omega)
      have hd0 : 0 ≤ v / b % 10 ∧ v / b % 10 < 10 := ⟨Int.emod_nonneg _ (by decide), Int.emod_lt_of_pos _ (by decide)⟩
      refine zGoR hΦ [20] 400 (fun hL9 _ hM _ _ => ?_)
      obtain ⟨qL1, qL2, qL3, _⟩ : zrg v ∧ zrg c2 ∧ zrg b ∧ True := hL9
      refine ⟨fun (qc1 : b ≤ 0) => (show K none M90 from ?g231l1), fun (qc2 : b > 0) => ⟨(zposI (x := b) (by omega)), zIr (tdz (by omega)) (⟨(by decide), zIr (tmz (by omega)) (⟨(zrgI (x := 48 + (v / b) % 10) (by omega)), ⟨⟨⟨rfl, rfl⟩, hY90.w.rcv⟩, ⟨M0, o7, (48 + (v / b) % 10), rfl, hY0, hO90, (by first | omega | (simp only [List.length_append, List.length_singleton, List.length_cons, List.length_nil]; omega)), (by omega), fun M1 hO1 => (have hY1 := hY0.fr hO1.1; fun qg3 qm4 => ⟨(by decide), zIr (tdz (by omega)) ((show Φ 20 [some (zo 670), some (zi v), some (zi c2), some (zi (b / 10))] [] M1 (0) (0) from ?g231l2))⟩)⟩⟩⟩)⟩)⟩⟩
      case g231l1 => exfalso; omega
      case g231l2 =>
        rw [hb2]
        refine ih (by omega) M1 _ hO1 (by rw [List.length_append, List.length_singleton]; omega) (fun M' h => hK M' ?_) c2
        rw [dgs, hb]
        rw [List.append_assoc] at h
        exact h
  have hdl := dlen_s (b := 10) (v := v) (f := 5) (by decide) hv.1 (by have h9 : (10 : Int) ^ (5 + 1) = 1000000 := by decide
                                                                      rw [h9]; omega)
  have hdl5 := dlen_le 10 5 v
  obtain ⟨q, hq⟩ : ∃ q, dlen 10 v 5 = q := ⟨_, rfl⟩
  rw [hq] at hdl hdl5
  have lo1 : ∀ (f j : Nat), j + f = q → Φ 2 [some (zo 670), some (zi v), some (zi ((10 : Int) ^ j)), none] [] M 0 0 := by
    intro f
    induction f with
    | zero =>
      intro j hj
      obtain ⟨b, hb⟩ : ∃ b, (10 : Int) ^ j = b := ⟨_, rfl⟩
      have hbb := p10_le (show j ≤ 5 by omega)
      have hdx := hdl.1
      have ejq : q = j := by omega
      rw [ejq, hb] at hdx
      rw [hb] at hbb ⊢
      have hq0 : 0 ≤ v / b := Int.ediv_nonneg (by omega) (by omega)
      refine zGoR hΦ [2, 20] 400 (fun hL9 _ hM _ _ => ?_)
      obtain ⟨qL1, qL2, _⟩ : zrg v ∧ zrg b ∧ True := hL9
      refine ⟨(zposI (x := b) (by omega)), zIr (tdz (by omega)) (⟨fun (qc1 : v / b < 10) => (show Φ 20 [some (zo 670), some (zi v), some (zi b), some (zi b)] [] M (0) (0) from ?g232l1), fun (qc2 : v / b ≥ 10) => ⟨(zrgI (x := b * 10) (by omega)), (show Φ 2 [some (zo 670), some (zi v), some (zi (b * 10)), none] [] M (0) (0) from ?g232l2)⟩⟩)⟩
      case g232l1 =>
        first
        | (exfalso; omega)
        | skip
          have h9 := lo2 j (by omega) M o hO (by omega) (fun M' h => hK M' (by show OB M0 M' (o ++ dgs _ _ _ _); rw [hq, ejq]; exact h)) b
          rw [hb] at h9
          exact h9
      case g232l2 =>
        exfalso; omega
    | succ f ih =>
      intro j hj
      obtain ⟨b, hb⟩ : ∃ b, (10 : Int) ^ j = b := ⟨_, rfl⟩
      have hbb := p10_4 (show j ≤ 4 by omega)
      have hdx := hdl.2 j (by omega)
      rw [hb] at hbb hdx ⊢
      have hq0 : 0 ≤ v / b := Int.ediv_nonneg (by omega) (by omega)
      refine zGoR hΦ [2, 20] 400 (fun hL9 _ hM _ _ => ?_)
      obtain ⟨qL1, qL2, _⟩ : zrg v ∧ zrg b ∧ True := hL9
      refine ⟨(zposI (x := b) (by omega)), zIr (tdz (by omega)) (⟨fun (qc1 : v / b < 10) => (show Φ 20 [some (zo 670), some (zi v), some (zi b), some (zi b)] [] M (0) (0) from ?g233l1), fun (qc2 : v / b ≥ 10) => ⟨(zrgI (x := b * 10) (by omega)), (show Φ 2 [some (zo 670), some (zi v), some (zi (b * 10)), none] [] M (0) (0) from ?g233l2)⟩⟩)⟩
      case g233l1 =>
        exfalso; omega
      case g233l2 =>
        have h9 := ih (j + 1) (by omega)
        rw [Int.pow_succ, hb] at h9
        exact h9
  have hY := hY0.fr hO.1
  refine zGoR hΦ [2] 400 (fun hL9 _ hM _ _ => ?_)
  obtain ⟨qL1, _⟩ : zrg v ∧ True := hL9
  refine (show Φ 2 [some (zo 670), some (zi v), some (zi 1), none] [] M (0) (0) from ?g234l1)
  case g234l1 =>
    have h9 := lo1 q 0 (by omega)
    exact h9
theorem M_X9_writeNumber {l : Launch} (hl : l.stackTraces = false) : zMet l yX9_writeNumber (Cond.code yX9_writeNumber cX9_writeNumber 4 (Option.none : Option Jvm.ClassFile.FieldType) :: zG) rm_X9_writeNumber 0 0 T_X9_writeNumber := met_X9_writeNumber hl (M_X9_write hl) bd_X9_writeNumber

def T_X9_writeName : ZTf := fun av M K KX => ∃ (M0 : ZM) (o : List Int) (G : Gm) (w : Int), av = [zo 670, zi w] ∧ (LY M0) ∧ (MA M0 671) ∧ (OB M0 M o) ∧ (zI M 671 = G) ∧ (0 ≤ w ∧ w < 6) ∧ (0 ≤ G (6 + 9 * w + 0).toNat ∧ G (6 + 9 * w + 0).toNat < 387420489) ∧ (o.length + 6 ≤ 400) ∧  (∀ M' : ZM, (OB M0 M' (o ++ dgn (G (6 + 9 * w + 0).toNat))) → K none M')
set_option maxRecDepth 100000 in
set_option maxHeartbeats 4000000 in
theorem bd_X9_writeName : zBd (cd_X9_writeName T_X9_ofWorker T_X9_write) 5 0 0 T_X9_writeName := by
  rintro av M K KX hA0 hM ⟨M0, o, G, w, rfl, hY0, hA0, hO, e9, hw, hv, hl, hK⟩
  obtain ⟨v, hvv⟩ : ∃ v, G (6 + 9 * w + 0).toNat = v := ⟨_, rfl⟩
  rw [hvv] at hv hK
  refine ⟨rfl, fun Φ hΦ => ?_⟩
  have lo2 : ∀ (j : Nat), j ≤ 5 → ∀ (M90 : ZM) (o7 : List Int), OB M0 M90 o7 → o7.length + (j + 1) ≤ 400 → (∀ M' : ZM, OB M0 M' (o7 ++ dgs 27 96 v j) → K none M') → ∀ c2 : Int, Φ 28 [some (zo 670), some (zi w), some (zi v), some (zi c2), some (zi ((27 : Int) ^ j))] [] M90 0 0 := by
    intro j
    induction j with
    | zero =>
      intro hj M90 o7 hO90 hl7 hK c2
      have hY90 := hY0.fr hO90.1
      rw [Int.pow_zero]
      have hd0 : 0 ≤ v % 27 ∧ v % 27 < 27 := ⟨Int.emod_nonneg _ (by decide), Int.emod_lt_of_pos _ (by decide)⟩
      refine zGoR hΦ [] 400 (fun hL9 _ hM _ _ => ?_)
      obtain ⟨qL1, qL2, qL3, qL4, _⟩ : zrg w ∧ zrg v ∧ zrg c2 ∧ zrg 1 ∧ True := hL9
      refine ⟨fun (h : (1 : Int) ≤ 0) => absurd h (by decide), fun _ => ⟨(by decide), zIr (tdz (by omega)) (⟨(by decide), zIr (tmz (by omega)) (⟨(zrgI (x := 96 + (v / 1) % 27) (by omega)), ⟨⟨⟨rfl, rfl⟩, hY90.w.rcv⟩, ⟨M0, o7, (96 + (v / 1) % 27), rfl, hY0, hO90, (by first | omega | (simp only [List.length_append, List.length_singleton, List.length_cons, List.length_nil]; omega)), (by omega), fun M1 hO1 => (have hY1 := hY0.fr hO1.1; fun qg1 qm2 => ⟨(by decide), zIr (by decide) (⟨fun _ => (show K none M1 from ?g235l1), fun (h : (0 : Int) > 0) => absurd h (by decide)⟩)⟩)⟩⟩⟩)⟩)⟩⟩
      case g235l1 =>
        refine hK M1 ?_
        have h9 := hO1
        rw [show v / 1 = v from Int.ediv_one v] at h9
        exact h9
    | succ j ih =>
      intro hj M90 o7 hO90 hl7 hK c2
      have hY90 := hY0.fr hO90.1
      obtain ⟨b, hb⟩ : ∃ b, (27 : Int) ^ (j + 1) = b := ⟨_, rfl⟩
      have hbb := p27_5 hj
      have hb2 : b / 27 = (27 : Int) ^ j := by rw [← hb, Int.pow_succ]; exact Int.mul_ediv_cancel _ (by decide)
      rw [hb] at hbb ⊢
      have hq0 : 0 ≤ v / b := Int.ediv_nonneg (by omega) (by omega)
      have hd0 : 0 ≤ v / b % 27 ∧ v / b % 27 < 27 := ⟨Int.emod_nonneg _ (by decide), Int.emod_lt_of_pos _ (by decide)⟩
      refine zGoR hΦ [28] 400 (fun hL9 _ hM _ _ => ?_)
      obtain ⟨qL1, qL2, qL3, qL4, _⟩ : zrg w ∧ zrg v ∧ zrg c2 ∧ zrg b ∧ True := hL9
      refine ⟨fun (qc1 : b ≤ 0) => (show K none M90 from ?g236l1), fun (qc2 : b > 0) => ⟨(zposI (x := b) (by omega)), zIr (tdz (by omega)) (⟨(by decide), zIr (tmz (by omega)) (⟨(zrgI (x := 96 + (v / b) % 27) (by omega)), ⟨⟨⟨rfl, rfl⟩, hY90.w.rcv⟩, ⟨M0, o7, (96 + (v / b) % 27), rfl, hY0, hO90, (by first | omega | (simp only [List.length_append, List.length_singleton, List.length_cons, List.length_nil]; omega)), (by omega), fun M1 hO1 => (have hY1 := hY0.fr hO1.1; fun qg3 qm4 => ⟨(by decide), zIr (tdz (by omega)) ((show Φ 28 [some (zo 670), some (zi w), some (zi v), some (zi c2), some (zi (b / 27))] [] M1 (0) (0) from ?g236l2))⟩)⟩⟩⟩)⟩)⟩⟩
      case g236l1 => exfalso; omega
      case g236l2 =>
        rw [hb2]
        refine ih (by omega) M1 _ hO1 (by rw [List.length_append, List.length_singleton]; omega) (fun M' h => hK M' ?_) c2
        rw [dgs, hb]
        rw [List.append_assoc] at h
        exact h
  have hdl := dlen_s (b := 27) (v := v) (f := 5) (by decide) hv.1 (by have h9 : (27 : Int) ^ (5 + 1) = 387420489 := by decide
                                                                      rw [h9]; omega)
  have hdl5 := dlen_le 27 5 v
  obtain ⟨q, hq⟩ : ∃ q, dlen 27 v 5 = q := ⟨_, rfl⟩
  rw [hq] at hdl hdl5
  have lo1 : ∀ (f j : Nat), j + f = q → Φ 9 [some (zo 670), some (zi w), some (zi v), some (zi ((27 : Int) ^ j)), none] [] M 0 0 := by
    intro f
    induction f with
    | zero =>
      intro j hj
      obtain ⟨b, hb⟩ : ∃ b, (27 : Int) ^ j = b := ⟨_, rfl⟩
      have hbb := p27_5 (show j ≤ 5 by omega)
      have hdx := hdl.1
      have ejq : q = j := by omega
      rw [ejq, hb] at hdx
      rw [hb] at hbb ⊢
      have hq0 : 0 ≤ v / b := Int.ediv_nonneg (by omega) (by omega)
      refine zGoR hΦ [9, 28] 400 (fun hL9 _ hM _ _ => ?_)
      obtain ⟨qL1, qL2, qL3, _⟩ : zrg w ∧ zrg v ∧ zrg b ∧ True := hL9
      refine ⟨(zposI (x := b) (by omega)), zIr (tdz (by omega)) (⟨fun (qc1 : v / b < 27) => (show Φ 28 [some (zo 670), some (zi w), some (zi v), some (zi b), some (zi b)] [] M (0) (0) from ?g237l1), fun (qc2 : v / b ≥ 27) => ⟨(zrgI (x := b * 27) (by omega)), (show Φ 9 [some (zo 670), some (zi w), some (zi v), some (zi (b * 27)), none] [] M (0) (0) from ?g237l2)⟩⟩)⟩
      case g237l1 =>
        first
        | (exfalso; omega)
        | skip
          have h9 := lo2 j (by omega) M o hO (by omega) (fun M' h => hK M' (by show OB M0 M' (o ++ dgs _ _ _ _); rw [hq, ejq]; exact h)) b
          rw [hb] at h9
          exact h9
      case g237l2 =>
        exfalso; omega
    | succ f ih =>
      intro j hj
      obtain ⟨b, hb⟩ : ∃ b, (27 : Int) ^ j = b := ⟨_, rfl⟩
      have hbb := p27_4 (show j ≤ 4 by omega)
      have hdx := hdl.2 j (by omega)
      rw [hb] at hbb hdx ⊢
      have hq0 : 0 ≤ v / b := Int.ediv_nonneg (by omega) (by omega)
      refine zGoR hΦ [9, 28] 400 (fun hL9 _ hM _ _ => ?_)
      obtain ⟨qL1, qL2, qL3, _⟩ : zrg w ∧ zrg v ∧ zrg b ∧ True := hL9
      refine ⟨(zposI (x := b) (by omega)), zIr (tdz (by omega)) (⟨fun (qc1 : v / b < 27) => (show Φ 28 [some (zo 670), some (zi w), some (zi v), some (zi b), some (zi b)] [] M (0) (0) from ?g238l1), fun (qc2 : v / b ≥ 27) => ⟨(zrgI (x := b * 27) (by omega)), (show Φ 9 [some (zo 670), some (zi w), some (zi v), some (zi (b * 27)), none] [] M (0) (0) from ?g238l2)⟩⟩)⟩
      case g238l1 =>
        exfalso; omega
      case g238l2 =>
        have h9 := ih (j + 1) (by omega)
        rw [Int.pow_succ, hb] at h9
        exact h9
  have hY := hY0.fr hO.1
  have hA := MA.fr hY0 hA0 hO.1
  refine zGoR hΦ [9] 400 (fun hL9 _ hM _ _ => ?_)
  obtain ⟨qL1, _⟩ : zrg w ∧ True := hL9
  refine ⟨⟨⟨rfl, rfl⟩, hY.w.rcv⟩, ⟨rfl, ⟨hY.w, _, hA.1, ⟨(zrgI (x := 9 * w) (by omega)), ⟨(zrgI (x := 6 + 9 * w) (by omega)), ⟨(zrgI (x := 6 + 9 * w + 0) (by omega)), ⟨zixO hA.2.1 hA.2.2 (i := 6 + 9 * w + 0) (by omega) (by decide), zIr ((congrFun e9 _).trans hvv) (⟨trivial, fun (qg1 : zrg (v)) _ => (show Φ 9 [some (zo 670), some (zi w), some (zi v), some (zi 1), none] [] M (0) (0) from ?g239l1)⟩)⟩⟩⟩⟩⟩⟩⟩
  case g239l1 =>
    have h9 := lo1 q 0 (by omega)
    exact h9
theorem M_X9_writeName {l : Launch} (hl : l.stackTraces = false) : zMet l yX9_writeName (Cond.code yX9_writeName cX9_writeName 5 (Option.none : Option Jvm.ClassFile.FieldType) :: zG) rm_X9_writeName 0 0 T_X9_writeName := met_X9_writeName hl (M_X9_ofWorker hl) (M_X9_write hl) bd_X9_writeName

def rowTx (G : Gm) (i : Int) : List Int := if (G (132 + 16 * i + 1).toNat) = 0 then [111] else if (G (132 + 16 * i + 1).toNat) = 1 then [100] else if (G (132 + 16 * i + 1).toNat) = 2 then (if (G (132 + 16 * i + 3).toNat) = -1 then [102] ++ dig (G (132 + 16 * i + 2).toNat) else [102] ++ dig (G (132 + 16 * i + 2).toNat) ++ [42]) else [97]
def tkTx (G : Gm) (r k : Int) : List Int := dgn (G (6 + 9 * (G (132 + 16 * r + (7 + 3 * k + 0)).toNat) + 0).toNat) ++ (if (G (132 + 16 * r + (7 + 3 * k + 1)).toNat) = -1 then [64] ++ dig (G (132 + 16 * r + (7 + 3 * k + 2)).toNat) else [61] ++ dig (G (132 + 16 * r + (7 + 3 * k + 1)).toNat))
def wkTx (G : Gm) (w : Int) : List Int := dgn (G (6 + 9 * w + 0).toNat) ++ [58] ++ dig (G (6 + 9 * w + 3).toNat) ++ (if (G (6 + 9 * w + 3).toNat) < G 2 then [33, 47] else [47]) ++ dig (G (6 + 9 * w + 8).toNat)
def txs (f : Int → List Int) (n : Int) : List Int := foldI (fun i o => wgap o ++ f i) [] n
theorem txs_s {f : Int → List Int} {n : Int} (h : 0 ≤ n) : txs f (n + 1) = wgap (txs f n) ++ f n := foldI_s h
theorem txs_0 {f : Int → List Int} : txs f 0 = [] := rfl
theorem txs_len {f : Int → List Int} (B : Nat) (hB : ∀ i, (f i).length ≤ B) : ∀ j : Nat, (txs f (j : Int)).length ≤ j * (B + 1) := by
  intro j
  induction j with
  | zero => exact Nat.le_of_eq (by rw [Nat.zero_mul]; rfl)
  | succ j ih =>
    rw [show ((j + 1 : Nat) : Int) = (j : Int) + 1 by omega, txs_s (by omega), List.length_append]
    have h1 := wgap_len (txs f (j : Int))
    have h2 := hB (j : Int)
    have h3 : (j + 1) * (B + 1) = j * (B + 1) + (B + 1) := Nat.succ_mul _ _
    omega
theorem rowTx_len (G : Gm) (i : Int) : (rowTx G i).length ≤ 8 := by
  unfold rowTx
  have h1 := dig_len (G (132 + 16 * i + 2).toNat)
  repeat' split
  all_goals (simp only [List.length_append, List.length_singleton]; omega)
theorem tkTx_len (G : Gm) (r i : Int) : (tkTx G r i).length ≤ 13 := by
  unfold tkTx
  have h0 := dgn_len (G (6 + 9 * (G (132 + 16 * r + (7 + 3 * i + 0)).toNat) + 0).toNat)
  have h1 := dig_len (G (132 + 16 * r + (7 + 3 * i + 2)).toNat)
  have h2 := dig_len (G (132 + 16 * r + (7 + 3 * i + 1)).toNat)
  split
  all_goals (simp only [List.length_append, List.length_singleton]; omega)
theorem wkTx_len (G : Gm) (w : Int) : (wkTx G w).length ≤ 21 := by
  unfold wkTx
  have h0 := dgn_len (G (6 + 9 * w + 0).toNat)
  have h1 := dig_len (G (6 + 9 * w + 3).toNat)
  have h2 := dig_len (G (6 + 9 * w + 8).toNat)
  split
  all_goals (simp only [List.length_append, List.length_singleton, List.length_cons, List.length_nil]; omega)

/-- the names -/
def GNm (G : Gm) : Prop := ∀ w : Int, 0 ≤ w → w < G 4 → (G (6 + 9 * w + 0).toNat) < 387420489

def T_X9_writeRows : ZTf := fun av M K KX => ∃ (G : Gm), av = [zo 670] ∧ (LY M) ∧ (MA M 671) ∧ (zI M 671 = G) ∧ (GI G) ∧ (GV G) ∧ (GX G) ∧ (∀ M' : ZM, Fr SOut M M' → (∀ f, f ≠ 0 → f ≠ 21 → zI M' 670 f = zI M 670 f) → zI M' 670 0 = 0 → ROut M' (txs (rowTx G) (G 5)) → K (some (zi ((txs (rowTx G) (G 5)).length : Int))) M')
set_option maxRecDepth 100000 in
set_option maxHeartbeats 4000000 in
theorem bd_X9_writeRows : zBd (cd_X9_writeRows T_X9_rows T_X9_writeGap T_X9_ofRow T_X9_write T_X9_writeNumber T_X9_isAudited) 3 0 0 T_X9_writeRows := by
  rintro av M K KX hA0 hM ⟨G, rfl, hY, hA, e9, hG, hV9, hX9, hK⟩
  obtain ⟨hw5, hr5, hR5⟩ := id hG
  obtain ⟨hv0, hv1, hv2, hv3, hvW, hvR, hvS⟩ := id hV9
  refine ⟨rfl, fun Φ hΦ => ?_⟩
  obtain ⟨M0, hM0⟩ : ∃ M0, zsI (zsI M 670 0 0) 670 21 0 = M0 := ⟨_, rfl⟩
  have f0 : Fr SOut M M0 := by rw [← hM0]; exact (Fr_I (S := SOut) hY.w (by decide) (by decide) (Or.inl rfl)).tr (Fr_I (M := zsI M 670 0 0) hY.w (by decide) (by decide) (Or.inl rfl))
  have hY0 := hY.fr f0
  have hA0 := MA.fr hY hA f0
  have e90 : zI M0 671 = G := (f0.i hY.a1 (by unfold SOut; omega)).trans e9
  have k80 : ∀ f, f ≠ 0 → f ≠ 21 → zI M0 670 f = zI M 670 f := fun f q0 q1 => by rw [← hM0, zI_Im _ _ _ q1, zI_Im _ _ _ q0]
  have k00 : zI M0 670 0 = 0 := by rw [← hM0, zI_Im _ _ _ (by decide), zI_Is]
  have hO0 : OB M0 M0 [] := ⟨Fr.rf, fun f _ => rfl, by rw [← hM0, zI_Is]; rfl, by decide, fun k x hx => by cases hx⟩
  have loop := zdown (n := (G 5)) (P := fun i => ∀ (M90 : ZM) (o7 : List Int), OB M0 M90 o7 → o7 = txs (rowTx G) i → Φ 12 [some (zo 670), some (zi i), none] [] M90 0 0) (fun i h0 h1 ih M90 o7 hO90 ho7 => by
    have hY90 := hY0.fr hO90.1
    have hA90 := MA.fr hY0 hA0 hO90.1
    have e990 := (hO90.1.i hY0.a1 (by unfold SOut; omega)).trans e90
    have hlo : o7.length ≤ i.toNat * 9 := by
      have h9 := txs_len (f := rowTx G) 8 (fun j => rowTx_len G j) i.toNat
      rw [show ((i.toNat : Nat) : Int) = i by omega, ← ho7] at h9
      exact h9
    have hwg := wgap_len o7
    have hrv := fun q : i < G 5 => hvR i h0 q
    have hst := fun q : i < G 5 => (hvR i h0 q).2.1
    have hx2 := fun q : i < G 5 => (hX9.1 i h0 q).2.2.2.1
    have hrs := fun q : i < G 5 => (hvR i h0 q).2.2.1
    have hdg := dig_len (G (132 + 16 * i + 2).toNat)
    refine zGoR hΦ [12] 400 (fun hL9 _ hM _ _ => ?_)
    obtain ⟨qL1, _⟩ : zrg i ∧ True := hL9
    refine ⟨⟨⟨rfl, rfl⟩, hY90.w.rcv⟩, ⟨rfl, ⟨hY90.w, _, hA90.1, ⟨zixO hA90.2.1 hA90.2.2 (i := 5) (by decide) (by decide), zIr (congrFun e990 _) (⟨trivial, fun (qg1 : zrg (G 5)) _ => ⟨fun (qc2 : i ≥ G 5) => ⟨hY90.w, ⟨trivial, (show K (some (zi (zI M90 670 21))) M90 from ?g240l1)⟩⟩, fun (qc3 : i < G 5) => ⟨⟨⟨rfl, rfl⟩, hY90.w.rcv⟩, ⟨M0, o7, rfl, hY0, hO90, (by first | omega | (simp only [List.length_append, List.length_singleton, List.length_cons, List.length_nil]; omega)), fun M1 hO1 => (have hY1 := hY0.fr hO1.1; have hA1 := MA.fr hY0 hA0 hO1.1; have e91 := (hO1.1.i hY0.a1 (by unfold SOut; omega)).trans e90; fun qg4 qm5 => ⟨⟨⟨rfl, rfl⟩, hY1.w.rcv⟩, ⟨rfl, ⟨hY1.w, _, hA1.1, ⟨(zrgI (x := 16 * i) (by omega)), ⟨(zrgI (x := 132 + 16 * i) (by omega)), ⟨(zrgI (x := 132 + 16 * i + 1) (by omega)), ⟨zixO hA1.2.1 hA1.2.2 (i := 132 + 16 * i + 1) (by omega) (by decide), zIr (congrFun e91 _) (⟨trivial, fun (qg6 : zrg (G (132 + 16 * i + 1).toNat)) _ => ⟨fun (qc7 : G (132 + 16 * i + 1).toNat ≠ 0) => ⟨fun (qc8 : G (132 + 16 * i + 1).toNat ≠ 1) => ⟨fun (qc9 : G (132 + 16 * i + 1).toNat ≠ 2) => ⟨⟨⟨rfl, rfl⟩, hY1.w.rcv⟩, ⟨M0, (wgap o7), 97, rfl, hY0, hO1, (by first | omega | (simp only [List.length_append, List.length_singleton, List.length_cons, List.length_nil]; omega)), (by omega), fun M2 hO2 => (have hY2 := hY0.fr hO2.1; have hA2 := MA.fr hY0 hA0 hO2.1; have e92 := (hO2.1.i hY0.a1 (by unfold SOut; omega)).trans e90; fun qg10 qm11 => ⟨fun (qc12 : G (132 + 16 * i + 1).toNat = 2) => ⟨⟨⟨rfl, rfl⟩, hY2.w.rcv⟩, ⟨rfl, ⟨hY2.w, _, hA2.1, ⟨(zrgI (x := 16 * i) (by omega)), ⟨(zrgI (x := 132 + 16 * i) (by omega)), ⟨(zrgI (x := 132 + 16 * i + 2) (by omega)), ⟨zixO hA2.2.1 hA2.2.2 (i := 132 + 16 * i + 2) (by omega) (by decide), zIr (congrFun e92 _) (⟨trivial, fun (qg13 : zrg (G (132 + 16 * i + 2).toNat)) _ => ⟨⟨⟨rfl, rfl⟩, hY2.w.rcv⟩, ⟨M0, ((wgap o7) ++ [97]), (G (132 + 16 * i + 2).toNat), rfl, hY0, hO2, (show 0 ≤ (G (132 + 16 * i + 2).toNat) ∧ (G (132 + 16 * i + 2).toNat) < 1000000 by omega), (by first | omega | (simp only [List.length_append, List.length_singleton, List.length_cons, List.length_nil]; omega)), fun M3 hO3 => (have hY3 := hY0.fr hO3.1; have hA3 := MA.fr hY0 hA0 hO3.1; have e93 := (hO3.1.i hY0.a1 (by unfold SOut; omega)).trans e90; fun qg14 qm15 => ⟨⟨⟨rfl, rfl⟩, hY3.w.rcv⟩, ⟨rfl, ⟨⟨⟨rfl, rfl⟩, hY3.w.rcv⟩, ⟨rfl, ⟨hY3.w, _, hA3.1, ⟨(zrgI (x := 16 * i) (by omega)), ⟨(zrgI (x := 132 + 16 * i) (by omega)), ⟨(zrgI (x := 132 + 16 * i + 3) (by omega)), ⟨zixO hA3.2.1 hA3.2.2 (i := 132 + 16 * i + 3) (by omega) (by decide), zIr (congrFun e93 _) (⟨trivial, fun (qg16 : zrg (G (132 + 16 * i + 3).toNat)) _ => ⟨fun (qc17 : G (132 + 16 * i + 3).toNat = (-1)) => ⟨(Or.inl rfl), fun _ _ => ⟨fun _ => ⟨(zrgI (x := i + 1) (by omega)), (zFg hΦ 2 (show Φ 12 [some (zo 670), some (zi (i + 1)), none] [] M3 (0) (0) from ?g240l2))⟩, fun (h : (0 : Int) ≠ 0) => absurd h (by decide)⟩⟩, fun (qc19 : G (132 + 16 * i + 3).toNat ≠ (-1)) => ⟨(Or.inr rfl), fun _ _ => ⟨fun (h : (1 : Int) = 0) => absurd h (by decide), fun _ => ⟨⟨⟨rfl, rfl⟩, hY3.w.rcv⟩, ⟨M0, (((wgap o7) ++ [97]) ++ dig (G (132 + 16 * i + 2).toNat)), 42, rfl, hY0, hO3, (by first | omega | (simp only [List.length_append, List.length_singleton, List.length_cons, List.length_nil]; omega)), (by omega), fun M4 hO4 => (have hY4 := hY0.fr hO4.1; have hA4 := MA.fr hY0 hA0 hO4.1; have e94 := (hO4.1.i hY0.a1 (by unfold SOut; omega)).trans e90; fun qg21 qm22 => ⟨(zrgI (x := i + 1) (by omega)), (zFg hΦ 2 (show Φ 12 [some (zo 670), some (zi (i + 1)), none] [] M4 (0) (0) from ?g240l3))⟩)⟩⟩⟩⟩⟩⟩)⟩⟩⟩⟩⟩⟩⟩⟩⟩)⟩⟩⟩)⟩⟩⟩⟩⟩⟩⟩, fun (qc23 : G (132 + 16 * i + 1).toNat ≠ 2) => ⟨(zrgI (x := i + 1) (by omega)), (zFg hΦ 2 (show Φ 12 [some (zo 670), some (zi (i + 1)), none] [] M2 (0) (0) from ?g240l4))⟩⟩)⟩⟩, fun (qc24 : G (132 + 16 * i + 1).toNat = 2) => ⟨⟨⟨rfl, rfl⟩, hY1.w.rcv⟩, ⟨M0, (wgap o7), 102, rfl, hY0, hO1, (by first | omega | (simp only [List.length_append, List.length_singleton, List.length_cons, List.length_nil]; omega)), (by omega), fun M5 hO5 => (have hY5 := hY0.fr hO5.1; have hA5 := MA.fr hY0 hA0 hO5.1; have e95 := (hO5.1.i hY0.a1 (by unfold SOut; omega)).trans e90; fun qg25 qm26 => ⟨fun (qc27 : G (132 + 16 * i + 1).toNat = 2) => ⟨⟨⟨rfl, rfl⟩, hY5.w.rcv⟩, ⟨rfl, ⟨hY5.w, _, hA5.1, ⟨(zrgI (x := 16 * i) (by omega)), ⟨(zrgI (x := 132 + 16 * i) (by omega)), ⟨(zrgI (x := 132 + 16 * i + 2) (by omega)), ⟨zixO hA5.2.1 hA5.2.2 (i := 132 + 16 * i + 2) (by omega) (by decide), zIr (congrFun e95 _) (⟨trivial, fun (qg28 : zrg (G (132 + 16 * i + 2).toNat)) _ => ⟨⟨⟨rfl, rfl⟩, hY5.w.rcv⟩, ⟨M0, ((wgap o7) ++ [102]), (G (132 + 16 * i + 2).toNat), rfl, hY0, hO5, (show 0 ≤ (G (132 + 16 * i + 2).toNat) ∧ (G (132 + 16 * i + 2).toNat) < 1000000 by omega), (by first | omega | (simp only [List.length_append, List.length_singleton, List.length_cons, List.length_nil]; omega)), fun M6 hO6 => (have hY6 := hY0.fr hO6.1; have hA6 := MA.fr hY0 hA0 hO6.1; have e96 := (hO6.1.i hY0.a1 (by unfold SOut; omega)).trans e90; fun qg29 qm30 => ⟨⟨⟨rfl, rfl⟩, hY6.w.rcv⟩, ⟨rfl, ⟨⟨⟨rfl, rfl⟩, hY6.w.rcv⟩, ⟨rfl, ⟨hY6.w, _, hA6.1, ⟨(zrgI (x := 16 * i) (by omega)), ⟨(zrgI (x := 132 + 16 * i) (by omega)), ⟨(zrgI (x := 132 + 16 * i + 3) (by omega)), ⟨zixO hA6.2.1 hA6.2.2 (i := 132 + 16 * i + 3) (by omega) (by decide), zIr (congrFun e96 _) (⟨trivial, fun (qg31 : zrg (G (132 + 16 * i + 3).toNat)) _ => ⟨fun (qc32 : G (132 + 16 * i + 3).toNat = (-1)) => ⟨(Or.inl rfl), fun _ _ => ⟨fun _ => ⟨(zrgI (x := i + 1) (by omega)), (zFg hΦ 2 (show Φ 12 [some (zo 670), some (zi (i + 1)), none] [] M6 (0) (0) from ?g240l5))⟩, fun (h : (0 : Int) ≠ 0) => absurd h (by decide)⟩⟩, fun (qc34 : G (132 + 16 * i + 3).toNat ≠ (-1)) => ⟨(Or.inr rfl), fun _ _ => ⟨fun (h : (1 : Int) = 0) => absurd h (by decide), fun _ => ⟨⟨⟨rfl, rfl⟩, hY6.w.rcv⟩, ⟨M0, (((wgap o7) ++ [102]) ++ dig (G (132 + 16 * i + 2).toNat)), 42, rfl, hY0, hO6, (by first | omega | (simp only [List.length_append, List.length_singleton, List.length_cons, List.length_nil]; omega)), (by omega), fun M7 hO7 => (have hY7 := hY0.fr hO7.1; have hA7 := MA.fr hY0 hA0 hO7.1; have e97 := (hO7.1.i hY0.a1 (by unfold SOut; omega)).trans e90; fun qg36 qm37 => ⟨(zrgI (x := i + 1) (by omega)), (zFg hΦ 2 (show Φ 12 [some (zo 670), some (zi (i + 1)), none] [] M7 (0) (0) from ?g240l6))⟩)⟩⟩⟩⟩⟩⟩)⟩⟩⟩⟩⟩⟩⟩⟩⟩)⟩⟩⟩)⟩⟩⟩⟩⟩⟩⟩, fun (qc38 : G (132 + 16 * i + 1).toNat ≠ 2) => ⟨(zrgI (x := i + 1) (by omega)), (zFg hΦ 2 (show Φ 12 [some (zo 670), some (zi (i + 1)), none] [] M5 (0) (0) from ?g240l7))⟩⟩)⟩⟩⟩, fun (qc39 : G (132 + 16 * i + 1).toNat = 1) => ⟨⟨⟨rfl, rfl⟩, hY1.w.rcv⟩, ⟨M0, (wgap o7), 100, rfl, hY0, hO1, (by first | omega | (simp only [List.length_append, List.length_singleton, List.length_cons, List.length_nil]; omega)), (by omega), fun M8 hO8 => (have hY8 := hY0.fr hO8.1; have hA8 := MA.fr hY0 hA0 hO8.1; have e98 := (hO8.1.i hY0.a1 (by unfold SOut; omega)).trans e90; fun qg40 qm41 => ⟨fun (qc42 : G (132 + 16 * i + 1).toNat = 2) => ⟨⟨⟨rfl, rfl⟩, hY8.w.rcv⟩, ⟨rfl, ⟨hY8.w, _, hA8.1, ⟨(zrgI (x := 16 * i) (by omega)), ⟨(zrgI (x := 132 + 16 * i) (by omega)), ⟨(zrgI (x := 132 + 16 * i + 2) (by omega)), ⟨zixO hA8.2.1 hA8.2.2 (i := 132 + 16 * i + 2) (by omega) (by decide), zIr (congrFun e98 _) (⟨trivial, fun (qg43 : zrg (G (132 + 16 * i + 2).toNat)) _ => ⟨⟨⟨rfl, rfl⟩, hY8.w.rcv⟩, ⟨M0, ((wgap o7) ++ [100]), (G (132 + 16 * i + 2).toNat), rfl, hY0, hO8, (show 0 ≤ (G (132 + 16 * i + 2).toNat) ∧ (G (132 + 16 * i + 2).toNat) < 1000000 by omega), (by first | omega | (simp only [List.length_append, List.length_singleton, List.length_cons, List.length_nil]; omega)), fun M9 hO9 => (have hY9 := hY0.fr hO9.1; have hA9 := MA.fr hY0 hA0 hO9.1; have e99 := (hO9.1.i hY0.a1 (by unfold SOut; omega)).trans e90; fun qg44 qm45 => ⟨⟨⟨rfl, rfl⟩, hY9.w.rcv⟩, ⟨rfl, ⟨⟨⟨rfl, rfl⟩, hY9.w.rcv⟩, ⟨rfl, ⟨hY9.w, _, hA9.1, ⟨(zrgI (x := 16 * i) (by omega)), ⟨(zrgI (x := 132 + 16 * i) (by omega)), ⟨(zrgI (x := 132 + 16 * i + 3) (by omega)), ⟨zixO hA9.2.1 hA9.2.2 (i := 132 + 16 * i + 3) (by omega) (by decide), zIr (congrFun e99 _) (⟨trivial, fun (qg46 : zrg (G (132 + 16 * i + 3).toNat)) _ => ⟨fun (qc47 : G (132 + 16 * i + 3).toNat = (-1)) => ⟨(Or.inl rfl), fun _ _ => ⟨fun _ => ⟨(zrgI (x := i + 1) (by omega)), (zFg hΦ 2 (show Φ 12 [some (zo 670), some (zi (i + 1)), none] [] M9 (0) (0) from ?g240l8))⟩, fun (h : (0 : Int) ≠ 0) => absurd h (by decide)⟩⟩, fun (qc49 : G (132 + 16 * i + 3).toNat ≠ (-1)) => ⟨(Or.inr rfl), fun _ _ => ⟨fun (h : (1 : Int) = 0) => absurd h (by decide), fun _ => ⟨⟨⟨rfl, rfl⟩, hY9.w.rcv⟩, ⟨M0, (((wgap o7) ++ [100]) ++ dig (G (132 + 16 * i + 2).toNat)), 42, rfl, hY0, hO9, (by first | omega | (simp only [List.length_append, List.length_singleton, List.length_cons, List.length_nil]; omega)), (by omega), fun M10 hO10 => (have hY10 := hY0.fr hO10.1; have hA10 := MA.fr hY0 hA0 hO10.1; have e910 := (hO10.1.i hY0.a1 (by unfold SOut; omega)).trans e90; fun qg51 qm52 => ⟨(zrgI (x := i + 1) (by omega)), (zFg hΦ 2 (show Φ 12 [some (zo 670), some (zi (i + 1)), none] [] M10 (0) (0) from ?g240l9))⟩)⟩⟩⟩⟩⟩⟩)⟩⟩⟩⟩⟩⟩⟩⟩⟩)⟩⟩⟩)⟩⟩⟩⟩⟩⟩⟩, fun (qc53 : G (132 + 16 * i + 1).toNat ≠ 2) => ⟨(zrgI (x := i + 1) (by omega)), (zFg hΦ 2 (show Φ 12 [some (zo 670), some (zi (i + 1)), none] [] M8 (0) (0) from ?g240l10))⟩⟩)⟩⟩⟩, fun (qc54 : G (132 + 16 * i + 1).toNat = 0) => ⟨⟨⟨rfl, rfl⟩, hY1.w.rcv⟩, ⟨M0, (wgap o7), 111, rfl, hY0, hO1, (by first | omega | (simp only [List.length_append, List.length_singleton, List.length_cons, List.length_nil]; omega)), (by omega), fun M11 hO11 => (have hY11 := hY0.fr hO11.1; have hA11 := MA.fr hY0 hA0 hO11.1; have e911 := (hO11.1.i hY0.a1 (by unfold SOut; omega)).trans e90; fun qg55 qm56 => ⟨fun (qc57 : G (132 + 16 * i + 1).toNat = 2) => ⟨⟨⟨rfl, rfl⟩, hY11.w.rcv⟩, ⟨rfl, ⟨hY11.w, _, hA11.1, ⟨(zrgI (x := 16 * i) (by omega)), ⟨(zrgI (x := 132 + 16 * i) (by omega)), ⟨(zrgI (x := 132 + 16 * i + 2) (by omega)), ⟨zixO hA11.2.1 hA11.2.2 (i := 132 + 16 * i + 2) (by omega) (by decide), zIr (congrFun e911 _) (⟨trivial, fun (qg58 : zrg (G (132 + 16 * i + 2).toNat)) _ => ⟨⟨⟨rfl, rfl⟩, hY11.w.rcv⟩, ⟨M0, ((wgap o7) ++ [111]), (G (132 + 16 * i + 2).toNat), rfl, hY0, hO11, (show 0 ≤ (G (132 + 16 * i + 2).toNat) ∧ (G (132 + 16 * i + 2).toNat) < 1000000 by omega), (by first | omega | (simp only [List.length_append, List.length_singleton, List.length_cons, List.length_nil]; omega)), fun M12 hO12 => (have hY12 := hY0.fr hO12.1; have hA12 := MA.fr hY0 hA0 hO12.1; have e912 := (hO12.1.i hY0.a1 (by unfold SOut; omega)).trans e90; fun qg59 qm60 => ⟨⟨⟨rfl, rfl⟩, hY12.w.rcv⟩, ⟨rfl, ⟨⟨⟨rfl, rfl⟩, hY12.w.rcv⟩, ⟨rfl, ⟨hY12.w, _, hA12.1, ⟨(zrgI (x := 16 * i) (by omega)), ⟨(zrgI (x := 132 + 16 * i) (by omega)), ⟨(zrgI (x := 132 + 16 * i + 3) (by omega)), ⟨zixO hA12.2.1 hA12.2.2 (i := 132 + 16 * i + 3) (by omega) (by decide), zIr (congrFun e912 _) (⟨trivial, fun (qg61 : zrg (G (132 + 16 * i + 3).toNat)) _ => ⟨fun (qc62 : G (132 + 16 * i + 3).toNat = (-1)) => ⟨(Or.inl rfl), fun _ _ => ⟨fun _ => ⟨(zrgI (x := i + 1) (by omega)), (zFg hΦ 2 (show Φ 12 [some (zo 670), some (zi (i + 1)), none] [] M12 (0) (0) from ?g240l11))⟩, fun (h : (0 : Int) ≠ 0) => absurd h (by decide)⟩⟩, fun (qc64 : G (132 + 16 * i + 3).toNat ≠ (-1)) => ⟨(Or.inr rfl), fun _ _ => ⟨fun (h : (1 : Int) = 0) => absurd h (by decide), fun _ => ⟨⟨⟨rfl, rfl⟩, hY12.w.rcv⟩, ⟨M0, (((wgap o7) ++ [111]) ++ dig (G (132 + 16 * i + 2).toNat)), 42, rfl, hY0, hO12, (by first | omega | (simp only [List.length_append, List.length_singleton, List.length_cons, List.length_nil]; omega)), (by omega), fun M13 hO13 => (have hY13 := hY0.fr hO13.1; have hA13 := MA.fr hY0 hA0 hO13.1; have e913 := (hO13.1.i hY0.a1 (by unfold SOut; omega)).trans e90; fun qg66 qm67 => ⟨(zrgI (x := i + 1) (by omega)), (zFg hΦ 2 (show Φ 12 [some (zo 670), some (zi (i + 1)), none] [] M13 (0) (0) from ?g240l12))⟩)⟩⟩⟩⟩⟩⟩)⟩⟩⟩⟩⟩⟩⟩⟩⟩)⟩⟩⟩)⟩⟩⟩⟩⟩⟩⟩, fun (qc68 : G (132 + 16 * i + 1).toNat ≠ 2) => ⟨(zrgI (x := i + 1) (by omega)), (zFg hΦ 2 (show Φ 12 [some (zo 670), some (zi (i + 1)), none] [] M11 (0) (0) from ?g240l13))⟩⟩)⟩⟩⟩⟩)⟩⟩⟩⟩⟩⟩⟩)⟩⟩⟩⟩)⟩⟩⟩⟩
    case g240l1 =>
      have e9n : i = (G 5) := (by omega)
      subst e9n
      have e21 : zI M90 670 21 = (o7.length : Int) := hO90.2.2.1
      refine zKi (hK M90 (f0.tr hO90.1) (fun f q0 q1 => (hO90.2.1 f q1).trans (k80 f q0 q1)) ((hO90.2.1 0 (by decide)).trans k00) (by rw [← ho7]; exact hO90.2.2)) ?_
      rw [← ho7, e21]
    case g240l2 =>
      refine ih (by omega) M3 _ hO3 ?_
      rw [txs_s h0, ← ho7]
      unfold rowTx
      first | (simp only [qc3, qc7, qc8, qc9, qc12, qc17, Int.not_le.mpr qc3, List.append_assoc, if_true, if_false]; done) | (simp only [qc3, qc7, qc8, qc9, qc12, qc17, Int.not_le.mpr qc3, List.append_assoc, if_true, if_false]; rfl) | (simp [qc3, qc7, qc8, qc9, qc12, qc17, Int.not_le.mpr qc3, List.append_assoc, if_true, if_false]; done) | (exfalso; omega)
    case g240l3 =>
      refine ih (by omega) M4 _ hO4 ?_
      rw [txs_s h0, ← ho7]
      unfold rowTx
      first | (simp only [qc3, qc7, qc8, qc9, qc12, qc19, Int.not_le.mpr qc3, List.append_assoc, if_true, if_false]; done) | (simp only [qc3, qc7, qc8, qc9, qc12, qc19, Int.not_le.mpr qc3, List.append_assoc, if_true, if_false]; rfl) | (simp [qc3, qc7, qc8, qc9, qc12, qc19, Int.not_le.mpr qc3, List.append_assoc, if_true, if_false]; done) | (exfalso; omega)
    case g240l4 =>
      refine ih (by omega) M2 _ hO2 ?_
      rw [txs_s h0, ← ho7]
      unfold rowTx
      first | (simp only [qc3, qc7, qc8, qc9, qc23, Int.not_le.mpr qc3, List.append_assoc, if_true, if_false]; done) | (simp only [qc3, qc7, qc8, qc9, qc23, Int.not_le.mpr qc3, List.append_assoc, if_true, if_false]; rfl) | (simp [qc3, qc7, qc8, qc9, qc23, Int.not_le.mpr qc3, List.append_assoc, if_true, if_false]; done) | (exfalso; omega)
    case g240l5 =>
      refine ih (by omega) M6 _ hO6 ?_
      rw [txs_s h0, ← ho7]
      unfold rowTx
      first | (simp only [qc3, qc7, qc8, qc24, qc27, qc32, Int.not_le.mpr qc3, List.append_assoc, if_true, if_false]; done) | (simp only [qc3, qc7, qc8, qc24, qc27, qc32, Int.not_le.mpr qc3, List.append_assoc, if_true, if_false]; rfl) | (simp [qc3, qc7, qc8, qc24, qc27, qc32, Int.not_le.mpr qc3, List.append_assoc, if_true, if_false]; done) | (exfalso; omega)
    case g240l6 =>
      refine ih (by omega) M7 _ hO7 ?_
      rw [txs_s h0, ← ho7]
      unfold rowTx
      first | (simp only [qc3, qc7, qc8, qc24, qc27, qc34, Int.not_le.mpr qc3, List.append_assoc, if_true, if_false]; done) | (simp only [qc3, qc7, qc8, qc24, qc27, qc34, Int.not_le.mpr qc3, List.append_assoc, if_true, if_false]; rfl) | (simp [qc3, qc7, qc8, qc24, qc27, qc34, Int.not_le.mpr qc3, List.append_assoc, if_true, if_false]; done) | (exfalso; omega)
    case g240l7 =>
      refine ih (by omega) M5 _ hO5 ?_
      rw [txs_s h0, ← ho7]
      unfold rowTx
      first | (simp only [qc3, qc7, qc8, qc24, qc38, Int.not_le.mpr qc3, List.append_assoc, if_true, if_false]; done) | (simp only [qc3, qc7, qc8, qc24, qc38, Int.not_le.mpr qc3, List.append_assoc, if_true, if_false]; rfl) | (simp [qc3, qc7, qc8, qc24, qc38, Int.not_le.mpr qc3, List.append_assoc, if_true, if_false]; done) | (exfalso; omega)
    case g240l8 =>
      refine ih (by omega) M9 _ hO9 ?_
      rw [txs_s h0, ← ho7]
      unfold rowTx
      first | (simp only [qc3, qc7, qc39, qc42, qc47, Int.not_le.mpr qc3, List.append_assoc, if_true, if_false]; done) | (simp only [qc3, qc7, qc39, qc42, qc47, Int.not_le.mpr qc3, List.append_assoc, if_true, if_false]; rfl) | (simp [qc3, qc7, qc39, qc42, qc47, Int.not_le.mpr qc3, List.append_assoc, if_true, if_false]; done) | (exfalso; omega)
    case g240l9 =>
      refine ih (by omega) M10 _ hO10 ?_
      rw [txs_s h0, ← ho7]
      unfold rowTx
      first | (simp only [qc3, qc7, qc39, qc42, qc49, Int.not_le.mpr qc3, List.append_assoc, if_true, if_false]; done) | (simp only [qc3, qc7, qc39, qc42, qc49, Int.not_le.mpr qc3, List.append_assoc, if_true, if_false]; rfl) | (simp [qc3, qc7, qc39, qc42, qc49, Int.not_le.mpr qc3, List.append_assoc, if_true, if_false]; done) | (exfalso; omega)
    case g240l10 =>
      refine ih (by omega) M8 _ hO8 ?_
      rw [txs_s h0, ← ho7]
      unfold rowTx
      first | (simp only [qc3, qc7, qc39, qc53, Int.not_le.mpr qc3, List.append_assoc, if_true, if_false]; done) | (simp only [qc3, qc7, qc39, qc53, Int.not_le.mpr qc3, List.append_assoc, if_true, if_false]; rfl) | (simp [qc3, qc7, qc39, qc53, Int.not_le.mpr qc3, List.append_assoc, if_true, if_false]; done) | (exfalso; omega)
    case g240l11 =>
      refine ih (by omega) M12 _ hO12 ?_
      rw [txs_s h0, ← ho7]
      unfold rowTx
      first | (simp only [qc3, qc54, qc57, qc62, Int.not_le.mpr qc3, List.append_assoc, if_true, if_false]; done) | (simp only [qc3, qc54, qc57, qc62, Int.not_le.mpr qc3, List.append_assoc, if_true, if_false]; rfl) | (simp [qc3, qc54, qc57, qc62, Int.not_le.mpr qc3, List.append_assoc, if_true, if_false]; done) | (exfalso; omega)
    case g240l12 =>
      refine ih (by omega) M13 _ hO13 ?_
      rw [txs_s h0, ← ho7]
      unfold rowTx
      first | (simp only [qc3, qc54, qc57, qc64, Int.not_le.mpr qc3, List.append_assoc, if_true, if_false]; done) | (simp only [qc3, qc54, qc57, qc64, Int.not_le.mpr qc3, List.append_assoc, if_true, if_false]; rfl) | (simp [qc3, qc54, qc57, qc64, Int.not_le.mpr qc3, List.append_assoc, if_true, if_false]; done) | (exfalso; omega)
    case g240l13 =>
      refine ih (by omega) M11 _ hO11 ?_
      rw [txs_s h0, ← ho7]
      unfold rowTx
      first | (simp only [qc3, qc54, qc68, Int.not_le.mpr qc3, List.append_assoc, if_true, if_false]; done) | (simp only [qc3, qc54, qc68, Int.not_le.mpr qc3, List.append_assoc, if_true, if_false]; rfl) | (simp [qc3, qc54, qc68, Int.not_le.mpr qc3, List.append_assoc, if_true, if_false]; done) | (exfalso; omega)
    done)
  refine zGoR hΦ [12] 400 (fun hL9 _ hM _ _ => ?_)
  obtain ⟨_⟩ : True := hL9
  refine ⟨⟨hY.w, trivial⟩, ⟨⟨hY.w, trivial⟩, (show Φ 12 [some (zo 670), some (zi 0), none] [] (zsI (zsI M 670 0 0) 670 21 0) (0) (0) from ?g241l1)⟩⟩
  case g241l1 =>
    first
    | (exfalso; omega)
    | skip
      have h9 := loop 0 (by omega) (by omega) M0 [] hO0 rfl
      rw [← hM0] at h9
      exact h9
theorem M_X9_writeRows {l : Launch} (hl : l.stackTraces = false) : zMet l yX9_writeRows (Cond.code yX9_writeRows cX9_writeRows 3 (Option.some Jvm.ClassFile.FieldType.int) :: zG) rm_X9_writeRows 0 0 T_X9_writeRows := met_X9_writeRows hl (M_X9_rows hl) (M_X9_writeGap hl) (M_X9_ofRow hl) (M_X9_write hl) (M_X9_writeNumber hl) (M_X9_isAudited hl) bd_X9_writeRows

def T_X9_writeRow : ZTf := fun av M K KX => ∃ (G : Gm) (r : Int), av = [zo 670, zi r] ∧ (LY M) ∧ (MA M 671) ∧ (zI M 671 = G) ∧ (GI G) ∧ (GV G) ∧ (GX G) ∧ (GNm G) ∧ (0 ≤ r ∧ r < G 5 → ∀ M' : ZM, Fr SOut M M' → (∀ f, f ≠ 0 → f ≠ 21 → zI M' 670 f = zI M 670 f) → zI M' 670 0 = 0 → ROut M' (txs (tkTx G r) (G (132 + 16 * r + 6).toNat)) → K (some (zi ((txs (tkTx G r) (G (132 + 16 * r + 6).toNat)).length : Int))) M') ∧ (¬ (0 ≤ r ∧ r < G 5) → K (some (zi 0)) (zsI M 670 0 1))
set_option maxRecDepth 100000 in
set_option maxHeartbeats 4000000 in
theorem bd_X9_writeRow : zBd (cd_X9_writeRow T_X9_isRow T_X9_passes T_X9_manyAt T_X9_writeGap T_X9_ofTaking T_X9_writeName T_X9_isInWork T_X9_write T_X9_writeNumber) 3 0 0 T_X9_writeRow := by
  rintro av M K KX hA0 hM ⟨G, r, rfl, hY, hA, e9, hG, hV9, hX9, hN, hK, hE⟩
  obtain ⟨hw5, hr5, hR5⟩ := id hG
  obtain ⟨hv0, hv1, hv2, hv3, hvW, hvR, hvS⟩ := id hV9
  refine ⟨rfl, fun Φ hΦ => ?_⟩
  obtain ⟨M0, hM0⟩ : ∃ M0, zsI (zsI M 670 0 0) 670 21 0 = M0 := ⟨_, rfl⟩
  have f0 : Fr SOut M M0 := by rw [← hM0]; exact (Fr_I (S := SOut) hY.w (by decide) (by decide) (Or.inl rfl)).tr (Fr_I (M := zsI M 670 0 0) hY.w (by decide) (by decide) (Or.inl rfl))
  have hY0 := hY.fr f0
  have hA0 := MA.fr hY hA f0
  have e90 : zI M0 671 = G := (f0.i hY.a1 (by unfold SOut; omega)).trans e9
  have k80 : ∀ f, f ≠ 0 → f ≠ 21 → zI M0 670 f = zI M 670 f := fun f q0 q1 => by rw [← hM0, zI_Im _ _ _ q1, zI_Im _ _ _ q0]
  have k00 : zI M0 670 0 = 0 := by rw [← hM0, zI_Im _ _ _ (by decide), zI_Is]
  have hO0 : OB M0 M0 [] := ⟨Fr.rf, fun f _ => rfl, by rw [← hM0, zI_Is]; rfl, by decide, fun k x hx => by cases hx⟩
  have hmF := fun (a : 0 ≤ r) (b : r < G 5) => (hR5 r a b).2.1
  have loop := fun (hok : 0 ≤ r ∧ r < G 5) => zdown (n := (G (132 + 16 * r + 6).toNat)) (P := fun i => ∀ (M90 : ZM) (o7 : List Int), OB M0 M90 o7 → o7 = txs (tkTx G r) i → Φ 21 [some (zo 670), some (zi r), some (zi i)] [] M90 0 0) (fun i h0 h1 ih M90 o7 hO90 ho7 => by
    have hY90 := hY0.fr hO90.1
    have hA90 := MA.fr hY0 hA0 hO90.1
    have e990 := (hO90.1.i hY0.a1 (by unfold SOut; omega)).trans e90
    have hlo : o7.length ≤ i.toNat * 14 := by
      have h9 := txs_len (f := tkTx G r) 13 (fun j => tkTx_len G r j) i.toNat
      rw [show ((i.toNat : Nat) : Int) = i by omega, ← ho7] at h9
      exact h9
    have hwg := wgap_len o7
    have hrr := hR5 r hok.1 hok.2
    have hrv := fun q : i < (G (132 + 16 * r + 6).toNat) => (hvR r hok.1 hok.2).2.2.2.2.2 i h0 q
    have hwk := fun q : i < (G (132 + 16 * r + 6).toNat) => hrr.2.2 i h0 q
    have hw4 := fun q : i < (G (132 + 16 * r + 6).toNat) => ((hX9.1 r hok.1 hok.2).1 i h0 q).1
    have hnm := fun q : i < (G (132 + 16 * r + 6).toNat) => (⟨by have := hX9.2.2.2 _ (hwk q).1 (hw4 q); omega, hN _ (hwk q).1 (hw4 q)⟩ : 0 ≤ (G (6 + 9 * (G (132 + 16 * r + (7 + 3 * i + 0)).toNat) + 0).toNat) ∧ (G (6 + 9 * (G (132 + 16 * r + (7 + 3 * i + 0)).toNat) + 0).toNat) < 387420489)
    obtain ⟨hr24, hm3, _⟩ := id hrr
    have hd0 := dgn_len (G (6 + 9 * (G (132 + 16 * r + (7 + 3 * i + 0)).toNat) + 0).toNat)
    have hd1 := dig_len (G (132 + 16 * r + (7 + 3 * i + 1)).toNat)
    have hd2 := dig_len (G (132 + 16 * r + (7 + 3 * i + 2)).toNat)
    refine zGoR hΦ [21] 400 (fun hL9 _ hM _ _ => ?_)
    obtain ⟨qL1, qL2, _⟩ : zrg r ∧ zrg i ∧ True := hL9
    refine ⟨⟨⟨rfl, rfl⟩, hY90.w.rcv⟩, ⟨rfl, ⟨⟨⟨rfl, rfl⟩, hY90.w.rcv⟩, ⟨rfl, ⟨hY90.w, _, hA90.1, ⟨(zrgI (x := 16 * r) (by omega)), ⟨(zrgI (x := 132 + 16 * r) (by omega)), ⟨(zrgI (x := 132 + 16 * r + 6) (by omega)), ⟨zixO hA90.2.1 hA90.2.2 (i := 132 + 16 * r + 6) (by omega) (by decide), zIr (congrFun e990 _) (⟨trivial, fun (qg1 : zrg (G (132 + 16 * r + 6).toNat)) _ => ⟨trivial, fun (qg2 : zrg (G (132 + 16 * r + 6).toNat)) _ => ⟨fun (qc3 : i ≥ G (132 + 16 * r + 6).toNat) => ⟨hY90.w, ⟨trivial, (show K (some (zi (zI M90 670 21))) M90 from ?g242l1)⟩⟩, fun (qc4 : i < G (132 + 16 * r + 6).toNat) => ⟨⟨⟨rfl, rfl⟩, hY90.w.rcv⟩, ⟨M0, o7, rfl, hY0, hO90, (by first | omega | (simp only [List.length_append, List.length_singleton, List.length_cons, List.length_nil]; omega)), fun M1 hO1 => (have hY1 := hY0.fr hO1.1; have hA1 := MA.fr hY0 hA0 hO1.1; have e91 := (hO1.1.i hY0.a1 (by unfold SOut; omega)).trans e90; fun qg5 qm6 => ⟨⟨⟨rfl, rfl⟩, hY1.w.rcv⟩, ⟨rfl, ⟨(zrgI (x := 3 * i) (by omega)), ⟨(zrgI (x := 7 + 3 * i) (by omega)), ⟨(zrgI (x := 7 + 3 * i + 0) (by omega)), ⟨⟨⟨rfl, rfl⟩, hY1.w.rcv⟩, ⟨rfl, ⟨hY1.w, _, hA1.1, ⟨(zrgI (x := 16 * r) (by omega)), ⟨(zrgI (x := 132 + 16 * r) (by omega)), ⟨(zrgI (x := 132 + 16 * r + (7 + 3 * i + 0)) (by omega)), ⟨zixO hA1.2.1 hA1.2.2 (i := 132 + 16 * r + (7 + 3 * i + 0)) (by omega) (by decide), zIr (congrFun e91 _) (⟨trivial, fun (qg7 : zrg (G (132 + 16 * r + (7 + 3 * i + 0)).toNat)) _ => ⟨trivial, fun (qg8 : zrg (G (132 + 16 * r + (7 + 3 * i + 0)).toNat)) _ => ⟨⟨⟨rfl, rfl⟩, hY1.w.rcv⟩, ⟨M0, (wgap o7), G, (G (132 + 16 * r + (7 + 3 * i + 0)).toNat), rfl, hY0, hA0, hO1, e91, (hwk (by omega)), (hnm (by omega)), (by first | omega | (simp only [List.length_append, List.length_singleton, List.length_cons, List.length_nil]; omega)), fun M2 hO2 => (have hY2 := hY0.fr hO2.1; have hA2 := MA.fr hY0 hA0 hO2.1; have e92 := (hO2.1.i hY0.a1 (by unfold SOut; omega)).trans e90; fun qg9 qm10 => ⟨⟨⟨rfl, rfl⟩, hY2.w.rcv⟩, ⟨rfl, ⟨⟨⟨rfl, rfl⟩, hY2.w.rcv⟩, ⟨rfl, ⟨(zrgI (x := 3 * i) (by omega)), ⟨(zrgI (x := 7 + 3 * i) (by omega)), ⟨(zrgI (x := 7 + 3 * i + 1) (by omega)), ⟨⟨⟨rfl, rfl⟩, hY2.w.rcv⟩, ⟨rfl, ⟨hY2.w, _, hA2.1, ⟨(zrgI (x := 16 * r) (by omega)), ⟨(zrgI (x := 132 + 16 * r) (by omega)), ⟨(zrgI (x := 132 + 16 * r + (7 + 3 * i + 1)) (by omega)), ⟨zixO hA2.2.1 hA2.2.2 (i := 132 + 16 * r + (7 + 3 * i + 1)) (by omega) (by decide), zIr (congrFun e92 _) (⟨trivial, fun (qg11 : zrg (G (132 + 16 * r + (7 + 3 * i + 1)).toNat)) _ => ⟨trivial, fun (qg12 : zrg (G (132 + 16 * r + (7 + 3 * i + 1)).toNat)) _ => ⟨fun (qc13 : G (132 + 16 * r + (7 + 3 * i + 1)).toNat ≠ (-1)) => ⟨(Or.inl rfl), fun _ _ => ⟨fun _ => ⟨⟨⟨rfl, rfl⟩, hY2.w.rcv⟩, ⟨M0, ((wgap o7) ++ dgn (G (6 + 9 * (G (132 + 16 * r + (7 + 3 * i + 0)).toNat) + 0).toNat)), 61, rfl, hY0, hO2, (by first | omega | (simp only [List.length_append, List.length_singleton, List.length_cons, List.length_nil]; omega)), (by omega), fun M3 hO3 => (have hY3 := hY0.fr hO3.1; have hA3 := MA.fr hY0 hA0 hO3.1; have e93 := (hO3.1.i hY0.a1 (by unfold SOut; omega)).trans e90; fun qg15 qm16 => ⟨⟨⟨rfl, rfl⟩, hY3.w.rcv⟩, ⟨rfl, ⟨⟨⟨rfl, rfl⟩, hY3.w.rcv⟩, ⟨rfl, ⟨(zrgI (x := 3 * i) (by omega)), ⟨(zrgI (x := 7 + 3 * i) (by omega)), ⟨(zrgI (x := 7 + 3 * i + 1) (by omega)), ⟨⟨⟨rfl, rfl⟩, hY3.w.rcv⟩, ⟨rfl, ⟨hY3.w, _, hA3.1, ⟨(zrgI (x := 16 * r) (by omega)), ⟨(zrgI (x := 132 + 16 * r) (by omega)), ⟨(zrgI (x := 132 + 16 * r + (7 + 3 * i + 1)) (by omega)), ⟨zixO hA3.2.1 hA3.2.2 (i := 132 + 16 * r + (7 + 3 * i + 1)) (by omega) (by decide), zIr (congrFun e93 _) (⟨trivial, fun (qg17 : zrg (G (132 + 16 * r + (7 + 3 * i + 1)).toNat)) _ => ⟨trivial, fun (qg18 : zrg (G (132 + 16 * r + (7 + 3 * i + 1)).toNat)) _ => ⟨fun (qc19 : G (132 + 16 * r + (7 + 3 * i + 1)).toNat ≠ (-1)) => ⟨(Or.inl rfl), fun _ _ => ⟨fun _ => ⟨⟨⟨rfl, rfl⟩, hY3.w.rcv⟩, ⟨rfl, ⟨(zrgI (x := 3 * i) (by omega)), ⟨(zrgI (x := 7 + 3 * i) (by omega)), ⟨(zrgI (x := 7 + 3 * i + 1) (by omega)), ⟨⟨⟨rfl, rfl⟩, hY3.w.rcv⟩, ⟨rfl, ⟨hY3.w, _, hA3.1, ⟨(zrgI (x := 16 * r) (by omega)), ⟨(zrgI (x := 132 + 16 * r) (by omega)), ⟨(zrgI (x := 132 + 16 * r + (7 + 3 * i + 1)) (by omega)), ⟨zixO hA3.2.1 hA3.2.2 (i := 132 + 16 * r + (7 + 3 * i + 1)) (by omega) (by decide), zIr (congrFun e93 _) (⟨trivial, fun (qg21 : zrg (G (132 + 16 * r + (7 + 3 * i + 1)).toNat)) _ => ⟨trivial, fun (qg22 : zrg (G (132 + 16 * r + (7 + 3 * i + 1)).toNat)) _ => ⟨⟨⟨rfl, rfl⟩, hY3.w.rcv⟩, ⟨M0, (((wgap o7) ++ dgn (G (6 + 9 * (G (132 + 16 * r + (7 + 3 * i + 0)).toNat) + 0).toNat)) ++ [61]), (G (132 + 16 * r + (7 + 3 * i + 1)).toNat), rfl, hY0, hO3, (show 0 ≤ (G (132 + 16 * r + (7 + 3 * i + 1)).toNat) ∧ (G (132 + 16 * r + (7 + 3 * i + 1)).toNat) < 1000000 by omega), (by first | omega | (simp only [List.length_append, List.length_singleton, List.length_cons, List.length_nil]; omega)), fun M4 hO4 => (have hY4 := hY0.fr hO4.1; have hA4 := MA.fr hY0 hA0 hO4.1; have e94 := (hO4.1.i hY0.a1 (by unfold SOut; omega)).trans e90; fun qg23 qm24 => ⟨(zrgI (x := i + 1) (by omega)), (show Φ 21 [some (zo 670), some (zi r), some (zi (i + 1))] [] M4 (0) (0) from ?g242l2)⟩)⟩⟩⟩⟩)⟩⟩⟩⟩⟩⟩⟩⟩⟩⟩⟩⟩, fun (h : (0 : Int) ≠ 0) => absurd h (by decide)⟩⟩, fun (qc25 : G (132 + 16 * r + (7 + 3 * i + 1)).toNat = (-1)) => ⟨(Or.inr rfl), fun _ _ => ⟨fun (h : (1 : Int) = 0) => absurd h (by decide), fun _ => ⟨⟨⟨rfl, rfl⟩, hY3.w.rcv⟩, ⟨rfl, ⟨(zrgI (x := 3 * i) (by omega)), ⟨(zrgI (x := 7 + 3 * i) (by omega)), ⟨(zrgI (x := 7 + 3 * i + 2) (by omega)), ⟨⟨⟨rfl, rfl⟩, hY3.w.rcv⟩, ⟨rfl, ⟨hY3.w, _, hA3.1, ⟨(zrgI (x := 16 * r) (by omega)), ⟨(zrgI (x := 132 + 16 * r) (by omega)), ⟨(zrgI (x := 132 + 16 * r + (7 + 3 * i + 2)) (by omega)), ⟨zixO hA3.2.1 hA3.2.2 (i := 132 + 16 * r + (7 + 3 * i + 2)) (by omega) (by decide), zIr (congrFun e93 _) (⟨trivial, fun (qg27 : zrg (G (132 + 16 * r + (7 + 3 * i + 2)).toNat)) _ => ⟨trivial, fun (qg28 : zrg (G (132 + 16 * r + (7 + 3 * i + 2)).toNat)) _ => ⟨⟨⟨rfl, rfl⟩, hY3.w.rcv⟩, ⟨M0, (((wgap o7) ++ dgn (G (6 + 9 * (G (132 + 16 * r + (7 + 3 * i + 0)).toNat) + 0).toNat)) ++ [61]), (G (132 + 16 * r + (7 + 3 * i + 2)).toNat), rfl, hY0, hO3, (show 0 ≤ (G (132 + 16 * r + (7 + 3 * i + 2)).toNat) ∧ (G (132 + 16 * r + (7 + 3 * i + 2)).toNat) < 1000000 by omega), (by first | omega | (simp only [List.length_append, List.length_singleton, List.length_cons, List.length_nil]; omega)), fun M5 hO5 => (have hY5 := hY0.fr hO5.1; have hA5 := MA.fr hY0 hA0 hO5.1; have e95 := (hO5.1.i hY0.a1 (by unfold SOut; omega)).trans e90; fun qg29 qm30 => ⟨(zrgI (x := i + 1) (by omega)), (show Φ 21 [some (zo 670), some (zi r), some (zi (i + 1))] [] M5 (0) (0) from ?g242l3)⟩)⟩⟩⟩⟩)⟩⟩⟩⟩⟩⟩⟩⟩⟩⟩⟩⟩⟩⟩⟩⟩⟩)⟩⟩⟩⟩⟩⟩⟩⟩⟩⟩⟩⟩⟩⟩)⟩⟩, fun (h : (0 : Int) ≠ 0) => absurd h (by decide)⟩⟩, fun (qc31 : G (132 + 16 * r + (7 + 3 * i + 1)).toNat = (-1)) => ⟨(Or.inr rfl), fun _ _ => ⟨fun (h : (1 : Int) = 0) => absurd h (by decide), fun _ => ⟨⟨⟨rfl, rfl⟩, hY2.w.rcv⟩, ⟨M0, ((wgap o7) ++ dgn (G (6 + 9 * (G (132 + 16 * r + (7 + 3 * i + 0)).toNat) + 0).toNat)), 64, rfl, hY0, hO2, (by first | omega | (simp only [List.length_append, List.length_singleton, List.length_cons, List.length_nil]; omega)), (by omega), fun M6 hO6 => (have hY6 := hY0.fr hO6.1; have hA6 := MA.fr hY0 hA0 hO6.1; have e96 := (hO6.1.i hY0.a1 (by unfold SOut; omega)).trans e90; fun qg33 qm34 => ⟨⟨⟨rfl, rfl⟩, hY6.w.rcv⟩, ⟨rfl, ⟨⟨⟨rfl, rfl⟩, hY6.w.rcv⟩, ⟨rfl, ⟨(zrgI (x := 3 * i) (by omega)), ⟨(zrgI (x := 7 + 3 * i) (by omega)), ⟨(zrgI (x := 7 + 3 * i + 1) (by omega)), ⟨⟨⟨rfl, rfl⟩, hY6.w.rcv⟩, ⟨rfl, ⟨hY6.w, _, hA6.1, ⟨(zrgI (x := 16 * r) (by omega)), ⟨(zrgI (x := 132 + 16 * r) (by omega)), ⟨(zrgI (x := 132 + 16 * r + (7 + 3 * i + 1)) (by omega)), ⟨zixO hA6.2.1 hA6.2.2 (i := 132 + 16 * r + (7 + 3 * i + 1)) (by omega) (by decide), zIr (congrFun e96 _) (⟨trivial, fun (qg35 : zrg (G (132 + 16 * r + (7 + 3 * i + 1)).toNat)) _ => ⟨trivial, fun (qg36 : zrg (G (132 + 16 * r + (7 + 3 * i + 1)).toNat)) _ => ⟨fun (qc37 : G (132 + 16 * r + (7 + 3 * i + 1)).toNat ≠ (-1)) => ⟨(Or.inl rfl), fun _ _ => ⟨fun _ => ⟨⟨⟨rfl, rfl⟩, hY6.w.rcv⟩, ⟨rfl, ⟨(zrgI (x := 3 * i) (by omega)), ⟨(zrgI (x := 7 + 3 * i) (by omega)), ⟨(zrgI (x := 7 + 3 * i + 1) (by omega)), ⟨⟨⟨rfl, rfl⟩, hY6.w.rcv⟩, ⟨rfl, ⟨hY6.w, _, hA6.1, ⟨(zrgI (x := 16 * r) (by omega)), ⟨(zrgI (x := 132 + 16 * r) (by omega)), ⟨(zrgI (x := 132 + 16 * r + (7 + 3 * i + 1)) (by omega)), ⟨zixO hA6.2.1 hA6.2.2 (i := 132 + 16 * r + (7 + 3 * i + 1)) (by omega) (by decide), zIr (congrFun e96 _) (⟨trivial, fun (qg39 : zrg (G (132 + 16 * r + (7 + 3 * i + 1)).toNat)) _ => ⟨trivial, fun (qg40 : zrg (G (132 + 16 * r + (7 + 3 * i + 1)).toNat)) _ => ⟨⟨⟨rfl, rfl⟩, hY6.w.rcv⟩, ⟨M0, (((wgap o7) ++ dgn (G (6 + 9 * (G (132 + 16 * r + (7 + 3 * i + 0)).toNat) + 0).toNat)) ++ [64]), (G (132 + 16 * r + (7 + 3 * i + 1)).toNat), rfl, hY0, hO6, (show 0 ≤ (G (132 + 16 * r + (7 + 3 * i + 1)).toNat) ∧ (G (132 + 16 * r + (7 + 3 * i + 1)).toNat) < 1000000 by omega), (by first | omega | (simp only [List.length_append, List.length_singleton, List.length_cons, List.length_nil]; omega)), fun M7 hO7 => (have hY7 := hY0.fr hO7.1; have hA7 := MA.fr hY0 hA0 hO7.1; have e97 := (hO7.1.i hY0.a1 (by unfold SOut; omega)).trans e90; fun qg41 qm42 => ⟨(zrgI (x := i + 1) (by omega)), (show Φ 21 [some (zo 670), some (zi r), some (zi (i + 1))] [] M7 (0) (0) from ?g242l4)⟩)⟩⟩⟩⟩)⟩⟩⟩⟩⟩⟩⟩⟩⟩⟩⟩⟩, fun (h : (0 : Int) ≠ 0) => absurd h (by decide)⟩⟩, fun (qc43 : G (132 + 16 * r + (7 + 3 * i + 1)).toNat = (-1)) => ⟨(Or.inr rfl), fun _ _ => ⟨fun (h : (1 : Int) = 0) => absurd h (by decide), fun _ => ⟨⟨⟨rfl, rfl⟩, hY6.w.rcv⟩, ⟨rfl, ⟨(zrgI (x := 3 * i) (by omega)), ⟨(zrgI (x := 7 + 3 * i) (by omega)), ⟨(zrgI (x := 7 + 3 * i + 2) (by omega)), ⟨⟨⟨rfl, rfl⟩, hY6.w.rcv⟩, ⟨rfl, ⟨hY6.w, _, hA6.1, ⟨(zrgI (x := 16 * r) (by omega)), ⟨(zrgI (x := 132 + 16 * r) (by omega)), ⟨(zrgI (x := 132 + 16 * r + (7 + 3 * i + 2)) (by omega)), ⟨zixO hA6.2.1 hA6.2.2 (i := 132 + 16 * r + (7 + 3 * i + 2)) (by omega) (by decide), zIr (congrFun e96 _) (⟨trivial, fun (qg45 : zrg (G (132 + 16 * r + (7 + 3 * i + 2)).toNat)) _ => ⟨trivial, fun (qg46 : zrg (G (132 + 16 * r + (7 + 3 * i + 2)).toNat)) _ => ⟨⟨⟨rfl, rfl⟩, hY6.w.rcv⟩, ⟨M0, (((wgap o7) ++ dgn (G (6 + 9 * (G (132 + 16 * r + (7 + 3 * i + 0)).toNat) + 0).toNat)) ++ [64]), (G (132 + 16 * r + (7 + 3 * i + 2)).toNat), rfl, hY0, hO6, (show 0 ≤ (G (132 + 16 * r + (7 + 3 * i + 2)).toNat) ∧ (G (132 + 16 * r + (7 + 3 * i + 2)).toNat) < 1000000 by omega), (by first | omega | (simp only [List.length_append, List.length_singleton, List.length_cons, List.length_nil]; omega)), fun M8 hO8 => (have hY8 := hY0.fr hO8.1; have hA8 := MA.fr hY0 hA0 hO8.1; have e98 := (hO8.1.i hY0.a1 (by unfold SOut; omega)).trans e90; fun qg47 qm48 => ⟨(zrgI (x := i + 1) (by omega)), (show Φ 21 [some (zo 670), some (zi r), some (zi (i + 1))] [] M8 (0) (0) from ?g242l5)⟩)⟩⟩⟩⟩)⟩⟩⟩⟩⟩⟩⟩⟩⟩⟩⟩⟩⟩⟩⟩⟩⟩)⟩⟩⟩⟩⟩⟩⟩⟩⟩⟩⟩⟩⟩⟩)⟩⟩⟩⟩⟩⟩⟩)⟩⟩⟩⟩⟩⟩⟩⟩⟩⟩⟩⟩⟩⟩)⟩⟩⟩⟩)⟩⟩⟩⟩⟩⟩⟩⟩⟩⟩⟩⟩)⟩⟩⟩⟩⟩)⟩⟩⟩⟩⟩⟩⟩⟩⟩
    case g242l1 =>
      have e9n : i = (G (132 + 16 * r + 6).toNat) := (by omega)
      subst e9n
      have e21 : zI M90 670 21 = (o7.length : Int) := hO90.2.2.1
      refine zKi (hK hok M90 (f0.tr hO90.1) (fun f q0 q1 => (hO90.2.1 f q1).trans (k80 f q0 q1)) ((hO90.2.1 0 (by decide)).trans k00) (by rw [← ho7]; exact hO90.2.2)) ?_
      rw [← ho7, e21]
    case g242l2 =>
      refine ih (by omega) M4 _ hO4 ?_
      rw [txs_s h0, ← ho7]
      unfold tkTx
      first | (simp only [qc4, qc13, qc19, Int.not_le.mpr qc4, List.append_assoc, if_true, if_false]; done) | (simp only [qc4, qc13, qc19, Int.not_le.mpr qc4, List.append_assoc, if_true, if_false]; rfl) | (simp [qc4, qc13, qc19, Int.not_le.mpr qc4, List.append_assoc, if_true, if_false]; done) | (exfalso; omega)
    case g242l3 =>
      refine ih (by omega) M5 _ hO5 ?_
      rw [txs_s h0, ← ho7]
      unfold tkTx
      first | (simp only [qc4, qc13, qc25, Int.not_le.mpr qc4, List.append_assoc, if_true, if_false]; done) | (simp only [qc4, qc13, qc25, Int.not_le.mpr qc4, List.append_assoc, if_true, if_false]; rfl) | (simp [qc4, qc13, qc25, Int.not_le.mpr qc4, List.append_assoc, if_true, if_false]; done) | (exfalso; omega)
    case g242l4 =>
      refine ih (by omega) M7 _ hO7 ?_
      rw [txs_s h0, ← ho7]
      unfold tkTx
      first | (simp only [qc4, qc31, qc37, Int.not_le.mpr qc4, List.append_assoc, if_true, if_false]; done) | (simp only [qc4, qc31, qc37, Int.not_le.mpr qc4, List.append_assoc, if_true, if_false]; rfl) | (simp [qc4, qc31, qc37, Int.not_le.mpr qc4, List.append_assoc, if_true, if_false]; done) | (exfalso; omega)
    case g242l5 =>
      refine ih (by omega) M8 _ hO8 ?_
      rw [txs_s h0, ← ho7]
      unfold tkTx
      first | (simp only [qc4, qc31, qc43, Int.not_le.mpr qc4, List.append_assoc, if_true, if_false]; done) | (simp only [qc4, qc31, qc43, Int.not_le.mpr qc4, List.append_assoc, if_true, if_false]; rfl) | (simp [qc4, qc31, qc43, Int.not_le.mpr qc4, List.append_assoc, if_true, if_false]; done) | (exfalso; omega)
    done)
  refine zGoR hΦ [21] 400 (fun hL9 _ hM _ _ => ?_)
  obtain ⟨qL1, _⟩ : zrg r ∧ True := hL9
  refine ⟨⟨⟨rfl, rfl⟩, hY.w.rcv⟩, ⟨rfl, ⟨⟨⟨rfl, rfl⟩, hY.w.rcv⟩, ⟨rfl, ⟨hY.w, _, hA.1, ⟨zixO hA.2.1 hA.2.2 (i := 5) (by decide) (by decide), zIr (congrFun e9 _) (⟨trivial, fun (qg1 : zrg (G 5)) _ => ⟨(zrgI (x := G 5 - 1) (by omega)), ⟨⟨⟨rfl, rfl⟩, trivial⟩, ⟨rfl, ⟨fun h => (have qc2 : r < 0 := zc_lt h; ⟨(Or.inl rfl), fun _ _ => ⟨(Or.inl rfl), fun _ _ => ⟨⟨⟨rfl, rfl⟩, hY.w.rcv⟩, ⟨rfl, ⟨⟨⟨rfl, rfl⟩, hY.w.rcv⟩, ⟨rfl, ⟨fun (h : (0 : Int) ≠ 0) => absurd h (by decide), fun _ => ⟨⟨hY.w, trivial⟩, ⟨hY.w, ⟨fun _ => ⟨(Or.inl rfl), fun _ _ => ⟨(Or.inl rfl), fun _ _ => ⟨fun (h : (0 : Int) ≠ 0) => absurd h (by decide), fun _ => ⟨trivial, (show K (some (zi 0)) (zsI M 670 0 1) from ?g243l1)⟩⟩⟩⟩, fun (h : (1 : Int) = 0) => absurd h (by decide)⟩⟩⟩⟩⟩⟩⟩⟩⟩⟩), fun h => (have qc7 : r ≥ 0 := zc_ge h; ⟨fun h => (have qc8 : r > G 5 - 1 := zc_gt h; ⟨(Or.inl rfl), fun _ _ => ⟨(Or.inl rfl), fun _ _ => ⟨⟨⟨rfl, rfl⟩, hY.w.rcv⟩, ⟨rfl, ⟨⟨⟨rfl, rfl⟩, hY.w.rcv⟩, ⟨rfl, ⟨fun (h : (0 : Int) ≠ 0) => absurd h (by decide), fun _ => ⟨⟨hY.w, trivial⟩, ⟨hY.w, ⟨fun _ => ⟨(Or.inl rfl), fun _ _ => ⟨(Or.inl rfl), fun _ _ => ⟨fun (h : (0 : Int) ≠ 0) => absurd h (by decide), fun _ => ⟨trivial, (show K (some (zi 0)) (zsI M 670 0 1) from ?g243l2)⟩⟩⟩⟩, fun (h : (1 : Int) = 0) => absurd h (by decide)⟩⟩⟩⟩⟩⟩⟩⟩⟩⟩), fun h => (have qc13 : r ≤ G 5 - 1 := zc_le h; ⟨(Or.inr rfl), fun _ _ => ⟨(Or.inr rfl), fun _ _ => ⟨⟨⟨rfl, rfl⟩, hY.w.rcv⟩, ⟨rfl, ⟨⟨⟨rfl, rfl⟩, hY.w.rcv⟩, ⟨rfl, ⟨fun _ => ⟨fun _ => ⟨fun _ => ⟨⟨hY.w, trivial⟩, ⟨hY.w, ⟨fun (h : (0 : Int) ≠ 0) => absurd h (by decide), fun _ => ⟨(Or.inr rfl), fun _ _ => ⟨(Or.inr rfl), fun _ _ => ⟨fun _ => ⟨⟨hY.w, trivial⟩, (show Φ 21 [some (zo 670), some (zi r), some (zi 0)] [] (zsI (zsI M 670 0 0) 670 21 0) (0) (0) from ?g243l3)⟩, fun (h : (1 : Int) = 0) => absurd h (by decide)⟩⟩⟩⟩⟩⟩, fun (h : (1 : Int) = 0) => absurd h (by decide)⟩, fun (h : (1 : Int) = 0) => absurd h (by decide)⟩, fun (h : (1 : Int) = 0) => absurd h (by decide)⟩⟩⟩⟩⟩⟩⟩)⟩)⟩⟩⟩⟩⟩)⟩⟩⟩⟩⟩⟩
  case g243l1 => first | (exfalso; omega) | exact hE (by omega)
  case g243l2 => first | (exfalso; omega) | exact hE (by omega)
  case g243l3 =>
    first
    | (exfalso; omega)
    | skip
      have h9 := loop (by omega) 0 (by omega) (by omega) M0 [] hO0 rfl
      rw [← hM0] at h9
      exact h9
theorem M_X9_writeRow {l : Launch} (hl : l.stackTraces = false) : zMet l yX9_writeRow (Cond.code yX9_writeRow cX9_writeRow 3 (Option.some Jvm.ClassFile.FieldType.int) :: zG) rm_X9_writeRow 0 0 T_X9_writeRow := met_X9_writeRow hl (M_X9_isRow hl) (M_X9_passes hl) (M_X9_manyAt hl) (M_X9_writeGap hl) (M_X9_ofTaking hl) (M_X9_writeName hl) (M_X9_isInWork hl) (M_X9_write hl) (M_X9_writeNumber hl) bd_X9_writeRow

def T_X9_writeWorkers : ZTf := fun av M K KX => ∃ (G : Gm), av = [zo 670] ∧ (LY M) ∧ (MA M 671) ∧ (zI M 671 = G) ∧ (GI G) ∧ (GV G) ∧ (GX G) ∧ (GNm G) ∧ (∀ M' : ZM, Fr SOut M M' → (∀ f, f ≠ 0 → f ≠ 21 → zI M' 670 f = zI M 670 f) → zI M' 670 0 = 0 → ROut M' (txs (wkTx G) (G 4)) → K (some (zi ((txs (wkTx G) (G 4)).length : Int))) M')
set_option maxRecDepth 100000 in
set_option maxHeartbeats 4000000 in
theorem bd_X9_writeWorkers : zBd (cd_X9_writeWorkers T_X9_workers T_X9_writeGap T_X9_writeName T_X9_write T_X9_ofWorker T_X9_writeNumber T_X9_isSuspended) 2 0 0 T_X9_writeWorkers := by
  rintro av M K KX hA0 hM ⟨G, rfl, hY, hA, e9, hG, hV9, hX9, hN, hK⟩
  obtain ⟨hw5, hr5, hR5⟩ := id hG
  obtain ⟨hv0, hv1, hv2, hv3, hvW, hvR, hvS⟩ := id hV9
  refine ⟨rfl, fun Φ hΦ => ?_⟩
  obtain ⟨M0, hM0⟩ : ∃ M0, zsI (zsI M 670 0 0) 670 21 0 = M0 := ⟨_, rfl⟩
  have f0 : Fr SOut M M0 := by rw [← hM0]; exact (Fr_I (S := SOut) hY.w (by decide) (by decide) (Or.inl rfl)).tr (Fr_I (M := zsI M 670 0 0) hY.w (by decide) (by decide) (Or.inl rfl))
  have hY0 := hY.fr f0
  have hA0 := MA.fr hY hA f0
  have e90 : zI M0 671 = G := (f0.i hY.a1 (by unfold SOut; omega)).trans e9
  have k80 : ∀ f, f ≠ 0 → f ≠ 21 → zI M0 670 f = zI M 670 f := fun f q0 q1 => by rw [← hM0, zI_Im _ _ _ q1, zI_Im _ _ _ q0]
  have k00 : zI M0 670 0 = 0 := by rw [← hM0, zI_Im _ _ _ (by decide), zI_Is]
  have hO0 : OB M0 M0 [] := ⟨Fr.rf, fun f _ => rfl, by rw [← hM0, zI_Is]; rfl, by decide, fun k x hx => by cases hx⟩
  have loop := zdown (n := (G 4)) (P := fun i => ∀ (M90 : ZM) (o7 : List Int), OB M0 M90 o7 → o7 = txs (wkTx G) i → Φ 12 [some (zo 670), some (zi i)] [] M90 0 0) (fun i h0 h1 ih M90 o7 hO90 ho7 => by
    have hY90 := hY0.fr hO90.1
    have hA90 := MA.fr hY0 hA0 hO90.1
    have e990 := (hO90.1.i hY0.a1 (by unfold SOut; omega)).trans e90
    have hlo : o7.length ≤ i.toNat * 22 := by
      have h9 := txs_len (f := wkTx G) 21 (fun j => wkTx_len G j) i.toNat
      rw [show ((i.toNat : Nat) : Int) = i by omega, ← ho7] at h9
      exact h9
    have hwg := wgap_len o7
    have hwv := fun q : i < G 4 => hvW i h0 q
    have hnm := fun q : i < G 4 => (⟨by have := hX9.2.2.2 i h0 q; omega, hN i h0 q⟩ : 0 ≤ (G (6 + 9 * i + 0).toNat) ∧ (G (6 + 9 * i + 0).toNat) < 387420489)
    have ht3 := fun q : i < G 4 => (hvW i h0 q).2.2.1
    have ht8 := fun q : i < G 4 => (hvW i h0 q).2.2.2.2.2.2.2
    have hd0 := dgn_len (G (6 + 9 * i + 0).toNat)
    have hd1 := dig_len (G (6 + 9 * i + 3).toNat)
    have hd2 := dig_len (G (6 + 9 * i + 8).toNat)
    refine zGoR hΦ [12] 400 (fun hL9 _ hM _ _ => ?_)
    obtain ⟨qL1, _⟩ : zrg i ∧ True := hL9
    refine ⟨⟨⟨rfl, rfl⟩, hY90.w.rcv⟩, ⟨rfl, ⟨hY90.w, _, hA90.1, ⟨zixO hA90.2.1 hA90.2.2 (i := 4) (by decide) (by decide), zIr (congrFun e990 _) (⟨trivial, fun (qg1 : zrg (G 4)) _ => ⟨fun (qc2 : i ≥ G 4) => ⟨hY90.w, ⟨trivial, (show K (some (zi (zI M90 670 21))) M90 from ?g244l1)⟩⟩, fun (qc3 : i < G 4) => ⟨⟨⟨rfl, rfl⟩, hY90.w.rcv⟩, ⟨M0, o7, rfl, hY0, hO90, (by first | omega | (simp only [List.length_append, List.length_singleton, List.length_cons, List.length_nil]; omega)), fun M1 hO1 => (have hY1 := hY0.fr hO1.1; have hA1 := MA.fr hY0 hA0 hO1.1; have e91 := (hO1.1.i hY0.a1 (by unfold SOut; omega)).trans e90; fun qg4 qm5 => ⟨⟨⟨rfl, rfl⟩, hY1.w.rcv⟩, ⟨M0, (wgap o7), G, i, rfl, hY0, hA0, hO1, e91, (show 0 ≤ i ∧ i < 6 by omega), (hnm (by omega)), (by first | omega | (simp only [List.length_append, List.length_singleton, List.length_cons, List.length_nil]; omega)), fun M2 hO2 => (have hY2 := hY0.fr hO2.1; have hA2 := MA.fr hY0 hA0 hO2.1; have e92 := (hO2.1.i hY0.a1 (by unfold SOut; omega)).trans e90; fun qg6 qm7 => ⟨⟨⟨rfl, rfl⟩, hY2.w.rcv⟩, ⟨M0, ((wgap o7) ++ dgn (G (6 + 9 * i + 0).toNat)), 58, rfl, hY0, hO2, (by first | omega | (simp only [List.length_append, List.length_singleton, List.length_cons, List.length_nil]; omega)), (by omega), fun M3 hO3 => (have hY3 := hY0.fr hO3.1; have hA3 := MA.fr hY0 hA0 hO3.1; have e93 := (hO3.1.i hY0.a1 (by unfold SOut; omega)).trans e90; fun qg8 qm9 => ⟨⟨⟨rfl, rfl⟩, hY3.w.rcv⟩, ⟨rfl, ⟨hY3.w, _, hA3.1, ⟨(zrgI (x := 9 * i) (by omega)), ⟨(zrgI (x := 6 + 9 * i) (by omega)), ⟨(zrgI (x := 6 + 9 * i + 3) (by omega)), ⟨zixO hA3.2.1 hA3.2.2 (i := 6 + 9 * i + 3) (by omega) (by decide), zIr (congrFun e93 _) (⟨trivial, fun (qg10 : zrg (G (6 + 9 * i + 3).toNat)) _ => ⟨⟨⟨rfl, rfl⟩, hY3.w.rcv⟩, ⟨M0, (((wgap o7) ++ dgn (G (6 + 9 * i + 0).toNat)) ++ [58]), (G (6 + 9 * i + 3).toNat), rfl, hY0, hO3, (show 0 ≤ (G (6 + 9 * i + 3).toNat) ∧ (G (6 + 9 * i + 3).toNat) < 1000000 by omega), (by first | omega | (simp only [List.length_append, List.length_singleton, List.length_cons, List.length_nil]; omega)), fun M4 hO4 => (have hY4 := hY0.fr hO4.1; have hA4 := MA.fr hY0 hA0 hO4.1; have e94 := (hO4.1.i hY0.a1 (by unfold SOut; omega)).trans e90; fun qg11 qm12 => ⟨⟨⟨rfl, rfl⟩, hY4.w.rcv⟩, ⟨rfl, ⟨⟨⟨rfl, rfl⟩, hY4.w.rcv⟩, ⟨rfl, ⟨hY4.w, _, hA4.1, ⟨(zrgI (x := 9 * i) (by omega)), ⟨(zrgI (x := 6 + 9 * i) (by omega)), ⟨(zrgI (x := 6 + 9 * i + 3) (by omega)), ⟨zixO hA4.2.1 hA4.2.2 (i := 6 + 9 * i + 3) (by omega) (by decide), zIr (congrFun e94 _) (⟨trivial, fun (qg13 : zrg (G (6 + 9 * i + 3).toNat)) _ => ⟨⟨⟨rfl, rfl⟩, hY4.w.rcv⟩, ⟨rfl, ⟨hY4.w, _, hA4.1, ⟨(by decide), ⟨zixO hA4.2.1 hA4.2.2 (i := 2) (by decide) (by decide), zIr (congrFun e94 _) (⟨trivial, fun (qg14 : zrg (G 2)) _ => ⟨fun (qc15 : G (6 + 9 * i + 3).toNat ≥ G 2) => ⟨(Or.inl rfl), fun _ _ => ⟨fun _ => ⟨⟨⟨rfl, rfl⟩, hY4.w.rcv⟩, ⟨M0, ((((wgap o7) ++ dgn (G (6 + 9 * i + 0).toNat)) ++ [58]) ++ dig (G (6 + 9 * i + 3).toNat)), 47, rfl, hY0, hO4, (by first | omega | (simp only [List.length_append, List.length_singleton, List.length_cons, List.length_nil]; omega)), (by omega), fun M5 hO5 => (have hY5 := hY0.fr hO5.1; have hA5 := MA.fr hY0 hA0 hO5.1; have e95 := (hO5.1.i hY0.a1 (by unfold SOut; omega)).trans e90; fun qg17 qm18 => ⟨⟨⟨rfl, rfl⟩, hY5.w.rcv⟩, ⟨rfl, ⟨hY5.w, _, hA5.1, ⟨(zrgI (x := 9 * i) (by omega)), ⟨(zrgI (x := 6 + 9 * i) (by omega)), ⟨(zrgI (x := 6 + 9 * i + 8) (by omega)), ⟨zixO hA5.2.1 hA5.2.2 (i := 6 + 9 * i + 8) (by omega) (by decide), zIr (congrFun e95 _) (⟨trivial, fun (qg19 : zrg (G (6 + 9 * i + 8).toNat)) _ => ⟨⟨⟨rfl, rfl⟩, hY5.w.rcv⟩, ⟨M0, (((((wgap o7) ++ dgn (G (6 + 9 * i + 0).toNat)) ++ [58]) ++ dig (G (6 + 9 * i + 3).toNat)) ++ [47]), (G (6 + 9 * i + 8).toNat), rfl, hY0, hO5, (show 0 ≤ (G (6 + 9 * i + 8).toNat) ∧ (G (6 + 9 * i + 8).toNat) < 1000000 by omega), (by first | omega | (simp only [List.length_append, List.length_singleton, List.length_cons, List.length_nil]; omega)), fun M6 hO6 => (have hY6 := hY0.fr hO6.1; have hA6 := MA.fr hY0 hA0 hO6.1; have e96 := (hO6.1.i hY0.a1 (by unfold SOut; omega)).trans e90; fun qg20 qm21 => ⟨(zrgI (x := i + 1) (by omega)), (show Φ 12 [some (zo 670), some (zi (i + 1))] [] M6 (0) (0) from ?g244l2)⟩)⟩⟩⟩)⟩⟩⟩⟩⟩⟩⟩)⟩⟩, fun (h : (0 : Int) ≠ 0) => absurd h (by decide)⟩⟩, fun (qc22 : G (6 + 9 * i + 3).toNat < G 2) => ⟨(Or.inr rfl), fun _ _ => ⟨fun (h : (1 : Int) = 0) => absurd h (by decide), fun _ => ⟨⟨⟨rfl, rfl⟩, hY4.w.rcv⟩, ⟨M0, ((((wgap o7) ++ dgn (G (6 + 9 * i + 0).toNat)) ++ [58]) ++ dig (G (6 + 9 * i + 3).toNat)), 33, rfl, hY0, hO4, (by first | omega | (simp only [List.length_append, List.length_singleton, List.length_cons, List.length_nil]; omega)), (by omega), fun M7 hO7 => (have hY7 := hY0.fr hO7.1; have hA7 := MA.fr hY0 hA0 hO7.1; have e97 := (hO7.1.i hY0.a1 (by unfold SOut; omega)).trans e90; fun qg24 qm25 => ⟨⟨⟨rfl, rfl⟩, hY7.w.rcv⟩, ⟨M0, (((((wgap o7) ++ dgn (G (6 + 9 * i + 0).toNat)) ++ [58]) ++ dig (G (6 + 9 * i + 3).toNat)) ++ [33]), 47, rfl, hY0, hO7, (by first | omega | (simp only [List.length_append, List.length_singleton, List.length_cons, List.length_nil]; omega)), (by omega), fun M8 hO8 => (have hY8 := hY0.fr hO8.1; have hA8 := MA.fr hY0 hA0 hO8.1; have e98 := (hO8.1.i hY0.a1 (by unfold SOut; omega)).trans e90; fun qg26 qm27 => ⟨⟨⟨rfl, rfl⟩, hY8.w.rcv⟩, ⟨rfl, ⟨hY8.w, _, hA8.1, ⟨(zrgI (x := 9 * i) (by omega)), ⟨(zrgI (x := 6 + 9 * i) (by omega)), ⟨(zrgI (x := 6 + 9 * i + 8) (by omega)), ⟨zixO hA8.2.1 hA8.2.2 (i := 6 + 9 * i + 8) (by omega) (by decide), zIr (congrFun e98 _) (⟨trivial, fun (qg28 : zrg (G (6 + 9 * i + 8).toNat)) _ => ⟨⟨⟨rfl, rfl⟩, hY8.w.rcv⟩, ⟨M0, ((((((wgap o7) ++ dgn (G (6 + 9 * i + 0).toNat)) ++ [58]) ++ dig (G (6 + 9 * i + 3).toNat)) ++ [33]) ++ [47]), (G (6 + 9 * i + 8).toNat), rfl, hY0, hO8, (show 0 ≤ (G (6 + 9 * i + 8).toNat) ∧ (G (6 + 9 * i + 8).toNat) < 1000000 by omega), (by first | omega | (simp only [List.length_append, List.length_singleton, List.length_cons, List.length_nil]; omega)), fun M9 hO9 => (have hY9 := hY0.fr hO9.1; have hA9 := MA.fr hY0 hA0 hO9.1; have e99 := (hO9.1.i hY0.a1 (by unfold SOut; omega)).trans e90; fun qg29 qm30 => ⟨(zrgI (x := i + 1) (by omega)), (show Φ 12 [some (zo 670), some (zi (i + 1))] [] M9 (0) (0) from ?g244l3)⟩)⟩⟩⟩)⟩⟩⟩⟩⟩⟩⟩)⟩⟩)⟩⟩⟩⟩⟩⟩)⟩⟩⟩⟩⟩⟩)⟩⟩⟩⟩⟩⟩⟩⟩⟩)⟩⟩⟩)⟩⟩⟩⟩⟩⟩⟩)⟩⟩)⟩⟩)⟩⟩⟩⟩)⟩⟩⟩⟩
    case g244l1 =>
      have e9n : i = (G 4) := (by omega)
      subst e9n
      have e21 : zI M90 670 21 = (o7.length : Int) := hO90.2.2.1
      refine zKi (hK M90 (f0.tr hO90.1) (fun f q0 q1 => (hO90.2.1 f q1).trans (k80 f q0 q1)) ((hO90.2.1 0 (by decide)).trans k00) (by rw [← ho7]; exact hO90.2.2)) ?_
      rw [← ho7, e21]
    case g244l2 =>
      refine ih (by omega) M6 _ hO6 ?_
      rw [txs_s h0, ← ho7]
      unfold wkTx
      first | (simp only [qc3, qc15, Int.not_le.mpr qc3, Int.not_lt.mpr qc15, List.append_assoc, if_true, if_false]; done) | (simp only [qc3, qc15, Int.not_le.mpr qc3, Int.not_lt.mpr qc15, List.append_assoc, if_true, if_false]; rfl) | (simp [qc3, qc15, Int.not_le.mpr qc3, Int.not_lt.mpr qc15, List.append_assoc, if_true, if_false]; done) | (exfalso; omega)
    case g244l3 =>
      refine ih (by omega) M9 _ hO9 ?_
      rw [txs_s h0, ← ho7]
      unfold wkTx
      first | (simp only [qc3, qc22, Int.not_le.mpr qc3, Int.not_le.mpr qc22, List.append_assoc, if_true, if_false]; done) | (simp only [qc3, qc22, Int.not_le.mpr qc3, Int.not_le.mpr qc22, List.append_assoc, if_true, if_false]; rfl) | (simp [qc3, qc22, Int.not_le.mpr qc3, Int.not_le.mpr qc22, List.append_assoc, if_true, if_false]; done) | (exfalso; omega)
    done)
  refine zGoR hΦ [12] 400 (fun hL9 _ hM _ _ => ?_)
  obtain ⟨_⟩ : True := hL9
  refine ⟨⟨hY.w, trivial⟩, ⟨⟨hY.w, trivial⟩, (show Φ 12 [some (zo 670), some (zi 0)] [] (zsI (zsI M 670 0 0) 670 21 0) (0) (0) from ?g245l1)⟩⟩
  case g245l1 =>
    first
    | (exfalso; omega)
    | skip
      have h9 := loop 0 (by omega) (by omega) M0 [] hO0 rfl
      rw [← hM0] at h9
      exact h9
theorem M_X9_writeWorkers {l : Launch} (hl : l.stackTraces = false) : zMet l yX9_writeWorkers (Cond.code yX9_writeWorkers cX9_writeWorkers 2 (Option.some Jvm.ClassFile.FieldType.int) :: zG) rm_X9_writeWorkers 0 0 T_X9_writeWorkers := met_X9_writeWorkers hl (M_X9_workers hl) (M_X9_writeGap hl) (M_X9_writeName hl) (M_X9_write hl) (M_X9_ofWorker hl) (M_X9_writeNumber hl) (M_X9_isSuspended hl) bd_X9_writeWorkers

def T_X9_outputByte : ZTf := fun av M K KX => ∃ (o : List Int) (x : Int), av = [zo 670, zi x] ∧ (LY M) ∧ (ROut M o) ∧ ((∀ v, 0 ≤ x → o[x.toNat]? = some v → K (some (zi v)) (zsI M 670 0 0)) ∧ (¬ (0 ≤ x ∧ x < (o.length : Int)) → K (some (zi 0)) (zsI M 670 0 1)))
set_option maxRecDepth 100000 in
set_option maxHeartbeats 4000000 in
theorem bd_X9_outputByte : zBd (cd_X9_outputByte T_X9_in T_X9_passes) 2 0 0 T_X9_outputByte := by
  rintro av M K KX hA0 hM ⟨o, x, rfl, hY, hO, hK, hE⟩
  have hl4 := hO.2.1
  obtain ⟨n, hn⟩ : ∃ n, (o.length : Int) = n := ⟨_, rfl⟩
  have hn2 : zI M 670 21 = n := hO.1.trans hn
  rw [hn] at hE
  refine ⟨rfl, fun Φ hΦ => ?_⟩
  refine zGoR hΦ [] 400 (fun hL9 _ hM _ _ => ?_)
  obtain ⟨qL1, _⟩ : zrg x ∧ True := hL9
  refine ⟨hY.w, zIr hn2 (⟨(zrgI (x := n - 1) (by omega)), ⟨⟨⟨rfl, rfl⟩, trivial⟩, ⟨rfl, ⟨fun h => (have qc1 : x < 0 := zc_lt h; ⟨(Or.inl rfl), fun _ _ => ⟨⟨⟨rfl, rfl⟩, hY.w.rcv⟩, ⟨rfl, ⟨⟨⟨rfl, rfl⟩, hY.w.rcv⟩, ⟨rfl, ⟨fun (h : (0 : Int) ≠ 0) => absurd h (by decide), fun _ => ⟨⟨hY.w, trivial⟩, ⟨hY.w, ⟨fun _ => ⟨(Or.inl rfl), fun _ _ => ⟨(Or.inl rfl), fun _ _ => ⟨fun _ => ⟨trivial, (show K (some (zi 0)) (zsI M 670 0 1) from ?g246l1)⟩, fun (h : (0 : Int) ≠ 0) => absurd h (by decide)⟩⟩⟩, fun (h : (1 : Int) = 0) => absurd h (by decide)⟩⟩⟩⟩⟩⟩⟩⟩⟩), fun h => (have qc5 : x ≥ 0 := zc_ge h; ⟨fun h => (have qc6 : x > n - 1 := zc_gt h; ⟨(Or.inl rfl), fun _ _ => ⟨⟨⟨rfl, rfl⟩, hY.w.rcv⟩, ⟨rfl, ⟨⟨⟨rfl, rfl⟩, hY.w.rcv⟩, ⟨rfl, ⟨fun (h : (0 : Int) ≠ 0) => absurd h (by decide), fun _ => ⟨⟨hY.w, trivial⟩, ⟨hY.w, ⟨fun _ => ⟨(Or.inl rfl), fun _ _ => ⟨(Or.inl rfl), fun _ _ => ⟨fun _ => ⟨trivial, (show K (some (zi 0)) (zsI M 670 0 1) from ?g246l2)⟩, fun (h : (0 : Int) ≠ 0) => absurd h (by decide)⟩⟩⟩, fun (h : (1 : Int) = 0) => absurd h (by decide)⟩⟩⟩⟩⟩⟩⟩⟩⟩), fun h => (have qc10 : x ≤ n - 1 := zc_le h; ⟨(Or.inr rfl), fun _ _ => ⟨⟨⟨rfl, rfl⟩, hY.w.rcv⟩, ⟨rfl, ⟨⟨⟨rfl, rfl⟩, hY.w.rcv⟩, ⟨rfl, ⟨fun _ => ⟨fun _ => ⟨fun _ => ⟨⟨hY.w, trivial⟩, ⟨hY.w, ⟨fun (h : (0 : Int) ≠ 0) => absurd h (by decide), fun _ => ⟨(Or.inr rfl), fun _ _ => ⟨(Or.inr rfl), fun _ _ => ⟨fun (h : (1 : Int) = 0) => absurd h (by decide), fun _ => ⟨hY.w, _, hY.r20, ⟨zixO hY.a20 hY.l20 (i := x) (by omega) (by decide), ⟨trivial, (show K (some (zi (zI M 680 x.toNat))) (zsI M 670 0 0) from ?g246l3)⟩⟩⟩⟩⟩⟩⟩⟩⟩, fun (h : (1 : Int) = 0) => absurd h (by decide)⟩, fun (h : (1 : Int) = 0) => absurd h (by decide)⟩, fun (h : (1 : Int) = 0) => absurd h (by decide)⟩⟩⟩⟩⟩⟩)⟩)⟩⟩⟩⟩)⟩
  case g246l1 => first | (exfalso; omega) | exact hE (by omega)
  case g246l2 => first | (exfalso; omega) | exact hE (by omega)
  case g246l3 =>
    first
    | (exfalso; omega)
    | skip
      have hlt : x.toNat < o.length := by omega
      have h9 := hK _ (by omega) (List.getElem?_eq_getElem hlt)
      rw [← hO.2.2 _ _ (List.getElem?_eq_getElem hlt)] at h9
      exact h9
theorem M_X9_outputByte {l : Launch} (hl : l.stackTraces = false) : zMet l yX9_outputByte (Cond.code yX9_outputByte cX9_outputByte 2 (Option.some Jvm.ClassFile.FieldType.int) :: zG) rm_X9_outputByte 0 0 T_X9_outputByte := met_X9_outputByte hl (M_X9_in hl) (M_X9_passes hl) bd_X9_outputByte
