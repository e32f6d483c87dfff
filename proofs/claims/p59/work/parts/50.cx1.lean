def pD (on T : Int) (x : T3) : Bool := if on = 0 then inWk x else lateT T x
def dW (on T v : Int) (l : List T3) : Int := ((l.countP (fun x => pD on T x && decide (x.1 = v)) : Nat) : Int)
theorem pD_w {on T : Int} {x : T3} (h : pD on T x = true) : x.2.1 = -1 := by
  unfold pD inWk lateT at h
  split at h
  · exact of_decide_eq_true h
  · exact (of_decide_eq_true h).1
theorem dW_s (on T v : Int) (l : List T3) (x : T3) : dW on T v (l ++ [x]) = dW on T v l + (if pD on T x = true ∧ x.1 = v then 1 else 0) := by
  unfold dW
  rw [List.countP_append, List.countP_singleton]
  by_cases q : pD on T x = true ∧ x.1 = v
  · rw [if_pos q, if_pos (by rw [q.1, decide_eq_true q.2]; rfl)]
    rfl
  · rw [if_neg q, if_neg (by rw [Bool.and_eq_true, decide_eq_true_eq]; exact q)]
    omega
theorem dW_no {on T v : Int} {l : List T3} (h : ∀ x, x ∈ l → x.1 ≠ v) : dW on T v l = 0 := by
  unfold dW
  rw [List.countP_eq_zero.mpr (fun x hx => by rw [Bool.and_eq_true, decide_eq_true_eq]; exact fun z => h x hx z.2)]
  rfl
theorem dW_b (on T v : Int) (l : List T3) : 0 ≤ dW on T v l ∧ dW on T v l ≤ (l.length : Int) := by
  refine ⟨by unfold dW; omega, ?_⟩
  unfold dW
  have h : l.countP (fun x => pD on T x && decide (x.1 = v)) ≤ l.length := List.countP_le_length
  omega
theorem dW_works {on T v : Int} {l : List T3} (hx : XL l) : b2i (works l v) = b2i (works (l.filter (fun x => !pD on T x)) v) + dW on T v l := by
  induction l with
  | nil => rfl
  | cons x l ih =>
    have hx2 := List.pairwise_cons.mp hx
    have ih' := ih hx2.2
    have hw : works (x :: l) v = (decide (x.1 = v ∧ x.2.1 = -1) || works l v) := rfl
    have hd : dW on T v (x :: l) = dW on T v l + (if pD on T x = true ∧ x.1 = v then 1 else 0) := by
      unfold dW
      rw [List.countP_cons]
      by_cases q : pD on T x = true ∧ x.1 = v
      · rw [if_pos q, if_pos (by rw [q.1, decide_eq_true q.2]; rfl)]
        omega
      · rw [if_neg q, if_neg (by rw [Bool.and_eq_true, decide_eq_true_eq]; exact q)]
        omega
    rw [hw, hd, List.filter_cons]
    by_cases e : x.1 = v
    · have hno : ∀ y, y ∈ l → y.1 ≠ v := fun y hy z => hx2.1 y hy (e.trans z.symm)
      have h1 : works l v = false := works_no hno
      have h2 : works (l.filter (fun x => !pD on T x)) v = false := works_no (fun y hy => hno y (List.mem_filter.mp hy).1)
      have h3 : dW on T v l = 0 := dW_no hno
      by_cases p : pD on T x = true
      · rw [if_neg (by rw [p]; decide), if_pos ⟨p, e⟩, h1, h2, h3, decide_eq_true ⟨e, pD_w p⟩]
        rfl
      · have p' : (!pD on T x) = true := by rw [Bool.eq_false_iff.mpr p]; rfl
        rw [if_pos p', if_neg (fun z => p z.1), h3]
        show b2i (decide (x.1 = v ∧ x.2.1 = -1) || works l v) = b2i (decide (x.1 = v ∧ x.2.1 = -1) || works (l.filter (fun x => !pD on T x)) v) + (0 + 0)
        rw [h1, h2]
        omega
    · rw [decide_eq_false (fun z => e z.1), Bool.false_or, if_neg (show ¬ (pD on T x = true ∧ x.1 = v) from fun z => e z.2), ih']
      split
      · show b2i (works (l.filter (fun x => !pD on T x)) v) + dW on T v l = b2i (decide (x.1 = v ∧ x.2.1 = -1) || works (l.filter (fun x => !pD on T x)) v) + (dW on T v l + 0)
        rw [decide_eq_false (fun z => e z.1), Bool.false_or]
        omega
      · omega
/-- takings of a row that are gone, in the reference's numbers -/
def DWr (on T : Int) (g g' : Gm) (r : Int) : Prop := RwT g' r ((TK g r).filter (fun x => !pD on T x)) ∧ (∀ v : Int, 0 ≤ v → v < g 4 → (g' (6 + 9 * v + 3).toNat) = (if on = 0 then (g (6 + 9 * v + 3).toNat) else zmax 0 ((g (6 + 9 * v + 3).toNat) - dW on T v (TK g r))) ∧ (g' (6 + 9 * v + 7).toNat) = (if on = 0 then (g (6 + 9 * v + 7).toNat) else (g (6 + 9 * v + 7).toNat) + dW on T v (TK g r))) ∧ ∀ j : Nat, (∀ v : Int, 0 ≤ v → v < 6 → j ≠ (6 + 9 * v + 3).toNat ∧ j ≠ (6 + 9 * v + 7).toNat) → (j : Int) < 132 + 16 * r + 6 ∨ 132 + 16 * r + 16 ≤ (j : Int) → g' j = g j
/-- the class under way: o1 of row r seen -/
def DWs (M M9 : ZM) (t : Nat) (g : Gm) (r on T : Int) (o1 : List T3) : Prop := Fr (STb t) M M9 ∧ (∀ j, (j < t + 11 + 2 * r.toNat + 1 ∨ t + 11 + 2 * r.toNat + 1 < j) → (∀ v : Int, 0 ≤ v → v < 6 → j ≠ t + 5 + v.toNat) → zI M9 j = zI M j) ∧ zR M9 = zR M ∧ (∀ (j : Nat) (x : T3), (o1.filter (fun x => !pD on T x))[j]? = some x → zI M9 (t + 11 + 2 * r.toNat + 1) (j * 3) = x.1 ∧ zI M9 (t + 11 + 2 * r.toNat + 1) (j * 3 + 1) = x.2.1 ∧ zI M9 (t + 11 + 2 * r.toNat + 1) (j * 3 + 2) = x.2.2) ∧ (∀ (j : Nat) (x : T3), o1.length ≤ j → (TK g r)[j]? = some x → zI M9 (t + 11 + 2 * r.toNat + 1) (j * 3) = x.1 ∧ zI M9 (t + 11 + 2 * r.toNat + 1) (j * 3 + 1) = x.2.1 ∧ zI M9 (t + 11 + 2 * r.toNat + 1) (j * 3 + 2) = x.2.2) ∧ ∀ v : Int, 0 ≤ v → v < g 4 → zI M9 (t + 5 + v.toNat) 4 = fInWork g v - dW on T v o1 ∧ zI M9 (t + 5 + v.toNat) 3 = (if on = 0 then (g (6 + 9 * v + 3).toNat) else zmax 0 ((g (6 + 9 * v + 3).toNat) - dW on T v o1)) ∧ zI M9 (t + 5 + v.toNat) 8 = (if on = 0 then (g (6 + 9 * v + 7).toNat) else (g (6 + 9 * v + 7).toNat) + dW on T v o1) ∧ ∀ f : Nat, f ≠ 3 → f ≠ 4 → f ≠ 8 → zI M9 (t + 5 + v.toNat) f = zI M (t + 5 + v.toNat) f
def T_X4_moveTaking : ZTf := zInl (cd_X4_moveTaking T_X4_workerAt T_X4_resultAt T_X4_dueAt T_X4_setTaking) 3 0 0 400
theorem M_X4_moveTaking {l : Launch} (hl : l.stackTraces = false) : zMet l yX4_moveTaking (Cond.code yX4_moveTaking cX4_moveTaking 3 (Option.none : Option Jvm.ClassFile.FieldType) :: zG) rm_X4_moveTaking 0 0 T_X4_moveTaking := met_X4_moveTaking hl (M_X4_workerAt hl) (M_X4_resultAt hl) (M_X4_dueAt hl) (M_X4_setTaking hl) zInl_bd
def T_X5_endWork : ZTf := zInl (cd_X5_endWork T_X7_changeTrust) 2 0 0 400
theorem M_X5_endWork {l : Launch} (hl : l.stackTraces = false) : zMet l yX5_endWork (Cond.code yX5_endWork cX5_endWork 2 (Option.none : Option Jvm.ClassFile.FieldType) :: zG) rm_X5_endWork 0 0 T_X5_endWork := met_X5_endWork hl (M_X7_changeTrust hl) zInl_bd
theorem fInWork_rowL {G G' : Gm} {r v : Int} {l : List T3} (hG : LvP G) (hxl : ∀ q, 0 ≤ q → q < G 5 → XL (TK G q)) (hr : 0 ≤ r ∧ r < G 5) (e5 : G' 5 = G 5) (e : ∀ q : Int, 0 ≤ q → q < G 5 → q ≠ r → ∀ j : Nat, 132 + 16 * q + 6 ≤ (j : Int) → (j : Int) < 132 + 16 * q + 16 → G' j = G j) (hl : RwT G' r l) (hx : XL l) : fInWork G' v = fInWork G v - b2i (works (TK G r) v) + b2i (works l v) := by
  have hRr := (hG.2.2.1 r hr.1 hr.2).1
  unfold fInWork
  rw [e5, cntI_upd (p := fun q => fWorksAt G v q) (p' := fun q => fWorksAt G' v q) hr.1 hr.2 (fun q q0 q1 q2 => fWorksAt_cg3 (hG.2.2.1 q q0 q1).1 (e q q0 q1 q2))]
  rw [fWorksAt_tk hl hx, fWorksAt_tk (TK_RwT hRr.2.1.1) (hxl r hr.1 hr.2)]
theorem TRx.stepD {M M' : ZM} {t : Nat} {G G' : Gm} {p0 : Int} (h : TRx M t G p0) (e4 : G' 4 = G 4) (e5 : G' 5 = G 5)
    (hT : ∀ k : Nat, k < 6 → zI M' t k = G' k)
    (hW : ∀ w, 0 ≤ w → w < G 4 → WRc M' (t + 5 + w.toNat) G' w)
    (hN : ∀ w, 0 ≤ w → w < G 4 → WRn M' (t + 5 + w.toNat) (G' (6 + 9 * w + 0).toNat))
    (hI : ∀ w, 0 ≤ w → w < G 4 → zI M' (t + 5 + w.toNat) 4 = fInWork G' w)
    (hR : ∀ r, 0 ≤ r → r < G 5 → r ≠ p0 → ((∀ q, q ≤ 1 → zI M' (t + 11 + 2 * r.toNat + q) = zI M (t + 11 + 2 * r.toNat + q)) ∧ ∀ n : Int, 0 ≤ n → n < 16 → G' (132 + 16 * r + n).toNat = G (132 + 16 * r + n).toNat))
    (hR0 : RRc M' (t + 11 + 2 * p0.toNat) G' p0)
    (hP : ∀ a b : Int, 0 ≤ a → a < 6 → 0 ≤ b → b < 6 → zI M' (t + 3) (fPix a b).toNat = G' (96 + 6 * a + b).toNat ∧ zI M' (t + 4) (fPix a b).toNat = G' (60 + 6 * a + b).toNat)
    (hm : ∀ r, 0 ≤ r → r < G 5 → (G (132 + 16 * r + 6).toNat) ≤ 3) : TRx M' t G' p0 := by
  refine ⟨⟨hT, fun w w0 w1 => hW w w0 (by omega), fun r r0 r1 => ?_, hP⟩, fun r r0 r1 r2 => ?_, fun w w0 w1 => hN w w0 (by omega), fun w w0 w1 => hI w w0 (by omega)⟩
  · rw [e5] at r1
    by_cases e : r = p0
    · subst e; exact hR0
    · obtain ⟨z1, z2⟩ := hR r r0 r1 e
      have d := h.1.2.2.1 r r0 r1
      have hm9 := hm r r0 r1
      rw [show zI M' (t + 11 + 2 * r.toNat) = zI M (t + 11 + 2 * r.toNat) from z1 0 (by decide), z1 1 (by decide)]
      rw [z2 0 (by decide) (by decide), z2 1 (by decide) (by decide), z2 2 (by decide) (by decide), z2 3 (by decide) (by decide), z2 4 (by decide) (by decide), z2 6 (by decide) (by decide)]
      refine ⟨d.1, fun k k0 k1 => ?_⟩
      rw [z2 (7 + 3 * k + 0) (by omega) (by omega), z2 (7 + 3 * k + 1) (by omega) (by omega), z2 (7 + 3 * k + 2) (by omega) (by omega)]
      exact d.2 k k0 k1
  · rw [e5] at r1
    obtain ⟨z1, z2⟩ := hR r r0 r1 r2
    have d := h.2.1 r r0 r1 r2
    unfold RFn at d ⊢
    rw [show zI M' (t + 11 + 2 * r.toNat) = zI M (t + 11 + 2 * r.toNat) from z1 0 (by decide), z2 1 (by decide) (by decide), z2 5 (by decide) (by decide), e4]
    exact d
def T_X5_dropWork : ZTf := fun av M K KX => ∃ (t : Nat) (g g2 : Gm) (r on : Int), av = [zo t, zo (t + 11 + 2 * r.toNat), zi on] ∧ (LTab M t) ∧ (TRx M t g r) ∧ (LvP g) ∧ (∀ q, 0 ≤ q → q < g 5 → XL (TK g q)) ∧ (0 ≤ r ∧ r < g 5) ∧ (on = 0 ∨ on = 1) ∧ (DWr on (g 3) g g2 r) ∧  (∀ M' : ZM, (Fr (STb t) M M') → (TRx M' t g2 r) → (zI M' (t + 11 + 2 * r.toNat) 6 = zI M (t + 11 + 2 * r.toNat) 6 ∧ zI M' (t + 11 + 2 * r.toNat) 7 = zI M (t + 11 + 2 * r.toNat) 7) → K (some (zi (((TK g r).countP (pD on (g 3)) : Int)))) M')
set_option maxRecDepth 100000 in
set_option maxHeartbeats 4000000 in
theorem bd_X5_dropWork : zBd (cd_X5_dropWork T_X4_isLateAt T_X4_isInWork T_X4_workerAt T_X5_endWork T_X4_moveTaking) 6 0 0 T_X5_dropWork := by
  rintro av M K KX hA0 hM ⟨t, g, g2, r, on, rfl, hX, hT0, hGl, hxl, hr, hon, hdw, hK⟩
  obtain ⟨hr5, hw5, hRX, hWB⟩ := id hGl
  have hR5 : ∀ q, 0 ≤ q → q < g 5 → RI g q := fun q q0 q1 => (hRX q q0 q1).1
  have hRr := hR5 r hr.1 hr.2
  have hm3 := hRr.2.1
  have hl := TK_RwT hm3.1
  have hl3 := TK_len hRr
  have hW6 := hRr.tk
  have hW4 := (hRX r hr.1 hr.2).2
  have hxr := hxl r hr.1 hr.2
  obtain ⟨T, hTT⟩ : ∃ T, g 3 = T := ⟨_, rfl⟩
  rw [hTT] at hdw hK
  obtain ⟨m, hm⟩ : ∃ m, (g (132 + 16 * r + 6).toNat) = m := ⟨_, rfl⟩
  have hml : m = ((TK g r).length : Int) := by rw [← hm]; exact hl.1
  have hiw : ∀ v, 0 ≤ fInWork g v ∧ fInWork g v ≤ 24 := fun v => by
    have h9 := cntI_r (fun q => fWorksAt g v q) (g 5) hr5.1
    unfold fInWork
    omega
  refine ⟨rfl, fun Φ hΦ => ?_⟩
  have loop : ∀ (l2 o1 : List T3) (kp i : Int) (M90 : ZM), TK g r = o1 ++ l2 → kp = ((o1.filter (fun x => !pD on T x)).length : Int) → i = (o1.length : Int) → DWs M M90 t g r on T o1 → Φ 11 [some (zo t), some (zo (t + 11 + 2 * r.toNat)), some (zi on), some (zi kp), some (zi m), some (zi i)] [] M90 0 0 := by
    intro l2
    induction l2 with
    | nil =>
      intro o1 kp i M90 ht hkp hi hD9
      rw [List.append_nil] at ht
      obtain ⟨f9, fz, fR, fA, fB, fW⟩ := hD9
      have hX90 := hX.fr f9
      have hfl : (o1.filter (fun x => !pD on T x)).length ≤ o1.length := List.length_filter_le _ _
      have him : i = m := by rw [hi, hml, ht]
      refine zGoR hΦ [11] 400 (fun hL9 _ hM _ _ => ?_)
      obtain ⟨qL1, qL2, qL3, qL4, _⟩ : zrg on ∧ zrg kp ∧ zrg m ∧ zrg i ∧ True := hL9
      refine ⟨fun (qc1 : i ≥ m) => ⟨⟨(hX90.row (by omega) (by omega)).2.w, trivial⟩, ⟨(zrgI (x := m - kp) (by omega)), ⟨trivial, (show K (some (zi (m - kp))) (zsI M90 (t + 11 + 2 * r.toNat) 8 kp) from ?g261l1)⟩⟩⟩, fun (qc2 : i < m) => ⟨fun (qc3 : on = 0) => ⟨⟨⟨rfl, rfl⟩, (hX90.row (by omega) (by omega)).2.w.rcv⟩, ⟨rfl, ⟨⟨⟨rfl, rfl⟩, (hX90.row (by omega) (by omega)).2.w.rcv⟩, ⟨rfl, ⟨(hX90.row (by omega) (by omega)).2.w, _, (hX90.row (by omega) (by omega)).2.r9, ⟨(zrgI (x := i * 3) (by omega)), ⟨(zrgI (x := i * 3 + 1) (by omega)), ⟨zixO (hX90.row (by omega) (by omega)).2.a9 (hX90.row (by omega) (by omega)).2.l9 (i := i * 3 + 1) (by omega) (by decide), ⟨trivial, fun (qg4 : zrg (zI M90 (t + 11 + 2 * r.toNat + 1) ((i * 3 + 1).toNat))) _ => ⟨fun (qc5 : zI M90 (t + 11 + 2 * r.toNat + 1) ((i * 3 + 1).toNat) ≠ (-1)) => ⟨(Or.inl rfl), fun _ _ => ⟨fun _ => ⟨⟨⟨rfl, rfl⟩, (hX90.row (by omega) (by omega)).2.w.rcv⟩, ⟨rfl, ⟨⟨⟨rfl, rfl⟩, (hX90.row (by omega) (by omega)).2.w.rcv⟩, ⟨rfl, ⟨(hX90.row (by omega) (by omega)).2.w, _, (hX90.row (by omega) (by omega)).2.r9, ⟨(zrgI (x := i * 3) (by omega)), ⟨(zrgI (x := i * 3 + 0) (by omega)), zIr (Int.add_zero _) (⟨zixO (hX90.row (by omega) (by omega)).2.a9 (hX90.row (by omega) (by omega)).2.l9 (i := i * 3) (by omega) (by decide), ⟨trivial, fun (qg7 : zrg (zI M90 (t + 11 + 2 * r.toNat + 1) ((i * 3).toNat))) _ => ⟨⟨⟨rfl, rfl⟩, (hX90.row (by omega) (by omega)).2.w.rcv⟩, ⟨rfl, ⟨(hX90.row (by omega) (by omega)).2.w, _, (hX90.row (by omega) (by omega)).2.r9, ⟨(zrgI (x := i * 3) (by omega)), ⟨(zrgI (x := i * 3 + 1) (by omega)), ⟨zixO (hX90.row (by omega) (by omega)).2.a9 (hX90.row (by omega) (by omega)).2.l9 (i := i * 3 + 1) (by omega) (by decide), ⟨trivial, fun (qg8 : zrg (zI M90 (t + 11 + 2 * r.toNat + 1) ((i * 3 + 1).toNat))) _ => ⟨⟨⟨rfl, rfl⟩, (hX90.row (by omega) (by omega)).2.w.rcv⟩, ⟨rfl, ⟨(hX90.row (by omega) (by omega)).2.w, _, (hX90.row (by omega) (by omega)).2.r9, ⟨(zrgI (x := i * 3) (by omega)), ⟨(zrgI (x := i * 3 + 2) (by omega)), ⟨zixO (hX90.row (by omega) (by omega)).2.a9 (hX90.row (by omega) (by omega)).2.l9 (i := i * 3 + 2) (by omega) (by decide), ⟨trivial, fun (qg9 : zrg (zI M90 (t + 11 + 2 * r.toNat + 1) ((i * 3 + 2).toNat))) _ => ⟨⟨⟨rfl, rfl⟩, (hX90.row (by omega) (by omega)).2.w.rcv⟩, ⟨rfl, ⟨(hX90.row (by omega) (by omega)).2.w, _, (hX90.row (by omega) (by omega)).2.r9, ⟨(zrgI (x := kp * 3) (by omega)), ⟨(zrgI (x := kp * 3 + 0) (by omega)), zIr (Int.add_zero _) (⟨⟨zixW (hX90.row (by omega) (by omega)).2.a9 (hX90.row (by omega) (by omega)).2.l9 (i := kp * 3) (by omega) (by decide), trivial⟩, ⟨(hX90.row (by omega) (by omega)).2.w, _, (hX90.row (by omega) (by omega)).2.r9, ⟨(zrgI (x := kp * 3) (by omega)), ⟨(zrgI (x := kp * 3 + 1) (by omega)), ⟨⟨zixW (hX90.row (by omega) (by omega)).2.a9 (hX90.row (by omega) (by omega)).2.l9 (i := kp * 3 + 1) (by omega) (by decide), trivial⟩, ⟨(hX90.row (by omega) (by omega)).2.w, _, (hX90.row (by omega) (by omega)).2.r9, ⟨(zrgI (x := kp * 3) (by omega)), ⟨(zrgI (x := kp * 3 + 2) (by omega)), ⟨⟨zixW (hX90.row (by omega) (by omega)).2.a9 (hX90.row (by omega) (by omega)).2.l9 (i := kp * 3 + 2) (by omega) (by decide), trivial⟩, fun _ _ => fun _ _ => ⟨(zrgI (x := kp + 1) (by omega)), ⟨(zrgI (x := i + 1) (by omega)), (show Φ 11 [some (zo t), some (zo (t + 11 + 2 * r.toNat)), some (zi on), some (zi (kp + 1)), some (zi m), some (zi (i + 1))] [] (zsI (zsI (zsI M90 (t + 11 + 2 * r.toNat + 1) (kp * 3).toNat (zI M90 (t + 11 + 2 * r.toNat + 1) ((i * 3).toNat))) (t + 11 + 2 * r.toNat + 1) (kp * 3 + 1).toNat (zI M90 (t + 11 + 2 * r.toNat + 1) ((i * 3 + 1).toNat))) (t + 11 + 2 * r.toNat + 1) (kp * 3 + 2).toNat (zI M90 (t + 11 + 2 * r.toNat + 1) ((i * 3 + 2).toNat))) (0) (0) from ?g261l2)⟩⟩⟩⟩⟩⟩⟩⟩⟩⟩⟩)⟩⟩⟩⟩⟩⟩⟩⟩⟩⟩⟩⟩⟩⟩⟩⟩⟩⟩⟩⟩⟩)⟩⟩⟩⟩⟩⟩⟩, fun (h : (0 : Int) ≠ 0) => absurd h (by decide)⟩⟩, fun (qc12 : zI M90 (t + 11 + 2 * r.toNat + 1) ((i * 3 + 1).toNat) = (-1)) => ⟨(Or.inr rfl), fun _ _ => ⟨fun (h : (1 : Int) = 0) => absurd h (by decide), fun _ => ⟨hX90.w, _, hX90.r6, ⟨⟨⟨rfl, rfl⟩, (hX90.row (by omega) (by omega)).2.w.rcv⟩, ⟨rfl, ⟨(hX90.row (by omega) (by omega)).2.w, _, (hX90.row (by omega) (by omega)).2.r9, ⟨(zrgI (x := i * 3) (by omega)), ⟨(zrgI (x := i * 3 + 0) (by omega)), zIr (Int.add_zero _) (⟨zixO (hX90.row (by omega) (by omega)).2.a9 (hX90.row (by omega) (by omega)).2.l9 (i := i * 3) (by omega) (by decide), ⟨trivial, fun (qg14 : zrg (zI M90 (t + 11 + 2 * r.toNat + 1) ((i * 3).toNat))) _ => ⟨zixW hX90.aTwk hX90.lTwk (i := zI M90 (t + 11 + 2 * r.toNat + 1) ((i * 3).toNat)) (by omega) (by decide), _, (hX90.wk (by omega) (by omega)).1, ⟨⟨⟨rfl, rfl⟩, trivial⟩, ⟨rfl, ⟨rfl, ⟨(hX90.wk (by omega) (by omega)).2, ⟨(zrgI (x := (zI M90 (t + 5 + (zI M90 (t + 11 + 2 * r.toNat + 1) ((i * 3).toNat)).toNat) 4) - 1) (by omega)), ⟨⟨(hX90.wk (by omega) (by omega)).2, trivial⟩, ⟨fun (qc15 : on = 0) => fun _ _ => ⟨(zrgI (x := i + 1) (by omega)), (show Φ 11 [some (zo t), some (zo (t + 11 + 2 * r.toNat)), some (zi on), some (zi kp), some (zi m), some (zi (i + 1))] [] (zsI M90 (t + 5 + (zI M90 (t + 11 + 2 * r.toNat + 1) ((i * 3).toNat)).toNat) 4 ((zI M90 (t + 5 + (zI M90 (t + 11 + 2 * r.toNat + 1) ((i * 3).toNat)).toNat) 4) - 1)) (0) (0) from ?g261l3)⟩, fun (qc17 : on ≠ 0) => ⟨rfl, ⟨(hX90.wk (by omega) (by omega)).2, zIr ((zIm _ _ _ (by omega))) (⟨(zrgI (x := zI M90 (t + 5 + (zI M90 (t + 11 + 2 * r.toNat + 1) ((i * 3).toNat)).toNat) 8 + 1) (by omega)), ⟨⟨(hX90.wk (by omega) (by omega)).2, trivial⟩, ⟨⟨⟨rfl, rfl⟩, (hX90.wk (by omega) (by omega)).2.rcv⟩, ⟨rfl, ⟨(hX90.wk (by omega) (by omega)).2, zIr ((zIm _ _ _ (by omega)).trans ((zIm _ _ _ (by omega)))) (⟨(zrgI (x := zI M90 (t + 5 + (zI M90 (t + 11 + 2 * r.toNat + 1) ((i * 3).toNat)).toNat) 3 + (-1)) (by omega)), ⟨⟨⟨rfl, rfl⟩, trivial⟩, ⟨rfl, ⟨rfl, ⟨rfl, ⟨trivial, fun (qg18 : zrg (zmax 0 (zmin 20 (zI M90 (t + 5 + (zI M90 (t + 11 + 2 * r.toNat + 1) ((i * 3).toNat)).toNat) 3 + (-1))))) _ => ⟨⟨(hX90.wk (by omega) (by omega)).2, trivial⟩, fun _ _ => fun _ _ => ⟨(zrgI (x := i + 1) (by omega)), (show Φ 11 [some (zo t), some (zo (t + 11 + 2 * r.toNat)), some (zi on), some (zi kp), some (zi m), some (zi (i + 1))] [] (zsI (zsI (zsI M90 (t + 5 + (zI M90 (t + 11 + 2 * r.toNat + 1) ((i * 3).toNat)).toNat) 4 ((zI M90 (t + 5 + (zI M90 (t + 11 + 2 * r.toNat + 1) ((i * 3).toNat)).toNat) 4) - 1)) (t + 5 + (zI M90 (t + 11 + 2 * r.toNat + 1) ((i * 3).toNat)).toNat) 8 (zI M90 (t + 5 + (zI M90 (t + 11 + 2 * r.toNat + 1) ((i * 3).toNat)).toNat) 8 + 1)) (t + 5 + (zI M90 (t + 11 + 2 * r.toNat + 1) ((i * 3).toNat)).toNat) 3 (zmax 0 (zmin 20 (zI M90 (t + 5 + (zI M90 (t + 11 + 2 * r.toNat + 1) ((i * 3).toNat)).toNat) 3 + (-1))))) (0) (0) from ?g261l4)⟩⟩⟩⟩⟩⟩⟩⟩)⟩⟩⟩⟩⟩)⟩⟩⟩⟩⟩⟩⟩⟩⟩⟩⟩⟩)⟩⟩⟩⟩⟩⟩⟩⟩⟩⟩⟩⟩⟩⟩⟩⟩⟩⟩, fun (qc21 : on ≠ 0) => ⟨hX90.w, ⟨⟨⟨rfl, rfl⟩, (hX90.row (by omega) (by omega)).2.w.rcv⟩, ⟨rfl, ⟨⟨⟨rfl, rfl⟩, (hX90.row (by omega) (by omega)).2.w.rcv⟩, ⟨rfl, ⟨⟨⟨rfl, rfl⟩, (hX90.row (by omega) (by omega)).2.w.rcv⟩, ⟨rfl, ⟨(hX90.row (by omega) (by omega)).2.w, _, (hX90.row (by omega) (by omega)).2.r9, ⟨(zrgI (x := i * 3) (by omega)), ⟨(zrgI (x := i * 3 + 1) (by omega)), ⟨zixO (hX90.row (by omega) (by omega)).2.a9 (hX90.row (by omega) (by omega)).2.l9 (i := i * 3 + 1) (by omega) (by decide), ⟨trivial, fun (qg22 : zrg (zI M90 (t + 11 + 2 * r.toNat + 1) ((i * 3 + 1).toNat))) _ => ⟨fun (qc23 : zI M90 (t + 11 + 2 * r.toNat + 1) ((i * 3 + 1).toNat) ≠ (-1)) => ⟨(Or.inl rfl), fun _ _ => ⟨fun _ => ⟨(Or.inl rfl), fun _ _ => ⟨fun _ => ⟨⟨⟨rfl, rfl⟩, (hX90.row (by omega) (by omega)).2.w.rcv⟩, ⟨rfl, ⟨⟨⟨rfl, rfl⟩, (hX90.row (by omega) (by omega)).2.w.rcv⟩, ⟨rfl, ⟨(hX90.row (by omega) (by omega)).2.w, _, (hX90.row (by omega) (by omega)).2.r9, ⟨(zrgI (x := i * 3) (by omega)), ⟨(zrgI (x := i * 3 + 0) (by omega)), zIr (Int.add_zero _) (⟨zixO (hX90.row (by omega) (by omega)).2.a9 (hX90.row (by omega) (by omega)).2.l9 (i := i * 3) (by omega) (by decide), ⟨trivial, fun (qg26 : zrg (zI M90 (t + 11 + 2 * r.toNat + 1) ((i * 3).toNat))) _ => ⟨⟨⟨rfl, rfl⟩, (hX90.row (by omega) (by omega)).2.w.rcv⟩, ⟨rfl, ⟨(hX90.row (by omega) (by omega)).2.w, _, (hX90.row (by omega) (by omega)).2.r9, ⟨(zrgI (x := i * 3) (by omega)), ⟨(zrgI (x := i * 3 + 1) (by omega)), ⟨zixO (hX90.row (by omega) (by omega)).2.a9 (hX90.row (by omega) (by omega)).2.l9 (i := i * 3 + 1) (by omega) (by decide), ⟨trivial, fun (qg27 : zrg (zI M90 (t + 11 + 2 * r.toNat + 1) ((i * 3 + 1).toNat))) _ => ⟨⟨⟨rfl, rfl⟩, (hX90.row (by omega) (by omega)).2.w.rcv⟩, ⟨rfl, ⟨(hX90.row (by omega) (by omega)).2.w, _, (hX90.row (by omega) (by omega)).2.r9, ⟨(zrgI (x := i * 3) (by omega)), ⟨(zrgI (x := i * 3 + 2) (by omega)), ⟨zixO (hX90.row (by omega) (by omega)).2.a9 (hX90.row (by omega) (by omega)).2.l9 (i := i * 3 + 2) (by omega) (by decide), ⟨trivial, fun (qg28 : zrg (zI M90 (t + 11 + 2 * r.toNat + 1) ((i * 3 + 2).toNat))) _ => ⟨⟨⟨rfl, rfl⟩, (hX90.row (by omega) (by omega)).2.w.rcv⟩, ⟨rfl, ⟨(hX90.row (by omega) (by omega)).2.w, _, (hX90.row (by omega) (by omega)).2.r9, ⟨(zrgI (x := kp * 3) (by omega)), ⟨(zrgI (x := kp * 3 + 0) (by omega)), zIr (Int.add_zero _) (⟨⟨zixW (hX90.row (by omega) (by omega)).2.a9 (hX90.row (by omega) (by omega)).2.l9 (i := kp * 3) (by omega) (by decide), trivial⟩, ⟨(hX90.row (by omega) (by omega)).2.w, _, (hX90.row (by omega) (by omega)).2.r9, ⟨(zrgI (x := kp * 3) (by omega)), ⟨(zrgI (x := kp * 3 + 1) (by omega)), ⟨⟨zixW (hX90.row (by omega) (by omega)).2.a9 (hX90.row (by omega) (by omega)).2.l9 (i := kp * 3 + 1) (by omega) (by decide), trivial⟩, ⟨(hX90.row (by omega) (by omega)).2.w, _, (hX90.row (by omega) (by omega)).2.r9, ⟨(zrgI (x := kp * 3) (by omega)), ⟨(zrgI (x := kp * 3 + 2) (by omega)), ⟨⟨zixW (hX90.row (by omega) (by omega)).2.a9 (hX90.row (by omega) (by omega)).2.l9 (i := kp * 3 + 2) (by omega) (by decide), trivial⟩, fun _ _ => fun _ _ => ⟨(zrgI (x := kp + 1) (by omega)), ⟨(zrgI (x := i + 1) (by omega)), (show Φ 11 [some (zo t), some (zo (t + 11 + 2 * r.toNat)), some (zi on), some (zi (kp + 1)), some (zi m), some (zi (i + 1))] [] (zsI (zsI (zsI M90 (t + 11 + 2 * r.toNat + 1) (kp * 3).toNat (zI M90 (t + 11 + 2 * r.toNat + 1) ((i * 3).toNat))) (t + 11 + 2 * r.toNat + 1) (kp * 3 + 1).toNat (zI M90 (t + 11 + 2 * r.toNat + 1) ((i * 3 + 1).toNat))) (t + 11 + 2 * r.toNat + 1) (kp * 3 + 2).toNat (zI M90 (t + 11 + 2 * r.toNat + 1) ((i * 3 + 2).toNat))) (0) (0) from ?g261l5)⟩⟩⟩⟩⟩⟩⟩⟩⟩⟩⟩)⟩⟩⟩⟩⟩⟩⟩⟩⟩⟩⟩⟩⟩⟩⟩⟩⟩⟩⟩⟩⟩)⟩⟩⟩⟩⟩⟩⟩, fun (h : (0 : Int) ≠ 0) => absurd h (by decide)⟩⟩, fun (h : (0 : Int) ≠ 0) => absurd h (by decide)⟩⟩, fun (qc31 : zI M90 (t + 11 + 2 * r.toNat + 1) ((i * 3 + 1).toNat) = (-1)) => ⟨(Or.inr rfl), fun _ _ => ⟨fun (h : (1 : Int) = 0) => absurd h (by decide), fun _ => ⟨⟨⟨rfl, rfl⟩, (hX90.row (by omega) (by omega)).2.w.rcv⟩, ⟨rfl, ⟨(hX90.row (by omega) (by omega)).2.w, _, (hX90.row (by omega) (by omega)).2.r9, ⟨(zrgI (x := i * 3) (by omega)), ⟨(zrgI (x := i * 3 + 2) (by omega)), ⟨zixO (hX90.row (by omega) (by omega)).2.a9 (hX90.row (by omega) (by omega)).2.l9 (i := i * 3 + 2) (by omega) (by decide), ⟨trivial, fun (qg33 : zrg (zI M90 (t + 11 + 2 * r.toNat + 1) ((i * 3 + 2).toNat))) _ => ⟨fun (qc34 : zI M90 (t + 11 + 2 * r.toNat + 1) ((i * 3 + 2).toNat) ≥ zI M90 t 3) => ⟨(Or.inl rfl), fun _ _ => ⟨fun _ => ⟨⟨⟨rfl, rfl⟩, (hX90.row (by omega) (by omega)).2.w.rcv⟩, ⟨rfl, ⟨⟨⟨rfl, rfl⟩, (hX90.row (by omega) (by omega)).2.w.rcv⟩, ⟨rfl, ⟨(hX90.row (by omega) (by omega)).2.w, _, (hX90.row (by omega) (by omega)).2.r9, ⟨(zrgI (x := i * 3) (by omega)), ⟨(zrgI (x := i * 3 + 0) (by omega)), zIr (Int.add_zero _) (⟨zixO (hX90.row (by omega) (by omega)).2.a9 (hX90.row (by omega) (by omega)).2.l9 (i := i * 3) (by omega) (by decide), ⟨trivial, fun (qg36 : zrg (zI M90 (t + 11 + 2 * r.toNat + 1) ((i * 3).toNat))) _ => ⟨⟨⟨rfl, rfl⟩, (hX90.row (by omega) (by omega)).2.w.rcv⟩, ⟨rfl, ⟨(hX90.row (by omega) (by omega)).2.w, _, (hX90.row (by omega) (by omega)).2.r9, ⟨(zrgI (x := i * 3) (by omega)), ⟨(zrgI (x := i * 3 + 1) (by omega)), ⟨zixO (hX90.row (by omega) (by omega)).2.a9 (hX90.row (by omega) (by omega)).2.l9 (i := i * 3 + 1) (by omega) (by decide), ⟨trivial, fun (qg37 : zrg (zI M90 (t + 11 + 2 * r.toNat + 1) ((i * 3 + 1).toNat))) _ => ⟨⟨⟨rfl, rfl⟩, (hX90.row (by omega) (by omega)).2.w.rcv⟩, ⟨rfl, ⟨(hX90.row (by omega) (by omega)).2.w, _, (hX90.row (by omega) (by omega)).2.r9, ⟨(zrgI (x := i * 3) (by omega)), ⟨(zrgI (x := i * 3 + 2) (by omega)), ⟨zixO (hX90.row (by omega) (by omega)).2.a9 (hX90.row (by omega) (by omega)).2.l9 (i := i * 3 + 2) (by omega) (by decide), ⟨trivial, fun (qg38 : zrg (zI M90 (t + 11 + 2 * r.toNat + 1) ((i * 3 + 2).toNat))) _ => ⟨⟨⟨rfl, rfl⟩, (hX90.row (by omega) (by omega)).2.w.rcv⟩, ⟨rfl, ⟨(hX90.row (by omega) (by omega)).2.w, _, (hX90.row (by omega) (by omega)).2.r9, ⟨(zrgI (x := kp * 3) (by omega)), ⟨(zrgI (x := kp * 3 + 0) (by omega)), zIr (Int.add_zero _) (⟨⟨zixW (hX90.row (by omega) (by omega)).2.a9 (hX90.row (by omega) (by omega)).2.l9 (i := kp * 3) (by omega) (by decide), trivial⟩, ⟨(hX90.row (by omega) (by omega)).2.w, _, (hX90.row (by omega) (by omega)).2.r9, ⟨(zrgI (x := kp * 3) (by omega)), ⟨(zrgI (x := kp * 3 + 1) (by omega)), ⟨⟨zixW (hX90.row (by omega) (by omega)).2.a9 (hX90.row (by omega) (by omega)).2.l9 (i := kp * 3 + 1) (by omega) (by decide), trivial⟩, ⟨(hX90.row (by omega) (by omega)).2.w, _, (hX90.row (by omega) (by omega)).2.r9, ⟨(zrgI (x := kp * 3) (by omega)), ⟨(zrgI (x := kp * 3 + 2) (by omega)), ⟨⟨zixW (hX90.row (by omega) (by omega)).2.a9 (hX90.row (by omega) (by omega)).2.l9 (i := kp * 3 + 2) (by omega) (by decide), trivial⟩, fun _ _ => fun _ _ => ⟨(zrgI (x := kp + 1) (by omega)), ⟨(zrgI (x := i + 1) (by omega)), (show Φ 11 [some (zo t), some (zo (t + 11 + 2 * r.toNat)), some (zi on), some (zi (kp + 1)), some (zi m), some (zi (i + 1))] [] (zsI (zsI (zsI M90 (t + 11 + 2 * r.toNat + 1) (kp * 3).toNat (zI M90 (t + 11 + 2 * r.toNat + 1) ((i * 3).toNat))) (t + 11 + 2 * r.toNat + 1) (kp * 3 + 1).toNat (zI M90 (t + 11 + 2 * r.toNat + 1) ((i * 3 + 1).toNat))) (t + 11 + 2 * r.toNat + 1) (kp * 3 + 2).toNat (zI M90 (t + 11 + 2 * r.toNat + 1) ((i * 3 + 2).toNat))) (0) (0) from ?g261l6)⟩⟩⟩⟩⟩⟩⟩⟩⟩⟩⟩)⟩⟩⟩⟩⟩⟩⟩⟩⟩⟩⟩⟩⟩⟩⟩⟩⟩⟩⟩⟩⟩)⟩⟩⟩⟩⟩⟩⟩, fun (h : (0 : Int) ≠ 0) => absurd h (by decide)⟩⟩, fun (qc41 : zI M90 (t + 11 + 2 * r.toNat + 1) ((i * 3 + 2).toNat) < zI M90 t 3) => ⟨(Or.inr rfl), fun _ _ => ⟨fun (h : (1 : Int) = 0) => absurd h (by decide), fun _ => ⟨hX90.w, _, hX90.r6, ⟨⟨⟨rfl, rfl⟩, (hX90.row (by omega) (by omega)).2.w.rcv⟩, ⟨rfl, ⟨(hX90.row (by omega) (by omega)).2.w, _, (hX90.row (by omega) (by omega)).2.r9, ⟨(zrgI (x := i * 3) (by omega)), ⟨(zrgI (x := i * 3 + 0) (by omega)), zIr (Int.add_zero _) (⟨zixO (hX90.row (by omega) (by omega)).2.a9 (hX90.row (by omega) (by omega)).2.l9 (i := i * 3) (by omega) (by decide), ⟨trivial, fun (qg43 : zrg (zI M90 (t + 11 + 2 * r.toNat + 1) ((i * 3).toNat))) _ => ⟨zixW hX90.aTwk hX90.lTwk (i := zI M90 (t + 11 + 2 * r.toNat + 1) ((i * 3).toNat)) (by omega) (by decide), _, (hX90.wk (by omega) (by omega)).1, ⟨⟨⟨rfl, rfl⟩, trivial⟩, ⟨rfl, ⟨rfl, ⟨(hX90.wk (by omega) (by omega)).2, ⟨(zrgI (x := (zI M90 (t + 5 + (zI M90 (t + 11 + 2 * r.toNat + 1) ((i * 3).toNat)).toNat) 4) - 1) (by omega)), ⟨⟨(hX90.wk (by omega) (by omega)).2, trivial⟩, ⟨fun (qc44 : on = 0) => fun _ _ => ⟨(zrgI (x := i + 1) (by omega)), (show Φ 11 [some (zo t), some (zo (t + 11 + 2 * r.toNat)), some (zi on), some (zi kp), some (zi m), some (zi (i + 1))] [] (zsI M90 (t + 5 + (zI M90 (t + 11 + 2 * r.toNat + 1) ((i * 3).toNat)).toNat) 4 ((zI M90 (t + 5 + (zI M90 (t + 11 + 2 * r.toNat + 1) ((i * 3).toNat)).toNat) 4) - 1)) (0) (0) from ?g261l7)⟩, fun (qc46 : on ≠ 0) => ⟨rfl, ⟨(hX90.wk (by omega) (by omega)).2, zIr ((zIm _ _ _ (by omega))) (⟨(zrgI (x := zI M90 (t + 5 + (zI M90 (t + 11 + 2 * r.toNat + 1) ((i * 3).toNat)).toNat) 8 + 1) (by omega)), ⟨⟨(hX90.wk (by omega) (by omega)).2, trivial⟩, ⟨⟨⟨rfl, rfl⟩, (hX90.wk (by omega) (by omega)).2.rcv⟩, ⟨rfl, ⟨(hX90.wk (by omega) (by omega)).2, zIr ((zIm _ _ _ (by omega)).trans ((zIm _ _ _ (by omega)))) (⟨(zrgI (x := zI M90 (t + 5 + (zI M90 (t + 11 + 2 * r.toNat + 1) ((i * 3).toNat)).toNat) 3 + (-1)) (by omega)), ⟨⟨⟨rfl, rfl⟩, trivial⟩, ⟨rfl, ⟨rfl, ⟨rfl, ⟨trivial, fun (qg47 : zrg (zmax 0 (zmin 20 (zI M90 (t + 5 + (zI M90 (t + 11 + 2 * r.toNat + 1) ((i * 3).toNat)).toNat) 3 + (-1))))) _ => ⟨⟨(hX90.wk (by omega) (by omega)).2, trivial⟩, fun _ _ => fun _ _ => ⟨(zrgI (x := i + 1) (by omega)), (show Φ 11 [some (zo t), some (zo (t + 11 + 2 * r.toNat)), some (zi on), some (zi kp), some (zi m), some (zi (i + 1))] [] (zsI (zsI (zsI M90 (t + 5 + (zI M90 (t + 11 + 2 * r.toNat + 1) ((i * 3).toNat)).toNat) 4 ((zI M90 (t + 5 + (zI M90 (t + 11 + 2 * r.toNat + 1) ((i * 3).toNat)).toNat) 4) - 1)) (t + 5 + (zI M90 (t + 11 + 2 * r.toNat + 1) ((i * 3).toNat)).toNat) 8 (zI M90 (t + 5 + (zI M90 (t + 11 + 2 * r.toNat + 1) ((i * 3).toNat)).toNat) 8 + 1)) (t + 5 + (zI M90 (t + 11 + 2 * r.toNat + 1) ((i * 3).toNat)).toNat) 3 (zmax 0 (zmin 20 (zI M90 (t + 5 + (zI M90 (t + 11 + 2 * r.toNat + 1) ((i * 3).toNat)).toNat) 3 + (-1))))) (0) (0) from ?g261l8)⟩⟩⟩⟩⟩⟩⟩⟩)⟩⟩⟩⟩⟩)⟩⟩⟩⟩⟩⟩⟩⟩⟩⟩⟩⟩)⟩⟩⟩⟩⟩⟩⟩⟩⟩⟩⟩⟩⟩⟩⟩⟩⟩⟩⟩⟩⟩⟩⟩⟩⟩⟩⟩⟩⟩⟩⟩⟩⟩
      case g261l1 =>
        have fr : Fr (STb t) M90 (zsI M90 (t + 11 + 2 * r.toNat) 8 kp) := (Fr_I (hX90.row (i := r) (by omega) (by omega)).2.w (by decide) (by decide) (by unfold STb; omega))
        have hz2 : zR (zsI M90 (t + 11 + 2 * r.toNat) 8 kp) = zR M := fR
        obtain ⟨dw1, dw2, dw3⟩ := hdw
        have e5 : g2 5 = g 5 := dw3 5 (fun v v0 v1 => by omega) (by omega)
        have e4 : g2 4 = g 4 := dw3 4 (fun v v0 v1 => by omega) (by omega)
        have hfx : XL ((TK g r).filter (fun x => !pD on T x)) := hxr.sublist List.filter_sublist
        have hiwg : ∀ v, fInWork g2 v = fInWork g v - dW on T v (TK g r) := fun v => by
          rw [fInWork_rowL hGl hxl hr e5 (fun q q0 q1 q2 j j0 j1 => dw3 j (fun v v0 v1 => by omega) (by omega)) dw1 hfx]
          have h9 := dW_works (on := on) (T := T) (v := v) hxr
          omega
        have hcnt : m - kp = ((TK g r).countP (pD on T) : Int) := by
          rw [hml, hkp, ht]
          have h9 := List.length_eq_countP_add_countP (pD on T) (l := o1)
          have h8 : o1.countP (fun a => decide (¬ pD on T a = true)) = (o1.filter (fun x => !pD on T x)).length := by
            rw [← List.countP_eq_length_filter]
            exact List.countP_congr (fun y _ => by rw [decide_eq_true_eq, Bool.not_eq_true', Bool.not_eq_true])
          omega
        rw [hcnt]
        refine hK _ (f9.tr fr) (TRx.stepD hT0 e4 e5 (fun k hk => ?_) (fun v v0 v1 => ?_) (fun v v0 v1 => ?_) (fun v v0 v1 => ?_) (fun q q0 q1 q2 => ?_) ?_ (fun a b a0 a1 b0 b1 => ?_) (fun q q0 q1 => (hR5 q q0 q1).2.1.2)) ?_
        · rw [zI_In _ _ _ (by omega), fz t (by omega) (fun v v0 v1 => by omega), dw3 k (fun v v0 v1 => by omega) (by omega)]
          exact hT0.1.1 k hk
        · obtain ⟨c1, c2, c3, c4⟩ := fW v v0 v1
          have d9 := hT0.1.2.1 v v0 v1
          rw [← ht] at c2 c3
          unfold WRc
          rw [zI_In _ _ _ (by omega), c2, c3, c4 1 (by decide) (by decide) (by decide), c4 2 (by decide) (by decide) (by decide), c4 5 (by decide) (by decide) (by decide), c4 6 (by decide) (by decide) (by decide), c4 7 (by decide) (by decide) (by decide), c4 9 (by decide) (by decide) (by decide)]
          have n : ∀ f : Int, 0 ≤ f → f < 9 → f ≠ 3 → f ≠ 7 → g2 (6 + 9 * v + f).toNat = g (6 + 9 * v + f).toNat := fun f f0 f1 f3 f7 => dw3 _ (fun u u0 u1 => by omega) (by omega)
          rw [(dw2 v v0 v1).1, (dw2 v v0 v1).2, n 1 (by decide) (by decide) (by decide) (by decide), n 2 (by decide) (by decide) (by decide) (by decide), n 4 (by decide) (by decide) (by decide) (by decide), n 5 (by decide) (by decide) (by decide) (by decide), n 6 (by decide) (by decide) (by decide) (by decide), n 8 (by decide) (by decide) (by decide) (by decide)]
          exact ⟨d9.1, d9.2.1, rfl, d9.2.2.2.1, d9.2.2.2.2.1, d9.2.2.2.2.2.1, rfl, d9.2.2.2.2.2.2.2⟩
        · obtain ⟨s9, l9, z1, z2, z3, z4⟩ := hT0.2.2.1 v v0 v1
          exact ⟨s9, l9, by rw [hz2]; exact z1, (f9.tr fr).2.2 _ _ z2, z3, by rw [dw3 _ (fun u u0 u1 => by omega) (by omega)]; exact z4⟩
        · rw [zI_In _ _ _ (by omega), (fW v v0 v1).1, hiwg, ← ht]
        · refine ⟨fun p hp => ?_, fun n n0 n1 => dw3 _ (fun u u0 u1 => by omega) (by omega)⟩
          rw [zI_In _ _ _ (by omega), fz _ (by omega) (fun v v0 v1 => by omega)]
        · have d9 := hT0.1.2.2.1 r hr.1 hr.2
          have n : ∀ f : Int, 0 ≤ f → f < 6 → g2 (132 + 16 * r + f).toNat = g (132 + 16 * r + f).toNat := fun f f0 f1 => dw3 _ (fun u u0 u1 => by omega) (by omega)
          have ez := fz (t + 11 + 2 * r.toNat) (by omega) (fun v v0 v1 => by omega)
          refine RRc.mk (l := (TK g r).filter (fun x => !pD on T x)) ?_ ?_ ?_ ?_ ?_ ?_ ⟨?_, fun j y hj => ?_⟩ dw1
          · rw [zI_Im _ _ _ (by decide), ez, n 0 (by decide) (by decide)]; exact d9.1.1
          · rw [zI_Im _ _ _ (by decide), ez, n 1 (by decide) (by decide)]; exact d9.1.2.1
          · rw [zI_Im _ _ _ (by decide), ez, n 2 (by decide) (by decide)]; exact d9.1.2.2.1
          · rw [zI_Im _ _ _ (by decide), ez, n 3 (by decide) (by decide)]; exact d9.1.2.2.2.1
          · rw [zI_Im _ _ _ (by decide), ez, n 3 (by decide) (by decide)]; exact d9.1.2.2.2.2.1
          · rw [zI_Im _ _ _ (by decide), ez, n 4 (by decide) (by decide)]; exact d9.1.2.2.2.2.2.1
          · rw [zI_Is, ht]; exact hkp
          · rw [ht] at hj
            rw [zI_In _ _ _ (by omega)]
            exact fA j y hj
        · rw [zI_In _ _ _ (by omega), zI_In _ _ _ (by omega), fz _ (by omega) (fun v v0 v1 => by omega), fz _ (by omega) (fun v v0 v1 => by omega), dw3 _ (fun u u0 u1 => by omega) (by omega), dw3 _ (fun u u0 u1 => by omega) (by omega)]
          exact hT0.1.2.2.2 a b a0 a1 b0 b1
        · rw [zI_Im _ _ _ (by decide), zI_Im _ _ _ (by decide), fz _ (by omega) (fun v v0 v1 => by omega)]
          exact ⟨rfl, rfl⟩
      case g261l2 => exfalso; omega
      case g261l3 => exfalso; omega
      case g261l4 => exfalso; omega
      case g261l5 => exfalso; omega
      case g261l6 => exfalso; omega
      case g261l7 => exfalso; omega
      case g261l8 => exfalso; omega
    | cons x l2 ih =>
      intro o1 kp i M90 ht hkp hi hD9
      obtain ⟨f9, fz, fR, fA, fB, fW⟩ := id hD9
      have hX90 := hX.fr f9
      have hfl : (o1.filter (fun x => !pD on T x)).length ≤ o1.length := List.length_filter_le _ _
      have hlen : m = (o1.length : Int) + 1 + (l2.length : Int) := by rw [hml, ht, List.length_append, List.length_cons]; omega
      have hxi : (TK g r)[i.toNat]? = some x := by
        rw [ht, hi, Int.toNat_natCast, List.getElem?_append_right (Nat.le_refl _), Nat.sub_self]
        rfl
      have hxm : x ∈ TK g r := List.mem_of_getElem? hxi
      obtain ⟨b1, b2, b3⟩ := fB i.toNat x (by omega) hxi
      rw [show i.toNat * 3 = (i * 3).toNat by omega] at b1
      rw [show i.toNat * 3 + 1 = (i * 3 + 1).toNat by omega] at b2
      rw [show i.toNat * 3 + 2 = (i * 3 + 2).toNat by omega] at b3
      obtain ⟨w, hw⟩ : ∃ z, x.1 = z := ⟨_, rfl⟩
      obtain ⟨s, hs⟩ : ∃ z, x.2.1 = z := ⟨_, rfl⟩
      obtain ⟨d, hd⟩ : ∃ z, x.2.2 = z := ⟨_, rfl⟩
      rw [hw] at b1
      rw [hs] at b2
      rw [hd] at b3
      have hw6 : 0 ≤ w ∧ w < 6 := by have := hW6 x hxm; rw [hw] at this; exact this
      have hw4 : w < g 4 := by have := hW4 x hxm; rw [hw] at this; exact this
      have hwb := hWB w hw6.1 hw4
      obtain ⟨a1, a2, a3, a4⟩ := fW w hw6.1 hw4
      have hno : dW on T w o1 = 0 := dW_no (fun y hy z => by
        have hp := List.pairwise_append.mp (show XL (o1 ++ x :: l2) by rw [← ht]; exact hxr)
        exact hp.2.2 y hy x List.mem_cons_self (z.trans hw.symm))
      have hiw9 := hiw w
      rw [hno] at a1 a2 a3
      have hT3 : zI M90 t 3 = T := by
        rw [fz t (by omega) (fun v v0 v1 => by omega)]
        exact hT0.t3.trans hTT
      obtain ⟨tr, htr⟩ : ∃ z, (g (6 + 9 * w + 3).toNat) = z := ⟨_, rfl⟩
      obtain ⟨lt, hlt⟩ : ∃ z, (g (6 + 9 * w + 7).toNat) = z := ⟨_, rfl⟩
      rw [htr] at hwb a2
      rw [hlt] at hwb a3
      have a2' : zI M90 (t + 5 + w.toNat) 3 = tr := by
        rw [a2]
        split
        · rfl
        · unfold zmax; split <;> omega
      have a3' : zI M90 (t + 5 + w.toNat) 8 = lt := by
        rw [a3]
        split
        · rfl
        · omega
      have a1' : zI M90 (t + 5 + w.toNat) 4 = fInWork g w := by rw [a1]; omega
      refine zGoR hΦ [11] 400 (fun hL9 _ hM _ _ => ?_)
      obtain ⟨qL1, qL2, qL3, qL4, _⟩ : zrg on ∧ zrg kp ∧ zrg m ∧ zrg i ∧ True := hL9
      refine ⟨fun (qc1 : i ≥ m) => ⟨⟨(hX90.row (by omega) (by omega)).2.w, trivial⟩, ⟨(zrgI (x := m - kp) (by omega)), ⟨trivial, (show K (some (zi (m - kp))) (zsI M90 (t + 11 + 2 * r.toNat) 8 kp) from ?g262l1)⟩⟩⟩, fun (qc2 : i < m) => ⟨fun (qc3 : on = 0) => ⟨⟨⟨rfl, rfl⟩, (hX90.row (by omega) (by omega)).2.w.rcv⟩, ⟨rfl, ⟨⟨⟨rfl, rfl⟩, (hX90.row (by omega) (by omega)).2.w.rcv⟩, ⟨rfl, ⟨(hX90.row (by omega) (by omega)).2.w, _, (hX90.row (by omega) (by omega)).2.r9, ⟨(zrgI (x := i * 3) (by omega)), ⟨(zrgI (x := i * 3 + 1) (by omega)), ⟨zixO (hX90.row (by omega) (by omega)).2.a9 (hX90.row (by omega) (by omega)).2.l9 (i := i * 3 + 1) (by omega) (by decide), zIr (b2) (⟨trivial, fun (qg4 : zrg (s)) _ => ⟨fun (qc5 : s ≠ (-1)) => ⟨(Or.inl rfl), fun _ _ => ⟨fun _ => ⟨⟨⟨rfl, rfl⟩, (hX90.row (by omega) (by omega)).2.w.rcv⟩, ⟨rfl, ⟨⟨⟨rfl, rfl⟩, (hX90.row (by omega) (by omega)).2.w.rcv⟩, ⟨rfl, ⟨(hX90.row (by omega) (by omega)).2.w, _, (hX90.row (by omega) (by omega)).2.r9, ⟨(zrgI (x := i * 3) (by omega)), ⟨(zrgI (x := i * 3 + 0) (by omega)), zIr (Int.add_zero _) (⟨zixO (hX90.row (by omega) (by omega)).2.a9 (hX90.row (by omega) (by omega)).2.l9 (i := i * 3) (by omega) (by decide), zIr (b1) (⟨trivial, fun (qg7 : zrg (w)) _ => ⟨⟨⟨rfl, rfl⟩, (hX90.row (by omega) (by omega)).2.w.rcv⟩, ⟨rfl, ⟨(hX90.row (by omega) (by omega)).2.w, _, (hX90.row (by omega) (by omega)).2.r9, ⟨(zrgI (x := i * 3) (by omega)), ⟨(zrgI (x := i * 3 + 1) (by omega)), ⟨zixO (hX90.row (by omega) (by omega)).2.a9 (hX90.row (by omega) (by omega)).2.l9 (i := i * 3 + 1) (by omega) (by decide), zIr (b2) (⟨trivial, fun (qg8 : zrg (s)) _ => ⟨⟨⟨rfl, rfl⟩, (hX90.row (by omega) (by omega)).2.w.rcv⟩, ⟨rfl, ⟨(hX90.row (by omega) (by omega)).2.w, _, (hX90.row (by omega) (by omega)).2.r9, ⟨(zrgI (x := i * 3) (by omega)), ⟨(zrgI (x := i * 3 + 2) (by omega)), ⟨zixO (hX90.row (by omega) (by omega)).2.a9 (hX90.row (by omega) (by omega)).2.l9 (i := i * 3 + 2) (by omega) (by decide), zIr (b3) (⟨trivial, fun (qg9 : zrg (d)) _ => ⟨⟨⟨rfl, rfl⟩, (hX90.row (by omega) (by omega)).2.w.rcv⟩, ⟨rfl, ⟨(hX90.row (by omega) (by omega)).2.w, _, (hX90.row (by omega) (by omega)).2.r9, ⟨(zrgI (x := kp * 3) (by omega)), ⟨(zrgI (x := kp * 3 + 0) (by omega)), zIr (Int.add_zero _) (⟨⟨zixW (hX90.row (by omega) (by omega)).2.a9 (hX90.row (by omega) (by omega)).2.l9 (i := kp * 3) (by omega) (by decide), trivial⟩, ⟨(hX90.row (by omega) (by omega)).2.w, _, (hX90.row (by omega) (by omega)).2.r9, ⟨(zrgI (x := kp * 3) (by omega)), ⟨(zrgI (x := kp * 3 + 1) (by omega)), ⟨⟨zixW (hX90.row (by omega) (by omega)).2.a9 (hX90.row (by omega) (by omega)).2.l9 (i := kp * 3 + 1) (by omega) (by decide), trivial⟩, ⟨(hX90.row (by omega) (by omega)).2.w, _, (hX90.row (by omega) (by omega)).2.r9, ⟨(zrgI (x := kp * 3) (by omega)), ⟨(zrgI (x := kp * 3 + 2) (by omega)), ⟨⟨zixW (hX90.row (by omega) (by omega)).2.a9 (hX90.row (by omega) (by omega)).2.l9 (i := kp * 3 + 2) (by omega) (by decide), trivial⟩, fun _ _ => fun _ _ => ⟨(zrgI (x := kp + 1) (by omega)), ⟨(zrgI (x := i + 1) (by omega)), (show Φ 11 [some (zo t), some (zo (t + 11 + 2 * r.toNat)), some (zi on), some (zi (kp + 1)), some (zi m), some (zi (i + 1))] [] (zsI (zsI (zsI M90 (t + 11 + 2 * r.toNat + 1) (kp * 3).toNat w) (t + 11 + 2 * r.toNat + 1) (kp * 3 + 1).toNat s) (t + 11 + 2 * r.toNat + 1) (kp * 3 + 2).toNat d) (0) (0) from ?g262l2)⟩⟩⟩⟩⟩⟩⟩⟩⟩⟩⟩)⟩⟩⟩⟩⟩⟩)⟩⟩⟩⟩⟩⟩⟩)⟩⟩⟩⟩⟩⟩⟩)⟩)⟩⟩⟩⟩⟩⟩⟩, fun (h : (0 : Int) ≠ 0) => absurd h (by decide)⟩⟩, fun (qc12 : s = (-1)) => ⟨(Or.inr rfl), fun _ _ => ⟨fun (h : (1 : Int) = 0) => absurd h (by decide), fun _ => ⟨hX90.w, _, hX90.r6, ⟨⟨⟨rfl, rfl⟩, (hX90.row (by omega) (by omega)).2.w.rcv⟩, ⟨rfl, ⟨(hX90.row (by omega) (by omega)).2.w, _, (hX90.row (by omega) (by omega)).2.r9, ⟨(zrgI (x := i * 3) (by omega)), ⟨(zrgI (x := i * 3 + 0) (by omega)), zIr (Int.add_zero _) (⟨zixO (hX90.row (by omega) (by omega)).2.a9 (hX90.row (by omega) (by omega)).2.l9 (i := i * 3) (by omega) (by decide), zIr (b1) (⟨trivial, fun (qg14 : zrg (w)) _ => ⟨zixW hX90.aTwk hX90.lTwk (i := w) (by omega) (by decide), _, (hX90.wk (by omega) (by omega)).1, ⟨⟨⟨rfl, rfl⟩, trivial⟩, ⟨rfl, ⟨rfl, ⟨(hX90.wk (by omega) (by omega)).2, zIr (a1') (⟨(zrgI (x := fInWork g w - 1) (by omega)), ⟨⟨(hX90.wk (by omega) (by omega)).2, trivial⟩, ⟨fun (qc15 : on = 0) => fun _ _ => ⟨(zrgI (x := i + 1) (by omega)), (show Φ 11 [some (zo t), some (zo (t + 11 + 2 * r.toNat)), some (zi on), some (zi kp), some (zi m), some (zi (i + 1))] [] (zsI M90 (t + 5 + w.toNat) 4 (fInWork g w - 1)) (0) (0) from ?g262l3)⟩, fun (qc17 : on ≠ 0) => ⟨rfl, ⟨(hX90.wk (by omega) (by omega)).2, zIr ((zIm _ _ _ (by omega)).trans (a3')) (⟨(zrgI (x := lt + 1) (by omega)), ⟨⟨(hX90.wk (by omega) (by omega)).2, trivial⟩, ⟨⟨⟨rfl, rfl⟩, (hX90.wk (by omega) (by omega)).2.rcv⟩, ⟨rfl, ⟨(hX90.wk (by omega) (by omega)).2, zIr ((zIm _ _ _ (by omega)).trans ((zIm _ _ _ (by omega)).trans (a2'))) (⟨(zrgI (x := tr + (-1)) (by omega)), ⟨⟨⟨rfl, rfl⟩, trivial⟩, ⟨rfl, ⟨rfl, ⟨rfl, ⟨trivial, fun (qg18 : zrg (zmax 0 (zmin 20 (tr + (-1))))) _ => ⟨⟨(hX90.wk (by omega) (by omega)).2, trivial⟩, fun _ _ => fun _ _ => ⟨(zrgI (x := i + 1) (by omega)), (show Φ 11 [some (zo t), some (zo (t + 11 + 2 * r.toNat)), some (zi on), some (zi kp), some (zi m), some (zi (i + 1))] [] (zsI (zsI (zsI M90 (t + 5 + w.toNat) 4 (fInWork g w - 1)) (t + 5 + w.toNat) 8 (lt + 1)) (t + 5 + w.toNat) 3 (zmax 0 (zmin 20 (tr + (-1))))) (0) (0) from ?g262l4)⟩⟩⟩⟩⟩⟩⟩⟩)⟩⟩⟩⟩⟩)⟩⟩⟩⟩⟩)⟩⟩⟩⟩⟩⟩)⟩)⟩⟩⟩⟩⟩⟩⟩⟩⟩⟩)⟩⟩⟩⟩⟩⟩⟩⟩, fun (qc21 : on ≠ 0) => ⟨hX90.w, zIr (hT3) (⟨⟨⟨rfl, rfl⟩, (hX90.row (by omega) (by omega)).2.w.rcv⟩, ⟨rfl, ⟨⟨⟨rfl, rfl⟩, (hX90.row (by omega) (by omega)).2.w.rcv⟩, ⟨rfl, ⟨⟨⟨rfl, rfl⟩, (hX90.row (by omega) (by omega)).2.w.rcv⟩, ⟨rfl, ⟨(hX90.row (by omega) (by omega)).2.w, _, (hX90.row (by omega) (by omega)).2.r9, ⟨(zrgI (x := i * 3) (by omega)), ⟨(zrgI (x := i * 3 + 1) (by omega)), ⟨zixO (hX90.row (by omega) (by omega)).2.a9 (hX90.row (by omega) (by omega)).2.l9 (i := i * 3 + 1) (by omega) (by decide), zIr (b2) (⟨trivial, fun (qg22 : zrg (s)) _ => ⟨fun (qc23 : s ≠ (-1)) => ⟨(Or.inl rfl), fun _ _ => ⟨fun _ => ⟨(Or.inl rfl), fun _ _ => ⟨fun _ => ⟨⟨⟨rfl, rfl⟩, (hX90.row (by omega) (by omega)).2.w.rcv⟩, ⟨rfl, ⟨⟨⟨rfl, rfl⟩, (hX90.row (by omega) (by omega)).2.w.rcv⟩, ⟨rfl, ⟨(hX90.row (by omega) (by omega)).2.w, _, (hX90.row (by omega) (by omega)).2.r9, ⟨(zrgI (x := i * 3) (by omega)), ⟨(zrgI (x := i * 3 + 0) (by omega)), zIr (Int.add_zero _) (⟨zixO (hX90.row (by omega) (by omega)).2.a9 (hX90.row (by omega) (by omega)).2.l9 (i := i * 3) (by omega) (by decide), zIr (b1) (⟨trivial, fun (qg26 : zrg (w)) _ => ⟨⟨⟨rfl, rfl⟩, (hX90.row (by omega) (by omega)).2.w.rcv⟩, ⟨rfl, ⟨(hX90.row (by omega) (by omega)).2.w, _, (hX90.row (by omega) (by omega)).2.r9, ⟨(zrgI (x := i * 3) (by omega)), ⟨(zrgI (x := i * 3 + 1) (by omega)), ⟨zixO (hX90.row (by omega) (by omega)).2.a9 (hX90.row (by omega) (by omega)).2.l9 (i := i * 3 + 1) (by omega) (by decide), zIr (b2) (⟨trivial, fun (qg27 : zrg (s)) _ => ⟨⟨⟨rfl, rfl⟩, (hX90.row (by omega) (by omega)).2.w.rcv⟩, ⟨rfl, ⟨(hX90.row (by omega) (by omega)).2.w, _, (hX90.row (by omega) (by omega)).2.r9, ⟨(zrgI (x := i * 3) (by omega)), ⟨(zrgI (x := i * 3 + 2) (by omega)), ⟨zixO (hX90.row (by omega) (by omega)).2.a9 (hX90.row (by omega) (by omega)).2.l9 (i := i * 3 + 2) (by omega) (by decide), zIr (b3) (⟨trivial, fun (qg28 : zrg (d)) _ => ⟨⟨⟨rfl, rfl⟩, (hX90.row (by omega) (by omega)).2.w.rcv⟩, ⟨rfl, ⟨(hX90.row (by omega) (by omega)).2.w, _, (hX90.row (by omega) (by omega)).2.r9, ⟨(zrgI (x := kp * 3) (by omega)), ⟨(zrgI (x := kp * 3 + 0) (by omega)), zIr (Int.add_zero _) (⟨⟨zixW (hX90.row (by omega) (by omega)).2.a9 (hX90.row (by omega) (by omega)).2.l9 (i := kp * 3) (by omega) (by decide), trivial⟩, ⟨(hX90.row (by omega) (by omega)).2.w, _, (hX90.row (by omega) (by omega)).2.r9, ⟨(zrgI (x := kp * 3) (by omega)), ⟨(zrgI (x := kp * 3 + 1) (by omega)), ⟨⟨zixW (hX90.row (by omega) (by omega)).2.a9 (hX90.row (by omega) (by omega)).2.l9 (i := kp * 3 + 1) (by omega) (by decide), trivial⟩, ⟨(hX90.row (by omega) (by omega)).2.w, _, (hX90.row (by omega) (by omega)).2.r9, ⟨(zrgI (x := kp * 3) (by omega)), ⟨(zrgI (x := kp * 3 + 2) (by omega)), ⟨⟨zixW (hX90.row (by omega) (by omega)).2.a9 (hX90.row (by omega) (by omega)).2.l9 (i := kp * 3 + 2) (by omega) (by decide), trivial⟩, fun _ _ => fun _ _ => ⟨(zrgI (x := kp + 1) (by omega)), ⟨(zrgI (x := i + 1) (by omega)), (show Φ 11 [some (zo t), some (zo (t + 11 + 2 * r.toNat)), some (zi on), some (zi (kp + 1)), some (zi m), some (zi (i + 1))] [] (zsI (zsI (zsI M90 (t + 11 + 2 * r.toNat + 1) (kp * 3).toNat w) (t + 11 + 2 * r.toNat + 1) (kp * 3 + 1).toNat s) (t + 11 + 2 * r.toNat + 1) (kp * 3 + 2).toNat d) (0) (0) from ?g262l5)⟩⟩⟩⟩⟩⟩⟩⟩⟩⟩⟩)⟩⟩⟩⟩⟩⟩)⟩⟩⟩⟩⟩⟩⟩)⟩⟩⟩⟩⟩⟩⟩)⟩)⟩⟩⟩⟩⟩⟩⟩, fun (h : (0 : Int) ≠ 0) => absurd h (by decide)⟩⟩, fun (h : (0 : Int) ≠ 0) => absurd h (by decide)⟩⟩, fun (qc31 : s = (-1)) => ⟨(Or.inr rfl), fun _ _ => ⟨fun (h : (1 : Int) = 0) => absurd h (by decide), fun _ => ⟨⟨⟨rfl, rfl⟩, (hX90.row (by omega) (by omega)).2.w.rcv⟩, ⟨rfl, ⟨(hX90.row (by omega) (by omega)).2.w, _, (hX90.row (by omega) (by omega)).2.r9, ⟨(zrgI (x := i * 3) (by omega)), ⟨(zrgI (x := i * 3 + 2) (by omega)), ⟨zixO (hX90.row (by omega) (by omega)).2.a9 (hX90.row (by omega) (by omega)).2.l9 (i := i * 3 + 2) (by omega) (by decide), zIr (b3) (⟨trivial, fun (qg33 : zrg (d)) _ => ⟨fun (qc34 : d ≥ T) => ⟨(Or.inl rfl), fun _ _ => ⟨fun _ => ⟨⟨⟨rfl, rfl⟩, (hX90.row (by omega) (by omega)).2.w.rcv⟩, ⟨rfl, ⟨⟨⟨rfl, rfl⟩, (hX90.row (by omega) (by omega)).2.w.rcv⟩, ⟨rfl, ⟨(hX90.row (by omega) (by omega)).2.w, _, (hX90.row (by omega) (by omega)).2.r9, ⟨(zrgI (x := i * 3) (by omega)), ⟨(zrgI (x := i * 3 + 0) (by omega)), zIr (Int.add_zero _) (⟨zixO (hX90.row (by omega) (by omega)).2.a9 (hX90.row (by omega) (by omega)).2.l9 (i := i * 3) (by omega) (by decide), zIr (b1) (⟨trivial, fun (qg36 : zrg (w)) _ => ⟨⟨⟨rfl, rfl⟩, (hX90.row (by omega) (by omega)).2.w.rcv⟩, ⟨rfl, ⟨(hX90.row (by omega) (by omega)).2.w, _, (hX90.row (by omega) (by omega)).2.r9, ⟨(zrgI (x := i * 3) (by omega)), ⟨(zrgI (x := i * 3 + 1) (by omega)), ⟨zixO (hX90.row (by omega) (by omega)).2.a9 (hX90.row (by omega) (by omega)).2.l9 (i := i * 3 + 1) (by omega) (by decide), zIr (b2) (⟨trivial, fun (qg37 : zrg (s)) _ => ⟨⟨⟨rfl, rfl⟩, (hX90.row (by omega) (by omega)).2.w.rcv⟩, ⟨rfl, ⟨(hX90.row (by omega) (by omega)).2.w, _, (hX90.row (by omega) (by omega)).2.r9, ⟨(zrgI (x := i * 3) (by omega)), ⟨(zrgI (x := i * 3 + 2) (by omega)), ⟨zixO (hX90.row (by omega) (by omega)).2.a9 (hX90.row (by omega) (by omega)).2.l9 (i := i * 3 + 2) (by omega) (by decide), zIr (b3) (⟨trivial, fun (qg38 : zrg (d)) _ => ⟨⟨⟨rfl, rfl⟩, (hX90.row (by omega) (by omega)).2.w.rcv⟩, ⟨rfl, ⟨(hX90.row (by omega) (by omega)).2.w, _, (hX90.row (by omega) (by omega)).2.r9, ⟨(zrgI (x := kp * 3) (by omega)), ⟨(zrgI (x := kp * 3 + 0) (by omega)), zIr (Int.add_zero _) (⟨⟨zixW (hX90.row (by omega) (by omega)).2.a9 (hX90.row (by omega) (by omega)).2.l9 (i := kp * 3) (by omega) (by decide), trivial⟩, ⟨(hX90.row (by omega) (by omega)).2.w, _, (hX90.row (by omega) (by omega)).2.r9, ⟨(zrgI (x := kp * 3) (by omega)), ⟨(zrgI (x := kp * 3 + 1) (by omega)), ⟨⟨zixW (hX90.row (by omega) (by omega)).2.a9 (hX90.row (by omega) (by omega)).2.l9 (i := kp * 3 + 1) (by omega) (by decide), trivial⟩, ⟨(hX90.row (by omega) (by omega)).2.w, _, (hX90.row (by omega) (by omega)).2.r9, ⟨(zrgI (x := kp * 3) (by omega)), ⟨(zrgI (x := kp * 3 + 2) (by omega)), ⟨⟨zixW (hX90.row (by omega) (by omega)).2.a9 (hX90.row (by omega) (by omega)).2.l9 (i := kp * 3 + 2) (by omega) (by decide), trivial⟩, fun _ _ => fun _ _ => ⟨(zrgI (x := kp + 1) (by omega)), ⟨(zrgI (x := i + 1) (by omega)), (show Φ 11 [some (zo t), some (zo (t + 11 + 2 * r.toNat)), some (zi on), some (zi (kp + 1)), some (zi m), some (zi (i + 1))] [] (zsI (zsI (zsI M90 (t + 11 + 2 * r.toNat + 1) (kp * 3).toNat w) (t + 11 + 2 * r.toNat + 1) (kp * 3 + 1).toNat s) (t + 11 + 2 * r.toNat + 1) (kp * 3 + 2).toNat d) (0) (0) from ?g262l6)⟩⟩⟩⟩⟩⟩⟩⟩⟩⟩⟩)⟩⟩⟩⟩⟩⟩)⟩⟩⟩⟩⟩⟩⟩)⟩⟩⟩⟩⟩⟩⟩)⟩)⟩⟩⟩⟩⟩⟩⟩, fun (h : (0 : Int) ≠ 0) => absurd h (by decide)⟩⟩, fun (qc41 : d < T) => ⟨(Or.inr rfl), fun _ _ => ⟨fun (h : (1 : Int) = 0) => absurd h (by decide), fun _ => ⟨hX90.w, _, hX90.r6, ⟨⟨⟨rfl, rfl⟩, (hX90.row (by omega) (by omega)).2.w.rcv⟩, ⟨rfl, ⟨(hX90.row (by omega) (by omega)).2.w, _, (hX90.row (by omega) (by omega)).2.r9, ⟨(zrgI (x := i * 3) (by omega)), ⟨(zrgI (x := i * 3 + 0) (by omega)), zIr (Int.add_zero _) (⟨zixO (hX90.row (by omega) (by omega)).2.a9 (hX90.row (by omega) (by omega)).2.l9 (i := i * 3) (by omega) (by decide), zIr (b1) (⟨trivial, fun (qg43 : zrg (w)) _ => ⟨zixW hX90.aTwk hX90.lTwk (i := w) (by omega) (by decide), _, (hX90.wk (by omega) (by omega)).1, ⟨⟨⟨rfl, rfl⟩, trivial⟩, ⟨rfl, ⟨rfl, ⟨(hX90.wk (by omega) (by omega)).2, zIr (a1') (⟨(zrgI (x := fInWork g w - 1) (by omega)), ⟨⟨(hX90.wk (by omega) (by omega)).2, trivial⟩, ⟨fun (qc44 : on = 0) => fun _ _ => ⟨(zrgI (x := i + 1) (by omega)), (show Φ 11 [some (zo t), some (zo (t + 11 + 2 * r.toNat)), some (zi on), some (zi kp), some (zi m), some (zi (i + 1))] [] (zsI M90 (t + 5 + w.toNat) 4 (fInWork g w - 1)) (0) (0) from ?g262l7)⟩, fun (qc46 : on ≠ 0) => ⟨rfl, ⟨(hX90.wk (by omega) (by omega)).2, zIr ((zIm _ _ _ (by omega)).trans (a3')) (⟨(zrgI (x := lt + 1) (by omega)), ⟨⟨(hX90.wk (by omega) (by omega)).2, trivial⟩, ⟨⟨⟨rfl, rfl⟩, (hX90.wk (by omega) (by omega)).2.rcv⟩, ⟨rfl, ⟨(hX90.wk (by omega) (by omega)).2, zIr ((zIm _ _ _ (by omega)).trans ((zIm _ _ _ (by omega)).trans (a2'))) (⟨(zrgI (x := tr + (-1)) (by omega)), ⟨⟨⟨rfl, rfl⟩, trivial⟩, ⟨rfl, ⟨rfl, ⟨rfl, ⟨trivial, fun (qg47 : zrg (zmax 0 (zmin 20 (tr + (-1))))) _ => ⟨⟨(hX90.wk (by omega) (by omega)).2, trivial⟩, fun _ _ => fun _ _ => ⟨(zrgI (x := i + 1) (by omega)), (show Φ 11 [some (zo t), some (zo (t + 11 + 2 * r.toNat)), some (zi on), some (zi kp), some (zi m), some (zi (i + 1))] [] (zsI (zsI (zsI M90 (t + 5 + w.toNat) 4 (fInWork g w - 1)) (t + 5 + w.toNat) 8 (lt + 1)) (t + 5 + w.toNat) 3 (zmax 0 (zmin 20 (tr + (-1))))) (0) (0) from ?g262l8)⟩⟩⟩⟩⟩⟩⟩⟩)⟩⟩⟩⟩⟩)⟩⟩⟩⟩⟩)⟩⟩⟩⟩⟩⟩)⟩)⟩⟩⟩⟩⟩⟩⟩⟩⟩⟩)⟩⟩⟩⟩⟩⟩⟩⟩⟩⟩)⟩⟩⟩⟩⟩⟩⟩⟩⟩⟩)⟩⟩⟩
      case g262l1 => exfalso; omega
      case g262l2 =>
        have hp : pD on T x = false := (show pD on T x = false from (by unfold pD inWk; rw [if_pos qc3, hs]; exact decide_eq_false qc5))
        have hf1 : (o1 ++ [x]).filter (fun x => !pD on T x) = o1.filter (fun x => !pD on T x) ++ [x] := by
          rw [List.filter_append, List.filter_cons, if_pos (by rw [hp]; rfl), List.filter_nil]
        have hz2 : zR (zsI (zsI (zsI M90 (t + 11 + 2 * r.toNat + 1) (kp * 3).toNat w) (t + 11 + 2 * r.toNat + 1) (kp * 3 + 1).toNat s) (t + 11 + 2 * r.toNat + 1) (kp * 3 + 2).toNat d) = zR M := fR
        refine ih (o1 ++ [x]) _ _ _ (by rw [List.append_assoc]; exact ht) (by rw [hf1, List.length_append, List.length_singleton]; omega) (by rw [List.length_append, List.length_singleton]; omega) ⟨f9.tr (((Fr_I (hX90.row (i := r) (by omega) (by omega)).2.a9 (by decide) (by decide) (by unfold STb; omega)).tr (Fr_I (hX90.row (i := r) (by omega) (by omega)).2.a9 (by decide) (by decide) (by unfold STb; omega))).tr (Fr_I (hX90.row (i := r) (by omega) (by omega)).2.a9 (by decide) (by decide) (by unfold STb; omega))), fun j j0 j1 => ?_, hz2, fun j y hj => ?_, fun j y j0 hj => ?_, fun v v0 v1 => ?_⟩
        · have h8 := fz j j0 j1
          funext z
          simp (disch := omega) only [zIn]
          exact congrFun h8 z
        · rw [hf1] at hj
          by_cases e : j < (o1.filter (fun x => !pD on T x)).length
          · rw [List.getElem?_append_left e] at hj
            simp (disch := omega) only [zIn, zIm]
            exact fA j y hj
          · have hjl := (List.getElem?_eq_some_iff.mp hj).1
            rw [List.length_append, List.length_singleton] at hjl
            have ej : j = kp.toNat := by omega
            rw [List.getElem?_append_right (by omega), show j - (o1.filter (fun x => !pD on T x)).length = 0 by omega] at hj
            rw [← Option.some.inj hj, hw, hs, hd, ej, show kp.toNat * 3 + 1 = (kp * 3 + 1).toNat by omega, show kp.toNat * 3 + 2 = (kp * 3 + 2).toNat by omega, show kp.toNat * 3 = (kp * 3).toNat by omega]
            simp (disch := omega) only [zIs, zIn, zIm]
            exact ⟨trivial, trivial, trivial⟩
        · rw [List.length_append, List.length_singleton] at j0
          simp (disch := omega) only [zIn, zIm]
          exact fB j y (by omega) hj
        · obtain ⟨c1, c2, c3, c4⟩ := fW v v0 v1
          rw [dW_s, if_neg (fun z => absurd z.1 (by rw [hp]; decide)), Int.add_zero]
          simp (disch := omega) only [zIn]
          exact ⟨c1, c2, c3, c4⟩
      case g262l3 =>
        have hp : pD on T x = true := (show pD on T x = true from (by unfold pD inWk; rw [if_pos qc3, hs]; exact decide_eq_true qc12))
        have hf1 : (o1 ++ [x]).filter (fun x => !pD on T x) = o1.filter (fun x => !pD on T x) := by
          rw [List.filter_append, List.filter_cons, if_neg (by rw [hp]; decide), List.filter_nil, List.append_nil]
        have hz2 : zR (zsI M90 (t + 5 + w.toNat) 4 (fInWork g w - 1)) = zR M := fR
        refine ih (o1 ++ [x]) _ _ _ (by rw [List.append_assoc]; exact ht) (by rw [hf1]; exact hkp) (by rw [List.length_append, List.length_singleton]; omega) ⟨f9.tr (Fr_I (hX90.wk (i := w) (by omega) (by omega)).2 (by decide) (by decide) (by unfold STb; omega)), fun j j0 j1 => ?_, hz2, fun j y hj => ?_, fun j y j0 hj => ?_, fun v v0 v1 => ?_⟩
        · have h9 := j1 w hw6.1 hw6.2
          have h8 := fz j j0 j1
          funext z
          simp (disch := omega) only [zIn]
          exact congrFun h8 z
        · rw [hf1] at hj
          simp (disch := omega) only [zIn]
          exact fA j y hj
        · rw [List.length_append, List.length_singleton] at j0
          simp (disch := omega) only [zIn]
          exact fB j y (by omega) hj
        · obtain ⟨c1, c2, c3, c4⟩ := fW v v0 v1
          rw [dW_s]
          by_cases e : v = w
          · subst e
            rw [if_pos ⟨hp, hw⟩, hno]
            refine ⟨?_, ?_, ?_, fun f f3 f4 f8 => ?_⟩
            · simp (disch := omega) only [zIs, zIm]
              omega
            · simp (disch := omega) only [zIs, zIm]
              rw [if_pos qc3]; exact a2'.trans htr.symm
            · simp (disch := omega) only [zIs, zIm]
              rw [if_pos qc3]; exact a3'.trans hlt.symm
            · simp (disch := omega) only [zIm]
              exact c4 f f3 f4 f8
          · rw [if_neg (fun z => e (z.2.symm.trans hw)), Int.add_zero]
            simp (disch := omega) only [zIn]
            exact ⟨c1, c2, c3, c4⟩
      case g262l4 => exact absurd qc3 qc17
      case g262l5 =>
        have hp : pD on T x = false := (show pD on T x = false from (by unfold pD lateT; rw [if_neg qc21, hs, hd]; exact decide_eq_false (fun z => by omega)))
        have hf1 : (o1 ++ [x]).filter (fun x => !pD on T x) = o1.filter (fun x => !pD on T x) ++ [x] := by
          rw [List.filter_append, List.filter_cons, if_pos (by rw [hp]; rfl), List.filter_nil]
        have hz2 : zR (zsI (zsI (zsI M90 (t + 11 + 2 * r.toNat + 1) (kp * 3).toNat w) (t + 11 + 2 * r.toNat + 1) (kp * 3 + 1).toNat s) (t + 11 + 2 * r.toNat + 1) (kp * 3 + 2).toNat d) = zR M := fR
        refine ih (o1 ++ [x]) _ _ _ (by rw [List.append_assoc]; exact ht) (by rw [hf1, List.length_append, List.length_singleton]; omega) (by rw [List.length_append, List.length_singleton]; omega) ⟨f9.tr (((Fr_I (hX90.row (i := r) (by omega) (by omega)).2.a9 (by decide) (by decide) (by unfold STb; omega)).tr (Fr_I (hX90.row (i := r) (by omega) (by omega)).2.a9 (by decide) (by decide) (by unfold STb; omega))).tr (Fr_I (hX90.row (i := r) (by omega) (by omega)).2.a9 (by decide) (by decide) (by unfold STb; omega))), fun j j0 j1 => ?_, hz2, fun j y hj => ?_, fun j y j0 hj => ?_, fun v v0 v1 => ?_⟩
        · have h8 := fz j j0 j1
          funext z
          simp (disch := omega) only [zIn]
          exact congrFun h8 z
        · rw [hf1] at hj
          by_cases e : j < (o1.filter (fun x => !pD on T x)).length
          · rw [List.getElem?_append_left e] at hj
            simp (disch := omega) only [zIn, zIm]
            exact fA j y hj
          · have hjl := (List.getElem?_eq_some_iff.mp hj).1
            rw [List.length_append, List.length_singleton] at hjl
            have ej : j = kp.toNat := by omega
            rw [List.getElem?_append_right (by omega), show j - (o1.filter (fun x => !pD on T x)).length = 0 by omega] at hj
            rw [← Option.some.inj hj, hw, hs, hd, ej, show kp.toNat * 3 + 1 = (kp * 3 + 1).toNat by omega, show kp.toNat * 3 + 2 = (kp * 3 + 2).toNat by omega, show kp.toNat * 3 = (kp * 3).toNat by omega]
            simp (disch := omega) only [zIs, zIn, zIm]
            exact ⟨trivial, trivial, trivial⟩
        · rw [List.length_append, List.length_singleton] at j0
          simp (disch := omega) only [zIn, zIm]
          exact fB j y (by omega) hj
        · obtain ⟨c1, c2, c3, c4⟩ := fW v v0 v1
          rw [dW_s, if_neg (fun z => absurd z.1 (by rw [hp]; decide)), Int.add_zero]
          simp (disch := omega) only [zIn]
          exact ⟨c1, c2, c3, c4⟩
      case g262l6 =>
        have hp : pD on T x = false := (show pD on T x = false from (by unfold pD lateT; rw [if_neg qc21, hs, hd]; exact decide_eq_false (fun z => by omega)))
        have hf1 : (o1 ++ [x]).filter (fun x => !pD on T x) = o1.filter (fun x => !pD on T x) ++ [x] := by
          rw [List.filter_append, List.filter_cons, if_pos (by rw [hp]; rfl), List.filter_nil]
        have hz2 : zR (zsI (zsI (zsI M90 (t + 11 + 2 * r.toNat + 1) (kp * 3).toNat w) (t + 11 + 2 * r.toNat + 1) (kp * 3 + 1).toNat s) (t + 11 + 2 * r.toNat + 1) (kp * 3 + 2).toNat d) = zR M := fR
        refine ih (o1 ++ [x]) _ _ _ (by rw [List.append_assoc]; exact ht) (by rw [hf1, List.length_append, List.length_singleton]; omega) (by rw [List.length_append, List.length_singleton]; omega) ⟨f9.tr (((Fr_I (hX90.row (i := r) (by omega) (by omega)).2.a9 (by decide) (by decide) (by unfold STb; omega)).tr (Fr_I (hX90.row (i := r) (by omega) (by omega)).2.a9 (by decide) (by decide) (by unfold STb; omega))).tr (Fr_I (hX90.row (i := r) (by omega) (by omega)).2.a9 (by decide) (by decide) (by unfold STb; omega))), fun j j0 j1 => ?_, hz2, fun j y hj => ?_, fun j y j0 hj => ?_, fun v v0 v1 => ?_⟩
        · have h8 := fz j j0 j1
          funext z
          simp (disch := omega) only [zIn]
          exact congrFun h8 z
        · rw [hf1] at hj
          by_cases e : j < (o1.filter (fun x => !pD on T x)).length
          · rw [List.getElem?_append_left e] at hj
            simp (disch := omega) only [zIn, zIm]
            exact fA j y hj
          · have hjl := (List.getElem?_eq_some_iff.mp hj).1
            rw [List.length_append, List.length_singleton] at hjl
            have ej : j = kp.toNat := by omega
            rw [List.getElem?_append_right (by omega), show j - (o1.filter (fun x => !pD on T x)).length = 0 by omega] at hj
            rw [← Option.some.inj hj, hw, hs, hd, ej, show kp.toNat * 3 + 1 = (kp * 3 + 1).toNat by omega, show kp.toNat * 3 + 2 = (kp * 3 + 2).toNat by omega, show kp.toNat * 3 = (kp * 3).toNat by omega]
            simp (disch := omega) only [zIs, zIn, zIm]
            exact ⟨trivial, trivial, trivial⟩
        · rw [List.length_append, List.length_singleton] at j0
          simp (disch := omega) only [zIn, zIm]
          exact fB j y (by omega) hj
        · obtain ⟨c1, c2, c3, c4⟩ := fW v v0 v1
          rw [dW_s, if_neg (fun z => absurd z.1 (by rw [hp]; decide)), Int.add_zero]
          simp (disch := omega) only [zIn]
          exact ⟨c1, c2, c3, c4⟩
      case g262l7 => exact absurd qc44 qc21
      case g262l8 =>
        have hp : pD on T x = true := (show pD on T x = true from (by unfold pD lateT; rw [if_neg qc21, hs, hd]; exact decide_eq_true ⟨by omega, by omega⟩))
        have hf1 : (o1 ++ [x]).filter (fun x => !pD on T x) = o1.filter (fun x => !pD on T x) := by
          rw [List.filter_append, List.filter_cons, if_neg (by rw [hp]; decide), List.filter_nil, List.append_nil]
        have hz2 : zR (zsI (zsI (zsI M90 (t + 5 + w.toNat) 4 (fInWork g w - 1)) (t + 5 + w.toNat) 8 (lt + 1)) (t + 5 + w.toNat) 3 (zmax 0 (zmin 20 (tr + (-1))))) = zR M := fR
        refine ih (o1 ++ [x]) _ _ _ (by rw [List.append_assoc]; exact ht) (by rw [hf1]; exact hkp) (by rw [List.length_append, List.length_singleton]; omega) ⟨f9.tr (((Fr_I (hX90.wk (i := w) (by omega) (by omega)).2 (by decide) (by decide) (by unfold STb; omega)).tr (Fr_I (hX90.wk (i := w) (by omega) (by omega)).2 (by decide) (by decide) (by unfold STb; omega))).tr (Fr_I (hX90.wk (i := w) (by omega) (by omega)).2 (by decide) (by decide) (by unfold STb; omega))), fun j j0 j1 => ?_, hz2, fun j y hj => ?_, fun j y j0 hj => ?_, fun v v0 v1 => ?_⟩
        · have h9 := j1 w hw6.1 hw6.2
          have h8 := fz j j0 j1
          funext z
          simp (disch := omega) only [zIn]
          exact congrFun h8 z
        · rw [hf1] at hj
          simp (disch := omega) only [zIn]
          exact fA j y hj
        · rw [List.length_append, List.length_singleton] at j0
          simp (disch := omega) only [zIn]
          exact fB j y (by omega) hj
        · obtain ⟨c1, c2, c3, c4⟩ := fW v v0 v1
          rw [dW_s]
          by_cases e : v = w
          · subst e
            rw [if_pos ⟨hp, hw⟩, hno]
            refine ⟨?_, ?_, ?_, fun f f3 f4 f8 => ?_⟩
            · simp (disch := omega) only [zIs, zIm]
              omega
            · simp (disch := omega) only [zIs, zIm]
              rw [if_neg qc21, htr]; unfold zmax zmin; repeat' split; all_goals omega
            · simp (disch := omega) only [zIs, zIm]
              rw [if_neg qc21, hlt]; omega
            · simp (disch := omega) only [zIm]
              exact c4 f f3 f4 f8
          · rw [if_neg (fun z => e (z.2.symm.trans hw)), Int.add_zero]
            simp (disch := omega) only [zIn]
            exact ⟨c1, c2, c3, c4⟩
  refine zGoR hΦ [11] 400 (fun hL9 _ hM _ _ => ?_)
  obtain ⟨qL1, _⟩ : zrg on ∧ True := hL9
  refine ⟨(hX.row (by omega) (by omega)).2.w, zIr (((hT0.r8 hr.1 hr.2).trans hm)) ((show Φ 11 [some (zo t), some (zo (t + 11 + 2 * r.toNat)), some (zi on), some (zi 0), some (zi m), some (zi 0)] [] M (0) (0) from ?g263l1))⟩
  case g263l1 =>
    refine loop (TK g r) [] 0 0 M rfl rfl rfl ⟨Fr.rf, fun _ _ _ => rfl, rfl, fun j y hj => (by cases hj), fun j y _ hj => (RRc.ct (hT0.1.2.2.1 r hr.1 hr.2) hl).2 j y hj, fun v v0 v1 => ⟨?_, ?_, ?_, fun _ _ _ _ => rfl⟩⟩
    · show _ = fInWork g v - 0
      rw [Int.sub_zero]; exact hT0.w4 v0 v1
    · rw [hT0.w3 v0 v1]
      split
      · rfl
      · show _ = zmax 0 (_ - 0)
        have h9 := (hWB v v0 v1).1
        unfold zmax
        split <;> omega
    · rw [hT0.w8 v0 v1]
      split
      · rfl
      · show _ = _ + (0 : Int)
        omega
theorem M_X5_dropWork {l : Launch} (hl : l.stackTraces = false) : zMet l yX5_dropWork (Cond.code yX5_dropWork cX5_dropWork 6 (Option.some Jvm.ClassFile.FieldType.int) :: zG) rm_X5_dropWork 0 0 T_X5_dropWork := met_X5_dropWork hl (M_X4_isLateAt hl) (M_X4_isInWork hl) (M_X4_workerAt hl) (M_X5_endWork hl) (M_X4_moveTaking hl) bd_X5_dropWork
