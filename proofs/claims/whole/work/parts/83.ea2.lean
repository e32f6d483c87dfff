/-! the reference: its tokens -/
theorem zsI_id {M : ZM} {j k : Nat} {v : Int} (h : zI M j k = v) : zsI M j k v = M := by
  refine zM_ext rfl rfl rfl (funext (fun x => funext (fun y => ?_))) rfl
  show (if x = j ∧ y = k then v else zI M x y) = zI M x y
  split
  · next q => rw [q.1, q.2, h]
  · rfl
theorem zsI_2 (M : ZM) (j k : Nat) (v w : Int) : zsI (zsI M j k v) j k w = zsI M j k w := by
  refine zM_ext rfl rfl rfl (funext (fun x => funext (fun y => ?_))) rfl
  show (if x = j ∧ y = k then w else if x = j ∧ y = k then v else zI M x y) = if x = j ∧ y = k then w else zI M x y
  split <;> rfl
theorem zsI_c (M : ZM) (j : Nat) {k k' : Nat} (v w : Int) (h : k ≠ k') : zsI (zsI M j k v) j k' w = zsI (zsI M j k' w) j k v := by
  refine zM_ext rfl rfl rfl (funext (fun x => funext (fun y => ?_))) rfl
  show (if x = j ∧ y = k' then w else if x = j ∧ y = k then v else zI M x y) = if x = j ∧ y = k then v else if x = j ∧ y = k' then w else zI M x y
  by_cases q : x = j ∧ y = k
  · rw [if_pos q, if_pos q, if_neg (fun z => h (q.2.symm.trans z.2))]
  · rw [if_neg q, if_neg q]
def min9 (x : Int) : Int := if x ≤ 9999 then x else 9999
def rtk (k : Int) : Int := if k = 3 then 0 else k + 1
/-- the text that is parsed -/
def RTx (M : ZM) (B : Gm) (n : Int) : Prop := zI M 670 7 = n ∧ (0 ≤ n ∧ n ≤ 500) ∧ ∀ k : Nat, (k : Int) < n → zI M 674 k = sgn (B k) ∧ 0 ≤ B k ∧ B k < 256
theorem RTx.i {M : ZM} {B : Gm} {n : Int} {f : Nat} {v : Int} (hf : 7 ≠ f) (h : RTx M B n) : RTx (zsI M 670 f v) B n := by
  obtain ⟨h1, h2, h3⟩ := h
  refine ⟨(zI_Im _ _ _ hf).trans h1, h2, fun k hk => ?_⟩
  rw [zI_In _ _ _ (by decide)]
  exact h3 k hk
/-- the present token -/
def RTk (M : ZM) (B : Gm) (n s : Int) : Prop := zI M 670 9 = s ∧ zI M 670 8 = tkE B n s ∧ zI M 670 10 = rtk (tkK B n s) ∧ (tkK B n s = 1 → zI M 670 11 = min9 (tkV B s (tkE B n s))) ∧ (tkK B n s = 2 → zI M 670 11 = B s.toNat)
def S48 (j : Nat) : Prop := j = 670
/-- what the parser's small steps leave -/
def RXn (M M' : ZM) : Prop := Fr S48 M M' ∧ ∀ f : Nat, f < 8 ∨ 13 < f → zI M' 670 f = zI M 670 f
theorem RXn.rf {M : ZM} : RXn M M := ⟨Fr.rf, fun _ _ => rfl⟩
theorem RXn.tr {M M' M2 : ZM} (h : RXn M M') (h2 : RXn M' M2) : RXn M M2 := ⟨h.1.tr h2.1, fun f hf => (h2.2 f hf).trans (h.2 f hf)⟩
theorem RXn.i {M : ZM} {f : Nat} {v : Int} (hY : LY M) (hf : 8 ≤ f ∧ f ≤ 13) : RXn M (zsI M 670 f v) := ⟨Fr_I hY.w (by decide) (by decide) rfl, fun g hg => zI_Im _ _ _ (by omega)⟩
theorem RTx.fr {M M' : ZM} {B : Gm} {n : Int} (h : RTx M B n) (hY : LY M) (f : RXn M M') : RTx M' B n := by
  obtain ⟨h1, h2, h3⟩ := h
  refine ⟨(f.2 7 (by omega)).trans h1, h2, ?_⟩
  rw [f.1.i hY.a5 (by unfold S48; omega)]
  exact h3
/-- the parser's state -/
def RP (M : ZM) (B : Gm) (n : Int) (e : E3) : Prop := RTx M B n ∧ (zI M 670 12 = e.1 ∧ zI M 670 13 = e.2.1) ∧ RTk M B n e.2.2 ∧ eOK n e
def byA (B : Gm) (n k : Int) : Int := if k < n then B k.toNat else -1
theorem byA_r {M : ZM} {B : Gm} {n k : Int} (h : RTx M B n) (h0 : 0 ≤ k) : (k < n → byA B n k = B k.toNat ∧ 0 ≤ B k.toNat ∧ B k.toNat < 256) ∧ (n ≤ k → byA B n k = -1) := by
  unfold byA
  refine ⟨fun q => ?_, fun q => if_neg (by omega)⟩
  rw [if_pos q]
  exact ⟨rfl, (h.2.2 k.toNat (by omega)).2⟩
theorem sgn_255f : ∀ q : Fin 256, zand (sgn (q.val : Int)) 255 = (q.val : Int) := by decide +kernel
theorem sgn_255 {b : Int} (h : 0 ≤ b ∧ b < 256) : zand (sgn b) 255 = b := by
  have h9 := sgn_255f ⟨b.toNat, by omega⟩
  rw [show (((⟨b.toNat, by omega⟩ : Fin 256).val : Nat) : Int) = b by show ((b.toNat : Nat) : Int) = b; omega] at h9
  exact h9

def T_X9_byteAt : ZTf := fun av M K KX => ∃ (B : Gm) (n k : Int), av = [zo 670, zi k] ∧ (LY M) ∧ (RTx M B n) ∧ (0 ≤ k) ∧  K (some (zi (byA B n k))) M
set_option maxRecDepth 100000 in
set_option maxHeartbeats 1500000 in
theorem bd_X9_byteAt : zBd (cd_X9_byteAt) 2 0 0 T_X9_byteAt := by
  rintro av M K KX hA0 hM ⟨B, n, k, rfl, hY, hX7, hk0, hK⟩
  obtain ⟨hb1, hb2, hb3⟩ := id hX7
  refine ⟨rfl, fun Φ hΦ => ?_⟩
  refine zGoR hΦ [] 400 (fun hL9 _ hM _ _ => ?_)
  obtain ⟨qL1, _⟩ : zrg k ∧ True := hL9
  refine ⟨hY.w, zIr hX7.1 (⟨fun (qc1 : k ≥ n) => ⟨trivial, (show K (some (zi (-1))) M from ?g358l1)⟩, fun (qc2 : k < n) => ⟨hY.w, _, hY.r5, ⟨zixO hY.a5 hY.l5 (i := k) (by omega) (by decide), ⟨trivial, (show K (some (zi (zand (zI M 674 k.toNat) 255))) M from ?g358l2)⟩⟩⟩⟩)⟩
  case g358l1 =>
    refine zKi hK ?_
    unfold byA
    first
    | (rw [if_pos (show k < n by omega)]
       have h9 := hb3 k.toNat (by omega)
       rw [h9.1, sgn_255 h9.2])
    | rw [if_neg (show ¬ k < n by omega)]
  case g358l2 =>
    refine zKi hK ?_
    unfold byA
    first
    | (rw [if_pos (show k < n by omega)]
       have h9 := hb3 k.toNat (by omega)
       rw [h9.1, sgn_255 h9.2])
    | rw [if_neg (show ¬ k < n by omega)]
theorem M_X9_byteAt {l : Launch} (hl : l.stackTraces = false) : zMet l yX9_byteAt (Cond.code yX9_byteAt cX9_byteAt 2 (Option.some Jvm.ClassFile.FieldType.int) :: zG) rm_X9_byteAt 0 0 T_X9_byteAt := met_X9_byteAt hl bd_X9_byteAt

def T_X9_scan : ZTf := fun av M K KX => ∃ (B : Gm) (n i : Int), av = [zo 670] ∧ (LY M) ∧ (RTx M B n) ∧ (zI M 670 8 = i) ∧ (0 ≤ i ∧ i ≤ n) ∧  (∀ M' : ZM, (RXn M M') → (zI M' 670 12 = zI M 670 12 ∧ zI M' 670 13 = zI M 670 13) → (RTk M' B n (tkS B n i)) → K none M')
set_option maxRecDepth 100000 in
set_option maxHeartbeats 1500000 in
theorem bd_X9_scan : zBd (cd_X9_scan T_X9_byteAt T_X9_in) 2 0 0 T_X9_scan := by
  rintro av M K KX hA0 hM ⟨B, n, i, rfl, hY, hX7, hi, hi0, hK⟩
  have hn5 := hX7.2.1
  refine ⟨rfl, fun Φ hΦ => ?_⟩
  obtain ⟨S, hS⟩ : ∃ S, tkS B n i = S := ⟨_, rfl⟩
  rw [hS] at hK
  have hSr := tkS_r B hi0.2
  rw [hS] at hSr
  have hkr := tkK_r B n S
  have her := tkE_r B (n := n) (s := S) (by omega)
  have lo1 : ∀ c : Int, tkK B n S = 0 → ∀ j, S ≤ j → j ≤ n → fsI (fun k => decide (tkK B n k ≠ tkK B n S)) n j = tkE B n S → Φ 83 [some (zo 670), some (zi c)] [] (zsI (zsI M 670 9 S) 670 8 j) 0 0 := by
    intro c hk0
    refine zdownF (lo := S) (n := n) (P := fun j => fsI (fun k => decide (tkK B n k ≠ tkK B n S)) n j = tkE B n S → Φ 83 [some (zo 670), some (zi c)] [] (zsI (zsI M 670 9 S) 670 8 j) 0 0) (fun j h0 h1 ih hE => ?_)
    have hby := byA_r (k := j) hX7 (by omega)
    have hkj := tkK_r B n j
    refine zGoR hΦ [83] 400 (fun hL9 _ hM _ _ => ?_)
    obtain ⟨qL1, _⟩ : zrg c ∧ True := hL9
    refine ⟨hY.w, ⟨⟨⟨rfl, rfl⟩, hY.w.rcv⟩, ⟨B, n, j, rfl, hY, (RTx.i (by decide) (RTx.i (by decide) hX7)), (by omega), fun (qg1 : zrg (byA B n j)) qm2 => ⟨⟨⟨rfl, rfl⟩, trivial⟩, ⟨rfl, ⟨fun h => (have qc3 : byA B n j < 97 := zc_lt h; ⟨(Or.inl rfl), fun _ _ => ⟨fun _ => ⟨⟨hY.w, trivial⟩, (show K none (zsI (zsI (zsI M 670 9 S) 670 8 j) 670 10 1) from ?g359l1)⟩, fun (h : (0 : Int) ≠ 0) => absurd h (by decide)⟩⟩), fun h => (have qc5 : byA B n j ≥ 97 := zc_ge h; ⟨fun h => (have qc6 : byA B n j > 122 := zc_gt h; ⟨(Or.inl rfl), fun _ _ => ⟨fun _ => ⟨⟨hY.w, trivial⟩, (show K none (zsI (zsI (zsI M 670 9 S) 670 8 j) 670 10 1) from ?g359l2)⟩, fun (h : (0 : Int) ≠ 0) => absurd h (by decide)⟩⟩), fun h => (have qc8 : byA B n j ≤ 122 := zc_le h; ⟨(Or.inr rfl), fun _ _ => ⟨fun (h : (1 : Int) = 0) => absurd h (by decide), fun _ => ⟨rfl, ⟨hY.w, ⟨(zrgI (x := j + 1) (by omega)), ⟨⟨hY.w, trivial⟩, (show Φ 83 [some (zo 670), some (zi c)] [] (zsI (zsI (zsI M 670 9 S) 670 8 j) 670 8 (j + 1)) (0) (0) from ?g359l3)⟩⟩⟩⟩⟩⟩)⟩)⟩⟩⟩⟩⟩⟩
    case g359l1 =>
      have e9 : tkE B n S = j := by
        rw [← hE]
        by_cases z : j < n
        · exact fsI_h (decide_eq_true (by have := hby.1 z; omega))
        · exact fsI_e (by omega)
      refine hK _ ?_ ⟨?_, ?_⟩ ⟨?_, ?_, ?_, ?_, ?_⟩
      · exact (((RXn.rf.tr (RXn.i (M := M) hY (by decide))).tr (RXn.i (M := (zsI M 670 9 S)) hY (by decide))).tr (RXn.i (M := (zsI (zsI M 670 9 S) 670 8 j)) hY (by decide)))
      · simp (disch := omega) only [zIs, zIm]
      · simp (disch := omega) only [zIs, zIm]
      · simp (disch := omega) only [zIs, zIm]
      · simp (disch := omega) only [zIs, zIm]
        exact e9.symm
      · simp (disch := omega) only [zIs, zIm]
        rw [hk0]; rfl
      · intro z
        omega
      · intro z
        omega
    case g359l2 =>
      have e9 : tkE B n S = j := by
        rw [← hE]
        by_cases z : j < n
        · exact fsI_h (decide_eq_true (by have := hby.1 z; omega))
        · exact fsI_e (by omega)
      refine hK _ ?_ ⟨?_, ?_⟩ ⟨?_, ?_, ?_, ?_, ?_⟩
      · exact (((RXn.rf.tr (RXn.i (M := M) hY (by decide))).tr (RXn.i (M := (zsI M 670 9 S)) hY (by decide))).tr (RXn.i (M := (zsI (zsI M 670 9 S) 670 8 j)) hY (by decide)))
      · simp (disch := omega) only [zIs, zIm]
      · simp (disch := omega) only [zIs, zIm]
      · simp (disch := omega) only [zIs, zIm]
      · simp (disch := omega) only [zIs, zIm]
        exact e9.symm
      · simp (disch := omega) only [zIs, zIm]
        rw [hk0]; rfl
      · intro z
        omega
      · intro z
        omega
    case g359l3 =>
      rw [zsI_2]
      refine ih (by omega) ?_
      rw [← hE]
      refine (fsI_m (by omega) ?_).symm
      refine decide_eq_false (fun z => z ?_)
      omega
  have lo2 : ∀ c : Int, tkK B n S = 1 → ∀ j, S ≤ j → j ≤ n → j ≤ tkE B n S → fsI (fun k => decide (tkK B n k ≠ tkK B n S)) n j = tkE B n S → Φ 144 [some (zo 670), some (zi c)] [] (zsI (zsI (zsI M 670 9 S) 670 11 (min9 (tkV B S j))) 670 8 j) 0 0 := by
    intro c hk1
    refine zdownF (lo := S) (n := n) (P := fun j => j ≤ tkE B n S → fsI (fun k => decide (tkK B n k ≠ tkK B n S)) n j = tkE B n S → Φ 144 [some (zo 670), some (zi c)] [] (zsI (zsI (zsI M 670 9 S) 670 11 (min9 (tkV B S j))) 670 8 j) 0 0) (fun j h0 h1 ih hjE hE => ?_)
    have hby := byA_r (k := j) hX7 (by omega)
    have hkj := tkK_r B n j
    have htv := (tkV_t (n := n) (s := S) (by omega) hk1 j h0 hjE).1
    have htv1 := tkV_s (B := B) h0
    obtain ⟨v, hv⟩ : ∃ v, tkV B S j = v := ⟨_, rfl⟩
    rw [hv] at htv htv1 ⊢
    have hm9 : 0 ≤ min9 v ∧ min9 v ≤ 9999 := by unfold min9; split <;> omega
    refine zGoR hΦ [144] 400 (fun hL9 _ hM _ _ => ?_)
    obtain ⟨qL1, _⟩ : zrg c ∧ True := hL9
    refine ⟨hY.w, ⟨⟨⟨rfl, rfl⟩, hY.w.rcv⟩, ⟨B, n, j, rfl, hY, (RTx.i (by decide) (RTx.i (by decide) (RTx.i (by decide) hX7))), (by omega), fun (qg1 : zrg (byA B n j)) qm2 => ⟨⟨⟨rfl, rfl⟩, trivial⟩, ⟨rfl, ⟨fun h => (have qc3 : byA B n j < 48 := zc_lt h; ⟨(Or.inl rfl), fun _ _ => ⟨fun _ => ⟨⟨hY.w, trivial⟩, (show K none (zsI (zsI (zsI (zsI M 670 9 S) 670 11 (min9 v)) 670 8 j) 670 10 2) from ?g360l1)⟩, fun (h : (0 : Int) ≠ 0) => absurd h (by decide)⟩⟩), fun h => (have qc5 : byA B n j ≥ 48 := zc_ge h; ⟨fun h => (have qc6 : byA B n j > 57 := zc_gt h; ⟨(Or.inl rfl), fun _ _ => ⟨fun _ => ⟨⟨hY.w, trivial⟩, (show K none (zsI (zsI (zsI (zsI M 670 9 S) 670 11 (min9 v)) 670 8 j) 670 10 2) from ?g360l2)⟩, fun (h : (0 : Int) ≠ 0) => absurd h (by decide)⟩⟩), fun h => (have qc8 : byA B n j ≤ 57 := zc_le h; ⟨(Or.inr rfl), fun _ _ => ⟨fun (h : (1 : Int) = 0) => absurd h (by decide), fun _ => ⟨hY.w, ⟨(zrgI (x := 10 * (min9 v)) (by omega)), ⟨hY.w, ⟨⟨⟨rfl, rfl⟩, hY.w.rcv⟩, ⟨B, n, j, rfl, hY, (RTx.i (by decide) (RTx.i (by decide) (RTx.i (by decide) hX7))), (by omega), fun (qg10 : zrg (byA B n j)) qm11 => ⟨(zrgI (x := 10 * (min9 v) + byA B n j) (by omega)), ⟨(zrgI (x := (10 * (min9 v) + byA B n j) - 48) (by omega)), ⟨rfl, ⟨⟨hY.w, trivial⟩, ⟨rfl, ⟨hY.w, ⟨(zrgI (x := j + 1) (by omega)), ⟨⟨hY.w, trivial⟩, (show Φ 144 [some (zo 670), some (zi c)] [] (zsI (zsI (zsI (zsI (zsI M 670 9 S) 670 11 (min9 v)) 670 8 j) 670 11 (zmin 9999 ((10 * (min9 v) + byA B n j) - 48))) 670 8 (j + 1)) (0) (0) from ?g360l3)⟩⟩⟩⟩⟩⟩⟩⟩⟩⟩⟩⟩⟩⟩⟩)⟩)⟩⟩⟩⟩⟩⟩
    case g360l1 =>
      have e9 : tkE B n S = j := by
        rw [← hE]
        by_cases z : j < n
        · exact fsI_h (decide_eq_true (by have := hby.1 z; omega))
        · exact fsI_e (by omega)
      refine hK _ ?_ ⟨?_, ?_⟩ ⟨?_, ?_, ?_, ?_, ?_⟩
      · exact ((((RXn.rf.tr (RXn.i (M := M) hY (by decide))).tr (RXn.i (M := (zsI M 670 9 S)) hY (by decide))).tr (RXn.i (M := (zsI (zsI M 670 9 S) 670 11 (min9 v))) hY (by decide))).tr (RXn.i (M := (zsI (zsI (zsI M 670 9 S) 670 11 (min9 v)) 670 8 j)) hY (by decide)))
      · simp (disch := omega) only [zIs, zIm]
      · simp (disch := omega) only [zIs, zIm]
      · simp (disch := omega) only [zIs, zIm]
      · simp (disch := omega) only [zIs, zIm]
        exact e9.symm
      · simp (disch := omega) only [zIs, zIm]
        rw [hk1]; rfl
      · intro z
        simp (disch := omega) only [zIs, zIm]
        rw [e9, hv]
      · intro z
        omega
    case g360l2 =>
      have e9 : tkE B n S = j := by
        rw [← hE]
        by_cases z : j < n
        · exact fsI_h (decide_eq_true (by have := hby.1 z; omega))
        · exact fsI_e (by omega)
      refine hK _ ?_ ⟨?_, ?_⟩ ⟨?_, ?_, ?_, ?_, ?_⟩
      · exact ((((RXn.rf.tr (RXn.i (M := M) hY (by decide))).tr (RXn.i (M := (zsI M 670 9 S)) hY (by decide))).tr (RXn.i (M := (zsI (zsI M 670 9 S) 670 11 (min9 v))) hY (by decide))).tr (RXn.i (M := (zsI (zsI (zsI M 670 9 S) 670 11 (min9 v)) 670 8 j)) hY (by decide)))
      · simp (disch := omega) only [zIs, zIm]
      · simp (disch := omega) only [zIs, zIm]
      · simp (disch := omega) only [zIs, zIm]
      · simp (disch := omega) only [zIs, zIm]
        exact e9.symm
      · simp (disch := omega) only [zIs, zIm]
        rw [hk1]; rfl
      · intro z
        simp (disch := omega) only [zIs, zIm]
        rw [e9, hv]
      · intro z
        omega
    case g360l3 =>
      have hb := hby.1 (by omega)
      have e3 : zmin 9999 (10 * min9 v + byA B n j - 48) = min9 (tkV B S (j + 1)) := by
        rw [htv1, hb.1]
        unfold zmin min9
        (repeat' split) <;> omega
      rw [e3]
      have e4 : zsI (zsI (zsI (zsI (zsI M 670 9 S) 670 11 (min9 v)) 670 8 j) 670 11 (min9 (tkV B S (j + 1)))) 670 8 (j + 1) = zsI (zsI (zsI M 670 9 S) 670 11 (min9 (tkV B S (j + 1)))) 670 8 (j + 1) := by
        rw [zsI_c (zsI (zsI M 670 9 S) 670 11 (min9 v)) 670 j _ (by decide), zsI_2, zsI_2]
      rw [e4]
      have e5 : fsI (fun k => decide (tkK B n k ≠ tkK B n S)) n (j + 1) = tkE B n S := by
        rw [← hE]
        refine (fsI_m (by omega) ?_).symm
        exact decide_eq_false (fun z => z (by omega))
      refine ih (by omega) ?_ e5
      have := (fsI_r (p := fun k => decide (tkK B n k ≠ tkK B n S)) (n := n) _ (j + 1) rfl).1
      rw [e5] at this
      exact this
  have lo0 : ∀ i, 0 ≤ i → i ≤ n → tkS B n i = S → Φ 0 [some (zo 670), none] [] (zsI M 670 8 i) 0 0 := by
    refine zdown (n := n) (P := fun i => tkS B n i = S → Φ 0 [some (zo 670), none] [] (zsI M 670 8 i) 0 0) (fun i h0 h1 ih hS2 => ?_)
    have hby := byA_r (k := i) hX7 (by omega)
    have hbS : byA B n i ≠ 32 → byA B n i ≠ 10 → i = S := fun q0 q1 => by
      rw [← hS2]
      unfold tkS
      by_cases z : i < n
      · have hb := hby.1 z
        exact (fsI_h (decide_eq_true ⟨by omega, by omega⟩)).symm
      · exact (fsI_e (by omega)).symm
    refine zGoR hΦ [0, 83, 144] 400 (fun hL9 _ hM _ _ => ?_)
    obtain ⟨_⟩ : True := hL9
    refine ⟨hY.w, ⟨⟨⟨rfl, rfl⟩, hY.w.rcv⟩, ⟨B, n, i, rfl, hY, (RTx.i (by decide) hX7), (by omega), fun (qg1 : zrg (byA B n i)) qm2 => ⟨fun (qc3 : byA B n i = 32) => ⟨rfl, ⟨hY.w, ⟨(zrgI (x := i + 1) (by omega)), ⟨⟨hY.w, trivial⟩, (show Φ 0 [some (zo 670), none] [] (zsI (zsI M 670 8 i) 670 8 (i + 1)) (0) (0) from ?g361l1)⟩⟩⟩⟩, fun (qc4 : byA B n i ≠ 32) => ⟨hY.w, ⟨⟨⟨rfl, rfl⟩, hY.w.rcv⟩, ⟨B, n, i, rfl, hY, (RTx.i (by decide) hX7), (by omega), fun (qg5 : zrg (byA B n i)) qm6 => ⟨fun (qc7 : byA B n i ≠ 10) => ⟨hY.w, ⟨⟨hY.w, trivial⟩, ⟨hY.w, ⟨⟨⟨rfl, rfl⟩, hY.w.rcv⟩, ⟨B, n, i, rfl, hY, (RTx.i (by decide) (RTx.i (by decide) hX7)), (by omega), fun (qg8 : zrg (byA B n i)) qm9 => ⟨fun (qc10 : byA B n i ≠ (-1)) => ⟨⟨⟨rfl, rfl⟩, trivial⟩, ⟨rfl, ⟨fun h => (have qc11 : byA B n i < 97 := zc_lt h; ⟨(Or.inl rfl), fun _ _ => ⟨fun _ => ⟨⟨⟨rfl, rfl⟩, trivial⟩, ⟨rfl, ⟨fun h => (have qc13 : byA B n i < 48 := zc_lt h; ⟨(Or.inl rfl), fun _ _ => ⟨fun _ => ⟨⟨hY.w, trivial⟩, ⟨⟨hY.w, trivial⟩, ⟨rfl, ⟨hY.w, ⟨(zrgI (x := i + 1) (by omega)), ⟨⟨hY.w, trivial⟩, (show K none (zsI (zsI (zsI (zsI (zsI M 670 8 i) 670 9 i) 670 10 3) 670 11 (byA B n i)) 670 8 (i + 1)) from ?g361l2)⟩⟩⟩⟩⟩⟩, fun (h : (0 : Int) ≠ 0) => absurd h (by decide)⟩⟩), fun h => (have qc15 : byA B n i ≥ 48 := zc_ge h; ⟨fun h => (have qc16 : byA B n i > 57 := zc_gt h; ⟨(Or.inl rfl), fun _ _ => ⟨fun _ => ⟨⟨hY.w, trivial⟩, ⟨⟨hY.w, trivial⟩, ⟨rfl, ⟨hY.w, ⟨(zrgI (x := i + 1) (by omega)), ⟨⟨hY.w, trivial⟩, (show K none (zsI (zsI (zsI (zsI (zsI M 670 8 i) 670 9 i) 670 10 3) 670 11 (byA B n i)) 670 8 (i + 1)) from ?g361l3)⟩⟩⟩⟩⟩⟩, fun (h : (0 : Int) ≠ 0) => absurd h (by decide)⟩⟩), fun h => (have qc18 : byA B n i ≤ 57 := zc_le h; ⟨(Or.inr rfl), fun _ _ => ⟨fun (h : (1 : Int) = 0) => absurd h (by decide), fun _ => ⟨⟨hY.w, trivial⟩, (show Φ 144 [some (zo 670), some (zi (byA B n i))] [] (zsI (zsI (zsI M 670 8 i) 670 9 i) 670 11 0) (0) (0) from ?g361l4)⟩⟩⟩)⟩)⟩⟩⟩, fun (h : (0 : Int) ≠ 0) => absurd h (by decide)⟩⟩), fun h => (have qc20 : byA B n i ≥ 97 := zc_ge h; ⟨fun h => (have qc21 : byA B n i > 122 := zc_gt h; ⟨(Or.inl rfl), fun _ _ => ⟨fun _ => ⟨⟨⟨rfl, rfl⟩, trivial⟩, ⟨rfl, ⟨fun h => (have qc23 : byA B n i < 48 := zc_lt h; ⟨(Or.inl rfl), fun _ _ => ⟨fun _ => ⟨⟨hY.w, trivial⟩, ⟨⟨hY.w, trivial⟩, ⟨rfl, ⟨hY.w, ⟨(zrgI (x := i + 1) (by omega)), ⟨⟨hY.w, trivial⟩, (show K none (zsI (zsI (zsI (zsI (zsI M 670 8 i) 670 9 i) 670 10 3) 670 11 (byA B n i)) 670 8 (i + 1)) from ?g361l5)⟩⟩⟩⟩⟩⟩, fun (h : (0 : Int) ≠ 0) => absurd h (by decide)⟩⟩), fun h => (have qc25 : byA B n i ≥ 48 := zc_ge h; ⟨fun h => (have qc26 : byA B n i > 57 := zc_gt h; ⟨(Or.inl rfl), fun _ _ => ⟨fun _ => ⟨⟨hY.w, trivial⟩, ⟨⟨hY.w, trivial⟩, ⟨rfl, ⟨hY.w, ⟨(zrgI (x := i + 1) (by omega)), ⟨⟨hY.w, trivial⟩, (show K none (zsI (zsI (zsI (zsI (zsI M 670 8 i) 670 9 i) 670 10 3) 670 11 (byA B n i)) 670 8 (i + 1)) from ?g361l6)⟩⟩⟩⟩⟩⟩, fun (h : (0 : Int) ≠ 0) => absurd h (by decide)⟩⟩), fun h => (have qc28 : byA B n i ≤ 57 := zc_le h; ⟨(Or.inr rfl), fun _ _ => ⟨fun (h : (1 : Int) = 0) => absurd h (by decide), fun _ => ⟨⟨hY.w, trivial⟩, (show Φ 144 [some (zo 670), some (zi (byA B n i))] [] (zsI (zsI (zsI M 670 8 i) 670 9 i) 670 11 0) (0) (0) from ?g361l7)⟩⟩⟩)⟩)⟩⟩⟩, fun (h : (0 : Int) ≠ 0) => absurd h (by decide)⟩⟩), fun h => (have qc30 : byA B n i ≤ 122 := zc_le h; ⟨(Or.inr rfl), fun _ _ => ⟨fun (h : (1 : Int) = 0) => absurd h (by decide), fun _ => (show Φ 83 [some (zo 670), some (zi (byA B n i))] [] (zsI (zsI M 670 8 i) 670 9 i) (0) (0) from ?g361l8)⟩⟩)⟩)⟩⟩⟩, fun (qc32 : byA B n i = (-1)) => ⟨⟨hY.w, trivial⟩, (show K none (zsI (zsI (zsI M 670 8 i) 670 9 i) 670 10 0) from ?g361l9)⟩⟩⟩⟩⟩⟩⟩, fun (qc33 : byA B n i = 10) => ⟨rfl, ⟨hY.w, ⟨(zrgI (x := i + 1) (by omega)), ⟨⟨hY.w, trivial⟩, (show Φ 0 [some (zo 670), none] [] (zsI (zsI M 670 8 i) 670 8 (i + 1)) (0) (0) from ?g361l10)⟩⟩⟩⟩⟩⟩⟩⟩⟩⟩⟩⟩
    case g361l1 =>
      rw [zsI_2]
      have hb := hby.1 (by omega)
      refine ih (by omega) ?_
      rw [← hS2]
      unfold tkS
      refine (fsI_m (by omega) ?_).symm
      exact decide_eq_false (fun z => by omega)
    case g361l2 =>
      have e0 := hbS (by omega) (by omega)
      subst e0
      have hby2 := hby
      have hb := hby.1 (by omega)
      have hk2 : tkK B n i = 2 := by omega
      have e9 : tkE B n i = i + 1 := by unfold tkE; rw [if_pos hk2]
      refine hK _ ?_ ⟨?_, ?_⟩ ⟨?_, ?_, ?_, ?_, ?_⟩
      · exact (((((RXn.rf.tr (RXn.i (M := M) hY (by decide))).tr (RXn.i (M := (zsI M 670 8 i)) hY (by decide))).tr (RXn.i (M := (zsI (zsI M 670 8 i) 670 9 i)) hY (by decide))).tr (RXn.i (M := (zsI (zsI (zsI M 670 8 i) 670 9 i) 670 10 3)) hY (by decide))).tr (RXn.i (M := (zsI (zsI (zsI (zsI M 670 8 i) 670 9 i) 670 10 3) 670 11 (byA B n i))) hY (by decide)))
      · simp (disch := omega) only [zIs, zIm]
      · simp (disch := omega) only [zIs, zIm]
      · simp (disch := omega) only [zIs, zIm]
      · simp (disch := omega) only [zIs, zIm]
        exact e9.symm
      · simp (disch := omega) only [zIs, zIm]
        rw [hk2]; rfl
      · intro z
        omega
      · intro z
        simp (disch := omega) only [zIs, zIm]
        exact hb.1
    case g361l3 =>
      have e0 := hbS (by omega) (by omega)
      subst e0
      have hby2 := hby
      have hb := hby.1 (by omega)
      have hk2 : tkK B n i = 2 := by omega
      have e9 : tkE B n i = i + 1 := by unfold tkE; rw [if_pos hk2]
      refine hK _ ?_ ⟨?_, ?_⟩ ⟨?_, ?_, ?_, ?_, ?_⟩
      · exact (((((RXn.rf.tr (RXn.i (M := M) hY (by decide))).tr (RXn.i (M := (zsI M 670 8 i)) hY (by decide))).tr (RXn.i (M := (zsI (zsI M 670 8 i) 670 9 i)) hY (by decide))).tr (RXn.i (M := (zsI (zsI (zsI M 670 8 i) 670 9 i) 670 10 3)) hY (by decide))).tr (RXn.i (M := (zsI (zsI (zsI (zsI M 670 8 i) 670 9 i) 670 10 3) 670 11 (byA B n i))) hY (by decide)))
      · simp (disch := omega) only [zIs, zIm]
      · simp (disch := omega) only [zIs, zIm]
      · simp (disch := omega) only [zIs, zIm]
      · simp (disch := omega) only [zIs, zIm]
        exact e9.symm
      · simp (disch := omega) only [zIs, zIm]
        rw [hk2]; rfl
      · intro z
        omega
      · intro z
        simp (disch := omega) only [zIs, zIm]
        exact hb.1
    case g361l4 =>
      have e0 := hbS (by omega) (by omega)
      subst e0
      have hby2 := hby
      have hb := hby.1 (by omega)
      have hk1 : tkK B n i = 1 := by omega
      have h9 := lo2 (byA B n i) hk1 i (Int.le_refl _) (by omega) her.1 (by unfold tkE; rw [if_neg (by omega)])
      rw [tkV_0] at h9
      have e0 : min9 0 = 0 := by decide
      rw [e0] at h9
      rw [zsI_c M 670 _ _ (by decide), zsI_c (zsI M 670 9 i) 670 _ _ (by decide)]
      exact h9
    case g361l5 =>
      have e0 := hbS (by omega) (by omega)
      subst e0
      have hby2 := hby
      have hb := hby.1 (by omega)
      have hk2 : tkK B n i = 2 := by omega
      have e9 : tkE B n i = i + 1 := by unfold tkE; rw [if_pos hk2]
      refine hK _ ?_ ⟨?_, ?_⟩ ⟨?_, ?_, ?_, ?_, ?_⟩
      · exact (((((RXn.rf.tr (RXn.i (M := M) hY (by decide))).tr (RXn.i (M := (zsI M 670 8 i)) hY (by decide))).tr (RXn.i (M := (zsI (zsI M 670 8 i) 670 9 i)) hY (by decide))).tr (RXn.i (M := (zsI (zsI (zsI M 670 8 i) 670 9 i) 670 10 3)) hY (by decide))).tr (RXn.i (M := (zsI (zsI (zsI (zsI M 670 8 i) 670 9 i) 670 10 3) 670 11 (byA B n i))) hY (by decide)))
      · simp (disch := omega) only [zIs, zIm]
      · simp (disch := omega) only [zIs, zIm]
      · simp (disch := omega) only [zIs, zIm]
      · simp (disch := omega) only [zIs, zIm]
        exact e9.symm
      · simp (disch := omega) only [zIs, zIm]
        rw [hk2]; rfl
      · intro z
        omega
      · intro z
        simp (disch := omega) only [zIs, zIm]
        exact hb.1
    case g361l6 =>
      have e0 := hbS (by omega) (by omega)
      subst e0
      have hby2 := hby
      have hb := hby.1 (by omega)
      have hk2 : tkK B n i = 2 := by omega
      have e9 : tkE B n i = i + 1 := by unfold tkE; rw [if_pos hk2]
      refine hK _ ?_ ⟨?_, ?_⟩ ⟨?_, ?_, ?_, ?_, ?_⟩
      · exact (((((RXn.rf.tr (RXn.i (M := M) hY (by decide))).tr (RXn.i (M := (zsI M 670 8 i)) hY (by decide))).tr (RXn.i (M := (zsI (zsI M 670 8 i) 670 9 i)) hY (by decide))).tr (RXn.i (M := (zsI (zsI (zsI M 670 8 i) 670 9 i) 670 10 3)) hY (by decide))).tr (RXn.i (M := (zsI (zsI (zsI (zsI M 670 8 i) 670 9 i) 670 10 3) 670 11 (byA B n i))) hY (by decide)))
      · simp (disch := omega) only [zIs, zIm]
      · simp (disch := omega) only [zIs, zIm]
      · simp (disch := omega) only [zIs, zIm]
      · simp (disch := omega) only [zIs, zIm]
        exact e9.symm
      · simp (disch := omega) only [zIs, zIm]
        rw [hk2]; rfl
      · intro z
        omega
      · intro z
        simp (disch := omega) only [zIs, zIm]
        exact hb.1
    case g361l7 =>
      have e0 := hbS (by omega) (by omega)
      subst e0
      have hby2 := hby
      have hb := hby.1 (by omega)
      have hk1 : tkK B n i = 1 := by omega
      have h9 := lo2 (byA B n i) hk1 i (Int.le_refl _) (by omega) her.1 (by unfold tkE; rw [if_neg (by omega)])
      rw [tkV_0] at h9
      have e0 : min9 0 = 0 := by decide
      rw [e0] at h9
      rw [zsI_c M 670 _ _ (by decide), zsI_c (zsI M 670 9 i) 670 _ _ (by decide)]
      exact h9
    case g361l8 =>
      have e0 := hbS (by omega) (by omega)
      subst e0
      have hby2 := hby
      have hb := hby.1 (by omega)
      have hk0 : tkK B n i = 0 := by omega
      rw [zsI_c M 670 _ _ (by decide)]
      refine lo1 _ hk0 i (Int.le_refl _) (by omega) ?_
      unfold tkE
      rw [if_neg (by omega)]
    case g361l9 =>
      have e0 := hbS (by omega) (by omega)
      subst e0
      have hby2 := hby
      have hk3 : tkK B n i = 3 := by omega
      refine hK _ ?_ ⟨?_, ?_⟩ ⟨?_, ?_, ?_, ?_, ?_⟩
      · exact (((RXn.rf.tr (RXn.i (M := M) hY (by decide))).tr (RXn.i (M := (zsI M 670 8 i)) hY (by decide))).tr (RXn.i (M := (zsI (zsI M 670 8 i) 670 9 i)) hY (by decide)))
      · simp (disch := omega) only [zIs, zIm]
      · simp (disch := omega) only [zIs, zIm]
      · simp (disch := omega) only [zIs, zIm]
      · simp (disch := omega) only [zIs, zIm]
        exact (her.2.2.2.1 (by omega)).symm
      · simp (disch := omega) only [zIs, zIm]
        rw [hk3]; rfl
      · intro z
        omega
      · intro z
        omega
    case g361l10 =>
      rw [zsI_2]
      have hb := hby.1 (by omega)
      refine ih (by omega) ?_
      rw [← hS2]
      unfold tkS
      refine (fsI_m (by omega) ?_).symm
      exact decide_eq_false (fun z => by omega)
  have h9 := lo0 i hi0.1 hi0.2 hS
  rw [zsI_id hi] at h9
  exact h9
theorem M_X9_scan {l : Launch} (hl : l.stackTraces = false) : zMet l yX9_scan (Cond.code yX9_scan cX9_scan 2 (Option.none : Option Jvm.ClassFile.FieldType) :: zG) rm_X9_scan 0 0 T_X9_scan := met_X9_scan hl (M_X9_byteAt hl) (M_X9_in hl) bd_X9_scan
