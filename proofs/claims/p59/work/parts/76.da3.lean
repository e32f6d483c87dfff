def KD (M : ZM) : Prop := (zO M 59 21 ∧ zLn M 59 = 100) ∧ (zO M 60 21 ∧ zLn M 60 = 100) ∧ ∀ k : Int, 0 ≤ k → k < 100 → zI M 59 k.toNat = 48 + k % 10 ∧ zI M 60 k.toNat = 48 + k / 10
theorem KD.o59 {M : ZM} (h : KD M) : zO M 59 21 := h.1.1
theorem KD.l59 {M : ZM} (h : KD M) : zLn M 59 = 100 := h.1.2
theorem KD.o60 {M : ZM} (h : KD M) : zO M 60 21 := h.2.1.1
theorem KD.l60 {M : ZM} (h : KD M) : zLn M 60 = 100 := h.2.1.2
theorem KD.fx {M M' : ZM} {b c : Nat} {o : List Int} (h : KD M) (hS : SB M b c o) (f : FX b M M') : KD M' := by
  have hb : 64 ≤ b := hS.w.2.1
  have hu : 64 ≤ vu M b := hS.a.2.1
  obtain ⟨h1, h2, h3⟩ := h
  obtain ⟨f1, f2, f3⟩ := f
  obtain ⟨a1, a2, a3, a4⟩ := f3 59 h1.1.2
  obtain ⟨b1, b2, b3, b4⟩ := f3 60 h2.1.2
  refine ⟨⟨⟨a1.trans h1.1.1, Nat.lt_of_lt_of_le h1.1.2 f1⟩, a2.trans h1.2⟩, ⟨⟨b1.trans h2.1.1, Nat.lt_of_lt_of_le h2.1.2 f1⟩, b2.trans h2.2⟩, ?_⟩
  rw [a4 (by omega) (by omega), b4 (by omega) (by omega)]
  exact h3
theorem KD.fr {S : Nat → Prop} {M M' : ZM} (h : KD M) (f : Fr S M M') (s0 : ¬ S 59) (s1 : ¬ S 60) : KD M' := by
  obtain ⟨h1, h2, h3⟩ := h
  obtain ⟨a1, a2, a3, a4⟩ := f.2.1 59 h1.1.2
  obtain ⟨b1, b2, b3, b4⟩ := f.2.1 60 h2.1.2
  refine ⟨⟨⟨a1.trans h1.1.1, Nat.lt_of_lt_of_le h1.1.2 f.1⟩, a2.trans h1.2⟩, ⟨⟨b1.trans h2.1.1, Nat.lt_of_lt_of_le h2.1.2 f.1⟩, b2.trans h2.2⟩, ?_⟩
  rw [(a3 s0).1, (b3 s1).1]
  exact h3
theorem digl {v : Int} (h : 0 ≤ v ∧ v < 1000000) : (v < 10 → (dig v).length = 1) ∧ (10 ≤ v → v < 100 → (dig v).length = 2) ∧ (100 ≤ v → v < 1000 → (dig v).length = 3) ∧ (1000 ≤ v → v < 10000 → (dig v).length = 4) ∧ (10000 ≤ v → v < 100000 → (dig v).length = 5) ∧ (100000 ≤ v → (dig v).length = 6) := by
  unfold dig
  rw [dgs_len]
  simp only [dlen]
  refine ⟨?_, ?_, ?_, ?_, ?_, ?_⟩ <;> intros <;> (repeat' split) <;> omega
theorem dig_e1 {v : Int} (h : 0 ≤ v) (h1 : v < 10) : dig v = [48 + v] := by
  unfold dig
  rw [show dlen 10 v 5 = 0 from if_pos h1]
  show [48 + v % 10] = _
  rw [Int.emod_eq_of_lt h h1]
theorem dig_e2 {v : Int} (h : 10 ≤ v) (h1 : v < 100) : dig v = [48 + v / 10, 48 + v % 10] := by
  unfold dig
  rw [show dlen 10 v 5 = 1 by simp only [dlen]; (repeat' split) <;> omega]
  show [48 + v / 10 ^ (0 + 1) % 10, 48 + v % 10] = _
  rw [show (10 : Int) ^ (0 + 1) = 10 by decide, Int.emod_eq_of_lt (show 0 ≤ v / 10 by omega) (show v / 10 < 10 by omega)]
theorem dig_e3 {v : Int} (h : 100 ≤ v) (h1 : v < 1000000) : dig v = dig (v / 100) ++ [48 + v % 100 / 10, 48 + v % 100 % 10] := by
  have hd : dlen 10 v 5 = dlen 10 (v / 100) 5 + 2 := by simp only [dlen]; (repeat' split) <;> omega
  have hq : dlen 10 (v / 100) 5 = 0 ∨ dlen 10 (v / 100) 5 = 1 ∨ dlen 10 (v / 100) 5 = 2 ∨ dlen 10 (v / 100) 5 = 3 := by simp only [dlen]; (repeat' split) <;> omega
  unfold dig
  rw [hd]
  have p1 : (10 : Int) ^ 1 = 10 := by decide
  have p2 : (10 : Int) ^ 2 = 100 := by decide
  have p3 : (10 : Int) ^ 3 = 1000 := by decide
  have p4 : (10 : Int) ^ 4 = 10000 := by decide
  have p5 : (10 : Int) ^ 5 = 100000 := by decide
  rcases hq with q | q | q | q <;> rw [q]
  · show (48 + v / 10 ^ 2 % 10) :: (48 + v / 10 ^ 1 % 10) :: [48 + v % 10] = ([48 + v / 100 % 10]) ++ [48 + v % 100 / 10, 48 + v % 100 % 10]
    simp only [p1, p2, List.cons_append, List.nil_append, List.cons.injEq, and_true, true_and]
    omega
  · show (48 + v / 10 ^ 3 % 10) :: (48 + v / 10 ^ 2 % 10) :: (48 + v / 10 ^ 1 % 10) :: [48 + v % 10] = ((48 + v / 100 / 10 ^ 1 % 10) :: [48 + v / 100 % 10]) ++ [48 + v % 100 / 10, 48 + v % 100 % 10]
    simp only [p1, p2, p3, List.cons_append, List.nil_append, List.cons.injEq, and_true, true_and]
    omega
  · show (48 + v / 10 ^ 4 % 10) :: (48 + v / 10 ^ 3 % 10) :: (48 + v / 10 ^ 2 % 10) :: (48 + v / 10 ^ 1 % 10) :: [48 + v % 10] = ((48 + v / 100 / 10 ^ 2 % 10) :: (48 + v / 100 / 10 ^ 1 % 10) :: [48 + v / 100 % 10]) ++ [48 + v % 100 / 10, 48 + v % 100 % 10]
    simp only [p1, p2, p3, p4, List.cons_append, List.nil_append, List.cons.injEq, and_true, true_and]
    omega
  · show (48 + v / 10 ^ 5 % 10) :: (48 + v / 10 ^ 4 % 10) :: (48 + v / 10 ^ 3 % 10) :: (48 + v / 10 ^ 2 % 10) :: (48 + v / 10 ^ 1 % 10) :: [48 + v % 10] = ((48 + v / 100 / 10 ^ 3 % 10) :: (48 + v / 100 / 10 ^ 2 % 10) :: (48 + v / 100 / 10 ^ 1 % 10) :: [48 + v / 100 % 10]) ++ [48 + v % 100 / 10, 48 + v % 100 % 10]
    simp only [p1, p2, p3, p4, p5, List.cons_append, List.nil_append, List.cons.injEq, and_true, true_and]
    omega
theorem dgs_r {b off v : Int} (hb : 0 < b) : ∀ (j k : Nat), k < j + 1 → off ≤ (dgs b off v j).getD k 0 ∧ (dgs b off v j).getD k 0 < off + b := by
  intro j
  induction j with
  | zero =>
    intro k hk
    have e : k = 0 := by omega
    subst e
    show off ≤ off + v % b ∧ off + v % b < off + b
    have h1 := Int.emod_nonneg v (show b ≠ 0 by omega)
    have h2 := Int.emod_lt_of_pos v hb
    omega
  | succ j ih =>
    intro k hk
    cases k with
    | zero =>
      show off ≤ off + v / b ^ (j + 1) % b ∧ off + v / b ^ (j + 1) % b < off + b
      have h1 := Int.emod_nonneg (v / b ^ (j + 1)) (show b ≠ 0 by omega)
      have h2 := Int.emod_lt_of_pos (v / b ^ (j + 1)) hb
      omega
    | succ k =>
      have h9 := ih k (by omega)
      exact h9
theorem dig_r (v : Int) {k : Nat} (hk : k < (dig v).length) : 0 ≤ (dig v).getD k 0 ∧ (dig v).getD k 0 < 128 := by
  unfold dig at hk ⊢
  rw [dgs_len] at hk
  have h9 := dgs_r (b := 10) (off := 48) (v := v) (by decide) _ _ hk
  omega
/-- a text put into an array, ending ahead of p -/
def WD (g g' : Gm) (lo p : Int) (l : List Int) : Prop := (p = lo + (l.length : Int) ∧ 0 ≤ lo) ∧ (∀ k : Nat, (k : Int) < lo ∨ p ≤ (k : Int) → g' k = g k) ∧ ∀ k : Nat, k < l.length → g' (lo + (k : Int)).toNat = l.getD k 0
theorem WD.one {g : Gm} {p x : Int} (h : 0 ≤ p) : WD g (gU g p x) p (p + 1) [x] := by
  refine ⟨⟨rfl, h⟩, fun k hk => gU_n _ (by omega), fun k hk => ?_⟩
  have e : k = 0 := by rw [List.length_singleton] at hk; omega
  subst e
  rw [show (p + ((0 : Nat) : Int)) = p by omega, gU_s]
  rfl
theorem WD.app {g g1 g2 : Gm} {lo p1 p : Int} {l1 l2 : List Int} (h1 : WD g1 g2 lo p1 l1) (h2 : WD g g1 p1 p l2) : WD g g2 lo p (l1 ++ l2) := by
  obtain ⟨⟨a1, a2⟩, a3, a4⟩ := h1
  obtain ⟨⟨b1, b2⟩, b3, b4⟩ := h2
  refine ⟨⟨?_, a2⟩, fun k hk => ?_, fun k hk => ?_⟩
  · rw [List.length_append]; omega
  · rw [a3 k (by omega), b3 k (by omega)]
  · rw [List.length_append] at hk
    by_cases q : k < l1.length
    · rw [a4 k q, List.getD_eq_getElem?_getD, List.getD_eq_getElem?_getD, List.getElem?_append_left q]
    · have h9 := b4 (k - l1.length) (by omega)
      have e : p1 + ((k - l1.length : Nat) : Int) = lo + (k : Int) := by omega
      rw [e] at h9
      rw [a3 _ (by omega), h9, List.getD_eq_getElem?_getD, List.getD_eq_getElem?_getD, List.getElem?_append_right (by omega)]
theorem SB.wd {M : ZM} {b c : Nat} {o l : List Int} {g' : Gm} (h : SB M b c o) (hw : WD (zI M (vu M b)) g' (o.length : Int) ((o.length : Int) + (l.length : Int)) l) (hc : o.length + l.length ≤ c) (hl : ∀ k, k < l.length → 0 ≤ l.getD k 0 ∧ l.getD k 0 < 128) : SB (zsI (zsA M (vu M b) g') b 3 ((o.length : Int) + (l.length : Int))) b c (o ++ l) ∧ FX b M (zsI (zsA M (vu M b) g') b 3 ((o.length : Int) + (l.length : Int))) := by
  obtain ⟨h1, h2, h3, h4, h5, h6⟩ := id h
  obtain ⟨-, w2, w3⟩ := hw
  have e1 : zI (zsI (zsA M (vu M b) g') b 3 ((o.length : Int) + (l.length : Int))) (vu M b) = g' := by
    rw [zI_In _ _ _ (Ne.symm h.bu)]
    exact zI_A _ _ _
  have hk9 : ∀ k : Nat, g' k = if o.length ≤ k ∧ k < o.length + l.length then l.getD (k - o.length) 0 else zI M (vu M b) k := fun k => by
    split
    · have h9 := w3 (k - o.length) (by omega)
      rw [show ((o.length : Int) + ((k - o.length : Nat) : Int)).toNat = k by omega] at h9
      exact h9
    · exact w2 k (by omega)
  refine ⟨⟨h1, h2, ⟨?_, ?_⟩, ⟨?_, h4.2⟩, fun k => ?_, fun k hk => ?_⟩, Nat.le_refl _, Or.inl rfl, fun x _ => ⟨rfl, rfl, fun _ => rfl, fun q z => ?_⟩⟩
  · rw [zI_Im _ _ _ (by decide), zI_An _ _ h.bu]; exact h3.1
  · rw [zI_Is, List.length_append]; omega
  · rw [List.length_append]; exact hc
  · show zPb (zI (zsI (zsA M (vu M b) g') b 3 ((o.length : Int) + (l.length : Int))) (vu M b) k)
    rw [e1, hk9]
    split
    · have := hl (k - o.length) (by omega)
      exact zPbI (by omega)
    · exact h5 k
  · show zI (zsI (zsA M (vu M b) g') b 3 ((o.length : Int) + (l.length : Int))) (vu M b) k = _
    rw [e1, hk9]
    rw [List.length_append] at hk
    by_cases q : k < o.length
    · rw [if_neg (by omega), h6 k q, List.getD_eq_getElem?_getD, List.getD_eq_getElem?_getD, List.getElem?_append_left q]
    · rw [if_pos (by omega), List.getD_eq_getElem?_getD, List.getD_eq_getElem?_getD, List.getElem?_append_right (by omega)]
  · rw [zI_In _ _ _ q, zI_An _ _ z]
theorem tdn100 {w : Int} (h : 0 ≤ w) : Int.tdiv (-w) 100 = -(w / 100) := by
  rw [Int.neg_tdiv, Int.tdiv_eq_ediv_of_nonneg h]
def T_J6_stringSize_0f7a4 : ZTf := fun av M K KX => ∃ (v : Int), av = [zi v] ∧ (0 ≤ v ∧ v < 1000000) ∧  K (some (zi (((dig v).length : Int)))) M
set_option maxRecDepth 100000 in
set_option maxHeartbeats 1500000 in
theorem bd_J6_stringSize_0f7a4 : zBd (cd_J6_stringSize_0f7a4) 4 0 0 T_J6_stringSize_0f7a4 := by
  rintro av M K KX hA0 hM ⟨v, rfl, hv, hK⟩
  have hd := digl hv
  refine ⟨rfl, fun Φ hΦ => ?_⟩
  refine zGoR hΦ [16] 400 (fun hL9 _ hM _ _ => ?_)
  obtain ⟨qL1, _⟩ : zrg v ∧ True := hL9
  refine ⟨fun (qc1 : v < 0) => (show Φ 16 [some (zi v), some (zi 1), some (zi (-10)), some (zi 1)] [] M (0) (0) from ?g320l1), fun (qc2 : v ≥ 0) => ⟨(zrgI (x := -v) (by omega)), (show Φ 16 [some (zi (-v)), some (zi 0), some (zi (-10)), some (zi 1)] [] M (0) (0) from ?g320l2)⟩⟩
  case g320l1 =>
    refine zGoR hΦ [16] 400 (fun hL9 _ hM _ _ => ?_)
    obtain ⟨qL1, qL2, qL3, qL4, _⟩ : zrg v ∧ zrg 1 ∧ zrg (-10) ∧ zrg 1 ∧ True := hL9
    refine ⟨fun (h : (1 : Int) ≥ 10) => absurd h (by decide), fun _ => ⟨fun (qc102 : v ≤ (-10)) => ⟨(by decide), ⟨(by decide), (show Φ 16 [some (zi v), some (zi 1), some (zi (-100)), some (zi 2)] [] M (0) (0) from ?g321l1)⟩⟩, fun (qc103 : v > (-10)) => ⟨(by decide), ⟨trivial, (show K (some (zi 2)) M from ?g321l2)⟩⟩⟩⟩
    case g321l1 =>
      refine zGoR hΦ [16] 400 (fun hL9 _ hM _ _ => ?_)
      obtain ⟨qL1, qL2, qL3, qL4, _⟩ : zrg v ∧ zrg 1 ∧ zrg (-100) ∧ zrg 2 ∧ True := hL9
      refine ⟨fun (h : (2 : Int) ≥ 10) => absurd h (by decide), fun _ => ⟨fun (qc203 : v ≤ (-100)) => ⟨(by decide), ⟨(by decide), (show Φ 16 [some (zi v), some (zi 1), some (zi (-1000)), some (zi 3)] [] M (0) (0) from ?g322l1)⟩⟩, fun (qc204 : v > (-100)) => ⟨(by decide), ⟨trivial, (show K (some (zi 3)) M from ?g322l2)⟩⟩⟩⟩
      case g322l1 =>
        refine zGoR hΦ [16] 400 (fun hL9 _ hM _ _ => ?_)
        obtain ⟨qL1, qL2, qL3, qL4, _⟩ : zrg v ∧ zrg 1 ∧ zrg (-1000) ∧ zrg 3 ∧ True := hL9
        refine ⟨fun (h : (3 : Int) ≥ 10) => absurd h (by decide), fun _ => ⟨fun (qc304 : v ≤ (-1000)) => ⟨(by decide), ⟨(by decide), (show Φ 16 [some (zi v), some (zi 1), some (zi (-10000)), some (zi 4)] [] M (0) (0) from ?g323l1)⟩⟩, fun (qc305 : v > (-1000)) => ⟨(by decide), ⟨trivial, (show K (some (zi 4)) M from ?g323l2)⟩⟩⟩⟩
        case g323l1 =>
          refine zGoR hΦ [16] 400 (fun hL9 _ hM _ _ => ?_)
          obtain ⟨qL1, qL2, qL3, qL4, _⟩ : zrg v ∧ zrg 1 ∧ zrg (-10000) ∧ zrg 4 ∧ True := hL9
          refine ⟨fun (h : (4 : Int) ≥ 10) => absurd h (by decide), fun _ => ⟨fun (qc405 : v ≤ (-10000)) => ⟨(by decide), ⟨(by decide), (show Φ 16 [some (zi v), some (zi 1), some (zi (-100000)), some (zi 5)] [] M (0) (0) from ?g324l1)⟩⟩, fun (qc406 : v > (-10000)) => ⟨(by decide), ⟨trivial, (show K (some (zi 5)) M from ?g324l2)⟩⟩⟩⟩
          case g324l1 =>
            refine zGoR hΦ [16] 400 (fun hL9 _ hM _ _ => ?_)
            obtain ⟨qL1, qL2, qL3, qL4, _⟩ : zrg v ∧ zrg 1 ∧ zrg (-100000) ∧ zrg 5 ∧ True := hL9
            refine ⟨fun (h : (5 : Int) ≥ 10) => absurd h (by decide), fun _ => ⟨fun (qc506 : v ≤ (-100000)) => ⟨(by decide), ⟨(by decide), (show Φ 16 [some (zi v), some (zi 1), some (zi (-1000000)), some (zi 6)] [] M (0) (0) from ?g325l1)⟩⟩, fun (qc507 : v > (-100000)) => ⟨(by decide), ⟨trivial, (show K (some (zi 6)) M from ?g325l2)⟩⟩⟩⟩
            case g325l1 =>
              refine zGoR hΦ [16] 400 (fun hL9 _ hM _ _ => ?_)
              obtain ⟨qL1, qL2, qL3, qL4, _⟩ : zrg v ∧ zrg 1 ∧ zrg (-1000000) ∧ zrg 6 ∧ True := hL9
              refine ⟨fun (h : (6 : Int) ≥ 10) => absurd h (by decide), fun _ => ⟨fun (qc607 : v ≤ (-1000000)) => ⟨(by decide), ⟨(by decide), (show Φ 16 [some (zi v), some (zi 1), some (zi (-10000000)), some (zi 7)] [] M (0) (0) from ?g326l1)⟩⟩, fun (qc608 : v > (-1000000)) => ⟨(by decide), ⟨trivial, (show K (some (zi 7)) M from ?g326l2)⟩⟩⟩⟩
              case g326l1 =>
                refine zGoR hΦ [16] 400 (fun hL9 _ hM _ _ => ?_)
                obtain ⟨qL1, qL2, qL3, qL4, _⟩ : zrg v ∧ zrg 1 ∧ zrg (-10000000) ∧ zrg 7 ∧ True := hL9
                refine ⟨fun (h : (7 : Int) ≥ 10) => absurd h (by decide), fun _ => ⟨fun (qc708 : v ≤ (-10000000)) => ⟨(by decide), ⟨(by decide), (show Φ 16 [some (zi v), some (zi 1), some (zi (-100000000)), some (zi 8)] [] M (0) (0) from ?g327l1)⟩⟩, fun (qc709 : v > (-10000000)) => ⟨(by decide), ⟨trivial, (show K (some (zi 8)) M from ?g327l2)⟩⟩⟩⟩
                case g327l1 =>
                  refine zGoR hΦ [16] 400 (fun hL9 _ hM _ _ => ?_)
                  obtain ⟨qL1, qL2, qL3, qL4, _⟩ : zrg v ∧ zrg 1 ∧ zrg (-100000000) ∧ zrg 8 ∧ True := hL9
                  refine ⟨fun (h : (8 : Int) ≥ 10) => absurd h (by decide), fun _ => ⟨fun (qc809 : v ≤ (-100000000)) => ⟨(by decide), ⟨(by decide), (show Φ 16 [some (zi v), some (zi 1), some (zi (-1000000000)), some (zi 9)] [] M (0) (0) from ?g328l1)⟩⟩, fun (qc810 : v > (-100000000)) => ⟨(by decide), ⟨trivial, (show K (some (zi 9)) M from ?g328l2)⟩⟩⟩⟩
                  case g328l1 =>
                    refine zGoR hΦ [16] 400 (fun hL9 _ hM _ _ => ?_)
                    obtain ⟨qL1, qL2, qL3, qL4, _⟩ : zrg v ∧ zrg 1 ∧ zrg (-1000000000) ∧ zrg 9 ∧ True := hL9
                    refine ⟨fun (h : (9 : Int) ≥ 10) => absurd h (by decide), fun _ => ⟨fun (qc910 : v ≤ (-1000000000)) => ⟨(zrgI (by omega)), ⟨(by decide), (show Φ 16 [some (zi v), some (zi 1), some (zi (-10000000000)), some (zi 10)] [] M (0) (0) from ?g329l1)⟩⟩, fun (qc911 : v > (-1000000000)) => ⟨(by decide), ⟨trivial, (show K (some (zi 10)) M from ?g329l2)⟩⟩⟩⟩
                    case g329l1 =>
                      refine zGoR hΦ [16] 400 (fun hL9 _ hM _ _ => ?_)
                      obtain ⟨qL1, qL2, qL3, qL4, _⟩ : zrg v ∧ zrg 1 ∧ zrg (-10000000000) ∧ zrg 10 ∧ True := hL9
                      refine ⟨fun _ => ⟨(by decide), ⟨trivial, (show K (some (zi 11)) M from ?g330l1)⟩⟩, fun (h : (10 : Int) < 10) => absurd h (by decide)⟩
                      case g330l1 =>
                        first
                        | (exfalso; omega)
                        | (refine zKi hK ?_; omega)
                    case g329l2 =>
                      first
                      | (exfalso; omega)
                      | (refine zKi hK ?_; omega)
                  case g328l2 =>
                    first
                    | (exfalso; omega)
                    | (refine zKi hK ?_; omega)
                case g327l2 =>
                  first
                  | (exfalso; omega)
                  | (refine zKi hK ?_; omega)
              case g326l2 =>
                first
                | (exfalso; omega)
                | (refine zKi hK ?_; omega)
            case g325l2 =>
              first
              | (exfalso; omega)
              | (refine zKi hK ?_; omega)
          case g324l2 =>
            first
            | (exfalso; omega)
            | (refine zKi hK ?_; omega)
        case g323l2 =>
          first
          | (exfalso; omega)
          | (refine zKi hK ?_; omega)
      case g322l2 =>
        first
        | (exfalso; omega)
        | (refine zKi hK ?_; omega)
    case g321l2 =>
      first
      | (exfalso; omega)
      | (refine zKi hK ?_; omega)
  case g320l2 =>
    refine zGoR hΦ [16] 400 (fun hL9 _ hM _ _ => ?_)
    obtain ⟨qL1, qL2, qL3, qL4, _⟩ : zrg (-v) ∧ zrg 0 ∧ zrg (-10) ∧ zrg 1 ∧ True := hL9
    refine ⟨fun (h : (1 : Int) ≥ 10) => absurd h (by decide), fun _ => ⟨fun (qc103 : (-v) ≤ (-10)) => ⟨(by decide), ⟨(by decide), (show Φ 16 [some (zi (-v)), some (zi 0), some (zi (-100)), some (zi 2)] [] M (0) (0) from ?g331l1)⟩⟩, fun (qc104 : (-v) > (-10)) => ⟨(by decide), ⟨trivial, (show K (some (zi 1)) M from ?g331l2)⟩⟩⟩⟩
    case g331l1 =>
      refine zGoR hΦ [16] 400 (fun hL9 _ hM _ _ => ?_)
      obtain ⟨qL1, qL2, qL3, qL4, _⟩ : zrg (-v) ∧ zrg 0 ∧ zrg (-100) ∧ zrg 2 ∧ True := hL9
      refine ⟨fun (h : (2 : Int) ≥ 10) => absurd h (by decide), fun _ => ⟨fun (qc204 : (-v) ≤ (-100)) => ⟨(by decide), ⟨(by decide), (show Φ 16 [some (zi (-v)), some (zi 0), some (zi (-1000)), some (zi 3)] [] M (0) (0) from ?g332l1)⟩⟩, fun (qc205 : (-v) > (-100)) => ⟨(by decide), ⟨trivial, (show K (some (zi 2)) M from ?g332l2)⟩⟩⟩⟩
      case g332l1 =>
        refine zGoR hΦ [16] 400 (fun hL9 _ hM _ _ => ?_)
        obtain ⟨qL1, qL2, qL3, qL4, _⟩ : zrg (-v) ∧ zrg 0 ∧ zrg (-1000) ∧ zrg 3 ∧ True := hL9
        refine ⟨fun (h : (3 : Int) ≥ 10) => absurd h (by decide), fun _ => ⟨fun (qc305 : (-v) ≤ (-1000)) => ⟨(by decide), ⟨(by decide), (show Φ 16 [some (zi (-v)), some (zi 0), some (zi (-10000)), some (zi 4)] [] M (0) (0) from ?g333l1)⟩⟩, fun (qc306 : (-v) > (-1000)) => ⟨(by decide), ⟨trivial, (show K (some (zi 3)) M from ?g333l2)⟩⟩⟩⟩
        case g333l1 =>
          refine zGoR hΦ [16] 400 (fun hL9 _ hM _ _ => ?_)
          obtain ⟨qL1, qL2, qL3, qL4, _⟩ : zrg (-v) ∧ zrg 0 ∧ zrg (-10000) ∧ zrg 4 ∧ True := hL9
          refine ⟨fun (h : (4 : Int) ≥ 10) => absurd h (by decide), fun _ => ⟨fun (qc406 : (-v) ≤ (-10000)) => ⟨(by decide), ⟨(by decide), (show Φ 16 [some (zi (-v)), some (zi 0), some (zi (-100000)), some (zi 5)] [] M (0) (0) from ?g334l1)⟩⟩, fun (qc407 : (-v) > (-10000)) => ⟨(by decide), ⟨trivial, (show K (some (zi 4)) M from ?g334l2)⟩⟩⟩⟩
          case g334l1 =>
            refine zGoR hΦ [16] 400 (fun hL9 _ hM _ _ => ?_)
            obtain ⟨qL1, qL2, qL3, qL4, _⟩ : zrg (-v) ∧ zrg 0 ∧ zrg (-100000) ∧ zrg 5 ∧ True := hL9
            refine ⟨fun (h : (5 : Int) ≥ 10) => absurd h (by decide), fun _ => ⟨fun (qc507 : (-v) ≤ (-100000)) => ⟨(by decide), ⟨(by decide), (show Φ 16 [some (zi (-v)), some (zi 0), some (zi (-1000000)), some (zi 6)] [] M (0) (0) from ?g335l1)⟩⟩, fun (qc508 : (-v) > (-100000)) => ⟨(by decide), ⟨trivial, (show K (some (zi 5)) M from ?g335l2)⟩⟩⟩⟩
            case g335l1 =>
              refine zGoR hΦ [16] 400 (fun hL9 _ hM _ _ => ?_)
              obtain ⟨qL1, qL2, qL3, qL4, _⟩ : zrg (-v) ∧ zrg 0 ∧ zrg (-1000000) ∧ zrg 6 ∧ True := hL9
              refine ⟨fun (h : (6 : Int) ≥ 10) => absurd h (by decide), fun _ => ⟨fun (qc608 : (-v) ≤ (-1000000)) => ⟨(by decide), ⟨(by decide), (show Φ 16 [some (zi (-v)), some (zi 0), some (zi (-10000000)), some (zi 7)] [] M (0) (0) from ?g336l1)⟩⟩, fun (qc609 : (-v) > (-1000000)) => ⟨(by decide), ⟨trivial, (show K (some (zi 6)) M from ?g336l2)⟩⟩⟩⟩
              case g336l1 =>
                refine zGoR hΦ [16] 400 (fun hL9 _ hM _ _ => ?_)
                obtain ⟨qL1, qL2, qL3, qL4, _⟩ : zrg (-v) ∧ zrg 0 ∧ zrg (-10000000) ∧ zrg 7 ∧ True := hL9
                refine ⟨fun (h : (7 : Int) ≥ 10) => absurd h (by decide), fun _ => ⟨fun (qc709 : (-v) ≤ (-10000000)) => ⟨(by decide), ⟨(by decide), (show Φ 16 [some (zi (-v)), some (zi 0), some (zi (-100000000)), some (zi 8)] [] M (0) (0) from ?g337l1)⟩⟩, fun (qc710 : (-v) > (-10000000)) => ⟨(by decide), ⟨trivial, (show K (some (zi 7)) M from ?g337l2)⟩⟩⟩⟩
                case g337l1 =>
                  refine zGoR hΦ [16] 400 (fun hL9 _ hM _ _ => ?_)
                  obtain ⟨qL1, qL2, qL3, qL4, _⟩ : zrg (-v) ∧ zrg 0 ∧ zrg (-100000000) ∧ zrg 8 ∧ True := hL9
                  refine ⟨fun (h : (8 : Int) ≥ 10) => absurd h (by decide), fun _ => ⟨fun (qc810 : (-v) ≤ (-100000000)) => ⟨(by decide), ⟨(by decide), (show Φ 16 [some (zi (-v)), some (zi 0), some (zi (-1000000000)), some (zi 9)] [] M (0) (0) from ?g338l1)⟩⟩, fun (qc811 : (-v) > (-100000000)) => ⟨(by decide), ⟨trivial, (show K (some (zi 8)) M from ?g338l2)⟩⟩⟩⟩
                  case g338l1 =>
                    refine zGoR hΦ [16] 400 (fun hL9 _ hM _ _ => ?_)
                    obtain ⟨qL1, qL2, qL3, qL4, _⟩ : zrg (-v) ∧ zrg 0 ∧ zrg (-1000000000) ∧ zrg 9 ∧ True := hL9
                    refine ⟨fun (h : (9 : Int) ≥ 10) => absurd h (by decide), fun _ => ⟨fun (qc911 : (-v) ≤ (-1000000000)) => ⟨(zrgI (by omega)), ⟨(by decide), (show Φ 16 [some (zi (-v)), some (zi 0), some (zi (-10000000000)), some (zi 10)] [] M (0) (0) from ?g339l1)⟩⟩, fun (qc912 : (-v) > (-1000000000)) => ⟨(by decide), ⟨trivial, (show K (some (zi 9)) M from ?g339l2)⟩⟩⟩⟩
                    case g339l1 =>
                      refine zGoR hΦ [16] 400 (fun hL9 _ hM _ _ => ?_)
                      obtain ⟨qL1, qL2, qL3, qL4, _⟩ : zrg (-v) ∧ zrg 0 ∧ zrg (-10000000000) ∧ zrg 10 ∧ True := hL9
                      refine ⟨fun _ => ⟨(by decide), ⟨trivial, (show K (some (zi 10)) M from ?g340l1)⟩⟩, fun (h : (10 : Int) < 10) => absurd h (by decide)⟩
                      case g340l1 =>
                        first
                        | (exfalso; omega)
                        | (refine zKi hK ?_; omega)
                    case g339l2 =>
                      first
                      | (exfalso; omega)
                      | (refine zKi hK ?_; omega)
                  case g338l2 =>
                    first
                    | (exfalso; omega)
                    | (refine zKi hK ?_; omega)
                case g337l2 =>
                  first
                  | (exfalso; omega)
                  | (refine zKi hK ?_; omega)
              case g336l2 =>
                first
                | (exfalso; omega)
                | (refine zKi hK ?_; omega)
            case g335l2 =>
              first
              | (exfalso; omega)
              | (refine zKi hK ?_; omega)
          case g334l2 =>
            first
            | (exfalso; omega)
            | (refine zKi hK ?_; omega)
        case g333l2 =>
          first
          | (exfalso; omega)
          | (refine zKi hK ?_; omega)
      case g332l2 =>
        first
        | (exfalso; omega)
        | (refine zKi hK ?_; omega)
    case g331l2 =>
      first
      | (exfalso; omega)
      | (refine zKi hK ?_; omega)
theorem M_J6_stringSize_0f7a4 {l : Launch} (hl : l.stackTraces = false) : zMet l yJ6_stringSize_0f7a4 (Cond.code yJ6_stringSize_0f7a4 cJ6_stringSize_0f7a4 4 (Option.some Jvm.ClassFile.FieldType.int) :: zG) rm_J6_stringSize_0f7a4 0 0 T_J6_stringSize_0f7a4 := met_J6_stringSize_0f7a4 hl bd_J6_stringSize_0f7a4
def T_J6_getChars_ba4f3 : ZTf := fun av M K KX => ∃ (u c : Nat) (v n : Int), av = [zi v, zi n, zo u] ∧ (zW M u 21) ∧ (zLn M u = c) ∧ (c ≤ 2000) ∧ (0 ≤ v ∧ v < 1000000) ∧ (((dig v).length : Int) ≤ n ∧ n ≤ (c : Int)) ∧ (KD M) ∧  (∀ M' : ZM, (∃ g' : Gm, M' = zsA M u g' ∧ WD (zI M u) g' (n - ((dig v).length : Int)) n (dig v)) → K (some (zi (n - ((dig v).length : Int)))) M')
set_option maxRecDepth 100000 in
set_option maxHeartbeats 1500000 in
theorem bd_J6_getChars_ba4f3 : zBd (cd_J6_getChars_ba4f3) 7 0 0 T_J6_getChars_ba4f3 := by
  rintro av M K KX hA0 hM ⟨u, c, v, n, rfl, hu, hl, hc, hv, hn, kc, hK⟩
  have hu64 : 64 ≤ u := hu.2.1
  have kc1 : ∀ (g : Gm) (i : Int), 0 ≤ i ∧ i < 100 → zI (zsA M u g) 59 i.toNat = 48 + i % 10 := fun g i hi => by rw [zI_An _ _ (by omega)]; exact (kc.2.2 i hi.1 hi.2).1
  have kc2 : ∀ (g : Gm) (i : Int), 0 ≤ i ∧ i < 100 → zI (zsA M u g) 60 i.toNat = 48 + i / 10 := fun g i hi => by rw [zI_An _ _ (by omega)]; exact (kc.2.2 i hi.1 hi.2).2
  refine ⟨rfl, fun Φ hΦ => ?_⟩
  have lo1 : ∀ (z : Int) (w p : Int) (g : Gm), 0 ≤ w → w ≤ z → w < 1000000 → ((dig w).length : Int) ≤ p → p ≤ (c : Int) → (∀ (g' : Gm) (lo : Int), WD g g' lo p (dig w) → K (some (zi lo)) (zsA M u g')) → Φ 22 [some (zi (-w)), some (zi n), some (zo u), none, none, some (zi p), some (zi 0)] [] (zsA M u g) 0 0 := by
    refine zfall (fun z ih w p g w0 wz w6 hp0 hp1 hK => ?_)
    have hd := digl ⟨w0, w6⟩
    have ht := tdn100 w0
    have hx : ∀ q, zI (zsA M u g) u q = g q := fun q => zIa M u g q
    refine zGoR hΦ [22] 400 (fun hL9 _ hM _ _ => ?_)
    obtain ⟨qL1, qL2, qL3, qL4, _⟩ : zrg (-w) ∧ zrg n ∧ zrg p ∧ zrg 0 ∧ True := hL9
    refine ⟨fun (qc1 : (-w) > (-100)) => ⟨(zrgI (x := p + (-1)) (by omega)), ⟨(zrgI (x := -(-w)) (by omega)), ⟨zixS kc.o59 kc.l59 (i := -(-w)) (by omega) (by decide), zIr ((kc1 _ _ (by omega))) (⟨⟨zixW hu hl (i := p + (-1)) (by omega) (by omega), (zPbI (x := (48 + (-(-w)) % 10)) (by omega))⟩, ⟨fun (qc2 : (-w) ≥ (-9)) => ⟨fun _ => ⟨trivial, (show K (some (zi (p + (-1)))) (zsI (zsA M u g) u (p + (-1)).toNat (48 + (-(-w)) % 10)) from ?g341l1)⟩, fun (h : (0 : Int) ≠ 0) => absurd h (by decide)⟩, fun (qc3 : (-w) < (-9)) => ⟨(zrgI (x := p + (-1) + (-1)) (by omega)), ⟨(zrgI (x := -(-w)) (by omega)), ⟨zixS kc.o60 kc.l60 (i := -(-w)) (by omega) (by decide), zIr ((zIn _ _ _ (by omega)).trans ((kc2 _ _ (by omega)))) (⟨⟨zixW hu hl (i := p + (-1) + (-1)) (by omega) (by omega), (zPbI (x := (48 + (-(-w)) / 10)) (by omega))⟩, ⟨fun _ => ⟨trivial, (show K (some (zi (p + (-1) + (-1)))) (zsI (zsI (zsA M u g) u (p + (-1)).toNat (48 + (-(-w)) % 10)) u (p + (-1) + (-1)).toNat (48 + (-(-w)) / 10)) from ?g341l2)⟩, fun (h : (0 : Int) ≠ 0) => absurd h (by decide)⟩⟩)⟩⟩⟩⟩⟩)⟩⟩⟩, fun (qc4 : (-w) ≤ (-100)) => ⟨(by decide), ⟨(zrgI (x := (Int.tdiv (-w) 100) * 100) (by omega)), ⟨(zrgI (x := ((Int.tdiv (-w) 100) * 100) - (-w)) (by omega)), ⟨(zrgI (x := p + (-1)) (by omega)), ⟨zixS kc.o59 kc.l59 (i := ((Int.tdiv (-w) 100) * 100) - (-w)) (by omega) (by decide), zIr ((kc1 _ _ (by omega))) (⟨⟨zixW hu hl (i := p + (-1)) (by omega) (by omega), (zPbI (x := (48 + (((Int.tdiv (-w) 100) * 100) - (-w)) % 10)) (by omega))⟩, ⟨(zrgI (x := p + (-1) + (-1)) (by omega)), ⟨zixS kc.o60 kc.l60 (i := ((Int.tdiv (-w) 100) * 100) - (-w)) (by omega) (by decide), zIr ((zIn _ _ _ (by omega)).trans ((kc2 _ _ (by omega)))) (⟨⟨zixW hu hl (i := p + (-1) + (-1)) (by omega) (by omega), (zPbI (x := (48 + (((Int.tdiv (-w) 100) * 100) - (-w)) / 10)) (by omega))⟩, (zFg hΦ 3 (zFg hΦ 4 (show Φ 22 [some (zi (Int.tdiv (-w) 100)), some (zi n), some (zo u), none, none, some (zi (p + (-1) + (-1))), some (zi 0)] [] (zsI (zsI (zsA M u g) u (p + (-1)).toNat (48 + (((Int.tdiv (-w) 100) * 100) - (-w)) % 10)) u (p + (-1) + (-1)).toNat (48 + (((Int.tdiv (-w) 100) * 100) - (-w)) / 10)) (0) (0) from ?g341l3)))⟩)⟩⟩⟩)⟩⟩⟩⟩⟩⟩
    case g341l1 =>
      first
      | (exfalso; omega)
      | skip
        rw [zsI_gU]
        refine hK _ _ ?_
        have hs := WD.one (g := g) (p := p + (-1)) (x := 48 + -(-w) % 10) (by omega)
        rw [show p + (-1) + 1 = p by omega] at hs
        rw [show -(-w) = w by omega] at hs ⊢
        rw [dig_e1 (by omega) (by omega)]
        rw [Int.emod_eq_of_lt w0 (show w < 10 by omega)] at hs ⊢
        exact hs
    case g341l2 =>
      first
      | (exfalso; omega)
      | skip
        rw [zsI_gU, zsI_gU]
        refine hK _ _ ?_
        have ha := WD.one (g := gU g (p + (-1)) (48 + -(-w) % 10)) (p := p + (-1) + (-1)) (x := 48 + -(-w) / 10) (by omega)
        have hb := WD.one (g := g) (p := p + (-1)) (x := 48 + -(-w) % 10) (by omega)
        rw [show p + (-1) + (-1) + 1 = p + (-1) by omega] at ha
        rw [show p + (-1) + 1 = p by omega] at hb
        have hs := ha.app hb
        rw [show -(-w) = w by omega] at hs ⊢
        rw [dig_e2 (by omega) (by omega)]
        exact hs
    case g341l3 =>
      rw [zsI_gU, zsI_gU, ht]
      have ha := WD.one (g := gU g (p + (-1)) (48 + (Int.tdiv (-w) 100 * 100 - -w) % 10)) (p := p + (-1) + (-1)) (x := 48 + (Int.tdiv (-w) 100 * 100 - -w) / 10) (by omega)
      have hb := WD.one (g := g) (p := p + (-1)) (x := 48 + (Int.tdiv (-w) 100 * 100 - -w) % 10) (by omega)
      rw [show p + (-1) + (-1) + 1 = p + (-1) by omega] at ha
      rw [show p + (-1) + 1 = p by omega] at hb
      have hs := ha.app hb
      have e3 := dig_e3 (v := w) (by omega) w6
      have el := congrArg List.length e3
      rw [List.length_append] at el
      simp only [List.length_cons, List.length_nil] at el
      rw [ht] at hs
      have er : -(w / 100) * 100 - -w = w % 100 := by omega
      rw [er] at hs ⊢
      refine ih (by omega) (w / 100) (p + (-1) + (-1)) _ (by omega) (by omega) (by omega) (by omega) (by omega) (fun g' lo h => hK g' lo ?_)
      rw [e3]
      exact h.app hs
  refine zGoR hΦ [22] 400 (fun hL9 _ hM _ _ => ?_)
  obtain ⟨qL1, qL2, _⟩ : zrg v ∧ zrg n ∧ True := hL9
  refine ⟨fun (qc1 : v ≥ 0) => ⟨fun (h : (0 : Int) ≠ 0) => absurd h (by decide), fun _ => ⟨(zrgI (x := -v) (by omega)), (show Φ 22 [some (zi (-v)), some (zi n), some (zo u), none, none, some (zi n), some (zi 0)] [] M (0) (0) from ?g342l1)⟩⟩, fun (qc2 : v < 0) => ⟨fun _ => (show Φ 22 [some (zi v), some (zi n), some (zo u), none, none, some (zi n), some (zi 1)] [] M (0) (0) from ?g342l2), fun (h : (1 : Int) = 0) => absurd h (by decide)⟩⟩
  case g342l1 =>
    have h9 := lo1 v v n (zI M u) hv.1 (Int.le_refl _) hv.2 hn.1 hn.2 (fun g' lo h => by
      have e9 : lo = n - ((dig v).length : Int) := by have := h.1.1; omega
      subst e9
      exact hK _ ⟨g', rfl, h⟩)
    rw [zsA_self] at h9
    exact h9
  case g342l2 => exfalso; omega
theorem M_J6_getChars_ba4f3 {l : Launch} (hl : l.stackTraces = false) : zMet l yJ6_getChars_ba4f3 (Cond.code yJ6_getChars_ba4f3 cJ6_getChars_ba4f3 7 (Option.some Jvm.ClassFile.FieldType.int) :: zG) rm_J6_getChars_ba4f3 0 0 T_J6_getChars_ba4f3 := met_J6_getChars_ba4f3 hl bd_J6_getChars_ba4f3
theorem zW_g {M M' : ZM} {b u κ : Nat} {Q : Gm → Prop} (h : zW M b κ) (hg : ∃ g : Gm, M' = zsA M u g ∧ Q g) : zW M' b κ := by
  obtain ⟨g, e, -⟩ := hg
  subst e
  exact h
def T_J5_append_c97b9 (ca cb : Nat) : ZTf := fun av M K KX => ∃ (b c d : Nat) (o : List Int) (v : Int), av = [zo b, zi v] ∧ (SB M b c o) ∧ (o.length < 900 ∧ 0 ≤ v ∧ v < 1000000) ∧ (ncap c (o.length + (dig v).length) = d) ∧ (KD M) ∧ (d ≤ c + ca ∧ 2 * d ≤ 2 * c + cb) ∧  (∀ M' : ZM, (SB M' b d (o ++ dig v)) → (FX b M M') → K (some (zo (b))) M')
set_option maxRecDepth 100000 in
set_option maxHeartbeats 1500000 in
theorem bd_J5_append_c97b9 (ca cb : Nat) : zBd (cd_J5_append_c97b9 T_J6_stringSize_0f7a4 T_J5_ensureCapacityInternal_d00df T_J5_isLatin1_aae02 T_J6_getChars_ba4f3) 4 ca cb (T_J5_append_c97b9 ca cb) := by
  rintro av M K KX hA0 hM ⟨b, c, d, o, v, rfl, hS, hn, hc, kc, hab, hK⟩
  have hS0 := hS
  obtain ⟨hsb1, hsb2, hsb3, ⟨hsb4, hsb5⟩, hsb6, hsb7⟩ := id hS
  have hzc : zshr (c : Int) 0 = (c : Int) := zshr_0 (by omega)
  have hg := ncap_g hc
  have hd6 := dig_len v
  refine ⟨rfl, fun Φ hΦ => ?_⟩
  refine zGoR hΦ [] 400 (fun hL9 _ hM _ _ => ?_)
  obtain ⟨qL1, _⟩ : zrg v ∧ True := hL9
  refine ⟨hS.w, zIr (hS.ct) (⟨⟨⟨rfl, rfl⟩, trivial⟩, ⟨v, rfl, (by omega), fun (qg1 : zrg (((dig v).length : Int))) qm2 => ⟨(zrgI (x := (o.length : Int) + ((dig v).length : Int)) (by omega)), ⟨ca, cb, ⟨(by omega), (by omega)⟩, ⟨⟨rfl, rfl⟩, hS.w.rcv⟩, ⟨b, c, d, o, ((o.length : Int) + ((dig v).length : Int)), rfl, hS, (by omega), (by rw [show ((o.length : Int) + ((dig v).length : Int)).toNat = o.length + (dig v).length by omega]; exact hc), hab, fun M1 hS1 hx1 hvu1 => (fun qg3 qm4 => ⟨⟨⟨rfl, rfl⟩, hS1.w.rcv⟩, ⟨rfl, ⟨fun (h : (1 : Int) = 0) => absurd h (by decide), fun _ => ⟨hS1.w, zIr (hS1.cd) (⟨fun (h : (0 : Int) ≠ 0) => absurd h (by decide), fun _ => ⟨(Or.inr rfl), fun _ _ => ⟨fun (h : (1 : Int) = 0) => absurd h (by decide), fun _ => ⟨hS1.w, _, hS1.r0, ⟨⟨⟨rfl, rfl⟩, trivial⟩, ⟨(vu M1 b), d, v, ((o.length : Int) + ((dig v).length : Int)), rfl, hS1.a, hS1.l, (by omega), (by omega), (by omega), (kc.fx hS0 hx1), fun M2 hg2 => (have hW2 : zW M2 b 1 := zW_g hS1.w hg2; fun (qg6 : zrg (((o.length : Int) + ((dig v).length : Int)) - ((dig v).length : Int))) qm7 => ⟨rfl, ⟨⟨hW2, trivial⟩, (show K (some (zo b)) (zsI M2 b 3 ((o.length : Int) + ((dig v).length : Int))) from ?g343l1)⟩⟩)⟩⟩⟩⟩⟩⟩)⟩⟩⟩⟩)⟩⟩⟩⟩⟩)⟩
  case g343l1 =>
    obtain ⟨g9, e9, w9⟩ := hg2
    subst e9
    rw [show (o.length : Int) + ((dig v).length : Int) - ((dig v).length : Int) = (o.length : Int) by omega] at w9
    have h9 := hS1.wd w9 (by omega) (fun k hk => dig_r v hk)
    exact hK _ h9.1 (hx1.tr h9.2)
theorem M_J5_append_c97b9 {l : Launch} (hl : l.stackTraces = false) (ca cb : Nat) : zMet l yJ5_append_c97b9 (Cond.code yJ5_append_c97b9 cJ5_append_c97b9 4 (Option.some (Jvm.ClassFile.FieldType.object "java/lang/AbstractStringBuilder")) :: zG) (rm_J5_append_c97b9 ca cb) ca cb (T_J5_append_c97b9 ca cb) := met_J5_append_c97b9 hl (M_J6_stringSize_0f7a4 hl) (M_J5_ensureCapacityInternal_d00df hl) (M_J5_isLatin1_aae02 hl) (M_J6_getChars_ba4f3 hl) (bd_J5_append_c97b9 ca cb)
def T_J4_append_bf812 (ca cb : Nat) : ZTf := fun av M K KX => ∃ (b c d : Nat) (o : List Int) (v : Int), av = [zo b, zi v] ∧ (SB M b c o) ∧ (o.length < 900 ∧ 0 ≤ v ∧ v < 1000000) ∧ (ncap c (o.length + (dig v).length) = d) ∧ (KD M) ∧ (d ≤ c + ca ∧ 2 * d ≤ 2 * c + cb) ∧  (∀ M' : ZM, (SB M' b d (o ++ dig v)) → (FX b M M') → K (some (zo (b))) M')
set_option maxRecDepth 100000 in
set_option maxHeartbeats 1500000 in
theorem bd_J4_append_bf812 (ca cb : Nat) : zBd (cd_J4_append_bf812 T_J5_append_c97b9) 2 ca cb (T_J4_append_bf812 ca cb) := by
  rintro av M K KX hA0 hM ⟨b, c, d, o, v, rfl, hS, hn, hc, kc, hab, hK⟩
  refine ⟨rfl, fun Φ hΦ => ?_⟩
  refine zGoR hΦ [] 400 (fun hL9 _ hM _ _ => ?_)
  obtain ⟨qL1, _⟩ : zrg v ∧ True := hL9
  refine ⟨ca, cb, ⟨(by omega), (by omega)⟩, ⟨⟨rfl, rfl⟩, hS.w.rcv⟩, ⟨b, c, d, o, v, rfl, hS, hn, hc, kc, hab, fun M1 hS1 hx1 => (fun qg1 qm2 => ⟨rfl, (show K (some (zo b)) M1 from ?g344l1)⟩)⟩⟩
  case g344l1 => exact hK _ hS1 hx1
theorem M_J4_append_bf812 {l : Launch} (hl : l.stackTraces = false) (ca cb : Nat) : zMet l yJ4_append_bf812 (Cond.code yJ4_append_bf812 cJ4_append_bf812 2 (Option.some (Jvm.ClassFile.FieldType.object "java/lang/StringBuilder")) :: zG) (rm_J4_append_bf812 ca cb) ca cb (T_J4_append_bf812 ca cb) := met_J4_append_bf812 hl (M_J5_append_c97b9 hl) (bd_J4_append_bf812 ca cb)
