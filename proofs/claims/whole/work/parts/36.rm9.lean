/-! takings as lists -/
abbrev T3 : Type := Int × Int × Int
def TKe (g : Gm) (r k : Int) : T3 := ((g (132 + 16 * r + (7 + 3 * k + 0)).toNat), (g (132 + 16 * r + (7 + 3 * k + 1)).toNat), (g (132 + 16 * r + (7 + 3 * k + 2)).toNat))
def TK (g : Gm) (r : Int) : List T3 := (List.range (g (132 + 16 * r + 6).toNat).toNat).map (fun k : Nat => TKe g r (k : Int))
/-- the takings of a row -/
def RwT (g : Gm) (r : Int) (l : List T3) : Prop := (g (132 + 16 * r + 6).toNat) = (l.length : Int) ∧ ∀ (k : Nat) (x : T3), l[k]? = some x → TKe g r (k : Int) = x
theorem TK_RwT {g : Gm} {r : Int} (h : 0 ≤ (g (132 + 16 * r + 6).toNat)) : RwT g r (TK g r) := by
  refine ⟨?_, fun k x hx => ?_⟩
  · unfold TK
    rw [List.length_map, List.length_range]
    omega
  · unfold TK at hx
    rw [List.getElem?_map] at hx
    by_cases q : k < (g (132 + 16 * r + 6).toNat).toNat
    · rw [List.getElem?_range q] at hx
      exact Option.some.inj hx
    · rw [List.getElem?_eq_none (by rw [List.length_range]; omega)] at hx
      cases hx
theorem RwT.tk {g : Gm} {r : Int} {l : List T3} (h : RwT g r l) : TK g r = l := by
  obtain ⟨h1, h2⟩ := h
  refine List.ext_getElem? (fun k => ?_)
  unfold TK
  rw [List.getElem?_map]
  by_cases q : k < l.length
  · rw [List.getElem?_range (by omega), List.getElem?_eq_getElem q]
    exact congrArg some (h2 k _ (List.getElem?_eq_getElem q))
  · rw [List.getElem?_eq_none (by rw [List.length_range]; omega), List.getElem?_eq_none (by omega)]
    rfl
theorem RwT.at {g : Gm} {r : Int} {l1 l2 : List T3} {x : T3} (h : RwT g r (l1 ++ x :: l2)) : TKe g r (l1.length : Int) = x := h.2 _ _ (by rw [List.getElem?_append_right (Nat.le_refl _), Nat.sub_self]; rfl)
theorem TKe.congr {g g' : Gm} {r k : Int} (h0 : 0 ≤ r) (hk : 0 ≤ k ∧ k < 3) (e : ∀ j : Nat, 132 + 16 * r + 7 ≤ (j : Int) → (j : Int) < 132 + 16 * r + 16 → g' j = g j) : TKe g' r k = TKe g r k := by
  unfold TKe
  rw [e _ (by omega) (by omega), e _ (by omega) (by omega), e _ (by omega) (by omega)]
theorem RwT.congr {g g' : Gm} {r : Int} {l : List T3} (h : RwT g r l) (h0 : 0 ≤ r) (hl : l.length ≤ 3) (e : ∀ j : Nat, 132 + 16 * r + 6 ≤ (j : Int) → (j : Int) < 132 + 16 * r + 16 → g' j = g j) : RwT g' r l := by
  refine ⟨by rw [e _ (by omega) (by omega)]; exact h.1, fun k x hx => ?_⟩
  have hk := (List.getElem?_eq_some_iff.mp hx).1
  rw [TKe.congr h0 (by omega) (fun j a b => e j (by omega) b)]
  exact h.2 k x hx
theorem RwT.drop {g : Gm} {r : Int} {l1 l2 : List T3} {x : T3} (h : RwT g r (l1 ++ x :: l2)) (h0 : 0 ≤ r) (hl : (l1 ++ x :: l2).length ≤ 3) : RwT (fDrop g r (l1.length : Int)) r (l1 ++ l2) := by
  obtain ⟨h1, h2⟩ := h
  have e9 : (l1 ++ x :: l2).length = l1.length + 1 + l2.length := by rw [List.length_append, List.length_cons]; omega
  have e8 : (l1 ++ l2).length = l1.length + l2.length := List.length_append
  rw [e9] at h1 hl
  refine ⟨?_, fun k y hy => ?_⟩
  · unfold fDrop
    rw [sh_out _ _ _ _ (by omega), gU_s, h1, e8]
    omega
  · have hk := (List.getElem?_eq_some_iff.mp hy).1
    rw [e8] at hk
    by_cases q : k < l1.length
    · rw [List.getElem?_append_left q] at hy
      have h9 := h2 k y (by rw [List.getElem?_append_left q]; exact hy)
      rw [← h9]
      unfold TKe fDrop
      rw [sh_out _ _ _ _ (by omega), sh_out _ _ _ _ (by omega), sh_out _ _ _ _ (by omega), gU_n _ (by omega), gU_n _ (by omega), gU_n _ (by omega)]
    · rw [List.getElem?_append_right (by omega)] at hy
      have h9 := h2 (k + 1) y (by rw [List.getElem?_append_right (by omega), show k + 1 - l1.length = (k - l1.length) + 1 by omega, List.getElem?_cons_succ]; exact hy)
      rw [← h9]
      unfold TKe fDrop
      rw [sh_in _ _ _ _ (by omega), sh_in _ _ _ _ (by omega), sh_in _ _ _ _ (by omega), gU_n _ (by omega), gU_n _ (by omega), gU_n _ (by omega)]
      rw [show (132 + 16 * r + (7 + 3 * (k : Int) + 0)).toNat + 3 = (132 + 16 * r + (7 + 3 * ((k + 1 : Nat) : Int) + 0)).toNat by omega, show (132 + 16 * r + (7 + 3 * (k : Int) + 1)).toNat + 3 = (132 + 16 * r + (7 + 3 * ((k + 1 : Nat) : Int) + 1)).toNat by omega, show (132 + 16 * r + (7 + 3 * (k : Int) + 2)).toNat + 3 = (132 + 16 * r + (7 + 3 * ((k + 1 : Nat) : Int) + 2)).toNat by omega]
theorem RwT.ri {g : Gm} {r : Int} {l : List T3} (h : RwT g r l) (h0 : 0 ≤ r ∧ r < 24) (hl : l.length ≤ 3) (hw : ∀ x, x ∈ l → 0 ≤ x.1 ∧ x.1 < 6) : RI g r := by
  refine ⟨h0, by rw [h.1]; omega, fun k k0 k1 => ?_⟩
  rw [h.1] at k1
  have hk : k.toNat < l.length := by omega
  have h9 := h.2 k.toNat _ (List.getElem?_eq_getElem hk)
  have h8 := hw _ (List.getElem_mem hk)
  rw [← h9, show ((k.toNat : Nat) : Int) = k by omega] at h8
  exact h8
theorem RI.tk {g : Gm} {r : Int} (h : RI g r) : ∀ x, x ∈ TK g r → 0 ≤ x.1 ∧ x.1 < 6 := by
  intro x hx
  obtain ⟨hr, hm, hk⟩ := h
  unfold TK at hx
  obtain ⟨k, k1, rfl⟩ := List.mem_map.mp hx
  have := List.mem_range.mp k1
  exact hk (k : Int) (by omega) (by omega)
theorem TK_len {g : Gm} {r : Int} (h : RI g r) : (TK g r).length ≤ 3 := by
  unfold TK
  rw [List.length_map, List.length_range]
  have := h.2.1
  omega
theorem fDrop_n {g : Gm} {r k : Int} (h0 : 0 ≤ r) (hk : 0 ≤ k) (hm : (g (132 + 16 * r + 6).toNat) ≤ 3) {j : Nat} (h : (j : Int) < 132 + 16 * r + 6 ∨ 132 + 16 * r + 16 ≤ (j : Int)) : fDrop g r k j = g j := by
  unfold fDrop
  rw [sh_out _ _ _ _ (by omega), gU_n _ (by omega)]

/-- a row set aside: what is left -/
def inWk (x : T3) : Bool := decide (x.2.1 = -1)
def SetA (G : Gm) (r : Int) (g : Gm) (n : Int) : Prop := RwT g r ((TK G r).filter (fun x => !inWk x)) ∧ (g (132 + 16 * r + 1).toNat) = 3 ∧ (∀ j : Nat, j ≠ (132 + 16 * r + 1).toNat → (j : Int) < 132 + 16 * r + 6 ∨ 132 + 16 * r + 16 ≤ (j : Int) → g j = G j) ∧ n = ((TK G r).countP inWk : Int)

def c_setAside (G : Gm) (r : Int) : Int := if 0 ≤ r ∧ r ≤ G 5 - 1 then (if (G (132 + 16 * r + 1).toNat) < 2 then 0 else 2) else 1
def T_X9_setAside : ZTf := fun av M K KX => ∃ (P : Int → Gm) (c : Int) (r : Int), av = [zo 670, zi r] ∧ (LY M) ∧ (MA M 671) ∧ (GI (zI M 671)) ∧ (RH M P c) ∧ ((c_setAside (zI M 671) r = 0 → ∀ (M' : ZM) (n : Int), Fr SYw M M' → (∀ f, f ≠ 0 → f ≠ 19 → zI M' 670 f = zI M 670 f) → zI M' 670 0 = 0 → SetA (zI M 671) r (zI M' 671) n → RH M' (pushP P (zI M 671) c) (pushC c) → K (some (zi n)) M') ∧ (c_setAside (zI M 671) r ≠ 0 → K (some (zi 0)) (zsI M 670 0 (c_setAside (zI M 671) r))))
set_option maxRecDepth 100000 in
set_option maxHeartbeats 4000000 in
theorem bd_X9_setAside : zBd (cd_X9_setAside T_X9_isRow T_X9_ofRow T_X9_passes2 T_X9_remember T_X9_put T_X9_manyAt T_X9_isInWork T_X9_dropTaking) 5 0 0 T_X9_setAside := by
  rintro av M K KX hA0 hM ⟨P, c, r, rfl, hY, hA, hG, hH, hK, hE⟩
  obtain ⟨hw5, hr5, hR5⟩ := id hG
  simp only [c_setAside] at hK hE
  have hmF := fun (a : 0 ≤ r) (b : r < zI M 671 5) => (hR5 r a b).2.1
  refine ⟨rfl, fun Φ hΦ => ?_⟩
  have loop : ∀ (M1 : ZM), LY M1 → MA M1 671 → (0 ≤ r ∧ r < zI M 671 5) → (∀ g n, SetA (zI M 671) r g n → K (some (zi n)) (zsA M1 671 g)) → ∀ (q : Nat) (o1 o2 : List T3) (g : Gm) (n k : Int), o1.length = q → TK (zI M 671) r = o1 ++ o2 → RwT g r (o1 ++ o2.filter (fun x => !inWk x)) → (g (132 + 16 * r + 1).toNat) = 3 → (∀ j : Nat, j ≠ (132 + 16 * r + 1).toNat → (j : Int) < 132 + 16 * r + 6 ∨ 132 + 16 * r + 16 ≤ (j : Int) → g j = zI M 671 j) → n = (o2.countP inWk : Int) → k = (q : Int) - 1 → Φ 57 [some (zo 670), some (zi r), some (zi 1), some (zi n), some (zi k)] [] (zsA M1 671 g) 0 0 := by
    intro M1 hY1 hA1 hr fin q
    have hRr := hR5 r hr.1 hr.2
    have hL3 := TK_len hRr
    have hW6 := hRr.tk
    induction q with
    | zero =>
      intro o1 o2 g n k hq ht hw hs ho hn hk
      have e1 : o1 = [] := List.length_eq_zero_iff.mp hq
      subst e1
      have hk' : k = -1 := by omega
      subst hk'
      refine zGoR hΦ [57] 400 (fun hL9 _ hM _ _ => ?_)
      obtain ⟨qL1, qL2, qL3, qL4, _⟩ : zrg r ∧ zrg 1 ∧ zrg n ∧ zrg (-1) ∧ True := hL9
      refine ⟨fun _ => ⟨trivial, (show K (some (zi n)) (zsA M1 671 g) from ?g204l1)⟩, fun (h : (-1 : Int) ≥ 0) => absurd h (by decide)⟩
      case g204l1 =>
        refine fin g n ⟨?_, hs, ho, ?_⟩
        · rw [ht]; exact hw
        · rw [ht]; exact hn
    | succ q ih =>
      intro o1 o2 g n k hq ht hw hs ho hn hk
      obtain ⟨o1, x, rfl⟩ : ∃ l y, o1 = l ++ [y] := ⟨o1.dropLast, o1.getLast (fun z => by rw [z] at hq; cases hq), (List.dropLast_concat_getLast _).symm⟩
      rw [List.length_append, List.length_singleton] at hq
      rw [List.append_assoc, List.singleton_append] at ht hw
      have hl9 : o1.length + 1 + o2.length ≤ 3 := by rw [ht, List.length_append, List.length_cons] at hL3; omega
      have hf9 : (o2.filter (fun x => !inWk x)).length ≤ o2.length := List.length_filter_le _ _
      have hc9 : o2.countP inWk ≤ o2.length := List.countP_le_length
      have hk' : k = (o1.length : Int) := by omega
      have hx := hw.at
      rw [← hk'] at hx
      have hx1 : (g (132 + 16 * r + (7 + 3 * k + 1)).toNat) = x.2.1 := congrArg (fun z : T3 => z.2.1) hx
      obtain ⟨v, hv⟩ : ∃ v, x.2.1 = v := ⟨_, rfl⟩
      rw [hv] at hx1
      have hmg : (g (132 + 16 * r + 6).toNat) = (o1.length : Int) + 1 + ((o2.filter (fun x => !inWk x)).length : Int) := by rw [hw.1, List.length_append, List.length_cons]; omega
      have hRg : RI g r := hw.ri hRr.1 (by rw [List.length_append, List.length_cons]; omega) (fun y hy => hW6 y (by
        rw [ht]
        rcases List.mem_append.mp hy with q | q
        · exact List.mem_append.mpr (Or.inl q)
        · rcases List.mem_cons.mp q with q | q
          · exact List.mem_append.mpr (Or.inr (List.mem_cons.mpr (Or.inl q)))
          · exact List.mem_append.mpr (Or.inr (List.mem_cons.mpr (Or.inr (List.mem_filter.mp q).1)))))
      refine zGoR hΦ [57] 400 (fun hL9 _ hM _ _ => ?_)
      obtain ⟨qL1, qL2, qL3, qL4, _⟩ : zrg r ∧ zrg 1 ∧ zrg n ∧ zrg k ∧ True := hL9
      refine ⟨fun (qc1 : k < 0) => ⟨trivial, (show K (some (zi n)) (zsA M1 671 g) from ?g205l1)⟩, fun (qc2 : k ≥ 0) => ⟨⟨⟨rfl, rfl⟩, hY1.w.rcv⟩, ⟨rfl, ⟨⟨⟨rfl, rfl⟩, hY1.w.rcv⟩, ⟨rfl, ⟨(zrgI (x := 3 * k) (by omega)), ⟨(zrgI (x := 7 + 3 * k) (by omega)), ⟨(zrgI (x := 7 + 3 * k + 1) (by omega)), ⟨⟨⟨rfl, rfl⟩, hY1.w.rcv⟩, ⟨rfl, ⟨hY1.w, _, hA1.1, ⟨(zrgI (x := 16 * r) (by omega)), ⟨(zrgI (x := 132 + 16 * r) (by omega)), ⟨(zrgI (x := 132 + 16 * r + (7 + 3 * k + 1)) (by omega)), ⟨zixO hA1.2.1 hA1.2.2 (i := 132 + 16 * r + (7 + 3 * k + 1)) (by omega) (by decide), zIr ((zIa _ _ _ _).trans (hx1)) (⟨trivial, fun (qg3 : zrg (v)) _ => ⟨trivial, fun (qg4 : zrg (v)) _ => ⟨fun (qc5 : v ≠ (-1)) => ⟨(Or.inl rfl), fun _ _ => ⟨fun (h : (0 : Int) ≠ 0) => absurd h (by decide), fun _ => ⟨(zrgI (x := k + (-1)) (by omega)), (show Φ 57 [some (zo 670), some (zi r), some (zi 1), some (zi n), some (zi (k + (-1)))] [] (zsA M1 671 g) (0) (0) from ?g205l2)⟩⟩⟩, fun (qc7 : v = (-1)) => ⟨(Or.inr rfl), fun _ _ => ⟨fun _ => ⟨⟨⟨rfl, rfl⟩, hY1.w.rcv⟩, ⟨r, k, rfl, hY1, hA1, (RI_A hRg), (by simp only [zI_A]; omega), fun qg9 qm10 => zMr (zsA_F _ _ _ (fun q9 => fDrop q9 r k)) (⟨(zrgI (x := n + 1) (by omega)), ⟨(zrgI (x := k + (-1)) (by omega)), (show Φ 57 [some (zo 670), some (zi r), some (zi 1), some (zi (n + 1)), some (zi (k + (-1)))] [] (zsA M1 671 (fDrop g r k)) (0) (0) from ?g205l3)⟩⟩)⟩⟩, fun (h : (1 : Int) = 0) => absurd h (by decide)⟩⟩⟩⟩⟩)⟩⟩⟩⟩⟩⟩⟩⟩⟩⟩⟩⟩⟩⟩⟩
      case g205l1 => exfalso; omega
      case g205l2 =>
        have ew : inWk x = false := decide_eq_false (by rw [hv]; exact qc5)
        have e2 : (x :: o2).filter (fun x => !inWk x) = x :: o2.filter (fun x => !inWk x) := by rw [List.filter_cons, ew]; rfl
        have e3 : (x :: o2).countP inWk = o2.countP inWk := List.countP_cons_of_neg (by rw [ew]; exact Bool.false_ne_true)
        refine ih o1 (x :: o2) _ _ _ (by omega) ht ?_ hs ho ?_ (by omega)
        · rw [e2]; exact hw
        · rw [e3]; exact hn
      case g205l3 =>
        have ew : inWk x = true := decide_eq_true (hv.trans qc7)
        have e2 : (x :: o2).filter (fun x => !inWk x) = o2.filter (fun x => !inWk x) := by rw [List.filter_cons, ew]; rfl
        have e3 : (x :: o2).countP inWk = o2.countP inWk + 1 := List.countP_cons_of_pos ew
        refine ih o1 (x :: o2) _ _ _ (by omega) ht ?_ ?_ (fun j j0 j1 => ?_) ?_ (by omega)
        · rw [e2, hk']; exact hw.drop hRr.1.1 (by rw [List.length_append, List.length_cons]; omega)
        · rw [fDrop_n hRr.1.1 (by omega) (by omega) (by omega)]; exact hs
        · rw [fDrop_n hRr.1.1 (by omega) (by omega) j1]; exact ho j j0 j1
        · rw [e3, hn]; omega
  refine zGoR hΦ [57] 400 (fun hL9 _ hM _ _ => ?_)
  obtain ⟨qL1, _⟩ : zrg r ∧ True := hL9
  refine ⟨⟨⟨rfl, rfl⟩, hY.w.rcv⟩, ⟨rfl, ⟨⟨⟨rfl, rfl⟩, hY.w.rcv⟩, ⟨rfl, ⟨hY.w, _, hA.1, ⟨zixO hA.2.1 hA.2.2 (i := 5) (by decide) (by decide), ⟨trivial, fun (qg1 : zrg (zI M 671 5)) _ => ⟨(zrgI (x := zI M 671 5 - 1) (by omega)), ⟨⟨⟨rfl, rfl⟩, trivial⟩, ⟨rfl, ⟨fun h => (have qc2 : r < 0 := zc_lt h; ⟨(Or.inl rfl), fun _ _ => ⟨(Or.inl rfl), fun _ _ => ⟨fun _ => ⟨⟨⟨rfl, rfl⟩, hY.w.rcv⟩, ⟨rfl, ⟨⟨⟨rfl, rfl⟩, hY.w.rcv⟩, ⟨rfl, ⟨fun (h : (0 : Int) ≠ 0) => absurd h (by decide), fun _ => ⟨⟨hY.w, trivial⟩, ⟨hY.w, ⟨fun _ => ⟨(Or.inl rfl), fun _ _ => ⟨(Or.inl rfl), fun _ _ => ⟨fun (h : (0 : Int) ≠ 0) => absurd h (by decide), fun _ => ⟨trivial, (show K (some (zi 0)) (zsI M 670 0 1) from ?g206l1)⟩⟩⟩⟩, fun (h : (1 : Int) = 0) => absurd h (by decide)⟩⟩⟩⟩⟩⟩⟩⟩, fun (h : (0 : Int) ≠ 0) => absurd h (by decide)⟩⟩⟩), fun h => (have qc7 : r ≥ 0 := zc_ge h; ⟨fun h => (have qc8 : r > zI M 671 5 - 1 := zc_gt h; ⟨(Or.inl rfl), fun _ _ => ⟨(Or.inl rfl), fun _ _ => ⟨fun _ => ⟨⟨⟨rfl, rfl⟩, hY.w.rcv⟩, ⟨rfl, ⟨⟨⟨rfl, rfl⟩, hY.w.rcv⟩, ⟨rfl, ⟨fun (h : (0 : Int) ≠ 0) => absurd h (by decide), fun _ => ⟨⟨hY.w, trivial⟩, ⟨hY.w, ⟨fun _ => ⟨(Or.inl rfl), fun _ _ => ⟨(Or.inl rfl), fun _ _ => ⟨fun (h : (0 : Int) ≠ 0) => absurd h (by decide), fun _ => ⟨trivial, (show K (some (zi 0)) (zsI M 670 0 1) from ?g206l2)⟩⟩⟩⟩, fun (h : (1 : Int) = 0) => absurd h (by decide)⟩⟩⟩⟩⟩⟩⟩⟩, fun (h : (0 : Int) ≠ 0) => absurd h (by decide)⟩⟩⟩), fun h => (have qc13 : r ≤ zI M 671 5 - 1 := zc_le h; ⟨(Or.inr rfl), fun _ _ => ⟨(Or.inr rfl), fun _ _ => ⟨fun (h : (1 : Int) = 0) => absurd h (by decide), fun _ => ⟨⟨⟨rfl, rfl⟩, hY.w.rcv⟩, ⟨rfl, ⟨hY.w, _, hA.1, ⟨(zrgI (x := 16 * r) (by omega)), ⟨(zrgI (x := 132 + 16 * r) (by omega)), ⟨(zrgI (x := 132 + 16 * r + 1) (by omega)), ⟨zixO hA.2.1 hA.2.2 (i := 132 + 16 * r + 1) (by omega) (by decide), ⟨trivial, fun (qg16 : zrg (zI M 671 ((132 + 16 * r + 1).toNat))) _ => ⟨fun (qc17 : zI M 671 ((132 + 16 * r + 1).toNat) ≥ 2) => ⟨⟨⟨rfl, rfl⟩, hY.w.rcv⟩, ⟨rfl, ⟨⟨⟨rfl, rfl⟩, hY.w.rcv⟩, ⟨rfl, ⟨fun _ => ⟨fun (h : (0 : Int) ≠ 0) => absurd h (by decide), fun _ => ⟨⟨hY.w, trivial⟩, ⟨hY.w, ⟨fun _ => ⟨(Or.inl rfl), fun _ _ => ⟨(Or.inl rfl), fun _ _ => ⟨fun (h : (0 : Int) ≠ 0) => absurd h (by decide), fun _ => ⟨trivial, (show K (some (zi 0)) (zsI M 670 0 2) from ?g206l3)⟩⟩⟩⟩, fun (h : (2 : Int) = 0) => absurd h (by decide)⟩⟩⟩⟩, fun (h : (1 : Int) = 0) => absurd h (by decide)⟩⟩⟩⟩⟩, fun (qc20 : zI M 671 ((132 + 16 * r + 1).toNat) < 2) => ⟨⟨⟨rfl, rfl⟩, hY.w.rcv⟩, ⟨rfl, ⟨⟨⟨rfl, rfl⟩, hY.w.rcv⟩, ⟨rfl, ⟨fun _ => ⟨fun _ => ⟨fun _ => ⟨⟨hY.w, trivial⟩, ⟨hY.w, ⟨fun (h : (0 : Int) ≠ 0) => absurd h (by decide), fun _ => ⟨(Or.inr rfl), fun _ _ => ⟨(Or.inr rfl), fun _ _ => ⟨fun _ => ⟨⟨⟨rfl, rfl⟩, hY.w.rcv⟩, ⟨P, c, rfl, hY, hH, fun M1 hf1 h81 hH1 => (have hY1 := LY.fr (M := zsI M 670 0 0) hY hf1; have hA1 := MA.fr (M := zsI M 670 0 0) hY hA hf1; fun qg23 qm24 => zMr (zsA_re ((hf1.i (hY).a1 (by omega)).trans (zI_In _ _ _ (by decide)))) (⟨⟨⟨rfl, rfl⟩, hY1.w.rcv⟩, ⟨rfl, ⟨hY1.w, _, hA1.1, ⟨(zrgI (x := 16 * r) (by omega)), ⟨(zrgI (x := 132 + 16 * r) (by omega)), ⟨(zrgI (x := 132 + 16 * r + 1) (by omega)), ⟨⟨zixW hA1.2.1 hA1.2.2 (i := 132 + 16 * r + 1) (by omega) (by decide), trivial⟩, zMr (zsI_gU _ _ _ (132 + 16 * r + 1) _) (fun _ _ => ⟨⟨⟨rfl, rfl⟩, hY1.w.rcv⟩, ⟨rfl, ⟨⟨⟨rfl, rfl⟩, hY1.w.rcv⟩, ⟨rfl, ⟨hY1.w, _, hA1.1, ⟨(zrgI (x := 16 * r) (by omega)), ⟨(zrgI (x := 132 + 16 * r) (by omega)), ⟨(zrgI (x := 132 + 16 * r + 6) (by omega)), ⟨zixO hA1.2.1 hA1.2.2 (i := 132 + 16 * r + 6) (by omega) (by decide), zIr ((zIa _ _ _ _).trans ((gU_n _ (by omega)))) (⟨trivial, fun (qg26 : zrg ((zI M 671) (132 + 16 * r + 6).toNat)) _ => ⟨trivial, fun (qg27 : zrg ((zI M 671) (132 + 16 * r + 6).toNat)) _ => ⟨(zrgI (x := ((zI M 671) (132 + 16 * r + 6).toNat) - 1) (by omega)), (show Φ 57 [some (zo 670), some (zi r), some (zi 1), some (zi 0), some (zi (((zI M 671) (132 + 16 * r + 6).toNat) - 1))] [] (zsA M1 671 (gU (zI M 671) (132 + 16 * r + 1) 3)) (0) (0) from ?g206l4)⟩⟩⟩)⟩⟩⟩⟩⟩⟩⟩⟩⟩)⟩⟩⟩⟩⟩⟩⟩))⟩⟩, fun (h : (1 : Int) = 0) => absurd h (by decide)⟩⟩⟩⟩⟩⟩, fun (h : (1 : Int) = 0) => absurd h (by decide)⟩, fun (h : (1 : Int) = 0) => absurd h (by decide)⟩, fun (h : (1 : Int) = 0) => absurd h (by decide)⟩⟩⟩⟩⟩⟩⟩⟩⟩⟩⟩⟩⟩⟩⟩⟩⟩)⟩)⟩⟩⟩⟩⟩⟩⟩⟩⟩⟩⟩
  case g206l1 => first | (exfalso; omega) | (refine zKm (hE (by first | omega | ((repeat' split) <;> first | omega | (exfalso; simp_all)))) rfl ?_; first | (simp only [↓reduceIte, decide_eq_true_eq, decide_eq_false_iff_not, decide_true, decide_false, ne_eq, not_true_eq_false, not_false_eq_true, and_true, true_and, and_false, false_and, or_true, true_or, or_false, false_or, and_self, or_self, Bool.true_and, Bool.and_true, Bool.false_and, Bool.and_false, b2i, Bool.false_eq_true, reduceCtorEq, gt_iff_lt, ge_iff_le, qc2, Int.not_le.mpr qc2]; done) | (simp only [↓reduceIte, decide_eq_true_eq, decide_eq_false_iff_not, decide_true, decide_false, ne_eq, not_true_eq_false, not_false_eq_true, and_true, true_and, and_false, false_and, or_true, true_or, or_false, false_or, and_self, or_self, Bool.true_and, Bool.and_true, Bool.false_and, Bool.and_false, b2i, Bool.false_eq_true, reduceCtorEq, gt_iff_lt, ge_iff_le, qc2, Int.not_le.mpr qc2]; rfl) | (simp [qc2, Int.not_le.mpr qc2]; done) | ((repeat' split) <;> first | rfl | omega))
  case g206l2 => first | (exfalso; omega) | (refine zKm (hE (by first | omega | ((repeat' split) <;> first | omega | (exfalso; simp_all)))) rfl ?_; first | (simp only [↓reduceIte, decide_eq_true_eq, decide_eq_false_iff_not, decide_true, decide_false, ne_eq, not_true_eq_false, not_false_eq_true, and_true, true_and, and_false, false_and, or_true, true_or, or_false, false_or, and_self, or_self, Bool.true_and, Bool.and_true, Bool.false_and, Bool.and_false, b2i, Bool.false_eq_true, reduceCtorEq, gt_iff_lt, ge_iff_le, qc7, qc8, Int.not_lt.mpr qc7, Int.not_le.mpr qc8]; done) | (simp only [↓reduceIte, decide_eq_true_eq, decide_eq_false_iff_not, decide_true, decide_false, ne_eq, not_true_eq_false, not_false_eq_true, and_true, true_and, and_false, false_and, or_true, true_or, or_false, false_or, and_self, or_self, Bool.true_and, Bool.and_true, Bool.false_and, Bool.and_false, b2i, Bool.false_eq_true, reduceCtorEq, gt_iff_lt, ge_iff_le, qc7, qc8, Int.not_lt.mpr qc7, Int.not_le.mpr qc8]; rfl) | (simp [qc7, qc8, Int.not_lt.mpr qc7, Int.not_le.mpr qc8]; done) | ((repeat' split) <;> first | rfl | omega))
  case g206l3 => first | (exfalso; omega) | (refine zKm (hE (by first | omega | ((repeat' split) <;> first | omega | (exfalso; simp_all)))) rfl ?_; first | (simp only [↓reduceIte, decide_eq_true_eq, decide_eq_false_iff_not, decide_true, decide_false, ne_eq, not_true_eq_false, not_false_eq_true, and_true, true_and, and_false, false_and, or_true, true_or, or_false, false_or, and_self, or_self, Bool.true_and, Bool.and_true, Bool.false_and, Bool.and_false, b2i, Bool.false_eq_true, reduceCtorEq, gt_iff_lt, ge_iff_le, qc7, qc13, qc17, Int.not_lt.mpr qc7, Int.not_lt.mpr qc13, Int.not_lt.mpr qc17]; done) | (simp only [↓reduceIte, decide_eq_true_eq, decide_eq_false_iff_not, decide_true, decide_false, ne_eq, not_true_eq_false, not_false_eq_true, and_true, true_and, and_false, false_and, or_true, true_or, or_false, false_or, and_self, or_self, Bool.true_and, Bool.and_true, Bool.false_and, Bool.and_false, b2i, Bool.false_eq_true, reduceCtorEq, gt_iff_lt, ge_iff_le, qc7, qc13, qc17, Int.not_lt.mpr qc7, Int.not_lt.mpr qc13, Int.not_lt.mpr qc17]; rfl) | (simp [qc7, qc13, qc17, Int.not_lt.mpr qc7, Int.not_lt.mpr qc13, Int.not_lt.mpr qc17]; done) | ((repeat' split) <;> first | rfl | omega))
  case g206l4 =>
    first
    | (exfalso; omega)
    | skip
      have hRr := hR5 r (by omega) (by omega)
      have hm := hRr.2.1
      have ht := TK_RwT hm.1
      refine loop M1 hY1 hA1 (by omega) (fun g n hs => apiFin hY hf1 h81 hH1 (fun M' y1 y2 y3 y4 y5 => hK (by first | omega | (rw [if_pos (by omega), if_pos (by omega)])) M' n y1 y2 y3 (y4 ▸ hs) y5)) (TK (zI M 671) r).length (TK (zI M 671) r) [] _ _ _ rfl (List.append_nil _).symm ?_ (gU_s _ _ _) (fun j j0 j1 => gU_n _ (by omega)) rfl ?_
      · rw [List.filter_nil, List.append_nil]
        exact ht.congr hRr.1.1 (TK_len hRr) (fun j j0 j1 => gU_n _ (by omega))
      · have h9 : gU (zI M 671) (132 + 16 * r + 1) 3 (132 + 16 * r + 6).toNat = zI M 671 (132 + 16 * r + 6).toNat := gU_n _ (by omega)
        have h8 := ht.1
        omega
theorem M_X9_setAside {l : Launch} (hl : l.stackTraces = false) : zMet l yX9_setAside (Cond.code yX9_setAside cX9_setAside 5 (Option.some Jvm.ClassFile.FieldType.int) :: zG) rm_X9_setAside 0 0 T_X9_setAside := met_X9_setAside hl (M_X9_isRow hl) (M_X9_ofRow hl) (M_X9_passes2 hl) (M_X9_remember hl) (M_X9_put hl) (M_X9_manyAt hl) (M_X9_isInWork hl) (M_X9_dropTaking hl) bd_X9_setAside
