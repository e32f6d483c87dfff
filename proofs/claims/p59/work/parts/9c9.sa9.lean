def UC (c : Nat) (M M' : ZM) : Prop := zN M ≤ zN M' ∧ ∀ j, 65 ≤ j → j < c → zK M' j = zK M j ∧ zLn M' j = zLn M j ∧ zI M' j = zI M j ∧ zR M' j = zR M j
theorem UB.uc {c : Nat} {M M' : ZM} (h : UB c M M') : UC c M M' := ⟨h.1, fun j _ hj => h.2 j hj⟩
theorem UC.tr {c : Nat} {M M1 M2 : ZM} (h : UC c M M1) (h2 : UC c M1 M2) : UC c M M2 := ⟨Nat.le_trans h.1 h2.1, fun j h0 hj => ⟨(h2.2 j h0 hj).1.trans (h.2 j h0 hj).1, (h2.2 j h0 hj).2.1.trans (h.2 j h0 hj).2.1, (h2.2 j h0 hj).2.2.1.trans (h.2 j h0 hj).2.2.1, (h2.2 j h0 hj).2.2.2.trans (h.2 j h0 hj).2.2.2⟩⟩
theorem UC.lo {a b : Nat} {M M1 : ZM} (h : UC b M M1) (hab : a ≤ b) : UC a M M1 := ⟨h.1, fun j h0 hj => h.2 j h0 (Nat.lt_of_lt_of_le hj hab)⟩
theorem UC.r64 {c k : Nat} {v : Option Nat} {M : ZM} : UC c M (zsR M 64 k v) := ⟨Nat.le_refl _, fun x h0 _ => ⟨rfl, rfl, rfl, funext (fun y => up2_n _ _ _ _ y (by omega))⟩⟩
theorem UC.i64 {c k : Nat} {v : Int} {M : ZM} : UC c M (zsI M 64 k v) := ⟨Nat.le_refl _, fun x h0 _ => ⟨rfl, rfl, zI_In M k v (by omega), rfl⟩⟩
theorem zW.uc {M M' : ZM} {b j κ : Nat} (h : zW M j κ) (u : UC b M M') (h0 : 65 ≤ j) (hj : j < b) : zW M' j κ := ⟨(u.2 j h0 hj).1.trans h.1, h.2.1, Nat.lt_of_lt_of_le h.2.2 u.1⟩
theorem LRow.uc {M M' : ZM} {t c : Nat} (h : LRow M t) (u : UC c M M') (h0 : 65 ≤ t) (hc : t + 2 ≤ c) : LRow M' t := by
  have e : ∀ j, 65 ≤ j → j < c → zLn M' j = zLn M j ∧ zI M' j = zI M j ∧ zR M' j = zR M j := fun j h0 hj => (u.2 j h0 hj).2
  obtain ⟨a, b1, b2, b3⟩ := h
  have er := (e t (by omega) (by omega)).2.2
  exact ⟨a.uc u (by omega) (by omega), by rw [er]; exact b1, b2.uc u (by omega) (by omega), (e _ (by omega) (by omega)).1.trans b3⟩
theorem LTab.uc {M M' : ZM} {t c : Nat} (h : LTab M t) (u : UC c M M') (h0 : 65 ≤ t) (hc : t + 59 ≤ c) : LTab M' t := by
  have e : ∀ j, 65 ≤ j → j < c → zLn M' j = zLn M j ∧ zI M' j = zI M j ∧ zR M' j = zR M j := fun j h0 hj => (u.2 j h0 hj).2
  obtain ⟨a, ⟨b1, b2, b3⟩, ⟨c1, c2, c3⟩, ⟨d1, d2, d3⟩, ⟨e1, e2, e3⟩, f, g⟩ := h
  have er := (e t (by omega) (by omega)).2.2
  refine ⟨a.uc u (by omega) (by omega), ⟨by rw [er]; exact b1, b2.uc u (by omega) (by omega), (e _ (by omega) (by omega)).1.trans b3⟩, ⟨by rw [er]; exact c1, c2.uc u (by omega) (by omega), (e _ (by omega) (by omega)).1.trans c3⟩, ⟨by rw [er]; exact d1, d2.uc u (by omega) (by omega), (e _ (by omega) (by omega)).1.trans d3⟩, ⟨by rw [er]; exact e1, e2.uc u (by omega) (by omega), (e _ (by omega) (by omega)).1.trans e3⟩, fun i i0 i1 => ?_, fun i i0 i1 => ?_⟩
  · rw [(e (t + 1) (by omega) (by omega)).2.2]; exact ⟨(f i i0 i1).1, (f i i0 i1).2.uc u (by omega) (by omega)⟩
  · rw [(e (t + 2) (by omega) (by omega)).2.2]; exact ⟨(g i i0 i1).1, (g i i0 i1).2.uc u (by omega) (by omega)⟩
theorem TR_n {M M' : ZM} {t : Nat} (h : TR M t gNew) (e : ∀ j, t ≤ j → j < t + 59 → zI M' j = zI M j) : TR M' t gNew := by
  obtain ⟨⟨h1, -, -, h4⟩, -⟩ := h
  have g4 : gNew 4 = 0 := rfl
  have g5 : gNew 5 = 0 := rfl
  refine ⟨⟨?_, fun w w0 w1 => ?_, fun r r0 r1 => ?_, fun a b a0 a1 b0 b1 => ?_⟩, fun w w0 w1 => ?_⟩
  · rw [e t (by omega) (by omega)]; exact h1
  · rw [g4] at w1; omega
  · rw [g5] at r1; omega
  · rw [e (t + 3) (by omega) (by omega), e (t + 4) (by omega) (by omega)]; exact h4 a b a0 a1 b0 b1
  · rw [g4] at w1; omega
def PA1 (M : ZM) : Prop := (zW M 65 6 ∧ zR M 65 2 = some 66 ∧ zR M 65 3 = some 70) ∧ (zW M 66 5 ∧ zR M 66 0 = some 67 ∧ zW M 67 20 ∧ zLn M 67 = 500 ∧ zI M 66 1 = 0) ∧ (zR M 66 2 = some 68 ∧ TBn M 68) ∧ LTab M 70
theorem TBn.uc {M M' : ZM} {b c : Nat} (h : TBn M b) (u : UC c M M') (h0 : 65 ≤ b) (hc : b + 2 ≤ c) : TBn M' b := by
  obtain ⟨h1, h2, h3, h4, h5, h6, h7⟩ := h
  have e0 := u.2 b (by omega) (by omega)
  have e1 := u.2 (b + 1) (by omega) (by omega)
  exact ⟨h1.uc u (by omega) (by omega), h2.uc u (by omega) (by omega), e1.2.1.trans h3, by rw [e0.2.2.2]; exact h4, by rw [e0.2.2.1]; exact h5, by rw [e0.2.2.1]; exact h6, by rw [e1.2.2.1]; exact h7⟩
theorem TBn.tb {M : ZM} (h : TBn M 68) : TXB M := by
  obtain ⟨h1, h2, h3, h4, h5, h6, h7⟩ := h
  exact ⟨h4, h5, by omega, h7⟩
def PA2 (M : ZM) : Prop := LTab M 129 ∧ TR M 129 gNew
def PA3 (M : ZM) : Prop := zW M 188 4 ∧ zR M 188 2 = some 189 ∧ (zW M 189 32 ∧ zLn M 189 = 6) ∧ (zI M 188 0 = 0 ∧ zI M 188 1 = 0) ∧ ∀ q : Int, 0 ≤ q → q < 6 → zR M 189 q.toNat = some (190 + 59 * q.toNat) ∧ LTab M (190 + 59 * q.toNat)
def PA4 (i : Int) (M : ZM) : Prop := (zW M 544 32 ∧ zLn M 544 = 2) ∧ ∀ q : Int, 0 ≤ q → q < i → zR M 544 q.toNat = some (545 + 59 * q.toNat) ∧ LTab M (545 + 59 * q.toNat)
def PA5 (M : ZM) : Prop := (zW M 663 22 ∧ zLn M 663 = 2) ∧ zI M 663 0 = 0 ∧ zI M 663 1 = 0
def PA6 (M : ZM) : Prop := zW M 664 9 ∧ (zR M 664 4 = some 665 ∧ zW M 665 20 ∧ zLn M 665 = 3) ∧ (zR M 664 5 = some 666 ∧ zW M 666 20 ∧ zLn M 666 = 3) ∧ zR M 664 6 = some 667 ∧ zW M 667 20 ∧ zLn M 667 = 3
theorem PA1.uc {M M' : ZM} {c : Nat} (h : PA1 M) (u : UC c M M') (hc : 129 ≤ c) : PA1 M' := by
  obtain ⟨⟨a1, a2, a3⟩, ⟨b1, b2, b3, b4, b5⟩, ⟨s1, s2⟩, l⟩ := h
  have e : ∀ j, 65 ≤ j → j < c → zLn M' j = zLn M j ∧ zI M' j = zI M j ∧ zR M' j = zR M j := fun j h0 hj => (u.2 j h0 hj).2
  refine ⟨⟨a1.uc u (by omega) (by omega), ?_, ?_⟩, ⟨b1.uc u (by omega) (by omega), ?_, b3.uc u (by omega) (by omega), (e 67 (by omega) (by omega)).1.trans b4, ?_⟩, ⟨?_, s2.uc u (by omega) (by omega)⟩, l.uc u (by omega) (by omega)⟩
  · rw [(e 65 (by omega) (by omega)).2.2]; exact a2
  · rw [(e 65 (by omega) (by omega)).2.2]; exact a3
  · rw [(e 66 (by omega) (by omega)).2.2]; exact b2
  · rw [(e 66 (by omega) (by omega)).2.1]; exact b5
  · rw [(e 66 (by omega) (by omega)).2.2]; exact s1
theorem PA2.uc {M M' : ZM} {c : Nat} (h : PA2 M) (u : UC c M M') (hc : 188 ≤ c) : PA2 M' := ⟨h.1.uc u (by omega) (by omega), TR_n h.2 (fun j h0 h1 => (u.2 j (by omega) (by omega)).2.2.1)⟩
theorem PA3.uc {M M' : ZM} {c : Nat} (h : PA3 M) (u : UC c M M') (hc : 544 ≤ c) : PA3 M' := by
  obtain ⟨a1, a2, ⟨a3, a4⟩, a5, a6⟩ := h
  have e : ∀ j, 65 ≤ j → j < c → zLn M' j = zLn M j ∧ zI M' j = zI M j ∧ zR M' j = zR M j := fun j h0 hj => (u.2 j h0 hj).2
  refine ⟨a1.uc u (by omega) (by omega), ?_, ⟨a3.uc u (by omega) (by omega), (e 189 (by omega) (by omega)).1.trans a4⟩, ?_, fun q q0 q1 => ⟨?_, (a6 q q0 q1).2.uc u (by omega) (by omega)⟩⟩
  · rw [(e 188 (by omega) (by omega)).2.2]; exact a2
  · rw [(e 188 (by omega) (by omega)).2.1]; exact a5
  · rw [(e 189 (by omega) (by omega)).2.2]; exact (a6 q q0 q1).1
theorem PA4.uc {M M' : ZM} {c : Nat} {i : Int} (h : PA4 i M) (u : UC c M M') (hi : i ≤ 2) (hc : 545 + 59 * i.toNat ≤ c) : PA4 i M' := by
  obtain ⟨⟨a3, a4⟩, a6⟩ := h
  have e : ∀ j, 65 ≤ j → j < c → zLn M' j = zLn M j ∧ zI M' j = zI M j ∧ zR M' j = zR M j := fun j h0 hj => (u.2 j h0 hj).2
  refine ⟨⟨a3.uc u (by omega) (by omega), (e 544 (by omega) (by omega)).1.trans a4⟩, fun q q0 q1 => ⟨?_, (a6 q q0 q1).2.uc u (by omega) (by omega)⟩⟩
  rw [(e 544 (by omega) (by omega)).2.2]; exact (a6 q q0 q1).1
theorem PA5.uc {M M' : ZM} {c : Nat} (h : PA5 M) (u : UC c M M') (hc : 664 ≤ c) : PA5 M' := by
  obtain ⟨⟨a3, a4⟩, a6⟩ := h
  have e := u.2 663 (by omega) (by omega)
  refine ⟨⟨a3.uc u (by omega) (by omega), e.2.1.trans a4⟩, ?_⟩
  rw [e.2.2.1]; exact a6
theorem PA6.uc {M M' : ZM} {c : Nat} (h : PA6 M) (u : UC c M M') (hc : 668 ≤ c) : PA6 M' := by
  obtain ⟨a, ⟨b1, b2, b3⟩, ⟨c1, c2, c3⟩, d1, d2, d3⟩ := h
  have e : ∀ j, 65 ≤ j → j < c → zLn M' j = zLn M j ∧ zI M' j = zI M j ∧ zR M' j = zR M j := fun j h0 hj => (u.2 j h0 hj).2
  have er := (e 664 (by omega) (by omega)).2.2
  exact ⟨a.uc u (by omega) (by omega), ⟨by rw [er]; exact b1, b2.uc u (by omega) (by omega), (e _ (by omega) (by omega)).1.trans b3⟩, ⟨by rw [er]; exact c1, c2.uc u (by omega) (by omega), (e _ (by omega) (by omega)).1.trans c3⟩, by rw [er]; exact d1, d2.uc u (by omega) (by omega), (e _ (by omega) (by omega)).1.trans d3⟩
def tg8 (g : Nat) : Nat := [65, 66, 129, 188, 544, 663, 664, 668].getD g 0
/-- k references are laid, n cells are made -/
def IS (k n : Nat) (M0 M : ZM) : Prop := UB 64 M0 M ∧ zW M 64 11 ∧ zN M = n ∧ (∀ g, g < k → zR M 64 g = some (tg8 g)) ∧ (1 ≤ k → PA1 M) ∧ (3 ≤ k → PA2 M) ∧ (4 ≤ k → PA3 M) ∧ (6 ≤ k → PA4 2 M) ∧ (6 ≤ k → PA5 M) ∧ (7 ≤ k → PA6 M)
def ISc (k c : Nat) : Prop := (1 ≤ k → 129 ≤ c) ∧ (3 ≤ k → 188 ≤ c) ∧ (4 ≤ k → 544 ≤ c) ∧ (6 ≤ k → 664 ≤ c) ∧ (7 ≤ k → 668 ≤ c)
theorem IS.up {k n n' c : Nat} {M0 M M' : ZM} (h : IS k n M0 M) (b : UB 65 M M') (u : UC c M M') (hc : ISc k c) (hn : zN M' = n') : IS k n' M0 M' := by
  obtain ⟨a1, a2, a3, a4, p1, p2, p3, p4, p5, p6⟩ := h
  obtain ⟨c1, c2, c3, c5, c6⟩ := hc
  refine ⟨a1.tr (b.lo (by omega)), a2.ub b (by omega), hn, fun g hg => ?_, fun q => (p1 q).uc u (c1 q), fun q => (p2 q).uc u (c2 q), fun q => (p3 q).uc u (c3 q), fun q => (p4 q).uc u (by omega) (by have := c5 q; show 545 + 59 * 2 ≤ c; omega), fun q => (p5 q).uc u (c5 q), fun q => (p6 q).uc u (c6 q)⟩
  rw [(b.2 64 (by omega)).2.2.2]; exact a4 g hg
theorem IS.wr {k n : Nat} {M0 M : ZM} (h : IS k n M0 M) (q1 : k = 0 → PA1 M) (q2 : k = 2 → PA2 M) (q3 : k = 3 → PA3 M) (q4 : k = 5 → PA4 2 M ∧ PA5 M) (q6 : k = 6 → PA6 M) (hk : k < 8) : IS (k + 1) n M0 (zsR M 64 k (some (tg8 k))) := by
  obtain ⟨a1, a2, a3, a4, p1, p2, p3, p4, p5, p6⟩ := h
  have u : ∀ c, UC c M (zsR M 64 k (some (tg8 k))) := fun c => UC.r64
  refine ⟨a1.tr (UB.r (Nat.le_refl _)), a2, a3, fun g hg => ?_, fun q => ?_, fun q => ?_, fun q => ?_, fun q => ?_, fun q => ?_, fun q => ?_⟩
  · by_cases z : g = k
    · subst z; exact up2_s _ _ _ _
    · exact (up2_m _ _ _ _ _ z).trans (a4 g (by omega))
  · by_cases z : k = 0
    · exact (q1 z).uc (u 129) (by omega)
    · exact (p1 (by omega)).uc (u 129) (by omega)
  · by_cases z : k = 2
    · exact (q2 z).uc (u 188) (by omega)
    · exact (p2 (by omega)).uc (u 188) (by omega)
  · by_cases z : k = 3
    · exact (q3 z).uc (u 544) (by omega)
    · exact (p3 (by omega)).uc (u 544) (by omega)
  · by_cases z : k = 5
    · exact (q4 z).1.uc (u 663) (by omega) (by decide)
    · exact (p4 (by omega)).uc (u 663) (by omega) (by decide)
  · by_cases z : k = 5
    · exact (q4 z).2.uc (u 664) (by omega)
    · exact (p5 (by omega)).uc (u 664) (by omega)
  · by_cases z : k = 6
    · exact (q6 z).uc (u 668) (by omega)
    · exact (p6 (by omega)).uc (u 668) (by omega)
theorem SB_r64 {M : ZM} {b c k : Nat} {o : List Int} {x : Option Nat} (h : SB M b c o) (hb : b ≠ 64) : SB (zsR M 64 k x) b c o ∧ vu (zsR M 64 k x) b = vu M b := by
  have e : zR (zsR M 64 k x) b = zR M b := funext (fun y => up2_n _ _ _ _ y hb)
  have v : vu (zsR M 64 k x) b = vu M b := by unfold vu; rw [e]
  unfold SB
  rw [v, e]
  exact ⟨h, rfl⟩
theorem IS.lv {n : Nat} {M0 M : ZM} (h : IS 8 n M0 M) (hb : zW M 668 1) : LV M := by
  obtain ⟨a1, a2, a3, a4, p1, p2, p3, p4, p5, p6⟩ := h
  obtain ⟨⟨b1, b2, b3⟩, ⟨c1, c2, c3, c4, c5⟩, ⟨s1, s2⟩, l⟩ := p1 (by omega)
  obtain ⟨d1, d2⟩ := p2 (by omega)
  obtain ⟨e1, e2, ⟨e3, e4⟩, e5, e6⟩ := p3 (by omega)
  obtain ⟨⟨f1, f2⟩, f3⟩ := p4 (by omega)
  obtain ⟨⟨g1, g2⟩, g3⟩ := p5 (by omega)
  obtain ⟨h1, ⟨h2, h3, h4⟩, ⟨h5, h6, h7⟩, h8, h9, hA⟩ := p6 (by omega)
  exact ⟨a2, a4 0 (by omega), a4 1 (by omega), a4 2 (by omega), a4 3 (by omega), a4 4 (by omega), a4 5 (by omega), a4 6 (by omega), a4 7 (by omega), b1, b2, b3, c1, c2, c3, c4, s1, s2.1, s2.2.1, s2.2.2.1, l, d1, e1, e2, e3, e4, e6, f1, f2, f3, g1, g2, h1, h2, h3, h4, h5, h6, h7, h8, h9, hA, hb⟩
def T_X8_init : ZTf := fun av M K KX => av = [zo 64] ∧ zW M 64 11 ∧ zN M = 65 ∧ ∀ M' : ZM, UB 64 M M' → zN M' = 670 → LV M' → TR M' 129 gNew → (zI M' 188 0 = 0 ∧ zI M' 188 1 = 0) → (zI M' 663 0 = 0 ∧ zI M' 663 1 = 0) → zI M' 66 1 = 0 → TXB M' → SB M' 668 16 [] → vu M' 668 = 669 → (zI M' 64 8 = 0 ∧ zI M' 64 9 = -1) → K none M'
set_option maxRecDepth 100000 in
set_option maxHeartbeats 1500000 in
theorem bd_X8_init : zBd (cd_X8_init T_X3_init T_X5_init T_X0_init T_X6_init T_J4_init_da8c8) 2 605 6861 T_X8_init := by
  rintro av M K KX hA0 hM ⟨rfl, hw, hn, hK⟩
  refine ⟨rfl, fun Φ hΦ => ?_⟩
  have h111 : ∀ (M90 : ZM) (k n : Nat), IS 8 670 M M90 → SB M90 668 16 [] ∧ vu M90 668 = 669 → (k : Int) = 605 → (n : Int) = 6861 → Φ 111 [some (zo 64), some (zi 2)] [] M90 k n := by
    intro M90 k n hS90 hq90 hk hn
    have hw90 := hS90.2.1
    have hn90 := hS90.2.2.1
    have hf90 := hS90.2.2.2.1
    have h64 : zCC ≤ zN M90 := by rw [hn90]; show 64 ≤ _; omega
    refine zGoR hΦ [] 400 (fun hL9 _ hM _ _ => ?_)
    obtain ⟨qL1, _⟩ : zrg 2 ∧ True := hL9
    refine ⟨⟨hw90, trivial⟩, ⟨⟨hw90, trivial⟩, (show K none (zsI (zsI M90 64 8 0) 64 9 (-1)) from ?g474l1)⟩⟩
    case g474l1 =>
      obtain ⟨hsb, hvu⟩ := hq90
      have u64 : UB 64 M90 (zsI (zsI M90 64 8 0) 64 9 (-1)) := (UB.i (Nat.le_refl _)).tr (UB.i (Nat.le_refl _))
      have uc : ∀ c, UC c M90 (zsI (zsI M90 64 8 0) 64 9 (-1)) := fun c => UC.i64.tr UC.i64
      have hlv := hS90.lv hsb.w
      obtain ⟨a1, a2, a3, a4, p1, p2, p3, p4, p5, p6⟩ := hS90
      have ev : ∀ c o, SB M90 668 c o → vu M90 668 = 669 → SB (zsI (zsI M90 64 8 0) 64 9 (-1)) 668 c o := fun c o h hv => by
        obtain ⟨q1, q2, q3, q4, q5, q6⟩ := h
        have e46 : zI (zsI (zsI M90 64 8 0) 64 9 (-1)) 668 = zI M90 668 := (zI_In _ _ _ (by decide)).trans (zI_In _ _ _ (by decide))
        have e47 : zI (zsI (zsI M90 64 8 0) 64 9 (-1)) 669 = zI M90 669 := (zI_In _ _ _ (by decide)).trans (zI_In _ _ _ (by decide))
        rw [hv] at q5 q6
        refine ⟨q1, q2, by rw [e46]; exact q3, q4, ?_, ?_⟩
        · show ∀ k, zPb (zI _ (vu M90 668) k)
          rw [hv, e47]; exact q5
        · show ∀ k, k < o.length → zI _ (vu M90 668) k = _
          rw [hv, e47]; exact q6
      refine hK _ (a1.tr u64) a3 (show LV _ from hlv) ((p2 (by omega)).uc (uc 188) (by omega)).2 ((p3 (by omega)).uc (uc 544) (by omega)).2.2.2.1 ((p5 (by omega)).uc (uc 664) (by omega)).2 ((p1 (by omega)).uc (uc 129) (by omega)).2.1.2.2.2.2 ((p1 (by omega)).uc (uc 129) (by omega)).2.2.1.2.tb (ev _ _ hsb hvu) hvu ⟨?_, ?_⟩ <;> simp (disch := omega) only [zIs, zIm, zIn, zIrf]
  have h100 : ∀ (M90 : ZM) (k n : Nat), IS 7 668 M M90 → (k : Int) = 603 → (n : Int) = 6841 → Φ 100 [some (zo 64), some (zi 2)] [] M90 k n := by
    intro M90 k n hS90 hk hn
    have hw90 := hS90.2.1
    have hn90 := hS90.2.2.1
    have hf90 := hS90.2.2.2.1
    have h64 : zCC ≤ zN M90 := by rw [hn90]; show 64 ≤ _; omega
    refine zGoR hΦ [111] 400 (fun hL9 _ hM _ _ => ?_)
    obtain ⟨qL1, _⟩ : zrg 2 ∧ True := hL9
    refine ⟨⟨(by omega), (by omega)⟩, ⟨rfl, ⟨⟨(by omega), (by omega)⟩, ⟨⟨rfl, rfl⟩, (zW.nn (κ := 1) (n := 0) h64).rcv⟩, ⟨(zN M90), rfl, (zW.nn (κ := 1) (n := 0) h64), fun qg1 qm2 => ⟨(zW.nw (κ' := 21) (n := 16) (zW.nw (κ' := 1) (n := 0) hw90)), (show Φ 111 [some (zo 64), some (zi 2)] [] (zsR (zsI (zsR (zNw (zNw M90 1 0) 21 16) (zN M90) 0 (some (zN (zNw M90 1 0)))) (zN M90) 1 0) 64 7 (some (zN M90))) (k + 1 + 1) (n + 4 + 16) from ?g475l1)⟩⟩⟩⟩⟩
    case g475l1 =>
      obtain ⟨s1, s2, s3⟩ := SB_new (M := M90) (b := 668) (n := 16) (by omega) hn90 (by omega)
      show Φ 111 _ [] (zsR (zsI (zsR (zNw (zNw M90 1 0) 21 16) (zN M90) 0 (some (zN M90 + 1))) (zN M90) 1 0) 64 7 (some (zN M90))) _ _
      rw [hn90]
      obtain ⟨Mi, hMi⟩ : ∃ Mi, zsI (zsR (zNw (zNw M90 1 0) 21 16) 668 0 (some (668 + 1))) 668 1 0 = Mi := ⟨_, rfl⟩
      have uB : UB 668 M90 Mi := by
        rw [← hMi]
        exact (((UB.n (by omega)).tr (UB.n (by show 668 ≤ zN M90 + 1; omega))).tr (UB.r (Nat.le_refl _))).tr (UB.i (Nat.le_refl _))
      have hni : zN Mi = 670 := by rw [← hMi]; show zN M90 + 1 + 1 = _; omega
      rw [hMi] at s1 s2 s3 ⊢
      have r9 := SB_r64 (k := 7) (x := some 668) s1 (by decide)
      exact h111 _ _ _ (IS.wr (k := 7) (hS90.up (uB.lo (by omega)) uB.uc ⟨fun _ => by omega, fun _ => by omega, fun _ => by omega, fun _ => by omega, fun _ => by omega⟩ hni) (fun z => absurd z (by decide)) (fun z => absurd z (by decide)) (fun z => absurd z (by decide)) (fun z => absurd z (by decide)) (fun z => absurd z (by decide)) (by decide)) ⟨r9.1, r9.2.trans s2⟩ (by omega) (by omega)
  have h89 : ∀ (M90 : ZM) (k n : Nat), IS 6 664 M M90 → (k : Int) = 599 → (n : Int) = 6825 → Φ 89 [some (zo 64), some (zi 2)] [] M90 k n := by
    intro M90 k n hS90 hk hn
    have hw90 := hS90.2.1
    have hn90 := hS90.2.2.1
    have hf90 := hS90.2.2.2.1
    have h64 : zCC ≤ zN M90 := by rw [hn90]; show 64 ≤ _; omega
    refine zGoR hΦ [100] 400 (fun hL9 _ hM _ _ => ?_)
    obtain ⟨qL1, _⟩ : zrg 2 ∧ True := hL9
    refine ⟨⟨(by omega), (by omega)⟩, ⟨rfl, ⟨⟨(by omega), (by omega)⟩, ⟨⟨rfl, rfl⟩, (zW.nn (κ := 9) (n := 0) h64).rcv⟩, ⟨(zN M90), rfl, (zW.nn (κ := 9) (n := 0) h64), rfl, fun M1 hu1 hn91 hw91 ha41 ha51 ha61 => (have hu9 : UB (zN M90) M90 M1 := (UB.n (Nat.le_refl _)).tr hu1; have hwb1 : zW M1 64 11 := hw90.ub hu9 (by omega); fun qg1 qm2 => ⟨hwb1, (show Φ 100 [some (zo 64), some (zi 2)] [] (zsR M1 64 6 (some (zN M90))) (k + 1 + 3) (n + 7 + 9) from ?g476l1)⟩)⟩⟩⟩⟩
    case g476l1 =>
      rw [hn90] at hw91 ha41 ha51 ha61 ⊢
      have hnx : zN M1 = 668 := by omega
      exact h100 _ _ _ (IS.wr (k := 6) (hS90.up (hu9.lo (by omega)) hu9.uc ⟨fun _ => by omega, fun _ => by omega, fun _ => by omega, fun _ => by omega, fun _ => by omega⟩ hnx) (fun z => absurd z (by decide)) (fun z => absurd z (by decide)) (fun z => absurd z (by decide)) (fun z => absurd z (by decide)) (fun z => (⟨hw91, ha41, ha51, ha61⟩ : PA6 M1)) (by decide)) (by omega) (by omega)
  have h82 : ∀ (M90 : ZM) (k n : Nat), IS 5 663 M M90 → PA4 2 M90 → (k : Int) = 598 → (n : Int) = 6823 → Φ 82 [some (zo 64), some (zi 2)] [] M90 k n := by
    intro M90 k n hS90 hq90 hk hn
    have hw90 := hS90.2.1
    have hn90 := hS90.2.2.1
    have hf90 := hS90.2.2.2.1
    have h64 : zCC ≤ zN M90 := by rw [hn90]; show 64 ≤ _; omega
    refine zGoR hΦ [89] 400 (fun hL9 _ hM _ _ => ?_)
    obtain ⟨qL1, _⟩ : zrg 2 ∧ True := hL9
    refine ⟨⟨(by omega), (by omega), (by omega), (by omega)⟩, ⟨(zW.nw (κ' := 22) (n := 2) hw90), (show Φ 89 [some (zo 64), some (zi 2)] [] (zsR (zNw M90 22 2) 64 5 (some (zN M90))) (k + 1) (n + 2) from ?g477l1)⟩⟩
    case g477l1 =>
      have uB : UB (zN M90) M90 (zNw M90 22 2) := UB.n (Nat.le_refl _)
      have hnx : zN (zNw M90 22 2) = 664 := by show zN M90 + 1 = _; omega
      have w9 := zW.nn (M := M90) (κ := 22) (n := 2) h64
      have l9 : zLn (zNw M90 22 2) (zN M90) = 2 := up1_s _ _ _
      have i9 : zI (zNw M90 22 2) (zN M90) = fun _ => 0 := up1_s _ _ _
      show Φ 89 _ [] (zsR (zNw M90 22 2) 64 5 (some (zN M90))) _ _
      rw [hn90] at w9 l9 i9 ⊢
      exact h89 _ _ _ (IS.wr (k := 5) (hS90.up (uB.lo (by omega)) uB.uc ⟨fun _ => by omega, fun _ => by omega, fun _ => by omega, fun _ => by omega, fun _ => by omega⟩ hnx) (fun z => absurd z (by decide)) (fun z => absurd z (by decide)) (fun z => absurd z (by decide)) (fun z => (⟨hq90.uc uB.uc (by omega) (by rw [hn90]; decide), ⟨w9, l9⟩, congrFun i9 0, congrFun i9 1⟩ : PA4 2 _ ∧ PA5 _)) (fun z => absurd z (by decide)) (by decide)) (by omega) (by omega)
  have h58 : ∀ i : Int, 0 ≤ i → i ≤ 2 → ∀ (M90 : ZM) (k n : Nat), IS 5 (545 + 59 * i.toNat) M M90 → PA4 i M90 → (k : Int) = 480 + 59 * i → (n : Int) = 5567 + 628 * i → Φ 58 [some (zo 64), some (zi i)] [] M90 k n := by
    refine zdown (n := 2) (P := fun i => ∀ (M90 : ZM) (k n : Nat), IS 5 (545 + 59 * i.toNat) M M90 → PA4 i M90 → (k : Int) = 480 + 59 * i → (n : Int) = 5567 + 628 * i → Φ 58 [some (zo 64), some (zi i)] [] M90 k n) (fun i h0 h1 ih M90 k n hS90 hq90 hk hn => ?_)
    have hw90 := hS90.2.1
    have hn90 := hS90.2.2.1
    have hf90 := hS90.2.2.2.1
    have ha90 := hq90.1
    have h64 : zCC ≤ zN M90 := by rw [hn90]; show 64 ≤ _; omega
    refine zGoR hΦ [58, 82] 400 (fun hL9 _ hM _ _ => ?_)
    obtain ⟨qL1, _⟩ : zrg i ∧ True := hL9
    refine ⟨fun (qc1 : i ≥ 2) => (show Φ 82 [some (zo 64), some (zi i)] [] M90 (k) (n) from ?g478l1), fun (qc2 : i < 2) => ⟨hw90, _, (show zR M90 64 4 = some 544 from hf90 4 (by omega)), ⟨⟨(by omega), (by omega)⟩, ⟨rfl, ⟨⟨(by omega), (by omega)⟩, ⟨⟨rfl, rfl⟩, (zW.nn (κ := 8) (n := 0) h64).rcv⟩, ⟨(zN M90), rfl, (zW.nn (κ := 8) (n := 0) h64), rfl, (by omega), fun M1 hu1 hn91 hl1 ht1 => (have hu9 : UB (zN M90) M90 M1 := (UB.n (Nat.le_refl _)).tr hu1; have hwb1 : zW M1 64 11 := hw90.ub hu9 (by omega); fun qg3 qm4 => ⟨⟨(ha90.1.ub hu9 (by omega)), hl1.w, (by omega), (by rw [(hu9.2 544 (by omega)).2.1, ha90.2]; omega), (by omega)⟩, ⟨(zrgI (x := i + 1) (by omega)), (show Φ 58 [some (zo 64), some (zi (i + 1))] [] (zsR M1 544 i.toNat (some (zN M90))) (k + 1 + 58) (n + 10 + 618) from ?g478l2)⟩⟩)⟩⟩⟩⟩⟩⟩
    case g478l1 =>
      have e9 : i = 2 := (by omega)
      subst e9
      exact h82 M90 _ _ hS90 hq90 (by omega) (by omega)
    case g478l2 =>
      have hnx : zN M1 = 545 + 59 * (i + 1).toNat := by omega
      have er : ∀ j, j ≠ 544 → zR (zsR M1 544 i.toNat (some (zN M90))) j = zR M1 j := fun j q => funext (fun y => up2_n _ _ _ _ y q)
      have u6 : UB 544 M90 (zsR M1 544 i.toNat (some (zN M90))) := (hu9.lo (by omega)).tr (UB.r (Nat.le_refl _))
      refine ih (by omega) _ _ _ (hS90.up (u6.lo (by omega)) u6.uc ⟨fun _ => by omega, fun _ => by omega, fun _ => by omega, fun z => by omega, fun z => by omega⟩ hnx) ⟨⟨(show zW M1 544 32 from ha90.1.ub hu9 (by omega)), (hu9.2 544 (by omega)).2.1.trans ha90.2⟩, fun q q0 q1 => ?_⟩ (by omega) (by omega)
      by_cases z : q = i
      · subst z
        rw [← hn90]
        exact ⟨up2_s _ _ _ _, hl1.ra (by omega)⟩
      · have h9 := hq90.2 q q0 (by omega)
        refine ⟨(up2_m _ _ _ _ _ (by omega)).trans ((congrFun (hu9.2 544 (by omega)).2.2.2 _).trans h9.1), ?_⟩
        exact (h9.2.ub hu9 (by omega)).ra (by omega)
  have h48 : ∀ (M90 : ZM) (k n : Nat), IS 4 544 M M90 → (k : Int) = 479 → (n : Int) = 5565 → Φ 48 [some (zo 64), none] [] M90 k n := by
    intro M90 k n hS90 hk hn
    have hw90 := hS90.2.1
    have hn90 := hS90.2.2.1
    have hf90 := hS90.2.2.2.1
    have h64 : zCC ≤ zN M90 := by rw [hn90]; show 64 ≤ _; omega
    refine zGoR hΦ [58] 400 (fun hL9 _ hM _ _ => ?_)
    obtain ⟨_⟩ : True := hL9
    refine ⟨⟨(by omega), (by omega), (by omega), (by omega)⟩, ⟨(zW.nw (κ' := 32) (n := 2) hw90), (show Φ 58 [some (zo 64), some (zi 0)] [] (zsR (zNw M90 32 2) 64 4 (some (zN M90))) (k + 1) (n + 2) from ?g479l1)⟩⟩
    case g479l1 =>
      have uB : UB (zN M90) M90 (zNw M90 32 2) := UB.n (Nat.le_refl _)
      have hnx : zN (zNw M90 32 2) = 545 + 59 * (0 : Int).toNat := by show zN M90 + 1 = _; rw [hn90]; rfl
      have w9 := zW.nn (M := M90) (κ := 32) (n := 2) h64
      have l9 : zLn (zNw M90 32 2) (zN M90) = 2 := up1_s _ _ _
      show Φ 58 _ [] (zsR (zNw M90 32 2) 64 4 (some (zN M90))) _ _
      rw [hn90] at w9 l9 ⊢
      exact h58 0 (by omega) (by omega) _ _ _ (IS.wr (k := 4) (hS90.up (uB.lo (by omega)) uB.uc ⟨fun _ => by omega, fun _ => by omega, fun _ => by omega, fun _ => by omega, fun _ => by omega⟩ hnx) (fun z => absurd z (by decide)) (fun z => absurd z (by decide)) (fun z => absurd z (by decide)) (fun z => absurd z (by decide)) (fun z => absurd z (by decide)) (by decide)) ⟨⟨w9, l9⟩, fun q q0 q1 => by omega⟩ (by omega) (by omega)
  have h37 : ∀ (M90 : ZM) (k n : Nat), IS 3 188 M M90 → (k : Int) = 123 → (n : Int) = 1788 → Φ 37 [some (zo 64), none] [] M90 k n := by
    intro M90 k n hS90 hk hn
    have hw90 := hS90.2.1
    have hn90 := hS90.2.2.1
    have hf90 := hS90.2.2.2.1
    have h64 : zCC ≤ zN M90 := by rw [hn90]; show 64 ≤ _; omega
    refine zGoR hΦ [48] 400 (fun hL9 _ hM _ _ => ?_)
    obtain ⟨_⟩ : True := hL9
    refine ⟨⟨(by omega), (by omega)⟩, ⟨rfl, ⟨⟨(by omega), (by omega)⟩, ⟨⟨rfl, rfl⟩, (zW.nn (κ := 4) (n := 0) h64).rcv⟩, ⟨(zN M90), rfl, (zW.nn (κ := 4) (n := 0) h64), rfl, (by omega), fun M1 hha1 => (have hu9 : UB (zN M90) M90 M1 := (UB.n (Nat.le_refl _)).tr hha1.1; have hwb1 : zW M1 64 11 := hw90.ub hu9 (by omega); fun qg1 qm2 => ⟨hwb1, (show Φ 48 [some (zo 64), none] [] (zsR M1 64 3 (some (zN M90))) (k + 1 + 355) (n + 3 + 3774) from ?g480l1)⟩)⟩⟩⟩⟩
    case g480l1 =>
      obtain ⟨a1, a2, a3, a4, a5, a6, a7⟩ := hha1
      rw [hn90] at a2 a3 a4 a5 a6 a7 ⊢
      have hnx : zN M1 = 544 := a2
      exact h48 _ _ _ (IS.wr (k := 3) (hS90.up (hu9.lo (by omega)) hu9.uc ⟨fun _ => by omega, fun _ => by omega, fun _ => by omega, fun _ => by omega, fun _ => by omega⟩ hnx) (fun z => absurd z (by decide)) (fun z => absurd z (by decide)) (fun z => (⟨a3, a4, a5, a6, a7⟩ : PA3 M1)) (fun z => absurd z (by decide)) (fun z => absurd z (by decide)) (by decide)) (by omega) (by omega)
  have h26 : ∀ (M90 : ZM) (k n : Nat), IS 2 129 M M90 → (k : Int) = 64 → (n : Int) = 1160 → Φ 26 [some (zo 64), none] [] M90 k n := by
    intro M90 k n hS90 hk hn
    have hw90 := hS90.2.1
    have hn90 := hS90.2.2.1
    have hf90 := hS90.2.2.2.1
    have h64 : zCC ≤ zN M90 := by rw [hn90]; show 64 ≤ _; omega
    refine zGoR hΦ [37] 400 (fun hL9 _ hM _ _ => ?_)
    obtain ⟨_⟩ : True := hL9
    refine ⟨⟨(by omega), (by omega)⟩, ⟨rfl, ⟨⟨(by omega), (by omega)⟩, ⟨⟨rfl, rfl⟩, (zW.nn (κ := 8) (n := 0) h64).rcv⟩, ⟨(zN M90), rfl, (zW.nn (κ := 8) (n := 0) h64), rfl, (by omega), fun M1 hu1 hn91 hl1 ht1 => (have hu9 : UB (zN M90) M90 M1 := (UB.n (Nat.le_refl _)).tr hu1; have hwb1 : zW M1 64 11 := hw90.ub hu9 (by omega); fun qg1 qm2 => ⟨hwb1, (show Φ 37 [some (zo 64), none] [] (zsR M1 64 2 (some (zN M90))) (k + 1 + 58) (n + 10 + 618) from ?g481l1)⟩)⟩⟩⟩⟩
    case g481l1 =>
      rw [hn90] at hl1 ht1 ⊢
      have hnx : zN M1 = 188 := by omega
      exact h37 _ _ _ (IS.wr (k := 2) (hS90.up (hu9.lo (by omega)) hu9.uc ⟨fun _ => by omega, fun _ => by omega, fun _ => by omega, fun _ => by omega, fun _ => by omega⟩ hnx) (fun z => absurd z (by decide)) (fun z => (⟨hl1, ht1⟩ : PA2 M1)) (fun z => absurd z (by decide)) (fun z => absurd z (by decide)) (fun z => absurd z (by decide)) (by decide)) (by omega) (by omega)
  have h15 : ∀ (M90 : ZM) (k n : Nat), IS 1 129 M M90 → (k : Int) = 64 → (n : Int) = 1160 → Φ 15 [some (zo 64), none] [] M90 k n := by
    intro M90 k n hS90 hk hn
    have hw90 := hS90.2.1
    have hn90 := hS90.2.2.1
    have hf90 := hS90.2.2.2.1
    have h64 : zCC ≤ zN M90 := by rw [hn90]; show 64 ≤ _; omega
    have hp90 : PA1 M90 := hS90.2.2.2.2.1 (by decide)
    refine zGoR hΦ [26] 400 (fun hL9 _ hM _ _ => ?_)
    obtain ⟨_⟩ : True := hL9
    refine ⟨hw90, _, (show zR M90 64 0 = some 65 from hf90 0 (by omega)), ⟨hp90.1.1, _, hp90.1.2.1, ⟨hw90, (show Φ 26 [some (zo 64), none] [] (zsR M90 64 1 (some 66)) (k) (n) from ?g482l1)⟩⟩⟩
    case g482l1 =>
      exact h26 _ _ _ (IS.wr (k := 1) hS90 (fun z => absurd z (by decide)) (fun z => absurd z (by decide)) (fun z => absurd z (by decide)) (fun z => absurd z (by decide)) (fun z => absurd z (by decide)) (by decide)) (by omega) (by omega)
  have h0 : ∀ (M90 : ZM) (k n : Nat), IS 0 65 M M90 → (k : Int) = 0 → (n : Int) = 0 → Φ 0 [some (zo 64), none] [] M90 k n := by
    intro M90 k n hS90 hk hn
    have hw90 := hS90.2.1
    have hn90 := hS90.2.2.1
    have hf90 := hS90.2.2.2.1
    have h64 : zCC ≤ zN M90 := by rw [hn90]; show 64 ≤ _; omega
    refine zGoR hΦ [15] 400 (fun hL9 _ hM _ _ => ?_)
    obtain ⟨_⟩ : True := hL9
    refine ⟨(Nat.le_of_ble_eq_true rfl), ⟨⟨(by omega), (by omega)⟩, ⟨rfl, ⟨⟨(by omega), (by omega)⟩, ⟨⟨rfl, rfl⟩, (zW.nn (κ := 6) (n := 0) h64).rcv⟩, ⟨(zN M90), rfl, (zW.nn (κ := 6) (n := 0) h64), rfl, (by omega), fun M1 hu1 hn91 hpa1 hpb1 hpr1 hpt1 hpl1 => (have hu9 : UB (zN M90) M90 M1 := (UB.n (Nat.le_refl _)).tr hu1; have hwb1 : zW M1 64 11 := hw90.ub hu9 (by omega); fun qg1 qm2 => ⟨hwb1, (show Φ 15 [some (zo 64), none] [] (zsR M1 64 0 (some (zN M90))) (k + 1 + 63) (n + 9 + 1151) from ?g483l1)⟩)⟩⟩⟩⟩⟩
    case g483l1 =>
      rw [hn90] at hpa1 hpb1 hpr1 hpt1 hpl1 ⊢
      have hnx : zN M1 = 129 := by omega
      exact h15 _ _ _ (IS.wr (k := 0) (hS90.up (hu9.lo (by omega)) hu9.uc ⟨fun z => by omega, fun z => by omega, fun z => by omega, fun z => by omega, fun z => by omega⟩ hnx) (fun z => (⟨hpa1, hpb1, ⟨hpr1, hpt1⟩, hpl1⟩ : PA1 M1)) (fun z => absurd z (by decide)) (fun z => absurd z (by decide)) (fun z => absurd z (by decide)) (fun z => absurd z (by decide)) (by decide)) (by omega) (by omega)
  exact h0 M 0 0 ⟨UB.rf, hw, hn, fun g hg => absurd hg (Nat.not_lt_zero _), fun z => absurd z (by decide), fun z => absurd z (by decide), fun z => absurd z (by decide), fun z => absurd z (by decide), fun z => absurd z (by decide), fun z => absurd z (by decide)⟩ rfl rfl
theorem M_X8_init {l : Launch} (hl : l.stackTraces = false) : zMet l yX8_init (Cond.code yX8_init cX8_init 2 (Option.none : Option Jvm.ClassFile.FieldType) :: zG) rm_X8_init 605 6861 T_X8_init := met_X8_init hl (M_X3_init hl) (M_X5_init hl) (M_X0_init hl) (M_X6_init hl) (M_J4_init_da8c8 hl) bd_X8_init
