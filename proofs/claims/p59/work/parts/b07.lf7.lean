/-! the law: passes -/
def tkP (G : Gm) (r k : Int) : List T3 := (List.range k.toNat).map (fun j : Nat => TKe G r (j : Int))
theorem tkP_0 {G : Gm} {r : Int} : tkP G r 0 = [] := rfl
theorem tkP_e {G : Gm} {r : Int} : tkP G r (cnc G r) = TK G r := rfl
theorem tkP_s {G : Gm} {r k : Int} (k0 : 0 ≤ k) : tkP G r (k + 1) = tkP G r k ++ [TKe G r k] := by
  unfold tkP
  rw [show (k + 1).toNat = k.toNat + 1 by omega, List.range_succ, List.map_append]
  show _ ++ [TKe G r ((k.toNat : Nat) : Int)] = _
  rw [show ((k.toNat : Nat) : Int) = k by omega]
theorem lateT_e {G : Gm} {T r k : Int} : lateT T (TKe G r k) = decide (rsG G r k = -1 ∧ duG G r k < T) := rfl
theorem late_e {G : Gm} {T r : Int} : ∀ k, 0 ≤ k → k ≤ 100 → cntI (fLateP G T r) k = LN T (tkP G r k) := by
  refine zup (n := 100) (fun k => cntI (fLateP G T r) k = LN T (tkP G r k)) rfl (fun k k0 k1 ih => ?_)
  have ih' : cntI (fLateP G T r) k = LN T (tkP G r k) := ih
  show cntI (fLateP G T r) (k + 1) = LN T (tkP G r (k + 1))
  rw [tkP_s k0, LN_s, cntI_s k0, ih']
  have e : fLateP G T r k = lateT T (TKe G r k) := rfl
  rw [e]
  split <;> omega
def lateS (G : Gm) (t : Int) : Int := sumI (fLateR G (G 3 + t)) (G 5)
def rowN (G : Gm) (T q : Int) : Int := LN T (TK G q)
def rowW (G : Gm) (T w q : Int) : Int := LW T w (TK G q)
theorem lateS_e {S : Nat × (Nat → Int)} {k : Int} {G : Gm} {M : ZM} (h : LSt S k G M) (t : Int) : lateS G t = sumI (rowN G (G 3 + t)) (G 5) := sumI_c (fun q q0 q1 => late_e (cnc G q) (h.g3 ⟨q0, q1⟩).1 (by have := (h.g3 ⟨q0, q1⟩).2; omega))
theorem R_lateS {M : ZM} {G : Gm} {t : Int} {K : ZRet} {KX : ZEx} (hC : CG M G) (ht : 0 ≤ t ∧ t ≤ 99) (hK : K (some (zi (lateS G t))) M) : T_X8_lateIn [zo 64, zi t] M K KX := R_late hC ht hK
theorem rowN_b {S : Nat × (Nat → Int)} {kk : Int} {G : Gm} {M : ZM} (h : LSt S kk G M) {T q : Int} (hq : 0 ≤ q ∧ q < G 5) : 0 ≤ rowN G T q ∧ rowN G T q ≤ 3 := by
  have h1 := LN_b T (TK G q)
  have h2 := TK_len (h.2.1.2.2.1.2.2 q hq.1 hq.2)
  unfold rowN
  omega
theorem tkP_b {G : Gm} {r k T : Int} (hk : 0 ≤ k ∧ k ≤ 3) : 0 ≤ LN T (tkP G r k) ∧ LN T (tkP G r k) ≤ 3 := by
  have h1 := LN_b T (tkP G r k)
  have h2 : (tkP G r k).length = k.toNat := by unfold tkP; rw [List.length_map, List.length_range]
  omega
theorem sumN_b {S : Nat × (Nat → Int)} {kk : Int} {G : Gm} {M : ZM} (h : LSt S kk G M) (T : Int) {i : Int} (i0 : 0 ≤ i) (i1 : i ≤ G 5) : 0 ≤ sumI (rowN G T) i ∧ sumI (rowN G T) i ≤ i * 3 := sumI_b 3 i0 (fun q q0 q1 => rowN_b h ⟨q0, by omega⟩)
theorem sumW_b {S : Nat × (Nat → Int)} {kk : Int} {G : Gm} {M : ZM} (h : LSt S kk G M) (T w : Int) {i : Int} (i0 : 0 ≤ i) (i1 : i ≤ G 5) : 0 ≤ sumI (rowW G T w) i := (sumI_b 3 i0 (fun q q0 q1 => by
  have h1 := LW_b T w (TK G q)
  have h2 := rowN_b h (T := T) (q := q) ⟨q0, by omega⟩
  unfold rowN at h2
  unfold rowW
  omega)).1
theorem cp1 {a c : Int} (ha : 0 ≤ a ∧ a ≤ 20) (hc : 0 ≤ c) : cpd (zmax 0 (a - c) - 1) = zmax 0 (a - (c + 1)) := by
  unfold cpd zmax zmin
  (repeat' split) <;> omega
theorem zmx_b {a c : Int} (ha : 0 ≤ a ∧ a ≤ 20) (hc : 0 ≤ c) : 0 ≤ zmax 0 (a - c) ∧ zmax 0 (a - c) ≤ 20 := by
  unfold zmax
  split <;> omega
/-- the trusts while the takings are read: rows below i, k takings of row i -/
def psF (G : Gm) (T i k w : Int) : Int := zmax 0 (trG G w - (sumI (rowW G T w) i + LW T w (tkP G i k)))
theorem psF_row {G : Gm} {T i w : Int} (i0 : 0 ≤ i) : psF G T i (cnc G i) w = psF G T (i + 1) 0 w := by
  unfold psF
  rw [sumI_s i0, tkP_0, tkP_e, LW_0, Int.add_zero]
  rfl
theorem psF_no {G : Gm} {T i k w : Int} (k0 : 0 ≤ k) (h : lateT T (TKe G i k) = false) : psF G T i (k + 1) w = psF G T i k w := by
  unfold psF
  rw [tkP_s k0, LW_s, h, if_neg (fun z => absurd z.1 (by decide)), Int.add_zero]
theorem psF_yes {S : Nat × (Nat → Int)} {kk : Int} {G : Gm} {M : ZM} (hS : LSt S kk G M) {T i k w : Int} (hi : 0 ≤ i ∧ i < G 5) (hw : 0 ≤ w ∧ w < G 4) (k0 : 0 ≤ k) (h : lateT T (TKe G i k) = true) : psF G T i (k + 1) w = aSt (psF G T i k) (wkc G i k) (cpd (psF G T i k (wkc G i k) - 1)) w := by
  have e1 : (TKe G i k).1 = wkc G i k := rfl
  by_cases z : w = wkc G i k
  · subst z
    rw [aSt_s]
    unfold psF
    have h1 := sumW_b hS T (wkc G i k) hi.1 (by omega)
    have h2 := LW_b T (wkc G i k) (tkP G i k)
    have h3 : 0 ≤ trG G (wkc G i k) ∧ trG G (wkc G i k) ≤ 20 := (hS.2.1.2.2.2.1.2.2.2.2.1 _ hw.1 hw.2).2.2.1
    rw [cp1 h3 (by omega), tkP_s k0, LW_s, if_pos ⟨h, e1⟩]
    congr 1
    omega
  · rw [aSt_n z]
    unfold psF
    rw [tkP_s k0, LW_s, if_neg (fun y => z (by rw [← e1]; exact y.2.symm)), Int.add_zero]
theorem psF_b {S : Nat × (Nat → Int)} {kk : Int} {G : Gm} {M : ZM} (hS : LSt S kk G M) {T i k w : Int} (hi : 0 ≤ i ∧ i ≤ G 5) (hw : 0 ≤ w ∧ w < G 4) : 0 ≤ psF G T i k w ∧ psF G T i k w ≤ 20 := by
  have h1 := sumW_b hS T w hi.1 hi.2
  have h2 := LW_b T w (tkP G i k)
  have h3 := (hS.2.1.2.2.2.1.2.2.2.2.1 _ hw.1 hw.2).2.2.1
  exact zmx_b h3 (by omega)
theorem LSt.du {S : Nat × (Nat → Int)} {kk : Int} {G : Gm} {M : ZM} (hS : LSt S kk G M) {r k : Int} (hr : 0 ≤ r ∧ r < G 5) (hk : 0 ≤ k ∧ k < cnc G r) : (-1 ≤ rsG G r k ∧ rsG G r k ≤ 99) ∧ 0 ≤ duG G r k ∧ duG G r k ≤ 100100 := by
  have h := (hS.2.1.2.2.2.1.2.2.2.2.2.1 r hr.1 hr.2).2.2.2.2.2 k hk.1 hk.2
  have h1 : (-1 ≤ rsG G r k ∧ rsG G r k ≤ 99) := h.1
  have h2 : 0 ≤ duG G r k ∧ duG G r k ≤ 100100 := h.2
  exact ⟨h1, h2⟩
/-- no late one is left -/
theorem onT_g {T n : Int} {G g : Gm} (hR : LvR T G g n) (hG : GI G) {r k : Int} (hr : 0 ≤ r ∧ r < G 5) (hk : 0 ≤ k ∧ k < cnc g r) : rsG g r k ≠ -1 ∨ T ≤ duG g r k := by
  obtain ⟨h1, h2⟩ := hR.1 r hr.1 hr.2
  have j2 : k.toNat < ((TK G r).filter (onT T)).length := by unfold cnc at hk; omega
  have e := h2 k.toNat _ (List.getElem?_eq_getElem j2)
  have hm := (List.mem_filter.mp (List.getElem_mem j2)).2
  rw [← e, show ((k.toNat : Nat) : Int) = k by omega] at hm
  unfold onT at hm
  rw [lateT_e] at hm
  simp only [Bool.not_eq_true', decide_eq_false_iff_not] at hm
  omega
theorem sumI_zz {n : Int} : ∀ k, 0 ≤ k → k ≤ n → sumI (fun _ => 0) k = 0 := by
  refine zup (n := n) (fun k => sumI (fun _ => 0) k = 0) rfl (fun k k0 k1 ih => ?_)
  rw [sumI_s k0, ih]
  rfl
theorem late0 {S : Nat × (Nat → Int)} {kk : Int} {G : Gm} {M : ZM} (hS : LSt S kk G M) (hno : ∀ r k, (0 ≤ r ∧ r < G 5) → (0 ≤ k ∧ k < cnc G r) → rsG G r k ≠ -1 ∨ G 3 ≤ duG G r k) : lateS G 0 = 0 := by
  have e : lateS G 0 = sumI (fun _ => 0) (G 5) := sumI_c (fun q q0 q1 => by
    have hb := hS.g3 (r := q) ⟨q0, q1⟩
    refine cntI_z hb.1 (show cnc G q ≤ 1000 by omega) (fun k k0 k1 => ?_)
    have h := hno q k ⟨q0, q1⟩ ⟨k0, k1⟩
    refine decide_eq_false (fun z => ?_)
    have z1 : rsG G q k = -1 := z.1
    have z2 : duG G q k < G 3 + 0 := z.2
    omega)
  rw [e]
  exact sumI_zz (n := G 5) _ hS.g5.1 (Int.le_refl _)

def T_L_passes : ZTf := fun av M K KX => ∃ (S : Nat × (Nat → Int)) (kk : Int) (G : Gm) (t : Int), av = [zo 64, zi t] ∧ LSt S kk G M ∧ (kk + 1 ≤ 1000) ∧ (1 ≤ t ∧ t ≤ 99) ∧ (∀ (G' : Gm) (M' : ZM), LSt S (kk + 1) G' M' → K (some (zi 1)) M')
set_option maxRecDepth 100000 in
set_option maxHeartbeats 1500000 in
theorem bd_L_passes : zBd (cd_L_passes T_L_trusts T_X8_property T_X8_row T_X8_taking T_L_capped T_X8_lateIn T_X8_pass T_L_are T_X8_nextDue) 9 1400 8600 T_L_passes := by
  rintro av M K KX hA0 hM ⟨S, kk, G, t, rfl, hS, hkk, ht, hK⟩
  have h4 := hS.g4
  have h5 := hS.g5
  have hG := hS.2.1.2.2.1
  have hg3 := hS.2.1.2.2.2.1.2.2.2.1
  refine ⟨rfl, fun Φ hΦ => ?_⟩
  have e156 : ∀ (G : Gm) (M1 : ZM) (s : Nat) (x T : Int), LSt S (kk + 1) G M1 → G 3 = T → (∀ r k, (0 ≤ r ∧ r < G 5) → (0 ≤ k ∧ k < cnc G r) → rsG G r k ≠ -1 ∨ T ≤ duG G r k) → ∀ i, 0 ≤ i → i ≤ G 5 → ∀ (l : Int) (k n : Nat), (-1 ≤ l ∧ l ≤ 100100) → l = foldI (fDueR G) (-1) i → (k : Int) ≤ 920 + 18 * i → (n : Int) ≤ 5700 + 108 * i → Φ 156 [some (zo 64), some (zi t), some (zo s), some (zi x), some (zi T), some (zi l), some (zi i), none, none] [] M1 k n := fun G M1 s x T hS1 hT hno => by
    have h5 := hS1.g5
    refine zdown (n := G 5) (fun i i0 i1 ih l k n hlb hl hk hn => ?_)
    have inner : i < G 5 → ∀ q, 0 ≤ q → q ≤ cnc G i → ∀ (l : Int) (k n : Nat), (-1 ≤ l ∧ l ≤ 100100) → l = foldI (fDueS G i) (foldI (fDueR G) (-1) i) q → (k : Int) ≤ 921 + 18 * i + 5 * q → (n : Int) ≤ 5706 + 108 * i + 30 * q → Φ 169 [some (zo 64), some (zi t), some (zo s), some (zi x), some (zi T), some (zi l), some (zi i), some (zi q), none] [] M1 k n := fun hi => by
      have hcb := hS1.g3 ⟨i0, hi⟩
      refine zdown (n := cnc G i) (fun q q0 q1 ih2 l k n hlb hl hk hn => ?_)
      have hdu := fun z : q < cnc G i => hS1.du ⟨i0, hi⟩ ⟨q0, z⟩
      have hdv := dv_v G i q
      have hnq := fun z : q < cnc G i => hno i q ⟨i0, hi⟩ ⟨q0, z⟩
      have go : q < cnc G i → ∀ (l2 : Int) (k n : Nat), (rsG G i q = -1 ∧ (l = -1 ∨ duG G i q < l) ∧ l2 = duG G i q ∨ ¬ (rsG G i q = -1 ∧ (l = -1 ∨ duG G i q < l)) ∧ l2 = l) → (k : Int) ≤ 921 + 18 * i + 5 * (q + 1) → (n : Int) ≤ 5706 + 108 * i + 30 * (q + 1) → Φ 169 [some (zo 64), some (zi t), some (zo s), some (zi x), some (zi T), some (zi l2), some (zi i), some (zi (q + 1)), none] [] M1 k n := fun z l2 k n h2 hk hn => by
        refine ih2 z l2 k n (by have := hdu z; omega) ?_ hk hn
        rw [foldI_s1 q0, ← hl]
        show l2 = if rsG G i q = -1 ∧ (l = -1 ∨ duG G i q < l) then duG G i q else l
        rcases h2 with y | y
        · rw [if_pos ⟨y.1, y.2.1⟩]; exact y.2.2
        · rw [if_neg y.1]; exact y.2
      refine zGoR hΦ [169, 156] 400 (fun hL9 _ hM _ _ => ?_)
      obtain ⟨qL1, qL2, qL3, qL4, qL5, qL6, _⟩ : zrg t ∧ zrg x ∧ zrg T ∧ zrg l ∧ zrg i ∧ zrg q ∧ True := hL9
      refine ⟨⟨(by omega), (by omega)⟩, ⟨⟨rfl, rfl⟩, hS1.2.1.1.w.rcv⟩, (R_cnt hS1.2.1 (by omega) (fun (qg1 : zrg (cnc G i)) qm2 => ⟨fun (qc3 : q ≥ cnc G i) => ⟨(zrgI (x := i + 1) (by omega)), (zFg hΦ 7 (show Φ 156 [some (zo 64), some (zi t), some (zo s), some (zi x), some (zi T), some (zi l), some (zi (i + 1)), none, none] [] M1 (k + 2) (n + 12) from ?g36l1))⟩, fun (qc4 : q < cnc G i) => ⟨⟨(by omega), (by omega)⟩, ⟨⟨rfl, rfl⟩, hS1.2.1.1.w.rcv⟩, (R_tk2 hS1.2.1 (by omega) (by omega) (fun (qg5 : zrg (dvG G i q)) qm6 => ⟨fun (qc7 : dvG G i q < 0) => ⟨fun (qc8 : dvG G i q < 0) => ⟨(zrgI (x := q + 1) (by omega)), (zFg hΦ 8 (show Φ 169 [some (zo 64), some (zi t), some (zo s), some (zi x), some (zi T), some (zi l), some (zi i), some (zi (q + 1)), none] [] M1 (k + 2 + 3) (n + 12 + 18) from ?g36l2))⟩, fun (qc9 : dvG G i q ≥ 0) => ⟨fun (qc10 : l < 0) => ⟨(zrgI (x := q + 1) (by omega)), (zFg hΦ 8 (show Φ 169 [some (zo 64), some (zi t), some (zo s), some (zi x), some (zi T), some (zi (dvG G i q)), some (zi i), some (zi (q + 1)), none] [] M1 (k + 2 + 3) (n + 12 + 18) from ?g36l3))⟩, fun (qc11 : l ≥ 0) => ⟨fun (qc12 : dvG G i q ≥ l) => ⟨(zrgI (x := q + 1) (by omega)), (zFg hΦ 8 (show Φ 169 [some (zo 64), some (zi t), some (zo s), some (zi x), some (zi T), some (zi l), some (zi i), some (zi (q + 1)), none] [] M1 (k + 2 + 3) (n + 12 + 18) from ?g36l4))⟩, fun (qc13 : dvG G i q < l) => ⟨(zrgI (x := q + 1) (by omega)), (zFg hΦ 8 (show Φ 169 [some (zo 64), some (zi t), some (zo s), some (zi x), some (zi T), some (zi (dvG G i q)), some (zi i), some (zi (q + 1)), none] [] M1 (k + 2 + 3) (n + 12 + 18) from ?g36l5))⟩⟩⟩⟩, fun (qc14 : dvG G i q ≥ 0) => ⟨fun (qc15 : dvG G i q ≥ T) => ⟨fun (qc16 : dvG G i q < 0) => ⟨(zrgI (x := q + 1) (by omega)), (zFg hΦ 8 (show Φ 169 [some (zo 64), some (zi t), some (zo s), some (zi x), some (zi T), some (zi l), some (zi i), some (zi (q + 1)), none] [] M1 (k + 2 + 3) (n + 12 + 18) from ?g36l6))⟩, fun (qc17 : dvG G i q ≥ 0) => ⟨fun (qc18 : l < 0) => ⟨(zrgI (x := q + 1) (by omega)), (zFg hΦ 8 (show Φ 169 [some (zo 64), some (zi t), some (zo s), some (zi x), some (zi T), some (zi (dvG G i q)), some (zi i), some (zi (q + 1)), none] [] M1 (k + 2 + 3) (n + 12 + 18) from ?g36l7))⟩, fun (qc19 : l ≥ 0) => ⟨fun (qc20 : dvG G i q ≥ l) => ⟨(zrgI (x := q + 1) (by omega)), (zFg hΦ 8 (show Φ 169 [some (zo 64), some (zi t), some (zo s), some (zi x), some (zi T), some (zi l), some (zi i), some (zi (q + 1)), none] [] M1 (k + 2 + 3) (n + 12 + 18) from ?g36l8))⟩, fun (qc21 : dvG G i q < l) => ⟨(zrgI (x := q + 1) (by omega)), (zFg hΦ 8 (show Φ 169 [some (zo 64), some (zi t), some (zo s), some (zi x), some (zi T), some (zi (dvG G i q)), some (zi i), some (zi (q + 1)), none] [] M1 (k + 2 + 3) (n + 12 + 18) from ?g36l9))⟩⟩⟩⟩, fun (qc22 : dvG G i q < T) => ⟨(Or.inl rfl), (show K (some (zi 0)) M1 from ?g36l10)⟩⟩⟩))⟩⟩))⟩
      case g36l1 => exact ih hi _ _ _ hlb (by rw [foldI_s1 i0, hl, show q = cnc G i by omega]; rfl) (by omega) (by omega)
      case g36l2 => exact go (by omega) _ _ _ (by omega) (by omega) (by omega)
      case g36l3 => exact go (by omega) _ _ _ (by omega) (by omega) (by omega)
      case g36l4 => exact go (by omega) _ _ _ (by omega) (by omega) (by omega)
      case g36l5 => exact go (by omega) _ _ _ (by omega) (by omega) (by omega)
      case g36l6 => exact go (by omega) _ _ _ (by omega) (by omega) (by omega)
      case g36l7 => exact go (by omega) _ _ _ (by omega) (by omega) (by omega)
      case g36l8 => exact go (by omega) _ _ _ (by omega) (by omega) (by omega)
      case g36l9 => exact go (by omega) _ _ _ (by omega) (by omega) (by omega)
      case g36l10 => exfalso; omega
    refine zGoR hΦ [169] 400 (fun hL9 _ hM _ _ => ?_)
    obtain ⟨qL1, qL2, qL3, qL4, qL5, _⟩ : zrg t ∧ zrg x ∧ zrg T ∧ zrg l ∧ zrg i ∧ True := hL9
    refine ⟨⟨(by omega), (by omega)⟩, ⟨⟨rfl, rfl⟩, hS1.2.1.1.w.rcv⟩, (R_prop1 hS1.2.1 (fun (qg1 : zrg (G 5)) qm2 => ⟨fun (qc3 : i ≥ G 5) => ⟨⟨⟨rfl, rfl⟩, hS1.2.1.1.w.rcv⟩, (R_next hS1.2.1 (fun (qg4 : zrg (v_nextDue G)) qm5 => ⟨fun (qc6 : v_nextDue G ≠ l) => ⟨(Or.inl rfl), (show K (some (zi 0)) M1 from ?g37l1)⟩, fun (qc7 : v_nextDue G = l) => ⟨⟨(by omega), (by omega)⟩, ⟨⟨rfl, rfl⟩, hS1.2.1.1.w.rcv⟩, (R_lateS hS1.2.1 (by omega) (fun (ql : zrg (lateS G 0)) _ => ⟨fun (qc8 : lateS G 0 ≠ 0) => ⟨(Or.inl rfl), (show K (some (zi 0)) M1 from ?g37l2)⟩, fun (qc9 : lateS G 0 = 0) => ⟨(Or.inr rfl), (show K (some (zi 1)) M1 from ?g37l3)⟩⟩))⟩⟩))⟩, fun (qc10 : i < G 5) => (show Φ 169 [some (zo 64), some (zi t), some (zo s), some (zi x), some (zi T), some (zi l), some (zi i), some (zi 0), none] [] M1 (k + 1) (n + 6) from ?g37l4)⟩))⟩
    case g37l1 => exact absurd (show v_nextDue G = l by rw [hl, show i = G 5 by omega]; rfl) qc6
    case g37l2 => exact absurd (late0 hS1 (fun r k a b => by have := hno r k a b; omega)) qc8
    case g37l3 => exact hK _ _ hS1
    case g37l4 => exact inner (by omega) 0 (by omega) (hS1.g3 ⟨i0, by omega⟩).1 l _ _ hlb hl (by omega) (by omega)
  have e126 : ∀ (G : Gm) (M1 : ZM) (s : Nat) (f : Int → Int) (x T i : Int) (k n : Nat), LSt S (kk + 1) G M1 → AR M1 s (G 4).toNat f → (∀ w, 0 ≤ w → w < G 4 → trG G w = f w) → G 3 = T → (∀ r k, (0 ≤ r ∧ r < G 5) → (0 ≤ k ∧ k < cnc G r) → rsG G r k ≠ -1 ∨ T ≤ duG G r k) → k ≤ 900 → n ≤ 5600 → Φ 126 [some (zo 64), some (zi t), some (zo s), some (zi x), some (zi T), some (zi i), none, none, none] [zi x] M1 k n := fun G M1 s f x T i k n hS1 hA1 hf hT hno hk hn => by
    have h5 := hS1.g5
    refine zGoR hΦ [156] 400 (fun hL9 _ hM _ _ => ?_)
    obtain ⟨qL1, qL2, qL3, qL4, _⟩ : zrg t ∧ zrg x ∧ zrg T ∧ zrg i ∧ True := hL9
    refine ⟨fun (qc1 : x ≠ x) => ⟨(Or.inl rfl), (show K (some (zi 0)) M1 from ?g38l1)⟩, fun (qc2 : x = x) => ⟨⟨(by omega), (by omega)⟩, ⟨⟨rfl, rfl⟩, hS1.2.1.1.w.rcv⟩, (R_prop2 hS1.2.1 (fun (qg3 : zrg (G 3)) qm4 => ⟨fun (qc5 : G 3 ≠ T) => ⟨(Or.inl rfl), (show K (some (zi 0)) M1 from ?g38l2)⟩, fun (qc6 : G 3 = T) => ⟨⟨(by omega), (by omega)⟩, ⟨⟨rfl, rfl⟩, trivial⟩, (R_are hS1 hA1 hf (fun _ _ => ⟨fun _ => (show Φ 156 [some (zo 64), some (zi t), some (zo s), some (zi x), some (zi T), some (zi (-1)), some (zi 0), none, none] [] M1 (k + 1 + 12) (n + 6 + 72) from ?g38l3), fun (h : (1 : Int) = 0) => absurd h (by decide)⟩))⟩⟩))⟩⟩
    case g38l1 => exfalso; omega
    case g38l2 => exfalso; omega
    case g38l3 => exact e156 G M1 s x T hS1 hT hno 0 (by omega) h5.1 _ _ _ (by omega) rfl (by omega) (by omega)
  have e112 : ∀ (M1 : ZM) (s : Nat) (f : Int → Int) (x T i : Int) (k n : Nat), LSt S kk G M1 → AR M1 s (G 4).toNat f → T = G 3 + t → x = sumI (rowN G T) (G 5) → (∀ w, 0 ≤ w → w < G 4 → f w = psF G T (G 5) 0 w) → k ≤ 890 → n ≤ 5550 → Φ 112 [some (zo 64), some (zi t), some (zo s), some (zi x), some (zi T), some (zi i), none, none, none] [] M1 k n := fun M1 s f x T i k n hS1 hA1 hT hx hf hk hn => by
    have hl := lateS_e hS1 t
    rw [← hT, ← hx] at hl
    refine zGoR hΦ [126] 400 (fun hL9 _ hM _ _ => ?_)
    obtain ⟨qL1, qL2, qL3, qL4, _⟩ : zrg t ∧ zrg x ∧ zrg T ∧ zrg i ∧ True := hL9
    refine ⟨⟨(by omega), (by omega)⟩, ⟨⟨rfl, rfl⟩, hS1.2.1.1.w.rcv⟩, (R_lateS hS1.2.1 (by omega) (fun (ql : zrg (lateS G t)) _ => ⟨fun (qc1 : lateS G t ≠ x) => ⟨(Or.inl rfl), (show K (some (zi 0)) M1 from ?g39l1)⟩, fun (qc2 : lateS G t = x) => ⟨⟨(by omega), (by omega)⟩, ⟨⟨rfl, rfl⟩, hS1.2.1.1.w.rcv⟩, (W_pass0 hS1 hkk (by omega) (fun g9 M2 hR9 hS2 hF2 => fun (qp : zrg (sumI (fun q => LN (G 3 + t) (TK G q)) (G 5))) _ => (show Φ 126 [some (zo 64), some (zi t), some (zo s), some (zi x), some (zi T), some (zi i), none, none, none] [zi (sumI (fun q => LN (G 3 + t) (TK G q)) (G 5))] M2 (k + 1 + 1) (n + 6 + 6) from ?g39l2)))⟩⟩))⟩
    case g39l1 => exfalso; omega
    case g39l2 =>
      have e1 : sumI (fun q => LN (G 3 + t) (TK G q)) (G 5) = x := by rw [hx, hT]; rfl
      rw [e1]
      have hS9 := hR9.2.2.2.2.1
      have e4 : g9 4 = G 4 := hS9 4 (by decide) (fun w w0 w1 => by omega) (fun r r0 r1 => by omega)
      have e5 : g9 5 = G 5 := hS9 5 (by decide) (fun w w0 w1 => by omega) (fun r r0 r1 => by omega)
      refine e126 g9 M2 s f x T i _ _ hS2 (by rw [e4]; exact hA1.fr hF2 (by have := hA1.2.1; unfold SCw; omega)) (fun w w0 w1 => ?_) (hR9.2.2.2.2.2.trans hT.symm) (fun r k a b => ?_) (by omega) (by omega)
      · rw [e4] at w1
        rw [hf w w0 w1, hT]
        have h9 := (hR9.2.2.1 w w0 w1).1
        have e6 : psF G (G 3 + t) (G 5) 0 w = zmax 0 (trG G w - sumI (fun r => LW (G 3 + t) w (TK G r)) (G 5)) := by
          unfold psF
          rw [tkP_0, LW_0, Int.add_zero]
          rfl
        rw [e6]
        exact h9
      · rw [e5] at a
        rw [hT]
        exact onT_g hR9 hG a b
  have e19 : ∀ (T : Int), T = G 3 + t → ∀ i, 0 ≤ i → i ≤ G 5 → ∀ (M1 : ZM) (s : Nat) (f : Int → Int) (x : Int) (k n : Nat), LSt S kk G M1 → AR M1 s (G 4).toNat f → x = sumI (rowN G T) i → (∀ w, 0 ≤ w → w < G 4 → f w = psF G T i 0 w) → (k : Int) ≤ 22 + 36 * i → (n : Int) ≤ 150 + 216 * i → Φ 19 [some (zo 64), some (zi t), some (zo s), some (zi x), some (zi T), some (zi i), none, none, none] [] M1 k n := fun T hT => by
    refine zdown (n := G 5) (fun i i0 i1 ih M1 s f x k n hS1 hA1 hx hf hk hn => ?_)
    have hxb := sumN_b hS T i0 i1
    have inner : i < G 5 → ∀ q, 0 ≤ q → q ≤ cnc G i → ∀ (M1 : ZM) (s : Nat) (f : Int → Int) (x : Int) (k n : Nat), LSt S kk G M1 → AR M1 s (G 4).toNat f → x = sumI (rowN G T) i + LN T (tkP G i q) → (∀ w, 0 ≤ w → w < G 4 → f w = psF G T i q w) → (k : Int) ≤ 23 + 36 * i + 11 * q → (n : Int) ≤ 156 + 216 * i + 66 * q → Φ 32 [some (zo 64), some (zi t), some (zo s), some (zi x), some (zi T), some (zi i), some (zi q), none, none] [] M1 k n := fun hi => by
      have hcb := hS.g3 ⟨i0, hi⟩
      refine zdown (n := cnc G i) (fun q q0 q1 ih2 M1 s f x k n hS1 hA1 hx hf hk hn => ?_)
      have hxb2 := tkP_b (G := G) (r := i) (T := T) (k := q) ⟨q0, by omega⟩
      have hwk := fun z : q < cnc G i => hS.2.1.wk ⟨i0, hi⟩ ⟨q0, z⟩
      have hdu := fun z : q < cnc G i => hS.du ⟨i0, hi⟩ ⟨q0, z⟩
      have hdv := dv_v G i q
      have hfb := fun z : q < cnc G i => psF_b hS (T := T) (i := i) (k := q) (w := wkc G i q) ⟨i0, i1⟩ (hwk z)
      have hfe := fun z : q < cnc G i => hf (wkc G i q) (hwk z).1 (hwk z).2
      have noL : q < cnc G i → ¬ (rsG G i q = -1 ∧ duG G i q < T) → ∀ (k n : Nat), (k : Int) ≤ 23 + 36 * i + 11 * (q + 1) → (n : Int) ≤ 156 + 216 * i + 66 * (q + 1) → Φ 32 [some (zo 64), some (zi t), some (zo s), some (zi x), some (zi T), some (zi i), some (zi (q + 1)), none, none] [] M1 k n := fun z h k n hk hn => by
        have hl : lateT T (TKe G i q) = false := decide_eq_false h
        exact ih2 z M1 s f x k n hS1 hA1 (by rw [hx, tkP_s q0, LN_s, hl, if_neg (by decide), Int.add_zero]) (fun w w0 w1 => by rw [psF_no q0 hl]; exact hf w w0 w1) hk hn
      refine zGoR hΦ [32, 19] 400 (fun hL9 _ hM _ _ => ?_)
      obtain ⟨qL1, qL2, qL3, qL4, qL5, _⟩ : zrg t ∧ zrg x ∧ zrg T ∧ zrg i ∧ zrg q ∧ True := hL9
      refine ⟨⟨(by omega), (by omega)⟩, ⟨⟨rfl, rfl⟩, hS1.2.1.1.w.rcv⟩, (R_cnt hS1.2.1 (by omega) (fun (qg1 : zrg (cnc G i)) qm2 => ⟨fun (qc3 : q ≥ cnc G i) => ⟨(zrgI (x := i + 1) (by omega)), (zFg hΦ 6 (show Φ 19 [some (zo 64), some (zi t), some (zo s), some (zi x), some (zi T), some (zi (i + 1)), none, none, none] [] M1 (k + 2) (n + 12) from ?g40l1))⟩, fun (qc4 : q < cnc G i) => ⟨⟨(by omega), (by omega)⟩, ⟨⟨rfl, rfl⟩, hS1.2.1.1.w.rcv⟩, (R_tk2 hS1.2.1 (by omega) (by omega) (fun (qg5 : zrg (dvG G i q)) qm6 => ⟨fun (qc7 : dvG G i q < 0) => ⟨(zrgI (x := q + 1) (by omega)), (zFg hΦ 7 (show Φ 32 [some (zo 64), some (zi t), some (zo s), some (zi x), some (zi T), some (zi i), some (zi (q + 1)), none, none] [] M1 (k + 2 + 3) (n + 12 + 18) from ?g40l2))⟩, fun (qc8 : dvG G i q ≥ 0) => ⟨fun (qc9 : dvG G i q < T) => ⟨(zrgI (x := x + 1) (by omega)), ⟨⟨(by omega), (by omega)⟩, ⟨⟨rfl, rfl⟩, hS1.2.1.1.w.rcv⟩, (R_tk0 hS1.2.1 (by omega) (by omega) (fun (qg10 : zrg (wkc G i q)) qm11 => ⟨⟨(by omega), (by omega)⟩, ⟨⟨rfl, rfl⟩, hS1.2.1.1.w.rcv⟩, (R_tk0 hS1.2.1 (by omega) (by omega) (fun (qg12 : zrg (wkc G i q)) qm13 => ⟨zixO hA1.1.1 hA1.1.2 (i := wkc G i q) (by omega) (by omega), zIr ((hA1.2.2 (wkc G i q) (by omega) (by omega))) (⟨(zrgI (x := (f (wkc G i q)) - 1) (by omega)), ⟨⟨⟨rfl, rfl⟩, trivial⟩, (D_capped (fun (qg14 : zrg (cpd ((f (wkc G i q)) - 1))) qm15 => ⟨⟨zixW hA1.1.1 hA1.1.2 (i := wkc G i q) (by omega) (by omega), trivial⟩, ⟨(zrgI (x := q + 1) (by omega)), (zFg hΦ 7 (show Φ 32 [some (zo 64), some (zi t), some (zo s), some (zi (x + 1)), some (zi T), some (zi i), some (zi (q + 1)), none, none] [] (zsI M1 s (wkc G i q).toNat (cpd ((f (wkc G i q)) - 1))) (k + 2 + 3 + 3 + 3) (n + 12 + 18 + 18 + 18) from ?g40l3))⟩⟩))⟩⟩)⟩))⟩))⟩⟩, fun (qc16 : dvG G i q ≥ T) => ⟨(zrgI (x := q + 1) (by omega)), (zFg hΦ 7 (show Φ 32 [some (zo 64), some (zi t), some (zo s), some (zi x), some (zi T), some (zi i), some (zi (q + 1)), none, none] [] M1 (k + 2 + 3) (n + 12 + 18) from ?g40l4))⟩⟩⟩))⟩⟩))⟩
      case g40l1 => exact ih hi M1 s f x _ _ hS1 hA1 (by rw [hx, show q = cnc G i by omega, sumI_s i0]; rfl) (fun w w0 w1 => by rw [← psF_row i0, show cnc G i = q by omega]; exact hf w w0 w1) (by omega) (by omega)
      case g40l2 => exact noL (by omega) (by omega) _ _ (by omega) (by omega)
      case g40l3 =>
        have z : q < cnc G i := by omega
        have hl : lateT T (TKe G i q) = true := decide_eq_true (show rsG G i q = -1 ∧ duG G i q < T by omega)
        refine ih2 z _ s _ _ _ _ (hS1.si hA1) (hA1.set (hwk z).1) (by rw [hx, tkP_s q0, LN_s, hl, if_pos rfl]; omega) (fun w w0 w1 => ?_) (by omega) (by omega)
        rw [psF_yes hS ⟨i0, hi⟩ ⟨w0, w1⟩ q0 hl, hfe z]
        unfold aSt
        split
        · rfl
        · exact hf w w0 w1
      case g40l4 => exact noL (by omega) (by omega) _ _ (by omega) (by omega)
    refine zGoR hΦ [32, 112] 400 (fun hL9 _ hM _ _ => ?_)
    obtain ⟨qL1, qL2, qL3, qL4, _⟩ : zrg t ∧ zrg x ∧ zrg T ∧ zrg i ∧ True := hL9
    refine ⟨⟨(by omega), (by omega)⟩, ⟨⟨rfl, rfl⟩, hS1.2.1.1.w.rcv⟩, (R_prop1 hS1.2.1 (fun (qg1 : zrg (G 5)) qm2 => ⟨fun (qc3 : i ≥ G 5) => (show Φ 112 [some (zo 64), some (zi t), some (zo s), some (zi x), some (zi T), some (zi i), none, none, none] [] M1 (k + 1) (n + 6) from ?g41l1), fun (qc4 : i < G 5) => (show Φ 32 [some (zo 64), some (zi t), some (zo s), some (zi x), some (zi T), some (zi i), some (zi 0), none, none] [] M1 (k + 1) (n + 6) from ?g41l2)⟩))⟩
    case g41l1 => exact e112 M1 s f x T i _ _ hS1 hA1 hT (by rw [hx, show i = G 5 by omega]) (by rw [show G 5 = i by omega]; exact hf) (by omega) (by omega)
    case g41l2 => exact inner (by omega) 0 (by omega) (hS.g3 ⟨i0, by omega⟩).1 M1 s f x _ _ hS1 hA1 (by rw [hx, tkP_0, LN_0, Int.add_zero]) hf (by omega) (by omega)
  refine zGoR hΦ [19] 400 (fun hL9 _ hM _ _ => ?_)
  obtain ⟨qL1, _⟩ : zrg t ∧ True := hL9
  refine ⟨⟨(by decide), (by decide)⟩, ⟨⟨rfl, rfl⟩, trivial⟩, (R_trusts hS (fun M1 hS1 hF1 hN1 hA1 => fun _ _ => ⟨⟨(by decide), (by decide)⟩, ⟨⟨rfl, rfl⟩, hS1.2.1.1.w.rcv⟩, (R_prop2 hS1.2.1 (fun (qg1 : zrg (G 3)) qm2 => ⟨(zrgI (x := G 3 + t) (by omega)), (show Φ 19 [some (zo 64), some (zi t), some (zo (zN M)), some (zi 0), some (zi (G 3 + t)), some (zi 0), none, none, none] [] M1 (0 + 20 + 1) (0 + 120 + 6) from ?g42l1)⟩))⟩))⟩
  case g42l1 =>
    exact e19 _ rfl 0 (by omega) h5.1 _ _ (trG G) _ _ _ hS1 hA1 rfl (fun w w0 w1 => by
      have h3 := (hS.2.1.2.2.2.1.2.2.2.2.1 w w0 w1).2.2.1
      unfold psF
      rw [tkP_0, LW_0, sumI_0]
      have h3' : 0 ≤ trG G w := h3.1
      unfold zmax
      split <;> omega) (by omega) (by omega)

theorem M_L_passes {l : Launch} (hl : l.stackTraces = false) : zMet l yL_passes (Cond.code yL_passes cL_passes 9 (Option.some Jvm.ClassFile.FieldType.boolean) :: zG) rm_L_passes 1400 8600 T_L_passes := met_L_passes hl (M_L_trusts hl) (M_X8_property hl) (M_X8_row hl) (M_X8_taking hl) (M_L_capped hl) (M_X8_lateIn hl) (M_X8_pass hl) (M_L_are hl) (M_X8_nextDue hl) bd_L_passes

