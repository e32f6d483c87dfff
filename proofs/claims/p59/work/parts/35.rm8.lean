def fRow1 (g : Gm) (size : Int) : Gm := gU (gU (gU (cpG (gU g 5 (g 5 + 1)) (132 + 16 * g 5) (fun _ => 0) 0 16) (132 + 16 * g 5 + 0) size) (132 + 16 * g 5 + 2) (-1)) (132 + 16 * g 5 + 3) (-1)
def fRows (g : Gm) (many size : Int) : Gm := foldI (fun _ g => fRow1 g size) g many
theorem fRow1_5 {g : Gm} {size : Int} (h : 0 ≤ g 5) : fRow1 g size 5 = g 5 + 1 := by
  unfold fRow1
  rw [gU_n _ (by omega), gU_n _ (by omega), gU_n _ (by omega), cp_out _ _ _ _ _ (by omega)]
  exact gU_s g 5 (g 5 + 1)
theorem fRows_5 {g : Gm} {size : Int} (h : 0 ≤ g 5) : ∀ i, 0 ≤ i → i ≤ 24 → fRows g i size 5 = g 5 + i := by
  refine zup (n := 24) (fun i => fRows g i size 5 = g 5 + i) (Int.add_zero _).symm (fun i h0 h1 ih => ?_)
  show (foldI (fun _ g => fRow1 g size) g (i + 1)) 5 = g 5 + (i + 1)
  rw [foldI_s h0]
  have ih' : foldI (fun _ g => fRow1 g size) g i 5 = g 5 + i := ih
  rw [fRow1_5 (by rw [ih']; omega), ih']
  omega
def c_addRows (G : Gm) (many size : Int) : Int := if (1 ≤ many ∧ many ≤ 24) ∧ (1 ≤ size ∧ size ≤ 9) then (if G 5 + many ≤ 24 then 0 else 2) else 1
def v_addRows (G : Gm) (many size : Int) : Int := G 5
def F_addRows (G : Gm) (many size : Int) : Gm := fRows G many size
theorem fDel_DB {G : Gm} {w r x : Int} (hG : GI G) (hV : GV G) (hX : GX G) (hw : 0 ≤ w ∧ w < G 4) (hr : 0 ≤ r ∧ r < G 5) (hx : 0 ≤ x ∧ x ≤ 99) (ht : fTakingOf G w r ≠ -1) {n : Int} (hn : n ≤ 3) (h : fHave (fDel1 G w r x) r n = true) : DB (fDel1 G w r x) r n := by
  have hRr := hG.2.2 r hr.1 hr.2
  have hw5 := hG.1
  have hr5 := hG.2.1
  have htk := fTakingOf_r G w r hRr.2.1.1
  have hm := hRr.2.1
  have e6 : fDel1 G w r x (132 + 16 * r + 6).toNat = (G (132 + 16 * r + 6).toNat) := (gU_n _ (by omega)).trans (gU_n _ (by omega))
  have hc := (fHave_c (by rw [e6]; exact hm.1) h).1
  rw [e6] at hc
  exact ((DB.of hG hV hX hr (by omega)).w1 hn (by omega) hx).w2 hn (by omega)
def c_stateIf (G : Gm) (w r x : Int) : Int := if (0 ≤ w ∧ w ≤ G 4 - 1) ∧ (0 ≤ r ∧ r ≤ G 5 - 1) then (if 0 ≤ x ∧ x ≤ 99 then (if fWorksAt G w r = true then 0 else 3) else 2) else 1
def v_stateIf (G : Gm) (w r x : Int) : Int := ((fDel G w r x) (132 + 16 * r + 1).toNat)
def c_trustIf (G : Gm) (w r x o : Int) : Int := if (0 ≤ w ∧ w ≤ G 4 - 1) ∧ (0 ≤ r ∧ r ≤ G 5 - 1) ∧ (0 ≤ o ∧ o ≤ G 4 - 1) then (if 0 ≤ x ∧ x ≤ 99 then (if fWorksAt G w r = true then 0 else 3) else 2) else 1
def v_trustIf (G : Gm) (w r x o : Int) : Int := ((fDel G w r x) (6 + 9 * o + 3).toNat)
