/-! the law's own arrays, readings by name -/
def AR (M : ZM) (s n : Nat) (f : Int → Int) : Prop := (zW M s 20 ∧ zLn M s = n) ∧ 670 ≤ s ∧ ∀ i : Int, 0 ≤ i → i < (n : Int) → zI M s i.toNat = f i
theorem AR.fr {T : Nat → Prop} {M M' : ZM} {s n : Nat} {f : Int → Int} (h : AR M s n f) (g : Fr T M M') (hT : ¬ T s) : AR M' s n f :=
  ⟨⟨h.1.1.fr g, g.ln h.1.1 h.1.2⟩, h.2.1, fun i i0 i1 => (congrFun (g.i h.1.1 hT) _).trans (h.2.2 i i0 i1)⟩
theorem AR.cg {M : ZM} {s n : Nat} {f g : Int → Int} (h : AR M s n f) (e : ∀ i : Int, 0 ≤ i → i < (n : Int) → f i = g i) : AR M s n g := ⟨h.1, h.2.1, fun i i0 i1 => (h.2.2 i i0 i1).trans (e i i0 i1)⟩
theorem AR.nw {M : ZM} {n : Nat} (h : 670 ≤ zN M) : AR (zNw M 20 n) (zN M) n (fun _ => 0) :=
  ⟨⟨zW.nn (by unfold zCC; omega), up1_s _ _ _⟩, h, fun i _ _ => congrFun (up1_s _ _ _ : zI (zNw M 20 n) (zN M) = (fun _ => 0)) _⟩
def aSt (f : Int → Int) (i v : Int) : Int → Int := fun j => if j = i then v else f j
theorem aSt_s {f : Int → Int} {i v : Int} : aSt f i v i = v := if_pos rfl
theorem aSt_n {f : Int → Int} {i v j : Int} (h : j ≠ i) : aSt f i v j = f j := if_neg h
theorem AR.set {M : ZM} {s n : Nat} {f : Int → Int} {i v : Int} (h : AR M s n f) (i0 : 0 ≤ i) : AR (zsI M s i.toNat v) s n (aSt f i v) := by
  refine ⟨⟨⟨h.1.1.1, h.1.1.2⟩, h.1.2⟩, h.2.1, fun j j0 j1 => ?_⟩
  by_cases e : j = i
  · subst e
    rw [aSt_s]
    exact zI_Is _ _ _ _
  · rw [aSt_n e]
    exact (zIm M s v (by omega)).trans (h.2.2 j j0 j1)
theorem AR.so {M : ZM} {s s' n n' : Nat} {f f' : Int → Int} {k : Nat} {v : Int} (h : AR M s n f) (h' : AR M s' n' f') (e : s ≠ s') : AR (zsI M s' k v) s n f :=
  h.fr (Fr_I (S := fun j => j = s') h'.1.1 (by decide) (by decide) rfl) e
theorem LSt.nw {S : Nat × (Nat → Int)} {k : Int} {G : Gm} {M : ZM} {κ n : Nat} (h : LSt S k G M) : LSt S k G (zNw M κ n) := h.fr (Fr.nw0 (by have := h.2.2.2.2.2.2; omega)) (fun _ _ _ z => z)
theorem LSt.si {S : Nat × (Nat → Int)} {k : Int} {G : Gm} {M : ZM} {s n j : Nat} {f : Int → Int} {v : Int} (h : LSt S k G M) (a : AR M s n f) : LSt S k G (zsI M s j v) := h.fr (Fr_I (S := fun j => j = s) a.1.1 (by decide) (by decide) rfl) (fun x _ x1 e => by have := a.2.1; omega)
def trG (G : Gm) (w : Int) : Int := G (6 + 9 * w + 3).toNat
def quG (G : Gm) (w : Int) : Int := G (6 + 9 * w + 2).toNat
def gvG (G : Gm) (w : Int) : Int := G (6 + 9 * w + 5).toNat
def ptG (G : Gm) (w : Int) : Int := G (6 + 9 * w + 8).toNat
def szG (G : Gm) (r : Int) : Int := G (132 + 16 * r + 0).toNat
def stG (G : Gm) (r : Int) : Int := G (132 + 16 * r + 1).toNat
def vaG (G : Gm) (r : Int) : Int := G (132 + 16 * r + 2).toNat
def auG (G : Gm) (r : Int) : Int := G (132 + 16 * r + 3).toNat
def fiG (G : Gm) (r : Int) : Int := G (132 + 16 * r + 5).toNat
def rsG (G : Gm) (r k : Int) : Int := G (132 + 16 * r + (7 + 3 * k + 1)).toNat
def duG (G : Gm) (r k : Int) : Int := G (132 + 16 * r + (7 + 3 * k + 2)).toNat
def skG (G : Gm) (a b : Int) : Int := G (96 + 6 * a + b).toNat
def axG (G : Gm) (r : Int) : Int := if auG G r = -1 then 0 else 1
theorem ax_v (G : Gm) (r : Int) : (auG G r = -1 → axG G r = 0) ∧ (auG G r ≠ -1 → axG G r = 1) := ⟨fun h => if_pos h, fun h => if_neg h⟩
def dvG (G : Gm) (r k : Int) : Int := if rsG G r k = -1 then duG G r k else -1
theorem dv_v (G : Gm) (r k : Int) : (rsG G r k = -1 → dvG G r k = duG G r k) ∧ (rsG G r k ≠ -1 → dvG G r k = -1) := ⟨fun h => if_pos h, fun h => if_neg h⟩
theorem R_team {M : ZM} {G : Gm} {w : Int} {K : ZRet} {KX : ZEx} (hC : CG M G) (hw : 0 ≤ w ∧ w < G 4) (hK : K (some (zi (tmc G w))) M) : T_X8_worker [zo 64, zi w, zi 0] M K KX := R_wk hC hw (by decide) rfl hK
theorem R_qu {M : ZM} {G : Gm} {w : Int} {K : ZRet} {KX : ZEx} (hC : CG M G) (hw : 0 ≤ w ∧ w < G 4) (hK : K (some (zi (quG G w))) M) : T_X8_worker [zo 64, zi w, zi 1] M K KX := R_wk hC hw (by decide) rfl hK
theorem R_tr {M : ZM} {G : Gm} {w : Int} {K : ZRet} {KX : ZEx} (hC : CG M G) (hw : 0 ≤ w ∧ w < G 4) (hK : K (some (zi (trG G w))) M) : T_X8_worker [zo 64, zi w, zi 2] M K KX := R_wk hC hw (by decide) rfl hK
theorem R_gvn {M : ZM} {G : Gm} {w : Int} {K : ZRet} {KX : ZEx} (hC : CG M G) (hw : 0 ≤ w ∧ w < G 4) (hK : K (some (zi (gvG G w))) M) : T_X8_worker [zo 64, zi w, zi 5] M K KX := R_wk hC hw (by decide) rfl hK
theorem R_pts {M : ZM} {G : Gm} {w : Int} {K : ZRet} {KX : ZEx} (hC : CG M G) (hw : 0 ≤ w ∧ w < G 4) (hK : K (some (zi (ptG G w))) M) : T_X8_worker [zo 64, zi w, zi 8] M K KX := R_wk hC hw (by decide) rfl hK
theorem R_sz {M : ZM} {G : Gm} {r : Int} {K : ZRet} {KX : ZEx} (hC : CG M G) (hr : 0 ≤ r ∧ r < G 5) (hK : K (some (zi (szG G r))) M) : T_X8_row [zo 64, zi r, zi 0] M K KX := R_row hC hr (by decide) rfl hK
theorem R_st {M : ZM} {G : Gm} {r : Int} {K : ZRet} {KX : ZEx} (hC : CG M G) (hr : 0 ≤ r ∧ r < G 5) (hK : K (some (zi (stG G r))) M) : T_X8_row [zo 64, zi r, zi 1] M K KX := R_row hC hr (by decide) rfl hK
theorem R_va {M : ZM} {G : Gm} {r : Int} {K : ZRet} {KX : ZEx} (hC : CG M G) (hr : 0 ≤ r ∧ r < G 5) (hK : K (some (zi (vaG G r))) M) : T_X8_row [zo 64, zi r, zi 2] M K KX := R_row2 hC hr hK
theorem R_au {M : ZM} {G : Gm} {r : Int} {K : ZRet} {KX : ZEx} (hC : CG M G) (hr : 0 ≤ r ∧ r < G 5) (hK : K (some (zi (axG G r))) M) : T_X8_row [zo 64, zi r, zi 3] M K KX := R_row hC hr (by decide) rfl hK
theorem R_cnt {M : ZM} {G : Gm} {r : Int} {K : ZRet} {KX : ZEx} (hC : CG M G) (hr : 0 ≤ r ∧ r < G 5) (hK : K (some (zi (cnc G r))) M) : T_X8_row [zo 64, zi r, zi 4] M K KX := R_row hC hr (by decide) rfl hK
theorem R_tk0 {M : ZM} {G : Gm} {r k : Int} {K : ZRet} {KX : ZEx} (hC : CG M G) (hr : 0 ≤ r ∧ r < G 5) (hk : 0 ≤ k ∧ k < cnc G r) (hK : K (some (zi (wkc G r k))) M) : T_X8_taking [zo 64, zi r, zi k, zi 0] M K KX := R_tk hC hr hk (by decide) rfl hK
theorem R_tk1 {M : ZM} {G : Gm} {r k : Int} {K : ZRet} {KX : ZEx} (hC : CG M G) (hr : 0 ≤ r ∧ r < G 5) (hk : 0 ≤ k ∧ k < cnc G r) (hK : K (some (zi (rsG G r k))) M) : T_X8_taking [zo 64, zi r, zi k, zi 1] M K KX := R_tk hC hr hk (by decide) rfl hK
theorem R_tk2 {M : ZM} {G : Gm} {r k : Int} {K : ZRet} {KX : ZEx} (hC : CG M G) (hr : 0 ≤ r ∧ r < G 5) (hk : 0 ≤ k ∧ k < cnc G r) (hK : K (some (zi (dvG G r k))) M) : T_X8_taking [zo 64, zi r, zi k, zi 2] M K KX := R_tk hC hr hk (by decide) rfl hK
theorem CG.b {M : ZM} {G : Gm} (h : CG M G) {r : Int} (hr : 0 ≤ r ∧ r < G 5) : 0 ≤ cnc G r ∧ cnc G r ≤ 3 := (h.2.2.1.2.2 r hr.1 hr.2).2.1
theorem CG.wk {M : ZM} {G : Gm} (h : CG M G) {r k : Int} (hr : 0 ≤ r ∧ r < G 5) (hk : 0 ≤ k ∧ k < cnc G r) : 0 ≤ wkc G r k ∧ wkc G r k < G 4 := ⟨((h.2.2.1.2.2 r hr.1 hr.2).2.2 k hk.1 hk.2).1, ((h.2.2.2.2.1 r hr.1 hr.2).1 k hk.1 hk.2).1⟩
