/-! pairs of calls: those that change nothing -/

theorem PR_property {S : Nat × (Nat → Int)} {kk : Int} {M : ZM} (hI : INV S kk M) (hk : kk + 1 ≤ 1000) (what : Int) : PAIR S kk M (fun M K => T_L_property [zo 64, zi what, zo 681] M K) (fun M K => T_X9_property [zo 670, zi what] M K (fun _ _ => False)) := by
  refine PAIR.rd (c := c_property (zI M 671) what) (v := (v_property (zI M 671) what)) hI hk (by unfold c_property; (repeat' split) <;> decide) (fun K h0 h1 => ?_) (fun M1 K i1 e1 hK => ?_)
  · obtain ⟨G, B, n, P, c, Q, bb, oo, e8, e9, hC, ⟨hL, ⟨hT, hG⟩, hI9, hR9, hQ9, hS9, hv9, h8, h9⟩, ⟨hY, hA, hg, hJ9, hH9, hZ9, hO9, h18, h19⟩, ⟨hV, hHI, hSI, hAS⟩⟩ := hI
    subst hg
    exact ⟨zI M 671, what, rfl, hC.2.2.2.1, hL, hT, hG, (hV.gv), (hV.gx), h0, (fun q => by have z := h1 (by rw [q]; decide); rw [q] at z; exact z)⟩
  · obtain ⟨G, B, n, P, c, Q, bb, oo, e8, e9, hC, ⟨hL, ⟨hT, hG⟩, hI9, hR9, hQ9, hS9, hv9, h8, h9⟩, ⟨hY, hA, hg, hJ9, hH9, hZ9, hO9, h18, h19⟩, ⟨hV, hHI, hSI, hAS⟩⟩ := i1
    subst hg
    rw [← e1] at hK
    exact ⟨what, rfl, hY, hA, hG, hK⟩

theorem PR_worker {S : Nat × (Nat → Int)} {kk : Int} {M : ZM} (hI : INV S kk M) (hk : kk + 1 ≤ 1000) (w what : Int) : PAIR S kk M (fun M K => T_L_worker [zo 64, zi w, zi what, zo 681] M K) (fun M K => T_X9_worker [zo 670, zi w, zi what] M K (fun _ _ => False)) := by
  refine PAIR.rd (c := c_worker (zI M 671) w what) (v := (v_worker (zI M 671) w what)) hI hk (by unfold c_worker; (repeat' split) <;> decide) (fun K h0 h1 => ?_) (fun M1 K i1 e1 hK => ?_)
  · obtain ⟨G, B, n, P, c, Q, bb, oo, e8, e9, hC, ⟨hL, ⟨hT, hG⟩, hI9, hR9, hQ9, hS9, hv9, h8, h9⟩, ⟨hY, hA, hg, hJ9, hH9, hZ9, hO9, h18, h19⟩, ⟨hV, hHI, hSI, hAS⟩⟩ := hI
    subst hg
    exact ⟨zI M 671, w, what, rfl, hC.2.2.2.1, hL, hT, hG, (hV.gv), (hV.gx), h0, (fun q => by have z := h1 (by rw [q]; decide); rw [q] at z; exact z), (fun q => by have z := h1 (by rw [q]; decide); rw [q] at z; exact z)⟩
  · obtain ⟨G, B, n, P, c, Q, bb, oo, e8, e9, hC, ⟨hL, ⟨hT, hG⟩, hI9, hR9, hQ9, hS9, hv9, h8, h9⟩, ⟨hY, hA, hg, hJ9, hH9, hZ9, hO9, h18, h19⟩, ⟨hV, hHI, hSI, hAS⟩⟩ := i1
    subst hg
    rw [← e1] at hK
    exact ⟨w, what, rfl, hY, hA, hG, hK⟩

theorem PR_row {S : Nat × (Nat → Int)} {kk : Int} {M : ZM} (hI : INV S kk M) (hk : kk + 1 ≤ 1000) (r what : Int) : PAIR S kk M (fun M K => T_L_row [zo 64, zi r, zi what, zo 681] M K) (fun M K => T_X9_row [zo 670, zi r, zi what] M K (fun _ _ => False)) := by
  refine PAIR.rd (c := c_row (zI M 671) r what) (v := (v_row (zI M 671) r what)) hI hk (by unfold c_row; (repeat' split) <;> decide) (fun K h0 h1 => ?_) (fun M1 K i1 e1 hK => ?_)
  · obtain ⟨G, B, n, P, c, Q, bb, oo, e8, e9, hC, ⟨hL, ⟨hT, hG⟩, hI9, hR9, hQ9, hS9, hv9, h8, h9⟩, ⟨hY, hA, hg, hJ9, hH9, hZ9, hO9, h18, h19⟩, ⟨hV, hHI, hSI, hAS⟩⟩ := hI
    subst hg
    exact ⟨zI M 671, r, what, rfl, hC.2.2.2.1, hL, hT, hG, (hV.gv), (hV.gx), h0, (fun q => by have z := h1 (by rw [q]; decide); rw [q] at z; exact z), (fun q => by have z := h1 (by rw [q]; decide); rw [q] at z; exact z)⟩
  · obtain ⟨G, B, n, P, c, Q, bb, oo, e8, e9, hC, ⟨hL, ⟨hT, hG⟩, hI9, hR9, hQ9, hS9, hv9, h8, h9⟩, ⟨hY, hA, hg, hJ9, hH9, hZ9, hO9, h18, h19⟩, ⟨hV, hHI, hSI, hAS⟩⟩ := i1
    subst hg
    rw [← e1] at hK
    exact ⟨r, what, rfl, hY, hA, hG, hK⟩

theorem PR_taking {S : Nat × (Nat → Int)} {kk : Int} {M : ZM} (hI : INV S kk M) (hk : kk + 1 ≤ 1000) (r k what : Int) : PAIR S kk M (fun M K => T_L_taking [zo 64, zi r, zi k, zi what, zo 681] M K) (fun M K => T_X9_taking [zo 670, zi r, zi k, zi what] M K (fun _ _ => False)) := by
  refine PAIR.rd (c := c_taking (zI M 671) r k what) (v := (v_taking (zI M 671) r k what)) hI hk (by unfold c_taking; (repeat' split) <;> decide) (fun K h0 h1 => ?_) (fun M1 K i1 e1 hK => ?_)
  · obtain ⟨G, B, n, P, c, Q, bb, oo, e8, e9, hC, ⟨hL, ⟨hT, hG⟩, hI9, hR9, hQ9, hS9, hv9, h8, h9⟩, ⟨hY, hA, hg, hJ9, hH9, hZ9, hO9, h18, h19⟩, ⟨hV, hHI, hSI, hAS⟩⟩ := hI
    subst hg
    exact ⟨zI M 671, r, k, what, rfl, hC.2.2.2.1, hL, hT, hG, (hV.gv), (hV.gx), h0, (fun q => by have z := h1 (by rw [q]; decide); rw [q] at z; exact z), (fun q => by have z := h1 (by rw [q]; decide); rw [q] at z; exact z)⟩
  · obtain ⟨G, B, n, P, c, Q, bb, oo, e8, e9, hC, ⟨hL, ⟨hT, hG⟩, hI9, hR9, hQ9, hS9, hv9, h8, h9⟩, ⟨hY, hA, hg, hJ9, hH9, hZ9, hO9, h18, h19⟩, ⟨hV, hHI, hSI, hAS⟩⟩ := i1
    subst hg
    rw [← e1] at hK
    exact ⟨r, k, what, rfl, hY, hA, hG, hK⟩

theorem PR_finishers {S : Nat × (Nat → Int)} {kk : Int} {M : ZM} (hI : INV S kk M) (hk : kk + 1 ≤ 1000) (r : Int) : PAIR S kk M (fun M K => T_L_finishers [zo 64, zi r, zo 681] M K) (fun M K => T_X9_finishers [zo 670, zi r] M K (fun _ _ => False)) := by
  refine PAIR.rd (c := c_finishers (zI M 671) r) (v := (v_finishers (zI M 671) r)) hI hk (by unfold c_finishers; (repeat' split) <;> decide) (fun K h0 h1 => ?_) (fun M1 K i1 e1 hK => ?_)
  · obtain ⟨G, B, n, P, c, Q, bb, oo, e8, e9, hC, ⟨hL, ⟨hT, hG⟩, hI9, hR9, hQ9, hS9, hv9, h8, h9⟩, ⟨hY, hA, hg, hJ9, hH9, hZ9, hO9, h18, h19⟩, ⟨hV, hHI, hSI, hAS⟩⟩ := hI
    subst hg
    exact ⟨zI M 671, r, rfl, hC.2.2.2.1, hL, hT, hG, (hV.gv), (hV.gx), (fun r0 r1 q => ((hV.2.2.2.1 r r0 r1).2.2.2.1 q).2.2), h0, (fun q => by have z := h1 (by rw [q]; decide); rw [q] at z; exact z)⟩
  · obtain ⟨G, B, n, P, c, Q, bb, oo, e8, e9, hC, ⟨hL, ⟨hT, hG⟩, hI9, hR9, hQ9, hS9, hv9, h8, h9⟩, ⟨hY, hA, hg, hJ9, hH9, hZ9, hO9, h18, h19⟩, ⟨hV, hHI, hSI, hAS⟩⟩ := i1
    subst hg
    rw [← e1] at hK
    exact ⟨r, rfl, hY, hA, hG, hK⟩

theorem PR_refusal {S : Nat × (Nat → Int)} {kk : Int} {M : ZM} (hI : INV S kk M) (hk : kk + 1 ≤ 1000) (w r : Int) : PAIR S kk M (fun M K => T_L_refusal [zo 64, zi w, zi r, zo 681] M K) (fun M K => T_X9_refusal [zo 670, zi w, zi r] M K (fun _ _ => False)) := by
  refine PAIR.rd (c := c_refusal (zI M 671) w r) (v := (v_refusal (zI M 671) w r)) hI hk (by unfold c_refusal; (repeat' split) <;> decide) (fun K h0 h1 => ?_) (fun M1 K i1 e1 hK => ?_)
  · obtain ⟨G, B, n, P, c, Q, bb, oo, e8, e9, hC, ⟨hL, ⟨hT, hG⟩, hI9, hR9, hQ9, hS9, hv9, h8, h9⟩, ⟨hY, hA, hg, hJ9, hH9, hZ9, hO9, h18, h19⟩, ⟨hV, hHI, hSI, hAS⟩⟩ := hI
    subst hg
    exact ⟨zI M 671, w, r, rfl, hC.2.2.2.1, hL, hT, hG, (hV.gv), (hV.gx), h0, (fun q => by have z := h1 (by rw [q]; decide); rw [q] at z; exact z)⟩
  · obtain ⟨G, B, n, P, c, Q, bb, oo, e8, e9, hC, ⟨hL, ⟨hT, hG⟩, hI9, hR9, hQ9, hS9, hv9, h8, h9⟩, ⟨hY, hA, hg, hJ9, hH9, hZ9, hO9, h18, h19⟩, ⟨hV, hHI, hSI, hAS⟩⟩ := i1
    subst hg
    rw [← e1] at hK
    exact ⟨w, r, rfl, hY, hA, hG, hK⟩

theorem PR_offers {S : Nat × (Nat → Int)} {kk : Int} {M : ZM} (hI : INV S kk M) (hk : kk + 1 ≤ 1000) (w : Int) : PAIR S kk M (fun M K => T_L_offers [zo 64, zi w, zo 681] M K) (fun M K => T_X9_offers [zo 670, zi w] M K (fun _ _ => False)) := by
  refine PAIR.rd (c := c_offers (zI M 671) w) (v := (v_offers (zI M 671) w)) hI hk (by unfold c_offers; (repeat' split) <;> decide) (fun K h0 h1 => ?_) (fun M1 K i1 e1 hK => ?_)
  · obtain ⟨G, B, n, P, c, Q, bb, oo, e8, e9, hC, ⟨hL, ⟨hT, hG⟩, hI9, hR9, hQ9, hS9, hv9, h8, h9⟩, ⟨hY, hA, hg, hJ9, hH9, hZ9, hO9, h18, h19⟩, ⟨hV, hHI, hSI, hAS⟩⟩ := hI
    subst hg
    exact ⟨zI M 671, w, rfl, hC.2.2.2.1, hL, hT, hG, (hV.gv), (hV.gx), h0, (fun q => by have z := h1 (by rw [q]; decide); rw [q] at z; exact z)⟩
  · obtain ⟨G, B, n, P, c, Q, bb, oo, e8, e9, hC, ⟨hL, ⟨hT, hG⟩, hI9, hR9, hQ9, hS9, hv9, h8, h9⟩, ⟨hY, hA, hg, hJ9, hH9, hZ9, hO9, h18, h19⟩, ⟨hV, hHI, hSI, hAS⟩⟩ := i1
    subst hg
    rw [← e1] at hK
    exact ⟨w, rfl, hY, hA, hG, hK⟩

theorem PR_nextFor {S : Nat × (Nat → Int)} {kk : Int} {M : ZM} (hI : INV S kk M) (hk : kk + 1 ≤ 1000) (w : Int) : PAIR S kk M (fun M K => T_L_nextFor [zo 64, zi w, zo 681] M K) (fun M K => T_X9_nextFor [zo 670, zi w] M K (fun _ _ => False)) := by
  refine PAIR.rd (c := c_nextFor (zI M 671) w) (v := (v_nextFor (zI M 671) w)) hI hk (by unfold c_nextFor; (repeat' split) <;> decide) (fun K h0 h1 => ?_) (fun M1 K i1 e1 hK => ?_)
  · obtain ⟨G, B, n, P, c, Q, bb, oo, e8, e9, hC, ⟨hL, ⟨hT, hG⟩, hI9, hR9, hQ9, hS9, hv9, h8, h9⟩, ⟨hY, hA, hg, hJ9, hH9, hZ9, hO9, h18, h19⟩, ⟨hV, hHI, hSI, hAS⟩⟩ := hI
    subst hg
    exact ⟨zI M 671, w, rfl, hC.2.2.2.1, hL, hT, hG, (hV.gv), (hV.gx), h0, (fun q => by have z := h1 (by rw [q]; decide); rw [q] at z; exact z)⟩
  · obtain ⟨G, B, n, P, c, Q, bb, oo, e8, e9, hC, ⟨hL, ⟨hT, hG⟩, hI9, hR9, hQ9, hS9, hv9, h8, h9⟩, ⟨hY, hA, hg, hJ9, hH9, hZ9, hO9, h18, h19⟩, ⟨hV, hHI, hSI, hAS⟩⟩ := i1
    subst hg
    rw [← e1] at hK
    exact ⟨w, rfl, hY, hA, hG, hK⟩

theorem PR_takers {S : Nat × (Nat → Int)} {kk : Int} {M : ZM} (hI : INV S kk M) (hk : kk + 1 ≤ 1000) (r : Int) : PAIR S kk M (fun M K => T_L_takers [zo 64, zi r, zo 681] M K) (fun M K => T_X9_takers [zo 670, zi r] M K (fun _ _ => False)) := by
  refine PAIR.rd (c := c_takers (zI M 671) r) (v := (v_takers (zI M 671) r)) hI hk (by unfold c_takers; (repeat' split) <;> decide) (fun K h0 h1 => ?_) (fun M1 K i1 e1 hK => ?_)
  · obtain ⟨G, B, n, P, c, Q, bb, oo, e8, e9, hC, ⟨hL, ⟨hT, hG⟩, hI9, hR9, hQ9, hS9, hv9, h8, h9⟩, ⟨hY, hA, hg, hJ9, hH9, hZ9, hO9, h18, h19⟩, ⟨hV, hHI, hSI, hAS⟩⟩ := hI
    subst hg
    exact ⟨zI M 671, r, rfl, hC.2.2.2.1, hL, hT, hG, (hV.gv), (hV.gx), h0, (fun q => by have z := h1 (by rw [q]; decide); rw [q] at z; exact z)⟩
  · obtain ⟨G, B, n, P, c, Q, bb, oo, e8, e9, hC, ⟨hL, ⟨hT, hG⟩, hI9, hR9, hQ9, hS9, hv9, h8, h9⟩, ⟨hY, hA, hg, hJ9, hH9, hZ9, hO9, h18, h19⟩, ⟨hV, hHI, hSI, hAS⟩⟩ := i1
    subst hg
    rw [← e1] at hK
    exact ⟨r, rfl, hY, hA, hG, hK⟩

theorem PR_isStuck {S : Nat × (Nat → Int)} {kk : Int} {M : ZM} (hI : INV S kk M) (hk : kk + 1 ≤ 1000) (r : Int) : PAIR S kk M (fun M K => T_L_isStuck [zo 64, zi r, zo 681] M K) (fun M K => T_X9_isStuck [zo 670, zi r] M K (fun _ _ => False)) := by
  refine PAIR.rd (c := c_isStuck (zI M 671) r) (v := (b2i (v_isStuck (zI M 671) r))) hI hk (by unfold c_isStuck; (repeat' split) <;> decide) (fun K h0 h1 => ?_) (fun M1 K i1 e1 hK => ?_)
  · obtain ⟨G, B, n, P, c, Q, bb, oo, e8, e9, hC, ⟨hL, ⟨hT, hG⟩, hI9, hR9, hQ9, hS9, hv9, h8, h9⟩, ⟨hY, hA, hg, hJ9, hH9, hZ9, hO9, h18, h19⟩, ⟨hV, hHI, hSI, hAS⟩⟩ := hI
    subst hg
    exact ⟨zI M 671, r, rfl, hC.2.2.2.1, hL, hT, hG, (hV.gv), (hV.gx), h0, (fun q => by have z := h1 (by rw [q]; decide); rw [q] at z; exact z)⟩
  · obtain ⟨G, B, n, P, c, Q, bb, oo, e8, e9, hC, ⟨hL, ⟨hT, hG⟩, hI9, hR9, hQ9, hS9, hv9, h8, h9⟩, ⟨hY, hA, hg, hJ9, hH9, hZ9, hO9, h18, h19⟩, ⟨hV, hHI, hSI, hAS⟩⟩ := i1
    subst hg
    rw [← e1] at hK
    exact ⟨r, rfl, hY, hA, hG, hK⟩

theorem PR_bestPair {S : Nat × (Nat → Int)} {kk : Int} {M : ZM} (hI : INV S kk M) (hk : kk + 1 ≤ 1000) (r : Int) : PAIR S kk M (fun M K => T_L_bestPair [zo 64, zi r, zo 681] M K) (fun M K => T_X9_bestPair [zo 670, zi r] M K (fun _ _ => False)) := by
  refine PAIR.rd (c := c_bestPair (zI M 671) r) (v := (v_bestPair (zI M 671) r)) hI hk (by unfold c_bestPair; (repeat' split) <;> decide) (fun K h0 h1 => ?_) (fun M1 K i1 e1 hK => ?_)
  · obtain ⟨G, B, n, P, c, Q, bb, oo, e8, e9, hC, ⟨hL, ⟨hT, hG⟩, hI9, hR9, hQ9, hS9, hv9, h8, h9⟩, ⟨hY, hA, hg, hJ9, hH9, hZ9, hO9, h18, h19⟩, ⟨hV, hHI, hSI, hAS⟩⟩ := hI
    subst hg
    exact ⟨zI M 671, r, rfl, hC.2.2.2.1, hL, hT, hG, (hV.gv), (hV.gx), h0, (fun q => by have z := h1 (by rw [q]; decide); rw [q] at z; exact z)⟩
  · obtain ⟨G, B, n, P, c, Q, bb, oo, e8, e9, hC, ⟨hL, ⟨hT, hG⟩, hI9, hR9, hQ9, hS9, hv9, h8, h9⟩, ⟨hY, hA, hg, hJ9, hH9, hZ9, hO9, h18, h19⟩, ⟨hV, hHI, hSI, hAS⟩⟩ := i1
    subst hg
    rw [← e1] at hK
    exact ⟨r, rfl, hY, hA, hG, (hV.gv), hK⟩

theorem PR_strikes {S : Nat × (Nat → Int)} {kk : Int} {M : ZM} (hI : INV S kk M) (hk : kk + 1 ≤ 1000) (a b : Int) : PAIR S kk M (fun M K => T_L_strikes [zo 64, zi a, zi b, zo 681] M K) (fun M K => T_X9_strikes [zo 670, zi a, zi b] M K (fun _ _ => False)) := by
  refine PAIR.rd (c := c_strikes (zI M 671) a b) (v := (v_strikes (zI M 671) a b)) hI hk (by unfold c_strikes; (repeat' split) <;> decide) (fun K h0 h1 => ?_) (fun M1 K i1 e1 hK => ?_)
  · obtain ⟨G, B, n, P, c, Q, bb, oo, e8, e9, hC, ⟨hL, ⟨hT, hG⟩, hI9, hR9, hQ9, hS9, hv9, h8, h9⟩, ⟨hY, hA, hg, hJ9, hH9, hZ9, hO9, h18, h19⟩, ⟨hV, hHI, hSI, hAS⟩⟩ := hI
    subst hg
    exact ⟨zI M 671, a, b, rfl, hC.2.2.2.1, hL, hT, hG, (hV.gv), (hV.gx), h0, (fun q => by have z := h1 (by rw [q]; decide); rw [q] at z; exact z)⟩
  · obtain ⟨G, B, n, P, c, Q, bb, oo, e8, e9, hC, ⟨hL, ⟨hT, hG⟩, hI9, hR9, hQ9, hS9, hv9, h8, h9⟩, ⟨hY, hA, hg, hJ9, hH9, hZ9, hO9, h18, h19⟩, ⟨hV, hHI, hSI, hAS⟩⟩ := i1
    subst hg
    rw [← e1] at hK
    exact ⟨a, b, rfl, hY, hA, hG, hK⟩

theorem PR_isBarred {S : Nat × (Nat → Int)} {kk : Int} {M : ZM} (hI : INV S kk M) (hk : kk + 1 ≤ 1000) (a b : Int) : PAIR S kk M (fun M K => T_L_isBarred [zo 64, zi a, zi b, zo 681] M K) (fun M K => T_X9_isBarred [zo 670, zi a, zi b] M K (fun _ _ => False)) := by
  refine PAIR.rd (c := c_isBarred (zI M 671) a b) (v := (b2i (v_isBarred (zI M 671) a b))) hI hk (by unfold c_isBarred; (repeat' split) <;> decide) (fun K h0 h1 => ?_) (fun M1 K i1 e1 hK => ?_)
  · obtain ⟨G, B, n, P, c, Q, bb, oo, e8, e9, hC, ⟨hL, ⟨hT, hG⟩, hI9, hR9, hQ9, hS9, hv9, h8, h9⟩, ⟨hY, hA, hg, hJ9, hH9, hZ9, hO9, h18, h19⟩, ⟨hV, hHI, hSI, hAS⟩⟩ := hI
    subst hg
    exact ⟨zI M 671, a, b, rfl, hC.2.2.2.1, hL, hT, hG, (hV.gv), (hV.gx), h0, (fun q => by have z := h1 (by rw [q]; decide); rw [q] at z; exact z)⟩
  · obtain ⟨G, B, n, P, c, Q, bb, oo, e8, e9, hC, ⟨hL, ⟨hT, hG⟩, hI9, hR9, hQ9, hS9, hv9, h8, h9⟩, ⟨hY, hA, hg, hJ9, hH9, hZ9, hO9, h18, h19⟩, ⟨hV, hHI, hSI, hAS⟩⟩ := i1
    subst hg
    rw [← e1] at hK
    exact ⟨a, b, rfl, hY, hA, hG, hK⟩

theorem PR_agreeing {S : Nat × (Nat → Int)} {kk : Int} {M : ZM} (hI : INV S kk M) (hk : kk + 1 ≤ 1000) (a b : Int) : PAIR S kk M (fun M K => T_L_agreeing [zo 64, zi a, zi b, zo 681] M K) (fun M K => T_X9_agreeing [zo 670, zi a, zi b] M K (fun _ _ => False)) := by
  refine PAIR.rd (c := c_agreeing (zI M 671) a b) (v := (v_agreeing (zI M 671) a b)) hI hk (by unfold c_agreeing; (repeat' split) <;> decide) (fun K h0 h1 => ?_) (fun M1 K i1 e1 hK => ?_)
  · obtain ⟨G, B, n, P, c, Q, bb, oo, e8, e9, hC, ⟨hL, ⟨hT, hG⟩, hI9, hR9, hQ9, hS9, hv9, h8, h9⟩, ⟨hY, hA, hg, hJ9, hH9, hZ9, hO9, h18, h19⟩, ⟨hV, hHI, hSI, hAS⟩⟩ := hI
    subst hg
    exact ⟨zI M 671, a, b, rfl, hC.2.2.2.1, hL, hT, hG, (hV.gv), (hV.gx), h0, (fun q => by have z := h1 (by rw [q]; decide); rw [q] at z; exact z)⟩
  · obtain ⟨G, B, n, P, c, Q, bb, oo, e8, e9, hC, ⟨hL, ⟨hT, hG⟩, hI9, hR9, hQ9, hS9, hv9, h8, h9⟩, ⟨hY, hA, hg, hJ9, hH9, hZ9, hO9, h18, h19⟩, ⟨hV, hHI, hSI, hAS⟩⟩ := i1
    subst hg
    rw [← e1] at hK
    exact ⟨a, b, rfl, hY, hA, hG, (hV.gv), hK⟩

theorem PR_differing {S : Nat × (Nat → Int)} {kk : Int} {M : ZM} (hI : INV S kk M) (hk : kk + 1 ≤ 1000) (a b : Int) : PAIR S kk M (fun M K => T_L_differing [zo 64, zi a, zi b, zo 681] M K) (fun M K => T_X9_differing [zo 670, zi a, zi b] M K (fun _ _ => False)) := by
  refine PAIR.rd (c := c_differing (zI M 671) a b) (v := (v_differing (zI M 671) a b)) hI hk (by unfold c_differing; (repeat' split) <;> decide) (fun K h0 h1 => ?_) (fun M1 K i1 e1 hK => ?_)
  · obtain ⟨G, B, n, P, c, Q, bb, oo, e8, e9, hC, ⟨hL, ⟨hT, hG⟩, hI9, hR9, hQ9, hS9, hv9, h8, h9⟩, ⟨hY, hA, hg, hJ9, hH9, hZ9, hO9, h18, h19⟩, ⟨hV, hHI, hSI, hAS⟩⟩ := hI
    subst hg
    exact ⟨zI M 671, a, b, rfl, hC.2.2.2.1, hL, hT, hG, (hV.gv), (hV.gx), h0, (fun q => by have z := h1 (by rw [q]; decide); rw [q] at z; exact z)⟩
  · obtain ⟨G, B, n, P, c, Q, bb, oo, e8, e9, hC, ⟨hL, ⟨hT, hG⟩, hI9, hR9, hQ9, hS9, hv9, h8, h9⟩, ⟨hY, hA, hg, hJ9, hH9, hZ9, hO9, h18, h19⟩, ⟨hV, hHI, hSI, hAS⟩⟩ := i1
    subst hg
    rw [← e1] at hK
    exact ⟨a, b, rfl, hY, hA, hG, (hV.gv), hK⟩

theorem PR_risk {S : Nat × (Nat → Int)} {kk : Int} {M : ZM} (hI : INV S kk M) (hk : kk + 1 ≤ 1000) (r : Int) : PAIR S kk M (fun M K => T_L_risk [zo 64, zi r, zo 681] M K) (fun M K => T_X9_risk [zo 670, zi r] M K (fun _ _ => False)) := by
  refine PAIR.rd (c := c_risk (zI M 671) r) (v := (v_risk (zI M 671) r)) hI hk (by unfold c_risk; (repeat' split) <;> decide) (fun K h0 h1 => ?_) (fun M1 K i1 e1 hK => ?_)
  · obtain ⟨G, B, n, P, c, Q, bb, oo, e8, e9, hC, ⟨hL, ⟨hT, hG⟩, hI9, hR9, hQ9, hS9, hv9, h8, h9⟩, ⟨hY, hA, hg, hJ9, hH9, hZ9, hO9, h18, h19⟩, ⟨hV, hHI, hSI, hAS⟩⟩ := hI
    subst hg
    exact ⟨zI M 671, r, rfl, hC.2.2.2.1, hL, hT, hG, (hV.gv), (hV.gx), h0, (fun q => by have z := h1 (by rw [q]; decide); rw [q] at z; exact z)⟩
  · obtain ⟨G, B, n, P, c, Q, bb, oo, e8, e9, hC, ⟨hL, ⟨hT, hG⟩, hI9, hR9, hQ9, hS9, hv9, h8, h9⟩, ⟨hY, hA, hg, hJ9, hH9, hZ9, hO9, h18, h19⟩, ⟨hV, hHI, hSI, hAS⟩⟩ := i1
    subst hg
    rw [← e1] at hK
    exact ⟨r, rfl, hY, hA, hG, hK⟩

theorem PR_lateIn {S : Nat × (Nat → Int)} {kk : Int} {M : ZM} (hI : INV S kk M) (hk : kk + 1 ≤ 1000) (ticks : Int) : PAIR S kk M (fun M K => T_L_lateIn [zo 64, zi ticks, zo 681] M K) (fun M K => T_X9_lateIn [zo 670, zi ticks] M K (fun _ _ => False)) := by
  refine PAIR.rd (c := c_lateIn (zI M 671) ticks) (v := (v_lateIn (zI M 671) ticks)) hI hk (by unfold c_lateIn; (repeat' split) <;> decide) (fun K h0 h1 => ?_) (fun M1 K i1 e1 hK => ?_)
  · obtain ⟨G, B, n, P, c, Q, bb, oo, e8, e9, hC, ⟨hL, ⟨hT, hG⟩, hI9, hR9, hQ9, hS9, hv9, h8, h9⟩, ⟨hY, hA, hg, hJ9, hH9, hZ9, hO9, h18, h19⟩, ⟨hV, hHI, hSI, hAS⟩⟩ := hI
    subst hg
    exact ⟨zI M 671, ticks, rfl, hC.2.2.2.1, hL, hT, hG, (hV.gv), (hV.gx), h0, (fun q => by have z := h1 (by rw [q]; decide); rw [q] at z; exact z)⟩
  · obtain ⟨G, B, n, P, c, Q, bb, oo, e8, e9, hC, ⟨hL, ⟨hT, hG⟩, hI9, hR9, hQ9, hS9, hv9, h8, h9⟩, ⟨hY, hA, hg, hJ9, hH9, hZ9, hO9, h18, h19⟩, ⟨hV, hHI, hSI, hAS⟩⟩ := i1
    subst hg
    rw [← e1] at hK
    exact ⟨ticks, rfl, hY, hA, hG, (hV.gv), hK⟩

theorem PR_finishedOf {S : Nat × (Nat → Int)} {kk : Int} {M : ZM} (hI : INV S kk M) (hk : kk + 1 ≤ 1000) (size : Int) : PAIR S kk M (fun M K => T_L_finishedOf [zo 64, zi size, zo 681] M K) (fun M K => T_X9_finishedOf [zo 670, zi size] M K (fun _ _ => False)) := by
  refine PAIR.rd (c := c_finishedOf (zI M 671) size) (v := (v_finishedOf (zI M 671) size)) hI hk (by unfold c_finishedOf; (repeat' split) <;> decide) (fun K h0 h1 => ?_) (fun M1 K i1 e1 hK => ?_)
  · obtain ⟨G, B, n, P, c, Q, bb, oo, e8, e9, hC, ⟨hL, ⟨hT, hG⟩, hI9, hR9, hQ9, hS9, hv9, h8, h9⟩, ⟨hY, hA, hg, hJ9, hH9, hZ9, hO9, h18, h19⟩, ⟨hV, hHI, hSI, hAS⟩⟩ := hI
    subst hg
    exact ⟨zI M 671, size, rfl, hC.2.2.2.1, hL, hT, hG, (hV.gv), (hV.gx), h0, (fun q => by have z := h1 (by rw [q]; decide); rw [q] at z; exact z)⟩
  · obtain ⟨G, B, n, P, c, Q, bb, oo, e8, e9, hC, ⟨hL, ⟨hT, hG⟩, hI9, hR9, hQ9, hS9, hv9, h8, h9⟩, ⟨hY, hA, hg, hJ9, hH9, hZ9, hO9, h18, h19⟩, ⟨hV, hHI, hSI, hAS⟩⟩ := i1
    subst hg
    rw [← e1] at hK
    exact ⟨size, rfl, hY, hA, hG, hK⟩

theorem PR_place {S : Nat × (Nat → Int)} {kk : Int} {M : ZM} (hI : INV S kk M) (hk : kk + 1 ≤ 1000) (w : Int) : PAIR S kk M (fun M K => T_L_place [zo 64, zi w, zo 681] M K) (fun M K => T_X9_place [zo 670, zi w] M K (fun _ _ => False)) := by
  refine PAIR.rd (c := c_place (zI M 671) w) (v := (v_place (zI M 671) w)) hI hk (by unfold c_place; (repeat' split) <;> decide) (fun K h0 h1 => ?_) (fun M1 K i1 e1 hK => ?_)
  · obtain ⟨G, B, n, P, c, Q, bb, oo, e8, e9, hC, ⟨hL, ⟨hT, hG⟩, hI9, hR9, hQ9, hS9, hv9, h8, h9⟩, ⟨hY, hA, hg, hJ9, hH9, hZ9, hO9, h18, h19⟩, ⟨hV, hHI, hSI, hAS⟩⟩ := hI
    subst hg
    exact ⟨zI M 671, w, rfl, hC.2.2.2.1, hL, hT, hG, (hV.gv), (hV.gx), h0, (fun q => by have z := h1 (by rw [q]; decide); rw [q] at z; exact z)⟩
  · obtain ⟨G, B, n, P, c, Q, bb, oo, e8, e9, hC, ⟨hL, ⟨hT, hG⟩, hI9, hR9, hQ9, hS9, hv9, h8, h9⟩, ⟨hY, hA, hg, hJ9, hH9, hZ9, hO9, h18, h19⟩, ⟨hV, hHI, hSI, hAS⟩⟩ := i1
    subst hg
    rw [← e1] at hK
    exact ⟨w, rfl, hY, hA, hG, hK⟩

theorem PR_partner {S : Nat × (Nat → Int)} {kk : Int} {M : ZM} (hI : INV S kk M) (hk : kk + 1 ≤ 1000) (w : Int) : PAIR S kk M (fun M K => T_L_partner [zo 64, zi w, zo 681] M K) (fun M K => T_X9_partner [zo 670, zi w] M K (fun _ _ => False)) := by
  refine PAIR.rd (c := c_partner (zI M 671) w) (v := (v_partner (zI M 671) w)) hI hk (by unfold c_partner; (repeat' split) <;> decide) (fun K h0 h1 => ?_) (fun M1 K i1 e1 hK => ?_)
  · obtain ⟨G, B, n, P, c, Q, bb, oo, e8, e9, hC, ⟨hL, ⟨hT, hG⟩, hI9, hR9, hQ9, hS9, hv9, h8, h9⟩, ⟨hY, hA, hg, hJ9, hH9, hZ9, hO9, h18, h19⟩, ⟨hV, hHI, hSI, hAS⟩⟩ := hI
    subst hg
    exact ⟨zI M 671, w, rfl, hC.2.2.2.1, hL, hT, hG, (hV.gv), (hV.gx), h0, (fun q => by have z := h1 (by rw [q]; decide); rw [q] at z; exact z)⟩
  · obtain ⟨G, B, n, P, c, Q, bb, oo, e8, e9, hC, ⟨hL, ⟨hT, hG⟩, hI9, hR9, hQ9, hS9, hv9, h8, h9⟩, ⟨hY, hA, hg, hJ9, hH9, hZ9, hO9, h18, h19⟩, ⟨hV, hHI, hSI, hAS⟩⟩ := i1
    subst hg
    rw [← e1] at hK
    exact ⟨w, rfl, hY, hA, hG, (hV.gv), hK⟩

theorem PR_suspended {S : Nat × (Nat → Int)} {k : Int} {M : ZM} (hI : INV S k M) (hk : k + 1 ≤ 1000) : PAIR0 S k M (fun M K => T_X8_suspended [zo 64] M K (fun _ _ => False)) (fun M K => T_X9_suspended [zo 670] M K (fun _ _ => False)) := by
  obtain ⟨G, B, n, P, c, Q, bb, oo, e8, e9, hC, ⟨hL, ⟨hT, hG⟩, hI9, hR9, hQ9, hS9, hv9, h8, h9⟩, ⟨hY, hA, hg, hJ9, hH9, hZ9, hO9, h18, h19⟩, ⟨hV, hHI, hSI, hAS⟩⟩ := (id hI)
  subst hg
  refine PAIR0.rd (x := (c_suspended (zI M 671))) (v := (v_suspended (zI M 671))) hI hk (fun K hK => ?_) (fun K hK => ?_)
  · exact ⟨zI M 671, rfl, hL, hT, hG, (hV.gv), (hV.gx), hK⟩
  · exact ⟨0, rfl, hY, hA, hG, hK⟩

theorem PR_nextAudit {S : Nat × (Nat → Int)} {k : Int} {M : ZM} (hI : INV S k M) (hk : k + 1 ≤ 1000) : PAIR0 S k M (fun M K => T_X8_nextAudit [zo 64] M K (fun _ _ => False)) (fun M K => T_X9_nextAudit [zo 670] M K (fun _ _ => False)) := by
  obtain ⟨G, B, n, P, c, Q, bb, oo, e8, e9, hC, ⟨hL, ⟨hT, hG⟩, hI9, hR9, hQ9, hS9, hv9, h8, h9⟩, ⟨hY, hA, hg, hJ9, hH9, hZ9, hO9, h18, h19⟩, ⟨hV, hHI, hSI, hAS⟩⟩ := (id hI)
  subst hg
  refine PAIR0.rd (x := (c_nextAudit (zI M 671))) (v := (v_nextAudit (zI M 671))) hI hk (fun K hK => ?_) (fun K hK => ?_)
  · exact ⟨zI M 671, rfl, hL, hT, hG, (hV.gv), (hV.gx), hK⟩
  · exact ⟨0, rfl, hY, hA, hG, hK⟩

theorem PR_nextDue {S : Nat × (Nat → Int)} {k : Int} {M : ZM} (hI : INV S k M) (hk : k + 1 ≤ 1000) : PAIR0 S k M (fun M K => T_X8_nextDue [zo 64] M K (fun _ _ => False)) (fun M K => T_X9_nextDue [zo 670] M K (fun _ _ => False)) := by
  obtain ⟨G, B, n, P, c, Q, bb, oo, e8, e9, hC, ⟨hL, ⟨hT, hG⟩, hI9, hR9, hQ9, hS9, hv9, h8, h9⟩, ⟨hY, hA, hg, hJ9, hH9, hZ9, hO9, h18, h19⟩, ⟨hV, hHI, hSI, hAS⟩⟩ := (id hI)
  subst hg
  refine PAIR0.rd (x := (c_nextDue (zI M 671))) (v := (v_nextDue (zI M 671))) hI hk (fun K hK => ?_) (fun K hK => ?_)
  · exact ⟨zI M 671, rfl, hL, hT, hG, (hV.gv), (hV.gx), hK⟩
  · exact ⟨0, rfl, hY, hA, hG, hK⟩

theorem PR_lost {S : Nat × (Nat → Int)} {k : Int} {M : ZM} (hI : INV S k M) (hk : k + 1 ≤ 1000) : PAIR0 S k M (fun M K => T_X8_lost [zo 64] M K (fun _ _ => False)) (fun M K => T_X9_lost [zo 670] M K (fun _ _ => False)) := by
  obtain ⟨G, B, n, P, c, Q, bb, oo, e8, e9, hC, ⟨hL, ⟨hT, hG⟩, hI9, hR9, hQ9, hS9, hv9, h8, h9⟩, ⟨hY, hA, hg, hJ9, hH9, hZ9, hO9, h18, h19⟩, ⟨hV, hHI, hSI, hAS⟩⟩ := (id hI)
  subst hg
  refine PAIR0.rd (x := (c_lost (zI M 671))) (v := (v_lost (zI M 671))) hI hk (fun K hK => ?_) (fun K hK => ?_)
  · exact ⟨zI M 671, rfl, hL, hT, hG, (hV.gv), (hV.gx), hK⟩
  · exact ⟨0, rfl, hY, hA, hG, hK⟩

theorem PR_left {S : Nat × (Nat → Int)} {k : Int} {M : ZM} (hI : INV S k M) (hk : k + 1 ≤ 1000) : PAIR0 S k M (fun M K => T_X8_left [zo 64] M K (fun _ _ => False)) (fun M K => T_X9_left [zo 670] M K (fun _ _ => False)) := by
  obtain ⟨G, B, n, P, c, Q, bb, oo, e8, e9, hC, ⟨hL, ⟨hT, hG⟩, hI9, hR9, hQ9, hS9, hv9, h8, h9⟩, ⟨hY, hA, hg, hJ9, hH9, hZ9, hO9, h18, h19⟩, ⟨hV, hHI, hSI, hAS⟩⟩ := (id hI)
  subst hg
  refine PAIR0.rd (x := (c_left (zI M 671))) (v := (v_left (zI M 671))) hI hk (fun K hK => ?_) (fun K hK => ?_)
  · exact ⟨zI M 671, rfl, hL, hT, hG, (hV.gv), (hV.gx), hK⟩
  · exact ⟨0, rfl, hY, hA, hG, (hV.gv), hK⟩

theorem PR_leader {S : Nat × (Nat → Int)} {k : Int} {M : ZM} (hI : INV S k M) (hk : k + 1 ≤ 1000) : PAIR0 S k M (fun M K => T_X8_leader [zo 64] M K (fun _ _ => False)) (fun M K => T_X9_leader [zo 670] M K (fun _ _ => False)) := by
  obtain ⟨G, B, n, P, c, Q, bb, oo, e8, e9, hC, ⟨hL, ⟨hT, hG⟩, hI9, hR9, hQ9, hS9, hv9, h8, h9⟩, ⟨hY, hA, hg, hJ9, hH9, hZ9, hO9, h18, h19⟩, ⟨hV, hHI, hSI, hAS⟩⟩ := (id hI)
  subst hg
  refine PAIR0.rd (x := (c_leader (zI M 671))) (v := (v_leader (zI M 671))) hI hk (fun K hK => ?_) (fun K hK => ?_)
  · exact ⟨zI M 671, rfl, hL, hT, hG, (hV.gv), (hV.gx), hK⟩
  · exact ⟨0, rfl, hY, hA, hG, hK⟩

theorem PR_errorCode {S : Nat × (Nat → Int)} {k : Int} {M : ZM} (hI : INV S k M) (hk : k + 1 ≤ 1000) : PAIR0 S k M (fun M K => T_X8_errorCode [zo 64] M K (fun _ _ => False)) (fun M K => T_X9_errorCode [zo 670] M K (fun _ _ => False)) := by
  obtain ⟨G, B, n, P, c, Q, bb, oo, e8, e9, hC, ⟨hL, ⟨hT, hG⟩, hI9, hR9, hQ9, hS9, hv9, h8, h9⟩, ⟨hY, hA, hg, hJ9, hH9, hZ9, hO9, h18, h19⟩, ⟨hV, hHI, hSI, hAS⟩⟩ := (id hI)
  refine PAIR0.rd (x := 0) (v := e8) hI hk (fun K hK => ⟨0, rfl, hL, by rw [h8]; exact hK⟩) (fun K hK => ⟨0, rfl, hY, by rw [h18]; exact hK⟩)
theorem PR_errorPosition {S : Nat × (Nat → Int)} {k : Int} {M : ZM} (hI : INV S k M) (hk : k + 1 ≤ 1000) : PAIR0 S k M (fun M K => T_X8_errorPosition [zo 64] M K (fun _ _ => False)) (fun M K => T_X9_errorPosition [zo 670] M K (fun _ _ => False)) := by
  obtain ⟨G, B, n, P, c, Q, bb, oo, e8, e9, hC, ⟨hL, ⟨hT, hG⟩, hI9, hR9, hQ9, hS9, hv9, h8, h9⟩, ⟨hY, hA, hg, hJ9, hH9, hZ9, hO9, h18, h19⟩, ⟨hV, hHI, hSI, hAS⟩⟩ := (id hI)
  refine PAIR0.rd (x := 0) (v := e9) hI hk (fun K hK => ⟨0, rfl, hL, by rw [h9]; exact hK⟩) (fun K hK => ⟨0, rfl, hY, by rw [h19]; exact hK⟩)
theorem PR_undoCount {S : Nat × (Nat → Int)} {k : Int} {M : ZM} (hI : INV S k M) (hk : k + 1 ≤ 1000) : PAIR0 S k M (fun M K => T_X8_undoCount [zo 64] M K (fun _ _ => False)) (fun M K => T_X9_undoCount [zo 670] M K (fun _ _ => False)) := by
  obtain ⟨G, B, n, P, c, Q, bb, oo, e8, e9, hC, ⟨hL, ⟨hT, hG⟩, hI9, hR9, hQ9, hS9, hv9, h8, h9⟩, ⟨hY, hA, hg, hJ9, hH9, hZ9, hO9, h18, h19⟩, ⟨hV, hHI, hSI, hAS⟩⟩ := (id hI)
  refine PAIR0.rd (x := 0) (v := c) hI hk (fun K hK => ⟨P, c, rfl, hL, hR9, hK⟩) (fun K hK => ⟨0, rfl, hY, by rw [hH9.1]; exact hK⟩)
