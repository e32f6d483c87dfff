/-! the start: its constants -/
theorem ch_n {P : Nat → Nat → Prop} {n : Nat} (h : ∀ i, i < n → ∃ a, P i a) : ∃ f : Nat → Nat, ∀ i, i < n → P i (f i) := by
  have h' : ∀ i, ∃ a, i < n → P i a := fun i => by
    by_cases hi : i < n
    · obtain ⟨a, ha⟩ := h i hi
      exact ⟨a, fun _ => ha⟩
    · exact ⟨0, fun q => absurd q hi⟩
  exact Classical.axiomOfChoice h'
def cA0 (ka sa va : Nat → Nat) (kA d1 d2 sx b j : Nat) : Nat := if j < 1 then va 23 else if j < 12 then ka (j - 1) else if j = 12 then kA else if j < 24 then sa (j - 13) else if j < 35 then va (j - 24) else if j < 47 then sa (j - 24) else if j < 57 then va (j - 36) else if j = 57 then sa 23 else if j = 58 then va 21 else if j = 59 then d1 else if j = 60 then d2 else if j = 61 then sx else if j = 62 then b else va 22
theorem cA_k {ka sa va : Nat → Nat} {kA d1 d2 sx b i : Nat} (hi : i < 11) : cA0 ka sa va kA d1 d2 sx b (1 + i) = ka i := by
  unfold cA0
  rw [if_neg (show ¬ (1 + i < 1) by omega), if_pos (show 1 + i < 12 by omega)]
  refine congrArg ka ?_
  omega
theorem cA_s {ka sa va : Nat → Nat} {kA d1 d2 sx b i : Nat} (hi : i < 24) : cA0 ka sa va kA d1 d2 sx b (sC i) = sa i := by
  by_cases h1 : i < 11
  · rw [show sC i = 13 + i from if_pos h1]
    unfold cA0
    rw [if_neg (show ¬ (13 + i < 1) by omega), if_neg (show ¬ (13 + i < 12) by omega), if_neg (show ¬ (13 + i = 12) by omega), if_pos (show 13 + i < 24 by omega)]
    refine congrArg sa ?_
    omega
  · by_cases h2 : i < 23
    · rw [show sC i = 24 + i from (if_neg h1).trans (if_pos h2)]
      unfold cA0
      rw [if_neg (show ¬ (24 + i < 1) by omega), if_neg (show ¬ (24 + i < 12) by omega), if_neg (show ¬ (24 + i = 12) by omega), if_neg (show ¬ (24 + i < 24) by omega), if_neg (show ¬ (24 + i < 35) by omega), if_pos (show 24 + i < 47 by omega)]
      refine congrArg sa ?_
      omega
    · obtain rfl : i = 23 := by omega
      rfl
theorem cA_v {ka sa va : Nat → Nat} {kA d1 d2 sx b i : Nat} (hi : i < 24) : cA0 ka sa va kA d1 d2 sx b (vC i) = va i := by
  by_cases h1 : i < 11
  · rw [show vC i = 24 + i from if_pos h1]
    unfold cA0
    rw [if_neg (show ¬ (24 + i < 1) by omega), if_neg (show ¬ (24 + i < 12) by omega), if_neg (show ¬ (24 + i = 12) by omega), if_neg (show ¬ (24 + i < 24) by omega), if_pos (show 24 + i < 35 by omega)]
    refine congrArg va ?_
    omega
  · by_cases h2 : i < 21
    · rw [show vC i = 36 + i from (if_neg h1).trans (if_pos h2)]
      unfold cA0
      rw [if_neg (show ¬ (36 + i < 1) by omega), if_neg (show ¬ (36 + i < 12) by omega), if_neg (show ¬ (36 + i = 12) by omega), if_neg (show ¬ (36 + i < 24) by omega), if_neg (show ¬ (36 + i < 35) by omega), if_neg (show ¬ (36 + i < 47) by omega), if_pos (show 36 + i < 57 by omega)]
      refine congrArg va ?_
      omega
    · rcases (show i = 21 ∨ i = 22 ∨ i = 23 by omega) with rfl | rfl | rfl <;> rfl
def jS (j : Nat) : Nat := if j < 24 then j - 13 else if j < 47 then j - 24 else 23
def jV (j : Nat) : Nat := if j < 35 then j - 24 else if j < 57 then j - 36 else if j = 58 then 21 else 22
theorem cK_0 : ∀ j, j < 64 → cK j = 0 → (jS j < 24 ∧ sC (jS j) = j ∧ cR j 0 = some (vC (jS j))) ∧ cI0 j 1 = 0 ∧ j ≠ 62 := by decide +kernel
theorem cK_40 : ∀ j, j < 64 → cK j = 40 → 1 ≤ j ∧ j < 12 := by decide +kernel
theorem cK_20 : ∀ j, j < 64 → cK j = 20 → j = 62 := by decide +kernel
theorem cK_21 : ∀ j, j < 64 → cK j = 21 → j = 59 ∨ j = 60 ∨ ((jV j < 24 ∧ vC (jV j) = j ∧ cB j = cL (jV j)) ∧ j ≠ 12 ∧ j ≠ 59 ∧ j ≠ 60 ∧ j ≠ 62) := by decide +kernel
theorem cK_33 : ∀ j, j < 64 → cK j = 33 → j = 12 := by decide +kernel
theorem cL_le : ∀ i, i < 24 → (cL i).length ≤ 16 := by decide +kernel
theorem xw_n {w : Cond} (hw : w ∈ zXW) {args : Array Value} {s : State} (h : w.before args s = true) : va_Nw w s := by
  rcases zXW_kinds w hw with ⟨C, T, rfl⟩ | ⟨x, rfl⟩ | ⟨a, i, x, q, rfl⟩ | ⟨C, rfl⟩
  · exact va_Nw.of rfl h
  · exact va_Nw.of rfl h
  · exact va_Nw.of rfl h
  · exact h
set_option maxRecDepth 100000 in
theorem l_ix : ∀ q ∈ zLS, (match q.2.2.2 with | none => true | some j => decide (cT (jS j) = Term.string q.1 q.2.1 ∧ jS j < 24 ∧ sC (jS j) = j)) = true := by decide +kernel
theorem c59 : ∀ j, j < 100 → cI0 59 j = 48 + (j : Int) % 10 ∧ cI0 60 j = 48 + (j : Int) / 10 := fun j hj => by
  unfold cI0
  rw [if_pos ⟨rfl, hj⟩, if_neg (by omega), if_pos ⟨rfl, hj⟩]
  exact ⟨rfl, rfl⟩
theorem st_str {args : Array Value} {s : State} {A : Nat → Prop} (hg : (Jvm.Cond.and given_1 narrow_1).before args s = true) (hA : ∀ a : Nat, a < s.heap.size → ¬ A a) : ∃ sa va : Nat → Nat, ∀ i, i < 24 → (cT i).eval args s none [] s = some (.ref (sa i)) ∧ va_O "java/lang/String" (sa i) A s s.heap ∧ va_OF "java/lang/String" "value" "[B" (.ref (va i)) (sa i) A s s.heap ∧ va_OF "java/lang/String" "coder" "B" (.int 0) (sa i) A s s.heap ∧ va_T .byte (va i) (cL i).length (fun k => .int (Int32.ofInt ((cL i).getD k 0))) A s s.heap := by
  obtain ⟨sa, hsa⟩ := ch_n (n := 24) (P := fun i a => (cT i).eval args s none [] s = some (.ref a)) (fun i hi => by
    obtain ⟨a, c, cA, kA, q1, -⟩ := Cond.exactly_spec (args := args) (first := s) (o := none) (s := s) (idx := []) (nF_at hg (s_ex i hi))
    exact ⟨a, q1⟩)
  obtain ⟨va, hva⟩ := ch_n (n := 24) (P := fun i a => (cV i).eval args s none [] s = some (.ref a) ∧ va_T .byte a (cL i).length (fun k => .int (Int32.ofInt ((cL i).getD k 0))) A s s.heap) (fun i hi => va_Tof (f := fun k => .int (Int32.ofInt ((cL i).getD k 0))) (by have := cL_le i hi; omega) (nF_at hg (s_ar i hi)) (va_eqt (nF_at hg (s_le i hi))) (fun j hj => va_eqt (nF_at hg (s_el i hi j hj))) hA)
  exact ⟨sa, va, fun i hi => ⟨hsa i hi, va_Oof (nF_at hg (s_ex i hi)) (hsa i hi) hA, vk_OFof (hsa i hi) (hva i hi).1 hA, vk_OFof (hsa i hi) (va_eqt (nF_at hg (s_co i hi))) hA, (hva i hi).2⟩⟩
theorem st_kw {args : Array Value} {s : State} (hg : (Jvm.Cond.and given_1 narrow_1).before args s = true) : ∃ ka : Nat → Nat, ∀ i, i < 11 → (kwS i).eval args s none [] s = some (.ref (ka i)) :=
  ch_n (n := 11) (P := fun i a => (kwS i).eval args s none [] s = some (.ref a)) (fun i hi => by
    obtain ⟨a, c, cA, kA, q1, -⟩ := Cond.exactly_spec (args := args) (first := s) (o := none) (s := s) (idx := []) (nF_at hg (k_ex i hi))
    exact ⟨a, q1⟩)
theorem str_j {A : Nat → Prop} {s : State} {a sa va : Nat → Nat} {M : ZM} {j v i : Nat} (ha : a j = sa i) (hr : zR M j 0 = some v) (hv : a v = va i) (hz : zI M j 1 = 0) (h1 : va_O "java/lang/String" (sa i) A s s.heap) (h2 : va_OF "java/lang/String" "value" "[B" (.ref (va i)) (sa i) A s s.heap) (h3 : va_OF "java/lang/String" "coder" "B" (.int 0) (sa i) A s s.heap) : va_O "java/lang/String" (a j) A s s.heap ∧ va_OF "java/lang/String" "value" "[B" (va_rf ((zR M j 0).map a)) (a j) A s s.heap ∧ va_OF "java/lang/String" "coder" "B" (.int (Int32.ofInt (zI M j 1))) (a j) A s s.heap := by
  rw [hr, hz, ha]
  refine ⟨h1, ?_, ?_⟩
  · show va_OF _ _ _ (.ref (a v)) _ _ _ _
    rw [hv]
    exact h2
  · rw [show Int32.ofInt 0 = 0 from by decide]
    exact h3
theorem st_K {args : Array Value} {s : State} (hts : ∀ w ∈ lw_tbl, w.before args s = true) : ∃ D : va_G, va_K D vwCl [] s := by
  have h : ∀ c : Nat, ∃ d : ClassId × (Nat → Nat), ∀ q, vwCl[c]? = some q → u_Kn s q.1 q.2.1 q.2.2 d.1 d.2 := fun c => by
    cases hc : vwCl[c]? with
    | none => exact ⟨(0, fun _ => 0), fun q hq => nomatch hq⟩
    | some q =>
      obtain ⟨d, i, h⟩ := u_known (n := q.2.2) hts (v_ws q (List.mem_of_getElem? hc)).1 (hts _ (v_ws q (List.mem_of_getElem? hc)).2)
      exact ⟨(d, i), fun q' hq => by cases hq; exact h⟩
  obtain ⟨f, hf⟩ := Classical.axiomOfChoice h
  exact ⟨(fun c => (f c).1, fun c => (f c).2), hf, fun k q h => by simp at h⟩
set_option maxRecDepth 100000 in
set_option maxHeartbeats 4000000 in
theorem st_all {args : Array Value} {s : State} {A : Nat → Prop} (hg : (Jvm.Cond.and given_1 narrow_1).before args s = true) (hts : ∀ w ∈ lw_tbl, w.before args s = true) (hA : ∀ a : Nat, a < s.heap.size → ¬ A a) {b L : Nat} {xs : Nat → Int32} (hX : va_X b L xs s s.heap) (hb : b < s.heap.size) : ∃ a0 : Nat → Nat, a0 62 = b ∧ zCF a0 (zM0 L xs) A s s.heap := by
  obtain ⟨sa, va, hS⟩ := st_str hg hA
  obtain ⟨ka, hk⟩ := st_kw hg
  obtain ⟨d1, e1, t1⟩ := va_Tof (A := A) (f := fun k => .int (Int32.ofInt (cI0 59 k))) (N := 100) (by decide) (nF_at hg d_1.1) (va_eqt (nF_at hg d_1.2.1)) (fun j hj => by rw [(c59 j hj).1]; exact va_eqt (nF_at hg (d_1.2.2 j hj))) hA
  obtain ⟨d2, e2, t2⟩ := va_Tof (A := A) (f := fun k => .int (Int32.ofInt (cI0 60 k))) (N := 100) (by decide) (nF_at hg d_2.1) (va_eqt (nF_at hg d_2.2.1)) (fun j hj => by rw [(c59 j hj).2]; exact va_eqt (nF_at hg (d_2.2.2 j hj))) hA
  obtain ⟨kA, eA, tA⟩ := va_Tof (A := A) (f := fun k => va_rf ((cR 12 k).map (fun j => ka (j - 1)))) (N := 11) (by decide) (nF_at hg w_ar.1) (va_eqt (nF_at hg w_ar.2.1)) (fun j hj => by
    rw [(cf_k j hj).2.2]
    show _ = some (Value.ref (ka (1 + j - 1)))
    rw [Nat.add_sub_cancel_left]
    exact va_eqv (nF_at hg (w_ar.2.2 j hj)) (hk j hj)) hA
  obtain ⟨sx, r, hr, hsx⟩ : ∃ (sx : Nat) (r : Option Nat), (r = none ∨ r = some 61) ∧ ∀ a : Nat → Nat, a 61 = sx → va_Z "jdk/internal/util/Preconditions" "SIOOBE_FORMATTER" "Ljava/util/function/BiFunction;" (va_rf (r.map a)) A s s.heap := by
    rcases va_Zqof (hts _ t_ls.2.1) (hts _ t_ls.2.2) (nF_at hg o_1.2.2.2) hA with h | ⟨t, h⟩
    · exact ⟨0, none, Or.inl rfl, fun a _ => h⟩
    · exact ⟨t, some 61, Or.inr rfl, fun a ha => by
        show va_Z _ _ _ (.ref (a 61)) _ _ _
        rw [ha]
        exact h⟩
  obtain ⟨a, hadef⟩ : ∃ a, cA0 ka sa va kA d1 d2 sx b = a := ⟨_, rfl⟩
  have a12 : a 12 = kA := by rw [← hadef]; rfl
  have a59 : a 59 = d1 := by rw [← hadef]; rfl
  have a60 : a 60 = d2 := by rw [← hadef]; rfl
  have a61 : a 61 = sx := by rw [← hadef]; rfl
  have a62 : a 62 = b := by rw [← hadef]; rfl
  have ak : ∀ i, i < 11 → a (1 + i) = ka i := fun i hi => by rw [← hadef]; exact cA_k hi
  have as : ∀ i, i < 24 → a (sC i) = sa i := fun i hi => by rw [← hadef]; exact cA_s hi
  have av : ∀ i, i < 24 → a (vC i) = va i := fun i hi => by rw [← hadef]; exact cA_v hi
  have hZ : ∀ q ∈ zST, (Term.static q.1 q.2.1 q.2.2.1).eval args s none [] s = some (ztr a q.2.2.2) := by
    intro q hq
    have K : ∀ i, i < 11 → ∀ j, j = 1 + i → (kwS i).eval args s none [] s = some (ztr a (zo j)) := fun i hi j hj => by
      subst hj
      show _ = some (Value.ref (a (1 + i)))
      rw [ak i hi]
      exact hk i hi
    simp only [zST, List.mem_cons, List.not_mem_nil, or_false] at hq
    rcases hq with rfl | rfl | rfl | rfl | rfl | rfl | rfl | rfl | rfl | rfl | rfl | rfl | rfl | rfl | rfl
    · exact K 0 (by decide) 1 rfl
    · exact K 1 (by decide) 2 rfl
    · exact K 2 (by decide) 3 rfl
    · exact K 3 (by decide) 4 rfl
    · exact K 4 (by decide) 5 rfl
    · exact K 5 (by decide) 6 rfl
    · exact K 6 (by decide) 7 rfl
    · exact K 7 (by decide) 8 rfl
    · exact K 8 (by decide) 9 rfl
    · exact K 9 (by decide) 10 rfl
    · exact K 10 (by decide) 11 rfl
    · show tKW.eval args s none [] s = some (Value.ref (a 12))
      rw [a12]
      exact eA
    · show _ = some (Value.int (Int32.ofInt 1))
      rw [show Int32.ofInt 1 = 1 from by decide]
      exact va_eqt (nF_at hg o_1.1)
    · show tD1.eval args s none [] s = some (Value.ref (a 59))
      rw [a59]
      exact e1
    · show tD2.eval args s none [] s = some (Value.ref (a 60))
      rw [a60]
      exact e2
  have z62 : ∀ j k, j ≠ 62 → zI (zM0 L xs) j k = cI0 j k := fun j k hj => if_neg hj
  have l62 : ∀ j, j ≠ 62 → zLn (zM0 L xs) j = cLn0 j := fun j hj => if_neg hj
  refine ⟨a, a62, ⟨fun j hj e => ?_, fun j hj e => ?_, fun j hj e => ?_, fun j hj e => ?_, fun j hj e => ?_⟩, fun q hq => va_Zof (hts _ (z_ls q hq).1) (hts _ (z_ls q hq).2) (hZ q hq) hA, vx_Zqof (hts _ t_ls.1.1) (hts _ t_ls.1.2.2) (nF_at hg o_1.2.1) hA, vx_Zqof (hts _ t_ls.1.2.1) (hts _ t_ls.1.2.2) (nF_at hg o_1.2.2.1) hA, fun q hq => ?_, fun w hw => xw_n hw (hts _ (x_ws w hw)), r, hr, hsx a a61⟩
  · obtain ⟨⟨hi, hs, hr'⟩, hz, h62⟩ := cK_0 j hj e
    have hz' : zI (zM0 L xs) j 1 = 0 := (z62 j 1 h62).trans hz
    obtain ⟨-, h1, h2, h3, -⟩ := hS (jS j) hi
    exact str_j ((congrArg a hs.symm).trans (as _ hi)) hr' (av _ hi) hz' h1 h2 h3
  · obtain ⟨h1, h2⟩ := cK_40 j hj e
    obtain ⟨i, rfl⟩ : ∃ i, j = 1 + i := ⟨j - 1, by omega⟩
    have hi : i < 11 := by omega
    rw [show zR (zM0 L xs) (1 + i) 0 = some (13 + i) from (cf_k i hi).2.1]
    show va_OF _ _ _ (.ref (a (13 + i))) _ _ _ _
    rw [show a (13 + i) = sa i from (congrArg a (sC_k i hi).1.symm).trans (as i (by omega)), ak i hi]
    exact vk_OFof (hk i hi) (va_eqv (nF_at hg (k_tx i hi)) (hS i (by omega)).1) hA
  · cases cK_20 j hj e
    obtain ⟨scr, x1, x2, x3, x4, x5⟩ := hX
    rw [a62]
    refine ⟨scr, x1, x2, x3, Nat.le_of_eq x4.symm, by rw [x4]; rfl, fun j hj => ?_, hA _ hb⟩
    show _ = some (Value.int (Int32.ofInt (xs j).toInt))
    rw [Int32.ofInt_toInt]
    exact x5 j hj
  · rcases cK_21 j hj e with rfl | rfl | ⟨⟨hi, hv, hb9⟩, n12, n59, n60, n62⟩
    · rw [a59]
      exact t1
    · rw [a60]
      exact t2
    · have h := (hS (jV j) hi).2.2.2.2
      rw [show a j = va (jV j) from (congrArg a hv.symm).trans (av _ hi), l62 _ n62, cLn_b ⟨n12, n59, n60⟩, hb9, show (fun k => Value.int (Int32.ofInt (zI (zM0 L xs) j k))) = (fun k => Value.int (Int32.ofInt ((cL (jV j)).getD k 0))) from funext (fun k => by rw [z62 _ k n62, cI_b ⟨n59, n60⟩, hb9])]
      exact h
  · cases cK_33 j hj e
    rw [a12, show (fun k => va_rf ((zR (zM0 L xs) 12 k).map a)) = (fun k => va_rf ((cR 12 k).map (fun j => ka (j - 1)))) from funext (fun k => by
      show va_rf ((cR 12 k).map a) = _
      by_cases hk : k < 11
      · rw [(cf_k k hk).2.2]
        show Value.ref (a (1 + k)) = Value.ref (ka (1 + k - 1))
        rw [ak k hk, Nat.add_sub_cancel_left]
      · rw [show cR 12 k = none from by unfold cR; rw [if_neg (by decide), if_pos rfl, if_neg hk]]
        rfl)]
    exact tA
  · obtain ⟨d, c, cA, kA', q1, -⟩ := Cond.exactly_spec (args := args) (first := s) (o := none) (s := s) (idx := []) (flat_of_before _ hg _ (l_ex q hq))
    refine ⟨d, vk_R.of (hts _ (l_sr q hq)) q1, fun j hj => ?_⟩
    have h9 := l_ix q hq
    rw [hj] at h9
    obtain ⟨w1, w2, w3⟩ := of_decide_eq_true h9
    have h8 := (hS (jS j) w2).1
    rw [w1] at h8
    cases q1.symm.trans h8
    rw [← as (jS j) w2, w3]
