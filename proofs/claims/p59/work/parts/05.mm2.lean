def zLS : List (String × Nat × String × Option Nat) := [("ReviewTable$Worker", 7, "", some 57), ("ReviewTable", 403, "a value is out of range", none), ("ReviewTableLaw", 46, "table tolerance ", some 35), ("ReviewTableLaw", 54, " patience ", some 36), ("ReviewTableLaw", 59, " least ", some 37), ("ReviewTableLaw", 61, ";", some 38), ("ReviewTableLaw", 63, "worker w", some 39), ("ReviewTableLaw", 68, " team ", some 40), ("ReviewTableLaw", 70, " quota ", some 41), ("ReviewTableLaw", 72, " trust ", some 42), ("ReviewTableLaw", 74, "rows ", some 43), ("ReviewTableLaw", 76, " size ", some 44), ("ReviewTableLaw", 78, "bar w", some 45), ("ReviewTableLaw", 80, " w", some 46), ("ReviewTable", 71, "the input buffer is full", none), ("ReviewTable", 407, "no such worker", none), ("ReviewTable", 409, "no such row", none), ("ReviewTable", 203, "no such taking", none), ("ReviewTable", 350, "too many rows", none), ("ReviewTable", 308, "no row that the worker can take", none), ("ReviewTable", 313, "the worker cannot take the row", none), ("ReviewTable", 411, "the worker has not this row in work", none), ("ReviewTable", 325, "the row is not finished, or was audited", none), ("ReviewTable", 331, "the row is finished or set aside", none), ("ReviewTable", 336, "the worker is not suspended", none), ("ReviewTable", 340, "two different workers are needed", none), ("ReviewTable$Keyword", 61, "table", some 13), ("ReviewTable$Keyword", 67, "tolerance", some 14), ("ReviewTable$Keyword", 70, "patience", some 15), ("ReviewTable$Keyword", 73, "least", some 16), ("ReviewTable$Keyword", 76, "worker", some 17), ("ReviewTable$Keyword", 79, "team", some 18), ("ReviewTable$Keyword", 82, "quota", some 19), ("ReviewTable$Keyword", 85, "trust", some 20), ("ReviewTable$Keyword", 88, "rows", some 21), ("ReviewTable$Keyword", 91, "size", some 22), ("ReviewTable$Keyword", 94, "bar", some 23)]
def zST : List (String × String × String × ZV) := [("ReviewTable$Keyword", "TABLE", "LReviewTable$Keyword;", zo 1), ("ReviewTable$Keyword", "TOLERANCE", "LReviewTable$Keyword;", zo 2), ("ReviewTable$Keyword", "PATIENCE", "LReviewTable$Keyword;", zo 3), ("ReviewTable$Keyword", "LEAST", "LReviewTable$Keyword;", zo 4), ("ReviewTable$Keyword", "WORKER", "LReviewTable$Keyword;", zo 5), ("ReviewTable$Keyword", "TEAM", "LReviewTable$Keyword;", zo 6), ("ReviewTable$Keyword", "QUOTA", "LReviewTable$Keyword;", zo 7), ("ReviewTable$Keyword", "TRUST", "LReviewTable$Keyword;", zo 8), ("ReviewTable$Keyword", "ROWS", "LReviewTable$Keyword;", zo 9), ("ReviewTable$Keyword", "SIZE", "LReviewTable$Keyword;", zo 10), ("ReviewTable$Keyword", "BAR", "LReviewTable$Keyword;", zo 11), ("ReviewTable$Parser", "KEYWORDS", "[LReviewTable$Keyword;", zo 12), ("java/lang/String", "COMPACT_STRINGS", "Z", zi 1), ("java/lang/Integer", "DigitOnes", "[B", zo 59), ("java/lang/Integer", "DigitTens", "[B", zo 60)]
def zXW : List Cond := [.castable "java/lang/IndexOutOfBoundsException" "java/lang/IndexOutOfBoundsException", .castable "java/lang/IllegalArgumentException" "java/lang/IllegalArgumentException", .castable "java/lang/IllegalStateException" "java/lang/IllegalStateException", .castable "[B" "java/lang/Cloneable", .declares ⟨"java/lang/RuntimeException", "<init>", "(Ljava/lang/String;)V"⟩, .declares ⟨"java/lang/Exception", "<init>", "(Ljava/lang/String;)V"⟩, .declares ⟨"java/lang/Throwable", "<init>", "(Ljava/lang/String;)V"⟩, .methodLinkNest "ReviewTable" 9 ⟨"ReviewTable$Parser", "<init>", "()V"⟩ "ReviewTable", .methodLinkNest "ReviewTable$Parser" 11 ⟨"ReviewTable$Input", "<init>", "()V"⟩ "ReviewTable", .methodLinkNest "ReviewTable$Table" 49 ⟨"ReviewTable$Worker", "<init>", "()V"⟩ "ReviewTable", .methodLinkNest "ReviewTable$Table" 50 ⟨"ReviewTable$Row", "<init>", "()V"⟩ "ReviewTable", .methodLinkNest "ReviewTable" 45 ⟨"ReviewTable$Verdict", "<init>", "()V"⟩ "ReviewTable", .methodLinkNest "ReviewTable$Worker" 43 ⟨"ReviewTable", "withinTrust", "(I)I"⟩ "ReviewTable", .arrayOver (.object "ReviewTable$Worker"), .arrayOver (.object "ReviewTable$Row"), .arrayOver (.object "ReviewTable$Table")]
-- the cells
def znf (ci : Nat) : Nat := match vwCl[ci]? with | some q => q.2.2 | none => 0
def zrfT : List (List Nat) := [[0], [0], [2], [2], [2], [0, 2], [2, 3], [9], [6, 7, 8, 9], [4, 5, 6], [0], [0, 1, 2, 3, 4, 5, 6, 7]]
def zrf (ci k : Nat) : Bool := (zrfT.getD ci []).contains k
def ztyK (κ : Nat) : FieldType := if κ = 20 then .int else if κ = 21 then .byte else if κ = 22 then .boolean else if κ = 23 then .long else if κ = 24 then .double else if κ = 30 then .object "ReviewTable$Worker" else if κ = 31 then .object "ReviewTable$Row" else .object "ReviewTable$Table"
def zfs (a : Nat → Nat) (M : ZM) (j : Nat) : List Value := (List.range (znf (zK M j))).map (fun k => if zrf (zK M j) k = true then va_rf ((zR M j k).map a) else .int (Int32.ofInt (zI M j k)))
def zar (a : Nat → Nat) (M : ZM) (j : Nat) : vp_A := (zLn M j,
  if zK M j = 23 then .inr (.inl (fun k => Int64.ofInt (zI M j k))) else if zK M j = 24 then .inr (.inr (.inr (.inl (fun k => UInt64.ofNat (zI M j k).toNat)))) else if 30 ≤ zK M j then .inr (.inr (.inr (.inr (fun k => (zR M j k).map a)))) else .inl (fun k => Int32.ofInt (zI M j k)))
def zE (cy a : Nat → Nat) (M : ZM) (j : Nat) : va_E := if zK M j < 20 then .inr (zK M j, zfs a M j) else .inl (cy j, zar a M j)
def zWs (cy a : Nat → Nat) (M : ZM) : va_W := (List.range (zN M - zCC)).map (fun i => (a (zCC + i), zE cy a M (zCC + i)))
theorem zWs_get {cy a : Nat → Nat} {M : ZM} {j : Nat} (h : zCC ≤ j) (hN : j < zN M) : (zWs cy a M)[j - zCC]? = some (a j, zE cy a M j) := by
  rw [zWs, List.getElem?_map, List.getElem?_range (by omega)]
  simp [show zCC + (j - zCC) = j by omega]
theorem zWs_len (cy a : Nat → Nat) (M : ZM) : (zWs cy a M).length = zN M - zCC := by simp [zWs]
theorem zWs_at {cy a : Nat → Nat} {M : ZM} {i : Nat} {q : Nat × va_E} (h : (zWs cy a M)[i]? = some q) : zCC + i < zN M ∧ q = (a (zCC + i), zE cy a M (zCC + i)) := by
  have hl := (List.getElem?_eq_some_iff.mp h).1
  rw [zWs_len] at hl
  refine ⟨by omega, ?_⟩
  have h2 := zWs_get (cy := cy) (a := a) (M := M) (j := zCC + i) (by omega) (by omega)
  rw [show zCC + i - zCC = i by omega, h] at h2
  exact Option.some.inj h2
theorem zWs_set {cy a : Nat → Nat} {M M' : ZM} {j : Nat} {e : va_E} (h : zCC ≤ j) (hN : j < zN M) (hN' : zN M' = zN M) (he : zE cy a M' j = e) (ho : ∀ x, x ≠ j → zE cy a M' x = zE cy a M x) : (zWs cy a M).set (j - zCC) (a j, e) = zWs cy a M' := by
  refine List.ext_getElem? (fun i => ?_)
  rw [List.getElem?_set]
  by_cases hi : i < zN M - zCC
  · have e1 := zWs_get (cy := cy) (a := a) (M := M) (j := zCC + i) (by omega) (by omega)
    have e2 := zWs_get (cy := cy) (a := a) (M := M') (j := zCC + i) (by omega) (by omega)
    rw [show zCC + i - zCC = i by omega] at e1 e2
    rw [e2]
    by_cases hj : j - zCC = i
    · rw [if_pos hj, if_pos (by rw [zWs_len]; omega)]
      have : zCC + i = j := by omega
      rw [this, he]
    · rw [if_neg hj, e1, ho _ (by omega)]
  · have e1 : (zWs cy a M)[i]? = none := List.getElem?_eq_none (by rw [zWs_len]; omega)
    have e2 : (zWs cy a M')[i]? = none := List.getElem?_eq_none (by rw [zWs_len]; omega)
    rw [if_neg (by omega), e1, e2]
theorem zWs_push {cy cy' a a' : Nat → Nat} {M M' : ZM} {q : Nat} {e : va_E} (h : zCC ≤ zN M) (hN' : zN M' = zN M + 1) (hq : a' (zN M) = q) (he : zE cy' a' M' (zN M) = e) (ho : ∀ x, x < zN M → a' x = a x ∧ zE cy' a' M' x = zE cy a M x) : zWs cy a M ++ [(q, e)] = zWs cy' a' M' := by
  refine List.ext_getElem? (fun i => ?_)
  by_cases hi : i < zN M - zCC
  · have e1 := zWs_get (cy := cy) (a := a) (M := M) (j := zCC + i) (by omega) (by omega)
    have e2 := zWs_get (cy := cy') (a := a') (M := M') (j := zCC + i) (by omega) (by omega)
    rw [show zCC + i - zCC = i by omega] at e1 e2
    rw [List.getElem?_append_left (by rw [zWs_len]; exact hi), e1, e2, (ho (zCC + i) (by omega)).1, (ho (zCC + i) (by omega)).2]
  · rw [List.getElem?_append_right (by rw [zWs_len]; omega), zWs_len]
    by_cases hj : i = zN M - zCC
    · subst hj
      have e2 := zWs_get (cy := cy') (a := a') (M := M') (j := zN M) h (by omega)
      rw [e2, hq, he]
      simp
    · rw [List.getElem?_eq_none (by simp; omega), List.getElem?_eq_none (by rw [zWs_len]; omega)]
/-- what a cell holds doesn't speak of addresses beyond -/
def zcl0 (M : ZM) : Prop := ∀ (j k x : Nat), j < zN M → zR M j k = some x → x < zN M
/-- the numbers in the cells are numbers of their kind; arrays are no longer than arrays can be -/
def zrgM (M : ZM) : Prop := ∀ j, zLn M j < 2147483648 ∧ ∀ k, (zK M j = 23 → zrl (zI M j k)) ∧ (zK M j ≠ 23 → zK M j ≠ 24 → zrg (zI M j k))
def zcl (M : ZM) : Prop := zcl0 M ∧ zrgM M
theorem zmap_up {n : Nat} {a a' : Nat → Nat} (ha : ∀ j, j < n → a' j = a j) {r : Option Nat} (h : ∀ x, r = some x → x < n) : r.map a' = r.map a := by
  cases r with
  | none => rfl
  | some x => show some (a' x) = some (a x); rw [ha x (h x rfl)]
theorem zE_up {cy cy' a a' : Nat → Nat} {M : ZM} (hc : zcl M) (ha : ∀ j, j < zN M → a' j = a j) (hcy : ∀ j, j < zN M → cy' j = cy j) {j : Nat} (hj : j < zN M) : zE cy' a' M j = zE cy a M j := by
  have key : ∀ k, (zR M j k).map a' = (zR M j k).map a := fun k => zmap_up ha (fun x hx => hc.1 j k x hj hx)
  have e1 : zfs a' M j = zfs a M j := by
    refine List.map_congr_left (fun k _ => ?_)
    rw [key k]
  have e2 : zar a' M j = zar a M j := by
    unfold zar
    have : (fun k => (zR M j k).map a') = (fun k => (zR M j k).map a) := funext key
    rw [this]
  unfold zE
  rw [e1, e2, hcy j hj]
/-- M' holds what M holds at j -/
def zeq (M M' : ZM) (j : Nat) : Prop := zK M' j = zK M j ∧ zLn M' j = zLn M j ∧ zI M' j = zI M j ∧ zR M' j = zR M j
theorem zE_eq {cy a : Nat → Nat} {M M' : ZM} {j : Nat} (h : zeq M M' j) : zE cy a M' j = zE cy a M j := by
  obtain ⟨h1, h2, h3, h4⟩ := h
  unfold zE zfs zar
  rw [h1, h2, h3, h4]
def zro (M M' : ZM) : Prop := ∀ j, j < zCC → zeq M M' j
def zEx (a0 : Nat → Nat) (M0 : ZM) (a : Nat → Nat) (M : ZM) : Prop := zN M0 ≤ zN M ∧ (∀ j, j < zN M0 → a j = a0 j) ∧ zro M0 M
theorem zEx.rf {a : Nat → Nat} {M : ZM} : zEx a M a M := ⟨Nat.le_refl _, fun _ _ => rfl, fun _ _ => ⟨rfl, rfl, rfl, rfl⟩⟩
theorem zEx.trans {a0 a1 a2 : Nat → Nat} {M0 M1 M2 : ZM} (h1 : zEx a0 M0 a1 M1) (h2 : zEx a1 M1 a2 M2) : zEx a0 M0 a2 M2 :=
  ⟨Nat.le_trans h1.1 h2.1, fun j hj => (h2.2.1 j (Nat.lt_of_lt_of_le hj h1.1)).trans (h1.2.1 j hj), fun j hj =>
    let ⟨p1, p2, p3, p4⟩ := h1.2.2 j hj
    let ⟨q1, q2, q3, q4⟩ := h2.2.2 j hj
    ⟨q1.trans p1, q2.trans p2, q3.trans p3, q4.trans p4⟩⟩
/-- what the arrays' classes are -/
def zT (U : State) (cy : Nat → Nat) (M : ZM) : Prop := ∀ j, zCC ≤ j → j < zN M → 20 ≤ zK M j → ArrOfT U (cy j) (ztyK (zK M j)) ∧ va_RA U (cy j) (ztyK (zK M j))
theorem zT.moved {u U : State} {cy : Nat → Nat} {M : ZM} (hvm : u.vm.Alike U.vm) (h : zT u cy M) : zT U cy M := fun j h1 h2 h3 => ⟨arrOfT_moved hvm (h j h1 h2 h3).1, (h j h1 h2 h3).2.moved hvm⟩
def zOK (D : va_G) (cy a : Nat → Nat) (M : ZM) (A : Nat → Prop) (U : State) (H : Heap) : Prop := zcl M ∧ zCC ≤ zN M ∧ zT U cy M ∧ va_P D vwCl (zWs cy a M) H ∧ va_D A (zWs cy a M)
theorem zOK.k {D : va_G} {cy a : Nat → Nat} {M : ZM} {A : Nat → Prop} {U : State} {H : Heap} (h : zOK D cy a M A U H) (hK : va_K D vwCl [] U) {j : Nat} (h1 : zCC ≤ j) (h2 : j < zN M) (h3 : 20 ≤ zK M j) : va_K D vwCl [(cy j, ztyK (zK M j))] U :=
  ⟨hK.1, fun k q hk => by
    have : k = 0 := by have := (List.getElem?_eq_some_iff.mp hk).1; simp at this; exact this
    subst this
    cases hk
    exact h.2.2.1 j h1 h2 h3⟩
/-- which cells a method may write -/
def zA (a : Nat → Nat) (M : ZM) (sz : Nat) : Nat → Prop := fun q => (∃ j, zCC ≤ j ∧ j < zN M ∧ q = a j) ∨ sz ≤ q
theorem zD_self {cy a : Nat → Nat} {M : ZM} {B : Nat → Prop} {sz : Nat} (h : va_D B (zWs cy a M)) : va_D (zA a M sz) (zWs cy a M) := ⟨h.1, fun k q hk => by
  obtain ⟨h1, rfl⟩ := zWs_at hk
  exact Or.inl ⟨zCC + k, by omega, h1, rfl⟩⟩
theorem zA_sub {cy a : Nat → Nat} {M : ZM} {A : Nat → Prop} {H0 H : Heap} {locs : List Loc} (hD : va_D A (zWs cy a M)) (hS : va_S A H0 H locs) (hA : ∀ q, H0.size ≤ q → A q) : ∀ q, zA a M H.size q → A q := by
  intro q h
  rcases h with ⟨j, h1, h2, rfl⟩ | h
  · exact hD.2 (j - zCC) _ (zWs_get h1 h2)
  · exact hA q (Nat.le_trans hS.1 h)
-- constants: statics, texts
def zCF0 (a : Nat → Nat) (M : ZM) (A : Nat → Prop) (U : State) (H : Heap) : Prop :=
  (∀ j, j < zCC → zK M j = 0 → va_O "java/lang/String" (a j) A U H ∧ va_OF "java/lang/String" "value" "[B" (va_rf ((zR M j 0).map a)) (a j) A U H ∧ va_OF "java/lang/String" "coder" "B" (.int (Int32.ofInt (zI M j 1))) (a j) A U H) ∧
  (∀ j, j < zCC → zK M j = 40 → va_OF "ReviewTable$Keyword" "text" "Ljava/lang/String;" (va_rf ((zR M j 0).map a)) (a j) A U H) ∧
  (∀ j, j < zCC → zK M j = 20 → va_T .int (a j) (zLn M j) (fun k => .int (Int32.ofInt (zI M j k))) A U H) ∧
  (∀ j, j < zCC → zK M j = 21 → va_T .byte (a j) (zLn M j) (fun k => .int (Int32.ofInt (zI M j k))) A U H) ∧
  (∀ j, j < zCC → zK M j = 33 → va_T (.object "ReviewTable$Keyword") (a j) (zLn M j) (fun k => va_rf ((zR M j k).map a)) A U H)
theorem zCF0.to {a : Nat → Nat} {M : ZM} {A B : Nat → Prop} {u U : State} {H H1 : Heap} (h : zCF0 a M A u H) (hvm : u.vm.Alike U.vm) (hk : ∀ x : Nat, x < H.size → ¬ A x → H1[x]? = H[x]?) (hAB : ∀ q, B q → A q) : zCF0 a M B U H1 := by
  obtain ⟨h1, h2, h3, h4, h5⟩ := h
  refine ⟨fun j hj e => ⟨?_, ?_, ?_⟩, fun j hj e => ?_, fun j hj e => ?_, fun j hj e => ?_, fun j hj e => ?_⟩
  · exact (((h1 j hj e).1.kept hk).moved hvm).narrow hAB
  · exact (((h1 j hj e).2.1.kept hk).moved hvm).narrow hAB
  · exact (((h1 j hj e).2.2.kept hk).moved hvm).narrow hAB
  · exact (((h2 j hj e).kept hk).moved hvm).narrow hAB
  · exact (((h3 j hj e).kept hk).moved hvm).narrow hAB
  · exact (((h4 j hj e).kept hk).moved hvm).narrow hAB
  · exact (((h5 j hj e).kept hk).moved hvm).narrow hAB
theorem zCF0.congr {a0 a : Nat → Nat} {M0 M : ZM} {A : Nat → Prop} {U : State} {H : Heap} (h : zCF0 a0 M0 A U H) (hx : zEx a0 M0 a M) (hc : zcl M0) (hN : zCC ≤ zN M0) : zCF0 a M A U H := by
  obtain ⟨h1, h2, h3, h4, h5⟩ := h
  obtain ⟨x1, x2, x3⟩ := hx
  have ea : ∀ j, j < zCC → a j = a0 j := fun j hj => x2 j (by omega)
  have er : ∀ j k, j < zCC → (zR M j k).map a = (zR M0 j k).map a0 := fun j k hj => by
    rw [(x3 j hj).2.2.2]
    exact zmap_up x2 (fun x hx => hc.1 j k x (by omega) hx)
  refine ⟨fun j hj e => ?_, fun j hj e => ?_, fun j hj e => ?_, fun j hj e => ?_, fun j hj e => ?_⟩
  · rw [ea j hj, er j 0 hj, (x3 j hj).2.2.1]
    exact h1 j hj ((x3 j hj).1.symm.trans e)
  · rw [ea j hj, er j 0 hj]
    exact h2 j hj ((x3 j hj).1.symm.trans e)
  · rw [ea j hj, (x3 j hj).2.2.1, (x3 j hj).2.1]
    exact h3 j hj ((x3 j hj).1.symm.trans e)
  · rw [ea j hj, (x3 j hj).2.2.1, (x3 j hj).2.1]
    exact h4 j hj ((x3 j hj).1.symm.trans e)
  · rw [ea j hj, (x3 j hj).2.1, show (fun k => va_rf ((zR M j k).map a)) = (fun k => va_rf ((zR M0 j k).map a0)) from funext (fun k => by rw [er j k hj])]
    exact h5 j hj ((x3 j hj).1.symm.trans e)
-- ZST, ZLS, ZCS stand ahead (printed for this class): the statics, the texts, the castable pairs
def zCF (a : Nat → Nat) (M : ZM) (A : Nat → Prop) (U : State) (H : Heap) : Prop :=
  zCF0 a M A U H ∧ (∀ q ∈ zST, va_Z q.1 q.2.1 q.2.2.1 (ztr a q.2.2.2) A U H) ∧ vx_Zq Bundle.tN "UNASSIGNED_STACK" Bundle.steD A U H ∧ vx_Zq Bundle.tN "SUPPRESSED_SENTINEL" Bundle.listD A U H ∧
  (∀ q ∈ zLS, ∃ d, vk_R q.1 q.2.1 q.2.2.1 d U ∧ ∀ j, q.2.2.2 = some j → d = a j) ∧ (∀ w ∈ zXW, va_Nw w U) ∧ (∃ r : Option Nat, (r = none ∨ r = some 61) ∧ va_Z "jdk/internal/util/Preconditions" "SIOOBE_FORMATTER" "Ljava/util/function/BiFunction;" (va_rf (r.map a)) A U H)
theorem zST_lv0 : ∀ q ∈ zST, (match q.2.2.2 with | .inr (.inl (some x)) => decide (x < zCC) | _ => true) = true := by decide +kernel
theorem zST_lv : ∀ q ∈ zST, ∀ x, q.2.2.2 = zo x → x < zCC := by
  intro q hq x hx
  have h := zST_lv0 q hq
  rw [hx] at h
  exact of_decide_eq_true h
theorem zST_rg : ∀ q ∈ zST, zlv zCC q.2.2.2 := by
  intro q hq
  simp only [zST, List.mem_cons, List.not_mem_nil, or_false] at hq
  rcases hq with rfl | rfl | rfl | rfl | rfl | rfl | rfl | rfl | rfl | rfl | rfl | rfl | rfl | rfl | rfl
  all_goals first | exact zlv_o (by decide) | exact zlv_i _ _ (by decide)
theorem zLS_lv : ∀ q ∈ zLS, ∀ j, q.2.2.2 = some j → j < zCC := by decide +kernel
theorem zCF.to {a : Nat → Nat} {M : ZM} {A B : Nat → Prop} {u U : State} {H H1 : Heap} (h : zCF a M A u H) (hvm : u.vm.Alike U.vm) (hR : ∀ own k tx d, vk_R own k tx d u → vk_R own k tx d U) (hC : ∀ w ∈ zXW, va_Nw w u → va_Nw w U) (hk : ∀ x : Nat, x < H.size → ¬ A x → H1[x]? = H[x]?) (hAB : ∀ q, B q → A q) : zCF a M B U H1 := by
  obtain ⟨h0, h1, h2, h3, h4, h5, r, hr, h6⟩ := h
  refine ⟨h0.to hvm hk hAB, fun q hq => (((h1 q hq).kept hk).moved hvm).narrow hAB, ((h2.kept hk).moved hvm).narrow hAB, ((h3.kept hk).moved hvm).narrow hAB, fun q hq => ?_, fun w hw => hC w hw (h5 w hw), r, hr, ((h6.kept hk).moved hvm).narrow hAB⟩
  obtain ⟨d, d1, d2⟩ := h4 q hq
  exact ⟨d, hR _ _ _ _ d1, d2⟩
theorem zXW_kinds : ∀ w ∈ zXW, (∃ C T, w = .castable C T) ∨ (∃ x, w = .declares x) ∨ (∃ a i x h, w = .methodLinkNest a i x h) ∨ (∃ C, w = .arrayOver (.object C)) := by
  intro w hw
  simp only [zXW, List.mem_cons, List.not_mem_nil, or_false] at hw
  rcases hw with rfl | rfl | rfl | rfl | rfl | rfl | rfl | rfl | rfl | rfl | rfl | rfl | rfl | rfl | rfl | rfl
  all_goals first | exact Or.inl ⟨_, _, rfl⟩ | exact Or.inr (Or.inl ⟨_, rfl⟩) | exact Or.inr (Or.inr (Or.inl ⟨_, _, _, _, rfl⟩)) | exact Or.inr (Or.inr (Or.inr ⟨_, rfl⟩))
theorem zXW_warm {u U : State} (hW : u.WarmedH U.vm) : ∀ w ∈ zXW, va_Nw w u → va_Nw w U := by
  intro w hw h
  rcases zXW_kinds w hw with ⟨C, T, rfl⟩ | ⟨x, rfl⟩ | ⟨a, i, x, h9, rfl⟩ | ⟨C, rfl⟩
  · exact va_Nw.warmC hW h
  · exact va_Nw.warmD hW h
  · exact va_Nw.warmM hW h
  · exact va_AO.moved (u := u) (U := U) hW.alike h
theorem zCF.congr {a0 a : Nat → Nat} {M0 M : ZM} {A : Nat → Prop} {U : State} {H : Heap} (h : zCF a0 M0 A U H) (hx : zEx a0 M0 a M) (hc : zcl M0) (hN : zCC ≤ zN M0) : zCF a M A U H := by
  obtain ⟨h0, h1, h2, h3, h4, h5, r, hr, h6⟩ := h
  refine ⟨h0.congr hx hc hN, fun q hq => ?_, h2, h3, fun q hq => ?_, h5, r, hr, ?_⟩
  · rw [ztr_up (n := zN M0) hx.2.1 ((zST_rg q hq).up hN)]
    exact h1 q hq
  · obtain ⟨d, d1, d2⟩ := h4 q hq
    exact ⟨d, d1, fun j hj => (d2 j hj).trans (hx.2.1 j (Nat.lt_of_lt_of_le (zLS_lv q hq j hj) hN)).symm⟩
  · rw [zmap_up hx.2.1 (fun x e => Nat.lt_of_lt_of_le (show x < zCC by rcases hr with rfl | rfl <;> cases e; decide) hN)]
    exact h6
/-- the exceptions that methods throw, by number -/
def zXs : List String := ["java/lang/IndexOutOfBoundsException", "java/lang/IllegalArgumentException", "java/lang/IllegalStateException", "java/util/NoSuchElementException"]
abbrev ZPhi : Type := Nat → List (Option ZV) → List ZV → ZM → Nat → Nat → Prop
abbrev ZRet : Type := Option ZV → ZM → Prop
abbrev ZEx : Type := Nat → ZM → Prop
/-- an instruction: what must hold ahead of it, for what shall hold behind it -/
abbrev ZTr : Type := ZPhi → ZRet → ZEx → Nat → Nat → List (Option ZV) → List ZV → ZM → Nat → Nat → Prop
/-- a method: what must hold at its call -/
abbrev ZTf : Type := List ZV → ZM → ZRet → ZEx → Prop
def zFetch : List (Nat × ZTr) → Nat → ZTr
  | [], _ => fun _ _ _ _ _ _ _ _ _ _ => False
  | (q, t) :: r, pc => cond (Nat.beq q pc) t (zFetch r pc)
def zClosed (code : List (Nat × ZTr)) (K : ZRet) (KX : ZEx) (mc ms : Nat) (Φ : ZPhi) : Prop :=
  (∀ Ψ : ZPhi, (∀ pc L st M k n, Ψ pc L st M k n → Φ pc L st M k n) → ∀ pc L st M k n, zFetch code pc Ψ K KX mc ms L st M k n → Φ pc L st M k n) ∧
  (∀ pc L st M k n, (zrgL L → zrgA st → zrgM M → k ≤ mc → n ≤ ms → Φ pc L st M k n) → Φ pc L st M k n) ∧
  ∀ pc L (i : Nat) st M k n, Φ pc (L.set i none) st M k n → Φ pc L st M k n
/-- go on till one of the places 'stops' -/
def zRun (code : List (Nat × ZTr)) (K : ZRet) (KX : ZEx) (mc ms : Nat) (stops : List Nat) (Φ : ZPhi) : Nat → ZPhi
  | 0 => Φ
  | f + 1 => fun pc => cond (stops.elem pc) (Φ pc) (zFetch code pc (zRun code K KX mc ms stops Φ f) K KX mc ms)
theorem zRun_ok {code : List (Nat × ZTr)} {K : ZRet} {KX : ZEx} {mc ms : Nat} {Φ : ZPhi} (h : zClosed code K KX mc ms Φ) (stops : List Nat) : ∀ (f : Nat) pc L st M k n, zRun code K KX mc ms stops Φ f pc L st M k n → Φ pc L st M k n
  | 0, _, _, _, _, _, _, q => q
  | f + 1, pc, L, st, M, k, n, q => by
    have ih := zRun_ok h stops f
    rw [zRun] at q
    cases he : stops.elem pc with
    | true => rw [he] at q; exact q
    | false => rw [he] at q; exact h.1 _ ih pc L st M k n q
/-- from a place on: one step, then on till a stop -/
theorem zGo {code : List (Nat × ZTr)} {K : ZRet} {KX : ZEx} {mc ms : Nat} {Φ : ZPhi} (h : zClosed code K KX mc ms Φ) (stops : List Nat) (f : Nat) {pc : Nat} {L : List (Option ZV)} {st : List ZV} {M : ZM} {k n : Nat} (q : zFetch code pc (zRun code K KX mc ms stops Φ f) K KX mc ms L st M k n) : Φ pc L st M k n := h.1 _ (zRun_ok h stops f) pc L st M k n q
/-- .. with what is known of the numbers -/
theorem zGoR {code : List (Nat × ZTr)} {K : ZRet} {KX : ZEx} {mc ms : Nat} {Φ : ZPhi} (h : zClosed code K KX mc ms Φ) (stops : List Nat) (f : Nat) {pc : Nat} {L : List (Option ZV)} {st : List ZV} {M : ZM} {k n : Nat} (q : zrgL L → zrgA st → zrgM M → k ≤ mc → n ≤ ms → zFetch code pc (zRun code K KX mc ms stops Φ f) K KX mc ms L st M k n) : Φ pc L st M k n := h.2.1 _ _ _ _ _ _ (fun a b c d e => zGo h stops f (q a b c d e))
/-- a local forgotten -/
theorem zFg {code : List (Nat × ZTr)} {K : ZRet} {KX : ZEx} {mc ms : Nat} {Φ : ZPhi} (h : zClosed code K KX mc ms Φ) (i : Nat) {pc : Nat} {L : List (Option ZV)} {st : List ZV} {M : ZM} {k n : Nat} (q : Φ pc (L.set i none) st M k n) : Φ pc L st M k n := h.2.2 _ _ i _ _ _ _ q
def zQc (D : va_G) (a0 : Nat → Nat) (M0 : ZM) (A : Nat → Prop) (K : ZRet) : Array Value → State → Outcome → State → Prop := fun _ st oc t =>
  ∃ (r : Option ZV) (a cy : Nat → Nat) (M : ZM), oc = .returned (r.map (ztr a)) ∧ K r M ∧ zEx a0 M0 a M ∧ (∀ v, r = some v → zlv (zN M) v) ∧ zOK D cy a M A t t.heap ∧ va_F A st t
def zXC (D : va_G) (a0 : Nat → Nat) (M0 : ZM) (A : Nat → Prop) (KX : ZEx) : String → State → State → Prop := fun E st t =>
  ∃ (k : Nat) (a cy : Nat → Nat) (M : ZM), zXs[k]? = some E ∧ KX k M ∧ zEx a0 M0 a M ∧ zOK D cy a M A t t.heap ∧ va_F A st t
def zPc (D : va_G) (a : Nat → Nat) (M : ZM) (av : List ZV) (sz : Nat) : Array Value → State → Prop := fun v U =>
  v = (av.map (ztr a)).toArray ∧ U.heap.size = sz ∧ zlvS (zN M) av ∧ va_K D vwCl [] U ∧ (∃ cy, zOK D cy a M (fun _ => True) U U.heap) ∧ zCF a M (zA a M sz) U U.heap
/-- a method's contract -/
def zMet (l : Launch) (y : MethodName) (ws : List Cond) (rm : Room) (mc ms : Nat) (T : ZTf) : Prop :=
  ∀ (D : va_G) (a : Nat → Nat) (M : ZM) (av : List ZV) (K : ZRet) (KX : ZEx), T av M K KX → ∀ sz, vx_Met l y ws rm (zPc D a M av sz) (zQc D a M (zA a M sz) K) (zXC D a M (zA a M sz) KX) mc ms (zA a M sz)
theorem zPc_blind {D : va_G} {a : Nat → Nat} {M : ZM} {av : List ZV} {sz : Nat} : FrameBlind (zPc D a M av sz) := by
  intro v U g mk h
  obtain ⟨h1, h2, h3, h4, ⟨cy, h5⟩, h6⟩ := h
  have hv : U.vm.Alike (U.calling g mk v).vm := Vm.Alike.refl U.vm
  refine ⟨h1, h2, h3, va_K.moved hv h4, ⟨cy, h5.1, h5.2.1, h5.2.2.1.moved hv, h5.2.2.2.1, h5.2.2.2.2⟩, ?_⟩
  exact h6.to hv (fun _ _ _ _ q => vk_R.same (u := U) rfl q) (zXW_warm (U := U.calling g mk v) (show U.WarmedH (U.calling g mk v).vm from State.WarmedH.refl U)) (fun _ _ _ => rfl) (fun _ q => q)
