/-! THE SMALL MACHINE: methods over numbered cells, ints as whole numbers; each instruction is a transformer; what the machine does follows it (zs_ rows). -/
abbrev ZV : Type := Int ⊕ Option Nat ⊕ Int ⊕ UInt32 ⊕ UInt64
abbrev zi (x : Int) : ZV := .inl x
abbrev zr (r : Option Nat) : ZV := .inr (.inl r)
abbrev zo (j : Nat) : ZV := .inr (.inl (some j))
abbrev zl (x : Int) : ZV := .inr (.inr (.inl x))
abbrev zf (w : UInt32) : ZV := .inr (.inr (.inr (.inl w)))
abbrev zd (w : UInt64) : ZV := .inr (.inr (.inr (.inr w)))
/-- the numbers that an int, a long can be -/
abbrev zrg (x : Int) : Prop := -2147483648 ≤ x ∧ x < 2147483648
abbrev zrl (x : Int) : Prop := -9223372036854775808 ≤ x ∧ x < 9223372036854775808
/-- the memory: how many cells; the kind, the length, the numbers, the references of each -/
abbrev ZM : Type := Nat × (Nat → Nat) × (Nat → Nat) × (Nat → Nat → Int) × (Nat → Nat → Option Nat)
abbrev zN (M : ZM) : Nat := M.1
abbrev zK (M : ZM) : Nat → Nat := M.2.1
abbrev zLn (M : ZM) : Nat → Nat := M.2.2.1
abbrev zI (M : ZM) : Nat → Nat → Int := M.2.2.2.1
abbrev zR (M : ZM) : Nat → Nat → Option Nat := M.2.2.2.2
def up1 {α : Type} (f : Nat → α) (j : Nat) (v : α) : Nat → α := fun x => if x = j then v else f x
def up2 {α : Type} (f : Nat → Nat → α) (j k : Nat) (v : α) : Nat → Nat → α := fun x y => if x = j ∧ y = k then v else f x y
theorem up1_s {α : Type} (f : Nat → α) (j : Nat) (v : α) : up1 f j v j = v := by simp [up1]
theorem up1_n {α : Type} (f : Nat → α) (j : Nat) (v : α) {x : Nat} (h : x ≠ j) : up1 f j v x = f x := by simp [up1, h]
theorem up2_s {α : Type} (f : Nat → Nat → α) (j k : Nat) (v : α) : up2 f j k v j k = v := by simp [up2]
theorem up2_n {α : Type} (f : Nat → Nat → α) (j k : Nat) (v : α) {x : Nat} (y : Nat) (h : x ≠ j) : up2 f j k v x y = f x y := by simp [up2, h]
theorem up2_m {α : Type} (f : Nat → Nat → α) (j k : Nat) (v : α) (x : Nat) {y : Nat} (h : y ≠ k) : up2 f j k v x y = f x y := by simp [up2, h]
abbrev zsI (M : ZM) (j k : Nat) (v : Int) : ZM := (M.1, M.2.1, M.2.2.1, up2 M.2.2.2.1 j k v, M.2.2.2.2)
abbrev zsR (M : ZM) (j k : Nat) (v : Option Nat) : ZM := (M.1, M.2.1, M.2.2.1, M.2.2.2.1, up2 M.2.2.2.2 j k v)
/-- a new cell of a kind, a length, its contents all 0 and null -/
abbrev zNw (M : ZM) (κ n : Nat) : ZM := (M.1 + 1, up1 M.2.1 M.1 κ, up1 M.2.2.1 M.1 n, up1 M.2.2.2.1 M.1 (fun _ => 0), up1 M.2.2.2.2 M.1 (fun _ => none))
/-- the first cells are constants -/
def zCC : Nat := 64
def zO (M : ZM) (j ci : Nat) : Prop := zK M j = ci ∧ j < zN M
def zW (M : ZM) (j ci : Nat) : Prop := zK M j = ci ∧ zCC ≤ j ∧ j < zN M
def ztr (a : Nat → Nat) : ZV → Value
  | .inl x => .int (Int32.ofInt x)
  | .inr (.inl r) => va_rf (r.map a)
  | .inr (.inr (.inl x)) => .long (Int64.ofInt x)
  | .inr (.inr (.inr (.inl w))) => .float w
  | .inr (.inr (.inr (.inr w))) => .double w
def zcat : ZV → Nat
  | .inl _ => 1
  | .inr (.inl _) => 1
  | .inr (.inr (.inl _)) => 2
  | .inr (.inr (.inr (.inl _))) => 1
  | .inr (.inr (.inr (.inr _))) => 2
theorem zcat_ok (a : Nat → Nat) (v : ZV) : (ztr a v).category = zcat v := by
  rcases v with x | r | x | w | w
  · rfl
  · cases r <;> rfl
  · rfl
  · rfl
  · rfl
theorem zcat_12 (v : ZV) : zcat v = 1 ∨ zcat v = 2 := by
  rcases v with x | r | x | w | w <;> simp [zcat]
def zlv (n : Nat) (v : ZV) : Prop := (∀ x, v = zo x → x < n) ∧ (∀ x, v = zi x → zrg x) ∧ ∀ x, v = zl x → zrl x
theorem zlv_i (n : Nat) (x : Int) (h : zrg x) : zlv n (zi x) := ⟨fun _ h => (by cases h), fun _ q => (by cases q; exact h), fun _ h => (by cases h)⟩
theorem zlv_l (n : Nat) (x : Int) (h : zrl x) : zlv n (zl x) := ⟨fun _ h => (by cases h), fun _ h => (by cases h), fun _ q => (by cases q; exact h)⟩
theorem zlv_f (n : Nat) (x : UInt32) : zlv n (zf x) := ⟨fun _ h => (by cases h), fun _ h => (by cases h), fun _ h => (by cases h)⟩
theorem zlv_d (n : Nat) (x : UInt64) : zlv n (zd x) := ⟨fun _ h => (by cases h), fun _ h => (by cases h), fun _ h => (by cases h)⟩
theorem zlv_o {n x : Nat} (h : x < n) : zlv n (zo x) := ⟨fun _ e => (by cases e; exact h), fun _ h => (by cases h), fun _ h => (by cases h)⟩
theorem zlv_r {n : Nat} {r : Option Nat} (h : ∀ x, r = some x → x < n) : zlv n (zr r) := ⟨fun x e => (by cases e; exact h x rfl), fun _ h => (by cases h), fun _ h => (by cases h)⟩
theorem zlv.up {n k : Nat} {v : ZV} (h : zlv n v) (hk : n ≤ k) : zlv k v := ⟨fun x e => Nat.lt_of_lt_of_le (h.1 x e) hk, h.2⟩
theorem zlv.rg {n : Nat} {x : Int} (h : zlv n (zi x)) : zrg x := h.2.1 x rfl
theorem zlv.rl {n : Nat} {x : Int} (h : zlv n (zl x)) : zrl x := h.2.2 x rfl
/-- what is known of the numbers among a method's answer, the locals -/
def zrgR : Option ZV → Prop
  | some (.inl x) => zrg x
  | _ => True
def zrgL : List (Option ZV) → Prop
  | [] => True
  | some (.inl x) :: r => zrg x ∧ zrgL r
  | _ :: r => zrgL r
def zrgA : List ZV → Prop
  | [] => True
  | .inl x :: r => zrg x ∧ zrgA r
  | _ :: r => zrgA r
theorem zrgR_of {n : Nat} {r : Option ZV} (h : ∀ v, r = some v → zlv n v) : zrgR r := by
  rcases r with _ | v
  · trivial
  · rcases v with x | v
    · exact (h _ rfl).rg
    · trivial
def zlvS (n : Nat) (st : List ZV) : Prop := ∀ v ∈ st, zlv n v
def zlvL (n : Nat) (L : List (Option ZV)) : Prop := ∀ v, some v ∈ L → zlv n v
theorem zlvS.cons {n : Nat} {v : ZV} {st : List ZV} (h : zlv n v) (hs : zlvS n st) : zlvS n (v :: st) := fun w hw => by
  rcases List.mem_cons.mp hw with rfl | q
  · exact h
  · exact hs w q
theorem zlvS.hd {n : Nat} {v : ZV} {st : List ZV} (h : zlvS n (v :: st)) : zlv n v := h v List.mem_cons_self
theorem zlvS.tl {n : Nat} {v : ZV} {st : List ZV} (h : zlvS n (v :: st)) : zlvS n st := fun w hw => h w (List.mem_cons_of_mem _ hw)
theorem zlvS.up {n k : Nat} {st : List ZV} (h : zlvS n st) (hk : n ≤ k) : zlvS k st := fun v hv => (h v hv).up hk
theorem zlvL.up {n k : Nat} {st : List (Option ZV)} (h : zlvL n st) (hk : n ≤ k) : zlvL k st := fun v hv => (h v hv).up hk
theorem zrgA_of {n : Nat} : ∀ {st : List ZV}, zlvS n st → zrgA st
  | [], _ => trivial
  | .inl _ :: _, h => ⟨(h _ List.mem_cons_self).rg, zrgA_of (fun v hv => h v (List.mem_cons_of_mem _ hv))⟩
  | .inr _ :: r, h => zrgA_of (st := r) (fun v hv => h v (List.mem_cons_of_mem _ hv))
theorem zrgL_of {n : Nat} : ∀ {L : List (Option ZV)}, zlvL n L → zrgL L
  | [], _ => trivial
  | some (.inl _) :: _, h => ⟨(h _ List.mem_cons_self).rg, zrgL_of (fun v hv => h v (List.mem_cons_of_mem _ hv))⟩
  | some (.inr _) :: r, h => zrgL_of (L := r) (fun v hv => h v (List.mem_cons_of_mem _ hv))
  | none :: r, h => zrgL_of (L := r) (fun v hv => h v (List.mem_cons_of_mem _ hv))
theorem zlvL.at {n i : Nat} {v : ZV} {L : List (Option ZV)} (h : zlvL n L) (hv : L[i]? = some (some v)) : zlv n v := h v (List.mem_of_getElem? hv)
theorem ztr_up {n : Nat} {a a' : Nat → Nat} (h : ∀ j, j < n → a' j = a j) {v : ZV} (hv : zlv n v) : ztr a' v = ztr a v := by
  rcases v with x | r | x | w | w
  · rfl
  · cases r with
    | none => rfl
    | some x => show va_rf (some (a' x)) = va_rf (some (a x)); rw [h x (hv.1 x rfl)]
  · rfl
  · rfl
  · rfl
theorem ztrS_up {n : Nat} {a a' : Nat → Nat} (h : ∀ j, j < n → a' j = a j) {st : List ZV} (hv : zlvS n st) : st.map (ztr a') = st.map (ztr a) :=
  List.map_congr_left (fun v hm => ztr_up h (hv v hm))
-- the locals
def zlr (a : Nat → Nat) (L : List (Option ZV)) (ls : Array Slot) : Prop := ls.size = L.length ∧ lv_wf ls ∧ ∀ (i : Nat) (v : ZV), L[i]? = some (some v) → ls[i]? = some (.val (ztr a v))
theorem zlr.up {n : Nat} {a a' : Nat → Nat} {L : List (Option ZV)} {ls : Array Slot} (h : zlr a L ls) (hL : zlvL n L) (ha : ∀ j, j < n → a' j = a j) : zlr a' L ls :=
  ⟨h.1, h.2.1, fun i v hv => by rw [ztr_up ha (hL.at hv)]; exact h.2.2 i v hv⟩
def zpr (a : Nat → Nat) (L : List (Option ZV)) : List (Nat × Value) := (List.range L.length).filterMap (fun i => match L[i]? with | some (some v) => some (i, ztr a v) | _ => none)
theorem zpr_mem {a : Nat → Nat} {L : List (Option ZV)} {q : Nat × Value} (h : q ∈ zpr a L) : ∃ v, L[q.1]? = some (some v) ∧ q.2 = ztr a v := by
  obtain ⟨i, -, hi⟩ := List.mem_filterMap.mp h
  split at hi
  · next v hv =>
    cases hi
    exact ⟨v, hv, rfl⟩
  · cases hi
theorem zpr_in {a : Nat → Nat} {L : List (Option ZV)} {i : Nat} {v : ZV} (h : L[i]? = some (some v)) : (i, ztr a v) ∈ zpr a L := by
  refine List.mem_filterMap.mpr ⟨i, List.mem_range.mpr (List.getElem?_eq_some_iff.mp h).1, ?_⟩
  rw [h]
theorem zlr.has {a : Nat → Nat} {L : List (Option ZV)} {ls : Array Slot} (h : zlr a L ls) : lv_has ls L.length (zpr a L) := ⟨h.1, h.2.1, fun q hq => by
  obtain ⟨v, h1, h2⟩ := zpr_mem hq
  rw [h2]
  exact h.2.2 q.1 v h1⟩
def zclr (L : List (Option ZV)) : Nat → List (Option ZV)
  | 0 => L
  | i + 1 => match L[i]? with
    | some (some w) => cond (Nat.beq (zcat w) 2) (L.set i none) L
    | _ => L
def zst1 (L : List (Option ZV)) (i : Nat) (v : ZV) : List (Option ZV) := (zclr L i).set i (some v)
def zst2 (L : List (Option ZV)) (i : Nat) (v : ZV) : List (Option ZV) := ((zclr L i).set i (some v)).set (i + 1) none
theorem zclr_len (L : List (Option ZV)) (i : Nat) : (zclr L i).length = L.length := by
  cases i with
  | zero => rfl
  | succ i =>
    simp only [zclr]
    split
    · cases Nat.beq _ 2 <;> simp
    · rfl
theorem zst1_len (L : List (Option ZV)) (i : Nat) (v : ZV) : (zst1 L i v).length = L.length := by simp [zst1, zclr_len]
theorem zst2_len (L : List (Option ZV)) (i : Nat) (v : ZV) : (zst2 L i v).length = L.length := by simp [zst2, zclr_len]
theorem zclr_at {L : List (Option ZV)} {i j : Nat} {w : ZV} (h : (zclr L i)[j]? = some (some w)) : L[j]? = some (some w) ∧ ¬ (j + 1 = i ∧ zcat w = 2) := by
  cases i with
  | zero => exact ⟨h, fun q => by omega⟩
  | succ i =>
    simp only [zclr] at h
    split at h
    · next u hu =>
      by_cases hc : zcat u = 2
      · rw [show Nat.beq (zcat u) 2 = true by rw [hc]; rfl] at h
        simp only [cond_true] at h
        by_cases hj : j = i
        · subst hj
          rw [List.getElem?_set_self (List.getElem?_eq_some_iff.mp hu).1] at h
          cases h
        · rw [List.getElem?_set_ne (Ne.symm hj)] at h
          exact ⟨h, fun q => hj (by omega)⟩
      · rw [show Nat.beq (zcat u) 2 = false by rcases zcat_12 u with q | q; (rw [q]; rfl); exact absurd q hc] at h
        simp only [cond_false] at h
        refine ⟨h, fun q => ?_⟩
        have : j = i := by omega
        subst this
        rw [hu] at h
        cases h
        exact hc q.2
    · next hn =>
      refine ⟨h, fun q => ?_⟩
      have : j = i := by omega
      subst this
      exact hn _ h
theorem zlr.st1 {a : Nat → Nat} {L : List (Option ZV)} {ls' : Array Slot} {i : Nat} {v : ZV} (hi : i < L.length)
    (h : lv_has ls' L.length ((i, ztr a v) :: (zpr a L).filter (fun q => !(q.1 == i) && !(q.1 + 1 == i && q.2.category == 2)))) : zlr a (zst1 L i v) ls' := by
  refine ⟨by rw [zst1_len]; exact h.1, h.2.1, fun j w hj => ?_⟩
  by_cases hji : j = i
  · subst hji
    rw [zst1, List.getElem?_set_self (by rw [zclr_len]; exact hi)] at hj
    cases hj
    exact h.2.2 (j, ztr a v) List.mem_cons_self
  · rw [zst1, List.getElem?_set_ne (Ne.symm hji)] at hj
    obtain ⟨h1, h2⟩ := zclr_at hj
    refine h.2.2 (j, ztr a w) (List.mem_cons_of_mem _ (List.mem_filter.mpr ⟨zpr_in h1, ?_⟩))
    have : (ztr a w).category = zcat w := zcat_ok a w
    simp only [this]
    by_cases h3 : j + 1 = i
    · have h4 : zcat w ≠ 2 := fun z => h2 ⟨h3, z⟩
      simp [hji, h4]
    · simp [hji, h3]
theorem zlr.st2 {a : Nat → Nat} {L : List (Option ZV)} {ls' : Array Slot} {i : Nat} {v : ZV} (hi : i + 1 < L.length)
    (h : lv_has ls' L.length ((i, ztr a v) :: (zpr a L).filter (fun q => !(q.1 == i) && (!(q.1 == i + 1) && !(q.1 + 1 == i && q.2.category == 2))))) : zlr a (zst2 L i v) ls' := by
  refine ⟨by rw [zst2_len]; exact h.1, h.2.1, fun j w hj => ?_⟩
  rw [zst2] at hj
  by_cases hj1 : j = i + 1
  · subst hj1
    rw [List.getElem?_set_self (by rw [List.length_set, zclr_len]; exact hi)] at hj
    cases hj
  rw [List.getElem?_set_ne (Ne.symm hj1)] at hj
  by_cases hji : j = i
  · subst hji
    rw [List.getElem?_set_self (by rw [zclr_len]; omega)] at hj
    cases hj
    exact h.2.2 (j, ztr a v) List.mem_cons_self
  · rw [List.getElem?_set_ne (Ne.symm hji)] at hj
    obtain ⟨h1, h2⟩ := zclr_at hj
    refine h.2.2 (j, ztr a w) (List.mem_cons_of_mem _ (List.mem_filter.mpr ⟨zpr_in h1, ?_⟩))
    have : (ztr a w).category = zcat w := zcat_ok a w
    simp only [this]
    by_cases h3 : j + 1 = i
    · have h4 : zcat w ≠ 2 := fun z => h2 ⟨h3, z⟩
      simp [hji, hj1, h4]
    · simp [hji, hj1, h3]
theorem zclr_sub {L : List (Option ZV)} {i : Nat} {v : ZV} (h : some v ∈ zclr L i) : some v ∈ L := by
  obtain ⟨j, hj⟩ := List.getElem?_of_mem h
  exact List.mem_of_getElem? (zclr_at hj).1
theorem zlvL.st1 {n : Nat} {L : List (Option ZV)} {i : Nat} {v : ZV} (h : zlvL n L) (hv : zlv n v) : zlvL n (zst1 L i v) := fun w hw => by
  rcases List.mem_or_eq_of_mem_set hw with q | q
  · exact h w (zclr_sub q)
  · cases q; exact hv
theorem zlvL.st2 {n : Nat} {L : List (Option ZV)} {i : Nat} {v : ZV} (h : zlvL n L) (hv : zlv n v) : zlvL n (zst2 L i v) := fun w hw => by
  rcases List.mem_or_eq_of_mem_set hw with q | q
  · rcases List.mem_or_eq_of_mem_set q with q | q
    · exact h w (zclr_sub q)
    · cases q; exact hv
  · cases q
