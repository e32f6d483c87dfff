def ltr (l : List Int) : Prop := ∀ c, c ∈ l → 97 ≤ c ∧ c ≤ 122
theorem nmv_app (l : List Int) (c : Int) : nmv (l ++ [c]) = 27 * nmv l + (c - 96) := by
  unfold nmv
  rw [List.foldl_append]
  rfl
theorem ltr_app {l : List Int} {c : Int} (h : ltr (l ++ [c])) : ltr l ∧ 97 ≤ c ∧ c ≤ 122 := ⟨fun x hx => h x (List.mem_append_left _ hx), h c (List.mem_append_right _ (List.mem_singleton.mpr rfl))⟩
theorem nmv_p : ∀ (n : Nat) (l : List Int), l.length = n → ltr l → 0 ≤ nmv l ∧ (l ≠ [] → 0 < nmv l) := by
  intro n
  induction n with
  | zero =>
    intro l hl _
    rw [List.length_eq_zero_iff.mp hl]
    exact ⟨Int.le_refl 0, fun h => absurd rfl h⟩
  | succ n ih =>
    intro l hl h
    rcases List.eq_nil_or_concat l with z | ⟨L, b, z⟩
    · rw [z] at hl; cases hl
    · subst z
      rw [List.concat_eq_append] at h hl ⊢
      have h1 := ltr_app h
      rw [List.length_append, List.length_singleton] at hl
      have h2 := ih L (by omega) h1.1
      rw [nmv_app]
      exact ⟨by omega, fun _ => by omega⟩
theorem nmv_inj : ∀ (n : Nat) (l m : List Int), l.length = n → ltr l → ltr m → nmv l = nmv m → l = m := by
  intro n
  induction n with
  | zero =>
    intro l m hl h1 h2 he
    have z := List.length_eq_zero_iff.mp hl
    subst z
    rcases List.eq_nil_or_concat m with q | ⟨L, b, q⟩
    · exact q.symm
    · have h3 := (nmv_p _ m rfl h2).2 (by rw [q, List.concat_eq_append]; exact List.append_ne_nil_of_right_ne_nil _ (List.cons_ne_nil _ _))
      rw [← he] at h3
      exact absurd h3 (by decide)
  | succ n ih =>
    intro l m hl h1 h2 he
    rcases List.eq_nil_or_concat l with z | ⟨L, b, z⟩
    · rw [z] at hl; cases hl
    · rw [List.concat_eq_append] at z
      subst z
      have a1 := ltr_app h1
      rw [List.length_append, List.length_singleton] at hl
      have hp := nmv_p _ L rfl a1.1
      rcases List.eq_nil_or_concat m with q | ⟨N, d, q⟩
      · rw [q, nmv_app] at he
        have h0 : nmv [] = 0 := rfl
        rw [h0] at he
        omega
      · rw [List.concat_eq_append] at q
        subst q
        have a2 := ltr_app h2
        have hq := nmv_p _ N rfl a2.1
        rw [nmv_app, nmv_app] at he
        have e1 : nmv L = nmv N := by omega
        have e2 : b = d := by omega
        rw [ih L N (by omega) a1.1 a2.1 e1, e2]
