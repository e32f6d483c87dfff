/-! load's text: tokens -/
def AtB (B : Gm) (n p : Int) (l : List Int) : Prop := 0 ≤ p ∧ p + (l.length : Int) = n ∧ ∀ k : Nat, k < l.length → B (p.toNat + k) = l.getD k 0
def kdc (c : Int) : Int := if 97 ≤ c ∧ c ≤ 122 then 0 else if 48 ≤ c ∧ c ≤ 57 then 1 else 2
theorem AtB.hd {B : Gm} {n p c : Int} {l : List Int} (h : AtB B n p (c :: l)) : B p.toNat = c ∧ p < n := by
  have h2 := h.2.2 0 (by simp)
  have h3 := h.2.1
  simp only [List.length_cons] at h3
  exact ⟨h2, by omega⟩
theorem AtB.dr {B : Gm} {n p : Int} {w l : List Int} (h : AtB B n p (w ++ l)) : AtB B n (p + (w.length : Int)) l := by
  obtain ⟨h1, h2, h3⟩ := h
  refine ⟨by omega, by rw [List.length_append] at h2; omega, fun k hk => ?_⟩
  have h4 := h3 (w.length + k) (by rw [List.length_append]; omega)
  rw [show (p + (w.length : Int)).toNat + k = p.toNat + (w.length + k) by omega, h4, List.getD_eq_getElem?_getD, List.getD_eq_getElem?_getD, List.getElem?_append_right (by omega), Nat.add_sub_cancel_left]
theorem AtB.tl {B : Gm} {n p c : Int} {l : List Int} (h : AtB B n p (c :: l)) : AtB B n (p + 1) l := h.dr (w := [c])
theorem AtB.at {B : Gm} {n p : Int} {l : List Int} (h : AtB B n p l) {q : Int} (h0 : p ≤ q) (h1 : q < n) : B q.toNat = l.getD (q - p).toNat 0 := by
  have h9 := h.2.2 (q - p).toNat (by have := h.2.1; omega)
  rw [← h9, show p.toNat + (q - p).toNat = q.toNat by have := h.1; omega]
theorem tkK_at {B : Gm} {n p c : Int} {l : List Int} (h : AtB B n p (c :: l)) : tkK B n p = kdc c := by
  obtain ⟨h1, h2⟩ := h.hd
  unfold tkK kdc
  rw [if_neg (by omega), h1]
theorem fsI_at {p : Int → Bool} {n i j : Int} (h0 : i ≤ j) (h1 : j < n) (hm : ∀ k, i ≤ k → k < j → p k = false) (hj : p j = true) : fsI p n i = j := by
  have h9 := fsI_r (p := p) (n := n) _ i rfl
  by_cases z : fsI p n i < j
  · have h8 := h9.2.2.2 (by omega)
    rw [hm _ h9.1 z] at h8
    exact absurd h8 (by decide)
  · by_cases y : j < fsI p n i
    · have h8 := h9.2.2.1 j h0 y
      rw [hj] at h8
      exact absurd h8 (by decide)
    · omega
theorem tkE_at {B : Gm} {n p x c κ : Int} {w l : List Int} (h : AtB B n p (x :: w ++ c :: l)) (hκ : κ ≠ 2) (hw : ∀ y, y ∈ x :: w → kdc y = κ) (hc : kdc c ≠ κ) : tkE B n p = p + ((x :: w).length : Int) := by
  have hk : ∀ q, p ≤ q → q < p + ((x :: w).length : Int) → tkK B n q = κ := fun q q0 q1 => by
    have hq : q < n := by have := h.2.1; rw [List.length_append] at this; omega
    have e := h.at q0 hq
    have hl : (q - p).toNat < (x :: w).length := by omega
    rw [List.getD_eq_getElem?_getD, List.getElem?_append_left hl, List.getElem?_eq_getElem hl] at e
    have hm := hw _ (List.getElem_mem hl)
    unfold tkK
    rw [if_neg (by omega), e]
    exact hm
  have hd := h.dr
  have hkc := tkK_at hd
  have h0 : tkK B n p = κ := hk p (Int.le_refl _) (by simp only [List.length_cons]; omega)
  unfold tkE
  rw [if_neg (by rw [h0]; exact hκ)]
  refine fsI_at (by omega) hd.hd.2 (fun k k0 k1 => decide_eq_false (fun z => z ((hk k k0 k1).trans h0.symm))) (decide_eq_true (fun z => hc (hkc.symm.trans (z.trans h0))))
theorem tkS_0 {B : Gm} {n p c : Int} {l : List Int} (h : AtB B n p (c :: l)) (hc : c ≠ 32 ∧ c ≠ 10) : tkS B n p = p := fsI_h (decide_eq_true (by rw [h.hd.1]; exact hc))
theorem tkS_1 {B : Gm} {n p c : Int} {l : List Int} (h : AtB B n p (32 :: c :: l)) (hc : c ≠ 32 ∧ c ≠ 10) : tkS B n p = p + 1 := by
  refine (fsI_m h.hd.2 (decide_eq_false (by rw [h.hd.1]; exact fun z => z.1 rfl))).trans ?_
  exact tkS_0 h.tl hc
theorem tkS_e {B : Gm} {n p : Int} (h : AtB B n p []) : tkS B n p = p := fsI_e (by have := h.2.1; simp only [List.length_nil] at this; omega)
theorem isKw_at {B : Gm} {n p x c : Int} {w l : List Int} (h : AtB B n p (x :: w ++ c :: l)) (hw : ∀ y, y ∈ x :: w → kdc y = 0) (hc : kdc c ≠ 0) (v : List Int) : isKw B n p v = true ↔ v = x :: w := by
  have hE := tkE_at h (by decide) hw hc
  have hK : tkK B n p = 0 := (tkK_at (l := w ++ c :: l) h).trans (hw x (List.mem_cons_self))
  have hn := h.dr.hd.2
  have hB : ∀ k : Nat, k < (x :: w).length → B (p + (k : Int)).toNat = (x :: w).getD k 0 := fun k hk => by
    have e := h.at (q := p + (k : Int)) (by omega) (by omega)
    rw [e, show (p + (k : Int) - p).toNat = k by omega, List.getD_eq_getElem?_getD, List.getElem?_append_left hk, ← List.getD_eq_getElem?_getD]
  unfold isKw spl
  rw [hK, hE]
  simp only [decide_true, Bool.true_and, decide_eq_true_eq]
  constructor
  · rintro ⟨⟨h1, h2, h3⟩, h4⟩
    have hl : (x :: w).length = v.length := by omega
    refine (List.ext_getElem hl (fun k k1 k2 => ?_)).symm
    have a := hB k k1
    have b := h4 k k2
    rw [a, List.getD_eq_getElem?_getD, List.getElem?_eq_getElem k1, List.getD_eq_getElem?_getD, List.getElem?_eq_getElem k2] at b
    exact b
  · rintro rfl
    exact ⟨⟨h.1, by omega, by omega⟩, hB⟩
/-- a word and a blank: the next token -/
theorem eGo_w {B : Gm} {n p x c : Int} {w l : List Int} (h : AtB B n p (x :: w ++ 32 :: c :: l)) (hc : c ≠ 32 ∧ c ≠ 10) (hw : ∀ y, y ∈ x :: w → kdc y = 0) : eGo B n (0, -1, p) = (0, -1, p + ((x :: w).length : Int) + 1) ∧ AtB B n (p + ((x :: w).length : Int) + 1) (c :: l) := by
  have hE := tkE_at h (by decide) hw (by decide)
  refine ⟨?_, h.dr.tl⟩
  show (0, -1, tkS B n (tkE B n p)) = _
  rw [hE, tkS_1 h.dr hc]
theorem eKw_w {B : Gm} {n p x c : Int} {w l : List Int} (h : AtB B n p (x :: w ++ 32 :: c :: l)) (hc : c ≠ 32 ∧ c ≠ 10) (hw : ∀ y, y ∈ x :: w → kdc y = 0) : eKw B n (x :: w) (0, -1, p) = (0, -1, p + ((x :: w).length : Int) + 1) := by
  have hk : eIs B n (x :: w) (0, -1, p) = true := by
    unfold eIs
    rw [(isKw_at h hw (by decide) (x :: w)).mpr rfl]
    rfl
  unfold eKw
  rw [if_pos hk]
  exact (eGo_w h hc hw).1
/-- a semicolon -/
theorem eSemi_n {B : Gm} {n p c : Int} {l : List Int} (h : AtB B n p (59 :: c :: l)) (hc : c ≠ 32 ∧ c ≠ 10) : eSemi B n (0, -1, p) = (0, -1, p + 1) := by
  have hK : tkK B n p = 2 := tkK_at h
  unfold eSemi
  rw [if_neg (fun z => z.2 ⟨hK, h.hd.1⟩)]
  show (0, -1, tkS B n (tkE B n p)) = _
  unfold tkE
  rw [if_pos hK, tkS_0 h.tl hc]
theorem eSemi_e {B : Gm} {n p : Int} (h : AtB B n p [59]) : eSemi B n (0, -1, p) = (0, -1, p + 1) := by
  have hK : tkK B n p = 2 := tkK_at h
  unfold eSemi
  rw [if_neg (fun z => z.2 ⟨hK, h.hd.1⟩)]
  show (0, -1, tkS B n (tkE B n p)) = _
  unfold tkE
  rw [if_pos hK, tkS_e h.tl]
theorem dig_f : ∀ v : Fin 100, dig (v.val : Int) = if (v.val : Int) < 10 then [48 + (v.val : Int)] else [48 + (v.val : Int) / 10, 48 + (v.val : Int) % 10] := by decide +kernel
theorem dig_e {v : Int} (h : 0 ≤ v ∧ v < 100) : dig v = if v < 10 then [48 + v] else [48 + v / 10, 48 + v % 10] := by
  have h9 := dig_f ⟨v.toNat, by omega⟩
  rwa [show (((⟨v.toNat, by omega⟩ : Fin 100).val : Nat) : Int) = v by show ((v.toNat : Nat) : Int) = v; omega] at h9
theorem num_at {B : Gm} {n p v c : Int} {l : List Int} (hv : 0 ≤ v ∧ v < 100) (h : AtB B n p (dig v ++ c :: l)) (hc : kdc c ≠ 1) : tkK B n p = 1 ∧ tkE B n p = p + ((dig v).length : Int) ∧ tkV B p (tkE B n p) = v := by
  rw [dig_e hv] at h ⊢
  by_cases z : v < 10
  · rw [if_pos z] at h ⊢
    have hk : ∀ y, y ∈ [48 + v] → kdc y = 1 := fun y hy => by
      rw [List.mem_singleton.mp hy]
      unfold kdc
      rw [if_neg (by omega), if_pos (by omega)]
    have hE := tkE_at (w := []) h (by decide) hk hc
    refine ⟨(tkK_at h).trans (hk _ (List.mem_cons_self)), hE, ?_⟩
    rw [hE]
    show foldF _ 0 p (p + ((0 : Nat) + 1 : Nat)) = v
    rw [show p + (((0 : Nat) + 1 : Nat) : Int) = p + 1 by omega]
    unfold tkV at *
    rw [foldF_s (Int.le_refl _), foldF_0 (Int.le_refl _), h.hd.1]
    omega
  · rw [if_neg z] at h ⊢
    have hk : ∀ y, y ∈ [48 + v / 10, 48 + v % 10] → kdc y = 1 := fun y hy => by
      simp only [List.mem_cons, List.not_mem_nil, or_false] at hy
      unfold kdc
      rcases hy with e | e <;> rw [e, if_neg (by omega), if_pos (by omega)]
    have hE := tkE_at (w := [48 + v % 10]) h (by decide) hk hc
    refine ⟨(tkK_at h).trans (hk _ (List.mem_cons_self)), hE, ?_⟩
    rw [hE]
    show foldF (fun k a => 10 * a + B k.toNat - 48) 0 p (p + ((2 : Nat) : Int)) = v
    rw [show p + ((2 : Nat) : Int) = (p + 1) + 1 by omega, foldF_s (by omega), foldF_s (Int.le_refl _), foldF_0 (Int.le_refl _), h.hd.1, h.tl.hd.1]
    omega
theorem eLook_at {B : Gm} {n p v c lo hi : Int} {l : List Int} (hv : 0 ≤ v ∧ v < 100) (h : AtB B n p (dig v ++ c :: l)) (hc : kdc c ≠ 1) (hlo : lo ≤ v ∧ v ≤ hi) : eLook B n lo hi (0, -1, p) = (0, -1, p) ∧ eVal B n lo hi (0, -1, p) = v := by
  obtain ⟨a1, a2, a3⟩ := num_at hv h hc
  have e : eLook B n lo hi (0, -1, p) = (0, -1, p) := by
    unfold eLook
    show (if tkK B n p = 1 then (if lo ≤ tkV B p (tkE B n p) ∧ tkV B p (tkE B n p) ≤ hi then ((0, -1, p) : E3) else eErr 2 (0, -1, p)) else eErr 1 (0, -1, p)) = _
    rw [if_pos a1, a3, if_pos hlo]
  refine ⟨e, ?_⟩
  unfold eVal
  rw [e, if_pos rfl]
  exact a3
theorem eNum_s {B : Gm} {n p v c lo hi : Int} {l : List Int} (hv : 0 ≤ v ∧ v < 100) (h : AtB B n p (dig v ++ 32 :: c :: l)) (hc : c ≠ 32 ∧ c ≠ 10) (hlo : lo ≤ v ∧ v ≤ hi) : eNum B n lo hi (0, -1, p) = (0, -1, p + ((dig v).length : Int) + 1) ∧ AtB B n (p + ((dig v).length : Int) + 1) (c :: l) := by
  obtain ⟨a1, a2, a3⟩ := num_at hv h (by decide)
  refine ⟨?_, h.dr.tl⟩
  unfold eNum
  rw [(eLook_at hv h (by decide) hlo).1]
  show (0, -1, tkS B n (tkE B n p)) = _
  rw [a2, tkS_1 h.dr hc]
theorem eNum_c {B : Gm} {n p v lo hi : Int} {l : List Int} (hv : 0 ≤ v ∧ v < 100) (h : AtB B n p (dig v ++ 59 :: l)) (hlo : lo ≤ v ∧ v ≤ hi) : eNum B n lo hi (0, -1, p) = (0, -1, p + ((dig v).length : Int)) ∧ AtB B n (p + ((dig v).length : Int)) (59 :: l) := by
  obtain ⟨a1, a2, a3⟩ := num_at hv h (by decide)
  refine ⟨?_, h.dr⟩
  unfold eNum
  rw [(eLook_at hv h (by decide) hlo).1]
  show (0, -1, tkS B n (tkE B n p)) = _
  rw [a2, tkS_0 h.dr (by decide)]
