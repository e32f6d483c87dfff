/-- the first place from i on, ahead of n, where p holds; n without one -/
def fsF (p : Int → Bool) : Nat → Int → Int
  | 0, i => i
  | f + 1, i => if p i = true then i else fsF p f (i + 1)
def fsI (p : Int → Bool) (n i : Int) : Int := fsF p (n - i).toNat i
theorem fsI_s {p : Int → Bool} {n i : Int} (h : i < n) : fsI p n i = if p i = true then i else fsI p n (i + 1) := by
  unfold fsI
  rw [show (n - i).toNat = (n - (i + 1)).toNat + 1 by omega, fsF]
theorem fsI_e {p : Int → Bool} {n i : Int} (h : n ≤ i) : fsI p n i = i := by
  unfold fsI
  rw [show (n - i).toNat = 0 by omega, fsF]
theorem fsI_h {p : Int → Bool} {n i : Int} (h : p i = true) : fsI p n i = i := by
  by_cases q : i < n
  · rw [fsI_s q, if_pos h]
  · exact fsI_e (by omega)
theorem fsI_m {p : Int → Bool} {n i : Int} (q : i < n) (h : p i = false) : fsI p n i = fsI p n (i + 1) := by
  rw [fsI_s q, if_neg (by rw [h]; exact Bool.false_ne_true)]
theorem fsI_r {p : Int → Bool} {n : Int} : ∀ (f : Nat) (i : Int), (n - i).toNat = f → i ≤ fsI p n i ∧ (i ≤ n → fsI p n i ≤ n) ∧ (∀ k, i ≤ k → k < fsI p n i → p k = false) ∧ (fsI p n i < n → p (fsI p n i) = true) := by
  intro f
  induction f with
  | zero =>
    intro i hf
    rw [fsI_e (by omega)]
    exact ⟨Int.le_refl _, fun h => h, fun k h1 h2 => by omega, fun h => by omega⟩
  | succ f ih =>
    intro i hf
    by_cases q : p i = true
    · rw [fsI_h q]
      exact ⟨Int.le_refl _, fun h => h, fun k h1 h2 => by omega, fun _ => q⟩
    · rw [fsI_m (by omega) (Bool.eq_false_iff.mpr q)]
      obtain ⟨a1, a2, a3, a4⟩ := ih (i + 1) (by omega)
      refine ⟨by omega, fun _ => a2 (by omega), fun k h1 h2 => ?_, a4⟩
      by_cases e : k = i
      · rw [e]; exact Bool.eq_false_iff.mpr q
      · exact a3 k (by omega) h2
def tkS (B : Gm) (n i : Int) : Int := fsI (fun k => decide (B k.toNat ≠ 32 ∧ B k.toNat ≠ 10)) n i
/-- the kind: 0 a word, 1 a number, 2 a symbol, 3 the end -/
def tkK (B : Gm) (n p : Int) : Int := if n ≤ p then 3 else if 97 ≤ B p.toNat ∧ B p.toNat ≤ 122 then 0 else if 48 ≤ B p.toNat ∧ B p.toNat ≤ 57 then 1 else 2
def tkE (B : Gm) (n s : Int) : Int := if tkK B n s = 2 then s + 1 else fsI (fun k => decide (tkK B n k ≠ tkK B n s)) n s
def tkV (B : Gm) (s e : Int) : Int := foldF (fun k a => 10 * a + B k.toNat - 48) 0 s e
def tkN (B : Gm) (n s : Int) : Int := tkS B n (tkE B n s)
theorem tkK_r (B : Gm) (n p : Int) : 0 ≤ tkK B n p ∧ tkK B n p ≤ 3 ∧ (tkK B n p = 3 ↔ n ≤ p) ∧ (tkK B n p = 0 ↔ p < n ∧ 97 ≤ B p.toNat ∧ B p.toNat ≤ 122) ∧ (tkK B n p = 1 ↔ p < n ∧ 48 ≤ B p.toNat ∧ B p.toNat ≤ 57) := by
  unfold tkK
  split
  · omega
  · split
    · omega
    · split <;> omega
theorem tkS_r (B : Gm) {n i : Int} (h : i ≤ n) : i ≤ tkS B n i ∧ tkS B n i ≤ n := by
  have h9 := fsI_r (p := fun k => decide (B k.toNat ≠ 32 ∧ B k.toNat ≠ 10)) (n := n) _ i rfl
  exact ⟨h9.1, h9.2.1 h⟩
theorem tkE_r (B : Gm) {n s : Int} (h : s ≤ n) : s ≤ tkE B n s ∧ tkE B n s ≤ n ∧ (s < n → s < tkE B n s) ∧ (n ≤ s → tkE B n s = s) ∧ (tkK B n s ≠ 2 → ∀ k, s ≤ k → k < tkE B n s → tkK B n k = tkK B n s) := by
  have hk := tkK_r B n s
  have h9 := fsI_r (p := fun k => decide (tkK B n k ≠ tkK B n s)) (n := n) _ s rfl
  unfold tkE
  split
  · omega
  · refine ⟨h9.1, h9.2.1 h, fun q => ?_, fun q => fsI_e q, fun _ k k0 k1 => ?_⟩
    · rcases Int.lt_or_eq_of_le h9.1 with z | z
      · exact z
      · have h8 := h9.2.2.2 (by omega)
        rw [← z] at h8
        exact absurd rfl (of_decide_eq_true h8)
    · exact Decidable.not_not.mp (of_decide_eq_false (h9.2.2.1 k k0 k1))
theorem tkN_r (B : Gm) {n s : Int} (h : s ≤ n) : s ≤ tkN B n s ∧ tkN B n s ≤ n ∧ tkE B n s ≤ tkN B n s := by
  have h1 := tkE_r B h
  have h2 := tkS_r B h1.2.1
  unfold tkN
  omega
theorem tkV_0 {B : Gm} {s : Int} : tkV B s s = 0 := foldF_0 (Int.le_refl _)
theorem tkV_s {B : Gm} {s e : Int} (h : s ≤ e) : tkV B s (e + 1) = 10 * tkV B s e + B e.toNat - 48 := foldF_s h
theorem tkV_p {B : Gm} {s e : Int} (hb : ∀ k, s ≤ k → k < e → 48 ≤ B k.toNat ∧ B k.toNat ≤ 57) : ∀ i, s ≤ i → i ≤ e → 0 ≤ tkV B s i ∧ ∀ j, s ≤ j → j ≤ i → tkV B s j ≤ tkV B s i := by
  have key : ∀ f : Nat, s + (f : Int) ≤ e → 0 ≤ tkV B s (s + f) ∧ ∀ j, s ≤ j → j ≤ s + f → tkV B s j ≤ tkV B s (s + f) := by
    intro f
    induction f with
    | zero =>
      intro _
      rw [show s + ((0 : Nat) : Int) = s by omega, tkV_0]
      refine ⟨Int.le_refl _, fun j j0 j1 => ?_⟩
      rw [show j = s by omega, tkV_0]
      exact Int.le_refl _
    | succ f ih =>
      intro hf
      obtain ⟨i1, i2⟩ := ih (by omega)
      have hk := hb (s + f) (by omega) (by omega)
      rw [show s + ((f + 1 : Nat) : Int) = s + (f : Int) + 1 by omega, tkV_s (by omega)]
      refine ⟨by omega, fun j j0 j1 => ?_⟩
      by_cases e9 : j = s + (f : Int) + 1
      · rw [e9, tkV_s (by omega)]
        exact Int.le_refl _
      · have := i2 j j0 (by omega)
        omega
  intro i i0 i1
  have h9 := key (i - s).toNat (by omega)
  rw [show s + (((i - s).toNat : Nat) : Int) = i by omega] at h9
  exact h9
theorem tkV_t {B : Gm} {n s : Int} (h : s ≤ n) (hk : tkK B n s = 1) : ∀ i, s ≤ i → i ≤ tkE B n s → 0 ≤ tkV B s i ∧ ∀ j, s ≤ j → j ≤ i → tkV B s j ≤ tkV B s i := by
  have he := (tkE_r B h).2.2.2.2 (by omega)
  refine tkV_p (fun k k0 k1 => ?_)
  have h9 := he k k0 k1
  rw [hk] at h9
  have h8 := ((tkK_r B n k).2.2.2.2).mp h9
  exact h8.2
/-- a keyword stands at s -/
def isKw (B : Gm) (n s : Int) (l : List Int) : Bool := decide (tkK B n s = 0) && spl B n s (tkE B n s) l
abbrev E3 : Type := Int × Int × Int
def eErr (c : Int) (e : E3) : E3 := if e.1 = 0 then (c, e.2.2, e.2.2) else e
def eGo (B : Gm) (n : Int) (e : E3) : E3 := if e.1 = 0 then (0, e.2.1, tkN B n e.2.2) else e
def eIs (B : Gm) (n : Int) (l : List Int) (e : E3) : Bool := decide (e.1 = 0) && isKw B n e.2.2 l
def eKw (B : Gm) (n : Int) (l : List Int) (e : E3) : E3 := eGo B n (if eIs B n l e = true then e else eErr 1 e)
def eLook (B : Gm) (n lo hi : Int) (e : E3) : E3 := if e.1 = 0 then (if tkK B n e.2.2 = 1 then (if lo ≤ tkV B e.2.2 (tkE B n e.2.2) ∧ tkV B e.2.2 (tkE B n e.2.2) ≤ hi then e else eErr 2 e) else eErr 1 e) else e
def eVal (B : Gm) (n lo hi : Int) (e : E3) : Int := if (eLook B n lo hi e).1 = 0 then tkV B e.2.2 (tkE B n e.2.2) else lo
def eNum (B : Gm) (n lo hi : Int) (e : E3) : E3 := eGo B n (eLook B n lo hi e)
def eSemi (B : Gm) (n : Int) (e : E3) : E3 := eGo B n (if e.1 = 0 ∧ ¬ (tkK B n e.2.2 = 2 ∧ B e.2.2.toNat = 59) then eErr 1 e else e)
theorem eErr_b {c : Int} {e : E3} (h : e.1 ≠ 0) : eErr c e = e := if_neg h
theorem eGo_b {B : Gm} {n : Int} {e : E3} (h : e.1 ≠ 0) : eGo B n e = e := if_neg h
theorem eIs_b {B : Gm} {n : Int} {l : List Int} {e : E3} (h : e.1 ≠ 0) : eIs B n l e = false := by unfold eIs; rw [decide_eq_false h]; rfl
theorem eKw_b {B : Gm} {n : Int} {l : List Int} {e : E3} (h : e.1 ≠ 0) : eKw B n l e = e := by unfold eKw; rw [eIs_b h, if_neg Bool.false_ne_true, eErr_b h, eGo_b h]
theorem eLook_b {B : Gm} {n lo hi : Int} {e : E3} (h : e.1 ≠ 0) : eLook B n lo hi e = e := if_neg h
theorem eNum_b {B : Gm} {n lo hi : Int} {e : E3} (h : e.1 ≠ 0) : eNum B n lo hi e = e := by unfold eNum; rw [eLook_b h, eGo_b h]
theorem eSemi_b {B : Gm} {n : Int} {e : E3} (h : e.1 ≠ 0) : eSemi B n e = e := by unfold eSemi; rw [if_neg (fun z => h z.1), eGo_b h]
/-- the state is in order -/
def eOK (n : Int) (e : E3) : Prop := 0 ≤ e.2.2 ∧ e.2.2 ≤ n
theorem eErr_ok {n c : Int} {e : E3} (h : eOK n e) : eOK n (eErr c e) := by
  unfold eErr
  split
  · exact h
  · exact h
theorem eGo_ok {B : Gm} {n : Int} {e : E3} (h : eOK n e) : eOK n (eGo B n e) := by
  unfold eGo
  split
  · have h1 := h
    have h2 := tkN_r B h1.2
    show 0 ≤ tkN B n e.2.2 ∧ tkN B n e.2.2 ≤ n
    unfold eOK at h1
    omega
  · exact h
theorem eLook_ok {B : Gm} {n lo hi : Int} {e : E3} (h : eOK n e) : eOK n (eLook B n lo hi e) := by
  unfold eLook
  split
  · split
    · split
      · exact h
      · exact eErr_ok h
    · exact eErr_ok h
  · exact h
theorem eKw_ok {B : Gm} {n : Int} {l : List Int} {e : E3} (h : eOK n e) : eOK n (eKw B n l e) := by
  unfold eKw
  refine eGo_ok ?_
  split
  · exact h
  · exact eErr_ok h
theorem eNum_ok {B : Gm} {n lo hi : Int} {e : E3} (h : eOK n e) : eOK n (eNum B n lo hi e) := eGo_ok (eLook_ok h)
theorem eSemi_ok {B : Gm} {n : Int} {e : E3} (h : eOK n e) : eOK n (eSemi B n e) := by
  unfold eSemi
  refine eGo_ok ?_
  split
  · exact eErr_ok h
  · exact h
theorem eLook_v {B : Gm} {n lo hi : Int} {e : E3} (h : (eLook B n lo hi e).1 = 0) : e.1 = 0 ∧ tkK B n e.2.2 = 1 ∧ (lo ≤ tkV B e.2.2 (tkE B n e.2.2) ∧ tkV B e.2.2 (tkE B n e.2.2) ≤ hi) ∧ eLook B n lo hi e = e := by
  unfold eLook at h ⊢
  by_cases q : e.1 = 0
  · rw [if_pos q] at h ⊢
    by_cases z : tkK B n e.2.2 = 1
    · rw [if_pos z] at h ⊢
      by_cases y : lo ≤ tkV B e.2.2 (tkE B n e.2.2) ∧ tkV B e.2.2 (tkE B n e.2.2) ≤ hi
      · rw [if_pos y]
        exact ⟨q, z, y, rfl⟩
      · rw [if_neg y] at h
        unfold eErr at h
        rw [if_pos q] at h
        exact absurd h (by show ¬ (2 : Int) = 0; decide)
    · rw [if_neg z] at h
      unfold eErr at h
      rw [if_pos q] at h
      exact absurd h (by show ¬ (1 : Int) = 0; decide)
  · rw [if_neg q] at h
    exact absurd h q
theorem eVal_r {B : Gm} {n lo hi : Int} (e : E3) (h : lo ≤ hi) : lo ≤ eVal B n lo hi e ∧ eVal B n lo hi e ≤ hi := by
  unfold eVal
  split
  · next q => exact (eLook_v q).2.2.1
  · omega
