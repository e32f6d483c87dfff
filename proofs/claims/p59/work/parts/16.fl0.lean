theorem zrgI {x : Int} (h : -2147483648 ≤ x ∧ x < 2147483648) : zrg x := h
theorem zPbI {x : Int} (h : -128 ≤ x ∧ x < 128) : zPb x := h
theorem zPqI {x : Int} (h : 0 ≤ x ∧ x < 65536) : zPq x := h
theorem zabsL {x : Int} (h : -2147483648 < x) : -2147483648 < x := h
theorem zposI {x : Int} (h : 0 < x) : 0 < x := h
theorem zixW {M : ZM} {j κ n : Nat} {i : Int} (hw : zW M j κ) (hl : zLn M j = n) (h : 0 ≤ i ∧ i < (n : Int)) (hn : n < 2147483648) : zW M j κ ∧ 0 ≤ i ∧ i < (zLn M j : Int) ∧ i < 2147483648 := ⟨hw, h.1, by rw [hl]; exact h.2, by omega⟩
theorem zixO {M : ZM} {j κ n : Nat} {i : Int} (hw : zW M j κ) (hl : zLn M j = n) (h : 0 ≤ i ∧ i < (n : Int)) (hn : n < 2147483648) : zO M j κ ∧ 0 ≤ i ∧ i < (zLn M j : Int) ∧ i < 2147483648 := ⟨hw.o, h.1, by rw [hl]; exact h.2, by omega⟩
theorem zlenW {M : ZM} {j κ : Nat} (hw : zW M j κ) (hk : 20 ≤ κ) : j < zN M ∧ ((zCC ≤ j ∧ 20 ≤ zK M j) ∨ zK M j = 20 ∨ zK M j = 21 ∨ zK M j = 33) := ⟨hw.2.2, Or.inl ⟨hw.2.1, by rw [hw.1]; exact hk⟩⟩
theorem zcpL {M : ZM} {j n : Nat} {x : Int} (hl : zLn M j = n) (h : x ≤ (n : Int)) : x ≤ (zLn M j : Int) := by rw [hl]; exact h
theorem zc_lt {x y : Int} (h : zcmp x y < 0) : x < y := by
  unfold zcmp at h
  split at h
  · omega
  · split at h <;> omega
theorem zc_ge {x y : Int} (h : 0 ≤ zcmp x y) : y ≤ x := by
  unfold zcmp at h
  split at h
  · omega
  · split at h <;> omega
theorem zc_gt {x y : Int} (h : 0 < zcmp x y) : y < x := by
  unfold zcmp at h
  split at h
  · omega
  · split at h <;> omega
theorem zc_le {x y : Int} (h : zcmp x y ≤ 0) : x ≤ y := by
  unfold zcmp at h
  split at h
  · omega
  · split at h <;> omega
/-- a truth as 1 or 0 -/
def b2i (b : Bool) : Int := if b = true then 1 else 0
theorem b2i_z (b : Bool) : zPz (b2i b) := by cases b <;> simp [b2i, zPz]
theorem b2i_e0 {b : Bool} (h : b2i b = 0) : b = false := by cases b <;> simp_all [b2i]
theorem b2i_n0 {b : Bool} (h : b2i b ≠ 0) : b = true := by cases b <;> simp_all [b2i]
theorem b2i_e1 {b : Bool} (h : b2i b = 1) : b = true := by cases b <;> simp_all [b2i]
theorem b2i_n1 {b : Bool} (h : b2i b ≠ 1) : b = false := by cases b <;> simp_all [b2i]
theorem b2i_t : b2i true = 1 := rfl
theorem b2i_f : b2i false = 0 := rfl
theorem b2i_d {p : Prop} {h : Decidable p} : b2i (@decide p h) = @ite Int p h 1 0 := by
  by_cases q : p <;> simp [b2i, q]
/-- downwards -/
theorem zdown {n : Int} {P : Int → Prop} (h : ∀ i, 0 ≤ i → i ≤ n → (i < n → P (i + 1)) → P i) : ∀ i, 0 ≤ i → i ≤ n → P i := by
  have key : ∀ (f : Nat) (i : Int), i + f = n → 0 ≤ i → P i := by
    intro f
    induction f with
    | zero => exact fun i hi h0 => h i h0 (by omega) (fun q => by omega)
    | succ f ih => exact fun i hi h0 => h i h0 (by omega) (fun _ => ih (i + 1) (by omega) (by omega))
  exact fun i h0 h1 => key (n - i).toNat i (by omega) h0
/-- .. of a count that falls -/
theorem zfall {P : Int → Prop} (h : ∀ i, (0 < i → P (i - 1)) → P i) : ∀ i, P i := by
  have key : ∀ (f : Nat) (i : Int), i ≤ f → P i := by
    intro f
    induction f with
    | zero => exact fun i hi => h i (fun q => by omega)
    | succ f ih => exact fun i hi => h i (fun _ => ih (i - 1) (by omega))
  exact fun i => key i.toNat i (by omega)
theorem zKi {K : ZRet} {x y : Int} {M : ZM} (h : K (some (zi x)) M) (e : x = y) : K (some (zi y)) M := e ▸ h
theorem zKm {K : ZRet} {x y : Int} {M M' : ZM} (h : K (some (zi x)) M) (e : x = y) (e' : M = M') : K (some (zi y)) M' := by
  subst e; subst e'; exact h
theorem zKn {K : ZRet} {M M' : ZM} (h : K none M) (e' : M = M') : K none M' := by
  subst e'; exact h
theorem zIp {P : Int → Prop} {x y : Int} (h : P x) (e : x = y) : P y := e ▸ h
/-- folds over 0 .. n-1 -/
def fold {α : Type} (s : Int → α → α) (a : α) : Nat → α
  | 0 => a
  | n + 1 => s n (fold s a n)
def foldI {α : Type} (s : Int → α → α) (a : α) (n : Int) : α := fold s a n.toNat
theorem foldI_0 {α : Type} {s : Int → α → α} {a : α} : foldI s a 0 = a := rfl
theorem foldI_s {α : Type} {s : Int → α → α} {a : α} {n : Int} (h : 0 ≤ n) : foldI s a (n + 1) = s n (foldI s a n) := by
  unfold foldI
  rw [show (n + 1).toNat = n.toNat + 1 by omega, fold, show ((n.toNat : Nat) : Int) = n by omega]
theorem foldI_c {α : Type} {s s' : Int → α → α} {a : α} {n : Int} (h : ∀ i x, 0 ≤ i → i < n → s i x = s' i x) : foldI s a n = foldI s' a n := by
  have key : ∀ k : Nat, (k : Int) ≤ n → fold s a k = fold s' a k := by
    intro k
    induction k with
    | zero => exact fun _ => rfl
    | succ k ih => exact fun q => by rw [fold, fold, ih (by omega), h _ _ (by omega) (by omega)]
  by_cases q : 0 ≤ n
  · exact key n.toNat (by omega)
  · unfold foldI
    rw [show n.toNat = 0 by omega]
    rfl
theorem foldI_inv {α : Type} {s : Int → α → α} {a : α} {n : Int} (P : Int → α → Prop) (h0 : P 0 a) (h : ∀ i x, 0 ≤ i → i < n → P i x → P (i + 1) (s i x)) : ∀ i, 0 ≤ i → i ≤ n → P i (foldI s a i) := by
  have key : ∀ k : Nat, (k : Int) ≤ n → P k (fold s a k) := by
    intro k
    induction k with
    | zero => exact fun _ => h0
    | succ k ih => exact fun q => h _ _ (by omega) (by omega) (ih (by omega))
  intro i h1 h2
  have := key i.toNat (by omega)
  rwa [show ((i.toNat : Nat) : Int) = i by omega] at this
/-- how many below n -/
def cntI (p : Int → Bool) (n : Int) : Int := foldI (fun i c => if p i = true then c + 1 else c) 0 n
theorem cntI_0 {p : Int → Bool} : cntI p 0 = 0 := rfl
theorem cntI_s {p : Int → Bool} {n : Int} (h : 0 ≤ n) : cntI p (n + 1) = if p n = true then cntI p n + 1 else cntI p n := foldI_s h
theorem cntI_c {p q : Int → Bool} {n : Int} (h : ∀ i, 0 ≤ i → i < n → p i = q i) : cntI p n = cntI q n := foldI_c (fun i x h0 h1 => by rw [h i h0 h1])
theorem cntI_r (p : Int → Bool) (n : Int) (h : 0 ≤ n) : 0 ≤ cntI p n ∧ cntI p n ≤ n := by
  refine foldI_inv (fun i c => 0 ≤ c ∧ c ≤ i) ⟨by omega, by omega⟩ (fun i x h0 h1 hx => ?_) n h (Int.le_refl n)
  show 0 ≤ (if p i = true then x + 1 else x) ∧ (if p i = true then x + 1 else x) ≤ i + 1
  split <;> omega
/-- the least one from i on, of f many -/
def fnd (p : Int → Bool) : Nat → Int → Int
  | 0, _ => -1
  | f + 1, i => if p i = true then i else fnd p f (i + 1)
def fndI (p : Int → Bool) (n : Int) : Int := fnd p (n - 0).toNat 0
theorem fnd_s (p : Int → Bool) {n i : Int} (h : i < n) : fnd p (n - i).toNat i = if p i = true then i else fnd p (n - (i + 1)).toNat (i + 1) := by
  rw [show (n - i).toNat = (n - (i + 1)).toNat + 1 by omega, fnd]
theorem fnd_e (p : Int → Bool) {n i : Int} (h : n ≤ i) : fnd p (n - i).toNat i = -1 := by
  rw [show (n - i).toNat = 0 by omega, fnd]
theorem fnd_c {p q : Int → Bool} : ∀ (f : Nat) (i : Int), (∀ k, i ≤ k → k < i + f → p k = q k) → fnd p f i = fnd q f i
  | 0, _, _ => rfl
  | f + 1, i, h => by rw [fnd, fnd, h i (by omega) (by omega), fnd_c f (i + 1) (fun k h1 h2 => h k (by omega) (by omega))]
theorem fnd_r (p : Int → Bool) : ∀ (f : Nat) (i : Int), fnd p f i = -1 ∧ (∀ k, i ≤ k → k < i + f → p k = false) ∨ i ≤ fnd p f i ∧ fnd p f i < i + f ∧ p (fnd p f i) = true ∧ ∀ k, i ≤ k → k < fnd p f i → p k = false
  | 0, i => Or.inl ⟨rfl, fun k h1 h2 => by omega⟩
  | f + 1, i => by
    rw [fnd]
    by_cases q : p i = true
    · rw [if_pos q]
      exact Or.inr ⟨by omega, by omega, q, fun k h1 h2 => by omega⟩
    · rw [if_neg q]
      have q' : p i = false := by simpa using q
      rcases fnd_r p f (i + 1) with ⟨h1, h2⟩ | ⟨h1, h2, h3, h4⟩
      · refine Or.inl ⟨h1, fun k g1 g2 => ?_⟩
        by_cases e : k = i
        · rw [e]; exact q'
        · exact h2 k (by omega) (by omega)
      · refine Or.inr ⟨by omega, by omega, h3, fun k g1 g2 => ?_⟩
        by_cases e : k = i
        · rw [e]; exact q'
        · exact h4 k (by omega) g2
theorem fndI_r (p : Int → Bool) {n : Int} (hn : 0 ≤ n) : fndI p n = -1 ∧ (∀ k, 0 ≤ k → k < n → p k = false) ∨ 0 ≤ fndI p n ∧ fndI p n < n ∧ p (fndI p n) = true ∧ ∀ k, 0 ≤ k → k < fndI p n → p k = false := by
  have h := fnd_r p (n - 0).toNat 0
  rw [show (0 : Int) + ((n - 0).toNat : Nat) = n by omega] at h
  exact h
theorem fnd_hit {p : Int → Bool} {n i : Int} (h : i < n) (hp : p i = true) : fnd p (n - i).toNat i = i := by rw [fnd_s p h, if_pos hp]
theorem fnd_miss {p : Int → Bool} {n i : Int} (h : i < n) (hp : p i = false) : fnd p (n - i).toNat i = fnd p (n - (i + 1)).toNat (i + 1) := by rw [fnd_s p h, if_neg (by rw [hp]; exact Bool.false_ne_true)]
/-- whether there is one -/
def anyF (p : Int → Bool) : Nat → Int → Bool
  | 0, _ => false
  | f + 1, i => if p i = true then true else anyF p f (i + 1)
def anyI (p : Int → Bool) (n : Int) : Bool := anyF p (n - 0).toNat 0
theorem any_e (p : Int → Bool) {n i : Int} (h : n ≤ i) : anyF p (n - i).toNat i = false := by
  rw [show (n - i).toNat = 0 by omega, anyF]
theorem any_hit {p : Int → Bool} {n i : Int} (h : i < n) (hp : p i = true) : anyF p (n - i).toNat i = true := by
  rw [show (n - i).toNat = (n - (i + 1)).toNat + 1 by omega, anyF, if_pos hp]
theorem any_miss {p : Int → Bool} {n i : Int} (h : i < n) (hp : p i = false) : anyF p (n - i).toNat i = anyF p (n - (i + 1)).toNat (i + 1) := by
  rw [show (n - i).toNat = (n - (i + 1)).toNat + 1 by omega, anyF, if_neg (by rw [hp]; exact Bool.false_ne_true)]
theorem any_iff {p : Int → Bool} : ∀ (f : Nat) (i : Int), anyF p f i = true ↔ ∃ k, i ≤ k ∧ k < i + f ∧ p k = true
  | 0, i => ⟨fun h => (by cases h), fun ⟨k, h1, h2, _⟩ => (by omega)⟩
  | f + 1, i => by
    rw [anyF]
    by_cases q : p i = true
    · rw [if_pos q]
      exact ⟨fun _ => ⟨i, by omega, by omega, q⟩, fun _ => rfl⟩
    · rw [if_neg q, any_iff f (i + 1)]
      refine ⟨fun ⟨k, h1, h2, h3⟩ => ⟨k, by omega, by omega, h3⟩, fun ⟨k, h1, h2, h3⟩ => ⟨k, ?_, by omega, h3⟩⟩
      by_cases e : k = i
      · subst e; exact absurd h3 q
      · omega
theorem anyI_iff {p : Int → Bool} {n : Int} : anyI p n = true ↔ ∃ k, 0 ≤ k ∧ k < n ∧ p k = true := by
  rw [anyI, any_iff]
  refine ⟨fun ⟨k, h1, h2, h3⟩ => ⟨k, h1, by omega, h3⟩, fun ⟨k, h1, h2, h3⟩ => ⟨k, h1, by omega, h3⟩⟩
/-- the reference's object and arrays -/
def LY (M : ZM) : Prop := zW M 670 12 ∧ zR M 670 1 = some 671 ∧ zW M 671 20 ∧ zLn M 671 = 516 ∧ zR M 670 2 = some 672 ∧ zW M 672 20 ∧ zLn M 672 = 516 ∧ zR M 670 4 = some 673 ∧ zW M 673 20 ∧ zLn M 673 = 516 ∧ zR M 670 5 = some 674 ∧ zW M 674 21 ∧ zLn M 674 = 500 ∧ zR M 670 14 = some 675 ∧ zW M 675 20 ∧ zLn M 675 = 24 ∧ zR M 670 15 = some 676 ∧ zW M 676 22 ∧ zLn M 676 = 24 ∧ zR M 670 16 = some 677 ∧ zW M 677 20 ∧ zLn M 677 = 1032 ∧ zR M 670 17 = some 678 ∧ zW M 678 22 ∧ zLn M 678 = 2 ∧ zR M 670 18 = some 679 ∧ zW M 679 20 ∧ zLn M 679 = 3096 ∧ zR M 670 20 = some 680 ∧ zW M 680 21 ∧ zLn M 680 = 400
theorem LY.w {M : ZM} (h : LY M) : zW M 670 12 := h.1
theorem LY.r1 {M : ZM} (h : LY M) : zR M 670 1 = some 671 := h.2.1
theorem LY.a1 {M : ZM} (h : LY M) : zW M 671 20 := h.2.2.1
theorem LY.l1 {M : ZM} (h : LY M) : zLn M 671 = 516 := h.2.2.2.1
theorem LY.r2 {M : ZM} (h : LY M) : zR M 670 2 = some 672 := h.2.2.2.2.1
theorem LY.a2 {M : ZM} (h : LY M) : zW M 672 20 := h.2.2.2.2.2.1
theorem LY.l2 {M : ZM} (h : LY M) : zLn M 672 = 516 := h.2.2.2.2.2.2.1
theorem LY.r4 {M : ZM} (h : LY M) : zR M 670 4 = some 673 := h.2.2.2.2.2.2.2.1
theorem LY.a4 {M : ZM} (h : LY M) : zW M 673 20 := h.2.2.2.2.2.2.2.2.1
theorem LY.l4 {M : ZM} (h : LY M) : zLn M 673 = 516 := h.2.2.2.2.2.2.2.2.2.1
theorem LY.r5 {M : ZM} (h : LY M) : zR M 670 5 = some 674 := h.2.2.2.2.2.2.2.2.2.2.1
theorem LY.a5 {M : ZM} (h : LY M) : zW M 674 21 := h.2.2.2.2.2.2.2.2.2.2.2.1
theorem LY.l5 {M : ZM} (h : LY M) : zLn M 674 = 500 := h.2.2.2.2.2.2.2.2.2.2.2.2.1
theorem LY.r14 {M : ZM} (h : LY M) : zR M 670 14 = some 675 := h.2.2.2.2.2.2.2.2.2.2.2.2.2.1
theorem LY.a14 {M : ZM} (h : LY M) : zW M 675 20 := h.2.2.2.2.2.2.2.2.2.2.2.2.2.2.1
theorem LY.l14 {M : ZM} (h : LY M) : zLn M 675 = 24 := h.2.2.2.2.2.2.2.2.2.2.2.2.2.2.2.1
theorem LY.r15 {M : ZM} (h : LY M) : zR M 670 15 = some 676 := h.2.2.2.2.2.2.2.2.2.2.2.2.2.2.2.2.1
theorem LY.a15 {M : ZM} (h : LY M) : zW M 676 22 := h.2.2.2.2.2.2.2.2.2.2.2.2.2.2.2.2.2.1
theorem LY.l15 {M : ZM} (h : LY M) : zLn M 676 = 24 := h.2.2.2.2.2.2.2.2.2.2.2.2.2.2.2.2.2.2.1
theorem LY.r16 {M : ZM} (h : LY M) : zR M 670 16 = some 677 := h.2.2.2.2.2.2.2.2.2.2.2.2.2.2.2.2.2.2.2.1
theorem LY.a16 {M : ZM} (h : LY M) : zW M 677 20 := h.2.2.2.2.2.2.2.2.2.2.2.2.2.2.2.2.2.2.2.2.1
theorem LY.l16 {M : ZM} (h : LY M) : zLn M 677 = 1032 := h.2.2.2.2.2.2.2.2.2.2.2.2.2.2.2.2.2.2.2.2.2.1
theorem LY.r17 {M : ZM} (h : LY M) : zR M 670 17 = some 678 := h.2.2.2.2.2.2.2.2.2.2.2.2.2.2.2.2.2.2.2.2.2.2.1
theorem LY.a17 {M : ZM} (h : LY M) : zW M 678 22 := h.2.2.2.2.2.2.2.2.2.2.2.2.2.2.2.2.2.2.2.2.2.2.2.1
theorem LY.l17 {M : ZM} (h : LY M) : zLn M 678 = 2 := h.2.2.2.2.2.2.2.2.2.2.2.2.2.2.2.2.2.2.2.2.2.2.2.2.1
theorem LY.r18 {M : ZM} (h : LY M) : zR M 670 18 = some 679 := h.2.2.2.2.2.2.2.2.2.2.2.2.2.2.2.2.2.2.2.2.2.2.2.2.2.1
theorem LY.a18 {M : ZM} (h : LY M) : zW M 679 20 := h.2.2.2.2.2.2.2.2.2.2.2.2.2.2.2.2.2.2.2.2.2.2.2.2.2.2.1
theorem LY.l18 {M : ZM} (h : LY M) : zLn M 679 = 3096 := h.2.2.2.2.2.2.2.2.2.2.2.2.2.2.2.2.2.2.2.2.2.2.2.2.2.2.2.1
theorem LY.r20 {M : ZM} (h : LY M) : zR M 670 20 = some 680 := h.2.2.2.2.2.2.2.2.2.2.2.2.2.2.2.2.2.2.2.2.2.2.2.2.2.2.2.2.1
theorem LY.a20 {M : ZM} (h : LY M) : zW M 680 21 := h.2.2.2.2.2.2.2.2.2.2.2.2.2.2.2.2.2.2.2.2.2.2.2.2.2.2.2.2.2.1
theorem LY.l20 {M : ZM} (h : LY M) : zLn M 680 = 400 := h.2.2.2.2.2.2.2.2.2.2.2.2.2.2.2.2.2.2.2.2.2.2.2.2.2.2.2.2.2.2
/-- where 'all' points -/
def MA (M : ZM) (A : Nat) : Prop := zR M 670 3 = some A ∧ zW M A 20 ∧ zLn M A = 516
/-- the memory with the numbers of a cell set anew -/
def zsA (M : ZM) (j : Nat) (g : Nat → Int) : ZM := (M.1, M.2.1, M.2.2.1, (fun x y => if x = j then g y else M.2.2.2.1 x y), M.2.2.2.2)
def upd1 (g : Nat → Int) (k : Nat) (v : Int) : Nat → Int := fun y => if y = k then v else g y
theorem upd1_s (g : Nat → Int) (k : Nat) (v : Int) : upd1 g k v k = v := by simp [upd1]
theorem upd1_n (g : Nat → Int) {k y : Nat} (v : Int) (h : y ≠ k) : upd1 g k v y = g y := by simp [upd1, h]
theorem zM_ext {M M' : ZM} (h1 : zN M = zN M') (h2 : zK M = zK M') (h3 : zLn M = zLn M') (h4 : zI M = zI M') (h5 : zR M = zR M') : M = M' := by
  obtain ⟨a, b, c, d, e⟩ := M
  obtain ⟨a', b', c', d', e'⟩ := M'
  cases h1; cases h2; cases h3; cases h4; cases h5; rfl
theorem zsI_A (M : ZM) (j k : Nat) (v : Int) : zsI M j k v = zsA M j (upd1 (zI M j) k v) := by
  refine zM_ext rfl rfl rfl (funext (fun x => funext (fun y => ?_))) rfl
  show (if x = j ∧ y = k then v else zI M x y) = if x = j then (if y = k then v else zI M j y) else zI M x y
  by_cases e : x = j
  · subst e
    simp
  · simp [e]
theorem zsA_A (M : ZM) (j : Nat) (g g' : Nat → Int) : zsA (zsA M j g) j g' = zsA M j g' := by
  refine zM_ext rfl rfl rfl (funext (fun x => funext (fun y => ?_))) rfl
  show (if x = j then g' y else if x = j then g y else zI M x y) = if x = j then g' y else zI M x y
  by_cases e : x = j <;> simp [e]
theorem zsI_sA (M : ZM) (j k : Nat) (v : Int) (g : Nat → Int) : zsI (zsA M j g) j k v = zsA M j (upd1 g k v) := by
  rw [zsI_A, zsA_A]
  refine congrArg (zsA M j) ?_
  refine funext (fun y => ?_)
  show (if y = k then v else if j = j then g y else zI M j y) = if y = k then v else g y
  rw [if_pos (rfl : j = j)]
theorem zI_A (M : ZM) (j : Nat) (g : Nat → Int) : zI (zsA M j g) j = g := by
  refine funext (fun y => ?_)
  show (if j = j then g y else zI M j y) = g y
  rw [if_pos rfl]
theorem zI_An (M : ZM) {j x : Nat} (g : Nat → Int) (h : x ≠ j) : zI (zsA M j g) x = zI M x := by
  refine funext (fun y => ?_)
  show (if x = j then g y else zI M x y) = zI M x y
  simp [h]
theorem zI_In (M : ZM) {j x : Nat} (k : Nat) (v : Int) (h : x ≠ j) : zI (zsI M j k v) x = zI M x := funext (fun y => up2_n _ _ _ _ y h)
theorem zI_Is (M : ZM) (j k : Nat) (v : Int) : zI (zsI M j k v) j k = v := up2_s _ _ _ _
theorem zI_Im (M : ZM) (j : Nat) {k y : Nat} (v : Int) (h : y ≠ k) : zI (zsI M j k v) j y = zI M j y := up2_m _ _ _ _ _ h
theorem zsA_self (M : ZM) (j : Nat) : zsA M j (zI M j) = M := by
  refine zM_ext rfl rfl rfl (funext (fun x => funext (fun y => ?_))) rfl
  show (if x = j then zI M j y else zI M x y) = zI M x y
  by_cases e : x = j
  · rw [if_pos e, e]
  · rw [if_neg e]
