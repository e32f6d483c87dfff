/-- the one picked last -/
def pickI (c : Int → Int → Bool) (n : Int) : Int := foldI (fun i b => if c i b = true then i else b) (-1) n
theorem pickI_0 {c : Int → Int → Bool} : pickI c 0 = -1 := rfl
theorem pickI_s {c : Int → Int → Bool} {n : Int} (h : 0 ≤ n) : pickI c (n + 1) = if c n (pickI c n) = true then n else pickI c n := foldI_s h
theorem pickI_r (c : Int → Int → Bool) {n : Int} (h : 0 ≤ n) : pickI c n = -1 ∨ 0 ≤ pickI c n ∧ pickI c n < n := by
  refine foldI_inv (fun i b => b = -1 ∨ 0 ≤ b ∧ b < i) (Or.inl rfl) (fun i x h0 h1 hx => ?_) n h (Int.le_refl n)
  show (if c i x = true then i else x) = -1 ∨ 0 ≤ (if c i x = true then i else x) ∧ (if c i x = true then i else x) < i + 1
  split
  · exact Or.inr ⟨h0, by omega⟩
  · rcases hx with q | q
    · exact Or.inl q
    · exact Or.inr ⟨q.1, by omega⟩
theorem pickI_c {c d : Int → Int → Bool} {n : Int} (h : ∀ i b, 0 ≤ i → i < n → (b = -1 ∨ 0 ≤ b ∧ b < i) → c i b = d i b) : pickI c n = pickI d n := by
  by_cases hn : 0 ≤ n
  · have key : ∀ k : Int, 0 ≤ k → k ≤ n → pickI c k = pickI d k := by
      intro k h0 h1
      have : pickI c k = pickI d k ∧ True := by
        refine foldI_inv (fun i b => i ≤ n → b = pickI d i) (a := -1) (s := fun i b => if c i b = true then i else b) (n := k) (fun _ => rfl) (fun i x g0 g1 hx hi => ?_) k h0 (Int.le_refl k) h1 |> fun q => ⟨q, trivial⟩
        rw [pickI_s g0, ← hx (by omega)]
        have hr : x = -1 ∨ 0 ≤ x ∧ x < i := by rw [hx (by omega)]; exact pickI_r d g0
        show (if c i x = true then i else x) = _
        rw [h i x g0 (by omega) hr]
      exact this.1
    exact key n hn (Int.le_refl n)
  · unfold pickI foldI
    rw [show n.toNat = 0 by omega]
    rfl
/-- a set of numbers, as bits -/
def setI (p : Int → Bool) (n : Int) : Int := foldI (fun i s => if p i = true then zor s (zshl 1 i) else s) 0 n
theorem setI_0 {p : Int → Bool} : setI p 0 = 0 := rfl
theorem setI_s {p : Int → Bool} {n : Int} (h : 0 ≤ n) : setI p (n + 1) = if p n = true then zor (setI p n) (zshl 1 n) else setI p n := foldI_s h
theorem setI_c {p q : Int → Bool} {n : Int} (h : ∀ i, 0 ≤ i → i < n → p i = q i) : setI p n = setI q n := foldI_c (fun i x h0 h1 => by rw [h i h0 h1])
theorem zor_0 {x : Int} (h : zrg x) : zor x 0 = x := by
  unfold zor
  rw [show Int32.ofInt 0 = 0 from rfl, Int32.or_zero, z32 h]
theorem setI_z (p : Int → Bool) (n : Int) : zrg (setI p n) := by
  by_cases hn : 0 ≤ n
  · refine foldI_inv (fun _ s => zrg s) zrg0 (fun i x h0 h1 hx => ?_) n hn (Int.le_refl n)
    show zrg (if p i = true then zor x (zshl 1 i) else x)
    split
    · exact z32_rg _
    · exact hx
  · unfold setI foldI
    rw [show n.toNat = 0 by omega]
    exact zrg0
theorem zor_set {p : Int → Bool} {n : Int} : zor (setI p n) 0 = setI p n := zor_0 (setI_z p n)
/-- sums -/
def sumI (f : Int → Int) (n : Int) : Int := foldI (fun i s => s + f i) 0 n
theorem sumI_0 {f : Int → Int} : sumI f 0 = 0 := rfl
theorem sumI_s {f : Int → Int} {n : Int} (h : 0 ≤ n) : sumI f (n + 1) = sumI f n + f n := foldI_s h
theorem sumI_c {f g : Int → Int} {n : Int} (h : ∀ i, 0 ≤ i → i < n → f i = g i) : sumI f n = sumI g n := foldI_c (fun i x h0 h1 => by rw [h i h0 h1])
theorem sumI_b {f : Int → Int} (B : Int) {n : Int} (hn : 0 ≤ n) (h : ∀ i, 0 ≤ i → i < n → 0 ≤ f i ∧ f i ≤ B) : 0 ≤ sumI f n ∧ sumI f n ≤ n * B := by
  refine foldI_inv (fun i s => 0 ≤ s ∧ s ≤ i * B) ⟨by omega, by omega⟩ (fun i x h0 h1 hx => ?_) n hn (Int.le_refl n)
  have := h i h0 h1
  rw [Int.add_mul, Int.one_mul]
  exact ⟨by omega, by omega⟩
/-- folds over lo .. n-1 -/
def foldF {α : Type} (s : Int → α → α) (a : α) (lo n : Int) : α := foldI (fun k x => s (lo + k) x) a (n - lo)
theorem foldF_0 {α : Type} {s : Int → α → α} {a : α} {lo n : Int} (h : n ≤ lo) : foldF s a lo n = a := by
  unfold foldF foldI
  rw [show (n - lo).toNat = 0 by omega]
  rfl
theorem foldF_s {α : Type} {s : Int → α → α} {a : α} {lo n : Int} (h : lo ≤ n) : foldF s a lo (n + 1) = s n (foldF s a lo n) := by
  unfold foldF
  rw [show n + 1 - lo = (n - lo) + 1 by omega, foldI_s (by omega), show lo + (n - lo) = n by omega]
theorem zdownF {lo n : Int} {P : Int → Prop} (h : ∀ i, lo ≤ i → i ≤ n → (i < n → P (i + 1)) → P i) : ∀ i, lo ≤ i → i ≤ n → P i := by
  have key := zdown (n := n - lo) (P := fun k => P (lo + k)) (fun k h0 h1 ih => h (lo + k) (by omega) (by omega) (fun q => by rw [show lo + k + 1 = lo + (k + 1) by omega]; exact ih (by omega)))
  intro i h0 h1
  have := key (i - lo) (by omega) (by omega)
  rwa [show lo + (i - lo) = i by omega] at this
def fUrg (G : Gm) (r : Int) : Int := if (G (132 + 16 * r + 1).toNat) = 1 then 2 else if (G (132 + 16 * r + 6).toNat) > 0 then 1 else 0
def fNextC (G : Gm) (w : Int) (r b : Int) : Bool := decide (fRefusal G w r = 0 ∧ (b = -1 ∨ fUrg G b < fUrg G r))
def fNext (G : Gm) (w : Int) : Int := pickI (fNextC G w) (G 5)
def c_nextFor (G : Gm) (w : Int) : Int := if 0 ≤ w ∧ w ≤ G 4 - 1 then 0 else 1
def v_nextFor (G : Gm) (w : Int) : Int := if 0 ≤ w ∧ w ≤ G 4 - 1 then fNext G w else 0
def c_refusal (G : Gm) (w r : Int) : Int := if (0 ≤ w ∧ w ≤ G 4 - 1) ∧ (0 ≤ r ∧ r ≤ G 5 - 1) then 0 else 1
def v_refusal (G : Gm) (w r : Int) : Int := if (0 ≤ w ∧ w ≤ G 4 - 1) ∧ (0 ≤ r ∧ r ≤ G 5 - 1) then fRefusal G w r else 0
def c_offers (G : Gm) (w : Int) : Int := if 0 ≤ w ∧ w ≤ G 4 - 1 then 0 else 1
def v_offers (G : Gm) (w : Int) : Int := if 0 ≤ w ∧ w ≤ G 4 - 1 then setI (fun r => fCan G w r) (G 5) else 0
