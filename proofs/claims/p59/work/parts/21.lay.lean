def LRow (M : ZM) (j : Nat) : Prop := zW M j 7 ∧ zR M j 9 = some (j + 1) ∧ zW M (j + 1) 20 ∧ zLn M (j + 1) = 9
theorem LRow.w {M : ZM} {j : Nat} (h : LRow M j) : zW M j 7 := h.1
theorem LRow.r9 {M : ZM} {j : Nat} (h : LRow M j) : zR M j 9 = some (j + 1) := h.2.1
theorem LRow.a9 {M : ZM} {j : Nat} (h : LRow M j) : zW M (j + 1) 20 := h.2.2.1
theorem LRow.l9 {M : ZM} {j : Nat} (h : LRow M j) : zLn M (j + 1) = 9 := h.2.2.2
def LTab (M : ZM) (t : Nat) : Prop := zW M t 8 ∧ (zR M t 6 = some (t + 1) ∧ zW M (t + 1) 30 ∧ zLn M (t + 1) = 6) ∧ (zR M t 7 = some (t + 2) ∧ zW M (t + 2) 31 ∧ zLn M (t + 2) = 24) ∧ (zR M t 8 = some (t + 3) ∧ zW M (t + 3) 20 ∧ zLn M (t + 3) = 36) ∧ (zR M t 9 = some (t + 4) ∧ zW M (t + 4) 20 ∧ zLn M (t + 4) = 36) ∧ (∀ i : Int, 0 ≤ i → i < 6 → zR M (t + 1) i.toNat = some (t + 5 + i.toNat) ∧ zW M (t + 5 + i.toNat) 10) ∧ ∀ i : Int, 0 ≤ i → i < 24 → zR M (t + 2) i.toNat = some (t + 11 + 2 * i.toNat) ∧ LRow M (t + 11 + 2 * i.toNat)
theorem LTab.w {M : ZM} {t : Nat} (h : LTab M t) : zW M t 8 := h.1
theorem LTab.wk {M : ZM} {t : Nat} (h : LTab M t) {i : Int} (h0 : 0 ≤ i) (h1 : i < 6) : zR M (t + 1) i.toNat = some (t + 5 + i.toNat) ∧ zW M (t + 5 + i.toNat) 10 := h.2.2.2.2.2.1 i h0 h1
theorem LTab.row {M : ZM} {t : Nat} (h : LTab M t) {i : Int} (h0 : 0 ≤ i) (h1 : i < 24) : zR M (t + 2) i.toNat = some (t + 11 + 2 * i.toNat) ∧ LRow M (t + 11 + 2 * i.toNat) := h.2.2.2.2.2.2 i h0 h1
theorem LTab.r6 {M : ZM} {t : Nat} (h : LTab M t) : zR M t 6 = some (t + 1) := h.2.1.1
theorem LTab.aTwk {M : ZM} {t : Nat} (h : LTab M t) : zW M (t + 1) 30 := h.2.1.2.1
theorem LTab.lTwk {M : ZM} {t : Nat} (h : LTab M t) : zLn M (t + 1) = 6 := h.2.1.2.2
theorem LTab.r7 {M : ZM} {t : Nat} (h : LTab M t) : zR M t 7 = some (t + 2) := h.2.2.1.1
theorem LTab.aTrow {M : ZM} {t : Nat} (h : LTab M t) : zW M (t + 2) 31 := h.2.2.1.2.1
theorem LTab.lTrow {M : ZM} {t : Nat} (h : LTab M t) : zLn M (t + 2) = 24 := h.2.2.1.2.2
theorem LTab.r8 {M : ZM} {t : Nat} (h : LTab M t) : zR M t 8 = some (t + 3) := h.2.2.2.1.1
theorem LTab.aTst {M : ZM} {t : Nat} (h : LTab M t) : zW M (t + 3) 20 := h.2.2.2.1.2.1
theorem LTab.lTst {M : ZM} {t : Nat} (h : LTab M t) : zLn M (t + 3) = 36 := h.2.2.2.1.2.2
theorem LTab.r9 {M : ZM} {t : Nat} (h : LTab M t) : zR M t 9 = some (t + 4) := h.2.2.2.2.1.1
theorem LTab.aTtold {M : ZM} {t : Nat} (h : LTab M t) : zW M (t + 4) 20 := h.2.2.2.2.1.2.1
theorem LTab.lTtold {M : ZM} {t : Nat} (h : LTab M t) : zLn M (t + 4) = 36 := h.2.2.2.2.1.2.2
def LV (M : ZM) : Prop := zW M 64 11 ∧ zR M 64 0 = some 65 ∧ zR M 64 1 = some 66 ∧ zR M 64 2 = some 129 ∧ zR M 64 3 = some 188 ∧ zR M 64 4 = some 544 ∧ zR M 64 5 = some 663 ∧ zR M 64 6 = some 664 ∧ zR M 64 7 = some 668 ∧ zW M 65 6 ∧ zR M 65 2 = some 66 ∧ zR M 65 3 = some 70 ∧ zW M 66 5 ∧ zR M 66 0 = some 67 ∧ zW M 67 20 ∧ zLn M 67 = 500 ∧ zR M 66 2 = some 68 ∧ zW M 68 1 ∧ zW M 69 21 ∧ zLn M 69 = 16 ∧ LTab M 70 ∧ LTab M 129 ∧ zW M 188 4 ∧ zR M 188 2 = some 189 ∧ zW M 189 32 ∧ zLn M 189 = 6 ∧ (∀ i : Int, 0 ≤ i → i < 6 → zR M 189 i.toNat = some (190 + 59 * i.toNat) ∧ LTab M (190 + 59 * i.toNat)) ∧ zW M 544 32 ∧ zLn M 544 = 2 ∧ (∀ i : Int, 0 ≤ i → i < 2 → zR M 544 i.toNat = some (545 + 59 * i.toNat) ∧ LTab M (545 + 59 * i.toNat)) ∧ zW M 663 22 ∧ zLn M 663 = 2 ∧ zW M 664 9 ∧ zR M 664 4 = some 665 ∧ zW M 665 20 ∧ zLn M 665 = 3 ∧ zR M 664 5 = some 666 ∧ zW M 666 20 ∧ zLn M 666 = 3 ∧ zR M 664 6 = some 667 ∧ zW M 667 20 ∧ zLn M 667 = 3 ∧ zW M 668 1
theorem LV.w {M : ZM} (h : LV M) : zW M 64 11 := h.1
theorem LV.r0 {M : ZM} (h : LV M) : zR M 64 0 = some 65 := h.2.1
theorem LV.r1 {M : ZM} (h : LV M) : zR M 64 1 = some 66 := h.2.2.1
theorem LV.r2 {M : ZM} (h : LV M) : zR M 64 2 = some 129 := h.2.2.2.1
theorem LV.r3 {M : ZM} (h : LV M) : zR M 64 3 = some 188 := h.2.2.2.2.1
theorem LV.r4 {M : ZM} (h : LV M) : zR M 64 4 = some 544 := h.2.2.2.2.2.1
theorem LV.r5 {M : ZM} (h : LV M) : zR M 64 5 = some 663 := h.2.2.2.2.2.2.1
theorem LV.r6 {M : ZM} (h : LV M) : zR M 64 6 = some 664 := h.2.2.2.2.2.2.2.1
theorem LV.r7 {M : ZM} (h : LV M) : zR M 64 7 = some 668 := h.2.2.2.2.2.2.2.2.1
theorem LV.wP {M : ZM} (h : LV M) : zW M 65 6 := h.2.2.2.2.2.2.2.2.2.1
theorem LV.p2 {M : ZM} (h : LV M) : zR M 65 2 = some 66 := h.2.2.2.2.2.2.2.2.2.2.1
theorem LV.p3 {M : ZM} (h : LV M) : zR M 65 3 = some 70 := h.2.2.2.2.2.2.2.2.2.2.2.1
theorem LV.wI {M : ZM} (h : LV M) : zW M 66 5 := h.2.2.2.2.2.2.2.2.2.2.2.2.1
theorem LV.i0 {M : ZM} (h : LV M) : zR M 66 0 = some 67 := h.2.2.2.2.2.2.2.2.2.2.2.2.2.1
theorem LV.a_bytes {M : ZM} (h : LV M) : zW M 67 20 := h.2.2.2.2.2.2.2.2.2.2.2.2.2.2.1
theorem LV.l_bytes {M : ZM} (h : LV M) : zLn M 67 = 500 := h.2.2.2.2.2.2.2.2.2.2.2.2.2.2.2.1
theorem LV.i2 {M : ZM} (h : LV M) : zR M 66 2 = some 68 := h.2.2.2.2.2.2.2.2.2.2.2.2.2.2.2.2.1
theorem LV.wTB {M : ZM} (h : LV M) : zW M 68 1 := h.2.2.2.2.2.2.2.2.2.2.2.2.2.2.2.2.2.1
theorem LV.a_tb {M : ZM} (h : LV M) : zW M 69 21 := h.2.2.2.2.2.2.2.2.2.2.2.2.2.2.2.2.2.2.1
theorem LV.l_tb {M : ZM} (h : LV M) : zLn M 69 = 16 := h.2.2.2.2.2.2.2.2.2.2.2.2.2.2.2.2.2.2.2.1
theorem LV.draft {M : ZM} (h : LV M) : LTab M 70 := h.2.2.2.2.2.2.2.2.2.2.2.2.2.2.2.2.2.2.2.2.1
theorem LV.tab {M : ZM} (h : LV M) : LTab M 129 := h.2.2.2.2.2.2.2.2.2.2.2.2.2.2.2.2.2.2.2.2.2.1
theorem LV.wH {M : ZM} (h : LV M) : zW M 188 4 := h.2.2.2.2.2.2.2.2.2.2.2.2.2.2.2.2.2.2.2.2.2.2.1
theorem LV.h2 {M : ZM} (h : LV M) : zR M 188 2 = some 189 := h.2.2.2.2.2.2.2.2.2.2.2.2.2.2.2.2.2.2.2.2.2.2.2.1
theorem LV.a_htab {M : ZM} (h : LV M) : zW M 189 32 := h.2.2.2.2.2.2.2.2.2.2.2.2.2.2.2.2.2.2.2.2.2.2.2.2.1
theorem LV.l_htab {M : ZM} (h : LV M) : zLn M 189 = 6 := h.2.2.2.2.2.2.2.2.2.2.2.2.2.2.2.2.2.2.2.2.2.2.2.2.2.1
theorem LV.hh {M : ZM} (h : LV M) : ∀ i : Int, 0 ≤ i → i < 6 → zR M 189 i.toNat = some (190 + 59 * i.toNat) ∧ LTab M (190 + 59 * i.toNat) := h.2.2.2.2.2.2.2.2.2.2.2.2.2.2.2.2.2.2.2.2.2.2.2.2.2.2.1
theorem LV.a_slots {M : ZM} (h : LV M) : zW M 544 32 := h.2.2.2.2.2.2.2.2.2.2.2.2.2.2.2.2.2.2.2.2.2.2.2.2.2.2.2.1
theorem LV.l_slots {M : ZM} (h : LV M) : zLn M 544 = 2 := h.2.2.2.2.2.2.2.2.2.2.2.2.2.2.2.2.2.2.2.2.2.2.2.2.2.2.2.2.1
theorem LV.ss {M : ZM} (h : LV M) : ∀ i : Int, 0 ≤ i → i < 2 → zR M 544 i.toNat = some (545 + 59 * i.toNat) ∧ LTab M (545 + 59 * i.toNat) := h.2.2.2.2.2.2.2.2.2.2.2.2.2.2.2.2.2.2.2.2.2.2.2.2.2.2.2.2.2.1
theorem LV.a_filled {M : ZM} (h : LV M) : zW M 663 22 := h.2.2.2.2.2.2.2.2.2.2.2.2.2.2.2.2.2.2.2.2.2.2.2.2.2.2.2.2.2.2.1
theorem LV.l_filled {M : ZM} (h : LV M) : zLn M 663 = 2 := h.2.2.2.2.2.2.2.2.2.2.2.2.2.2.2.2.2.2.2.2.2.2.2.2.2.2.2.2.2.2.2.1
theorem LV.wVd {M : ZM} (h : LV M) : zW M 664 9 := h.2.2.2.2.2.2.2.2.2.2.2.2.2.2.2.2.2.2.2.2.2.2.2.2.2.2.2.2.2.2.2.2.1
theorem LV.d4 {M : ZM} (h : LV M) : zR M 664 4 = some 665 := h.2.2.2.2.2.2.2.2.2.2.2.2.2.2.2.2.2.2.2.2.2.2.2.2.2.2.2.2.2.2.2.2.2.1
theorem LV.a_Vd4 {M : ZM} (h : LV M) : zW M 665 20 := h.2.2.2.2.2.2.2.2.2.2.2.2.2.2.2.2.2.2.2.2.2.2.2.2.2.2.2.2.2.2.2.2.2.2.1
theorem LV.l_Vd4 {M : ZM} (h : LV M) : zLn M 665 = 3 := h.2.2.2.2.2.2.2.2.2.2.2.2.2.2.2.2.2.2.2.2.2.2.2.2.2.2.2.2.2.2.2.2.2.2.2.1
theorem LV.d5 {M : ZM} (h : LV M) : zR M 664 5 = some 666 := h.2.2.2.2.2.2.2.2.2.2.2.2.2.2.2.2.2.2.2.2.2.2.2.2.2.2.2.2.2.2.2.2.2.2.2.2.1
theorem LV.a_Vd5 {M : ZM} (h : LV M) : zW M 666 20 := h.2.2.2.2.2.2.2.2.2.2.2.2.2.2.2.2.2.2.2.2.2.2.2.2.2.2.2.2.2.2.2.2.2.2.2.2.2.1
theorem LV.l_Vd5 {M : ZM} (h : LV M) : zLn M 666 = 3 := h.2.2.2.2.2.2.2.2.2.2.2.2.2.2.2.2.2.2.2.2.2.2.2.2.2.2.2.2.2.2.2.2.2.2.2.2.2.2.1
theorem LV.d6 {M : ZM} (h : LV M) : zR M 664 6 = some 667 := h.2.2.2.2.2.2.2.2.2.2.2.2.2.2.2.2.2.2.2.2.2.2.2.2.2.2.2.2.2.2.2.2.2.2.2.2.2.2.2.1
theorem LV.a_Vd6 {M : ZM} (h : LV M) : zW M 667 20 := h.2.2.2.2.2.2.2.2.2.2.2.2.2.2.2.2.2.2.2.2.2.2.2.2.2.2.2.2.2.2.2.2.2.2.2.2.2.2.2.2.1
theorem LV.l_Vd6 {M : ZM} (h : LV M) : zLn M 667 = 3 := h.2.2.2.2.2.2.2.2.2.2.2.2.2.2.2.2.2.2.2.2.2.2.2.2.2.2.2.2.2.2.2.2.2.2.2.2.2.2.2.2.2.1
theorem LV.wSB {M : ZM} (h : LV M) : zW M 668 1 := h.2.2.2.2.2.2.2.2.2.2.2.2.2.2.2.2.2.2.2.2.2.2.2.2.2.2.2.2.2.2.2.2.2.2.2.2.2.2.2.2.2.2
theorem LV.ht {M : ZM} (h : LV M) {i : Int} (h0 : 0 ≤ i) (h1 : i < 6) : zR M 189 i.toNat = some (190 + 59 * i.toNat) ∧ LTab M (190 + 59 * i.toNat) := h.hh i h0 h1
theorem LV.sl {M : ZM} (h : LV M) {i : Int} (h0 : 0 ≤ i) (h1 : i < 2) : zR M 544 i.toNat = some (545 + 59 * i.toNat) ∧ LTab M (545 + 59 * i.toNat) := h.ss i h0 h1
/-- the place of a pair -/
def fPix (a b : Int) : Int := if a < b then a * 6 + b else b * 6 + a
theorem fPix_r {a b : Int} (h0 : 0 ≤ a) (h1 : a < 6) (h2 : 0 ≤ b) (h3 : b < 6) : 0 ≤ fPix a b ∧ fPix a b < 36 := by unfold fPix; split <;> omega
/-- a text: small letters, base 27 -/
def nmv : List Int → Int := fun l => l.foldl (fun a c => 27 * a + (c - 96)) 0
def zTx (M : ZM) (s : Nat) (l : List Int) : Prop := zO M s 0 ∧ zI M s 1 = 0 ∧ ∃ v, zR M s 0 = some v ∧ zO M v 21 ∧ zLn M v = l.length ∧ (((v < 64 ∧ s < 64) ∨ 670 ≤ v) ∧ zR M 668 0 ≠ some v) ∧ ∀ k, k < l.length → zI M v k = l.getD k 0
def nmOK (l : List Int) : Prop := 1 ≤ l.length ∧ l.length ≤ 6 ∧ ∀ c ∈ l, 97 ≤ c ∧ c ≤ 122
def WRn (M : ZM) (j : Nat) (v : Int) : Prop := ∃ s l, zR M j 0 = some s ∧ zTx M s l ∧ (nmOK l ∧ 64 ≤ s) ∧ nmv l = v
def WR (M : ZM) (j : Nat) (G : Gm) (w : Int) : Prop := zI M j 1 = (G (6 + 9 * w + 1).toNat) ∧ zI M j 2 = (G (6 + 9 * w + 2).toNat) ∧ zI M j 3 = (G (6 + 9 * w + 3).toNat) ∧ zI M j 5 = (G (6 + 9 * w + 4).toNat) ∧ zI M j 6 = (G (6 + 9 * w + 5).toNat) ∧ zI M j 7 = (G (6 + 9 * w + 6).toNat) ∧ zI M j 8 = (G (6 + 9 * w + 7).toNat) ∧ zI M j 9 = (G (6 + 9 * w + 8).toNat) ∧ WRn M j (G (6 + 9 * w + 0).toNat)
def RR (M : ZM) (j : Nat) (G : Gm) (r : Int) : Prop := zI M j 0 = (G (132 + 16 * r + 0).toNat) ∧ zI M j 1 = (G (132 + 16 * r + 1).toNat) ∧ zI M j 2 = (G (132 + 16 * r + 2).toNat) ∧ zI M j 3 = b2i (decide ((G (132 + 16 * r + 3).toNat) ≠ -1)) ∧ zI M j 4 = (G (132 + 16 * r + 3).toNat) ∧ zI M j 5 = (G (132 + 16 * r + 4).toNat) ∧ zI M j 8 = (G (132 + 16 * r + 6).toNat) ∧ ((G (132 + 16 * r + 1).toNat) = 2 → (0 ≤ zI M j 6 ∧ zI M j 6 < 6) ∧ (0 ≤ zI M j 7 ∧ zI M j 7 < 6) ∧ zI M j 6 ≠ zI M j 7 ∧ zI M j 6 < G 4 ∧ zI M j 7 < G 4 ∧ (G (132 + 16 * r + 5).toNat) = zor (zshl 1 (zI M j 6)) (zshl 1 (zI M j 7))) ∧ ∀ k : Int, 0 ≤ k → k < (G (132 + 16 * r + 6).toNat) → zI M (j + 1) (k * 3).toNat = (G (132 + 16 * r + (7 + 3 * k + 0)).toNat) ∧ zI M (j + 1) (k * 3 + 1).toNat = (G (132 + 16 * r + (7 + 3 * k + 1)).toNat) ∧ zI M (j + 1) (k * 3 + 2).toNat = (G (132 + 16 * r + (7 + 3 * k + 2)).toNat)
/-- all but the counts of rows in work -/
def TRa (M : ZM) (t : Nat) (G : Gm) : Prop := (zI M t 0 = G 0 ∧ zI M t 1 = G 1 ∧ zI M t 2 = G 2 ∧ zI M t 3 = G 3 ∧ zI M t 4 = G 4 ∧ zI M t 5 = G 5) ∧ (∀ w : Int, 0 ≤ w → w < G 4 → WR M (t + 5 + w.toNat) G w) ∧ (∀ r : Int, 0 ≤ r → r < G 5 → RR M (t + 11 + 2 * r.toNat) G r) ∧ ∀ a b : Int, 0 ≤ a → a < 6 → 0 ≤ b → b < 6 → zI M (t + 3) (fPix a b).toNat = (G (96 + 6 * a + b).toNat) ∧ zI M (t + 4) (fPix a b).toNat = (G (60 + 6 * a + b).toNat)
def TRi (M : ZM) (t : Nat) (G : Gm) : Prop := ∀ w : Int, 0 ≤ w → w < G 4 → zI M (t + 5 + w.toNat) 4 = fInWork G w
def TR (M : ZM) (t : Nat) (G : Gm) : Prop := TRa M t G ∧ TRi M t G
theorem TR.t0 {M : ZM} {t : Nat} {G : Gm} (h : TR M t G) : zI M t 0 = G 0 := h.1.1.1
theorem TR.t1 {M : ZM} {t : Nat} {G : Gm} (h : TR M t G) : zI M t 1 = G 1 := h.1.1.2.1
theorem TR.t2 {M : ZM} {t : Nat} {G : Gm} (h : TR M t G) : zI M t 2 = G 2 := h.1.1.2.2.1
theorem TR.t3 {M : ZM} {t : Nat} {G : Gm} (h : TR M t G) : zI M t 3 = G 3 := h.1.1.2.2.2.1
theorem TR.t4 {M : ZM} {t : Nat} {G : Gm} (h : TR M t G) : zI M t 4 = G 4 := h.1.1.2.2.2.2.1
theorem TR.t5 {M : ZM} {t : Nat} {G : Gm} (h : TR M t G) : zI M t 5 = G 5 := h.1.1.2.2.2.2.2
theorem TR.w1 {M : ZM} {t : Nat} {G : Gm} (h : TR M t G) {w : Int} (h0 : 0 ≤ w) (h1 : w < G 4) : zI M (t + 5 + w.toNat) 1 = (G (6 + 9 * w + 1).toNat) := (h.1.2.1 w h0 h1).1
theorem TR.w2 {M : ZM} {t : Nat} {G : Gm} (h : TR M t G) {w : Int} (h0 : 0 ≤ w) (h1 : w < G 4) : zI M (t + 5 + w.toNat) 2 = (G (6 + 9 * w + 2).toNat) := (h.1.2.1 w h0 h1).2.1
theorem TR.w3 {M : ZM} {t : Nat} {G : Gm} (h : TR M t G) {w : Int} (h0 : 0 ≤ w) (h1 : w < G 4) : zI M (t + 5 + w.toNat) 3 = (G (6 + 9 * w + 3).toNat) := (h.1.2.1 w h0 h1).2.2.1
theorem TR.w5 {M : ZM} {t : Nat} {G : Gm} (h : TR M t G) {w : Int} (h0 : 0 ≤ w) (h1 : w < G 4) : zI M (t + 5 + w.toNat) 5 = (G (6 + 9 * w + 4).toNat) := (h.1.2.1 w h0 h1).2.2.2.1
theorem TR.w6 {M : ZM} {t : Nat} {G : Gm} (h : TR M t G) {w : Int} (h0 : 0 ≤ w) (h1 : w < G 4) : zI M (t + 5 + w.toNat) 6 = (G (6 + 9 * w + 5).toNat) := (h.1.2.1 w h0 h1).2.2.2.2.1
theorem TR.w7 {M : ZM} {t : Nat} {G : Gm} (h : TR M t G) {w : Int} (h0 : 0 ≤ w) (h1 : w < G 4) : zI M (t + 5 + w.toNat) 7 = (G (6 + 9 * w + 6).toNat) := (h.1.2.1 w h0 h1).2.2.2.2.2.1
theorem TR.w8 {M : ZM} {t : Nat} {G : Gm} (h : TR M t G) {w : Int} (h0 : 0 ≤ w) (h1 : w < G 4) : zI M (t + 5 + w.toNat) 8 = (G (6 + 9 * w + 7).toNat) := (h.1.2.1 w h0 h1).2.2.2.2.2.2.1
theorem TR.w9 {M : ZM} {t : Nat} {G : Gm} (h : TR M t G) {w : Int} (h0 : 0 ≤ w) (h1 : w < G 4) : zI M (t + 5 + w.toNat) 9 = (G (6 + 9 * w + 8).toNat) := (h.1.2.1 w h0 h1).2.2.2.2.2.2.2.1
theorem TR.w4 {M : ZM} {t : Nat} {G : Gm} (h : TR M t G) {w : Int} (h0 : 0 ≤ w) (h1 : w < G 4) : zI M (t + 5 + w.toNat) 4 = fInWork G w := h.2 w h0 h1
theorem TR.wn {M : ZM} {t : Nat} {G : Gm} (h : TR M t G) {w : Int} (h0 : 0 ≤ w) (h1 : w < G 4) : WRn M (t + 5 + w.toNat) (G (6 + 9 * w + 0).toNat) := (h.1.2.1 w h0 h1).2.2.2.2.2.2.2.2
theorem TR.r0 {M : ZM} {t : Nat} {G : Gm} (h : TR M t G) {r : Int} (h0 : 0 ≤ r) (h1 : r < G 5) : zI M (t + 11 + 2 * r.toNat) 0 = (G (132 + 16 * r + 0).toNat) := (h.1.2.2.1 r h0 h1).1
theorem TR.r1 {M : ZM} {t : Nat} {G : Gm} (h : TR M t G) {r : Int} (h0 : 0 ≤ r) (h1 : r < G 5) : zI M (t + 11 + 2 * r.toNat) 1 = (G (132 + 16 * r + 1).toNat) := (h.1.2.2.1 r h0 h1).2.1
theorem TR.r2 {M : ZM} {t : Nat} {G : Gm} (h : TR M t G) {r : Int} (h0 : 0 ≤ r) (h1 : r < G 5) : zI M (t + 11 + 2 * r.toNat) 2 = (G (132 + 16 * r + 2).toNat) := (h.1.2.2.1 r h0 h1).2.2.1
theorem TR.r3 {M : ZM} {t : Nat} {G : Gm} (h : TR M t G) {r : Int} (h0 : 0 ≤ r) (h1 : r < G 5) : zI M (t + 11 + 2 * r.toNat) 3 = b2i (decide ((G (132 + 16 * r + 3).toNat) ≠ -1)) := (h.1.2.2.1 r h0 h1).2.2.2.1
theorem TR.r4 {M : ZM} {t : Nat} {G : Gm} (h : TR M t G) {r : Int} (h0 : 0 ≤ r) (h1 : r < G 5) : zI M (t + 11 + 2 * r.toNat) 4 = (G (132 + 16 * r + 3).toNat) := (h.1.2.2.1 r h0 h1).2.2.2.2.1
theorem TR.r5 {M : ZM} {t : Nat} {G : Gm} (h : TR M t G) {r : Int} (h0 : 0 ≤ r) (h1 : r < G 5) : zI M (t + 11 + 2 * r.toNat) 5 = (G (132 + 16 * r + 4).toNat) := (h.1.2.2.1 r h0 h1).2.2.2.2.2.1
theorem TR.r8 {M : ZM} {t : Nat} {G : Gm} (h : TR M t G) {r : Int} (h0 : 0 ≤ r) (h1 : r < G 5) : zI M (t + 11 + 2 * r.toNat) 8 = (G (132 + 16 * r + 6).toNat) := (h.1.2.2.1 r h0 h1).2.2.2.2.2.2.1
theorem TR.rf {M : ZM} {t : Nat} {G : Gm} (h : TR M t G) {r : Int} (h0 : 0 ≤ r) (h1 : r < G 5) (h2 : (G (132 + 16 * r + 1).toNat) = 2) : (0 ≤ zI M (t + 11 + 2 * r.toNat) 6 ∧ zI M (t + 11 + 2 * r.toNat) 6 < 6) ∧ (0 ≤ zI M (t + 11 + 2 * r.toNat) 7 ∧ zI M (t + 11 + 2 * r.toNat) 7 < 6) ∧ zI M (t + 11 + 2 * r.toNat) 6 ≠ zI M (t + 11 + 2 * r.toNat) 7 ∧ zI M (t + 11 + 2 * r.toNat) 6 < G 4 ∧ zI M (t + 11 + 2 * r.toNat) 7 < G 4 ∧ (G (132 + 16 * r + 5).toNat) = zor (zshl 1 (zI M (t + 11 + 2 * r.toNat) 6)) (zshl 1 (zI M (t + 11 + 2 * r.toNat) 7)) := (h.1.2.2.1 r h0 h1).2.2.2.2.2.2.2.1 h2
theorem TR.k0 {M : ZM} {t : Nat} {G : Gm} (h : TR M t G) {r k : Int} (h0 : 0 ≤ r) (h1 : r < G 5) (h2 : 0 ≤ k) (h3 : k < (G (132 + 16 * r + 6).toNat)) : zI M (t + 11 + 2 * r.toNat + 1) (k * 3).toNat = (G (132 + 16 * r + (7 + 3 * k + 0)).toNat) := ((h.1.2.2.1 r h0 h1).2.2.2.2.2.2.2.2 k h2 h3).1
theorem TR.k1 {M : ZM} {t : Nat} {G : Gm} (h : TR M t G) {r k : Int} (h0 : 0 ≤ r) (h1 : r < G 5) (h2 : 0 ≤ k) (h3 : k < (G (132 + 16 * r + 6).toNat)) : zI M (t + 11 + 2 * r.toNat + 1) (k * 3 + 1).toNat = (G (132 + 16 * r + (7 + 3 * k + 1)).toNat) := ((h.1.2.2.1 r h0 h1).2.2.2.2.2.2.2.2 k h2 h3).2.1
theorem TR.k2 {M : ZM} {t : Nat} {G : Gm} (h : TR M t G) {r k : Int} (h0 : 0 ≤ r) (h1 : r < G 5) (h2 : 0 ≤ k) (h3 : k < (G (132 + 16 * r + 6).toNat)) : zI M (t + 11 + 2 * r.toNat + 1) (k * 3 + 2).toNat = (G (132 + 16 * r + (7 + 3 * k + 2)).toNat) := ((h.1.2.2.1 r h0 h1).2.2.2.2.2.2.2.2 k h2 h3).2.2
theorem TR.st {M : ZM} {t : Nat} {G : Gm} (h : TR M t G) {a b : Int} (h0 : 0 ≤ a) (h1 : a < 6) (h2 : 0 ≤ b) (h3 : b < 6) : zI M (t + 3) (fPix a b).toNat = (G (96 + 6 * a + b).toNat) := (h.1.2.2.2 a b h0 h1 h2 h3).1
theorem TR.to {M : ZM} {t : Nat} {G : Gm} (h : TR M t G) {a b : Int} (h0 : 0 ≤ a) (h1 : a < 6) (h2 : 0 ≤ b) (h3 : b < 6) : zI M (t + 4) (fPix a b).toNat = (G (60 + 6 * a + b).toNat) := (h.1.2.2.2 a b h0 h1 h2 h3).2
