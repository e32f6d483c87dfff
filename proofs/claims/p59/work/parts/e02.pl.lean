/-! the start: what the premises say of the constants -/
def nF : List Cond := flatC (Jvm.Cond.and given_1 narrow_1)
theorem nF_at {args : Array Value} {s : State} (hg : (Jvm.Cond.and given_1 narrow_1).before args s = true) {i : Nat} {w : Cond} (h : nF[i]? = some w) : w.before args s = true := flat_of_before _ hg w (List.mem_of_getElem? h)
def kwN : List String := ["TABLE", "TOLERANCE", "PATIENCE", "LEAST", "WORKER", "TEAM", "QUOTA", "TRUST", "ROWS", "SIZE", "BAR"]
def kwI : List Nat := [61, 67, 70, 73, 76, 79, 82, 85, 88, 91, 94]
def lwI : List Nat := [46, 54, 59, 61, 63, 68, 70, 72, 74, 76, 78, 80]
def kwB : List Nat := [217, 220, 224, 229, 235, 258, 266, 275, 285, 296, 308]
def sBs : List Nat := [885, 894, 907, 919, 928, 938, 946, 955, 964, 972, 980, 407, 427, 441, 452, 457, 469, 479, 490, 501, 510, 520, 529, 376]
def kwS (i : Nat) : Term := Term.static "ReviewTable$Keyword" (kwN.getD i "") "LReviewTable$Keyword;"
def cT (i : Nat) : Term := if i < 11 then Term.string "ReviewTable$Keyword" (kwI.getD i 0) else if i < 23 then Term.string "ReviewTableLaw" (lwI.getD (i - 11) 0) else Term.string "ReviewTable$Worker" 7
def cL (i : Nat) : List Int := if i < 11 then kwT i else if i < 23 then lwT (i - 11) else []
def cV (i : Nat) : Term := Term.field (cT i) "java/lang/String" "value" "[B"
def tKW : Term := Term.static "ReviewTable$Parser" "KEYWORDS" "[LReviewTable$Keyword;"
def tD1 : Term := Term.static "java/lang/Integer" "DigitOnes" "[B"
def tD2 : Term := Term.static "java/lang/Integer" "DigitTens" "[B"
set_option maxRecDepth 100000 in
theorem s_ex : ∀ i, i < 24 → nF[sBs.getD i 0]? = some (Cond.exactly (cT i) "java/lang/String") := by decide +kernel
set_option maxRecDepth 100000 in
theorem s_co : ∀ i, i < 24 → nF[sBs.getD i 0 + 1]? = some (Cond.eq (Term.field (cT i) "java/lang/String" "coder" "B") (Term.int 0)) := by decide +kernel
set_option maxRecDepth 100000 in
theorem s_ar : ∀ i, i < 24 → nF[sBs.getD i 0 + 2]? = some (Cond.arrayOf (cV i) .byte) := by decide +kernel
set_option maxRecDepth 100000 in
theorem s_le : ∀ i, i < 24 → nF[sBs.getD i 0 + 3]? = some (Cond.eq (Term.length (cV i)) (Term.int (Int32.ofNat (cL i).length))) := by decide +kernel
set_option maxRecDepth 100000 in
theorem s_el : ∀ i, i < 24 → ∀ j, j < (cL i).length → nF[sBs.getD i 0 + 4 + j]? = some (Cond.eq (Term.elem (cV i) (Term.int (Int32.ofNat j))) (Term.int (Int32.ofInt ((cL i).getD j 0)))) := by decide +kernel
set_option maxRecDepth 100000 in
theorem k_ex : ∀ i, i < 11 → nF[kwB.getD i 0]? = some (Cond.exactly (kwS i) "ReviewTable$Keyword") := by decide +kernel
set_option maxRecDepth 100000 in
theorem k_tx : ∀ i, i < 11 → nF[kwB.getD i 0 + 2]? = some (Cond.eq (Term.field (kwS i) "ReviewTable$Keyword" "text" "Ljava/lang/String;") (cT i)) := by decide +kernel
set_option maxRecDepth 100000 in
theorem w_ar : nF[244]? = some (Cond.arrayOf tKW (.object "ReviewTable$Keyword")) ∧ nF[245]? = some (Cond.eq (Term.length tKW) (Term.int (Int32.ofNat 11))) ∧ ∀ j, j < 11 → nF[247 + j]? = some (Cond.eq (Term.elem tKW (Term.int (Int32.ofNat j))) (kwS j)) := by decide +kernel
set_option maxRecDepth 100000 in
theorem d_1 : nF[12]? = some (Cond.arrayOf tD1 .byte) ∧ nF[13]? = some (Cond.eq (Term.length tD1) (Term.int (Int32.ofNat 100))) ∧ ∀ j, j < 100 → nF[14 + j]? = some (Cond.eq (Term.elem tD1 (Term.int (Int32.ofNat j))) (Term.int (Int32.ofInt (48 + (j : Int) % 10)))) := by decide +kernel
set_option maxRecDepth 100000 in
theorem d_2 : nF[115]? = some (Cond.arrayOf tD2 .byte) ∧ nF[116]? = some (Cond.eq (Term.length tD2) (Term.int (Int32.ofNat 100))) ∧ ∀ j, j < 100 → nF[117 + j]? = some (Cond.eq (Term.elem tD2 (Term.int (Int32.ofNat j))) (Term.int (Int32.ofInt (48 + (j : Int) / 10)))) := by decide +kernel
set_option maxRecDepth 100000 in
theorem o_1 : nF[4]? = some (Cond.eq (Term.static "java/lang/String" "COMPACT_STRINGS" "Z") (Term.int 1)) ∧ nF[5]? = some (Cond.isRef (.static Bundle.tN "UNASSIGNED_STACK" Bundle.steD)) ∧ nF[6]? = some (Cond.isRef (.static Bundle.tN "SUPPRESSED_SENTINEL" Bundle.listD)) ∧ nF[7]? = some (Cond.isRef (.static "jdk/internal/util/Preconditions" "SIOOBE_FORMATTER" "Ljava/util/function/BiFunction;")) := by decide +kernel
set_option maxRecDepth 100000 in
theorem l_ex : ∀ q ∈ zLS, Cond.exactly (Term.string q.1 q.2.1) "java/lang/String" ∈ nF := by decide +kernel
set_option maxRecDepth 100000 in
theorem l_sr : ∀ q ∈ zLS, Cond.stringRef q.1 q.2.1 q.2.2.1 ∈ lw_tbl := by decide +kernel
set_option maxRecDepth 100000 in
theorem z_ls : ∀ q ∈ zST, Cond.laysStatic q.1 q.2.1 q.2.2.1 ∈ lw_tbl ∧ Cond.initialized q.1 ∈ lw_tbl := by decide +kernel
set_option maxRecDepth 100000 in
theorem t_ls : (Cond.laysStatic Bundle.tN "UNASSIGNED_STACK" Bundle.steD ∈ lw_tbl ∧ Cond.laysStatic Bundle.tN "SUPPRESSED_SENTINEL" Bundle.listD ∈ lw_tbl ∧ Cond.initialized Bundle.tN ∈ lw_tbl) ∧ Cond.laysStatic "jdk/internal/util/Preconditions" "SIOOBE_FORMATTER" "Ljava/util/function/BiFunction;" ∈ lw_tbl ∧ Cond.initialized "jdk/internal/util/Preconditions" ∈ lw_tbl := by decide +kernel
set_option maxRecDepth 100000 in
theorem x_ws : ∀ w ∈ zXW, w ∈ lw_tbl := by decide +kernel
set_option maxRecDepth 100000 in
theorem v_ws : ∀ q ∈ vwCl, (∀ w ∈ u_ws q.1 q.2.1 q.2.2, w ∈ lw_tbl) ∧ Cond.instantiable q.1 q.2.2 ∈ lw_tbl := by decide +kernel
