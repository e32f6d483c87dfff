/-! the start: what the premises say of the constants -/
def nF : List Cond := flatC (Jvm.Cond.and given_1 narrow_1)
theorem nF_at {args : Array Value} {s : State} (hg : (Jvm.Cond.and given_1 narrow_1).before args s = true) {i : Nat} {w : Cond} (h : nF[i]? = some w) : w.before args s = true := flat_of_before _ hg w (List.mem_of_getElem? h)
def kwN : List String := ["TABLE", "TOLERANCE", "PATIENCE", "LEAST", "WORKER", "TEAM", "QUOTA", "TRUST", "ROWS", "SIZE", "BAR"]
def kwI : List Nat := [61, 67, 70, 73, 76, 79, 82, 85, 88, 91, 94]
def mdI : List Nat := [253, 254, 256, 258, 260, 262, 264, 266, 268, 269, 271]
def kwB : List Nat := [5, 12, 16, 21, 27, 258, 266, 275, 285, 296, 308]
def sBs : List Nat := [1109, 1119, 1133, 1146, 1156, 1167, 1176, 1186, 1196, 1205, 1214, 1007, 1016, 1029, 1041, 1050, 1060, 1068, 1077, 1086, 1094, 1102, 441]
def kwS (i : Nat) : Term := Term.static "ReviewTable$Keyword" (kwN.getD i "") "LReviewTable$Keyword;"
def cT (i : Nat) : Term := if i < 11 then Term.string "ReviewTable$Keyword" (kwI.getD i 0) else if i < 22 then Term.string "ReviewTableModel" (mdI.getD (i - 11) 0) else Term.string "ReviewTable$Worker" 7
def cL (i : Nat) : List Int := if i < 22 then kwT (i % 11) else []
def cV (i : Nat) : Term := Term.field (cT i) "java/lang/String" "value" "[B"
def tKW : Term := Term.static "ReviewTable$Parser" "KEYWORDS" "[LReviewTable$Keyword;"
def tD1 : Term := Term.static "java/lang/Integer" "DigitOnes" "[B"
def tD2 : Term := Term.static "java/lang/Integer" "DigitTens" "[B"
set_option maxRecDepth 100000 in
theorem s_ex : ∀ i, i < 23 → nF[sBs.getD i 0]? = some (Cond.exactly (cT i) "java/lang/String") := by decide +kernel
set_option maxRecDepth 100000 in
theorem s_co : ∀ i, i < 23 → nF[sBs.getD i 0 + 1]? = some (Cond.eq (Term.field (cT i) "java/lang/String" "coder" "B") (Term.int 0)) := by decide +kernel
set_option maxRecDepth 100000 in
theorem s_ar : ∀ i, i < 23 → nF[sBs.getD i 0 + 2]? = some (Cond.arrayOf (cV i) .byte) := by decide +kernel
set_option maxRecDepth 100000 in
theorem s_le : ∀ i, i < 23 → nF[sBs.getD i 0 + 3]? = some (Cond.eq (Term.length (cV i)) (Term.int (Int32.ofNat (cL i).length))) := by decide +kernel
set_option maxRecDepth 100000 in
theorem s_el : ∀ i, i < 23 → ∀ j, j < (cL i).length → nF[sBs.getD i 0 + 4 + j]? = some (Cond.eq (Term.elem (cV i) (Term.int (Int32.ofNat j))) (Term.int (Int32.ofInt ((cL i).getD j 0)))) := by decide +kernel
set_option maxRecDepth 100000 in
theorem k_ex : ∀ i, i < 11 → nF[kwB.getD i 0]? = some (Cond.exactly (kwS i) "ReviewTable$Keyword") := by decide +kernel
set_option maxRecDepth 100000 in
theorem k_tx : ∀ i, i < 11 → nF[kwB.getD i 0 + 2]? = some (Cond.eq (Term.field (kwS i) "ReviewTable$Keyword" "text" "Ljava/lang/String;") (cT i)) := by decide +kernel
set_option maxRecDepth 100000 in
theorem w_ar : nF[36]? = some (Cond.arrayOf tKW (.object "ReviewTable$Keyword")) ∧ nF[37]? = some (Cond.eq (Term.length tKW) (Term.int (Int32.ofNat 11))) ∧ ∀ j, j < 11 → nF[39 + j]? = some (Cond.eq (Term.elem tKW (Term.int (Int32.ofNat j))) (kwS j)) := by decide +kernel
set_option maxRecDepth 100000 in
theorem d_1 : nF[51]? = some (Cond.arrayOf tD1 .byte) ∧ nF[52]? = some (Cond.eq (Term.length tD1) (Term.int (Int32.ofNat 100))) ∧ ∀ j, j < 100 → nF[53 + j]? = some (Cond.eq (Term.elem tD1 (Term.int (Int32.ofNat j))) (Term.int (Int32.ofInt (48 + (j : Int) % 10)))) := by decide +kernel
set_option maxRecDepth 100000 in
theorem d_2 : nF[154]? = some (Cond.arrayOf tD2 .byte) ∧ nF[155]? = some (Cond.eq (Term.length tD2) (Term.int (Int32.ofNat 100))) ∧ ∀ j, j < 100 → nF[156 + j]? = some (Cond.eq (Term.elem tD2 (Term.int (Int32.ofNat j))) (Term.int (Int32.ofInt (48 + (j : Int) / 10)))) := by decide +kernel
set_option maxRecDepth 100000 in
theorem o_1 : nF[4]? = some (Cond.eq (Term.static "java/lang/String" "COMPACT_STRINGS" "Z") (Term.int 1)) ∧ nF[256]? = some (Cond.isRef (.static Bundle.tN "UNASSIGNED_STACK" Bundle.steD)) ∧ nF[257]? = some (Cond.isRef (.static Bundle.tN "SUPPRESSED_SENTINEL" Bundle.listD)) ∧ nF[8]? = some (Cond.isRef (.static "jdk/internal/util/Preconditions" "SIOOBE_FORMATTER" "Ljava/util/function/BiFunction;")) := by decide +kernel
set_option maxRecDepth 100000 in
theorem o_2 : nF[366]? = some (Cond.not (Cond.castable xIA xIO)) ∧ nF[365]? = some (Cond.not (Cond.castable xIS xIO)) ∧ nF[348]? = some (Cond.not (Cond.castable xIS xIA)) := by decide +kernel
set_option maxRecDepth 100000 in
theorem l_ex : ∀ q ∈ zLS, Cond.exactly (Term.string q.1 q.2.1) "java/lang/String" ∈ nF := by decide +kernel
set_option maxRecDepth 100000 in
theorem l_sr : ∀ q ∈ zLS, Cond.stringRef q.1 q.2.1 q.2.2.1 ∈ lw_tbl := by decide +kernel
set_option maxRecDepth 100000 in
theorem z_ls : ∀ q ∈ zST, Cond.laysStatic q.1 q.2.1 q.2.2.1 ∈ lw_tbl ∧ Cond.initialized q.1 ∈ lw_tbl := by decide +kernel
set_option maxRecDepth 100000 in
theorem t_ls : (Cond.laysStatic Bundle.tN "UNASSIGNED_STACK" Bundle.steD ∈ lw_tbl ∧ Cond.laysStatic Bundle.tN "SUPPRESSED_SENTINEL" Bundle.listD ∈ lw_tbl ∧ Cond.initialized Bundle.tN ∈ lw_tbl) ∧ Cond.laysStatic "jdk/internal/util/Preconditions" "SIOOBE_FORMATTER" "Ljava/util/function/BiFunction;" ∈ lw_tbl ∧ Cond.initialized "jdk/internal/util/Preconditions" ∈ lw_tbl := by decide +kernel
set_option maxRecDepth 100000 in
theorem x_ws : ∀ w ∈ zXW, w ∈ lw_tbl := by decide +kernel
set_option maxRecDepth 100000 in
theorem v_ws : ∀ q ∈ vwCl, (∀ w ∈ u_ws q.1 q.2.1 q.2.2, w ∈ lw_tbl) ∧ Cond.instantiable q.1 q.2.2 ∈ lw_tbl := by decide +kernel
