/-! load's text: statements -/
def nbl (l : List Int) : Prop := ∃ c t, l = c :: t ∧ c ≠ 32 ∧ c ≠ 10
def St (B : Gm) (n : Int) (e : E3) (l : List Int) : Prop := ∃ p, e = (0, -1, p) ∧ AtB B n p l
theorem kwT_a : ∀ i : Fin 11, kwT i.val ≠ [] ∧ ∀ y, y ∈ kwT i.val → kdc y = 0 := by decide
theorem kwT_k {i : Nat} (h : i < 11) : kwT i ≠ [] ∧ ∀ y, y ∈ kwT i → kdc y = 0 := kwT_a ⟨i, h⟩
theorem kwT_b : ∀ i j : Fin 11, kwT i.val = kwT j.val → i = j := by decide
theorem kwT_j {i j : Nat} (hi : i < 11) (hj : j < 11) (h : kwT i = kwT j) : i = j := by
  have h9 := kwT_b ⟨i, hi⟩ ⟨j, hj⟩ h
  exact congrArg Fin.val h9
theorem kdc_nb {y : Int} (h : kdc y = 0 ∨ kdc y = 1) : y ≠ 32 ∧ y ≠ 10 := by
  refine ⟨fun z => ?_, fun z => ?_⟩
  · subst z; exact absurd h (by decide)
  · subst z; exact absurd h (by decide)
theorem nbl_kw {i : Nat} (hi : i < 11) {l : List Int} : nbl (kwT i ++ l) := by
  obtain ⟨h1, h2⟩ := kwT_k hi
  cases h : kwT i with
  | nil => exact absurd h h1
  | cons c t => exact ⟨c, t ++ l, rfl, kdc_nb (Or.inl (h2 c (by rw [h]; exact List.mem_cons_self)))⟩
theorem nbl_dig {v : Int} (hv : 0 ≤ v ∧ v < 100) {l : List Int} : nbl (dig v ++ l) := by
  rw [dig_e hv]
  split
  · exact ⟨48 + v, l, rfl, by omega, by omega⟩
  · exact ⟨48 + v / 10, _, rfl, by omega, by omega⟩
/-- a word and a blank -/
theorem St.go {B : Gm} {n : Int} {e : E3} {w l : List Int} (h : St B n e (w ++ 32 :: l)) (hw : w ≠ []) (hl : ∀ y, y ∈ w → kdc y = 0) (hn : nbl l) : St B n (eGo B n e) l := by
  obtain ⟨p, rfl, hp⟩ := h
  obtain ⟨c, t, rfl, hc⟩ := hn
  cases w with
  | nil => exact absurd rfl hw
  | cons x w =>
    have h9 := eGo_w hp hc hl
    exact ⟨_, h9.1, h9.2⟩
/-- a word ahead of a sign -/
theorem St.gon {B : Gm} {n c : Int} {e : E3} {w l : List Int} (h : St B n e (w ++ c :: l)) (hw : w ≠ []) (hl : ∀ y, y ∈ w → kdc y = 0) (hk : kdc c ≠ 0) (hc : c ≠ 32 ∧ c ≠ 10) : St B n (eGo B n e) (c :: l) := by
  obtain ⟨p, rfl, hp⟩ := h
  cases w with
  | nil => exact absurd rfl hw
  | cons x w =>
    have hE := tkE_at hp (by decide) hl hk
    refine ⟨p + ((x :: w).length : Int), ?_, hp.dr⟩
    show (0, -1, tkS B n (tkE B n p)) = _
    rw [hE, tkS_0 hp.dr hc]
theorem St.is {B : Gm} {n c : Int} {e : E3} {w l : List Int} (h : St B n e (w ++ c :: l)) (hw : w ≠ []) (hl : ∀ y, y ∈ w → kdc y = 0) (hk : kdc c ≠ 0) (v : List Int) : eIs B n v e = true ↔ v = w := by
  obtain ⟨p, rfl, hp⟩ := h
  cases w with
  | nil => exact absurd rfl hw
  | cons x w =>
    have h9 := isKw_at hp hl hk v
    rw [← h9]
    unfold eIs
    show (decide ((0 : Int) = 0) && isKw B n p v) = true ↔ _
    rw [decide_eq_true rfl, Bool.true_and]
/-- a keyword and a blank -/
theorem St.kw {B : Gm} {n : Int} {e : E3} {i : Nat} {l : List Int} (hi : i < 11) (h : St B n e (kwT i ++ 32 :: l)) (hn : nbl l) : St B n (eKw B n (kwT i) e) l ∧ St B n (eGo B n e) l ∧ ∀ j : Nat, j < 11 → (eIs B n (kwT j) e = true ↔ j = i) := by
  obtain ⟨h1, h2⟩ := kwT_k hi
  have hg := h.go h1 h2 hn
  have his := fun v => h.is h1 h2 (by decide) v
  refine ⟨?_, hg, fun j hj => ⟨fun z => kwT_j hj hi ((his _).mp z), fun z => by rw [z]; exact (his _).mpr rfl⟩⟩
  unfold eKw
  rw [if_pos ((his _).mpr rfl)]
  exact hg
theorem St.look {B : Gm} {n v c lo hi : Int} {e : E3} {l : List Int} (h : St B n e (dig v ++ c :: l)) (hv : 0 ≤ v ∧ v < 100) (hk : kdc c ≠ 1) (hlo : lo ≤ v ∧ v ≤ hi) : eLook B n lo hi e = e ∧ eVal B n lo hi e = v ∧ tkV B e.2.2 (tkE B n e.2.2) = v ∧ e.1 = 0 := by
  obtain ⟨p, rfl, hp⟩ := h
  have h9 := eLook_at hv hp hk hlo
  exact ⟨h9.1, h9.2, (num_at hv hp hk).2.2, rfl⟩
theorem St.num {B : Gm} {n v lo hi : Int} {e : E3} {l : List Int} (h : St B n e (dig v ++ 32 :: l)) (hv : 0 ≤ v ∧ v < 100) (hn : nbl l) (hlo : lo ≤ v ∧ v ≤ hi) : St B n (eNum B n lo hi e) l ∧ eVal B n lo hi e = v := by
  have hL := h.look hv (by decide) hlo
  obtain ⟨p, rfl, hp⟩ := h
  obtain ⟨c, t, rfl, hc⟩ := hn
  have h9 := eNum_s hv hp hc hlo
  exact ⟨⟨_, h9.1, h9.2⟩, hL.2.1⟩
theorem St.numc {B : Gm} {n v lo hi : Int} {e : E3} {l : List Int} (h : St B n e (dig v ++ 59 :: l)) (hv : 0 ≤ v ∧ v < 100) (hlo : lo ≤ v ∧ v ≤ hi) : St B n (eNum B n lo hi e) (59 :: l) ∧ eVal B n lo hi e = v := by
  have hL := h.look hv (by decide) hlo
  obtain ⟨p, rfl, hp⟩ := h
  have h9 := eNum_c hv hp hlo
  exact ⟨⟨_, h9.1, h9.2⟩, hL.2.1⟩
theorem St.semi {B : Gm} {n : Int} {e : E3} {l : List Int} (h : St B n e (59 :: l)) (hl : l = [] ∨ nbl l) : St B n (eSemi B n e) l := by
  obtain ⟨p, rfl, hp⟩ := h
  rcases hl with z | ⟨c, t, z, hc⟩
  · subst z
    exact ⟨p + 1, eSemi_e hp, hp.tl⟩
  · subst z
    exact ⟨p + 1, eSemi_n hp hc, hp.tl⟩
/-- a worker's name -/
def nml (i : Int) : List Int := [119, 97 + i]
theorem nml_k {i : Int} (hi : 0 ≤ i ∧ i < 6) : nml i ≠ [] ∧ ∀ y, y ∈ nml i → kdc y = 0 := by
  refine ⟨fun z => List.cons_ne_nil _ _ z, fun y hy => ?_⟩
  simp only [nml, List.mem_cons, List.not_mem_nil, or_false] at hy
  unfold kdc
  rcases hy with e | e
  · rw [e, if_pos (by decide)]
  · rw [e, if_pos (by omega)]
theorem nml_v (i : Int) : nmv (nml i) = 622 + i := by
  show 27 * (27 * 0 + (119 - 96)) + (97 + i - 96) = 622 + i
  omega
theorem St.name {B : Gm} {n i c : Int} {e : E3} {l : List Int} (h : St B n e (nml i ++ c :: l)) (hi : 0 ≤ i ∧ i < 6) (hk : kdc c ≠ 0) : eName B n e = e ∧ eNm B n e = 622 + i ∧ e.1 = 0 := by
  obtain ⟨h1, h2⟩ := nml_k hi
  have his := fun v => h.is h1 h2 hk v
  have hno : isKey B n e = false := by
    refine Bool.eq_false_iff.mpr (fun z => ?_)
    obtain ⟨j, hj, hjj⟩ := isKey_iff.mp z
    have h9 := (his _).mp hjj
    have h8 := kwT_l ⟨j, hj⟩
    rw [h9] at h8
    exact absurd h8.2 (by show ¬ 3 ≤ 2; decide)
  obtain ⟨p, rfl, hp⟩ := h
  have hE : tkE B n p = p + 2 := tkE_at (w := [97 + i]) hp (by decide) h2 hk
  have hK : tkK B n p = 0 := (tkK_at (l := (97 + i) :: c :: l) hp).trans (h2 119 (List.mem_cons_self))
  have en : eName B n (0, -1, p) = (0, -1, p) := by
    unfold eName
    rw [if_neg ?_]
    rintro ⟨-, z | z | z⟩
    · exact z hK
    · have z' : 6 < tkE B n p - p := z
      omega
    · rw [hno] at z; exact absurd z (by decide)
  refine ⟨en, ?_, rfl⟩
  unfold eNm
  rw [en, if_pos rfl]
  show fNmF B p (tkE B n p) = _
  rw [hE]
  have h9 := fNm_bl B p 2
  rw [show p + ((2 : Nat) : Int) = p + 2 by omega] at h9
  rw [h9, ← nml_v i]
  refine congrArg nmv (bl_eq (l := nml i) (fun k hk => ?_)).symm
  have h0 := hp.1
  have h7 := hp.2.2 k (by rw [List.length_append]; omega)
  rw [show (p + (k : Int)).toNat = p.toNat + k by omega, h7, List.getD_eq_getElem?_getD, List.getElem?_append_left hk, ← List.getD_eq_getElem?_getD]
/-- the table -/
theorem St.pt {B : Gm} {n a b c : Int} {e : E3} {l : List Int} (ha : 0 ≤ a ∧ a ≤ 20) (hb : 1 ≤ b ∧ b ≤ 50) (hc : 0 ≤ c ∧ c ≤ 19) (h : St B n e (kwT 0 ++ 32 :: (kwT 1 ++ 32 :: (dig a ++ 32 :: (kwT 2 ++ 32 :: (dig b ++ 32 :: (kwT 3 ++ 32 :: (dig c ++ 59 :: l)))))))) (hl : l = [] ∨ nbl l) (G : Gm) : St B n (eSemi B n (ePT B n e)) l ∧ gPT B n G e = gU (gU (gU G 0 a) 1 b) 2 c := by
  have h1 := (h.kw (by decide) (nbl_kw (by decide))).1
  have h2 := (h1.kw (by decide) (nbl_dig (by omega))).1
  have h3 := h2.num (lo := 0) (hi := 20) (by omega) (nbl_kw (by decide)) (by omega)
  have h4 := (h3.1.kw (by decide) (nbl_dig (by omega))).1
  have h5 := h4.num (lo := 1) (hi := 50) (by omega) (nbl_kw (by decide)) (by omega)
  have h6 := (h5.1.kw (by decide) (nbl_dig (by omega))).1
  have h7 := h6.numc (lo := 0) (hi := 19) (by omega) (by omega)
  refine ⟨h7.1.semi hl, ?_⟩
  unfold gPT
  rw [h3.2, h5.2, h7.2]
/-- names of the workers -/
def NMS (G : Gm) : Prop := ∀ w : Int, 0 ≤ w → w < G 4 → G (6 + 9 * w + 0).toNat = 622 + w
theorem NMS.no {G : Gm} (h : NMS G) (h4 : 0 ≤ G 4) : fWith G (622 + G 4) = -1 := by
  rcases fndI_r (fun w => decide ((G (6 + 9 * w + 0).toNat) = 622 + G 4)) h4 with z | z
  · exact z.1
  · have h9 := of_decide_eq_true z.2.2.1
    have h8 := h _ z.1 z.2.1
    exfalso
    omega
theorem NMS.fd {G : Gm} {i : Int} (h : NMS G) (h0 : 0 ≤ i) (h1 : i < G 4) : fWith G (622 + i) = i := by
  rcases fndI_r (fun w => decide ((G (6 + 9 * w + 0).toNat) = 622 + i)) (show 0 ≤ G 4 by omega) with z | z
  · have h9 := of_decide_eq_false (z.2 i h0 h1)
    exact absurd (h i h0 h1) h9
  · have h9 := of_decide_eq_true z.2.2.1
    have h8 := h _ z.1 z.2.1
    show fndI (fun w => decide ((G (6 + 9 * w + 0).toNat) = 622 + i)) (G 4) = i
    omega
def sWK (i t q r : Int) (l : List Int) : List Int := kwT 4 ++ 32 :: (nml i ++ 32 :: (kwT 5 ++ 32 :: (dig t ++ 32 :: (kwT 6 ++ 32 :: (dig q ++ 32 :: (kwT 7 ++ 32 :: (dig r ++ 59 :: l)))))))
def sRW (m z : Int) (l : List Int) : List Int := kwT 8 ++ 32 :: (dig m ++ 32 :: (kwT 9 ++ 32 :: (dig z ++ 59 :: l)))
def sBR (i j : Int) (l : List Int) : List Int := kwT 10 ++ 32 :: (nml i ++ 32 :: (nml j ++ 59 :: l))
theorem nbl_nm {i : Int} {l : List Int} : nbl (nml i ++ l) := ⟨119, (97 + i) :: l, rfl, by decide, by decide⟩
theorem St.wk {B : Gm} {n i t q r : Int} {e : E3} {l : List Int} {G : Gm} (hN : NMS G) (h4 : G 4 = i) (hi : 0 ≤ i ∧ i < 6) (ht : 0 ≤ t ∧ t ≤ 5) (hq : 1 ≤ q ∧ q ≤ 5) (hr : 0 ≤ r ∧ r ≤ 20) (h : St B n e (sWK i t q r l)) (hl : l = [] ∨ nbl l) : St B n (eST B n G e) l ∧ gST B n G e = F_wk G (622 + i) t q r := by
  have k := h.kw (by decide) nbl_nm
  have e0 : w0 B n G e = eGo B n e := by
    unfold w0
    rw [if_neg (by omega)]
  have hn := k.2.1.name hi (by decide)
  have e1 : w1 B n G e = eGo B n e := by
    unfold w1
    rw [e0, hn.1, hn.2.1]
    rw [if_neg (fun z => z.2 (by rw [← h4]; exact hN.no (by omega)))]
  obtain ⟨n1, n2⟩ := nml_k hi
  have g1 := k.2.1.go n1 n2 (nbl_kw (by decide))
  have g2 := (g1.kw (by decide) (nbl_dig (by omega))).1
  have g3 := g2.num (lo := 0) (hi := 5) (by omega) (nbl_kw (by decide)) (by omega)
  have g4 := (g3.1.kw (by decide) (nbl_dig (by omega))).1
  have g5 := g4.num (lo := 1) (hi := 5) (by omega) (nbl_kw (by decide)) (by omega)
  have g6 := g5.1.kw (by decide) (nbl_dig (by omega))
  have g7 := g6.1.numc (lo := 0) (hi := 20) (by omega) (by omega)
  have f2 : w2 B n G e = eKw B n (kwT 5) (eGo B n (eGo B n e)) := by unfold w2; rw [e1]
  have f3 : w3 B n G e = eKw B n (kwT 6) (eNum B n 0 5 (eKw B n (kwT 5) (eGo B n (eGo B n e)))) := by unfold w3; rw [f2]
  have f4 : w4 B n G e = eNum B n 1 5 (eKw B n (kwT 6) (eNum B n 0 5 (eKw B n (kwT 5) (eGo B n (eGo B n e))))) := by unfold w4; rw [f3]
  have i4 := (k.2.2 4 (by decide)).mpr rfl
  have i7 := (g6.2.2 7 (by decide)).mpr rfl
  have eP : ePW B n G e = eNum B n 0 20 (eKw B n (kwT 7) (eNum B n 1 5 (eKw B n (kwT 6) (eNum B n 0 5 (eKw B n (kwT 5) (eGo B n (eGo B n e))))))) := by
    unfold ePW
    rw [f4, if_pos i7]
  have eT : tPW B n G e = r := by
    unfold tPW
    rw [f4, if_pos i7, g7.2]
  refine ⟨?_, ?_⟩
  · unfold eST
    rw [if_pos i4, eP]
    exact g7.1.semi hl
  · unfold gST
    rw [if_pos i4]
    unfold gPW
    rw [eT, eP, e0, f2, f3, hn.2.1, g3.2, g5.2]
    obtain ⟨p, hp, -⟩ := g7.1
    rw [hp, if_pos rfl]
theorem St.rw {B : Gm} {n m z : Int} {e : E3} {l : List Int} {G : Gm} (h5 : G 5 + m ≤ 24) (hm : 1 ≤ m ∧ m ≤ 24) (hz : 1 ≤ z ∧ z ≤ 9) (h : St B n e (sRW m z l)) (hl : l = [] ∨ nbl l) : St B n (eST B n G e) l ∧ gST B n G e = fRows G m z := by
  have k := h.kw (by decide) (nbl_dig (by omega))
  have hk := k.2.1.look (lo := 1) (hi := 24) (by omega) (by decide) (by omega)
  have e1 : r1 B n e = eGo B n e := hk.1
  have e2 : r2 B n G e = eGo B n e := by
    unfold r2
    rw [e1, hk.2.2.1, if_neg (by omega)]
  have g3 := k.2.1.num (lo := 1) (hi := 24) (by omega) (nbl_kw (by decide)) (by omega)
  have g4 := (g3.1.kw (by decide) (nbl_dig (by omega))).1
  have g5 := g4.numc (lo := 1) (hi := 9) (by omega) (by omega)
  have e3 : r3 B n G e = eKw B n (kwT 9) (eNum B n 1 24 (eGo B n e)) := by unfold r3; rw [e2]
  have eP : ePR B n G e = eNum B n 1 9 (eKw B n (kwT 9) (eNum B n 1 24 (eGo B n e))) := by unfold ePR; rw [e3]
  have i4 : ¬ eIs B n (kwT 4) e = true := fun z => absurd ((k.2.2 4 (by decide)).mp z) (by decide)
  have i8 := (k.2.2 8 (by decide)).mpr rfl
  refine ⟨?_, ?_⟩
  · unfold eST
    rw [if_neg i4, if_pos i8, eP]
    exact g5.1.semi hl
  · unfold gST
    rw [if_neg i4, if_pos i8]
    unfold gPR
    rw [eP, e2, e3, g3.2, g5.2]
    obtain ⟨p, hp, -⟩ := g5.1
    rw [hp, if_pos rfl]
theorem St.tld {B : Gm} {n i c : Int} {e : E3} {l : List Int} {G : Gm} (hN : NMS G) (hi : 0 ≤ i ∧ i < G 4) (h6 : G 4 ≤ 6) (h : St B n e (nml i ++ c :: l)) (hk : kdc c ≠ 0) : eTold B n G e = e ∧ vTold B n G e = i := by
  have hn := h.name (by omega) hk
  have ht : toldW B n G e = i := by
    unfold toldW
    rw [hn.1, hn.2.1, if_pos hn.2.2]
    exact hN.fd hi.1 hi.2
  have e1 : eTold B n G e = e := by
    unfold eTold
    rw [ht, if_neg (by omega), hn.1]
  refine ⟨e1, ?_⟩
  unfold vTold
  rw [e1, if_pos hn.2.2, ht]
theorem St.br {B : Gm} {n i j : Int} {e : E3} {l : List Int} {G : Gm} (hN : NMS G) (h6 : G 4 ≤ 6) (hi : 0 ≤ i ∧ i < G 4) (hj : 0 ≤ j ∧ j < G 4) (hij : i ≠ j) (hf : fFoes G i j = false) (h : St B n e (sBR i j l)) (hl : l = [] ∨ nbl l) : St B n (eST B n G e) l ∧ gST B n G e = gU (gU G (60 + 6 * i + j) 1) (60 + 6 * j + i) 1 := by
  have k := h.kw (by decide) nbl_nm
  have t1 := k.2.1.tld hN hi h6 (by decide)
  obtain ⟨n1, n2⟩ := nml_k (show 0 ≤ i ∧ i < 6 by omega)
  have g1 := k.2.1.go n1 n2 nbl_nm
  have t2 := g1.tld hN hj h6 (by decide)
  obtain ⟨m1, m2⟩ := nml_k (show 0 ≤ j ∧ j < 6 by omega)
  have g2 := g1.gon m1 m2 (by decide) (by decide)
  have e1 : b1 B n G e = eGo B n e := t1.1
  have e2 : b2 B n G e = eGo B n (eGo B n e) := by unfold b2; rw [e1]; exact t2.1
  have ea : ba B n G e = i := t1.2
  have eb : bb B n G e = j := by unfold bb; rw [e1]; exact t2.2
  have eP : ePB B n G e = eGo B n (eGo B n (eGo B n e)) := by
    unfold ePB
    rw [ea, eb, e2, if_neg ?_]
    rintro ⟨-, z | z⟩
    · exact hij z
    · rw [hf] at z; exact absurd z (by decide)
  have i4 : ¬ eIs B n (kwT 4) e = true := fun z => absurd ((k.2.2 4 (by decide)).mp z) (by decide)
  have i8 : ¬ eIs B n (kwT 8) e = true := fun z => absurd ((k.2.2 8 (by decide)).mp z) (by decide)
  have i10 := (k.2.2 10 (by decide)).mpr rfl
  refine ⟨?_, ?_⟩
  · unfold eST
    rw [if_neg i4, if_neg i8, if_pos i10, eP]
    exact g2.semi hl
  · unfold gST
    rw [if_neg i4, if_neg i8, if_pos i10]
    unfold gPB
    rw [eP, ea, eb]
    obtain ⟨p, hp, -⟩ := g2
    rw [hp, if_pos rfl]
