/-! a method's contract out of its body -/
def zEn : List ZV → List (Option ZV)
  | [] => []
  | v :: vs => cond (Nat.beq (zcat v) 2) (some v :: none :: zEn vs) (some v :: zEn vs)
def zEnt (n : Nat) (av : List ZV) : List (Option ZV) := zEn av ++ List.replicate (n - (zEn av).length) none
theorem zEn_cons1 {v : ZV} (vs : List ZV) (h : zcat v = 1) : zEn (v :: vs) = some v :: zEn vs := by
  show cond (Nat.beq (zcat v) 2) _ _ = _
  rw [h]
  rfl
theorem zEn_cons2 {v : ZV} (vs : List ZV) (h : zcat v = 2) : zEn (v :: vs) = some v :: none :: zEn vs := by
  show cond (Nat.beq (zcat v) 2) _ _ = _
  rw [h]
  rfl
theorem zEn_len (a : Nat → Nat) : ∀ av : List ZV, (lg_sl (av.map (ztr a))).length = (zEn av).length
  | [] => rfl
  | v :: vs => by
    have ih := zEn_len a vs
    have hc := zcat_ok a v
    rcases zcat_12 v with h | h
    · rw [zEn_cons1 vs h]
      simp only [lg_sl, List.map_cons, List.flatMap_cons, hc, h] at ih ⊢
      simp [ih]
    · rw [zEn_cons2 vs h]
      simp only [lg_sl, List.map_cons, List.flatMap_cons, hc, h] at ih ⊢
      simp [ih]
theorem zEn_at (a : Nat → Nat) : ∀ (av : List ZV) (k i : Nat) (v : ZV), (zEn av)[i]? = some (some v) → (k + i, ztr a v) ∈ lv_args k (av.map (ztr a))
  | [], k, i, v, h => by simp [zEn] at h
  | w :: vs, k, i, v, h => by
    have hc := zcat_ok a w
    rcases zcat_12 w with hw | hw
    · rw [zEn_cons1 vs hw] at h
      rw [List.map_cons, lv_args, hc, hw, if_neg (by decide)]
      cases i with
      | zero => simp at h; subst h; exact List.mem_cons_self
      | succ i =>
        rw [List.getElem?_cons_succ] at h
        have := zEn_at a vs (k + 1) i v h
        rw [show k + 1 + i = k + (i + 1) by omega] at this
        exact List.mem_cons_of_mem _ this
    · rw [zEn_cons2 vs hw] at h
      rw [List.map_cons, lv_args, hc, hw, if_pos rfl]
      cases i with
      | zero => simp at h; subst h; exact List.mem_cons_self
      | succ i =>
        rw [List.getElem?_cons_succ] at h
        cases i with
        | zero => simp at h
        | succ i =>
          rw [List.getElem?_cons_succ] at h
          have := zEn_at a vs (k + 2) i v h
          rw [show k + 2 + i = k + (i + 1 + 1) by omega] at this
          exact List.mem_cons_of_mem _ this
theorem zEnt_len {n : Nat} {av : List ZV} (h : (zEn av).length ≤ n) : (zEnt n av).length = n := by simp [zEnt]; omega
theorem zEnt_at {n : Nat} {av : List ZV} {i : Nat} {v : ZV} (h : (zEnt n av)[i]? = some (some v)) : (zEn av)[i]? = some (some v) := by
  rw [zEnt] at h
  by_cases hi : i < (zEn av).length
  · rwa [List.getElem?_append_left hi] at h
  · rw [List.getElem?_append_right (Nat.not_lt.mp hi), List.getElem?_replicate] at h
    split at h
    · cases h
    · cases h
theorem zEn_mem {av : List ZV} {v : ZV} (h : some v ∈ zEn av) : v ∈ av := by
  induction av with
  | nil => cases h
  | cons w vs ih =>
    rcases zcat_12 w with hw | hw
    · rw [zEn_cons1 vs hw] at h
      rcases List.mem_cons.mp h with h | h
      · cases h; exact List.mem_cons_self
      · exact List.mem_cons_of_mem _ (ih h)
    · rw [zEn_cons2 vs hw] at h
      rcases List.mem_cons.mp h with h | h
      · cases h; exact List.mem_cons_self
      · rcases List.mem_cons.mp h with h | h
        · cases h
        · exact List.mem_cons_of_mem _ (ih h)
theorem zEnt_lv {n k : Nat} {av : List ZV} (h : zlvS k av) : zlvL k (zEnt n av) := fun v hv => by
  rcases List.mem_append.mp hv with q | q
  · exact h v (zEn_mem q)
  · exact absurd (List.eq_of_mem_replicate q) (by simp)
theorem zClosed_of {p : Program} {l : Launch} {e : Env} {R : Room} {s : State} {m : MethodId} {args : Array Value} {below : List Frame} {meth : Method} {c : Code} {nL : Nat} {D : va_G} {A : Nat → Prop} {a0 : Nat → Nat} {M0 : ZM} {K : ZRet} {KX : ZEx} {mc ms : Nat} {code : List (Nat × ZTr)}
    (h : ∀ q ∈ code, zSd p l e R s m args below meth c nL D A a0 M0 K KX mc ms q.1 q.2) : zClosed code K KX mc ms (zPhi p l e R s m args below meth c nL D A a0 M0 K KX mc ms) := by
  refine ⟨?_, fun pc L st M k n hf q1 q2 q3 q4 q5 a cy H locs ls hE hO hS hl => hf (zrgL_of q4) (zrgA_of q5) hO.1.2 q1 q2 q1 q2 q3 q4 q5 a cy H locs ls hE hO hS hl, fun pc L i st M k n hf q1 q2 q3 q4 q5 a cy H locs ls hE hO hS hl => hf q1 q2 (by rw [List.length_set]; exact q3) (fun v hv => q4 v (by rcases List.mem_or_eq_of_mem_set hv with z | z; (exact z); cases z)) q5 a cy H locs ls hE hO hS ⟨by rw [List.length_set]; exact hl.1, hl.2.1, fun j v hj => hl.2.2 j v (by
    by_cases e : i = j
    · subst e
      rw [List.getElem?_set] at hj
      split at hj
      · split at hj <;> cases hj
      · contradiction
    · rw [List.getElem?_set_ne e] at hj; exact hj)⟩⟩
  intro Ψ hΨ pc L st M k n hf
  induction code with
  | nil => exact hf.elim
  | cons q r ih =>
    obtain ⟨q, t⟩ := q
    rw [zFetch] at hf
    cases hq : Nat.beq q pc with
    | true =>
      rw [hq] at hf
      have : q = pc := Nat.eq_of_beq_eq_true hq
      subst this
      exact h (q, t) List.mem_cons_self Ψ hΨ L st M k n hf
    | false =>
      rw [hq] at hf
      exact ih (fun z hz => h z (List.mem_cons_of_mem _ hz)) hf
theorem zall_n {p : Nat × ZTr → Prop} : ∀ q ∈ ([] : List (Nat × ZTr)), p q := fun _ h => nomatch h
theorem zall_c {p : Nat × ZTr → Prop} {q : Nat × ZTr} {l : List (Nat × ZTr)} (h : p q) (t : ∀ q ∈ l, p q) : ∀ q' ∈ q :: l, p q' := List.forall_mem_cons.mpr ⟨h, t⟩
theorem zMet_of {l : Launch} (hl : l.stackTraces = false) {y : MethodName} {ws ws' : List Cond} {cc : ByteArray} {maxL : Nat} {rt : Option FieldType} {rm : Room} {mc ms : Nat} {own : String} {code : List (Nat × ZTr)} {T : ZTf}
    (hy : plainName y.cls = true) (hown : y.cls = own) (hw : ws = Cond.code y cc maxL rt :: ws') (hrc : rm.cells = mc) (hrs : rm.slots = ms)
    (hs : ∀ (p : Program) (e : Env) (s : State) (m : MethodId) (args : Array Value) (below : List Frame) (meth : Method) (c : Code) (D : va_G) (A : Nat → Prop) (a0 : Nat → Nat) (M0 : ZM) (K : ZRet) (KX : ZEx), zCtx p l rm s m args meth c cc own ws maxL rt D A a0 M0 mc ms → meth.name = y.name → (∀ x ∈ c.exceptionTable.toList, False) → ∀ q ∈ code, zSd p l e rm s m args below meth c maxL D A a0 M0 K KX mc ms q.1 q.2)
    (hbd : ∀ av M K KX, zrgA av → zrgM M → T av M K KX → Nat.ble (zEn av).length maxL = true ∧ ∀ Φ, zClosed code K KX mc ms Φ → Φ 0 (zEnt maxL av) [] M 0 0) : zMet l y ws rm mc ms T := by
  intro D a M av K KX hT sz
  refine vx_ofW (cc := cc) (maxL := maxL) (ret := rt) hy hw ?_
  intro p e s m args below meth c s₁ B hml hex hPc
  obtain ⟨rfl, hsz, hlv, hK, ⟨cy, hO⟩, hF⟩ := hPc
  subst hsz
  obtain ⟨hlen, hb⟩ := hbd av M K KX (zrgA_of hlv) hO.1.2 hT
  have hlen := Nat.le_of_ble_eq_true hlen
  have hC : zCtx p l rm s m (av.map (ztr a)).toArray meth c cc own ws maxL rt D (zA a M s.heap.size) a M mc ms :=
    ⟨B.exec, B.bytes, hml, by rw [← hown]; exact findClass_of_methodNamed B.named, atoms_spec B.pre, hK, hF, fun q hq => Or.inr hq, B.notSynchronized, B.returns, hl, Nat.le_of_eq hrc.symm, Nat.le_of_eq hrs.symm, hO.1, hO.2.1⟩
  have h9 := hb _ (zClosed_of (hs p e s m _ below meth c D (zA a M s.heap.size) a M K KX hC (name_of_methodNamed B.named B.method).1 hex))
  rw [lg_entry_eq]
  refine h9 (Nat.zero_le _) (Nat.zero_le _) (zEnt_len hlen) (zEnt_lv hlv) (fun v hv => nomatch hv) a cy s.heap [] _ zEx.rf ⟨hO.1, hO.2.1, hO.2.2.1, hO.2.2.2.1, zD_self hO.2.2.2.2⟩ va_S.rf ?_
  have he := lv_entry (av.map (ztr a)) (n := maxL) (by rw [zEn_len]; exact hlen)
  refine ⟨by rw [zEnt_len hlen]; exact he.1, he.2.1, fun i v hv => ?_⟩
  have := zEn_at a av 0 i v (zEnt_at hv)
  rw [Nat.zero_add] at this
  exact he.2.2 _ this
/-- the tables' words that any method has -/
def zG : List Cond := lw_tbl.filter goodWord
theorem zGx {w : Cond} (h : w ∈ lw_selx) (g : goodWord w = true) : w ∈ zG := List.mem_filter.mpr ⟨List.mem_append_left _ h, g⟩
theorem zGs {w : Cond} (h : w ∈ k2_sels lw_privs) (g : goodWord w = true) : w ∈ zG := List.mem_filter.mpr ⟨List.mem_append_right _ (List.mem_append_left _ h), g⟩
theorem zGt {w : Cond} (h : w ∈ tables_1) (g : goodWord w = true) : w ∈ zG := List.mem_filter.mpr ⟨List.mem_append_right _ (List.mem_append_right _ h), g⟩
theorem zGt1 {w : Cond} (h : w ∈ tables_1_1) (g : goodWord w = true) : w ∈ zG := zGt (List.mem_append_left _ h) g
theorem zGt2 {w : Cond} (h : w ∈ tables_1_2) (g : goodWord w = true) : w ∈ zG := zGt (List.mem_append_right _ (List.mem_append_left _ h)) g
theorem zGt3 {w : Cond} (h : w ∈ tables_1_3) (g : goodWord w = true) : w ∈ zG := zGt (List.mem_append_right _ (List.mem_append_right _ (List.mem_append_left _ h))) g
theorem zGt4 {w : Cond} (h : w ∈ tables_1_4) (g : goodWord w = true) : w ∈ zG := zGt (List.mem_append_right _ (List.mem_append_right _ (List.mem_append_right _ (List.mem_append_left _ h)))) g
theorem zGt5 {w : Cond} (h : w ∈ tables_1_5) (g : goodWord w = true) : w ∈ zG := zGt (List.mem_append_right _ (List.mem_append_right _ (List.mem_append_right _ (List.mem_append_right _ (List.mem_append_left _ h))))) g
theorem zGt6 {w : Cond} (h : w ∈ tables_1_6) (g : goodWord w = true) : w ∈ zG := zGt (List.mem_append_right _ (List.mem_append_right _ (List.mem_append_right _ (List.mem_append_right _ (List.mem_append_right _ h))))) g
theorem zG_good {w : Cond} (h : w ∈ zG) : goodWord w = true := (List.mem_filter.mp h).2
/-- a callee's words, as the caller has them -/
theorem zCB {R : Room} {s : State} {args : Array Value} {own : String} {idx : Nat} {y : MethodName} {bytes : ByteArray} {maxL : Nat} {rt : Option FieldType} {rm : Room} {mc ms q : Nat} {w0 : Cond} (ht : ∀ w ∈ w0 :: zG, w.before args s = true) (h1 : Cond.code y bytes maxL rt ∈ zG) (h2 : Cond.initialized y.cls ∈ zG) (h3 : Cond.methodLink own idx y ∈ zG) (hrc : rm.cells = mc) (hrs : rm.slots = ms)
    (hd : (y.cls ≠ "java/lang/invoke/MethodHandle" ∧ y.cls ≠ "java/lang/invoke/VarHandle") ∧ (parseMethodDescriptor y.desc).map (fun d => d.parameters.length) = some q) (hR : rm.frames + 1 ≤ R.frames ∧ 8 + (maxL + 11) + rm.locals ≤ R.locals) : CallB R s args own idx y bytes maxL rt (Cond.code y bytes maxL rt :: zG) rm mc ms q := by
  have ht' : ∀ w ∈ zG, w.before args s = true := fun w hw => ht w (List.mem_cons_of_mem _ hw)
  have hg : ∀ w ∈ zG, ∀ (a' : Array Value) (U : State), s.WarmedH U.vm → w.before a' U = true := fun w hw a' U hW => word_at hW (good_of_word (zG_good hw)) (ht' w hw)
  refine ⟨hrc, hrs, hR.1, hR.2, fun w hw => ?_, List.mem_cons_self, ht' _ h1, ht' _ h2, hd.1, fun sig hsig => ?_, ht' _ h3⟩
  · rcases List.mem_cons.mp hw with rfl | hw
    · exact hg _ h1
    · exact hg _ hw
  · have h9 := hd.2
    rw [hsig] at h9
    exact (Option.some.inj h9).symm
theorem zCN {R : Room} {s : State} {args : Array Value} {own host : String} {idx : Nat} {y : MethodName} {bytes : ByteArray} {maxL : Nat} {rt : Option FieldType} {rm : Room} {mc ms q : Nat} {w0 : Cond} (ht : ∀ w ∈ w0 :: zG, w.before args s = true) (h1 : Cond.code y bytes maxL rt ∈ zG) (h2 : Cond.initialized y.cls ∈ zG) (h3 : Cond.methodLinkNest own idx y host ∈ zXW) (hxw : ∀ w ∈ zXW, va_Nw w s) (hrc : rm.cells = mc) (hrs : rm.slots = ms)
    (hd : (y.cls ≠ "java/lang/invoke/MethodHandle" ∧ y.cls ≠ "java/lang/invoke/VarHandle") ∧ (parseMethodDescriptor y.desc).map (fun d => d.parameters.length) = some q) (hR : rm.frames + 1 ≤ R.frames ∧ 8 + (maxL + 11) + rm.locals ≤ R.locals) : va_CN R s args own idx y host bytes maxL rt (Cond.code y bytes maxL rt :: zG) rm mc ms q := by
  have ht' : ∀ w ∈ zG, w.before args s = true := fun w hw => ht w (List.mem_cons_of_mem _ hw)
  have hg : ∀ w ∈ zG, ∀ (a' : Array Value) (U : State), s.WarmedH U.vm → w.before a' U = true := fun w hw a' U hW => word_at hW (good_of_word (zG_good hw)) (ht' w hw)
  refine ⟨⟨hrc, hrs, hR.1, hR.2, fun w hw => ?_, List.mem_cons_self⟩, ht' _ h1, ht' _ h2, hd.1, fun sig hsig => ?_, zXW_use h3 (hxw _ h3)⟩
  · rcases List.mem_cons.mp hw with rfl | hw
    · exact hg _ h1
    · exact hg _ hw
  · have h9 := hd.2
    rw [hsig] at h9
    exact (Option.some.inj h9).symm
/-- run to the end, the inlined form of a method without loops -/
def zBot : ZPhi := fun _ _ _ _ _ _ => False
theorem zRun_bot {code : List (Nat × ZTr)} {K : ZRet} {KX : ZEx} {mc ms : Nat} {Φ : ZPhi} (h : zClosed code K KX mc ms Φ) : ∀ (f : Nat) pc L st M k n, zRun code K KX mc ms [] zBot f pc L st M k n → Φ pc L st M k n
  | 0, _, _, _, _, _, _, q => q.elim
  | f + 1, pc, L, st, M, k, n, q => h.1 _ (zRun_bot h f) pc L st M k n q
def zInl (code : List (Nat × ZTr)) (maxL mc ms f : Nat) : ZTf := fun av M K KX => Nat.ble (zEn av).length maxL = true ∧ zRun code K KX mc ms [] zBot f 0 (zEnt maxL av) [] M 0 0
theorem zInl_bd {code : List (Nat × ZTr)} {maxL mc ms f : Nat} : ∀ av M K KX, zrgA av → zrgM M → zInl code maxL mc ms f av M K KX → Nat.ble (zEn av).length maxL = true ∧ ∀ Φ, zClosed code K KX mc ms Φ → Φ 0 (zEnt maxL av) [] M 0 0 := fun _ _ _ _ _ _ h => ⟨h.1, fun _ hΦ => zRun_bot hΦ f _ _ _ _ _ _ h.2⟩
theorem zin {L : List Cond} {w0 : Cond} (h : ∀ w ∈ L, w ∈ zG) : ∀ w ∈ L, w ∈ w0 :: zG := fun w hw => List.mem_cons_of_mem _ (h w hw)
def zPz (x : Int) : Prop := x = 0 ∨ x = 1
def zPb (x : Int) : Prop := -128 ≤ x ∧ x < 128
def zPq (x : Int) : Prop := 0 ≤ x ∧ x < 65536
theorem zP_int : ∀ x : Int, (fun _ => True) x → narrow .int (.int (Int32.ofInt x)) = .int (Int32.ofInt x) ∧ fits .int (.int (Int32.ofInt x)) = true := fun _ _ => ⟨rfl, rfl⟩
theorem zP_bool : ∀ x : Int, zPz x → narrow .boolean (.int (Int32.ofInt x)) = .int (Int32.ofInt x) ∧ fits .boolean (.int (Int32.ofInt x)) = true := by
  intro x h
  rcases h with rfl | rfl <;> exact ⟨rfl, rfl⟩
theorem z8 {x : Int} (h : zPb x) : (Int32.ofInt x).toInt8.toInt32 = Int32.ofInt x := by
  rw [show (Int32.ofInt x).toInt8 = Int8.ofInt x from Int32.toInt8_ofInt]
  refine Int32.toInt_inj.mp ?_
  rw [Int8.toInt_toInt32, Int8.toInt_ofInt_of_le (by have := h.1; omega) (by have := h.2; omega), z32 ⟨by have := h.1; omega, by have := h.2; omega⟩]
theorem zP_byte : ∀ x : Int, zPb x → narrow .byte (.int (Int32.ofInt x)) = .int (Int32.ofInt x) ∧ fits .byte (.int (Int32.ofInt x)) = true := by
  intro x h
  have h9 := z8 h
  have h8 := pk_nb (Int32.ofInt x)
  have h7 := pk_fb (Int32.ofInt x)
  rw [h9] at h8 h7
  exact ⟨h8, h7⟩
theorem zR_bool : ∀ x : Int, zPz x → narrow .boolean (.int (Int32.ofInt x)) = .int (Int32.ofInt x) := fun x h => (zP_bool x h).1
theorem zR_byte : ∀ x : Int, zPb x → narrow .byte (.int (Int32.ofInt x)) = .int (Int32.ofInt x) := fun x h => (zP_byte x h).1
theorem zR_char : ∀ x : Int, zPq x → narrow .char (.int (Int32.ofInt x)) = .int (Int32.ofInt x) := by
  intro x h
  have e : Int32.ofInt x = nI x.toNat := by
    rw [nI, ← Int32.ofInt_eq_ofNat]
    congr 1
    have := h.1
    omega
  rw [e]
  exact (pk_charN (by have := h.1; have := h.2; omega)).1
theorem zP_obj {C : String} : ∀ r : Option Nat, narrow (.object C) (va_rf r) = va_rf r ∧ fits (.object C) (va_rf r) = true := by
  intro r
  cases r <;> exact ⟨rfl, rfl⟩
theorem zP_arr {t : FieldType} : ∀ r : Option Nat, narrow (.array t) (va_rf r) = va_rf r ∧ fits (.array t) (va_rf r) = true := by
  intro r
  cases r <;> exact ⟨rfl, rfl⟩
theorem zW.rcv {M : ZM} {j ci : Nat} (h : zW M j ci) : zO M j ci ∧ (zCC ≤ j ∨ ci = 0) := ⟨⟨h.1, h.2.2⟩, Or.inl h.2.1⟩
theorem zW.o {M : ZM} {j ci : Nat} (h : zW M j ci) : zO M j ci := ⟨h.1, h.2.2⟩
/-- what a body owes -/
def zBd (code : List (Nat × ZTr)) (maxL mc ms : Nat) (T : ZTf) : Prop := ∀ av M K KX, zrgA av → zrgM M → T av M K KX → Nat.ble (zEn av).length maxL = true ∧ ∀ Φ, zClosed code K KX mc ms Φ → Φ 0 (zEnt maxL av) [] M 0 0
