
-- ===== soundness: what the machine does follows the transformers =====
theorem z32 {x : Int} (h : zrg x) : (Int32.ofInt x).toInt = x := Int32.toInt_ofInt_of_le (by have := h.1; omega) (by have := h.2; omega)
theorem z32_eq {x y : Int} (hx : zrg x) (hy : zrg y) : Int32.ofInt x = Int32.ofInt y ↔ x = y := by rw [← Int32.toInt_inj, z32 hx, z32 hy]
theorem z32_lt {x y : Int} (hx : zrg x) (hy : zrg y) : Int32.ofInt x < Int32.ofInt y ↔ x < y := by rw [Int32.lt_iff_toInt_lt, z32 hx, z32 hy]
theorem z32_le {x y : Int} (hx : zrg x) (hy : zrg y) : Int32.ofInt x ≤ Int32.ofInt y ↔ x ≤ y := by rw [Int32.le_iff_toInt_le, z32 hx, z32 hy]
theorem zrg0 : zrg 0 := ⟨by decide, by decide⟩
theorem z32_in {x : Int} {n : Nat} (h0 : 0 ≤ x) (h1 : x < n) (h2 : x < 2147483648) : vp_in (Int32.ofInt x) n ∧ (Int32.ofInt x).toNatClampNeg = x.toNat := by
  have hr : zrg x := ⟨by omega, h2⟩
  refine ⟨vp_in_iff.mpr ?_, ?_⟩
  · rw [z32 hr]; exact ⟨h0, h1⟩
  · exact Int32.toNatClampNeg_ofInt_of_le (by omega) (by omega)
theorem zI64 {x : Int} (h : -9223372036854775808 ≤ x ∧ x < 9223372036854775808) : (Int64.ofInt x).toInt = x := Int64.toInt_ofInt_of_le (by have := h.1; omega) (by have := h.2; omega)
theorem z32_rg (x : Int32) : zrg x.toInt := ⟨Int32.le_toInt x, Int32.toInt_lt x⟩
theorem z_tdiv_rg {x y : Int} (hx : zrg x) (h0 : 0 < y) : zrg (Int.tdiv x y) := by
  have hxx := hx.1
  have hxy := hx.2
  rcases Int.le_total 0 x with q | q
  · have a1 : 0 ≤ Int.tdiv x y := Int.tdiv_nonneg q (by omega)
    have a2 : Int.tdiv x y ≤ x := Int.tdiv_le_self y q
    exact ⟨by omega, by omega⟩
  · have a3 : Int.tdiv x y = - Int.tdiv (-x) y := by rw [Int.neg_tdiv]; omega
    have a1 : 0 ≤ Int.tdiv (-x) y := Int.tdiv_nonneg (by omega) (by omega)
    have a2 : Int.tdiv (-x) y ≤ -x := Int.tdiv_le_self y (by omega)
    exact ⟨by omega, by omega⟩
theorem z_tmod_rg {x y : Int} (h0 : 0 < y) (hy : zrg y) : zrg (Int.tmod x y) := by
  have h1 := Int.tmod_lt_of_pos x h0
  have h3 : -y < Int.tmod x y := by
    have := Int.tmod_lt_of_pos (-x) h0
    rw [Int.neg_tmod] at this
    omega
  have := hy.2
  exact ⟨by omega, by omega⟩
theorem zcl_rg {M : ZM} (h : zcl M) {j ci : Nat} (e : zK M j = ci) (h1 : ci ≠ 23) (h2 : ci ≠ 24) (k : Nat) : zrg (zI M j k) := ((h.2 j).2 k).2 (e ▸ h1) (e ▸ h2)
section ZS
variable {p : Program} {l : Launch} {e : Env} {R : Room} {s : State} {m : MethodId} {args : Array Value} {below : List Frame} {meth : Method} {c : Code}
variable {cc : ByteArray} {own : String} {Ts : List Cond} {nL : Nat} {ret : Option FieldType} {D : va_G} {A : Nat → Prop} {a0 : Nat → Nat} {M0 : ZM} {K : ZRet} {KX : ZEx} {mc ms : Nat} {pc : Nat}
def zCtx (p : Program) (l : Launch) (R : Room) (s : State) (m : MethodId) (args : Array Value) (meth : Method) (c : Code) (cc : ByteArray) (own : String) (Ts : List Cond) (nL : Nat) (ret : Option FieldType) (D : va_G) (A : Nat → Prop) (a0 : Nat → Nat) (M0 : ZM) (mc ms : Nat) : Prop :=
  p.tables.exec = Jvm.exec ∧ c.code = cc ∧ c.maxLocals = nL ∧ s.vm.findClass own = some m.cls ∧ (∀ w ∈ Ts, w.before args s = true) ∧ va_K D vwCl [] s ∧ zCF a0 M0 A s s.heap ∧ (∀ q, s.heap.size ≤ q → A q) ∧ meth.locks = false ∧ meth.sig.returnType = ret ∧ l.stackTraces = false ∧ mc ≤ R.cells ∧ ms ≤ R.slots ∧ zcl M0 ∧ zCC ≤ zN M0
def zPhi (p : Program) (l : Launch) (e : Env) (R : Room) (s : State) (m : MethodId) (args : Array Value) (below : List Frame) (meth : Method) (c : Code) (nL : Nat) (D : va_G) (A : Nat → Prop) (a0 : Nat → Nat) (M0 : ZM) (K : ZRet) (KX : ZEx) (mc ms : Nat) : ZPhi := fun pc L st M k n =>
  k ≤ mc → n ≤ ms → L.length = nL → zlvL (zN M) L → zlvS (zN M) st → ∀ (a cy : Nat → Nat) (H : Heap) (locs : List Loc) (ls : Array Slot), zEx a0 M0 a M → zOK D cy a M A s H → va_S A s.heap H locs → zlr a L ls →
    W p l e R s m args below meth c H locs k n (vx_MQ below (zQc D a0 M0 A K) (zXC D a0 M0 A KX) args s mc ms A) (F0 m pc ls (st.map (ztr a)))
def zSd (p : Program) (l : Launch) (e : Env) (R : Room) (s : State) (m : MethodId) (args : Array Value) (below : List Frame) (meth : Method) (c : Code) (nL : Nat) (D : va_G) (A : Nat → Prop) (a0 : Nat → Nat) (M0 : ZM) (K : ZRet) (KX : ZEx) (mc ms : Nat) (pc : Nat) (t : ZTr) : Prop :=
  ∀ Ψ : ZPhi, (∀ pc L st M k n, Ψ pc L st M k n → zPhi p l e R s m args below meth c nL D A a0 M0 K KX mc ms pc L st M k n) → ∀ L st M k n, t Ψ K KX mc ms L st M k n → zPhi p l e R s m args below meth c nL D A a0 M0 K KX mc ms pc L st M k n

def tC (v : ZV) (nx : Nat) : ZTr := fun Φ _ _ _ _ L st M k n => Φ nx L (v :: st) M k n

theorem zs_iconst (X0 : zCtx p l R s m args meth c cc own Ts nL ret D A a0 M0 mc ms) {x : Int} (hr : zrg x) (d : decode cc pc = .ok (.iconst x, 1)) : zSd p l e R s m args below meth c nL D A a0 M0 K KX mc ms pc (tC (zi x) (pc + 1)) := by
  obtain ⟨hx, hb, hml, hown, hts, hK, hF, hA, hlk, hrT, hst, hmc, hms, hcl0, hN0⟩ := X0
  intro Ψ hΨ L st M k n h h1 h2 h3 h4 h5 a cy H locs ls hE hO hS hl
  exact lv_iconst hx hb d rfl (hΨ _ _ _ _ _ _ h h1 h2 h3 h4 (h5.cons (zlv_i _ _ hr)) a cy H locs ls hE hO hS hl)

theorem zs_bipush (X0 : zCtx p l R s m args meth c cc own Ts nL ret D A a0 M0 mc ms) {x : Int} (hr : zrg x) (d : decode cc pc = .ok (.bipush x, 2)) (hv : (Int8.ofInt x).toInt32 = Int32.ofInt x) : zSd p l e R s m args below meth c nL D A a0 M0 K KX mc ms pc (tC (zi x) (pc + 2)) := by
  obtain ⟨hx, hb, hml, hown, hts, hK, hF, hA, hlk, hrT, hst, hmc, hms, hcl0, hN0⟩ := X0
  intro Ψ hΨ L st M k n h h1 h2 h3 h4 h5 a cy H locs ls hE hO hS hl
  exact lv_bipush hx hb d hv (hΨ _ _ _ _ _ _ h h1 h2 h3 h4 (h5.cons (zlv_i _ _ hr)) a cy H locs ls hE hO hS hl)

theorem zs_sipush (X0 : zCtx p l R s m args meth c cc own Ts nL ret D A a0 M0 mc ms) {x : Int} (hr : zrg x) (d : decode cc pc = .ok (.sipush x, 3)) (hv : (Int16.ofInt x).toInt32 = Int32.ofInt x) : zSd p l e R s m args below meth c nL D A a0 M0 K KX mc ms pc (tC (zi x) (pc + 3)) := by
  obtain ⟨hx, hb, hml, hown, hts, hK, hF, hA, hlk, hrT, hst, hmc, hms, hcl0, hN0⟩ := X0
  intro Ψ hΨ L st M k n h h1 h2 h3 h4 h5 a cy H locs ls hE hO hS hl
  exact lv_sipush hx hb d hv (hΨ _ _ _ _ _ _ h h1 h2 h3 h4 (h5.cons (zlv_i _ _ hr)) a cy H locs ls hE hO hS hl)

theorem zs_ldci (X0 : zCtx p l R s m args meth c cc own Ts nL ret D A a0 M0 mc ms) {x : Int} {i : Nat} (hr : zrg x) (d : decode cc pc = .ok (.ldc i, 2)) (hc : Jvm.Cond.constant own i (Int32.ofInt x) ∈ Ts) : zSd p l e R s m args below meth c nL D A a0 M0 K KX mc ms pc (tC (zi x) (pc + 2)) := by
  obtain ⟨hx, hb, hml, hown, hts, hK, hF, hA, hlk, hrT, hst, hmc, hms, hcl0, hN0⟩ := X0
  intro Ψ hΨ L st M k n h h1 h2 h3 h4 h5 a cy H locs ls hE hO hS hl
  exact lv_ldc hx hb hown (hts _ hc) d (hΨ _ _ _ _ _ _ h h1 h2 h3 h4 (h5.cons (zlv_i _ _ hr)) a cy H locs ls hE hO hS hl)

theorem zs_lconst (X0 : zCtx p l R s m args meth c cc own Ts nL ret D A a0 M0 mc ms) {x : Int} {q : Fin 2} (hr : zrl x) (d : decode cc pc = .ok (.lconst q, 1)) (hv : Int64.ofNat (q : Nat) = Int64.ofInt x) : zSd p l e R s m args below meth c nL D A a0 M0 K KX mc ms pc (tC (zl x) (pc + 1)) := by
  obtain ⟨hx, hb, hml, hown, hts, hK, hF, hA, hlk, hrT, hst, hmc, hms, hcl0, hN0⟩ := X0
  intro Ψ hΨ L st M k n h h1 h2 h3 h4 h5 a cy H locs ls hE hO hS hl
  exact lv_lconst hx hb d hv (hΨ _ _ _ _ _ _ h h1 h2 h3 h4 (h5.cons (zlv_l _ _ hr)) a cy H locs ls hE hO hS hl)

theorem zs_ldc2 (X0 : zCtx p l R s m args meth c cc own Ts nL ret D A a0 M0 mc ms) {x : Int} {i : Nat} (hr : zrl x) (d : decode cc pc = .ok (.ldc2_w i, 3)) (hc : Jvm.Cond.constantLong own i (Int64.ofInt x) ∈ Ts) : zSd p l e R s m args below meth c nL D A a0 M0 K KX mc ms pc (tC (zl x) (pc + 3)) := by
  obtain ⟨hx, hb, hml, hown, hts, hK, hF, hA, hlk, hrT, hst, hmc, hms, hcl0, hN0⟩ := X0
  intro Ψ hΨ L st M k n h h1 h2 h3 h4 h5 a cy H locs ls hE hO hS hl
  exact lv_ldc2 hx hb hown (hts _ hc) d (hΨ _ _ _ _ _ _ h h1 h2 h3 h4 (h5.cons (zlv_l _ _ hr)) a cy H locs ls hE hO hS hl)

theorem zs_fconst0 (X0 : zCtx p l R s m args meth c cc own Ts nL ret D A a0 M0 mc ms) (d : decode cc pc = .ok (.fconst 0, 1)) : zSd p l e R s m args below meth c nL D A a0 M0 K KX mc ms pc (tC (zf FP.fconst0) (pc + 1)) := by
  obtain ⟨hx, hb, hml, hown, hts, hK, hF, hA, hlk, hrT, hst, hmc, hms, hcl0, hN0⟩ := X0
  intro Ψ hΨ L st M k n h h1 h2 h3 h4 h5 a cy H locs ls hE hO hS hl
  exact lv_fconst0 hx hb d (hΨ _ _ _ _ _ _ h h1 h2 h3 h4 (h5.cons (zlv_f _ _)) a cy H locs ls hE hO hS hl)

theorem zs_dconst0 (X0 : zCtx p l R s m args meth c cc own Ts nL ret D A a0 M0 mc ms) (d : decode cc pc = .ok (.dconst 0, 1)) : zSd p l e R s m args below meth c nL D A a0 M0 K KX mc ms pc (tC (zd FP.dconst0) (pc + 1)) := by
  obtain ⟨hx, hb, hml, hown, hts, hK, hF, hA, hlk, hrT, hst, hmc, hms, hcl0, hN0⟩ := X0
  intro Ψ hΨ L st M k n h h1 h2 h3 h4 h5 a cy H locs ls hE hO hS hl
  exact lv_dconst0 hx hb d (hΨ _ _ _ _ _ _ h h1 h2 h3 h4 (h5.cons (zlv_d _ _)) a cy H locs ls hE hO hS hl)

theorem zs_anull (X0 : zCtx p l R s m args meth c cc own Ts nL ret D A a0 M0 mc ms) (d : decode cc pc = .ok (.aconst_null, 1)) : zSd p l e R s m args below meth c nL D A a0 M0 K KX mc ms pc (tC (zr none) (pc + 1)) := by
  obtain ⟨hx, hb, hml, hown, hts, hK, hF, hA, hlk, hrT, hst, hmc, hms, hcl0, hN0⟩ := X0
  intro Ψ hΨ L st M k n h h1 h2 h3 h4 h5 a cy H locs ls hE hO hS hl
  exact lv_null hx hb d (hΨ _ _ _ _ _ _ h h1 h2 h3 h4 (h5.cons (zlv_r (fun _ q => by cases q))) a cy H locs ls hE hO hS hl)

def tIld (i : Nat) (nx : Nat) : ZTr := fun Φ _ _ _ _ L st M k n => match L[i]? with | some (some (.inl x)) => Φ nx L (zi x :: st) M k n | _ => False

theorem zs_iload (X0 : zCtx p l R s m args meth c cc own Ts nL ret D A a0 M0 mc ms) {i : Nat} (d : decode cc pc = .ok (.iload i, 2)) : zSd p l e R s m args below meth c nL D A a0 M0 K KX mc ms pc (tIld i (pc + 2)) := by
  obtain ⟨hx, hb, hml, hown, hts, hK, hF, hA, hlk, hrT, hst, hmc, hms, hcl0, hN0⟩ := X0
  intro Ψ hΨ L st M k n h h1 h2 h3 h4 h5 a cy H locs ls hE hO hS hl
  simp only [tIld] at h
  split at h
  · next x hv => exact lv_iload hx hb d (hl.2.2 i _ hv) (hΨ _ _ _ _ _ _ h h1 h2 h3 h4 (h5.cons (h4.at hv)) a cy H locs ls hE hO hS hl)
  · exact h.elim

theorem zs_iload_n (X0 : zCtx p l R s m args meth c cc own Ts nL ret D A a0 M0 mc ms) {i : Nat} {q : Fin 4} (hi : (q : Nat) = i) (d : decode cc pc = .ok (.iload_n q, 1)) : zSd p l e R s m args below meth c nL D A a0 M0 K KX mc ms pc (tIld i (pc + 1)) := by
  obtain ⟨hx, hb, hml, hown, hts, hK, hF, hA, hlk, hrT, hst, hmc, hms, hcl0, hN0⟩ := X0
  intro Ψ hΨ L st M k n h h1 h2 h3 h4 h5 a cy H locs ls hE hO hS hl
  simp only [tIld] at h
  split at h
  · next x hv => exact lv_iload_n hx hb d hi (hl.2.2 i _ hv) (hΨ _ _ _ _ _ _ h h1 h2 h3 h4 (h5.cons (h4.at hv)) a cy H locs ls hE hO hS hl)
  · exact h.elim

def tLld (i : Nat) (nx : Nat) : ZTr := fun Φ _ _ _ _ L st M k n => match L[i]? with | some (some (.inr (.inr (.inl x)))) => Φ nx L (zl x :: st) M k n | _ => False

theorem zs_lload (X0 : zCtx p l R s m args meth c cc own Ts nL ret D A a0 M0 mc ms) {i : Nat} (d : decode cc pc = .ok (.lload i, 2)) : zSd p l e R s m args below meth c nL D A a0 M0 K KX mc ms pc (tLld i (pc + 2)) := by
  obtain ⟨hx, hb, hml, hown, hts, hK, hF, hA, hlk, hrT, hst, hmc, hms, hcl0, hN0⟩ := X0
  intro Ψ hΨ L st M k n h h1 h2 h3 h4 h5 a cy H locs ls hE hO hS hl
  simp only [tLld] at h
  split at h
  · next x hv => exact lv_lload hx hb d (hl.2.2 i _ hv) (hΨ _ _ _ _ _ _ h h1 h2 h3 h4 (h5.cons (h4.at hv)) a cy H locs ls hE hO hS hl)
  · exact h.elim

theorem zs_lload_n (X0 : zCtx p l R s m args meth c cc own Ts nL ret D A a0 M0 mc ms) {i : Nat} {q : Fin 4} (hi : (q : Nat) = i) (d : decode cc pc = .ok (.lload_n q, 1)) : zSd p l e R s m args below meth c nL D A a0 M0 K KX mc ms pc (tLld i (pc + 1)) := by
  obtain ⟨hx, hb, hml, hown, hts, hK, hF, hA, hlk, hrT, hst, hmc, hms, hcl0, hN0⟩ := X0
  intro Ψ hΨ L st M k n h h1 h2 h3 h4 h5 a cy H locs ls hE hO hS hl
  simp only [tLld] at h
  split at h
  · next x hv => exact lv_lload_n hx hb d hi (hl.2.2 i _ hv) (hΨ _ _ _ _ _ _ h h1 h2 h3 h4 (h5.cons (h4.at hv)) a cy H locs ls hE hO hS hl)
  · exact h.elim

def tFld (i : Nat) (nx : Nat) : ZTr := fun Φ _ _ _ _ L st M k n => match L[i]? with | some (some (.inr (.inr (.inr (.inl x))))) => Φ nx L (zf x :: st) M k n | _ => False

theorem zs_fload (X0 : zCtx p l R s m args meth c cc own Ts nL ret D A a0 M0 mc ms) {i : Nat} (d : decode cc pc = .ok (.fload i, 2)) : zSd p l e R s m args below meth c nL D A a0 M0 K KX mc ms pc (tFld i (pc + 2)) := by
  obtain ⟨hx, hb, hml, hown, hts, hK, hF, hA, hlk, hrT, hst, hmc, hms, hcl0, hN0⟩ := X0
  intro Ψ hΨ L st M k n h h1 h2 h3 h4 h5 a cy H locs ls hE hO hS hl
  simp only [tFld] at h
  split at h
  · next x hv => exact lv_fload hx hb d (hl.2.2 i _ hv) (hΨ _ _ _ _ _ _ h h1 h2 h3 h4 (h5.cons (h4.at hv)) a cy H locs ls hE hO hS hl)
  · exact h.elim

theorem zs_fload_n (X0 : zCtx p l R s m args meth c cc own Ts nL ret D A a0 M0 mc ms) {i : Nat} {q : Fin 4} (hi : (q : Nat) = i) (d : decode cc pc = .ok (.fload_n q, 1)) : zSd p l e R s m args below meth c nL D A a0 M0 K KX mc ms pc (tFld i (pc + 1)) := by
  obtain ⟨hx, hb, hml, hown, hts, hK, hF, hA, hlk, hrT, hst, hmc, hms, hcl0, hN0⟩ := X0
  intro Ψ hΨ L st M k n h h1 h2 h3 h4 h5 a cy H locs ls hE hO hS hl
  simp only [tFld] at h
  split at h
  · next x hv => exact lv_fload_n hx hb d hi (hl.2.2 i _ hv) (hΨ _ _ _ _ _ _ h h1 h2 h3 h4 (h5.cons (h4.at hv)) a cy H locs ls hE hO hS hl)
  · exact h.elim

def tDld (i : Nat) (nx : Nat) : ZTr := fun Φ _ _ _ _ L st M k n => match L[i]? with | some (some (.inr (.inr (.inr (.inr x))))) => Φ nx L (zd x :: st) M k n | _ => False

theorem zs_dload (X0 : zCtx p l R s m args meth c cc own Ts nL ret D A a0 M0 mc ms) {i : Nat} (d : decode cc pc = .ok (.dload i, 2)) : zSd p l e R s m args below meth c nL D A a0 M0 K KX mc ms pc (tDld i (pc + 2)) := by
  obtain ⟨hx, hb, hml, hown, hts, hK, hF, hA, hlk, hrT, hst, hmc, hms, hcl0, hN0⟩ := X0
  intro Ψ hΨ L st M k n h h1 h2 h3 h4 h5 a cy H locs ls hE hO hS hl
  simp only [tDld] at h
  split at h
  · next x hv => exact lv_dload hx hb d (hl.2.2 i _ hv) (hΨ _ _ _ _ _ _ h h1 h2 h3 h4 (h5.cons (h4.at hv)) a cy H locs ls hE hO hS hl)
  · exact h.elim

theorem zs_dload_n (X0 : zCtx p l R s m args meth c cc own Ts nL ret D A a0 M0 mc ms) {i : Nat} {q : Fin 4} (hi : (q : Nat) = i) (d : decode cc pc = .ok (.dload_n q, 1)) : zSd p l e R s m args below meth c nL D A a0 M0 K KX mc ms pc (tDld i (pc + 1)) := by
  obtain ⟨hx, hb, hml, hown, hts, hK, hF, hA, hlk, hrT, hst, hmc, hms, hcl0, hN0⟩ := X0
  intro Ψ hΨ L st M k n h h1 h2 h3 h4 h5 a cy H locs ls hE hO hS hl
  simp only [tDld] at h
  split at h
  · next x hv => exact lv_dload_n hx hb d hi (hl.2.2 i _ hv) (hΨ _ _ _ _ _ _ h h1 h2 h3 h4 (h5.cons (h4.at hv)) a cy H locs ls hE hO hS hl)
  · exact h.elim

def tAld (i : Nat) (nx : Nat) : ZTr := fun Φ _ _ _ _ L st M k n => match L[i]? with | some (some (.inr (.inl x))) => Φ nx L (zr x :: st) M k n | _ => False

theorem zs_aload (X0 : zCtx p l R s m args meth c cc own Ts nL ret D A a0 M0 mc ms) {i : Nat} (d : decode cc pc = .ok (.aload i, 2)) : zSd p l e R s m args below meth c nL D A a0 M0 K KX mc ms pc (tAld i (pc + 2)) := by
  obtain ⟨hx, hb, hml, hown, hts, hK, hF, hA, hlk, hrT, hst, hmc, hms, hcl0, hN0⟩ := X0
  intro Ψ hΨ L st M k n h h1 h2 h3 h4 h5 a cy H locs ls hE hO hS hl
  simp only [tAld] at h
  split at h
  · next x hv =>
    have hk := hl.2.2 i _ hv
    cases x with
    | none => exact lv_aloadN hx hb d hk (hΨ _ _ _ _ _ _ h h1 h2 h3 h4 (h5.cons (h4.at hv)) a cy H locs ls hE hO hS hl)
    | some x => exact lv_aload hx hb d hk (hΨ _ _ _ _ _ _ h h1 h2 h3 h4 (h5.cons (h4.at hv)) a cy H locs ls hE hO hS hl)
  · exact h.elim

theorem zs_aload_n (X0 : zCtx p l R s m args meth c cc own Ts nL ret D A a0 M0 mc ms) {i : Nat} {q : Fin 4} (hi : (q : Nat) = i) (d : decode cc pc = .ok (.aload_n q, 1)) : zSd p l e R s m args below meth c nL D A a0 M0 K KX mc ms pc (tAld i (pc + 1)) := by
  obtain ⟨hx, hb, hml, hown, hts, hK, hF, hA, hlk, hrT, hst, hmc, hms, hcl0, hN0⟩ := X0
  intro Ψ hΨ L st M k n h h1 h2 h3 h4 h5 a cy H locs ls hE hO hS hl
  simp only [tAld] at h
  split at h
  · next x hv =>
    have hk := hl.2.2 i _ hv
    cases x with
    | none => exact lv_aload_nN hx hb d hi hk (hΨ _ _ _ _ _ _ h h1 h2 h3 h4 (h5.cons (h4.at hv)) a cy H locs ls hE hO hS hl)
    | some x => exact lv_aload_n hx hb d hi hk (hΨ _ _ _ _ _ _ h h1 h2 h3 h4 (h5.cons (h4.at hv)) a cy H locs ls hE hO hS hl)
  · exact h.elim

def tIst (i : Nat) (nx : Nat) : ZTr := fun Φ _ _ _ _ L st M k n => match st with | .inl x :: r => Φ nx (zst1 L i (zi x)) r M k n | _ => False

theorem zs_istore (X0 : zCtx p l R s m args meth c cc own Ts nL ret D A a0 M0 mc ms) {i : Nat} (hn : i < nL) (d : decode cc pc = .ok (.istore i, 2)) : zSd p l e R s m args below meth c nL D A a0 M0 K KX mc ms pc (tIst i (pc + 2)) := by
  obtain ⟨hx, hb, hml, hown, hts, hK, hF, hA, hlk, hrT, hst, hmc, hms, hcl0, hN0⟩ := X0
  intro Ψ hΨ L st M k n h h1 h2 h3 h4 h5 a cy H locs ls hE hO hS hl
  simp only [tIst] at h
  split at h
  · next x r =>
    subst h3
    exact lv_istore hx hb d hl.has hn rfl (fun ls' hl' => hΨ _ _ _ _ _ _ h h1 h2 (by rw [zst1_len]) (h4.st1 h5.hd) h5.tl a cy H locs ls' hE hO hS (zlr.st1 hn hl'))
  · exact h.elim

theorem zs_istore_n (X0 : zCtx p l R s m args meth c cc own Ts nL ret D A a0 M0 mc ms) {i : Nat} {q : Fin 4} (hi : (q : Nat) = i) (hn : i < nL) (d : decode cc pc = .ok (.istore_n q, 1)) : zSd p l e R s m args below meth c nL D A a0 M0 K KX mc ms pc (tIst i (pc + 1)) := by
  obtain ⟨hx, hb, hml, hown, hts, hK, hF, hA, hlk, hrT, hst, hmc, hms, hcl0, hN0⟩ := X0
  intro Ψ hΨ L st M k n h h1 h2 h3 h4 h5 a cy H locs ls hE hO hS hl
  simp only [tIst] at h
  split at h
  · next x r =>
    subst h3
    exact lv_istore_n hx hb d hi hl.has hn rfl (fun ls' hl' => hΨ _ _ _ _ _ _ h h1 h2 (by rw [zst1_len]) (h4.st1 h5.hd) h5.tl a cy H locs ls' hE hO hS (zlr.st1 hn hl'))
  · exact h.elim

def tLst (i : Nat) (nx : Nat) : ZTr := fun Φ _ _ _ _ L st M k n => match st with | .inr (.inr (.inl x)) :: r => Φ nx (zst2 L i (zl x)) r M k n | _ => False

theorem zs_lstore (X0 : zCtx p l R s m args meth c cc own Ts nL ret D A a0 M0 mc ms) {i : Nat} (hn : i + 1 < nL) (d : decode cc pc = .ok (.lstore i, 2)) : zSd p l e R s m args below meth c nL D A a0 M0 K KX mc ms pc (tLst i (pc + 2)) := by
  obtain ⟨hx, hb, hml, hown, hts, hK, hF, hA, hlk, hrT, hst, hmc, hms, hcl0, hN0⟩ := X0
  intro Ψ hΨ L st M k n h h1 h2 h3 h4 h5 a cy H locs ls hE hO hS hl
  simp only [tLst] at h
  split at h
  · next x r =>
    subst h3
    exact lv_lstore hx hb d hl.has hn rfl (fun ls' hl' => hΨ _ _ _ _ _ _ h h1 h2 (by rw [zst2_len]) (h4.st2 h5.hd) h5.tl a cy H locs ls' hE hO hS (zlr.st2 hn hl'))
  · exact h.elim

theorem zs_lstore_n (X0 : zCtx p l R s m args meth c cc own Ts nL ret D A a0 M0 mc ms) {i : Nat} {q : Fin 4} (hi : (q : Nat) = i) (hn : i + 1 < nL) (d : decode cc pc = .ok (.lstore_n q, 1)) : zSd p l e R s m args below meth c nL D A a0 M0 K KX mc ms pc (tLst i (pc + 1)) := by
  obtain ⟨hx, hb, hml, hown, hts, hK, hF, hA, hlk, hrT, hst, hmc, hms, hcl0, hN0⟩ := X0
  intro Ψ hΨ L st M k n h h1 h2 h3 h4 h5 a cy H locs ls hE hO hS hl
  simp only [tLst] at h
  split at h
  · next x r =>
    subst h3
    exact lv_lstore_n hx hb d hi hl.has hn rfl (fun ls' hl' => hΨ _ _ _ _ _ _ h h1 h2 (by rw [zst2_len]) (h4.st2 h5.hd) h5.tl a cy H locs ls' hE hO hS (zlr.st2 hn hl'))
  · exact h.elim

def tFst (i : Nat) (nx : Nat) : ZTr := fun Φ _ _ _ _ L st M k n => match st with | .inr (.inr (.inr (.inl x))) :: r => Φ nx (zst1 L i (zf x)) r M k n | _ => False

theorem zs_fstore (X0 : zCtx p l R s m args meth c cc own Ts nL ret D A a0 M0 mc ms) {i : Nat} (hn : i < nL) (d : decode cc pc = .ok (.fstore i, 2)) : zSd p l e R s m args below meth c nL D A a0 M0 K KX mc ms pc (tFst i (pc + 2)) := by
  obtain ⟨hx, hb, hml, hown, hts, hK, hF, hA, hlk, hrT, hst, hmc, hms, hcl0, hN0⟩ := X0
  intro Ψ hΨ L st M k n h h1 h2 h3 h4 h5 a cy H locs ls hE hO hS hl
  simp only [tFst] at h
  split at h
  · next x r =>
    subst h3
    exact lv_fstore hx hb d hl.has hn rfl (fun ls' hl' => hΨ _ _ _ _ _ _ h h1 h2 (by rw [zst1_len]) (h4.st1 h5.hd) h5.tl a cy H locs ls' hE hO hS (zlr.st1 hn hl'))
  · exact h.elim

theorem zs_fstore_n (X0 : zCtx p l R s m args meth c cc own Ts nL ret D A a0 M0 mc ms) {i : Nat} {q : Fin 4} (hi : (q : Nat) = i) (hn : i < nL) (d : decode cc pc = .ok (.fstore_n q, 1)) : zSd p l e R s m args below meth c nL D A a0 M0 K KX mc ms pc (tFst i (pc + 1)) := by
  obtain ⟨hx, hb, hml, hown, hts, hK, hF, hA, hlk, hrT, hst, hmc, hms, hcl0, hN0⟩ := X0
  intro Ψ hΨ L st M k n h h1 h2 h3 h4 h5 a cy H locs ls hE hO hS hl
  simp only [tFst] at h
  split at h
  · next x r =>
    subst h3
    exact lv_fstore_n hx hb d hi hl.has hn rfl (fun ls' hl' => hΨ _ _ _ _ _ _ h h1 h2 (by rw [zst1_len]) (h4.st1 h5.hd) h5.tl a cy H locs ls' hE hO hS (zlr.st1 hn hl'))
  · exact h.elim

def tDst (i : Nat) (nx : Nat) : ZTr := fun Φ _ _ _ _ L st M k n => match st with | .inr (.inr (.inr (.inr x))) :: r => Φ nx (zst2 L i (zd x)) r M k n | _ => False

theorem zs_dstore (X0 : zCtx p l R s m args meth c cc own Ts nL ret D A a0 M0 mc ms) {i : Nat} (hn : i + 1 < nL) (d : decode cc pc = .ok (.dstore i, 2)) : zSd p l e R s m args below meth c nL D A a0 M0 K KX mc ms pc (tDst i (pc + 2)) := by
  obtain ⟨hx, hb, hml, hown, hts, hK, hF, hA, hlk, hrT, hst, hmc, hms, hcl0, hN0⟩ := X0
  intro Ψ hΨ L st M k n h h1 h2 h3 h4 h5 a cy H locs ls hE hO hS hl
  simp only [tDst] at h
  split at h
  · next x r =>
    subst h3
    exact lv_dstore hx hb d hl.has hn rfl (fun ls' hl' => hΨ _ _ _ _ _ _ h h1 h2 (by rw [zst2_len]) (h4.st2 h5.hd) h5.tl a cy H locs ls' hE hO hS (zlr.st2 hn hl'))
  · exact h.elim

theorem zs_dstore_n (X0 : zCtx p l R s m args meth c cc own Ts nL ret D A a0 M0 mc ms) {i : Nat} {q : Fin 4} (hi : (q : Nat) = i) (hn : i + 1 < nL) (d : decode cc pc = .ok (.dstore_n q, 1)) : zSd p l e R s m args below meth c nL D A a0 M0 K KX mc ms pc (tDst i (pc + 1)) := by
  obtain ⟨hx, hb, hml, hown, hts, hK, hF, hA, hlk, hrT, hst, hmc, hms, hcl0, hN0⟩ := X0
  intro Ψ hΨ L st M k n h h1 h2 h3 h4 h5 a cy H locs ls hE hO hS hl
  simp only [tDst] at h
  split at h
  · next x r =>
    subst h3
    exact lv_dstore_n hx hb d hi hl.has hn rfl (fun ls' hl' => hΨ _ _ _ _ _ _ h h1 h2 (by rw [zst2_len]) (h4.st2 h5.hd) h5.tl a cy H locs ls' hE hO hS (zlr.st2 hn hl'))
  · exact h.elim

def tAst (i : Nat) (nx : Nat) : ZTr := fun Φ _ _ _ _ L st M k n => match st with | .inr (.inl x) :: r => Φ nx (zst1 L i (zr x)) r M k n | _ => False

theorem zs_astore (X0 : zCtx p l R s m args meth c cc own Ts nL ret D A a0 M0 mc ms) {i : Nat} (hn : i < nL) (d : decode cc pc = .ok (.astore i, 2)) : zSd p l e R s m args below meth c nL D A a0 M0 K KX mc ms pc (tAst i (pc + 2)) := by
  obtain ⟨hx, hb, hml, hown, hts, hK, hF, hA, hlk, hrT, hst, hmc, hms, hcl0, hN0⟩ := X0
  intro Ψ hΨ L st M k n h h1 h2 h3 h4 h5 a cy H locs ls hE hO hS hl
  simp only [tAst] at h
  split at h
  · next x r =>
    subst h3
    cases x with
    | none => exact lv_astoreN hx hb d hl.has hn rfl (fun ls' hl' => hΨ _ _ _ _ _ _ h h1 h2 (by rw [zst1_len]) (h4.st1 h5.hd) h5.tl a cy H locs ls' hE hO hS (zlr.st1 (v := zr none) hn hl'))
    | some x => exact lv_astore hx hb d hl.has hn rfl (fun ls' hl' => hΨ _ _ _ _ _ _ h h1 h2 (by rw [zst1_len]) (h4.st1 h5.hd) h5.tl a cy H locs ls' hE hO hS (zlr.st1 (v := zo x) hn hl'))
  · exact h.elim

theorem zs_astore_n (X0 : zCtx p l R s m args meth c cc own Ts nL ret D A a0 M0 mc ms) {i : Nat} {q : Fin 4} (hi : (q : Nat) = i) (hn : i < nL) (d : decode cc pc = .ok (.astore_n q, 1)) : zSd p l e R s m args below meth c nL D A a0 M0 K KX mc ms pc (tAst i (pc + 1)) := by
  obtain ⟨hx, hb, hml, hown, hts, hK, hF, hA, hlk, hrT, hst, hmc, hms, hcl0, hN0⟩ := X0
  intro Ψ hΨ L st M k n h h1 h2 h3 h4 h5 a cy H locs ls hE hO hS hl
  simp only [tAst] at h
  split at h
  · next x r =>
    subst h3
    cases x with
    | none => exact lv_astore_nN hx hb d hi hl.has hn rfl (fun ls' hl' => hΨ _ _ _ _ _ _ h h1 h2 (by rw [zst1_len]) (h4.st1 h5.hd) h5.tl a cy H locs ls' hE hO hS (zlr.st1 (v := zr none) hn hl'))
    | some x => exact lv_astore_n hx hb d hi hl.has hn rfl (fun ls' hl' => hΨ _ _ _ _ _ _ h h1 h2 (by rw [zst1_len]) (h4.st1 h5.hd) h5.tl a cy H locs ls' hE hO hS (zlr.st1 (v := zo x) hn hl'))
  · exact h.elim

def tInc (i : Nat) (d : Int) (nx : Nat) : ZTr := fun Φ _ _ _ _ L st M k n => match L[i]? with | some (some (.inl x)) => zrg (x + d) ∧ Φ nx (zst1 L i (zi (x + d))) st M k n | _ => False

theorem zs_iinc (X0 : zCtx p l R s m args meth c cc own Ts nL ret D A a0 M0 mc ms) {i : Nat} {q : Int} (hn : i < nL) (d : decode cc pc = .ok (.iinc i q, 3)) : zSd p l e R s m args below meth c nL D A a0 M0 K KX mc ms pc (tInc i q (pc + 3)) := by
  obtain ⟨hx, hb, hml, hown, hts, hK, hF, hA, hlk, hrT, hst, hmc, hms, hcl0, hN0⟩ := X0
  intro Ψ hΨ L st M k n h h1 h2 h3 h4 h5 a cy H locs ls hE hO hS hl
  simp only [tInc] at h
  split at h
  · next x hv =>
    subst h3
    obtain ⟨j, hj⟩ := List.getElem?_of_mem (zpr_in (a := a) hv)
    exact lv_iinc (v := Int32.ofInt (x + q)) hx hb d hl.has hj (by rw [Int32.ofInt_add]) hn rfl (fun ls' hl' => hΨ _ _ _ _ _ _ h.2 h1 h2 (by rw [zst1_len]) (h4.st1 (zlv_i _ _ h.1)) h5 a cy H locs ls' hE hO hS (zlr.st1 (v := zi (x + q)) hn hl'))
  · exact h.elim

def tBin (f : Int → Int → Int) (nx : Nat) : ZTr := fun Φ _ _ _ _ L st M k n => match st with | .inl y :: .inl x :: r => zrg (f x y) ∧ Φ nx L (zi (f x y) :: r) M k n | _ => False

def tBif (f : Int → Int → Int) (nx : Nat) : ZTr := fun Φ _ _ _ _ L st M k n => match st with | .inl y :: .inl x :: r => Φ nx L (zi (f x y) :: r) M k n | _ => False

def zand (x y : Int) : Int := (Int32.ofInt x &&& Int32.ofInt y).toInt

def zor (x y : Int) : Int := (Int32.ofInt x ||| Int32.ofInt y).toInt

def zxor (x y : Int) : Int := (Int32.ofInt x ^^^ Int32.ofInt y).toInt

def zshl (x y : Int) : Int := (Int32.ofInt x <<< (Int32.ofInt y &&& 31)).toInt

def zshr (x y : Int) : Int := (Int32.ofInt x >>> (Int32.ofInt y &&& 31)).toInt

def zushr (x y : Int) : Int := (((Int32.ofInt x).toUInt32 >>> ((Int32.ofInt y).toUInt32 &&& Int32.toUInt32 31)).toInt32).toInt

def tAdd (nx : Nat) : ZTr := fun Φ _ _ _ _ L st M k n => match st with | .inl y :: .inl x :: r => zrg (x + y) ∧ Φ nx L (zi (x + y) :: r) M k n | _ => False

theorem zs_iadd (X0 : zCtx p l R s m args meth c cc own Ts nL ret D A a0 M0 mc ms) (d : decode cc pc = .ok (.iadd, 1)) : zSd p l e R s m args below meth c nL D A a0 M0 K KX mc ms pc (tAdd (pc + 1)) := by
  obtain ⟨hx, hb, hml, hown, hts, hK, hF, hA, hlk, hrT, hst, hmc, hms, hcl0, hN0⟩ := X0
  intro Ψ hΨ L st M k n h h1 h2 h3 h4 h5 a cy H locs ls hE hO hS hl
  simp only [tAdd] at h
  split at h
  · next y x r =>
    refine lv_iadd hx hb d ?_
    have h9 := hΨ _ _ _ _ _ _ h.2 h1 h2 h3 h4 (h5.tl.tl.cons (zlv_i _ _ h.1)) a cy H locs ls hE hO hS hl
    simp only [List.map_cons, ztr, Int32.ofInt_add] at h9
    exact h9
  · exact h.elim

def tSub (nx : Nat) : ZTr := fun Φ _ _ _ _ L st M k n => match st with | .inl y :: .inl x :: r => zrg (x - y) ∧ Φ nx L (zi (x - y) :: r) M k n | _ => False

theorem zs_isub (X0 : zCtx p l R s m args meth c cc own Ts nL ret D A a0 M0 mc ms) (d : decode cc pc = .ok (.isub, 1)) : zSd p l e R s m args below meth c nL D A a0 M0 K KX mc ms pc (tSub (pc + 1)) := by
  obtain ⟨hx, hb, hml, hown, hts, hK, hF, hA, hlk, hrT, hst, hmc, hms, hcl0, hN0⟩ := X0
  intro Ψ hΨ L st M k n h h1 h2 h3 h4 h5 a cy H locs ls hE hO hS hl
  simp only [tSub] at h
  split at h
  · next y x r =>
    refine lv_isub hx hb d ?_
    have h9 := hΨ _ _ _ _ _ _ h.2 h1 h2 h3 h4 (h5.tl.tl.cons (zlv_i _ _ h.1)) a cy H locs ls hE hO hS hl
    simp only [List.map_cons, ztr, Int32.ofInt_sub] at h9
    exact h9
  · exact h.elim

def tMul (nx : Nat) : ZTr := fun Φ _ _ _ _ L st M k n => match st with | .inl y :: .inl x :: r => zrg (x * y) ∧ Φ nx L (zi (x * y) :: r) M k n | _ => False

theorem zs_imul (X0 : zCtx p l R s m args meth c cc own Ts nL ret D A a0 M0 mc ms) (d : decode cc pc = .ok (.imul, 1)) : zSd p l e R s m args below meth c nL D A a0 M0 K KX mc ms pc (tMul (pc + 1)) := by
  obtain ⟨hx, hb, hml, hown, hts, hK, hF, hA, hlk, hrT, hst, hmc, hms, hcl0, hN0⟩ := X0
  intro Ψ hΨ L st M k n h h1 h2 h3 h4 h5 a cy H locs ls hE hO hS hl
  simp only [tMul] at h
  split at h
  · next y x r =>
    refine lv_imul hx hb d ?_
    have h9 := hΨ _ _ _ _ _ _ h.2 h1 h2 h3 h4 (h5.tl.tl.cons (zlv_i _ _ h.1)) a cy H locs ls hE hO hS hl
    simp only [List.map_cons, ztr, Int32.ofInt_mul] at h9
    exact h9
  · exact h.elim

theorem zs_iand (X0 : zCtx p l R s m args meth c cc own Ts nL ret D A a0 M0 mc ms) (d : decode cc pc = .ok (.iand, 1)) : zSd p l e R s m args below meth c nL D A a0 M0 K KX mc ms pc (tBif zand (pc + 1)) := by
  obtain ⟨hx, hb, hml, hown, hts, hK, hF, hA, hlk, hrT, hst, hmc, hms, hcl0, hN0⟩ := X0
  intro Ψ hΨ L st M k n h h1 h2 h3 h4 h5 a cy H locs ls hE hO hS hl
  simp only [tBif] at h
  split at h
  · next y x r =>
    refine lv_iand hx hb d ?_
    have h9 := hΨ _ _ _ _ _ _ h h1 h2 h3 h4 (h5.tl.tl.cons (zlv_i _ _ (z32_rg _))) a cy H locs ls hE hO hS hl
    simp only [List.map_cons, ztr, zand, Int32.ofInt_toInt] at h9
    exact h9
  · exact h.elim

theorem zs_ior (X0 : zCtx p l R s m args meth c cc own Ts nL ret D A a0 M0 mc ms) (d : decode cc pc = .ok (.ior, 1)) : zSd p l e R s m args below meth c nL D A a0 M0 K KX mc ms pc (tBif zor (pc + 1)) := by
  obtain ⟨hx, hb, hml, hown, hts, hK, hF, hA, hlk, hrT, hst, hmc, hms, hcl0, hN0⟩ := X0
  intro Ψ hΨ L st M k n h h1 h2 h3 h4 h5 a cy H locs ls hE hO hS hl
  simp only [tBif] at h
  split at h
  · next y x r =>
    refine lv_ior hx hb d ?_
    have h9 := hΨ _ _ _ _ _ _ h h1 h2 h3 h4 (h5.tl.tl.cons (zlv_i _ _ (z32_rg _))) a cy H locs ls hE hO hS hl
    simp only [List.map_cons, ztr, zor, Int32.ofInt_toInt] at h9
    exact h9
  · exact h.elim

theorem zs_ixor (X0 : zCtx p l R s m args meth c cc own Ts nL ret D A a0 M0 mc ms) (d : decode cc pc = .ok (.ixor, 1)) : zSd p l e R s m args below meth c nL D A a0 M0 K KX mc ms pc (tBif zxor (pc + 1)) := by
  obtain ⟨hx, hb, hml, hown, hts, hK, hF, hA, hlk, hrT, hst, hmc, hms, hcl0, hN0⟩ := X0
  intro Ψ hΨ L st M k n h h1 h2 h3 h4 h5 a cy H locs ls hE hO hS hl
  simp only [tBif] at h
  split at h
  · next y x r =>
    refine lv_ixor hx hb d ?_
    have h9 := hΨ _ _ _ _ _ _ h h1 h2 h3 h4 (h5.tl.tl.cons (zlv_i _ _ (z32_rg _))) a cy H locs ls hE hO hS hl
    simp only [List.map_cons, ztr, zxor, Int32.ofInt_toInt] at h9
    exact h9
  · exact h.elim

theorem zs_ishl (X0 : zCtx p l R s m args meth c cc own Ts nL ret D A a0 M0 mc ms) (d : decode cc pc = .ok (.ishl, 1)) : zSd p l e R s m args below meth c nL D A a0 M0 K KX mc ms pc (tBif zshl (pc + 1)) := by
  obtain ⟨hx, hb, hml, hown, hts, hK, hF, hA, hlk, hrT, hst, hmc, hms, hcl0, hN0⟩ := X0
  intro Ψ hΨ L st M k n h h1 h2 h3 h4 h5 a cy H locs ls hE hO hS hl
  simp only [tBif] at h
  split at h
  · next y x r =>
    refine lv_ishl hx hb d ?_
    have h9 := hΨ _ _ _ _ _ _ h h1 h2 h3 h4 (h5.tl.tl.cons (zlv_i _ _ (z32_rg _))) a cy H locs ls hE hO hS hl
    simp only [List.map_cons, ztr, zshl, Int32.ofInt_toInt] at h9
    exact h9
  · exact h.elim

theorem zs_ishr (X0 : zCtx p l R s m args meth c cc own Ts nL ret D A a0 M0 mc ms) (d : decode cc pc = .ok (.ishr, 1)) : zSd p l e R s m args below meth c nL D A a0 M0 K KX mc ms pc (tBif zshr (pc + 1)) := by
  obtain ⟨hx, hb, hml, hown, hts, hK, hF, hA, hlk, hrT, hst, hmc, hms, hcl0, hN0⟩ := X0
  intro Ψ hΨ L st M k n h h1 h2 h3 h4 h5 a cy H locs ls hE hO hS hl
  simp only [tBif] at h
  split at h
  · next y x r =>
    refine lv_ishr hx hb d ?_
    have h9 := hΨ _ _ _ _ _ _ h h1 h2 h3 h4 (h5.tl.tl.cons (zlv_i _ _ (z32_rg _))) a cy H locs ls hE hO hS hl
    simp only [List.map_cons, ztr, zshr, Int32.ofInt_toInt] at h9
    exact h9
  · exact h.elim

theorem zs_iushr (X0 : zCtx p l R s m args meth c cc own Ts nL ret D A a0 M0 mc ms) (d : decode cc pc = .ok (.iushr, 1)) : zSd p l e R s m args below meth c nL D A a0 M0 K KX mc ms pc (tBif zushr (pc + 1)) := by
  obtain ⟨hx, hb, hml, hown, hts, hK, hF, hA, hlk, hrT, hst, hmc, hms, hcl0, hN0⟩ := X0
  intro Ψ hΨ L st M k n h h1 h2 h3 h4 h5 a cy H locs ls hE hO hS hl
  simp only [tBif] at h
  split at h
  · next y x r =>
    refine lv_iushr hx hb d rfl ?_
    have h9 := hΨ _ _ _ _ _ _ h h1 h2 h3 h4 (h5.tl.tl.cons (zlv_i _ _ (z32_rg _))) a cy H locs ls hE hO hS hl
    simp only [List.map_cons, ztr, zushr, Int32.ofInt_toInt] at h9
    exact h9
  · exact h.elim

def tDiv (f : Int → Int → Int) (nx : Nat) : ZTr := fun Φ _ _ _ _ L st M k n => match st with | .inl y :: .inl x :: r => 0 < y ∧ Φ nx L (zi (f x y) :: r) M k n | _ => False

theorem z32_div {x y : Int} (hx : zrg x) (h0 : 0 < y) (hy : zrg y) : Int32.ofInt x / Int32.ofInt y = Int32.ofInt (Int.tdiv x y) := by
  have e : (Int.tdiv x y) = (Int.tdiv x y).bmod (2 ^ 32) := by
    have h1 : -2147483648 ≤ Int.tdiv x y ∧ Int.tdiv x y < 2147483648 := by
      have hxx := hx.1
      have hxy := hx.2
      rcases Int.le_total 0 x with q | q
      · have a1 : 0 ≤ Int.tdiv x y := Int.tdiv_nonneg q (by omega)
        have a2 : Int.tdiv x y ≤ x := Int.tdiv_le_self y q
        omega
      · have a3 : Int.tdiv x y = - Int.tdiv (-x) y := by rw [Int.neg_tdiv]; omega
        have a1 : 0 ≤ Int.tdiv (-x) y := Int.tdiv_nonneg (by omega) (by omega)
        have a2 : Int.tdiv (-x) y ≤ -x := Int.tdiv_le_self y (by omega)
        omega
    exact (Int.bmod_eq_of_le (by omega) (by omega)).symm
  refine Int32.toInt_inj.mp ?_
  rw [Int32.toInt_div, z32 hx, z32 hy, Int32.toInt_ofInt]

theorem zs_idiv (X0 : zCtx p l R s m args meth c cc own Ts nL ret D A a0 M0 mc ms) (d : decode cc pc = .ok (.idiv, 1)) : zSd p l e R s m args below meth c nL D A a0 M0 K KX mc ms pc (tDiv Int.tdiv (pc + 1)) := by
  obtain ⟨hx, hb, hml, hown, hts, hK, hF, hA, hlk, hrT, hst, hmc, hms, hcl0, hN0⟩ := X0
  intro Ψ hΨ L st M k n h h1 h2 h3 h4 h5 a cy H locs ls hE hO hS hl
  simp only [tDiv] at h
  split at h
  · next y x r =>
    obtain ⟨g2, h⟩ := h
    have g1 := h5.tl.hd.rg
    have g3 := h5.hd.rg
    refine lv_idiv hx hb d (fun q => ?_) ?_
    · have := (z32_eq g3 zrg0).mp q
      omega
    have h9 := hΨ _ _ _ _ _ _ h h1 h2 h3 h4 (h5.tl.tl.cons (zlv_i _ _ (z_tdiv_rg g1 g2))) a cy H locs ls hE hO hS hl
    simp only [List.map_cons, ztr] at h9
    rw [z32_div g1 g2 g3]
    exact h9
  · exact h.elim

theorem zs_irem (X0 : zCtx p l R s m args meth c cc own Ts nL ret D A a0 M0 mc ms) (d : decode cc pc = .ok (.irem, 1)) : zSd p l e R s m args below meth c nL D A a0 M0 K KX mc ms pc (tDiv Int.tmod (pc + 1)) := by
  obtain ⟨hx, hb, hml, hown, hts, hK, hF, hA, hlk, hrT, hst, hmc, hms, hcl0, hN0⟩ := X0
  intro Ψ hΨ L st M k n h h1 h2 h3 h4 h5 a cy H locs ls hE hO hS hl
  simp only [tDiv] at h
  split at h
  · next y x r =>
    obtain ⟨g2, h⟩ := h
    have g1 := h5.tl.hd.rg
    have g3 := h5.hd.rg
    refine lv_irem hx hb d (fun q => ?_) ?_
    · have := (z32_eq g3 zrg0).mp q
      omega
    have h9 := hΨ _ _ _ _ _ _ h h1 h2 h3 h4 (h5.tl.tl.cons (zlv_i _ _ (z_tmod_rg g2 g3))) a cy H locs ls hE hO hS hl
    simp only [List.map_cons, ztr] at h9
    rw [z32_div g1 g2 g3, ← Int32.ofInt_mul, ← Int32.ofInt_sub, Int.mul_comm, ← Int.tmod_def]
    exact h9
  · exact h.elim

def tUn (f : Int → Int) (nx : Nat) : ZTr := fun Φ _ _ _ _ L st M k n => match st with | .inl x :: r => Φ nx L (zi (f x) :: r) M k n | _ => False

def tNeg (nx : Nat) : ZTr := fun Φ _ _ _ _ L st M k n => match st with | .inl x :: r => zrg (-x) ∧ Φ nx L (zi (-x) :: r) M k n | _ => False

def zi2b (x : Int) : Int := (Int32.ofInt x).toInt8.toInt

def zi2c (x : Int) : Int := ((Int32.ofInt x).toUInt32 % 65536).toInt32.toInt

theorem zs_ineg (X0 : zCtx p l R s m args meth c cc own Ts nL ret D A a0 M0 mc ms) (d : decode cc pc = .ok (.ineg, 1)) : zSd p l e R s m args below meth c nL D A a0 M0 K KX mc ms pc (tNeg (pc + 1)) := by
  obtain ⟨hx, hb, hml, hown, hts, hK, hF, hA, hlk, hrT, hst, hmc, hms, hcl0, hN0⟩ := X0
  intro Ψ hΨ L st M k n h h1 h2 h3 h4 h5 a cy H locs ls hE hO hS hl
  simp only [tNeg] at h
  split at h
  · next x r =>
    refine lv_ineg hx hb d ?_
    have h9 := hΨ _ _ _ _ _ _ h.2 h1 h2 h3 h4 (h5.tl.cons (zlv_i _ _ h.1)) a cy H locs ls hE hO hS hl
    simp only [List.map_cons, ztr, Int32.ofInt_neg] at h9
    exact h9
  · exact h.elim

theorem zs_i2b (X0 : zCtx p l R s m args meth c cc own Ts nL ret D A a0 M0 mc ms) (d : decode cc pc = .ok (.i2b, 1)) : zSd p l e R s m args below meth c nL D A a0 M0 K KX mc ms pc (tUn zi2b (pc + 1)) := by
  obtain ⟨hx, hb, hml, hown, hts, hK, hF, hA, hlk, hrT, hst, hmc, hms, hcl0, hN0⟩ := X0
  intro Ψ hΨ L st M k n h h1 h2 h3 h4 h5 a cy H locs ls hE hO hS hl
  simp only [tUn] at h
  split at h
  · next x r =>
    refine lv_i2b hx hb d rfl ?_
    have h9 := hΨ _ _ _ _ _ _ h h1 h2 h3 h4 (h5.tl.cons (zlv_i _ _ (by have e1 := Int8.le_toInt (Int32.ofInt x).toInt8; have e2 := Int8.toInt_lt (Int32.ofInt x).toInt8; show zrg ((Int32.ofInt x).toInt8.toInt); exact ⟨by omega, by omega⟩))) a cy H locs ls hE hO hS hl
    simp only [List.map_cons, ztr, zi2b, Int32.ofInt_int8ToInt] at h9
    exact h9
  · exact h.elim

theorem zs_i2c (X0 : zCtx p l R s m args meth c cc own Ts nL ret D A a0 M0 mc ms) (d : decode cc pc = .ok (.i2c, 1)) : zSd p l e R s m args below meth c nL D A a0 M0 K KX mc ms pc (tUn zi2c (pc + 1)) := by
  obtain ⟨hx, hb, hml, hown, hts, hK, hF, hA, hlk, hrT, hst, hmc, hms, hcl0, hN0⟩ := X0
  intro Ψ hΨ L st M k n h h1 h2 h3 h4 h5 a cy H locs ls hE hO hS hl
  simp only [tUn] at h
  split at h
  · next x r =>
    refine lv_i2c hx hb d rfl ?_
    have h9 := hΨ _ _ _ _ _ _ h h1 h2 h3 h4 (h5.tl.cons (zlv_i _ _ (z32_rg _))) a cy H locs ls hE hO hS hl
    simp only [List.map_cons, ztr, zi2c, Int32.ofInt_toInt] at h9
    exact h9
  · exact h.elim

def tI2l (nx : Nat) : ZTr := fun Φ _ _ _ _ L st M k n => match st with | .inl x :: r => Φ nx L (zl x :: r) M k n | _ => False

theorem zs_i2l (X0 : zCtx p l R s m args meth c cc own Ts nL ret D A a0 M0 mc ms) (d : decode cc pc = .ok (.i2l, 1)) : zSd p l e R s m args below meth c nL D A a0 M0 K KX mc ms pc (tI2l (pc + 1)) := by
  obtain ⟨hx, hb, hml, hown, hts, hK, hF, hA, hlk, hrT, hst, hmc, hms, hcl0, hN0⟩ := X0
  intro Ψ hΨ L st M k n h h1 h2 h3 h4 h5 a cy H locs ls hE hO hS hl
  simp only [tI2l] at h
  split at h
  · next x r =>
    have g1 := h5.hd.rg
    refine lv_i2l hx hb d (v := Int64.ofInt x) ?_ ?_
    · exact Int32.toInt64_ofInt (by have := g1.1; have e9 : Int32.minValue.toInt = -2147483648 := rfl; omega) (by have := g1.2; have e9 : Int32.maxValue.toInt = 2147483647 := rfl; omega)
    exact hΨ _ _ _ _ _ _ h h1 h2 h3 h4 (h5.tl.cons (zlv_l _ _ ⟨by have := g1.1; omega, by have := g1.2; omega⟩)) a cy H locs ls hE hO hS hl
  · exact h.elim

def zcmp (x y : Int) : Int := if y < x then 1 else if x = y then 0 else -1


def tLcmp (nx : Nat) : ZTr := fun Φ _ _ _ _ L st M k n => match st with | .inr (.inr (.inl y)) :: .inr (.inr (.inl x)) :: r => Φ nx L (zi (zcmp x y) :: r) M k n | _ => False

theorem zs_lcmp (X0 : zCtx p l R s m args meth c cc own Ts nL ret D A a0 M0 mc ms) (d : decode cc pc = .ok (.lcmp, 1)) : zSd p l e R s m args below meth c nL D A a0 M0 K KX mc ms pc (tLcmp (pc + 1)) := by
  obtain ⟨hx, hb, hml, hown, hts, hK, hF, hA, hlk, hrT, hst, hmc, hms, hcl0, hN0⟩ := X0
  intro Ψ hΨ L st M k n h h1 h2 h3 h4 h5 a cy H locs ls hE hO hS hl
  simp only [tLcmp] at h
  split at h
  · next y x r =>
    have g1 := h5.tl.hd.rl
    have g2 := h5.hd.rl
    refine W.lcmp hx hb d ?_
    have h9 := hΨ _ _ _ _ _ _ h h1 h2 h3 h4 (h5.tl.tl.cons (zlv_i _ _ (by unfold zcmp; split; (exact ⟨by omega, by omega⟩); split <;> exact ⟨by omega, by omega⟩))) a cy H locs ls hE hO hS hl
    have e : lg_cmp (Int64.ofInt x) (Int64.ofInt y) = Int32.ofInt (zcmp x y) := by
      unfold lg_cmp zcmp
      have q1 : (Int64.ofInt x > Int64.ofInt y) ↔ y < x := by
        show (Int64.ofInt y < Int64.ofInt x) ↔ y < x
        rw [Int64.lt_iff_toInt_lt, zI64 g1, zI64 g2]
      have q2 : (Int64.ofInt x = Int64.ofInt y) ↔ x = y := by rw [← Int64.toInt_inj, zI64 g1, zI64 g2]
      by_cases c1 : y < x
      · rw [if_pos (q1.mpr c1), if_pos c1]; rfl
      · rw [if_neg (fun z => c1 (q1.mp z)), if_neg c1]
        by_cases c2 : x = y
        · rw [if_pos (q2.mpr c2), if_pos c2]; rfl
        · rw [if_neg (fun z => c2 (q2.mp z)), if_neg c2]; rfl
    simp only [List.map_cons, ztr] at h9 ⊢
    rw [e]
    exact h9
  · exact h.elim

def tDup (nx : Nat) : ZTr := fun Φ _ _ _ _ L st M k n => match st with | v :: r => zcat v = 1 ∧ Φ nx L (v :: v :: r) M k n | _ => False

theorem zs_dup (X0 : zCtx p l R s m args meth c cc own Ts nL ret D A a0 M0 mc ms) (d : decode cc pc = .ok (.dup, 1)) : zSd p l e R s m args below meth c nL D A a0 M0 K KX mc ms pc (tDup (pc + 1)) := by
  obtain ⟨hx, hb, hml, hown, hts, hK, hF, hA, hlk, hrT, hst, hmc, hms, hcl0, hN0⟩ := X0
  intro Ψ hΨ L st M k n h h1 h2 h3 h4 h5 a cy H locs ls hE hO hS hl
  simp only [tDup] at h
  split at h
  · next v r => exact lv_dup hx hb d ((zcat_ok a v).trans h.1) (hΨ _ _ _ _ _ _ h.2 h1 h2 h3 h4 (h5.cons h5.hd) a cy H locs ls hE hO hS hl)
  · exact h.elim

def tPop (nx : Nat) : ZTr := fun Φ _ _ _ _ L st M k n => match st with | v :: r => zcat v = 1 ∧ Φ nx L r M k n | _ => False

theorem zs_pop (X0 : zCtx p l R s m args meth c cc own Ts nL ret D A a0 M0 mc ms) (d : decode cc pc = .ok (.pop, 1)) : zSd p l e R s m args below meth c nL D A a0 M0 K KX mc ms pc (tPop (pc + 1)) := by
  obtain ⟨hx, hb, hml, hown, hts, hK, hF, hA, hlk, hrT, hst, hmc, hms, hcl0, hN0⟩ := X0
  intro Ψ hΨ L st M k n h h1 h2 h3 h4 h5 a cy H locs ls hE hO hS hl
  simp only [tPop] at h
  split at h
  · next v r => exact lv_pop hx hb d ((zcat_ok a v).trans h.1) (hΨ _ _ _ _ _ _ h.2 h1 h2 h3 h4 h5.tl a cy H locs ls hE hO hS hl)
  · exact h.elim

def tDupX1 (nx : Nat) : ZTr := fun Φ _ _ _ _ L st M k n => match st with | v :: w :: r => (zcat v = 1 ∧ zcat w = 1) ∧ Φ nx L (v :: w :: v :: r) M k n | _ => False

theorem zs_dup_x1 (X0 : zCtx p l R s m args meth c cc own Ts nL ret D A a0 M0 mc ms) (d : decode cc pc = .ok (.dup_x1, 1)) : zSd p l e R s m args below meth c nL D A a0 M0 K KX mc ms pc (tDupX1 (pc + 1)) := by
  obtain ⟨hx, hb, hml, hown, hts, hK, hF, hA, hlk, hrT, hst, hmc, hms, hcl0, hN0⟩ := X0
  intro Ψ hΨ L st M k n h h1 h2 h3 h4 h5 a cy H locs ls hE hO hS hl
  simp only [tDupX1] at h
  split at h
  · next v w r => exact lv_dup_x1 hx hb d ((zcat_ok a v).trans h.1.1) ((zcat_ok a w).trans h.1.2) (hΨ _ _ _ _ _ _ h.2 h1 h2 h3 h4 ((h5.tl.tl.cons h5.hd).cons h5.tl.hd |>.cons h5.hd) a cy H locs ls hE hO hS hl)
  · exact h.elim

def tDup2 (nx : Nat) : ZTr := fun Φ _ _ _ _ L st M k n => match st with | v :: w :: r => (zcat v = 1 ∧ zcat w = 1) ∧ Φ nx L (v :: w :: v :: w :: r) M k n | _ => False

theorem zs_dup2 (X0 : zCtx p l R s m args meth c cc own Ts nL ret D A a0 M0 mc ms) (d : decode cc pc = .ok (.dup2, 1)) : zSd p l e R s m args below meth c nL D A a0 M0 K KX mc ms pc (tDup2 (pc + 1)) := by
  obtain ⟨hx, hb, hml, hown, hts, hK, hF, hA, hlk, hrT, hst, hmc, hms, hcl0, hN0⟩ := X0
  intro Ψ hΨ L st M k n h h1 h2 h3 h4 h5 a cy H locs ls hE hO hS hl
  simp only [tDup2] at h
  split at h
  · next v w r => exact lv_dup2_11 hx hb d ((zcat_ok a v).trans h.1.1) ((zcat_ok a w).trans h.1.2) (hΨ _ _ _ _ _ _ h.2 h1 h2 h3 h4 ((h5.cons h5.tl.hd).cons h5.hd) a cy H locs ls hE hO hS hl)
  · exact h.elim

def tIf_eq (tgt nx : Nat) : ZTr := fun Φ _ _ _ _ L st M k n => match st with | .inl x :: r => (x = 0 → Φ tgt L r M k n) ∧ (x ≠ 0 → Φ nx L r M k n) | _ => False

def tIc_eq (tgt nx : Nat) : ZTr := fun Φ _ _ _ _ L st M k n => match st with | .inl y :: .inl x :: r => (x = y → Φ tgt L r M k n) ∧ (x ≠ y → Φ nx L r M k n) | _ => False

theorem zs_if_eq (X0 : zCtx p l R s m args meth c cc own Ts nL ret D A a0 M0 mc ms) {off : Int} {tgt : Nat} (d : decode cc pc = .ok (.ifCond .eq off, 3)) (ht : (pc : Int) + off = (tgt : Int)) : zSd p l e R s m args below meth c nL D A a0 M0 K KX mc ms pc (tIf_eq tgt (pc + 3)) := by
  obtain ⟨hx, hb, hml, hown, hts, hK, hF, hA, hlk, hrT, hst, hmc, hms, hcl0, hN0⟩ := X0
  intro Ψ hΨ L st M k n h h1 h2 h3 h4 h5 a cy H locs ls hE hO hS hl
  simp only [tIf_eq] at h
  split at h
  · next x r =>
    obtain ⟨h, hh⟩ := h
    have g1 := h5.hd.rg
    have g2 : zrg 0 := zrg0
    exact lv_if_eq hx hb d ht (fun z => hΨ _ _ _ _ _ _ (h ((z32_eq g1 g2).mp z)) h1 h2 h3 h4 h5.tl a cy H locs ls hE hO hS hl) (fun z => hΨ _ _ _ _ _ _ (hh (fun w => z ((z32_eq g1 g2).mpr w))) h1 h2 h3 h4 h5.tl a cy H locs ls hE hO hS hl)
  · exact h.elim

theorem zs_icmp_eq (X0 : zCtx p l R s m args meth c cc own Ts nL ret D A a0 M0 mc ms) {off : Int} {tgt : Nat} (d : decode cc pc = .ok (.if_icmp .eq off, 3)) (ht : (pc : Int) + off = (tgt : Int)) : zSd p l e R s m args below meth c nL D A a0 M0 K KX mc ms pc (tIc_eq tgt (pc + 3)) := by
  obtain ⟨hx, hb, hml, hown, hts, hK, hF, hA, hlk, hrT, hst, hmc, hms, hcl0, hN0⟩ := X0
  intro Ψ hΨ L st M k n h h1 h2 h3 h4 h5 a cy H locs ls hE hO hS hl
  simp only [tIc_eq] at h
  split at h
  · next y x r =>
    obtain ⟨h, hh⟩ := h
    have g1 := h5.tl.hd.rg
    have g2 := h5.hd.rg
    exact lv_icmp_eq hx hb d ht (fun z => hΨ _ _ _ _ _ _ (h ((z32_eq g1 g2).mp z)) h1 h2 h3 h4 h5.tl.tl a cy H locs ls hE hO hS hl) (fun z => hΨ _ _ _ _ _ _ (hh (fun w => z ((z32_eq g1 g2).mpr w))) h1 h2 h3 h4 h5.tl.tl a cy H locs ls hE hO hS hl)
  · exact h.elim

def tIf_ne (tgt nx : Nat) : ZTr := fun Φ _ _ _ _ L st M k n => match st with | .inl x :: r => (x ≠ 0 → Φ tgt L r M k n) ∧ (x = 0 → Φ nx L r M k n) | _ => False

def tIc_ne (tgt nx : Nat) : ZTr := fun Φ _ _ _ _ L st M k n => match st with | .inl y :: .inl x :: r => (x ≠ y → Φ tgt L r M k n) ∧ (x = y → Φ nx L r M k n) | _ => False

theorem zs_if_ne (X0 : zCtx p l R s m args meth c cc own Ts nL ret D A a0 M0 mc ms) {off : Int} {tgt : Nat} (d : decode cc pc = .ok (.ifCond .ne off, 3)) (ht : (pc : Int) + off = (tgt : Int)) : zSd p l e R s m args below meth c nL D A a0 M0 K KX mc ms pc (tIf_ne tgt (pc + 3)) := by
  obtain ⟨hx, hb, hml, hown, hts, hK, hF, hA, hlk, hrT, hst, hmc, hms, hcl0, hN0⟩ := X0
  intro Ψ hΨ L st M k n h h1 h2 h3 h4 h5 a cy H locs ls hE hO hS hl
  simp only [tIf_ne] at h
  split at h
  · next x r =>
    obtain ⟨h, hh⟩ := h
    have g1 := h5.hd.rg
    have g2 : zrg 0 := zrg0
    exact lv_if_ne hx hb d ht (fun z => hΨ _ _ _ _ _ _ (h (fun w => z ((z32_eq g1 g2).mpr w))) h1 h2 h3 h4 h5.tl a cy H locs ls hE hO hS hl) (fun z => hΨ _ _ _ _ _ _ (hh ((z32_eq g1 g2).mp z)) h1 h2 h3 h4 h5.tl a cy H locs ls hE hO hS hl)
  · exact h.elim

theorem zs_icmp_ne (X0 : zCtx p l R s m args meth c cc own Ts nL ret D A a0 M0 mc ms) {off : Int} {tgt : Nat} (d : decode cc pc = .ok (.if_icmp .ne off, 3)) (ht : (pc : Int) + off = (tgt : Int)) : zSd p l e R s m args below meth c nL D A a0 M0 K KX mc ms pc (tIc_ne tgt (pc + 3)) := by
  obtain ⟨hx, hb, hml, hown, hts, hK, hF, hA, hlk, hrT, hst, hmc, hms, hcl0, hN0⟩ := X0
  intro Ψ hΨ L st M k n h h1 h2 h3 h4 h5 a cy H locs ls hE hO hS hl
  simp only [tIc_ne] at h
  split at h
  · next y x r =>
    obtain ⟨h, hh⟩ := h
    have g1 := h5.tl.hd.rg
    have g2 := h5.hd.rg
    exact lv_icmp_ne hx hb d ht (fun z => hΨ _ _ _ _ _ _ (h (fun w => z ((z32_eq g1 g2).mpr w))) h1 h2 h3 h4 h5.tl.tl a cy H locs ls hE hO hS hl) (fun z => hΨ _ _ _ _ _ _ (hh ((z32_eq g1 g2).mp z)) h1 h2 h3 h4 h5.tl.tl a cy H locs ls hE hO hS hl)
  · exact h.elim

def tIf_lt (tgt nx : Nat) : ZTr := fun Φ _ _ _ _ L st M k n => match st with | .inl x :: r => (x < 0 → Φ tgt L r M k n) ∧ (0 ≤ x → Φ nx L r M k n) | _ => False

def tIc_lt (tgt nx : Nat) : ZTr := fun Φ _ _ _ _ L st M k n => match st with | .inl y :: .inl x :: r => (x < y → Φ tgt L r M k n) ∧ (y ≤ x → Φ nx L r M k n) | _ => False

theorem zs_if_lt (X0 : zCtx p l R s m args meth c cc own Ts nL ret D A a0 M0 mc ms) {off : Int} {tgt : Nat} (d : decode cc pc = .ok (.ifCond .lt off, 3)) (ht : (pc : Int) + off = (tgt : Int)) : zSd p l e R s m args below meth c nL D A a0 M0 K KX mc ms pc (tIf_lt tgt (pc + 3)) := by
  obtain ⟨hx, hb, hml, hown, hts, hK, hF, hA, hlk, hrT, hst, hmc, hms, hcl0, hN0⟩ := X0
  intro Ψ hΨ L st M k n h h1 h2 h3 h4 h5 a cy H locs ls hE hO hS hl
  simp only [tIf_lt] at h
  split at h
  · next x r =>
    obtain ⟨h, hh⟩ := h
    have g1 := h5.hd.rg
    have g2 : zrg 0 := zrg0
    exact lv_if_lt hx hb d ht (fun z => hΨ _ _ _ _ _ _ (h ((z32_lt g1 g2).mp z)) h1 h2 h3 h4 h5.tl a cy H locs ls hE hO hS hl) (fun z => hΨ _ _ _ _ _ _ (hh (Int.not_lt.mp (fun w => z ((z32_lt g1 g2).mpr w)))) h1 h2 h3 h4 h5.tl a cy H locs ls hE hO hS hl)
  · exact h.elim

theorem zs_icmp_lt (X0 : zCtx p l R s m args meth c cc own Ts nL ret D A a0 M0 mc ms) {off : Int} {tgt : Nat} (d : decode cc pc = .ok (.if_icmp .lt off, 3)) (ht : (pc : Int) + off = (tgt : Int)) : zSd p l e R s m args below meth c nL D A a0 M0 K KX mc ms pc (tIc_lt tgt (pc + 3)) := by
  obtain ⟨hx, hb, hml, hown, hts, hK, hF, hA, hlk, hrT, hst, hmc, hms, hcl0, hN0⟩ := X0
  intro Ψ hΨ L st M k n h h1 h2 h3 h4 h5 a cy H locs ls hE hO hS hl
  simp only [tIc_lt] at h
  split at h
  · next y x r =>
    obtain ⟨h, hh⟩ := h
    have g1 := h5.tl.hd.rg
    have g2 := h5.hd.rg
    exact lv_icmp_lt hx hb d ht (fun z => hΨ _ _ _ _ _ _ (h ((z32_lt g1 g2).mp z)) h1 h2 h3 h4 h5.tl.tl a cy H locs ls hE hO hS hl) (fun z => hΨ _ _ _ _ _ _ (hh (Int.not_lt.mp (fun w => z ((z32_lt g1 g2).mpr w)))) h1 h2 h3 h4 h5.tl.tl a cy H locs ls hE hO hS hl)
  · exact h.elim

def tIf_ge (tgt nx : Nat) : ZTr := fun Φ _ _ _ _ L st M k n => match st with | .inl x :: r => (0 ≤ x → Φ tgt L r M k n) ∧ (x < 0 → Φ nx L r M k n) | _ => False

def tIc_ge (tgt nx : Nat) : ZTr := fun Φ _ _ _ _ L st M k n => match st with | .inl y :: .inl x :: r => (y ≤ x → Φ tgt L r M k n) ∧ (x < y → Φ nx L r M k n) | _ => False

theorem zs_if_ge (X0 : zCtx p l R s m args meth c cc own Ts nL ret D A a0 M0 mc ms) {off : Int} {tgt : Nat} (d : decode cc pc = .ok (.ifCond .ge off, 3)) (ht : (pc : Int) + off = (tgt : Int)) : zSd p l e R s m args below meth c nL D A a0 M0 K KX mc ms pc (tIf_ge tgt (pc + 3)) := by
  obtain ⟨hx, hb, hml, hown, hts, hK, hF, hA, hlk, hrT, hst, hmc, hms, hcl0, hN0⟩ := X0
  intro Ψ hΨ L st M k n h h1 h2 h3 h4 h5 a cy H locs ls hE hO hS hl
  simp only [tIf_ge] at h
  split at h
  · next x r =>
    obtain ⟨h, hh⟩ := h
    have g1 := h5.hd.rg
    have g2 : zrg 0 := zrg0
    exact lv_if_ge hx hb d ht (fun z => hΨ _ _ _ _ _ _ (h ((z32_le g2 g1).mp z)) h1 h2 h3 h4 h5.tl a cy H locs ls hE hO hS hl) (fun z => hΨ _ _ _ _ _ _ (hh (Int.not_le.mp (fun w => z ((z32_le g2 g1).mpr w)))) h1 h2 h3 h4 h5.tl a cy H locs ls hE hO hS hl)
  · exact h.elim

theorem zs_icmp_ge (X0 : zCtx p l R s m args meth c cc own Ts nL ret D A a0 M0 mc ms) {off : Int} {tgt : Nat} (d : decode cc pc = .ok (.if_icmp .ge off, 3)) (ht : (pc : Int) + off = (tgt : Int)) : zSd p l e R s m args below meth c nL D A a0 M0 K KX mc ms pc (tIc_ge tgt (pc + 3)) := by
  obtain ⟨hx, hb, hml, hown, hts, hK, hF, hA, hlk, hrT, hst, hmc, hms, hcl0, hN0⟩ := X0
  intro Ψ hΨ L st M k n h h1 h2 h3 h4 h5 a cy H locs ls hE hO hS hl
  simp only [tIc_ge] at h
  split at h
  · next y x r =>
    obtain ⟨h, hh⟩ := h
    have g1 := h5.tl.hd.rg
    have g2 := h5.hd.rg
    exact lv_icmp_ge hx hb d ht (fun z => hΨ _ _ _ _ _ _ (h ((z32_le g2 g1).mp z)) h1 h2 h3 h4 h5.tl.tl a cy H locs ls hE hO hS hl) (fun z => hΨ _ _ _ _ _ _ (hh (Int.not_le.mp (fun w => z ((z32_le g2 g1).mpr w)))) h1 h2 h3 h4 h5.tl.tl a cy H locs ls hE hO hS hl)
  · exact h.elim

def tIf_gt (tgt nx : Nat) : ZTr := fun Φ _ _ _ _ L st M k n => match st with | .inl x :: r => (0 < x → Φ tgt L r M k n) ∧ (x ≤ 0 → Φ nx L r M k n) | _ => False

def tIc_gt (tgt nx : Nat) : ZTr := fun Φ _ _ _ _ L st M k n => match st with | .inl y :: .inl x :: r => (y < x → Φ tgt L r M k n) ∧ (x ≤ y → Φ nx L r M k n) | _ => False

theorem zs_if_gt (X0 : zCtx p l R s m args meth c cc own Ts nL ret D A a0 M0 mc ms) {off : Int} {tgt : Nat} (d : decode cc pc = .ok (.ifCond .gt off, 3)) (ht : (pc : Int) + off = (tgt : Int)) : zSd p l e R s m args below meth c nL D A a0 M0 K KX mc ms pc (tIf_gt tgt (pc + 3)) := by
  obtain ⟨hx, hb, hml, hown, hts, hK, hF, hA, hlk, hrT, hst, hmc, hms, hcl0, hN0⟩ := X0
  intro Ψ hΨ L st M k n h h1 h2 h3 h4 h5 a cy H locs ls hE hO hS hl
  simp only [tIf_gt] at h
  split at h
  · next x r =>
    obtain ⟨h, hh⟩ := h
    have g1 := h5.hd.rg
    have g2 : zrg 0 := zrg0
    exact lv_if_gt hx hb d ht (fun z => hΨ _ _ _ _ _ _ (h ((z32_lt g2 g1).mp z)) h1 h2 h3 h4 h5.tl a cy H locs ls hE hO hS hl) (fun z => hΨ _ _ _ _ _ _ (hh (Int.not_lt.mp (fun w => z ((z32_lt g2 g1).mpr w)))) h1 h2 h3 h4 h5.tl a cy H locs ls hE hO hS hl)
  · exact h.elim

theorem zs_icmp_gt (X0 : zCtx p l R s m args meth c cc own Ts nL ret D A a0 M0 mc ms) {off : Int} {tgt : Nat} (d : decode cc pc = .ok (.if_icmp .gt off, 3)) (ht : (pc : Int) + off = (tgt : Int)) : zSd p l e R s m args below meth c nL D A a0 M0 K KX mc ms pc (tIc_gt tgt (pc + 3)) := by
  obtain ⟨hx, hb, hml, hown, hts, hK, hF, hA, hlk, hrT, hst, hmc, hms, hcl0, hN0⟩ := X0
  intro Ψ hΨ L st M k n h h1 h2 h3 h4 h5 a cy H locs ls hE hO hS hl
  simp only [tIc_gt] at h
  split at h
  · next y x r =>
    obtain ⟨h, hh⟩ := h
    have g1 := h5.tl.hd.rg
    have g2 := h5.hd.rg
    exact lv_icmp_gt hx hb d ht (fun z => hΨ _ _ _ _ _ _ (h ((z32_lt g2 g1).mp z)) h1 h2 h3 h4 h5.tl.tl a cy H locs ls hE hO hS hl) (fun z => hΨ _ _ _ _ _ _ (hh (Int.not_lt.mp (fun w => z ((z32_lt g2 g1).mpr w)))) h1 h2 h3 h4 h5.tl.tl a cy H locs ls hE hO hS hl)
  · exact h.elim

def tIf_le (tgt nx : Nat) : ZTr := fun Φ _ _ _ _ L st M k n => match st with | .inl x :: r => (x ≤ 0 → Φ tgt L r M k n) ∧ (0 < x → Φ nx L r M k n) | _ => False

def tIc_le (tgt nx : Nat) : ZTr := fun Φ _ _ _ _ L st M k n => match st with | .inl y :: .inl x :: r => (x ≤ y → Φ tgt L r M k n) ∧ (y < x → Φ nx L r M k n) | _ => False

theorem zs_if_le (X0 : zCtx p l R s m args meth c cc own Ts nL ret D A a0 M0 mc ms) {off : Int} {tgt : Nat} (d : decode cc pc = .ok (.ifCond .le off, 3)) (ht : (pc : Int) + off = (tgt : Int)) : zSd p l e R s m args below meth c nL D A a0 M0 K KX mc ms pc (tIf_le tgt (pc + 3)) := by
  obtain ⟨hx, hb, hml, hown, hts, hK, hF, hA, hlk, hrT, hst, hmc, hms, hcl0, hN0⟩ := X0
  intro Ψ hΨ L st M k n h h1 h2 h3 h4 h5 a cy H locs ls hE hO hS hl
  simp only [tIf_le] at h
  split at h
  · next x r =>
    obtain ⟨h, hh⟩ := h
    have g1 := h5.hd.rg
    have g2 : zrg 0 := zrg0
    exact lv_if_le hx hb d ht (fun z => hΨ _ _ _ _ _ _ (h ((z32_le g1 g2).mp z)) h1 h2 h3 h4 h5.tl a cy H locs ls hE hO hS hl) (fun z => hΨ _ _ _ _ _ _ (hh (Int.not_le.mp (fun w => z ((z32_le g1 g2).mpr w)))) h1 h2 h3 h4 h5.tl a cy H locs ls hE hO hS hl)
  · exact h.elim

theorem zs_icmp_le (X0 : zCtx p l R s m args meth c cc own Ts nL ret D A a0 M0 mc ms) {off : Int} {tgt : Nat} (d : decode cc pc = .ok (.if_icmp .le off, 3)) (ht : (pc : Int) + off = (tgt : Int)) : zSd p l e R s m args below meth c nL D A a0 M0 K KX mc ms pc (tIc_le tgt (pc + 3)) := by
  obtain ⟨hx, hb, hml, hown, hts, hK, hF, hA, hlk, hrT, hst, hmc, hms, hcl0, hN0⟩ := X0
  intro Ψ hΨ L st M k n h h1 h2 h3 h4 h5 a cy H locs ls hE hO hS hl
  simp only [tIc_le] at h
  split at h
  · next y x r =>
    obtain ⟨h, hh⟩ := h
    have g1 := h5.tl.hd.rg
    have g2 := h5.hd.rg
    exact lv_icmp_le hx hb d ht (fun z => hΨ _ _ _ _ _ _ (h ((z32_le g1 g2).mp z)) h1 h2 h3 h4 h5.tl.tl a cy H locs ls hE hO hS hl) (fun z => hΨ _ _ _ _ _ _ (hh (Int.not_le.mp (fun w => z ((z32_le g1 g2).mpr w)))) h1 h2 h3 h4 h5.tl.tl a cy H locs ls hE hO hS hl)
  · exact h.elim

def tGo (tgt : Nat) : ZTr := fun Φ _ _ _ _ L st M k n => Φ tgt L st M k n

theorem zs_goto (X0 : zCtx p l R s m args meth c cc own Ts nL ret D A a0 M0 mc ms) {off : Int} {tgt : Nat} (d : decode cc pc = .ok (.goto off, 3)) (ht : (pc : Int) + off = (tgt : Int)) : zSd p l e R s m args below meth c nL D A a0 M0 K KX mc ms pc (tGo tgt) := by
  obtain ⟨hx, hb, hml, hown, hts, hK, hF, hA, hlk, hrT, hst, hmc, hms, hcl0, hN0⟩ := X0
  intro Ψ hΨ L st M k n h h1 h2 h3 h4 h5 a cy H locs ls hE hO hS hl
  exact lv_goto hx hb d ht (hΨ _ _ _ _ _ _ h h1 h2 h3 h4 h5 a cy H locs ls hE hO hS hl)
def zSwC (F : Nat → Prop) (x : Int) : List (Int × Nat) → Nat → Prop
  | [], d => F d
  | (v, t) :: r, d => (x = v → F t) ∧ (x ≠ v → zSwC F x r d)

def tSw (cs : List (Int × Nat)) (dflt : Nat) : ZTr := fun Φ _ _ _ _ L st M k n => match st with | .inl x :: r => zSwC (fun t => Φ t L r M k n) x cs dflt | _ => False

theorem zSwC_get {F : Nat → Prop} {x : Int} : ∀ {cs : List (Int × Nat)} {d : Nat}, zSwC F x cs d → (∃ t, (x, t) ∈ cs ∧ F t) ∨ ((∀ q ∈ cs, x ≠ q.1) ∧ F d)
  | [], d, h => Or.inr ⟨fun _ hq => absurd hq List.not_mem_nil, h⟩
  | (v, t) :: r, d, h => by
    by_cases hv : x = v
    · subst hv
      exact Or.inl ⟨t, List.mem_cons_self, h.1 rfl⟩
    · rcases zSwC_get (h.2 hv) with ⟨t', h1, h2⟩ | ⟨h1, h2⟩
      · exact Or.inl ⟨t', List.mem_cons_of_mem _ h1, h2⟩
      · refine Or.inr ⟨fun q hq => ?_, h2⟩
        rcases List.mem_cons.mp hq with rfl | hq
        · exact hv
        · exact h1 q hq

theorem zs_tablesw (X0 : zCtx p l R s m args meth c cc own Ts nL ret D A a0 M0 mc ms) {df lo hi : Int} {offs : Array Int} {len : Nat} {cs : List (Int × Nat)} {dt : Nat} (d : decode cc pc = .ok (.tableswitch df lo hi offs, len)) (hd : (pc : Int) + df = (dt : Int)) (hcs : ∀ q ∈ cs, lo ≤ q.1 ∧ q.1 ≤ hi ∧ offs[(q.1 - lo).toNat]? = some ((q.2 : Int) - pc)) (hall : ∀ i : Nat, i < (hi - lo + 1).toNat → (lo + (i : Int)) ∈ cs.map (·.1)) : zSd p l e R s m args below meth c nL D A a0 M0 K KX mc ms pc (tSw cs dt) := by
  obtain ⟨hx, hb, hml, hown, hts, hK, hF, hA, hlk, hrT, hst, hmc, hms, hcl0, hN0⟩ := X0
  intro Ψ hΨ L st M k n h h1 h2 h3 h4 h5 a cy H locs ls hE hO hS hl
  simp only [tSw] at h
  split at h
  · next x r =>
    have g1 := h5.hd.rg
    rcases zSwC_get h with ⟨t, q1, q2⟩ | ⟨q1, q2⟩
    · obtain ⟨b1, b2, b3⟩ := hcs _ q1
      refine lv_tableIn (off := (t : Int) - pc) (tgt := t) hx hb d (by rw [z32 g1]; exact Int.not_lt.mpr b1) (by rw [z32 g1]; exact Int.not_lt.mpr b2) (by rw [z32 g1]; exact b3) (by omega) ?_
      exact hΨ _ _ _ _ _ _ q2 h1 h2 h3 h4 h5.tl a cy H locs ls hE hO hS hl
    · refine lv_tableOut (tgt := dt) hx hb d ?_ hd (hΨ _ _ _ _ _ _ q2 h1 h2 h3 h4 h5.tl a cy H locs ls hE hO hS hl)
      rw [z32 g1]
      by_cases c1 : x < lo
      · exact Or.inl c1
      by_cases c2 : hi < x
      · exact Or.inr c2
      exfalso
      have := hall (x - lo).toNat (by omega)
      rw [show lo + ((x - lo).toNat : Int) = x by omega] at this
      obtain ⟨q, hq, e⟩ := List.mem_map.mp this
      exact q1 q hq e.symm
  · exact h.elim

theorem z_off : ∀ (ps : List (Int × Int)) (d x : Int), (∀ q ∈ ps, x ≠ q.1) → Op.lookupswitch.offset ps d x = d
  | [], _, _, _ => rfl
  | (v, o) :: r, d, x, h => by
    rw [Op.lookupswitch.offset_cons, if_neg (fun z => h _ List.mem_cons_self z.symm)]
    exact z_off r d x (fun q hq => h q (List.mem_cons_of_mem _ hq))

theorem zs_lookup (X0 : zCtx p l R s m args meth c cc own Ts nL ret D A a0 M0 mc ms) {df : Int} {ps : Array (Int × Int)} {len : Nat} {cs : List (Int × Nat)} {dt : Nat} (d : decode cc pc = .ok (.lookupswitch df ps, len)) (hp : (ps.toList.zip (ps.toList.drop 1)).all (fun (a, next) => a.1 < next.1) = true) (hd : (pc : Int) + df = (dt : Int)) (hcs : ∀ q ∈ cs, Op.lookupswitch.offset ps.toList df q.1 = (q.2 : Int) - pc) (hall : ∀ q ∈ ps.toList, q.1 ∈ cs.map (·.1)) : zSd p l e R s m args below meth c nL D A a0 M0 K KX mc ms pc (tSw cs dt) := by
  obtain ⟨hx, hb, hml, hown, hts, hK, hF, hA, hlk, hrT, hst, hmc, hms, hcl0, hN0⟩ := X0
  intro Ψ hΨ L st M k n h h1 h2 h3 h4 h5 a cy H locs ls hE hO hS hl
  simp only [tSw] at h
  split at h
  · next x r =>
    have g1 := h5.hd.rg
    rcases zSwC_get h with ⟨t, q1, q2⟩ | ⟨q1, q2⟩
    · refine lv_lookup (off := (t : Int) - pc) (tgt := t) hx hb d hp (by rw [z32 g1]; exact hcs _ q1) (by omega) ?_
      exact hΨ _ _ _ _ _ _ q2 h1 h2 h3 h4 h5.tl a cy H locs ls hE hO hS hl
    · refine lv_lookup (off := df) (tgt := dt) hx hb d hp ?_ hd (hΨ _ _ _ _ _ _ q2 h1 h2 h3 h4 h5.tl a cy H locs ls hE hO hS hl)
      rw [z32 g1]
      refine z_off _ _ _ (fun q hq e => ?_)
      obtain ⟨q', hq', e'⟩ := List.mem_map.mp (hall q hq)
      exact q1 q' hq' (e.trans e'.symm)
  · exact h.elim

def tI2f (nx : Nat) : ZTr := fun Φ _ _ _ _ L st M k n => match st with | .inl x :: r => Φ nx L (zf (FP.i2f (Int32.ofInt x)) :: r) M k n | _ => False

theorem zs_i2f (X0 : zCtx p l R s m args meth c cc own Ts nL ret D A a0 M0 mc ms) (d : decode cc pc = .ok (.i2f, 1)) : zSd p l e R s m args below meth c nL D A a0 M0 K KX mc ms pc (tI2f (pc + 1)) := by
  obtain ⟨hx, hb, hml, hown, hts, hK, hF, hA, hlk, hrT, hst, hmc, hms, hcl0, hN0⟩ := X0
  intro Ψ hΨ L st M k n h h1 h2 h3 h4 h5 a cy H locs ls hE hO hS hl
  simp only [tI2f] at h
  split at h
  · next x r => exact lv_i2f hx hb d (hΨ _ _ _ _ _ _ h h1 h2 h3 h4 (h5.tl.cons (zlv_f _ _)) a cy H locs ls hE hO hS hl)
  · exact h.elim

def tI2d (nx : Nat) : ZTr := fun Φ _ _ _ _ L st M k n => match st with | .inl x :: r => Φ nx L (zd (FP.i2d (Int32.ofInt x)) :: r) M k n | _ => False

theorem zs_i2d (X0 : zCtx p l R s m args meth c cc own Ts nL ret D A a0 M0 mc ms) (d : decode cc pc = .ok (.i2d, 1)) : zSd p l e R s m args below meth c nL D A a0 M0 K KX mc ms pc (tI2d (pc + 1)) := by
  obtain ⟨hx, hb, hml, hown, hts, hK, hF, hA, hlk, hrT, hst, hmc, hms, hcl0, hN0⟩ := X0
  intro Ψ hΨ L st M k n h h1 h2 h3 h4 h5 a cy H locs ls hE hO hS hl
  simp only [tI2d] at h
  split at h
  · next x r => exact lv_i2d hx hb d (hΨ _ _ _ _ _ _ h h1 h2 h3 h4 (h5.tl.cons (zlv_d _ _)) a cy H locs ls hE hO hS hl)
  · exact h.elim

def tFdiv (nx : Nat) : ZTr := fun Φ _ _ _ _ L st M k n => match st with | .inr (.inr (.inr (.inl y))) :: .inr (.inr (.inr (.inl x))) :: r => vf_n32 (FP.fdiv x y) ∧ Φ nx L (zf (FP.fdiv x y) :: r) M k n | _ => False

theorem zs_fdiv (X0 : zCtx p l R s m args meth c cc own Ts nL ret D A a0 M0 mc ms) (d : decode cc pc = .ok (.fdiv, 1)) : zSd p l e R s m args below meth c nL D A a0 M0 K KX mc ms pc (tFdiv (pc + 1)) := by
  obtain ⟨hx, hb, hml, hown, hts, hK, hF, hA, hlk, hrT, hst, hmc, hms, hcl0, hN0⟩ := X0
  intro Ψ hΨ L st M k n h h1 h2 h3 h4 h5 a cy H locs ls hE hO hS hl
  simp only [tFdiv] at h
  split at h
  · next y x r => exact lv_fdiv hx hb d h.1 (hΨ _ _ _ _ _ _ h.2 h1 h2 h3 h4 (h5.tl.tl.cons (zlv_f _ _)) a cy H locs ls hE hO hS hl)
  · exact h.elim

def tDdiv (nx : Nat) : ZTr := fun Φ _ _ _ _ L st M k n => match st with | .inr (.inr (.inr (.inr y))) :: .inr (.inr (.inr (.inr x))) :: r => vf_n64 (FP.ddiv x y) ∧ Φ nx L (zd (FP.ddiv x y) :: r) M k n | _ => False

theorem zs_ddiv (X0 : zCtx p l R s m args meth c cc own Ts nL ret D A a0 M0 mc ms) (d : decode cc pc = .ok (.ddiv, 1)) : zSd p l e R s m args below meth c nL D A a0 M0 K KX mc ms pc (tDdiv (pc + 1)) := by
  obtain ⟨hx, hb, hml, hown, hts, hK, hF, hA, hlk, hrT, hst, hmc, hms, hcl0, hN0⟩ := X0
  intro Ψ hΨ L st M k n h h1 h2 h3 h4 h5 a cy H locs ls hE hO hS hl
  simp only [tDdiv] at h
  split at h
  · next y x r => exact lv_ddiv hx hb d h.1 (hΨ _ _ _ _ _ _ h.2 h1 h2 h3 h4 (h5.tl.tl.cons (zlv_d _ _)) a cy H locs ls hE hO hS hl)
  · exact h.elim

def tF2d (nx : Nat) : ZTr := fun Φ _ _ _ _ L st M k n => match st with | .inr (.inr (.inr (.inl x))) :: r => vf_n64 (FP.f2d x) ∧ Φ nx L (zd (FP.f2d x) :: r) M k n | _ => False

theorem zs_f2d (X0 : zCtx p l R s m args meth c cc own Ts nL ret D A a0 M0 mc ms) (d : decode cc pc = .ok (.f2d, 1)) : zSd p l e R s m args below meth c nL D A a0 M0 K KX mc ms pc (tF2d (pc + 1)) := by
  obtain ⟨hx, hb, hml, hown, hts, hK, hF, hA, hlk, hrT, hst, hmc, hms, hcl0, hN0⟩ := X0
  intro Ψ hΨ L st M k n h h1 h2 h3 h4 h5 a cy H locs ls hE hO hS hl
  simp only [tF2d] at h
  split at h
  · next x r => exact lv_f2d hx hb d h.1 (hΨ _ _ _ _ _ _ h.2 h1 h2 h3 h4 (h5.tl.cons (zlv_d _ _)) a cy H locs ls hE hO hS hl)
  · exact h.elim

def tFcmp (op : CmpOp) (nx : Nat) : ZTr := fun Φ _ _ _ _ L st M k n => match st with | .inr (.inr (.inr (.inl y))) :: .inr (.inr (.inr (.inl x))) :: r => Φ nx L (zi (Op.cmpValue (FP.fcmp x y) op).toInt :: r) M k n | _ => False

theorem zs_fcmp (X0 : zCtx p l R s m args meth c cc own Ts nL ret D A a0 M0 mc ms) {op : CmpOp} (d : decode cc pc = .ok (.fcmp op, 1)) : zSd p l e R s m args below meth c nL D A a0 M0 K KX mc ms pc (tFcmp op (pc + 1)) := by
  obtain ⟨hx, hb, hml, hown, hts, hK, hF, hA, hlk, hrT, hst, hmc, hms, hcl0, hN0⟩ := X0
  intro Ψ hΨ L st M k n h h1 h2 h3 h4 h5 a cy H locs ls hE hO hS hl
  simp only [tFcmp] at h
  split at h
  · next y x r =>
    refine lv_fcmp hx hb d ?_
    have h9 := hΨ _ _ _ _ _ _ h h1 h2 h3 h4 (h5.tl.tl.cons (zlv_i _ _ (z32_rg _))) a cy H locs ls hE hO hS hl
    simp only [List.map_cons, ztr, Int32.ofInt_toInt] at h9
    exact h9
  · exact h.elim

def tDcmp (op : CmpOp) (nx : Nat) : ZTr := fun Φ _ _ _ _ L st M k n => match st with | .inr (.inr (.inr (.inr y))) :: .inr (.inr (.inr (.inr x))) :: r => Φ nx L (zi (Op.cmpValue (FP.dcmp x y) op).toInt :: r) M k n | _ => False

theorem zs_dcmp (X0 : zCtx p l R s m args meth c cc own Ts nL ret D A a0 M0 mc ms) {op : CmpOp} (d : decode cc pc = .ok (.dcmp op, 1)) : zSd p l e R s m args below meth c nL D A a0 M0 K KX mc ms pc (tDcmp op (pc + 1)) := by
  obtain ⟨hx, hb, hml, hown, hts, hK, hF, hA, hlk, hrT, hst, hmc, hms, hcl0, hN0⟩ := X0
  intro Ψ hΨ L st M k n h h1 h2 h3 h4 h5 a cy H locs ls hE hO hS hl
  simp only [tDcmp] at h
  split at h
  · next y x r =>
    refine lv_dcmp hx hb d ?_
    have h9 := hΨ _ _ _ _ _ _ h h1 h2 h3 h4 (h5.tl.tl.cons (zlv_i _ _ (z32_rg _))) a cy H locs ls hE hO hS hl
    simp only [List.map_cons, ztr, Int32.ofInt_toInt] at h9
    exact h9
  · exact h.elim

theorem zfs_at {a : Nat → Nat} {M : ZM} {j k ci : Nat} (e : zK M j = ci) (hk : k < znf ci) : (zfs a M j)[k]? = some (if zrf ci k = true then va_rf ((zR M j k).map a) else .int (Int32.ofInt (zI M j k))) := by
  subst e
  rw [zfs, List.getElem?_map, List.getElem?_range hk]
  rfl
theorem zfs_len (a : Nat → Nat) (M : ZM) (j : Nat) : (zfs a M j).length = znf (zK M j) := by simp [zfs]
theorem zE_o {cy a : Nat → Nat} {M : ZM} {j ci : Nat} (e : zK M j = ci) (h : ci < 20) : zE cy a M j = .inr (ci, zfs a M j) := by rw [zE, e, if_pos h]
theorem zE_a {cy a : Nat → Nat} {M : ZM} {j κ : Nat} (e : zK M j = κ) (h : ¬ κ < 20) : zE cy a M j = .inl (cy j, zar a M j) := by rw [zE, e, if_neg h]
theorem zEx.put {a0 a : Nat → Nat} {M0 M M' : ZM} {j : Nat} (h : zEx a0 M0 a M) (hj : zCC ≤ j) (hN : zN M' = zN M) (ho : ∀ x, x ≠ j → zeq M M' x) : zEx a0 M0 a M' :=
  h.trans ⟨Nat.le_of_eq hN.symm, fun _ _ => rfl, fun x hx => ho x (by omega)⟩
theorem zOK.put {D : va_G} {cy a : Nat → Nat} {M M' : ZM} {A : Nat → Prop} {U : State} {H H1 : Heap} {j : Nat} {e : va_E} (h : zOK D cy a M A U H) (hj : zCC ≤ j) (hj2 : j < zN M) (hN : zN M' = zN M) (hKK : zK M' = zK M) (hc : zcl M') (ho : ∀ x, x ≠ j → zeq M M' x) (he : zE cy a M' j = e)
    (hP : va_P D vwCl ((zWs cy a M).set (j - zCC) (a j, e)) H1) (hD : va_D A ((zWs cy a M).set (j - zCC) (a j, e))) : zOK D cy a M' A U H1 := by
  rw [zWs_set hj hj2 hN he (fun x hx => zE_eq (ho x hx))] at hP hD
  refine ⟨hc, by have := h.2.1; omega, fun x h1 h2 h3 => ?_, hP, hD⟩
  have := h.2.2.1 x h1 (by omega) (by rw [hKK] at h3; exact h3)
  rw [hKK]
  exact this
theorem zsI_eq (M : ZM) (j k : Nat) (v : Int) {x : Nat} (h : x ≠ j) : zeq M (zsI M j k v) x := ⟨rfl, rfl, funext (fun y => up2_n _ _ _ _ y h), rfl⟩
theorem zsR_eq (M : ZM) (j k : Nat) (v : Option Nat) {x : Nat} (h : x ≠ j) : zeq M (zsR M j k v) x := ⟨rfl, rfl, rfl, funext (fun y => up2_n _ _ _ _ y h)⟩
theorem zI_s (M : ZM) (j k : Nat) (v : Int) : zI (zsI M j k v) j k = v := up2_s _ _ _ _
theorem zI_m (M : ZM) (j : Nat) {k y : Nat} (v : Int) (h : y ≠ k) : zI (zsI M j k v) j y = zI M j y := up2_m _ _ _ _ _ h
theorem zR_s (M : ZM) (j k : Nat) (v : Option Nat) : zR (zsR M j k v) j k = v := up2_s _ _ _ _
theorem zR_m (M : ZM) (j : Nat) {k y : Nat} (v : Option Nat) (h : y ≠ k) : zR (zsR M j k v) j y = zR M j y := up2_m _ _ _ _ _ h
theorem zcl_I {M : ZM} (h : zcl M) (j k : Nat) (v : Int) (hv : (zK M j = 23 → zrl v) ∧ (zK M j ≠ 23 → zK M j ≠ 24 → zrg v)) : zcl (zsI M j k v) := ⟨h.1, fun x => ⟨(h.2 x).1, fun y => by
  by_cases c : x = j ∧ y = k
  · obtain ⟨rfl, rfl⟩ := c
    show (zK M x = 23 → zrl (up2 (zI M) x y v x y)) ∧ (zK M x ≠ 23 → zK M x ≠ 24 → zrg (up2 (zI M) x y v x y))
    rw [up2_s]
    exact hv
  · show (zK M x = 23 → zrl (up2 (zI M) j k v x y)) ∧ (zK M x ≠ 23 → zK M x ≠ 24 → zrg (up2 (zI M) j k v x y))
    rw [up2, if_neg c]
    exact (h.2 x).2 y⟩⟩
theorem zcl_R {M : ZM} (h : zcl M) {j k : Nat} {v : Option Nat} (hv : ∀ x, v = some x → x < zN M) : zcl (zsR M j k v) := ⟨fun x y z hx hz => by
  by_cases c : x = j ∧ y = k
  · obtain ⟨rfl, rfl⟩ := c
    have hz : up2 (zR M) x y v x y = some z := hz
    rw [up2_s] at hz
    exact hv z hz
  · have hz : up2 (zR M) j k v x y = some z := hz
    rw [up2, if_neg c] at hz
    exact h.1 x y z hx hz, h.2⟩
theorem zfs_setI {a : Nat → Nat} {M : ZM} {j k ci : Nat} (e : zK M j = ci) (hk : k < znf ci) (hr : zrf ci k = false) (x : Int) : zfs a (zsI M j k x) j = (zfs a M j).set k (.int (Int32.ofInt x)) := by
  subst e
  refine List.ext_getElem? (fun y => ?_)
  rw [List.getElem?_set, zfs_len]
  by_cases hy : y < znf (zK M j)
  · rw [zfs_at (M := zsI M j k x) (ci := zK M j) rfl hy]
    by_cases hky : k = y
    · subst hky
      rw [if_pos rfl, if_pos hk, hr]
      show some (Value.int (Int32.ofInt (up2 (zI M) j k x j k))) = _
      rw [up2_s]
    · rw [if_neg hky, zfs_at rfl hy]
      have h9 : zI (zsI M j k x) j y = zI M j y := up2_m _ _ _ _ _ (Ne.symm hky)
      rw [h9]
  · rw [List.getElem?_eq_none (by rw [zfs_len]; exact Nat.not_lt.mp hy), if_neg (by omega), List.getElem?_eq_none (by rw [zfs_len]; exact Nat.not_lt.mp hy)]
theorem zfs_setR {a : Nat → Nat} {M : ZM} {j k ci : Nat} (e : zK M j = ci) (hk : k < znf ci) (hr : zrf ci k = true) (v : Option Nat) : zfs a (zsR M j k v) j = (zfs a M j).set k (va_rf (v.map a)) := by
  subst e
  refine List.ext_getElem? (fun y => ?_)
  rw [List.getElem?_set, zfs_len]
  by_cases hy : y < znf (zK M j)
  · rw [zfs_at (M := zsR M j k v) (ci := zK M j) rfl hy]
    by_cases hky : k = y
    · subst hky
      rw [if_pos rfl, if_pos hk, hr]
      show some (va_rf ((up2 (zR M) j k v j k).map a)) = _
      rw [up2_s]
    · rw [if_neg hky, zfs_at rfl hy]
      have h9 : zR (zsR M j k v) j y = zR M j y := up2_m _ _ _ _ _ (Ne.symm hky)
      rw [h9]
  · rw [List.getElem?_eq_none (by rw [zfs_len]; exact Nat.not_lt.mp hy), if_neg (by omega), List.getElem?_eq_none (by rw [zfs_len]; exact Nat.not_lt.mp hy)]
/-- a class of the table, its number small -/
def zcl2 (ci : Nat) (C : String) (T : u_T) (N : Nat) : Prop := vwCl[ci]? = some (C, T, N) ∧ ci < 20
theorem zcl2.nf {ci : Nat} {C : String} {T : u_T} {N : Nat} (h : zcl2 ci C T N) : znf ci = N := by rw [znf, h.1]

def tGetI (ci k0 nx : Nat) : ZTr := fun Φ _ _ _ _ L st M k n => match st with | .inr (.inl (some j)) :: r => zW M j ci ∧ Φ nx L (zi (zI M j k0) :: r) M k n | _ => False

def tGetR (ci k0 nx : Nat) : ZTr := fun Φ _ _ _ _ L st M k n => match st with | .inr (.inl (some j)) :: r => zW M j ci ∧ ∃ x, zR M j k0 = some x ∧ Φ nx L (zo x :: r) M k n | _ => False

def tGetN (ci k0 nx : Nat) : ZTr := fun Φ _ _ _ _ L st M k n => match st with | .inr (.inl (some j)) :: r => zW M j ci ∧ Φ nx L (zr (zR M j k0) :: r) M k n | _ => False

theorem zs_geti (X0 : zCtx p l R s m args meth c cc own Ts nL ret D A a0 M0 mc ms) {ci k0 idx N : Nat} {C : String} {T : u_T} (hcl : zcl2 ci C T N) (hk : k0 < N) (hin : ∀ w ∈ u_ws C T N, w ∈ Ts) (hlink : Cond.fieldLink own idx (T k0).1 (T k0).2.1 (T k0).2.2.1 ∈ Ts) (d : decode cc pc = .ok (.getfield idx, 3)) (hr : zrf ci k0 = false) : zSd p l e R s m args below meth c nL D A a0 M0 K KX mc ms pc (tGetI ci k0 (pc + 3)) := by
  obtain ⟨hx, hb, hml, hown, hts, hK, hF, hA, hlk, hrT, hst, hmc, hms, hcl0, hN0⟩ := X0
  intro Ψ hΨ L st M k n h h1 h2 h3 h4 h5 a cy H locs ls hE hO hS hl
  simp only [tGetI] at h
  split at h
  · next j r =>
    obtain ⟨⟨e1, g1, g2⟩, h⟩ := h
    have hv := zfs_at (a := a) e1 (k := k0) (by rw [hcl.nf]; exact hk)
    rw [hr] at hv
    simp only [if_true, Bool.false_eq_true, if_false] at hv
    exact va_get (D := D) (ws := zWs cy a M) (v := .int (Int32.ofInt (zI M j k0))) hx hb hts hin hown hK hO.2.2.2.1 (j - zCC) ((zWs_get g1 g2).trans (by rw [zE_o e1 hcl.2])) hcl.1 k0 hk (hts _ hlink) (fun _ h9 => h9) hv d (hΨ _ _ _ _ _ _ h h1 h2 h3 h4 (h5.tl.cons (zlv_i _ _ (zcl_rg hO.1 e1 (by have := hcl.2; omega) (by have := hcl.2; omega) _))) a cy H locs ls hE hO hS hl)
  · exact h.elim

theorem zs_getn (X0 : zCtx p l R s m args meth c cc own Ts nL ret D A a0 M0 mc ms) {ci k0 idx N : Nat} {C : String} {T : u_T} (hcl : zcl2 ci C T N) (hk : k0 < N) (hin : ∀ w ∈ u_ws C T N, w ∈ Ts) (hlink : Cond.fieldLink own idx (T k0).1 (T k0).2.1 (T k0).2.2.1 ∈ Ts) (d : decode cc pc = .ok (.getfield idx, 3)) (hr : zrf ci k0 = true) : zSd p l e R s m args below meth c nL D A a0 M0 K KX mc ms pc (tGetN ci k0 (pc + 3)) := by
  obtain ⟨hx, hb, hml, hown, hts, hK, hF, hA, hlk, hrT, hst, hmc, hms, hcl0, hN0⟩ := X0
  intro Ψ hΨ L st M k n h h1 h2 h3 h4 h5 a cy H locs ls hE hO hS hl
  simp only [tGetN] at h
  split at h
  · next j r =>
    obtain ⟨⟨e1, g1, g2⟩, h⟩ := h
    have hv := zfs_at (a := a) e1 (k := k0) (by rw [hcl.nf]; exact hk)
    rw [hr] at hv
    simp only [if_true, Bool.false_eq_true, if_false] at hv
    exact va_get (D := D) (ws := zWs cy a M) (v := va_rf ((zR M j k0).map a)) hx hb hts hin hown hK hO.2.2.2.1 (j - zCC) ((zWs_get g1 g2).trans (by rw [zE_o e1 hcl.2])) hcl.1 k0 hk (hts _ hlink) (fun _ h9 => h9) hv d (hΨ _ _ _ _ _ _ h h1 h2 h3 h4 (h5.tl.cons (zlv_r (fun x q => hO.1.1 j k0 x g2 q))) a cy H locs ls hE hO hS hl)
  · exact h.elim

theorem zs_getr (X0 : zCtx p l R s m args meth c cc own Ts nL ret D A a0 M0 mc ms) {ci k0 idx N : Nat} {C : String} {T : u_T} (hcl : zcl2 ci C T N) (hk : k0 < N) (hin : ∀ w ∈ u_ws C T N, w ∈ Ts) (hlink : Cond.fieldLink own idx (T k0).1 (T k0).2.1 (T k0).2.2.1 ∈ Ts) (d : decode cc pc = .ok (.getfield idx, 3)) (hr : zrf ci k0 = true) : zSd p l e R s m args below meth c nL D A a0 M0 K KX mc ms pc (tGetR ci k0 (pc + 3)) := by
  obtain ⟨hx, hb, hml, hown, hts, hK, hF, hA, hlk, hrT, hst, hmc, hms, hcl0, hN0⟩ := X0
  intro Ψ hΨ L st M k n h h1 h2 h3 h4 h5 a cy H locs ls hE hO hS hl
  simp only [tGetR] at h
  split at h
  · next j r =>
    obtain ⟨⟨e1, g1, g2⟩, x, hxx, h⟩ := h
    have h9 := hΨ _ _ _ _ _ _ h h1 h2 h3 h4 (h5.tl.cons (zlv_o (hO.1.1 j k0 x g2 hxx))) a cy H locs ls hE hO hS hl
    have hv := zfs_at (a := a) e1 (k := k0) (by rw [hcl.nf]; exact hk)
    rw [hr] at hv
    simp only [if_true, Bool.false_eq_true, if_false] at hv
    rw [hxx] at hv
    exact va_get (D := D) (ws := zWs cy a M) (v := .ref (a x)) hx hb hts hin hown hK hO.2.2.2.1 (j - zCC) ((zWs_get g1 g2).trans (by rw [zE_o e1 hcl.2])) hcl.1 k0 hk (hts _ hlink) (fun _ h9 => h9) hv d h9
  · exact h.elim

theorem zs_getiN (X0 : zCtx p l R s m args meth c cc own Ts nL ret D A a0 M0 mc ms) {ci k0 idx N : Nat} {C : String} {T : u_T} {host : String} (hcl : zcl2 ci C T N) (hk : k0 < N) (hin : ∀ w ∈ u_ws C T N, w ∈ Ts) (hlink : Cond.fieldLinkNest own idx (T k0).1 (T k0).2.1 (T k0).2.2.1 host ∈ Ts) (d : decode cc pc = .ok (.getfield idx, 3)) (hr : zrf ci k0 = false) : zSd p l e R s m args below meth c nL D A a0 M0 K KX mc ms pc (tGetI ci k0 (pc + 3)) := by
  obtain ⟨hx, hb, hml, hown, hts, hK, hF, hA, hlk, hrT, hst, hmc, hms, hcl0, hN0⟩ := X0
  intro Ψ hΨ L st M k n h h1 h2 h3 h4 h5 a cy H locs ls hE hO hS hl
  simp only [tGetI] at h
  split at h
  · next j r =>
    obtain ⟨⟨e1, g1, g2⟩, h⟩ := h
    have hv := zfs_at (a := a) e1 (k := k0) (by rw [hcl.nf]; exact hk)
    rw [hr] at hv
    simp only [if_true, Bool.false_eq_true, if_false] at hv
    exact va_getN (D := D) (ws := zWs cy a M) (v := .int (Int32.ofInt (zI M j k0))) hx hb hts hin hown hK hO.2.2.2.1 (j - zCC) ((zWs_get g1 g2).trans (by rw [zE_o e1 hcl.2])) hcl.1 k0 hk (hts _ hlink) (fun _ h9 => h9) hv d (hΨ _ _ _ _ _ _ h h1 h2 h3 h4 (h5.tl.cons (zlv_i _ _ (zcl_rg hO.1 e1 (by have := hcl.2; omega) (by have := hcl.2; omega) _))) a cy H locs ls hE hO hS hl)
  · exact h.elim

theorem zs_getnN (X0 : zCtx p l R s m args meth c cc own Ts nL ret D A a0 M0 mc ms) {ci k0 idx N : Nat} {C : String} {T : u_T} {host : String} (hcl : zcl2 ci C T N) (hk : k0 < N) (hin : ∀ w ∈ u_ws C T N, w ∈ Ts) (hlink : Cond.fieldLinkNest own idx (T k0).1 (T k0).2.1 (T k0).2.2.1 host ∈ Ts) (d : decode cc pc = .ok (.getfield idx, 3)) (hr : zrf ci k0 = true) : zSd p l e R s m args below meth c nL D A a0 M0 K KX mc ms pc (tGetN ci k0 (pc + 3)) := by
  obtain ⟨hx, hb, hml, hown, hts, hK, hF, hA, hlk, hrT, hst, hmc, hms, hcl0, hN0⟩ := X0
  intro Ψ hΨ L st M k n h h1 h2 h3 h4 h5 a cy H locs ls hE hO hS hl
  simp only [tGetN] at h
  split at h
  · next j r =>
    obtain ⟨⟨e1, g1, g2⟩, h⟩ := h
    have hv := zfs_at (a := a) e1 (k := k0) (by rw [hcl.nf]; exact hk)
    rw [hr] at hv
    simp only [if_true, Bool.false_eq_true, if_false] at hv
    exact va_getN (D := D) (ws := zWs cy a M) (v := va_rf ((zR M j k0).map a)) hx hb hts hin hown hK hO.2.2.2.1 (j - zCC) ((zWs_get g1 g2).trans (by rw [zE_o e1 hcl.2])) hcl.1 k0 hk (hts _ hlink) (fun _ h9 => h9) hv d (hΨ _ _ _ _ _ _ h h1 h2 h3 h4 (h5.tl.cons (zlv_r (fun x q => hO.1.1 j k0 x g2 q))) a cy H locs ls hE hO hS hl)
  · exact h.elim

theorem zs_getrN (X0 : zCtx p l R s m args meth c cc own Ts nL ret D A a0 M0 mc ms) {ci k0 idx N : Nat} {C : String} {T : u_T} {host : String} (hcl : zcl2 ci C T N) (hk : k0 < N) (hin : ∀ w ∈ u_ws C T N, w ∈ Ts) (hlink : Cond.fieldLinkNest own idx (T k0).1 (T k0).2.1 (T k0).2.2.1 host ∈ Ts) (d : decode cc pc = .ok (.getfield idx, 3)) (hr : zrf ci k0 = true) : zSd p l e R s m args below meth c nL D A a0 M0 K KX mc ms pc (tGetR ci k0 (pc + 3)) := by
  obtain ⟨hx, hb, hml, hown, hts, hK, hF, hA, hlk, hrT, hst, hmc, hms, hcl0, hN0⟩ := X0
  intro Ψ hΨ L st M k n h h1 h2 h3 h4 h5 a cy H locs ls hE hO hS hl
  simp only [tGetR] at h
  split at h
  · next j r =>
    obtain ⟨⟨e1, g1, g2⟩, x, hxx, h⟩ := h
    have h9 := hΨ _ _ _ _ _ _ h h1 h2 h3 h4 (h5.tl.cons (zlv_o (hO.1.1 j k0 x g2 hxx))) a cy H locs ls hE hO hS hl
    have hv := zfs_at (a := a) e1 (k := k0) (by rw [hcl.nf]; exact hk)
    rw [hr] at hv
    simp only [if_true, Bool.false_eq_true, if_false] at hv
    rw [hxx] at hv
    exact va_getN (D := D) (ws := zWs cy a M) (v := .ref (a x)) hx hb hts hin hown hK hO.2.2.2.1 (j - zCC) ((zWs_get g1 g2).trans (by rw [zE_o e1 hcl.2])) hcl.1 k0 hk (hts _ hlink) (fun _ h9 => h9) hv d h9
  · exact h.elim

def tGsV (nx : Nat) : ZTr := fun Φ _ _ _ _ L st M k n => match st with | .inr (.inl (some j)) :: r => zO M j 0 ∧ ∃ x, zR M j 0 = some x ∧ Φ nx L (zo x :: r) M k n | _ => False

def tGsC (nx : Nat) : ZTr := fun Φ _ _ _ _ L st M k n => match st with | .inr (.inl (some j)) :: r => zO M j 0 ∧ Φ nx L (zi (zI M j 1) :: r) M k n | _ => False

theorem z_str : zcl2 0 RJ0 TJ0 4 := ⟨rfl, by decide⟩

theorem zs_gsv (X0 : zCtx p l R s m args meth c cc own Ts nL ret D A a0 M0 mc ms) {idx : Nat} (hin : ∀ w ∈ u_ws RJ0 TJ0 4, w ∈ Ts) (hlink : Cond.fieldLink own idx (TJ0 0).1 (TJ0 0).2.1 (TJ0 0).2.2.1 ∈ Ts) (d : decode cc pc = .ok (.getfield idx, 3)) : zSd p l e R s m args below meth c nL D A a0 M0 K KX mc ms pc (tGsV (pc + 3)) := by
  obtain ⟨hx, hb, hml, hown, hts, hK, hF, hA, hlk, hrT, hst, hmc, hms, hcl0, hN0⟩ := X0
  intro Ψ hΨ L st M k n h h1 h2 h3 h4 h5 a cy H locs ls hE hO hS hl
  simp only [tGsV] at h
  split at h
  · next j r =>
    obtain ⟨⟨e1, g2⟩, x, hxx, h⟩ := h
    have h9 := hΨ _ _ _ _ _ _ h h1 h2 h3 h4 (h5.tl.cons (zlv_o (hO.1.1 j 0 x g2 hxx))) a cy H locs ls hE hO hS hl
    by_cases g1 : zCC ≤ j
    · have hv := zfs_at (a := a) e1 (k := 0) (by rw [z_str.nf]; decide)
      rw [show zrf 0 0 = true by decide +kernel] at hv
      simp only [if_true] at hv
      rw [hxx] at hv
      exact va_get (D := D) (ws := zWs cy a M) (v := .ref (a x)) hx hb hts hin hown hK hO.2.2.2.1 (j - zCC) ((zWs_get g1 g2).trans (by rw [zE_o e1 z_str.2])) z_str.1 0 (by decide) (hts _ hlink) (fun _ h9 => h9) hv d h9
    · have hq := ((hF.congr hE hcl0 hN0).1.1 j (by omega) e1).2.1
      rw [hxx] at hq
      exact vk_getf (v := .ref (a x)) hx hb hq hS hown (hts _ hlink) (fun _ h9 => h9) d h9
  · exact h.elim

theorem zs_gsc (X0 : zCtx p l R s m args meth c cc own Ts nL ret D A a0 M0 mc ms) {idx : Nat} (hin : ∀ w ∈ u_ws RJ0 TJ0 4, w ∈ Ts) (hlink : Cond.fieldLink own idx (TJ0 1).1 (TJ0 1).2.1 (TJ0 1).2.2.1 ∈ Ts) (d : decode cc pc = .ok (.getfield idx, 3)) : zSd p l e R s m args below meth c nL D A a0 M0 K KX mc ms pc (tGsC (pc + 3)) := by
  obtain ⟨hx, hb, hml, hown, hts, hK, hF, hA, hlk, hrT, hst, hmc, hms, hcl0, hN0⟩ := X0
  intro Ψ hΨ L st M k n h h1 h2 h3 h4 h5 a cy H locs ls hE hO hS hl
  simp only [tGsC] at h
  split at h
  · next j r =>
    obtain ⟨⟨e1, g2⟩, h⟩ := h
    have h9 := hΨ _ _ _ _ _ _ h h1 h2 h3 h4 (h5.tl.cons (zlv_i _ _ (zcl_rg hO.1 e1 (by decide) (by decide) _))) a cy H locs ls hE hO hS hl
    by_cases g1 : zCC ≤ j
    · have hv := zfs_at (a := a) e1 (k := 1) (by rw [z_str.nf]; decide)
      rw [show zrf 0 1 = false by decide +kernel] at hv
      simp only [Bool.false_eq_true, if_false] at hv
      exact va_get (D := D) (ws := zWs cy a M) (v := .int (Int32.ofInt (zI M j 1))) hx hb hts hin hown hK hO.2.2.2.1 (j - zCC) ((zWs_get g1 g2).trans (by rw [zE_o e1 z_str.2])) z_str.1 1 (by decide) (hts _ hlink) (fun _ h9 => h9) hv d h9
    · have hq := ((hF.congr hE hcl0 hN0).1.1 j (by omega) e1).2.2
      exact vk_getf (v := .int (Int32.ofInt (zI M j 1))) hx hb hq hS hown (hts _ hlink) (fun _ h9 => h9) d h9
  · exact h.elim

def tGkw (nx : Nat) : ZTr := fun Φ _ _ _ _ L st M k n => match st with | .inr (.inl (some j)) :: r => (zK M j = 40 ∧ j < zCC) ∧ ∃ x, zR M j 0 = some x ∧ Φ nx L (zo x :: r) M k n | _ => False

theorem zs_gkw (X0 : zCtx p l R s m args meth c cc own Ts nL ret D A a0 M0 mc ms) {idx : Nat} (hlink : Cond.fieldLink own idx "ReviewTable$Keyword" "text" "Ljava/lang/String;" ∈ Ts) (d : decode cc pc = .ok (.getfield idx, 3)) : zSd p l e R s m args below meth c nL D A a0 M0 K KX mc ms pc (tGkw (pc + 3)) := by
  obtain ⟨hx, hb, hml, hown, hts, hK, hF, hA, hlk, hrT, hst, hmc, hms, hcl0, hN0⟩ := X0
  intro Ψ hΨ L st M k n h h1 h2 h3 h4 h5 a cy H locs ls hE hO hS hl
  simp only [tGkw] at h
  split at h
  · next j r =>
    obtain ⟨⟨e1, g1⟩, x, hxx, h⟩ := h
    have h9 := hΨ _ _ _ _ _ _ h h1 h2 h3 h4 (h5.tl.cons (zlv_o (hO.1.1 j 0 x (by have := hO.2.1; omega) hxx))) a cy H locs ls hE hO hS hl
    have hq := (hF.congr hE hcl0 hN0).1.2.1 j g1 e1
    rw [hxx] at hq
    exact vk_getf (v := .ref (a x)) hx hb hq hS hown (hts _ hlink) (fun _ h9 => h9) d h9
  · exact h.elim

def tPutI (ci k0 : Nat) (P : Int → Prop) (nx : Nat) : ZTr := fun Φ _ _ _ _ L st M k n => match st with | .inl x :: .inr (.inl (some j)) :: r => (zW M j ci ∧ P x) ∧ Φ nx L r (zsI M j k0 x) k n | _ => False

def tPutR (ci k0 nx : Nat) : ZTr := fun Φ _ _ _ _ L st M k n => match st with | .inr (.inl v) :: .inr (.inl (some j)) :: r => zW M j ci ∧ Φ nx L r (zsR M j k0 v) k n | _ => False

theorem zs_puti (X0 : zCtx p l R s m args meth c cc own Ts nL ret D A a0 M0 mc ms) {ci k0 idx N : Nat} {C : String} {T : u_T} {ty0 : Nat → FieldType} {ty : FieldType} {P : Int → Prop} (hcl : zcl2 ci C T N) (hk : k0 < N) (hin : ∀ w ∈ u_ws C T N, w ∈ Ts) (hty : ∀ k, k < N → parseFieldDescriptor (T k).2.2.1 = some (ty0 k)) (hnm : ∀ a, a < N → ∀ b, b < N → a ≠ b → (T a).2.1 ≠ (T b).2.1) (hlink : Cond.fieldLink own idx (T k0).1 (T k0).2.1 (T k0).2.2.1 ∈ Ts) (hfin : (T k0).2.2.2 = false) (hd : parseFieldDescriptor (T k0).2.2.1 = some ty) (d : decode cc pc = .ok (.putfield idx, 3)) (hr : zrf ci k0 = false) (hP : ∀ x, P x → narrow ty (.int (Int32.ofInt x)) = .int (Int32.ofInt x) ∧ fits ty (.int (Int32.ofInt x)) = true) : zSd p l e R s m args below meth c nL D A a0 M0 K KX mc ms pc (tPutI ci k0 P (pc + 3)) := by
  obtain ⟨hx, hb, hml, hown, hts, hK, hF, hA, hlk, hrT, hst, hmc, hms, hcl0, hN0⟩ := X0
  intro Ψ hΨ L st M k n h h1 h2 h3 h4 h5 a cy H locs ls hE hO hS hl
  simp only [tPutI] at h
  split at h
  · next x j r =>
    obtain ⟨⟨⟨e1, g1, g2⟩, hp⟩, h⟩ := h
    have hN9 := hcl.nf
    refine va_put (D := D) (ws := zWs cy a M) (v := .int (Int32.ofInt x)) hx hb hts hin ty0 hty hnm hown hK hO.2.2.2.1 hO.2.2.2.2 hS (j - zCC) ((zWs_get g1 g2).trans (by rw [zE_o e1 hcl.2])) hcl.1 k0 hk (hts _ hlink) (fun _ h9 => h9) hfin hd (hP x hp).1 (hP x hp).2 (by rw [zfs_len, e1, hN9]; exact hk) d (fun H1 locs1 hP1 hD1 hS1 => ?_)
    exact hΨ _ _ _ _ _ _ h h1 h2 h3 h4 h5.tl.tl a cy H1 locs1 ls (hE.put g1 rfl (fun y hy => zsI_eq M j k0 x hy)) (hO.put g1 g2 rfl rfl (zcl_I hO.1 j k0 x ⟨fun z => absurd (e1.symm.trans z) (by have := hcl.2; omega), fun _ _ => h5.hd.rg⟩) (fun y hy => zsI_eq M j k0 x hy) (by rw [zE_o (M := zsI M j k0 x) e1 hcl.2, zfs_setI e1 (by rw [hN9]; exact hk) hr]) hP1 hD1) hS1 hl
  · exact h.elim

theorem zs_putr (X0 : zCtx p l R s m args meth c cc own Ts nL ret D A a0 M0 mc ms) {ci k0 idx N : Nat} {C : String} {T : u_T} {ty0 : Nat → FieldType} {ty : FieldType} (hcl : zcl2 ci C T N) (hk : k0 < N) (hin : ∀ w ∈ u_ws C T N, w ∈ Ts) (hty : ∀ k, k < N → parseFieldDescriptor (T k).2.2.1 = some (ty0 k)) (hnm : ∀ a, a < N → ∀ b, b < N → a ≠ b → (T a).2.1 ≠ (T b).2.1) (hlink : Cond.fieldLink own idx (T k0).1 (T k0).2.1 (T k0).2.2.1 ∈ Ts) (hfin : (T k0).2.2.2 = false) (hd : parseFieldDescriptor (T k0).2.2.1 = some ty) (d : decode cc pc = .ok (.putfield idx, 3)) (hr : zrf ci k0 = true) (hP : ∀ r : Option Nat, narrow ty (va_rf r) = va_rf r ∧ fits ty (va_rf r) = true) : zSd p l e R s m args below meth c nL D A a0 M0 K KX mc ms pc (tPutR ci k0 (pc + 3)) := by
  obtain ⟨hx, hb, hml, hown, hts, hK, hF, hA, hlk, hrT, hst, hmc, hms, hcl0, hN0⟩ := X0
  intro Ψ hΨ L st M k n h h1 h2 h3 h4 h5 a cy H locs ls hE hO hS hl
  simp only [tPutR] at h
  split at h
  · next v j r =>
    obtain ⟨⟨e1, g1, g2⟩, h⟩ := h
    have hN9 := hcl.nf
    refine va_put (D := D) (ws := zWs cy a M) (v := va_rf (v.map a)) hx hb hts hin ty0 hty hnm hown hK hO.2.2.2.1 hO.2.2.2.2 hS (j - zCC) ((zWs_get g1 g2).trans (by rw [zE_o e1 hcl.2])) hcl.1 k0 hk (hts _ hlink) (fun _ h9 => h9) hfin hd (hP _).1 (hP _).2 (by rw [zfs_len, e1, hN9]; exact hk) d (fun H1 locs1 hP1 hD1 hS1 => ?_)
    have hv : ∀ x, v = some x → x < zN M := fun x q => h5.hd.1 x (by rw [q])
    exact hΨ _ _ _ _ _ _ h h1 h2 h3 h4 h5.tl.tl a cy H1 locs1 ls (hE.put g1 rfl (fun y hy => zsR_eq M j k0 v hy)) (hO.put g1 g2 rfl rfl (zcl_R hO.1 hv) (fun y hy => zsR_eq M j k0 v hy) (by rw [zE_o (M := zsR M j k0 v) e1 hcl.2, zfs_setR e1 (by rw [hN9]; exact hk) hr]) hP1 hD1) hS1 hl
  · exact h.elim

theorem zs_putiN (X0 : zCtx p l R s m args meth c cc own Ts nL ret D A a0 M0 mc ms) {ci k0 idx N : Nat} {C : String} {T : u_T} {host : String} {ty0 : Nat → FieldType} {ty : FieldType} {P : Int → Prop} (hcl : zcl2 ci C T N) (hk : k0 < N) (hin : ∀ w ∈ u_ws C T N, w ∈ Ts) (hty : ∀ k, k < N → parseFieldDescriptor (T k).2.2.1 = some (ty0 k)) (hnm : ∀ a, a < N → ∀ b, b < N → a ≠ b → (T a).2.1 ≠ (T b).2.1) (hlink : Cond.fieldLinkNest own idx (T k0).1 (T k0).2.1 (T k0).2.2.1 host ∈ Ts) (hfin : (T k0).2.2.2 = false) (hd : parseFieldDescriptor (T k0).2.2.1 = some ty) (d : decode cc pc = .ok (.putfield idx, 3)) (hr : zrf ci k0 = false) (hP : ∀ x, P x → narrow ty (.int (Int32.ofInt x)) = .int (Int32.ofInt x) ∧ fits ty (.int (Int32.ofInt x)) = true) : zSd p l e R s m args below meth c nL D A a0 M0 K KX mc ms pc (tPutI ci k0 P (pc + 3)) := by
  obtain ⟨hx, hb, hml, hown, hts, hK, hF, hA, hlk, hrT, hst, hmc, hms, hcl0, hN0⟩ := X0
  intro Ψ hΨ L st M k n h h1 h2 h3 h4 h5 a cy H locs ls hE hO hS hl
  simp only [tPutI] at h
  split at h
  · next x j r =>
    obtain ⟨⟨⟨e1, g1, g2⟩, hp⟩, h⟩ := h
    have hN9 := hcl.nf
    refine va_putN (D := D) (ws := zWs cy a M) (v := .int (Int32.ofInt x)) hx hb hts hin ty0 hty hnm hown hK hO.2.2.2.1 hO.2.2.2.2 hS (j - zCC) ((zWs_get g1 g2).trans (by rw [zE_o e1 hcl.2])) hcl.1 k0 hk (hts _ hlink) (fun _ h9 => h9) hfin hd (hP x hp).1 (hP x hp).2 (by rw [zfs_len, e1, hN9]; exact hk) d (fun H1 locs1 hP1 hD1 hS1 => ?_)
    exact hΨ _ _ _ _ _ _ h h1 h2 h3 h4 h5.tl.tl a cy H1 locs1 ls (hE.put g1 rfl (fun y hy => zsI_eq M j k0 x hy)) (hO.put g1 g2 rfl rfl (zcl_I hO.1 j k0 x ⟨fun z => absurd (e1.symm.trans z) (by have := hcl.2; omega), fun _ _ => h5.hd.rg⟩) (fun y hy => zsI_eq M j k0 x hy) (by rw [zE_o (M := zsI M j k0 x) e1 hcl.2, zfs_setI e1 (by rw [hN9]; exact hk) hr]) hP1 hD1) hS1 hl
  · exact h.elim

theorem zs_putrN (X0 : zCtx p l R s m args meth c cc own Ts nL ret D A a0 M0 mc ms) {ci k0 idx N : Nat} {C : String} {T : u_T} {host : String} {ty0 : Nat → FieldType} {ty : FieldType} (hcl : zcl2 ci C T N) (hk : k0 < N) (hin : ∀ w ∈ u_ws C T N, w ∈ Ts) (hty : ∀ k, k < N → parseFieldDescriptor (T k).2.2.1 = some (ty0 k)) (hnm : ∀ a, a < N → ∀ b, b < N → a ≠ b → (T a).2.1 ≠ (T b).2.1) (hlink : Cond.fieldLinkNest own idx (T k0).1 (T k0).2.1 (T k0).2.2.1 host ∈ Ts) (hfin : (T k0).2.2.2 = false) (hd : parseFieldDescriptor (T k0).2.2.1 = some ty) (d : decode cc pc = .ok (.putfield idx, 3)) (hr : zrf ci k0 = true) (hP : ∀ r : Option Nat, narrow ty (va_rf r) = va_rf r ∧ fits ty (va_rf r) = true) : zSd p l e R s m args below meth c nL D A a0 M0 K KX mc ms pc (tPutR ci k0 (pc + 3)) := by
  obtain ⟨hx, hb, hml, hown, hts, hK, hF, hA, hlk, hrT, hst, hmc, hms, hcl0, hN0⟩ := X0
  intro Ψ hΨ L st M k n h h1 h2 h3 h4 h5 a cy H locs ls hE hO hS hl
  simp only [tPutR] at h
  split at h
  · next v j r =>
    obtain ⟨⟨e1, g1, g2⟩, h⟩ := h
    have hN9 := hcl.nf
    refine va_putN (D := D) (ws := zWs cy a M) (v := va_rf (v.map a)) hx hb hts hin ty0 hty hnm hown hK hO.2.2.2.1 hO.2.2.2.2 hS (j - zCC) ((zWs_get g1 g2).trans (by rw [zE_o e1 hcl.2])) hcl.1 k0 hk (hts _ hlink) (fun _ h9 => h9) hfin hd (hP _).1 (hP _).2 (by rw [zfs_len, e1, hN9]; exact hk) d (fun H1 locs1 hP1 hD1 hS1 => ?_)
    have hv : ∀ x, v = some x → x < zN M := fun x q => h5.hd.1 x (by rw [q])
    exact hΨ _ _ _ _ _ _ h h1 h2 h3 h4 h5.tl.tl a cy H1 locs1 ls (hE.put g1 rfl (fun y hy => zsR_eq M j k0 v hy)) (hO.put g1 g2 rfl rfl (zcl_R hO.1 hv) (fun y hy => zsR_eq M j k0 v hy) (by rw [zE_o (M := zsR M j k0 v) e1 hcl.2, zfs_setR e1 (by rw [hN9]; exact hk) hr]) hP1 hD1) hS1 hl
  · exact h.elim

theorem zs_putiF (X0 : zCtx p l R s m args meth c cc own Ts nL ret D A a0 M0 mc ms) {ci k0 idx N : Nat} {C : String} {T : u_T} {ty0 : Nat → FieldType} {ty : FieldType} {P : Int → Prop} (hcl : zcl2 ci C T N) (hk : k0 < N) (hin : ∀ w ∈ u_ws C T N, w ∈ Ts) (hty : ∀ k, k < N → parseFieldDescriptor (T k).2.2.1 = some (ty0 k)) (hnm : ∀ a, a < N → ∀ b, b < N → a ≠ b → (T a).2.1 ≠ (T b).2.1) (hlink : Cond.fieldLink own idx (T k0).1 (T k0).2.1 (T k0).2.2.1 ∈ Ts) (hfin : (T k0).2.2.2 = true) (hinit : meth.name = "<init>") (hdecl : (T k0).1 = own) (hd : parseFieldDescriptor (T k0).2.2.1 = some ty) (d : decode cc pc = .ok (.putfield idx, 3)) (hr : zrf ci k0 = false) (hP : ∀ x, P x → narrow ty (.int (Int32.ofInt x)) = .int (Int32.ofInt x) ∧ fits ty (.int (Int32.ofInt x)) = true) : zSd p l e R s m args below meth c nL D A a0 M0 K KX mc ms pc (tPutI ci k0 P (pc + 3)) := by
  obtain ⟨hx, hb, hml, hown, hts, hK, hF, hA, hlk, hrT, hst, hmc, hms, hcl0, hN0⟩ := X0
  intro Ψ hΨ L st M k n h h1 h2 h3 h4 h5 a cy H locs ls hE hO hS hl
  simp only [tPutI] at h
  split at h
  · next x j r =>
    obtain ⟨⟨⟨e1, g1, g2⟩, hp⟩, h⟩ := h
    have hN9 := hcl.nf
    refine va_putF (D := D) (ws := zWs cy a M) (v := .int (Int32.ofInt x)) hx hb hts hin ty0 hty hnm hown hK hO.2.2.2.1 hO.2.2.2.2 hS (j - zCC) ((zWs_get g1 g2).trans (by rw [zE_o e1 hcl.2])) hcl.1 k0 hk (hts _ hlink) (fun _ h9 => h9) hfin hinit hdecl hd (hP x hp).1 (hP x hp).2 (by rw [zfs_len, e1, hN9]; exact hk) d (fun H1 locs1 hP1 hD1 hS1 => ?_)
    exact hΨ _ _ _ _ _ _ h h1 h2 h3 h4 h5.tl.tl a cy H1 locs1 ls (hE.put g1 rfl (fun y hy => zsI_eq M j k0 x hy)) (hO.put g1 g2 rfl rfl (zcl_I hO.1 j k0 x ⟨fun z => absurd (e1.symm.trans z) (by have := hcl.2; omega), fun _ _ => h5.hd.rg⟩) (fun y hy => zsI_eq M j k0 x hy) (by rw [zE_o (M := zsI M j k0 x) e1 hcl.2, zfs_setI e1 (by rw [hN9]; exact hk) hr]) hP1 hD1) hS1 hl
  · exact h.elim

theorem zs_putrF (X0 : zCtx p l R s m args meth c cc own Ts nL ret D A a0 M0 mc ms) {ci k0 idx N : Nat} {C : String} {T : u_T} {ty0 : Nat → FieldType} {ty : FieldType} (hcl : zcl2 ci C T N) (hk : k0 < N) (hin : ∀ w ∈ u_ws C T N, w ∈ Ts) (hty : ∀ k, k < N → parseFieldDescriptor (T k).2.2.1 = some (ty0 k)) (hnm : ∀ a, a < N → ∀ b, b < N → a ≠ b → (T a).2.1 ≠ (T b).2.1) (hlink : Cond.fieldLink own idx (T k0).1 (T k0).2.1 (T k0).2.2.1 ∈ Ts) (hfin : (T k0).2.2.2 = true) (hinit : meth.name = "<init>") (hdecl : (T k0).1 = own) (hd : parseFieldDescriptor (T k0).2.2.1 = some ty) (d : decode cc pc = .ok (.putfield idx, 3)) (hr : zrf ci k0 = true) (hP : ∀ r : Option Nat, narrow ty (va_rf r) = va_rf r ∧ fits ty (va_rf r) = true) : zSd p l e R s m args below meth c nL D A a0 M0 K KX mc ms pc (tPutR ci k0 (pc + 3)) := by
  obtain ⟨hx, hb, hml, hown, hts, hK, hF, hA, hlk, hrT, hst, hmc, hms, hcl0, hN0⟩ := X0
  intro Ψ hΨ L st M k n h h1 h2 h3 h4 h5 a cy H locs ls hE hO hS hl
  simp only [tPutR] at h
  split at h
  · next v j r =>
    obtain ⟨⟨e1, g1, g2⟩, h⟩ := h
    have hN9 := hcl.nf
    refine va_putF (D := D) (ws := zWs cy a M) (v := va_rf (v.map a)) hx hb hts hin ty0 hty hnm hown hK hO.2.2.2.1 hO.2.2.2.2 hS (j - zCC) ((zWs_get g1 g2).trans (by rw [zE_o e1 hcl.2])) hcl.1 k0 hk (hts _ hlink) (fun _ h9 => h9) hfin hinit hdecl hd (hP _).1 (hP _).2 (by rw [zfs_len, e1, hN9]; exact hk) d (fun H1 locs1 hP1 hD1 hS1 => ?_)
    have hv : ∀ x, v = some x → x < zN M := fun x q => h5.hd.1 x (by rw [q])
    exact hΨ _ _ _ _ _ _ h h1 h2 h3 h4 h5.tl.tl a cy H1 locs1 ls (hE.put g1 rfl (fun y hy => zsR_eq M j k0 v hy)) (hO.put g1 g2 rfl rfl (zcl_R hO.1 hv) (fun y hy => zsR_eq M j k0 v hy) (by rw [zE_o (M := zsR M j k0 v) e1 hcl.2, zfs_setR e1 (by rw [hN9]; exact hk) hr]) hP1 hD1) hS1 hl
  · exact h.elim
theorem zcl_new {M : ZM} (h : zcl M) (κ n : Nat) (hn : n < 2147483648) : zcl (zNw M κ n) := ⟨fun j k x hj hx => by
  by_cases c : j = zN M
  · subst c
    have hx : up1 (zR M) (zN M) (fun _ => none) (zN M) k = some x := hx
    rw [up1_s] at hx
    cases hx
  · have hx : up1 (zR M) (zN M) (fun _ => none) j k = some x := hx
    rw [up1_n _ _ _ c] at hx
    have hj : j < zN M + 1 := hj
    have := h.1 j k x (by omega) hx
    show x < zN M + 1
    omega, fun j => by
  by_cases c : j = zN M
  · subst c
    have e1 : zK (zNw M κ n) (zN M) = κ := up1_s _ _ _
    have e2 : zLn (zNw M κ n) (zN M) = n := up1_s _ _ _
    have e3 : zI (zNw M κ n) (zN M) = (fun _ => 0) := up1_s _ _ _
    rw [e1, e2, e3]
    exact ⟨hn, fun k => ⟨fun _ => show zrl 0 from ⟨by omega, by omega⟩, fun _ _ => show zrg 0 from ⟨by omega, by omega⟩⟩⟩
  · have e1 : zK (zNw M κ n) j = zK M j := up1_n _ _ _ c
    have e2 : zLn (zNw M κ n) j = zLn M j := up1_n _ _ _ c
    have e3 : zI (zNw M κ n) j = zI M j := up1_n _ _ _ c
    rw [e1, e2, e3]
    exact h.2 j⟩
theorem zNw_eq {M : ZM} (κ n : Nat) {x : Nat} (h : x < zN M) : zeq M (zNw M κ n) x := by
  have hn : x ≠ zN M := by omega
  exact ⟨up1_n _ _ _ hn, up1_n _ _ _ hn, up1_n _ _ _ hn, up1_n _ _ _ hn⟩
theorem zOK.push {D : va_G} {cy a : Nat → Nat} {M : ZM} {A : Nat → Prop} {U : State} {H H1 : Heap} {q κ n : Nat} {cA : ClassId} {e : va_E} (h : zOK D cy a M A U H) (hn9 : n < 2147483648) (hc : 20 ≤ κ → ArrOfT U cA (ztyK κ) ∧ va_RA U cA (ztyK κ)) (he : zE (up1 cy (zN M) cA) (up1 a (zN M) q) (zNw M κ n) (zN M) = e)
    (hP : va_P D vwCl (zWs cy a M ++ [(q, e)]) H1) (hD : va_D A (zWs cy a M ++ [(q, e)])) : zOK D (up1 cy (zN M) cA) (up1 a (zN M) q) (zNw M κ n) A U H1 := by
  have ha : ∀ j, j < zN M → up1 a (zN M) q j = a j := fun j hj => up1_n _ _ _ (by omega)
  have hcy : ∀ j, j < zN M → up1 cy (zN M) cA j = cy j := fun j hj => up1_n _ _ _ (by omega)
  rw [zWs_push (M' := zNw M κ n) h.2.1 rfl (up1_s a (zN M) q) he (fun x hx => ⟨ha x hx, by rw [zE_eq (zNw_eq κ n hx)]; exact zE_up h.1 ha hcy hx⟩)] at hP hD
  refine ⟨zcl_new h.1 κ n hn9, by have := h.2.1; show zCC ≤ zN M + 1; omega, fun j h1 h2 h3 => ?_, hP, hD⟩
  by_cases c : j = zN M
  · subst c
    have e1 : zK (zNw M κ n) (zN M) = κ := up1_s _ _ _
    rw [e1] at h3 ⊢
    rw [up1_s]
    exact hc h3
  · have h2 : j < zN M + 1 := h2
    have hj : j < zN M := by omega
    have e1 : zK (zNw M κ n) j = zK M j := (zNw_eq κ n hj).1
    rw [e1] at h3 ⊢
    rw [hcy j hj]
    exact h.2.2.1 j h1 hj h3
theorem zEx.push {a0 a : Nat → Nat} {M0 M : ZM} {q κ n : Nat} (h : zEx a0 M0 a M) (hN : zCC ≤ zN M) : zEx a0 M0 (up1 a (zN M) q) (zNw M κ n) :=
  h.trans ⟨Nat.le_succ _, fun j hj => up1_n _ _ _ (by omega), fun x hx => zNw_eq κ n (by omega)⟩

def tIal (κ nx : Nat) : ZTr := fun Φ _ _ _ _ L st M k n => match st with | .inl i :: .inr (.inl (some j)) :: r => (zO M j κ ∧ 0 ≤ i ∧ i < zLn M j ∧ i < 2147483648) ∧ Φ nx L (zi (zI M j i.toNat) :: r) M k n | _ => False

theorem zs_iaload20 (X0 : zCtx p l R s m args meth c cc own Ts nL ret D A a0 M0 mc ms) (d : decode cc pc = .ok (.iaload, 1)) : zSd p l e R s m args below meth c nL D A a0 M0 K KX mc ms pc (tIal 20 (pc + 1)) := by
  obtain ⟨hx, hb, hml, hown, hts, hK, hF, hA, hlk, hrT, hst, hmc, hms, hcl0, hN0⟩ := X0
  intro Ψ hΨ L st M k n h h1 h2 h3 h4 h5 a cy H locs ls hE hO hS hl
  simp only [tIal] at h
  split at h
  · next i j r =>
    obtain ⟨⟨⟨e1, g2⟩, b1, b2, b3⟩, h⟩ := h
    obtain ⟨v1, v2⟩ := z32_in b1 b2 b3
    have h9 := hΨ _ _ _ _ _ _ h h1 h2 h3 h4 (h5.tl.tl.cons (zlv_i _ _ (zcl_rg hO.1 e1 (by decide) (by decide) _))) a cy H locs ls hE hO hS hl
    by_cases g1 : zCC ≤ j
    · refine va_iald (D := D) (ws := zWs cy a M) hx hb (hO.k hK g1 g2 (by rw [e1]; decide)) hO.2.2.2.1 (j - zCC) 0 ((zWs_get g1 g2).trans (by rw [zE_a e1 (by decide)]; simp only [zar, e1]; rfl)) (by rw [e1]; rfl) v1 d ?_
      rw [v2]
      exact h9
    · have hq := (hF.congr hE hcl0 hN0).1.2.2.1 j (by omega) e1
      exact va_ti (v := .int (Int32.ofInt (zI M j i.toNat))) hx hb hq hS v1 (by rw [v2]) d h9
  · exact h.elim

theorem zs_baload21 (X0 : zCtx p l R s m args meth c cc own Ts nL ret D A a0 M0 mc ms) (d : decode cc pc = .ok (.baload, 1)) : zSd p l e R s m args below meth c nL D A a0 M0 K KX mc ms pc (tIal 21 (pc + 1)) := by
  obtain ⟨hx, hb, hml, hown, hts, hK, hF, hA, hlk, hrT, hst, hmc, hms, hcl0, hN0⟩ := X0
  intro Ψ hΨ L st M k n h h1 h2 h3 h4 h5 a cy H locs ls hE hO hS hl
  simp only [tIal] at h
  split at h
  · next i j r =>
    obtain ⟨⟨⟨e1, g2⟩, b1, b2, b3⟩, h⟩ := h
    obtain ⟨v1, v2⟩ := z32_in b1 b2 b3
    have h9 := hΨ _ _ _ _ _ _ h h1 h2 h3 h4 (h5.tl.tl.cons (zlv_i _ _ (zcl_rg hO.1 e1 (by decide) (by decide) _))) a cy H locs ls hE hO hS hl
    by_cases g1 : zCC ≤ j
    · refine va_bald (D := D) (ws := zWs cy a M) hx hb (hO.k hK g1 g2 (by rw [e1]; decide)) hO.2.2.2.1 (j - zCC) 0 ((zWs_get g1 g2).trans (by rw [zE_a e1 (by decide)]; simp only [zar, e1]; rfl)) (by rw [e1]; rfl) v1 d ?_
      rw [v2]
      exact h9
    · have hq := (hF.congr hE hcl0 hN0).1.2.2.2.1 j (by omega) e1
      exact va_tb (v := .int (Int32.ofInt (zI M j i.toNat))) hx hb hq hS v1 (by rw [v2]) d h9
  · exact h.elim

def tZal (nx : Nat) : ZTr := fun Φ _ _ _ _ L st M k n => match st with | .inl i :: .inr (.inl (some j)) :: r => (zW M j 22 ∧ 0 ≤ i ∧ i < zLn M j ∧ i < 2147483648) ∧ Φ nx L (zi (zI M j i.toNat) :: r) M k n | _ => False

def tLal (nx : Nat) : ZTr := fun Φ _ _ _ _ L st M k n => match st with | .inl i :: .inr (.inl (some j)) :: r => (zW M j 23 ∧ 0 ≤ i ∧ i < zLn M j ∧ i < 2147483648) ∧ Φ nx L (zl (zI M j i.toNat) :: r) M k n | _ => False

def tDal (nx : Nat) : ZTr := fun Φ _ _ _ _ L st M k n => match st with | .inl i :: .inr (.inl (some j)) :: r => (zW M j 24 ∧ 0 ≤ i ∧ i < zLn M j ∧ i < 2147483648) ∧ Φ nx L (zd (UInt64.ofNat (zI M j i.toNat).toNat) :: r) M k n | _ => False

theorem zs_baload22 (X0 : zCtx p l R s m args meth c cc own Ts nL ret D A a0 M0 mc ms) (d : decode cc pc = .ok (.baload, 1)) : zSd p l e R s m args below meth c nL D A a0 M0 K KX mc ms pc (tZal (pc + 1)) := by
  obtain ⟨hx, hb, hml, hown, hts, hK, hF, hA, hlk, hrT, hst, hmc, hms, hcl0, hN0⟩ := X0
  intro Ψ hΨ L st M k n h h1 h2 h3 h4 h5 a cy H locs ls hE hO hS hl
  simp only [tZal] at h
  split at h
  · next i j r =>
    obtain ⟨⟨⟨e1, g1, g2⟩, b1, b2, b3⟩, h⟩ := h
    obtain ⟨v1, v2⟩ := z32_in b1 b2 b3
    have h9 := hΨ _ _ _ _ _ _ h h1 h2 h3 h4 (h5.tl.tl.cons (zlv_i _ _ (zcl_rg hO.1 e1 (by decide) (by decide) _))) a cy H locs ls hE hO hS hl
    refine va_zald (D := D) (ws := zWs cy a M) hx hb (hO.k hK g1 g2 (by rw [e1]; decide)) hO.2.2.2.1 (j - zCC) 0 ((zWs_get g1 g2).trans (by rw [zE_a e1 (by decide)]; simp only [zar, e1]; rfl)) (by rw [e1]; rfl) v1 d ?_
    rw [v2]
    exact h9
  · exact h.elim

theorem zs_laload23 (X0 : zCtx p l R s m args meth c cc own Ts nL ret D A a0 M0 mc ms) (d : decode cc pc = .ok (.laload, 1)) : zSd p l e R s m args below meth c nL D A a0 M0 K KX mc ms pc (tLal (pc + 1)) := by
  obtain ⟨hx, hb, hml, hown, hts, hK, hF, hA, hlk, hrT, hst, hmc, hms, hcl0, hN0⟩ := X0
  intro Ψ hΨ L st M k n h h1 h2 h3 h4 h5 a cy H locs ls hE hO hS hl
  simp only [tLal] at h
  split at h
  · next i j r =>
    obtain ⟨⟨⟨e1, g1, g2⟩, b1, b2, b3⟩, h⟩ := h
    obtain ⟨v1, v2⟩ := z32_in b1 b2 b3
    have h9 := hΨ _ _ _ _ _ _ h h1 h2 h3 h4 (h5.tl.tl.cons (zlv_l _ _ (((hO.1.2 j).2 _).1 e1))) a cy H locs ls hE hO hS hl
    refine va_lald (D := D) (ws := zWs cy a M) hx hb (hO.k hK g1 g2 (by rw [e1]; decide)) hO.2.2.2.1 (j - zCC) 0 ((zWs_get g1 g2).trans (by rw [zE_a e1 (by decide)]; simp only [zar, e1]; rfl)) (by rw [e1]; rfl) v1 d ?_
    rw [v2]
    exact h9
  · exact h.elim

theorem zs_daload24 (X0 : zCtx p l R s m args meth c cc own Ts nL ret D A a0 M0 mc ms) (d : decode cc pc = .ok (.daload, 1)) : zSd p l e R s m args below meth c nL D A a0 M0 K KX mc ms pc (tDal (pc + 1)) := by
  obtain ⟨hx, hb, hml, hown, hts, hK, hF, hA, hlk, hrT, hst, hmc, hms, hcl0, hN0⟩ := X0
  intro Ψ hΨ L st M k n h h1 h2 h3 h4 h5 a cy H locs ls hE hO hS hl
  simp only [tDal] at h
  split at h
  · next i j r =>
    obtain ⟨⟨⟨e1, g1, g2⟩, b1, b2, b3⟩, h⟩ := h
    obtain ⟨v1, v2⟩ := z32_in b1 b2 b3
    have h9 := hΨ _ _ _ _ _ _ h h1 h2 h3 h4 (h5.tl.tl.cons (zlv_d _ _)) a cy H locs ls hE hO hS hl
    refine va_dald (D := D) (ws := zWs cy a M) hx hb (hO.k hK g1 g2 (by rw [e1]; decide)) hO.2.2.2.1 (j - zCC) 0 ((zWs_get g1 g2).trans (by rw [zE_a e1 (by decide)]; simp only [zar, e1]; rfl)) (by rw [e1]; rfl) v1 d ?_
    rw [v2]
    exact h9
  · exact h.elim

def tAal (κ nx : Nat) : ZTr := fun Φ _ _ _ _ L st M k n => match st with | .inl i :: .inr (.inl (some j)) :: r => (zW M j κ ∧ 0 ≤ i ∧ i < zLn M j ∧ i < 2147483648) ∧ ∃ x, zR M j i.toNat = some x ∧ Φ nx L (zo x :: r) M k n | _ => False

theorem zs_aaload (X0 : zCtx p l R s m args meth c cc own Ts nL ret D A a0 M0 mc ms) {κ : Nat} {C : String} (hκ : 30 ≤ κ) (hC : ztyK κ = .object C) (d : decode cc pc = .ok (.aaload, 1)) : zSd p l e R s m args below meth c nL D A a0 M0 K KX mc ms pc (tAal κ (pc + 1)) := by
  obtain ⟨hx, hb, hml, hown, hts, hK, hF, hA, hlk, hrT, hst, hmc, hms, hcl0, hN0⟩ := X0
  intro Ψ hΨ L st M k n h h1 h2 h3 h4 h5 a cy H locs ls hE hO hS hl
  simp only [tAal] at h
  split at h
  · next i j r =>
    obtain ⟨⟨⟨e1, g1, g2⟩, b1, b2, b3⟩, x, hxx, h⟩ := h
    obtain ⟨v1, v2⟩ := z32_in b1 b2 b3
    have h9 := hΨ _ _ _ _ _ _ h h1 h2 h3 h4 (h5.tl.tl.cons (zlv_o (hO.1.1 j _ x g2 hxx))) a cy H locs ls hE hO hS hl
    refine va_aldq (D := D) (ws := zWs cy a M) (C := C) (cA := cy j) (f := fun k => (zR M j k).map a) hx hb (hO.k hK g1 g2 (by rw [e1]; omega)) hO.2.2.2.1 (j - zCC) 0 ((zWs_get g1 g2).trans (by rw [zE_a e1 (by omega)]; simp only [zar, e1, if_neg (show ¬ κ = 23 by omega), if_neg (show ¬ κ = 24 by omega), if_pos hκ])) (by rw [e1, hC]; rfl) v1 d ?_
    rw [v2, hxx]
    exact h9
  · exact h.elim

def tKal (nx : Nat) : ZTr := fun Φ _ _ _ _ L st M k n => match st with | .inl i :: .inr (.inl (some j)) :: r => (zK M j = 33 ∧ j < zCC ∧ 0 ≤ i ∧ i < zLn M j ∧ i < 2147483648) ∧ ∃ x, zR M j i.toNat = some x ∧ Φ nx L (zo x :: r) M k n | _ => False

theorem zs_aaloadK (X0 : zCtx p l R s m args meth c cc own Ts nL ret D A a0 M0 mc ms) (d : decode cc pc = .ok (.aaload, 1)) : zSd p l e R s m args below meth c nL D A a0 M0 K KX mc ms pc (tKal (pc + 1)) := by
  obtain ⟨hx, hb, hml, hown, hts, hK, hF, hA, hlk, hrT, hst, hmc, hms, hcl0, hN0⟩ := X0
  intro Ψ hΨ L st M k n h h1 h2 h3 h4 h5 a cy H locs ls hE hO hS hl
  simp only [tKal] at h
  split at h
  · next i j r =>
    obtain ⟨⟨e1, g1, b1, b2, b3⟩, x, hxx, h⟩ := h
    obtain ⟨v1, v2⟩ := z32_in b1 b2 b3
    have h9 := hΨ _ _ _ _ _ _ h h1 h2 h3 h4 (h5.tl.tl.cons (zlv_o (hO.1.1 j _ x (by have := hO.2.1; omega) hxx))) a cy H locs ls hE hO hS hl
    have hq := (hF.congr hE hcl0 hN0).1.2.2.2.2 j g1 e1
    exact vb_tq (v := .ref (a x)) hx hb hq hS v1 (by rw [v2, hxx]; rfl) d h9
  · exact h.elim

def tLen (nx : Nat) : ZTr := fun Φ _ _ _ _ L st M k n => match st with | .inr (.inl (some j)) :: r => (j < zN M ∧ ((zCC ≤ j ∧ 20 ≤ zK M j) ∨ zK M j = 20 ∨ zK M j = 21 ∨ zK M j = 33)) ∧ Φ nx L (zi (zLn M j) :: r) M k n | _ => False

theorem zs_len (X0 : zCtx p l R s m args meth c cc own Ts nL ret D A a0 M0 mc ms) (d : decode cc pc = .ok (.arraylength, 1)) : zSd p l e R s m args below meth c nL D A a0 M0 K KX mc ms pc (tLen (pc + 1)) := by
  obtain ⟨hx, hb, hml, hown, hts, hK, hF, hA, hlk, hrT, hst, hmc, hms, hcl0, hN0⟩ := X0
  intro Ψ hΨ L st M k n h h1 h2 h3 h4 h5 a cy H locs ls hE hO hS hl
  simp only [tLen] at h
  split at h
  · next j r =>
    obtain ⟨⟨g2, e1⟩, h⟩ := h
    have h9 := hΨ _ _ _ _ _ _ h h1 h2 h3 h4 (h5.tl.cons (zlv_i _ _ ⟨by omega, by have := (hO.1.2 j).1; omega⟩)) a cy H locs ls hE hO hS hl
    have h10 : (Int32.ofNat (zLn M j)) = Int32.ofInt (zLn M j) := Int32.ofInt_eq_ofNat.symm
    by_cases g1 : zCC ≤ j
    · have e2 : 20 ≤ zK M j := by omega
      exact va_alen (D := D) (ws := zWs cy a M) hx hb (hO.k hK g1 g2 e2) hO.2.2.2.1 (j - zCC) 0 ((zWs_get g1 g2).trans (by rw [zE_a rfl (Nat.not_lt.mpr e2)])) rfl h10 d h9
    · have hq := (hF.congr hE hcl0 hN0).1
      have hj : j < zCC := by omega
      rcases e1 with e1 | e1 | e1 | e1
      · exact absurd e1.1 g1
      · exact va_tlen hx hb (hq.2.2.1 j hj e1) hS h10 d h9
      · exact va_tlen hx hb (hq.2.2.2.1 j hj e1) hS h10 d h9
      · exact va_tlen hx hb (hq.2.2.2.2 j hj e1) hS h10 d h9
  · exact h.elim

def tIas (κ : Nat) (P : Int → Prop) (nx : Nat) : ZTr := fun Φ _ _ _ _ L st M k n => match st with | .inl x :: .inl i :: .inr (.inl (some j)) :: r => ((zW M j κ ∧ 0 ≤ i ∧ i < zLn M j ∧ i < 2147483648) ∧ P x) ∧ Φ nx L r (zsI M j i.toNat x) k n | _ => False

theorem zar_setI {cy a : Nat → Nat} {M : ZM} {j κ : Nat} (e : zK M j = κ) (hκ : κ = 20 ∨ κ = 21 ∨ κ = 22) (y : Nat) (x : Int) : zE cy a (zsI M j y x) j = .inl (cy j, zLn M j, .inl (upd (fun k => Int32.ofInt (zI M j k)) y (Int32.ofInt x))) := by
  have e' : zK (zsI M j y x) j = κ := e
  rw [zE_a e' (by omega)]
  have e9 : (fun k => Int32.ofInt (zI (zsI M j y x) j k)) = upd (fun k => Int32.ofInt (zI M j k)) y (Int32.ofInt x) := funext (fun k => by
    by_cases c : k = y
    · subst c
      rw [zI_s]
      simp [upd]
    · rw [zI_m M j x c]
      simp [upd, c])
  simp only [zar, e', if_neg (show ¬ κ = 23 by omega), if_neg (show ¬ κ = 24 by omega), if_neg (show ¬ 30 ≤ κ by omega), e9]

theorem zs_iastore20 (X0 : zCtx p l R s m args meth c cc own Ts nL ret D A a0 M0 mc ms) (d : decode cc pc = .ok (.iastore, 1)) : zSd p l e R s m args below meth c nL D A a0 M0 K KX mc ms pc (tIas 20 (fun _ => True) (pc + 1)) := by
  obtain ⟨hx, hb, hml, hown, hts, hK, hF, hA, hlk, hrT, hst, hmc, hms, hcl0, hN0⟩ := X0
  intro Ψ hΨ L st M k n h h1 h2 h3 h4 h5 a cy H locs ls hE hO hS hl
  simp only [tIas] at h
  split at h
  · next x i j r =>
    obtain ⟨⟨⟨⟨e1, g1, g2⟩, b1, b2, b3⟩, hp⟩, h⟩ := h
    obtain ⟨v1, v2⟩ := z32_in b1 b2 b3
    refine va_iast (D := D) (ws := zWs cy a M) hx hb (hO.k hK g1 g2 (by rw [e1]; decide)) hO.2.2.2.1 hO.2.2.2.2 hS (j - zCC) 0 (f := fun k => Int32.ofInt (zI M j k)) ((zWs_get g1 g2).trans (by rw [zE_a e1 (by decide)]; simp only [zar, e1]; rfl)) (by rw [e1]; rfl) v1 d (fun H1 locs1 hP1 hD1 hS1 => ?_)
    rw [v2] at hP1 hD1
    exact hΨ _ _ _ _ _ _ h h1 h2 h3 h4 h5.tl.tl.tl a cy H1 locs1 ls (hE.put g1 rfl (fun y hy => zsI_eq M j i.toNat x hy)) (hO.put g1 g2 rfl rfl (zcl_I hO.1 j i.toNat x ⟨fun z => absurd (e1.symm.trans z) (by decide), fun _ _ => h5.hd.rg⟩) (fun y hy => zsI_eq M j i.toNat x hy) (zar_setI e1 (by decide) i.toNat x) hP1 hD1) hS1 hl
  · exact h.elim

theorem zs_bastore21 (X0 : zCtx p l R s m args meth c cc own Ts nL ret D A a0 M0 mc ms) (d : decode cc pc = .ok (.bastore, 1)) : zSd p l e R s m args below meth c nL D A a0 M0 K KX mc ms pc (tIas 21 (fun x => -128 ≤ x ∧ x < 128) (pc + 1)) := by
  obtain ⟨hx, hb, hml, hown, hts, hK, hF, hA, hlk, hrT, hst, hmc, hms, hcl0, hN0⟩ := X0
  intro Ψ hΨ L st M k n h h1 h2 h3 h4 h5 a cy H locs ls hE hO hS hl
  simp only [tIas] at h
  split at h
  · next x i j r =>
    obtain ⟨⟨⟨⟨e1, g1, g2⟩, b1, b2, b3⟩, hp⟩, h⟩ := h
    obtain ⟨v1, v2⟩ := z32_in b1 b2 b3
    have hn9 : vp_nar .byte (Int32.ofInt x) = Int32.ofInt x := by
      rw [vp_nar_byte]
      have : (Int32.ofInt x).toInt8 = Int8.ofInt x := Int32.toInt8_ofInt
      rw [this]
      refine Int32.toInt_inj.mp ?_
      rw [Int8.toInt_toInt32, Int8.toInt_ofInt_of_le (by have := hp.1; omega) (by have := hp.2; omega), z32 ⟨by have := hp.1; omega, by have := hp.2; omega⟩]
    refine va_bast (D := D) (ws := zWs cy a M) hx hb (hO.k hK g1 g2 (by rw [e1]; decide)) hO.2.2.2.1 hO.2.2.2.2 hS (j - zCC) 0 (f := fun k => Int32.ofInt (zI M j k)) ((zWs_get g1 g2).trans (by rw [zE_a e1 (by decide)]; simp only [zar, e1]; rfl)) (by rw [e1]; rfl) v1 d (fun H1 locs1 hP1 hD1 hS1 => ?_)
    rw [v2] at hP1 hD1
    rw [hn9] at hP1 hD1
    exact hΨ _ _ _ _ _ _ h h1 h2 h3 h4 h5.tl.tl.tl a cy H1 locs1 ls (hE.put g1 rfl (fun y hy => zsI_eq M j i.toNat x hy)) (hO.put g1 g2 rfl rfl (zcl_I hO.1 j i.toNat x ⟨fun z => absurd (e1.symm.trans z) (by decide), fun _ _ => h5.hd.rg⟩) (fun y hy => zsI_eq M j i.toNat x hy) (zar_setI e1 (by decide) i.toNat x) hP1 hD1) hS1 hl
  · exact h.elim

theorem zs_bastore22 (X0 : zCtx p l R s m args meth c cc own Ts nL ret D A a0 M0 mc ms) (d : decode cc pc = .ok (.bastore, 1)) : zSd p l e R s m args below meth c nL D A a0 M0 K KX mc ms pc (tIas 22 (fun x => x = 0 ∨ x = 1) (pc + 1)) := by
  obtain ⟨hx, hb, hml, hown, hts, hK, hF, hA, hlk, hrT, hst, hmc, hms, hcl0, hN0⟩ := X0
  intro Ψ hΨ L st M k n h h1 h2 h3 h4 h5 a cy H locs ls hE hO hS hl
  simp only [tIas] at h
  split at h
  · next x i j r =>
    obtain ⟨⟨⟨⟨e1, g1, g2⟩, b1, b2, b3⟩, hp⟩, h⟩ := h
    obtain ⟨v1, v2⟩ := z32_in b1 b2 b3
    have hn9 : vp_nar .boolean (Int32.ofInt x) = Int32.ofInt x := by
      rcases hp with rfl | rfl <;> rfl
    refine va_zast (D := D) (ws := zWs cy a M) hx hb (hO.k hK g1 g2 (by rw [e1]; decide)) hO.2.2.2.1 hO.2.2.2.2 hS (j - zCC) 0 (f := fun k => Int32.ofInt (zI M j k)) ((zWs_get g1 g2).trans (by rw [zE_a e1 (by decide)]; simp only [zar, e1]; rfl)) (by rw [e1]; rfl) v1 d (fun H1 locs1 hP1 hD1 hS1 => ?_)
    rw [v2] at hP1 hD1
    rw [hn9] at hP1 hD1
    exact hΨ _ _ _ _ _ _ h h1 h2 h3 h4 h5.tl.tl.tl a cy H1 locs1 ls (hE.put g1 rfl (fun y hy => zsI_eq M j i.toNat x hy)) (hO.put g1 g2 rfl rfl (zcl_I hO.1 j i.toNat x ⟨fun z => absurd (e1.symm.trans z) (by decide), fun _ _ => h5.hd.rg⟩) (fun y hy => zsI_eq M j i.toNat x hy) (zar_setI e1 (by decide) i.toNat x) hP1 hD1) hS1 hl
  · exact h.elim

def tLas (nx : Nat) : ZTr := fun Φ _ _ _ _ L st M k n => match st with | .inr (.inr (.inl x)) :: .inl i :: .inr (.inl (some j)) :: r => (zW M j 23 ∧ 0 ≤ i ∧ i < zLn M j ∧ i < 2147483648) ∧ Φ nx L r (zsI M j i.toNat x) k n | _ => False

theorem zs_lastore (X0 : zCtx p l R s m args meth c cc own Ts nL ret D A a0 M0 mc ms) (d : decode cc pc = .ok (.lastore, 1)) : zSd p l e R s m args below meth c nL D A a0 M0 K KX mc ms pc (tLas (pc + 1)) := by
  obtain ⟨hx, hb, hml, hown, hts, hK, hF, hA, hlk, hrT, hst, hmc, hms, hcl0, hN0⟩ := X0
  intro Ψ hΨ L st M k n h h1 h2 h3 h4 h5 a cy H locs ls hE hO hS hl
  simp only [tLas] at h
  split at h
  · next x i j r =>
    obtain ⟨⟨⟨e1, g1, g2⟩, b1, b2, b3⟩, h⟩ := h
    obtain ⟨v1, v2⟩ := z32_in b1 b2 b3
    refine va_last (D := D) (ws := zWs cy a M) hx hb (hO.k hK g1 g2 (by rw [e1]; decide)) hO.2.2.2.1 hO.2.2.2.2 hS (j - zCC) 0 (f := fun k => Int64.ofInt (zI M j k)) ((zWs_get g1 g2).trans (by rw [zE_a e1 (by decide)]; simp only [zar, e1]; rfl)) (by rw [e1]; rfl) v1 d (fun H1 locs1 hP1 hD1 hS1 => ?_)
    rw [v2] at hP1 hD1
    refine hΨ _ _ _ _ _ _ h h1 h2 h3 h4 h5.tl.tl.tl a cy H1 locs1 ls (hE.put g1 rfl (fun y hy => zsI_eq M j i.toNat x hy)) (hO.put g1 g2 rfl rfl (zcl_I hO.1 j i.toNat x ⟨fun _ => h5.hd.rl, fun z _ => absurd e1 z⟩) (fun y hy => zsI_eq M j i.toNat x hy) ?_ hP1 hD1) hS1 hl
    have e' : zK (zsI M j i.toNat x) j = 23 := e1
    rw [zE_a e' (by decide)]
    have e9 : (fun k => Int64.ofInt (zI (zsI M j i.toNat x) j k)) = vp_updL (fun k => Int64.ofInt (zI M j k)) i.toNat (Int64.ofInt x) := funext (fun k => by
      by_cases c : k = i.toNat
      · subst c
        rw [zI_s]
        simp [vp_updL]
      · rw [zI_m M j x c]
        simp [vp_updL, c])
    simp only [zar, e', if_true, e9]
  · exact h.elim

def tDas (nx : Nat) : ZTr := fun Φ _ _ _ _ L st M k n => match st with | .inr (.inr (.inr (.inr x))) :: .inl i :: .inr (.inl (some j)) :: r => (zW M j 24 ∧ 0 ≤ i ∧ i < zLn M j ∧ i < 2147483648) ∧ Φ nx L r (zsI M j i.toNat (x.toNat : Int)) k n | _ => False

theorem zs_dastore (X0 : zCtx p l R s m args meth c cc own Ts nL ret D A a0 M0 mc ms) (d : decode cc pc = .ok (.dastore, 1)) : zSd p l e R s m args below meth c nL D A a0 M0 K KX mc ms pc (tDas (pc + 1)) := by
  obtain ⟨hx, hb, hml, hown, hts, hK, hF, hA, hlk, hrT, hst, hmc, hms, hcl0, hN0⟩ := X0
  intro Ψ hΨ L st M k n h h1 h2 h3 h4 h5 a cy H locs ls hE hO hS hl
  simp only [tDas] at h
  split at h
  · next x i j r =>
    obtain ⟨⟨⟨e1, g1, g2⟩, b1, b2, b3⟩, h⟩ := h
    obtain ⟨v1, v2⟩ := z32_in b1 b2 b3
    refine va_dast (D := D) (ws := zWs cy a M) hx hb (hO.k hK g1 g2 (by rw [e1]; decide)) hO.2.2.2.1 hO.2.2.2.2 hS (j - zCC) 0 (f := fun k => UInt64.ofNat (zI M j k).toNat) ((zWs_get g1 g2).trans (by rw [zE_a e1 (by decide)]; simp only [zar, e1]; rfl)) (by rw [e1]; rfl) v1 d (fun H1 locs1 hP1 hD1 hS1 => ?_)
    rw [v2] at hP1 hD1
    refine hΨ _ _ _ _ _ _ h h1 h2 h3 h4 h5.tl.tl.tl a cy H1 locs1 ls (hE.put g1 rfl (fun y hy => zsI_eq M j i.toNat (x.toNat : Int) hy)) (hO.put g1 g2 rfl rfl (zcl_I hO.1 j i.toNat (x.toNat : Int) ⟨fun z => absurd (e1.symm.trans z) (by decide), fun _ z => absurd e1 z⟩) (fun y hy => zsI_eq M j i.toNat (x.toNat : Int) hy) ?_ hP1 hD1) hS1 hl
    have e' : zK (zsI M j i.toNat (x.toNat : Int)) j = 24 := e1
    rw [zE_a e' (by decide)]
    have e9 : (fun k => UInt64.ofNat (zI (zsI M j i.toNat (x.toNat : Int)) j k).toNat) = vf_upd (fun k => UInt64.ofNat (zI M j k).toNat) i.toNat x := funext (fun k => by
      by_cases c : k = i.toNat
      · subst c
        rw [zI_s]
        simp [vf_upd]
      · rw [zI_m M j (x.toNat : Int) c]
        simp [vf_upd, c])
    simp only [zar, e', if_true, e9, if_neg (show ¬ (24 : Nat) = 23 by decide)]
  · exact h.elim

def tAas (κ ci nx : Nat) : ZTr := fun Φ _ _ _ _ L st M k n => match st with | .inr (.inl (some v)) :: .inl i :: .inr (.inl (some j)) :: r => (zW M j κ ∧ zW M v ci ∧ 0 ≤ i ∧ i < zLn M j ∧ i < 2147483648) ∧ Φ nx L r (zsR M j i.toNat (some v)) k n | _ => False

theorem zs_aastore (X0 : zCtx p l R s m args meth c cc own Ts nL ret D A a0 M0 mc ms) {κ ci N : Nat} {C : String} {T : u_T} (hκ : 30 ≤ κ) (hcl : zcl2 ci C T N) (hC : ztyK κ = .object C) (d : decode cc pc = .ok (.aastore, 1)) : zSd p l e R s m args below meth c nL D A a0 M0 K KX mc ms pc (tAas κ ci (pc + 1)) := by
  obtain ⟨hx, hb, hml, hown, hts, hK, hF, hA, hlk, hrT, hst, hmc, hms, hcl0, hN0⟩ := X0
  intro Ψ hΨ L st M k n h h1 h2 h3 h4 h5 a cy H locs ls hE hO hS hl
  simp only [tAas] at h
  split at h
  · next v i j r =>
    obtain ⟨⟨⟨e1, g1, g2⟩, ⟨f1, f2, f3⟩, b1, b2, b3⟩, h⟩ := h
    obtain ⟨v1, v2⟩ := z32_in b1 b2 b3
    refine va_astq (D := D) (ws := zWs cy a M) (r := (C, T, N)) hx hb (hO.k hK g1 g2 (by rw [e1]; omega)) hO.2.2.2.1 hO.2.2.2.2 hS (j - zCC) 0 (v - zCC) ci (cA := cy j) (f := fun k => (zR M j k).map a) ((zWs_get g1 g2).trans (by rw [zE_a e1 (by omega)]; simp only [zar, e1, if_neg (show ¬ κ = 23 by omega), if_neg (show ¬ κ = 24 by omega), if_pos hκ])) (by rw [e1, hC]; rfl) ((zWs_get f2 f3).trans (by rw [zE_o f1 hcl.2])) hcl.1 v1 d (fun H1 locs1 hP1 hD1 hS1 => ?_)
    rw [v2] at hP1 hD1
    refine hΨ _ _ _ _ _ _ h h1 h2 h3 h4 h5.tl.tl.tl a cy H1 locs1 ls (hE.put g1 rfl (fun y hy => zsR_eq M j i.toNat (some v) hy)) (hO.put g1 g2 rfl rfl (zcl_R hO.1 (fun x q => by cases q; exact f3)) (fun y hy => zsR_eq M j i.toNat (some v) hy) ?_ hP1 hD1) hS1 hl
    have e' : zK (zsR M j i.toNat (some v)) j = κ := e1
    rw [zE_a e' (by omega)]
    have e9 : (fun k => (zR (zsR M j i.toNat (some v)) j k).map a) = va_up (fun k => (zR M j k).map a) i.toNat (some (a v)) := funext (fun k => by
      by_cases c : k = i.toNat
      · subst c
        rw [zR_s]
        simp [va_up]
      · rw [zR_m M j (some v) c]
        simp [va_up, c])
    simp only [zar, e', if_neg (show ¬ κ = 23 by omega), if_neg (show ¬ κ = 24 by omega), if_pos hκ, e9]
  · exact h.elim

def tNew (ci nf nx : Nat) : ZTr := fun Φ _ _ mc ms L st M k n => (k + 1 ≤ mc ∧ n + nf ≤ ms) ∧ Φ nx L (zo (zN M) :: st) (zNw M ci 0) (k + 1) (n + nf)

theorem zfs_newA (a a' : Nat → Nat) {M : ZM} {κ n : Nat} : zfs a (zNw M κ n) (zN M) = zfs a' (zNw M κ n) (zN M) := by
  refine List.map_congr_left (fun y _ => ?_)
  have e2 : zR (zNw M κ n) (zN M) y = none := by show up1 (zR M) (zN M) (fun _ => none) (zN M) y = none; rw [up1_s]
  rw [e2]
  rfl
theorem zfs_new {a : Nat → Nat} {M : ZM} {ci n j : Nat} (hj : j < znf ci) : vp_V (zfs a (zNw M ci n) (zN M)) j = if zrf ci j = true then .null else .int 0 := by
  have e1 : zK (zNw M ci n) (zN M) = ci := up1_s _ _ _
  have hv := zfs_at (a := a) e1 hj
  rw [vp_V, List.getD_eq_getElem?_getD, hv]
  have e2 : zR (zNw M ci n) (zN M) j = none := by show up1 (zR M) (zN M) (fun _ => none) (zN M) j = none; rw [up1_s]
  have e3 : zI (zNw M ci n) (zN M) j = 0 := by show up1 (zI M) (zN M) (fun _ => 0) (zN M) j = 0; rw [up1_s]
  rw [e2, e3]
  rfl

theorem zs_new (X0 : zCtx p l R s m args meth c cc own Ts nL ret D A a0 M0 mc ms) {ci N idx : Nat} {C : String} {T : u_T} {ty0 : Nat → FieldType} (hcl : zcl2 ci C T N) (hin : ∀ w ∈ u_ws C T N, w ∈ Ts) (hty : ∀ k, k < N → parseFieldDescriptor (T k).2.2.1 = some (ty0 k)) (hcl2 : Cond.classLink own idx C ∈ Ts) (hins : Cond.instantiable C N ∈ Ts) (hini : Cond.initialized C ∈ Ts) (hdf : ∀ j, j < N → defaultValue (ty0 j) = if zrf ci j = true then .null else .int 0) (d : decode cc pc = .ok (.new idx, 3)) : zSd p l e R s m args below meth c nL D A a0 M0 K KX mc ms pc (tNew ci N (pc + 3)) := by
  obtain ⟨hx, hb, hml, hown, hts, hK, hF, hA, hlk, hrT, hst, hmc, hms, hcl0, hN0⟩ := X0
  intro Ψ hΨ L st M k n h h1 h2 h3 h4 h5 a cy H locs ls hE hO hS hl
  obtain ⟨⟨q1, q2⟩, h⟩ := h
  have hN9 := hcl.nf
  refine va_new (D := D) (ws := zWs cy a M) (ci := ci) (fs := zfs a (zNw M ci 0) (zN M)) hx hb hts hin ty0 hty hown (hts _ hcl2) (hts _ hins) (hts _ hini) hK hO.2.2.2.1 hO.2.2.2.2 hS hA hcl.1 (fun j hj => (hdf j hj).trans (zfs_new (by rw [hN9]; exact hj)).symm) (Nat.le_trans q1 hmc) (Nat.le_trans q2 hms) d (fun q H1 hP1 hD1 hS1 => ?_)
  have ha : ∀ j, j < zN M → up1 a (zN M) q j = a j := fun j hj => up1_n _ _ _ (by omega)
  have e1 : zK (zNw M ci 0) (zN M) = ci := up1_s _ _ _
  have h9 := hΨ _ _ _ _ _ _ h q1 q2 h3 (h4.up (Nat.le_succ _)) ((h5.up (Nat.le_succ _)).cons (zlv_o (Nat.lt_succ_self _))) (up1 a (zN M) q) (up1 cy (zN M) 0) H1 locs ls (hE.push hO.2.1) (hO.push (n := 0) (by decide) (fun z => absurd z (Nat.not_le.mpr hcl.2)) (by rw [zE_o e1 hcl.2, zfs_newA (up1 a (zN M) q) a]) hP1 hD1) hS1 (hl.up h4 ha)
  rw [List.map_cons, ztrS_up ha h5] at h9
  rw [show ztr (up1 a (zN M) q) (zo (zN M)) = .ref q by simp [ztr, va_rf, up1]] at h9
  exact h9

def tNewA (κ nx : Nat) : ZTr := fun Φ _ _ mc ms L st M k n => match st with | .inl x :: r => (0 ≤ x ∧ x ≤ 65536 ∧ k + 1 ≤ mc ∧ n + x.toNat ≤ ms) ∧ Φ nx L (zo (zN M) :: r) (zNw M κ x.toNat) (k + 1) (n + x.toNat) | _ => False

theorem zar_newI {cy a : Nat → Nat} {M : ZM} {κ n : Nat} (hκ : κ = 20 ∨ κ = 21 ∨ κ = 22) : zE cy a (zNw M κ n) (zN M) = .inl (cy (zN M), n, .inl (fun _ => 0)) := by
  have e1 : zK (zNw M κ n) (zN M) = κ := up1_s _ _ _
  have e2 : zLn (zNw M κ n) (zN M) = n := up1_s _ _ _
  have e3 : zI (zNw M κ n) (zN M) = (fun _ => 0) := up1_s _ _ _
  have e4 : zR (zNw M κ n) (zN M) = (fun _ => none) := up1_s _ _ _
  rw [zE_a e1 (by omega)]
  simp only [zar, e1, e2, e3, e4, if_neg (show ¬ κ = 23 by omega), if_neg (show ¬ κ = 24 by omega), if_neg (show ¬ 30 ≤ κ by omega)]
  rfl

theorem zar_newL {cy a : Nat → Nat} {M : ZM} {n : Nat} : zE cy a (zNw M 23 n) (zN M) = .inl (cy (zN M), n, .inr (.inl (fun _ => 0))) := by
  have e1 : zK (zNw M 23 n) (zN M) = 23 := up1_s _ _ _
  have e2 : zLn (zNw M 23 n) (zN M) = n := up1_s _ _ _
  have e3 : zI (zNw M 23 n) (zN M) = (fun _ => 0) := up1_s _ _ _
  have e4 : zR (zNw M 23 n) (zN M) = (fun _ => none) := up1_s _ _ _
  rw [zE_a e1 (by omega)]
  simp only [zar, e1, e2, e3, e4, if_true]
  rfl

theorem zar_newD {cy a : Nat → Nat} {M : ZM} {n : Nat} : zE cy a (zNw M 24 n) (zN M) = .inl (cy (zN M), n, .inr (.inr (.inr (.inl (fun _ => 0))))) := by
  have e1 : zK (zNw M 24 n) (zN M) = 24 := up1_s _ _ _
  have e2 : zLn (zNw M 24 n) (zN M) = n := up1_s _ _ _
  have e3 : zI (zNw M 24 n) (zN M) = (fun _ => 0) := up1_s _ _ _
  have e4 : zR (zNw M 24 n) (zN M) = (fun _ => none) := up1_s _ _ _
  rw [zE_a e1 (by omega)]
  simp only [zar, e1, e2, e3, e4, if_true, if_neg (show ¬ (24 : Nat) = 23 by decide)]
  rfl

theorem zar_newQ {cy a : Nat → Nat} {M : ZM} {κ n : Nat} (hκ : 30 ≤ κ) : zE cy a (zNw M κ n) (zN M) = .inl (cy (zN M), n, .inr (.inr (.inr (.inr (fun _ => none))))) := by
  have e1 : zK (zNw M κ n) (zN M) = κ := up1_s _ _ _
  have e2 : zLn (zNw M κ n) (zN M) = n := up1_s _ _ _
  have e3 : zI (zNw M κ n) (zN M) = (fun _ => 0) := up1_s _ _ _
  have e4 : zR (zNw M κ n) (zN M) = (fun _ => none) := up1_s _ _ _
  rw [zE_a e1 (by omega)]
  simp only [zar, e1, e2, e3, e4, if_neg (show ¬ κ = 23 by omega), if_neg (show ¬ κ = 24 by omega), if_pos hκ]
  rfl

theorem zs_newarray20 (X0 : zCtx p l R s m args meth c cc own Ts nL ret D A a0 M0 mc ms) (harr : Cond.arrayClass (newarray.typeOf .int) ∈ Ts) (d : decode cc pc = .ok (.newarray .int, 2)) : zSd p l e R s m args below meth c nL D A a0 M0 K KX mc ms pc (tNewA 20 (pc + 2)) := by
  obtain ⟨hx, hb, hml, hown, hts, hK, hF, hA, hlk, hrT, hst, hmc, hms, hcl0, hN0⟩ := X0
  intro Ψ hΨ L st M k n h h1 h2 h3 h4 h5 a cy H locs ls hE hO hS hl
  simp only [tNewA] at h
  split at h
  · next x r =>
    obtain ⟨⟨b1, b2, q1, q2⟩, h⟩ := h
    have hrg : zrg x := ⟨by omega, by omega⟩
    have hcl : (Int32.ofInt x).toNatClampNeg = x.toNat := Int32.toNatClampNeg_ofInt_of_le (by omega) (by omega)
    refine va_newa (D := D) (ws := zWs cy a M) (atype := .int) (ty := .int) (N' := x.toNat) (a0 := (x.toNat, .inl (fun _ => 0))) hx hb (hts _ harr) rfl hK hO.2.2.2.1 hO.2.2.2.2 hS hA (fun cA => rfl) (fun z => ?_) hcl ?_ (Nat.le_trans q1 hmc) (Nat.le_trans q2 hms) d (fun q cA H1 hK1 hP1 hD1 hS1 => ?_)
    · rw [show (0 : Int32) = Int32.ofInt 0 from rfl, z32_lt hrg zrg0] at z
      omega
    · have : componentBytes .int ≤ 8 := by decide
      have h10 : x.toNat * componentBytes .int ≤ 65536 * 8 := Nat.mul_le_mul (by omega) this
      omega
    have ha : ∀ j, j < zN M → up1 a (zN M) q j = a j := fun j hj => up1_n _ _ _ (by omega)
    have hc9 := hK1.2 0 (cA, .int) rfl
    have h9 := hΨ _ _ _ _ _ _ h q1 q2 h3 (h4.up (Nat.le_succ _)) ((h5.tl.up (Nat.le_succ _)).cons (zlv_o (Nat.lt_succ_self _))) (up1 a (zN M) q) (up1 cy (zN M) cA) H1 locs ls (hE.push hO.2.1) (hO.push (κ := 20) (n := x.toNat) (by omega) (fun _ => hc9) (by rw [zar_newI (by decide), up1_s]) hP1 hD1) hS1 (hl.up h4 ha)
    rw [List.map_cons, ztrS_up ha h5.tl] at h9
    rw [show ztr (up1 a (zN M) q) (zo (zN M)) = .ref q by simp [ztr, va_rf, up1]] at h9
    exact h9
  · exact h.elim

theorem zs_newarray21 (X0 : zCtx p l R s m args meth c cc own Ts nL ret D A a0 M0 mc ms) (harr : Cond.arrayClass (newarray.typeOf .byte) ∈ Ts) (d : decode cc pc = .ok (.newarray .byte, 2)) : zSd p l e R s m args below meth c nL D A a0 M0 K KX mc ms pc (tNewA 21 (pc + 2)) := by
  obtain ⟨hx, hb, hml, hown, hts, hK, hF, hA, hlk, hrT, hst, hmc, hms, hcl0, hN0⟩ := X0
  intro Ψ hΨ L st M k n h h1 h2 h3 h4 h5 a cy H locs ls hE hO hS hl
  simp only [tNewA] at h
  split at h
  · next x r =>
    obtain ⟨⟨b1, b2, q1, q2⟩, h⟩ := h
    have hrg : zrg x := ⟨by omega, by omega⟩
    have hcl : (Int32.ofInt x).toNatClampNeg = x.toNat := Int32.toNatClampNeg_ofInt_of_le (by omega) (by omega)
    refine va_newa (D := D) (ws := zWs cy a M) (atype := .byte) (ty := .byte) (N' := x.toNat) (a0 := (x.toNat, .inl (fun _ => 0))) hx hb (hts _ harr) rfl hK hO.2.2.2.1 hO.2.2.2.2 hS hA (fun cA => rfl) (fun z => ?_) hcl ?_ (Nat.le_trans q1 hmc) (Nat.le_trans q2 hms) d (fun q cA H1 hK1 hP1 hD1 hS1 => ?_)
    · rw [show (0 : Int32) = Int32.ofInt 0 from rfl, z32_lt hrg zrg0] at z
      omega
    · have : componentBytes .byte ≤ 8 := by decide
      have h10 : x.toNat * componentBytes .byte ≤ 65536 * 8 := Nat.mul_le_mul (by omega) this
      omega
    have ha : ∀ j, j < zN M → up1 a (zN M) q j = a j := fun j hj => up1_n _ _ _ (by omega)
    have hc9 := hK1.2 0 (cA, .byte) rfl
    have h9 := hΨ _ _ _ _ _ _ h q1 q2 h3 (h4.up (Nat.le_succ _)) ((h5.tl.up (Nat.le_succ _)).cons (zlv_o (Nat.lt_succ_self _))) (up1 a (zN M) q) (up1 cy (zN M) cA) H1 locs ls (hE.push hO.2.1) (hO.push (κ := 21) (n := x.toNat) (by omega) (fun _ => hc9) (by rw [zar_newI (by decide), up1_s]) hP1 hD1) hS1 (hl.up h4 ha)
    rw [List.map_cons, ztrS_up ha h5.tl] at h9
    rw [show ztr (up1 a (zN M) q) (zo (zN M)) = .ref q by simp [ztr, va_rf, up1]] at h9
    exact h9
  · exact h.elim

theorem zs_newarray22 (X0 : zCtx p l R s m args meth c cc own Ts nL ret D A a0 M0 mc ms) (harr : Cond.arrayClass (newarray.typeOf .boolean) ∈ Ts) (d : decode cc pc = .ok (.newarray .boolean, 2)) : zSd p l e R s m args below meth c nL D A a0 M0 K KX mc ms pc (tNewA 22 (pc + 2)) := by
  obtain ⟨hx, hb, hml, hown, hts, hK, hF, hA, hlk, hrT, hst, hmc, hms, hcl0, hN0⟩ := X0
  intro Ψ hΨ L st M k n h h1 h2 h3 h4 h5 a cy H locs ls hE hO hS hl
  simp only [tNewA] at h
  split at h
  · next x r =>
    obtain ⟨⟨b1, b2, q1, q2⟩, h⟩ := h
    have hrg : zrg x := ⟨by omega, by omega⟩
    have hcl : (Int32.ofInt x).toNatClampNeg = x.toNat := Int32.toNatClampNeg_ofInt_of_le (by omega) (by omega)
    refine va_newa (D := D) (ws := zWs cy a M) (atype := .boolean) (ty := .boolean) (N' := x.toNat) (a0 := (x.toNat, .inl (fun _ => 0))) hx hb (hts _ harr) rfl hK hO.2.2.2.1 hO.2.2.2.2 hS hA (fun cA => rfl) (fun z => ?_) hcl ?_ (Nat.le_trans q1 hmc) (Nat.le_trans q2 hms) d (fun q cA H1 hK1 hP1 hD1 hS1 => ?_)
    · rw [show (0 : Int32) = Int32.ofInt 0 from rfl, z32_lt hrg zrg0] at z
      omega
    · have : componentBytes .boolean ≤ 8 := by decide
      have h10 : x.toNat * componentBytes .boolean ≤ 65536 * 8 := Nat.mul_le_mul (by omega) this
      omega
    have ha : ∀ j, j < zN M → up1 a (zN M) q j = a j := fun j hj => up1_n _ _ _ (by omega)
    have hc9 := hK1.2 0 (cA, .boolean) rfl
    have h9 := hΨ _ _ _ _ _ _ h q1 q2 h3 (h4.up (Nat.le_succ _)) ((h5.tl.up (Nat.le_succ _)).cons (zlv_o (Nat.lt_succ_self _))) (up1 a (zN M) q) (up1 cy (zN M) cA) H1 locs ls (hE.push hO.2.1) (hO.push (κ := 22) (n := x.toNat) (by omega) (fun _ => hc9) (by rw [zar_newI (by decide), up1_s]) hP1 hD1) hS1 (hl.up h4 ha)
    rw [List.map_cons, ztrS_up ha h5.tl] at h9
    rw [show ztr (up1 a (zN M) q) (zo (zN M)) = .ref q by simp [ztr, va_rf, up1]] at h9
    exact h9
  · exact h.elim

theorem zs_newarray23 (X0 : zCtx p l R s m args meth c cc own Ts nL ret D A a0 M0 mc ms) (harr : Cond.arrayClass (newarray.typeOf .long) ∈ Ts) (d : decode cc pc = .ok (.newarray .long, 2)) : zSd p l e R s m args below meth c nL D A a0 M0 K KX mc ms pc (tNewA 23 (pc + 2)) := by
  obtain ⟨hx, hb, hml, hown, hts, hK, hF, hA, hlk, hrT, hst, hmc, hms, hcl0, hN0⟩ := X0
  intro Ψ hΨ L st M k n h h1 h2 h3 h4 h5 a cy H locs ls hE hO hS hl
  simp only [tNewA] at h
  split at h
  · next x r =>
    obtain ⟨⟨b1, b2, q1, q2⟩, h⟩ := h
    have hrg : zrg x := ⟨by omega, by omega⟩
    have hcl : (Int32.ofInt x).toNatClampNeg = x.toNat := Int32.toNatClampNeg_ofInt_of_le (by omega) (by omega)
    refine va_newa (D := D) (ws := zWs cy a M) (atype := .long) (ty := .long) (N' := x.toNat) (a0 := (x.toNat, .inr (.inl (fun _ => 0)))) hx hb (hts _ harr) rfl hK hO.2.2.2.1 hO.2.2.2.2 hS hA (fun cA => rfl) (fun z => ?_) hcl ?_ (Nat.le_trans q1 hmc) (Nat.le_trans q2 hms) d (fun q cA H1 hK1 hP1 hD1 hS1 => ?_)
    · rw [show (0 : Int32) = Int32.ofInt 0 from rfl, z32_lt hrg zrg0] at z
      omega
    · have : componentBytes .long ≤ 8 := by decide
      have h10 : x.toNat * componentBytes .long ≤ 65536 * 8 := Nat.mul_le_mul (by omega) this
      omega
    have ha : ∀ j, j < zN M → up1 a (zN M) q j = a j := fun j hj => up1_n _ _ _ (by omega)
    have hc9 := hK1.2 0 (cA, .long) rfl
    have h9 := hΨ _ _ _ _ _ _ h q1 q2 h3 (h4.up (Nat.le_succ _)) ((h5.tl.up (Nat.le_succ _)).cons (zlv_o (Nat.lt_succ_self _))) (up1 a (zN M) q) (up1 cy (zN M) cA) H1 locs ls (hE.push hO.2.1) (hO.push (κ := 23) (n := x.toNat) (by omega) (fun _ => hc9) (by rw [zar_newL, up1_s]) hP1 hD1) hS1 (hl.up h4 ha)
    rw [List.map_cons, ztrS_up ha h5.tl] at h9
    rw [show ztr (up1 a (zN M) q) (zo (zN M)) = .ref q by simp [ztr, va_rf, up1]] at h9
    exact h9
  · exact h.elim

theorem zs_newarray24 (X0 : zCtx p l R s m args meth c cc own Ts nL ret D A a0 M0 mc ms) (harr : Cond.arrayClass (newarray.typeOf .double) ∈ Ts) (d : decode cc pc = .ok (.newarray .double, 2)) : zSd p l e R s m args below meth c nL D A a0 M0 K KX mc ms pc (tNewA 24 (pc + 2)) := by
  obtain ⟨hx, hb, hml, hown, hts, hK, hF, hA, hlk, hrT, hst, hmc, hms, hcl0, hN0⟩ := X0
  intro Ψ hΨ L st M k n h h1 h2 h3 h4 h5 a cy H locs ls hE hO hS hl
  simp only [tNewA] at h
  split at h
  · next x r =>
    obtain ⟨⟨b1, b2, q1, q2⟩, h⟩ := h
    have hrg : zrg x := ⟨by omega, by omega⟩
    have hcl : (Int32.ofInt x).toNatClampNeg = x.toNat := Int32.toNatClampNeg_ofInt_of_le (by omega) (by omega)
    refine va_newa (D := D) (ws := zWs cy a M) (atype := .double) (ty := .double) (N' := x.toNat) (a0 := (x.toNat, .inr (.inr (.inr (.inl (fun _ => 0)))))) hx hb (hts _ harr) rfl hK hO.2.2.2.1 hO.2.2.2.2 hS hA (fun cA => rfl) (fun z => ?_) hcl ?_ (Nat.le_trans q1 hmc) (Nat.le_trans q2 hms) d (fun q cA H1 hK1 hP1 hD1 hS1 => ?_)
    · rw [show (0 : Int32) = Int32.ofInt 0 from rfl, z32_lt hrg zrg0] at z
      omega
    · have : componentBytes .double ≤ 8 := by decide
      have h10 : x.toNat * componentBytes .double ≤ 65536 * 8 := Nat.mul_le_mul (by omega) this
      omega
    have ha : ∀ j, j < zN M → up1 a (zN M) q j = a j := fun j hj => up1_n _ _ _ (by omega)
    have hc9 := hK1.2 0 (cA, .double) rfl
    have h9 := hΨ _ _ _ _ _ _ h q1 q2 h3 (h4.up (Nat.le_succ _)) ((h5.tl.up (Nat.le_succ _)).cons (zlv_o (Nat.lt_succ_self _))) (up1 a (zN M) q) (up1 cy (zN M) cA) H1 locs ls (hE.push hO.2.1) (hO.push (κ := 24) (n := x.toNat) (by omega) (fun _ => hc9) (by rw [zar_newD, up1_s]) hP1 hD1) hS1 (hl.up h4 ha)
    rw [List.map_cons, ztrS_up ha h5.tl] at h9
    rw [show ztr (up1 a (zN M) q) (zo (zN M)) = .ref q by simp [ztr, va_rf, up1]] at h9
    exact h9
  · exact h.elim

theorem zs_anewarray (X0 : zCtx p l R s m args meth c cc own Ts nL ret D A a0 M0 mc ms) {κ idx : Nat} {C : String} (hκ : 30 ≤ κ) (hC : ztyK κ = .object C) (hcl2 : Cond.classLink own idx C ∈ Ts) (hover : Cond.arrayOver (.object C) ∈ zXW) (d : decode cc pc = .ok (.anewarray idx, 3)) : zSd p l e R s m args below meth c nL D A a0 M0 K KX mc ms pc (tNewA κ (pc + 3)) := by
  obtain ⟨hx, hb, hml, hown, hts, hK, hF, hA, hlk, hrT, hst, hmc, hms, hcl0, hN0⟩ := X0
  intro Ψ hΨ L st M k n h h1 h2 h3 h4 h5 a cy H locs ls hE hO hS hl
  simp only [tNewA] at h
  split at h
  · next x r =>
    obtain ⟨⟨b1, b2, q1, q2⟩, h⟩ := h
    have hrg : zrg x := ⟨by omega, by omega⟩
    have hcl : (Int32.ofInt x).toNatClampNeg = x.toNat := Int32.toNatClampNeg_ofInt_of_le (by omega) (by omega)
    refine va_newq (D := D) (ws := zWs cy a M) (C := C) (N' := x.toNat) hx hb hown (hts _ hcl2) (hF.2.2.2.2.2.1 _ hover) hK hO.2.2.2.1 hO.2.2.2.2 hS hA (fun z => ?_) hcl (by omega) (Nat.le_trans q1 hmc) (Nat.le_trans q2 hms) d (fun q cA H1 hK1 hP1 hD1 hS1 => ?_)
    · rw [show (0 : Int32) = Int32.ofInt 0 from rfl, z32_lt hrg zrg0] at z
      omega
    have ha : ∀ j, j < zN M → up1 a (zN M) q j = a j := fun j hj => up1_n _ _ _ (by omega)
    have hc9 := hK1.2 0 (cA, .object C) rfl
    have h9 := hΨ _ _ _ _ _ _ h q1 q2 h3 (h4.up (Nat.le_succ _)) ((h5.tl.up (Nat.le_succ _)).cons (zlv_o (Nat.lt_succ_self _))) (up1 a (zN M) q) (up1 cy (zN M) cA) H1 locs ls (hE.push hO.2.1) (hO.push (κ := κ) (n := x.toNat) (by omega) (fun _ => by rw [hC]; exact hc9) (by rw [zar_newQ hκ, up1_s]) hP1 hD1) hS1 (hl.up h4 ha)
    rw [List.map_cons, ztrS_up ha h5.tl] at h9
    rw [show ztr (up1 a (zN M) q) (zo (zN M)) = .ref q by simp [ztr, va_rf, up1]] at h9
    exact h9
  · exact h.elim

def tObj (nx : Nat) : ZTr := fun Φ _ _ _ _ L st M k n => match st with | .inr (.inl (some j)) :: r => (r.map zcat).sum ≤ 8 ∧ Φ nx L r M k n | _ => False

theorem zcat_sum (a : Nat → Nat) (r : List ZV) : ((r.map (ztr a)).map (fun v => v.category)).sum = (r.map zcat).sum := by
  rw [List.map_map]
  congr 1
  exact List.map_congr_left (fun v _ => zcat_ok a v)
theorem zF0_room (m : MethodId) (pc : Nat) (ls : Array Slot) (st : List Value) : (F0 m pc ls st).monitorRoom = 0 := rfl

theorem zs_objinit (X0 : zCtx p l R s m args meth c cc own Ts nL ret D A a0 M0 mc ms) {idx : Nat} (hl9 : Cond.methodLink own idx Lib.objectInit ∈ Ts) (hi9 : Cond.instanceMethod Lib.objectInit ∈ Ts) (hc9 : Cond.code Lib.objectInit ⟨#[0xb1]⟩ 1 none ∈ Ts) (hf9 : 1 ≤ R.frames) (hlo : 20 ≤ R.locals) (d : decode cc pc = .ok (.invokespecial idx, 3)) : zSd p l e R s m args below meth c nL D A a0 M0 K KX mc ms pc (tObj (pc + 3)) := by
  obtain ⟨hx, hb, hml, hown, hts, hK, hF, hA, hlk, hrT, hst, hmc, hms, hcl0, hN0⟩ := X0
  intro Ψ hΨ L st M k n h h1 h2 h3 h4 h5 a cy H locs ls hE hO hS hl
  simp only [tObj] at h
  split at h
  · next j r =>
    have h9 := hΨ _ _ _ _ _ _ h.2 h1 h2 h3 h4 h5.tl a cy H locs ls hE hO hS hl
    refine W.objInit (rest := r.map (ztr a)) hx hb hown (hts _ hl9) (hts _ hi9) (hts _ hc9) rfl ((hl.1.trans h3).trans hml.symm) rfl d hf9 ?_ (W.eq rfl h9)
    rw [zF0_room, zcat_sum]
    have := h.1
    omega
  · exact h.elim

def tRi (P : Int → Prop) : ZTr := fun _ K _ _ _ _ st M _ _ => match st with | [.inl x] => P x ∧ K (some (zi x)) M | _ => False

theorem zs_iret (X0 : zCtx p l R s m args meth c cc own Ts nL ret D A a0 M0 mc ms) (hret : ret = some .int) (d : decode cc pc = .ok (.ireturn, 1)) : zSd p l e R s m args below meth c nL D A a0 M0 K KX mc ms pc (tRi (fun _ => True)) := by
  obtain ⟨hx, hb, hml, hown, hts, hK, hF, hA, hlk, hrT, hst, hmc, hms, hcl0, hN0⟩ := X0
  intro Ψ hΨ L st M k n h h1 h2 h3 h4 h5 a cy H locs ls hE hO hS hl
  simp only [tRi] at h
  split at h
  · next x =>
    obtain ⟨-, h⟩ := h
    refine W.widen (k := mc) (n := ms) h1 h2 (vx_ret ?_)
    exact W.iret (v := Int32.ofInt x) hx hb (hrT.trans hret) (fun t ht hW => ⟨some (zi x), a, cy, M, rfl, h, hE, (fun v hv => by cases hv; exact zlv_i _ _ h5.hd.rg), ⟨hO.1, hO.2.1, hO.2.2.1.moved hW.alike, by rw [ht]; exact hO.2.2.2.1, hO.2.2.2.2⟩, hS.F ht⟩) hS.2.2 d hlk
  · exact h.elim

theorem zs_zret (X0 : zCtx p l R s m args meth c cc own Ts nL ret D A a0 M0 mc ms) {ty : FieldType} {P : Int → Prop} (hret : ret = some ty) (hP : ∀ x, P x → narrow ty (.int (Int32.ofInt x)) = .int (Int32.ofInt x)) (d : decode cc pc = .ok (.ireturn, 1)) : zSd p l e R s m args below meth c nL D A a0 M0 K KX mc ms pc (tRi P) := by
  obtain ⟨hx, hb, hml, hown, hts, hK, hF, hA, hlk, hrT, hst, hmc, hms, hcl0, hN0⟩ := X0
  intro Ψ hΨ L st M k n h h1 h2 h3 h4 h5 a cy H locs ls hE hO hS hl
  simp only [tRi] at h
  split at h
  · next x =>
    obtain ⟨hp, h⟩ := h
    refine W.widen (k := mc) (n := ms) h1 h2 (vx_ret ?_)
    exact W.zret (v := Int32.ofInt x) hx hb (hrT.trans hret) (hP x hp) (fun t ht hW => ⟨some (zi x), a, cy, M, rfl, h, hE, (fun v hv => by cases hv; exact zlv_i _ _ h5.hd.rg), ⟨hO.1, hO.2.1, hO.2.2.1.moved hW.alike, by rw [ht]; exact hO.2.2.2.1, hO.2.2.2.2⟩, hS.F ht⟩) hS.2.2 d hlk
  · exact h.elim

def tRv : ZTr := fun _ K _ _ _ _ st M _ _ => match st with | [] => K none M | _ => False

theorem zs_vret (X0 : zCtx p l R s m args meth c cc own Ts nL ret D A a0 M0 mc ms) (hret : ret = none) (d : decode cc pc = .ok (.return_, 1)) : zSd p l e R s m args below meth c nL D A a0 M0 K KX mc ms pc (tRv) := by
  obtain ⟨hx, hb, hml, hown, hts, hK, hF, hA, hlk, hrT, hst, hmc, hms, hcl0, hN0⟩ := X0
  intro Ψ hΨ L st M k n h h1 h2 h3 h4 h5 a cy H locs ls hE hO hS hl
  simp only [tRv] at h
  split at h
  · refine W.widen (k := mc) (n := ms) h1 h2 (vx_ret ?_)
    exact W.vret hx hb (hrT.trans hret) (fun t ht hW => ⟨none, a, cy, M, rfl, h, hE, (fun v hv => by cases hv), ⟨hO.1, hO.2.1, hO.2.2.1.moved hW.alike, by rw [ht]; exact hO.2.2.2.1, hO.2.2.2.2⟩, hS.F ht⟩) hS.2.2 d hlk
  · exact h.elim

def tRa : ZTr := fun _ K _ _ _ _ st M _ _ => match st with | [.inr (.inl x)] => K (some (zr x)) M | _ => False

theorem zs_aret (X0 : zCtx p l R s m args meth c cc own Ts nL ret D A a0 M0 mc ms) {rt : FieldType} (hret : ret = some rt) (hrt : (∃ n, rt = .object n) ∨ ∃ t, rt = .array t) (d : decode cc pc = .ok (.areturn, 1)) : zSd p l e R s m args below meth c nL D A a0 M0 K KX mc ms pc (tRa) := by
  obtain ⟨hx, hb, hml, hown, hts, hK, hF, hA, hlk, hrT, hst, hmc, hms, hcl0, hN0⟩ := X0
  intro Ψ hΨ L st M k n h h1 h2 h3 h4 h5 a cy H locs ls hE hO hS hl
  simp only [tRa] at h
  split at h
  · next x =>
    refine W.widen (k := mc) (n := ms) h1 h2 (vx_ret ?_)
    have hlv : zlv (zN M) (zr x) := h5.hd
    exact W.aret (v := va_rf (x.map a)) hx hb (hrT.trans hret) hrt (by cases x with
      | none => exact Or.inl rfl
      | some x => exact Or.inr ⟨a x, rfl⟩) (fun t ht hW => ⟨some (zr x), a, cy, M, rfl, h, hE, (fun v hv => by cases hv; exact hlv), ⟨hO.1, hO.2.1, hO.2.2.1.moved hW.alike, by rw [ht]; exact hO.2.2.2.1, hO.2.2.2.2⟩, hS.F ht⟩) hS.2.2 d hlk
  · exact h.elim

def tRf : ZTr := fun _ K _ _ _ _ st M _ _ => match st with | [.inr (.inr (.inr (.inl x)))] => K (some (zf x)) M | _ => False

theorem zs_fret (X0 : zCtx p l R s m args meth c cc own Ts nL ret D A a0 M0 mc ms) (hret : ret = some .float) (d : decode cc pc = .ok (.freturn, 1)) : zSd p l e R s m args below meth c nL D A a0 M0 K KX mc ms pc (tRf) := by
  obtain ⟨hx, hb, hml, hown, hts, hK, hF, hA, hlk, hrT, hst, hmc, hms, hcl0, hN0⟩ := X0
  intro Ψ hΨ L st M k n h h1 h2 h3 h4 h5 a cy H locs ls hE hO hS hl
  simp only [tRf] at h
  split at h
  · next x =>
    refine W.widen (k := mc) (n := ms) h1 h2 (vx_ret ?_)
    exact W.fret (v := x) hx hb (hrT.trans hret) (fun t ht hW => ⟨some (zf x), a, cy, M, rfl, h, hE, (fun v hv => by cases hv; exact zlv_f _ _), ⟨hO.1, hO.2.1, hO.2.2.1.moved hW.alike, by rw [ht]; exact hO.2.2.2.1, hO.2.2.2.2⟩, hS.F ht⟩) hS.2.2 d hlk
  · exact h.elim

def tRd : ZTr := fun _ K _ _ _ _ st M _ _ => match st with | [.inr (.inr (.inr (.inr x)))] => K (some (zd x)) M | _ => False

theorem zs_dret (X0 : zCtx p l R s m args meth c cc own Ts nL ret D A a0 M0 mc ms) (hret : ret = some .double) (d : decode cc pc = .ok (.dreturn, 1)) : zSd p l e R s m args below meth c nL D A a0 M0 K KX mc ms pc (tRd) := by
  obtain ⟨hx, hb, hml, hown, hts, hK, hF, hA, hlk, hrT, hst, hmc, hms, hcl0, hN0⟩ := X0
  intro Ψ hΨ L st M k n h h1 h2 h3 h4 h5 a cy H locs ls hE hO hS hl
  simp only [tRd] at h
  split at h
  · next x =>
    refine W.widen (k := mc) (n := ms) h1 h2 (vx_ret ?_)
    exact W.dret (v := x) hx hb (hrT.trans hret) (fun t ht hW => ⟨some (zd x), a, cy, M, rfl, h, hE, (fun v hv => by cases hv; exact zlv_d _ _), ⟨hO.1, hO.2.1, hO.2.2.1.moved hW.alike, by rw [ht]; exact hO.2.2.2.1, hO.2.2.2.2⟩, hS.F ht⟩) hS.2.2 d hlk
  · exact h.elim

theorem zs_gets (X0 : zCtx p l R s m args meth c cc own Ts nL ret D A a0 M0 mc ms) {idx : Nat} {C n1 d1 : String} {v : ZV} (hq : (C, n1, d1, v) ∈ zST) (hlink : Cond.fieldLink own idx C n1 d1 ∈ Ts) (d : decode cc pc = .ok (.getstatic idx, 3)) : zSd p l e R s m args below meth c nL D A a0 M0 K KX mc ms pc (tC v (pc + 3)) := by
  obtain ⟨hx, hb, hml, hown, hts, hK, hF, hA, hlk, hrT, hst, hmc, hms, hcl0, hN0⟩ := X0
  intro Ψ hΨ L st M k n h h1 h2 h3 h4 h5 a cy H locs ls hE hO hS hl
  have hz := (hF.congr hE hcl0 hN0).2.1 _ hq
  exact va_gets hx hb hz hS hown (hts _ hlink) (fun _ h9 => h9) d (hΨ _ _ _ _ _ _ h h1 h2 h3 h4 (h5.cons ((zST_rg _ hq).up hO.2.1)) a cy H locs ls hE hO hS hl)
theorem z_ldcSw {p : Program} {l : Launch} {e : Env} {R : Room} {s : State} {m : MethodId} {args : Array Value} {below : List Frame} {meth : Method} {c : Code} {H : Heap} {locs : List Loc} {cells slots : Nat} {Q : State → Prop} {cc : ByteArray} {pc : Nat} {ls : Array Slot} {rest : List Value} (hexec : p.tables.exec = Jvm.exec) (hb : c.code = cc) {own tx : String} {index q : Nat} (hown : s.vm.findClass own = some m.cls) (hZ : vk_R own index tx q s) (hdg : decode cc pc = .ok (.ldc_w index, 3))
    (k : W p l e R s m args below meth c H locs cells slots Q (F0 m (pc + 3) ls (.ref q :: rest))) : W p l e R s m args below meth c H locs cells slots Q (F0 m pc ls rest) := by
  intro T hT X
  obtain ⟨t, a1, b1⟩ := k T hT X
  exact ⟨t, X.ldcStringW hexec hown (text := tx) (a := q) hZ.1 hZ.2 (g := F0 m pc ls rest) rfl (by rw [hb]; exact hdg) t a1, b1⟩

theorem zs_ldcs (X0 : zCtx p l R s m args meth c cc own Ts nL ret D A a0 M0 mc ms) {idx j : Nat} {tx : String} (hq : (own, idx, tx, some j) ∈ zLS) (d : decode cc pc = .ok (.ldc idx, 2)) : zSd p l e R s m args below meth c nL D A a0 M0 K KX mc ms pc (tC (zo j) (pc + 2)) := by
  obtain ⟨hx, hb, hml, hown, hts, hK, hF, hA, hlk, hrT, hst, hmc, hms, hcl0, hN0⟩ := X0
  intro Ψ hΨ L st M k n h h1 h2 h3 h4 h5 a cy H locs ls hE hO hS hl
  obtain ⟨a9, q1, q2⟩ := (hF.congr hE hcl0 hN0).2.2.2.2.1 _ hq
  have e9 : a9 = a j := q2 j rfl
  subst e9
  exact va_ldcS hx hb hown q1 d (hΨ _ _ _ _ _ _ h h1 h2 h3 h4 (h5.cons (zlv_o (Nat.lt_of_lt_of_le (zLS_lv _ hq j rfl) hO.2.1))) a cy H locs ls hE hO hS hl)

theorem zs_ldcsw (X0 : zCtx p l R s m args meth c cc own Ts nL ret D A a0 M0 mc ms) {idx j : Nat} {tx : String} (hq : (own, idx, tx, some j) ∈ zLS) (d : decode cc pc = .ok (.ldc_w idx, 3)) : zSd p l e R s m args below meth c nL D A a0 M0 K KX mc ms pc (tC (zo j) (pc + 3)) := by
  obtain ⟨hx, hb, hml, hown, hts, hK, hF, hA, hlk, hrT, hst, hmc, hms, hcl0, hN0⟩ := X0
  intro Ψ hΨ L st M k n h h1 h2 h3 h4 h5 a cy H locs ls hE hO hS hl
  obtain ⟨a9, q1, q2⟩ := (hF.congr hE hcl0 hN0).2.2.2.2.1 _ hq
  have e9 : a9 = a j := q2 j rfl
  subst e9
  exact z_ldcSw hx hb hown q1 d (hΨ _ _ _ _ _ _ h h1 h2 h3 h4 (h5.cons (zlv_o (Nat.lt_of_lt_of_le (zLS_lv _ hq j rfl) hO.2.1))) a cy H locs ls hE hO hS hl)

def tSio (nx : Nat) : ZTr := fun Φ _ _ _ _ L st M k n => ∀ r : Option Nat, (r = none ∨ r = some 61) → Φ nx L (zr r :: st) M k n

theorem zs_sio (X0 : zCtx p l R s m args meth c cc own Ts nL ret D A a0 M0 mc ms) {idx : Nat} (hlink : Cond.fieldLink own idx "jdk/internal/util/Preconditions" "SIOOBE_FORMATTER" "Ljava/util/function/BiFunction;" ∈ Ts) (d : decode cc pc = .ok (.getstatic idx, 3)) : zSd p l e R s m args below meth c nL D A a0 M0 K KX mc ms pc (tSio (pc + 3)) := by
  obtain ⟨hx, hb, hml, hown, hts, hK, hF, hA, hlk, hrT, hst, hmc, hms, hcl0, hN0⟩ := X0
  intro Ψ hΨ L st M k n h h1 h2 h3 h4 h5 a cy H locs ls hE hO hS hl
  obtain ⟨r, hr9, hz⟩ := (hF.congr hE hcl0 hN0).2.2.2.2.2.2
  exact va_gets hx hb hz hS hown (hts _ hlink) (fun _ h9 => h9) d (hΨ _ _ _ _ _ _ (h r hr9) h1 h2 h3 h4 (h5.cons (zlv_r (fun x e9 => Nat.lt_of_lt_of_le (show x < zCC by rcases hr9 with rfl | rfl <;> cases e9; decide) hO.2.1))) a cy H locs ls hE hO hS hl)

theorem zPc_of {s : State} {D : va_G} {A : Nat → Prop} {a0 a cy : Nat → Nat} {M0 M : ZM} {H : Heap} {locs : List Loc} {av : List ZV} (hK : va_K D vwCl [] s) (hF : zCF a0 M0 A s s.heap) (hA : ∀ q, s.heap.size ≤ q → A q) (hcl0 : zcl M0) (hN0 : zCC ≤ zN M0) (hE : zEx a0 M0 a M) (hO : zOK D cy a M A s H) (hS : va_S A s.heap H locs) (hav : zlvS (zN M) av) : ∀ U : State, U.heap = H → s.WarmedH U.vm → zPc D a M av H.size (av.map (ztr a)).toArray U := by
  intro U hU hW
  subst hU
  refine ⟨rfl, rfl, hav, va_K.moved hW.alike hK, ⟨cy, hO.1, hO.2.1, hO.2.2.1.moved hW.alike, hO.2.2.2.1, hO.2.2.2.2.weaken (fun _ _ _ _ => trivial)⟩, ?_⟩
  exact ((hF.congr hE hcl0 hN0).to hW.alike (fun _ _ _ _ q => vk_R.warm hW q) (zXW_warm hW) hS.2.1 (zA_sub hO.2.2.2.2 hS hA))
/-- behind a call -/
theorem z_called {p : Program} {l : Launch} {e : Env} {R : Room} {s : State} {m : MethodId} {args : Array Value} {below : List Frame} {meth : Method} {c : Code} {H : Heap} {locs : List Loc} {cells slots mc ms pc : Nat} {Q : State → Prop} {ls : Array Slot} {rest st0 : List Value} {a9 : Array Value} {D : va_G} {A : Nat → Prop} {a : Nat → Nat} {M : ZM} {K : ZRet} {KX : ZEx}
    (hr : vx_Run p l e R s m args below meth c H locs cells slots mc ms (F0 m pc ls st0) rest (zQc D a M (zA a M H.size) K a9) (zXC D a M (zA a M H.size) KX) (zA a M H.size)) (hS : va_S A s.heap H locs) (hf : ∀ q, zA a M H.size q → A q)
    (kx : ∀ (E : String) (ce : Cell) (q9 : Addr) (H1 : Heap) (locs1 : List Loc) (k9 : Nat) (a' cy' : Nat → Nat) (M' : ZM), zXs[k9]? = some E → KX k9 M' → zEx a M a' M' → zOK D cy' a' M' A s H1 → va_S A s.heap H1 locs1 → H1[q9]? = some ce → ce.vm = .none → s.vm.findClass E = some ce.cls → vx_W p l e R s m args below meth c H1 locs1 (cells + mc) (slots + ms) Q (F0 m pc ls rest) q9)
    (kk : ∀ (r : Option ZV) (a' cy' : Nat → Nat) (M' : ZM) (H1 : Heap) (locs1 : List Loc), K r M' → zEx a M a' M' → (∀ v, r = some v → zlv (zN M') v) → zOK D cy' a' M' A s H1 → va_S A s.heap H1 locs1 → W p l e R s m args below meth c H1 locs1 (cells + mc) (slots + ms) Q (F0 m (pc + 3) ls ((r.map (ztr a')).toList ++ rest))) : W p l e R s m args below meth c H locs cells slots Q (F0 m pc ls st0) := by
  intro T hT X
  rcases hr T hT X with ⟨v, st₀, t, T', L, h0, X', hL, e1, e2, ⟨r, a', cy', M', hv, hk, hE, hlv, hO, hF⟩, st⟩ | ⟨q, st₀, t, T', L, E, ce, h0, X', hL, e1, e2, ⟨k9, a', cy', M', hE9, hkx, hE, hO, hF⟩, hce, hcv, hcl, st⟩
  · cases hv
    obtain ⟨k1, k2, k3⟩ := vx_keep h0 e1 hS (fun q _ h => hf q h) hf hL hF
    have hal : s.vm.Alike t.vm := by rw [← e2]; exact X'.warmed.alike
    have hO' : zOK D cy' a' M' A s T'.heap := ⟨hO.1, hO.2.1, hO.2.2.1.moved hal.symm, by rw [e1]; exact hO.2.2.2.1, hO.2.2.2.2.weaken (fun _ q _ h => hf q.1 h)⟩
    obtain ⟨t2, a1, b1⟩ := kk r a' cy' M' T'.heap (locs ++ L) hk hE hlv hO' k3 T' rfl X'
    exact ⟨t2, st t2 a1, b1⟩
  · obtain ⟨k1, k2, k3⟩ := vx_keep h0 e1 hS (fun q _ h => hf q h) hf hL hF
    have hal : s.vm.Alike t.vm := by rw [← e2]; exact X'.warmed.alike
    have hO' : zOK D cy' a' M' A s T'.heap := ⟨hO.1, hO.2.1, hO.2.2.1.moved hal.symm, by rw [e1]; exact hO.2.2.2.1, hO.2.2.2.2.weaken (fun _ q _ h => hf q.1 h)⟩
    obtain ⟨t2, a1, b1⟩ := kx E ce q T'.heap (locs ++ L) k9 a' cy' M' hE9 hkx hE hO' k3 (by rw [e1]; exact hce) hcv hcl T' rfl X'
    exact ⟨t2, st.trans a1, b1⟩
/-- a run of a method that doesn't throw, seen as one that might -/
theorem z_run0 {p : Program} {l : Launch} {e : Env} {R : Room} {s : State} {m : MethodId} {args : Array Value} {below : List Frame} {meth : Method} {c : Code} {H : Heap} {locs : List Loc} {cells slots mc ms : Nat} {g : JFrame} {rest : List Value} {Qa : State → Outcome → State → Prop} {XC : String → State → State → Prop} {free : Addr → Prop}
    (h : va_Run p l e R s m args below meth c H locs cells slots mc ms g rest Qa free) : vx_Run p l e R s m args below meth c H locs cells slots mc ms g rest Qa XC free := fun T hT X => Or.inl (h T hT X)
theorem z_met0 {l : Launch} {y : MethodName} {ws : List Cond} {rm : Room} {Pc : Array Value → State → Prop} {Qc : Array Value → State → Outcome → State → Prop} {XC : String → State → State → Prop} {mc ms : Nat} {free : Addr → Prop} (h : vx_Met l y ws rm Pc Qc XC mc ms free) (h0 : ∀ E st t, ¬ XC E st t) : Met l y ws rm Pc Qc mc ms free := by
  intro p e h1 h2 h3 s m args below h4 h5 h6 h7
  obtain ⟨n, o, q1, q2, q3, q4⟩ := h p e h1 h2 h3 s m args below h4 h5 h6 h7
  refine ⟨n, o, q1, q2, q3, ?_⟩
  rcases q4 with q4 | ⟨q, -, E, ce, L, hx, -⟩
  · exact q4
  · exact absurd hx (h0 _ _ _)
theorem zXC_no {D : va_G} {a0 : Nat → Nat} {M0 : ZM} {A : Nat → Prop} : ∀ E st t, ¬ zXC D a0 M0 A (fun _ _ => False) E st t := fun _ _ _ ⟨_, _, _, _, _, h, _⟩ => h

/-- a call of a method with q arguments (the receiver among them); what it makes counts -/
def tCall (q mc9 ms9 : Nat) (T : ZTf) (P : List ZV → ZM → Prop) (nx : Nat) : ZTr := fun Φ _ KX mc ms L st M k n => (k + mc9 ≤ mc ∧ n + ms9 ≤ ms) ∧ ((Nat.ble q st.length = true ∧ Nat.ble ((st.drop q).map zcat).sum 8 = true) ∧ P (st.take q).reverse M) ∧ T (st.take q).reverse M (fun r M' => zrgR r → zrgM M' → Φ nx L (r.toList ++ st.drop q) M' (k + mc9) (n + ms9)) KX

/-- .. of one that makes nothing -/
def tCall0 (q : Nat) (T : ZTf) (P : List ZV → ZM → Prop) (nx : Nat) : ZTr := fun Φ _ KX mc ms L st M k n => ((Nat.ble q st.length = true ∧ Nat.ble ((st.drop q).map zcat).sum 8 = true) ∧ P (st.take q).reverse M) ∧ T (st.take q).reverse M (fun r M' => zrgR r → zrgM M' → Φ nx L (r.toList ++ st.drop q) M' k n) KX

def zRcv (ci : Nat) (av : List ZV) (M : ZM) : Prop := match av with | .inr (.inl (some j)) :: _ => zO M j ci ∧ (zCC ≤ j ∨ ci = 0) | _ => False

def zAny (_ : List ZV) (_ : ZM) : Prop := True

theorem z_split {q : Nat} {st : List ZV} (h : Nat.ble q st.length = true) (a : Nat → Nat) : st.map (ztr a) = (((st.take q).reverse.map (ztr a))).reverse ++ (st.drop q).map (ztr a) := by
  rw [List.map_reverse, List.reverse_reverse, ← List.map_append, List.take_append_drop]
theorem z_take {q : Nat} {st : List ZV} (h : Nat.ble q st.length = true) (a : Nat → Nat) : ((st.take q).reverse.map (ztr a)).length = q := by
  have := Nat.le_of_ble_eq_true h
  simp [List.length_take, Nat.min_eq_left this]
theorem z_lvt {q n : Nat} {st : List ZV} (h : zlvS n st) : zlvS n (st.take q).reverse ∧ zlvS n (st.drop q) := ⟨fun v hv => h v (List.mem_of_mem_take (List.mem_reverse.mp hv)), fun v hv => h v (List.mem_of_mem_drop hv)⟩
theorem z_recv {s : State} {D : va_G} {A : Nat → Prop} {cy a : Nat → Nat} {M : ZM} {H : Heap} {locs : List Loc} {ci N j : Nat} {C : String} {T : u_T} (hcl : zcl2 ci C T N) (hK : va_K D vwCl [] s) (hF : zCF a M A s s.heap) (hO : zOK D cy a M A s H) (hS : va_S A s.heap H locs) (h : zO M j ci ∧ (zCC ≤ j ∨ ci = 0)) : ∃ cellB : Cell, H[a j]? = some cellB ∧ cellB.vm.isStatics = false ∧ s.vm.findClass C = some cellB.cls := by
  obtain ⟨⟨e1, g2⟩, h⟩ := h
  by_cases g1 : zCC ≤ j
  · exact va_recv hK hO.2.2.2.1 hcl.1 ((zWs_get g1 g2).trans (by rw [zE_o e1 hcl.2]))
  · have h0 : ci = 0 := h.resolve_left g1
    subst h0
    have hC : C = "java/lang/String" := by have := hcl.1; cases this; rfl
    subst hC
    obtain ⟨cell, q1, q2, q3, -⟩ := (hF.1.1 j (by omega) e1).1.kept hS.2.1
    exact ⟨cell, q1, q2, q3⟩

theorem zs_callS0 (X0 : zCtx p l R s m args meth c cc own Ts nL ret D A a0 M0 mc ms) {q idx maxL : Nat} {y : MethodName} {bytes : ByteArray} {rt : Option FieldType} {ws : List Cond} {rm : Room} {T9 : ZTf} (hcw : s.vm.findClass own = some m.cls → (∀ w ∈ Ts, w.before args s = true) → CallB R s args own idx y bytes maxL rt ws rm 0 0 q ∧ (Cond.static y).before args s = true) (hM : zMet l y ws rm 0 0 T9) (hout : ∀ x ∈ c.exceptionTable.toList, False) (d : decode cc pc = .ok (.invokestatic idx, 3)) : zSd p l e R s m args below meth c nL D A a0 M0 K KX mc ms pc (tCall0 q T9 zAny (pc + 3)) := by
  obtain ⟨hx, hb, hml, hown, hts, hK, hF, hA, hlk, hrT, hst, hmc, hms, hcl0, hN0⟩ := X0
  intro Ψ hΨ L st M k n h h1 h2 h3 h4 h5 a cy H locs ls hE hO hS hl
  obtain ⟨⟨⟨b1, b2⟩, hP⟩, hT⟩ := h
  have q1 : k + 0 ≤ mc := h1
  have q2 : n + 0 ≤ ms := h2
  obtain ⟨lv1, lv2⟩ := z_lvt (q := q) h5
  have hFc := zA_sub hO.2.2.2.2 hS hA
  have hcf := hF.congr hE hcl0 hN0
  have hpc := zPc_of (av := (st.take q).reverse) hK hF hA hcl0 hN0 hE hO hS lv1
  have hrm : 2 * (F0 m pc ls (st.map (ztr a))).monitorRoom + (((st.drop q).map (ztr a)).map fun v => v.category).sum ≤ 8 := by
    rw [zF0_room, zcat_sum]
    have := Nat.le_of_ble_eq_true b2
    omega
  have hrun := vx_runS (e := e) (below := below) (meth := meth) (locs := locs) (As := (st.take q).reverse.map (ztr a)) (rest := (st.drop q).map (ztr a)) (g := F0 m pc ls (st.map (ztr a))) ⟨hx, hb, hml, hown, hts⟩ (hM D a M _ _ _ hT H.size) (hcw hown hts) ⟨zPc_blind, hpc⟩ rfl (z_take b1 a) (hl.1.trans h3) (z_split b1 a) hrm d ⟨Nat.le_trans q1 hmc, Nat.le_trans q2 hms⟩
  refine z_called hrun hS hFc (fun E ce q9 H1 locs1 k9 a' cy' M' hE9 hkx hE' hO' hS' hce hcv hcl' => ?_) (fun r a' cy' M' H1 locs1 hk hE' hlv hO' hS' => ?_)
  · refine vx_out (fun x hx9 => absurd hx9 (fun z => hout x z)) hlk hce hcv hcl' (fun t ht hal => ⟨k9, a', cy', M', hE9, hkx, hE.trans hE', ⟨hO'.1, hO'.2.1, hO'.2.2.1.moved hal, by rw [ht]; exact hO'.2.2.2.1, hO'.2.2.2.2⟩, hS'.F ht⟩) hS'.2.2 q1 q2
  · have h9 := hΨ _ _ (r.toList ++ st.drop q) _ _ _ (hk (zrgR_of hlv) hO'.1.2) q1 q2 h3 (h4.up hE'.1) (fun v hv => by
      rcases List.mem_append.mp hv with hv | hv
      · cases r with
        | none => cases hv
        | some w =>
          have : v = w := by simpa using hv
          subst this
          exact hlv v rfl
      · exact (lv2 v hv).up hE'.1) a' cy' H1 locs1 ls (hE.trans hE') hO' hS' (hl.up h4 hE'.2.1)
    rw [List.map_append, ztrS_up hE'.2.1 lv2] at h9
    cases r with
    | none => exact h9
    | some w => exact h9

theorem zs_callV0 (X0 : zCtx p l R s m args meth c cc own Ts nL ret D A a0 M0 mc ms) {q idx maxL : Nat} {y : MethodName} {bytes : ByteArray} {rt : Option FieldType} {ws : List Cond} {rm : Room} {T9 : ZTf} {ci N : Nat} {C : String} {T : u_T} (hcl : zcl2 ci C T N) (hcw : s.vm.findClass own = some m.cls → (∀ w ∈ Ts, w.before args s = true) → CallW R s args own C idx y bytes maxL rt ws rm 0 0 (q - 1)) (hM : zMet l y ws rm 0 0 T9) (hout : ∀ x ∈ c.exceptionTable.toList, False) (d : decode cc pc = .ok (.invokevirtual idx, 3)) : zSd p l e R s m args below meth c nL D A a0 M0 K KX mc ms pc (tCall0 q T9 (zRcv ci) (pc + 3)) := by
  obtain ⟨hx, hb, hml, hown, hts, hK, hF, hA, hlk, hrT, hst, hmc, hms, hcl0, hN0⟩ := X0
  intro Ψ hΨ L st M k n h h1 h2 h3 h4 h5 a cy H locs ls hE hO hS hl
  obtain ⟨⟨⟨b1, b2⟩, hP⟩, hT⟩ := h
  have q1 : k + 0 ≤ mc := h1
  have q2 : n + 0 ≤ ms := h2
  obtain ⟨lv1, lv2⟩ := z_lvt (q := q) h5
  have hFc := zA_sub hO.2.2.2.2 hS hA
  have hcf := hF.congr hE hcl0 hN0
  have hpc := zPc_of (av := (st.take q).reverse) hK hF hA hcl0 hN0 hE hO hS lv1
  obtain ⟨j, tl, etl⟩ : ∃ j tl, (st.take q).reverse = zo j :: tl := by
    simp only [zRcv] at hP
    split at hP
    · next j tl he => exact ⟨j, tl, he⟩
    · exact hP.elim
  have hrc : zO M j ci ∧ (zCC ≤ j ∨ ci = 0) := by rw [etl] at hP; exact hP
  have hlen : (tl.map (ztr a)).length = q - 1 := by
    have := z_take b1 a
    rw [etl] at this
    simp at this
    simp
    omega
  have hst9 : st.map (ztr a) = (tl.map (ztr a)).reverse ++ .ref (a j) :: (st.drop q).map (ztr a) := by
    have := z_split b1 a
    rw [etl, List.map_cons, List.reverse_cons, List.append_assoc] at this
    exact this
  have hrm : 2 * (F0 m pc ls (st.map (ztr a))).monitorRoom + (((st.drop q).map (ztr a)).map fun v => v.category).sum ≤ 8 := by
    rw [zF0_room, zcat_sum]
    have := Nat.le_of_ble_eq_true b2
    omega
  rw [etl] at hpc hT
  have hrun := vx_runV (e := e) (below := below) (meth := meth) (locs := locs) (b := a j) (As := tl.map (ztr a)) (rest := (st.drop q).map (ztr a)) (g := F0 m pc ls (st.map (ztr a))) ⟨hx, hb, hml, hown, hts⟩ (hM D a M _ _ _ hT H.size) (hcw hown hts) ⟨zPc_blind, z_recv hcl hK hcf hO hS hrc, hpc⟩ rfl hlen (hl.1.trans h3) hst9 hrm d ⟨Nat.le_trans q1 hmc, Nat.le_trans q2 hms⟩
  refine z_called hrun hS hFc (fun E ce q9 H1 locs1 k9 a' cy' M' hE9 hkx hE' hO' hS' hce hcv hcl' => ?_) (fun r a' cy' M' H1 locs1 hk hE' hlv hO' hS' => ?_)
  · refine vx_out (fun x hx9 => absurd hx9 (fun z => hout x z)) hlk hce hcv hcl' (fun t ht hal => ⟨k9, a', cy', M', hE9, hkx, hE.trans hE', ⟨hO'.1, hO'.2.1, hO'.2.2.1.moved hal, by rw [ht]; exact hO'.2.2.2.1, hO'.2.2.2.2⟩, hS'.F ht⟩) hS'.2.2 q1 q2
  · have h9 := hΨ _ _ (r.toList ++ st.drop q) _ _ _ (hk (zrgR_of hlv) hO'.1.2) q1 q2 h3 (h4.up hE'.1) (fun v hv => by
      rcases List.mem_append.mp hv with hv | hv
      · cases r with
        | none => cases hv
        | some w =>
          have : v = w := by simpa using hv
          subst this
          exact hlv v rfl
      · exact (lv2 v hv).up hE'.1) a' cy' H1 locs1 ls (hE.trans hE') hO' hS' (hl.up h4 hE'.2.1)
    rw [List.map_append, ztrS_up hE'.2.1 lv2] at h9
    cases r with
    | none => exact h9
    | some w => exact h9

theorem zs_callS (X0 : zCtx p l R s m args meth c cc own Ts nL ret D A a0 M0 mc ms) {mc9 ms9 : Nat} {q idx maxL : Nat} {y : MethodName} {bytes : ByteArray} {rt : Option FieldType} {ws : List Cond} {rm : Room} {T9 : ZTf} (hcw : s.vm.findClass own = some m.cls → (∀ w ∈ Ts, w.before args s = true) → CallB R s args own idx y bytes maxL rt ws rm mc9 ms9 q ∧ (Cond.static y).before args s = true) (hM : zMet l y ws rm mc9 ms9 T9) (hout : ∀ x ∈ c.exceptionTable.toList, False) (d : decode cc pc = .ok (.invokestatic idx, 3)) : zSd p l e R s m args below meth c nL D A a0 M0 K KX mc ms pc (tCall q mc9 ms9 T9 zAny (pc + 3)) := by
  obtain ⟨hx, hb, hml, hown, hts, hK, hF, hA, hlk, hrT, hst, hmc, hms, hcl0, hN0⟩ := X0
  intro Ψ hΨ L st M k n h h1 h2 h3 h4 h5 a cy H locs ls hE hO hS hl
  obtain ⟨⟨q1, q2⟩, ⟨⟨b1, b2⟩, hP⟩, hT⟩ := h
  obtain ⟨lv1, lv2⟩ := z_lvt (q := q) h5
  have hFc := zA_sub hO.2.2.2.2 hS hA
  have hcf := hF.congr hE hcl0 hN0
  have hpc := zPc_of (av := (st.take q).reverse) hK hF hA hcl0 hN0 hE hO hS lv1
  have hrm : 2 * (F0 m pc ls (st.map (ztr a))).monitorRoom + (((st.drop q).map (ztr a)).map fun v => v.category).sum ≤ 8 := by
    rw [zF0_room, zcat_sum]
    have := Nat.le_of_ble_eq_true b2
    omega
  have hrun := vx_runS (e := e) (below := below) (meth := meth) (locs := locs) (As := (st.take q).reverse.map (ztr a)) (rest := (st.drop q).map (ztr a)) (g := F0 m pc ls (st.map (ztr a))) ⟨hx, hb, hml, hown, hts⟩ (hM D a M _ _ _ hT H.size) (hcw hown hts) ⟨zPc_blind, hpc⟩ rfl (z_take b1 a) (hl.1.trans h3) (z_split b1 a) hrm d ⟨Nat.le_trans q1 hmc, Nat.le_trans q2 hms⟩
  refine z_called hrun hS hFc (fun E ce q9 H1 locs1 k9 a' cy' M' hE9 hkx hE' hO' hS' hce hcv hcl' => ?_) (fun r a' cy' M' H1 locs1 hk hE' hlv hO' hS' => ?_)
  · refine vx_out (fun x hx9 => absurd hx9 (fun z => hout x z)) hlk hce hcv hcl' (fun t ht hal => ⟨k9, a', cy', M', hE9, hkx, hE.trans hE', ⟨hO'.1, hO'.2.1, hO'.2.2.1.moved hal, by rw [ht]; exact hO'.2.2.2.1, hO'.2.2.2.2⟩, hS'.F ht⟩) hS'.2.2 q1 q2
  · have h9 := hΨ _ _ (r.toList ++ st.drop q) _ _ _ (hk (zrgR_of hlv) hO'.1.2) q1 q2 h3 (h4.up hE'.1) (fun v hv => by
      rcases List.mem_append.mp hv with hv | hv
      · cases r with
        | none => cases hv
        | some w =>
          have : v = w := by simpa using hv
          subst this
          exact hlv v rfl
      · exact (lv2 v hv).up hE'.1) a' cy' H1 locs1 ls (hE.trans hE') hO' hS' (hl.up h4 hE'.2.1)
    rw [List.map_append, ztrS_up hE'.2.1 lv2] at h9
    cases r with
    | none => exact h9
    | some w => exact h9

theorem zs_callV (X0 : zCtx p l R s m args meth c cc own Ts nL ret D A a0 M0 mc ms) {mc9 ms9 : Nat} {q idx maxL : Nat} {y : MethodName} {bytes : ByteArray} {rt : Option FieldType} {ws : List Cond} {rm : Room} {T9 : ZTf} {ci N : Nat} {C : String} {T : u_T} (hcl : zcl2 ci C T N) (hcw : s.vm.findClass own = some m.cls → (∀ w ∈ Ts, w.before args s = true) → CallW R s args own C idx y bytes maxL rt ws rm mc9 ms9 (q - 1)) (hM : zMet l y ws rm mc9 ms9 T9) (hout : ∀ x ∈ c.exceptionTable.toList, False) (d : decode cc pc = .ok (.invokevirtual idx, 3)) : zSd p l e R s m args below meth c nL D A a0 M0 K KX mc ms pc (tCall q mc9 ms9 T9 (zRcv ci) (pc + 3)) := by
  obtain ⟨hx, hb, hml, hown, hts, hK, hF, hA, hlk, hrT, hst, hmc, hms, hcl0, hN0⟩ := X0
  intro Ψ hΨ L st M k n h h1 h2 h3 h4 h5 a cy H locs ls hE hO hS hl
  obtain ⟨⟨q1, q2⟩, ⟨⟨b1, b2⟩, hP⟩, hT⟩ := h
  obtain ⟨lv1, lv2⟩ := z_lvt (q := q) h5
  have hFc := zA_sub hO.2.2.2.2 hS hA
  have hcf := hF.congr hE hcl0 hN0
  have hpc := zPc_of (av := (st.take q).reverse) hK hF hA hcl0 hN0 hE hO hS lv1
  obtain ⟨j, tl, etl⟩ : ∃ j tl, (st.take q).reverse = zo j :: tl := by
    simp only [zRcv] at hP
    split at hP
    · next j tl he => exact ⟨j, tl, he⟩
    · exact hP.elim
  have hrc : zO M j ci ∧ (zCC ≤ j ∨ ci = 0) := by rw [etl] at hP; exact hP
  have hlen : (tl.map (ztr a)).length = q - 1 := by
    have := z_take b1 a
    rw [etl] at this
    simp at this
    simp
    omega
  have hst9 : st.map (ztr a) = (tl.map (ztr a)).reverse ++ .ref (a j) :: (st.drop q).map (ztr a) := by
    have := z_split b1 a
    rw [etl, List.map_cons, List.reverse_cons, List.append_assoc] at this
    exact this
  have hrm : 2 * (F0 m pc ls (st.map (ztr a))).monitorRoom + (((st.drop q).map (ztr a)).map fun v => v.category).sum ≤ 8 := by
    rw [zF0_room, zcat_sum]
    have := Nat.le_of_ble_eq_true b2
    omega
  rw [etl] at hpc hT
  have hrun := vx_runV (e := e) (below := below) (meth := meth) (locs := locs) (b := a j) (As := tl.map (ztr a)) (rest := (st.drop q).map (ztr a)) (g := F0 m pc ls (st.map (ztr a))) ⟨hx, hb, hml, hown, hts⟩ (hM D a M _ _ _ hT H.size) (hcw hown hts) ⟨zPc_blind, z_recv hcl hK hcf hO hS hrc, hpc⟩ rfl hlen (hl.1.trans h3) hst9 hrm d ⟨Nat.le_trans q1 hmc, Nat.le_trans q2 hms⟩
  refine z_called hrun hS hFc (fun E ce q9 H1 locs1 k9 a' cy' M' hE9 hkx hE' hO' hS' hce hcv hcl' => ?_) (fun r a' cy' M' H1 locs1 hk hE' hlv hO' hS' => ?_)
  · refine vx_out (fun x hx9 => absurd hx9 (fun z => hout x z)) hlk hce hcv hcl' (fun t ht hal => ⟨k9, a', cy', M', hE9, hkx, hE.trans hE', ⟨hO'.1, hO'.2.1, hO'.2.2.1.moved hal, by rw [ht]; exact hO'.2.2.2.1, hO'.2.2.2.2⟩, hS'.F ht⟩) hS'.2.2 q1 q2
  · have h9 := hΨ _ _ (r.toList ++ st.drop q) _ _ _ (hk (zrgR_of hlv) hO'.1.2) q1 q2 h3 (h4.up hE'.1) (fun v hv => by
      rcases List.mem_append.mp hv with hv | hv
      · cases r with
        | none => cases hv
        | some w =>
          have : v = w := by simpa using hv
          subst this
          exact hlv v rfl
      · exact (lv2 v hv).up hE'.1) a' cy' H1 locs1 ls (hE.trans hE') hO' hS' (hl.up h4 hE'.2.1)
    rw [List.map_append, ztrS_up hE'.2.1 lv2] at h9
    cases r with
    | none => exact h9
    | some w => exact h9

/-- a contract that never throws -/
def zNt (T : ZTf) : ZTf := fun av M K _ => T av M K (fun _ _ => False)

theorem zs_callI0 (X0 : zCtx p l R s m args meth c cc own Ts nL ret D A a0 M0 mc ms) {q idx maxL : Nat} {y : MethodName} {bytes : ByteArray} {rt : Option FieldType} {ws : List Cond} {rm : Room} {T9 : ZTf} {ci : Nat} (hcw : s.vm.findClass own = some m.cls → (∀ w ∈ Ts, w.before args s = true) → CallB R s args own idx y bytes maxL none ws rm 0 0 (q - 1) ∧ y.name = "<init>" ∧ (Cond.instanceMethod y).before args s = true) (hM : zMet l y ws rm 0 0 T9) (d : decode cc pc = .ok (.invokespecial idx, 3)) : zSd p l e R s m args below meth c nL D A a0 M0 K KX mc ms pc (tCall0 q (zNt T9) (zRcv ci) (pc + 3)) := by
  obtain ⟨hx, hb, hml, hown, hts, hK, hF, hA, hlk, hrT, hst, hmc, hms, hcl0, hN0⟩ := X0
  intro Ψ hΨ L st M k n h h1 h2 h3 h4 h5 a cy H locs ls hE hO hS hl
  obtain ⟨⟨⟨b1, b2⟩, hP⟩, hT⟩ := h
  have q1 : k + 0 ≤ mc := h1
  have q2 : n + 0 ≤ ms := h2
  obtain ⟨lv1, lv2⟩ := z_lvt (q := q) h5
  have hFc := zA_sub hO.2.2.2.2 hS hA
  have hcf := hF.congr hE hcl0 hN0
  have hpc := zPc_of (av := (st.take q).reverse) hK hF hA hcl0 hN0 hE hO hS lv1
  obtain ⟨j, tl, etl⟩ : ∃ j tl, (st.take q).reverse = zo j :: tl := by
    simp only [zRcv] at hP
    split at hP
    · next j tl he => exact ⟨j, tl, he⟩
    · exact hP.elim
  have hrc : zO M j ci ∧ (zCC ≤ j ∨ ci = 0) := by rw [etl] at hP; exact hP
  have hlen : (tl.map (ztr a)).length = q - 1 := by
    have := z_take b1 a
    rw [etl] at this
    simp at this
    simp
    omega
  have hst9 : st.map (ztr a) = (tl.map (ztr a)).reverse ++ .ref (a j) :: (st.drop q).map (ztr a) := by
    have := z_split b1 a
    rw [etl, List.map_cons, List.reverse_cons, List.append_assoc] at this
    exact this
  have hrm : 2 * (F0 m pc ls (st.map (ztr a))).monitorRoom + (((st.drop q).map (ztr a)).map fun v => v.category).sum ≤ 8 := by
    rw [zF0_room, zcat_sum]
    have := Nat.le_of_ble_eq_true b2
    omega
  rw [etl] at hpc hT
  have hrun := z_run0 (XC := zXC D a M (zA a M H.size) (fun _ _ => False)) (va_runI (e := e) (below := below) (meth := meth) (locs := locs) (b := a j) (As := tl.map (ztr a)) (rest := (st.drop q).map (ztr a)) (g := F0 m pc ls (st.map (ztr a))) ⟨hx, hb, hml, hown, hts⟩ ((z_met0 (hM D a M _ _ _ hT H.size) zXC_no)) (hcw hown hts) ⟨zPc_blind, hpc⟩ rfl hlen (hl.1.trans h3) hst9 hrm d ⟨Nat.le_trans q1 hmc, Nat.le_trans q2 hms⟩)
  refine z_called hrun hS hFc (fun E ce q9 H1 locs1 k9 a' cy' M' hE9 hkx hE' hO' hS' hce hcv hcl' => ?_) (fun r a' cy' M' H1 locs1 hk hE' hlv hO' hS' => ?_)
  · exact hkx.elim
  · have h9 := hΨ _ _ (r.toList ++ st.drop q) _ _ _ (hk (zrgR_of hlv) hO'.1.2) q1 q2 h3 (h4.up hE'.1) (fun v hv => by
      rcases List.mem_append.mp hv with hv | hv
      · cases r with
        | none => cases hv
        | some w =>
          have : v = w := by simpa using hv
          subst this
          exact hlv v rfl
      · exact (lv2 v hv).up hE'.1) a' cy' H1 locs1 ls (hE.trans hE') hO' hS' (hl.up h4 hE'.2.1)
    rw [List.map_append, ztrS_up hE'.2.1 lv2] at h9
    cases r with
    | none => exact h9
    | some w => exact h9

theorem zs_callIN0 (X0 : zCtx p l R s m args meth c cc own Ts nL ret D A a0 M0 mc ms) {q idx maxL : Nat} {y : MethodName} {bytes : ByteArray} {rt : Option FieldType} {ws : List Cond} {rm : Room} {T9 : ZTf} {ci : Nat} {host : String} (hcw : s.vm.findClass own = some m.cls → (∀ w ∈ Ts, w.before args s = true) → (∀ w ∈ zXW, va_Nw w s) → va_CN R s args own idx y host bytes maxL none ws rm 0 0 (q - 1) ∧ y.name = "<init>" ∧ (Cond.instanceMethod y).before args s = true) (hM : zMet l y ws rm 0 0 T9) (d : decode cc pc = .ok (.invokespecial idx, 3)) : zSd p l e R s m args below meth c nL D A a0 M0 K KX mc ms pc (tCall0 q (zNt T9) (zRcv ci) (pc + 3)) := by
  obtain ⟨hx, hb, hml, hown, hts, hK, hF, hA, hlk, hrT, hst, hmc, hms, hcl0, hN0⟩ := X0
  intro Ψ hΨ L st M k n h h1 h2 h3 h4 h5 a cy H locs ls hE hO hS hl
  obtain ⟨⟨⟨b1, b2⟩, hP⟩, hT⟩ := h
  have q1 : k + 0 ≤ mc := h1
  have q2 : n + 0 ≤ ms := h2
  obtain ⟨lv1, lv2⟩ := z_lvt (q := q) h5
  have hFc := zA_sub hO.2.2.2.2 hS hA
  have hcf := hF.congr hE hcl0 hN0
  have hpc := zPc_of (av := (st.take q).reverse) hK hF hA hcl0 hN0 hE hO hS lv1
  obtain ⟨j, tl, etl⟩ : ∃ j tl, (st.take q).reverse = zo j :: tl := by
    simp only [zRcv] at hP
    split at hP
    · next j tl he => exact ⟨j, tl, he⟩
    · exact hP.elim
  have hrc : zO M j ci ∧ (zCC ≤ j ∨ ci = 0) := by rw [etl] at hP; exact hP
  have hlen : (tl.map (ztr a)).length = q - 1 := by
    have := z_take b1 a
    rw [etl] at this
    simp at this
    simp
    omega
  have hst9 : st.map (ztr a) = (tl.map (ztr a)).reverse ++ .ref (a j) :: (st.drop q).map (ztr a) := by
    have := z_split b1 a
    rw [etl, List.map_cons, List.reverse_cons, List.append_assoc] at this
    exact this
  have hrm : 2 * (F0 m pc ls (st.map (ztr a))).monitorRoom + (((st.drop q).map (ztr a)).map fun v => v.category).sum ≤ 8 := by
    rw [zF0_room, zcat_sum]
    have := Nat.le_of_ble_eq_true b2
    omega
  rw [etl] at hpc hT
  have hrun := z_run0 (XC := zXC D a M (zA a M H.size) (fun _ _ => False)) (va_runIN (e := e) (below := below) (meth := meth) (locs := locs) (b := a j) (As := tl.map (ztr a)) (rest := (st.drop q).map (ztr a)) (g := F0 m pc ls (st.map (ztr a))) ⟨hx, hb, hml, hown, hts⟩ ((z_met0 (hM D a M _ _ _ hT H.size) zXC_no)) (hcw hown hts hF.2.2.2.2.2.1) ⟨zPc_blind, hpc⟩ rfl hlen (hl.1.trans h3) hst9 hrm d ⟨Nat.le_trans q1 hmc, Nat.le_trans q2 hms⟩)
  refine z_called hrun hS hFc (fun E ce q9 H1 locs1 k9 a' cy' M' hE9 hkx hE' hO' hS' hce hcv hcl' => ?_) (fun r a' cy' M' H1 locs1 hk hE' hlv hO' hS' => ?_)
  · exact hkx.elim
  · have h9 := hΨ _ _ (r.toList ++ st.drop q) _ _ _ (hk (zrgR_of hlv) hO'.1.2) q1 q2 h3 (h4.up hE'.1) (fun v hv => by
      rcases List.mem_append.mp hv with hv | hv
      · cases r with
        | none => cases hv
        | some w =>
          have : v = w := by simpa using hv
          subst this
          exact hlv v rfl
      · exact (lv2 v hv).up hE'.1) a' cy' H1 locs1 ls (hE.trans hE') hO' hS' (hl.up h4 hE'.2.1)
    rw [List.map_append, ztrS_up hE'.2.1 lv2] at h9
    cases r with
    | none => exact h9
    | some w => exact h9

theorem zs_callVN0 (X0 : zCtx p l R s m args meth c cc own Ts nL ret D A a0 M0 mc ms) {q idx maxL : Nat} {y : MethodName} {bytes : ByteArray} {rt : Option FieldType} {ws : List Cond} {rm : Room} {T9 : ZTf} {ci N : Nat} {C host : String} {T : u_T} (hcl : zcl2 ci C T N) (hcw : s.vm.findClass own = some m.cls → (∀ w ∈ Ts, w.before args s = true) → (∀ w ∈ zXW, va_Nw w s) → va_CN R s args own idx y host bytes maxL rt ws rm 0 0 (q - 1) ∧ (Cond.instanceMethod y).before args s = true ∧ (Cond.selects C y y).before args s = true) (hM : zMet l y ws rm 0 0 T9) (d : decode cc pc = .ok (.invokevirtual idx, 3)) : zSd p l e R s m args below meth c nL D A a0 M0 K KX mc ms pc (tCall0 q (zNt T9) (zRcv ci) (pc + 3)) := by
  obtain ⟨hx, hb, hml, hown, hts, hK, hF, hA, hlk, hrT, hst, hmc, hms, hcl0, hN0⟩ := X0
  intro Ψ hΨ L st M k n h h1 h2 h3 h4 h5 a cy H locs ls hE hO hS hl
  obtain ⟨⟨⟨b1, b2⟩, hP⟩, hT⟩ := h
  have q1 : k + 0 ≤ mc := h1
  have q2 : n + 0 ≤ ms := h2
  obtain ⟨lv1, lv2⟩ := z_lvt (q := q) h5
  have hFc := zA_sub hO.2.2.2.2 hS hA
  have hcf := hF.congr hE hcl0 hN0
  have hpc := zPc_of (av := (st.take q).reverse) hK hF hA hcl0 hN0 hE hO hS lv1
  obtain ⟨j, tl, etl⟩ : ∃ j tl, (st.take q).reverse = zo j :: tl := by
    simp only [zRcv] at hP
    split at hP
    · next j tl he => exact ⟨j, tl, he⟩
    · exact hP.elim
  have hrc : zO M j ci ∧ (zCC ≤ j ∨ ci = 0) := by rw [etl] at hP; exact hP
  have hlen : (tl.map (ztr a)).length = q - 1 := by
    have := z_take b1 a
    rw [etl] at this
    simp at this
    simp
    omega
  have hst9 : st.map (ztr a) = (tl.map (ztr a)).reverse ++ .ref (a j) :: (st.drop q).map (ztr a) := by
    have := z_split b1 a
    rw [etl, List.map_cons, List.reverse_cons, List.append_assoc] at this
    exact this
  have hrm : 2 * (F0 m pc ls (st.map (ztr a))).monitorRoom + (((st.drop q).map (ztr a)).map fun v => v.category).sum ≤ 8 := by
    rw [zF0_room, zcat_sum]
    have := Nat.le_of_ble_eq_true b2
    omega
  rw [etl] at hpc hT
  have hrun := z_run0 (XC := zXC D a M (zA a M H.size) (fun _ _ => False)) (va_runVN (e := e) (below := below) (meth := meth) (locs := locs) (b := a j) (As := tl.map (ztr a)) (rest := (st.drop q).map (ztr a)) (g := F0 m pc ls (st.map (ztr a))) ⟨hx, hb, hml, hown, hts⟩ ((z_met0 (hM D a M _ _ _ hT H.size) zXC_no)) (hcw hown hts hF.2.2.2.2.2.1) ⟨zPc_blind, z_recv hcl hK hcf hO hS hrc, hpc⟩ rfl hlen (hl.1.trans h3) hst9 hrm d ⟨Nat.le_trans q1 hmc, Nat.le_trans q2 hms⟩)
  refine z_called hrun hS hFc (fun E ce q9 H1 locs1 k9 a' cy' M' hE9 hkx hE' hO' hS' hce hcv hcl' => ?_) (fun r a' cy' M' H1 locs1 hk hE' hlv hO' hS' => ?_)
  · exact hkx.elim
  · have h9 := hΨ _ _ (r.toList ++ st.drop q) _ _ _ (hk (zrgR_of hlv) hO'.1.2) q1 q2 h3 (h4.up hE'.1) (fun v hv => by
      rcases List.mem_append.mp hv with hv | hv
      · cases r with
        | none => cases hv
        | some w =>
          have : v = w := by simpa using hv
          subst this
          exact hlv v rfl
      · exact (lv2 v hv).up hE'.1) a' cy' H1 locs1 ls (hE.trans hE') hO' hS' (hl.up h4 hE'.2.1)
    rw [List.map_append, ztrS_up hE'.2.1 lv2] at h9
    cases r with
    | none => exact h9
    | some w => exact h9

theorem zs_callSN0 (X0 : zCtx p l R s m args meth c cc own Ts nL ret D A a0 M0 mc ms) {q idx maxL : Nat} {y : MethodName} {bytes : ByteArray} {rt : Option FieldType} {ws : List Cond} {rm : Room} {T9 : ZTf} {host : String} (hcw : s.vm.findClass own = some m.cls → (∀ w ∈ Ts, w.before args s = true) → (∀ w ∈ zXW, va_Nw w s) → va_CN R s args own idx y host bytes maxL rt ws rm 0 0 q ∧ (Cond.static y).before args s = true ∧ True) (hM : zMet l y ws rm 0 0 T9) (d : decode cc pc = .ok (.invokestatic idx, 3)) : zSd p l e R s m args below meth c nL D A a0 M0 K KX mc ms pc (tCall0 q (zNt T9) zAny (pc + 3)) := by
  obtain ⟨hx, hb, hml, hown, hts, hK, hF, hA, hlk, hrT, hst, hmc, hms, hcl0, hN0⟩ := X0
  intro Ψ hΨ L st M k n h h1 h2 h3 h4 h5 a cy H locs ls hE hO hS hl
  obtain ⟨⟨⟨b1, b2⟩, hP⟩, hT⟩ := h
  have q1 : k + 0 ≤ mc := h1
  have q2 : n + 0 ≤ ms := h2
  obtain ⟨lv1, lv2⟩ := z_lvt (q := q) h5
  have hFc := zA_sub hO.2.2.2.2 hS hA
  have hcf := hF.congr hE hcl0 hN0
  have hpc := zPc_of (av := (st.take q).reverse) hK hF hA hcl0 hN0 hE hO hS lv1
  have hrm : 2 * (F0 m pc ls (st.map (ztr a))).monitorRoom + (((st.drop q).map (ztr a)).map fun v => v.category).sum ≤ 8 := by
    rw [zF0_room, zcat_sum]
    have := Nat.le_of_ble_eq_true b2
    omega
  have hrun := z_run0 (XC := zXC D a M (zA a M H.size) (fun _ _ => False)) (va_runSN (e := e) (below := below) (meth := meth) (locs := locs) (As := (st.take q).reverse.map (ztr a)) (rest := (st.drop q).map (ztr a)) (g := F0 m pc ls (st.map (ztr a))) ⟨hx, hb, hml, hown, hts⟩ ((z_met0 (hM D a M _ _ _ hT H.size) zXC_no)) (hcw hown hts hF.2.2.2.2.2.1) ⟨zPc_blind, hpc⟩ rfl (z_take b1 a) (hl.1.trans h3) (z_split b1 a) hrm d ⟨Nat.le_trans q1 hmc, Nat.le_trans q2 hms⟩)
  refine z_called hrun hS hFc (fun E ce q9 H1 locs1 k9 a' cy' M' hE9 hkx hE' hO' hS' hce hcv hcl' => ?_) (fun r a' cy' M' H1 locs1 hk hE' hlv hO' hS' => ?_)
  · exact hkx.elim
  · have h9 := hΨ _ _ (r.toList ++ st.drop q) _ _ _ (hk (zrgR_of hlv) hO'.1.2) q1 q2 h3 (h4.up hE'.1) (fun v hv => by
      rcases List.mem_append.mp hv with hv | hv
      · cases r with
        | none => cases hv
        | some w =>
          have : v = w := by simpa using hv
          subst this
          exact hlv v rfl
      · exact (lv2 v hv).up hE'.1) a' cy' H1 locs1 ls (hE.trans hE') hO' hS' (hl.up h4 hE'.2.1)
    rw [List.map_append, ztrS_up hE'.2.1 lv2] at h9
    cases r with
    | none => exact h9
    | some w => exact h9

theorem zs_callI (X0 : zCtx p l R s m args meth c cc own Ts nL ret D A a0 M0 mc ms) {mc9 ms9 : Nat} {q idx maxL : Nat} {y : MethodName} {bytes : ByteArray} {rt : Option FieldType} {ws : List Cond} {rm : Room} {T9 : ZTf} {ci : Nat} (hcw : s.vm.findClass own = some m.cls → (∀ w ∈ Ts, w.before args s = true) → CallB R s args own idx y bytes maxL none ws rm mc9 ms9 (q - 1) ∧ y.name = "<init>" ∧ (Cond.instanceMethod y).before args s = true) (hM : zMet l y ws rm mc9 ms9 T9) (d : decode cc pc = .ok (.invokespecial idx, 3)) : zSd p l e R s m args below meth c nL D A a0 M0 K KX mc ms pc (tCall q mc9 ms9 (zNt T9) (zRcv ci) (pc + 3)) := by
  obtain ⟨hx, hb, hml, hown, hts, hK, hF, hA, hlk, hrT, hst, hmc, hms, hcl0, hN0⟩ := X0
  intro Ψ hΨ L st M k n h h1 h2 h3 h4 h5 a cy H locs ls hE hO hS hl
  obtain ⟨⟨q1, q2⟩, ⟨⟨b1, b2⟩, hP⟩, hT⟩ := h
  obtain ⟨lv1, lv2⟩ := z_lvt (q := q) h5
  have hFc := zA_sub hO.2.2.2.2 hS hA
  have hcf := hF.congr hE hcl0 hN0
  have hpc := zPc_of (av := (st.take q).reverse) hK hF hA hcl0 hN0 hE hO hS lv1
  obtain ⟨j, tl, etl⟩ : ∃ j tl, (st.take q).reverse = zo j :: tl := by
    simp only [zRcv] at hP
    split at hP
    · next j tl he => exact ⟨j, tl, he⟩
    · exact hP.elim
  have hrc : zO M j ci ∧ (zCC ≤ j ∨ ci = 0) := by rw [etl] at hP; exact hP
  have hlen : (tl.map (ztr a)).length = q - 1 := by
    have := z_take b1 a
    rw [etl] at this
    simp at this
    simp
    omega
  have hst9 : st.map (ztr a) = (tl.map (ztr a)).reverse ++ .ref (a j) :: (st.drop q).map (ztr a) := by
    have := z_split b1 a
    rw [etl, List.map_cons, List.reverse_cons, List.append_assoc] at this
    exact this
  have hrm : 2 * (F0 m pc ls (st.map (ztr a))).monitorRoom + (((st.drop q).map (ztr a)).map fun v => v.category).sum ≤ 8 := by
    rw [zF0_room, zcat_sum]
    have := Nat.le_of_ble_eq_true b2
    omega
  rw [etl] at hpc hT
  have hrun := z_run0 (XC := zXC D a M (zA a M H.size) (fun _ _ => False)) (va_runI (e := e) (below := below) (meth := meth) (locs := locs) (b := a j) (As := tl.map (ztr a)) (rest := (st.drop q).map (ztr a)) (g := F0 m pc ls (st.map (ztr a))) ⟨hx, hb, hml, hown, hts⟩ ((z_met0 (hM D a M _ _ _ hT H.size) zXC_no)) (hcw hown hts) ⟨zPc_blind, hpc⟩ rfl hlen (hl.1.trans h3) hst9 hrm d ⟨Nat.le_trans q1 hmc, Nat.le_trans q2 hms⟩)
  refine z_called hrun hS hFc (fun E ce q9 H1 locs1 k9 a' cy' M' hE9 hkx hE' hO' hS' hce hcv hcl' => ?_) (fun r a' cy' M' H1 locs1 hk hE' hlv hO' hS' => ?_)
  · exact hkx.elim
  · have h9 := hΨ _ _ (r.toList ++ st.drop q) _ _ _ (hk (zrgR_of hlv) hO'.1.2) q1 q2 h3 (h4.up hE'.1) (fun v hv => by
      rcases List.mem_append.mp hv with hv | hv
      · cases r with
        | none => cases hv
        | some w =>
          have : v = w := by simpa using hv
          subst this
          exact hlv v rfl
      · exact (lv2 v hv).up hE'.1) a' cy' H1 locs1 ls (hE.trans hE') hO' hS' (hl.up h4 hE'.2.1)
    rw [List.map_append, ztrS_up hE'.2.1 lv2] at h9
    cases r with
    | none => exact h9
    | some w => exact h9

theorem zs_callIN (X0 : zCtx p l R s m args meth c cc own Ts nL ret D A a0 M0 mc ms) {mc9 ms9 : Nat} {q idx maxL : Nat} {y : MethodName} {bytes : ByteArray} {rt : Option FieldType} {ws : List Cond} {rm : Room} {T9 : ZTf} {ci : Nat} {host : String} (hcw : s.vm.findClass own = some m.cls → (∀ w ∈ Ts, w.before args s = true) → (∀ w ∈ zXW, va_Nw w s) → va_CN R s args own idx y host bytes maxL none ws rm mc9 ms9 (q - 1) ∧ y.name = "<init>" ∧ (Cond.instanceMethod y).before args s = true) (hM : zMet l y ws rm mc9 ms9 T9) (d : decode cc pc = .ok (.invokespecial idx, 3)) : zSd p l e R s m args below meth c nL D A a0 M0 K KX mc ms pc (tCall q mc9 ms9 (zNt T9) (zRcv ci) (pc + 3)) := by
  obtain ⟨hx, hb, hml, hown, hts, hK, hF, hA, hlk, hrT, hst, hmc, hms, hcl0, hN0⟩ := X0
  intro Ψ hΨ L st M k n h h1 h2 h3 h4 h5 a cy H locs ls hE hO hS hl
  obtain ⟨⟨q1, q2⟩, ⟨⟨b1, b2⟩, hP⟩, hT⟩ := h
  obtain ⟨lv1, lv2⟩ := z_lvt (q := q) h5
  have hFc := zA_sub hO.2.2.2.2 hS hA
  have hcf := hF.congr hE hcl0 hN0
  have hpc := zPc_of (av := (st.take q).reverse) hK hF hA hcl0 hN0 hE hO hS lv1
  obtain ⟨j, tl, etl⟩ : ∃ j tl, (st.take q).reverse = zo j :: tl := by
    simp only [zRcv] at hP
    split at hP
    · next j tl he => exact ⟨j, tl, he⟩
    · exact hP.elim
  have hrc : zO M j ci ∧ (zCC ≤ j ∨ ci = 0) := by rw [etl] at hP; exact hP
  have hlen : (tl.map (ztr a)).length = q - 1 := by
    have := z_take b1 a
    rw [etl] at this
    simp at this
    simp
    omega
  have hst9 : st.map (ztr a) = (tl.map (ztr a)).reverse ++ .ref (a j) :: (st.drop q).map (ztr a) := by
    have := z_split b1 a
    rw [etl, List.map_cons, List.reverse_cons, List.append_assoc] at this
    exact this
  have hrm : 2 * (F0 m pc ls (st.map (ztr a))).monitorRoom + (((st.drop q).map (ztr a)).map fun v => v.category).sum ≤ 8 := by
    rw [zF0_room, zcat_sum]
    have := Nat.le_of_ble_eq_true b2
    omega
  rw [etl] at hpc hT
  have hrun := z_run0 (XC := zXC D a M (zA a M H.size) (fun _ _ => False)) (va_runIN (e := e) (below := below) (meth := meth) (locs := locs) (b := a j) (As := tl.map (ztr a)) (rest := (st.drop q).map (ztr a)) (g := F0 m pc ls (st.map (ztr a))) ⟨hx, hb, hml, hown, hts⟩ ((z_met0 (hM D a M _ _ _ hT H.size) zXC_no)) (hcw hown hts hF.2.2.2.2.2.1) ⟨zPc_blind, hpc⟩ rfl hlen (hl.1.trans h3) hst9 hrm d ⟨Nat.le_trans q1 hmc, Nat.le_trans q2 hms⟩)
  refine z_called hrun hS hFc (fun E ce q9 H1 locs1 k9 a' cy' M' hE9 hkx hE' hO' hS' hce hcv hcl' => ?_) (fun r a' cy' M' H1 locs1 hk hE' hlv hO' hS' => ?_)
  · exact hkx.elim
  · have h9 := hΨ _ _ (r.toList ++ st.drop q) _ _ _ (hk (zrgR_of hlv) hO'.1.2) q1 q2 h3 (h4.up hE'.1) (fun v hv => by
      rcases List.mem_append.mp hv with hv | hv
      · cases r with
        | none => cases hv
        | some w =>
          have : v = w := by simpa using hv
          subst this
          exact hlv v rfl
      · exact (lv2 v hv).up hE'.1) a' cy' H1 locs1 ls (hE.trans hE') hO' hS' (hl.up h4 hE'.2.1)
    rw [List.map_append, ztrS_up hE'.2.1 lv2] at h9
    cases r with
    | none => exact h9
    | some w => exact h9

theorem zs_callVN (X0 : zCtx p l R s m args meth c cc own Ts nL ret D A a0 M0 mc ms) {mc9 ms9 : Nat} {q idx maxL : Nat} {y : MethodName} {bytes : ByteArray} {rt : Option FieldType} {ws : List Cond} {rm : Room} {T9 : ZTf} {ci N : Nat} {C host : String} {T : u_T} (hcl : zcl2 ci C T N) (hcw : s.vm.findClass own = some m.cls → (∀ w ∈ Ts, w.before args s = true) → (∀ w ∈ zXW, va_Nw w s) → va_CN R s args own idx y host bytes maxL rt ws rm mc9 ms9 (q - 1) ∧ (Cond.instanceMethod y).before args s = true ∧ (Cond.selects C y y).before args s = true) (hM : zMet l y ws rm mc9 ms9 T9) (d : decode cc pc = .ok (.invokevirtual idx, 3)) : zSd p l e R s m args below meth c nL D A a0 M0 K KX mc ms pc (tCall q mc9 ms9 (zNt T9) (zRcv ci) (pc + 3)) := by
  obtain ⟨hx, hb, hml, hown, hts, hK, hF, hA, hlk, hrT, hst, hmc, hms, hcl0, hN0⟩ := X0
  intro Ψ hΨ L st M k n h h1 h2 h3 h4 h5 a cy H locs ls hE hO hS hl
  obtain ⟨⟨q1, q2⟩, ⟨⟨b1, b2⟩, hP⟩, hT⟩ := h
  obtain ⟨lv1, lv2⟩ := z_lvt (q := q) h5
  have hFc := zA_sub hO.2.2.2.2 hS hA
  have hcf := hF.congr hE hcl0 hN0
  have hpc := zPc_of (av := (st.take q).reverse) hK hF hA hcl0 hN0 hE hO hS lv1
  obtain ⟨j, tl, etl⟩ : ∃ j tl, (st.take q).reverse = zo j :: tl := by
    simp only [zRcv] at hP
    split at hP
    · next j tl he => exact ⟨j, tl, he⟩
    · exact hP.elim
  have hrc : zO M j ci ∧ (zCC ≤ j ∨ ci = 0) := by rw [etl] at hP; exact hP
  have hlen : (tl.map (ztr a)).length = q - 1 := by
    have := z_take b1 a
    rw [etl] at this
    simp at this
    simp
    omega
  have hst9 : st.map (ztr a) = (tl.map (ztr a)).reverse ++ .ref (a j) :: (st.drop q).map (ztr a) := by
    have := z_split b1 a
    rw [etl, List.map_cons, List.reverse_cons, List.append_assoc] at this
    exact this
  have hrm : 2 * (F0 m pc ls (st.map (ztr a))).monitorRoom + (((st.drop q).map (ztr a)).map fun v => v.category).sum ≤ 8 := by
    rw [zF0_room, zcat_sum]
    have := Nat.le_of_ble_eq_true b2
    omega
  rw [etl] at hpc hT
  have hrun := z_run0 (XC := zXC D a M (zA a M H.size) (fun _ _ => False)) (va_runVN (e := e) (below := below) (meth := meth) (locs := locs) (b := a j) (As := tl.map (ztr a)) (rest := (st.drop q).map (ztr a)) (g := F0 m pc ls (st.map (ztr a))) ⟨hx, hb, hml, hown, hts⟩ ((z_met0 (hM D a M _ _ _ hT H.size) zXC_no)) (hcw hown hts hF.2.2.2.2.2.1) ⟨zPc_blind, z_recv hcl hK hcf hO hS hrc, hpc⟩ rfl hlen (hl.1.trans h3) hst9 hrm d ⟨Nat.le_trans q1 hmc, Nat.le_trans q2 hms⟩)
  refine z_called hrun hS hFc (fun E ce q9 H1 locs1 k9 a' cy' M' hE9 hkx hE' hO' hS' hce hcv hcl' => ?_) (fun r a' cy' M' H1 locs1 hk hE' hlv hO' hS' => ?_)
  · exact hkx.elim
  · have h9 := hΨ _ _ (r.toList ++ st.drop q) _ _ _ (hk (zrgR_of hlv) hO'.1.2) q1 q2 h3 (h4.up hE'.1) (fun v hv => by
      rcases List.mem_append.mp hv with hv | hv
      · cases r with
        | none => cases hv
        | some w =>
          have : v = w := by simpa using hv
          subst this
          exact hlv v rfl
      · exact (lv2 v hv).up hE'.1) a' cy' H1 locs1 ls (hE.trans hE') hO' hS' (hl.up h4 hE'.2.1)
    rw [List.map_append, ztrS_up hE'.2.1 lv2] at h9
    cases r with
    | none => exact h9
    | some w => exact h9

theorem zs_callSN (X0 : zCtx p l R s m args meth c cc own Ts nL ret D A a0 M0 mc ms) {mc9 ms9 : Nat} {q idx maxL : Nat} {y : MethodName} {bytes : ByteArray} {rt : Option FieldType} {ws : List Cond} {rm : Room} {T9 : ZTf} {host : String} (hcw : s.vm.findClass own = some m.cls → (∀ w ∈ Ts, w.before args s = true) → (∀ w ∈ zXW, va_Nw w s) → va_CN R s args own idx y host bytes maxL rt ws rm mc9 ms9 q ∧ (Cond.static y).before args s = true ∧ True) (hM : zMet l y ws rm mc9 ms9 T9) (d : decode cc pc = .ok (.invokestatic idx, 3)) : zSd p l e R s m args below meth c nL D A a0 M0 K KX mc ms pc (tCall q mc9 ms9 (zNt T9) zAny (pc + 3)) := by
  obtain ⟨hx, hb, hml, hown, hts, hK, hF, hA, hlk, hrT, hst, hmc, hms, hcl0, hN0⟩ := X0
  intro Ψ hΨ L st M k n h h1 h2 h3 h4 h5 a cy H locs ls hE hO hS hl
  obtain ⟨⟨q1, q2⟩, ⟨⟨b1, b2⟩, hP⟩, hT⟩ := h
  obtain ⟨lv1, lv2⟩ := z_lvt (q := q) h5
  have hFc := zA_sub hO.2.2.2.2 hS hA
  have hcf := hF.congr hE hcl0 hN0
  have hpc := zPc_of (av := (st.take q).reverse) hK hF hA hcl0 hN0 hE hO hS lv1
  have hrm : 2 * (F0 m pc ls (st.map (ztr a))).monitorRoom + (((st.drop q).map (ztr a)).map fun v => v.category).sum ≤ 8 := by
    rw [zF0_room, zcat_sum]
    have := Nat.le_of_ble_eq_true b2
    omega
  have hrun := z_run0 (XC := zXC D a M (zA a M H.size) (fun _ _ => False)) (va_runSN (e := e) (below := below) (meth := meth) (locs := locs) (As := (st.take q).reverse.map (ztr a)) (rest := (st.drop q).map (ztr a)) (g := F0 m pc ls (st.map (ztr a))) ⟨hx, hb, hml, hown, hts⟩ ((z_met0 (hM D a M _ _ _ hT H.size) zXC_no)) (hcw hown hts hF.2.2.2.2.2.1) ⟨zPc_blind, hpc⟩ rfl (z_take b1 a) (hl.1.trans h3) (z_split b1 a) hrm d ⟨Nat.le_trans q1 hmc, Nat.le_trans q2 hms⟩)
  refine z_called hrun hS hFc (fun E ce q9 H1 locs1 k9 a' cy' M' hE9 hkx hE' hO' hS' hce hcv hcl' => ?_) (fun r a' cy' M' H1 locs1 hk hE' hlv hO' hS' => ?_)
  · exact hkx.elim
  · have h9 := hΨ _ _ (r.toList ++ st.drop q) _ _ _ (hk (zrgR_of hlv) hO'.1.2) q1 q2 h3 (h4.up hE'.1) (fun v hv => by
      rcases List.mem_append.mp hv with hv | hv
      · cases r with
        | none => cases hv
        | some w =>
          have : v = w := by simpa using hv
          subst this
          exact hlv v rfl
      · exact (lv2 v hv).up hE'.1) a' cy' H1 locs1 ls (hE.trans hE') hO' hS' (hl.up h4 hE'.2.1)
    rw [List.map_append, ztrS_up hE'.2.1 lv2] at h9
    cases r with
    | none => exact h9
    | some w => exact h9

theorem zXW_use {s : State} {args : Array Value} {w : Cond} (hw : w ∈ zXW) (h : va_Nw w s) : w.before args s = true := by
  rcases zXW_kinds w hw with ⟨C, T, rfl⟩ | ⟨x, rfl⟩ | ⟨a, i, x, h9, rfl⟩ | ⟨C, rfl⟩
  · exact va_Nw.use rfl h
  · exact va_Nw.use rfl h
  · exact va_Nw.use rfl h
  · exact va_AO.use h

def tThr (x9 : Nat) : ZTr := fun _ _ KX mc ms L st M k n => (k + 1 ≤ mc ∧ n + 6 ≤ ms) ∧ (st.map zcat).sum ≤ 8 ∧ KX x9 M

theorem zs_throw (X0 : zCtx p l R s m args meth c cc own Ts nL ret D A a0 M0 mc ms) {x9 ik is ic : Nat} {cls text : String} {names : List String} (hxs : zXs[x9]? = some cls) (hcls : Bundle.fit cls = true) (hnames : ∀ n ∈ names, Bundle.fit n = true) (hk : Cond.classLink own ik cls ∈ Ts) (hini : Cond.initialized cls ∈ Ts) (hq : (own, is, text, none) ∈ zLS) (hat1 : ∀ w ∈ (vx_atS own ic cls names).filter goodWord, w ∈ Ts) (hat2 : ∀ w ∈ (vx_atS own ic cls names).filter (fun w => !goodWord w), w ∈ zXW) (hgood : ∀ w ∈ Cond.classLink own ik cls :: Cond.initialized cls :: vx_atS own ic cls names, vx_ot w = true) (hout : ∀ x ∈ c.exceptionTable.toList, False) (hRf : names.length + 3 < R.frames) (hRl : 8 + (13 * (names.length + 1) + 43) ≤ R.locals) (d : decode cc pc = .ok (.new ik, 3)) (d3 : decode cc (pc + 3) = .ok (.dup, 1)) (d4 : decode cc (pc + 4) = .ok (.ldc is, 2)) (d6 : decode cc (pc + 6) = .ok (.invokespecial ic, 3)) (d9 : decode cc (pc + 9) = .ok (.athrow, 1)) : zSd p l e R s m args below meth c nL D A a0 M0 K KX mc ms pc (tThr x9) := by
  obtain ⟨hx, hb, hml, hown, hts, hK, hF, hA, hlk, hrT, hst, hmc, hms, hcl0, hN0⟩ := X0
  intro Ψ hΨ L st M k n h h1 h2 h3 h4 h5 a cy H locs ls hE hO hS hl
  obtain ⟨⟨q1, q2⟩, hrm, h⟩ := h
  obtain ⟨a9, r1, -⟩ := (hF.congr hE hcl0 hN0).2.2.2.2.1 _ hq
  have hat : ∀ w ∈ vx_atS own ic cls names, w.before args s = true := vx_hat (B := zXW) (fun w hw => hts w (hat1 w hw)) hat2 (fun w hw => zXW_use hw (hF.2.2.2.2.2.1 w hw))
  refine vx_throwS (text := text) (names := names) hx hb hst hown hcls hnames (hts _ hk) (hts _ hini) r1 hat hgood hF.2.2.1 hF.2.2.2.1 hS ((hl.1.trans h3).trans hml.symm) d d3 d4 d6 d9 (fun x hx9 => absurd hx9 (fun z => hout x z)) hRf ?_ (Nat.le_trans q1 hmc) (Nat.le_trans q2 hms) hlk (fun t hal hsz hk9 => ⟨x9, a, cy, M, hxs, h, hE, ⟨hO.1, hO.2.1, hO.2.2.1.moved hal, hO.2.2.2.1.kept (fun k q hq9 => hk9 q.1 (hO.2.2.2.1 k q hq9).lt), hO.2.2.2.2⟩, ⟨Nat.le_trans hS.1 hsz, fun q g1 g2 => (hk9 q (Nat.lt_of_lt_of_le g1 hS.1)).trans (hS.2.1 q g1 g2)⟩⟩) hS.2.2 q1 q2
  rw [zcat_sum]
  omega

theorem zs_throww (X0 : zCtx p l R s m args meth c cc own Ts nL ret D A a0 M0 mc ms) {x9 ik is ic : Nat} {cls text : String} {names : List String} (hxs : zXs[x9]? = some cls) (hcls : Bundle.fit cls = true) (hnames : ∀ n ∈ names, Bundle.fit n = true) (hk : Cond.classLink own ik cls ∈ Ts) (hini : Cond.initialized cls ∈ Ts) (hq : (own, is, text, none) ∈ zLS) (hat1 : ∀ w ∈ (vx_atS own ic cls names).filter goodWord, w ∈ Ts) (hat2 : ∀ w ∈ (vx_atS own ic cls names).filter (fun w => !goodWord w), w ∈ zXW) (hgood : ∀ w ∈ Cond.classLink own ik cls :: Cond.initialized cls :: vx_atS own ic cls names, vx_ot w = true) (hout : ∀ x ∈ c.exceptionTable.toList, False) (hRf : names.length + 3 < R.frames) (hRl : 8 + (13 * (names.length + 1) + 43) ≤ R.locals) (d : decode cc pc = .ok (.new ik, 3)) (d3 : decode cc (pc + 3) = .ok (.dup, 1)) (d4 : decode cc (pc + 4) = .ok (.ldc_w is, 3)) (d6 : decode cc (pc + 7) = .ok (.invokespecial ic, 3)) (d9 : decode cc (pc + 10) = .ok (.athrow, 1)) : zSd p l e R s m args below meth c nL D A a0 M0 K KX mc ms pc (tThr x9) := by
  obtain ⟨hx, hb, hml, hown, hts, hK, hF, hA, hlk, hrT, hst, hmc, hms, hcl0, hN0⟩ := X0
  intro Ψ hΨ L st M k n h h1 h2 h3 h4 h5 a cy H locs ls hE hO hS hl
  obtain ⟨⟨q1, q2⟩, hrm, h⟩ := h
  obtain ⟨a9, r1, -⟩ := (hF.congr hE hcl0 hN0).2.2.2.2.1 _ hq
  have hat : ∀ w ∈ vx_atS own ic cls names, w.before args s = true := vx_hat (B := zXW) (fun w hw => hts w (hat1 w hw)) hat2 (fun w hw => zXW_use hw (hF.2.2.2.2.2.1 w hw))
  refine vx_throwSW (text := text) (names := names) hx hb hst hown hcls hnames (hts _ hk) (hts _ hini) r1 hat hgood hF.2.2.1 hF.2.2.2.1 hS ((hl.1.trans h3).trans hml.symm) d d3 d4 d6 d9 (fun x hx9 => absurd hx9 (fun z => hout x z)) hRf ?_ (Nat.le_trans q1 hmc) (Nat.le_trans q2 hms) hlk (fun t hal hsz hk9 => ⟨x9, a, cy, M, hxs, h, hE, ⟨hO.1, hO.2.1, hO.2.2.1.moved hal, hO.2.2.2.1.kept (fun k q hq9 => hk9 q.1 (hO.2.2.2.1 k q hq9).lt), hO.2.2.2.2⟩, ⟨Nat.le_trans hS.1 hsz, fun q g1 g2 => (hk9 q (Nat.lt_of_lt_of_le g1 hS.1)).trans (hS.2.1 q g1 g2)⟩⟩) hS.2.2 q1 q2
  rw [zcat_sum]
  omega

end ZS
