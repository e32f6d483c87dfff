/-! the law: methods with handlers -/
def xIO : String := "java/lang/IndexOutOfBoundsException"
def xIA : String := "java/lang/IllegalArgumentException"
def xIS : String := "java/lang/IllegalStateException"
def xNS : String := "java/util/NoSuchElementException"
/-- nothing to ask of other exceptions: one handler a method -/
def zNc0 (_U : State) : Prop := True
theorem zNc0.moved {u U : State} (_ : u.vm.Alike U.vm) (_ : zNc0 u) : zNc0 U := trivial
theorem zlr.none9 {a : Nat → Nat} {L : List (Option ZV)} {ls' : Array Slot} {i : Nat} {w : Value} (hi : i < L.length)
    (h : lv_has ls' L.length ((i, w) :: (zpr a L).filter (fun q => !(q.1 == i) && !(q.1 + 1 == i && q.2.category == 2)))) : zlr a ((zclr L i).set i none) ls' := by
  refine ⟨by rw [List.length_set, zclr_len]; exact h.1, h.2.1, fun j v hj => ?_⟩
  by_cases hji : j = i
  · subst hji
    rw [List.getElem?_set_self (by rw [zclr_len]; exact hi)] at hj
    cases hj
  · rw [List.getElem?_set_ne (Ne.symm hji)] at hj
    obtain ⟨h1, h2⟩ := zclr_at hj
    refine h.2.2 (j, ztr a v) (List.mem_cons_of_mem _ (List.mem_filter.mpr ⟨zpr_in h1, ?_⟩))
    have : (ztr a v).category = zcat v := zcat_ok a v
    simp only [this]
    by_cases h3 : j + 1 = i
    · have h4 : zcat v ≠ 2 := fun z => h2 ⟨h3, z⟩
      simp [hji, h4]
    · simp [hji, h3]
theorem zlvL.none9 {n : Nat} {L : List (Option ZV)} {i : Nat} (h : zlvL n L) : zlvL n ((zclr L i).set i none) := fun w hw => by
  rcases List.mem_or_eq_of_mem_set hw with q | q
  · exact h w (zclr_sub q)
  · cases q
/-- which exception an entry of the law's pool names -/
def cxn (i : Nat) : Option Nat := if i = 113 then some 2 else none
def hps (_ _ : Nat) : Bool := false
def hfind (pc x : Nat) : List (Nat × Nat × Nat × Nat) → Option Nat
  | [] => none
  | q :: r => match cxn q.2.2.2 with
    | none => none
    | some y => if (decide (q.1 ≤ pc) && decide (pc < q.2.1)) = true then (if y = x then some q.2.2.1 else if hps x y = true then hfind pc x r else none) else none

section VL
variable {p : Program} {l : Launch} {e : Env} {R : Room} {s : State} {m : MethodId} {args : Array Value} {below : List Frame} {meth : Method} {c : Code}
variable {cc : ByteArray} {own : String} {Ts : List Cond} {nL : Nat} {ret : Option FieldType} {D : va_G} {A : Nat → Prop} {a0 : Nat → Nat} {M0 : ZM} {K : ZRet} {KX : ZEx} {mc ms : Nat} {pc : Nat}
/-- what the law's pool says of the exceptions -/
def zCx (own : String) (args : Array Value) (s : State) : Prop := ∀ i y, cxn i = some y → i ≠ 0 ∧ ∃ nm, zXs[y]? = some nm ∧ (Cond.classLink own i nm).before args s = true ∧ (Cond.castable nm nm).before args s = true
theorem hps_ok {s : State} (_ : zNc0 s) {x y : Nat} {E nm : String} (h : hps x y = true) (_ : zXs[x]? = some E) (_ : zXs[y]? = some nm) : va_Nc E nm s := nomatch h
theorem hfind_ok {s : State} {args : Array Value} {own : String} (hC : zCx own args s) (hN : zNc0 s) {pc x : Nat} {E : String} (hE : zXs[x]? = some E) : ∀ (hh : List (Nat × Nat × Nat × Nat)) (hp : Nat), hfind pc x hh = some hp →
    ∃ (pre : List ExceptionTableEntry) (z : ExceptionTableEntry) (suf : List ExceptionTableEntry) (nm : String), tableOf hh = pre ++ z :: suf ∧ (∀ w ∈ pre, covers w pc = false ∨ (w.catchType ≠ 0 ∧ ∃ n9 : String, (Cond.classLink own w.catchType n9).before args s = true ∧ va_Nc E n9 s)) ∧ covers z pc = true ∧ z.catchType ≠ 0 ∧ (Cond.classLink own z.catchType nm).before args s = true ∧ (Cond.castable E nm).before args s = true ∧ z.handlerPc = hp := by
  intro hh
  induction hh with
  | nil => intro hp h; cases h
  | cons q r ih =>
    intro hp h
    simp only [hfind] at h
    split at h
    · cases h
    · next y hy =>
      obtain ⟨h0, nm, hn, hl, hc⟩ := hC _ _ hy
      split at h
      · next hcv =>
        split at h
        · next hyx =>
          subst hyx
          cases h
          cases hE.symm.trans hn
          exact ⟨[], ⟨q.1, q.2.1, q.2.2.1, q.2.2.2⟩, tableOf r, E, rfl, (fun w hw => nomatch hw), hcv, h0, hl, hc, rfl⟩
        · split at h
          · next hp9 =>
            obtain ⟨pre, z, suf, nm', e1, e2, e3⟩ := ih hp h
            refine ⟨⟨q.1, q.2.1, q.2.2.1, q.2.2.2⟩ :: pre, z, suf, nm', ?_, fun w hw => ?_, e3⟩
            · show _ :: tableOf r = _
              rw [e1]; rfl
            · rcases List.mem_cons.mp hw with rfl | hw
              · exact Or.inr ⟨h0, nm, hl, hps_ok hN hp9 hE hn⟩
              · exact e2 w hw
          · cases h
      · cases h
/-- a call in a method with handlers: hd says where an exception goes on, behind the store of it, and which local it takes -/
def tCallH (q mc9 ms9 : Nat) (T : ZTf) (P : List ZV → ZM → Prop) (hd : Nat → Option (Nat × Nat)) (nx : Nat) : ZTr := fun Φ _ _ mc ms L st M k n => (k + mc9 ≤ mc ∧ n + ms9 ≤ ms) ∧ ((Nat.ble q st.length = true ∧ Nat.ble ((st.drop q).map zcat).sum 8 = true) ∧ P (st.take q).reverse M) ∧ T (st.take q).reverse M (fun r M' => zrgR r → zrgM M' → Φ nx L (r.toList ++ st.drop q) M' (k + mc9) (n + ms9)) (fun x M' => zrgM M' → ∃ h i, hd x = some (h, i) ∧ Φ h ((zclr L i).set i none) [] M' (k + mc9) (n + ms9))
def zHd (cc : ByteArray) (nL pc : Nat) (hh : List (Nat × Nat × Nat × Nat)) (hd : Nat → Option (Nat × Nat)) : Prop := ∀ x h i, hd x = some (h, i) → i < nL ∧ ∃ hp, hfind pc x hh = some hp ∧ ((decode cc hp = .ok (.astore i, 2) ∧ h = hp + 2) ∨ ∃ q : Fin 4, (q : Nat) = i ∧ decode cc hp = .ok (.astore_n q, 1) ∧ h = hp + 1)

theorem zs_callVH (X0 : zCtx p l R s m args meth c cc own Ts nL ret D A a0 M0 mc ms) {mc9 ms9 : Nat} {q idx maxL : Nat} {y : MethodName} {bytes : ByteArray} {rt : Option FieldType} {ws : List Cond} {rm : Room} {T9 : ZTf} {ci N : Nat} {C : String} {T : u_T} (hcl : zcl2 ci C T N) (hcw : s.vm.findClass own = some m.cls → (∀ w ∈ Ts, w.before args s = true) → CallW R s args own C idx y bytes maxL rt ws rm mc9 ms9 (q - 1)) (hM : zMet l y ws rm mc9 ms9 T9) {hh : List (Nat × Nat × Nat × Nat)} {hd : Nat → Option (Nat × Nat)} (htab : c.exceptionTable.toList = tableOf hh) (hCx : zCx own args s) (hNc : zNc0 s) (hHd : zHd cc nL pc hh hd) (d : decode cc pc = .ok (.invokevirtual idx, 3)) : zSd p l e R s m args below meth c nL D A a0 M0 K KX mc ms pc (tCallH q mc9 ms9 T9 (zRcv ci) hd (pc + 3)) := by
  obtain ⟨hx, hb, hml, hown, hts, hK, hF, hA, hlk, hrT, hst, hmc, hms, hcl0, hN0⟩ := X0
  intro Ψ hΨ L st M k n h h1 h2 h3 h4 h5 a cy H locs ls hE hO hS hl
  obtain ⟨⟨q1, q2⟩, ⟨⟨b1, b2⟩, hP⟩, hT⟩ := h
  obtain ⟨lv1, lv2⟩ := z_lvt (q := q) h5
  have hFc := zA_sub hO.2.2.2.2 hS hA
  have hcf := hF.congr hE hcl0 hN0
  have hpc := zPc_of (av := (st.take q).reverse) hK hF hA hcl0 hN0 hE hO hS lv1
  obtain ⟨j, tl, etl⟩ : ∃ j tl, (st.take q).reverse = zo j :: tl := by
    simp only [zRcv] at hP
    split at hP
    · next j tl he => exact ⟨j, tl, he⟩
    · exact hP.elim
  have hrc : zO M j ci ∧ (zCC ≤ j ∨ ci = 0) := by rw [etl] at hP; exact hP
  have hlen : (tl.map (ztr a)).length = q - 1 := by
    have := z_take b1 a
    rw [etl] at this
    simp at this
    simp
    omega
  have hst9 : st.map (ztr a) = (tl.map (ztr a)).reverse ++ .ref (a j) :: (st.drop q).map (ztr a) := by
    have := z_split b1 a
    rw [etl, List.map_cons, List.reverse_cons, List.append_assoc] at this
    exact this
  have hrm : 2 * (F0 m pc ls (st.map (ztr a))).monitorRoom + (((st.drop q).map (ztr a)).map fun v => v.category).sum ≤ 8 := by
    rw [zF0_room, zcat_sum]
    have := Nat.le_of_ble_eq_true b2
    omega
  rw [etl] at hpc hT
  have hrun := vx_runV (e := e) (below := below) (meth := meth) (locs := locs) (b := a j) (As := tl.map (ztr a)) (rest := (st.drop q).map (ztr a)) (g := F0 m pc ls (st.map (ztr a))) ⟨hx, hb, hml, hown, hts⟩ (hM D a M _ _ _ hT H.size) (hcw hown hts) ⟨zPc_blind, z_recv hcl hK hcf hO hS hrc, hpc⟩ rfl hlen (hl.1.trans h3) hst9 hrm d ⟨Nat.le_trans q1 hmc, Nat.le_trans q2 hms⟩
  refine z_called hrun hS hFc (fun E ce q9 H1 locs1 k9 a' cy' M' hE9 hkx hE' hO' hS' hce hcv hcl' => ?_) (fun r a' cy' M' H1 locs1 hk hE' hlv hO' hS' => ?_)
  · obtain ⟨h9, i9, hhd, hps⟩ := hkx hO'.1.2
    obtain ⟨hi9, hp, hf9, hdc⟩ := hHd _ _ _ hhd
    obtain ⟨pre, z, suf, nm, e1, e2, e3, e4, e5, e6, e7⟩ := hfind_ok hCx hNc hE9 hh hp hf9
    refine vx_catch hown pre z suf (htab.trans e1) e2 e3 e4 e5 e6 hce hcv hcl' ?_
    rw [e7]
    have hl9 := hl.up h4 hE'.2.1
    subst h3
    rcases hdc with ⟨d9, rfl⟩ | ⟨q8, rfl, d9, rfl⟩
    · exact lv_astore hx hb d9 hl9.has hi9 rfl (fun ls' hl8 => hΨ _ _ _ _ _ _ hps q1 q2 (by rw [List.length_set, zclr_len]) ((h4.up hE'.1).none9) (fun v hv => nomatch hv) a' cy' H1 locs1 ls' (hE.trans hE') hO' hS' (zlr.none9 hi9 hl8))
    · exact lv_astore_n hx hb d9 rfl hl9.has hi9 rfl (fun ls' hl8 => hΨ _ _ _ _ _ _ hps q1 q2 (by rw [List.length_set, zclr_len]) ((h4.up hE'.1).none9) (fun v hv => nomatch hv) a' cy' H1 locs1 ls' (hE.trans hE') hO' hS' (zlr.none9 hi9 hl8))
  · have h9 := hΨ _ _ (r.toList ++ st.drop q) _ _ _ (hk (zrgR_of hlv) hO'.1.2) q1 q2 h3 (h4.up hE'.1) (fun v hv => by
      rcases List.mem_append.mp hv with hv | hv
      · cases r with
        | none => cases hv
        | some w =>
          have : v = w := by simpa using hv
          subst this
          exact hlv v rfl
      · exact (lv2 v hv).up hE'.1) a' cy' H1 locs1 ls (hE.trans hE') hO' hS' (hl.up h4 hE'.2.1)
    rw [List.map_append, ztrS_up hE'.2.1 lv2] at h9
    cases r with
    | none => exact h9
    | some w => exact h9
theorem zs_callVt (X0 : zCtx p l R s m args meth c cc own Ts nL ret D A a0 M0 mc ms) {mc9 ms9 : Nat} {q idx maxL : Nat} {y : MethodName} {bytes : ByteArray} {rt : Option FieldType} {ws : List Cond} {rm : Room} {T9 : ZTf} {ci N : Nat} {C : String} {T : u_T} (hcl : zcl2 ci C T N) (hcw : s.vm.findClass own = some m.cls → (∀ w ∈ Ts, w.before args s = true) → CallW R s args own C idx y bytes maxL rt ws rm mc9 ms9 (q - 1)) (hM : zMet l y ws rm mc9 ms9 T9) (d : decode cc pc = .ok (.invokevirtual idx, 3)) : zSd p l e R s m args below meth c nL D A a0 M0 K KX mc ms pc (tCall q mc9 ms9 (zNt T9) (zRcv ci) (pc + 3)) := by
  obtain ⟨hx, hb, hml, hown, hts, hK, hF, hA, hlk, hrT, hst, hmc, hms, hcl0, hN0⟩ := X0
  intro Ψ hΨ L st M k n h h1 h2 h3 h4 h5 a cy H locs ls hE hO hS hl
  obtain ⟨⟨q1, q2⟩, ⟨⟨b1, b2⟩, hP⟩, hT⟩ := h
  obtain ⟨lv1, lv2⟩ := z_lvt (q := q) h5
  have hFc := zA_sub hO.2.2.2.2 hS hA
  have hcf := hF.congr hE hcl0 hN0
  have hpc := zPc_of (av := (st.take q).reverse) hK hF hA hcl0 hN0 hE hO hS lv1
  obtain ⟨j, tl, etl⟩ : ∃ j tl, (st.take q).reverse = zo j :: tl := by
    simp only [zRcv] at hP
    split at hP
    · next j tl he => exact ⟨j, tl, he⟩
    · exact hP.elim
  have hrc : zO M j ci ∧ (zCC ≤ j ∨ ci = 0) := by rw [etl] at hP; exact hP
  have hlen : (tl.map (ztr a)).length = q - 1 := by
    have := z_take b1 a
    rw [etl] at this
    simp at this
    simp
    omega
  have hst9 : st.map (ztr a) = (tl.map (ztr a)).reverse ++ .ref (a j) :: (st.drop q).map (ztr a) := by
    have := z_split b1 a
    rw [etl, List.map_cons, List.reverse_cons, List.append_assoc] at this
    exact this
  have hrm : 2 * (F0 m pc ls (st.map (ztr a))).monitorRoom + (((st.drop q).map (ztr a)).map fun v => v.category).sum ≤ 8 := by
    rw [zF0_room, zcat_sum]
    have := Nat.le_of_ble_eq_true b2
    omega
  rw [etl] at hpc hT
  have hrun := z_run0 (XC := zXC D a M (zA a M H.size) (fun _ _ => False)) (va_runV (e := e) (below := below) (meth := meth) (locs := locs) (b := a j) (As := tl.map (ztr a)) (rest := (st.drop q).map (ztr a)) (g := F0 m pc ls (st.map (ztr a))) ⟨hx, hb, hml, hown, hts⟩ (z_met0 (hM D a M _ _ _ hT H.size) zXC_no) (hcw hown hts) ⟨zPc_blind, z_recv hcl hK hcf hO hS hrc, hpc⟩ rfl hlen (hl.1.trans h3) hst9 hrm d ⟨Nat.le_trans q1 hmc, Nat.le_trans q2 hms⟩)
  refine z_called hrun hS hFc (fun E ce q9 H1 locs1 k9 a' cy' M' hE9 hkx hE' hO' hS' hce hcv hcl' => ?_) (fun r a' cy' M' H1 locs1 hk hE' hlv hO' hS' => ?_)
  · exact hkx.elim
  · have h9 := hΨ _ _ (r.toList ++ st.drop q) _ _ _ (hk (zrgR_of hlv) hO'.1.2) q1 q2 h3 (h4.up hE'.1) (fun v hv => by
      rcases List.mem_append.mp hv with hv | hv
      · cases r with
        | none => cases hv
        | some w =>
          have : v = w := by simpa using hv
          subst this
          exact hlv v rfl
      · exact (lv2 v hv).up hE'.1) a' cy' H1 locs1 ls (hE.trans hE') hO' hS' (hl.up h4 hE'.2.1)
    rw [List.map_append, ztrS_up hE'.2.1 lv2] at h9
    cases r with
    | none => exact h9
    | some w => exact h9
/-- a wrapper's contract: a method with handlers that never throws -/
def zMetW (l : Launch) (y : MethodName) (ws : List Cond) (rm : Room) (mc ms : Nat) (T : List ZV → ZM → ZRet → Prop) : Prop :=
  ∀ (D : va_G) (a : Nat → Nat) (M : ZM) (av : List ZV) (K : ZRet), T av M K → ∀ sz, Met l y ws rm (fun v U => zPc D a M av sz v U ∧ zNc0 U) (zQc D a M (zA a M sz) K) mc ms (zA a M sz)
theorem zPc_blind9 {D : va_G} {a : Nat → Nat} {M : ZM} {av : List ZV} {sz : Nat} : FrameBlind (fun v U => zPc D a M av sz v U ∧ zNc0 U) := by
  intro v U g mk h
  exact ⟨zPc_blind v U g mk h.1, h.2.moved (show U.vm.Alike (U.calling g mk v).vm from Vm.Alike.refl U.vm)⟩
theorem zMetW_of {l : Launch} (hl : l.stackTraces = false) {y : MethodName} {ws ws' : List Cond} {cc : ByteArray} {maxL : Nat} {rt : Option FieldType} {hh : List (Nat × Nat × Nat × Nat)} {rm : Room} {mc ms : Nat} {own : String} {code : List (Nat × ZTr)} {T : List ZV → ZM → ZRet → Prop}
    (hy : plainName y.cls = true) (hown : y.cls = own) (hw : ws = Cond.codeWith y cc maxL rt hh :: ws') (hrc : rm.cells = mc) (hrs : rm.slots = ms)
    (hs : ∀ (p : Program) (e : Env) (s : State) (m : MethodId) (args : Array Value) (below : List Frame) (meth : Method) (c : Code) (D : va_G) (A : Nat → Prop) (a0 : Nat → Nat) (M0 : ZM) (K : ZRet) (KX : ZEx), zCtx p l rm s m args meth c cc own ws maxL rt D A a0 M0 mc ms → c.exceptionTable.toList = tableOf hh → zNc0 s → ∀ q ∈ code, zSd p l e rm s m args below meth c maxL D A a0 M0 K KX mc ms q.1 q.2)
    (hbd : ∀ av M K, zrgA av → zrgM M → T av M K → Nat.ble (zEn av).length maxL = true ∧ ∀ Φ, zClosed code K (fun _ _ => False) mc ms Φ → Φ 0 (zEnt maxL av) [] M 0 0) : zMetW l y ws rm mc ms T := by
  intro D a M av K hT sz
  refine z_met0 (XC := zXC D a M (zA a M sz) (fun _ _ => False)) ?_ zXC_no
  refine vx_ofWH (cc := cc) (maxL := maxL) (ret := rt) (hh := hh) hy hw ?_
  intro p e s m args below meth c s₁ B hml hPc
  obtain ⟨⟨rfl, hsz, hlv, hK, ⟨cy, hO⟩, hF⟩, hNc⟩ := hPc
  subst hsz
  obtain ⟨hlen, hb⟩ := hbd av M K (zrgA_of hlv) hO.1.2 hT
  have hlen := Nat.le_of_ble_eq_true hlen
  have hC : zCtx p l rm s m (av.map (ztr a)).toArray meth c cc own ws maxL rt D (zA a M s.heap.size) a M mc ms :=
    ⟨B.exec, B.bytes, hml, by rw [← hown]; exact findClass_of_methodNamed B.named, atoms_spec B.pre, hK, hF, fun q hq => Or.inr hq, B.notSynchronized, B.returns, hl, Nat.le_of_eq hrc.symm, Nat.le_of_eq hrs.symm, hO.1, hO.2.1⟩
  have ht : c.exceptionTable.toList = tableOf hh := vx_table (x := y) B (atoms_spec B.pre _ (by rw [hw]; exact List.mem_cons_self))
  have h9 := hb _ (zClosed_of (hs p e s m _ below meth c D (zA a M s.heap.size) a M K (fun _ _ => False) hC ht hNc))
  rw [lg_entry_eq]
  refine h9 (Nat.zero_le _) (Nat.zero_le _) (zEnt_len hlen) (zEnt_lv hlv) (fun v hv => nomatch hv) a cy s.heap [] _ zEx.rf ⟨hO.1, hO.2.1, hO.2.2.1, hO.2.2.2.1, zD_self hO.2.2.2.2⟩ va_S.rf ?_
  have he := lv_entry (av.map (ztr a)) (n := maxL) (by rw [zEn_len]; exact hlen)
  refine ⟨by rw [zEnt_len hlen]; exact he.1, he.2.1, fun i v hv => ?_⟩
  have := zEn_at a av 0 i v (zEnt_at hv)
  rw [Nat.zero_add] at this
  exact he.2.2 _ this
/-- what the pool of the law says, from its words -/
theorem zCx_of (X0 : zCtx p l R s m args meth c cc own Ts nL ret D A a0 M0 mc ms) (h2 : Cond.classLink own 113 xIS ∈ Ts) : zCx own args s := by
  obtain ⟨hx, hb, hml, hown, hts, hK, hF, hA, hlk, hrT, hst, hmc, hms, hcl0, hN0⟩ := X0
  have hc : ∀ E, Cond.castable E E ∈ zXW → (Cond.castable E E).before args s = true := fun E hE => zXW_use hE (hF.2.2.2.2.2.1 _ hE)
  intro i y h
  simp only [cxn] at h
  split at h
  · next e => subst e; cases h; exact ⟨by decide, xIS, rfl, hts _ h2, hc _ (by decide +kernel)⟩
  · cases h
theorem zs_callSW (X0 : zCtx p l R s m args meth c cc own Ts nL ret D A a0 M0 mc ms) {mc9 ms9 : Nat} {q idx maxL : Nat} {y : MethodName} {bytes : ByteArray} {rt : Option FieldType} {ws : List Cond} {rm : Room} {T9 : List ZV → ZM → ZRet → Prop} {hh : List (Nat × Nat × Nat × Nat)} (hNc : zNc0 s) (hcw : s.vm.findClass own = some m.cls → (∀ w ∈ Ts, w.before args s = true) → vx_CSW R s args own idx y bytes maxL rt hh ws rm mc9 ms9 q) (hM : zMetW l y ws rm mc9 ms9 T9) (d : decode cc pc = .ok (.invokestatic idx, 3)) : zSd p l e R s m args below meth c nL D A a0 M0 K KX mc ms pc (tCall q mc9 ms9 (fun av M K _ => T9 av M K) zAny (pc + 3)) := by
  obtain ⟨hx, hb, hml, hown, hts, hK, hF, hA, hlk, hrT, hst, hmc, hms, hcl0, hN0⟩ := X0
  intro Ψ hΨ L st M k n h h1 h2 h3 h4 h5 a cy H locs ls hE hO hS hl
  obtain ⟨⟨q1, q2⟩, ⟨⟨b1, b2⟩, hP⟩, hT⟩ := h
  obtain ⟨lv1, lv2⟩ := z_lvt (q := q) h5
  have hFc := zA_sub hO.2.2.2.2 hS hA
  have hcf := hF.congr hE hcl0 hN0
  have hpc := zPc_of (av := (st.take q).reverse) hK hF hA hcl0 hN0 hE hO hS lv1
  have hrm : 2 * (F0 m pc ls (st.map (ztr a))).monitorRoom + (((st.drop q).map (ztr a)).map fun v => v.category).sum ≤ 8 := by
    rw [zF0_room, zcat_sum]
    have := Nat.le_of_ble_eq_true b2
    omega
  have hrun := z_run0 (XC := zXC D a M (zA a M H.size) (fun _ _ => False)) (vx_runSW (hh := hh) (e := e) (below := below) (meth := meth) (locs := locs) (As := (st.take q).reverse.map (ztr a)) (rest := (st.drop q).map (ztr a)) (g := F0 m pc ls (st.map (ztr a))) ⟨hx, hb, hml, hown, hts⟩ (hM D a M _ _ hT H.size) (hcw hown hts) ⟨zPc_blind9, fun U hU hW => ⟨hpc U hU hW, hNc.moved hW.alike⟩⟩ rfl (z_take b1 a) (hl.1.trans h3) (z_split b1 a) hrm d ⟨Nat.le_trans q1 hmc, Nat.le_trans q2 hms⟩)
  refine z_called hrun hS hFc (fun E ce q9 H1 locs1 k9 a' cy' M' hE9 hkx hE' hO' hS' hce hcv hcl' => ?_) (fun r a' cy' M' H1 locs1 hk hE' hlv hO' hS' => ?_)
  · exact hkx.elim
  · have h9 := hΨ _ _ (r.toList ++ st.drop q) _ _ _ (hk (zrgR_of hlv) hO'.1.2) q1 q2 h3 (h4.up hE'.1) (fun v hv => by
      rcases List.mem_append.mp hv with hv | hv
      · cases r with
        | none => cases hv
        | some w =>
          have : v = w := by simpa using hv
          subst this
          exact hlv v rfl
      · exact (lv2 v hv).up hE'.1) a' cy' H1 locs1 ls (hE.trans hE') hO' hS' (hl.up h4 hE'.2.1)
    rw [List.map_append, ztrS_up hE'.2.1 lv2] at h9
    cases r with
    | none => exact h9
    | some w => exact h9
theorem zCSW {w0 : Cond} {idx : Nat} {y : MethodName} {bytes : ByteArray} {maxL : Nat} {rt : Option FieldType} {hh : List (Nat × Nat × Nat × Nat)} {rm : Room} {mc ms q : Nat} (ht : ∀ w ∈ w0 :: zG, w.before args s = true) (h1 : Cond.codeWith y bytes maxL rt hh ∈ zG) (h2 : Cond.initialized y.cls ∈ zG) (h3 : Cond.methodLink own idx y ∈ zG) (h4 : Cond.static y ∈ zG) (hrc : rm.cells = mc) (hrs : rm.slots = ms)
    (hd : (y.cls ≠ "java/lang/invoke/MethodHandle" ∧ y.cls ≠ "java/lang/invoke/VarHandle") ∧ (parseMethodDescriptor y.desc).map (fun d => d.parameters.length) = some q) (hR : rm.frames + 1 ≤ R.frames ∧ 8 + (maxL + 11) + rm.locals ≤ R.locals) : vx_CSW R s args own idx y bytes maxL rt hh (Cond.codeWith y bytes maxL rt hh :: zG) rm mc ms q := by
  have ht' : ∀ w ∈ zG, w.before args s = true := fun w hw => ht w (List.mem_cons_of_mem _ hw)
  have hg : ∀ w ∈ zG, ∀ (a' : Array Value) (U : State), s.WarmedH U.vm → w.before a' U = true := fun w hw a' U hW => word_at hW (good_of_word (zG_good hw)) (ht' w hw)
  refine ⟨⟨hrc, hrs, hR.1, hR.2, fun w hw => ?_, List.mem_cons_self⟩, ht' _ h1, ht' _ h2, hd.1, fun sig hsig => ?_, ht' _ h3, ht' _ h4⟩
  · rcases List.mem_cons.mp hw with rfl | hw
    · exact hg _ h1
    · exact hg _ hw
  · have h9 := hd.2
    rw [hsig] at h9
    exact (Option.some.inj h9).symm

/-- what a wrapper's body owes -/
def zBdW (code : List (Nat × ZTr)) (maxL mc ms : Nat) (T : List ZV → ZM → ZRet → Prop) : Prop := ∀ av M K, zrgA av → zrgM M → T av M K → Nat.ble (zEn av).length maxL = true ∧ ∀ Φ, zClosed code K (fun _ _ => False) mc ms Φ → Φ 0 (zEnt maxL av) [] M 0 0
theorem b2i_ne {b : Bool} (h : b2i b ≠ 0) : b2i b = 1 := by
  cases b
  · exact absurd rfl h
  · rfl
end VL
