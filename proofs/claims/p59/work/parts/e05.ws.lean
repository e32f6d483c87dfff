/-! THE CLAIM OUT OF ONE WALK OF THE LAW'S BODY. Your part is whole_start (and what it stands on); all else here is the same for every law, but numbers. -/
def R_law : String := "ReviewTableLaw"
def lw_P (b : Addr) (xs : List Int32) (args : Array Value) (s : State) : Prop := args = #[.ref b] ∧ s.IntsAt b xs ∧ xs.length ≤ 260 ∧ (Jvm.Cond.and given_1 narrow_1).before args s = true
def lw_Q (_ : Array Value) (s : State) (o : Outcome) (t : State) : Prop := o = .returned (some (.int 1)) ∧ Framed s o t [] 600086 7301442
def lw_Z (below : List Frame) (a : Array Value) (s : State) : State → Prop := fun t => ∃ o, t.status = .running ∧ Ended t below o ∧ lw_Q a s o t
/-- the law's own end, with 1 on the stack, nothing written that was there before, its room as the claim has it -/
theorem lw_ret {p : Program} {l : Launch} {e : Env} {s : State} {m : MethodId} {below : List Frame} {meth : Method} {c : Code} {b : Nat} (hx : p.tables.exec = Jvm.exec) (hb : c.code = code) (hr : meth.sig.returnType = ret) (hlocks : meth.locks = false) {pc : Nat} {H : Heap} {ls : Array Slot} (hdg : decode code pc = .ok (.ireturn, 1)) : W p l e room_1 s m #[Value.ref b] below meth c H [] 600086 7301442 (lw_Z below #[Value.ref b] s) (F0 m pc ls [.int 1]) := by
  intro T hT X
  obtain ⟨fs, hret, hrun, hended, hW, hframe⟩ := X.leave (v := some (.int 1)) (hlocks := hlocks) (fun h => by rw [hr] at h; cases h)
  have hmeth' : T.vm.method? m = some meth := X.method'
  refine ⟨T.setFrames fs, ?_, .returned (some (.int 1)), hrun, hended, rfl, ⟨_, rfl⟩, hW, hframe⟩
  jvm_step X.here [X.here.top, hx, hb, hdg, hmeth', hr, ret, narrow_b1]
  (try refine ⟨rfl, ?_⟩); (try refine ⟨rfl, ?_⟩)
  first | (intro acts; rw [hret _ acts rfl rfl rfl]) | rw [hret _ _ rfl rfl rfl]
  exact Steps.refl _
/-- what holds at the law's entry: the machine, the code, the tables' words (any of lw_tbl by 'hts w (by decide +kernel)'), the script of L ints xs at the cell b, what the Statement gives of the start (any of its parts by flat_of_before) -/
def lw_At (p : Program) (s : State) (m : MethodId) (meth : Method) (c : Code) (b L : Nat) (xs : Nat → Int32) : Prop :=
  p.tables.exec = Jvm.exec ∧ c.code = code ∧ meth.sig.returnType = ret ∧ c.maxLocals = 9 ∧ s.vm.findClass R_law = some m.cls ∧ (∀ w ∈ lw_tbl, w.before #[Value.ref b] s = true) ∧ va_X b L xs s s.heap ∧ b < s.heap.size ∧ meth.locks = false ∧ (Jvm.Cond.and given_1 narrow_1).before #[Value.ref b] s = true ∧ (∀ y ∈ c.exceptionTable.toList, False) ∧ meth.name = x.name ∧ (Jvm.Cond.code x code maxLocals ret).before #[Value.ref b] s = true
theorem lw_end {s t : State} {o : Outcome} {A : Nat → Prop} {D : va_G} {a0 : Nat → Nat} {M0 : ZM} {below : List Frame} {args : Array Value} (hA : ∀ q, A q → s.heap.size ≤ q) (h1 : t.status = .running) (h2 : Ended t below o) (h : vx_Q (zQc D a0 M0 A (fun r _ => r = some (zi 1))) (zXC D a0 M0 A (fun _ _ => False)) 600086 7301442 A args s o t) : lw_Z below args s t := by
  rcases h with ⟨⟨r, a, cy, M, hr, hk, -⟩, L, hF, hL⟩ | ⟨q, -, E, ce, L, ⟨k, a, cy, M, -, hx, -⟩, -⟩
  · have hk : r = some (zi 1) := hk
    subst hk
    have ho : o = .returned (some (.int 1)) := hr.trans (by
      show Outcome.returned (some (Value.int (Int32.ofInt 1))) = _
      rw [show Int32.ofInt 1 = 1 from by decide])
    refine ⟨o, h1, h2, ho, ?_⟩
    exact ⟨⟨_, ho⟩, hF.2.1, State.sameButNew.drop_fresh (L := []) hF.2.2 (fun x hx => hA _ (hL x hx))⟩
  · exact hx.elim
set_option maxRecDepth 100000 in
set_option maxHeartbeats 1500000 in
theorem whole_start {p : Program} {e : Env} {s : State} {m : MethodId} {below : List Frame} {meth : Method} {c : Code} (l : Launch) (hflags : l.flags = flags0) {b L : Nat} {xs : Nat → Int32} (hL : L ≤ 260) (C0 : lw_At p s m meth c b L xs) : W p l e room_1 s m #[Value.ref b] below meth c s.heap [] 0 0 (lw_Z below #[Value.ref b] s) (entryFrame m ([Value.ref b] : List Value).toArray 9) := by
  obtain ⟨hx, hb, hr, hml, hown, hts, hX, hbl, hlocks, hgv, hex, hnm, hcw⟩ := id C0
  have hl : l.stackTraces = false := by
    unfold Launch.stackTraces
    rw [hflags]
    decide
  obtain ⟨D, hK⟩ := st_K hts
  obtain ⟨a0, a62, hF⟩ := st_all (A := fun q => s.heap.size ≤ q) hgv hts (fun a ha => Nat.not_le.mpr ha) hX hbl
  have hC : zCtx p l rm_L_law s m #[Value.ref b] meth c cL_law RL (Cond.code yL_law cL_law 9 (Option.some Jvm.ClassFile.FieldType.boolean) :: zG) 9 (Option.some Jvm.ClassFile.FieldType.boolean) D (fun q => s.heap.size ≤ q) a0 (zM0 L xs) 600086 7301442 := ⟨hx, hb, hml, hown, fun w hw => by
    rcases List.mem_cons.mp hw with rfl | hw
    · exact hcw
    · exact hts _ (List.mem_filter.mp hw).1, hK, hF, fun q h => h, hlocks, hr, hl, Nat.le_refl _, Nat.le_refl _, zM0_cl hL, Nat.le_refl _⟩
  have h9 : zPhi p l e rm_L_law s m #[Value.ref b] below meth c 9 D (fun q => s.heap.size ≤ q) a0 (zM0 L xs) (fun r _ => r = some (zi 1)) (fun _ _ => False) 600086 7301442 0 [some (zo 62), none, none, none, none, none, none, none, none] [] (zM0 L xs) 0 0 :=
    LW_go (S := (L, fun j => (xs j).toInt)) (zClosed_of (hs_L_law hl (M_X8_init hl) (M_L_load hl) (M_X8_property hl) (M_L_draw hl) (M_L_inWork hl) (M_L_delivers hl) (M_L_passes hl) (M_L_audits hl) (M_L_act hl) (M_L_holds hl) p e s m #[Value.ref b] below meth c D _ a0 (zM0 L xs) (fun r _ => r = some (zi 1)) (fun _ _ => False) hC hnm hex)) rfl zM0_KC zM0_KL zM0_KD zM0_S (Nat.lt_of_le_of_lt hL (by decide)) (fun _ => rfl)
  have hcl := zM0_cl (xs := xs) hL
  have hws : zWs (fun _ => 0) a0 (zM0 L xs) = [] := rfl
  rw [lg_entry_eq]
  have h8 := h9 (Nat.zero_le _) (Nat.zero_le _) rfl (by
    intro v hv
    simp only [List.mem_cons, List.not_mem_nil, or_false] at hv
    rcases hv with hv | hv | hv | hv | hv | hv | hv | hv | hv
    · cases hv; exact zlv_o (show 62 < 64 by decide)
    all_goals cases hv) (fun v hv => nomatch hv) a0 (fun _ => 0) s.heap [] ((lg_sl ([Value.ref b]) ++ List.replicate (9 - (lg_sl ([Value.ref b])).length) Slot.unset).toArray) zEx.rf ⟨hcl, Nat.le_refl _, fun j h1 h2 => absurd (Nat.lt_of_le_of_lt h1 h2) (Nat.lt_irrefl _), (fun k q h => by rw [hws] at h; simp at h), ⟨(fun i j p q h => by rw [hws] at h; simp at h), (fun k q h => by rw [hws] at h; simp at h)⟩⟩ va_S.rf (by
    have he := lv_entry ([Value.ref b]) (n := 9) (Nat.le_of_ble_eq_true rfl)
    refine ⟨he.1, he.2.1, fun i v hv => ?_⟩
    match i, hv with
    | 0, hv =>
      cases hv
      show _ = some (Slot.val (Value.ref (a0 62)))
      rw [a62]
      exact he.2.2 (0, Value.ref b) List.mem_cons_self
    | 1, hv => cases hv
    | 2, hv => cases hv
    | 3, hv => cases hv
    | 4, hv => cases hv
    | 5, hv => cases hv
    | 6, hv => cases hv
    | 7, hv => cases hv
    | 8, hv => cases hv
    | i + 9, hv => cases hv)
  intro T hT X
  obtain ⟨t, g1, o, g2, g3, g4⟩ := h8 T hT X
  exact ⟨t, g1, lw_end (fun q h => h) g2 g3 g4⟩
