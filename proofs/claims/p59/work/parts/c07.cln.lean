/-! a byte array's clone -/
theorem cln_eq {M : ZM} (n : Nat) (f : Nat → Int) {x : Nat} (h : x < zN M) : zeq M (zsA (zNw M 21 n) (zN M) f) x := by
  have hn : x ≠ zN M := by omega
  refine ⟨up1_n _ _ _ hn, up1_n _ _ _ hn, ?_, up1_n _ _ _ hn⟩
  show (fun y => if x = zN M then f y else zI (zNw M 21 n) x y) = zI M x
  funext y
  rw [if_neg hn]
  exact congrFun (up1_n _ _ _ hn) y
theorem cln_zcl {M : ZM} {n : Nat} {f : Nat → Int} (h : zcl M) (hn : n < 2147483648) (hf : ∀ k, zrg (f k)) : zcl (zsA (zNw M 21 n) (zN M) f) := by
  have h9 := zcl_new h 21 n hn
  refine ⟨h9.1, fun j => ⟨(h9.2 j).1, fun k => ?_⟩⟩
  have h8 := (h9.2 j).2 k
  show (zK (zNw M 21 n) j = 23 → zrl (if j = zN M then f k else zI (zNw M 21 n) j k)) ∧ (zK (zNw M 21 n) j ≠ 23 → zK (zNw M 21 n) j ≠ 24 → zrg (if j = zN M then f k else zI (zNw M 21 n) j k))
  by_cases e : j = zN M
  · rw [if_pos e]
    subst e
    have e1 : zK (zNw M 21 n) (zN M) = 21 := up1_s _ _ _
    rw [e1]
    exact ⟨fun z => absurd z (by decide), fun _ _ => hf k⟩
  · rw [if_neg e]
    exact h8
theorem zOK.pushC {D : va_G} {cy a : Nat → Nat} {M : ZM} {A : Nat → Prop} {U : State} {H H1 : Heap} {q n : Nat} {cA : ClassId} {e : va_E} {f : Nat → Int} (h : zOK D cy a M A U H) (hn9 : n < 2147483648) (hf : ∀ k, zrg (f k)) (hc : ArrOfT U cA (ztyK 21) ∧ va_RA U cA (ztyK 21)) (he : zE (up1 cy (zN M) cA) (up1 a (zN M) q) (zsA (zNw M 21 n) (zN M) f) (zN M) = e)
    (hP : va_P D vwCl (zWs cy a M ++ [(q, e)]) H1) (hD : va_D A (zWs cy a M ++ [(q, e)])) : zOK D (up1 cy (zN M) cA) (up1 a (zN M) q) (zsA (zNw M 21 n) (zN M) f) A U H1 := by
  have ha : ∀ j, j < zN M → up1 a (zN M) q j = a j := fun j hj => up1_n _ _ _ (by omega)
  have hcy : ∀ j, j < zN M → up1 cy (zN M) cA j = cy j := fun j hj => up1_n _ _ _ (by omega)
  rw [zWs_push (M' := zsA (zNw M 21 n) (zN M) f) h.2.1 rfl (up1_s a (zN M) q) he (fun x hx => ⟨ha x hx, by rw [zE_eq (cln_eq n f hx)]; exact zE_up h.1 ha hcy hx⟩)] at hP hD
  refine ⟨cln_zcl h.1 hn9 hf, by have := h.2.1; show zCC ≤ zN M + 1; omega, fun j h1 h2 h3 => ?_, hP, hD⟩
  by_cases c : j = zN M
  · subst c
    have e1 : zK (zsA (zNw M 21 n) (zN M) f) (zN M) = 21 := up1_s _ _ _
    rw [e1]
    rw [up1_s]
    exact hc
  · have h2 : j < zN M + 1 := h2
    have hj : j < zN M := by omega
    have e1 : zK (zsA (zNw M 21 n) (zN M) f) j = zK M j := (cln_eq n f hj).1
    rw [e1] at h3 ⊢
    rw [hcy j hj]
    exact h.2.2.1 j h1 hj h3
theorem zEx.pushC {a0 a : Nat → Nat} {M0 M : ZM} {q n : Nat} {f : Nat → Int} (h : zEx a0 M0 a M) (hN : zCC ≤ zN M) : zEx a0 M0 (up1 a (zN M) q) (zsA (zNw M 21 n) (zN M) f) :=
  h.trans ⟨Nat.le_succ _, fun j hj => up1_n _ _ _ (by omega), fun x hx => cln_eq n f (by omega)⟩
abbrev yCln : MethodName := ⟨"[B", "clone", "()Ljava/lang/Object;"⟩
abbrev yOCln : MethodName := ⟨"java/lang/Object", "clone", "()Ljava/lang/Object;"⟩
def tCln (nx : Nat) : ZTr := fun Φ _ _ mc ms L st M k n => match st with | .inr (.inl (some j)) :: r => (zW M j 21 ∧ (∀ q, zPb (zI M j q)) ∧ k + 1 ≤ mc ∧ n + zLn M j ≤ ms ∧ Nat.ble (r.map zcat).sum 8 = true) ∧ Φ nx L (zo (zN M) :: r) (zsA (zNw M 21 (zLn M j)) (zN M) (zI M j)) (k + 1) (n + zLn M j) | _ => False
section ZV
variable {p : Program} {l : Launch} {e : Env} {R : Room} {s : State} {m : MethodId} {args : Array Value} {below : List Frame} {meth : Method} {c : Code}
variable {cc : ByteArray} {own : String} {Ts : List Cond} {nL : Nat} {ret : Option FieldType} {D : va_G} {A : Nat → Prop} {a0 : Nat → Nat} {M0 : ZM} {K : ZRet} {KX : ZEx} {mc ms : Nat} {pc : Nat}
theorem zs_clone21 (X0 : zCtx p l R s m args meth c cc own Ts nL ret D A a0 M0 mc ms) {idx : Nat} (w1 : Cond.methodLink own idx yCln ∈ Ts) (w2 : Cond.sameMethod "[B" "java/lang/Object" "clone" "()Ljava/lang/Object;" ∈ Ts) (w3 : Cond.native yOCln ∈ Ts) (w4 : Cond.instanceMethod yOCln ∈ Ts) (w5 : Cond.selects "[B" yCln yOCln ∈ Ts) (w6 : Cond.castable "[B" "java/lang/Cloneable" ∈ zXW) (hf9 : 1 ≤ R.frames) (hlo : 8 + 14 ≤ R.locals) (d : decode cc pc = .ok (.invokevirtual idx, 3)) : zSd p l e R s m args below meth c nL D A a0 M0 K KX mc ms pc (tCln (pc + 3)) := by
  obtain ⟨hx, hb, hml, hown, hts, hK, hF, hA, hlk, hrT, hst, hmc, hms, hcl0, hN0⟩ := X0
  intro Ψ hΨ L st M k n h h1 h2 h3 h4 h5 a cy H locs ls hE hO hS hl
  simp only [tCln] at h
  split at h
  · next j r =>
    obtain ⟨⟨⟨e1, g1, g2⟩, b1, q1, q2, b7⟩, h⟩ := h
    have b7 := Nat.le_of_ble_eq_true b7
    have hc9 := hO.2.2.1 j g1 g2 (by rw [e1]; decide)
    have hKj := hO.k hK g1 g2 (by rw [e1]; decide)
    rw [e1] at hc9 hKj
    have hn9 : zLn M j < 2147483648 := (hO.1.2 j).1
    refine va_clone (D := D) (ws := zWs cy a M) (x := (zLn M j, .inl (fun k => Int32.ofInt (zI M j k)))) hx hb (hml.trans (h3.symm.trans hl.1.symm)) hown (hts _ w1) (hts _ w2) (hts _ w3) (hts _ w4) (hts _ w5) (hF.2.2.2.2.2.1 _ w6) hKj hO.2.2.2.1 hO.2.2.2.2 hS hA (j - zCC) 0 ((zWs_get g1 g2).trans (by rw [zE_a e1 (by decide)]; simp only [zar, e1]; rfl)) rfl (va_nm_byte hc9.2) (va_fit (fun i _ => (zP_byte _ (b1 i)).2)) hf9 (by rw [zcat_sum]; omega) (Nat.le_trans q1 hmc) (Nat.le_trans q2 hms) d (fun q H1 hK1 hP1 hD1 hS1 => ?_)
    have ha : ∀ x, x < zN M → up1 a (zN M) q x = a x := fun x hj => up1_n _ _ _ (by omega)
    have h9 := hΨ _ _ _ _ _ _ h q1 q2 h3 (h4.up (Nat.le_succ _)) ((h5.tl.up (Nat.le_succ _)).cons (zlv_o (Nat.lt_succ_self _))) (up1 a (zN M) q) (up1 cy (zN M) (cy j)) H1 locs ls (hE.pushC hO.2.1) (hO.pushC (n := zLn M j) hn9 (fun k => zcl_rg hO.1 e1 (by decide) (by decide) _) hc9 (by
      have e' : zK (zsA (zNw M 21 (zLn M j)) (zN M) (zI M j)) (zN M) = 21 := up1_s _ _ _
      have el : zLn (zsA (zNw M 21 (zLn M j)) (zN M) (zI M j)) (zN M) = zLn M j := up1_s _ _ _
      have ei : zI (zsA (zNw M 21 (zLn M j)) (zN M) (zI M j)) (zN M) = zI M j := funext (fun y => if_pos rfl)
      rw [zE_a e' (by decide)]
      simp only [zar, e', el, ei, up1_s]
      rfl) hP1 hD1) hS1 (hl.up h4 ha)
    rw [List.map_cons, ztrS_up ha h5.tl] at h9
    rw [show ztr (up1 a (zN M) q) (zo (zN M)) = .ref q by simp [ztr, va_rf, up1]] at h9
    exact h9
  · exact h.elim
end ZV
def tCst (nx : Nat) : ZTr := fun Φ _ _ _ _ L st M k n => match st with | .inr (.inl (some j)) :: r => zW M j 21 ∧ Φ nx L (zo j :: r) M k n | _ => False
section ZV2
variable {p : Program} {l : Launch} {e : Env} {R : Room} {s : State} {m : MethodId} {args : Array Value} {below : List Frame} {meth : Method} {c : Code}
variable {cc : ByteArray} {own : String} {Ts : List Cond} {nL : Nat} {ret : Option FieldType} {D : va_G} {A : Nat → Prop} {a0 : Nat → Nat} {M0 : ZM} {K : ZRet} {KX : ZEx} {mc ms : Nat} {pc : Nat}
theorem zs_cast21 (X0 : zCtx p l R s m args meth c cc own Ts nL ret D A a0 M0 mc ms) {idx : Nat} (w1 : Cond.classLink own idx "[B" ∈ Ts) (d : decode cc pc = .ok (.checkcast idx, 3)) : zSd p l e R s m args below meth c nL D A a0 M0 K KX mc ms pc (tCst (pc + 3)) := by
  obtain ⟨hx, hb, hml, hown, hts, hK, hF, hA, hlk, hrT, hst, hmc, hms, hcl0, hN0⟩ := X0
  intro Ψ hΨ L st M k n h h1 h2 h3 h4 h5 a cy H locs ls hE hO hS hl
  simp only [tCst] at h
  split at h
  · next j r =>
    obtain ⟨⟨e1, g1, g2⟩, h⟩ := h
    have hc9 := hO.2.2.1 j g1 g2 (by rw [e1]; decide)
    rw [e1] at hc9
    have h9 := hΨ _ _ _ _ _ _ h h1 h2 h3 h4 h5 a cy H locs ls hE hO hS hl
    exact va_castA (D := D) (ws := zWs cy a M) hx hb hown (hts _ w1) hO.2.2.2.1 (j - zCC) ((zWs_get g1 g2).trans (by rw [zE_a e1 (by decide)])) (va_nm_byte hc9.2) d h9
  · exact h.elim
end ZV2
