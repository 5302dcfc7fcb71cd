/-! our own words for worlds, contracts, calls -/
abbrev zTy : Type := List (ClassId × FieldType)
abbrev zPre (D : va_G) (tys : zTy) (ws : va_W) (sz : Nat) : State → Prop := fun U => U.heap.size = sz ∧ va_P D vwCl ws U.heap ∧ va_K D vwCl tys U ∧ va_D (fun _ => True) ws
/-- what lies in the heap behind a method -/
abbrev zB (D : va_G) (tys : zTy) (ws' : va_W) (A : Nat → Prop) : Unit → State → Prop := fun _ t => va_P D vwCl ws' t.heap ∧ va_K D vwCl tys t ∧ va_D A ws'
abbrev zQi (D : va_G) (tys : zTy) (ws' : va_W) (r : Int32) (A : Nat → Prop) : Array Value → State → Outcome → State → Prop := va_Qi (fun x (_ : Unit) => x = r) (zB D tys ws' A) A
abbrev zQl (D : va_G) (tys : zTy) (ws' : va_W) (r : Int64) (A : Nat → Prop) : Array Value → State → Outcome → State → Prop := va_Ql (fun x (_ : Unit) => x = r) (zB D tys ws' A) A
abbrev zQd (D : va_G) (tys : zTy) (ws' : va_W) (r : UInt64) (A : Nat → Prop) : Array Value → State → Outcome → State → Prop := va_Qd (fun x (_ : Unit) => x = r) (zB D tys ws' A) A
abbrev zQv (D : va_G) (tys : zTy) (ws' : va_W) (A : Nat → Prop) : Array Value → State → Outcome → State → Prop := va_Qv (fun (_ : Unit) => True) (zB D tys ws' A) A
/-- the contracts: the arguments av, the world ws of size sz ahead, the answer r and the world ws' behind; mc cells of ms slots are new -/
abbrev mI (l : Launch) (y : MethodName) (wl : List Cond) (rm : Room) (av : List Value) (D : va_G) (tys : zTy) (ws : va_W) (sz : Nat) (r : Int32) (ws' : va_W) (mc ms : Nat) : Prop := Met l y wl rm (va_Pc av (zPre D tys ws sz)) (zQi D tys ws' r (va_A ws sz)) mc ms (va_A ws sz)
abbrev mL (l : Launch) (y : MethodName) (wl : List Cond) (rm : Room) (av : List Value) (D : va_G) (tys : zTy) (ws : va_W) (sz : Nat) (r : Int64) (ws' : va_W) (mc ms : Nat) : Prop := Met l y wl rm (va_Pc av (zPre D tys ws sz)) (zQl D tys ws' r (va_A ws sz)) mc ms (va_A ws sz)
abbrev mD (l : Launch) (y : MethodName) (wl : List Cond) (rm : Room) (av : List Value) (D : va_G) (tys : zTy) (ws : va_W) (sz : Nat) (r : UInt64) (ws' : va_W) (mc ms : Nat) : Prop := Met l y wl rm (va_Pc av (zPre D tys ws sz)) (zQd D tys ws' r (va_A ws sz)) mc ms (va_A ws sz)
abbrev mV (l : Launch) (y : MethodName) (wl : List Cond) (rm : Room) (av : List Value) (D : va_G) (tys : zTy) (ws : va_W) (sz : Nat) (ws' : va_W) (mc ms : Nat) : Prop := Met l y wl rm (va_Pc av (zPre D tys ws sz)) (zQv D tys ws' (va_A ws sz)) mc ms (va_A ws sz)
theorem zblind {av : List Value} {D : va_G} {tys : zTy} {ws : va_W} {sz : Nat} : FrameBlind (va_Pc av (zPre D tys ws sz)) := fun a U g mk q => by
  obtain ⟨q0, q1, qP, qK, qD⟩ := q
  exact ⟨q0, q1, qP, va_K.moved (u := U) (U := U.calling g mk a) (Vm.Alike.refl U.vm) qK, qD⟩
theorem zpre {av : List Value} {D : va_G} {tys : zTy} {ws : va_W} {A : Nat → Prop} {s : State} {H : Heap} (hP : va_P D vwCl ws H) (hK : va_K D vwCl tys s) (hD : va_D A ws) : ∀ U : State, U.heap = H → s.WarmedH U.vm → va_Pc av (zPre D tys ws H.size) av.toArray U :=
  fun U hU hW => ⟨rfl, by rw [hU], by rw [hU]; exact hP, va_K.moved hW.alike hK, hD.weaken (fun _ _ _ _ => trivial)⟩
theorem zfree {A : Nat → Prop} {ws : va_W} {H0 H : Heap} {locs : List Loc} (hD : va_D A ws) (hS : va_S A H0 H locs) (hA : ∀ q, H0.size ≤ q → A q) : ∀ q, va_A ws H.size q → A q := by
  intro q h
  rcases h with ⟨k, e, hk⟩ | h
  · exact hD.2 k _ hk
  · exact hA q (Nat.le_trans hS.1 h)
theorem zget_l {a b : va_W} {k : Nat} {q : Nat × va_E} (h : a[k]? = some q) : (a ++ b)[k]? = some q := by
  rw [List.getElem?_append_left (List.getElem?_eq_some_iff.mp h).1]; exact h
theorem zget_r {a b : va_W} {k : Nat} {q : Nat × va_E} (h : b[k]? = some q) : (a ++ b)[a.length + k]? = some q := by
  rw [List.getElem?_append_right (Nat.le_add_right _ _), Nat.add_sub_cancel_left]; exact h
theorem zP_l {D : va_G} {a b : va_W} {H : Heap} (h : va_P D vwCl (a ++ b) H) : va_P D vwCl a H := fun k q hk => h k q (zget_l hk)
theorem zP_r {D : va_G} {a b : va_W} {H : Heap} (h : va_P D vwCl (a ++ b) H) : va_P D vwCl b H := fun k q hk => h _ q (zget_r hk)
theorem zD_l {A : Nat → Prop} {a b : va_W} (h : va_D A (a ++ b)) : va_D A a := ⟨fun i j p q hi hj e => h.1 i j p q (zget_l hi) (zget_l hj) e, fun k q hk => h.2 k q (zget_l hk)⟩
theorem zD_r {A : Nat → Prop} {a b : va_W} (h : va_D A (a ++ b)) : va_D A b := ⟨fun i j p q hi hj e => by have := h.1 _ _ p q (zget_r hi) (zget_r hj) e; omega, fun k q hk => h.2 _ q (zget_r hk)⟩
theorem zD_ne {A : Nat → Prop} {a b : va_W} (h : va_D A (a ++ b)) {i j : Nat} {p q : Nat × va_E} (hi : a[i]? = some p) (hj : b[j]? = some q) : p.1 ≠ q.1 := by
  intro e
  have h1 := h.1 _ _ p q (zget_l hi) (zget_r hj) e
  have h2 := (List.getElem?_eq_some_iff.mp hi).1
  omega
/-- the callee's part is the left one -/
theorem zjoin_l {D : va_G} {A : Nat → Prop} {a a' b : va_W} {H H1 : Heap} (hP : va_P D vwCl (a ++ b) H) (hD : va_D A (a ++ b)) (hF : ∀ q, va_A a H.size q → A q) (hk : ∀ q : Nat, q < H.size → ¬ va_A a H.size q → H1[q]? = H[q]?) (hP1 : va_P D vwCl a' H1) (hD1 : va_D (va_A a H.size) a') : va_P D vwCl (a' ++ b) H1 ∧ va_D A (a' ++ b) := by
  have nb : ∀ (k : Nat) (q : Nat × va_E), b[k]? = some q → ¬ va_A a H.size q.1 := by
    intro k q hk9 h
    rcases h with ⟨i, e, hi⟩ | h
    · exact zD_ne hD hi hk9 rfl
    · have := (zP_r hP k q hk9).lt; omega
  refine ⟨hP1.app ((zP_r hP).kept fun k q hk9 => hk q.1 (zP_r hP k q hk9).lt (nb k q hk9)), (hD1.weaken fun k q _ h => hF _ h).app (zD_r hD) ?_⟩
  intro i j p q hi hj e
  exact nb j q hj (by rw [← e]; exact hD1.2 i p hi)
/-- the callee's part is the right one -/
theorem zjoin_r {D : va_G} {A : Nat → Prop} {a b b' : va_W} {H H1 : Heap} (hP : va_P D vwCl (a ++ b) H) (hD : va_D A (a ++ b)) (hF : ∀ q, va_A b H.size q → A q) (hk : ∀ q : Nat, q < H.size → ¬ va_A b H.size q → H1[q]? = H[q]?) (hP1 : va_P D vwCl b' H1) (hD1 : va_D (va_A b H.size) b') : va_P D vwCl (a ++ b') H1 ∧ va_D A (a ++ b') := by
  have nb : ∀ (k : Nat) (q : Nat × va_E), a[k]? = some q → ¬ va_A b H.size q.1 := by
    intro k q hk9 h
    rcases h with ⟨i, e, hi⟩ | h
    · exact zD_ne hD hk9 hi rfl
    · have := (zP_l hP k q hk9).lt; omega
  refine ⟨((zP_l hP).kept fun k q hk9 => hk q.1 (zP_l hP k q hk9).lt (nb k q hk9)).app hP1, (zD_l hD).app (hD1.weaken fun k q _ h => hF _ h) ?_⟩
  intro i j p q hi hj e
  exact nb i p hi (by rw [e]; exact hD1.2 j q hj)
/-- a method's entry -/
theorem zin {l : Launch} {y : MethodName} {wl wl' : List Cond} {rm : Room} {av : List Value} {D : va_G} {tys : zTy} {ws : va_W} {sz : Nat} {mc ms : Nat} {cc : ByteArray} {maxL : Nat} {ret : Option FieldType} {own : String} (Qf : (Nat → Prop) → Array Value → State → Outcome → State → Prop)
    (hy : plainName y.cls = true) (ho : y.cls = own) (hw : wl = Cond.code y cc maxL ret :: wl') (hlen : (lg_sl av).length ≤ maxL)
    (body : ∀ (p : Program) (e : Env) (s : State) (m : MethodId) (below : List Frame) (meth : Method) (c : Code) (A : Nat → Prop), CallFix p m c cc maxL s av.toArray wl own → meth.sig.returnType = ret → meth.locks = false → meth.name = y.name → (∀ q, s.heap.size ≤ q → A q) → va_K D vwCl tys s → ∀ (H : Heap) (locs : List Loc), va_P D vwCl ws H → va_D A ws → va_S A s.heap H locs → ∀ ls : Array Slot, lv_has ls maxL (lv_args 0 av) →
      W p l e rm s m av.toArray below meth c H locs 0 0 (MQ below (Qf A) av.toArray s mc ms A) (F0 m 0 ls [])) : Met l y wl rm (va_Pc av (zPre D tys ws sz)) (Qf (va_A ws sz)) mc ms (va_A ws sz) := by
  refine Met.ofW (cc := cc) (maxL := maxL) (ret := ret) hy hw ?_
  intro p e s m args below meth c s₁ B hml hv
  obtain ⟨rfl, hsz, hP, hK, hD0⟩ := hv
  subst hsz
  subst ho
  rw [lg_entry_eq]
  exact body p e s m below meth c (va_A ws s.heap.size) ⟨B.exec, B.bytes, hml, findClass_of_methodNamed B.named, atoms_spec (ws := wl) B.pre⟩ B.returns B.notSynchronized (name_of_methodNamed B.named B.method).1 (fun q h => Or.inr h) hK s.heap [] hP hD0.self va_S.rf _ (lv_entry av hlen)
section ZR
variable {p : Program} {l : Launch} {e : Env} {R : Room} {s : State} {m : MethodId} {args : Array Value} {below : List Frame} {meth : Method} {c : Code} {H H0 : Heap} {locs : List Loc} {cells slots : Nat} {Q : State → Prop} {pc : Nat} {ls : Array Slot} {rest st0 : List Value} {cc : ByteArray} {nL : Nat} {Ts : List Cond} {own : String} {D : va_G} {tys : zTy} {ws ws' : va_W} {A : Nat → Prop}
theorem zret_i {v r : Int32} (F : CallFix p m c cc nL s args Ts own) (hr : meth.sig.returnType = some .int) (hlocks : meth.locks = false) (hK : va_K D vwCl tys s) (hP : va_P D vwCl ws' H) (hD : va_D A ws') (hS : va_S A s.heap H locs) (hv : v = r) (hdg : decode cc pc = .ok (.ireturn, 1)) : W p l e R s m args below meth c H locs cells slots (MQ below (zQi D tys ws' r A) args s cells slots A) (F0 m pc ls [.int v]) :=
  W.iret (v := v) F.1 F.2.1 hr (fun t ht hW => ⟨⟨v, (), rfl, hv, by rw [ht]; exact hP, va_K.moved hW.alike hK, hD⟩, hS.F ht⟩) hS.2.2 hdg hlocks
theorem zret_l {v r : Int64} (F : CallFix p m c cc nL s args Ts own) (hr : meth.sig.returnType = some .long) (hlocks : meth.locks = false) (hK : va_K D vwCl tys s) (hP : va_P D vwCl ws' H) (hD : va_D A ws') (hS : va_S A s.heap H locs) (hv : v = r) (hdg : decode cc pc = .ok (.lreturn, 1)) : W p l e R s m args below meth c H locs cells slots (MQ below (zQl D tys ws' r A) args s cells slots A) (F0 m pc ls [.long v]) :=
  W.lret (v := v) F.1 F.2.1 hr (fun t ht hW => ⟨⟨v, (), rfl, hv, by rw [ht]; exact hP, va_K.moved hW.alike hK, hD⟩, hS.F ht⟩) hS.2.2 hdg hlocks
theorem zret_d {v r : UInt64} (F : CallFix p m c cc nL s args Ts own) (hr : meth.sig.returnType = some .double) (hlocks : meth.locks = false) (hK : va_K D vwCl tys s) (hP : va_P D vwCl ws' H) (hD : va_D A ws') (hS : va_S A s.heap H locs) (hv : v = r) (hdg : decode cc pc = .ok (.dreturn, 1)) : W p l e R s m args below meth c H locs cells slots (MQ below (zQd D tys ws' r A) args s cells slots A) (F0 m pc ls [.double v]) :=
  W.dret (v := v) F.1 F.2.1 hr (fun t ht hW => ⟨⟨v, (), rfl, hv, by rw [ht]; exact hP, va_K.moved hW.alike hK, hD⟩, hS.F ht⟩) hS.2.2 hdg hlocks
theorem zret_z {v r : Int32} (F : CallFix p m c cc nL s args Ts own) (hr : meth.sig.returnType = some .boolean) (hlocks : meth.locks = false) (hK : va_K D vwCl tys s) (hP : va_P D vwCl ws' H) (hD : va_D A ws') (hS : va_S A s.heap H locs) (hn : narrow .boolean (.int v) = .int v) (hv : v = r) (hdg : decode cc pc = .ok (.ireturn, 1)) : W p l e R s m args below meth c H locs cells slots (MQ below (zQi D tys ws' r A) args s cells slots A) (F0 m pc ls [.int v]) :=
  W.zret (v := v) F.1 F.2.1 hr hn (fun t ht hW => ⟨⟨v, (), rfl, hv, by rw [ht]; exact hP, va_K.moved hW.alike hK, hD⟩, hS.F ht⟩) hS.2.2 hdg hlocks
theorem zret_v (F : CallFix p m c cc nL s args Ts own) (hr : meth.sig.returnType = none) (hlocks : meth.locks = false) (hK : va_K D vwCl tys s) (hP : va_P D vwCl ws' H) (hD : va_D A ws') (hS : va_S A s.heap H locs) (hdg : decode cc pc = .ok (.return_, 1)) : W p l e R s m args below meth c H locs cells slots (MQ below (zQv D tys ws' A) args s cells slots A) (F0 m pc ls []) :=
  W.vret F.1 F.2.1 hr (fun t ht hW => ⟨⟨(), rfl, trivial, by rw [ht]; exact hP, va_K.moved hW.alike hK, hD⟩, hS.F ht⟩) hS.2.2 hdg hlocks
variable {y : MethodName} {bytes : ByteArray} {maxL mc ms n index : Nat} {ret : Option FieldType} {wl : List Cond} {rm : Room} {C : String} {b : Nat} {As : List Value} {fa : va_W}
theorem zcV_i {r : Int32} (F : CallFix p m c cc nL s args Ts own) (hM : mI l y wl rm (.ref b :: As) D tys ws H.size r ws' mc ms) (cw : CallW R s args own C index y bytes maxL ret wl rm mc ms n) (hb : ∃ cellB : Cell, H[b]? = some cellB ∧ cellB.vm.isStatics = false ∧ s.vm.findClass C = some cellB.cls) (hK : va_K D vwCl tys s) (hP : va_P D vwCl ws H) (hD : va_D A ws) (hS : va_S A H0 H locs) (hA : ∀ q, H0.size ≤ q → A q)
    (hn : As.length = n) (hsz : ls.size = nL) (hst : st0 = As.reverse ++ .ref b :: rest) (hW : (rest.map fun v => v.category).sum ≤ 8) (hdg : decode cc pc = .ok (.invokevirtual index, 3)) (hf : cells + mc ≤ R.cells ∧ slots + ms ≤ R.slots)
    (kk : ∀ (H1 : Heap) (locs1 : List Loc), va_P D vwCl ws' H1 → va_D A ws' → va_S A H0 H1 locs1 → W p l e R s m args below meth c H1 locs1 (cells + mc) (slots + ms) Q (F0 m (pc + 3) ls (.int r :: rest))) : W p l e R s m args below meth c H locs cells slots Q (F0 m pc ls st0) := by
  subst hst
  refine va_calli (va_runV F hM cw ⟨zblind, hb, zpre hP hK hD⟩ rfl hn hsz rfl (lv_room hW) hdg hf) hS (fun q _ h => zfree hD hS hA q h) (zfree hD hS hA) (fun r9 u t H1 locs1 ht hvm hw hB hz1 hk1 hS1 => ?_)
  subst hw
  obtain ⟨hP1, -, hD1⟩ := hB
  rw [ht] at hP1
  exact kk H1 locs1 hP1 (hD1.weaken fun k q _ h => zfree hD hS hA _ h) hS1
theorem zlV_i {r : Int32} (F : CallFix p m c cc nL s args Ts own) (hM : mI l y wl rm (.ref b :: As) D tys ws H.size r ws' mc ms) (cw : CallW R s args own C index y bytes maxL ret wl rm mc ms n) (hb : ∃ cellB : Cell, H[b]? = some cellB ∧ cellB.vm.isStatics = false ∧ s.vm.findClass C = some cellB.cls) (hK : va_K D vwCl tys s) (hP : va_P D vwCl (ws ++ fa) H) (hD : va_D A (ws ++ fa)) (hS : va_S A H0 H locs) (hA : ∀ q, H0.size ≤ q → A q)
    (hn : As.length = n) (hsz : ls.size = nL) (hst : st0 = As.reverse ++ .ref b :: rest) (hW : (rest.map fun v => v.category).sum ≤ 8) (hdg : decode cc pc = .ok (.invokevirtual index, 3)) (hf : cells + mc ≤ R.cells ∧ slots + ms ≤ R.slots)
    (kk : ∀ (H1 : Heap) (locs1 : List Loc), va_P D vwCl (ws' ++ fa) H1 → va_D A (ws' ++ fa) → va_S A H0 H1 locs1 → W p l e R s m args below meth c H1 locs1 (cells + mc) (slots + ms) Q (F0 m (pc + 3) ls (.int r :: rest))) : W p l e R s m args below meth c H locs cells slots Q (F0 m pc ls st0) := by
  subst hst
  refine va_calli (va_runV F hM cw ⟨zblind, hb, zpre (zP_l hP) hK (zD_l hD)⟩ rfl hn hsz rfl (lv_room hW) hdg hf) hS (fun q _ h => zfree (zD_l hD) hS hA q h) (zfree (zD_l hD) hS hA) (fun r9 u t H1 locs1 ht hvm hw hB hz1 hk1 hS1 => ?_)
  subst hw
  obtain ⟨hP1, -, hD1⟩ := hB
  rw [ht] at hP1
  obtain ⟨hP2, hD2⟩ := zjoin_l hP hD (zfree (zD_l hD) hS hA) hk1 hP1 hD1
  exact kk H1 locs1 hP2 hD2 hS1
theorem zrV_i {r : Int32} (F : CallFix p m c cc nL s args Ts own) (hM : mI l y wl rm (.ref b :: As) D tys ws H.size r ws' mc ms) (cw : CallW R s args own C index y bytes maxL ret wl rm mc ms n) (hb : ∃ cellB : Cell, H[b]? = some cellB ∧ cellB.vm.isStatics = false ∧ s.vm.findClass C = some cellB.cls) (hK : va_K D vwCl tys s) (hP : va_P D vwCl (fa ++ ws) H) (hD : va_D A (fa ++ ws)) (hS : va_S A H0 H locs) (hA : ∀ q, H0.size ≤ q → A q)
    (hn : As.length = n) (hsz : ls.size = nL) (hst : st0 = As.reverse ++ .ref b :: rest) (hW : (rest.map fun v => v.category).sum ≤ 8) (hdg : decode cc pc = .ok (.invokevirtual index, 3)) (hf : cells + mc ≤ R.cells ∧ slots + ms ≤ R.slots)
    (kk : ∀ (H1 : Heap) (locs1 : List Loc), va_P D vwCl (fa ++ ws') H1 → va_D A (fa ++ ws') → va_S A H0 H1 locs1 → W p l e R s m args below meth c H1 locs1 (cells + mc) (slots + ms) Q (F0 m (pc + 3) ls (.int r :: rest))) : W p l e R s m args below meth c H locs cells slots Q (F0 m pc ls st0) := by
  subst hst
  refine va_calli (va_runV F hM cw ⟨zblind, hb, zpre (zP_r hP) hK (zD_r hD)⟩ rfl hn hsz rfl (lv_room hW) hdg hf) hS (fun q _ h => zfree (zD_r hD) hS hA q h) (zfree (zD_r hD) hS hA) (fun r9 u t H1 locs1 ht hvm hw hB hz1 hk1 hS1 => ?_)
  subst hw
  obtain ⟨hP1, -, hD1⟩ := hB
  rw [ht] at hP1
  obtain ⟨hP2, hD2⟩ := zjoin_r hP hD (zfree (zD_r hD) hS hA) hk1 hP1 hD1
  exact kk H1 locs1 hP2 hD2 hS1
theorem zcS_i {r : Int32} (F : CallFix p m c cc nL s args Ts own) (hM : mI l y wl rm As D tys ws H.size r ws' mc ms) (cw : CallB R s args own index y bytes maxL ret wl rm mc ms n ∧ (Cond.static y).before args s = true) (hK : va_K D vwCl tys s) (hP : va_P D vwCl ws H) (hD : va_D A ws) (hS : va_S A H0 H locs) (hA : ∀ q, H0.size ≤ q → A q)
    (hn : As.length = n) (hsz : ls.size = nL) (hst : st0 = As.reverse ++ rest) (hW : (rest.map fun v => v.category).sum ≤ 8) (hdg : decode cc pc = .ok (.invokestatic index, 3)) (hf : cells + mc ≤ R.cells ∧ slots + ms ≤ R.slots)
    (kk : ∀ (H1 : Heap) (locs1 : List Loc), va_P D vwCl ws' H1 → va_D A ws' → va_S A H0 H1 locs1 → W p l e R s m args below meth c H1 locs1 (cells + mc) (slots + ms) Q (F0 m (pc + 3) ls (.int r :: rest))) : W p l e R s m args below meth c H locs cells slots Q (F0 m pc ls st0) := by
  subst hst
  refine va_calli (va_runS F hM cw ⟨zblind, zpre hP hK hD⟩ rfl hn hsz rfl (lv_room hW) hdg hf) hS (fun q _ h => zfree hD hS hA q h) (zfree hD hS hA) (fun r9 u t H1 locs1 ht hvm hw hB hz1 hk1 hS1 => ?_)
  subst hw
  obtain ⟨hP1, -, hD1⟩ := hB
  rw [ht] at hP1
  exact kk H1 locs1 hP1 (hD1.weaken fun k q _ h => zfree hD hS hA _ h) hS1
theorem zlS_i {r : Int32} (F : CallFix p m c cc nL s args Ts own) (hM : mI l y wl rm As D tys ws H.size r ws' mc ms) (cw : CallB R s args own index y bytes maxL ret wl rm mc ms n ∧ (Cond.static y).before args s = true) (hK : va_K D vwCl tys s) (hP : va_P D vwCl (ws ++ fa) H) (hD : va_D A (ws ++ fa)) (hS : va_S A H0 H locs) (hA : ∀ q, H0.size ≤ q → A q)
    (hn : As.length = n) (hsz : ls.size = nL) (hst : st0 = As.reverse ++ rest) (hW : (rest.map fun v => v.category).sum ≤ 8) (hdg : decode cc pc = .ok (.invokestatic index, 3)) (hf : cells + mc ≤ R.cells ∧ slots + ms ≤ R.slots)
    (kk : ∀ (H1 : Heap) (locs1 : List Loc), va_P D vwCl (ws' ++ fa) H1 → va_D A (ws' ++ fa) → va_S A H0 H1 locs1 → W p l e R s m args below meth c H1 locs1 (cells + mc) (slots + ms) Q (F0 m (pc + 3) ls (.int r :: rest))) : W p l e R s m args below meth c H locs cells slots Q (F0 m pc ls st0) := by
  subst hst
  refine va_calli (va_runS F hM cw ⟨zblind, zpre (zP_l hP) hK (zD_l hD)⟩ rfl hn hsz rfl (lv_room hW) hdg hf) hS (fun q _ h => zfree (zD_l hD) hS hA q h) (zfree (zD_l hD) hS hA) (fun r9 u t H1 locs1 ht hvm hw hB hz1 hk1 hS1 => ?_)
  subst hw
  obtain ⟨hP1, -, hD1⟩ := hB
  rw [ht] at hP1
  obtain ⟨hP2, hD2⟩ := zjoin_l hP hD (zfree (zD_l hD) hS hA) hk1 hP1 hD1
  exact kk H1 locs1 hP2 hD2 hS1
theorem zrS_i {r : Int32} (F : CallFix p m c cc nL s args Ts own) (hM : mI l y wl rm As D tys ws H.size r ws' mc ms) (cw : CallB R s args own index y bytes maxL ret wl rm mc ms n ∧ (Cond.static y).before args s = true) (hK : va_K D vwCl tys s) (hP : va_P D vwCl (fa ++ ws) H) (hD : va_D A (fa ++ ws)) (hS : va_S A H0 H locs) (hA : ∀ q, H0.size ≤ q → A q)
    (hn : As.length = n) (hsz : ls.size = nL) (hst : st0 = As.reverse ++ rest) (hW : (rest.map fun v => v.category).sum ≤ 8) (hdg : decode cc pc = .ok (.invokestatic index, 3)) (hf : cells + mc ≤ R.cells ∧ slots + ms ≤ R.slots)
    (kk : ∀ (H1 : Heap) (locs1 : List Loc), va_P D vwCl (fa ++ ws') H1 → va_D A (fa ++ ws') → va_S A H0 H1 locs1 → W p l e R s m args below meth c H1 locs1 (cells + mc) (slots + ms) Q (F0 m (pc + 3) ls (.int r :: rest))) : W p l e R s m args below meth c H locs cells slots Q (F0 m pc ls st0) := by
  subst hst
  refine va_calli (va_runS F hM cw ⟨zblind, zpre (zP_r hP) hK (zD_r hD)⟩ rfl hn hsz rfl (lv_room hW) hdg hf) hS (fun q _ h => zfree (zD_r hD) hS hA q h) (zfree (zD_r hD) hS hA) (fun r9 u t H1 locs1 ht hvm hw hB hz1 hk1 hS1 => ?_)
  subst hw
  obtain ⟨hP1, -, hD1⟩ := hB
  rw [ht] at hP1
  obtain ⟨hP2, hD2⟩ := zjoin_r hP hD (zfree (zD_r hD) hS hA) hk1 hP1 hD1
  exact kk H1 locs1 hP2 hD2 hS1
theorem zcV_l {r : Int64} (F : CallFix p m c cc nL s args Ts own) (hM : mL l y wl rm (.ref b :: As) D tys ws H.size r ws' mc ms) (cw : CallW R s args own C index y bytes maxL ret wl rm mc ms n) (hb : ∃ cellB : Cell, H[b]? = some cellB ∧ cellB.vm.isStatics = false ∧ s.vm.findClass C = some cellB.cls) (hK : va_K D vwCl tys s) (hP : va_P D vwCl ws H) (hD : va_D A ws) (hS : va_S A H0 H locs) (hA : ∀ q, H0.size ≤ q → A q)
    (hn : As.length = n) (hsz : ls.size = nL) (hst : st0 = As.reverse ++ .ref b :: rest) (hW : (rest.map fun v => v.category).sum ≤ 8) (hdg : decode cc pc = .ok (.invokevirtual index, 3)) (hf : cells + mc ≤ R.cells ∧ slots + ms ≤ R.slots)
    (kk : ∀ (H1 : Heap) (locs1 : List Loc), va_P D vwCl ws' H1 → va_D A ws' → va_S A H0 H1 locs1 → W p l e R s m args below meth c H1 locs1 (cells + mc) (slots + ms) Q (F0 m (pc + 3) ls (.long r :: rest))) : W p l e R s m args below meth c H locs cells slots Q (F0 m pc ls st0) := by
  subst hst
  refine va_calll (va_runV F hM cw ⟨zblind, hb, zpre hP hK hD⟩ rfl hn hsz rfl (lv_room hW) hdg hf) hS (fun q _ h => zfree hD hS hA q h) (zfree hD hS hA) (fun r9 u t H1 locs1 ht hvm hw hB hz1 hk1 hS1 => ?_)
  subst hw
  obtain ⟨hP1, -, hD1⟩ := hB
  rw [ht] at hP1
  exact kk H1 locs1 hP1 (hD1.weaken fun k q _ h => zfree hD hS hA _ h) hS1
theorem zlV_l {r : Int64} (F : CallFix p m c cc nL s args Ts own) (hM : mL l y wl rm (.ref b :: As) D tys ws H.size r ws' mc ms) (cw : CallW R s args own C index y bytes maxL ret wl rm mc ms n) (hb : ∃ cellB : Cell, H[b]? = some cellB ∧ cellB.vm.isStatics = false ∧ s.vm.findClass C = some cellB.cls) (hK : va_K D vwCl tys s) (hP : va_P D vwCl (ws ++ fa) H) (hD : va_D A (ws ++ fa)) (hS : va_S A H0 H locs) (hA : ∀ q, H0.size ≤ q → A q)
    (hn : As.length = n) (hsz : ls.size = nL) (hst : st0 = As.reverse ++ .ref b :: rest) (hW : (rest.map fun v => v.category).sum ≤ 8) (hdg : decode cc pc = .ok (.invokevirtual index, 3)) (hf : cells + mc ≤ R.cells ∧ slots + ms ≤ R.slots)
    (kk : ∀ (H1 : Heap) (locs1 : List Loc), va_P D vwCl (ws' ++ fa) H1 → va_D A (ws' ++ fa) → va_S A H0 H1 locs1 → W p l e R s m args below meth c H1 locs1 (cells + mc) (slots + ms) Q (F0 m (pc + 3) ls (.long r :: rest))) : W p l e R s m args below meth c H locs cells slots Q (F0 m pc ls st0) := by
  subst hst
  refine va_calll (va_runV F hM cw ⟨zblind, hb, zpre (zP_l hP) hK (zD_l hD)⟩ rfl hn hsz rfl (lv_room hW) hdg hf) hS (fun q _ h => zfree (zD_l hD) hS hA q h) (zfree (zD_l hD) hS hA) (fun r9 u t H1 locs1 ht hvm hw hB hz1 hk1 hS1 => ?_)
  subst hw
  obtain ⟨hP1, -, hD1⟩ := hB
  rw [ht] at hP1
  obtain ⟨hP2, hD2⟩ := zjoin_l hP hD (zfree (zD_l hD) hS hA) hk1 hP1 hD1
  exact kk H1 locs1 hP2 hD2 hS1
theorem zrV_l {r : Int64} (F : CallFix p m c cc nL s args Ts own) (hM : mL l y wl rm (.ref b :: As) D tys ws H.size r ws' mc ms) (cw : CallW R s args own C index y bytes maxL ret wl rm mc ms n) (hb : ∃ cellB : Cell, H[b]? = some cellB ∧ cellB.vm.isStatics = false ∧ s.vm.findClass C = some cellB.cls) (hK : va_K D vwCl tys s) (hP : va_P D vwCl (fa ++ ws) H) (hD : va_D A (fa ++ ws)) (hS : va_S A H0 H locs) (hA : ∀ q, H0.size ≤ q → A q)
    (hn : As.length = n) (hsz : ls.size = nL) (hst : st0 = As.reverse ++ .ref b :: rest) (hW : (rest.map fun v => v.category).sum ≤ 8) (hdg : decode cc pc = .ok (.invokevirtual index, 3)) (hf : cells + mc ≤ R.cells ∧ slots + ms ≤ R.slots)
    (kk : ∀ (H1 : Heap) (locs1 : List Loc), va_P D vwCl (fa ++ ws') H1 → va_D A (fa ++ ws') → va_S A H0 H1 locs1 → W p l e R s m args below meth c H1 locs1 (cells + mc) (slots + ms) Q (F0 m (pc + 3) ls (.long r :: rest))) : W p l e R s m args below meth c H locs cells slots Q (F0 m pc ls st0) := by
  subst hst
  refine va_calll (va_runV F hM cw ⟨zblind, hb, zpre (zP_r hP) hK (zD_r hD)⟩ rfl hn hsz rfl (lv_room hW) hdg hf) hS (fun q _ h => zfree (zD_r hD) hS hA q h) (zfree (zD_r hD) hS hA) (fun r9 u t H1 locs1 ht hvm hw hB hz1 hk1 hS1 => ?_)
  subst hw
  obtain ⟨hP1, -, hD1⟩ := hB
  rw [ht] at hP1
  obtain ⟨hP2, hD2⟩ := zjoin_r hP hD (zfree (zD_r hD) hS hA) hk1 hP1 hD1
  exact kk H1 locs1 hP2 hD2 hS1
theorem zcS_l {r : Int64} (F : CallFix p m c cc nL s args Ts own) (hM : mL l y wl rm As D tys ws H.size r ws' mc ms) (cw : CallB R s args own index y bytes maxL ret wl rm mc ms n ∧ (Cond.static y).before args s = true) (hK : va_K D vwCl tys s) (hP : va_P D vwCl ws H) (hD : va_D A ws) (hS : va_S A H0 H locs) (hA : ∀ q, H0.size ≤ q → A q)
    (hn : As.length = n) (hsz : ls.size = nL) (hst : st0 = As.reverse ++ rest) (hW : (rest.map fun v => v.category).sum ≤ 8) (hdg : decode cc pc = .ok (.invokestatic index, 3)) (hf : cells + mc ≤ R.cells ∧ slots + ms ≤ R.slots)
    (kk : ∀ (H1 : Heap) (locs1 : List Loc), va_P D vwCl ws' H1 → va_D A ws' → va_S A H0 H1 locs1 → W p l e R s m args below meth c H1 locs1 (cells + mc) (slots + ms) Q (F0 m (pc + 3) ls (.long r :: rest))) : W p l e R s m args below meth c H locs cells slots Q (F0 m pc ls st0) := by
  subst hst
  refine va_calll (va_runS F hM cw ⟨zblind, zpre hP hK hD⟩ rfl hn hsz rfl (lv_room hW) hdg hf) hS (fun q _ h => zfree hD hS hA q h) (zfree hD hS hA) (fun r9 u t H1 locs1 ht hvm hw hB hz1 hk1 hS1 => ?_)
  subst hw
  obtain ⟨hP1, -, hD1⟩ := hB
  rw [ht] at hP1
  exact kk H1 locs1 hP1 (hD1.weaken fun k q _ h => zfree hD hS hA _ h) hS1
theorem zlS_l {r : Int64} (F : CallFix p m c cc nL s args Ts own) (hM : mL l y wl rm As D tys ws H.size r ws' mc ms) (cw : CallB R s args own index y bytes maxL ret wl rm mc ms n ∧ (Cond.static y).before args s = true) (hK : va_K D vwCl tys s) (hP : va_P D vwCl (ws ++ fa) H) (hD : va_D A (ws ++ fa)) (hS : va_S A H0 H locs) (hA : ∀ q, H0.size ≤ q → A q)
    (hn : As.length = n) (hsz : ls.size = nL) (hst : st0 = As.reverse ++ rest) (hW : (rest.map fun v => v.category).sum ≤ 8) (hdg : decode cc pc = .ok (.invokestatic index, 3)) (hf : cells + mc ≤ R.cells ∧ slots + ms ≤ R.slots)
    (kk : ∀ (H1 : Heap) (locs1 : List Loc), va_P D vwCl (ws' ++ fa) H1 → va_D A (ws' ++ fa) → va_S A H0 H1 locs1 → W p l e R s m args below meth c H1 locs1 (cells + mc) (slots + ms) Q (F0 m (pc + 3) ls (.long r :: rest))) : W p l e R s m args below meth c H locs cells slots Q (F0 m pc ls st0) := by
  subst hst
  refine va_calll (va_runS F hM cw ⟨zblind, zpre (zP_l hP) hK (zD_l hD)⟩ rfl hn hsz rfl (lv_room hW) hdg hf) hS (fun q _ h => zfree (zD_l hD) hS hA q h) (zfree (zD_l hD) hS hA) (fun r9 u t H1 locs1 ht hvm hw hB hz1 hk1 hS1 => ?_)
  subst hw
  obtain ⟨hP1, -, hD1⟩ := hB
  rw [ht] at hP1
  obtain ⟨hP2, hD2⟩ := zjoin_l hP hD (zfree (zD_l hD) hS hA) hk1 hP1 hD1
  exact kk H1 locs1 hP2 hD2 hS1
theorem zrS_l {r : Int64} (F : CallFix p m c cc nL s args Ts own) (hM : mL l y wl rm As D tys ws H.size r ws' mc ms) (cw : CallB R s args own index y bytes maxL ret wl rm mc ms n ∧ (Cond.static y).before args s = true) (hK : va_K D vwCl tys s) (hP : va_P D vwCl (fa ++ ws) H) (hD : va_D A (fa ++ ws)) (hS : va_S A H0 H locs) (hA : ∀ q, H0.size ≤ q → A q)
    (hn : As.length = n) (hsz : ls.size = nL) (hst : st0 = As.reverse ++ rest) (hW : (rest.map fun v => v.category).sum ≤ 8) (hdg : decode cc pc = .ok (.invokestatic index, 3)) (hf : cells + mc ≤ R.cells ∧ slots + ms ≤ R.slots)
    (kk : ∀ (H1 : Heap) (locs1 : List Loc), va_P D vwCl (fa ++ ws') H1 → va_D A (fa ++ ws') → va_S A H0 H1 locs1 → W p l e R s m args below meth c H1 locs1 (cells + mc) (slots + ms) Q (F0 m (pc + 3) ls (.long r :: rest))) : W p l e R s m args below meth c H locs cells slots Q (F0 m pc ls st0) := by
  subst hst
  refine va_calll (va_runS F hM cw ⟨zblind, zpre (zP_r hP) hK (zD_r hD)⟩ rfl hn hsz rfl (lv_room hW) hdg hf) hS (fun q _ h => zfree (zD_r hD) hS hA q h) (zfree (zD_r hD) hS hA) (fun r9 u t H1 locs1 ht hvm hw hB hz1 hk1 hS1 => ?_)
  subst hw
  obtain ⟨hP1, -, hD1⟩ := hB
  rw [ht] at hP1
  obtain ⟨hP2, hD2⟩ := zjoin_r hP hD (zfree (zD_r hD) hS hA) hk1 hP1 hD1
  exact kk H1 locs1 hP2 hD2 hS1
theorem zcV_d {r : UInt64} (F : CallFix p m c cc nL s args Ts own) (hM : mD l y wl rm (.ref b :: As) D tys ws H.size r ws' mc ms) (cw : CallW R s args own C index y bytes maxL ret wl rm mc ms n) (hb : ∃ cellB : Cell, H[b]? = some cellB ∧ cellB.vm.isStatics = false ∧ s.vm.findClass C = some cellB.cls) (hK : va_K D vwCl tys s) (hP : va_P D vwCl ws H) (hD : va_D A ws) (hS : va_S A H0 H locs) (hA : ∀ q, H0.size ≤ q → A q)
    (hn : As.length = n) (hsz : ls.size = nL) (hst : st0 = As.reverse ++ .ref b :: rest) (hW : (rest.map fun v => v.category).sum ≤ 8) (hdg : decode cc pc = .ok (.invokevirtual index, 3)) (hf : cells + mc ≤ R.cells ∧ slots + ms ≤ R.slots)
    (kk : ∀ (H1 : Heap) (locs1 : List Loc), va_P D vwCl ws' H1 → va_D A ws' → va_S A H0 H1 locs1 → W p l e R s m args below meth c H1 locs1 (cells + mc) (slots + ms) Q (F0 m (pc + 3) ls (.double r :: rest))) : W p l e R s m args below meth c H locs cells slots Q (F0 m pc ls st0) := by
  subst hst
  refine va_calld (va_runV F hM cw ⟨zblind, hb, zpre hP hK hD⟩ rfl hn hsz rfl (lv_room hW) hdg hf) hS (fun q _ h => zfree hD hS hA q h) (zfree hD hS hA) (fun r9 u t H1 locs1 ht hvm hw hB hz1 hk1 hS1 => ?_)
  subst hw
  obtain ⟨hP1, -, hD1⟩ := hB
  rw [ht] at hP1
  exact kk H1 locs1 hP1 (hD1.weaken fun k q _ h => zfree hD hS hA _ h) hS1
theorem zlV_d {r : UInt64} (F : CallFix p m c cc nL s args Ts own) (hM : mD l y wl rm (.ref b :: As) D tys ws H.size r ws' mc ms) (cw : CallW R s args own C index y bytes maxL ret wl rm mc ms n) (hb : ∃ cellB : Cell, H[b]? = some cellB ∧ cellB.vm.isStatics = false ∧ s.vm.findClass C = some cellB.cls) (hK : va_K D vwCl tys s) (hP : va_P D vwCl (ws ++ fa) H) (hD : va_D A (ws ++ fa)) (hS : va_S A H0 H locs) (hA : ∀ q, H0.size ≤ q → A q)
    (hn : As.length = n) (hsz : ls.size = nL) (hst : st0 = As.reverse ++ .ref b :: rest) (hW : (rest.map fun v => v.category).sum ≤ 8) (hdg : decode cc pc = .ok (.invokevirtual index, 3)) (hf : cells + mc ≤ R.cells ∧ slots + ms ≤ R.slots)
    (kk : ∀ (H1 : Heap) (locs1 : List Loc), va_P D vwCl (ws' ++ fa) H1 → va_D A (ws' ++ fa) → va_S A H0 H1 locs1 → W p l e R s m args below meth c H1 locs1 (cells + mc) (slots + ms) Q (F0 m (pc + 3) ls (.double r :: rest))) : W p l e R s m args below meth c H locs cells slots Q (F0 m pc ls st0) := by
  subst hst
  refine va_calld (va_runV F hM cw ⟨zblind, hb, zpre (zP_l hP) hK (zD_l hD)⟩ rfl hn hsz rfl (lv_room hW) hdg hf) hS (fun q _ h => zfree (zD_l hD) hS hA q h) (zfree (zD_l hD) hS hA) (fun r9 u t H1 locs1 ht hvm hw hB hz1 hk1 hS1 => ?_)
  subst hw
  obtain ⟨hP1, -, hD1⟩ := hB
  rw [ht] at hP1
  obtain ⟨hP2, hD2⟩ := zjoin_l hP hD (zfree (zD_l hD) hS hA) hk1 hP1 hD1
  exact kk H1 locs1 hP2 hD2 hS1
theorem zrV_d {r : UInt64} (F : CallFix p m c cc nL s args Ts own) (hM : mD l y wl rm (.ref b :: As) D tys ws H.size r ws' mc ms) (cw : CallW R s args own C index y bytes maxL ret wl rm mc ms n) (hb : ∃ cellB : Cell, H[b]? = some cellB ∧ cellB.vm.isStatics = false ∧ s.vm.findClass C = some cellB.cls) (hK : va_K D vwCl tys s) (hP : va_P D vwCl (fa ++ ws) H) (hD : va_D A (fa ++ ws)) (hS : va_S A H0 H locs) (hA : ∀ q, H0.size ≤ q → A q)
    (hn : As.length = n) (hsz : ls.size = nL) (hst : st0 = As.reverse ++ .ref b :: rest) (hW : (rest.map fun v => v.category).sum ≤ 8) (hdg : decode cc pc = .ok (.invokevirtual index, 3)) (hf : cells + mc ≤ R.cells ∧ slots + ms ≤ R.slots)
    (kk : ∀ (H1 : Heap) (locs1 : List Loc), va_P D vwCl (fa ++ ws') H1 → va_D A (fa ++ ws') → va_S A H0 H1 locs1 → W p l e R s m args below meth c H1 locs1 (cells + mc) (slots + ms) Q (F0 m (pc + 3) ls (.double r :: rest))) : W p l e R s m args below meth c H locs cells slots Q (F0 m pc ls st0) := by
  subst hst
  refine va_calld (va_runV F hM cw ⟨zblind, hb, zpre (zP_r hP) hK (zD_r hD)⟩ rfl hn hsz rfl (lv_room hW) hdg hf) hS (fun q _ h => zfree (zD_r hD) hS hA q h) (zfree (zD_r hD) hS hA) (fun r9 u t H1 locs1 ht hvm hw hB hz1 hk1 hS1 => ?_)
  subst hw
  obtain ⟨hP1, -, hD1⟩ := hB
  rw [ht] at hP1
  obtain ⟨hP2, hD2⟩ := zjoin_r hP hD (zfree (zD_r hD) hS hA) hk1 hP1 hD1
  exact kk H1 locs1 hP2 hD2 hS1
theorem zcS_d {r : UInt64} (F : CallFix p m c cc nL s args Ts own) (hM : mD l y wl rm As D tys ws H.size r ws' mc ms) (cw : CallB R s args own index y bytes maxL ret wl rm mc ms n ∧ (Cond.static y).before args s = true) (hK : va_K D vwCl tys s) (hP : va_P D vwCl ws H) (hD : va_D A ws) (hS : va_S A H0 H locs) (hA : ∀ q, H0.size ≤ q → A q)
    (hn : As.length = n) (hsz : ls.size = nL) (hst : st0 = As.reverse ++ rest) (hW : (rest.map fun v => v.category).sum ≤ 8) (hdg : decode cc pc = .ok (.invokestatic index, 3)) (hf : cells + mc ≤ R.cells ∧ slots + ms ≤ R.slots)
    (kk : ∀ (H1 : Heap) (locs1 : List Loc), va_P D vwCl ws' H1 → va_D A ws' → va_S A H0 H1 locs1 → W p l e R s m args below meth c H1 locs1 (cells + mc) (slots + ms) Q (F0 m (pc + 3) ls (.double r :: rest))) : W p l e R s m args below meth c H locs cells slots Q (F0 m pc ls st0) := by
  subst hst
  refine va_calld (va_runS F hM cw ⟨zblind, zpre hP hK hD⟩ rfl hn hsz rfl (lv_room hW) hdg hf) hS (fun q _ h => zfree hD hS hA q h) (zfree hD hS hA) (fun r9 u t H1 locs1 ht hvm hw hB hz1 hk1 hS1 => ?_)
  subst hw
  obtain ⟨hP1, -, hD1⟩ := hB
  rw [ht] at hP1
  exact kk H1 locs1 hP1 (hD1.weaken fun k q _ h => zfree hD hS hA _ h) hS1
theorem zlS_d {r : UInt64} (F : CallFix p m c cc nL s args Ts own) (hM : mD l y wl rm As D tys ws H.size r ws' mc ms) (cw : CallB R s args own index y bytes maxL ret wl rm mc ms n ∧ (Cond.static y).before args s = true) (hK : va_K D vwCl tys s) (hP : va_P D vwCl (ws ++ fa) H) (hD : va_D A (ws ++ fa)) (hS : va_S A H0 H locs) (hA : ∀ q, H0.size ≤ q → A q)
    (hn : As.length = n) (hsz : ls.size = nL) (hst : st0 = As.reverse ++ rest) (hW : (rest.map fun v => v.category).sum ≤ 8) (hdg : decode cc pc = .ok (.invokestatic index, 3)) (hf : cells + mc ≤ R.cells ∧ slots + ms ≤ R.slots)
    (kk : ∀ (H1 : Heap) (locs1 : List Loc), va_P D vwCl (ws' ++ fa) H1 → va_D A (ws' ++ fa) → va_S A H0 H1 locs1 → W p l e R s m args below meth c H1 locs1 (cells + mc) (slots + ms) Q (F0 m (pc + 3) ls (.double r :: rest))) : W p l e R s m args below meth c H locs cells slots Q (F0 m pc ls st0) := by
  subst hst
  refine va_calld (va_runS F hM cw ⟨zblind, zpre (zP_l hP) hK (zD_l hD)⟩ rfl hn hsz rfl (lv_room hW) hdg hf) hS (fun q _ h => zfree (zD_l hD) hS hA q h) (zfree (zD_l hD) hS hA) (fun r9 u t H1 locs1 ht hvm hw hB hz1 hk1 hS1 => ?_)
  subst hw
  obtain ⟨hP1, -, hD1⟩ := hB
  rw [ht] at hP1
  obtain ⟨hP2, hD2⟩ := zjoin_l hP hD (zfree (zD_l hD) hS hA) hk1 hP1 hD1
  exact kk H1 locs1 hP2 hD2 hS1
theorem zrS_d {r : UInt64} (F : CallFix p m c cc nL s args Ts own) (hM : mD l y wl rm As D tys ws H.size r ws' mc ms) (cw : CallB R s args own index y bytes maxL ret wl rm mc ms n ∧ (Cond.static y).before args s = true) (hK : va_K D vwCl tys s) (hP : va_P D vwCl (fa ++ ws) H) (hD : va_D A (fa ++ ws)) (hS : va_S A H0 H locs) (hA : ∀ q, H0.size ≤ q → A q)
    (hn : As.length = n) (hsz : ls.size = nL) (hst : st0 = As.reverse ++ rest) (hW : (rest.map fun v => v.category).sum ≤ 8) (hdg : decode cc pc = .ok (.invokestatic index, 3)) (hf : cells + mc ≤ R.cells ∧ slots + ms ≤ R.slots)
    (kk : ∀ (H1 : Heap) (locs1 : List Loc), va_P D vwCl (fa ++ ws') H1 → va_D A (fa ++ ws') → va_S A H0 H1 locs1 → W p l e R s m args below meth c H1 locs1 (cells + mc) (slots + ms) Q (F0 m (pc + 3) ls (.double r :: rest))) : W p l e R s m args below meth c H locs cells slots Q (F0 m pc ls st0) := by
  subst hst
  refine va_calld (va_runS F hM cw ⟨zblind, zpre (zP_r hP) hK (zD_r hD)⟩ rfl hn hsz rfl (lv_room hW) hdg hf) hS (fun q _ h => zfree (zD_r hD) hS hA q h) (zfree (zD_r hD) hS hA) (fun r9 u t H1 locs1 ht hvm hw hB hz1 hk1 hS1 => ?_)
  subst hw
  obtain ⟨hP1, -, hD1⟩ := hB
  rw [ht] at hP1
  obtain ⟨hP2, hD2⟩ := zjoin_r hP hD (zfree (zD_r hD) hS hA) hk1 hP1 hD1
  exact kk H1 locs1 hP2 hD2 hS1
theorem zcV_v (F : CallFix p m c cc nL s args Ts own) (hM : mV l y wl rm (.ref b :: As) D tys ws H.size ws' mc ms) (cw : CallW R s args own C index y bytes maxL ret wl rm mc ms n) (hb : ∃ cellB : Cell, H[b]? = some cellB ∧ cellB.vm.isStatics = false ∧ s.vm.findClass C = some cellB.cls) (hK : va_K D vwCl tys s) (hP : va_P D vwCl ws H) (hD : va_D A ws) (hS : va_S A H0 H locs) (hA : ∀ q, H0.size ≤ q → A q)
    (hn : As.length = n) (hsz : ls.size = nL) (hst : st0 = As.reverse ++ .ref b :: rest) (hW : (rest.map fun v => v.category).sum ≤ 8) (hdg : decode cc pc = .ok (.invokevirtual index, 3)) (hf : cells + mc ≤ R.cells ∧ slots + ms ≤ R.slots)
    (kk : ∀ (H1 : Heap) (locs1 : List Loc), va_P D vwCl ws' H1 → va_D A ws' → va_S A H0 H1 locs1 → W p l e R s m args below meth c H1 locs1 (cells + mc) (slots + ms) Q (F0 m (pc + 3) ls (rest))) : W p l e R s m args below meth c H locs cells slots Q (F0 m pc ls st0) := by
  subst hst
  refine va_callv (va_runV F hM cw ⟨zblind, hb, zpre hP hK hD⟩ rfl hn hsz rfl (lv_room hW) hdg hf) hS (fun q _ h => zfree hD hS hA q h) (zfree hD hS hA) (fun u t H1 locs1 ht hvm hw hB hz1 hk1 hS1 => ?_)
  obtain ⟨hP1, -, hD1⟩ := hB
  rw [ht] at hP1
  exact kk H1 locs1 hP1 (hD1.weaken fun k q _ h => zfree hD hS hA _ h) hS1
theorem zlV_v (F : CallFix p m c cc nL s args Ts own) (hM : mV l y wl rm (.ref b :: As) D tys ws H.size ws' mc ms) (cw : CallW R s args own C index y bytes maxL ret wl rm mc ms n) (hb : ∃ cellB : Cell, H[b]? = some cellB ∧ cellB.vm.isStatics = false ∧ s.vm.findClass C = some cellB.cls) (hK : va_K D vwCl tys s) (hP : va_P D vwCl (ws ++ fa) H) (hD : va_D A (ws ++ fa)) (hS : va_S A H0 H locs) (hA : ∀ q, H0.size ≤ q → A q)
    (hn : As.length = n) (hsz : ls.size = nL) (hst : st0 = As.reverse ++ .ref b :: rest) (hW : (rest.map fun v => v.category).sum ≤ 8) (hdg : decode cc pc = .ok (.invokevirtual index, 3)) (hf : cells + mc ≤ R.cells ∧ slots + ms ≤ R.slots)
    (kk : ∀ (H1 : Heap) (locs1 : List Loc), va_P D vwCl (ws' ++ fa) H1 → va_D A (ws' ++ fa) → va_S A H0 H1 locs1 → W p l e R s m args below meth c H1 locs1 (cells + mc) (slots + ms) Q (F0 m (pc + 3) ls (rest))) : W p l e R s m args below meth c H locs cells slots Q (F0 m pc ls st0) := by
  subst hst
  refine va_callv (va_runV F hM cw ⟨zblind, hb, zpre (zP_l hP) hK (zD_l hD)⟩ rfl hn hsz rfl (lv_room hW) hdg hf) hS (fun q _ h => zfree (zD_l hD) hS hA q h) (zfree (zD_l hD) hS hA) (fun u t H1 locs1 ht hvm hw hB hz1 hk1 hS1 => ?_)
  obtain ⟨hP1, -, hD1⟩ := hB
  rw [ht] at hP1
  obtain ⟨hP2, hD2⟩ := zjoin_l hP hD (zfree (zD_l hD) hS hA) hk1 hP1 hD1
  exact kk H1 locs1 hP2 hD2 hS1
theorem zrV_v (F : CallFix p m c cc nL s args Ts own) (hM : mV l y wl rm (.ref b :: As) D tys ws H.size ws' mc ms) (cw : CallW R s args own C index y bytes maxL ret wl rm mc ms n) (hb : ∃ cellB : Cell, H[b]? = some cellB ∧ cellB.vm.isStatics = false ∧ s.vm.findClass C = some cellB.cls) (hK : va_K D vwCl tys s) (hP : va_P D vwCl (fa ++ ws) H) (hD : va_D A (fa ++ ws)) (hS : va_S A H0 H locs) (hA : ∀ q, H0.size ≤ q → A q)
    (hn : As.length = n) (hsz : ls.size = nL) (hst : st0 = As.reverse ++ .ref b :: rest) (hW : (rest.map fun v => v.category).sum ≤ 8) (hdg : decode cc pc = .ok (.invokevirtual index, 3)) (hf : cells + mc ≤ R.cells ∧ slots + ms ≤ R.slots)
    (kk : ∀ (H1 : Heap) (locs1 : List Loc), va_P D vwCl (fa ++ ws') H1 → va_D A (fa ++ ws') → va_S A H0 H1 locs1 → W p l e R s m args below meth c H1 locs1 (cells + mc) (slots + ms) Q (F0 m (pc + 3) ls (rest))) : W p l e R s m args below meth c H locs cells slots Q (F0 m pc ls st0) := by
  subst hst
  refine va_callv (va_runV F hM cw ⟨zblind, hb, zpre (zP_r hP) hK (zD_r hD)⟩ rfl hn hsz rfl (lv_room hW) hdg hf) hS (fun q _ h => zfree (zD_r hD) hS hA q h) (zfree (zD_r hD) hS hA) (fun u t H1 locs1 ht hvm hw hB hz1 hk1 hS1 => ?_)
  obtain ⟨hP1, -, hD1⟩ := hB
  rw [ht] at hP1
  obtain ⟨hP2, hD2⟩ := zjoin_r hP hD (zfree (zD_r hD) hS hA) hk1 hP1 hD1
  exact kk H1 locs1 hP2 hD2 hS1
theorem zcS_v (F : CallFix p m c cc nL s args Ts own) (hM : mV l y wl rm As D tys ws H.size ws' mc ms) (cw : CallB R s args own index y bytes maxL ret wl rm mc ms n ∧ (Cond.static y).before args s = true) (hK : va_K D vwCl tys s) (hP : va_P D vwCl ws H) (hD : va_D A ws) (hS : va_S A H0 H locs) (hA : ∀ q, H0.size ≤ q → A q)
    (hn : As.length = n) (hsz : ls.size = nL) (hst : st0 = As.reverse ++ rest) (hW : (rest.map fun v => v.category).sum ≤ 8) (hdg : decode cc pc = .ok (.invokestatic index, 3)) (hf : cells + mc ≤ R.cells ∧ slots + ms ≤ R.slots)
    (kk : ∀ (H1 : Heap) (locs1 : List Loc), va_P D vwCl ws' H1 → va_D A ws' → va_S A H0 H1 locs1 → W p l e R s m args below meth c H1 locs1 (cells + mc) (slots + ms) Q (F0 m (pc + 3) ls (rest))) : W p l e R s m args below meth c H locs cells slots Q (F0 m pc ls st0) := by
  subst hst
  refine va_callv (va_runS F hM cw ⟨zblind, zpre hP hK hD⟩ rfl hn hsz rfl (lv_room hW) hdg hf) hS (fun q _ h => zfree hD hS hA q h) (zfree hD hS hA) (fun u t H1 locs1 ht hvm hw hB hz1 hk1 hS1 => ?_)
  obtain ⟨hP1, -, hD1⟩ := hB
  rw [ht] at hP1
  exact kk H1 locs1 hP1 (hD1.weaken fun k q _ h => zfree hD hS hA _ h) hS1
theorem zlS_v (F : CallFix p m c cc nL s args Ts own) (hM : mV l y wl rm As D tys ws H.size ws' mc ms) (cw : CallB R s args own index y bytes maxL ret wl rm mc ms n ∧ (Cond.static y).before args s = true) (hK : va_K D vwCl tys s) (hP : va_P D vwCl (ws ++ fa) H) (hD : va_D A (ws ++ fa)) (hS : va_S A H0 H locs) (hA : ∀ q, H0.size ≤ q → A q)
    (hn : As.length = n) (hsz : ls.size = nL) (hst : st0 = As.reverse ++ rest) (hW : (rest.map fun v => v.category).sum ≤ 8) (hdg : decode cc pc = .ok (.invokestatic index, 3)) (hf : cells + mc ≤ R.cells ∧ slots + ms ≤ R.slots)
    (kk : ∀ (H1 : Heap) (locs1 : List Loc), va_P D vwCl (ws' ++ fa) H1 → va_D A (ws' ++ fa) → va_S A H0 H1 locs1 → W p l e R s m args below meth c H1 locs1 (cells + mc) (slots + ms) Q (F0 m (pc + 3) ls (rest))) : W p l e R s m args below meth c H locs cells slots Q (F0 m pc ls st0) := by
  subst hst
  refine va_callv (va_runS F hM cw ⟨zblind, zpre (zP_l hP) hK (zD_l hD)⟩ rfl hn hsz rfl (lv_room hW) hdg hf) hS (fun q _ h => zfree (zD_l hD) hS hA q h) (zfree (zD_l hD) hS hA) (fun u t H1 locs1 ht hvm hw hB hz1 hk1 hS1 => ?_)
  obtain ⟨hP1, -, hD1⟩ := hB
  rw [ht] at hP1
  obtain ⟨hP2, hD2⟩ := zjoin_l hP hD (zfree (zD_l hD) hS hA) hk1 hP1 hD1
  exact kk H1 locs1 hP2 hD2 hS1
theorem zrS_v (F : CallFix p m c cc nL s args Ts own) (hM : mV l y wl rm As D tys ws H.size ws' mc ms) (cw : CallB R s args own index y bytes maxL ret wl rm mc ms n ∧ (Cond.static y).before args s = true) (hK : va_K D vwCl tys s) (hP : va_P D vwCl (fa ++ ws) H) (hD : va_D A (fa ++ ws)) (hS : va_S A H0 H locs) (hA : ∀ q, H0.size ≤ q → A q)
    (hn : As.length = n) (hsz : ls.size = nL) (hst : st0 = As.reverse ++ rest) (hW : (rest.map fun v => v.category).sum ≤ 8) (hdg : decode cc pc = .ok (.invokestatic index, 3)) (hf : cells + mc ≤ R.cells ∧ slots + ms ≤ R.slots)
    (kk : ∀ (H1 : Heap) (locs1 : List Loc), va_P D vwCl (fa ++ ws') H1 → va_D A (fa ++ ws') → va_S A H0 H1 locs1 → W p l e R s m args below meth c H1 locs1 (cells + mc) (slots + ms) Q (F0 m (pc + 3) ls (rest))) : W p l e R s m args below meth c H locs cells slots Q (F0 m pc ls st0) := by
  subst hst
  refine va_callv (va_runS F hM cw ⟨zblind, zpre (zP_r hP) hK (zD_r hD)⟩ rfl hn hsz rfl (lv_room hW) hdg hf) hS (fun q _ h => zfree (zD_r hD) hS hA q h) (zfree (zD_r hD) hS hA) (fun u t H1 locs1 ht hvm hw hB hz1 hk1 hS1 => ?_)
  obtain ⟨hP1, -, hD1⟩ := hB
  rw [ht] at hP1
  obtain ⟨hP2, hD2⟩ := zjoin_r hP hD (zfree (zD_r hD) hS hA) hk1 hP1 hD1
  exact kk H1 locs1 hP2 hD2 hS1
theorem zci_v (F : CallFix p m c cc nL s args Ts own) (hM : mV l y wl rm (.ref b :: As) D tys ws H.size ws' mc ms) (cw : CallB R s args own index y bytes maxL none wl rm mc ms n ∧ y.name = "<init>" ∧ (Cond.instanceMethod y).before args s = true) (hK : va_K D vwCl tys s) (hP : va_P D vwCl (fa ++ ws) H) (hD : va_D A (fa ++ ws)) (hS : va_S A H0 H locs) (hA : ∀ q, H0.size ≤ q → A q)
    (hn : As.length = n) (hsz : ls.size = nL) (hst : st0 = As.reverse ++ .ref b :: rest) (hW : (rest.map fun v => v.category).sum ≤ 8) (hdg : decode cc pc = .ok (.invokespecial index, 3)) (hf : cells + mc ≤ R.cells ∧ slots + ms ≤ R.slots)
    (kk : ∀ (H1 : Heap) (locs1 : List Loc), va_P D vwCl (fa ++ ws') H1 → va_D A (fa ++ ws') → va_S A H0 H1 locs1 → W p l e R s m args below meth c H1 locs1 (cells + mc) (slots + ms) Q (F0 m (pc + 3) ls rest)) : W p l e R s m args below meth c H locs cells slots Q (F0 m pc ls st0) := by
  subst hst
  refine va_callv (va_runI F hM cw ⟨zblind, zpre (zP_r hP) hK (zD_r hD)⟩ rfl hn hsz rfl (lv_room hW) hdg hf) hS (fun q _ h => zfree (zD_r hD) hS hA q h) (zfree (zD_r hD) hS hA) (fun u t H1 locs1 ht hvm hw hB hz1 hk1 hS1 => ?_)
  obtain ⟨hP1, -, hD1⟩ := hB
  rw [ht] at hP1
  obtain ⟨hP2, hD2⟩ := zjoin_r hP hD (zfree (zD_r hD) hS hA) hk1 hP1 hD1
  exact kk H1 locs1 hP2 hD2 hS1
theorem z_topi {x y : Int32} (h : x = y) (k : W p l e R s m args below meth c H locs cells slots Q (F0 m pc ls (.int y :: rest))) : W p l e R s m args below meth c H locs cells slots Q (F0 m pc ls (.int x :: rest)) := by rw [h]; exact k
theorem z_topl {x y : Int64} (h : x = y) (k : W p l e R s m args below meth c H locs cells slots Q (F0 m pc ls (.long y :: rest))) : W p l e R s m args below meth c H locs cells slots Q (F0 m pc ls (.long x :: rest)) := by rw [h]; exact k
theorem z_topd {x y : UInt64} (h : x = y) (k : W p l e R s m args below meth c H locs cells slots Q (F0 m pc ls (.double y :: rest))) : W p l e R s m args below meth c H locs cells slots Q (F0 m pc ls (.double x :: rest)) := by rw [h]; exact k
variable {cl : List vw_C} {a : Nat}
theorem ax_ild (hexec : p.tables.exec = Jvm.exec) (hb : c.code = cc) (hK : va_K D cl tys s) (hP : va_P D cl ws H) (q0 t0 : Nat) {cA : ClassId} {n : Nat} {f : Nat → Int32} (ha : ws[q0]? = some (a, .inl (cA, n, .inl f))) (ht : tys[t0]? = some (cA, .int)) {i : Nat} (hi : i < n) (hn : n < 2 ^ 31) (hdg : decode cc pc = .ok (.iaload, 1))
    (kk : W p l e R s m args below meth c H locs cells slots Q (F0 m (pc + 1) ls (.int (f i) :: rest))) : W p l e R s m args below meth c H locs cells slots Q (F0 m pc ls (.int (nI i) :: .ref a :: rest)) :=
  va_iald hexec hb hK hP q0 t0 ha ht (vp_in_nI hi hn) hdg (by rw [nI_clamp (Nat.lt_trans hi hn)]; exact kk)
theorem ax_ist (hexec : p.tables.exec = Jvm.exec) (hb : c.code = cc) (hK : va_K D cl tys s) (hP : va_P D cl ws H) (hD : va_D A ws) (hS : va_S A H0 H locs) (q0 t0 : Nat) {cA : ClassId} {n : Nat} {f : Nat → Int32} (ha : ws[q0]? = some (a, .inl (cA, n, .inl f))) (ht : tys[t0]? = some (cA, .int)) {i : Nat} {x : Int32} (hi : i < n) (hn : n < 2 ^ 31) (hdg : decode cc pc = .ok (.iastore, 1))
    (kk : ∀ (H1 : Heap) (locs1 : List Loc), va_P D cl (ws.set q0 (a, .inl (cA, n, .inl (upd f i x)))) H1 → va_D A (ws.set q0 (a, .inl (cA, n, .inl (upd f i x)))) → va_S A H0 H1 locs1 → W p l e R s m args below meth c H1 locs1 cells slots Q (F0 m (pc + 1) ls rest)) : W p l e R s m args below meth c H locs cells slots Q (F0 m pc ls (.int x :: .int (nI i) :: .ref a :: rest)) :=
  va_iast hexec hb hK hP hD hS q0 t0 ha ht (vp_in_nI hi hn) hdg (by rw [nI_clamp (Nat.lt_trans hi hn)]; exact kk)
theorem ax_zld (hexec : p.tables.exec = Jvm.exec) (hb : c.code = cc) (hK : va_K D cl tys s) (hP : va_P D cl ws H) (q0 t0 : Nat) {cA : ClassId} {n : Nat} {f : Nat → Int32} (ha : ws[q0]? = some (a, .inl (cA, n, .inl f))) (ht : tys[t0]? = some (cA, .boolean)) {i : Nat} (hi : i < n) (hn : n < 2 ^ 31) (hdg : decode cc pc = .ok (.baload, 1))
    (kk : W p l e R s m args below meth c H locs cells slots Q (F0 m (pc + 1) ls (.int (f i) :: rest))) : W p l e R s m args below meth c H locs cells slots Q (F0 m pc ls (.int (nI i) :: .ref a :: rest)) :=
  va_zald hexec hb hK hP q0 t0 ha ht (vp_in_nI hi hn) hdg (by rw [nI_clamp (Nat.lt_trans hi hn)]; exact kk)
theorem ax_zst (hexec : p.tables.exec = Jvm.exec) (hb : c.code = cc) (hK : va_K D cl tys s) (hP : va_P D cl ws H) (hD : va_D A ws) (hS : va_S A H0 H locs) (q0 t0 : Nat) {cA : ClassId} {n : Nat} {f : Nat → Int32} (ha : ws[q0]? = some (a, .inl (cA, n, .inl f))) (ht : tys[t0]? = some (cA, .boolean)) {i : Nat} {x : Int32} (hx0 : vp_nar .boolean x = x) (hi : i < n) (hn : n < 2 ^ 31) (hdg : decode cc pc = .ok (.bastore, 1))
    (kk : ∀ (H1 : Heap) (locs1 : List Loc), va_P D cl (ws.set q0 (a, .inl (cA, n, .inl (upd f i x)))) H1 → va_D A (ws.set q0 (a, .inl (cA, n, .inl (upd f i x)))) → va_S A H0 H1 locs1 → W p l e R s m args below meth c H1 locs1 cells slots Q (F0 m (pc + 1) ls rest)) : W p l e R s m args below meth c H locs cells slots Q (F0 m pc ls (.int x :: .int (nI i) :: .ref a :: rest)) :=
  va_zast hexec hb hK hP hD hS q0 t0 ha ht (vp_in_nI hi hn) hdg (by rw [nI_clamp (Nat.lt_trans hi hn), hx0]; exact kk)
theorem ax_lld (hexec : p.tables.exec = Jvm.exec) (hb : c.code = cc) (hK : va_K D cl tys s) (hP : va_P D cl ws H) (q0 t0 : Nat) {cA : ClassId} {n : Nat} {f : Nat → Int64} (ha : ws[q0]? = some (a, .inl (cA, n, .inr (.inl f)))) (ht : tys[t0]? = some (cA, .long)) {i : Nat} (hi : i < n) (hn : n < 2 ^ 31) (hdg : decode cc pc = .ok (.laload, 1))
    (kk : W p l e R s m args below meth c H locs cells slots Q (F0 m (pc + 1) ls (.long (f i) :: rest))) : W p l e R s m args below meth c H locs cells slots Q (F0 m pc ls (.int (nI i) :: .ref a :: rest)) :=
  va_lald hexec hb hK hP q0 t0 ha ht (vp_in_nI hi hn) hdg (by rw [nI_clamp (Nat.lt_trans hi hn)]; exact kk)
theorem ax_lst (hexec : p.tables.exec = Jvm.exec) (hb : c.code = cc) (hK : va_K D cl tys s) (hP : va_P D cl ws H) (hD : va_D A ws) (hS : va_S A H0 H locs) (q0 t0 : Nat) {cA : ClassId} {n : Nat} {f : Nat → Int64} (ha : ws[q0]? = some (a, .inl (cA, n, .inr (.inl f)))) (ht : tys[t0]? = some (cA, .long)) {i : Nat} {x : Int64} (hi : i < n) (hn : n < 2 ^ 31) (hdg : decode cc pc = .ok (.lastore, 1))
    (kk : ∀ (H1 : Heap) (locs1 : List Loc), va_P D cl (ws.set q0 (a, .inl (cA, n, .inr (.inl (vp_updL f i x))))) H1 → va_D A (ws.set q0 (a, .inl (cA, n, .inr (.inl (vp_updL f i x))))) → va_S A H0 H1 locs1 → W p l e R s m args below meth c H1 locs1 cells slots Q (F0 m (pc + 1) ls rest)) : W p l e R s m args below meth c H locs cells slots Q (F0 m pc ls (.long x :: .int (nI i) :: .ref a :: rest)) :=
  va_last hexec hb hK hP hD hS q0 t0 ha ht (vp_in_nI hi hn) hdg (by rw [nI_clamp (Nat.lt_trans hi hn)]; exact kk)
theorem ax_dld (hexec : p.tables.exec = Jvm.exec) (hb : c.code = cc) (hK : va_K D cl tys s) (hP : va_P D cl ws H) (q0 t0 : Nat) {cA : ClassId} {n : Nat} {f : Nat → UInt64} (ha : ws[q0]? = some (a, .inl (cA, n, .inr (.inr (.inr (.inl f)))))) (ht : tys[t0]? = some (cA, .double)) {i : Nat} (hi : i < n) (hn : n < 2 ^ 31) (hdg : decode cc pc = .ok (.daload, 1))
    (kk : W p l e R s m args below meth c H locs cells slots Q (F0 m (pc + 1) ls (.double (f i) :: rest))) : W p l e R s m args below meth c H locs cells slots Q (F0 m pc ls (.int (nI i) :: .ref a :: rest)) :=
  va_dald hexec hb hK hP q0 t0 ha ht (vp_in_nI hi hn) hdg (by rw [nI_clamp (Nat.lt_trans hi hn)]; exact kk)
theorem ax_dst (hexec : p.tables.exec = Jvm.exec) (hb : c.code = cc) (hK : va_K D cl tys s) (hP : va_P D cl ws H) (hD : va_D A ws) (hS : va_S A H0 H locs) (q0 t0 : Nat) {cA : ClassId} {n : Nat} {f : Nat → UInt64} (ha : ws[q0]? = some (a, .inl (cA, n, .inr (.inr (.inr (.inl f)))))) (ht : tys[t0]? = some (cA, .double)) {i : Nat} {x : UInt64} (hi : i < n) (hn : n < 2 ^ 31) (hdg : decode cc pc = .ok (.dastore, 1))
    (kk : ∀ (H1 : Heap) (locs1 : List Loc), va_P D cl (ws.set q0 (a, .inl (cA, n, .inr (.inr (.inr (.inl (vf_upd f i x))))))) H1 → va_D A (ws.set q0 (a, .inl (cA, n, .inr (.inr (.inr (.inl (vf_upd f i x))))))) → va_S A H0 H1 locs1 → W p l e R s m args below meth c H1 locs1 cells slots Q (F0 m (pc + 1) ls rest)) : W p l e R s m args below meth c H locs cells slots Q (F0 m pc ls (.double x :: .int (nI i) :: .ref a :: rest)) :=
  va_dast hexec hb hK hP hD hS q0 t0 ha ht (vp_in_nI hi hn) hdg (by rw [nI_clamp (Nat.lt_trans hi hn)]; exact kk)
theorem zb_eq {a b : Nat} (hexec : p.tables.exec = Jvm.exec) (hb : c.code = cc) {off : Int} {tgt : Nat} (hdg : decode cc pc = .ok (.if_icmp .eq off, 3)) (ht : (pc : Int) + off = (tgt : Int)) (ha : a < 2 ^ 31) (hb9 : b < 2 ^ 31)
    (kt : a = b → W p l e R s m args below meth c H locs cells slots Q (F0 m tgt ls rest)) (kf : a ≠ b → W p l e R s m args below meth c H locs cells slots Q (F0 m (pc + 3) ls rest)) : W p l e R s m args below meth c H locs cells slots Q (F0 m pc ls (.int (nI b) :: .int (nI a) :: rest)) :=
  lv_icmp_eq hexec hb hdg ht (fun c9 => kt ((nI_eq ha hb9).mp c9)) (fun c9 => kf (fun e9 => c9 ((nI_eq ha hb9).mpr e9)))
theorem zb_ne {a b : Nat} (hexec : p.tables.exec = Jvm.exec) (hb : c.code = cc) {off : Int} {tgt : Nat} (hdg : decode cc pc = .ok (.if_icmp .ne off, 3)) (ht : (pc : Int) + off = (tgt : Int)) (ha : a < 2 ^ 31) (hb9 : b < 2 ^ 31)
    (kt : a ≠ b → W p l e R s m args below meth c H locs cells slots Q (F0 m tgt ls rest)) (kf : a = b → W p l e R s m args below meth c H locs cells slots Q (F0 m (pc + 3) ls rest)) : W p l e R s m args below meth c H locs cells slots Q (F0 m pc ls (.int (nI b) :: .int (nI a) :: rest)) :=
  lv_icmp_ne hexec hb hdg ht (fun c9 => kt (fun e9 => c9 ((nI_eq ha hb9).mpr e9))) (fun c9 => kf ((nI_eq ha hb9).mp c9))
theorem zb_lt {a b : Nat} (hexec : p.tables.exec = Jvm.exec) (hb : c.code = cc) {off : Int} {tgt : Nat} (hdg : decode cc pc = .ok (.if_icmp .lt off, 3)) (ht : (pc : Int) + off = (tgt : Int)) (ha : a < 2 ^ 31) (hb9 : b < 2 ^ 31)
    (kt : a < b → W p l e R s m args below meth c H locs cells slots Q (F0 m tgt ls rest)) (kf : b ≤ a → W p l e R s m args below meth c H locs cells slots Q (F0 m (pc + 3) ls rest)) : W p l e R s m args below meth c H locs cells slots Q (F0 m pc ls (.int (nI b) :: .int (nI a) :: rest)) :=
  lv_icmp_lt hexec hb hdg ht (fun c9 => kt ((nI_ltI ha hb9).mp c9)) (fun c9 => kf (by rcases Nat.lt_or_ge a b with q9 | q9; exact absurd ((nI_ltI ha hb9).mpr q9) c9; exact q9))
theorem zb_ge {a b : Nat} (hexec : p.tables.exec = Jvm.exec) (hb : c.code = cc) {off : Int} {tgt : Nat} (hdg : decode cc pc = .ok (.if_icmp .ge off, 3)) (ht : (pc : Int) + off = (tgt : Int)) (ha : a < 2 ^ 31) (hb9 : b < 2 ^ 31)
    (kt : b ≤ a → W p l e R s m args below meth c H locs cells slots Q (F0 m tgt ls rest)) (kf : a < b → W p l e R s m args below meth c H locs cells slots Q (F0 m (pc + 3) ls rest)) : W p l e R s m args below meth c H locs cells slots Q (F0 m pc ls (.int (nI b) :: .int (nI a) :: rest)) :=
  lv_icmp_ge hexec hb hdg ht (fun c9 => kt ((nI_leI hb9 ha).mp c9)) (fun c9 => kf (by rcases Nat.lt_or_ge a b with q9 | q9; exact q9; exact absurd ((nI_leI hb9 ha).mpr q9) c9))
theorem zb_gt {a b : Nat} (hexec : p.tables.exec = Jvm.exec) (hb : c.code = cc) {off : Int} {tgt : Nat} (hdg : decode cc pc = .ok (.if_icmp .gt off, 3)) (ht : (pc : Int) + off = (tgt : Int)) (ha : a < 2 ^ 31) (hb9 : b < 2 ^ 31)
    (kt : b < a → W p l e R s m args below meth c H locs cells slots Q (F0 m tgt ls rest)) (kf : a ≤ b → W p l e R s m args below meth c H locs cells slots Q (F0 m (pc + 3) ls rest)) : W p l e R s m args below meth c H locs cells slots Q (F0 m pc ls (.int (nI b) :: .int (nI a) :: rest)) :=
  lv_icmp_gt hexec hb hdg ht (fun c9 => kt ((nI_ltI hb9 ha).mp c9)) (fun c9 => kf (by rcases Nat.lt_or_ge b a with q9 | q9; exact absurd ((nI_ltI hb9 ha).mpr q9) c9; exact q9))
theorem zb_le {a b : Nat} (hexec : p.tables.exec = Jvm.exec) (hb : c.code = cc) {off : Int} {tgt : Nat} (hdg : decode cc pc = .ok (.if_icmp .le off, 3)) (ht : (pc : Int) + off = (tgt : Int)) (ha : a < 2 ^ 31) (hb9 : b < 2 ^ 31)
    (kt : a ≤ b → W p l e R s m args below meth c H locs cells slots Q (F0 m tgt ls rest)) (kf : b < a → W p l e R s m args below meth c H locs cells slots Q (F0 m (pc + 3) ls rest)) : W p l e R s m args below meth c H locs cells slots Q (F0 m pc ls (.int (nI b) :: .int (nI a) :: rest)) :=
  lv_icmp_le hexec hb hdg ht (fun c9 => kt ((nI_leI ha hb9).mp c9)) (fun c9 => kf (by rcases Nat.lt_or_ge b a with q9 | q9; exact q9; exact absurd ((nI_leI ha hb9).mpr q9) c9))
end ZR
