/-! what a throw rests on: words of the tables that a call must be told, the six texts, two statics of Throwable's -/
abbrev eIO : String := "java/lang/IndexOutOfBoundsException"
abbrev eIA : String := "java/lang/IllegalArgumentException"
abbrev eNm : List String := ["java/lang/RuntimeException", "java/lang/Exception"]
abbrev eD1 : Cond := .declares (Bundle.initS "java/lang/RuntimeException")
abbrev eD2 : Cond := .declares (Bundle.initS "java/lang/Exception")
abbrev eD3 : Cond := .declares (Bundle.initS "java/lang/Throwable")
def xS (U : State) : Prop := ((va_Nw (.castable eIO eIO) U ∧ va_Nw (.castable eIA eIA) U ∧ va_Nc eIA eIO U) ∧ va_Nw eD1 U ∧ va_Nw eD2 U ∧ va_Nw eD3 U) ∧ ∃ sa : Nat → Nat, vk_R RX2 141 "no such share" (sa 141) U ∧ vk_R RX2 81 "a value is -1000.0 to 1000.0" (sa 81) U ∧ vk_R RX2 90 "no such region" (sa 90) U ∧ vk_R RX2 96 "workers are 1 to 16" (sa 96) U ∧ vk_R RX2 124 "no such worker" (sa 124) U ∧ vk_R RX2 130 "a rank is 0 to 9" (sa 130) U
def xH (A : Nat → Prop) (U : State) (H : Heap) : Prop := vx_Zq Bundle.tN "UNASSIGNED_STACK" Bundle.steD A U H ∧ vx_Zq Bundle.tN "SUPPRESSED_SENTINEL" Bundle.listD A U H
theorem xS.warm {s U : State} (hW : s.WarmedH U.vm) (h : xS s) : xS U := by
  obtain ⟨⟨⟨h1, h2, h3⟩, h4, h5, h6⟩, sa, a1, a2, a3, a4, a5, a6⟩ := h
  exact ⟨⟨⟨va_Nw.warmC hW h1, va_Nw.warmC hW h2, va_Nc.moved hW.alike h3⟩, va_Nw.warmD hW h4, va_Nw.warmD hW h5, va_Nw.warmD hW h6⟩, sa, vk_R.warm hW a1, vk_R.warm hW a2, vk_R.warm hW a3, vk_R.warm hW a4, vk_R.warm hW a5, vk_R.warm hW a6⟩
theorem xS.same {s U : State} (hv : U.vm = s.vm) (h : xS s) : xS U := by
  obtain ⟨⟨⟨h1, h2, h3⟩, h4, h5, h6⟩, sa, a1, a2, a3, a4, a5, a6⟩ := h
  exact ⟨⟨⟨va_Nw.same rfl hv.symm h1, va_Nw.same rfl hv.symm h2, va_Nc.moved (by rw [hv]; exact Vm.Alike.refl _) h3⟩, va_Nw.same rfl hv.symm h4, va_Nw.same rfl hv.symm h5, va_Nw.same rfl hv.symm h6⟩, sa, vk_R.same hv a1, vk_R.same hv a2, vk_R.same hv a3, vk_R.same hv a4, vk_R.same hv a5, vk_R.same hv a6⟩
theorem xH.moved {A : Nat → Prop} {u U : State} {H : Heap} (hvm : u.vm.Alike U.vm) (h : xH A u H) : xH A U H := ⟨vx_Zq.moved hvm h.1, vx_Zq.moved hvm h.2⟩
theorem xH.kept {A : Nat → Prop} {U : State} {H H1 : Heap} (h : xH A U H) (hq : ∀ a : Nat, a < H.size → ¬ A a → H1[a]? = H[a]?) : xH A U H1 := ⟨h.1.kept hq, h.2.kept hq⟩
theorem xH.narrow {A B : Nat → Prop} {U : State} {H : Heap} (h : xH A U H) (hAB : ∀ q, B q → A q) : xH B U H := ⟨h.1.narrow hAB, h.2.narrow hAB⟩
abbrev xPre (D : va_G) (tys : zTy) (ws : va_W) (sz : Nat) : State → Prop := fun U => zPre D tys ws sz U ∧ xS U ∧ xH (va_A ws sz) U U.heap
theorem xblind {av : List Value} {D : va_G} {tys : zTy} {ws : va_W} {sz : Nat} : FrameBlind (va_Pc av (xPre D tys ws sz)) := fun a U g mk q => by
  obtain ⟨q0, ⟨q1, qP, qK, qD⟩, qS, qH⟩ := q
  exact ⟨q0, ⟨q1, qP, va_K.moved (u := U) (U := U.calling g mk a) (Vm.Alike.refl U.vm) qK, qD⟩, xS.same (s := U) rfl qS, xH.moved (u := U) (Vm.Alike.refl U.vm) qH⟩
theorem xpre {av : List Value} {D : va_G} {tys : zTy} {ws : va_W} {A : Nat → Prop} {s : State} {H H0 : Heap} {locs : List Loc} (hP : va_P D vwCl ws H) (hK : va_K D vwCl tys s) (hD : va_D A ws) (hS : va_S A H0 H locs) (hA : ∀ q, H0.size ≤ q → A q) (hxS : xS s) (hxH : xH A s H0) : ∀ U : State, U.heap = H → s.WarmedH U.vm → va_Pc av (xPre D tys ws H.size) av.toArray U :=
  fun U hU hW => ⟨rfl, ⟨by rw [hU], by rw [hU]; exact hP, va_K.moved hW.alike hK, hD.weaken (fun _ _ _ _ => trivial)⟩, hxS.warm hW, by rw [hU]; exact ((hxH.moved hW.alike).kept hS.2.1).narrow (zfree hD hS hA)⟩
abbrev xX (D : va_G) (ws : va_W) (E : String) (A : Nat → Prop) : String → State → State → Prop := vx_X (fun _ : Unit => True) (fun E2 (_ : Unit) t => E2 = E ∧ va_P D vwCl ws t.heap) A
abbrev xQi (A : Nat → Prop) : Array Value → State → Outcome → State → Prop := va_Qi (fun _ (_ : Unit) => False) (fun _ _ => True) A
abbrev xQv (A : Nat → Prop) : Array Value → State → Outcome → State → Prop := va_Qv (fun (_ : Unit) => False) (fun _ _ => True) A
abbrev mXi (l : Launch) (y : MethodName) (wl : List Cond) (rm : Room) (av : List Value) (D : va_G) (tys : zTy) (ws : va_W) (sz : Nat) (E : String) : Prop := vx_Met l y wl rm (va_Pc av (xPre D tys ws sz)) (xQi (va_A ws sz)) (xX D ws E (va_A ws sz)) 1 6 (va_A ws sz)
abbrev mXv (l : Launch) (y : MethodName) (wl : List Cond) (rm : Room) (av : List Value) (D : va_G) (tys : zTy) (ws : va_W) (sz : Nat) (E : String) : Prop := vx_Met l y wl rm (va_Pc av (xPre D tys ws sz)) (xQv (va_A ws sz)) (xX D ws E (va_A ws sz)) 1 6 (va_A ws sz)
theorem xin {l : Launch} {y : MethodName} {wl wl' : List Cond} {rm : Room} {av : List Value} {D : va_G} {tys : zTy} {ws : va_W} {sz : Nat} {E : String} {cc : ByteArray} {maxL : Nat} {ret : Option FieldType} {own : String} (Qf : (Nat → Prop) → Array Value → State → Outcome → State → Prop)
    (hy : plainName y.cls = true) (ho : y.cls = own) (hw : wl = Cond.code y cc maxL ret :: wl') (hlen : (lg_sl av).length ≤ maxL)
    (body : ∀ (p : Program) (e : Env) (s : State) (m : MethodId) (below : List Frame) (meth : Method) (c : Code) (A : Nat → Prop), CallFix p m c cc maxL s av.toArray wl own → meth.locks = false → (∀ x ∈ c.exceptionTable.toList, False) → (∀ q, s.heap.size ≤ q → A q) → va_K D vwCl tys s → xS s → xH A s s.heap → ∀ (H : Heap) (locs : List Loc), va_P D vwCl ws H → va_D A ws → va_S A s.heap H locs → ∀ ls : Array Slot, lv_has ls maxL (lv_args 0 av) →
      W p l e rm s m av.toArray below meth c H locs 0 0 (vx_MQ below (Qf A) (xX D ws E A) av.toArray s 1 6 A) (F0 m 0 ls [])) : vx_Met l y wl rm (va_Pc av (xPre D tys ws sz)) (Qf (va_A ws sz)) (xX D ws E (va_A ws sz)) 1 6 (va_A ws sz) := by
  refine vx_ofW (cc := cc) (maxL := maxL) (ret := ret) hy hw ?_
  intro p e s m args below meth c s₁ B hml ht hv
  obtain ⟨rfl, ⟨hsz, hP, hK, hD0⟩, hxS, hxH⟩ := hv
  subst hsz
  subst ho
  rw [lg_entry_eq]
  exact body p e s m below meth c (va_A ws s.heap.size) ⟨B.exec, B.bytes, hml, findClass_of_methodNamed B.named, atoms_spec (ws := wl) B.pre⟩ B.notSynchronized ht (fun q h => Or.inr h) hK hxS hxH s.heap [] hP hD0.self va_S.rf _ (lv_entry av hlen)
section XT
variable {p : Program} {l : Launch} {e : Env} {R : Room} {s : State} {m : MethodId} {args : Array Value} {below : List Frame} {meth : Method} {c : Code} {H H0 : Heap} {locs : List Loc} {cells slots : Nat} {Q : State → Prop} {pc : Nat} {ls : Array Slot} {rest st0 : List Value} {cc : ByteArray} {nL : Nat} {Ts : List Cond} {own : String} {D : va_G} {tys : zTy} {ws ws' : va_W} {A : Nat → Prop} {Qc : Array Value → State → Outcome → State → Prop}
theorem x_XC {E : String} {H1 : Heap} (hP : va_P D vwCl ws H) (hS : va_S A s.heap H locs) {t : State} (hz : H.size ≤ t.heap.size) (hk : ∀ q : Nat, q < H.size → t.heap[q]? = H[q]?) : xX D ws E A E s t :=
  ⟨(), trivial, ⟨rfl, hP.kept fun k q hk9 => hk q.1 (hP k q hk9).lt⟩, ⟨Nat.le_trans hS.1 hz, fun q h1 h2 => by rw [hk q (Nat.lt_of_lt_of_le h1 hS.1)]; exact hS.2.1 q h1 h2⟩⟩
theorem x_throw {cls text : String} {ik is ic sa : Nat} (F : CallFix p m c cc nL s args Ts own) (hlt : l.stackTraces = false) (hcls : Bundle.fit cls = true)
    (hk : (Cond.classLink own ik cls).before args s = true) (hini : (Cond.initialized cls).before args s = true) (hstr : vk_R own is text sa s) (hat1 : ∀ w ∈ (vx_atS own ic cls eNm).filter goodWord, w ∈ Ts) (hat2 : ∀ w ∈ (vx_atS own ic cls eNm).filter (fun w => !goodWord w), w ∈ [Cond.castable cls cls, eD1, eD2, eD3]) (hcast : va_Nw (.castable cls cls) s) (hdc : va_Nw eD1 s ∧ va_Nw eD2 s ∧ va_Nw eD3 s)
    (hgood : ∀ w ∈ Cond.classLink own ik cls :: Cond.initialized cls :: vx_atS own ic cls eNm, vx_ot w = true)
    (hxH : xH A s s.heap) (hP : va_P D vwCl ws H) (hS : va_S A s.heap H locs) (hsize : ls.size = nL)
    (d0 : decode cc pc = .ok (.new ik, 3)) (d3 : decode cc (pc + 3) = .ok (.dup, 1)) (d4 : decode cc (pc + 4) = .ok (.ldc is, 2)) (d6 : decode cc (pc + 6) = .ok (.invokespecial ic, 3)) (d9 : decode cc (pc + 9) = .ok (.athrow, 1))
    (ht : ∀ x ∈ c.exceptionTable.toList, False) (hRf : 5 < R.frames) (hRl : 82 ≤ R.locals) (hRc : 1 ≤ R.cells) (hRs : 6 ≤ R.slots) (hlocks : meth.locks = false) :
    W p l e R s m args below meth c H locs 0 0 (vx_MQ below Qc (xX D ws cls A) args s 1 6 A) (F0 m pc ls []) :=
  vx_throwS (names := eNm) F.1 F.2.1 hlt F.2.2.2.1 hcls (by decide +kernel) hk hini hstr (vx_hat (B := [Cond.castable cls cls, eD1, eD2, eD3]) (fun w h => F.2.2.2.2 w (hat1 w h)) hat2 (vx_c (va_Nw.use rfl hcast) (vx_c (va_Nw.use rfl hdc.1) (vx_c (va_Nw.use rfl hdc.2.1) (vx_c (va_Nw.use rfl hdc.2.2) vx_n))))) hgood hxH.1 hxH.2 hS (hsize.trans F.2.2.1.symm) d0 d3 d4 d6 d9 (fun x h => (ht x h).elim) hRf (by show 0 + 82 ≤ _; omega) (by omega) (by omega) hlocks
    (fun t _ hz hk9 => x_XC (H1 := H) hP hS hz hk9) hS.2.2 (Nat.le_refl _) (Nat.le_refl _)
variable {y : MethodName} {bytes : ByteArray} {maxL n index : Nat} {ret : Option FieldType} {wl : List Cond} {rm : Room} {C : String} {b : Nat} {As : List Value} {fa : va_W} {E : String}
/-- a callee throws, and it goes on to the caller -/
theorem x_pass (F : CallFix p m c cc nL s args Ts own) (hM : mXv l y wl rm (.ref b :: As) D tys ws H.size E) (cw : CallW R s args own C index y bytes maxL ret wl rm 1 6 n) (hb : ∃ cellB : Cell, H[b]? = some cellB ∧ cellB.vm.isStatics = false ∧ s.vm.findClass C = some cellB.cls) (hK : va_K D vwCl tys s) (hxS : xS s) (hxH : xH A s s.heap) (hP : va_P D vwCl ws H) (hD : va_D A ws) (hS : va_S A s.heap H locs) (hA : ∀ q, s.heap.size ≤ q → A q)
    (hn : As.length = n) (hsz : ls.size = nL) (hst : st0 = As.reverse ++ .ref b :: rest) (hW : (rest.map fun v => v.category).sum ≤ 8) (hdg : decode cc pc = .ok (.invokevirtual index, 3)) (hf : 1 ≤ R.cells ∧ 6 ≤ R.slots)
    (ht : ∀ x ∈ c.exceptionTable.toList, False) (hlocks : meth.locks = false) : W p l e R s m args below meth c H locs 0 0 (vx_MQ below Qc (xX D ws E A) args s 1 6 A) (F0 m pc ls st0) := by
  subst hst
  refine vx_callv (vx_runV F hM cw ⟨xblind, hb, xpre hP hK hD hS hA hxS hxH⟩ rfl hn hsz rfl (lv_room hW) hdg (by omega)) hS (fun q _ h => zfree hD hS hA q h) (zfree hD hS hA) (fun q _ h => zfree hD hS hA q h) (fun E2 ce q9 u t H1 locs1 h1 hvm hp hB hz hk hS1 hce hcv hcl => ?_) (fun u t H1 locs1 h1 hvm hp _ _ _ _ => hp.elim)
  obtain ⟨rfl, hP1⟩ := hB
  rw [h1] at hP1
  refine vx_out (fun x h => (ht x h).elim) hlocks hce hcv hcl (fun t2 e2 _ => ?_) hS1.2.2 (Nat.le_refl _) (Nat.le_refl _)
  exact x_XC (H1 := H1) hP1 hS1 (by rw [e2]; exact Nat.le_refl _) (fun q _ => by rw [e2])
/-- a callee throws, and a row of this method's table takes it -/
theorem x_catch {nm : String} (F : CallFix p m c cc nL s args Ts own) (hM : mXi l y wl rm (.ref b :: As) D tys ws H.size E) (cw : CallW R s args own C index y bytes maxL ret wl rm 1 6 n) (hb : ∃ cellB : Cell, H[b]? = some cellB ∧ cellB.vm.isStatics = false ∧ s.vm.findClass C = some cellB.cls) (hK : va_K D vwCl tys s) (hxS : xS s) (hxH : xH A s s.heap) (hP : va_P D vwCl (ws ++ fa) H) (hD : va_D A (ws ++ fa)) (hS : va_S A s.heap H locs) (hA : ∀ q, s.heap.size ≤ q → A q)
    (hn : As.length = n) (hsz : ls.size = nL) (hst : st0 = As.reverse ++ .ref b :: rest) (hW : (rest.map fun v => v.category).sum ≤ 8) (hdg : decode cc pc = .ok (.invokevirtual index, 3)) (hf : 1 ≤ R.cells ∧ 6 ≤ R.slots)
    (pre : List ExceptionTableEntry) (x : ExceptionTableEntry) (suf : List ExceptionTableEntry) (hsplit : c.exceptionTable.toList = pre ++ x :: suf)
    (hpass : ∀ z ∈ pre, covers z pc = false ∨ (z.catchType ≠ 0 ∧ ∃ nm : String, (Cond.classLink own z.catchType nm).before args s = true ∧ va_Nc E nm s)) (hx : covers x pc = true) (h0 : x.catchType ≠ 0)
    (hlink : (Cond.classLink own x.catchType E).before args s = true) (hcast : va_Nw (.castable E E) s)
    (kk : ∀ (q9 : Nat) (H1 : Heap) (locs1 : List Loc), va_P D vwCl (ws ++ fa) H1 → va_D A (ws ++ fa) → va_S A s.heap H1 locs1 → W p l e R s m args below meth c H1 locs1 1 6 Q (F0 m x.handlerPc ls [.ref q9])) : W p l e R s m args below meth c H locs 0 0 Q (F0 m pc ls st0) := by
  subst hst
  refine vx_calli (vx_runV F hM cw ⟨xblind, hb, xpre (zP_l hP) hK (zD_l hD) hS hA hxS hxH⟩ rfl hn hsz rfl (lv_room hW) hdg (by omega)) hS (fun q _ h => zfree (zD_l hD) hS hA q h) (zfree (zD_l hD) hS hA) (fun q _ h => zfree (zD_l hD) hS hA q h) (fun E2 ce q9 u t H1 locs1 h1 hvm hp hB hz hk hS1 hce hcv hcl => ?_) (fun r u t H1 locs1 h1 hvm hp _ _ _ _ => hp.elim)
  obtain ⟨rfl, hP1⟩ := hB
  rw [h1] at hP1
  obtain ⟨hP2, hD2⟩ := zjoin_l hP hD (zfree (zD_l hD) hS hA) hk hP1 (zD_l hD).self
  exact rc_catch F.2.2.2.1 pre x suf hsplit hpass hx h0 hlink (va_Nw.use rfl hcast) hce hcv hcl (kk q9 H1 locs1 hP2 hD2 hS1)
end XT
set_option maxHeartbeats 1000000 in
set_option maxRecDepth 100000 in
theorem xX2_requireShare (l : Launch) (hlt : l.stackTraces = false) (D : va_G) (ad : Nat → Nat) (cy : Nat → ClassId) (sz : Nat) (n : Nat) (V : Nat → UInt64) (Z : Nat → Int32) (R : Nat → Int32) (K : Nat → Int32) (B : Nat → Int32) (M : Nat → Int32) (bc : Nat) (G : Int32) (L : Int32) (S : Int64) (q : Nat → Int32) (w : Int32) (U : Nat → Int32) (wk : Int64) (jo : UInt64) (x : Int32) (hxo : x < 0 ∨ nI n ≤ x) : mXv l yX2_requireShare wsX2_requireShare ({ frames := 6, cells := 1, slots := 6, locals := 82 }) [.ref (ad 0), .int x] D (cT cy) (cW ad cy n V Z R K B M bc G L S q w U wk jo) sz eIO := by
  refine xin (fun A => xQv A) (cc := cX2_requireShare) (maxL := 2) (ret := none) (own := RX2) (by decide) rfl rfl (Nat.le_of_ble_eq_true rfl) ?_
  intro p e s m below meth c A F hlocks ht hA hK hxS hxH H locs hP hD hS ls hl
  obtain ⟨hx, hb, hml, hown, hts⟩ := id F
  have hl : lv_has ls 2 [(0, .ref (ad 0)), (1, .int x)] := hl
  have hinX2 : ∀ w ∈ wsX20, w ∈ wsX2_requireShare := by decide +kernel
  have hf_18 := hts (.fieldLink RX2 18 "RegionShares" "shares" "I") (by decide +kernel)
  refine lv_iload_n hx hb dX2_requireShare_0 rfl (lv_at hl 1 rfl) ?_
  refine lv_if_lt (tgt := 12) hx hb dX2_requireShare_1 (by decide) (fun c1 => ?_) (fun c1 => ?_)
  · obtain ⟨⟨⟨hcc1, hcc2, -⟩, hdc⟩, sa, a1, a2, a3, a4, a5, a6⟩ := id hxS
    exact x_throw (cls := eIO) (ik := 88) (is := 141) (ic := 92) F hlt (by decide +kernel) (hts (.classLink RX2 88 eIO) (by decide +kernel)) (hts (.initialized eIO) (by decide +kernel)) a1 (fun w h => by first | exact List.mem_cons_of_mem _ (List.mem_append_right _ h) | exact List.mem_cons_of_mem _ (List.mem_append_left _ (List.mem_append_right _ h))) (by decide +kernel) hcc1 hdc (by decide +kernel) hxH hP hS hl.1 dX2_requireShare_12 dX2_requireShare_15 dX2_requireShare_16 dX2_requireShare_18 dX2_requireShare_21 ht (Nat.le_of_ble_eq_true rfl) (Nat.le_of_ble_eq_true rfl) (Nat.le_of_ble_eq_true rfl) (Nat.le_of_ble_eq_true rfl) hlocks
  · refine lv_iload_n hx hb dX2_requireShare_4 rfl (lv_at hl 1 rfl) ?_
    refine lv_aload_n hx hb dX2_requireShare_5 rfl (lv_at hl 0 rfl) ?_
    refine va_get (D := D) (ci := 2) (v := .int (nI n)) (C := RX2) (T := TX2) (N := 13) hx hb hts hinX2 hown hK hP 0 rfl rfl 0 (by decide) hf_18 (fun _ h9 => h9) rfl dX2_requireShare_6 ?_
    refine lv_icmp_lt (tgt := 22) hx hb dX2_requireShare_9 (by decide) (fun c9 => ?_) (fun c9 => ?_)
    · exact absurd (hxo.resolve_left c1) (i_nle c9)
    · obtain ⟨⟨⟨hcc1, hcc2, -⟩, hdc⟩, sa, a1, a2, a3, a4, a5, a6⟩ := id hxS
      exact x_throw (cls := eIO) (ik := 88) (is := 141) (ic := 92) F hlt (by decide +kernel) (hts (.classLink RX2 88 eIO) (by decide +kernel)) (hts (.initialized eIO) (by decide +kernel)) a1 (fun w h => by first | exact List.mem_cons_of_mem _ (List.mem_append_right _ h) | exact List.mem_cons_of_mem _ (List.mem_append_left _ (List.mem_append_right _ h))) (by decide +kernel) hcc1 hdc (by decide +kernel) hxH hP hS hl.1 dX2_requireShare_12 dX2_requireShare_15 dX2_requireShare_16 dX2_requireShare_18 dX2_requireShare_21 ht (Nat.le_of_ble_eq_true rfl) (Nat.le_of_ble_eq_true rfl) (Nat.le_of_ble_eq_true rfl) (Nat.le_of_ble_eq_true rfl) hlocks

set_option maxHeartbeats 1000000 in
set_option maxRecDepth 100000 in
theorem xX2_valueX (l : Launch) (hlt : l.stackTraces = false) (D : va_G) (ad : Nat → Nat) (cy : Nat → ClassId) (sz : Nat) (n : Nat) (V : Nat → UInt64) (Z : Nat → Int32) (R : Nat → Int32) (K : Nat → Int32) (B : Nat → Int32) (M : Nat → Int32) (bc : Nat) (G : Int32) (L : Int32) (S : Int64) (q : Nat → Int32) (w : Int32) (U : Nat → Int32) (wk : Int64) (jo : UInt64) (x : Int32) (v : UInt64) (hxo : x < 0 ∨ nI n ≤ x) : mXi l yX2_value wsX2_value ({ frames := 7, cells := 1, slots := 6, locals := 104 }) [.ref (ad 0), .int x, .double v] D (cT cy) (cW ad cy n V Z R K B M bc G L S q w U wk jo) sz eIO := by
  refine xin (fun A => xQi A) (cc := cX2_value) (maxL := 9) (ret := (some .boolean)) (own := RX2) (by decide) rfl rfl (Nat.le_of_ble_eq_true rfl) ?_
  intro p e s m below meth c A F hlocks ht hA hK hxS hxH H locs hP hD hS ls hl
  obtain ⟨hx, hb, hml, hown, hts⟩ := id F
  have hl : lv_has ls 9 [(0, .ref (ad 0)), (1, .int x), (2, .double v)] := hl
  refine lv_aload_n hx hb dX2_value_0 rfl (lv_at hl 0 rfl) ?_
  refine lv_iload_n hx hb dX2_value_1 rfl (lv_at hl 1 rfl) ?_
  exact x_pass (As := [.int x]) (rest := []) F (xX2_requireShare l hlt D ad cy H.size n V Z R K B M bc G L S q w U wk jo x hxo) (cwV 1 hts gX2_value_X2_requireShare rfl rfl rfl (by decide +kernel) ⟨Nat.le_of_ble_eq_true rfl, Nat.le_of_ble_eq_true rfl⟩) (va_recv hK hP (ci := 2) (q0 := 0) rfl rfl) hK hxS hxH hP hD hS hA rfl hl.1 rfl (Nat.le_of_ble_eq_true rfl) dX2_value_2 ⟨Nat.le_of_ble_eq_true rfl, Nat.le_of_ble_eq_true rfl⟩ ht hlocks

set_option maxHeartbeats 1000000 in
set_option maxRecDepth 100000 in
theorem xX2_value2 (l : Launch) (hlt : l.stackTraces = false) (D : va_G) (ad : Nat → Nat) (cy : Nat → ClassId) (sz : Nat) (n : Nat) (V : Nat → UInt64) (Z : Nat → Int32) (R : Nat → Int32) (K : Nat → Int32) (B : Nat → Int32) (M : Nat → Int32) (bc : Nat) (G : Int32) (L : Int32) (S : Int64) (q : Nat → Int32) (w : Int32) (U : Nat → Int32) (wk : Int64) (jo : UInt64) (k : Nat) (x : Int32) (hx1 : x.toInt < -8000 ∨ 8000 < x.toInt) (hk : k < n) (hn : n ≤ 40) : mXi l yX2_value wsX2_value ({ frames := 7, cells := 1, slots := 6, locals := 104 }) [.ref (ad 0), .int (nI k), .double (Dz (8 * x.toInt))] D (cT cy) (cW ad cy n V Z R K B M bc G L S q w U wk jo) sz eIA := by
  refine xin (fun A => xQi A) (cc := cX2_value) (maxL := 9) (ret := (some .boolean)) (own := RX2) (by decide) rfl rfl (Nat.le_of_ble_eq_true rfl) ?_
  intro p e s m below meth c A F hlocks ht hA hK hxS hxH H locs hP hD hS ls hl
  obtain ⟨hx, hb, hml, hown, hts⟩ := id F
  have hl : lv_has ls 9 [(0, .ref (ad 0)), (1, .int (nI k)), (2, .double (Dz (8 * x.toInt)))] := hl
  refine lv_aload_n hx hb dX2_value_0 rfl (lv_at hl 0 rfl) ?_
  refine lv_iload_n hx hb dX2_value_1 rfl (lv_at hl 1 rfl) ?_
  refine zcV_v (As := [.int (nI k)]) (rest := []) F (kX2_requireShare l D ad cy _ n V Z R K B M bc G L S q w U wk jo k hk hn) (cwV 1 hts gX2_value_X2_requireShare rfl rfl rfl (by decide +kernel) ⟨Nat.le_of_ble_eq_true rfl, Nat.le_of_ble_eq_true rfl⟩) (va_recv hK hP (ci := 2) (q0 := 0) rfl rfl) hK hP hD hS hA rfl hl.1 rfl (Nat.le_of_ble_eq_true rfl) dX2_value_2 ⟨Nat.le_of_ble_eq_true rfl, Nat.le_of_ble_eq_true rfl⟩ (fun H locs hP hD hS => ?_)
  have r1 := x.toInt_lt
  have r2 := x.le_toInt
  refine lv_dload_n hx hb dX2_value_5 rfl (lv_at hl 2 rfl) ?_
  refine lv_ldc2d hx hb hown (hts (.constantDouble RX2 75 (13875379345695965184)) (by decide +kernel)) dX2_value_6 ?_
  refine z_topd (y := Dz (-64000)) dz_m1000 ?_
  refine lv_dcmp hx hb dX2_value_9 ?_
  refine z_topi (y := cv (8 * x.toInt) (-64000)) (dz_cv (by omega) (by decide) _) ?_
  refine lv_if_lt (tgt := 25) hx hb dX2_value_10 (by decide) (fun c10 => ?_) (fun c10 => ?_)
  · refine lv_iconst (v := 0) hx hb dX2_value_25 (by decide) ?_
    refine lv_istore (lv' := [(4, .int 0), (0, .ref (ad 0)), (1, .int (nI k)), (2, .double (Dz (8 * x.toInt)))]) hx hb dX2_value_26 hl (by decide) rfl (fun ls hl => ?_)
    refine lv_iload hx hb dX2_value_28 (lv_at hl 0 rfl) ?_
    refine lv_if_ne (tgt := 43) hx hb dX2_value_30 (by decide) (fun c30 => ?_) (fun c30 => ?_)
    · exact absurd rfl c30
    · obtain ⟨⟨⟨hcc1, hcc2, -⟩, hdc⟩, sa, a1, a2, a3, a4, a5, a6⟩ := id hxS
      exact x_throw (cls := eIA) (ik := 79) (is := 81) (ic := 83) F hlt (by decide +kernel) (hts (.classLink RX2 79 eIA) (by decide +kernel)) (hts (.initialized eIA) (by decide +kernel)) a2 (fun w h => by first | exact List.mem_cons_of_mem _ (List.mem_append_right _ h) | exact List.mem_cons_of_mem _ (List.mem_append_left _ (List.mem_append_right _ h))) (by decide +kernel) hcc2 hdc (by decide +kernel) hxH hP hS hl.1 dX2_value_33 dX2_value_36 dX2_value_37 dX2_value_39 dX2_value_42 ht (Nat.le_of_ble_eq_true rfl) (Nat.le_of_ble_eq_true rfl) (Nat.le_of_ble_eq_true rfl) (Nat.le_of_ble_eq_true rfl) hlocks
  · refine lv_dload_n hx hb dX2_value_13 rfl (lv_at hl 2 rfl) ?_
    refine lv_ldc2d hx hb hown (hts (.constantDouble RX2 77 (4652007308841189376)) (by decide +kernel)) dX2_value_14 ?_
    refine z_topd (y := Dz 64000) dz_1000 ?_
    refine lv_dcmp hx hb dX2_value_17 ?_
    refine z_topi (y := cv (8 * x.toInt) 64000) (dz_cv (by omega) (by decide) _) ?_
    refine lv_if_gt (tgt := 25) hx hb dX2_value_18 (by decide) (fun c18 => ?_) (fun c18 => ?_)
    · refine lv_iconst (v := 0) hx hb dX2_value_25 (by decide) ?_
      refine lv_istore (lv' := [(4, .int 0), (0, .ref (ad 0)), (1, .int (nI k)), (2, .double (Dz (8 * x.toInt)))]) hx hb dX2_value_26 hl (by decide) rfl (fun ls hl => ?_)
      refine lv_iload hx hb dX2_value_28 (lv_at hl 0 rfl) ?_
      refine lv_if_ne (tgt := 43) hx hb dX2_value_30 (by decide) (fun c30 => ?_) (fun c30 => ?_)
      · exact absurd rfl c30
      · obtain ⟨⟨⟨hcc1, hcc2, -⟩, hdc⟩, sa, a1, a2, a3, a4, a5, a6⟩ := id hxS
        exact x_throw (cls := eIA) (ik := 79) (is := 81) (ic := 83) F hlt (by decide +kernel) (hts (.classLink RX2 79 eIA) (by decide +kernel)) (hts (.initialized eIA) (by decide +kernel)) a2 (fun w h => by first | exact List.mem_cons_of_mem _ (List.mem_append_right _ h) | exact List.mem_cons_of_mem _ (List.mem_append_left _ (List.mem_append_right _ h))) (by decide +kernel) hcc2 hdc (by decide +kernel) hxH hP hS hl.1 dX2_value_33 dX2_value_36 dX2_value_37 dX2_value_39 dX2_value_42 ht (Nat.le_of_ble_eq_true rfl) (Nat.le_of_ble_eq_true rfl) (Nat.le_of_ble_eq_true rfl) (Nat.le_of_ble_eq_true rfl) hlocks
    · have q1 : ¬ 8 * x.toInt < -64000 := fun q => c10 (cv_lt.mpr q)
      have q2 : ¬ 64000 < 8 * x.toInt := fun q => c18 (cv_gt.mpr q)
      exact absurd hx1 (by omega)

set_option maxHeartbeats 1000000 in
set_option maxRecDepth 100000 in
theorem xX2_touchesX (l : Launch) (hlt : l.stackTraces = false) (D : va_G) (ad : Nat → Nat) (cy : Nat → ClassId) (sz : Nat) (n : Nat) (V : Nat → UInt64) (Z : Nat → Int32) (R : Nat → Int32) (K : Nat → Int32) (B : Nat → Int32) (M : Nat → Int32) (bc : Nat) (G : Int32) (L : Int32) (S : Int64) (q : Nat → Int32) (w : Int32) (U : Nat → Int32) (wk : Int64) (jo : UInt64) (x : Int32) (y : Int32) (hxo : x < 0 ∨ nI n ≤ x) : mXi l yX2_touches wsX2_touches ({ frames := 7, cells := 1, slots := 6, locals := 104 }) [.ref (ad 0), .int x, .int y] D (cT cy) (cW ad cy n V Z R K B M bc G L S q w U wk jo) sz eIO := by
  refine xin (fun A => xQi A) (cc := cX2_touches) (maxL := 4) (ret := (some .boolean)) (own := RX2) (by decide) rfl rfl (Nat.le_of_ble_eq_true rfl) ?_
  intro p e s m below meth c A F hlocks ht hA hK hxS hxH H locs hP hD hS ls hl
  obtain ⟨hx, hb, hml, hown, hts⟩ := id F
  have hl : lv_has ls 4 [(0, .ref (ad 0)), (1, .int x), (2, .int y)] := hl
  refine lv_aload_n hx hb dX2_touches_0 rfl (lv_at hl 0 rfl) ?_
  refine lv_iload_n hx hb dX2_touches_1 rfl (lv_at hl 1 rfl) ?_
  exact x_pass (As := [.int x]) (rest := []) F (xX2_requireShare l hlt D ad cy H.size n V Z R K B M bc G L S q w U wk jo x hxo) (cwV 1 hts gX2_touches_X2_requireShare rfl rfl rfl (by decide +kernel) ⟨Nat.le_of_ble_eq_true rfl, Nat.le_of_ble_eq_true rfl⟩) (va_recv hK hP (ci := 2) (q0 := 0) rfl rfl) hK hxS hxH hP hD hS hA rfl hl.1 rfl (Nat.le_of_ble_eq_true rfl) dX2_touches_2 ⟨Nat.le_of_ble_eq_true rfl, Nat.le_of_ble_eq_true rfl⟩ ht hlocks

set_option maxHeartbeats 1000000 in
set_option maxRecDepth 100000 in
theorem xX2_touchesY (l : Launch) (hlt : l.stackTraces = false) (D : va_G) (ad : Nat → Nat) (cy : Nat → ClassId) (sz : Nat) (n : Nat) (V : Nat → UInt64) (Z : Nat → Int32) (R : Nat → Int32) (K : Nat → Int32) (B : Nat → Int32) (M : Nat → Int32) (bc : Nat) (G : Int32) (L : Int32) (S : Int64) (q : Nat → Int32) (w : Int32) (U : Nat → Int32) (wk : Int64) (jo : UInt64) (k : Nat) (y : Int32) (hy : y < 0 ∨ nI 31 ≤ y) (hk : k < n) (hn : n ≤ 40) : mXi l yX2_touches wsX2_touches ({ frames := 7, cells := 1, slots := 6, locals := 104 }) [.ref (ad 0), .int (nI k), .int y] D (cT cy) (cW ad cy n V Z R K B M bc G L S q w U wk jo) sz eIO := by
  refine xin (fun A => xQi A) (cc := cX2_touches) (maxL := 4) (ret := (some .boolean)) (own := RX2) (by decide) rfl rfl (Nat.le_of_ble_eq_true rfl) ?_
  intro p e s m below meth c A F hlocks ht hA hK hxS hxH H locs hP hD hS ls hl
  obtain ⟨hx, hb, hml, hown, hts⟩ := id F
  have hl : lv_has ls 4 [(0, .ref (ad 0)), (1, .int (nI k)), (2, .int y)] := hl
  refine lv_aload_n hx hb dX2_touches_0 rfl (lv_at hl 0 rfl) ?_
  refine lv_iload_n hx hb dX2_touches_1 rfl (lv_at hl 1 rfl) ?_
  refine zcV_v (As := [.int (nI k)]) (rest := []) F (kX2_requireShare l D ad cy _ n V Z R K B M bc G L S q w U wk jo k hk hn) (cwV 1 hts gX2_touches_X2_requireShare rfl rfl rfl (by decide +kernel) ⟨Nat.le_of_ble_eq_true rfl, Nat.le_of_ble_eq_true rfl⟩) (va_recv hK hP (ci := 2) (q0 := 0) rfl rfl) hK hP hD hS hA rfl hl.1 rfl (Nat.le_of_ble_eq_true rfl) dX2_touches_2 ⟨Nat.le_of_ble_eq_true rfl, Nat.le_of_ble_eq_true rfl⟩ (fun H locs hP hD hS => ?_)
  refine lv_iload_n hx hb dX2_touches_5 rfl (lv_at hl 2 rfl) ?_
  refine lv_if_lt (tgt := 15) hx hb dX2_touches_6 (by decide) (fun c6 => ?_) (fun c6 => ?_)
  · obtain ⟨⟨⟨hcc1, hcc2, -⟩, hdc⟩, sa, a1, a2, a3, a4, a5, a6⟩ := id hxS
    exact x_throw (cls := eIO) (ik := 88) (is := 90) (ic := 92) F hlt (by decide +kernel) (hts (.classLink RX2 88 eIO) (by decide +kernel)) (hts (.initialized eIO) (by decide +kernel)) a3 (fun w h => by first | exact List.mem_cons_of_mem _ (List.mem_append_right _ h) | exact List.mem_cons_of_mem _ (List.mem_append_left _ (List.mem_append_right _ h))) (by decide +kernel) hcc1 hdc (by decide +kernel) hxH hP hS hl.1 dX2_touches_15 dX2_touches_18 dX2_touches_19 dX2_touches_21 dX2_touches_24 ht (Nat.le_of_ble_eq_true rfl) (Nat.le_of_ble_eq_true rfl) (Nat.le_of_ble_eq_true rfl) (Nat.le_of_ble_eq_true rfl) hlocks
  · refine lv_iload_n hx hb dX2_touches_9 rfl (lv_at hl 2 rfl) ?_
    refine lv_bipush (v := nI 31) hx hb dX2_touches_10 (by decide) ?_
    refine lv_icmp_lt (tgt := 25) hx hb dX2_touches_12 (by decide) (fun c12 => ?_) (fun c12 => ?_)
    · exact absurd (hy.resolve_left c6) (i_nle c12)
    · obtain ⟨⟨⟨hcc1, hcc2, -⟩, hdc⟩, sa, a1, a2, a3, a4, a5, a6⟩ := id hxS
      exact x_throw (cls := eIO) (ik := 88) (is := 90) (ic := 92) F hlt (by decide +kernel) (hts (.classLink RX2 88 eIO) (by decide +kernel)) (hts (.initialized eIO) (by decide +kernel)) a3 (fun w h => by first | exact List.mem_cons_of_mem _ (List.mem_append_right _ h) | exact List.mem_cons_of_mem _ (List.mem_append_left _ (List.mem_append_right _ h))) (by decide +kernel) hcc1 hdc (by decide +kernel) hxH hP hS hl.1 dX2_touches_15 dX2_touches_18 dX2_touches_19 dX2_touches_21 dX2_touches_24 ht (Nat.le_of_ble_eq_true rfl) (Nat.le_of_ble_eq_true rfl) (Nat.le_of_ble_eq_true rfl) (Nat.le_of_ble_eq_true rfl) hlocks

set_option maxHeartbeats 1000000 in
set_option maxRecDepth 100000 in
theorem xX2_batchX (l : Launch) (hlt : l.stackTraces = false) (D : va_G) (ad : Nat → Nat) (cy : Nat → ClassId) (sz : Nat) (n : Nat) (V : Nat → UInt64) (Z : Nat → Int32) (R : Nat → Int32) (K : Nat → Int32) (B : Nat → Int32) (M : Nat → Int32) (bc : Nat) (G : Int32) (L : Int32) (S : Int64) (q : Nat → Int32) (w : Int32) (U : Nat → Int32) (wk : Int64) (jo : UInt64) (x : Int32) (hxo : x < 0 ∨ nI n ≤ x) : mXi l yX2_batch wsX2_batch ({ frames := 7, cells := 1, slots := 6, locals := 104 }) [.ref (ad 0), .int x] D (cT cy) (cW ad cy n V Z R K B M bc G L S q w U wk jo) sz eIO := by
  refine xin (fun A => xQi A) (cc := cX2_batch) (maxL := 2) (ret := (some .int)) (own := RX2) (by decide) rfl rfl (Nat.le_of_ble_eq_true rfl) ?_
  intro p e s m below meth c A F hlocks ht hA hK hxS hxH H locs hP hD hS ls hl
  obtain ⟨hx, hb, hml, hown, hts⟩ := id F
  have hl : lv_has ls 2 [(0, .ref (ad 0)), (1, .int x)] := hl
  refine lv_aload_n hx hb dX2_batch_0 rfl (lv_at hl 0 rfl) ?_
  refine lv_iload_n hx hb dX2_batch_1 rfl (lv_at hl 1 rfl) ?_
  exact x_pass (As := [.int x]) (rest := []) F (xX2_requireShare l hlt D ad cy H.size n V Z R K B M bc G L S q w U wk jo x hxo) (cwV 1 hts gX2_batch_X2_requireShare rfl rfl rfl (by decide +kernel) ⟨Nat.le_of_ble_eq_true rfl, Nat.le_of_ble_eq_true rfl⟩) (va_recv hK hP (ci := 2) (q0 := 0) rfl rfl) hK hxS hxH hP hD hS hA rfl hl.1 rfl (Nat.le_of_ble_eq_true rfl) dX2_batch_2 ⟨Nat.le_of_ble_eq_true rfl, Nat.le_of_ble_eq_true rfl⟩ ht hlocks

set_option maxHeartbeats 1000000 in
set_option maxRecDepth 100000 in
theorem xX2_timesX (l : Launch) (hlt : l.stackTraces = false) (D : va_G) (ad : Nat → Nat) (cy : Nat → ClassId) (sz : Nat) (n : Nat) (V : Nat → UInt64) (Z : Nat → Int32) (R : Nat → Int32) (K : Nat → Int32) (B : Nat → Int32) (M : Nat → Int32) (bc : Nat) (G : Int32) (L : Int32) (S : Int64) (q : Nat → Int32) (w : Int32) (U : Nat → Int32) (wk : Int64) (jo : UInt64) (x : Int32) (hxo : x < 0 ∨ nI n ≤ x) : mXi l yX2_times wsX2_times ({ frames := 7, cells := 1, slots := 6, locals := 104 }) [.ref (ad 0), .int x] D (cT cy) (cW ad cy n V Z R K B M bc G L S q w U wk jo) sz eIO := by
  refine xin (fun A => xQi A) (cc := cX2_times) (maxL := 2) (ret := (some .int)) (own := RX2) (by decide) rfl rfl (Nat.le_of_ble_eq_true rfl) ?_
  intro p e s m below meth c A F hlocks ht hA hK hxS hxH H locs hP hD hS ls hl
  obtain ⟨hx, hb, hml, hown, hts⟩ := id F
  have hl : lv_has ls 2 [(0, .ref (ad 0)), (1, .int x)] := hl
  refine lv_aload_n hx hb dX2_times_0 rfl (lv_at hl 0 rfl) ?_
  refine lv_iload_n hx hb dX2_times_1 rfl (lv_at hl 1 rfl) ?_
  exact x_pass (As := [.int x]) (rest := []) F (xX2_requireShare l hlt D ad cy H.size n V Z R K B M bc G L S q w U wk jo x hxo) (cwV 1 hts gX2_times_X2_requireShare rfl rfl rfl (by decide +kernel) ⟨Nat.le_of_ble_eq_true rfl, Nat.le_of_ble_eq_true rfl⟩) (va_recv hK hP (ci := 2) (q0 := 0) rfl rfl) hK hxS hxH hP hD hS hA rfl hl.1 rfl (Nat.le_of_ble_eq_true rfl) dX2_times_2 ⟨Nat.le_of_ble_eq_true rfl, Nat.le_of_ble_eq_true rfl⟩ ht hlocks

set_option maxHeartbeats 1000000 in
set_option maxRecDepth 100000 in
theorem xX2_stopX (l : Launch) (hlt : l.stackTraces = false) (D : va_G) (ad : Nat → Nat) (cy : Nat → ClassId) (sz : Nat) (n : Nat) (V : Nat → UInt64) (Z : Nat → Int32) (R : Nat → Int32) (K : Nat → Int32) (B : Nat → Int32) (M : Nat → Int32) (bc : Nat) (G : Int32) (L : Int32) (S : Int64) (q : Nat → Int32) (w : Int32) (U : Nat → Int32) (wk : Int64) (jo : UInt64) (x : Int32) (hxo : x < 0 ∨ nI n ≤ x) : mXi l yX2_stop wsX2_stop ({ frames := 7, cells := 1, slots := 6, locals := 104 }) [.ref (ad 0), .int x] D (cT cy) (cW ad cy n V Z R K B M bc G L S q w U wk jo) sz eIO := by
  refine xin (fun A => xQi A) (cc := cX2_stop) (maxL := 2) (ret := (some .boolean)) (own := RX2) (by decide) rfl rfl (Nat.le_of_ble_eq_true rfl) ?_
  intro p e s m below meth c A F hlocks ht hA hK hxS hxH H locs hP hD hS ls hl
  obtain ⟨hx, hb, hml, hown, hts⟩ := id F
  have hl : lv_has ls 2 [(0, .ref (ad 0)), (1, .int x)] := hl
  refine lv_aload_n hx hb dX2_stop_0 rfl (lv_at hl 0 rfl) ?_
  refine lv_iload_n hx hb dX2_stop_1 rfl (lv_at hl 1 rfl) ?_
  exact x_pass (As := [.int x]) (rest := []) F (xX2_requireShare l hlt D ad cy H.size n V Z R K B M bc G L S q w U wk jo x hxo) (cwV 1 hts gX2_stop_X2_requireShare rfl rfl rfl (by decide +kernel) ⟨Nat.le_of_ble_eq_true rfl, Nat.le_of_ble_eq_true rfl⟩) (va_recv hK hP (ci := 2) (q0 := 0) rfl rfl) hK hxS hxH hP hD hS hA rfl hl.1 rfl (Nat.le_of_ble_eq_true rfl) dX2_stop_2 ⟨Nat.le_of_ble_eq_true rfl, Nat.le_of_ble_eq_true rfl⟩ ht hlocks

set_option maxHeartbeats 1000000 in
set_option maxRecDepth 100000 in
theorem xX2_runX (l : Launch) (hlt : l.stackTraces = false) (D : va_G) (ad : Nat → Nat) (cy : Nat → ClassId) (sz : Nat) (n : Nat) (V : Nat → UInt64) (Z : Nat → Int32) (R : Nat → Int32) (K : Nat → Int32) (B : Nat → Int32) (M : Nat → Int32) (bc : Nat) (G : Int32) (L : Int32) (S : Int64) (q : Nat → Int32) (w : Int32) (U : Nat → Int32) (wk : Int64) (jo : UInt64) (x : Int32) (sd : Int64) (hxo : x < nI 1 ∨ nI 16 < x) : mXi l yX2_run wsX2_run ({ frames := 7, cells := 1, slots := 6, locals := 104 }) [.ref (ad 0), .int x, .long sd] D (cT cy) (cW ad cy n V Z R K B M bc G L S q w U wk jo) sz eIA := by
  refine xin (fun A => xQi A) (cc := cX2_run) (maxL := 6) (ret := (some .int)) (own := RX2) (by decide) rfl rfl (Nat.le_of_ble_eq_true rfl) ?_
  intro p e s m below meth c A F hlocks ht hA hK hxS hxH H locs hP hD hS ls hl
  obtain ⟨hx, hb, hml, hown, hts⟩ := id F
  have hl : lv_has ls 6 [(0, .ref (ad 0)), (1, .int x), (2, .long sd)] := hl
  refine lv_iload_n hx hb dX2_run_0 rfl (lv_at hl 1 rfl) ?_
  refine lv_iconst (v := nI 1) hx hb dX2_run_1 (by decide) ?_
  refine lv_icmp_lt (tgt := 11) hx hb dX2_run_2 (by decide) (fun c2 => ?_) (fun c2 => ?_)
  · obtain ⟨⟨⟨hcc1, hcc2, -⟩, hdc⟩, sa, a1, a2, a3, a4, a5, a6⟩ := id hxS
    exact x_throw (cls := eIA) (ik := 79) (is := 96) (ic := 83) F hlt (by decide +kernel) (hts (.classLink RX2 79 eIA) (by decide +kernel)) (hts (.initialized eIA) (by decide +kernel)) a4 (fun w h => by first | exact List.mem_cons_of_mem _ (List.mem_append_right _ h) | exact List.mem_cons_of_mem _ (List.mem_append_left _ (List.mem_append_right _ h))) (by decide +kernel) hcc2 hdc (by decide +kernel) hxH hP hS hl.1 dX2_run_11 dX2_run_14 dX2_run_15 dX2_run_17 dX2_run_20 ht (Nat.le_of_ble_eq_true rfl) (Nat.le_of_ble_eq_true rfl) (Nat.le_of_ble_eq_true rfl) (Nat.le_of_ble_eq_true rfl) hlocks
  · refine lv_iload_n hx hb dX2_run_5 rfl (lv_at hl 1 rfl) ?_
    refine lv_bipush (v := nI 16) hx hb dX2_run_6 (by decide) ?_
    refine lv_icmp_le (tgt := 21) hx hb dX2_run_8 (by decide) (fun c8 => ?_) (fun c8 => ?_)
    · exact absurd c8 (i_nle (hxo.resolve_left c2))
    · obtain ⟨⟨⟨hcc1, hcc2, -⟩, hdc⟩, sa, a1, a2, a3, a4, a5, a6⟩ := id hxS
      exact x_throw (cls := eIA) (ik := 79) (is := 96) (ic := 83) F hlt (by decide +kernel) (hts (.classLink RX2 79 eIA) (by decide +kernel)) (hts (.initialized eIA) (by decide +kernel)) a4 (fun w h => by first | exact List.mem_cons_of_mem _ (List.mem_append_right _ h) | exact List.mem_cons_of_mem _ (List.mem_append_left _ (List.mem_append_right _ h))) (by decide +kernel) hcc2 hdc (by decide +kernel) hxH hP hS hl.1 dX2_run_11 dX2_run_14 dX2_run_15 dX2_run_17 dX2_run_20 ht (Nat.le_of_ble_eq_true rfl) (Nat.le_of_ble_eq_true rfl) (Nat.le_of_ble_eq_true rfl) (Nat.le_of_ble_eq_true rfl) hlocks

set_option maxHeartbeats 1000000 in
set_option maxRecDepth 100000 in
theorem xX2_failAtY (l : Launch) (hlt : l.stackTraces = false) (D : va_G) (ad : Nat → Nat) (cy : Nat → ClassId) (sz : Nat) (n : Nat) (V : Nat → UInt64) (Z : Nat → Int32) (R : Nat → Int32) (K : Nat → Int32) (B : Nat → Int32) (M : Nat → Int32) (bc : Nat) (G : Int32) (L : Int32) (S : Int64) (q : Nat → Int32) (w : Int32) (U : Nat → Int32) (wk : Int64) (jo : UInt64) (y : Int32) (x : Int32) (hy : y < 0 ∨ nI 16 ≤ y) : mXi l yX2_failAt wsX2_failAt ({ frames := 7, cells := 1, slots := 6, locals := 104 }) [.ref (ad 0), .int y, .int x] D (cT cy) (cW ad cy n V Z R K B M bc G L S q w U wk jo) sz eIO := by
  refine xin (fun A => xQi A) (cc := cX2_failAt) (maxL := 4) (ret := (some .boolean)) (own := RX2) (by decide) rfl rfl (Nat.le_of_ble_eq_true rfl) ?_
  intro p e s m below meth c A F hlocks ht hA hK hxS hxH H locs hP hD hS ls hl
  obtain ⟨hx, hb, hml, hown, hts⟩ := id F
  have hl : lv_has ls 4 [(0, .ref (ad 0)), (1, .int y), (2, .int x)] := hl
  refine lv_iload_n hx hb dX2_failAt_0 rfl (lv_at hl 1 rfl) ?_
  refine lv_if_lt (tgt := 10) hx hb dX2_failAt_1 (by decide) (fun c1 => ?_) (fun c1 => ?_)
  · obtain ⟨⟨⟨hcc1, hcc2, -⟩, hdc⟩, sa, a1, a2, a3, a4, a5, a6⟩ := id hxS
    exact x_throw (cls := eIO) (ik := 88) (is := 124) (ic := 92) F hlt (by decide +kernel) (hts (.classLink RX2 88 eIO) (by decide +kernel)) (hts (.initialized eIO) (by decide +kernel)) a5 (fun w h => by first | exact List.mem_cons_of_mem _ (List.mem_append_right _ h) | exact List.mem_cons_of_mem _ (List.mem_append_left _ (List.mem_append_right _ h))) (by decide +kernel) hcc1 hdc (by decide +kernel) hxH hP hS hl.1 dX2_failAt_10 dX2_failAt_13 dX2_failAt_14 dX2_failAt_16 dX2_failAt_19 ht (Nat.le_of_ble_eq_true rfl) (Nat.le_of_ble_eq_true rfl) (Nat.le_of_ble_eq_true rfl) (Nat.le_of_ble_eq_true rfl) hlocks
  · refine lv_iload_n hx hb dX2_failAt_4 rfl (lv_at hl 1 rfl) ?_
    refine lv_bipush (v := nI 16) hx hb dX2_failAt_5 (by decide) ?_
    refine lv_icmp_lt (tgt := 20) hx hb dX2_failAt_7 (by decide) (fun c7 => ?_) (fun c7 => ?_)
    · exact absurd (hy.resolve_left c1) (i_nle c7)
    · obtain ⟨⟨⟨hcc1, hcc2, -⟩, hdc⟩, sa, a1, a2, a3, a4, a5, a6⟩ := id hxS
      exact x_throw (cls := eIO) (ik := 88) (is := 124) (ic := 92) F hlt (by decide +kernel) (hts (.classLink RX2 88 eIO) (by decide +kernel)) (hts (.initialized eIO) (by decide +kernel)) a5 (fun w h => by first | exact List.mem_cons_of_mem _ (List.mem_append_right _ h) | exact List.mem_cons_of_mem _ (List.mem_append_left _ (List.mem_append_right _ h))) (by decide +kernel) hcc1 hdc (by decide +kernel) hxH hP hS hl.1 dX2_failAt_10 dX2_failAt_13 dX2_failAt_14 dX2_failAt_16 dX2_failAt_19 ht (Nat.le_of_ble_eq_true rfl) (Nat.le_of_ble_eq_true rfl) (Nat.le_of_ble_eq_true rfl) (Nat.le_of_ble_eq_true rfl) hlocks

set_option maxHeartbeats 1000000 in
set_option maxRecDepth 100000 in
theorem xX2_failAtX (l : Launch) (hlt : l.stackTraces = false) (D : va_G) (ad : Nat → Nat) (cy : Nat → ClassId) (sz : Nat) (n : Nat) (V : Nat → UInt64) (Z : Nat → Int32) (R : Nat → Int32) (K : Nat → Int32) (B : Nat → Int32) (M : Nat → Int32) (bc : Nat) (G : Int32) (L : Int32) (S : Int64) (q : Nat → Int32) (w : Int32) (U : Nat → Int32) (wk : Int64) (jo : UInt64) (g : Nat) (x : Int32) (hg : g < 16) (hxo : x < 0 ∨ nI n ≤ x) : mXi l yX2_failAt wsX2_failAt ({ frames := 7, cells := 1, slots := 6, locals := 104 }) [.ref (ad 0), .int (nI g), .int x] D (cT cy) (cW ad cy n V Z R K B M bc G L S q w U wk jo) sz eIO := by
  refine xin (fun A => xQi A) (cc := cX2_failAt) (maxL := 4) (ret := (some .boolean)) (own := RX2) (by decide) rfl rfl (Nat.le_of_ble_eq_true rfl) ?_
  intro p e s m below meth c A F hlocks ht hA hK hxS hxH H locs hP hD hS ls hl
  obtain ⟨hx, hb, hml, hown, hts⟩ := id F
  have hl : lv_has ls 4 [(0, .ref (ad 0)), (1, .int (nI g)), (2, .int x)] := hl
  refine lv_iload_n hx hb dX2_failAt_0 rfl (lv_at hl 1 rfl) ?_
  refine lv_if_lt (tgt := 10) hx hb dX2_failAt_1 (by decide) (fun c1 => ?_) (fun c1 => ?_)
  · exact absurd c1 (nI_pos (by omega))
  · refine lv_iload_n hx hb dX2_failAt_4 rfl (lv_at hl 1 rfl) ?_
    refine lv_bipush (v := nI 16) hx hb dX2_failAt_5 (by decide) ?_
    refine zb_lt (a := g) (b := 16) (tgt := 20) hx hb dX2_failAt_7 (by decide) (by omega) (by omega) (fun c7 => ?_) (fun c7 => ?_)
    · refine lv_aload_n hx hb dX2_failAt_20 rfl (lv_at hl 0 rfl) ?_
      refine lv_iload_n hx hb dX2_failAt_21 rfl (lv_at hl 2 rfl) ?_
      exact x_pass (As := [.int x]) (rest := []) F (xX2_requireShare l hlt D ad cy H.size n V Z R K B M bc G L S q w U wk jo x hxo) (cwV 1 hts gX2_failAt_X2_requireShare rfl rfl rfl (by decide +kernel) ⟨Nat.le_of_ble_eq_true rfl, Nat.le_of_ble_eq_true rfl⟩) (va_recv hK hP (ci := 2) (q0 := 0) rfl rfl) hK hxS hxH hP hD hS hA rfl hl.1 rfl (Nat.le_of_ble_eq_true rfl) dX2_failAt_22 ⟨Nat.le_of_ble_eq_true rfl, Nat.le_of_ble_eq_true rfl⟩ ht hlocks
    · exact absurd c7 (by omega)

set_option maxHeartbeats 1000000 in
set_option maxRecDepth 100000 in
theorem xX2_actX (l : Launch) (hlt : l.stackTraces = false) (D : va_G) (ad : Nat → Nat) (cy : Nat → ClassId) (sz : Nat) (n : Nat) (V : Nat → UInt64) (Z : Nat → Int32) (R : Nat → Int32) (K : Nat → Int32) (B : Nat → Int32) (M : Nat → Int32) (bc : Nat) (G : Int32) (L : Int32) (S : Int64) (q : Nat → Int32) (w : Int32) (U : Nat → Int32) (wk : Int64) (jo : UInt64) (x : Int32) (hxo : x < 0 ∨ nI 10 ≤ x) : mXi l yX2_act wsX2_act ({ frames := 7, cells := 1, slots := 6, locals := 104 }) [.ref (ad 0), .int x] D (cT cy) (cW ad cy n V Z R K B M bc G L S q w U wk jo) sz eIA := by
  refine xin (fun A => xQi A) (cc := cX2_act) (maxL := 2) (ret := (some .int)) (own := RX2) (by decide) rfl rfl (Nat.le_of_ble_eq_true rfl) ?_
  intro p e s m below meth c A F hlocks ht hA hK hxS hxH H locs hP hD hS ls hl
  obtain ⟨hx, hb, hml, hown, hts⟩ := id F
  have hl : lv_has ls 2 [(0, .ref (ad 0)), (1, .int x)] := hl
  refine lv_iload_n hx hb dX2_act_0 rfl (lv_at hl 1 rfl) ?_
  refine lv_if_lt (tgt := 10) hx hb dX2_act_1 (by decide) (fun c1 => ?_) (fun c1 => ?_)
  · obtain ⟨⟨⟨hcc1, hcc2, -⟩, hdc⟩, sa, a1, a2, a3, a4, a5, a6⟩ := id hxS
    exact x_throw (cls := eIA) (ik := 79) (is := 130) (ic := 83) F hlt (by decide +kernel) (hts (.classLink RX2 79 eIA) (by decide +kernel)) (hts (.initialized eIA) (by decide +kernel)) a6 (fun w h => by first | exact List.mem_cons_of_mem _ (List.mem_append_right _ h) | exact List.mem_cons_of_mem _ (List.mem_append_left _ (List.mem_append_right _ h))) (by decide +kernel) hcc2 hdc (by decide +kernel) hxH hP hS hl.1 dX2_act_10 dX2_act_13 dX2_act_14 dX2_act_16 dX2_act_19 ht (Nat.le_of_ble_eq_true rfl) (Nat.le_of_ble_eq_true rfl) (Nat.le_of_ble_eq_true rfl) (Nat.le_of_ble_eq_true rfl) hlocks
  · refine lv_iload_n hx hb dX2_act_4 rfl (lv_at hl 1 rfl) ?_
    refine lv_bipush (v := nI 10) hx hb dX2_act_5 (by decide) ?_
    refine lv_icmp_lt (tgt := 20) hx hb dX2_act_7 (by decide) (fun c7 => ?_) (fun c7 => ?_)
    · exact absurd (hxo.resolve_left c1) (i_nle c7)
    · obtain ⟨⟨⟨hcc1, hcc2, -⟩, hdc⟩, sa, a1, a2, a3, a4, a5, a6⟩ := id hxS
      exact x_throw (cls := eIA) (ik := 79) (is := 130) (ic := 83) F hlt (by decide +kernel) (hts (.classLink RX2 79 eIA) (by decide +kernel)) (hts (.initialized eIA) (by decide +kernel)) a6 (fun w h => by first | exact List.mem_cons_of_mem _ (List.mem_append_right _ h) | exact List.mem_cons_of_mem _ (List.mem_append_left _ (List.mem_append_right _ h))) (by decide +kernel) hcc2 hdc (by decide +kernel) hxH hP hS hl.1 dX2_act_10 dX2_act_13 dX2_act_14 dX2_act_16 dX2_act_19 ht (Nat.le_of_ble_eq_true rfl) (Nat.le_of_ble_eq_true rfl) (Nat.le_of_ble_eq_true rfl) (Nat.le_of_ble_eq_true rfl) hlocks
