/-! the law's helpers: a call of the class with its answer in 'out', or the number of what it threw -/
abbrev mH (l : Launch) (y : MethodName) (wl : List Cond) (rm : Room) (av : List Value) (D : va_G) (tys : zTy) (ws : va_W) (sz : Nat) (r : Int32) (ws' : va_W) : Prop := Met l y wl rm (va_Pc av (xPre D tys ws sz)) (zQi D tys ws' r (va_A ws sz)) 1 6 (va_A ws sz)
theorem zinH {l : Launch} {y : MethodName} {wl wl' : List Cond} {rm : Room} {av : List Value} {D : va_G} {tys : zTy} {ws : va_W} {sz : Nat} {cc : ByteArray} {maxL : Nat} {ret : Option FieldType} {hh : List (Nat × Nat × Nat × Nat)} {own : String} (Qf : (Nat → Prop) → Array Value → State → Outcome → State → Prop)
    (hy : plainName y.cls = true) (ho : y.cls = own) (hw : wl = Cond.codeWith y cc maxL ret hh :: wl') (hlen : (lg_sl av).length ≤ maxL)
    (body : ∀ (p : Program) (e : Env) (s : State) (m : MethodId) (below : List Frame) (meth : Method) (c : Code) (A : Nat → Prop), CallFix p m c cc maxL s av.toArray wl own → meth.sig.returnType = ret → meth.locks = false → c.exceptionTable.toList = tableOf hh → (∀ q, s.heap.size ≤ q → A q) → va_K D vwCl tys s → xS s → xH A s s.heap → ∀ (H : Heap) (locs : List Loc), va_P D vwCl ws H → va_D A ws → va_S A s.heap H locs → ∀ ls : Array Slot, lv_has ls maxL (lv_args 0 av) →
      W p l e rm s m av.toArray below meth c H locs 0 0 (MQ below (Qf A) av.toArray s 1 6 A) (F0 m 0 ls [])) : Met l y wl rm (va_Pc av (xPre D tys ws sz)) (Qf (va_A ws sz)) 1 6 (va_A ws sz) := by
  refine va_MetW (cc := cc) (maxL := maxL) (ret := ret) (hh := hh) hy hw ?_
  intro p e s m args below meth c s₁ B hml hv
  obtain ⟨rfl, ⟨hsz, hP, hK, hD0⟩, hxS, hxH⟩ := hv
  subst hsz
  subst ho
  rw [lg_entry_eq]
  exact body p e s m below meth c (va_A ws s.heap.size) ⟨B.exec, B.bytes, hml, findClass_of_methodNamed B.named, atoms_spec (ws := wl) B.pre⟩ B.returns B.notSynchronized (vx_table (x := y) B (atoms_spec (ws := wl) B.pre _ (by rw [hw]; exact List.mem_cons_self))) (fun q h => Or.inr h) hK hxS hxH s.heap [] hP hD0.self va_S.rf _ (lv_entry av hlen)
set_option maxHeartbeats 1000000 in
set_option maxRecDepth 100000 in
theorem kL_value (l : Launch) (D : va_G) (ad : Nat → Nat) (cy : Nat → ClassId) (ao : Nat) (co : ClassId) (sz : Nat) (n : Nat) (V : Nat → UInt64) (Z : Nat → Int32) (R : Nat → Int32) (K : Nat → Int32) (B : Nat → Int32) (M : Nat → Int32) (bc : Nat) (G : Int32) (L : Int32) (S : Int64) (q : Nat → Int32) (w : Int32) (U : Nat → Int32) (wk : Int64) (jo : UInt64) (xo : Nat → Int64) (n' : Nat) (V' : Nat → UInt64) (Z' : Nat → Int32) (R' : Nat → Int32) (K' : Nat → Int32) (B' : Nat → Int32) (M' : Nat → Int32) (bc' : Nat) (G' : Int32) (L' : Int32) (S' : Int64) (q' : Nat → Int32) (w' : Int32) (U' : Nat → Int32) (wk' : Int64) (jo' : UInt64) (a1 : Int32) (a2 : UInt64) (r : Int32) (rm : Room) (hrm : rm.cells = 0 ∧ rm.slots = 0 ∧ rm.frames ≤ 8 ∧ rm.locals ≤ 160) (hM : ∀ sz, mI l yX2_value wsX2_value rm [.ref (ad 0), .int a1, .double a2] D (cT cy) (cW ad cy n V Z R K B M bc G L S q w U wk jo) sz r (cW ad cy n' V' Z' R' K' B' M' bc' G' L' S' q' w' U' wk' jo') 0 0) : mH l yL_value wsL_value ({ frames := 9, cells := 1, slots := 6, locals := 200 }) [.ref (ad 0), .int a1, .double a2, .ref ao] D (cT cy ++ oT co) (cW ad cy n V Z R K B M bc G L S q w U wk jo ++ oW ao co xo) sz 0 (cW ad cy n' V' Z' R' K' B' M' bc' G' L' S' q' w' U' wk' jo' ++ oW ao co (vp_updL xo 0 (if r = 0 then 0 else 1 : Int64))) := by
  refine zinH (fun A => zQi D (cT cy ++ oT co) (cW ad cy n' V' Z' R' K' B' M' bc' G' L' S' q' w' U' wk' jo' ++ oW ao co (vp_updL xo 0 (if r = 0 then 0 else 1 : Int64))) 0 A) (cc := cL_value) (maxL := 6) (ret := (some .int)) (own := RL) (by decide) rfl rfl (Nat.le_of_ble_eq_true rfl) ?_
  intro p e s m below meth c A F hr hlocks htab hA hK hxS hxH H locs hP hD hS ls hl
  obtain ⟨hx, hb, hml, hown, hts⟩ := id F
  have hl : lv_has ls 6 [(0, .ref (ad 0)), (1, .int a1), (2, .double a2), (4, .ref ao)] := hl
  have hKc : va_K D vwCl (cT cy) s := hK.sub [0, 1, 2, 3, 4, 5, 6, 7] rfl
  refine lv_aload hx hb dL_value_0 (lv_at hl 3 rfl) ?_
  refine lv_iconst (v := nI 0) hx hb dL_value_2 (by decide) ?_
  refine lv_aload_n hx hb dL_value_3 rfl (lv_at hl 0 rfl) ?_
  refine lv_iload_n hx hb dL_value_4 rfl (lv_at hl 1 rfl) ?_
  refine lv_dload_n hx hb dL_value_5 rfl (lv_at hl 2 rfl) ?_
  refine zlV_i (As := [.int a1, .double a2]) (rest := [.int (nI 0), .ref ao]) F (hM _) (cwV 2 hts gL_value_X2_value rfl hrm.1 hrm.2.1 (by decide +kernel) ⟨by show rm.frames + 1 ≤ 9; omega, by show 8 + (9 + 11) + rm.locals ≤ 200; omega⟩) (va_recv hK hP (ci := 2) (q0 := 0) rfl rfl) hKc hP hD hS hA rfl hl.1 rfl (Nat.le_of_ble_eq_true rfl) dL_value_6 ⟨Nat.le_of_ble_eq_true rfl, Nat.le_of_ble_eq_true rfl⟩ (fun H locs hP hD hS => ?_)
  refine lv_if_eq (tgt := 16) hx hb dL_value_9 (by decide) (fun c9 => ?_) (fun c9 => ?_)
  · refine lv_lconst (v := 0) hx hb dL_value_16 (by decide) ?_
    refine ax_lst hx hb hK hP hD hS 11 8 rfl rfl (by omega) (by omega) dL_value_17 (fun H locs hP hD hS => ?_)
    have hP : va_P D vwCl (cW ad cy n' V' Z' R' K' B' M' bc' G' L' S' q' w' U' wk' jo' ++ oW ao co (vp_updL xo 0 0)) H := hP
    have hD : va_D A (cW ad cy n' V' Z' R' K' B' M' bc' G' L' S' q' w' U' wk' jo' ++ oW ao co (vp_updL xo 0 0)) := hD
    refine lv_goto (tgt := 29) hx hb dL_value_18 (by decide) ?_
    refine lv_iconst (v := 0) hx hb dL_value_29 (by decide) ?_
    refine W.widen (k := 1) (n := 6) (by omega) (by omega) ?_
    exact zret_i F hr hlocks hK (by first | (rw [if_pos c9]; exact hP) | (rw [if_neg c9]; exact hP)) (by first | (rw [if_pos c9]; exact hD) | (rw [if_neg c9]; exact hD)) hS rfl dL_value_30
  · refine lv_lconst (v := 1) hx hb dL_value_12 (by decide) ?_
    refine lv_goto (tgt := 17) hx hb dL_value_13 (by decide) ?_
    refine ax_lst hx hb hK hP hD hS 11 8 rfl rfl (by omega) (by omega) dL_value_17 (fun H locs hP hD hS => ?_)
    have hP : va_P D vwCl (cW ad cy n' V' Z' R' K' B' M' bc' G' L' S' q' w' U' wk' jo' ++ oW ao co (vp_updL xo 0 1)) H := hP
    have hD : va_D A (cW ad cy n' V' Z' R' K' B' M' bc' G' L' S' q' w' U' wk' jo' ++ oW ao co (vp_updL xo 0 1)) := hD
    refine lv_goto (tgt := 29) hx hb dL_value_18 (by decide) ?_
    refine lv_iconst (v := 0) hx hb dL_value_29 (by decide) ?_
    refine W.widen (k := 1) (n := 6) (by omega) (by omega) ?_
    exact zret_i F hr hlocks hK (by first | (rw [if_pos c9]; exact hP) | (rw [if_neg c9]; exact hP)) (by first | (rw [if_pos c9]; exact hD) | (rw [if_neg c9]; exact hD)) hS rfl dL_value_30

set_option maxHeartbeats 1000000 in
set_option maxRecDepth 100000 in
theorem kL_touches (l : Launch) (D : va_G) (ad : Nat → Nat) (cy : Nat → ClassId) (ao : Nat) (co : ClassId) (sz : Nat) (n : Nat) (V : Nat → UInt64) (Z : Nat → Int32) (R : Nat → Int32) (K : Nat → Int32) (B : Nat → Int32) (M : Nat → Int32) (bc : Nat) (G : Int32) (L : Int32) (S : Int64) (q : Nat → Int32) (w : Int32) (U : Nat → Int32) (wk : Int64) (jo : UInt64) (xo : Nat → Int64) (n' : Nat) (V' : Nat → UInt64) (Z' : Nat → Int32) (R' : Nat → Int32) (K' : Nat → Int32) (B' : Nat → Int32) (M' : Nat → Int32) (bc' : Nat) (G' : Int32) (L' : Int32) (S' : Int64) (q' : Nat → Int32) (w' : Int32) (U' : Nat → Int32) (wk' : Int64) (jo' : UInt64) (a1 : Int32) (a2 : Int32) (r : Int32) (rm : Room) (hrm : rm.cells = 0 ∧ rm.slots = 0 ∧ rm.frames ≤ 8 ∧ rm.locals ≤ 160) (hM : ∀ sz, mI l yX2_touches wsX2_touches rm [.ref (ad 0), .int a1, .int a2] D (cT cy) (cW ad cy n V Z R K B M bc G L S q w U wk jo) sz r (cW ad cy n' V' Z' R' K' B' M' bc' G' L' S' q' w' U' wk' jo') 0 0) : mH l yL_touches wsL_touches ({ frames := 9, cells := 1, slots := 6, locals := 200 }) [.ref (ad 0), .int a1, .int a2, .ref ao] D (cT cy ++ oT co) (cW ad cy n V Z R K B M bc G L S q w U wk jo ++ oW ao co xo) sz 0 (cW ad cy n' V' Z' R' K' B' M' bc' G' L' S' q' w' U' wk' jo' ++ oW ao co (vp_updL xo 0 (if r = 0 then 0 else 1 : Int64))) := by
  refine zinH (fun A => zQi D (cT cy ++ oT co) (cW ad cy n' V' Z' R' K' B' M' bc' G' L' S' q' w' U' wk' jo' ++ oW ao co (vp_updL xo 0 (if r = 0 then 0 else 1 : Int64))) 0 A) (cc := cL_touches) (maxL := 5) (ret := (some .int)) (own := RL) (by decide) rfl rfl (Nat.le_of_ble_eq_true rfl) ?_
  intro p e s m below meth c A F hr hlocks htab hA hK hxS hxH H locs hP hD hS ls hl
  obtain ⟨hx, hb, hml, hown, hts⟩ := id F
  have hl : lv_has ls 5 [(0, .ref (ad 0)), (1, .int a1), (2, .int a2), (3, .ref ao)] := hl
  have hKc : va_K D vwCl (cT cy) s := hK.sub [0, 1, 2, 3, 4, 5, 6, 7] rfl
  refine lv_aload_n hx hb dL_touches_0 rfl (lv_at hl 3 rfl) ?_
  refine lv_iconst (v := nI 0) hx hb dL_touches_1 (by decide) ?_
  refine lv_aload_n hx hb dL_touches_2 rfl (lv_at hl 0 rfl) ?_
  refine lv_iload_n hx hb dL_touches_3 rfl (lv_at hl 1 rfl) ?_
  refine lv_iload_n hx hb dL_touches_4 rfl (lv_at hl 2 rfl) ?_
  refine zlV_i (As := [.int a1, .int a2]) (rest := [.int (nI 0), .ref ao]) F (hM _) (cwV 2 hts gL_touches_X2_touches rfl hrm.1 hrm.2.1 (by decide +kernel) ⟨by show rm.frames + 1 ≤ 9; omega, by show 8 + (4 + 11) + rm.locals ≤ 200; omega⟩) (va_recv hK hP (ci := 2) (q0 := 0) rfl rfl) hKc hP hD hS hA rfl hl.1 rfl (Nat.le_of_ble_eq_true rfl) dL_touches_5 ⟨Nat.le_of_ble_eq_true rfl, Nat.le_of_ble_eq_true rfl⟩ (fun H locs hP hD hS => ?_)
  refine lv_if_eq (tgt := 15) hx hb dL_touches_8 (by decide) (fun c8 => ?_) (fun c8 => ?_)
  · refine lv_lconst (v := 0) hx hb dL_touches_15 (by decide) ?_
    refine ax_lst hx hb hK hP hD hS 11 8 rfl rfl (by omega) (by omega) dL_touches_16 (fun H locs hP hD hS => ?_)
    have hP : va_P D vwCl (cW ad cy n' V' Z' R' K' B' M' bc' G' L' S' q' w' U' wk' jo' ++ oW ao co (vp_updL xo 0 0)) H := hP
    have hD : va_D A (cW ad cy n' V' Z' R' K' B' M' bc' G' L' S' q' w' U' wk' jo' ++ oW ao co (vp_updL xo 0 0)) := hD
    refine lv_goto (tgt := 24) hx hb dL_touches_17 (by decide) ?_
    refine lv_iconst (v := 0) hx hb dL_touches_24 (by decide) ?_
    refine W.widen (k := 1) (n := 6) (by omega) (by omega) ?_
    exact zret_i F hr hlocks hK (by first | (rw [if_pos c8]; exact hP) | (rw [if_neg c8]; exact hP)) (by first | (rw [if_pos c8]; exact hD) | (rw [if_neg c8]; exact hD)) hS rfl dL_touches_25
  · refine lv_lconst (v := 1) hx hb dL_touches_11 (by decide) ?_
    refine lv_goto (tgt := 16) hx hb dL_touches_12 (by decide) ?_
    refine ax_lst hx hb hK hP hD hS 11 8 rfl rfl (by omega) (by omega) dL_touches_16 (fun H locs hP hD hS => ?_)
    have hP : va_P D vwCl (cW ad cy n' V' Z' R' K' B' M' bc' G' L' S' q' w' U' wk' jo' ++ oW ao co (vp_updL xo 0 1)) H := hP
    have hD : va_D A (cW ad cy n' V' Z' R' K' B' M' bc' G' L' S' q' w' U' wk' jo' ++ oW ao co (vp_updL xo 0 1)) := hD
    refine lv_goto (tgt := 24) hx hb dL_touches_17 (by decide) ?_
    refine lv_iconst (v := 0) hx hb dL_touches_24 (by decide) ?_
    refine W.widen (k := 1) (n := 6) (by omega) (by omega) ?_
    exact zret_i F hr hlocks hK (by first | (rw [if_pos c8]; exact hP) | (rw [if_neg c8]; exact hP)) (by first | (rw [if_pos c8]; exact hD) | (rw [if_neg c8]; exact hD)) hS rfl dL_touches_25

set_option maxHeartbeats 1000000 in
set_option maxRecDepth 100000 in
theorem kL_batch (l : Launch) (D : va_G) (ad : Nat → Nat) (cy : Nat → ClassId) (ao : Nat) (co : ClassId) (sz : Nat) (n : Nat) (V : Nat → UInt64) (Z : Nat → Int32) (R : Nat → Int32) (K : Nat → Int32) (B : Nat → Int32) (M : Nat → Int32) (bc : Nat) (G : Int32) (L : Int32) (S : Int64) (q : Nat → Int32) (w : Int32) (U : Nat → Int32) (wk : Int64) (jo : UInt64) (xo : Nat → Int64) (n' : Nat) (V' : Nat → UInt64) (Z' : Nat → Int32) (R' : Nat → Int32) (K' : Nat → Int32) (B' : Nat → Int32) (M' : Nat → Int32) (bc' : Nat) (G' : Int32) (L' : Int32) (S' : Int64) (q' : Nat → Int32) (w' : Int32) (U' : Nat → Int32) (wk' : Int64) (jo' : UInt64) (a1 : Int32) (r : Int32) (rm : Room) (hrm : rm.cells = 0 ∧ rm.slots = 0 ∧ rm.frames ≤ 8 ∧ rm.locals ≤ 160) (hM : ∀ sz, mI l yX2_batch wsX2_batch rm [.ref (ad 0), .int a1] D (cT cy) (cW ad cy n V Z R K B M bc G L S q w U wk jo) sz r (cW ad cy n' V' Z' R' K' B' M' bc' G' L' S' q' w' U' wk' jo') 0 0) : mH l yL_batch wsL_batch ({ frames := 9, cells := 1, slots := 6, locals := 200 }) [.ref (ad 0), .int a1, .ref ao] D (cT cy ++ oT co) (cW ad cy n V Z R K B M bc G L S q w U wk jo ++ oW ao co xo) sz 0 (cW ad cy n' V' Z' R' K' B' M' bc' G' L' S' q' w' U' wk' jo' ++ oW ao co (vp_updL xo 0 r.toInt64)) := by
  refine zinH (fun A => zQi D (cT cy ++ oT co) (cW ad cy n' V' Z' R' K' B' M' bc' G' L' S' q' w' U' wk' jo' ++ oW ao co (vp_updL xo 0 r.toInt64)) 0 A) (cc := cL_batch) (maxL := 4) (ret := (some .int)) (own := RL) (by decide) rfl rfl (Nat.le_of_ble_eq_true rfl) ?_
  intro p e s m below meth c A F hr hlocks htab hA hK hxS hxH H locs hP hD hS ls hl
  obtain ⟨hx, hb, hml, hown, hts⟩ := id F
  have hl : lv_has ls 4 [(0, .ref (ad 0)), (1, .int a1), (2, .ref ao)] := hl
  have hKc : va_K D vwCl (cT cy) s := hK.sub [0, 1, 2, 3, 4, 5, 6, 7] rfl
  refine lv_aload_n hx hb dL_batch_0 rfl (lv_at hl 2 rfl) ?_
  refine lv_iconst (v := nI 0) hx hb dL_batch_1 (by decide) ?_
  refine lv_aload_n hx hb dL_batch_2 rfl (lv_at hl 0 rfl) ?_
  refine lv_iload_n hx hb dL_batch_3 rfl (lv_at hl 1 rfl) ?_
  refine zlV_i (As := [.int a1]) (rest := [.int (nI 0), .ref ao]) F (hM _) (cwV 1 hts gL_batch_X2_batch rfl hrm.1 hrm.2.1 (by decide +kernel) ⟨by show rm.frames + 1 ≤ 9; omega, by show 8 + (2 + 11) + rm.locals ≤ 200; omega⟩) (va_recv hK hP (ci := 2) (q0 := 0) rfl rfl) hKc hP hD hS hA rfl hl.1 rfl (Nat.le_of_ble_eq_true rfl) dL_batch_4 ⟨Nat.le_of_ble_eq_true rfl, Nat.le_of_ble_eq_true rfl⟩ (fun H locs hP hD hS => ?_)
  refine lv_i2l (v := r.toInt64) hx hb dL_batch_7 rfl ?_
  refine ax_lst hx hb hK hP hD hS 11 8 rfl rfl (by omega) (by omega) dL_batch_8 (fun H locs hP hD hS => ?_)
  have hP : va_P D vwCl (cW ad cy n' V' Z' R' K' B' M' bc' G' L' S' q' w' U' wk' jo' ++ oW ao co (vp_updL xo 0 r.toInt64)) H := hP
  have hD : va_D A (cW ad cy n' V' Z' R' K' B' M' bc' G' L' S' q' w' U' wk' jo' ++ oW ao co (vp_updL xo 0 r.toInt64)) := hD
  refine lv_goto (tgt := 15) hx hb dL_batch_9 (by decide) ?_
  refine lv_iconst (v := 0) hx hb dL_batch_15 (by decide) ?_
  refine W.widen (k := 1) (n := 6) (by omega) (by omega) ?_
  exact zret_i F hr hlocks hK hP hD hS rfl dL_batch_16

set_option maxHeartbeats 1000000 in
set_option maxRecDepth 100000 in
theorem kL_run (l : Launch) (D : va_G) (ad : Nat → Nat) (cy : Nat → ClassId) (ao : Nat) (co : ClassId) (sz : Nat) (n : Nat) (V : Nat → UInt64) (Z : Nat → Int32) (R : Nat → Int32) (K : Nat → Int32) (B : Nat → Int32) (M : Nat → Int32) (bc : Nat) (G : Int32) (L : Int32) (S : Int64) (q : Nat → Int32) (w : Int32) (U : Nat → Int32) (wk : Int64) (jo : UInt64) (xo : Nat → Int64) (n' : Nat) (V' : Nat → UInt64) (Z' : Nat → Int32) (R' : Nat → Int32) (K' : Nat → Int32) (B' : Nat → Int32) (M' : Nat → Int32) (bc' : Nat) (G' : Int32) (L' : Int32) (S' : Int64) (q' : Nat → Int32) (w' : Int32) (U' : Nat → Int32) (wk' : Int64) (jo' : UInt64) (a1 : Int32) (a2 : Int64) (r : Int32) (rm : Room) (hrm : rm.cells = 0 ∧ rm.slots = 0 ∧ rm.frames ≤ 8 ∧ rm.locals ≤ 160) (hM : ∀ sz, mI l yX2_run wsX2_run rm [.ref (ad 0), .int a1, .long a2] D (cT cy) (cW ad cy n V Z R K B M bc G L S q w U wk jo) sz r (cW ad cy n' V' Z' R' K' B' M' bc' G' L' S' q' w' U' wk' jo') 0 0) : mH l yL_run wsL_run ({ frames := 9, cells := 1, slots := 6, locals := 200 }) [.ref (ad 0), .int a1, .long a2, .ref ao] D (cT cy ++ oT co) (cW ad cy n V Z R K B M bc G L S q w U wk jo ++ oW ao co xo) sz 0 (cW ad cy n' V' Z' R' K' B' M' bc' G' L' S' q' w' U' wk' jo' ++ oW ao co (vp_updL xo 0 r.toInt64)) := by
  refine zinH (fun A => zQi D (cT cy ++ oT co) (cW ad cy n' V' Z' R' K' B' M' bc' G' L' S' q' w' U' wk' jo' ++ oW ao co (vp_updL xo 0 r.toInt64)) 0 A) (cc := cL_run) (maxL := 6) (ret := (some .int)) (own := RL) (by decide) rfl rfl (Nat.le_of_ble_eq_true rfl) ?_
  intro p e s m below meth c A F hr hlocks htab hA hK hxS hxH H locs hP hD hS ls hl
  obtain ⟨hx, hb, hml, hown, hts⟩ := id F
  have hl : lv_has ls 6 [(0, .ref (ad 0)), (1, .int a1), (2, .long a2), (4, .ref ao)] := hl
  have hKc : va_K D vwCl (cT cy) s := hK.sub [0, 1, 2, 3, 4, 5, 6, 7] rfl
  refine lv_aload hx hb dL_run_0 (lv_at hl 3 rfl) ?_
  refine lv_iconst (v := nI 0) hx hb dL_run_2 (by decide) ?_
  refine lv_aload_n hx hb dL_run_3 rfl (lv_at hl 0 rfl) ?_
  refine lv_iload_n hx hb dL_run_4 rfl (lv_at hl 1 rfl) ?_
  refine lv_lload_n hx hb dL_run_5 rfl (lv_at hl 2 rfl) ?_
  refine zlV_i (As := [.int a1, .long a2]) (rest := [.int (nI 0), .ref ao]) F (hM _) (cwV 2 hts gL_run_X2_run rfl hrm.1 hrm.2.1 (by decide +kernel) ⟨by show rm.frames + 1 ≤ 9; omega, by show 8 + (6 + 11) + rm.locals ≤ 200; omega⟩) (va_recv hK hP (ci := 2) (q0 := 0) rfl rfl) hKc hP hD hS hA rfl hl.1 rfl (Nat.le_of_ble_eq_true rfl) dL_run_6 ⟨Nat.le_of_ble_eq_true rfl, Nat.le_of_ble_eq_true rfl⟩ (fun H locs hP hD hS => ?_)
  refine lv_i2l (v := r.toInt64) hx hb dL_run_9 rfl ?_
  refine ax_lst hx hb hK hP hD hS 11 8 rfl rfl (by omega) (by omega) dL_run_10 (fun H locs hP hD hS => ?_)
  have hP : va_P D vwCl (cW ad cy n' V' Z' R' K' B' M' bc' G' L' S' q' w' U' wk' jo' ++ oW ao co (vp_updL xo 0 r.toInt64)) H := hP
  have hD : va_D A (cW ad cy n' V' Z' R' K' B' M' bc' G' L' S' q' w' U' wk' jo' ++ oW ao co (vp_updL xo 0 r.toInt64)) := hD
  refine lv_goto (tgt := 18) hx hb dL_run_11 (by decide) ?_
  refine lv_iconst (v := 0) hx hb dL_run_18 (by decide) ?_
  refine W.widen (k := 1) (n := 6) (by omega) (by omega) ?_
  exact zret_i F hr hlocks hK hP hD hS rfl dL_run_19

set_option maxHeartbeats 1000000 in
set_option maxRecDepth 100000 in
theorem kL_failAt (l : Launch) (D : va_G) (ad : Nat → Nat) (cy : Nat → ClassId) (ao : Nat) (co : ClassId) (sz : Nat) (n : Nat) (V : Nat → UInt64) (Z : Nat → Int32) (R : Nat → Int32) (K : Nat → Int32) (B : Nat → Int32) (M : Nat → Int32) (bc : Nat) (G : Int32) (L : Int32) (S : Int64) (q : Nat → Int32) (w : Int32) (U : Nat → Int32) (wk : Int64) (jo : UInt64) (xo : Nat → Int64) (n' : Nat) (V' : Nat → UInt64) (Z' : Nat → Int32) (R' : Nat → Int32) (K' : Nat → Int32) (B' : Nat → Int32) (M' : Nat → Int32) (bc' : Nat) (G' : Int32) (L' : Int32) (S' : Int64) (q' : Nat → Int32) (w' : Int32) (U' : Nat → Int32) (wk' : Int64) (jo' : UInt64) (a1 : Int32) (a2 : Int32) (r : Int32) (rm : Room) (hrm : rm.cells = 0 ∧ rm.slots = 0 ∧ rm.frames ≤ 8 ∧ rm.locals ≤ 160) (hM : ∀ sz, mI l yX2_failAt wsX2_failAt rm [.ref (ad 0), .int a1, .int a2] D (cT cy) (cW ad cy n V Z R K B M bc G L S q w U wk jo) sz r (cW ad cy n' V' Z' R' K' B' M' bc' G' L' S' q' w' U' wk' jo') 0 0) : mH l yL_failAt wsL_failAt ({ frames := 9, cells := 1, slots := 6, locals := 200 }) [.ref (ad 0), .int a1, .int a2, .ref ao] D (cT cy ++ oT co) (cW ad cy n V Z R K B M bc G L S q w U wk jo ++ oW ao co xo) sz 0 (cW ad cy n' V' Z' R' K' B' M' bc' G' L' S' q' w' U' wk' jo' ++ oW ao co (vp_updL xo 0 (if r = 0 then 0 else 1 : Int64))) := by
  refine zinH (fun A => zQi D (cT cy ++ oT co) (cW ad cy n' V' Z' R' K' B' M' bc' G' L' S' q' w' U' wk' jo' ++ oW ao co (vp_updL xo 0 (if r = 0 then 0 else 1 : Int64))) 0 A) (cc := cL_failAt) (maxL := 5) (ret := (some .int)) (own := RL) (by decide) rfl rfl (Nat.le_of_ble_eq_true rfl) ?_
  intro p e s m below meth c A F hr hlocks htab hA hK hxS hxH H locs hP hD hS ls hl
  obtain ⟨hx, hb, hml, hown, hts⟩ := id F
  have hl : lv_has ls 5 [(0, .ref (ad 0)), (1, .int a1), (2, .int a2), (3, .ref ao)] := hl
  have hKc : va_K D vwCl (cT cy) s := hK.sub [0, 1, 2, 3, 4, 5, 6, 7] rfl
  refine lv_aload_n hx hb dL_failAt_0 rfl (lv_at hl 3 rfl) ?_
  refine lv_iconst (v := nI 0) hx hb dL_failAt_1 (by decide) ?_
  refine lv_aload_n hx hb dL_failAt_2 rfl (lv_at hl 0 rfl) ?_
  refine lv_iload_n hx hb dL_failAt_3 rfl (lv_at hl 1 rfl) ?_
  refine lv_iload_n hx hb dL_failAt_4 rfl (lv_at hl 2 rfl) ?_
  refine zlV_i (As := [.int a1, .int a2]) (rest := [.int (nI 0), .ref ao]) F (hM _) (cwV 2 hts gL_failAt_X2_failAt rfl hrm.1 hrm.2.1 (by decide +kernel) ⟨by show rm.frames + 1 ≤ 9; omega, by show 8 + (4 + 11) + rm.locals ≤ 200; omega⟩) (va_recv hK hP (ci := 2) (q0 := 0) rfl rfl) hKc hP hD hS hA rfl hl.1 rfl (Nat.le_of_ble_eq_true rfl) dL_failAt_5 ⟨Nat.le_of_ble_eq_true rfl, Nat.le_of_ble_eq_true rfl⟩ (fun H locs hP hD hS => ?_)
  refine lv_if_eq (tgt := 15) hx hb dL_failAt_8 (by decide) (fun c8 => ?_) (fun c8 => ?_)
  · refine lv_lconst (v := 0) hx hb dL_failAt_15 (by decide) ?_
    refine ax_lst hx hb hK hP hD hS 11 8 rfl rfl (by omega) (by omega) dL_failAt_16 (fun H locs hP hD hS => ?_)
    have hP : va_P D vwCl (cW ad cy n' V' Z' R' K' B' M' bc' G' L' S' q' w' U' wk' jo' ++ oW ao co (vp_updL xo 0 0)) H := hP
    have hD : va_D A (cW ad cy n' V' Z' R' K' B' M' bc' G' L' S' q' w' U' wk' jo' ++ oW ao co (vp_updL xo 0 0)) := hD
    refine lv_goto (tgt := 24) hx hb dL_failAt_17 (by decide) ?_
    refine lv_iconst (v := 0) hx hb dL_failAt_24 (by decide) ?_
    refine W.widen (k := 1) (n := 6) (by omega) (by omega) ?_
    exact zret_i F hr hlocks hK (by first | (rw [if_pos c8]; exact hP) | (rw [if_neg c8]; exact hP)) (by first | (rw [if_pos c8]; exact hD) | (rw [if_neg c8]; exact hD)) hS rfl dL_failAt_25
  · refine lv_lconst (v := 1) hx hb dL_failAt_11 (by decide) ?_
    refine lv_goto (tgt := 16) hx hb dL_failAt_12 (by decide) ?_
    refine ax_lst hx hb hK hP hD hS 11 8 rfl rfl (by omega) (by omega) dL_failAt_16 (fun H locs hP hD hS => ?_)
    have hP : va_P D vwCl (cW ad cy n' V' Z' R' K' B' M' bc' G' L' S' q' w' U' wk' jo' ++ oW ao co (vp_updL xo 0 1)) H := hP
    have hD : va_D A (cW ad cy n' V' Z' R' K' B' M' bc' G' L' S' q' w' U' wk' jo' ++ oW ao co (vp_updL xo 0 1)) := hD
    refine lv_goto (tgt := 24) hx hb dL_failAt_17 (by decide) ?_
    refine lv_iconst (v := 0) hx hb dL_failAt_24 (by decide) ?_
    refine W.widen (k := 1) (n := 6) (by omega) (by omega) ?_
    exact zret_i F hr hlocks hK (by first | (rw [if_pos c8]; exact hP) | (rw [if_neg c8]; exact hP)) (by first | (rw [if_pos c8]; exact hD) | (rw [if_neg c8]; exact hD)) hS rfl dL_failAt_25

set_option maxHeartbeats 1000000 in
set_option maxRecDepth 100000 in
theorem kL_times (l : Launch) (D : va_G) (ad : Nat → Nat) (cy : Nat → ClassId) (ao : Nat) (co : ClassId) (sz : Nat) (n : Nat) (V : Nat → UInt64) (Z : Nat → Int32) (R : Nat → Int32) (K : Nat → Int32) (B : Nat → Int32) (M : Nat → Int32) (bc : Nat) (G : Int32) (L : Int32) (S : Int64) (q : Nat → Int32) (w : Int32) (U : Nat → Int32) (wk : Int64) (jo : UInt64) (xo : Nat → Int64) (n' : Nat) (V' : Nat → UInt64) (Z' : Nat → Int32) (R' : Nat → Int32) (K' : Nat → Int32) (B' : Nat → Int32) (M' : Nat → Int32) (bc' : Nat) (G' : Int32) (L' : Int32) (S' : Int64) (q' : Nat → Int32) (w' : Int32) (U' : Nat → Int32) (wk' : Int64) (jo' : UInt64) (a1 : Int32) (r : Int32) (rm : Room) (hrm : rm.cells = 0 ∧ rm.slots = 0 ∧ rm.frames ≤ 8 ∧ rm.locals ≤ 160) (hM : ∀ sz, mI l yX2_times wsX2_times rm [.ref (ad 0), .int a1] D (cT cy) (cW ad cy n V Z R K B M bc G L S q w U wk jo) sz r (cW ad cy n' V' Z' R' K' B' M' bc' G' L' S' q' w' U' wk' jo') 0 0) : mH l yL_times wsL_times ({ frames := 9, cells := 1, slots := 6, locals := 200 }) [.ref (ad 0), .int a1, .ref ao] D (cT cy ++ oT co) (cW ad cy n V Z R K B M bc G L S q w U wk jo ++ oW ao co xo) sz 0 (cW ad cy n' V' Z' R' K' B' M' bc' G' L' S' q' w' U' wk' jo' ++ oW ao co (vp_updL xo 0 r.toInt64)) := by
  refine zinH (fun A => zQi D (cT cy ++ oT co) (cW ad cy n' V' Z' R' K' B' M' bc' G' L' S' q' w' U' wk' jo' ++ oW ao co (vp_updL xo 0 r.toInt64)) 0 A) (cc := cL_times) (maxL := 4) (ret := (some .int)) (own := RL) (by decide) rfl rfl (Nat.le_of_ble_eq_true rfl) ?_
  intro p e s m below meth c A F hr hlocks htab hA hK hxS hxH H locs hP hD hS ls hl
  obtain ⟨hx, hb, hml, hown, hts⟩ := id F
  have hl : lv_has ls 4 [(0, .ref (ad 0)), (1, .int a1), (2, .ref ao)] := hl
  have hKc : va_K D vwCl (cT cy) s := hK.sub [0, 1, 2, 3, 4, 5, 6, 7] rfl
  refine lv_aload_n hx hb dL_times_0 rfl (lv_at hl 2 rfl) ?_
  refine lv_iconst (v := nI 0) hx hb dL_times_1 (by decide) ?_
  refine lv_aload_n hx hb dL_times_2 rfl (lv_at hl 0 rfl) ?_
  refine lv_iload_n hx hb dL_times_3 rfl (lv_at hl 1 rfl) ?_
  refine zlV_i (As := [.int a1]) (rest := [.int (nI 0), .ref ao]) F (hM _) (cwV 1 hts gL_times_X2_times rfl hrm.1 hrm.2.1 (by decide +kernel) ⟨by show rm.frames + 1 ≤ 9; omega, by show 8 + (2 + 11) + rm.locals ≤ 200; omega⟩) (va_recv hK hP (ci := 2) (q0 := 0) rfl rfl) hKc hP hD hS hA rfl hl.1 rfl (Nat.le_of_ble_eq_true rfl) dL_times_4 ⟨Nat.le_of_ble_eq_true rfl, Nat.le_of_ble_eq_true rfl⟩ (fun H locs hP hD hS => ?_)
  refine lv_i2l (v := r.toInt64) hx hb dL_times_7 rfl ?_
  refine ax_lst hx hb hK hP hD hS 11 8 rfl rfl (by omega) (by omega) dL_times_8 (fun H locs hP hD hS => ?_)
  have hP : va_P D vwCl (cW ad cy n' V' Z' R' K' B' M' bc' G' L' S' q' w' U' wk' jo' ++ oW ao co (vp_updL xo 0 r.toInt64)) H := hP
  have hD : va_D A (cW ad cy n' V' Z' R' K' B' M' bc' G' L' S' q' w' U' wk' jo' ++ oW ao co (vp_updL xo 0 r.toInt64)) := hD
  refine lv_goto (tgt := 15) hx hb dL_times_9 (by decide) ?_
  refine lv_iconst (v := 0) hx hb dL_times_15 (by decide) ?_
  refine W.widen (k := 1) (n := 6) (by omega) (by omega) ?_
  exact zret_i F hr hlocks hK hP hD hS rfl dL_times_16

set_option maxHeartbeats 1000000 in
set_option maxRecDepth 100000 in
theorem kL_act (l : Launch) (D : va_G) (ad : Nat → Nat) (cy : Nat → ClassId) (ao : Nat) (co : ClassId) (sz : Nat) (n : Nat) (V : Nat → UInt64) (Z : Nat → Int32) (R : Nat → Int32) (K : Nat → Int32) (B : Nat → Int32) (M : Nat → Int32) (bc : Nat) (G : Int32) (L : Int32) (S : Int64) (q : Nat → Int32) (w : Int32) (U : Nat → Int32) (wk : Int64) (jo : UInt64) (xo : Nat → Int64) (n' : Nat) (V' : Nat → UInt64) (Z' : Nat → Int32) (R' : Nat → Int32) (K' : Nat → Int32) (B' : Nat → Int32) (M' : Nat → Int32) (bc' : Nat) (G' : Int32) (L' : Int32) (S' : Int64) (q' : Nat → Int32) (w' : Int32) (U' : Nat → Int32) (wk' : Int64) (jo' : UInt64) (a1 : Int32) (r : Int32) (rm : Room) (hrm : rm.cells = 0 ∧ rm.slots = 0 ∧ rm.frames ≤ 8 ∧ rm.locals ≤ 160) (hM : ∀ sz, mI l yX2_act wsX2_act rm [.ref (ad 0), .int a1] D (cT cy) (cW ad cy n V Z R K B M bc G L S q w U wk jo) sz r (cW ad cy n' V' Z' R' K' B' M' bc' G' L' S' q' w' U' wk' jo') 0 0) : mH l yL_act wsL_act ({ frames := 9, cells := 1, slots := 6, locals := 200 }) [.ref (ad 0), .int a1, .ref ao] D (cT cy ++ oT co) (cW ad cy n V Z R K B M bc G L S q w U wk jo ++ oW ao co xo) sz 0 (cW ad cy n' V' Z' R' K' B' M' bc' G' L' S' q' w' U' wk' jo' ++ oW ao co (vp_updL xo 0 r.toInt64)) := by
  refine zinH (fun A => zQi D (cT cy ++ oT co) (cW ad cy n' V' Z' R' K' B' M' bc' G' L' S' q' w' U' wk' jo' ++ oW ao co (vp_updL xo 0 r.toInt64)) 0 A) (cc := cL_act) (maxL := 4) (ret := (some .int)) (own := RL) (by decide) rfl rfl (Nat.le_of_ble_eq_true rfl) ?_
  intro p e s m below meth c A F hr hlocks htab hA hK hxS hxH H locs hP hD hS ls hl
  obtain ⟨hx, hb, hml, hown, hts⟩ := id F
  have hl : lv_has ls 4 [(0, .ref (ad 0)), (1, .int a1), (2, .ref ao)] := hl
  have hKc : va_K D vwCl (cT cy) s := hK.sub [0, 1, 2, 3, 4, 5, 6, 7] rfl
  refine lv_aload_n hx hb dL_act_0 rfl (lv_at hl 2 rfl) ?_
  refine lv_iconst (v := nI 0) hx hb dL_act_1 (by decide) ?_
  refine lv_aload_n hx hb dL_act_2 rfl (lv_at hl 0 rfl) ?_
  refine lv_iload_n hx hb dL_act_3 rfl (lv_at hl 1 rfl) ?_
  refine zlV_i (As := [.int a1]) (rest := [.int (nI 0), .ref ao]) F (hM _) (cwV 1 hts gL_act_X2_act rfl hrm.1 hrm.2.1 (by decide +kernel) ⟨by show rm.frames + 1 ≤ 9; omega, by show 8 + (2 + 11) + rm.locals ≤ 200; omega⟩) (va_recv hK hP (ci := 2) (q0 := 0) rfl rfl) hKc hP hD hS hA rfl hl.1 rfl (Nat.le_of_ble_eq_true rfl) dL_act_4 ⟨Nat.le_of_ble_eq_true rfl, Nat.le_of_ble_eq_true rfl⟩ (fun H locs hP hD hS => ?_)
  refine lv_i2l (v := r.toInt64) hx hb dL_act_7 rfl ?_
  refine ax_lst hx hb hK hP hD hS 11 8 rfl rfl (by omega) (by omega) dL_act_8 (fun H locs hP hD hS => ?_)
  have hP : va_P D vwCl (cW ad cy n' V' Z' R' K' B' M' bc' G' L' S' q' w' U' wk' jo' ++ oW ao co (vp_updL xo 0 r.toInt64)) H := hP
  have hD : va_D A (cW ad cy n' V' Z' R' K' B' M' bc' G' L' S' q' w' U' wk' jo' ++ oW ao co (vp_updL xo 0 r.toInt64)) := hD
  refine lv_goto (tgt := 15) hx hb dL_act_9 (by decide) ?_
  refine lv_iconst (v := 0) hx hb dL_act_15 (by decide) ?_
  refine W.widen (k := 1) (n := 6) (by omega) (by omega) ?_
  exact zret_i F hr hlocks hK hP hD hS rfl dL_act_16

set_option maxHeartbeats 1000000 in
set_option maxRecDepth 100000 in
theorem kL_stop (l : Launch) (D : va_G) (ad : Nat → Nat) (cy : Nat → ClassId) (ao : Nat) (co : ClassId) (sz : Nat) (n : Nat) (V : Nat → UInt64) (Z : Nat → Int32) (R : Nat → Int32) (K : Nat → Int32) (B : Nat → Int32) (M : Nat → Int32) (bc : Nat) (G : Int32) (L : Int32) (S : Int64) (q : Nat → Int32) (w : Int32) (U : Nat → Int32) (wk : Int64) (jo : UInt64) (xo : Nat → Int64) (n' : Nat) (V' : Nat → UInt64) (Z' : Nat → Int32) (R' : Nat → Int32) (K' : Nat → Int32) (B' : Nat → Int32) (M' : Nat → Int32) (bc' : Nat) (G' : Int32) (L' : Int32) (S' : Int64) (q' : Nat → Int32) (w' : Int32) (U' : Nat → Int32) (wk' : Int64) (jo' : UInt64) (a1 : Int32) (r : Int32) (rm : Room) (hrm : rm.cells = 0 ∧ rm.slots = 0 ∧ rm.frames ≤ 8 ∧ rm.locals ≤ 160) (hM : ∀ sz, mI l yX2_stop wsX2_stop rm [.ref (ad 0), .int a1] D (cT cy) (cW ad cy n V Z R K B M bc G L S q w U wk jo) sz r (cW ad cy n' V' Z' R' K' B' M' bc' G' L' S' q' w' U' wk' jo') 0 0) : mH l yL_stop wsL_stop ({ frames := 9, cells := 1, slots := 6, locals := 200 }) [.ref (ad 0), .int a1, .ref ao] D (cT cy ++ oT co) (cW ad cy n V Z R K B M bc G L S q w U wk jo ++ oW ao co xo) sz 0 (cW ad cy n' V' Z' R' K' B' M' bc' G' L' S' q' w' U' wk' jo' ++ oW ao co (vp_updL xo 0 (if r = 0 then 0 else 1 : Int64))) := by
  refine zinH (fun A => zQi D (cT cy ++ oT co) (cW ad cy n' V' Z' R' K' B' M' bc' G' L' S' q' w' U' wk' jo' ++ oW ao co (vp_updL xo 0 (if r = 0 then 0 else 1 : Int64))) 0 A) (cc := cL_stop) (maxL := 4) (ret := (some .int)) (own := RL) (by decide) rfl rfl (Nat.le_of_ble_eq_true rfl) ?_
  intro p e s m below meth c A F hr hlocks htab hA hK hxS hxH H locs hP hD hS ls hl
  obtain ⟨hx, hb, hml, hown, hts⟩ := id F
  have hl : lv_has ls 4 [(0, .ref (ad 0)), (1, .int a1), (2, .ref ao)] := hl
  have hKc : va_K D vwCl (cT cy) s := hK.sub [0, 1, 2, 3, 4, 5, 6, 7] rfl
  refine lv_aload_n hx hb dL_stop_0 rfl (lv_at hl 2 rfl) ?_
  refine lv_iconst (v := nI 0) hx hb dL_stop_1 (by decide) ?_
  refine lv_aload_n hx hb dL_stop_2 rfl (lv_at hl 0 rfl) ?_
  refine lv_iload_n hx hb dL_stop_3 rfl (lv_at hl 1 rfl) ?_
  refine zlV_i (As := [.int a1]) (rest := [.int (nI 0), .ref ao]) F (hM _) (cwV 1 hts gL_stop_X2_stop rfl hrm.1 hrm.2.1 (by decide +kernel) ⟨by show rm.frames + 1 ≤ 9; omega, by show 8 + (2 + 11) + rm.locals ≤ 200; omega⟩) (va_recv hK hP (ci := 2) (q0 := 0) rfl rfl) hKc hP hD hS hA rfl hl.1 rfl (Nat.le_of_ble_eq_true rfl) dL_stop_4 ⟨Nat.le_of_ble_eq_true rfl, Nat.le_of_ble_eq_true rfl⟩ (fun H locs hP hD hS => ?_)
  refine lv_if_eq (tgt := 14) hx hb dL_stop_7 (by decide) (fun c7 => ?_) (fun c7 => ?_)
  · refine lv_lconst (v := 0) hx hb dL_stop_14 (by decide) ?_
    refine ax_lst hx hb hK hP hD hS 11 8 rfl rfl (by omega) (by omega) dL_stop_15 (fun H locs hP hD hS => ?_)
    have hP : va_P D vwCl (cW ad cy n' V' Z' R' K' B' M' bc' G' L' S' q' w' U' wk' jo' ++ oW ao co (vp_updL xo 0 0)) H := hP
    have hD : va_D A (cW ad cy n' V' Z' R' K' B' M' bc' G' L' S' q' w' U' wk' jo' ++ oW ao co (vp_updL xo 0 0)) := hD
    refine lv_goto (tgt := 22) hx hb dL_stop_16 (by decide) ?_
    refine lv_iconst (v := 0) hx hb dL_stop_22 (by decide) ?_
    refine W.widen (k := 1) (n := 6) (by omega) (by omega) ?_
    exact zret_i F hr hlocks hK (by first | (rw [if_pos c7]; exact hP) | (rw [if_neg c7]; exact hP)) (by first | (rw [if_pos c7]; exact hD) | (rw [if_neg c7]; exact hD)) hS rfl dL_stop_23
  · refine lv_lconst (v := 1) hx hb dL_stop_10 (by decide) ?_
    refine lv_goto (tgt := 15) hx hb dL_stop_11 (by decide) ?_
    refine ax_lst hx hb hK hP hD hS 11 8 rfl rfl (by omega) (by omega) dL_stop_15 (fun H locs hP hD hS => ?_)
    have hP : va_P D vwCl (cW ad cy n' V' Z' R' K' B' M' bc' G' L' S' q' w' U' wk' jo' ++ oW ao co (vp_updL xo 0 1)) H := hP
    have hD : va_D A (cW ad cy n' V' Z' R' K' B' M' bc' G' L' S' q' w' U' wk' jo' ++ oW ao co (vp_updL xo 0 1)) := hD
    refine lv_goto (tgt := 22) hx hb dL_stop_16 (by decide) ?_
    refine lv_iconst (v := 0) hx hb dL_stop_22 (by decide) ?_
    refine W.widen (k := 1) (n := 6) (by omega) (by omega) ?_
    exact zret_i F hr hlocks hK (by first | (rw [if_pos c7]; exact hP) | (rw [if_neg c7]; exact hP)) (by first | (rw [if_pos c7]; exact hD) | (rw [if_neg c7]; exact hD)) hS rfl dL_stop_23

set_option maxHeartbeats 1000000 in
set_option maxRecDepth 100000 in
theorem xL_value1 (l : Launch) (D : va_G) (ad : Nat → Nat) (cy : Nat → ClassId) (ao : Nat) (co : ClassId) (sz : Nat) (n : Nat) (V : Nat → UInt64) (Z : Nat → Int32) (R : Nat → Int32) (K : Nat → Int32) (B : Nat → Int32) (M : Nat → Int32) (bc : Nat) (G : Int32) (L : Int32) (S : Int64) (q : Nat → Int32) (w : Int32) (U : Nat → Int32) (wk : Int64) (jo : UInt64) (xo : Nat → Int64)  (a1 : Int32) (a2 : UInt64) (hM : ∀ sz, mXi l yX2_value wsX2_value ({ frames := 7, cells := 1, slots := 6, locals := 104 }) [.ref (ad 0), .int a1, .double a2] D (cT cy) (cW ad cy n V Z R K B M bc G L S q w U wk jo) sz eIO) : mH l yL_value wsL_value ({ frames := 9, cells := 1, slots := 6, locals := 200 }) [.ref (ad 0), .int a1, .double a2, .ref ao] D (cT cy ++ oT co) (cW ad cy n V Z R K B M bc G L S q w U wk jo ++ oW ao co xo) sz 1 (cW ad cy n V Z R K B M bc G L S q w U wk jo ++ oW ao co xo) := by
  refine zinH (fun A => zQi D (cT cy ++ oT co) (cW ad cy n V Z R K B M bc G L S q w U wk jo ++ oW ao co xo) 1 A) (cc := cL_value) (maxL := 6) (ret := (some .int)) (own := RL) (by decide) rfl rfl (Nat.le_of_ble_eq_true rfl) ?_
  intro p e s m below meth c A F hr hlocks htab hA hK hxS hxH H locs hP hD hS ls hl
  obtain ⟨hx, hb, hml, hown, hts⟩ := id F
  have hl : lv_has ls 6 [(0, .ref (ad 0)), (1, .int a1), (2, .double a2), (4, .ref ao)] := hl
  have hKc : va_K D vwCl (cT cy) s := hK.sub [0, 1, 2, 3, 4, 5, 6, 7] rfl
  refine lv_aload hx hb dL_value_0 (lv_at hl 3 rfl) ?_
  refine lv_iconst (v := nI 0) hx hb dL_value_2 (by decide) ?_
  refine lv_aload_n hx hb dL_value_3 rfl (lv_at hl 0 rfl) ?_
  refine lv_iload_n hx hb dL_value_4 rfl (lv_at hl 1 rfl) ?_
  refine lv_dload_n hx hb dL_value_5 rfl (lv_at hl 2 rfl) ?_
  refine x_catch (nm := eIO) (As := [.int a1, .double a2]) (rest := [.int (nI 0), .ref ao]) F (hM _) (cwV 2 hts gL_value_X2_value rfl rfl rfl (by decide +kernel) ⟨Nat.le_of_ble_eq_true rfl, Nat.le_of_ble_eq_true rfl⟩) (va_recv hK hP (ci := 2) (q0 := 0) rfl rfl) hKc hxS hxH hP hD hS hA rfl hl.1 rfl (Nat.le_of_ble_eq_true rfl) dL_value_6 ⟨Nat.le_of_ble_eq_true rfl, Nat.le_of_ble_eq_true rfl⟩ [] ⟨0, 18, 21, 13⟩ [⟨0, 18, 25, 15⟩] (htab.trans rfl) (fun z hz => absurd hz List.not_mem_nil) (by decide) (by decide) (hts (.classLink RL 13 eIO) (by decide +kernel)) hxS.1.1.1 (fun q9 H locs hP hD hS => ?_)
  · refine lv_astore (lv' := [(5, .ref q9), (0, .ref (ad 0)), (1, .int a1), (2, .double a2), (4, .ref ao)]) hx hb dL_value_21 hl (by decide) rfl (fun ls hl => ?_)
    refine lv_iconst (v := 1) hx hb dL_value_23 (by decide) ?_
    exact zret_i F hr hlocks hK hP hD hS rfl dL_value_24

set_option maxHeartbeats 1000000 in
set_option maxRecDepth 100000 in
theorem xL_value2 (l : Launch) (D : va_G) (ad : Nat → Nat) (cy : Nat → ClassId) (ao : Nat) (co : ClassId) (sz : Nat) (n : Nat) (V : Nat → UInt64) (Z : Nat → Int32) (R : Nat → Int32) (K : Nat → Int32) (B : Nat → Int32) (M : Nat → Int32) (bc : Nat) (G : Int32) (L : Int32) (S : Int64) (q : Nat → Int32) (w : Int32) (U : Nat → Int32) (wk : Int64) (jo : UInt64) (xo : Nat → Int64)  (a1 : Int32) (a2 : UInt64) (hM : ∀ sz, mXi l yX2_value wsX2_value ({ frames := 7, cells := 1, slots := 6, locals := 104 }) [.ref (ad 0), .int a1, .double a2] D (cT cy) (cW ad cy n V Z R K B M bc G L S q w U wk jo) sz eIA) : mH l yL_value wsL_value ({ frames := 9, cells := 1, slots := 6, locals := 200 }) [.ref (ad 0), .int a1, .double a2, .ref ao] D (cT cy ++ oT co) (cW ad cy n V Z R K B M bc G L S q w U wk jo ++ oW ao co xo) sz 2 (cW ad cy n V Z R K B M bc G L S q w U wk jo ++ oW ao co xo) := by
  refine zinH (fun A => zQi D (cT cy ++ oT co) (cW ad cy n V Z R K B M bc G L S q w U wk jo ++ oW ao co xo) 2 A) (cc := cL_value) (maxL := 6) (ret := (some .int)) (own := RL) (by decide) rfl rfl (Nat.le_of_ble_eq_true rfl) ?_
  intro p e s m below meth c A F hr hlocks htab hA hK hxS hxH H locs hP hD hS ls hl
  obtain ⟨hx, hb, hml, hown, hts⟩ := id F
  have hl : lv_has ls 6 [(0, .ref (ad 0)), (1, .int a1), (2, .double a2), (4, .ref ao)] := hl
  have hKc : va_K D vwCl (cT cy) s := hK.sub [0, 1, 2, 3, 4, 5, 6, 7] rfl
  refine lv_aload hx hb dL_value_0 (lv_at hl 3 rfl) ?_
  refine lv_iconst (v := nI 0) hx hb dL_value_2 (by decide) ?_
  refine lv_aload_n hx hb dL_value_3 rfl (lv_at hl 0 rfl) ?_
  refine lv_iload_n hx hb dL_value_4 rfl (lv_at hl 1 rfl) ?_
  refine lv_dload_n hx hb dL_value_5 rfl (lv_at hl 2 rfl) ?_
  refine x_catch (nm := eIA) (As := [.int a1, .double a2]) (rest := [.int (nI 0), .ref ao]) F (hM _) (cwV 2 hts gL_value_X2_value rfl rfl rfl (by decide +kernel) ⟨Nat.le_of_ble_eq_true rfl, Nat.le_of_ble_eq_true rfl⟩) (va_recv hK hP (ci := 2) (q0 := 0) rfl rfl) hKc hxS hxH hP hD hS hA rfl hl.1 rfl (Nat.le_of_ble_eq_true rfl) dL_value_6 ⟨Nat.le_of_ble_eq_true rfl, Nat.le_of_ble_eq_true rfl⟩ [⟨0, 18, 21, 13⟩] ⟨0, 18, 25, 15⟩ [] (htab.trans rfl) (fun z hz => by rw [List.mem_singleton.mp hz]; exact Or.inr ⟨by decide, eIO, hts (.classLink RL 13 eIO) (by decide +kernel), hxS.1.1.2.2⟩) (by decide) (by decide) (hts (.classLink RL 15 eIA) (by decide +kernel)) hxS.1.1.2.1 (fun q9 H locs hP hD hS => ?_)
  · refine lv_astore (lv' := [(5, .ref q9), (0, .ref (ad 0)), (1, .int a1), (2, .double a2), (4, .ref ao)]) hx hb dL_value_25 hl (by decide) rfl (fun ls hl => ?_)
    refine lv_iconst (v := 2) hx hb dL_value_27 (by decide) ?_
    exact zret_i F hr hlocks hK hP hD hS rfl dL_value_28

set_option maxHeartbeats 1000000 in
set_option maxRecDepth 100000 in
theorem xL_touches1 (l : Launch) (D : va_G) (ad : Nat → Nat) (cy : Nat → ClassId) (ao : Nat) (co : ClassId) (sz : Nat) (n : Nat) (V : Nat → UInt64) (Z : Nat → Int32) (R : Nat → Int32) (K : Nat → Int32) (B : Nat → Int32) (M : Nat → Int32) (bc : Nat) (G : Int32) (L : Int32) (S : Int64) (q : Nat → Int32) (w : Int32) (U : Nat → Int32) (wk : Int64) (jo : UInt64) (xo : Nat → Int64)  (a1 : Int32) (a2 : Int32) (hM : ∀ sz, mXi l yX2_touches wsX2_touches ({ frames := 7, cells := 1, slots := 6, locals := 104 }) [.ref (ad 0), .int a1, .int a2] D (cT cy) (cW ad cy n V Z R K B M bc G L S q w U wk jo) sz eIO) : mH l yL_touches wsL_touches ({ frames := 9, cells := 1, slots := 6, locals := 200 }) [.ref (ad 0), .int a1, .int a2, .ref ao] D (cT cy ++ oT co) (cW ad cy n V Z R K B M bc G L S q w U wk jo ++ oW ao co xo) sz 1 (cW ad cy n V Z R K B M bc G L S q w U wk jo ++ oW ao co xo) := by
  refine zinH (fun A => zQi D (cT cy ++ oT co) (cW ad cy n V Z R K B M bc G L S q w U wk jo ++ oW ao co xo) 1 A) (cc := cL_touches) (maxL := 5) (ret := (some .int)) (own := RL) (by decide) rfl rfl (Nat.le_of_ble_eq_true rfl) ?_
  intro p e s m below meth c A F hr hlocks htab hA hK hxS hxH H locs hP hD hS ls hl
  obtain ⟨hx, hb, hml, hown, hts⟩ := id F
  have hl : lv_has ls 5 [(0, .ref (ad 0)), (1, .int a1), (2, .int a2), (3, .ref ao)] := hl
  have hKc : va_K D vwCl (cT cy) s := hK.sub [0, 1, 2, 3, 4, 5, 6, 7] rfl
  refine lv_aload_n hx hb dL_touches_0 rfl (lv_at hl 3 rfl) ?_
  refine lv_iconst (v := nI 0) hx hb dL_touches_1 (by decide) ?_
  refine lv_aload_n hx hb dL_touches_2 rfl (lv_at hl 0 rfl) ?_
  refine lv_iload_n hx hb dL_touches_3 rfl (lv_at hl 1 rfl) ?_
  refine lv_iload_n hx hb dL_touches_4 rfl (lv_at hl 2 rfl) ?_
  refine x_catch (nm := eIO) (As := [.int a1, .int a2]) (rest := [.int (nI 0), .ref ao]) F (hM _) (cwV 2 hts gL_touches_X2_touches rfl rfl rfl (by decide +kernel) ⟨Nat.le_of_ble_eq_true rfl, Nat.le_of_ble_eq_true rfl⟩) (va_recv hK hP (ci := 2) (q0 := 0) rfl rfl) hKc hxS hxH hP hD hS hA rfl hl.1 rfl (Nat.le_of_ble_eq_true rfl) dL_touches_5 ⟨Nat.le_of_ble_eq_true rfl, Nat.le_of_ble_eq_true rfl⟩ [] ⟨0, 17, 20, 13⟩ [] (htab.trans rfl) (fun z hz => absurd hz List.not_mem_nil) (by decide) (by decide) (hts (.classLink RL 13 eIO) (by decide +kernel)) hxS.1.1.1 (fun q9 H locs hP hD hS => ?_)
  · refine lv_astore (lv' := [(4, .ref q9), (0, .ref (ad 0)), (1, .int a1), (2, .int a2), (3, .ref ao)]) hx hb dL_touches_20 hl (by decide) rfl (fun ls hl => ?_)
    refine lv_iconst (v := 1) hx hb dL_touches_22 (by decide) ?_
    exact zret_i F hr hlocks hK hP hD hS rfl dL_touches_23

set_option maxHeartbeats 1000000 in
set_option maxRecDepth 100000 in
theorem xL_batch1 (l : Launch) (D : va_G) (ad : Nat → Nat) (cy : Nat → ClassId) (ao : Nat) (co : ClassId) (sz : Nat) (n : Nat) (V : Nat → UInt64) (Z : Nat → Int32) (R : Nat → Int32) (K : Nat → Int32) (B : Nat → Int32) (M : Nat → Int32) (bc : Nat) (G : Int32) (L : Int32) (S : Int64) (q : Nat → Int32) (w : Int32) (U : Nat → Int32) (wk : Int64) (jo : UInt64) (xo : Nat → Int64)  (a1 : Int32) (hM : ∀ sz, mXi l yX2_batch wsX2_batch ({ frames := 7, cells := 1, slots := 6, locals := 104 }) [.ref (ad 0), .int a1] D (cT cy) (cW ad cy n V Z R K B M bc G L S q w U wk jo) sz eIO) : mH l yL_batch wsL_batch ({ frames := 9, cells := 1, slots := 6, locals := 200 }) [.ref (ad 0), .int a1, .ref ao] D (cT cy ++ oT co) (cW ad cy n V Z R K B M bc G L S q w U wk jo ++ oW ao co xo) sz 1 (cW ad cy n V Z R K B M bc G L S q w U wk jo ++ oW ao co xo) := by
  refine zinH (fun A => zQi D (cT cy ++ oT co) (cW ad cy n V Z R K B M bc G L S q w U wk jo ++ oW ao co xo) 1 A) (cc := cL_batch) (maxL := 4) (ret := (some .int)) (own := RL) (by decide) rfl rfl (Nat.le_of_ble_eq_true rfl) ?_
  intro p e s m below meth c A F hr hlocks htab hA hK hxS hxH H locs hP hD hS ls hl
  obtain ⟨hx, hb, hml, hown, hts⟩ := id F
  have hl : lv_has ls 4 [(0, .ref (ad 0)), (1, .int a1), (2, .ref ao)] := hl
  have hKc : va_K D vwCl (cT cy) s := hK.sub [0, 1, 2, 3, 4, 5, 6, 7] rfl
  refine lv_aload_n hx hb dL_batch_0 rfl (lv_at hl 2 rfl) ?_
  refine lv_iconst (v := nI 0) hx hb dL_batch_1 (by decide) ?_
  refine lv_aload_n hx hb dL_batch_2 rfl (lv_at hl 0 rfl) ?_
  refine lv_iload_n hx hb dL_batch_3 rfl (lv_at hl 1 rfl) ?_
  refine x_catch (nm := eIO) (As := [.int a1]) (rest := [.int (nI 0), .ref ao]) F (hM _) (cwV 1 hts gL_batch_X2_batch rfl rfl rfl (by decide +kernel) ⟨Nat.le_of_ble_eq_true rfl, Nat.le_of_ble_eq_true rfl⟩) (va_recv hK hP (ci := 2) (q0 := 0) rfl rfl) hKc hxS hxH hP hD hS hA rfl hl.1 rfl (Nat.le_of_ble_eq_true rfl) dL_batch_4 ⟨Nat.le_of_ble_eq_true rfl, Nat.le_of_ble_eq_true rfl⟩ [] ⟨0, 9, 12, 13⟩ [] (htab.trans rfl) (fun z hz => absurd hz List.not_mem_nil) (by decide) (by decide) (hts (.classLink RL 13 eIO) (by decide +kernel)) hxS.1.1.1 (fun q9 H locs hP hD hS => ?_)
  · refine lv_astore_n (lv' := [(3, .ref q9), (0, .ref (ad 0)), (1, .int a1), (2, .ref ao)]) hx hb dL_batch_12 rfl hl (by decide) rfl (fun ls hl => ?_)
    refine lv_iconst (v := 1) hx hb dL_batch_13 (by decide) ?_
    exact zret_i F hr hlocks hK hP hD hS rfl dL_batch_14

set_option maxHeartbeats 1000000 in
set_option maxRecDepth 100000 in
theorem xL_failAt1 (l : Launch) (D : va_G) (ad : Nat → Nat) (cy : Nat → ClassId) (ao : Nat) (co : ClassId) (sz : Nat) (n : Nat) (V : Nat → UInt64) (Z : Nat → Int32) (R : Nat → Int32) (K : Nat → Int32) (B : Nat → Int32) (M : Nat → Int32) (bc : Nat) (G : Int32) (L : Int32) (S : Int64) (q : Nat → Int32) (w : Int32) (U : Nat → Int32) (wk : Int64) (jo : UInt64) (xo : Nat → Int64)  (a1 : Int32) (a2 : Int32) (hM : ∀ sz, mXi l yX2_failAt wsX2_failAt ({ frames := 7, cells := 1, slots := 6, locals := 104 }) [.ref (ad 0), .int a1, .int a2] D (cT cy) (cW ad cy n V Z R K B M bc G L S q w U wk jo) sz eIO) : mH l yL_failAt wsL_failAt ({ frames := 9, cells := 1, slots := 6, locals := 200 }) [.ref (ad 0), .int a1, .int a2, .ref ao] D (cT cy ++ oT co) (cW ad cy n V Z R K B M bc G L S q w U wk jo ++ oW ao co xo) sz 1 (cW ad cy n V Z R K B M bc G L S q w U wk jo ++ oW ao co xo) := by
  refine zinH (fun A => zQi D (cT cy ++ oT co) (cW ad cy n V Z R K B M bc G L S q w U wk jo ++ oW ao co xo) 1 A) (cc := cL_failAt) (maxL := 5) (ret := (some .int)) (own := RL) (by decide) rfl rfl (Nat.le_of_ble_eq_true rfl) ?_
  intro p e s m below meth c A F hr hlocks htab hA hK hxS hxH H locs hP hD hS ls hl
  obtain ⟨hx, hb, hml, hown, hts⟩ := id F
  have hl : lv_has ls 5 [(0, .ref (ad 0)), (1, .int a1), (2, .int a2), (3, .ref ao)] := hl
  have hKc : va_K D vwCl (cT cy) s := hK.sub [0, 1, 2, 3, 4, 5, 6, 7] rfl
  refine lv_aload_n hx hb dL_failAt_0 rfl (lv_at hl 3 rfl) ?_
  refine lv_iconst (v := nI 0) hx hb dL_failAt_1 (by decide) ?_
  refine lv_aload_n hx hb dL_failAt_2 rfl (lv_at hl 0 rfl) ?_
  refine lv_iload_n hx hb dL_failAt_3 rfl (lv_at hl 1 rfl) ?_
  refine lv_iload_n hx hb dL_failAt_4 rfl (lv_at hl 2 rfl) ?_
  refine x_catch (nm := eIO) (As := [.int a1, .int a2]) (rest := [.int (nI 0), .ref ao]) F (hM _) (cwV 2 hts gL_failAt_X2_failAt rfl rfl rfl (by decide +kernel) ⟨Nat.le_of_ble_eq_true rfl, Nat.le_of_ble_eq_true rfl⟩) (va_recv hK hP (ci := 2) (q0 := 0) rfl rfl) hKc hxS hxH hP hD hS hA rfl hl.1 rfl (Nat.le_of_ble_eq_true rfl) dL_failAt_5 ⟨Nat.le_of_ble_eq_true rfl, Nat.le_of_ble_eq_true rfl⟩ [] ⟨0, 17, 20, 13⟩ [] (htab.trans rfl) (fun z hz => absurd hz List.not_mem_nil) (by decide) (by decide) (hts (.classLink RL 13 eIO) (by decide +kernel)) hxS.1.1.1 (fun q9 H locs hP hD hS => ?_)
  · refine lv_astore (lv' := [(4, .ref q9), (0, .ref (ad 0)), (1, .int a1), (2, .int a2), (3, .ref ao)]) hx hb dL_failAt_20 hl (by decide) rfl (fun ls hl => ?_)
    refine lv_iconst (v := 1) hx hb dL_failAt_22 (by decide) ?_
    exact zret_i F hr hlocks hK hP hD hS rfl dL_failAt_23

set_option maxHeartbeats 1000000 in
set_option maxRecDepth 100000 in
theorem xL_times1 (l : Launch) (D : va_G) (ad : Nat → Nat) (cy : Nat → ClassId) (ao : Nat) (co : ClassId) (sz : Nat) (n : Nat) (V : Nat → UInt64) (Z : Nat → Int32) (R : Nat → Int32) (K : Nat → Int32) (B : Nat → Int32) (M : Nat → Int32) (bc : Nat) (G : Int32) (L : Int32) (S : Int64) (q : Nat → Int32) (w : Int32) (U : Nat → Int32) (wk : Int64) (jo : UInt64) (xo : Nat → Int64)  (a1 : Int32) (hM : ∀ sz, mXi l yX2_times wsX2_times ({ frames := 7, cells := 1, slots := 6, locals := 104 }) [.ref (ad 0), .int a1] D (cT cy) (cW ad cy n V Z R K B M bc G L S q w U wk jo) sz eIO) : mH l yL_times wsL_times ({ frames := 9, cells := 1, slots := 6, locals := 200 }) [.ref (ad 0), .int a1, .ref ao] D (cT cy ++ oT co) (cW ad cy n V Z R K B M bc G L S q w U wk jo ++ oW ao co xo) sz 1 (cW ad cy n V Z R K B M bc G L S q w U wk jo ++ oW ao co xo) := by
  refine zinH (fun A => zQi D (cT cy ++ oT co) (cW ad cy n V Z R K B M bc G L S q w U wk jo ++ oW ao co xo) 1 A) (cc := cL_times) (maxL := 4) (ret := (some .int)) (own := RL) (by decide) rfl rfl (Nat.le_of_ble_eq_true rfl) ?_
  intro p e s m below meth c A F hr hlocks htab hA hK hxS hxH H locs hP hD hS ls hl
  obtain ⟨hx, hb, hml, hown, hts⟩ := id F
  have hl : lv_has ls 4 [(0, .ref (ad 0)), (1, .int a1), (2, .ref ao)] := hl
  have hKc : va_K D vwCl (cT cy) s := hK.sub [0, 1, 2, 3, 4, 5, 6, 7] rfl
  refine lv_aload_n hx hb dL_times_0 rfl (lv_at hl 2 rfl) ?_
  refine lv_iconst (v := nI 0) hx hb dL_times_1 (by decide) ?_
  refine lv_aload_n hx hb dL_times_2 rfl (lv_at hl 0 rfl) ?_
  refine lv_iload_n hx hb dL_times_3 rfl (lv_at hl 1 rfl) ?_
  refine x_catch (nm := eIO) (As := [.int a1]) (rest := [.int (nI 0), .ref ao]) F (hM _) (cwV 1 hts gL_times_X2_times rfl rfl rfl (by decide +kernel) ⟨Nat.le_of_ble_eq_true rfl, Nat.le_of_ble_eq_true rfl⟩) (va_recv hK hP (ci := 2) (q0 := 0) rfl rfl) hKc hxS hxH hP hD hS hA rfl hl.1 rfl (Nat.le_of_ble_eq_true rfl) dL_times_4 ⟨Nat.le_of_ble_eq_true rfl, Nat.le_of_ble_eq_true rfl⟩ [] ⟨0, 9, 12, 13⟩ [] (htab.trans rfl) (fun z hz => absurd hz List.not_mem_nil) (by decide) (by decide) (hts (.classLink RL 13 eIO) (by decide +kernel)) hxS.1.1.1 (fun q9 H locs hP hD hS => ?_)
  · refine lv_astore_n (lv' := [(3, .ref q9), (0, .ref (ad 0)), (1, .int a1), (2, .ref ao)]) hx hb dL_times_12 rfl hl (by decide) rfl (fun ls hl => ?_)
    refine lv_iconst (v := 1) hx hb dL_times_13 (by decide) ?_
    exact zret_i F hr hlocks hK hP hD hS rfl dL_times_14

set_option maxHeartbeats 1000000 in
set_option maxRecDepth 100000 in
theorem xL_stop1 (l : Launch) (D : va_G) (ad : Nat → Nat) (cy : Nat → ClassId) (ao : Nat) (co : ClassId) (sz : Nat) (n : Nat) (V : Nat → UInt64) (Z : Nat → Int32) (R : Nat → Int32) (K : Nat → Int32) (B : Nat → Int32) (M : Nat → Int32) (bc : Nat) (G : Int32) (L : Int32) (S : Int64) (q : Nat → Int32) (w : Int32) (U : Nat → Int32) (wk : Int64) (jo : UInt64) (xo : Nat → Int64)  (a1 : Int32) (hM : ∀ sz, mXi l yX2_stop wsX2_stop ({ frames := 7, cells := 1, slots := 6, locals := 104 }) [.ref (ad 0), .int a1] D (cT cy) (cW ad cy n V Z R K B M bc G L S q w U wk jo) sz eIO) : mH l yL_stop wsL_stop ({ frames := 9, cells := 1, slots := 6, locals := 200 }) [.ref (ad 0), .int a1, .ref ao] D (cT cy ++ oT co) (cW ad cy n V Z R K B M bc G L S q w U wk jo ++ oW ao co xo) sz 1 (cW ad cy n V Z R K B M bc G L S q w U wk jo ++ oW ao co xo) := by
  refine zinH (fun A => zQi D (cT cy ++ oT co) (cW ad cy n V Z R K B M bc G L S q w U wk jo ++ oW ao co xo) 1 A) (cc := cL_stop) (maxL := 4) (ret := (some .int)) (own := RL) (by decide) rfl rfl (Nat.le_of_ble_eq_true rfl) ?_
  intro p e s m below meth c A F hr hlocks htab hA hK hxS hxH H locs hP hD hS ls hl
  obtain ⟨hx, hb, hml, hown, hts⟩ := id F
  have hl : lv_has ls 4 [(0, .ref (ad 0)), (1, .int a1), (2, .ref ao)] := hl
  have hKc : va_K D vwCl (cT cy) s := hK.sub [0, 1, 2, 3, 4, 5, 6, 7] rfl
  refine lv_aload_n hx hb dL_stop_0 rfl (lv_at hl 2 rfl) ?_
  refine lv_iconst (v := nI 0) hx hb dL_stop_1 (by decide) ?_
  refine lv_aload_n hx hb dL_stop_2 rfl (lv_at hl 0 rfl) ?_
  refine lv_iload_n hx hb dL_stop_3 rfl (lv_at hl 1 rfl) ?_
  refine x_catch (nm := eIO) (As := [.int a1]) (rest := [.int (nI 0), .ref ao]) F (hM _) (cwV 1 hts gL_stop_X2_stop rfl rfl rfl (by decide +kernel) ⟨Nat.le_of_ble_eq_true rfl, Nat.le_of_ble_eq_true rfl⟩) (va_recv hK hP (ci := 2) (q0 := 0) rfl rfl) hKc hxS hxH hP hD hS hA rfl hl.1 rfl (Nat.le_of_ble_eq_true rfl) dL_stop_4 ⟨Nat.le_of_ble_eq_true rfl, Nat.le_of_ble_eq_true rfl⟩ [] ⟨0, 16, 19, 13⟩ [] (htab.trans rfl) (fun z hz => absurd hz List.not_mem_nil) (by decide) (by decide) (hts (.classLink RL 13 eIO) (by decide +kernel)) hxS.1.1.1 (fun q9 H locs hP hD hS => ?_)
  · refine lv_astore_n (lv' := [(3, .ref q9), (0, .ref (ad 0)), (1, .int a1), (2, .ref ao)]) hx hb dL_stop_19 rfl hl (by decide) rfl (fun ls hl => ?_)
    refine lv_iconst (v := 1) hx hb dL_stop_20 (by decide) ?_
    exact zret_i F hr hlocks hK hP hD hS rfl dL_stop_21

set_option maxHeartbeats 1000000 in
set_option maxRecDepth 100000 in
theorem xL_run1 (l : Launch) (D : va_G) (ad : Nat → Nat) (cy : Nat → ClassId) (ao : Nat) (co : ClassId) (sz : Nat) (n : Nat) (V : Nat → UInt64) (Z : Nat → Int32) (R : Nat → Int32) (K : Nat → Int32) (B : Nat → Int32) (M : Nat → Int32) (bc : Nat) (G : Int32) (L : Int32) (S : Int64) (q : Nat → Int32) (w : Int32) (U : Nat → Int32) (wk : Int64) (jo : UInt64) (xo : Nat → Int64)  (a1 : Int32) (a2 : Int64) (hM : ∀ sz, mXi l yX2_run wsX2_run ({ frames := 7, cells := 1, slots := 6, locals := 104 }) [.ref (ad 0), .int a1, .long a2] D (cT cy) (cW ad cy n V Z R K B M bc G L S q w U wk jo) sz eIA) : mH l yL_run wsL_run ({ frames := 9, cells := 1, slots := 6, locals := 200 }) [.ref (ad 0), .int a1, .long a2, .ref ao] D (cT cy ++ oT co) (cW ad cy n V Z R K B M bc G L S q w U wk jo ++ oW ao co xo) sz 1 (cW ad cy n V Z R K B M bc G L S q w U wk jo ++ oW ao co xo) := by
  refine zinH (fun A => zQi D (cT cy ++ oT co) (cW ad cy n V Z R K B M bc G L S q w U wk jo ++ oW ao co xo) 1 A) (cc := cL_run) (maxL := 6) (ret := (some .int)) (own := RL) (by decide) rfl rfl (Nat.le_of_ble_eq_true rfl) ?_
  intro p e s m below meth c A F hr hlocks htab hA hK hxS hxH H locs hP hD hS ls hl
  obtain ⟨hx, hb, hml, hown, hts⟩ := id F
  have hl : lv_has ls 6 [(0, .ref (ad 0)), (1, .int a1), (2, .long a2), (4, .ref ao)] := hl
  have hKc : va_K D vwCl (cT cy) s := hK.sub [0, 1, 2, 3, 4, 5, 6, 7] rfl
  refine lv_aload hx hb dL_run_0 (lv_at hl 3 rfl) ?_
  refine lv_iconst (v := nI 0) hx hb dL_run_2 (by decide) ?_
  refine lv_aload_n hx hb dL_run_3 rfl (lv_at hl 0 rfl) ?_
  refine lv_iload_n hx hb dL_run_4 rfl (lv_at hl 1 rfl) ?_
  refine lv_lload_n hx hb dL_run_5 rfl (lv_at hl 2 rfl) ?_
  refine x_catch (nm := eIA) (As := [.int a1, .long a2]) (rest := [.int (nI 0), .ref ao]) F (hM _) (cwV 2 hts gL_run_X2_run rfl rfl rfl (by decide +kernel) ⟨Nat.le_of_ble_eq_true rfl, Nat.le_of_ble_eq_true rfl⟩) (va_recv hK hP (ci := 2) (q0 := 0) rfl rfl) hKc hxS hxH hP hD hS hA rfl hl.1 rfl (Nat.le_of_ble_eq_true rfl) dL_run_6 ⟨Nat.le_of_ble_eq_true rfl, Nat.le_of_ble_eq_true rfl⟩ [] ⟨0, 11, 14, 15⟩ [] (htab.trans rfl) (fun z hz => absurd hz List.not_mem_nil) (by decide) (by decide) (hts (.classLink RL 15 eIA) (by decide +kernel)) hxS.1.1.2.1 (fun q9 H locs hP hD hS => ?_)
  · refine lv_astore (lv' := [(5, .ref q9), (0, .ref (ad 0)), (1, .int a1), (2, .long a2), (4, .ref ao)]) hx hb dL_run_14 hl (by decide) rfl (fun ls hl => ?_)
    refine lv_iconst (v := 1) hx hb dL_run_16 (by decide) ?_
    exact zret_i F hr hlocks hK hP hD hS rfl dL_run_17

set_option maxHeartbeats 1000000 in
set_option maxRecDepth 100000 in
theorem xL_act1 (l : Launch) (D : va_G) (ad : Nat → Nat) (cy : Nat → ClassId) (ao : Nat) (co : ClassId) (sz : Nat) (n : Nat) (V : Nat → UInt64) (Z : Nat → Int32) (R : Nat → Int32) (K : Nat → Int32) (B : Nat → Int32) (M : Nat → Int32) (bc : Nat) (G : Int32) (L : Int32) (S : Int64) (q : Nat → Int32) (w : Int32) (U : Nat → Int32) (wk : Int64) (jo : UInt64) (xo : Nat → Int64)  (a1 : Int32) (hM : ∀ sz, mXi l yX2_act wsX2_act ({ frames := 7, cells := 1, slots := 6, locals := 104 }) [.ref (ad 0), .int a1] D (cT cy) (cW ad cy n V Z R K B M bc G L S q w U wk jo) sz eIA) : mH l yL_act wsL_act ({ frames := 9, cells := 1, slots := 6, locals := 200 }) [.ref (ad 0), .int a1, .ref ao] D (cT cy ++ oT co) (cW ad cy n V Z R K B M bc G L S q w U wk jo ++ oW ao co xo) sz 1 (cW ad cy n V Z R K B M bc G L S q w U wk jo ++ oW ao co xo) := by
  refine zinH (fun A => zQi D (cT cy ++ oT co) (cW ad cy n V Z R K B M bc G L S q w U wk jo ++ oW ao co xo) 1 A) (cc := cL_act) (maxL := 4) (ret := (some .int)) (own := RL) (by decide) rfl rfl (Nat.le_of_ble_eq_true rfl) ?_
  intro p e s m below meth c A F hr hlocks htab hA hK hxS hxH H locs hP hD hS ls hl
  obtain ⟨hx, hb, hml, hown, hts⟩ := id F
  have hl : lv_has ls 4 [(0, .ref (ad 0)), (1, .int a1), (2, .ref ao)] := hl
  have hKc : va_K D vwCl (cT cy) s := hK.sub [0, 1, 2, 3, 4, 5, 6, 7] rfl
  refine lv_aload_n hx hb dL_act_0 rfl (lv_at hl 2 rfl) ?_
  refine lv_iconst (v := nI 0) hx hb dL_act_1 (by decide) ?_
  refine lv_aload_n hx hb dL_act_2 rfl (lv_at hl 0 rfl) ?_
  refine lv_iload_n hx hb dL_act_3 rfl (lv_at hl 1 rfl) ?_
  refine x_catch (nm := eIA) (As := [.int a1]) (rest := [.int (nI 0), .ref ao]) F (hM _) (cwV 1 hts gL_act_X2_act rfl rfl rfl (by decide +kernel) ⟨Nat.le_of_ble_eq_true rfl, Nat.le_of_ble_eq_true rfl⟩) (va_recv hK hP (ci := 2) (q0 := 0) rfl rfl) hKc hxS hxH hP hD hS hA rfl hl.1 rfl (Nat.le_of_ble_eq_true rfl) dL_act_4 ⟨Nat.le_of_ble_eq_true rfl, Nat.le_of_ble_eq_true rfl⟩ [] ⟨0, 9, 12, 15⟩ [] (htab.trans rfl) (fun z hz => absurd hz List.not_mem_nil) (by decide) (by decide) (hts (.classLink RL 15 eIA) (by decide +kernel)) hxS.1.1.2.1 (fun q9 H locs hP hD hS => ?_)
  · refine lv_astore_n (lv' := [(3, .ref q9), (0, .ref (ad 0)), (1, .int a1), (2, .ref ao)]) hx hb dL_act_12 rfl hl (by decide) rfl (fun ls hl => ?_)
    refine lv_iconst (v := 1) hx hb dL_act_13 (by decide) ?_
    exact zret_i F hr hlocks hK hP hD hS rfl dL_act_14
