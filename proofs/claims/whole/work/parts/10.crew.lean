set_option maxHeartbeats 4000000 in
set_option maxRecDepth 100000 in
theorem kJ6_bc (l : Launch) (D : va_G) (tys : zTy) (ws : va_W) (sz : Nat) (x : Int32) : mI l yJ6_bitCount_0f7a4 wsJ6_bitCount_0f7a4 ({ frames := 0, cells := 0, slots := 0, locals := 0 }) [.int x] D tys ws sz (pBC x) ws 0 0 := by
  refine zin (fun A => zQi D tys ws (pBC x) A) (cc := cJ6_bitCount_0f7a4) (maxL := 1) (ret := (some .int)) (own := RJ6) (by decide) rfl rfl (Nat.le_of_ble_eq_true rfl) ?_
  intro p e s m below meth c A F hr hlocks hmn hA hK H locs hP hD hS ls hl
  obtain ⟨hx, hb, hml, hown, hts⟩ := id F
  have hl : lv_has ls 1 [(0, .int x)] := hl
  refine lv_iload_n hx hb dJ6_bitCount_0f7a4_0 rfl (lv_at hl 0 rfl) ?_
  refine lv_iload_n hx hb dJ6_bitCount_0f7a4_1 rfl (lv_at hl 0 rfl) ?_
  refine lv_iconst (v := 1) hx hb dJ6_bitCount_0f7a4_2 (by decide) ?_
  refine lv_iushr (v := us x 1) hx hb dJ6_bitCount_0f7a4_3 rfl ?_
  refine lv_ldcw hx hb hown (hts (.constant RJ6 265 (1431655765)) (by decide +kernel)) dJ6_bitCount_0f7a4_4 ?_
  refine lv_iand hx hb dJ6_bitCount_0f7a4_7 ?_
  refine lv_isub hx hb dJ6_bitCount_0f7a4_8 ?_
  refine z_topi (y := pB1 x) rfl ?_
  refine lv_istore_n (lv' := [(0, .int (pB1 x))]) hx hb dJ6_bitCount_0f7a4_9 rfl hl (by decide) rfl (fun ls hl => ?_)
  refine lv_iload_n hx hb dJ6_bitCount_0f7a4_10 rfl (lv_at hl 0 rfl) ?_
  refine lv_ldcw hx hb hown (hts (.constant RJ6 266 (858993459)) (by decide +kernel)) dJ6_bitCount_0f7a4_11 ?_
  refine lv_iand hx hb dJ6_bitCount_0f7a4_14 ?_
  refine lv_iload_n hx hb dJ6_bitCount_0f7a4_15 rfl (lv_at hl 0 rfl) ?_
  refine lv_iconst (v := 2) hx hb dJ6_bitCount_0f7a4_16 (by decide) ?_
  refine lv_iushr (v := us (pB1 x) 2) hx hb dJ6_bitCount_0f7a4_17 rfl ?_
  refine lv_ldcw hx hb hown (hts (.constant RJ6 266 (858993459)) (by decide +kernel)) dJ6_bitCount_0f7a4_18 ?_
  refine lv_iand hx hb dJ6_bitCount_0f7a4_21 ?_
  refine lv_iadd hx hb dJ6_bitCount_0f7a4_22 ?_
  refine z_topi (y := pB2 (pB1 x)) rfl ?_
  refine lv_istore_n (lv' := [(0, .int (pB2 (pB1 x)))]) hx hb dJ6_bitCount_0f7a4_23 rfl hl (by decide) rfl (fun ls hl => ?_)
  refine lv_iload_n hx hb dJ6_bitCount_0f7a4_24 rfl (lv_at hl 0 rfl) ?_
  refine lv_iload_n hx hb dJ6_bitCount_0f7a4_25 rfl (lv_at hl 0 rfl) ?_
  refine lv_iconst (v := 4) hx hb dJ6_bitCount_0f7a4_26 (by decide) ?_
  refine lv_iushr (v := us (pB2 (pB1 x)) 4) hx hb dJ6_bitCount_0f7a4_27 rfl ?_
  refine lv_iadd hx hb dJ6_bitCount_0f7a4_28 ?_
  refine lv_ldcw hx hb hown (hts (.constant RJ6 267 (252645135)) (by decide +kernel)) dJ6_bitCount_0f7a4_29 ?_
  refine lv_iand hx hb dJ6_bitCount_0f7a4_32 ?_
  refine z_topi (y := pB3 (pB2 (pB1 x))) rfl ?_
  refine lv_istore_n (lv' := [(0, .int (pB3 (pB2 (pB1 x))))]) hx hb dJ6_bitCount_0f7a4_33 rfl hl (by decide) rfl (fun ls hl => ?_)
  refine lv_iload_n hx hb dJ6_bitCount_0f7a4_34 rfl (lv_at hl 0 rfl) ?_
  refine lv_iload_n hx hb dJ6_bitCount_0f7a4_35 rfl (lv_at hl 0 rfl) ?_
  refine lv_bipush (v := 8) hx hb dJ6_bitCount_0f7a4_36 (by decide) ?_
  refine lv_iushr (v := us (pB3 (pB2 (pB1 x))) 8) hx hb dJ6_bitCount_0f7a4_38 rfl ?_
  refine lv_iadd hx hb dJ6_bitCount_0f7a4_39 ?_
  refine z_topi (y := pB4 (pB3 (pB2 (pB1 x)))) rfl ?_
  refine lv_istore_n (lv' := [(0, .int (pB4 (pB3 (pB2 (pB1 x)))))]) hx hb dJ6_bitCount_0f7a4_40 rfl hl (by decide) rfl (fun ls hl => ?_)
  refine lv_iload_n hx hb dJ6_bitCount_0f7a4_41 rfl (lv_at hl 0 rfl) ?_
  refine lv_iload_n hx hb dJ6_bitCount_0f7a4_42 rfl (lv_at hl 0 rfl) ?_
  refine lv_bipush (v := 16) hx hb dJ6_bitCount_0f7a4_43 (by decide) ?_
  refine lv_iushr (v := us (pB4 (pB3 (pB2 (pB1 x)))) 16) hx hb dJ6_bitCount_0f7a4_45 rfl ?_
  refine lv_iadd hx hb dJ6_bitCount_0f7a4_46 ?_
  refine z_topi (y := pB5 (pB4 (pB3 (pB2 (pB1 x))))) rfl ?_
  refine lv_istore_n (lv' := [(0, .int (pB5 (pB4 (pB3 (pB2 (pB1 x))))))]) hx hb dJ6_bitCount_0f7a4_47 rfl hl (by decide) rfl (fun ls hl => ?_)
  refine lv_iload_n hx hb dJ6_bitCount_0f7a4_48 rfl (lv_at hl 0 rfl) ?_
  refine lv_bipush (v := 63) hx hb dJ6_bitCount_0f7a4_49 (by decide) ?_
  refine lv_iand hx hb dJ6_bitCount_0f7a4_51 ?_
  exact zret_i F hr hlocks hK hP hD hS rfl dJ6_bitCount_0f7a4_52

set_option maxHeartbeats 4000000 in
set_option maxRecDepth 100000 in
theorem kX0_gather (l : Launch) (D : va_G) (ad : Nat → Nat) (cy : Nat → ClassId) (sz : Nat) (n : Nat) (V : Nat → UInt64) (Z : Nat → Int32) (R : Nat → Int32) (K : Nat → Int32) (B : Nat → Int32) (M : Nat → Int32) (bc : Nat) (G : Int32) (L : Int32) (S : Int64) (q : Nat → Int32) (w : Int32) (U : Nat → Int32) (wk : Int64) (jo : UInt64) (ws : Int32) (sd : Int64) : mV l yX0_gather wsX0_gather ({ frames := 0, cells := 0, slots := 0, locals := 0 }) [.ref (ad 7), .int ws, .long sd] D (cT cy) (cW ad cy n V Z R K B M bc G L S q w U wk jo) sz (cW ad cy n V Z R K B M bc ws (pBit ws - 1) sd q w U wk jo) 0 0 := by
  refine zin (fun A => zQv D (cT cy) (cW ad cy n V Z R K B M bc ws (pBit ws - 1) sd q w U wk jo) A) (cc := cX0_gather) (maxL := 4) (ret := none) (own := RX0) (by decide) rfl rfl (Nat.le_of_ble_eq_true rfl) ?_
  intro p e s m below meth c A F hr hlocks hmn hA hK H locs hP hD hS ls hl
  obtain ⟨hx, hb, hml, hown, hts⟩ := id F
  have hl : lv_has ls 4 [(0, .ref (ad 7)), (1, .int ws), (2, .long sd)] := hl
  have hinX0 : ∀ w ∈ wsX00, w ∈ wsX0_gather := by decide +kernel
  have hf_9 := hts (.fieldLink RX0 9 "RegionShares$Crew" "gathered" "I") (by decide +kernel)
  have hf_15 := hts (.fieldLink RX0 15 "RegionShares$Crew" "liveBits" "I") (by decide +kernel)
  have hf_18 := hts (.fieldLink RX0 18 "RegionShares$Crew" "drawState" "J") (by decide +kernel)
  refine lv_aload_n hx hb dX0_gather_0 rfl (lv_at hl 0 rfl) ?_
  refine lv_iload_n hx hb dX0_gather_1 rfl (lv_at hl 1 rfl) ?_
  refine va_put (D := D) (ci := 0) (v := .int ws) (ty := .int) (C := RX0) (T := TX0) (N := 3) hx hb hts hinX0 tyX0 tyX0_ok nmX0 hown hK hP hD hS 7 rfl rfl 0 (by decide) hf_9 (fun _ h9 => h9) rfl (by decide +kernel) rfl rfl (Nat.le_of_ble_eq_true rfl) dX0_gather_2 (fun H locs hP hD hS => ?_)
  have hP : va_P D vwCl (cW ad cy n V Z R K B M bc ws L S q w U wk jo) H := hP
  have hD : va_D A (cW ad cy n V Z R K B M bc ws L S q w U wk jo) := hD
  refine lv_aload_n hx hb dX0_gather_5 rfl (lv_at hl 0 rfl) ?_
  refine lv_iconst (v := 1) hx hb dX0_gather_6 (by decide) ?_
  refine lv_iload_n hx hb dX0_gather_7 rfl (lv_at hl 1 rfl) ?_
  refine lv_ishl hx hb dX0_gather_8 ?_
  refine z_topi (y := pBit ws) rfl ?_
  refine lv_iconst (v := 1) hx hb dX0_gather_9 (by decide) ?_
  refine lv_isub hx hb dX0_gather_10 ?_
  refine va_put (D := D) (ci := 0) (v := .int ((pBit ws) - 1)) (ty := .int) (C := RX0) (T := TX0) (N := 3) hx hb hts hinX0 tyX0 tyX0_ok nmX0 hown hK hP hD hS 7 rfl rfl 1 (by decide) hf_15 (fun _ h9 => h9) rfl (by decide +kernel) rfl rfl (Nat.le_of_ble_eq_true rfl) dX0_gather_11 (fun H locs hP hD hS => ?_)
  have hP : va_P D vwCl (cW ad cy n V Z R K B M bc ws ((pBit ws) - 1) S q w U wk jo) H := hP
  have hD : va_D A (cW ad cy n V Z R K B M bc ws ((pBit ws) - 1) S q w U wk jo) := hD
  refine lv_aload_n hx hb dX0_gather_14 rfl (lv_at hl 0 rfl) ?_
  refine lv_lload_n hx hb dX0_gather_15 rfl (lv_at hl 2 rfl) ?_
  refine va_put (D := D) (ci := 0) (v := .long sd) (ty := .long) (C := RX0) (T := TX0) (N := 3) hx hb hts hinX0 tyX0 tyX0_ok nmX0 hown hK hP hD hS 7 rfl rfl 2 (by decide) hf_18 (fun _ h9 => h9) rfl (by decide +kernel) rfl rfl (Nat.le_of_ble_eq_true rfl) dX0_gather_16 (fun H locs hP hD hS => ?_)
  have hP : va_P D vwCl (cW ad cy n V Z R K B M bc ws ((pBit ws) - 1) sd q w U wk jo) H := hP
  have hD : va_D A (cW ad cy n V Z R K B M bc ws ((pBit ws) - 1) sd q w U wk jo) := hD
  exact zret_v F hr hlocks hK hP hD hS dX0_gather_19

set_option maxHeartbeats 4000000 in
set_option maxRecDepth 100000 in
theorem kX0_dismiss (l : Launch) (D : va_G) (ad : Nat → Nat) (cy : Nat → ClassId) (sz : Nat) (n : Nat) (V : Nat → UInt64) (Z : Nat → Int32) (R : Nat → Int32) (K : Nat → Int32) (B : Nat → Int32) (M : Nat → Int32) (bc : Nat) (G : Int32) (L : Int32) (S : Int64) (q : Nat → Int32) (w : Int32) (U : Nat → Int32) (wk : Int64) (jo : UInt64) (wr : Int32) : mV l yX0_dismiss wsX0_dismiss ({ frames := 0, cells := 0, slots := 0, locals := 0 }) [.ref (ad 7), .int wr] D (cT cy) (cW ad cy n V Z R K B M bc G L S q w U wk jo) sz (cW ad cy n V Z R K B M bc G (L &&& (pBit wr ^^^ (-1))) S q w U wk jo) 0 0 := by
  refine zin (fun A => zQv D (cT cy) (cW ad cy n V Z R K B M bc G (L &&& (pBit wr ^^^ (-1))) S q w U wk jo) A) (cc := cX0_dismiss) (maxL := 2) (ret := none) (own := RX0) (by decide) rfl rfl (Nat.le_of_ble_eq_true rfl) ?_
  intro p e s m below meth c A F hr hlocks hmn hA hK H locs hP hD hS ls hl
  obtain ⟨hx, hb, hml, hown, hts⟩ := id F
  have hl : lv_has ls 2 [(0, .ref (ad 7)), (1, .int wr)] := hl
  have hinX0 : ∀ w ∈ wsX00, w ∈ wsX0_dismiss := by decide +kernel
  have hf_15 := hts (.fieldLink RX0 15 "RegionShares$Crew" "liveBits" "I") (by decide +kernel)
  refine lv_aload_n hx hb dX0_dismiss_0 rfl (lv_at hl 0 rfl) ?_
  refine lv_dup hx hb dX0_dismiss_1 rfl ?_
  refine va_get (D := D) (ci := 0) (v := .int L) (C := RX0) (T := TX0) (N := 3) hx hb hts hinX0 hown hK hP 7 rfl rfl 1 (by decide) hf_15 (fun _ h9 => h9) rfl dX0_dismiss_2 ?_
  refine lv_iconst (v := 1) hx hb dX0_dismiss_5 (by decide) ?_
  refine lv_iload_n hx hb dX0_dismiss_6 rfl (lv_at hl 1 rfl) ?_
  refine lv_ishl hx hb dX0_dismiss_7 ?_
  refine z_topi (y := pBit wr) rfl ?_
  refine lv_iconst (v := (-1)) hx hb dX0_dismiss_8 (by decide) ?_
  refine lv_ixor hx hb dX0_dismiss_9 ?_
  refine lv_iand hx hb dX0_dismiss_10 ?_
  refine va_put (D := D) (ci := 0) (v := .int (L &&& ((pBit wr) ^^^ (-1)))) (ty := .int) (C := RX0) (T := TX0) (N := 3) hx hb hts hinX0 tyX0 tyX0_ok nmX0 hown hK hP hD hS 7 rfl rfl 1 (by decide) hf_15 (fun _ h9 => h9) rfl (by decide +kernel) rfl rfl (Nat.le_of_ble_eq_true rfl) dX0_dismiss_11 (fun H locs hP hD hS => ?_)
  have hP : va_P D vwCl (cW ad cy n V Z R K B M bc G (L &&& ((pBit wr) ^^^ (-1))) S q w U wk jo) H := hP
  have hD : va_D A (cW ad cy n V Z R K B M bc G (L &&& ((pBit wr) ^^^ (-1))) S q w U wk jo) := hD
  exact zret_v F hr hlocks hK hP hD hS dX0_dismiss_14

set_option maxHeartbeats 4000000 in
set_option maxRecDepth 100000 in
theorem kX0_liveCount (l : Launch) (D : va_G) (ad : Nat → Nat) (cy : Nat → ClassId) (sz : Nat) (n : Nat) (V : Nat → UInt64) (Z : Nat → Int32) (R : Nat → Int32) (K : Nat → Int32) (B : Nat → Int32) (M : Nat → Int32) (bc : Nat) (G : Int32) (L : Int32) (S : Int64) (q : Nat → Int32) (w : Int32) (U : Nat → Int32) (wk : Int64) (jo : UInt64)  : mI l yX0_liveCount wsX0_liveCount ({ frames := 1, cells := 0, slots := 0, locals := 20 }) [.ref (ad 7)] D (cT cy) (cW ad cy n V Z R K B M bc G L S q w U wk jo) sz (pBC L) (cW ad cy n V Z R K B M bc G L S q w U wk jo) 0 0 := by
  refine zin (fun A => zQi D (cT cy) (cW ad cy n V Z R K B M bc G L S q w U wk jo) (pBC L) A) (cc := cX0_liveCount) (maxL := 1) (ret := (some .int)) (own := RX0) (by decide) rfl rfl (Nat.le_of_ble_eq_true rfl) ?_
  intro p e s m below meth c A F hr hlocks hmn hA hK H locs hP hD hS ls hl
  obtain ⟨hx, hb, hml, hown, hts⟩ := id F
  have hl : lv_has ls 1 [(0, .ref (ad 7))] := hl
  have hinX0 : ∀ w ∈ wsX00, w ∈ wsX0_liveCount := by decide +kernel
  have hf_15 := hts (.fieldLink RX0 15 "RegionShares$Crew" "liveBits" "I") (by decide +kernel)
  refine lv_aload_n hx hb dX0_liveCount_0 rfl (lv_at hl 0 rfl) ?_
  refine va_get (D := D) (ci := 0) (v := .int L) (C := RX0) (T := TX0) (N := 3) hx hb hts hinX0 hown hK hP 7 rfl rfl 1 (by decide) hf_15 (fun _ h9 => h9) rfl dX0_liveCount_1 ?_
  refine zcS_i (As := [.int L]) (rest := []) F (kJ6_bc l D (cT cy) _ _ L) (va_cwS 1 hts gX0_liveCount_J6_bitCount_0f7a4 rfl rfl rfl (by decide +kernel) ⟨Nat.le_of_ble_eq_true rfl, Nat.le_of_ble_eq_true rfl⟩) hK hP hD hS hA rfl hl.1 rfl (Nat.le_of_ble_eq_true rfl) dX0_liveCount_4 ⟨Nat.le_of_ble_eq_true rfl, Nat.le_of_ble_eq_true rfl⟩ (fun H locs hP hD hS => ?_)
  exact zret_i F hr hlocks hK hP hD hS rfl dX0_liveCount_7

set_option maxHeartbeats 4000000 in
set_option maxRecDepth 100000 in
theorem kX0_brokenCount (l : Launch) (D : va_G) (ad : Nat → Nat) (cy : Nat → ClassId) (sz : Nat) (n : Nat) (V : Nat → UInt64) (Z : Nat → Int32) (R : Nat → Int32) (K : Nat → Int32) (B : Nat → Int32) (M : Nat → Int32) (bc : Nat) (G : Int32) (L : Int32) (S : Int64) (q : Nat → Int32) (w : Int32) (U : Nat → Int32) (wk : Int64) (jo : UInt64)  : mI l yX0_brokenCount wsX0_brokenCount ({ frames := 2, cells := 0, slots := 0, locals := 40 }) [.ref (ad 7)] D (cT cy) (cW ad cy n V Z R K B M bc G L S q w U wk jo) sz (G - pBC L) (cW ad cy n V Z R K B M bc G L S q w U wk jo) 0 0 := by
  refine zin (fun A => zQi D (cT cy) (cW ad cy n V Z R K B M bc G L S q w U wk jo) (G - pBC L) A) (cc := cX0_brokenCount) (maxL := 1) (ret := (some .int)) (own := RX0) (by decide) rfl rfl (Nat.le_of_ble_eq_true rfl) ?_
  intro p e s m below meth c A F hr hlocks hmn hA hK H locs hP hD hS ls hl
  obtain ⟨hx, hb, hml, hown, hts⟩ := id F
  have hl : lv_has ls 1 [(0, .ref (ad 7))] := hl
  have hinX0 : ∀ w ∈ wsX00, w ∈ wsX0_brokenCount := by decide +kernel
  have hf_9 := hts (.fieldLink RX0 9 "RegionShares$Crew" "gathered" "I") (by decide +kernel)
  refine lv_aload_n hx hb dX0_brokenCount_0 rfl (lv_at hl 0 rfl) ?_
  refine va_get (D := D) (ci := 0) (v := .int G) (C := RX0) (T := TX0) (N := 3) hx hb hts hinX0 hown hK hP 7 rfl rfl 0 (by decide) hf_9 (fun _ h9 => h9) rfl dX0_brokenCount_1 ?_
  refine lv_aload_n hx hb dX0_brokenCount_4 rfl (lv_at hl 0 rfl) ?_
  refine zcV_i (As := []) (rest := [.int G]) F (kX0_liveCount l D ad cy _ n V Z R K B M bc G L S q w U wk jo) (cwV 0 hts gX0_brokenCount_X0_liveCount rfl rfl rfl (by decide +kernel) ⟨Nat.le_of_ble_eq_true rfl, Nat.le_of_ble_eq_true rfl⟩) (va_recv hK hP (ci := 0) (q0 := 7) rfl rfl) hK hP hD hS hA rfl hl.1 rfl (Nat.le_of_ble_eq_true rfl) dX0_brokenCount_5 ⟨Nat.le_of_ble_eq_true rfl, Nat.le_of_ble_eq_true rfl⟩ (fun H locs hP hD hS => ?_)
  refine lv_isub hx hb dX0_brokenCount_8 ?_
  exact zret_i F hr hlocks hK hP hD hS rfl dX0_brokenCount_9

set_option maxHeartbeats 4000000 in
set_option maxRecDepth 100000 in
theorem lp_liveWorker {p : Program} {l : Launch} {e : Env} {s : State} {m : MethodId} {args : Array Value} {below : List Frame} {meth : Method} {c : Code} {A : Nat → Prop} {D : va_G} {ad : Nat → Nat} {cy : Nat → ClassId} (F : CallFix p m c cX0_liveWorker 4 s args wsX0_liveWorker RX0) (hr : meth.sig.returnType = (some .int)) (hlocks : meth.locks = false) (hA : ∀ q, s.heap.size ≤ q → A q) (hK : va_K D vwCl (cT cy) s) (n : Nat) (V : Nat → UInt64) (Z : Nat → Int32) (R : Nat → Int32) (K : Nat → Int32) (B : Nat → Int32) (M : Nat → Int32) (bc : Nat) (G : Int32) (L : Int32) (S : Int64) (q : Nat → Int32) (w : Int32) (U : Nat → Int32) (wk : Int64) (jo : UInt64)  : ∀ (k : Nat) (w9 : Nat) (a : Int32) (a0 : Int32), w9 + k = 16 → ∀ (H : Heap) (locs : List Loc), va_P D vwCl (cW ad cy n V Z R K B M bc G L S q w U wk jo) H → va_D A (cW ad cy n V Z R K B M bc G L S q w U wk jo) → va_S A s.heap H locs → ∀ ls : Array Slot, lv_has ls 4 [(3, .int (nI w9)), (2, .int a), (0, .ref (ad 7)), (1, .int a0)] → W p l e ({ frames := 0, cells := 0, slots := 0, locals := 0 }) s m args below meth c H locs 0 0 (MQ below (zQi D (cT cy) (cW ad cy n V Z R K B M bc G L S q w U wk jo) (pLwF L (16 - w9) w9 a) A) args s 0 0 A) (F0 m 4 ls []) := by
  obtain ⟨hx, hb, hml, hown, hts⟩ := id F
  have hinX0 : ∀ w ∈ wsX00, w ∈ wsX0_liveWorker := by decide +kernel
  have hf_15 := hts (.fieldLink RX0 15 "RegionShares$Crew" "liveBits" "I") (by decide +kernel)
  intro k
  induction k with
  | zero =>
    intro w9 a a0 hk 
    intro H locs hP hD hS ls hl
    refine lv_iload_n hx hb dX0_liveWorker_4 rfl (lv_at hl 0 rfl) ?_
    refine lv_bipush (v := nI 16) hx hb dX0_liveWorker_5 (by decide) ?_
    refine zb_ge (a := w9) (b := 16) (tgt := 36) hx hb dX0_liveWorker_7 (by decide) (by omega) (by omega) (fun c7 => ?_) (fun c7 => ?_)
    · refine lv_iconst (v := (-1)) hx hb dX0_liveWorker_36 (by decide) ?_
      exact zret_i F hr hlocks hK hP hD hS (by rw [show 16 - w9 = 0 by omega]; rfl) dX0_liveWorker_37
    · exact absurd c7 (by omega)
  | succ k ih =>
    intro w9 a a0 hk  H locs hP hD hS ls hl
    refine lv_iload_n hx hb dX0_liveWorker_4 rfl (lv_at hl 0 rfl) ?_
    refine lv_bipush (v := nI 16) hx hb dX0_liveWorker_5 (by decide) ?_
    refine zb_ge (a := w9) (b := 16) (tgt := 36) hx hb dX0_liveWorker_7 (by decide) (by omega) (by omega) (fun c7 => ?_) (fun c7 => ?_)
    · exact absurd c7 (by omega)
    · refine lv_aload_n hx hb dX0_liveWorker_10 rfl (lv_at hl 2 rfl) ?_
      refine va_get (D := D) (ci := 0) (v := .int L) (C := RX0) (T := TX0) (N := 3) hx hb hts hinX0 hown hK hP 7 rfl rfl 1 (by decide) hf_15 (fun _ h9 => h9) rfl dX0_liveWorker_11 ?_
      refine lv_iconst (v := 1) hx hb dX0_liveWorker_14 (by decide) ?_
      refine lv_iload_n hx hb dX0_liveWorker_15 rfl (lv_at hl 0 rfl) ?_
      refine lv_ishl hx hb dX0_liveWorker_16 ?_
      refine z_topi (y := pBit (nI w9)) rfl ?_
      refine lv_iand hx hb dX0_liveWorker_17 ?_
      refine lv_if_eq (tgt := 30) hx hb dX0_liveWorker_18 (by decide) (fun c18 => ?_) (fun c18 => ?_)
      · refine lv_iinc (v := nI (w9 + 1)) (lv' := [(3, .int (nI (w9 + 1))), (2, .int a), (0, .ref (ad 7)), (1, .int a0)]) hx hb dX0_liveWorker_30 hl (k := 0) rfl (by exact nI_1 _) (by decide) rfl (fun ls hl => ?_)
        refine lv_goto (tgt := 4) hx hb dX0_liveWorker_33 (by decide) ?_
        rw [show 16 - w9 = (16 - (w9 + 1)) + 1 by omega]
        unfold pLwF
        first | rw [if_pos c18] | rw [if_neg c18, if_neg c22]
        exact ih (w9 + 1) _ a0 (by omega) H locs hP hD hS ls (lv_sub hl [0, 1, 2, 3] rfl)
      · refine lv_iload_n hx hb dX0_liveWorker_21 rfl (lv_at hl 1 rfl) ?_
        refine lv_if_ne (tgt := 27) hx hb dX0_liveWorker_22 (by decide) (fun c22 => ?_) (fun c22 => ?_)
        · refine lv_iinc (v := a + (-1)) (lv' := [(2, .int (a + (-1))), (3, .int (nI w9)), (0, .ref (ad 7)), (1, .int a0)]) hx hb dX0_liveWorker_27 hl (k := 1) rfl rfl (by decide) rfl (fun ls hl => ?_)
          refine lv_iinc (v := nI (w9 + 1)) (lv' := [(3, .int (nI (w9 + 1))), (2, .int (a + (-1))), (0, .ref (ad 7)), (1, .int a0)]) hx hb dX0_liveWorker_30 hl (k := 1) rfl (by exact nI_1 _) (by decide) rfl (fun ls hl => ?_)
          refine lv_goto (tgt := 4) hx hb dX0_liveWorker_33 (by decide) ?_
          rw [show 16 - w9 = (16 - (w9 + 1)) + 1 by omega]
          unfold pLwF
          first | rw [if_pos c18] | rw [if_neg c18, if_neg c22]
          exact ih (w9 + 1) _ a0 (by omega) H locs hP hD hS ls (lv_sub hl [0, 1, 2, 3] rfl)
        · refine lv_iload_n hx hb dX0_liveWorker_25 rfl (lv_at hl 0 rfl) ?_
          exact zret_i F hr hlocks hK hP hD hS (by rw [show 16 - w9 = (16 - (w9 + 1)) + 1 by omega]; unfold pLwF; rw [if_neg c18, if_pos (by simpa using c22)]) dX0_liveWorker_26

set_option maxHeartbeats 4000000 in
set_option maxRecDepth 100000 in
theorem kX0_liveWorker (l : Launch) (D : va_G) (ad : Nat → Nat) (cy : Nat → ClassId) (sz : Nat) (n : Nat) (V : Nat → UInt64) (Z : Nat → Int32) (R : Nat → Int32) (K : Nat → Int32) (B : Nat → Int32) (M : Nat → Int32) (bc : Nat) (G : Int32) (L : Int32) (S : Int64) (q : Nat → Int32) (w : Int32) (U : Nat → Int32) (wk : Int64) (jo : UInt64) (a : Int32) : mI l yX0_liveWorker wsX0_liveWorker ({ frames := 0, cells := 0, slots := 0, locals := 0 }) [.ref (ad 7), .int a] D (cT cy) (cW ad cy n V Z R K B M bc G L S q w U wk jo) sz (pLw L a) (cW ad cy n V Z R K B M bc G L S q w U wk jo) 0 0 := by
  refine zin (fun A => zQi D (cT cy) (cW ad cy n V Z R K B M bc G L S q w U wk jo) (pLw L a) A) (cc := cX0_liveWorker) (maxL := 4) (ret := (some .int)) (own := RX0) (by decide) rfl rfl (Nat.le_of_ble_eq_true rfl) ?_
  intro p e s m below meth c A F hr hlocks hmn hA hK H locs hP hD hS ls hl
  obtain ⟨hx, hb, hml, hown, hts⟩ := id F
  have hl : lv_has ls 4 [(0, .ref (ad 7)), (1, .int a)] := hl
  refine lv_iload_n hx hb dX0_liveWorker_0 rfl (lv_at hl 1 rfl) ?_
  refine lv_istore_n (lv' := [(2, .int a), (0, .ref (ad 7)), (1, .int a)]) hx hb dX0_liveWorker_1 rfl hl (by decide) rfl (fun ls hl => ?_)
  refine lv_iconst (v := nI 0) hx hb dX0_liveWorker_2 (by decide) ?_
  refine lv_istore_n (lv' := [(3, .int (nI 0)), (2, .int a), (0, .ref (ad 7)), (1, .int a)]) hx hb dX0_liveWorker_3 rfl hl (by decide) rfl (fun ls hl => ?_)
  exact lp_liveWorker F hr hlocks hA hK n V Z R K B M bc G L S q w U wk jo 16 0 a a rfl H locs hP hD hS ls (lv_sub hl [0, 1, 2, 3] rfl)

set_option maxHeartbeats 4000000 in
set_option maxRecDepth 100000 in
theorem kX0_draw0 (l : Launch) (D : va_G) (ad : Nat → Nat) (cy : Nat → ClassId) (sz : Nat) (n : Nat) (V : Nat → UInt64) (Z : Nat → Int32) (R : Nat → Int32) (K : Nat → Int32) (B : Nat → Int32) (M : Nat → Int32) (bc : Nat) (G : Int32) (L : Int32) (S : Int64) (q : Nat → Int32) (w : Int32) (U : Nat → Int32) (wk : Int64) (jo : UInt64)  (h0 : pBC L = 0) : mI l yX0_draw wsX0_draw ({ frames := 2, cells := 0, slots := 0, locals := 40 }) [.ref (ad 7)] D (cT cy) (cW ad cy n V Z R K B M bc G L S q w U wk jo) sz (-1) (cW ad cy n V Z R K B M bc G L S q w U wk jo) 0 0 := by
  refine zin (fun A => zQi D (cT cy) (cW ad cy n V Z R K B M bc G L S q w U wk jo) (-1) A) (cc := cX0_draw) (maxL := 2) (ret := (some .int)) (own := RX0) (by decide) rfl rfl (Nat.le_of_ble_eq_true rfl) ?_
  intro p e s m below meth c A F hr hlocks hmn hA hK H locs hP hD hS ls hl
  obtain ⟨hx, hb, hml, hown, hts⟩ := id F
  have hl : lv_has ls 2 [(0, .ref (ad 7))] := hl
  refine lv_aload_n hx hb dX0_draw_0 rfl (lv_at hl 0 rfl) ?_
  refine zcV_i (As := []) (rest := []) F (kX0_liveCount l D ad cy _ n V Z R K B M bc G L S q w U wk jo) (cwV 0 hts gX0_draw_X0_liveCount rfl rfl rfl (by decide +kernel) ⟨Nat.le_of_ble_eq_true rfl, Nat.le_of_ble_eq_true rfl⟩) (va_recv hK hP (ci := 0) (q0 := 7) rfl rfl) hK hP hD hS hA rfl hl.1 rfl (Nat.le_of_ble_eq_true rfl) dX0_draw_1 ⟨Nat.le_of_ble_eq_true rfl, Nat.le_of_ble_eq_true rfl⟩ (fun H locs hP hD hS => ?_)
  refine lv_istore_n (lv' := [(1, .int (pBC L)), (0, .ref (ad 7))]) hx hb dX0_draw_4 rfl hl (by decide) rfl (fun ls hl => ?_)
  refine lv_iload_n hx hb dX0_draw_5 rfl (lv_at hl 0 rfl) ?_
  refine lv_if_ne (tgt := 11) hx hb dX0_draw_6 (by decide) (fun c6 => ?_) (fun c6 => ?_)
  · exact absurd h0 c6
  · refine lv_iconst (v := (-1)) hx hb dX0_draw_9 (by decide) ?_
    exact zret_i F hr hlocks hK hP hD hS rfl dX0_draw_10

set_option maxHeartbeats 4000000 in
set_option maxRecDepth 100000 in
theorem kX0_draw1 (l : Launch) (D : va_G) (ad : Nat → Nat) (cy : Nat → ClassId) (sz : Nat) (n : Nat) (V : Nat → UInt64) (Z : Nat → Int32) (R : Nat → Int32) (K : Nat → Int32) (B : Nat → Int32) (M : Nat → Int32) (bc : Nat) (G : Int32) (L : Int32) (S : Int64) (q : Nat → Int32) (w : Int32) (U : Nat → Int32) (wk : Int64) (jo : UInt64)  (h0 : ¬ pBC L = 0) : mI l yX0_draw wsX0_draw ({ frames := 2, cells := 0, slots := 0, locals := 40 }) [.ref (ad 7)] D (cT cy) (cW ad cy n V Z R K B M bc G L S q w U wk jo) sz (pLw L (pIx (pNx S) (pBC L))) (cW ad cy n V Z R K B M bc G L (pNx S) q w U wk jo) 0 0 := by
  refine zin (fun A => zQi D (cT cy) (cW ad cy n V Z R K B M bc G L (pNx S) q w U wk jo) (pLw L (pIx (pNx S) (pBC L))) A) (cc := cX0_draw) (maxL := 2) (ret := (some .int)) (own := RX0) (by decide) rfl rfl (Nat.le_of_ble_eq_true rfl) ?_
  intro p e s m below meth c A F hr hlocks hmn hA hK H locs hP hD hS ls hl
  obtain ⟨hx, hb, hml, hown, hts⟩ := id F
  have hl : lv_has ls 2 [(0, .ref (ad 7))] := hl
  have hinX0 : ∀ w ∈ wsX00, w ∈ wsX0_draw := by decide +kernel
  have hf_18 := hts (.fieldLink RX0 18 "RegionShares$Crew" "drawState" "J") (by decide +kernel)
  refine lv_aload_n hx hb dX0_draw_0 rfl (lv_at hl 0 rfl) ?_
  refine zcV_i (As := []) (rest := []) F (kX0_liveCount l D ad cy _ n V Z R K B M bc G L S q w U wk jo) (cwV 0 hts gX0_draw_X0_liveCount rfl rfl rfl (by decide +kernel) ⟨Nat.le_of_ble_eq_true rfl, Nat.le_of_ble_eq_true rfl⟩) (va_recv hK hP (ci := 0) (q0 := 7) rfl rfl) hK hP hD hS hA rfl hl.1 rfl (Nat.le_of_ble_eq_true rfl) dX0_draw_1 ⟨Nat.le_of_ble_eq_true rfl, Nat.le_of_ble_eq_true rfl⟩ (fun H locs hP hD hS => ?_)
  refine lv_istore_n (lv' := [(1, .int (pBC L)), (0, .ref (ad 7))]) hx hb dX0_draw_4 rfl hl (by decide) rfl (fun ls hl => ?_)
  refine lv_iload_n hx hb dX0_draw_5 rfl (lv_at hl 0 rfl) ?_
  refine lv_if_ne (tgt := 11) hx hb dX0_draw_6 (by decide) (fun c6 => ?_) (fun c6 => ?_)
  · refine lv_aload_n hx hb dX0_draw_11 rfl (lv_at hl 1 rfl) ?_
    refine lv_aload_n hx hb dX0_draw_12 rfl (lv_at hl 1 rfl) ?_
    refine va_get (D := D) (ci := 0) (v := .long S) (C := RX0) (T := TX0) (N := 3) hx hb hts hinX0 hown hK hP 7 rfl rfl 2 (by decide) hf_18 (fun _ h9 => h9) rfl dX0_draw_13 ?_
    refine lv_ldc2 hx hb hown (hts (.constantLong RX0 26 (6364136223846793005)) (by decide +kernel)) dX0_draw_16 ?_
    refine lv_lmul hx hb dX0_draw_19 ?_
    refine lv_ldc2 hx hb hown (hts (.constantLong RX0 28 (1442695040888963407)) (by decide +kernel)) dX0_draw_20 ?_
    refine lv_ladd hx hb dX0_draw_23 ?_
    refine z_topl (y := pNx S) rfl ?_
    refine va_put (D := D) (ci := 0) (v := .long (pNx S)) (ty := .long) (C := RX0) (T := TX0) (N := 3) hx hb hts hinX0 tyX0 tyX0_ok nmX0 hown hK hP hD hS 7 rfl rfl 2 (by decide) hf_18 (fun _ h9 => h9) rfl (by decide +kernel) rfl rfl (Nat.le_of_ble_eq_true rfl) dX0_draw_24 (fun H locs hP hD hS => ?_)
    have hP : va_P D vwCl (cW ad cy n V Z R K B M bc G L (pNx S) q w U wk jo) H := hP
    have hD : va_D A (cW ad cy n V Z R K B M bc G L (pNx S) q w U wk jo) := hD
    refine lv_aload_n hx hb dX0_draw_27 rfl (lv_at hl 1 rfl) ?_
    refine lv_aload_n hx hb dX0_draw_28 rfl (lv_at hl 1 rfl) ?_
    refine va_get (D := D) (ci := 0) (v := .long (pNx S)) (C := RX0) (T := TX0) (N := 3) hx hb hts hinX0 hown hK hP 7 rfl rfl 2 (by decide) hf_18 (fun _ h9 => h9) rfl dX0_draw_29 ?_
    refine lv_bipush (v := nI 33) hx hb dX0_draw_32 (by decide) ?_
    refine lv_lushr (v := ul (pNx S) (nI 33)) hx hb dX0_draw_34 rfl ?_
    refine lv_iload_n hx hb dX0_draw_35 rfl (lv_at hl 0 rfl) ?_
    refine lv_i2l (v := (pBC L).toInt64) hx hb dX0_draw_36 rfl ?_
    refine lv_lrem hx hb dX0_draw_37 (fun h => h0 (by have h2 := congrArg Int64.toInt h; rw [Int32.toInt_toInt64] at h2; exact Int32.toInt_inj.mp h2)) ?_
    refine lv_l2i (v := ((ul (pNx S) (nI 33)) - (ul (pNx S) (nI 33)) / ((pBC L).toInt64) * ((pBC L).toInt64)).toInt32) hx hb dX0_draw_38 rfl ?_
    refine z_topi (y := pIx (pNx S) (pBC L)) rfl ?_
    refine zcV_i (As := [.int (pIx (pNx S) (pBC L))]) (rest := []) F (kX0_liveWorker l D ad cy _ n V Z R K B M bc G L (pNx S) q w U wk jo (pIx (pNx S) (pBC L))) (cwV 1 hts gX0_draw_X0_liveWorker rfl rfl rfl (by decide +kernel) ⟨Nat.le_of_ble_eq_true rfl, Nat.le_of_ble_eq_true rfl⟩) (va_recv hK hP (ci := 0) (q0 := 7) rfl rfl) hK hP hD hS hA rfl hl.1 rfl (Nat.le_of_ble_eq_true rfl) dX0_draw_39 ⟨Nat.le_of_ble_eq_true rfl, Nat.le_of_ble_eq_true rfl⟩ (fun H locs hP hD hS => ?_)
    exact zret_i F hr hlocks hK hP hD hS rfl dX0_draw_42
  · exact absurd c6 h0
