theorem sh_0 {L : Int32} {w : Nat} (h : L &&& pBit (nI w) = 0) (hw : w < 32) : (L >>> (nI w &&& 31)) &&& 1 = 0 := by
  rw [q_shr L hw, (q_test L hw).mp h]; rfl
theorem sh_1 {L : Int32} {w : Nat} (h : ¬ L &&& pBit (nI w) = 0) (hw : w < 32) : (L >>> (nI w &&& 31)) &&& 1 = 1 := by
  rw [q_shr L hw]
  cases h9 : bt L w
  · exact absurd ((q_test L hw).mpr h9) h
  · rfl
theorem nI_dec {j : Nat} (h : 0 < j) : nI j - 1 = nI (j - 1) := by
  have h1 := nI_pred (j - 1)
  rwa [show j - 1 + 1 = j by omega] at h1

set_option maxHeartbeats 4000000 in
set_option maxRecDepth 100000 in
theorem kX3_next (l : Launch) (D : va_G) (ad : Nat → Nat) (cy : Nat → ClassId) (sz : Nat) (th : Int32) (n : Nat) (E : Nat → Int64) (R : Nat → Int32) (Z : Nat → Int32) (B : Nat → Int32) (BR : Nat → Int64) (wt : Nat) (rk : Nat → Int32) (U : Nat → Int32) (br : Int32) (lc : Int32) (jo : Int64) (wk : Int64) (sd : Int64) : mL l yX3_next wsX3_next ({ frames := 0, cells := 0, slots := 0, locals := 0 }) [.long sd] D (mT cy) (mW ad cy th n E R Z B BR wt rk U br lc jo wk) sz (pNx sd) (mW ad cy th n E R Z B BR wt rk U br lc jo wk) 0 0 := by
  refine zin (fun A => zQl D (mT cy) (mW ad cy th n E R Z B BR wt rk U br lc jo wk) (pNx sd) A) (cc := cX3_next) (maxL := 2) (ret := (some .long)) (own := RX3) (by decide) rfl rfl (Nat.le_of_ble_eq_true rfl) ?_
  intro p e s m below meth c A F hr hlocks hmn hA hK H locs hP hD hS ls hl
  obtain ⟨hx, hb, hml, hown, hts⟩ := id F
  have hl : lv_has ls 2 [(0, .long sd)] := hl
  refine lv_lload_n hx hb dX3_next_0 rfl (lv_at hl 0 rfl) ?_
  refine lv_ldc2 hx hb hown (hts (.constantLong RX3 58 (6364136223846793005)) (by decide +kernel)) dX3_next_1 ?_
  refine lv_lmul hx hb dX3_next_4 ?_
  refine lv_ldc2 hx hb hown (hts (.constantLong RX3 60 (1442695040888963407)) (by decide +kernel)) dX3_next_5 ?_
  refine lv_ladd hx hb dX3_next_8 ?_
  exact zret_l F hr hlocks hK hP hD hS rfl dX3_next_9

set_option maxHeartbeats 4000000 in
set_option maxRecDepth 100000 in
theorem lp_workerAt {p : Program} {l : Launch} {e : Env} {s : State} {m : MethodId} {args : Array Value} {below : List Frame} {meth : Method} {c : Code} {A : Nat → Prop} {D : va_G} {ad : Nat → Nat} {cy : Nat → ClassId} (F : CallFix p m c cX3_workerAt 4 s args wsX3_workerAt RX3) (hr : meth.sig.returnType = (some .int)) (hlocks : meth.locks = false) (hA : ∀ q, s.heap.size ≤ q → A q) (hK : va_K D vwCl (mT cy) s) (th : Int32) (n : Nat) (E : Nat → Int64) (R : Nat → Int32) (Z : Nat → Int32) (B : Nat → Int32) (BR : Nat → Int64) (wt : Nat) (rk : Nat → Int32) (U : Nat → Int32) (br : Int32) (lc : Int32) (jo : Int64) (wk : Int64) (L9 : Int32) (v9 : Nat) (hv16 : v9 < 16) : ∀ (k : Nat) (w9 : Nat) (j : Nat) (a0 : Int32), w9 + k = 16 → j < 16 → pLwF L9 k w9 (nI j) = nI v9 → ∀ (H : Heap) (locs : List Loc), va_P D vwCl (mW ad cy th n E R Z B BR wt rk U br lc jo wk) H → va_D A (mW ad cy th n E R Z B BR wt rk U br lc jo wk) → va_S A s.heap H locs → ∀ ls : Array Slot, lv_has ls 4 [(3, .int (nI w9)), (2, .int (nI j)), (0, .int L9), (1, .int a0)] → W p l e ({ frames := 0, cells := 0, slots := 0, locals := 0 }) s m args below meth c H locs 0 0 (MQ below (zQi D (mT cy) (mW ad cy th n E R Z B BR wt rk U br lc jo wk) (nI v9) A) args s 0 0 A) (F0 m 4 ls []) := by
  obtain ⟨hx, hb, hml, hown, hts⟩ := id F
  intro k
  induction k with
  | zero =>
    intro w9 j a0 hk hj hv9
    exact absurd hv9.symm (nI_ne_m1 (by omega))
  | succ k ih =>
    intro w9 j a0 hk hj hv9 H locs hP hD hS ls hl
    by_cases hbt : L9 &&& pBit (nI w9) = 0
    · refine lv_iload_n hx hb dX3_workerAt_4 rfl (lv_at hl 2 rfl) ?_
      refine lv_iload_n hx hb dX3_workerAt_5 rfl (lv_at hl 0 rfl) ?_
      refine lv_ishr hx hb dX3_workerAt_6 ?_
      refine lv_iconst (v := 1) hx hb dX3_workerAt_7 (by decide) ?_
      refine lv_iand hx hb dX3_workerAt_8 ?_
      refine z_topi (y := 0) (sh_0 hbt (by omega)) ?_
      refine lv_if_eq (tgt := 16) hx hb dX3_workerAt_9 (by decide) (fun c9 => ?_) (fun c9 => ?_)
      · refine lv_iload_n hx hb dX3_workerAt_16 rfl (lv_at hl 1 rfl) ?_
        refine lv_iload_n hx hb dX3_workerAt_17 rfl (lv_at hl 2 rfl) ?_
        refine lv_iload_n hx hb dX3_workerAt_18 rfl (lv_at hl 0 rfl) ?_
        refine lv_ishr hx hb dX3_workerAt_19 ?_
        refine lv_iconst (v := 1) hx hb dX3_workerAt_20 (by decide) ?_
        refine lv_iand hx hb dX3_workerAt_21 ?_
        refine z_topi (y := 0) (sh_0 hbt (by omega)) ?_
        refine lv_isub hx hb dX3_workerAt_22 ?_
        refine z_topi (y := nI j) (Int32.sub_zero _) ?_
        refine lv_istore_n (lv' := [(2, .int (nI j)), (3, .int (nI w9)), (0, .int L9), (1, .int a0)]) hx hb dX3_workerAt_23 rfl hl (by decide) rfl (fun ls hl => ?_)
        refine lv_iinc (v := nI (w9 + 1)) (lv' := [(3, .int (nI (w9 + 1))), (2, .int (nI j)), (0, .int L9), (1, .int a0)]) hx hb dX3_workerAt_24 hl (k := 1) rfl (by exact nI_1 _) (by decide) rfl (fun ls hl => ?_)
        refine lv_goto (tgt := 4) hx hb dX3_workerAt_27 (by decide) ?_
        rw [pLwF, if_pos hbt] at hv9
        exact ih (w9 + 1) j a0 (by omega) (by omega) hv9 H locs hP hD hS ls (lv_sub hl [0, 1, 2, 3] rfl)
      · exact absurd rfl c9
    · refine lv_iload_n hx hb dX3_workerAt_4 rfl (lv_at hl 2 rfl) ?_
      refine lv_iload_n hx hb dX3_workerAt_5 rfl (lv_at hl 0 rfl) ?_
      refine lv_ishr hx hb dX3_workerAt_6 ?_
      refine lv_iconst (v := 1) hx hb dX3_workerAt_7 (by decide) ?_
      refine lv_iand hx hb dX3_workerAt_8 ?_
      refine z_topi (y := 1) (sh_1 hbt (by omega)) ?_
      refine lv_if_eq (tgt := 16) hx hb dX3_workerAt_9 (by decide) (fun c9 => ?_) (fun c9 => ?_)
      · exact absurd c9 (by decide)
      · refine lv_iload_n hx hb dX3_workerAt_12 rfl (lv_at hl 1 rfl) ?_
        refine lv_if_le (tgt := 30) hx hb dX3_workerAt_13 (by decide) (fun c13 => ?_) (fun c13 => ?_)
        · have hj0 : j = 0 := by rcases Nat.eq_zero_or_pos j with q | q; exact q; exact absurd c13 (nI_nle q (by omega))
          rw [hj0, pLwF, if_neg hbt, if_pos nI_0] at hv9
          refine lv_iload_n hx hb dX3_workerAt_30 rfl (lv_at hl 0 rfl) ?_
          exact zret_i F hr hlocks hK hP hD hS hv9 dX3_workerAt_31
        · have hj0 : 0 < j := by rcases Nat.eq_zero_or_pos j with q | q; exact absurd (by rw [q]; decide) c13; exact q
          refine lv_iload_n hx hb dX3_workerAt_16 rfl (lv_at hl 1 rfl) ?_
          refine lv_iload_n hx hb dX3_workerAt_17 rfl (lv_at hl 2 rfl) ?_
          refine lv_iload_n hx hb dX3_workerAt_18 rfl (lv_at hl 0 rfl) ?_
          refine lv_ishr hx hb dX3_workerAt_19 ?_
          refine lv_iconst (v := 1) hx hb dX3_workerAt_20 (by decide) ?_
          refine lv_iand hx hb dX3_workerAt_21 ?_
          refine z_topi (y := 1) (sh_1 hbt (by omega)) ?_
          refine lv_isub hx hb dX3_workerAt_22 ?_
          refine z_topi (y := nI (j - 1)) (nI_dec hj0) ?_
          refine lv_istore_n (lv' := [(2, .int (nI (j - 1))), (3, .int (nI w9)), (0, .int L9), (1, .int a0)]) hx hb dX3_workerAt_23 rfl hl (by decide) rfl (fun ls hl => ?_)
          refine lv_iinc (v := nI (w9 + 1)) (lv' := [(3, .int (nI (w9 + 1))), (2, .int (nI (j - 1))), (0, .int L9), (1, .int a0)]) hx hb dX3_workerAt_24 hl (k := 1) rfl (by exact nI_1 _) (by decide) rfl (fun ls hl => ?_)
          refine lv_goto (tgt := 4) hx hb dX3_workerAt_27 (by decide) ?_
          rw [pLwF, if_neg hbt, if_neg (nI_ne0 hj0 (by omega)), sb_m1 hj0] at hv9
          exact ih (w9 + 1) (j - 1) a0 (by omega) (by omega) hv9 H locs hP hD hS ls (lv_sub hl [0, 1, 2, 3] rfl)

set_option maxHeartbeats 4000000 in
set_option maxRecDepth 100000 in
theorem kX3_workerAt (l : Launch) (D : va_G) (ad : Nat → Nat) (cy : Nat → ClassId) (sz : Nat) (th : Int32) (n : Nat) (E : Nat → Int64) (R : Nat → Int32) (Z : Nat → Int32) (B : Nat → Int32) (BR : Nat → Int64) (wt : Nat) (rk : Nat → Int32) (U : Nat → Int32) (br : Int32) (lc : Int32) (jo : Int64) (wk : Int64) (L9 : Int32) (j : Nat) (v9 : Nat) (hv16 : v9 < 16) (hj : j < 16) (hv9 : pLw L9 (nI j) = nI v9) : mI l yX3_workerAt wsX3_workerAt ({ frames := 0, cells := 0, slots := 0, locals := 0 }) [.int L9, .int (nI j)] D (mT cy) (mW ad cy th n E R Z B BR wt rk U br lc jo wk) sz (nI v9) (mW ad cy th n E R Z B BR wt rk U br lc jo wk) 0 0 := by
  refine zin (fun A => zQi D (mT cy) (mW ad cy th n E R Z B BR wt rk U br lc jo wk) (nI v9) A) (cc := cX3_workerAt) (maxL := 4) (ret := (some .int)) (own := RX3) (by decide) rfl rfl (Nat.le_of_ble_eq_true rfl) ?_
  intro p e s m below meth c A F hr hlocks hmn hA hK H locs hP hD hS ls hl
  obtain ⟨hx, hb, hml, hown, hts⟩ := id F
  have hl : lv_has ls 4 [(0, .int L9), (1, .int (nI j))] := hl
  refine lv_iload_n hx hb dX3_workerAt_0 rfl (lv_at hl 1 rfl) ?_
  refine lv_istore_n (lv' := [(2, .int (nI j)), (0, .int L9), (1, .int (nI j))]) hx hb dX3_workerAt_1 rfl hl (by decide) rfl (fun ls hl => ?_)
  refine lv_iconst (v := nI 0) hx hb dX3_workerAt_2 (by decide) ?_
  refine lv_istore_n (lv' := [(3, .int (nI 0)), (2, .int (nI j)), (0, .int L9), (1, .int (nI j))]) hx hb dX3_workerAt_3 rfl hl (by decide) rfl (fun ls hl => ?_)
  exact lp_workerAt F hr hlocks hA hK th n E R Z B BR wt rk U br lc jo wk L9 v9 hv16 16 0 j (nI j) (by omega) hj hv9 H locs hP hD hS ls (lv_sub hl [0, 1, 2, 3] rfl)

set_option maxHeartbeats 4000000 in
set_option maxRecDepth 100000 in
theorem lk_best {p : Program} {l : Launch} {e : Env} {s : State} {m : MethodId} {args : Array Value} {below : List Frame} {meth : Method} {c : Code} {Q : State → Prop} {A : Nat → Prop} {D : va_G} {ad : Nat → Nat} {cy : Nat → ClassId} (F : CallFix p m c cX3_letIn 5 s args wsX3_letIn RX3) (hA : ∀ q, s.heap.size ≤ q → A q) (hK : va_K D vwCl (mT cy) s) (th : Int32) (n : Nat) (E : Nat → Int64) (R : Nat → Int32) (Z : Nat → Int32) (B : Nat → Int32) (BR : Nat → Int64) (wt : Nat) (rk : Nat → Int32) (U : Nat → Int32) (br : Int32) (lc : Int32) (jo : Int64) (wk : Int64) (i d : Nat) (hw : wt ≤ 20) : ∀ (f : Nat) (j : Nat), j + 1 + f = wt → (∀ (H : Heap) (locs : List Loc), va_P D vwCl (mW ad cy th n E R Z B BR wt rk U br lc jo wk) H → va_D A (mW ad cy th n E R Z B BR wt rk U br lc jo wk) → va_S A s.heap H locs → ∀ ls : Array Slot, lv_has ls 5 [(3, .int (nI (mBs rk (wt - 1)))), (2, .int (nI i)), (0, .ref (ad 0)), (1, .int (nI d))] → W p l e ({ frames := 0, cells := 0, slots := 0, locals := 0 }) s m args below meth c H locs 0 0 Q (F0 m 57 ls [])) → ∀ (H : Heap) (locs : List Loc), va_P D vwCl (mW ad cy th n E R Z B BR wt rk U br lc jo wk) H → va_D A (mW ad cy th n E R Z B BR wt rk U br lc jo wk) → va_S A s.heap H locs → ∀ ls : Array Slot, lv_has ls 5 [(4, .int (nI (j + 1))), (3, .int (nI (mBs rk j))), (2, .int (nI i)), (0, .ref (ad 0)), (1, .int (nI d))] → W p l e ({ frames := 0, cells := 0, slots := 0, locals := 0 }) s m args below meth c H locs 0 0 Q (F0 m 19 ls []) := by
  obtain ⟨hx, hb, hml, hown, hts⟩ := id F
  have hinX3 : ∀ w ∈ wsX30, w ∈ wsX3_letIn := by decide +kernel
  have hf_27 := hts (.fieldLink RX3 27 "RegionSharesModel" "ranks" "[I") (by decide +kernel)
  have hf_66 := hts (.fieldLink RX3 66 "RegionSharesModel" "waits" "I") (by decide +kernel)
  intro f
  induction f with
  | zero =>
    intro j hk kT
    intro H locs hP hD hS ls hl
    refine lv_iload hx hb dX3_letIn_19 (lv_at hl 0 rfl) ?_
    refine lv_aload_n hx hb dX3_letIn_21 rfl (lv_at hl 3 rfl) ?_
    refine va_get (D := D) (ci := 3) (v := .int (nI wt)) (C := RX3) (T := TX3) (N := 14) hx hb hts hinX3 hown hK hP 0 rfl rfl 7 (by decide) hf_66 (fun _ h9 => h9) rfl dX3_letIn_22 ?_
    refine zb_ge (a := (j + 1)) (b := wt) (tgt := 57) hx hb dX3_letIn_25 (by decide) (by omega) (by omega) (fun c25 => ?_) (fun c25 => ?_)
    · rw [show wt - 1 = j by omega] at kT
      exact kT H locs hP hD hS ls (lv_sub hl [1, 2, 3, 4] rfl)
    · exact absurd c25 (by omega)
  | succ f ih =>
    intro j hk kT H locs hP hD hS ls hl
    refine lv_iload hx hb dX3_letIn_19 (lv_at hl 0 rfl) ?_
    refine lv_aload_n hx hb dX3_letIn_21 rfl (lv_at hl 3 rfl) ?_
    refine va_get (D := D) (ci := 3) (v := .int (nI wt)) (C := RX3) (T := TX3) (N := 14) hx hb hts hinX3 hown hK hP 0 rfl rfl 7 (by decide) hf_66 (fun _ h9 => h9) rfl dX3_letIn_22 ?_
    refine zb_ge (a := (j + 1)) (b := wt) (tgt := 57) hx hb dX3_letIn_25 (by decide) (by omega) (by omega) (fun c25 => ?_) (fun c25 => ?_)
    · exact absurd c25 (by omega)
    · have hbs := mBs_le rk j
      refine lv_aload_n hx hb dX3_letIn_28 rfl (lv_at hl 3 rfl) ?_
      refine va_get (D := D) (ci := 3) (v := .ref (ad 6)) (C := RX3) (T := TX3) (N := 14) hx hb hts hinX3 hown hK hP 0 rfl rfl 8 (by decide) hf_27 (fun _ h9 => h9) rfl dX3_letIn_29 ?_
      refine lv_iload hx hb dX3_letIn_32 (lv_at hl 0 rfl) ?_
      refine ax_ild hx hb hK hP 6 5 rfl rfl (by omega) (by omega) dX3_letIn_34 ?_
      refine lv_aload_n hx hb dX3_letIn_35 rfl (lv_at hl 3 rfl) ?_
      refine va_get (D := D) (ci := 3) (v := .ref (ad 6)) (C := RX3) (T := TX3) (N := 14) hx hb hts hinX3 hown hK hP 0 rfl rfl 8 (by decide) hf_27 (fun _ h9 => h9) rfl dX3_letIn_36 ?_
      refine lv_iload_n hx hb dX3_letIn_39 rfl (lv_at hl 1 rfl) ?_
      refine ax_ild hx hb hK hP 6 5 rfl rfl (by omega) (by omega) dX3_letIn_40 ?_
      refine lv_icmp_le (tgt := 49) hx hb dX3_letIn_41 (by decide) (fun c41 => ?_) (fun c41 => ?_)
      · refine lv_iload_n hx hb dX3_letIn_49 rfl (lv_at hl 1 rfl) ?_
        refine lv_istore_n (lv' := [(3, .int (nI (mBs rk j))), (4, .int (nI (j + 1))), (2, .int (nI i)), (0, .ref (ad 0)), (1, .int (nI d))]) hx hb dX3_letIn_50 rfl hl (by decide) rfl (fun ls hl => ?_)
        refine lv_iinc (v := nI ((j + 1) + 1)) (lv' := [(4, .int (nI ((j + 1) + 1))), (3, .int (nI (mBs rk j))), (2, .int (nI i)), (0, .ref (ad 0)), (1, .int (nI d))]) hx hb dX3_letIn_51 hl (k := 1) rfl (by exact nI_1 _) (by decide) rfl (fun ls hl => ?_)
        refine lv_goto (tgt := 19) hx hb dX3_letIn_54 (by decide) ?_
        have ha : nI (mBs rk (j + 1)) = nI (mBs rk j) := by
          first | exact congrArg nI (if_pos c41) | exact congrArg nI (if_neg c41)
        exact ih (j + 1) (by omega) kT H locs hP hD hS ls (by rw [ha]; exact lv_sub hl [0, 1, 2, 3, 4] rfl)
      · refine lv_iload hx hb dX3_letIn_44 (lv_at hl 0 rfl) ?_
        refine lv_goto (tgt := 50) hx hb dX3_letIn_46 (by decide) ?_
        refine lv_istore_n (lv' := [(3, .int (nI (j + 1))), (4, .int (nI (j + 1))), (2, .int (nI i)), (0, .ref (ad 0)), (1, .int (nI d))]) hx hb dX3_letIn_50 rfl hl (by decide) rfl (fun ls hl => ?_)
        refine lv_iinc (v := nI ((j + 1) + 1)) (lv' := [(4, .int (nI ((j + 1) + 1))), (3, .int (nI (j + 1))), (2, .int (nI i)), (0, .ref (ad 0)), (1, .int (nI d))]) hx hb dX3_letIn_51 hl (k := 1) rfl (by exact nI_1 _) (by decide) rfl (fun ls hl => ?_)
        refine lv_goto (tgt := 19) hx hb dX3_letIn_54 (by decide) ?_
        have ha : nI (mBs rk (j + 1)) = nI (j + 1) := by
          first | exact congrArg nI (if_pos c41) | exact congrArg nI (if_neg c41)
        exact ih (j + 1) (by omega) kT H locs hP hD hS ls (by rw [ha]; exact lv_sub hl [0, 1, 2, 3, 4] rfl)

set_option maxHeartbeats 4000000 in
set_option maxRecDepth 100000 in
theorem lk_shift {p : Program} {l : Launch} {e : Env} {s : State} {m : MethodId} {args : Array Value} {below : List Frame} {meth : Method} {c : Code} {Q : State → Prop} {A : Nat → Prop} {D : va_G} {ad : Nat → Nat} {cy : Nat → ClassId} (F : CallFix p m c cX3_letIn 5 s args wsX3_letIn RX3) (hA : ∀ q, s.heap.size ≤ q → A q) (hK : va_K D vwCl (mT cy) s) (th : Int32) (n : Nat) (E : Nat → Int64) (R : Nat → Int32) (Z : Nat → Int32) (B : Nat → Int32) (BR : Nat → Int64) (wt : Nat) (rk : Nat → Int32) (U : Nat → Int32) (br : Int32) (lc : Int32) (jo : Int64) (wk : Int64) (b9 i d : Nat) (hw : wt ≤ 20) : ∀ (f : Nat) (k9 : Nat), k9 + 1 + f = wt → (b9 ≤ k9) → (∀ (H : Heap) (locs : List Loc), va_P D vwCl (mW ad cy th n E R Z B BR wt (mSf rk b9 (wt - 1)) U br lc jo wk) H → va_D A (mW ad cy th n E R Z B BR wt (mSf rk b9 (wt - 1)) U br lc jo wk) → va_S A s.heap H locs → ∀ ls : Array Slot, lv_has ls 5 [(2, .int (nI i)), (0, .ref (ad 0)), (1, .int (nI d))] → W p l e ({ frames := 0, cells := 0, slots := 0, locals := 0 }) s m args below meth c H locs 0 0 Q (F0 m 93 ls [])) → ∀ (H : Heap) (locs : List Loc), va_P D vwCl (mW ad cy th n E R Z B BR wt (mSf rk b9 k9) U br lc jo wk) H → va_D A (mW ad cy th n E R Z B BR wt (mSf rk b9 k9) U br lc jo wk) → va_S A s.heap H locs → ∀ ls : Array Slot, lv_has ls 5 [(4, .int (nI k9)), (2, .int (nI i)), (0, .ref (ad 0)), (1, .int (nI d))] → W p l e ({ frames := 0, cells := 0, slots := 0, locals := 0 }) s m args below meth c H locs 0 0 Q (F0 m 60 ls []) := by
  obtain ⟨hx, hb, hml, hown, hts⟩ := id F
  have hinX3 : ∀ w ∈ wsX30, w ∈ wsX3_letIn := by decide +kernel
  have hf_27 := hts (.fieldLink RX3 27 "RegionSharesModel" "ranks" "[I") (by decide +kernel)
  have hf_66 := hts (.fieldLink RX3 66 "RegionSharesModel" "waits" "I") (by decide +kernel)
  intro f
  induction f with
  | zero =>
    intro k9 hk hbk kT
    intro H locs hP hD hS ls hl
    refine lv_iload hx hb dX3_letIn_60 (lv_at hl 0 rfl) ?_
    refine lv_iconst (v := nI 1) hx hb dX3_letIn_62 (by decide) ?_
    refine lv_iadd hx hb dX3_letIn_63 ?_
    refine z_topi (y := nI (k9 + 1)) (nI_add _ 1) ?_
    refine lv_aload_n hx hb dX3_letIn_64 rfl (lv_at hl 2 rfl) ?_
    refine va_get (D := D) (ci := 3) (v := .int (nI wt)) (C := RX3) (T := TX3) (N := 14) hx hb hts hinX3 hown hK hP 0 rfl rfl 7 (by decide) hf_66 (fun _ h9 => h9) rfl dX3_letIn_65 ?_
    refine zb_ge (a := (k9 + 1)) (b := wt) (tgt := 93) hx hb dX3_letIn_68 (by decide) (by omega) (by omega) (fun c68 => ?_) (fun c68 => ?_)
    · rw [show wt - 1 = k9 by omega] at kT
      exact kT H locs hP hD hS ls (lv_sub hl [1, 2, 3] rfl)
    · exact absurd c68 (by omega)
  | succ f ih =>
    intro k9 hk hbk kT H locs hP hD hS ls hl
    refine lv_iload hx hb dX3_letIn_60 (lv_at hl 0 rfl) ?_
    refine lv_iconst (v := nI 1) hx hb dX3_letIn_62 (by decide) ?_
    refine lv_iadd hx hb dX3_letIn_63 ?_
    refine z_topi (y := nI (k9 + 1)) (nI_add _ 1) ?_
    refine lv_aload_n hx hb dX3_letIn_64 rfl (lv_at hl 2 rfl) ?_
    refine va_get (D := D) (ci := 3) (v := .int (nI wt)) (C := RX3) (T := TX3) (N := 14) hx hb hts hinX3 hown hK hP 0 rfl rfl 7 (by decide) hf_66 (fun _ h9 => h9) rfl dX3_letIn_65 ?_
    refine zb_ge (a := (k9 + 1)) (b := wt) (tgt := 93) hx hb dX3_letIn_68 (by decide) (by omega) (by omega) (fun c68 => ?_) (fun c68 => ?_)
    · exact absurd c68 (by omega)
    · refine lv_aload_n hx hb dX3_letIn_71 rfl (lv_at hl 2 rfl) ?_
      refine va_get (D := D) (ci := 3) (v := .ref (ad 6)) (C := RX3) (T := TX3) (N := 14) hx hb hts hinX3 hown hK hP 0 rfl rfl 8 (by decide) hf_27 (fun _ h9 => h9) rfl dX3_letIn_72 ?_
      refine lv_iload hx hb dX3_letIn_75 (lv_at hl 0 rfl) ?_
      refine lv_aload_n hx hb dX3_letIn_77 rfl (lv_at hl 2 rfl) ?_
      refine va_get (D := D) (ci := 3) (v := .ref (ad 6)) (C := RX3) (T := TX3) (N := 14) hx hb hts hinX3 hown hK hP 0 rfl rfl 8 (by decide) hf_27 (fun _ h9 => h9) rfl dX3_letIn_78 ?_
      refine lv_iload hx hb dX3_letIn_81 (lv_at hl 0 rfl) ?_
      refine lv_iconst (v := nI 1) hx hb dX3_letIn_83 (by decide) ?_
      refine lv_iadd hx hb dX3_letIn_84 ?_
      refine z_topi (y := nI (k9 + 1)) (nI_add _ 1) ?_
      refine ax_ild hx hb hK hP 6 5 rfl rfl (by omega) (by omega) dX3_letIn_85 ?_
      refine ax_ist hx hb hK hP hD hS 6 5 rfl rfl (by omega) (by omega) dX3_letIn_86 (fun H locs hP hD hS => ?_)
      have hP : va_P D vwCl (mW ad cy th n E R Z B BR wt (upd (mSf rk b9 k9) k9 ((mSf rk b9 k9) (k9 + 1))) U br lc jo wk) H := hP
      have hD : va_D A (mW ad cy th n E R Z B BR wt (upd (mSf rk b9 k9) k9 ((mSf rk b9 k9) (k9 + 1))) U br lc jo wk) := hD
      rw [mSf_s _ hbk] at hP hD
      refine lv_iinc (v := nI (k9 + 1)) (lv' := [(4, .int (nI (k9 + 1))), (2, .int (nI i)), (0, .ref (ad 0)), (1, .int (nI d))]) hx hb dX3_letIn_87 hl (k := 0) rfl (by exact nI_1 _) (by decide) rfl (fun ls hl => ?_)
      refine lv_goto (tgt := 60) hx hb dX3_letIn_90 (by decide) ?_
      exact ih (k9 + 1) (by omega) (by omega) kT H locs hP hD hS ls (lv_sub hl [0, 1, 2, 3] rfl)

set_option maxHeartbeats 4000000 in
set_option maxRecDepth 100000 in
theorem lp_letIn {p : Program} {l : Launch} {e : Env} {s : State} {m : MethodId} {args : Array Value} {below : List Frame} {meth : Method} {c : Code} {A : Nat → Prop} {D : va_G} {ad : Nat → Nat} {cy : Nat → ClassId} (F : CallFix p m c cX3_letIn 5 s args wsX3_letIn RX3) (hr : meth.sig.returnType = none) (hlocks : meth.locks = false) (hA : ∀ q, s.heap.size ≤ q → A q) (hK : va_K D vwCl (mT cy) s) (th : Int32) (n : Nat) (E : Nat → Int64) (R : Nat → Int32) (Z : Nat → Int32) (B : Nat → Int32) (BR : Nat → Int64) (U : Nat → Int32) (br : Int32) (lc : Int32) (jo : Int64) (d : Nat) (hd : d ≤ 40) : ∀ (k : Nat) (i : Nat) (x : mA), i + k = d → x.2.1 ≤ 20 → ∀ (H : Heap) (locs : List Loc), va_P D vwCl (mW ad cy th n E R Z B BR x.2.1 x.1 U br lc jo x.2.2) H → va_D A (mW ad cy th n E R Z B BR x.2.1 x.1 U br lc jo x.2.2) → va_S A s.heap H locs → ∀ ls : Array Slot, lv_has ls 5 [(2, .int (nI i)), (0, .ref (ad 0)), (1, .int (nI d))] → W p l e ({ frames := 0, cells := 0, slots := 0, locals := 0 }) s m args below meth c H locs 0 0 (MQ below (zQv D (mT cy) (mW ad cy th n E R Z B BR ((mLet k x).2.1) ((mLet k x).1) U br lc jo ((mLet k x).2.2)) A) args s 0 0 A) (F0 m 2 ls []) := by
  obtain ⟨hx, hb, hml, hown, hts⟩ := id F
  have hinX3 : ∀ w ∈ wsX30, w ∈ wsX3_letIn := by decide +kernel
  have hf_66 := hts (.fieldLink RX3 66 "RegionSharesModel" "waits" "I") (by decide +kernel)
  have hf_69 := hts (.fieldLink RX3 69 "RegionSharesModel" "work" "J") (by decide +kernel)
  intro k
  induction k with
  | zero =>
    intro i x hk hw
    intro H locs hP hD hS ls hl
    refine lv_iload_n hx hb dX3_letIn_2 rfl (lv_at hl 0 rfl) ?_
    refine lv_iload_n hx hb dX3_letIn_3 rfl (lv_at hl 2 rfl) ?_
    refine zb_ge (a := i) (b := d) (tgt := 119) hx hb dX3_letIn_4 (by decide) (by omega) (by omega) (fun c4 => ?_) (fun c4 => ?_)
    · exact zret_v F hr hlocks hK hP hD hS dX3_letIn_119
    · exact absurd c4 (by omega)
  | succ k ih =>
    intro i x hk hw H locs hP hD hS ls hl
    refine lv_iload_n hx hb dX3_letIn_2 rfl (lv_at hl 0 rfl) ?_
    refine lv_iload_n hx hb dX3_letIn_3 rfl (lv_at hl 2 rfl) ?_
    refine zb_ge (a := i) (b := d) (tgt := 119) hx hb dX3_letIn_4 (by decide) (by omega) (by omega) (fun c4 => ?_) (fun c4 => ?_)
    · exact absurd c4 (by omega)
    · refine lv_aload_n hx hb dX3_letIn_7 rfl (lv_at hl 1 rfl) ?_
      refine va_get (D := D) (ci := 3) (v := .int (nI x.2.1)) (C := RX3) (T := TX3) (N := 14) hx hb hts hinX3 hown hK hP 0 rfl rfl 7 (by decide) hf_66 (fun _ h9 => h9) rfl dX3_letIn_8 ?_
      refine lv_if_le (tgt := 119) hx hb dX3_letIn_11 (by decide) (fun c11 => ?_) (fun c11 => ?_)
      · have h0 : x.2.1 = 0 := by rcases Nat.eq_zero_or_pos x.2.1 with q | q; exact q; exact absurd c11 (nI_nle q (by omega))
        rw [show mLet (k + 1) x = x from if_pos h0]
        exact zret_v F hr hlocks hK hP hD hS dX3_letIn_119
      · have h0 : ¬ x.2.1 = 0 := fun q => absurd (by rw [q]; decide) c11
        rw [show mLet (k + 1) x = mLet k (mLe x) from if_neg h0]
        refine lv_iconst (v := nI 0) hx hb dX3_letIn_14 (by decide) ?_
        refine lv_istore_n (lv' := [(3, .int (nI 0)), (2, .int (nI i)), (0, .ref (ad 0)), (1, .int (nI d))]) hx hb dX3_letIn_15 rfl hl (by decide) rfl (fun ls hl => ?_)
        refine lv_iconst (v := nI 1) hx hb dX3_letIn_16 (by decide) ?_
        refine lv_istore (lv' := [(4, .int (nI 1)), (3, .int (nI 0)), (2, .int (nI i)), (0, .ref (ad 0)), (1, .int (nI d))]) hx hb dX3_letIn_17 hl (by decide) rfl (fun ls hl => ?_)
        refine lk_best F hA hK th n E R Z B BR x.2.1 x.1 U br lc jo x.2.2 i d hw (x.2.1 - 1) 0 (by omega) (fun H locs hP hD hS ls hl => ?_) H locs hP hD hS ls (lv_sub hl [0, 1, 2, 3, 4] rfl)
        have hbs := mBs_le x.1 (x.2.1 - 1)
        · refine lv_iload_n hx hb dX3_letIn_57 rfl (lv_at hl 0 rfl) ?_
          refine lv_istore (lv' := [(4, .int (nI (mBs x.1 (x.2.1 - 1)))), (3, .int (nI (mBs x.1 (x.2.1 - 1)))), (2, .int (nI i)), (0, .ref (ad 0)), (1, .int (nI d))]) hx hb dX3_letIn_58 hl (by decide) rfl (fun ls hl => ?_)
          refine lk_shift F hA hK th n E R Z B BR x.2.1 x.1 U br lc jo x.2.2 (mBs x.1 (x.2.1 - 1)) i d hw (x.2.1 - 1 - mBs x.1 (x.2.1 - 1)) (mBs x.1 (x.2.1 - 1)) (by omega) (Nat.le_refl _) (fun H locs hP hD hS ls hl => ?_) H locs (by rw [mSf_0]; exact hP) (by rw [mSf_0]; exact hD) hS ls (lv_sub hl [0, 2, 3, 4] rfl)
          · refine lv_aload_n hx hb dX3_letIn_93 rfl (lv_at hl 1 rfl) ?_
            refine lv_dup hx hb dX3_letIn_94 rfl ?_
            refine va_get (D := D) (ci := 3) (v := .int (nI x.2.1)) (C := RX3) (T := TX3) (N := 14) hx hb hts hinX3 hown hK hP 0 rfl rfl 7 (by decide) hf_66 (fun _ h9 => h9) rfl dX3_letIn_95 ?_
            refine lv_iconst (v := nI 1) hx hb dX3_letIn_98 (by decide) ?_
            refine lv_isub hx hb dX3_letIn_99 ?_
            refine z_topi (y := nI (x.2.1 - 1)) (pk_sub (by omega)) ?_
            refine va_put (D := D) (ci := 3) (v := .int (nI (x.2.1 - 1))) (ty := .int) (C := RX3) (T := TX3) (N := 14) hx hb hts hinX3 tyX3 tyX3_ok nmX3 hown hK hP hD hS 0 rfl rfl 7 (by decide) hf_66 (fun _ h9 => h9) rfl (by decide +kernel) rfl rfl (Nat.le_of_ble_eq_true rfl) dX3_letIn_100 (fun H locs hP hD hS => ?_)
            have hP : va_P D vwCl (mW ad cy th n E R Z B BR (x.2.1 - 1) (mSf x.1 (mBs x.1 (x.2.1 - 1)) (x.2.1 - 1)) U br lc jo x.2.2) H := hP
            have hD : va_D A (mW ad cy th n E R Z B BR (x.2.1 - 1) (mSf x.1 (mBs x.1 (x.2.1 - 1)) (x.2.1 - 1)) U br lc jo x.2.2) := hD
            refine lv_aload_n hx hb dX3_letIn_103 rfl (lv_at hl 1 rfl) ?_
            refine lv_dup hx hb dX3_letIn_104 rfl ?_
            refine va_get (D := D) (ci := 3) (v := .long x.2.2) (C := RX3) (T := TX3) (N := 14) hx hb hts hinX3 hown hK hP 0 rfl rfl 13 (by decide) hf_69 (fun _ h9 => h9) rfl dX3_letIn_105 ?_
            refine lv_lconst (v := 1) hx hb dX3_letIn_108 (by decide) ?_
            refine lv_ladd hx hb dX3_letIn_109 ?_
            refine va_put (D := D) (ci := 3) (v := .long (x.2.2 + 1)) (ty := .long) (C := RX3) (T := TX3) (N := 14) hx hb hts hinX3 tyX3 tyX3_ok nmX3 hown hK hP hD hS 0 rfl rfl 13 (by decide) hf_69 (fun _ h9 => h9) rfl (by decide +kernel) rfl rfl (Nat.le_of_ble_eq_true rfl) dX3_letIn_110 (fun H locs hP hD hS => ?_)
            have hP : va_P D vwCl (mW ad cy th n E R Z B BR (x.2.1 - 1) (mSf x.1 (mBs x.1 (x.2.1 - 1)) (x.2.1 - 1)) U br lc jo (x.2.2 + 1)) H := hP
            have hD : va_D A (mW ad cy th n E R Z B BR (x.2.1 - 1) (mSf x.1 (mBs x.1 (x.2.1 - 1)) (x.2.1 - 1)) U br lc jo (x.2.2 + 1)) := hD
            refine lv_iinc (v := nI (i + 1)) (lv' := [(2, .int (nI (i + 1))), (0, .ref (ad 0)), (1, .int (nI d))]) hx hb dX3_letIn_113 hl (k := 0) rfl (by exact nI_1 _) (by decide) rfl (fun ls hl => ?_)
            refine lv_goto (tgt := 2) hx hb dX3_letIn_116 (by decide) ?_
            exact ih (i + 1) (mLe x) (by omega) (show x.2.1 - 1 ≤ 20 by omega) H locs hP hD hS ls (lv_sub hl [0, 1, 2] rfl)

set_option maxHeartbeats 4000000 in
set_option maxRecDepth 100000 in
theorem kX3_letIn (l : Launch) (D : va_G) (ad : Nat → Nat) (cy : Nat → ClassId) (sz : Nat) (th : Int32) (n : Nat) (E : Nat → Int64) (R : Nat → Int32) (Z : Nat → Int32) (B : Nat → Int32) (BR : Nat → Int64) (wt : Nat) (rk : Nat → Int32) (U : Nat → Int32) (br : Int32) (lc : Int32) (jo : Int64) (wk : Int64) (d : Nat) (hd : d ≤ 40) (hw : wt ≤ 20) : mV l yX3_letIn wsX3_letIn ({ frames := 0, cells := 0, slots := 0, locals := 0 }) [.ref (ad 0), .int (nI d)] D (mT cy) (mW ad cy th n E R Z B BR wt rk U br lc jo wk) sz (mW ad cy th n E R Z B BR ((mLet d (rk, wt, wk)).2.1) ((mLet d (rk, wt, wk)).1) U br lc jo ((mLet d (rk, wt, wk)).2.2)) 0 0 := by
  refine zin (fun A => zQv D (mT cy) (mW ad cy th n E R Z B BR ((mLet d (rk, wt, wk)).2.1) ((mLet d (rk, wt, wk)).1) U br lc jo ((mLet d (rk, wt, wk)).2.2)) A) (cc := cX3_letIn) (maxL := 5) (ret := none) (own := RX3) (by decide) rfl rfl (Nat.le_of_ble_eq_true rfl) ?_
  intro p e s m below meth c A F hr hlocks hmn hA hK H locs hP hD hS ls hl
  obtain ⟨hx, hb, hml, hown, hts⟩ := id F
  have hl : lv_has ls 5 [(0, .ref (ad 0)), (1, .int (nI d))] := hl
  refine lv_iconst (v := nI 0) hx hb dX3_letIn_0 (by decide) ?_
  refine lv_istore_n (lv' := [(2, .int (nI 0)), (0, .ref (ad 0)), (1, .int (nI d))]) hx hb dX3_letIn_1 rfl hl (by decide) rfl (fun ls hl => ?_)
  exact lp_letIn F hr hlocks hA hK th n E R Z B BR U br lc jo d hd d 0 (rk, wt, wk) (by omega) hw H locs hP hD hS ls (lv_sub hl [0, 1, 2] rfl)
