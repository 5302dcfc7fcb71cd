set_option maxHeartbeats 4000000 in
set_option maxRecDepth 100000 in
theorem lp_add {p : Program} {l : Launch} {e : Env} {s : State} {m : MethodId} {args : Array Value} {below : List Frame} {meth : Method} {c : Code} {A : Nat → Prop} {D : va_G} {ad : Nat → Nat} {cy : Nat → ClassId} (F : CallFix p m c cX1_add 4 s args wsX1_add RX1) (hr : meth.sig.returnType = (some .int)) (hlocks : meth.locks = false) (hA : ∀ q, s.heap.size ≤ q → A q) (hK : va_K D vwCl (cT cy) s) (n : Nat) (V : Nat → UInt64) (Z : Nat → Int32) (R : Nat → Int32) (K : Nat → Int32) (B : Nat → Int32) (M : Nat → Int32) (bc : Nat) (G : Int32) (L : Int32) (S : Int64) (q : Nat → Int32) (w : Int32) (U : Nat → Int32) (wk : Int64) (jo : UInt64) (r : Nat) (hr10 : r < 10) : ∀ (k : Nat) (j : Nat) (a : Int32), j + k = 10 → ∀ (H : Heap) (locs : List Loc), va_P D vwCl (cW ad cy n V Z R K B M bc G L S q w U wk jo) H → va_D A (cW ad cy n V Z R K B M bc G L S q w U wk jo) → va_S A s.heap H locs → ∀ ls : Array Slot, lv_has ls 4 [(3, .int (nI j)), (2, .int a), (0, .ref (ad 8)), (1, .int (nI r))] → W p l e ({ frames := 0, cells := 0, slots := 0, locals := 0 }) s m args below meth c H locs 0 0 (MQ below (zQi D (cT cy) (cW ad cy n V Z R K B M bc G L S (upd q r (q r + 1)) (w + 1) U wk jo) (pAdF q k j a) A) args s 0 0 A) (F0 m 15 ls []) := by
  obtain ⟨hx, hb, hml, hown, hts⟩ := id F
  have hinX1 : ∀ w ∈ wsX10, w ∈ wsX1_add := by decide +kernel
  have hf_11 := hts (.fieldLink RX1 11 "RegionShares$WaitingActs" "countOfRank" "[I") (by decide +kernel)
  have hf_15 := hts (.fieldLink RX1 15 "RegionShares$WaitingActs" "waiting" "I") (by decide +kernel)
  intro k
  induction k with
  | zero =>
    intro j a hk 
    intro H locs hP hD hS ls hl
    refine lv_iload_n hx hb dX1_add_15 rfl (lv_at hl 0 rfl) ?_
    refine lv_bipush (v := nI 10) hx hb dX1_add_16 (by decide) ?_
    refine zb_ge (a := j) (b := 10) (tgt := 36) hx hb dX1_add_18 (by decide) (by omega) (by omega) (fun c18 => ?_) (fun c18 => ?_)
    · refine lv_aload_n hx hb dX1_add_36 rfl (lv_at hl 2 rfl) ?_
      refine va_get (D := D) (ci := 1) (v := .ref (ad 10)) (C := RX1) (T := TX1) (N := 2) hx hb hts hinX1 hown hK hP 8 rfl rfl 0 (by decide) hf_11 (fun _ h9 => h9) rfl dX1_add_37 ?_
      refine lv_iload_n hx hb dX1_add_40 rfl (lv_at hl 3 rfl) ?_
      refine lv_dup2_11 hx hb dX1_add_41 rfl rfl ?_
      refine ax_ild hx hb hK hP 10 7 rfl rfl (by omega) (by omega) dX1_add_42 ?_
      refine lv_iconst (v := 1) hx hb dX1_add_43 (by decide) ?_
      refine lv_iadd hx hb dX1_add_44 ?_
      refine ax_ist hx hb hK hP hD hS 10 7 rfl rfl (by omega) (by omega) dX1_add_45 (fun H locs hP hD hS => ?_)
      have hP : va_P D vwCl (cW ad cy n V Z R K B M bc G L S (upd q r ((q r) + 1)) w U wk jo) H := hP
      have hD : va_D A (cW ad cy n V Z R K B M bc G L S (upd q r ((q r) + 1)) w U wk jo) := hD
      refine lv_aload_n hx hb dX1_add_46 rfl (lv_at hl 2 rfl) ?_
      refine lv_dup hx hb dX1_add_47 rfl ?_
      refine va_get (D := D) (ci := 1) (v := .int w) (C := RX1) (T := TX1) (N := 2) hx hb hts hinX1 hown hK hP 8 rfl rfl 1 (by decide) hf_15 (fun _ h9 => h9) rfl dX1_add_48 ?_
      refine lv_iconst (v := 1) hx hb dX1_add_51 (by decide) ?_
      refine lv_iadd hx hb dX1_add_52 ?_
      refine va_put (D := D) (ci := 1) (v := .int (w + 1)) (ty := .int) (C := RX1) (T := TX1) (N := 2) hx hb hts hinX1 tyX1 tyX1_ok nmX1 hown hK hP hD hS 8 rfl rfl 1 (by decide) hf_15 (fun _ h9 => h9) rfl (by decide +kernel) rfl rfl (Nat.le_of_ble_eq_true rfl) dX1_add_53 (fun H locs hP hD hS => ?_)
      have hP : va_P D vwCl (cW ad cy n V Z R K B M bc G L S (upd q r ((q r) + 1)) (w + 1) U wk jo) H := hP
      have hD : va_D A (cW ad cy n V Z R K B M bc G L S (upd q r ((q r) + 1)) (w + 1) U wk jo) := hD
      refine lv_iload_n hx hb dX1_add_56 rfl (lv_at hl 1 rfl) ?_
      exact zret_i F hr hlocks hK hP hD hS rfl dX1_add_57
    · exact absurd c18 (by omega)
  | succ k ih =>
    intro j a hk  H locs hP hD hS ls hl
    refine lv_iload_n hx hb dX1_add_15 rfl (lv_at hl 0 rfl) ?_
    refine lv_bipush (v := nI 10) hx hb dX1_add_16 (by decide) ?_
    refine zb_ge (a := j) (b := 10) (tgt := 36) hx hb dX1_add_18 (by decide) (by omega) (by omega) (fun c18 => ?_) (fun c18 => ?_)
    · exact absurd c18 (by omega)
    · refine lv_iload_n hx hb dX1_add_21 rfl (lv_at hl 1 rfl) ?_
      refine lv_aload_n hx hb dX1_add_22 rfl (lv_at hl 2 rfl) ?_
      refine va_get (D := D) (ci := 1) (v := .ref (ad 10)) (C := RX1) (T := TX1) (N := 2) hx hb hts hinX1 hown hK hP 8 rfl rfl 0 (by decide) hf_11 (fun _ h9 => h9) rfl dX1_add_23 ?_
      refine lv_iload_n hx hb dX1_add_26 rfl (lv_at hl 0 rfl) ?_
      refine ax_ild hx hb hK hP 10 7 rfl rfl (by omega) (by omega) dX1_add_27 ?_
      refine lv_iadd hx hb dX1_add_28 ?_
      refine lv_istore_n (lv' := [(2, .int (a + (q j))), (3, .int (nI j)), (0, .ref (ad 8)), (1, .int (nI r))]) hx hb dX1_add_29 rfl hl (by decide) rfl (fun ls hl => ?_)
      refine lv_iinc (v := nI (j + 1)) (lv' := [(3, .int (nI (j + 1))), (2, .int (a + (q j))), (0, .ref (ad 8)), (1, .int (nI r))]) hx hb dX1_add_30 hl (k := 1) rfl (by exact nI_1 _) (by decide) rfl (fun ls hl => ?_)
      refine lv_goto (tgt := 15) hx hb dX1_add_33 (by decide) ?_
      exact ih (j + 1) _ (by omega) H locs hP hD hS ls (lv_sub hl [0, 1, 2, 3] rfl)

set_option maxHeartbeats 4000000 in
set_option maxRecDepth 100000 in
theorem kX1_add0 (l : Launch) (D : va_G) (ad : Nat → Nat) (cy : Nat → ClassId) (sz : Nat) (n : Nat) (V : Nat → UInt64) (Z : Nat → Int32) (R : Nat → Int32) (K : Nat → Int32) (B : Nat → Int32) (M : Nat → Int32) (bc : Nat) (G : Int32) (L : Int32) (S : Int64) (q : Nat → Int32) (w : Int32) (U : Nat → Int32) (wk : Int64) (jo : UInt64) (r : Nat) (h : ¬ w < nI 20) : mI l yX1_add wsX1_add ({ frames := 0, cells := 0, slots := 0, locals := 0 }) [.ref (ad 8), .int (nI r)] D (cT cy) (cW ad cy n V Z R K B M bc G L S q w U wk jo) sz (-1) (cW ad cy n V Z R K B M bc G L S q w U wk jo) 0 0 := by
  refine zin (fun A => zQi D (cT cy) (cW ad cy n V Z R K B M bc G L S q w U wk jo) (-1) A) (cc := cX1_add) (maxL := 4) (ret := (some .int)) (own := RX1) (by decide) rfl rfl (Nat.le_of_ble_eq_true rfl) ?_
  intro p e s m below meth c A F hr hlocks hmn hA hK H locs hP hD hS ls hl
  obtain ⟨hx, hb, hml, hown, hts⟩ := id F
  have hl : lv_has ls 4 [(0, .ref (ad 8)), (1, .int (nI r))] := hl
  have hinX1 : ∀ w ∈ wsX10, w ∈ wsX1_add := by decide +kernel
  have hf_15 := hts (.fieldLink RX1 15 "RegionShares$WaitingActs" "waiting" "I") (by decide +kernel)
  refine lv_aload_n hx hb dX1_add_0 rfl (lv_at hl 0 rfl) ?_
  refine va_get (D := D) (ci := 1) (v := .int w) (C := RX1) (T := TX1) (N := 2) hx hb hts hinX1 hown hK hP 8 rfl rfl 1 (by decide) hf_15 (fun _ h9 => h9) rfl dX1_add_1 ?_
  refine lv_bipush (v := nI 20) hx hb dX1_add_4 (by decide) ?_
  refine lv_icmp_lt (tgt := 11) hx hb dX1_add_6 (by decide) (fun c6 => ?_) (fun c6 => ?_)
  · exact absurd c6 h
  · refine lv_iconst (v := (-1)) hx hb dX1_add_9 (by decide) ?_
    exact zret_i F hr hlocks hK hP hD hS rfl dX1_add_10

set_option maxHeartbeats 4000000 in
set_option maxRecDepth 100000 in
theorem kX1_add1 (l : Launch) (D : va_G) (ad : Nat → Nat) (cy : Nat → ClassId) (sz : Nat) (n : Nat) (V : Nat → UInt64) (Z : Nat → Int32) (R : Nat → Int32) (K : Nat → Int32) (B : Nat → Int32) (M : Nat → Int32) (bc : Nat) (G : Int32) (L : Int32) (S : Int64) (q : Nat → Int32) (w : Int32) (U : Nat → Int32) (wk : Int64) (jo : UInt64) (r : Nat) (h : w < nI 20) (hr10 : r < 10) : mI l yX1_add wsX1_add ({ frames := 0, cells := 0, slots := 0, locals := 0 }) [.ref (ad 8), .int (nI r)] D (cT cy) (cW ad cy n V Z R K B M bc G L S q w U wk jo) sz (pAdF q (10 - r) r 0) (cW ad cy n V Z R K B M bc G L S (upd q r (q r + 1)) (w + 1) U wk jo) 0 0 := by
  refine zin (fun A => zQi D (cT cy) (cW ad cy n V Z R K B M bc G L S (upd q r (q r + 1)) (w + 1) U wk jo) (pAdF q (10 - r) r 0) A) (cc := cX1_add) (maxL := 4) (ret := (some .int)) (own := RX1) (by decide) rfl rfl (Nat.le_of_ble_eq_true rfl) ?_
  intro p e s m below meth c A F hr hlocks hmn hA hK H locs hP hD hS ls hl
  obtain ⟨hx, hb, hml, hown, hts⟩ := id F
  have hl : lv_has ls 4 [(0, .ref (ad 8)), (1, .int (nI r))] := hl
  have hinX1 : ∀ w ∈ wsX10, w ∈ wsX1_add := by decide +kernel
  have hf_15 := hts (.fieldLink RX1 15 "RegionShares$WaitingActs" "waiting" "I") (by decide +kernel)
  refine lv_aload_n hx hb dX1_add_0 rfl (lv_at hl 0 rfl) ?_
  refine va_get (D := D) (ci := 1) (v := .int w) (C := RX1) (T := TX1) (N := 2) hx hb hts hinX1 hown hK hP 8 rfl rfl 1 (by decide) hf_15 (fun _ h9 => h9) rfl dX1_add_1 ?_
  refine lv_bipush (v := nI 20) hx hb dX1_add_4 (by decide) ?_
  refine lv_icmp_lt (tgt := 11) hx hb dX1_add_6 (by decide) (fun c6 => ?_) (fun c6 => ?_)
  · refine lv_iconst (v := 0) hx hb dX1_add_11 (by decide) ?_
    refine lv_istore_n (lv' := [(2, .int 0), (0, .ref (ad 8)), (1, .int (nI r))]) hx hb dX1_add_12 rfl hl (by decide) rfl (fun ls hl => ?_)
    refine lv_iload_n hx hb dX1_add_13 rfl (lv_at hl 2 rfl) ?_
    refine lv_istore_n (lv' := [(3, .int (nI r)), (2, .int 0), (0, .ref (ad 8)), (1, .int (nI r))]) hx hb dX1_add_14 rfl hl (by decide) rfl (fun ls hl => ?_)
    exact lp_add F hr hlocks hA hK n V Z R K B M bc G L S q w U wk jo r hr10 (10 - r) r 0 (by omega) H locs hP hD hS ls (lv_sub hl [0, 1, 2, 3] rfl)
  · exact absurd h c6

set_option maxHeartbeats 4000000 in
set_option maxRecDepth 100000 in
theorem lp_letOneIn {p : Program} {l : Launch} {e : Env} {s : State} {m : MethodId} {args : Array Value} {below : List Frame} {meth : Method} {c : Code} {A : Nat → Prop} {D : va_G} {ad : Nat → Nat} {cy : Nat → ClassId} (F : CallFix p m c cX1_letOneIn 2 s args wsX1_letOneIn RX1) (hr : meth.sig.returnType = (some .boolean)) (hlocks : meth.locks = false) (hA : ∀ q, s.heap.size ≤ q → A q) (hK : va_K D vwCl (cT cy) s) (n : Nat) (V : Nat → UInt64) (Z : Nat → Int32) (R : Nat → Int32) (K : Nat → Int32) (B : Nat → Int32) (M : Nat → Int32) (bc : Nat) (G : Int32) (L : Int32) (S : Int64) (q : Nat → Int32) (w : Int32) (U : Nat → Int32) (wk : Int64) (jo : UInt64)  : ∀ (k : Nat) , k ≤ 10 → ∀ (H : Heap) (locs : List Loc), va_P D vwCl (cW ad cy n V Z R K B M bc G L S q w U wk jo) H → va_D A (cW ad cy n V Z R K B M bc G L S q w U wk jo) → va_S A s.heap H locs → ∀ ls : Array Slot, lv_has ls 2 [(1, .int (nI k + (-1))), (0, .ref (ad 8))] → W p l e ({ frames := 0, cells := 0, slots := 0, locals := 0 }) s m args below meth c H locs 0 0 (MQ below (zQi D (cT cy) (cW ad cy n V Z R K B M bc G L S ((pLoK q w k).2.1) ((pLoK q w k).2.2) U wk jo) ((pLoK q w k).1) A) args s 0 0 A) (F0 m 3 ls []) := by
  obtain ⟨hx, hb, hml, hown, hts⟩ := id F
  have hinX1 : ∀ w ∈ wsX10, w ∈ wsX1_letOneIn := by decide +kernel
  have hf_11 := hts (.fieldLink RX1 11 "RegionShares$WaitingActs" "countOfRank" "[I") (by decide +kernel)
  have hf_15 := hts (.fieldLink RX1 15 "RegionShares$WaitingActs" "waiting" "I") (by decide +kernel)
  intro k
  induction k with
  | zero =>
    intro  hk 
    intro H locs hP hD hS ls hl
    refine lv_iload_n hx hb dX1_letOneIn_3 rfl (lv_at hl 0 rfl) ?_
    refine lv_if_lt (tgt := 44) hx hb dX1_letOneIn_4 (by decide) (fun c4 => ?_) (fun c4 => ?_)
    · refine lv_iconst (v := 0) hx hb dX1_letOneIn_44 (by decide) ?_
      exact zret_z F hr hlocks hK hP hD hS (by decide) rfl dX1_letOneIn_45
    · exact absurd (by decide) c4
  | succ k ih =>
    intro  hk  H locs hP hD hS ls hl
    rw [pk_m1] at hl
    refine lv_iload_n hx hb dX1_letOneIn_3 rfl (lv_at hl 0 rfl) ?_
    refine lv_if_lt (tgt := 44) hx hb dX1_letOneIn_4 (by decide) (fun c4 => ?_) (fun c4 => ?_)
    · exact absurd c4 (nI_pos (by omega))
    · refine lv_aload_n hx hb dX1_letOneIn_7 rfl (lv_at hl 1 rfl) ?_
      refine va_get (D := D) (ci := 1) (v := .ref (ad 10)) (C := RX1) (T := TX1) (N := 2) hx hb hts hinX1 hown hK hP 8 rfl rfl 0 (by decide) hf_11 (fun _ h9 => h9) rfl dX1_letOneIn_8 ?_
      refine lv_iload_n hx hb dX1_letOneIn_11 rfl (lv_at hl 0 rfl) ?_
      refine ax_ild hx hb hK hP 10 7 rfl rfl (by omega) (by omega) dX1_letOneIn_12 ?_
      refine lv_if_le (tgt := 38) hx hb dX1_letOneIn_13 (by decide) (fun c13 => ?_) (fun c13 => ?_)
      · rw [show pLoK q w (k + 1) = pLoK q w k from if_pos c13]
        refine lv_iinc (v := (nI k) + (-1)) (lv' := [(1, .int ((nI k) + (-1))), (0, .ref (ad 8))]) hx hb dX1_letOneIn_38 hl (k := 0) rfl rfl (by decide) rfl (fun ls hl => ?_)
        refine lv_goto (tgt := 3) hx hb dX1_letOneIn_41 (by decide) ?_
        exact ih (by omega) H locs hP hD hS ls (lv_sub hl [0, 1] rfl)
      · rw [show pLoK q w (k + 1) = (1, upd q k (q k - 1), w - 1) from if_neg c13]
        refine lv_aload_n hx hb dX1_letOneIn_16 rfl (lv_at hl 1 rfl) ?_
        refine va_get (D := D) (ci := 1) (v := .ref (ad 10)) (C := RX1) (T := TX1) (N := 2) hx hb hts hinX1 hown hK hP 8 rfl rfl 0 (by decide) hf_11 (fun _ h9 => h9) rfl dX1_letOneIn_17 ?_
        refine lv_iload_n hx hb dX1_letOneIn_20 rfl (lv_at hl 0 rfl) ?_
        refine lv_dup2_11 hx hb dX1_letOneIn_21 rfl rfl ?_
        refine ax_ild hx hb hK hP 10 7 rfl rfl (by omega) (by omega) dX1_letOneIn_22 ?_
        refine lv_iconst (v := 1) hx hb dX1_letOneIn_23 (by decide) ?_
        refine lv_isub hx hb dX1_letOneIn_24 ?_
        refine ax_ist hx hb hK hP hD hS 10 7 rfl rfl (by omega) (by omega) dX1_letOneIn_25 (fun H locs hP hD hS => ?_)
        have hP : va_P D vwCl (cW ad cy n V Z R K B M bc G L S (upd q k ((q k) - 1)) w U wk jo) H := hP
        have hD : va_D A (cW ad cy n V Z R K B M bc G L S (upd q k ((q k) - 1)) w U wk jo) := hD
        refine lv_aload_n hx hb dX1_letOneIn_26 rfl (lv_at hl 1 rfl) ?_
        refine lv_dup hx hb dX1_letOneIn_27 rfl ?_
        refine va_get (D := D) (ci := 1) (v := .int w) (C := RX1) (T := TX1) (N := 2) hx hb hts hinX1 hown hK hP 8 rfl rfl 1 (by decide) hf_15 (fun _ h9 => h9) rfl dX1_letOneIn_28 ?_
        refine lv_iconst (v := 1) hx hb dX1_letOneIn_31 (by decide) ?_
        refine lv_isub hx hb dX1_letOneIn_32 ?_
        refine va_put (D := D) (ci := 1) (v := .int (w - 1)) (ty := .int) (C := RX1) (T := TX1) (N := 2) hx hb hts hinX1 tyX1 tyX1_ok nmX1 hown hK hP hD hS 8 rfl rfl 1 (by decide) hf_15 (fun _ h9 => h9) rfl (by decide +kernel) rfl rfl (Nat.le_of_ble_eq_true rfl) dX1_letOneIn_33 (fun H locs hP hD hS => ?_)
        have hP : va_P D vwCl (cW ad cy n V Z R K B M bc G L S (upd q k ((q k) - 1)) (w - 1) U wk jo) H := hP
        have hD : va_D A (cW ad cy n V Z R K B M bc G L S (upd q k ((q k) - 1)) (w - 1) U wk jo) := hD
        refine lv_iconst (v := 1) hx hb dX1_letOneIn_36 (by decide) ?_
        exact zret_z F hr hlocks hK hP hD hS (by decide) rfl dX1_letOneIn_37

set_option maxHeartbeats 4000000 in
set_option maxRecDepth 100000 in
theorem kX1_letOneIn (l : Launch) (D : va_G) (ad : Nat → Nat) (cy : Nat → ClassId) (sz : Nat) (n : Nat) (V : Nat → UInt64) (Z : Nat → Int32) (R : Nat → Int32) (K : Nat → Int32) (B : Nat → Int32) (M : Nat → Int32) (bc : Nat) (G : Int32) (L : Int32) (S : Int64) (q : Nat → Int32) (w : Int32) (U : Nat → Int32) (wk : Int64) (jo : UInt64)  : mI l yX1_letOneIn wsX1_letOneIn ({ frames := 0, cells := 0, slots := 0, locals := 0 }) [.ref (ad 8)] D (cT cy) (cW ad cy n V Z R K B M bc G L S q w U wk jo) sz ((pLo q w).1) (cW ad cy n V Z R K B M bc G L S ((pLo q w).2.1) ((pLo q w).2.2) U wk jo) 0 0 := by
  refine zin (fun A => zQi D (cT cy) (cW ad cy n V Z R K B M bc G L S ((pLo q w).2.1) ((pLo q w).2.2) U wk jo) ((pLo q w).1) A) (cc := cX1_letOneIn) (maxL := 2) (ret := (some .boolean)) (own := RX1) (by decide) rfl rfl (Nat.le_of_ble_eq_true rfl) ?_
  intro p e s m below meth c A F hr hlocks hmn hA hK H locs hP hD hS ls hl
  obtain ⟨hx, hb, hml, hown, hts⟩ := id F
  have hl : lv_has ls 2 [(0, .ref (ad 8))] := hl
  refine lv_bipush (v := nI 10 + (-1)) hx hb dX1_letOneIn_0 (by decide) ?_
  refine lv_istore_n (lv' := [(1, .int (nI 10 + (-1))), (0, .ref (ad 8))]) hx hb dX1_letOneIn_2 rfl hl (by decide) rfl (fun ls hl => ?_)
  exact lp_letOneIn F hr hlocks hA hK n V Z R K B M bc G L S q w U wk jo 10 (by omega) H locs hP hD hS ls (lv_sub hl [0, 1] rfl)

set_option maxHeartbeats 4000000 in
set_option maxRecDepth 100000 in
theorem kX2_breaksAt0 (l : Launch) (D : va_G) (ad : Nat → Nat) (cy : Nat → ClassId) (sz : Nat) (n : Nat) (V : Nat → UInt64) (Z : Nat → Int32) (R : Nat → Int32) (K : Nat → Int32) (B : Nat → Int32) (M : Nat → Int32) (bc : Nat) (G : Int32) (L : Int32) (S : Int64) (q : Nat → Int32) (w : Int32) (U : Nat → Int32) (wk : Int64) (jo : UInt64) (wr : Int32) (k : Nat) (h : K k &&& pBit wr = 0) (hk : k < n) (hn : n ≤ 40) : mI l yX2_breaksAt wsX2_breaksAt ({ frames := 0, cells := 0, slots := 0, locals := 0 }) [.ref (ad 0), .int wr, .int (nI k)] D (cT cy) (cW ad cy n V Z R K B M bc G L S q w U wk jo) sz 0 (cW ad cy n V Z R K B M bc G L S q w U wk jo) 0 0 := by
  refine zin (fun A => zQi D (cT cy) (cW ad cy n V Z R K B M bc G L S q w U wk jo) 0 A) (cc := cX2_breaksAt) (maxL := 3) (ret := (some .boolean)) (own := RX2) (by decide) rfl rfl (Nat.le_of_ble_eq_true rfl) ?_
  intro p e s m below meth c A F hr hlocks hmn hA hK H locs hP hD hS ls hl
  obtain ⟨hx, hb, hml, hown, hts⟩ := id F
  have hl : lv_has ls 3 [(0, .ref (ad 0)), (1, .int wr), (2, .int (nI k))] := hl
  have hinX2 : ∀ w ∈ wsX20, w ∈ wsX2_breaksAt := by decide +kernel
  have hf_34 := hts (.fieldLink RX2 34 "RegionShares" "breakers" "[I") (by decide +kernel)
  refine lv_aload_n hx hb dX2_breaksAt_0 rfl (lv_at hl 0 rfl) ?_
  refine va_get (D := D) (ci := 2) (v := .ref (ad 4)) (C := RX2) (T := TX2) (N := 13) hx hb hts hinX2 hown hK hP 0 rfl rfl 4 (by decide) hf_34 (fun _ h9 => h9) rfl dX2_breaksAt_1 ?_
  refine lv_iload_n hx hb dX2_breaksAt_4 rfl (lv_at hl 2 rfl) ?_
  refine ax_ild hx hb hK hP 4 3 rfl rfl (by omega) (by omega) dX2_breaksAt_5 ?_
  refine lv_iconst (v := 1) hx hb dX2_breaksAt_6 (by decide) ?_
  refine lv_iload_n hx hb dX2_breaksAt_7 rfl (lv_at hl 1 rfl) ?_
  refine lv_ishl hx hb dX2_breaksAt_8 ?_
  refine z_topi (y := pBit wr) rfl ?_
  refine lv_iand hx hb dX2_breaksAt_9 ?_
  refine lv_if_eq (tgt := 17) hx hb dX2_breaksAt_10 (by decide) (fun c10 => ?_) (fun c10 => ?_)
  · refine lv_iconst (v := 0) hx hb dX2_breaksAt_17 (by decide) ?_
    exact zret_z F hr hlocks hK hP hD hS (by decide) rfl dX2_breaksAt_18
  · exact absurd h c10

set_option maxHeartbeats 4000000 in
set_option maxRecDepth 100000 in
theorem kX2_breaksAt1 (l : Launch) (D : va_G) (ad : Nat → Nat) (cy : Nat → ClassId) (sz : Nat) (n : Nat) (V : Nat → UInt64) (Z : Nat → Int32) (R : Nat → Int32) (K : Nat → Int32) (B : Nat → Int32) (M : Nat → Int32) (bc : Nat) (G : Int32) (L : Int32) (S : Int64) (q : Nat → Int32) (w : Int32) (U : Nat → Int32) (wk : Int64) (jo : UInt64) (wr : Int32) (k : Nat) (h : ¬ K k &&& pBit wr = 0) (hk : k < n) (hn : n ≤ 40) : mI l yX2_breaksAt wsX2_breaksAt ({ frames := 0, cells := 0, slots := 0, locals := 0 }) [.ref (ad 0), .int wr, .int (nI k)] D (cT cy) (cW ad cy n V Z R K B M bc G L S q w U wk jo) sz 1 (cW ad cy n V Z R K B M bc G L S q w U wk jo) 0 0 := by
  refine zin (fun A => zQi D (cT cy) (cW ad cy n V Z R K B M bc G L S q w U wk jo) 1 A) (cc := cX2_breaksAt) (maxL := 3) (ret := (some .boolean)) (own := RX2) (by decide) rfl rfl (Nat.le_of_ble_eq_true rfl) ?_
  intro p e s m below meth c A F hr hlocks hmn hA hK H locs hP hD hS ls hl
  obtain ⟨hx, hb, hml, hown, hts⟩ := id F
  have hl : lv_has ls 3 [(0, .ref (ad 0)), (1, .int wr), (2, .int (nI k))] := hl
  have hinX2 : ∀ w ∈ wsX20, w ∈ wsX2_breaksAt := by decide +kernel
  have hf_34 := hts (.fieldLink RX2 34 "RegionShares" "breakers" "[I") (by decide +kernel)
  refine lv_aload_n hx hb dX2_breaksAt_0 rfl (lv_at hl 0 rfl) ?_
  refine va_get (D := D) (ci := 2) (v := .ref (ad 4)) (C := RX2) (T := TX2) (N := 13) hx hb hts hinX2 hown hK hP 0 rfl rfl 4 (by decide) hf_34 (fun _ h9 => h9) rfl dX2_breaksAt_1 ?_
  refine lv_iload_n hx hb dX2_breaksAt_4 rfl (lv_at hl 2 rfl) ?_
  refine ax_ild hx hb hK hP 4 3 rfl rfl (by omega) (by omega) dX2_breaksAt_5 ?_
  refine lv_iconst (v := 1) hx hb dX2_breaksAt_6 (by decide) ?_
  refine lv_iload_n hx hb dX2_breaksAt_7 rfl (lv_at hl 1 rfl) ?_
  refine lv_ishl hx hb dX2_breaksAt_8 ?_
  refine z_topi (y := pBit wr) rfl ?_
  refine lv_iand hx hb dX2_breaksAt_9 ?_
  refine lv_if_eq (tgt := 17) hx hb dX2_breaksAt_10 (by decide) (fun c10 => ?_) (fun c10 => ?_)
  · exact absurd c10 h
  · refine lv_iconst (v := 1) hx hb dX2_breaksAt_13 (by decide) ?_
    refine lv_goto (tgt := 18) hx hb dX2_breaksAt_14 (by decide) ?_
    exact zret_z F hr hlocks hK hP hD hS (by decide) rfl dX2_breaksAt_18

set_option maxHeartbeats 4000000 in
set_option maxRecDepth 100000 in
theorem lp_lowest {p : Program} {l : Launch} {e : Env} {s : State} {m : MethodId} {args : Array Value} {below : List Frame} {meth : Method} {c : Code} {A : Nat → Prop} {D : va_G} {ad : Nat → Nat} {cy : Nat → ClassId} (F : CallFix p m c cX2_lowestBatchFor 3 s args wsX2_lowestBatchFor RX2) (hr : meth.sig.returnType = (some .int)) (hlocks : meth.locks = false) (hA : ∀ q, s.heap.size ≤ q → A q) (hK : va_K D vwCl (cT cy) s) (n : Nat) (V : Nat → UInt64) (Z : Nat → Int32) (R : Nat → Int32) (K : Nat → Int32) (B : Nat → Int32) (M : Nat → Int32) (bc : Nat) (G : Int32) (L : Int32) (S : Int64) (q : Nat → Int32) (w : Int32) (U : Nat → Int32) (wk : Int64) (jo : UInt64) (i : Nat) (hi9 : i < n) (hn : n ≤ 40) : ∀ (k : Nat) (b : Nat), b + k = i → ∀ (H : Heap) (locs : List Loc), va_P D vwCl (cW ad cy n V Z R K B M bc G L S q w U wk jo) H → va_D A (cW ad cy n V Z R K B M bc G L S q w U wk jo) → va_S A s.heap H locs → ∀ ls : Array Slot, lv_has ls 3 [(2, .int (nI b)), (0, .ref (ad 0)), (1, .int (nI i))] → W p l e ({ frames := 0, cells := 0, slots := 0, locals := 0 }) s m args below meth c H locs 0 0 (MQ below (zQi D (cT cy) (cW ad cy n V Z R K B M bc G L S q w U wk jo) (nI (pLowF M (R i) k b)) A) args s 0 0 A) (F0 m 2 ls []) := by
  obtain ⟨hx, hb, hml, hown, hts⟩ := id F
  have hinX2 : ∀ w ∈ wsX20, w ∈ wsX2_lowestBatchFor := by decide +kernel
  have hf_30 := hts (.fieldLink RX2 30 "RegionShares" "regions" "[I") (by decide +kernel)
  have hf_40 := hts (.fieldLink RX2 40 "RegionShares" "batchRegions" "[I") (by decide +kernel)
  intro k
  induction k with
  | zero =>
    intro b hk 
    intro H locs hP hD hS ls hl
    refine lv_iload_n hx hb dX2_lowestBatchFor_2 rfl (lv_at hl 0 rfl) ?_
    refine lv_iload_n hx hb dX2_lowestBatchFor_3 rfl (lv_at hl 2 rfl) ?_
    refine zb_ge (a := b) (b := i) (tgt := 31) hx hb dX2_lowestBatchFor_4 (by decide) (by omega) (by omega) (fun c4 => ?_) (fun c4 => ?_)
    · refine lv_iload_n hx hb dX2_lowestBatchFor_31 rfl (lv_at hl 2 rfl) ?_
      exact zret_i F hr hlocks hK hP hD hS (by rw [show b = i by omega]; rfl) dX2_lowestBatchFor_32
    · exact absurd c4 (by omega)
  | succ k ih =>
    intro b hk  H locs hP hD hS ls hl
    refine lv_iload_n hx hb dX2_lowestBatchFor_2 rfl (lv_at hl 0 rfl) ?_
    refine lv_iload_n hx hb dX2_lowestBatchFor_3 rfl (lv_at hl 2 rfl) ?_
    refine zb_ge (a := b) (b := i) (tgt := 31) hx hb dX2_lowestBatchFor_4 (by decide) (by omega) (by omega) (fun c4 => ?_) (fun c4 => ?_)
    · exact absurd c4 (by omega)
    · refine lv_aload_n hx hb dX2_lowestBatchFor_7 rfl (lv_at hl 1 rfl) ?_
      refine va_get (D := D) (ci := 2) (v := .ref (ad 6)) (C := RX2) (T := TX2) (N := 13) hx hb hts hinX2 hown hK hP 0 rfl rfl 6 (by decide) hf_40 (fun _ h9 => h9) rfl dX2_lowestBatchFor_8 ?_
      refine lv_iload_n hx hb dX2_lowestBatchFor_11 rfl (lv_at hl 0 rfl) ?_
      refine ax_ild hx hb hK hP 6 5 rfl rfl (by omega) (by omega) dX2_lowestBatchFor_12 ?_
      refine lv_aload_n hx hb dX2_lowestBatchFor_13 rfl (lv_at hl 1 rfl) ?_
      refine va_get (D := D) (ci := 2) (v := .ref (ad 3)) (C := RX2) (T := TX2) (N := 13) hx hb hts hinX2 hown hK hP 0 rfl rfl 3 (by decide) hf_30 (fun _ h9 => h9) rfl dX2_lowestBatchFor_14 ?_
      refine lv_iload_n hx hb dX2_lowestBatchFor_17 rfl (lv_at hl 2 rfl) ?_
      refine ax_ild hx hb hK hP 3 2 rfl rfl (by omega) (by omega) dX2_lowestBatchFor_18 ?_
      refine lv_iand hx hb dX2_lowestBatchFor_19 ?_
      refine lv_if_ne (tgt := 25) hx hb dX2_lowestBatchFor_20 (by decide) (fun c20 => ?_) (fun c20 => ?_)
      · rw [show pLowF M (R i) (k + 1) b = pLowF M (R i) k (b + 1) from if_neg c20]
        refine lv_iinc (v := nI (b + 1)) (lv' := [(2, .int (nI (b + 1))), (0, .ref (ad 0)), (1, .int (nI i))]) hx hb dX2_lowestBatchFor_25 hl (k := 0) rfl (by exact nI_1 _) (by decide) rfl (fun ls hl => ?_)
        refine lv_goto (tgt := 2) hx hb dX2_lowestBatchFor_28 (by decide) ?_
        exact ih (b + 1) (by omega) H locs hP hD hS ls (lv_sub hl [0, 1, 2] rfl)
      · rw [show pLowF M (R i) (k + 1) b = b from if_pos c20]
        refine lv_iload_n hx hb dX2_lowestBatchFor_23 rfl (lv_at hl 0 rfl) ?_
        exact zret_i F hr hlocks hK hP hD hS rfl dX2_lowestBatchFor_24

set_option maxHeartbeats 4000000 in
set_option maxRecDepth 100000 in
theorem kX2_lowestBatchFor (l : Launch) (D : va_G) (ad : Nat → Nat) (cy : Nat → ClassId) (sz : Nat) (n : Nat) (V : Nat → UInt64) (Z : Nat → Int32) (R : Nat → Int32) (K : Nat → Int32) (B : Nat → Int32) (M : Nat → Int32) (bc : Nat) (G : Int32) (L : Int32) (S : Int64) (q : Nat → Int32) (w : Int32) (U : Nat → Int32) (wk : Int64) (jo : UInt64) (i : Nat) (hi9 : i < n) (hn : n ≤ 40) : mI l yX2_lowestBatchFor wsX2_lowestBatchFor ({ frames := 0, cells := 0, slots := 0, locals := 0 }) [.ref (ad 0), .int (nI i)] D (cT cy) (cW ad cy n V Z R K B M bc G L S q w U wk jo) sz (nI (pLowF M (R i) i 0)) (cW ad cy n V Z R K B M bc G L S q w U wk jo) 0 0 := by
  refine zin (fun A => zQi D (cT cy) (cW ad cy n V Z R K B M bc G L S q w U wk jo) (nI (pLowF M (R i) i 0)) A) (cc := cX2_lowestBatchFor) (maxL := 3) (ret := (some .int)) (own := RX2) (by decide) rfl rfl (Nat.le_of_ble_eq_true rfl) ?_
  intro p e s m below meth c A F hr hlocks hmn hA hK H locs hP hD hS ls hl
  obtain ⟨hx, hb, hml, hown, hts⟩ := id F
  have hl : lv_has ls 3 [(0, .ref (ad 0)), (1, .int (nI i))] := hl
  refine lv_iconst (v := nI 0) hx hb dX2_lowestBatchFor_0 (by decide) ?_
  refine lv_istore_n (lv' := [(2, .int (nI 0)), (0, .ref (ad 0)), (1, .int (nI i))]) hx hb dX2_lowestBatchFor_1 rfl hl (by decide) rfl (fun ls hl => ?_)
  exact lp_lowest F hr hlocks hA hK n V Z R K B M bc G L S q w U wk jo i hi9 hn i 0 (by omega) H locs hP hD hS ls (lv_sub hl [0, 1, 2] rfl)

set_option maxHeartbeats 4000000 in
set_option maxRecDepth 100000 in
theorem lp_sort {p : Program} {l : Launch} {e : Env} {s : State} {m : MethodId} {args : Array Value} {below : List Frame} {meth : Method} {c : Code} {A : Nat → Prop} {D : va_G} {ad : Nat → Nat} {cy : Nat → ClassId} (F : CallFix p m c cX2_sortIntoBatches 3 s args wsX2_sortIntoBatches RX2) (hr : meth.sig.returnType = none) (hlocks : meth.locks = false) (hA : ∀ q, s.heap.size ≤ q → A q) (hK : va_K D vwCl (cT cy) s) (n : Nat) (V : Nat → UInt64) (Z : Nat → Int32) (R : Nat → Int32) (K : Nat → Int32) (B : Nat → Int32) (M : Nat → Int32) (G : Int32) (L : Int32) (S : Int64) (q : Nat → Int32) (w : Int32) (U : Nat → Int32) (wk : Int64) (jo : UInt64)  (hn : n ≤ 40) : ∀ (k : Nat) (i : Nat), i + k = n → ∀ (H : Heap) (locs : List Loc), va_P D vwCl (cW ad cy n V Z R K ((pSi R B M i).1) ((pSi R B M i).2.1) ((pSi R B M i).2.2) G L S q w U wk jo) H → va_D A (cW ad cy n V Z R K ((pSi R B M i).1) ((pSi R B M i).2.1) ((pSi R B M i).2.2) G L S q w U wk jo) → va_S A s.heap H locs → ∀ ls : Array Slot, lv_has ls 3 [(1, .int (nI i)), (0, .ref (ad 0))] → W p l e ({ frames := 1, cells := 0, slots := 0, locals := 22 }) s m args below meth c H locs 0 0 (MQ below (zQv D (cT cy) (cW ad cy n V Z R K ((pSi R B M n).1) ((pSi R B M n).2.1) ((pSi R B M n).2.2) G L S q w U wk jo) A) args s 0 0 A) (F0 m 30 ls []) := by
  obtain ⟨hx, hb, hml, hown, hts⟩ := id F
  have hinX2 : ∀ w ∈ wsX20, w ∈ wsX2_sortIntoBatches := by decide +kernel
  have hf_18 := hts (.fieldLink RX2 18 "RegionShares" "shares" "I") (by decide +kernel)
  have hf_30 := hts (.fieldLink RX2 30 "RegionShares" "regions" "[I") (by decide +kernel)
  have hf_37 := hts (.fieldLink RX2 37 "RegionShares" "batchOf" "[I") (by decide +kernel)
  have hf_40 := hts (.fieldLink RX2 40 "RegionShares" "batchRegions" "[I") (by decide +kernel)
  have hf_43 := hts (.fieldLink RX2 43 "RegionShares" "batchCount" "I") (by decide +kernel)
  intro k
  induction k with
  | zero =>
    intro i hk 
    intro H locs hP hD hS ls hl
    refine lv_iload_n hx hb dX2_sortIntoBatches_30 rfl (lv_at hl 0 rfl) ?_
    refine lv_aload_n hx hb dX2_sortIntoBatches_31 rfl (lv_at hl 1 rfl) ?_
    refine va_get (D := D) (ci := 2) (v := .int (nI n)) (C := RX2) (T := TX2) (N := 13) hx hb hts hinX2 hown hK hP 0 rfl rfl 0 (by decide) hf_18 (fun _ h9 => h9) rfl dX2_sortIntoBatches_32 ?_
    refine zb_ge (a := i) (b := n) (tgt := 86) hx hb dX2_sortIntoBatches_35 (by decide) (by omega) (by omega) (fun c35 => ?_) (fun c35 => ?_)
    · obtain rfl : i = n := by omega
      exact zret_v F hr hlocks hK hP hD hS dX2_sortIntoBatches_86
    · exact absurd c35 (by omega)
  | succ k ih =>
    intro i hk  H locs hP hD hS ls hl
    have hb9 := pSi_le R B M i
    generalize hx9 : pSi R B M i = x at hP hD hb9
    refine lv_iload_n hx hb dX2_sortIntoBatches_30 rfl (lv_at hl 0 rfl) ?_
    refine lv_aload_n hx hb dX2_sortIntoBatches_31 rfl (lv_at hl 1 rfl) ?_
    refine va_get (D := D) (ci := 2) (v := .int (nI n)) (C := RX2) (T := TX2) (N := 13) hx hb hts hinX2 hown hK hP 0 rfl rfl 0 (by decide) hf_18 (fun _ h9 => h9) rfl dX2_sortIntoBatches_32 ?_
    refine zb_ge (a := i) (b := n) (tgt := 86) hx hb dX2_sortIntoBatches_35 (by decide) (by omega) (by omega) (fun c35 => ?_) (fun c35 => ?_)
    · exact absurd c35 (by omega)
    · refine lv_aload_n hx hb dX2_sortIntoBatches_38 rfl (lv_at hl 1 rfl) ?_
      refine lv_iload_n hx hb dX2_sortIntoBatches_39 rfl (lv_at hl 0 rfl) ?_
      refine zcV_i (As := [.int (nI i)]) (rest := []) F (kX2_lowestBatchFor l D ad cy _ n V Z R K x.1 x.2.1 x.2.2 G L S q w U wk jo i c35 hn) (cwV 1 hts gX2_sortIntoBatches_X2_lowestBatchFor rfl rfl rfl (by decide +kernel) ⟨Nat.le_of_ble_eq_true rfl, Nat.le_of_ble_eq_true rfl⟩) (va_recv hK hP (ci := 2) (q0 := 0) rfl rfl) hK hP hD hS hA rfl hl.1 rfl (Nat.le_of_ble_eq_true rfl) dX2_sortIntoBatches_40 ⟨Nat.le_of_ble_eq_true rfl, Nat.le_of_ble_eq_true rfl⟩ (fun H locs hP hD hS => ?_)
      have hlo := pLowF_le x.2.1 (R i) i 0
      generalize hb8 : pLowF x.2.1 (R i) i 0 = b at hlo ⊢
      refine lv_istore_n (lv' := [(2, .int (nI b)), (1, .int (nI i)), (0, .ref (ad 0))]) hx hb dX2_sortIntoBatches_43 rfl hl (by decide) rfl (fun ls hl => ?_)
      refine lv_aload_n hx hb dX2_sortIntoBatches_44 rfl (lv_at hl 2 rfl) ?_
      refine va_get (D := D) (ci := 2) (v := .ref (ad 6)) (C := RX2) (T := TX2) (N := 13) hx hb hts hinX2 hown hK hP 0 rfl rfl 6 (by decide) hf_40 (fun _ h9 => h9) rfl dX2_sortIntoBatches_45 ?_
      refine lv_iload_n hx hb dX2_sortIntoBatches_48 rfl (lv_at hl 0 rfl) ?_
      refine lv_dup2_11 hx hb dX2_sortIntoBatches_49 rfl rfl ?_
      refine ax_ild hx hb hK hP 6 5 rfl rfl (by omega) (by omega) dX2_sortIntoBatches_50 ?_
      refine lv_aload_n hx hb dX2_sortIntoBatches_51 rfl (lv_at hl 2 rfl) ?_
      refine va_get (D := D) (ci := 2) (v := .ref (ad 3)) (C := RX2) (T := TX2) (N := 13) hx hb hts hinX2 hown hK hP 0 rfl rfl 3 (by decide) hf_30 (fun _ h9 => h9) rfl dX2_sortIntoBatches_52 ?_
      refine lv_iload_n hx hb dX2_sortIntoBatches_55 rfl (lv_at hl 1 rfl) ?_
      refine ax_ild hx hb hK hP 3 2 rfl rfl (by omega) (by omega) dX2_sortIntoBatches_56 ?_
      refine lv_ior hx hb dX2_sortIntoBatches_57 ?_
      refine ax_ist hx hb hK hP hD hS 6 5 rfl rfl (by omega) (by omega) dX2_sortIntoBatches_58 (fun H locs hP hD hS => ?_)
      have hP : va_P D vwCl (cW ad cy n V Z R K x.1 (upd x.2.1 b ((x.2.1 b) ||| (R i))) x.2.2 G L S q w U wk jo) H := hP
      have hD : va_D A (cW ad cy n V Z R K x.1 (upd x.2.1 b ((x.2.1 b) ||| (R i))) x.2.2 G L S q w U wk jo) := hD
      refine lv_aload_n hx hb dX2_sortIntoBatches_59 rfl (lv_at hl 2 rfl) ?_
      refine va_get (D := D) (ci := 2) (v := .ref (ad 5)) (C := RX2) (T := TX2) (N := 13) hx hb hts hinX2 hown hK hP 0 rfl rfl 5 (by decide) hf_37 (fun _ h9 => h9) rfl dX2_sortIntoBatches_60 ?_
      refine lv_iload_n hx hb dX2_sortIntoBatches_63 rfl (lv_at hl 1 rfl) ?_
      refine lv_iload_n hx hb dX2_sortIntoBatches_64 rfl (lv_at hl 0 rfl) ?_
      refine ax_ist hx hb hK hP hD hS 5 4 rfl rfl (by omega) (by omega) dX2_sortIntoBatches_65 (fun H locs hP hD hS => ?_)
      have hP : va_P D vwCl (cW ad cy n V Z R K (upd x.1 i (nI b)) (upd x.2.1 b ((x.2.1 b) ||| (R i))) x.2.2 G L S q w U wk jo) H := hP
      have hD : va_D A (cW ad cy n V Z R K (upd x.1 i (nI b)) (upd x.2.1 b ((x.2.1 b) ||| (R i))) x.2.2 G L S q w U wk jo) := hD
      refine lv_aload_n hx hb dX2_sortIntoBatches_66 rfl (lv_at hl 2 rfl) ?_
      refine lv_aload_n hx hb dX2_sortIntoBatches_67 rfl (lv_at hl 2 rfl) ?_
      refine va_get (D := D) (ci := 2) (v := .int (nI x.2.2)) (C := RX2) (T := TX2) (N := 13) hx hb hts hinX2 hown hK hP 0 rfl rfl 7 (by decide) hf_43 (fun _ h9 => h9) rfl dX2_sortIntoBatches_68 ?_
      refine lv_iload_n hx hb dX2_sortIntoBatches_71 rfl (lv_at hl 0 rfl) ?_
      refine lv_iconst (v := nI 1) hx hb dX2_sortIntoBatches_72 (by decide) ?_
      refine lv_iadd hx hb dX2_sortIntoBatches_73 ?_
      refine z_topi (y := nI (b + 1)) (nI_add _ 1) ?_
      refine va_mmax hx hb (hml.trans hl.1.symm) hown (hts (.methodLink RX2 15 Lib.Math.max.name) (by decide +kernel)) (hts (.static Lib.Math.max.name) (by decide +kernel)) (hts (.initialized "java/lang/Math") (by decide +kernel)) (hts (.code Lib.Math.max.name Lib.Math.max.code 2 (some .int)) (by decide +kernel)) (Nat.le_of_ble_eq_true rfl) (Nat.le_of_ble_eq_true rfl) (Nat.le_of_ble_eq_true rfl) (Nat.le_of_ble_eq_true rfl) dX2_sortIntoBatches_74 ?_
      refine z_topi (y := nI (if x.2.2 < b + 1 then b + 1 else x.2.2)) (nI_mx (by omega) (by omega)) ?_
      refine va_put (D := D) (ci := 2) (v := .int (nI (if x.2.2 < b + 1 then b + 1 else x.2.2))) (ty := .int) (C := RX2) (T := TX2) (N := 13) hx hb hts hinX2 tyX2 tyX2_ok nmX2 hown hK hP hD hS 0 rfl rfl 7 (by decide) hf_43 (fun _ h9 => h9) rfl (by decide +kernel) rfl rfl (Nat.le_of_ble_eq_true rfl) dX2_sortIntoBatches_77 (fun H locs hP hD hS => ?_)
      have hP : va_P D vwCl (cW ad cy n V Z R K (upd x.1 i (nI b)) (upd x.2.1 b ((x.2.1 b) ||| (R i))) (if x.2.2 < b + 1 then b + 1 else x.2.2) G L S q w U wk jo) H := hP
      have hD : va_D A (cW ad cy n V Z R K (upd x.1 i (nI b)) (upd x.2.1 b ((x.2.1 b) ||| (R i))) (if x.2.2 < b + 1 then b + 1 else x.2.2) G L S q w U wk jo) := hD
      refine lv_iinc (v := nI (i + 1)) (lv' := [(1, .int (nI (i + 1))), (2, .int (nI b)), (0, .ref (ad 0))]) hx hb dX2_sortIntoBatches_80 hl (k := 1) rfl (by exact nI_1 _) (by decide) rfl (fun ls hl => ?_)
      refine lv_goto (tgt := 30) hx hb dX2_sortIntoBatches_83 (by decide) ?_
      have hst : pSi R B M (i + 1) = (upd x.1 i (nI b), upd x.2.1 b ((x.2.1 b) ||| (R i)), (if x.2.2 < b + 1 then b + 1 else x.2.2)) := by
        show pSoS (R i) i (pSi R B M i) = _
        rw [hx9]
        unfold pSoS
        rw [hb8]
      exact ih (i + 1) (by omega) H locs (by rw [hst]; exact hP) (by rw [hst]; exact hD) hS ls (lv_sub hl [0, 2] rfl)

set_option maxHeartbeats 4000000 in
set_option maxRecDepth 100000 in
theorem lp_empty {p : Program} {l : Launch} {e : Env} {s : State} {m : MethodId} {args : Array Value} {below : List Frame} {meth : Method} {c : Code} {A : Nat → Prop} {D : va_G} {ad : Nat → Nat} {cy : Nat → ClassId} (F : CallFix p m c cX2_sortIntoBatches 3 s args wsX2_sortIntoBatches RX2) (hr : meth.sig.returnType = none) (hlocks : meth.locks = false) (hA : ∀ q, s.heap.size ≤ q → A q) (hK : va_K D vwCl (cT cy) s) (n : Nat) (V : Nat → UInt64) (Z : Nat → Int32) (R : Nat → Int32) (K : Nat → Int32) (B : Nat → Int32) (M : Nat → Int32) (bc : Nat) (G : Int32) (L : Int32) (S : Int64) (q : Nat → Int32) (w : Int32) (U : Nat → Int32) (wk : Int64) (jo : UInt64)  (hn : n ≤ 40) : ∀ (k : Nat) (i : Nat), i + k = n → ∀ (H : Heap) (locs : List Loc), va_P D vwCl (cW ad cy n V Z R K B (pZr M i) bc G L S q w U wk jo) H → va_D A (cW ad cy n V Z R K B (pZr M i) bc G L S q w U wk jo) → va_S A s.heap H locs → ∀ ls : Array Slot, lv_has ls 3 [(1, .int (nI i)), (0, .ref (ad 0))] → W p l e ({ frames := 1, cells := 0, slots := 0, locals := 22 }) s m args below meth c H locs 0 0 (MQ below (zQv D (cT cy) (cW ad cy n V Z R K ((pSi R B (pZr M n) n).1) ((pSi R B (pZr M n) n).2.1) ((pSi R B (pZr M n) n).2.2) G L S q w U wk jo) A) args s 0 0 A) (F0 m 2 ls []) := by
  obtain ⟨hx, hb, hml, hown, hts⟩ := id F
  have hinX2 : ∀ w ∈ wsX20, w ∈ wsX2_sortIntoBatches := by decide +kernel
  have hf_18 := hts (.fieldLink RX2 18 "RegionShares" "shares" "I") (by decide +kernel)
  have hf_40 := hts (.fieldLink RX2 40 "RegionShares" "batchRegions" "[I") (by decide +kernel)
  have hf_43 := hts (.fieldLink RX2 43 "RegionShares" "batchCount" "I") (by decide +kernel)
  intro k
  induction k with
  | zero =>
    intro i hk 
    intro H locs hP hD hS ls hl
    refine lv_iload_n hx hb dX2_sortIntoBatches_2 rfl (lv_at hl 0 rfl) ?_
    refine lv_aload_n hx hb dX2_sortIntoBatches_3 rfl (lv_at hl 1 rfl) ?_
    refine va_get (D := D) (ci := 2) (v := .int (nI n)) (C := RX2) (T := TX2) (N := 13) hx hb hts hinX2 hown hK hP 0 rfl rfl 0 (by decide) hf_18 (fun _ h9 => h9) rfl dX2_sortIntoBatches_4 ?_
    refine zb_ge (a := i) (b := n) (tgt := 23) hx hb dX2_sortIntoBatches_7 (by decide) (by omega) (by omega) (fun c7 => ?_) (fun c7 => ?_)
    · refine lv_aload_n hx hb dX2_sortIntoBatches_23 rfl (lv_at hl 1 rfl) ?_
      refine lv_iconst (v := nI 0) hx hb dX2_sortIntoBatches_24 (by decide) ?_
      refine va_put (D := D) (ci := 2) (v := .int (nI 0)) (ty := .int) (C := RX2) (T := TX2) (N := 13) hx hb hts hinX2 tyX2 tyX2_ok nmX2 hown hK hP hD hS 0 rfl rfl 7 (by decide) hf_43 (fun _ h9 => h9) rfl (by decide +kernel) rfl rfl (Nat.le_of_ble_eq_true rfl) dX2_sortIntoBatches_25 (fun H locs hP hD hS => ?_)
      have hP : va_P D vwCl (cW ad cy n V Z R K B (pZr M i) 0 G L S q w U wk jo) H := hP
      have hD : va_D A (cW ad cy n V Z R K B (pZr M i) 0 G L S q w U wk jo) := hD
      refine lv_iconst (v := nI 0) hx hb dX2_sortIntoBatches_28 (by decide) ?_
      refine lv_istore_n (lv' := [(1, .int (nI 0)), (0, .ref (ad 0))]) hx hb dX2_sortIntoBatches_29 rfl hl (by decide) rfl (fun ls hl => ?_)
      obtain rfl : i = n := by omega
      exact lp_sort F hr hlocks hA hK i V Z R K B (pZr M i) G L S q w U wk jo hn i 0 (by omega) H locs hP hD hS ls (lv_sub hl [0, 1] rfl)
    · exact absurd c7 (by omega)
  | succ k ih =>
    intro i hk  H locs hP hD hS ls hl
    refine lv_iload_n hx hb dX2_sortIntoBatches_2 rfl (lv_at hl 0 rfl) ?_
    refine lv_aload_n hx hb dX2_sortIntoBatches_3 rfl (lv_at hl 1 rfl) ?_
    refine va_get (D := D) (ci := 2) (v := .int (nI n)) (C := RX2) (T := TX2) (N := 13) hx hb hts hinX2 hown hK hP 0 rfl rfl 0 (by decide) hf_18 (fun _ h9 => h9) rfl dX2_sortIntoBatches_4 ?_
    refine zb_ge (a := i) (b := n) (tgt := 23) hx hb dX2_sortIntoBatches_7 (by decide) (by omega) (by omega) (fun c7 => ?_) (fun c7 => ?_)
    · exact absurd c7 (by omega)
    · refine lv_aload_n hx hb dX2_sortIntoBatches_10 rfl (lv_at hl 1 rfl) ?_
      refine va_get (D := D) (ci := 2) (v := .ref (ad 6)) (C := RX2) (T := TX2) (N := 13) hx hb hts hinX2 hown hK hP 0 rfl rfl 6 (by decide) hf_40 (fun _ h9 => h9) rfl dX2_sortIntoBatches_11 ?_
      refine lv_iload_n hx hb dX2_sortIntoBatches_14 rfl (lv_at hl 0 rfl) ?_
      refine lv_iconst (v := 0) hx hb dX2_sortIntoBatches_15 (by decide) ?_
      refine ax_ist hx hb hK hP hD hS 6 5 rfl rfl (by omega) (by omega) dX2_sortIntoBatches_16 (fun H locs hP hD hS => ?_)
      have hP : va_P D vwCl (cW ad cy n V Z R K B (upd (pZr M i) i 0) bc G L S q w U wk jo) H := hP
      have hD : va_D A (cW ad cy n V Z R K B (upd (pZr M i) i 0) bc G L S q w U wk jo) := hD
      refine lv_iinc (v := nI (i + 1)) (lv' := [(1, .int (nI (i + 1))), (0, .ref (ad 0))]) hx hb dX2_sortIntoBatches_17 hl (k := 0) rfl (by exact nI_1 _) (by decide) rfl (fun ls hl => ?_)
      refine lv_goto (tgt := 2) hx hb dX2_sortIntoBatches_20 (by decide) ?_
      rw [pZr_s] at hP hD
      exact ih (i + 1) (by omega) H locs hP hD hS ls (lv_sub hl [0, 1] rfl)

set_option maxHeartbeats 4000000 in
set_option maxRecDepth 100000 in
theorem kX2_sortIntoBatches (l : Launch) (D : va_G) (ad : Nat → Nat) (cy : Nat → ClassId) (sz : Nat) (n : Nat) (V : Nat → UInt64) (Z : Nat → Int32) (R : Nat → Int32) (K : Nat → Int32) (B : Nat → Int32) (M : Nat → Int32) (bc : Nat) (G : Int32) (L : Int32) (S : Int64) (q : Nat → Int32) (w : Int32) (U : Nat → Int32) (wk : Int64) (jo : UInt64)  (hn : n ≤ 40) : mV l yX2_sortIntoBatches wsX2_sortIntoBatches ({ frames := 1, cells := 0, slots := 0, locals := 22 }) [.ref (ad 0)] D (cT cy) (cW ad cy n V Z R K B M bc G L S q w U wk jo) sz (cW ad cy n V Z R K ((pSo R B M n).1) ((pSo R B M n).2.1) ((pSo R B M n).2.2) G L S q w U wk jo) 0 0 := by
  refine zin (fun A => zQv D (cT cy) (cW ad cy n V Z R K ((pSo R B M n).1) ((pSo R B M n).2.1) ((pSo R B M n).2.2) G L S q w U wk jo) A) (cc := cX2_sortIntoBatches) (maxL := 3) (ret := none) (own := RX2) (by decide) rfl rfl (Nat.le_of_ble_eq_true rfl) ?_
  intro p e s m below meth c A F hr hlocks hmn hA hK H locs hP hD hS ls hl
  obtain ⟨hx, hb, hml, hown, hts⟩ := id F
  have hl : lv_has ls 3 [(0, .ref (ad 0))] := hl
  refine lv_iconst (v := nI 0) hx hb dX2_sortIntoBatches_0 (by decide) ?_
  refine lv_istore_n (lv' := [(1, .int (nI 0)), (0, .ref (ad 0))]) hx hb dX2_sortIntoBatches_1 rfl hl (by decide) rfl (fun ls hl => ?_)
  exact lp_empty F hr hlocks hA hK n V Z R K B M bc G L S q w U wk jo hn n 0 (by omega) H locs (by rw [pZr_0]; exact hP) (by rw [pZr_0]; exact hD) hS ls (lv_sub hl [0, 1] rfl)

set_option maxHeartbeats 4000000 in
set_option maxRecDepth 100000 in
theorem lp_forget {p : Program} {l : Launch} {e : Env} {s : State} {m : MethodId} {args : Array Value} {below : List Frame} {meth : Method} {c : Code} {A : Nat → Prop} {D : va_G} {ad : Nat → Nat} {cy : Nat → ClassId} (F : CallFix p m c cX2_forgetBegun 2 s args wsX2_forgetBegun RX2) (hr : meth.sig.returnType = none) (hlocks : meth.locks = false) (hA : ∀ q, s.heap.size ≤ q → A q) (hK : va_K D vwCl (cT cy) s) (n : Nat) (V : Nat → UInt64) (Z : Nat → Int32) (R : Nat → Int32) (K : Nat → Int32) (B : Nat → Int32) (M : Nat → Int32) (bc : Nat) (G : Int32) (L : Int32) (S : Int64) (q : Nat → Int32) (w : Int32) (U : Nat → Int32) (wk : Int64) (jo : UInt64)  (hn : n ≤ 40) : ∀ (k : Nat) (i : Nat), i + k = n → ∀ (H : Heap) (locs : List Loc), va_P D vwCl (cW ad cy n V Z R K B M bc G L S q w (pZr U i) wk jo) H → va_D A (cW ad cy n V Z R K B M bc G L S q w (pZr U i) wk jo) → va_S A s.heap H locs → ∀ ls : Array Slot, lv_has ls 2 [(1, .int (nI i)), (0, .ref (ad 0))] → W p l e ({ frames := 0, cells := 0, slots := 0, locals := 0 }) s m args below meth c H locs 0 0 (MQ below (zQv D (cT cy) (cW ad cy n V Z R K B M bc G L S q w (pZr U n) wk jo) A) args s 0 0 A) (F0 m 2 ls []) := by
  obtain ⟨hx, hb, hml, hown, hts⟩ := id F
  have hinX2 : ∀ w ∈ wsX20, w ∈ wsX2_forgetBegun := by decide +kernel
  have hf_18 := hts (.fieldLink RX2 18 "RegionShares" "shares" "I") (by decide +kernel)
  have hf_60 := hts (.fieldLink RX2 60 "RegionShares" "begun" "[I") (by decide +kernel)
  intro k
  induction k with
  | zero =>
    intro i hk 
    intro H locs hP hD hS ls hl
    refine lv_iload_n hx hb dX2_forgetBegun_2 rfl (lv_at hl 0 rfl) ?_
    refine lv_aload_n hx hb dX2_forgetBegun_3 rfl (lv_at hl 1 rfl) ?_
    refine va_get (D := D) (ci := 2) (v := .int (nI n)) (C := RX2) (T := TX2) (N := 13) hx hb hts hinX2 hown hK hP 0 rfl rfl 0 (by decide) hf_18 (fun _ h9 => h9) rfl dX2_forgetBegun_4 ?_
    refine zb_ge (a := i) (b := n) (tgt := 23) hx hb dX2_forgetBegun_7 (by decide) (by omega) (by omega) (fun c7 => ?_) (fun c7 => ?_)
    · obtain rfl : i = n := by omega
      exact zret_v F hr hlocks hK hP hD hS dX2_forgetBegun_23
    · exact absurd c7 (by omega)
  | succ k ih =>
    intro i hk  H locs hP hD hS ls hl
    refine lv_iload_n hx hb dX2_forgetBegun_2 rfl (lv_at hl 0 rfl) ?_
    refine lv_aload_n hx hb dX2_forgetBegun_3 rfl (lv_at hl 1 rfl) ?_
    refine va_get (D := D) (ci := 2) (v := .int (nI n)) (C := RX2) (T := TX2) (N := 13) hx hb hts hinX2 hown hK hP 0 rfl rfl 0 (by decide) hf_18 (fun _ h9 => h9) rfl dX2_forgetBegun_4 ?_
    refine zb_ge (a := i) (b := n) (tgt := 23) hx hb dX2_forgetBegun_7 (by decide) (by omega) (by omega) (fun c7 => ?_) (fun c7 => ?_)
    · exact absurd c7 (by omega)
    · refine lv_aload_n hx hb dX2_forgetBegun_10 rfl (lv_at hl 1 rfl) ?_
      refine va_get (D := D) (ci := 2) (v := .ref (ad 9)) (C := RX2) (T := TX2) (N := 13) hx hb hts hinX2 hown hK hP 0 rfl rfl 10 (by decide) hf_60 (fun _ h9 => h9) rfl dX2_forgetBegun_11 ?_
      refine lv_iload_n hx hb dX2_forgetBegun_14 rfl (lv_at hl 0 rfl) ?_
      refine lv_iconst (v := 0) hx hb dX2_forgetBegun_15 (by decide) ?_
      refine ax_ist hx hb hK hP hD hS 9 6 rfl rfl (by omega) (by omega) dX2_forgetBegun_16 (fun H locs hP hD hS => ?_)
      have hP : va_P D vwCl (cW ad cy n V Z R K B M bc G L S q w (upd (pZr U i) i 0) wk jo) H := hP
      have hD : va_D A (cW ad cy n V Z R K B M bc G L S q w (upd (pZr U i) i 0) wk jo) := hD
      refine lv_iinc (v := nI (i + 1)) (lv' := [(1, .int (nI (i + 1))), (0, .ref (ad 0))]) hx hb dX2_forgetBegun_17 hl (k := 0) rfl (by exact nI_1 _) (by decide) rfl (fun ls hl => ?_)
      refine lv_goto (tgt := 2) hx hb dX2_forgetBegun_20 (by decide) ?_
      rw [pZr_s] at hP hD
      exact ih (i + 1) (by omega) H locs hP hD hS ls (lv_sub hl [0, 1] rfl)

set_option maxHeartbeats 4000000 in
set_option maxRecDepth 100000 in
theorem kX2_forgetBegun (l : Launch) (D : va_G) (ad : Nat → Nat) (cy : Nat → ClassId) (sz : Nat) (n : Nat) (V : Nat → UInt64) (Z : Nat → Int32) (R : Nat → Int32) (K : Nat → Int32) (B : Nat → Int32) (M : Nat → Int32) (bc : Nat) (G : Int32) (L : Int32) (S : Int64) (q : Nat → Int32) (w : Int32) (U : Nat → Int32) (wk : Int64) (jo : UInt64)  (hn : n ≤ 40) : mV l yX2_forgetBegun wsX2_forgetBegun ({ frames := 0, cells := 0, slots := 0, locals := 0 }) [.ref (ad 0)] D (cT cy) (cW ad cy n V Z R K B M bc G L S q w U wk jo) sz (cW ad cy n V Z R K B M bc G L S q w (pZr U n) wk jo) 0 0 := by
  refine zin (fun A => zQv D (cT cy) (cW ad cy n V Z R K B M bc G L S q w (pZr U n) wk jo) A) (cc := cX2_forgetBegun) (maxL := 2) (ret := none) (own := RX2) (by decide) rfl rfl (Nat.le_of_ble_eq_true rfl) ?_
  intro p e s m below meth c A F hr hlocks hmn hA hK H locs hP hD hS ls hl
  obtain ⟨hx, hb, hml, hown, hts⟩ := id F
  have hl : lv_has ls 2 [(0, .ref (ad 0))] := hl
  refine lv_iconst (v := nI 0) hx hb dX2_forgetBegun_0 (by decide) ?_
  refine lv_istore_n (lv' := [(1, .int (nI 0)), (0, .ref (ad 0))]) hx hb dX2_forgetBegun_1 rfl hl (by decide) rfl (fun ls hl => ?_)
  exact lp_forget F hr hlocks hA hK n V Z R K B M bc G L S q w U wk jo hn n 0 (by omega) H locs (by rw [pZr_0]; exact hP) (by rw [pZr_0]; exact hD) hS ls (lv_sub hl [0, 1] rfl)

set_option maxHeartbeats 4000000 in
set_option maxRecDepth 100000 in
theorem lp_ahead {p : Program} {l : Launch} {e : Env} {s : State} {m : MethodId} {args : Array Value} {below : List Frame} {meth : Method} {c : Code} {A : Nat → Prop} {D : va_G} {ad : Nat → Nat} {cy : Nat → ClassId} (F : CallFix p m c cX2_batchesAheadOfStop 3 s args wsX2_batchesAheadOfStop RX2) (hr : meth.sig.returnType = (some .int)) (hlocks : meth.locks = false) (hA : ∀ q, s.heap.size ≤ q → A q) (hK : va_K D vwCl (cT cy) s) (n : Nat) (V : Nat → UInt64) (Z : Nat → Int32) (R : Nat → Int32) (K : Nat → Int32) (B : Nat → Int32) (M : Nat → Int32) (bc : Nat) (G : Int32) (L : Int32) (S : Int64) (q : Nat → Int32) (w : Int32) (U : Nat → Int32) (wk : Int64) (jo : UInt64)  (hn : n ≤ 40) : ∀ (k : Nat) (i : Nat), i + k = n → ∀ (H : Heap) (locs : List Loc), va_P D vwCl (cW ad cy n V Z R K B M bc G L S q w U wk jo) H → va_D A (cW ad cy n V Z R K B M bc G L S q w U wk jo) → va_S A s.heap H locs → ∀ ls : Array Slot, lv_has ls 3 [(1, .int (pAh Z B (nI bc) i)), (2, .int (nI i)), (0, .ref (ad 0))] → W p l e ({ frames := 1, cells := 0, slots := 0, locals := 13 }) s m args below meth c H locs 0 0 (MQ below (zQi D (cT cy) (cW ad cy n V Z R K B M bc G L S q w U wk jo) (pAh Z B (nI bc) n) A) args s 0 0 A) (F0 m 7 ls []) := by
  obtain ⟨hx, hb, hml, hown, hts⟩ := id F
  have hinX2 : ∀ w ∈ wsX20, w ∈ wsX2_batchesAheadOfStop := by decide +kernel
  have hf_18 := hts (.fieldLink RX2 18 "RegionShares" "shares" "I") (by decide +kernel)
  have hf_26 := hts (.fieldLink RX2 26 "RegionShares" "stopped" "[Z") (by decide +kernel)
  have hf_37 := hts (.fieldLink RX2 37 "RegionShares" "batchOf" "[I") (by decide +kernel)
  intro k
  induction k with
  | zero =>
    intro i hk 
    intro H locs hP hD hS ls hl
    refine lv_iload_n hx hb dX2_batchesAheadOfStop_7 rfl (lv_at hl 1 rfl) ?_
    refine lv_aload_n hx hb dX2_batchesAheadOfStop_8 rfl (lv_at hl 2 rfl) ?_
    refine va_get (D := D) (ci := 2) (v := .int (nI n)) (C := RX2) (T := TX2) (N := 13) hx hb hts hinX2 hown hK hP 0 rfl rfl 0 (by decide) hf_18 (fun _ h9 => h9) rfl dX2_batchesAheadOfStop_9 ?_
    refine zb_ge (a := i) (b := n) (tgt := 41) hx hb dX2_batchesAheadOfStop_12 (by decide) (by omega) (by omega) (fun c12 => ?_) (fun c12 => ?_)
    · refine lv_iload_n hx hb dX2_batchesAheadOfStop_41 rfl (lv_at hl 0 rfl) ?_
      obtain rfl : i = n := by omega
      exact zret_i F hr hlocks hK hP hD hS rfl dX2_batchesAheadOfStop_42
    · exact absurd c12 (by omega)
  | succ k ih =>
    intro i hk  H locs hP hD hS ls hl
    refine lv_iload_n hx hb dX2_batchesAheadOfStop_7 rfl (lv_at hl 1 rfl) ?_
    refine lv_aload_n hx hb dX2_batchesAheadOfStop_8 rfl (lv_at hl 2 rfl) ?_
    refine va_get (D := D) (ci := 2) (v := .int (nI n)) (C := RX2) (T := TX2) (N := 13) hx hb hts hinX2 hown hK hP 0 rfl rfl 0 (by decide) hf_18 (fun _ h9 => h9) rfl dX2_batchesAheadOfStop_9 ?_
    refine zb_ge (a := i) (b := n) (tgt := 41) hx hb dX2_batchesAheadOfStop_12 (by decide) (by omega) (by omega) (fun c12 => ?_) (fun c12 => ?_)
    · exact absurd c12 (by omega)
    · refine lv_aload_n hx hb dX2_batchesAheadOfStop_15 rfl (lv_at hl 2 rfl) ?_
      refine va_get (D := D) (ci := 2) (v := .ref (ad 2)) (C := RX2) (T := TX2) (N := 13) hx hb hts hinX2 hown hK hP 0 rfl rfl 2 (by decide) hf_26 (fun _ h9 => h9) rfl dX2_batchesAheadOfStop_16 ?_
      refine lv_iload_n hx hb dX2_batchesAheadOfStop_19 rfl (lv_at hl 1 rfl) ?_
      refine ax_zld hx hb hK hP 2 1 rfl rfl (by omega) (by omega) dX2_batchesAheadOfStop_20 ?_
      refine lv_if_eq (tgt := 35) hx hb dX2_batchesAheadOfStop_21 (by decide) (fun c21 => ?_) (fun c21 => ?_)
      · refine lv_iinc (v := nI (i + 1)) (lv' := [(2, .int (nI (i + 1))), (1, .int (pAh Z B (nI bc) i)), (0, .ref (ad 0))]) hx hb dX2_batchesAheadOfStop_35 hl (k := 1) rfl (by exact nI_1 _) (by decide) rfl (fun ls hl => ?_)
        refine lv_goto (tgt := 7) hx hb dX2_batchesAheadOfStop_38 (by decide) ?_
        have ha : pAh Z B (nI bc) (i + 1) = pAh Z B (nI bc) i := by
          first | exact if_pos c21 | exact if_neg c21
        exact ih (i + 1) (by omega) H locs hP hD hS ls (by rw [ha]; exact lv_sub hl [1, 0, 2] rfl)
      · refine lv_iload_n hx hb dX2_batchesAheadOfStop_24 rfl (lv_at hl 0 rfl) ?_
        refine lv_aload_n hx hb dX2_batchesAheadOfStop_25 rfl (lv_at hl 2 rfl) ?_
        refine va_get (D := D) (ci := 2) (v := .ref (ad 5)) (C := RX2) (T := TX2) (N := 13) hx hb hts hinX2 hown hK hP 0 rfl rfl 5 (by decide) hf_37 (fun _ h9 => h9) rfl dX2_batchesAheadOfStop_26 ?_
        refine lv_iload_n hx hb dX2_batchesAheadOfStop_29 rfl (lv_at hl 1 rfl) ?_
        refine ax_ild hx hb hK hP 5 4 rfl rfl (by omega) (by omega) dX2_batchesAheadOfStop_30 ?_
        refine va_mmin hx hb (hml.trans hl.1.symm) hown (hts (.methodLink RX2 9 Lib.Math.min.name) (by decide +kernel)) (hts (.static Lib.Math.min.name) (by decide +kernel)) (hts (.initialized "java/lang/Math") (by decide +kernel)) (hts (.code Lib.Math.min.name Lib.Math.min.code 2 (some .int)) (by decide +kernel)) (Nat.le_of_ble_eq_true rfl) (Nat.le_of_ble_eq_true rfl) (Nat.le_of_ble_eq_true rfl) (Nat.le_of_ble_eq_true rfl) dX2_batchesAheadOfStop_31 ?_
        refine lv_istore_n (lv' := [(1, .int (if (B i) < (pAh Z B (nI bc) i) then (B i) else (pAh Z B (nI bc) i))), (2, .int (nI i)), (0, .ref (ad 0))]) hx hb dX2_batchesAheadOfStop_34 rfl hl (by decide) rfl (fun ls hl => ?_)
        refine lv_iinc (v := nI (i + 1)) (lv' := [(2, .int (nI (i + 1))), (1, .int (if (B i) < (pAh Z B (nI bc) i) then (B i) else (pAh Z B (nI bc) i))), (0, .ref (ad 0))]) hx hb dX2_batchesAheadOfStop_35 hl (k := 1) rfl (by exact nI_1 _) (by decide) rfl (fun ls hl => ?_)
        refine lv_goto (tgt := 7) hx hb dX2_batchesAheadOfStop_38 (by decide) ?_
        have ha : pAh Z B (nI bc) (i + 1) = if (B i) < (pAh Z B (nI bc) i) then (B i) else (pAh Z B (nI bc) i) := by
          first | exact if_pos c21 | exact if_neg c21
        exact ih (i + 1) (by omega) H locs hP hD hS ls (by rw [ha]; exact lv_sub hl [1, 0, 2] rfl)

set_option maxHeartbeats 4000000 in
set_option maxRecDepth 100000 in
theorem kX2_batchesAheadOfStop (l : Launch) (D : va_G) (ad : Nat → Nat) (cy : Nat → ClassId) (sz : Nat) (n : Nat) (V : Nat → UInt64) (Z : Nat → Int32) (R : Nat → Int32) (K : Nat → Int32) (B : Nat → Int32) (M : Nat → Int32) (bc : Nat) (G : Int32) (L : Int32) (S : Int64) (q : Nat → Int32) (w : Int32) (U : Nat → Int32) (wk : Int64) (jo : UInt64)  (hn : n ≤ 40) : mI l yX2_batchesAheadOfStop wsX2_batchesAheadOfStop ({ frames := 1, cells := 0, slots := 0, locals := 13 }) [.ref (ad 0)] D (cT cy) (cW ad cy n V Z R K B M bc G L S q w U wk jo) sz (pAh Z B (nI bc) n) (cW ad cy n V Z R K B M bc G L S q w U wk jo) 0 0 := by
  refine zin (fun A => zQi D (cT cy) (cW ad cy n V Z R K B M bc G L S q w U wk jo) (pAh Z B (nI bc) n) A) (cc := cX2_batchesAheadOfStop) (maxL := 3) (ret := (some .int)) (own := RX2) (by decide) rfl rfl (Nat.le_of_ble_eq_true rfl) ?_
  intro p e s m below meth c A F hr hlocks hmn hA hK H locs hP hD hS ls hl
  obtain ⟨hx, hb, hml, hown, hts⟩ := id F
  have hl : lv_has ls 3 [(0, .ref (ad 0))] := hl
  have hinX2 : ∀ w ∈ wsX20, w ∈ wsX2_batchesAheadOfStop := by decide +kernel
  have hf_43 := hts (.fieldLink RX2 43 "RegionShares" "batchCount" "I") (by decide +kernel)
  refine lv_aload_n hx hb dX2_batchesAheadOfStop_0 rfl (lv_at hl 0 rfl) ?_
  refine va_get (D := D) (ci := 2) (v := .int (nI bc)) (C := RX2) (T := TX2) (N := 13) hx hb hts hinX2 hown hK hP 0 rfl rfl 7 (by decide) hf_43 (fun _ h9 => h9) rfl dX2_batchesAheadOfStop_1 ?_
  refine lv_istore_n (lv' := [(1, .int (nI bc)), (0, .ref (ad 0))]) hx hb dX2_batchesAheadOfStop_4 rfl hl (by decide) rfl (fun ls hl => ?_)
  refine lv_iconst (v := nI 0) hx hb dX2_batchesAheadOfStop_5 (by decide) ?_
  refine lv_istore_n (lv' := [(2, .int (nI 0)), (1, .int (nI bc)), (0, .ref (ad 0))]) hx hb dX2_batchesAheadOfStop_6 rfl hl (by decide) rfl (fun ls hl => ?_)
  exact lp_ahead F hr hlocks hA hK n V Z R K B M bc G L S q w U wk jo hn n 0 (by omega) H locs hP hD hS ls (lv_sub hl [1, 0, 2] rfl)

set_option maxHeartbeats 4000000 in
set_option maxRecDepth 100000 in
theorem lp_count {p : Program} {l : Launch} {e : Env} {s : State} {m : MethodId} {args : Array Value} {below : List Frame} {meth : Method} {c : Code} {A : Nat → Prop} {D : va_G} {ad : Nat → Nat} {cy : Nat → ClassId} (F : CallFix p m c cX2_countAheadOf 4 s args wsX2_countAheadOf RX2) (hr : meth.sig.returnType = (some .int)) (hlocks : meth.locks = false) (hA : ∀ q, s.heap.size ≤ q → A q) (hK : va_K D vwCl (cT cy) s) (n : Nat) (V : Nat → UInt64) (Z : Nat → Int32) (R : Nat → Int32) (K : Nat → Int32) (B : Nat → Int32) (M : Nat → Int32) (bc : Nat) (G : Int32) (L : Int32) (S : Int64) (q : Nat → Int32) (w : Int32) (U : Nat → Int32) (wk : Int64) (jo : UInt64) (b : Int32) (hn : n ≤ 40) : ∀ (k : Nat) (i : Nat), i + k = n → ∀ (H : Heap) (locs : List Loc), va_P D vwCl (cW ad cy n V Z R K B M bc G L S q w U wk jo) H → va_D A (cW ad cy n V Z R K B M bc G L S q w U wk jo) → va_S A s.heap H locs → ∀ ls : Array Slot, lv_has ls 4 [(2, .int (nI (pCt B b i))), (3, .int (nI i)), (0, .ref (ad 0)), (1, .int b)] → W p l e ({ frames := 0, cells := 0, slots := 0, locals := 0 }) s m args below meth c H locs 0 0 (MQ below (zQi D (cT cy) (cW ad cy n V Z R K B M bc G L S q w U wk jo) (nI (pCt B b n)) A) args s 0 0 A) (F0 m 4 ls []) := by
  obtain ⟨hx, hb, hml, hown, hts⟩ := id F
  have hinX2 : ∀ w ∈ wsX20, w ∈ wsX2_countAheadOf := by decide +kernel
  have hf_18 := hts (.fieldLink RX2 18 "RegionShares" "shares" "I") (by decide +kernel)
  have hf_37 := hts (.fieldLink RX2 37 "RegionShares" "batchOf" "[I") (by decide +kernel)
  intro k
  induction k with
  | zero =>
    intro i hk 
    intro H locs hP hD hS ls hl
    refine lv_iload_n hx hb dX2_countAheadOf_4 rfl (lv_at hl 1 rfl) ?_
    refine lv_aload_n hx hb dX2_countAheadOf_5 rfl (lv_at hl 2 rfl) ?_
    refine va_get (D := D) (ci := 2) (v := .int (nI n)) (C := RX2) (T := TX2) (N := 13) hx hb hts hinX2 hown hK hP 0 rfl rfl 0 (by decide) hf_18 (fun _ h9 => h9) rfl dX2_countAheadOf_6 ?_
    refine zb_ge (a := i) (b := n) (tgt := 31) hx hb dX2_countAheadOf_9 (by decide) (by omega) (by omega) (fun c9 => ?_) (fun c9 => ?_)
    · refine lv_iload_n hx hb dX2_countAheadOf_31 rfl (lv_at hl 0 rfl) ?_
      obtain rfl : i = n := by omega
      exact zret_i F hr hlocks hK hP hD hS rfl dX2_countAheadOf_32
    · exact absurd c9 (by omega)
  | succ k ih =>
    intro i hk  H locs hP hD hS ls hl
    refine lv_iload_n hx hb dX2_countAheadOf_4 rfl (lv_at hl 1 rfl) ?_
    refine lv_aload_n hx hb dX2_countAheadOf_5 rfl (lv_at hl 2 rfl) ?_
    refine va_get (D := D) (ci := 2) (v := .int (nI n)) (C := RX2) (T := TX2) (N := 13) hx hb hts hinX2 hown hK hP 0 rfl rfl 0 (by decide) hf_18 (fun _ h9 => h9) rfl dX2_countAheadOf_6 ?_
    refine zb_ge (a := i) (b := n) (tgt := 31) hx hb dX2_countAheadOf_9 (by decide) (by omega) (by omega) (fun c9 => ?_) (fun c9 => ?_)
    · exact absurd c9 (by omega)
    · refine lv_aload_n hx hb dX2_countAheadOf_12 rfl (lv_at hl 2 rfl) ?_
      refine va_get (D := D) (ci := 2) (v := .ref (ad 5)) (C := RX2) (T := TX2) (N := 13) hx hb hts hinX2 hown hK hP 0 rfl rfl 5 (by decide) hf_37 (fun _ h9 => h9) rfl dX2_countAheadOf_13 ?_
      refine lv_iload_n hx hb dX2_countAheadOf_16 rfl (lv_at hl 1 rfl) ?_
      refine ax_ild hx hb hK hP 5 4 rfl rfl (by omega) (by omega) dX2_countAheadOf_17 ?_
      refine lv_iload_n hx hb dX2_countAheadOf_18 rfl (lv_at hl 3 rfl) ?_
      refine lv_icmp_ge (tgt := 25) hx hb dX2_countAheadOf_19 (by decide) (fun c19 => ?_) (fun c19 => ?_)
      · refine lv_iinc (v := nI (i + 1)) (lv' := [(3, .int (nI (i + 1))), (2, .int (nI (pCt B b i))), (0, .ref (ad 0)), (1, .int b)]) hx hb dX2_countAheadOf_25 hl (k := 1) rfl (by exact nI_1 _) (by decide) rfl (fun ls hl => ?_)
        refine lv_goto (tgt := 4) hx hb dX2_countAheadOf_28 (by decide) ?_
        have ha : nI (pCt B b (i + 1)) = nI (pCt B b i) := by
          first | exact congrArg nI (if_pos c19) | exact congrArg nI (if_neg c19)
        exact ih (i + 1) (by omega) H locs hP hD hS ls (by rw [ha]; exact lv_sub hl [1, 0, 2, 3] rfl)
      · refine lv_iinc (v := nI ((pCt B b i) + 1)) (lv' := [(2, .int (nI ((pCt B b i) + 1))), (3, .int (nI i)), (0, .ref (ad 0)), (1, .int b)]) hx hb dX2_countAheadOf_22 hl (k := 0) rfl (by exact nI_1 _) (by decide) rfl (fun ls hl => ?_)
        refine lv_iinc (v := nI (i + 1)) (lv' := [(3, .int (nI (i + 1))), (2, .int (nI ((pCt B b i) + 1))), (0, .ref (ad 0)), (1, .int b)]) hx hb dX2_countAheadOf_25 hl (k := 1) rfl (by exact nI_1 _) (by decide) rfl (fun ls hl => ?_)
        refine lv_goto (tgt := 4) hx hb dX2_countAheadOf_28 (by decide) ?_
        have ha : nI (pCt B b (i + 1)) = nI ((pCt B b i) + 1) := by
          first | exact congrArg nI (if_pos c19) | exact congrArg nI (if_neg c19)
        exact ih (i + 1) (by omega) H locs hP hD hS ls (by rw [ha]; exact lv_sub hl [1, 0, 2, 3] rfl)

set_option maxHeartbeats 4000000 in
set_option maxRecDepth 100000 in
theorem kX2_countAheadOf (l : Launch) (D : va_G) (ad : Nat → Nat) (cy : Nat → ClassId) (sz : Nat) (n : Nat) (V : Nat → UInt64) (Z : Nat → Int32) (R : Nat → Int32) (K : Nat → Int32) (B : Nat → Int32) (M : Nat → Int32) (bc : Nat) (G : Int32) (L : Int32) (S : Int64) (q : Nat → Int32) (w : Int32) (U : Nat → Int32) (wk : Int64) (jo : UInt64) (b : Int32) (hn : n ≤ 40) : mI l yX2_countAheadOf wsX2_countAheadOf ({ frames := 0, cells := 0, slots := 0, locals := 0 }) [.ref (ad 0), .int b] D (cT cy) (cW ad cy n V Z R K B M bc G L S q w U wk jo) sz (nI (pCt B b n)) (cW ad cy n V Z R K B M bc G L S q w U wk jo) 0 0 := by
  refine zin (fun A => zQi D (cT cy) (cW ad cy n V Z R K B M bc G L S q w U wk jo) (nI (pCt B b n)) A) (cc := cX2_countAheadOf) (maxL := 4) (ret := (some .int)) (own := RX2) (by decide) rfl rfl (Nat.le_of_ble_eq_true rfl) ?_
  intro p e s m below meth c A F hr hlocks hmn hA hK H locs hP hD hS ls hl
  obtain ⟨hx, hb, hml, hown, hts⟩ := id F
  have hl : lv_has ls 4 [(0, .ref (ad 0)), (1, .int b)] := hl
  refine lv_iconst (v := nI 0) hx hb dX2_countAheadOf_0 (by decide) ?_
  refine lv_istore_n (lv' := [(2, .int (nI 0)), (0, .ref (ad 0)), (1, .int b)]) hx hb dX2_countAheadOf_1 rfl hl (by decide) rfl (fun ls hl => ?_)
  refine lv_iconst (v := nI 0) hx hb dX2_countAheadOf_2 (by decide) ?_
  refine lv_istore_n (lv' := [(3, .int (nI 0)), (2, .int (nI 0)), (0, .ref (ad 0)), (1, .int b)]) hx hb dX2_countAheadOf_3 rfl hl (by decide) rfl (fun ls hl => ?_)
  exact lp_count F hr hlocks hA hK n V Z R K B M bc G L S q w U wk jo b hn n 0 (by omega) H locs hP hD hS ls (lv_sub hl [1, 0, 2, 3] rfl)

set_option maxHeartbeats 4000000 in
set_option maxRecDepth 100000 in
theorem lp_letActs {p : Program} {l : Launch} {e : Env} {s : State} {m : MethodId} {args : Array Value} {below : List Frame} {meth : Method} {c : Code} {A : Nat → Prop} {D : va_G} {ad : Nat → Nat} {cy : Nat → ClassId} (F : CallFix p m c cX2_letActsIn 3 s args wsX2_letActsIn RX2) (hr : meth.sig.returnType = none) (hlocks : meth.locks = false) (hA : ∀ q, s.heap.size ≤ q → A q) (hK : va_K D vwCl (cT cy) s) (n : Nat) (V : Nat → UInt64) (Z : Nat → Int32) (R : Nat → Int32) (K : Nat → Int32) (B : Nat → Int32) (M : Nat → Int32) (bc : Nat) (G : Int32) (L : Int32) (S : Int64) (U : Nat → Int32) (jo : UInt64) (d : Nat) (hd : d ≤ 40) : ∀ (k : Nat) (j : Nat) (x : pA), j + k = d → ∀ (H : Heap) (locs : List Loc), va_P D vwCl (cW ad cy n V Z R K B M bc G L S x.1 x.2.1 U x.2.2 jo) H → va_D A (cW ad cy n V Z R K B M bc G L S x.1 x.2.1 U x.2.2 jo) → va_S A s.heap H locs → ∀ ls : Array Slot, lv_has ls 3 [(2, .int (nI j)), (0, .ref (ad 0)), (1, .int (nI d))] → W p l e ({ frames := 1, cells := 0, slots := 0, locals := 21 }) s m args below meth c H locs 0 0 (MQ below (zQv D (cT cy) (cW ad cy n V Z R K B M bc G L S ((pLet k x).1) ((pLet k x).2.1) U ((pLet k x).2.2) jo) A) args s 0 0 A) (F0 m 2 ls []) := by
  obtain ⟨hx, hb, hml, hown, hts⟩ := id F
  have hinX2 : ∀ w ∈ wsX20, w ∈ wsX2_letActsIn := by decide +kernel
  have hf_56 := hts (.fieldLink RX2 56 "RegionShares" "waitingActs" "LRegionShares$WaitingActs;") (by decide +kernel)
  have hf_63 := hts (.fieldLink RX2 63 "RegionShares" "workDone" "J") (by decide +kernel)
  intro k
  induction k with
  | zero =>
    intro j x hk 
    intro H locs hP hD hS ls hl
    refine lv_iload_n hx hb dX2_letActsIn_2 rfl (lv_at hl 0 rfl) ?_
    refine lv_iload_n hx hb dX2_letActsIn_3 rfl (lv_at hl 2 rfl) ?_
    refine zb_ge (a := j) (b := d) (tgt := 33) hx hb dX2_letActsIn_4 (by decide) (by omega) (by omega) (fun c4 => ?_) (fun c4 => ?_)
    · exact zret_v F hr hlocks hK hP hD hS dX2_letActsIn_33
    · exact absurd c4 (by omega)
  | succ k ih =>
    intro j x hk  H locs hP hD hS ls hl
    refine lv_iload_n hx hb dX2_letActsIn_2 rfl (lv_at hl 0 rfl) ?_
    refine lv_iload_n hx hb dX2_letActsIn_3 rfl (lv_at hl 2 rfl) ?_
    refine zb_ge (a := j) (b := d) (tgt := 33) hx hb dX2_letActsIn_4 (by decide) (by omega) (by omega) (fun c4 => ?_) (fun c4 => ?_)
    · exact absurd c4 (by omega)
    · refine lv_aload_n hx hb dX2_letActsIn_7 rfl (lv_at hl 1 rfl) ?_
      refine va_get (D := D) (ci := 2) (v := .ref (ad 8)) (C := RX2) (T := TX2) (N := 13) hx hb hts hinX2 hown hK hP 0 rfl rfl 9 (by decide) hf_56 (fun _ h9 => h9) rfl dX2_letActsIn_8 ?_
      refine zcV_i (As := []) (rest := []) F (kX1_letOneIn l D ad cy _ n V Z R K B M bc G L S x.1 x.2.1 U x.2.2 jo) (cwV 0 hts gX2_letActsIn_X1_letOneIn rfl rfl rfl (by decide +kernel) ⟨Nat.le_of_ble_eq_true rfl, Nat.le_of_ble_eq_true rfl⟩) (va_recv hK hP (ci := 1) (q0 := 8) rfl rfl) hK hP hD hS hA rfl hl.1 rfl (Nat.le_of_ble_eq_true rfl) dX2_letActsIn_11 ⟨Nat.le_of_ble_eq_true rfl, Nat.le_of_ble_eq_true rfl⟩ (fun H locs hP hD hS => ?_)
      refine lv_if_eq (tgt := 27) hx hb dX2_letActsIn_14 (by decide) (fun c14 => ?_) (fun c14 => ?_)
      · refine lv_iinc (v := nI (j + 1)) (lv' := [(2, .int (nI (j + 1))), (0, .ref (ad 0)), (1, .int (nI d))]) hx hb dX2_letActsIn_27 hl (k := 0) rfl (by exact nI_1 _) (by decide) rfl (fun ls hl => ?_)
        refine lv_goto (tgt := 2) hx hb dX2_letActsIn_30 (by decide) ?_
        have e9 : pLe x = ((pLo x.1 x.2.1).2.1, (pLo x.1 x.2.1).2.2, x.2.2) := by
          unfold pLe
          first | rw [if_pos c14] | rw [if_neg c14]
        rw [show pLet (k + 1) x = pLet k (pLe x) from rfl, e9]
        exact ih (j + 1) _ (by omega) H locs hP hD hS ls (lv_sub hl [0, 1, 2] rfl)
      · refine lv_aload_n hx hb dX2_letActsIn_17 rfl (lv_at hl 1 rfl) ?_
        refine lv_dup hx hb dX2_letActsIn_18 rfl ?_
        refine va_get (D := D) (ci := 2) (v := .long x.2.2) (C := RX2) (T := TX2) (N := 13) hx hb hts hinX2 hown hK hP 0 rfl rfl 11 (by decide) hf_63 (fun _ h9 => h9) rfl dX2_letActsIn_19 ?_
        refine lv_lconst (v := 1) hx hb dX2_letActsIn_22 (by decide) ?_
        refine lv_ladd hx hb dX2_letActsIn_23 ?_
        refine va_put (D := D) (ci := 2) (v := .long (x.2.2 + 1)) (ty := .long) (C := RX2) (T := TX2) (N := 13) hx hb hts hinX2 tyX2 tyX2_ok nmX2 hown hK hP hD hS 0 rfl rfl 11 (by decide) hf_63 (fun _ h9 => h9) rfl (by decide +kernel) rfl rfl (Nat.le_of_ble_eq_true rfl) dX2_letActsIn_24 (fun H locs hP hD hS => ?_)
        have hP : va_P D vwCl (cW ad cy n V Z R K B M bc G L S ((pLo x.1 x.2.1).2.1) ((pLo x.1 x.2.1).2.2) U (x.2.2 + 1) jo) H := hP
        have hD : va_D A (cW ad cy n V Z R K B M bc G L S ((pLo x.1 x.2.1).2.1) ((pLo x.1 x.2.1).2.2) U (x.2.2 + 1) jo) := hD
        refine lv_iinc (v := nI (j + 1)) (lv' := [(2, .int (nI (j + 1))), (0, .ref (ad 0)), (1, .int (nI d))]) hx hb dX2_letActsIn_27 hl (k := 0) rfl (by exact nI_1 _) (by decide) rfl (fun ls hl => ?_)
        refine lv_goto (tgt := 2) hx hb dX2_letActsIn_30 (by decide) ?_
        have e9 : pLe x = ((pLo x.1 x.2.1).2.1, (pLo x.1 x.2.1).2.2, x.2.2 + 1) := by
          unfold pLe
          first | rw [if_pos c14] | rw [if_neg c14]
        rw [show pLet (k + 1) x = pLet k (pLe x) from rfl, e9]
        exact ih (j + 1) _ (by omega) H locs hP hD hS ls (lv_sub hl [0, 1, 2] rfl)

set_option maxHeartbeats 4000000 in
set_option maxRecDepth 100000 in
theorem kX2_letActsIn (l : Launch) (D : va_G) (ad : Nat → Nat) (cy : Nat → ClassId) (sz : Nat) (n : Nat) (V : Nat → UInt64) (Z : Nat → Int32) (R : Nat → Int32) (K : Nat → Int32) (B : Nat → Int32) (M : Nat → Int32) (bc : Nat) (G : Int32) (L : Int32) (S : Int64) (q : Nat → Int32) (w : Int32) (U : Nat → Int32) (wk : Int64) (jo : UInt64) (d : Nat) (hd : d ≤ 40) : mV l yX2_letActsIn wsX2_letActsIn ({ frames := 1, cells := 0, slots := 0, locals := 21 }) [.ref (ad 0), .int (nI d)] D (cT cy) (cW ad cy n V Z R K B M bc G L S q w U wk jo) sz (cW ad cy n V Z R K B M bc G L S ((pLet d (q, w, wk)).1) ((pLet d (q, w, wk)).2.1) U ((pLet d (q, w, wk)).2.2) jo) 0 0 := by
  refine zin (fun A => zQv D (cT cy) (cW ad cy n V Z R K B M bc G L S ((pLet d (q, w, wk)).1) ((pLet d (q, w, wk)).2.1) U ((pLet d (q, w, wk)).2.2) jo) A) (cc := cX2_letActsIn) (maxL := 3) (ret := none) (own := RX2) (by decide) rfl rfl (Nat.le_of_ble_eq_true rfl) ?_
  intro p e s m below meth c A F hr hlocks hmn hA hK H locs hP hD hS ls hl
  obtain ⟨hx, hb, hml, hown, hts⟩ := id F
  have hl : lv_has ls 3 [(0, .ref (ad 0)), (1, .int (nI d))] := hl
  refine lv_iconst (v := nI 0) hx hb dX2_letActsIn_0 (by decide) ?_
  refine lv_istore_n (lv' := [(2, .int (nI 0)), (0, .ref (ad 0)), (1, .int (nI d))]) hx hb dX2_letActsIn_1 rfl hl (by decide) rfl (fun ls hl => ?_)
  exact lp_letActs F hr hlocks hA hK n V Z R K B M bc G L S U jo d hd d 0 (q, w, wk) (by omega) H locs hP hD hS ls (lv_sub hl [0, 1, 2] rfl)
