set_option maxHeartbeats 4000000 in
set_option maxRecDepth 100000 in
theorem lp_run {p : Program} {l : Launch} {e : Env} {s : State} {m : MethodId} {args : Array Value} {below : List Frame} {meth : Method} {c : Code} {A : Nat → Prop} {D : va_G} {ad : Nat → Nat} {cy : Nat → ClassId} (F : CallFix p m c cX2_run 6 s args wsX2_run RX2) (hr : meth.sig.returnType = (some .int)) (hlocks : meth.locks = false) (hA : ∀ q, s.heap.size ≤ q → A q) (hK : va_K D vwCl (cT cy) s) (n : Nat) (V : Nat → UInt64) (Z : Nat → Int32) (R : Nat → Int32) (K : Nat → Int32) (B : Nat → Int32) (M : Nat → Int32) (bc : Nat) (G : Int32) (q : Nat → Int32) (w : Int32) (jo : UInt64) (d : Nat) (E : Nat → Int) (hV : ∀ k, k < n → V k = Dz (8 * E k) ∧ (E k).natAbs ≤ 8000) (hd : d ≤ 40) (hn : n ≤ 40) : ∀ (k : Nat) (b : Nat) (x : pY), b + k = d → ∀ (H : Heap) (locs : List Loc), va_P D vwCl (cW ad cy n V Z R K B M bc G x.2.1 x.1 q w x.2.2.1 x.2.2.2 jo) H → va_D A (cW ad cy n V Z R K B M bc G x.2.1 x.1 q w x.2.2.1 x.2.2.2 jo) → va_S A s.heap H locs → ∀ ls : Array Slot, lv_has ls 6 [(5, .int (nI b)), (4, .int (nI d)), (0, .ref (ad 0))] → W p l e ({ frames := 6, cells := 0, slots := 0, locals := 120 }) s m args below meth c H locs 0 0 (MQ below (zQi D (cT cy) (cW ad cy n V Z R K B M bc G ((pRn K B n k b x).2.2.1) ((pRn K B n k b x).2.1) (if (pRn K B n k b x).1 = true then (pLet d (q, w, (pRn K B n k b x).2.2.2.2)).1 else q) (if (pRn K B n k b x).1 = true then (pLet d (q, w, (pRn K B n k b x).2.2.2.2)).2.1 else w) ((pRn K B n k b x).2.2.2.1) (if (pRn K B n k b x).1 = true then (pLet d (q, w, (pRn K B n k b x).2.2.2.2)).2.2 else (pRn K B n k b x).2.2.2.2) (if (pRn K B n k b x).1 = true then Dz (pSm E B (nI d) n) else jo)) (if (pRn K B n k b x).1 = true then nI (pCt B (nI d) n) else -1) A) args s 0 0 A) (F0 m 43 ls []) := by
  obtain ⟨hx, hb, hml, hown, hts⟩ := id F
  have hinX2 : ∀ w ∈ wsX20, w ∈ wsX2_run := by decide +kernel
  have hf_67 := hts (.fieldLink RX2 67 "RegionShares" "joinedSum" "D") (by decide +kernel)
  intro k
  induction k with
  | zero =>
    intro b x hk 
    intro H locs hP hD hS ls hl
    refine lv_iload hx hb dX2_run_43 (lv_at hl 0 rfl) ?_
    refine lv_iload hx hb dX2_run_45 (lv_at hl 1 rfl) ?_
    refine zb_ge (a := b) (b := d) (tgt := 67) hx hb dX2_run_47 (by decide) (by omega) (by omega) (fun c47 => ?_) (fun c47 => ?_)
    · refine lv_aload_n hx hb dX2_run_67 rfl (lv_at hl 2 rfl) ?_
      refine lv_iload hx hb dX2_run_68 (lv_at hl 1 rfl) ?_
      refine zcV_v (As := [.int (nI d)]) (rest := []) F (kX2_letActsIn l D ad cy _ n V Z R K B M bc G x.2.1 x.1 q w x.2.2.1 x.2.2.2 jo d hd) (cwV 1 hts gX2_run_X2_letActsIn rfl rfl rfl (by decide +kernel) ⟨Nat.le_of_ble_eq_true rfl, Nat.le_of_ble_eq_true rfl⟩) (va_recv hK hP (ci := 2) (q0 := 0) rfl rfl) hK hP hD hS hA rfl hl.1 rfl (Nat.le_of_ble_eq_true rfl) dX2_run_70 ⟨Nat.le_of_ble_eq_true rfl, Nat.le_of_ble_eq_true rfl⟩ (fun H locs hP hD hS => ?_)
      refine lv_aload_n hx hb dX2_run_73 rfl (lv_at hl 2 rfl) ?_
      refine lv_aload_n hx hb dX2_run_74 rfl (lv_at hl 2 rfl) ?_
      refine lv_iload hx hb dX2_run_75 (lv_at hl 1 rfl) ?_
      refine zcV_d (As := [.int (nI d)]) (rest := [.ref (ad 0)]) F (kX2_sumAheadOf l D ad cy _ n V Z R K B M bc G x.2.1 x.1 ((pLet d (q, w, x.2.2.2)).1) ((pLet d (q, w, x.2.2.2)).2.1) x.2.2.1 ((pLet d (q, w, x.2.2.2)).2.2) jo (nI d) E hV hn) (cwV 1 hts gX2_run_X2_sumAheadOf rfl rfl rfl (by decide +kernel) ⟨Nat.le_of_ble_eq_true rfl, Nat.le_of_ble_eq_true rfl⟩) (va_recv hK hP (ci := 2) (q0 := 0) rfl rfl) hK hP hD hS hA rfl hl.1 rfl (Nat.le_of_ble_eq_true rfl) dX2_run_77 ⟨Nat.le_of_ble_eq_true rfl, Nat.le_of_ble_eq_true rfl⟩ (fun H locs hP hD hS => ?_)
      refine va_put (D := D) (ci := 2) (v := .double (Dz (pSm E B (nI d) n))) (ty := .double) (C := RX2) (T := TX2) (N := 13) hx hb hts hinX2 tyX2 tyX2_ok nmX2 hown hK hP hD hS 0 rfl rfl 12 (by decide) hf_67 (fun _ h9 => h9) rfl (by decide +kernel) rfl rfl (Nat.le_of_ble_eq_true rfl) dX2_run_80 (fun H locs hP hD hS => ?_)
      have hP : va_P D vwCl (cW ad cy n V Z R K B M bc G x.2.1 x.1 ((pLet d (q, w, x.2.2.2)).1) ((pLet d (q, w, x.2.2.2)).2.1) x.2.2.1 ((pLet d (q, w, x.2.2.2)).2.2) (Dz (pSm E B (nI d) n))) H := hP
      have hD : va_D A (cW ad cy n V Z R K B M bc G x.2.1 x.1 ((pLet d (q, w, x.2.2.2)).1) ((pLet d (q, w, x.2.2.2)).2.1) x.2.2.1 ((pLet d (q, w, x.2.2.2)).2.2) (Dz (pSm E B (nI d) n))) := hD
      refine lv_aload_n hx hb dX2_run_83 rfl (lv_at hl 2 rfl) ?_
      refine lv_iload hx hb dX2_run_84 (lv_at hl 1 rfl) ?_
      refine zcV_i (As := [.int (nI d)]) (rest := []) F (kX2_countAheadOf l D ad cy _ n V Z R K B M bc G x.2.1 x.1 ((pLet d (q, w, x.2.2.2)).1) ((pLet d (q, w, x.2.2.2)).2.1) x.2.2.1 ((pLet d (q, w, x.2.2.2)).2.2) (Dz (pSm E B (nI d) n)) (nI d) hn) (cwV 1 hts gX2_run_X2_countAheadOf rfl rfl rfl (by decide +kernel) ⟨Nat.le_of_ble_eq_true rfl, Nat.le_of_ble_eq_true rfl⟩) (va_recv hK hP (ci := 2) (q0 := 0) rfl rfl) hK hP hD hS hA rfl hl.1 rfl (Nat.le_of_ble_eq_true rfl) dX2_run_86 ⟨Nat.le_of_ble_eq_true rfl, Nat.le_of_ble_eq_true rfl⟩ (fun H locs hP hD hS => ?_)
      exact zret_i F hr hlocks hK hP hD hS rfl dX2_run_89
    · exact absurd c47 (by omega)
  | succ k ih =>
    intro b x hk  H locs hP hD hS ls hl
    refine lv_iload hx hb dX2_run_43 (lv_at hl 0 rfl) ?_
    refine lv_iload hx hb dX2_run_45 (lv_at hl 1 rfl) ?_
    refine zb_ge (a := b) (b := d) (tgt := 67) hx hb dX2_run_47 (by decide) (by omega) (by omega) (fun c47 => ?_) (fun c47 => ?_)
    · exact absurd c47 (by omega)
    · refine lv_aload_n hx hb dX2_run_50 rfl (lv_at hl 2 rfl) ?_
      refine lv_iload hx hb dX2_run_51 (lv_at hl 0 rfl) ?_
      by_cases hs : (pBt K B (nI b) n 0 x).1 = true
      · rw [show pRn K B n (k + 1) b x = pRn K B n k (b + 1) (pBt K B (nI b) n 0 x).2 from if_pos hs]
        refine zcV_i (As := [.int (nI b)]) (rest := []) F (kX2_doBatch l D ad cy _ n V Z R K B M bc G x.2.1 x.1 q w x.2.2.1 x.2.2.2 jo (nI b) hn) (cwV 1 hts gX2_run_X2_doBatch rfl rfl rfl (by decide +kernel) ⟨Nat.le_of_ble_eq_true rfl, Nat.le_of_ble_eq_true rfl⟩) (va_recv hK hP (ci := 2) (q0 := 0) rfl rfl) hK hP hD hS hA rfl hl.1 rfl (Nat.le_of_ble_eq_true rfl) dX2_run_53 ⟨Nat.le_of_ble_eq_true rfl, Nat.le_of_ble_eq_true rfl⟩ (fun H locs hP hD hS => ?_)
        refine z_topi (y := 1) (if_pos hs) ?_
        refine lv_if_ne (tgt := 61) hx hb dX2_run_56 (by decide) (fun c56 => ?_) (fun c56 => ?_)
        · refine lv_iinc (v := nI (b + 1)) (lv' := [(5, .int (nI (b + 1))), (4, .int (nI d)), (0, .ref (ad 0))]) hx hb dX2_run_61 hl (k := 0) rfl (by exact nI_1 _) (by decide) rfl (fun ls hl => ?_)
          refine lv_goto (tgt := 43) hx hb dX2_run_64 (by decide) ?_
          exact ih (b + 1) _ (by omega) H locs hP hD hS ls (lv_sub hl [0, 1, 2] rfl)
        · exact absurd c56 (by decide)
      · rw [show pRn K B n (k + 1) b x = (false, (pBt K B (nI b) n 0 x).2) from if_neg hs]
        refine zcV_i (As := [.int (nI b)]) (rest := []) F (kX2_doBatch l D ad cy _ n V Z R K B M bc G x.2.1 x.1 q w x.2.2.1 x.2.2.2 jo (nI b) hn) (cwV 1 hts gX2_run_X2_doBatch rfl rfl rfl (by decide +kernel) ⟨Nat.le_of_ble_eq_true rfl, Nat.le_of_ble_eq_true rfl⟩) (va_recv hK hP (ci := 2) (q0 := 0) rfl rfl) hK hP hD hS hA rfl hl.1 rfl (Nat.le_of_ble_eq_true rfl) dX2_run_53 ⟨Nat.le_of_ble_eq_true rfl, Nat.le_of_ble_eq_true rfl⟩ (fun H locs hP hD hS => ?_)
        refine z_topi (y := 0) (if_neg hs) ?_
        refine lv_if_ne (tgt := 61) hx hb dX2_run_56 (by decide) (fun c56 => ?_) (fun c56 => ?_)
        · exact absurd rfl c56
        · refine lv_iconst (v := (-1)) hx hb dX2_run_59 (by decide) ?_
          exact zret_i F hr hlocks hK hP hD hS rfl dX2_run_60

set_option maxHeartbeats 4000000 in
set_option maxRecDepth 100000 in
theorem kX2_run (l : Launch) (D : va_G) (ad : Nat → Nat) (cy : Nat → ClassId) (sz : Nat) (n : Nat) (V : Nat → UInt64) (Z : Nat → Int32) (R : Nat → Int32) (K : Nat → Int32) (B : Nat → Int32) (M : Nat → Int32) (bc : Nat) (G : Int32) (L : Int32) (S : Int64) (q : Nat → Int32) (w : Int32) (U : Nat → Int32) (wk : Int64) (jo : UInt64) (wr : Int32) (sd : Int64) (h1 : ¬ wr < nI 1) (h2 : wr ≤ nI 16) (d : Nat) (had : pAh Z B (nI bc) n = nI d) (hd : d ≤ 40) (E : Nat → Int) (hV : ∀ k, k < n → V k = Dz (8 * E k) ∧ (E k).natAbs ≤ 8000) (hn : n ≤ 40) : mI l yX2_run wsX2_run ({ frames := 6, cells := 0, slots := 0, locals := 120 }) [.ref (ad 0), .int wr, .long sd] D (cT cy) (cW ad cy n V Z R K B M bc G L S q w U wk jo) sz (if (pRn K B n d 0 (sd, pBit wr - 1, pZr U n, wk)).1 = true then nI (pCt B (nI d) n) else -1) (cW ad cy n V Z R K B M bc wr ((pRn K B n d 0 (sd, pBit wr - 1, pZr U n, wk)).2.2.1) ((pRn K B n d 0 (sd, pBit wr - 1, pZr U n, wk)).2.1) (if (pRn K B n d 0 (sd, pBit wr - 1, pZr U n, wk)).1 = true then (pLet d (q, w, (pRn K B n d 0 (sd, pBit wr - 1, pZr U n, wk)).2.2.2.2)).1 else q) (if (pRn K B n d 0 (sd, pBit wr - 1, pZr U n, wk)).1 = true then (pLet d (q, w, (pRn K B n d 0 (sd, pBit wr - 1, pZr U n, wk)).2.2.2.2)).2.1 else w) ((pRn K B n d 0 (sd, pBit wr - 1, pZr U n, wk)).2.2.2.1) (if (pRn K B n d 0 (sd, pBit wr - 1, pZr U n, wk)).1 = true then (pLet d (q, w, (pRn K B n d 0 (sd, pBit wr - 1, pZr U n, wk)).2.2.2.2)).2.2 else (pRn K B n d 0 (sd, pBit wr - 1, pZr U n, wk)).2.2.2.2) (if (pRn K B n d 0 (sd, pBit wr - 1, pZr U n, wk)).1 = true then Dz (pSm E B (nI d) n) else jo)) 0 0 := by
  refine zin (fun A => zQi D (cT cy) (cW ad cy n V Z R K B M bc wr ((pRn K B n d 0 (sd, pBit wr - 1, pZr U n, wk)).2.2.1) ((pRn K B n d 0 (sd, pBit wr - 1, pZr U n, wk)).2.1) (if (pRn K B n d 0 (sd, pBit wr - 1, pZr U n, wk)).1 = true then (pLet d (q, w, (pRn K B n d 0 (sd, pBit wr - 1, pZr U n, wk)).2.2.2.2)).1 else q) (if (pRn K B n d 0 (sd, pBit wr - 1, pZr U n, wk)).1 = true then (pLet d (q, w, (pRn K B n d 0 (sd, pBit wr - 1, pZr U n, wk)).2.2.2.2)).2.1 else w) ((pRn K B n d 0 (sd, pBit wr - 1, pZr U n, wk)).2.2.2.1) (if (pRn K B n d 0 (sd, pBit wr - 1, pZr U n, wk)).1 = true then (pLet d (q, w, (pRn K B n d 0 (sd, pBit wr - 1, pZr U n, wk)).2.2.2.2)).2.2 else (pRn K B n d 0 (sd, pBit wr - 1, pZr U n, wk)).2.2.2.2) (if (pRn K B n d 0 (sd, pBit wr - 1, pZr U n, wk)).1 = true then Dz (pSm E B (nI d) n) else jo)) (if (pRn K B n d 0 (sd, pBit wr - 1, pZr U n, wk)).1 = true then nI (pCt B (nI d) n) else -1) A) (cc := cX2_run) (maxL := 6) (ret := (some .int)) (own := RX2) (by decide) rfl rfl (Nat.le_of_ble_eq_true rfl) ?_
  intro p e s m below meth c A F hr hlocks hmn hA hK H locs hP hD hS ls hl
  obtain ⟨hx, hb, hml, hown, hts⟩ := id F
  have hl : lv_has ls 6 [(0, .ref (ad 0)), (1, .int wr), (2, .long sd)] := hl
  have hinX2 : ∀ w ∈ wsX20, w ∈ wsX2_run := by decide +kernel
  have hf_49 := hts (.fieldLink RX2 49 "RegionShares" "crew" "LRegionShares$Crew;") (by decide +kernel)
  refine lv_iload_n hx hb dX2_run_0 rfl (lv_at hl 1 rfl) ?_
  refine lv_iconst (v := nI 1) hx hb dX2_run_1 (by decide) ?_
  refine lv_icmp_lt (tgt := 11) hx hb dX2_run_2 (by decide) (fun c2 => ?_) (fun c2 => ?_)
  · exact absurd c2 h1
  · refine lv_iload_n hx hb dX2_run_5 rfl (lv_at hl 1 rfl) ?_
    refine lv_bipush (v := nI 16) hx hb dX2_run_6 (by decide) ?_
    refine lv_icmp_le (tgt := 21) hx hb dX2_run_8 (by decide) (fun c8 => ?_) (fun c8 => ?_)
    · refine lv_aload_n hx hb dX2_run_21 rfl (lv_at hl 0 rfl) ?_
      refine va_get (D := D) (ci := 2) (v := .ref (ad 7)) (C := RX2) (T := TX2) (N := 13) hx hb hts hinX2 hown hK hP 0 rfl rfl 8 (by decide) hf_49 (fun _ h9 => h9) rfl dX2_run_22 ?_
      refine lv_iload_n hx hb dX2_run_25 rfl (lv_at hl 1 rfl) ?_
      refine lv_lload_n hx hb dX2_run_26 rfl (lv_at hl 2 rfl) ?_
      refine zcV_v (As := [.int wr, .long sd]) (rest := []) F (kX0_gather l D ad cy _ n V Z R K B M bc G L S q w U wk jo wr sd) (cwV 2 hts gX2_run_X0_gather rfl rfl rfl (by decide +kernel) ⟨Nat.le_of_ble_eq_true rfl, Nat.le_of_ble_eq_true rfl⟩) (va_recv hK hP (ci := 0) (q0 := 7) rfl rfl) hK hP hD hS hA rfl hl.1 rfl (Nat.le_of_ble_eq_true rfl) dX2_run_27 ⟨Nat.le_of_ble_eq_true rfl, Nat.le_of_ble_eq_true rfl⟩ (fun H locs hP hD hS => ?_)
      refine lv_aload_n hx hb dX2_run_30 rfl (lv_at hl 0 rfl) ?_
      refine zcV_v (As := []) (rest := []) F (kX2_forgetBegun l D ad cy _ n V Z R K B M bc wr (pBit wr - 1) sd q w U wk jo hn) (cwV 0 hts gX2_run_X2_forgetBegun rfl rfl rfl (by decide +kernel) ⟨Nat.le_of_ble_eq_true rfl, Nat.le_of_ble_eq_true rfl⟩) (va_recv hK hP (ci := 2) (q0 := 0) rfl rfl) hK hP hD hS hA rfl hl.1 rfl (Nat.le_of_ble_eq_true rfl) dX2_run_31 ⟨Nat.le_of_ble_eq_true rfl, Nat.le_of_ble_eq_true rfl⟩ (fun H locs hP hD hS => ?_)
      refine lv_aload_n hx hb dX2_run_34 rfl (lv_at hl 0 rfl) ?_
      refine zcV_i (As := []) (rest := []) F (kX2_batchesAheadOfStop l D ad cy _ n V Z R K B M bc wr (pBit wr - 1) sd q w (pZr U n) wk jo hn) (cwV 0 hts gX2_run_X2_batchesAheadOfStop rfl rfl rfl (by decide +kernel) ⟨Nat.le_of_ble_eq_true rfl, Nat.le_of_ble_eq_true rfl⟩) (va_recv hK hP (ci := 2) (q0 := 0) rfl rfl) hK hP hD hS hA rfl hl.1 rfl (Nat.le_of_ble_eq_true rfl) dX2_run_35 ⟨Nat.le_of_ble_eq_true rfl, Nat.le_of_ble_eq_true rfl⟩ (fun H locs hP hD hS => ?_)
      refine z_topi (y := nI d) had ?_
      refine lv_istore (lv' := [(4, .int (nI d)), (0, .ref (ad 0)), (1, .int wr), (2, .long sd)]) hx hb dX2_run_38 hl (by decide) rfl (fun ls hl => ?_)
      refine lv_iconst (v := nI 0) hx hb dX2_run_40 (by decide) ?_
      refine lv_istore (lv' := [(5, .int (nI 0)), (4, .int (nI d)), (0, .ref (ad 0)), (1, .int wr), (2, .long sd)]) hx hb dX2_run_41 hl (by decide) rfl (fun ls hl => ?_)
      exact lp_run F hr hlocks hA hK n V Z R K B M bc wr q w jo d E hV hd hn d 0 (sd, pBit wr - 1, pZr U n, wk) (by omega) H locs hP hD hS ls (lv_sub hl [0, 1, 2] rfl)
    · exact absurd h2 c8

set_option maxHeartbeats 4000000 in
set_option maxRecDepth 100000 in
theorem kX2_batches (l : Launch) (D : va_G) (ad : Nat → Nat) (cy : Nat → ClassId) (sz : Nat) (n : Nat) (V : Nat → UInt64) (Z : Nat → Int32) (R : Nat → Int32) (K : Nat → Int32) (B : Nat → Int32) (M : Nat → Int32) (bc : Nat) (G : Int32) (L : Int32) (S : Int64) (q : Nat → Int32) (w : Int32) (U : Nat → Int32) (wk : Int64) (jo : UInt64)  : mI l yX2_batches wsX2_batches ({ frames := 0, cells := 0, slots := 0, locals := 0 }) [.ref (ad 0)] D (cT cy) (cW ad cy n V Z R K B M bc G L S q w U wk jo) sz (nI bc) (cW ad cy n V Z R K B M bc G L S q w U wk jo) 0 0 := by
  refine zin (fun A => zQi D (cT cy) (cW ad cy n V Z R K B M bc G L S q w U wk jo) (nI bc) A) (cc := cX2_batches) (maxL := 1) (ret := (some .int)) (own := RX2) (by decide) rfl rfl (Nat.le_of_ble_eq_true rfl) ?_
  intro p e s m below meth c A F hr hlocks hmn hA hK H locs hP hD hS ls hl
  obtain ⟨hx, hb, hml, hown, hts⟩ := id F
  have hl : lv_has ls 1 [(0, .ref (ad 0))] := hl
  have hinX2 : ∀ w ∈ wsX20, w ∈ wsX2_batches := by decide +kernel
  have hf_43 := hts (.fieldLink RX2 43 "RegionShares" "batchCount" "I") (by decide +kernel)
  refine lv_aload_n hx hb dX2_batches_0 rfl (lv_at hl 0 rfl) ?_
  refine va_get (D := D) (ci := 2) (v := .int (nI bc)) (C := RX2) (T := TX2) (N := 13) hx hb hts hinX2 hown hK hP 0 rfl rfl 7 (by decide) hf_43 (fun _ h9 => h9) rfl dX2_batches_1 ?_
  exact zret_i F hr hlocks hK hP hD hS rfl dX2_batches_4

set_option maxHeartbeats 4000000 in
set_option maxRecDepth 100000 in
theorem kX2_joined (l : Launch) (D : va_G) (ad : Nat → Nat) (cy : Nat → ClassId) (sz : Nat) (n : Nat) (V : Nat → UInt64) (Z : Nat → Int32) (R : Nat → Int32) (K : Nat → Int32) (B : Nat → Int32) (M : Nat → Int32) (bc : Nat) (G : Int32) (L : Int32) (S : Int64) (q : Nat → Int32) (w : Int32) (U : Nat → Int32) (wk : Int64) (jo : UInt64)  : mD l yX2_joined wsX2_joined ({ frames := 0, cells := 0, slots := 0, locals := 0 }) [.ref (ad 0)] D (cT cy) (cW ad cy n V Z R K B M bc G L S q w U wk jo) sz jo (cW ad cy n V Z R K B M bc G L S q w U wk jo) 0 0 := by
  refine zin (fun A => zQd D (cT cy) (cW ad cy n V Z R K B M bc G L S q w U wk jo) jo A) (cc := cX2_joined) (maxL := 1) (ret := (some .double)) (own := RX2) (by decide) rfl rfl (Nat.le_of_ble_eq_true rfl) ?_
  intro p e s m below meth c A F hr hlocks hmn hA hK H locs hP hD hS ls hl
  obtain ⟨hx, hb, hml, hown, hts⟩ := id F
  have hl : lv_has ls 1 [(0, .ref (ad 0))] := hl
  have hinX2 : ∀ w ∈ wsX20, w ∈ wsX2_joined := by decide +kernel
  have hf_67 := hts (.fieldLink RX2 67 "RegionShares" "joinedSum" "D") (by decide +kernel)
  refine lv_aload_n hx hb dX2_joined_0 rfl (lv_at hl 0 rfl) ?_
  refine va_get (D := D) (ci := 2) (v := .double jo) (C := RX2) (T := TX2) (N := 13) hx hb hts hinX2 hown hK hP 0 rfl rfl 12 (by decide) hf_67 (fun _ h9 => h9) rfl dX2_joined_1 ?_
  exact zret_d F hr hlocks hK hP hD hS rfl dX2_joined_4

set_option maxHeartbeats 4000000 in
set_option maxRecDepth 100000 in
theorem kX2_work (l : Launch) (D : va_G) (ad : Nat → Nat) (cy : Nat → ClassId) (sz : Nat) (n : Nat) (V : Nat → UInt64) (Z : Nat → Int32) (R : Nat → Int32) (K : Nat → Int32) (B : Nat → Int32) (M : Nat → Int32) (bc : Nat) (G : Int32) (L : Int32) (S : Int64) (q : Nat → Int32) (w : Int32) (U : Nat → Int32) (wk : Int64) (jo : UInt64)  : mL l yX2_work wsX2_work ({ frames := 0, cells := 0, slots := 0, locals := 0 }) [.ref (ad 0)] D (cT cy) (cW ad cy n V Z R K B M bc G L S q w U wk jo) sz wk (cW ad cy n V Z R K B M bc G L S q w U wk jo) 0 0 := by
  refine zin (fun A => zQl D (cT cy) (cW ad cy n V Z R K B M bc G L S q w U wk jo) wk A) (cc := cX2_work) (maxL := 1) (ret := (some .long)) (own := RX2) (by decide) rfl rfl (Nat.le_of_ble_eq_true rfl) ?_
  intro p e s m below meth c A F hr hlocks hmn hA hK H locs hP hD hS ls hl
  obtain ⟨hx, hb, hml, hown, hts⟩ := id F
  have hl : lv_has ls 1 [(0, .ref (ad 0))] := hl
  have hinX2 : ∀ w ∈ wsX20, w ∈ wsX2_work := by decide +kernel
  have hf_63 := hts (.fieldLink RX2 63 "RegionShares" "workDone" "J") (by decide +kernel)
  refine lv_aload_n hx hb dX2_work_0 rfl (lv_at hl 0 rfl) ?_
  refine va_get (D := D) (ci := 2) (v := .long wk) (C := RX2) (T := TX2) (N := 13) hx hb hts hinX2 hown hK hP 0 rfl rfl 11 (by decide) hf_63 (fun _ h9 => h9) rfl dX2_work_1 ?_
  exact zret_l F hr hlocks hK hP hD hS rfl dX2_work_4

set_option maxHeartbeats 4000000 in
set_option maxRecDepth 100000 in
theorem kX2_plain (l : Launch) (D : va_G) (ad : Nat → Nat) (cy : Nat → ClassId) (sz : Nat) (n : Nat) (V : Nat → UInt64) (Z : Nat → Int32) (R : Nat → Int32) (K : Nat → Int32) (B : Nat → Int32) (M : Nat → Int32) (bc : Nat) (G : Int32) (L : Int32) (S : Int64) (q : Nat → Int32) (w : Int32) (U : Nat → Int32) (wk : Int64) (jo : UInt64)  (E : Nat → Int) (hV : ∀ k, k < n → V k = Dz (8 * E k) ∧ (E k).natAbs ≤ 8000) (hn : n ≤ 40) : mD l yX2_plain wsX2_plain ({ frames := 2, cells := 0, slots := 0, locals := 50 }) [.ref (ad 0)] D (cT cy) (cW ad cy n V Z R K B M bc G L S q w U wk jo) sz (Dz (pSm E B (nI bc) n)) (cW ad cy n V Z R K B M bc G L S q w U wk jo) 0 0 := by
  refine zin (fun A => zQd D (cT cy) (cW ad cy n V Z R K B M bc G L S q w U wk jo) (Dz (pSm E B (nI bc) n)) A) (cc := cX2_plain) (maxL := 1) (ret := (some .double)) (own := RX2) (by decide) rfl rfl (Nat.le_of_ble_eq_true rfl) ?_
  intro p e s m below meth c A F hr hlocks hmn hA hK H locs hP hD hS ls hl
  obtain ⟨hx, hb, hml, hown, hts⟩ := id F
  have hl : lv_has ls 1 [(0, .ref (ad 0))] := hl
  have hinX2 : ∀ w ∈ wsX20, w ∈ wsX2_plain := by decide +kernel
  have hf_43 := hts (.fieldLink RX2 43 "RegionShares" "batchCount" "I") (by decide +kernel)
  refine lv_aload_n hx hb dX2_plain_0 rfl (lv_at hl 0 rfl) ?_
  refine lv_aload_n hx hb dX2_plain_1 rfl (lv_at hl 0 rfl) ?_
  refine va_get (D := D) (ci := 2) (v := .int (nI bc)) (C := RX2) (T := TX2) (N := 13) hx hb hts hinX2 hown hK hP 0 rfl rfl 7 (by decide) hf_43 (fun _ h9 => h9) rfl dX2_plain_2 ?_
  refine zcV_d (As := [.int (nI bc)]) (rest := []) F (kX2_sumAheadOf l D ad cy _ n V Z R K B M bc G L S q w U wk jo (nI bc) E hV hn) (cwV 1 hts gX2_plain_X2_sumAheadOf rfl rfl rfl (by decide +kernel) ⟨Nat.le_of_ble_eq_true rfl, Nat.le_of_ble_eq_true rfl⟩) (va_recv hK hP (ci := 2) (q0 := 0) rfl rfl) hK hP hD hS hA rfl hl.1 rfl (Nat.le_of_ble_eq_true rfl) dX2_plain_5 ⟨Nat.le_of_ble_eq_true rfl, Nat.le_of_ble_eq_true rfl⟩ (fun H locs hP hD hS => ?_)
  exact zret_d F hr hlocks hK hP hD hS rfl dX2_plain_8

set_option maxHeartbeats 4000000 in
set_option maxRecDepth 100000 in
theorem kX2_broken (l : Launch) (D : va_G) (ad : Nat → Nat) (cy : Nat → ClassId) (sz : Nat) (n : Nat) (V : Nat → UInt64) (Z : Nat → Int32) (R : Nat → Int32) (K : Nat → Int32) (B : Nat → Int32) (M : Nat → Int32) (bc : Nat) (G : Int32) (L : Int32) (S : Int64) (q : Nat → Int32) (w : Int32) (U : Nat → Int32) (wk : Int64) (jo : UInt64)  : mI l yX2_broken wsX2_broken ({ frames := 3, cells := 0, slots := 0, locals := 60 }) [.ref (ad 0)] D (cT cy) (cW ad cy n V Z R K B M bc G L S q w U wk jo) sz (G - pBC L) (cW ad cy n V Z R K B M bc G L S q w U wk jo) 0 0 := by
  refine zin (fun A => zQi D (cT cy) (cW ad cy n V Z R K B M bc G L S q w U wk jo) (G - pBC L) A) (cc := cX2_broken) (maxL := 1) (ret := (some .int)) (own := RX2) (by decide) rfl rfl (Nat.le_of_ble_eq_true rfl) ?_
  intro p e s m below meth c A F hr hlocks hmn hA hK H locs hP hD hS ls hl
  obtain ⟨hx, hb, hml, hown, hts⟩ := id F
  have hl : lv_has ls 1 [(0, .ref (ad 0))] := hl
  have hinX2 : ∀ w ∈ wsX20, w ∈ wsX2_broken := by decide +kernel
  have hf_49 := hts (.fieldLink RX2 49 "RegionShares" "crew" "LRegionShares$Crew;") (by decide +kernel)
  refine lv_aload_n hx hb dX2_broken_0 rfl (lv_at hl 0 rfl) ?_
  refine va_get (D := D) (ci := 2) (v := .ref (ad 7)) (C := RX2) (T := TX2) (N := 13) hx hb hts hinX2 hown hK hP 0 rfl rfl 8 (by decide) hf_49 (fun _ h9 => h9) rfl dX2_broken_1 ?_
  refine zcV_i (As := []) (rest := []) F (kX0_brokenCount l D ad cy _ n V Z R K B M bc G L S q w U wk jo) (cwV 0 hts gX2_broken_X0_brokenCount rfl rfl rfl (by decide +kernel) ⟨Nat.le_of_ble_eq_true rfl, Nat.le_of_ble_eq_true rfl⟩) (va_recv hK hP (ci := 0) (q0 := 7) rfl rfl) hK hP hD hS hA rfl hl.1 rfl (Nat.le_of_ble_eq_true rfl) dX2_broken_4 ⟨Nat.le_of_ble_eq_true rfl, Nat.le_of_ble_eq_true rfl⟩ (fun H locs hP hD hS => ?_)
  exact zret_i F hr hlocks hK hP hD hS rfl dX2_broken_7

set_option maxHeartbeats 4000000 in
set_option maxRecDepth 100000 in
theorem kX2_live (l : Launch) (D : va_G) (ad : Nat → Nat) (cy : Nat → ClassId) (sz : Nat) (n : Nat) (V : Nat → UInt64) (Z : Nat → Int32) (R : Nat → Int32) (K : Nat → Int32) (B : Nat → Int32) (M : Nat → Int32) (bc : Nat) (G : Int32) (L : Int32) (S : Int64) (q : Nat → Int32) (w : Int32) (U : Nat → Int32) (wk : Int64) (jo : UInt64)  : mI l yX2_live wsX2_live ({ frames := 2, cells := 0, slots := 0, locals := 40 }) [.ref (ad 0)] D (cT cy) (cW ad cy n V Z R K B M bc G L S q w U wk jo) sz (pBC L) (cW ad cy n V Z R K B M bc G L S q w U wk jo) 0 0 := by
  refine zin (fun A => zQi D (cT cy) (cW ad cy n V Z R K B M bc G L S q w U wk jo) (pBC L) A) (cc := cX2_live) (maxL := 1) (ret := (some .int)) (own := RX2) (by decide) rfl rfl (Nat.le_of_ble_eq_true rfl) ?_
  intro p e s m below meth c A F hr hlocks hmn hA hK H locs hP hD hS ls hl
  obtain ⟨hx, hb, hml, hown, hts⟩ := id F
  have hl : lv_has ls 1 [(0, .ref (ad 0))] := hl
  have hinX2 : ∀ w ∈ wsX20, w ∈ wsX2_live := by decide +kernel
  have hf_49 := hts (.fieldLink RX2 49 "RegionShares" "crew" "LRegionShares$Crew;") (by decide +kernel)
  refine lv_aload_n hx hb dX2_live_0 rfl (lv_at hl 0 rfl) ?_
  refine va_get (D := D) (ci := 2) (v := .ref (ad 7)) (C := RX2) (T := TX2) (N := 13) hx hb hts hinX2 hown hK hP 0 rfl rfl 8 (by decide) hf_49 (fun _ h9 => h9) rfl dX2_live_1 ?_
  refine zcV_i (As := []) (rest := []) F (kX0_liveCount l D ad cy _ n V Z R K B M bc G L S q w U wk jo) (cwV 0 hts gX2_live_X0_liveCount rfl rfl rfl (by decide +kernel) ⟨Nat.le_of_ble_eq_true rfl, Nat.le_of_ble_eq_true rfl⟩) (va_recv hK hP (ci := 0) (q0 := 7) rfl rfl) hK hP hD hS hA rfl hl.1 rfl (Nat.le_of_ble_eq_true rfl) dX2_live_4 ⟨Nat.le_of_ble_eq_true rfl, Nat.le_of_ble_eq_true rfl⟩ (fun H locs hP hD hS => ?_)
  exact zret_i F hr hlocks hK hP hD hS rfl dX2_live_7

set_option maxHeartbeats 4000000 in
set_option maxRecDepth 100000 in
theorem kX2_requireShare (l : Launch) (D : va_G) (ad : Nat → Nat) (cy : Nat → ClassId) (sz : Nat) (n : Nat) (V : Nat → UInt64) (Z : Nat → Int32) (R : Nat → Int32) (K : Nat → Int32) (B : Nat → Int32) (M : Nat → Int32) (bc : Nat) (G : Int32) (L : Int32) (S : Int64) (q : Nat → Int32) (w : Int32) (U : Nat → Int32) (wk : Int64) (jo : UInt64) (k : Nat) (hk : k < n) (hn : n ≤ 40) : mV l yX2_requireShare wsX2_requireShare ({ frames := 0, cells := 0, slots := 0, locals := 0 }) [.ref (ad 0), .int (nI k)] D (cT cy) (cW ad cy n V Z R K B M bc G L S q w U wk jo) sz (cW ad cy n V Z R K B M bc G L S q w U wk jo) 0 0 := by
  refine zin (fun A => zQv D (cT cy) (cW ad cy n V Z R K B M bc G L S q w U wk jo) A) (cc := cX2_requireShare) (maxL := 2) (ret := none) (own := RX2) (by decide) rfl rfl (Nat.le_of_ble_eq_true rfl) ?_
  intro p e s m below meth c A F hr hlocks hmn hA hK H locs hP hD hS ls hl
  obtain ⟨hx, hb, hml, hown, hts⟩ := id F
  have hl : lv_has ls 2 [(0, .ref (ad 0)), (1, .int (nI k))] := hl
  have hinX2 : ∀ w ∈ wsX20, w ∈ wsX2_requireShare := by decide +kernel
  have hf_18 := hts (.fieldLink RX2 18 "RegionShares" "shares" "I") (by decide +kernel)
  refine lv_iload_n hx hb dX2_requireShare_0 rfl (lv_at hl 1 rfl) ?_
  refine lv_if_lt (tgt := 12) hx hb dX2_requireShare_1 (by decide) (fun c1 => ?_) (fun c1 => ?_)
  · exact absurd c1 (nI_pos (by omega))
  · refine lv_iload_n hx hb dX2_requireShare_4 rfl (lv_at hl 1 rfl) ?_
    refine lv_aload_n hx hb dX2_requireShare_5 rfl (lv_at hl 0 rfl) ?_
    refine va_get (D := D) (ci := 2) (v := .int (nI n)) (C := RX2) (T := TX2) (N := 13) hx hb hts hinX2 hown hK hP 0 rfl rfl 0 (by decide) hf_18 (fun _ h9 => h9) rfl dX2_requireShare_6 ?_
    refine zb_lt (a := k) (b := n) (tgt := 22) hx hb dX2_requireShare_9 (by decide) (by omega) (by omega) (fun c9 => ?_) (fun c9 => ?_)
    · exact zret_v F hr hlocks hK hP hD hS dX2_requireShare_22
    · exact absurd c9 (by omega)

set_option maxHeartbeats 4000000 in
set_option maxRecDepth 100000 in
theorem kX2_batch (l : Launch) (D : va_G) (ad : Nat → Nat) (cy : Nat → ClassId) (sz : Nat) (n : Nat) (V : Nat → UInt64) (Z : Nat → Int32) (R : Nat → Int32) (K : Nat → Int32) (B : Nat → Int32) (M : Nat → Int32) (bc : Nat) (G : Int32) (L : Int32) (S : Int64) (q : Nat → Int32) (w : Int32) (U : Nat → Int32) (wk : Int64) (jo : UInt64) (k : Nat) (hk : k < n) (hn : n ≤ 40) : mI l yX2_batch wsX2_batch ({ frames := 1, cells := 0, slots := 0, locals := 30 }) [.ref (ad 0), .int (nI k)] D (cT cy) (cW ad cy n V Z R K B M bc G L S q w U wk jo) sz (B k) (cW ad cy n V Z R K B M bc G L S q w U wk jo) 0 0 := by
  refine zin (fun A => zQi D (cT cy) (cW ad cy n V Z R K B M bc G L S q w U wk jo) (B k) A) (cc := cX2_batch) (maxL := 2) (ret := (some .int)) (own := RX2) (by decide) rfl rfl (Nat.le_of_ble_eq_true rfl) ?_
  intro p e s m below meth c A F hr hlocks hmn hA hK H locs hP hD hS ls hl
  obtain ⟨hx, hb, hml, hown, hts⟩ := id F
  have hl : lv_has ls 2 [(0, .ref (ad 0)), (1, .int (nI k))] := hl
  have hinX2 : ∀ w ∈ wsX20, w ∈ wsX2_batch := by decide +kernel
  have hf_37 := hts (.fieldLink RX2 37 "RegionShares" "batchOf" "[I") (by decide +kernel)
  refine lv_aload_n hx hb dX2_batch_0 rfl (lv_at hl 0 rfl) ?_
  refine lv_iload_n hx hb dX2_batch_1 rfl (lv_at hl 1 rfl) ?_
  refine zcV_v (As := [.int (nI k)]) (rest := []) F (kX2_requireShare l D ad cy _ n V Z R K B M bc G L S q w U wk jo k hk hn) (cwV 1 hts gX2_batch_X2_requireShare rfl rfl rfl (by decide +kernel) ⟨Nat.le_of_ble_eq_true rfl, Nat.le_of_ble_eq_true rfl⟩) (va_recv hK hP (ci := 2) (q0 := 0) rfl rfl) hK hP hD hS hA rfl hl.1 rfl (Nat.le_of_ble_eq_true rfl) dX2_batch_2 ⟨Nat.le_of_ble_eq_true rfl, Nat.le_of_ble_eq_true rfl⟩ (fun H locs hP hD hS => ?_)
  refine lv_aload_n hx hb dX2_batch_5 rfl (lv_at hl 0 rfl) ?_
  refine va_get (D := D) (ci := 2) (v := .ref (ad 5)) (C := RX2) (T := TX2) (N := 13) hx hb hts hinX2 hown hK hP 0 rfl rfl 5 (by decide) hf_37 (fun _ h9 => h9) rfl dX2_batch_6 ?_
  refine lv_iload_n hx hb dX2_batch_9 rfl (lv_at hl 1 rfl) ?_
  refine ax_ild hx hb hK hP 5 4 rfl rfl (by omega) (by omega) dX2_batch_10 ?_
  exact zret_i F hr hlocks hK hP hD hS rfl dX2_batch_11

set_option maxHeartbeats 4000000 in
set_option maxRecDepth 100000 in
theorem kX2_times (l : Launch) (D : va_G) (ad : Nat → Nat) (cy : Nat → ClassId) (sz : Nat) (n : Nat) (V : Nat → UInt64) (Z : Nat → Int32) (R : Nat → Int32) (K : Nat → Int32) (B : Nat → Int32) (M : Nat → Int32) (bc : Nat) (G : Int32) (L : Int32) (S : Int64) (q : Nat → Int32) (w : Int32) (U : Nat → Int32) (wk : Int64) (jo : UInt64) (k : Nat) (hk : k < n) (hn : n ≤ 40) : mI l yX2_times wsX2_times ({ frames := 1, cells := 0, slots := 0, locals := 30 }) [.ref (ad 0), .int (nI k)] D (cT cy) (cW ad cy n V Z R K B M bc G L S q w U wk jo) sz (U k) (cW ad cy n V Z R K B M bc G L S q w U wk jo) 0 0 := by
  refine zin (fun A => zQi D (cT cy) (cW ad cy n V Z R K B M bc G L S q w U wk jo) (U k) A) (cc := cX2_times) (maxL := 2) (ret := (some .int)) (own := RX2) (by decide) rfl rfl (Nat.le_of_ble_eq_true rfl) ?_
  intro p e s m below meth c A F hr hlocks hmn hA hK H locs hP hD hS ls hl
  obtain ⟨hx, hb, hml, hown, hts⟩ := id F
  have hl : lv_has ls 2 [(0, .ref (ad 0)), (1, .int (nI k))] := hl
  have hinX2 : ∀ w ∈ wsX20, w ∈ wsX2_times := by decide +kernel
  have hf_60 := hts (.fieldLink RX2 60 "RegionShares" "begun" "[I") (by decide +kernel)
  refine lv_aload_n hx hb dX2_times_0 rfl (lv_at hl 0 rfl) ?_
  refine lv_iload_n hx hb dX2_times_1 rfl (lv_at hl 1 rfl) ?_
  refine zcV_v (As := [.int (nI k)]) (rest := []) F (kX2_requireShare l D ad cy _ n V Z R K B M bc G L S q w U wk jo k hk hn) (cwV 1 hts gX2_times_X2_requireShare rfl rfl rfl (by decide +kernel) ⟨Nat.le_of_ble_eq_true rfl, Nat.le_of_ble_eq_true rfl⟩) (va_recv hK hP (ci := 2) (q0 := 0) rfl rfl) hK hP hD hS hA rfl hl.1 rfl (Nat.le_of_ble_eq_true rfl) dX2_times_2 ⟨Nat.le_of_ble_eq_true rfl, Nat.le_of_ble_eq_true rfl⟩ (fun H locs hP hD hS => ?_)
  refine lv_aload_n hx hb dX2_times_5 rfl (lv_at hl 0 rfl) ?_
  refine va_get (D := D) (ci := 2) (v := .ref (ad 9)) (C := RX2) (T := TX2) (N := 13) hx hb hts hinX2 hown hK hP 0 rfl rfl 10 (by decide) hf_60 (fun _ h9 => h9) rfl dX2_times_6 ?_
  refine lv_iload_n hx hb dX2_times_9 rfl (lv_at hl 1 rfl) ?_
  refine ax_ild hx hb hK hP 9 6 rfl rfl (by omega) (by omega) dX2_times_10 ?_
  exact zret_i F hr hlocks hK hP hD hS rfl dX2_times_11

set_option maxHeartbeats 4000000 in
set_option maxRecDepth 100000 in
theorem kX2_touches0 (l : Launch) (D : va_G) (ad : Nat → Nat) (cy : Nat → ClassId) (sz : Nat) (n : Nat) (V : Nat → UInt64) (Z : Nat → Int32) (R : Nat → Int32) (K : Nat → Int32) (B : Nat → Int32) (M : Nat → Int32) (bc : Nat) (G : Int32) (L : Int32) (S : Int64) (q : Nat → Int32) (w : Int32) (U : Nat → Int32) (wk : Int64) (jo : UInt64) (k : Nat) (g : Nat) (h : ¬ R k &&& pBit (nI g) = 0) (hk : k < n) (hg : g < 31) (hn : n ≤ 40) : mI l yX2_touches wsX2_touches ({ frames := 2, cells := 0, slots := 0, locals := 60 }) [.ref (ad 0), .int (nI k), .int (nI g)] D (cT cy) (cW ad cy n V Z R K B M bc G L S q w U wk jo) sz 0 (cW ad cy n V Z R K B M bc G L S q w U wk jo) 0 0 := by
  refine zin (fun A => zQi D (cT cy) (cW ad cy n V Z R K B M bc G L S q w U wk jo) 0 A) (cc := cX2_touches) (maxL := 4) (ret := (some .boolean)) (own := RX2) (by decide) rfl rfl (Nat.le_of_ble_eq_true rfl) ?_
  intro p e s m below meth c A F hr hlocks hmn hA hK H locs hP hD hS ls hl
  obtain ⟨hx, hb, hml, hown, hts⟩ := id F
  have hl : lv_has ls 4 [(0, .ref (ad 0)), (1, .int (nI k)), (2, .int (nI g))] := hl
  have hinX2 : ∀ w ∈ wsX20, w ∈ wsX2_touches := by decide +kernel
  have hf_30 := hts (.fieldLink RX2 30 "RegionShares" "regions" "[I") (by decide +kernel)
  refine lv_aload_n hx hb dX2_touches_0 rfl (lv_at hl 0 rfl) ?_
  refine lv_iload_n hx hb dX2_touches_1 rfl (lv_at hl 1 rfl) ?_
  refine zcV_v (As := [.int (nI k)]) (rest := []) F (kX2_requireShare l D ad cy _ n V Z R K B M bc G L S q w U wk jo k hk hn) (cwV 1 hts gX2_touches_X2_requireShare rfl rfl rfl (by decide +kernel) ⟨Nat.le_of_ble_eq_true rfl, Nat.le_of_ble_eq_true rfl⟩) (va_recv hK hP (ci := 2) (q0 := 0) rfl rfl) hK hP hD hS hA rfl hl.1 rfl (Nat.le_of_ble_eq_true rfl) dX2_touches_2 ⟨Nat.le_of_ble_eq_true rfl, Nat.le_of_ble_eq_true rfl⟩ (fun H locs hP hD hS => ?_)
  refine lv_iload_n hx hb dX2_touches_5 rfl (lv_at hl 2 rfl) ?_
  refine lv_if_lt (tgt := 15) hx hb dX2_touches_6 (by decide) (fun c6 => ?_) (fun c6 => ?_)
  · exact absurd c6 (nI_pos (by omega))
  · refine lv_iload_n hx hb dX2_touches_9 rfl (lv_at hl 2 rfl) ?_
    refine lv_bipush (v := nI 31) hx hb dX2_touches_10 (by decide) ?_
    refine zb_lt (a := g) (b := 31) (tgt := 25) hx hb dX2_touches_12 (by decide) (by omega) (by omega) (fun c12 => ?_) (fun c12 => ?_)
    · refine lv_iconst (v := 1) hx hb dX2_touches_25 (by decide) ?_
      refine lv_iload_n hx hb dX2_touches_26 rfl (lv_at hl 2 rfl) ?_
      refine lv_ishl hx hb dX2_touches_27 ?_
      refine z_topi (y := pBit (nI g)) rfl ?_
      refine lv_istore_n (lv' := [(3, .int (pBit (nI g))), (0, .ref (ad 0)), (1, .int (nI k)), (2, .int (nI g))]) hx hb dX2_touches_28 rfl hl (by decide) rfl (fun ls hl => ?_)
      refine lv_aload_n hx hb dX2_touches_29 rfl (lv_at hl 1 rfl) ?_
      refine va_get (D := D) (ci := 2) (v := .ref (ad 3)) (C := RX2) (T := TX2) (N := 13) hx hb hts hinX2 hown hK hP 0 rfl rfl 3 (by decide) hf_30 (fun _ h9 => h9) rfl dX2_touches_30 ?_
      refine lv_iload_n hx hb dX2_touches_33 rfl (lv_at hl 2 rfl) ?_
      refine ax_ild hx hb hK hP 3 2 rfl rfl (by omega) (by omega) dX2_touches_34 ?_
      refine lv_iload_n hx hb dX2_touches_35 rfl (lv_at hl 0 rfl) ?_
      refine lv_iand hx hb dX2_touches_36 ?_
      refine lv_if_eq (tgt := 42) hx hb dX2_touches_37 (by decide) (fun c37 => ?_) (fun c37 => ?_)
      · exact absurd c37 h
      · refine lv_iconst (v := 0) hx hb dX2_touches_40 (by decide) ?_
        exact zret_z F hr hlocks hK hP hD hS (by decide) rfl dX2_touches_41
    · exact absurd c12 (by omega)

set_option maxHeartbeats 4000000 in
set_option maxRecDepth 100000 in
theorem kX2_touches1 (l : Launch) (D : va_G) (ad : Nat → Nat) (cy : Nat → ClassId) (sz : Nat) (n : Nat) (V : Nat → UInt64) (Z : Nat → Int32) (R : Nat → Int32) (K : Nat → Int32) (B : Nat → Int32) (M : Nat → Int32) (bc : Nat) (G : Int32) (L : Int32) (S : Int64) (q : Nat → Int32) (w : Int32) (U : Nat → Int32) (wk : Int64) (jo : UInt64) (k : Nat) (g : Nat) (h : R k &&& pBit (nI g) = 0) (hk : k < n) (hg : g < 31) (hn : n ≤ 40) : mI l yX2_touches wsX2_touches ({ frames := 2, cells := 0, slots := 0, locals := 60 }) [.ref (ad 0), .int (nI k), .int (nI g)] D (cT cy) (cW ad cy n V Z R K B M bc G L S q w U wk jo) sz 1 (cW ad cy n V Z (upd R k (R k ||| pBit (nI g))) K ((pSo (upd R k (R k ||| pBit (nI g))) B M n).1) ((pSo (upd R k (R k ||| pBit (nI g))) B M n).2.1) ((pSo (upd R k (R k ||| pBit (nI g))) B M n).2.2) G L S q w U wk jo) 0 0 := by
  refine zin (fun A => zQi D (cT cy) (cW ad cy n V Z (upd R k (R k ||| pBit (nI g))) K ((pSo (upd R k (R k ||| pBit (nI g))) B M n).1) ((pSo (upd R k (R k ||| pBit (nI g))) B M n).2.1) ((pSo (upd R k (R k ||| pBit (nI g))) B M n).2.2) G L S q w U wk jo) 1 A) (cc := cX2_touches) (maxL := 4) (ret := (some .boolean)) (own := RX2) (by decide) rfl rfl (Nat.le_of_ble_eq_true rfl) ?_
  intro p e s m below meth c A F hr hlocks hmn hA hK H locs hP hD hS ls hl
  obtain ⟨hx, hb, hml, hown, hts⟩ := id F
  have hl : lv_has ls 4 [(0, .ref (ad 0)), (1, .int (nI k)), (2, .int (nI g))] := hl
  have hinX2 : ∀ w ∈ wsX20, w ∈ wsX2_touches := by decide +kernel
  have hf_30 := hts (.fieldLink RX2 30 "RegionShares" "regions" "[I") (by decide +kernel)
  refine lv_aload_n hx hb dX2_touches_0 rfl (lv_at hl 0 rfl) ?_
  refine lv_iload_n hx hb dX2_touches_1 rfl (lv_at hl 1 rfl) ?_
  refine zcV_v (As := [.int (nI k)]) (rest := []) F (kX2_requireShare l D ad cy _ n V Z R K B M bc G L S q w U wk jo k hk hn) (cwV 1 hts gX2_touches_X2_requireShare rfl rfl rfl (by decide +kernel) ⟨Nat.le_of_ble_eq_true rfl, Nat.le_of_ble_eq_true rfl⟩) (va_recv hK hP (ci := 2) (q0 := 0) rfl rfl) hK hP hD hS hA rfl hl.1 rfl (Nat.le_of_ble_eq_true rfl) dX2_touches_2 ⟨Nat.le_of_ble_eq_true rfl, Nat.le_of_ble_eq_true rfl⟩ (fun H locs hP hD hS => ?_)
  refine lv_iload_n hx hb dX2_touches_5 rfl (lv_at hl 2 rfl) ?_
  refine lv_if_lt (tgt := 15) hx hb dX2_touches_6 (by decide) (fun c6 => ?_) (fun c6 => ?_)
  · exact absurd c6 (nI_pos (by omega))
  · refine lv_iload_n hx hb dX2_touches_9 rfl (lv_at hl 2 rfl) ?_
    refine lv_bipush (v := nI 31) hx hb dX2_touches_10 (by decide) ?_
    refine zb_lt (a := g) (b := 31) (tgt := 25) hx hb dX2_touches_12 (by decide) (by omega) (by omega) (fun c12 => ?_) (fun c12 => ?_)
    · refine lv_iconst (v := 1) hx hb dX2_touches_25 (by decide) ?_
      refine lv_iload_n hx hb dX2_touches_26 rfl (lv_at hl 2 rfl) ?_
      refine lv_ishl hx hb dX2_touches_27 ?_
      refine z_topi (y := pBit (nI g)) rfl ?_
      refine lv_istore_n (lv' := [(3, .int (pBit (nI g))), (0, .ref (ad 0)), (1, .int (nI k)), (2, .int (nI g))]) hx hb dX2_touches_28 rfl hl (by decide) rfl (fun ls hl => ?_)
      refine lv_aload_n hx hb dX2_touches_29 rfl (lv_at hl 1 rfl) ?_
      refine va_get (D := D) (ci := 2) (v := .ref (ad 3)) (C := RX2) (T := TX2) (N := 13) hx hb hts hinX2 hown hK hP 0 rfl rfl 3 (by decide) hf_30 (fun _ h9 => h9) rfl dX2_touches_30 ?_
      refine lv_iload_n hx hb dX2_touches_33 rfl (lv_at hl 2 rfl) ?_
      refine ax_ild hx hb hK hP 3 2 rfl rfl (by omega) (by omega) dX2_touches_34 ?_
      refine lv_iload_n hx hb dX2_touches_35 rfl (lv_at hl 0 rfl) ?_
      refine lv_iand hx hb dX2_touches_36 ?_
      refine lv_if_eq (tgt := 42) hx hb dX2_touches_37 (by decide) (fun c37 => ?_) (fun c37 => ?_)
      · refine lv_aload_n hx hb dX2_touches_42 rfl (lv_at hl 1 rfl) ?_
        refine va_get (D := D) (ci := 2) (v := .ref (ad 3)) (C := RX2) (T := TX2) (N := 13) hx hb hts hinX2 hown hK hP 0 rfl rfl 3 (by decide) hf_30 (fun _ h9 => h9) rfl dX2_touches_43 ?_
        refine lv_iload_n hx hb dX2_touches_46 rfl (lv_at hl 2 rfl) ?_
        refine lv_dup2_11 hx hb dX2_touches_47 rfl rfl ?_
        refine ax_ild hx hb hK hP 3 2 rfl rfl (by omega) (by omega) dX2_touches_48 ?_
        refine lv_iload_n hx hb dX2_touches_49 rfl (lv_at hl 0 rfl) ?_
        refine lv_ior hx hb dX2_touches_50 ?_
        refine ax_ist hx hb hK hP hD hS 3 2 rfl rfl (by omega) (by omega) dX2_touches_51 (fun H locs hP hD hS => ?_)
        have hP : va_P D vwCl (cW ad cy n V Z (upd R k ((R k) ||| (pBit (nI g)))) K B M bc G L S q w U wk jo) H := hP
        have hD : va_D A (cW ad cy n V Z (upd R k ((R k) ||| (pBit (nI g)))) K B M bc G L S q w U wk jo) := hD
        refine lv_aload_n hx hb dX2_touches_52 rfl (lv_at hl 1 rfl) ?_
        refine zcV_v (As := []) (rest := []) F (kX2_sortIntoBatches l D ad cy _ n V Z (upd R k ((R k) ||| (pBit (nI g)))) K B M bc G L S q w U wk jo hn) (cwV 0 hts gX2_touches_X2_sortIntoBatches rfl rfl rfl (by decide +kernel) ⟨Nat.le_of_ble_eq_true rfl, Nat.le_of_ble_eq_true rfl⟩) (va_recv hK hP (ci := 2) (q0 := 0) rfl rfl) hK hP hD hS hA rfl hl.1 rfl (Nat.le_of_ble_eq_true rfl) dX2_touches_53 ⟨Nat.le_of_ble_eq_true rfl, Nat.le_of_ble_eq_true rfl⟩ (fun H locs hP hD hS => ?_)
        refine lv_iconst (v := 1) hx hb dX2_touches_56 (by decide) ?_
        exact zret_z F hr hlocks hK hP hD hS (by decide) rfl dX2_touches_57
      · exact absurd h c37
    · exact absurd c12 (by omega)

set_option maxHeartbeats 4000000 in
set_option maxRecDepth 100000 in
theorem kX2_failAt0 (l : Launch) (D : va_G) (ad : Nat → Nat) (cy : Nat → ClassId) (sz : Nat) (n : Nat) (V : Nat → UInt64) (Z : Nat → Int32) (R : Nat → Int32) (K : Nat → Int32) (B : Nat → Int32) (M : Nat → Int32) (bc : Nat) (G : Int32) (L : Int32) (S : Int64) (q : Nat → Int32) (w : Int32) (U : Nat → Int32) (wk : Int64) (jo : UInt64) (g : Nat) (k : Nat) (h : K k &&& pBit (nI g) = 0) (hk : k < n) (hg : g < 16) (hn : n ≤ 40) : mI l yX2_failAt wsX2_failAt ({ frames := 1, cells := 0, slots := 0, locals := 40 }) [.ref (ad 0), .int (nI g), .int (nI k)] D (cT cy) (cW ad cy n V Z R K B M bc G L S q w U wk jo) sz 1 (cW ad cy n V Z R (upd K k (K k ||| pBit (nI g))) B M bc G L S q w U wk jo) 0 0 := by
  refine zin (fun A => zQi D (cT cy) (cW ad cy n V Z R (upd K k (K k ||| pBit (nI g))) B M bc G L S q w U wk jo) 1 A) (cc := cX2_failAt) (maxL := 4) (ret := (some .boolean)) (own := RX2) (by decide) rfl rfl (Nat.le_of_ble_eq_true rfl) ?_
  intro p e s m below meth c A F hr hlocks hmn hA hK H locs hP hD hS ls hl
  obtain ⟨hx, hb, hml, hown, hts⟩ := id F
  have hl : lv_has ls 4 [(0, .ref (ad 0)), (1, .int (nI g)), (2, .int (nI k))] := hl
  have hinX2 : ∀ w ∈ wsX20, w ∈ wsX2_failAt := by decide +kernel
  have hf_34 := hts (.fieldLink RX2 34 "RegionShares" "breakers" "[I") (by decide +kernel)
  refine lv_iload_n hx hb dX2_failAt_0 rfl (lv_at hl 1 rfl) ?_
  refine lv_if_lt (tgt := 10) hx hb dX2_failAt_1 (by decide) (fun c1 => ?_) (fun c1 => ?_)
  · exact absurd c1 (nI_pos (by omega))
  · refine lv_iload_n hx hb dX2_failAt_4 rfl (lv_at hl 1 rfl) ?_
    refine lv_bipush (v := nI 16) hx hb dX2_failAt_5 (by decide) ?_
    refine zb_lt (a := g) (b := 16) (tgt := 20) hx hb dX2_failAt_7 (by decide) (by omega) (by omega) (fun c7 => ?_) (fun c7 => ?_)
    · refine lv_aload_n hx hb dX2_failAt_20 rfl (lv_at hl 0 rfl) ?_
      refine lv_iload_n hx hb dX2_failAt_21 rfl (lv_at hl 2 rfl) ?_
      refine zcV_v (As := [.int (nI k)]) (rest := []) F (kX2_requireShare l D ad cy _ n V Z R K B M bc G L S q w U wk jo k hk hn) (cwV 1 hts gX2_failAt_X2_requireShare rfl rfl rfl (by decide +kernel) ⟨Nat.le_of_ble_eq_true rfl, Nat.le_of_ble_eq_true rfl⟩) (va_recv hK hP (ci := 2) (q0 := 0) rfl rfl) hK hP hD hS hA rfl hl.1 rfl (Nat.le_of_ble_eq_true rfl) dX2_failAt_22 ⟨Nat.le_of_ble_eq_true rfl, Nat.le_of_ble_eq_true rfl⟩ (fun H locs hP hD hS => ?_)
      refine lv_aload_n hx hb dX2_failAt_25 rfl (lv_at hl 0 rfl) ?_
      refine lv_iload_n hx hb dX2_failAt_26 rfl (lv_at hl 1 rfl) ?_
      refine lv_iload_n hx hb dX2_failAt_27 rfl (lv_at hl 2 rfl) ?_
      refine zcV_i (As := [.int (nI g), .int (nI k)]) (rest := []) F (kX2_breaksAt0 l D ad cy _ n V Z R K B M bc G L S q w U wk jo (nI g) k h hk hn) (cwV 2 hts gX2_failAt_X2_breaksAt rfl rfl rfl (by decide +kernel) ⟨Nat.le_of_ble_eq_true rfl, Nat.le_of_ble_eq_true rfl⟩) (va_recv hK hP (ci := 2) (q0 := 0) rfl rfl) hK hP hD hS hA rfl hl.1 rfl (Nat.le_of_ble_eq_true rfl) dX2_failAt_28 ⟨Nat.le_of_ble_eq_true rfl, Nat.le_of_ble_eq_true rfl⟩ (fun H locs hP hD hS => ?_)
      refine lv_if_ne (tgt := 38) hx hb dX2_failAt_31 (by decide) (fun c31 => ?_) (fun c31 => ?_)
      · exact absurd rfl c31
      · refine lv_iconst (v := 1) hx hb dX2_failAt_34 (by decide) ?_
        refine lv_goto (tgt := 39) hx hb dX2_failAt_35 (by decide) ?_
        refine lv_istore_n (lv' := [(3, .int 1), (0, .ref (ad 0)), (1, .int (nI g)), (2, .int (nI k))]) hx hb dX2_failAt_39 rfl hl (by decide) rfl (fun ls hl => ?_)
        refine lv_aload_n hx hb dX2_failAt_40 rfl (lv_at hl 1 rfl) ?_
        refine va_get (D := D) (ci := 2) (v := .ref (ad 4)) (C := RX2) (T := TX2) (N := 13) hx hb hts hinX2 hown hK hP 0 rfl rfl 4 (by decide) hf_34 (fun _ h9 => h9) rfl dX2_failAt_41 ?_
        refine lv_iload_n hx hb dX2_failAt_44 rfl (lv_at hl 3 rfl) ?_
        refine lv_dup2_11 hx hb dX2_failAt_45 rfl rfl ?_
        refine ax_ild hx hb hK hP 4 3 rfl rfl (by omega) (by omega) dX2_failAt_46 ?_
        refine lv_iconst (v := 1) hx hb dX2_failAt_47 (by decide) ?_
        refine lv_iload_n hx hb dX2_failAt_48 rfl (lv_at hl 2 rfl) ?_
        refine lv_ishl hx hb dX2_failAt_49 ?_
        refine z_topi (y := pBit (nI g)) rfl ?_
        refine lv_ior hx hb dX2_failAt_50 ?_
        refine ax_ist hx hb hK hP hD hS 4 3 rfl rfl (by omega) (by omega) dX2_failAt_51 (fun H locs hP hD hS => ?_)
        have hP : va_P D vwCl (cW ad cy n V Z R (upd K k ((K k) ||| (pBit (nI g)))) B M bc G L S q w U wk jo) H := hP
        have hD : va_D A (cW ad cy n V Z R (upd K k ((K k) ||| (pBit (nI g)))) B M bc G L S q w U wk jo) := hD
        refine lv_iload_n hx hb dX2_failAt_52 rfl (lv_at hl 0 rfl) ?_
        exact zret_z F hr hlocks hK hP hD hS (by decide) rfl dX2_failAt_53
    · exact absurd c7 (by omega)

set_option maxHeartbeats 4000000 in
set_option maxRecDepth 100000 in
theorem kX2_failAt1 (l : Launch) (D : va_G) (ad : Nat → Nat) (cy : Nat → ClassId) (sz : Nat) (n : Nat) (V : Nat → UInt64) (Z : Nat → Int32) (R : Nat → Int32) (K : Nat → Int32) (B : Nat → Int32) (M : Nat → Int32) (bc : Nat) (G : Int32) (L : Int32) (S : Int64) (q : Nat → Int32) (w : Int32) (U : Nat → Int32) (wk : Int64) (jo : UInt64) (g : Nat) (k : Nat) (h : ¬ K k &&& pBit (nI g) = 0) (hk : k < n) (hg : g < 16) (hn : n ≤ 40) : mI l yX2_failAt wsX2_failAt ({ frames := 1, cells := 0, slots := 0, locals := 40 }) [.ref (ad 0), .int (nI g), .int (nI k)] D (cT cy) (cW ad cy n V Z R K B M bc G L S q w U wk jo) sz 0 (cW ad cy n V Z R (upd K k (K k ||| pBit (nI g))) B M bc G L S q w U wk jo) 0 0 := by
  refine zin (fun A => zQi D (cT cy) (cW ad cy n V Z R (upd K k (K k ||| pBit (nI g))) B M bc G L S q w U wk jo) 0 A) (cc := cX2_failAt) (maxL := 4) (ret := (some .boolean)) (own := RX2) (by decide) rfl rfl (Nat.le_of_ble_eq_true rfl) ?_
  intro p e s m below meth c A F hr hlocks hmn hA hK H locs hP hD hS ls hl
  obtain ⟨hx, hb, hml, hown, hts⟩ := id F
  have hl : lv_has ls 4 [(0, .ref (ad 0)), (1, .int (nI g)), (2, .int (nI k))] := hl
  have hinX2 : ∀ w ∈ wsX20, w ∈ wsX2_failAt := by decide +kernel
  have hf_34 := hts (.fieldLink RX2 34 "RegionShares" "breakers" "[I") (by decide +kernel)
  refine lv_iload_n hx hb dX2_failAt_0 rfl (lv_at hl 1 rfl) ?_
  refine lv_if_lt (tgt := 10) hx hb dX2_failAt_1 (by decide) (fun c1 => ?_) (fun c1 => ?_)
  · exact absurd c1 (nI_pos (by omega))
  · refine lv_iload_n hx hb dX2_failAt_4 rfl (lv_at hl 1 rfl) ?_
    refine lv_bipush (v := nI 16) hx hb dX2_failAt_5 (by decide) ?_
    refine zb_lt (a := g) (b := 16) (tgt := 20) hx hb dX2_failAt_7 (by decide) (by omega) (by omega) (fun c7 => ?_) (fun c7 => ?_)
    · refine lv_aload_n hx hb dX2_failAt_20 rfl (lv_at hl 0 rfl) ?_
      refine lv_iload_n hx hb dX2_failAt_21 rfl (lv_at hl 2 rfl) ?_
      refine zcV_v (As := [.int (nI k)]) (rest := []) F (kX2_requireShare l D ad cy _ n V Z R K B M bc G L S q w U wk jo k hk hn) (cwV 1 hts gX2_failAt_X2_requireShare rfl rfl rfl (by decide +kernel) ⟨Nat.le_of_ble_eq_true rfl, Nat.le_of_ble_eq_true rfl⟩) (va_recv hK hP (ci := 2) (q0 := 0) rfl rfl) hK hP hD hS hA rfl hl.1 rfl (Nat.le_of_ble_eq_true rfl) dX2_failAt_22 ⟨Nat.le_of_ble_eq_true rfl, Nat.le_of_ble_eq_true rfl⟩ (fun H locs hP hD hS => ?_)
      refine lv_aload_n hx hb dX2_failAt_25 rfl (lv_at hl 0 rfl) ?_
      refine lv_iload_n hx hb dX2_failAt_26 rfl (lv_at hl 1 rfl) ?_
      refine lv_iload_n hx hb dX2_failAt_27 rfl (lv_at hl 2 rfl) ?_
      refine zcV_i (As := [.int (nI g), .int (nI k)]) (rest := []) F (kX2_breaksAt1 l D ad cy _ n V Z R K B M bc G L S q w U wk jo (nI g) k h hk hn) (cwV 2 hts gX2_failAt_X2_breaksAt rfl rfl rfl (by decide +kernel) ⟨Nat.le_of_ble_eq_true rfl, Nat.le_of_ble_eq_true rfl⟩) (va_recv hK hP (ci := 2) (q0 := 0) rfl rfl) hK hP hD hS hA rfl hl.1 rfl (Nat.le_of_ble_eq_true rfl) dX2_failAt_28 ⟨Nat.le_of_ble_eq_true rfl, Nat.le_of_ble_eq_true rfl⟩ (fun H locs hP hD hS => ?_)
      refine lv_if_ne (tgt := 38) hx hb dX2_failAt_31 (by decide) (fun c31 => ?_) (fun c31 => ?_)
      · refine lv_iconst (v := 0) hx hb dX2_failAt_38 (by decide) ?_
        refine lv_istore_n (lv' := [(3, .int 0), (0, .ref (ad 0)), (1, .int (nI g)), (2, .int (nI k))]) hx hb dX2_failAt_39 rfl hl (by decide) rfl (fun ls hl => ?_)
        refine lv_aload_n hx hb dX2_failAt_40 rfl (lv_at hl 1 rfl) ?_
        refine va_get (D := D) (ci := 2) (v := .ref (ad 4)) (C := RX2) (T := TX2) (N := 13) hx hb hts hinX2 hown hK hP 0 rfl rfl 4 (by decide) hf_34 (fun _ h9 => h9) rfl dX2_failAt_41 ?_
        refine lv_iload_n hx hb dX2_failAt_44 rfl (lv_at hl 3 rfl) ?_
        refine lv_dup2_11 hx hb dX2_failAt_45 rfl rfl ?_
        refine ax_ild hx hb hK hP 4 3 rfl rfl (by omega) (by omega) dX2_failAt_46 ?_
        refine lv_iconst (v := 1) hx hb dX2_failAt_47 (by decide) ?_
        refine lv_iload_n hx hb dX2_failAt_48 rfl (lv_at hl 2 rfl) ?_
        refine lv_ishl hx hb dX2_failAt_49 ?_
        refine z_topi (y := pBit (nI g)) rfl ?_
        refine lv_ior hx hb dX2_failAt_50 ?_
        refine ax_ist hx hb hK hP hD hS 4 3 rfl rfl (by omega) (by omega) dX2_failAt_51 (fun H locs hP hD hS => ?_)
        have hP : va_P D vwCl (cW ad cy n V Z R (upd K k ((K k) ||| (pBit (nI g)))) B M bc G L S q w U wk jo) H := hP
        have hD : va_D A (cW ad cy n V Z R (upd K k ((K k) ||| (pBit (nI g)))) B M bc G L S q w U wk jo) := hD
        refine lv_iload_n hx hb dX2_failAt_52 rfl (lv_at hl 0 rfl) ?_
        exact zret_z F hr hlocks hK hP hD hS (by decide) rfl dX2_failAt_53
      · exact absurd c31 (by decide)
    · exact absurd c7 (by omega)

set_option maxHeartbeats 4000000 in
set_option maxRecDepth 100000 in
theorem kX2_act0 (l : Launch) (D : va_G) (ad : Nat → Nat) (cy : Nat → ClassId) (sz : Nat) (n : Nat) (V : Nat → UInt64) (Z : Nat → Int32) (R : Nat → Int32) (K : Nat → Int32) (B : Nat → Int32) (M : Nat → Int32) (bc : Nat) (G : Int32) (L : Int32) (S : Int64) (q : Nat → Int32) (w : Int32) (U : Nat → Int32) (wk : Int64) (jo : UInt64) (r : Nat) (h : ¬ w < nI 20) (hr10 : r < 10) : mI l yX2_act wsX2_act ({ frames := 1, cells := 0, slots := 0, locals := 40 }) [.ref (ad 0), .int (nI r)] D (cT cy) (cW ad cy n V Z R K B M bc G L S q w U wk jo) sz (-1) (cW ad cy n V Z R K B M bc G L S q w U wk jo) 0 0 := by
  refine zin (fun A => zQi D (cT cy) (cW ad cy n V Z R K B M bc G L S q w U wk jo) (-1) A) (cc := cX2_act) (maxL := 2) (ret := (some .int)) (own := RX2) (by decide) rfl rfl (Nat.le_of_ble_eq_true rfl) ?_
  intro p e s m below meth c A F hr hlocks hmn hA hK H locs hP hD hS ls hl
  obtain ⟨hx, hb, hml, hown, hts⟩ := id F
  have hl : lv_has ls 2 [(0, .ref (ad 0)), (1, .int (nI r))] := hl
  have hinX2 : ∀ w ∈ wsX20, w ∈ wsX2_act := by decide +kernel
  have hf_56 := hts (.fieldLink RX2 56 "RegionShares" "waitingActs" "LRegionShares$WaitingActs;") (by decide +kernel)
  refine lv_iload_n hx hb dX2_act_0 rfl (lv_at hl 1 rfl) ?_
  refine lv_if_lt (tgt := 10) hx hb dX2_act_1 (by decide) (fun c1 => ?_) (fun c1 => ?_)
  · exact absurd c1 (nI_pos (by omega))
  · refine lv_iload_n hx hb dX2_act_4 rfl (lv_at hl 1 rfl) ?_
    refine lv_bipush (v := nI 10) hx hb dX2_act_5 (by decide) ?_
    refine zb_lt (a := r) (b := 10) (tgt := 20) hx hb dX2_act_7 (by decide) (by omega) (by omega) (fun c7 => ?_) (fun c7 => ?_)
    · refine lv_aload_n hx hb dX2_act_20 rfl (lv_at hl 0 rfl) ?_
      refine va_get (D := D) (ci := 2) (v := .ref (ad 8)) (C := RX2) (T := TX2) (N := 13) hx hb hts hinX2 hown hK hP 0 rfl rfl 9 (by decide) hf_56 (fun _ h9 => h9) rfl dX2_act_21 ?_
      refine lv_iload_n hx hb dX2_act_24 rfl (lv_at hl 1 rfl) ?_
      refine zcV_i (As := [.int (nI r)]) (rest := []) F (kX1_add0 l D ad cy _ n V Z R K B M bc G L S q w U wk jo r h) (cwV 1 hts gX2_act_X1_add rfl rfl rfl (by decide +kernel) ⟨Nat.le_of_ble_eq_true rfl, Nat.le_of_ble_eq_true rfl⟩) (va_recv hK hP (ci := 1) (q0 := 8) rfl rfl) hK hP hD hS hA rfl hl.1 rfl (Nat.le_of_ble_eq_true rfl) dX2_act_25 ⟨Nat.le_of_ble_eq_true rfl, Nat.le_of_ble_eq_true rfl⟩ (fun H locs hP hD hS => ?_)
      exact zret_i F hr hlocks hK hP hD hS rfl dX2_act_28
    · exact absurd c7 (by omega)

set_option maxHeartbeats 4000000 in
set_option maxRecDepth 100000 in
theorem kX2_act1 (l : Launch) (D : va_G) (ad : Nat → Nat) (cy : Nat → ClassId) (sz : Nat) (n : Nat) (V : Nat → UInt64) (Z : Nat → Int32) (R : Nat → Int32) (K : Nat → Int32) (B : Nat → Int32) (M : Nat → Int32) (bc : Nat) (G : Int32) (L : Int32) (S : Int64) (q : Nat → Int32) (w : Int32) (U : Nat → Int32) (wk : Int64) (jo : UInt64) (r : Nat) (h : w < nI 20) (hr10 : r < 10) : mI l yX2_act wsX2_act ({ frames := 1, cells := 0, slots := 0, locals := 40 }) [.ref (ad 0), .int (nI r)] D (cT cy) (cW ad cy n V Z R K B M bc G L S q w U wk jo) sz (pAdF q (10 - r) r 0) (cW ad cy n V Z R K B M bc G L S (upd q r (q r + 1)) (w + 1) U wk jo) 0 0 := by
  refine zin (fun A => zQi D (cT cy) (cW ad cy n V Z R K B M bc G L S (upd q r (q r + 1)) (w + 1) U wk jo) (pAdF q (10 - r) r 0) A) (cc := cX2_act) (maxL := 2) (ret := (some .int)) (own := RX2) (by decide) rfl rfl (Nat.le_of_ble_eq_true rfl) ?_
  intro p e s m below meth c A F hr hlocks hmn hA hK H locs hP hD hS ls hl
  obtain ⟨hx, hb, hml, hown, hts⟩ := id F
  have hl : lv_has ls 2 [(0, .ref (ad 0)), (1, .int (nI r))] := hl
  have hinX2 : ∀ w ∈ wsX20, w ∈ wsX2_act := by decide +kernel
  have hf_56 := hts (.fieldLink RX2 56 "RegionShares" "waitingActs" "LRegionShares$WaitingActs;") (by decide +kernel)
  refine lv_iload_n hx hb dX2_act_0 rfl (lv_at hl 1 rfl) ?_
  refine lv_if_lt (tgt := 10) hx hb dX2_act_1 (by decide) (fun c1 => ?_) (fun c1 => ?_)
  · exact absurd c1 (nI_pos (by omega))
  · refine lv_iload_n hx hb dX2_act_4 rfl (lv_at hl 1 rfl) ?_
    refine lv_bipush (v := nI 10) hx hb dX2_act_5 (by decide) ?_
    refine zb_lt (a := r) (b := 10) (tgt := 20) hx hb dX2_act_7 (by decide) (by omega) (by omega) (fun c7 => ?_) (fun c7 => ?_)
    · refine lv_aload_n hx hb dX2_act_20 rfl (lv_at hl 0 rfl) ?_
      refine va_get (D := D) (ci := 2) (v := .ref (ad 8)) (C := RX2) (T := TX2) (N := 13) hx hb hts hinX2 hown hK hP 0 rfl rfl 9 (by decide) hf_56 (fun _ h9 => h9) rfl dX2_act_21 ?_
      refine lv_iload_n hx hb dX2_act_24 rfl (lv_at hl 1 rfl) ?_
      refine zcV_i (As := [.int (nI r)]) (rest := []) F (kX1_add1 l D ad cy _ n V Z R K B M bc G L S q w U wk jo r h hr10) (cwV 1 hts gX2_act_X1_add rfl rfl rfl (by decide +kernel) ⟨Nat.le_of_ble_eq_true rfl, Nat.le_of_ble_eq_true rfl⟩) (va_recv hK hP (ci := 1) (q0 := 8) rfl rfl) hK hP hD hS hA rfl hl.1 rfl (Nat.le_of_ble_eq_true rfl) dX2_act_25 ⟨Nat.le_of_ble_eq_true rfl, Nat.le_of_ble_eq_true rfl⟩ (fun H locs hP hD hS => ?_)
      exact zret_i F hr hlocks hK hP hD hS rfl dX2_act_28
    · exact absurd c7 (by omega)

set_option maxHeartbeats 4000000 in
set_option maxRecDepth 100000 in
theorem kX2_stop0 (l : Launch) (D : va_G) (ad : Nat → Nat) (cy : Nat → ClassId) (sz : Nat) (n : Nat) (V : Nat → UInt64) (Z : Nat → Int32) (R : Nat → Int32) (K : Nat → Int32) (B : Nat → Int32) (M : Nat → Int32) (bc : Nat) (G : Int32) (L : Int32) (S : Int64) (q : Nat → Int32) (w : Int32) (U : Nat → Int32) (wk : Int64) (jo : UInt64) (k : Nat) (h : ¬ Z k = 0) (hk : k < n) (hn : n ≤ 40) : mI l yX2_stop wsX2_stop ({ frames := 1, cells := 0, slots := 0, locals := 30 }) [.ref (ad 0), .int (nI k)] D (cT cy) (cW ad cy n V Z R K B M bc G L S q w U wk jo) sz 0 (cW ad cy n V (upd Z k 0) R K B M bc G L S q w U wk jo) 0 0 := by
  refine zin (fun A => zQi D (cT cy) (cW ad cy n V (upd Z k 0) R K B M bc G L S q w U wk jo) 0 A) (cc := cX2_stop) (maxL := 2) (ret := (some .boolean)) (own := RX2) (by decide) rfl rfl (Nat.le_of_ble_eq_true rfl) ?_
  intro p e s m below meth c A F hr hlocks hmn hA hK H locs hP hD hS ls hl
  obtain ⟨hx, hb, hml, hown, hts⟩ := id F
  have hl : lv_has ls 2 [(0, .ref (ad 0)), (1, .int (nI k))] := hl
  have hinX2 : ∀ w ∈ wsX20, w ∈ wsX2_stop := by decide +kernel
  have hf_26 := hts (.fieldLink RX2 26 "RegionShares" "stopped" "[Z") (by decide +kernel)
  refine lv_aload_n hx hb dX2_stop_0 rfl (lv_at hl 0 rfl) ?_
  refine lv_iload_n hx hb dX2_stop_1 rfl (lv_at hl 1 rfl) ?_
  refine zcV_v (As := [.int (nI k)]) (rest := []) F (kX2_requireShare l D ad cy _ n V Z R K B M bc G L S q w U wk jo k hk hn) (cwV 1 hts gX2_stop_X2_requireShare rfl rfl rfl (by decide +kernel) ⟨Nat.le_of_ble_eq_true rfl, Nat.le_of_ble_eq_true rfl⟩) (va_recv hK hP (ci := 2) (q0 := 0) rfl rfl) hK hP hD hS hA rfl hl.1 rfl (Nat.le_of_ble_eq_true rfl) dX2_stop_2 ⟨Nat.le_of_ble_eq_true rfl, Nat.le_of_ble_eq_true rfl⟩ (fun H locs hP hD hS => ?_)
  refine lv_aload_n hx hb dX2_stop_5 rfl (lv_at hl 0 rfl) ?_
  refine va_get (D := D) (ci := 2) (v := .ref (ad 2)) (C := RX2) (T := TX2) (N := 13) hx hb hts hinX2 hown hK hP 0 rfl rfl 2 (by decide) hf_26 (fun _ h9 => h9) rfl dX2_stop_6 ?_
  refine lv_iload_n hx hb dX2_stop_9 rfl (lv_at hl 1 rfl) ?_
  refine lv_aload_n hx hb dX2_stop_10 rfl (lv_at hl 0 rfl) ?_
  refine va_get (D := D) (ci := 2) (v := .ref (ad 2)) (C := RX2) (T := TX2) (N := 13) hx hb hts hinX2 hown hK hP 0 rfl rfl 2 (by decide) hf_26 (fun _ h9 => h9) rfl dX2_stop_11 ?_
  refine lv_iload_n hx hb dX2_stop_14 rfl (lv_at hl 1 rfl) ?_
  refine ax_zld hx hb hK hP 2 1 rfl rfl (by omega) (by omega) dX2_stop_15 ?_
  refine lv_if_ne (tgt := 23) hx hb dX2_stop_16 (by decide) (fun c16 => ?_) (fun c16 => ?_)
  · refine lv_iconst (v := 0) hx hb dX2_stop_23 (by decide) ?_
    refine ax_zst hx hb hK hP hD hS 2 1 rfl rfl (by decide) (by omega) (by omega) dX2_stop_24 (fun H locs hP hD hS => ?_)
    have hP : va_P D vwCl (cW ad cy n V (upd Z k 0) R K B M bc G L S q w U wk jo) H := hP
    have hD : va_D A (cW ad cy n V (upd Z k 0) R K B M bc G L S q w U wk jo) := hD
    refine lv_aload_n hx hb dX2_stop_25 rfl (lv_at hl 0 rfl) ?_
    refine va_get (D := D) (ci := 2) (v := .ref (ad 2)) (C := RX2) (T := TX2) (N := 13) hx hb hts hinX2 hown hK hP 0 rfl rfl 2 (by decide) hf_26 (fun _ h9 => h9) rfl dX2_stop_26 ?_
    refine lv_iload_n hx hb dX2_stop_29 rfl (lv_at hl 1 rfl) ?_
    refine ax_zld hx hb hK hP 2 1 rfl rfl (by omega) (by omega) dX2_stop_30 ?_
    refine z_topi (y := 0) (upd_at _ _ _) ?_
    exact zret_z F hr hlocks hK hP hD hS (by decide) rfl dX2_stop_31
  · exact absurd c16 h

set_option maxHeartbeats 4000000 in
set_option maxRecDepth 100000 in
theorem kX2_stop1 (l : Launch) (D : va_G) (ad : Nat → Nat) (cy : Nat → ClassId) (sz : Nat) (n : Nat) (V : Nat → UInt64) (Z : Nat → Int32) (R : Nat → Int32) (K : Nat → Int32) (B : Nat → Int32) (M : Nat → Int32) (bc : Nat) (G : Int32) (L : Int32) (S : Int64) (q : Nat → Int32) (w : Int32) (U : Nat → Int32) (wk : Int64) (jo : UInt64) (k : Nat) (h : Z k = 0) (hk : k < n) (hn : n ≤ 40) : mI l yX2_stop wsX2_stop ({ frames := 1, cells := 0, slots := 0, locals := 30 }) [.ref (ad 0), .int (nI k)] D (cT cy) (cW ad cy n V Z R K B M bc G L S q w U wk jo) sz 1 (cW ad cy n V (upd Z k 1) R K B M bc G L S q w U wk jo) 0 0 := by
  refine zin (fun A => zQi D (cT cy) (cW ad cy n V (upd Z k 1) R K B M bc G L S q w U wk jo) 1 A) (cc := cX2_stop) (maxL := 2) (ret := (some .boolean)) (own := RX2) (by decide) rfl rfl (Nat.le_of_ble_eq_true rfl) ?_
  intro p e s m below meth c A F hr hlocks hmn hA hK H locs hP hD hS ls hl
  obtain ⟨hx, hb, hml, hown, hts⟩ := id F
  have hl : lv_has ls 2 [(0, .ref (ad 0)), (1, .int (nI k))] := hl
  have hinX2 : ∀ w ∈ wsX20, w ∈ wsX2_stop := by decide +kernel
  have hf_26 := hts (.fieldLink RX2 26 "RegionShares" "stopped" "[Z") (by decide +kernel)
  refine lv_aload_n hx hb dX2_stop_0 rfl (lv_at hl 0 rfl) ?_
  refine lv_iload_n hx hb dX2_stop_1 rfl (lv_at hl 1 rfl) ?_
  refine zcV_v (As := [.int (nI k)]) (rest := []) F (kX2_requireShare l D ad cy _ n V Z R K B M bc G L S q w U wk jo k hk hn) (cwV 1 hts gX2_stop_X2_requireShare rfl rfl rfl (by decide +kernel) ⟨Nat.le_of_ble_eq_true rfl, Nat.le_of_ble_eq_true rfl⟩) (va_recv hK hP (ci := 2) (q0 := 0) rfl rfl) hK hP hD hS hA rfl hl.1 rfl (Nat.le_of_ble_eq_true rfl) dX2_stop_2 ⟨Nat.le_of_ble_eq_true rfl, Nat.le_of_ble_eq_true rfl⟩ (fun H locs hP hD hS => ?_)
  refine lv_aload_n hx hb dX2_stop_5 rfl (lv_at hl 0 rfl) ?_
  refine va_get (D := D) (ci := 2) (v := .ref (ad 2)) (C := RX2) (T := TX2) (N := 13) hx hb hts hinX2 hown hK hP 0 rfl rfl 2 (by decide) hf_26 (fun _ h9 => h9) rfl dX2_stop_6 ?_
  refine lv_iload_n hx hb dX2_stop_9 rfl (lv_at hl 1 rfl) ?_
  refine lv_aload_n hx hb dX2_stop_10 rfl (lv_at hl 0 rfl) ?_
  refine va_get (D := D) (ci := 2) (v := .ref (ad 2)) (C := RX2) (T := TX2) (N := 13) hx hb hts hinX2 hown hK hP 0 rfl rfl 2 (by decide) hf_26 (fun _ h9 => h9) rfl dX2_stop_11 ?_
  refine lv_iload_n hx hb dX2_stop_14 rfl (lv_at hl 1 rfl) ?_
  refine ax_zld hx hb hK hP 2 1 rfl rfl (by omega) (by omega) dX2_stop_15 ?_
  refine lv_if_ne (tgt := 23) hx hb dX2_stop_16 (by decide) (fun c16 => ?_) (fun c16 => ?_)
  · exact absurd h c16
  · refine lv_iconst (v := 1) hx hb dX2_stop_19 (by decide) ?_
    refine lv_goto (tgt := 24) hx hb dX2_stop_20 (by decide) ?_
    refine ax_zst hx hb hK hP hD hS 2 1 rfl rfl (by decide) (by omega) (by omega) dX2_stop_24 (fun H locs hP hD hS => ?_)
    have hP : va_P D vwCl (cW ad cy n V (upd Z k 1) R K B M bc G L S q w U wk jo) H := hP
    have hD : va_D A (cW ad cy n V (upd Z k 1) R K B M bc G L S q w U wk jo) := hD
    refine lv_aload_n hx hb dX2_stop_25 rfl (lv_at hl 0 rfl) ?_
    refine va_get (D := D) (ci := 2) (v := .ref (ad 2)) (C := RX2) (T := TX2) (N := 13) hx hb hts hinX2 hown hK hP 0 rfl rfl 2 (by decide) hf_26 (fun _ h9 => h9) rfl dX2_stop_26 ?_
    refine lv_iload_n hx hb dX2_stop_29 rfl (lv_at hl 1 rfl) ?_
    refine ax_zld hx hb hK hP 2 1 rfl rfl (by omega) (by omega) dX2_stop_30 ?_
    refine z_topi (y := 1) (upd_at _ _ _) ?_
    exact zret_z F hr hlocks hK hP hD hS (by decide) rfl dX2_stop_31

set_option maxHeartbeats 4000000 in
set_option maxRecDepth 100000 in
theorem kX2_value0 (l : Launch) (D : va_G) (ad : Nat → Nat) (cy : Nat → ClassId) (sz : Nat) (n : Nat) (V : Nat → UInt64) (Z : Nat → Int32) (R : Nat → Int32) (K : Nat → Int32) (B : Nat → Int32) (M : Nat → Int32) (bc : Nat) (G : Int32) (L : Int32) (S : Int64) (q : Nat → Int32) (w : Int32) (U : Nat → Int32) (wk : Int64) (jo : UInt64) (k : Nat) (x : Int32) (E : Nat → Int) (hV : ∀ k, k < n → V k = Dz (8 * E k) ∧ (E k).natAbs ≤ 8000) (h : E k = x.toInt) (hx1 : -8000 ≤ x.toInt) (hx2 : x.toInt ≤ 8000) (hk : k < n) (hn : n ≤ 40) : mI l yX2_value wsX2_value ({ frames := 1, cells := 0, slots := 0, locals := 40 }) [.ref (ad 0), .int (nI k), .double (Dz (8 * x.toInt))] D (cT cy) (cW ad cy n V Z R K B M bc G L S q w U wk jo) sz 0 (cW ad cy n (vf_upd V k (Dz (8 * x.toInt))) Z R K B M bc G L S q w U wk jo) 0 0 := by
  refine zin (fun A => zQi D (cT cy) (cW ad cy n (vf_upd V k (Dz (8 * x.toInt))) Z R K B M bc G L S q w U wk jo) 0 A) (cc := cX2_value) (maxL := 9) (ret := (some .boolean)) (own := RX2) (by decide) rfl rfl (Nat.le_of_ble_eq_true rfl) ?_
  intro p e s m below meth c A F hr hlocks hmn hA hK H locs hP hD hS ls hl
  obtain ⟨hx, hb, hml, hown, hts⟩ := id F
  have hl : lv_has ls 9 [(0, .ref (ad 0)), (1, .int (nI k)), (2, .double (Dz (8 * x.toInt)))] := hl
  have hinX2 : ∀ w ∈ wsX20, w ∈ wsX2_value := by decide +kernel
  have hf_22 := hts (.fieldLink RX2 22 "RegionShares" "values" "[D") (by decide +kernel)
  refine lv_aload_n hx hb dX2_value_0 rfl (lv_at hl 0 rfl) ?_
  refine lv_iload_n hx hb dX2_value_1 rfl (lv_at hl 1 rfl) ?_
  refine zcV_v (As := [.int (nI k)]) (rest := []) F (kX2_requireShare l D ad cy _ n V Z R K B M bc G L S q w U wk jo k hk hn) (cwV 1 hts gX2_value_X2_requireShare rfl rfl rfl (by decide +kernel) ⟨Nat.le_of_ble_eq_true rfl, Nat.le_of_ble_eq_true rfl⟩) (va_recv hK hP (ci := 2) (q0 := 0) rfl rfl) hK hP hD hS hA rfl hl.1 rfl (Nat.le_of_ble_eq_true rfl) dX2_value_2 ⟨Nat.le_of_ble_eq_true rfl, Nat.le_of_ble_eq_true rfl⟩ (fun H locs hP hD hS => ?_)
  have r1 := x.toInt_lt
  have r2 := x.le_toInt
  refine lv_dload_n hx hb dX2_value_5 rfl (lv_at hl 2 rfl) ?_
  refine lv_ldc2d hx hb hown (hts (.constantDouble RX2 75 (13875379345695965184)) (by decide +kernel)) dX2_value_6 ?_
  refine z_topd (y := Dz (-64000)) dz_m1000 ?_
  refine lv_dcmp hx hb dX2_value_9 ?_
  refine z_topi (y := cv (8 * x.toInt) (-64000)) (dz_cv (by omega) (by decide) _) ?_
  refine lv_if_lt (tgt := 25) hx hb dX2_value_10 (by decide) (fun c10 => ?_) (fun c10 => ?_)
  · exact absurd (cv_lt.mp c10) (by omega)
  · refine lv_dload_n hx hb dX2_value_13 rfl (lv_at hl 2 rfl) ?_
    refine lv_ldc2d hx hb hown (hts (.constantDouble RX2 77 (4652007308841189376)) (by decide +kernel)) dX2_value_14 ?_
    refine z_topd (y := Dz 64000) dz_1000 ?_
    refine lv_dcmp hx hb dX2_value_17 ?_
    refine z_topi (y := cv (8 * x.toInt) 64000) (dz_cv (by omega) (by decide) _) ?_
    refine lv_if_gt (tgt := 25) hx hb dX2_value_18 (by decide) (fun c18 => ?_) (fun c18 => ?_)
    · exact absurd (cv_gt.mp c18) (by omega)
    · refine lv_iconst (v := 1) hx hb dX2_value_21 (by decide) ?_
      refine lv_goto (tgt := 26) hx hb dX2_value_22 (by decide) ?_
      refine lv_istore (lv' := [(4, .int 1), (0, .ref (ad 0)), (1, .int (nI k)), (2, .double (Dz (8 * x.toInt)))]) hx hb dX2_value_26 hl (by decide) rfl (fun ls hl => ?_)
      refine lv_iload hx hb dX2_value_28 (lv_at hl 0 rfl) ?_
      refine lv_if_ne (tgt := 43) hx hb dX2_value_30 (by decide) (fun c30 => ?_) (fun c30 => ?_)
      · refine lv_dload_n hx hb dX2_value_43 rfl (lv_at hl 3 rfl) ?_
        refine lv_ldc2d hx hb hown (hts (.constantDouble RX2 86 (4620693217682128896)) (by decide +kernel)) dX2_value_44 ?_
        refine z_topd (y := Dz 512) dz_8 ?_
        refine lv_dmul hx hb dX2_value_47 (by rw [dz_v8]; exact dz_n64 (by omega)) ?_
        refine z_topd (y := Dz (64 * x.toInt)) (dz_v8 x) ?_
        refine lv_d2i hx hb dX2_value_48 ?_
        refine z_topi (y := x) (dz_d2i x) ?_
        refine lv_istore (lv' := [(5, .int x), (4, .int 1), (0, .ref (ad 0)), (1, .int (nI k)), (2, .double (Dz (8 * x.toInt)))]) hx hb dX2_value_49 hl (by decide) rfl (fun ls hl => ?_)
        refine lv_iload hx hb dX2_value_51 (lv_at hl 0 rfl) ?_
        refine lv_i2d hx hb dX2_value_53 ?_
        refine z_topd (y := Dz (64 * x.toInt)) (dz_i2d x) ?_
        refine lv_ldc2d hx hb hown (hts (.constantDouble RX2 86 (4620693217682128896)) (by decide +kernel)) dX2_value_54 ?_
        refine z_topd (y := Dz 512) dz_8 ?_
        refine lv_ddiv hx hb dX2_value_57 (by rw [dz_d8]; exact dz_n64 (by omega)) ?_
        refine z_topd (y := Dz (8 * x.toInt)) (dz_d8 x) ?_
        refine lv_dstore (lv' := [(6, .double (Dz (8 * x.toInt))), (5, .int x), (4, .int 1), (0, .ref (ad 0)), (1, .int (nI k)), (2, .double (Dz (8 * x.toInt)))]) hx hb dX2_value_58 hl (by decide) rfl (fun ls hl => ?_)
        refine lv_aload_n hx hb dX2_value_60 rfl (lv_at hl 3 rfl) ?_
        refine va_get (D := D) (ci := 2) (v := .ref (ad 1)) (C := RX2) (T := TX2) (N := 13) hx hb hts hinX2 hown hK hP 0 rfl rfl 1 (by decide) hf_22 (fun _ h9 => h9) rfl dX2_value_61 ?_
        refine lv_iload_n hx hb dX2_value_64 rfl (lv_at hl 4 rfl) ?_
        refine ax_dld hx hb hK hP 1 0 rfl rfl (by omega) (by omega) dX2_value_65 ?_
        refine z_topd (y := Dz (8 * E k)) (hV k hk).1 ?_
        refine lv_dload hx hb dX2_value_66 (lv_at hl 0 rfl) ?_
        have he := (hV k hk).2
        refine lv_dcmp hx hb dX2_value_68 ?_
        refine z_topi (y := cv (8 * E k) (8 * x.toInt)) (dz_cv (by omega) (by omega) _) ?_
        refine lv_if_eq (tgt := 76) hx hb dX2_value_69 (by decide) (fun c69 => ?_) (fun c69 => ?_)
        · refine lv_iconst (v := 0) hx hb dX2_value_76 (by decide) ?_
          refine lv_istore (lv' := [(8, .int 0), (6, .double (Dz (8 * x.toInt))), (5, .int x), (4, .int 1), (0, .ref (ad 0)), (1, .int (nI k)), (2, .double (Dz (8 * x.toInt)))]) hx hb dX2_value_77 hl (by decide) rfl (fun ls hl => ?_)
          refine lv_aload_n hx hb dX2_value_79 rfl (lv_at hl 4 rfl) ?_
          refine va_get (D := D) (ci := 2) (v := .ref (ad 1)) (C := RX2) (T := TX2) (N := 13) hx hb hts hinX2 hown hK hP 0 rfl rfl 1 (by decide) hf_22 (fun _ h9 => h9) rfl dX2_value_80 ?_
          refine lv_iload_n hx hb dX2_value_83 rfl (lv_at hl 5 rfl) ?_
          refine lv_dload hx hb dX2_value_84 (lv_at hl 1 rfl) ?_
          refine ax_dst hx hb hK hP hD hS 1 0 rfl rfl (by omega) (by omega) dX2_value_86 (fun H locs hP hD hS => ?_)
          have hP : va_P D vwCl (cW ad cy n (vf_upd V k (Dz (8 * x.toInt))) Z R K B M bc G L S q w U wk jo) H := hP
          have hD : va_D A (cW ad cy n (vf_upd V k (Dz (8 * x.toInt))) Z R K B M bc G L S q w U wk jo) := hD
          refine lv_iload hx hb dX2_value_87 (lv_at hl 0 rfl) ?_
          exact zret_z F hr hlocks hK hP hD hS (by decide) rfl dX2_value_89
        · exact absurd (cv_eq.mpr (by omega)) c69
      · exact absurd c30 (by decide)

set_option maxHeartbeats 4000000 in
set_option maxRecDepth 100000 in
theorem kX2_value1 (l : Launch) (D : va_G) (ad : Nat → Nat) (cy : Nat → ClassId) (sz : Nat) (n : Nat) (V : Nat → UInt64) (Z : Nat → Int32) (R : Nat → Int32) (K : Nat → Int32) (B : Nat → Int32) (M : Nat → Int32) (bc : Nat) (G : Int32) (L : Int32) (S : Int64) (q : Nat → Int32) (w : Int32) (U : Nat → Int32) (wk : Int64) (jo : UInt64) (k : Nat) (x : Int32) (E : Nat → Int) (hV : ∀ k, k < n → V k = Dz (8 * E k) ∧ (E k).natAbs ≤ 8000) (h : ¬ E k = x.toInt) (hx1 : -8000 ≤ x.toInt) (hx2 : x.toInt ≤ 8000) (hk : k < n) (hn : n ≤ 40) : mI l yX2_value wsX2_value ({ frames := 1, cells := 0, slots := 0, locals := 40 }) [.ref (ad 0), .int (nI k), .double (Dz (8 * x.toInt))] D (cT cy) (cW ad cy n V Z R K B M bc G L S q w U wk jo) sz 1 (cW ad cy n (vf_upd V k (Dz (8 * x.toInt))) Z R K B M bc G L S q w U wk jo) 0 0 := by
  refine zin (fun A => zQi D (cT cy) (cW ad cy n (vf_upd V k (Dz (8 * x.toInt))) Z R K B M bc G L S q w U wk jo) 1 A) (cc := cX2_value) (maxL := 9) (ret := (some .boolean)) (own := RX2) (by decide) rfl rfl (Nat.le_of_ble_eq_true rfl) ?_
  intro p e s m below meth c A F hr hlocks hmn hA hK H locs hP hD hS ls hl
  obtain ⟨hx, hb, hml, hown, hts⟩ := id F
  have hl : lv_has ls 9 [(0, .ref (ad 0)), (1, .int (nI k)), (2, .double (Dz (8 * x.toInt)))] := hl
  have hinX2 : ∀ w ∈ wsX20, w ∈ wsX2_value := by decide +kernel
  have hf_22 := hts (.fieldLink RX2 22 "RegionShares" "values" "[D") (by decide +kernel)
  refine lv_aload_n hx hb dX2_value_0 rfl (lv_at hl 0 rfl) ?_
  refine lv_iload_n hx hb dX2_value_1 rfl (lv_at hl 1 rfl) ?_
  refine zcV_v (As := [.int (nI k)]) (rest := []) F (kX2_requireShare l D ad cy _ n V Z R K B M bc G L S q w U wk jo k hk hn) (cwV 1 hts gX2_value_X2_requireShare rfl rfl rfl (by decide +kernel) ⟨Nat.le_of_ble_eq_true rfl, Nat.le_of_ble_eq_true rfl⟩) (va_recv hK hP (ci := 2) (q0 := 0) rfl rfl) hK hP hD hS hA rfl hl.1 rfl (Nat.le_of_ble_eq_true rfl) dX2_value_2 ⟨Nat.le_of_ble_eq_true rfl, Nat.le_of_ble_eq_true rfl⟩ (fun H locs hP hD hS => ?_)
  have r1 := x.toInt_lt
  have r2 := x.le_toInt
  refine lv_dload_n hx hb dX2_value_5 rfl (lv_at hl 2 rfl) ?_
  refine lv_ldc2d hx hb hown (hts (.constantDouble RX2 75 (13875379345695965184)) (by decide +kernel)) dX2_value_6 ?_
  refine z_topd (y := Dz (-64000)) dz_m1000 ?_
  refine lv_dcmp hx hb dX2_value_9 ?_
  refine z_topi (y := cv (8 * x.toInt) (-64000)) (dz_cv (by omega) (by decide) _) ?_
  refine lv_if_lt (tgt := 25) hx hb dX2_value_10 (by decide) (fun c10 => ?_) (fun c10 => ?_)
  · exact absurd (cv_lt.mp c10) (by omega)
  · refine lv_dload_n hx hb dX2_value_13 rfl (lv_at hl 2 rfl) ?_
    refine lv_ldc2d hx hb hown (hts (.constantDouble RX2 77 (4652007308841189376)) (by decide +kernel)) dX2_value_14 ?_
    refine z_topd (y := Dz 64000) dz_1000 ?_
    refine lv_dcmp hx hb dX2_value_17 ?_
    refine z_topi (y := cv (8 * x.toInt) 64000) (dz_cv (by omega) (by decide) _) ?_
    refine lv_if_gt (tgt := 25) hx hb dX2_value_18 (by decide) (fun c18 => ?_) (fun c18 => ?_)
    · exact absurd (cv_gt.mp c18) (by omega)
    · refine lv_iconst (v := 1) hx hb dX2_value_21 (by decide) ?_
      refine lv_goto (tgt := 26) hx hb dX2_value_22 (by decide) ?_
      refine lv_istore (lv' := [(4, .int 1), (0, .ref (ad 0)), (1, .int (nI k)), (2, .double (Dz (8 * x.toInt)))]) hx hb dX2_value_26 hl (by decide) rfl (fun ls hl => ?_)
      refine lv_iload hx hb dX2_value_28 (lv_at hl 0 rfl) ?_
      refine lv_if_ne (tgt := 43) hx hb dX2_value_30 (by decide) (fun c30 => ?_) (fun c30 => ?_)
      · refine lv_dload_n hx hb dX2_value_43 rfl (lv_at hl 3 rfl) ?_
        refine lv_ldc2d hx hb hown (hts (.constantDouble RX2 86 (4620693217682128896)) (by decide +kernel)) dX2_value_44 ?_
        refine z_topd (y := Dz 512) dz_8 ?_
        refine lv_dmul hx hb dX2_value_47 (by rw [dz_v8]; exact dz_n64 (by omega)) ?_
        refine z_topd (y := Dz (64 * x.toInt)) (dz_v8 x) ?_
        refine lv_d2i hx hb dX2_value_48 ?_
        refine z_topi (y := x) (dz_d2i x) ?_
        refine lv_istore (lv' := [(5, .int x), (4, .int 1), (0, .ref (ad 0)), (1, .int (nI k)), (2, .double (Dz (8 * x.toInt)))]) hx hb dX2_value_49 hl (by decide) rfl (fun ls hl => ?_)
        refine lv_iload hx hb dX2_value_51 (lv_at hl 0 rfl) ?_
        refine lv_i2d hx hb dX2_value_53 ?_
        refine z_topd (y := Dz (64 * x.toInt)) (dz_i2d x) ?_
        refine lv_ldc2d hx hb hown (hts (.constantDouble RX2 86 (4620693217682128896)) (by decide +kernel)) dX2_value_54 ?_
        refine z_topd (y := Dz 512) dz_8 ?_
        refine lv_ddiv hx hb dX2_value_57 (by rw [dz_d8]; exact dz_n64 (by omega)) ?_
        refine z_topd (y := Dz (8 * x.toInt)) (dz_d8 x) ?_
        refine lv_dstore (lv' := [(6, .double (Dz (8 * x.toInt))), (5, .int x), (4, .int 1), (0, .ref (ad 0)), (1, .int (nI k)), (2, .double (Dz (8 * x.toInt)))]) hx hb dX2_value_58 hl (by decide) rfl (fun ls hl => ?_)
        refine lv_aload_n hx hb dX2_value_60 rfl (lv_at hl 3 rfl) ?_
        refine va_get (D := D) (ci := 2) (v := .ref (ad 1)) (C := RX2) (T := TX2) (N := 13) hx hb hts hinX2 hown hK hP 0 rfl rfl 1 (by decide) hf_22 (fun _ h9 => h9) rfl dX2_value_61 ?_
        refine lv_iload_n hx hb dX2_value_64 rfl (lv_at hl 4 rfl) ?_
        refine ax_dld hx hb hK hP 1 0 rfl rfl (by omega) (by omega) dX2_value_65 ?_
        refine z_topd (y := Dz (8 * E k)) (hV k hk).1 ?_
        refine lv_dload hx hb dX2_value_66 (lv_at hl 0 rfl) ?_
        have he := (hV k hk).2
        refine lv_dcmp hx hb dX2_value_68 ?_
        refine z_topi (y := cv (8 * E k) (8 * x.toInt)) (dz_cv (by omega) (by omega) _) ?_
        refine lv_if_eq (tgt := 76) hx hb dX2_value_69 (by decide) (fun c69 => ?_) (fun c69 => ?_)
        · exact absurd (cv_eq.mp c69) (by omega)
        · refine lv_iconst (v := 1) hx hb dX2_value_72 (by decide) ?_
          refine lv_goto (tgt := 77) hx hb dX2_value_73 (by decide) ?_
          refine lv_istore (lv' := [(8, .int 1), (6, .double (Dz (8 * x.toInt))), (5, .int x), (4, .int 1), (0, .ref (ad 0)), (1, .int (nI k)), (2, .double (Dz (8 * x.toInt)))]) hx hb dX2_value_77 hl (by decide) rfl (fun ls hl => ?_)
          refine lv_aload_n hx hb dX2_value_79 rfl (lv_at hl 4 rfl) ?_
          refine va_get (D := D) (ci := 2) (v := .ref (ad 1)) (C := RX2) (T := TX2) (N := 13) hx hb hts hinX2 hown hK hP 0 rfl rfl 1 (by decide) hf_22 (fun _ h9 => h9) rfl dX2_value_80 ?_
          refine lv_iload_n hx hb dX2_value_83 rfl (lv_at hl 5 rfl) ?_
          refine lv_dload hx hb dX2_value_84 (lv_at hl 1 rfl) ?_
          refine ax_dst hx hb hK hP hD hS 1 0 rfl rfl (by omega) (by omega) dX2_value_86 (fun H locs hP hD hS => ?_)
          have hP : va_P D vwCl (cW ad cy n (vf_upd V k (Dz (8 * x.toInt))) Z R K B M bc G L S q w U wk jo) H := hP
          have hD : va_D A (cW ad cy n (vf_upd V k (Dz (8 * x.toInt))) Z R K B M bc G L S q w U wk jo) := hD
          refine lv_iload hx hb dX2_value_87 (lv_at hl 0 rfl) ?_
          exact zret_z F hr hlocks hK hP hD hS (by decide) rfl dX2_value_89
      · exact absurd c30 (by decide)
