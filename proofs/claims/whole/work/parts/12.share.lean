theorem pRes_bd {E : Nat → Int} {k : Nat} (h : (E k).natAbs ≤ 8000) (hk : k ≤ 40) : (pRes E k).natAbs ≤ 65000000 := by
  have h1 := dz_e2 h
  unfold pRes
  omega
theorem pSm_bd {E : Nat → Int} {n : Nat} (hn : n ≤ 40) (h : ∀ k, k < n → (E k).natAbs ≤ 8000) (B : Nat → Int32) (b : Int32) : ∀ i, i ≤ n → (pSm E B b i).natAbs ≤ i * 65000000 := by
  intro i
  induction i with
  | zero => intro _; exact Nat.zero_le _
  | succ i ih =>
    intro hi
    have h1 := ih (by omega)
    have h2 := pRes_bd (h i (by omega)) (by omega)
    have key : ∀ (X Y : Int) (j : Nat), X.natAbs ≤ j * 65000000 → Y.natAbs ≤ 65000000 → X.natAbs ≤ (j + 1) * 65000000 ∧ (X + Y).natAbs ≤ (j + 1) * 65000000 := by
      intro X Y j q1 q2
      rw [Nat.succ_mul]
      generalize j * 65000000 = J at q1 ⊢
      omega
    have h3 := key _ _ i h1 h2
    by_cases hc : b ≤ B i
    · rw [show pSm E B b (i + 1) = pSm E B b i from if_pos hc]; exact h3.1
    · rw [show pSm E B b (i + 1) = pSm E B b i + pRes E i from if_neg hc]; exact h3.2
theorem pAtt_0 {kk : Int32} {f : Nat} {S : Int64} {L u : Int32} {wk : Int64} (h0 : pBC L = 0) : pAtt kk (f + 1) S L u wk = (false, S, L, u, wk) := by
  rw [pAtt, if_pos h0]
theorem pAtt_1 {kk : Int32} {f : Nat} {S : Int64} {L u : Int32} {wk : Int64} (h0 : ¬ pBC L = 0) (h1 : pLw L (pIx (pNx S) (pBC L)) = -1) : pAtt kk (f + 1) S L u wk = (false, pNx S, L, u, wk) := by
  rw [pAtt, if_neg h0, if_pos h1]
theorem pAtt_2 {kk : Int32} {f : Nat} {S : Int64} {L u : Int32} {wk : Int64} (h0 : ¬ pBC L = 0) (h1 : ¬ pLw L (pIx (pNx S) (pBC L)) = -1) (h2 : kk &&& pBit (pLw L (pIx (pNx S) (pBC L))) = 0) : pAtt kk (f + 1) S L u wk = (true, pNx S, L, u + 1, wk + 1) := by
  rw [pAtt, if_neg h0, if_neg h1, if_pos h2]
theorem pAtt_3 {kk : Int32} {f : Nat} {S : Int64} {L u : Int32} {wk : Int64} (h0 : ¬ pBC L = 0) (h1 : ¬ pLw L (pIx (pNx S) (pBC L)) = -1) (h2 : ¬ kk &&& pBit (pLw L (pIx (pNx S) (pBC L))) = 0) : pAtt kk (f + 1) S L u wk = pAtt kk f (pNx S) (L &&& (pBit (pLw L (pIx (pNx S) (pBC L))) ^^^ (-1))) (u + 1) (wk + 1) := by
  rw [pAtt, if_neg h0, if_neg h1, if_neg h2]

set_option maxHeartbeats 4000000 in
set_option maxRecDepth 100000 in
theorem kX2_resultOf (l : Launch) (D : va_G) (ad : Nat → Nat) (cy : Nat → ClassId) (sz : Nat) (n : Nat) (V : Nat → UInt64) (Z : Nat → Int32) (R : Nat → Int32) (K : Nat → Int32) (B : Nat → Int32) (M : Nat → Int32) (bc : Nat) (G : Int32) (L : Int32) (S : Int64) (q : Nat → Int32) (w : Int32) (U : Nat → Int32) (wk : Int64) (jo : UInt64) (k : Nat) (E : Nat → Int) (hV : ∀ k, k < n → V k = Dz (8 * E k) ∧ (E k).natAbs ≤ 8000) (hk : k < n) (hn : n ≤ 40) : mD l yX2_resultOf wsX2_resultOf ({ frames := 0, cells := 0, slots := 0, locals := 0 }) [.ref (ad 0), .int (nI k)] D (cT cy) (cW ad cy n V Z R K B M bc G L S q w U wk jo) sz (Dz (pRes E k)) (cW ad cy n V Z R K B M bc G L S q w U wk jo) 0 0 := by
  refine zin (fun A => zQd D (cT cy) (cW ad cy n V Z R K B M bc G L S q w U wk jo) (Dz (pRes E k)) A) (cc := cX2_resultOf) (maxL := 4) (ret := (some .double)) (own := RX2) (by decide) rfl rfl (Nat.le_of_ble_eq_true rfl) ?_
  intro p e s m below meth c A F hr hlocks hmn hA hK H locs hP hD hS ls hl
  obtain ⟨hx, hb, hml, hown, hts⟩ := id F
  have hl : lv_has ls 4 [(0, .ref (ad 0)), (1, .int (nI k))] := hl
  have hinX2 : ∀ w ∈ wsX20, w ∈ wsX2_resultOf := by decide +kernel
  have hf_22 := hts (.fieldLink RX2 22 "RegionShares" "values" "[D") (by decide +kernel)
  have he := (hV k hk).2
  have he2 := dz_e2 he
  refine lv_aload_n hx hb dX2_resultOf_0 rfl (lv_at hl 0 rfl) ?_
  refine va_get (D := D) (ci := 2) (v := .ref (ad 1)) (C := RX2) (T := TX2) (N := 13) hx hb hts hinX2 hown hK hP 0 rfl rfl 1 (by decide) hf_22 (fun _ h9 => h9) rfl dX2_resultOf_1 ?_
  refine lv_iload_n hx hb dX2_resultOf_4 rfl (lv_at hl 1 rfl) ?_
  refine ax_dld hx hb hK hP 1 0 rfl rfl (by omega) (by omega) dX2_resultOf_5 ?_
  refine z_topd (y := Dz (8 * E k)) (hV k hk).1 ?_
  refine lv_dstore_n (lv' := [(2, .double (Dz (8 * E k))), (0, .ref (ad 0)), (1, .int (nI k))]) hx hb dX2_resultOf_6 rfl hl (by decide) rfl (fun ls hl => ?_)
  refine lv_dload_n hx hb dX2_resultOf_7 rfl (lv_at hl 0 rfl) ?_
  refine lv_dload_n hx hb dX2_resultOf_8 rfl (lv_at hl 0 rfl) ?_
  refine lv_dmul hx hb dX2_resultOf_9 (by rw [dz_sq he]; exact dz_n64 (by omega)) ?_
  refine z_topd (y := Dz (E k * E k)) (dz_sq he) ?_
  refine lv_dload_n hx hb dX2_resultOf_10 rfl (lv_at hl 0 rfl) ?_
  refine lv_ldc2d hx hb hown (hts (.constantDouble RX2 162 (4602678819172646912)) (by decide +kernel)) dX2_resultOf_11 ?_
  refine z_topd (y := Dz 32) dz_05 ?_
  refine lv_dmul hx hb dX2_resultOf_14 (by rw [dz_half he]; exact dz_n64 (by omega)) ?_
  refine z_topd (y := Dz (4 * E k)) (dz_half he) ?_
  refine lv_dadd hx hb dX2_resultOf_15 (by rw [dz_add (by omega) (by omega)]; exact dz_n64 (by omega)) ?_
  refine z_topd (y := Dz (E k * E k + 4 * E k)) (dz_add (by omega) (by omega)) ?_
  refine lv_iload_n hx hb dX2_resultOf_16 rfl (lv_at hl 2 rfl) ?_
  refine lv_i2d hx hb dX2_resultOf_17 ?_
  refine z_topd (y := Dz (64 * (k : Int))) ((dz_i2d _).trans (by rw [nI_toInt (by omega)])) ?_
  refine lv_dadd hx hb dX2_resultOf_18 (by rw [dz_add (by omega) (by omega)]; exact dz_n64 (by omega)) ?_
  refine z_topd (y := Dz (pRes E k)) (dz_add (by omega) (by omega)) ?_
  exact zret_d F hr hlocks hK hP hD hS rfl dX2_resultOf_19

set_option maxHeartbeats 4000000 in
set_option maxRecDepth 100000 in
theorem lp_sum {p : Program} {l : Launch} {e : Env} {s : State} {m : MethodId} {args : Array Value} {below : List Frame} {meth : Method} {c : Code} {A : Nat → Prop} {D : va_G} {ad : Nat → Nat} {cy : Nat → ClassId} (F : CallFix p m c cX2_sumAheadOf 5 s args wsX2_sumAheadOf RX2) (hr : meth.sig.returnType = (some .double)) (hlocks : meth.locks = false) (hA : ∀ q, s.heap.size ≤ q → A q) (hK : va_K D vwCl (cT cy) s) (n : Nat) (V : Nat → UInt64) (Z : Nat → Int32) (R : Nat → Int32) (K : Nat → Int32) (B : Nat → Int32) (M : Nat → Int32) (bc : Nat) (G : Int32) (L : Int32) (S : Int64) (q : Nat → Int32) (w : Int32) (U : Nat → Int32) (wk : Int64) (jo : UInt64) (b : Int32) (E : Nat → Int) (hV : ∀ k, k < n → V k = Dz (8 * E k) ∧ (E k).natAbs ≤ 8000) (hn : n ≤ 40) : ∀ (k : Nat) (i : Nat), i + k = n → ∀ (H : Heap) (locs : List Loc), va_P D vwCl (cW ad cy n V Z R K B M bc G L S q w U wk jo) H → va_D A (cW ad cy n V Z R K B M bc G L S q w U wk jo) → va_S A s.heap H locs → ∀ ls : Array Slot, lv_has ls 5 [(2, .double (Dz (pSm E B b i))), (4, .int (nI i)), (0, .ref (ad 0)), (1, .int b)] → W p l e ({ frames := 1, cells := 0, slots := 0, locals := 23 }) s m args below meth c H locs 0 0 (MQ below (zQd D (cT cy) (cW ad cy n V Z R K B M bc G L S q w U wk jo) (Dz (pSm E B b n)) A) args s 0 0 A) (F0 m 5 ls []) := by
  obtain ⟨hx, hb, hml, hown, hts⟩ := id F
  have hinX2 : ∀ w ∈ wsX20, w ∈ wsX2_sumAheadOf := by decide +kernel
  have hf_18 := hts (.fieldLink RX2 18 "RegionShares" "shares" "I") (by decide +kernel)
  have hf_37 := hts (.fieldLink RX2 37 "RegionShares" "batchOf" "[I") (by decide +kernel)
  intro k
  induction k with
  | zero =>
    intro i hk 
    intro H locs hP hD hS ls hl
    refine lv_iload hx hb dX2_sumAheadOf_5 (lv_at hl 1 rfl) ?_
    refine lv_aload_n hx hb dX2_sumAheadOf_7 rfl (lv_at hl 2 rfl) ?_
    refine va_get (D := D) (ci := 2) (v := .int (nI n)) (C := RX2) (T := TX2) (N := 13) hx hb hts hinX2 hown hK hP 0 rfl rfl 0 (by decide) hf_18 (fun _ h9 => h9) rfl dX2_sumAheadOf_8 ?_
    refine zb_ge (a := i) (b := n) (tgt := 40) hx hb dX2_sumAheadOf_11 (by decide) (by omega) (by omega) (fun c11 => ?_) (fun c11 => ?_)
    · refine lv_dload_n hx hb dX2_sumAheadOf_40 rfl (lv_at hl 0 rfl) ?_
      obtain rfl : i = n := by omega
      exact zret_d F hr hlocks hK hP hD hS rfl dX2_sumAheadOf_41
    · exact absurd c11 (by omega)
  | succ k ih =>
    intro i hk  H locs hP hD hS ls hl
    refine lv_iload hx hb dX2_sumAheadOf_5 (lv_at hl 1 rfl) ?_
    refine lv_aload_n hx hb dX2_sumAheadOf_7 rfl (lv_at hl 2 rfl) ?_
    refine va_get (D := D) (ci := 2) (v := .int (nI n)) (C := RX2) (T := TX2) (N := 13) hx hb hts hinX2 hown hK hP 0 rfl rfl 0 (by decide) hf_18 (fun _ h9 => h9) rfl dX2_sumAheadOf_8 ?_
    refine zb_ge (a := i) (b := n) (tgt := 40) hx hb dX2_sumAheadOf_11 (by decide) (by omega) (by omega) (fun c11 => ?_) (fun c11 => ?_)
    · exact absurd c11 (by omega)
    · refine lv_aload_n hx hb dX2_sumAheadOf_14 rfl (lv_at hl 2 rfl) ?_
      refine va_get (D := D) (ci := 2) (v := .ref (ad 5)) (C := RX2) (T := TX2) (N := 13) hx hb hts hinX2 hown hK hP 0 rfl rfl 5 (by decide) hf_37 (fun _ h9 => h9) rfl dX2_sumAheadOf_15 ?_
      refine lv_iload hx hb dX2_sumAheadOf_18 (lv_at hl 1 rfl) ?_
      refine ax_ild hx hb hK hP 5 4 rfl rfl (by omega) (by omega) dX2_sumAheadOf_20 ?_
      refine lv_iload_n hx hb dX2_sumAheadOf_21 rfl (lv_at hl 3 rfl) ?_
      refine lv_icmp_ge (tgt := 34) hx hb dX2_sumAheadOf_22 (by decide) (fun c22 => ?_) (fun c22 => ?_)
      · refine lv_iinc (v := nI (i + 1)) (lv' := [(4, .int (nI (i + 1))), (2, .double (Dz (pSm E B b i))), (0, .ref (ad 0)), (1, .int b)]) hx hb dX2_sumAheadOf_34 hl (k := 1) rfl (by exact nI_1 _) (by decide) rfl (fun ls hl => ?_)
        refine lv_goto (tgt := 5) hx hb dX2_sumAheadOf_37 (by decide) ?_
        have ha : Dz (pSm E B b (i + 1)) = Dz (pSm E B b i) := by
          first | exact congrArg Dz (if_pos c22) | exact congrArg Dz (if_neg c22)
        exact ih (i + 1) (by omega) H locs hP hD hS ls (by rw [ha]; exact lv_sub hl [1, 0, 2, 3] rfl)
      · refine lv_dload_n hx hb dX2_sumAheadOf_25 rfl (lv_at hl 0 rfl) ?_
        refine lv_aload_n hx hb dX2_sumAheadOf_26 rfl (lv_at hl 2 rfl) ?_
        refine lv_iload hx hb dX2_sumAheadOf_27 (lv_at hl 1 rfl) ?_
        refine zcV_d (As := [.int (nI i)]) (rest := [.double (Dz (pSm E B b i))]) F (kX2_resultOf l D ad cy _ n V Z R K B M bc G L S q w U wk jo i E hV c11 hn) (cwV 1 hts gX2_sumAheadOf_X2_resultOf rfl rfl rfl (by decide +kernel) ⟨Nat.le_of_ble_eq_true rfl, Nat.le_of_ble_eq_true rfl⟩) (va_recv hK hP (ci := 2) (q0 := 0) rfl rfl) hK hP hD hS hA rfl hl.1 rfl (Nat.le_of_ble_eq_true rfl) dX2_sumAheadOf_29 ⟨Nat.le_of_ble_eq_true rfl, Nat.le_of_ble_eq_true rfl⟩ (fun H locs hP hD hS => ?_)
        have hb1 := pSm_bd hn (fun k h => (hV k h).2) B b i (by omega)
        have hb2 := pRes_bd (hV i c11).2 (show i ≤ 40 by omega)
        refine lv_dadd hx hb dX2_sumAheadOf_32 (by rw [dz_add (by omega) (by omega)]; exact dz_n64 (by omega)) ?_
        refine z_topd (y := Dz (pSm E B b i + pRes E i)) (dz_add (by omega) (by omega)) ?_
        refine lv_dstore_n (lv' := [(2, .double (Dz (pSm E B b i + pRes E i))), (4, .int (nI i)), (0, .ref (ad 0)), (1, .int b)]) hx hb dX2_sumAheadOf_33 rfl hl (by decide) rfl (fun ls hl => ?_)
        refine lv_iinc (v := nI (i + 1)) (lv' := [(4, .int (nI (i + 1))), (2, .double (Dz (pSm E B b i + pRes E i))), (0, .ref (ad 0)), (1, .int b)]) hx hb dX2_sumAheadOf_34 hl (k := 1) rfl (by exact nI_1 _) (by decide) rfl (fun ls hl => ?_)
        refine lv_goto (tgt := 5) hx hb dX2_sumAheadOf_37 (by decide) ?_
        have ha : Dz (pSm E B b (i + 1)) = Dz (pSm E B b i + pRes E i) := by
          first | exact congrArg Dz (if_pos c22) | exact congrArg Dz (if_neg c22)
        exact ih (i + 1) (by omega) H locs hP hD hS ls (by rw [ha]; exact lv_sub hl [1, 0, 2, 3] rfl)

set_option maxHeartbeats 4000000 in
set_option maxRecDepth 100000 in
theorem kX2_sumAheadOf (l : Launch) (D : va_G) (ad : Nat → Nat) (cy : Nat → ClassId) (sz : Nat) (n : Nat) (V : Nat → UInt64) (Z : Nat → Int32) (R : Nat → Int32) (K : Nat → Int32) (B : Nat → Int32) (M : Nat → Int32) (bc : Nat) (G : Int32) (L : Int32) (S : Int64) (q : Nat → Int32) (w : Int32) (U : Nat → Int32) (wk : Int64) (jo : UInt64) (b : Int32) (E : Nat → Int) (hV : ∀ k, k < n → V k = Dz (8 * E k) ∧ (E k).natAbs ≤ 8000) (hn : n ≤ 40) : mD l yX2_sumAheadOf wsX2_sumAheadOf ({ frames := 1, cells := 0, slots := 0, locals := 23 }) [.ref (ad 0), .int b] D (cT cy) (cW ad cy n V Z R K B M bc G L S q w U wk jo) sz (Dz (pSm E B b n)) (cW ad cy n V Z R K B M bc G L S q w U wk jo) 0 0 := by
  refine zin (fun A => zQd D (cT cy) (cW ad cy n V Z R K B M bc G L S q w U wk jo) (Dz (pSm E B b n)) A) (cc := cX2_sumAheadOf) (maxL := 5) (ret := (some .double)) (own := RX2) (by decide) rfl rfl (Nat.le_of_ble_eq_true rfl) ?_
  intro p e s m below meth c A F hr hlocks hmn hA hK H locs hP hD hS ls hl
  obtain ⟨hx, hb, hml, hown, hts⟩ := id F
  have hl : lv_has ls 5 [(0, .ref (ad 0)), (1, .int b)] := hl
  refine lv_dconst0 hx hb dX2_sumAheadOf_0 ?_
  refine z_topd (y := Dz (pSm E B b 0)) dz_0 ?_
  refine lv_dstore_n (lv' := [(2, .double (Dz (pSm E B b 0))), (0, .ref (ad 0)), (1, .int b)]) hx hb dX2_sumAheadOf_1 rfl hl (by decide) rfl (fun ls hl => ?_)
  refine lv_iconst (v := nI 0) hx hb dX2_sumAheadOf_2 (by decide) ?_
  refine lv_istore (lv' := [(4, .int (nI 0)), (2, .double (Dz (pSm E B b 0))), (0, .ref (ad 0)), (1, .int b)]) hx hb dX2_sumAheadOf_3 hl (by decide) rfl (fun ls hl => ?_)
  exact lp_sum F hr hlocks hA hK n V Z R K B M bc G L S q w U wk jo b E hV hn n 0 (by omega) H locs hP hD hS ls (lv_sub hl [1, 0, 2, 3] rfl)

set_option maxHeartbeats 4000000 in
set_option maxRecDepth 100000 in
theorem lp_doShare {p : Program} {l : Launch} {e : Env} {s : State} {m : MethodId} {args : Array Value} {below : List Frame} {meth : Method} {c : Code} {A : Nat → Prop} {D : va_G} {ad : Nat → Nat} {cy : Nat → ClassId} (F : CallFix p m c cX2_doShare 4 s args wsX2_doShare RX2) (hr : meth.sig.returnType = (some .boolean)) (hlocks : meth.locks = false) (hA : ∀ q, s.heap.size ≤ q → A q) (hK : va_K D vwCl (cT cy) s) (n : Nat) (V : Nat → UInt64) (Z : Nat → Int32) (R : Nat → Int32) (K : Nat → Int32) (B : Nat → Int32) (M : Nat → Int32) (bc : Nat) (G : Int32) (q : Nat → Int32) (w : Int32) (U : Nat → Int32) (jo : UInt64) (kk : Nat) (hkk : kk < n) (hn : n ≤ 40) : ∀ (k : Nat) (t : Nat) (S : Int64) (L : Int32) (u : Int32) (wk : Int64), t + k = 16 → ∀ (H : Heap) (locs : List Loc), va_P D vwCl (cW ad cy n V Z R K B M bc G L S q w (upd U kk u) wk jo) H → va_D A (cW ad cy n V Z R K B M bc G L S q w (upd U kk u) wk jo) → va_S A s.heap H locs → ∀ ls : Array Slot, lv_has ls 4 [(2, .int (nI t)), (0, .ref (ad 0)), (1, .int (nI kk))] → W p l e ({ frames := 3, cells := 0, slots := 0, locals := 61 }) s m args below meth c H locs 0 0 (MQ below (zQi D (cT cy) (cW ad cy n V Z R K B M bc G ((pAtt (K kk) k S L u wk).2.2.1) ((pAtt (K kk) k S L u wk).2.1) q w (upd U kk (pAtt (K kk) k S L u wk).2.2.2.1) ((pAtt (K kk) k S L u wk).2.2.2.2) jo) (if (pAtt (K kk) k S L u wk).1 = true then 1 else 0) A) args s 0 0 A) (F0 m 2 ls []) := by
  obtain ⟨hx, hb, hml, hown, hts⟩ := id F
  have hinX2 : ∀ w ∈ wsX20, w ∈ wsX2_doShare := by decide +kernel
  have hf_49 := hts (.fieldLink RX2 49 "RegionShares" "crew" "LRegionShares$Crew;") (by decide +kernel)
  have hf_60 := hts (.fieldLink RX2 60 "RegionShares" "begun" "[I") (by decide +kernel)
  have hf_63 := hts (.fieldLink RX2 63 "RegionShares" "workDone" "J") (by decide +kernel)
  intro k
  induction k with
  | zero =>
    intro t S L u wk hk 
    intro H locs hP hD hS ls hl
    refine lv_iload_n hx hb dX2_doShare_2 rfl (lv_at hl 0 rfl) ?_
    refine lv_bipush (v := nI 16) hx hb dX2_doShare_3 (by decide) ?_
    refine zb_ge (a := t) (b := 16) (tgt := 68) hx hb dX2_doShare_5 (by decide) (by omega) (by omega) (fun c5 => ?_) (fun c5 => ?_)
    · refine lv_iconst (v := 0) hx hb dX2_doShare_68 (by decide) ?_
      exact zret_z F hr hlocks hK hP hD hS (by decide) rfl dX2_doShare_69
    · exact absurd c5 (by omega)
  | succ k ih =>
    intro t S L u wk hk  H locs hP hD hS ls hl
    refine lv_iload_n hx hb dX2_doShare_2 rfl (lv_at hl 0 rfl) ?_
    refine lv_bipush (v := nI 16) hx hb dX2_doShare_3 (by decide) ?_
    refine zb_ge (a := t) (b := 16) (tgt := 68) hx hb dX2_doShare_5 (by decide) (by omega) (by omega) (fun c5 => ?_) (fun c5 => ?_)
    · exact absurd c5 (by omega)
    · refine lv_aload_n hx hb dX2_doShare_8 rfl (lv_at hl 1 rfl) ?_
      refine va_get (D := D) (ci := 2) (v := .ref (ad 7)) (C := RX2) (T := TX2) (N := 13) hx hb hts hinX2 hown hK hP 0 rfl rfl 8 (by decide) hf_49 (fun _ h9 => h9) rfl dX2_doShare_9 ?_
      by_cases h0 : pBC L = 0
      · refine zcV_i (As := []) (rest := []) F (kX0_draw0 l D ad cy _ n V Z R K B M bc G L S q w (upd U kk u) wk jo h0) (cwV 0 hts gX2_doShare_X0_draw rfl rfl rfl (by decide +kernel) ⟨Nat.le_of_ble_eq_true rfl, Nat.le_of_ble_eq_true rfl⟩) (va_recv hK hP (ci := 0) (q0 := 7) rfl rfl) hK hP hD hS hA rfl hl.1 rfl (Nat.le_of_ble_eq_true rfl) dX2_doShare_12 ⟨Nat.le_of_ble_eq_true rfl, Nat.le_of_ble_eq_true rfl⟩ (fun H locs hP hD hS => ?_)
        refine lv_istore_n (lv' := [(3, .int (-1)), (2, .int (nI t)), (0, .ref (ad 0)), (1, .int (nI kk))]) hx hb dX2_doShare_15 rfl hl (by decide) rfl (fun ls hl => ?_)
        refine lv_iload_n hx hb dX2_doShare_16 rfl (lv_at hl 0 rfl) ?_
        refine lv_iconst (v := (-1)) hx hb dX2_doShare_17 (by decide) ?_
        refine lv_icmp_ne (tgt := 23) hx hb dX2_doShare_18 (by decide) (fun c18 => ?_) (fun c18 => ?_)
        · exact absurd rfl c18
        · rw [pAtt_0 h0]
          refine lv_iconst (v := 0) hx hb dX2_doShare_21 (by decide) ?_
          exact zret_z F hr hlocks hK hP hD hS (by decide) rfl dX2_doShare_22
      · refine zcV_i (As := []) (rest := []) F (kX0_draw1 l D ad cy _ n V Z R K B M bc G L S q w (upd U kk u) wk jo h0) (cwV 0 hts gX2_doShare_X0_draw rfl rfl rfl (by decide +kernel) ⟨Nat.le_of_ble_eq_true rfl, Nat.le_of_ble_eq_true rfl⟩) (va_recv hK hP (ci := 0) (q0 := 7) rfl rfl) hK hP hD hS hA rfl hl.1 rfl (Nat.le_of_ble_eq_true rfl) dX2_doShare_12 ⟨Nat.le_of_ble_eq_true rfl, Nat.le_of_ble_eq_true rfl⟩ (fun H locs hP hD hS => ?_)
        refine lv_istore_n (lv' := [(3, .int (pLw L (pIx (pNx S) (pBC L)))), (2, .int (nI t)), (0, .ref (ad 0)), (1, .int (nI kk))]) hx hb dX2_doShare_15 rfl hl (by decide) rfl (fun ls hl => ?_)
        refine lv_iload_n hx hb dX2_doShare_16 rfl (lv_at hl 0 rfl) ?_
        refine lv_iconst (v := (-1)) hx hb dX2_doShare_17 (by decide) ?_
        refine lv_icmp_ne (tgt := 23) hx hb dX2_doShare_18 (by decide) (fun c18 => ?_) (fun c18 => ?_)
        · refine lv_aload_n hx hb dX2_doShare_23 rfl (lv_at hl 2 rfl) ?_
          refine va_get (D := D) (ci := 2) (v := .ref (ad 9)) (C := RX2) (T := TX2) (N := 13) hx hb hts hinX2 hown hK hP 0 rfl rfl 10 (by decide) hf_60 (fun _ h9 => h9) rfl dX2_doShare_24 ?_
          refine lv_iload_n hx hb dX2_doShare_27 rfl (lv_at hl 3 rfl) ?_
          refine lv_dup2_11 hx hb dX2_doShare_28 rfl rfl ?_
          refine ax_ild hx hb hK hP 9 6 rfl rfl (by omega) (by omega) dX2_doShare_29 ?_
          refine z_topi (y := u) (upd_at _ _ _) ?_
          refine lv_iconst (v := 1) hx hb dX2_doShare_30 (by decide) ?_
          refine lv_iadd hx hb dX2_doShare_31 ?_
          refine ax_ist hx hb hK hP hD hS 9 6 rfl rfl (by omega) (by omega) dX2_doShare_32 (fun H locs hP hD hS => ?_)
          have hP : va_P D vwCl (cW ad cy n V Z R K B M bc G L (pNx S) q w (upd (upd U kk u) kk (u + 1)) wk jo) H := hP
          have hD : va_D A (cW ad cy n V Z R K B M bc G L (pNx S) q w (upd (upd U kk u) kk (u + 1)) wk jo) := hD
          rw [upd_upd] at hP hD
          refine lv_aload_n hx hb dX2_doShare_33 rfl (lv_at hl 2 rfl) ?_
          refine lv_dup hx hb dX2_doShare_34 rfl ?_
          refine va_get (D := D) (ci := 2) (v := .long wk) (C := RX2) (T := TX2) (N := 13) hx hb hts hinX2 hown hK hP 0 rfl rfl 11 (by decide) hf_63 (fun _ h9 => h9) rfl dX2_doShare_35 ?_
          refine lv_lconst (v := 1) hx hb dX2_doShare_38 (by decide) ?_
          refine lv_ladd hx hb dX2_doShare_39 ?_
          refine va_put (D := D) (ci := 2) (v := .long (wk + 1)) (ty := .long) (C := RX2) (T := TX2) (N := 13) hx hb hts hinX2 tyX2 tyX2_ok nmX2 hown hK hP hD hS 0 rfl rfl 11 (by decide) hf_63 (fun _ h9 => h9) rfl (by decide +kernel) rfl rfl (Nat.le_of_ble_eq_true rfl) dX2_doShare_40 (fun H locs hP hD hS => ?_)
          have hP : va_P D vwCl (cW ad cy n V Z R K B M bc G L (pNx S) q w (upd U kk (u + 1)) (wk + 1) jo) H := hP
          have hD : va_D A (cW ad cy n V Z R K B M bc G L (pNx S) q w (upd U kk (u + 1)) (wk + 1) jo) := hD
          refine lv_aload_n hx hb dX2_doShare_43 rfl (lv_at hl 2 rfl) ?_
          refine lv_iload_n hx hb dX2_doShare_44 rfl (lv_at hl 0 rfl) ?_
          refine lv_iload_n hx hb dX2_doShare_45 rfl (lv_at hl 3 rfl) ?_
          by_cases h2 : K kk &&& pBit (pLw L (pIx (pNx S) (pBC L))) = 0
          · refine zcV_i (As := [.int (pLw L (pIx (pNx S) (pBC L))), .int (nI kk)]) (rest := []) F (kX2_breaksAt0 l D ad cy _ n V Z R K B M bc G L (pNx S) q w (upd U kk (u + 1)) (wk + 1) jo (pLw L (pIx (pNx S) (pBC L))) kk h2 hkk hn) (cwV 2 hts gX2_doShare_X2_breaksAt rfl rfl rfl (by decide +kernel) ⟨Nat.le_of_ble_eq_true rfl, Nat.le_of_ble_eq_true rfl⟩) (va_recv hK hP (ci := 2) (q0 := 0) rfl rfl) hK hP hD hS hA rfl hl.1 rfl (Nat.le_of_ble_eq_true rfl) dX2_doShare_46 ⟨Nat.le_of_ble_eq_true rfl, Nat.le_of_ble_eq_true rfl⟩ (fun H locs hP hD hS => ?_)
            refine lv_if_ne (tgt := 54) hx hb dX2_doShare_49 (by decide) (fun c49 => ?_) (fun c49 => ?_)
            · exact absurd rfl c49
            · rw [pAtt_2 h0 c18 h2]
              refine lv_iconst (v := 1) hx hb dX2_doShare_52 (by decide) ?_
              exact zret_z F hr hlocks hK hP hD hS (by decide) rfl dX2_doShare_53
          · refine zcV_i (As := [.int (pLw L (pIx (pNx S) (pBC L))), .int (nI kk)]) (rest := []) F (kX2_breaksAt1 l D ad cy _ n V Z R K B M bc G L (pNx S) q w (upd U kk (u + 1)) (wk + 1) jo (pLw L (pIx (pNx S) (pBC L))) kk h2 hkk hn) (cwV 2 hts gX2_doShare_X2_breaksAt rfl rfl rfl (by decide +kernel) ⟨Nat.le_of_ble_eq_true rfl, Nat.le_of_ble_eq_true rfl⟩) (va_recv hK hP (ci := 2) (q0 := 0) rfl rfl) hK hP hD hS hA rfl hl.1 rfl (Nat.le_of_ble_eq_true rfl) dX2_doShare_46 ⟨Nat.le_of_ble_eq_true rfl, Nat.le_of_ble_eq_true rfl⟩ (fun H locs hP hD hS => ?_)
            refine lv_if_ne (tgt := 54) hx hb dX2_doShare_49 (by decide) (fun c49 => ?_) (fun c49 => ?_)
            · rw [pAtt_3 h0 c18 h2]
              refine lv_aload_n hx hb dX2_doShare_54 rfl (lv_at hl 2 rfl) ?_
              refine va_get (D := D) (ci := 2) (v := .ref (ad 7)) (C := RX2) (T := TX2) (N := 13) hx hb hts hinX2 hown hK hP 0 rfl rfl 8 (by decide) hf_49 (fun _ h9 => h9) rfl dX2_doShare_55 ?_
              refine lv_iload_n hx hb dX2_doShare_58 rfl (lv_at hl 0 rfl) ?_
              refine zcV_v (As := [.int (pLw L (pIx (pNx S) (pBC L)))]) (rest := []) F (kX0_dismiss l D ad cy _ n V Z R K B M bc G L (pNx S) q w (upd U kk (u + 1)) (wk + 1) jo (pLw L (pIx (pNx S) (pBC L)))) (cwV 1 hts gX2_doShare_X0_dismiss rfl rfl rfl (by decide +kernel) ⟨Nat.le_of_ble_eq_true rfl, Nat.le_of_ble_eq_true rfl⟩) (va_recv hK hP (ci := 0) (q0 := 7) rfl rfl) hK hP hD hS hA rfl hl.1 rfl (Nat.le_of_ble_eq_true rfl) dX2_doShare_59 ⟨Nat.le_of_ble_eq_true rfl, Nat.le_of_ble_eq_true rfl⟩ (fun H locs hP hD hS => ?_)
              refine lv_iinc (v := nI (t + 1)) (lv' := [(2, .int (nI (t + 1))), (3, .int (pLw L (pIx (pNx S) (pBC L)))), (0, .ref (ad 0)), (1, .int (nI kk))]) hx hb dX2_doShare_62 hl (k := 1) rfl (by exact nI_1 _) (by decide) rfl (fun ls hl => ?_)
              refine lv_goto (tgt := 2) hx hb dX2_doShare_65 (by decide) ?_
              exact ih (t + 1) _ _ _ _ (by omega) H locs hP hD hS ls (lv_sub hl [0, 2, 3] rfl)
            · exact absurd c49 (by decide)
        · rw [pAtt_1 h0 c18]
          refine lv_iconst (v := 0) hx hb dX2_doShare_21 (by decide) ?_
          exact zret_z F hr hlocks hK hP hD hS (by decide) rfl dX2_doShare_22

set_option maxHeartbeats 4000000 in
set_option maxRecDepth 100000 in
theorem kX2_doShare (l : Launch) (D : va_G) (ad : Nat → Nat) (cy : Nat → ClassId) (sz : Nat) (n : Nat) (V : Nat → UInt64) (Z : Nat → Int32) (R : Nat → Int32) (K : Nat → Int32) (B : Nat → Int32) (M : Nat → Int32) (bc : Nat) (G : Int32) (L : Int32) (S : Int64) (q : Nat → Int32) (w : Int32) (U : Nat → Int32) (wk : Int64) (jo : UInt64) (kk : Nat) (hkk : kk < n) (hn : n ≤ 40) : mI l yX2_doShare wsX2_doShare ({ frames := 3, cells := 0, slots := 0, locals := 61 }) [.ref (ad 0), .int (nI kk)] D (cT cy) (cW ad cy n V Z R K B M bc G L S q w U wk jo) sz (if (pSh K kk (S, L, U, wk)).1 = true then 1 else 0) (cW ad cy n V Z R K B M bc G ((pSh K kk (S, L, U, wk)).2.2.1) ((pSh K kk (S, L, U, wk)).2.1) q w ((pSh K kk (S, L, U, wk)).2.2.2.1) ((pSh K kk (S, L, U, wk)).2.2.2.2) jo) 0 0 := by
  refine zin (fun A => zQi D (cT cy) (cW ad cy n V Z R K B M bc G ((pSh K kk (S, L, U, wk)).2.2.1) ((pSh K kk (S, L, U, wk)).2.1) q w ((pSh K kk (S, L, U, wk)).2.2.2.1) ((pSh K kk (S, L, U, wk)).2.2.2.2) jo) (if (pSh K kk (S, L, U, wk)).1 = true then 1 else 0) A) (cc := cX2_doShare) (maxL := 4) (ret := (some .boolean)) (own := RX2) (by decide) rfl rfl (Nat.le_of_ble_eq_true rfl) ?_
  intro p e s m below meth c A F hr hlocks hmn hA hK H locs hP hD hS ls hl
  obtain ⟨hx, hb, hml, hown, hts⟩ := id F
  have hl : lv_has ls 4 [(0, .ref (ad 0)), (1, .int (nI kk))] := hl
  refine lv_iconst (v := nI 0) hx hb dX2_doShare_0 (by decide) ?_
  refine lv_istore_n (lv' := [(2, .int (nI 0)), (0, .ref (ad 0)), (1, .int (nI kk))]) hx hb dX2_doShare_1 rfl hl (by decide) rfl (fun ls hl => ?_)
  exact lp_doShare F hr hlocks hA hK n V Z R K B M bc G q w U jo kk hkk hn 16 0 S L (U kk) wk (by omega) H locs (by rw [upd_self]; exact hP) (by rw [upd_self]; exact hD) hS ls (lv_sub hl [0, 1, 2] rfl)

set_option maxHeartbeats 4000000 in
set_option maxRecDepth 100000 in
theorem lp_doBatch {p : Program} {l : Launch} {e : Env} {s : State} {m : MethodId} {args : Array Value} {below : List Frame} {meth : Method} {c : Code} {A : Nat → Prop} {D : va_G} {ad : Nat → Nat} {cy : Nat → ClassId} (F : CallFix p m c cX2_doBatch 3 s args wsX2_doBatch RX2) (hr : meth.sig.returnType = (some .boolean)) (hlocks : meth.locks = false) (hA : ∀ q, s.heap.size ≤ q → A q) (hK : va_K D vwCl (cT cy) s) (n : Nat) (V : Nat → UInt64) (Z : Nat → Int32) (R : Nat → Int32) (K : Nat → Int32) (B : Nat → Int32) (M : Nat → Int32) (bc : Nat) (G : Int32) (q : Nat → Int32) (w : Int32) (jo : UInt64) (b : Int32) (hn : n ≤ 40) : ∀ (k : Nat) (i : Nat) (x : pY), i + k = n → ∀ (H : Heap) (locs : List Loc), va_P D vwCl (cW ad cy n V Z R K B M bc G x.2.1 x.1 q w x.2.2.1 x.2.2.2 jo) H → va_D A (cW ad cy n V Z R K B M bc G x.2.1 x.1 q w x.2.2.1 x.2.2.2 jo) → va_S A s.heap H locs → ∀ ls : Array Slot, lv_has ls 3 [(2, .int (nI i)), (0, .ref (ad 0)), (1, .int b)] → W p l e ({ frames := 4, cells := 0, slots := 0, locals := 84 }) s m args below meth c H locs 0 0 (MQ below (zQi D (cT cy) (cW ad cy n V Z R K B M bc G ((pBt K B b k i x).2.2.1) ((pBt K B b k i x).2.1) q w ((pBt K B b k i x).2.2.2.1) ((pBt K B b k i x).2.2.2.2) jo) (if (pBt K B b k i x).1 = true then 1 else 0) A) args s 0 0 A) (F0 m 2 ls []) := by
  obtain ⟨hx, hb, hml, hown, hts⟩ := id F
  have hinX2 : ∀ w ∈ wsX20, w ∈ wsX2_doBatch := by decide +kernel
  have hf_18 := hts (.fieldLink RX2 18 "RegionShares" "shares" "I") (by decide +kernel)
  have hf_37 := hts (.fieldLink RX2 37 "RegionShares" "batchOf" "[I") (by decide +kernel)
  intro k
  induction k with
  | zero =>
    intro i x hk 
    intro H locs hP hD hS ls hl
    refine lv_iload_n hx hb dX2_doBatch_2 rfl (lv_at hl 0 rfl) ?_
    refine lv_aload_n hx hb dX2_doBatch_3 rfl (lv_at hl 1 rfl) ?_
    refine va_get (D := D) (ci := 2) (v := .int (nI n)) (C := RX2) (T := TX2) (N := 13) hx hb hts hinX2 hown hK hP 0 rfl rfl 0 (by decide) hf_18 (fun _ h9 => h9) rfl dX2_doBatch_4 ?_
    refine zb_ge (a := i) (b := n) (tgt := 36) hx hb dX2_doBatch_7 (by decide) (by omega) (by omega) (fun c7 => ?_) (fun c7 => ?_)
    · refine lv_iconst (v := 1) hx hb dX2_doBatch_36 (by decide) ?_
      exact zret_z F hr hlocks hK hP hD hS (by decide) rfl dX2_doBatch_37
    · exact absurd c7 (by omega)
  | succ k ih =>
    intro i x hk  H locs hP hD hS ls hl
    refine lv_iload_n hx hb dX2_doBatch_2 rfl (lv_at hl 0 rfl) ?_
    refine lv_aload_n hx hb dX2_doBatch_3 rfl (lv_at hl 1 rfl) ?_
    refine va_get (D := D) (ci := 2) (v := .int (nI n)) (C := RX2) (T := TX2) (N := 13) hx hb hts hinX2 hown hK hP 0 rfl rfl 0 (by decide) hf_18 (fun _ h9 => h9) rfl dX2_doBatch_4 ?_
    refine zb_ge (a := i) (b := n) (tgt := 36) hx hb dX2_doBatch_7 (by decide) (by omega) (by omega) (fun c7 => ?_) (fun c7 => ?_)
    · exact absurd c7 (by omega)
    · refine lv_aload_n hx hb dX2_doBatch_10 rfl (lv_at hl 1 rfl) ?_
      refine va_get (D := D) (ci := 2) (v := .ref (ad 5)) (C := RX2) (T := TX2) (N := 13) hx hb hts hinX2 hown hK hP 0 rfl rfl 5 (by decide) hf_37 (fun _ h9 => h9) rfl dX2_doBatch_11 ?_
      refine lv_iload_n hx hb dX2_doBatch_14 rfl (lv_at hl 0 rfl) ?_
      refine ax_ild hx hb hK hP 5 4 rfl rfl (by omega) (by omega) dX2_doBatch_15 ?_
      refine lv_iload_n hx hb dX2_doBatch_16 rfl (lv_at hl 2 rfl) ?_
      refine lv_icmp_ne (tgt := 30) hx hb dX2_doBatch_17 (by decide) (fun c17 => ?_) (fun c17 => ?_)
      · rw [show pBt K B b (k + 1) i x = pBt K B b k (i + 1) x from if_neg c17]
        refine lv_iinc (v := nI (i + 1)) (lv' := [(2, .int (nI (i + 1))), (0, .ref (ad 0)), (1, .int b)]) hx hb dX2_doBatch_30 hl (k := 0) rfl (by exact nI_1 _) (by decide) rfl (fun ls hl => ?_)
        refine lv_goto (tgt := 2) hx hb dX2_doBatch_33 (by decide) ?_
        exact ih (i + 1) _ (by omega) H locs hP hD hS ls (lv_sub hl [0, 1, 2] rfl)
      · refine lv_aload_n hx hb dX2_doBatch_20 rfl (lv_at hl 1 rfl) ?_
        refine lv_iload_n hx hb dX2_doBatch_21 rfl (lv_at hl 0 rfl) ?_
        by_cases hs : (pSh K i x).1 = true
        · rw [show pBt K B b (k + 1) i x = pBt K B b k (i + 1) (pSh K i x).2 from (if_pos c17).trans (if_pos hs)]
          refine zcV_i (As := [.int (nI i)]) (rest := []) F (kX2_doShare l D ad cy _ n V Z R K B M bc G x.2.1 x.1 q w x.2.2.1 x.2.2.2 jo i c7 hn) (cwV 1 hts gX2_doBatch_X2_doShare rfl rfl rfl (by decide +kernel) ⟨Nat.le_of_ble_eq_true rfl, Nat.le_of_ble_eq_true rfl⟩) (va_recv hK hP (ci := 2) (q0 := 0) rfl rfl) hK hP hD hS hA rfl hl.1 rfl (Nat.le_of_ble_eq_true rfl) dX2_doBatch_22 ⟨Nat.le_of_ble_eq_true rfl, Nat.le_of_ble_eq_true rfl⟩ (fun H locs hP hD hS => ?_)
          refine z_topi (y := 1) (if_pos hs) ?_
          refine lv_if_ne (tgt := 30) hx hb dX2_doBatch_25 (by decide) (fun c25 => ?_) (fun c25 => ?_)
          · refine lv_iinc (v := nI (i + 1)) (lv' := [(2, .int (nI (i + 1))), (0, .ref (ad 0)), (1, .int b)]) hx hb dX2_doBatch_30 hl (k := 0) rfl (by exact nI_1 _) (by decide) rfl (fun ls hl => ?_)
            refine lv_goto (tgt := 2) hx hb dX2_doBatch_33 (by decide) ?_
            exact ih (i + 1) _ (by omega) H locs hP hD hS ls (lv_sub hl [0, 1, 2] rfl)
          · exact absurd c25 (by decide)
        · rw [show pBt K B b (k + 1) i x = (false, (pSh K i x).2) from (if_pos c17).trans (if_neg hs)]
          refine zcV_i (As := [.int (nI i)]) (rest := []) F (kX2_doShare l D ad cy _ n V Z R K B M bc G x.2.1 x.1 q w x.2.2.1 x.2.2.2 jo i c7 hn) (cwV 1 hts gX2_doBatch_X2_doShare rfl rfl rfl (by decide +kernel) ⟨Nat.le_of_ble_eq_true rfl, Nat.le_of_ble_eq_true rfl⟩) (va_recv hK hP (ci := 2) (q0 := 0) rfl rfl) hK hP hD hS hA rfl hl.1 rfl (Nat.le_of_ble_eq_true rfl) dX2_doBatch_22 ⟨Nat.le_of_ble_eq_true rfl, Nat.le_of_ble_eq_true rfl⟩ (fun H locs hP hD hS => ?_)
          refine z_topi (y := 0) (if_neg hs) ?_
          refine lv_if_ne (tgt := 30) hx hb dX2_doBatch_25 (by decide) (fun c25 => ?_) (fun c25 => ?_)
          · exact absurd rfl c25
          · refine lv_iconst (v := 0) hx hb dX2_doBatch_28 (by decide) ?_
            exact zret_z F hr hlocks hK hP hD hS (by decide) rfl dX2_doBatch_29

set_option maxHeartbeats 4000000 in
set_option maxRecDepth 100000 in
theorem kX2_doBatch (l : Launch) (D : va_G) (ad : Nat → Nat) (cy : Nat → ClassId) (sz : Nat) (n : Nat) (V : Nat → UInt64) (Z : Nat → Int32) (R : Nat → Int32) (K : Nat → Int32) (B : Nat → Int32) (M : Nat → Int32) (bc : Nat) (G : Int32) (L : Int32) (S : Int64) (q : Nat → Int32) (w : Int32) (U : Nat → Int32) (wk : Int64) (jo : UInt64) (b : Int32) (hn : n ≤ 40) : mI l yX2_doBatch wsX2_doBatch ({ frames := 4, cells := 0, slots := 0, locals := 84 }) [.ref (ad 0), .int b] D (cT cy) (cW ad cy n V Z R K B M bc G L S q w U wk jo) sz (if (pBt K B b n 0 (S, L, U, wk)).1 = true then 1 else 0) (cW ad cy n V Z R K B M bc G ((pBt K B b n 0 (S, L, U, wk)).2.2.1) ((pBt K B b n 0 (S, L, U, wk)).2.1) q w ((pBt K B b n 0 (S, L, U, wk)).2.2.2.1) ((pBt K B b n 0 (S, L, U, wk)).2.2.2.2) jo) 0 0 := by
  refine zin (fun A => zQi D (cT cy) (cW ad cy n V Z R K B M bc G ((pBt K B b n 0 (S, L, U, wk)).2.2.1) ((pBt K B b n 0 (S, L, U, wk)).2.1) q w ((pBt K B b n 0 (S, L, U, wk)).2.2.2.1) ((pBt K B b n 0 (S, L, U, wk)).2.2.2.2) jo) (if (pBt K B b n 0 (S, L, U, wk)).1 = true then 1 else 0) A) (cc := cX2_doBatch) (maxL := 3) (ret := (some .boolean)) (own := RX2) (by decide) rfl rfl (Nat.le_of_ble_eq_true rfl) ?_
  intro p e s m below meth c A F hr hlocks hmn hA hK H locs hP hD hS ls hl
  obtain ⟨hx, hb, hml, hown, hts⟩ := id F
  have hl : lv_has ls 3 [(0, .ref (ad 0)), (1, .int b)] := hl
  refine lv_iconst (v := nI 0) hx hb dX2_doBatch_0 (by decide) ?_
  refine lv_istore_n (lv' := [(2, .int (nI 0)), (0, .ref (ad 0)), (1, .int b)]) hx hb dX2_doBatch_1 rfl hl (by decide) rfl (fun ls hl => ?_)
  exact lp_doBatch F hr hlocks hA hK n V Z R K B M bc G q w jo b hn n 0 (S, L, U, wk) (by omega) H locs hP hD hS ls (lv_sub hl [0, 1, 2] rfl)
