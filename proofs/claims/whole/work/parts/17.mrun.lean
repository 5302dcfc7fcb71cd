theorem bt_ok {K B : Nat → Int32} {b : Int32} : ∀ (k i : Nat) (S : Int64) (m : Nat) (U : Nat → Int32) (wk : Int64), m < 65536 → ¬ pBC (nI m) = 0 → (pBt K B b k i (S, nI m, U, wk)).1 = true → ∃ m', (pBt K B b k i (S, nI m, U, wk)).2.2.1 = nI m' ∧ m' < 65536 ∧ ¬ pBC (nI m') = 0 := by
  intro k
  induction k with
  | zero => intro i S m U wk hm h0 _; exact ⟨m, rfl, hm, h0⟩
  | succ k ih =>
    intro i S m U wk hm h0 h
    by_cases hb : B i = b
    · by_cases hs : (pSh K i (S, nI m, U, wk)).1 = true
      · obtain ⟨m', em, hm', h0'⟩ := att_ok 16 S m (U i) wk hm hs
        have e9 : pBt K B b (k + 1) i (S, nI m, U, wk) = pBt K B b k (i + 1) ((pAtt (K i) 16 S (nI m) (U i) wk).2.1, nI m', upd U i (pAtt (K i) 16 S (nI m) (U i) wk).2.2.2.1, (pAtt (K i) 16 S (nI m) (U i) wk).2.2.2.2) := by
          rw [← em]; exact (if_pos hb).trans (if_pos hs)
        rw [e9] at h ⊢
        exact ih _ _ _ _ _ hm' h0' h
      · rw [show pBt K B b (k + 1) i (S, nI m, U, wk) = (false, (pSh K i (S, nI m, U, wk)).2) from (if_pos hb).trans (if_neg hs)] at h; cases h
    · rw [show pBt K B b (k + 1) i (S, nI m, U, wk) = pBt K B b k (i + 1) (S, nI m, U, wk) from if_neg hb] at h ⊢
      exact ih _ _ _ _ _ hm h0 h

set_option maxHeartbeats 4000000 in
set_option maxRecDepth 100000 in
theorem lk_att {p : Program} {l : Launch} {e : Env} {s : State} {m : MethodId} {args : Array Value} {below : List Frame} {meth : Method} {c : Code} {Q : State → Prop} {A : Nat → Prop} {D : va_G} {ad : Nat → Nat} {cy : Nat → ClassId} (F : CallFix p m c cX3_run 15 s args wsX3_run RX3) (hA : ∀ q, s.heap.size ≤ q → A q) (hK : va_K D vwCl (mT cy) s) (th : Int32) (n : Nat) (E : Nat → Int64) (R : Nat → Int32) (Z : Nat → Int32) (B : Nat → Int32) (BR : Nat → Int64) (wt : Nat) (rk : Nat → Int32) (U : Nat → Int32) (jo : Int64) (K : Nat → Int32) (wr : Int32) (kk b nn bq : Nat) (sm : Int64) (hkk : kk < 40) (hBK : ∀ w9, w9 < 16 → ((BR w9 >>> ((nI kk).toInt64 &&& 63)) &&& 1 = 0 ↔ K kk &&& pBit (nI w9) = 0)) : ∀ (f : Nat) (S : Int64) (m9 : Nat) (u : Int32) (wk : Int64), cb m9 16 ≤ f → (m9 < 65536) → (¬ pBC (nI m9) = 0) → ((pAtt (K kk) f S (nI m9) u wk).1 = true → ∀ (H : Heap) (locs : List Loc), va_P D vwCl (mW ad cy th n E R Z B BR wt rk (upd U kk (pAtt (K kk) f S (nI m9) u wk).2.2.2.1) (wr - pBC (pAtt (K kk) f S (nI m9) u wk).2.2.1) (pBC (pAtt (K kk) f S (nI m9) u wk).2.2.1) jo ((pAtt (K kk) f S (nI m9) u wk).2.2.2.2)) H → va_D A (mW ad cy th n E R Z B BR wt rk (upd U kk (pAtt (K kk) f S (nI m9) u wk).2.2.2.1) (wr - pBC (pAtt (K kk) f S (nI m9) u wk).2.2.1) (pBC (pAtt (K kk) f S (nI m9) u wk).2.2.1) jo ((pAtt (K kk) f S (nI m9) u wk).2.2.2.2)) → va_S A s.heap H locs → ∀ ls : Array Slot, lv_has ls 15 [(12, .int (nI kk)), (5, .int ((pAtt (K kk) f S (nI m9) u wk).2.2.1)), (6, .long ((pAtt (K kk) f S (nI m9) u wk).2.1)), (8, .int (nI b)), (9, .int (nI nn)), (10, .long sm), (4, .int (nI bq)), (0, .ref (ad 0))] → W p l e ({ frames := 2, cells := 0, slots := 0, locals := 60 }) s m args below meth c H locs 0 0 Q (F0 m 258 ls [])) → ((pAtt (K kk) f S (nI m9) u wk).1 = false → ∀ (H : Heap) (locs : List Loc), va_P D vwCl (mW ad cy th n E R Z B BR wt rk (upd U kk (pAtt (K kk) f S (nI m9) u wk).2.2.2.1) (wr - pBC (pAtt (K kk) f S (nI m9) u wk).2.2.1) (pBC (pAtt (K kk) f S (nI m9) u wk).2.2.1) jo ((pAtt (K kk) f S (nI m9) u wk).2.2.2.2)) H → va_D A (mW ad cy th n E R Z B BR wt rk (upd U kk (pAtt (K kk) f S (nI m9) u wk).2.2.2.1) (wr - pBC (pAtt (K kk) f S (nI m9) u wk).2.2.1) (pBC (pAtt (K kk) f S (nI m9) u wk).2.2.1) jo ((pAtt (K kk) f S (nI m9) u wk).2.2.2.2)) → va_S A s.heap H locs → ∀ ls : Array Slot, lv_has ls 15 [] → W p l e ({ frames := 2, cells := 0, slots := 0, locals := 60 }) s m args below meth c H locs 0 0 Q (F0 m 253 ls [])) → ∀ (H : Heap) (locs : List Loc), va_P D vwCl (mW ad cy th n E R Z B BR wt rk (upd U kk u) (wr - pBC (nI m9)) (pBC (nI m9)) jo wk) H → va_D A (mW ad cy th n E R Z B BR wt rk (upd U kk u) (wr - pBC (nI m9)) (pBC (nI m9)) jo wk) → va_S A s.heap H locs → ∀ ls : Array Slot, lv_has ls 15 [(13, .int 0), (12, .int (nI kk)), (5, .int (nI m9)), (6, .long S), (8, .int (nI b)), (9, .int (nI nn)), (10, .long sm), (4, .int (nI bq)), (0, .ref (ad 0))] → W p l e ({ frames := 2, cells := 0, slots := 0, locals := 60 }) s m args below meth c H locs 0 0 Q (F0 m 134 ls []) := by
  obtain ⟨hx, hb, hml, hown, hts⟩ := id F
  have hinX3 : ∀ w ∈ wsX30, w ∈ wsX3_run := by decide +kernel
  have hf_24 := hts (.fieldLink RX3 24 "RegionSharesModel" "breaks" "[J") (by decide +kernel)
  have hf_30 := hts (.fieldLink RX3 30 "RegionSharesModel" "begun" "[I") (by decide +kernel)
  have hf_69 := hts (.fieldLink RX3 69 "RegionSharesModel" "work" "J") (by decide +kernel)
  have hf_73 := hts (.fieldLink RX3 73 "RegionSharesModel" "broke" "I") (by decide +kernel)
  have hf_76 := hts (.fieldLink RX3 76 "RegionSharesModel" "liveCount" "I") (by decide +kernel)
  intro f
  induction f with
  | zero =>
    intro S m9 u wk hk hm h0 kT kF
    exact absurd (by rw [pBC_cb hm, show cb m9 16 = 0 by omega]; rfl) h0
  | succ f ih =>
    intro S m9 u wk hk hm h0 kT kF H locs hP hD hS ls hl
    refine lv_iload hx hb dX3_run_134 (lv_at hl 0 rfl) ?_
    refine lv_if_ne (tgt := 258) hx hb dX3_run_136 (by decide) (fun c136 => ?_) (fun c136 => ?_)
    · exact absurd rfl c136
    · obtain ⟨v, hv, ev, hbv, -, j, hj, ej⟩ := draw_n hm h0 (pNx S)
      refine lv_lload hx hb dX3_run_139 (lv_at hl 3 rfl) ?_
      refine zcS_l (As := [.long S]) (rest := []) F (kX3_next l D ad cy _ th n E R Z B BR wt rk (upd U kk u) (wr - pBC (nI m9)) (pBC (nI m9)) jo wk S) (va_cwS 1 hts gX3_run_X3_next rfl rfl rfl (by decide +kernel) ⟨Nat.le_of_ble_eq_true rfl, Nat.le_of_ble_eq_true rfl⟩) hK hP hD hS hA rfl hl.1 rfl (Nat.le_of_ble_eq_true rfl) dX3_run_141 ⟨Nat.le_of_ble_eq_true rfl, Nat.le_of_ble_eq_true rfl⟩ (fun H locs hP hD hS => ?_)
      refine lv_lstore (lv' := [(6, .long (pNx S)), (13, .int 0), (12, .int (nI kk)), (5, .int (nI m9)), (8, .int (nI b)), (9, .int (nI nn)), (10, .long sm), (4, .int (nI bq)), (0, .ref (ad 0))]) hx hb dX3_run_144 hl (by decide) rfl (fun ls hl => ?_)
      refine lv_iload hx hb dX3_run_146 (lv_at hl 3 rfl) ?_
      refine lv_lload hx hb dX3_run_148 (lv_at hl 0 rfl) ?_
      refine lv_bipush (v := nI 33) hx hb dX3_run_150 (by decide) ?_
      refine lv_lushr (v := ul (pNx S) (nI 33)) hx hb dX3_run_152 rfl ?_
      refine lv_aload_n hx hb dX3_run_153 rfl (lv_at hl 8 rfl) ?_
      refine va_get (D := D) (ci := 3) (v := .int (pBC (nI m9))) (C := RX3) (T := TX3) (N := 14) hx hb hts hinX3 hown hK hP 0 rfl rfl 11 (by decide) hf_76 (fun _ h9 => h9) rfl dX3_run_154 ?_
      refine lv_i2l (v := (pBC (nI m9)).toInt64) hx hb dX3_run_157 rfl ?_
      refine lv_lrem hx hb dX3_run_158 (fun h => h0 (by have h2 := congrArg Int64.toInt h; rw [Int32.toInt_toInt64] at h2; exact Int32.toInt_inj.mp h2)) ?_
      refine lv_l2i (v := ((ul (pNx S) (nI 33)) - (ul (pNx S) (nI 33)) / ((pBC (nI m9)).toInt64) * ((pBC (nI m9)).toInt64)).toInt32) hx hb dX3_run_159 rfl ?_
      refine z_topi (y := nI j) ej ?_
      refine zcS_i (As := [.int (nI m9), .int (nI j)]) (rest := []) F (kX3_workerAt l D ad cy _ th n E R Z B BR wt rk (upd U kk u) (wr - pBC (nI m9)) (pBC (nI m9)) jo wk (nI m9) j v hv hj (by rw [← ej]; exact ev)) (va_cwS 2 hts gX3_run_X3_workerAt rfl rfl rfl (by decide +kernel) ⟨Nat.le_of_ble_eq_true rfl, Nat.le_of_ble_eq_true rfl⟩) hK hP hD hS hA rfl hl.1 rfl (Nat.le_of_ble_eq_true rfl) dX3_run_160 ⟨Nat.le_of_ble_eq_true rfl, Nat.le_of_ble_eq_true rfl⟩ (fun H locs hP hD hS => ?_)
      refine lv_istore (lv' := [(14, .int (nI v)), (6, .long (pNx S)), (13, .int 0), (12, .int (nI kk)), (5, .int (nI m9)), (8, .int (nI b)), (9, .int (nI nn)), (10, .long sm), (4, .int (nI bq)), (0, .ref (ad 0))]) hx hb dX3_run_163 hl (by decide) rfl (fun ls hl => ?_)
      refine lv_aload_n hx hb dX3_run_165 rfl (lv_at hl 9 rfl) ?_
      refine va_get (D := D) (ci := 3) (v := .ref (ad 7)) (C := RX3) (T := TX3) (N := 14) hx hb hts hinX3 hown hK hP 0 rfl rfl 9 (by decide) hf_30 (fun _ h9 => h9) rfl dX3_run_166 ?_
      refine lv_iload hx hb dX3_run_169 (lv_at hl 3 rfl) ?_
      refine lv_dup2_11 hx hb dX3_run_171 rfl rfl ?_
      refine ax_ild hx hb hK hP 7 6 rfl rfl (by omega) (by omega) dX3_run_172 ?_
      refine z_topi (y := u) (upd_at _ _ _) ?_
      refine lv_iconst (v := 1) hx hb dX3_run_173 (by decide) ?_
      refine lv_iadd hx hb dX3_run_174 ?_
      refine ax_ist hx hb hK hP hD hS 7 6 rfl rfl (by omega) (by omega) dX3_run_175 (fun H locs hP hD hS => ?_)
      have hP : va_P D vwCl (mW ad cy th n E R Z B BR wt rk (upd (upd U kk u) kk (u + 1)) (wr - pBC (nI m9)) (pBC (nI m9)) jo wk) H := hP
      have hD : va_D A (mW ad cy th n E R Z B BR wt rk (upd (upd U kk u) kk (u + 1)) (wr - pBC (nI m9)) (pBC (nI m9)) jo wk) := hD
      rw [upd_upd] at hP hD
      refine lv_aload_n hx hb dX3_run_176 rfl (lv_at hl 9 rfl) ?_
      refine lv_dup hx hb dX3_run_177 rfl ?_
      refine va_get (D := D) (ci := 3) (v := .long wk) (C := RX3) (T := TX3) (N := 14) hx hb hts hinX3 hown hK hP 0 rfl rfl 13 (by decide) hf_69 (fun _ h9 => h9) rfl dX3_run_178 ?_
      refine lv_lconst (v := 1) hx hb dX3_run_181 (by decide) ?_
      refine lv_ladd hx hb dX3_run_182 ?_
      refine va_put (D := D) (ci := 3) (v := .long (wk + 1)) (ty := .long) (C := RX3) (T := TX3) (N := 14) hx hb hts hinX3 tyX3 tyX3_ok nmX3 hown hK hP hD hS 0 rfl rfl 13 (by decide) hf_69 (fun _ h9 => h9) rfl (by decide +kernel) rfl rfl (Nat.le_of_ble_eq_true rfl) dX3_run_183 (fun H locs hP hD hS => ?_)
      have hP : va_P D vwCl (mW ad cy th n E R Z B BR wt rk (upd U kk (u + 1)) (wr - pBC (nI m9)) (pBC (nI m9)) jo (wk + 1)) H := hP
      have hD : va_D A (mW ad cy th n E R Z B BR wt rk (upd U kk (u + 1)) (wr - pBC (nI m9)) (pBC (nI m9)) jo (wk + 1)) := hD
      by_cases h2 : K kk &&& pBit (nI v) = 0
      · refine lv_aload_n hx hb dX3_run_186 rfl (lv_at hl 9 rfl) ?_
        refine va_get (D := D) (ci := 3) (v := .ref (ad 5)) (C := RX3) (T := TX3) (N := 14) hx hb hts hinX3 hown hK hP 0 rfl rfl 6 (by decide) hf_24 (fun _ h9 => h9) rfl dX3_run_187 ?_
        refine lv_iload hx hb dX3_run_190 (lv_at hl 0 rfl) ?_
        refine ax_lld hx hb hK hP 5 4 rfl rfl (by omega) (by omega) dX3_run_192 ?_
        refine lv_iload hx hb dX3_run_193 (lv_at hl 3 rfl) ?_
        refine lv_lshr (v := (BR v) >>> ((nI kk).toInt64 &&& 63)) hx hb dX3_run_195 rfl ?_
        refine lv_lconst (v := 1) hx hb dX3_run_196 (by decide) ?_
        refine lv_land hx hb dX3_run_197 ?_
        refine lv_lconst (v := 0) hx hb dX3_run_198 (by decide) ?_
        refine W.lcmp hx hb dX3_run_199 ?_
        refine lv_if_ne (tgt := 207) hx hb dX3_run_200 (by decide) (fun c200 => ?_) (fun c200 => ?_)
        · exact absurd (lgc0.mpr ((hBK v hv).mpr h2)) c200
        · refine lv_iconst (v := 1) hx hb dX3_run_203 (by decide) ?_
          refine lv_goto (tgt := 208) hx hb dX3_run_204 (by decide) ?_
          refine lv_istore (lv' := [(13, .int 1), (14, .int (nI v)), (6, .long (pNx S)), (12, .int (nI kk)), (5, .int (nI m9)), (8, .int (nI b)), (9, .int (nI nn)), (10, .long sm), (4, .int (nI bq)), (0, .ref (ad 0))]) hx hb dX3_run_208 hl (by decide) rfl (fun ls hl => ?_)
          refine lv_iload hx hb dX3_run_210 (lv_at hl 0 rfl) ?_
          refine lv_if_ne (tgt := 255) hx hb dX3_run_212 (by decide) (fun c212 => ?_) (fun c212 => ?_)
          · refine lv_goto (tgt := 134) hx hb dX3_run_255 (by decide) ?_
            rw [att_y h0 ev hv h2] at kT
            refine lv_iload hx hb dX3_run_134 (lv_at hl 0 rfl) ?_
            refine lv_if_ne (tgt := 258) hx hb dX3_run_136 (by decide) (fun c9 => ?_) (fun c9 => absurd c9 (by decide))
            exact kT rfl H locs hP hD hS ls (lv_sub hl [3, 4, 2, 5, 6, 7, 8, 9] rfl)
          · exact absurd c212 (by decide)
      · refine lv_aload_n hx hb dX3_run_186 rfl (lv_at hl 9 rfl) ?_
        refine va_get (D := D) (ci := 3) (v := .ref (ad 5)) (C := RX3) (T := TX3) (N := 14) hx hb hts hinX3 hown hK hP 0 rfl rfl 6 (by decide) hf_24 (fun _ h9 => h9) rfl dX3_run_187 ?_
        refine lv_iload hx hb dX3_run_190 (lv_at hl 0 rfl) ?_
        refine ax_lld hx hb hK hP 5 4 rfl rfl (by omega) (by omega) dX3_run_192 ?_
        refine lv_iload hx hb dX3_run_193 (lv_at hl 3 rfl) ?_
        refine lv_lshr (v := (BR v) >>> ((nI kk).toInt64 &&& 63)) hx hb dX3_run_195 rfl ?_
        refine lv_lconst (v := 1) hx hb dX3_run_196 (by decide) ?_
        refine lv_land hx hb dX3_run_197 ?_
        refine lv_lconst (v := 0) hx hb dX3_run_198 (by decide) ?_
        refine W.lcmp hx hb dX3_run_199 ?_
        refine lv_if_ne (tgt := 207) hx hb dX3_run_200 (by decide) (fun c200 => ?_) (fun c200 => ?_)
        · refine lv_iconst (v := 0) hx hb dX3_run_207 (by decide) ?_
          refine lv_istore (lv' := [(13, .int 0), (14, .int (nI v)), (6, .long (pNx S)), (12, .int (nI kk)), (5, .int (nI m9)), (8, .int (nI b)), (9, .int (nI nn)), (10, .long sm), (4, .int (nI bq)), (0, .ref (ad 0))]) hx hb dX3_run_208 hl (by decide) rfl (fun ls hl => ?_)
          refine lv_iload hx hb dX3_run_210 (lv_at hl 0 rfl) ?_
          refine lv_if_ne (tgt := 255) hx hb dX3_run_212 (by decide) (fun c212 => ?_) (fun c212 => ?_)
          · exact absurd rfl c212
          · refine lv_iload hx hb dX3_run_215 (lv_at hl 4 rfl) ?_
            refine lv_iconst (v := 1) hx hb dX3_run_217 (by decide) ?_
            refine lv_iload hx hb dX3_run_218 (lv_at hl 1 rfl) ?_
            refine lv_ishl hx hb dX3_run_220 ?_
            refine z_topi (y := pBit (nI v)) rfl ?_
            refine lv_iconst (v := (-1)) hx hb dX3_run_221 (by decide) ?_
            refine lv_ixor hx hb dX3_run_222 ?_
            refine lv_iand hx hb dX3_run_223 ?_
            refine z_topi (y := nI (m9 ^^^ 2 ^ v)) (clear_n hm hv hbv) ?_
            refine lv_istore (lv' := [(5, .int (nI (m9 ^^^ 2 ^ v))), (13, .int 0), (14, .int (nI v)), (6, .long (pNx S)), (12, .int (nI kk)), (8, .int (nI b)), (9, .int (nI nn)), (10, .long sm), (4, .int (nI bq)), (0, .ref (ad 0))]) hx hb dX3_run_224 hl (by decide) rfl (fun ls hl => ?_)
            refine lv_aload_n hx hb dX3_run_226 rfl (lv_at hl 9 rfl) ?_
            refine lv_dup hx hb dX3_run_227 rfl ?_
            refine va_get (D := D) (ci := 3) (v := .int (pBC (nI m9))) (C := RX3) (T := TX3) (N := 14) hx hb hts hinX3 hown hK hP 0 rfl rfl 11 (by decide) hf_76 (fun _ h9 => h9) rfl dX3_run_228 ?_
            refine lv_iconst (v := 1) hx hb dX3_run_231 (by decide) ?_
            refine lv_isub hx hb dX3_run_232 ?_
            refine z_topi (y := pBC (nI (m9 ^^^ 2 ^ v))) (lc_dec hm hv hbv).1 ?_
            refine va_put (D := D) (ci := 3) (v := .int (pBC (nI (m9 ^^^ 2 ^ v)))) (ty := .int) (C := RX3) (T := TX3) (N := 14) hx hb hts hinX3 tyX3 tyX3_ok nmX3 hown hK hP hD hS 0 rfl rfl 11 (by decide) hf_76 (fun _ h9 => h9) rfl (by decide +kernel) rfl rfl (Nat.le_of_ble_eq_true rfl) dX3_run_233 (fun H locs hP hD hS => ?_)
            have hP : va_P D vwCl (mW ad cy th n E R Z B BR wt rk (upd U kk (u + 1)) (wr - pBC (nI m9)) (pBC (nI (m9 ^^^ 2 ^ v))) jo (wk + 1)) H := hP
            have hD : va_D A (mW ad cy th n E R Z B BR wt rk (upd U kk (u + 1)) (wr - pBC (nI m9)) (pBC (nI (m9 ^^^ 2 ^ v))) jo (wk + 1)) := hD
            refine lv_aload_n hx hb dX3_run_236 rfl (lv_at hl 9 rfl) ?_
            refine lv_dup hx hb dX3_run_237 rfl ?_
            refine va_get (D := D) (ci := 3) (v := .int (wr - pBC (nI m9))) (C := RX3) (T := TX3) (N := 14) hx hb hts hinX3 hown hK hP 0 rfl rfl 10 (by decide) hf_73 (fun _ h9 => h9) rfl dX3_run_238 ?_
            refine lv_iconst (v := 1) hx hb dX3_run_241 (by decide) ?_
            refine lv_iadd hx hb dX3_run_242 ?_
            refine z_topi (y := wr - pBC (nI (m9 ^^^ 2 ^ v))) (br_inc (lc_dec hm hv hbv).1) ?_
            refine va_put (D := D) (ci := 3) (v := .int (wr - pBC (nI (m9 ^^^ 2 ^ v)))) (ty := .int) (C := RX3) (T := TX3) (N := 14) hx hb hts hinX3 tyX3 tyX3_ok nmX3 hown hK hP hD hS 0 rfl rfl 10 (by decide) hf_73 (fun _ h9 => h9) rfl (by decide +kernel) rfl rfl (Nat.le_of_ble_eq_true rfl) dX3_run_243 (fun H locs hP hD hS => ?_)
            have hP : va_P D vwCl (mW ad cy th n E R Z B BR wt rk (upd U kk (u + 1)) (wr - pBC (nI (m9 ^^^ 2 ^ v))) (pBC (nI (m9 ^^^ 2 ^ v))) jo (wk + 1)) H := hP
            have hD : va_D A (mW ad cy th n E R Z B BR wt rk (upd U kk (u + 1)) (wr - pBC (nI (m9 ^^^ 2 ^ v))) (pBC (nI (m9 ^^^ 2 ^ v))) jo (wk + 1)) := hD
            refine lv_aload_n hx hb dX3_run_246 rfl (lv_at hl 9 rfl) ?_
            refine va_get (D := D) (ci := 3) (v := .int (pBC (nI (m9 ^^^ 2 ^ v)))) (C := RX3) (T := TX3) (N := 14) hx hb hts hinX3 hown hK hP 0 rfl rfl 11 (by decide) hf_76 (fun _ h9 => h9) rfl dX3_run_247 ?_
            refine lv_if_ne (tgt := 255) hx hb dX3_run_250 (by decide) (fun c250 => ?_) (fun c250 => ?_)
            · refine lv_goto (tgt := 134) hx hb dX3_run_255 (by decide) ?_
              rw [att_n hm h0 ev hv hbv h2] at kT kF
              exact ih (pNx S) (m9 ^^^ 2 ^ v) (u + 1) (wk + 1) (by have q := (lc_dec hm hv hbv).2; omega) (clear_lt hm hv) c250 kT kF H locs hP hD hS ls (lv_sub hl [1, 4, 0, 3, 5, 6, 7, 8, 9] rfl)
            · rw [att_n hm h0 ev hv hbv h2, att_z c250] at kF
              exact kF rfl H locs hP hD hS ls (lv_sub hl [] rfl)
        · exact absurd ((hBK v hv).mp (lgc0.mp c200)) h2

set_option maxHeartbeats 4000000 in
set_option maxRecDepth 100000 in
theorem lk_sh {p : Program} {l : Launch} {e : Env} {s : State} {m : MethodId} {args : Array Value} {below : List Frame} {meth : Method} {c : Code} {Q : State → Prop} {A : Nat → Prop} {D : va_G} {ad : Nat → Nat} {cy : Nat → ClassId} (F : CallFix p m c cX3_run 15 s args wsX3_run RX3) (hA : ∀ q, s.heap.size ≤ q → A q) (hK : va_K D vwCl (mT cy) s) (th : Int32) (n : Nat) (E : Nat → Int64) (R : Nat → Int32) (Z : Nat → Int32) (B : Nat → Int32) (BR : Nat → Int64) (wt : Nat) (rk : Nat → Int32) (jo : Int64) (K : Nat → Int32) (wr : Int32) (b bq : Nat) (hn : n ≤ 40) (hBK : ∀ kk w9, kk < n → w9 < 16 → ((BR w9 >>> ((nI kk).toInt64 &&& 63)) &&& 1 = 0 ↔ K kk &&& pBit (nI w9) = 0)) : ∀ (f : Nat) (i : Nat) (S : Int64) (m9 : Nat) (U : Nat → Int32) (wk : Int64) (sm : Int64) (nn : Nat), i + f = n → (m9 < 65536) → (¬ pBC (nI m9) = 0) → ((pBt K B (nI b) f i (S, nI m9, U, wk)).1 = true → ∀ (H : Heap) (locs : List Loc), va_P D vwCl (mW ad cy th n E R Z B BR wt rk ((pBt K B (nI b) f i (S, nI m9, U, wk)).2.2.2.1) (wr - pBC (pBt K B (nI b) f i (S, nI m9, U, wk)).2.2.1) (pBC (pBt K B (nI b) f i (S, nI m9, U, wk)).2.2.1) jo ((pBt K B (nI b) f i (S, nI m9, U, wk)).2.2.2.2)) H → va_D A (mW ad cy th n E R Z B BR wt rk ((pBt K B (nI b) f i (S, nI m9, U, wk)).2.2.2.1) (wr - pBC (pBt K B (nI b) f i (S, nI m9, U, wk)).2.2.1) (pBC (pBt K B (nI b) f i (S, nI m9, U, wk)).2.2.1) jo ((pBt K B (nI b) f i (S, nI m9, U, wk)).2.2.2.2)) → va_S A s.heap H locs → ∀ ls : Array Slot, lv_has ls 15 [(8, .int (nI b)), (9, .int (nI (mCtF B (nI b) f i nn))), (10, .long (mSmF E B (nI b) f i sm)), (5, .int ((pBt K B (nI b) f i (S, nI m9, U, wk)).2.2.1)), (6, .long ((pBt K B (nI b) f i (S, nI m9, U, wk)).2.1)), (4, .int (nI bq)), (0, .ref (ad 0))] → W p l e ({ frames := 2, cells := 0, slots := 0, locals := 60 }) s m args below meth c H locs 0 0 Q (F0 m 278 ls [])) → ((pBt K B (nI b) f i (S, nI m9, U, wk)).1 = false → ∀ (H : Heap) (locs : List Loc), va_P D vwCl (mW ad cy th n E R Z B BR wt rk ((pBt K B (nI b) f i (S, nI m9, U, wk)).2.2.2.1) (wr - pBC (pBt K B (nI b) f i (S, nI m9, U, wk)).2.2.1) (pBC (pBt K B (nI b) f i (S, nI m9, U, wk)).2.2.1) jo ((pBt K B (nI b) f i (S, nI m9, U, wk)).2.2.2.2)) H → va_D A (mW ad cy th n E R Z B BR wt rk ((pBt K B (nI b) f i (S, nI m9, U, wk)).2.2.2.1) (wr - pBC (pBt K B (nI b) f i (S, nI m9, U, wk)).2.2.1) (pBC (pBt K B (nI b) f i (S, nI m9, U, wk)).2.2.1) jo ((pBt K B (nI b) f i (S, nI m9, U, wk)).2.2.2.2)) → va_S A s.heap H locs → ∀ ls : Array Slot, lv_has ls 15 [] → W p l e ({ frames := 2, cells := 0, slots := 0, locals := 60 }) s m args below meth c H locs 0 0 Q (F0 m 253 ls [])) → ∀ (H : Heap) (locs : List Loc), va_P D vwCl (mW ad cy th n E R Z B BR wt rk U (wr - pBC (nI m9)) (pBC (nI m9)) jo wk) H → va_D A (mW ad cy th n E R Z B BR wt rk U (wr - pBC (nI m9)) (pBC (nI m9)) jo wk) → va_S A s.heap H locs → ∀ ls : Array Slot, lv_has ls 15 [(12, .int (nI i)), (5, .int (nI m9)), (6, .long S), (8, .int (nI b)), (9, .int (nI nn)), (10, .long sm), (4, .int (nI bq)), (0, .ref (ad 0))] → W p l e ({ frames := 2, cells := 0, slots := 0, locals := 60 }) s m args below meth c H locs 0 0 Q (F0 m 107 ls []) := by
  obtain ⟨hx, hb, hml, hown, hts⟩ := id F
  have hinX3 : ∀ w ∈ wsX30, w ∈ wsX3_run := by decide +kernel
  have hf_21 := hts (.fieldLink RX3 21 "RegionSharesModel" "batchOf" "[I") (by decide +kernel)
  have hf_33 := hts (.fieldLink RX3 33 "RegionSharesModel" "shares" "I") (by decide +kernel)
  intro f
  induction f with
  | zero =>
    intro i S m9 U wk sm nn hk hm h0 kT kF
    intro H locs hP hD hS ls hl
    refine lv_iload hx hb dX3_run_107 (lv_at hl 0 rfl) ?_
    refine lv_aload_n hx hb dX3_run_109 rfl (lv_at hl 7 rfl) ?_
    refine va_get (D := D) (ci := 3) (v := .int (nI n)) (C := RX3) (T := TX3) (N := 14) hx hb hts hinX3 hown hK hP 0 rfl rfl 1 (by decide) hf_33 (fun _ h9 => h9) rfl dX3_run_110 ?_
    refine zb_ge (a := i) (b := n) (tgt := 278) hx hb dX3_run_113 (by decide) (by omega) (by omega) (fun c113 => ?_) (fun c113 => ?_)
    · exact kT rfl H locs hP hD hS ls (lv_sub hl [3, 4, 5, 1, 2, 6, 7] rfl)
    · exact absurd c113 (by omega)
  | succ f ih =>
    intro i S m9 U wk sm nn hk hm h0 kT kF H locs hP hD hS ls hl
    refine lv_iload hx hb dX3_run_107 (lv_at hl 0 rfl) ?_
    refine lv_aload_n hx hb dX3_run_109 rfl (lv_at hl 7 rfl) ?_
    refine va_get (D := D) (ci := 3) (v := .int (nI n)) (C := RX3) (T := TX3) (N := 14) hx hb hts hinX3 hown hK hP 0 rfl rfl 1 (by decide) hf_33 (fun _ h9 => h9) rfl dX3_run_110 ?_
    refine zb_ge (a := i) (b := n) (tgt := 278) hx hb dX3_run_113 (by decide) (by omega) (by omega) (fun c113 => ?_) (fun c113 => ?_)
    · exact absurd c113 (by omega)
    · refine lv_aload_n hx hb dX3_run_116 rfl (lv_at hl 7 rfl) ?_
      refine va_get (D := D) (ci := 3) (v := .ref (ad 4)) (C := RX3) (T := TX3) (N := 14) hx hb hts hinX3 hown hK hP 0 rfl rfl 5 (by decide) hf_21 (fun _ h9 => h9) rfl dX3_run_117 ?_
      refine lv_iload hx hb dX3_run_120 (lv_at hl 0 rfl) ?_
      refine ax_ild hx hb hK hP 4 3 rfl rfl (by omega) (by omega) dX3_run_122 ?_
      refine lv_iload hx hb dX3_run_123 (lv_at hl 3 rfl) ?_
      refine lv_icmp_eq (tgt := 131) hx hb dX3_run_125 (by decide) (fun c125 => ?_) (fun c125 => ?_)
      · refine lv_iconst (v := 0) hx hb dX3_run_131 (by decide) ?_
        refine lv_istore (lv' := [(13, .int 0), (12, .int (nI i)), (5, .int (nI m9)), (6, .long S), (8, .int (nI b)), (9, .int (nI nn)), (10, .long sm), (4, .int (nI bq)), (0, .ref (ad 0))]) hx hb dX3_run_132 hl (by decide) rfl (fun ls hl => ?_)
        refine lk_att F hA hK th n E R Z B BR wt rk U jo K wr i b nn bq sm (by omega) (fun w9 h9 => hBK i w9 (by omega) h9) 16 S m9 (U i) wk (cb_le m9 16) hm h0 (fun hT H locs hP hD hS ls hl => ?_) (fun hF H locs hP hD hS ls hl => ?_) H locs (by rw [upd_self]; exact hP) (by rw [upd_self]; exact hD) hS ls (lv_sub hl [0, 1, 2, 3, 4, 5, 6, 7, 8] rfl)
        · obtain ⟨m', em, hm', h0'⟩ := att_ok 16 S m9 (U i) wk hm hT
          have e9 : pBt K B (nI b) (f + 1) i (S, nI m9, U, wk) = pBt K B (nI b) f (i + 1) ((pAtt (K i) 16 S (nI m9) (U i) wk).2.1, nI m', upd U i (pAtt (K i) 16 S (nI m9) (U i) wk).2.2.2.1, (pAtt (K i) 16 S (nI m9) (U i) wk).2.2.2.2) := by
            rw [← em]; exact (if_pos c125).trans (if_pos hT)
          rw [em] at hP hD hl
          rw [e9] at kT kF
          rw [show mSmF E B (nI b) (f + 1) i sm = mSmF E B (nI b) f (i + 1) (sm + mRes E i) from if_pos c125, show mCtF B (nI b) (f + 1) i nn = mCtF B (nI b) f (i + 1) (nn + 1) from if_pos c125] at kT
          refine lv_lload hx hb dX3_run_258 (lv_at hl 5 rfl) ?_
          refine lv_aload_n hx hb dX3_run_260 rfl (lv_at hl 7 rfl) ?_
          refine lv_iload hx hb dX3_run_261 (lv_at hl 0 rfl) ?_
          refine zcV_l (As := [.int (nI i)]) (rest := [.long sm]) F (kX3_resultOf l D ad cy _ th n E R Z B BR wt rk (upd U i (pAtt (K i) 16 S (nI m9) (U i) wk).2.2.2.1) (wr - pBC (nI m')) (pBC (nI m')) jo ((pAtt (K i) 16 S (nI m9) (U i) wk).2.2.2.2) i (by omega)) (cwV 1 hts gX3_run_X3_resultOf rfl rfl rfl (by decide +kernel) ⟨Nat.le_of_ble_eq_true rfl, Nat.le_of_ble_eq_true rfl⟩) (va_recv hK hP (ci := 3) (q0 := 0) rfl rfl) hK hP hD hS hA rfl hl.1 rfl (Nat.le_of_ble_eq_true rfl) dX3_run_263 ⟨Nat.le_of_ble_eq_true rfl, Nat.le_of_ble_eq_true rfl⟩ (fun H locs hP hD hS => ?_)
          refine lv_ladd hx hb dX3_run_266 ?_
          refine lv_lstore (lv' := [(10, .long (sm + (mRes E i))), (12, .int (nI i)), (5, .int (nI m')), (6, .long ((pAtt (K i) 16 S (nI m9) (U i) wk).2.1)), (8, .int (nI b)), (9, .int (nI nn)), (4, .int (nI bq)), (0, .ref (ad 0))]) hx hb dX3_run_267 hl (by decide) rfl (fun ls hl => ?_)
          refine lv_iinc (v := nI (nn + 1)) (lv' := [(9, .int (nI (nn + 1))), (10, .long (sm + (mRes E i))), (12, .int (nI i)), (5, .int (nI m')), (6, .long ((pAtt (K i) 16 S (nI m9) (U i) wk).2.1)), (8, .int (nI b)), (4, .int (nI bq)), (0, .ref (ad 0))]) hx hb dX3_run_269 hl (k := 5) rfl (by exact nI_1 _) (by decide) rfl (fun ls hl => ?_)
          refine lv_iinc (v := nI (i + 1)) (lv' := [(12, .int (nI (i + 1))), (9, .int (nI (nn + 1))), (10, .long (sm + (mRes E i))), (5, .int (nI m')), (6, .long ((pAtt (K i) 16 S (nI m9) (U i) wk).2.1)), (8, .int (nI b)), (4, .int (nI bq)), (0, .ref (ad 0))]) hx hb dX3_run_272 hl (k := 2) rfl (by exact nI_1 _) (by decide) rfl (fun ls hl => ?_)
          refine lv_goto (tgt := 107) hx hb dX3_run_275 (by decide) ?_
          exact ih (i + 1) (pAtt (K i) 16 S (nI m9) (U i) wk).2.1 m' (upd U i (pAtt (K i) 16 S (nI m9) (U i) wk).2.2.2.1) (pAtt (K i) 16 S (nI m9) (U i) wk).2.2.2.2 (sm + mRes E i) (nn + 1) (by omega) hm' h0' kT kF H locs hP hD hS ls (lv_sub hl [0, 3, 4, 5, 1, 2, 6, 7] rfl)
        · rw [show pBt K B (nI b) (f + 1) i (S, nI m9, U, wk) = (false, (pSh K i (S, nI m9, U, wk)).2) from (if_pos c125).trans (if_neg (fun h => by rw [show (pSh K i (S, nI m9, U, wk)).1 = (pAtt (K i) 16 S (nI m9) (U i) wk).1 from rfl, hF] at h; cases h))] at kF
          exact kF rfl H locs hP hD hS ls hl
      · rw [show pBt K B (nI b) (f + 1) i (S, nI m9, U, wk) = pBt K B (nI b) f (i + 1) (S, nI m9, U, wk) from if_neg c125] at kT kF
        rw [show mSmF E B (nI b) (f + 1) i sm = mSmF E B (nI b) f (i + 1) sm from if_neg c125, show mCtF B (nI b) (f + 1) i nn = mCtF B (nI b) f (i + 1) nn from if_neg c125] at kT
        refine lv_goto (tgt := 272) hx hb dX3_run_128 (by decide) ?_
        refine lv_iinc (v := nI (i + 1)) (lv' := [(12, .int (nI (i + 1))), (5, .int (nI m9)), (6, .long S), (8, .int (nI b)), (9, .int (nI nn)), (10, .long sm), (4, .int (nI bq)), (0, .ref (ad 0))]) hx hb dX3_run_272 hl (k := 0) rfl (by exact nI_1 _) (by decide) rfl (fun ls hl => ?_)
        refine lv_goto (tgt := 107) hx hb dX3_run_275 (by decide) ?_
        exact ih (i + 1) S m9 U wk sm nn (by omega) hm h0 kT kF H locs hP hD hS ls (lv_sub hl [0, 1, 2, 3, 4, 5, 6, 7] rfl)

set_option maxHeartbeats 4000000 in
set_option maxRecDepth 100000 in
theorem lk_bt {p : Program} {l : Launch} {e : Env} {s : State} {m : MethodId} {args : Array Value} {below : List Frame} {meth : Method} {c : Code} {Q : State → Prop} {A : Nat → Prop} {D : va_G} {ad : Nat → Nat} {cy : Nat → ClassId} (F : CallFix p m c cX3_run 15 s args wsX3_run RX3) (hA : ∀ q, s.heap.size ≤ q → A q) (hK : va_K D vwCl (mT cy) s) (th : Int32) (n : Nat) (E : Nat → Int64) (R : Nat → Int32) (Z : Nat → Int32) (B : Nat → Int32) (BR : Nat → Int64) (wt : Nat) (rk : Nat → Int32) (jo : Int64) (K : Nat → Int32) (wr : Int32) (d bq : Nat) (hn : n ≤ 40) (hBK : ∀ kk w9, kk < n → w9 < 16 → ((BR w9 >>> ((nI kk).toInt64 &&& 63)) &&& 1 = 0 ↔ K kk &&& pBit (nI w9) = 0)) (hd : d ≤ bq) (hbq : bq ≤ 40) (hst : ∀ b, b < d → pSt B Z (nI b) n = 0) (hend : d = bq ∨ ¬ pSt B Z (nI d) n = 0) : ∀ (f : Nat) (b : Nat) (S : Int64) (m9 : Nat) (U : Nat → Int32) (wk : Int64) (sm : Int64) (nn : Nat), b + f = d → (m9 < 65536) → (¬ pBC (nI m9) = 0) → ((pRn K B n f b (S, nI m9, U, wk)).1 = true → ∀ (H : Heap) (locs : List Loc), va_P D vwCl (mW ad cy th n E R Z B BR wt rk ((pRn K B n f b (S, nI m9, U, wk)).2.2.2.1) (wr - pBC (pRn K B n f b (S, nI m9, U, wk)).2.2.1) (pBC (pRn K B n f b (S, nI m9, U, wk)).2.2.1) jo ((pRn K B n f b (S, nI m9, U, wk)).2.2.2.2)) H → va_D A (mW ad cy th n E R Z B BR wt rk ((pRn K B n f b (S, nI m9, U, wk)).2.2.2.1) (wr - pBC (pRn K B n f b (S, nI m9, U, wk)).2.2.1) (pBC (pRn K B n f b (S, nI m9, U, wk)).2.2.1) jo ((pRn K B n f b (S, nI m9, U, wk)).2.2.2.2)) → va_S A s.heap H locs → ∀ ls : Array Slot, lv_has ls 15 [(8, .int (nI d)), (9, .int (nI (mCtR B n f b nn))), (10, .long (mSmR E B n f b sm)), (0, .ref (ad 0))] → W p l e ({ frames := 2, cells := 0, slots := 0, locals := 60 }) s m args below meth c H locs 0 0 Q (F0 m 284 ls [])) → ((pRn K B n f b (S, nI m9, U, wk)).1 = false → ∀ (H : Heap) (locs : List Loc), va_P D vwCl (mW ad cy th n E R Z B BR wt rk ((pRn K B n f b (S, nI m9, U, wk)).2.2.2.1) (wr - pBC (pRn K B n f b (S, nI m9, U, wk)).2.2.1) (pBC (pRn K B n f b (S, nI m9, U, wk)).2.2.1) jo ((pRn K B n f b (S, nI m9, U, wk)).2.2.2.2)) H → va_D A (mW ad cy th n E R Z B BR wt rk ((pRn K B n f b (S, nI m9, U, wk)).2.2.2.1) (wr - pBC (pRn K B n f b (S, nI m9, U, wk)).2.2.1) (pBC (pRn K B n f b (S, nI m9, U, wk)).2.2.1) jo ((pRn K B n f b (S, nI m9, U, wk)).2.2.2.2)) → va_S A s.heap H locs → ∀ ls : Array Slot, lv_has ls 15 [] → W p l e ({ frames := 2, cells := 0, slots := 0, locals := 60 }) s m args below meth c H locs 0 0 Q (F0 m 253 ls [])) → ∀ (H : Heap) (locs : List Loc), va_P D vwCl (mW ad cy th n E R Z B BR wt rk U (wr - pBC (nI m9)) (pBC (nI m9)) jo wk) H → va_D A (mW ad cy th n E R Z B BR wt rk U (wr - pBC (nI m9)) (pBC (nI m9)) jo wk) → va_S A s.heap H locs → ∀ ls : Array Slot, lv_has ls 15 [(8, .int (nI b)), (9, .int (nI nn)), (10, .long sm), (5, .int (nI m9)), (6, .long S), (4, .int (nI bq)), (0, .ref (ad 0))] → W p l e ({ frames := 2, cells := 0, slots := 0, locals := 60 }) s m args below meth c H locs 0 0 Q (F0 m 88 ls []) := by
  obtain ⟨hx, hb, hml, hown, hts⟩ := id F
  intro f
  induction f with
  | zero =>
    intro b S m9 U wk sm nn hk hm h0 kT kF
    intro H locs hP hD hS ls hl
    obtain rfl : b = d := by omega
    refine lv_iload hx hb dX3_run_88 (lv_at hl 0 rfl) ?_
    refine lv_iload hx hb dX3_run_90 (lv_at hl 5 rfl) ?_
    refine zb_ge (a := b) (b := bq) (tgt := 284) hx hb dX3_run_92 (by decide) (by omega) (by omega) (fun c92 => ?_) (fun c92 => ?_)
    · exact kT rfl H locs hP hD hS ls (lv_sub hl [0, 1, 2, 6] rfl)
    · refine lv_aload_n hx hb dX3_run_95 rfl (lv_at hl 6 rfl) ?_
      refine lv_iload hx hb dX3_run_96 (lv_at hl 0 rfl) ?_
      refine zcV_i (As := [.int (nI b)]) (rest := []) F (kX3_isStopped l D ad cy _ th n E R Z B BR wt rk U (wr - pBC (nI m9)) (pBC (nI m9)) jo wk (nI b) hn) (cwV 1 hts gX3_run_X3_isStopped rfl rfl rfl (by decide +kernel) ⟨Nat.le_of_ble_eq_true rfl, Nat.le_of_ble_eq_true rfl⟩) (va_recv hK hP (ci := 3) (q0 := 0) rfl rfl) hK hP hD hS hA rfl hl.1 rfl (Nat.le_of_ble_eq_true rfl) dX3_run_98 ⟨Nat.le_of_ble_eq_true rfl, Nat.le_of_ble_eq_true rfl⟩ (fun H locs hP hD hS => ?_)
      refine lv_if_ne (tgt := 284) hx hb dX3_run_101 (by decide) (fun c101 => ?_) (fun c101 => ?_)
      · exact kT rfl H locs hP hD hS ls (lv_sub hl [0, 1, 2, 6] rfl)
      · exact absurd c101 (hend.resolve_left (by omega))
  | succ f ih =>
    intro b S m9 U wk sm nn hk hm h0 kT kF H locs hP hD hS ls hl
    refine lv_iload hx hb dX3_run_88 (lv_at hl 0 rfl) ?_
    refine lv_iload hx hb dX3_run_90 (lv_at hl 5 rfl) ?_
    refine zb_ge (a := b) (b := bq) (tgt := 284) hx hb dX3_run_92 (by decide) (by omega) (by omega) (fun c92 => ?_) (fun c92 => ?_)
    · exact absurd c92 (by omega)
    · refine lv_aload_n hx hb dX3_run_95 rfl (lv_at hl 6 rfl) ?_
      refine lv_iload hx hb dX3_run_96 (lv_at hl 0 rfl) ?_
      refine zcV_i (As := [.int (nI b)]) (rest := []) F (kX3_isStopped l D ad cy _ th n E R Z B BR wt rk U (wr - pBC (nI m9)) (pBC (nI m9)) jo wk (nI b) hn) (cwV 1 hts gX3_run_X3_isStopped rfl rfl rfl (by decide +kernel) ⟨Nat.le_of_ble_eq_true rfl, Nat.le_of_ble_eq_true rfl⟩) (va_recv hK hP (ci := 3) (q0 := 0) rfl rfl) hK hP hD hS hA rfl hl.1 rfl (Nat.le_of_ble_eq_true rfl) dX3_run_98 ⟨Nat.le_of_ble_eq_true rfl, Nat.le_of_ble_eq_true rfl⟩ (fun H locs hP hD hS => ?_)
      refine z_topi (y := 0) (hst b (by omega)) ?_
      refine lv_if_ne (tgt := 284) hx hb dX3_run_101 (by decide) (fun c101 => ?_) (fun c101 => ?_)
      · exact absurd rfl c101
      · refine lv_iconst (v := nI 0) hx hb dX3_run_104 (by decide) ?_
        refine lv_istore (lv' := [(12, .int (nI 0)), (8, .int (nI b)), (9, .int (nI nn)), (10, .long sm), (5, .int (nI m9)), (6, .long S), (4, .int (nI bq)), (0, .ref (ad 0))]) hx hb dX3_run_105 hl (by decide) rfl (fun ls hl => ?_)
        refine lk_sh F hA hK th n E R Z B BR wt rk jo K wr b bq hn hBK n 0 S m9 U wk sm nn (by omega) hm h0 (fun hT H locs hP hD hS ls hl => ?_) (fun hF H locs hP hD hS ls hl => ?_) H locs hP hD hS ls (lv_sub hl [0, 4, 5, 1, 2, 3, 6, 7] rfl)
        · obtain ⟨m', em, hm', h0'⟩ := bt_ok n 0 S m9 U wk hm h0 hT
          have e9 : pRn K B n (f + 1) b (S, nI m9, U, wk) = pRn K B n f (b + 1) ((pBt K B (nI b) n 0 (S, nI m9, U, wk)).2.1, nI m', (pBt K B (nI b) n 0 (S, nI m9, U, wk)).2.2.2.1, (pBt K B (nI b) n 0 (S, nI m9, U, wk)).2.2.2.2) := by
            rw [← em]; exact if_pos hT
          rw [em] at hP hD hl
          rw [e9] at kT kF
          rw [show mSmR E B n (f + 1) b sm = mSmR E B n f (b + 1) (mSmF E B (nI b) n 0 sm) from rfl, show mCtR B n (f + 1) b nn = mCtR B n f (b + 1) (mCtF B (nI b) n 0 nn) from rfl] at kT
          refine lv_iinc (v := nI (b + 1)) (lv' := [(8, .int (nI (b + 1))), (9, .int (nI (mCtF B (nI b) n 0 nn))), (10, .long (mSmF E B (nI b) n 0 sm)), (5, .int (nI m')), (6, .long ((pBt K B (nI b) n 0 (S, nI m9, U, wk)).2.1)), (4, .int (nI bq)), (0, .ref (ad 0))]) hx hb dX3_run_278 hl (k := 0) rfl (by exact nI_1 _) (by decide) rfl (fun ls hl => ?_)
          refine lv_goto (tgt := 88) hx hb dX3_run_281 (by decide) ?_
          exact ih (b + 1) _ m' _ _ _ _ (by omega) hm' h0' kT kF H locs hP hD hS ls (lv_sub hl [0, 1, 2, 3, 4, 5, 6] rfl)
        · rw [show pRn K B n (f + 1) b (S, nI m9, U, wk) = (false, (pBt K B (nI b) n 0 (S, nI m9, U, wk)).2) from if_neg (by rw [hF]; decide)] at kF
          exact kF rfl H locs hP hD hS ls hl

set_option maxHeartbeats 4000000 in
set_option maxRecDepth 100000 in
theorem lk_zero {p : Program} {l : Launch} {e : Env} {s : State} {m : MethodId} {args : Array Value} {below : List Frame} {meth : Method} {c : Code} {Q : State → Prop} {A : Nat → Prop} {D : va_G} {ad : Nat → Nat} {cy : Nat → ClassId} (F : CallFix p m c cX3_run 15 s args wsX3_run RX3) (hA : ∀ q, s.heap.size ≤ q → A q) (hK : va_K D vwCl (mT cy) s) (th : Int32) (n : Nat) (E : Nat → Int64) (R : Nat → Int32) (Z : Nat → Int32) (B : Nat → Int32) (BR : Nat → Int64) (wt : Nat) (rk : Nat → Int32) (U : Nat → Int32) (br : Int32) (lc : Int32) (jo : Int64) (wk : Int64) (bq uw : Nat) (sd : Int64) : ∀ (f : Nat) (i : Nat), i + f = 40 → (∀ (H : Heap) (locs : List Loc), va_P D vwCl (mW ad cy th n E R Z B BR wt rk (pZr U 40) br lc jo wk) H → va_D A (mW ad cy th n E R Z B BR wt rk (pZr U 40) br lc jo wk) → va_S A s.heap H locs → ∀ ls : Array Slot, lv_has ls 15 [(4, .int (nI bq)), (0, .ref (ad 0)), (1, .int (nI uw)), (2, .long sd)] → W p l e ({ frames := 2, cells := 0, slots := 0, locals := 60 }) s m args below meth c H locs 0 0 Q (F0 m 59 ls [])) → ∀ (H : Heap) (locs : List Loc), va_P D vwCl (mW ad cy th n E R Z B BR wt rk (pZr U i) br lc jo wk) H → va_D A (mW ad cy th n E R Z B BR wt rk (pZr U i) br lc jo wk) → va_S A s.heap H locs → ∀ ls : Array Slot, lv_has ls 15 [(5, .int (nI i)), (4, .int (nI bq)), (0, .ref (ad 0)), (1, .int (nI uw)), (2, .long sd)] → W p l e ({ frames := 2, cells := 0, slots := 0, locals := 60 }) s m args below meth c H locs 0 0 Q (F0 m 38 ls []) := by
  obtain ⟨hx, hb, hml, hown, hts⟩ := id F
  have hinX3 : ∀ w ∈ wsX30, w ∈ wsX3_run := by decide +kernel
  have hf_30 := hts (.fieldLink RX3 30 "RegionSharesModel" "begun" "[I") (by decide +kernel)
  intro f
  induction f with
  | zero =>
    intro i hk kT
    intro H locs hP hD hS ls hl
    refine lv_iload hx hb dX3_run_38 (lv_at hl 0 rfl) ?_
    refine lv_bipush (v := nI 40) hx hb dX3_run_40 (by decide) ?_
    refine zb_ge (a := i) (b := 40) (tgt := 59) hx hb dX3_run_42 (by decide) (by omega) (by omega) (fun c42 => ?_) (fun c42 => ?_)
    · obtain rfl : i = 40 := by omega
      exact kT H locs hP hD hS ls (lv_sub hl [1, 2, 3, 4] rfl)
    · exact absurd c42 (by omega)
  | succ f ih =>
    intro i hk kT H locs hP hD hS ls hl
    refine lv_iload hx hb dX3_run_38 (lv_at hl 0 rfl) ?_
    refine lv_bipush (v := nI 40) hx hb dX3_run_40 (by decide) ?_
    refine zb_ge (a := i) (b := 40) (tgt := 59) hx hb dX3_run_42 (by decide) (by omega) (by omega) (fun c42 => ?_) (fun c42 => ?_)
    · exact absurd c42 (by omega)
    · refine lv_aload_n hx hb dX3_run_45 rfl (lv_at hl 2 rfl) ?_
      refine va_get (D := D) (ci := 3) (v := .ref (ad 7)) (C := RX3) (T := TX3) (N := 14) hx hb hts hinX3 hown hK hP 0 rfl rfl 9 (by decide) hf_30 (fun _ h9 => h9) rfl dX3_run_46 ?_
      refine lv_iload hx hb dX3_run_49 (lv_at hl 0 rfl) ?_
      refine lv_iconst (v := 0) hx hb dX3_run_51 (by decide) ?_
      refine ax_ist hx hb hK hP hD hS 7 6 rfl rfl (by omega) (by omega) dX3_run_52 (fun H locs hP hD hS => ?_)
      have hP : va_P D vwCl (mW ad cy th n E R Z B BR wt rk (upd (pZr U i) i 0) br lc jo wk) H := hP
      have hD : va_D A (mW ad cy th n E R Z B BR wt rk (upd (pZr U i) i 0) br lc jo wk) := hD
      refine lv_iinc (v := nI (i + 1)) (lv' := [(5, .int (nI (i + 1))), (4, .int (nI bq)), (0, .ref (ad 0)), (1, .int (nI uw)), (2, .long sd)]) hx hb dX3_run_53 hl (k := 0) rfl (by exact nI_1 _) (by decide) rfl (fun ls hl => ?_)
      refine lv_goto (tgt := 38) hx hb dX3_run_56 (by decide) ?_
      rw [pZr_s] at hP hD
      exact ih (i + 1) (by omega) kT H locs hP hD hS ls (lv_sub hl [0, 1, 2, 3, 4] rfl)

set_option maxHeartbeats 4000000 in
set_option maxRecDepth 100000 in
theorem kX3_run1 (l : Launch) (D : va_G) (ad : Nat → Nat) (cy : Nat → ClassId) (sz : Nat) (th : Int32) (n : Nat) (E : Nat → Int64) (R : Nat → Int32) (Z : Nat → Int32) (B : Nat → Int32) (BR : Nat → Int64) (wt : Nat) (rk : Nat → Int32) (U : Nat → Int32) (br : Int32) (lc : Int32) (jo : Int64) (wk : Int64) (uw : Nat) (sd : Int64) (hu1 : 1 ≤ uw) (hu2 : uw ≤ 16) (K : Nat → Int32) (d : Nat) (hn : n ≤ 40) (hBK : ∀ kk w9, kk < n → w9 < 16 → ((BR w9 >>> ((nI kk).toInt64 &&& 63)) &&& 1 = 0 ↔ K kk &&& pBit (nI w9) = 0)) (hd : d ≤ (mFb R B n).2) (hst : ∀ b, b < d → pSt (mFb R B n).1 Z (nI b) n = 0) (hend : d = (mFb R B n).2 ∨ ¬ pSt (mFb R B n).1 Z (nI d) n = 0) (hw : wt ≤ 20) (hT : (pRn K (mFb R B n).1 n d 0 (sd, nI (2 ^ uw - 1), pZr U 40, wk)).1 = true) : mI l yX3_run wsX3_run ({ frames := 2, cells := 0, slots := 0, locals := 60 }) [.ref (ad 0), .int (nI uw), .long sd] D (mT cy) (mW ad cy th n E R Z B BR wt rk U br lc jo wk) sz (nI (mCtR (mFb R B n).1 n d 0 0)) (mW ad cy 0 n E R Z ((mFb R B n).1) BR ((mLet d (rk, wt, (pRn K (mFb R B n).1 n d 0 (sd, nI (2 ^ uw - 1), pZr U 40, wk)).2.2.2.2)).2.1) ((mLet d (rk, wt, (pRn K (mFb R B n).1 n d 0 (sd, nI (2 ^ uw - 1), pZr U 40, wk)).2.2.2.2)).1) ((pRn K (mFb R B n).1 n d 0 (sd, nI (2 ^ uw - 1), pZr U 40, wk)).2.2.2.1) (nI uw - pBC (pRn K (mFb R B n).1 n d 0 (sd, nI (2 ^ uw - 1), pZr U 40, wk)).2.2.1) (pBC (pRn K (mFb R B n).1 n d 0 (sd, nI (2 ^ uw - 1), pZr U 40, wk)).2.2.1) (mSmR E (mFb R B n).1 n d 0 0) ((mLet d (rk, wt, (pRn K (mFb R B n).1 n d 0 (sd, nI (2 ^ uw - 1), pZr U 40, wk)).2.2.2.2)).2.2)) 0 0 := by
  refine zin (fun A => zQi D (mT cy) (mW ad cy 0 n E R Z ((mFb R B n).1) BR ((mLet d (rk, wt, (pRn K (mFb R B n).1 n d 0 (sd, nI (2 ^ uw - 1), pZr U 40, wk)).2.2.2.2)).2.1) ((mLet d (rk, wt, (pRn K (mFb R B n).1 n d 0 (sd, nI (2 ^ uw - 1), pZr U 40, wk)).2.2.2.2)).1) ((pRn K (mFb R B n).1 n d 0 (sd, nI (2 ^ uw - 1), pZr U 40, wk)).2.2.2.1) (nI uw - pBC (pRn K (mFb R B n).1 n d 0 (sd, nI (2 ^ uw - 1), pZr U 40, wk)).2.2.1) (pBC (pRn K (mFb R B n).1 n d 0 (sd, nI (2 ^ uw - 1), pZr U 40, wk)).2.2.1) (mSmR E (mFb R B n).1 n d 0 0) ((mLet d (rk, wt, (pRn K (mFb R B n).1 n d 0 (sd, nI (2 ^ uw - 1), pZr U 40, wk)).2.2.2.2)).2.2)) (nI (mCtR (mFb R B n).1 n d 0 0)) A) (cc := cX3_run) (maxL := 15) (ret := (some .int)) (own := RX3) (by decide) rfl rfl (Nat.le_of_ble_eq_true rfl) ?_
  intro p e s m below meth c A F hr hlocks hmn hA hK H locs hP hD hS ls hl
  obtain ⟨hx, hb, hml, hown, hts⟩ := id F
  have hl : lv_has ls 15 [(0, .ref (ad 0)), (1, .int (nI uw)), (2, .long sd)] := hl
  have hinX3 : ∀ w ∈ wsX30, w ∈ wsX3_run := by decide +kernel
  have hf_37 := hts (.fieldLink RX3 37 "RegionSharesModel" "thrown" "I") (by decide +kernel)
  have hf_73 := hts (.fieldLink RX3 73 "RegionSharesModel" "broke" "I") (by decide +kernel)
  have hf_76 := hts (.fieldLink RX3 76 "RegionSharesModel" "liveCount" "I") (by decide +kernel)
  have hf_94 := hts (.fieldLink RX3 94 "RegionSharesModel" "joined" "J") (by decide +kernel)
  refine lv_aload_n hx hb dX3_run_0 rfl (lv_at hl 0 rfl) ?_
  refine lv_iload_n hx hb dX3_run_1 rfl (lv_at hl 1 rfl) ?_
  refine lv_iconst (v := nI 1) hx hb dX3_run_2 (by decide) ?_
  refine zb_lt (a := uw) (b := 1) (tgt := 16) hx hb dX3_run_3 (by decide) (by omega) (by omega) (fun c3 => ?_) (fun c3 => ?_)
  · exact absurd c3 (by omega)
  · refine lv_iload_n hx hb dX3_run_6 rfl (lv_at hl 1 rfl) ?_
    refine lv_bipush (v := nI 16) hx hb dX3_run_7 (by decide) ?_
    refine zb_gt (a := uw) (b := 16) (tgt := 16) hx hb dX3_run_9 (by decide) (by omega) (by omega) (fun c9 => ?_) (fun c9 => ?_)
    · exact absurd c9 (by omega)
    · refine lv_iconst (v := 0) hx hb dX3_run_12 (by decide) ?_
      refine lv_goto (tgt := 17) hx hb dX3_run_13 (by decide) ?_
      refine va_put (D := D) (ci := 3) (v := .int 0) (ty := .int) (C := RX3) (T := TX3) (N := 14) hx hb hts hinX3 tyX3 tyX3_ok nmX3 hown hK hP hD hS 0 rfl rfl 0 (by decide) hf_37 (fun _ h9 => h9) rfl (by decide +kernel) rfl rfl (Nat.le_of_ble_eq_true rfl) dX3_run_17 (fun H locs hP hD hS => ?_)
      have hP : va_P D vwCl (mW ad cy 0 n E R Z B BR wt rk U br lc jo wk) H := hP
      have hD : va_D A (mW ad cy 0 n E R Z B BR wt rk U br lc jo wk) := hD
      refine lv_aload_n hx hb dX3_run_20 rfl (lv_at hl 0 rfl) ?_
      refine va_get (D := D) (ci := 3) (v := .int 0) (C := RX3) (T := TX3) (N := 14) hx hb hts hinX3 hown hK hP 0 rfl rfl 0 (by decide) hf_37 (fun _ h9 => h9) rfl dX3_run_21 ?_
      refine lv_if_eq (tgt := 29) hx hb dX3_run_24 (by decide) (fun c24 => ?_) (fun c24 => ?_)
      · refine lv_aload_n hx hb dX3_run_29 rfl (lv_at hl 0 rfl) ?_
        refine zcV_i (As := []) (rest := []) F (kX3_findBatches l D ad cy _ 0 n E R Z B BR wt rk U br lc jo wk hn) (cwV 0 hts gX3_run_X3_findBatches rfl rfl rfl (by decide +kernel) ⟨Nat.le_of_ble_eq_true rfl, Nat.le_of_ble_eq_true rfl⟩) (va_recv hK hP (ci := 3) (q0 := 0) rfl rfl) hK hP hD hS hA rfl hl.1 rfl (Nat.le_of_ble_eq_true rfl) dX3_run_30 ⟨Nat.le_of_ble_eq_true rfl, Nat.le_of_ble_eq_true rfl⟩ (fun H locs hP hD hS => ?_)
        refine lv_istore (lv' := [(4, .int (nI (mFb R B n).2)), (0, .ref (ad 0)), (1, .int (nI uw)), (2, .long sd)]) hx hb dX3_run_33 hl (by decide) rfl (fun ls hl => ?_)
        refine lv_iconst (v := nI 0) hx hb dX3_run_35 (by decide) ?_
        refine lv_istore (lv' := [(5, .int (nI 0)), (4, .int (nI (mFb R B n).2)), (0, .ref (ad 0)), (1, .int (nI uw)), (2, .long sd)]) hx hb dX3_run_36 hl (by decide) rfl (fun ls hl => ?_)
        refine lk_zero F hA hK 0 n E R Z ((mFb R B n).1) BR wt rk U br lc jo wk (mFb R B n).2 uw sd 40 0 (by omega) (fun H locs hP hD hS ls hl => ?_) H locs (by rw [pZr_0]; exact hP) (by rw [pZr_0]; exact hD) hS ls (lv_sub hl [0, 1, 2, 3, 4] rfl)
        · refine lv_aload_n hx hb dX3_run_59 rfl (lv_at hl 1 rfl) ?_
          refine lv_iconst (v := 0) hx hb dX3_run_60 (by decide) ?_
          refine va_put (D := D) (ci := 3) (v := .int 0) (ty := .int) (C := RX3) (T := TX3) (N := 14) hx hb hts hinX3 tyX3 tyX3_ok nmX3 hown hK hP hD hS 0 rfl rfl 10 (by decide) hf_73 (fun _ h9 => h9) rfl (by decide +kernel) rfl rfl (Nat.le_of_ble_eq_true rfl) dX3_run_61 (fun H locs hP hD hS => ?_)
          have hP : va_P D vwCl (mW ad cy 0 n E R Z ((mFb R B n).1) BR wt rk (pZr U 40) 0 lc jo wk) H := hP
          have hD : va_D A (mW ad cy 0 n E R Z ((mFb R B n).1) BR wt rk (pZr U 40) 0 lc jo wk) := hD
          refine lv_aload_n hx hb dX3_run_64 rfl (lv_at hl 1 rfl) ?_
          refine lv_iload_n hx hb dX3_run_65 rfl (lv_at hl 2 rfl) ?_
          refine va_put (D := D) (ci := 3) (v := .int (nI uw)) (ty := .int) (C := RX3) (T := TX3) (N := 14) hx hb hts hinX3 tyX3 tyX3_ok nmX3 hown hK hP hD hS 0 rfl rfl 11 (by decide) hf_76 (fun _ h9 => h9) rfl (by decide +kernel) rfl rfl (Nat.le_of_ble_eq_true rfl) dX3_run_66 (fun H locs hP hD hS => ?_)
          have hP : va_P D vwCl (mW ad cy 0 n E R Z ((mFb R B n).1) BR wt rk (pZr U 40) 0 (nI uw) jo wk) H := hP
          have hD : va_D A (mW ad cy 0 n E R Z ((mFb R B n).1) BR wt rk (pZr U 40) 0 (nI uw) jo wk) := hD
          refine lv_iconst (v := 1) hx hb dX3_run_69 (by decide) ?_
          refine lv_iload_n hx hb dX3_run_70 rfl (lv_at hl 2 rfl) ?_
          refine lv_ishl hx hb dX3_run_71 ?_
          refine z_topi (y := pBit (nI uw)) rfl ?_
          refine lv_iconst (v := 1) hx hb dX3_run_72 (by decide) ?_
          refine lv_isub hx hb dX3_run_73 ?_
          refine z_topi (y := nI (2 ^ uw - 1)) (mask_n uw (by omega) (by omega)).1 ?_
          refine lv_istore (lv' := [(5, .int (nI (2 ^ uw - 1))), (4, .int (nI (mFb R B n).2)), (0, .ref (ad 0)), (1, .int (nI uw)), (2, .long sd)]) hx hb dX3_run_74 hl (by decide) rfl (fun ls hl => ?_)
          refine lv_lload_n hx hb dX3_run_76 rfl (lv_at hl 4 rfl) ?_
          refine lv_lstore (lv' := [(6, .long sd), (5, .int (nI (2 ^ uw - 1))), (4, .int (nI (mFb R B n).2)), (0, .ref (ad 0)), (1, .int (nI uw)), (2, .long sd)]) hx hb dX3_run_77 hl (by decide) rfl (fun ls hl => ?_)
          refine lv_iconst (v := nI 0) hx hb dX3_run_79 (by decide) ?_
          refine lv_istore (lv' := [(8, .int (nI 0)), (6, .long sd), (5, .int (nI (2 ^ uw - 1))), (4, .int (nI (mFb R B n).2)), (0, .ref (ad 0)), (1, .int (nI uw)), (2, .long sd)]) hx hb dX3_run_80 hl (by decide) rfl (fun ls hl => ?_)
          refine lv_iconst (v := nI 0) hx hb dX3_run_82 (by decide) ?_
          refine lv_istore (lv' := [(9, .int (nI 0)), (8, .int (nI 0)), (6, .long sd), (5, .int (nI (2 ^ uw - 1))), (4, .int (nI (mFb R B n).2)), (0, .ref (ad 0)), (1, .int (nI uw)), (2, .long sd)]) hx hb dX3_run_83 hl (by decide) rfl (fun ls hl => ?_)
          refine lv_lconst (v := 0) hx hb dX3_run_85 (by decide) ?_
          refine lv_lstore (lv' := [(10, .long 0), (9, .int (nI 0)), (8, .int (nI 0)), (6, .long sd), (5, .int (nI (2 ^ uw - 1))), (4, .int (nI (mFb R B n).2)), (0, .ref (ad 0)), (1, .int (nI uw)), (2, .long sd)]) hx hb dX3_run_86 hl (by decide) rfl (fun ls hl => ?_)
          have hmk := mask_n uw (by omega) (by omega)
          have eL : pBC (nI (2 ^ uw - 1)) = nI uw := by rw [pBC_cb hmk.2.1, hmk.2.2]
          have hble := mFb_le R B n
          refine lk_bt F hA hK 0 n E R Z ((mFb R B n).1) BR wt rk jo K (nI uw) d (mFb R B n).2 hn hBK hd (by omega) hst hend d 0 sd (2 ^ uw - 1) (pZr U 40) wk 0 0 (by omega) hmk.2.1 (by rw [eL]; exact nI_ne0 (by omega) (by omega)) (fun hT9 H locs hP hD hS ls hl => ?_) (fun hF9 H locs hP hD hS ls hl => ?_) H locs (by rw [eL, Int32.sub_self]; exact hP) (by rw [eL, Int32.sub_self]; exact hD) hS ls (lv_sub hl [2, 1, 0, 4, 3, 5, 6] rfl)
          · refine lv_aload_n hx hb dX3_run_284 rfl (lv_at hl 3 rfl) ?_
            refine lv_lload hx hb dX3_run_285 (lv_at hl 2 rfl) ?_
            refine va_put (D := D) (ci := 3) (v := .long (mSmR E (mFb R B n).1 n d 0 0)) (ty := .long) (C := RX3) (T := TX3) (N := 14) hx hb hts hinX3 tyX3 tyX3_ok nmX3 hown hK hP hD hS 0 rfl rfl 12 (by decide) hf_94 (fun _ h9 => h9) rfl (by decide +kernel) rfl rfl (Nat.le_of_ble_eq_true rfl) dX3_run_287 (fun H locs hP hD hS => ?_)
            have hP : va_P D vwCl (mW ad cy 0 n E R Z ((mFb R B n).1) BR wt rk ((pRn K (mFb R B n).1 n d 0 (sd, nI (2 ^ uw - 1), pZr U 40, wk)).2.2.2.1) (nI uw - pBC (pRn K (mFb R B n).1 n d 0 (sd, nI (2 ^ uw - 1), pZr U 40, wk)).2.2.1) (pBC (pRn K (mFb R B n).1 n d 0 (sd, nI (2 ^ uw - 1), pZr U 40, wk)).2.2.1) (mSmR E (mFb R B n).1 n d 0 0) ((pRn K (mFb R B n).1 n d 0 (sd, nI (2 ^ uw - 1), pZr U 40, wk)).2.2.2.2)) H := hP
            have hD : va_D A (mW ad cy 0 n E R Z ((mFb R B n).1) BR wt rk ((pRn K (mFb R B n).1 n d 0 (sd, nI (2 ^ uw - 1), pZr U 40, wk)).2.2.2.1) (nI uw - pBC (pRn K (mFb R B n).1 n d 0 (sd, nI (2 ^ uw - 1), pZr U 40, wk)).2.2.1) (pBC (pRn K (mFb R B n).1 n d 0 (sd, nI (2 ^ uw - 1), pZr U 40, wk)).2.2.1) (mSmR E (mFb R B n).1 n d 0 0) ((pRn K (mFb R B n).1 n d 0 (sd, nI (2 ^ uw - 1), pZr U 40, wk)).2.2.2.2)) := hD
            refine lv_aload_n hx hb dX3_run_290 rfl (lv_at hl 3 rfl) ?_
            refine lv_iload hx hb dX3_run_291 (lv_at hl 0 rfl) ?_
            refine zcV_v (As := [.int (nI d)]) (rest := []) F (kX3_letIn l D ad cy _ 0 n E R Z ((mFb R B n).1) BR wt rk ((pRn K (mFb R B n).1 n d 0 (sd, nI (2 ^ uw - 1), pZr U 40, wk)).2.2.2.1) (nI uw - pBC (pRn K (mFb R B n).1 n d 0 (sd, nI (2 ^ uw - 1), pZr U 40, wk)).2.2.1) (pBC (pRn K (mFb R B n).1 n d 0 (sd, nI (2 ^ uw - 1), pZr U 40, wk)).2.2.1) (mSmR E (mFb R B n).1 n d 0 0) ((pRn K (mFb R B n).1 n d 0 (sd, nI (2 ^ uw - 1), pZr U 40, wk)).2.2.2.2) d (by have q := mFb_le R B n; omega) hw) (cwV 1 hts gX3_run_X3_letIn rfl rfl rfl (by decide +kernel) ⟨Nat.le_of_ble_eq_true rfl, Nat.le_of_ble_eq_true rfl⟩) (va_recv hK hP (ci := 3) (q0 := 0) rfl rfl) hK hP hD hS hA rfl hl.1 rfl (Nat.le_of_ble_eq_true rfl) dX3_run_293 ⟨Nat.le_of_ble_eq_true rfl, Nat.le_of_ble_eq_true rfl⟩ (fun H locs hP hD hS => ?_)
            refine lv_iload hx hb dX3_run_296 (lv_at hl 1 rfl) ?_
            exact zret_i F hr hlocks hK hP hD hS rfl dX3_run_298
          · exact absurd hF9 (by rw [hT]; decide)
      · exact absurd rfl c24

set_option maxHeartbeats 4000000 in
set_option maxRecDepth 100000 in
theorem kX3_run0 (l : Launch) (D : va_G) (ad : Nat → Nat) (cy : Nat → ClassId) (sz : Nat) (th : Int32) (n : Nat) (E : Nat → Int64) (R : Nat → Int32) (Z : Nat → Int32) (B : Nat → Int32) (BR : Nat → Int64) (wt : Nat) (rk : Nat → Int32) (U : Nat → Int32) (br : Int32) (lc : Int32) (jo : Int64) (wk : Int64) (uw : Nat) (sd : Int64) (hu1 : 1 ≤ uw) (hu2 : uw ≤ 16) (K : Nat → Int32) (d : Nat) (hn : n ≤ 40) (hBK : ∀ kk w9, kk < n → w9 < 16 → ((BR w9 >>> ((nI kk).toInt64 &&& 63)) &&& 1 = 0 ↔ K kk &&& pBit (nI w9) = 0)) (hd : d ≤ (mFb R B n).2) (hst : ∀ b, b < d → pSt (mFb R B n).1 Z (nI b) n = 0) (hend : d = (mFb R B n).2 ∨ ¬ pSt (mFb R B n).1 Z (nI d) n = 0) (hw : wt ≤ 20) (hF : (pRn K (mFb R B n).1 n d 0 (sd, nI (2 ^ uw - 1), pZr U 40, wk)).1 = false) : mI l yX3_run wsX3_run ({ frames := 2, cells := 0, slots := 0, locals := 60 }) [.ref (ad 0), .int (nI uw), .long sd] D (mT cy) (mW ad cy th n E R Z B BR wt rk U br lc jo wk) sz (-1) (mW ad cy 0 n E R Z ((mFb R B n).1) BR wt rk ((pRn K (mFb R B n).1 n d 0 (sd, nI (2 ^ uw - 1), pZr U 40, wk)).2.2.2.1) (nI uw - pBC (pRn K (mFb R B n).1 n d 0 (sd, nI (2 ^ uw - 1), pZr U 40, wk)).2.2.1) (pBC (pRn K (mFb R B n).1 n d 0 (sd, nI (2 ^ uw - 1), pZr U 40, wk)).2.2.1) jo ((pRn K (mFb R B n).1 n d 0 (sd, nI (2 ^ uw - 1), pZr U 40, wk)).2.2.2.2)) 0 0 := by
  refine zin (fun A => zQi D (mT cy) (mW ad cy 0 n E R Z ((mFb R B n).1) BR wt rk ((pRn K (mFb R B n).1 n d 0 (sd, nI (2 ^ uw - 1), pZr U 40, wk)).2.2.2.1) (nI uw - pBC (pRn K (mFb R B n).1 n d 0 (sd, nI (2 ^ uw - 1), pZr U 40, wk)).2.2.1) (pBC (pRn K (mFb R B n).1 n d 0 (sd, nI (2 ^ uw - 1), pZr U 40, wk)).2.2.1) jo ((pRn K (mFb R B n).1 n d 0 (sd, nI (2 ^ uw - 1), pZr U 40, wk)).2.2.2.2)) (-1) A) (cc := cX3_run) (maxL := 15) (ret := (some .int)) (own := RX3) (by decide) rfl rfl (Nat.le_of_ble_eq_true rfl) ?_
  intro p e s m below meth c A F hr hlocks hmn hA hK H locs hP hD hS ls hl
  obtain ⟨hx, hb, hml, hown, hts⟩ := id F
  have hl : lv_has ls 15 [(0, .ref (ad 0)), (1, .int (nI uw)), (2, .long sd)] := hl
  have hinX3 : ∀ w ∈ wsX30, w ∈ wsX3_run := by decide +kernel
  have hf_37 := hts (.fieldLink RX3 37 "RegionSharesModel" "thrown" "I") (by decide +kernel)
  have hf_73 := hts (.fieldLink RX3 73 "RegionSharesModel" "broke" "I") (by decide +kernel)
  have hf_76 := hts (.fieldLink RX3 76 "RegionSharesModel" "liveCount" "I") (by decide +kernel)
  refine lv_aload_n hx hb dX3_run_0 rfl (lv_at hl 0 rfl) ?_
  refine lv_iload_n hx hb dX3_run_1 rfl (lv_at hl 1 rfl) ?_
  refine lv_iconst (v := nI 1) hx hb dX3_run_2 (by decide) ?_
  refine zb_lt (a := uw) (b := 1) (tgt := 16) hx hb dX3_run_3 (by decide) (by omega) (by omega) (fun c3 => ?_) (fun c3 => ?_)
  · exact absurd c3 (by omega)
  · refine lv_iload_n hx hb dX3_run_6 rfl (lv_at hl 1 rfl) ?_
    refine lv_bipush (v := nI 16) hx hb dX3_run_7 (by decide) ?_
    refine zb_gt (a := uw) (b := 16) (tgt := 16) hx hb dX3_run_9 (by decide) (by omega) (by omega) (fun c9 => ?_) (fun c9 => ?_)
    · exact absurd c9 (by omega)
    · refine lv_iconst (v := 0) hx hb dX3_run_12 (by decide) ?_
      refine lv_goto (tgt := 17) hx hb dX3_run_13 (by decide) ?_
      refine va_put (D := D) (ci := 3) (v := .int 0) (ty := .int) (C := RX3) (T := TX3) (N := 14) hx hb hts hinX3 tyX3 tyX3_ok nmX3 hown hK hP hD hS 0 rfl rfl 0 (by decide) hf_37 (fun _ h9 => h9) rfl (by decide +kernel) rfl rfl (Nat.le_of_ble_eq_true rfl) dX3_run_17 (fun H locs hP hD hS => ?_)
      have hP : va_P D vwCl (mW ad cy 0 n E R Z B BR wt rk U br lc jo wk) H := hP
      have hD : va_D A (mW ad cy 0 n E R Z B BR wt rk U br lc jo wk) := hD
      refine lv_aload_n hx hb dX3_run_20 rfl (lv_at hl 0 rfl) ?_
      refine va_get (D := D) (ci := 3) (v := .int 0) (C := RX3) (T := TX3) (N := 14) hx hb hts hinX3 hown hK hP 0 rfl rfl 0 (by decide) hf_37 (fun _ h9 => h9) rfl dX3_run_21 ?_
      refine lv_if_eq (tgt := 29) hx hb dX3_run_24 (by decide) (fun c24 => ?_) (fun c24 => ?_)
      · refine lv_aload_n hx hb dX3_run_29 rfl (lv_at hl 0 rfl) ?_
        refine zcV_i (As := []) (rest := []) F (kX3_findBatches l D ad cy _ 0 n E R Z B BR wt rk U br lc jo wk hn) (cwV 0 hts gX3_run_X3_findBatches rfl rfl rfl (by decide +kernel) ⟨Nat.le_of_ble_eq_true rfl, Nat.le_of_ble_eq_true rfl⟩) (va_recv hK hP (ci := 3) (q0 := 0) rfl rfl) hK hP hD hS hA rfl hl.1 rfl (Nat.le_of_ble_eq_true rfl) dX3_run_30 ⟨Nat.le_of_ble_eq_true rfl, Nat.le_of_ble_eq_true rfl⟩ (fun H locs hP hD hS => ?_)
        refine lv_istore (lv' := [(4, .int (nI (mFb R B n).2)), (0, .ref (ad 0)), (1, .int (nI uw)), (2, .long sd)]) hx hb dX3_run_33 hl (by decide) rfl (fun ls hl => ?_)
        refine lv_iconst (v := nI 0) hx hb dX3_run_35 (by decide) ?_
        refine lv_istore (lv' := [(5, .int (nI 0)), (4, .int (nI (mFb R B n).2)), (0, .ref (ad 0)), (1, .int (nI uw)), (2, .long sd)]) hx hb dX3_run_36 hl (by decide) rfl (fun ls hl => ?_)
        refine lk_zero F hA hK 0 n E R Z ((mFb R B n).1) BR wt rk U br lc jo wk (mFb R B n).2 uw sd 40 0 (by omega) (fun H locs hP hD hS ls hl => ?_) H locs (by rw [pZr_0]; exact hP) (by rw [pZr_0]; exact hD) hS ls (lv_sub hl [0, 1, 2, 3, 4] rfl)
        · refine lv_aload_n hx hb dX3_run_59 rfl (lv_at hl 1 rfl) ?_
          refine lv_iconst (v := 0) hx hb dX3_run_60 (by decide) ?_
          refine va_put (D := D) (ci := 3) (v := .int 0) (ty := .int) (C := RX3) (T := TX3) (N := 14) hx hb hts hinX3 tyX3 tyX3_ok nmX3 hown hK hP hD hS 0 rfl rfl 10 (by decide) hf_73 (fun _ h9 => h9) rfl (by decide +kernel) rfl rfl (Nat.le_of_ble_eq_true rfl) dX3_run_61 (fun H locs hP hD hS => ?_)
          have hP : va_P D vwCl (mW ad cy 0 n E R Z ((mFb R B n).1) BR wt rk (pZr U 40) 0 lc jo wk) H := hP
          have hD : va_D A (mW ad cy 0 n E R Z ((mFb R B n).1) BR wt rk (pZr U 40) 0 lc jo wk) := hD
          refine lv_aload_n hx hb dX3_run_64 rfl (lv_at hl 1 rfl) ?_
          refine lv_iload_n hx hb dX3_run_65 rfl (lv_at hl 2 rfl) ?_
          refine va_put (D := D) (ci := 3) (v := .int (nI uw)) (ty := .int) (C := RX3) (T := TX3) (N := 14) hx hb hts hinX3 tyX3 tyX3_ok nmX3 hown hK hP hD hS 0 rfl rfl 11 (by decide) hf_76 (fun _ h9 => h9) rfl (by decide +kernel) rfl rfl (Nat.le_of_ble_eq_true rfl) dX3_run_66 (fun H locs hP hD hS => ?_)
          have hP : va_P D vwCl (mW ad cy 0 n E R Z ((mFb R B n).1) BR wt rk (pZr U 40) 0 (nI uw) jo wk) H := hP
          have hD : va_D A (mW ad cy 0 n E R Z ((mFb R B n).1) BR wt rk (pZr U 40) 0 (nI uw) jo wk) := hD
          refine lv_iconst (v := 1) hx hb dX3_run_69 (by decide) ?_
          refine lv_iload_n hx hb dX3_run_70 rfl (lv_at hl 2 rfl) ?_
          refine lv_ishl hx hb dX3_run_71 ?_
          refine z_topi (y := pBit (nI uw)) rfl ?_
          refine lv_iconst (v := 1) hx hb dX3_run_72 (by decide) ?_
          refine lv_isub hx hb dX3_run_73 ?_
          refine z_topi (y := nI (2 ^ uw - 1)) (mask_n uw (by omega) (by omega)).1 ?_
          refine lv_istore (lv' := [(5, .int (nI (2 ^ uw - 1))), (4, .int (nI (mFb R B n).2)), (0, .ref (ad 0)), (1, .int (nI uw)), (2, .long sd)]) hx hb dX3_run_74 hl (by decide) rfl (fun ls hl => ?_)
          refine lv_lload_n hx hb dX3_run_76 rfl (lv_at hl 4 rfl) ?_
          refine lv_lstore (lv' := [(6, .long sd), (5, .int (nI (2 ^ uw - 1))), (4, .int (nI (mFb R B n).2)), (0, .ref (ad 0)), (1, .int (nI uw)), (2, .long sd)]) hx hb dX3_run_77 hl (by decide) rfl (fun ls hl => ?_)
          refine lv_iconst (v := nI 0) hx hb dX3_run_79 (by decide) ?_
          refine lv_istore (lv' := [(8, .int (nI 0)), (6, .long sd), (5, .int (nI (2 ^ uw - 1))), (4, .int (nI (mFb R B n).2)), (0, .ref (ad 0)), (1, .int (nI uw)), (2, .long sd)]) hx hb dX3_run_80 hl (by decide) rfl (fun ls hl => ?_)
          refine lv_iconst (v := nI 0) hx hb dX3_run_82 (by decide) ?_
          refine lv_istore (lv' := [(9, .int (nI 0)), (8, .int (nI 0)), (6, .long sd), (5, .int (nI (2 ^ uw - 1))), (4, .int (nI (mFb R B n).2)), (0, .ref (ad 0)), (1, .int (nI uw)), (2, .long sd)]) hx hb dX3_run_83 hl (by decide) rfl (fun ls hl => ?_)
          refine lv_lconst (v := 0) hx hb dX3_run_85 (by decide) ?_
          refine lv_lstore (lv' := [(10, .long 0), (9, .int (nI 0)), (8, .int (nI 0)), (6, .long sd), (5, .int (nI (2 ^ uw - 1))), (4, .int (nI (mFb R B n).2)), (0, .ref (ad 0)), (1, .int (nI uw)), (2, .long sd)]) hx hb dX3_run_86 hl (by decide) rfl (fun ls hl => ?_)
          have hmk := mask_n uw (by omega) (by omega)
          have eL : pBC (nI (2 ^ uw - 1)) = nI uw := by rw [pBC_cb hmk.2.1, hmk.2.2]
          have hble := mFb_le R B n
          refine lk_bt F hA hK 0 n E R Z ((mFb R B n).1) BR wt rk jo K (nI uw) d (mFb R B n).2 hn hBK hd (by omega) hst hend d 0 sd (2 ^ uw - 1) (pZr U 40) wk 0 0 (by omega) hmk.2.1 (by rw [eL]; exact nI_ne0 (by omega) (by omega)) (fun hT9 H locs hP hD hS ls hl => ?_) (fun hF9 H locs hP hD hS ls hl => ?_) H locs (by rw [eL, Int32.sub_self]; exact hP) (by rw [eL, Int32.sub_self]; exact hD) hS ls (lv_sub hl [2, 1, 0, 4, 3, 5, 6] rfl)
          · exact absurd hT9 (by rw [hF]; decide)
          · refine lv_iconst (v := (-1)) hx hb dX3_run_253 (by decide) ?_
            exact zret_i F hr hlocks hK hP hD hS rfl dX3_run_254
      · exact absurd rfl c24

set_option maxHeartbeats 4000000 in
set_option maxRecDepth 100000 in
theorem kX3_runX (l : Launch) (D : va_G) (ad : Nat → Nat) (cy : Nat → ClassId) (sz : Nat) (th : Int32) (n : Nat) (E : Nat → Int64) (R : Nat → Int32) (Z : Nat → Int32) (B : Nat → Int32) (BR : Nat → Int64) (wt : Nat) (rk : Nat → Int32) (U : Nat → Int32) (br : Int32) (lc : Int32) (jo : Int64) (wk : Int64) (x : Int32) (sd : Int64) (hxo : x < nI 1 ∨ nI 16 < x) : mI l yX3_run wsX3_run ({ frames := 2, cells := 0, slots := 0, locals := 60 }) [.ref (ad 0), .int x, .long sd] D (mT cy) (mW ad cy th n E R Z B BR wt rk U br lc jo wk) sz 0 (mW ad cy 1 n E R Z B BR wt rk U br lc jo wk) 0 0 := by
  refine zin (fun A => zQi D (mT cy) (mW ad cy 1 n E R Z B BR wt rk U br lc jo wk) 0 A) (cc := cX3_run) (maxL := 15) (ret := (some .int)) (own := RX3) (by decide) rfl rfl (Nat.le_of_ble_eq_true rfl) ?_
  intro p e s m below meth c A F hr hlocks hmn hA hK H locs hP hD hS ls hl
  obtain ⟨hx, hb, hml, hown, hts⟩ := id F
  have hl : lv_has ls 15 [(0, .ref (ad 0)), (1, .int x), (2, .long sd)] := hl
  have hinX3 : ∀ w ∈ wsX30, w ∈ wsX3_run := by decide +kernel
  have hf_37 := hts (.fieldLink RX3 37 "RegionSharesModel" "thrown" "I") (by decide +kernel)
  refine lv_aload_n hx hb dX3_run_0 rfl (lv_at hl 0 rfl) ?_
  refine lv_iload_n hx hb dX3_run_1 rfl (lv_at hl 1 rfl) ?_
  refine lv_iconst (v := nI 1) hx hb dX3_run_2 (by decide) ?_
  refine lv_icmp_lt (tgt := 16) hx hb dX3_run_3 (by decide) (fun c3 => ?_) (fun c3 => ?_)
  · refine lv_iconst (v := 1) hx hb dX3_run_16 (by decide) ?_
    refine va_put (D := D) (ci := 3) (v := .int 1) (ty := .int) (C := RX3) (T := TX3) (N := 14) hx hb hts hinX3 tyX3 tyX3_ok nmX3 hown hK hP hD hS 0 rfl rfl 0 (by decide) hf_37 (fun _ h9 => h9) rfl (by decide +kernel) rfl rfl (Nat.le_of_ble_eq_true rfl) dX3_run_17 (fun H locs hP hD hS => ?_)
    have hP : va_P D vwCl (mW ad cy 1 n E R Z B BR wt rk U br lc jo wk) H := hP
    have hD : va_D A (mW ad cy 1 n E R Z B BR wt rk U br lc jo wk) := hD
    refine lv_aload_n hx hb dX3_run_20 rfl (lv_at hl 0 rfl) ?_
    refine va_get (D := D) (ci := 3) (v := .int 1) (C := RX3) (T := TX3) (N := 14) hx hb hts hinX3 hown hK hP 0 rfl rfl 0 (by decide) hf_37 (fun _ h9 => h9) rfl dX3_run_21 ?_
    refine lv_if_eq (tgt := 29) hx hb dX3_run_24 (by decide) (fun c24 => ?_) (fun c24 => ?_)
    · exact absurd c24 (by decide)
    · refine lv_iconst (v := 0) hx hb dX3_run_27 (by decide) ?_
      exact zret_i F hr hlocks hK hP hD hS rfl dX3_run_28
  · refine lv_iload_n hx hb dX3_run_6 rfl (lv_at hl 1 rfl) ?_
    refine lv_bipush (v := nI 16) hx hb dX3_run_7 (by decide) ?_
    refine lv_icmp_gt (tgt := 16) hx hb dX3_run_9 (by decide) (fun c9 => ?_) (fun c9 => ?_)
    · refine lv_iconst (v := 1) hx hb dX3_run_16 (by decide) ?_
      refine va_put (D := D) (ci := 3) (v := .int 1) (ty := .int) (C := RX3) (T := TX3) (N := 14) hx hb hts hinX3 tyX3 tyX3_ok nmX3 hown hK hP hD hS 0 rfl rfl 0 (by decide) hf_37 (fun _ h9 => h9) rfl (by decide +kernel) rfl rfl (Nat.le_of_ble_eq_true rfl) dX3_run_17 (fun H locs hP hD hS => ?_)
      have hP : va_P D vwCl (mW ad cy 1 n E R Z B BR wt rk U br lc jo wk) H := hP
      have hD : va_D A (mW ad cy 1 n E R Z B BR wt rk U br lc jo wk) := hD
      refine lv_aload_n hx hb dX3_run_20 rfl (lv_at hl 0 rfl) ?_
      refine va_get (D := D) (ci := 3) (v := .int 1) (C := RX3) (T := TX3) (N := 14) hx hb hts hinX3 hown hK hP 0 rfl rfl 0 (by decide) hf_37 (fun _ h9 => h9) rfl dX3_run_21 ?_
      refine lv_if_eq (tgt := 29) hx hb dX3_run_24 (by decide) (fun c24 => ?_) (fun c24 => ?_)
      · exact absurd c24 (by decide)
      · refine lv_iconst (v := 0) hx hb dX3_run_27 (by decide) ?_
        exact zret_i F hr hlocks hK hP hD hS rfl dX3_run_28
    · exact absurd (hxo.resolve_left c3) c9
