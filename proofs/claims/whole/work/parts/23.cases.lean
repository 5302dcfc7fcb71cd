/-! the law: its helpers called, its cases, its loop -/
section LH
variable {p : Program} {l : Launch} {e : Env} {R : Room} {s : State} {m : MethodId} {args : Array Value} {below : List Frame} {meth : Method} {c : Code} {H H0 : Heap} {locs : List Loc} {cells slots : Nat} {Q : State → Prop} {pc : Nat} {ls : Array Slot} {rest st0 : List Value} {cc : ByteArray} {nL : Nat} {Ts : List Cond} {own : String} {D : va_G} {tys : zTy} {ws ws' fa : va_W} {A : Nat → Prop} {y : MethodName} {bytes : ByteArray} {maxL n index : Nat} {ret : Option FieldType} {hh : List (Nat × Nat × Nat × Nat)} {wl : List Cond} {rm : Room} {As : List Value} {r : Int32}
theorem zlH_i (F : CallFix p m c cc nL s args Ts own) (hM : mH l y wl rm As D tys ws H.size r ws') (cw : vx_CSW R s args own index y bytes maxL ret hh wl rm 1 6 n) (hK : va_K D vwCl tys s) (hxS : xS s) (hxH : xH A s s.heap) (hP : va_P D vwCl (ws ++ fa) H) (hD : va_D A (ws ++ fa)) (hS : va_S A s.heap H locs) (hA : ∀ q, s.heap.size ≤ q → A q)
    (hn : As.length = n) (hsz : ls.size = nL) (hst : st0 = As.reverse ++ rest) (hW : (rest.map fun v => v.category).sum ≤ 8) (hdg : decode cc pc = .ok (.invokestatic index, 3)) (hf : cells + 1 ≤ R.cells ∧ slots + 6 ≤ R.slots)
    (kk : ∀ (H1 : Heap) (locs1 : List Loc), va_P D vwCl (ws' ++ fa) H1 → va_D A (ws' ++ fa) → va_S A s.heap H1 locs1 → W p l e R s m args below meth c H1 locs1 (cells + 1) (slots + 6) Q (F0 m (pc + 3) ls (.int r :: rest))) : W p l e R s m args below meth c H locs cells slots Q (F0 m pc ls st0) := by
  subst hst
  refine va_calli (vx_runSW F hM cw ⟨xblind, xpre (zP_l hP) hK (zD_l hD) hS hA hxS hxH⟩ rfl hn hsz rfl (lv_room hW) hdg hf) hS (fun q _ h => zfree (zD_l hD) hS hA q h) (zfree (zD_l hD) hS hA) (fun r9 u t H1 locs1 ht hvm hw hB hz1 hk1 hS1 => ?_)
  subst hw
  obtain ⟨hP1, -, hD1⟩ := hB
  rw [ht] at hP1
  obtain ⟨hP2, hD2⟩ := zjoin_l hP hD (zfree (zD_l hD) hS hA) hk1 hP1 hD1
  exact kk H1 locs1 hP2 hD2 hS1
theorem ax_sld {b L : Nat} {xs : Nat → Int32} (hexec : p.tables.exec = Jvm.exec) (hb : c.code = cc) (hX : va_X b L xs s H0) (hbl : b < H0.size) (hbA : ¬ A b) (hS : va_S A H0 H locs) {i : Nat} (hi : i < L) (hL : L < 2 ^ 31) (hdg : decode cc pc = .ok (.iaload, 1))
    (kk : W p l e R s m args below meth c H locs cells slots Q (F0 m (pc + 1) ls (.int (xs i) :: rest))) : W p l e R s m args below meth c H locs cells slots Q (F0 m pc ls (.int (nI i) :: .ref b :: rest)) :=
  va_sld hexec hb hX hbl hbA hS (vp_in_nI hi hL) hdg (by rw [nI_clamp (Nat.lt_trans hi hL)]; exact kk)
end LH
set_option maxHeartbeats 1000000 in
set_option maxRecDepth 100000 in
theorem lc_value {p : Program} {l : Launch} {e : Env} {s : State} {m : MethodId} {below : List Frame} {meth : Method} {c : Code} {Q : State → Prop} {D : va_G} {ad : Nat → Nat} {cy : Nat → ClassId} {ao : Nat} {co : ClassId} {ad2 : Nat → Nat} {cy2 : Nat → ClassId} {b L : Nat} {xs : Nat → Int32} (hlt : l.stackTraces = false) (F : CallFix p m c cL_law 9 s #[Value.ref b] wsL_law RL) (hX : va_X b L xs s s.heap) (hbl : b < s.heap.size) (hxS : xS s) (hxH : xH (fun q => s.heap.size ≤ q) s s.heap) (hKc : va_K D vwCl (cT cy) s) (hKm : va_K D vwCl (mT cy2) s) (hKo : va_K D vwCl (oT co) s) (hL : L ≤ 2049) (t : Nat) (ht : 1 + 4 * t + 3 < L) (σ : CS) (μ : MS) (xo : Nat → Int64) (hR : Rel σ μ) (cells slots : Nat) (hcs : cells + 1 ≤ 655552 ∧ slots + 6 ≤ 7129414) (kk : ∀ (σ3 : CS) (μ3 : MS) (xo3 : Nat → Int64), Rel σ3 μ3 → ∀ (H : Heap) (locs : List Loc), va_P D vwCl ((cWs ad cy σ3 ++ oW ao co xo3) ++ mWs ad2 cy2 μ3) H → va_D (fun q => s.heap.size ≤ q) ((cWs ad cy σ3 ++ oW ao co xo3) ++ mWs ad2 cy2 μ3) → va_S (fun q => s.heap.size ≤ q) s.heap H locs → ∀ ls : Array Slot, lv_has ls 9 [(4, .int (nI (1 + 4 * t))), (0, .ref b), (1, .ref (ad 0)), (2, .ref (ad2 0)), (3, .ref ao)] → W p l e room_1 s m #[Value.ref b] below meth c H locs (cells + 1) (slots + 6) Q (F0 m 821 ls [])) : ∀ (H : Heap) (locs : List Loc), va_P D vwCl ((cWs ad cy σ ++ oW ao co xo) ++ mWs ad2 cy2 μ) H → va_D (fun q => s.heap.size ≤ q) ((cWs ad cy σ ++ oW ao co xo) ++ mWs ad2 cy2 μ) → va_S (fun q => s.heap.size ≤ q) s.heap H locs → ∀ ls : Array Slot, lv_has ls 9 [(4, .int (nI (1 + 4 * t))), (0, .ref b), (1, .ref (ad 0)), (2, .ref (ad2 0)), (3, .ref ao)] → W p l e room_1 s m #[Value.ref b] below meth c H locs (cells) (slots) Q (F0 m 120 ls []) := by
  intro H locs hP hD hS ls hl
  obtain ⟨hx, hb, hml, hown, hts⟩ := id F
  have hbA : ¬ (fun q => s.heap.size ≤ q) b := Nat.not_le.mpr hbl
  obtain ⟨σ2, μ2, xo2, k, bb, hR2, hMc, hMm, hth, hout⟩ := op_value l hlt D ad cy ao co ad2 cy2 σ μ xo (xs (1 + 4 * t + 1)) (xs (1 + 4 * t + 2)) (xs (1 + 4 * t + 3)) hR
  refine lv_aload_n hx hb dL_law_120 rfl (lv_at hl 2 rfl) ?_
  refine lv_aload_n hx hb dL_law_121 rfl (lv_at hl 1 rfl) ?_
  refine lv_iload hx hb dL_law_122 (lv_at hl 0 rfl) ?_
  refine lv_iconst (v := nI 1) hx hb dL_law_124 (by decide) ?_
  refine lv_iadd hx hb dL_law_125 ?_
  refine z_topi (y := nI (1 + 4 * t + 1)) (nI_add _ 1) ?_
  refine ax_sld hx hb hX hbl hbA hS (by omega) (by omega) dL_law_126 ?_
  refine lv_aload_n hx hb dL_law_127 rfl (lv_at hl 1 rfl) ?_
  refine lv_iload hx hb dL_law_128 (lv_at hl 0 rfl) ?_
  refine lv_iconst (v := nI 2) hx hb dL_law_130 (by decide) ?_
  refine lv_iadd hx hb dL_law_131 ?_
  refine z_topi (y := nI (1 + 4 * t + 2)) (nI_add _ 2) ?_
  refine ax_sld hx hb hX hbl hbA hS (by omega) (by omega) dL_law_132 ?_
  refine lv_i2d hx hb dL_law_133 ?_
  refine lv_ldc2d hx hb hown (hts (.constantDouble RL 54 (4593671619917905920)) (by decide +kernel)) dL_law_134 ?_
  refine z_topd (y := Dz 8) dz_0125 ?_
  refine lv_dmul hx hb dL_law_137 (by rw [dz_s8]; exact dz_n64 (by have r1 := (xs (1 + 4 * t + 2)).toInt_lt; have r2 := (xs (1 + 4 * t + 2)).le_toInt; omega)) ?_
  refine z_topd (y := Dz (8 * (xs (1 + 4 * t + 2)).toInt)) (dz_s8 _) ?_
  refine lv_aload_n hx hb dL_law_138 rfl (lv_at hl 4 rfl) ?_
  refine zlH_i (As := [.ref (ad 0), .int (xs (1 + 4 * t + 1)), .double (Dz (8 * (xs (1 + 4 * t + 2)).toInt)), .ref ao]) (rest := []) F (hMc _) (vx_cwSW 4 hts gL_law_L_value rfl rfl rfl (by decide +kernel) ⟨Nat.le_of_ble_eq_true rfl, Nat.le_of_ble_eq_true rfl⟩) (hKc.app hKo) hxS hxH hP hD hS (fun _ h => h) rfl hl.1 rfl (Nat.le_of_ble_eq_true rfl) dL_law_139 ⟨by show _ ≤ 655552; omega, by show _ ≤ 7129414; omega⟩ (fun H locs hP hD hS => ?_)
  refine lv_istore (lv' := [(5, .int k), (4, .int (nI (1 + 4 * t))), (0, .ref b), (1, .ref (ad 0)), (2, .ref (ad2 0)), (3, .ref ao)]) hx hb dL_law_142 hl (by decide) rfl (fun ls hl => ?_)
  refine lv_aload_n hx hb dL_law_144 rfl (lv_at hl 4 rfl) ?_
  refine lv_aload_n hx hb dL_law_145 rfl (lv_at hl 2 rfl) ?_
  refine lv_iload hx hb dL_law_146 (lv_at hl 1 rfl) ?_
  refine lv_iconst (v := nI 1) hx hb dL_law_148 (by decide) ?_
  refine lv_iadd hx hb dL_law_149 ?_
  refine z_topi (y := nI (1 + 4 * t + 1)) (nI_add _ 1) ?_
  refine ax_sld hx hb hX hbl hbA hS (by omega) (by omega) dL_law_150 ?_
  refine lv_aload_n hx hb dL_law_151 rfl (lv_at hl 2 rfl) ?_
  refine lv_iload hx hb dL_law_152 (lv_at hl 1 rfl) ?_
  refine lv_iconst (v := nI 2) hx hb dL_law_154 (by decide) ?_
  refine lv_iadd hx hb dL_law_155 ?_
  refine z_topi (y := nI (1 + 4 * t + 2)) (nI_add _ 2) ?_
  refine ax_sld hx hb hX hbl hbA hS (by omega) (by omega) dL_law_156 ?_
  refine lv_i2d hx hb dL_law_157 ?_
  refine lv_ldc2d hx hb hown (hts (.constantDouble RL 54 (4593671619917905920)) (by decide +kernel)) dL_law_158 ?_
  refine z_topd (y := Dz 8) dz_0125 ?_
  refine lv_dmul hx hb dL_law_161 (by rw [dz_s8]; exact dz_n64 (by have r1 := (xs (1 + 4 * t + 2)).toInt_lt; have r2 := (xs (1 + 4 * t + 2)).le_toInt; omega)) ?_
  refine z_topd (y := Dz (8 * (xs (1 + 4 * t + 2)).toInt)) (dz_s8 _) ?_
  refine zrV_i (As := [.int (xs (1 + 4 * t + 1)), .double (Dz (8 * (xs (1 + 4 * t + 2)).toInt))]) (rest := []) F (hMm _) (cwV 2 hts gL_law_X3_value rfl rfl rfl (by decide +kernel) ⟨Nat.le_of_ble_eq_true rfl, Nat.le_of_ble_eq_true rfl⟩) (va_recv hKm (zP_r hP) (ci := 3) (q0 := 0) rfl rfl) hKm hP hD hS (fun _ h => h) rfl hl.1 rfl (Nat.le_of_ble_eq_true rfl) dL_law_162 ⟨by show _ ≤ 655552; omega, by show _ ≤ 7129414; omega⟩ (fun H locs hP hD hS => ?_)
  refine lv_istore (lv' := [(6, .int bb), (5, .int k), (4, .int (nI (1 + 4 * t))), (0, .ref b), (1, .ref (ad 0)), (2, .ref (ad2 0)), (3, .ref ao)]) hx hb dL_law_165 hl (by decide) rfl (fun ls hl => ?_)
  refine lv_aload_n hx hb dL_law_167 rfl (lv_at hl 5 rfl) ?_
  refine zrV_i (As := []) (rest := []) F (kX3_thrown l D ad2 cy2 _ μ2.1 μ2.2.1 μ2.2.2.1 μ2.2.2.2.1 μ2.2.2.2.2.1 μ2.2.2.2.2.2.1 μ2.2.2.2.2.2.2.1 μ2.2.2.2.2.2.2.2.1 μ2.2.2.2.2.2.2.2.2.1 μ2.2.2.2.2.2.2.2.2.2.1 μ2.2.2.2.2.2.2.2.2.2.2.1 μ2.2.2.2.2.2.2.2.2.2.2.2.1 μ2.2.2.2.2.2.2.2.2.2.2.2.2.1 μ2.2.2.2.2.2.2.2.2.2.2.2.2.2) (cwV 0 hts gL_law_X3_thrown rfl rfl rfl (by decide +kernel) ⟨Nat.le_of_ble_eq_true rfl, Nat.le_of_ble_eq_true rfl⟩) (va_recv hKm (zP_r hP) (ci := 3) (q0 := 0) rfl rfl) hKm hP hD hS (fun _ h => h) rfl hl.1 rfl (Nat.le_of_ble_eq_true rfl) dL_law_168 ⟨by show _ ≤ 655552; omega, by show _ ≤ 7129414; omega⟩ (fun H locs hP hD hS => ?_)
  refine z_topi (y := k) hth ?_
  refine lv_iload hx hb dL_law_171 (lv_at hl 1 rfl) ?_
  refine lv_icmp_eq (tgt := 178) hx hb dL_law_173 (by decide) (fun c173 => ?_) (fun c173 => ?_)
  · refine lv_iload hx hb dL_law_178 (lv_at hl 1 rfl) ?_
    refine lv_if_ne (tgt := 202) hx hb dL_law_180 (by decide) (fun c180 => ?_) (fun c180 => ?_)
    · refine lv_goto (tgt := 821) hx hb dL_law_202 (by decide) ?_
      exact kk _ _ _ hR2 H locs hP hD hS ls (lv_sub hl [2, 3, 4, 5, 6] rfl)
    · refine lv_aload_n hx hb dL_law_183 rfl (lv_at hl 6 rfl) ?_
      refine lv_iconst (v := nI 0) hx hb dL_law_184 (by decide) ?_
      refine ax_lld hx hb hKo hP 11 0 rfl rfl (by omega) (by omega) dL_law_185 ?_
      refine lv_iload hx hb dL_law_186 (lv_at hl 0 rfl) ?_
      refine lv_if_eq (tgt := 195) hx hb dL_law_188 (by decide) (fun c188 => ?_) (fun c188 => ?_)
      · refine lv_lconst (v := 0) hx hb dL_law_195 (by decide) ?_
        refine W.lcmp hx hb dL_law_196 ?_
        refine lv_if_eq (tgt := 202) hx hb dL_law_197 (by decide) (fun c197 => ?_) (fun c197 => ?_)
        · refine lv_goto (tgt := 821) hx hb dL_law_202 (by decide) ?_
          exact kk _ _ _ hR2 H locs hP hD hS ls (lv_sub hl [2, 3, 4, 5, 6] rfl)
        · exact absurd (lgc0.mpr ((hout c180).trans (by first | rw [if_pos c188] | rw [if_neg c188]))) c197
      · refine lv_lconst (v := 1) hx hb dL_law_191 (by decide) ?_
        refine lv_goto (tgt := 196) hx hb dL_law_192 (by decide) ?_
        refine W.lcmp hx hb dL_law_196 ?_
        refine lv_if_eq (tgt := 202) hx hb dL_law_197 (by decide) (fun c197 => ?_) (fun c197 => ?_)
        · refine lv_goto (tgt := 821) hx hb dL_law_202 (by decide) ?_
          exact kk _ _ _ hR2 H locs hP hD hS ls (lv_sub hl [2, 3, 4, 5, 6] rfl)
        · exact absurd (lgc0.mpr ((hout c180).trans (by first | rw [if_pos c188] | rw [if_neg c188]))) c197
  · exact absurd rfl c173

set_option maxHeartbeats 1000000 in
set_option maxRecDepth 100000 in
theorem lc_touches {p : Program} {l : Launch} {e : Env} {s : State} {m : MethodId} {below : List Frame} {meth : Method} {c : Code} {Q : State → Prop} {D : va_G} {ad : Nat → Nat} {cy : Nat → ClassId} {ao : Nat} {co : ClassId} {ad2 : Nat → Nat} {cy2 : Nat → ClassId} {b L : Nat} {xs : Nat → Int32} (hlt : l.stackTraces = false) (F : CallFix p m c cL_law 9 s #[Value.ref b] wsL_law RL) (hX : va_X b L xs s s.heap) (hbl : b < s.heap.size) (hxS : xS s) (hxH : xH (fun q => s.heap.size ≤ q) s s.heap) (hKc : va_K D vwCl (cT cy) s) (hKm : va_K D vwCl (mT cy2) s) (hKo : va_K D vwCl (oT co) s) (hL : L ≤ 2049) (t : Nat) (ht : 1 + 4 * t + 3 < L) (σ : CS) (μ : MS) (xo : Nat → Int64) (hR : Rel σ μ) (cells slots : Nat) (hcs : cells + 1 ≤ 655552 ∧ slots + 6 ≤ 7129414) (kk : ∀ (σ3 : CS) (μ3 : MS) (xo3 : Nat → Int64), Rel σ3 μ3 → ∀ (H : Heap) (locs : List Loc), va_P D vwCl ((cWs ad cy σ3 ++ oW ao co xo3) ++ mWs ad2 cy2 μ3) H → va_D (fun q => s.heap.size ≤ q) ((cWs ad cy σ3 ++ oW ao co xo3) ++ mWs ad2 cy2 μ3) → va_S (fun q => s.heap.size ≤ q) s.heap H locs → ∀ ls : Array Slot, lv_has ls 9 [(4, .int (nI (1 + 4 * t))), (0, .ref b), (1, .ref (ad 0)), (2, .ref (ad2 0)), (3, .ref ao)] → W p l e room_1 s m #[Value.ref b] below meth c H locs (cells + 1) (slots + 6) Q (F0 m 821 ls [])) : ∀ (H : Heap) (locs : List Loc), va_P D vwCl ((cWs ad cy σ ++ oW ao co xo) ++ mWs ad2 cy2 μ) H → va_D (fun q => s.heap.size ≤ q) ((cWs ad cy σ ++ oW ao co xo) ++ mWs ad2 cy2 μ) → va_S (fun q => s.heap.size ≤ q) s.heap H locs → ∀ ls : Array Slot, lv_has ls 9 [(4, .int (nI (1 + 4 * t))), (0, .ref b), (1, .ref (ad 0)), (2, .ref (ad2 0)), (3, .ref ao)] → W p l e room_1 s m #[Value.ref b] below meth c H locs (cells) (slots) Q (F0 m 205 ls []) := by
  intro H locs hP hD hS ls hl
  obtain ⟨hx, hb, hml, hown, hts⟩ := id F
  have hbA : ¬ (fun q => s.heap.size ≤ q) b := Nat.not_le.mpr hbl
  obtain ⟨σ2, μ2, xo2, k, bb, hR2, hMc, hMm, hth, hout⟩ := op_touches l hlt D ad cy ao co ad2 cy2 σ μ xo (xs (1 + 4 * t + 1)) (xs (1 + 4 * t + 2)) (xs (1 + 4 * t + 3)) hR
  refine lv_aload_n hx hb dL_law_205 rfl (lv_at hl 2 rfl) ?_
  refine lv_aload_n hx hb dL_law_206 rfl (lv_at hl 1 rfl) ?_
  refine lv_iload hx hb dL_law_207 (lv_at hl 0 rfl) ?_
  refine lv_iconst (v := nI 1) hx hb dL_law_209 (by decide) ?_
  refine lv_iadd hx hb dL_law_210 ?_
  refine z_topi (y := nI (1 + 4 * t + 1)) (nI_add _ 1) ?_
  refine ax_sld hx hb hX hbl hbA hS (by omega) (by omega) dL_law_211 ?_
  refine lv_aload_n hx hb dL_law_212 rfl (lv_at hl 1 rfl) ?_
  refine lv_iload hx hb dL_law_213 (lv_at hl 0 rfl) ?_
  refine lv_iconst (v := nI 2) hx hb dL_law_215 (by decide) ?_
  refine lv_iadd hx hb dL_law_216 ?_
  refine z_topi (y := nI (1 + 4 * t + 2)) (nI_add _ 2) ?_
  refine ax_sld hx hb hX hbl hbA hS (by omega) (by omega) dL_law_217 ?_
  refine lv_aload_n hx hb dL_law_218 rfl (lv_at hl 4 rfl) ?_
  refine zlH_i (As := [.ref (ad 0), .int (xs (1 + 4 * t + 1)), .int (xs (1 + 4 * t + 2)), .ref ao]) (rest := []) F (hMc _) (vx_cwSW 4 hts gL_law_L_touches rfl rfl rfl (by decide +kernel) ⟨Nat.le_of_ble_eq_true rfl, Nat.le_of_ble_eq_true rfl⟩) (hKc.app hKo) hxS hxH hP hD hS (fun _ h => h) rfl hl.1 rfl (Nat.le_of_ble_eq_true rfl) dL_law_219 ⟨by show _ ≤ 655552; omega, by show _ ≤ 7129414; omega⟩ (fun H locs hP hD hS => ?_)
  refine lv_istore (lv' := [(5, .int k), (4, .int (nI (1 + 4 * t))), (0, .ref b), (1, .ref (ad 0)), (2, .ref (ad2 0)), (3, .ref ao)]) hx hb dL_law_222 hl (by decide) rfl (fun ls hl => ?_)
  refine lv_aload_n hx hb dL_law_224 rfl (lv_at hl 4 rfl) ?_
  refine lv_aload_n hx hb dL_law_225 rfl (lv_at hl 2 rfl) ?_
  refine lv_iload hx hb dL_law_226 (lv_at hl 1 rfl) ?_
  refine lv_iconst (v := nI 1) hx hb dL_law_228 (by decide) ?_
  refine lv_iadd hx hb dL_law_229 ?_
  refine z_topi (y := nI (1 + 4 * t + 1)) (nI_add _ 1) ?_
  refine ax_sld hx hb hX hbl hbA hS (by omega) (by omega) dL_law_230 ?_
  refine lv_aload_n hx hb dL_law_231 rfl (lv_at hl 2 rfl) ?_
  refine lv_iload hx hb dL_law_232 (lv_at hl 1 rfl) ?_
  refine lv_iconst (v := nI 2) hx hb dL_law_234 (by decide) ?_
  refine lv_iadd hx hb dL_law_235 ?_
  refine z_topi (y := nI (1 + 4 * t + 2)) (nI_add _ 2) ?_
  refine ax_sld hx hb hX hbl hbA hS (by omega) (by omega) dL_law_236 ?_
  refine zrV_i (As := [.int (xs (1 + 4 * t + 1)), .int (xs (1 + 4 * t + 2))]) (rest := []) F (hMm _) (cwV 2 hts gL_law_X3_touches rfl rfl rfl (by decide +kernel) ⟨Nat.le_of_ble_eq_true rfl, Nat.le_of_ble_eq_true rfl⟩) (va_recv hKm (zP_r hP) (ci := 3) (q0 := 0) rfl rfl) hKm hP hD hS (fun _ h => h) rfl hl.1 rfl (Nat.le_of_ble_eq_true rfl) dL_law_237 ⟨by show _ ≤ 655552; omega, by show _ ≤ 7129414; omega⟩ (fun H locs hP hD hS => ?_)
  refine lv_istore (lv' := [(6, .int bb), (5, .int k), (4, .int (nI (1 + 4 * t))), (0, .ref b), (1, .ref (ad 0)), (2, .ref (ad2 0)), (3, .ref ao)]) hx hb dL_law_240 hl (by decide) rfl (fun ls hl => ?_)
  refine lv_aload_n hx hb dL_law_242 rfl (lv_at hl 5 rfl) ?_
  refine zrV_i (As := []) (rest := []) F (kX3_thrown l D ad2 cy2 _ μ2.1 μ2.2.1 μ2.2.2.1 μ2.2.2.2.1 μ2.2.2.2.2.1 μ2.2.2.2.2.2.1 μ2.2.2.2.2.2.2.1 μ2.2.2.2.2.2.2.2.1 μ2.2.2.2.2.2.2.2.2.1 μ2.2.2.2.2.2.2.2.2.2.1 μ2.2.2.2.2.2.2.2.2.2.2.1 μ2.2.2.2.2.2.2.2.2.2.2.2.1 μ2.2.2.2.2.2.2.2.2.2.2.2.2.1 μ2.2.2.2.2.2.2.2.2.2.2.2.2.2) (cwV 0 hts gL_law_X3_thrown rfl rfl rfl (by decide +kernel) ⟨Nat.le_of_ble_eq_true rfl, Nat.le_of_ble_eq_true rfl⟩) (va_recv hKm (zP_r hP) (ci := 3) (q0 := 0) rfl rfl) hKm hP hD hS (fun _ h => h) rfl hl.1 rfl (Nat.le_of_ble_eq_true rfl) dL_law_243 ⟨by show _ ≤ 655552; omega, by show _ ≤ 7129414; omega⟩ (fun H locs hP hD hS => ?_)
  refine z_topi (y := k) hth ?_
  refine lv_iload hx hb dL_law_246 (lv_at hl 1 rfl) ?_
  refine lv_icmp_eq (tgt := 253) hx hb dL_law_248 (by decide) (fun c248 => ?_) (fun c248 => ?_)
  · refine lv_iload hx hb dL_law_253 (lv_at hl 1 rfl) ?_
    refine lv_if_ne (tgt := 277) hx hb dL_law_255 (by decide) (fun c255 => ?_) (fun c255 => ?_)
    · refine lv_goto (tgt := 821) hx hb dL_law_277 (by decide) ?_
      exact kk _ _ _ hR2 H locs hP hD hS ls (lv_sub hl [2, 3, 4, 5, 6] rfl)
    · refine lv_aload_n hx hb dL_law_258 rfl (lv_at hl 6 rfl) ?_
      refine lv_iconst (v := nI 0) hx hb dL_law_259 (by decide) ?_
      refine ax_lld hx hb hKo hP 11 0 rfl rfl (by omega) (by omega) dL_law_260 ?_
      refine lv_iload hx hb dL_law_261 (lv_at hl 0 rfl) ?_
      refine lv_if_eq (tgt := 270) hx hb dL_law_263 (by decide) (fun c263 => ?_) (fun c263 => ?_)
      · refine lv_lconst (v := 0) hx hb dL_law_270 (by decide) ?_
        refine W.lcmp hx hb dL_law_271 ?_
        refine lv_if_eq (tgt := 277) hx hb dL_law_272 (by decide) (fun c272 => ?_) (fun c272 => ?_)
        · refine lv_goto (tgt := 821) hx hb dL_law_277 (by decide) ?_
          exact kk _ _ _ hR2 H locs hP hD hS ls (lv_sub hl [2, 3, 4, 5, 6] rfl)
        · exact absurd (lgc0.mpr ((hout c255).trans (by first | rw [if_pos c263] | rw [if_neg c263]))) c272
      · refine lv_lconst (v := 1) hx hb dL_law_266 (by decide) ?_
        refine lv_goto (tgt := 271) hx hb dL_law_267 (by decide) ?_
        refine W.lcmp hx hb dL_law_271 ?_
        refine lv_if_eq (tgt := 277) hx hb dL_law_272 (by decide) (fun c272 => ?_) (fun c272 => ?_)
        · refine lv_goto (tgt := 821) hx hb dL_law_277 (by decide) ?_
          exact kk _ _ _ hR2 H locs hP hD hS ls (lv_sub hl [2, 3, 4, 5, 6] rfl)
        · exact absurd (lgc0.mpr ((hout c255).trans (by first | rw [if_pos c263] | rw [if_neg c263]))) c272
  · exact absurd rfl c248

set_option maxHeartbeats 1000000 in
set_option maxRecDepth 100000 in
theorem lc_batches {p : Program} {l : Launch} {e : Env} {s : State} {m : MethodId} {below : List Frame} {meth : Method} {c : Code} {Q : State → Prop} {D : va_G} {ad : Nat → Nat} {cy : Nat → ClassId} {ao : Nat} {co : ClassId} {ad2 : Nat → Nat} {cy2 : Nat → ClassId} {b L : Nat} {xs : Nat → Int32} (hlt : l.stackTraces = false) (F : CallFix p m c cL_law 9 s #[Value.ref b] wsL_law RL) (hX : va_X b L xs s s.heap) (hbl : b < s.heap.size) (hxS : xS s) (hxH : xH (fun q => s.heap.size ≤ q) s s.heap) (hKc : va_K D vwCl (cT cy) s) (hKm : va_K D vwCl (mT cy2) s) (hKo : va_K D vwCl (oT co) s) (hL : L ≤ 2049) (t : Nat) (ht : 1 + 4 * t + 3 < L) (σ : CS) (μ : MS) (xo : Nat → Int64) (hR : Rel σ μ) (cells slots : Nat) (hcs : cells + 1 ≤ 655552 ∧ slots + 6 ≤ 7129414) (kk : ∀ (σ3 : CS) (μ3 : MS) (xo3 : Nat → Int64), Rel σ3 μ3 → ∀ (H : Heap) (locs : List Loc), va_P D vwCl ((cWs ad cy σ3 ++ oW ao co xo3) ++ mWs ad2 cy2 μ3) H → va_D (fun q => s.heap.size ≤ q) ((cWs ad cy σ3 ++ oW ao co xo3) ++ mWs ad2 cy2 μ3) → va_S (fun q => s.heap.size ≤ q) s.heap H locs → ∀ ls : Array Slot, lv_has ls 9 [(4, .int (nI (1 + 4 * t))), (0, .ref b), (1, .ref (ad 0)), (2, .ref (ad2 0)), (3, .ref ao)] → W p l e room_1 s m #[Value.ref b] below meth c H locs (cells + 1) (slots + 6) Q (F0 m 821 ls [])) : ∀ (H : Heap) (locs : List Loc), va_P D vwCl ((cWs ad cy σ ++ oW ao co xo) ++ mWs ad2 cy2 μ) H → va_D (fun q => s.heap.size ≤ q) ((cWs ad cy σ ++ oW ao co xo) ++ mWs ad2 cy2 μ) → va_S (fun q => s.heap.size ≤ q) s.heap H locs → ∀ ls : Array Slot, lv_has ls 9 [(4, .int (nI (1 + 4 * t))), (0, .ref b), (1, .ref (ad 0)), (2, .ref (ad2 0)), (3, .ref ao)] → W p l e room_1 s m #[Value.ref b] below meth c H locs (cells) (slots) Q (F0 m 280 ls []) := by
  intro H locs hP hD hS ls hl
  obtain ⟨hx, hb, hml, hown, hts⟩ := id F
  have hbA : ¬ (fun q => s.heap.size ≤ q) b := Nat.not_le.mpr hbl
  obtain ⟨μ2, r, hR2, hMc, hMm⟩ := op_batches l D ad cy ad2 cy2 σ μ hR
  refine lv_aload_n hx hb dL_law_280 rfl (lv_at hl 2 rfl) ?_
  rw [List.append_assoc] at hP hD
  refine zlV_i (As := []) (rest := []) F (hMc _) (cwV 0 hts gL_law_X2_batches rfl rfl rfl (by decide +kernel) ⟨Nat.le_of_ble_eq_true rfl, Nat.le_of_ble_eq_true rfl⟩) (va_recv hKc (zP_l hP) (ci := 2) (q0 := 0) rfl rfl) hKc hP hD hS (fun _ h => h) rfl hl.1 rfl (Nat.le_of_ble_eq_true rfl) dL_law_281 ⟨by show _ ≤ 655552; omega, by show _ ≤ 7129414; omega⟩ (fun H locs hP hD hS => ?_)
  rw [← List.append_assoc] at hP hD
  refine lv_aload_n hx hb dL_law_284 rfl (lv_at hl 3 rfl) ?_
  refine zrV_i (As := []) (rest := [.int r]) F (hMm _) (cwV 0 hts gL_law_X3_batches rfl rfl rfl (by decide +kernel) ⟨Nat.le_of_ble_eq_true rfl, Nat.le_of_ble_eq_true rfl⟩) (va_recv hKm (zP_r hP) (ci := 3) (q0 := 0) rfl rfl) hKm hP hD hS (fun _ h => h) rfl hl.1 rfl (Nat.le_of_ble_eq_true rfl) dL_law_285 ⟨by show _ ≤ 655552; omega, by show _ ≤ 7129414; omega⟩ (fun H locs hP hD hS => ?_)
  refine lv_icmp_eq (tgt := 821) hx hb dL_law_288 (by decide) (fun c288 => ?_) (fun c288 => ?_)
  · refine W.widen (k := cells + 1) (n := slots + 6) (by omega) (by omega) ?_
    exact kk _ _ _ hR2 H locs hP hD hS ls (lv_sub hl [0, 1, 2, 3, 4] rfl)
  · exact absurd rfl c288

set_option maxHeartbeats 1000000 in
set_option maxRecDepth 100000 in
theorem lc_batch {p : Program} {l : Launch} {e : Env} {s : State} {m : MethodId} {below : List Frame} {meth : Method} {c : Code} {Q : State → Prop} {D : va_G} {ad : Nat → Nat} {cy : Nat → ClassId} {ao : Nat} {co : ClassId} {ad2 : Nat → Nat} {cy2 : Nat → ClassId} {b L : Nat} {xs : Nat → Int32} (hlt : l.stackTraces = false) (F : CallFix p m c cL_law 9 s #[Value.ref b] wsL_law RL) (hX : va_X b L xs s s.heap) (hbl : b < s.heap.size) (hxS : xS s) (hxH : xH (fun q => s.heap.size ≤ q) s s.heap) (hKc : va_K D vwCl (cT cy) s) (hKm : va_K D vwCl (mT cy2) s) (hKo : va_K D vwCl (oT co) s) (hL : L ≤ 2049) (t : Nat) (ht : 1 + 4 * t + 3 < L) (σ : CS) (μ : MS) (xo : Nat → Int64) (hR : Rel σ μ) (cells slots : Nat) (hcs : cells + 1 ≤ 655552 ∧ slots + 6 ≤ 7129414) (kk : ∀ (σ3 : CS) (μ3 : MS) (xo3 : Nat → Int64), Rel σ3 μ3 → ∀ (H : Heap) (locs : List Loc), va_P D vwCl ((cWs ad cy σ3 ++ oW ao co xo3) ++ mWs ad2 cy2 μ3) H → va_D (fun q => s.heap.size ≤ q) ((cWs ad cy σ3 ++ oW ao co xo3) ++ mWs ad2 cy2 μ3) → va_S (fun q => s.heap.size ≤ q) s.heap H locs → ∀ ls : Array Slot, lv_has ls 9 [(4, .int (nI (1 + 4 * t))), (0, .ref b), (1, .ref (ad 0)), (2, .ref (ad2 0)), (3, .ref ao)] → W p l e room_1 s m #[Value.ref b] below meth c H locs (cells + 1) (slots + 6) Q (F0 m 821 ls [])) : ∀ (H : Heap) (locs : List Loc), va_P D vwCl ((cWs ad cy σ ++ oW ao co xo) ++ mWs ad2 cy2 μ) H → va_D (fun q => s.heap.size ≤ q) ((cWs ad cy σ ++ oW ao co xo) ++ mWs ad2 cy2 μ) → va_S (fun q => s.heap.size ≤ q) s.heap H locs → ∀ ls : Array Slot, lv_has ls 9 [(4, .int (nI (1 + 4 * t))), (0, .ref b), (1, .ref (ad 0)), (2, .ref (ad2 0)), (3, .ref ao)] → W p l e room_1 s m #[Value.ref b] below meth c H locs (cells) (slots) Q (F0 m 293 ls []) := by
  intro H locs hP hD hS ls hl
  obtain ⟨hx, hb, hml, hown, hts⟩ := id F
  have hbA : ¬ (fun q => s.heap.size ≤ q) b := Nat.not_le.mpr hbl
  obtain ⟨σ2, μ2, xo2, k, bb, hR2, hMc, hMm, hth, hout⟩ := op_batch l hlt D ad cy ao co ad2 cy2 σ μ xo (xs (1 + 4 * t + 1)) (xs (1 + 4 * t + 2)) (xs (1 + 4 * t + 3)) hR
  refine lv_aload_n hx hb dL_law_293 rfl (lv_at hl 2 rfl) ?_
  refine lv_aload_n hx hb dL_law_294 rfl (lv_at hl 1 rfl) ?_
  refine lv_iload hx hb dL_law_295 (lv_at hl 0 rfl) ?_
  refine lv_iconst (v := nI 1) hx hb dL_law_297 (by decide) ?_
  refine lv_iadd hx hb dL_law_298 ?_
  refine z_topi (y := nI (1 + 4 * t + 1)) (nI_add _ 1) ?_
  refine ax_sld hx hb hX hbl hbA hS (by omega) (by omega) dL_law_299 ?_
  refine lv_aload_n hx hb dL_law_300 rfl (lv_at hl 4 rfl) ?_
  refine zlH_i (As := [.ref (ad 0), .int (xs (1 + 4 * t + 1)), .ref ao]) (rest := []) F (hMc _) (vx_cwSW 3 hts gL_law_L_batch rfl rfl rfl (by decide +kernel) ⟨Nat.le_of_ble_eq_true rfl, Nat.le_of_ble_eq_true rfl⟩) (hKc.app hKo) hxS hxH hP hD hS (fun _ h => h) rfl hl.1 rfl (Nat.le_of_ble_eq_true rfl) dL_law_301 ⟨by show _ ≤ 655552; omega, by show _ ≤ 7129414; omega⟩ (fun H locs hP hD hS => ?_)
  refine lv_istore (lv' := [(5, .int k), (4, .int (nI (1 + 4 * t))), (0, .ref b), (1, .ref (ad 0)), (2, .ref (ad2 0)), (3, .ref ao)]) hx hb dL_law_304 hl (by decide) rfl (fun ls hl => ?_)
  refine lv_aload_n hx hb dL_law_306 rfl (lv_at hl 4 rfl) ?_
  refine lv_aload_n hx hb dL_law_307 rfl (lv_at hl 2 rfl) ?_
  refine lv_iload hx hb dL_law_308 (lv_at hl 1 rfl) ?_
  refine lv_iconst (v := nI 1) hx hb dL_law_310 (by decide) ?_
  refine lv_iadd hx hb dL_law_311 ?_
  refine z_topi (y := nI (1 + 4 * t + 1)) (nI_add _ 1) ?_
  refine ax_sld hx hb hX hbl hbA hS (by omega) (by omega) dL_law_312 ?_
  refine zrV_i (As := [.int (xs (1 + 4 * t + 1))]) (rest := []) F (hMm _) (cwV 1 hts gL_law_X3_batch rfl rfl rfl (by decide +kernel) ⟨Nat.le_of_ble_eq_true rfl, Nat.le_of_ble_eq_true rfl⟩) (va_recv hKm (zP_r hP) (ci := 3) (q0 := 0) rfl rfl) hKm hP hD hS (fun _ h => h) rfl hl.1 rfl (Nat.le_of_ble_eq_true rfl) dL_law_313 ⟨by show _ ≤ 655552; omega, by show _ ≤ 7129414; omega⟩ (fun H locs hP hD hS => ?_)
  refine lv_istore (lv' := [(6, .int bb), (5, .int k), (4, .int (nI (1 + 4 * t))), (0, .ref b), (1, .ref (ad 0)), (2, .ref (ad2 0)), (3, .ref ao)]) hx hb dL_law_316 hl (by decide) rfl (fun ls hl => ?_)
  refine lv_aload_n hx hb dL_law_318 rfl (lv_at hl 5 rfl) ?_
  refine zrV_i (As := []) (rest := []) F (kX3_thrown l D ad2 cy2 _ μ2.1 μ2.2.1 μ2.2.2.1 μ2.2.2.2.1 μ2.2.2.2.2.1 μ2.2.2.2.2.2.1 μ2.2.2.2.2.2.2.1 μ2.2.2.2.2.2.2.2.1 μ2.2.2.2.2.2.2.2.2.1 μ2.2.2.2.2.2.2.2.2.2.1 μ2.2.2.2.2.2.2.2.2.2.2.1 μ2.2.2.2.2.2.2.2.2.2.2.2.1 μ2.2.2.2.2.2.2.2.2.2.2.2.2.1 μ2.2.2.2.2.2.2.2.2.2.2.2.2.2) (cwV 0 hts gL_law_X3_thrown rfl rfl rfl (by decide +kernel) ⟨Nat.le_of_ble_eq_true rfl, Nat.le_of_ble_eq_true rfl⟩) (va_recv hKm (zP_r hP) (ci := 3) (q0 := 0) rfl rfl) hKm hP hD hS (fun _ h => h) rfl hl.1 rfl (Nat.le_of_ble_eq_true rfl) dL_law_319 ⟨by show _ ≤ 655552; omega, by show _ ≤ 7129414; omega⟩ (fun H locs hP hD hS => ?_)
  refine z_topi (y := k) hth ?_
  refine lv_iload hx hb dL_law_322 (lv_at hl 1 rfl) ?_
  refine lv_icmp_eq (tgt := 329) hx hb dL_law_324 (by decide) (fun c324 => ?_) (fun c324 => ?_)
  · refine lv_iload hx hb dL_law_329 (lv_at hl 1 rfl) ?_
    refine lv_if_ne (tgt := 346) hx hb dL_law_331 (by decide) (fun c331 => ?_) (fun c331 => ?_)
    · refine lv_goto (tgt := 821) hx hb dL_law_346 (by decide) ?_
      exact kk _ _ _ hR2 H locs hP hD hS ls (lv_sub hl [2, 3, 4, 5, 6] rfl)
    · refine lv_aload_n hx hb dL_law_334 rfl (lv_at hl 6 rfl) ?_
      refine lv_iconst (v := nI 0) hx hb dL_law_335 (by decide) ?_
      refine ax_lld hx hb hKo hP 11 0 rfl rfl (by omega) (by omega) dL_law_336 ?_
      refine lv_iload hx hb dL_law_337 (lv_at hl 0 rfl) ?_
      refine lv_i2l (v := bb.toInt64) hx hb dL_law_339 rfl ?_
      refine W.lcmp hx hb dL_law_340 ?_
      refine lv_if_eq (tgt := 346) hx hb dL_law_341 (by decide) (fun c341 => ?_) (fun c341 => ?_)
      · refine lv_goto (tgt := 821) hx hb dL_law_346 (by decide) ?_
        exact kk _ _ _ hR2 H locs hP hD hS ls (lv_sub hl [2, 3, 4, 5, 6] rfl)
      · exact absurd (lgc0.mpr (hout c331)) c341
  · exact absurd rfl c324

set_option maxHeartbeats 1000000 in
set_option maxRecDepth 100000 in
theorem lc_run {p : Program} {l : Launch} {e : Env} {s : State} {m : MethodId} {below : List Frame} {meth : Method} {c : Code} {Q : State → Prop} {D : va_G} {ad : Nat → Nat} {cy : Nat → ClassId} {ao : Nat} {co : ClassId} {ad2 : Nat → Nat} {cy2 : Nat → ClassId} {b L : Nat} {xs : Nat → Int32} (hlt : l.stackTraces = false) (F : CallFix p m c cL_law 9 s #[Value.ref b] wsL_law RL) (hX : va_X b L xs s s.heap) (hbl : b < s.heap.size) (hxS : xS s) (hxH : xH (fun q => s.heap.size ≤ q) s s.heap) (hKc : va_K D vwCl (cT cy) s) (hKm : va_K D vwCl (mT cy2) s) (hKo : va_K D vwCl (oT co) s) (hL : L ≤ 2049) (t : Nat) (ht : 1 + 4 * t + 3 < L) (σ : CS) (μ : MS) (xo : Nat → Int64) (hR : Rel σ μ) (cells slots : Nat) (hcs : cells + 1 ≤ 655552 ∧ slots + 6 ≤ 7129414) (kk : ∀ (σ3 : CS) (μ3 : MS) (xo3 : Nat → Int64), Rel σ3 μ3 → ∀ (H : Heap) (locs : List Loc), va_P D vwCl ((cWs ad cy σ3 ++ oW ao co xo3) ++ mWs ad2 cy2 μ3) H → va_D (fun q => s.heap.size ≤ q) ((cWs ad cy σ3 ++ oW ao co xo3) ++ mWs ad2 cy2 μ3) → va_S (fun q => s.heap.size ≤ q) s.heap H locs → ∀ ls : Array Slot, lv_has ls 9 [(4, .int (nI (1 + 4 * t))), (0, .ref b), (1, .ref (ad 0)), (2, .ref (ad2 0)), (3, .ref ao)] → W p l e room_1 s m #[Value.ref b] below meth c H locs (cells + 1) (slots + 6) Q (F0 m 821 ls [])) : ∀ (H : Heap) (locs : List Loc), va_P D vwCl ((cWs ad cy σ ++ oW ao co xo) ++ mWs ad2 cy2 μ) H → va_D (fun q => s.heap.size ≤ q) ((cWs ad cy σ ++ oW ao co xo) ++ mWs ad2 cy2 μ) → va_S (fun q => s.heap.size ≤ q) s.heap H locs → ∀ ls : Array Slot, lv_has ls 9 [(4, .int (nI (1 + 4 * t))), (0, .ref b), (1, .ref (ad 0)), (2, .ref (ad2 0)), (3, .ref ao)] → W p l e room_1 s m #[Value.ref b] below meth c H locs (cells) (slots) Q (F0 m 349 ls []) := by
  intro H locs hP hD hS ls hl
  obtain ⟨hx, hb, hml, hown, hts⟩ := id F
  have hbA : ¬ (fun q => s.heap.size ≤ q) b := Nat.not_le.mpr hbl
  obtain ⟨σ2, μ2, xo2, k, bb, hR2, hMc, hMm, hth, hout⟩ := op_run l hlt D ad cy ao co ad2 cy2 σ μ xo (xs (1 + 4 * t + 1)) (xs (1 + 4 * t + 2)) (xs (1 + 4 * t + 3)) hR
  refine lv_aload_n hx hb dL_law_349 rfl (lv_at hl 2 rfl) ?_
  refine lv_aload_n hx hb dL_law_350 rfl (lv_at hl 1 rfl) ?_
  refine lv_iload hx hb dL_law_351 (lv_at hl 0 rfl) ?_
  refine lv_iconst (v := nI 1) hx hb dL_law_353 (by decide) ?_
  refine lv_iadd hx hb dL_law_354 ?_
  refine z_topi (y := nI (1 + 4 * t + 1)) (nI_add _ 1) ?_
  refine ax_sld hx hb hX hbl hbA hS (by omega) (by omega) dL_law_355 ?_
  refine lv_aload_n hx hb dL_law_356 rfl (lv_at hl 1 rfl) ?_
  refine lv_iload hx hb dL_law_357 (lv_at hl 0 rfl) ?_
  refine lv_iconst (v := nI 2) hx hb dL_law_359 (by decide) ?_
  refine lv_iadd hx hb dL_law_360 ?_
  refine z_topi (y := nI (1 + 4 * t + 2)) (nI_add _ 2) ?_
  refine ax_sld hx hb hX hbl hbA hS (by omega) (by omega) dL_law_361 ?_
  refine lv_i2l (v := (xs (1 + 4 * t + 2)).toInt64) hx hb dL_law_362 rfl ?_
  refine lv_bipush (v := nI 32) hx hb dL_law_363 (by decide) ?_
  refine lv_lshl (v := ((xs (1 + 4 * t + 2)).toInt64) <<< ((nI 32).toInt64 &&& 63)) hx hb dL_law_365 rfl ?_
  refine lv_aload_n hx hb dL_law_366 rfl (lv_at hl 1 rfl) ?_
  refine lv_iload hx hb dL_law_367 (lv_at hl 0 rfl) ?_
  refine lv_iconst (v := nI 3) hx hb dL_law_369 (by decide) ?_
  refine lv_iadd hx hb dL_law_370 ?_
  refine z_topi (y := nI (1 + 4 * t + 3)) (nI_add _ 3) ?_
  refine ax_sld hx hb hX hbl hbA hS (by omega) (by omega) dL_law_371 ?_
  refine lv_i2l (v := (xs (1 + 4 * t + 3)).toInt64) hx hb dL_law_372 rfl ?_
  refine lv_ldc2 hx hb hown (hts (.constantLong RL 76 (4294967295)) (by decide +kernel)) dL_law_373 ?_
  refine lv_land hx hb dL_law_376 ?_
  refine lv_lor hx hb dL_law_377 ?_
  refine lv_aload_n hx hb dL_law_378 rfl (lv_at hl 4 rfl) ?_
  refine zlH_i (As := [.ref (ad 0), .int (xs (1 + 4 * t + 1)), .long ((((xs (1 + 4 * t + 2)).toInt64) <<< ((nI 32).toInt64 &&& 63)) ||| (((xs (1 + 4 * t + 3)).toInt64) &&& 4294967295)), .ref ao]) (rest := []) F (hMc _) (vx_cwSW 4 hts gL_law_L_run rfl rfl rfl (by decide +kernel) ⟨Nat.le_of_ble_eq_true rfl, Nat.le_of_ble_eq_true rfl⟩) (hKc.app hKo) hxS hxH hP hD hS (fun _ h => h) rfl hl.1 rfl (Nat.le_of_ble_eq_true rfl) dL_law_379 ⟨by show _ ≤ 655552; omega, by show _ ≤ 7129414; omega⟩ (fun H locs hP hD hS => ?_)
  refine lv_istore (lv' := [(5, .int k), (4, .int (nI (1 + 4 * t))), (0, .ref b), (1, .ref (ad 0)), (2, .ref (ad2 0)), (3, .ref ao)]) hx hb dL_law_382 hl (by decide) rfl (fun ls hl => ?_)
  refine lv_aload_n hx hb dL_law_384 rfl (lv_at hl 4 rfl) ?_
  refine lv_aload_n hx hb dL_law_385 rfl (lv_at hl 2 rfl) ?_
  refine lv_iload hx hb dL_law_386 (lv_at hl 1 rfl) ?_
  refine lv_iconst (v := nI 1) hx hb dL_law_388 (by decide) ?_
  refine lv_iadd hx hb dL_law_389 ?_
  refine z_topi (y := nI (1 + 4 * t + 1)) (nI_add _ 1) ?_
  refine ax_sld hx hb hX hbl hbA hS (by omega) (by omega) dL_law_390 ?_
  refine lv_aload_n hx hb dL_law_391 rfl (lv_at hl 2 rfl) ?_
  refine lv_iload hx hb dL_law_392 (lv_at hl 1 rfl) ?_
  refine lv_iconst (v := nI 2) hx hb dL_law_394 (by decide) ?_
  refine lv_iadd hx hb dL_law_395 ?_
  refine z_topi (y := nI (1 + 4 * t + 2)) (nI_add _ 2) ?_
  refine ax_sld hx hb hX hbl hbA hS (by omega) (by omega) dL_law_396 ?_
  refine lv_i2l (v := (xs (1 + 4 * t + 2)).toInt64) hx hb dL_law_397 rfl ?_
  refine lv_bipush (v := nI 32) hx hb dL_law_398 (by decide) ?_
  refine lv_lshl (v := ((xs (1 + 4 * t + 2)).toInt64) <<< ((nI 32).toInt64 &&& 63)) hx hb dL_law_400 rfl ?_
  refine lv_aload_n hx hb dL_law_401 rfl (lv_at hl 2 rfl) ?_
  refine lv_iload hx hb dL_law_402 (lv_at hl 1 rfl) ?_
  refine lv_iconst (v := nI 3) hx hb dL_law_404 (by decide) ?_
  refine lv_iadd hx hb dL_law_405 ?_
  refine z_topi (y := nI (1 + 4 * t + 3)) (nI_add _ 3) ?_
  refine ax_sld hx hb hX hbl hbA hS (by omega) (by omega) dL_law_406 ?_
  refine lv_i2l (v := (xs (1 + 4 * t + 3)).toInt64) hx hb dL_law_407 rfl ?_
  refine lv_ldc2 hx hb hown (hts (.constantLong RL 76 (4294967295)) (by decide +kernel)) dL_law_408 ?_
  refine lv_land hx hb dL_law_411 ?_
  refine lv_lor hx hb dL_law_412 ?_
  refine zrV_i (As := [.int (xs (1 + 4 * t + 1)), .long ((((xs (1 + 4 * t + 2)).toInt64) <<< ((nI 32).toInt64 &&& 63)) ||| (((xs (1 + 4 * t + 3)).toInt64) &&& 4294967295))]) (rest := []) F (hMm _) (cwV 2 hts gL_law_X3_run rfl rfl rfl (by decide +kernel) ⟨Nat.le_of_ble_eq_true rfl, Nat.le_of_ble_eq_true rfl⟩) (va_recv hKm (zP_r hP) (ci := 3) (q0 := 0) rfl rfl) hKm hP hD hS (fun _ h => h) rfl hl.1 rfl (Nat.le_of_ble_eq_true rfl) dL_law_413 ⟨by show _ ≤ 655552; omega, by show _ ≤ 7129414; omega⟩ (fun H locs hP hD hS => ?_)
  refine lv_istore (lv' := [(6, .int bb), (5, .int k), (4, .int (nI (1 + 4 * t))), (0, .ref b), (1, .ref (ad 0)), (2, .ref (ad2 0)), (3, .ref ao)]) hx hb dL_law_416 hl (by decide) rfl (fun ls hl => ?_)
  refine lv_aload_n hx hb dL_law_418 rfl (lv_at hl 5 rfl) ?_
  refine zrV_i (As := []) (rest := []) F (kX3_thrown l D ad2 cy2 _ μ2.1 μ2.2.1 μ2.2.2.1 μ2.2.2.2.1 μ2.2.2.2.2.1 μ2.2.2.2.2.2.1 μ2.2.2.2.2.2.2.1 μ2.2.2.2.2.2.2.2.1 μ2.2.2.2.2.2.2.2.2.1 μ2.2.2.2.2.2.2.2.2.2.1 μ2.2.2.2.2.2.2.2.2.2.2.1 μ2.2.2.2.2.2.2.2.2.2.2.2.1 μ2.2.2.2.2.2.2.2.2.2.2.2.2.1 μ2.2.2.2.2.2.2.2.2.2.2.2.2.2) (cwV 0 hts gL_law_X3_thrown rfl rfl rfl (by decide +kernel) ⟨Nat.le_of_ble_eq_true rfl, Nat.le_of_ble_eq_true rfl⟩) (va_recv hKm (zP_r hP) (ci := 3) (q0 := 0) rfl rfl) hKm hP hD hS (fun _ h => h) rfl hl.1 rfl (Nat.le_of_ble_eq_true rfl) dL_law_419 ⟨by show _ ≤ 655552; omega, by show _ ≤ 7129414; omega⟩ (fun H locs hP hD hS => ?_)
  refine z_topi (y := k) hth ?_
  refine lv_iload hx hb dL_law_422 (lv_at hl 1 rfl) ?_
  refine lv_icmp_eq (tgt := 429) hx hb dL_law_424 (by decide) (fun c424 => ?_) (fun c424 => ?_)
  · refine lv_iload hx hb dL_law_429 (lv_at hl 1 rfl) ?_
    refine lv_if_ne (tgt := 446) hx hb dL_law_431 (by decide) (fun c431 => ?_) (fun c431 => ?_)
    · refine lv_goto (tgt := 821) hx hb dL_law_446 (by decide) ?_
      exact kk _ _ _ hR2 H locs hP hD hS ls (lv_sub hl [2, 3, 4, 5, 6] rfl)
    · refine lv_aload_n hx hb dL_law_434 rfl (lv_at hl 6 rfl) ?_
      refine lv_iconst (v := nI 0) hx hb dL_law_435 (by decide) ?_
      refine ax_lld hx hb hKo hP 11 0 rfl rfl (by omega) (by omega) dL_law_436 ?_
      refine lv_iload hx hb dL_law_437 (lv_at hl 0 rfl) ?_
      refine lv_i2l (v := bb.toInt64) hx hb dL_law_439 rfl ?_
      refine W.lcmp hx hb dL_law_440 ?_
      refine lv_if_eq (tgt := 446) hx hb dL_law_441 (by decide) (fun c441 => ?_) (fun c441 => ?_)
      · refine lv_goto (tgt := 821) hx hb dL_law_446 (by decide) ?_
        exact kk _ _ _ hR2 H locs hP hD hS ls (lv_sub hl [2, 3, 4, 5, 6] rfl)
      · exact absurd (lgc0.mpr (hout c431)) c441
  · exact absurd rfl c424

set_option maxHeartbeats 1000000 in
set_option maxRecDepth 100000 in
theorem lc_joined {p : Program} {l : Launch} {e : Env} {s : State} {m : MethodId} {below : List Frame} {meth : Method} {c : Code} {Q : State → Prop} {D : va_G} {ad : Nat → Nat} {cy : Nat → ClassId} {ao : Nat} {co : ClassId} {ad2 : Nat → Nat} {cy2 : Nat → ClassId} {b L : Nat} {xs : Nat → Int32} (hlt : l.stackTraces = false) (F : CallFix p m c cL_law 9 s #[Value.ref b] wsL_law RL) (hX : va_X b L xs s s.heap) (hbl : b < s.heap.size) (hxS : xS s) (hxH : xH (fun q => s.heap.size ≤ q) s s.heap) (hKc : va_K D vwCl (cT cy) s) (hKm : va_K D vwCl (mT cy2) s) (hKo : va_K D vwCl (oT co) s) (hL : L ≤ 2049) (t : Nat) (ht : 1 + 4 * t + 3 < L) (σ : CS) (μ : MS) (xo : Nat → Int64) (hR : Rel σ μ) (cells slots : Nat) (hcs : cells + 1 ≤ 655552 ∧ slots + 6 ≤ 7129414) (kk : ∀ (σ3 : CS) (μ3 : MS) (xo3 : Nat → Int64), Rel σ3 μ3 → ∀ (H : Heap) (locs : List Loc), va_P D vwCl ((cWs ad cy σ3 ++ oW ao co xo3) ++ mWs ad2 cy2 μ3) H → va_D (fun q => s.heap.size ≤ q) ((cWs ad cy σ3 ++ oW ao co xo3) ++ mWs ad2 cy2 μ3) → va_S (fun q => s.heap.size ≤ q) s.heap H locs → ∀ ls : Array Slot, lv_has ls 9 [(4, .int (nI (1 + 4 * t))), (0, .ref b), (1, .ref (ad 0)), (2, .ref (ad2 0)), (3, .ref ao)] → W p l e room_1 s m #[Value.ref b] below meth c H locs (cells + 1) (slots + 6) Q (F0 m 821 ls [])) : ∀ (H : Heap) (locs : List Loc), va_P D vwCl ((cWs ad cy σ ++ oW ao co xo) ++ mWs ad2 cy2 μ) H → va_D (fun q => s.heap.size ≤ q) ((cWs ad cy σ ++ oW ao co xo) ++ mWs ad2 cy2 μ) → va_S (fun q => s.heap.size ≤ q) s.heap H locs → ∀ ls : Array Slot, lv_has ls 9 [(4, .int (nI (1 + 4 * t))), (0, .ref b), (1, .ref (ad 0)), (2, .ref (ad2 0)), (3, .ref ao)] → W p l e room_1 s m #[Value.ref b] below meth c H locs (cells) (slots) Q (F0 m 449 ls []) := by
  intro H locs hP hD hS ls hl
  obtain ⟨hx, hb, hml, hown, hts⟩ := id F
  have hbA : ¬ (fun q => s.heap.size ≤ q) b := Nat.not_le.mpr hbl
  obtain ⟨μ2, r, hR2, hMc, hMm, hbd⟩ := op_joined l D ad cy ad2 cy2 σ μ hR
  refine lv_aload_n hx hb dL_law_449 rfl (lv_at hl 2 rfl) ?_
  rw [List.append_assoc] at hP hD
  refine zlV_d (As := []) (rest := []) F (hMc _) (cwV 0 hts gL_law_X2_joined rfl rfl rfl (by decide +kernel) ⟨Nat.le_of_ble_eq_true rfl, Nat.le_of_ble_eq_true rfl⟩) (va_recv hKc (zP_l hP) (ci := 2) (q0 := 0) rfl rfl) hKc hP hD hS (fun _ h => h) rfl hl.1 rfl (Nat.le_of_ble_eq_true rfl) dL_law_450 ⟨by show _ ≤ 655552; omega, by show _ ≤ 7129414; omega⟩ (fun H locs hP hD hS => ?_)
  rw [← List.append_assoc] at hP hD
  refine lv_dstore (lv' := [(5, .double (Dz r)), (4, .int (nI (1 + 4 * t))), (0, .ref b), (1, .ref (ad 0)), (2, .ref (ad2 0)), (3, .ref ao)]) hx hb dL_law_453 hl (by decide) rfl (fun ls hl => ?_)
  refine lv_aload_n hx hb dL_law_455 rfl (lv_at hl 4 rfl) ?_
  refine zrV_d (As := []) (rest := []) F (hMm _) (cwV 0 hts gL_law_X3_joined rfl rfl rfl (by decide +kernel) ⟨Nat.le_of_ble_eq_true rfl, Nat.le_of_ble_eq_true rfl⟩) (va_recv hKm (zP_r hP) (ci := 3) (q0 := 0) rfl rfl) hKm hP hD hS (fun _ h => h) rfl hl.1 rfl (Nat.le_of_ble_eq_true rfl) dL_law_456 ⟨by show _ ≤ 655552; omega, by show _ ≤ 7129414; omega⟩ (fun H locs hP hD hS => ?_)
  refine lv_dstore (lv' := [(7, .double (Dz r)), (5, .double (Dz r)), (4, .int (nI (1 + 4 * t))), (0, .ref b), (1, .ref (ad 0)), (2, .ref (ad2 0)), (3, .ref ao)]) hx hb dL_law_459 hl (by decide) rfl (fun ls hl => ?_)
  refine lv_dload hx hb dL_law_461 (lv_at hl 1 rfl) ?_
  refine lv_dload hx hb dL_law_463 (lv_at hl 0 rfl) ?_
  refine lv_dcmp hx hb dL_law_465 ?_
  refine z_topi (y := cv r r) (dz_cv hbd hbd _) ?_
  refine lv_if_eq (tgt := 487) hx hb dL_law_466 (by decide) (fun c466 => ?_) (fun c466 => ?_)
  · refine lv_goto (tgt := 821) hx hb dL_law_487 (by decide) ?_
    refine W.widen (k := cells + 1) (n := slots + 6) (by omega) (by omega) ?_
    exact kk _ _ _ hR2 H locs hP hD hS ls (lv_sub hl [2, 3, 4, 5, 6] rfl)
  · exact absurd (cv_eq.mpr rfl) c466

set_option maxHeartbeats 1000000 in
set_option maxRecDepth 100000 in
theorem lc_plain {p : Program} {l : Launch} {e : Env} {s : State} {m : MethodId} {below : List Frame} {meth : Method} {c : Code} {Q : State → Prop} {D : va_G} {ad : Nat → Nat} {cy : Nat → ClassId} {ao : Nat} {co : ClassId} {ad2 : Nat → Nat} {cy2 : Nat → ClassId} {b L : Nat} {xs : Nat → Int32} (hlt : l.stackTraces = false) (F : CallFix p m c cL_law 9 s #[Value.ref b] wsL_law RL) (hX : va_X b L xs s s.heap) (hbl : b < s.heap.size) (hxS : xS s) (hxH : xH (fun q => s.heap.size ≤ q) s s.heap) (hKc : va_K D vwCl (cT cy) s) (hKm : va_K D vwCl (mT cy2) s) (hKo : va_K D vwCl (oT co) s) (hL : L ≤ 2049) (t : Nat) (ht : 1 + 4 * t + 3 < L) (σ : CS) (μ : MS) (xo : Nat → Int64) (hR : Rel σ μ) (cells slots : Nat) (hcs : cells + 1 ≤ 655552 ∧ slots + 6 ≤ 7129414) (kk : ∀ (σ3 : CS) (μ3 : MS) (xo3 : Nat → Int64), Rel σ3 μ3 → ∀ (H : Heap) (locs : List Loc), va_P D vwCl ((cWs ad cy σ3 ++ oW ao co xo3) ++ mWs ad2 cy2 μ3) H → va_D (fun q => s.heap.size ≤ q) ((cWs ad cy σ3 ++ oW ao co xo3) ++ mWs ad2 cy2 μ3) → va_S (fun q => s.heap.size ≤ q) s.heap H locs → ∀ ls : Array Slot, lv_has ls 9 [(4, .int (nI (1 + 4 * t))), (0, .ref b), (1, .ref (ad 0)), (2, .ref (ad2 0)), (3, .ref ao)] → W p l e room_1 s m #[Value.ref b] below meth c H locs (cells + 1) (slots + 6) Q (F0 m 821 ls [])) : ∀ (H : Heap) (locs : List Loc), va_P D vwCl ((cWs ad cy σ ++ oW ao co xo) ++ mWs ad2 cy2 μ) H → va_D (fun q => s.heap.size ≤ q) ((cWs ad cy σ ++ oW ao co xo) ++ mWs ad2 cy2 μ) → va_S (fun q => s.heap.size ≤ q) s.heap H locs → ∀ ls : Array Slot, lv_has ls 9 [(4, .int (nI (1 + 4 * t))), (0, .ref b), (1, .ref (ad 0)), (2, .ref (ad2 0)), (3, .ref ao)] → W p l e room_1 s m #[Value.ref b] below meth c H locs (cells) (slots) Q (F0 m 490 ls []) := by
  intro H locs hP hD hS ls hl
  obtain ⟨hx, hb, hml, hown, hts⟩ := id F
  have hbA : ¬ (fun q => s.heap.size ≤ q) b := Nat.not_le.mpr hbl
  obtain ⟨μ2, r, hR2, hMc, hMm, hbd⟩ := op_plain l D ad cy ad2 cy2 σ μ hR
  refine lv_aload_n hx hb dL_law_490 rfl (lv_at hl 2 rfl) ?_
  rw [List.append_assoc] at hP hD
  refine zlV_d (As := []) (rest := []) F (hMc _) (cwV 0 hts gL_law_X2_plain rfl rfl rfl (by decide +kernel) ⟨Nat.le_of_ble_eq_true rfl, Nat.le_of_ble_eq_true rfl⟩) (va_recv hKc (zP_l hP) (ci := 2) (q0 := 0) rfl rfl) hKc hP hD hS (fun _ h => h) rfl hl.1 rfl (Nat.le_of_ble_eq_true rfl) dL_law_491 ⟨by show _ ≤ 655552; omega, by show _ ≤ 7129414; omega⟩ (fun H locs hP hD hS => ?_)
  rw [← List.append_assoc] at hP hD
  refine lv_dstore (lv' := [(5, .double (Dz r)), (4, .int (nI (1 + 4 * t))), (0, .ref b), (1, .ref (ad 0)), (2, .ref (ad2 0)), (3, .ref ao)]) hx hb dL_law_494 hl (by decide) rfl (fun ls hl => ?_)
  refine lv_aload_n hx hb dL_law_496 rfl (lv_at hl 4 rfl) ?_
  refine zrV_d (As := []) (rest := []) F (hMm _) (cwV 0 hts gL_law_X3_plain rfl rfl rfl (by decide +kernel) ⟨Nat.le_of_ble_eq_true rfl, Nat.le_of_ble_eq_true rfl⟩) (va_recv hKm (zP_r hP) (ci := 3) (q0 := 0) rfl rfl) hKm hP hD hS (fun _ h => h) rfl hl.1 rfl (Nat.le_of_ble_eq_true rfl) dL_law_497 ⟨by show _ ≤ 655552; omega, by show _ ≤ 7129414; omega⟩ (fun H locs hP hD hS => ?_)
  refine lv_dstore (lv' := [(7, .double (Dz r)), (5, .double (Dz r)), (4, .int (nI (1 + 4 * t))), (0, .ref b), (1, .ref (ad 0)), (2, .ref (ad2 0)), (3, .ref ao)]) hx hb dL_law_500 hl (by decide) rfl (fun ls hl => ?_)
  refine lv_dload hx hb dL_law_502 (lv_at hl 1 rfl) ?_
  refine lv_dload hx hb dL_law_504 (lv_at hl 0 rfl) ?_
  refine lv_dcmp hx hb dL_law_506 ?_
  refine z_topi (y := cv r r) (dz_cv hbd hbd _) ?_
  refine lv_if_eq (tgt := 528) hx hb dL_law_507 (by decide) (fun c507 => ?_) (fun c507 => ?_)
  · refine lv_goto (tgt := 821) hx hb dL_law_528 (by decide) ?_
    refine W.widen (k := cells + 1) (n := slots + 6) (by omega) (by omega) ?_
    exact kk _ _ _ hR2 H locs hP hD hS ls (lv_sub hl [2, 3, 4, 5, 6] rfl)
  · exact absurd (cv_eq.mpr rfl) c507

set_option maxHeartbeats 1000000 in
set_option maxRecDepth 100000 in
theorem lc_failAt {p : Program} {l : Launch} {e : Env} {s : State} {m : MethodId} {below : List Frame} {meth : Method} {c : Code} {Q : State → Prop} {D : va_G} {ad : Nat → Nat} {cy : Nat → ClassId} {ao : Nat} {co : ClassId} {ad2 : Nat → Nat} {cy2 : Nat → ClassId} {b L : Nat} {xs : Nat → Int32} (hlt : l.stackTraces = false) (F : CallFix p m c cL_law 9 s #[Value.ref b] wsL_law RL) (hX : va_X b L xs s s.heap) (hbl : b < s.heap.size) (hxS : xS s) (hxH : xH (fun q => s.heap.size ≤ q) s s.heap) (hKc : va_K D vwCl (cT cy) s) (hKm : va_K D vwCl (mT cy2) s) (hKo : va_K D vwCl (oT co) s) (hL : L ≤ 2049) (t : Nat) (ht : 1 + 4 * t + 3 < L) (σ : CS) (μ : MS) (xo : Nat → Int64) (hR : Rel σ μ) (cells slots : Nat) (hcs : cells + 1 ≤ 655552 ∧ slots + 6 ≤ 7129414) (kk : ∀ (σ3 : CS) (μ3 : MS) (xo3 : Nat → Int64), Rel σ3 μ3 → ∀ (H : Heap) (locs : List Loc), va_P D vwCl ((cWs ad cy σ3 ++ oW ao co xo3) ++ mWs ad2 cy2 μ3) H → va_D (fun q => s.heap.size ≤ q) ((cWs ad cy σ3 ++ oW ao co xo3) ++ mWs ad2 cy2 μ3) → va_S (fun q => s.heap.size ≤ q) s.heap H locs → ∀ ls : Array Slot, lv_has ls 9 [(4, .int (nI (1 + 4 * t))), (0, .ref b), (1, .ref (ad 0)), (2, .ref (ad2 0)), (3, .ref ao)] → W p l e room_1 s m #[Value.ref b] below meth c H locs (cells + 1) (slots + 6) Q (F0 m 821 ls [])) : ∀ (H : Heap) (locs : List Loc), va_P D vwCl ((cWs ad cy σ ++ oW ao co xo) ++ mWs ad2 cy2 μ) H → va_D (fun q => s.heap.size ≤ q) ((cWs ad cy σ ++ oW ao co xo) ++ mWs ad2 cy2 μ) → va_S (fun q => s.heap.size ≤ q) s.heap H locs → ∀ ls : Array Slot, lv_has ls 9 [(4, .int (nI (1 + 4 * t))), (0, .ref b), (1, .ref (ad 0)), (2, .ref (ad2 0)), (3, .ref ao)] → W p l e room_1 s m #[Value.ref b] below meth c H locs (cells) (slots) Q (F0 m 531 ls []) := by
  intro H locs hP hD hS ls hl
  obtain ⟨hx, hb, hml, hown, hts⟩ := id F
  have hbA : ¬ (fun q => s.heap.size ≤ q) b := Nat.not_le.mpr hbl
  obtain ⟨σ2, μ2, xo2, k, bb, hR2, hMc, hMm, hth, hout⟩ := op_failAt l hlt D ad cy ao co ad2 cy2 σ μ xo (xs (1 + 4 * t + 1)) (xs (1 + 4 * t + 2)) (xs (1 + 4 * t + 3)) hR
  refine lv_aload_n hx hb dL_law_531 rfl (lv_at hl 2 rfl) ?_
  refine lv_aload_n hx hb dL_law_532 rfl (lv_at hl 1 rfl) ?_
  refine lv_iload hx hb dL_law_533 (lv_at hl 0 rfl) ?_
  refine lv_iconst (v := nI 1) hx hb dL_law_535 (by decide) ?_
  refine lv_iadd hx hb dL_law_536 ?_
  refine z_topi (y := nI (1 + 4 * t + 1)) (nI_add _ 1) ?_
  refine ax_sld hx hb hX hbl hbA hS (by omega) (by omega) dL_law_537 ?_
  refine lv_aload_n hx hb dL_law_538 rfl (lv_at hl 1 rfl) ?_
  refine lv_iload hx hb dL_law_539 (lv_at hl 0 rfl) ?_
  refine lv_iconst (v := nI 2) hx hb dL_law_541 (by decide) ?_
  refine lv_iadd hx hb dL_law_542 ?_
  refine z_topi (y := nI (1 + 4 * t + 2)) (nI_add _ 2) ?_
  refine ax_sld hx hb hX hbl hbA hS (by omega) (by omega) dL_law_543 ?_
  refine lv_aload_n hx hb dL_law_544 rfl (lv_at hl 4 rfl) ?_
  refine zlH_i (As := [.ref (ad 0), .int (xs (1 + 4 * t + 1)), .int (xs (1 + 4 * t + 2)), .ref ao]) (rest := []) F (hMc _) (vx_cwSW 4 hts gL_law_L_failAt rfl rfl rfl (by decide +kernel) ⟨Nat.le_of_ble_eq_true rfl, Nat.le_of_ble_eq_true rfl⟩) (hKc.app hKo) hxS hxH hP hD hS (fun _ h => h) rfl hl.1 rfl (Nat.le_of_ble_eq_true rfl) dL_law_545 ⟨by show _ ≤ 655552; omega, by show _ ≤ 7129414; omega⟩ (fun H locs hP hD hS => ?_)
  refine lv_istore (lv' := [(5, .int k), (4, .int (nI (1 + 4 * t))), (0, .ref b), (1, .ref (ad 0)), (2, .ref (ad2 0)), (3, .ref ao)]) hx hb dL_law_548 hl (by decide) rfl (fun ls hl => ?_)
  refine lv_aload_n hx hb dL_law_550 rfl (lv_at hl 4 rfl) ?_
  refine lv_aload_n hx hb dL_law_551 rfl (lv_at hl 2 rfl) ?_
  refine lv_iload hx hb dL_law_552 (lv_at hl 1 rfl) ?_
  refine lv_iconst (v := nI 1) hx hb dL_law_554 (by decide) ?_
  refine lv_iadd hx hb dL_law_555 ?_
  refine z_topi (y := nI (1 + 4 * t + 1)) (nI_add _ 1) ?_
  refine ax_sld hx hb hX hbl hbA hS (by omega) (by omega) dL_law_556 ?_
  refine lv_aload_n hx hb dL_law_557 rfl (lv_at hl 2 rfl) ?_
  refine lv_iload hx hb dL_law_558 (lv_at hl 1 rfl) ?_
  refine lv_iconst (v := nI 2) hx hb dL_law_560 (by decide) ?_
  refine lv_iadd hx hb dL_law_561 ?_
  refine z_topi (y := nI (1 + 4 * t + 2)) (nI_add _ 2) ?_
  refine ax_sld hx hb hX hbl hbA hS (by omega) (by omega) dL_law_562 ?_
  refine zrV_i (As := [.int (xs (1 + 4 * t + 1)), .int (xs (1 + 4 * t + 2))]) (rest := []) F (hMm _) (cwV 2 hts gL_law_X3_failAt rfl rfl rfl (by decide +kernel) ⟨Nat.le_of_ble_eq_true rfl, Nat.le_of_ble_eq_true rfl⟩) (va_recv hKm (zP_r hP) (ci := 3) (q0 := 0) rfl rfl) hKm hP hD hS (fun _ h => h) rfl hl.1 rfl (Nat.le_of_ble_eq_true rfl) dL_law_563 ⟨by show _ ≤ 655552; omega, by show _ ≤ 7129414; omega⟩ (fun H locs hP hD hS => ?_)
  refine lv_istore (lv' := [(6, .int bb), (5, .int k), (4, .int (nI (1 + 4 * t))), (0, .ref b), (1, .ref (ad 0)), (2, .ref (ad2 0)), (3, .ref ao)]) hx hb dL_law_566 hl (by decide) rfl (fun ls hl => ?_)
  refine lv_aload_n hx hb dL_law_568 rfl (lv_at hl 5 rfl) ?_
  refine zrV_i (As := []) (rest := []) F (kX3_thrown l D ad2 cy2 _ μ2.1 μ2.2.1 μ2.2.2.1 μ2.2.2.2.1 μ2.2.2.2.2.1 μ2.2.2.2.2.2.1 μ2.2.2.2.2.2.2.1 μ2.2.2.2.2.2.2.2.1 μ2.2.2.2.2.2.2.2.2.1 μ2.2.2.2.2.2.2.2.2.2.1 μ2.2.2.2.2.2.2.2.2.2.2.1 μ2.2.2.2.2.2.2.2.2.2.2.2.1 μ2.2.2.2.2.2.2.2.2.2.2.2.2.1 μ2.2.2.2.2.2.2.2.2.2.2.2.2.2) (cwV 0 hts gL_law_X3_thrown rfl rfl rfl (by decide +kernel) ⟨Nat.le_of_ble_eq_true rfl, Nat.le_of_ble_eq_true rfl⟩) (va_recv hKm (zP_r hP) (ci := 3) (q0 := 0) rfl rfl) hKm hP hD hS (fun _ h => h) rfl hl.1 rfl (Nat.le_of_ble_eq_true rfl) dL_law_569 ⟨by show _ ≤ 655552; omega, by show _ ≤ 7129414; omega⟩ (fun H locs hP hD hS => ?_)
  refine z_topi (y := k) hth ?_
  refine lv_iload hx hb dL_law_572 (lv_at hl 1 rfl) ?_
  refine lv_icmp_eq (tgt := 579) hx hb dL_law_574 (by decide) (fun c574 => ?_) (fun c574 => ?_)
  · refine lv_iload hx hb dL_law_579 (lv_at hl 1 rfl) ?_
    refine lv_if_ne (tgt := 603) hx hb dL_law_581 (by decide) (fun c581 => ?_) (fun c581 => ?_)
    · refine lv_goto (tgt := 821) hx hb dL_law_603 (by decide) ?_
      exact kk _ _ _ hR2 H locs hP hD hS ls (lv_sub hl [2, 3, 4, 5, 6] rfl)
    · refine lv_aload_n hx hb dL_law_584 rfl (lv_at hl 6 rfl) ?_
      refine lv_iconst (v := nI 0) hx hb dL_law_585 (by decide) ?_
      refine ax_lld hx hb hKo hP 11 0 rfl rfl (by omega) (by omega) dL_law_586 ?_
      refine lv_iload hx hb dL_law_587 (lv_at hl 0 rfl) ?_
      refine lv_if_eq (tgt := 596) hx hb dL_law_589 (by decide) (fun c589 => ?_) (fun c589 => ?_)
      · refine lv_lconst (v := 0) hx hb dL_law_596 (by decide) ?_
        refine W.lcmp hx hb dL_law_597 ?_
        refine lv_if_eq (tgt := 603) hx hb dL_law_598 (by decide) (fun c598 => ?_) (fun c598 => ?_)
        · refine lv_goto (tgt := 821) hx hb dL_law_603 (by decide) ?_
          exact kk _ _ _ hR2 H locs hP hD hS ls (lv_sub hl [2, 3, 4, 5, 6] rfl)
        · exact absurd (lgc0.mpr ((hout c581).trans (by first | rw [if_pos c589] | rw [if_neg c589]))) c598
      · refine lv_lconst (v := 1) hx hb dL_law_592 (by decide) ?_
        refine lv_goto (tgt := 597) hx hb dL_law_593 (by decide) ?_
        refine W.lcmp hx hb dL_law_597 ?_
        refine lv_if_eq (tgt := 603) hx hb dL_law_598 (by decide) (fun c598 => ?_) (fun c598 => ?_)
        · refine lv_goto (tgt := 821) hx hb dL_law_603 (by decide) ?_
          exact kk _ _ _ hR2 H locs hP hD hS ls (lv_sub hl [2, 3, 4, 5, 6] rfl)
        · exact absurd (lgc0.mpr ((hout c581).trans (by first | rw [if_pos c589] | rw [if_neg c589]))) c598
  · exact absurd rfl c574

set_option maxHeartbeats 1000000 in
set_option maxRecDepth 100000 in
theorem lc_times {p : Program} {l : Launch} {e : Env} {s : State} {m : MethodId} {below : List Frame} {meth : Method} {c : Code} {Q : State → Prop} {D : va_G} {ad : Nat → Nat} {cy : Nat → ClassId} {ao : Nat} {co : ClassId} {ad2 : Nat → Nat} {cy2 : Nat → ClassId} {b L : Nat} {xs : Nat → Int32} (hlt : l.stackTraces = false) (F : CallFix p m c cL_law 9 s #[Value.ref b] wsL_law RL) (hX : va_X b L xs s s.heap) (hbl : b < s.heap.size) (hxS : xS s) (hxH : xH (fun q => s.heap.size ≤ q) s s.heap) (hKc : va_K D vwCl (cT cy) s) (hKm : va_K D vwCl (mT cy2) s) (hKo : va_K D vwCl (oT co) s) (hL : L ≤ 2049) (t : Nat) (ht : 1 + 4 * t + 3 < L) (σ : CS) (μ : MS) (xo : Nat → Int64) (hR : Rel σ μ) (cells slots : Nat) (hcs : cells + 1 ≤ 655552 ∧ slots + 6 ≤ 7129414) (kk : ∀ (σ3 : CS) (μ3 : MS) (xo3 : Nat → Int64), Rel σ3 μ3 → ∀ (H : Heap) (locs : List Loc), va_P D vwCl ((cWs ad cy σ3 ++ oW ao co xo3) ++ mWs ad2 cy2 μ3) H → va_D (fun q => s.heap.size ≤ q) ((cWs ad cy σ3 ++ oW ao co xo3) ++ mWs ad2 cy2 μ3) → va_S (fun q => s.heap.size ≤ q) s.heap H locs → ∀ ls : Array Slot, lv_has ls 9 [(4, .int (nI (1 + 4 * t))), (0, .ref b), (1, .ref (ad 0)), (2, .ref (ad2 0)), (3, .ref ao)] → W p l e room_1 s m #[Value.ref b] below meth c H locs (cells + 1) (slots + 6) Q (F0 m 821 ls [])) : ∀ (H : Heap) (locs : List Loc), va_P D vwCl ((cWs ad cy σ ++ oW ao co xo) ++ mWs ad2 cy2 μ) H → va_D (fun q => s.heap.size ≤ q) ((cWs ad cy σ ++ oW ao co xo) ++ mWs ad2 cy2 μ) → va_S (fun q => s.heap.size ≤ q) s.heap H locs → ∀ ls : Array Slot, lv_has ls 9 [(4, .int (nI (1 + 4 * t))), (0, .ref b), (1, .ref (ad 0)), (2, .ref (ad2 0)), (3, .ref ao)] → W p l e room_1 s m #[Value.ref b] below meth c H locs (cells) (slots) Q (F0 m 606 ls []) := by
  intro H locs hP hD hS ls hl
  obtain ⟨hx, hb, hml, hown, hts⟩ := id F
  have hbA : ¬ (fun q => s.heap.size ≤ q) b := Nat.not_le.mpr hbl
  obtain ⟨σ2, μ2, xo2, k, bb, hR2, hMc, hMm, hth, hout⟩ := op_times l hlt D ad cy ao co ad2 cy2 σ μ xo (xs (1 + 4 * t + 1)) (xs (1 + 4 * t + 2)) (xs (1 + 4 * t + 3)) hR
  refine lv_aload_n hx hb dL_law_606 rfl (lv_at hl 2 rfl) ?_
  refine lv_aload_n hx hb dL_law_607 rfl (lv_at hl 1 rfl) ?_
  refine lv_iload hx hb dL_law_608 (lv_at hl 0 rfl) ?_
  refine lv_iconst (v := nI 1) hx hb dL_law_610 (by decide) ?_
  refine lv_iadd hx hb dL_law_611 ?_
  refine z_topi (y := nI (1 + 4 * t + 1)) (nI_add _ 1) ?_
  refine ax_sld hx hb hX hbl hbA hS (by omega) (by omega) dL_law_612 ?_
  refine lv_aload_n hx hb dL_law_613 rfl (lv_at hl 4 rfl) ?_
  refine zlH_i (As := [.ref (ad 0), .int (xs (1 + 4 * t + 1)), .ref ao]) (rest := []) F (hMc _) (vx_cwSW 3 hts gL_law_L_times rfl rfl rfl (by decide +kernel) ⟨Nat.le_of_ble_eq_true rfl, Nat.le_of_ble_eq_true rfl⟩) (hKc.app hKo) hxS hxH hP hD hS (fun _ h => h) rfl hl.1 rfl (Nat.le_of_ble_eq_true rfl) dL_law_614 ⟨by show _ ≤ 655552; omega, by show _ ≤ 7129414; omega⟩ (fun H locs hP hD hS => ?_)
  refine lv_istore (lv' := [(5, .int k), (4, .int (nI (1 + 4 * t))), (0, .ref b), (1, .ref (ad 0)), (2, .ref (ad2 0)), (3, .ref ao)]) hx hb dL_law_617 hl (by decide) rfl (fun ls hl => ?_)
  refine lv_aload_n hx hb dL_law_619 rfl (lv_at hl 4 rfl) ?_
  refine lv_aload_n hx hb dL_law_620 rfl (lv_at hl 2 rfl) ?_
  refine lv_iload hx hb dL_law_621 (lv_at hl 1 rfl) ?_
  refine lv_iconst (v := nI 1) hx hb dL_law_623 (by decide) ?_
  refine lv_iadd hx hb dL_law_624 ?_
  refine z_topi (y := nI (1 + 4 * t + 1)) (nI_add _ 1) ?_
  refine ax_sld hx hb hX hbl hbA hS (by omega) (by omega) dL_law_625 ?_
  refine zrV_i (As := [.int (xs (1 + 4 * t + 1))]) (rest := []) F (hMm _) (cwV 1 hts gL_law_X3_times rfl rfl rfl (by decide +kernel) ⟨Nat.le_of_ble_eq_true rfl, Nat.le_of_ble_eq_true rfl⟩) (va_recv hKm (zP_r hP) (ci := 3) (q0 := 0) rfl rfl) hKm hP hD hS (fun _ h => h) rfl hl.1 rfl (Nat.le_of_ble_eq_true rfl) dL_law_626 ⟨by show _ ≤ 655552; omega, by show _ ≤ 7129414; omega⟩ (fun H locs hP hD hS => ?_)
  refine lv_istore (lv' := [(6, .int bb), (5, .int k), (4, .int (nI (1 + 4 * t))), (0, .ref b), (1, .ref (ad 0)), (2, .ref (ad2 0)), (3, .ref ao)]) hx hb dL_law_629 hl (by decide) rfl (fun ls hl => ?_)
  refine lv_aload_n hx hb dL_law_631 rfl (lv_at hl 5 rfl) ?_
  refine zrV_i (As := []) (rest := []) F (kX3_thrown l D ad2 cy2 _ μ2.1 μ2.2.1 μ2.2.2.1 μ2.2.2.2.1 μ2.2.2.2.2.1 μ2.2.2.2.2.2.1 μ2.2.2.2.2.2.2.1 μ2.2.2.2.2.2.2.2.1 μ2.2.2.2.2.2.2.2.2.1 μ2.2.2.2.2.2.2.2.2.2.1 μ2.2.2.2.2.2.2.2.2.2.2.1 μ2.2.2.2.2.2.2.2.2.2.2.2.1 μ2.2.2.2.2.2.2.2.2.2.2.2.2.1 μ2.2.2.2.2.2.2.2.2.2.2.2.2.2) (cwV 0 hts gL_law_X3_thrown rfl rfl rfl (by decide +kernel) ⟨Nat.le_of_ble_eq_true rfl, Nat.le_of_ble_eq_true rfl⟩) (va_recv hKm (zP_r hP) (ci := 3) (q0 := 0) rfl rfl) hKm hP hD hS (fun _ h => h) rfl hl.1 rfl (Nat.le_of_ble_eq_true rfl) dL_law_632 ⟨by show _ ≤ 655552; omega, by show _ ≤ 7129414; omega⟩ (fun H locs hP hD hS => ?_)
  refine z_topi (y := k) hth ?_
  refine lv_iload hx hb dL_law_635 (lv_at hl 1 rfl) ?_
  refine lv_icmp_eq (tgt := 642) hx hb dL_law_637 (by decide) (fun c637 => ?_) (fun c637 => ?_)
  · refine lv_iload hx hb dL_law_642 (lv_at hl 1 rfl) ?_
    refine lv_if_ne (tgt := 659) hx hb dL_law_644 (by decide) (fun c644 => ?_) (fun c644 => ?_)
    · refine lv_goto (tgt := 821) hx hb dL_law_659 (by decide) ?_
      exact kk _ _ _ hR2 H locs hP hD hS ls (lv_sub hl [2, 3, 4, 5, 6] rfl)
    · refine lv_aload_n hx hb dL_law_647 rfl (lv_at hl 6 rfl) ?_
      refine lv_iconst (v := nI 0) hx hb dL_law_648 (by decide) ?_
      refine ax_lld hx hb hKo hP 11 0 rfl rfl (by omega) (by omega) dL_law_649 ?_
      refine lv_iload hx hb dL_law_650 (lv_at hl 0 rfl) ?_
      refine lv_i2l (v := bb.toInt64) hx hb dL_law_652 rfl ?_
      refine W.lcmp hx hb dL_law_653 ?_
      refine lv_if_eq (tgt := 659) hx hb dL_law_654 (by decide) (fun c654 => ?_) (fun c654 => ?_)
      · refine lv_goto (tgt := 821) hx hb dL_law_659 (by decide) ?_
        exact kk _ _ _ hR2 H locs hP hD hS ls (lv_sub hl [2, 3, 4, 5, 6] rfl)
      · exact absurd (lgc0.mpr (hout c644)) c654
  · exact absurd rfl c637

set_option maxHeartbeats 1000000 in
set_option maxRecDepth 100000 in
theorem lc_act {p : Program} {l : Launch} {e : Env} {s : State} {m : MethodId} {below : List Frame} {meth : Method} {c : Code} {Q : State → Prop} {D : va_G} {ad : Nat → Nat} {cy : Nat → ClassId} {ao : Nat} {co : ClassId} {ad2 : Nat → Nat} {cy2 : Nat → ClassId} {b L : Nat} {xs : Nat → Int32} (hlt : l.stackTraces = false) (F : CallFix p m c cL_law 9 s #[Value.ref b] wsL_law RL) (hX : va_X b L xs s s.heap) (hbl : b < s.heap.size) (hxS : xS s) (hxH : xH (fun q => s.heap.size ≤ q) s s.heap) (hKc : va_K D vwCl (cT cy) s) (hKm : va_K D vwCl (mT cy2) s) (hKo : va_K D vwCl (oT co) s) (hL : L ≤ 2049) (t : Nat) (ht : 1 + 4 * t + 3 < L) (σ : CS) (μ : MS) (xo : Nat → Int64) (hR : Rel σ μ) (cells slots : Nat) (hcs : cells + 1 ≤ 655552 ∧ slots + 6 ≤ 7129414) (kk : ∀ (σ3 : CS) (μ3 : MS) (xo3 : Nat → Int64), Rel σ3 μ3 → ∀ (H : Heap) (locs : List Loc), va_P D vwCl ((cWs ad cy σ3 ++ oW ao co xo3) ++ mWs ad2 cy2 μ3) H → va_D (fun q => s.heap.size ≤ q) ((cWs ad cy σ3 ++ oW ao co xo3) ++ mWs ad2 cy2 μ3) → va_S (fun q => s.heap.size ≤ q) s.heap H locs → ∀ ls : Array Slot, lv_has ls 9 [(4, .int (nI (1 + 4 * t))), (0, .ref b), (1, .ref (ad 0)), (2, .ref (ad2 0)), (3, .ref ao)] → W p l e room_1 s m #[Value.ref b] below meth c H locs (cells + 1) (slots + 6) Q (F0 m 821 ls [])) : ∀ (H : Heap) (locs : List Loc), va_P D vwCl ((cWs ad cy σ ++ oW ao co xo) ++ mWs ad2 cy2 μ) H → va_D (fun q => s.heap.size ≤ q) ((cWs ad cy σ ++ oW ao co xo) ++ mWs ad2 cy2 μ) → va_S (fun q => s.heap.size ≤ q) s.heap H locs → ∀ ls : Array Slot, lv_has ls 9 [(4, .int (nI (1 + 4 * t))), (0, .ref b), (1, .ref (ad 0)), (2, .ref (ad2 0)), (3, .ref ao)] → W p l e room_1 s m #[Value.ref b] below meth c H locs (cells) (slots) Q (F0 m 662 ls []) := by
  intro H locs hP hD hS ls hl
  obtain ⟨hx, hb, hml, hown, hts⟩ := id F
  have hbA : ¬ (fun q => s.heap.size ≤ q) b := Nat.not_le.mpr hbl
  obtain ⟨σ2, μ2, xo2, k, bb, hR2, hMc, hMm, hth, hout⟩ := op_act l hlt D ad cy ao co ad2 cy2 σ μ xo (xs (1 + 4 * t + 1)) (xs (1 + 4 * t + 2)) (xs (1 + 4 * t + 3)) hR
  refine lv_aload_n hx hb dL_law_662 rfl (lv_at hl 2 rfl) ?_
  refine lv_aload_n hx hb dL_law_663 rfl (lv_at hl 1 rfl) ?_
  refine lv_iload hx hb dL_law_664 (lv_at hl 0 rfl) ?_
  refine lv_iconst (v := nI 1) hx hb dL_law_666 (by decide) ?_
  refine lv_iadd hx hb dL_law_667 ?_
  refine z_topi (y := nI (1 + 4 * t + 1)) (nI_add _ 1) ?_
  refine ax_sld hx hb hX hbl hbA hS (by omega) (by omega) dL_law_668 ?_
  refine lv_aload_n hx hb dL_law_669 rfl (lv_at hl 4 rfl) ?_
  refine zlH_i (As := [.ref (ad 0), .int (xs (1 + 4 * t + 1)), .ref ao]) (rest := []) F (hMc _) (vx_cwSW 3 hts gL_law_L_act rfl rfl rfl (by decide +kernel) ⟨Nat.le_of_ble_eq_true rfl, Nat.le_of_ble_eq_true rfl⟩) (hKc.app hKo) hxS hxH hP hD hS (fun _ h => h) rfl hl.1 rfl (Nat.le_of_ble_eq_true rfl) dL_law_670 ⟨by show _ ≤ 655552; omega, by show _ ≤ 7129414; omega⟩ (fun H locs hP hD hS => ?_)
  refine lv_istore (lv' := [(5, .int k), (4, .int (nI (1 + 4 * t))), (0, .ref b), (1, .ref (ad 0)), (2, .ref (ad2 0)), (3, .ref ao)]) hx hb dL_law_673 hl (by decide) rfl (fun ls hl => ?_)
  refine lv_aload_n hx hb dL_law_675 rfl (lv_at hl 4 rfl) ?_
  refine lv_aload_n hx hb dL_law_676 rfl (lv_at hl 2 rfl) ?_
  refine lv_iload hx hb dL_law_677 (lv_at hl 1 rfl) ?_
  refine lv_iconst (v := nI 1) hx hb dL_law_679 (by decide) ?_
  refine lv_iadd hx hb dL_law_680 ?_
  refine z_topi (y := nI (1 + 4 * t + 1)) (nI_add _ 1) ?_
  refine ax_sld hx hb hX hbl hbA hS (by omega) (by omega) dL_law_681 ?_
  refine zrV_i (As := [.int (xs (1 + 4 * t + 1))]) (rest := []) F (hMm _) (cwV 1 hts gL_law_X3_act rfl rfl rfl (by decide +kernel) ⟨Nat.le_of_ble_eq_true rfl, Nat.le_of_ble_eq_true rfl⟩) (va_recv hKm (zP_r hP) (ci := 3) (q0 := 0) rfl rfl) hKm hP hD hS (fun _ h => h) rfl hl.1 rfl (Nat.le_of_ble_eq_true rfl) dL_law_682 ⟨by show _ ≤ 655552; omega, by show _ ≤ 7129414; omega⟩ (fun H locs hP hD hS => ?_)
  refine lv_istore (lv' := [(6, .int bb), (5, .int k), (4, .int (nI (1 + 4 * t))), (0, .ref b), (1, .ref (ad 0)), (2, .ref (ad2 0)), (3, .ref ao)]) hx hb dL_law_685 hl (by decide) rfl (fun ls hl => ?_)
  refine lv_aload_n hx hb dL_law_687 rfl (lv_at hl 5 rfl) ?_
  refine zrV_i (As := []) (rest := []) F (kX3_thrown l D ad2 cy2 _ μ2.1 μ2.2.1 μ2.2.2.1 μ2.2.2.2.1 μ2.2.2.2.2.1 μ2.2.2.2.2.2.1 μ2.2.2.2.2.2.2.1 μ2.2.2.2.2.2.2.2.1 μ2.2.2.2.2.2.2.2.2.1 μ2.2.2.2.2.2.2.2.2.2.1 μ2.2.2.2.2.2.2.2.2.2.2.1 μ2.2.2.2.2.2.2.2.2.2.2.2.1 μ2.2.2.2.2.2.2.2.2.2.2.2.2.1 μ2.2.2.2.2.2.2.2.2.2.2.2.2.2) (cwV 0 hts gL_law_X3_thrown rfl rfl rfl (by decide +kernel) ⟨Nat.le_of_ble_eq_true rfl, Nat.le_of_ble_eq_true rfl⟩) (va_recv hKm (zP_r hP) (ci := 3) (q0 := 0) rfl rfl) hKm hP hD hS (fun _ h => h) rfl hl.1 rfl (Nat.le_of_ble_eq_true rfl) dL_law_688 ⟨by show _ ≤ 655552; omega, by show _ ≤ 7129414; omega⟩ (fun H locs hP hD hS => ?_)
  refine z_topi (y := k) hth ?_
  refine lv_iload hx hb dL_law_691 (lv_at hl 1 rfl) ?_
  refine lv_icmp_eq (tgt := 698) hx hb dL_law_693 (by decide) (fun c693 => ?_) (fun c693 => ?_)
  · refine lv_iload hx hb dL_law_698 (lv_at hl 1 rfl) ?_
    refine lv_if_ne (tgt := 715) hx hb dL_law_700 (by decide) (fun c700 => ?_) (fun c700 => ?_)
    · refine lv_goto (tgt := 821) hx hb dL_law_715 (by decide) ?_
      exact kk _ _ _ hR2 H locs hP hD hS ls (lv_sub hl [2, 3, 4, 5, 6] rfl)
    · refine lv_aload_n hx hb dL_law_703 rfl (lv_at hl 6 rfl) ?_
      refine lv_iconst (v := nI 0) hx hb dL_law_704 (by decide) ?_
      refine ax_lld hx hb hKo hP 11 0 rfl rfl (by omega) (by omega) dL_law_705 ?_
      refine lv_iload hx hb dL_law_706 (lv_at hl 0 rfl) ?_
      refine lv_i2l (v := bb.toInt64) hx hb dL_law_708 rfl ?_
      refine W.lcmp hx hb dL_law_709 ?_
      refine lv_if_eq (tgt := 715) hx hb dL_law_710 (by decide) (fun c710 => ?_) (fun c710 => ?_)
      · refine lv_goto (tgt := 821) hx hb dL_law_715 (by decide) ?_
        exact kk _ _ _ hR2 H locs hP hD hS ls (lv_sub hl [2, 3, 4, 5, 6] rfl)
      · exact absurd (lgc0.mpr (hout c700)) c710
  · exact absurd rfl c693

set_option maxHeartbeats 1000000 in
set_option maxRecDepth 100000 in
theorem lc_work {p : Program} {l : Launch} {e : Env} {s : State} {m : MethodId} {below : List Frame} {meth : Method} {c : Code} {Q : State → Prop} {D : va_G} {ad : Nat → Nat} {cy : Nat → ClassId} {ao : Nat} {co : ClassId} {ad2 : Nat → Nat} {cy2 : Nat → ClassId} {b L : Nat} {xs : Nat → Int32} (hlt : l.stackTraces = false) (F : CallFix p m c cL_law 9 s #[Value.ref b] wsL_law RL) (hX : va_X b L xs s s.heap) (hbl : b < s.heap.size) (hxS : xS s) (hxH : xH (fun q => s.heap.size ≤ q) s s.heap) (hKc : va_K D vwCl (cT cy) s) (hKm : va_K D vwCl (mT cy2) s) (hKo : va_K D vwCl (oT co) s) (hL : L ≤ 2049) (t : Nat) (ht : 1 + 4 * t + 3 < L) (σ : CS) (μ : MS) (xo : Nat → Int64) (hR : Rel σ μ) (cells slots : Nat) (hcs : cells + 1 ≤ 655552 ∧ slots + 6 ≤ 7129414) (kk : ∀ (σ3 : CS) (μ3 : MS) (xo3 : Nat → Int64), Rel σ3 μ3 → ∀ (H : Heap) (locs : List Loc), va_P D vwCl ((cWs ad cy σ3 ++ oW ao co xo3) ++ mWs ad2 cy2 μ3) H → va_D (fun q => s.heap.size ≤ q) ((cWs ad cy σ3 ++ oW ao co xo3) ++ mWs ad2 cy2 μ3) → va_S (fun q => s.heap.size ≤ q) s.heap H locs → ∀ ls : Array Slot, lv_has ls 9 [(4, .int (nI (1 + 4 * t))), (0, .ref b), (1, .ref (ad 0)), (2, .ref (ad2 0)), (3, .ref ao)] → W p l e room_1 s m #[Value.ref b] below meth c H locs (cells + 1) (slots + 6) Q (F0 m 821 ls [])) : ∀ (H : Heap) (locs : List Loc), va_P D vwCl ((cWs ad cy σ ++ oW ao co xo) ++ mWs ad2 cy2 μ) H → va_D (fun q => s.heap.size ≤ q) ((cWs ad cy σ ++ oW ao co xo) ++ mWs ad2 cy2 μ) → va_S (fun q => s.heap.size ≤ q) s.heap H locs → ∀ ls : Array Slot, lv_has ls 9 [(4, .int (nI (1 + 4 * t))), (0, .ref b), (1, .ref (ad 0)), (2, .ref (ad2 0)), (3, .ref ao)] → W p l e room_1 s m #[Value.ref b] below meth c H locs (cells) (slots) Q (F0 m 718 ls []) := by
  intro H locs hP hD hS ls hl
  obtain ⟨hx, hb, hml, hown, hts⟩ := id F
  have hbA : ¬ (fun q => s.heap.size ≤ q) b := Nat.not_le.mpr hbl
  obtain ⟨μ2, r, hR2, hMc, hMm⟩ := op_work l D ad cy ad2 cy2 σ μ hR
  refine lv_aload_n hx hb dL_law_718 rfl (lv_at hl 2 rfl) ?_
  rw [List.append_assoc] at hP hD
  refine zlV_l (As := []) (rest := []) F (hMc _) (cwV 0 hts gL_law_X2_work rfl rfl rfl (by decide +kernel) ⟨Nat.le_of_ble_eq_true rfl, Nat.le_of_ble_eq_true rfl⟩) (va_recv hKc (zP_l hP) (ci := 2) (q0 := 0) rfl rfl) hKc hP hD hS (fun _ h => h) rfl hl.1 rfl (Nat.le_of_ble_eq_true rfl) dL_law_719 ⟨by show _ ≤ 655552; omega, by show _ ≤ 7129414; omega⟩ (fun H locs hP hD hS => ?_)
  rw [← List.append_assoc] at hP hD
  refine lv_aload_n hx hb dL_law_722 rfl (lv_at hl 3 rfl) ?_
  refine zrV_l (As := []) (rest := [.long r]) F (hMm _) (cwV 0 hts gL_law_X3_work rfl rfl rfl (by decide +kernel) ⟨Nat.le_of_ble_eq_true rfl, Nat.le_of_ble_eq_true rfl⟩) (va_recv hKm (zP_r hP) (ci := 3) (q0 := 0) rfl rfl) hKm hP hD hS (fun _ h => h) rfl hl.1 rfl (Nat.le_of_ble_eq_true rfl) dL_law_723 ⟨by show _ ≤ 655552; omega, by show _ ≤ 7129414; omega⟩ (fun H locs hP hD hS => ?_)
  refine W.lcmp hx hb dL_law_726 ?_
  refine lv_if_eq (tgt := 821) hx hb dL_law_727 (by decide) (fun c727 => ?_) (fun c727 => ?_)
  · refine W.widen (k := cells + 1) (n := slots + 6) (by omega) (by omega) ?_
    exact kk _ _ _ hR2 H locs hP hD hS ls (lv_sub hl [0, 1, 2, 3, 4] rfl)
  · exact absurd (lgc0.mpr rfl) c727

set_option maxHeartbeats 1000000 in
set_option maxRecDepth 100000 in
theorem lc_stop {p : Program} {l : Launch} {e : Env} {s : State} {m : MethodId} {below : List Frame} {meth : Method} {c : Code} {Q : State → Prop} {D : va_G} {ad : Nat → Nat} {cy : Nat → ClassId} {ao : Nat} {co : ClassId} {ad2 : Nat → Nat} {cy2 : Nat → ClassId} {b L : Nat} {xs : Nat → Int32} (hlt : l.stackTraces = false) (F : CallFix p m c cL_law 9 s #[Value.ref b] wsL_law RL) (hX : va_X b L xs s s.heap) (hbl : b < s.heap.size) (hxS : xS s) (hxH : xH (fun q => s.heap.size ≤ q) s s.heap) (hKc : va_K D vwCl (cT cy) s) (hKm : va_K D vwCl (mT cy2) s) (hKo : va_K D vwCl (oT co) s) (hL : L ≤ 2049) (t : Nat) (ht : 1 + 4 * t + 3 < L) (σ : CS) (μ : MS) (xo : Nat → Int64) (hR : Rel σ μ) (cells slots : Nat) (hcs : cells + 1 ≤ 655552 ∧ slots + 6 ≤ 7129414) (kk : ∀ (σ3 : CS) (μ3 : MS) (xo3 : Nat → Int64), Rel σ3 μ3 → ∀ (H : Heap) (locs : List Loc), va_P D vwCl ((cWs ad cy σ3 ++ oW ao co xo3) ++ mWs ad2 cy2 μ3) H → va_D (fun q => s.heap.size ≤ q) ((cWs ad cy σ3 ++ oW ao co xo3) ++ mWs ad2 cy2 μ3) → va_S (fun q => s.heap.size ≤ q) s.heap H locs → ∀ ls : Array Slot, lv_has ls 9 [(4, .int (nI (1 + 4 * t))), (0, .ref b), (1, .ref (ad 0)), (2, .ref (ad2 0)), (3, .ref ao)] → W p l e room_1 s m #[Value.ref b] below meth c H locs (cells + 1) (slots + 6) Q (F0 m 821 ls [])) : ∀ (H : Heap) (locs : List Loc), va_P D vwCl ((cWs ad cy σ ++ oW ao co xo) ++ mWs ad2 cy2 μ) H → va_D (fun q => s.heap.size ≤ q) ((cWs ad cy σ ++ oW ao co xo) ++ mWs ad2 cy2 μ) → va_S (fun q => s.heap.size ≤ q) s.heap H locs → ∀ ls : Array Slot, lv_has ls 9 [(4, .int (nI (1 + 4 * t))), (0, .ref b), (1, .ref (ad 0)), (2, .ref (ad2 0)), (3, .ref ao)] → W p l e room_1 s m #[Value.ref b] below meth c H locs (cells) (slots) Q (F0 m 732 ls []) := by
  intro H locs hP hD hS ls hl
  obtain ⟨hx, hb, hml, hown, hts⟩ := id F
  have hbA : ¬ (fun q => s.heap.size ≤ q) b := Nat.not_le.mpr hbl
  obtain ⟨σ2, μ2, xo2, k, bb, hR2, hMc, hMm, hth, hout⟩ := op_stop l hlt D ad cy ao co ad2 cy2 σ μ xo (xs (1 + 4 * t + 1)) (xs (1 + 4 * t + 2)) (xs (1 + 4 * t + 3)) hR
  refine lv_aload_n hx hb dL_law_732 rfl (lv_at hl 2 rfl) ?_
  refine lv_aload_n hx hb dL_law_733 rfl (lv_at hl 1 rfl) ?_
  refine lv_iload hx hb dL_law_734 (lv_at hl 0 rfl) ?_
  refine lv_iconst (v := nI 1) hx hb dL_law_736 (by decide) ?_
  refine lv_iadd hx hb dL_law_737 ?_
  refine z_topi (y := nI (1 + 4 * t + 1)) (nI_add _ 1) ?_
  refine ax_sld hx hb hX hbl hbA hS (by omega) (by omega) dL_law_738 ?_
  refine lv_aload_n hx hb dL_law_739 rfl (lv_at hl 4 rfl) ?_
  refine zlH_i (As := [.ref (ad 0), .int (xs (1 + 4 * t + 1)), .ref ao]) (rest := []) F (hMc _) (vx_cwSW 3 hts gL_law_L_stop rfl rfl rfl (by decide +kernel) ⟨Nat.le_of_ble_eq_true rfl, Nat.le_of_ble_eq_true rfl⟩) (hKc.app hKo) hxS hxH hP hD hS (fun _ h => h) rfl hl.1 rfl (Nat.le_of_ble_eq_true rfl) dL_law_740 ⟨by show _ ≤ 655552; omega, by show _ ≤ 7129414; omega⟩ (fun H locs hP hD hS => ?_)
  refine lv_istore (lv' := [(5, .int k), (4, .int (nI (1 + 4 * t))), (0, .ref b), (1, .ref (ad 0)), (2, .ref (ad2 0)), (3, .ref ao)]) hx hb dL_law_743 hl (by decide) rfl (fun ls hl => ?_)
  refine lv_aload_n hx hb dL_law_745 rfl (lv_at hl 4 rfl) ?_
  refine lv_aload_n hx hb dL_law_746 rfl (lv_at hl 2 rfl) ?_
  refine lv_iload hx hb dL_law_747 (lv_at hl 1 rfl) ?_
  refine lv_iconst (v := nI 1) hx hb dL_law_749 (by decide) ?_
  refine lv_iadd hx hb dL_law_750 ?_
  refine z_topi (y := nI (1 + 4 * t + 1)) (nI_add _ 1) ?_
  refine ax_sld hx hb hX hbl hbA hS (by omega) (by omega) dL_law_751 ?_
  refine zrV_i (As := [.int (xs (1 + 4 * t + 1))]) (rest := []) F (hMm _) (cwV 1 hts gL_law_X3_stop rfl rfl rfl (by decide +kernel) ⟨Nat.le_of_ble_eq_true rfl, Nat.le_of_ble_eq_true rfl⟩) (va_recv hKm (zP_r hP) (ci := 3) (q0 := 0) rfl rfl) hKm hP hD hS (fun _ h => h) rfl hl.1 rfl (Nat.le_of_ble_eq_true rfl) dL_law_752 ⟨by show _ ≤ 655552; omega, by show _ ≤ 7129414; omega⟩ (fun H locs hP hD hS => ?_)
  refine lv_istore (lv' := [(6, .int bb), (5, .int k), (4, .int (nI (1 + 4 * t))), (0, .ref b), (1, .ref (ad 0)), (2, .ref (ad2 0)), (3, .ref ao)]) hx hb dL_law_755 hl (by decide) rfl (fun ls hl => ?_)
  refine lv_aload_n hx hb dL_law_757 rfl (lv_at hl 5 rfl) ?_
  refine zrV_i (As := []) (rest := []) F (kX3_thrown l D ad2 cy2 _ μ2.1 μ2.2.1 μ2.2.2.1 μ2.2.2.2.1 μ2.2.2.2.2.1 μ2.2.2.2.2.2.1 μ2.2.2.2.2.2.2.1 μ2.2.2.2.2.2.2.2.1 μ2.2.2.2.2.2.2.2.2.1 μ2.2.2.2.2.2.2.2.2.2.1 μ2.2.2.2.2.2.2.2.2.2.2.1 μ2.2.2.2.2.2.2.2.2.2.2.2.1 μ2.2.2.2.2.2.2.2.2.2.2.2.2.1 μ2.2.2.2.2.2.2.2.2.2.2.2.2.2) (cwV 0 hts gL_law_X3_thrown rfl rfl rfl (by decide +kernel) ⟨Nat.le_of_ble_eq_true rfl, Nat.le_of_ble_eq_true rfl⟩) (va_recv hKm (zP_r hP) (ci := 3) (q0 := 0) rfl rfl) hKm hP hD hS (fun _ h => h) rfl hl.1 rfl (Nat.le_of_ble_eq_true rfl) dL_law_758 ⟨by show _ ≤ 655552; omega, by show _ ≤ 7129414; omega⟩ (fun H locs hP hD hS => ?_)
  refine z_topi (y := k) hth ?_
  refine lv_iload hx hb dL_law_761 (lv_at hl 1 rfl) ?_
  refine lv_icmp_eq (tgt := 768) hx hb dL_law_763 (by decide) (fun c763 => ?_) (fun c763 => ?_)
  · refine lv_iload hx hb dL_law_768 (lv_at hl 1 rfl) ?_
    refine lv_if_ne (tgt := 792) hx hb dL_law_770 (by decide) (fun c770 => ?_) (fun c770 => ?_)
    · refine lv_goto (tgt := 821) hx hb dL_law_792 (by decide) ?_
      exact kk _ _ _ hR2 H locs hP hD hS ls (lv_sub hl [2, 3, 4, 5, 6] rfl)
    · refine lv_aload_n hx hb dL_law_773 rfl (lv_at hl 6 rfl) ?_
      refine lv_iconst (v := nI 0) hx hb dL_law_774 (by decide) ?_
      refine ax_lld hx hb hKo hP 11 0 rfl rfl (by omega) (by omega) dL_law_775 ?_
      refine lv_iload hx hb dL_law_776 (lv_at hl 0 rfl) ?_
      refine lv_if_eq (tgt := 785) hx hb dL_law_778 (by decide) (fun c778 => ?_) (fun c778 => ?_)
      · refine lv_lconst (v := 0) hx hb dL_law_785 (by decide) ?_
        refine W.lcmp hx hb dL_law_786 ?_
        refine lv_if_eq (tgt := 792) hx hb dL_law_787 (by decide) (fun c787 => ?_) (fun c787 => ?_)
        · refine lv_goto (tgt := 821) hx hb dL_law_792 (by decide) ?_
          exact kk _ _ _ hR2 H locs hP hD hS ls (lv_sub hl [2, 3, 4, 5, 6] rfl)
        · exact absurd (lgc0.mpr ((hout c770).trans (by first | rw [if_pos c778] | rw [if_neg c778]))) c787
      · refine lv_lconst (v := 1) hx hb dL_law_781 (by decide) ?_
        refine lv_goto (tgt := 786) hx hb dL_law_782 (by decide) ?_
        refine W.lcmp hx hb dL_law_786 ?_
        refine lv_if_eq (tgt := 792) hx hb dL_law_787 (by decide) (fun c787 => ?_) (fun c787 => ?_)
        · refine lv_goto (tgt := 821) hx hb dL_law_792 (by decide) ?_
          exact kk _ _ _ hR2 H locs hP hD hS ls (lv_sub hl [2, 3, 4, 5, 6] rfl)
        · exact absurd (lgc0.mpr ((hout c770).trans (by first | rw [if_pos c778] | rw [if_neg c778]))) c787
  · exact absurd rfl c763

set_option maxHeartbeats 1000000 in
set_option maxRecDepth 100000 in
theorem lc_broken {p : Program} {l : Launch} {e : Env} {s : State} {m : MethodId} {below : List Frame} {meth : Method} {c : Code} {Q : State → Prop} {D : va_G} {ad : Nat → Nat} {cy : Nat → ClassId} {ao : Nat} {co : ClassId} {ad2 : Nat → Nat} {cy2 : Nat → ClassId} {b L : Nat} {xs : Nat → Int32} (hlt : l.stackTraces = false) (F : CallFix p m c cL_law 9 s #[Value.ref b] wsL_law RL) (hX : va_X b L xs s s.heap) (hbl : b < s.heap.size) (hxS : xS s) (hxH : xH (fun q => s.heap.size ≤ q) s s.heap) (hKc : va_K D vwCl (cT cy) s) (hKm : va_K D vwCl (mT cy2) s) (hKo : va_K D vwCl (oT co) s) (hL : L ≤ 2049) (t : Nat) (ht : 1 + 4 * t + 3 < L) (σ : CS) (μ : MS) (xo : Nat → Int64) (hR : Rel σ μ) (cells slots : Nat) (hcs : cells + 1 ≤ 655552 ∧ slots + 6 ≤ 7129414) (kk : ∀ (σ3 : CS) (μ3 : MS) (xo3 : Nat → Int64), Rel σ3 μ3 → ∀ (H : Heap) (locs : List Loc), va_P D vwCl ((cWs ad cy σ3 ++ oW ao co xo3) ++ mWs ad2 cy2 μ3) H → va_D (fun q => s.heap.size ≤ q) ((cWs ad cy σ3 ++ oW ao co xo3) ++ mWs ad2 cy2 μ3) → va_S (fun q => s.heap.size ≤ q) s.heap H locs → ∀ ls : Array Slot, lv_has ls 9 [(4, .int (nI (1 + 4 * t))), (0, .ref b), (1, .ref (ad 0)), (2, .ref (ad2 0)), (3, .ref ao)] → W p l e room_1 s m #[Value.ref b] below meth c H locs (cells + 1) (slots + 6) Q (F0 m 821 ls [])) : ∀ (H : Heap) (locs : List Loc), va_P D vwCl ((cWs ad cy σ ++ oW ao co xo) ++ mWs ad2 cy2 μ) H → va_D (fun q => s.heap.size ≤ q) ((cWs ad cy σ ++ oW ao co xo) ++ mWs ad2 cy2 μ) → va_S (fun q => s.heap.size ≤ q) s.heap H locs → ∀ ls : Array Slot, lv_has ls 9 [(4, .int (nI (1 + 4 * t))), (0, .ref b), (1, .ref (ad 0)), (2, .ref (ad2 0)), (3, .ref ao)] → W p l e room_1 s m #[Value.ref b] below meth c H locs (cells) (slots) Q (F0 m 795 ls []) := by
  intro H locs hP hD hS ls hl
  obtain ⟨hx, hb, hml, hown, hts⟩ := id F
  have hbA : ¬ (fun q => s.heap.size ≤ q) b := Nat.not_le.mpr hbl
  obtain ⟨μ2, r, hR2, hMc, hMm⟩ := op_broken l D ad cy ad2 cy2 σ μ hR
  refine lv_aload_n hx hb dL_law_795 rfl (lv_at hl 2 rfl) ?_
  rw [List.append_assoc] at hP hD
  refine zlV_i (As := []) (rest := []) F (hMc _) (cwV 0 hts gL_law_X2_broken rfl rfl rfl (by decide +kernel) ⟨Nat.le_of_ble_eq_true rfl, Nat.le_of_ble_eq_true rfl⟩) (va_recv hKc (zP_l hP) (ci := 2) (q0 := 0) rfl rfl) hKc hP hD hS (fun _ h => h) rfl hl.1 rfl (Nat.le_of_ble_eq_true rfl) dL_law_796 ⟨by show _ ≤ 655552; omega, by show _ ≤ 7129414; omega⟩ (fun H locs hP hD hS => ?_)
  rw [← List.append_assoc] at hP hD
  refine lv_aload_n hx hb dL_law_799 rfl (lv_at hl 3 rfl) ?_
  refine zrV_i (As := []) (rest := [.int r]) F (hMm _) (cwV 0 hts gL_law_X3_broken rfl rfl rfl (by decide +kernel) ⟨Nat.le_of_ble_eq_true rfl, Nat.le_of_ble_eq_true rfl⟩) (va_recv hKm (zP_r hP) (ci := 3) (q0 := 0) rfl rfl) hKm hP hD hS (fun _ h => h) rfl hl.1 rfl (Nat.le_of_ble_eq_true rfl) dL_law_800 ⟨by show _ ≤ 655552; omega, by show _ ≤ 7129414; omega⟩ (fun H locs hP hD hS => ?_)
  refine lv_icmp_eq (tgt := 821) hx hb dL_law_803 (by decide) (fun c803 => ?_) (fun c803 => ?_)
  · refine W.widen (k := cells + 1) (n := slots + 6) (by omega) (by omega) ?_
    exact kk _ _ _ hR2 H locs hP hD hS ls (lv_sub hl [0, 1, 2, 3, 4] rfl)
  · exact absurd rfl c803

set_option maxHeartbeats 1000000 in
set_option maxRecDepth 100000 in
theorem lc_live {p : Program} {l : Launch} {e : Env} {s : State} {m : MethodId} {below : List Frame} {meth : Method} {c : Code} {Q : State → Prop} {D : va_G} {ad : Nat → Nat} {cy : Nat → ClassId} {ao : Nat} {co : ClassId} {ad2 : Nat → Nat} {cy2 : Nat → ClassId} {b L : Nat} {xs : Nat → Int32} (hlt : l.stackTraces = false) (F : CallFix p m c cL_law 9 s #[Value.ref b] wsL_law RL) (hX : va_X b L xs s s.heap) (hbl : b < s.heap.size) (hxS : xS s) (hxH : xH (fun q => s.heap.size ≤ q) s s.heap) (hKc : va_K D vwCl (cT cy) s) (hKm : va_K D vwCl (mT cy2) s) (hKo : va_K D vwCl (oT co) s) (hL : L ≤ 2049) (t : Nat) (ht : 1 + 4 * t + 3 < L) (σ : CS) (μ : MS) (xo : Nat → Int64) (hR : Rel σ μ) (cells slots : Nat) (hcs : cells + 1 ≤ 655552 ∧ slots + 6 ≤ 7129414) (kk : ∀ (σ3 : CS) (μ3 : MS) (xo3 : Nat → Int64), Rel σ3 μ3 → ∀ (H : Heap) (locs : List Loc), va_P D vwCl ((cWs ad cy σ3 ++ oW ao co xo3) ++ mWs ad2 cy2 μ3) H → va_D (fun q => s.heap.size ≤ q) ((cWs ad cy σ3 ++ oW ao co xo3) ++ mWs ad2 cy2 μ3) → va_S (fun q => s.heap.size ≤ q) s.heap H locs → ∀ ls : Array Slot, lv_has ls 9 [(4, .int (nI (1 + 4 * t))), (0, .ref b), (1, .ref (ad 0)), (2, .ref (ad2 0)), (3, .ref ao)] → W p l e room_1 s m #[Value.ref b] below meth c H locs (cells + 1) (slots + 6) Q (F0 m 821 ls [])) : ∀ (H : Heap) (locs : List Loc), va_P D vwCl ((cWs ad cy σ ++ oW ao co xo) ++ mWs ad2 cy2 μ) H → va_D (fun q => s.heap.size ≤ q) ((cWs ad cy σ ++ oW ao co xo) ++ mWs ad2 cy2 μ) → va_S (fun q => s.heap.size ≤ q) s.heap H locs → ∀ ls : Array Slot, lv_has ls 9 [(4, .int (nI (1 + 4 * t))), (0, .ref b), (1, .ref (ad 0)), (2, .ref (ad2 0)), (3, .ref ao)] → W p l e room_1 s m #[Value.ref b] below meth c H locs (cells) (slots) Q (F0 m 808 ls []) := by
  intro H locs hP hD hS ls hl
  obtain ⟨hx, hb, hml, hown, hts⟩ := id F
  have hbA : ¬ (fun q => s.heap.size ≤ q) b := Nat.not_le.mpr hbl
  obtain ⟨μ2, r, hR2, hMc, hMm⟩ := op_live l D ad cy ad2 cy2 σ μ hR
  refine lv_aload_n hx hb dL_law_808 rfl (lv_at hl 2 rfl) ?_
  rw [List.append_assoc] at hP hD
  refine zlV_i (As := []) (rest := []) F (hMc _) (cwV 0 hts gL_law_X2_live rfl rfl rfl (by decide +kernel) ⟨Nat.le_of_ble_eq_true rfl, Nat.le_of_ble_eq_true rfl⟩) (va_recv hKc (zP_l hP) (ci := 2) (q0 := 0) rfl rfl) hKc hP hD hS (fun _ h => h) rfl hl.1 rfl (Nat.le_of_ble_eq_true rfl) dL_law_809 ⟨by show _ ≤ 655552; omega, by show _ ≤ 7129414; omega⟩ (fun H locs hP hD hS => ?_)
  rw [← List.append_assoc] at hP hD
  refine lv_aload_n hx hb dL_law_812 rfl (lv_at hl 3 rfl) ?_
  refine zrV_i (As := []) (rest := [.int r]) F (hMm _) (cwV 0 hts gL_law_X3_live rfl rfl rfl (by decide +kernel) ⟨Nat.le_of_ble_eq_true rfl, Nat.le_of_ble_eq_true rfl⟩) (va_recv hKm (zP_r hP) (ci := 3) (q0 := 0) rfl rfl) hKm hP hD hS (fun _ h => h) rfl hl.1 rfl (Nat.le_of_ble_eq_true rfl) dL_law_813 ⟨by show _ ≤ 655552; omega, by show _ ≤ 7129414; omega⟩ (fun H locs hP hD hS => ?_)
  refine lv_icmp_eq (tgt := 821) hx hb dL_law_816 (by decide) (fun c816 => ?_) (fun c816 => ?_)
  · refine W.widen (k := cells + 1) (n := slots + 6) (by omega) (by omega) ?_
    exact kk _ _ _ hR2 H locs hP hD hS ls (lv_sub hl [0, 1, 2, 3, 4] rfl)
  · exact absurd rfl c816
